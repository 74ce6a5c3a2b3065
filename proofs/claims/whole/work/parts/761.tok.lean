/-! texts: the reference's reading -/
theorem r_byte {n : Nat} {B : Nat → Nat} {v fe : Nat → Int32} (hT : Tp n B v fe) {i : Nat} (h : i < n) : f_X11_byteAt (nI n) fe (nI i) = some (nI (B i)) := by
  have hn := hT.1
  rw [f_X11_byteAt, if_pos (nI_lt h (by omega)), pu_ck (by omega) (by omega), nI_clamp (by omega), (hT.2 i h).2.1]
theorem r_byteE {n : Nat} {fe : Nat → Int32} {i : Nat} (h : n ≤ i) (hi : i < 2 ^ 31) : f_X11_byteAt (nI n) fe (nI i) = some (-1) := by
  rw [f_X11_byteAt, if_neg (nI_nlt h (by omega))]
/-- the byte at i, -1 behind the end -/
def byI (n : Nat) (B : Nat → Nat) (i : Nat) : Int32 := if i < n then nI (B i) else -1
theorem r_by {n : Nat} {B : Nat → Nat} {v fe : Nat → Int32} (hT : Tp n B v fe) {i : Nat} (h : i < 2 ^ 31) : f_X11_byteAt (nI n) fe (nI i) = some (byI n B i) := by
  rw [byI]
  by_cases e : i < n
  · rw [if_pos e, r_byte hT e]
  · rw [if_neg e, r_byteE (by omega) h]
theorem byI_eq {n : Nat} {B : Nat → Nat} {v fe : Nat → Int32} (hT : Tp n B v fe) {i c : Nat} (hc : c < 256) : byI n B i = nI c ↔ i < n ∧ B i = c := by
  rw [byI]
  by_cases e : i < n
  · have := (hT.2 i e).1
    rw [if_pos e, nI_eq (by omega) (by omega)]
    exact ⟨fun h => ⟨e, h⟩, fun h => h.2⟩
  · rw [if_neg e]
    constructor
    · intro h
      have h2 : nI c < 0 := by
        rw [← h]
        decide
      exact absurd h2 (nI_pos (by omega))
    · intro h
      exact absurd h.1 e
theorem r_blk {n : Nat} {B : Nat → Nat} {v fe : Nat → Int32} (hT : Tp n B v fe) : ∀ (m i q : Nat), i + m = n → m < q → f_X11_blanks_b0 (nI n) fe q (nI i) = some (nI (txR (pB B) m i)) := by
  have hn := hT.1
  intro m
  induction m with
  | zero =>
    intro i q hi hq
    obtain ⟨q, rfl⟩ : ∃ r, q = r + 1 := ⟨q - 1, by omega⟩
    rw [f_X11_blanks_b0, r_byteE (by omega) (by omega), Option.bind_some, if_neg (by decide), txR]
  | succ m ih =>
    intro i q hi hq
    obtain ⟨q, rfl⟩ : ∃ r, q = r + 1 := ⟨q - 1, by omega⟩
    obtain ⟨b1, b2, b3⟩ := hT.2 i (by omega)
    rw [f_X11_blanks_b0, r_byte hT (by omega), Option.bind_some, txR, pl32]
    by_cases e : B i = 32
    · rw [e, if_pos rfl, if_pos (show pB B i = true by rw [pB]; exact decide_eq_true e), nI_1]
      exact ih (i + 1) q (by omega) (by omega)
    · rw [if_neg (by rw [nI_eq (by omega) (by omega)]; exact e), if_neg (by rw [pB]; exact fun h => e (of_decide_eq_true h))]
theorem r_blanks {n : Nat} {B : Nat → Nat} {v fe : Nat → Int32} (hT : Tp n B v fe) {i : Nat} (hi : i ≤ n) : f_X11_blanks (nI n) (nI i) fe = some (nI (tF n B i)) := by
  have hn := hT.1
  rw [f_X11_blanks, r_blk hT (n - i) i 4000 (by omega) (by omega)]
  rfl
theorem r_dig {b : Nat} (hb : b < 256) : f_X11_isDigit (nI b) = some (if 48 ≤ b ∧ b ≤ 57 then 1 else 0) := by
  rw [f_X11_isDigit, pl48, pl57]
  by_cases e : b < 48
  · rw [if_pos (nI_lt e (by omega)), if_neg (by omega)]
  · rw [if_neg (nI_nlt (by omega) (by omega))]
    by_cases e2 : 57 < b
    · rw [if_pos (nI_lt e2 (by omega)), if_neg (by omega)]
    · rw [if_neg (nI_nlt (by omega) (by omega)), if_pos (by omega)]
theorem r_dig1 : f_X11_isDigit (-1) = some 0 := by decide
theorem r_sml {b : Nat} (hb : b < 256) : f_X11_isSmall (nI b) = some (if 97 ≤ b ∧ b ≤ 122 then 1 else 0) := by
  rw [f_X11_isSmall, pl97, pl122]
  by_cases e : b < 97
  · rw [if_pos (nI_lt e (by omega)), if_neg (by omega)]
  · rw [if_neg (nI_nlt (by omega) (by omega))]
    by_cases e2 : 122 < b
    · rw [if_pos (nI_lt e2 (by omega)), if_neg (by omega)]
    · rw [if_neg (nI_nlt (by omega) (by omega)), if_pos (by omega)]
theorem r_sml1 : f_X11_isSmall (-1) = some 0 := by decide
/-- the end of number's loop -/
def nmE (n : Nat) (fe : Nat → Int32) (i : Nat) (fa fl lo hi bg : Int32) (a : Nat) : Option (Int32 × Int32 × Int32 × Int32) := (f_X11_in (nI a) lo hi).bind fun q110 => if q110 = 0 then ((f_X11_wrong fa fl (2) bg).bind fun q119 => f_X11_number_b122 (nI n) fe (nI i) q119.1 q119.2 (nI a)) else (f_X11_number_b122 (nI n) fe (nI i) fa fl (nI a))
theorem r_num_b {n : Nat} {B : Nat → Nat} {v fe : Nat → Int32} (hT : Tp n B v fe) (fa fl lo hi bg : Int32) : ∀ (m i q a : Nat), i + m = n → m < q → a ≤ 100000 → f_X11_number_b44 (nI n) fe q (nI i) fa fl lo hi bg (nI a) = nmE n fe (txR (pD B) m i) fa fl lo hi bg (txU B (txR (pD B) m i - i) i a) := by
  have hn := hT.1
  intro m
  induction m with
  | zero =>
    intro i q a hi hq ha
    obtain ⟨q, rfl⟩ : ∃ r, q = r + 1 := ⟨q - 1, by omega⟩
    rw [f_X11_number_b44, r_byteE (by omega) (by omega), Option.bind_some, r_dig1, Option.bind_some, if_pos rfl, txR, Nat.sub_self, txU, nmE]
  | succ m ih =>
    intro i q a hi hq ha
    obtain ⟨q, rfl⟩ : ∃ r, q = r + 1 := ⟨q - 1, by omega⟩
    obtain ⟨b1, b2, b3⟩ := hT.2 i (by omega)
    rw [f_X11_number_b44, r_byte hT (by omega), Option.bind_some, r_dig b1, Option.bind_some, txR]
    by_cases e : 48 ≤ B i ∧ B i ≤ 57
    · rw [if_pos e, if_neg (by decide), Option.bind_some, if_pos (show pD B i = true by rw [pD]; exact decide_eq_true e)]
      have hg := txR_ge (pD B) m (i + 1)
      rw [show txR (pD B) m (i + 1) - i = (txR (pD B) m (i + 1) - (i + 1)) + 1 by omega, txU, pl10, pk_mul, nI_add, pl48, pk_sub (by omega), pl100000, show 10 * a + B i - 48 = 10 * a + (B i - 48) by omega]
      by_cases e3 : 10 * a + (B i - 48) ≤ 100000
      · rw [if_pos (nI_le e3 (by omega)), if_pos e3, f_X11_number_b91, nI_1]
        exact ih (i + 1) q _ (by omega) (by omega) e3
      · rw [if_neg (nI_ge (by omega) (by omega)), if_neg e3, f_X11_number_b91, nI_1]
        exact ih (i + 1) q _ (by omega) (by omega) (by omega)
    · rw [if_neg e, if_pos rfl, if_neg (show ¬ pD B i = true by rw [pD]; exact fun h => e (of_decide_eq_true h)), Nat.sub_self, txU, nmE]
/-- both values agree where it counts -/
theorem txVU (B : Nat → Nat) : ∀ m i a b, ((a = b ∧ b ≤ 100000) ∨ (100000 ≤ a ∧ b = 100000)) → ((txV B m i a = txU B m i b ∧ txU B m i b ≤ 100000) ∨ (100000 ≤ txV B m i a ∧ txU B m i b = 100000)) := by
  intro m
  induction m with
  | zero => exact fun i a b h => h
  | succ m ih =>
    intro i a b h
    rw [txV, txU]
    apply ih
    rcases h with ⟨rfl, h⟩ | ⟨h, rfl⟩
    · rw [if_pos (by omega)]
      by_cases e : 10 * a + (B i - 48) ≤ 100000
      · rw [if_pos e]
        exact .inl ⟨rfl, e⟩
      · rw [if_neg e]
        exact .inr ⟨by omega, rfl⟩
    · refine .inr ⟨?_, ?_⟩
      · by_cases e : a < 1000000
        · rw [if_pos e]
          omega
        · rw [if_neg e]
          omega
      · by_cases e : 10 * 100000 + (B i - 48) ≤ 100000
        · omega
        · rw [if_neg e]
abbrev TS : Type := Int32 × Int32 × Int32 × Int32 × Int32 × Int32
abbrev TQ : Type := Int32 × Int32 × Int32
/-- the class's tape with the token that begins at f -/
abbrev tk (n : Nat) (B : Nat → Nat) (f : Nat) : TS := (nI (tK n B f), nI f, nI (tT n B f), nI (tV n B f), 0, -1)
/-- no fault yet, the token at f -/
def TR0 (n : Nat) (B : Nat → Nat) (f : Nat) (s : TS) (r : TQ) : Prop := f ≤ n ∧ s = tk n B f ∧ ∃ a, a ≤ n ∧ tF n B a = f ∧ r = (nI a, 0, -1)
/-- a fault -/
def TRf (n : Nat) (s : TS) (r : TQ) : Prop := ∃ f t x y pl a, y ≠ (0 : Int32) ∧ a ≤ n ∧ s = (4, f, t, x, y, pl) ∧ r = (nI a, y, pl)
theorem TR0.go {n : Nat} {B : Nat → Nat} {a : Nat} (h : a ≤ n) : TR0 n B (tF n B a) (tk n B (tF n B a)) (nI a, 0, -1) := ⟨tF_le B h, rfl, a, h, rfl, rfl⟩
theorem TR0.nb {n : Nat} {B : Nat → Nat} {f : Nat} {s : TS} {r : TQ} (h : TR0 n B f s r) : f < n → B f ≠ 32 := by
  obtain ⟨h1, h2, a, h3, h4, h5⟩ := h
  intro h6
  rw [← h4] at h6 ⊢
  exact tF_end B h3 h6
theorem TR0.self {n : Nat} {B : Nat → Nat} {f : Nat} {s : TS} {r : TQ} (h : TR0 n B f s r) : tF n B f = f := tF_self h.nb
theorem TR0.at {n : Nat} {B : Nat → Nat} {f : Nat} {s : TS} {r : TQ} (h : TR0 n B f s r) : TR0 n B f s (nI f, 0, -1) := ⟨h.1, h.2.1, f, h.1, h.self, rfl⟩
theorem t_num {n : Nat} {B : Nat → Nat} {v fe : Nat → Int32} (hT : Tp n B v fe) {f : Nat} {s : TS} {r : TQ} (h : TR0 n B f s r) {lo : Nat} {hi : Int32} (hl : lo < 100000) (hh : hi < nI 100000) :
    ∃ c s' b r', f_X7_takeNumber (nI n) s.1 s.2.1 s.2.2.1 s.2.2.2.1 s.2.2.2.2.1 s.2.2.2.2.2 v (nI lo) hi = some (c, s') ∧ f_X11_number (nI n) r.1 r.2.1 r.2.2 fe (nI lo) hi = some (b, r') ∧ ((∃ x f', c = nI x ∧ b = nI x ∧ lo ≤ x ∧ nI x ≤ hi ∧ x < 100000 ∧ f < f' ∧ f < n ∧ x = tV n B f ∧ tK n B f = 1 ∧ TR0 n B f' s' r') ∨ (c = nI lo ∧ b = 0 ∧ TRf n s' r' ∧ ¬ (tK n B f = 1 ∧ lo ≤ tV n B f ∧ nI (tV n B f) ≤ hi))) := by
  have hn := hT.1
  obtain ⟨hf, rfl, a, ha, hfa, rfl⟩ := h
  have hr : f_X11_blanks (nI n) (nI a) fe = some (nI f) := by rw [r_blanks hT ha, hfa]
  by_cases e : f < tD n B f
  · have hk : tK n B f = 1 := by rw [tK, if_pos e]
    have ht : tT n B f = tD n B f := by rw [tT, if_pos e]
    have hd2 := tD_le B hf
    have hdg := tD_in (B := B) (Nat.le_refl f) e
    have hvl : tV n B f < 10000100 := txV_lt B _ _ _ (by omega) (fun j h1 h2 => (tD_in (n := n) (i := f) h1 (by have := tD_ge n B f; omega)).2)
    have hvu := txVU B (tD n B f - f) f 0 0 (.inl ⟨rfl, by omega⟩)
    have hsm : f_X11_number_b44 (nI n) fe 4000 (nI f) 0 (-1) (nI lo) hi (nI f) (0) = nmE n fe (tD n B f) 0 (-1) (nI lo) hi (nI f) (txU B (tD n B f - f) f 0) := r_num_b hT 0 (-1) (nI lo) hi (nI f) (n - f) f 4000 0 (by omega) (by omega) (by omega)
    have hrn : f_X11_number (nI n) (nI a) 0 (-1) fe (nI lo) hi = nmE n fe (tD n B f) 0 (-1) (nI lo) hi (nI f) (txU B (tD n B f - f) f 0) := by
      rw [f_X11_number, if_pos rfl, hr, Option.bind_some, r_byte hT (by omega), Option.bind_some, r_dig (hT.2 f (by omega)).1, if_pos hdg, Option.bind_some, if_neg (by decide), hsm]
    have hcn : f_X7_takeNumber (nI n) (nI (tK n B f)) (nI f) (nI (tT n B f)) (nI (tV n B f)) 0 (-1) v (nI lo) hi = if nI (tV n B f) < nI lo then (f_X7_takeNumber_b31 (nI n) v (nI (tK n B f)) (nI f) (nI (tT n B f)) (nI (tV n B f)) 0 (-1) (nI lo)) else (if nI (tV n B f) ≤ hi then ((f_X7_step (nI n) (nI (tK n B f)) (nI f) (nI (tT n B f)) (nI (tV n B f)) 0 v).bind fun q44 => some (nI (tV n B f), q44.1, q44.2.1, q44.2.2.1, q44.2.2.2, 0, -1)) else (f_X7_takeNumber_b31 (nI n) v (nI (tK n B f)) (nI f) (nI (tT n B f)) (nI (tV n B f)) 0 (-1) (nI lo))) := by
      rw [f_X7_takeNumber, if_pos (by rw [hk]; rfl)]
    have hbad : f_X7_takeNumber_b31 (nI n) v (nI (tK n B f)) (nI f) (nI (tT n B f)) (nI (tV n B f)) 0 (-1) (nI lo) = some (nI lo, 4, nI f, nI (tT n B f), nI (tV n B f), 2, nI f) := by
      rw [f_X7_takeNumber_b31, f_X7_wrong, if_pos rfl]
      rfl
    have hU : ∀ w : Nat, w < 2 ^ 31 → ¬ (lo ≤ w ∧ nI w ≤ hi) → nmE n fe (tD n B f) 0 (-1) (nI lo) hi (nI f) w = some (0, nI (tD n B f), 2, nI f) := by
      intro w hw h2
      rw [nmE, f_X11_in]
      by_cases e1 : w < lo
      · rw [if_pos (nI_lt e1 (by omega)), Option.bind_some, if_pos rfl, f_X11_wrong, if_pos rfl, Option.bind_some, f_X11_number_b122, if_neg (show ¬ (2 : Int32) = 0 by decide)]
      · rw [if_neg (nI_nlt (by omega) (by omega)), if_pos (by rw [← Int32.not_le]; exact fun h3 => h2 ⟨by omega, h3⟩), Option.bind_some, if_pos rfl, f_X11_wrong, if_pos rfl, Option.bind_some, f_X11_number_b122, if_neg (show ¬ (2 : Int32) = 0 by decide)]
    by_cases e2 : lo ≤ tV n B f ∧ nI (tV n B f) ≤ hi
    · have hv5 : tV n B f < 100000 := by
        have h1 := e2.2
        rw [Int32.le_iff_toInt_le, nI_toInt (by omega)] at h1
        rw [Int32.lt_iff_toInt_lt, nI_toInt (by omega)] at hh
        omega
      have huv : txU B (tD n B f - f) f 0 = tV n B f := by
        rcases hvu with h1 | h1
        · exact h1.1.symm
        · have : 100000 ≤ tV n B f := h1.1
          omega
      refine ⟨nI (tV n B f), tk n B (tF n B (tD n B f)), nI (tV n B f), (nI (tD n B f), 0, -1), ?_, ?_, .inl ⟨tV n B f, tF n B (tD n B f), rfl, rfl, e2.1, e2.2, hv5, ?_, by omega, rfl, hk, TR0.go hd2⟩⟩
      · refine hcn.trans ?_
        rw [if_neg (nI_nlt e2.1 (by omega)), if_pos e2.2, ht, p_step hT hd2, Option.bind_some]
      · refine hrn.trans ?_
        rw [huv, nmE, f_X11_in, if_neg (nI_nlt e2.1 (by omega)), if_neg (by rw [Int32.not_lt]; exact e2.2), Option.bind_some, if_neg (by decide), f_X11_number_b122, if_pos rfl]
      · have := tF_ge n B (tD n B f)
        omega
    · refine ⟨nI lo, (4, nI f, nI (tT n B f), nI (tV n B f), 2, nI f), 0, (nI (tD n B f), 2, nI f), ?_, ?_, .inr ⟨rfl, rfl, ⟨nI f, nI (tT n B f), nI (tV n B f), 2, nI f, tD n B f, by decide, hd2, rfl, rfl⟩, fun h3 => e2 h3.2⟩⟩
      · refine hcn.trans ?_
        by_cases e3 : tV n B f < lo
        · rw [if_pos (nI_lt e3 (by omega)), hbad]
        · rw [if_neg (nI_nlt (by omega) (by omega)), if_neg (fun h3 => e2 ⟨by omega, h3⟩), hbad]
      · refine hrn.trans ?_
        rcases hvu with h1 | h1
        · have h1' : txU B (tD n B f - f) f 0 = tV n B f := h1.1.symm
          rw [h1']
          exact hU _ (by omega) e2
        · rw [h1.2]
          refine hU _ (by omega) (fun h3 => ?_)
          have h4 := h3.2
          rw [← Int32.not_lt] at h4
          exact h4 hh
  · have hk : tK n B f ≠ 1 := by
      rw [tK, if_neg e]
      by_cases e2 : n ≤ f
      · rw [if_pos e2]
        omega
      · rw [if_neg e2]
        by_cases e3 : f < tW n B f
        · rw [if_pos e3]
          omega
        · rw [if_neg e3]
          omega
    have hk3 : tK n B f < 2 ^ 31 := by
      rw [tK]
      split <;> (try split) <;> (try split) <;> omega
    have hsm : f_X11_number_b44 (nI n) fe 4000 (nI f) 1 (nI f) (nI lo) hi (nI f) (0) = nmE n fe f 1 (nI f) (nI lo) hi (nI f) 0 := by
      have h1 := r_num_b hT 1 (nI f) (nI lo) hi (nI f) (n - f) f 4000 0 (by omega) (by omega) (by omega)
      have h2 : txR (pD B) (n - f) f = f := by
        have := tD_ge n B f
        show tD n B f = f
        omega
      rw [h2, Nat.sub_self] at h1
      exact h1
    have hnd : (f_X11_byteAt (nI n) fe (nI f)).bind (fun q26 => f_X11_isDigit q26) = some 0 := by
      by_cases e2 : f < n
      · rw [r_byte hT e2, Option.bind_some, r_dig (hT.2 f e2).1, if_neg (fun h2 => e (tD_pos e2 h2))]
      · rw [r_byteE (by omega) (by omega), Option.bind_some, r_dig1]
    have hnE : nmE n fe f 1 (nI f) (nI lo) hi (nI f) 0 = some (0, nI f, 1, nI f) := by
      rw [nmE, f_X11_in]
      by_cases e1 : nI 0 < nI lo
      · rw [if_pos e1, Option.bind_some, if_pos rfl, f_X11_wrong, if_neg (by decide), Option.bind_some, f_X11_number_b122, if_neg (show ¬ (1 : Int32) = 0 by decide)]
      · rw [if_neg e1]
        by_cases e2 : hi < nI 0
        · rw [if_pos e2, Option.bind_some, if_pos rfl, f_X11_wrong, if_neg (by decide), Option.bind_some, f_X11_number_b122, if_neg (show ¬ (1 : Int32) = 0 by decide)]
        · rw [if_neg e2, Option.bind_some, if_neg (by decide), f_X11_number_b122, if_neg (by decide)]
    refine ⟨nI lo, (4, nI f, nI (tT n B f), nI (tV n B f), 1, nI f), 0, (nI f, 1, nI f), ?_, ?_, .inr ⟨rfl, rfl, ⟨nI f, nI (tT n B f), nI (tV n B f), 1, nI f, f, by decide, hf, rfl, rfl⟩, fun h3 => hk h3.1⟩⟩
    · show f_X7_takeNumber (nI n) (nI (tK n B f)) (nI f) (nI (tT n B f)) (nI (tV n B f)) 0 (-1) v (nI lo) hi = _
      rw [f_X7_takeNumber, if_neg (by rw [pl1, nI_eq hk3 (by omega)]; exact hk), f_X7_wrong, if_pos rfl]
      rfl
    · show f_X11_number (nI n) (nI a) 0 (-1) fe (nI lo) hi = _
      rw [f_X11_number, if_pos rfl, hr, Option.bind_some]
      by_cases e2 : f < n
      · rw [r_byte hT e2, Option.bind_some, r_dig (hT.2 f e2).1, if_neg (fun h2 => e (tD_pos e2 h2)), Option.bind_some, if_pos rfl, f_X11_wrong, if_pos rfl, Option.bind_some, hsm, hnE]
      · rw [r_byteE (by omega) (by omega), Option.bind_some, r_dig1, Option.bind_some, if_pos rfl, f_X11_wrong, if_pos rfl, Option.bind_some, hsm, hnE]

/-! texts: signs, words, faults -/
def sgC (c : Nat) : Prop := c < 128 ∧ c ≠ 32 ∧ ¬ (48 ≤ c ∧ c ≤ 57) ∧ ¬ (97 ≤ c ∧ c ≤ 122)
theorem tK_sg {n : Nat} {B : Nat → Nat} {f : Nat} (h : f < n) (h1 : ¬ (48 ≤ B f ∧ B f ≤ 57)) (h2 : ¬ (97 ≤ B f ∧ B f ≤ 122)) : tK n B f = 3 ∧ tT n B f = f + 1 := by
  have e1 : tD n B f = f := tD_self (fun _ => h1)
  have e2 : tW n B f = f := tW_self (fun _ => h2)
  rw [tK, tT, e1, e2, if_neg (by omega), if_neg (by omega), if_neg (by omega), if_neg (by omega), if_neg (by omega), if_neg (by omega)]
  exact ⟨rfl, rfl⟩
theorem tK_lt (n : Nat) (B : Nat → Nat) (f : Nat) : tK n B f < 4 := by
  rw [tK]
  by_cases e : f < tD n B f
  · rw [if_pos e]
    omega
  · rw [if_neg e]
    by_cases e2 : n ≤ f
    · rw [if_pos e2]
      omega
    · rw [if_neg e2]
      by_cases e3 : f < tW n B f
      · rw [if_pos e3]
        omega
      · rw [if_neg e3]
        omega
theorem tK_3 {n : Nat} {B : Nat → Nat} {f : Nat} (h : tK n B f = 3) : f < n := by
  rw [tK] at h
  by_cases e : f < tD n B f
  · rw [if_pos e] at h
    omega
  · rw [if_neg e] at h
    by_cases e2 : n ≤ f
    · rw [if_pos e2] at h
      omega
    · omega
theorem tK_0 {n : Nat} {B : Nat → Nat} {f : Nat} (hf : f ≤ n) : tK n B f = 0 ↔ f = n := by
  rw [tK]
  by_cases e : f < tD n B f
  · have := tD_le B hf
    rw [if_pos e]
    omega
  · rw [if_neg e]
    by_cases e2 : n ≤ f
    · rw [if_pos e2]
      omega
    · rw [if_neg e2]
      by_cases e3 : f < tW n B f
      · rw [if_pos e3]
        omega
      · rw [if_neg e3]
        omega
theorem tK_2 {n : Nat} {B : Nat → Nat} {f : Nat} (hf : f ≤ n) : tK n B f = 2 ↔ f < tW n B f := by
  by_cases e3 : f < tW n B f
  · have h1 := tW_in (Nat.le_refl f) e3
    have h2 := tW_le B hf
    have e1 : tD n B f = f := tD_self (fun _ => by omega)
    rw [tK, e1, if_neg (by omega), if_neg (by omega), if_pos e3]
    exact ⟨fun _ => e3, fun _ => rfl⟩
  · rw [tK]
    by_cases e : f < tD n B f
    · rw [if_pos e]
      omega
    · rw [if_neg e]
      by_cases e2 : n ≤ f
      · rw [if_pos e2]
        omega
      · rw [if_neg e2, if_neg e3]
        omega
theorem tT_2 {n : Nat} {B : Nat → Nat} {f : Nat} (hf : f ≤ n) (e3 : f < tW n B f) : tT n B f = tW n B f := by
  have h1 := tW_in (Nat.le_refl f) e3
  have h2 := tW_le B hf
  have e1 : tD n B f = f := tD_self (fun _ => by omega)
  rw [tT, e1, if_neg (by omega), if_neg (by omega), if_pos e3]
theorem t_isSign1 {n : Nat} {B : Nat → Nat} {v fe : Nat → Int32} (hT : Tp n B v fe) {f : Nat} {s : TS} {r : TQ} (h : TR0 n B f s r) {c : Nat} {c' : Int32} (hc' : c' = nI c) (hc : sgC c) (h1 : f < n ∧ B f = c) : f_X7_isSign s.1 s.2.1 v c' = some 1 := by
  have hn := hT.1
  obtain ⟨hf, rfl, -⟩ := h
  obtain ⟨c1, c2, c3, c4⟩ := hc
  obtain ⟨b1, b2, b3⟩ := hT.2 f h1.1
  have hk := (tK_sg (B := B) h1.1 (by rw [h1.2]; exact c3) (by rw [h1.2]; exact c4)).1
  show f_X7_isSign (nI (tK n B f)) (nI f) v c' = _
  rw [f_X7_isSign, hk, if_pos (show nI 3 = 3 from rfl), pu_ck (by omega) (by omega), nI_clamp (by omega), b3, hc', if_pos ((sb_eq b1 c1).2 h1.2)]
theorem t_isSign0 {n : Nat} {B : Nat → Nat} {v fe : Nat → Int32} (hT : Tp n B v fe) {f : Nat} {s : TS} {r : TQ} (h : TR0 n B f s r) {c : Nat} {c' : Int32} (hc' : c' = nI c) (hc : sgC c) (h1 : ¬ (f < n ∧ B f = c)) : f_X7_isSign s.1 s.2.1 v c' = some 0 := by
  have hn := hT.1
  obtain ⟨hf, rfl, -⟩ := h
  obtain ⟨c1, c2, c3, c4⟩ := hc
  show f_X7_isSign (nI (tK n B f)) (nI f) v c' = _
  have hk4 := tK_lt n B f
  rw [f_X7_isSign]
  by_cases e : tK n B f = 3
  · have hl := tK_3 e
    obtain ⟨b1, b2, b3⟩ := hT.2 f hl
    rw [e, if_pos (show nI 3 = 3 from rfl), pu_ck (by omega) (by omega), nI_clamp (by omega), b3, hc', if_neg (fun h2 => h1 ⟨hl, (sb_eq b1 c1).1 h2⟩)]
  · rw [if_neg (by rw [pl3, nI_eq (by omega) (by omega)]; exact e)]
/-- the class goes on behind a sign -/
theorem t_stepS {n : Nat} {B : Nat → Nat} {v fe : Nat → Int32} (hT : Tp n B v fe) {f : Nat} {s : TS} {r : TQ} (h : TR0 n B f s r) {c : Nat} (hc : sgC c) (h1 : f < n ∧ B f = c) : f_X7_step (nI n) s.1 s.2.1 s.2.2.1 s.2.2.2.1 s.2.2.2.2.1 v = some (nI (tK n B (tF n B (f + 1))), nI (tF n B (f + 1)), nI (tT n B (tF n B (f + 1))), nI (tV n B (tF n B (f + 1)))) := by
  obtain ⟨hf, rfl, -⟩ := h
  obtain ⟨c1, c2, c3, c4⟩ := hc
  have ht := (tK_sg (B := B) h1.1 (by rw [h1.2]; exact c3) (by rw [h1.2]; exact c4)).2
  show f_X7_step (nI n) (nI (tK n B f)) (nI f) (nI (tT n B f)) (nI (tV n B f)) 0 v = _
  rw [ht, p_step hT (by omega)]
theorem TR0.ft {n : Nat} {B : Nat → Nat} {f : Nat} {s : TS} {r : TQ} (h : TR0 n B f s r) : s.2.2.2.2.1 = 0 ∧ s.2.2.2.2.2 = -1 ∧ r.2.1 = 0 ∧ r.2.2 = -1 := by
  obtain ⟨hf, rfl, a, -, -, rfl⟩ := h
  exact ⟨rfl, rfl, rfl, rfl⟩
theorem TR0.bl {n : Nat} {B : Nat → Nat} {v fe : Nat → Int32} (hT : Tp n B v fe) {f : Nat} {s : TS} {r : TQ} (h : TR0 n B f s r) : f_X11_blanks (nI n) r.1 fe = some (nI f) := by
  obtain ⟨hf, rfl, a, ha, hfa, rfl⟩ := h
  show f_X11_blanks (nI n) (nI a) fe = _
  rw [r_blanks hT ha, hfa]
theorem t_takes1 {n : Nat} {B : Nat → Nat} {v fe : Nat → Int32} (hT : Tp n B v fe) {f : Nat} {s : TS} {r : TQ} (h : TR0 n B f s r) {c : Nat} {c' : Int32} (hc' : c' = nI c) (hc : sgC c) (h1 : f < n ∧ B f = c) : f_X11_takesSign (nI n) r.1 r.2.1 fe c' = some (1, nI (f + 1)) := by
  rw [f_X11_takesSign, if_pos h.ft.2.2.1, h.bl hT, Option.bind_some, r_byte hT h1.1, Option.bind_some, hc', if_pos (by rw [h1.2]), f_X11_takesSign_b30, if_neg (by decide), nI_1]
  rfl
theorem t_takes0 {n : Nat} {B : Nat → Nat} {v fe : Nat → Int32} (hT : Tp n B v fe) {f : Nat} {s : TS} {r : TQ} (h : TR0 n B f s r) {c : Nat} {c' : Int32} (hc' : c' = nI c) (hc : sgC c) (h1 : ¬ (f < n ∧ B f = c)) : f_X11_takesSign (nI n) r.1 r.2.1 fe c' = some (0, nI f) := by
  have hn := hT.1
  have hf := h.1
  rw [f_X11_takesSign, if_pos h.ft.2.2.1, h.bl hT, Option.bind_some, r_by hT (by omega), Option.bind_some, hc', if_neg (fun h2 => h1 ((byI_eq hT (by have := hc.1; omega)).1 h2)), f_X11_takesSign_b30, if_pos rfl]
  rfl
theorem t_sign {n : Nat} {B : Nat → Nat} {v fe : Nat → Int32} (hT : Tp n B v fe) {f : Nat} {s : TS} {r : TQ} (h : TR0 n B f s r) {c : Nat} {c' : Int32} (hc' : c' = nI c) (hc : sgC c) :
    ∃ s' r', f_X7_takeSign (nI n) s.1 s.2.1 s.2.2.1 s.2.2.2.1 s.2.2.2.2.1 s.2.2.2.2.2 v c' = some s' ∧ f_X11_sign (nI n) r.1 r.2.1 r.2.2 fe c' = some r' ∧ ((f < n ∧ B f = c ∧ TR0 n B (tF n B (f + 1)) s' r') ∨ (¬ (f < n ∧ B f = c) ∧ TRf n s' r')) := by
  have hn := hT.1
  have hf := h.1
  by_cases e : f < n ∧ B f = c
  · refine ⟨tk n B (tF n B (f + 1)), (nI (f + 1), 0, -1), ?_, ?_, .inl ⟨e.1, e.2, TR0.go (by omega)⟩⟩
    · rw [f_X7_takeSign, t_isSign1 hT h hc' hc e, Option.bind_some, if_neg (by decide), t_stepS hT h hc e, Option.bind_some, h.ft.1, h.ft.2.1]
    · rw [f_X11_sign, if_pos h.ft.2.2.1, h.bl hT, Option.bind_some, r_byte hT e.1, Option.bind_some, hc', if_pos (by rw [e.2]), nI_1, h.ft.2.2.1, h.ft.2.2.2]
  · refine ⟨(4, s.2.1, s.2.2.1, s.2.2.2.1, 1, s.2.1), (nI f, 1, nI f), ?_, ?_, .inr ⟨e, s.2.1, s.2.2.1, s.2.2.2.1, 1, s.2.1, f, by decide, hf, rfl, ?_⟩⟩
    · rw [f_X7_takeSign, t_isSign0 hT h hc' hc e, Option.bind_some, if_pos rfl, f_X7_wrong, if_pos h.ft.1, Option.bind_some]
    · rw [f_X11_sign, if_pos h.ft.2.2.1, h.bl hT, Option.bind_some, r_by hT (by omega), Option.bind_some, hc', if_neg (fun h2 => e ((byI_eq hT (by have := hc.1; omega)).1 h2)), f_X11_wrong, if_pos h.ft.2.2.1, Option.bind_some]
    · obtain ⟨-, rfl, -⟩ := h
      rfl
/-! faults: nothing more is read -/
theorem tf_wrong {k f y pl e : Int32} (hy : y ≠ 0) : f_X7_wrong k f y pl e = some (k, y, pl) := by rw [f_X7_wrong, if_neg hy]
theorem tf_rwrong {y pl e w : Int32} (hy : y ≠ 0) : f_X11_wrong y pl e w = some (y, pl) := by rw [f_X11_wrong, if_neg hy]
theorem tf_num {L f t x y pl lo hi : Int32} {v : Nat → Int32} (hy : y ≠ 0) : f_X7_takeNumber L 4 f t x y pl v lo hi = some (lo, 4, f, t, x, y, pl) := by
  rw [f_X7_takeNumber, if_neg (by decide), tf_wrong hy, Option.bind_some]
theorem tf_rnum {L a y pl lo hi : Int32} {fe : Nat → Int32} (hy : y ≠ 0) : f_X11_number L a y pl fe lo hi = some (0, a, y, pl) := by
  rw [f_X11_number, if_neg hy]
theorem tf_isSign {f c : Int32} {v : Nat → Int32} : f_X7_isSign 4 f v c = some 0 := by rw [f_X7_isSign, if_neg (by decide)]
theorem tf_sign {L f t x y pl c : Int32} {v : Nat → Int32} (hy : y ≠ 0) : f_X7_takeSign L 4 f t x y pl v c = some (4, f, t, x, y, pl) := by
  rw [f_X7_takeSign, tf_isSign, Option.bind_some, if_pos rfl, tf_wrong hy, Option.bind_some]
theorem tf_rsign {L a y pl c : Int32} {fe : Nat → Int32} (hy : y ≠ 0) : f_X11_sign L a y pl fe c = some (a, y, pl) := by
  rw [f_X11_sign, if_neg hy]
theorem tf_step {L k f t x y : Int32} {v : Nat → Int32} (hy : y ≠ 0) : f_X7_step L k f t x y v = some (k, f, t, x) := by
  rw [f_X7_step, if_neg hy]
theorem tf_takes {L a y c : Int32} {fe : Nat → Int32} (hy : y ≠ 0) : f_X11_takesSign L a y fe c = some (0, a) := by
  rw [f_X11_takesSign, if_neg hy]
theorem tf_word {f t : Int32} {v : Nat → Int32} {s : Nat} : f_X7_isWord 4 f t v s = some 0 := by rw [f_X7_isWord, if_neg (by decide)]
theorem tf_rword {L a y c1 c2 c3 c4 c5 c6 : Int32} {fe : Nat → Int32} (hy : y ≠ 0) : f_X11_isWord L a y fe c1 c2 c3 c4 c5 c6 = some (0, a) := by
  rw [f_X11_isWord, if_neg hy]
theorem tf_end {f y pl : Int32} (hy : y ≠ 0) : f_X7_takeEnd 4 f y pl = some (0, 4, y, pl) := by
  rw [f_X7_takeEnd, if_neg (by decide), tf_wrong hy, Option.bind_some, f_X7_takeEnd_b12, if_neg hy]
theorem t_endY {n : Nat} {B : Nat → Nat} {f : Nat} {s : TS} {r : TQ} (h : TR0 n B f s r) (e : f = n) : f_X7_takeEnd s.1 s.2.1 s.2.2.2.2.1 s.2.2.2.2.2 = some (1, s.1, 0, -1) := by
  obtain ⟨hf, rfl, -⟩ := h
  show f_X7_takeEnd (nI (tK n B f)) (nI f) 0 (-1) = some (1, nI (tK n B f), 0, -1)
  rw [(tK_0 hf).2 e, f_X7_takeEnd, if_pos (show nI 0 = 0 from rfl), f_X7_takeEnd_b12, if_pos rfl]
theorem t_endN {n : Nat} {B : Nat → Nat} {f : Nat} {s : TS} {r : TQ} (h : TR0 n B f s r) (e : ¬ f = n) : f_X7_takeEnd s.1 s.2.1 s.2.2.2.2.1 s.2.2.2.2.2 = some (0, 4, 1, nI f) := by
  obtain ⟨hf, rfl, -⟩ := h
  have := tK_lt n B f
  show f_X7_takeEnd (nI (tK n B f)) (nI f) 0 (-1) = _
  rw [f_X7_takeEnd, if_neg (by rw [pl0, nI_eq (by omega) (by omega), tK_0 hf]; exact e), f_X7_wrong, if_pos rfl, Option.bind_some, f_X7_takeEnd_b12, if_neg (show ¬ (1 : Int32) = 0 by decide)]
/-! words -/
def bytN : List (List Nat) := [[112, 97, 110, 101], [114, 97, 105, 110], [111, 114, 100, 101, 114], [112, 97, 99, 101], [104, 111, 108, 100], [108, 101, 97, 115, 116], [109, 111, 115, 116], [100, 97, 121], [120], [121], [102, 108, 111, 111, 114], [112, 97, 110, 101], [100, 101, 101, 112], [115, 101, 101, 110], [114, 97, 105, 110], [119, 105, 112, 101], [99, 101, 108, 108], [99, 105, 114, 99, 108, 101], [100, 97, 121], [114, 105, 110, 115, 101], [98, 114, 101, 97, 107], [97, 103, 97, 105, 110]]
def wCh (s i : Nat) : Nat := (bytN.getD s []).getD i 0
def wL (s : Nat) : Nat := lenS.getD s 0
theorem w_ch : ∀ s, s < 22 → ∀ i, i < wL s → sCh s (nI i) = nI (wCh s i) ∧ 97 ≤ wCh s i ∧ wCh s i ≤ 122 := by decide +kernel
theorem w_len : ∀ s, s < 22 → 1 ≤ wL s ∧ wL s ≤ 6 := by decide +kernel
def hvw (g : Nat → Nat) : Nat → Nat
  | 0 => 0
  | k + 1 => 27 * hvw g k + (g k - 96)
theorem hvw_lt (g : Nat → Nat) : ∀ k, (∀ j, j < k → g j ≤ 122) → hvw g k < 27 ^ k := by
  intro k
  induction k with
  | zero => exact fun _ => Nat.zero_lt_one
  | succ k ih =>
    intro h
    have h1 := ih (fun j hj => h j (by omega))
    have h2 := h k (by omega)
    rw [hvw, Nat.pow_succ]
    omega
theorem hvw_small (g : Nat → Nat) (k : Nat) (hk : k ≤ 6) (h : ∀ j, j < k → g j ≤ 122) : hvw g k < 387420489 := by
  have h1 := hvw_lt g k h
  have h2 : 27 ^ k ≤ 27 ^ 6 := Nat.pow_le_pow_right (by omega) hk
  omega
theorem hvw_inj (g h : Nat → Nat) : ∀ k l, (∀ j, j < k → 97 ≤ g j ∧ g j ≤ 122) → (∀ j, j < l → 97 ≤ h j ∧ h j ≤ 122) → hvw g k = hvw h l → k = l ∧ ∀ j, j < k → g j = h j := by
  intro k
  induction k with
  | zero =>
    intro l hg hh e
    cases l with
    | zero => exact ⟨rfl, fun j hj => by omega⟩
    | succ l =>
      have := hh l (by omega)
      rw [hvw, hvw] at e
      omega
  | succ k ih =>
    intro l hg hh e
    have h1 := hg k (by omega)
    cases l with
    | zero =>
      rw [hvw, hvw] at e
      omega
    | succ l =>
      have h2 := hh l (by omega)
      rw [hvw, hvw] at e
      obtain ⟨h3, h4⟩ := ih l (fun j hj => hg j (by omega)) (fun j hj => hh j (by omega)) (by omega)
      subst h3
      refine ⟨rfl, fun j hj => ?_⟩
      by_cases e2 : j = k
      · subst e2
        omega
      · exact h4 j (by omega)
theorem hvw_congr (g h : Nat → Nat) : ∀ k, (∀ j, j < k → g j = h j) → hvw g k = hvw h k := by
  intro k
  induction k with
  | zero => exact fun _ => rfl
  | succ k ih =>
    intro e
    rw [hvw, hvw, ih (fun j hj => e j (by omega)), e k (by omega)]
/-- word s stands at f -/
def IsW (n : Nat) (B : Nat → Nat) (f s : Nat) : Prop := tW n B f = f + wL s ∧ ∀ j, j < wL s → B (f + j) = wCh s j
theorem p_word_b {n : Nat} {B : Nat → Nat} {v fe : Nat → Int32} (hT : Tp n B v fe) {f s : Nat} (hs : s < 22) (hf : f + wL s ≤ n) (k t : Int32) : ∀ (m i q : Nat), i + m = wL s → m < q → ((∀ j, i ≤ j → j < wL s → B (f + j) = wCh s j) ∧ f_X7_isWord_b28 k (nI f) t v s q (nI i) = some 1) ∨ ((¬ ∀ j, i ≤ j → j < wL s → B (f + j) = wCh s j) ∧ f_X7_isWord_b28 k (nI f) t v s q (nI i) = some 0) := by
  have hn := hT.1
  have hl := w_len s hs
  intro m
  induction m with
  | zero =>
    intro i q hi hq
    obtain ⟨q, rfl⟩ : ∃ r, q = r + 1 := ⟨q - 1, by omega⟩
    refine .inl ⟨fun j h1 h2 => by omega, ?_⟩
    rw [f_X7_isWord_b28, show lenS.getD s 0 = wL s from rfl, if_pos (show nI (wL s) ≤ nI i from nI_le (by omega) (by omega))]
  | succ m ih =>
    intro i q hi hq
    obtain ⟨q, rfl⟩ : ∃ r, q = r + 1 := ⟨q - 1, by omega⟩
    obtain ⟨b1, b2, b3⟩ := hT.2 (f + i) (by omega)
    obtain ⟨w1, w2, w3⟩ := w_ch s hs i (by omega)
    have e0 : f_X7_isWord_b28 k (nI f) t v s (q + 1) (nI i) = if B (f + i) = wCh s i then f_X7_isWord_b28 k (nI f) t v s q (nI (i + 1)) else some 0 := by
      rw [f_X7_isWord_b28, show lenS.getD s 0 = wL s from rfl, if_neg (show ¬ nI (wL s) ≤ nI i from nI_ge (by omega) (by omega)), nI_add, pu_ck (by omega) (by omega), pu_ck (show i < wL s by omega) (by omega), nI_clamp (by omega), b3, w1, nI_1]
      by_cases e : B (f + i) = wCh s i
      · rw [if_pos ((sb_eq b1 (by omega)).2 e), if_pos e]
      · rw [if_neg (fun h2 => e ((sb_eq b1 (by omega)).1 h2)), if_neg e]
    rw [e0]
    by_cases e : B (f + i) = wCh s i
    · rw [if_pos e]
      rcases ih (i + 1) q (by omega) (by omega) with ⟨h1, h2⟩ | ⟨h1, h2⟩
      · refine .inl ⟨fun j j1 j2 => ?_, h2⟩
        by_cases e2 : j = i
        · rw [e2]
          exact e
        · exact h1 j (by omega) j2
      · exact .inr ⟨fun h3 => h1 (fun j j1 j2 => h3 j (by omega) j2), h2⟩
    · rw [if_neg e]
      exact .inr ⟨fun h3 => e (h3 i (by omega) (by omega)), rfl⟩
theorem p_word {n : Nat} {B : Nat → Nat} {v fe : Nat → Int32} (hT : Tp n B v fe) {f : Nat} {st : TS} {r : TQ} (h : TR0 n B f st r) {s : Nat} (hs : s < 22) : (IsW n B f s ∧ f_X7_isWord st.1 st.2.1 st.2.2.1 v s = some 1) ∨ (¬ IsW n B f s ∧ f_X7_isWord st.1 st.2.1 st.2.2.1 v s = some 0) := by
  have hn := hT.1
  have hl := w_len s hs
  obtain ⟨hf, rfl, -⟩ := h
  show (IsW n B f s ∧ f_X7_isWord (nI (tK n B f)) (nI f) (nI (tT n B f)) v s = some 1) ∨ (¬ IsW n B f s ∧ f_X7_isWord (nI (tK n B f)) (nI f) (nI (tT n B f)) v s = some 0)
  have hk4 := tK_lt n B f
  have hw := tW_le B hf
  have hg := tW_ge n B f
  by_cases e : f < tW n B f
  · rw [f_X7_isWord, (tK_2 hf).2 e, if_pos (show nI 2 = 2 from rfl), tT_2 hf e, pk_sub (by omega), show lenS.getD s 0 = wL s from rfl]
    by_cases e2 : tW n B f - f = wL s
    · rw [if_pos (show nI (tW n B f - f) = nI (wL s) by rw [e2])]
      rcases p_word_b (f := f) hT hs (by omega) (nI 2) (nI (tW n B f)) (wL s) 0 4000 (by omega) (by omega) with ⟨h1, h2⟩ | ⟨h1, h2⟩
      · exact .inl ⟨⟨by omega, fun j hj => h1 j (by omega) hj⟩, h2⟩
      · exact .inr ⟨fun h3 => h1 (fun j _ hj => h3.2 j hj), h2⟩
    · rw [if_neg (show ¬ nI (tW n B f - f) = nI (wL s) by rw [nI_eq (by omega) (by omega)]; exact e2)]
      exact .inr ⟨fun h3 => e2 (by have := h3.1; omega), rfl⟩
  · rw [f_X7_isWord, if_neg (by rw [pl2, nI_eq (by omega) (by omega), tK_2 hf]; exact e)]
    exact .inr ⟨fun h3 => e (by have := h3.1; omega), rfl⟩
theorem r_word_b {n : Nat} {B : Nat → Nat} {v fe : Nat → Int32} (hT : Tp n B v fe) {f : Nat} (hf : f ≤ n) : ∀ (m k q : Nat), f + k + m = n → m < q → f + k ≤ tW n B f → f_X11_wordHere_b8 (nI n) fe q (nI f) (nI (hvw (fun j => B (f + j)) (min k 6))) (nI k) = some (if tW n B f - f ≤ 6 then nI (hvw (fun j => B (f + j)) (tW n B f - f)) else -1, nI f) := by
  have hn := hT.1
  have hw := tW_le B hf
  have hfin : ∀ k, f + k = tW n B f → (if nI k ≤ nI 6 then some (nI (hvw (fun j => B (f + j)) (min k 6)), nI f) else some (-1, nI f) : Option (Int32 × Int32)) = some (if tW n B f - f ≤ 6 then nI (hvw (fun j => B (f + j)) (tW n B f - f)) else -1, nI f) := by
    intro k hk
    have e : tW n B f - f = k := by omega
    rw [e]
    by_cases e2 : k ≤ 6
    · rw [if_pos (nI_le e2 (by omega)), if_pos e2, Nat.min_eq_left e2]
    · rw [if_neg (nI_ge (by omega) (by omega)), if_neg e2]
  intro m
  induction m with
  | zero =>
    intro k q hi hq hk
    obtain ⟨q, rfl⟩ : ∃ r, q = r + 1 := ⟨q - 1, by omega⟩
    rw [f_X11_wordHere_b8, nI_add, r_byteE (by omega) (by omega), Option.bind_some, r_sml1, Option.bind_some, if_pos rfl, pl6]
    exact hfin k (by omega)
  | succ m ih =>
    intro k q hi hq hk
    obtain ⟨q, rfl⟩ : ∃ r, q = r + 1 := ⟨q - 1, by omega⟩
    obtain ⟨b1, b2, b3⟩ := hT.2 (f + k) (by omega)
    rw [f_X11_wordHere_b8, nI_add, r_byte hT (by omega), Option.bind_some, r_sml b1, Option.bind_some]
    by_cases e : f + k < tW n B f
    · have hl := tW_in (by omega) e
      rw [if_pos hl, if_neg (by decide), pl6]
      have h2 := ih (k + 1) q (by omega) (by omega) (by omega)
      by_cases e2 : 6 ≤ k
      · rw [if_pos (nI_le e2 (by omega)), f_X11_wordHere_b54, nI_1]
        rw [show min (k + 1) 6 = min k 6 by omega] at h2
        exact h2
      · rw [if_neg (nI_ge (by omega) (by omega)), Option.bind_some, f_X11_wordHere_b54, nI_1, pl27, pk_mul, nI_add, pl97, pk_sub (by omega), pl1, nI_add]
        rw [show min (k + 1) 6 = k + 1 by omega, hvw] at h2
        rw [show min k 6 = k by omega, show 27 * hvw (fun j => B (f + j)) k + B (f + k) - 97 + 1 = 27 * hvw (fun j => B (f + j)) k + (B (f + k) - 96) by omega]
        exact h2
    · have hl : ¬ (97 ≤ B (f + k) ∧ B (f + k) ≤ 122) := by
        intro h3
        have h4 := tW_pos (show f + k < n by omega) h3
        have h5 : txR (pL B) (n - f) f < f + (n - f) := by
          show tW n B f < f + (n - f)
          omega
        have h6 := txR_end (pL B) (n - f) f h5
        apply h6
        show pL B (tW n B f) = true
        rw [show tW n B f = f + k by omega, pL]
        exact decide_eq_true h3
      rw [if_neg hl, if_pos rfl, pl6]
      exact hfin k (by omega)
theorem r_wordHere {n : Nat} {B : Nat → Nat} {v fe : Nat → Int32} (hT : Tp n B v fe) {f : Nat} {s : TS} {r : TQ} (h : TR0 n B f s r) : f_X11_wordHere (nI n) r.1 fe = some (if tW n B f - f ≤ 6 then nI (hvw (fun j => B (f + j)) (tW n B f - f)) else -1, nI f) := by
  have hn := hT.1
  rw [f_X11_wordHere, h.bl hT, Option.bind_some]
  exact r_word_b hT h.1 (n - f) 0 4000 (by have := h.1; omega) (by omega) (tW_ge n B f)
theorem t_word {n : Nat} {B : Nat → Nat} {v fe : Nat → Int32} (hT : Tp n B v fe) {f : Nat} {st : TS} {r : TQ} (h : TR0 n B f st r) {s : Nat} (hs : s < 22) {c1 c2 c3 c4 c5 c6 : Int32} (h6 : f_X11_six c1 c2 c3 c4 c5 c6 = some (nI (hvw (wCh s) (wL s)))) :
    (IsW n B f s ∧ f_X7_isWord st.1 st.2.1 st.2.2.1 v s = some 1 ∧ f_X11_isWord (nI n) r.1 r.2.1 fe c1 c2 c3 c4 c5 c6 = some (1, nI f)) ∨ (¬ IsW n B f s ∧ f_X7_isWord st.1 st.2.1 st.2.2.1 v s = some 0 ∧ f_X11_isWord (nI n) r.1 r.2.1 fe c1 c2 c3 c4 c5 c6 = some (0, nI f)) := by
  have hn := hT.1
  have hl := w_len s hs
  have hf := h.1
  have hw := tW_le B hf
  have hg := tW_ge n B f
  have hws := hvw_small (wCh s) (wL s) hl.2 (fun j hj => (w_ch s hs j hj).2.2)
  have e1 : f_X11_isWord (nI n) r.1 r.2.1 fe c1 c2 c3 c4 c5 c6 = if (if tW n B f - f ≤ 6 then nI (hvw (fun j => B (f + j)) (tW n B f - f)) else -1) = nI (hvw (wCh s) (wL s)) then some (1, nI f) else some (0, nI f) := by
    rw [f_X11_isWord, if_pos h.ft.2.2.1, r_wordHere hT h, Option.bind_some, h6, Option.bind_some]
  have hlt : ∀ j, j < tW n B f - f → 97 ≤ B (f + j) ∧ B (f + j) ≤ 122 := fun j hj => tW_in (n := n) (i := f) (by omega) (by omega)
  rcases p_word hT h hs with ⟨h1, h2⟩ | ⟨h1, h2⟩
  · refine .inl ⟨h1, h2, ?_⟩
    have e2 : tW n B f - f = wL s := by have := h1.1; omega
    rw [e1, e2, if_pos hl.2, if_pos (by rw [hvw_congr _ (wCh s) (wL s) h1.2])]
  · refine .inr ⟨h1, h2, ?_⟩
    rw [e1, if_neg]
    intro h3
    by_cases e2 : tW n B f - f ≤ 6
    · rw [if_pos e2, nI_eq (by have := hvw_small (fun j => B (f + j)) _ e2 (fun j hj => (hlt j hj).2); omega) (by omega)] at h3
      obtain ⟨h4, h5⟩ := hvw_inj _ _ _ _ hlt (fun j hj => (w_ch s hs j hj).2) h3
      exact h1 ⟨by omega, fun j hj => h5 j (by omega)⟩
    · rw [if_neg e2] at h3
      have h7 : nI (hvw (wCh s) (wL s)) < 0 := by
        rw [← h3]
        decide
      exact absurd h7 (nI_pos (by omega))
/-- behind a word -/
theorem t_stepW {n : Nat} {B : Nat → Nat} {v fe : Nat → Int32} (hT : Tp n B v fe) {f : Nat} {s : TS} {r : TQ} (h : TR0 n B f s r) (h1 : f < tW n B f) : f_X7_step (nI n) s.1 s.2.1 s.2.2.1 s.2.2.2.1 s.2.2.2.2.1 v = some (nI (tK n B (tF n B (tW n B f))), nI (tF n B (tW n B f)), nI (tT n B (tF n B (tW n B f))), nI (tV n B (tF n B (tW n B f)))) := by
  obtain ⟨hf, rfl, -⟩ := h
  show f_X7_step (nI n) (nI (tK n B f)) (nI f) (nI (tT n B f)) (nI (tV n B f)) 0 v = _
  rw [tT_2 hf h1, p_step hT (tW_le B hf)]
theorem r_skip_b {n : Nat} {B : Nat → Nat} {v fe : Nat → Int32} (hT : Tp n B v fe) : ∀ (m i q : Nat), i + m = n → m < q → f_X11_skipWord_b0 (nI n) fe q (nI i) = some (nI (txR (pL B) m i)) := by
  have hn := hT.1
  intro m
  induction m with
  | zero =>
    intro i q hi hq
    obtain ⟨q, rfl⟩ : ∃ r, q = r + 1 := ⟨q - 1, by omega⟩
    rw [f_X11_skipWord_b0, r_byteE (by omega) (by omega), Option.bind_some, r_sml1, Option.bind_some, if_pos rfl, txR]
  | succ m ih =>
    intro i q hi hq
    obtain ⟨q, rfl⟩ : ∃ r, q = r + 1 := ⟨q - 1, by omega⟩
    obtain ⟨b1, b2, b3⟩ := hT.2 i (by omega)
    rw [f_X11_skipWord_b0, r_byte hT (by omega), Option.bind_some, r_sml b1, Option.bind_some, txR]
    by_cases e : 97 ≤ B i ∧ B i ≤ 122
    · rw [if_pos e, if_neg (by decide), if_pos (show pL B i = true by rw [pL]; exact decide_eq_true e), nI_1]
      exact ih (i + 1) q (by omega) (by omega)
    · rw [if_neg e, if_pos rfl, if_neg (show ¬ pL B i = true by rw [pL]; exact fun h => e (of_decide_eq_true h))]
theorem r_skip {n : Nat} {B : Nat → Nat} {v fe : Nat → Int32} (hT : Tp n B v fe) {i : Nat} (hi : i ≤ n) : f_X11_skipWord (nI n) (nI i) fe = some (nI (tW n B i)) := by
  have hn := hT.1
  rw [f_X11_skipWord, r_skip_b hT (n - i) i 4000 (by omega) (by omega)]
  rfl
theorem IsW.len {n : Nat} {B : Nat → Nat} {f s : Nat} (h : IsW n B f s) : tW n B f = f + wL s := h.1
/-- the class begins to read -/
theorem t_begin {n : Nat} {B : Nat → Nat} {v fe : Nat → Int32} (hT : Tp n B v fe) (i2 i3 i4 i5 i6 i7 i8 : Int32) : f_X7_begin i2 i3 i4 i5 i6 i7 i8 v (nI n) = some (nI n, tk n B (tF n B 0)) := by
  have h := p_step hT (t := 0) (by omega) i3 i4 i6
  rw [f_X7_begin]
  rw [show f_X7_step (nI n) i3 i4 0 i6 0 v = _ from h, Option.bind_some]
theorem t_starts {n : Nat} {B : Nat → Nat} {v fe : Nat → Int32} (hT : Tp n B v fe) (i1 i2 i4 i5 i6 i7 i8 : Int32) : f_X11_starts i1 i2 i4 i5 i6 i7 i8 fe (nI n) = some (0, nI n, nI (tF n B 0), 0, -1, 0, 0) := by
  have h := r_blanks hT (i := 0) (by omega)
  rw [f_X11_starts]
  rw [show f_X11_blanks (nI n) 0 fe = _ from h, Option.bind_some]
theorem TR0.begin (n : Nat) (B : Nat → Nat) : TR0 n B (tF n B 0) (tk n B (tF n B 0)) (nI (tF n B 0), 0, -1) := (TR0.go (Nat.zero_le n)).at

/-! book -/
def PzBn (k : Nat) (xy : Nat → Nat) (b : CX0) (bo : Nat → Nat → Int32) : Prop := k ≤ 8 ∧ b.1 = nI k ∧ b.2.1 = nI (pzBits xy k) ∧ (∀ i j, i < j → j < k → xy i ≠ xy j) ∧ ∀ i, i < k → xy i < 16 ∧ b.2.2.1 i = nI (xy i) ∧ bo i 0 = nI (xy i % 4) ∧ bo i 1 = nI (xy i / 4) ∧ ∃ d, d ≤ 200 ∧ b.2.2.2 i = nI d ∧ bo i 2 = nI d
theorem pzBits_congr (xy xz : Nat → Nat) : ∀ k, (∀ i, i < k → xy i = xz i) → pzBits xy k = pzBits xz k := by
  intro k
  induction k with
  | zero => exact fun _ => rfl
  | succ k ih =>
    intro h
    rw [pzBits, pzBits, ih (fun i hi => h i (by omega)), h k (by omega)]
abbrev BKf : Type := (Int32) → (Int32) → (Int32) → (Int32) → (Int32) → (Int32) → (Int32) → (Int32) → (Int32) → (Int32) → (Nat → Int32) → (Nat → Nat → Int32) → (Nat → Nat → Int32) → Int32 → Option (Int32 × Int32 × Int32 × Int32 × Int32 × Int32 × Int32 × Int32 × Int32 × Int32 × Int32 × (Nat → Int32) × (Nat → Nat → Int32) × (Nat → Nat → Int32))
theorem rb_tail {n : Nat} {B : Nat → Nat} {v fe : Nat → Int32} (hT : Tp n B v fe) {K : BKf} {i0 i1 i3 i7 i8 i33 y pl he x yy : Int32} {v10 : Nat → Int32} {g23 g : Nat → Nat → Int32} {a k : Nat} (hy : y ≠ 0) (ha : a ≤ n) (hk : k ≤ 8) : ∀ (m j q : Nat), j + m = k → m < q → f_X11_book_b116 fe K q i0 i1 (nI n) i3 (nI a) y pl i7 i8 i33 v10 g23 g (nI k) he x yy (nI j) = K i0 i1 (nI n) i3 (nI (tF n B a)) y pl i7 i8 i33 v10 g23 g (nI k) := by
  intro m
  induction m with
  | zero =>
    intro j q hi hq
    obtain ⟨q, rfl⟩ : ∃ r, q = r + 1 := ⟨q - 1, by omega⟩
    rw [f_X11_book_b116, if_pos (nI_le (by omega) (by omega)), tf_rnum hy, Option.bind_some, tf_rsign hy, Option.bind_some, if_neg hy, f_X11_book_b225, r_blanks hT ha, Option.bind_some]
  | succ m ih =>
    intro j q hi hq
    obtain ⟨q, rfl⟩ : ∃ r, q = r + 1 := ⟨q - 1, by omega⟩
    rw [f_X11_book_b116, if_neg (nI_ge (by omega) (by omega)), if_neg hy, f_X11_book_b163, nI_1]
    exact ih (j + 1) q (by omega) (by omega)
theorem rb_b96f {n : Nat} {B : Nat → Nat} {v fe : Nat → Int32} (hT : Tp n B v fe) {K : BKf} {i0 i1 i3 i7 i8 i33 y pl x : Int32} {v10 : Nat → Int32} {g23 g : Nat → Nat → Int32} {a k : Nat} (hy : y ≠ 0) (ha : a ≤ n) (hk : k ≤ 8) : f_X11_book_b96 fe K i0 i1 (nI n) i3 (nI a) y pl i7 i8 i33 v10 g23 g (nI k) x = K i0 i1 (nI n) i3 (nI (tF n B (tF n B a))) y pl i7 i8 i33 v10 g23 g (nI k) := by
  rw [f_X11_book_b96, r_blanks hT ha, Option.bind_some, tf_rnum hy, Option.bind_some]
  exact rb_tail hT hy (tF_le B ha) hk k 0 4000 (by omega) (by omega)
/-- the lines before, looked through -/
theorem rb_scan {fe : Nat → Int32} {K : BKf} {i0 i1 i2 i3 i4 i7 i8 i33 he : Int32} {v10 : Nat → Int32} {g23 g : Nat → Nat → Int32} {k x y : Nat} {xy : Nat → Nat} (hk : k ≤ 8) (hx : x < 4) (hy : y < 4) (hg : ∀ i, i < k → xy i < 16 ∧ g i 0 = nI (xy i % 4) ∧ g i 1 = nI (xy i / 4)) : ∀ (m j q : Nat), j + m = k → m < q → (∀ i, j ≤ i → i < k → xy i ≠ 4 * y + x) → f_X11_book_b116 fe K q i0 i1 i2 i3 i4 0 (-1) i7 i8 i33 v10 g23 g (nI k) he (nI x) (nI y) (nI j) = f_X11_book_b116 fe K (q - m) i0 i1 i2 i3 i4 0 (-1) i7 i8 i33 v10 g23 g (nI k) he (nI x) (nI y) (nI k) := by
  intro m
  induction m with
  | zero =>
    intro j q hi hq _
    rw [show j = k by omega, Nat.sub_zero]
  | succ m ih =>
    intro j q hi hq hne
    obtain ⟨q, rfl⟩ : ∃ r, q = r + 1 := ⟨q - 1, by omega⟩
    obtain ⟨g1, g2, g3⟩ := hg j (by omega)
    have hj := hne j (by omega) (by omega)
    have h2 := ih (j + 1) q (by omega) (by omega) (fun i c1 c2 => hne i (by omega) c2)
    have hc : ∀ {R : Type} (z : Option R), ck (nI j) 8 z = z := fun z => pu_ck (by omega) (by omega)
    rw [show q + 1 - (m + 1) = q - m by omega, ← h2, f_X11_book_b116, if_neg (nI_ge (by omega) (by omega)), if_pos rfl, hc, nI_clamp (by omega), show g j ((0 : Int32).toNatClampNeg) = nI (xy j % 4) from g2]
    by_cases e : xy j % 4 = x
    · rw [if_pos (by rw [e]), hc, show g j ((1 : Int32).toNatClampNeg) = nI (xy j / 4) from g3, if_neg (by rw [nI_eq (by omega) (by omega)]; omega), f_X11_book_b163, nI_1]
    · rw [if_neg (by rw [nI_eq (by omega) (by omega)]; exact e), f_X11_book_b163, nI_1]
theorem rb_hit {n : Nat} {B : Nat → Nat} {v fe : Nat → Int32} (hT : Tp n B v fe) {K : BKf} {i0 i1 i3 i7 i8 i33 he : Int32} {v10 : Nat → Int32} {g23 g : Nat → Nat → Int32} {a k x y : Nat} {xy : Nat → Nat} (ha : a ≤ n) (hk : k ≤ 8) (hx : x < 4) (hy : y < 4) (hg : ∀ i, i < k → xy i < 16 ∧ g i 0 = nI (xy i % 4) ∧ g i 1 = nI (xy i / 4)) : ∀ (m j q : Nat), j + m = k → m < q → (∃ i, j ≤ i ∧ i < k ∧ xy i = 4 * y + x) → f_X11_book_b116 fe K q i0 i1 (nI n) i3 (nI a) 0 (-1) i7 i8 i33 v10 g23 g (nI k) he (nI x) (nI y) (nI j) = K i0 i1 (nI n) i3 (nI (tF n B a)) 2 he i7 i8 i33 v10 g23 g (nI k) := by
  intro m
  induction m with
  | zero =>
    intro j q hi hq hex
    obtain ⟨i, c1, c2, c3⟩ := hex
    omega
  | succ m ih =>
    intro j q hi hq hex
    obtain ⟨q, rfl⟩ : ∃ r, q = r + 1 := ⟨q - 1, by omega⟩
    obtain ⟨g1, g2, g3⟩ := hg j (by omega)
    have hc : ∀ {R : Type} (z : Option R), ck (nI j) 8 z = z := fun z => pu_ck (by omega) (by omega)
    rw [f_X11_book_b116, if_neg (nI_ge (by omega) (by omega)), if_pos rfl, hc, nI_clamp (by omega), show g j ((0 : Int32).toNatClampNeg) = nI (xy j % 4) from g2]
    by_cases e0 : xy j = 4 * y + x
    · rw [if_pos (by rw [e0]; congr 1; omega), hc, show g j ((1 : Int32).toNatClampNeg) = nI (xy j / 4) from g3, if_pos (by rw [e0]; congr 1; omega), f_X11_wrong, if_pos rfl, Option.bind_some, f_X11_book_b163, nI_1]
      exact rb_tail hT (show (2 : Int32) ≠ 0 by decide) ha hk m (j + 1) q (by omega) (by omega)
    · have h2 := ih (j + 1) q (by omega) (by omega) (by
        obtain ⟨i, c1, c2, c3⟩ := hex
        refine ⟨i, ?_, c2, c3⟩
        by_cases e : i = j
        · rw [e] at c3
          exact absurd c3 e0
        · omega)
      by_cases e : xy j % 4 = x
      · rw [if_pos (by rw [e]), hc, show g j ((1 : Int32).toNatClampNeg) = nI (xy j / 4) from g3, if_neg (by rw [nI_eq (by omega) (by omega)]; omega), f_X11_book_b163, nI_1]
        exact h2
      · rw [if_neg (by rw [nI_eq (by omega) (by omega)]; exact e), f_X11_book_b163, nI_1]
        exact h2
theorem lt3 : (3 : Int32) < nI 100000 := by decide
theorem lt200 : (200 : Int32) < nI 100000 := by decide
theorem sg59 : sgC 59 := by refine ⟨by omega, by omega, by omega, by omega⟩
/-- readLine where the tape is at fault already, or comes to be so with its first number -/
theorem pb_b88f {L f t x y pl x2 i0 i1 : Int32} {v v2 v3 : Nat → Int32} (hy : y ≠ 0) : f_X0_readLine_b88 L v i0 i1 v2 v3 4 f t x y pl x2 = some (i0, i1, v2, v3, 4, f, t, x, y, pl) := by
  rw [f_X0_readLine_b88, tf_num hy, Option.bind_some, tf_num hy, Option.bind_some, tf_sign hy, Option.bind_some, if_neg hy]
theorem bk_line {n : Nat} {B : Nat → Nat} {v fe : Nat → Int32} (hT : Tp n B v fe) {f k : Nat} {s : TS} {xy : Nat → Nat} {b : CX0} {g : Nat → Nat → Int32} (h : TR0 n B f s (nI f, 0, -1)) (hb : PzBn k xy b g) (i0 i1 i3 i7 i8 i33 : Int32) (v10 : Nat → Int32) (g23 : Nat → Nat → Int32) (K : BKf) :
    ∃ b' s' r' g' x', f_X0_readLine b.1 b.2.1 b.2.2.1 b.2.2.2 (nI n) s.1 s.2.1 s.2.2.1 s.2.2.2.1 s.2.2.2.2.1 s.2.2.2.2.2 v = some (b'.1, b'.2.1, b'.2.2.1, b'.2.2.2, s') ∧
      (f_X11_number (nI n) (nI f) 0 (-1) fe 0 3).bind (fun q72 => if q72.2.2.1 = 0 then (if nI k = 8 then ((f_X11_wrong q72.2.2.1 q72.2.2.2 (3) (nI f)).bind fun q93 => f_X11_book_b96 fe K i0 i1 (nI n) i3 q72.2.1 q93.1 q93.2 i7 i8 i33 v10 g23 g (nI k) q72.1) else (f_X11_book_b96 fe K i0 i1 (nI n) i3 q72.2.1 q72.2.2.1 q72.2.2.2 i7 i8 i33 v10 g23 g (nI k) q72.1)) else (f_X11_book_b96 fe K i0 i1 (nI n) i3 q72.2.1 q72.2.2.1 q72.2.2.2 i7 i8 i33 v10 g23 g (nI k) q72.1)) = K i0 i1 (nI n) i3 r'.1 r'.2.1 r'.2.2 i7 i8 i33 v10 g23 g' x' ∧
      ((∃ f' xy', x' = nI (k + 1) ∧ PzBn (k + 1) xy' b' g' ∧ TR0 n B f' s' r' ∧ r' = (nI f', 0, -1)) ∨ TRf n s' r') := by
  have hn := hT.1
  have hf := h.1
  obtain ⟨hk8, hb1, hb2, hdis, hrows⟩ := id hb
  have hg : ∀ i, i < k → xy i < 16 ∧ g i 0 = nI (xy i % 4) ∧ g i 1 = nI (xy i / 4) := fun i hi => ⟨(hrows i hi).1, (hrows i hi).2.2.1, (hrows i hi).2.2.2.1⟩
  obtain ⟨c1, s1, d1, r1, e1, e2, hc1⟩ := t_nm hT h (lo' := 0) (hi := 3) 0 rfl (by omega) lt3
  rw [e2, Option.bind_some]
  have hkl := tK_lt n B f
  have hs1 : s.1 = nI (tK n B f) := by rw [h.2.1]
  have hs4 : s.2.2.2.1 = nI (tV n B f) := by rw [h.2.1]
  have hs2 : s.2.1 = nI f := by rw [h.2.1]
  rcases hc1 with ⟨x, f1, rfl, rfl, -, hx3, hx5, hff, hfn, hxv, hk1, h1⟩ | ⟨rfl, rfl, hF, hno⟩
  · have hx4 : x < 4 := by
      rw [pl3, nI_leI (by omega) (by omega)] at hx3
      omega
    have hf1 := h1.1
    by_cases ek : k = 8
    · -- too many lines
      have hr1 : r1.2.1 = 0 ∧ r1.2.2 = -1 := ⟨h1.ft.2.2.1, h1.ft.2.2.2⟩
      obtain ⟨a1, ha1, hra1⟩ : ∃ a, a ≤ n ∧ r1.1 = nI a := by
        obtain ⟨-, -, a, ha, -, rfl⟩ := id h1
        exact ⟨a, ha, rfl⟩
      refine ⟨b, (4, s.2.1, s.2.2.1, s.2.2.2.1, 3, nI f), (nI (tF n B (tF n B a1)), 3, nI f), g, nI k, ?_, ?_, .inr ⟨s.2.1, s.2.2.1, s.2.2.2.1, 3, nI f, tF n B (tF n B a1), by decide, tF_le B (tF_le B ha1), rfl, rfl⟩⟩
      · rw [f_X0_readLine, if_pos (show s.1 = 1 by rw [hs1, hk1]; rfl), if_neg (show ¬ 3 < s.2.2.2.1 by rw [hs4, ← hxv, pl3]; exact nI_nlt (by omega) (by omega)), if_neg (show ¬ b.1 < 8 by rw [hb1, ek]; decide), f_X7_wrong, if_pos h.ft.1, Option.bind_some, hs2]
      · show (if r1.2.1 = 0 then _ else _) = _
        rw [if_pos hr1.1, if_pos (by rw [ek]; rfl), hr1.1, hr1.2, f_X11_wrong, if_pos rfl, Option.bind_some, hra1]
        exact rb_b96f hT (show (3 : Int32) ≠ 0 by decide) ha1 hk8
    · -- the line's first number is there
      have hc31 : f_X0_readLine b.1 b.2.1 b.2.2.1 b.2.2.2 (nI n) s.1 s.2.1 s.2.2.1 s.2.2.2.1 s.2.2.2.2.1 s.2.2.2.2.2 v = f_X0_readLine_b31 (nI n) v b.1 b.2.1 b.2.2.1 b.2.2.2 s.1 s.2.1 s.2.2.1 s.2.2.2.1 s.2.2.2.2.1 s.2.2.2.2.2 := by
        rw [f_X0_readLine]
        rw [if_pos (show s.1 = 1 by rw [hs1, hk1]; rfl), if_neg (show ¬ 3 < s.2.2.2.1 by rw [hs4, ← hxv, pl3]; exact nI_nlt (by omega) (by omega)), if_pos (show b.1 < 8 by rw [hb1, pl8]; exact nI_lt (by omega) (by omega))]
      rw [hc31, f_X0_readLine_b31, e1, Option.bind_some]
      show ∃ b' s' r' g' x', _ ∧ (if r1.2.1 = 0 then _ else _) = _ ∧ _
      rw [if_pos h1.ft.2.2.1, if_neg (show ¬ nI k = 8 by rw [pl8, nI_eq (by omega) (by omega)]; exact ek)]
      rw [f_X11_book_b96, h1.bl hT, Option.bind_some, h1.ft.2.2.1, h1.ft.2.2.2]
      obtain ⟨c2, s2, d2, r2, e3, e4, hc2⟩ := t_nm hT h1.at (lo' := 0) (hi := 3) 0 rfl (by omega) lt3
      rw [show f_X11_number (nI n) (nI f1) 0 (-1) fe 0 3 = _ from e4, Option.bind_some]
      have hkl1 := tK_lt n B f1
      have ht1 : s1.1 = nI (tK n B f1) := by rw [h1.2.1]
      have ht4 : s1.2.2.2.1 = nI (tV n B f1) := by rw [h1.2.1]
      have ht2 : s1.2.1 = nI f1 := by rw [h1.2.1]
      rcases hc2 with ⟨y, f2, rfl, rfl, -, hy3, hy5, hff2, hfn2, hyv, hk2, h2⟩ | ⟨rfl, rfl, hF, hno⟩
      · have hy4 : y < 4 := by
          rw [pl3, nI_leI (by omega) (by omega)] at hy3
          omega
        obtain ⟨a2, ha2, hra2⟩ : ∃ a, a ≤ n ∧ r2 = (nI a, 0, -1) := by
          obtain ⟨-, -, a, ha, -, rfl⟩ := id h2
          exact ⟨a, ha, rfl⟩
        have hbl := pzBits_lt xy k (fun j hj => (hrows j hj).1)
        have hbit : (b.2.1 >>> ((4 * s1.2.2.2.1 + nI x) &&& 31) &&& 1 = 1) ↔ ∃ j, j < k ∧ xy j = 4 * y + x := by
          rw [hb2, ht4, ← hyv, pl4, pk_mul, nI_add, pl31, pl1, pn_bit (by omega) (by omega), nI_eq (by omega) (by omega), pn_tb, pzBits_tb]
        show ∃ b' s' r' g' x', (if s1.1 = 1 then (if 3 < s1.2.2.2.1 then _ else (if (b.2.1 >>> ((4 * s1.2.2.2.1 + nI x) &&& 31) &&& 1) = 1 then _ else _)) else _) = _ ∧ _
        rw [if_pos (show s1.1 = 1 by rw [ht1, hk2]; rfl), if_neg (show ¬ 3 < s1.2.2.2.1 by rw [ht4, ← hyv, pl3]; exact nI_nlt (by omega) (by omega))]
        by_cases etw : ∃ j, j < k ∧ xy j = 4 * y + x
        · rw [if_pos (hbit.2 etw), f_X0_readLine_b78, if_neg (by decide)]
          refine ⟨b, (4, s1.2.1, s1.2.2.1, s1.2.2.2.1, 2, s1.2.1), (nI (tF n B a2), 2, nI f1), g, nI k, ?_, ?_, .inr ⟨s1.2.1, s1.2.2.1, s1.2.2.2.1, 2, s1.2.1, tF n B a2, by decide, tF_le B ha2, rfl, by rw [ht2]⟩⟩
          · show (f_X7_wrong s1.1 s1.2.1 s1.2.2.2.2.1 s1.2.2.2.2.2 2).bind _ = _
            rw [f_X7_wrong, if_pos h1.ft.1, Option.bind_some]
            exact pb_b88f (show (2 : Int32) ≠ 0 by decide)
          · rw [hra2]
            obtain ⟨j, hj1, hj2⟩ := etw
            exact rb_hit hT ha2 hk8 hx4 hy4 hg k 0 4000 (by omega) (by omega) ⟨j, by omega, hj1, hj2⟩
        · rw [if_neg (fun h3 => etw (hbit.1 h3)), f_X0_readLine_b77, f_X0_readLine_b78, if_pos rfl, f_X0_readLine_b88]
          have hne : ∀ i, 0 ≤ i → i < k → xy i ≠ 4 * y + x := fun i _ hi h3 => etw ⟨i, hi, h3⟩
          rw [hra2]
          have hscan := rb_scan (fe := fe) (K := K) (i0 := i0) (i1 := i1) (i2 := nI n) (i3 := i3) (i4 := nI a2) (i7 := i7) (i8 := i8) (i33 := i33) (he := nI f1) (v10 := v10) (g23 := g23) hk8 hx4 hy4 hg k 0 4000 (by omega) (by omega) hne
          rw [show f_X11_book_b116 fe K 4000 i0 i1 (nI n) i3 (nI y, nI a2, (0 : Int32), (-1 : Int32)).2.1 (nI y, nI a2, (0 : Int32), (-1 : Int32)).2.2.1 (nI y, nI a2, (0 : Int32), (-1 : Int32)).2.2.2 i7 i8 i33 v10 g23 g (nI k) (nI f1) (nI x) (nI y) 0 = _ from hscan]
          obtain ⟨q, hq⟩ : ∃ q, 4000 - k = q + 1 := ⟨3999 - k, by omega⟩
          rw [hq, f_X11_book_b116, if_pos (nI_le (by omega) (by omega))]
          obtain ⟨c3, s3, d3, r3, e5, e6, hc3⟩ := t_nm hT h2 (lo' := 0) (hi := 200) 0 rfl (by omega) lt200
          rw [hra2] at e6
          rw [show f_X11_number (nI n) (nI a2) 0 (-1) fe 0 200 = _ from e6, Option.bind_some]
          rw [show f_X7_takeNumber (nI n) s1.1 s1.2.1 s1.2.2.1 s1.2.2.2.1 s1.2.2.2.2.1 s1.2.2.2.2.2 v 0 3 = _ from e3, Option.bind_some]
          rw [show f_X7_takeNumber (nI n) s2.1 s2.2.1 s2.2.2.1 s2.2.2.2.1 s2.2.2.2.2.1 s2.2.2.2.2.2 v 0 200 = _ from e5, Option.bind_some]
          rcases hc3 with ⟨d, f3, rfl, rfl, -, hd3, hd5, hff3, hfn3, hdv, hk3, h3⟩ | ⟨rfl, rfl, hF, hno⟩
          · have hd200 : d ≤ 200 := by
              rw [pl200, nI_leI (by omega) (by omega)] at hd3
              exact hd3
            obtain ⟨s4, r4, e7, e8, hc4⟩ := t_sign hT h3 (c := 59) (c' := 59) rfl sg59
            rw [show f_X7_takeSign (nI n) s3.1 s3.2.1 s3.2.2.1 s3.2.2.2.1 s3.2.2.2.2.1 s3.2.2.2.2.2 v 59 = _ from e7, Option.bind_some]
            rw [show f_X11_sign (nI n) r3.1 r3.2.1 r3.2.2 fe 59 = _ from e8, Option.bind_some]
            rcases hc4 with ⟨-, -, h4⟩ | ⟨-, hF⟩
            · have hck : ∀ {R : Type} (z : Option R), ck (nI k) 8 z = z := fun z => pu_ck (by omega) (by omega)
              rw [if_pos h4.ft.1, if_pos h4.ft.2.2.1, hb1, hck, hck, hck, hck, hck, nI_clamp (by omega), nI_1, f_X11_book_b225, h4.bl hT, Option.bind_some]
              have hor : b.2.1 ||| ((1 : Int32) <<< ((4 * nI y + nI x) &&& 31)) = nI (pzBits xy k ||| 2 ^ (4 * y + x)) := by
                rw [hb2, pl4, pk_mul, nI_add, pl31, pl1, pn_shl (by omega), pz_or]
              refine ⟨(nI (k + 1), b.2.1 ||| ((1 : Int32) <<< ((4 * nI y + nI x) &&& 31)), upd b.2.2.1 k (4 * nI y + nI x), upd b.2.2.2 k (nI d)), s4, (nI (tF n B (f3 + 1)), r4.2.1, r4.2.2), _, _, rfl, rfl, .inl ⟨tF n B (f3 + 1), (fun i => if i = k then 4 * y + x else xy i), rfl, ⟨by omega, rfl, ?_, ?_, ?_⟩, ?_, ?_⟩⟩
              · show b.2.1 ||| ((1 : Int32) <<< ((4 * nI y + nI x) &&& 31)) = _
                rw [hor, pzBits, if_pos rfl, pzBits_congr (fun i => if i = k then 4 * y + x else xy i) xy k (fun i hi => if_neg (by omega))]
              · intro i j hij hj
                show (if i = k then 4 * y + x else xy i) ≠ (if j = k then 4 * y + x else xy j)
                rw [if_neg (show ¬ i = k by omega)]
                by_cases ej : j = k
                · rw [if_pos ej]
                  exact hne i (by omega) (by omega)
                · rw [if_neg ej]
                  exact hdis i j hij (by omega)
              · intro i hi
                by_cases ei : i = k
                · subst ei
                  show (if i = i then 4 * y + x else xy i) < 16 ∧ upd b.2.2.1 i (4 * nI y + nI x) i = nI (if i = i then 4 * y + x else xy i) ∧ _ = nI ((if i = i then 4 * y + x else xy i) % 4) ∧ _ = nI ((if i = i then 4 * y + x else xy i) / 4) ∧ ∃ d', d' ≤ 200 ∧ upd b.2.2.2 i (nI d) i = nI d' ∧ _ = nI d'
                  rw [if_pos rfl]
                  refine ⟨by omega, ?_, ?_, ?_, d, hd200, ?_, ?_⟩
                  · rw [upd, if_pos rfl, pl4, pk_mul, nI_add]
                  · rw [va_up, if_pos rfl, upd, if_neg (by decide), va_up, if_pos rfl, upd, if_neg (by decide), va_up, if_pos rfl, upd, if_pos (show 0 = (0 : Int32).toNatClampNeg from rfl)]
                    congr 1
                    omega
                  · rw [va_up, if_pos rfl, upd, if_neg (by decide), va_up, if_pos rfl, upd, if_pos (show 1 = (1 : Int32).toNatClampNeg from rfl)]
                    congr 1
                    omega
                  · rw [upd, if_pos rfl]
                  · rw [va_up, if_pos rfl, upd, if_pos (show 2 = (2 : Int32).toNatClampNeg from rfl)]
                · obtain ⟨w1, w2, w3, w4, w5⟩ := hrows i (by omega)
                  show (if i = k then 4 * y + x else xy i) < 16 ∧ upd b.2.2.1 k (4 * nI y + nI x) i = nI (if i = k then 4 * y + x else xy i) ∧ _ = nI ((if i = k then 4 * y + x else xy i) % 4) ∧ _ = nI ((if i = k then 4 * y + x else xy i) / 4) ∧ ∃ d', d' ≤ 200 ∧ upd b.2.2.2 k (nI d) i = nI d' ∧ _ = nI d'
                  rw [if_neg ei, upd, if_neg ei, upd, if_neg ei, va_up, if_neg ei, va_up, if_neg ei, va_up, if_neg ei]
                  exact ⟨w1, w2, w3, w4, w5⟩
              · have h5 := h4.at
                rw [h4.ft.2.2.1, h4.ft.2.2.2]
                exact h5
              · rw [h4.ft.2.2.1, h4.ft.2.2.2]
            · obtain ⟨z1, z2, z3, y', pl, a4, hy', ha4, rfl, rfl⟩ := hF
              rw [if_neg (show ¬ y' = 0 from hy'), if_neg (show ¬ y' = 0 from hy'), f_X11_book_b225, r_blanks hT ha4, Option.bind_some]
              exact ⟨b, (4, z1, z2, z3, y', pl), (nI (tF n B a4), y', pl), g, nI k, rfl, rfl, .inr ⟨z1, z2, z3, y', pl, _, hy', tF_le B ha4, rfl, rfl⟩⟩
          · obtain ⟨z1, z2, z3, y', pl, a4, hy', ha4, rfl, rfl⟩ := hF
            rw [tf_sign hy', Option.bind_some, tf_rsign hy', Option.bind_some, if_neg (show ¬ y' = 0 from hy'), if_neg (show ¬ y' = 0 from hy'), f_X11_book_b225, r_blanks hT ha4, Option.bind_some]
            exact ⟨b, (4, z1, z2, z3, y', pl), (nI (tF n B a4), y', pl), g, nI k, rfl, rfl, .inr ⟨z1, z2, z3, y', pl, _, hy', tF_le B ha4, rfl, rfl⟩⟩
      · obtain ⟨z1, z2, z3, y', pl, a4, hy', ha4, rfl, rfl⟩ := hF
        have hb77 : f_X0_readLine_b77 (nI n) v b.1 b.2.1 b.2.2.1 b.2.2.2 s1.1 s1.2.1 s1.2.2.1 s1.2.2.2.1 s1.2.2.2.2.1 s1.2.2.2.2.2 (nI x) = some (b.1, b.2.1, b.2.2.1, b.2.2.2, 4, z1, z2, z3, y', pl) := by
          rw [f_X0_readLine_b77, f_X0_readLine_b78, if_pos rfl, f_X0_readLine_b88, e3, Option.bind_some, tf_num hy', Option.bind_some, tf_sign hy', Option.bind_some, if_neg hy']
        refine ⟨b, (4, z1, z2, z3, y', pl), (nI (tF n B a4), y', pl), g, nI k, ?_, ?_, .inr ⟨z1, z2, z3, y', pl, _, hy', tF_le B ha4, rfl, rfl⟩⟩
        · show (if s1.1 = 1 then (if 3 < s1.2.2.2.1 then (f_X0_readLine_b77 (nI n) v b.1 b.2.1 b.2.2.1 b.2.2.2 s1.1 s1.2.1 s1.2.2.1 s1.2.2.2.1 s1.2.2.2.2.1 s1.2.2.2.2.2 (nI x)) else _) else (f_X0_readLine_b77 (nI n) v b.1 b.2.1 b.2.2.1 b.2.2.2 s1.1 s1.2.1 s1.2.2.1 s1.2.2.2.1 s1.2.2.2.2.1 s1.2.2.2.2.2 (nI x))) = _
          by_cases ew : s1.1 = 1
          · have ew2 : 3 < s1.2.2.2.1 := by
              rw [ht4, ← Int32.not_le]
              intro h5
              refine hno ⟨?_, by omega, h5⟩
              rw [ht1, pl1, nI_eq (by omega) (by omega)] at ew
              exact ew
            rw [if_pos ew, if_pos ew2, hb77]
          · rw [if_neg ew, hb77]
        · exact rb_tail hT hy' ha4 hk8 k 0 4000 (by omega) (by omega)
  · obtain ⟨z1, z2, z3, y', pl, a4, hy', ha4, rfl, rfl⟩ := hF
    have hb31 : f_X0_readLine_b31 (nI n) v b.1 b.2.1 b.2.2.1 b.2.2.2 s.1 s.2.1 s.2.2.1 s.2.2.2.1 s.2.2.2.2.1 s.2.2.2.2.2 = some (b.1, b.2.1, b.2.2.1, b.2.2.2, 4, z1, z2, z3, y', pl) := by
      rw [f_X0_readLine_b31, e1, Option.bind_some, if_neg (show ¬ (4 : Int32) = 1 by decide), f_X0_readLine_b77, f_X0_readLine_b78, if_pos rfl]
      exact pb_b88f hy'
    refine ⟨b, (4, z1, z2, z3, y', pl), (nI (tF n B (tF n B a4)), y', pl), g, nI k, ?_, ?_, .inr ⟨z1, z2, z3, y', pl, _, hy', tF_le B (tF_le B ha4), rfl, rfl⟩⟩
    · rw [f_X0_readLine]
      by_cases ew : s.1 = 1
      · have ew2 : 3 < s.2.2.2.1 := by
          rw [hs4, ← Int32.not_le]
          intro h5
          refine hno ⟨?_, by omega, h5⟩
          rw [hs1, pl1, nI_eq (by omega) (by omega)] at ew
          exact ew
        rw [if_pos ew, if_pos ew2, hb31]
      · rw [if_neg ew, hb31]
    · show (if y' = 0 then _ else _) = _
      rw [if_neg hy']
      exact rb_b96f hT hy' ha4 hk8

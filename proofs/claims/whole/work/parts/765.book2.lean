/-! book, its loop and its call -/
theorem bk_loop {n : Nat} {B : Nat → Nat} {v fe : Nat → Int32} (hT : Tp n B v fe) (i0 i1 i3 i7 i8 i33 : Int32) (v10 : Nat → Int32) (g23 : Nat → Nat → Int32) : ∀ (m k q1 q2 f : Nat) (s : TS) (b : CX0) (g : Nat → Nat → Int32) (xy : Nat → Nat), k + m = 9 → m < q1 → m < q2 → TR0 n B f s (nI f, 0, -1) → PzBn k xy b g →
    ∃ z b' s' r' g' x', f_X0_read_b6 (nI n) v q1 b.1 b.2.1 b.2.2.1 b.2.2.2 s.1 s.2.1 s.2.2.1 s.2.2.2.1 s.2.2.2.2.1 s.2.2.2.2.2 (nI k) = some (z, b'.1, b'.2.1, b'.2.2.1, b'.2.2.2, s') ∧ f_X11_book_b46 fe q2 i0 i1 (nI n) i3 (nI f) 0 (-1) i7 i8 i33 v10 g23 g (nI k) = f_X11_book_b232 fe i0 i1 (nI n) i3 r'.1 r'.2.1 r'.2.2 i7 i8 i33 v10 g23 g' x' ∧ ((z = 1 ∧ s'.2.2.2.2.2 = -1 ∧ r'.2.1 = 0 ∧ ∃ k' xy', x' = nI k' ∧ PzBn k' xy' b' g') ∨ (z = 0 ∧ TRf n s' r')) := by
  have hn := hT.1
  intro m
  induction m with
  | zero =>
    intro k q1 q2 f s b g xy hk h1 h2 h hb
    have := hb.1
    omega
  | succ m ih =>
    intro k q1 q2 f s b g xy hk h1 h2 h hb
    have hk8 := hb.1
    have hf := h.1
    obtain ⟨q1, rfl⟩ : ∃ r, q1 = r + 1 := ⟨q1 - 1, by omega⟩
    obtain ⟨q2, rfl⟩ : ∃ r, q2 = r + 1 := ⟨q2 - 1, by omega⟩
    have hkl := tK_lt n B f
    have hs1 : s.1 = nI (tK n B f) := by rw [h.2.1]
    rw [f_X0_read_b6, if_neg (show ¬ 8 < nI k by rw [pl8]; exact nI_nlt hk8 (by omega)), if_pos h.ft.1, f_X11_book_b46, if_pos rfl]
    by_cases e : f = n
    · rw [if_pos (show s.1 = 0 by rw [hs1, (tK_0 hf).2 e]; rfl), if_pos (nI_le (by omega) (by omega)), f_X0_read_b37, t_endY h e, Option.bind_some]
      exact ⟨1, b, (s.1, s.2.1, s.2.2.1, s.2.2.2.1, 0, -1), (nI f, 0, -1), g, nI k, rfl, rfl, .inl ⟨rfl, rfl, rfl, k, xy, rfl, hb⟩⟩
    · rw [if_neg (show ¬ s.1 = 0 by rw [hs1, pl0, nI_eq (by omega) (by omega), tK_0 hf]; exact e), if_neg (nI_ge (by omega) (by omega))]
      obtain ⟨b', s', r', g', x', e1, e2, hc⟩ := bk_line hT h hb i0 i1 i3 i7 i8 i33 v10 g23 (f_X11_book_b46 fe q2)
      rw [e1, Option.bind_some, nI_1]
      rcases hc with ⟨f', xy', rfl, hb', h', rfl⟩ | ⟨z1, z2, z3, y, pl, a, hy, ha, rfl, rfl⟩
      · obtain ⟨z, b2, s2, r2, g2, x2, a1, a2, a3⟩ := ih (k + 1) q1 q2 f' s' b' g' xy' (by omega) (by omega) (by omega) h' hb'
        exact ⟨z, b2, s2, r2, g2, x2, a1, e2.trans a2, a3⟩
      · obtain ⟨q1, rfl⟩ : ∃ r, q1 = r + 1 := ⟨q1 - 1, by omega⟩
        obtain ⟨q2, rfl⟩ : ∃ r, q2 = r + 1 := ⟨q2 - 1, by omega⟩
        have e3 : f_X0_read_b37 (nI n) v b'.1 b'.2.1 b'.2.2.1 b'.2.2.2 4 z1 z2 z3 y pl = some (0, b'.1, b'.2.1, b'.2.2.1, b'.2.2.2, 4, z1, z2, z3, y, pl) := by
          rw [f_X0_read_b37, tf_end hy, Option.bind_some]
          rfl
        refine ⟨0, b', (4, z1, z2, z3, y, pl), (nI a, y, pl), g', x', ?_, ?_, .inr ⟨rfl, z1, z2, z3, y, pl, a, hy, ha, rfl, rfl⟩⟩
        · show f_X0_read_b6 (nI n) v (q1 + 1) b'.1 b'.2.1 b'.2.2.1 b'.2.2.2 4 z1 z2 z3 y pl (nI (k + 1)) = _
          rw [f_X0_read_b6, if_neg hy, e3]
          by_cases e4 : 8 < nI (k + 1)
          · rw [if_pos e4]
          · rw [if_neg e4]
        · refine e2.trans ?_
          show f_X11_book_b46 fe (q2 + 1) i0 i1 (nI n) i3 (nI a) y pl i7 i8 i33 v10 g23 g' x' = _
          rw [f_X11_book_b46, if_neg hy]
theorem r_textBad {N M : Nat} {x : Int32} (hM : M < 2 ^ 30) (h : x < 0 ∨ nI N < x ∨ nI M < x) : f_X11_in x 0 (nI N) = some 0 ∨ (f_X11_in x 0 (nI N) = some 1 ∧ ¬ x ≤ nI M) := by
  rw [f_X11_in]
  by_cases h1 : x < 0
  · rw [if_pos h1]
    exact .inl rfl
  · rw [if_neg h1]
    by_cases h2 : nI N < x
    · rw [if_pos h2]
      exact .inl rfl
    · rw [if_neg h2]
      refine .inr ⟨rfl, ?_⟩
      rcases h with h | h | h
      · exact absurd h h1
      · exact absurd h h2
      · rw [Int32.not_le]
        exact h
theorem r_inText {N n : Nat} (h : n ≤ N) (hN : N < 2 ^ 30) : f_X11_in (nI n) 0 (nI N) = some 1 := r_inOk (b := 0) (by omega) h hN
theorem q_book {L i : Nat} {C : CS} {R : RS} {cells slots : Nat} (h : PzInv L i C R cells slots) (hi : i + 7 ≤ L) (x1 : Int32) : pS_book (PzInv L (i + 7)) C R x1 cells slots := by
  obtain ⟨np, no, hd, W, H, hS, hG, hL, hB, hT0, hr⟩ := id h.2.1
  obtain ⟨N, B, hN, ht1, hm1, hpl, hTp⟩ := hT0.tp
  have hk := h.keep (a := 1) (b := 6) hi (by omega) (by omega) h.1
  have hku := h.keep (a := 1) (b := 6) hi (by omega) (by omega) (h.1.up (k := 2))
  rcases bt_cases x1 (N := N) (M := 100) (by omega) (by omega) with hbad | ⟨n, hn1, hn2, rfl⟩
  · have e1 : fC_book C x1 = some (1, 0, 0, upd C.v15 2 (C.v15 2 + 1), C.t.1, C.t.2.1, C.t.2.2.1, C.t.2.2.2.1, C.t.2.2.2.2.1, C.t.2.2.2.2.2.1, C.t.2.2.2.2.2.2.1, C.t.2.2.2.2.2.2.2.1, C.b2.1, C.b2.2.1, C.b2.2.2.1, C.b2.2.2.2) := by
      rw [fC_book, f_X10_book, ht1, bt_bad (mo := 100) hbad, Option.bind_some, if_neg N1z]
    have e24 : f_X11_book_b24 R.v9 0 (nI N) R.i2 R.i3 R.i4 R.i5 R.i6 R.i7 R.i8 R.i33 R.v10 R.g23 R.g24 x1 = some (0, 1, nI N, R.i2, R.i3, R.i4, R.i5, R.i6, R.i7, R.i8, R.i33, upd R.v10 2 (R.v10 2 + 1), R.g23, R.g24) := by
      rw [f_X11_book_b24, f_X11_book_b29, r_B1, Option.bind_some, if_neg n1z]
    have e2 : fR_book R x1 = some (0, 1, R.i1, R.i2, R.i3, R.i4, R.i5, R.i6, R.i7, R.i8, R.i33, upd R.v10 2 (R.v10 2 + 1), R.g23, R.g24) := by
      rw [fR_book, f_X11_book, hm1]
      rcases r_textBad (M := 100) (by omega) hbad with h1 | ⟨h1, h2⟩
      · rw [h1, Option.bind_some, if_pos rfl, e24]
      · rw [h1, Option.bind_some, if_neg (by decide), if_neg (show ¬ x1 ≤ 100 from h2), e24]
    exact .inl ⟨_, _, e1, rfl, e2, .inr rfl, rfl, fun h3 => absurd h3 N1z, pz_fit h (by omega) (by omega), hku⟩
  · have hT := hTp n hn1
    obtain ⟨z, b', s', r', g', x', a1, a2, a3⟩ := bk_loop hT 0 0 R.i3 0 0 R.i33 R.v10 R.g23 9 0 4000 4000 (tF n B 0) (tk n B (tF n B 0)) (0, 0, C.b2.2.2.1, C.b2.2.2.2) R.g24 (fun _ => 0) (by omega) (by omega) (by omega) (TR0.begin n B) ⟨by omega, rfl, rfl, fun i j h1 h2 => by omega, fun i hi => by omega⟩
    have e1 : fC_book C (nI n) = (if z = 0 then (some (0, s'.2.2.2.2.1 - 10, 0, C.v15, 0, nI n, s'.1, s'.2.1, s'.2.2.1, s'.2.2.2.1, s'.2.2.2.2.1, s'.2.2.2.2.2, b'.1, b'.2.1, b'.2.2.1, b'.2.2.2)) else (some (0, b'.1, 1, C.v15, 0, nI n, s'.1, s'.2.1, s'.2.2.1, s'.2.2.2.1, s'.2.2.2.2.1, s'.2.2.2.2.2, b'.1, b'.2.1, b'.2.2.1, b'.2.2.2))) := by
      rw [fC_book, f_X10_book, ht1, bt_ok (M := 100) (mo := 100) hT hn1 hn2 (by omega) (by omega) rfl, Option.bind_some, if_pos rfl, f_X0_read, f_X0_forget, Option.bind_some]
      show (f_X0_read_b6 (nI n) C.t.2.2.2.2.2.2.2.2 4000 0 0 C.b2.2.2.1 C.b2.2.2.2 (nI (tK n B (tF n B 0))) (nI (tF n B 0)) (nI (tT n B (tF n B 0))) (nI (tV n B (tF n B 0))) 0 (-1) 0).bind _ = _
      rw [show f_X0_read_b6 (nI n) C.t.2.2.2.2.2.2.2.2 4000 0 0 C.b2.2.2.1 C.b2.2.2.2 (nI (tK n B (tF n B 0))) (nI (tF n B 0)) (nI (tT n B (tF n B 0))) (nI (tV n B (tF n B 0))) 0 (-1) 0 = _ from a1, Option.bind_some]
    have e2 : fR_book R (nI n) = f_X11_book_b232 R.v9 0 0 (nI n) R.i3 r'.1 r'.2.1 r'.2.2 0 0 R.i33 R.v10 R.g23 g' x' := by
      rw [fR_book, f_X11_book, hm1, r_inText hn1 (by omega), Option.bind_some, if_neg (by decide), if_pos (show nI n ≤ 100 from (show nI n ≤ nI 100 from nI_le hn2 (by omega))), f_X11_book_b29, r_bad0, Option.bind_some, if_pos rfl, t_starts hT, Option.bind_some]
      exact a2
    rcases a3 with ⟨rfl, p1, p2, k', xy', rfl, hb'⟩ | ⟨rfl, z1, z2, z3, y, pl, a, hy, ha, rfl, rfl⟩
    · obtain ⟨g23', l1, l2⟩ := r_lays (g0 := g') (n0 := 8) (m0 := 3) (n1 := 8) (m1 := 3) (by omega) (by omega) (by omega) (by omega) (M := k') hb'.1 R.g23
      rw [if_neg (by decide)] at e1
      rw [f_X11_book_b232, if_pos p2, l1, Option.bind_some] at e2
      obtain ⟨w1, w2, w3, w4, w5⟩ := hb'
      have hB' : PzB b' (nI k') g23' := by
        refine ⟨k', xy', w1, w2, rfl, w3, w4, fun j hj => ?_⟩
        obtain ⟨u1, u2, u3, u4, u5⟩ := w5 j hj
        rw [l2 j hj 0 (by omega), l2 j hj 1 (by omega), l2 j hj 2 (by omega)]
        exact ⟨u1, u2, u3, u4, u5⟩
      have hT' : PzT (0, nI n, s'.1, s'.2.1, s'.2.2.1, s'.2.2.2.1, s'.2.2.2.2.1, s'.2.2.2.2.2, C.t.2.2.2.2.2.2.2.2) 0 (-1) R.v9 := by
        rw [p1]
        exact PzT.none R.v9
      exact .inr ⟨_, _, e1, rfl, e2, .inl rfl, rfl, fun _ => w2, pz_fit h (by omega) (by omega), h.1, ⟨np, no, hd, W, H, hS, hG, hL, hB', hT', hr.1, hr.2.1, hr.2.2.1, hr.2.2.2.1, hr.2.2.2.2.1, hr.2.2.2.2.2⟩, hk.2.2⟩
    · rw [if_pos rfl] at e1
      rw [f_X11_book_b232, if_neg (show ¬ y = 0 from hy), f_X11_ends, Option.bind_some] at e2
      have hT' : PzT (0, nI n, 4, z1, z2, z3, y, pl, C.t.2.2.2.2.2.2.2.2) 0 pl R.v9 := PzT.none R.v9
      exact .inl ⟨_, _, e1, rfl, e2, .inl rfl, rfl, fun _ => rfl, pz_fit h (by omega) (by omega), h.1, ⟨np, no, hd, W, H, hS, hG, hL, hB, hT', hr.1, hr.2.1, hr.2.2.1, hr.2.2.2.1, hr.2.2.2.2.1, hr.2.2.2.2.2⟩, hk.2.2⟩

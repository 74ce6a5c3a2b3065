/-! law, its call -/
theorem q_law {L i : Nat} {C : CS} {R : RS} {cells slots : Nat} (h : PzInv L i C R cells slots) (hi : i + 7 ≤ L) (x1 : Int32) : pS_law (PzInv L (i + 7)) C R x1 cells slots := by
  obtain ⟨np, no, hd, W, H, hS, hG, hL, hB, hT0, hr⟩ := id h.2.1
  obtain ⟨N, B, hN, ht1, hm1, hpl, hTp⟩ := hT0.tp
  have hk := h.keep (a := 1) (b := 6) hi (by omega) (by omega) h.1
  have hku := h.keep (a := 1) (b := 6) hi (by omega) (by omega) (h.1.up (k := 2))
  rcases bt_cases x1 (N := N) (M := 150) (by omega) (by omega) with hbad | ⟨n, hn1, hn2, rfl⟩
  · have e1 : fC_law C x1 = some (1, 0, 0, upd C.v15 2 (C.v15 2 + 1), C.t.1, C.t.2.1, C.t.2.2.1, C.t.2.2.2.1, C.t.2.2.2.2.1, C.t.2.2.2.2.2.1, C.t.2.2.2.2.2.2.1, C.t.2.2.2.2.2.2.2.1, C.l2.1, C.l2.2.1) := by
      rw [fC_law, f_X10_law, ht1, bt_bad (mo := 150) hbad, Option.bind_some, if_neg N1z]
    have e24 : f_X11_law_b25 R.v9 0 (nI N) R.i2 R.i3 R.i4 R.i5 R.i6 R.i7 R.i8 R.i19 R.i20 R.v10 R.g21 R.g22 x1 = some (0, 1, nI N, R.i2, R.i3, R.i4, R.i5, R.i6, R.i7, R.i8, R.i19, R.i20, upd R.v10 2 (R.v10 2 + 1), R.g21, R.g22) := by
      rw [f_X11_law_b25, f_X11_law_b30, r_B1, Option.bind_some, if_neg n1z]
    have e2 : fR_law R x1 = some (0, 1, R.i1, R.i2, R.i3, R.i4, R.i5, R.i6, R.i7, R.i8, R.i19, R.i20, upd R.v10 2 (R.v10 2 + 1), R.g21, R.g22) := by
      rw [fR_law, f_X11_law, hm1]
      rcases r_textBad (M := 150) (by omega) hbad with h1 | ⟨h1, h2⟩
      · rw [h1, Option.bind_some, if_pos rfl, e24]
      · rw [h1, Option.bind_some, if_neg (by decide), if_neg (show ¬ x1 ≤ 150 from h2), e24]
    exact .inl ⟨_, _, e1, rfl, e2, .inr rfl, rfl, fun h3 => absurd h3 N1z, pz_fit h (by omega) (by omega), hku⟩
  · have hT := hTp n hn1
    have hT2 := TR0.begin n B
    obtain ⟨l1, c1, s1, r1, o1, n1, g1, a1, a2, a3⟩ := (lw_all hT hn2).2 (tF n B 0) 0 C.l2.2.1 (tk n B (tF n B 0)) (nI (tF n B 0), 0, -1) R.g22 hT2 (by omega)
    have e1 : fC_law C (nI n) = (f_X7_takeEnd s1.1 s1.2.1 s1.2.2.2.2.1 s1.2.2.2.2.2).bind fun q12 => if q12.1 = 0 then cz q12.1 (some (0, q12.2.2.1 - 10, 0, C.v15, 0, nI n, q12.2.1, s1.2.1, s1.2.2.1, s1.2.2.2.1, q12.2.2.1, q12.2.2.2, l1, c1)) else cz q12.1 (some (0, 1, 1, C.v15, 0, nI n, q12.2.1, s1.2.1, s1.2.2.1, s1.2.2.2.1, q12.2.2.1, q12.2.2.2, l1, c1)) := by
      rw [fC_law, f_X10_law, ht1, bt_ok (M := 150) (mo := 150) hT hn1 hn2 (by omega) (by omega) rfl, Option.bind_some, if_pos rfl, f_X3_read]
      rw [show f_X3_readSum (f_X3_readUnit 9) (0) C.l2.2.1 ((0 : Nat), C.v15, nI n, tk n B (tF n B 0)).2.2.1 ((0 : Nat), C.v15, nI n, tk n B (tF n B 0)).2.2.2.1 ((0 : Nat), C.v15, nI n, tk n B (tF n B 0)).2.2.2.2.1 ((0 : Nat), C.v15, nI n, tk n B (tF n B 0)).2.2.2.2.2.1 ((0 : Nat), C.v15, nI n, tk n B (tF n B 0)).2.2.2.2.2.2.1 ((0 : Nat), C.v15, nI n, tk n B (tF n B 0)).2.2.2.2.2.2.2.1 ((0 : Nat), C.v15, nI n, tk n B (tF n B 0)).2.2.2.2.2.2.2.2 C.t.2.2.2.2.2.2.2.2 0 = some (l1, c1, s1) from a1, Option.bind_some]
      cases f_X7_takeEnd s1.1 s1.2.1 s1.2.2.2.2.1 s1.2.2.2.2.2 with
      | none => rfl
      | some q =>
        show ((cz q.1 _).bind _) = (if q.1 = 0 then _ else _)
        by_cases e : q.1 = 0
        · rw [if_pos e, cz, if_pos (.inl e), Option.bind_some, if_pos e, cz, if_pos (.inl e)]
        · rw [if_neg e]
          by_cases e1 : q.1 = 1
          · rw [cz, if_pos (.inr e1), Option.bind_some, if_neg e, cz, if_pos (.inr e1)]
          · rw [cz, if_neg (by rintro (h1 | h1); exact e h1; exact e1 h1), cz, if_neg (by rintro (h1 | h1); exact e h1; exact e1 h1)]
            rfl
    have e2 : fR_law R (nI n) = (f_X11_blanks (nI n) r1.1 R.v9).bind fun q55 => if r1.2.1 = 0 then (if nI n ≤ q55 then (f_X11_law_b85 R.v9 0 0 (nI n) R.i3 q55 r1.2.1 r1.2.2 0 o1 R.i19 n1 R.v10 R.g21 g1) else ((f_X11_wrong r1.2.1 r1.2.2 (1) q55).bind fun q82 => f_X11_law_b85 R.v9 0 0 (nI n) R.i3 q55 q82.1 q82.2 0 o1 R.i19 n1 R.v10 R.g21 g1)) else (f_X11_law_b85 R.v9 0 0 (nI n) R.i3 q55 r1.2.1 r1.2.2 0 o1 R.i19 n1 R.v10 R.g21 g1) := by
      rw [fR_law, f_X11_law, hm1, r_inText hn1 (by omega), Option.bind_some, if_neg (by decide), if_pos (show nI n ≤ 150 from (show nI n ≤ nI 150 from nI_le hn2 (by omega))), f_X11_law_b30, r_bad0, Option.bind_some, if_pos rfl, t_starts hT, Option.bind_some]
      rw [show f_X11_sum (f_X11_one 9) ((0 : Int32), nI n, nI (tF n B 0), (0 : Int32), (-1 : Int32), (0 : Int32), (0 : Int32)).2.1 ((0 : Int32), nI n, nI (tF n B 0), (0 : Int32), (-1 : Int32), (0 : Int32), (0 : Int32)).2.2.1 ((0 : Int32), nI n, nI (tF n B 0), (0 : Int32), (-1 : Int32), (0 : Int32), (0 : Int32)).2.2.2.1 ((0 : Int32), nI n, nI (tF n B 0), (0 : Int32), (-1 : Int32), (0 : Int32), (0 : Int32)).2.2.2.2.1 ((0 : Int32), nI n, nI (tF n B 0), (0 : Int32), (-1 : Int32), (0 : Int32), (0 : Int32)).2.2.2.2.2.2 (0) R.v9 R.g22 = some (r1.1, r1.2.1, r1.2.2, o1, n1, g1) from a2, Option.bind_some]
    have hfail : ∀ (s' : TS) (q55 y pl : Int32), f_X7_takeEnd s1.1 s1.2.1 s1.2.2.2.2.1 s1.2.2.2.2.2 = some (0, 4, y, pl) → ¬ y = 0 → fR_law R (nI n) = f_X11_law_b85 R.v9 0 0 (nI n) R.i3 q55 y pl 0 o1 R.i19 n1 R.v10 R.g21 g1 → pS_law (PzInv L (i + 7)) C R (nI n) cells slots := by
      intro s' q55 y pl u1 hy u2
      rw [u1, Option.bind_some, if_pos rfl] at e1
      rw [f_X11_law_b85, if_neg hy, f_X11_ends, Option.bind_some] at u2
      have hT' : PzT (0, nI n, 4, s1.2.1, s1.2.2.1, s1.2.2.2.1, y, pl, C.t.2.2.2.2.2.2.2.2) 0 pl R.v9 := PzT.none R.v9
      have e1' : fC_law C (nI n) = some (0, y - 10, 0, C.v15, 0, nI n, 4, s1.2.1, s1.2.2.1, s1.2.2.2.1, y, pl, l1, c1) := e1
      exact .inl ⟨_, _, e1', rfl, u2, .inl rfl, rfl, fun _ => rfl, pz_fit h (by omega) (by omega), h.1, ⟨np, no, hd, W, H, hS, hG, hL, hB, hT', hr.1, hr.2.1, hr.2.2.1, hr.2.2.2.1, hr.2.2.2.2.1, hr.2.2.2.2.2⟩, hk.2.2⟩
    rcases a3 with ⟨k1, f1, rfl, rfl, rfl, b1, b2, b3, b4, b5, b6⟩ | ⟨⟨k1, hk1, rfl⟩, x1, x2, x3, y, pl, a, hy, ha, rfl, rfl⟩
    · have hf1 := b1.1
      have z := b1.ft.2.2.1
      have z2 := b1.ft.2.2.2
      rw [TR0.bl hT b1, Option.bind_some, if_pos z] at e2
      by_cases e : f1 = n
      · rw [t_endY b1 e, Option.bind_some, if_neg n1z] at e1
        have e1' : fC_law C (nI n) = some (0, 1, 1, C.v15, 0, nI n, s1.1, s1.2.1, s1.2.2.1, s1.2.2.2.1, 0, -1, nI k1, c1) := e1
        have hk150 : k1 ≤ 150 := by omega
        obtain ⟨g21', q1, q2⟩ := r_lays (g0 := g1) (n0 := 160) (m0 := 2) (n1 := 160) (m1 := 2) (by omega) (by omega) (by omega) (by omega) (M := k1) (by omega) R.g21
        rw [if_pos (show nI n ≤ nI f1 by rw [e]; exact nI_le (by omega) (by omega)), f_X11_law_b85, if_pos z, q1, Option.bind_some] at e2
        obtain ⟨ht, t1, t2, t3⟩ := b6 0 (by omega)
        have hL' : PzL (nI k1, c1, C.l2.2.2) (nI k1) g21' := by
          refine ⟨k1, hk150, rfl, .inr ⟨rfl, ht, t1, t2, fun j hj => ?_⟩⟩
          have hst := t3 j (by omega) hj
          rw [q2 j hj 0 (by omega), q2 j hj 1 (by omega)]
          exact hst
        have hT' : PzT (0, nI n, s1.1, s1.2.1, s1.2.2.1, s1.2.2.2.1, 0, -1, C.t.2.2.2.2.2.2.2.2) 0 (-1) R.v9 := PzT.none R.v9
        exact .inr ⟨_, _, e1', rfl, e2, .inl rfl, rfl, fun _ => rfl, pz_fit h (by omega) (by omega), h.1, ⟨np, no, hd, W, H, hS, hG, hL', hB, hT', hr.1, hr.2.1, hr.2.2.1, hr.2.2.2.1, hr.2.2.2.2.1, hr.2.2.2.2.2⟩, hk.2.2⟩
      · rw [if_neg (nI_ge (show f1 < n by omega) (by omega)), f_X11_wrong, if_pos z, Option.bind_some] at e2
        exact hfail s1 (nI f1) 1 (nI f1) (t_endN b1 e) (by decide) e2
    · have hbl : f_X11_blanks (nI n) (nI a) R.v9 = some (nI (tF n B a)) := r_blanks hT ha
      rw [show f_X11_blanks (nI n) (nI a, y, pl).1 R.v9 = _ from hbl, Option.bind_some, if_neg hy] at e2
      exact hfail (4, x1, x2, x3, y, pl) (nI (tF n B a)) y pl (tf_end hy) hy e2

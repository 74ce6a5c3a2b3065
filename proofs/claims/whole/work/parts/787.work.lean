/-! work: its call -/
theorem wr_top {n : Nat} {B : Nat → Nat} {v fe : Nat → Int32} (hT : Tp n B v fe) (hn : n ≤ 200) {np : Nat} {W H : Nat → Nat} {w hh to : Nat → Int32} {pa : Nat → Nat → Int32} {ra od la : Nat → Nat → Int32} {m19 : Int32} {F : WCF} (hW : WrOK n B v fe np W H w hh to pa F (f_X11_readsStep 9) 0) (i0 i1 i3 i7 i34 i35 i38 i39 : Int32) (v10 v25 v26 v29 : Nat → Int32) (g31 : Nat → Nat → Int32) : ∀ (m i q1 q2 f k : Nat) (A : AS) (s : TS) (g : Nat → Nat → Int32), n ≤ f + m → m + 1 < q1 → m + 1 < q2 → 4 * i ≤ f → 4 * k ≤ f → TR0 n B f s (nI f, 0, -1) →
    ∃ k' A' s1 r' op' cnt' g', f_X9_readSteps_b3 F (nI n) v (nI np) w hh q1 (nI k) A.1 A.2.1 A.2.2.1 A.2.2.2.1 A.2.2.2.2.1 A.2.2.2.2.2.1 A.2.2.2.2.2.2 s.1 s.2.1 s.2.2.1 s.2.2.2.1 s.2.2.2.2.1 s.2.2.2.2.2 (nI 0) (nI i) = some (k', A'.1, A'.2.1, A'.2.2.1, A'.2.2.2.1, A'.2.2.2.2.1, A'.2.2.2.2.2.1, A'.2.2.2.2.2.2, s1) ∧ f_X11_work_b72 m19 fe to pa ra od la q2 i0 i1 (nI n) i3 (nI f) 0 (-1) i7 (nI 0) (nI k) i34 i35 i38 i39 v10 v25 v26 v29 g g31 = f_X11_work_b101 m19 fe to pa ra od la i0 i1 (nI n) i3 r'.1 r'.2.1 r'.2.2 i7 op' cnt' i34 i35 i38 i39 v10 v25 v26 v29 g' g31 ∧ ((∃ kk f', k' = nI kk ∧ cnt' = nI kk ∧ f_X7_takeEnd s1.1 s1.2.1 s1.2.2.2.2.1 s1.2.2.2.2.2 = some (1, s1.1, 0, -1) ∧ r'.2.1 = 0 ∧ WrY n B np W H 0 f k A g kk f' A' s1 r' g') ∨ (∃ y pl, ¬ y = 0 ∧ f_X7_takeEnd s1.1 s1.2.1 s1.2.2.2.2.1 s1.2.2.2.2.2 = some (0, 4, y, pl) ∧ r'.2.1 = y ∧ r'.2.2 = pl)) := by
  have hn6 := hT.1
  have hno : ∀ (i q1 q2 f k : Nat) (A : AS) (s : TS) (g : Nat → Nat → Int32), TR0 n B f s (nI f, 0, -1) → ¬ f < tW n B f → ∃ k' A' s1 r' op' cnt' g', f_X9_readSteps_b3 F (nI n) v (nI np) w hh (q1 + 2) (nI k) A.1 A.2.1 A.2.2.1 A.2.2.2.1 A.2.2.2.2.1 A.2.2.2.2.2.1 A.2.2.2.2.2.2 s.1 s.2.1 s.2.2.1 s.2.2.2.1 s.2.2.2.2.1 s.2.2.2.2.2 (nI 0) (nI i) = some (k', A'.1, A'.2.1, A'.2.2.1, A'.2.2.2.1, A'.2.2.2.2.1, A'.2.2.2.2.2.1, A'.2.2.2.2.2.2, s1) ∧ f_X11_work_b72 m19 fe to pa ra od la (q2 + 2) i0 i1 (nI n) i3 (nI f) 0 (-1) i7 (nI 0) (nI k) i34 i35 i38 i39 v10 v25 v26 v29 g g31 = f_X11_work_b101 m19 fe to pa ra od la i0 i1 (nI n) i3 r'.1 r'.2.1 r'.2.2 i7 op' cnt' i34 i35 i38 i39 v10 v25 v26 v29 g' g31 ∧ ((∃ kk f', k' = nI kk ∧ cnt' = nI kk ∧ f_X7_takeEnd s1.1 s1.2.1 s1.2.2.2.2.1 s1.2.2.2.2.2 = some (1, s1.1, 0, -1) ∧ r'.2.1 = 0 ∧ WrY n B np W H 0 f k A g kk f' A' s1 r' g') ∨ (∃ y pl, ¬ y = 0 ∧ f_X7_takeEnd s1.1 s1.2.1 s1.2.2.2.2.1 s1.2.2.2.2.2 = some (0, 4, y, pl) ∧ r'.2.1 = y ∧ r'.2.2 = pl)) := by
    intro i q1 q2 f k A s g h e
    have hf := h.1
    by_cases en : f = n
    · refine ⟨nI k, A, s, (nI f, 0, -1), nI 0, nI k, g, wrn_b3 h e (nI k) A (nI 0) (nI i), ?_, .inl ⟨k, f, rfl, rfl, t_endY h en, rfl, h, by omega, by omega, Nat.le_refl k, fun i hi => ⟨⟨rfl, rfl, rfl, rfl, rfl, rfl, rfl⟩, fun j => rfl⟩, ⟨0, rfl⟩, fun i i1 i2 => by omega⟩⟩
      rw [f_X11_work_b72, if_pos rfl, if_pos (nI_le (show n ≤ f by omega) (by omega))]
    · refine ⟨nI k, A, s, (nI f, 1, nI f), nI 0, nI k, g, wrn_b3 h e (nI k) A (nI 0) (nI i), ?_, .inr ⟨1, nI f, by decide, t_endN h en, rfl, rfl⟩⟩
      rw [f_X11_work_b72, if_pos rfl, if_neg (nI_ge (show f < n by omega) (by omega))]
      rw [show f_X11_readsStep 9 (nI n) (nI f) 0 (-1) (nI 0) (nI k) fe to pa g = _ from hW.2 f s (nI f, 0, -1) (nI 0) (nI k) g h e, Option.bind_some]
      have hbl := TR0.bl hT h
      rw [show f_X11_blanks (nI n) (nI f) fe = some (nI f) from hbl, Option.bind_some, f_X11_work_b72, if_neg n1z]
  intro m
  induction m with
  | zero =>
    intro i q1 q2 f k A s g hm h1 h2 hi hk h
    obtain ⟨q1, rfl⟩ : ∃ r, q1 = r + 2 := ⟨q1 - 2, by omega⟩
    obtain ⟨q2, rfl⟩ : ∃ r, q2 = r + 2 := ⟨q2 - 2, by omega⟩
    have hf := h.1
    have := tW_le B hf
    exact hno i q1 q2 f k A s g h (by omega)
  | succ m ih =>
    intro i q1 q2 f k A s g hm h1 h2 hi hk h
    obtain ⟨q1, rfl⟩ : ∃ r, q1 = r + 2 := ⟨q1 - 2, by omega⟩
    obtain ⟨q2, rfl⟩ : ∃ r, q2 = r + 2 := ⟨q2 - 2, by omega⟩
    have hf := h.1
    have hwn := tW_le B hf
    by_cases e : f < tW n B f
    · have hs1 : s.1 = 2 := by
        rw [h.2.1]
        show nI (tK n B f) = 2
        rw [(tK_2 hf).2 e]
        rfl
      obtain ⟨k', A', s1, s', r', op', cnt', g', a1, a2, a3, a4⟩ := hW.1 f k A s (nI f, 0, -1) g h e hk
      have hC : f_X9_readSteps_b3 F (nI n) v (nI np) w hh (q1 + 2) (nI k) A.1 A.2.1 A.2.2.1 A.2.2.2.1 A.2.2.2.2.1 A.2.2.2.2.2.1 A.2.2.2.2.2.2 s.1 s.2.1 s.2.2.1 s.2.2.2.1 s.2.2.2.2.1 s.2.2.2.2.2 (nI 0) (nI i) = f_X9_readSteps_b3 F (nI n) v (nI np) w hh (q1 + 1) k' A'.1 A'.2.1 A'.2.2.1 A'.2.2.2.1 A'.2.2.2.2.1 A'.2.2.2.2.2.1 A'.2.2.2.2.2.2 s'.1 s'.2.1 s'.2.2.1 s'.2.2.2.1 s'.2.2.2.2.1 s'.2.2.2.2.2 (nI 0) (nI (i + 1)) := by
        rw [f_X9_readSteps_b3, if_neg (show ¬ 50 ≤ nI i from nI_ge (b := 50) (by omega) (by omega)), if_pos hs1, a1, Option.bind_some, a2, Option.bind_some, nI_1]
      have hR : f_X11_work_b72 m19 fe to pa ra od la (q2 + 2) i0 i1 (nI n) i3 (nI f) 0 (-1) i7 (nI 0) (nI k) i34 i35 i38 i39 v10 v25 v26 v29 g g31 = (f_X11_blanks (nI n) r'.1 fe).bind fun q95 => f_X11_work_b72 m19 fe to pa ra od la (q2 + 1) i0 i1 (nI n) i3 q95 r'.2.1 r'.2.2 i7 op' cnt' i34 i35 i38 i39 v10 v25 v26 v29 g' g31 := by
        rw [f_X11_work_b72, if_pos rfl, if_neg (nI_ge (show f < n by omega) (by omega))]
        rw [show f_X11_readsStep 9 (nI n) (nI f) 0 (-1) (nI 0) (nI k) fe to pa g = _ from a3, Option.bind_some]
      rcases a4 with ⟨kk, f', rfl, rfl, rfl, h4, hy⟩ | hF
      · have hy3 := hy.2.2.1
        obtain ⟨k2, A2, s2, r3, op3, cnt3, g3, b1, b3, b4⟩ := ih (i + 1) (q1 + 1) (q2 + 1) f' kk A' s' g' (by omega) (by omega) (by omega) (by omega) (by omega) hy.1.at
        refine ⟨k2, A2, s2, r3, op3, cnt3, g3, hC.trans b1, ?_, ?_⟩
        · rw [hR, TR0.bl hT hy.1, Option.bind_some, hy.1.ft.2.2.1, hy.1.ft.2.2.2]
          exact b3
        · rcases b4 with ⟨kk2, f2, rfl, rfl, b5, b6, hy2⟩ | b4
          · exact .inl ⟨kk2, f2, rfl, rfl, b5, b6, WrY.comp hy hy2⟩
          · exact .inr b4
      · obtain ⟨a, c1, c2⟩ := hF.bl hT
        refine ⟨k', A', s', (a, r'.2.1, r'.2.2), op', cnt', g', hC.trans (wrf_b3 hF k' A' (nI 0) (nI (i + 1))), ?_, ?_⟩
        · rw [hR, c1, Option.bind_some, f_X11_work_b72, if_neg hF.ne]
        · obtain ⟨x1, x2, x3, y, pl, a, hy, ha, rfl, rfl⟩ := hF
          exact .inr ⟨y, pl, hy, tf_end hy, rfl, rfl⟩
    · exact hno i q1 q2 f k A s g h e
theorem PzS.wst {np no hd : Nat} {W H : Nat → Nat} {s : CX6} {to : Nat → Int32} {pa ra od : Nat → Nat → Int32} (hS : PzS np no hd W H s to pa ra od) : WSt np W H s.2.2.2.2.2.2.1 s.2.2.2.2.2.2.2.1 to pa :=
  ⟨hS.1, hS.2.2.2.1.2, fun p hp => by
    obtain ⟨n1, n2, n3, n4, n5, n6, n7, n8, n9⟩ := hS.2.2.2.2.2.2.2.2.2.1 p hp
    exact ⟨n1.2, n2.2, n3, n4, n5, n6⟩⟩
theorem nul_up (B : Nat → Option Nat) (k x : Nat) : ∀ n, nulN (va_up B k (some x)) n ≤ nulN B n := by
  intro n
  induction n with
  | zero => exact Nat.le_refl _
  | succ n ih =>
    rw [nulN, nulN, va_up]
    by_cases e : n = k
    · rw [if_pos e, if_pos (show (some x).isSome = true from rfl)]
      omega
    · rw [if_neg e]
      omega
theorem q_work {L i : Nat} {C : CS} {R : RS} {cells slots : Nat} (h : PzInv L i C R cells slots) (hi : i + 7 ≤ L) (x1 : Int32) : pS_work (PzInv L (i + 7)) C R x1 cells slots := by
  obtain ⟨np, no, hd, W, H, hS, hG, hL, hB, hT0, hP, hr⟩ := id h.2.1
  have h30 := hS.2.2.1.2
  obtain ⟨N, B, hN, ht1, hm1, hpl, hTp⟩ := hT0.tp
  have hk := h.keep (a := 1) (b := 6) hi (by omega) (by omega) h.1
  have hk5 := h.keep (a := 5) (b := 2695) hi (by omega) (by omega) h.1
  have hku := h.keep (a := 1) (b := 6) hi (by omega) (by omega) (h.1.up (k := 2))
  rcases bt_cases x1 (N := N) (M := 200) (by omega) (by omega) with hbad | ⟨n, hn1, hn2, rfl⟩
  · have e1 : f_X10_beginText C.v15 C.t.1 C.t.2.1 C.t.2.2.1 C.t.2.2.2.1 C.t.2.2.2.2.1 C.t.2.2.2.2.2.1 C.t.2.2.2.2.2.2.1 C.t.2.2.2.2.2.2.2.1 C.t.2.2.2.2.2.2.2.2 x1 200 = some (1, upd C.v15 2 (C.v15 2 + 1), C.t.2.1, C.t.2.2.1, C.t.2.2.2.1, C.t.2.2.2.2.1, C.t.2.2.2.2.2.1, C.t.2.2.2.2.2.2.1, C.t.2.2.2.2.2.2.2.1) := by
      rw [ht1, bt_bad (mo := 200) hbad]
    have e24 : f_X11_work_b25 R.i19 R.v9 R.v12 R.g14 R.g16 R.g18 R.g21 0 (nI N) R.i2 R.i3 R.i4 R.i5 R.i6 R.i7 R.i8 R.i28 R.i34 R.i35 R.i38 R.i39 R.v10 R.v25 R.v26 R.v29 R.g27 R.g31 x1 = some (0, 1, nI N, R.i2, R.i3, R.i4, R.i5, R.i6, R.i7, R.i8, R.i28, R.i34, R.i35, R.i38, R.i39, upd R.v10 2 (R.v10 2 + 1), R.v25, R.v26, R.v29, R.g27, R.g31) := by
      rw [f_X11_work_b25, f_X11_work_b30, r_B1, Option.bind_some, if_neg n1z]
    have e2 : fR_work R x1 = some (0, 1, R.i1, R.i2, R.i3, R.i4, R.i5, R.i6, R.i7, R.i8, R.i28, R.i34, R.i35, R.i38, R.i39, upd R.v10 2 (R.v10 2 + 1), R.v25, R.v26, R.v29, R.g27, R.g31) := by
      rw [fR_work, f_X11_work, hm1]
      rcases r_textBad (M := 200) (by omega) hbad with h1 | ⟨h1, h2⟩
      · rw [h1, Option.bind_some, if_pos rfl, e24]
      · rw [h1, Option.bind_some, if_neg (by decide), if_neg (show ¬ x1 ≤ 200 from h2), e24]
    exact .inl ⟨_, _, e1, N1z, e2, .inr rfl, rfl, fun h3 => absurd h3 N1z, pz_fit h (by omega) (by omega), hku⟩
  · have hT := hTp n hn1
    have e1 : f_X10_beginText C.v15 C.t.1 C.t.2.1 C.t.2.2.1 C.t.2.2.2.1 C.t.2.2.2.2.1 C.t.2.2.2.2.2.1 C.t.2.2.2.2.2.2.1 C.t.2.2.2.2.2.2.2.1 C.t.2.2.2.2.2.2.2.2 (nI n) 200 = some (0, C.v15, nI n, tk n B (tF n B 0)) := by
      rw [ht1]
      exact bt_ok (M := 200) (mo := 200) hT hn1 hn2 (by omega) (by omega) rfl _ _ _ _ _ _ _
    have e2 : fR_work R (nI n) = if R.i34 = 8 then (some ((-20), 0, 0, R.i2, (-1), R.i4, R.i5, R.i6, R.i7, R.i8, R.i28, R.i34, R.i35, R.i38, R.i39, R.v10, R.v25, R.v26, R.v29, R.g27, R.g31)) else f_X11_work_b72 R.i19 R.v9 R.v12 R.g14 R.g16 R.g18 R.g21 4000 0 0 (nI n) R.i3 (nI (tF n B 0)) 0 (-1) 0 0 0 R.i34 R.i35 R.i38 R.i39 R.v10 R.v25 R.v26 R.v29 R.g27 R.g31 := by
      rw [fR_work, f_X11_work, hm1, r_inText hn1 (by omega), Option.bind_some, if_neg (by decide), if_pos (show nI n ≤ 200 from (show nI n ≤ nI 200 from nI_le hn2 (by omega))), f_X11_work_b30, r_bad0, Option.bind_some, if_pos rfl, t_starts hT, Option.bind_some]
    obtain ⟨k, hk8, hi2, hi34, hPj⟩ := id hP
    by_cases ek : k = 8
    · rw [if_pos (show R.i34 = 8 by rw [hi34, ek]; rfl)] at e2
      have hT' : PzT (0, nI n, nI (tK n B (tF n B 0)), nI (tF n B 0), nI (tT n B (tF n B 0)), nI (tV n B (tF n B 0)), 0, -1, C.t.2.2.2.2.2.2.2.2) 0 (-1) R.v9 := PzT.none R.v9
      exact .inr (.inl ⟨_, _, e1, rfl, by rw [hi2, ek]; decide, e2, .inl rfl, rfl, fun _ => rfl, pz_fit h (by omega) (by omega), h.1, ⟨np, no, hd, W, H, hS, hG, hL, hB, hT', hP, hr⟩, hk.2.2⟩)
    · have hk7 : k < 8 := by omega
      rw [if_neg (show ¬ R.i34 = 8 by rw [hi34, pl8, nI_eq (by omega) (by omega)]; exact ek)] at e2
      obtain ⟨k', A', s1, r', op', cnt', g', a1, a2, a3⟩ := wr_top hT hn2 (ra := R.g16) (od := R.g18) (la := R.g21) (m19 := R.i19) (wr_all hT hn2 hS.wst 9 0 (by omega) (by omega)) 0 0 R.i3 0 R.i34 R.i35 R.i38 R.i39 R.v10 R.v25 R.v26 R.v29 R.g31 n 0 4000 4000 (tF n B 0) 0 C.j.2.2.2.2 (tk n B (tF n B 0)) R.g27 (by omega) (by omega) (by omega) (by omega) (by omega) (TR0.begin n B)
      have e3 : fR_work R (nI n) = f_X11_work_b101 R.i19 R.v9 R.v12 R.g14 R.g16 R.g18 R.g21 0 0 (nI n) R.i3 r'.1 r'.2.1 r'.2.2 0 op' cnt' R.i34 R.i35 R.i38 R.i39 R.v10 R.v25 R.v26 R.v29 g' R.g31 := e2.trans a2
      have hs1 : C.s1.1 = nI np := hS.2.2.2.1.1
      have e4 : ∀ (z : Int32) (x : Int32 × Int32 × Int32), (z = 0 ∨ z = 1) → f_X7_takeEnd s1.1 s1.2.1 s1.2.2.2.2.1 s1.2.2.2.2.2 = some (z, x) → f_X9_read C.j.1 C.j.2.2.2.2.1 C.j.2.2.2.2.2.1 C.j.2.2.2.2.2.2.1 C.j.2.2.2.2.2.2.2.1 C.j.2.2.2.2.2.2.2.2.1 C.j.2.2.2.2.2.2.2.2.2.1 C.j.2.2.2.2.2.2.2.2.2.2 (nI n) (nI (tK n B (tF n B 0))) (nI (tF n B 0)) (nI (tT n B (tF n B 0))) (nI (tV n B (tF n B 0))) 0 (-1) C.t.2.2.2.2.2.2.2.2 C.s1.1 C.s1.2.2.2.2.2.2.1 C.s1.2.2.2.2.2.2.2.1 = some (z, k', A'.1, A'.2.1, A'.2.2.1, A'.2.2.2.1, A'.2.2.2.2.1, A'.2.2.2.2.2.1, A'.2.2.2.2.2.2, x.1, s1.2.1, s1.2.2.1, s1.2.2.2.1, x.2.1, x.2.2) := by
        intro z x hz hx
        rw [f_X9_read, f_X9_readSteps, hs1]
        rw [show f_X9_readSteps_b3 (f_X9_readStep 9) (nI n) C.t.2.2.2.2.2.2.2.2 (nI np) C.s1.2.2.2.2.2.2.1 C.s1.2.2.2.2.2.2.2.1 4000 0 C.j.2.2.2.2.1 C.j.2.2.2.2.2.1 C.j.2.2.2.2.2.2.1 C.j.2.2.2.2.2.2.2.1 C.j.2.2.2.2.2.2.2.2.1 C.j.2.2.2.2.2.2.2.2.2.1 C.j.2.2.2.2.2.2.2.2.2.2 (nI (tK n B (tF n B 0))) (nI (tF n B 0)) (nI (tT n B (tF n B 0))) (nI (tV n B (tF n B 0))) 0 (-1) 0 0 = _ from a1, Option.bind_some, hx, Option.bind_some, cz01 hz]
      rcases a3 with ⟨kk, f', rfl, rfl, b1, b2, hy⟩ | ⟨y, pl, hy, b1, b2, b3⟩
      · have e5 := e4 1 (s1.1, 0, -1) (.inr rfl) b1
        obtain ⟨y1, y2, y3, y4, y5, ⟨m, y6⟩, y7⟩ := hy
        have hf' := y1.1
        have hx := x_steps hS hL.val2 (v0 := A'.1) (v1 := A'.2.1) (v2 := A'.2.2.1) (v3 := A'.2.2.2.1) (v4 := A'.2.2.2.2.1) (v5 := A'.2.2.2.2.2.1) (v6 := A'.2.2.2.2.2.2) (g := g') 9 0 (by omega) (by omega) m 0 kk (by omega) (fun i i1 i2 => y7 i i1 i2) y6
        obtain ⟨c', r2, z1, z2, z3⟩ := hx (0, 0, 0, C.l1.2.2, C.n.1, C.n.2.1, C.n.2.2.1, C.n.2.2.2.1, C.n.2.2.2.2.1, C.n.2.2.2.2.2.1, C.n.2.2.2.2.2.2.1, C.n.2.2.2.2.2.2.2, C.h.2.2.2.1) (0, 0, 0, R.v25, R.v26, R.v29) ⟨0, by omega, rfl, rfl, rfl, rfl, hG⟩
        obtain ⟨bg, hbg, w1, w2, w3, w4, w5⟩ := z3
        obtain ⟨t, t1, t2⟩ := r_copies R.v29 (R.g31 k)
        rw [f_X11_work_b101, if_pos b2, hi34, pu_ck hk7 (by omega), nI_clamp (by omega), t1, Option.bind_some] at e3
        rw [show f_X11_goes 9 R.i19 0 0 0 R.v12 R.v25 R.v26 R.v29 R.g14 R.g16 R.g18 R.g21 g' 0 (nI kk) = some r2 from z2, Option.bind_some, nI_1] at e3
        have e6 : f_X9_doAll (nI kk) C.j.2.1 C.j.2.2.1 C.j.2.2.2.1 A'.1 A'.2.1 A'.2.2.1 A'.2.2.2.1 A'.2.2.2.2.1 A'.2.2.2.2.2.1 A'.2.2.2.2.2.2 C.s1.1 C.s1.2.2.1 C.s1.2.2.2.2.2.1 C.s1.2.2.2.2.2.2.2.2.2.1 C.s1.2.2.2.2.2.2.2.2.2.2.1 C.s1.2.2.2.2.2.2.2.2.2.2.2.1 C.s1.2.2.2.2.2.2.2.2.2.2.2.2 C.l1.1 C.l1.2.1 C.l1.2.2 C.n.1 C.n.2.1 C.n.2.2.1 C.n.2.2.2.1 C.n.2.2.2.2.1 C.n.2.2.2.2.2.1 C.n.2.2.2.2.2.2.1 C.n.2.2.2.2.2.2.2 C.h.2.2.2.1 = some c' := by
          rw [f_X9_doAll]
          rw [show f_X9_doSteps 9 0 0 0 A'.1 A'.2.1 A'.2.2.1 A'.2.2.2.1 A'.2.2.2.2.1 A'.2.2.2.2.2.1 A'.2.2.2.2.2.2 C.s1.1 C.s1.2.2.1 C.s1.2.2.2.2.2.1 C.s1.2.2.2.2.2.2.2.2.2.1 C.s1.2.2.2.2.2.2.2.2.2.2.1 C.s1.2.2.2.2.2.2.2.2.2.2.2.1 C.s1.2.2.2.2.2.2.2.2.2.2.2.2 C.l1.1 C.l1.2.1 C.l1.2.2 C.n.1 C.n.2.1 C.n.2.2.1 C.n.2.2.2.1 C.n.2.2.2.2.1 C.n.2.2.2.2.2.1 C.n.2.2.2.2.2.2.1 C.n.2.2.2.2.2.2.2 C.h.2.2.2.1 0 (nI kk) 0 = some c' from z1, Option.bind_some]
        have hT' : PzT (0, nI n, s1.1, s1.2.1, s1.2.2.1, s1.2.2.2.1, 0, -1, C.t.2.2.2.2.2.2.2.2) 0 (-1) R.v9 := PzT.none R.v9
        refine .inr (.inr (.inr ⟨k, _, _, _, _, hk7, hi2.symm, hr.2.2.1, hr.2.2.2.1, e1, rfl, e5, n1z, e6, e3, .inl rfl, rfl, fun _ => w3, pz_fit h (by omega) (by omega), fun u => ⟨h.1, ⟨np, no, hd, W, H, hS, w5, hL, hB, hT', ?_, hr.1, w4, hr.2.2⟩, hk5.2.2.1, hk5.2.2.2.1, hk5.2.2.2.2.1, ?_⟩⟩))
        · refine ⟨k + 1, by omega, ?_, rfl, fun j hj => ?_⟩
          · show C.i2 + 1 = nI (k + 1)
            rw [hi2, nI_1]
          · show (va_up C.B k (some u.1) j).isSome = true ∧ PzGX np hd W H (va_up C.G k (g_cp u.2.2 C.n) j) (va_up R.g31 k t j)
            by_cases ej : j = k
            · rw [va_up, va_up, va_up, if_pos ej, if_pos ej, if_pos ej]
              exact ⟨rfl, hG.cp h30 u.2.2 t2⟩
            · rw [va_up, va_up, va_up, if_neg ej, if_neg ej, if_neg ej]
              exact hPj j (by omega)
        · have hn8 := nul_up C.B k u.1 8
          have h8 := hk5.2.2.2.2.2
          show slots + 2695 + 2689 * (nulN (va_up C.B k (some u.1)) 8 + nulN (C.mB 0) 8 + nulN (C.mB 1) 8) ≤ 200000 + 400 * (i + 7)
          have h9 : slots + 2695 + 2689 * (nulN C.B 8 + nulN (C.mB 0) 8 + nulN (C.mB 1) 8) ≤ 200000 + 400 * (i + 7) := h8
          omega
      · have e5 := e4 0 (4, y, pl) (.inl rfl) b1
        rw [f_X11_work_b101, if_neg (show ¬ r'.2.1 = 0 by rw [b2]; exact hy), b2, b3, f_X11_ends, Option.bind_some] at e3
        have hT' : PzT (0, nI n, 4, s1.2.1, s1.2.2.1, s1.2.2.2.1, y, pl, C.t.2.2.2.2.2.2.2.2) 0 pl R.v9 := PzT.none R.v9
        exact .inr (.inr (.inl ⟨_, _, _, e1, rfl, by rw [hi2]; exact nI_lt (b := 8) hk7 (by omega), e5, rfl, e3, .inl rfl, rfl, fun _ => rfl, pz_fit h (by omega) (by omega), h.1, ⟨np, no, hd, W, H, hS, hG, hL, hB, hT', hP, hr⟩, hk.2.2⟩))

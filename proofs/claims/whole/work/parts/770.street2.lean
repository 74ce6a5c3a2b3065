/-! street: the loop, the new street -/
theorem st_loop {n : Nat} {B : Nat → Nat} {v fe : Nat → Int32} (hT : Tp n B v fe) (i0 i1 i3 i8 i19 i33 i34 i35 i36 : Int32) (v10 v12 v29 : Nat → Int32) (g14 g16 g18 : Nat → Nat → Int32) : ∀ (m cl q1 q2 f : Nat) (s : TS) (S : CX6) (to : Nat → Int32) (pa ra od : Nat → Nat → Int32) (np no nr hd : Nat) (W H : Nat → Nat), cl + m = 61 → cl ≤ 60 → m < q1 → m < q2 → TR0 n B f s (nI f, 0, -1) → PzSn np no nr hd W H S to pa ra od →
    ∃ z X s' r' cl' to' pa' ra' od', f_X6_read_b6 (nI n) v q1 S.1 S.2.1 S.2.2.1 S.2.2.2.1 S.2.2.2.2.1 S.2.2.2.2.2.1 S.2.2.2.2.2.2.1 S.2.2.2.2.2.2.2.1 S.2.2.2.2.2.2.2.2.1 S.2.2.2.2.2.2.2.2.2.1 S.2.2.2.2.2.2.2.2.2.2.1 S.2.2.2.2.2.2.2.2.2.2.2.1 S.2.2.2.2.2.2.2.2.2.2.2.2 s.1 s.2.1 s.2.2.1 s.2.2.2.1 s.2.2.2.2.1 s.2.2.2.2.2 (nI cl) = some (z, X.1, X.2.1, X.2.2.1, X.2.2.2.1, X.2.2.2.2.1, X.2.2.2.2.2.1, X.2.2.2.2.2.2.1, X.2.2.2.2.2.2.2.1, X.2.2.2.2.2.2.2.2.1, X.2.2.2.2.2.2.2.2.2.1, X.2.2.2.2.2.2.2.2.2.2.1, X.2.2.2.2.2.2.2.2.2.2.2.1, X.2.2.2.2.2.2.2.2.2.2.2.2, s') ∧ f_X11_street_b42 fe q2 i0 i1 (nI n) i3 (nI f) 0 (-1) (nI cl) i8 i19 i33 i34 i35 i36 v10 to v12 v29 pa g14 ra g16 od g18 = f_X11_street_b71 fe i0 i1 (nI n) i3 r'.1 r'.2.1 r'.2.2 cl' i8 i19 i33 i34 i35 i36 v10 to' v12 v29 pa' g14 ra' g16 od' g18 ∧ ((z = 1 ∧ s'.2.2.2.2.2 = -1 ∧ r'.2.1 = 0 ∧ ∃ np no nr hd W H, PzSn np no nr hd W H X to' pa' ra' od') ∨ (z = 0 ∧ TRf n s' r')) := by
  have hn := hT.1
  intro m
  induction m with
  | zero =>
    intro cl q1 q2 f s S to pa ra od np no nr hd W H hm hc h1 h2 h hS
    omega
  | succ m ih =>
    intro cl q1 q2 f s S to pa ra od np no nr hd W H hm hc h1 h2 h hS
    have hf := h.1
    obtain ⟨q1, rfl⟩ : ∃ r, q1 = r + 1 := ⟨q1 - 1, by omega⟩
    obtain ⟨q2, rfl⟩ : ∃ r, q2 = r + 1 := ⟨q2 - 1, by omega⟩
    have hkl := tK_lt n B f
    have hs1 : s.1 = nI (tK n B f) := by rw [h.2.1]
    rw [f_X6_read_b6, if_neg (show ¬ 60 < nI cl by rw [pl60]; exact nI_nlt hc (by omega)), if_pos h.ft.1, f_X11_street_b42, if_pos rfl]
    by_cases e : f = n
    · rw [if_pos (show s.1 = 0 by rw [hs1, (tK_0 hf).2 e]; rfl), if_pos (nI_le (by omega) (by omega)), f_X6_read_b38, t_endY h e, Option.bind_some]
      exact ⟨1, S, (s.1, s.2.1, s.2.2.1, s.2.2.2.1, 0, -1), (nI f, 0, -1), nI cl, to, pa, ra, od, rfl, rfl, .inl ⟨rfl, rfl, rfl, np, no, nr, hd, W, H, hS⟩⟩
    · rw [if_neg (show ¬ s.1 = 0 by rw [hs1, pl0, nI_eq (by omega) (by omega), tK_0 hf]; exact e), if_neg (nI_ge (by omega) (by omega))]
      obtain ⟨X, s', r', cl', to', pa', ra', od', e1, e2, hc2⟩ := st_clause hT h hc hS
      rw [e1, Option.bind_some, nI_1, e2, Option.bind_some]
      rcases hc2 with ⟨f', np', no', nr', hd', W', H', c60, rfl, h', hS'⟩ | ⟨z1, z2, z3, y, pl, a, hy, ha, rfl, rfl⟩
      · rw [show f_X11_blanks (nI n) r'.1 fe = _ from h'.bl hT, Option.bind_some, h'.ft.2.2.1, h'.ft.2.2.2]
        exact ih (cl + 1) q1 q2 f' s' X to' pa' ra' od' np' no' nr' hd' W' H' (by omega) (by omega) (by omega) (by omega) h'.at hS'
      · obtain ⟨q1, rfl⟩ : ∃ r, q1 = r + 1 := ⟨q1 - 1, by omega⟩
        obtain ⟨q2, rfl⟩ : ∃ r, q2 = r + 1 := ⟨q2 - 1, by omega⟩
        have e3 : f_X6_read_b38 (nI n) v X.1 X.2.1 X.2.2.1 X.2.2.2.1 X.2.2.2.2.1 X.2.2.2.2.2.1 X.2.2.2.2.2.2.1 X.2.2.2.2.2.2.2.1 X.2.2.2.2.2.2.2.2.1 X.2.2.2.2.2.2.2.2.2.1 X.2.2.2.2.2.2.2.2.2.2.1 X.2.2.2.2.2.2.2.2.2.2.2.1 X.2.2.2.2.2.2.2.2.2.2.2.2 4 z1 z2 z3 y pl = some (0, X.1, X.2.1, X.2.2.1, X.2.2.2.1, X.2.2.2.2.1, X.2.2.2.2.2.1, X.2.2.2.2.2.2.1, X.2.2.2.2.2.2.2.1, X.2.2.2.2.2.2.2.2.1, X.2.2.2.2.2.2.2.2.2.1, X.2.2.2.2.2.2.2.2.2.2.1, X.2.2.2.2.2.2.2.2.2.2.2.1, X.2.2.2.2.2.2.2.2.2.2.2.2, 4, z1, z2, z3, y, pl) := by
          rw [f_X6_read_b38, tf_end hy, Option.bind_some]
          rfl
        refine ⟨0, X, (4, z1, z2, z3, y, pl), (nI (tF n B a), y, pl), cl', to', pa', ra', od', ?_, ?_, .inr ⟨rfl, z1, z2, z3, y, pl, tF n B a, hy, tF_le B ha, rfl, rfl⟩⟩
        · show f_X6_read_b6 (nI n) v (q1 + 1) X.1 X.2.1 X.2.2.1 X.2.2.2.1 X.2.2.2.2.1 X.2.2.2.2.2.1 X.2.2.2.2.2.2.1 X.2.2.2.2.2.2.2.1 X.2.2.2.2.2.2.2.2.1 X.2.2.2.2.2.2.2.2.2.1 X.2.2.2.2.2.2.2.2.2.2.1 X.2.2.2.2.2.2.2.2.2.2.2.1 X.2.2.2.2.2.2.2.2.2.2.2.2 4 z1 z2 z3 y pl (nI (cl + 1)) = _
          rw [f_X6_read_b6, if_neg hy, e3]
          by_cases e4 : 60 < nI (cl + 1)
          · rw [if_pos e4]
          · rw [if_neg e4]
        · rw [show f_X11_blanks (nI n) (nI a) fe = _ from r_blanks hT ha, Option.bind_some]
          show f_X11_street_b42 fe (q2 + 1) i0 i1 (nI n) i3 (nI (tF n B a)) y pl cl' i8 i19 i33 i34 i35 i36 v10 to' v12 v29 pa' g14 ra' g16 od' g18 = _
          rw [f_X11_street_b42, if_neg hy]
theorem r_st2 {v11 : Nat → Int32} {g13 g15 g17 g14 g16 g18 : Nat → Nat → Int32} {i19 i33 i34 i35 i36 : Int32} {v29 : Nat → Int32} : ∀ (m i q : Nat) (v12 : Nat → Int32), i + m = 6 → m < q → ∃ v', f_X11_stands_b2 v11 g13 g15 g17 q i19 i33 i34 i35 i36 v12 v29 g14 g16 g18 (nI i) = f_X11_stands_b2 v11 g13 g15 g17 (q - m) i19 i33 i34 i35 i36 v' v29 g14 g16 g18 (nI 6) ∧ ∀ k, v' k = if i ≤ k ∧ k < 6 then v11 k else v12 k := by
  intro m
  induction m with
  | zero =>
    intro i q v12 hi hq
    rw [show i = 6 by omega]
    exact ⟨v12, rfl, fun k => by rw [if_neg (by omega)]⟩
  | succ m ih =>
    intro i q v12 hi hq
    obtain ⟨q, rfl⟩ : ∃ r, q = r + 1 := ⟨q - 1, by omega⟩
    obtain ⟨v', a1, a2⟩ := ih (i + 1) q (upd v12 i (v11 i)) (by omega) (by omega)
    refine ⟨v', ?_, fun k => ?_⟩
    · rw [f_X11_stands_b2, pl6, if_neg (nI_ge (by omega) (by omega)), pu_ck (by omega) (by omega), pu_ck (by omega) (by omega), nI_clamp (by omega), nI_1, a1, show q + 1 - (m + 1) = q - m by omega]
    · rw [a2 k, upd]
      by_cases e : i + 1 ≤ k ∧ k < 6
      · rw [if_pos e, if_pos (by omega)]
      · rw [if_neg e]
        by_cases e2 : k = i
        · rw [if_pos e2, if_pos (by omega), e2]
        · rw [if_neg e2, if_neg (by omega)]
theorem r_st79 {v11 v12 : Nat → Int32} {g13 g15 g17 g14 g16 g18 : Nat → Nat → Int32} {i19 i33 i34 i35 i36 : Int32} : ∀ (m i q : Nat) (v29 : Nat → Int32), i + m = 2685 → m < q → ∃ v', f_X11_stands_b79 v11 g13 g15 g17 q i19 i33 i34 i35 i36 v12 v29 g14 g16 g18 (nI i) = some (0, 0, 0, 0, 0, v12, v', g14, g16, g18) ∧ ∀ k, v' k = if i ≤ k ∧ k < 2685 then 0 else v29 k := by
  intro m
  induction m with
  | zero =>
    intro i q v29 hi hq
    obtain ⟨q, rfl⟩ : ∃ r, q = r + 1 := ⟨q - 1, by omega⟩
    refine ⟨v29, ?_, fun k => by rw [if_neg (by omega)]⟩
    rw [f_X11_stands_b79, pl2685, if_pos (nI_le (by omega) (by omega))]
  | succ m ih =>
    intro i q v29 hi hq
    obtain ⟨q, rfl⟩ : ∃ r, q = r + 1 := ⟨q - 1, by omega⟩
    obtain ⟨v', a1, a2⟩ := ih (i + 1) q (upd v29 i 0) (by omega) (by omega)
    refine ⟨v', ?_, fun k => ?_⟩
    · rw [f_X11_stands_b79, pl2685, if_neg (nI_ge (by omega) (by omega)), pu_ck (by omega) (by omega), nI_clamp (by omega), nI_1, a1]
    · rw [a2 k, upd]
      by_cases e : i + 1 ≤ k ∧ k < 2685
      · rw [if_pos e, if_pos (by omega)]
      · rw [if_neg e]
        by_cases e2 : k = i
        · rw [if_pos e2, if_pos (by omega)]
        · rw [if_neg e2, if_neg (by omega)]
theorem PzSn.cp {np no nr hd : Nat} {W H : Nat → Nat} {s : CX6} {to to' : Nat → Int32} {pa pa' ra ra' od od' : Nat → Nat → Int32} (h : PzSn np no nr hd W H s to pa ra od) (h1 : ∀ k, k < 6 → to' k = to k) (h2 : ∀ a, a < np → ∀ j, j < 4 → pa' a j = pa a j) (h3 : ∀ a, a < nr → ∀ j, j < 2 → ra' a j = ra a j) (h4 : ∀ a, a < no → ∀ j, j < 5 → od' a j = od a j) : PzS np no hd W H s to' pa' ra' od' := by
  obtain ⟨g1, g2, g3, g4, g5, g6, g7, g8, g9, g10, g11, g12, g13⟩ := h
  refine ⟨g1, g2, g4, ⟨g5.1, (h1 0 (by omega)).trans g5.2⟩, ⟨g6.1, (h1 1 (by omega)).trans g6.2⟩, ⟨nr, g3, g7.1, (h1 2 (by omega)).trans g7.2, fun d hd => ?_⟩, ?_, ?_, ⟨g11.1, (h1 5 (by omega)).trans g11.2⟩, fun p hp => ?_, fun o ho => ?_⟩
  · obtain ⟨r, r1, r2, r3⟩ := g8 d hd
    refine ⟨r, by omega, r2, ?_⟩
    rw [pzRain_congr (ra := ra) (nI d) nr (fun k hk => ⟨h3 k hk 0 (by omega), h3 k hk 1 (by omega)⟩)]
    exact r3
  · obtain ⟨a, a1, a2, a3⟩ := g9
    exact ⟨a, a1, a2, (h1 3 (by omega)).trans a3⟩
  · obtain ⟨a, a1, a2, a3⟩ := g10
    exact ⟨a, a1, a2, (h1 4 (by omega)).trans a3⟩
  · have h := g12 p hp
    rw [PzN] at h ⊢
    rw [h2 p hp 0 (by omega), h2 p hp 1 (by omega), h2 p hp 2 (by omega), h2 p hp 3 (by omega)]
    exact h
  · exact (g13 o ho).mono (Nat.le_refl _) (fun p hp => ⟨rfl, rfl⟩) (fun j _ => rfl) (fun j hj => h4 o ho j hj)
/-- the reference's new street -/
theorem r_stands {np no nr hd : Nat} {W H : Nat → Nat} {s : CX6} {v11 : Nat → Int32} {g13 g15 g17 : Nat → Nat → Int32} (h : PzSn np no nr hd W H s v11 g13 g15 g17) (i19 i33 i34 i35 i36 : Int32) (v12 v29 : Nat → Int32) (g14 g16 g18 : Nat → Nat → Int32) : ∃ v12' v29' g14' g16' g18', f_X11_stands i19 i33 i34 i35 i36 v11 v12 v29 g13 g14 g15 g16 g17 g18 = some (0, 0, 0, 0, 0, v12', v29', g14', g16', g18') ∧ PzS np no hd W H s v12' g14' g16' g18' ∧ ∀ k, k < 2685 → v29' k = 0 := by
  obtain ⟨g1, g2, g3, g4, g5, g6, g7, g8, g9, g10, g11, g12, g13'⟩ := id h
  obtain ⟨v', a1, a2⟩ := r_st2 (v11 := v11) (g13 := g13) (g15 := g15) (g17 := g17) (g14 := g14) (g16 := g16) (g18 := g18) (i19 := i19) (i33 := i33) (i34 := i34) (i35 := i35) (i36 := i36) (v29 := v29) 6 0 4000 v12 (by omega) (by omega)
  have t0 : v' ((0 : Int32).toNatClampNeg) = nI np := (a2 0).trans ((if_pos (by omega)).trans g5.2)
  have t1 : v' ((1 : Int32).toNatClampNeg) = nI no := (a2 1).trans ((if_pos (by omega)).trans g6.2)
  have t2 : v' ((2 : Int32).toNatClampNeg) = nI nr := (a2 2).trans ((if_pos (by omega)).trans g7.2)
  obtain ⟨p', b1, b2⟩ := r_lays (g0 := g13) (n0 := 5) (m0 := 4) (n1 := 5) (m1 := 4) (by omega) (by omega) (by omega) (by omega) (M := np) g1 g14
  obtain ⟨o', c1, c2⟩ := r_lays (g0 := g17) (n0 := 12) (m0 := 5) (n1 := 12) (m1 := 5) (by omega) (by omega) (by omega) (by omega) (M := no) g2 g18
  obtain ⟨r', d1, d2⟩ := r_lays (g0 := g15) (n0 := 12) (m0 := 2) (n1 := 12) (m1 := 2) (by omega) (by omega) (by omega) (by omega) (M := nr) g3 g16
  obtain ⟨w, e1, e2⟩ := r_st79 (v11 := v11) (v12 := v') (g13 := g13) (g15 := g15) (g17 := g17) (g14 := p') (g16 := r') (g18 := o') (i19 := i19) (i33 := i33) (i34 := i34) (i35 := i35) (i36 := i36) 2685 0 4000 v29 (by omega) (by omega)
  refine ⟨v', w, p', r', o', ?_, h.cp (fun k hk => (a2 k).trans (if_pos (by omega))) b2 d2 c2, fun k hk => (e2 k).trans (if_pos (by omega))⟩
  rw [f_X11_stands, show f_X11_stands_b2 v11 g13 g15 g17 4000 i19 i33 i34 i35 i36 v12 v29 g14 g16 g18 0 = _ from a1, show 4000 - 6 = 3993 + 1 by omega, f_X11_stands_b2, if_pos (by decide), t0, t1, t2, b1, Option.bind_some, c1, Option.bind_some, d1, Option.bind_some]
  exact e1
theorem pzRag_0 {row : Nat → Int32} : ∀ n, n ≤ 201 → (∀ k, k < n → row (2480 + k) = 0) → pzRag row n = nI 0 := by
  intro n
  induction n with
  | zero => exact fun _ _ => rfl
  | succ n ih =>
    intro h1 h2
    rw [pzRag, ih (by omega) (fun k hk => h2 k (by omega)), h2 n (by omega)]
    rfl
theorem PzG_0 {np hd : Nat} {W H : Nat → Nat} {row film dep rag : Nat → Int32} (hr : ∀ k, k < 2685 → row k = 0) (hd0 : ∀ c, c < 80 → dep c = 0) (hg0 : ∀ d, d ≤ 200 → rag d = 0) : PzGX np hd W H (0, 0, 0, 0, 0, film, dep, rag) row := by
  refine ⟨fun _ => 0, fun _ => 0, 0, fun c hc => ⟨Nat.zero_le _, hd0 c hc, hr _ (by omega), fun h => absurd h (Nat.lt_irrefl 0)⟩, fun c hc j hj => absurd hj (Nat.not_lt_zero j), ⟨by omega, rfl, hr _ (by omega)⟩, fun d hd => ?_, ?_, ?_, ?_, 0, by omega, rfl, hr _ (by omega), fun c _ _ => rfl⟩
  · show rag d = _
    rw [hg0 d hd, hr _ (by omega)]
  · show (0 : Int32) = _
    rw [pzRag_0 201 (by omega) (fun k hk => hr _ (by omega))]
    rfl
  · exact (hr _ (by omega)).symm
  · exact (hr _ (by omega)).symm
theorem p_forget4 (i2 i3 i4 i5 i6 i7 : Int32) (v1 v2 : Nat → Int32) : f_X4_forget i2 i3 i4 i5 i6 i7 v1 v2 = some (0, 0, 0, 0, 0, 0, fillF v1 0 0 80, fillF v2 0 0 201) := by
  rw [f_X4_forget, f_X2_forget, p_fill (by omega), Option.bind_some, p_fill (by omega), Option.bind_some]
  rfl
theorem PzSn_0 (v1 v2 v3 v4 v5 v7 v9 w : Nat → Int32) (pa ra od : Nat → Nat → Int32) : PzSn 0 0 0 20 (fun _ => 0) (fun _ => 0) (0, 0, 0, 1, 3, 20, v1, v2, v3, v4, v5, fillF v7 0 0 201, v9) (upd (upd (upd (upd (upd (upd w 0 0) 1 0) 2 0) 3 1) 4 3) 5 20) pa ra od := by
  refine ⟨by omega, by omega, by omega, ⟨by omega, by omega⟩, ⟨rfl, ?_⟩, ⟨rfl, ?_⟩, ⟨rfl, ?_⟩, fun d hd => ⟨0, by omega, ?_, rfl⟩, ⟨1, by omega, rfl, ?_⟩, ⟨3, by omega, rfl, ?_⟩, ⟨rfl, ?_⟩, fun p hp => by omega, fun o ho => by omega⟩
  · rfl
  · rfl
  · rfl
  · show fillF v7 0 0 201 d = _
    rw [fillF, if_pos (by omega)]
    rfl
  · rfl
  · rfl
  · rfl

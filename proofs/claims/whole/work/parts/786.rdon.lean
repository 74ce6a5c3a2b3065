/-! work: reading one step -/
theorem t_sgn {n : Nat} {B : Nat → Nat} {v fe : Nat → Int32} (hT : Tp n B v fe) {f1 : Nat} {s1 : TS} {r1 : TQ} (h : TR0 n B f1 s1 r1 ∨ TRf n s1 r1) {c : Nat} {c' : Int32} (hc' : c' = nI c) (hc : sgC c) : ∃ s' r', f_X7_takeSign (nI n) s1.1 s1.2.1 s1.2.2.1 s1.2.2.2.1 s1.2.2.2.2.1 s1.2.2.2.2.2 v c' = some s' ∧ f_X11_sign (nI n) r1.1 r1.2.1 r1.2.2 fe c' = some r' ∧ ((TR0 n B f1 s1 r1 ∧ ∃ f', f1 < f' ∧ TR0 n B f' s' r') ∨ TRf n s' r') := by
  rcases h with h | h
  · obtain ⟨s', r', a1, a2, a3⟩ := t_sign hT h hc' hc
    have hge := tF_ge n B (f1 + 1)
    refine ⟨s', r', a1, a2, ?_⟩
    rcases a3 with ⟨-, -, a3⟩ | ⟨-, a3⟩
    · exact .inl ⟨h, _, by omega, a3⟩
    · exact .inr a3
  · obtain ⟨x1, x2, x3, y, pl, a, hy, ha, rfl, rfl⟩ := h
    exact ⟨_, _, tf_sign hy, tf_rsign hy, .inr ⟨x1, x2, x3, y, pl, a, hy, ha, rfl, rfl⟩⟩
theorem r_255 {n k : Nat} {fe to : Nat → Int32} {pa g : Nat → Nat → Int32} {F : WRF} {r1 r' : TQ} {op cnt : Int32} (hk : k < 80) (e : f_X11_sign (nI n) r1.1 r1.2.1 r1.2.2 fe 59 = some r') : f_X11_readsStep_b255 F (nI n) fe to pa r1.1 r1.2.1 r1.2.2 op cnt g (nI k) = some (r'.1, r'.2.1, r'.2.2, op, cnt, gset g k 6 cnt) := by
  rw [f_X11_readsStep_b255, e, Option.bind_some, nI_clamp (by omega), cl6]
  rfl
theorem w_l3 : ∀ j, j < 7 → 3 ≤ wL (15 + j) := by decide
theorem wr_one {n : Nat} {B : Nat → Nat} {np : Nat} {W H : Nat → Nat} {d f f' k j : Nat} {A : AS} {g g2 : Nat → Nat → Int32} {A1 A2 A3 A4 A5 : Nat → Int32} {s' : TS} {r' : TQ} (hj : ¬ nI j = nI 6) (h : TR0 n B f' s' r') (hf : f + 4 ≤ f') (hA : ∀ i, i ≠ k → A1 i = A.2.1 i ∧ A2 i = A.2.2.1 i ∧ A3 i = A.2.2.2.1 i ∧ A4 i = A.2.2.2.2.1 i ∧ A5 i = A.2.2.2.2.2.1 i ∧ ∀ j, g2 i j = g i j) (hd : WKd np W H (upd A.1 k (nI j)) A1 A2 A3 A4 A5 g2 k) : WrY n B np W H d f k A g (k + 1) f' (upd A.1 k (nI j), A1, A2, A3, A4, A5, upd A.2.2.2.2.2.2 k (nI (k + 1))) s' r' (gset g2 k 6 (nI (k + 1))) := by
  refine ⟨h, by omega, by omega, by omega, fun i hi => ?_, ⟨1, .inr ⟨k + 1, by omega, Nat.le_refl _, ?_, .inl ⟨?_, rfl⟩, rfl⟩⟩, fun i i1 i2 => ?_⟩
  · obtain ⟨b1, b2, b3, b4, b5, b6⟩ := hA i (by omega)
    refine ⟨⟨?_, b1, b2, b3, b4, b5, ?_⟩, fun j => by rw [gset_ne (by omega)]; exact b6 j⟩
    · show upd A.1 k _ i = _
      rw [upd, if_neg (by omega)]
    · show upd A.2.2.2.2.2.2 k _ i = _
      rw [upd, if_neg (by omega)]
  · show upd A.2.2.2.2.2.2 k (nI (k + 1)) k = _
    rw [upd, if_pos rfl]
  · show ¬ upd A.1 k (nI j) k = nI 6
    rw [upd, if_pos rfl]
    exact hj
  · have e : i = k := by omega
    subst e
    refine ⟨hd.cg rfl rfl rfl rfl rfl rfl (fun j hj => gset_ne (.inr (by omega))), ?_⟩
    show upd A.2.2.2.2.2.2 i (nI (i + 1)) i = _
    rw [upd, if_pos rfl, gset_eq]
theorem rd_bad {n : Nat} {B : Nat → Nat} {fe to : Nat → Int32} {pa : Nat → Nat → Int32} {q f : Nat} {s : TS} {r : TQ} (h : TR0 n B f s r) (e : f_X11_stepHere (nI n) r.1 r.2.1 fe = some (-1, nI f)) (op cnt : Int32) (g : Nat → Nat → Int32) : f_X11_readsStep (q + 1) (nI n) r.1 r.2.1 r.2.2 op cnt fe to pa g = some (nI f, 1, nI f, op, cnt, g) := by
  rw [f_X11_readsStep, fb_X11_readsStep, e, Option.bind_some, if_pos rfl, f_X11_wrong, if_pos h.ft.2.2.1, Option.bind_some, f_X11_readsStep_b19, if_neg (show ¬ (-1 : Int32) = 6 by decide), f_X11_readsStep_b33, if_neg n1z]
/-- the inside of an again -/
theorem wr_body {n : Nat} {B : Nat → Nat} {v fe : Nat → Int32} (hT : Tp n B v fe) (hn : n ≤ 200) {np : Nat} {W H : Nat → Nat} {w hh to : Nat → Int32} {pa : Nat → Nat → Int32} {F : WCF} {F' : WRF} {d f3 k : Nat} (hW : WrOK n B v fe np W H w hh to pa F F' (d + 1)) {s3 : TS} {r3 : TQ} (h : (TR0 n B f3 s3 r3 ∧ 4 * (k + 1) ≤ f3) ∨ TRf n s3 r3) (A : AS) (g : Nat → Nat → Int32) :
    ∃ k' A' s4 s5 r5 op5 cnt5 g5, f_X9_readSteps F (nI (k + 1)) A.1 A.2.1 A.2.2.1 A.2.2.2.1 A.2.2.2.2.1 A.2.2.2.2.2.1 A.2.2.2.2.2.2 (nI n) s3.1 s3.2.1 s3.2.2.1 s3.2.2.2.1 s3.2.2.2.2.1 s3.2.2.2.2.2 v (nI np) w hh (nI (d + 1)) = some (k', A'.1, A'.2.1, A'.2.2.1, A'.2.2.2.1, A'.2.2.2.2.1, A'.2.2.2.2.2.1, A'.2.2.2.2.2.2, s4) ∧ f_X7_takeSign (nI n) s4.1 s4.2.1 s4.2.2.1 s4.2.2.2.1 s4.2.2.2.2.1 s4.2.2.2.2.2 v 93 = some s5 ∧ ((f_X11_blanks (nI n) r3.1 fe).bind fun q205 => f_X11_readsStep_b208 F' (nI n) fe to pa 4000 q205 r3.2.1 r3.2.2 (nI (d + 1)) (nI (k + 1)) g (nI k)) = f_X11_readsStep_b255 F' (nI n) fe to pa r5.1 r5.2.1 r5.2.2 (op5 - 1) cnt5 g5 (nI k) ∧ ((∃ kk f5, TR0 n B f3 s3 r3 ∧ k' = nI kk ∧ cnt5 = nI kk ∧ op5 = nI (d + 1) ∧ WrY n B np W H (d + 1) f3 (k + 1) A g kk f5 A' s5 r5 g5) ∨ TRf n s5 r5) := by
  have hn6 := hT.1
  rcases h with ⟨h, hk⟩ | hF
  · have hf := h.1
    obtain ⟨k', A', s4, s5, r5, op5, cnt5, g5, a1, a2, a3, a4⟩ := wr_in hT hn hW (nI k) n 0 4000 4000 f3 (k + 1) A s3 g (by omega) (by omega) (by omega) (by omega) hk h.at
    refine ⟨k', A', s4, s5, r5, op5, cnt5, g5, ?_, a2, ?_, ?_⟩
    · rw [f_X9_readSteps]
      exact a1
    · rw [TR0.bl hT h, Option.bind_some, h.ft.2.2.1, h.ft.2.2.2]
      exact a3
    · rcases a4 with ⟨kk, f5, b1, b2, b3, b4⟩ | a4
      · exact .inl ⟨kk, f5, h, b1, b2, b3, b4⟩
      · exact .inr a4
  · obtain ⟨a, c1, c2⟩ := hF.bl hT
    refine ⟨nI (k + 1), A, s3, s3, (a, r3.2.1, r3.2.2), nI (d + 1), nI (k + 1), g, ?_, ?_, ?_, .inr c2⟩
    · rw [f_X9_readSteps]
      exact wrf_b3 hF _ A _ _
    · obtain ⟨x1, x2, x3, y, pl, a, hy, ha, rfl, rfl⟩ := hF
      exact tf_sign hy
    · rw [c1, Option.bind_some]
      exact wrf_208 (v := v) c2 _ _ _ g
theorem wr_step {n : Nat} {B : Nat → Nat} {v fe : Nat → Int32} (hT : Tp n B v fe) (hn : n ≤ 200) {np : Nat} {W H : Nat → Nat} {w hh to : Nat → Int32} {pa : Nat → Nat → Int32} (hst : WSt np W H w hh to pa) {q d : Nat} (hd : d ≤ 6) (hrec : d < 6 → WrOK n B v fe np W H w hh to pa (f_X9_readStep q) (f_X11_readsStep q) (d + 1)) : WrOK n B v fe np W H w hh to pa (f_X9_readStep (q + 1)) (f_X11_readsStep (q + 1)) d := by
  have hn6 := hT.1
  refine ⟨fun f k A s r g h e hk4 => ?_, fun f s r op cnt g h e => ?_⟩
  · have hf := h.1
    have hwn := tW_le B hf
    have hk : k < 50 := by omega
    have z := h.ft.2.2.1
    have z2 := h.ft.2.2.2
    have e2f : s.2.1 = nI f := by rw [h.2.1]
    obtain ⟨c, c1, c2, hc⟩ := t_stepK hT h
    rcases hc with ⟨j, hj, rfl, wj⟩ | rfl
    · have hl3 := w_l3 j hj
      have hwl := wj.len
      have hge := tF_ge n B (tW n B f)
      have h1 := t_stepW' hT h e
      have hs0 := t_stepW hT h e
      rw [h.ft.1] at hs0
      have hC0 : f_X9_readStep (q + 1) (nI k) A.1 A.2.1 A.2.2.1 A.2.2.2.1 A.2.2.2.2.1 A.2.2.2.2.2.1 A.2.2.2.2.2.2 (nI n) s.1 s.2.1 s.2.2.1 s.2.2.2.1 s.2.2.2.2.1 s.2.2.2.2.2 v (nI np) w hh (nI d) = if nI j = 6 then (if nI d < 6 then (f_X9_readStep_b46 (f_X9_readStep q) (nI n) v (nI np) w hh (nI k) A.1 A.2.1 A.2.2.1 A.2.2.2.1 A.2.2.2.2.1 A.2.2.2.2.2.1 A.2.2.2.2.2.2 s.1 s.2.1 s.2.2.1 s.2.2.2.1 s.2.2.2.2.1 s.2.2.2.2.2 (nI d) (nI j)) else (some (nI k, A.1, A.2.1, A.2.2.1, A.2.2.2.1, A.2.2.2.2.1, A.2.2.2.2.2.1, A.2.2.2.2.2.2, 4, nI f, s.2.2.1, s.2.2.2.1, 3, nI f))) else (f_X9_readStep_b46 (f_X9_readStep q) (nI n) v (nI np) w hh (nI k) A.1 A.2.1 A.2.2.1 A.2.2.2.1 A.2.2.2.2.1 A.2.2.2.2.2.1 A.2.2.2.2.2.2 s.1 s.2.1 s.2.2.1 s.2.2.2.1 s.2.2.2.2.1 s.2.2.2.2.2 (nI d) (nI j)) := by
        rw [f_X9_readStep, fb_X9_readStep, c1, Option.bind_some, if_neg (nm1 j (by omega)), if_pos (show nI k < 50 from nI_lt (b := 50) hk (by omega)), f_X7_wrong, if_pos h.ft.1, Option.bind_some, e2f]
      have hR0 : f_X11_readsStep (q + 1) (nI n) r.1 r.2.1 r.2.2 (nI d) (nI k) fe to pa g = f_X11_readsStep_b19 (f_X11_readsStep q) (nI n) fe to pa (nI f) 0 (-1) (nI d) (nI k) g (nI j) := by
        rw [f_X11_readsStep, fb_X11_readsStep, c2, Option.bind_some, if_neg (nm1 j (by omega)), z, z2]
      by_cases j6 : j = 6
      · subst j6
        rw [if_pos (show nI 6 = 6 from rfl)] at hC0
        by_cases d6 : d < 6
        · have hW := hrec d6
          rw [if_pos (show nI d < 6 from nI_lt (b := 6) d6 (by omega))] at hC0
          obtain ⟨cN, s2, bN, r2, e1, e2, k1⟩ := t_nm hT h1 (lo' := 0) (hi := 20) 0 rfl (by omega) (by decide)
          have k1' : (∃ N f2, N ≤ 20 ∧ cN = nI N ∧ bN = nI N ∧ tF n B (tW n B f) < f2 ∧ TR0 n B f2 s2 r2) ∨ TRf n s2 r2 := by
            rcases k1 with ⟨N, f2, a1, a2, -, hN, hN5, hff, -, -, -, t2⟩ | ⟨-, -, hF, -⟩
            · exact .inl ⟨N, f2, leN (k := 20) (by omega) (by omega) hN, a1, a2, hff, t2⟩
            · exact .inr hF
          have k2 : ∃ f2, (TR0 n B f2 s2 r2 ∧ tF n B (tW n B f) < f2 ∧ ∃ N, N ≤ 20 ∧ cN = nI N ∧ bN = nI N) ∨ TRf n s2 r2 := by
            rcases k1' with ⟨N, f2, a1, a2, a3, a4, a5⟩ | a1
            · exact ⟨f2, .inl ⟨a5, a4, N, a1, a2, a3⟩⟩
            · exact ⟨0, .inr a1⟩
          obtain ⟨f2, k2⟩ := k2
          obtain ⟨s3, r3, x1, x2, x3⟩ := t_sgn hT (f1 := f2) (s1 := s2) (r1 := r2) (k2.imp (fun a => a.1) id) ch91 sg91
          have k3 : ∃ f3, (TR0 n B f3 s3 r3 ∧ f + 5 ≤ f3 ∧ ∃ N, N ≤ 20 ∧ cN = nI N ∧ bN = nI N) ∨ TRf n s3 r3 := by
            rcases x3 with ⟨x3, f3, x4, x5⟩ | x3
            · rcases k2 with ⟨-, a4, a5⟩ | a1
              · exact ⟨f3, .inl ⟨x5, by omega, a5⟩⟩
              · exact absurd x3.ft.2.2.1 a1.ne
            · exact ⟨0, .inr x3⟩
          obtain ⟨f3, k3⟩ := k3
          obtain ⟨k', A', s4, s5, r5, op5, cnt5, g5, y1, y2, y3, y4⟩ := wr_body hT hn (d := d) (f3 := f3) (k := k) hW (k3.imp (fun a => ⟨a.1, by have := a.2.1; omega⟩) id) (upd A.1 k (nI 6), A.2.1, A.2.2.1, A.2.2.2.1, A.2.2.2.2.1, upd A.2.2.2.2.2.1 k cN, A.2.2.2.2.2.2) (gset (gset g k 0 (nI 6)) k 1 bN)
          have y5 : ∃ f5, TR0 n B f5 s5 r5 ∨ TRf n s5 r5 := by
            rcases y4 with ⟨kk, f5, -, -, -, -, hy⟩ | y4
            · exact ⟨f5, .inl hy.1⟩
            · exact ⟨0, .inr y4⟩
          obtain ⟨f5, y5⟩ := y5
          obtain ⟨s6, r6, u1, u2, u3⟩ := t_sgn hT y5 ch59 sg59
          have hC1 : f_X9_readStep (q + 1) (nI k) A.1 A.2.1 A.2.2.1 A.2.2.2.1 A.2.2.2.2.1 A.2.2.2.2.2.1 A.2.2.2.2.2.2 (nI n) s.1 s.2.1 s.2.2.1 s.2.2.2.1 s.2.2.2.2.1 s.2.2.2.2.2 v (nI np) w hh (nI d) = some (k', A'.1, A'.2.1, A'.2.2.1, A'.2.2.2.1, A'.2.2.2.2.1, A'.2.2.2.2.2.1, upd A'.2.2.2.2.2.2 k k', s5) := by
            rw [hC0, f_X9_readStep_b46, pu_ck hk (by omega), h.ft.1, h.ft.2.1, hs0, Option.bind_some, if_pos (show nI 6 = 6 from rfl), nI_clamp (by omega)]
            rw [show f_X7_takeNumber (nI n) (nI (tK n B (tF n B (tW n B f)))) (nI (tF n B (tW n B f))) (nI (tT n B (tF n B (tW n B f)))) (nI (tV n B (tF n B (tW n B f)))) 0 (-1) v 0 20 = some (cN, s2) from e1, Option.bind_some, pu_ck hk (by omega)]
            rw [show f_X7_takeSign (nI n) (cN, s2).2.1 (cN, s2).2.2.1 (cN, s2).2.2.2.1 (cN, s2).2.2.2.2.1 (cN, s2).2.2.2.2.2.1 (cN, s2).2.2.2.2.2.2 v 91 = some s3 from x1, Option.bind_some, nI_1, nI_1]
            rw [show f_X9_readSteps (f_X9_readStep q) (nI (k + 1)) (upd A.1 k (nI 6)) A.2.1 A.2.2.1 A.2.2.2.1 A.2.2.2.2.1 (upd A.2.2.2.2.2.1 k (cN, s2).1) A.2.2.2.2.2.2 (nI n) s3.1 s3.2.1 s3.2.2.1 s3.2.2.2.1 s3.2.2.2.2.1 s3.2.2.2.2.2 v (nI np) w hh (nI (d + 1)) = _ from y1, Option.bind_some, y2, Option.bind_some, f_X9_readStep_b140, pu_ck hk (by omega), nI_clamp (by omega)]
          have hR1 : f_X11_readsStep (q + 1) (nI n) r.1 r.2.1 r.2.2 (nI d) (nI k) fe to pa g = some (r6.1, r6.2.1, r6.2.2, op5 - 1, cnt5, gset g5 k 6 cnt5) := by
            rw [hR0, f_X11_readsStep_b19, if_pos (show nI 6 = 6 from rfl), t_opens0 d6, Option.bind_some, if_neg n1z, f_X11_readsStep_b33, if_pos rfl, show f_X11_skipWord (nI n) (nI f) fe = _ from r_skip hT hf, Option.bind_some, pu_ck (show k < 80 by omega) (by omega), if_neg (show ¬ nI 6 < 3 by decide), if_neg (show ¬ nI 6 = 5 by decide), nI_clamp (by omega), cl0, f_X11_readsStep_b95, if_pos rfl, if_neg (show ¬ nI 6 = 1 by decide), if_neg (show ¬ nI 6 = 2 by decide), f_X11_readsStep_b152, if_neg (show ¬ nI 6 = 2 by decide), f_X11_readsStep_b167, if_pos (show 3 ≤ nI 6 by decide), f_X11_readsStep_b182, if_pos (show nI 6 = 6 from rfl)]
            rw [show f_X11_number (nI n) (nI (tW n B f)) 0 (-1) fe 0 20 = some (bN, r2) from e2, Option.bind_some]
            rw [show f_X11_sign (nI n) (bN, r2).2.1 (bN, r2).2.2.1 (bN, r2).2.2.2 fe 91 = some r3 from x2, Option.bind_some, nI_clamp (by omega), cl1, nI_1]
            exact y3.trans (r_255 (by omega) u2)
          refine ⟨k', (A'.1, A'.2.1, A'.2.2.1, A'.2.2.2.1, A'.2.2.2.2.1, A'.2.2.2.2.2.1, upd A'.2.2.2.2.2.2 k k'), s5, s6, r6, op5 - 1, cnt5, gset g5 k 6 cnt5, hC1, u1, hR1, ?_⟩
          rcases u3 with ⟨u3, f6, u4, u5⟩ | u3
          · rcases y4 with ⟨kk, f5', y6, rfl, rfl, rfl, hy⟩ | y4
            · rcases k3 with ⟨-, k4, N, hN, rfl, rfl⟩ | k3
              · obtain ⟨b1, b2, b3, b4, b5, ⟨m, b6⟩, b7⟩ := hy
                have ef : f5' = f5 := by
                  have a1 : s5.2.1 = nI f5' := by rw [b1.2.1]
                  have a2 : s5.2.1 = nI f5 := by rw [u3.2.1]
                  have a3 : nI f5' = nI f5 := a1.symm.trans a2
                  rw [nI_eq (by have := b1.1; omega) (by have := u3.1; omega)] at a3
                  exact a3
                subst ef
                have hop : nI (d + 1) - 1 = nI d := nI_pred d
                refine .inl ⟨kk, f6, rfl, rfl, hop, by omega, u5, by omega, by omega, by omega, fun i hi => ?_, ⟨m + 1, .inr ⟨kk, by omega, Nat.le_refl _, ?_, .inr ⟨?_, d6, ?_⟩, WFo.rf m d kk⟩⟩, fun i i1 i2 => ?_⟩
                · obtain ⟨⟨d0, d1, d2, d3, d4, d5, d7⟩, dg⟩ := b5 i (by omega)
                  refine ⟨⟨?_, d1, d2, d3, d4, ?_, ?_⟩, fun j => ?_⟩
                  · refine d0.trans ?_
                    show upd A.1 k (nI 6) i = _
                    rw [upd, if_neg (by omega)]
                  · refine d5.trans ?_
                    show upd A.2.2.2.2.2.1 k _ i = _
                    rw [upd, if_neg (by omega)]
                  · show upd A'.2.2.2.2.2.2 k _ i = _
                    rw [upd, if_neg (by omega)]
                    exact d7
                  · rw [gset_ne (by omega), dg j, gset_ne (by omega), gset_ne (by omega)]
                · show upd A'.2.2.2.2.2.2 k (nI kk) k = _
                  rw [upd, if_pos rfl]
                · refine ((b5 k (by omega)).1.1).trans ?_
                  show upd A.1 k (nI 6) k = _
                  rw [upd, if_pos rfl]
                · refine WFo.cg m (d + 1) (k + 1) kk (fun i i1 i2 => ⟨rfl, ?_⟩) b6
                  show upd A'.2.2.2.2.2.2 k (nI kk) i = _
                  rw [upd, if_neg (by omega)]
                · by_cases ei : i = k
                  · subst ei
                    obtain ⟨⟨d0, d1, d2, d3, d4, d5, d7⟩, dg⟩ := b5 i (by omega)
                    refine ⟨.inr (.inr (.inr (.inr (.inr ⟨N, hN, ?_, ?_, ?_, ?_⟩)))), ?_⟩
                    · refine d0.trans ?_
                      show upd A.1 i (nI 6) i = _
                      rw [upd, if_pos rfl]
                    · rw [gset_ne (by omega), dg 0, gset_ne (by omega), gset_eq]
                    · refine d5.trans ?_
                      show upd A.2.2.2.2.2.1 i _ i = _
                      rw [upd, if_pos rfl]
                    · rw [gset_ne (by omega), dg 1, gset_eq]
                    · show upd A'.2.2.2.2.2.2 i (nI kk) i = _
                      rw [upd, if_pos rfl, gset_eq]
                  · obtain ⟨d1, d2⟩ := b7 i (by omega) i2
                    refine ⟨d1.cg rfl rfl rfl rfl rfl rfl (fun j _ => gset_ne (.inl ei)), ?_⟩
                    show upd A'.2.2.2.2.2.2 k (nI kk) i = _
                    rw [upd, if_neg ei, gset_ne (.inl ei)]
                    exact d2
              · exact absurd y6.ft.2.2.1 k3.ne
            · exact absurd u3.ft.2.2.1 y4.ne
          · exact .inr u3
        · have e6 : d = 6 := by omega
          subst e6
          rw [if_neg (show ¬ nI 6 < 6 by decide)] at hC0
          have hF : TRf n (4, nI f, s.2.2.1, s.2.2.2.1, 3, nI f) (nI f, 3, nI f) := ⟨nI f, s.2.2.1, s.2.2.2.1, 3, nI f, f, by decide, hf, rfl, rfl⟩
          refine ⟨nI k, A, (4, nI f, s.2.2.1, s.2.2.2.1, 3, nI f), (4, nI f, s.2.2.1, s.2.2.2.1, 3, nI f), (nI f, 3, nI f), nI 6, nI k, g, hC0, tf_sign (show (3 : Int32) ≠ 0 by decide), ?_, .inr hF⟩
          rw [hR0, f_X11_readsStep_b19, if_pos (show nI 6 = 6 from rfl), t_opens6, Option.bind_some, if_pos rfl]
      · have nj6 : ¬ nI j = 6 := n5' j (by omega)
        rw [if_neg nj6] at hC0
        have hR1 : f_X11_readsStep (q + 1) (nI n) r.1 r.2.1 r.2.2 (nI d) (nI k) fe to pa g = if nI j < 3 then (f_X11_readsStep_b79 (f_X11_readsStep q) (nI n) fe to pa (nI (tW n B f)) 0 (-1) (nI d) (nI (k + 1)) (gset g k 0 (nI j)) (nI j) (nI k)) else (if nI j = 5 then (f_X11_readsStep_b79 (f_X11_readsStep q) (nI n) fe to pa (nI (tW n B f)) 0 (-1) (nI d) (nI (k + 1)) (gset g k 0 (nI j)) (nI j) (nI k)) else (f_X11_readsStep_b95 (f_X11_readsStep q) (nI n) fe to pa (nI (tW n B f)) 0 (-1) (nI d) (nI (k + 1)) (gset g k 0 (nI j)) (nI j) (nI k))) := by
          rw [hR0, f_X11_readsStep_b19, if_neg nj6, f_X11_readsStep_b33, if_pos rfl, show f_X11_skipWord (nI n) (nI f) fe = _ from r_skip hT hf, Option.bind_some, pu_ck (show k < 80 by omega) (by omega), nI_clamp (by omega), cl0, nI_1]
          rfl
        by_cases j34 : j = 3 ∨ j = 4
        · have hC1 : f_X9_readStep (q + 1) (nI k) A.1 A.2.1 A.2.2.1 A.2.2.2.1 A.2.2.2.2.1 A.2.2.2.2.2.1 A.2.2.2.2.2.2 (nI n) s.1 s.2.1 s.2.2.1 s.2.2.2.1 s.2.2.2.2.1 s.2.2.2.2.2 v (nI np) w hh (nI d) = some (nI (k + 1), upd A.1 k (nI j), A.2.1, A.2.2.1, A.2.2.2.1, A.2.2.2.2.1, A.2.2.2.2.2.1, upd A.2.2.2.2.2.2 k (nI (k + 1)), tk n B (tF n B (tW n B f))) := by
            rw [hC0, f_X9_readStep_b46, pu_ck hk (by omega), h.ft.1, h.ft.2.1, hs0, Option.bind_some, if_neg nj6, nI_clamp (by omega), nI_1]
            rcases j34 with rfl | rfl
            · rw [if_pos (show nI 3 = 3 from rfl), f_X9_readStep_b140, pu_ck hk (by omega), nI_clamp (by omega)]
            · rw [if_neg (show ¬ nI 4 = 3 by decide), if_pos (show nI 4 = 4 from rfl), f_X9_readStep_b140, pu_ck hk (by omega), nI_clamp (by omega)]
          obtain ⟨s6, r6, u1, u2, u3⟩ := t_sgn hT (.inl h1) ch59 sg59
          have hR2 : f_X11_readsStep (q + 1) (nI n) r.1 r.2.1 r.2.2 (nI d) (nI k) fe to pa g = some (r6.1, r6.2.1, r6.2.2, nI d, nI (k + 1), gset (gset g k 0 (nI j)) k 6 (nI (k + 1))) := by
            have hR3 : f_X11_readsStep (q + 1) (nI n) r.1 r.2.1 r.2.2 (nI d) (nI k) fe to pa g = f_X11_readsStep_b255 (f_X11_readsStep q) (nI n) fe to pa (nI (tW n B f)) 0 (-1) (nI d) (nI (k + 1)) (gset g k 0 (nI j)) (nI k) := by
              rw [hR1]
              rcases j34 with rfl | rfl
              · rw [if_neg (show ¬ nI 3 < 3 by decide), if_neg (show ¬ nI 3 = 5 by decide), f_X11_readsStep_b95, if_pos rfl, if_neg (show ¬ nI 3 = 1 by decide), if_neg (show ¬ nI 3 = 2 by decide), f_X11_readsStep_b152, if_neg (show ¬ nI 3 = 2 by decide), f_X11_readsStep_b167, if_pos (show 3 ≤ nI 3 by decide), f_X11_readsStep_b182, if_neg nj6]
              · rw [if_neg (show ¬ nI 4 < 3 by decide), if_neg (show ¬ nI 4 = 5 by decide), f_X11_readsStep_b95, if_pos rfl, if_neg (show ¬ nI 4 = 1 by decide), if_neg (show ¬ nI 4 = 2 by decide), f_X11_readsStep_b152, if_neg (show ¬ nI 4 = 2 by decide), f_X11_readsStep_b167, if_pos (show 3 ≤ nI 4 by decide), f_X11_readsStep_b182, if_neg nj6]
            exact hR3.trans (r_255 (r1 := (nI (tW n B f), 0, -1)) (by omega) u2)
          refine ⟨nI (k + 1), (upd A.1 k (nI j), A.2.1, A.2.2.1, A.2.2.2.1, A.2.2.2.2.1, A.2.2.2.2.2.1, upd A.2.2.2.2.2.2 k (nI (k + 1))), _, s6, r6, nI d, nI (k + 1), _, hC1, u1, hR2, ?_⟩
          rcases u3 with ⟨-, f6, u4, u5⟩ | u3
          · refine .inl ⟨k + 1, f6, rfl, rfl, rfl, by omega, wr_one (j := j) nj6 u5 (by omega) (fun i hi => ⟨rfl, rfl, rfl, rfl, rfl, fun j => gset_ne (.inl hi)⟩) ?_⟩
            rcases j34 with rfl | rfl
            · exact .inr (.inr (.inl ⟨by rw [upd, if_pos rfl], gset_eq⟩))
            · exact .inr (.inr (.inr (.inl ⟨by rw [upd, if_pos rfl], gset_eq⟩)))
          · exact .inr u3
        · have n3 : ¬ nI j = 3 := by
            rw [pl3, nI_eq (by omega) (by omega)]
            omega
          have n4 : ¬ nI j = 4 := by
            rw [pl4, nI_eq (by omega) (by omega)]
            omega
          have hj5 : j < 3 ∨ j = 5 := by omega
          have hw3 : f + 3 ≤ tF n B (tW n B f) := by omega
          have hk80 : k < 80 := by omega
          have hsm : n < 2 ^ 31 ∧ k < 2 ^ 31 := by omega
          obtain ⟨A1, A2, A3, A4, A5, s5, r5, g5, y1, y2, y3⟩ := rp_all hT hst (F := f_X11_readsStep q) (kk := j) (by omega) hk h1 (upd A.1 k (nI j)) A.2.1 A.2.2.1 A.2.2.2.1 A.2.2.2.2.1 A.2.2.2.2.2.1 (nI d) (nI (k + 1)) (gset g k 0 (nI j)) (by rw [upd, if_pos rfl]) gset_eq
          have y5 : ∃ f5, TR0 n B f5 s5 r5 ∨ TRf n s5 r5 := by
            rcases y3 with ⟨f5, -, y4, -⟩ | y4
            · exact ⟨f5, .inl y4⟩
            · exact ⟨0, .inr y4⟩
          obtain ⟨f5, y5⟩ := y5
          obtain ⟨s6, r6, u1, u2, u3⟩ := t_sgn hT y5 ch59 sg59
          have hC1 : f_X9_readStep (q + 1) (nI k) A.1 A.2.1 A.2.2.1 A.2.2.2.1 A.2.2.2.2.1 A.2.2.2.2.2.1 A.2.2.2.2.2.2 (nI n) s.1 s.2.1 s.2.2.1 s.2.2.2.1 s.2.2.2.2.1 s.2.2.2.2.2 v (nI np) w hh (nI d) = some (nI (k + 1), upd A.1 k (nI j), A1, A2, A3, A4, A5, upd A.2.2.2.2.2.2 k (nI (k + 1)), s5) := by
            rw [hC0, f_X9_readStep_b46, pu_ck hk (by omega), h.ft.1, h.ft.2.1, hs0, Option.bind_some, if_neg nj6, if_neg n3, if_neg n4, nI_clamp (by omega), nI_1]
            rw [show f_X9_readPlace (upd A.1 k (nI j)) A.2.1 A.2.2.1 A.2.2.2.1 A.2.2.2.2.1 A.2.2.2.2.2.1 (nI np) w hh (nI n) (nI (tK n B (tF n B (tW n B f)))) (nI (tF n B (tW n B f))) (nI (tT n B (tF n B (tW n B f)))) (nI (tV n B (tF n B (tW n B f)))) 0 (-1) v (nI k) = _ from y1, Option.bind_some, f_X9_readStep_b140, pu_ck hk (by omega), nI_clamp (by omega)]
          have hR2 : f_X11_readsStep (q + 1) (nI n) r.1 r.2.1 r.2.2 (nI d) (nI k) fe to pa g = some (r6.1, r6.2.1, r6.2.2, nI d, nI (k + 1), gset g5 k 6 (nI (k + 1))) := by
            have hR3 : f_X11_readsStep (q + 1) (nI n) r.1 r.2.1 r.2.2 (nI d) (nI k) fe to pa g = f_X11_readsStep_b79 (f_X11_readsStep q) (nI n) fe to pa (nI (tW n B f)) 0 (-1) (nI d) (nI (k + 1)) (gset g k 0 (nI j)) (nI j) (nI k) := by
              rw [hR1]
              rcases hj5 with j3 | j3
              · rw [if_pos (show nI j < 3 from nI_lt (b := 3) j3 (by decide))]
              · rw [if_neg (show ¬ nI j < 3 by rw [j3]; decide), if_pos (show nI j = 5 by rw [j3]; rfl)]
            exact hR3.trans (y2.trans (r_255 (by omega) u2))
          refine ⟨nI (k + 1), (upd A.1 k (nI j), A1, A2, A3, A4, A5, upd A.2.2.2.2.2.2 k (nI (k + 1))), s5, s6, r6, nI d, nI (k + 1), _, hC1, u1, hR2, ?_⟩
          rcases u3 with ⟨u3, f6, u4, u5⟩ | u3
          · rcases y3 with ⟨f5', y6, y7, y8, y9⟩ | y3
            · have ef : f5' = f5 := by
                have a1 : s5.2.1 = nI f5' := by rw [y7.2.1]
                have a2 : s5.2.1 = nI f5 := by rw [u3.2.1]
                have a3 : nI f5' = nI f5 := a1.symm.trans a2
                rw [nI_eq (by have := y7.1; omega) (by have := u3.1; omega)] at a3
                exact a3
              subst ef
              refine .inl ⟨k + 1, f6, rfl, rfl, rfl, by omega, wr_one (j := j) nj6 u5 (by omega) (fun i hi => ?_) y9⟩
              obtain ⟨d1, d2, d3, d4, d5, dg⟩ := y8 i hi
              exact ⟨d1, d2, d3, d4, d5, fun j => by rw [dg j, gset_ne (.inl hi)]⟩
            · exact absurd u3.ft.2.2.1 y3.ne
          · exact .inr u3
    · have hF : TRf n (4, nI f, s.2.2.1, s.2.2.2.1, 1, nI f) (nI f, 1, nI f) := ⟨nI f, s.2.2.1, s.2.2.2.1, 1, nI f, f, by decide, hf, rfl, rfl⟩
      refine ⟨nI k, A, (4, nI f, s.2.2.1, s.2.2.2.1, 1, nI f), (4, nI f, s.2.2.1, s.2.2.2.1, 1, nI f), (nI f, 1, nI f), nI d, nI k, g, ?_, tf_sign (show (1 : Int32) ≠ 0 by decide), rd_bad h c2 (nI d) (nI k) g, .inr hF⟩
      rw [f_X9_readStep, fb_X9_readStep, c1, Option.bind_some, if_pos rfl, f_X9_readStep_b21, f_X7_wrong, if_pos h.ft.1, Option.bind_some, e2f]
  · obtain ⟨c, c1, c2, hc⟩ := t_stepK hT h
    rcases hc with ⟨j, hj, rfl, wj⟩ | rfl
    · exact absurd (wj.lt (by omega)) e
    · exact rd_bad h c2 op cnt g
theorem wr_all {n : Nat} {B : Nat → Nat} {v fe : Nat → Int32} (hT : Tp n B v fe) (hn : n ≤ 200) {np : Nat} {W H : Nat → Nat} {w hh to : Nat → Int32} {pa : Nat → Nat → Int32} (hst : WSt np W H w hh to pa) : ∀ q d, d ≤ 6 → 6 < d + q → WrOK n B v fe np W H w hh to pa (f_X9_readStep q) (f_X11_readsStep q) d := by
  intro q
  induction q with
  | zero =>
    intro d h1 h2
    omega
  | succ q ih =>
    intro d hd hq
    exact wr_step hT hn hst hd (fun h => ih (d + 1) (by omega) (by omega))

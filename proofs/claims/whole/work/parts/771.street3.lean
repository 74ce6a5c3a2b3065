/-! street: the call -/
theorem q_street {L i : Nat} {C : CS} {R : RS} {cells slots : Nat} (h : PzInv L i C R cells slots) (hi : i + 7 ≤ L) (x1 : Int32) : pS_street (PzInv L (i + 7)) C R x1 cells slots := by
  obtain ⟨np, no, hd, W, H, hS, hG, hL, hB, hT0, hr⟩ := id h.2.1
  obtain ⟨N, B, hN, ht1, hm1, hpl, hTp⟩ := hT0.tp
  have hk := h.keep (a := 1) (b := 6) hi (by omega) (by omega) h.1
  have hku := h.keep (a := 1) (b := 6) hi (by omega) (by omega) (h.1.up (k := 2))
  rcases bt_cases x1 (N := N) (M := 600) (by omega) (by omega) with hbad | ⟨n, hn1, hn2, rfl⟩
  · have e1 : fC_street C x1 = some (1, 0, 0, C.i13, C.i14, upd C.v15 2 (C.v15 2 + 1), C.t.1, C.t.2.1, C.t.2.2.1, C.t.2.2.2.1, C.t.2.2.2.2.1, C.t.2.2.2.2.2.1, C.t.2.2.2.2.2.2.1, C.t.2.2.2.2.2.2.2.1, C.s2.1, C.s2.2.1, C.s2.2.2.1, C.s2.2.2.2.1, C.s2.2.2.2.2.1, C.s2.2.2.2.2.2.1, C.s2.2.2.2.2.2.2.1, C.s2.2.2.2.2.2.2.2.1, C.s2.2.2.2.2.2.2.2.2.1, C.s2.2.2.2.2.2.2.2.2.2.1, C.s2.2.2.2.2.2.2.2.2.2.2.1, C.s2.2.2.2.2.2.2.2.2.2.2.2.1, C.s2.2.2.2.2.2.2.2.2.2.2.2.2, C.l1.1, C.l1.2.1, C.b1.1, C.b1.2.1, C.i2, C.n.1, C.n.2.1, C.n.2.2.1, C.n.2.2.2.1, C.n.2.2.2.2.1, C.n.2.2.2.2.2.2.1, C.n.2.2.2.2.2.2.2) := by
      rw [fC_street, f_X10_street, ht1, bt_bad (mo := 600) hbad, Option.bind_some, if_neg N1z]
    have e24 : f_X11_street_b23 R.v9 0 (nI N) R.i2 R.i3 R.i4 R.i5 R.i6 R.i7 R.i8 R.i19 R.i33 R.i34 R.i35 R.i36 R.v10 R.v11 R.v12 R.v29 R.g13 R.g14 R.g15 R.g16 R.g17 R.g18 x1 1 = some (0, 1, nI N, R.i2, R.i3, R.i4, R.i5, R.i6, R.i7, R.i8, R.i19, R.i33, R.i34, R.i35, R.i36, upd R.v10 2 (R.v10 2 + 1), R.v11, R.v12, R.v29, R.g13, R.g14, R.g15, R.g16, R.g17, R.g18) := by
      rw [f_X11_street_b23, r_B1, Option.bind_some, if_neg n1z]
    have e2 : fR_street R x1 = some (0, 1, R.i1, R.i2, R.i3, R.i4, R.i5, R.i6, R.i7, R.i8, R.i19, R.i33, R.i34, R.i35, R.i36, upd R.v10 2 (R.v10 2 + 1), R.v11, R.v12, R.v29, R.g13, R.g14, R.g15, R.g16, R.g17, R.g18) := by
      rw [fR_street, f_X11_street, hm1]
      rcases r_textBad (M := 600) (by omega) hbad with h1 | ⟨h1, h2⟩
      · rw [h1, Option.bind_some, if_pos rfl, e24]
      · exfalso
        rw [f_X11_in] at h1
        by_cases c1 : x1 < 0
        · rw [if_pos c1] at h1
          exact absurd h1 (by decide)
        · rw [if_neg c1] at h1
          by_cases c2 : nI N < x1
          · rw [if_pos c2] at h1
            exact absurd h1 (by decide)
          · obtain ⟨j, hj, rfl⟩ := nI_of c1
            rw [nI_ltI (by omega) (by omega)] at c2
            exact h2 (nI_le (by omega) (by omega))
    exact .inl ⟨_, _, e1, rfl, e2, .inr rfl, rfl, fun h3 => absurd h3 N1z, pz_fit h (by omega) (by omega), hku⟩
  · have hT := hTp n hn1
    obtain ⟨z, X, s', r', cl', to', pa', ra', od', a1, a2, a3⟩ := st_loop hT 0 0 R.i3 0 R.i19 R.i33 R.i34 R.i35 R.i36 R.v10 R.v12 R.v29 R.g14 R.g16 R.g18 61 0 4000 4000 (tF n B 0) (tk n B (tF n B 0)) (0, 0, 0, 1, 3, 20, C.s2.2.2.2.2.2.2.1, C.s2.2.2.2.2.2.2.2.1, C.s2.2.2.2.2.2.2.2.2.1, C.s2.2.2.2.2.2.2.2.2.2.1, C.s2.2.2.2.2.2.2.2.2.2.2.1, fillF C.s2.2.2.2.2.2.2.2.2.2.2.2.1 0 0 201, C.s2.2.2.2.2.2.2.2.2.2.2.2.2) (upd (upd (upd (upd (upd (upd R.v11 0 0) 1 0) 2 0) 3 1) 4 3) 5 20) R.g13 R.g15 R.g17 0 0 0 20 (fun _ => 0) (fun _ => 0) (by omega) (by omega) (by omega) (by omega) (TR0.begin n B) (PzSn_0 _ _ _ _ _ _ _ _ _ _ _)
    have e1 : fC_street C (nI n) = (if z = 0 then (some (0, s'.2.2.2.2.1 - 10, 0, C.i13, C.i14, C.v15, 0, nI n, s'.1, s'.2.1, s'.2.2.1, s'.2.2.2.1, s'.2.2.2.2.1, s'.2.2.2.2.2, X.1, X.2.1, X.2.2.1, X.2.2.2.1, X.2.2.2.2.1, X.2.2.2.2.2.1, X.2.2.2.2.2.2.1, X.2.2.2.2.2.2.2.1, X.2.2.2.2.2.2.2.2.1, X.2.2.2.2.2.2.2.2.2.1, X.2.2.2.2.2.2.2.2.2.2.1, X.2.2.2.2.2.2.2.2.2.2.2.1, X.2.2.2.2.2.2.2.2.2.2.2.2, C.l1.1, C.l1.2.1, C.b1.1, C.b1.2.1, C.i2, C.n.1, C.n.2.1, C.n.2.2.1, C.n.2.2.2.1, C.n.2.2.2.2.1, C.n.2.2.2.2.2.2.1, C.n.2.2.2.2.2.2.2)) else (some (0, X.1, 1, 0, 0, C.v15, 0, nI n, s'.1, s'.2.1, s'.2.2.1, s'.2.2.2.1, s'.2.2.2.2.1, s'.2.2.2.2.2, X.1, X.2.1, X.2.2.1, X.2.2.2.1, X.2.2.2.2.1, X.2.2.2.2.2.1, X.2.2.2.2.2.2.1, X.2.2.2.2.2.2.2.1, X.2.2.2.2.2.2.2.2.1, X.2.2.2.2.2.2.2.2.2.1, X.2.2.2.2.2.2.2.2.2.2.1, X.2.2.2.2.2.2.2.2.2.2.2.1, X.2.2.2.2.2.2.2.2.2.2.2.2, 1, upd C.l1.2.1 0 1, 0, 0, 0, 0, 0, 0, 0, 0, fillF C.n.2.2.2.2.2.2.1 0 0 80, fillF C.n.2.2.2.2.2.2.2 0 0 201))) := by
      rw [fC_street, f_X10_street, ht1, bt_ok (M := 600) (mo := 600) hT hn1 hn2 (by omega) (by omega) rfl, Option.bind_some, if_pos rfl, f_X6_read, p_forget6, Option.bind_some]
      rw [show f_X6_read_b6 (nI n) C.t.2.2.2.2.2.2.2.2 4000 0 0 0 1 3 20 C.s2.2.2.2.2.2.2.1 C.s2.2.2.2.2.2.2.2.1 C.s2.2.2.2.2.2.2.2.2.1 C.s2.2.2.2.2.2.2.2.2.2.1 C.s2.2.2.2.2.2.2.2.2.2.2.1 (fillF C.s2.2.2.2.2.2.2.2.2.2.2.2.1 0 0 201) C.s2.2.2.2.2.2.2.2.2.2.2.2.2 (nI (tK n B (tF n B 0))) (nI (tF n B 0)) (nI (tT n B (tF n B 0))) (nI (tV n B (tF n B 0))) 0 (-1) 0 = _ from a1, Option.bind_some, f_X3_forget, Option.bind_some, f_X0_forget, Option.bind_some, p_forget4, Option.bind_some]
      rfl
    have e2 : fR_street R (nI n) = f_X11_street_b71 R.v9 0 0 (nI n) R.i3 r'.1 r'.2.1 r'.2.2 cl' 0 R.i19 R.i33 R.i34 R.i35 R.i36 R.v10 to' R.v12 R.v29 pa' R.g14 ra' R.g16 od' R.g18 := by
      rw [fR_street, f_X11_street, hm1, r_inText hn1 (by omega), Option.bind_some, if_neg (by decide), f_X11_street_b23, r_bad0, Option.bind_some, if_pos rfl, t_starts hT, Option.bind_some, r_tellsNothing, Option.bind_some]
      exact a2
    rcases a3 with ⟨rfl, p1, p2, np', no', nr', hd', W', H', hS'⟩ | ⟨rfl, z1, z2, z3, y, pl, a, hy, ha, rfl, rfl⟩
    · obtain ⟨w12, w29, w14, w16, w18, l1, l2, l3⟩ := r_stands hS' R.i19 R.i33 R.i34 R.i35 R.i36 R.v12 R.v29 R.g14 R.g16 R.g18
      rw [if_neg (by decide)] at e1
      rw [f_X11_street_b71, if_pos p2, l1, Option.bind_some] at e2
      have hT' : PzT (0, nI n, s'.1, s'.2.1, s'.2.2.1, s'.2.2.2.1, s'.2.2.2.2.1, s'.2.2.2.2.2, C.t.2.2.2.2.2.2.2.2) 0 (-1) R.v9 := by
        rw [p1]
        exact PzT.none R.v9
      have hG' : PzGX np' hd' W' H' (0, 0, 0, 0, 0, C.n.2.2.2.2.2.1, fillF C.n.2.2.2.2.2.2.1 0 0 80, fillF C.n.2.2.2.2.2.2.2 0 0 201) w29 := PzG_0 l3 (fun c hc => by rw [fillF, if_pos (by omega)]) (fun d hd => by rw [fillF, if_pos (by omega)])
      have hL' : PzL (1, upd C.l1.2.1 0 1, C.l1.2.2) 0 R.g21 := ⟨0, by omega, rfl, .inl ⟨rfl, rfl, rfl⟩⟩
      have hB' : PzB (0, 0, C.b1.2.2.1, C.b1.2.2.2) 0 R.g23 := ⟨0, fun _ => 0, by omega, rfl, rfl, rfl, fun i j _ hj => by omega, fun i hi => by omega⟩
      have hP' : PzP np' hd' W' H' 0 C.B C.G 0 R.g31 := ⟨0, by omega, rfl, rfl, fun j hj => by omega⟩
      have hI' : PzI np' hd' W' H' 0 C.IM C.mi C.mB C.mn C.mG 0 R.g32 := by
        obtain ⟨k, -, -, -, h4, -⟩ := hr.2.1
        exact ⟨0, by omega, rfl, rfl, h4, fun j hj => by omega⟩
      exact .inr ⟨_, _, e1, rfl, e2, .inl rfl, rfl, fun _ => hS'.2.2.2.2.1.1.trans l2.2.2.2.1.2.symm, pz_fit h (by omega) (by omega), h.1, ⟨np', no', hd', W', H', l2, hG', hL', hB', hT', hP', hI', rfl, hr.2.2.2.1, hr.2.2.2.2.1, hr.2.2.2.2.2⟩, hk.2.2⟩
    · rw [if_pos rfl] at e1
      rw [f_X11_street_b71, if_neg (show ¬ y = 0 from hy), f_X11_ends, Option.bind_some] at e2
      have hT' : PzT (0, nI n, 4, z1, z2, z3, y, pl, C.t.2.2.2.2.2.2.2.2) 0 pl R.v9 := PzT.none R.v9
      exact .inl ⟨_, _, e1, rfl, e2, .inl rfl, rfl, fun _ => rfl, pz_fit h (by omega) (by omega), h.1, ⟨np, no, hd, W, H, hS, hG, hL, hB, hT', hr⟩, hk.2.2⟩

/-! law: reading, all of it -/
theorem tK_1 {n : Nat} {B : Nat → Nat} {f : Nat} (h : tK n B f = 1) : f < tD n B f := by
  by_cases e : f < tD n B f
  · exact e
  · rw [tK, if_neg e] at h
    by_cases e2 : n ≤ f
    · rw [if_pos e2] at h
      omega
    · rw [if_neg e2] at h
      by_cases e3 : f < tW n B f
      · rw [if_pos e3] at h
        omega
      · rw [if_neg e3] at h
        omega
theorem nm1 : ∀ j, j < 8 → ¬ nI j = -1 := by decide
theorem lw_word {n : Nat} {B : Nat → Nat} {v fe : Nat → Int32} (hT : Tp n B v fe) (hn : n ≤ 150) {d f k : Nat} (hd : d ≤ 6) {F : LCF} {F' : LRF} (hrec : d < 6 → LwOK n B v fe F F' (d + 1)) {s : TS} {r : TQ} (h : TR0 n B f s r) (hk : k ≤ f) (hlt : f < tW n B f) {vv : Nat} (hv : vv < 7) {t0 how : Int32} (ht : t0 = -9 - nI vv) (hw : how = nI (2 + vv)) (h0 : ¬ t0 = 0) (hw1 : ¬ how = -1) (code : Nat → Int32) (g : Nat → Nat → Int32) :
    ∃ len' code' s' r' op' cnt' g', f_X3_readUnit_b96 F (nI n) v (nI k) code s.1 s.2.1 s.2.2.1 s.2.2.2.1 s.2.2.2.2.1 s.2.2.2.2.2 (nI d) t0 = some (len', code', s') ∧ f_X11_one_b56 F' (nI n) fe (nI f) 0 (-1) (nI d) (nI k) g how = some (r'.1, r'.2.1, r'.2.2, op', cnt', g') ∧ LwOut n B d f k code g 1 len' code' s' r' op' cnt' g' := by
  have hf := h.1
  by_cases e : d < 6
  · have hge := tF_ge n B (tW n B f)
    obtain ⟨l1, c1, s1, r1, o1, n1, g1, a1, a2, a3⟩ := (lw_b99 hT hn e (f := f) (f1 := tF n B (tW n B f)) (k := k) (by omega) hk (hrec e) (t_stepW' hT h hlt) (t_stepW hT h hlt) ⟨h.ft.1, h.ft.2.1⟩ code g).2 vv t0 how hv ht hw h0
    refine ⟨l1, c1, s1, r1, o1, n1, g1, a1, ?_, a3⟩
    rw [f_X11_one_b56, if_neg hw1, t_opens0 e, Option.bind_some, if_neg n1z, show f_X11_skipWord (nI n) (nI f) fe = _ from r_skip hT hf, Option.bind_some]
    exact a2
  · have e6 : d = 6 := by omega
    subst e6
    refine ⟨nI k, code, (4, nI f, s.2.2.1, s.2.2.2.1, 3, nI f), (nI f, 3, nI f), nI 6, nI k, g, lw_b99f h code t0, ?_, .inr ⟨⟨k, by omega, rfl⟩, nI f, s.2.2.1, s.2.2.2.1, 3, nI f, f, by decide, hf, rfl, rfl⟩⟩
    rw [f_X11_one_b56, if_neg hw1, t_opens6, Option.bind_some, if_pos rfl]
theorem lw_par {n : Nat} {B : Nat → Nat} {v fe : Nat → Int32} (hT : Tp n B v fe) (hn : n ≤ 150) {d f k : Nat} (hd : d ≤ 6) {F : LCF} {F' : LRF} (hrec : d < 6 → LwOK n B v fe F F' (d + 1)) {s : TS} {r : TQ} (h : TR0 n B f s r) (hk : k ≤ f) (hp : f < n ∧ B f = 40) (code : Nat → Int32) (g : Nat → Nat → Int32) :
    ∃ len' code' s' r' op' cnt' g', f_X3_readUnit_b96 F (nI n) v (nI k) code s.1 s.2.1 s.2.2.1 s.2.2.2.1 s.2.2.2.2.1 s.2.2.2.2.2 (nI d) 0 = some (len', code', s') ∧ f_X11_one_b56 F' (nI n) fe (nI f) 0 (-1) (nI d) (nI k) g (-1) = some (r'.1, r'.2.1, r'.2.2, op', cnt', g') ∧ LwOut n B d f k code g 1 len' code' s' r' op' cnt' g' := by
  have hf := h.1
  have hn6 := hT.1
  have hb : byI n B f = 40 := by
    rw [ch40, byI_eq hT (by omega)]
    exact hp
  by_cases e : d < 6
  · have hge := tF_ge n B (f + 1)
    obtain ⟨l1, c1, s1, r1, o1, n1, g1, a1, a2, a3⟩ := (lw_b99 hT hn e (f := f) (f1 := tF n B (f + 1)) (k := k) (by omega) hk (hrec e) (TR0.go (show f + 1 ≤ n by omega)) (t_stepS hT h sg40 hp) ⟨h.ft.1, h.ft.2.1⟩ code g).1
    refine ⟨l1, c1, s1, r1, o1, n1, g1, a1, ?_, a3⟩
    rw [f_X11_one_b56, if_pos rfl, r_by hT (show f < 2 ^ 31 by omega), Option.bind_some, if_pos hb, t_opens0 e, Option.bind_some, if_neg n1z, nI_1]
    exact a2
  · have e6 : d = 6 := by omega
    subst e6
    refine ⟨nI k, code, (4, nI f, s.2.2.1, s.2.2.2.1, 3, nI f), (nI f, 3, nI f), nI 6, nI k, g, lw_b99f h code 0, ?_, .inr ⟨⟨k, by omega, rfl⟩, nI f, s.2.2.1, s.2.2.2.1, 3, nI f, f, by decide, hf, rfl, rfl⟩⟩
    rw [f_X11_one_b56, if_pos rfl, r_by hT (show f < 2 ^ 31 by omega), Option.bind_some, if_pos hb, t_opens6, Option.bind_some, if_pos rfl]
/-- no word that opens: number, name, ( or what can't stand there -/
theorem lw_else {n : Nat} {B : Nat → Nat} {v fe : Nat → Int32} (hT : Tp n B v fe) (hn : n ≤ 150) {d f k : Nat} (hd : d ≤ 6) {F : LCF} {F' : LRF} (hrec : d < 6 → LwOK n B v fe F F' (d + 1)) {s : TS} {r : TQ} (h : TR0 n B f s r) (hk : k ≤ f) (code : Nat → Int32) (g : Nat → Nat → Int32) (hK : ¬ tK n B f = 1) (c5 : f_X7_isWord s.1 s.2.1 s.2.2.1 v 5 = some 0) (c6 : f_X7_isWord s.1 s.2.1 s.2.2.1 v 6 = some 0) :
    ∃ len' code' s' r' op' cnt' g', fb_X3_readUnit F (nI k) code (nI n) s.1 s.2.1 s.2.2.1 s.2.2.2.1 s.2.2.2.2.1 s.2.2.2.2.2 v (nI d) = some (len', code', s') ∧ f_X11_one_b56 F' (nI n) fe (nI f) 0 (-1) (nI d) (nI k) g (-1) = some (r'.1, r'.2.1, r'.2.2, op', cnt', g') ∧ LwOut n B d f k code g 1 len' code' s' r' op' cnt' g' := by
  have hf := h.1
  have hn6 := hT.1
  have hs1 : s.1 = nI (tK n B f) := by rw [h.2.1]
  have hkl := tK_lt n B f
  have hk1 : ¬ s.1 = 1 := by
    rw [hs1, pl1, nI_eq (by omega) (by omega)]
    exact hK
  obtain ⟨c, kk, a, n1, n2, hnm⟩ := t_name hT h.at
  rcases hnm with ⟨j, hj, rfl, rfl, wj, rfl⟩ | ⟨rfl, rfl, rfl, hno⟩
  · have hlt := wj.lt (by omega)
    have hB := tW_in (n := n) (B := B) (Nat.le_refl f) hlt
    have hge := tF_ge n B (tW n B f)
    have hb : ¬ byI n B f = 40 := by
      rw [ch40, byI_eq hT (by omega)]
      omega
    obtain ⟨p1, p2, p3⟩ := LwOut.lit hn (d := d) hk (show f < tF n B (tW n B f) by omega) code g (t_stepW' hT h hlt) (t := -1 - nI j) (w := 1) (x := nI j) (.inr ⟨j, hj, rfl, rfl, rfl⟩)
    refine ⟨nI (k + 1), _, _, (nI (tW n B f), 0, -1), nI d, nI (k + 1), _, ?_, ?_, p3⟩
    · rw [fb_X3_readUnit, if_neg hk1, n1, Option.bind_some, if_neg (nm1 j hj), p1, Option.bind_some, t_stepW hT h hlt, Option.bind_some, h.ft.1, h.ft.2.1]
    · rw [f_X11_one_b56, if_pos rfl, r_by hT (show f < 2 ^ 31 by omega), Option.bind_some, if_neg hb, show f_X11_knownHere (nI n) (nI f) 0 fe = _ from n2, Option.bind_some, if_neg (nm1 j hj), p2, Option.bind_some]
  · by_cases e : f < n ∧ B f = 40
    · obtain ⟨l1, c1, s1, r1, o1, n1', g1, a1, a2, a3⟩ := lw_par hT hn hd hrec h hk e code g
      refine ⟨l1, c1, s1, r1, o1, n1', g1, ?_, a2, a3⟩
      rw [fb_X3_readUnit, if_neg hk1, n1, Option.bind_some, if_pos rfl, c5, Option.bind_some, if_pos rfl, c6, Option.bind_some, if_pos rfl, f_X3_readUnit_b72, if_pos rfl, t_isSign1 hT h ch40 sg40 e, Option.bind_some, if_neg n1z]
      exact a1
    · have hb : ¬ byI n B f = 40 := by
        rw [ch40, byI_eq hT (by omega)]
        exact e
      obtain ⟨c, s', b, r', u1, u2, u3⟩ := t_num hT h.at (lo := 0) (hi := 999) (by omega) (by decide)
      rcases u3 with ⟨x, f', -, -, -, -, -, -, -, -, hx, -⟩ | ⟨rfl, rfl, hF, -⟩
      · exact absurd hx hK
      · have u1' : f_X7_takeNumber (nI n) s.1 s.2.1 s.2.2.1 s.2.2.2.1 s.2.2.2.2.1 s.2.2.2.2.2 v (nI 0) 999 = some (nI 0, 4, s.2.1, s.2.2.1, s.2.2.2.1, 1, s.2.1) := by
          rw [f_X7_takeNumber, if_neg hk1, f_X7_wrong, if_pos h.ft.1, Option.bind_some]
        have hs' := (Prod.mk.inj (Option.some.inj (u1'.symm.trans u1))).2
        subst hs'
        refine ⟨nI k, code, (4, s.2.1, s.2.2.1, s.2.2.2.1, 1, s.2.1), r', nI d, nI k, g, ?_, ?_, .inr ⟨⟨k, by omega, rfl⟩, hF⟩⟩
        · rw [fb_X3_readUnit, if_neg hk1, n1, Option.bind_some, if_pos rfl, c5, Option.bind_some, if_pos rfl, c6, Option.bind_some, if_pos rfl, f_X3_readUnit_b72, if_pos rfl, t_isSign0 hT h ch40 sg40 e, Option.bind_some, if_pos rfl, f_X7_wrong, if_pos h.ft.1, Option.bind_some]
        · rw [f_X11_one_b56, if_pos rfl, r_by hT (show f < 2 ^ 31 by omega), Option.bind_some, if_neg hb, show f_X11_knownHere (nI n) (nI f) 0 fe = _ from n2, Option.bind_some, if_pos rfl, show f_X11_number (nI n) (nI f) 0 (-1) fe 0 999 = _ from u2, Option.bind_some, show f_X11_notes (((0 : Int32), r').2.2.1) (nI k) g 0 ((0 : Int32), r').1 = some (nI k, g) from tf_notes hF.ne g, Option.bind_some]
theorem lw_numb {n : Nat} {B : Nat → Nat} {v fe : Nat → Int32} (hT : Tp n B v fe) (hn : n ≤ 150) {d f k : Nat} {F : LRF} {s : TS} {r : TQ} (h : TR0 n B f s r) (hk : k ≤ f) (code : Nat → Int32) (g : Nat → Nat → Int32) (hK : tK n B f = 1) :
    ∃ len' code' s' r' op' cnt' g', ((f_X7_takeNumber (nI n) s.1 s.2.1 s.2.2.1 s.2.2.2.1 s.2.2.2.2.1 s.2.2.2.2.2 v (0) (999)).bind fun q14 => (f_X3_put (nI k) code q14.1).bind fun q17 => some (q17.1, q17.2, q14.2.1, q14.2.2.1, q14.2.2.2.1, q14.2.2.2.2.1, q14.2.2.2.2.2.1, q14.2.2.2.2.2.2)) = some (len', code', s') ∧ f_X11_one_b56 F (nI n) fe (nI f) 0 (-1) (nI d) (nI k) g (-1) = some (r'.1, r'.2.1, r'.2.2, op', cnt', g') ∧ LwOut n B d f k code g 1 len' code' s' r' op' cnt' g' := by
  have hf := h.1
  have hn6 := hT.1
  have hD := tK_1 hK
  have hD2 := tD_le B hf
  have hB := tD_in (n := n) (B := B) (Nat.le_refl f) hD
  have hb : ¬ byI n B f = 40 := by
    rw [ch40, byI_eq hT (by omega)]
    omega
  obtain ⟨c, kk, a, n1, n2, hnm⟩ := t_name hT h.at
  rcases hnm with ⟨j, hj, rfl, rfl, wj, rfl⟩ | ⟨rfl, rfl, rfl, hno⟩
  · have := (tK_2 hf).2 (wj.lt (by omega))
    omega
  · obtain ⟨c, s', b, r', u1, u2, u3⟩ := t_num hT h.at (lo := 0) (hi := 999) (by omega) (by decide)
    rcases u3 with ⟨x, f', rfl, rfl, -, hx, hx5, hff, -, -, -, h'⟩ | ⟨rfl, rfl, hF, -⟩
    · have hx9 : x ≤ 999 := by
        rw [show (999 : Int32) = nI 999 from rfl, nI_leI (by omega) (by omega)] at hx
        exact hx
      obtain ⟨p1, p2, p3⟩ := LwOut.lit hn (d := d) hk hff code g h' (t := nI x) (w := 0) (x := nI x) (.inl ⟨x, hx9, rfl, rfl, rfl⟩)
      have p2' : f_X11_notes r'.2.1 (nI k) g 0 (nI x) = some (nI (k + 1), gset (gset g k 0 0) k 1 (nI x)) := by
        rw [h'.ft.2.2.1]
        exact p2
      refine ⟨nI (k + 1), _, s', r', nI d, nI (k + 1), _, ?_, ?_, p3⟩
      · rw [show f_X7_takeNumber (nI n) s.1 s.2.1 s.2.2.1 s.2.2.2.1 s.2.2.2.2.1 s.2.2.2.2.2 v 0 999 = _ from u1, Option.bind_some, p1, Option.bind_some]
      · rw [f_X11_one_b56, if_pos rfl, r_by hT (show f < 2 ^ 31 by omega), Option.bind_some, if_neg hb, show f_X11_knownHere (nI n) (nI f) 0 fe = _ from n2, Option.bind_some, if_pos rfl, show f_X11_number (nI n) (nI f) 0 (-1) fe 0 999 = _ from u2, Option.bind_some, show f_X11_notes ((nI x, r').2.2.1) (nI k) g 0 (nI x, r').1 = _ from p2', Option.bind_some]
    · refine ⟨nI (k + 1), upd code k (nI 0), s', r', nI d, nI k, g, ?_, ?_, .inr ⟨⟨k + 1, by omega, rfl⟩, hF⟩⟩
      · rw [show f_X7_takeNumber (nI n) s.1 s.2.1 s.2.2.1 s.2.2.2.1 s.2.2.2.2.1 s.2.2.2.2.2 v 0 999 = _ from u1, Option.bind_some, p_put3 (by omega) code (nI 0), Option.bind_some]
      · rw [f_X11_one_b56, if_pos rfl, r_by hT (show f < 2 ^ 31 by omega), Option.bind_some, if_neg hb, show f_X11_knownHere (nI n) (nI f) 0 fe = _ from n2, Option.bind_some, if_pos rfl, show f_X11_number (nI n) (nI f) 0 (-1) fe 0 999 = _ from u2, Option.bind_some, show f_X11_notes (((0 : Int32), r').2.2.1) (nI k) g 0 ((0 : Int32), r').1 = some (nI k, g) from tf_notes hF.ne g, Option.bind_some]
theorem lw_unit {n : Nat} {B : Nat → Nat} {v fe : Nat → Int32} (hT : Tp n B v fe) (hn : n ≤ 150) : ∀ q d, d ≤ 6 → 6 < d + q → LwOK n B v fe (f_X3_readUnit q) (f_X11_one q) d := by
  intro q
  induction q with
  | zero =>
    intro d h1 h2
    omega
  | succ q ih =>
    intro d hd hq
    have hrec : d < 6 → LwOK n B v fe (f_X3_readUnit q) (f_X11_one q) (d + 1) := fun h => ih (d + 1) (by omega) (by omega)
    refine ⟨fun k code s r op cnt g hk hF => ?_, fun f k code s r g h hk => ?_⟩
    · obtain ⟨x1, x2, x3, y, pl, a, hy, ha, rfl, rfl⟩ := hF
      refine ⟨?_, ?_⟩
      · rw [f_X3_readUnit, fb_X3_readUnit, if_neg (show ¬ (4 : Int32) = 1 by decide), tf_name, Option.bind_some, if_pos rfl, tf_word, Option.bind_some, if_pos rfl, tf_word, Option.bind_some, if_pos rfl, f_X3_readUnit_b72, if_pos rfl, tf_isSign, Option.bind_some, if_pos rfl, tf_wrong hy, Option.bind_some]
      · rw [f_X11_one, fb_X11_one, if_neg hy]
    · have hf := h.1
      have hs1 : s.1 = nI (tK n B f) := by rw [h.2.1]
      have hkl := tK_lt n B f
      have z := h.ft.2.2.1
      have z2 := h.ft.2.2.2
      have hone : ∀ j, 5 ≤ j → j < 7 → IsW n B f j → f_X3_nameOf s.1 s.2.1 s.2.2.1 v = some (-1) := by
        intro j j5 j7 wj
        obtain ⟨c, kk, a, n1, n2, hnm⟩ := t_name hT h
        rcases hnm with ⟨i, hi, rfl, rfl, wi, rfl⟩ | ⟨rfl, rfl, rfl, hno⟩
        · exact absurd wi (wj.no j5 j7 hi)
        · exact n1
      have hk2 : ∀ j, j < 22 → IsW n B f j → ¬ s.1 = 1 := by
        intro j j2 wj
        rw [hs1, (tK_2 hf).2 (wj.lt j2)]
        decide
      rcases t_word hT h.at (s := 5) (by omega) six5 with ⟨w5, c5, k5⟩ | ⟨w5, c5, k5⟩
      · obtain ⟨l1, c1, s1, r1, o1, n1, g1, a1, a2, a3⟩ := lw_word hT hn hd hrec h hk (w5.lt (by omega)) (vv := 5) (by omega) (t0 := -14) (how := 7) (by decide) rfl (by decide) (by decide) code g
        refine ⟨l1, c1, s1, r1, o1, n1, g1, ?_, ?_, a3⟩
        · rw [f_X3_readUnit, fb_X3_readUnit, if_neg (hk2 5 (by omega) w5), hone 5 (by omega) (by omega) w5, Option.bind_some, if_pos rfl, c5, Option.bind_some, if_neg n1z, f_X3_readUnit_b72, if_neg (by decide)]
          exact a1
        · rw [f_X11_one, fb_X11_one, if_pos z, TR0.bl hT h, Option.bind_some, z, z2, show f_X11_isWord (nI n) (nI f) 0 fe 12 5 1 19 20 0 = _ from k5, Option.bind_some, if_neg n1z]
          exact a2
      · rcases t_word hT h.at (s := 6) (by omega) six6 with ⟨w6, c6, k6⟩ | ⟨w6, c6, k6⟩
        · obtain ⟨l1, c1, s1, r1, o1, n1, g1, a1, a2, a3⟩ := lw_word hT hn hd hrec h hk (w6.lt (by omega)) (vv := 6) (by omega) (t0 := -15) (how := 8) (by decide) rfl (by decide) (by decide) code g
          refine ⟨l1, c1, s1, r1, o1, n1, g1, ?_, ?_, a3⟩
          · rw [f_X3_readUnit, fb_X3_readUnit, if_neg (hk2 6 (by omega) w6), hone 6 (by omega) (by omega) w6, Option.bind_some, if_pos rfl, c5, Option.bind_some, if_pos rfl, c6, Option.bind_some, if_neg n1z, f_X3_readUnit_b72, if_neg (by decide)]
            exact a1
          · rw [f_X11_one, fb_X11_one, if_pos z, TR0.bl hT h, Option.bind_some, z, z2, show f_X11_isWord (nI n) (nI f) 0 fe 12 5 1 19 20 0 = _ from k5, Option.bind_some, if_pos rfl, show f_X11_isWord (nI n) (nI f) 0 fe 13 15 19 20 0 0 = _ from k6, Option.bind_some, if_neg n1z]
            exact a2
        · have hR : f_X11_one (q + 1) (nI n) r.1 r.2.1 r.2.2 (nI d) (nI k) fe g = f_X11_one_b56 (f_X11_one q) (nI n) fe (nI f) 0 (-1) (nI d) (nI k) g (-1) := by
            rw [f_X11_one, fb_X11_one, if_pos z, TR0.bl hT h, Option.bind_some, z, z2, show f_X11_isWord (nI n) (nI f) 0 fe 12 5 1 19 20 0 = _ from k5, Option.bind_some, if_pos rfl, show f_X11_isWord (nI n) (nI f) 0 fe 13 15 19 20 0 0 = _ from k6, Option.bind_some, if_pos rfl]
          by_cases hK : tK n B f = 1
          · obtain ⟨l1, c1, s1, r1, o1, n1, g1, a1, a2, a3⟩ := lw_numb hT hn (d := d) (F := f_X11_one q) h hk code g hK
            refine ⟨l1, c1, s1, r1, o1, n1, g1, ?_, hR.trans a2, a3⟩
            rw [f_X3_readUnit, fb_X3_readUnit, if_pos (show s.1 = 1 by rw [hs1, hK]; rfl)]
            exact a1
          · obtain ⟨l1, c1, s1, r1, o1, n1, g1, a1, a2, a3⟩ := lw_else hT hn hd hrec h hk code g hK c5 c6
            refine ⟨l1, c1, s1, r1, o1, n1, g1, ?_, hR.trans a2, a3⟩
            rw [f_X3_readUnit]
            exact a1
/-- the whole law -/
theorem lw_all {n : Nat} {B : Nat → Nat} {v fe : Nat → Int32} (hT : Tp n B v fe) (hn : n ≤ 150) : LwOK n B v fe (f_X3_readSum (f_X3_readUnit 9)) (f_X11_sum (f_X11_one 9)) 0 := lw_sumOK hT hn (lw_unit hT hn 9 0 (by omega) (by omega))

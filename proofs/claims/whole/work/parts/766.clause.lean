/-! street: clauses -/
def gset (g : Nat → Nat → Int32) (k j : Nat) (x : Int32) : Nat → Nat → Int32 := va_up g k (upd (g k) j x)
theorem gset_at (g : Nat → Nat → Int32) (k j : Nat) (x : Int32) (a b : Nat) : gset g k j x a b = if a = k ∧ b = j then x else g a b := by
  rw [gset, va_up]
  by_cases e : a = k
  · rw [if_pos e, upd]
    by_cases e2 : b = j
    · rw [if_pos e2, if_pos ⟨e, e2⟩]
    · rw [if_neg e2, if_neg (fun h => e2 h.2), e]
  · rw [if_neg e, if_neg (fun h => e h.1)]
theorem gset_ne {g : Nat → Nat → Int32} {k j : Nat} {x : Int32} {a b : Nat} (h : a ≠ k ∨ b ≠ j) : gset g k j x a b = g a b := by
  rw [gset_at, if_neg]
  omega
theorem gset_eq {g : Nat → Nat → Int32} {k j : Nat} {x : Int32} : gset g k j x k j = x := by
  rw [gset_at, if_pos ⟨rfl, rfl⟩]
theorem hiS {k : Nat} (hk : k ≤ 1000) : nI k - 1 < nI 100000 := by
  rw [Int32.lt_iff_toInt_lt, pl1, pk_sub_toInt (by omega) (by omega), nI_toInt (by omega)]
  omega
theorem leS {x k : Nat} (hk : k ≤ 1000) (hx : x < 100000) (h : nI x ≤ nI k - 1) : x < k := by
  rw [Int32.le_iff_toInt_le, pl1, pk_sub_toInt (by omega) (by omega), nI_toInt (by omega)] at h
  omega
theorem leN {x k : Nat} (hk : k < 2 ^ 31) (hx : x < 2 ^ 31) (h : nI x ≤ nI k) : x ≤ k := by
  rw [nI_leI hx hk] at h
  exact h
def PzSn (np no nr hd : Nat) (W H : Nat → Nat) (s : CX6) (to : Nat → Int32) (pa ra od : Nat → Nat → Int32) : Prop :=
  np ≤ 5 ∧ no ≤ 12 ∧ nr ≤ 12 ∧ (1 ≤ hd ∧ hd ≤ 30) ∧ (s.1 = nI np ∧ to 0 = nI np) ∧ (s.2.2.1 = nI no ∧ to 1 = nI no) ∧ (s.2.1 = nI nr ∧ to 2 = nI nr) ∧
  (∀ d, d ≤ 200 → ∃ r, r ≤ 9 * nr ∧ s.2.2.2.2.2.2.2.2.2.2.2.1 d = nI r ∧ pzRain ra (nI d) nr = nI r) ∧
  (∃ a, a ≤ 9 ∧ s.2.2.2.1 = nI a ∧ to 3 = nI a) ∧ (∃ a, a ≤ 9 ∧ s.2.2.2.2.1 = nI a ∧ to 4 = nI a) ∧ (s.2.2.2.2.2.1 = nI hd ∧ to 5 = nI hd) ∧
  (∀ p, p < np → PzN W H s pa p) ∧ (∀ o, o < no → PzO np W H s od o)
theorem PzSn.toS {np no nr hd : Nat} {W H : Nat → Nat} {s : CX6} {to : Nat → Int32} {pa ra od : Nat → Nat → Int32} (h : PzSn np no nr hd W H s to pa ra od) : PzS np no hd W H s to pa ra od := by
  obtain ⟨h1, h2, h3, h4, h5, h6, h7, h8, h9, h10, h11, h12, h13⟩ := h
  refine ⟨h1, h2, h4, h5, h6, ⟨nr, h3, h7.1, h7.2, fun d hd => ?_⟩, h9, h10, h11, h12, h13⟩
  obtain ⟨r, r1, r2, r3⟩ := h8 d hd
  exact ⟨r, by omega, r2, r3⟩
/-- the bits of a pane, row by row -/
def pbt (w : Nat) : Nat → Nat
  | 0 => 0
  | y + 1 => pbt w y ||| ((2 ^ w - 1) * 2 ^ (4 * y))
theorem pbt_cb : ∀ w, w ≤ 4 → ∀ h, h ≤ 4 → pbt w h = pzcb w h := by decide
theorem pbt_sm : ∀ w, w ≤ 4 → ∀ y, y < 4 → (2 ^ w - 1) * 2 ^ (4 * y) < 2 ^ 32 := by decide
theorem p_rp_b {np w hh : Nat} (hnp : np < 5) (hw : w ≤ 4) (hh4 : hh ≤ 4) (L : Int32) (v v1 v2 v3 v4 v5 : Nat → Int32) (k f t x y pl : Int32) : ∀ (m j q : Nat), j + m = hh → m < q → f_X6_readPane_b72 L v q (nI np) v1 v2 v3 v4 v5 k f t x y pl (nI w) (nI hh) (nI (pbt w j)) (nI j) = some (nI (np + 1), v1, v2, v3, v4, upd v5 np (nI (pbt w hh)), k, f, t, x, y, pl) := by
  intro m
  induction m with
  | zero =>
    intro j q hi hq
    obtain ⟨q, rfl⟩ : ∃ r, q = r + 1 := ⟨q - 1, by omega⟩
    rw [f_X6_readPane_b72, if_pos (nI_le (by omega) (by omega)), pu_ck hnp (by omega), nI_clamp (by omega), nI_1, show j = hh by omega]
  | succ m ih =>
    intro j q hi hq
    obtain ⟨q, rfl⟩ : ∃ r, q = r + 1 := ⟨q - 1, by omega⟩
    have e : nI (pbt w j) ||| ((((1 : Int32) <<< (nI w &&& 31)) - 1) <<< ((4 * nI j) &&& 31)) = nI (pbt w (j + 1)) := by
      rw [pl1, pl31, pn_shl (by omega), pk_sub (Nat.pos_of_ne_zero (by have := Nat.two_pow_pos w; omega)), pl4, pk_mul, ← pl31, pk_shlN _ (4 * j) (pz_sl (4 * j) (by omega)) (pbt_sm w hw j (by omega)), pz_or, pbt]
    rw [f_X6_readPane_b72, if_neg (nI_ge (by omega) (by omega)), e, nI_1]
    exact ih (j + 1) q (by omega) (by omega)
theorem p_rnPane {np w hh : Nat} (hnp : np < 5) (hw : w ≤ 4) (hh4 : hh ≤ 4) {L i6 i8 i10 i11 i12 c3 c4 : Int32} {v v1 v2 v3 v4 v5 v7 v9 : Nat → Int32} {s1 s2 s3 s4 s5 : TS}
    (e1 : f_X7_takeNumber L s1.1 s1.2.1 s1.2.2.1 s1.2.2.2.1 s1.2.2.2.2.1 s1.2.2.2.2.2 v 1 4 = some (nI w, s2)) (e3 : f_X7_takeNumber L s2.1 s2.2.1 s2.2.2.1 s2.2.2.2.1 s2.2.2.2.2.1 s2.2.2.2.2.2 v 1 4 = some (nI hh, s3)) (e5 : f_X7_takeNumber L s3.1 s3.2.1 s3.2.2.1 s3.2.2.2.1 s3.2.2.2.2.1 s3.2.2.2.2.2 v 0 60 = some (c3, s4)) (e7 : f_X7_takeNumber L s4.1 s4.2.1 s4.2.2.1 s4.2.2.2.1 s4.2.2.2.2.1 s4.2.2.2.2.2 v 0 9 = some (c4, s5)) :
    f_X6_readNumbers (nI np) i6 i8 i10 i11 i12 v1 v2 v3 v4 v5 v7 v9 L s1.1 s1.2.1 s1.2.2.1 s1.2.2.2.1 s1.2.2.2.2.1 s1.2.2.2.2.2 v 0 = some (nI (np + 1), i6, i8, i10, i11, i12, upd v1 np (nI w), upd v2 np (nI hh), upd v3 np c3, upd v4 np c4, upd v5 np (nI (pzcb w hh)), v7, v9, s5) := by
  have hck : ∀ {R : Type} (z : Option R), ck (nI np) 5 z = z := fun z => pu_ck hnp (by omega)
  have hcl : (nI np).toNatClampNeg = np := nI_clamp (by omega)
  have hl := p_rp_b hnp hw hh4 L v (upd v1 np (nI w)) (upd v2 np (nI hh)) (upd v3 np c3) (upd v4 np c4) v5 s5.1 s5.2.1 s5.2.2.1 s5.2.2.2.1 s5.2.2.2.2.1 s5.2.2.2.2.2 hh 0 4000 (by omega) (by omega)
  rw [pbt_cb w hw hh hh4] at hl
  rw [f_X6_readNumbers, if_pos rfl, f_X6_readPane, e1, Option.bind_some]
  simp only [e3, e5, e7, Option.bind_some, hck, hcl]
  rw [show f_X6_readPane_b72 L v 4000 (nI np) (upd v1 np (nI w)) (upd v2 np (nI hh)) (upd v3 np c3) (upd v4 np c4) v5 s5.1 s5.2.1 s5.2.2.1 s5.2.2.2.1 s5.2.2.2.2.1 s5.2.2.2.2.2 (nI w) (nI hh) 0 0 = _ from hl, Option.bind_some]
theorem r_clPane {n : Nat} {fe : Nat → Int32} {f np : Nat} {r1 r2 r3 r4 r5 : TQ} {d1 d2 d3 d4 cl : Int32} {to : Nat → Int32} {pa ra od : Nat → Nat → Int32} (hnp : np < 5) (hto : to 0 = nI np) (h0 : r1.2.1 = 0 ∧ r1.2.2 = -1) (hsk : f_X11_skipWord (nI n) (nI f) fe = some r1.1)
    (e1 : f_X11_number (nI n) r1.1 r1.2.1 r1.2.2 fe 1 4 = some (d1, r2)) (e3 : f_X11_number (nI n) r2.1 r2.2.1 r2.2.2 fe 1 4 = some (d2, r3)) (e5 : f_X11_number (nI n) r3.1 r3.2.1 r3.2.2 fe 0 60 = some (d3, r4)) (e7 : f_X11_number (nI n) r4.1 r4.2.1 r4.2.2 fe 0 9 = some (d4, r5)) :
    f_X11_clause_b86 (nI n) fe (nI f) 0 (-1) cl to pa ra od 0 = f_X11_clause_b402 (nI n) fe r5.1 r5.2.1 r5.2.2 (cl + 1) to (gset (gset (gset (gset pa np 0 d1) np 1 d2) np 2 d3) np 3 d4) ra od 0 := by
  have hck : ∀ {R : Type} (z : Option R), ck (nI np) 5 z = z := fun z => pu_ck hnp (by omega)
  have hcl : (nI np).toNatClampNeg = np := nI_clamp (by omega)
  have ht : to ((0 : Int32).toNatClampNeg) = nI np := hto
  rw [h0.1, h0.2] at e1
  rw [f_X11_clause_b86, if_pos rfl, hsk, Option.bind_some, if_pos rfl]
  simp only [ht, hck, hcl, e1, e3, e5, e7, Option.bind_some]
  rfl
theorem tf_n4 {n : Nat} {v fe : Nat → Int32} {s : TS} {r : TQ} (h : TRf n s r) (lo hi : Int32) : f_X7_takeNumber (nI n) s.1 s.2.1 s.2.2.1 s.2.2.2.1 s.2.2.2.2.1 s.2.2.2.2.2 v lo hi = some (lo, s) ∧ f_X11_number (nI n) r.1 r.2.1 r.2.2 fe lo hi = some (0, r) := by
  obtain ⟨z1, z2, z3, y, pl, a, hy, ha, rfl, rfl⟩ := h
  exact ⟨tf_num hy, tf_rnum hy⟩
theorem PzN.mono {W H W' H' : Nat → Nat} {s s' : CX6} {pa pa' : Nat → Nat → Int32} {p : Nat} (h : PzN W H s pa p) (hW : W' p = W p) (hH : H' p = H p) (h1 : s'.2.2.2.2.2.2.1 p = s.2.2.2.2.2.2.1 p) (h2 : s'.2.2.2.2.2.2.2.1 p = s.2.2.2.2.2.2.2.1 p) (h3 : s'.2.2.2.2.2.2.2.2.1 p = s.2.2.2.2.2.2.2.2.1 p) (h4 : s'.2.2.2.2.2.2.2.2.2.1 p = s.2.2.2.2.2.2.2.2.2.1 p) (h5 : s'.2.2.2.2.2.2.2.2.2.2.1 p = s.2.2.2.2.2.2.2.2.2.2.1 p) (h6 : ∀ j, pa' p j = pa p j) : PzN W' H' s' pa' p := by
  rw [PzN, hW, hH, h1, h2, h3, h4, h5, h6, h6, h6, h6]
  exact h
theorem PzO.mono {np np' : Nat} {W H W' H' : Nat → Nat} {s s' : CX6} {od od' : Nat → Nat → Int32} {o : Nat} (h : PzO np W H s od o) (hp : np ≤ np') (hW : ∀ p, p < np → W' p = W p ∧ H' p = H p) (h1 : ∀ j, j < 5 → s'.2.2.2.2.2.2.2.2.2.2.2.2 (5 * o + j) = s.2.2.2.2.2.2.2.2.2.2.2.2 (5 * o + j)) (h2 : ∀ j, j < 5 → od' o j = od o j) : PzO np' W' H' s' od' o := by
  obtain ⟨p, x, y, d, u, a1, a2, a3, a4, a5, a6, b0, b1, b2, b3, b4⟩ := h
  obtain ⟨w1, w2⟩ := hW p a1
  refine ⟨p, x, y, d, u, by omega, by omega, by omega, a4, a5, a6, ?_, ?_, ?_, ?_, ?_⟩
  · rw [show s'.2.2.2.2.2.2.2.2.2.2.2.2 (5 * o) = s.2.2.2.2.2.2.2.2.2.2.2.2 (5 * o) from h1 0 (by omega), h2 0 (by omega)]
    exact b0
  · rw [h1 1 (by omega), h2 1 (by omega)]
    exact b1
  · rw [h1 2 (by omega), h2 2 (by omega)]
    exact b2
  · rw [h1 3 (by omega), h2 3 (by omega)]
    exact b3
  · rw [h1 4 (by omega), h2 4 (by omega)]
    exact b4
theorem sn_pane {n : Nat} {B : Nat → Nat} {v fe : Nat → Int32} (hT : Tp n B v fe) {f f1 : Nat} {s1 : TS} {r1 : TQ} (h : TR0 n B f1 s1 r1) (hsk : f_X11_skipWord (nI n) (nI f) fe = some r1.1) {np no nr hd : Nat} {W H : Nat → Nat} {S : CX6} {to : Nat → Int32} {pa ra od : Nat → Nat → Int32} (hS : PzSn np no nr hd W H S to pa ra od) (hnp : np < 5) (cl : Int32) :
    ∃ X s2 r2 pa2, f_X6_readNumbers S.1 S.2.1 S.2.2.1 S.2.2.2.1 S.2.2.2.2.1 S.2.2.2.2.2.1 S.2.2.2.2.2.2.1 S.2.2.2.2.2.2.2.1 S.2.2.2.2.2.2.2.2.1 S.2.2.2.2.2.2.2.2.2.1 S.2.2.2.2.2.2.2.2.2.2.1 S.2.2.2.2.2.2.2.2.2.2.2.1 S.2.2.2.2.2.2.2.2.2.2.2.2 (nI n) s1.1 s1.2.1 s1.2.2.1 s1.2.2.2.1 s1.2.2.2.2.1 s1.2.2.2.2.2 v 0 = some (X.1, X.2.1, X.2.2.1, X.2.2.2.1, X.2.2.2.2.1, X.2.2.2.2.2.1, X.2.2.2.2.2.2.1, X.2.2.2.2.2.2.2.1, X.2.2.2.2.2.2.2.2.1, X.2.2.2.2.2.2.2.2.2.1, X.2.2.2.2.2.2.2.2.2.2.1, X.2.2.2.2.2.2.2.2.2.2.2.1, X.2.2.2.2.2.2.2.2.2.2.2.2, s2) ∧ f_X11_clause_b86 (nI n) fe (nI f) 0 (-1) cl to pa ra od 0 = f_X11_clause_b402 (nI n) fe r2.1 r2.2.1 r2.2.2 (cl + 1) to pa2 ra od 0 ∧ ((∃ f2 W' H', TR0 n B f2 s2 r2 ∧ PzSn (np + 1) no nr hd W' H' X (upd to 0 (nI (np + 1))) pa2 ra od) ∨ TRf n s2 r2) := by
  obtain ⟨g1, g2, g3, g4, g5, g6, g7, g8, g9, g10, g11, g12, g13⟩ := id hS
  have hS1 := g5.1
  have h0 : r1.2.1 = 0 ∧ r1.2.2 = -1 := ⟨h.ft.2.2.1, h.ft.2.2.2⟩
  obtain ⟨c1, s2, d1, r2, e1, e2, k1⟩ := t_nm hT h (lo' := 1) (hi := 4) 1 rfl (by omega) (by decide)
  have hfin : ∀ (w hh : Nat) (c3 c4 d1 d2 d3 d4 : Int32) (s2 s3 s4 s5 : TS) (r2 r3 r4 r5 : TQ), w ≤ 4 → hh ≤ 4 → f_X7_takeNumber (nI n) s1.1 s1.2.1 s1.2.2.1 s1.2.2.2.1 s1.2.2.2.2.1 s1.2.2.2.2.2 v 1 4 = some (nI w, s2) → f_X7_takeNumber (nI n) s2.1 s2.2.1 s2.2.2.1 s2.2.2.2.1 s2.2.2.2.2.1 s2.2.2.2.2.2 v 1 4 = some (nI hh, s3) → f_X7_takeNumber (nI n) s3.1 s3.2.1 s3.2.2.1 s3.2.2.2.1 s3.2.2.2.2.1 s3.2.2.2.2.2 v 0 60 = some (c3, s4) → f_X7_takeNumber (nI n) s4.1 s4.2.1 s4.2.2.1 s4.2.2.2.1 s4.2.2.2.2.1 s4.2.2.2.2.2 v 0 9 = some (c4, s5) → f_X11_number (nI n) r1.1 r1.2.1 r1.2.2 fe 1 4 = some (d1, r2) → f_X11_number (nI n) r2.1 r2.2.1 r2.2.2 fe 1 4 = some (d2, r3) → f_X11_number (nI n) r3.1 r3.2.1 r3.2.2 fe 0 60 = some (d3, r4) → f_X11_number (nI n) r4.1 r4.2.1 r4.2.2 fe 0 9 = some (d4, r5) →
      ((∃ f2 W' H', TR0 n B f2 s5 r5 ∧ PzSn (np + 1) no nr hd W' H' (nI (np + 1), S.2.1, S.2.2.1, S.2.2.2.1, S.2.2.2.2.1, S.2.2.2.2.2.1, upd S.2.2.2.2.2.2.1 np (nI w), upd S.2.2.2.2.2.2.2.1 np (nI hh), upd S.2.2.2.2.2.2.2.2.1 np c3, upd S.2.2.2.2.2.2.2.2.2.1 np c4, upd S.2.2.2.2.2.2.2.2.2.2.1 np (nI (pzcb w hh)), S.2.2.2.2.2.2.2.2.2.2.2.1, S.2.2.2.2.2.2.2.2.2.2.2.2) (upd to 0 (nI (np + 1))) (gset (gset (gset (gset pa np 0 d1) np 1 d2) np 2 d3) np 3 d4) ra od) ∨ TRf n s5 r5) →
      ∃ X s2 r2 pa2, f_X6_readNumbers S.1 S.2.1 S.2.2.1 S.2.2.2.1 S.2.2.2.2.1 S.2.2.2.2.2.1 S.2.2.2.2.2.2.1 S.2.2.2.2.2.2.2.1 S.2.2.2.2.2.2.2.2.1 S.2.2.2.2.2.2.2.2.2.1 S.2.2.2.2.2.2.2.2.2.2.1 S.2.2.2.2.2.2.2.2.2.2.2.1 S.2.2.2.2.2.2.2.2.2.2.2.2 (nI n) s1.1 s1.2.1 s1.2.2.1 s1.2.2.2.1 s1.2.2.2.2.1 s1.2.2.2.2.2 v 0 = some (X.1, X.2.1, X.2.2.1, X.2.2.2.1, X.2.2.2.2.1, X.2.2.2.2.2.1, X.2.2.2.2.2.2.1, X.2.2.2.2.2.2.2.1, X.2.2.2.2.2.2.2.2.1, X.2.2.2.2.2.2.2.2.2.1, X.2.2.2.2.2.2.2.2.2.2.1, X.2.2.2.2.2.2.2.2.2.2.2.1, X.2.2.2.2.2.2.2.2.2.2.2.2, s2) ∧ f_X11_clause_b86 (nI n) fe (nI f) 0 (-1) cl to pa ra od 0 = f_X11_clause_b402 (nI n) fe r2.1 r2.2.1 r2.2.2 (cl + 1) to pa2 ra od 0 ∧ ((∃ f2 W' H', TR0 n B f2 s2 r2 ∧ PzSn (np + 1) no nr hd W' H' X (upd to 0 (nI (np + 1))) pa2 ra od) ∨ TRf n s2 r2) := by
    intro w hh c3 c4 d1 d2 d3 d4 s2 s3 s4 s5 r2 r3 r4 r5 hw hh4 a1 a2 a3 a4 b1 b2 b3 b4 hE
    refine ⟨_, s5, r5, _, ?_, r_clPane hnp g5.2 h0 hsk b1 b2 b3 b4, hE⟩
    rw [hS1]
    exact p_rnPane hnp hw hh4 a1 a2 a3 a4
  rcases k1 with ⟨w, f2, rfl, rfl, hw1, hw4, hw5, -, -, -, -, t2⟩ | ⟨rfl, rfl, hF, -⟩
  · have hw : w ≤ 4 := leN (by omega) (by omega) hw4
    obtain ⟨c2, s3, d2, r3, e3, e4, k2⟩ := t_nm hT t2 (lo' := 1) (hi := 4) 1 rfl (by omega) (by decide)
    rcases k2 with ⟨hh, f3, rfl, rfl, hh1, hh4, hh5, -, -, -, -, t3⟩ | ⟨rfl, rfl, hF, -⟩
    · have hh' : hh ≤ 4 := leN (by omega) (by omega) hh4
      obtain ⟨c3, s4, d3, r4, e5, e6, k3⟩ := t_nm hT t3 (lo' := 0) (hi := 60) 0 rfl (by omega) (by decide)
      rcases k3 with ⟨al, f4, rfl, rfl, -, al4, al5, -, -, -, -, t4⟩ | ⟨rfl, rfl, hF, -⟩
      · have hal : al ≤ 60 := leN (by omega) (by omega) al4
        obtain ⟨c4, s5, d4, r5, e7, e8, k4⟩ := t_nm hT t4 (lo' := 0) (hi := 9) 0 rfl (by omega) (by decide)
        refine hfin w hh _ _ _ _ _ _ s2 s3 s4 s5 r2 r3 r4 r5 hw hh' e1 e3 e5 e7 e2 e4 e6 e8 ?_
        rcases k4 with ⟨fl, f5, rfl, rfl, -, fl4, fl5, -, -, -, -, t5⟩ | ⟨rfl, rfl, hF, -⟩
        · have hfl : fl ≤ 9 := leN (by omega) (by omega) fl4
          refine .inl ⟨f5, (fun p => if p = np then w else W p), (fun p => if p = np then hh else H p), t5, ?_⟩
          refine ⟨by omega, g2, g3, g4, ⟨rfl, by rw [upd, if_pos rfl]⟩, ⟨g6.1, by rw [upd, if_neg (by omega)]; exact g6.2⟩, ⟨g7.1, by rw [upd, if_neg (by omega)]; exact g7.2⟩, g8, ?_, ?_, ⟨g11.1, by rw [upd, if_neg (by omega)]; exact g11.2⟩, fun p hp => ?_, fun o ho => ?_⟩
          · obtain ⟨a, a1, a2, a3⟩ := g9
            exact ⟨a, a1, a2, by rw [upd, if_neg (by omega)]; exact a3⟩
          · obtain ⟨a, a1, a2, a3⟩ := g10
            exact ⟨a, a1, a2, by rw [upd, if_neg (by omega)]; exact a3⟩
          · by_cases ep : p = np
            · subst ep
              have u : ∀ (q : Nat → Int32) (z : Int32), upd q p z p = z := fun q z => by rw [upd, if_pos rfl]
              have k0 : (if p = p then w else W p) = w := if_pos rfl
              have k9 : (if p = p then hh else H p) = hh := if_pos rfl
              refine ⟨⟨?_, ?_⟩, ⟨?_, ?_⟩, ?_, ?_, ?_, ?_, ⟨al, hal, u _ _, ?_⟩, ⟨fl, hfl, u _ _, ?_⟩, ?_⟩
              · show 1 ≤ (if p = p then w else W p)
                rw [k0]
                exact hw1
              · show (if p = p then w else W p) ≤ 4
                rw [k0]
                exact hw
              · show 1 ≤ (if p = p then hh else H p)
                rw [k9]
                exact hh1
              · show (if p = p then hh else H p) ≤ 4
                rw [k9]
                exact hh'
              · show upd S.2.2.2.2.2.2.1 p (nI w) p = nI (if p = p then w else W p)
                rw [k0]
                exact u _ _
              · show _ = nI (if p = p then w else W p)
                rw [k0, gset_ne (by omega), gset_ne (by omega), gset_ne (by omega), gset_eq]
              · show upd S.2.2.2.2.2.2.2.1 p (nI hh) p = nI (if p = p then hh else H p)
                rw [k9]
                exact u _ _
              · show _ = nI (if p = p then hh else H p)
                rw [k9, gset_ne (by omega), gset_ne (by omega), gset_eq]
              · rw [gset_ne (by omega), gset_eq]
              · rw [gset_eq]
              · show upd S.2.2.2.2.2.2.2.2.2.2.1 p (nI (pzcb w hh)) p = nI (pzcb (if p = p then w else W p) (if p = p then hh else H p))
                rw [k0, k9]
                exact u _ _
            · have u : ∀ (q : Nat → Int32) (z : Int32), upd q np z p = q p := fun q z => by rw [upd, if_neg ep]
              refine (g12 p (by omega)).mono (if_neg ep) (if_neg ep) (u _ _) (u _ _) (u _ _) (u _ _) (u _ _) (fun j => ?_)
              rw [gset_ne (by omega), gset_ne (by omega), gset_ne (by omega), gset_ne (by omega)]
          · exact (g13 o ho).mono (by omega) (fun p hp => ⟨if_neg (by omega), if_neg (by omega)⟩) (fun j _ => rfl) (fun j _ => rfl)
        · exact .inr hF
      · have q1 := tf_n4 (v := v) (fe := fe) hF 0 9
        exact hfin w hh _ _ _ _ _ _ s2 s3 s4 s4 r2 r3 r4 r4 hw hh' e1 e3 e5 q1.1 e2 e4 e6 q1.2 (.inr hF)
    · have q1 := tf_n4 (v := v) (fe := fe) hF 0 9
      have q2 := tf_n4 (v := v) (fe := fe) hF 0 60
      exact hfin w 1 _ _ _ _ _ _ s2 s3 s3 s3 r2 r3 r3 r3 hw (by omega) e1 e3 q2.1 q1.1 e2 e4 q2.2 q1.2 (.inr hF)
  · have q1 := tf_n4 (v := v) (fe := fe) hF 0 9
    have q2 := tf_n4 (v := v) (fe := fe) hF 0 60
    have q3 := tf_n4 (v := v) (fe := fe) hF 1 4
    exact hfin 1 1 _ _ _ _ _ _ s2 s2 s2 s2 r2 r2 r2 r2 (by omega) (by omega) e1 q3.1 q2.1 q1.1 e2 q3.2 q2.2 q1.2 (.inr hF)

/-! work: one step -/
def WKd (np : Nat) (W H : Nat → Nat) (v0 v1 v2 v3 v4 v5 : Nat → Int32) (g : Nat → Nat → Int32) (i : Nat) : Prop :=
  (∃ p N, p < np ∧ 1 ≤ N ∧ N ≤ 30 ∧ v0 i = nI 0 ∧ g i 0 = nI 0 ∧ v1 i = nI p ∧ g i 1 = nI p ∧ v5 i = nI N ∧ g i 5 = nI N) ∨
  (∃ p x y R N, p < np ∧ x < W p ∧ y < H p ∧ R ≤ 6 ∧ 1 ≤ N ∧ N ≤ 30 ∧ ((v0 i = nI 1 ∧ g i 0 = nI 1 ∧ R = 0) ∨ (v0 i = nI 2 ∧ g i 0 = nI 2 ∧ g i 4 = nI R)) ∧ v1 i = nI p ∧ g i 1 = nI p ∧ v2 i = nI x ∧ g i 2 = nI x ∧ v3 i = nI y ∧ g i 3 = nI y ∧ v4 i = nI R ∧ v5 i = nI N ∧ g i 5 = nI N) ∨
  (v0 i = nI 3 ∧ g i 0 = nI 3) ∨ (v0 i = nI 4 ∧ g i 0 = nI 4) ∨
  (∃ p, p < np ∧ v0 i = nI 5 ∧ g i 0 = nI 5 ∧ v1 i = nI p ∧ g i 1 = nI p) ∨
  (∃ N, N ≤ 20 ∧ v0 i = nI 6 ∧ g i 0 = nI 6 ∧ v5 i = nI N ∧ g i 1 = nI N)
theorem ck07 {R : Type} (k : Option R) : ck (0 : Int32) 7 k = k := pu_ck (j := 0) (n := 7) (by omega) (by omega)
theorem cl0 : (0 : Int32).toNatClampNeg = 0 := rfl
theorem ck17 {R : Type} (k : Option R) : ck (1 : Int32) 7 k = k := pu_ck (j := 1) (n := 7) (by omega) (by omega)
theorem cl1 : (1 : Int32).toNatClampNeg = 1 := rfl
theorem ck27 {R : Type} (k : Option R) : ck (2 : Int32) 7 k = k := pu_ck (j := 2) (n := 7) (by omega) (by omega)
theorem cl2 : (2 : Int32).toNatClampNeg = 2 := rfl
theorem ck37 {R : Type} (k : Option R) : ck (3 : Int32) 7 k = k := pu_ck (j := 3) (n := 7) (by omega) (by omega)
theorem cl3 : (3 : Int32).toNatClampNeg = 3 := rfl
theorem ck47 {R : Type} (k : Option R) : ck (4 : Int32) 7 k = k := pu_ck (j := 4) (n := 7) (by omega) (by omega)
theorem cl4 : (4 : Int32).toNatClampNeg = 4 := rfl
theorem ck57 {R : Type} (k : Option R) : ck (5 : Int32) 7 k = k := pu_ck (j := 5) (n := 7) (by omega) (by omega)
theorem cl5 : (5 : Int32).toNatClampNeg = 5 := rfl
theorem ck67 {R : Type} (k : Option R) : ck (6 : Int32) 7 k = k := pu_ck (j := 6) (n := 7) (by omega) (by omega)
theorem cl6 : (6 : Int32).toNatClampNeg = 6 := rfl
theorem cirN_tb {x y r i : Nat} (hi : i < 16) : (cirN x y r).testBit i = cirB x y r i := by
  rw [cirN, bF_tb, Nat.zero_testBit, Bool.false_or, decide_eq_true (Nat.zero_le i), decide_eq_true (show i < 0 + 16 by omega), Bool.true_and, Bool.true_and]
theorem cz01 {R : Type} {z : Int32} {k : Option R} (h : z = 0 ∨ z = 1) : cz z k = k := if_pos h
/-- wiping in a step -/
theorem wk_wipe {np hd : Nat} {W H : Nat → Nat} {s : CX6} {pa : Nat → Nat → Int32} {p : Nat} (hN : PzN W H s pa p) (hp : p < 5) (h30 : hd ≤ 30) {mm x y r N : Nat} (hmm : mm < 65536) (hx : x < 100) (hy : y < 100) (hr : r < 100) (hN1 : 1 ≤ N) (hN30 : N ≤ 30) (hsel : ∀ i, i < 16 → mm.testBit i = (inC (W p) (H p) i && cirB x y r i)) {i3 i4 i5 i6 i7 : Int32} {fi de rg row : Nat → Int32} (h : PzGX np hd W H (i3, i4, i5, i6, i7, fi, de, rg) row) (st nm v25 v26 : Nat → Int32) :
    ∃ z i3' de' rg' row', ((f_X2_wipe i3 fi de rg (nI p) (nI mm) (nI N)).bind fun q67 => cz q67.1 (some (q67.1, st, q67.2.1, i4, i5, i6, i7, fi, q67.2.2.1, q67.2.2.2, nm))) = some (z, st, i3', i4, i5, i6, i7, fi, de', rg', nm) ∧ (z = 0 ∨ z = 1) ∧ ((f_X11_wipes pa 2685 row (nI p) (nI x) (nI y) (nI r) (nI N)).bind fun q48 => if q48.1 ≤ 0 then (some ((0 : Int32), v25, v26, q48.2)) else (some (1, v25, v26, q48.2))) = some (z, v25, v26, row') ∧ PzGX np hd W H (i3', i4, i5, i6, i7, fi, de', rg') row' := by
  obtain ⟨z, i3', de', rg', row', a1, a2, ⟨a, a3, a4⟩, a5⟩ := wp_all hN hp h30 hmm hx hy hr hN1 hN30 hsel h
  refine ⟨z, i3', de', rg', row', ?_, a2, ?_, a5⟩
  · rw [a1, Option.bind_some, cz01 a2]
  · rw [a3, Option.bind_some]
    rcases a4 with ⟨rfl, a4⟩ | ⟨rfl, a4⟩
    · rw [if_pos a4]
    · rw [if_neg a4]
theorem wk_do {np no hd : Nat} {W H : Nat → Nat} {s : CX6} {to : Nat → Int32} {pa ra od : Nat → Nat → Int32} (hS : PzS np no hd W H s to pa ra od) {l : CX3} {m19 : Int32} {la : Nat → Nat → Int32} (hL : ∃ lv : (Nat → Int32) → Int32, (∀ kn st, ∃ st', f_X3_valueFor l.1 l.2.1 st 8 kn = some (lv kn, st')) ∧ (∀ kn st, ∃ st', f_X11_byLaw m19 st kn la = some (lv kn, st')) ∧ (∀ kn kn', (∀ k, k < 8 → kn k = kn' k) → lv kn = lv kn')) {v0 v1 v2 v3 v4 v5 : Nat → Int32} {g : Nat → Nat → Int32} {i : Nat} (hi : i < 50) (hdt : WKd np W H v0 v1 v2 v3 v4 v5 g i) (h6 : ¬ v0 i = nI 6) {i3 i4 i5 i6 i7 : Int32} {fi de rg row : Nat → Int32} (h : PzGX np hd W H (i3, i4, i5, i6, i7, fi, de, rg) row) (st nm v25 v26 : Nat → Int32) :
    ∃ z st' i3' i4' i5' i6' i7' fi' de' rg' nm' v25' v26' row', f_X9_isDone v0 v1 v2 v3 v4 v5 s.1 s.2.2.1 s.2.2.2.2.2.1 s.2.2.2.2.2.2.2.2.2.1 s.2.2.2.2.2.2.2.2.2.2.1 s.2.2.2.2.2.2.2.2.2.2.2.1 s.2.2.2.2.2.2.2.2.2.2.2.2 l.1 l.2.1 st i3 i4 i5 i6 i7 fi de rg nm (nI i) = some (z, st', i3', i4', i5', i6', i7', fi', de', rg', nm') ∧ (z = 0 ∨ z = 1) ∧ f_X11_does m19 to v25 v26 pa ra od la 2685 row 7 (g i) = some (z, v25', v26', row') ∧ PzGX np hd W H (i3', i4', i5', i6', i7', fi', de', rg') row' := by
  have h30 := hS.2.2.1.2
  have h5 := hS.1
  have hN := hS.2.2.2.2.2.2.2.2.2.1
  rcases hdt with ⟨p, N, hp, hN1, hN30, e0, g0, e1, g1, e5, g5⟩ | ⟨p, x, y, R, N, hp, hx, hy, hR, hN1, hN30, hk, e1, g1, e2, g2, e3, g3, e4, e5, g5⟩ | ⟨e0, g0⟩ | ⟨e0, g0⟩ | ⟨p, hp, e0, g0, e1, g1⟩ | ⟨N, -, e0, -⟩
  · obtain ⟨n1, n2, n3, n4, n5, n6, n7, n8, n9⟩ := hN p hp
    have hlt := pzcb_lt (W p) n1.2 (H p) n2.2
    obtain ⟨z, i3', de', rg', row', a1, a2, a3, a4⟩ := wk_wipe (hN p hp) (by omega) h30 (mm := pzcb (W p) (H p)) (x := 0) (y := 0) (r := 8) (N := N) hlt (by omega) (by omega) (by omega) hN1 hN30 (fun i hi => by
      rw [inC_cb n1.2 n2.2 (by omega), show cirB 0 0 8 i = true from decide_eq_true (by rw [fr, fr]; omega), Bool.and_true]) h st nm v25 v26
    refine ⟨z, st, i3', i4, i5, i6, i7, fi, de', rg', nm, v25, v26, row', ?_, a2, ?_, a4⟩
    · rw [f_X9_isDone, pu_ck hi (by omega), pu_ck hi (by omega), nI_clamp (by omega), e0, if_pos (show nI 0 = 0 from rfl), e1, pu_ck (show p < 5 by omega) (by omega), pu_ck hi (by omega), nI_clamp (by omega), n9, e5]
      exact a1
    · rw [f_X11_does, ck07, cl0, g0, if_pos (show nI 0 = 0 from rfl), ck17, ck57, cl1, cl5, g1, g5]
      exact a3
  · obtain ⟨n1, n2, n3, n4, n5, n6, n7, n8, n9⟩ := hN p hp
    have hlt := cirN_lt x y R
    have hmm : cirN x y R &&& pzcb (W p) (H p) < 65536 := Nat.lt_of_le_of_lt Nat.and_le_left hlt
    obtain ⟨z, i3', de', rg', row', a1, a2, a3, a4⟩ := wk_wipe (hN p hp) (by omega) h30 (mm := cirN x y R &&& pzcb (W p) (H p)) (x := x) (y := y) (r := R) (N := N) hmm (by omega) (by omega) (by omega) hN1 hN30 (fun i hi => by
      rw [Nat.testBit_and, cirN_tb hi, inC_cb n1.2 n2.2 (by omega), Bool.and_comm]) h st nm v25 v26
    have hci : f_X1_circleAt (nI x) (nI y) (nI R) = some (nI (cirN x y R)) := p_circle (by omega) (by omega) (by omega)
    refine ⟨z, st, i3', i4, i5, i6, i7, fi, de', rg', nm, v25, v26, row', ?_, a2, ?_, a4⟩
    · rw [f_X9_isDone, pu_ck hi (by omega), pu_ck hi (by omega), nI_clamp (by omega), e1, e2, e3, e4, e5]
      rcases hk with ⟨k0, k1, k2⟩ | ⟨k0, k1, k2⟩
      · rw [k0, if_neg (show ¬ nI 1 = 0 by decide), if_pos (show nI 1 = 1 from rfl), pu_ck hi (by omega), pu_ck hi (by omega), pu_ck hi (by omega), hci, Option.bind_some, pu_ck (show p < 5 by omega) (by omega), pu_ck hi (by omega), nI_clamp (by omega), n9, pz_and]
        exact a1
      · rw [k0, if_neg (show ¬ nI 2 = 0 by decide), if_neg (show ¬ nI 2 = 1 by decide), if_pos (show nI 2 = 2 from rfl), pu_ck hi (by omega), pu_ck hi (by omega), pu_ck hi (by omega), hci, Option.bind_some, pu_ck (show p < 5 by omega) (by omega), pu_ck hi (by omega), nI_clamp (by omega), n9, pz_and]
        exact a1
    · rw [f_X11_does, ck07, cl0]
      rcases hk with ⟨k0, k1, k2⟩ | ⟨k0, k1, k2⟩
      · subst k2
        rw [k1, if_neg (show ¬ nI 1 = 0 by decide), if_pos (show nI 1 = 1 from rfl), ck17, ck27, ck37, ck57, cl1, cl2, cl3, cl5, g1, g2, g3, g5]
        exact a3
      · rw [k1, if_neg (show ¬ nI 2 = 0 by decide), if_neg (show ¬ nI 2 = 1 by decide), if_pos (show nI 2 = 2 from rfl), ck17, ck27, ck37, ck47, ck57, cl1, cl2, cl3, cl4, cl5, g1, g2, g3, k2, g5]
        exact a3
  · obtain ⟨z, nm', i4', i5', i7', fi', de', st', v25', v26', row', a1, a2, a3, a4⟩ := wk_day hS hL h nm st v25 v26
    refine ⟨z, st', i3, i4', i5', i6, i7', fi', de', rg, nm', v25', v26', row', ?_, a2, ?_, a4⟩
    · rw [f_X9_isDone, pu_ck hi (by omega), pu_ck hi (by omega), nI_clamp (by omega), e0, if_neg (show ¬ nI 3 = 0 by decide), if_neg (show ¬ nI 3 = 1 by decide), if_neg (show ¬ nI 3 = 2 by decide), if_pos (show nI 3 = 3 from rfl), a1, Option.bind_some, cz01 a2]
    · rw [f_X11_does, ck07, cl0, g0, if_neg (show ¬ nI 3 = 0 by decide), if_neg (show ¬ nI 3 = 1 by decide), if_neg (show ¬ nI 3 = 2 by decide), if_pos (show nI 3 = 3 from rfl), a3, Option.bind_some, cz01 a2]
  · obtain ⟨z, i3', rg', row', a1, a2, a3, a4⟩ := wk_rinse h30 h (m19 := m19) (to := to) (v2 := g i) (v25 := v25) (v26 := v26) (pa := pa) (ra := ra) (od := od) (la := la) (n2 := 7)
    refine ⟨z, st, i3', i4, i5, i6, i7, fi, de, rg', nm, v25, v26, row', ?_, a2, ?_, a4⟩
    · rw [f_X9_isDone, pu_ck hi (by omega), pu_ck hi (by omega), nI_clamp (by omega), e0, if_neg (show ¬ nI 4 = 0 by decide), if_neg (show ¬ nI 4 = 1 by decide), if_neg (show ¬ nI 4 = 2 by decide), if_neg (show ¬ nI 4 = 3 by decide), if_pos (show nI 4 = 4 from rfl), a1, Option.bind_some, cz01 a2]
    · rw [f_X11_does, ck07, cl0, g0, if_neg (show ¬ nI 4 = 0 by decide), if_neg (show ¬ nI 4 = 1 by decide), if_neg (show ¬ nI 4 = 2 by decide), if_neg (show ¬ nI 4 = 3 by decide), if_pos (show nI 4 = 4 from rfl)]
      exact a3
  · obtain ⟨z, i6', de', row', a1, a2, a3, a4⟩ := wk_smash h30 h (p := p) (by omega)
    refine ⟨z, st, i3, i4, i5, i6', i7, fi, de', rg, nm, v25, v26, row', ?_, a2, ?_, a4⟩
    · rw [f_X9_isDone, pu_ck hi (by omega), pu_ck hi (by omega), nI_clamp (by omega), e0, e1, if_neg (show ¬ nI 5 = 0 by decide), if_neg (show ¬ nI 5 = 1 by decide), if_neg (show ¬ nI 5 = 2 by decide), if_neg (show ¬ nI 5 = 3 by decide), if_neg (show ¬ nI 5 = 4 by decide), a1, Option.bind_some, cz01 a2]
    · rw [f_X11_does, ck07, cl0, g0, if_neg (show ¬ nI 5 = 0 by decide), if_neg (show ¬ nI 5 = 1 by decide), if_neg (show ¬ nI 5 = 2 by decide), if_neg (show ¬ nI 5 = 3 by decide), if_neg (show ¬ nI 5 = 4 by decide), ck17, cl1, g1, a3, Option.bind_some, cz01 a2]
  · exact absurd e0 h6

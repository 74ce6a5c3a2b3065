/-! whether a film settles -/
def nk (D : Int32) (x y : Nat) (fl : Int32) (p d s : Nat) (wt : Int32) : Nat → Int32 := fun k => if k = 0 then D else if k = 1 then nI x else if k = 2 then nI y else if k = 3 then fl else if k = 4 then nI p else if k = 5 then nI d else if k = 6 then nI s else wt
theorem evL_ext {n : Nat} {code : Nat → Int32} {la : Nat → Nat → Int32} {ht : Nat → Nat} {kn kn' : Nat → Int32} (h : lawOk n code la ht) (hk : ∀ k, k < 8 → kn k = kn' k) : ∀ m i s, i + m = n → evL la kn m i s = evL la kn' m i s := by
  intro m
  induction m with
  | zero =>
    intro i s hi
    rfl
  | succ m ih =>
    intro i s hi
    rw [evL, evL]
    have e : stp (la i 0) (la i 1) kn s = stp (la i 0) (la i 1) kn' s := by
      rcases h i (by omega) with ⟨v, a1, a2, a3, a4, a5⟩ | ⟨v, a1, a2, a3, a4, a5⟩ | ⟨v, a1, a2, a4, a6, a5⟩
      · rw [a2, stp0, stp0]
      · rw [a2, a3, stp1 a1, stp1 a1, hk v a1]
      · rw [a2, stp, stp, if_neg (nI_ne0 (by omega) (by omega)), if_neg (by rw [pl1, nI_eq (by omega) (by omega)]; omega), if_neg (nI_ne0 (by omega) (by omega)), if_neg (by rw [pl1, nI_eq (by omega) (by omega)]; omega)]
    rw [e]
    exact ih (i + 1) _ (by omega)
theorem PzL.val2 {l : CX3} {m : Int32} {la : Nat → Nat → Int32} (h : PzL l m la) : ∃ lv : (Nat → Int32) → Int32, (∀ kn st, ∃ st', f_X3_valueFor l.1 l.2.1 st 8 kn = some (lv kn, st')) ∧ (∀ kn st, ∃ st', f_X11_byLaw m st kn la = some (lv kn, st')) ∧ (∀ kn kn', (∀ k, k < 8 → kn k = kn' k) → lv kn = lv kn') := by
  obtain ⟨lv, h1, h2⟩ := h.val
  refine ⟨lv, h1, h2, fun kn kn' hk => ?_⟩
  obtain ⟨n, hn, hm, ⟨rfl, a1, a2⟩ | ⟨a1, ht, a2, a3, a4⟩⟩ := h
  · obtain ⟨s1, e1⟩ := h2 kn (fun _ => 0)
    obtain ⟨s2, e2⟩ := h2 kn' (fun _ => 0)
    rw [f_X11_byLaw, if_pos (by rw [hm]; rfl)] at e1 e2
    injection e1 with e1
    injection e2 with e2
    have f1 := congrArg (fun z => z.1) e1
    have f2 := congrArg (fun z => z.1) e2
    exact f1.symm.trans f2
  · by_cases hn0 : n = 0
    · subst hn0
      omega
    · obtain ⟨s1, e1⟩ := h2 kn (fun _ => 0)
      obtain ⟨s2, e2⟩ := h2 kn' (fun _ => 0)
      obtain ⟨s3, e3⟩ := r_law_b (kn := kn) hn a4 a2 a3 n 0 4000 (fun _ => 0) (by omega) (by omega)
      obtain ⟨s4, e4⟩ := r_law_b (kn := kn') hn a4 a2 a3 n 0 4000 (fun _ => 0) (by omega) (by omega)
      rw [hm, f_X11_byLaw, if_neg (nI_ne0 (by omega) (by omega))] at e1 e2
      rw [a2, ← pl0] at e3 e4
      rw [e3] at e1
      rw [e4] at e2
      injection e1 with e1
      injection e2 with e2
      have f1 := congrArg (fun z => z.1) e1
      have f2 := congrArg (fun z => z.1) e2
      have f3 : evL la kn n 0 (stk (fun _ => 0) 0) = evL la kn' n 0 (stk (fun _ => 0) 0) := evL_ext a4 hk n 0 _ (by omega)
      refine f1.symm.trans (Eq.trans ?_ f2)
      show (evL la kn n 0 (stk (fun _ => 0) 0)).headD 0 = (evL la kn' n 0 (stk (fun _ => 0) 0)).headD 0
      rw [f3]
/-- the law's answer at cell i of pane p -/
def lwB (lv : (Nat → Int32) → Int32) (dp fd : Nat → Nat) (fl : Nat → Int32) (D wt : Int32) (c : Nat) : Bool := !decide (lv (nk D (c % 4) (c % 16 / 4) (fl (c / 16)) (c / 16) (dp c) (bhn dp fd c 0) wt) ≤ 0)
theorem p_lawHolds {np hd : Nat} {W H : Nat → Nat} {film depth : Nat → Int32} {dp fd : Nat → Nat} {l : CX3} {lv : (Nat → Int32) → Int32} {fl : Nat → Int32} {c : Nat} (hc : c < 80) (hdp : depth c = nI (dp c)) (hsh : f_X2_shown film depth (nI c) = some (nI (bhn dp fd c 0))) (h1 : ∀ kn st, ∃ st', f_X3_valueFor l.1 l.2.1 st 8 kn = some (lv kn, st')) (h3 : ∀ kn kn', (∀ k, k < 8 → kn k = kn' k) → lv kn = lv kn') (nm st : Nat → Int32) : ∃ nm' st', f_X8_lawHolds nm fl film depth l.1 l.2.1 st (nI c) = some (if lwB lv dp fd fl (nm 0) (nm 7) c = true then 1 else 0, nm', st') ∧ nm' 0 = nm 0 ∧ nm' 7 = nm 7 := by
  have hdv : nI c / 16 = nI (c / 16) := by rw [pl16, pk_div (by omega) (by omega) (by omega)]
  have e3 : nI c &&& 3 = nI (c % 4) := pk_andN (by omega) 2 (by rfl)
  have e2 : (nI c >>> ((2 : Int32) &&& 31)) &&& 3 = nI (c % 16 / 4) := by
    rw [pk_shrN (by omega) _ 2 (by rfl), pk_andN (by omega) 2 (by rfl)]
    congr 1
    omega
  have k1 : ((1 : Int32).toNatClampNeg) = 1 := rfl
  have k2 : ((2 : Int32).toNatClampNeg) = 2 := rfl
  have k3 : ((3 : Int32).toNatClampNeg) = 3 := rfl
  have k4 : ((4 : Int32).toNatClampNeg) = 4 := rfl
  have k5 : ((5 : Int32).toNatClampNeg) = 5 := rfl
  have k6 : ((6 : Int32).toNatClampNeg) = 6 := rfl
  have hcl : (nI c).toNatClampNeg = c := nI_clamp (by omega)
  have hcl2 : (nI (c / 16)).toNatClampNeg = c / 16 := nI_clamp (by omega)
  generalize hnm : upd (upd (upd (upd (upd (upd nm 1 (nI (c % 4))) 2 (nI (c % 16 / 4))) 3 (fl (c / 16))) 4 (nI (c / 16))) 5 (nI (dp c))) 6 (nI (bhn dp fd c 0)) = nm'
  obtain ⟨st', e⟩ := h1 nm' st
  have hlv : lv nm' = lv (nk (nm 0) (c % 4) (c % 16 / 4) (fl (c / 16)) (c / 16) (dp c) (bhn dp fd c 0) (nm 7)) := by
    apply h3
    intro k hk
    rw [← hnm]
    rcases (by omega : k = 0 ∨ k = 1 ∨ k = 2 ∨ k = 3 ∨ k = 4 ∨ k = 5 ∨ k = 6 ∨ k = 7) with rfl | rfl | rfl | rfl | rfl | rfl | rfl | rfl <;> rfl
  refine ⟨nm', st', ?_, by rw [← hnm]; rfl, by rw [← hnm]; rfl⟩
  rw [f_X8_lawHolds, hdv, pu_ck (by omega) (by omega), pu_ck (by omega) (by omega), hsh, Option.bind_some, e3, e2, k1, k2, k3, k4, k5, k6, hcl, hcl2, hdp, hnm, e, Option.bind_some, hlv, lwB]
  by_cases h0 : lv (nk (nm 0) (c % 4) (c % 16 / 4) (fl (c / 16)) (c / 16) (dp c) (bhn dp fd c 0) (nm 7)) ≤ 0
  · rw [if_pos h0, if_neg (by simp [h0])]
  · rw [if_neg h0, if_pos (by simp [h0])]
theorem r_isSet {row : Nat → Int32} {dp fd : Nat → Nat} {m : Int32} {la pa : Nat → Nat → Int32} {lv : (Nat → Int32) → Int32} {b p i : Nat} {fl : Nat → Int32} (hp : p < 5) (hi : i < 16) (hb : row 2681 = nI b) (hb32 : b < 32) (hdp : row (2400 + (16 * p + i)) = nI (dp (16 * p + i))) (hsh : f_X11_filmOf 2685 row (nI (16 * p + i)) 0 = some (nI (bhn dp fd (16 * p + i) 0))) (hfl : pa p 3 = fl p) (h1 : ∀ kn st, ∃ st', f_X11_byLaw m st kn la = some (lv kn, st')) (h3 : ∀ kn kn', (∀ k, k < 8 → kn k = kn' k) → lv kn = lv kn') (D wt : Int32) (st kn : Nat → Int32) : ∃ st' kn', f_X11_isSettling m st kn pa la 2685 row (nI p) (nI i) D wt = some (if (!(b.testBit p) && lwB lv dp fd fl D wt (16 * p + i)) = true then 1 else 0, st', kn') := by
  have k0 : ((0 : Int32).toNatClampNeg) = 0 := rfl
  have k1 : ((1 : Int32).toNatClampNeg) = 1 := rfl
  have k2 : ((2 : Int32).toNatClampNeg) = 2 := rfl
  have k3 : ((3 : Int32).toNatClampNeg) = 3 := rfl
  have k4 : ((4 : Int32).toNatClampNeg) = 4 := rfl
  have k5 : ((5 : Int32).toNatClampNeg) = 5 := rfl
  have k6 : ((6 : Int32).toNatClampNeg) = 6 := rfl
  have k7 : ((7 : Int32).toNatClampNeg) = 7 := rfl
  have k81 : ((2681 : Int32).toNatClampNeg) = 2681 := rfl
  have ea : (16 : Int32) * nI p + nI i = nI (16 * p + i) := by rw [pl16, pk_mul, nI_add]
  have eb : (2400 : Int32) + 16 * nI p + nI i = nI (2400 + (16 * p + i)) := by
    rw [pl16, pk_mul, pl2400, nI_add, nI_add, Nat.add_assoc]
  rw [f_X11_isSettling, pl2681, pu_ck (by omega) (by omega), ← pl2681, k81, hb, r_has (by omega) (by omega), Option.bind_some]
  cases hbr : b.testBit p with
  | true =>
    refine ⟨st, kn, ?_⟩
    rw [if_pos (show true = true from rfl), if_neg (show ¬ ((1 : Int32) = 0) by decide)]
    rfl
  | false =>
    rw [if_neg (show ¬ (false = true) by decide), if_pos (show (0 : Int32) = 0 from rfl), pu_ck hp (by omega), ea, eb, pu_ck (by omega) (by omega), hsh, Option.bind_some, k0, k1, k2, k3, k4, k5, k6, k7, nI_clamp (show p < 2 ^ 31 by omega), nI_clamp (show 2400 + (16 * p + i) < 2 ^ 31 by omega), hfl, hdp, pl4, pk_rem (by omega) (by omega) (by omega), pk_div (by omega) (by omega) (by omega)]
    generalize hnm : upd (upd (upd (upd (upd (upd (upd (upd kn 0 D) 1 (nI (i % 4))) 2 (nI (i / 4))) 3 (fl p)) 4 (nI p)) 5 (nI (dp (16 * p + i)))) 6 (nI (bhn dp fd (16 * p + i) 0))) 7 wt = kn'
    obtain ⟨st', e⟩ := h1 kn' st
    have hlv : lv kn' = lv (nk D ((16 * p + i) % 4) ((16 * p + i) % 16 / 4) (fl ((16 * p + i) / 16)) ((16 * p + i) / 16) (dp (16 * p + i)) (bhn dp fd (16 * p + i) 0) wt) := by
      rw [show (16 * p + i) % 4 = i % 4 by omega, show (16 * p + i) % 16 / 4 = i / 4 by omega, show (16 * p + i) / 16 = p by omega]
      apply h3
      intro k hk
      rw [← hnm]
      rcases (by omega : k = 0 ∨ k = 1 ∨ k = 2 ∨ k = 3 ∨ k = 4 ∨ k = 5 ∨ k = 6 ∨ k = 7) with rfl | rfl | rfl | rfl | rfl | rfl | rfl | rfl <;> rfl
    refine ⟨st', kn', ?_⟩
    rw [e, Option.bind_some, hlv, lwB]
    by_cases h0 : lv (nk D ((16 * p + i) % 4) ((16 * p + i) % 16 / 4) (fl ((16 * p + i) / 16)) ((16 * p + i) / 16) (dp (16 * p + i)) (bhn dp fd (16 * p + i) 0) wt) ≤ 0
    · rw [if_pos h0, if_neg (by rw [decide_eq_true h0]; decide)]
    · rw [if_neg h0, if_pos (by rw [decide_eq_false h0]; rfl)]
theorem a_settles {C : CS} {R : RS} (hc : PzC C R) (x1 x2 x3 : Int32) :
    (∃ r z0 z1 y0 y1, fC_settles C x1 x2 x3 = some (0, r, C.v15, z0, z1) ∧ fR_settles R x1 x2 x3 = some (r, 0, R.v10, y0, y1)) ∨
    (∃ z0 z1 y0 y1, fC_settles C x1 x2 x3 = some (2, 0, upd C.v15 1 (C.v15 1 + 1), z0, z1) ∧ fR_settles R x1 x2 x3 = some (0, 2, upd R.v10 1 (R.v10 1 + 1), y0, y1)) ∨
    (∃ z0 z1 y0 y1, fC_settles C x1 x2 x3 = some (3, 0, upd C.v15 0 (C.v15 0 + 1), z0, z1) ∧ fR_settles R x1 x2 x3 = some (0, 1, upd R.v10 0 (R.v10 0 + 1), y0, y1)) := by
  obtain ⟨np, no, hd, W, H, hS, ⟨dp, fd, dy, hG⟩, hL, -⟩ := hc
  have h5 := hS.1
  have h30 := hS.2.2.1.2
  rcases pz_cell hS C.v15 R.v10 x1 x2 x3 with ⟨h1, h2⟩ | ⟨h1, h2⟩ | ⟨p, x, y, hp, hx, hy, w4, h4, rfl, rfl, rfl, h1, h2⟩
  · exact .inr (.inl ⟨C.h.2.2.2.1, C.l1.2.2, R.v25, R.v26, by simp -implicitDefEqProofs only [Option.bind_some, pz10, if_true, if_false, eq_self, ↓reduceIte, r_bad0, r_A1, r_A2, r_B1, r_B2, r_B3, r_C1, fC_settles, f_X10_settles, h1]; rfl, by simp -implicitDefEqProofs only [Option.bind_some, pz10, if_true, if_false, eq_self, ↓reduceIte, r_bad0, r_A1, r_A2, r_B1, r_B2, r_B3, r_C1, fR_settles, f_X11_settles, h2]⟩)
  · exact .inr (.inr ⟨C.h.2.2.2.1, C.l1.2.2, R.v25, R.v26, by simp -implicitDefEqProofs only [Option.bind_some, pz10, if_true, if_false, eq_self, ↓reduceIte, r_bad0, r_A1, r_A2, r_B1, r_B2, r_B3, r_C1, fC_settles, f_X10_settles, h1]; rfl, by simp -implicitDefEqProofs only [Option.bind_some, pz10, if_true, if_false, eq_self, ↓reduceIte, r_bad0, r_A1, r_A2, r_B1, r_B2, r_B3, r_C1, fR_settles, f_X11_settles, h2]⟩)
  · obtain ⟨lv, l1, l2, l3⟩ := hL.val2
    obtain ⟨hdy, hd1, hd2⟩ := hG.2.2.1
    obtain ⟨b, hb32, hb1, hb2, -⟩ := hG.2.2.2.2.2.2.2
    have hN := hS.2.2.2.2.2.2.2.2.2.1 p hp
    obtain ⟨-, -, -, -, -, -, -, ⟨fl, -, f1, f2⟩, -⟩ := hN
    have hc : 16 * p + (4 * y + x) < 80 := by omega
    have c84 : ((2684 : Int32).toNatClampNeg) = 2684 := rfl
    have e4 : (4 : Int32) * nI y + nI x = nI (4 * y + x) := by rw [pl4, pk_mul, nI_add]
    rw [Nat.add_assoc] at h1
    have hsh := p_shownG hG h30 hc
    have hsr := r_filmG hG h30 hc (j := 0) (by omega)
    rw [← pl0] at hsr
    left
    have hbr : f_X2_isBroken C.n.2.2.2.1 (nI p) = some (if b.testBit p = true then 1 else 0) := by
      rw [f_X2_isBroken, hb1]
      by_cases h6 : b.testBit p = true
      · rw [if_pos (by rw [bit_if (by omega) (by omega)]; exact h6), if_pos h6]
      · rw [if_neg (by rw [bit_if (by omega) (by omega)]; exact h6), if_neg h6]
    by_cases h200 : dy < 200
    · obtain ⟨st', kn', er⟩ := r_isSet (m := R.i19) (la := R.g21) (pa := R.g14) (lv := lv) (fl := fun _ => nI fl) (by omega) (show 4 * y + x < 16 by omega) hb2 hb32 (hG.many hc) hsr f2 l2 l3 (nI (dy + 1)) 0 R.v25 R.v26
      obtain ⟨nm', st2, ec, -, -⟩ := p_lawHolds (np := np) (hd := hd) (W := W) (H := H) (fl := C.s1.2.2.2.2.2.2.2.2.2.1) hc (hG.dep hc) hsh l1 l3 (upd (upd C.h.2.2.2.1 0 (nI (dy + 1))) 7 0) C.l1.2.2
      have elw : lwB lv dp fd C.s1.2.2.2.2.2.2.2.2.2.1 (nI (dy + 1)) 0 (16 * p + (4 * y + x)) = lwB lv dp fd (fun _ => nI fl) (nI (dy + 1)) 0 (16 * p + (4 * y + x)) := by
        rw [lwB, lwB, show (16 * p + (4 * y + x)) / 16 = p by omega, f1]
      have ec2 : f_X8_lawHolds (upd (upd C.h.2.2.2.1 0 (nI (dy + 1))) 7 0) C.s1.2.2.2.2.2.2.2.2.2.1 C.n.2.2.2.2.2.1 C.n.2.2.2.2.2.2.1 C.l1.1 C.l1.2.1 C.l1.2.2 (nI (16 * p + (4 * y + x))) = some (if lwB lv dp fd (fun _ => nI fl) (nI (dy + 1)) 0 (16 * p + (4 * y + x)) = true then 1 else 0, nm', st2) := by
        rw [ec, ← elw]
        rfl
      have hcz : ∀ (t : Bool) {R : Type} (z : Option R), cz (if t = true then (1 : Int32) else 0) z = z := by
        intro t R z
        cases t
        · rfl
        · rfl
      have k0 : ((0 : Int32).toNatClampNeg) = 0 := rfl
      have k7 : ((7 : Int32).toNatClampNeg) = 7 := rfl
      have hlt : nI dy < 200 := nI_lt (b := 200) h200 (by omega)
      have hge : ¬ (200 : Int32) ≤ nI dy := nI_ge (b := 200) h200 (by omega)
      cases hbp : b.testBit p with
      | true =>
        rw [hbp, Bool.not_true, Bool.false_and, if_neg (show ¬ (false = true) by decide)] at er
        rw [hbp, if_pos rfl] at hbr
        refine ⟨0, C.h.2.2.2.1, C.l1.2.2, st', kn', ?_, ?_⟩
        · simp -implicitDefEqProofs only [Option.bind_some, pz10, if_true, if_false, eq_self, ↓reduceIte, r_bad0, r_A1, r_A2, r_B1, r_B2, r_B3, r_C1, fC_settles, f_X10_settles, h1, hbr]
        · simp -implicitDefEqProofs only [Option.bind_some, pz10, if_true, if_false, eq_self, ↓reduceIte, r_bad0, r_A1, r_A2, r_B1, r_B2, r_B3, r_C1, fR_settles, f_X11_settles, h2, c84, hd2, hge, e4, nI_1, er]
      | false =>
        rw [hbp, Bool.not_false, Bool.true_and] at er
        rw [hbp, if_neg (show ¬ (false = true) by decide)] at hbr
        refine ⟨if lwB lv dp fd (fun _ => nI fl) (nI (dy + 1)) 0 (16 * p + (4 * y + x)) = true then 1 else 0, nm', st2, st', kn', ?_, ?_⟩
        · simp -implicitDefEqProofs only [Option.bind_some, pz10, if_true, if_false, eq_self, ↓reduceIte, r_bad0, r_A1, r_A2, r_B1, r_B2, r_B3, r_C1, fC_settles, f_X10_settles, h1, hbr, hd1, hlt, f_X8_wouldSettle, nI_1, k0, k7, ec2]
          rw [hcz]
          simp -implicitDefEqProofs only [Option.bind_some, pz10, if_true, if_false, eq_self, ↓reduceIte, r_bad0, r_A1, r_A2, r_B1, r_B2, r_B3, r_C1]
          rw [hcz]
        · simp -implicitDefEqProofs only [Option.bind_some, pz10, if_true, if_false, eq_self, ↓reduceIte, r_bad0, r_A1, r_A2, r_B1, r_B2, r_B3, r_C1, fR_settles, f_X11_settles, h2, c84, hd2, hge, e4, nI_1, er]
          cases lwB lv dp fd (fun _ => nI fl) (nI (dy + 1)) 0 (16 * p + (4 * y + x))
          · rfl
          · rfl
    · have hlt : ¬ nI dy < 200 := nI_nlt (b := 200) (by omega) (by omega)
      have hge : (200 : Int32) ≤ nI dy := nI_le (a := 200) (by omega) (by omega)
      refine ⟨0, C.h.2.2.2.1, C.l1.2.2, R.v25, R.v26, ?_, ?_⟩
      · cases hbp : b.testBit p with
        | true =>
          rw [hbp, if_pos rfl] at hbr
          simp -implicitDefEqProofs only [Option.bind_some, pz10, if_true, if_false, eq_self, ↓reduceIte, r_bad0, r_A1, r_A2, r_B1, r_B2, r_B3, r_C1, fC_settles, f_X10_settles, h1, hbr]
        | false =>
          rw [hbp, if_neg (show ¬ (false = true) by decide)] at hbr
          simp -implicitDefEqProofs only [Option.bind_some, pz10, if_true, if_false, eq_self, ↓reduceIte, r_bad0, r_A1, r_A2, r_B1, r_B2, r_B3, r_C1, fC_settles, f_X10_settles, h1, hbr, hd1, hlt]
      · simp -implicitDefEqProofs only [Option.bind_some, pz10, if_true, if_false, eq_self, ↓reduceIte, r_bad0, r_A1, r_A2, r_B1, r_B2, r_B3, r_C1, fR_settles, f_X11_settles, h2, c84, hd2, hge]
theorem q_settles {L i : Nat} {C : CS} {R : RS} {cells slots : Nat} (h : PzInv L i C R cells slots) (hi : i + 7 ≤ L) (x1 x2 x3 : Int32) : pS_settles (PzInv L (i + 7)) C R x1 x2 x3 cells slots := by
  rcases a_settles h.2.1 x1 x2 x3 with ⟨r, z0, z1, y0, y1, h1, h2⟩ | ⟨z0, z1, y0, y1, h1, h2⟩ | ⟨z0, z1, y0, y1, h1, h2⟩
  · have hk := h.keep (a := 2) (b := 12) hi (by omega) (by omega) h.1
    obtain ⟨np, no, hd, W, H, hS, hG, hL, hrest⟩ := h.2.1
    exact ⟨(0, r, C.v15, z0, z1), (r, 0, R.v10, y0, y1), h1, h2, .inl rfl, rfl, fun _ => rfl, pz_fit h (by omega) (by omega), hk.1, ⟨np, no, hd, W, H, hS, hG, hL, hrest⟩, hk.2.2⟩
  · have hk := h.keep (a := 2) (b := 12) hi (by omega) (by omega) (h.1.up (k := 1))
    obtain ⟨np, no, hd, W, H, hS, hG, hL, hrest⟩ := h.2.1
    exact ⟨(2, 0, upd C.v15 1 (C.v15 1 + 1), z0, z1), (0, 2, upd R.v10 1 (R.v10 1 + 1), y0, y1), h1, h2, .inr (.inr rfl), rfl, fun _ => rfl, pz_fit h (by omega) (by omega), hk.1, ⟨np, no, hd, W, H, hS, hG, hL, hrest⟩, hk.2.2⟩
  · have hk := h.keep (a := 2) (b := 12) hi (by omega) (by omega) (h.1.up (k := 0))
    obtain ⟨np, no, hd, W, H, hS, hG, hL, hrest⟩ := h.2.1
    exact ⟨(3, 0, upd C.v15 0 (C.v15 0 + 1), z0, z1), (0, 1, upd R.v10 0 (R.v10 0 + 1), y0, y1), h1, h2, .inr (.inl rfl), rfl, fun _ => rfl, pz_fit h (by omega) (by omega), hk.1, ⟨np, no, hd, W, H, hS, hG, hL, hrest⟩, hk.2.2⟩

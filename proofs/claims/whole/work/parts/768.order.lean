/-! street: an order -/
theorem p_rnOrder {np no p : Nat} (hno : no < 12) (hp : p < 5) {L i6 i10 i11 i12 c2 c3 c4 c5 : Int32} {v v1 v2 v3 v4 v5 v7 v9 : Nat → Int32} {s1 s2 s3 s4 s5 s6 : TS}
    (e1 : f_X7_takeNumber L s1.1 s1.2.1 s1.2.2.1 s1.2.2.2.1 s1.2.2.2.2.1 s1.2.2.2.2.2 v 0 (nI np - 1) = some (nI p, s2)) (e3 : f_X7_takeNumber L s2.1 s2.2.1 s2.2.2.1 s2.2.2.2.1 s2.2.2.2.2.1 s2.2.2.2.2.2 v 0 (v1 p - 1) = some (c2, s3)) (e5 : f_X7_takeNumber L s3.1 s3.2.1 s3.2.2.1 s3.2.2.2.1 s3.2.2.2.2.1 s3.2.2.2.2.2 v 0 (v2 p - 1) = some (c3, s4)) (e7 : f_X7_takeNumber L s4.1 s4.2.1 s4.2.2.1 s4.2.2.2.1 s4.2.2.2.2.1 s4.2.2.2.2.2 v 1 200 = some (c4, s5)) (e9 : f_X7_takeNumber L s5.1 s5.2.1 s5.2.2.1 s5.2.2.2.1 s5.2.2.2.2.1 s5.2.2.2.2.2 v c4 200 = some (c5, s6)) :
    f_X6_readNumbers (nI np) i6 (nI no) i10 i11 i12 v1 v2 v3 v4 v5 v7 v9 L s1.1 s1.2.1 s1.2.2.1 s1.2.2.2.1 s1.2.2.2.2.1 s1.2.2.2.2.2 v 2 = some (nI np, i6, nI (no + 1), i10, i11, i12, v1, v2, v3, v4, v5, v7, (upd (upd (upd (upd (upd v9 (5 * no) (nI p)) (5 * no + 1) c2) (5 * no + 2) c3) (5 * no + 3) c4) (5 * no + 4) c5), s6) := by
  have hck : ∀ {R : Type} (z : Option R), ck (nI p) 5 z = z := fun z => pu_ck hp (by omega)
  have hcl : (nI p).toNatClampNeg = p := nI_clamp (by omega)
  have j0 : (5 * nI no + 0 : Int32) = nI (5 * no) := by rw [pl5, pk_mul, Int32.add_zero]
  have j1 : (5 * nI no + 1 : Int32) = nI (5 * no + 1) := by rw [pl5, pk_mul, nI_1]
  have j2 : (5 * nI no + 2 : Int32) = nI (5 * no + 2) := by rw [pl5, pk_mul, pl2, nI_add]
  have j3 : (5 * nI no + 3 : Int32) = nI (5 * no + 3) := by rw [pl5, pk_mul, pl3, nI_add]
  have j4 : (5 * nI no + 4 : Int32) = nI (5 * no + 4) := by rw [pl5, pk_mul, pl4, nI_add]
  have k0 : ∀ {R : Type} (z : Option R), ck (nI (5 * no)) 60 z = z := fun z => pu_ck (by omega) (by omega)
  have l0 : (nI (5 * no)).toNatClampNeg = 5 * no := nI_clamp (by omega)
  have k1 : ∀ {R : Type} (z : Option R), ck (nI (5 * no + 1)) 60 z = z := fun z => pu_ck (by omega) (by omega)
  have l1 : (nI (5 * no + 1)).toNatClampNeg = 5 * no + 1 := nI_clamp (by omega)
  have k2 : ∀ {R : Type} (z : Option R), ck (nI (5 * no + 2)) 60 z = z := fun z => pu_ck (by omega) (by omega)
  have l2 : (nI (5 * no + 2)).toNatClampNeg = 5 * no + 2 := nI_clamp (by omega)
  have k3 : ∀ {R : Type} (z : Option R), ck (nI (5 * no + 3)) 60 z = z := fun z => pu_ck (by omega) (by omega)
  have l3 : (nI (5 * no + 3)).toNatClampNeg = 5 * no + 3 := nI_clamp (by omega)
  have k4 : ∀ {R : Type} (z : Option R), ck (nI (5 * no + 4)) 60 z = z := fun z => pu_ck (by omega) (by omega)
  have l4 : (nI (5 * no + 4)).toNatClampNeg = 5 * no + 4 := nI_clamp (by omega)
  rw [f_X6_readNumbers, if_neg (by decide), if_neg (by decide), if_pos rfl, f_X6_readOrder, e1, Option.bind_some]
  simp only [j0, j1, j2, j3, j4, k0, k1, k2, k3, k4, l0, l1, l2, l3, l4, hck, hcl, e3, e5, e7, e9, Option.bind_some, nI_1]
theorem r_clOrder {n : Nat} {fe : Nat → Int32} {f np no p : Nat} {r1 r2 r3 r4 r5 r6 : TQ} {d2 d3 d4 d5 cl : Int32} {to : Nat → Int32} {pa ra od : Nat → Nat → Int32} (hno : no < 12) (hp : p < 5) (hto0 : to 0 = nI np) (hto : to 1 = nI no) (h0 : r1.2.1 = 0 ∧ r1.2.2 = -1) (hsk : f_X11_skipWord (nI n) (nI f) fe = some r1.1)
    (e1 : f_X11_number (nI n) r1.1 r1.2.1 r1.2.2 fe 0 (nI np - 1) = some (nI p, r2)) (h2 : r2.2.1 = 0) (e3 : f_X11_number (nI n) r2.1 r2.2.1 r2.2.2 fe 0 (pa p 0 - 1) = some (d2, r3)) (e5 : f_X11_number (nI n) r3.1 r3.2.1 r3.2.2 fe 0 (pa p 1 - 1) = some (d3, r4)) (e7 : f_X11_number (nI n) r4.1 r4.2.1 r4.2.2 fe 1 200 = some (d4, r5)) (e9 : f_X11_number (nI n) r5.1 r5.2.1 r5.2.2 fe d4 200 = some (d5, r6)) :
    f_X11_clause_b86 (nI n) fe (nI f) 0 (-1) cl to pa ra od 1 = f_X11_clause_b402 (nI n) fe r6.1 r6.2.1 r6.2.2 (cl + 1) to pa ra (gset (gset (gset (gset (gset od no 0 (nI p)) no 1 d2) no 2 d3) no 3 d4) no 4 d5) 1 := by
  have hck : ∀ {R : Type} (z : Option R), ck (nI no) 12 z = z := fun z => pu_ck hno (by omega)
  have hcp : ∀ {R : Type} (z : Option R), ck (nI p) 5 z = z := fun z => pu_ck hp (by omega)
  have hcl : (nI no).toNatClampNeg = no := nI_clamp (by omega)
  have hcl2 : (nI p).toNatClampNeg = p := nI_clamp (by omega)
  have ht : to ((1 : Int32).toNatClampNeg) = nI no := hto
  have ht0 : to ((0 : Int32).toNatClampNeg) = nI np := hto0
  have w0 : (va_up od no (upd (od no) ((0 : Int32).toNatClampNeg) (nI p))) no ((0 : Int32).toNatClampNeg) = nI p := gset_eq
  have w1 : (va_up (va_up od no (upd (od no) ((0 : Int32).toNatClampNeg) (nI p))) no (upd ((va_up od no (upd (od no) ((0 : Int32).toNatClampNeg) (nI p))) no) ((1 : Int32).toNatClampNeg) d2)) no ((0 : Int32).toNatClampNeg) = nI p := (gset_ne (g := (va_up od no (upd (od no) ((0 : Int32).toNatClampNeg) (nI p)))) (j := 1) (b := 0) (by omega)).trans w0
  have w3 : (va_up (va_up (va_up (va_up od no (upd (od no) ((0 : Int32).toNatClampNeg) (nI p))) no (upd ((va_up od no (upd (od no) ((0 : Int32).toNatClampNeg) (nI p))) no) ((1 : Int32).toNatClampNeg) d2)) no (upd ((va_up (va_up od no (upd (od no) ((0 : Int32).toNatClampNeg) (nI p))) no (upd ((va_up od no (upd (od no) ((0 : Int32).toNatClampNeg) (nI p))) no) ((1 : Int32).toNatClampNeg) d2)) no) ((2 : Int32).toNatClampNeg) d3)) no (upd ((va_up (va_up (va_up od no (upd (od no) ((0 : Int32).toNatClampNeg) (nI p))) no (upd ((va_up od no (upd (od no) ((0 : Int32).toNatClampNeg) (nI p))) no) ((1 : Int32).toNatClampNeg) d2)) no (upd ((va_up (va_up od no (upd (od no) ((0 : Int32).toNatClampNeg) (nI p))) no (upd ((va_up od no (upd (od no) ((0 : Int32).toNatClampNeg) (nI p))) no) ((1 : Int32).toNatClampNeg) d2)) no) ((2 : Int32).toNatClampNeg) d3)) no) ((3 : Int32).toNatClampNeg) d4)) no ((3 : Int32).toNatClampNeg) = d4 := gset_eq
  have z0 : f_X11_number (nI n) r2.1 r2.2.1 r2.2.2 fe 0 (pa p ((0 : Int32).toNatClampNeg) - 1) = some (d2, r3) := e3
  have z1 : f_X11_number (nI n) r3.1 r3.2.1 r3.2.2 fe 0 (pa p ((1 : Int32).toNatClampNeg) - 1) = some (d3, r4) := e5
  rw [h0.1, h0.2] at e1
  rw [f_X11_clause_b86, if_pos rfl, hsk, Option.bind_some, if_neg (by decide), if_pos rfl]
  simp only [ht, ht0, hck, hcl, e1, Option.bind_some]
  rw [if_pos h2]
  simp only [w0, w1, w3, hcp, hcl2, z0, z1, e7, e9, Option.bind_some]
  rfl
theorem r_clOrderF {n : Nat} {fe : Nat → Int32} {f np no : Nat} {r1 r2 : TQ} {d1 cl : Int32} {to : Nat → Int32} {pa ra od : Nat → Nat → Int32} (hno : no < 12) (hto0 : to 0 = nI np) (hto : to 1 = nI no) (h0 : r1.2.1 = 0 ∧ r1.2.2 = -1) (hsk : f_X11_skipWord (nI n) (nI f) fe = some r1.1)
    (e1 : f_X11_number (nI n) r1.1 r1.2.1 r1.2.2 fe 0 (nI np - 1) = some (d1, r2)) (h2 : ¬ r2.2.1 = 0) :
    f_X11_clause_b86 (nI n) fe (nI f) 0 (-1) cl to pa ra od 1 = f_X11_clause_b402 (nI n) fe r2.1 r2.2.1 r2.2.2 (cl + 1) to pa ra (gset od no 0 d1) 1 := by
  have hck : ∀ {R : Type} (z : Option R), ck (nI no) 12 z = z := fun z => pu_ck hno (by omega)
  have hcl : (nI no).toNatClampNeg = no := nI_clamp (by omega)
  have ht : to ((1 : Int32).toNatClampNeg) = nI no := hto
  have ht0 : to ((0 : Int32).toNatClampNeg) = nI np := hto0
  rw [h0.1, h0.2] at e1
  rw [f_X11_clause_b86, if_pos rfl, hsk, Option.bind_some, if_neg (by decide), if_pos rfl]
  simp only [ht, ht0, hck, hcl, e1, Option.bind_some]
  rw [if_neg h2]
  rfl
theorem TRf.ne {n : Nat} {s : TS} {r : TQ} (h : TRf n s r) : ¬ r.2.1 = 0 := by
  obtain ⟨z1, z2, z3, y, pl, a, hy, ha, rfl, rfl⟩ := h
  exact hy
theorem sn_order {n : Nat} {B : Nat → Nat} {v fe : Nat → Int32} (hT : Tp n B v fe) {f f1 : Nat} {s1 : TS} {r1 : TQ} (h : TR0 n B f1 s1 r1) (hsk : f_X11_skipWord (nI n) (nI f) fe = some r1.1) {np no nr hd : Nat} {W H : Nat → Nat} {S : CX6} {to : Nat → Int32} {pa ra od : Nat → Nat → Int32} (hS : PzSn np no nr hd W H S to pa ra od) (hno : no < 12) (cl : Int32) :
    ∃ X s2 r2 od2, f_X6_readNumbers S.1 S.2.1 S.2.2.1 S.2.2.2.1 S.2.2.2.2.1 S.2.2.2.2.2.1 S.2.2.2.2.2.2.1 S.2.2.2.2.2.2.2.1 S.2.2.2.2.2.2.2.2.1 S.2.2.2.2.2.2.2.2.2.1 S.2.2.2.2.2.2.2.2.2.2.1 S.2.2.2.2.2.2.2.2.2.2.2.1 S.2.2.2.2.2.2.2.2.2.2.2.2 (nI n) s1.1 s1.2.1 s1.2.2.1 s1.2.2.2.1 s1.2.2.2.2.1 s1.2.2.2.2.2 v 2 = some (X.1, X.2.1, X.2.2.1, X.2.2.2.1, X.2.2.2.2.1, X.2.2.2.2.2.1, X.2.2.2.2.2.2.1, X.2.2.2.2.2.2.2.1, X.2.2.2.2.2.2.2.2.1, X.2.2.2.2.2.2.2.2.2.1, X.2.2.2.2.2.2.2.2.2.2.1, X.2.2.2.2.2.2.2.2.2.2.2.1, X.2.2.2.2.2.2.2.2.2.2.2.2, s2) ∧ f_X11_clause_b86 (nI n) fe (nI f) 0 (-1) cl to pa ra od 1 = f_X11_clause_b402 (nI n) fe r2.1 r2.2.1 r2.2.2 (cl + 1) to pa ra od2 1 ∧ ((∃ f2, TR0 n B f2 s2 r2 ∧ PzSn np (no + 1) nr hd W H X (upd to 1 (nI (no + 1))) pa ra od2) ∨ TRf n s2 r2) := by
  obtain ⟨g1, g2, g3, g4, g5, g6, g7, g8, g9, g10, g11, g12, g13⟩ := id hS
  have hS1 := g5.1
  have hS3 := g6.1
  have h0 : r1.2.1 = 0 ∧ r1.2.2 = -1 := ⟨h.ft.2.2.1, h.ft.2.2.2⟩
  obtain ⟨c1, s2, d1, r2, e1, e2, k1⟩ := t_nm hT h (lo' := 0) (hi := nI np - 1) 0 rfl (by omega) (hiS (by omega))
  have hcl : ∀ (p : Nat) (c2 c3 c4 c5 : Int32) (s2 s3 s4 s5 s6 : TS), p < 5 → f_X7_takeNumber (nI n) s1.1 s1.2.1 s1.2.2.1 s1.2.2.2.1 s1.2.2.2.2.1 s1.2.2.2.2.2 v 0 (nI np - 1) = some (nI p, s2) → f_X7_takeNumber (nI n) s2.1 s2.2.1 s2.2.2.1 s2.2.2.2.1 s2.2.2.2.2.1 s2.2.2.2.2.2 v 0 (S.2.2.2.2.2.2.1 p - 1) = some (c2, s3) → f_X7_takeNumber (nI n) s3.1 s3.2.1 s3.2.2.1 s3.2.2.2.1 s3.2.2.2.2.1 s3.2.2.2.2.2 v 0 (S.2.2.2.2.2.2.2.1 p - 1) = some (c3, s4) → f_X7_takeNumber (nI n) s4.1 s4.2.1 s4.2.2.1 s4.2.2.2.1 s4.2.2.2.2.1 s4.2.2.2.2.2 v 1 200 = some (c4, s5) → f_X7_takeNumber (nI n) s5.1 s5.2.1 s5.2.2.1 s5.2.2.2.1 s5.2.2.2.2.1 s5.2.2.2.2.2 v c4 200 = some (c5, s6) → f_X6_readNumbers S.1 S.2.1 S.2.2.1 S.2.2.2.1 S.2.2.2.2.1 S.2.2.2.2.2.1 S.2.2.2.2.2.2.1 S.2.2.2.2.2.2.2.1 S.2.2.2.2.2.2.2.2.1 S.2.2.2.2.2.2.2.2.2.1 S.2.2.2.2.2.2.2.2.2.2.1 S.2.2.2.2.2.2.2.2.2.2.2.1 S.2.2.2.2.2.2.2.2.2.2.2.2 (nI n) s1.1 s1.2.1 s1.2.2.1 s1.2.2.2.1 s1.2.2.2.2.1 s1.2.2.2.2.2 v 2 = some (nI np, S.2.1, nI (no + 1), S.2.2.2.1, S.2.2.2.2.1, S.2.2.2.2.2.1, S.2.2.2.2.2.2.1, S.2.2.2.2.2.2.2.1, S.2.2.2.2.2.2.2.2.1, S.2.2.2.2.2.2.2.2.2.1, S.2.2.2.2.2.2.2.2.2.2.1, S.2.2.2.2.2.2.2.2.2.2.2.1, (upd (upd (upd (upd (upd S.2.2.2.2.2.2.2.2.2.2.2.2 (5 * no) (nI p)) (5 * no + 1) c2) (5 * no + 2) c3) (5 * no + 3) c4) (5 * no + 4) c5), s6) := by
    intro p c2 c3 c4 c5 s2 s3 s4 s5 s6 hp a1 a2 a3 a4 a5
    rw [hS1, hS3]
    exact p_rnOrder hno hp a1 a2 a3 a4 a5
  rcases k1 with ⟨p, f2, rfl, rfl, -, hp4, hp5, -, -, -, -, t2⟩ | ⟨rfl, rfl, hF, -⟩
  · have hp : p < np := leS (by omega) hp5 hp4
    obtain ⟨⟨w1, w4⟩, ⟨hh1, hh4⟩, ew1, ew2, eh1, eh2, -⟩ := g12 p hp
    have h5 : p < 5 := by omega
    have hw9 : S.2.2.2.2.2.2.1 p - 1 < nI 100000 := by rw [ew1]; exact hiS (by omega)
    have hh9 : S.2.2.2.2.2.2.2.1 p - 1 < nI 100000 := by rw [eh1]; exact hiS (by omega)
    have hpw : pa p 0 = S.2.2.2.2.2.2.1 p := by rw [ew1, ew2]
    have hph : pa p 1 = S.2.2.2.2.2.2.2.1 p := by rw [eh1, eh2]
    obtain ⟨c2, s3, d2, r3, e3, e4, k2⟩ := t_nm hT t2 (lo' := 0) (hi := S.2.2.2.2.2.2.1 p - 1) 0 rfl (by omega) hw9
    have e4' : f_X11_number (nI n) r2.1 r2.2.1 r2.2.2 fe 0 (pa p 0 - 1) = some (d2, r3) := by rw [hpw]; exact e4
    have q8 : ∀ {s : TS} {r : TQ}, TRf n s r → f_X11_number (nI n) r.1 r.2.1 r.2.2 fe 0 (pa p 1 - 1) = some (0, r) := fun hF => (tf_n4 (v := v) (fe := fe) hF 0 (pa p 1 - 1)).2
    rcases k2 with ⟨x, f3, rfl, rfl, -, hx4, hx5, -, -, -, -, t3⟩ | ⟨rfl, rfl, hF, -⟩
    · obtain ⟨c3, s4, d3, r4, e5, e6, k3⟩ := t_nm hT t3 (lo' := 0) (hi := S.2.2.2.2.2.2.2.1 p - 1) 0 rfl (by omega) hh9
      have e6' : f_X11_number (nI n) r3.1 r3.2.1 r3.2.2 fe 0 (pa p 1 - 1) = some (d3, r4) := by rw [hph]; exact e6
      rcases k3 with ⟨y, f4, rfl, rfl, -, hy4, hy5, -, -, -, -, t4⟩ | ⟨rfl, rfl, hF, -⟩
      · obtain ⟨c4, s5, d4, r5, e7, e8, k4⟩ := t_nm hT t4 (lo' := 1) (hi := 200) 1 rfl (by omega) (by decide)
        rcases k4 with ⟨d, f5, rfl, rfl, hd1, hd4, hd5, -, -, -, -, t5⟩ | ⟨rfl, rfl, hF, -⟩
        · obtain ⟨c5, s6, d5, r6, e9, e10, k5⟩ := t_nm hT t5 (lo' := nI d) (hi := 200) d rfl hd5 (by decide)
          refine ⟨(nI np, S.2.1, nI (no + 1), S.2.2.2.1, S.2.2.2.2.1, S.2.2.2.2.2.1, S.2.2.2.2.2.2.1, S.2.2.2.2.2.2.2.1, S.2.2.2.2.2.2.2.2.1, S.2.2.2.2.2.2.2.2.2.1, S.2.2.2.2.2.2.2.2.2.2.1, S.2.2.2.2.2.2.2.2.2.2.2.1, (upd (upd (upd (upd (upd S.2.2.2.2.2.2.2.2.2.2.2.2 (5 * no) (nI p)) (5 * no + 1) (nI x)) (5 * no + 2) (nI y)) (5 * no + 3) (nI d)) (5 * no + 4) c5)), s6, r6, _, hcl p _ _ _ _ s2 s3 s4 s5 s6 h5 e1 e3 e5 e7 e9, r_clOrder hno h5 g5.2 g6.2 h0 hsk e2 t2.ft.2.2.1 e4' e6' e8 e10, ?_⟩
          rcases k5 with ⟨u, f6, rfl, rfl, hu1, hu4, hu5, -, -, -, -, t6⟩ | ⟨rfl, rfl, hF, -⟩
          · have hx : x < W p := by rw [ew1] at hx4; exact leS (by omega) hx5 hx4
            have hy : y < H p := by rw [eh1] at hy4; exact leS (by omega) hy5 hy4
            have hu : u ≤ 200 := leN (by omega) (by omega) hu4
            refine .inl ⟨f6, t6, g1, by omega, g3, g4, ⟨rfl, by rw [upd, if_neg (by omega)]; exact g5.2⟩, ⟨rfl, by rw [upd, if_pos rfl]⟩, ⟨g7.1, by rw [upd, if_neg (by omega)]; exact g7.2⟩, g8, ?_, ?_, ⟨g11.1, by rw [upd, if_neg (by omega)]; exact g11.2⟩, fun q hq => ?_, fun o ho => ?_⟩
            · obtain ⟨a, a1, a2, a3⟩ := g9
              exact ⟨a, a1, a2, by rw [upd, if_neg (by omega)]; exact a3⟩
            · obtain ⟨a, a1, a2, a3⟩ := g10
              exact ⟨a, a1, a2, by rw [upd, if_neg (by omega)]; exact a3⟩
            · exact (g12 q hq).mono rfl rfl rfl rfl rfl rfl rfl (fun j => rfl)
            · by_cases eo : o = no
              · subst eo
                refine ⟨p, x, y, d, u, hp, hx, hy, hd1, hu1, hu, ⟨?_, ?_⟩, ⟨?_, ?_⟩, ⟨?_, ?_⟩, ⟨?_, ?_⟩, ⟨?_, ?_⟩⟩
                · simp only [upd]
                  rw [if_neg (by omega), if_neg (by omega), if_neg (by omega), if_neg (by omega), if_pos trivial]
                · rw [gset_ne (by omega), gset_ne (by omega), gset_ne (by omega), gset_ne (by omega), gset_eq]
                · simp only [upd]
                  rw [if_neg (by omega), if_neg (by omega), if_neg (by omega), if_pos trivial]
                · rw [gset_ne (by omega), gset_ne (by omega), gset_ne (by omega), gset_eq]
                · simp only [upd]
                  rw [if_neg (by omega), if_neg (by omega), if_pos trivial]
                · rw [gset_ne (by omega), gset_ne (by omega), gset_eq]
                · simp only [upd]
                  rw [if_neg (by omega), if_pos trivial]
                · rw [gset_ne (by omega), gset_eq]
                · simp only [upd]
                  rw [if_pos trivial]
                · rw [gset_eq]
              · refine (g13 o (by omega)).mono (Nat.le_refl _) (fun p hp => ⟨rfl, rfl⟩) (fun j hj => ?_) (fun j hj => ?_)
                · simp only [upd]
                  rw [if_neg (by omega), if_neg (by omega), if_neg (by omega), if_neg (by omega), if_neg (by omega)]
                · rw [gset_ne (by omega), gset_ne (by omega), gset_ne (by omega), gset_ne (by omega), gset_ne (by omega)]
          · exact .inr hF
        · have q1 := tf_n4 (v := v) (fe := fe) hF 1 200
          have q2 := tf_n4 (v := v) (fe := fe) hF 0 200
          exact ⟨(nI np, S.2.1, nI (no + 1), S.2.2.2.1, S.2.2.2.2.1, S.2.2.2.2.2.1, S.2.2.2.2.2.2.1, S.2.2.2.2.2.2.2.1, S.2.2.2.2.2.2.2.2.1, S.2.2.2.2.2.2.2.2.2.1, S.2.2.2.2.2.2.2.2.2.2.1, S.2.2.2.2.2.2.2.2.2.2.2.1, (upd (upd (upd (upd (upd S.2.2.2.2.2.2.2.2.2.2.2.2 (5 * no) (nI p)) (5 * no + 1) (nI x)) (5 * no + 2) (nI y)) (5 * no + 3) 1) (5 * no + 4) 1)), s5, r5, _, hcl p _ _ _ _ s2 s3 s4 s5 s5 h5 e1 e3 e5 e7 q1.1, r_clOrder hno h5 g5.2 g6.2 h0 hsk e2 t2.ft.2.2.1 e4' e6' e8 q2.2, .inr hF⟩
      · have q1 := tf_n4 (v := v) (fe := fe) hF 1 200
        have q2 := tf_n4 (v := v) (fe := fe) hF 0 200
        exact ⟨(nI np, S.2.1, nI (no + 1), S.2.2.2.1, S.2.2.2.2.1, S.2.2.2.2.2.1, S.2.2.2.2.2.2.1, S.2.2.2.2.2.2.2.1, S.2.2.2.2.2.2.2.2.1, S.2.2.2.2.2.2.2.2.2.1, S.2.2.2.2.2.2.2.2.2.2.1, S.2.2.2.2.2.2.2.2.2.2.2.1, (upd (upd (upd (upd (upd S.2.2.2.2.2.2.2.2.2.2.2.2 (5 * no) (nI p)) (5 * no + 1) (nI x)) (5 * no + 2) 0) (5 * no + 3) 1) (5 * no + 4) 1)), s4, r4, _, hcl p _ _ _ _ s2 s3 s4 s4 s4 h5 e1 e3 e5 q1.1 q1.1, r_clOrder hno h5 g5.2 g6.2 h0 hsk e2 t2.ft.2.2.1 e4' e6' q1.2 q2.2, .inr hF⟩
    · have q1 := tf_n4 (v := v) (fe := fe) hF 1 200
      have q2 := tf_n4 (v := v) (fe := fe) hF 0 200
      have q3 := tf_n4 (v := v) (fe := fe) hF 0 (S.2.2.2.2.2.2.2.1 p - 1)
      exact ⟨(nI np, S.2.1, nI (no + 1), S.2.2.2.1, S.2.2.2.2.1, S.2.2.2.2.2.1, S.2.2.2.2.2.2.1, S.2.2.2.2.2.2.2.1, S.2.2.2.2.2.2.2.2.1, S.2.2.2.2.2.2.2.2.2.1, S.2.2.2.2.2.2.2.2.2.2.1, S.2.2.2.2.2.2.2.2.2.2.2.1, (upd (upd (upd (upd (upd S.2.2.2.2.2.2.2.2.2.2.2.2 (5 * no) (nI p)) (5 * no + 1) 0) (5 * no + 2) 0) (5 * no + 3) 1) (5 * no + 4) 1)), s3, r3, _, hcl p _ _ _ _ s2 s3 s3 s3 s3 h5 e1 e3 q3.1 q1.1 q1.1, r_clOrder hno h5 g5.2 g6.2 h0 hsk e2 t2.ft.2.2.1 e4' (q8 hF) q1.2 q2.2, .inr hF⟩
  · have q1 := tf_n4 (v := v) (fe := fe) hF 1 200
    have q3 := tf_n4 (v := v) (fe := fe) hF 0 (S.2.2.2.2.2.2.2.1 0 - 1)
    have q4 := tf_n4 (v := v) (fe := fe) hF 0 (S.2.2.2.2.2.2.1 0 - 1)
    exact ⟨(nI np, S.2.1, nI (no + 1), S.2.2.2.1, S.2.2.2.2.1, S.2.2.2.2.2.1, S.2.2.2.2.2.2.1, S.2.2.2.2.2.2.2.1, S.2.2.2.2.2.2.2.2.1, S.2.2.2.2.2.2.2.2.2.1, S.2.2.2.2.2.2.2.2.2.2.1, S.2.2.2.2.2.2.2.2.2.2.2.1, (upd (upd (upd (upd (upd S.2.2.2.2.2.2.2.2.2.2.2.2 (5 * no) (nI 0)) (5 * no + 1) 0) (5 * no + 2) 0) (5 * no + 3) 1) (5 * no + 4) 1)), s2, r2, _, hcl 0 _ _ _ _ s2 s2 s2 s2 s2 (by omega) e1 q4.1 q3.1 q1.1 q1.1, r_clOrderF hno g5.2 g6.2 h0 hsk e2 hF.ne, .inr hF⟩

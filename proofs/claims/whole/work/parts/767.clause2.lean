/-! street: rain, order, pace, hold -/
theorem pzRain_congr {ra ra' : Nat → Nat → Int32} (d : Int32) : ∀ m, (∀ k, k < m → ra' k 0 = ra k 0 ∧ ra' k 1 = ra k 1) → pzRain ra' d m = pzRain ra d m := by
  intro m
  induction m with
  | zero => exact fun _ => rfl
  | succ m ih =>
    intro h
    rw [pzRain, pzRain, ih (fun k hk => h k (by omega)), (h m (by omega)).1, (h m (by omega)).2]
theorem sn_rain {n : Nat} {B : Nat → Nat} {v fe : Nat → Int32} (hT : Tp n B v fe) {f f1 : Nat} {s1 : TS} {r1 : TQ} (h : TR0 n B f1 s1 r1) (hsk : f_X11_skipWord (nI n) (nI f) fe = some r1.1) {np no nr hd : Nat} {W H : Nat → Nat} {S : CX6} {to : Nat → Int32} {pa ra od : Nat → Nat → Int32} (hS : PzSn np no nr hd W H S to pa ra od) (hnr : nr < 12) (cl : Int32) :
    ∃ X s2 r2 ra2, f_X6_readNumbers S.1 S.2.1 S.2.2.1 S.2.2.2.1 S.2.2.2.2.1 S.2.2.2.2.2.1 S.2.2.2.2.2.2.1 S.2.2.2.2.2.2.2.1 S.2.2.2.2.2.2.2.2.1 S.2.2.2.2.2.2.2.2.2.1 S.2.2.2.2.2.2.2.2.2.2.1 S.2.2.2.2.2.2.2.2.2.2.2.1 S.2.2.2.2.2.2.2.2.2.2.2.2 (nI n) s1.1 s1.2.1 s1.2.2.1 s1.2.2.2.1 s1.2.2.2.2.1 s1.2.2.2.2.2 v 1 = some (X.1, X.2.1, X.2.2.1, X.2.2.2.1, X.2.2.2.2.1, X.2.2.2.2.2.1, X.2.2.2.2.2.2.1, X.2.2.2.2.2.2.2.1, X.2.2.2.2.2.2.2.2.1, X.2.2.2.2.2.2.2.2.2.1, X.2.2.2.2.2.2.2.2.2.2.1, X.2.2.2.2.2.2.2.2.2.2.2.1, X.2.2.2.2.2.2.2.2.2.2.2.2, s2) ∧ f_X11_clause_b86 (nI n) fe (nI f) 0 (-1) cl to pa ra od 2 = f_X11_clause_b402 (nI n) fe r2.1 r2.2.1 r2.2.2 (cl + 1) to pa ra2 od 2 ∧ ((∃ f2, TR0 n B f2 s2 r2 ∧ PzSn np no (nr + 1) hd W H X (upd to 2 (nI (nr + 1))) pa ra2 od) ∨ TRf n s2 r2) := by
  obtain ⟨g1, g2, g3, g4, g5, g6, g7, g8, g9, g10, g11, g12, g13⟩ := id hS
  obtain ⟨c1, s2, d1, r2, e1, e2, k1⟩ := t_nm hT h (lo' := 1) (hi := 200) 1 rfl (by omega) (by decide)
  have hfin : ∀ (d : Nat) (c2 d1 d2 : Int32) (s2 s3 : TS) (r2 r3 : TQ), d ≤ 200 → f_X7_takeNumber (nI n) s1.1 s1.2.1 s1.2.2.1 s1.2.2.2.1 s1.2.2.2.2.1 s1.2.2.2.2.2 v 1 200 = some (nI d, s2) → f_X7_takeNumber (nI n) s2.1 s2.2.1 s2.2.2.1 s2.2.2.2.1 s2.2.2.2.2.1 s2.2.2.2.2.2 v 1 9 = some (c2, s3) → f_X11_number (nI n) r1.1 r1.2.1 r1.2.2 fe 1 200 = some (d1, r2) → f_X11_number (nI n) r2.1 r2.2.1 r2.2.2 fe 1 9 = some (d2, r3) →
      ((∃ f2, TR0 n B f2 s3 r3 ∧ PzSn np no (nr + 1) hd W H (S.1, nI (nr + 1), S.2.2.1, S.2.2.2.1, S.2.2.2.2.1, S.2.2.2.2.2.1, S.2.2.2.2.2.2.1, S.2.2.2.2.2.2.2.1, S.2.2.2.2.2.2.2.2.1, S.2.2.2.2.2.2.2.2.2.1, S.2.2.2.2.2.2.2.2.2.2.1, upd S.2.2.2.2.2.2.2.2.2.2.2.1 d (S.2.2.2.2.2.2.2.2.2.2.2.1 d + c2), S.2.2.2.2.2.2.2.2.2.2.2.2) (upd to 2 (nI (nr + 1))) pa (gset (gset ra nr 0 d1) nr 1 d2) od) ∨ TRf n s3 r3) →
      ∃ X s2 r2 ra2, f_X6_readNumbers S.1 S.2.1 S.2.2.1 S.2.2.2.1 S.2.2.2.2.1 S.2.2.2.2.2.1 S.2.2.2.2.2.2.1 S.2.2.2.2.2.2.2.1 S.2.2.2.2.2.2.2.2.1 S.2.2.2.2.2.2.2.2.2.1 S.2.2.2.2.2.2.2.2.2.2.1 S.2.2.2.2.2.2.2.2.2.2.2.1 S.2.2.2.2.2.2.2.2.2.2.2.2 (nI n) s1.1 s1.2.1 s1.2.2.1 s1.2.2.2.1 s1.2.2.2.2.1 s1.2.2.2.2.2 v 1 = some (X.1, X.2.1, X.2.2.1, X.2.2.2.1, X.2.2.2.2.1, X.2.2.2.2.2.1, X.2.2.2.2.2.2.1, X.2.2.2.2.2.2.2.1, X.2.2.2.2.2.2.2.2.1, X.2.2.2.2.2.2.2.2.2.1, X.2.2.2.2.2.2.2.2.2.2.1, X.2.2.2.2.2.2.2.2.2.2.2.1, X.2.2.2.2.2.2.2.2.2.2.2.2, s2) ∧ f_X11_clause_b86 (nI n) fe (nI f) 0 (-1) cl to pa ra od 2 = f_X11_clause_b402 (nI n) fe r2.1 r2.2.1 r2.2.2 (cl + 1) to pa ra2 od 2 ∧ ((∃ f2, TR0 n B f2 s2 r2 ∧ PzSn np no (nr + 1) hd W H X (upd to 2 (nI (nr + 1))) pa ra2 od) ∨ TRf n s2 r2) := by
    intro d c2 d1 d2 s2 s3 r2 r3 hd2 a1 a2 b1 b2 hE
    refine ⟨_, s3, r3, _, ?_, ?_, hE⟩
    · have hck : ∀ {R : Type} (z : Option R), ck (nI d) 201 z = z := fun z => pu_ck (by omega) (by omega)
      have hcl : (nI d).toNatClampNeg = d := nI_clamp (by omega)
      rw [f_X6_readNumbers, if_neg (by decide), if_pos rfl, a1, Option.bind_some]
      simp only [a2, hck, hcl, Option.bind_some, g7.1, nI_1]
    · have hck : ∀ {R : Type} (z : Option R), ck (nI nr) 12 z = z := fun z => pu_ck hnr (by omega)
      have hcl : (nI nr).toNatClampNeg = nr := nI_clamp (by omega)
      have ht : to ((2 : Int32).toNatClampNeg) = nI nr := g7.2
      rw [h.ft.2.2.1, h.ft.2.2.2] at b1
      rw [f_X11_clause_b86, if_pos rfl, hsk, Option.bind_some, if_neg (by decide), if_neg (by decide), if_pos rfl]
      simp only [ht, hck, hcl, b1, b2, Option.bind_some]
      rfl
  rcases k1 with ⟨d, f2, rfl, rfl, hd1, hd4, hd5, -, -, -, -, t2⟩ | ⟨rfl, rfl, hF, -⟩
  · have hd' : d ≤ 200 := leN (by omega) (by omega) hd4
    obtain ⟨c2, s3, d2, r3, e3, e4, k2⟩ := t_nm hT t2 (lo' := 1) (hi := 9) 1 rfl (by omega) (by decide)
    refine hfin d _ _ _ s2 s3 r2 r3 hd' e1 e3 e2 e4 ?_
    rcases k2 with ⟨a, f3, rfl, rfl, ha1, ha4, ha5, -, -, -, -, t3⟩ | ⟨rfl, rfl, hF, -⟩
    · have ha' : a ≤ 9 := leN (by omega) (by omega) ha4
      refine .inl ⟨f3, t3, g1, g2, by omega, g4, ⟨g5.1, by rw [upd, if_neg (by omega)]; exact g5.2⟩, ⟨g6.1, by rw [upd, if_neg (by omega)]; exact g6.2⟩, ⟨rfl, by rw [upd, if_pos rfl]⟩, fun d0 hd0 => ?_, ?_, ?_, ⟨g11.1, by rw [upd, if_neg (by omega)]; exact g11.2⟩, fun p hp => ?_, fun o ho => ?_⟩
      · obtain ⟨r, r1', r2', r3'⟩ := g8 d0 hd0
        have hcg : pzRain (gset (gset ra nr 0 (nI d)) nr 1 (nI a)) (nI d0) nr = nI r := by
          rw [pzRain_congr (ra := ra) (nI d0) nr (fun k hk => ⟨by rw [gset_ne (by omega), gset_ne (by omega)], by rw [gset_ne (by omega), gset_ne (by omega)]⟩), r3']
        have hz0 : gset (gset ra nr 0 (nI d)) nr 1 (nI a) nr 0 = nI d := by rw [gset_ne (by omega), gset_eq]
        have hz1 : gset (gset ra nr 0 (nI d)) nr 1 (nI a) nr 1 = nI a := gset_eq
        show ∃ r, r ≤ 9 * (nr + 1) ∧ upd S.2.2.2.2.2.2.2.2.2.2.2.1 d (S.2.2.2.2.2.2.2.2.2.2.2.1 d + nI a) d0 = nI r ∧ _
        rw [pzRain, hcg, hz0, hz1, upd]
        by_cases ed : d0 = d
        · subst ed
          rw [if_pos rfl, if_pos rfl, r2', nI_add]
          exact ⟨r + a, by omega, rfl, rfl⟩
        · rw [if_neg ed, if_neg (by rw [nI_eq (by omega) (by omega)]; omega), r2', nI_add]
          exact ⟨r, by omega, rfl, rfl⟩
      · obtain ⟨a, a1, a2, a3⟩ := g9
        exact ⟨a, a1, a2, by rw [upd, if_neg (by omega)]; exact a3⟩
      · obtain ⟨a, a1, a2, a3⟩ := g10
        exact ⟨a, a1, a2, by rw [upd, if_neg (by omega)]; exact a3⟩
      · exact (g12 p hp).mono rfl rfl rfl rfl rfl rfl rfl (fun j => rfl)
      · exact (g13 o ho).mono (Nat.le_refl _) (fun p hp => ⟨rfl, rfl⟩) (fun j _ => rfl) (fun j _ => rfl)
    · exact .inr hF
  · have q1 := tf_n4 (v := v) (fe := fe) hF 1 9
    exact hfin 1 _ _ _ s2 s2 r2 r2 (by omega) e1 q1.1 e2 q1.2 (.inr hF)
theorem sn_pace {n : Nat} {B : Nat → Nat} {v fe : Nat → Int32} (hT : Tp n B v fe) {f f1 : Nat} {s1 : TS} {r1 : TQ} (h : TR0 n B f1 s1 r1) (hsk : f_X11_skipWord (nI n) (nI f) fe = some r1.1) {np no nr hd : Nat} {W H : Nat → Nat} {S : CX6} {to : Nat → Int32} {pa ra od : Nat → Nat → Int32} (hS : PzSn np no nr hd W H S to pa ra od) (cl : Int32) :
    ∃ X s2 r2 to2, f_X6_readNumbers S.1 S.2.1 S.2.2.1 S.2.2.2.1 S.2.2.2.2.1 S.2.2.2.2.2.1 S.2.2.2.2.2.2.1 S.2.2.2.2.2.2.2.1 S.2.2.2.2.2.2.2.2.1 S.2.2.2.2.2.2.2.2.2.1 S.2.2.2.2.2.2.2.2.2.2.1 S.2.2.2.2.2.2.2.2.2.2.2.1 S.2.2.2.2.2.2.2.2.2.2.2.2 (nI n) s1.1 s1.2.1 s1.2.2.1 s1.2.2.2.1 s1.2.2.2.2.1 s1.2.2.2.2.2 v 3 = some (X.1, X.2.1, X.2.2.1, X.2.2.2.1, X.2.2.2.2.1, X.2.2.2.2.2.1, X.2.2.2.2.2.2.1, X.2.2.2.2.2.2.2.1, X.2.2.2.2.2.2.2.2.1, X.2.2.2.2.2.2.2.2.2.1, X.2.2.2.2.2.2.2.2.2.2.1, X.2.2.2.2.2.2.2.2.2.2.2.1, X.2.2.2.2.2.2.2.2.2.2.2.2, s2) ∧ f_X11_clause_b86 (nI n) fe (nI f) 0 (-1) cl to pa ra od 3 = f_X11_clause_b402 (nI n) fe r2.1 r2.2.1 r2.2.2 (cl + 1) to2 pa ra od 3 ∧ ((∃ f2, TR0 n B f2 s2 r2 ∧ PzSn np no nr hd W H X to2 pa ra od) ∨ TRf n s2 r2) := by
  obtain ⟨g1, g2, g3, g4, g5, g6, g7, g8, g9, g10, g11, g12, g13⟩ := id hS
  obtain ⟨c1, s2, d1, r2, e1, e2, k1⟩ := t_nm hT h (lo' := 1) (hi := 9) 1 rfl (by omega) (by decide)
  have hc : ∀ (c1 c2 : Int32) (s2 s3 : TS), f_X7_takeNumber (nI n) s1.1 s1.2.1 s1.2.2.1 s1.2.2.2.1 s1.2.2.2.2.1 s1.2.2.2.2.2 v 1 9 = some (c1, s2) → f_X7_takeNumber (nI n) s2.1 s2.2.1 s2.2.2.1 s2.2.2.2.1 s2.2.2.2.2.1 s2.2.2.2.2.2 v 1 9 = some (c2, s3) → f_X6_readNumbers S.1 S.2.1 S.2.2.1 S.2.2.2.1 S.2.2.2.2.1 S.2.2.2.2.2.1 S.2.2.2.2.2.2.1 S.2.2.2.2.2.2.2.1 S.2.2.2.2.2.2.2.2.1 S.2.2.2.2.2.2.2.2.2.1 S.2.2.2.2.2.2.2.2.2.2.1 S.2.2.2.2.2.2.2.2.2.2.2.1 S.2.2.2.2.2.2.2.2.2.2.2.2 (nI n) s1.1 s1.2.1 s1.2.2.1 s1.2.2.2.1 s1.2.2.2.2.1 s1.2.2.2.2.2 v 3 = some (S.1, S.2.1, S.2.2.1, c1, c2, S.2.2.2.2.2.1, S.2.2.2.2.2.2.1, S.2.2.2.2.2.2.2.1, S.2.2.2.2.2.2.2.2.1, S.2.2.2.2.2.2.2.2.2.1, S.2.2.2.2.2.2.2.2.2.2.1, S.2.2.2.2.2.2.2.2.2.2.2.1, S.2.2.2.2.2.2.2.2.2.2.2.2, s3) := by
    intro c1 c2 s2 s3 a1 a2
    rw [f_X6_readNumbers, if_neg (by decide), if_neg (by decide), if_neg (by decide), if_pos rfl, a1, Option.bind_some]
    simp only [a2, Option.bind_some]
  have hr : ∀ (d1 d2 : Int32) (r2 r3 : TQ), f_X11_number (nI n) r1.1 r1.2.1 r1.2.2 fe 1 9 = some (d1, r2) → f_X11_number (nI n) r2.1 r2.2.1 r2.2.2 fe 1 9 = some (d2, r3) → f_X11_clause_b86 (nI n) fe (nI f) 0 (-1) cl to pa ra od 3 = if r3.2.1 = 0 then (f_X11_clause_b402 (nI n) fe r3.1 r3.2.1 r3.2.2 (cl + 1) (upd (upd to 3 d1) 4 d2) pa ra od 3) else (f_X11_clause_b402 (nI n) fe r3.1 r3.2.1 r3.2.2 (cl + 1) to pa ra od 3) := by
    intro d1 d2 r2 r3 b1 b2
    rw [h.ft.2.2.1, h.ft.2.2.2] at b1
    rw [f_X11_clause_b86, if_pos rfl, hsk, Option.bind_some, if_neg (by decide), if_neg (by decide), if_neg (by decide), if_pos rfl]
    simp only [b1, b2, Option.bind_some]
    rfl
  rcases k1 with ⟨a, f2, rfl, rfl, ha1, ha4, ha5, -, -, -, -, t2⟩ | ⟨rfl, rfl, hF, -⟩
  · have ha' : a ≤ 9 := leN (by omega) (by omega) ha4
    obtain ⟨c2, s3, d2, r3, e3, e4, k2⟩ := t_nm hT t2 (lo' := 1) (hi := 9) 1 rfl (by omega) (by decide)
    have e5 := hc _ _ s2 s3 e1 e3
    have e6 := hr _ _ r2 r3 e2 e4
    rcases k2 with ⟨b, f3, rfl, rfl, hb1, hb4, hb5, -, -, -, -, t3⟩ | ⟨rfl, rfl, hF, -⟩
    · have hb' : b ≤ 9 := leN (by omega) (by omega) hb4
      rw [if_pos t3.ft.2.2.1] at e6
      have u : ∀ k, k < 3 → upd (upd to 3 (nI a)) 4 (nI b) k = to k := fun k hk => by rw [upd, if_neg (by omega), upd, if_neg (by omega)]
      refine ⟨(S.1, S.2.1, S.2.2.1, nI a, nI b, S.2.2.2.2.2.1, S.2.2.2.2.2.2.1, S.2.2.2.2.2.2.2.1, S.2.2.2.2.2.2.2.2.1, S.2.2.2.2.2.2.2.2.2.1, S.2.2.2.2.2.2.2.2.2.2.1, S.2.2.2.2.2.2.2.2.2.2.2.1, S.2.2.2.2.2.2.2.2.2.2.2.2), s3, r3, _, e5, e6, .inl ⟨f3, t3, g1, g2, g3, g4, ⟨g5.1, (u 0 (by omega)).trans g5.2⟩, ⟨g6.1, (u 1 (by omega)).trans g6.2⟩, ⟨g7.1, (u 2 (by omega)).trans g7.2⟩, g8, ⟨a, ha', rfl, ?_⟩, ⟨b, hb', rfl, ?_⟩, ⟨g11.1, ?_⟩, fun p hp => ?_, fun o ho => ?_⟩⟩
      · rw [upd, if_neg (by omega), upd, if_pos rfl]
      · rw [upd, if_pos rfl]
      · rw [upd, if_neg (by omega), upd, if_neg (by omega)]
        exact g11.2
      · exact (g12 p hp).mono rfl rfl rfl rfl rfl rfl rfl (fun j => rfl)
      · exact (g13 o ho).mono (Nat.le_refl _) (fun p hp => ⟨rfl, rfl⟩) (fun j _ => rfl) (fun j _ => rfl)
    · have hy : ¬ r3.2.1 = 0 := by
        obtain ⟨z1, z2, z3, y, pl, a, hy, ha, rfl, rfl⟩ := hF
        exact hy
      rw [if_neg hy] at e6
      exact ⟨(S.1, S.2.1, S.2.2.1, nI a, 1, S.2.2.2.2.2.1, S.2.2.2.2.2.2.1, S.2.2.2.2.2.2.2.1, S.2.2.2.2.2.2.2.2.1, S.2.2.2.2.2.2.2.2.2.1, S.2.2.2.2.2.2.2.2.2.2.1, S.2.2.2.2.2.2.2.2.2.2.2.1, S.2.2.2.2.2.2.2.2.2.2.2.2), s3, r3, _, e5, e6, .inr hF⟩
  · have q1 := tf_n4 (v := v) (fe := fe) hF 1 9
    have e5 := hc _ _ s2 s2 e1 q1.1
    have e6 := hr _ _ r2 r2 e2 q1.2
    have hy : ¬ r2.2.1 = 0 := by
      obtain ⟨z1, z2, z3, y, pl, a, hy, ha, rfl, rfl⟩ := hF
      exact hy
    rw [if_neg hy] at e6
    exact ⟨(S.1, S.2.1, S.2.2.1, 1, 1, S.2.2.2.2.2.1, S.2.2.2.2.2.2.1, S.2.2.2.2.2.2.2.1, S.2.2.2.2.2.2.2.2.1, S.2.2.2.2.2.2.2.2.2.1, S.2.2.2.2.2.2.2.2.2.2.1, S.2.2.2.2.2.2.2.2.2.2.2.1, S.2.2.2.2.2.2.2.2.2.2.2.2), s2, r2, _, e5, e6, .inr hF⟩
theorem sn_hold {n : Nat} {B : Nat → Nat} {v fe : Nat → Int32} (hT : Tp n B v fe) {f f1 : Nat} {s1 : TS} {r1 : TQ} (h : TR0 n B f1 s1 r1) (hsk : f_X11_skipWord (nI n) (nI f) fe = some r1.1) {np no nr hd : Nat} {W H : Nat → Nat} {S : CX6} {to : Nat → Int32} {pa ra od : Nat → Nat → Int32} (hS : PzSn np no nr hd W H S to pa ra od) (cl : Int32) :
    ∃ X s2 r2 to2, f_X6_readNumbers S.1 S.2.1 S.2.2.1 S.2.2.2.1 S.2.2.2.2.1 S.2.2.2.2.2.1 S.2.2.2.2.2.2.1 S.2.2.2.2.2.2.2.1 S.2.2.2.2.2.2.2.2.1 S.2.2.2.2.2.2.2.2.2.1 S.2.2.2.2.2.2.2.2.2.2.1 S.2.2.2.2.2.2.2.2.2.2.2.1 S.2.2.2.2.2.2.2.2.2.2.2.2 (nI n) s1.1 s1.2.1 s1.2.2.1 s1.2.2.2.1 s1.2.2.2.2.1 s1.2.2.2.2.2 v 4 = some (X.1, X.2.1, X.2.2.1, X.2.2.2.1, X.2.2.2.2.1, X.2.2.2.2.2.1, X.2.2.2.2.2.2.1, X.2.2.2.2.2.2.2.1, X.2.2.2.2.2.2.2.2.1, X.2.2.2.2.2.2.2.2.2.1, X.2.2.2.2.2.2.2.2.2.2.1, X.2.2.2.2.2.2.2.2.2.2.2.1, X.2.2.2.2.2.2.2.2.2.2.2.2, s2) ∧ f_X11_clause_b86 (nI n) fe (nI f) 0 (-1) cl to pa ra od 4 = f_X11_clause_b402 (nI n) fe r2.1 r2.2.1 r2.2.2 (cl + 1) to2 pa ra od 4 ∧ ((∃ f2 hd', TR0 n B f2 s2 r2 ∧ PzSn np no nr hd' W H X to2 pa ra od) ∨ TRf n s2 r2) := by
  obtain ⟨g1, g2, g3, g4, g5, g6, g7, g8, g9, g10, g11, g12, g13⟩ := id hS
  obtain ⟨c1, s2, d1, r2, e1, e2, k1⟩ := t_nm hT h (lo' := 1) (hi := 30) 1 rfl (by omega) (by decide)
  have e5 : f_X6_readNumbers S.1 S.2.1 S.2.2.1 S.2.2.2.1 S.2.2.2.2.1 S.2.2.2.2.2.1 S.2.2.2.2.2.2.1 S.2.2.2.2.2.2.2.1 S.2.2.2.2.2.2.2.2.1 S.2.2.2.2.2.2.2.2.2.1 S.2.2.2.2.2.2.2.2.2.2.1 S.2.2.2.2.2.2.2.2.2.2.2.1 S.2.2.2.2.2.2.2.2.2.2.2.2 (nI n) s1.1 s1.2.1 s1.2.2.1 s1.2.2.2.1 s1.2.2.2.2.1 s1.2.2.2.2.2 v 4 = some (S.1, S.2.1, S.2.2.1, S.2.2.2.1, S.2.2.2.2.1, c1, S.2.2.2.2.2.2.1, S.2.2.2.2.2.2.2.1, S.2.2.2.2.2.2.2.2.1, S.2.2.2.2.2.2.2.2.2.1, S.2.2.2.2.2.2.2.2.2.2.1, S.2.2.2.2.2.2.2.2.2.2.2.1, S.2.2.2.2.2.2.2.2.2.2.2.2, s2) := by
    rw [f_X6_readNumbers, if_neg (by decide), if_neg (by decide), if_neg (by decide), if_neg (by decide), e1, Option.bind_some]
  have e6 : f_X11_clause_b86 (nI n) fe (nI f) 0 (-1) cl to pa ra od 4 = if r2.2.1 = 0 then (f_X11_clause_b402 (nI n) fe r2.1 r2.2.1 r2.2.2 (cl + 1) (upd to 5 d1) pa ra od 4) else (f_X11_clause_b402 (nI n) fe r2.1 r2.2.1 r2.2.2 (cl + 1) to pa ra od 4) := by
    rw [h.ft.2.2.1, h.ft.2.2.2] at e2
    rw [f_X11_clause_b86, if_pos rfl, hsk, Option.bind_some, if_neg (by decide), if_neg (by decide), if_neg (by decide), if_neg (by decide), e2, Option.bind_some]
    rfl
  rcases k1 with ⟨a, f2, rfl, rfl, ha1, ha4, ha5, -, -, -, -, t2⟩ | ⟨rfl, rfl, hF, -⟩
  · have ha' : a ≤ 30 := leN (by omega) (by omega) ha4
    rw [if_pos t2.ft.2.2.1] at e6
    have u : ∀ k, k < 5 → upd to 5 (nI a) k = to k := fun k hk => by rw [upd, if_neg (by omega)]
    refine ⟨(S.1, S.2.1, S.2.2.1, S.2.2.2.1, S.2.2.2.2.1, nI a, S.2.2.2.2.2.2.1, S.2.2.2.2.2.2.2.1, S.2.2.2.2.2.2.2.2.1, S.2.2.2.2.2.2.2.2.2.1, S.2.2.2.2.2.2.2.2.2.2.1, S.2.2.2.2.2.2.2.2.2.2.2.1, S.2.2.2.2.2.2.2.2.2.2.2.2), s2, r2, _, e5, e6, .inl ⟨f2, a, t2, g1, g2, g3, ⟨ha1, ha'⟩, ⟨g5.1, (u 0 (by omega)).trans g5.2⟩, ⟨g6.1, (u 1 (by omega)).trans g6.2⟩, ⟨g7.1, (u 2 (by omega)).trans g7.2⟩, g8, ?_, ?_, ⟨rfl, by rw [upd, if_pos rfl]⟩, fun p hp => ?_, fun o ho => ?_⟩⟩
    · obtain ⟨a, a1, a2, a3⟩ := g9
      exact ⟨a, a1, a2, (u 3 (by omega)).trans a3⟩
    · obtain ⟨a, a1, a2, a3⟩ := g10
      exact ⟨a, a1, a2, (u 4 (by omega)).trans a3⟩
    · exact (g12 p hp).mono rfl rfl rfl rfl rfl rfl rfl (fun j => rfl)
    · exact (g13 o ho).mono (Nat.le_refl _) (fun p hp => ⟨rfl, rfl⟩) (fun j _ => rfl) (fun j _ => rfl)
  · have hy : ¬ r2.2.1 = 0 := by
      obtain ⟨z1, z2, z3, y, pl, a, hy, ha, rfl, rfl⟩ := hF
      exact hy
    rw [if_neg hy] at e6
    exact ⟨(S.1, S.2.1, S.2.2.1, S.2.2.2.1, S.2.2.2.2.1, 1, S.2.2.2.2.2.2.1, S.2.2.2.2.2.2.2.1, S.2.2.2.2.2.2.2.2.1, S.2.2.2.2.2.2.2.2.2.1, S.2.2.2.2.2.2.2.2.2.2.1, S.2.2.2.2.2.2.2.2.2.2.2.1, S.2.2.2.2.2.2.2.2.2.2.2.2), s2, r2, _, e5, e6, .inr hF⟩

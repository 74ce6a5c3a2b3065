/-! street: a clause, the text -/
theorem six0 : f_X11_six 16 1 14 5 0 0 = some (nI (hvw (wCh 0) (wL 0))) := by decide +kernel
theorem six1 : f_X11_six 18 1 9 14 0 0 = some (nI (hvw (wCh 1) (wL 1))) := by decide +kernel
theorem six2 : f_X11_six 15 18 4 5 18 0 = some (nI (hvw (wCh 2) (wL 2))) := by decide +kernel
theorem six3 : f_X11_six 16 1 3 5 0 0 = some (nI (hvw (wCh 3) (wL 3))) := by decide +kernel
theorem six4 : f_X11_six 8 15 12 4 0 0 = some (nI (hvw (wCh 4) (wL 4))) := by decide +kernel
/-- two words that differ don't stand at one place -/
theorem IsW.ne {n : Nat} {B : Nat → Nat} {f s t : Nat} (h : IsW n B f s) (h2 : wL s ≠ wL t ∨ ∃ j, j < wL s ∧ j < wL t ∧ wCh s j ≠ wCh t j) : ¬ IsW n B f t := by
  intro h3
  rcases h2 with h2 | ⟨j, j1, j2, j3⟩
  · have a := h.1
    have b := h3.1
    omega
  · exact j3 ((h.2 j j1).symm.trans (h3.2 j j2))
theorem t_kind {n : Nat} {B : Nat → Nat} {v fe : Nat → Int32} (hT : Tp n B v fe) {f : Nat} {s : TS} {r : TQ} (h : TR0 n B f s r) :
    ∃ c k : Int32, f_X6_clauseOf s.1 s.2.1 s.2.2.1 v = some c ∧ f_X11_kindHere (nI n) r.1 r.2.1 fe = some (k, nI f) ∧ ((f < tW n B f ∧ ((c = 0 ∧ k = 0) ∨ (c = 1 ∧ k = 2) ∨ (c = 2 ∧ k = 1) ∨ (c = 3 ∧ k = 3) ∨ (c = 4 ∧ k = 4))) ∨ (c = -1 ∧ k = -1)) := by
  have hw : ∀ j, j < 22 → IsW n B f j → f < tW n B f := fun j hj h1 => by
    have := w_len j hj
    have := h1.1
    omega
  have z : r.2.1 = 0 := h.ft.2.2.1
  rw [f_X6_clauseOf, f_X11_kindHere]
  rcases t_word hT h (s := 0) (by omega) six0 with ⟨i0, c0, k0⟩ | ⟨i0, c0, k0⟩
  · rw [c0, k0, Option.bind_some, Option.bind_some, if_neg n1z, if_neg n1z]
    exact ⟨0, 0, rfl, rfl, .inl ⟨hw 0 (by omega) i0, .inl ⟨rfl, rfl⟩⟩⟩
  · rw [c0, k0, Option.bind_some, Option.bind_some, if_pos rfl, if_pos rfl, z]
    rcases t_word hT h.at (s := 1) (by omega) six1 with ⟨i1, c1, k1⟩ | ⟨i1, c1, k1⟩
    · have n2 : ¬ IsW n B f 2 := i1.ne (.inl (by decide))
      rcases t_word hT h.at (s := 2) (by omega) six2 with ⟨i2, c2, k2⟩ | ⟨i2, c2, k2⟩
      · exact absurd i2 n2
      · rw [c1, Option.bind_some, if_neg n1z, show f_X11_isWord (nI n) (nI f) 0 fe 15 18 4 5 18 0 = _ from k2, Option.bind_some, if_pos rfl, show f_X11_isWord (nI n) (nI f) 0 fe 18 1 9 14 0 0 = _ from k1, Option.bind_some, if_neg n1z]
        exact ⟨1, 2, rfl, rfl, .inl ⟨hw 1 (by omega) i1, .inr (.inl ⟨rfl, rfl⟩)⟩⟩
    · rw [c1, Option.bind_some, if_pos rfl]
      rcases t_word hT h.at (s := 2) (by omega) six2 with ⟨i2, c2, k2⟩ | ⟨i2, c2, k2⟩
      · rw [c2, Option.bind_some, if_neg n1z, show f_X11_isWord (nI n) (nI f) 0 fe 15 18 4 5 18 0 = _ from k2, Option.bind_some, if_neg n1z]
        exact ⟨2, 1, rfl, rfl, .inl ⟨hw 2 (by omega) i2, .inr (.inr (.inl ⟨rfl, rfl⟩))⟩⟩
      · rw [c2, Option.bind_some, if_pos rfl, show f_X11_isWord (nI n) (nI f) 0 fe 15 18 4 5 18 0 = _ from k2, Option.bind_some, if_pos rfl, show f_X11_isWord (nI n) (nI f) 0 fe 18 1 9 14 0 0 = _ from k1, Option.bind_some, if_pos rfl]
        rcases t_word hT h.at (s := 3) (by omega) six3 with ⟨i3, c3, k3⟩ | ⟨i3, c3, k3⟩
        · rw [c3, Option.bind_some, if_neg n1z, show f_X11_isWord (nI n) (nI f) 0 fe 16 1 3 5 0 0 = _ from k3, Option.bind_some, if_neg n1z]
          exact ⟨3, 3, rfl, rfl, .inl ⟨hw 3 (by omega) i3, .inr (.inr (.inr (.inl ⟨rfl, rfl⟩)))⟩⟩
        · rw [c3, Option.bind_some, if_pos rfl, show f_X11_isWord (nI n) (nI f) 0 fe 16 1 3 5 0 0 = _ from k3, Option.bind_some, if_pos rfl]
          rcases t_word hT h.at (s := 4) (by omega) six4 with ⟨i4, c4, k4⟩ | ⟨i4, c4, k4⟩
          · rw [c4, Option.bind_some, if_neg n1z, show f_X11_isWord (nI n) (nI f) 0 fe 8 15 12 4 0 0 = _ from k4, Option.bind_some, if_neg n1z]
            exact ⟨4, 4, rfl, rfl, .inl ⟨hw 4 (by omega) i4, .inr (.inr (.inr (.inr ⟨rfl, rfl⟩)))⟩⟩
          · rw [c4, Option.bind_some, if_pos rfl, show f_X11_isWord (nI n) (nI f) 0 fe 8 15 12 4 0 0 = _ from k4, Option.bind_some, if_pos rfl]
            exact ⟨-1, -1, rfl, rfl, .inr ⟨rfl, rfl⟩⟩
/-- the end of a clause -/
theorem st_tail {n : Nat} {B : Nat → Nat} {v fe : Nat → Int32} (hT : Tp n B v fe) {f : Nat} {s : TS} {r : TQ} (h : TR0 n B f s r ∨ TRf n s r) (X : CX6) : ∃ s' r', (f_X7_takeSign (nI n) s.1 s.2.1 s.2.2.1 s.2.2.2.1 s.2.2.2.2.1 s.2.2.2.2.2 v 59).bind (fun q53 => some (X.1, X.2.1, X.2.2.1, X.2.2.2.1, X.2.2.2.2.1, X.2.2.2.2.2.1, X.2.2.2.2.2.2.1, X.2.2.2.2.2.2.2.1, X.2.2.2.2.2.2.2.2.1, X.2.2.2.2.2.2.2.2.2.1, X.2.2.2.2.2.2.2.2.2.2.1, X.2.2.2.2.2.2.2.2.2.2.2.1, X.2.2.2.2.2.2.2.2.2.2.2.2, q53.1, q53.2.1, q53.2.2.1, q53.2.2.2.1, q53.2.2.2.2.1, q53.2.2.2.2.2)) = some (X.1, X.2.1, X.2.2.1, X.2.2.2.1, X.2.2.2.2.1, X.2.2.2.2.2.1, X.2.2.2.2.2.2.1, X.2.2.2.2.2.2.2.1, X.2.2.2.2.2.2.2.2.1, X.2.2.2.2.2.2.2.2.2.1, X.2.2.2.2.2.2.2.2.2.2.1, X.2.2.2.2.2.2.2.2.2.2.2.1, X.2.2.2.2.2.2.2.2.2.2.2.2, s') ∧ f_X11_sign (nI n) r.1 r.2.1 r.2.2 fe 59 = some r' ∧ ((∃ f', TR0 n B f' s' r') ∨ TRf n s' r') ∧ (TRf n s r → TRf n s' r') := by
  rcases h with h | h
  · obtain ⟨s', r', e1, e2, hc⟩ := t_sign hT h (c := 59) (c' := 59) rfl sg59
    refine ⟨s', r', by rw [e1, Option.bind_some], e2, ?_, fun hF => absurd h.ft.2.2.1 hF.ne⟩
    rcases hc with ⟨-, -, h2⟩ | ⟨-, h2⟩
    · exact .inl ⟨_, h2⟩
    · exact .inr h2
  · obtain ⟨z1, z2, z3, y, pl, a, hy, ha, rfl, rfl⟩ := h
    have hF : TRf n (4, z1, z2, z3, y, pl) (nI a, y, pl) := ⟨z1, z2, z3, y, pl, a, hy, ha, rfl, rfl⟩
    exact ⟨(4, z1, z2, z3, y, pl), (nI a, y, pl), by rw [tf_sign hy, Option.bind_some], tf_rsign hy, .inr hF, fun _ => hF⟩
theorem r_402 {n : Nat} {fe : Nat → Int32} {a y pl cl : Int32} {to : Nat → Int32} {pa ra od : Nat → Nat → Int32} {k : Nat} {k' : Int32} (hk : k' = nI k) (h3 : k < 3) : f_X11_clause_b402 (nI n) fe a y pl cl to pa ra od k' = (f_X11_sign (nI n) a y pl fe 59).bind (fun q => some (q.1, q.2.1, q.2.2, cl, upd to k (to k + (if y = 0 then 1 else 0)), pa, ra, od)) := by
  have hck : ∀ {R : Type} (z : Option R), ck (nI k) 6 z = z := fun z => pu_ck (by omega) (by omega)
  have hcl : (nI k).toNatClampNeg = k := nI_clamp (by omega)
  rw [f_X11_clause_b402, hk, pl3, if_neg (nI_ge h3 (by omega)), hck, hcl]
  by_cases e : y = 0
  · rw [if_pos e, if_pos e, f_X11_clause_b426, hck, hcl, f_X11_clause_b428]
  · rw [if_neg e, if_neg e, f_X11_clause_b426, hck, hcl, f_X11_clause_b428]
theorem r_402b {n : Nat} {fe : Nat → Int32} {a y pl cl : Int32} {to : Nat → Int32} {pa ra od : Nat → Nat → Int32} {k' : Int32} (hk : 3 ≤ k') : f_X11_clause_b402 (nI n) fe a y pl cl to pa ra od k' = (f_X11_sign (nI n) a y pl fe 59).bind (fun q => some (q.1, q.2.1, q.2.2, cl, to, pa, ra, od)) := by
  rw [f_X11_clause_b402, if_pos hk, f_X11_clause_b428]
theorem p_full {np nr no : Nat} (c : Int32) (hc : c = 0 ∨ c = 1 ∨ c = 2 ∨ c = 3 ∨ c = 4) (h0 : np ≤ 5) (h1 : nr ≤ 12) (h2 : no ≤ 12) : f_X6_isFull (nI np) (nI nr) (nI no) c = some (if (c = 0 ∧ np = 5) ∨ (c = 1 ∧ nr = 12) ∨ (c = 2 ∧ no = 12) then 1 else 0) := by
  rcases hc with rfl | rfl | rfl | rfl | rfl
  · rw [f_X6_isFull, if_pos rfl, pl5]
    by_cases e : np = 5
    · rw [if_pos (nI_le (by omega) (by omega)), if_pos (.inl ⟨rfl, e⟩)]
    · rw [if_neg (nI_ge (by omega) (by omega)), f_X6_isFull_b12, if_neg (by decide), f_X6_isFull_b26, if_neg (by decide), if_neg (fun h => h.elim (fun h => e h.2) (fun h => h.elim (fun h => absurd h.1 (by decide)) (fun h => absurd h.1 (by decide))))]
  · rw [f_X6_isFull, if_neg (by decide), f_X6_isFull_b12, if_pos rfl, pl12]
    by_cases e : nr = 12
    · rw [if_pos (nI_le (by omega) (by omega)), if_pos (.inr (.inl ⟨rfl, e⟩))]
    · rw [if_neg (nI_ge (by omega) (by omega)), f_X6_isFull_b26, if_neg (by decide), if_neg (fun h => h.elim (fun h => absurd h.1 (by decide)) (fun h => h.elim (fun h => e h.2) (fun h => absurd h.1 (by decide))))]
  · rw [f_X6_isFull, if_neg (by decide), f_X6_isFull_b12, if_neg (by decide), f_X6_isFull_b26, if_pos rfl, pl12]
    by_cases e : no = 12
    · rw [if_neg (nI_nlt (by omega) (by omega)), if_pos (.inr (.inr ⟨rfl, e⟩))]
    · rw [if_pos (nI_lt (by omega) (by omega)), if_neg (fun h => h.elim (fun h => absurd h.1 (by decide)) (fun h => h.elim (fun h => absurd h.1 (by decide)) (fun h => e h.2)))]
  · rw [f_X6_isFull, if_neg (by decide), f_X6_isFull_b12, if_neg (by decide), f_X6_isFull_b26, if_neg (by decide), if_neg (fun h => h.elim (fun h => absurd h.1 (by decide)) (fun h => h.elim (fun h => absurd h.1 (by decide)) (fun h => absurd h.1 (by decide))))]
  · rw [f_X6_isFull, if_neg (by decide), f_X6_isFull_b12, if_neg (by decide), f_X6_isFull_b26, if_neg (by decide), if_neg (fun h => h.elim (fun h => absurd h.1 (by decide)) (fun h => h.elim (fun h => absurd h.1 (by decide)) (fun h => absurd h.1 (by decide))))]
/-- one clause, class and reference -/
theorem st_clause {n : Nat} {B : Nat → Nat} {v fe : Nat → Int32} (hT : Tp n B v fe) {f cl : Nat} {s : TS} (h : TR0 n B f s (nI f, 0, -1)) (hcl : cl ≤ 60) {np no nr hd : Nat} {W H : Nat → Nat} {S : CX6} {to : Nat → Int32} {pa ra od : Nat → Nat → Int32} (hS : PzSn np no nr hd W H S to pa ra od) :
    ∃ X s' r' cl' to' pa' ra' od', f_X6_readClause S.1 S.2.1 S.2.2.1 S.2.2.2.1 S.2.2.2.2.1 S.2.2.2.2.2.1 S.2.2.2.2.2.2.1 S.2.2.2.2.2.2.2.1 S.2.2.2.2.2.2.2.2.1 S.2.2.2.2.2.2.2.2.2.1 S.2.2.2.2.2.2.2.2.2.2.1 S.2.2.2.2.2.2.2.2.2.2.2.1 S.2.2.2.2.2.2.2.2.2.2.2.2 (nI n) s.1 s.2.1 s.2.2.1 s.2.2.2.1 s.2.2.2.2.1 s.2.2.2.2.2 v (nI cl) = some (X.1, X.2.1, X.2.2.1, X.2.2.2.1, X.2.2.2.2.1, X.2.2.2.2.2.1, X.2.2.2.2.2.2.1, X.2.2.2.2.2.2.2.1, X.2.2.2.2.2.2.2.2.1, X.2.2.2.2.2.2.2.2.2.1, X.2.2.2.2.2.2.2.2.2.2.1, X.2.2.2.2.2.2.2.2.2.2.2.1, X.2.2.2.2.2.2.2.2.2.2.2.2, s') ∧ f_X11_clause (nI n) (nI f) 0 (-1) (nI cl) fe to pa ra od = some (r'.1, r'.2.1, r'.2.2, cl', to', pa', ra', od') ∧ ((∃ f' np' no' nr' hd' W' H', cl < 60 ∧ cl' = nI (cl + 1) ∧ TR0 n B f' s' r' ∧ PzSn np' no' nr' hd' W' H' X to' pa' ra' od') ∨ TRf n s' r') := by
  have hn := hT.1
  have hf := h.1
  obtain ⟨g1, g2, g3, g4, g5, g6, g7, g8, g9, g10, g11, g12, g13⟩ := id hS
  obtain ⟨c, k, e1, e2, hk⟩ := t_kind hT h
  have hs2 : s.2.1 = nI f := by rw [h.2.1]
  have hwr : ∀ e : Int32, f_X7_wrong s.1 s.2.1 s.2.2.2.2.1 s.2.2.2.2.2 e = some (4, e, nI f) := fun e => by rw [f_X7_wrong, if_pos h.ft.1, hs2]
  have hbad : ∀ e : Int32, e ≠ 0 → TRf n (4, s.2.1, s.2.2.1, s.2.2.2.1, e, nI f) (nI f, e, nI f) := fun e he => ⟨s.2.1, s.2.2.1, s.2.2.2.1, e, nI f, f, he, hf, rfl, rfl⟩
  have h86 : ∀ (e k : Int32), e ≠ 0 → f_X11_clause_b86 (nI n) fe (nI f) e (nI f) (nI cl) to pa ra od k = some (nI f, e, nI f, nI cl, to, pa, ra, od) := fun e k he => by rw [f_X11_clause_b86, if_neg he]
  have h77 : ∀ (k : Int32), f_X11_clause_b77 (nI n) fe (nI f) 0 (-1) (nI cl) to pa ra od k = some (nI f, 3, nI f, nI cl, to, pa, ra, od) := fun k => by rw [f_X11_clause_b77, f_X11_wrong, if_pos rfl, Option.bind_some, h86 3 k (by decide)]
  have h32 : f_X6_readClause_b32 (nI n) v S.1 S.2.1 S.2.2.1 S.2.2.2.1 S.2.2.2.2.1 S.2.2.2.2.2.1 S.2.2.2.2.2.2.1 S.2.2.2.2.2.2.2.1 S.2.2.2.2.2.2.2.2.1 S.2.2.2.2.2.2.2.2.2.1 S.2.2.2.2.2.2.2.2.2.2.1 S.2.2.2.2.2.2.2.2.2.2.2.1 S.2.2.2.2.2.2.2.2.2.2.2.2 s.1 s.2.1 s.2.2.1 s.2.2.2.1 s.2.2.2.2.1 s.2.2.2.2.2 = some (S.1, S.2.1, S.2.2.1, S.2.2.2.1, S.2.2.2.2.1, S.2.2.2.2.2.1, S.2.2.2.2.2.2.1, S.2.2.2.2.2.2.2.1, S.2.2.2.2.2.2.2.2.1, S.2.2.2.2.2.2.2.2.2.1, S.2.2.2.2.2.2.2.2.2.2.1, S.2.2.2.2.2.2.2.2.2.2.2.1, S.2.2.2.2.2.2.2.2.2.2.2.2, 4, s.2.1, s.2.2.1, s.2.2.2.1, 3, nI f) := by rw [f_X6_readClause_b32, hwr, Option.bind_some]
  rcases hk with ⟨hw, hk⟩ | ⟨rfl, rfl⟩
  · have hc : c = 0 ∨ c = 1 ∨ c = 2 ∨ c = 3 ∨ c = 4 := by
      rcases hk with ⟨h1, -⟩ | ⟨h1, -⟩ | ⟨h1, -⟩ | ⟨h1, -⟩ | ⟨h1, -⟩
      · exact .inl h1
      · exact .inr (.inl h1)
      · exact .inr (.inr (.inl h1))
      · exact .inr (.inr (.inr (.inl h1)))
      · exact .inr (.inr (.inr (.inr h1)))
    have hkk : k = 0 ∨ k = 1 ∨ k = 2 ∨ k = 3 ∨ k = 4 := by
      rcases hk with ⟨-, h1⟩ | ⟨-, h1⟩ | ⟨-, h1⟩ | ⟨-, h1⟩ | ⟨-, h1⟩
      · exact .inl h1
      · exact .inr (.inr (.inl h1))
      · exact .inr (.inl h1)
      · exact .inr (.inr (.inr (.inl h1)))
      · exact .inr (.inr (.inr (.inr h1)))
    have hcn : ¬ c = -1 := by
      rcases hc with rfl | rfl | rfl | rfl | rfl <;> decide
    have hkn : ¬ k = -1 := by
      rcases hkk with rfl | rfl | rfl | rfl | rfl <;> decide
    by_cases e60 : cl = 60
    · refine ⟨S, (4, s.2.1, s.2.2.1, s.2.2.2.1, 3, nI f), (nI f, 3, nI f), nI cl, to, pa, ra, od, ?_, ?_, .inr (hbad 3 (by decide))⟩
      · rw [f_X6_readClause, e1, Option.bind_some, if_neg hcn, if_pos (show (60 : Int32) ≤ nI cl by rw [e60]; decide), h32]
      · rw [f_X11_clause, e2, Option.bind_some, if_neg hkn, if_pos (show nI cl = 60 by rw [e60]; rfl)]
        exact h77 k
    · have hc1 : f_X6_readClause S.1 S.2.1 S.2.2.1 S.2.2.2.1 S.2.2.2.2.1 S.2.2.2.2.2.1 S.2.2.2.2.2.2.1 S.2.2.2.2.2.2.2.1 S.2.2.2.2.2.2.2.2.1 S.2.2.2.2.2.2.2.2.2.1 S.2.2.2.2.2.2.2.2.2.2.1 S.2.2.2.2.2.2.2.2.2.2.2.1 S.2.2.2.2.2.2.2.2.2.2.2.2 (nI n) s.1 s.2.1 s.2.2.1 s.2.2.2.1 s.2.2.2.2.1 s.2.2.2.2.2 v (nI cl) = (f_X6_isFull (nI np) (nI nr) (nI no) c).bind (fun q26 => if q26 = 0 then ((f_X7_step (nI n) s.1 s.2.1 s.2.2.1 s.2.2.2.1 s.2.2.2.2.1 v).bind fun q41 => (f_X6_readNumbers S.1 S.2.1 S.2.2.1 S.2.2.2.1 S.2.2.2.2.1 S.2.2.2.2.2.1 S.2.2.2.2.2.2.1 S.2.2.2.2.2.2.2.1 S.2.2.2.2.2.2.2.2.1 S.2.2.2.2.2.2.2.2.2.1 S.2.2.2.2.2.2.2.2.2.2.1 S.2.2.2.2.2.2.2.2.2.2.2.1 S.2.2.2.2.2.2.2.2.2.2.2.2 (nI n) q41.1 q41.2.1 q41.2.2.1 q41.2.2.2 s.2.2.2.2.1 s.2.2.2.2.2 v c).bind fun q47 => (f_X7_takeSign (nI n) q47.2.2.2.2.2.2.2.2.2.2.2.2.2.1 q47.2.2.2.2.2.2.2.2.2.2.2.2.2.2.1 q47.2.2.2.2.2.2.2.2.2.2.2.2.2.2.2.1 q47.2.2.2.2.2.2.2.2.2.2.2.2.2.2.2.2.1 q47.2.2.2.2.2.2.2.2.2.2.2.2.2.2.2.2.2.1 q47.2.2.2.2.2.2.2.2.2.2.2.2.2.2.2.2.2.2 v (59)).bind fun q53 => some (q47.1, q47.2.1, q47.2.2.1, q47.2.2.2.1, q47.2.2.2.2.1, q47.2.2.2.2.2.1, q47.2.2.2.2.2.2.1, q47.2.2.2.2.2.2.2.1, q47.2.2.2.2.2.2.2.2.1, q47.2.2.2.2.2.2.2.2.2.1, q47.2.2.2.2.2.2.2.2.2.2.1, q47.2.2.2.2.2.2.2.2.2.2.2.1, q47.2.2.2.2.2.2.2.2.2.2.2.2.1, q53.1, q53.2.1, q53.2.2.1, q53.2.2.2.1, q53.2.2.2.2.1, q53.2.2.2.2.2)) else (f_X6_readClause_b32 (nI n) v S.1 S.2.1 S.2.2.1 S.2.2.2.1 S.2.2.2.2.1 S.2.2.2.2.2.1 S.2.2.2.2.2.2.1 S.2.2.2.2.2.2.2.1 S.2.2.2.2.2.2.2.2.1 S.2.2.2.2.2.2.2.2.2.1 S.2.2.2.2.2.2.2.2.2.2.1 S.2.2.2.2.2.2.2.2.2.2.2.1 S.2.2.2.2.2.2.2.2.2.2.2.2 s.1 s.2.1 s.2.2.1 s.2.2.2.1 s.2.2.2.2.1 s.2.2.2.2.2)) := by
        rw [f_X6_readClause, e1, Option.bind_some, if_neg hcn, if_neg (show ¬ (60 : Int32) ≤ nI cl by rw [pl60]; exact nI_ge (by omega) (by omega)), ← g5.1, ← g7.1, ← g6.1]
      rw [hc1, p_full c hc g1 g3 g2, Option.bind_some]
      have hr1 : f_X11_clause (nI n) (nI f) 0 (-1) (nI cl) fe to pa ra od = (if (k = 0 ∧ np = 5) ∨ (k = 2 ∧ nr = 12) ∨ (k = 1 ∧ no = 12) then some (nI f, 3, nI f, nI cl, to, pa, ra, od) else f_X11_clause_b86 (nI n) fe (nI f) 0 (-1) (nI cl) to pa ra od k) := by
        have t0 : to ((0 : Int32).toNatClampNeg) = nI np := g5.2
        have t1 : to ((1 : Int32).toNatClampNeg) = nI no := g6.2
        have t2 : to ((2 : Int32).toNatClampNeg) = nI nr := g7.2
        rw [f_X11_clause, e2, Option.bind_some, if_neg hkn, if_neg (show ¬ nI cl = 60 by rw [pl60, nI_eq (by omega) (by omega)]; exact e60)]
        show (if k = 0 then (if to ((0 : Int32).toNatClampNeg) = 5 then f_X11_clause_b77 (nI n) fe (nI f) 0 (-1) (nI cl) to pa ra od k else f_X11_clause_b45 (nI n) fe (nI f) 0 (-1) (nI cl) to pa ra od k) else f_X11_clause_b45 (nI n) fe (nI f) 0 (-1) (nI cl) to pa ra od k) = _
        rw [f_X11_clause_b45, f_X11_clause_b61, h77, t0, t1, t2, pl5, pl12]
        rcases hkk with rfl | rfl | rfl | rfl | rfl
        · rw [if_pos rfl]
          by_cases e : np = 5
          · rw [if_pos (show nI np = nI 5 by rw [e]), if_pos (.inl ⟨rfl, e⟩)]
          · rw [if_neg (show ¬ nI np = nI 5 by rw [nI_eq (by omega) (by omega)]; exact e), if_neg (by decide), if_neg (by decide), if_neg (fun h => h.elim (fun h => e h.2) (fun h => h.elim (fun h => absurd h.1 (by decide)) (fun h => absurd h.1 (by decide))))]
        · rw [if_neg (by decide), if_pos rfl]
          by_cases e : no = 12
          · rw [if_pos (show nI no = nI 12 by rw [e]), if_pos (.inr (.inr ⟨rfl, e⟩))]
          · rw [if_neg (show ¬ nI no = nI 12 by rw [nI_eq (by omega) (by omega)]; exact e), if_neg (by decide), if_neg (fun h => h.elim (fun h => absurd h.1 (by decide)) (fun h => h.elim (fun h => absurd h.1 (by decide)) (fun h => e h.2)))]
        · rw [if_neg (by decide), if_neg (by decide), if_pos rfl]
          by_cases e : nr = 12
          · rw [if_pos (show nI nr = nI 12 by rw [e]), if_pos (.inr (.inl ⟨rfl, e⟩))]
          · rw [if_neg (show ¬ nI nr = nI 12 by rw [nI_eq (by omega) (by omega)]; exact e), if_neg (fun h => h.elim (fun h => absurd h.1 (by decide)) (fun h => h.elim (fun h => e h.2) (fun h => absurd h.1 (by decide))))]
        · rw [if_neg (by decide), if_neg (by decide), if_neg (by decide), if_neg (fun h => h.elim (fun h => absurd h.1 (by decide)) (fun h => h.elim (fun h => absurd h.1 (by decide)) (fun h => absurd h.1 (by decide))))]
        · rw [if_neg (by decide), if_neg (by decide), if_neg (by decide), if_neg (fun h => h.elim (fun h => absurd h.1 (by decide)) (fun h => h.elim (fun h => absurd h.1 (by decide)) (fun h => absurd h.1 (by decide))))]
      rw [hr1]
      have hsk := r_skip hT hf
      have hgo := TR0.go (B := B) (tW_le B hf)
      have hstep := t_stepW hT h hw
      by_cases efull : (c = 0 ∧ np = 5) ∨ (c = 1 ∧ nr = 12) ∨ (c = 2 ∧ no = 12)
      · have ek : (k = 0 ∧ np = 5) ∨ (k = 2 ∧ nr = 12) ∨ (k = 1 ∧ no = 12) := by
          rcases hk with ⟨rfl, rfl⟩ | ⟨rfl, rfl⟩ | ⟨rfl, rfl⟩ | ⟨rfl, rfl⟩ | ⟨rfl, rfl⟩ <;> simp_all
        rw [if_pos efull, if_neg (by decide), if_pos ek, h32]
        exact ⟨S, (4, s.2.1, s.2.2.1, s.2.2.2.1, 3, nI f), (nI f, 3, nI f), nI cl, to, pa, ra, od, rfl, rfl, .inr (hbad 3 (by decide))⟩
      · have ek : ¬ ((k = 0 ∧ np = 5) ∨ (k = 2 ∧ nr = 12) ∨ (k = 1 ∧ no = 12)) := by
          rcases hk with ⟨rfl, rfl⟩ | ⟨rfl, rfl⟩ | ⟨rfl, rfl⟩ | ⟨rfl, rfl⟩ | ⟨rfl, rfl⟩ <;> simp_all
        rw [if_neg efull, if_pos rfl, if_neg ek, hstep, Option.bind_some, h.ft.1, h.ft.2.1]
        have hcl1 : nI cl + 1 = nI (cl + 1) := nI_1 cl
        rcases hk with ⟨rfl, rfl⟩ | ⟨rfl, rfl⟩ | ⟨rfl, rfl⟩ | ⟨rfl, rfl⟩ | ⟨rfl, rfl⟩
        · have hnp : np < 5 := by
            have : np ≠ 5 := fun e => efull (.inl ⟨rfl, e⟩)
            omega
          obtain ⟨X, s2, r2, pa2, a1, a2, a3⟩ := sn_pane hT hgo hsk hS hnp (nI cl)
          rw [show f_X6_readNumbers S.1 S.2.1 S.2.2.1 S.2.2.2.1 S.2.2.2.2.1 S.2.2.2.2.2.1 S.2.2.2.2.2.2.1 S.2.2.2.2.2.2.2.1 S.2.2.2.2.2.2.2.2.1 S.2.2.2.2.2.2.2.2.2.1 S.2.2.2.2.2.2.2.2.2.2.1 S.2.2.2.2.2.2.2.2.2.2.2.1 S.2.2.2.2.2.2.2.2.2.2.2.2 (nI n) (nI (tK n B (tF n B (tW n B f)))) (nI (tF n B (tW n B f))) (nI (tT n B (tF n B (tW n B f)))) (nI (tV n B (tF n B (tW n B f)))) 0 (-1) v 0 = _ from a1, Option.bind_some, a2, r_402 (k := 0) (k' := 0) rfl (by omega)]
          rcases a3 with ⟨f2, W', H', t1, hS'⟩ | hF
          · obtain ⟨s', r', b1, b2, b3, -⟩ := st_tail hT (.inl t1) X
            rw [b2, Option.bind_some, t1.ft.2.2.1, if_pos rfl, g5.2, hcl1, nI_1]
            refine ⟨X, s', r', _, _, _, _, _, b1, rfl, ?_⟩
            rcases b3 with ⟨f', b3⟩ | b3
            · exact .inl ⟨f', np + 1, no, nr, hd, W', H', by omega, rfl, b3, hS'⟩
            · exact .inr b3
          · obtain ⟨s', r', b1, b2, -, b3⟩ := st_tail (f := 0) hT (.inr hF) X
            rw [b2, Option.bind_some]
            exact ⟨X, s', r', _, _, _, _, _, b1, rfl, .inr (b3 hF)⟩
        · have hnr : nr < 12 := by
            have : nr ≠ 12 := fun e => efull (.inr (.inl ⟨rfl, e⟩))
            omega
          obtain ⟨X, s2, r2, ra2, a1, a2, a3⟩ := sn_rain hT hgo hsk hS hnr (nI cl)
          rw [show f_X6_readNumbers S.1 S.2.1 S.2.2.1 S.2.2.2.1 S.2.2.2.2.1 S.2.2.2.2.2.1 S.2.2.2.2.2.2.1 S.2.2.2.2.2.2.2.1 S.2.2.2.2.2.2.2.2.1 S.2.2.2.2.2.2.2.2.2.1 S.2.2.2.2.2.2.2.2.2.2.1 S.2.2.2.2.2.2.2.2.2.2.2.1 S.2.2.2.2.2.2.2.2.2.2.2.2 (nI n) (nI (tK n B (tF n B (tW n B f)))) (nI (tF n B (tW n B f))) (nI (tT n B (tF n B (tW n B f)))) (nI (tV n B (tF n B (tW n B f)))) 0 (-1) v 1 = _ from a1, Option.bind_some, a2, r_402 (k := 2) (k' := 2) rfl (by omega)]
          rcases a3 with ⟨f2, t1, hS'⟩ | hF
          · obtain ⟨s', r', b1, b2, b3, -⟩ := st_tail hT (.inl t1) X
            rw [b2, Option.bind_some, t1.ft.2.2.1, if_pos rfl, g7.2, hcl1, nI_1]
            refine ⟨X, s', r', _, _, _, _, _, b1, rfl, ?_⟩
            rcases b3 with ⟨f', b3⟩ | b3
            · exact .inl ⟨f', np, no, nr + 1, hd, W, H, by omega, rfl, b3, hS'⟩
            · exact .inr b3
          · obtain ⟨s', r', b1, b2, -, b3⟩ := st_tail (f := 0) hT (.inr hF) X
            rw [b2, Option.bind_some]
            exact ⟨X, s', r', _, _, _, _, _, b1, rfl, .inr (b3 hF)⟩
        · have hno : no < 12 := by
            have : no ≠ 12 := fun e => efull (.inr (.inr ⟨rfl, e⟩))
            omega
          obtain ⟨X, s2, r2, od2, a1, a2, a3⟩ := sn_order hT hgo hsk hS hno (nI cl)
          rw [show f_X6_readNumbers S.1 S.2.1 S.2.2.1 S.2.2.2.1 S.2.2.2.2.1 S.2.2.2.2.2.1 S.2.2.2.2.2.2.1 S.2.2.2.2.2.2.2.1 S.2.2.2.2.2.2.2.2.1 S.2.2.2.2.2.2.2.2.2.1 S.2.2.2.2.2.2.2.2.2.2.1 S.2.2.2.2.2.2.2.2.2.2.2.1 S.2.2.2.2.2.2.2.2.2.2.2.2 (nI n) (nI (tK n B (tF n B (tW n B f)))) (nI (tF n B (tW n B f))) (nI (tT n B (tF n B (tW n B f)))) (nI (tV n B (tF n B (tW n B f)))) 0 (-1) v 2 = _ from a1, Option.bind_some, a2, r_402 (k := 1) (k' := 1) rfl (by omega)]
          rcases a3 with ⟨f2, t1, hS'⟩ | hF
          · obtain ⟨s', r', b1, b2, b3, -⟩ := st_tail hT (.inl t1) X
            rw [b2, Option.bind_some, t1.ft.2.2.1, if_pos rfl, g6.2, hcl1, nI_1]
            refine ⟨X, s', r', _, _, _, _, _, b1, rfl, ?_⟩
            rcases b3 with ⟨f', b3⟩ | b3
            · exact .inl ⟨f', np, no + 1, nr, hd, W, H, by omega, rfl, b3, hS'⟩
            · exact .inr b3
          · obtain ⟨s', r', b1, b2, -, b3⟩ := st_tail (f := 0) hT (.inr hF) X
            rw [b2, Option.bind_some]
            exact ⟨X, s', r', _, _, _, _, _, b1, rfl, .inr (b3 hF)⟩
        · obtain ⟨X, s2, r2, to2, a1, a2, a3⟩ := sn_pace hT hgo hsk hS (nI cl)
          rw [show f_X6_readNumbers S.1 S.2.1 S.2.2.1 S.2.2.2.1 S.2.2.2.2.1 S.2.2.2.2.2.1 S.2.2.2.2.2.2.1 S.2.2.2.2.2.2.2.1 S.2.2.2.2.2.2.2.2.1 S.2.2.2.2.2.2.2.2.2.1 S.2.2.2.2.2.2.2.2.2.2.1 S.2.2.2.2.2.2.2.2.2.2.2.1 S.2.2.2.2.2.2.2.2.2.2.2.2 (nI n) (nI (tK n B (tF n B (tW n B f)))) (nI (tF n B (tW n B f))) (nI (tT n B (tF n B (tW n B f)))) (nI (tV n B (tF n B (tW n B f)))) 0 (-1) v 3 = _ from a1, Option.bind_some, a2, r_402b (by decide)]
          rcases a3 with ⟨f2, t1, hS'⟩ | hF
          · obtain ⟨s', r', b1, b2, b3, -⟩ := st_tail hT (.inl t1) X
            rw [b2, Option.bind_some, hcl1]
            refine ⟨X, s', r', _, _, _, _, _, b1, rfl, ?_⟩
            rcases b3 with ⟨f', b3⟩ | b3
            · exact .inl ⟨f', np, no, nr, hd, W, H, by omega, rfl, b3, hS'⟩
            · exact .inr b3
          · obtain ⟨s', r', b1, b2, -, b3⟩ := st_tail (f := 0) hT (.inr hF) X
            rw [b2, Option.bind_some]
            exact ⟨X, s', r', _, _, _, _, _, b1, rfl, .inr (b3 hF)⟩
        · obtain ⟨X, s2, r2, to2, a1, a2, a3⟩ := sn_hold hT hgo hsk hS (nI cl)
          rw [show f_X6_readNumbers S.1 S.2.1 S.2.2.1 S.2.2.2.1 S.2.2.2.2.1 S.2.2.2.2.2.1 S.2.2.2.2.2.2.1 S.2.2.2.2.2.2.2.1 S.2.2.2.2.2.2.2.2.1 S.2.2.2.2.2.2.2.2.2.1 S.2.2.2.2.2.2.2.2.2.2.1 S.2.2.2.2.2.2.2.2.2.2.2.1 S.2.2.2.2.2.2.2.2.2.2.2.2 (nI n) (nI (tK n B (tF n B (tW n B f)))) (nI (tF n B (tW n B f))) (nI (tT n B (tF n B (tW n B f)))) (nI (tV n B (tF n B (tW n B f)))) 0 (-1) v 4 = _ from a1, Option.bind_some, a2, r_402b (by decide)]
          rcases a3 with ⟨f2, hd', t1, hS'⟩ | hF
          · obtain ⟨s', r', b1, b2, b3, -⟩ := st_tail hT (.inl t1) X
            rw [b2, Option.bind_some, hcl1]
            refine ⟨X, s', r', _, _, _, _, _, b1, rfl, ?_⟩
            rcases b3 with ⟨f', b3⟩ | b3
            · exact .inl ⟨f', np, no, nr, hd', W, H, by omega, rfl, b3, hS'⟩
            · exact .inr b3
          · obtain ⟨s', r', b1, b2, -, b3⟩ := st_tail (f := 0) hT (.inr hF) X
            rw [b2, Option.bind_some]
            exact ⟨X, s', r', _, _, _, _, _, b1, rfl, .inr (b3 hF)⟩
  · refine ⟨S, (4, s.2.1, s.2.2.1, s.2.2.2.1, 1, nI f), (nI f, 1, nI f), nI cl, to, pa, ra, od, ?_, ?_, .inr (hbad 1 (by decide))⟩
    · rw [f_X6_readClause, e1, Option.bind_some, if_pos rfl, hwr, Option.bind_some]
    · rw [f_X11_clause, e2, Option.bind_some, if_pos rfl, f_X11_wrong, if_pos rfl, Option.bind_some]
      exact h86 1 (-1) (by decide)

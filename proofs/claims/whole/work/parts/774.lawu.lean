/-! law: reading, a unit -/
theorem t_tk {n : Nat} {B : Nat → Nat} {v fe : Nat → Int32} (hT : Tp n B v fe) {f : Nat} {st : TS} {r : TQ} (h : TR0 n B f st r) {s : Nat} (hs : s < 22) {c1 c2 c3 c4 c5 c6 : Int32} (h6 : f_X11_six c1 c2 c3 c4 c5 c6 = some (nI (hvw (wCh s) (wL s)))) :
    (IsW n B f s ∧ f_X7_isWord st.1 st.2.1 st.2.2.1 v s = some 1 ∧ f_X11_takes (nI n) r.1 r.2.1 fe c1 c2 c3 c4 c5 c6 = some (1, nI (tW n B f))) ∨ (¬ IsW n B f s ∧ f_X7_isWord st.1 st.2.1 st.2.2.1 v s = some 0 ∧ f_X11_takes (nI n) r.1 r.2.1 fe c1 c2 c3 c4 c5 c6 = some (0, nI f)) := by
  rcases t_word hT h hs h6 with ⟨i, c, k⟩ | ⟨i, c, k⟩
  · refine .inl ⟨i, c, ?_⟩
    rw [f_X11_takes, k, Option.bind_some, if_neg n1z, show f_X11_skipWord (nI n) ((1 : Int32), nI f).2 fe = _ from r_skip hT h.1, Option.bind_some]
    rfl
  · refine .inr ⟨i, c, ?_⟩
    rw [f_X11_takes, k, Option.bind_some, if_pos rfl]
    rfl
theorem six5 : f_X11_six 12 5 1 19 20 0 = some (nI (hvw (wCh 5) (wL 5))) := by decide +kernel
theorem six6 : f_X11_six 13 15 19 20 0 0 = some (nI (hvw (wCh 6) (wL 6))) := by decide +kernel
theorem six7 : f_X11_six 4 1 25 0 0 0 = some (nI (hvw (wCh 7) (wL 7))) := by decide +kernel
theorem six8 : f_X11_six 24 0 0 0 0 0 = some (nI (hvw (wCh 8) (wL 8))) := by decide +kernel
theorem six9 : f_X11_six 25 0 0 0 0 0 = some (nI (hvw (wCh 9) (wL 9))) := by decide +kernel
theorem six10 : f_X11_six 6 12 15 15 18 0 = some (nI (hvw (wCh 10) (wL 10))) := by decide +kernel
theorem six11 : f_X11_six 16 1 14 5 0 0 = some (nI (hvw (wCh 11) (wL 11))) := by decide +kernel
theorem six12 : f_X11_six 4 5 5 16 0 0 = some (nI (hvw (wCh 12) (wL 12))) := by decide +kernel
theorem six13 : f_X11_six 19 5 5 14 0 0 = some (nI (hvw (wCh 13) (wL 13))) := by decide +kernel
theorem six14 : f_X11_six 18 1 9 14 0 0 = some (nI (hvw (wCh 14) (wL 14))) := by decide +kernel
theorem w_ap : ∀ s, s < 7 → 5 ≤ s → ∀ j, j < 8 → wCh s 0 ≠ wCh (7 + j) 0 := by decide
theorem IsW.lt {n : Nat} {B : Nat → Nat} {f s : Nat} (h : IsW n B f s) (hs : s < 22) : f < tW n B f := by
  have := w_len s hs
  have := h.1
  omega
theorem IsW.no {n : Nat} {B : Nat → Nat} {f s j : Nat} (h : IsW n B f s) (h5 : 5 ≤ s) (h7 : s < 7) (hj : j < 8) : ¬ IsW n B f (7 + j) :=
  h.ne (.inr ⟨0, (w_len s (by omega)).1, (w_len (7 + j) (by omega)).1, w_ap s h7 h5 j hj⟩)
theorem t_name {n : Nat} {B : Nat → Nat} {v fe : Nat → Int32} (hT : Tp n B v fe) {f : Nat} {s : TS} {r : TQ} (h : TR0 n B f s r) :
    ∃ c k : Int32, ∃ a, f_X3_nameOf s.1 s.2.1 s.2.2.1 v = some c ∧ f_X11_knownHere (nI n) r.1 r.2.1 fe = some (k, a) ∧ ((∃ j, j < 8 ∧ c = nI j ∧ k = nI j ∧ IsW n B f (7 + j) ∧ a = nI (tW n B f)) ∨ (c = -1 ∧ k = -1 ∧ a = nI f ∧ ∀ j, j < 8 → ¬ IsW n B f (7 + j))) := by
  have z : r.2.1 = 0 := h.ft.2.2.1
  rw [f_X3_nameOf, f_X11_knownHere]
  rcases t_tk hT h (s := 7) (by omega) six7 with ⟨i0, c0, k0⟩ | ⟨i0, c0, k0⟩
  · rw [c0, k0, Option.bind_some, Option.bind_some, if_neg n1z, if_neg n1z]
    exact ⟨0, 0, _, rfl, rfl, .inl ⟨0, by omega, rfl, rfl, i0, rfl⟩⟩
  · rw [c0, k0, Option.bind_some, Option.bind_some, if_pos rfl, if_pos rfl, z]
    rcases t_tk hT h.at (s := 8) (by omega) six8 with ⟨i1, c1, k1⟩ | ⟨i1, c1, k1⟩
    · rw [c1, show f_X11_takes (nI n) (nI f) 0 fe 24 0 0 0 0 0 = _ from k1, Option.bind_some, Option.bind_some, if_neg n1z, if_neg n1z]
      exact ⟨1, 1, _, rfl, rfl, .inl ⟨1, by omega, rfl, rfl, i1, rfl⟩⟩
    · rw [c1, show f_X11_takes (nI n) (nI f) 0 fe 24 0 0 0 0 0 = _ from k1, Option.bind_some, Option.bind_some, if_pos rfl, if_pos rfl]
      rcases t_tk hT h.at (s := 9) (by omega) six9 with ⟨i2, c2, k2⟩ | ⟨i2, c2, k2⟩
      · rw [c2, show f_X11_takes (nI n) (nI f) 0 fe 25 0 0 0 0 0 = _ from k2, Option.bind_some, Option.bind_some, if_neg n1z, if_neg n1z]
        exact ⟨2, 2, _, rfl, rfl, .inl ⟨2, by omega, rfl, rfl, i2, rfl⟩⟩
      · rw [c2, show f_X11_takes (nI n) (nI f) 0 fe 25 0 0 0 0 0 = _ from k2, Option.bind_some, Option.bind_some, if_pos rfl, if_pos rfl]
        rcases t_tk hT h.at (s := 10) (by omega) six10 with ⟨i3, c3, k3⟩ | ⟨i3, c3, k3⟩
        · rw [c3, show f_X11_takes (nI n) (nI f) 0 fe 6 12 15 15 18 0 = _ from k3, Option.bind_some, Option.bind_some, if_neg n1z, if_neg n1z]
          exact ⟨3, 3, _, rfl, rfl, .inl ⟨3, by omega, rfl, rfl, i3, rfl⟩⟩
        · rw [c3, show f_X11_takes (nI n) (nI f) 0 fe 6 12 15 15 18 0 = _ from k3, Option.bind_some, Option.bind_some, if_pos rfl, if_pos rfl]
          rcases t_tk hT h.at (s := 11) (by omega) six11 with ⟨i4, c4, k4⟩ | ⟨i4, c4, k4⟩
          · rw [c4, show f_X11_takes (nI n) (nI f) 0 fe 16 1 14 5 0 0 = _ from k4, Option.bind_some, Option.bind_some, if_neg n1z, if_neg n1z]
            exact ⟨4, 4, _, rfl, rfl, .inl ⟨4, by omega, rfl, rfl, i4, rfl⟩⟩
          · rw [c4, show f_X11_takes (nI n) (nI f) 0 fe 16 1 14 5 0 0 = _ from k4, Option.bind_some, Option.bind_some, if_pos rfl, if_pos rfl]
            rcases t_tk hT h.at (s := 12) (by omega) six12 with ⟨i5, c5, k5⟩ | ⟨i5, c5, k5⟩
            · rw [c5, show f_X11_takes (nI n) (nI f) 0 fe 4 5 5 16 0 0 = _ from k5, Option.bind_some, Option.bind_some, if_neg n1z, if_neg n1z]
              exact ⟨5, 5, _, rfl, rfl, .inl ⟨5, by omega, rfl, rfl, i5, rfl⟩⟩
            · rw [c5, show f_X11_takes (nI n) (nI f) 0 fe 4 5 5 16 0 0 = _ from k5, Option.bind_some, Option.bind_some, if_pos rfl, if_pos rfl]
              rcases t_tk hT h.at (s := 13) (by omega) six13 with ⟨i6, c6, k6⟩ | ⟨i6, c6, k6⟩
              · rw [c6, show f_X11_takes (nI n) (nI f) 0 fe 19 5 5 14 0 0 = _ from k6, Option.bind_some, Option.bind_some, if_neg n1z, if_neg n1z]
                exact ⟨6, 6, _, rfl, rfl, .inl ⟨6, by omega, rfl, rfl, i6, rfl⟩⟩
              · rw [c6, show f_X11_takes (nI n) (nI f) 0 fe 19 5 5 14 0 0 = _ from k6, Option.bind_some, Option.bind_some, if_pos rfl, if_pos rfl]
                rcases t_tk hT h.at (s := 14) (by omega) six14 with ⟨i7, c7, k7⟩ | ⟨i7, c7, k7⟩
                · rw [c7, show f_X11_takes (nI n) (nI f) 0 fe 18 1 9 14 0 0 = _ from k7, Option.bind_some, Option.bind_some, if_neg n1z, if_neg n1z]
                  exact ⟨7, 7, _, rfl, rfl, .inl ⟨7, by omega, rfl, rfl, i7, rfl⟩⟩
                · rw [c7, show f_X11_takes (nI n) (nI f) 0 fe 18 1 9 14 0 0 = _ from k7, Option.bind_some, Option.bind_some, if_pos rfl, if_pos rfl]
                  refine ⟨-1, -1, _, rfl, rfl, .inr ⟨rfl, rfl, rfl, fun j hj => ?_⟩⟩
                  have hj : j = 0 ∨ j = 1 ∨ j = 2 ∨ j = 3 ∨ j = 4 ∨ j = 5 ∨ j = 6 ∨ j = 7 := by omega
                  rcases hj with rfl | rfl | rfl | rfl | rfl | rfl | rfl | rfl
                  · exact i0
                  · exact i1
                  · exact i2
                  · exact i3
                  · exact i4
                  · exact i5
                  · exact i6
                  · exact i7
theorem tf_name {f t : Int32} {v : Nat → Int32} : f_X3_nameOf 4 f t v = some (-1) := by
  rw [f_X3_nameOf, tf_word, Option.bind_some, if_pos rfl, tf_word, Option.bind_some, if_pos rfl, tf_word, Option.bind_some, if_pos rfl, tf_word, Option.bind_some, if_pos rfl, tf_word, Option.bind_some, if_pos rfl, tf_word, Option.bind_some, if_pos rfl, tf_word, Option.bind_some, if_pos rfl, tf_word, Option.bind_some, if_pos rfl]
theorem t_stepW' {n : Nat} {B : Nat → Nat} {v fe : Nat → Int32} (hT : Tp n B v fe) {f : Nat} {s : TS} {r : TQ} (h : TR0 n B f s r) (h1 : f < tW n B f) : TR0 n B (tF n B (tW n B f)) (tk n B (tF n B (tW n B f))) (nI (tW n B f), 0, -1) := TR0.go (tW_le B h.1)
/-- signs, sums and codes behind what was read -/
def LwI (n : Nat) (B : Nat → Nat) (d f k : Nat) (code : Nat → Int32) (g : Nat → Nat → Int32) (len' : Int32) (code' : Nat → Int32) (s' : TS) (r' : TQ) (op' cnt' : Int32) (g' : Nat → Nat → Int32) : Prop :=
  (∃ f', f ≤ f' ∧ TR0 n B f' s' r' ∧ len' = nI k ∧ code' = code ∧ cnt' = nI k ∧ op' = nI d ∧ g' = g) ∨ ((∃ k', k' ≤ 150 ∧ len' = nI k') ∧ TRf n s' r')
theorem LwI.sign {n : Nat} {B : Nat → Nat} {v fe : Nat → Int32} (hT : Tp n B v fe) (hn : n ≤ 150) {d f k : Nat} (hk : k ≤ f) {code : Nat → Int32} {g : Nat → Nat → Int32} {s' : TS} {r' : TQ} (h : TR0 n B f s' r') {c : Nat} {c' : Int32} (hc' : c' = nI c) (hc : sgC c) :
    ∃ s2 r2, f_X7_takeSign (nI n) s'.1 s'.2.1 s'.2.2.1 s'.2.2.2.1 s'.2.2.2.2.1 s'.2.2.2.2.2 v c' = some s2 ∧ f_X11_sign (nI n) r'.1 r'.2.1 r'.2.2 fe c' = some r2 ∧ LwI n B d f k code g (nI k) code s2 r2 (nI d) (nI k) g := by
  obtain ⟨s2, r2, b1, b2, b3⟩ := t_sign hT h hc' hc
  have hf' := h.1
  have hge := tF_ge n B (f + 1)
  refine ⟨s2, r2, b1, b2, ?_⟩
  rcases b3 with ⟨-, -, b3⟩ | ⟨-, b3⟩
  · exact .inl ⟨_, by omega, b3, rfl, rfl, rfl, rfl, rfl⟩
  · exact .inr ⟨⟨k, by omega, rfl⟩, b3⟩
theorem LwOut.mono {n : Nat} {B : Nat → Nat} {d f f0 k up : Nat} (hf : f0 ≤ f) {code code' : Nat → Int32} {g g' : Nat → Nat → Int32} {s' : TS} {r' : TQ} {len' op' cnt' : Int32} (h : LwOut n B d f k code g up len' code' s' r' op' cnt' g') : LwOut n B d f0 k code g up len' code' s' r' op' cnt' g' := by
  rcases h with ⟨k', f', rfl, rfl, rfl, a1, a2, a3, a4, a5, a6⟩ | h
  · exact .inl ⟨k', f', rfl, rfl, rfl, a1, by omega, by omega, a4, a5, a6⟩
  · exact .inr h
theorem LwI.run {n : Nat} {B : Nat → Nat} {v fe : Nat → Int32} {d f k : Nat} (hk : k ≤ f) {G : LCF} {G' : LRF} (hG : LwOK n B v fe G G' d) {code code' : Nat → Int32} {g g' : Nat → Nat → Int32} {s' : TS} {r' : TQ} {len' op' cnt' : Int32} (h : LwI n B d f k code g len' code' s' r' op' cnt' g') :
    ∃ len2 code2 s2 r2 op2 cnt2 g2, G len' code' (nI n) s'.1 s'.2.1 s'.2.2.1 s'.2.2.2.1 s'.2.2.2.2.1 s'.2.2.2.2.2 v (nI d) = some (len2, code2, s2) ∧ G' (nI n) r'.1 r'.2.1 r'.2.2 op' cnt' fe g' = some (r2.1, r2.2.1, r2.2.2, op2, cnt2, g2) ∧ LwOut n B d f k code g 1 len2 code2 s2 r2 op2 cnt2 g2 := by
  rcases h with ⟨f', hf, h, rfl, rfl, rfl, rfl, rfl⟩ | ⟨⟨k', hk', rfl⟩, hF⟩
  · obtain ⟨l2, c2, s2, r2, o2, n2, g2, a1, a2, a3⟩ := hG.2 f' k code' s' r' g' h (by omega)
    exact ⟨l2, c2, s2, r2, o2, n2, g2, a1, a2, a3.mono hf⟩
  · obtain ⟨a1, a2⟩ := hG.1 k' code' s' r' op' cnt' g' hk' hF
    exact ⟨_, _, s', r', _, _, _, a1, a2, .inr ⟨⟨k', hk', rfl⟩, hF⟩⟩
theorem LwOut.sign {n : Nat} {B : Nat → Nat} {v fe : Nat → Int32} (hT : Tp n B v fe) (hn : n ≤ 150) {d f k up : Nat} (hk : k ≤ f) {code code' : Nat → Int32} {g g' : Nat → Nat → Int32} {s' : TS} {r' : TQ} {len' op' cnt' : Int32} (h : LwOut n B d f k code g up len' code' s' r' op' cnt' g') {c : Nat} {c' : Int32} (hc' : c' = nI c) (hc : sgC c) :
    ∃ s2 r2, f_X7_takeSign (nI n) s'.1 s'.2.1 s'.2.2.1 s'.2.2.2.1 s'.2.2.2.2.1 s'.2.2.2.2.2 v c' = some s2 ∧ f_X11_sign (nI n) r'.1 r'.2.1 r'.2.2 fe c' = some r2 ∧ LwOut n B d f k code g up len' code' s2 r2 op' cnt' g' := by
  rcases h with ⟨k', f', rfl, rfl, rfl, a1, a2, a3, a4, a5, a6⟩ | ⟨⟨k', hk', rfl⟩, hF⟩
  · obtain ⟨s2, r2, b1, b2, b3⟩ := t_sign hT a1 hc' hc
    have hf' := a1.1
    have hge := tF_ge n B (f' + 1)
    refine ⟨s2, r2, b1, b2, ?_⟩
    rcases b3 with ⟨-, -, b3⟩ | ⟨-, b3⟩
    · exact .inl ⟨k', _, rfl, rfl, rfl, b3, by omega, by omega, a4, a5, a6⟩
    · exact .inr ⟨⟨k', by omega, rfl⟩, b3⟩
  · obtain ⟨x1, x2, x3, y, pl, a, hy, ha, rfl, rfl⟩ := hF
    exact ⟨(4, x1, x2, x3, y, pl), (nI a, y, pl), tf_sign hy, tf_rsign hy, .inr ⟨⟨k', hk', rfl⟩, x1, x2, x3, y, pl, a, hy, ha, rfl, rfl⟩⟩
theorem LwOut.run {n : Nat} {B : Nat → Nat} {v fe : Nat → Int32} {d f k up : Nat} (hu : 1 ≤ up) (hk : k ≤ f) {G : LCF} {G' : LRF} (hG : LwOK n B v fe G G' d) {code code' : Nat → Int32} {g g' : Nat → Nat → Int32} {s' : TS} {r' : TQ} {len' op' cnt' : Int32} (h : LwOut n B d f k code g up len' code' s' r' op' cnt' g') :
    ∃ len2 code2 s2 r2 op2 cnt2 g2, G len' code' (nI n) s'.1 s'.2.1 s'.2.2.1 s'.2.2.2.1 s'.2.2.2.2.1 s'.2.2.2.2.2 v (nI d) = some (len2, code2, s2) ∧ G' (nI n) r'.1 r'.2.1 r'.2.2 op' cnt' fe g' = some (r2.1, r2.2.1, r2.2.2, op2, cnt2, g2) ∧ LwOut n B d f k code g (up + 1) len2 code2 s2 r2 op2 cnt2 g2 := by
  rcases h with ⟨k', f', rfl, rfl, rfl, hy⟩ | ⟨⟨k', hk', rfl⟩, hF⟩
  · have h3 := hy.2.2.1
    obtain ⟨l2, c2, s2, r2, o2, n2, g2, a1, a2, a3⟩ := hG.2 f' k' code' s' r' g' hy.1 (by omega)
    exact ⟨l2, c2, s2, r2, o2, n2, g2, a1, a2, LwOut.comp hy a3 (by omega)⟩
  · obtain ⟨a1, a2⟩ := hG.1 k' code' s' r' op' cnt' g' hk' hF
    exact ⟨_, _, s', r', _, _, _, a1, a2, .inr ⟨⟨k', hk', rfl⟩, hF⟩⟩
theorem LwOut.op {n : Nat} {B : Nat → Nat} (hn : n ≤ 150) {d f f0 k up vv : Nat} (hf0 : f0 < f) (hk : k ≤ f0) (hv : vv < 7) (hu : 1 ≤ up) {t0 how : Int32} (ht : t0 = -9 - nI vv) (hw : how = nI (2 + vv)) {code code' : Nat → Int32} {g g' : Nat → Nat → Int32} {s' : TS} {r' : TQ} {len' op' cnt' : Int32} (h : LwOut n B d f k code g (up + 1) len' code' s' r' op' cnt' g') :
    ∃ len2 code2 cnt2 g2, f_X3_put len' code' t0 = some (len2, code2) ∧ f_X11_notes r'.2.1 cnt' g' how 0 = some (cnt2, g2) ∧ LwOut n B d f0 k code g up len2 code2 s' r' op' cnt2 g2 := by
  rcases h with ⟨k1, f1, rfl, rfl, rfl, b1, b2, b3, b4, b5, b6⟩ | ⟨⟨k1, hk1, rfl⟩, hF⟩
  · have hf1 := b1.1
    refine ⟨nI (k1 + 1), upd code' k1 t0, nI (k1 + 1), gset (gset g' k1 0 how) k1 1 0, p_put3 (by omega) code' t0, ?_, .inl ⟨k1 + 1, f1, rfl, rfl, rfl, b1, by omega, by omega, by omega, fun i hi => ?_, fun h0 hh => ?_⟩⟩
    · rw [b1.ft.2.2.1]
      exact r_notes (by omega) g' how 0
    · rw [upd, if_neg (by omega), gset_ne (by omega), gset_ne (by omega), gset_ne (by omega), gset_ne (by omega)]
      exact b5 i hi
    · have hb6 : LSeg k k1 h0 (h0 + (up + 1)) (upd code' k1 t0) (gset (gset g' k1 0 how) k1 1 0) := (b6 h0 (by omega)).cg (fun i hi => by
        rw [upd, if_neg (by omega), gset_ne (by omega), gset_ne (by omega), gset_ne (by omega), gset_ne (by omega)]
        exact ⟨rfl, rfl, rfl⟩)
      refine hb6.app b4 (by omega) (LSeg.one (.inr (.inr ⟨vv, hv, ?_, ?_, by omega, by omega⟩)))
      · rw [gset_ne (by omega), gset_eq, hw]
      · rw [upd, if_pos rfl, ht]
  · obtain ⟨k2, c2, hk2, p2⟩ := p_put3f hk1 code' t0
    exact ⟨nI k2, c2, cnt', g', p2, tf_notes hF.ne g', .inr ⟨⟨k2, hk2, rfl⟩, hF⟩⟩
/-- a number or a name -/
theorem LwOut.lit {n : Nat} {B : Nat → Nat} (hn : n ≤ 150) {d f f' k : Nat} (hk : k ≤ f) (hf : f < f') (code : Nat → Int32) (g : Nat → Nat → Int32) {s' : TS} {r' : TQ} (h : TR0 n B f' s' r') {t w x : Int32} (ht : (∃ v, v ≤ 999 ∧ w = nI 0 ∧ x = nI v ∧ t = nI v) ∨ (∃ v, v < 8 ∧ w = nI 1 ∧ x = nI v ∧ t = -1 - nI v)) :
    f_X3_put (nI k) code t = some (nI (k + 1), upd code k t) ∧ f_X11_notes 0 (nI k) g w x = some (nI (k + 1), gset (gset g k 0 w) k 1 x) ∧ LwOut n B d f k code g 1 (nI (k + 1)) (upd code k t) s' r' (nI d) (nI (k + 1)) (gset (gset g k 0 w) k 1 x) := by
  have hf' := h.1
  refine ⟨p_put3 (by omega) code t, r_notes (by omega) g w x, .inl ⟨k + 1, f', rfl, rfl, rfl, h, by omega, by omega, by omega, fun i hi => ?_, fun h0 _ => LSeg.one ?_⟩⟩
  · rw [upd, if_neg (by omega), gset_ne (by omega), gset_ne (by omega), gset_ne (by omega), gset_ne (by omega)]
    exact ⟨rfl, rfl, rfl⟩
  · have e1 : gset (gset g k 0 w) k 1 x k 0 = w := by rw [gset_ne (by omega), gset_eq]
    have e2 : gset (gset g k 0 w) k 1 x k 1 = x := gset_eq
    have e3 : upd code k t k = t := by rw [upd, if_pos rfl]
    rw [LStep, e1, e2, e3]
    rcases ht with ⟨v, hv, rfl, rfl, rfl⟩ | ⟨v, hv, rfl, rfl, rfl⟩
    · exact .inl ⟨v, hv, rfl, rfl, rfl, rfl⟩
    · exact .inr (.inl ⟨v, hv, rfl, rfl, rfl, rfl⟩)
/-- from the depth within to the depth without -/
theorem LwOut.out {n : Nat} {B : Nat → Nat} {d f f0 k up : Nat} (hf : f0 ≤ f) {code code' : Nat → Int32} {g g' : Nat → Nat → Int32} {s' : TS} {r' : TQ} {len' op' cnt' : Int32} (h : LwOut n B (d + 1) f k code g up len' code' s' r' op' cnt' g') : LwOut n B d f0 k code g up len' code' s' r' (op' - 1) cnt' g' := by
  rcases h with ⟨k', f', rfl, rfl, rfl, a1, a2, a3, a4, a5, a6⟩ | h
  · exact .inl ⟨k', f', rfl, rfl, nI_pred d, a1, by omega, by omega, a4, a5, a6⟩
  · exact .inr h
theorem t_opens0 {a : Int32} {d : Nat} (hd : d < 6) : f_X11_opens a 0 (-1) (nI d) = some (1, 0, -1, nI (d + 1)) := by
  rw [f_X11_opens, if_pos rfl, if_neg (show ¬ nI d = 6 by rw [pl6, nI_eq (by omega) (by omega)]; omega), f_X11_opens_b28, if_pos rfl, f_X11_opens_b45, if_pos rfl, nI_1]
theorem t_opens6 {a : Int32} : f_X11_opens a 0 (-1) (nI 6) = some (0, 3, a, nI 6) := by
  rw [f_X11_opens, if_pos rfl, if_pos (show nI 6 = 6 from rfl), f_X11_wrong, if_pos rfl, Option.bind_some, f_X11_opens_b45, if_neg (show ¬ (3 : Int32) = 0 by decide)]
/-- opened with a word or a sign: in the class -/
theorem lw_b99 {n : Nat} {B : Nat → Nat} {v fe : Nat → Int32} (hT : Tp n B v fe) (hn : n ≤ 150) {d f f1 k : Nat} (hd : d < 6) (hf : f < f1) (hk : k ≤ f) {F : LCF} {F' : LRF} (hF : LwOK n B v fe F F' (d + 1)) {s : TS} {r0 : TQ} (h1 : TR0 n B f1 (tk n B f1) r0) (hs : f_X7_step (nI n) s.1 s.2.1 s.2.2.1 s.2.2.2.1 s.2.2.2.2.1 v = some (nI (tK n B f1), nI f1, nI (tT n B f1), nI (tV n B f1))) (hz : s.2.2.2.2.1 = 0 ∧ s.2.2.2.2.2 = -1) (code : Nat → Int32) (g : Nat → Nat → Int32) :
    (∃ len' code' s' r' op' cnt' g', f_X3_readUnit_b96 F (nI n) v (nI k) code s.1 s.2.1 s.2.2.1 s.2.2.2.1 s.2.2.2.2.1 s.2.2.2.2.2 (nI d) 0 = some (len', code', s') ∧ ((f_X11_sum F' (nI n) r0.1 r0.2.1 r0.2.2 (nI (d + 1)) (nI k) fe g).bind fun q149 => (f_X11_sign (nI n) q149.1 q149.2.1 q149.2.2.1 fe (41)).bind fun q155 => some (q155.1, q155.2.1, q155.2.2, q149.2.2.2.1 - 1, q149.2.2.2.2.1, q149.2.2.2.2.2)) = some (r'.1, r'.2.1, r'.2.2, op', cnt', g') ∧ LwOut n B d f k code g 1 len' code' s' r' op' cnt' g') ∧
    (∀ (vv : Nat) (t0 how : Int32), vv < 7 → t0 = -9 - nI vv → how = nI (2 + vv) → ¬ t0 = 0 → ∃ len' code' s' r' op' cnt' g', f_X3_readUnit_b96 F (nI n) v (nI k) code s.1 s.2.1 s.2.2.1 s.2.2.2.1 s.2.2.2.2.1 s.2.2.2.2.2 (nI d) t0 = some (len', code', s') ∧ ((f_X11_sign (nI n) r0.1 r0.2.1 r0.2.2 fe (91)).bind fun q77 => (f_X11_sum F' (nI n) q77.1 q77.2.1 q77.2.2 (nI (d + 1)) (nI k) fe g).bind fun q81 => (f_X11_sign (nI n) q81.1 q81.2.1 q81.2.2.1 fe (44)).bind fun q87 => (f_X11_sum F' (nI n) q87.1 q87.2.1 q87.2.2 q81.2.2.2.1 q81.2.2.2.2.1 fe q81.2.2.2.2.2).bind fun q91 => (f_X11_sign (nI n) q91.1 q91.2.1 q91.2.2.1 fe (93)).bind fun q97 => (f_X11_notes q97.2.1 q91.2.2.2.2.1 q91.2.2.2.2.2 how (0)).bind fun q103 => some (q97.1, q97.2.1, q97.2.2, q91.2.2.2.1 - 1, q103.1, q103.2)) = some (r'.1, r'.2.1, r'.2.2, op', cnt', g') ∧ LwOut n B d f k code g 1 len' code' s' r' op' cnt' g') := by
  have hG := lw_sumOK hT hn hF
  have hlt : nI d < 6 := nI_lt (b := 6) hd (by omega)
  refine ⟨?_, fun vv t0 how hv ht hw h0 => ?_⟩
  · obtain ⟨l1, c1, s1, r1, o1, n1, g1, a1, a2, i1⟩ := hG.2 f1 k code (tk n B f1) r0 g h1 (by omega)
    obtain ⟨s2, r2, b1, b2, i2⟩ := LwOut.sign hT hn (by omega) i1 ch41 sg41
    refine ⟨l1, c1, s2, r2, o1 - 1, n1, g1, ?_, ?_, LwOut.out (by omega) i2⟩
    · rw [f_X3_readUnit_b96, if_pos hlt, if_pos rfl, hs, Option.bind_some, nI_1, hz.1, hz.2]
      rw [show f_X3_readSum F (nI k) code (nI n) (nI (tK n B f1)) (nI f1) (nI (tT n B f1)) (nI (tV n B f1)) 0 (-1) v (nI (d + 1)) = _ from a1, Option.bind_some, b1, Option.bind_some]
    · rw [a2, Option.bind_some, b2, Option.bind_some]
  · obtain ⟨s1, r1, a1, a2, i1⟩ := LwI.sign hT hn (d := d + 1) (k := k) (by omega) (code := code) (g := g) h1 ch91 sg91
    obtain ⟨l2, c2, s2, r2, o2, n2, g2, b1, b2, i2⟩ := LwI.run (by omega) hG i1
    obtain ⟨s3, r3, d1, d2, i3⟩ := LwOut.sign hT hn (by omega) i2 ch44 sg44
    obtain ⟨l4, c4, s4, r4, o4, n4, g4, e1, e2, i4⟩ := LwOut.run (Nat.le_refl 1) (by omega) hG i3
    obtain ⟨s5, r5, x1, x2, i5⟩ := LwOut.sign hT hn (by omega) i4 ch93 sg93
    obtain ⟨l6, c6, n6, g6, y1, y2, i6⟩ := LwOut.op hn hf hk hv (Nat.le_refl 1) ht hw i5
    refine ⟨l6, c6, s5, r5, o4 - 1, n6, g6, ?_, ?_, LwOut.out (Nat.le_refl f) i6⟩
    · rw [f_X3_readUnit_b96, if_pos hlt, if_neg h0, hs, Option.bind_some, nI_1, hz.1, hz.2]
      rw [show f_X7_takeSign (nI n) (nI (tK n B f1)) (nI f1) (nI (tT n B f1)) (nI (tV n B f1)) 0 (-1) v 91 = _ from a1, Option.bind_some, b1, Option.bind_some, d1, Option.bind_some, e1, Option.bind_some, x1, Option.bind_some, y1, Option.bind_some]
    · rw [a2, Option.bind_some, b2, Option.bind_some, d2, Option.bind_some, e2, Option.bind_some, x2, Option.bind_some, y2, Option.bind_some]
theorem lw_b99f {n : Nat} {B : Nat → Nat} {v : Nat → Int32} {f k : Nat} {F : LCF} {s : TS} {r : TQ} (h : TR0 n B f s r) (code : Nat → Int32) (t0 : Int32) : f_X3_readUnit_b96 F (nI n) v (nI k) code s.1 s.2.1 s.2.2.1 s.2.2.2.1 s.2.2.2.2.1 s.2.2.2.2.2 (nI 6) t0 = some (nI k, code, 4, nI f, s.2.2.1, s.2.2.2.1, 3, nI f) := by
  have e1 : s.2.1 = nI f := by rw [h.2.1]
  rw [f_X3_readUnit_b96, if_neg (show ¬ nI 6 < 6 by decide), f_X7_wrong, if_pos h.ft.1, Option.bind_some, e1]

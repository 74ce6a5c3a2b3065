/-! work: reading, where a step is done -/
abbrev WRF : Type := Int32 → Int32 → Int32 → Int32 → Int32 → Int32 → (Nat → Int32) → (Nat → Int32) → (Nat → Nat → Int32) → (Nat → Nat → Int32) → Option (Int32 × Int32 × Int32 × Int32 × Int32 × (Nat → Nat → Int32))
theorem rpF103 {n : Nat} {v fe : Nat → Int32} {s : TS} {r : TQ} (hF : TRf n s r) {k : Nat} (hk : k < 50) (u0 w hh a1 a2 a3 a4 a5 : Nat → Int32) (i0 x4 t2 : Int32) : ∃ A4 A5, f_X9_readPlace_b103 u0 i0 w hh (nI n) v a1 a2 a3 a4 a5 s.1 s.2.1 s.2.2.1 s.2.2.2.1 s.2.2.2.2.1 s.2.2.2.2.2 (nI k) x4 (nI k) t2 = some (a1, a2, a3, A4, A5, s) := by
  rw [f_X9_readPlace_b103, pu_ck hk (by omega)]
  by_cases e : x4 = 5
  · rw [if_pos e]
    exact ⟨_, _, rfl⟩
  · rw [if_neg e, (tf_n4 (v := v) (fe := fe) hF 1 30).1, Option.bind_some, pu_ck hk (by omega)]
    exact ⟨_, _, rfl⟩
theorem rpF81 {n : Nat} {v fe : Nat → Int32} {s : TS} {r : TQ} (hF : TRf n s r) {k : Nat} (hk : k < 50) (u0 w hh a1 a2 a3 a4 a5 : Nat → Int32) (i0 x4 : Int32) : ∃ A4 A5, f_X9_readPlace_b81 u0 i0 w hh (nI n) v a1 a2 a3 a4 a5 s.1 s.2.1 s.2.2.1 s.2.2.2.1 s.2.2.2.2.1 s.2.2.2.2.2 (nI k) x4 = some (a1, a2, a3, A4, A5, s) := by
  rw [f_X9_readPlace_b81]
  by_cases e : x4 = 2
  · rw [if_pos e, (tf_n4 (v := v) (fe := fe) hF 0 6).1, Option.bind_some]
    exact rpF103 (fe := fe) hF hk u0 w hh a1 a2 a3 a4 a5 i0 x4 0
  · rw [if_neg e]
    exact rpF103 (fe := fe) hF hk u0 w hh a1 a2 a3 a4 a5 i0 x4 0
theorem ck05 {R : Type} (k : Option R) : ck (0 : Int32) 5 k = k := pu_ck (j := 0) (n := 5) (by omega) (by omega)
theorem rpF41 {n : Nat} {v fe : Nat → Int32} {s : TS} {r : TQ} (hF : TRf n s r) {k : Nat} (hk : k < 50) (u0 w hh a1 a2 a3 a4 a5 : Nat → Int32) (i0 x4 : Int32) : ∃ A2 A3 A4 A5, f_X9_readPlace_b41 u0 i0 w hh (nI n) v a1 a2 a3 a4 a5 s.1 s.2.1 s.2.2.1 s.2.2.2.1 s.2.2.2.2.1 s.2.2.2.2.2 (nI k) x4 0 = some (a1, A2, A3, A4, A5, s) := by
  obtain ⟨A4, A5, h1⟩ := rpF81 (v := v) (fe := fe) hF hk u0 w hh a1 (upd a2 k 0) (upd a3 k 0) a4 a5 i0 x4
  refine ⟨upd a2 k 0, upd a3 k 0, A4, A5, ?_⟩
  rw [f_X9_readPlace_b41, ck05, (tf_n4 (v := v) (fe := fe) hF 0 _).1, Option.bind_some, pu_ck hk (by omega), ck05, (tf_n4 (v := v) (fe := fe) hF 0 _).1, Option.bind_some, pu_ck hk (by omega), nI_clamp (by omega)]
  exact h1
theorem rrF167 {n : Nat} {v fe to : Nat → Int32} {pa : Nat → Nat → Int32} {F : WRF} {s : TS} {r : TQ} (hF : TRf n s r) (op cnt x1 y2 : Int32) (h6 : ¬ x1 = 6) (g : Nat → Nat → Int32) : ∃ g', f_X11_readsStep_b167 F (nI n) fe to pa r.1 r.2.1 r.2.2 op cnt g x1 y2 = f_X11_readsStep_b255 F (nI n) fe to pa r.1 r.2.1 r.2.2 op cnt g' y2 := by
  rw [f_X11_readsStep_b167]
  by_cases e : 3 ≤ x1
  · rw [if_pos e, f_X11_readsStep_b182, if_neg h6]
    exact ⟨_, rfl⟩
  · rw [if_neg e, (tf_n4 (v := v) (fe := fe) hF 1 30).2, Option.bind_some, f_X11_readsStep_b182, if_neg h6]
    exact ⟨_, rfl⟩
theorem rrF152 {n : Nat} {v fe to : Nat → Int32} {pa : Nat → Nat → Int32} {F : WRF} {s : TS} {r : TQ} (hF : TRf n s r) (op cnt x1 y2 : Int32) (h6 : ¬ x1 = 6) (g : Nat → Nat → Int32) : ∃ g', f_X11_readsStep_b152 F (nI n) fe to pa r.1 r.2.1 r.2.2 op cnt g x1 y2 = f_X11_readsStep_b255 F (nI n) fe to pa r.1 r.2.1 r.2.2 op cnt g' y2 := by
  rw [f_X11_readsStep_b152]
  by_cases e : x1 = 2
  · rw [if_pos e, (tf_n4 (v := v) (fe := fe) hF 0 6).2, Option.bind_some]
    exact rrF167 (v := v) hF op cnt x1 y2 h6 _
  · rw [if_neg e]
    exact rrF167 (v := v) hF op cnt x1 y2 h6 _
theorem n5' : ∀ kk, kk < 6 → ¬ nI kk = 6 := by decide
/-- how many films -/
theorem rp_N {n : Nat} {B : Nat → Nat} {v fe to : Nat → Int32} (hT : Tp n B v fe) {pa : Nat → Nat → Int32} {F : WRF} {f k kk R : Nat} (hkk : kk = 0 ∨ kk = 1 ∨ kk = 2 ∨ kk = 5) (hk : k < 50) {s : TS} {r : TQ} (h : TR0 n B f s r) (u0 w hh a1 a2 a3 a4 a5 : Nat → Int32) (i0 op cnt : Int32) (g : Nat → Nat → Int32) :
    ∃ A5 s' r' g', f_X9_readPlace_b103 u0 i0 w hh (nI n) v a1 a2 a3 a4 a5 s.1 s.2.1 s.2.2.1 s.2.2.2.1 s.2.2.2.2.1 s.2.2.2.2.2 (nI k) (nI kk) (nI k) (nI R) = some (a1, a2, a3, upd a4 k (nI R), A5, s') ∧ f_X11_readsStep_b167 F (nI n) fe to pa r.1 r.2.1 r.2.2 op cnt g (nI kk) (nI k) = f_X11_readsStep_b255 F (nI n) fe to pa r'.1 r'.2.1 r'.2.2 op cnt g' (nI k) ∧ ((∃ f', f ≤ f' ∧ TR0 n B f' s' r' ∧ (∀ i, i ≠ k → A5 i = a5 i ∧ ∀ j, g' i j = g i j) ∧ (∀ j, j < 5 → g' k j = g k j) ∧ (kk ≠ 5 → ∃ N, 1 ≤ N ∧ N ≤ 30 ∧ A5 k = nI N ∧ g' k 5 = nI N)) ∨ TRf n s' r') := by
  have h6 : ¬ nI kk = 6 := n5' kk (by omega)
  by_cases e : kk = 5
  · subst e
    refine ⟨a5, s, r, g, ?_, ?_, .inl ⟨f, Nat.le_refl f, h, fun i _ => ⟨rfl, fun j => rfl⟩, fun j _ => rfl, fun h5 => absurd rfl h5⟩⟩
    · rw [f_X9_readPlace_b103, pu_ck hk (by omega), if_pos (show nI 5 = 5 from rfl), nI_clamp (by omega)]
    · rw [f_X11_readsStep_b167, if_pos (by decide), f_X11_readsStep_b182, if_neg h6]
  · obtain ⟨c, s', b, r', e1, e2, k1⟩ := t_nm hT h (lo' := 1) (hi := 30) 1 rfl (by omega) (by decide)
    have hc : f_X9_readPlace_b103 u0 i0 w hh (nI n) v a1 a2 a3 a4 a5 s.1 s.2.1 s.2.2.1 s.2.2.2.1 s.2.2.2.2.1 s.2.2.2.2.2 (nI k) (nI kk) (nI k) (nI R) = some (a1, a2, a3, upd a4 k (nI R), upd a5 k c, s') := by
      rw [f_X9_readPlace_b103, pu_ck hk (by omega), if_neg (show ¬ nI kk = 5 by rw [pl5, nI_eq (by omega) (by omega)]; exact e), e1, Option.bind_some, pu_ck hk (by omega), nI_clamp (by omega)]
    have hr : f_X11_readsStep_b167 F (nI n) fe to pa r.1 r.2.1 r.2.2 op cnt g (nI kk) (nI k) = f_X11_readsStep_b255 F (nI n) fe to pa r'.1 r'.2.1 r'.2.2 op cnt (gset g k 5 b) (nI k) := by
      rw [f_X11_readsStep_b167, if_neg (show ¬ 3 ≤ nI kk from nI_ge (b := 3) (by omega) (by omega)), e2, Option.bind_some, f_X11_readsStep_b182, if_neg h6, nI_clamp (by omega), cl5]
      rfl
    refine ⟨upd a5 k c, s', r', gset g k 5 b, hc, hr, ?_⟩
    rcases k1 with ⟨N, f2, rfl, rfl, hN1, hN30, hN5, hff, -, -, -, t2⟩ | ⟨rfl, rfl, hF, -⟩
    · refine .inl ⟨f2, by omega, t2, fun i hi => ⟨by rw [upd, if_neg hi], fun j => gset_ne (.inl hi)⟩, fun j hj => gset_ne (.inr (by omega)), fun _ => ⟨N, hN1, leN (k := 30) (by omega) (by omega) hN30, by rw [upd, if_pos rfl], gset_eq⟩⟩
    · exact .inr hF
/-- how far, how many films -/
theorem rp_tail {n : Nat} {B : Nat → Nat} {v fe to : Nat → Int32} (hT : Tp n B v fe) {pa : Nat → Nat → Int32} {F : WRF} {f k kk : Nat} (hkk : kk = 0 ∨ kk = 1 ∨ kk = 2 ∨ kk = 5) (hk : k < 50) {s : TS} {r : TQ} (h : TR0 n B f s r) (u0 w hh a1 a2 a3 a4 a5 : Nat → Int32) (i0 op cnt : Int32) (g : Nat → Nat → Int32) :
    ∃ A4 A5 s' r' g', f_X9_readPlace_b81 u0 i0 w hh (nI n) v a1 a2 a3 a4 a5 s.1 s.2.1 s.2.2.1 s.2.2.2.1 s.2.2.2.2.1 s.2.2.2.2.2 (nI k) (nI kk) = some (a1, a2, a3, A4, A5, s') ∧ f_X11_readsStep_b152 F (nI n) fe to pa r.1 r.2.1 r.2.2 op cnt g (nI kk) (nI k) = f_X11_readsStep_b255 F (nI n) fe to pa r'.1 r'.2.1 r'.2.2 op cnt g' (nI k) ∧ ((∃ f', f ≤ f' ∧ TR0 n B f' s' r' ∧ (∀ i, i ≠ k → A4 i = a4 i ∧ A5 i = a5 i ∧ ∀ j, g' i j = g i j) ∧ (∀ j, j < 4 → g' k j = g k j) ∧ (∃ R, R ≤ 6 ∧ A4 k = nI R ∧ (kk = 2 → g' k 4 = nI R) ∧ (kk ≠ 2 → R = 0)) ∧ (kk ≠ 5 → ∃ N, 1 ≤ N ∧ N ≤ 30 ∧ A5 k = nI N ∧ g' k 5 = nI N)) ∨ TRf n s' r') := by
  have h6 : ¬ nI kk = 6 := n5' kk (by omega)
  by_cases e : kk = 2
  · subst e
    obtain ⟨c, s1, b, r1, e1, e2, k1⟩ := t_nm hT h (lo' := 0) (hi := 6) 0 rfl (by omega) (by decide)
    have hg : va_up g k (upd (g k) 4 b) = gset g k 4 b := rfl
    rcases k1 with ⟨R, f2, rfl, rfl, -, hR6, hR5, hff, -, -, -, t2⟩ | ⟨rfl, rfl, hF, -⟩
    · obtain ⟨A5, s', r', g', a6, a7, a8⟩ := rp_N hT (F := F) (to := to) (pa := pa) (kk := 2) (R := R) (by omega) hk t2 u0 w hh a1 a2 a3 a4 a5 i0 op cnt (gset g k 4 (nI R))
      refine ⟨upd a4 k (nI R), A5, s', r', g', ?_, ?_, ?_⟩
      · rw [f_X9_readPlace_b81, if_pos (show nI 2 = 2 from rfl), e1, Option.bind_some]
        exact a6
      · rw [f_X11_readsStep_b152, if_pos (show nI 2 = 2 from rfl), e2, Option.bind_some, nI_clamp (by omega), cl4]
        exact a7
      · rcases a8 with ⟨f', b1, b2, b3, b4, b5⟩ | a8
        · refine .inl ⟨f', by omega, b2, fun i hi => ⟨by rw [upd, if_neg hi], (b3 i hi).1, fun j => by rw [(b3 i hi).2 j, gset_ne (.inl hi)]⟩, fun j hj => by rw [b4 j (by omega), gset_ne (.inr (by omega))], ⟨R, leN (k := 6) (by omega) (by omega) hR6, by rw [upd, if_pos rfl], fun _ => by rw [b4 4 (by omega), gset_eq], fun h2 => absurd rfl h2⟩, b5⟩
        · exact .inr a8
    · obtain ⟨A4, A5, c1⟩ := rpF103 (v := v) (fe := fe) hF hk u0 w hh a1 a2 a3 a4 a5 i0 (nI 2) 0
      obtain ⟨g', c2⟩ := rrF167 (v := v) (fe := fe) (to := to) (pa := pa) (F := F) hF op cnt (nI 2) (nI k) h6 (gset g k 4 0)
      refine ⟨A4, A5, s1, r1, g', ?_, ?_, .inr hF⟩
      · rw [f_X9_readPlace_b81, if_pos (show nI 2 = 2 from rfl), e1, Option.bind_some]
        exact c1
      · rw [f_X11_readsStep_b152, if_pos (show nI 2 = 2 from rfl), e2, Option.bind_some, nI_clamp (by omega), cl4]
        exact c2
  · have e2 : ¬ nI kk = 2 := by
      rw [pl2, nI_eq (by omega) (by omega)]
      exact e
    obtain ⟨A5, s', r', g', a6, a7, a8⟩ := rp_N hT (F := F) (to := to) (pa := pa) (kk := kk) (R := 0) hkk hk h u0 w hh a1 a2 a3 a4 a5 i0 op cnt g
    refine ⟨upd a4 k (nI 0), A5, s', r', g', ?_, ?_, ?_⟩
    · rw [f_X9_readPlace_b81, if_neg e2]
      exact a6
    · rw [f_X11_readsStep_b152, if_neg e2]
      exact a7
    · rcases a8 with ⟨f', b1, b2, b3, b4, b5⟩ | a8
      · exact .inl ⟨f', b1, b2, fun i hi => ⟨by rw [upd, if_neg hi], (b3 i hi).1, (b3 i hi).2⟩, fun j hj => b4 j (by omega), ⟨0, by omega, by rw [upd, if_pos rfl], fun h2 => absurd h2 e, fun _ => rfl⟩, b5⟩
      · exact .inr a8
/-- what the street says of its panes -/
def WSt (np : Nat) (W H : Nat → Nat) (w hh to : Nat → Int32) (pa : Nat → Nat → Int32) : Prop := np ≤ 5 ∧ to 0 = nI np ∧ ∀ p, p < np → W p ≤ 4 ∧ H p ≤ 4 ∧ w p = nI (W p) ∧ pa p 0 = nI (W p) ∧ hh p = nI (H p) ∧ pa p 1 = nI (H p)
theorem rp_all {n : Nat} {B : Nat → Nat} {v fe : Nat → Int32} (hT : Tp n B v fe) {np : Nat} {W H : Nat → Nat} {w hh to : Nat → Int32} {pa : Nat → Nat → Int32} (hst : WSt np W H w hh to pa) {F : WRF} {f k kk : Nat} (hkk : kk = 0 ∨ kk = 1 ∨ kk = 2 ∨ kk = 5) (hk : k < 50) {s : TS} {r : TQ} (h : TR0 n B f s r) (u0 a1 a2 a3 a4 a5 : Nat → Int32) (op cnt : Int32) (g : Nat → Nat → Int32) (e0 : u0 k = nI kk) (g0 : g k 0 = nI kk) :
    ∃ A1 A2 A3 A4 A5 s' r' g', f_X9_readPlace u0 a1 a2 a3 a4 a5 (nI np) w hh (nI n) s.1 s.2.1 s.2.2.1 s.2.2.2.1 s.2.2.2.2.1 s.2.2.2.2.2 v (nI k) = some (A1, A2, A3, A4, A5, s') ∧ f_X11_readsStep_b79 F (nI n) fe to pa r.1 r.2.1 r.2.2 op cnt g (nI kk) (nI k) = f_X11_readsStep_b255 F (nI n) fe to pa r'.1 r'.2.1 r'.2.2 op cnt g' (nI k) ∧ ((∃ f', f ≤ f' ∧ TR0 n B f' s' r' ∧ (∀ i, i ≠ k → A1 i = a1 i ∧ A2 i = a2 i ∧ A3 i = a3 i ∧ A4 i = a4 i ∧ A5 i = a5 i ∧ ∀ j, g' i j = g i j) ∧ WKd np W H u0 A1 A2 A3 A4 A5 g' k) ∨ TRf n s' r') := by
  obtain ⟨hnp, hto, hpa⟩ := hst
  have h6 : ¬ nI kk = 6 := n5' kk (by omega)
  obtain ⟨c, s1, b, r1, e1, e2, k1⟩ := t_nm hT h (lo' := 0) (hi := nI np - 1) 0 rfl (by omega) (hiS (by omega))
  have hR : f_X11_readsStep_b79 F (nI n) fe to pa r.1 r.2.1 r.2.2 op cnt g (nI kk) (nI k) = f_X11_readsStep_b95 F (nI n) fe to pa r1.1 r1.2.1 r1.2.2 op cnt (gset g k 1 b) (nI kk) (nI k) := by
    rw [f_X11_readsStep_b79, cl0, hto, e2, Option.bind_some, nI_clamp (by omega), cl1]
    rfl
  have hC : f_X9_readPlace u0 a1 a2 a3 a4 a5 (nI np) w hh (nI n) s.1 s.2.1 s.2.2.1 s.2.2.2.1 s.2.2.2.2.1 s.2.2.2.2.2 v (nI k) = if nI kk = 1 then (f_X9_readPlace_b41 u0 (nI np) w hh (nI n) v (upd a1 k c) a2 a3 a4 a5 s1.1 s1.2.1 s1.2.2.1 s1.2.2.2.1 s1.2.2.2.2.1 s1.2.2.2.2.2 (nI k) (nI kk) c) else (if nI kk = 2 then (f_X9_readPlace_b41 u0 (nI np) w hh (nI n) v (upd a1 k c) a2 a3 a4 a5 s1.1 s1.2.1 s1.2.2.1 s1.2.2.2.1 s1.2.2.2.2.1 s1.2.2.2.2.2 (nI k) (nI kk) c) else (f_X9_readPlace_b81 u0 (nI np) w hh (nI n) v (upd a1 k c) a2 a3 a4 a5 s1.1 s1.2.1 s1.2.2.1 s1.2.2.2.1 s1.2.2.2.2.1 s1.2.2.2.2.2 (nI k) (nI kk))) := by
    rw [f_X9_readPlace, pu_ck hk (by omega), e1, Option.bind_some, pu_ck hk (by omega), nI_clamp (by omega), e0]
  rcases k1 with ⟨p, f2, rfl, rfl, -, hp4, hp5, hff, -, -, -, t2⟩ | ⟨rfl, rfl, hF, -⟩
  · have hp : p < np := leS (by omega) hp5 hp4
    obtain ⟨hW, hH, ew1, ew2, eh1, eh2⟩ := hpa p hp
    have z2 := t2.ft.2.2.1
    by_cases e12 : kk = 1 ∨ kk = 2
    · have hC2 : f_X9_readPlace u0 a1 a2 a3 a4 a5 (nI np) w hh (nI n) s.1 s.2.1 s.2.2.1 s.2.2.2.1 s.2.2.2.2.1 s.2.2.2.2.2 v (nI k) = f_X9_readPlace_b41 u0 (nI np) w hh (nI n) v (upd a1 k (nI p)) a2 a3 a4 a5 s1.1 s1.2.1 s1.2.2.1 s1.2.2.2.1 s1.2.2.2.2.1 s1.2.2.2.2.2 (nI k) (nI kk) (nI p) := by
        rw [hC]
        rcases e12 with e | e
        · rw [if_pos (by rw [e]; rfl)]
        · rw [if_neg (by rw [e]; decide), if_pos (by rw [e]; rfl)]
      have hR2 : f_X11_readsStep_b79 F (nI n) fe to pa r.1 r.2.1 r.2.2 op cnt g (nI kk) (nI k) = f_X11_readsStep_b112 F (nI n) fe to pa r1.1 r1.2.1 r1.2.2 op cnt (gset g k 1 (nI p)) (nI kk) (nI k) := by
        rw [hR, f_X11_readsStep_b95, if_pos z2]
        rcases e12 with e | e
        · rw [if_pos (by rw [e]; rfl)]
        · rw [if_neg (by rw [e]; decide), if_pos (by rw [e]; rfl)]
      have hw9 : w p - 1 < nI 100000 := by rw [ew1]; exact hiS (by omega)
      have hh9 : hh p - 1 < nI 100000 := by rw [eh1]; exact hiS (by omega)
      obtain ⟨c2, s2, b2, r2, e3, e4, k2⟩ := t_nm hT t2 (lo' := 0) (hi := w p - 1) 0 rfl (by omega) hw9
      have e4' : f_X11_number (nI n) r1.1 r1.2.1 r1.2.2 fe 0 (pa p 0 - 1) = some (b2, r2) := by rw [ew2, ← ew1]; exact e4
      have gA : gset g k 1 (nI p) k 1 = nI p := gset_eq
      have gB : gset (gset g k 1 (nI p)) k 2 b2 k 1 = nI p := by rw [gset_ne (by omega), gset_eq]
      have hR3 : ∀ b3 r3, f_X11_number (nI n) r2.1 r2.2.1 r2.2.2 fe 0 (pa p 1 - 1) = some (b3, r3) → f_X11_readsStep_b79 F (nI n) fe to pa r.1 r.2.1 r.2.2 op cnt g (nI kk) (nI k) = f_X11_readsStep_b152 F (nI n) fe to pa r3.1 r3.2.1 r3.2.2 op cnt (gset (gset (gset g k 1 (nI p)) k 2 b2) k 3 b3) (nI kk) (nI k) := by
        intro b3 r3 e6
        rw [hR2, f_X11_readsStep_b112, nI_clamp (by omega), cl1, cl0, cl2, cl3, gA, pu_ck (by omega) (by omega), nI_clamp (by omega), e4', Option.bind_some]
        rw [show va_up (gset g k 1 (nI p)) k (upd (gset g k 1 (nI p) k) 2 (b2, r2).1) = gset (gset g k 1 (nI p)) k 2 b2 from rfl, gB, pu_ck (by omega) (by omega), nI_clamp (by omega)]
        rw [show f_X11_number (nI n) (b2, r2).2.1 (b2, r2).2.2.1 (b2, r2).2.2.2 fe 0 (pa p 1 - 1) = _ from e6, Option.bind_some]
        rfl
      have hC3 : ∀ c3 s3, f_X7_takeNumber (nI n) s2.1 s2.2.1 s2.2.2.1 s2.2.2.2.1 s2.2.2.2.2.1 s2.2.2.2.2.2 v 0 (hh p - 1) = some (c3, s3) → f_X9_readPlace u0 a1 a2 a3 a4 a5 (nI np) w hh (nI n) s.1 s.2.1 s.2.2.1 s.2.2.2.1 s.2.2.2.2.1 s.2.2.2.2.2 v (nI k) = f_X9_readPlace_b81 u0 (nI np) w hh (nI n) v (upd a1 k (nI p)) (upd a2 k c2) (upd a3 k c3) a4 a5 s3.1 s3.2.1 s3.2.2.1 s3.2.2.2.1 s3.2.2.2.2.1 s3.2.2.2.2.2 (nI k) (nI kk) := by
        intro c3 s3 e5
        rw [hC2, f_X9_readPlace_b41, pu_ck (show p < 5 by omega) (by omega), nI_clamp (show p < 2 ^ 31 by omega), e3, Option.bind_some, pu_ck hk (by omega), pu_ck (show p < 5 by omega) (by omega)]
        rw [show f_X7_takeNumber (nI n) (c2, s2).2.1 (c2, s2).2.2.1 (c2, s2).2.2.2.1 (c2, s2).2.2.2.2.1 (c2, s2).2.2.2.2.2.1 (c2, s2).2.2.2.2.2.2 v 0 (hh p - 1) = _ from e5, Option.bind_some, pu_ck hk (by omega), nI_clamp (by omega)]
      rcases k2 with ⟨x, f3, rfl, rfl, -, hx4, hx5, hff3, -, -, -, t3⟩ | ⟨rfl, rfl, hF, -⟩
      · obtain ⟨c3, s3, b3, r3, e5, e6, k3⟩ := t_nm hT t3 (lo' := 0) (hi := hh p - 1) 0 rfl (by omega) hh9
        have e6' : f_X11_number (nI n) r2.1 r2.2.1 r2.2.2 fe 0 (pa p 1 - 1) = some (b3, r3) := by rw [eh2, ← eh1]; exact e6
        rcases k3 with ⟨y, f4, rfl, rfl, -, hy4, hy5, hff4, -, -, -, t4⟩ | ⟨rfl, rfl, hF, -⟩
        · have hx : x < W p := by rw [ew1] at hx4; exact leS (by omega) hx5 hx4
          have hy : y < H p := by rw [eh1] at hy4; exact leS (by omega) hy5 hy4
          obtain ⟨A4, A5, s', r', g', q1, q2, q3⟩ := rp_tail hT (F := F) (to := to) (pa := pa) hkk hk t4 u0 w hh (upd a1 k (nI p)) (upd a2 k (nI x)) (upd a3 k (nI y)) a4 a5 (nI np) op cnt (gset (gset (gset g k 1 (nI p)) k 2 (nI x)) k 3 (nI y))
          refine ⟨upd a1 k (nI p), upd a2 k (nI x), upd a3 k (nI y), A4, A5, s', r', g', (hC3 _ _ e5).trans q1, (hR3 _ _ e6').trans q2, ?_⟩
          have hk5 : kk ≠ 5 := by omega
          rcases q3 with ⟨f', b1, b2', b3', b4, ⟨R, hR6, bR, bR2, bR0⟩, b5⟩ | q3
          · obtain ⟨N, hN1, hN30, bN, bN2⟩ := b5 hk5
            clear b5
            refine .inl ⟨f', by omega, b2', fun i hi => ⟨by rw [upd, if_neg hi], by rw [upd, if_neg hi], by rw [upd, if_neg hi], (b3' i hi).1, (b3' i hi).2.1, fun j => by rw [(b3' i hi).2.2 j, gset_ne (.inl hi), gset_ne (.inl hi), gset_ne (.inl hi)]⟩, .inr (.inl ⟨p, x, y, R, N, hp, hx, hy, hR6, hN1, hN30, ?_, by rw [upd, if_pos rfl], ?_, by rw [upd, if_pos rfl], ?_, by rw [upd, if_pos rfl], ?_, bR, bN, bN2⟩)⟩
            · have g00 : g' k 0 = nI kk := by rw [b4 0 (by omega), gset_ne (by omega), gset_ne (by omega), gset_ne (by omega), g0]
              rcases e12 with e | e
              · subst e
                exact .inl ⟨e0, g00, bR0 (by decide)⟩
              · subst e
                exact .inr ⟨e0, g00, bR2 rfl⟩
            · rw [b4 1 (by omega), gset_ne (by omega), gset_ne (by omega), gset_eq]
            · rw [b4 2 (by omega), gset_ne (by omega), gset_eq]
            · rw [b4 3 (by omega), gset_eq]
          · exact .inr q3
        · obtain ⟨A4, A5, q1⟩ := rpF81 (v := v) (fe := fe) hF hk u0 w hh (upd a1 k (nI p)) (upd a2 k (nI x)) (upd a3 k 0) a4 a5 (nI np) (nI kk)
          obtain ⟨g', q2⟩ := rrF152 (v := v) (fe := fe) (to := to) (pa := pa) (F := F) hF op cnt (nI kk) (nI k) h6 (gset (gset (gset g k 1 (nI p)) k 2 (nI x)) k 3 0)
          exact ⟨_, _, _, A4, A5, s3, r3, g', (hC3 _ _ e5).trans q1, (hR3 _ _ e6').trans q2, .inr hF⟩
      · obtain ⟨A4, A5, q1⟩ := rpF81 (v := v) (fe := fe) hF hk u0 w hh (upd a1 k (nI p)) (upd a2 k 0) (upd a3 k 0) a4 a5 (nI np) (nI kk)
        obtain ⟨g', q2⟩ := rrF152 (v := v) (fe := fe) (to := to) (pa := pa) (F := F) hF op cnt (nI kk) (nI k) h6 (gset (gset (gset g k 1 (nI p)) k 2 0) k 3 0)
        exact ⟨_, _, _, A4, A5, s2, r2, g', (hC3 _ _ (tf_n4 (v := v) (fe := fe) hF 0 (hh p - 1)).1).trans q1, (hR3 _ _ (tf_n4 (v := v) (fe := fe) hF 0 (pa p 1 - 1)).2).trans q2, .inr hF⟩
    · have hk05 : kk = 0 ∨ kk = 5 := by omega
      have n1 : ¬ nI kk = 1 := by
        rw [pl1, nI_eq (by omega) (by omega)]
        omega
      have n2 : ¬ nI kk = 2 := by
        rw [pl2, nI_eq (by omega) (by omega)]
        omega
      obtain ⟨A4, A5, s', r', g', q1, q2, q3⟩ := rp_tail hT (F := F) (to := to) (pa := pa) hkk hk t2 u0 w hh (upd a1 k (nI p)) a2 a3 a4 a5 (nI np) op cnt (gset g k 1 (nI p))
      refine ⟨upd a1 k (nI p), a2, a3, A4, A5, s', r', g', ?_, ?_, ?_⟩
      · rw [hC, if_neg n1, if_neg n2]
        exact q1
      · rw [hR, f_X11_readsStep_b95, if_pos z2, if_neg n1, if_neg n2]
        exact q2
      · rcases q3 with ⟨f', b1, b2', b3', b4, -, b5⟩ | q3
        · have hff' : f ≤ f' := Nat.le_trans (Nat.le_of_lt hff) b1
          have g00 : g' k 0 = nI kk := by rw [b4 0 (by decide), gset_ne (.inr (by decide)), g0]
          have g01 : g' k 1 = nI p := by rw [b4 1 (by decide), gset_eq]
          refine .inl ⟨f', hff', b2', fun i hi => ⟨by rw [upd, if_neg hi], rfl, rfl, (b3' i hi).1, (b3' i hi).2.1, fun j => by rw [(b3' i hi).2.2 j, gset_ne (.inl hi)]⟩, ?_⟩
          rcases hk05 with e00 | e5
          · subst e00
            obtain ⟨N, hN1, hN30, bN, bN2⟩ := b5 (by decide)
            exact .inl ⟨p, N, hp, hN1, hN30, e0, g00, by rw [upd, if_pos rfl], g01, bN, bN2⟩
          · subst e5
            exact .inr (.inr (.inr (.inr (.inl ⟨p, hp, e0, g00, by rw [upd, if_pos rfl], g01⟩))))
        · exact .inr q3
  · have hR4 : ∃ g', f_X11_readsStep_b79 F (nI n) fe to pa r.1 r.2.1 r.2.2 op cnt g (nI kk) (nI k) = f_X11_readsStep_b255 F (nI n) fe to pa r1.1 r1.2.1 r1.2.2 op cnt g' (nI k) := by
      rw [hR, f_X11_readsStep_b95, if_neg hF.ne]
      exact rrF152 (v := v) hF op cnt (nI kk) (nI k) h6 _
    obtain ⟨g', q2⟩ := hR4
    obtain ⟨A4, A5, q1⟩ := rpF81 (v := v) (fe := fe) hF hk u0 w hh (upd a1 k 0) a2 a3 a4 a5 (nI np) (nI kk)
    obtain ⟨B2, B3, B4, B5, q3⟩ := rpF41 (v := v) (fe := fe) hF hk u0 w hh (upd a1 k 0) a2 a3 a4 a5 (nI np) (nI kk)
    rw [q1, q3] at hC
    by_cases n1 : nI kk = 1
    · rw [if_pos n1] at hC
      exact ⟨_, _, _, _, _, s1, r1, g', hC, q2, .inr hF⟩
    · rw [if_neg n1] at hC
      by_cases n2 : nI kk = 2
      · rw [if_pos n2] at hC
        exact ⟨_, _, _, _, _, s1, r1, g', hC, q2, .inr hF⟩
      · rw [if_neg n2] at hC
        exact ⟨_, _, _, _, _, s1, r1, g', hC, q2, .inr hF⟩

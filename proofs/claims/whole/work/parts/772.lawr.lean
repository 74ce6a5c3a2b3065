/-! law: reading, its joins -/
def LStep (code : Nat → Int32) (g : Nat → Nat → Int32) (i x y : Nat) : Prop :=
  (∃ v, v ≤ 999 ∧ g i 0 = nI 0 ∧ g i 1 = nI v ∧ code i = nI v ∧ y = x + 1) ∨ (∃ v, v < 8 ∧ g i 0 = nI 1 ∧ g i 1 = nI v ∧ code i = -1 - nI v ∧ y = x + 1) ∨ (∃ v, v < 7 ∧ g i 0 = nI (2 + v) ∧ code i = -9 - nI v ∧ 2 ≤ x ∧ y + 1 = x)
def LSeg (a b h h' : Nat) (code : Nat → Int32) (g : Nat → Nat → Int32) : Prop := ∃ ht : Nat → Nat, ht a = h ∧ ht b = h' ∧ ∀ i, a ≤ i → i < b → LStep code g i (ht i) (ht (i + 1))
theorem LStep.cg {code code' : Nat → Int32} {g g' : Nat → Nat → Int32} {i x y : Nat} (h : LStep code g i x y) (h1 : code' i = code i) (h2 : g' i 0 = g i 0) (h3 : g' i 1 = g i 1) : LStep code' g' i x y := by
  rw [LStep, h1, h2, h3]
  exact h
theorem LSeg.cg {a b h h' : Nat} {code code' : Nat → Int32} {g g' : Nat → Nat → Int32} (hs : LSeg a b h h' code g) (hc : ∀ i, i < b → code' i = code i ∧ g' i 0 = g i 0 ∧ g' i 1 = g i 1) : LSeg a b h h' code' g' := by
  obtain ⟨ht, h1, h2, h3⟩ := hs
  exact ⟨ht, h1, h2, fun i i1 i2 => (h3 i i1 i2).cg (hc i i2).1 (hc i i2).2.1 (hc i i2).2.2⟩
theorem LSeg.app {a b c h h' h'' : Nat} {code : Nat → Int32} {g : Nat → Nat → Int32} (hab : a ≤ b) (hbc : b ≤ c) (h1 : LSeg a b h h' code g) (h2 : LSeg b c h' h'' code g) : LSeg a c h h'' code g := by
  obtain ⟨s, s1, s2, s3⟩ := h1
  obtain ⟨t, t1, t2, t3⟩ := h2
  refine ⟨fun i => if i ≤ b then s i else t i, ?_, ?_, fun i i1 i2 => ?_⟩
  · show (if a ≤ b then s a else t a) = h
    rw [if_pos hab, s1]
  · show (if c ≤ b then s c else t c) = h''
    by_cases e : c ≤ b
    · have : c = b := by omega
      subst this
      rw [if_pos e, s2, ← t1, t2]
    · rw [if_neg e, t2]
  · show LStep code g i (if i ≤ b then s i else t i) (if i + 1 ≤ b then s (i + 1) else t (i + 1))
    by_cases e : i + 1 ≤ b
    · rw [if_pos e, if_pos (show i ≤ b by omega)]
      exact s3 i i1 (by omega)
    · rw [if_neg e]
      by_cases e2 : i ≤ b
      · have : i = b := by omega
        subst this
        rw [if_pos e2, s2, ← t1]
        exact t3 i (Nat.le_refl i) i2
      · rw [if_neg e2]
        exact t3 i (by omega) i2
theorem LSeg.one {a h h' : Nat} {code : Nat → Int32} {g : Nat → Nat → Int32} (hs : LStep code g a h h') : LSeg a (a + 1) h h' code g := by
  refine ⟨fun i => if i ≤ a then h else h', if_pos (Nat.le_refl a), if_neg (by omega), fun i i1 i2 => ?_⟩
  have : i = a := by omega
  subst this
  show LStep code g i (if i ≤ i then h else h') (if i + 1 ≤ i then h else h')
  rw [if_pos (Nat.le_refl i), if_neg (by omega)]
  exact hs
theorem LSeg.nil {a h : Nat} {code : Nat → Int32} {g : Nat → Nat → Int32} : LSeg a a h h code g := ⟨fun _ => h, rfl, rfl, fun i i1 i2 => by omega⟩
abbrev LCF : Type := Int32 → (Nat → Int32) → Int32 → Int32 → Int32 → Int32 → Int32 → Int32 → Int32 → (Nat → Int32) → Int32 → Option (Int32 × (Nat → Int32) × Int32 × Int32 × Int32 × Int32 × Int32 × Int32)
abbrev LRF : Type := Int32 → Int32 → Int32 → Int32 → Int32 → Int32 → (Nat → Int32) → (Nat → Nat → Int32) → Option (Int32 × Int32 × Int32 × Int32 × Int32 × (Nat → Nat → Int32))
def LwY (n : Nat) (B : Nat → Nat) (d f k : Nat) (code : Nat → Int32) (g : Nat → Nat → Int32) (up k' f' : Nat) (code' : Nat → Int32) (s' : TS) (r' : TQ) (g' : Nat → Nat → Int32) : Prop :=
  TR0 n B f' s' r' ∧ f + up ≤ f' ∧ k' + f ≤ k + f' ∧ k ≤ k' ∧ (∀ i, i < k → code' i = code i ∧ g' i 0 = g i 0 ∧ g' i 1 = g i 1) ∧ ∀ h, 1 ≤ h + up → LSeg k k' h (h + up) code' g'
def LwOut (n : Nat) (B : Nat → Nat) (d f k : Nat) (code : Nat → Int32) (g : Nat → Nat → Int32) (up : Nat) (len' : Int32) (code' : Nat → Int32) (s' : TS) (r' : TQ) (op' cnt' : Int32) (g' : Nat → Nat → Int32) : Prop :=
  (∃ k' f', len' = nI k' ∧ cnt' = nI k' ∧ op' = nI d ∧ LwY n B d f k code g up k' f' code' s' r' g') ∨ ((∃ k', k' ≤ 150 ∧ len' = nI k') ∧ TRf n s' r')
def LwOK (n : Nat) (B : Nat → Nat) (v fe : Nat → Int32) (FC : LCF) (FR : LRF) (d : Nat) : Prop :=
  (∀ (k : Nat) (code : Nat → Int32) (s : TS) (r : TQ) (op cnt : Int32) (g : Nat → Nat → Int32), k ≤ 150 → TRf n s r → FC (nI k) code (nI n) s.1 s.2.1 s.2.2.1 s.2.2.2.1 s.2.2.2.2.1 s.2.2.2.2.2 v (nI d) = some (nI k, code, s) ∧ FR (nI n) r.1 r.2.1 r.2.2 op cnt fe g = some (r.1, r.2.1, r.2.2, op, cnt, g)) ∧
  (∀ (f k : Nat) (code : Nat → Int32) (s : TS) (r : TQ) (g : Nat → Nat → Int32), TR0 n B f s r → k ≤ f → ∃ len' code' s' r' op' cnt' g', FC (nI k) code (nI n) s.1 s.2.1 s.2.2.1 s.2.2.2.1 s.2.2.2.2.1 s.2.2.2.2.2 v (nI d) = some (len', code', s') ∧ FR (nI n) r.1 r.2.1 r.2.2 (nI d) (nI k) fe g = some (r'.1, r'.2.1, r'.2.2, op', cnt', g') ∧ LwOut n B d f k code g 1 len' code' s' r' op' cnt' g')
theorem LwOut.comp {n : Nat} {B : Nat → Nat} {d f k f1 k1 up1 up2 : Nat} {code code1 code' : Nat → Int32} {g g1 g' : Nat → Nat → Int32} {s1 s' : TS} {r1 r' : TQ} {len' op' cnt' : Int32} (h1 : LwY n B d f k code g up1 k1 f1 code1 s1 r1 g1) (h2 : LwOut n B d f1 k1 code1 g1 up2 len' code' s' r' op' cnt' g') (hu : ∀ h, 1 ≤ h + (up1 + up2) → 1 ≤ h + up1 ∧ 1 ≤ h + up1 + up2) : LwOut n B d f k code g (up1 + up2) len' code' s' r' op' cnt' g' := by
  rcases h2 with ⟨k', f', e1, e2, e3, a1, a2, a3, a4, a5, a6⟩ | h2
  · obtain ⟨b1, b2, b3, b4, b5, b6⟩ := h1
    refine .inl ⟨k', f', e1, e2, e3, a1, by omega, by omega, by omega, fun i hi => ?_, fun h hh => ?_⟩
    · obtain ⟨c1, c2, c3⟩ := a5 i (by omega)
      obtain ⟨d1, d2, d3⟩ := b5 i hi
      exact ⟨c1.trans d1, c2.trans d2, c3.trans d3⟩
    · have h3 := (b6 h (hu h hh).1).cg (code' := code') (g' := g') a5
      have h4 := a6 (h + up1) (hu h hh).2
      rw [show h + (up1 + up2) = h + up1 + up2 by omega]
      exact h3.app b4 a4 h4
  · exact .inr h2
/-- put, while there is room and when a fault is there -/
theorem p_put3 {k : Nat} (hk : k < 150) (code : Nat → Int32) (t : Int32) : f_X3_put (nI k) code t = some (nI (k + 1), upd code k t) := by
  rw [f_X3_put, pl150, if_neg (nI_ge hk (by omega)), pu_ck hk (by omega), nI_clamp (by omega), nI_1]
theorem p_put3f {k : Nat} (hk : k ≤ 150) (code : Nat → Int32) (t : Int32) : ∃ k' code', k' ≤ 150 ∧ f_X3_put (nI k) code t = some (nI k', code') := by
  by_cases e : k < 150
  · exact ⟨k + 1, _, by omega, p_put3 e code t⟩
  · refine ⟨k, code, hk, ?_⟩
    rw [f_X3_put, pl150, if_pos (nI_le (by omega) (by omega))]
theorem r_notes {k : Nat} (hk : k < 160) (g : Nat → Nat → Int32) (w x : Int32) : f_X11_notes 0 (nI k) g w x = some (nI (k + 1), gset (gset g k 0 w) k 1 x) := by
  rw [f_X11_notes, if_pos rfl, pu_ck hk (by omega), pu_ck hk (by omega), nI_clamp (by omega), nI_1]
  rfl
theorem tf_notes {y k w x : Int32} (hy : y ≠ 0) (g : Nat → Nat → Int32) : f_X11_notes y k g w x = some (k, g) := by rw [f_X11_notes, if_neg hy]
/-- a sign at f, what it joins behind it -/
theorem lw_join {n : Nat} {B : Nat → Nat} {v fe : Nat → Int32} (hT : Tp n B v fe) (hn : n ≤ 150) {d : Nat} {G : LCF} {G' : LRF} (hG : LwOK n B v fe G G' d) {T U : Type} (K : Int32 → (Nat → Int32) → Int32 → Int32 → Int32 → Int32 → Int32 → Int32 → Option T) (K' : Int32 → Int32 → Int32 → Int32 → Int32 → (Nat → Nat → Int32) → Option U) {f k c vv : Nat} (hc : sgC c) (hv : vv < 7) {t0 how : Int32} (ht : t0 = -9 - nI vv) (hw : how = nI (2 + vv)) {s : TS} {r : TQ} (h : TR0 n B f s r) (hs : f < n ∧ B f = c) (hk : k ≤ f) (code : Nat → Int32) (g : Nat → Nat → Int32) :
    ∃ len' code' s' r' op' cnt' g', ((f_X7_step (nI n) s.1 s.2.1 s.2.2.1 s.2.2.2.1 s.2.2.2.2.1 v).bind fun q69 => (G (nI k) code (nI n) q69.1 q69.2.1 q69.2.2.1 q69.2.2.2 s.2.2.2.2.1 s.2.2.2.2.2 v (nI d)).bind fun q75 => (f_X3_put q75.1 q75.2.1 t0).bind fun q81 => K q81.1 q81.2 q75.2.2.1 q75.2.2.2.1 q75.2.2.2.2.1 q75.2.2.2.2.2.1 q75.2.2.2.2.2.2.1 q75.2.2.2.2.2.2.2) = K len' code' s'.1 s'.2.1 s'.2.2.1 s'.2.2.2.1 s'.2.2.2.2.1 s'.2.2.2.2.2 ∧
      ((G' (nI n) (nI (f + 1)) r.2.1 r.2.2 (nI d) (nI k) fe g).bind fun q60 => (f_X11_notes q60.2.1 q60.2.2.2.2.1 q60.2.2.2.2.2 how (0)).bind fun q66 => K' q60.1 q60.2.1 q60.2.2.1 q60.2.2.2.1 q66.1 q66.2) = K' r'.1 r'.2.1 r'.2.2 op' cnt' g' ∧ LwOut n B d f k code g 0 len' code' s' r' op' cnt' g' ∧ (∀ f', TR0 n B f' s' r' → f < f') := by
  have hf1 : f + 1 ≤ n := hs.1
  have hge := tF_ge n B (f + 1)
  rw [t_stepS hT h hc hs, Option.bind_some, h.ft.1, h.ft.2.1, h.ft.2.2.1, h.ft.2.2.2]
  obtain ⟨l1, c1, s1, r1, o1, n1, g1, a1, a2, a3⟩ := hG.2 (tF n B (f + 1)) k code (tk n B (tF n B (f + 1))) (nI (f + 1), 0, -1) g (TR0.go hf1) (by omega)
  rw [show G (nI k) code (nI n) (nI (tK n B (tF n B (f + 1)))) (nI (tF n B (f + 1))) (nI (tT n B (tF n B (f + 1)))) (nI (tV n B (tF n B (f + 1)))) 0 (-1) v (nI d) = _ from a1, Option.bind_some]
  rw [show G' (nI n) (nI (f + 1)) 0 (-1) (nI d) (nI k) fe g = _ from a2, Option.bind_some]
  rcases a3 with ⟨k1, f2, rfl, rfl, rfl, b1, b2, b3, b4, b5, b6⟩ | ⟨⟨k1, hk1, rfl⟩, hF⟩
  · have hf2 := b1.1
    refine ⟨nI (k1 + 1), upd c1 k1 t0, s1, r1, nI d, nI (k1 + 1), gset (gset g1 k1 0 how) k1 1 0, ?_, ?_, .inl ⟨k1 + 1, f2, rfl, rfl, rfl, b1, by omega, by omega, by omega, fun i hi => ?_, fun h0 hh => ?_⟩, fun f' hf' => ?_⟩
    · rw [show f_X3_put (nI k1, c1, s1).1 (nI k1, c1, s1).2.1 t0 = _ from p_put3 (by omega) c1 t0, Option.bind_some]
    · rw [show f_X11_notes (r1.1, r1.2.1, r1.2.2, nI d, nI k1, g1).2.1 (r1.1, r1.2.1, r1.2.2, nI d, nI k1, g1).2.2.2.2.1 (r1.1, r1.2.1, r1.2.2, nI d, nI k1, g1).2.2.2.2.2 how 0 = some (nI (k1 + 1), gset (gset g1 k1 0 how) k1 1 0) by
        show f_X11_notes r1.2.1 (nI k1) g1 how 0 = _
        rw [b1.ft.2.2.1]
        exact r_notes (by omega) g1 how 0, Option.bind_some]
    · rw [upd, if_neg (by omega), gset_ne (by omega), gset_ne (by omega), gset_ne (by omega), gset_ne (by omega)]
      exact b5 i hi
    · have hb6 : LSeg k k1 h0 (h0 + 1) (upd c1 k1 t0) (gset (gset g1 k1 0 how) k1 1 0) := (b6 h0 (by omega)).cg (fun i hi => by
        rw [upd, if_neg (by omega), gset_ne (by omega), gset_ne (by omega), gset_ne (by omega), gset_ne (by omega)]
        exact ⟨rfl, rfl, rfl⟩)
      refine hb6.app b4 (by omega) (LSeg.one (.inr (.inr ⟨vv, hv, ?_, ?_, by omega, by omega⟩)))
      · rw [gset_ne (by omega), gset_eq, hw]
      · rw [upd, if_pos rfl, ht]
    · have e1 := hf'.2.1
      have e2 := b1.2.1
      have e3 : (nI f' : Int32) = nI f2 := by
        have e4 : s1.2.1 = nI f' := by rw [e1]
        have e5 : s1.2.1 = nI f2 := by rw [e2]
        rw [← e4, e5]
      rw [nI_eq (by have := hf'.1; omega) (by omega)] at e3
      omega
  · obtain ⟨k2, c2, hk2, p2⟩ := p_put3f hk1 c1 t0
    refine ⟨nI k2, c2, s1, r1, o1, n1, g1, ?_, ?_, .inr ⟨⟨k2, hk2, rfl⟩, hF⟩, fun f' hf' => absurd hf'.ft.2.2.1 hF.ne⟩
    · rw [show f_X3_put (nI k1, c1, s1).1 (nI k1, c1, s1).2.1 t0 = _ from p2, Option.bind_some]
    · rw [show f_X11_notes (r1.1, r1.2.1, r1.2.2, o1, n1, g1).2.1 (r1.1, r1.2.1, r1.2.2, o1, n1, g1).2.2.2.2.1 (r1.1, r1.2.1, r1.2.2, o1, n1, g1).2.2.2.2.2 how 0 = some (n1, g1) from tf_notes hF.ne g1, Option.bind_some]
theorem sg43 : sgC 43 := by refine ⟨by omega, by omega, by omega, by omega⟩
theorem sg45 : sgC 45 := by refine ⟨by omega, by omega, by omega, by omega⟩
theorem sg42 : sgC 42 := by refine ⟨by omega, by omega, by omega, by omega⟩
theorem sg47 : sgC 47 := by refine ⟨by omega, by omega, by omega, by omega⟩
theorem sg37 : sgC 37 := by refine ⟨by omega, by omega, by omega, by omega⟩
theorem sg40 : sgC 40 := by refine ⟨by omega, by omega, by omega, by omega⟩
theorem sg41 : sgC 41 := by refine ⟨by omega, by omega, by omega, by omega⟩
theorem sg91 : sgC 91 := by refine ⟨by omega, by omega, by omega, by omega⟩
theorem sg93 : sgC 93 := by refine ⟨by omega, by omega, by omega, by omega⟩
theorem sg44 : sgC 44 := by refine ⟨by omega, by omega, by omega, by omega⟩

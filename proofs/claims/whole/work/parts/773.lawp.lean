/-! law: reading, product and sum -/
theorem ch37 : (37 : Int32) = nI 37 := rfl
theorem ch40 : (40 : Int32) = nI 40 := rfl
theorem ch41 : (41 : Int32) = nI 41 := rfl
theorem ch42 : (42 : Int32) = nI 42 := rfl
theorem ch43 : (43 : Int32) = nI 43 := rfl
theorem ch44 : (44 : Int32) = nI 44 := rfl
theorem ch45 : (45 : Int32) = nI 45 := rfl
theorem ch47 : (47 : Int32) = nI 47 := rfl
theorem ch91 : (91 : Int32) = nI 91 := rfl
theorem ch93 : (93 : Int32) = nI 93 := rfl
/-- one sign and what it joins, then the loop again -/
theorem lw_go {n : Nat} {B : Nat → Nat} {v fe : Nat → Int32} (hT : Tp n B v fe) (hn : n ≤ 150) {d : Nat} {G : LCF} {G' : LRF} (hG : LwOK n B v fe G G' d) (KC : Int32 → (Nat → Int32) → Int32 → Int32 → Int32 → Int32 → Int32 → Int32 → Int32 → Int32 → Option (Int32 × (Nat → Int32) × TS)) (KR : Int32 → Int32 → Int32 → Int32 → Int32 → (Nat → Nat → Int32) → Option (Int32 × Int32 × Int32 × Int32 × Int32 × (Nat → Nat → Int32)))
    (hf : ∀ (len : Int32) (code : Nat → Int32) (s : TS) (r : TQ) (op cnt : Int32) (g : Nat → Nat → Int32) (j : Int32), TRf n s r → KC len code s.1 s.2.1 s.2.2.1 s.2.2.2.1 s.2.2.2.2.1 s.2.2.2.2.2 (nI d) j = some (len, code, s) ∧ KR r.1 r.2.1 r.2.2 op cnt g = some (r.1, r.2.1, r.2.2, op, cnt, g))
    {m : Nat} (ih : ∀ (i f k : Nat) (code : Nat → Int32) (s : TS) (r : TQ) (g : Nat → Nat → Int32), n ≤ f + m → i ≤ f → TR0 n B f s r → k ≤ f → ∃ len' code' s' r' op' cnt' g', KC (nI k) code s.1 s.2.1 s.2.2.1 s.2.2.2.1 s.2.2.2.2.1 s.2.2.2.2.2 (nI d) (nI i) = some (len', code', s') ∧ KR r.1 r.2.1 r.2.2 (nI d) (nI k) g = some (r'.1, r'.2.1, r'.2.2, op', cnt', g') ∧ LwOut n B d f k code g 0 len' code' s' r' op' cnt' g')
    {i f k c vv : Nat} (hc : sgC c) (hv : vv < 7) {t0 how : Int32} (ht : t0 = -9 - nI vv) (hw : how = nI (2 + vv)) {s : TS} {r : TQ} (h : TR0 n B f s r) (hs : f < n ∧ B f = c) (hk : k ≤ f) (hi : i ≤ f) (hm : n ≤ f + (m + 1)) (code : Nat → Int32) (g : Nat → Nat → Int32) :
    ∃ len' code' s' r' op' cnt' g', ((f_X7_step (nI n) s.1 s.2.1 s.2.2.1 s.2.2.2.1 s.2.2.2.2.1 v).bind fun q69 => (G (nI k) code (nI n) q69.1 q69.2.1 q69.2.2.1 q69.2.2.2 s.2.2.2.2.1 s.2.2.2.2.2 v (nI d)).bind fun q75 => (f_X3_put q75.1 q75.2.1 t0).bind fun q81 => KC q81.1 q81.2 q75.2.2.1 q75.2.2.2.1 q75.2.2.2.2.1 q75.2.2.2.2.2.1 q75.2.2.2.2.2.2.1 q75.2.2.2.2.2.2.2 (nI d) (nI i + 1)) = some (len', code', s') ∧
      ((G' (nI n) (nI (f + 1)) r.2.1 r.2.2 (nI d) (nI k) fe g).bind fun q60 => (f_X11_notes q60.2.1 q60.2.2.2.2.1 q60.2.2.2.2.2 how (0)).bind fun q66 => KR q60.1 q60.2.1 q60.2.2.1 q60.2.2.2.1 q66.1 q66.2) = some (r'.1, r'.2.1, r'.2.2, op', cnt', g') ∧ LwOut n B d f k code g 0 len' code' s' r' op' cnt' g' := by
  obtain ⟨l1, c1, s1, r1, o1, n1, g1, a1, a2, a3, a4⟩ := lw_join hT hn hG (fun a b c e f g h j => KC a b c e f g h j (nI d) (nI i + 1)) KR hc hv ht hw h hs hk code g
  rcases a3 with ⟨k1, f1, rfl, rfl, rfl, hy⟩ | ⟨⟨k1, hk1, rfl⟩, hF⟩
  · have hlt := a4 f1 hy.1
    have hk2 := hy.2.2.1
    obtain ⟨l2, c2, s2, r2, o2, n2, g2, b1, b2, b3⟩ := ih (i + 1) f1 k1 c1 s1 r1 g1 (by omega) (by omega) hy.1 (by omega)
    exact ⟨l2, c2, s2, r2, o2, n2, g2, a1.trans ((congrArg (KC (nI k1) c1 s1.1 s1.2.1 s1.2.2.1 s1.2.2.2.1 s1.2.2.2.2.1 s1.2.2.2.2.2 (nI d)) (nI_1 i)).trans b1), a2.trans b2, LwOut.comp (up1 := 0) (up2 := 0) hy b3 (by omega)⟩
  · obtain ⟨b1, b2⟩ := hf (nI k1) c1 s1 r1 o1 n1 g1 (nI i + 1) hF
    exact ⟨nI k1, c1, s1, r1, o1, n1, g1, a1.trans b1, a2.trans b2, .inr ⟨⟨k1, hk1, rfl⟩, hF⟩⟩
theorem LwOut.stay {n : Nat} {B : Nat → Nat} {d f k : Nat} {code : Nat → Int32} {g : Nat → Nat → Int32} {s : TS} {r : TQ} (h : TR0 n B f s r) : LwOut n B d f k code g 0 (nI k) code s (nI f, 0, -1) (nI d) (nI k) g :=
  .inl ⟨k, f, rfl, rfl, rfl, h.at, by omega, by omega, by omega, fun _ _ => ⟨rfl, rfl, rfl⟩, fun _ _ => LSeg.nil⟩
theorem lwf_prod {n : Nat} {v fe : Nat → Int32} {G : LCF} {G' : LRF} {q1 q2 : Nat} (len : Int32) (code : Nat → Int32) (s : TS) (r : TQ) (op cnt : Int32) (g : Nat → Nat → Int32) (d j : Int32) (h : TRf n s r) : f_X3_readProduct_b8 G (nI n) v (q1 + 1) len code s.1 s.2.1 s.2.2.1 s.2.2.2.1 s.2.2.2.2.1 s.2.2.2.2.2 d j = some (len, code, s) ∧ f_X11_product_b4 G' (nI n) fe (q2 + 1) r.1 r.2.1 r.2.2 op cnt g = some (r.1, r.2.1, r.2.2, op, cnt, g) := by
  obtain ⟨f, t, x, y, pl, a, hy, ha, rfl, rfl⟩ := h
  refine ⟨?_, ?_⟩
  · rw [f_X3_readProduct_b8]
    by_cases e : 150 ≤ j
    · rw [if_pos e]
    · rw [if_neg e, tf_isSign, Option.bind_some, if_pos rfl, tf_isSign, Option.bind_some, if_pos rfl, tf_isSign, Option.bind_some, if_pos rfl, f_X3_readProduct_b58, if_pos rfl]
  · rw [f_X11_product_b4, if_neg hy]
theorem lwf_sum {n : Nat} {v fe : Nat → Int32} {G : LCF} {G' : LRF} {q1 q2 : Nat} (len : Int32) (code : Nat → Int32) (s : TS) (r : TQ) (op cnt : Int32) (g : Nat → Nat → Int32) (d j : Int32) (h : TRf n s r) : f_X3_readSum_b8 G (nI n) v (q1 + 1) len code s.1 s.2.1 s.2.2.1 s.2.2.2.1 s.2.2.2.2.1 s.2.2.2.2.2 d j = some (len, code, s) ∧ f_X11_sum_b4 G' (nI n) fe (q2 + 1) r.1 r.2.1 r.2.2 op cnt g = some (r.1, r.2.1, r.2.2, op, cnt, g) := by
  obtain ⟨f, t, x, y, pl, a, hy, ha, rfl, rfl⟩ := h
  refine ⟨?_, ?_⟩
  · rw [f_X3_readSum_b8]
    by_cases e : 150 ≤ j
    · rw [if_pos e]
    · rw [if_neg e, tf_isSign, Option.bind_some, if_pos rfl, tf_isSign, Option.bind_some, if_pos rfl]
  · rw [f_X11_sum_b4, if_neg hy]
theorem lw_prod {n : Nat} {B : Nat → Nat} {v fe : Nat → Int32} (hT : Tp n B v fe) (hn : n ≤ 150) {d : Nat} {G : LCF} {G' : LRF} (hG : LwOK n B v fe G G' d) : ∀ (m q1 q2 : Nat), m < q1 → m < q2 → ∀ (i f k : Nat) (code : Nat → Int32) (s : TS) (r : TQ) (g : Nat → Nat → Int32), n ≤ f + m → i ≤ f → TR0 n B f s r → k ≤ f → ∃ len' code' s' r' op' cnt' g', f_X3_readProduct_b8 G (nI n) v q1 (nI k) code s.1 s.2.1 s.2.2.1 s.2.2.2.1 s.2.2.2.2.1 s.2.2.2.2.2 (nI d) (nI i) = some (len', code', s') ∧ f_X11_product_b4 G' (nI n) fe q2 r.1 r.2.1 r.2.2 (nI d) (nI k) g = some (r'.1, r'.2.1, r'.2.2, op', cnt', g') ∧ LwOut n B d f k code g 0 len' code' s' r' op' cnt' g' := by
  intro m
  induction m with
  | zero =>
    intro q1 q2 h1 h2 i f k code s r g hm hi h hk
    obtain ⟨q1, rfl⟩ : ∃ r, q1 = r + 1 := ⟨q1 - 1, by omega⟩
    obtain ⟨q2, rfl⟩ : ∃ r, q2 = r + 1 := ⟨q2 - 1, by omega⟩
    have z := h.ft.2.2.1
    have z2 := h.ft.2.2.2
    refine ⟨nI k, code, s, (nI f, 0, -1), nI d, nI k, g, ?_, ?_, LwOut.stay h⟩
    · rw [f_X3_readProduct_b8]
      by_cases e : 150 ≤ nI i
      · rw [if_pos e]
      · rw [if_neg e, t_isSign0 hT h ch42 sg42 (by omega), Option.bind_some, if_pos rfl, t_isSign0 hT h ch47 sg47 (by omega), Option.bind_some, if_pos rfl, t_isSign0 hT h ch37 sg37 (by omega), Option.bind_some, if_pos rfl, f_X3_readProduct_b58, if_pos rfl]
    · rw [f_X11_product_b4, if_pos z, t_takes0 hT h ch42 sg42 (by omega), Option.bind_some, if_pos rfl, z, z2, show f_X11_takesSign (nI n) (nI f) 0 fe 47 = _ from t_takes0 hT h.at ch47 sg47 (by omega), Option.bind_some, if_pos rfl, show f_X11_takesSign (nI n) (nI f) 0 fe 37 = _ from t_takes0 hT h.at ch37 sg37 (by omega), Option.bind_some, if_pos rfl, f_X11_product_b52, if_pos rfl]
  | succ m ih =>
    intro q1 q2 h1 h2 i f k code s r g hm hi h hk
    obtain ⟨q1, rfl⟩ : ∃ r, q1 = r + 1 := ⟨q1 - 1, by omega⟩
    obtain ⟨q2, rfl⟩ : ∃ r, q2 = r + 1 := ⟨q2 - 1, by omega⟩
    have z := h.ft.2.2.1
    have z2 := h.ft.2.2.2
    have hf0 : ∀ (len : Int32) (code : Nat → Int32) (s : TS) (r : TQ) (op cnt : Int32) (g : Nat → Nat → Int32) (j : Int32), TRf n s r → f_X3_readProduct_b8 G (nI n) v q1 len code s.1 s.2.1 s.2.2.1 s.2.2.2.1 s.2.2.2.2.1 s.2.2.2.2.2 (nI d) j = some (len, code, s) ∧ f_X11_product_b4 G' (nI n) fe q2 r.1 r.2.1 r.2.2 op cnt g = some (r.1, r.2.1, r.2.2, op, cnt, g) := by
      obtain ⟨q1, rfl⟩ : ∃ r, q1 = r + 1 := ⟨q1 - 1, by omega⟩
      obtain ⟨q2, rfl⟩ : ∃ r, q2 = r + 1 := ⟨q2 - 1, by omega⟩
      intro len code s r op cnt g j hF
      exact lwf_prod len code s r op cnt g (nI d) j hF
    have hgo := @lw_go n B v fe hT hn d G G' hG (f_X3_readProduct_b8 G (nI n) v q1) (f_X11_product_b4 G' (nI n) fe q2) hf0 m (ih q1 q2 (by omega) (by omega)) i f k
    by_cases e1 : f < n ∧ B f = 42
    · rw [f_X3_readProduct_b8, if_neg (show ¬ 150 ≤ nI i from (show ¬ nI 150 ≤ nI i from nI_ge (by omega) (by omega))), t_isSign1 hT h ch42 sg42 e1, Option.bind_some, if_neg n1z, f_X3_readProduct_b58, if_neg (by decide), f_X11_product_b4, if_pos z, t_takes1 hT h ch42 sg42 e1, Option.bind_some, if_neg n1z, f_X11_product_b52, if_neg (by decide)]
      exact hgo sg42 (vv := 2) (by omega) (by decide) rfl h e1 hk hi hm code g
    · by_cases e2 : f < n ∧ B f = 47
      · rw [f_X3_readProduct_b8, if_neg (show ¬ 150 ≤ nI i from (show ¬ nI 150 ≤ nI i from nI_ge (by omega) (by omega))), t_isSign0 hT h ch42 sg42 e1, Option.bind_some, if_pos rfl, t_isSign1 hT h ch47 sg47 e2, Option.bind_some, if_neg n1z, f_X3_readProduct_b58, if_neg (by decide), f_X11_product_b4, if_pos z, t_takes0 hT h ch42 sg42 e1, Option.bind_some, if_pos rfl, z, show f_X11_takesSign (nI n) (nI f) 0 fe 47 = _ from t_takes1 hT h.at ch47 sg47 e2, Option.bind_some, if_neg n1z, f_X11_product_b52, if_neg (by decide)]
        have := hgo sg47 (vv := 3) (t0 := -12) (how := 5) (by omega) (by decide) rfl h e2 hk hi hm code g
        rw [z] at this
        exact this
      · by_cases e3 : f < n ∧ B f = 37
        · rw [f_X3_readProduct_b8, if_neg (show ¬ 150 ≤ nI i from (show ¬ nI 150 ≤ nI i from nI_ge (by omega) (by omega))), t_isSign0 hT h ch42 sg42 e1, Option.bind_some, if_pos rfl, t_isSign0 hT h ch47 sg47 e2, Option.bind_some, if_pos rfl, t_isSign1 hT h ch37 sg37 e3, Option.bind_some, if_neg n1z, f_X3_readProduct_b58, if_neg (by decide), f_X11_product_b4, if_pos z, t_takes0 hT h ch42 sg42 e1, Option.bind_some, if_pos rfl, z, show f_X11_takesSign (nI n) (nI f) 0 fe 47 = _ from t_takes0 hT h.at ch47 sg47 e2, Option.bind_some, if_pos rfl, show f_X11_takesSign (nI n) (nI f) 0 fe 37 = _ from t_takes1 hT h.at ch37 sg37 e3, Option.bind_some, if_neg n1z, f_X11_product_b52, if_neg (by decide)]
          have := hgo sg37 (vv := 4) (t0 := -13) (how := 6) (by omega) (by decide) rfl h e3 hk hi hm code g
          rw [z] at this
          exact this
        · refine ⟨nI k, code, s, (nI f, 0, -1), nI d, nI k, g, ?_, ?_, LwOut.stay h⟩
          · rw [f_X3_readProduct_b8]
            by_cases e : 150 ≤ nI i
            · rw [if_pos e]
            · rw [if_neg e, t_isSign0 hT h ch42 sg42 e1, Option.bind_some, if_pos rfl, t_isSign0 hT h ch47 sg47 e2, Option.bind_some, if_pos rfl, t_isSign0 hT h ch37 sg37 e3, Option.bind_some, if_pos rfl, f_X3_readProduct_b58, if_pos rfl]
          · rw [f_X11_product_b4, if_pos z, t_takes0 hT h ch42 sg42 e1, Option.bind_some, if_pos rfl, z, z2, show f_X11_takesSign (nI n) (nI f) 0 fe 47 = _ from t_takes0 hT h.at ch47 sg47 e2, Option.bind_some, if_pos rfl, show f_X11_takesSign (nI n) (nI f) 0 fe 37 = _ from t_takes0 hT h.at ch37 sg37 e3, Option.bind_some, if_pos rfl, f_X11_product_b52, if_pos rfl]
theorem lw_prodOK {n : Nat} {B : Nat → Nat} {v fe : Nat → Int32} (hT : Tp n B v fe) (hn : n ≤ 150) {d : Nat} {G : LCF} {G' : LRF} (hG : LwOK n B v fe G G' d) : LwOK n B v fe (f_X3_readProduct G) (f_X11_product G') d := by
  refine ⟨fun k code s r op cnt g hk hF => ?_, fun f k code s r g h hk => ?_⟩
  · obtain ⟨a1, a2⟩ := hG.1 k code s r op cnt g hk hF
    rw [f_X3_readProduct, a1, Option.bind_some, f_X11_product, a2, Option.bind_some]
    exact lwf_prod (nI k) code s r op cnt g (nI d) 0 hF
  · obtain ⟨l1, c1, s1, r1, o1, n1, g1, a1, a2, a3⟩ := hG.2 f k code s r g h hk
    rw [f_X3_readProduct, a1, Option.bind_some, f_X11_product, a2, Option.bind_some]
    rcases a3 with ⟨k1, f1, rfl, rfl, rfl, hy⟩ | ⟨⟨k1, hk1, rfl⟩, hF⟩
    · have hk2 := hy.2.2.1
      obtain ⟨l2, c2, s2, r2, o2, n2, g2, b1, b2, b3⟩ := lw_prod hT hn hG n 4000 4000 (by omega) (by omega) 0 f1 k1 c1 s1 r1 g1 (by omega) (by omega) hy.1 (by omega)
      exact ⟨l2, c2, s2, r2, o2, n2, g2, b1, b2, LwOut.comp (up1 := 1) (up2 := 0) hy b3 (by omega)⟩
    · obtain ⟨b1, b2⟩ := @lwf_prod n v fe G G' 3999 3999 (nI k1) c1 s1 r1 o1 n1 g1 (nI d) 0 hF
      exact ⟨nI k1, c1, s1, r1, o1, n1, g1, b1, b2, .inr ⟨⟨k1, hk1, rfl⟩, hF⟩⟩
theorem lw_sum {n : Nat} {B : Nat → Nat} {v fe : Nat → Int32} (hT : Tp n B v fe) (hn : n ≤ 150) {d : Nat} {G : LCF} {G' : LRF} (hG : LwOK n B v fe (f_X3_readProduct G) (f_X11_product G') d) : ∀ (m q1 q2 : Nat), m < q1 → m < q2 → ∀ (i f k : Nat) (code : Nat → Int32) (s : TS) (r : TQ) (g : Nat → Nat → Int32), n ≤ f + m → i ≤ f → TR0 n B f s r → k ≤ f → ∃ len' code' s' r' op' cnt' g', f_X3_readSum_b8 G (nI n) v q1 (nI k) code s.1 s.2.1 s.2.2.1 s.2.2.2.1 s.2.2.2.2.1 s.2.2.2.2.2 (nI d) (nI i) = some (len', code', s') ∧ f_X11_sum_b4 G' (nI n) fe q2 r.1 r.2.1 r.2.2 (nI d) (nI k) g = some (r'.1, r'.2.1, r'.2.2, op', cnt', g') ∧ LwOut n B d f k code g 0 len' code' s' r' op' cnt' g' := by
  intro m
  induction m with
  | zero =>
    intro q1 q2 h1 h2 i f k code s r g hm hi h hk
    obtain ⟨q1, rfl⟩ : ∃ r, q1 = r + 1 := ⟨q1 - 1, by omega⟩
    obtain ⟨q2, rfl⟩ : ∃ r, q2 = r + 1 := ⟨q2 - 1, by omega⟩
    have z := h.ft.2.2.1
    have z2 := h.ft.2.2.2
    refine ⟨nI k, code, s, (nI f, 0, -1), nI d, nI k, g, ?_, ?_, LwOut.stay h⟩
    · rw [f_X3_readSum_b8]
      by_cases e : 150 ≤ nI i
      · rw [if_pos e]
      · rw [if_neg e, t_isSign0 hT h ch43 sg43 (by omega), Option.bind_some, if_pos rfl, t_isSign0 hT h ch45 sg45 (by omega), Option.bind_some, if_pos rfl]
    · rw [f_X11_sum_b4, if_pos z, t_takes0 hT h ch43 sg43 (by omega), Option.bind_some, if_pos rfl, z, z2, show f_X11_takesSign (nI n) (nI f) 0 fe 45 = _ from t_takes0 hT h.at ch45 sg45 (by omega), Option.bind_some, if_pos rfl, f_X11_sum_b38, if_pos rfl]
  | succ m ih =>
    intro q1 q2 h1 h2 i f k code s r g hm hi h hk
    obtain ⟨q1, rfl⟩ : ∃ r, q1 = r + 1 := ⟨q1 - 1, by omega⟩
    obtain ⟨q2, rfl⟩ : ∃ r, q2 = r + 1 := ⟨q2 - 1, by omega⟩
    have z := h.ft.2.2.1
    have z2 := h.ft.2.2.2
    have hf0 : ∀ (len : Int32) (code : Nat → Int32) (s : TS) (r : TQ) (op cnt : Int32) (g : Nat → Nat → Int32) (j : Int32), TRf n s r → f_X3_readSum_b8 G (nI n) v q1 len code s.1 s.2.1 s.2.2.1 s.2.2.2.1 s.2.2.2.2.1 s.2.2.2.2.2 (nI d) j = some (len, code, s) ∧ f_X11_sum_b4 G' (nI n) fe q2 r.1 r.2.1 r.2.2 op cnt g = some (r.1, r.2.1, r.2.2, op, cnt, g) := by
      obtain ⟨q1, rfl⟩ : ∃ r, q1 = r + 1 := ⟨q1 - 1, by omega⟩
      obtain ⟨q2, rfl⟩ : ∃ r, q2 = r + 1 := ⟨q2 - 1, by omega⟩
      intro len code s r op cnt g j hF
      exact lwf_sum len code s r op cnt g (nI d) j hF
    have hgo := @lw_go n B v fe hT hn d (f_X3_readProduct G) (f_X11_product G') hG (f_X3_readSum_b8 G (nI n) v q1) (f_X11_sum_b4 G' (nI n) fe q2) hf0 m (ih q1 q2 (by omega) (by omega)) i f k
    by_cases e1 : f < n ∧ B f = 43
    · rw [f_X3_readSum_b8, if_neg (show ¬ 150 ≤ nI i from (show ¬ nI 150 ≤ nI i from nI_ge (by omega) (by omega))), t_isSign1 hT h ch43 sg43 e1, Option.bind_some, if_neg n1z, f_X3_readSum_b33, t_isSign1 hT h ch43 sg43 e1, Option.bind_some, if_neg n1z, f_X3_readSum_b49, f_X11_sum_b4, if_pos z, t_takes1 hT h ch43 sg43 e1, Option.bind_some, if_neg n1z, f_X11_sum_b38, if_neg (by decide)]
      exact hgo sg43 (vv := 0) (by omega) (by decide) rfl h e1 hk hi hm code g
    · by_cases e2 : f < n ∧ B f = 45
      · rw [f_X3_readSum_b8, if_neg (show ¬ 150 ≤ nI i from (show ¬ nI 150 ≤ nI i from nI_ge (by omega) (by omega))), t_isSign0 hT h ch43 sg43 e1, Option.bind_some, if_pos rfl, t_isSign1 hT h ch45 sg45 e2, Option.bind_some, if_neg n1z, f_X3_readSum_b33, t_isSign0 hT h ch43 sg43 e1, Option.bind_some, if_pos rfl, f_X3_readSum_b49, f_X11_sum_b4, if_pos z, t_takes0 hT h ch43 sg43 e1, Option.bind_some, if_pos rfl, z, show f_X11_takesSign (nI n) (nI f) 0 fe 45 = _ from t_takes1 hT h.at ch45 sg45 e2, Option.bind_some, if_neg n1z, f_X11_sum_b38, if_neg (by decide)]
        have := hgo sg45 (vv := 1) (t0 := -10) (how := 3) (by omega) (by decide) rfl h e2 hk hi hm code g
        rw [z] at this
        exact this
      · refine ⟨nI k, code, s, (nI f, 0, -1), nI d, nI k, g, ?_, ?_, LwOut.stay h⟩
        · rw [f_X3_readSum_b8]
          by_cases e : 150 ≤ nI i
          · rw [if_pos e]
          · rw [if_neg e, t_isSign0 hT h ch43 sg43 e1, Option.bind_some, if_pos rfl, t_isSign0 hT h ch45 sg45 e2, Option.bind_some, if_pos rfl]
        · rw [f_X11_sum_b4, if_pos z, t_takes0 hT h ch43 sg43 e1, Option.bind_some, if_pos rfl, z, z2, show f_X11_takesSign (nI n) (nI f) 0 fe 45 = _ from t_takes0 hT h.at ch45 sg45 e2, Option.bind_some, if_pos rfl, f_X11_sum_b38, if_pos rfl]
theorem lw_sumOK {n : Nat} {B : Nat → Nat} {v fe : Nat → Int32} (hT : Tp n B v fe) (hn : n ≤ 150) {d : Nat} {G : LCF} {G' : LRF} (hG0 : LwOK n B v fe G G' d) : LwOK n B v fe (f_X3_readSum G) (f_X11_sum G') d := by
  have hG := lw_prodOK hT hn hG0
  refine ⟨fun k code s r op cnt g hk hF => ?_, fun f k code s r g h hk => ?_⟩
  · obtain ⟨a1, a2⟩ := hG.1 k code s r op cnt g hk hF
    rw [f_X3_readSum, a1, Option.bind_some, f_X11_sum, a2, Option.bind_some]
    exact lwf_sum (nI k) code s r op cnt g (nI d) 0 hF
  · obtain ⟨l1, c1, s1, r1, o1, n1, g1, a1, a2, a3⟩ := hG.2 f k code s r g h hk
    rw [f_X3_readSum, a1, Option.bind_some, f_X11_sum, a2, Option.bind_some]
    rcases a3 with ⟨k1, f1, rfl, rfl, rfl, hy⟩ | ⟨⟨k1, hk1, rfl⟩, hF⟩
    · have hk2 := hy.2.2.1
      obtain ⟨l2, c2, s2, r2, o2, n2, g2, b1, b2, b3⟩ := lw_sum hT hn hG n 4000 4000 (by omega) (by omega) 0 f1 k1 c1 s1 r1 g1 (by omega) (by omega) hy.1 (by omega)
      exact ⟨l2, c2, s2, r2, o2, n2, g2, b1, b2, LwOut.comp (up1 := 1) (up2 := 0) hy b3 (by omega)⟩
    · obtain ⟨b1, b2⟩ := @lwf_sum n v fe G G' 3999 3999 (nI k1) c1 s1 r1 o1 n1 g1 (nI d) 0 hF
      exact ⟨nI k1, c1, s1, r1, o1, n1, g1, b1, b2, .inr ⟨⟨k1, hk1, rfl⟩, hF⟩⟩

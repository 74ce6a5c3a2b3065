/-! work: rinse, break, day -/
theorem r_rinse_b {m19 : Int32} {to v2 v25 v26 : Nat → Int32} {pa ra od la : Nat → Nat → Int32} {n2 : Nat} {z : Int32} : ∀ (m i q : Nat) (row : Nat → Int32), i + m = 201 → m < q → ∃ row', f_X11_does_b138 m19 to pa ra od la 2685 n2 v2 q v25 v26 row z (nI i) = cz z (some (z, v25, v26, row')) ∧ ∀ k, row' k = if 2480 + i ≤ k ∧ k < 2681 then 0 else row k := by
  intro m
  induction m with
  | zero =>
    intro i q row hi hq
    obtain ⟨q, rfl⟩ : ∃ r, q = r + 1 := ⟨q - 1, by omega⟩
    refine ⟨row, ?_, fun k => by rw [if_neg (by omega)]⟩
    rw [f_X11_does_b138, pl200, if_pos (nI_lt (by omega) (by omega))]
  | succ m ih =>
    intro i q row hi hq
    obtain ⟨q, rfl⟩ : ∃ r, q = r + 1 := ⟨q - 1, by omega⟩
    obtain ⟨row', a1, a2⟩ := ih (i + 1) q (upd row (2480 + i) 0) (by omega) (by omega)
    refine ⟨row', ?_, fun k => ?_⟩
    · rw [f_X11_does_b138, pl200, if_neg (nI_nlt (by omega) (by omega)), pl2480, nI_add, pu_ck (by omega) (by omega), nI_clamp (by omega), nI_1]
      exact a1
    · rw [a2 k, upd]
      by_cases e : 2480 + (i + 1) ≤ k ∧ k < 2681
      · rw [if_pos e, if_pos (by omega)]
      · rw [if_neg e]
        by_cases e2 : k = 2480 + i
        · rw [if_pos e2, if_pos (by omega)]
        · rw [if_neg e2, if_neg (by omega)]
theorem wk_rinse {np hd : Nat} {W H : Nat → Nat} (h30 : hd ≤ 30) {i3 i4 i5 i6 i7 : Int32} {fi de rg row : Nat → Int32} (h : PzGX np hd W H (i3, i4, i5, i6, i7, fi, de, rg) row) {m19 : Int32} {to v2 v25 v26 : Nat → Int32} {pa ra od la : Nat → Nat → Int32} {n2 : Nat} :
    ∃ z i3' rg' row', f_X2_rinse i3 rg = some (z, i3', rg') ∧ (z = 0 ∨ z = 1) ∧ ((f_X11_onRag 2685 row).bind fun q123 => if q123 ≤ 0 then (f_X11_does_b134 m19 to pa ra od la 2685 n2 v2 v25 v26 row (0)) else (f_X11_does_b134 m19 to pa ra od la 2685 n2 v2 v25 v26 row (1))) = some (z, v25, v26, row') ∧ PzGX np hd W H (i3', i4, i5, i6, i7, fi, de, rg') row' := by
  obtain ⟨dp, fd, dy, h1, h2, h3, h4, h5, h6, h7, b, hb1, hb2, hb3, hb4⟩ := h
  have h5' : i3 = pzRag row 201 := h5
  have hG : ∀ row' : Nat → Int32, (∀ k, row' k = if 2480 ≤ k ∧ k < 2681 then 0 else row k) → PzGX np hd W H (0, i4, i5, i6, i7, fi, de, fillF rg 0 0 201) row' := by
    intro row' hr
    refine ⟨dp, fd, dy, fun c hc => ?_, fun c hc j hj => ?_, ?_, fun d hd => ?_, ?_, ?_, ?_, b, hb1, hb2, ?_, hb4⟩
    · rw [hr, if_neg (by omega)]
      exact h1 c hc
    · have := (h1 c hc).1
      obtain ⟨a1, a2, a3⟩ := h2 c hc j hj
      rw [hr, if_neg (by omega)]
      exact ⟨a1, a2, a3⟩
    · rw [hr, if_neg (by omega)]
      exact h3
    · show fillF rg 0 0 201 d = row' (2480 + d)
      rw [hr, if_pos (by omega), fillF, if_pos (by omega)]
    · show (0 : Int32) = pzRag row' 201
      rw [pzRag_0 201 (by omega) (fun k hk => by rw [hr, if_pos (by omega)])]
      rfl
    · rw [hr, if_neg (by omega)]
      exact h6
    · rw [hr, if_neg (by omega)]
      exact h7
    · rw [hr, if_neg (by omega)]
      exact hb3
  rw [r_onRag, Option.bind_some, ← h5', f_X2_rinse]
  by_cases e : i3 ≤ 0
  · obtain ⟨row', a1, a2⟩ := r_rinse_b (m19 := m19) (to := to) (v2 := v2) (v25 := v25) (v26 := v26) (pa := pa) (ra := ra) (od := od) (la := la) (n2 := n2) (z := 0) 201 0 4000 row (by omega) (by omega)
    refine ⟨0, 0, fillF rg 0 0 201, row', ?_, .inl rfl, ?_, hG row' a2⟩
    · rw [if_pos e, f_X2_rinse_b12, p_fill (by omega), Option.bind_some]
      rfl
    · rw [if_pos e, f_X11_does_b134]
      exact a1
  · obtain ⟨row', a1, a2⟩ := r_rinse_b (m19 := m19) (to := to) (v2 := v2) (v25 := v25) (v26 := v26) (pa := pa) (ra := ra) (od := od) (la := la) (n2 := n2) (z := 1) 201 0 4000 row (by omega) (by omega)
    refine ⟨1, 0, fillF rg 0 0 201, row', ?_, .inr rfl, ?_, hG row' a2⟩
    · rw [if_neg e, f_X2_rinse_b12, p_fill (by omega), Option.bind_some]
      rfl
    · rw [if_neg e, f_X11_does_b134]
      exact a1
theorem p_smash_b {p : Nat} (hp : p < 5) {i6 : Int32} : ∀ (m i q : Nat) (de : Nat → Int32), i + m = 16 → m < q → ∃ de', f_X2_smash_b24 q i6 de (nI p) (nI i) = some (1, i6, de') ∧ ∀ k, de' k = if 16 * p + i ≤ k ∧ k < 16 * p + 16 then 0 else de k := by
  intro m
  induction m with
  | zero =>
    intro i q de hi hq
    obtain ⟨q, rfl⟩ : ∃ r, q = r + 1 := ⟨q - 1, by omega⟩
    refine ⟨de, ?_, fun k => by rw [if_neg (by omega)]⟩
    rw [f_X2_smash_b24, pl16, if_pos (nI_le (by omega) (by omega))]
  | succ m ih =>
    intro i q de hi hq
    obtain ⟨q, rfl⟩ : ∃ r, q = r + 1 := ⟨q - 1, by omega⟩
    obtain ⟨de', a1, a2⟩ := ih (i + 1) q (upd de (16 * p + i) 0) (by omega) (by omega)
    refine ⟨de', ?_, fun k => ?_⟩
    · rw [f_X2_smash_b24, pl16, if_neg (nI_ge (by omega) (by omega)), pk_mul, nI_add, pu_ck (by omega) (by omega), nI_clamp (by omega), nI_1]
      exact a1
    · rw [a2 k, upd]
      by_cases e : 16 * p + (i + 1) ≤ k ∧ k < 16 * p + 16
      · rw [if_pos e, if_pos (by omega)]
      · rw [if_neg e]
        by_cases e2 : k = 16 * p + i
        · rw [if_pos e2, if_pos (by omega)]
        · rw [if_neg e2, if_neg (by omega)]
theorem wk_smash {np hd : Nat} {W H : Nat → Nat} (h30 : hd ≤ 30) {i3 i4 i5 i6 i7 : Int32} {fi de rg row : Nat → Int32} (h : PzGX np hd W H (i3, i4, i5, i6, i7, fi, de, rg) row) {p : Nat} (hp : p < 5) :
    ∃ z i6' de' row', f_X2_smash i6 de (nI p) = some (z, i6', de') ∧ (z = 0 ∨ z = 1) ∧ f_X11_breaks 2685 row (nI p) = some (z, row') ∧ PzGX np hd W H (i3, i4, i5, i6', i7, fi, de', rg) row' := by
  have h0 := h
  obtain ⟨dp, fd, dy, h1, h2, h3, h4, h5, h6, h7, b, hb1, hb2, hb3, hb4⟩ := h
  have hb2' : i6 = nI b := hb2
  subst hb2'
  by_cases e : b.testBit p = true
  · refine ⟨0, nI b, de, row, ?_, .inl rfl, r_breaksNo hp hb1 hb3 e, h0⟩
    rw [f_X2_smash, f_X2_isBroken, if_pos (by rw [bit_if (by omega) (by omega)]; exact e), Option.bind_some, if_neg n1z]
  · obtain ⟨row', a1, a2⟩ := r_breaks hp hb1 hb3 e
    have e6 : nI b ||| ((1 : Int32) <<< (nI p &&& 31)) = nI (b ||| 2 ^ p) := by rw [pl31, pl1, pn_shl (by omega), pz_or]
    obtain ⟨de', c1, c2⟩ := p_smash_b hp (i6 := nI (b ||| 2 ^ p)) 16 0 4000 de (by omega) (by omega)
    refine ⟨1, nI (b ||| 2 ^ p), de', row', ?_, .inr rfl, a1, fun c => if c / 16 = p then 0 else dp c, fd, dy, fun c hc => ?_, fun c hc j hj => ?_, ?_, fun d hd => ?_, ?_, ?_, ?_, b ||| 2 ^ p, or_lt32 hb1 hp, rfl, ?_, fun c hc hb => ?_⟩
    · rw [f_X2_smash, f_X2_isBroken, if_neg (by rw [bit_if (by omega) (by omega)]; exact e), Option.bind_some, if_pos rfl, e6]
      exact c1
    · obtain ⟨b1, b2, b3, b4⟩ := h1 c hc
      show (if c / 16 = p then 0 else dp c) ≤ hd ∧ de' c = nI (if c / 16 = p then 0 else dp c) ∧ row' (2400 + c) = nI (if c / 16 = p then 0 else dp c) ∧ (0 < (if c / 16 = p then 0 else dp c) → pzIn np W H c)
      by_cases e2 : c / 16 = p
      · rw [if_pos e2, c2, if_pos (by omega), a2, if_neg (by omega), if_pos (by omega)]
        exact ⟨by omega, rfl, rfl, fun h => absurd h (by omega)⟩
      · rw [if_neg e2, c2, if_neg (by omega), a2, if_neg (by omega), if_neg (by omega)]
        exact ⟨b1, b2, b3, b4⟩
    · have hj0 : j < (if c / 16 = p then 0 else dp c) := hj
      by_cases e2 : c / 16 = p
      · rw [if_pos e2] at hj0
        omega
      · rw [if_neg e2] at hj0
        have hle := (h1 c hc).1
        obtain ⟨b1, b2, b3⟩ := h2 c hc j hj0
        show fi (30 * c + j) = nI (fd (30 * c + j)) ∧ row' (30 * c + j) = nI (fd (30 * c + j)) ∧ 1 ≤ fd (30 * c + j) ∧ fd (30 * c + j) ≤ dy ∧ (j + 1 < (if c / 16 = p then 0 else dp c) → fd (30 * c + j) < fd (30 * c + j + 1))
        rw [a2, if_neg (by omega), if_neg (by omega), if_neg e2]
        exact ⟨b1, b2, b3⟩
    · rw [a2, if_neg (by omega), if_neg (by omega)]
      exact h3
    · rw [a2, if_neg (by omega), if_neg (by omega)]
      exact h4 d hd
    · show i3 = pzRag row' 201
      rw [pzRag_S, rgS_ext (g := fun d => row (2480 + d)) 201 (fun d hd => by rw [a2, if_neg (by omega), if_neg (by omega)]), ← pzRag_S]
      exact h5
    · rw [a2, if_neg (by omega), if_neg (by omega)]
      exact h6
    · rw [a2, if_neg (by omega), if_neg (by omega)]
      exact h7
    · rw [a2, if_pos rfl]
    · rw [tb_or, Bool.or_eq_true, decide_eq_true_iff] at hb
      show (if c / 16 = p then 0 else dp c) = 0
      by_cases e2 : c / 16 = p
      · rw [if_pos e2]
      · rw [if_neg e2]
        rcases hb with hb | hb
        · exact hb4 c hc hb
        · exact absurd hb.symm e2
theorem p_pass76 {np hd : Nat} {W H : Nat → Nat} {l : CX3} {lv : (Nat → Int32) → Int32} {fl ce ra od : Nat → Int32} {dp fd : Nat → Nat} {b dn r : Nat} {i5 i7 i8 : Int32} (hn : np ≤ 5) (hWH : ∀ p, p < np → W p ≤ 4 ∧ H p ≤ 4 ∧ ce p = nI (pzcb (W p) (H p))) (h1 : 1 ≤ hd) (h30 : hd ≤ 30) (hdn : dn ≤ 200) (hra : ra dn = nI r) (hb32 : b < 32) (l1 : ∀ kn st, ∃ st', f_X3_valueFor l.1 l.2.1 st 8 kn = some (lv kn, st')) (l3 : ∀ kn kn', (∀ k, k < 8 → kn k = kn' k) → lv kn = lv kn') : ∀ (m i q : Nat) (nm st fi de : Nat → Int32), i + m = np → m < q → (∀ c, 16 * i ≤ c → c < 16 * np → de c = nI (dp c) ∧ dp c ≤ hd ∧ ∀ j, j < dp c → fi (30 * c + j) = nI (fd (30 * c + j))) → ∃ nm' fi' de' st', f_X8_passDay_b76 (nI b) (nI np) i8 (nI hd) fl ce ra od l.1 l.2.1 q nm (nI dn) i5 i7 fi de st (nI i) = some (1, nm', nI dn, i5, i7, fi', de', st') ∧ (∀ c, 16 * i ≤ c → c < 16 * np → de' c = nI (dpN (acN np W H lv dp fd fl b (nI dn) (nI r)) dp hd c) ∧ ∀ j, j < dpN (acN np W H lv dp fd fl b (nI dn) (nI r)) dp hd c → fi' (30 * c + j) = nI (fdN (acN np W H lv dp fd fl b (nI dn) (nI r)) dp fd hd dn (30 * c + j))) ∧ (∀ c, ¬ (16 * i ≤ c ∧ c < 16 * np) → de' c = de c) ∧ (∀ t, ¬ (30 * (16 * i) ≤ t ∧ t < 30 * (16 * np)) → fi' t = fi t) := by
  intro m
  induction m with
  | zero =>
    intro i q nm st fi de hi hq hR
    obtain ⟨q, rfl⟩ : ∃ r, q = r + 1 := ⟨q - 1, by omega⟩
    refine ⟨nm, fi, de, st, ?_, fun c h2 h3 => absurd h2 (by omega), fun c _ => rfl, fun t _ => rfl⟩
    rw [f_X8_passDay_b76, if_pos (nI_le (by omega) (by omega))]
  | succ m ih =>
    intro i q nm st fi de hi hq hR
    obtain ⟨q, rfl⟩ : ∃ r, q = r + 1 := ⟨q - 1, by omega⟩
    obtain ⟨w4, h4, hce⟩ := hWH i (by omega)
    obtain ⟨nm1, fi1, de2, st1, e1, e2, e3, e4⟩ := p_setOn (np := np) (W := W) (H := H) (l := l) (lv := lv) (fl := fl) (ce := ce) (ra := ra) (dp := dp) (fd := fd) (b := b) (p := i) (hd := hd) (dn := dn) (wn := r) (i6 := nI b) (by omega) (by omega) w4 h4 h1 h30 hce hdn hra rfl hb32 l1 l3 nm st fi de (fun c h2 h3 => hR c (by omega) (by omega))
    obtain ⟨nm', fi', de', st', b1, b2, b3, b4⟩ := ih (i + 1) q nm1 st1 fi1 de2 (by omega) (by omega) (fun c h2 h3 => by
      obtain ⟨s1, s2, s3⟩ := hR c (by omega) h3
      refine ⟨by rw [e3 _ (by omega)]; exact s1, s2, fun j hj => ?_⟩
      rw [e4 _ (by omega)]
      exact s3 j hj)
    refine ⟨nm', fi', de', st', ?_, fun c h2 h3 => ?_, fun c h2 => ?_, fun t h2 => ?_⟩
    · rw [f_X8_passDay_b76, if_neg (nI_ge (by omega) (by omega)), e1, Option.bind_some, nI_1]
      exact b1
    · by_cases e : c < 16 * i + 16
      · obtain ⟨g1, g2⟩ := e2 c h2 e
        refine ⟨by rw [b3 _ (by omega)]; exact g1, fun j hj => ?_⟩
        have hle : dpN (acN np W H lv dp fd fl b (nI dn) (nI r)) dp hd c ≤ hd := by
          have := (hR c h2 h3).2.1
          rw [dpN]
          by_cases ha : acN np W H lv dp fd fl b (nI dn) (nI r) c = true
          · rw [if_pos ha]
            exact dpS_le this
          · rw [if_neg ha]
            exact this
        rw [b4 _ (by omega)]
        exact g2 j hj
      · exact b2 c (by omega) h3
    · rw [b3 _ (by omega), e3 _ (by omega)]
    · rw [b4 _ (by omega), e4 _ (by omega)]
theorem p_pass41 {np r : Nat} {dp : Nat → Nat} {fl ce ra od code nm fi st : Nat → Int32} {i4 i6 i7 i8 i12 i32 : Int32} (hn : np ≤ 5) (hr : r ≤ 200) : ∀ (m i q : Nat) (i5 : Int32) (de : Nat → Int32), i + m = np → m < q → (∀ c, 16 * i ≤ c → c < 16 * np → de c = nI (dp c) ∧ dp c ≤ 30) → ∃ de', f_X8_passDay_b41 i6 (nI np) i8 i12 fl ce ra od i32 code q nm i4 i5 i7 fi de st (nI r) (nI i) = f_X8_passDay_b76 i6 (nI np) i8 i12 fl ce ra od i32 code 4000 nm i4 (i5 + nI (sF (wsP dp r) m i)) i7 fi de' st 0 ∧ ∀ c, de' c = if 16 * i ≤ c ∧ c < 16 * np then nI (dp c - r) else de c := by
  intro m
  induction m with
  | zero =>
    intro i q i5 de hi hq hR
    obtain ⟨q, rfl⟩ : ∃ r, q = r + 1 := ⟨q - 1, by omega⟩
    refine ⟨de, ?_, fun c => by rw [if_neg (by omega)]⟩
    rw [f_X8_passDay_b41, if_pos (nI_le (by omega) (by omega)), sF, nI_0, Int32.add_zero]
  | succ m ih =>
    intro i q i5 de hi hq hR
    obtain ⟨q, rfl⟩ : ∃ r, q = r + 1 := ⟨q - 1, by omega⟩
    obtain ⟨de1, w1, w2⟩ := p_wash (dp := dp) (de := de) (p := i) (r := r) (by omega) hr (fun c h2 h3 => hR c (by omega) (by omega))
    obtain ⟨de', a1, a2⟩ := ih (i + 1) q (i5 + nI (wsP dp r i)) de1 (by omega) (by omega) (fun c h2 h3 => by
      rw [w2, if_neg (by omega)]
      exact hR c (by omega) h3)
    refine ⟨de', ?_, fun c => ?_⟩
    · rw [f_X8_passDay_b41, if_neg (nI_ge (by omega) (by omega)), w1, Option.bind_some, nI_1]
      rw [sF, ← nI_add (wsP dp r i) (sF (wsP dp r) m (i + 1)), ← Int32.add_assoc]
      exact a1
    · rw [a2, w2]
      by_cases e : 16 * (i + 1) ≤ c ∧ c < 16 * np
      · rw [if_pos e, if_pos (by omega)]
      · rw [if_neg e]
        by_cases e2 : 16 * i ≤ c ∧ c < 16 * i + 16
        · rw [if_pos e2, if_pos (by omega)]
        · rw [if_neg e2, if_neg (by omega)]
theorem wk_day {np no hd : Nat} {W H : Nat → Nat} {s : CX6} {to : Nat → Int32} {pa ra od : Nat → Nat → Int32} (hS : PzS np no hd W H s to pa ra od) {l : CX3} {m19 : Int32} {la : Nat → Nat → Int32} (hL : ∃ lv : (Nat → Int32) → Int32, (∀ kn st, ∃ st', f_X3_valueFor l.1 l.2.1 st 8 kn = some (lv kn, st')) ∧ (∀ kn st, ∃ st', f_X11_byLaw m19 st kn la = some (lv kn, st')) ∧ (∀ kn kn', (∀ k, k < 8 → kn k = kn' k) → lv kn = lv kn')) {i3 i4 i5 i6 i7 : Int32} {fi de rg row : Nat → Int32} (h : PzGX np hd W H (i3, i4, i5, i6, i7, fi, de, rg) row) (nm st v25 v26 : Nat → Int32) :
    ∃ z nm' i4' i5' i7' fi' de' st' v25' v26' row', f_X8_passDay nm i4 i5 i6 i7 fi de s.1 s.2.2.1 s.2.2.2.2.2.1 s.2.2.2.2.2.2.2.2.2.1 s.2.2.2.2.2.2.2.2.2.2.1 s.2.2.2.2.2.2.2.2.2.2.2.1 s.2.2.2.2.2.2.2.2.2.2.2.2 l.1 l.2.1 st = some (z, nm', i4', i5', i7', fi', de', st') ∧ (z = 0 ∨ z = 1) ∧ f_X11_dayEnds m19 to v25 v26 pa ra od la 2685 row = some (z, v25', v26', row') ∧ PzGX np hd W H (i3, i4', i5', i6, i7', fi', de', rg) row' := by
  have h0 := h
  obtain ⟨dp, fd, dy, hG⟩ := h
  have h30 := hS.2.2.1.2
  have h1 := hS.2.2.1.1
  have hn := hS.1
  have hno := hS.2.1
  obtain ⟨lv, l1, l2, l3⟩ := hL
  obtain ⟨hdy, hd1, hd2⟩ := hG.2.2.1
  have hd1' : i4 = nI dy := hd1
  obtain ⟨b, hb32, hb1, hb2, hb0⟩ := hG.2.2.2.2.2.2.2
  have hb1' : i6 = nI b := hb1
  obtain ⟨nr, rn, hnr, htr, hrn⟩ := hS.rn
  obtain ⟨X, D, U, hX⟩ := hS.fc
  obtain ⟨A, F, hF⟩ := hS.fn
  subst hd1' hb1'
  by_cases e : dy < 200
  · obtain ⟨rr1, rr2, rr3⟩ := hrn (dy + 1) (by omega)
    have hR : rRep hd row dp fd := fun c hc => ⟨hG.many hc, hG.le hc, fun j hj => (hG.2.1 c hc j hj).2.1⟩
    have hout : ∀ c, c < 80 → 16 * np ≤ c → dp c = 0 := fun c hc hc2 => wf_out hG.wf hc hc2
    obtain ⟨v25', v26', row', a1, a2, a3, a4, a5, a6, a7⟩ := r_dayEnds hS (m19 := m19) (la := la) (lv := lv) (fl := s.2.2.2.2.2.2.2.2.2.1) (fun p hp => by rw [(hF p hp).2.2.2.2.2, (hF p hp).2.2.2.2.1]) l2 l3 (fun o ho => ⟨(hX o ho).1, (hX o ho).2.1, (hX o ho).2.2.1, (hX o ho).2.2.2.2.1, (hX o ho).2.2.2.2.2.2.1, (hX o ho).2.2.2.2.2.2.2.2⟩) hnr htr (fun d hd => ⟨(hrn d hd).1, (hrn d hd).2.2⟩) hR hout hb2 hb32 hd2 e (fun c hc => bhn_le hG hc 0) v25 v26
    have hsh : ∀ c, c < 80 → f_X2_shown fi de (nI c) = some (nI (bhn dp fd c 0)) := fun c hc => p_shown1 hc (hG.dep hc) (Nat.le_trans (hG.le hc) h30) (fun j hj => (hG.2.1 c hc j hj).1)
    have hj : f_X8_judgeOrders s.2.2.1 s.2.2.2.2.2.2.2.2.2.2.2.2 (nI dy) i7 fi de = some (mtF (meB dp fd X D U dy) no 0 i7) := by
      rw [f_X8_judgeOrders]
      exact p_judge hS.2.1 hS.2.2.2.2.1.1 hdy (fun c hc => bhn_le hG hc 0) hsh (fun o ho => ⟨(hX o ho).1, (hX o ho).2.1, (hX o ho).2.2.1, (hX o ho).2.2.2.1, (hX o ho).2.2.2.2.2.1, (hX o ho).2.2.2.2.2.2.2.1⟩) no 0 4000 i7 (by omega) (by omega)
    obtain ⟨de1, c1, c2⟩ := p_pass41 (np := np) (r := rn (dy + 1)) (dp := dp) (fl := s.2.2.2.2.2.2.2.2.2.1) (ce := s.2.2.2.2.2.2.2.2.2.2.1) (ra := s.2.2.2.2.2.2.2.2.2.2.2.1) (od := s.2.2.2.2.2.2.2.2.2.2.2.2) (code := l.2.1) (nm := nm) (fi := fi) (st := st) (i4 := nI (dy + 1)) (i6 := nI b) (i7 := mtF (meB dp fd X D U dy) no 0 i7) (i8 := s.2.2.1) (i12 := s.2.2.2.2.2.1) (i32 := l.1) hn (by omega) np 0 4000 i5 de (by omega) (by omega) (fun c _ hc => ⟨hG.dep (by omega), Nat.le_trans (hG.le (by omega)) h30⟩)
    obtain ⟨nm', fi', de', st', e1, e2, e3, e4⟩ := p_pass76 (np := np) (hd := hd) (W := W) (H := H) (l := l) (lv := lv) (fl := s.2.2.2.2.2.2.2.2.2.1) (ce := s.2.2.2.2.2.2.2.2.2.2.1) (ra := s.2.2.2.2.2.2.2.2.2.2.2.1) (od := s.2.2.2.2.2.2.2.2.2.2.2.2) (dp := dp1 dp (rn (dy + 1))) (fd := fd) (b := b) (dn := dy + 1) (r := rn (dy + 1)) (i5 := i5 + nI (sF (wsP dp (rn (dy + 1))) np 0)) (i7 := mtF (meB dp fd X D U dy) no 0 i7) (i8 := s.2.2.1) hn (fun p hp => by
      obtain ⟨n1, n2, n3, n4, n5, n6, n7, n8, n9⟩ := hS.2.2.2.2.2.2.2.2.2.1 p hp
      exact ⟨n1.2, n2.2, n9⟩) h1 h30 (by omega) rr2 hb32 l1 l3 np 0 4000 nm st fi de1 (by omega) (by omega) (fun c _ hc => by
      have hc8 : c < 80 := by omega
      have := hG.le hc8
      refine ⟨by rw [c2, if_pos (by omega), dp1], by rw [dp1]; omega, fun j hj => (hG.2.1 c hc8 j (by rw [dp1] at hj; omega)).1⟩)
    have hw := wf_step (lv := lv) (fl := s.2.2.2.2.2.2.2.2.2.1) (b := b) (r := rn (dy + 1)) (D := nI (dy + 1)) (wt := nI (rn (dy + 1))) h1 h30 hG.wf e
    refine ⟨1, nm', nI (dy + 1), i5 + nI (sF (wsP dp (rn (dy + 1))) np 0), mtF (meB dp fd X D U dy) no 0 i7, fi', de', st', v25', v26', row', ?_, .inr rfl, a1, dpN (acN np W H lv (dp1 dp (rn (dy + 1))) fd s.2.2.2.2.2.2.2.2.2.1 b (nI (dy + 1)) (nI (rn (dy + 1)))) (dp1 dp (rn (dy + 1))) hd, fdN (acN np W H lv (dp1 dp (rn (dy + 1))) fd s.2.2.2.2.2.2.2.2.2.1 b (nI (dy + 1)) (nI (rn (dy + 1)))) (dp1 dp (rn (dy + 1))) fd hd (dy + 1), dy + 1, fun c hc => ?_, fun c hc j hj => ?_, ⟨by omega, rfl, a2⟩, fun d hd => ?_, ?_, ?_, ?_, b, hb32, rfl, by rw [a5]; exact hb2, fun c hc hbb => ?_⟩
    · rw [f_X8_passDay, pl200, if_pos (nI_lt e (by omega)), hj, Option.bind_some, nI_1, pu_ck (by omega) (by omega), nI_clamp (by omega), rr2, hS.2.2.2.1.1, hS.2.2.2.2.2.2.2.2.1.1]
      rw [hS.2.2.2.2.2.2.2.2.1.1] at c1
      exact c1.trans e1
    · have hcd : de' c = nI (dpN (acN np W H lv (dp1 dp (rn (dy + 1))) fd s.2.2.2.2.2.2.2.2.2.1 b (nI (dy + 1)) (nI (rn (dy + 1)))) (dp1 dp (rn (dy + 1))) hd c) := by
        by_cases hcn : c < 16 * np
        · exact (e2 c (by omega) hcn).1
        · rw [e3 c (by omega), c2, if_neg (by omega), wf_out hw hc (by omega), ← hout c hc (by omega)]
          exact hG.dep hc
      exact ⟨(hw.1 c hc).1, hcd, (a7 c hc).1, (hw.1 c hc).2⟩
    · have hcn : c < 16 * np := by
        by_cases hcn : c < 16 * np
        · exact hcn
        · rw [wf_out hw hc (by omega)] at hj
          omega
      exact ⟨(e2 c (by omega) hcn).2 j hj, (a7 c hc).2.2 j hj, hw.2.1 c hc j hj⟩
    · rw [a6 d hd]
      exact hG.2.2.2.1 d hd
    · show i3 = pzRag row' 201
      rw [pzRag_S, rgS_ext (g := fun d => row (2480 + d)) 201 (fun d hd => a6 d (by omega)), ← pzRag_S]
      exact hG.2.2.2.2.1
    · show i5 + nI (sF (wsP dp (rn (dy + 1))) np 0) = row' 2683
      rw [a3, show sF (fun c => min (rn (dy + 1)) (dp c)) (16 * np) 0 = sF (wsP dp (rn (dy + 1))) np 0 from sF_panes (fun c => min (rn (dy + 1)) (dp c)) np 0]
      rw [show i5 = row 2683 from hG.2.2.2.2.2.1]
    · show mtF (meB dp fd X D U dy) no 0 i7 = row' 2682
      rw [a4]
      rw [show i7 = row 2682 from hG.2.2.2.2.2.2.1]
    · rw [dpN, act_brk hbb, if_neg (show ¬ (false = true) by decide), dp1, hb0 c hc hbb, Nat.zero_sub]
  · refine ⟨0, nm, nI dy, i5, i7, fi, de, st, v25, v26, row, ?_, .inl rfl, ?_, h0⟩
    · rw [f_X8_passDay, pl200, if_neg (nI_nlt (by omega) (by omega))]
    · rw [f_X11_dayEnds, pl2684, pu_ck (by omega) (by omega), nI_clamp (by omega), hd2, if_pos (by rw [pl200, show dy = 200 by omega])]

/-! work: wiping -/
def rgN (dp fd : Nat → Nat) (c : Nat) : Nat → Nat → (Nat → Int32) → (Nat → Int32)
  | 0, _, rg => rg
  | m + 1, j, rg => rgN dp fd c m (j + 1) (upd rg (bhn dp fd c j) (rg (bhn dp fd c j) + 1))
def rgS (f : Nat → Int32) : Nat → Int32
  | 0 => nI 0
  | n + 1 => rgS f n + f n
theorem pzRag_S (row : Nat → Int32) : ∀ n, pzRag row n = rgS (fun d => row (2480 + d)) n := by
  intro n
  induction n with
  | zero => rfl
  | succ n ih => rw [pzRag, rgS, ih]
theorem rgS_ext {f g : Nat → Int32} : ∀ n, (∀ d, d < n → f d = g d) → rgS f n = rgS g n := by
  intro n
  induction n with
  | zero =>
    intro h
    rfl
  | succ n ih =>
    intro h
    rw [rgS, rgS, ih (fun d hd => h d (by omega)), h n (by omega)]
theorem rgS_up (f : Nat → Int32) (k : Nat) : ∀ n, rgS (upd f k (f k + 1)) n = if k < n then rgS f n + 1 else rgS f n := by
  intro n
  induction n with
  | zero =>
    rw [if_neg (by omega)]
    rfl
  | succ n ih =>
    rw [rgS, ih, upd]
    by_cases e : n = k
    · subst e
      rw [if_neg (by omega), if_pos rfl, if_pos (by omega), rgS, Int32.add_assoc]
    · rw [if_neg e]
      by_cases e2 : k < n
      · rw [if_pos e2, if_pos (by omega), rgS, Int32.add_assoc, Int32.add_assoc, Int32.add_comm 1]
      · rw [if_neg e2, if_neg (by omega), rgS]
theorem rgS_N {dp fd : Nat → Nat} {c : Nat} (h : ∀ k, bhn dp fd c k ≤ 200) : ∀ m j rg, rgS (rgN dp fd c m j rg) 201 = rgS rg 201 + nI m := by
  intro m
  induction m with
  | zero =>
    intro j rg
    rw [rgN, nI_0, Int32.add_zero]
  | succ m ih =>
    intro j rg
    have := h j
    rw [rgN, ih, rgS_up, if_pos (by omega), nI_succ, Int32.add_assoc, Int32.add_comm 1]
theorem rgN_ext {dp fd : Nat → Nat} {c : Nat} : ∀ m j (f g : Nat → Int32), (∀ d, d ≤ 200 → f d = g d) → ∀ d, d ≤ 200 → rgN dp fd c m j f d = rgN dp fd c m j g d := by
  intro m
  induction m with
  | zero =>
    intro j f g h d hd
    exact h d hd
  | succ m ih =>
    intro j f g h d hd
    rw [rgN, rgN]
    refine ih (j + 1) _ _ (fun d hd => ?_) d hd
    rw [upd, upd]
    by_cases e : d = bhn dp fd c j
    · rw [if_pos e, if_pos e, h _ (by omega)]
    · rw [if_neg e, if_neg e, h d hd]
theorem p_wipeC {np hd : Nat} {W H : Nat → Nat} {i3 i4 i5 i6 i7 : Int32} {fi de rg row : Nat → Int32} {dp fd : Nat → Nat} {dy : Nat} (h : PzG np hd W H (i3, i4, i5, i6, i7, fi, de, rg) row dp fd dy) (h30 : hd ≤ 30) {c t : Nat} (hc : c < 80) (ht : t ≤ dp c) : ∀ (m j q : Nat) (rg : Nat → Int32), j + m = t → m < q → f_X2_wipeCell_b2 fi q i3 de rg (nI c) (nI t) (nI j) = some (i3 + nI t, upd de c (nI (dp c - t)), rgN dp fd c m j rg) := by
  have hle := h.le hc
  have hde : de c = nI (dp c) := h.dep hc
  intro m
  induction m with
  | zero =>
    intro j q rg hj hq
    obtain ⟨q, rfl⟩ : ∃ r, q = r + 1 := ⟨q - 1, by omega⟩
    rw [f_X2_wipeCell_b2, if_pos (nI_le (by omega) (by omega)), pu_ck hc (by omega), pu_ck hc (by omega), nI_clamp (by omega), hde, pk_sub ht, rgN]
  | succ m ih =>
    intro j q rg hj hq
    obtain ⟨q, rfl⟩ : ∃ r, q = r + 1 := ⟨q - 1, by omega⟩
    have hb := bhn_le h hc j
    rw [f_X2_wipeCell_b2, if_neg (nI_ge (by omega) (by omega)), show f_X2_behind fi de (nI c) (nI j) = _ from p_behindG h h30 hc (by omega), Option.bind_some, pu_ck (by omega) (by omega), pu_ck (by omega) (by omega), nI_clamp (by omega), nI_1, rgN]
    exact ih (j + 1) q _ (by omega) (by omega)
theorem r_wipeC {dp fd : Nat → Nat} {c t : Nat} (hc : c < 80) (h30 : dp c ≤ 30) (ht : t ≤ dp c) (hb : ∀ k, bhn dp fd c k ≤ 200) : ∀ (m j q : Nat) (row : Nat → Int32), j + m = t → m < q → row (2400 + c) = nI (dp c - j) → (∀ k, k < dp c → row (30 * c + k) = nI (fd (30 * c + k))) → ∃ row', f_X11_takesOff_b16 2685 q row (nI c) 1 (nI t) (nI j) = some (nI t, row') ∧ (∀ d, row' (2480 + d) = rgN dp fd c m j (fun d => row (2480 + d)) d) ∧ row' (2400 + c) = nI (dp c - t) ∧ (∀ k, k ≠ 2400 + c → ¬ (2480 ≤ k ∧ k ≤ 2680) → row' k = row k) := by
  intro m
  induction m with
  | zero =>
    intro j q row hj hq hm hf
    obtain ⟨q, rfl⟩ : ∃ r, q = r + 1 := ⟨q - 1, by omega⟩
    refine ⟨row, ?_, fun d => rfl, by rw [hm, show j = t by omega], fun k _ _ => rfl⟩
    rw [f_X11_takesOff_b16, if_pos (nI_le (by omega) (by omega))]
  | succ m ih =>
    intro j q row hj hq hm hf
    obtain ⟨q, rfl⟩ : ∃ r, q = r + 1 := ⟨q - 1, by omega⟩
    have hbj := hb j
    have e1 : f_X11_filmOf 2685 row (nI c) 0 = some (nI (bhn dp fd c j)) := by
      rw [r_film1 (dp := fun _ => dp c - j) (fd := fd) hc hm (by omega) (fun k hk => hf k (by omega)), bhn, bhn, if_pos (by omega), if_pos (by omega), show 30 * c + (dp c - j) - 1 - 0 = 30 * c + dp c - 1 - j by omega]
    have e2 : upd row (2480 + bhn dp fd c j) (row (2480 + bhn dp fd c j) + 1) (2400 + c) - 1 = nI (dp c - (j + 1)) := by
      rw [upd, if_neg (by omega), hm, pl1, pk_sub (by omega), show dp c - j - 1 = dp c - (j + 1) by omega]
    obtain ⟨row', a1, a2, a3, a4⟩ := ih (j + 1) q (upd (upd row (2480 + bhn dp fd c j) (row (2480 + bhn dp fd c j) + 1)) (2400 + c) (nI (dp c - (j + 1)))) (by omega) (by omega) (by rw [upd, if_pos rfl]) (fun k hk => by rw [upd, if_neg (by omega), upd, if_neg (by omega)]; exact hf k hk)
    refine ⟨row', ?_, fun d => ?_, a3, fun k h1 h2 => ?_⟩
    · rw [f_X11_takesOff_b16, if_neg (nI_ge (by omega) (by omega)), if_neg n1z, e1, Option.bind_some, pl2480, nI_add, pu_ck (by omega) (by omega), pu_ck (by omega) (by omega), nI_clamp (by omega), f_X11_takesOff_b43, pl2400, nI_add, pu_ck (by omega) (by omega), pu_ck (by omega) (by omega), nI_clamp (by omega), e2, nI_1]
      exact a1
    · rw [a2 d, rgN]
      have : (fun d => upd (upd row (2480 + bhn dp fd c j) (row (2480 + bhn dp fd c j) + 1)) (2400 + c) (nI (dp c - (j + 1))) (2480 + d)) = upd (fun d => row (2480 + d)) (bhn dp fd c j) (row (2480 + bhn dp fd c j) + 1) := by
        funext x
        show upd (upd row (2480 + bhn dp fd c j) (row (2480 + bhn dp fd c j) + 1)) (2400 + c) (nI (dp c - (j + 1))) (2480 + x) = (if x = bhn dp fd c j then row (2480 + bhn dp fd c j) + 1 else row (2480 + x))
        rw [upd, if_neg (by omega), upd]
        by_cases e : x = bhn dp fd c j
        · rw [if_pos (by omega), if_pos e]
        · rw [if_neg (by omega), if_neg e]
      rw [this]
    · rw [a4 k h1 h2, upd, if_neg h1, upd, if_neg (by omega)]
/-- one cell -/
theorem wp_cell {np hd : Nat} {W H : Nat → Nat} {i3 i4 i5 i6 i7 : Int32} {fi de rg row : Nat → Int32} {dp fd : Nat → Nat} {dy : Nat} (h : PzG np hd W H (i3, i4, i5, i6, i7, fi, de, rg) row dp fd dy) (h30 : hd ≤ 30) {c t : Nat} (hc : c < 80) (ht : t ≤ dp c) :
    ∃ i3' de' rg' row' dp', f_X2_wipeCell i3 fi de rg (nI c) (nI t) = some (i3', de', rg') ∧ f_X11_takesOff_b16 2685 4000 row (nI c) 1 (nI t) 0 = some (nI t, row') ∧ PzG np hd W H (i3', i4, i5, i6, i7, fi, de', rg') row' dp' fd dy := by
  have hle := h.le hc
  have hb := bhn_le h hc
  obtain ⟨row', a1, a2, a3, a4⟩ := r_wipeC (dp := dp) (fd := fd) hc (by omega) ht hb t 0 4000 row (by omega) (by omega) (h.many hc) (fun k hk => (h.2.1 c hc k hk).2.1)
  refine ⟨i3 + nI t, upd de c (nI (dp c - t)), rgN dp fd c t 0 rg, row', fun k => if k = c then dp c - t else dp k, ?_, a1, ?_, ?_, ?_, ?_, ?_, ?_, ?_, ?_⟩
  · rw [f_X2_wipeCell]
    exact p_wipeC h h30 hc ht t 0 4000 rg (by omega) (by omega)
  · intro k hk
    obtain ⟨b1, b2, b3, b4⟩ := h.1 k hk
    show (if k = c then dp c - t else dp k) ≤ hd ∧ upd de c (nI (dp c - t)) k = nI (if k = c then dp c - t else dp k) ∧ row' (2400 + k) = nI (if k = c then dp c - t else dp k) ∧ (0 < (if k = c then dp c - t else dp k) → pzIn np W H k)
    by_cases e : k = c
    · subst e
      rw [if_pos rfl, upd, if_pos rfl, a3]
      exact ⟨by omega, rfl, rfl, fun h0 => b4 (by omega)⟩
    · rw [if_neg e, upd, if_neg e, a4 _ (by omega) (by omega)]
      exact ⟨b1, b2, b3, b4⟩
  · intro k hk j hj
    have hj0 : j < (if k = c then dp c - t else dp k) := hj
    have hj' : j < dp k := by
      by_cases e : k = c
      · rw [if_pos e] at hj0
        rw [e]
        omega
      · rw [if_neg e] at hj0
        exact hj0
    obtain ⟨b1, b2, b3, b4, b5⟩ := h.2.1 k hk j hj'
    have hk30 := h.le hk
    refine ⟨b1, by rw [a4 _ (by omega) (by omega)]; exact b2, b3, b4, fun h6 => b5 ?_⟩
    have h60 : j + 1 < (if k = c then dp c - t else dp k) := h6
    by_cases e : k = c
    · rw [if_pos e] at h60
      rw [e]
      omega
    · rw [if_neg e] at h60
      exact h60
  · obtain ⟨b1, b2, b3⟩ := h.2.2.1
    exact ⟨b1, b2, by rw [a4 _ (by omega) (by omega)]; exact b3⟩
  · intro d hd
    rw [a2 d]
    exact rgN_ext t 0 rg (fun d => row (2480 + d)) (fun d hd => h.2.2.2.1 d hd) d hd
  · show i3 + nI t = pzRag row' 201
    rw [pzRag_S, rgS_ext (g := rgN dp fd c t 0 (fun d => row (2480 + d))) 201 (fun d _ => a2 d), rgS_N hb, ← pzRag_S]
    rw [show i3 = pzRag row 201 from h.2.2.2.2.1]
  · show i5 = row' 2683
    rw [a4 _ (by omega) (by omega)]
    exact h.2.2.2.2.2.1
  · show i7 = row' 2682
    rw [a4 _ (by omega) (by omega)]
    exact h.2.2.2.2.2.2.1
  · obtain ⟨b, b1, b2, b3, b4⟩ := h.2.2.2.2.2.2.2
    refine ⟨b, b1, b2, by rw [a4 _ (by omega) (by omega)]; exact b3, fun k hk h5 => ?_⟩
    have := b4 k hk h5
    show (if k = c then dp c - t else dp k) = 0
    by_cases e : k = c
    · rw [if_pos e]
      subst e
      omega
    · rw [if_neg e]
      exact this
theorem r_takesW {row : Nat → Int32} {c k r : Nat} {z : Int32} (hc : c < 80) (hk : k ≤ 30) (hr : r ≤ 200) (h : row (2400 + c) = nI k) : f_X11_takesOff 2685 row (nI c) (nI r) z = f_X11_takesOff_b16 2685 4000 row (nI c) z (nI (min r k)) 0 := by
  have hl : f_X11_less (nI r) (nI k) = some (nI (min r k)) := by
    rw [f_X11_less]
    by_cases h3 : k ≤ r
    · rw [if_pos (nI_le h3 (by omega)), Nat.min_eq_right h3]
    · rw [if_neg (nI_ge (by omega) (by omega)), Nat.min_eq_left (by omega)]
  rw [f_X11_takesOff, pl2400, nI_add, pu_ck (by omega) (by omega), nI_clamp (by omega), h, hl, Option.bind_some]
theorem wp_loop {np hd : Nat} {W H : Nat → Nat} {s : CX6} {pa : Nat → Nat → Int32} {p : Nat} (hN : PzN W H s pa p) (hp : p < 5) (h30 : hd ≤ 30) {mm x y r N : Nat} (hmm : mm < 65536) (hx : x < 100) (hy : y < 100) (hr : r < 100) (hN1 : 1 ≤ N) (hN30 : N ≤ 30) (hsel : ∀ i, i < 16 → mm.testBit i = (inC (W p) (H p) i && cirB x y r i)) {i4 i5 i6 i7 : Int32} {fi : Nat → Int32} {fd : Nat → Nat} {dy : Nat} : ∀ (m i q1 q2 : Nat) (i3 : Int32) (de rg row : Nat → Int32) (dp : Nat → Nat) (o : Nat), i + m = 16 → m < q1 → m < q2 → o ≤ 30 * i → PzG np hd W H (i3, i4, i5, i6, i7, fi, de, rg) row dp fd dy →
    ∃ o' i3' de' rg' row' dp', f_X2_wipe_b6 fi q1 i3 de rg (nI p) (nI mm) (nI N) (if o = 0 then 0 else 1) (nI i) = some (if o' = 0 then 0 else 1, i3', de', rg') ∧ f_X11_wipes_b6 pa 2685 q2 row (nI p) (nI x) (nI y) (nI r) (nI N) (nI o) (nI i) = some (nI o', row') ∧ o' ≤ 480 ∧ PzG np hd W H (i3', i4, i5, i6, i7, fi, de', rg') row' dp' fd dy := by
  intro m
  induction m with
  | zero =>
    intro i q1 q2 i3 de rg row dp o hi h1 h2 ho h
    obtain ⟨q1, rfl⟩ : ∃ r, q1 = r + 1 := ⟨q1 - 1, by omega⟩
    obtain ⟨q2, rfl⟩ : ∃ r, q2 = r + 1 := ⟨q2 - 1, by omega⟩
    refine ⟨o, i3, de, rg, row, dp, ?_, ?_, by omega, h⟩
    · rw [f_X2_wipe_b6, pl16, if_pos (nI_le (by omega) (by omega)), cz, if_pos]
      by_cases e : o = 0
      · rw [if_pos e]
        exact .inl rfl
      · rw [if_neg e]
        exact .inr rfl
    · rw [f_X11_wipes_b6, pl16, if_pos (nI_le (by omega) (by omega))]
  | succ m ih =>
    intro i q1 q2 i3 de rg row dp o hi h1 h2 ho h
    obtain ⟨q1, rfl⟩ : ∃ r, q1 = r + 1 := ⟨q1 - 1, by omega⟩
    obtain ⟨q2, rfl⟩ : ∃ r, q2 = r + 1 := ⟨q2 - 1, by omega⟩
    have hc : 16 * p + i < 80 := by omega
    have hle := h.le hc
    have hde : de (16 * p + i) = nI (dp (16 * p + i)) := h.dep hc
    have hro : row (2400 + (16 * p + i)) = nI (dp (16 * p + i)) := h.many hc
    have e16 : (16 : Int32) * nI p + nI i = nI (16 * p + i) := by rw [pl16, pk_mul, nI_add]
    have hbit : (nI mm >>> (nI i &&& 31) &&& 1 = 1) = (mm.testBit i = true) := by
      rw [pl31, pl1, pn_bit (by omega) (by omega), nI_eq (by omega) (by omega), pn_tb]
    have hf1 : fr (i % 4) x < 200 := by
      rw [fr]
      omega
    have hf2 : fr (i / 4) y < 200 := by
      rw [fr]
      omega
    have hskC : mm.testBit i = false → f_X2_wipe_b6 fi (q1 + 1) i3 de rg (nI p) (nI mm) (nI N) (if o = 0 then 0 else 1) (nI i) = f_X2_wipe_b6 fi q1 i3 de rg (nI p) (nI mm) (nI N) (if o = 0 then 0 else 1) (nI (i + 1)) := by
      intro hs
      rw [f_X2_wipe_b6, if_neg (show ¬ (16 : Int32) ≤ nI i from nI_ge (b := 16) (by omega) (by omega)), if_neg (by rw [hbit, hs]; decide), f_X2_wipe_b62, nI_1]
    have hskR : (inC (W p) (H p) i && cirB x y r i) = false → f_X11_wipes_b6 pa 2685 (q2 + 1) row (nI p) (nI x) (nI y) (nI r) (nI N) (nI o) (nI i) = f_X11_wipes_b6 pa 2685 q2 row (nI p) (nI x) (nI y) (nI r) (nI N) (nI o) (nI (i + 1)) := by
      intro hs
      rw [f_X11_wipes_b6, if_neg (show ¬ (16 : Int32) ≤ nI i from nI_ge (b := 16) (by omega) (by omega)), r_isOf hN hp (by omega), Option.bind_some]
      cases hA : inC (W p) (H p) i with
      | false => rw [if_pos (by decide), f_X11_wipes_b65, f_X11_wipes_b66, Int32.add_zero, nI_1]
      | true =>
        rw [hA, Bool.true_and, cirB, decide_eq_false_iff_not] at hs
        rw [if_neg (show ¬ (if true = true then (1 : Int32) else 0) = 0 by decide), pl4, pk_rem (by omega) (by omega) (by omega), pk_div (by omega) (by omega) (by omega), r_far (by omega) (by omega), Option.bind_some, r_far (by omega) (by omega), Option.bind_some, nI_add, if_pos (nI_lt (by omega) (by omega)), f_X11_wipes_b65, f_X11_wipes_b66, Int32.add_zero, nI_1]
    cases hS : (inC (W p) (H p) i && cirB x y r i) with
    | false =>
      rw [hskC (by rw [hsel i (by omega), hS]), hskR hS]
      exact ih (i + 1) q1 q2 i3 de rg row dp o (by omega) (by omega) (by omega) (by omega) h
    | true =>
      have hS2 := hS
      rw [Bool.and_eq_true] at hS2
      have hfr := hS2.2
      rw [cirB, decide_eq_true_iff] at hfr
      have hR1 : f_X11_wipes_b6 pa 2685 (q2 + 1) row (nI p) (nI x) (nI y) (nI r) (nI N) (nI o) (nI i) = (f_X11_takesOff_b16 2685 4000 row (nI (16 * p + i)) 1 (nI (min N (dp (16 * p + i)))) 0).bind fun q59 => f_X11_wipes_b6 pa 2685 q2 q59.2 (nI p) (nI x) (nI y) (nI r) (nI N) (nI o + q59.1) (nI (i + 1)) := by
        rw [f_X11_wipes_b6, if_neg (show ¬ (16 : Int32) ≤ nI i from nI_ge (b := 16) (by omega) (by omega)), r_isOf hN hp (by omega), Option.bind_some, hS2.1, if_neg (show ¬ (if true = true then (1 : Int32) else 0) = 0 by decide), e16, r_takesW hc (by omega) (by omega) hro, pl4, pk_rem (by omega) (by omega) (by omega), pk_div (by omega) (by omega) (by omega), r_far (by omega) (by omega), Option.bind_some, r_far (by omega) (by omega), Option.bind_some, nI_add, if_neg (nI_nlt (by omega) (by omega))]
        simp only [f_X11_wipes_b66, nI_1]
      by_cases e0 : dp (16 * p + i) = 0
      · have hC1 : f_X2_wipe_b6 fi (q1 + 1) i3 de rg (nI p) (nI mm) (nI N) (if o = 0 then 0 else 1) (nI i) = f_X2_wipe_b6 fi q1 i3 de rg (nI p) (nI mm) (nI N) (if o = 0 then 0 else 1) (nI (i + 1)) := by
          rw [f_X2_wipe_b6, if_neg (show ¬ (16 : Int32) ≤ nI i from nI_ge (b := 16) (by omega) (by omega)), if_pos (by rw [hbit, hsel i (by omega), hS]), e16, pu_ck (by omega) (by omega), nI_clamp (by omega), hde, e0, if_pos (by decide), f_X2_wipe_b62, nI_1]
        have hz : f_X11_takesOff_b16 2685 4000 row (nI (16 * p + i)) 1 (nI (min N (dp (16 * p + i)))) 0 = some (nI 0, row) := by
          rw [e0, Nat.min_zero, f_X11_takesOff_b16, if_pos (by decide)]
        rw [hC1, hR1, hz, Option.bind_some, nI_add, Nat.add_zero]
        exact ih (i + 1) q1 q2 i3 de rg row dp o (by omega) (by omega) (by omega) (by omega) h
      · obtain ⟨i3a, dea, rga, rowa, dpa, b1, b2, b3⟩ := wp_cell h h30 (c := 16 * p + i) (t := min N (dp (16 * p + i))) hc (Nat.min_le_right _ _)
        have hmin : (if nI (dp (16 * p + i)) < nI N then nI (dp (16 * p + i)) else nI N) = nI (min N (dp (16 * p + i))) := by
          by_cases e : dp (16 * p + i) < N
          · rw [if_pos (nI_lt e (by omega)), Nat.min_eq_right (by omega)]
          · rw [if_neg (nI_nlt (by omega) (by omega)), Nat.min_eq_left (by omega)]
        have hC1 : f_X2_wipe_b6 fi (q1 + 1) i3 de rg (nI p) (nI mm) (nI N) (if o = 0 then 0 else 1) (nI i) = f_X2_wipe_b6 fi q1 i3a dea rga (nI p) (nI mm) (nI N) 1 (nI (i + 1)) := by
          rw [f_X2_wipe_b6, if_neg (show ¬ (16 : Int32) ≤ nI i from nI_ge (b := 16) (by omega) (by omega)), if_pos (by rw [hbit, hsel i (by omega), hS]), e16, pu_ck (by omega) (by omega), nI_clamp (by omega), hde, if_neg (show ¬ nI (dp (16 * p + i)) ≤ 0 from nI_ge (b := dp (16 * p + i)) (a := 0) (by omega) (by omega)), pu_ck (by omega) (by omega), hmin, b1, Option.bind_some, f_X2_wipe_b62, nI_1]
        have ho1 : ¬ o + min N (dp (16 * p + i)) = 0 := by omega
        obtain ⟨o', i3', de', rg', row', dp', c1, c2, c3, c4⟩ := ih (i + 1) q1 q2 i3a dea rga rowa dpa (o + min N (dp (16 * p + i))) (by omega) (by omega) (by omega) (by omega) b3
        rw [if_neg ho1] at c1
        refine ⟨o', i3', de', rg', row', dp', hC1.trans c1, ?_, c3, c4⟩
        rw [hR1, b2, Option.bind_some, nI_add]
        exact c2
/-- wiping of cells within a circle -/
theorem wp_all {np hd : Nat} {W H : Nat → Nat} {s : CX6} {pa : Nat → Nat → Int32} {p : Nat} (hN : PzN W H s pa p) (hp : p < 5) (h30 : hd ≤ 30) {mm x y r N : Nat} (hmm : mm < 65536) (hx : x < 100) (hy : y < 100) (hr : r < 100) (hN1 : 1 ≤ N) (hN30 : N ≤ 30) (hsel : ∀ i, i < 16 → mm.testBit i = (inC (W p) (H p) i && cirB x y r i)) {i3 i4 i5 i6 i7 : Int32} {fi de rg row : Nat → Int32} (h : PzGX np hd W H (i3, i4, i5, i6, i7, fi, de, rg) row) :
    ∃ z i3' de' rg' row', f_X2_wipe i3 fi de rg (nI p) (nI mm) (nI N) = some (z, i3', de', rg') ∧ (z = 0 ∨ z = 1) ∧ (∃ a, f_X11_wipes pa 2685 row (nI p) (nI x) (nI y) (nI r) (nI N) = some (a, row') ∧ ((z = 0 ∧ a ≤ 0) ∨ (z = 1 ∧ ¬ a ≤ 0))) ∧ PzGX np hd W H (i3', i4, i5, i6, i7, fi, de', rg') row' := by
  obtain ⟨dp, fd, dy, h⟩ := h
  obtain ⟨o, i3', de', rg', row', dp', a1, a2, a3, a4⟩ := wp_loop hN hp h30 hmm hx hy hr hN1 hN30 hsel 16 0 4000 4000 i3 de rg row dp 0 (by omega) (by omega) (by omega) (by omega) h
  rw [if_pos rfl] at a1
  refine ⟨if o = 0 then 0 else 1, i3', de', rg', row', a1, ?_, ⟨nI o, a2, ?_⟩, dp', fd, dy, a4⟩
  · by_cases e : o = 0
    · exact .inl (if_pos e)
    · exact .inr (if_neg e)
  · by_cases e : o = 0
    · refine .inl ⟨if_pos e, ?_⟩
      rw [e]
      decide
    · exact .inr ⟨if_neg e, nI_ge (b := o) (a := 0) (by omega) (by omega)⟩

/-! by -/
def feL (rec : Nat → Nat → Nat → Nat → Bool) (ok : Nat → Nat → Bool) (A F : Nat → Nat) (sm fm L x y mi : Nat) : Nat → Nat → Bool
  | 0, _ => false
  | m + 1, i => (L.testBit i && (ok i (mi + wy A F sm fm x y i) && rec (mnL L i) (A i) (F i) (mi + wy A F sm fm x y i))) || feL rec ok A F sm fm L x y mi m (i + 1)
def fe (ok : Nat → Nat → Bool) (A F : Nat → Nat) (sm fm : Nat) : Nat → Nat → Nat → Nat → Nat → Bool
  | 0, L, _, _, _ => decide (L = 0)
  | n + 1, L, x, y, mi => if L = 0 then true else feL (fe ok A F sm fm n) ok A F sm fm L x y mi 5 0
theorem goS_fe {ok : Nat → Nat → Bool} {A F : Nat → Nat} {sm fm : Nat} : ∀ (n : Nat) (st : Option (Nat × Nat)) (L x y mi rw : Nat), L < 32 → pc5 L ≤ n → (goS ok A F sm fm n st L x y mi rw).isSome = (st.isSome || fe ok A F sm fm n L x y mi) := by
  intro n
  induction n with
  | zero =>
    intro st L x y mi rw h1 h2
    have hL := pc5_0 L h1 (by omega)
    rw [goS, if_pos hL, goU_some, fe]
    simp [hL]
  | succ n ih =>
    intro st L x y mi rw h1 h2
    rw [goS, fe]
    by_cases hL : L = 0
    · rw [if_pos hL, if_pos hL, goU_some, Bool.or_true]
    · rw [if_neg hL, if_neg hL]
      have hloop : ∀ m i (st : Option (Nat × Nat)), i + m = 5 → (goL (goS ok A F sm fm n) ok A F sm fm L x y mi rw m i st).isSome = (st.isSome || feL (fe ok A F sm fm n) ok A F sm fm L x y mi m i) := by
        intro m
        induction m with
        | zero =>
          intro i st hi
          rw [goL, feL, Bool.or_false]
        | succ m ihm =>
          intro i st hi
          rw [goL, feL]
          cases hb : L.testBit i with
          | true =>
            obtain ⟨m1, m2⟩ := mnL_ok L h1 i (by omega) hb
            cases ho : ok i (mi + wy A F sm fm x y i) with
            | true =>
              rw [if_pos (show (true && true) = true from rfl), ihm (i + 1) _ (by omega), ih _ _ _ _ _ _ m1 (by omega), Bool.true_and, Bool.true_and, Bool.or_assoc]
            | false =>
              rw [if_neg (by decide), ihm (i + 1) _ (by omega), Bool.false_and, Bool.and_false, Bool.false_or]
          | false =>
            rw [if_neg (by rw [Bool.false_and]; decide), ihm (i + 1) _ (by omega), Bool.false_and, Bool.false_or]
      exact hloop 5 0 st (by omega)
theorem fe_block {ok : Nat → Nat → Bool} {A F : Nat → Nat} {sm fm p : Nat} (hp : p < 5) (hok : ∀ t, ok p t = false) : ∀ (n L x y mi : Nat), L < 32 → L.testBit p = true → fe ok A F sm fm n L x y mi = false := by
  intro n
  induction n with
  | zero =>
    intro L x y mi h1 h2
    rw [fe]
    apply decide_eq_false
    intro h3
    rw [h3, Nat.zero_testBit] at h2
    cases h2
  | succ n ih =>
    intro L x y mi h1 h2
    rw [fe, if_neg (fun h3 => by rw [h3, Nat.zero_testBit] at h2; cases h2)]
    have hloop : ∀ m i, i + m = 5 → feL (fe ok A F sm fm n) ok A F sm fm L x y mi m i = false := by
      intro m
      induction m with
      | zero =>
        intro i hi
        rfl
      | succ m ihm =>
        intro i hi
        rw [feL, ihm (i + 1) (by omega), Bool.or_false]
        cases hb : L.testBit i with
        | false => rfl
        | true =>
          obtain ⟨m1, m2⟩ := mnL_ok L h1 i (by omega) hb
          by_cases e : i = p
          · subst e
            rw [hok, Bool.false_and, Bool.and_false]
          · rw [ih _ _ _ _ m1 (by rw [mnL_tb L h1 i (by omega) p hp, h2, beq_eq_false_iff_ne.mpr (fun e2 => e e2.symm)]; rfl), Bool.and_false, Bool.and_false]
    exact hloop 5 0 (by omega)
/-- order o lets pane p be come to after t minutes -/
def okO (P U : Nat → Nat) (k dy mn p t o : Nat) : Bool := !(k.testBit o && P o == p) || (decide (dy ≤ U o) && decide (t ≤ (U o + 1 - dy) * mn))
theorem days_no {u dy : Nat} (h : u < dy) (hd : dy ≤ 200) : nI u - nI dy + 1 ≤ 0 := by
  have e : nI u - nI dy + 1 = nI (u + 1) - nI dy := by
    rw [nI_succ]
    simp only [Int32.sub_eq_add_neg]
    rw [Int32.add_assoc, Int32.add_comm (-nI dy), ← Int32.add_assoc]
  rw [e]
  by_cases h1 : u + 1 = dy
  · rw [h1, pk_sub (Nat.le_refl _), Nat.sub_self]
    decide
  · exact Int32.le_of_lt (pk_sneg (by omega) (by omega))
theorem p_time_b {al fl od : Nat → Int32} {sm fm no np k dy mn : Nat} {P U : Nat → Nat} {i8 f b : Int32} (hn : no ≤ 12) (hi8 : i8 = nI no) (hk : k < 4096) (hdy : dy ≤ 200) (hmn : mn ≤ 999) (hnp : np ≤ 5) (hP : ∀ o, o < no → P o < np ∧ U o ≤ 200 ∧ od (5 * o) = nI (P o) ∧ od (5 * o + 4) = nI (U o)) : ∀ (m i q : Nat) (v : Nat → Int32), i + m = no → m < q → (∀ p t, p < np → t ≤ 4000 → (¬ v p < nI t ↔ ∀ o, o < i → okO P U k dy mn p t o = true)) → ∃ v', (∀ p t, p < np → t ≤ 4000 → (¬ v' p < nI t ↔ ∀ o, o < no → okO P U k dy mn p t o = true)) ∧ f_X5_walkInTime_b12 i8 (nI sm) (nI fm) al fl od q f b v (nI k) (nI dy) (nI mn) (nI i) = (f_X5_walk f b v' i8 (nI sm) (nI fm) al fl od (nI k)).bind fun q93 => some (q93.1, q93.2, v') := by
  intro m
  induction m with
  | zero =>
    intro i q v hi hq hv1
    obtain ⟨q, rfl⟩ : ∃ r, q = r + 1 := ⟨q - 1, by omega⟩
    refine ⟨v, ?_, ?_⟩
    · rw [show i = no by omega] at hv1
      exact hv1
    · rw [f_X5_walkInTime_b12, if_pos (by rw [hi8]; exact nI_le (by omega) (by omega))]
  | succ m ih =>
    intro i q v hi hq hv1
    obtain ⟨q, rfl⟩ : ∃ r, q = r + 1 := ⟨q - 1, by omega⟩
    obtain ⟨h1, h2, h3, h4⟩ := hP i (by omega)
    have e0 : f_X6_part od (nI i) 0 = some (nI (P i)) := by
      rw [pl0, p_part (by omega) (by omega), Nat.add_zero, h3]
    have e4 : f_X6_part od (nI i) 4 = some (nI (U i)) := by
      rw [pl4, p_part (by omega) (by omega), h4]
    rw [f_X5_walkInTime_b12, if_neg (by rw [hi8]; exact nI_ge (by omega) (by omega)), e0, Option.bind_some, e4, Option.bind_some, pu_ck (by omega) (by omega), nI_clamp (by omega), f_X5_walkInTime_b80, f_X5_walkInTime_b80, pu_ck (by omega) (by omega), pu_ck (by omega) (by omega), nI_clamp (by omega), f_X5_walkInTime_b84, f_X5_walkInTime_b84, f_X5_walkInTime_b84, nI_1]
    by_cases hb : k.testBit i = true
    · rw [if_pos (by rw [bit_if (by omega) (by omega)]; exact hb)]
      have hgen : ∀ new : Int32, (∀ t, t ≤ 4000 → (¬ new < nI t ↔ (dy ≤ U i ∧ t ≤ (U i + 1 - dy) * mn))) → ∃ v', (∀ p t, p < np → t ≤ 4000 → (¬ v' p < nI t ↔ ∀ o, o < no → okO P U k dy mn p t o = true)) ∧ f_X5_walkInTime_b12 i8 (nI sm) (nI fm) al fl od q f b (upd v (P i) (if new < v (P i) then new else v (P i))) (nI k) (nI dy) (nI mn) (nI (i + 1)) = (f_X5_walk f b v' i8 (nI sm) (nI fm) al fl od (nI k)).bind fun q93 => some (q93.1, q93.2, v') := by
        intro new hnew
        refine ih (i + 1) q _ (by omega) (by omega) (fun p t hp ht => ?_)
        rw [upd]
        by_cases e : p = P i
        · rw [if_pos e]
          have hold := hv1 p t hp ht
          rw [e] at hold
          have hmin : (¬ (if new < v (P i) then new else v (P i)) < nI t) ↔ (¬ new < nI t ∧ ¬ v (P i) < nI t) := by
            by_cases h5 : new < v (P i)
            · rw [if_pos h5]
              constructor
              · intro h6
                exact ⟨h6, fun h7 => h6 (Int32.lt_trans h5 h7)⟩
              · exact fun h6 => h6.1
            · rw [if_neg h5]
              constructor
              · intro h6
                exact ⟨fun h7 => h6 (Int32.lt_of_le_of_lt (Int32.not_lt.mp h5) h7), h6⟩
              · exact fun h6 => h6.2
          rw [hmin, hnew t ht, hold, e]
          constructor
          · rintro ⟨h6, h7⟩ o ho
            by_cases h8 : o = i
            · subst h8
              rw [okO]
              simp [h6.1, h6.2]
            · exact h7 o (by omega)
          · intro h6
            refine ⟨?_, fun o ho => h6 o (by omega)⟩
            have h7 := h6 i (by omega)
            rw [okO, hb, beq_self_eq_true] at h7
            simpa using h7
        · rw [if_neg e, hv1 p t hp ht]
          constructor
          · intro h6 o ho
            by_cases h8 : o = i
            · subst h8
              rw [okO, beq_eq_false_iff_ne.mpr (fun e2 => e e2.symm), Bool.and_false]
              rfl
            · exact h6 o (by omega)
          · intro h6 o ho
            exact h6 o (by omega)
      by_cases hd : dy ≤ U i
      · have ed : nI (U i) - nI dy + 1 = nI (U i + 1 - dy) := by
          rw [pk_sub hd, nI_1]
          congr 1
          omega
        have hmul : (U i + 1 - dy) * mn ≤ 201 * 999 := Nat.mul_le_mul (by omega) hmn
        rw [ed, if_neg (nI_nle (by omega) (by omega)), pk_mul]
        refine hgen _ (fun t ht => ?_)
        constructor
        · intro h5
          refine ⟨hd, ?_⟩
          by_cases h6 : t ≤ (U i + 1 - dy) * mn
          · exact h6
          · exact absurd (nI_lt (by omega) (by omega)) h5
        · rintro ⟨-, h5⟩
          exact nI_nlt h5 (by omega)
      · rw [if_pos (days_no (by omega) hdy)]
        refine hgen _ (fun t ht => ?_)
        constructor
        · intro h5
          exact absurd (Int32.lt_of_lt_of_le (by decide) (nI_pos' (n := t) (by omega))) h5
        · rintro ⟨h5, -⟩
          exact absurd h5 hd
    · rw [if_neg (by rw [bit_if (by omega) (by omega)]; exact hb)]
      refine ih (i + 1) q v (by omega) (by omega) (fun p t hp ht => ?_)
      rw [hv1 p t hp ht]
      constructor
      · intro h6 o ho
        by_cases h8 : o = i
        · subst h8
          rw [okO, Bool.eq_false_iff.mpr hb, Bool.false_and]
          rfl
        · exact h6 o (by omega)
      · intro h6 o ho
        exact h6 o (by omega)
theorem r_time {to row : Nat → Int32} {pa od : Nat → Nat → Int32} {A F P U : Nat → Nat} {sm fm np no k dy mn : Nat} (hn : np ≤ 5) (hno : no ≤ 12) (hsm9 : sm ≤ 9) (hfm9 : fm ≤ 9) (ht : to 0 = nI np) (ht1 : to 1 = nI no) (hsm : to 3 = nI sm) (hfm : to 4 = nI fm) (hk : k < 4096) (hdy : row 2684 = nI dy) (hdy2 : dy ≤ 200) (hmn : mn ≤ 999) (hp : ∀ p, p < np → A p ≤ 60 ∧ F p ≤ 9 ∧ pa p 2 = nI (A p) ∧ pa p 3 = nI (F p)) (hP : ∀ o, o < no → P o < np ∧ U o ≤ 200 ∧ od o 0 = nI (P o) ∧ od o 4 = nI (U o)) (hlate : ∀ o, o < no → k.testBit o = true → dy ≤ U o) : ∀ (n fu : Nat) (x1 : Int32) (L x y mi : Nat), n < fu → L < 32 → pc5 L ≤ n → (∀ j, L.testBit j = true → j < np) → x ≤ 60 → y ≤ 9 → frR A F np x1 x y → mi + 621 * pc5 L ≤ 3500 → f_X11_isInTime fu to row pa od x1 (nI L) (nI k) (nI mi) (nI mn) = some (if fe (fun p t => allL (okO P U k dy mn p t) no 0) A F sm fm n L x y mi = true then 1 else 0) := by
  have e0 : to ((0 : Int32).toNatClampNeg) = nI np := ht
  have e1 : to ((1 : Int32).toNatClampNeg) = nI no := ht1
  have c0 : ((0 : Int32).toNatClampNeg) = 0 := rfl
  have c4 : ((4 : Int32).toNatClampNeg) = 4 := rfl
  have c84 : ((2684 : Int32).toNatClampNeg) = 2684 := rfl
  intro n
  induction n with
  | zero =>
    intro fu x1 L x y mi h1 h2 h3 h4 hx hy hfr h5
    obtain ⟨fu, rfl⟩ : ∃ r, fu = r + 1 := ⟨fu - 1, by omega⟩
    have hL := pc5_0 L h2 (by omega)
    subst hL
    rw [f_X11_isInTime, fb_X11_isInTime, if_pos (show nI 0 = 0 from rfl), fe]
    rfl
  | succ n ih =>
    intro fu x1 L x y mi h1 h2 h3 h4 hx hy hfr h5
    obtain ⟨fu, rfl⟩ : ∃ r, fu = r + 1 := ⟨fu - 1, by omega⟩
    rw [f_X11_isInTime, fb_X11_isInTime, fe]
    by_cases hL : L = 0
    · rw [hL, if_pos (show nI 0 = 0 from rfl), if_pos rfl, if_pos rfl]
    · rw [if_neg (nI_ne0 (by omega) (by omega)), if_neg hL]
      have htail : ∀ m i, np ≤ i → feL (fe (fun p t => allL (okO P U k dy mn p t) no 0) A F sm fm n) (fun p t => allL (okO P U k dy mn p t) no 0) A F sm fm L x y mi m i = false := by
        intro m
        induction m with
        | zero =>
          intro i hi
          rfl
        | succ m ihm =>
          intro i hi
          have hb : L.testBit i = false := by
            cases h6 : L.testBit i with
            | false => rfl
            | true => exact absurd (h4 i h6) (by omega)
          rw [feL, hb, Bool.false_and, Bool.false_or]
          exact ihm (i + 1) (by omega)
      have hin : ∀ (k9 : Int32 → Int32 → Int32 → Int32 → Int32 → Int32 → Option Int32) (p t : Nat), p < np → t ≤ 4000 → ∀ (m o q : Nat) (bo : Bool), o + m = no → m < q → f_X11_isInTime_b50 (f_X11_isInTime fu) to row pa od k9 q x1 (nI L) (nI k) (nI mi) (nI mn) (nI p) (nI t) (if bo = true then 1 else 0) (nI o) = if (bo && allL (okO P U k dy mn p t) m o) = true then ((f_X11_isInTime fu to row pa od (nI p) (nI (mnL L p)) (nI k) (nI t) (nI mn)).bind fun q151 => if q151 = 0 then (k9 x1 (nI L) (nI k) (nI mi) (nI mn) (nI (p + 1))) else some 1) else k9 x1 (nI L) (nI k) (nI mi) (nI mn) (nI (p + 1)) := by
        intro k9 p t hpn ht4 m
        induction m with
        | zero =>
          intro o q bo ho hq
          obtain ⟨q, rfl⟩ : ∃ r, q = r + 1 := ⟨q - 1, by omega⟩
          rw [f_X11_isInTime_b50, e1, if_pos (nI_le (by omega) (by omega)), f_X11_isInTime_b159, nI_1, allL, Bool.and_true]
          cases bo with
          | false =>
            rw [if_pos (show (if false = true then (1 : Int32) else 0) = 0 by decide), if_neg (show ¬ (false = true) by decide)]
          | true =>
            rw [if_neg (show ¬ (if true = true then (1 : Int32) else 0) = 0 by decide), if_pos (show true = true from rfl), pl31, pl1, pn_shl (by omega), show (-nI 1) = nI (2 ^ 32 - 1) by decide, pz_xor, pz_and]
            rfl
        | succ m ihm =>
          intro o q bo ho hq
          obtain ⟨q, rfl⟩ : ∃ r, q = r + 1 := ⟨q - 1, by omega⟩
          obtain ⟨p1, p2, p3, p4⟩ := hP o (by omega)
          rw [f_X11_isInTime_b50, e1, if_neg (nI_ge (by omega) (by omega)), allL]
          cases bo with
          | false =>
            rw [if_pos (show (if false = true then (1 : Int32) else 0) = 0 by decide), f_X11_isInTime_b121, f_X11_isInTime_b122, nI_1, Bool.false_and, if_neg (show ¬ (false = true) by decide)]
            have e := ihm (o + 1) q false (by omega) (by omega)
            rw [Bool.false_and, if_neg (show ¬ (false = true) by decide)] at e
            exact e
          | true =>
            rw [if_neg (show ¬ (if true = true then (1 : Int32) else 0) = 0 by decide), Bool.true_and, r_has (by omega) (by omega), Option.bind_some, f_X11_isInTime_b117, f_X11_isInTime_b122, nI_1]
            have eT := ihm (o + 1) q true (by omega) (by omega)
            have eF := ihm (o + 1) q false (by omega) (by omega)
            rw [Bool.true_and] at eT
            rw [Bool.false_and, if_neg (show ¬ (false = true) by decide)] at eF
            by_cases hb : k.testBit o = true
            · rw [if_pos hb, if_neg (show ¬ ((1 : Int32) = 0) by decide), pu_ck (by omega) (by omega), nI_clamp (by omega), c0, p3]
              by_cases hpp : P o = p
              · have hU := hlate o (by omega) hb
                have hmul : (U o + 1 - dy) * mn ≤ 201 * 999 := Nat.mul_le_mul (by omega) hmn
                have ed : nI (U o) - nI dy + 1 = nI (U o + 1 - dy) := by
                  rw [pk_sub hU, nI_1]
                  congr 1
                  omega
                rw [if_pos (by rw [hpp]), pu_ck (by omega) (by omega), c4, c84, p4, hdy, ed, pk_mul]
                by_cases hlt : (U o + 1 - dy) * mn < t
                · have eo : okO P U k dy mn p t o = false := by
                    have : ¬ t ≤ (U o + 1 - dy) * mn := by omega
                    rw [okO, hb, hpp, beq_self_eq_true]
                    simp [this]
                  rw [if_pos (nI_lt hlt (by omega)), f_X11_isInTime_b121, f_X11_isInTime_b122, nI_1, eo, Bool.false_and, if_neg (show ¬ (false = true) by decide)]
                  exact eF
                · have eo : okO P U k dy mn p t o = true := by
                    have : t ≤ (U o + 1 - dy) * mn := by omega
                    rw [okO, hb, hpp, beq_self_eq_true]
                    simp [this, hU]
                  rw [if_neg (nI_nlt (by omega) (by omega)), eo, Bool.true_and]
                  exact eT
              · have eo : okO P U k dy mn p t o = true := by
                  rw [okO, beq_eq_false_iff_ne.mpr hpp, Bool.and_false]
                  rfl
                rw [if_neg (by rw [nI_eq (by omega) (by omega)]; exact hpp), eo, Bool.true_and]
                exact eT
            · have eo : okO P U k dy mn p t o = true := by
                rw [okO, Bool.eq_false_iff.mpr hb, Bool.false_and]
                rfl
              rw [if_neg hb, if_pos rfl, eo, Bool.true_and]
              exact eT
      have hloop : ∀ m i q, i + m = 5 → m < q → f_X11_isInTime_b9 (f_X11_isInTime fu) to row pa od q x1 (nI L) (nI k) (nI mi) (nI mn) (nI i) = some (if feL (fe (fun p t => allL (okO P U k dy mn p t) no 0) A F sm fm n) (fun p t => allL (okO P U k dy mn p t) no 0) A F sm fm L x y mi m i = true then 1 else 0) := by
        intro m
        induction m with
        | zero =>
          intro i q hi hq
          obtain ⟨q, rfl⟩ : ∃ r, q = r + 1 := ⟨q - 1, by omega⟩
          rw [f_X11_isInTime_b9, e0, if_pos (nI_le (by omega) (by omega)), feL]
          rfl
        | succ m ihm =>
          intro i q hi hq
          obtain ⟨q, rfl⟩ : ∃ r, q = r + 1 := ⟨q - 1, by omega⟩
          by_cases hin0 : i < np
          · rw [f_X11_isInTime_b9, e0, if_neg (nI_ge (by omega) (by omega)), r_has (by omega) (by omega), Option.bind_some, feL, f_X11_isInTime_b159, nI_1]
            cases hb : L.testBit i with
            | false =>
              rw [if_neg (show ¬ (false = true) by decide), if_pos rfl, Bool.false_and, Bool.false_or]
              exact ihm (i + 1) q (by omega) (by omega)
            | true =>
              obtain ⟨a1, a2, a3, a4⟩ := hp i hin0
              have hw := wy_le (A := A) (F := F) (p := i) hsm9 hfm9 a1 a2 hx hy
              obtain ⟨m1, m2⟩ := mnL_ok L h2 i (by omega) hb
              have eI := hin (f_X11_isInTime_b9 (f_X11_isInTime fu) to row pa od q) i (mi + wy A F sm fm x y i) hin0 (by omega) no 0 4000 true (by omega) (by omega)
              rw [Bool.true_and, if_pos (show true = true from rfl)] at eI
              have eR := ih fu (nI i) (mnL L i) (A i) (F i) (mi + wy A F sm fm x y i) (by omega) m1 (by omega) (fun j hj => by
                by_cases hj5 : j < 5
                · rw [mnL_tb L h2 i (by omega) j hj5, Bool.and_eq_true] at hj
                  exact h4 j hj.1
                · rw [Nat.testBit_lt_two_pow (Nat.lt_of_lt_of_le m1 (Nat.pow_le_pow_right (n := 2) (i := 5) (by omega) (by omega)))] at hj
                  cases hj) a1 a2 (.inr ⟨i, hin0, rfl, rfl, rfl⟩) (by omega)
              rw [if_pos rfl, if_neg (show ¬ ((1 : Int32) = 0) by decide), r_way hn hsm hfm hp hfr hin0, Option.bind_some, nI_add, pl0, eI, eR, Option.bind_some, Bool.true_and]
              cases hok : allL (okO P U k dy mn i (mi + wy A F sm fm x y i)) no 0 with
              | false =>
                rw [if_neg (show ¬ (false = true) by decide), Bool.false_and, Bool.false_or, ← pl0]
                exact ihm (i + 1) q (by omega) (by omega)
              | true =>
                rw [if_pos rfl, Bool.true_and]
                cases hfe : fe (fun p t => allL (okO P U k dy mn p t) no 0) A F sm fm n (mnL L i) (A i) (F i) (mi + wy A F sm fm x y i) with
                | false =>
                  rw [Bool.false_or, if_neg (show ¬ (false = true) by decide), if_pos rfl, ← pl0]
                  exact ihm (i + 1) q (by omega) (by omega)
                | true =>
                  rw [Bool.true_or, if_pos rfl, if_neg (by decide)]
                  rfl
          · rw [f_X11_isInTime_b9, e0, if_pos (nI_le (by omega) (by omega)), htail (m + 1) i (by omega)]
            rfl
      rw [pl0]
      have := hloop 5 0 4000 (by omega) (by omega)
      exact this
def lateF (U : Nat → Nat) (k dy : Nat) : Nat → Nat → Bool
  | 0, _ => false
  | m + 1, i => (k.testBit i && decide (U i < dy)) || lateF U k dy m (i + 1)
theorem lateF_iff (U : Nat → Nat) (k dy : Nat) : ∀ m i, lateF U k dy m i = true ↔ ∃ o, i ≤ o ∧ o < i + m ∧ k.testBit o = true ∧ U o < dy := by
  intro m
  induction m with
  | zero =>
    intro i
    simp only [lateF, Bool.false_eq_true, false_iff]
    rintro ⟨j, h1, h2, -⟩
    omega
  | succ m ih =>
    intro i
    rw [lateF, Bool.or_eq_true, ih, Bool.and_eq_true, decide_eq_true_iff]
    constructor
    · rintro (⟨h, h'⟩ | ⟨j, h1, h2, h3⟩)
      · exact ⟨i, by omega, by omega, h, h'⟩
      · exact ⟨j, by omega, by omega, h3⟩
    · rintro ⟨j, h1, h2, h3, h4⟩
      by_cases h : j = i
      · subst h
        exact .inl ⟨h3, h4⟩
      · exact .inr ⟨j, by omega, by omega, h3, h4⟩
theorem r_by_b {to row v : Nat → Int32} {pa od : Nat → Nat → Int32} {U : Nat → Nat} {no k dy : Nat} {x2 : Int32} (hno : no ≤ 12) (ht1 : to 1 = nI no) (hk : k < 4096) (hdy : row 2684 = nI dy) (hdy2 : dy ≤ 200) (hU : ∀ o, o < no → U o ≤ 200 ∧ od o 4 = nI (U o)) : ∀ (m i q : Nat), i + m = no → m < q → f_X11_by_b42 to row pa od q 0 v (nI k) x2 (nI i) = if lateF U k dy m i = true then some (0, 0, v) else ((f_X11_panesOf to od (nI k)).bind fun q91 => (f_X11_isInTime 9 to row pa od (-1) q91 (nI k) 0 x2).bind fun q97 => cz q97 (some (q97, 0, v))) := by
  have e1 : to ((1 : Int32).toNatClampNeg) = nI no := ht1
  intro m
  induction m with
  | zero =>
    intro i q hi hq
    obtain ⟨q, rfl⟩ : ∃ r, q = r + 1 := ⟨q - 1, by omega⟩
    rw [f_X11_by_b42, e1, if_pos (nI_le (by omega) (by omega)), lateF, if_neg (show ¬ (false = true) by decide)]
  | succ m ih =>
    intro i q hi hq
    obtain ⟨q, rfl⟩ : ∃ r, q = r + 1 := ⟨q - 1, by omega⟩
    obtain ⟨h1, h2⟩ := hU i (by omega)
    rw [f_X11_by_b42, e1, if_neg (nI_ge (by omega) (by omega)), r_has (by omega) (by omega), Option.bind_some, f_X11_by_b81, nI_1, pu_ck (by omega) (by omega), nI_clamp (by omega), show ((2684 : Int32).toNatClampNeg) = 2684 from rfl, show ((4 : Int32).toNatClampNeg) = 4 from rfl, hdy, h2, lateF]
    cases hb : k.testBit i with
    | false =>
      rw [if_neg (show ¬ (false = true) by decide), if_pos rfl, Bool.false_and, Bool.false_or]
      exact ih (i + 1) q (by omega) (by omega)
    | true =>
      rw [if_pos rfl, if_neg (show ¬ ((1 : Int32) = 0) by decide), Bool.true_and]
      by_cases h3 : U i < dy
      · rw [if_neg (nI_ge h3 (by omega)), decide_eq_true h3, Bool.true_or, if_pos rfl]
      · rw [if_pos (nI_le (by omega) (by omega)), decide_eq_false h3, Bool.false_or]
        exact ih (i + 1) q (by omega) (by omega)
theorem a_by {C : CS} {R : RS} (hc : PzC C R) (x1 x2 : Int32) :
    (∃ r z0 z1 z2, fC_by C x1 x2 = some (0, r, C.v15, z0, z1, z2) ∧ fR_by R x1 x2 = some (r, 0, R.v10)) ∨
    (∃ z0 z1 z2, fC_by C x1 x2 = some (1, 0, upd C.v15 2 (C.v15 2 + 1), z0, z1, z2) ∧ fR_by R x1 x2 = some (0, 1, upd R.v10 2 (R.v10 2 + 1))) := by
  obtain ⟨np, no, hd, W, H, hS, ⟨dp, fd, dy, hG⟩, -⟩ := hc
  rcases pz_orders hS C.v15 x1 with ⟨h1, h2⟩ | ⟨k, hk, hk2, rfl, h1, h2⟩
  · exact .inr ⟨C.r.1, C.r.2.1, C.r.2.2, by simp -implicitDefEqProofs only [Option.bind_some, pz10, if_true, if_false, eq_self, ↓reduceIte, r_bad0, r_A1, r_A2, r_B1, r_B2, r_B3, r_C1, fC_by, f_X10_by, h1]; rfl, by simp -implicitDefEqProofs only [Option.bind_some, pz10, if_true, if_false, eq_self, ↓reduceIte, r_bad0, r_A1, r_A2, r_B1, r_B2, r_B3, r_C1, fR_by, f_X11_by, h2, f_X11_by_b25, f_X11_by_b30]⟩
  · rcases pz_rng x2 1 999 (by omega) (by omega) with hb | ⟨mn, hm1, hm2, rfl⟩
    · have hr := r_inNo hb
      rw [← pl1, ← pl999] at hb hr
      refine .inr ⟨C.r.1, C.r.2.1, C.r.2.2, ?_, by simp -implicitDefEqProofs only [Option.bind_some, pz10, if_true, if_false, eq_self, ↓reduceIte, r_bad0, r_A1, r_A2, r_B1, r_B2, r_B3, r_C1, fR_by, f_X11_by, h2, f_X11_by_b25, f_X11_by_b30, hr]⟩
      by_cases h0 : x2 < 1
      · simp -implicitDefEqProofs only [Option.bind_some, pz10, if_true, if_false, eq_self, ↓reduceIte, r_bad0, r_A1, r_A2, r_B1, r_B2, r_B3, r_C1, fC_by, f_X10_by, h1, h0, f_X10_by_b22, f_X10_by_b23, p_need0]
        rfl
      · rcases hb with hb | hb
        · exact absurd hb h0
        · simp -implicitDefEqProofs only [Option.bind_some, pz10, if_true, if_false, eq_self, ↓reduceIte, r_bad0, r_A1, r_A2, r_B1, r_B2, r_B3, r_C1, fC_by, f_X10_by, h1, h0, hb, f_X10_by_b22, f_X10_by_b23, p_need0]
          rfl
    · have hr := r_inOk hm1 hm2 (by omega)
      rw [← pl1, ← pl999] at hr
      have hl : ¬ nI mn < 1 := nI_nlt (b := 1) hm1 (by omega)
      have hl2 : ¬ (999 : Int32) < nI mn := nI_nlt (a := 999) hm2 (by omega)
      obtain ⟨A, F, hAF⟩ := hS.fn
      obtain ⟨P, U, hPU⟩ := hS.fo
      obtain ⟨h5, h12, -, ⟨-, t0⟩, ⟨s8, t1⟩, -, ⟨sm, hsm9, s10, t3⟩, ⟨fm, hfm9, s11, t4⟩, -⟩ := hS
      obtain ⟨hdy, hd1, hd2⟩ := hG.2.2.1
      have hL := psF_32 (k := k) h5 (fun o ho => (hPU o ho).1)
      have hLb := psF_bits (k := k) (fun o ho => (hPU o ho).1)
      have hpc := pc5_le _ hL
      obtain ⟨v', hv', ew⟩ := p_time_b (al := C.s1.2.2.2.2.2.2.2.2.1) (fl := C.s1.2.2.2.2.2.2.2.2.2.1) (sm := sm) (fm := fm) (f := C.r.1) (b := C.r.2.1) h12 s8 hk2 hdy hm2 h5 (fun o ho => by
        obtain ⟨a1, a2, a3, a4, a5, a6⟩ := hPU o ho
        exact ⟨a1, a2, a3, a5⟩) no 0 4000 (fillF C.r.2.2 1000000 0 5) (by omega) (by omega) (fun p t hp ht => by
        rw [fillF, if_pos (by omega), pl1000000]
        exact ⟨fun _ o ho => absurd ho (by omega), fun _ => nI_nlt (by omega) (by omega)⟩)
      have w1 := p_walk (la := v') (al := C.s1.2.2.2.2.2.2.2.2.1) (fl := C.s1.2.2.2.2.2.2.2.2.2.1) (sm := sm) (fm := fm) (f := -1) (b := 0) h12 s8 hk2 (fun o ho => by
        obtain ⟨a1, a2, a3, -⟩ := hPU o ho
        exact ⟨by omega, a3⟩) no 0 4000 0 (by omega) (by omega)
      obtain ⟨f1, b1, e1, e2⟩ := p_go (la := v') (al := C.s1.2.2.2.2.2.2.2.2.1) (fl := C.s1.2.2.2.2.2.2.2.2.2.1) (ok := fun p t => allL (okO P U k dy mn p t) no 0) h5 hsm9 hfm9 (fun p hp => by
        obtain ⟨a1, a2, a3, a4, a5, a6⟩ := hAF p hp
        exact ⟨a1, a2, a3, a5⟩) (fun p t hp ht => by
        rw [hv' p t hp ht, allL_iff]
        constructor
        · exact fun h6 o ho => h6 o (Nat.zero_le _) (by omega)
        · exact fun h6 o _ ho => h6 o (by omega)) 5 9 none (-1) 0 (psF P k no 0 0) 0 0 0 0 (by omega) hL hpc hLb (by omega) (by omega) (by omega) rfl
      have hfe := goS_fe (ok := fun p t => allL (okO P U k dy mn p t) no 0) (A := A) (F := F) (sm := sm) (fm := fm) 5 none (psF P k no 0 0) 0 0 0 0 hL hpc
      rw [show (none : Option (Nat × Nat)).isSome = false from rfl, Bool.false_or] at hfe
      have hcls : (f1 = -1) = (fe (fun p t => allL (okO P U k dy mn p t) no 0) A F sm fm 5 (psF P k no 0 0) 0 0 0 = false) := by
        rw [← hfe]
        cases hst : goS (fun p t => allL (okO P U k dy mn p t) no 0) A F sm fm 5 none (psF P k no 0 0) 0 0 0 0 with
        | none =>
          rw [hst] at e2
          have e2 : f1 = -1 := e2
          simp [e2]
        | some kr =>
          rw [hst] at e2
          obtain ⟨kf, kb⟩ := kr
          obtain ⟨g1, g2, g3⟩ := e2
          rw [g1]
          simp [neg1_ne (show kf < 2 ^ 31 by omega)]
      rw [← pl0] at w1 e1 ew
      rw [← s10, ← s11] at w1 e1 ew
      rw [e1] at w1
      have hCl : fC_by C (nI k) (nI mn) = some (0, if fe (fun p t => allL (okO P U k dy mn p t) no 0) A F sm fm 5 (psF P k no 0 0) 0 0 0 = true then 1 else 0, C.v15, f1, b1, v') := by
        have ew2 : f_X5_walkInTime C.r.1 C.r.2.1 C.r.2.2 C.s1.2.2.1 C.s1.2.2.2.1 C.s1.2.2.2.2.1 C.s1.2.2.2.2.2.2.2.2.1 C.s1.2.2.2.2.2.2.2.2.2.1 C.s1.2.2.2.2.2.2.2.2.2.2.2.2 (nI k) (nI dy) (nI mn) = some (f1, b1, v') := by
          rw [f_X5_walkInTime, p_fill (by omega), Option.bind_some, ew, f_X5_walk, w1]
          rfl
        simp -implicitDefEqProofs only [Option.bind_some, pz10, if_true, if_false, eq_self, ↓reduceIte, r_bad0, r_A1, r_A2, r_B1, r_B2, r_B3, r_C1, fC_by, f_X10_by, h1, hl, hl2, f_X10_by_b23, p_need1, hd1, ew2]
        by_cases h0 : f1 = -1
        · rw [if_pos h0, if_neg (by rw [hcls] at h0; rw [h0]; decide)]
        · rw [if_neg h0, if_pos (by rw [hcls] at h0; simpa using h0)]
      refine .inl ⟨_, f1, b1, v', hCl, ?_⟩
      have hRl : fR_by R (nI k) (nI mn) = f_X11_by_b42 R.v12 R.v29 R.g14 R.g18 4000 0 R.v10 (nI k) (nI mn) 0 := by
        simp -implicitDefEqProofs only [Option.bind_some, pz10, if_true, if_false, eq_self, ↓reduceIte, r_bad0, r_A1, r_A2, r_B1, r_B2, r_B3, r_C1, fR_by, f_X11_by, h2, hr, f_X11_by_b30]
      have hby := r_by_b (v := R.v10) (pa := R.g14) (x2 := nI mn) (U := U) h12 t1 hk2 hd2 hdy (fun o ho => by
        obtain ⟨a1, a2, a3, a4, a5, a6⟩ := hPU o ho
        exact ⟨a2, a6⟩) no 0 4000 (by omega) (by omega)
      rw [← pl0] at hby
      rw [hRl, hby]
      cases hlt : lateF U k dy no 0 with
      | true =>
        obtain ⟨o, -, o2, o3, o4⟩ := (lateF_iff U k dy no 0).mp hlt
        have hblk := fe_block (ok := fun p t => allL (okO P U k dy mn p t) no 0) (A := A) (F := F) (sm := sm) (fm := fm) (p := P o) (by have := (hPU o (by omega)).1; omega) (fun t => by
          rw [Bool.eq_false_iff]
          intro h6
          have h7 := (allL_iff _ _ _).mp h6 o (Nat.zero_le _) (by omega)
          rw [okO, o3, beq_self_eq_true] at h7
          have h8 : ¬ dy ≤ U o := by omega
          simp [h8] at h7) 5 (psF P k no 0 0) 0 0 0 hL (by
          rw [psF_tb]
          exact .inr ⟨o, by omega, by omega, o3, rfl⟩)
        rw [hblk, if_pos rfl, if_neg (by decide)]
      | false =>
        have hnl : ∀ o, o < no → k.testBit o = true → dy ≤ U o := by
          intro o ho hb2
          by_cases h6 : dy ≤ U o
          · exact h6
          · have := (lateF_iff U k dy no 0).mpr ⟨o, by omega, by omega, hb2, by omega⟩
            rw [hlt] at this
            cases this
        have hT := r_time (row := R.v29) (od := R.g18) (A := A) (F := F) (pa := R.g14) h5 h12 hsm9 hfm9 t0 t1 t3 t4 hk2 hd2 hdy hm2 (fun p hp => by
          obtain ⟨a1, a2, a3, a4, a5, a6⟩ := hAF p hp
          exact ⟨a1, a2, a4, a6⟩) (fun o ho => by
          obtain ⟨a1, a2, a3, a4, a5, a6⟩ := hPU o ho
          exact ⟨a1, a2, a4, a6⟩) hnl 5 9 (-1) (psF P k no 0 0) 0 0 0 (by omega) hL hpc hLb (by omega) (by omega) (.inl ⟨rfl, rfl, rfl⟩) (by omega)
        have w2 := r_panesOf (od := R.g18) h12 t1 hk2 (fun o ho => by
          obtain ⟨a1, a2, a3, a4, -⟩ := hPU o ho
          exact ⟨by omega, a4⟩) no 0 4000 0 (by omega) (by omega)
        rw [← pl0] at w2 hT
        rw [if_neg (show ¬ (false = true) by decide), f_X11_panesOf, w2, Option.bind_some, hT, Option.bind_some]
        cases fe (fun p t => allL (okO P U k dy mn p t) no 0) A F sm fm 5 (psF P k no 0 0) 0 0 0
        · rfl
        · rfl
theorem q_by {L i : Nat} {C : CS} {R : RS} {cells slots : Nat} (h : PzInv L i C R cells slots) (hi : i + 7 ≤ L) (x1 x2 : Int32) : pS_by (PzInv L (i + 7)) C R x1 x2 cells slots := by
  rcases a_by h.2.1 x1 x2 with ⟨r, z0, z1, z2, h1, h2⟩ | ⟨z0, z1, z2, h1, h2⟩
  · exact ⟨(0, r, C.v15, z0, z1, z2), (r, 0, R.v10), h1, h2, .inl rfl, rfl, fun _ => rfl, pz_fit h (by omega) (by omega), h.keep hi (by omega) (by omega) h.1⟩
  · exact ⟨(1, 0, upd C.v15 2 (C.v15 2 + 1), z0, z1, z2), (0, 1, upd R.v10 2 (R.v10 2 + 1)), h1, h2, .inr rfl, rfl, fun _ => rfl, pz_fit h (by omega) (by omega), h.keep hi (by omega) (by omega) h.1.up⟩

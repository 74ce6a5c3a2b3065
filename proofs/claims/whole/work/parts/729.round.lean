/-! rounds over panes -/
def pc5 (L : Nat) : Nat := L % 2 + L / 2 % 2 + L / 4 % 2 + L / 8 % 2 + L / 16 % 2
def mnL (L i : Nat) : Nat := L &&& (2 ^ i ^^^ (2 ^ 32 - 1))
theorem mnL_ok : ∀ L, L < 32 → ∀ i, i < 5 → L.testBit i = true → mnL L i < 32 ∧ pc5 (mnL L i) + 1 = pc5 L := by decide +kernel
theorem mnL_tb : ∀ L, L < 32 → ∀ i, i < 5 → ∀ j, j < 5 → (mnL L i).testBit j = (L.testBit j && !(j == i)) := by decide +kernel
theorem pc5_0 : ∀ L, L < 32 → pc5 L = 0 → L = 0 := by decide +kernel
theorem pc5_le : ∀ L, L < 32 → pc5 L ≤ 5 := by decide +kernel
theorem L_bit : ∀ L, L < 32 → L ≠ 0 → L.testBit 0 = true ∨ L.testBit 1 = true ∨ L.testBit 2 = true ∨ L.testBit 3 = true ∨ L.testBit 4 = true := by decide +kernel
/-- minutes to pane p -/
def wy (A F : Nat → Nat) (sm fm x y p : Nat) : Nat := sm * fr (A p) x + fm * fr (F p) y
def goU (st : Option (Nat × Nat)) (mi rw : Nat) : Option (Nat × Nat) := match st with
  | none => some (mi, rw)
  | some (f, b) => if f ≤ mi then some (f, b) else some (mi, rw)
def goL (rec : Option (Nat × Nat) → Nat → Nat → Nat → Nat → Nat → Option (Nat × Nat)) (ok : Nat → Nat → Bool) (A F : Nat → Nat) (sm fm L x y mi rw : Nat) : Nat → Nat → Option (Nat × Nat) → Option (Nat × Nat)
  | 0, _, st => st
  | m + 1, i, st => if (L.testBit i && ok i (mi + wy A F sm fm x y i)) = true then goL rec ok A F sm fm L x y mi rw m (i + 1) (rec st (mnL L i) (A i) (F i) (mi + wy A F sm fm x y i) (10 * rw + i + 1)) else goL rec ok A F sm fm L x y mi rw m (i + 1) st
def goS (ok : Nat → Nat → Bool) (A F : Nat → Nat) (sm fm : Nat) : Nat → Option (Nat × Nat) → Nat → Nat → Nat → Nat → Nat → Option (Nat × Nat)
  | 0, st, L, _, _, mi, rw => if L = 0 then goU st mi rw else st
  | n + 1, st, L, x, y, mi, rw => if L = 0 then goU st mi rw else goL (goS ok A F sm fm n) ok A F sm fm L x y mi rw 5 0 st
def goR (st : Option (Nat × Nat)) (f b : Int32) : Prop := match st with
  | none => f = -1
  | some (k, r) => f = nI k ∧ b = nI r ∧ k ≤ 4000
theorem wy_le {A F : Nat → Nat} {sm fm x y p : Nat} (h1 : sm ≤ 9) (h2 : fm ≤ 9) (hA : A p ≤ 60) (hF : F p ≤ 9) (hx : x ≤ 60) (hy : y ≤ 9) : wy A F sm fm x y p ≤ 621 := by
  rw [wy]
  have e1 : fr (A p) x ≤ 60 := by rw [fr]; omega
  have e2 : fr (F p) y ≤ 9 := by rw [fr]; omega
  have e3 := Nat.mul_le_mul h1 e1
  have e4 := Nat.mul_le_mul h2 e2
  omega
theorem goR_end {st : Option (Nat × Nat)} {f b : Int32} {mi rw : Nat} (h : goR st f b) (hm : mi ≤ 4000) : goR (goU st mi rw) (if f = -1 then nI mi else if f ≤ nI mi then f else nI mi) (if f = -1 then nI rw else if f ≤ nI mi then b else nI rw) := by
  cases st with
  | none =>
    have h : f = -1 := h
    rw [if_pos h, if_pos h]
    exact ⟨rfl, rfl, hm⟩
  | some kr =>
    obtain ⟨k, r⟩ := kr
    obtain ⟨h1, h2, h3⟩ := h
    have hn : ¬ f = -1 := by rw [h1]; exact neg1_ne (by omega)
    rw [if_neg hn, if_neg hn]
    show goR (if k ≤ mi then some (k, r) else some (mi, rw)) _ _
    by_cases h4 : k ≤ mi
    · rw [if_pos h4, if_pos (by rw [h1]; exact nI_le h4 (by omega)), if_pos (by rw [h1]; exact nI_le h4 (by omega))]
      exact ⟨h1, h2, h3⟩
    · rw [if_neg h4, if_neg (by rw [h1]; exact nI_ge (by omega) (by omega)), if_neg (by rw [h1]; exact nI_ge (by omega) (by omega))]
      exact ⟨rfl, rfl, hm⟩
theorem p_go {la al fl : Nat → Int32} {ok : Nat → Nat → Bool} {A F : Nat → Nat} {sm fm np : Nat} (hn : np ≤ 5) (hsm : sm ≤ 9) (hfm : fm ≤ 9) (hp : ∀ p, p < np → A p ≤ 60 ∧ F p ≤ 9 ∧ al p = nI (A p) ∧ fl p = nI (F p)) (hok : ∀ p t, p < np → t ≤ 4000 → (ok p t = true ↔ ¬ la p < nI t)) : ∀ (n fu : Nat) (st : Option (Nat × Nat)) (f b : Int32) (L x y mi rw : Nat), n < fu → L < 32 → pc5 L ≤ n → (∀ j, L.testBit j = true → j < np) → x ≤ 60 → y ≤ 9 → mi + 621 * pc5 L ≤ 3500 → goR st f b → ∃ f' b', f_X5_goOn fu f b la (nI sm) (nI fm) al fl (nI L) (nI x) (nI y) (nI mi) (nI rw) = some (f', b') ∧ goR (goS ok A F sm fm n st L x y mi rw) f' b' := by
  have hzero : ∀ (fu n : Nat) (st : Option (Nat × Nat)) (f b : Int32) (x y mi rw : Nat), mi ≤ 4000 → goR st f b → ∃ f' b', f_X5_goOn (fu + 1) f b la (nI sm) (nI fm) al fl (nI 0) (nI x) (nI y) (nI mi) (nI rw) = some (f', b') ∧ goR (goS ok A F sm fm n st 0 x y mi rw) f' b' := by
    intro fu n st f b x y mi rw hm hR
    refine ⟨if f = -1 then nI mi else if f ≤ nI mi then f else nI mi, if f = -1 then nI rw else if f ≤ nI mi then b else nI rw, ?_, ?_⟩
    · rw [f_X5_goOn, fb_X5_goOn, if_pos (show nI 0 = 0 from rfl), f_X5_goOn_b21]
      by_cases h1 : f = -1
      · rw [if_pos h1, if_pos h1, if_pos h1]
      · rw [if_neg h1, if_neg h1, if_neg h1]
        by_cases h2 : f ≤ nI mi
        · rw [if_pos h2, if_pos h2, if_pos h2]
        · rw [if_neg h2, if_neg h2, if_neg h2]
    · have e : goS ok A F sm fm n st 0 x y mi rw = goU st mi rw := by
        cases n with
        | zero => rfl
        | succ n => rfl
      rw [e]
      exact goR_end hR hm
  intro n
  induction n with
  | zero =>
    intro fu st f b L x y mi rw h1 h2 h3 h4 hx hy h5 hR
    obtain ⟨fu, rfl⟩ : ∃ r, fu = r + 1 := ⟨fu - 1, by omega⟩
    have hL := pc5_0 L h2 (by omega)
    subst hL
    exact hzero fu 0 st f b x y mi rw (by omega) hR
  | succ n ih =>
    intro fu st f b L x y mi rw h1 h2 h3 h4 hx hy h5 hR
    obtain ⟨fu, rfl⟩ : ∃ r, fu = r + 1 := ⟨fu - 1, by omega⟩
    by_cases hL : L = 0
    · subst hL
      exact hzero fu (n + 1) st f b x y mi rw (by omega) hR
    · have hloop : ∀ m i q (st : Option (Nat × Nat)) (f b : Int32), i + m = 5 → m < q → goR st f b → ∃ f' b', f_X5_goOn_b37 (f_X5_goOn fu) la (nI sm) (nI fm) al fl q f b (nI L) (nI x) (nI y) (nI mi) (nI rw) (nI i) = some (f', b') ∧ goR (goL (goS ok A F sm fm n) ok A F sm fm L x y mi rw m i st) f' b' := by
        intro m
        induction m with
        | zero =>
          intro i q st f b hi hq hR
          obtain ⟨q, rfl⟩ : ∃ r, q = r + 1 := ⟨q - 1, by omega⟩
          refine ⟨f, b, ?_, hR⟩
          rw [f_X5_goOn_b37, pl5, if_pos (nI_le (by omega) (by omega))]
        | succ m ihm =>
          intro i q st f b hi hq hR
          obtain ⟨q, rfl⟩ : ∃ r, q = r + 1 := ⟨q - 1, by omega⟩
          rw [f_X5_goOn_b37, pl5, if_neg (nI_ge (by omega) (by omega)), goL, f_X5_goOn_b153, nI_1]
          by_cases hb : L.testBit i = true
          · have hin := h4 i hb
            obtain ⟨a1, a2, a3, a4⟩ := hp i hin
            have hw := wy_le (A := A) (F := F) (p := i) hsm hfm a1 a2 hx hy
            obtain ⟨m1, m2⟩ := mnL_ok L h2 i (by omega) hb
            have ew : nI mi + nI sm * nI (fr (A i) x) + nI fm * nI (fr (F i) y) = nI (mi + wy A F sm fm x y i) := by
              rw [pk_mul, pk_mul, nI_add, nI_add, wy, Nat.add_assoc]
            have hok1 := hok i (mi + wy A F sm fm x y i) hin (by omega)
            rw [if_pos (by rw [bit_if (by omega) (by omega)]; exact hb), pu_ck (by omega) (by omega), pu_ck (by omega) (by omega), pu_ck (by omega) (by omega), pu_ck (by omega) (by omega), pu_ck (by omega) (by omega), nI_clamp (by omega), a3, a4, p_abs (by omega) (by omega), p_abs (by omega) (by omega), ew, hb, Bool.true_and]
            by_cases hl : la i < nI (mi + wy A F sm fm x y i)
            · rw [if_pos hl, if_neg (fun h6 => hok1.mp h6 hl)]
              exact ihm (i + 1) q st f b (by omega) (by omega) hR
            · rw [if_neg hl, if_pos (hok1.mpr hl), pl31, pl1, pn_shl (by omega), show (-nI 1) = nI (2 ^ 32 - 1) by decide, pz_xor, pz_and, pl10, pk_mul, nI_add, nI_add]
              obtain ⟨f1, b1, e1, e2⟩ := ih fu st f b (mnL L i) (A i) (F i) (mi + wy A F sm fm x y i) (10 * rw + i + 1) (by omega) m1 (by omega) (fun j hj => by
                by_cases hj5 : j < 5
                · rw [mnL_tb L h2 i (by omega) j hj5, Bool.and_eq_true] at hj
                  exact h4 j hj.1
                · rw [Nat.testBit_lt_two_pow (Nat.lt_of_lt_of_le m1 (Nat.pow_le_pow_right (n := 2) (i := 5) (by omega) (by omega)))] at hj
                  cases hj) a1 a2 (by omega) hR
              rw [mnL] at e1
              rw [e1, Option.bind_some, f_X5_goOn_b153, nI_1]
              exact ihm (i + 1) q _ f1 b1 (by omega) (by omega) e2
          · rw [if_neg (by rw [bit_if (by omega) (by omega)]; exact hb), if_neg (by rw [Bool.and_eq_true]; exact fun h6 => hb h6.1)]
            exact ihm (i + 1) q st f b (by omega) (by omega) hR
      rw [f_X5_goOn, fb_X5_goOn, if_neg (nI_ne0 (by omega) (by omega)), goS, if_neg hL, pl0]
      exact hloop 5 0 4000 st f b (by omega) (by omega) hR
/-- where the reference stands: no pane, or pane p -/
def frR (A F : Nat → Nat) (np : Nat) (x1 : Int32) (x y : Nat) : Prop := (x1 = -1 ∧ x = 0 ∧ y = 0) ∨ ∃ p, p < np ∧ x1 = nI p ∧ x = A p ∧ y = F p
theorem r_way {to : Nat → Int32} {pa : Nat → Nat → Int32} {A F : Nat → Nat} {sm fm np x y p : Nat} {x1 : Int32} (hn : np ≤ 5) (hsm : to 3 = nI sm) (hfm : to 4 = nI fm) (hp : ∀ p, p < np → A p ≤ 60 ∧ F p ≤ 9 ∧ pa p 2 = nI (A p) ∧ pa p 3 = nI (F p)) (hf : frR A F np x1 x y) (hpn : p < np) : f_X11_wayTo to pa x1 (nI p) = some (nI (wy A F sm fm x y p)) := by
  obtain ⟨a1, a2, a3, a4⟩ := hp p hpn
  have c2 : ((2 : Int32).toNatClampNeg) = 2 := rfl
  have c3 : ((3 : Int32).toNatClampNeg) = 3 := rfl
  have c4 : ((4 : Int32).toNatClampNeg) = 4 := rfl
  have hckp : ∀ {R : Type} (z : Option R), ck (nI p) 5 z = z := fun z => pu_ck (by omega) (by omega)
  have hclp : (nI p).toNatClampNeg = p := nI_clamp (by omega)
  rcases hf with ⟨h1, h2, h3⟩ | ⟨p0, h0, h1, h2, h3⟩
  · simp -implicitDefEqProofs only [f_X11_wayTo, f_X11_wayTo_b31, f_X11_wayTo_b66, hckp, hclp, if_pos h1, c2, c3, c4, a3, a4, hsm, hfm]
    rw [pl0, r_far (by omega) (by omega), Option.bind_some, r_far (by omega) (by omega), Option.bind_some, pk_mul, pk_mul, nI_add, wy, h2, h3]
  · obtain ⟨b1, b2, b3, b4⟩ := hp p0 h0
    have hne : ¬ nI p0 = -1 := neg1_ne (by omega)
    have hck0 : ∀ {R : Type} (z : Option R), ck (nI p0) 5 z = z := fun z => pu_ck (by omega) (by omega)
    have hcl0 : (nI p0).toNatClampNeg = p0 := nI_clamp (by omega)
    subst h1
    simp -implicitDefEqProofs only [f_X11_wayTo, f_X11_wayTo_b31, f_X11_wayTo_b66, hckp, hclp, hck0, hcl0, if_neg hne, c2, c3, c4, a3, a4, b3, b4, hsm, hfm]
    rw [r_far (by omega) (by omega), Option.bind_some, r_far (by omega) (by omega), Option.bind_some, pk_mul, pk_mul, nI_add, wy, h2, h3]
theorem r_go {to : Nat → Int32} {pa : Nat → Nat → Int32} {A F : Nat → Nat} {sm fm np : Nat} (hn : np ≤ 5) (hsm9 : sm ≤ 9) (hfm9 : fm ≤ 9) (ht : to 0 = nI np) (hsm : to 3 = nI sm) (hfm : to 4 = nI fm) (hp : ∀ p, p < np → A p ≤ 60 ∧ F p ≤ 9 ∧ pa p 2 = nI (A p) ∧ pa p 3 = nI (F p)) : ∀ (n fu : Nat) (st : Option (Nat × Nat)) (f b x1 : Int32) (L x y mi rw : Nat), n < fu → L < 32 → pc5 L ≤ n → (∀ j, L.testBit j = true → j < np) → x ≤ 60 → y ≤ 9 → frR A F np x1 x y → mi + 621 * pc5 L ≤ 3500 → goR st f b → ∃ f' b', f_X11_rounds fu f b to pa x1 (nI L) (nI mi) (nI rw) = some (f', b') ∧ goR (goS (fun _ _ => true) A F sm fm n st L x y mi rw) f' b' := by
  have e0 : to ((0 : Int32).toNatClampNeg) = nI np := ht
  have hzero : ∀ (fu n : Nat) (st : Option (Nat × Nat)) (f b x1 : Int32) (x y mi rw : Nat), mi ≤ 4000 → goR st f b → ∃ f' b', f_X11_rounds (fu + 1) f b to pa x1 (nI 0) (nI mi) (nI rw) = some (f', b') ∧ goR (goS (fun _ _ => true) A F sm fm n st 0 x y mi rw) f' b' := by
    intro fu n st f b x1 x y mi rw hm hR
    refine ⟨if f = -1 then nI mi else if f ≤ nI mi then f else nI mi, if f = -1 then nI rw else if f ≤ nI mi then b else nI rw, ?_, ?_⟩
    · rw [f_X11_rounds, fb_X11_rounds, if_pos (show nI 0 = 0 from rfl), f_X11_rounds_b21]
      by_cases h1 : f = -1
      · rw [if_pos h1, if_pos h1, if_pos h1]
      · rw [if_neg h1, if_neg h1, if_neg h1]
        by_cases h2 : f ≤ nI mi
        · rw [if_neg (Int32.not_lt.mpr h2), if_pos h2, if_pos h2]
        · rw [if_pos (Int32.not_le.mp h2), if_neg h2, if_neg h2]
    · have e : goS (fun _ _ => true) A F sm fm n st 0 x y mi rw = goU st mi rw := by
        cases n with
        | zero => rfl
        | succ n => rfl
      rw [e]
      exact goR_end hR hm
  intro n
  induction n with
  | zero =>
    intro fu st f b x1 L x y mi rw h1 h2 h3 h4 hx hy hfr h5 hR
    obtain ⟨fu, rfl⟩ : ∃ r, fu = r + 1 := ⟨fu - 1, by omega⟩
    have hL := pc5_0 L h2 (by omega)
    subst hL
    exact hzero fu 0 st f b x1 x y mi rw (by omega) hR
  | succ n ih =>
    intro fu st f b x1 L x y mi rw h1 h2 h3 h4 hx hy hfr h5 hR
    obtain ⟨fu, rfl⟩ : ∃ r, fu = r + 1 := ⟨fu - 1, by omega⟩
    by_cases hL : L = 0
    · subst hL
      exact hzero fu (n + 1) st f b x1 x y mi rw (by omega) hR
    · have htail : ∀ m i (st : Option (Nat × Nat)), np ≤ i → goL (goS (fun _ _ => true) A F sm fm n) (fun _ _ => true) A F sm fm L x y mi rw m i st = st := by
        intro m
        induction m with
        | zero =>
          intro i st hi
          rfl
        | succ m ihm =>
          intro i st hi
          rw [goL, if_neg (by rw [Bool.and_true]; exact fun h6 => absurd (h4 i h6) (by omega))]
          exact ihm (i + 1) st (by omega)
      have hloop : ∀ m i q (st : Option (Nat × Nat)) (f b : Int32), i + m = 5 → m < q → goR st f b → ∃ f' b', f_X11_rounds_b36 (f_X11_rounds fu) to pa q f b x1 (nI L) (nI mi) (nI rw) (nI i) = some (f', b') ∧ goR (goL (goS (fun _ _ => true) A F sm fm n) (fun _ _ => true) A F sm fm L x y mi rw m i st) f' b' := by
        intro m
        induction m with
        | zero =>
          intro i q st f b hi hq hR
          obtain ⟨q, rfl⟩ : ∃ r, q = r + 1 := ⟨q - 1, by omega⟩
          refine ⟨f, b, ?_, hR⟩
          rw [f_X11_rounds_b36, e0, if_pos (nI_le (by omega) (by omega))]
        | succ m ihm =>
          intro i q st f b hi hq hR
          obtain ⟨q, rfl⟩ : ∃ r, q = r + 1 := ⟨q - 1, by omega⟩
          by_cases hin0 : i < np
          · rw [f_X11_rounds_b36, e0, if_neg (nI_ge (by omega) (by omega)), r_has (by omega) (by omega), Option.bind_some, goL, f_X11_rounds_b89, nI_1]
            by_cases hb : L.testBit i = true
            · obtain ⟨a1, a2, a3, a4⟩ := hp i hin0
              have hw := wy_le (A := A) (F := F) (p := i) hsm9 hfm9 a1 a2 hx hy
              obtain ⟨m1, m2⟩ := mnL_ok L h2 i (by omega) hb
              rw [if_pos hb, if_neg (show ¬ ((1 : Int32) = 0) by decide), r_way hn hsm hfm hp hfr hin0, Option.bind_some, hb, if_pos (by rfl), pl31, pl1, pn_shl (by omega), show (-nI 1) = nI (2 ^ 32 - 1) by decide, pz_xor, pz_and, pl10, pk_mul, nI_add, nI_add, nI_add]
              obtain ⟨f1, b1, e1, e2⟩ := ih fu st f b (nI i) (mnL L i) (A i) (F i) (mi + wy A F sm fm x y i) (10 * rw + i + 1) (by omega) m1 (by omega) (fun j hj => by
                by_cases hj5 : j < 5
                · rw [mnL_tb L h2 i (by omega) j hj5, Bool.and_eq_true] at hj
                  exact h4 j hj.1
                · rw [Nat.testBit_lt_two_pow (Nat.lt_of_lt_of_le m1 (Nat.pow_le_pow_right (n := 2) (i := 5) (by omega) (by omega)))] at hj
                  cases hj) a1 a2 (.inr ⟨i, hin0, rfl, rfl, rfl⟩) (by omega) hR
              rw [mnL] at e1
              rw [e1, Option.bind_some, f_X11_rounds_b89, nI_1]
              exact ihm (i + 1) q _ f1 b1 (by omega) (by omega) e2
            · rw [if_neg hb, if_pos rfl, if_neg (by rw [Bool.and_true]; exact hb)]
              exact ihm (i + 1) q st f b (by omega) (by omega) hR
          · refine ⟨f, b, ?_, ?_⟩
            · rw [f_X11_rounds_b36, e0, if_pos (nI_le (by omega) (by omega))]
            · rw [htail (m + 1) i st (by omega)]
              exact hR
      rw [f_X11_rounds, fb_X11_rounds, if_neg (nI_ne0 (by omega) (by omega)), goS, if_neg hL, pl0]
      exact hloop 5 0 4000 st f b (by omega) (by omega) hR

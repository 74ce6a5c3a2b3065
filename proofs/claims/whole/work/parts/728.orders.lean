/-! told orders -/
theorem pz_orders {np no hd : Nat} {W H : Nat → Nat} {s : CX6} {to : Nat → Int32} {pa ra od : Nat → Nat → Int32} (hS : PzS np no hd W H s to pa ra od) (v : Nat → Int32) (x : Int32) :
    (f_X10_needOrders v s.2.2.1 x = some (1, upd v 2 (v 2 + 1)) ∧ f_X11_areOrders to x = some 0) ∨ ∃ k, k < 2 ^ no ∧ k < 4096 ∧ x = nI k ∧ f_X10_needOrders v s.2.2.1 x = some (0, v) ∧ f_X11_areOrders to x = some 1 := by
  obtain ⟨h5, h12, -, -, ⟨hp1, hp2⟩, -⟩ := hS
  have hpow : 2 ^ no ≤ 4096 := Nat.pow_le_pow_right (n := 2) (j := 12) (by omega) h12
  have hpos : 0 < 2 ^ no := Nat.pow_pos (by omega)
  have hA : f_X10_needOrders v s.2.2.1 x = if x &&& nI (2 ^ 32 - 2 ^ no) = 0 then some (0, v) else some (1, upd v 2 (v 2 + 1)) := by
    rw [f_X10_needOrders, hp1, ng_sh no (by omega), f_X10_needOrders_b21, f_X10_needOrders_b21, p_need1, p_need0]
    rfl
  have hB : ∀ y : Int32, f_X11_areOrders to y = (f_X11_in y 0 (nI (2 ^ no - 1))).bind fun q12 => cz q12 (some q12) := by
    intro y
    rw [f_X11_areOrders, show ((1 : Int32).toNatClampNeg) = 1 from rfl, hp2, pl31, pl1, pn_shl (by omega), pk_sub (by omega)]
  rw [hA]
  obtain ⟨n, hn, rfl⟩ := pz_of32 x
  rw [pz_and, hB]
  by_cases h : n < 2 ^ no
  · refine .inr ⟨n, h, by omega, rfl, ?_, ?_⟩
    · rw [if_pos]
      have : n &&& (2 ^ 32 - 2 ^ no) = 0 := by
        apply Nat.eq_of_testBit_eq
        intro k
        rw [Nat.testBit_and, Nat.zero_testBit]
        by_cases hk : k < no
        · rw [ng_tb no (by omega) k (by omega)]
          have : ¬ no ≤ k := by omega
          simp [this]
        · rw [Nat.testBit_lt_two_pow (Nat.lt_of_lt_of_le h (Nat.pow_le_pow_right (by omega) (by omega)))]
          rfl
      rw [this]
      rfl
    · rw [pl0, r_inOk (Nat.zero_le n) (by omega) (by omega)]
      rfl
  · refine .inl ⟨?_, ?_⟩
    · rw [if_neg]
      intro h1
      apply h
      have h2 := nI_z (Nat.lt_of_le_of_lt Nat.and_le_left hn) h1
      apply Nat.lt_pow_two_of_testBit
      intro k hk
      by_cases hk2 : k < 32
      · have h3 := congrArg (fun z => z.testBit k) h2
        simp only [Nat.testBit_and, Nat.zero_testBit] at h3
        rw [ng_tb no (by omega) k hk2] at h3
        simpa [hk] using h3
      · exact Nat.testBit_lt_two_pow (Nat.lt_of_lt_of_le hn (Nat.pow_le_pow_right (by omega) (by omega)))
    · rw [r_inNo]
      · rfl
      · by_cases h0 : nI n < 0
        · exact .inl h0
        · right
          obtain ⟨j, hj, e⟩ := nI_of h0
          rw [e]
          apply nI_lt _ hj
          have e1 := pk_tn hn
          rw [e, pk_tn (by omega)] at e1
          omega
/-- along and floor of the panes as functions -/
theorem PzS.fn {np no hd : Nat} {W H : Nat → Nat} {s : CX6} {to : Nat → Int32} {pa ra od : Nat → Nat → Int32} (hS : PzS np no hd W H s to pa ra od) : ∃ A F : Nat → Nat, ∀ p, p < np → A p ≤ 60 ∧ F p ≤ 9 ∧ s.2.2.2.2.2.2.2.2.1 p = nI (A p) ∧ pa p 2 = nI (A p) ∧ s.2.2.2.2.2.2.2.2.2.1 p = nI (F p) ∧ pa p 3 = nI (F p) := by
  have h1 : ∀ p, ∃ a f, p < np → a ≤ 60 ∧ f ≤ 9 ∧ s.2.2.2.2.2.2.2.2.1 p = nI a ∧ pa p 2 = nI a ∧ s.2.2.2.2.2.2.2.2.2.1 p = nI f ∧ pa p 3 = nI f := by
    intro p
    by_cases hp : p < np
    · obtain ⟨-, -, -, -, -, -, ⟨a, a1, a2, a3⟩, ⟨f, b1, b2, b3⟩, -⟩ := hS.2.2.2.2.2.2.2.2.2.1 p hp
      exact ⟨a, f, fun _ => ⟨a1, b1, a2, a3, b2, b3⟩⟩
    · exact ⟨0, 0, fun h => absurd h hp⟩
  exact ⟨fun p => (h1 p).choose, fun p => (h1 p).choose_spec.choose, fun p hp => (h1 p).choose_spec.choose_spec hp⟩
/-- orders as functions -/
theorem PzS.fo {np no hd : Nat} {W H : Nat → Nat} {s : CX6} {to : Nat → Int32} {pa ra od : Nat → Nat → Int32} (hS : PzS np no hd W H s to pa ra od) : ∃ P U : Nat → Nat, ∀ o, o < no → P o < np ∧ U o ≤ 200 ∧ s.2.2.2.2.2.2.2.2.2.2.2.2 (5 * o) = nI (P o) ∧ od o 0 = nI (P o) ∧ s.2.2.2.2.2.2.2.2.2.2.2.2 (5 * o + 4) = nI (U o) ∧ od o 4 = nI (U o) := by
  have h1 : ∀ o, ∃ p u, o < no → p < np ∧ u ≤ 200 ∧ s.2.2.2.2.2.2.2.2.2.2.2.2 (5 * o) = nI p ∧ od o 0 = nI p ∧ s.2.2.2.2.2.2.2.2.2.2.2.2 (5 * o + 4) = nI u ∧ od o 4 = nI u := by
    intro o
    by_cases ho : o < no
    · obtain ⟨p, x, y, d, u, hp, -, -, -, -, hu, ⟨a0, b0⟩, -, -, -, ⟨a4, b4⟩⟩ := hS.2.2.2.2.2.2.2.2.2.2 o ho
      exact ⟨p, u, fun _ => ⟨hp, hu, a0, b0, a4, b4⟩⟩
    · exact ⟨0, 0, fun h => absurd h ho⟩
  exact ⟨fun o => (h1 o).choose, fun o => (h1 o).choose_spec.choose, fun o ho => (h1 o).choose_spec.choose_spec ho⟩
/-- the panes of the told orders -/
def psF (P : Nat → Nat) (k : Nat) : Nat → Nat → Nat → Nat
  | 0, _, acc => acc
  | m + 1, i, acc => psF P k m (i + 1) (if k.testBit i = true then acc ||| 2 ^ P i else acc)
theorem psF_lt (P : Nat → Nat) (k np : Nat) : ∀ m i acc, (∀ j, i ≤ j → j < i + m → P j < np) → acc < 2 ^ np → psF P k m i acc < 2 ^ np := by
  intro m
  induction m with
  | zero =>
    intro i acc h1 h2
    exact h2
  | succ m ih =>
    intro i acc h1 h2
    rw [psF]
    refine ih (i + 1) _ (fun j h3 h4 => h1 j (by omega) (by omega)) ?_
    by_cases hb : k.testBit i = true
    · rw [if_pos hb]
      exact Nat.or_lt_two_pow h2 (Nat.pow_lt_pow_right (by omega) (h1 i (by omega) (by omega)))
    · rw [if_neg hb]
      exact h2
theorem psF_tb (P : Nat → Nat) (k p : Nat) : ∀ m i acc, (psF P k m i acc).testBit p = true ↔ acc.testBit p = true ∨ ∃ j, i ≤ j ∧ j < i + m ∧ k.testBit j = true ∧ P j = p := by
  intro m
  induction m with
  | zero =>
    intro i acc
    rw [psF]
    constructor
    · exact .inl
    · rintro (h | ⟨j, h1, h2, -⟩)
      · exact h
      · omega
  | succ m ih =>
    intro i acc
    rw [psF, ih]
    by_cases hb : k.testBit i = true
    · rw [if_pos hb, Nat.testBit_or, Bool.or_eq_true, Nat.testBit_two_pow, decide_eq_true_iff]
      constructor
      · rintro ((h | h) | ⟨j, h1, h2, h3⟩)
        · exact .inl h
        · exact .inr ⟨i, by omega, by omega, hb, h⟩
        · exact .inr ⟨j, by omega, by omega, h3⟩
      · rintro (h | ⟨j, h1, h2, h3, h4⟩)
        · exact .inl (.inl h)
        · by_cases e : j = i
          · subst e
            exact .inl (.inr h4)
          · exact .inr ⟨j, by omega, by omega, h3, h4⟩
    · rw [if_neg hb]
      constructor
      · rintro (h | ⟨j, h1, h2, h3⟩)
        · exact .inl h
        · exact .inr ⟨j, by omega, by omega, h3⟩
      · rintro (h | ⟨j, h1, h2, h3, h4⟩)
        · exact .inl h
        · by_cases e : j = i
          · subst e
            exact absurd h3 hb
          · exact .inr ⟨j, by omega, by omega, h3, h4⟩
theorem r_panesOf {to : Nat → Int32} {od : Nat → Nat → Int32} {no k : Nat} {P : Nat → Nat} (hn : no ≤ 12) (ht : to 1 = nI no) (hk : k < 4096) (hP : ∀ o, o < no → P o < 5 ∧ od o 0 = nI (P o)) : ∀ (m i q acc : Nat), i + m = no → m < q → f_X11_panesOf_b4 to od q (nI k) (nI acc) (nI i) = some (nI (psF P k m i acc)) := by
  have e0 : to ((1 : Int32).toNatClampNeg) = nI no := ht
  intro m
  induction m with
  | zero =>
    intro i q acc hi hq
    obtain ⟨q, rfl⟩ : ∃ r, q = r + 1 := ⟨q - 1, by omega⟩
    rw [f_X11_panesOf_b4, e0, if_pos (nI_le (by omega) (by omega)), psF]
  | succ m ih =>
    intro i q acc hi hq
    obtain ⟨q, rfl⟩ : ∃ r, q = r + 1 := ⟨q - 1, by omega⟩
    obtain ⟨h1, h2⟩ := hP i (by omega)
    have h0 : nI acc ||| (0 : Int32) = nI acc := by rw [pl0, pz_or, Nat.or_zero]
    rw [f_X11_panesOf_b4, e0, if_neg (nI_ge (by omega) (by omega)), r_has (by omega) (by omega), Option.bind_some, f_X11_panesOf_b37, f_X11_panesOf_b37, h0, nI_1, pu_ck (by omega) (by omega), nI_clamp (by omega), show ((0 : Int32).toNatClampNeg) = 0 from rfl, h2, pl31, pl1, pn_shl (by omega), pz_or, psF]
    by_cases hb : k.testBit i = true
    · rw [if_pos hb, if_pos hb, if_neg (by decide)]
      exact ih (i + 1) q _ (by omega) (by omega)
    · rw [if_neg hb, if_neg hb, if_pos rfl]
      exact ih (i + 1) q _ (by omega) (by omega)

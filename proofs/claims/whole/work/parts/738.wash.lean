/-! rain washes -/
theorem p_wash_b {dp : Nat → Nat} {p r : Nat} (hp : p < 5) (hr : r ≤ 200) : ∀ (m i q acc : Nat) (de : Nat → Int32), i + m = 16 → m < q → (∀ c, 16 * p + i ≤ c → c < 16 * p + 16 → de c = nI (dp c) ∧ dp c ≤ 30) → ∃ de', f_X2_wash_b8 q de (nI p) (nI r) (nI acc) (nI (16 * p + i)) = some (nI (acc + sF (fun i => min r (dp (16 * p + i))) m i), de') ∧ ∀ c, de' c = if 16 * p + i ≤ c ∧ c < 16 * p + 16 then nI (dp c - r) else de c := by
  intro m
  induction m with
  | zero =>
    intro i q acc de hi hq hd
    obtain ⟨q, rfl⟩ : ∃ r, q = r + 1 := ⟨q - 1, by omega⟩
    refine ⟨de, ?_, fun c => by rw [if_neg (by omega)]⟩
    rw [f_X2_wash_b8, pl16, pk_mul, nI_add, if_pos (nI_le (by omega) (by omega)), sF, Nat.add_zero]
  | succ m ih =>
    intro i q acc de hi hq hd
    obtain ⟨q, rfl⟩ : ∃ r, q = r + 1 := ⟨q - 1, by omega⟩
    obtain ⟨h1, h2⟩ := hd (16 * p + i) (by omega) (by omega)
    have hoff : (if nI (dp (16 * p + i)) < nI r then nI (dp (16 * p + i)) else nI r) = nI (min r (dp (16 * p + i))) := by
      by_cases h3 : dp (16 * p + i) < r
      · rw [if_pos (nI_lt h3 (by omega)), Nat.min_eq_right (by omega)]
      · rw [if_neg (nI_nlt (by omega) (by omega)), Nat.min_eq_left (by omega)]
    obtain ⟨de', e1, e2⟩ := ih (i + 1) q (acc + min r (dp (16 * p + i))) (upd de (16 * p + i) (nI (dp (16 * p + i) - min r (dp (16 * p + i))))) (by omega) (by omega) (fun c hc1 hc2 => by
      rw [upd, if_neg (by omega)]
      exact hd c (by omega) hc2)
    refine ⟨de', ?_, fun c => ?_⟩
    · rw [f_X2_wash_b8, pl16, pk_mul, nI_add, if_neg (nI_ge (by omega) (by omega)), pu_ck (by omega) (by omega), pu_ck (by omega) (by omega), pu_ck (by omega) (by omega), nI_clamp (by omega), h1, hoff, pk_sub (by omega), nI_add, nI_1, Nat.add_assoc (16 * p), e1, sF, Nat.add_assoc]
    · rw [e2 c, upd]
      by_cases e : c = 16 * p + i
      · rw [if_neg (by omega), if_pos e, if_pos (by omega), e]
        congr 1
        omega
      · rw [if_neg e]
        by_cases e3 : 16 * p + i ≤ c ∧ c < 16 * p + 16
        · rw [if_pos (by omega), if_pos e3]
        · rw [if_neg (by omega), if_neg e3]
/-- what rain r takes off pane p -/
def wsP (dp : Nat → Nat) (r p : Nat) : Nat := sF (fun i => min r (dp (16 * p + i))) 16 0
theorem p_wash {dp : Nat → Nat} {p r : Nat} {de : Nat → Int32} (hp : p < 5) (hr : r ≤ 200) (hd : ∀ c, 16 * p ≤ c → c < 16 * p + 16 → de c = nI (dp c) ∧ dp c ≤ 30) : ∃ de', f_X2_wash de (nI p) (nI r) = some (nI (wsP dp r p), de') ∧ ∀ c, de' c = if 16 * p ≤ c ∧ c < 16 * p + 16 then nI (dp c - r) else de c := by
  obtain ⟨de', e1, e2⟩ := p_wash_b (dp := dp) hp hr 16 0 4000 0 de (by omega) (by omega) (fun c h1 h2 => hd c (by omega) h2)
  rw [Nat.zero_add, Nat.add_zero] at e1
  refine ⟨de', ?_, e2⟩
  rw [f_X2_wash, pl16, pk_mul, pl0]
  exact e1
theorem r_takes_b {c k o : Nat} (hc : c < 80) (hk : k ≤ 30) (ho : o ≤ k) : ∀ (m t q : Nat) (row : Nat → Int32), t + m = o → m < q → row (2400 + c) = nI (k - t) → ∃ row', f_X11_takesOff_b16 2685 q row (nI c) 0 (nI o) (nI t) = some (nI o, row') ∧ ∀ j, row' j = if j = 2400 + c then nI (k - o) else row j := by
  intro m
  induction m with
  | zero =>
    intro t q row ht hq hr
    obtain ⟨q, rfl⟩ : ∃ r, q = r + 1 := ⟨q - 1, by omega⟩
    refine ⟨row, ?_, fun j => ?_⟩
    · rw [f_X11_takesOff_b16, if_pos (nI_le (by omega) (by omega))]
    · by_cases e : j = 2400 + c
      · rw [if_pos e, e, hr, show t = o by omega]
      · rw [if_neg e]
  | succ m ih =>
    intro t q row ht hq hr
    obtain ⟨q, rfl⟩ : ∃ r, q = r + 1 := ⟨q - 1, by omega⟩
    obtain ⟨row', e1, e2⟩ := ih (t + 1) q (upd row (2400 + c) (nI (k - t - 1))) (by omega) (by omega) (by rw [upd, if_pos rfl]; congr 1)
    refine ⟨row', ?_, fun j => ?_⟩
    · rw [f_X11_takesOff_b16, if_neg (nI_ge (by omega) (by omega)), if_pos rfl, f_X11_takesOff_b43, pl2400, nI_add, pu_ck (by omega) (by omega), pu_ck (by omega) (by omega), nI_clamp (by omega), hr, nI_1, pl1, pk_sub (by omega)]
      exact e1
    · rw [e2 j, upd]
      by_cases e : j = 2400 + c
      · rw [if_pos e, if_pos e]
      · rw [if_neg e, if_neg e, if_neg e]
theorem r_takes {row : Nat → Int32} {c k r : Nat} (hc : c < 80) (hk : k ≤ 30) (hr : r ≤ 200) (h : row (2400 + c) = nI k) : ∃ row', f_X11_takesOff 2685 row (nI c) (nI r) 0 = some (nI (min r k), row') ∧ ∀ j, row' j = if j = 2400 + c then nI (k - r) else row j := by
  obtain ⟨row', e1, e2⟩ := r_takes_b hc hk (Nat.min_le_right r k) (min r k) 0 4000 row (by omega) (by omega) h
  refine ⟨row', ?_, fun j => by rw [e2 j, show k - min r k = k - r by omega]⟩
  have hl : f_X11_less (nI r) (nI k) = some (nI (min r k)) := by
    rw [f_X11_less]
    by_cases h3 : k ≤ r
    · rw [if_pos (nI_le h3 (by omega)), Nat.min_eq_right h3]
    · rw [if_neg (nI_ge (by omega) (by omega)), Nat.min_eq_left (by omega)]
  rw [← pl0] at e1
  rw [f_X11_takesOff, pl2400, nI_add, pu_ck (by omega) (by omega), nI_clamp (by omega), h, hl, Option.bind_some]
  exact e1
theorem r_washAll {m19 : Int32} {to v25 v26 : Nat → Int32} {pa ra od la : Nat → Nat → Int32} {dp : Nat → Nat} {np r : Nat} (hn : np ≤ 5) (ht : to 0 = nI np) (hr : r ≤ 200) : ∀ (m i q : Nat) (row : Nat → Int32), i + m = 16 * np → m < q → (∀ c, i ≤ c → c < 16 * np → row (2400 + c) = nI (dp c) ∧ dp c ≤ 30) → ∃ row', f_X11_dayEnds_b92 m19 to pa ra od la 2685 q v25 v26 row (nI r) (nI i) = f_X11_dayEnds_b128 m19 to pa ra od la 2685 4000 v25 v26 row' (nI r) 0 ∧ (∀ c, i ≤ c → c < 16 * np → row' (2400 + c) = nI (dp c - r)) ∧ row' 2683 = row 2683 + nI (sF (fun c => min r (dp c)) m i) ∧ (∀ j, j ≠ 2683 → ¬ (2400 + i ≤ j ∧ j < 2400 + 16 * np) → row' j = row j) := by
  have e0 : to ((0 : Int32).toNatClampNeg) = nI np := ht
  have c83 : ((2683 : Int32).toNatClampNeg) = 2683 := rfl
  intro m
  induction m with
  | zero =>
    intro i q row hi hq hd
    obtain ⟨q, rfl⟩ : ∃ r, q = r + 1 := ⟨q - 1, by omega⟩
    refine ⟨row, ?_, fun c h1 h2 => absurd h1 (by omega), ?_, fun j _ _ => rfl⟩
    · rw [f_X11_dayEnds_b92, e0, pl16, pk_mul, if_pos (nI_le (by omega) (by omega))]
    · rw [sF, ← pl0, Int32.add_zero]
  | succ m ih =>
    intro i q row hi hq hd
    obtain ⟨q, rfl⟩ : ∃ r, q = r + 1 := ⟨q - 1, by omega⟩
    obtain ⟨h1, h2⟩ := hd i (by omega) (by omega)
    obtain ⟨row1, a1, a2⟩ := r_takes (c := i) (by omega) h2 hr h1
    obtain ⟨row', b1, b2, b3, b4⟩ := ih (i + 1) q (upd row1 2683 (row 2683 + nI (min r (dp i)))) (by omega) (by omega) (fun c h3 h4 => by
      rw [upd, if_neg (by omega), a2, if_neg (by omega)]
      exact hd c (by omega) h4)
    refine ⟨row', ?_, fun c h3 h4 => ?_, ?_, fun j h3 h4 => ?_⟩
    · rw [f_X11_dayEnds_b92, e0, pl16, pk_mul, if_neg (nI_ge (by omega) (by omega)), pl2683, pu_ck (by omega) (by omega), a1, Option.bind_some, pu_ck (by omega) (by omega), ← pl2683, c83, nI_1]
      exact b1
    · by_cases e : c = i
      · subst e
        rw [b4 _ (by omega) (by omega), upd, if_neg (by omega), a2, if_pos rfl]
      · exact b2 c (by omega) h4
    · rw [b3, upd, if_pos rfl, sF, Int32.add_assoc, nI_add]
    · rw [b4 j h3 (by omega), upd, if_neg h3, a2, if_neg (by omega)]

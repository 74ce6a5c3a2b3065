/-! what refuses a call -/
theorem pz_ix (x : Int32) {n : Nat} (hn : n < 2 ^ 31) : (x < 0 ∨ nI n ≤ x) ∨ ∃ j : Nat, j < n ∧ x = nI j := by
  rcases pk_ix x hn with h | h | h
  · exact .inl (.inl h)
  · exact .inl (.inr h)
  · exact .inr h
theorem pz_ix2 (x : Int32) {n : Nat} (hn : n < 2 ^ 30) : (x < 0 ∨ nI n < x) ∨ ∃ j : Nat, j ≤ n ∧ x = nI j := by
  rcases pk_ix x (n := n + 1) (by omega) with h | h | ⟨j, h, rfl⟩
  · exact .inl (.inl h)
  · exact .inl (.inr (Int32.lt_of_lt_of_le (nI_lt (by omega) (by omega)) h))
  · exact .inr ⟨j, by omega, rfl⟩
theorem p_need1 (v : Nat → Int32) : f_X10_need v 1 = some (0, v) := rfl
theorem p_need0 (v : Nat → Int32) : f_X10_need v 0 = some (1, upd v 2 (v 2 + 1)) := rfl
theorem p_paneOk {v : Nat → Int32} {np p : Nat} (h : p < np) (hn : np ≤ 5) : f_X10_needPane v (nI np) (nI p) = some (0, v) := by
  rw [f_X10_needPane]
  rw [if_neg (nI_pos (by omega)), if_pos (nI_lt h (by omega))]
theorem p_paneNo {v : Nat → Int32} {np : Nat} {x : Int32} (h : x < 0 ∨ nI np ≤ x) : f_X10_needPane v (nI np) x = some (2, upd v 1 (v 1 + 1)) := by
  rw [f_X10_needPane]
  by_cases h0 : x < 0
  · rw [if_pos h0]
    rfl
  · rw [if_neg h0, if_neg]
    · rfl
    · rcases h with h | h
      · exact absurd h h0
      · exact Int32.not_lt.mpr h
theorem p_orderOk {v : Nat → Int32} {np p : Nat} (h : p < np) (hn : np ≤ 12) : f_X10_needOrder v (nI np) (nI p) = some (0, v) := by
  rw [f_X10_needOrder]
  rw [if_neg (nI_pos (by omega)), if_pos (nI_lt h (by omega))]
theorem p_orderNo {v : Nat → Int32} {np : Nat} {x : Int32} (h : x < 0 ∨ nI np ≤ x) : f_X10_needOrder v (nI np) x = some (2, upd v 1 (v 1 + 1)) := by
  rw [f_X10_needOrder]
  by_cases h0 : x < 0
  · rw [if_pos h0]
    rfl
  · rw [if_neg h0, if_neg]
    · rfl
    · rcases h with h | h
      · exact absurd h h0
      · exact Int32.not_lt.mpr h
theorem p_whatOk {v : Nat → Int32} {a k : Nat} (h : a ≤ k) (hn : k < 100) : f_X10_needWhat v (nI a) (nI k) = some (0, v) := by
  rw [f_X10_needWhat]
  rw [if_neg (nI_pos (by omega)), if_neg (nI_nlt h (by omega))]
  rfl
theorem p_whatNo {v : Nat → Int32} {k : Nat} {x : Int32} (h : x < 0 ∨ nI k < x) : f_X10_needWhat v x (nI k) = some (1, upd v 2 (v 2 + 1)) := by
  rw [f_X10_needWhat]
  by_cases h0 : x < 0
  · rw [if_pos h0]
    rfl
  · rw [if_neg h0]
    rcases h with h | h
    · exact absurd h h0
    · rw [if_pos h]
      rfl
theorem r_bad0 (v : Nat → Int32) (w r : Int32) : f_X11_bad 0 v 0 w r = some (0, 0, v) := rfl
theorem r_bad1 (v : Nat → Int32) {w r : Int32} {k : Nat} (hr : r = nI k) (hk : k < 3) (hw : w ≠ 0) : f_X11_bad 0 v 1 w r = some (1, w, upd v k (v k + 1)) := by
  subst hr
  rw [f_X11_bad, if_neg (by decide), if_pos rfl, pu_ck hk (by omega), pu_ck hk (by omega), nI_clamp (by omega), f_X11_bad_b26, if_neg hw]
theorem r_inOk {a b k : Nat} (h : b ≤ a) (h1 : a ≤ k) (hk : k < 2 ^ 30) : f_X11_in (nI a) (nI b) (nI k) = some 1 := by
  rw [f_X11_in, if_neg (nI_nlt h (by omega)), if_neg (nI_nlt h1 (by omega))]
theorem r_inNo {x y z : Int32} (h : x < y ∨ z < x) : f_X11_in x y z = some 0 := by
  rw [f_X11_in]
  by_cases h0 : x < y
  · rw [if_pos h0]
  · rw [if_neg h0, if_pos]
    rcases h with h | h
    · exact absurd h h0
    · exact h
theorem pz_lastLt {n : Nat} {x : Int32} (hn : n < 2 ^ 30) (h : x < 0 ∨ nI n ≤ x) : x < 0 ∨ nI n - 1 < x := by
  rcases h with h | h
  · exact .inl h
  · cases n with
    | zero =>
      by_cases h0 : x < 0
      · exact .inl h0
      · exact .inr (Int32.lt_of_lt_of_le (by decide) h)
    | succ n =>
      rw [nI_pred]
      exact .inr (Int32.lt_of_lt_of_le (nI_lt (by omega) (by omega)) h)
theorem r_isPaneOk {to : Nat → Int32} {np p : Nat} (ht : to 0 = nI np) (h : p < np) (hn : np ≤ 5) : f_X11_isPane to (nI p) = some 1 := by
  rw [f_X11_isPane, show ((0 : Int32).toNatClampNeg) = 0 from rfl, ht, pl1, pk_sub (by omega), pl0, r_inOk (by omega) (by omega) (by omega)]
  rfl
theorem r_isPaneNo {to : Nat → Int32} {np : Nat} {x : Int32} (ht : to 0 = nI np) (hn : np ≤ 5) (h : x < 0 ∨ nI np ≤ x) : f_X11_isPane to x = some 0 := by
  rw [f_X11_isPane, show ((0 : Int32).toNatClampNeg) = 0 from rfl, ht, r_inNo (pz_lastLt (by omega) h)]
  rfl
theorem r_isOrderOk {to : Nat → Int32} {np p : Nat} (ht : to 1 = nI np) (h : p < np) (hn : np ≤ 12) : f_X11_isOrder to (nI p) = some 1 := by
  rw [f_X11_isOrder, show ((1 : Int32).toNatClampNeg) = 1 from rfl, ht, pl1, pk_sub (by omega), pl0, r_inOk (by omega) (by omega) (by omega)]
  rfl
theorem r_isOrderNo {to : Nat → Int32} {np : Nat} {x : Int32} (ht : to 1 = nI np) (hn : np ≤ 12) (h : x < 0 ∨ nI np ≤ x) : f_X11_isOrder to x = some 0 := by
  rw [f_X11_isOrder, show ((1 : Int32).toNatClampNeg) = 1 from rfl, ht, r_inNo (pz_lastLt (by omega) h)]
  rfl
theorem pz10 : ((1 : Int32) = 0) = False := by decide
theorem r_badC (v : Nat → Int32) {w : Int32} (hw : w ≠ 0) : f_X11_bad 0 v 1 w 0 = some (1, w, upd v 0 (v 0 + 1)) := r_bad1 v (k := 0) rfl (by omega) hw
theorem r_badA (v : Nat → Int32) {w : Int32} (hw : w ≠ 0) : f_X11_bad 0 v 1 w 1 = some (1, w, upd v 1 (v 1 + 1)) := r_bad1 v (k := 1) rfl (by omega) hw
theorem r_badB (v : Nat → Int32) {w : Int32} (hw : w ≠ 0) : f_X11_bad 0 v 1 w 2 = some (1, w, upd v 2 (v 2 + 1)) := r_bad1 v (k := 2) rfl (by omega) hw
theorem r_A1 (v : Nat → Int32) : f_X11_bad 0 v 1 1 1 = some (1, 1, upd v 1 (v 1 + 1)) := r_badA v (by decide)
theorem r_A2 (v : Nat → Int32) : f_X11_bad 0 v 1 2 1 = some (1, 2, upd v 1 (v 1 + 1)) := r_badA v (by decide)
theorem r_B1 (v : Nat → Int32) : f_X11_bad 0 v 1 1 2 = some (1, 1, upd v 2 (v 2 + 1)) := r_badB v (by decide)
theorem r_B2 (v : Nat → Int32) : f_X11_bad 0 v 1 2 2 = some (1, 2, upd v 2 (v 2 + 1)) := r_badB v (by decide)
theorem r_B3 (v : Nat → Int32) : f_X11_bad 0 v 1 3 2 = some (1, 3, upd v 2 (v 2 + 1)) := r_badB v (by decide)
theorem r_C1 (v : Nat → Int32) : f_X11_bad 0 v 1 1 0 = some (1, 1, upd v 0 (v 0 + 1)) := r_badC v (by decide)

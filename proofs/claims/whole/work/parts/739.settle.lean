/-! a film settles on a cell -/
def fdS (fd : Nat → Nat) (c k hd dn j : Nat) : Nat := if k < hd then (if j < k then fd (30 * c + j) else dn) else (if j + 1 < hd then fd (30 * c + j + 1) else dn)
def dpS (k hd : Nat) : Nat := if k < hd then k + 1 else hd
theorem p_settle {fi de : Nat → Int32} {fd : Nat → Nat} {c k hd dn : Nat} (hc : c < 80) (hk : k ≤ hd) (h1 : 1 ≤ hd) (h30 : hd ≤ 30) (hd1 : de c = nI k) (hf : ∀ j, j < k → fi (30 * c + j) = nI (fd (30 * c + j))) : ∃ fi' de', f_X2_settle (nI dn) fi de (nI c) (nI hd) = some (fi', de') ∧ (∀ t, de' t = if t = c then nI (dpS k hd) else de t) ∧ (∀ j, j < dpS k hd → fi' (30 * c + j) = nI (fdS fd c k hd dn j)) ∧ (∀ t, ¬ (30 * c ≤ t ∧ t < 30 * c + 30) → fi' t = fi t) := by
  have e30 : (30 : Int32) * nI c = nI (30 * c) := by rw [pl30, pk_mul]
  have hcl : (nI c).toNatClampNeg = c := nI_clamp (by omega)
  by_cases hlt : k < hd
  · refine ⟨upd fi (30 * c + k) (nI dn), upd de c (nI (k + 1)), ?_, fun t => ?_, fun j hj => ?_, fun t ht => ?_⟩
    · rw [f_X2_settle, pu_ck hc (by omega), hcl, hd1, if_pos (nI_lt hlt (by omega)), f_X2_settle_b48, e30, hcl, hd1, nI_add, pu_ck hc (by omega), pu_ck (by omega) (by omega), pu_ck hc (by omega), pu_ck hc (by omega), nI_clamp (by omega), nI_1]
    · rw [upd, dpS, if_pos hlt]
    · rw [dpS, if_pos hlt] at hj
      rw [upd, fdS, if_pos hlt]
      by_cases e : j = k
      · rw [if_pos (by omega), if_neg (by omega)]
      · rw [if_neg (by omega), if_pos (by omega), hf j (by omega)]
    · rw [upd, if_neg (by omega)]
  · have hkh : k = hd := by omega
    obtain ⟨w, rfl⟩ : ∃ w, k = w + 1 := ⟨k - 1, by omega⟩
    have hcp : ∀ t, va_cpy fi fi (30 * c + 1) (30 * c) w t = if 30 * c ≤ t ∧ t < 30 * c + w then fi (t + 1) else fi t := by
      intro t
      rw [va_cpy]
      by_cases e : 30 * c ≤ t ∧ t < 30 * c + w
      · rw [if_pos e, if_pos e]
        congr 1
        omega
      · rw [if_neg e, if_neg e]
    refine ⟨upd (va_cpy fi fi (30 * c + 1) (30 * c) w) (30 * c + w) (nI dn), upd (upd de c (nI w)) c (nI (w + 1)), ?_, fun t => ?_, fun j hj => ?_, fun t ht => ?_⟩
    · have hcy : ∀ {R : Type} (z : Option R), cy (nI (30 * c + 1)) (nI (30 * c)) (nI w) 2400 2400 z = z := by
        intro R z
        rw [cy, if_pos]
        refine ⟨nI_pos (by omega), nI_pos (by omega), nI_pos (by omega), ?_, ?_⟩
        · rw [nI_clamp (by omega), nI_clamp (by omega)]
          omega
        · rw [nI_clamp (by omega), nI_clamp (by omega)]
          omega
      rw [f_X2_settle, pu_ck hc (by omega), hcl, hd1, if_neg (nI_nlt (by omega) (by omega)), pu_ck hc (by omega), e30, nI_pred, nI_1, hcy, pu_ck hc (by omega), pu_ck hc (by omega), f_X2_settle_b48, nI_clamp (show 30 * c + 1 < 2 ^ 31 by omega), nI_clamp (show 30 * c < 2 ^ 31 by omega), nI_clamp (show w < 2 ^ 31 by omega), hcl, show (upd de c (nI w)) c = nI w by rw [upd, if_pos rfl], nI_add, pu_ck hc (by omega), pu_ck (by omega) (by omega), pu_ck hc (by omega), pu_ck hc (by omega), nI_clamp (by omega), nI_1]
    · rw [dpS, if_neg hlt, ← hkh, upd]
      by_cases e : t = c
      · rw [if_pos e, if_pos e]
      · rw [if_neg e, if_neg e, upd, if_neg e]
    · rw [dpS, if_neg hlt] at hj
      rw [upd, fdS, if_neg hlt]
      by_cases e : j = w
      · rw [if_pos (by omega), if_neg (by omega)]
      · rw [if_neg (by omega), if_pos (by omega), hcp, if_pos (by omega), Nat.add_assoc (30 * c), hf (j + 1) (by omega)]
    · rw [upd, if_neg (by omega), hcp, if_neg (by omega)]
theorem r_over73 {to row : Nat → Int32} {c k : Nat} {D : Int32} (hc : c < 80) (hk : k < 30) (h : row (2400 + c) = nI k) : f_X11_filmsOver_b73 to 2685 row (nI c) D (nI (30 * c)) = some (upd (upd row (30 * c + k) D) (2400 + c) (nI (k + 1))) := by
  rw [f_X11_filmsOver_b73, pl2400, nI_add, nI_clamp (show 2400 + c < 2 ^ 31 by omega), h, nI_add, pu_ck (by omega) (by omega), pu_ck (by omega) (by omega), pu_ck (by omega) (by omega), pu_ck (by omega) (by omega), nI_clamp (show 30 * c + k < 2 ^ 31 by omega), show upd row (30 * c + k) D (2400 + c) = nI k by rw [upd, if_neg (by omega), h], nI_1]
theorem r_over27 {to row0 : Nat → Int32} {c hd : Nat} {D : Int32} (hc : c < 80) (h1 : 1 ≤ hd) (h30 : hd ≤ 30) (ht : to 5 = nI hd) (hm : row0 (2400 + c) = nI hd) : ∀ (m t q : Nat) (row : Nat → Int32), t + m + 1 = hd → m < q → (∀ j, row j = if 30 * c ≤ j ∧ j < 30 * c + t then row0 (j + 1) else row0 j) → ∃ row', f_X11_filmsOver_b27 to 2685 q row (nI c) D (nI (30 * c)) (nI t) = some row' ∧ ∀ j, row' j = if j = 2400 + c then nI hd else if j = 30 * c + (hd - 1) then D else if 30 * c ≤ j ∧ j < 30 * c + (hd - 1) then row0 (j + 1) else row0 j := by
  have c5 : to ((5 : Int32).toNatClampNeg) = nI hd := ht
  intro m
  induction m with
  | zero =>
    intro t q row hi hq hrow
    obtain ⟨q, rfl⟩ : ∃ r, q = r + 1 := ⟨q - 1, by omega⟩
    have hr2 : row (2400 + c) = nI hd := by rw [hrow, if_neg (by omega), hm]
    have e73 := r_over73 (to := to) (row := upd row (2400 + c) (nI (hd - 1))) (D := D) hc (show hd - 1 < 30 by omega) (by rw [upd, if_pos rfl])
    refine ⟨upd (upd (upd row (2400 + c) (nI (hd - 1))) (30 * c + (hd - 1)) D) (2400 + c) (nI (hd - 1 + 1)), ?_, fun j => ?_⟩
    · rw [f_X11_filmsOver_b27, c5, nI_1, if_pos (nI_le (by omega) (by omega)), pl2400, nI_add, pu_ck (by omega) (by omega), pu_ck (by omega) (by omega), nI_clamp (by omega), hr2, pl1, pk_sub (by omega)]
      exact e73
    · rw [upd]
      by_cases e : j = 2400 + c
      · rw [if_pos e, if_pos e]
        congr 1
        omega
      · rw [if_neg e, if_neg e, upd]
        by_cases e2 : j = 30 * c + (hd - 1)
        · rw [if_pos e2, if_pos e2]
        · rw [if_neg e2, if_neg e2, upd, if_neg e, hrow, show t = hd - 1 by omega]
  | succ m ih =>
    intro t q row hi hq hrow
    obtain ⟨q, rfl⟩ : ∃ r, q = r + 1 := ⟨q - 1, by omega⟩
    rw [f_X11_filmsOver_b27, c5, nI_1, if_neg (nI_ge (by omega) (by omega)), nI_add, nI_1, pu_ck (by omega) (by omega), pu_ck (by omega) (by omega), nI_clamp (by omega), nI_clamp (by omega)]
    refine ih (t + 1) q _ (by omega) (by omega) (fun j => ?_)
    rw [upd]
    by_cases e : j = 30 * c + t
    · rw [if_pos e, if_pos (by omega), hrow, if_neg (by omega), e]
    · rw [if_neg e, hrow]
      by_cases e2 : 30 * c ≤ j ∧ j < 30 * c + t
      · rw [if_pos e2, if_pos (by omega)]
      · rw [if_neg e2, if_neg (by omega)]
theorem r_settle {to row : Nat → Int32} {fd : Nat → Nat} {c k hd dn : Nat} (hc : c < 80) (hk : k ≤ hd) (h1 : 1 ≤ hd) (h30 : hd ≤ 30) (ht : to 5 = nI hd) (hm : row (2400 + c) = nI k) (hf : ∀ j, j < k → row (30 * c + j) = nI (fd (30 * c + j))) : ∃ row', f_X11_filmsOver to 2685 row (nI c) (nI dn) = some row' ∧ row' (2400 + c) = nI (dpS k hd) ∧ (∀ j, j < dpS k hd → row' (30 * c + j) = nI (fdS fd c k hd dn j)) ∧ (∀ t, t ≠ 2400 + c → ¬ (30 * c ≤ t ∧ t < 30 * c + 30) → row' t = row t) := by
  have c5 : to ((5 : Int32).toNatClampNeg) = nI hd := ht
  have ea : (0 : Int32) + 30 * nI c = nI (30 * c) := by rw [pl30, pk_mul, pl0, nI_add, Nat.zero_add]
  by_cases hlt : k < hd
  · refine ⟨upd (upd row (30 * c + k) (nI dn)) (2400 + c) (nI (k + 1)), ?_, ?_, fun j hj => ?_, fun t h2 h3 => ?_⟩
    · rw [f_X11_filmsOver, pl2400, nI_add, pu_ck (by omega) (by omega), nI_clamp (by omega), hm, c5, if_neg (by rw [nI_eq (by omega) (by omega)]; omega), ea]
      exact r_over73 hc (by omega) hm
    · rw [upd, if_pos rfl, dpS, if_pos hlt]
    · rw [dpS, if_pos hlt] at hj
      rw [upd, if_neg (by omega), upd, fdS, if_pos hlt]
      by_cases e : j = k
      · rw [if_pos (by omega), if_neg (by omega)]
      · rw [if_neg (by omega), if_pos (by omega), hf j (by omega)]
    · rw [upd, if_neg h2, upd, if_neg (by omega)]
  · have hkh : k = hd := by omega
    subst hkh
    obtain ⟨row', e1, e2⟩ := r_over27 (to := to) (D := nI dn) hc h1 h30 ht hm (k - 1) 0 4000 row (by omega) (by omega) (fun j => by rw [if_neg (by omega)])
    rw [← pl0] at e1
    refine ⟨row', ?_, ?_, fun j hj => ?_, fun t h2 h3 => ?_⟩
    · rw [f_X11_filmsOver, pl2400, nI_add, pu_ck (by omega) (by omega), nI_clamp (by omega), hm, c5, if_pos rfl, ea]
      exact e1
    · rw [e2, if_pos rfl, dpS, if_neg hlt]
    · rw [dpS, if_neg hlt] at hj
      rw [e2, if_neg (by omega), fdS, if_neg hlt]
      by_cases e : j = k - 1
      · rw [if_pos (by omega), if_neg (by omega)]
      · rw [if_neg (by omega), if_pos (by omega), if_pos (by omega), Nat.add_assoc (30 * c), hf (j + 1) (by omega)]
    · rw [e2, if_neg h2, if_neg (by omega), if_neg (by omega)]

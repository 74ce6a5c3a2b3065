/-! pure: Arrays.fill -/
def fillF (v : Nat → Int32) (x : Int32) (i n : Nat) : Nat → Int32 := fun k => if i ≤ k ∧ k < n then x else v k
theorem fill_b {x : Int32} {n0 : Nat} (hn : n0 < 4000) : ∀ (m i q : Nat) (v : Nat → Int32), i + m = n0 → m < q → f_J7_fill_53178_b5 n0 q v x (nI i) (nI n0) = some (fillF v x i n0) := by
  intro m
  induction m with
  | zero =>
    intro i q v hi hq
    obtain ⟨q, rfl⟩ : ∃ r, q = r + 1 := ⟨q - 1, by omega⟩
    rw [f_J7_fill_53178_b5, if_pos (nI_le (by omega) (by omega))]
    congr 1
    funext k
    simp only [fillF]
    rw [if_neg (by omega)]
  | succ m ih =>
    intro i q v hi hq
    obtain ⟨q, rfl⟩ : ∃ r, q = r + 1 := ⟨q - 1, by omega⟩
    rw [f_J7_fill_53178_b5, if_neg (nI_ge (by omega) (by omega)), pu_ck (by omega) (by omega), nI_clamp (by omega), nI_1, ih (i + 1) q _ (by omega) (by omega)]
    congr 1
    funext k
    simp only [fillF, upd]
    by_cases h1 : k = i
    · subst h1
      rw [if_neg (by omega)]
      simp
      omega
    · by_cases h2 : i ≤ k ∧ k < n0
      · rw [if_pos ⟨by omega, by omega⟩, if_pos h2]
      · rw [if_neg (by omega), if_neg h2]
        simp [h1]
theorem p_fill {x : Int32} {n0 : Nat} (hn : n0 < 4000) (v : Nat → Int32) : f_J7_fill_53178 n0 v x = some (fillF v x 0 n0) := fill_b hn n0 0 4000 v (by omega) (by omega)
theorem p_forget6 (i0 i6 i8 i10 i11 i12 : Int32) (v : Nat → Int32) : f_X6_forget i0 i6 i8 i10 i11 i12 v = some (0, 0, 0, 1, 3, 20, fillF v 0 0 201) := by
  rw [f_X6_forget, p_fill (by omega)]
  rfl

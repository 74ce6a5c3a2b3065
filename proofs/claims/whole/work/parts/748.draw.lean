/-! lots drawn -/
def sIt (f : Nat → Int32) : Nat → Nat → Int32
  | 0, _ => 0
  | m + 1, i => f i + sIt f m (i + 1)
theorem sIt_ext (f g : Nat → Int32) : ∀ m i, (∀ j, i ≤ j → j < i + m → f j = g j) → sIt f m i = sIt g m i := by
  intro m
  induction m with
  | zero => intro i _; rfl
  | succ m ih =>
    intro i h
    rw [sIt, sIt, h i (by omega) (by omega), ih (i + 1) (fun j h1 h2 => h j (by omega) (by omega))]
theorem i_acomm (a b c : Int32) : a + (b + c) = b + (a + c) := by
  rw [← Int32.add_assoc, Int32.add_comm a b, Int32.add_assoc]
theorem sIt_one (f g : Nat → Int32) (p : Nat) (hg : g p = 0) (hf : ∀ j, j ≠ p → g j = f j) : ∀ m i, i ≤ p → p < i + m → sIt f m i = f p + sIt g m i := by
  intro m
  induction m with
  | zero => intro i h1 h2; omega
  | succ m ih =>
    intro i h1 h2
    rw [sIt, sIt]
    by_cases e : i = p
    · subst e
      rw [hg, Int32.zero_add, sIt_ext f g m (i + 1) (fun j h3 h4 => (hf j (by omega)).symm)]
    · rw [ih (i + 1) (by omega) (by omega), hf i e, i_acomm]
theorem sIt_add (f g : Nat → Int32) : ∀ m i, sIt (fun j => f j + g j) m i = sIt f m i + sIt g m i := by
  intro m
  induction m with
  | zero => intro i; rfl
  | succ m ih =>
    intro i
    rw [sIt, sIt, sIt, ih (i + 1)]
    rw [Int32.add_assoc, Int32.add_assoc, i_acomm (g i)]
theorem sIt_nI (f : Nat → Nat) : ∀ m i, sIt (fun j => nI (f j)) m i = nI (sF f m i) := by
  intro m
  induction m with
  | zero => intro i; rfl
  | succ m ih =>
    intro i
    rw [sIt, sF, ih (i + 1), nI_add]
theorem lots15 (l : Int32) : ((l >>> ((16 : Int32) &&& 31)) &&& 32767) - ((l >>> ((16 : Int32) &&& 31)) &&& 32767) / 16 * 16 = (l >>> ((16 : Int32) &&& 31)) &&& 15 := by
  obtain ⟨Z, hZ, e⟩ := pz_of32 (l >>> ((16 : Int32) &&& 31))
  have e1 : Z &&& 32767 = Z % 32768 := Nat.and_two_pow_sub_one_eq_mod Z 15
  have e2 : Z &&& 15 = Z % 16 := Nat.and_two_pow_sub_one_eq_mod Z 4
  rw [e, show (32767 : Int32) = nI 32767 from rfl, pl15, pl16, pz_and, pz_and, e1, e2, pk_div (by omega) (by omega) (by omega), pn_rem (by omega) (by omega) (by omega), show Z % 32768 % 16 = Z % 16 by omega]
abbrev DW : Type := Nat × Int32 × Int32
/-- pane p on day d: broken, lots, washed -/
def dw1 (x : Int32) (wb : Nat → Int32) (d p : Nat) (s : DW) : DW :=
  if s.1.testBit p = true then s else if x ≤ (((s.2.1 * 1103515245 + 12345) >>> ((16 : Int32) &&& 31)) &&& 15) then (s.1, s.2.1 * 1103515245 + 12345, s.2.2) else (s.1 ||| 2 ^ p, s.2.1 * 1103515245 + 12345, s.2.2 + wb (61 * p + d - 1))
def dwP (x : Int32) (wb : Nat → Int32) (d : Nat) : Nat → Nat → DW → DW
  | 0, _, s => s
  | m + 1, i, s => dwP x wb d m (i + 1) (dw1 x wb d i s)
def dwD (x : Int32) (wb : Nat → Int32) (np : Nat) : Nat → Nat → DW → DW
  | 0, _, s => s
  | m + 1, d, s => dwD x wb np m (d + 1) (dwP x wb d np 0 s)
theorem or_lt32 {b p : Nat} (hb : b < 32) (hp : p < 5) : b ||| 2 ^ p < 32 := by
  have : (2 : Nat) ^ p < 2 ^ 5 := Nat.pow_lt_pow_right (by omega) hp
  exact Nat.or_lt_two_pow (n := 5) hb this
theorem dw1_lt {x : Int32} {wb : Nat → Int32} {d p : Nat} {s : DW} (hs : s.1 < 32) (hp : p < 5) : (dw1 x wb d p s).1 < 32 := by
  rw [dw1]
  by_cases h : s.1.testBit p = true
  · rw [if_pos h]; exact hs
  · rw [if_neg h]
    by_cases h2 : x ≤ (((s.2.1 * 1103515245 + 12345) >>> ((16 : Int32) &&& 31)) &&& 15)
    · rw [if_pos h2]; exact hs
    · rw [if_neg h2]; exact or_lt32 hs hp
theorem p_drawP {wb de : Nat → Int32} {np d days : Nat} {x i1 : Int32} {k17 : (Int32) → (Int32) → (Int32) → Int32 → Int32 → Int32 → Int32 → Int32 → Option (Int32 × Int32 × Int32)} (hn : np ≤ 5) (hd1 : 1 ≤ d) (hd2 : d ≤ 60) : ∀ (m i q : Nat) (s : DW), i + m = np → m < q → s.1 < 32 → f_X8_drawDecade_b26 wb de k17 q i1 (nI s.1) s.2.2 x (nI days) (nI np) s.2.1 (nI d) (nI i) = k17 i1 (nI (dwP x wb d m i s).1) (dwP x wb d m i s).2.2 x (nI days) (nI np) (dwP x wb d m i s).2.1 (nI (d + 1)) ∧ (dwP x wb d m i s).1 < 32 := by
  intro m
  induction m with
  | zero =>
    intro i q s hi hq hs
    obtain ⟨q, rfl⟩ : ∃ r, q = r + 1 := ⟨q - 1, by omega⟩
    refine ⟨?_, hs⟩
    rw [f_X8_drawDecade_b26, if_pos (nI_le (by omega) (by omega)), nI_1]
    rfl
  | succ m ih =>
    intro i q s hi hq hs
    obtain ⟨q, rfl⟩ : ∃ r, q = r + 1 := ⟨q - 1, by omega⟩
    obtain ⟨e1, e2⟩ := ih (i + 1) q (dw1 x wb d i s) (by omega) (by omega) (dw1_lt hs (by omega))
    rw [dwP]
    refine ⟨?_, e2⟩
    rw [← e1, f_X8_drawDecade_b26, if_neg (nI_ge (by omega) (by omega)), lots15, f_X8_drawDecade_b109, f_X8_drawDecade_b109, f_X8_drawDecade_b109, nI_1, dw1]
    generalize s.2.1 * 1103515245 + 12345 = l
    by_cases h : s.1.testBit i = true
    · rw [if_pos h, if_neg (by rw [bit_if0 (by omega) (by omega), h]; decide)]
    · have h0 : s.1.testBit i = false := by
        cases e : s.1.testBit i with
        | true => exact absurd e h
        | false => rfl
      rw [if_neg h, if_pos (by rw [bit_if0 (by omega) (by omega), h0])]
      by_cases h2 : x ≤ ((l >>> ((16 : Int32) &&& 31)) &&& 15)
      · simp -implicitDefEqProofs only [if_pos h2]
      · simp -implicitDefEqProofs only [if_neg h2]
        rw [pl61, pk_mul, nI_add, pl1, pl31, pk_sub (by omega), pu_ck (by omega) (by omega), nI_clamp (by omega), pn_shl (by omega), pz_or]
theorem p_drawE {wb de : Nat → Int32} {dp : Nat → Nat} {np days b : Nat} (hn : np ≤ 5) (hdays : days ≤ 60) (hb : b < 32) (hd : ∀ c, c < 80 → de c = nI (dp c)) : ∀ (m i q acc : Nat) (w : Int32), i + m = np → m < q → f_X8_drawDecade_b129 wb de q (nI acc) (nI b) w (nI days) (nI np) (nI i) = some (nI (acc + sF (fun p => if b.testBit p = true then 0 else aP dp p) m i), nI b, w + sIt (fun p => if b.testBit p = true then 0 else wb (61 * p + days)) m i) := by
  intro m
  induction m with
  | zero =>
    intro i q acc w hi hq
    obtain ⟨q, rfl⟩ : ∃ r, q = r + 1 := ⟨q - 1, by omega⟩
    rw [f_X8_drawDecade_b129, if_pos (nI_le (by omega) (by omega)), sF, sIt, Nat.add_zero, Int32.add_zero]
  | succ m ih =>
    intro i q acc w hi hq
    obtain ⟨q, rfl⟩ : ∃ r, q = r + 1 := ⟨q - 1, by omega⟩
    rw [f_X8_drawDecade_b129, if_neg (nI_ge (by omega) (by omega)), f_X8_drawDecade_b187, nI_1, sF, sIt]
    by_cases h : b.testBit i = true
    · rw [if_neg (by rw [bit_if0 (by omega) (by omega), h]; decide), ih (i + 1) q acc w (by omega) (by omega), if_pos h, if_pos h, Nat.zero_add, Int32.zero_add]
    · have h0 : b.testBit i = false := by
        cases e : b.testBit i with
        | true => exact absurd e h
        | false => rfl
      rw [if_pos (by rw [bit_if0 (by omega) (by omega), h0]), if_neg h, if_neg h, p_filmsOn (by omega) hd, Option.bind_some, pl61, pk_mul, nI_add, pu_ck (by omega) (by omega), nI_clamp (by omega), f_X8_drawDecade_b187, nI_add, nI_1, ih (i + 1) q _ _ (by omega) (by omega), Nat.add_assoc, Int32.add_assoc]
theorem p_drawD {wb de : Nat → Int32} {dp : Nat → Nat} {np days : Nat} {x i1 : Int32} (hn : np ≤ 5) (hdays : days ≤ 60) (hd : ∀ c, c < 80 → de c = nI (dp c)) : ∀ (m d q : Nat) (s : DW), d + m = days + 1 → 1 ≤ d → m < q → s.1 < 32 → f_X8_drawDecade_b17 wb de q i1 (nI s.1) s.2.2 x (nI days) (nI np) s.2.1 (nI d) = some (nI (sF (fun p => if (dwD x wb np m d s).1.testBit p = true then 0 else aP dp p) np 0), nI (dwD x wb np m d s).1, (dwD x wb np m d s).2.2 + sIt (fun p => if (dwD x wb np m d s).1.testBit p = true then 0 else wb (61 * p + days)) np 0) ∧ (dwD x wb np m d s).1 < 32 := by
  intro m
  induction m with
  | zero =>
    intro d q s hi h1 hq hs
    obtain ⟨q, rfl⟩ : ∃ r, q = r + 1 := ⟨q - 1, by omega⟩
    refine ⟨?_, hs⟩
    have e := p_drawE (wb := wb) (de := de) hn hdays hs hd np 0 4000 0 s.2.2 (by omega) (by omega)
    rw [← pl0, Nat.zero_add] at e
    rw [f_X8_drawDecade_b17, if_pos (nI_lt (by omega) (by omega)), e, dwD]
  | succ m ih =>
    intro d q s hi h1 hq hs
    obtain ⟨q, rfl⟩ : ∃ r, q = r + 1 := ⟨q - 1, by omega⟩
    obtain ⟨e1, e2⟩ := p_drawP (wb := wb) (de := de) (np := np) (d := d) (days := days) (x := x) (i1 := i1) (k17 := f_X8_drawDecade_b17 wb de q) hn h1 (by omega) np 0 4000 s (by omega) (by omega) hs
    obtain ⟨e3, e4⟩ := ih (d + 1) q (dwP x wb d np 0 s) (by omega) (by omega) (by omega) e2
    rw [dwD]
    refine ⟨?_, e4⟩
    rw [← pl0] at e1
    rw [f_X8_drawDecade_b17, if_neg (nI_nlt (by omega) (by omega)), e1, e3]

/-! view -/
def sC (dp fd : Nat → Nat) (p k d : Nat) : Nat → Nat → Nat := sF (fun i => if k.testBit i = true then ps dp fd (16 * p + i) d else 0)
theorem cO_ok (dp fd : Nat → Nat) (p k d : Nat) : ∀ m i acc, (∀ j, i ≤ j → j < i + m → k.testBit j = true → hv dp fd (16 * p + j) d = true) → cO dp fd p k d m i acc = nI (acc + sC dp fd p k d m i) := by
  intro m
  induction m with
  | zero =>
    intro i acc h
    rfl
  | succ m ih =>
    intro i acc h
    rw [cO, sC, sF]
    by_cases hb : k.testBit i = true
    · rw [if_pos hb, if_pos (h i (by omega) (by omega) hb), ih (i + 1) _ (fun j h1 h2 h3 => h j (by omega) (by omega) h3), if_pos hb, Nat.add_assoc]
      rfl
    · rw [if_neg hb, ih (i + 1) _ (fun j h1 h2 h3 => h j (by omega) (by omega) h3), if_neg hb, Nat.zero_add]
      rfl
theorem cO_no (dp fd : Nat → Nat) (p k d : Nat) : ∀ m i acc, (∃ j, i ≤ j ∧ j < i + m ∧ k.testBit j = true ∧ hv dp fd (16 * p + j) d = false) → cO dp fd p k d m i acc = -1 := by
  intro m
  induction m with
  | zero =>
    rintro i acc ⟨j, h1, h2, -⟩
    omega
  | succ m ih =>
    rintro i acc ⟨j, h1, h2, h3, h4⟩
    rw [cO]
    by_cases hb : k.testBit i = true
    · rw [if_pos hb]
      by_cases hh : hv dp fd (16 * p + i) d = true
      · rw [if_pos hh]
        refine ih (i + 1) _ ⟨j, ?_, by omega, h3, h4⟩
        by_cases e : j = i
        · subst e
          rw [hh] at h4
          cases h4
        · omega
      · rw [if_neg hh]
    · rw [if_neg hb]
      refine ih (i + 1) _ ⟨j, ?_, by omega, h3, h4⟩
      by_cases e : j = i
      · subst e
        exact absurd h3 hb
      · omega
/-- all told cells have day d -/
def comm (dp fd : Nat → Nat) (p k d : Nat) : Prop := k ≠ 0 ∧ ∀ j, j < 16 → k.testBit j = true → hv dp fd (16 * p + j) d = true
theorem cst_ok {dp fd : Nat → Nat} {p k d : Nat} (h : comm dp fd p k d) : cst dp fd p k d = nI (sC dp fd p k d 16 0) := by
  rw [cst, if_neg h.1, cO_ok _ _ _ _ _ 16 0 0 (fun j _ h2 h3 => h.2 j (by omega) h3), Nat.zero_add]
theorem cst_no {dp fd : Nat → Nat} {p k d : Nat} (h : ¬ comm dp fd p k d) : cst dp fd p k d = -1 := by
  rw [cst]
  by_cases h0 : k = 0
  · rw [if_pos h0]
  · rw [if_neg h0]
    apply cO_no
    apply Classical.byContradiction
    intro h1
    refine h ⟨h0, fun j hj hb => ?_⟩
    cases h2 : hv dp fd (16 * p + j) d with
    | true => rfl
    | false => exact absurd ⟨j, by omega, by omega, hb, h2⟩ h1
theorem ps_le (dp fd : Nat → Nat) (c d : Nat) : ps dp fd c d ≤ dp c := by
  have := (pos_le (bhn dp fd c) d (dp c) 0).2
  rw [Nat.zero_add] at this
  exact this
theorem pos_spec (f : Nat → Nat) (d : Nat) : ∀ m i, anyN f d m i = true → pos f d m i < i + m ∧ f (pos f d m i) = d := by
  intro m
  induction m with
  | zero =>
    intro i h
    cases h
  | succ m ih =>
    intro i h
    rw [pos]
    by_cases h0 : f i = d
    · rw [if_pos h0]
      exact ⟨by omega, h0⟩
    · rw [if_neg h0]
      rw [anyN, beq_eq_false_iff_ne.mpr h0, Bool.false_or] at h
      have := ih (i + 1) h
      exact ⟨by omega, this.2⟩
theorem ps_spec {dp fd : Nat → Nat} {c d : Nat} (h : hv dp fd c d = true) : ps dp fd c d < dp c ∧ bhn dp fd c (ps dp fd c d) = d := by
  have := pos_spec _ _ _ _ h
  rw [Nat.zero_add] at this
  exact this
theorem bhn_desc {np hd : Nat} {W H : Nat → Nat} {G : GC} {row : Nat → Int32} {dp fd : Nat → Nat} {dy : Nat} (h : PzG np hd W H G row dp fd dy) {c i j : Nat} (hc : c < 80) (hij : i < j) (hj : j < dp c) : bhn dp fd c j < bhn dp fd c i := by
  rw [bhn, bhn, if_pos hj, if_pos (by omega)]
  have h1 := h.rise hc (j - i - 1) (dp c - 1 - j) (by omega)
  rw [show 30 * c + (dp c - 1 - j) = 30 * c + dp c - 1 - j by omega, show 30 * c + (dp c - 1 - j + (j - i - 1) + 1) = 30 * c + dp c - 1 - i by omega] at h1
  exact h1
theorem ps_mono {np hd : Nat} {W H : Nat → Nat} {G : GC} {row : Nat → Int32} {dp fd : Nat → Nat} {dy : Nat} (h : PzG np hd W H G row dp fd dy) {c d b : Nat} (hc : c < 80) (hdb : d < b) (h1 : hv dp fd c d = true) (h2 : hv dp fd c b = true) : ps dp fd c b ≤ ps dp fd c d := by
  obtain ⟨a1, a2⟩ := ps_spec h1
  obtain ⟨b1, b2⟩ := ps_spec h2
  by_cases h3 : ps dp fd c b ≤ ps dp fd c d
  · exact h3
  · have := bhn_desc h hc (i := ps dp fd c d) (j := ps dp fd c b) (by omega) b1
    omega
theorem sF_mono (f g : Nat → Nat) : ∀ m i, (∀ j, i ≤ j → j < i + m → f j ≤ g j) → sF f m i ≤ sF g m i := by
  intro m
  induction m with
  | zero =>
    intro i h
    exact Nat.le_refl _
  | succ m ih =>
    intro i h
    have h1 := h i (by omega) (by omega)
    have h2 := ih (i + 1) (fun j h1 h2 => h j (by omega) (by omega))
    rw [sF, sF]
    omega
theorem sC_mono {np hd : Nat} {W H : Nat → Nat} {G : GC} {row : Nat → Int32} {dp fd : Nat → Nat} {dy : Nat} (h : PzG np hd W H G row dp fd dy) {p k d b : Nat} (hp : p < 5) (hdb : d < b) (h1 : comm dp fd p k d) (h2 : comm dp fd p k b) : sC dp fd p k b 16 0 ≤ sC dp fd p k d 16 0 := by
  refine sF_mono _ _ 16 0 (fun j _ hj => ?_)
  show (if k.testBit j = true then _ else _) ≤ (if k.testBit j = true then _ else _)
  by_cases hb : k.testBit j = true
  · rw [if_pos hb, if_pos hb]
    exact ps_mono h (by omega) hdb (h1.2 j (by omega) hb) (h2.2 j (by omega) hb)
  · rw [if_neg hb, if_neg hb]
    exact Nat.le_refl _
theorem sC_le {np hd : Nat} {W H : Nat → Nat} {G : GC} {row : Nat → Int32} {dp fd : Nat → Nat} {dy : Nat} (h : PzG np hd W H G row dp fd dy) (h30 : hd ≤ 30) {p : Nat} (k d : Nat) (hp : p < 5) : sC dp fd p k d 16 0 ≤ 480 := by
  have := sF_le (fun i => if k.testBit i = true then ps dp fd (16 * p + i) d else 0) 30 16 0 (fun j _ hj => by
    show (if k.testBit j = true then _ else _) ≤ _
    by_cases hb : k.testBit j = true
    · rw [if_pos hb]
      have h1 := ps_le dp fd (16 * p + j) d
      have h2 := h.le (c := 16 * p + j) (by omega)
      omega
    · rw [if_neg hb]
      omega)
  exact this
/-- the latest day up to m that all told cells have; 0 -/
def bst (g : Nat → Int32) : Nat → Nat
  | 0 => 0
  | m + 1 => if g (m + 1) = -1 then bst g m else m + 1
theorem bst_le (g : Nat → Int32) : ∀ m, bst g m ≤ m := by
  intro m
  induction m with
  | zero => exact Nat.le_refl _
  | succ m ih =>
    rw [bst]
    by_cases h : g (m + 1) = -1
    · rw [if_pos h]
      omega
    · rw [if_neg h]
      exact Nat.le_refl _
theorem bst_eq (g : Nat → Int32) (b : Nat) : ∀ m, b ≤ m → (∀ e, b < e → e ≤ m → g e = -1) → (b ≠ 0 → g b ≠ -1) → bst g m = b := by
  intro m
  induction m with
  | zero =>
    intro h1 h2 h3
    have : b = 0 := by omega
    rw [this]
    rfl
  | succ m ih =>
    intro h1 h2 h3
    rw [bst]
    by_cases h : b = m + 1
    · subst h
      rw [if_neg (h3 (by omega))]
    · rw [if_pos (h2 (m + 1) (by omega) (Nat.le_refl _))]
      exact ih (by omega) (fun e h4 h5 => h2 e h4 (by omega)) h3
theorem bst_ne (g : Nat → Int32) : ∀ m, bst g m ≠ 0 → g (bst g m) ≠ -1 := by
  intro m
  induction m with
  | zero =>
    intro h
    exact absurd rfl h
  | succ m ih =>
    intro h
    rw [bst] at h ⊢
    by_cases h0 : g (m + 1) = -1
    · rw [if_pos h0] at h ⊢
      exact ih h
    · rw [if_neg h0]
      exact h0
theorem bst_max (g : Nat → Int32) : ∀ m e, bst g m < e → e ≤ m → g e = -1 := by
  intro m
  induction m with
  | zero =>
    intro e h1 h2
    omega
  | succ m ih =>
    intro e h1 h2
    rw [bst] at h1
    by_cases h0 : g (m + 1) = -1
    · rw [if_pos h0] at h1
      by_cases h3 : e = m + 1
      · rw [h3]
        exact h0
      · exact ih e h1 (by omega)
    · rw [if_neg h0] at h1
      omega
theorem r_view2 {np hd : Nat} {W H : Nat → Nat} {G : GC} {to row v : Nat → Int32} {pa : Nat → Nat → Int32} {dp fd : Nat → Nat} {dy : Nat} (h : PzG np hd W H G row dp fd dy) (h30 : hd ≤ 30) {p k b : Nat} {x3 : Int32} (hp : p < 5) (hk : k < 65536) (hb : comm dp fd p k b) (hb2 : b ≤ 200) : ∀ (m q : Nat), m < b → m < q → f_X11_view_b72 to row pa q 0 v (nI p) (nI k) x3 (nI b) (cst dp fd p k b) (nI m) = some (if x3 = 0 then nI b else cst dp fd p k b, 0, v) := by
  intro m
  induction m with
  | zero =>
    intro q h1 h2
    obtain ⟨q, rfl⟩ : ∃ r, q = r + 1 := ⟨q - 1, by omega⟩
    rw [f_X11_view_b72, if_pos (by decide)]
    by_cases h0 : x3 = 0
    · rw [if_pos h0, if_pos h0]
    · rw [if_neg h0, if_neg h0]
  | succ m ih =>
    intro q h1 h2
    obtain ⟨q, rfl⟩ : ∃ r, q = r + 1 := ⟨q - 1, by omega⟩
    rw [f_X11_view_b72, if_neg (nI_nle (by omega) (by omega)), r_cost h h30 hp hk (by omega), Option.bind_some, f_X11_view_b117, pk_m1]
    by_cases hc : comm dp fd p k (m + 1)
    · have h3 := sC_mono h hp (show m + 1 < b by omega) hc hb
      have h4 := sC_le h h30 k (m + 1) hp
      rw [if_neg (by rw [cst_ok hc]; exact neg1_ne (by omega)), if_neg (neg1_ne (by omega)), if_neg (by rw [cst_ok hc, cst_ok hb]; exact nI_nlt h3 (by omega))]
      exact ih q (by omega) (by omega)
    · rw [if_pos (cst_no hc)]
      exact ih q (by omega) (by omega)
theorem r_view1 {np hd : Nat} {W H : Nat → Nat} {G : GC} {to row v : Nat → Int32} {pa : Nat → Nat → Int32} {dp fd : Nat → Nat} {dy : Nat} (h : PzG np hd W H G row dp fd dy) (h30 : hd ≤ 30) {p k : Nat} {x3 : Int32} (hp : p < 5) (hk : k < 65536) : ∀ (m q : Nat), m ≤ 200 → m < q → f_X11_view_b72 to row pa q 0 v (nI p) (nI k) x3 (-1) (-1) (nI m) = some (if bst (cst dp fd p k) m = 0 then -1 else if x3 = 0 then nI (bst (cst dp fd p k) m) else cst dp fd p k (bst (cst dp fd p k) m), 0, v) := by
  intro m
  induction m with
  | zero =>
    intro q h1 h2
    obtain ⟨q, rfl⟩ : ∃ r, q = r + 1 := ⟨q - 1, by omega⟩
    rw [f_X11_view_b72, if_pos (by decide), bst, if_pos rfl]
    by_cases h0 : x3 = 0
    · rw [if_pos h0]
    · rw [if_neg h0]
  | succ m ih =>
    intro q h1 h2
    obtain ⟨q, rfl⟩ : ∃ r, q = r + 1 := ⟨q - 1, by omega⟩
    rw [f_X11_view_b72, if_neg (nI_nle (by omega) (by omega)), r_cost h h30 hp hk (by omega), Option.bind_some, f_X11_view_b109, f_X11_view_b117, f_X11_view_b117, pk_m1, bst]
    by_cases hc : comm dp fd p k (m + 1)
    · have h4 := sC_le h h30 k (m + 1) hp
      have h5 : ¬ cst dp fd p k (m + 1) = -1 := by rw [cst_ok hc]; exact neg1_ne (by omega)
      rw [if_neg h5, if_pos rfl, if_neg h5, if_neg (show ¬ (m + 1 = 0) by omega)]
      exact r_view2 h h30 hp hk hc h1 m q (by omega) (by omega)
    · rw [if_pos (cst_no hc), if_pos (cst_no hc)]
      exact ih q (by omega) (by omega)
theorem p_view2 {np hd : Nat} {W H : Nat → Nat} {G : GC} {row : Nat → Int32} {dp fd : Nat → Nat} {dy : Nat} (h : PzG np hd W H G row dp fd dy) (h30 : hd ≤ 30) {p k c : Nat} (hp : p < 5) (hk : k < 65536) (hc : c < 80) (hcc : ∀ d, comm dp fd p k d → hv dp fd c d = true) : ∀ (m j q : Nat), j + m = dp c → m < q → (∀ i, i < j → cst dp fd p k (bhn dp fd c i) = -1) → f_X1_bestDay_b37 G.2.2.2.2.2.1 G.2.2.2.2.2.2.1 q (nI p) (nI k) (nI c) (nI j) = some (if bst (cst dp fd p k) 200 = 0 then -1 else nI (bst (cst dp fd p k) 200)) := by
  have hle := h.le hc
  intro m
  induction m with
  | zero =>
    intro j q hj hq hn
    obtain ⟨q, rfl⟩ : ∃ r, q = r + 1 := ⟨q - 1, by omega⟩
    rw [f_X1_bestDay_b37, pu_ck hc (by omega), nI_clamp (by omega), h.dep hc, if_pos (nI_le (by omega) (by omega)), if_pos]
    apply bst_eq _ _ 200 (by omega)
    · intro e h1 h2
      apply Classical.byContradiction
      intro h3
      have h4 : comm dp fd p k e := Classical.byContradiction (fun h5 => h3 (cst_no h5))
      obtain ⟨h6, h7⟩ := ps_spec (hcc e h4)
      exact h3 (by rw [← h7]; exact hn _ (by omega))
    · intro h1
      exact absurd rfl h1
  | succ m ih =>
    intro j q hj hq hn
    obtain ⟨q, rfl⟩ : ∃ r, q = r + 1 := ⟨q - 1, by omega⟩
    have hb := bhn_le h hc j
    rw [f_X1_bestDay_b37, pu_ck hc (by omega), nI_clamp (by omega), h.dep hc, if_neg (nI_ge (by omega) (by omega)), p_behindG h h30 hc (by omega), Option.bind_some, p_cost h h30 hp hk hb, Option.bind_some]
    by_cases h1 : cst dp fd p k (bhn dp fd c j) = -1
    · rw [if_pos h1, nI_1]
      refine ih (j + 1) q (by omega) (by omega) (fun i hi => ?_)
      by_cases e : i = j
      · rw [e]
        exact h1
      · exact hn i (by omega)
    · rw [if_neg h1]
      have h2 := (bhn_pos h hc (j := j) (by omega)).1
      have h3 : bst (cst dp fd p k) 200 = bhn dp fd c j := by
        apply bst_eq _ _ 200 hb
        · intro e h4 h5
          apply Classical.byContradiction
          intro h6
          have h7 : comm dp fd p k e := Classical.byContradiction (fun h8 => h6 (cst_no h8))
          obtain ⟨h8, h9⟩ := ps_spec (hcc e h7)
          by_cases h10 : ps dp fd c e < j
          · exact h6 (by rw [← h9]; exact hn _ h10)
          · by_cases h11 : ps dp fd c e = j
            · rw [h11] at h9
              omega
            · have := bhn_desc h hc (i := j) (j := ps dp fd c e) (by omega) h8
              omega
        · intro _
          exact h1
      rw [h3, if_neg (by omega)]
theorem p_view1 {np hd : Nat} {W H : Nat → Nat} {G : GC} {row : Nat → Int32} {dp fd : Nat → Nat} {dy : Nat} (h : PzG np hd W H G row dp fd dy) (h30 : hd ≤ 30) {p k : Nat} (hp : p < 5) (hk : k < 65536) : ∀ (m i q : Nat), i + m = 15 → m < q → (∀ j, j < i → k.testBit j = false) → f_X1_bestDay_b3 G.2.2.2.2.2.1 G.2.2.2.2.2.2.1 q (nI p) (nI k) (nI i) = some (if bst (cst dp fd p k) 200 = 0 then -1 else nI (bst (cst dp fd p k) 200)) := by
  have hfin : ∀ i, i < 16 → (k ≠ 0 → k.testBit i = true) → f_X1_bestDay_b25 G.2.2.2.2.2.1 G.2.2.2.2.2.2.1 (nI p) (nI k) (nI i) = some (if bst (cst dp fd p k) 200 = 0 then -1 else nI (bst (cst dp fd p k) 200)) := by
    intro i hi hb
    have hl := h.le (c := 16 * p + i) (by omega)
    rw [f_X1_bestDay_b25, pl16, pk_mul, nI_add, pl0]
    exact p_view2 h h30 hp hk (by omega) (fun d hd2 => hd2.2 i hi (hb hd2.1)) (dp (16 * p + i)) 0 4000 (by omega) (by omega) (fun i hi => absurd hi (by omega))
  intro m
  induction m with
  | zero =>
    intro i q hi hq hn
    obtain ⟨q, rfl⟩ : ∃ r, q = r + 1 := ⟨q - 1, by omega⟩
    rw [f_X1_bestDay_b3, pl15, if_pos (nI_le (by omega) (by omega))]
    refine hfin i (by omega) (fun h0 => ?_)
    apply Classical.byContradiction
    intro h1
    apply h0
    apply Nat.eq_of_testBit_eq
    intro j
    rw [Nat.zero_testBit]
    by_cases h2 : j < i
    · exact hn j h2
    · by_cases h3 : j = i
      · rw [h3]
        exact Bool.eq_false_iff.mpr h1
      · exact Nat.testBit_lt_two_pow (Nat.lt_of_lt_of_le hk (Nat.pow_le_pow_right (n := 2) (i := 16) (by omega) (by omega)))
  | succ m ih =>
    intro i q hi hq hn
    obtain ⟨q, rfl⟩ : ∃ r, q = r + 1 := ⟨q - 1, by omega⟩
    rw [f_X1_bestDay_b3, pl15, if_neg (nI_ge (by omega) (by omega))]
    by_cases hb : k.testBit i = false
    · rw [if_pos (by rw [bit_if0 hk (by omega)]; exact hb), nI_1]
      refine ih (i + 1) q (by omega) (by omega) (fun j hj => ?_)
      by_cases e : j = i
      · rw [e]
        exact hb
      · exact hn j (by omega)
    · rw [if_neg (by rw [bit_if0 hk (by omega)]; exact hb)]
      exact hfin i (by omega) (fun _ => by simpa using hb)
theorem a_view {C : CS} {R : RS} (hc : PzC C R) (x1 x2 x3 : Int32) :
    (∃ r, fC_view C x1 x2 x3 = some (0, r, C.v15) ∧ fR_view R x1 x2 x3 = some (r, 0, R.v10)) ∨
    (fC_view C x1 x2 x3 = some (2, 0, upd C.v15 1 (C.v15 1 + 1)) ∧ fR_view R x1 x2 x3 = some (0, 1, upd R.v10 1 (R.v10 1 + 1))) ∨
    (fC_view C x1 x2 x3 = some (1, 0, upd C.v15 2 (C.v15 2 + 1)) ∧ fR_view R x1 x2 x3 = some (0, 2, upd R.v10 2 (R.v10 2 + 1))) := by
  obtain ⟨np, no, hd, W, H, hS, ⟨dp, fd, dy, hG⟩, -⟩ := hc
  have h30 := hS.2.2.1.2
  rcases pz_pane hS C.v15 x1 with ⟨h1, h2⟩ | ⟨p, hp, hp5, rfl, h1, h2⟩
  · exact .inr (.inl ⟨by simp -implicitDefEqProofs only [Option.bind_some, pz10, if_true, if_false, eq_self, ↓reduceIte, r_bad0, r_A1, r_A2, r_B1, r_B2, r_B3, r_C1, fC_view, f_X10_view, h1]; rfl, by simp -implicitDefEqProofs only [Option.bind_some, pz10, if_true, if_false, eq_self, ↓reduceIte, r_bad0, r_A1, r_A2, r_B1, r_B2, r_B3, r_C1, fR_view, f_X11_view, h2, f_X11_view_b19]⟩)
  · have hN := hS.2.2.2.2.2.2.2.2.2.1 p hp
    rcases pz_cells hN hp5 C.v15 x2 with ⟨h3, h4⟩ | ⟨k, hk, rfl, hk2, h3, h4⟩
    · exact .inr (.inr ⟨by simp -implicitDefEqProofs only [Option.bind_some, pz10, if_true, if_false, eq_self, ↓reduceIte, r_bad0, r_A1, r_A2, r_B1, r_B2, r_B3, r_C1, fC_view, f_X10_view, h1, h3]; rfl, by simp -implicitDefEqProofs only [Option.bind_some, pz10, if_true, if_false, eq_self, ↓reduceIte, r_bad0, r_A1, r_A2, r_B1, r_B2, r_B3, r_C1, fR_view, f_X11_view, h2, f_X11_view_b19, f_X11_view_b46, f_X11_view_b51, h4]⟩)
    · rcases pz_what C.v15 x3 1 (by omega) with ⟨h5, h6⟩ | ⟨a, ha, rfl, h5, h6⟩
      · rw [← pl1] at h5 h6
        exact .inr (.inr ⟨by simp -implicitDefEqProofs only [Option.bind_some, pz10, if_true, if_false, eq_self, ↓reduceIte, r_bad0, r_A1, r_A2, r_B1, r_B2, r_B3, r_C1, fC_view, f_X10_view, h1, h3, h5]; rfl, by simp -implicitDefEqProofs only [Option.bind_some, pz10, if_true, if_false, eq_self, ↓reduceIte, r_bad0, r_A1, r_A2, r_B1, r_B2, r_B3, r_C1, fR_view, f_X11_view, h2, f_X11_view_b19, f_X11_view_b46, f_X11_view_b51, h4, h6]⟩)
      · rw [← pl1] at h5 h6
        have hB := p_view1 hG h30 hp5 hk 15 0 4000 (by omega) (by omega) (fun j hj => absurd hj (by omega))
        have hR := r_view1 (to := R.v12) (pa := R.g14) (v := R.v10) (x3 := nI a) hG h30 hp5 hk 200 4000 (by omega) (by omega)
        have hb := bst_le (cst dp fd p k) 200
        rw [← pl0] at hB
        rw [← pl200] at hR
        refine .inl ⟨_, ?_, by simp -implicitDefEqProofs only [Option.bind_some, pz10, if_true, if_false, eq_self, ↓reduceIte, r_bad0, r_A1, r_A2, r_B1, r_B2, r_B3, r_C1, fR_view, f_X11_view, h2, f_X11_view_b19, f_X11_view_b51, h4, h6]; exact hR⟩
        simp -implicitDefEqProofs only [Option.bind_some, pz10, if_true, if_false, eq_self, ↓reduceIte, r_bad0, r_A1, r_A2, r_B1, r_B2, r_B3, r_C1, fC_view, f_X10_view, h1, h3, h5, f_X1_bestDay, hB]
        by_cases h0 : bst (cst dp fd p k) 200 = 0
        · rw [if_pos h0, if_pos h0]
          by_cases h7 : nI a = 0
          · rw [if_pos h7]
          · rw [if_neg h7, if_pos rfl]
        · rw [if_neg h0, if_neg h0]
          by_cases h7 : nI a = 0
          · rw [if_pos h7, if_pos h7]
          · rw [if_neg h7, if_neg h7, if_neg (neg1_ne (by omega)), p_cost hG h30 hp5 hk hb]
            rfl
theorem q_view {L i : Nat} {C : CS} {R : RS} {cells slots : Nat} (h : PzInv L i C R cells slots) (hi : i + 7 ≤ L) (x1 x2 x3 : Int32) : pS_view (PzInv L (i + 7)) C R x1 x2 x3 cells slots := by
  rcases a_view h.2.1 x1 x2 x3 with ⟨r, h1, h2⟩ | ⟨h1, h2⟩ | ⟨h1, h2⟩
  · exact ⟨(0, r, C.v15), (r, 0, R.v10), h1, h2, .inl rfl, rfl, fun _ => rfl, pz_fit h (by omega) (by omega), h.keep hi (by omega) (by omega) h.1⟩
  · exact ⟨(2, 0, upd C.v15 1 (C.v15 1 + 1)), (0, 1, upd R.v10 1 (R.v10 1 + 1)), h1, h2, .inr (.inl rfl), rfl, fun _ => rfl, pz_fit h (by omega) (by omega), h.keep hi (by omega) (by omega) h.1.up⟩
  · exact ⟨(1, 0, upd C.v15 2 (C.v15 2 + 1)), (0, 2, upd R.v10 2 (R.v10 2 + 1)), h1, h2, .inr (.inr rfl), rfl, fun _ => rfl, pz_fit h (by omega) (by omega), h.keep hi (by omega) (by omega) h.1.up⟩

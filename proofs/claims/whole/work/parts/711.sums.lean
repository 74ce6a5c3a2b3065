/-! sums of films -/
def sF (f : Nat → Nat) : Nat → Nat → Nat
  | 0, _ => 0
  | m + 1, i => f i + sF f m (i + 1)
theorem sF_split (f : Nat → Nat) : ∀ (a b i : Nat), sF f (a + b) i = sF f a i + sF f b (i + a) := by
  intro a
  induction a with
  | zero =>
    intro b i
    simp [sF]
  | succ a ih =>
    intro b i
    rw [show a + 1 + b = (a + b) + 1 by omega, sF, sF, ih, show i + 1 + a = i + (a + 1) by omega]
    omega
theorem sF_zero (f : Nat → Nat) : ∀ (m i : Nat), (∀ j, i ≤ j → j < i + m → f j = 0) → sF f m i = 0 := by
  intro m
  induction m with
  | zero =>
    intro i h
    rfl
  | succ m ih =>
    intro i h
    rw [sF, h i (by omega) (by omega), ih (i + 1) (fun j h1 h2 => h j (by omega) (by omega))]
theorem sF_le (f : Nat → Nat) (b : Nat) : ∀ (m i : Nat), (∀ j, i ≤ j → j < i + m → f j ≤ b) → sF f m i ≤ m * b := by
  intro m
  induction m with
  | zero =>
    intro i h
    simp [sF]
  | succ m ih =>
    intro i h
    have h1 := h i (by omega) (by omega)
    have h2 := ih (i + 1) (fun j h1 h2 => h j (by omega) (by omega))
    rw [sF, Nat.succ_mul]
    omega
/-- films on pane p -/
def aP (dp : Nat → Nat) (p : Nat) : Nat := sF (fun i => dp (16 * p + i)) 16 0
theorem p_filmsOn_b {de : Nat → Int32} {dp : Nat → Nat} {p : Nat} (hp : p < 5) (hd : ∀ c, c < 80 → de c = nI (dp c)) : ∀ (m i q acc : Nat), i + m = 16 → m < q → f_X2_filmsOn_b4 de q (nI p) (nI acc) (nI i) = some (nI (acc + sF (fun i => dp (16 * p + i)) m i)) := by
  intro m
  induction m with
  | zero =>
    intro i q acc hi hq
    obtain ⟨q, rfl⟩ : ∃ r, q = r + 1 := ⟨q - 1, by omega⟩
    rw [f_X2_filmsOn_b4]
    simp -implicitDefEqProofs (disch := omega) only [pl0, pl1, pl2, pl3, pl4, pl5, pl6, pl7, pl8, pl9, pl10, pl11, pl12, pl13, pl14, pl15, pl16, pl17, pl18, pl19, pl20, pl21, pl22, pl23, pl24, pl25, pl26, pl27, pl28, pl29, pl30, pl31, pl32, pl48, pl57, pl60, pl61, pl80, pl97, pl99, pl100, pl122, pl150, pl160, pl199, pl200, pl201, pl255, pl305, pl600, pl999, pl1000, pl2400, pl2480, pl2681, pl2682, pl2683, pl2684, pl2685, pl9999, pl100000, pl1000000, pk_mul, nI_add, pk_sub, nI_clamp, nI_eq, nI_leI, nI_ltI, pk_div, pn_rem, pu_ck, Option.bind_some, if_pos, if_neg, and_true, true_and, if_true, if_false, sF, Nat.add_zero]
  | succ m ih =>
    intro i q acc hi hq
    obtain ⟨q, rfl⟩ : ∃ r, q = r + 1 := ⟨q - 1, by omega⟩
    rw [f_X2_filmsOn_b4]
    simp -implicitDefEqProofs (disch := omega) only [pl0, pl1, pl2, pl3, pl4, pl5, pl6, pl7, pl8, pl9, pl10, pl11, pl12, pl13, pl14, pl15, pl16, pl17, pl18, pl19, pl20, pl21, pl22, pl23, pl24, pl25, pl26, pl27, pl28, pl29, pl30, pl31, pl32, pl48, pl57, pl60, pl61, pl80, pl97, pl99, pl100, pl122, pl150, pl160, pl199, pl200, pl201, pl255, pl305, pl600, pl999, pl1000, pl2400, pl2480, pl2681, pl2682, pl2683, pl2684, pl2685, pl9999, pl100000, pl1000000, pk_mul, nI_add, pk_sub, nI_clamp, nI_eq, nI_leI, nI_ltI, pk_div, pn_rem, pu_ck, Option.bind_some, if_pos, if_neg, and_true, true_and, if_true, if_false, hd (16 * p + i) (by omega), ih (i + 1) q _ (by omega) (by omega), sF, Nat.add_assoc]
theorem p_filmsOn {de : Nat → Int32} {dp : Nat → Nat} {p : Nat} (hp : p < 5) (hd : ∀ c, c < 80 → de c = nI (dp c)) : f_X2_filmsOn de (nI p) = some (nI (aP dp p)) := by
  have := p_filmsOn_b hp hd 16 0 4000 0 (by omega) (by omega)
  rw [Nat.zero_add] at this
  exact this
theorem r_onPane_b {row : Nat → Int32} {dp : Nat → Nat} {p : Nat} (hp : p < 5) (hd : ∀ c, c < 80 → row (2400 + c) = nI (dp c)) : ∀ (m i q acc : Nat), i + m = 16 → m < q → f_X11_onPane_b4 2685 row q (nI p) (nI acc) (nI i) = some (nI (acc + sF (fun i => dp (16 * p + i)) m i)) := by
  intro m
  induction m with
  | zero =>
    intro i q acc hi hq
    obtain ⟨q, rfl⟩ : ∃ r, q = r + 1 := ⟨q - 1, by omega⟩
    rw [f_X11_onPane_b4]
    simp -implicitDefEqProofs (disch := omega) only [pl0, pl1, pl2, pl3, pl4, pl5, pl6, pl7, pl8, pl9, pl10, pl11, pl12, pl13, pl14, pl15, pl16, pl17, pl18, pl19, pl20, pl21, pl22, pl23, pl24, pl25, pl26, pl27, pl28, pl29, pl30, pl31, pl32, pl48, pl57, pl60, pl61, pl80, pl97, pl99, pl100, pl122, pl150, pl160, pl199, pl200, pl201, pl255, pl305, pl600, pl999, pl1000, pl2400, pl2480, pl2681, pl2682, pl2683, pl2684, pl2685, pl9999, pl100000, pl1000000, pk_mul, nI_add, pk_sub, nI_clamp, nI_eq, nI_leI, nI_ltI, pk_div, pn_rem, pu_ck, Option.bind_some, if_pos, if_neg, and_true, true_and, if_true, if_false, sF, Nat.add_zero]
  | succ m ih =>
    intro i q acc hi hq
    obtain ⟨q, rfl⟩ : ∃ r, q = r + 1 := ⟨q - 1, by omega⟩
    have e := hd (16 * p + i) (by omega)
    rw [f_X11_onPane_b4]
    simp -implicitDefEqProofs (disch := omega) only [pl0, pl1, pl2, pl3, pl4, pl5, pl6, pl7, pl8, pl9, pl10, pl11, pl12, pl13, pl14, pl15, pl16, pl17, pl18, pl19, pl20, pl21, pl22, pl23, pl24, pl25, pl26, pl27, pl28, pl29, pl30, pl31, pl32, pl48, pl57, pl60, pl61, pl80, pl97, pl99, pl100, pl122, pl150, pl160, pl199, pl200, pl201, pl255, pl305, pl600, pl999, pl1000, pl2400, pl2480, pl2681, pl2682, pl2683, pl2684, pl2685, pl9999, pl100000, pl1000000, pk_mul, nI_add, pk_sub, nI_clamp, nI_eq, nI_leI, nI_ltI, pk_div, pn_rem, pu_ck, Option.bind_some, if_pos, if_neg, and_true, true_and, if_true, if_false, e, ih (i + 1) q _ (by omega) (by omega), sF, Nat.add_assoc]
theorem r_onPane {row : Nat → Int32} {dp : Nat → Nat} {p : Nat} (hp : p < 5) (hd : ∀ c, c < 80 → row (2400 + c) = nI (dp c)) : f_X11_onPane 2685 row (nI p) = some (nI (aP dp p)) := by
  have := r_onPane_b hp hd 16 0 4000 0 (by omega) (by omega)
  rw [Nat.zero_add] at this
  exact this
theorem p_onAll_b {de : Nat → Int32} {dp : Nat → Nat} (hd : ∀ c, c < 80 → de c = nI (dp c)) : ∀ (m i q acc : Nat), i + m = 5 → m < q → f_X2_filmsOnAll_b4 de q (nI acc) (nI i) = some (nI (acc + sF (aP dp) m i)) := by
  intro m
  induction m with
  | zero =>
    intro i q acc hi hq
    obtain ⟨q, rfl⟩ : ∃ r, q = r + 1 := ⟨q - 1, by omega⟩
    rw [f_X2_filmsOnAll_b4]
    simp -implicitDefEqProofs (disch := omega) only [pl0, pl1, pl2, pl3, pl4, pl5, pl6, pl7, pl8, pl9, pl10, pl11, pl12, pl13, pl14, pl15, pl16, pl17, pl18, pl19, pl20, pl21, pl22, pl23, pl24, pl25, pl26, pl27, pl28, pl29, pl30, pl31, pl32, pl48, pl57, pl60, pl61, pl80, pl97, pl99, pl100, pl122, pl150, pl160, pl199, pl200, pl201, pl255, pl305, pl600, pl999, pl1000, pl2400, pl2480, pl2681, pl2682, pl2683, pl2684, pl2685, pl9999, pl100000, pl1000000, pk_mul, nI_add, pk_sub, nI_clamp, nI_eq, nI_leI, nI_ltI, pk_div, pn_rem, pu_ck, Option.bind_some, if_pos, if_neg, and_true, true_and, if_true, if_false, sF, Nat.add_zero]
  | succ m ih =>
    intro i q acc hi hq
    obtain ⟨q, rfl⟩ : ∃ r, q = r + 1 := ⟨q - 1, by omega⟩
    rw [f_X2_filmsOnAll_b4]
    simp -implicitDefEqProofs (disch := omega) only [pl0, pl1, pl2, pl3, pl4, pl5, pl6, pl7, pl8, pl9, pl10, pl11, pl12, pl13, pl14, pl15, pl16, pl17, pl18, pl19, pl20, pl21, pl22, pl23, pl24, pl25, pl26, pl27, pl28, pl29, pl30, pl31, pl32, pl48, pl57, pl60, pl61, pl80, pl97, pl99, pl100, pl122, pl150, pl160, pl199, pl200, pl201, pl255, pl305, pl600, pl999, pl1000, pl2400, pl2480, pl2681, pl2682, pl2683, pl2684, pl2685, pl9999, pl100000, pl1000000, pk_mul, nI_add, pk_sub, nI_clamp, nI_eq, nI_leI, nI_ltI, pk_div, pn_rem, pu_ck, Option.bind_some, if_pos, if_neg, and_true, true_and, if_true, if_false, p_filmsOn (p := i) (by omega) hd, ih (i + 1) q _ (by omega) (by omega), sF, Nat.add_assoc]
theorem r_onAll_b {to row : Nat → Int32} {dp : Nat → Nat} {np : Nat} (hn : np ≤ 5) (ht : to 0 = nI np) (hd : ∀ c, c < 80 → row (2400 + c) = nI (dp c)) : ∀ (m i q acc : Nat), i + m = np → m < q → f_X11_onAll_b4 to 2685 row q (nI acc) (nI i) = some (nI (acc + sF (aP dp) m i)) := by
  intro m
  induction m with
  | zero =>
    intro i q acc hi hq
    obtain ⟨q, rfl⟩ : ∃ r, q = r + 1 := ⟨q - 1, by omega⟩
    rw [f_X11_onAll_b4]
    simp -implicitDefEqProofs (disch := omega) only [pl0, pl1, pl2, pl3, pl4, pl5, pl6, pl7, pl8, pl9, pl10, pl11, pl12, pl13, pl14, pl15, pl16, pl17, pl18, pl19, pl20, pl21, pl22, pl23, pl24, pl25, pl26, pl27, pl28, pl29, pl30, pl31, pl32, pl48, pl57, pl60, pl61, pl80, pl97, pl99, pl100, pl122, pl150, pl160, pl199, pl200, pl201, pl255, pl305, pl600, pl999, pl1000, pl2400, pl2480, pl2681, pl2682, pl2683, pl2684, pl2685, pl9999, pl100000, pl1000000, pk_mul, nI_add, pk_sub, nI_clamp, nI_eq, nI_leI, nI_ltI, pk_div, pn_rem, pu_ck, Option.bind_some, if_pos, if_neg, and_true, true_and, if_true, if_false, ht, sF, Nat.add_zero]
  | succ m ih =>
    intro i q acc hi hq
    obtain ⟨q, rfl⟩ : ∃ r, q = r + 1 := ⟨q - 1, by omega⟩
    rw [f_X11_onAll_b4]
    simp -implicitDefEqProofs (disch := omega) only [pl0, pl1, pl2, pl3, pl4, pl5, pl6, pl7, pl8, pl9, pl10, pl11, pl12, pl13, pl14, pl15, pl16, pl17, pl18, pl19, pl20, pl21, pl22, pl23, pl24, pl25, pl26, pl27, pl28, pl29, pl30, pl31, pl32, pl48, pl57, pl60, pl61, pl80, pl97, pl99, pl100, pl122, pl150, pl160, pl199, pl200, pl201, pl255, pl305, pl600, pl999, pl1000, pl2400, pl2480, pl2681, pl2682, pl2683, pl2684, pl2685, pl9999, pl100000, pl1000000, pk_mul, nI_add, pk_sub, nI_clamp, nI_eq, nI_leI, nI_ltI, pk_div, pn_rem, pu_ck, Option.bind_some, if_pos, if_neg, and_true, true_and, if_true, if_false, ht, r_onPane (p := i) (by omega) hd, ih (i + 1) q _ (by omega) (by omega), sF, Nat.add_assoc]
theorem PzG.out {np hd : Nat} {W H : Nat → Nat} {G : GC} {row : Nat → Int32} {dp fd : Nat → Nat} {dy : Nat} (h : PzG np hd W H G row dp fd dy) {c : Nat} (hc : c < 80) (hi : ¬ pzIn np W H c) : dp c = 0 := by
  have h1 := (h.1 c hc).2.2.2
  by_cases h0 : dp c = 0
  · exact h0
  · exact absurd (h1 (by omega)) hi
theorem aP_out {np hd : Nat} {W H : Nat → Nat} {G : GC} {row : Nat → Int32} {dp fd : Nat → Nat} {dy : Nat} (h : PzG np hd W H G row dp fd dy) {p : Nat} (hp : np ≤ p) (h5 : p < 5) : aP dp p = 0 := by
  refine sF_zero _ 16 0 (fun j h1 h2 => ?_)
  refine h.out (by omega) (fun h3 => ?_)
  have := h3.1
  omega
theorem aP_le {np hd : Nat} {W H : Nat → Nat} {G : GC} {row : Nat → Int32} {dp fd : Nat → Nat} {dy : Nat} (h : PzG np hd W H G row dp fd dy) (h30 : hd ≤ 30) {p : Nat} (h5 : p < 5) : aP dp p ≤ 480 := by
  have := sF_le (fun i => dp (16 * p + i)) 30 16 0 (fun j h1 h2 => by
    have := h.le (c := 16 * p + j) (by omega)
    show dp (16 * p + j) ≤ 30
    omega)
  exact this
theorem p_onAll {np hd : Nat} {W H : Nat → Nat} {G : GC} {row : Nat → Int32} {dp fd : Nat → Nat} {dy : Nat} (h : PzG np hd W H G row dp fd dy) (hn : np ≤ 5) : f_X2_filmsOnAll G.2.2.2.2.2.2.1 = some (nI (sF (aP dp) np 0)) := by
  have h1 := p_onAll_b (fun c hc => h.dep hc) 5 0 4000 0 (by omega) (by omega)
  rw [Nat.zero_add, show 5 = np + (5 - np) by omega, sF_split, sF_zero (aP dp) (5 - np) (0 + np) (fun j h1 h2 => aP_out h (by omega) (by omega)), Nat.add_zero] at h1
  exact h1
theorem r_onAll {np hd : Nat} {W H : Nat → Nat} {G : GC} {to row : Nat → Int32} {dp fd : Nat → Nat} {dy : Nat} (h : PzG np hd W H G row dp fd dy) (hn : np ≤ 5) (ht : to 0 = nI np) : f_X11_onAll to 2685 row = some (nI (sF (aP dp) np 0)) := by
  have h1 := r_onAll_b hn ht (fun c hc => h.many hc) np 0 4000 0 (by omega) (by omega)
  rw [Nat.zero_add] at h1
  exact h1
theorem r_onRag_b {row : Nat → Int32} : ∀ (m i q : Nat), i + m = 201 → m < q → f_X11_onRag_b4 2685 row q (pzRag row i) (nI i) = some (pzRag row 201) := by
  intro m
  induction m with
  | zero =>
    intro i q hi hq
    obtain ⟨q, rfl⟩ : ∃ r, q = r + 1 := ⟨q - 1, by omega⟩
    rw [f_X11_onRag_b4, pl200, if_pos (nI_lt (by omega) (by omega)), show i = 201 by omega]
  | succ m ih =>
    intro i q hi hq
    obtain ⟨q, rfl⟩ : ∃ r, q = r + 1 := ⟨q - 1, by omega⟩
    rw [f_X11_onRag_b4, pl200, if_neg (nI_nlt (by omega) (by omega)), pl2480, nI_add, pu_ck (by omega) (by omega), nI_clamp (by omega), nI_1]
    exact ih (i + 1) q (by omega) (by omega)
theorem r_onRag {row : Nat → Int32} : f_X11_onRag 2685 row = some (pzRag row 201) := r_onRag_b 201 0 4000 (by omega) (by omega)

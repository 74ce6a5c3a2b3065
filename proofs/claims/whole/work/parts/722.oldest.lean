/-! oldest -/
theorem sh_hv {dp fd : Nat → Nat} {p d : Nat} (hd : 1 ≤ d) : ∀ n, shU dp fd p d n = true → hvU dp fd p d n = true := by
  intro n
  induction n with
  | zero =>
    intro h
    cases h
  | succ n ih =>
    intro h
    rw [shU, Bool.or_eq_true] at h
    rw [hvU, Bool.or_eq_true]
    rcases h with h | h
    · exact .inl (ih h)
    · right
      rw [beq_iff_eq] at h
      rw [hv, anyN_iff]
      refine ⟨0, by omega, ?_, h⟩
      by_cases h0 : 0 < dp (16 * p + n)
      · omega
      · rw [bhn, if_neg h0] at h
        omega
def firstU (f : Nat → Bool) : Nat → Int32
  | 0 => -1
  | i + 1 => if firstU f i = -1 then (if f (i + 1) = true then nI (i + 1) else -1) else firstU f i
def lastU (f : Nat → Bool) : Nat → Int32
  | 0 => -1
  | i + 1 => if f (i + 1) = true then nI (i + 1) else lastU f i
theorem firstU_no (f : Nat → Bool) : ∀ m, (∀ d, 1 ≤ d → d ≤ m → f d = false) → firstU f m = -1 := by
  intro m
  induction m with
  | zero =>
    intro h
    rfl
  | succ m ih =>
    intro h
    rw [firstU, ih (fun d h1 h2 => h d h1 (by omega)), if_pos rfl, h (m + 1) (by omega) (by omega), if_neg (by decide)]
theorem firstU_eq (f : Nat → Bool) (e : Nat) (he : 1 ≤ e) (he2 : e < 2 ^ 31) (h : ∀ d, 1 ≤ d → d < e → f d = false) (h1 : f e = true) : ∀ m, e ≤ m → firstU f m = nI e := by
  intro m
  induction m with
  | zero =>
    intro h2
    omega
  | succ m ih =>
    intro h2
    rw [firstU]
    by_cases h3 : e = m + 1
    · subst h3
      rw [firstU_no f m (fun d h4 h5 => h d h4 (by omega)), if_pos rfl, if_pos h1]
    · rw [ih (by omega), if_neg (neg1_ne he2)]
theorem mk0 {s a : Bool} (h : s = true → a = true) : (nI (mkv s a) = 0) = (a = false) := by
  cases s <;> cases a
  · simp [mkv]
    rfl
  · simp [mkv]
    decide
  · exact absurd (h rfl) (by decide)
  · simp [mkv]
    decide
theorem mk1 {s a : Bool} (h : s = true → a = true) : (nI (mkv s a) = 1) = ((a && !s) = true) := by
  cases s <;> cases a
  · simp [mkv]
    decide
  · simp [mkv]
    rfl
  · exact absurd (h rfl) (by decide)
  · simp [mkv]
    decide
theorem p_earliest_b {de fi v : Nat → Int32} {s a : Nat → Bool} (hsa : ∀ d, 1 ≤ d → s d = true → a d = true) (hv1 : ∀ d, 1 ≤ d → d ≤ 200 → v d = nI (mkv (s d) (a d))) : ∀ (m i q : Nat), i + m = 201 → 1 ≤ i → m < q → (∀ d, 1 ≤ d → d < i → a d = false) → f_X1_earliest_b8 fi de q v (nI i) = some (firstU a 200, v) := by
  intro m
  induction m with
  | zero =>
    intro i q hi h1 hq hn
    obtain ⟨q, rfl⟩ : ∃ r, q = r + 1 := ⟨q - 1, by omega⟩
    rw [f_X1_earliest_b8, pl200, if_pos (nI_lt (by omega) (by omega)), firstU_no a 200 (fun d h2 h3 => hn d h2 (by omega))]
  | succ m ih =>
    intro i q hi h1 hq hn
    obtain ⟨q, rfl⟩ : ∃ r, q = r + 1 := ⟨q - 1, by omega⟩
    rw [f_X1_earliest_b8, pl200, if_neg (nI_nlt (by omega) (by omega)), pu_ck (by omega) (by omega), nI_clamp (by omega), hv1 i h1 (by omega), nI_1]
    by_cases h2 : a i = false
    · rw [if_pos (by rw [mk0 (hsa i h1)]; exact h2)]
      refine ih (i + 1) q (by omega) (by omega) (by omega) (fun d h3 h4 => ?_)
      by_cases e : d = i
      · rw [e]
        exact h2
      · exact hn d h3 (by omega)
    · rw [if_neg (by rw [mk0 (hsa i h1)]; exact h2), firstU_eq a i h1 (by omega) hn (by simpa using h2) 200 (by omega)]
theorem p_hidden_b {de fi v : Nat → Int32} {s a : Nat → Bool} (hsa : ∀ d, 1 ≤ d → s d = true → a d = true) (hv1 : ∀ d, 1 ≤ d → d ≤ 200 → v d = nI (mkv (s d) (a d))) : ∀ (m q : Nat), m ≤ 200 → m < q → f_X1_latestHidden_b10 fi de q v (nI m) = some (lastU (fun d => a d && !(s d)) m, v) := by
  intro m
  induction m with
  | zero =>
    intro q h1 h2
    obtain ⟨q, rfl⟩ : ∃ r, q = r + 1 := ⟨q - 1, by omega⟩
    rw [f_X1_latestHidden_b10, if_pos (by decide), lastU]
  | succ m ih =>
    intro q h1 h2
    obtain ⟨q, rfl⟩ : ∃ r, q = r + 1 := ⟨q - 1, by omega⟩
    rw [f_X1_latestHidden_b10, pl1, if_neg (nI_nlt (by omega) (by omega)), pu_ck (by omega) (by omega), nI_clamp (by omega), hv1 (m + 1) (by omega) (by omega), ← pl1, pk_m1, lastU]
    by_cases h3 : (a (m + 1) && !(s (m + 1))) = true
    · rw [if_pos (by rw [mk1 (hsa (m + 1) (by omega))]; exact h3), if_pos h3]
    · rw [if_neg (by rw [mk1 (hsa (m + 1) (by omega))]; exact h3), if_neg h3]
      exact ih q (by omega) (by omega)
theorem r_oldest2 {np hd : Nat} {W H : Nat → Nat} {G : GC} {to row v : Nat → Int32} {dp fd : Nat → Nat} {dy : Nat} (h : PzG np hd W H G row dp fd dy) (h30 : hd ≤ 30) {p d : Nat} {x2 x3 : Int32} {k57 : Int32 → (Nat → Int32) → Int32 → Int32 → Int32 → Int32 → Option (Int32 × Int32 × (Nat → Int32))} (hp : p < 5) (hd2 : d ≤ 200) : ∀ (m i q : Nat), i + m = 16 → m < q → f_X11_oldest_b74 to row k57 q 0 v (nI p) x2 x3 (nI d) (if hvU dp fd p d i = true then 1 else 0) (if shU dp fd p d i = true then 1 else 0) (nI i) = k57 0 v (nI p) x2 (if hvU dp fd p d 16 = true ∧ (if x2 = 0 then x3 = -1 else shU dp fd p d 16 = false) then nI d else x3) (nI (d + 1)) := by
  have c1 : ∀ b : Bool, ((if b = true then (1 : Int32) else 0) = 0) = (b = false) := by
    intro b
    cases b
    · simp
    · simp
  intro m
  induction m with
  | zero =>
    intro i q hi hq
    obtain ⟨q, rfl⟩ : ∃ r, q = r + 1 := ⟨q - 1, by omega⟩
    rw [f_X11_oldest_b74, pl16, if_pos (nI_le (by omega) (by omega)), f_X11_oldest_b172, f_X11_oldest_b175, f_X11_oldest_b175, nI_1, show i = 16 by omega]
    cases hA : hvU dp fd p d 16 with
    | false =>
      rw [if_pos (by decide), if_neg (by rintro ⟨h1, -⟩; cases h1)]
    | true =>
      rw [if_neg (by decide)]
      by_cases h2 : x2 = 0
      · rw [if_pos h2]
        by_cases h3 : x3 = -1
        · rw [if_pos h3, if_pos ⟨rfl, by rw [if_pos h2]; exact h3⟩]
        · rw [if_neg h3, if_neg]
          rintro ⟨-, h4⟩
          rw [if_pos h2] at h4
          exact h3 h4
      · rw [if_neg h2]
        cases hB : shU dp fd p d 16 with
        | false =>
          rw [if_pos (by decide), if_pos ⟨rfl, by rw [if_neg h2]⟩]
        | true =>
          rw [if_neg (by decide), if_neg]
          rintro ⟨-, h4⟩
          rw [if_neg h2] at h4
          cases h4
  | succ m ih =>
    intro i q hi hq
    obtain ⟨q, rfl⟩ : ∃ r, q = r + 1 := ⟨q - 1, by omega⟩
    have hle := bhn_le h (c := 16 * p + i) (by omega) 0
    have e110 : ∀ t : Bool, f_X11_oldest_b110 to row k57 (f_X11_oldest_b74 to row k57 q) 0 v (nI p) x2 x3 (nI d) (if shU dp fd p d i = true then 1 else 0) (nI i) (if t = true then 1 else 0) = f_X11_oldest_b74 to row k57 q 0 v (nI p) x2 x3 (nI d) (if t = true then 1 else 0) (if shU dp fd p d (i + 1) = true then 1 else 0) (nI (i + 1)) := by
      intro t
      rw [f_X11_oldest_b110, f_X11_oldest_b137, f_X11_oldest_b142, f_X11_oldest_b142, nI_1, shU]
      cases hB : shU dp fd p d i with
      | true =>
        rw [if_neg (by decide)]
        rfl
      | false =>
        rw [if_pos (by decide), pl16, pk_mul, nI_add, pl0, r_filmG h h30 (by omega) (by omega), Option.bind_some, Bool.false_or]
        by_cases e : bhn dp fd (16 * p + i) 0 = d
        · rw [if_pos (by rw [e]), beq_iff_eq.mpr e]
          rfl
        · rw [if_neg (by rw [nI_eq (by omega) (by omega)]; exact e), beq_eq_false_iff_ne.mpr e]
          rfl
    have e105 : f_X11_oldest_b105 to row k57 (f_X11_oldest_b74 to row k57 q) 0 v (nI p) x2 x3 (nI d) (if shU dp fd p d i = true then 1 else 0) (nI i) = f_X11_oldest_b74 to row k57 q 0 v (nI p) x2 x3 (nI d) (if true = true then 1 else 0) (if shU dp fd p d (i + 1) = true then 1 else 0) (nI (i + 1)) := by
      rw [f_X11_oldest_b105]
      exact e110 true
    have e2 : f_X11_oldest_b74 to row k57 (q + 1) 0 v (nI p) x2 x3 (nI d) (if hvU dp fd p d i = true then 1 else 0) (if shU dp fd p d i = true then 1 else 0) (nI i) = f_X11_oldest_b74 to row k57 q 0 v (nI p) x2 x3 (nI d) (if hvU dp fd p d (i + 1) = true then 1 else 0) (if shU dp fd p d (i + 1) = true then 1 else 0) (nI (i + 1)) := by
      rw [f_X11_oldest_b74, pl16, if_neg (nI_ge (by omega) (by omega)), e105, hvU]
      cases hA : hvU dp fd p d i with
      | true =>
        rw [if_neg (by decide), Bool.true_or]
      | false =>
        rw [if_pos (by decide), pk_mul, nI_add, r_onCell h h30 (by omega) hd2, Option.bind_some, Bool.false_or]
        cases hC : hv dp fd (16 * p + i) d with
        | true =>
          rw [if_neg (by decide)]
        | false =>
          rw [if_pos (by decide)]
          exact e110 false
    rw [e2]
    exact ih (i + 1) q (by omega) (by omega)
theorem r_oldest1 {np hd : Nat} {W H : Nat → Nat} {G : GC} {to row v : Nat → Int32} {dp fd : Nat → Nat} {dy : Nat} (h : PzG np hd W H G row dp fd dy) (h30 : hd ≤ 30) {p : Nat} {x2 : Int32} (hp : p < 5) (F : Nat → Int32) (hF : ∀ i, F (i + 1) = if hvU dp fd p (i + 1) 16 = true ∧ (if x2 = 0 then F i = -1 else shU dp fd p (i + 1) 16 = false) then nI (i + 1) else F i) : ∀ (m i q : Nat), i + m = 200 → m < q → f_X11_oldest_b57 to row q 0 v (nI p) x2 (F i) (nI (i + 1)) = some (F 200, 0, v) := by
  intro m
  induction m with
  | zero =>
    intro i q hi hq
    obtain ⟨q, rfl⟩ : ∃ r, q = r + 1 := ⟨q - 1, by omega⟩
    rw [f_X11_oldest_b57, pl200, if_pos (nI_lt (by omega) (by omega)), show i = 200 by omega]
  | succ m ih =>
    intro i q hi hq
    obtain ⟨q, rfl⟩ : ∃ r, q = r + 1 := ⟨q - 1, by omega⟩
    have e := r_oldest2 (to := to) (v := v) (x2 := x2) (x3 := F i) (k57 := f_X11_oldest_b57 to row q) h h30 (d := i + 1) hp (by omega) 16 0 4000 (by omega) (by omega)
    rw [← hF i] at e
    rw [f_X11_oldest_b57, pl200, if_neg (nI_nlt (by omega) (by omega)), pl0]
    exact e.trans (ih (i + 1) q (by omega) (by omega))
theorem a_oldest {C : CS} {R : RS} (hc : PzC C R) (x1 x2 : Int32) :
    (∃ r z0, fC_oldest C x1 x2 = some (0, r, C.v15, z0) ∧ fR_oldest R x1 x2 = some (r, 0, R.v10)) ∨
    (∃ z0, fC_oldest C x1 x2 = some (2, 0, upd C.v15 1 (C.v15 1 + 1), z0) ∧ fR_oldest R x1 x2 = some (0, 1, upd R.v10 1 (R.v10 1 + 1))) ∨
    (∃ z0, fC_oldest C x1 x2 = some (1, 0, upd C.v15 2 (C.v15 2 + 1), z0) ∧ fR_oldest R x1 x2 = some (0, 2, upd R.v10 2 (R.v10 2 + 1))) := by
  obtain ⟨np, no, hd, W, H, hS, ⟨dp, fd, dy, hG⟩, -⟩ := hc
  have h30 := hS.2.2.1.2
  rcases pz_pane hS C.v15 x1 with ⟨h1, h2⟩ | ⟨p, hp, hp5, rfl, h1, h2⟩
  · exact .inr (.inl ⟨C.g.2.2.1, by simp -implicitDefEqProofs only [Option.bind_some, pz10, if_true, if_false, eq_self, ↓reduceIte, r_bad0, r_A1, r_A2, r_B1, r_B2, r_B3, r_C1, fC_oldest, f_X10_oldest, h1]; rfl, by simp -implicitDefEqProofs only [Option.bind_some, pz10, if_true, if_false, eq_self, ↓reduceIte, r_bad0, r_A1, r_A2, r_B1, r_B2, r_B3, r_C1, fR_oldest, f_X11_oldest, h2, f_X11_oldest_b19]⟩)
  · rcases pz_what C.v15 x2 1 (by omega) with ⟨h3, h4⟩ | ⟨a, ha, rfl, h3, h4⟩
    · rw [← pl1] at h3 h4
      exact .inr (.inr ⟨C.g.2.2.1, by simp -implicitDefEqProofs only [Option.bind_some, pz10, if_true, if_false, eq_self, ↓reduceIte, r_bad0, r_A1, r_A2, r_B1, r_B2, r_B3, r_C1, fC_oldest, f_X10_oldest, h1, h3]; rfl, by simp -implicitDefEqProofs only [Option.bind_some, pz10, if_true, if_false, eq_self, ↓reduceIte, r_bad0, r_A1, r_A2, r_B1, r_B2, r_B3, r_C1, fR_oldest, f_X11_oldest, h2, f_X11_oldest_b19, f_X11_oldest_b42, h4]⟩)
    · rw [← pl1] at h3 h4
      obtain ⟨v', m1, m2⟩ := p_marks hG h30 hp5 C.g.2.2.1
      have hsa : ∀ d, 1 ≤ d → shU dp fd p d 16 = true → hvU dp fd p d 16 = true := fun d h5 h6 => sh_hv h5 16 h6
      left
      have ha2 : a = 0 ∨ a = 1 := by omega
      rcases ha2 with rfl | rfl
      · have e := p_earliest_b (de := C.n.2.2.2.2.2.2.1) (fi := C.n.2.2.2.2.2.1) (s := fun d => shU dp fd p d 16) (a := fun d => hvU dp fd p d 16) hsa m1 200 1 4000 (by omega) (by omega) (by omega) (fun d h5 h6 => absurd h5 (by omega))
        have e2 := r_oldest1 (to := R.v12) (v := R.v10) (x2 := nI 0) hG h30 hp5 (firstU (fun d => hvU dp fd p d 16)) (fun i => by
          rw [firstU]
          by_cases h5 : firstU (fun d => hvU dp fd p d 16) i = -1
          · rw [if_pos h5]
            by_cases h6 : hvU dp fd p (i + 1) 16 = true
            · rw [if_pos h6, if_pos ⟨h6, by rw [if_pos (show nI 0 = 0 from rfl)]; exact h5⟩]
            · rw [if_neg h6, if_neg (fun h7 => h6 h7.1), h5]
          · rw [if_neg h5, if_neg (fun h7 => by have h8 := h7.2; rw [if_pos (show nI 0 = 0 from rfl)] at h8; exact h5 h8)]) 200 0 4000 (by omega) (by omega)
        rw [← pl1] at e
        refine ⟨_, v', ?_, by simp -implicitDefEqProofs only [Option.bind_some, pz10, if_true, if_false, eq_self, ↓reduceIte, r_bad0, r_A1, r_A2, r_B1, r_B2, r_B3, r_C1, fR_oldest, f_X11_oldest, h2, f_X11_oldest_b19, f_X11_oldest_b42, h4]; exact e2⟩
        simp -implicitDefEqProofs only [Option.bind_some, pz10, if_true, if_false, eq_self, ↓reduceIte, r_bad0, r_A1, r_A2, r_B1, r_B2, r_B3, r_C1, fC_oldest, f_X10_oldest, h1, h3, f_X1_earliest, m2, e]
        rw [if_pos (by decide)]
      · have e := p_hidden_b (de := C.n.2.2.2.2.2.2.1) (fi := C.n.2.2.2.2.2.1) (s := fun d => shU dp fd p d 16) (a := fun d => hvU dp fd p d 16) hsa m1 200 4000 (by omega) (by omega)
        have e2 := r_oldest1 (to := R.v12) (v := R.v10) (x2 := nI 1) hG h30 hp5 (lastU (fun d => hvU dp fd p d 16 && !(shU dp fd p d 16))) (fun i => by
          rw [lastU]
          by_cases h5 : (hvU dp fd p (i + 1) 16 && !(shU dp fd p (i + 1) 16)) = true
          · have h6 : hvU dp fd p (i + 1) 16 = true ∧ shU dp fd p (i + 1) 16 = false := by simpa using h5
            rw [if_pos h5, if_pos ⟨h6.1, by rw [if_neg (show ¬ nI 1 = 0 by decide)]; exact h6.2⟩]
          · rw [if_neg h5, if_neg (fun h7 => by
              have h8 := h7.2
              rw [if_neg (show ¬ nI 1 = 0 by decide)] at h8
              exact h5 (by rw [h7.1, h8]; rfl))]) 200 0 4000 (by omega) (by omega)
        rw [← pl200] at e
        refine ⟨_, v', ?_, by simp -implicitDefEqProofs only [Option.bind_some, pz10, if_true, if_false, eq_self, ↓reduceIte, r_bad0, r_A1, r_A2, r_B1, r_B2, r_B3, r_C1, fR_oldest, f_X11_oldest, h2, f_X11_oldest_b19, f_X11_oldest_b42, h4]; exact e2⟩
        simp -implicitDefEqProofs only [Option.bind_some, pz10, if_true, if_false, eq_self, ↓reduceIte, r_bad0, r_A1, r_A2, r_B1, r_B2, r_B3, r_C1, fC_oldest, f_X10_oldest, h1, h3, f_X1_latestHidden, m2, e]
        rw [if_neg (by decide)]
theorem q_oldest {L i : Nat} {C : CS} {R : RS} {cells slots : Nat} (h : PzInv L i C R cells slots) (hi : i + 7 ≤ L) (x1 x2 : Int32) : pS_oldest (PzInv L (i + 7)) C R x1 x2 cells slots := by
  rcases a_oldest h.2.1 x1 x2 with ⟨r, z0, h1, h2⟩ | ⟨z0, h1, h2⟩ | ⟨z0, h1, h2⟩
  · exact ⟨(0, r, C.v15, z0), (r, 0, R.v10), h1, h2, .inl rfl, rfl, fun _ => rfl, pz_fit h (by omega) (by omega), h.keep hi (by omega) (by omega) h.1⟩
  · exact ⟨(2, 0, upd C.v15 1 (C.v15 1 + 1), z0), (0, 1, upd R.v10 1 (R.v10 1 + 1)), h1, h2, .inr (.inl rfl), rfl, fun _ => rfl, pz_fit h (by omega) (by omega), h.keep hi (by omega) (by omega) h.1.up⟩
  · exact ⟨(1, 0, upd C.v15 2 (C.v15 2 + 1), z0), (0, 2, upd R.v10 2 (R.v10 2 + 1)), h1, h2, .inr (.inr rfl), rfl, fun _ => rfl, pz_fit h (by omega) (by omega), h.keep hi (by omega) (by omega) h.1.up⟩

/-! image, restore -/
theorem pl24166 : (24166 : Int32) = nI 24166 := rfl
theorem r_puts0 {s : Nat} (hs : s < 24166) (v : Nat → Int32) (x : Int32) : f_X11_puts (nI s) 24166 v x 0 = some (x, nI (s + 1), upd v s x) := by
  rw [f_X11_puts, if_pos rfl, pu_ck hs (by omega), nI_clamp (by omega), f_X11_puts_b11, nI_1, nI_pred, pu_ck hs (by omega), nI_clamp (by omega), upd, if_pos rfl]
theorem r_puts1 {s : Nat} (hs : s < 24166) (v : Nat → Int32) (x : Int32) : f_X11_puts (nI s) 24166 v x 1 = some (v s, nI (s + 1), v) := by
  rw [f_X11_puts, if_neg (by decide), f_X11_puts_b11, nI_1, nI_pred, pu_ck hs (by omega), nI_clamp (by omega)]
/-- what an image keeps -/
def kpT (wo : Int32) (now : Nat → Int32) (be : Nat → Nat → Int32) (j : Nat) : Int32 := if j = 0 then wo else if j < 2686 then now (j - 1) else be ((j - 2686) / 2685) ((j - 2686) % 2685)
theorem r_img3 {wo z : Int32} {now : Nat → Int32} {be : Nat → Nat → Int32} {k54 : Int32 → Int32 → (Nat → Int32) → (Nat → Nat → Int32) → (Nat → Int32) → Int32 → Int32 → Option (Int32 × Int32 × (Nat → Int32) × (Nat → Nat → Int32) × (Nat → Int32))} {w : Nat} (hw : w < 8) {n9 : Nat → Int32} : ∀ (m i q : Nat) (g : Nat → Nat → Int32) (v : Nat → Int32), i + m = 2685 → m < q → (∀ a b, g a b = be a b) → (∀ j, j < 2686 + 2685 * w + i → v j = kpT wo now be j) → ∃ g' v', (∀ a b, g' a b = be a b) ∧ (∀ j, j < 2686 + 2685 * (w + 1) → v' j = kpT wo now be j) ∧ f_X11_putsAll_b63 24166 k54 q z (nI (2686 + 2685 * w + i)) n9 g v 0 (nI w) (nI i) = k54 z (nI (2686 + 2685 * (w + 1))) n9 g' v' 0 (nI (w + 1)) := by
  intro m
  induction m with
  | zero =>
    intro i q g v hi hq hg hv1
    obtain ⟨q, rfl⟩ : ∃ r, q = r + 1 := ⟨q - 1, by omega⟩
    refine ⟨g, v, hg, fun j hj => hv1 j (by omega), ?_⟩
    rw [f_X11_putsAll_b63, pl2685, if_pos (nI_le (by omega) (by omega)), nI_1, show 2686 + 2685 * w + i = 2686 + 2685 * (w + 1) by omega]
  | succ m ih =>
    intro i q g v hi hq hg hv1
    obtain ⟨q, rfl⟩ : ∃ r, q = r + 1 := ⟨q - 1, by omega⟩
    have hck : ∀ {R : Type} (z : Option R), ck (nI w) 8 z = z := fun z => pu_ck hw (by omega)
    have hcki : ∀ {R : Type} (z : Option R), ck (nI i) 2685 z = z := fun z => pu_ck (by omega) (by omega)
    have hcl : (nI w).toNatClampNeg = w := nI_clamp (by omega)
    have hcli : (nI i).toNatClampNeg = i := nI_clamp (by omega)
    rw [f_X11_putsAll_b63, pl2685, if_neg (nI_ge (by omega) (by omega)), hck, hck, hcki, hcl, hcli, r_puts0 (by omega), Option.bind_some, hcki, nI_1]
    refine ih (i + 1) q _ _ (by omega) (by omega) (fun a b => ?_) (fun j hj => ?_)
    · show (if a = w then upd (g w) i (g w i) else g a) b = be a b
      by_cases e : a = w
      · rw [if_pos e, upd]
        by_cases e2 : b = i
        · rw [if_pos e2, e, e2, hg]
        · rw [if_neg e2, e, hg]
      · rw [if_neg e, hg]
    · show (if j = 2686 + 2685 * w + i then g w i else v j) = _
      by_cases e : j = 2686 + 2685 * w + i
      · rw [if_pos e, hg, kpT, if_neg (by omega), if_neg (by omega), show (j - 2686) / 2685 = w by omega, show (j - 2686) % 2685 = i by omega]
      · rw [if_neg e]
        exact hv1 j (by omega)
theorem r_img2 {wo z : Int32} {now : Nat → Int32} {be : Nat → Nat → Int32} {n9 : Nat → Int32} : ∀ (m w q : Nat) (g : Nat → Nat → Int32) (v : Nat → Int32), w + m = 8 → m < q → (∀ a b, g a b = be a b) → (∀ j, j < 2686 + 2685 * w → v j = kpT wo now be j) → ∃ s g' v', (∀ a b, g' a b = be a b) ∧ (∀ j, j < 24166 → v' j = kpT wo now be j) ∧ f_X11_putsAll_b54 24166 q z (nI (2686 + 2685 * w)) n9 g v 0 (nI w) = some (z, s, n9, g', v') := by
  intro m
  induction m with
  | zero =>
    intro w q g v hi hq hg hv1
    obtain ⟨q, rfl⟩ : ∃ r, q = r + 1 := ⟨q - 1, by omega⟩
    refine ⟨nI (2686 + 2685 * w), g, v, hg, fun j hj => hv1 j (by omega), ?_⟩
    rw [f_X11_putsAll_b54, pl8, if_pos (nI_le (by omega) (by omega))]
  | succ m ih =>
    intro w q g v hi hq hg hv1
    obtain ⟨q, rfl⟩ : ∃ r, q = r + 1 := ⟨q - 1, by omega⟩
    obtain ⟨g1, v1, a1, a2, a3⟩ := r_img3 (z := z) (n9 := n9) (k54 := f_X11_putsAll_b54 24166 q) (w := w) (by omega) 2685 0 4000 g v (by omega) (by omega) hg (fun j hj => hv1 j (by omega))
    rw [Nat.add_zero, ← pl0] at a3
    obtain ⟨s, g', v', b1, b2, b3⟩ := ih (w + 1) q g1 v1 (by omega) (by omega) a1 a2
    refine ⟨s, g', v', b1, b2, ?_⟩
    rw [f_X11_putsAll_b54, pl8, if_neg (nI_ge (by omega) (by omega)), a3]
    exact b3
theorem r_img1 {wo z : Int32} {now : Nat → Int32} {be : Nat → Nat → Int32} : ∀ (m i q : Nat) (n9 : Nat → Int32) (v : Nat → Int32), i + m = 2685 → m < q → (∀ a, n9 a = now a) → (∀ j, j < 1 + i → v j = kpT wo now be j) → ∃ s n' g' v', (∀ a, n' a = now a) ∧ (∀ a b, g' a b = be a b) ∧ (∀ j, j < 24166 → v' j = kpT wo now be j) ∧ f_X11_putsAll_b21 24166 q z (nI (1 + i)) n9 be v 0 (nI i) = some (z, s, n', g', v') := by
  intro m
  induction m with
  | zero =>
    intro i q n9 v hi hq hn hv1
    obtain ⟨q, rfl⟩ : ∃ r, q = r + 1 := ⟨q - 1, by omega⟩
    obtain ⟨s, g', v', b1, b2, b3⟩ := r_img2 (z := z) (n9 := n9) (wo := wo) (now := now) 8 0 4000 be v (by omega) (by omega) (fun _ _ => rfl) (fun j hj => hv1 j (by omega))
    refine ⟨s, n9, g', v', hn, b1, b2, ?_⟩
    rw [f_X11_putsAll_b21, pl2685, if_pos (nI_le (by omega) (by omega)), show 1 + i = 2686 + 2685 * 0 by omega]
    exact b3
  | succ m ih =>
    intro i q n9 v hi hq hn hv1
    obtain ⟨q, rfl⟩ : ∃ r, q = r + 1 := ⟨q - 1, by omega⟩
    have hcki : ∀ {R : Type} (z : Option R), ck (nI i) 2685 z = z := fun z => pu_ck (by omega) (by omega)
    have hcli : (nI i).toNatClampNeg = i := nI_clamp (by omega)
    rw [f_X11_putsAll_b21, pl2685, if_neg (nI_ge (by omega) (by omega)), hcki, hcli, r_puts0 (by omega), Option.bind_some, hcki, nI_1, show 1 + i + 1 = 1 + (i + 1) by omega]
    refine ih (i + 1) q _ _ (by omega) (by omega) (fun a => ?_) (fun j hj => ?_)
    · show (if a = i then n9 i else n9 a) = _
      by_cases e : a = i
      · rw [if_pos e, hn, e]
      · rw [if_neg e, hn]
    · show (if j = 1 + i then n9 i else v j) = _
      by_cases e : j = 1 + i
      · rw [if_pos e, hn, kpT, if_neg (by omega), if_pos (by omega), show j - 1 = i by omega]
      · rw [if_neg e]
        exact hv1 j (by omega)
theorem r_img {wo z : Int32} (now : Nat → Int32) (be : Nat → Nat → Int32) (v : Nat → Int32) : ∃ s n' g' v', (∀ a, n' a = now a) ∧ (∀ a b, g' a b = be a b) ∧ (∀ j, j < 24166 → v' j = kpT wo now be j) ∧ f_X11_putsAll wo z now be 24166 v 0 = some (wo, s, n', g', v') := by
  obtain ⟨s, n', g', v', a1, a2, a3, a4⟩ := r_img1 (wo := wo) (z := wo) (now := now) (be := be) 2685 0 4000 now (upd v 0 wo) (by omega) (by omega) (fun _ => rfl) (fun j hj => by
    rw [upd, if_pos (by omega), kpT, if_pos (by omega)])
  refine ⟨s, n', g', v', a1, a2, a3, ?_⟩
  have e := r_puts0 (s := 0) (by omega) v wo
  rw [← pl0] at a4 e
  rw [f_X11_putsAll, e, Option.bind_some]
  exact a4
/-- back: the row is read -/
theorem r_bck3 {z : Int32} {v : Nat → Int32} {k54 : Int32 → Int32 → (Nat → Int32) → (Nat → Nat → Int32) → (Nat → Int32) → Int32 → Int32 → Option (Int32 × Int32 × (Nat → Int32) × (Nat → Nat → Int32) × (Nat → Int32))} {w : Nat} (hw : w < 8) {n9 : Nat → Int32} : ∀ (m i q : Nat) (g : Nat → Nat → Int32), i + m = 2685 → m < q → (∀ a b, (a < w ∨ (a = w ∧ b < i)) → b < 2685 → g a b = v (2686 + 2685 * a + b)) → ∃ g', (∀ a b, a < w + 1 → b < 2685 → g' a b = v (2686 + 2685 * a + b)) ∧ f_X11_putsAll_b63 24166 k54 q z (nI (2686 + 2685 * w + i)) n9 g v 1 (nI w) (nI i) = k54 z (nI (2686 + 2685 * (w + 1))) n9 g' v 1 (nI (w + 1)) := by
  intro m
  induction m with
  | zero =>
    intro i q g hi hq hg
    obtain ⟨q, rfl⟩ : ∃ r, q = r + 1 := ⟨q - 1, by omega⟩
    refine ⟨g, fun a b ha hb => hg a b (by omega) hb, ?_⟩
    rw [f_X11_putsAll_b63, pl2685, if_pos (nI_le (by omega) (by omega)), nI_1, show 2686 + 2685 * w + i = 2686 + 2685 * (w + 1) by omega]
  | succ m ih =>
    intro i q g hi hq hg
    obtain ⟨q, rfl⟩ : ∃ r, q = r + 1 := ⟨q - 1, by omega⟩
    have hck : ∀ {R : Type} (z : Option R), ck (nI w) 8 z = z := fun z => pu_ck hw (by omega)
    have hcki : ∀ {R : Type} (z : Option R), ck (nI i) 2685 z = z := fun z => pu_ck (by omega) (by omega)
    have hcl : (nI w).toNatClampNeg = w := nI_clamp (by omega)
    have hcli : (nI i).toNatClampNeg = i := nI_clamp (by omega)
    rw [f_X11_putsAll_b63, pl2685, if_neg (nI_ge (by omega) (by omega)), hck, hck, hcki, hcl, hcli, r_puts1 (by omega), Option.bind_some, hcki, nI_1]
    refine ih (i + 1) q _ (by omega) (by omega) (fun a b hab hb => ?_)
    show (if a = w then upd (g w) i (v (2686 + 2685 * w + i)) else g a) b = _
    by_cases e : a = w
    · rw [if_pos e, upd]
      by_cases e2 : b = i
      · rw [if_pos e2, e, e2]
      · rw [if_neg e2, e]
        exact hg w b (by omega) hb
    · rw [if_neg e]
      exact hg a b (by omega) hb
theorem r_bck2 {z : Int32} {v : Nat → Int32} {n9 : Nat → Int32} : ∀ (m w q : Nat) (g : Nat → Nat → Int32), w + m = 8 → m < q → (∀ a b, a < w → b < 2685 → g a b = v (2686 + 2685 * a + b)) → ∃ s g', (∀ a b, a < 8 → b < 2685 → g' a b = v (2686 + 2685 * a + b)) ∧ f_X11_putsAll_b54 24166 q z (nI (2686 + 2685 * w)) n9 g v 1 (nI w) = some (z, s, n9, g', v) := by
  intro m
  induction m with
  | zero =>
    intro w q g hi hq hg
    obtain ⟨q, rfl⟩ : ∃ r, q = r + 1 := ⟨q - 1, by omega⟩
    refine ⟨nI (2686 + 2685 * w), g, fun a b ha hb => hg a b (by omega) hb, ?_⟩
    rw [f_X11_putsAll_b54, pl8, if_pos (nI_le (by omega) (by omega))]
  | succ m ih =>
    intro w q g hi hq hg
    obtain ⟨q, rfl⟩ : ∃ r, q = r + 1 := ⟨q - 1, by omega⟩
    obtain ⟨g1, a1, a3⟩ := r_bck3 (z := z) (n9 := n9) (v := v) (k54 := f_X11_putsAll_b54 24166 q) (w := w) (by omega) 2685 0 4000 g (by omega) (by omega) (fun a b hab hb => hg a b (by omega) hb)
    rw [Nat.add_zero, ← pl0] at a3
    obtain ⟨s, g', b1, b3⟩ := ih (w + 1) q g1 (by omega) (by omega) a1
    refine ⟨s, g', b1, ?_⟩
    rw [f_X11_putsAll_b54, pl8, if_neg (nI_ge (by omega) (by omega)), a3]
    exact b3
theorem r_bck1 {z : Int32} {v : Nat → Int32} {be : Nat → Nat → Int32} : ∀ (m i q : Nat) (n9 : Nat → Int32), i + m = 2685 → m < q → (∀ a, a < i → n9 a = v (1 + a)) → ∃ s n' g', (∀ a, a < 2685 → n' a = v (1 + a)) ∧ (∀ a b, a < 8 → b < 2685 → g' a b = v (2686 + 2685 * a + b)) ∧ f_X11_putsAll_b21 24166 q z (nI (1 + i)) n9 be v 1 (nI i) = some (z, s, n', g', v) := by
  intro m
  induction m with
  | zero =>
    intro i q n9 hi hq hn
    obtain ⟨q, rfl⟩ : ∃ r, q = r + 1 := ⟨q - 1, by omega⟩
    obtain ⟨s, g', b1, b3⟩ := r_bck2 (z := z) (n9 := n9) (v := v) 8 0 4000 be (by omega) (by omega) (fun a b ha hb => absurd ha (by omega))
    refine ⟨s, n9, g', fun a ha => hn a (by omega), b1, ?_⟩
    rw [f_X11_putsAll_b21, pl2685, if_pos (nI_le (by omega) (by omega)), show 1 + i = 2686 + 2685 * 0 by omega]
    exact b3
  | succ m ih =>
    intro i q n9 hi hq hn
    obtain ⟨q, rfl⟩ : ∃ r, q = r + 1 := ⟨q - 1, by omega⟩
    have hcki : ∀ {R : Type} (z : Option R), ck (nI i) 2685 z = z := fun z => pu_ck (by omega) (by omega)
    have hcli : (nI i).toNatClampNeg = i := nI_clamp (by omega)
    rw [f_X11_putsAll_b21, pl2685, if_neg (nI_ge (by omega) (by omega)), hcki, hcli, r_puts1 (by omega), Option.bind_some, hcki, nI_1, show 1 + i + 1 = 1 + (i + 1) by omega]
    refine ih (i + 1) q _ (by omega) (by omega) (fun a ha => ?_)
    show (if a = i then v (1 + i) else n9 a) = _
    by_cases e : a = i
    · rw [if_pos e, e]
    · rw [if_neg e]
      exact hn a (by omega)
theorem r_bck {wo z : Int32} (now : Nat → Int32) (be : Nat → Nat → Int32) (v : Nat → Int32) : ∃ s n' g', (∀ a, a < 2685 → n' a = v (1 + a)) ∧ (∀ a b, a < 8 → b < 2685 → g' a b = v (2686 + 2685 * a + b)) ∧ f_X11_putsAll wo z now be 24166 v 1 = some (v 0, s, n', g', v) := by
  obtain ⟨s, n', g', a1, a2, a4⟩ := r_bck1 (z := v 0) (v := v) (be := be) 2685 0 4000 now (by omega) (by omega) (fun a ha => absurd ha (by omega))
  refine ⟨s, n', g', a1, a2, ?_⟩
  have e := r_puts1 (s := 0) (by omega) v wo
  rw [← pl0] at a4 e
  rw [f_X11_putsAll, e, Option.bind_some]
  exact a4
theorem nul_cp {B B' : Nat → Option Nat} {G G1 G' : Nat → GC} {k : Nat} (h : cpOk B B' G G1 G' k) (hk : k ≤ 8) : nulN B' 8 + nulN B k = nulN B 8 := by
  have h1 : ∀ n, n ≤ k → nulN B' n = 0 := by
    intro n
    induction n with
    | zero =>
      intro _
      rfl
    | succ n ih =>
      intro hn
      rw [nulN, ih (by omega), if_pos ((h n).1 (by omega)).1]
  have h2 : ∀ m, nulN B' (k + m) + nulN B k = nulN B (k + m) := by
    intro m
    induction m with
    | zero =>
      rw [Nat.add_zero, h1 k (Nat.le_refl _), Nat.zero_add]
    | succ m ih =>
      rw [← Nat.add_assoc, nulN, nulN, ((h (k + m)).2 (by omega)).1]
      omega
  have := h2 (8 - k)
  rw [show k + (8 - k) = 8 by omega] at this
  exact this
theorem nul_none : ∀ n, nulN (fun _ => none) n = n := by
  intro n
  induction n with
  | zero => rfl
  | succ n ih =>
    rw [nulN, ih]
    rfl
theorem nul_all {B : Nat → Option Nat} (h : ∀ i, B i = none) : nulN B 8 = 8 := by
  have : B = fun _ => none := funext h
  rw [this]
  exact nul_none 8
theorem nul_le8 (B : Nat → Option Nat) : ∀ n, nulN B n ≤ n := by
  intro n
  induction n with
  | zero => exact Nat.le_refl _
  | succ n ih =>
    rw [nulN]
    by_cases h : (B n).isSome = true
    · rw [if_pos h]
      omega
    · rw [if_neg h]
      omega

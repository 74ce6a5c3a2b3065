/-! a law worked out -/
theorem div_m1 (a : Int32) : a / -1 = -a := by
  apply Int32.toInt_inj.mp
  rw [Int32.toInt_div, show (-1 : Int32).toInt = -1 from rfl, Int32.toInt_neg, Int.tdiv_neg, Int.tdiv_one]
def wkI (v : Nat) (a b : Int32) : Int32 :=
  if v = 0 then a + b else if v = 1 then a - b else if v = 2 then a * b else if v = 3 then (if b = 0 then 0 else a / b) else if v = 4 then (if b = 0 then 0 else a - a / b * b) else if v = 5 then (if b ≤ a then b else a) else (if a ≤ b then b else a)
theorem wk3 (a b : Int32) : wkI 3 a b = if b = 0 then 0 else a / b := rfl
theorem wk4 (a b : Int32) : wkI 4 a b = if b = 0 then 0 else a - a / b * b := rfl
theorem wk5 (a b : Int32) : wkI 5 a b = if b ≤ a then b else a := rfl
theorem wk6 (a b : Int32) : wkI 6 a b = if a ≤ b then b else a := rfl
theorem r_worked {v : Nat} (hv : v < 7) (a b : Int32) : f_X11_worked (nI (2 + v)) a b = some (wkI v a b) := by
  rcases (by omega : v = 0 ∨ v = 1 ∨ v = 2 ∨ v = 3 ∨ v = 4 ∨ v = 5 ∨ v = 6) with rfl | rfl | rfl | rfl | rfl | rfl | rfl
  · rfl
  · rfl
  · rfl
  · rw [f_X11_worked, if_neg (by decide), if_neg (by decide), if_neg (by decide), if_pos (by decide), wk3]
    by_cases h0 : b = 0
    · rw [if_pos h0, if_pos h0]
    · rw [if_neg h0, if_neg h0]
      by_cases h1 : b = -1
      · rw [if_pos h1, h1, div_m1]
      · rw [if_neg h1, cd, if_neg h0]
  · rw [f_X11_worked, if_neg (by decide), if_neg (by decide), if_neg (by decide), if_neg (by decide), if_pos (by decide), wk4]
    by_cases h0 : b = 0
    · rw [if_pos h0, if_pos h0]
    · rw [if_neg h0, if_neg h0]
      by_cases h1 : b = -1
      · rw [if_pos h1, h1, div_m1]
        congr 1
        rw [Int32.mul_neg, Int32.mul_one, Int32.neg_neg, Int32.sub_self]
      · rw [if_neg h1, cd, if_neg h0]
  · rw [f_X11_worked, if_neg (by decide), if_neg (by decide), if_neg (by decide), if_neg (by decide), if_neg (by decide), if_pos (by decide), wk5, f_X11_less]
    by_cases h0 : b ≤ a
    · rw [if_pos h0, if_pos h0]
      rfl
    · rw [if_neg h0, if_neg h0]
      rfl
  · rw [f_X11_worked, if_neg (by decide), if_neg (by decide), if_neg (by decide), if_neg (by decide), if_neg (by decide), if_neg (by decide), wk6, f_X11_more]
    by_cases h0 : a ≤ b
    · rw [if_pos h0, if_pos h0]
      rfl
    · rw [if_neg h0, if_neg h0]
      rfl
/-- the stack as a list, its top first -/
def stk (st : Nat → Int32) : Nat → List Int32
  | 0 => []
  | k + 1 => st k :: stk st k
theorem stk_upd (st : Nat → Int32) (x : Int32) (j : Nat) : ∀ k, k ≤ j → stk (upd st j x) k = stk st k := by
  intro k
  induction k with
  | zero =>
    intro _
    rfl
  | succ k ih =>
    intro hk
    rw [stk, stk, ih (by omega), upd, if_neg (by omega)]
theorem stk_push (st : Nat → Int32) (x : Int32) (k : Nat) : stk (upd st k x) (k + 1) = x :: stk st k := by
  rw [stk, stk_upd st x k k (Nat.le_refl _), upd, if_pos rfl]
def op2 (f : Int32 → Int32 → Int32) : List Int32 → List Int32
  | b :: a :: r => f a b :: r
  | r => r
def stp (h v : Int32) (kn : Nat → Int32) (s : List Int32) : List Int32 :=
  if h = 0 then v :: s else if h = 1 then kn v.toNatClampNeg :: s else op2 (wkI (h.toNatClampNeg - 2)) s
def evL (la : Nat → Nat → Int32) (kn : Nat → Int32) : Nat → Nat → List Int32 → List Int32
  | 0, _, s => s
  | m + 1, i, s => evL la kn m (i + 1) (stp (la i 0) (la i 1) kn s)
def lawOk (n : Nat) (code : Nat → Int32) (la : Nat → Nat → Int32) (ht : Nat → Nat) : Prop := ∀ i, i < n →
    ((∃ v, v ≤ 999 ∧ la i 0 = nI 0 ∧ la i 1 = nI v ∧ code i = nI v ∧ ht (i + 1) = ht i + 1) ∨
     (∃ v, v < 8 ∧ la i 0 = nI 1 ∧ la i 1 = nI v ∧ code i = -1 - nI v ∧ ht (i + 1) = ht i + 1) ∨
     (∃ v, v < 7 ∧ la i 0 = nI (2 + v) ∧ code i = -9 - nI v ∧ 2 ≤ ht i ∧ ht (i + 1) + 1 = ht i))
theorem ht_le {n : Nat} {code : Nat → Int32} {la : Nat → Nat → Int32} {ht : Nat → Nat} (h : lawOk n code la ht) (h0 : ht 0 = 0) : ∀ i, i ≤ n → ht i ≤ i := by
  intro i
  induction i with
  | zero =>
    intro _
    omega
  | succ i ih =>
    intro hi
    have := ih (by omega)
    rcases h i (by omega) with ⟨v, -, -, -, -, h5⟩ | ⟨v, -, -, -, -, h5⟩ | ⟨v, -, -, -, h4, h5⟩ <;> omega
theorem stp0 {kn : Nat → Int32} {x : Int32} {s : List Int32} : stp (nI 0) x kn s = x :: s := by
  rw [stp, if_pos (show nI 0 = 0 from rfl)]
theorem stp1 {kn : Nat → Int32} {v : Nat} (hv : v < 8) {s : List Int32} : stp (nI 1) (nI v) kn s = kn v :: s := by
  rw [stp, if_neg (by decide), if_pos (show nI 1 = 1 from rfl), nI_clamp (by omega)]
theorem stp2 {kn : Nat → Int32} {v : Nat} (hv : v < 7) {x a b : Int32} {s : List Int32} : stp (nI (2 + v)) x kn (b :: a :: s) = wkI v a b :: s := by
  rw [stp, if_neg (nI_ne0 (by omega) (by omega)), if_neg (by rw [pl1, nI_eq (by omega) (by omega)]; omega), nI_clamp (by omega), Nat.add_sub_cancel_left, op2]
theorem r_law_b {n : Nat} {code : Nat → Int32} {la : Nat → Nat → Int32} {ht : Nat → Nat} {kn : Nat → Int32} (hn : n ≤ 150) (h : lawOk n code la ht) (h0 : ht 0 = 0) (h1 : ht n = 1) : ∀ (m i q : Nat) (st : Nat → Int32), i + m = n → m < q → ∃ st', f_X11_byLaw_b13 (nI n) kn la q st (nI (ht i)) (nI i) = some ((evL la kn m i (stk st (ht i))).headD 0, st') := by
  have c0 : ((0 : Int32).toNatClampNeg) = 0 := rfl
  have c1 : ((1 : Int32).toNatClampNeg) = 1 := rfl
  intro m
  induction m with
  | zero =>
    intro i q st hi hq
    obtain ⟨q, rfl⟩ : ∃ r, q = r + 1 := ⟨q - 1, by omega⟩
    refine ⟨st, ?_⟩
    rw [f_X11_byLaw_b13, if_pos (nI_le (by omega) (by omega)), c0, evL, show i = n by omega, h1]
    rfl
  | succ m ih =>
    intro i q st hi hq
    obtain ⟨q, rfl⟩ : ∃ r, q = r + 1 := ⟨q - 1, by omega⟩
    have hck : ∀ {R : Type} (z : Option R), ck (nI i) 160 z = z := fun z => pu_ck (by omega) (by omega)
    have hcl : (nI i).toNatClampNeg = i := nI_clamp (by omega)
    have hh := ht_le h h0 i (by omega)
    rw [f_X11_byLaw_b13, if_neg (nI_ge (by omega) (by omega))]
    simp -implicitDefEqProofs only [hck, hcl, c0, c1]
    rcases h i (by omega) with ⟨v, a1, a2, a3, a4, a5⟩ | ⟨v, a1, a2, a3, a4, a5⟩ | ⟨v, a1, a2, a4, a6, a5⟩
    · rw [a2, a3, if_neg (by decide), if_pos (show nI 0 = 0 from rfl), f_X11_byLaw_b73, pu_ck (by omega) (by omega), nI_clamp (by omega), f_X11_byLaw_b116, nI_1, nI_1, ← a5, evL, a2, a3, stp0, ← stk_push st (nI v) (ht i), ← a5]
      exact ih (i + 1) q _ (by omega) (by omega)
    · rw [a2, a3, if_neg (by decide), if_neg (show ¬ nI 1 = 0 by decide), pu_ck a1 (by omega), nI_clamp (by omega), f_X11_byLaw_b73, pu_ck (by omega) (by omega), nI_clamp (by omega), f_X11_byLaw_b116, nI_1, nI_1, ← a5, evL, a2, a3, stp1 a1, ← stk_push st (kn v) (ht i), ← a5]
      exact ih (i + 1) q _ (by omega) (by omega)
    · obtain ⟨t, ht2⟩ : ∃ t, ht i = t + 2 := ⟨ht i - 2, by omega⟩
      have ht3 : ht (i + 1) = t + 1 := by omega
      rw [a2, pl2, if_pos (nI_le (by omega) (by omega)), ht2, show t + 2 = (t + 1) + 1 from rfl, pk_m1, nI_pred, pu_ck (by omega) (by omega), pu_ck (by omega) (by omega), nI_clamp (by omega), nI_clamp (by omega), r_worked a1, Option.bind_some, pu_ck (by omega) (by omega), f_X11_byLaw_b116, nI_1, evL, a2, stk, stk, stp2 a1, ← stk_push st (wkI v (st t) (st (t + 1))) t, ← ht3]
      exact ih (i + 1) q _ (by omega) (by omega)
theorem nmI {v : Nat} (hv : v < 8) : (-1 - nI v < (-8 : Int32)) = False ∧ (-1 - nI v < (0 : Int32)) = True ∧ -1 - (-1 - nI v) = nI v := by
  rcases (by omega : v = 0 ∨ v = 1 ∨ v = 2 ∨ v = 3 ∨ v = 4 ∨ v = 5 ∨ v = 6 ∨ v = 7) with rfl | rfl | rfl | rfl | rfl | rfl | rfl | rfl <;> decide
theorem p_law_op {n : Nat} {code named st : Nat → Int32} {k4 : (Nat → Int32) → Int32 → Int32 → Option (Int32 × (Nat → Int32))} {q i t v : Nat} (hn : n ≤ 150) (hi : i < n) (hv : v < 7) (ht : t + 2 ≤ 150) (hc : code i = -9 - nI v) (hk : k4 = f_X3_valueFor_b4 (nI n) code 8 named q) : f_X3_valueFor_b4 (nI n) code 8 named (q + 1) st (nI (t + 2)) (nI i) = k4 (upd st t (wkI v (st t) (st (t + 1)))) (nI (t + 1)) (nI (i + 1)) := by
  have hcd : ∀ {R : Type} {y : Int32} (z : Option R), ¬ y = 0 → cd y z = z := fun z h => if_neg h
  have e1 : nI (t + 2) + (-1) = nI (t + 1) := pk_m1 (t + 1)
  have e2 : nI (t + 1) - 1 = nI t := nI_pred t
  have hfin : ∀ x : Int32, f_X3_valueFor_b223 (nI n) code 8 named k4 st (nI (t + 1)) (nI i) x = k4 (upd st t x) (nI (t + 1)) (nI (i + 1)) := by
    intro x
    rw [f_X3_valueFor_b223, e2, pu_ck (by omega) (by omega), nI_clamp (by omega), f_X3_valueFor_b233, nI_1]
  rw [f_X3_valueFor_b4, if_neg (nI_ge hi (by omega)), pu_ck (by omega) (by omega), nI_clamp (by omega), hc, pl2, if_neg (nI_nlt (b := 2) (by omega) (by omega)), e1, e2, pu_ck (by omega) (by omega), pu_ck (by omega) (by omega), nI_clamp (by omega), nI_clamp (by omega), ← hk, f_X3_valueFor_b202, f_X3_valueFor_b202, f_X3_valueFor_b183, f_X3_valueFor_b183, f_X3_valueFor_b164, f_X3_valueFor_b164, f_X3_valueFor_b221, f_X3_valueFor_b221]
  simp -implicitDefEqProofs only [hfin]
  rcases (by omega : v = 0 ∨ v = 1 ∨ v = 2 ∨ v = 3 ∨ v = 4 ∨ v = 5 ∨ v = 6) with rfl | rfl | rfl | rfl | rfl | rfl | rfl
  · rw [if_pos (by decide), if_neg (by decide), if_neg (by decide), if_neg (by decide), if_neg (by decide), if_neg (by decide), if_pos (by decide)]
    rfl
  · rw [if_pos (by decide), if_neg (by decide), if_neg (by decide), if_neg (by decide), if_neg (by decide), if_pos (by decide)]
    rfl
  · rw [if_pos (by decide), if_neg (by decide), if_neg (by decide), if_neg (by decide), if_pos (by decide)]
    rfl
  · rw [if_pos (by decide), if_neg (by decide), if_neg (by decide), if_pos (by decide), wk3]
    by_cases h0 : st (t + 1) = 0
    · rw [if_pos h0, if_pos h0]
    · rw [if_neg h0, if_neg h0, hcd _ h0]
  · rw [if_pos (by decide), if_neg (by decide), if_pos (by decide), wk4]
    by_cases h0 : st (t + 1) = 0
    · rw [if_pos h0, if_pos h0]
    · rw [if_neg h0, if_neg h0, hcd _ h0]
  · rw [if_pos (by decide), if_pos (by decide), wk5]
    by_cases h0 : st (t + 1) ≤ st t
    · rw [if_pos h0, if_pos h0]
    · rw [if_neg h0, if_neg h0]
  · rw [if_pos (by decide), if_neg (by decide), if_neg (by decide), if_neg (by decide), if_neg (by decide), if_neg (by decide), if_neg (by decide), wk6]
    by_cases h0 : st t ≤ st (t + 1)
    · rw [if_pos h0, if_pos h0]
    · rw [if_neg h0, if_neg h0]
theorem p_law_b {n : Nat} {code : Nat → Int32} {la : Nat → Nat → Int32} {ht : Nat → Nat} {kn : Nat → Int32} (hn : n ≤ 150) (h : lawOk n code la ht) (h0 : ht 0 = 0) (h1 : ht n = 1) : ∀ (m i q : Nat) (st : Nat → Int32), i + m = n → m < q → ∃ st', f_X3_valueFor_b4 (nI n) code 8 kn q st (nI (ht i)) (nI i) = some ((evL la kn m i (stk st (ht i))).headD 0, st') := by
  intro m
  induction m with
  | zero =>
    intro i q st hi hq
    obtain ⟨q, rfl⟩ : ∃ r, q = r + 1 := ⟨q - 1, by omega⟩
    refine ⟨st, ?_⟩
    rw [f_X3_valueFor_b4, if_pos (nI_le (by omega) (by omega)), show i = n by omega, h1, if_neg (by decide), show nI 1 - 1 = nI 0 by decide, pu_ck (by omega) (by omega), nI_clamp (by omega), evL]
    rfl
  | succ m ih =>
    intro i q st hi hq
    obtain ⟨q, rfl⟩ : ∃ r, q = r + 1 := ⟨q - 1, by omega⟩
    have hh := ht_le h h0 i (by omega)
    rcases h i (by omega) with ⟨v, a1, a2, a3, a4, a5⟩ | ⟨v, a1, a2, a3, a4, a5⟩ | ⟨v, a1, a2, a4, a6, a5⟩
    · rw [f_X3_valueFor_b4, if_neg (nI_ge (by omega) (by omega)), pu_ck (by omega) (by omega), nI_clamp (by omega), a4, if_neg (fun h2 => absurd (Int32.lt_trans h2 (show (-8 : Int32) < 0 by decide)) (nI_pos (by omega))), if_neg (nI_pos (by omega)), f_X3_valueFor_b48, pu_ck (by omega) (by omega), nI_clamp (by omega), f_X3_valueFor_b233, nI_1, nI_1, ← a5, evL, a2, a3, stp0, ← stk_push st (nI v) (ht i), ← a5]
      exact ih (i + 1) q _ (by omega) (by omega)
    · obtain ⟨n1, n2, n3⟩ := nmI a1
      rw [f_X3_valueFor_b4, if_neg (nI_ge (by omega) (by omega)), pu_ck (by omega) (by omega), nI_clamp (by omega), a4, if_neg (by rw [n1]; exact id), if_pos (by rw [n2]; trivial), n3, pu_ck a1 (by omega), nI_clamp (by omega), f_X3_valueFor_b48, pu_ck (by omega) (by omega), nI_clamp (by omega), f_X3_valueFor_b233, nI_1, nI_1, ← a5, evL, a2, a3, stp1 a1, ← stk_push st (kn v) (ht i), ← a5]
      exact ih (i + 1) q _ (by omega) (by omega)
    · obtain ⟨t, ht2⟩ : ∃ t, ht i = t + 2 := ⟨ht i - 2, by omega⟩
      have ht3 : ht (i + 1) = t + 1 := by omega
      rw [ht2, p_law_op hn (by omega) a1 (by omega) a4 rfl, evL, a2, stk, stk, stp2 a1, ← stk_push st (wkI v (st t) (st (t + 1))) t, ← ht3]
      exact ih (i + 1) q _ (by omega) (by omega)
/-- what a law gives for the names' values: one number for both, whatever lies on the stacks -/
theorem PzL.val {l : CX3} {m : Int32} {la : Nat → Nat → Int32} (h : PzL l m la) : ∃ lv : (Nat → Int32) → Int32, (∀ kn st, ∃ st', f_X3_valueFor l.1 l.2.1 st 8 kn = some (lv kn, st')) ∧ (∀ kn st, ∃ st', f_X11_byLaw m st kn la = some (lv kn, st')) := by
  obtain ⟨n, hn, hm, ⟨rfl, h1, h2⟩ | ⟨h1, ht, h2, h3, h4⟩⟩ := h
  · refine ⟨fun _ => 1, fun kn st => ⟨upd st 0 1, ?_⟩, fun kn st => ⟨st, ?_⟩⟩
    · rw [f_X3_valueFor, show (4000 : Nat) = 3998 + 1 + 1 from rfl, pl0, f_X3_valueFor_b4, h1, if_neg (by decide), pu_ck (by omega) (by omega), nI_clamp (by omega), h2, if_neg (by decide), if_neg (by decide), f_X3_valueFor_b48, pu_ck (by omega) (by omega), nI_clamp (by omega), f_X3_valueFor_b233, f_X3_valueFor_b4, if_pos (by decide), if_neg (by decide)]
      rfl
    · rw [f_X11_byLaw, if_pos (by rw [hm]; rfl)]
  · by_cases hn0 : n = 0
    · subst hn0
      omega
    · refine ⟨fun kn => (evL la kn n 0 []).headD 0, fun kn st => ?_, fun kn st => ?_⟩
      · obtain ⟨st', e⟩ := p_law_b (kn := kn) hn h4 h2 h3 n 0 4000 st (by omega) (by omega)
        rw [h2, ← pl0] at e
        rw [h1]
        exact ⟨st', e⟩
      · obtain ⟨st', e⟩ := r_law_b (kn := kn) hn h4 h2 h3 n 0 4000 st (by omega) (by omega)
        rw [h2, ← pl0] at e
        rw [hm, f_X11_byLaw, if_neg (nI_ne0 (by omega) (by omega))]
        exact ⟨st', e⟩

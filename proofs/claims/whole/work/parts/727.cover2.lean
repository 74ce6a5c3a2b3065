/-! cover: the call -/
def cvF (ci : Nat → Nat) (cb told : Nat) : Nat → Nat → Option (Nat × Nat)
  | 0, _ => none
  | m + 1, i => match pzPk ci cb i 0 told 0 with
    | some t => some (i, t)
    | none => cvF ci cb told m (i + 1)
def cvI (o : Option (Nat × Nat)) (a : Nat) : Int32 := match o with
  | none => -1
  | some (i, t) => if a = 0 then nI i else nI t
theorem p_cover_b {v : Nat → Int32} {ci : Nat → Nat} {cb told a : Nat} (hcb : cb < 65536) (ht : told < 65536) (ha : a ≤ 1) (hv1 : ∀ i, i < 16 → v i = nI (ci i)) : ∀ (m i q : Nat), i + m = 5 → m < q → f_X1_fewestCircles_b38 q v (nI cb) (nI told) (nI a) (nI i) = some (cvI (cvF ci cb told m i) a, v) := by
  intro m
  induction m with
  | zero =>
    intro i q hi hq
    obtain ⟨q, rfl⟩ : ∃ r, q = r + 1 := ⟨q - 1, by omega⟩
    rw [f_X1_fewestCircles_b38, pl4, if_pos (nI_lt (by omega) (by omega)), cvF]
    rfl
  | succ m ih =>
    intro i q hi hq
    obtain ⟨q, rfl⟩ : ∃ r, q = r + 1 := ⟨q - 1, by omega⟩
    rw [f_X1_fewestCircles_b38, pl4, if_neg (nI_nlt (by omega) (by omega)), pl0, p_pick hcb hv1 i 9 0 told 0 (by omega) (by omega) (by omega) ht (Nat.pow_pos (by omega)), Option.bind_some, cvF, nI_1]
    cases h : pzPk ci cb i 0 told 0 with
    | some t =>
      have h7 := pzPk_lt ci cb i 0 told 0 t (by omega) (Nat.pow_pos (by omega)) h
      have h8 : ¬ pzOI (some t) = -1 := neg1_ne (by omega)
      rw [if_neg h8]
      by_cases h0 : a = 0
      · rw [if_pos (by rw [h0])]
        show some (nI i, v) = some (if a = 0 then nI i else nI t, v)
        rw [if_pos h0]
      · rw [if_neg (by rw [nI_eq (by omega) (by omega)]; exact h0)]
        show some (nI t, v) = some (if a = 0 then nI i else nI t, v)
        rw [if_neg h0]
    | none =>
      have h8 : pzOI none = -1 := rfl
      rw [if_pos h8]
      exact ih (i + 1) q (by omega) (by omega)
theorem p_fill_b {cb told a r : Nat} (hcb : cb < 65536) (ht : told < 65536) (ha : a ≤ 1) (hr : r < 100) : ∀ (m i q : Nat) (v : Nat → Int32), i + m = 16 → m < q → (∀ j, j < i → v j = nI (cirN (j % 4) (j / 4) r)) → ∃ v', f_X1_fewestCircles_b3 q v (nI cb) (nI told) (nI r) (nI a) (nI i) = some (cvI (cvF (fun i => cirN (i % 4) (i / 4) r) cb told 5 0) a, v') := by
  intro m
  induction m with
  | zero =>
    intro i q v hi hq hv1
    obtain ⟨q, rfl⟩ : ∃ r, q = r + 1 := ⟨q - 1, by omega⟩
    refine ⟨v, ?_⟩
    rw [f_X1_fewestCircles_b3, pl16, if_pos (nI_le (by omega) (by omega)), pl0]
    exact p_cover_b (ci := fun i => cirN (i % 4) (i / 4) r) hcb ht ha (fun j hj => hv1 j (by omega)) 5 0 4000 (by omega) (by omega)
  | succ m ih =>
    intro i q v hi hq hv1
    obtain ⟨q, rfl⟩ : ∃ r, q = r + 1 := ⟨q - 1, by omega⟩
    have e3 : nI i &&& 3 = nI (i % 4) := pk_andN (by omega) 2 (by rfl)
    have e2 : nI i >>> ((2 : Int32) &&& 31) = nI (i / 4) := pk_shrN (by omega) _ 2 (by rfl)
    rw [f_X1_fewestCircles_b3, pl16, if_neg (nI_ge (by omega) (by omega)), e3, e2, p_circle (by omega) (by omega) hr, Option.bind_some, pu_ck (by omega) (by omega), nI_clamp (by omega), nI_1]
    refine ih (i + 1) q _ (by omega) (by omega) (fun j hj => ?_)
    rw [upd]
    by_cases e : j = i
    · rw [if_pos e, e]
    · rw [if_neg e]
      exact hv1 j (by omega)
def cvZ (o : Option (Nat × Nat)) (z : Int32) : Int32 := match o with
  | none => z
  | some (_, t) => nI t
theorem r_cover_b {W H : Nat → Nat} {s : CX6} {to v : Nat → Int32} {pa : Nat → Nat → Int32} {p r told a : Nat} (hN : PzN W H s pa p) (hp : p < 5) (hr : r < 100) (ht : told < 65536) (ht2 : told &&& pzcb (W p) (H p) = told) (ha : a ≤ 1) : ∀ (m i q : Nat) (z : Int32), i + m = 5 → m < q → f_X11_cover_b75 to pa q 0 z v (nI p) (nI told) (nI r) (nI a) (nI i) = some (cvI (cvF (fun i => cirN (i % 4) (i / 4) r) (pzcb (W p) (H p)) told m i) a, 0, cvZ (cvF (fun i => cirN (i % 4) (i / 4) r) (pzcb (W p) (H p)) told m i) z, v) := by
  intro m
  induction m with
  | zero =>
    intro i q z hi hq
    obtain ⟨q, rfl⟩ : ∃ r, q = r + 1 := ⟨q - 1, by omega⟩
    rw [f_X11_cover_b75, pl5, if_pos (nI_le (by omega) (by omega)), cvF]
    rfl
  | succ m ih =>
    intro i q z hi hq
    obtain ⟨q, rfl⟩ : ∃ r, q = r + 1 := ⟨q - 1, by omega⟩
    have e := r_pick hN hp hr i 9 0 told 0 z (by omega) (by omega) (by omega) ht ht2 (Nat.pow_pos (by omega))
    rw [← pl0] at e
    rw [f_X11_cover_b75, pl5, if_neg (nI_ge (by omega) (by omega)), e, Option.bind_some, cvF, nI_1]
    cases h : pzPk (fun i => cirN (i % 4) (i / 4) r) (pzcb (W p) (H p)) i 0 told 0 with
    | some t =>
      rw [if_neg (show ¬ ((1 : Int32) = 0) by decide)]
      by_cases h0 : a = 0
      · rw [if_pos (by rw [h0]; rfl)]
        show some (nI i, 0, nI t, v) = some (if a = 0 then nI i else nI t, 0, nI t, v)
        rw [if_pos h0]
      · rw [if_neg (nI_ne0 (by omega) (by omega))]
        show some (nI t, 0, nI t, v) = some (if a = 0 then nI i else nI t, 0, nI t, v)
        rw [if_neg h0]
    | none =>
      rw [if_pos (show (0 : Int32) = 0 from rfl)]
      exact ih (i + 1) q z (by omega) (by omega)
theorem a_cover {C : CS} {R : RS} (hc : PzC C R) (x1 x2 x3 x4 : Int32) :
    (∃ r z0 y0, fC_cover C x1 x2 x3 x4 = some (0, r, C.v15, z0) ∧ fR_cover R x1 x2 x3 x4 = some (r, 0, y0, R.v10)) ∨
    (∃ z0 y0, fC_cover C x1 x2 x3 x4 = some (2, 0, upd C.v15 1 (C.v15 1 + 1), z0) ∧ fR_cover R x1 x2 x3 x4 = some (0, 1, y0, upd R.v10 1 (R.v10 1 + 1))) ∨
    (∃ z0 y0, fC_cover C x1 x2 x3 x4 = some (1, 0, upd C.v15 2 (C.v15 2 + 1), z0) ∧ fR_cover R x1 x2 x3 x4 = some (0, 2, y0, upd R.v10 2 (R.v10 2 + 1))) := by
  obtain ⟨np, no, hd, W, H, hS, ⟨dp, fd, dy, hG⟩, -⟩ := hc
  rcases pz_pane hS C.v15 x1 with ⟨h1, h2⟩ | ⟨p, hp, hp5, rfl, h1, h2⟩
  · exact .inr (.inl ⟨C.g.2.2.2, R.i40, by simp -implicitDefEqProofs only [Option.bind_some, pz10, if_true, if_false, eq_self, ↓reduceIte, r_bad0, r_A1, r_A2, r_B1, r_B2, r_B3, r_C1, fC_cover, f_X10_cover, h1]; rfl, by simp -implicitDefEqProofs only [Option.bind_some, pz10, if_true, if_false, eq_self, ↓reduceIte, r_bad0, r_A1, r_A2, r_B1, r_B2, r_B3, r_C1, fR_cover, f_X11_cover, h2, f_X11_cover_b19]⟩)
  · have hN := hS.2.2.2.2.2.2.2.2.2.1 p hp
    rcases pz_cells hN hp5 C.v15 x2 with ⟨h3, h4⟩ | ⟨k, hk, rfl, hk2, h3, h4⟩
    · exact .inr (.inr ⟨C.g.2.2.2, R.i40, by simp -implicitDefEqProofs only [Option.bind_some, pz10, if_true, if_false, eq_self, ↓reduceIte, r_bad0, r_A1, r_A2, r_B1, r_B2, r_B3, r_C1, fC_cover, f_X10_cover, h1, h3]; rfl, by simp -implicitDefEqProofs only [Option.bind_some, pz10, if_true, if_false, eq_self, ↓reduceIte, r_bad0, r_A1, r_A2, r_B1, r_B2, r_B3, r_C1, fR_cover, f_X11_cover, h2, f_X11_cover_b19, f_X11_cover_b57, f_X11_cover_b62, h4]⟩)
    · rcases pz_ix2 x3 (n := 6) (by omega) with hb | ⟨r, hr, rfl⟩
      · have hrr := r_inNo hb
        rw [← pl6] at hb hrr
        refine .inr (.inr ⟨C.g.2.2.2, R.i40, ?_, by simp -implicitDefEqProofs only [Option.bind_some, pz10, if_true, if_false, eq_self, ↓reduceIte, r_bad0, r_A1, r_A2, r_B1, r_B2, r_B3, r_C1, fR_cover, f_X11_cover, h2, f_X11_cover_b19, f_X11_cover_b57, f_X11_cover_b62, h4, hrr]⟩)
        by_cases h0 : x3 < 0
        · simp -implicitDefEqProofs only [Option.bind_some, pz10, if_true, if_false, eq_self, ↓reduceIte, r_bad0, r_A1, r_A2, r_B1, r_B2, r_B3, r_C1, fC_cover, f_X10_cover, h1, h3, h0, f_X10_cover_b26, f_X10_cover_b27, p_need0]
          rfl
        · rcases hb with hb | hb
          · exact absurd hb h0
          · simp -implicitDefEqProofs only [Option.bind_some, pz10, if_true, if_false, eq_self, ↓reduceIte, r_bad0, r_A1, r_A2, r_B1, r_B2, r_B3, r_C1, fC_cover, f_X10_cover, h1, h3, h0, hb, f_X10_cover_b26, f_X10_cover_b27, p_need0]
            rfl
      · have hrr := r_inOk (Nat.zero_le r) hr (by omega)
        rw [← pl0, ← pl6] at hrr
        have hl : ¬ nI r < 0 := nI_pos (by omega)
        have hl2 : ¬ (6 : Int32) < nI r := nI_nlt (a := 6) hr (by omega)
        rcases pz_what C.v15 x4 1 (by omega) with ⟨h5, h6⟩ | ⟨a, ha, rfl, h5, h6⟩
        · rw [← pl1] at h5 h6
          exact .inr (.inr ⟨C.g.2.2.2, R.i40, by simp -implicitDefEqProofs only [Option.bind_some, pz10, if_true, if_false, eq_self, ↓reduceIte, r_bad0, r_A1, r_A2, r_B1, r_B2, r_B3, r_C1, fC_cover, f_X10_cover, h1, h3, hl, hl2, f_X10_cover_b27, p_need1, h5]; rfl, by simp -implicitDefEqProofs only [Option.bind_some, pz10, if_true, if_false, eq_self, ↓reduceIte, r_bad0, r_A1, r_A2, r_B1, r_B2, r_B3, r_C1, fR_cover, f_X11_cover, h2, f_X11_cover_b19, f_X11_cover_b57, f_X11_cover_b62, h4, hrr, h6]⟩)
        · rw [← pl1] at h5 h6
          have hcb := pzcb_lt (W p) hN.1.2 (H p) hN.2.1.2
          obtain ⟨v', e1⟩ := p_fill_b (cb := pzcb (W p) (H p)) (told := k) (a := a) (r := r) hcb hk ha (by omega) 16 0 4000 C.g.2.2.2 (by omega) (by omega) (fun j hj => absurd hj (by omega))
          have e2 := r_cover_b (to := R.v12) (v := R.v10) hN hp5 (show r < 100 by omega) hk hk2 ha 5 0 4000 R.i40 (by omega) (by omega)
          rw [← pl0] at e1 e2
          refine .inl ⟨_, v', _, ?_, by simp -implicitDefEqProofs only [Option.bind_some, pz10, if_true, if_false, eq_self, ↓reduceIte, r_bad0, r_A1, r_A2, r_B1, r_B2, r_B3, r_C1, fR_cover, f_X11_cover, h2, f_X11_cover_b19, f_X11_cover_b62, h4, hrr, h6]; exact e2⟩
          have hk : ∀ t : Int32, t = nI a → f_X10_cover_b63 C.s1.1 C.s1.2.2.2.2.2.2.2.2.2.2.1 C.v15 C.g.2.2.2 (nI (pzcb (W p) (H p))) (nI k) (nI r) t = some (0, cvI (cvF (fun i => cirN (i % 4) (i / 4) r) (pzcb (W p) (H p)) k 5 0) a, C.v15, v') := by
            intro t ht
            rw [ht, f_X10_cover_b63, f_X1_fewestCircles, e1]
            rfl
          simp -implicitDefEqProofs only [Option.bind_some, pz10, if_true, if_false, eq_self, ↓reduceIte, r_bad0, r_A1, r_A2, r_B1, r_B2, r_B3, r_C1, fC_cover, f_X10_cover, h1, h3, hl, hl2, f_X10_cover_b27, p_need1, h5]
          rw [pu_ck hp5 (by omega), nI_clamp (by omega), hN.2.2.2.2.2.2.2.2]
          have ha2 : a = 0 ∨ a = 1 := by omega
          rcases ha2 with rfl | rfl
          · rw [if_neg (by decide)]
            exact hk 0 rfl
          · rw [if_pos (by decide)]
            exact hk 1 rfl
theorem q_cover {L i : Nat} {C : CS} {R : RS} {cells slots : Nat} (h : PzInv L i C R cells slots) (hi : i + 7 ≤ L) (x1 x2 x3 x4 : Int32) : pS_cover (PzInv L (i + 7)) C R x1 x2 x3 x4 cells slots := by
  rcases a_cover h.2.1 x1 x2 x3 x4 with ⟨r, z0, y0, h1, h2⟩ | ⟨z0, y0, h1, h2⟩ | ⟨z0, y0, h1, h2⟩
  · exact ⟨(0, r, C.v15, z0), (r, 0, y0, R.v10), h1, h2, .inl rfl, rfl, fun _ => rfl, pz_fit h (by omega) (by omega), h.keep hi (by omega) (by omega) h.1⟩
  · exact ⟨(2, 0, upd C.v15 1 (C.v15 1 + 1), z0), (0, 1, y0, upd R.v10 1 (R.v10 1 + 1)), h1, h2, .inr (.inl rfl), rfl, fun _ => rfl, pz_fit h (by omega) (by omega), h.keep hi (by omega) (by omega) h.1.up⟩
  · exact ⟨(1, 0, upd C.v15 2 (C.v15 2 + 1), z0), (0, 2, y0, upd R.v10 2 (R.v10 2 + 1)), h1, h2, .inr (.inr rfl), rfl, fun _ => rfl, pz_fit h (by omega) (by omega), h.keep hi (by omega) (by omega) h.1.up⟩

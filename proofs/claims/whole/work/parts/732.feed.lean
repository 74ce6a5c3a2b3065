/-! feed -/
theorem by8 (y : Int32) : (y &&& 255).toInt8.toInt32 = y.toInt8.toInt32 := by
  have h : (y &&& 255).toInt8 = y.toInt8 := by
    apply Int8.toBitVec_inj.mp
    rw [Int32.toBitVec_toInt8, Int32.toBitVec_toInt8]
    rw [BitVec.signExtend_eq_setWidth_of_le _ (by omega), BitVec.signExtend_eq_setWidth_of_le _ (by omega)]
    apply BitVec.eq_of_getLsbD_eq
    intro i hi
    rw [BitVec.getLsbD_setWidth, BitVec.getLsbD_setWidth, Int32.toBitVec_and, BitVec.getLsbD_and]
    have : ∀ i, i < 8 → (255 : Int32).toBitVec.getLsbD i = true := by decide
    rw [this i hi, Bool.and_true]
  rw [h]
theorem by8i (z : Int32) : (z.toInt8.toInt32).toInt8.toInt32 = z.toInt8.toInt32 := by
  rw [Int8.toInt8_toInt32]
theorem p_put {n : Nat} (hn : n + 4 ≤ 600) (v : Nat → Int32) (x : Int32) : ∃ v', f_X7_put (nI n) v x = some (nI (n + 4), v') ∧ ∀ j, v' j = if n ≤ j ∧ j < n + 4 then (x >>> (nI (24 - 8 * (j - n)) &&& 31)).toInt8.toInt32 else v j := by
  have hstep : ∀ (q s k : Nat) (v : Nat → Int32), s < 100 → k < 600 → f_X7_put_b3 (q + 1) (nI k) v x (nI s) = f_X7_put_b3 q (nI (k + 1)) (upd v k (x >>> (nI s &&& 31)).toInt8.toInt32) x (nI s + (-8)) := by
    intro q s k v hs hk
    rw [f_X7_put_b3, if_neg (nI_pos (by omega)), pl600, if_neg (nI_ge hk (by omega)), pu_ck hk (by omega), nI_clamp (by omega), nI_1, vp_nar_byte, by8i]
  refine ⟨upd (upd (upd (upd v n (x >>> (nI 24 &&& 31)).toInt8.toInt32) (n + 1) (x >>> (nI 16 &&& 31)).toInt8.toInt32) (n + 2) (x >>> (nI 8 &&& 31)).toInt8.toInt32) (n + 3) (x >>> (nI 0 &&& 31)).toInt8.toInt32, ?_, ?_⟩
  · rw [f_X7_put, show (4000 : Nat) = 3999 + 1 from rfl, pl24, hstep 3999 24 n v (by omega) (by omega), show (3999 : Nat) = 3998 + 1 from rfl, show nI 24 + (-8) = nI 16 by decide, hstep 3998 16 (n + 1) _ (by omega) (by omega), show (3998 : Nat) = 3997 + 1 from rfl, show nI 16 + (-8) = nI 8 by decide, hstep 3997 8 (n + 1 + 1) _ (by omega) (by omega), show (3997 : Nat) = 3996 + 1 from rfl, show nI 8 + (-8) = nI 0 by decide, hstep 3996 0 (n + 1 + 1 + 1) _ (by omega) (by omega), show (3996 : Nat) = 3995 + 1 from rfl, f_X7_put_b3, if_pos (by decide)]
  · intro j
    simp only [upd]
    by_cases h0 : j = n + 3
    · rw [if_pos h0, if_pos (by omega), show 24 - 8 * (j - n) = 0 by omega]
    · rw [if_neg h0]
      by_cases h1 : j = n + 2
      · rw [if_pos h1, if_pos (by omega), show 24 - 8 * (j - n) = 8 by omega]
      · rw [if_neg h1]
        by_cases h2 : j = n + 1
        · rw [if_pos h2, if_pos (by omega), show 24 - 8 * (j - n) = 16 by omega]
        · rw [if_neg h2]
          by_cases h3 : j = n
          · rw [if_pos h3, if_pos (by omega), show 24 - 8 * (j - n) = 24 by omega]
          · rw [if_neg h3, if_neg (by omega)]
def wv (a b c d e : Int32) (k : Nat) : Int32 := if k < 4 then a else if k < 8 then b else if k < 12 then c else if k < 16 then d else e
theorem r_feed_b {a b c d e : Int32} {n : Nat} (hn : n + 20 ≤ 600) : ∀ (m i q : Nat) (v : Nat → Int32), i + m = 20 → m < q → ∃ v', f_X11_feed_b23 q 0 (nI (n + i)) v a b c d e (nI i) = some (nI (n + 20), 0, nI (n + 20), v') ∧ ∀ j, v' j = if n + i ≤ j ∧ j < n + 20 then (wv a b c d e (j - n) >>> (nI (24 - 8 * ((j - n) % 4)) &&& 31)) &&& 255 else v j := by
  intro m
  induction m with
  | zero =>
    intro i q v hi hq
    obtain ⟨q, rfl⟩ : ∃ r, q = r + 1 := ⟨q - 1, by omega⟩
    refine ⟨v, ?_, fun j => by rw [if_neg (by omega)]⟩
    rw [f_X11_feed_b23, pl20, if_pos (nI_le (by omega) (by omega)), show n + i = n + 20 by omega]
  | succ m ih =>
    intro i q v hi hq
    obtain ⟨q, rfl⟩ : ∃ r, q = r + 1 := ⟨q - 1, by omega⟩
    have h76 : ∀ t0 : Int32, t0 = wv a b c d e i → ∃ v', f_X11_feed_b76 (f_X11_feed_b23 q) 0 (nI (n + i)) v a b c d e (nI i) t0 = some (nI (n + 20), 0, nI (n + 20), v') ∧ ∀ j, v' j = if n + i ≤ j ∧ j < n + 20 then (wv a b c d e (j - n) >>> (nI (24 - 8 * ((j - n) % 4)) &&& 31)) &&& 255 else v j := by
      intro t0 ht
      obtain ⟨v', h1, h2⟩ := ih (i + 1) q (upd v (n + i) ((t0 >>> (nI (24 - 8 * (i % 4)) &&& 31)) &&& 255)) (by omega) (by omega)
      refine ⟨v', ?_, fun j => ?_⟩
      · rw [f_X11_feed_b76, pu_ck (by omega) (by omega), nI_clamp (by omega), nI_1, pl4, pk_rem (by omega) (by omega) (by omega), pl8, pk_mul, pl24, pk_sub (by omega), nI_1]
        exact h1
      · rw [h2 j, upd]
        by_cases e1 : j = n + i
        · rw [if_neg (by omega), if_pos e1, if_pos (by omega), ht, show j - n = i by omega]
        · rw [if_neg e1]
          by_cases e2 : n + i ≤ j ∧ j < n + 20
          · rw [if_pos (by omega), if_pos e2]
          · rw [if_neg (by omega), if_neg e2]
    rw [f_X11_feed_b23, pl20, if_neg (nI_ge (by omega) (by omega))]
    by_cases k4 : i < 4
    · rw [pl4, if_neg (nI_ge k4 (by omega))]
      exact h76 a (by rw [wv, if_pos k4])
    · rw [pl4, if_pos (nI_le (by omega) (by omega))]
      by_cases k8 : i < 8
      · rw [pl8, if_neg (nI_ge k8 (by omega))]
        exact h76 b (by rw [wv, if_neg k4, if_pos k8])
      · rw [pl8, if_pos (nI_le (by omega) (by omega))]
        by_cases k12 : i < 12
        · rw [pl12, if_neg (nI_ge k12 (by omega))]
          exact h76 c (by rw [wv, if_neg k4, if_neg k8, if_pos k12])
        · rw [pl12, if_pos (nI_le (by omega) (by omega))]
          by_cases k16 : i < 16
          · rw [pl16, if_neg (nI_ge k16 (by omega))]
            exact h76 d (by rw [wv, if_neg k4, if_neg k8, if_neg k12, if_pos k16])
          · rw [pl16, if_pos (nI_le (by omega) (by omega))]
            exact h76 e (by rw [wv, if_neg k4, if_neg k8, if_neg k12, if_neg k16])
theorem feed_agree {t : CX7} {m pl : Int32} {fe : Nat → Int32} (hT : PzT t m pl fe) (a b c d e : Int32) : ∃ r n by' fe', f_X10_feed t.1 t.2.2.2.2.2.2.2.2 a b c d e = some (r, n, by') ∧ f_X11_feed 0 m fe a b c d e = some (r, 0, n, fe') ∧ PzT (n, t.2.1, t.2.2.1, t.2.2.2.1, t.2.2.2.2.1, t.2.2.2.2.2.1, t.2.2.2.2.2.2.1, t.2.2.2.2.2.2.2.1, by') n pl fe' := by
  obtain ⟨n, hn, h1, h2, h3, h4⟩ := hT
  rw [f_X10_feed, f_X11_feed, h1, h2, f_X7_hasRoom, pl20, nI_add, pl600]
  by_cases h0 : n + 20 ≤ 600
  · obtain ⟨v1, a1, a2⟩ := p_put (n := n) (by omega) t.2.2.2.2.2.2.2.2 a
    obtain ⟨v2, b1, b2⟩ := p_put (n := n + 4) (by omega) v1 b
    obtain ⟨v3, c1, c2⟩ := p_put (n := n + 4 + 4) (by omega) v2 c
    obtain ⟨v4, d1, d2⟩ := p_put (n := n + 4 + 4 + 4) (by omega) v3 d
    obtain ⟨v5, e1, e2⟩ := p_put (n := n + 4 + 4 + 4 + 4) (by omega) v4 e
    obtain ⟨fe', g1, g2⟩ := r_feed_b (a := a) (b := b) (c := c) (d := d) (e := e) h0 20 0 4000 fe (by omega) (by omega)
    refine ⟨nI (n + 20), nI (n + 20), v5, fe', ?_, ?_, n + 20, by omega, rfl, rfl, h3, fun j hj => ?_⟩
    · rw [if_neg (nI_nlt h0 (by omega)), Option.bind_some, if_neg (by decide), a1, Option.bind_some]
      simp -implicitDefEqProofs only [b1, c1, d1, e1, Option.bind_some]
    · rw [if_pos (nI_le h0 (by omega))]
      rw [← pl0, Nat.add_zero] at g1
      exact g1
    · by_cases hj2 : j < n
      · obtain ⟨b0, k1, k2, k3⟩ := h4 j hj2
        refine ⟨b0, k1, ?_, ?_⟩
        · rw [g2 j, if_neg (by omega)]
          exact k2
        · show v5 j = _
          rw [e2 j, if_neg (by omega), d2 j, if_neg (by omega), c2 j, if_neg (by omega), b2 j, if_neg (by omega), a2 j, if_neg (by omega)]
          exact k3
      · have ef : fe' j = (wv a b c d e (j - n) >>> (nI (24 - 8 * ((j - n) % 4)) &&& 31)) &&& 255 := by
          rw [g2 j, if_pos (by omega)]
        have eb : v5 j = (wv a b c d e (j - n) >>> (nI (24 - 8 * ((j - n) % 4)) &&& 31)).toInt8.toInt32 := by
          rw [e2 j]
          by_cases q5 : n + 16 ≤ j
          · rw [if_pos (by omega), wv, if_neg (by omega), if_neg (by omega), if_neg (by omega), if_neg (by omega), show j - (n + 4 + 4 + 4 + 4) = (j - n) % 4 by omega]
          · rw [if_neg (by omega), d2 j]
            by_cases q4 : n + 12 ≤ j
            · rw [if_pos (by omega), wv, if_neg (by omega), if_neg (by omega), if_neg (by omega), if_pos (by omega), show j - (n + 4 + 4 + 4) = (j - n) % 4 by omega]
            · rw [if_neg (by omega), c2 j]
              by_cases q3 : n + 8 ≤ j
              · rw [if_pos (by omega), wv, if_neg (by omega), if_neg (by omega), if_pos (by omega), show j - (n + 4 + 4) = (j - n) % 4 by omega]
              · rw [if_neg (by omega), b2 j]
                by_cases q2 : n + 4 ≤ j
                · rw [if_pos (by omega), wv, if_neg (by omega), if_pos (by omega), show j - (n + 4) = (j - n) % 4 by omega]
                · rw [if_neg (by omega), a2 j, if_pos (by omega), wv, if_pos (by omega), show j - n = (j - n) % 4 by omega, Nat.mod_mod]
        have ek := pk_and (wv a b c d e (j - n) >>> (nI (24 - 8 * ((j - n) % 4)) &&& 31)) (m := 255) 8 (by rfl)
        refine ⟨_, Nat.mod_lt _ (by omega), ef.trans ek, ?_⟩
        show v5 j = _
        rw [← ek, by8, eb]
  · refine ⟨-1, nI n, t.2.2.2.2.2.2.2.2, fe, ?_, ?_, n, hn, rfl, rfl, h3, h4⟩
    · rw [if_pos (nI_lt (by omega) (by omega))]
      rfl
    · rw [if_neg (nI_ge (by omega) (by omega))]
theorem q_feed {L i : Nat} {C : CS} {R : RS} {cells slots : Nat} (h : PzInv L i C R cells slots) (hi : i + 7 ≤ L) (x1 x2 x3 x4 x5 : Int32) : pS_feed (PzInv L (i + 7)) C R x1 x2 x3 x4 x5 cells slots := by
  obtain ⟨np, no, hd, W, H, hS, hG, hL, hB, hT, hr⟩ := id h.2.1
  obtain ⟨r, n, v', fe', e1, e2, e3⟩ := feed_agree hT x1 x2 x3 x4 x5
  have hk := h.keep (a := 0) (b := 0) hi (by omega) (by omega) h.1
  exact ⟨(r, n, v'), (r, 0, n, fe'), e1, e2, rfl, pz_fit h (by omega) (by omega), hk.1, ⟨np, no, hd, W, H, hS, hG, hL, hB, e3, hr⟩, hk.2.2⟩

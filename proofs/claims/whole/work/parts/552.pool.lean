def nulN (B : Nat → Option Nat) : Nat → Nat
  | 0 => 0
  | k + 1 => nulN B k + (if (B k).isSome then 0 else 1)
theorem nulN_le (B : Nat → Option Nat) {i k : Nat} (h : i ≤ k) : nulN B i ≤ nulN B k := by
  induction k with
  | zero => rw [Nat.le_zero.mp h]; exact Nat.le_refl _
  | succ k ih =>
    by_cases e : i = k + 1
    · rw [e]; exact Nat.le_refl _
    · exact Nat.le_trans (ih (by omega)) (Nat.le_add_right _ _)
/-- what the loop of copy has done below i -/
def cpOk (B B' : Nat → Option Nat) (G G1 G' : Nat → GC) (i : Nat) : Prop := ∀ j, (j < i → (B' j).isSome = true ∧ ∃ h, G' j = g_cp h (G1 j)) ∧ (i ≤ j → B' j = B j ∧ G' j = G j)
theorem cpOk_step {B B' : Nat → Option Nat} {G G1 G' : Nat → GC} {i b : Nat} {g : GC} (h : cpOk B B' G G1 G' i) : cpOk B (va_up B' i (some b)) G G1 (va_up G' i (g_cp g (G1 i))) (i + 1) := by
  intro j
  refine ⟨fun hj => ?_, fun hj => ?_⟩
  · by_cases e : j = i
    · subst e
      rw [va_up_self, va_up_self]
      exact ⟨rfl, g, rfl⟩
    · rw [va_up_ne _ _ e, va_up_ne _ _ e]
      exact (h j).1 (by omega)
  · rw [va_up_ne _ _ (by omega), va_up_ne _ _ (by omega)]
    exact (h j).2 (by omega)
abbrev rm_X4_copy (n : Nat) : Room := { frames := 3, cells := 4 * n, slots := 2689 * n, locals := 120 }
noncomputable abbrev sC4 (cs : Nat → ClassId) (a0 : Nat) (p0 : Nat → Nat) (i2 : Int32) (B : Nat → Option Nat) (pn : Nat → Nat) (gn : GC) (Q : Nat → Nat → Nat) (G : Nat → GC) (a1 : Nat) (p1 : Nat → Nat) (j2 : Int32) (B1 : Nat → Option Nat) (pm : Nat → Nat) (gm : GC) (Q1 : Nat → Nat → Nat) (G1 : Nat → GC) : List va_W := [wS4 cs a0 p0 i2 B, wG cs (p0 0) pn gn, gPool cs B Q G, wS4 cs a1 p1 j2 B1, wG cs (p1 0) pm gm, gPool cs B1 Q1 G1]
abbrev MO {S : Type} (l : Launch) (D : va_G) (cs : Nat → ClassId) (y : MethodName) (ws : List Cond) (rm : Room) (av : List Value) (sz : Nat) (sg : List va_W) (ok : S → Prop) (sg' : S → List va_W) (mc ms : Nat) : Prop := Met l y ws rm (pN D cs av sz sg.flatten) (va_Qv ok (fun u t => va_P D vwCl (sg' u).flatten t.heap ∧ va_D (va_A sg.flatten sz) (sg' u).flatten) (va_A sg.flatten sz)) mc ms (va_A sg.flatten sz)
set_option maxHeartbeats 4000000 in
set_option maxRecDepth 100000 in
theorem c_X4_copy (l : Launch) (D : va_G) (cs : Nat → ClassId) (sz a0 : Nat) (p0 : Nat → Nat) (i2 : Int32) (B : Nat → Option Nat) (pn : Nat → Nat) (gn : GC) (Q : Nat → Nat → Nat) (G : Nat → GC) (a1 : Nat) (p1 : Nat → Nat) (k : Nat) (hk : k ≤ 8) (B1 : Nat → Option Nat) (hB1 : ∀ i, i < k → (B1 i).isSome = true) (pm : Nat → Nat) (gm : GC) (Q1 : Nat → Nat → Nat) (G1 : Nat → GC) :
    MO l D cs yX4_copy wsX4_copy (rm_X4_copy (nulN B k)) [.ref a0, .ref a1] sz (sC4 cs a0 p0 i2 B pn gn Q G a1 p1 (nI k) B1 pm gm Q1 G1) (fun (u : (Nat → Option Nat) × (Nat → Nat → Nat) × (Nat → GC)) => cpOk B u.1 G G1 u.2.2 k) (fun u => sC4 cs a0 p0 (nI k) u.1 pn (g_cp gn gm) u.2.1 u.2.2 a1 p1 (nI k) B1 pm gm Q1 G1) (4 * nulN B k) (2689 * nulN B k) := by
  refine ow_enterN (y := yX4_copy) (ws := wsX4_copy) (av := [.ref a0, .ref a1]) (sz := sz) (w := (sC4 cs a0 p0 i2 B pn gn Q G a1 p1 (nI k) B1 pm gm Q1 G1).flatten) (Qc := fun sz => va_Qv (fun (u : (Nat → Option Nat) × (Nat → Nat → Nat) × (Nat → GC)) => cpOk B u.1 G G1 u.2.2 k) (fun u t => va_P D vwCl (sC4 cs a0 p0 (nI k) u.1 pn (g_cp gn gm) u.2.1 u.2.2 a1 p1 (nI k) B1 pm gm Q1 G1).flatten t.heap ∧ va_D (va_A (sC4 cs a0 p0 i2 B pn gn Q G a1 p1 (nI k) B1 pm gm Q1 G1).flatten sz) (sC4 cs a0 p0 (nI k) u.1 pn (g_cp gn gm) u.2.1 u.2.2 a1 p1 (nI k) B1 pm gm Q1 G1).flatten) (va_A (sC4 cs a0 p0 i2 B pn gn Q G a1 p1 (nI k) B1 pm gm Q1 G1).flatten sz)) (cc := cX4_copy) (nL := 3) (ret := none) (by decide) rfl (Nat.le_of_ble_eq_true rfl) (fun p e s m below meth c ls H locs C0 hN hnm hP hD hS hA hl => ?_)
  obtain ⟨hx, hb, hr, hlk, hml, hown, hts, hK, hG, hE⟩ := id C0
  have hl : lv_has ls 3 [(0, .ref a0), (1, .ref a1)] := hl
  revert hP hD hS
  generalize hw0 : (sC4 cs a0 p0 i2 B pn gn Q G a1 p1 (nI k) B1 pm gm Q1 G1).flatten = w0 at C0 hA ⊢
  intro hP hD hS
  have hP : va_P D vwCl (sC4 cs a0 p0 i2 B pn gn Q G a1 p1 (nI k) B1 pm gm Q1 G1).flatten H := by rw [hw0]; exact hP
  have hD : va_D (va_A w0 s.heap.size) (sC4 cs a0 p0 i2 B pn gn Q G a1 p1 (nI k) B1 pm gm Q1 G1).flatten := by rw [hw0]; exact hD
  have loop : ∀ (d i : Nat) (B' : Nat → Option Nat) (Q' : Nat → Nat → Nat) (G' : Nat → GC) (ls : Array Slot) (H : Heap) (locs : List Loc), i + d = k → cpOk B B' G G1 G' i → va_P D vwCl (sC4 cs a0 p0 (nI k) B' pn (g_cp gn gm) Q' G' a1 p1 (nI k) B1 pm gm Q1 G1).flatten H → va_D (va_A w0 s.heap.size) (sC4 cs a0 p0 (nI k) B' pn (g_cp gn gm) Q' G' a1 p1 (nI k) B1 pm gm Q1 G1).flatten → va_S (va_A w0 s.heap.size) s.heap H locs → lv_has ls 3 [(0, .ref a0), (1, .ref a1), (2, .int (nI i))] →
      W p l e (rm_X4_copy (nulN B k)) s m [Value.ref a0, Value.ref a1].toArray below meth c H locs (4 * nulN B i) (2689 * nulN B i) (MQ below (va_Qv (fun (u : (Nat → Option Nat) × (Nat → Nat → Nat) × (Nat → GC)) => cpOk B u.1 G G1 u.2.2 k) (fun u t => va_P D vwCl (sC4 cs a0 p0 (nI k) u.1 pn (g_cp gn gm) u.2.1 u.2.2 a1 p1 (nI k) B1 pm gm Q1 G1).flatten t.heap ∧ va_D (va_A w0 s.heap.size) (sC4 cs a0 p0 (nI k) u.1 pn (g_cp gn gm) u.2.1 u.2.2 a1 p1 (nI k) B1 pm gm Q1 G1).flatten) (va_A w0 s.heap.size)) [Value.ref a0, Value.ref a1].toArray s (4 * nulN B k) (2689 * nulN B k) (va_A w0 s.heap.size)) (F0 m 21 ls []) := by
    intro d
    induction d with
    | zero =>
      intro i B' Q' G' ls H locs hi hok hP hD hS hl
      have e : i = k := by omega
      subst e
      refine lv_iload_n hx hb dX4_copy_21 rfl (lv_at hl 2 rfl) ?_
      refine lv_aload_n hx hb dX4_copy_22 rfl (lv_at hl 0 rfl) ?_
      refine va_get (D := D) (ci := 4) (v := .int (nI i)) (C := RX4) (T := TX4) (N := 3) hx hb hts in_X4_copy_X4 hown hK hP 0 rfl rfl 2 (by decide) (hts (.fieldLink RX4 25 "PaneDays$Past" "works" "I") (by decide +kernel)) (fun _ h9 => h9) rfl dX4_copy_23 ?_
      refine lv_icmp_ge (tgt := 48) hx hb dX4_copy_26 (by decide) (fun hc => ?_) (fun hc => absurd (Int32.le_refl _) hc)
      exact W.vret hx hb hr (fun t ht hW => ⟨⟨(B', Q', G'), rfl, hok, by rw [ht]; exact hP, hD⟩, hS.F ht⟩) hS.2.2 dX4_copy_48 hlk
    | succ d ih =>
      intro i B' Q' G' ls H locs hi hok hP hD hS hl
      have hik : i < k := by omega
      have hi8 : i < 8 := by omega
      have hin : vp_in (nI i) 8 := vp_in_nI hi8 (by decide)
      have hcl : (nI i).toNatClampNeg = i := nI_clamp (by omega)
      have hlek := nulN_le B (show i + 1 ≤ k from hik)
      have hstep : nulN B (i + 1) = nulN B i + (if (B i).isSome then 0 else 1) := rfl
      obtain ⟨b1, hb1⟩ := Option.isSome_iff_exists.mp (hB1 i hik)
      have tail : ∀ (b : Nat) (q : Nat → Nat) (g : GC) (cells slots : Nat) (H : Heap) (locs : List Loc), cells ≤ 4 * nulN B (i + 1) → slots ≤ 2689 * nulN B (i + 1) → va_P D vwCl [wS4 cs a0 p0 (nI k) (va_up B' i (some b)), wG cs (p0 0) pn (g_cp gn gm), wG cs b q g, gPoolR cs B' Q' G' i, wS4 cs a1 p1 (nI k) B1, wG cs (p1 0) pm gm, gPool cs B1 Q1 G1].flatten H → va_D (va_A w0 s.heap.size) [wS4 cs a0 p0 (nI k) (va_up B' i (some b)), wG cs (p0 0) pn (g_cp gn gm), wG cs b q g, gPoolR cs B' Q' G' i, wS4 cs a1 p1 (nI k) B1, wG cs (p1 0) pm gm, gPool cs B1 Q1 G1].flatten → va_S (va_A w0 s.heap.size) s.heap H locs →
          W p l e (rm_X4_copy (nulN B k)) s m [Value.ref a0, Value.ref a1].toArray below meth c H locs cells slots (MQ below (va_Qv (fun (u : (Nat → Option Nat) × (Nat → Nat → Nat) × (Nat → GC)) => cpOk B u.1 G G1 u.2.2 k) (fun u t => va_P D vwCl (sC4 cs a0 p0 (nI k) u.1 pn (g_cp gn gm) u.2.1 u.2.2 a1 p1 (nI k) B1 pm gm Q1 G1).flatten t.heap ∧ va_D (va_A w0 s.heap.size) (sC4 cs a0 p0 (nI k) u.1 pn (g_cp gn gm) u.2.1 u.2.2 a1 p1 (nI k) B1 pm gm Q1 G1).flatten) (va_A w0 s.heap.size)) [Value.ref a0, Value.ref a1].toArray s (4 * nulN B k) (2689 * nulN B k) (va_A w0 s.heap.size)) (F0 m 34 ls [.ref b]) := by
        intro b q g cells slots H locs hc1 hc2 hP hD hS
        refine lv_aload_n hx hb dX4_copy_34 rfl (lv_at hl 1 rfl) ?_
        refine lv_iload_n hx hb dX4_copy_35 rfl (lv_at hl 2 rfl) ?_
        refine ow_gVR (As := [.int (nI i)]) (rest := [.ref b]) (sg := [wS4 cs a0 p0 (nI k) (va_up B' i (some b)), wG cs (p0 0) pn (g_cp gn gm), wG cs b q g, gPoolR cs B' Q' G' i, wS4 cs a1 p1 (nI k) B1, wG cs (p1 0) pm gm, gPool cs B1 Q1 G1]) (sc := [wS4 cs a1 p1 (nI k) B1]) (sr := [wS4 cs a0 p0 (nI k) (va_up B' i (some b)), wG cs (p0 0) pn (g_cp gn gm), wG cs b q g, gPoolR cs B' Q' G' i, wG cs (p1 0) pm gm, gPool cs B1 Q1 G1]) (sc' := fun (_ : Unit) _ => [wS4 cs a1 p1 (nI k) B1]) (sf := fun (_ : Unit) _ => [wS4 cs a0 p0 (nI k) (va_up B' i (some b)), wG cs (p0 0) pn (g_cp gn gm), wG cs b q g, gPoolR cs B' Q' G' i, wS4 cs a1 p1 (nI k) B1, wG cs (p1 0) pm gm, gPool cs B1 Q1 G1]) C0 hN (c_X4_slot0 l D cs H.size a1 p1 (nI k) B1 (nI i) b1 hin (by rw [hcl]; exact hb1)) (cwV 1 hts gX4_copy_X4_slot rfl rfl rfl (by decide +kernel) ⟨Nat.le_of_ble_eq_true rfl, Nat.le_of_ble_eq_true rfl⟩) 4 rfl rfl hP hD hS (sg_permL [4] [0, 1, 2, 3, 5, 6] 7 rfl (by decide) rfl rfl) (fun _ _ => sg_permG [0, 1, 2, 3, 6, 4, 5] 7 rfl (by decide) rfl) rfl hl.1 rfl (Nat.le_of_ble_eq_true rfl) ⟨by show cells + 0 ≤ 4 * nulN B k; omega, by show slots + 0 ≤ 2689 * nulN B k; omega⟩ dX4_copy_36 (fun _ ra H locs hok1 hP hD hS => ?_)
        subst hok1
        have hpp : [wS4 cs a0 p0 (nI k) (va_up B' i (some b)), wG cs (p0 0) pn (g_cp gn gm), wG cs b q g, gPoolR cs B' Q' G' i, wS4 cs a1 p1 (nI k) B1, wG cs (p1 0) pm gm, gPool cs B1 Q1 G1].flatten.Perm [wS4 cs a0 p0 (nI k) (va_up B' i (some b)), wG cs (p0 0) pn (g_cp gn gm), wG cs b q g, gPoolR cs B' Q' G' i, wS4 cs a1 p1 (nI k) B1, wG cs (p1 0) pm gm, wG cs ra (Q1 i) (G1 i), gPoolR cs B1 Q1 G1 i].flatten := by
          simp only [List.flatten_cons, List.flatten_nil, List.append_nil]
          exact ((((((gp_take hi8 hb1).append_left _).append_left _).append_left _).append_left _).append_left _).append_left _
        refine ow_gVV (As := [.ref ra]) (rest := []) (sg := [wS4 cs a0 p0 (nI k) (va_up B' i (some b)), wG cs (p0 0) pn (g_cp gn gm), wG cs b q g, gPoolR cs B' Q' G' i, wS4 cs a1 p1 (nI k) B1, wG cs (p1 0) pm gm, wG cs ra (Q1 i) (G1 i), gPoolR cs B1 Q1 G1 i]) (sc := [wG cs b q g, wG cs ra (Q1 i) (G1 i)]) (sc' := [wG cs b q (g_cp g (G1 i)), wG cs ra (Q1 i) (G1 i)]) (sr := [wS4 cs a0 p0 (nI k) (va_up B' i (some b)), wG cs (p0 0) pn (g_cp gn gm), gPoolR cs B' Q' G' i, wS4 cs a1 p1 (nI k) B1, wG cs (p1 0) pm gm, gPoolR cs B1 Q1 G1 i]) (sf := [wS4 cs a0 p0 (nI k) (va_up B' i (some b)), wG cs (p0 0) pn (g_cp gn gm), wG cs b q (g_cp g (G1 i)), gPoolR cs B' Q' G' i, wS4 cs a1 p1 (nI k) B1, wG cs (p1 0) pm gm, wG cs ra (Q1 i) (G1 i), gPoolR cs B1 Q1 G1 i]) C0 (c_cp l D cs H.size b q g ra (Q1 i) (G1 i)) (cwV 1 hts gX4_copy_X2_copy rfl rfl rfl (by decide +kernel) ⟨Nat.le_of_ble_eq_true rfl, Nat.le_of_ble_eq_true rfl⟩) 2 rfl rfl (sg_Pp hpp hP) (sg_Dp hpp hD) hS (sg_permL [2, 6] [0, 1, 3, 4, 5, 7] 8 rfl (by decide) rfl rfl) (sg_permG [0, 1, 6, 2, 3, 4, 7, 5] 8 rfl (by decide) rfl) rfl hl.1 rfl (Nat.le_of_ble_eq_true rfl) ⟨by show cells + 0 ≤ 4 * nulN B k; omega, by show slots + 0 ≤ 2689 * nulN B k; omega⟩ dX4_copy_39 (fun H locs hP hD hS => ?_)
        have hpp2 : [wS4 cs a0 p0 (nI k) (va_up B' i (some b)), wG cs (p0 0) pn (g_cp gn gm), wG cs b q (g_cp g (G1 i)), gPoolR cs B' Q' G' i, wS4 cs a1 p1 (nI k) B1, wG cs (p1 0) pm gm, wG cs ra (Q1 i) (G1 i), gPoolR cs B1 Q1 G1 i].flatten.Perm (sC4 cs a0 p0 (nI k) (va_up B' i (some b)) pn (g_cp gn gm) (va_up Q' i q) (va_up G' i (g_cp g (G1 i))) a1 p1 (nI k) B1 pm gm Q1 G1).flatten := by
          simp only [List.flatten_cons, List.flatten_nil, List.append_nil]
          refine (List.Perm.append_left _ ?_)
          refine (List.Perm.append_left _ ?_)
          rw [← List.append_assoc (wG cs b q (g_cp g (G1 i)))]
          refine List.Perm.append (gp_put hi8).symm ?_
          exact ((gp_take hi8 hb1).symm.append_left _).append_left _
        refine lv_iinc (v := nI i + 1) (lv' := [(2, .int (nI i + 1)), (0, .ref a0), (1, .ref a1)]) hx hb dX4_copy_42 hl (k := 2) rfl (ow_inc (by decide)) (by decide) rfl (fun ls hl => ?_)
        refine lv_goto (tgt := 21) hx hb dX4_copy_45 (by decide) ?_
        refine W.widen hc1 hc2 ?_
        have hl2 : lv_has ls 3 [(0, .ref a0), (1, .ref a1), (2, .int (nI (i + 1)))] := by
          rw [← nI_1]
          exact lv_sub hl [1, 2, 0] rfl
        exact ih (i + 1) _ _ _ ls H locs (by omega) (cpOk_step hok) (sg_Pp hpp2 hP) (sg_Dp hpp2 hD) hS hl2
      refine lv_iload_n hx hb dX4_copy_21 rfl (lv_at hl 2 rfl) ?_
      refine lv_aload_n hx hb dX4_copy_22 rfl (lv_at hl 0 rfl) ?_
      refine va_get (D := D) (ci := 4) (v := .int (nI k)) (C := RX4) (T := TX4) (N := 3) hx hb hts in_X4_copy_X4 hown hK hP 0 rfl rfl 2 (by decide) (hts (.fieldLink RX4 25 "PaneDays$Past" "works" "I") (by decide +kernel)) (fun _ h9 => h9) rfl dX4_copy_23 ?_
      refine lv_icmp_ge (tgt := 48) hx hb dX4_copy_26 (by decide) (fun hc => ?_) (fun hc => ?_)
      · exact absurd hc (nI_ge hik (by omega))
      refine lv_aload_n hx hb dX4_copy_29 rfl (lv_at hl 0 rfl) ?_
      refine lv_iload_n hx hb dX4_copy_30 rfl (lv_at hl 2 rfl) ?_
      have hBi : B' i = B i := ((hok i).2 (Nat.le_refl _)).1
      cases hB : B i with
      | some b =>
        rw [hB] at hBi
        rw [hB] at hstep
        refine ow_gVR (As := [.int (nI i)]) (rest := []) (sg := sC4 cs a0 p0 (nI k) B' pn (g_cp gn gm) Q' G' a1 p1 (nI k) B1 pm gm Q1 G1) (sc := [wS4 cs a0 p0 (nI k) B']) (sr := [wG cs (p0 0) pn (g_cp gn gm), gPool cs B' Q' G', wS4 cs a1 p1 (nI k) B1, wG cs (p1 0) pm gm, gPool cs B1 Q1 G1]) (sc' := fun (_ : Unit) _ => [wS4 cs a0 p0 (nI k) B']) (sf := fun (_ : Unit) _ => sC4 cs a0 p0 (nI k) B' pn (g_cp gn gm) Q' G' a1 p1 (nI k) B1 pm gm Q1 G1) C0 hN (c_X4_slot0 l D cs H.size a0 p0 (nI k) B' (nI i) b hin (by rw [hcl]; exact hBi)) (cwV 1 hts gX4_copy_X4_slot rfl rfl rfl (by decide +kernel) ⟨Nat.le_of_ble_eq_true rfl, Nat.le_of_ble_eq_true rfl⟩) 4 rfl rfl hP hD hS (sg_permL [0] [1, 2, 3, 4, 5] 6 rfl (by decide) rfl rfl) (fun _ _ => sg_permG [5, 0, 1, 2, 3, 4] 6 rfl (by decide) rfl) rfl hl.1 rfl (Nat.le_of_ble_eq_true rfl) ⟨by show 4 * nulN B i + 0 ≤ 4 * nulN B k; omega, by show 2689 * nulN B i + 0 ≤ 2689 * nulN B k; omega⟩ dX4_copy_31 (fun _ ra H locs hok1 hP hD hS => ?_)
        subst hok1
        have e : va_up B' i (some ra) = B' := by
          funext j
          by_cases h : j = i
          · subst h; rw [va_up_self, hBi]
          · rw [va_up_ne _ _ h]
        have hpp : (sC4 cs a0 p0 (nI k) B' pn (g_cp gn gm) Q' G' a1 p1 (nI k) B1 pm gm Q1 G1).flatten.Perm [wS4 cs a0 p0 (nI k) (va_up B' i (some ra)), wG cs (p0 0) pn (g_cp gn gm), wG cs ra (Q' i) (G' i), gPoolR cs B' Q' G' i, wS4 cs a1 p1 (nI k) B1, wG cs (p1 0) pm gm, gPool cs B1 Q1 G1].flatten := by
          rw [e]
          simp only [List.flatten_cons, List.flatten_nil, List.append_nil]
          refine (List.Perm.append_left _ ?_)
          refine (List.Perm.append_left _ ?_)
          rw [← List.append_assoc (wG cs ra (Q' i) (G' i))]
          exact (gp_take hi8 hBi).append_right _
        refine tail ra (Q' i) (G' i) _ _ H locs ?_ ?_ (sg_Pp hpp hP) (sg_Dp hpp hD) hS
        · rw [hstep]; simp
        · rw [hstep]; simp
      | none =>
        rw [hB] at hBi
        rw [hB] at hstep
        have hs1 : nulN B (i + 1) = nulN B i + 1 := by rw [hstep]; simp
        refine ow_gVR (As := [.int (nI i)]) (rest := []) (sg := sC4 cs a0 p0 (nI k) B' pn (g_cp gn gm) Q' G' a1 p1 (nI k) B1 pm gm Q1 G1) (sc := [wS4 cs a0 p0 (nI k) B']) (sr := [wG cs (p0 0) pn (g_cp gn gm), gPool cs B' Q' G', wS4 cs a1 p1 (nI k) B1, wG cs (p1 0) pm gm, gPool cs B1 Q1 G1]) (sc' := fun (q : Nat → Nat) ra => [wS4 cs a0 p0 (nI k) (va_up B' (nI i).toNatClampNeg (some ra)), wG cs ra q g_0]) (sf := fun (q : Nat → Nat) ra => [wS4 cs a0 p0 (nI k) (va_up B' (nI i).toNatClampNeg (some ra)), wG cs (p0 0) pn (g_cp gn gm), wG cs ra q g_0, gPool cs B' Q' G', wS4 cs a1 p1 (nI k) B1, wG cs (p1 0) pm gm, gPool cs B1 Q1 G1]) C0 hN (c_X4_slot1 l D cs H.size a0 p0 (nI k) B' (nI i) hin (by rw [hcl]; exact hBi)) (cwV 1 hts gX4_copy_X4_slot rfl rfl rfl (by decide +kernel) ⟨Nat.le_of_ble_eq_true rfl, Nat.le_of_ble_eq_true rfl⟩) 4 rfl rfl hP hD hS (sg_permL [0] [1, 2, 3, 4, 5] 6 rfl (by decide) rfl rfl) (fun _ _ => sg_permG [5, 0, 6, 1, 2, 3, 4] 7 rfl (by decide) rfl) rfl hl.1 rfl (Nat.le_of_ble_eq_true rfl) ⟨by show 4 * nulN B i + 4 ≤ 4 * nulN B k; omega, by show 2689 * nulN B i + 2689 ≤ 2689 * nulN B k; omega⟩ dX4_copy_31 (fun q ra H locs hok1 hP hD hS => ?_)
        have hpp : [wS4 cs a0 p0 (nI k) (va_up B' (nI i).toNatClampNeg (some ra)), wG cs (p0 0) pn (g_cp gn gm), wG cs ra q g_0, gPool cs B' Q' G', wS4 cs a1 p1 (nI k) B1, wG cs (p1 0) pm gm, gPool cs B1 Q1 G1].flatten.Perm [wS4 cs a0 p0 (nI k) (va_up B' i (some ra)), wG cs (p0 0) pn (g_cp gn gm), wG cs ra q g_0, gPoolR cs B' Q' G' i, wS4 cs a1 p1 (nI k) B1, wG cs (p1 0) pm gm, gPool cs B1 Q1 G1].flatten := by
          rw [hcl]
          simp only [List.flatten_cons, List.flatten_nil, List.append_nil]
          exact ((((gp_none hi8 hBi).append_right _).append_left _).append_left _).append_left _
        exact tail ra q g_0 _ _ H locs (by omega) (by omega) (sg_Pp hpp hP) (sg_Dp hpp hD) hS
  refine lv_aload_n hx hb dX4_copy_0 rfl (lv_at hl 0 rfl) ?_
  refine va_get (D := D) (ci := 4) (v := .ref (p0 0)) (C := RX4) (T := TX4) (N := 3) hx hb hts in_X4_copy_X4 hown hK hP 0 rfl rfl 0 (by decide) (hts (.fieldLink RX4 12 "PaneDays$Past" "now" "LPaneDays$Glass;") (by decide +kernel)) (fun _ h9 => h9) rfl dX4_copy_1 ?_
  refine lv_aload_n hx hb dX4_copy_4 rfl (lv_at hl 1 rfl) ?_
  have hp4 : (sC4 cs a0 p0 i2 B pn gn Q G a1 p1 (nI k) B1 pm gm Q1 G1).flatten.Perm [wS4 cs a1 p1 (nI k) B1, wS4 cs a0 p0 i2 B, wG cs (p0 0) pn gn, gPool cs B Q G, wG cs (p1 0) pm gm, gPool cs B1 Q1 G1].flatten := sg_flat (sg_permG [3, 0, 1, 2, 4, 5] 6 rfl (by decide) rfl)
  refine va_get (D := D) (ci := 4) (v := .ref (p1 0)) (C := RX4) (T := TX4) (N := 3) hx hb hts in_X4_copy_X4 hown hK (sg_Pp hp4 hP) 0 rfl rfl 0 (by decide) (hts (.fieldLink RX4 12 "PaneDays$Past" "now" "LPaneDays$Glass;") (by decide +kernel)) (fun _ h9 => h9) rfl dX4_copy_5 ?_
  refine ow_gVV (As := [.ref (p1 0)]) (rest := []) (sg := sC4 cs a0 p0 i2 B pn gn Q G a1 p1 (nI k) B1 pm gm Q1 G1) (sc := [wG cs (p0 0) pn gn, wG cs (p1 0) pm gm]) (sc' := [wG cs (p0 0) pn (g_cp gn gm), wG cs (p1 0) pm gm]) (sr := [wS4 cs a0 p0 i2 B, gPool cs B Q G, wS4 cs a1 p1 (nI k) B1, gPool cs B1 Q1 G1]) (sf := sC4 cs a0 p0 i2 B pn (g_cp gn gm) Q G a1 p1 (nI k) B1 pm gm Q1 G1) C0 (c_cp l D cs H.size (p0 0) pn gn (p1 0) pm gm) (cwV 1 hts gX4_copy_X2_copy rfl rfl rfl (by decide +kernel) ⟨Nat.le_of_ble_eq_true rfl, Nat.le_of_ble_eq_true rfl⟩) 2 rfl rfl hP hD hS (sg_permL [1, 4] [0, 2, 3, 5] 6 rfl (by decide) rfl rfl) (sg_permG [0, 4, 1, 2, 5, 3] 6 rfl (by decide) rfl) rfl hl.1 rfl (Nat.le_of_ble_eq_true rfl) ⟨Nat.zero_le _, Nat.zero_le _⟩ dX4_copy_8 (fun H locs hP hD hS => ?_)
  refine lv_aload_n hx hb dX4_copy_11 rfl (lv_at hl 0 rfl) ?_
  refine lv_aload_n hx hb dX4_copy_12 rfl (lv_at hl 1 rfl) ?_
  have hp5 : (sC4 cs a0 p0 i2 B pn (g_cp gn gm) Q G a1 p1 (nI k) B1 pm gm Q1 G1).flatten.Perm [wS4 cs a1 p1 (nI k) B1, wS4 cs a0 p0 i2 B, wG cs (p0 0) pn (g_cp gn gm), gPool cs B Q G, wG cs (p1 0) pm gm, gPool cs B1 Q1 G1].flatten := sg_flat (sg_permG [3, 0, 1, 2, 4, 5] 6 rfl (by decide) rfl)
  refine va_get (D := D) (ci := 4) (v := .int (nI k)) (C := RX4) (T := TX4) (N := 3) hx hb hts in_X4_copy_X4 hown hK (sg_Pp hp5 hP) 0 rfl rfl 2 (by decide) (hts (.fieldLink RX4 25 "PaneDays$Past" "works" "I") (by decide +kernel)) (fun _ h9 => h9) rfl dX4_copy_13 ?_
  refine va_put (D := D) (ci := 4) (v := .int (nI k)) (ty := .int) (C := RX4) (T := TX4) (N := 3) hx hb hts in_X4_copy_X4 tyX4 tyX4_ok nmX4 hown hK hP hD hS 0 rfl rfl 2 (by decide) (hts (.fieldLink RX4 25 "PaneDays$Past" "works" "I") (by decide +kernel)) (fun _ h9 => h9) rfl (by decide +kernel) rfl rfl (Nat.le_of_ble_eq_true rfl) dX4_copy_16 (fun H locs (hP : va_P D vwCl (sC4 cs a0 p0 (nI k) B pn (g_cp gn gm) Q G a1 p1 (nI k) B1 pm gm Q1 G1).flatten H) (hD : va_D _ (sC4 cs a0 p0 (nI k) B pn (g_cp gn gm) Q G a1 p1 (nI k) B1 pm gm Q1 G1).flatten) hS => ?_)
  refine lv_iconst (v := 0) hx hb dX4_copy_19 (by decide) ?_
  refine lv_istore_n (lv' := [(2, .int 0), (0, .ref a0), (1, .ref a1)]) hx hb dX4_copy_20 rfl hl (by decide) rfl (fun ls hl => ?_)
  exact loop k 0 B Q G ls H locs (by omega) (fun j => ⟨fun h => absurd h (Nat.not_lt_zero _), fun _ => ⟨rfl, rfl⟩⟩) hP hD hS (lv_sub hl [1, 2, 0] rfl)

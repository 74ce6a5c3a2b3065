/-! Past.keep, goBack, copy -/
theorem in_X4_keep_X4 : ∀ w ∈ u_ws RX4 TX4 3, w ∈ wsX4_keep := fun w h => List.mem_cons_of_mem _ (List.mem_append_left _ (List.mem_append_right _ h))
theorem in_X4_goBack_X4 : ∀ w ∈ u_ws RX4 TX4 3, w ∈ wsX4_goBack := fun w h => List.mem_cons_of_mem _ (List.mem_append_left _ (List.mem_append_right _ h))
theorem in_X4_copy_X4 : ∀ w ∈ u_ws RX4 TX4 3, w ∈ wsX4_copy := fun w h => List.mem_cons_of_mem _ (List.mem_append_left _ (List.mem_append_right _ h))
noncomputable abbrev sK4 (cs : Nat → ClassId) (a0 : Nat) (p0 : Nat → Nat) (i2 : Int32) (B : Nat → Option Nat) (pn : Nat → Nat) (gn : GC) (Q : Nat → Nat → Nat) (G : Nat → GC) : List va_W := [wS4 cs a0 p0 i2 B, wG cs (p0 0) pn gn, gPool cs B Q G]
theorem sg_swap {A : Nat → Prop} {D : va_G} {H : Heap} {sg : List va_W} {a b : va_W} (t : Nat) (h : sg[t]? = some a) (hp : a.Perm b) (hP : va_P D vwCl sg.flatten H) (hD : va_D A sg.flatten) : va_P D vwCl (sg.set t b).flatten H ∧ va_D A (sg.set t b).flatten := by
  have h1 : sg.flatten.Perm (sg.set t b).flatten := by
    clear hP hD
    induction sg generalizing t with
    | nil => cases h
    | cons x xs ih =>
      cases t with
      | zero =>
        have e : x = a := by simpa using h
        subst e
        exact hp.append_right _
      | succ t => exact (ih t (by simpa using h)).append_left x
  exact ⟨sg_Pp h1 hP, sg_Dp h1 hD⟩
abbrev rm_X4_keep : Room := { frames := 3, cells := 4, slots := 2689, locals := 120 }
set_option maxHeartbeats 4000000 in
set_option maxRecDepth 100000 in
theorem c_X4_keep (l : Launch) (D : va_G) (cs : Nat → ClassId) (sz a0 : Nat) (p0 : Nat → Nat) (k : Nat) (hk : k < 8) (B : Nat → Option Nat) (pn : Nat → Nat) (gn : GC) (Q : Nat → Nat → Nat) (G : Nat → GC) : MN l D cs yX4_keep wsX4_keep rm_X4_keep [.ref a0] sz (sK4 cs a0 p0 (nI k) B pn gn Q G).flatten (fun (u : Nat × (Nat → Nat) × GC) => (sK4 cs a0 p0 (nI k + 1) (va_up B k (some u.1)) pn gn (va_up Q k u.2.1) (va_up G k (g_cp u.2.2 gn))).flatten) 4 2689 := by
  refine ow_enterN (cc := cX4_keep) (nL := 1) (ret := none) (by decide) rfl (Nat.le_of_ble_eq_true rfl) (fun p e s m below meth c ls H locs C0 hN hnm hP hD hS hA hl => ?_)
  obtain ⟨hx, hb, hr, hlk, hml, hown, hts, hK, hG, hE⟩ := id C0
  have hl : lv_has ls 1 [(0, .ref a0)] := hl
  have hin : vp_in (nI k) 8 := vp_in_nI hk (by decide)
  have hcl : (nI k).toNatClampNeg = k := nI_clamp (by omega)
  have tail : ∀ (b : Nat) (q : Nat → Nat) (g : GC) (cells slots : Nat) (H : Heap) (locs : List Loc), cells ≤ 4 → slots ≤ 2689 → va_P D vwCl [wS4 cs a0 p0 (nI k) (va_up B k (some b)), wG cs (p0 0) pn gn, wG cs b q g, gPoolR cs B Q G k].flatten H → va_D (va_A (sK4 cs a0 p0 (nI k) B pn gn Q G).flatten s.heap.size) [wS4 cs a0 p0 (nI k) (va_up B k (some b)), wG cs (p0 0) pn gn, wG cs b q g, gPoolR cs B Q G k].flatten → va_S (va_A (sK4 cs a0 p0 (nI k) B pn gn Q G).flatten s.heap.size) s.heap H locs →
      W p l e rm_X4_keep s m [Value.ref a0].toArray below meth c H locs cells slots (MQ below (qN D (sK4 cs a0 p0 (nI k) B pn gn Q G).flatten (fun (u : Nat × (Nat → Nat) × GC) => (sK4 cs a0 p0 (nI k + 1) (va_up B k (some u.1)) pn gn (va_up Q k u.2.1) (va_up G k (g_cp u.2.2 gn))).flatten) s.heap.size) [Value.ref a0].toArray s 4 2689 (va_A (sK4 cs a0 p0 (nI k) B pn gn Q G).flatten s.heap.size)) (F0 m 17 ls [.ref b]) := by
    intro b q g cells slots H locs hc1 hc2 hP hD hS
    refine lv_aload_n hx hb dX4_keep_17 rfl (lv_at hl 0 rfl) ?_
    refine va_get (D := D) (ci := 4) (v := .ref (p0 0)) (C := RX4) (T := TX4) (N := 3) hx hb hts in_X4_keep_X4 hown hK hP 0 rfl rfl 0 (by decide) (hts (.fieldLink RX4 12 "PaneDays$Past" "now" "LPaneDays$Glass;") (by decide +kernel)) (fun _ h9 => h9) rfl dX4_keep_18 ?_
    refine ow_gVV (As := [.ref (p0 0)]) (rest := []) (sg := [wS4 cs a0 p0 (nI k) (va_up B k (some b)), wG cs (p0 0) pn gn, wG cs b q g, gPoolR cs B Q G k]) (sc := [wG cs b q g, wG cs (p0 0) pn gn]) (sc' := [wG cs b q (g_cp g gn), wG cs (p0 0) pn gn]) (sr := [wS4 cs a0 p0 (nI k) (va_up B k (some b)), gPoolR cs B Q G k]) (sf := [wS4 cs a0 p0 (nI k) (va_up B k (some b)), wG cs (p0 0) pn gn, wG cs b q (g_cp g gn), gPoolR cs B Q G k]) C0 (c_cp l D cs H.size b q g (p0 0) pn gn) (cwV 1 hts gX4_keep_X2_copy rfl rfl rfl (by decide +kernel) ⟨Nat.le_of_ble_eq_true rfl, Nat.le_of_ble_eq_true rfl⟩) 2 rfl rfl hP hD hS (sg_permL [2, 1] [0, 3] 4 rfl (by decide) rfl rfl) (sg_permG [0, 3, 2, 1] 4 rfl (by decide) rfl) rfl hl.1 rfl (Nat.le_of_ble_eq_true rfl) ⟨hc1, hc2⟩ dX4_keep_21 (fun H locs hP hD hS => ?_)
    refine lv_aload_n hx hb dX4_keep_24 rfl (lv_at hl 0 rfl) ?_
    refine lv_dup hx hb dX4_keep_25 rfl ?_
    refine va_get (D := D) (ci := 4) (v := .int (nI k)) (C := RX4) (T := TX4) (N := 3) hx hb hts in_X4_keep_X4 hown hK hP 0 rfl rfl 2 (by decide) (hts (.fieldLink RX4 25 "PaneDays$Past" "works" "I") (by decide +kernel)) (fun _ h9 => h9) rfl dX4_keep_26 ?_
    refine lv_iconst (v := 1) hx hb dX4_keep_29 (by decide) ?_
    refine lv_iadd hx hb dX4_keep_30 ?_
    refine va_put (D := D) (ci := 4) (v := .int (nI k + 1)) (ty := .int) (C := RX4) (T := TX4) (N := 3) hx hb hts in_X4_keep_X4 tyX4 tyX4_ok nmX4 hown hK hP hD hS 0 rfl rfl 2 (by decide) (hts (.fieldLink RX4 25 "PaneDays$Past" "works" "I") (by decide +kernel)) (fun _ h9 => h9) rfl (by decide +kernel) rfl rfl (Nat.le_of_ble_eq_true rfl) dX4_keep_31 (fun H locs (hP : va_P D vwCl [wS4 cs a0 p0 (nI k + 1) (va_up B k (some b)), wG cs (p0 0) pn gn, wG cs b q (g_cp g gn), gPoolR cs B Q G k].flatten H) (hD : va_D _ [wS4 cs a0 p0 (nI k + 1) (va_up B k (some b)), wG cs (p0 0) pn gn, wG cs b q (g_cp g gn), gPoolR cs B Q G k].flatten) hS => ?_)
    have hpp : [wS4 cs a0 p0 (nI k + 1) (va_up B k (some b)), wG cs (p0 0) pn gn, wG cs b q (g_cp g gn), gPoolR cs B Q G k].flatten.Perm (sK4 cs a0 p0 (nI k + 1) (va_up B k (some b)) pn gn (va_up Q k q) (va_up G k (g_cp g gn))).flatten := by
      have h := (gp_put (cs := cs) (B := B) (Q := Q) (G := G) (b := b) (q := q) (g := g_cp g gn) hk).symm
      simp only [List.flatten_cons, List.flatten_nil, List.append_nil]
      exact (h.append_left _).append_left _
    exact ow_retN C0 (b, q, g) (sg_Pp hpp hP) (sg_Dp hpp hD) hS hc1 hc2 dX4_keep_34
  refine lv_aload_n hx hb dX4_keep_0 rfl (lv_at hl 0 rfl) ?_
  refine va_get (D := D) (ci := 4) (v := .int (nI k)) (C := RX4) (T := TX4) (N := 3) hx hb hts in_X4_keep_X4 hown hK hP 0 rfl rfl 2 (by decide) (hts (.fieldLink RX4 25 "PaneDays$Past" "works" "I") (by decide +kernel)) (fun _ h9 => h9) rfl dX4_keep_1 ?_
  refine lv_bipush (v := 8) hx hb dX4_keep_4 (by decide) ?_
  refine lv_icmp_ge (tgt := 34) hx hb dX4_keep_6 (by decide) (fun hc => ?_) (fun hc => ?_)
  · exact absurd hc (nI_ge (a := k) (b := 8) hk (by decide))
  refine lv_aload_n hx hb dX4_keep_9 rfl (lv_at hl 0 rfl) ?_
  refine lv_aload_n hx hb dX4_keep_10 rfl (lv_at hl 0 rfl) ?_
  refine va_get (D := D) (ci := 4) (v := .int (nI k)) (C := RX4) (T := TX4) (N := 3) hx hb hts in_X4_keep_X4 hown hK hP 0 rfl rfl 2 (by decide) (hts (.fieldLink RX4 25 "PaneDays$Past" "works" "I") (by decide +kernel)) (fun _ h9 => h9) rfl dX4_keep_11 ?_
  cases hB : B k with
  | some b =>
    refine W.widen (k := 4) (n := 2689) (Nat.zero_le _) (Nat.zero_le _) ?_
    refine ow_gVR (As := [.int (nI k)]) (rest := []) (sg := sK4 cs a0 p0 (nI k) B pn gn Q G) (sc := [wS4 cs a0 p0 (nI k) B]) (sr := [wG cs (p0 0) pn gn, gPool cs B Q G]) (sc' := fun (_ : Unit) _ => [wS4 cs a0 p0 (nI k) B]) (sf := fun (_ : Unit) _ => sK4 cs a0 p0 (nI k) B pn gn Q G) C0 hN (c_X4_slot0 l D cs H.size a0 p0 (nI k) B (nI k) b hin (by rw [hcl]; exact hB)) (cwV 1 hts gX4_keep_X4_slot rfl rfl rfl (by decide +kernel) ⟨Nat.le_of_ble_eq_true rfl, Nat.le_of_ble_eq_true rfl⟩) 4 rfl rfl hP hD hS (sg_permL [0] [1, 2] 3 rfl (by decide) rfl rfl) (fun _ _ => sg_permG [2, 0, 1] 3 rfl (by decide) rfl) rfl hl.1 rfl (Nat.le_of_ble_eq_true rfl) ⟨Nat.le_refl _, Nat.le_refl _⟩ dX4_keep_14 (fun _ ra H locs hok hP hD hS => ?_)
    subst hok
    have e : va_up B k (some ra) = B := by
      funext j
      by_cases h : j = k
      · subst h; rw [va_up_self, hB]
      · rw [va_up_ne _ _ h]
    have hpp : (sK4 cs a0 p0 (nI k) B pn gn Q G).flatten.Perm [wS4 cs a0 p0 (nI k) (va_up B k (some ra)), wG cs (p0 0) pn gn, wG cs ra (Q k) (G k), gPoolR cs B Q G k].flatten := by
      rw [e]
      simp only [List.flatten_cons, List.flatten_nil, List.append_nil]
      exact ((gp_take hk hB).append_left _).append_left _
    exact tail ra (Q k) (G k) _ _ H locs (Nat.le_refl _) (Nat.le_refl _) (sg_Pp hpp hP) (sg_Dp hpp hD) hS
  | none =>
    refine ow_gVR (As := [.int (nI k)]) (rest := []) (sg := sK4 cs a0 p0 (nI k) B pn gn Q G) (sc := [wS4 cs a0 p0 (nI k) B]) (sr := [wG cs (p0 0) pn gn, gPool cs B Q G]) (sc' := fun (q : Nat → Nat) ra => [wS4 cs a0 p0 (nI k) (va_up B (nI k).toNatClampNeg (some ra)), wG cs ra q g_0]) (sf := fun (q : Nat → Nat) ra => [wS4 cs a0 p0 (nI k) (va_up B (nI k).toNatClampNeg (some ra)), wG cs (p0 0) pn gn, wG cs ra q g_0, gPool cs B Q G]) C0 hN (c_X4_slot1 l D cs H.size a0 p0 (nI k) B (nI k) hin (by rw [hcl]; exact hB)) (cwV 1 hts gX4_keep_X4_slot rfl rfl rfl (by decide +kernel) ⟨Nat.le_of_ble_eq_true rfl, Nat.le_of_ble_eq_true rfl⟩) 4 rfl rfl hP hD hS (sg_permL [0] [1, 2] 3 rfl (by decide) rfl rfl) (fun _ _ => sg_permG [2, 0, 3, 1] 4 rfl (by decide) rfl) rfl hl.1 rfl (Nat.le_of_ble_eq_true rfl) ⟨Nat.le_refl _, Nat.le_refl _⟩ dX4_keep_14 (fun q ra H locs hok hP hD hS => ?_)
    have hpp : [wS4 cs a0 p0 (nI k) (va_up B (nI k).toNatClampNeg (some ra)), wG cs (p0 0) pn gn, wG cs ra q g_0, gPool cs B Q G].flatten.Perm [wS4 cs a0 p0 (nI k) (va_up B k (some ra)), wG cs (p0 0) pn gn, wG cs ra q g_0, gPoolR cs B Q G k].flatten := by
      rw [hcl]
      simp only [List.flatten_cons, List.flatten_nil, List.append_nil]
      exact (((gp_none hk hB).append_left _).append_left _).append_left _
    exact tail ra q g_0 _ _ H locs (Nat.le_refl _) (Nat.le_refl _) (sg_Pp hpp hP) (sg_Dp hpp hD) hS
abbrev rm_X4_goBack : Room := { frames := 3, cells := 0, slots := 0, locals := 120 }
set_option maxHeartbeats 4000000 in
set_option maxRecDepth 100000 in
theorem c_X4_goBack (l : Launch) (D : va_G) (cs : Nat → ClassId) (sz a0 : Nat) (p0 : Nat → Nat) (k : Nat) (hk : k < 8) (B : Nat → Option Nat) (b : Nat) (hB : B k = some b) (pn : Nat → Nat) (gn : GC) (Q : Nat → Nat → Nat) (G : Nat → GC) : MN l D cs yX4_goBack wsX4_goBack rm_X4_goBack [.ref a0] sz (sK4 cs a0 p0 (nI (k + 1)) B pn gn Q G).flatten (fun (_ : Unit) => (sK4 cs a0 p0 (nI k) B pn (g_cp gn (G k)) Q G).flatten) 0 0 := by
  refine ow_enterN (cc := cX4_goBack) (nL := 1) (ret := none) (by decide) rfl (Nat.le_of_ble_eq_true rfl) (fun p e s m below meth c ls H locs C0 hN hnm hP hD hS hA hl => ?_)
  obtain ⟨hx, hb, hr, hlk, hml, hown, hts, hK, hG, hE⟩ := id C0
  have hl : lv_has ls 1 [(0, .ref a0)] := hl
  have hin : vp_in (nI k) 8 := vp_in_nI hk (by decide)
  have hcl : (nI k).toNatClampNeg = k := nI_clamp (by omega)
  have hsub : nI (k + 1) - 1 = nI k := by rw [show (1 : Int32) = nI 1 from rfl, pk_sub (by omega)]; rfl
  refine lv_aload_n hx hb dX4_goBack_0 rfl (lv_at hl 0 rfl) ?_
  refine va_get (D := D) (ci := 4) (v := .int (nI (k + 1))) (C := RX4) (T := TX4) (N := 3) hx hb hts in_X4_goBack_X4 hown hK hP 0 rfl rfl 2 (by decide) (hts (.fieldLink RX4 25 "PaneDays$Past" "works" "I") (by decide +kernel)) (fun _ h9 => h9) rfl dX4_goBack_1 ?_
  refine lv_if_le (tgt := 32) hx hb dX4_goBack_4 (by decide) (fun hc => ?_) (fun hc => ?_)
  · exact absurd hc (nI_ge (a := 0) (b := k + 1) (by omega) (by omega))
  refine lv_aload_n hx hb dX4_goBack_7 rfl (lv_at hl 0 rfl) ?_
  refine lv_dup hx hb dX4_goBack_8 rfl ?_
  refine va_get (D := D) (ci := 4) (v := .int (nI (k + 1))) (C := RX4) (T := TX4) (N := 3) hx hb hts in_X4_goBack_X4 hown hK hP 0 rfl rfl 2 (by decide) (hts (.fieldLink RX4 25 "PaneDays$Past" "works" "I") (by decide +kernel)) (fun _ h9 => h9) rfl dX4_goBack_9 ?_
  refine lv_iconst (v := 1) hx hb dX4_goBack_12 (by decide) ?_
  refine lv_isub hx hb dX4_goBack_13 ?_
  rw [hsub]
  refine va_put (D := D) (ci := 4) (v := .int (nI k)) (ty := .int) (C := RX4) (T := TX4) (N := 3) hx hb hts in_X4_goBack_X4 tyX4 tyX4_ok nmX4 hown hK hP hD hS 0 rfl rfl 2 (by decide) (hts (.fieldLink RX4 25 "PaneDays$Past" "works" "I") (by decide +kernel)) (fun _ h9 => h9) rfl (by decide +kernel) rfl rfl (Nat.le_of_ble_eq_true rfl) dX4_goBack_14 (fun H locs (hP : va_P D vwCl (sK4 cs a0 p0 (nI k) B pn gn Q G).flatten H) (hD : va_D _ (sK4 cs a0 p0 (nI k) B pn gn Q G).flatten) hS => ?_)
  refine lv_aload_n hx hb dX4_goBack_17 rfl (lv_at hl 0 rfl) ?_
  refine va_get (D := D) (ci := 4) (v := .ref (p0 0)) (C := RX4) (T := TX4) (N := 3) hx hb hts in_X4_goBack_X4 hown hK hP 0 rfl rfl 0 (by decide) (hts (.fieldLink RX4 12 "PaneDays$Past" "now" "LPaneDays$Glass;") (by decide +kernel)) (fun _ h9 => h9) rfl dX4_goBack_18 ?_
  refine lv_aload_n hx hb dX4_goBack_21 rfl (lv_at hl 0 rfl) ?_
  refine lv_aload_n hx hb dX4_goBack_22 rfl (lv_at hl 0 rfl) ?_
  refine va_get (D := D) (ci := 4) (v := .int (nI k)) (C := RX4) (T := TX4) (N := 3) hx hb hts in_X4_goBack_X4 hown hK hP 0 rfl rfl 2 (by decide) (hts (.fieldLink RX4 25 "PaneDays$Past" "works" "I") (by decide +kernel)) (fun _ h9 => h9) rfl dX4_goBack_23 ?_
  refine ow_gVR (As := [.int (nI k)]) (rest := [.ref (p0 0)]) (sg := sK4 cs a0 p0 (nI k) B pn gn Q G) (sc := [wS4 cs a0 p0 (nI k) B]) (sr := [wG cs (p0 0) pn gn, gPool cs B Q G]) (sc' := fun (_ : Unit) _ => [wS4 cs a0 p0 (nI k) B]) (sf := fun (_ : Unit) _ => sK4 cs a0 p0 (nI k) B pn gn Q G) C0 hN (c_X4_slot0 l D cs H.size a0 p0 (nI k) B (nI k) b hin (by rw [hcl]; exact hB)) (cwV 1 hts gX4_goBack_X4_slot rfl rfl rfl (by decide +kernel) ⟨Nat.le_of_ble_eq_true rfl, Nat.le_of_ble_eq_true rfl⟩) 4 rfl rfl hP hD hS (sg_permL [0] [1, 2] 3 rfl (by decide) rfl rfl) (fun _ _ => sg_permG [2, 0, 1] 3 rfl (by decide) rfl) rfl hl.1 rfl (Nat.le_of_ble_eq_true rfl) ⟨Nat.le_refl _, Nat.le_refl _⟩ dX4_goBack_26 (fun _ ra H locs hok hP hD hS => ?_)
  subst hok
  have hpp : (sK4 cs a0 p0 (nI k) B pn gn Q G).flatten.Perm [wS4 cs a0 p0 (nI k) B, wG cs (p0 0) pn gn, wG cs ra (Q k) (G k), gPoolR cs B Q G k].flatten := by
    simp only [List.flatten_cons, List.flatten_nil, List.append_nil]
    exact ((gp_take hk hB).append_left _).append_left _
  refine ow_gVV (As := [.ref ra]) (rest := []) (sg := [wS4 cs a0 p0 (nI k) B, wG cs (p0 0) pn gn, wG cs ra (Q k) (G k), gPoolR cs B Q G k]) (sc := [wG cs (p0 0) pn gn, wG cs ra (Q k) (G k)]) (sc' := [wG cs (p0 0) pn (g_cp gn (G k)), wG cs ra (Q k) (G k)]) (sr := [wS4 cs a0 p0 (nI k) B, gPoolR cs B Q G k]) (sf := [wS4 cs a0 p0 (nI k) B, wG cs (p0 0) pn (g_cp gn (G k)), wG cs ra (Q k) (G k), gPoolR cs B Q G k]) C0 (c_cp l D cs H.size (p0 0) pn gn ra (Q k) (G k)) (cwV 1 hts gX4_goBack_X2_copy rfl rfl rfl (by decide +kernel) ⟨Nat.le_of_ble_eq_true rfl, Nat.le_of_ble_eq_true rfl⟩) 2 rfl rfl (sg_Pp hpp hP) (sg_Dp hpp hD) hS (sg_permL [1, 2] [0, 3] 4 rfl (by decide) rfl rfl) (sg_permG [0, 2, 3, 1] 4 rfl (by decide) rfl) rfl hl.1 rfl (Nat.le_of_ble_eq_true rfl) ⟨Nat.zero_le _, Nat.zero_le _⟩ dX4_goBack_29 (fun H locs hP hD hS => ?_)
  have hpp2 : [wS4 cs a0 p0 (nI k) B, wG cs (p0 0) pn (g_cp gn (G k)), wG cs ra (Q k) (G k), gPoolR cs B Q G k].flatten.Perm (sK4 cs a0 p0 (nI k) B pn (g_cp gn (G k)) Q G).flatten := by
    simp only [List.flatten_cons, List.flatten_nil, List.append_nil]
    exact (((gp_take hk hB).symm).append_left _).append_left _
  exact ow_retN C0 () (sg_Pp hpp2 hP) (sg_Dp hpp2 hD) hS (Nat.le_refl _) (Nat.le_refl _) dX4_goBack_32

/-! PaneDays.image when the image is new; restore -/
theorem gp_nil (cs : Nat → ClassId) (Q : Nat → Nat → Nat) (G : Nat → GC) : gPool cs (fun _ => none) Q G = [] := by
  rw [gPool_eq]
  simp [pWrd]
noncomputable abbrev sIN (cs : Nat → ClassId) (a0 : Nat) (p0 : Nat → Nat) (i13 i14 : Int32) (v15 : Nat → Int32) (IM : Nat → Option Nat) (pp : Nat → Nat) (i2 : Int32) (B : Nat → Option Nat) (pn : Nat → Nat) (gn : GC) (Q : Nat → Nat → Nat) (G : Nat → GC) : List va_W := [wX10 cs a0 p0 i13 i14 v15, [imgA cs (p0 12) IM], wS4 cs (p0 9) pp i2 B, wG cs (pp 0) pn gn, gPool cs B Q G]
set_option maxHeartbeats 4000000 in
set_option maxRecDepth 100000 in
theorem c_X10_imageN (l : Launch) (D : va_G) (cs : Nat → ClassId) (sz a0 : Nat) (p0 : Nat → Nat) (j : Nat) (hj : j < 2) (i14 : Int32) (v15 : Nat → Int32) (IM : Nat → Option Nat) (hIM : IM j = none) (pp : Nat → Nat) (k : Nat) (hk : k ≤ 8) (B : Nat → Option Nat) (hB : ∀ i, i < k → (B i).isSome = true) (pn : Nat → Nat) (gn : GC) (Q : Nat → Nat → Nat) (G : Nat → GC) :
    MJ l D cs yX10_image wsX10_image (rm_X10_image (6 + 4 * nulN (fun _ => none) k) (2700 + 2689 * nulN (fun _ => none) k)) [.ref a0] sz (sIN cs a0 p0 (nI j) i14 v15 IM pp (nI k) B pn gn Q G).flatten (fun (u : Nat × (Nat → Nat) × (Nat → Option Nat) × (Nat → Nat → Nat) × (Nat → GC)) => cpOk (fun _ => none) u.2.2.1 (fun _ => g_0) G u.2.2.2.2 k) (fun u => (sI cs a0 p0 (nI j + 1) i14 v15 (va_up IM j (some u.1)) u.1 u.2.1 (nI k) u.2.2.1 (fun n => u.2.1 (10 + n)) (g_cp g_0 gn) u.2.2.2.1 u.2.2.2.2 pp (nI k) B pn gn Q G).flatten) (nI j + 1) (6 + 4 * nulN (fun _ => none) k) (2700 + 2689 * nulN (fun _ => none) k) := by
  refine ow_enterN (cc := cX10_image) (nL := 2) (ret := some .int) (by decide) rfl (Nat.le_of_ble_eq_true rfl) (fun p e s m below meth c ls H locs C0 hN hnm hP hD hS hA hl => ?_)
  obtain ⟨hx, hb, hr, hlk, hml, hown, hts, hK, hG, hE⟩ := id C0
  have hl : lv_has ls 2 [(0, .ref a0)] := hl
  have hin : vp_in (nI j) 2 := vp_in_nI hj (by decide)
  have hcl : (nI j).toNatClampNeg = j := nI_clamp (by omega)
  refine lv_aload_n hx hb dX10_image_0 rfl (lv_at hl 0 rfl) ?_
  refine va_get (D := D) (ci := 10) (v := .int (nI j)) (C := RX10) (T := TX10) (N := 16) hx hb hts in_X10_image_X10 hown hK hP 0 rfl rfl 13 (by decide) (hts (.fieldLink RX10 123 "PaneDays" "imageCount" "I") (List.mem_of_getElem? (i := 1) rfl)) (fun _ h9 => h9) rfl dX10_image_1 ?_
  refine lv_iconst (v := 2) hx hb dX10_image_4 (by decide) ?_
  refine lv_icmp_lt (tgt := 10) hx hb dX10_image_5 (by decide) (fun hc => ?_) (fun hc => absurd (nI_lt (b := 2) hj (by decide)) hc)
  refine lv_aload_n hx hb dX10_image_10 rfl (lv_at hl 0 rfl) ?_
  refine va_get (D := D) (ci := 10) (v := .ref (p0 12)) (C := RX10) (T := TX10) (N := 16) hx hb hts in_X10_image_X10 hown hK hP 0 rfl rfl 12 (by decide) (hts (.fieldLink RX10 87 "PaneDays" "images" "[LPaneDays$Past;") (List.mem_of_getElem? (i := 2) rfl)) (fun _ h9 => h9) rfl dX10_image_11 ?_
  refine lv_aload_n hx hb dX10_image_14 rfl (lv_at hl 0 rfl) ?_
  refine va_get (D := D) (ci := 10) (v := .int (nI j)) (C := RX10) (T := TX10) (N := 16) hx hb hts in_X10_image_X10 hown hK hP 0 rfl rfl 13 (by decide) (hts (.fieldLink RX10 123 "PaneDays" "imageCount" "I") (List.mem_of_getElem? (i := 1) rfl)) (fun _ h9 => h9) rfl dX10_image_15 ?_
  refine va_aldq hx hb hK hP 2 5 rfl rfl hin dX10_image_18 ?_
  rw [hcl, hIM]
  refine lv_astore_nN (lv' := [(1, .null), (0, .ref a0)]) hx hb dX10_image_19 rfl hl (by decide) rfl (fun ls hl => ?_)
  refine lv_aload_nN hx hb dX10_image_20 rfl (lv_at hl 0 rfl) ?_
  refine lv_ifnonnullN hx hb dX10_image_21 ?_
  refine va_new (D := D) (ci := 4) (C := RX4) (T := TX4) (N := 3) (fs := [.null, .null, .int 0]) hx hb hts in_X10_image_X4 tyX4 tyX4_ok hown (hts (.classLink RX10 60 RX4) (List.mem_of_getElem? (i := 3) rfl)) (hts (.instantiable RX4 3) (List.mem_of_getElem? (i := 4) rfl)) (hts (.initialized RX4) (List.mem_of_getElem? (i := 5) rfl)) hK hP hD hS hA rfl (by decide) (by show 0 + 1 ≤ 6 + 4 * nulN (fun _ => none) k; omega) (by show 0 + 3 ≤ 2700 + 2689 * nulN (fun _ => none) k; omega) dX10_image_24 (fun ra H hP hD hS => ?_)
  refine lv_dup hx hb dX10_image_27 rfl ?_
  have ef : (sIN cs a0 p0 (nI j) i14 v15 IM pp (nI k) B pn gn Q G).flatten ++ ([(ra, .inr (4, [.null, .null, .int 0]))] : va_W) = ((sIN cs a0 p0 (nI j) i14 v15 IM pp (nI k) B pn gn Q G) ++ ([[(ra, .inr (4, [.null, .null, .int 0]))]] : List va_W)).flatten := by
    rw [List.flatten_append]
    rfl
  rw [ef] at hP hD
  refine ow_gmkN (As := []) (rest := [.ref ra]) (sc := [[(ra, .inr (4, [.null, .null, .int 0]))]]) (sr := sIN cs a0 p0 (nI j) i14 v15 IM pp (nI k) B pn gn Q G) C0 hN (c_X4_init l D cs H.size ra) ⟨va_cnB (host := RX10) 0 hts gX10_image_X4_init_n62 rfl rfl rfl (hG.2.1 (RX10, 62, yX4_init, RX10) (List.mem_of_getElem? (i := 7) rfl)) (hts (.initialized RX4) (List.mem_of_getElem? (i := 5) rfl)) (by decide +kernel) ⟨Nat.le_of_ble_eq_true rfl, Nat.le_of_ble_eq_true rfl⟩, rfl, hts (.instanceMethod yX4_init) (List.mem_of_getElem? (i := 7) rfl)⟩ hP hD hS (sg_permL [5] [0, 1, 2, 3, 4] 6 rfl (by decide) rfl rfl) rfl hl.1 rfl (Nat.le_of_ble_eq_true rfl) ⟨by show 0 + 1 + 5 ≤ 6 + 4 * nulN (fun _ => none) k; omega, by show 0 + 3 + 2697 ≤ 2700 + 2689 * nulN (fun _ => none) k; omega⟩ dX10_image_28 (fun P H locs hP hD hS => ?_)
  have hpp : (sIN cs a0 p0 (nI j) i14 v15 IM pp (nI k) B pn gn Q G ++ ([[(ra, .inr (4, [.ref (P 0), .ref (P 1), .int 0])), ((P 0), .inr (2, [.ref (P 10), .ref (P 11), .ref (P 12), .int 0, .int 0, .int 0, .int 0, .int 0])), ((P 10), .inl (cs 0, 2400, .inl (fun _ => 0))), ((P 11), .inl (cs 0, 80, .inl (fun _ => 0))), ((P 12), .inl (cs 0, 201, .inl (fun _ => 0))), ((P 1), .inl (cs 4, 8, .inr (.inr (.inr (.inr (fun _ => none))))))]] : List va_W)).flatten.Perm (sI cs a0 p0 (nI j) i14 v15 IM ra P 0 (fun _ => none) (fun n => P (10 + n)) g_0 (fun _ _ => 0) (fun _ => g_0) pp (nI k) B pn gn Q G).flatten := by
    have h1 : ([(ra, .inr (4, [.ref (P 0), .ref (P 1), .int 0])), ((P 0), .inr (2, [.ref (P 10), .ref (P 11), .ref (P 12), .int 0, .int 0, .int 0, .int 0, .int 0])), ((P 10), .inl (cs 0, 2400, .inl (fun _ => 0))), ((P 11), .inl (cs 0, 80, .inl (fun _ => 0))), ((P 12), .inl (cs 0, 201, .inl (fun _ => 0))), ((P 1), .inl (cs 4, 8, .inr (.inr (.inr (.inr (fun _ => none))))))] : va_W).Perm (wS4 cs ra P 0 (fun _ => none) ++ wG cs (P 0) (fun n => P (10 + n)) g_0) := by
      refine List.Perm.cons _ ?_
      exact (List.perm_append_comm (l₁ := wG cs (P 0) (fun n => P (10 + n)) g_0) (l₂ := [bArr cs (P 1) (fun _ => none)]))
    have h2 : (sIN cs a0 p0 (nI j) i14 v15 IM pp (nI k) B pn gn Q G ++ [wS4 cs ra P 0 (fun _ => none), wG cs (P 0) (fun n => P (10 + n)) g_0, gPool cs (fun _ => none) (fun _ _ => 0) (fun _ => g_0)]).flatten.Perm (sI cs a0 p0 (nI j) i14 v15 IM ra P 0 (fun _ => none) (fun n => P (10 + n)) g_0 (fun _ _ => 0) (fun _ => g_0) pp (nI k) B pn gn Q G).flatten := sg_flat (sg_permG [0, 1, 5, 6, 7, 2, 3, 4] 8 rfl (by decide) rfl)
    refine List.Perm.trans ?_ h2
    rw [List.flatten_append, List.flatten_append]
    refine List.Perm.append_left _ ?_
    rw [gp_nil]
    simp only [List.flatten_cons, List.flatten_nil, List.append_nil]
    exact h1
  replace hP := sg_Pp hpp hP
  replace hD := sg_Dp hpp hD
  refine lv_astore_n (lv' := [(1, .ref ra), (0, .ref a0)]) hx hb dX10_image_31 rfl hl (by decide) rfl (fun ls hl => ?_)
  refine lv_aload_n hx hb dX10_image_32 rfl (lv_at hl 1 rfl) ?_
  refine va_get (D := D) (ci := 10) (v := .ref (p0 12)) (C := RX10) (T := TX10) (N := 16) hx hb hts in_X10_image_X10 hown hK hP 0 rfl rfl 12 (by decide) (hts (.fieldLink RX10 87 "PaneDays" "images" "[LPaneDays$Past;") (List.mem_of_getElem? (i := 2) rfl)) (fun _ h9 => h9) rfl dX10_image_33 ?_
  refine lv_aload_n hx hb dX10_image_36 rfl (lv_at hl 1 rfl) ?_
  refine va_get (D := D) (ci := 10) (v := .int (nI j)) (C := RX10) (T := TX10) (N := 16) hx hb hts in_X10_image_X10 hown hK hP 0 rfl rfl 13 (by decide) (hts (.fieldLink RX10 123 "PaneDays" "imageCount" "I") (List.mem_of_getElem? (i := 1) rfl)) (fun _ h9 => h9) rfl dX10_image_37 ?_
  refine lv_aload_n hx hb dX10_image_40 rfl (lv_at hl 0 rfl) ?_
  refine va_astq (r := (RX4, TX4, 3)) hx hb hK hP hD hS 2 5 3 4 rfl rfl rfl rfl hin dX10_image_41 (fun H locs (hP : va_P D vwCl (sI cs a0 p0 (nI j) i14 v15 (va_up IM (nI j).toNatClampNeg (some ra)) ra P 0 (fun _ => none) (fun n => P (10 + n)) g_0 (fun _ _ => 0) (fun _ => g_0) pp (nI k) B pn gn Q G).flatten H) (hD : va_D _ (sI cs a0 p0 (nI j) i14 v15 (va_up IM (nI j).toNatClampNeg (some ra)) ra P 0 (fun _ => none) (fun n => P (10 + n)) g_0 (fun _ _ => 0) (fun _ => g_0) pp (nI k) B pn gn Q G).flatten) hS => ?_)
  rw [hcl] at hP hD
  exact w_X10_image_42 C0 hN a0 p0 j hj i14 v15 (va_up IM j (some ra)) ra P 0 (fun _ => none) (fun n => P (10 + n)) g_0 (fun _ _ => 0) (fun _ => g_0) pp k hk B hB pn gn Q G (by omega) (by omega) (fun u => (ra, P, u)) (fun _ h => h) (fun _ => rfl) H locs ls hP hD hS (lv_sub hl [1, 0] rfl)
set_option maxHeartbeats 4000000 in
set_option maxRecDepth 100000 in
theorem c_X10_restore0 (l : Launch) (D : va_G) (cs : Nat → ClassId) (sz a0 : Nat) (p0 : Nat → Nat) (i14 : Int32) (v15 : Nat → Int32) : MJ l D cs yX10_restore wsX10_restore (rm_X10_image 0 0) [.ref a0] sz [wX10 cs a0 p0 0 i14 v15].flatten (fun (_ : Unit) => True) (fun _ => [wX10 cs a0 p0 0 i14 v15].flatten) (-1) 0 0 := by
  refine ow_enterN (cc := cX10_restore) (nL := 2) (ret := some .int) (by decide) rfl (Nat.le_of_ble_eq_true rfl) (fun p e s m below meth c ls H locs C0 hN hnm hP hD hS hA hl => ?_)
  obtain ⟨hx, hb, hr, hlk, hml, hown, hts, hK, hG, hE⟩ := id C0
  have hl : lv_has ls 2 [(0, .ref a0)] := hl
  refine lv_aload_n hx hb dX10_restore_0 rfl (lv_at hl 0 rfl) ?_
  refine va_get (D := D) (ci := 10) (v := .int 0) (C := RX10) (T := TX10) (N := 16) hx hb hts in_X10_restore_X10 hown hK hP 0 rfl rfl 13 (by decide) (hts (.fieldLink RX10 123 "PaneDays" "imageCount" "I") (List.mem_of_getElem? (i := 1) rfl)) (fun _ h9 => h9) rfl dX10_restore_1 ?_
  refine lv_if_ne (tgt := 9) hx hb dX10_restore_4 (by decide) (fun hc => absurd rfl hc) (fun hc => ?_)
  refine lv_iconst (v := -1) hx hb dX10_restore_7 (by decide) ?_
  exact ow_retJ C0 () trivial hP hD hS (Nat.le_refl _) (Nat.le_refl _) dX10_restore_8
set_option maxHeartbeats 4000000 in
set_option maxRecDepth 100000 in
theorem c_X10_restore1 (l : Launch) (D : va_G) (cs : Nat → ClassId) (sz a0 : Nat) (p0 : Nat → Nat) (j : Nat) (hj : j < 2) (i14 : Int32) (v15 : Nat → Int32) (IM : Nat → Option Nat) (a1 : Nat) (hIM : IM j = some a1) (p1 : Nat → Nat) (B1 : Nat → Option Nat) (pm : Nat → Nat) (gm : GC) (Q1 : Nat → Nat → Nat) (G1 : Nat → GC) (pp : Nat → Nat) (i2 : Int32) (k : Nat) (hk : k ≤ 8) (B : Nat → Option Nat) (hB1 : ∀ i, i < k → (B1 i).isSome = true) (pn : Nat → Nat) (gn : GC) (Q : Nat → Nat → Nat) (G : Nat → GC) :
    MJ l D cs yX10_restore wsX10_restore (rm_X10_image (4 * nulN B k) (2689 * nulN B k)) [.ref a0] sz (sI cs a0 p0 (nI (j + 1)) i14 v15 IM a1 p1 (nI k) B1 pm gm Q1 G1 pp i2 B pn gn Q G).flatten (fun (u : (Nat → Option Nat) × (Nat → Nat → Nat) × (Nat → GC)) => cpOk B u.1 G G1 u.2.2 k) (fun u => (sI cs a0 p0 (nI j) 0 v15 IM a1 p1 (nI k) B1 pm gm Q1 G1 pp (nI k) u.1 pn (g_cp gn gm) u.2.1 u.2.2).flatten) (nI j) (4 * nulN B k) (2689 * nulN B k) := by
  refine ow_enterN (cc := cX10_restore) (nL := 2) (ret := some .int) (by decide) rfl (Nat.le_of_ble_eq_true rfl) (fun p e s m below meth c ls H locs C0 hN hnm hP hD hS hA hl => ?_)
  obtain ⟨hx, hb, hr, hlk, hml, hown, hts, hK, hG, hE⟩ := id C0
  have hl : lv_has ls 2 [(0, .ref a0)] := hl
  have hsub : nI (j + 1) - 1 = nI j := nI_pred j
  refine lv_aload_n hx hb dX10_restore_0 rfl (lv_at hl 0 rfl) ?_
  refine va_get (D := D) (ci := 10) (v := .int (nI (j + 1))) (C := RX10) (T := TX10) (N := 16) hx hb hts in_X10_restore_X10 hown hK hP 0 rfl rfl 13 (by decide) (hts (.fieldLink RX10 123 "PaneDays" "imageCount" "I") (List.mem_of_getElem? (i := 1) rfl)) (fun _ h9 => h9) rfl dX10_restore_1 ?_
  refine lv_if_ne (tgt := 9) hx hb dX10_restore_4 (by decide) (fun hc => ?_) (fun hc => absurd hc (nI_ne0 (by omega) (by omega)))
  refine lv_aload_n hx hb dX10_restore_9 rfl (lv_at hl 0 rfl) ?_
  refine lv_dup hx hb dX10_restore_10 rfl ?_
  refine va_get (D := D) (ci := 10) (v := .int (nI (j + 1))) (C := RX10) (T := TX10) (N := 16) hx hb hts in_X10_restore_X10 hown hK hP 0 rfl rfl 13 (by decide) (hts (.fieldLink RX10 123 "PaneDays" "imageCount" "I") (List.mem_of_getElem? (i := 1) rfl)) (fun _ h9 => h9) rfl dX10_restore_11 ?_
  refine lv_iconst (v := 1) hx hb dX10_restore_14 (by decide) ?_
  refine lv_isub hx hb dX10_restore_15 ?_
  rw [hsub]
  refine va_put (D := D) (ci := 10) (v := .int (nI j)) (ty := .int) (C := RX10) (T := TX10) (N := 16) hx hb hts in_X10_restore_X10 tyX10 tyX10_ok nmX10 hown hK hP hD hS 0 rfl rfl 13 (by decide) (hts (.fieldLink RX10 123 "PaneDays" "imageCount" "I") (List.mem_of_getElem? (i := 1) rfl)) (fun _ h9 => h9) rfl (by decide +kernel) rfl rfl (Nat.le_of_ble_eq_true rfl) dX10_restore_16 (fun H locs (hP : va_P D vwCl (sI cs a0 p0 (nI j) i14 v15 IM a1 p1 (nI k) B1 pm gm Q1 G1 pp i2 B pn gn Q G).flatten H) (hD : va_D _ (sI cs a0 p0 (nI j) i14 v15 IM a1 p1 (nI k) B1 pm gm Q1 G1 pp i2 B pn gn Q G).flatten) hS => ?_)
  refine lv_aload_n hx hb dX10_restore_19 rfl (lv_at hl 0 rfl) ?_
  refine va_get (D := D) (ci := 10) (v := .ref (p0 12)) (C := RX10) (T := TX10) (N := 16) hx hb hts in_X10_restore_X10 hown hK hP 0 rfl rfl 12 (by decide) (hts (.fieldLink RX10 87 "PaneDays" "images" "[LPaneDays$Past;") (List.mem_of_getElem? (i := 2) rfl)) (fun _ h9 => h9) rfl dX10_restore_20 ?_
  refine lv_aload_n hx hb dX10_restore_23 rfl (lv_at hl 0 rfl) ?_
  refine va_get (D := D) (ci := 10) (v := .int (nI j)) (C := RX10) (T := TX10) (N := 16) hx hb hts in_X10_restore_X10 hown hK hP 0 rfl rfl 13 (by decide) (hts (.fieldLink RX10 123 "PaneDays" "imageCount" "I") (List.mem_of_getElem? (i := 1) rfl)) (fun _ h9 => h9) rfl dX10_restore_24 ?_
  refine va_aldq hx hb hK hP 2 5 rfl rfl (vp_in_nI hj (by decide)) dX10_restore_27 ?_
  rw [nI_clamp (by omega), hIM]
  refine lv_astore_n (lv' := [(1, .ref a1), (0, .ref a0)]) hx hb dX10_restore_28 rfl hl (by decide) rfl (fun ls hl => ?_)
  refine lv_aload_n hx hb dX10_restore_29 rfl (lv_at hl 0 rfl) ?_
  refine lv_ifnull hx hb dX10_restore_30 ?_
  refine lv_aload_n hx hb dX10_restore_33 rfl (lv_at hl 1 rfl) ?_
  refine va_get (D := D) (ci := 10) (v := .ref (p0 9)) (C := RX10) (T := TX10) (N := 16) hx hb hts in_X10_restore_X10 hown hK hP 0 rfl rfl 9 (by decide) (hts (.fieldLink RX10 63 "PaneDays" "past" "LPaneDays$Past;") (List.mem_of_getElem? (i := 3) rfl)) (fun _ h9 => h9) rfl dX10_restore_34 ?_
  refine lv_aload_n hx hb dX10_restore_37 rfl (lv_at hl 0 rfl) ?_
  refine ow_gVO (As := [.ref a1]) (rest := []) (sg := sI cs a0 p0 (nI j) i14 v15 IM a1 p1 (nI k) B1 pm gm Q1 G1 pp i2 B pn gn Q G) (sc := sC4 cs (p0 9) pp i2 B pn gn Q G a1 p1 (nI k) B1 pm gm Q1 G1) (sr := [wX10 cs a0 p0 (nI j) i14 v15, [imgA cs (p0 12) IM]]) (sc' := fun (u : (Nat → Option Nat) × (Nat → Nat → Nat) × (Nat → GC)) => sC4 cs (p0 9) pp (nI k) u.1 pn (g_cp gn gm) u.2.1 u.2.2 a1 p1 (nI k) B1 pm gm Q1 G1) (sf := fun u => sI cs a0 p0 (nI j) i14 v15 IM a1 p1 (nI k) B1 pm gm Q1 G1 pp (nI k) u.1 pn (g_cp gn gm) u.2.1 u.2.2) C0 hN (c_X4_copy l D cs H.size (p0 9) pp i2 B pn gn Q G a1 p1 k hk B1 hB1 pm gm Q1 G1) (cwV 1 hts gX10_restore_X4_copy rfl rfl rfl (by decide +kernel) ⟨Nat.le_of_ble_eq_true rfl, Nat.le_of_ble_eq_true rfl⟩) 4 rfl rfl hP hD hS (sg_permL [5, 6, 7, 2, 3, 4] [0, 1] 8 rfl (by decide) rfl rfl) (fun _ => sg_permG [0, 1, 5, 6, 7, 2, 3, 4] 8 rfl (by decide) rfl) rfl hl.1 rfl (Nat.le_of_ble_eq_true rfl) ⟨by show 0 + 4 * nulN B k ≤ 4 * nulN B k; omega, by show 0 + 2689 * nulN B k ≤ 2689 * nulN B k; omega⟩ dX10_restore_38 (fun u H locs hok1 hP hD hS => ?_)
  refine lv_aload_n hx hb dX10_restore_41 rfl (lv_at hl 1 rfl) ?_
  refine lv_iconst (v := 0) hx hb dX10_restore_42 (by decide) ?_
  refine va_put (D := D) (ci := 10) (v := .int 0) (ty := .int) (C := RX10) (T := TX10) (N := 16) hx hb hts in_X10_restore_X10 tyX10 tyX10_ok nmX10 hown hK hP hD hS 0 rfl rfl 14 (by decide) (hts (.fieldLink RX10 126 "PaneDays" "refusedSteps" "I") (List.mem_of_getElem? (i := 4) rfl)) (fun _ h9 => h9) rfl (by decide +kernel) rfl rfl (Nat.le_of_ble_eq_true rfl) dX10_restore_43 (fun H locs (hP : va_P D vwCl (sI cs a0 p0 (nI j) 0 v15 IM a1 p1 (nI k) B1 pm gm Q1 G1 pp (nI k) u.1 pn (g_cp gn gm) u.2.1 u.2.2).flatten H) (hD : va_D _ (sI cs a0 p0 (nI j) 0 v15 IM a1 p1 (nI k) B1 pm gm Q1 G1 pp (nI k) u.1 pn (g_cp gn gm) u.2.1 u.2.2).flatten) hS => ?_)
  refine lv_aload_n hx hb dX10_restore_46 rfl (lv_at hl 1 rfl) ?_
  refine va_get (D := D) (ci := 10) (v := .int (nI j)) (C := RX10) (T := TX10) (N := 16) hx hb hts in_X10_restore_X10 hown hK hP 0 rfl rfl 13 (by decide) (hts (.fieldLink RX10 123 "PaneDays" "imageCount" "I") (List.mem_of_getElem? (i := 1) rfl)) (fun _ h9 => h9) rfl dX10_restore_47 ?_
  exact ow_retJ C0 u hok1 hP hD hS (by omega) (by omega) dX10_restore_50

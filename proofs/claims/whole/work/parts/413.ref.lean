theorem in_X11_pane_X11 : ∀ w ∈ u_ws RX11 TX11 44, w ∈ wsX11_pane := fun w h => List.mem_cons_of_mem _ (List.mem_append_right _ h)
abbrev W_X11_pane (cs : Nat → ClassId) (a0 : Nat) (p0 : Nat → Nat) (i0_0 : Int32) (i0_1 : Int32) (i0_2 : Int32) (i0_3 : Int32) (i0_4 : Int32) (i0_5 : Int32) (i0_6 : Int32) (i0_7 : Int32) (i0_8 : Int32) (i0_19 : Int32) (i0_20 : Int32) (i0_28 : Int32) (i0_33 : Int32) (i0_34 : Int32) (i0_35 : Int32) (i0_36 : Int32) (i0_37 : Int32) (i0_38 : Int32) (i0_39 : Int32) (i0_40 : Int32) (i0_41 : Int32) (i0_42 : Int32) (i0_43 : Int32) (v0_10 : Nat → Int32) (v0_12 : Nat → Int32) (v0_29 : Nat → Int32) (r0_14 : Nat → Nat) (g0_14 : Nat → Nat → Int32) : va_W := [(a0, .inr (11, [.int i0_0, .int i0_1, .int i0_2, .int i0_3, .int i0_4, .int i0_5, .int i0_6, .int i0_7, .int i0_8, .ref (p0 9), .ref (p0 10), .ref (p0 11), .ref (p0 12), .ref (p0 13), .ref (p0 14), .ref (p0 15), .ref (p0 16), .ref (p0 17), .ref (p0 18), .int i0_19, .int i0_20, .ref (p0 21), .ref (p0 22), .ref (p0 23), .ref (p0 24), .ref (p0 25), .ref (p0 26), .ref (p0 27), .int i0_28, .ref (p0 29), .ref (p0 30), .ref (p0 31), .ref (p0 32), .int i0_33, .int i0_34, .int i0_35, .int i0_36, .int i0_37, .int i0_38, .int i0_39, .int i0_40, .int i0_41, .int i0_42, .int i0_43])), (p0 10, .inl (cs 0, 3, .inl v0_10)), (p0 12, .inl (cs 0, 6, .inl v0_12)), (p0 29, .inl (cs 0, 2685, .inl v0_29)), gOut cs (p0 14) 5 r0_14] ++ (gRow cs 5 4 r0_14 g0_14 ++ [])
abbrev S_X11_pane (cs : Nat → ClassId) (a0 : Nat) (p0 : Nat → Nat) (i0_0 : Int32) (i0_1 : Int32) (i0_2 : Int32) (i0_3 : Int32) (i0_4 : Int32) (i0_5 : Int32) (i0_6 : Int32) (i0_7 : Int32) (i0_8 : Int32) (i0_19 : Int32) (i0_20 : Int32) (i0_28 : Int32) (i0_33 : Int32) (i0_34 : Int32) (i0_35 : Int32) (i0_36 : Int32) (i0_37 : Int32) (i0_38 : Int32) (i0_39 : Int32) (i0_40 : Int32) (i0_41 : Int32) (i0_42 : Int32) (i0_43 : Int32) (v0_10 : Nat → Int32) (v0_12 : Nat → Int32) (v0_29 : Nat → Int32) (r0_14 : Nat → Nat) (g0_14 : Nat → Nat → Int32) : List va_W := [[(a0, .inr (11, [.int i0_0, .int i0_1, .int i0_2, .int i0_3, .int i0_4, .int i0_5, .int i0_6, .int i0_7, .int i0_8, .ref (p0 9), .ref (p0 10), .ref (p0 11), .ref (p0 12), .ref (p0 13), .ref (p0 14), .ref (p0 15), .ref (p0 16), .ref (p0 17), .ref (p0 18), .int i0_19, .int i0_20, .ref (p0 21), .ref (p0 22), .ref (p0 23), .ref (p0 24), .ref (p0 25), .ref (p0 26), .ref (p0 27), .int i0_28, .ref (p0 29), .ref (p0 30), .ref (p0 31), .ref (p0 32), .int i0_33, .int i0_34, .int i0_35, .int i0_36, .int i0_37, .int i0_38, .int i0_39, .int i0_40, .int i0_41, .int i0_42, .int i0_43]))], [(p0 10, .inl (cs 0, 3, .inl v0_10))], [(p0 12, .inl (cs 0, 6, .inl v0_12))], [(p0 29, .inl (cs 0, 2685, .inl v0_29))], [gOut cs (p0 14) 5 r0_14], gRow cs 5 4 r0_14 g0_14]
abbrev rm_X11_pane : Room := { frames := 2, cells := 0, slots := 0, locals := 43 }
def f_X11_pane_b42  (v0_12 : Nat → Int32) (v0_29 : Nat → Int32) (g0_14 : Nat → Nat → Int32)  (i0_0 : Int32) (v0_10 : Nat → Int32) (x1 : Int32) (x2 : Int32) (t1 : Int32) : Option (Int32 × Int32 × (Nat → Int32)) := (f_X11_bad i0_0 v0_10 t1 (2) (2)).bind fun q44 => if q44.1 = 0 then (if 4 ≤ x2 then (if x2 = 4 then ((f_X11_onPane 2685 v0_29 x1).bind fun q78 => some (q78, q44.2.1, q44.2.2)) else (some (((v0_29 (2681 : Int32).toNatClampNeg) >>> (x1 &&& 31)) &&& 1, q44.2.1, q44.2.2))) else (ck x1 5 (ck x2 4 (some ((g0_14 (x1).toNatClampNeg) (x2).toNatClampNeg, q44.2.1, q44.2.2))))) else (some (0, q44.2.1, q44.2.2))
set_option maxHeartbeats 4000000 in
set_option maxRecDepth 100000 in
theorem w_X11_pane_b42 {p : Program} {l : Launch} {e : Env} {s : State} {m : MethodId} {below : List Frame} {meth : Method} {c : Code} {D : va_G} {cs : Nat → ClassId} {av : Array Value} {w0 : va_W} (C0 : Cx p s m meth c av wsX11_pane cX11_pane 3 (some .int) RX11 D cs w0)  (a0 : Nat) (p0 : Nat → Nat) (i0_1 : Int32) (i0_2 : Int32) (i0_3 : Int32) (i0_4 : Int32) (i0_5 : Int32) (i0_6 : Int32) (i0_7 : Int32) (i0_8 : Int32) (i0_19 : Int32) (i0_20 : Int32) (i0_28 : Int32) (i0_33 : Int32) (i0_34 : Int32) (i0_35 : Int32) (i0_36 : Int32) (i0_37 : Int32) (i0_38 : Int32) (i0_39 : Int32) (i0_40 : Int32) (i0_41 : Int32) (i0_42 : Int32) (i0_43 : Int32) (v0_12 : Nat → Int32) (v0_29 : Nat → Int32) (r0_14 : Nat → Nat) (g0_14 : Nat → Nat → Int32) (res : Int32 × Int32 × (Nat → Int32))  : ∀ (i0_0 : Int32) (v0_10 : Nat → Int32) (x1 : Int32) (x2 : Int32) (t1 : Int32), f_X11_pane_b42 v0_12 v0_29 g0_14 i0_0 v0_10 x1 x2 t1 = some res → ∀ (H : Heap) (locs : List Loc) (ls : Array Slot), va_P D vwCl (W_X11_pane cs a0 p0 i0_0 i0_1 i0_2 i0_3 i0_4 i0_5 i0_6 i0_7 i0_8 i0_19 i0_20 i0_28 i0_33 i0_34 i0_35 i0_36 i0_37 i0_38 i0_39 i0_40 i0_41 i0_42 i0_43 v0_10 v0_12 v0_29 r0_14 g0_14) H → va_D (va_A w0 s.heap.size) (W_X11_pane cs a0 p0 i0_0 i0_1 i0_2 i0_3 i0_4 i0_5 i0_6 i0_7 i0_8 i0_19 i0_20 i0_28 i0_33 i0_34 i0_35 i0_36 i0_37 i0_38 i0_39 i0_40 i0_41 i0_42 i0_43 v0_10 v0_12 v0_29 r0_14 g0_14) → va_S (va_A w0 s.heap.size) s.heap H locs → lv_has ls 3 [(0, .ref a0), (1, .int x1), (2, .int x2)] → W p l e rm_X11_pane s m av below meth c H locs 0 0 (MQ below (oI D cs w0 (W_X11_pane cs a0 p0 res.2.1 i0_1 i0_2 i0_3 i0_4 i0_5 i0_6 i0_7 i0_8 i0_19 i0_20 i0_28 i0_33 i0_34 i0_35 i0_36 i0_37 i0_38 i0_39 i0_40 i0_41 i0_42 i0_43 res.2.2 v0_12 v0_29 r0_14 g0_14) res.1 s.heap.size) av s 0 0 (va_A w0 s.heap.size)) (F0 m 42 ls [.int t1, .ref a0]) := by
  obtain ⟨hx, hb, hr, hlk, hml, hown, hts, hK, hG, hE⟩ := id C0
  intro i0_0 v0_10 x1 x2 t1 hf H locs ls hP hD hS hl
  rw [f_X11_pane_b42] at hf
  refine lv_iconst (v := 2) hx hb dX11_pane_42 (by decide) ?_
  refine lv_iconst (v := 2) hx hb dX11_pane_43 (by decide) ?_
  obtain ⟨q44, hq, hf⟩ := bd_some hf
  refine ow_gVI (As := [.int t1, .int 2, .int 2]) (rest := []) (sg := (S_X11_pane cs a0 p0 i0_0 i0_1 i0_2 i0_3 i0_4 i0_5 i0_6 i0_7 i0_8 i0_19 i0_20 i0_28 i0_33 i0_34 i0_35 i0_36 i0_37 i0_38 i0_39 i0_40 i0_41 i0_42 i0_43 v0_10 v0_12 v0_29 r0_14 g0_14)) (sc := (S_X11_bad cs a0 p0 i0_0 i0_1 i0_2 i0_3 i0_4 i0_5 i0_6 i0_7 i0_8 i0_19 i0_20 i0_28 i0_33 i0_34 i0_35 i0_36 i0_37 i0_38 i0_39 i0_40 i0_41 i0_42 i0_43 v0_10)) (sc' := (S_X11_bad cs a0 p0 q44.2.1 i0_1 i0_2 i0_3 i0_4 i0_5 i0_6 i0_7 i0_8 i0_19 i0_20 i0_28 i0_33 i0_34 i0_35 i0_36 i0_37 i0_38 i0_39 i0_40 i0_41 i0_42 i0_43 q44.2.2)) (sr := ow_pks (S_X11_pane cs a0 p0 i0_0 i0_1 i0_2 i0_3 i0_4 i0_5 i0_6 i0_7 i0_8 i0_19 i0_20 i0_28 i0_33 i0_34 i0_35 i0_36 i0_37 i0_38 i0_39 i0_40 i0_41 i0_42 i0_43 v0_10 v0_12 v0_29 r0_14 g0_14) [2, 3, 4, 5]) (sf := (S_X11_pane cs a0 p0 q44.2.1 i0_1 i0_2 i0_3 i0_4 i0_5 i0_6 i0_7 i0_8 i0_19 i0_20 i0_28 i0_33 i0_34 i0_35 i0_36 i0_37 i0_38 i0_39 i0_40 i0_41 i0_42 i0_43 q44.2.2 v0_12 v0_29 r0_14 g0_14)) (r := q44.1) C0 (c_X11_bad l D cs H.size a0 p0 i0_0 i0_1 i0_2 i0_3 i0_4 i0_5 i0_6 i0_7 i0_8 i0_19 i0_20 i0_28 i0_33 i0_34 i0_35 i0_36 i0_37 i0_38 i0_39 i0_40 i0_41 i0_42 i0_43 v0_10 t1 (2) (2) q44 hq) (cwV 3 hts gX11_pane_X11_bad rfl rfl rfl (by decide +kernel) ⟨Nat.le_of_ble_eq_true rfl, Nat.le_of_ble_eq_true rfl⟩) 11 rfl rfl hP hD hS (sg_perm (isC := [0, 1]) (isR := [2, 3, 4, 5]) rfl rfl rfl) (sg_permF (is := [4, 5, 0, 1, 2, 3]) rfl rfl) rfl hl.1 rfl (Nat.le_of_ble_eq_true rfl) ⟨Nat.zero_le _, Nat.zero_le _⟩ dX11_pane_44 (fun H locs hP hD hS => ?_)
  refine lv_if_eq (tgt := 52) hx hb dX11_pane_47 (by decide) (fun hc => ?_) (fun hc => ?_)
  · replace hf := ow_t hc hf
    refine lv_iload_n hx hb dX11_pane_52 rfl (lv_at hl 2 rfl) ?_
    refine lv_iconst (v := 4) hx hb dX11_pane_53 (by decide) ?_
    refine lv_icmp_ge (tgt := 68) hx hb dX11_pane_54 (by decide) (fun hc => ?_) (fun hc => ?_)
    · replace hf := ow_t hc hf
      refine lv_iload_n hx hb dX11_pane_68 rfl (lv_at hl 2 rfl) ?_
      refine lv_iconst (v := 4) hx hb dX11_pane_69 (by decide) ?_
      refine lv_icmp_ne (tgt := 84) hx hb dX11_pane_70 (by decide) (fun hc => ?_) (fun hc => ?_)
      · replace hf := ow_f hc hf
        refine lv_aload_n hx hb dX11_pane_84 rfl (lv_at hl 0 rfl) ?_
        refine va_get (D := D) (ci := 11) (v := .ref (p0 29)) (C := RX11) (T := TX11) (N := 44) hx hb hts in_X11_pane_X11 hown hK hP 0 rfl rfl 29 (by decide) (hts (.fieldLink RX11 67 "PaneDaysModel" "now" "[I") (List.mem_of_getElem? (i := 3) rfl)) (fun _ h9 => h9) rfl dX11_pane_85 ?_
        refine lv_sipush (v := 2681) hx hb dX11_pane_88 (by decide) ?_
        refine va_iald (f := v0_29) hx hb hK hP 3 0 rfl rfl (vp_in_nI (n := 2681) (by decide) (by decide)) dX11_pane_91 ?_
        refine lv_iload_n hx hb dX11_pane_92 rfl (lv_at hl 1 rfl) ?_
        refine lv_ishr hx hb dX11_pane_93 ?_
        refine lv_iconst (v := 1) hx hb dX11_pane_94 (by decide) ?_
        refine lv_iand hx hb dX11_pane_95 ?_
        obtain rfl := Option.some.inj hf
        exact ow_retI C0 hP hD hS dX11_pane_96
      · replace hf := ow_t hc hf
        refine lv_aload_n hx hb dX11_pane_73 rfl (lv_at hl 0 rfl) ?_
        refine va_get (D := D) (ci := 11) (v := .ref (p0 29)) (C := RX11) (T := TX11) (N := 44) hx hb hts in_X11_pane_X11 hown hK hP 0 rfl rfl 29 (by decide) (hts (.fieldLink RX11 67 "PaneDaysModel" "now" "[I") (List.mem_of_getElem? (i := 3) rfl)) (fun _ h9 => h9) rfl dX11_pane_74 ?_
        refine lv_iload_n hx hb dX11_pane_77 rfl (lv_at hl 1 rfl) ?_
        obtain ⟨q78, hq, hf⟩ := bd_some hf
        refine ow_gSI (As := [.ref (p0 29), .int x1]) (rest := []) (sg := (S_X11_pane cs a0 p0 q44.2.1 i0_1 i0_2 i0_3 i0_4 i0_5 i0_6 i0_7 i0_8 i0_19 i0_20 i0_28 i0_33 i0_34 i0_35 i0_36 i0_37 i0_38 i0_39 i0_40 i0_41 i0_42 i0_43 q44.2.2 v0_12 v0_29 r0_14 g0_14)) (sc := (S_X11_onPane cs (p0 29) 2685 v0_29)) (sc' := (S_X11_onPane cs (p0 29) 2685 v0_29)) (sr := ow_pks (S_X11_pane cs a0 p0 q44.2.1 i0_1 i0_2 i0_3 i0_4 i0_5 i0_6 i0_7 i0_8 i0_19 i0_20 i0_28 i0_33 i0_34 i0_35 i0_36 i0_37 i0_38 i0_39 i0_40 i0_41 i0_42 i0_43 q44.2.2 v0_12 v0_29 r0_14 g0_14) [0, 1, 2, 4, 5]) (sf := (S_X11_pane cs a0 p0 q44.2.1 i0_1 i0_2 i0_3 i0_4 i0_5 i0_6 i0_7 i0_8 i0_19 i0_20 i0_28 i0_33 i0_34 i0_35 i0_36 i0_37 i0_38 i0_39 i0_40 i0_41 i0_42 i0_43 q44.2.2 v0_12 v0_29 r0_14 g0_14)) (r := q78) C0 (c_X11_onPane l D cs H.size (p0 29) 2685 v0_29 x1 q78 hq) (va_cwS 2 hts gX11_pane_X11_onPane rfl rfl rfl (by decide +kernel) ⟨Nat.le_of_ble_eq_true rfl, Nat.le_of_ble_eq_true rfl⟩) hP hD hS (sg_perm (isC := [3]) (isR := [0, 1, 2, 4, 5]) rfl rfl rfl) (sg_permF (is := [0, 1, 2, 5, 3, 4]) rfl rfl) rfl hl.1 rfl (Nat.le_of_ble_eq_true rfl) ⟨Nat.zero_le _, Nat.zero_le _⟩ dX11_pane_78 (fun H locs hP hD hS => ?_)
        refine lv_goto (tgt := 96) hx hb dX11_pane_81 (by decide) ?_
        obtain rfl := Option.some.inj hf
        exact ow_retI C0 hP hD hS dX11_pane_96
    · replace hf := ow_f hc hf
      refine lv_aload_n hx hb dX11_pane_57 rfl (lv_at hl 0 rfl) ?_
      refine va_get (D := D) (ci := 11) (v := .ref (p0 14)) (C := RX11) (T := TX11) (N := 44) hx hb hts in_X11_pane_X11 hown hK hP 0 rfl rfl 14 (by decide) (hts (.fieldLink RX11 31 "PaneDaysModel" "pane" "[[I") (List.mem_of_getElem? (i := 2) rfl)) (fun _ h9 => h9) rfl dX11_pane_58 ?_
      refine lv_iload_n hx hb dX11_pane_61 rfl (lv_at hl 1 rfl) ?_
      obtain ⟨hr62, hf⟩ := ck_some hf
      refine ow_aald (rr := r0_14) hx hb hK hP 4 rfl hr62 dX11_pane_62 ?_
      refine lv_iload_n hx hb dX11_pane_63 rfl (lv_at hl 2 rfl) ?_
      obtain ⟨hin, hf⟩ := ck_some hf
      refine va_iald (f := g0_14 (x1).toNatClampNeg) hx hb hK hP (5 + (x1).toNatClampNeg) 0 (gr_skip rfl (gr_head (vp_lt hr62))) rfl hin dX11_pane_64 ?_
      refine lv_goto (tgt := 96) hx hb dX11_pane_65 (by decide) ?_
      obtain rfl := Option.some.inj hf
      exact ow_retI C0 hP hD hS dX11_pane_96
  · replace hf := ow_f hc hf
    refine lv_iconst (v := 0) hx hb dX11_pane_50 (by decide) ?_
    obtain rfl := Option.some.inj hf
    exact ow_retI C0 hP hD hS dX11_pane_51
def f_X11_pane_b19  (v0_12 : Nat → Int32) (v0_29 : Nat → Int32) (g0_14 : Nat → Nat → Int32)  (i0_0 : Int32) (v0_10 : Nat → Int32) (x1 : Int32) (x2 : Int32) (t1 : Int32) : Option (Int32 × Int32 × (Nat → Int32)) := (f_X11_bad i0_0 v0_10 t1 (1) (1)).bind fun q21 => if q21.1 = 0 then ((f_X11_in x2 (0) (5)).bind fun q31 => if q31 = 0 then (f_X11_pane_b42 v0_12 v0_29 g0_14 q21.2.1 q21.2.2 x1 x2 (1)) else (f_X11_pane_b42 v0_12 v0_29 g0_14 q21.2.1 q21.2.2 x1 x2 (0))) else (some (0, q21.2.1, q21.2.2))
set_option maxHeartbeats 4000000 in
set_option maxRecDepth 100000 in
theorem w_X11_pane_b19 {p : Program} {l : Launch} {e : Env} {s : State} {m : MethodId} {below : List Frame} {meth : Method} {c : Code} {D : va_G} {cs : Nat → ClassId} {av : Array Value} {w0 : va_W} (C0 : Cx p s m meth c av wsX11_pane cX11_pane 3 (some .int) RX11 D cs w0)  (a0 : Nat) (p0 : Nat → Nat) (i0_1 : Int32) (i0_2 : Int32) (i0_3 : Int32) (i0_4 : Int32) (i0_5 : Int32) (i0_6 : Int32) (i0_7 : Int32) (i0_8 : Int32) (i0_19 : Int32) (i0_20 : Int32) (i0_28 : Int32) (i0_33 : Int32) (i0_34 : Int32) (i0_35 : Int32) (i0_36 : Int32) (i0_37 : Int32) (i0_38 : Int32) (i0_39 : Int32) (i0_40 : Int32) (i0_41 : Int32) (i0_42 : Int32) (i0_43 : Int32) (v0_12 : Nat → Int32) (v0_29 : Nat → Int32) (r0_14 : Nat → Nat) (g0_14 : Nat → Nat → Int32) (res : Int32 × Int32 × (Nat → Int32))  : ∀ (i0_0 : Int32) (v0_10 : Nat → Int32) (x1 : Int32) (x2 : Int32) (t1 : Int32), f_X11_pane_b19 v0_12 v0_29 g0_14 i0_0 v0_10 x1 x2 t1 = some res → ∀ (H : Heap) (locs : List Loc) (ls : Array Slot), va_P D vwCl (W_X11_pane cs a0 p0 i0_0 i0_1 i0_2 i0_3 i0_4 i0_5 i0_6 i0_7 i0_8 i0_19 i0_20 i0_28 i0_33 i0_34 i0_35 i0_36 i0_37 i0_38 i0_39 i0_40 i0_41 i0_42 i0_43 v0_10 v0_12 v0_29 r0_14 g0_14) H → va_D (va_A w0 s.heap.size) (W_X11_pane cs a0 p0 i0_0 i0_1 i0_2 i0_3 i0_4 i0_5 i0_6 i0_7 i0_8 i0_19 i0_20 i0_28 i0_33 i0_34 i0_35 i0_36 i0_37 i0_38 i0_39 i0_40 i0_41 i0_42 i0_43 v0_10 v0_12 v0_29 r0_14 g0_14) → va_S (va_A w0 s.heap.size) s.heap H locs → lv_has ls 3 [(0, .ref a0), (1, .int x1), (2, .int x2)] → W p l e rm_X11_pane s m av below meth c H locs 0 0 (MQ below (oI D cs w0 (W_X11_pane cs a0 p0 res.2.1 i0_1 i0_2 i0_3 i0_4 i0_5 i0_6 i0_7 i0_8 i0_19 i0_20 i0_28 i0_33 i0_34 i0_35 i0_36 i0_37 i0_38 i0_39 i0_40 i0_41 i0_42 i0_43 res.2.2 v0_12 v0_29 r0_14 g0_14) res.1 s.heap.size) av s 0 0 (va_A w0 s.heap.size)) (F0 m 19 ls [.int t1, .ref a0]) := by
  obtain ⟨hx, hb, hr, hlk, hml, hown, hts, hK, hG, hE⟩ := id C0
  intro i0_0 v0_10 x1 x2 t1 hf H locs ls hP hD hS hl
  rw [f_X11_pane_b19] at hf
  refine lv_iconst (v := 1) hx hb dX11_pane_19 (by decide) ?_
  refine lv_iconst (v := 1) hx hb dX11_pane_20 (by decide) ?_
  obtain ⟨q21, hq, hf⟩ := bd_some hf
  refine ow_gVI (As := [.int t1, .int 1, .int 1]) (rest := []) (sg := (S_X11_pane cs a0 p0 i0_0 i0_1 i0_2 i0_3 i0_4 i0_5 i0_6 i0_7 i0_8 i0_19 i0_20 i0_28 i0_33 i0_34 i0_35 i0_36 i0_37 i0_38 i0_39 i0_40 i0_41 i0_42 i0_43 v0_10 v0_12 v0_29 r0_14 g0_14)) (sc := (S_X11_bad cs a0 p0 i0_0 i0_1 i0_2 i0_3 i0_4 i0_5 i0_6 i0_7 i0_8 i0_19 i0_20 i0_28 i0_33 i0_34 i0_35 i0_36 i0_37 i0_38 i0_39 i0_40 i0_41 i0_42 i0_43 v0_10)) (sc' := (S_X11_bad cs a0 p0 q21.2.1 i0_1 i0_2 i0_3 i0_4 i0_5 i0_6 i0_7 i0_8 i0_19 i0_20 i0_28 i0_33 i0_34 i0_35 i0_36 i0_37 i0_38 i0_39 i0_40 i0_41 i0_42 i0_43 q21.2.2)) (sr := ow_pks (S_X11_pane cs a0 p0 i0_0 i0_1 i0_2 i0_3 i0_4 i0_5 i0_6 i0_7 i0_8 i0_19 i0_20 i0_28 i0_33 i0_34 i0_35 i0_36 i0_37 i0_38 i0_39 i0_40 i0_41 i0_42 i0_43 v0_10 v0_12 v0_29 r0_14 g0_14) [2, 3, 4, 5]) (sf := (S_X11_pane cs a0 p0 q21.2.1 i0_1 i0_2 i0_3 i0_4 i0_5 i0_6 i0_7 i0_8 i0_19 i0_20 i0_28 i0_33 i0_34 i0_35 i0_36 i0_37 i0_38 i0_39 i0_40 i0_41 i0_42 i0_43 q21.2.2 v0_12 v0_29 r0_14 g0_14)) (r := q21.1) C0 (c_X11_bad l D cs H.size a0 p0 i0_0 i0_1 i0_2 i0_3 i0_4 i0_5 i0_6 i0_7 i0_8 i0_19 i0_20 i0_28 i0_33 i0_34 i0_35 i0_36 i0_37 i0_38 i0_39 i0_40 i0_41 i0_42 i0_43 v0_10 t1 (1) (1) q21 hq) (cwV 3 hts gX11_pane_X11_bad rfl rfl rfl (by decide +kernel) ⟨Nat.le_of_ble_eq_true rfl, Nat.le_of_ble_eq_true rfl⟩) 11 rfl rfl hP hD hS (sg_perm (isC := [0, 1]) (isR := [2, 3, 4, 5]) rfl rfl rfl) (sg_permF (is := [4, 5, 0, 1, 2, 3]) rfl rfl) rfl hl.1 rfl (Nat.le_of_ble_eq_true rfl) ⟨Nat.zero_le _, Nat.zero_le _⟩ dX11_pane_21 (fun H locs hP hD hS => ?_)
  refine lv_if_ne (tgt := 50) hx hb dX11_pane_24 (by decide) (fun hc => ?_) (fun hc => ?_)
  · replace hf := ow_f hc hf
    refine lv_iconst (v := 0) hx hb dX11_pane_50 (by decide) ?_
    obtain rfl := Option.some.inj hf
    exact ow_retI C0 hP hD hS dX11_pane_51
  · replace hf := ow_t hc hf
    refine lv_aload_n hx hb dX11_pane_27 rfl (lv_at hl 0 rfl) ?_
    refine lv_iload_n hx hb dX11_pane_28 rfl (lv_at hl 2 rfl) ?_
    refine lv_iconst (v := 0) hx hb dX11_pane_29 (by decide) ?_
    refine lv_iconst (v := 5) hx hb dX11_pane_30 (by decide) ?_
    obtain ⟨q31, hq, hf⟩ := bd_some hf
    refine ow_gSI (As := [.int x2, .int 0, .int 5]) (rest := [.ref a0]) (sg := (S_X11_pane cs a0 p0 q21.2.1 i0_1 i0_2 i0_3 i0_4 i0_5 i0_6 i0_7 i0_8 i0_19 i0_20 i0_28 i0_33 i0_34 i0_35 i0_36 i0_37 i0_38 i0_39 i0_40 i0_41 i0_42 i0_43 q21.2.2 v0_12 v0_29 r0_14 g0_14)) (sc := ([] : List va_W)) (sc' := ([] : List va_W)) (sr := ow_pks (S_X11_pane cs a0 p0 q21.2.1 i0_1 i0_2 i0_3 i0_4 i0_5 i0_6 i0_7 i0_8 i0_19 i0_20 i0_28 i0_33 i0_34 i0_35 i0_36 i0_37 i0_38 i0_39 i0_40 i0_41 i0_42 i0_43 q21.2.2 v0_12 v0_29 r0_14 g0_14) [0, 1, 2, 3, 4, 5]) (sf := (S_X11_pane cs a0 p0 q21.2.1 i0_1 i0_2 i0_3 i0_4 i0_5 i0_6 i0_7 i0_8 i0_19 i0_20 i0_28 i0_33 i0_34 i0_35 i0_36 i0_37 i0_38 i0_39 i0_40 i0_41 i0_42 i0_43 q21.2.2 v0_12 v0_29 r0_14 g0_14)) (r := q31) C0 (c_X11_in l D cs H.size  x2 (0) (5) q31 hq) (va_cwS 3 hts gX11_pane_X11_in rfl rfl rfl (by decide +kernel) ⟨Nat.le_of_ble_eq_true rfl, Nat.le_of_ble_eq_true rfl⟩) hP hD hS (sg_perm (isC := []) (isR := [0, 1, 2, 3, 4, 5]) rfl rfl rfl) (sg_permF (is := [0, 1, 2, 3, 4, 5]) rfl rfl) rfl hl.1 rfl (Nat.le_of_ble_eq_true rfl) ⟨Nat.zero_le _, Nat.zero_le _⟩ dX11_pane_31 (fun H locs hP hD hS => ?_)
    refine lv_if_ne (tgt := 41) hx hb dX11_pane_34 (by decide) (fun hc => ?_) (fun hc => ?_)
    · replace hf := ow_f hc hf
      refine lv_iconst (v := 0) hx hb dX11_pane_41 (by decide) ?_
      exact w_X11_pane_b42 C0 a0 p0 i0_1 i0_2 i0_3 i0_4 i0_5 i0_6 i0_7 i0_8 i0_19 i0_20 i0_28 i0_33 i0_34 i0_35 i0_36 i0_37 i0_38 i0_39 i0_40 i0_41 i0_42 i0_43 v0_12 v0_29 r0_14 g0_14 res q21.2.1 q21.2.2 x1 x2 (0)  hf _ _ _ hP hD hS (lv_sub hl [0, 1, 2] rfl)
    · replace hf := ow_t hc hf
      refine lv_iconst (v := 1) hx hb dX11_pane_37 (by decide) ?_
      refine lv_goto (tgt := 42) hx hb dX11_pane_38 (by decide) ?_
      exact w_X11_pane_b42 C0 a0 p0 i0_1 i0_2 i0_3 i0_4 i0_5 i0_6 i0_7 i0_8 i0_19 i0_20 i0_28 i0_33 i0_34 i0_35 i0_36 i0_37 i0_38 i0_39 i0_40 i0_41 i0_42 i0_43 v0_12 v0_29 r0_14 g0_14 res q21.2.1 q21.2.2 x1 x2 (1)  hf _ _ _ hP hD hS (lv_sub hl [0, 1, 2] rfl)
def f_X11_pane  (i0_0 : Int32) (v0_10 : Nat → Int32) (v0_12 : Nat → Int32) (v0_29 : Nat → Int32) (g0_14 : Nat → Nat → Int32) (x1 : Int32) (x2 : Int32) : Option (Int32 × Int32 × (Nat → Int32)) := (f_X11_isPane v0_12 x1).bind fun q8 => if q8 = 0 then (f_X11_pane_b19 v0_12 v0_29 g0_14 (0) v0_10 x1 x2 (1)) else (f_X11_pane_b19 v0_12 v0_29 g0_14 (0) v0_10 x1 x2 (0))
set_option maxHeartbeats 4000000 in
set_option maxRecDepth 100000 in
theorem c_X11_pane (l : Launch) (D : va_G) (cs : Nat → ClassId)  (sz : Nat) (a0 : Nat) (p0 : Nat → Nat) (i0_0 : Int32) (i0_1 : Int32) (i0_2 : Int32) (i0_3 : Int32) (i0_4 : Int32) (i0_5 : Int32) (i0_6 : Int32) (i0_7 : Int32) (i0_8 : Int32) (i0_19 : Int32) (i0_20 : Int32) (i0_28 : Int32) (i0_33 : Int32) (i0_34 : Int32) (i0_35 : Int32) (i0_36 : Int32) (i0_37 : Int32) (i0_38 : Int32) (i0_39 : Int32) (i0_40 : Int32) (i0_41 : Int32) (i0_42 : Int32) (i0_43 : Int32) (v0_10 : Nat → Int32) (v0_12 : Nat → Int32) (v0_29 : Nat → Int32) (r0_14 : Nat → Nat) (g0_14 : Nat → Nat → Int32) (x1 : Int32) (x2 : Int32) (res : Int32 × Int32 × (Nat → Int32)) (hf : f_X11_pane  i0_0 v0_10 v0_12 v0_29 g0_14 x1 x2 = some res) : MI l D cs yX11_pane wsX11_pane rm_X11_pane [.ref a0, .int x1, .int x2] sz (W_X11_pane cs a0 p0 i0_0 i0_1 i0_2 i0_3 i0_4 i0_5 i0_6 i0_7 i0_8 i0_19 i0_20 i0_28 i0_33 i0_34 i0_35 i0_36 i0_37 i0_38 i0_39 i0_40 i0_41 i0_42 i0_43 v0_10 v0_12 v0_29 r0_14 g0_14) (W_X11_pane cs a0 p0 res.2.1 i0_1 i0_2 i0_3 i0_4 i0_5 i0_6 i0_7 i0_8 i0_19 i0_20 i0_28 i0_33 i0_34 i0_35 i0_36 i0_37 i0_38 i0_39 i0_40 i0_41 i0_42 i0_43 res.2.2 v0_12 v0_29 r0_14 g0_14) res.1 := by
  rw [f_X11_pane] at hf
  refine ow_enter (cc := cX11_pane) (nL := 3) (ret := (some .int)) (by decide) rfl (Nat.le_of_ble_eq_true rfl) (fun p e s m below meth c ls H locs C0 hP hD hS hA hl => ?_)
  obtain ⟨hx, hb, hr, hlk, hml, hown, hts, hK, hG, hE⟩ := id C0
  have hl : lv_has ls 3 [(0, .ref a0), (1, .int x1), (2, .int x2)] := hl
  refine lv_aload_n hx hb dX11_pane_0 rfl (lv_at hl 0 rfl) ?_
  refine lv_iconst (v := 0) hx hb dX11_pane_1 (by decide) ?_
  refine va_put (D := D) (ci := 11) (v := .int 0) (ty := .int) (C := RX11) (T := TX11) (N := 44) hx hb hts in_X11_pane_X11 tyX11 tyX11_ok nmX11 hown hK hP hD hS 0 rfl rfl 0 (by decide) (hts (.fieldLink RX11 85 "PaneDaysModel" "thrown" "I") (List.mem_of_getElem? (i := 1) rfl)) (fun _ h9 => h9) rfl (by decide +kernel) rfl rfl (Nat.le_of_ble_eq_true rfl) dX11_pane_2 (fun H locs (hP : va_P D vwCl (W_X11_pane cs a0 p0 (0) i0_1 i0_2 i0_3 i0_4 i0_5 i0_6 i0_7 i0_8 i0_19 i0_20 i0_28 i0_33 i0_34 i0_35 i0_36 i0_37 i0_38 i0_39 i0_40 i0_41 i0_42 i0_43 v0_10 v0_12 v0_29 r0_14 g0_14) H) (hD : va_D _ (W_X11_pane cs a0 p0 (0) i0_1 i0_2 i0_3 i0_4 i0_5 i0_6 i0_7 i0_8 i0_19 i0_20 i0_28 i0_33 i0_34 i0_35 i0_36 i0_37 i0_38 i0_39 i0_40 i0_41 i0_42 i0_43 v0_10 v0_12 v0_29 r0_14 g0_14)) hS => ?_)
  refine lv_aload_n hx hb dX11_pane_5 rfl (lv_at hl 0 rfl) ?_
  refine lv_aload_n hx hb dX11_pane_6 rfl (lv_at hl 0 rfl) ?_
  refine lv_iload_n hx hb dX11_pane_7 rfl (lv_at hl 1 rfl) ?_
  obtain ⟨q8, hq, hf⟩ := bd_some hf
  refine ow_gVI (As := [.int x1]) (rest := [.ref a0]) (sg := (S_X11_pane cs a0 p0 (0) i0_1 i0_2 i0_3 i0_4 i0_5 i0_6 i0_7 i0_8 i0_19 i0_20 i0_28 i0_33 i0_34 i0_35 i0_36 i0_37 i0_38 i0_39 i0_40 i0_41 i0_42 i0_43 v0_10 v0_12 v0_29 r0_14 g0_14)) (sc := (S_X11_isPane cs a0 p0 (0) i0_1 i0_2 i0_3 i0_4 i0_5 i0_6 i0_7 i0_8 i0_19 i0_20 i0_28 i0_33 i0_34 i0_35 i0_36 i0_37 i0_38 i0_39 i0_40 i0_41 i0_42 i0_43 v0_12)) (sc' := (S_X11_isPane cs a0 p0 (0) i0_1 i0_2 i0_3 i0_4 i0_5 i0_6 i0_7 i0_8 i0_19 i0_20 i0_28 i0_33 i0_34 i0_35 i0_36 i0_37 i0_38 i0_39 i0_40 i0_41 i0_42 i0_43 v0_12)) (sr := ow_pks (S_X11_pane cs a0 p0 (0) i0_1 i0_2 i0_3 i0_4 i0_5 i0_6 i0_7 i0_8 i0_19 i0_20 i0_28 i0_33 i0_34 i0_35 i0_36 i0_37 i0_38 i0_39 i0_40 i0_41 i0_42 i0_43 v0_10 v0_12 v0_29 r0_14 g0_14) [1, 3, 4, 5]) (sf := (S_X11_pane cs a0 p0 (0) i0_1 i0_2 i0_3 i0_4 i0_5 i0_6 i0_7 i0_8 i0_19 i0_20 i0_28 i0_33 i0_34 i0_35 i0_36 i0_37 i0_38 i0_39 i0_40 i0_41 i0_42 i0_43 v0_10 v0_12 v0_29 r0_14 g0_14)) (r := q8) C0 (c_X11_isPane l D cs H.size a0 p0 (0) i0_1 i0_2 i0_3 i0_4 i0_5 i0_6 i0_7 i0_8 i0_19 i0_20 i0_28 i0_33 i0_34 i0_35 i0_36 i0_37 i0_38 i0_39 i0_40 i0_41 i0_42 i0_43 v0_12 x1 q8 hq) (cwV 1 hts gX11_pane_X11_isPane rfl rfl rfl (by decide +kernel) ⟨Nat.le_of_ble_eq_true rfl, Nat.le_of_ble_eq_true rfl⟩) 11 rfl rfl hP hD hS (sg_perm (isC := [0, 2]) (isR := [1, 3, 4, 5]) rfl rfl rfl) (sg_permF (is := [4, 0, 5, 1, 2, 3]) rfl rfl) rfl hl.1 rfl (Nat.le_of_ble_eq_true rfl) ⟨Nat.zero_le _, Nat.zero_le _⟩ dX11_pane_8 (fun H locs hP hD hS => ?_)
  refine lv_if_ne (tgt := 18) hx hb dX11_pane_11 (by decide) (fun hc => ?_) (fun hc => ?_)
  · replace hf := ow_f hc hf
    refine lv_iconst (v := 0) hx hb dX11_pane_18 (by decide) ?_
    exact w_X11_pane_b19 C0 a0 p0 i0_1 i0_2 i0_3 i0_4 i0_5 i0_6 i0_7 i0_8 i0_19 i0_20 i0_28 i0_33 i0_34 i0_35 i0_36 i0_37 i0_38 i0_39 i0_40 i0_41 i0_42 i0_43 v0_12 v0_29 r0_14 g0_14 res (0) v0_10 x1 x2 (0)  hf _ _ _ hP hD hS (lv_sub hl [0, 1, 2] rfl)
  · replace hf := ow_t hc hf
    refine lv_iconst (v := 1) hx hb dX11_pane_14 (by decide) ?_
    refine lv_goto (tgt := 19) hx hb dX11_pane_15 (by decide) ?_
    exact w_X11_pane_b19 C0 a0 p0 i0_1 i0_2 i0_3 i0_4 i0_5 i0_6 i0_7 i0_8 i0_19 i0_20 i0_28 i0_33 i0_34 i0_35 i0_36 i0_37 i0_38 i0_39 i0_40 i0_41 i0_42 i0_43 v0_12 v0_29 r0_14 g0_14 res (0) v0_10 x1 x2 (1)  hf _ _ _ hP hD hS (lv_sub hl [0, 1, 2] rfl)
abbrev W_X11_onRag (cs : Nat → ClassId) (a0 : Nat) (n0 : Nat) (v0 : Nat → Int32) : va_W := [(a0, .inl (cs 0, n0, .inl v0))]
abbrev S_X11_onRag (cs : Nat → ClassId) (a0 : Nat) (n0 : Nat) (v0 : Nat → Int32) : List va_W := [[(a0, .inl (cs 0, n0, .inl v0))]]
abbrev rm_X11_onRag : Room := { frames := 0, cells := 0, slots := 0, locals := 0 }
def f_X11_onRag_b4  (n0 : Nat) (v0 : Nat → Int32)  : Nat → Int32 → Int32 → Option (Int32)
  | 0, _, _ => none
  | n + 1, x1, x2 => if 200 < x2 then (some (x1)) else (ck (2480 + x2) n0 (f_X11_onRag_b4 n0 v0 n (x1 + (v0 (2480 + x2).toNatClampNeg)) (x2 + 1)))
set_option maxHeartbeats 4000000 in
set_option maxRecDepth 100000 in
theorem w_X11_onRag_b4 {p : Program} {l : Launch} {e : Env} {s : State} {m : MethodId} {below : List Frame} {meth : Method} {c : Code} {D : va_G} {cs : Nat → ClassId} {av : Array Value} {w0 : va_W} (C0 : Cx p s m meth c av wsX11_onRag cX11_onRag 3 (some .int) RX11 D cs w0)  (a0 : Nat) (n0 : Nat) (v0 : Nat → Int32) (res : Int32)  : ∀ (n : Nat) (x1 : Int32) (x2 : Int32), f_X11_onRag_b4 n0 v0 n x1 x2 = some res → ∀ (H : Heap) (locs : List Loc) (ls : Array Slot), va_P D vwCl (W_X11_onRag cs a0 n0 v0) H → va_D (va_A w0 s.heap.size) (W_X11_onRag cs a0 n0 v0) → va_S (va_A w0 s.heap.size) s.heap H locs → lv_has ls 3 [(0, .ref a0), (1, .int x1), (2, .int x2)] → W p l e rm_X11_onRag s m av below meth c H locs 0 0 (MQ below (oI D cs w0 (W_X11_onRag cs a0 n0 v0) res s.heap.size) av s 0 0 (va_A w0 s.heap.size)) (F0 m 4 ls []) := by
  obtain ⟨hx, hb, hr, hlk, hml, hown, hts, hK, hG, hE⟩ := id C0
  intro n
  induction n with
  | zero =>
    intro x1 x2 hf
    rw [f_X11_onRag_b4] at hf
    cases hf
  | succ n ih =>
    intro x1 x2 hf H locs ls hP hD hS hl
    rw [f_X11_onRag_b4] at hf
    refine lv_iload_n hx hb dX11_onRag_4 rfl (lv_at hl 2 rfl) ?_
    refine lv_sipush (v := 200) hx hb dX11_onRag_5 (by decide) ?_
    refine lv_icmp_gt (tgt := 27) hx hb dX11_onRag_8 (by decide) (fun hc => ?_) (fun hc => ?_)
    · replace hf := ow_t hc hf
      refine lv_iload_n hx hb dX11_onRag_27 rfl (lv_at hl 1 rfl) ?_
      obtain rfl := Option.some.inj hf
      exact ow_retI C0 hP hD hS dX11_onRag_28
    · replace hf := ow_f hc hf
      refine lv_iload_n hx hb dX11_onRag_11 rfl (lv_at hl 1 rfl) ?_
      refine lv_aload_n hx hb dX11_onRag_12 rfl (lv_at hl 0 rfl) ?_
      refine lv_sipush (v := 2480) hx hb dX11_onRag_13 (by decide) ?_
      refine lv_iload_n hx hb dX11_onRag_16 rfl (lv_at hl 2 rfl) ?_
      refine lv_iadd hx hb dX11_onRag_17 ?_
      obtain ⟨hin, hf⟩ := ck_some hf
      refine va_iald (f := v0) hx hb hK hP 0 0 rfl rfl hin dX11_onRag_18 ?_
      refine lv_iadd hx hb dX11_onRag_19 ?_
      refine lv_istore_n (lv' := [(1, .int (x1 + (v0 (2480 + x2).toNatClampNeg))), (0, .ref a0), (2, .int x2)]) hx hb dX11_onRag_20 rfl hl (by decide) rfl (fun ls hl => ?_)
      refine lv_iinc (v := x2 + 1) (lv' := [(2, .int (x2 + 1)), (1, .int (x1 + (v0 (2480 + x2).toNatClampNeg))), (0, .ref a0)]) hx hb dX11_onRag_21 hl (k := 2) rfl (ow_inc (by decide)) (by decide) rfl (fun ls hl => ?_)
      refine lv_goto (tgt := 4) hx hb dX11_onRag_24 (by decide) ?_
      exact ih (x1 + (v0 (2480 + x2).toNatClampNeg)) (x2 + 1)  hf _ _ _ hP hD hS (lv_sub hl [2, 1, 0] rfl)
def f_X11_onRag  (n0 : Nat) (v0 : Nat → Int32)  : Option (Int32) := f_X11_onRag_b4 n0 v0 4000 (0) (0)
set_option maxHeartbeats 4000000 in
set_option maxRecDepth 100000 in
theorem c_X11_onRag (l : Launch) (D : va_G) (cs : Nat → ClassId)  (sz : Nat) (a0 : Nat) (n0 : Nat) (v0 : Nat → Int32)  (res : Int32) (hf : f_X11_onRag  n0 v0  = some res) : MI l D cs yX11_onRag wsX11_onRag rm_X11_onRag [.ref a0] sz (W_X11_onRag cs a0 n0 v0) (W_X11_onRag cs a0 n0 v0) res := by
  rw [f_X11_onRag] at hf
  refine ow_enter (cc := cX11_onRag) (nL := 3) (ret := (some .int)) (by decide) rfl (Nat.le_of_ble_eq_true rfl) (fun p e s m below meth c ls H locs C0 hP hD hS hA hl => ?_)
  obtain ⟨hx, hb, hr, hlk, hml, hown, hts, hK, hG, hE⟩ := id C0
  have hl : lv_has ls 3 [(0, .ref a0)] := hl
  refine lv_iconst (v := 0) hx hb dX11_onRag_0 (by decide) ?_
  refine lv_istore_n (lv' := [(1, .int 0), (0, .ref a0)]) hx hb dX11_onRag_1 rfl hl (by decide) rfl (fun ls hl => ?_)
  refine lv_iconst (v := 0) hx hb dX11_onRag_2 (by decide) ?_
  refine lv_istore_n (lv' := [(2, .int 0), (1, .int 0), (0, .ref a0)]) hx hb dX11_onRag_3 rfl hl (by decide) rfl (fun ls hl => ?_)
  exact w_X11_onRag_b4 C0 a0 n0 v0 res 4000 (0) (0)  hf _ _ _ hP hD hS (lv_sub hl [2, 1, 0] rfl)
theorem in_X11_told_X11 : ∀ w ∈ u_ws RX11 TX11 44, w ∈ wsX11_told := fun w h => List.mem_cons_of_mem _ (List.mem_append_right _ h)
abbrev W_X11_told (cs : Nat → ClassId) (a0 : Nat) (p0 : Nat → Nat) (i0_0 : Int32) (i0_1 : Int32) (i0_2 : Int32) (i0_3 : Int32) (i0_4 : Int32) (i0_5 : Int32) (i0_6 : Int32) (i0_7 : Int32) (i0_8 : Int32) (i0_19 : Int32) (i0_20 : Int32) (i0_28 : Int32) (i0_33 : Int32) (i0_34 : Int32) (i0_35 : Int32) (i0_36 : Int32) (i0_37 : Int32) (i0_38 : Int32) (i0_39 : Int32) (i0_40 : Int32) (i0_41 : Int32) (i0_42 : Int32) (i0_43 : Int32) (v0_10 : Nat → Int32) (v0_12 : Nat → Int32) (v0_29 : Nat → Int32) : va_W := [(a0, .inr (11, [.int i0_0, .int i0_1, .int i0_2, .int i0_3, .int i0_4, .int i0_5, .int i0_6, .int i0_7, .int i0_8, .ref (p0 9), .ref (p0 10), .ref (p0 11), .ref (p0 12), .ref (p0 13), .ref (p0 14), .ref (p0 15), .ref (p0 16), .ref (p0 17), .ref (p0 18), .int i0_19, .int i0_20, .ref (p0 21), .ref (p0 22), .ref (p0 23), .ref (p0 24), .ref (p0 25), .ref (p0 26), .ref (p0 27), .int i0_28, .ref (p0 29), .ref (p0 30), .ref (p0 31), .ref (p0 32), .int i0_33, .int i0_34, .int i0_35, .int i0_36, .int i0_37, .int i0_38, .int i0_39, .int i0_40, .int i0_41, .int i0_42, .int i0_43])), (p0 10, .inl (cs 0, 3, .inl v0_10)), (p0 12, .inl (cs 0, 6, .inl v0_12)), (p0 29, .inl (cs 0, 2685, .inl v0_29))]
abbrev S_X11_told (cs : Nat → ClassId) (a0 : Nat) (p0 : Nat → Nat) (i0_0 : Int32) (i0_1 : Int32) (i0_2 : Int32) (i0_3 : Int32) (i0_4 : Int32) (i0_5 : Int32) (i0_6 : Int32) (i0_7 : Int32) (i0_8 : Int32) (i0_19 : Int32) (i0_20 : Int32) (i0_28 : Int32) (i0_33 : Int32) (i0_34 : Int32) (i0_35 : Int32) (i0_36 : Int32) (i0_37 : Int32) (i0_38 : Int32) (i0_39 : Int32) (i0_40 : Int32) (i0_41 : Int32) (i0_42 : Int32) (i0_43 : Int32) (v0_10 : Nat → Int32) (v0_12 : Nat → Int32) (v0_29 : Nat → Int32) : List va_W := [[(a0, .inr (11, [.int i0_0, .int i0_1, .int i0_2, .int i0_3, .int i0_4, .int i0_5, .int i0_6, .int i0_7, .int i0_8, .ref (p0 9), .ref (p0 10), .ref (p0 11), .ref (p0 12), .ref (p0 13), .ref (p0 14), .ref (p0 15), .ref (p0 16), .ref (p0 17), .ref (p0 18), .int i0_19, .int i0_20, .ref (p0 21), .ref (p0 22), .ref (p0 23), .ref (p0 24), .ref (p0 25), .ref (p0 26), .ref (p0 27), .int i0_28, .ref (p0 29), .ref (p0 30), .ref (p0 31), .ref (p0 32), .int i0_33, .int i0_34, .int i0_35, .int i0_36, .int i0_37, .int i0_38, .int i0_39, .int i0_40, .int i0_41, .int i0_42, .int i0_43]))], [(p0 10, .inl (cs 0, 3, .inl v0_10))], [(p0 12, .inl (cs 0, 6, .inl v0_12))], [(p0 29, .inl (cs 0, 2685, .inl v0_29))]]
abbrev rm_X11_told : Room := { frames := 2, cells := 0, slots := 0, locals := 46 }
def f_X11_told_b21  (i0_33 : Int32) (i0_35 : Int32) (v0_12 : Nat → Int32) (v0_29 : Nat → Int32)  (i0_0 : Int32) (v0_10 : Nat → Int32) (x1 : Int32) (t1 : Int32) : Option (Int32 × Int32 × (Nat → Int32)) := (f_X11_bad i0_0 v0_10 t1 (1) (2)).bind fun q23 => if q23.1 = 0 then (if x1 = 0 then (ck x1 6 (some (v0_12 (x1).toNatClampNeg, q23.2.1, q23.2.2))) else (if x1 = 1 then (ck x1 6 (some (v0_12 (x1).toNatClampNeg, q23.2.1, q23.2.2))) else (if x1 = 2 then (ck x1 6 (some (v0_12 (x1).toNatClampNeg, q23.2.1, q23.2.2))) else (if x1 = 3 then (some (v0_29 (2684 : Int32).toNatClampNeg, q23.2.1, q23.2.2)) else (if x1 = 4 then ((f_X11_onAll v0_12 2685 v0_29).bind fun q101 => some (q101, q23.2.1, q23.2.2)) else (if x1 = 5 then ((f_X11_onRag 2685 v0_29).bind fun q109 => some (q109, q23.2.1, q23.2.2)) else (if x1 = 6 then (some (v0_29 (2683 : Int32).toNatClampNeg, q23.2.1, q23.2.2)) else (if x1 = 7 then (some (i0_33, q23.2.1, q23.2.2)) else (some (i0_35, q23.2.1, q23.2.2)))))))))) else (some (0, q23.2.1, q23.2.2))
set_option maxHeartbeats 4000000 in
set_option maxRecDepth 100000 in
theorem w_X11_told_b21 {p : Program} {l : Launch} {e : Env} {s : State} {m : MethodId} {below : List Frame} {meth : Method} {c : Code} {D : va_G} {cs : Nat → ClassId} {av : Array Value} {w0 : va_W} (C0 : Cx p s m meth c av wsX11_told cX11_told 2 (some .int) RX11 D cs w0)  (a0 : Nat) (p0 : Nat → Nat) (i0_1 : Int32) (i0_2 : Int32) (i0_3 : Int32) (i0_4 : Int32) (i0_5 : Int32) (i0_6 : Int32) (i0_7 : Int32) (i0_8 : Int32) (i0_19 : Int32) (i0_20 : Int32) (i0_28 : Int32) (i0_33 : Int32) (i0_34 : Int32) (i0_35 : Int32) (i0_36 : Int32) (i0_37 : Int32) (i0_38 : Int32) (i0_39 : Int32) (i0_40 : Int32) (i0_41 : Int32) (i0_42 : Int32) (i0_43 : Int32) (v0_12 : Nat → Int32) (v0_29 : Nat → Int32) (res : Int32 × Int32 × (Nat → Int32))  : ∀ (i0_0 : Int32) (v0_10 : Nat → Int32) (x1 : Int32) (t1 : Int32), f_X11_told_b21 i0_33 i0_35 v0_12 v0_29 i0_0 v0_10 x1 t1 = some res → ∀ (H : Heap) (locs : List Loc) (ls : Array Slot), va_P D vwCl (W_X11_told cs a0 p0 i0_0 i0_1 i0_2 i0_3 i0_4 i0_5 i0_6 i0_7 i0_8 i0_19 i0_20 i0_28 i0_33 i0_34 i0_35 i0_36 i0_37 i0_38 i0_39 i0_40 i0_41 i0_42 i0_43 v0_10 v0_12 v0_29) H → va_D (va_A w0 s.heap.size) (W_X11_told cs a0 p0 i0_0 i0_1 i0_2 i0_3 i0_4 i0_5 i0_6 i0_7 i0_8 i0_19 i0_20 i0_28 i0_33 i0_34 i0_35 i0_36 i0_37 i0_38 i0_39 i0_40 i0_41 i0_42 i0_43 v0_10 v0_12 v0_29) → va_S (va_A w0 s.heap.size) s.heap H locs → lv_has ls 2 [(0, .ref a0), (1, .int x1)] → W p l e rm_X11_told s m av below meth c H locs 0 0 (MQ below (oI D cs w0 (W_X11_told cs a0 p0 res.2.1 i0_1 i0_2 i0_3 i0_4 i0_5 i0_6 i0_7 i0_8 i0_19 i0_20 i0_28 i0_33 i0_34 i0_35 i0_36 i0_37 i0_38 i0_39 i0_40 i0_41 i0_42 i0_43 res.2.2 v0_12 v0_29) res.1 s.heap.size) av s 0 0 (va_A w0 s.heap.size)) (F0 m 21 ls [.int t1, .ref a0]) := by
  obtain ⟨hx, hb, hr, hlk, hml, hown, hts, hK, hG, hE⟩ := id C0
  intro i0_0 v0_10 x1 t1 hf H locs ls hP hD hS hl
  rw [f_X11_told_b21] at hf
  refine lv_iconst (v := 1) hx hb dX11_told_21 (by decide) ?_
  refine lv_iconst (v := 2) hx hb dX11_told_22 (by decide) ?_
  obtain ⟨q23, hq, hf⟩ := bd_some hf
  refine ow_gVI (As := [.int t1, .int 1, .int 2]) (rest := []) (sg := (S_X11_told cs a0 p0 i0_0 i0_1 i0_2 i0_3 i0_4 i0_5 i0_6 i0_7 i0_8 i0_19 i0_20 i0_28 i0_33 i0_34 i0_35 i0_36 i0_37 i0_38 i0_39 i0_40 i0_41 i0_42 i0_43 v0_10 v0_12 v0_29)) (sc := (S_X11_bad cs a0 p0 i0_0 i0_1 i0_2 i0_3 i0_4 i0_5 i0_6 i0_7 i0_8 i0_19 i0_20 i0_28 i0_33 i0_34 i0_35 i0_36 i0_37 i0_38 i0_39 i0_40 i0_41 i0_42 i0_43 v0_10)) (sc' := (S_X11_bad cs a0 p0 q23.2.1 i0_1 i0_2 i0_3 i0_4 i0_5 i0_6 i0_7 i0_8 i0_19 i0_20 i0_28 i0_33 i0_34 i0_35 i0_36 i0_37 i0_38 i0_39 i0_40 i0_41 i0_42 i0_43 q23.2.2)) (sr := ow_pks (S_X11_told cs a0 p0 i0_0 i0_1 i0_2 i0_3 i0_4 i0_5 i0_6 i0_7 i0_8 i0_19 i0_20 i0_28 i0_33 i0_34 i0_35 i0_36 i0_37 i0_38 i0_39 i0_40 i0_41 i0_42 i0_43 v0_10 v0_12 v0_29) [2, 3]) (sf := (S_X11_told cs a0 p0 q23.2.1 i0_1 i0_2 i0_3 i0_4 i0_5 i0_6 i0_7 i0_8 i0_19 i0_20 i0_28 i0_33 i0_34 i0_35 i0_36 i0_37 i0_38 i0_39 i0_40 i0_41 i0_42 i0_43 q23.2.2 v0_12 v0_29)) (r := q23.1) C0 (c_X11_bad l D cs H.size a0 p0 i0_0 i0_1 i0_2 i0_3 i0_4 i0_5 i0_6 i0_7 i0_8 i0_19 i0_20 i0_28 i0_33 i0_34 i0_35 i0_36 i0_37 i0_38 i0_39 i0_40 i0_41 i0_42 i0_43 v0_10 t1 (1) (2) q23 hq) (cwV 3 hts gX11_told_X11_bad rfl rfl rfl (by decide +kernel) ⟨Nat.le_of_ble_eq_true rfl, Nat.le_of_ble_eq_true rfl⟩) 11 rfl rfl hP hD hS (sg_perm (isC := [0, 1]) (isR := [2, 3]) rfl rfl rfl) (sg_permF (is := [2, 3, 0, 1]) rfl rfl) rfl hl.1 rfl (Nat.le_of_ble_eq_true rfl) ⟨Nat.zero_le _, Nat.zero_le _⟩ dX11_told_23 (fun H locs hP hD hS => ?_)
  refine lv_if_eq (tgt := 31) hx hb dX11_told_26 (by decide) (fun hc => ?_) (fun hc => ?_)
  · replace hf := ow_t hc hf
    refine lv_iload_n hx hb dX11_told_31 rfl (lv_at hl 1 rfl) ?_
    rcases Decidable.em (x1 = 0) with hc | hc
    · replace hf := ow_t hc hf
      refine lv_tableIn (tgt := 80) hx hb dX11_told_32 (by rw [hc]; decide) (by rw [hc]; decide) (by rw [hc]; rfl) (by decide) ?_
      refine lv_aload_n hx hb dX11_told_80 rfl (lv_at hl 0 rfl) ?_
      refine va_get (D := D) (ci := 11) (v := .ref (p0 12)) (C := RX11) (T := TX11) (N := 44) hx hb hts in_X11_told_X11 hown hK hP 0 rfl rfl 12 (by decide) (hts (.fieldLink RX11 23 "PaneDaysModel" "told" "[I") (List.mem_of_getElem? (i := 2) rfl)) (fun _ h9 => h9) rfl dX11_told_81 ?_
      refine lv_iload_n hx hb dX11_told_84 rfl (lv_at hl 1 rfl) ?_
      obtain ⟨hin, hf⟩ := ck_some hf
      refine va_iald (f := v0_12) hx hb hK hP 2 0 rfl rfl hin dX11_told_85 ?_
      obtain rfl := Option.some.inj hf
      exact ow_retI C0 hP hD hS dX11_told_86
    replace hf := ow_f hc hf
    have hn0 := hc
    rcases Decidable.em (x1 = 1) with hc | hc
    · replace hf := ow_t hc hf
      refine lv_tableIn (tgt := 80) hx hb dX11_told_32 (by rw [hc]; decide) (by rw [hc]; decide) (by rw [hc]; rfl) (by decide) ?_
      refine lv_aload_n hx hb dX11_told_80 rfl (lv_at hl 0 rfl) ?_
      refine va_get (D := D) (ci := 11) (v := .ref (p0 12)) (C := RX11) (T := TX11) (N := 44) hx hb hts in_X11_told_X11 hown hK hP 0 rfl rfl 12 (by decide) (hts (.fieldLink RX11 23 "PaneDaysModel" "told" "[I") (List.mem_of_getElem? (i := 2) rfl)) (fun _ h9 => h9) rfl dX11_told_81 ?_
      refine lv_iload_n hx hb dX11_told_84 rfl (lv_at hl 1 rfl) ?_
      obtain ⟨hin, hf⟩ := ck_some hf
      refine va_iald (f := v0_12) hx hb hK hP 2 0 rfl rfl hin dX11_told_85 ?_
      obtain rfl := Option.some.inj hf
      exact ow_retI C0 hP hD hS dX11_told_86
    replace hf := ow_f hc hf
    have hn1 := hc
    rcases Decidable.em (x1 = 2) with hc | hc
    · replace hf := ow_t hc hf
      refine lv_tableIn (tgt := 80) hx hb dX11_told_32 (by rw [hc]; decide) (by rw [hc]; decide) (by rw [hc]; rfl) (by decide) ?_
      refine lv_aload_n hx hb dX11_told_80 rfl (lv_at hl 0 rfl) ?_
      refine va_get (D := D) (ci := 11) (v := .ref (p0 12)) (C := RX11) (T := TX11) (N := 44) hx hb hts in_X11_told_X11 hown hK hP 0 rfl rfl 12 (by decide) (hts (.fieldLink RX11 23 "PaneDaysModel" "told" "[I") (List.mem_of_getElem? (i := 2) rfl)) (fun _ h9 => h9) rfl dX11_told_81 ?_
      refine lv_iload_n hx hb dX11_told_84 rfl (lv_at hl 1 rfl) ?_
      obtain ⟨hin, hf⟩ := ck_some hf
      refine va_iald (f := v0_12) hx hb hK hP 2 0 rfl rfl hin dX11_told_85 ?_
      obtain rfl := Option.some.inj hf
      exact ow_retI C0 hP hD hS dX11_told_86
    replace hf := ow_f hc hf
    have hn2 := hc
    rcases Decidable.em (x1 = 3) with hc | hc
    · replace hf := ow_t hc hf
      refine lv_tableIn (tgt := 87) hx hb dX11_told_32 (by rw [hc]; decide) (by rw [hc]; decide) (by rw [hc]; rfl) (by decide) ?_
      refine lv_aload_n hx hb dX11_told_87 rfl (lv_at hl 0 rfl) ?_
      refine va_get (D := D) (ci := 11) (v := .ref (p0 29)) (C := RX11) (T := TX11) (N := 44) hx hb hts in_X11_told_X11 hown hK hP 0 rfl rfl 29 (by decide) (hts (.fieldLink RX11 67 "PaneDaysModel" "now" "[I") (List.mem_of_getElem? (i := 3) rfl)) (fun _ h9 => h9) rfl dX11_told_88 ?_
      refine lv_sipush (v := 2684) hx hb dX11_told_91 (by decide) ?_
      refine va_iald (f := v0_29) hx hb hK hP 3 0 rfl rfl (vp_in_nI (n := 2684) (by decide) (by decide)) dX11_told_94 ?_
      obtain rfl := Option.some.inj hf
      exact ow_retI C0 hP hD hS dX11_told_95
    replace hf := ow_f hc hf
    have hn3 := hc
    rcases Decidable.em (x1 = 4) with hc | hc
    · replace hf := ow_t hc hf
      refine lv_tableIn (tgt := 96) hx hb dX11_told_32 (by rw [hc]; decide) (by rw [hc]; decide) (by rw [hc]; rfl) (by decide) ?_
      refine lv_aload_n hx hb dX11_told_96 rfl (lv_at hl 0 rfl) ?_
      refine lv_aload_n hx hb dX11_told_97 rfl (lv_at hl 0 rfl) ?_
      refine va_get (D := D) (ci := 11) (v := .ref (p0 29)) (C := RX11) (T := TX11) (N := 44) hx hb hts in_X11_told_X11 hown hK hP 0 rfl rfl 29 (by decide) (hts (.fieldLink RX11 67 "PaneDaysModel" "now" "[I") (List.mem_of_getElem? (i := 3) rfl)) (fun _ h9 => h9) rfl dX11_told_98 ?_
      obtain ⟨q101, hq, hf⟩ := bd_some hf
      refine ow_gVI (As := [.ref (p0 29)]) (rest := []) (sg := (S_X11_told cs a0 p0 q23.2.1 i0_1 i0_2 i0_3 i0_4 i0_5 i0_6 i0_7 i0_8 i0_19 i0_20 i0_28 i0_33 i0_34 i0_35 i0_36 i0_37 i0_38 i0_39 i0_40 i0_41 i0_42 i0_43 q23.2.2 v0_12 v0_29)) (sc := (S_X11_onAll cs a0 p0 q23.2.1 i0_1 i0_2 i0_3 i0_4 i0_5 i0_6 i0_7 i0_8 i0_19 i0_20 i0_28 i0_33 i0_34 i0_35 i0_36 i0_37 i0_38 i0_39 i0_40 i0_41 i0_42 i0_43 v0_12 (p0 29) 2685 v0_29)) (sc' := (S_X11_onAll cs a0 p0 q23.2.1 i0_1 i0_2 i0_3 i0_4 i0_5 i0_6 i0_7 i0_8 i0_19 i0_20 i0_28 i0_33 i0_34 i0_35 i0_36 i0_37 i0_38 i0_39 i0_40 i0_41 i0_42 i0_43 v0_12 (p0 29) 2685 v0_29)) (sr := ow_pks (S_X11_told cs a0 p0 q23.2.1 i0_1 i0_2 i0_3 i0_4 i0_5 i0_6 i0_7 i0_8 i0_19 i0_20 i0_28 i0_33 i0_34 i0_35 i0_36 i0_37 i0_38 i0_39 i0_40 i0_41 i0_42 i0_43 q23.2.2 v0_12 v0_29) [1]) (sf := (S_X11_told cs a0 p0 q23.2.1 i0_1 i0_2 i0_3 i0_4 i0_5 i0_6 i0_7 i0_8 i0_19 i0_20 i0_28 i0_33 i0_34 i0_35 i0_36 i0_37 i0_38 i0_39 i0_40 i0_41 i0_42 i0_43 q23.2.2 v0_12 v0_29)) (r := q101) C0 (c_X11_onAll l D cs H.size a0 p0 q23.2.1 i0_1 i0_2 i0_3 i0_4 i0_5 i0_6 i0_7 i0_8 i0_19 i0_20 i0_28 i0_33 i0_34 i0_35 i0_36 i0_37 i0_38 i0_39 i0_40 i0_41 i0_42 i0_43 v0_12 (p0 29) 2685 v0_29  q101 hq) (cwV 1 hts gX11_told_X11_onAll rfl rfl rfl (by decide +kernel) ⟨Nat.le_of_ble_eq_true rfl, Nat.le_of_ble_eq_true rfl⟩) 11 rfl rfl hP hD hS (sg_perm (isC := [0, 2, 3]) (isR := [1]) rfl rfl rfl) (sg_permF (is := [1, 0, 2, 3]) rfl rfl) rfl hl.1 rfl (Nat.le_of_ble_eq_true rfl) ⟨Nat.zero_le _, Nat.zero_le _⟩ dX11_told_101 (fun H locs hP hD hS => ?_)
      obtain rfl := Option.some.inj hf
      exact ow_retI C0 hP hD hS dX11_told_104
    replace hf := ow_f hc hf
    have hn4 := hc
    rcases Decidable.em (x1 = 5) with hc | hc
    · replace hf := ow_t hc hf
      refine lv_tableIn (tgt := 105) hx hb dX11_told_32 (by rw [hc]; decide) (by rw [hc]; decide) (by rw [hc]; rfl) (by decide) ?_
      refine lv_aload_n hx hb dX11_told_105 rfl (lv_at hl 0 rfl) ?_
      refine va_get (D := D) (ci := 11) (v := .ref (p0 29)) (C := RX11) (T := TX11) (N := 44) hx hb hts in_X11_told_X11 hown hK hP 0 rfl rfl 29 (by decide) (hts (.fieldLink RX11 67 "PaneDaysModel" "now" "[I") (List.mem_of_getElem? (i := 3) rfl)) (fun _ h9 => h9) rfl dX11_told_106 ?_
      obtain ⟨q109, hq, hf⟩ := bd_some hf
      refine ow_gSI (As := [.ref (p0 29)]) (rest := []) (sg := (S_X11_told cs a0 p0 q23.2.1 i0_1 i0_2 i0_3 i0_4 i0_5 i0_6 i0_7 i0_8 i0_19 i0_20 i0_28 i0_33 i0_34 i0_35 i0_36 i0_37 i0_38 i0_39 i0_40 i0_41 i0_42 i0_43 q23.2.2 v0_12 v0_29)) (sc := (S_X11_onRag cs (p0 29) 2685 v0_29)) (sc' := (S_X11_onRag cs (p0 29) 2685 v0_29)) (sr := ow_pks (S_X11_told cs a0 p0 q23.2.1 i0_1 i0_2 i0_3 i0_4 i0_5 i0_6 i0_7 i0_8 i0_19 i0_20 i0_28 i0_33 i0_34 i0_35 i0_36 i0_37 i0_38 i0_39 i0_40 i0_41 i0_42 i0_43 q23.2.2 v0_12 v0_29) [0, 1, 2]) (sf := (S_X11_told cs a0 p0 q23.2.1 i0_1 i0_2 i0_3 i0_4 i0_5 i0_6 i0_7 i0_8 i0_19 i0_20 i0_28 i0_33 i0_34 i0_35 i0_36 i0_37 i0_38 i0_39 i0_40 i0_41 i0_42 i0_43 q23.2.2 v0_12 v0_29)) (r := q109) C0 (c_X11_onRag l D cs H.size (p0 29) 2685 v0_29  q109 hq) (va_cwS 1 hts gX11_told_X11_onRag rfl rfl rfl (by decide +kernel) ⟨Nat.le_of_ble_eq_true rfl, Nat.le_of_ble_eq_true rfl⟩) hP hD hS (sg_perm (isC := [3]) (isR := [0, 1, 2]) rfl rfl rfl) (sg_permF (is := [0, 1, 2, 3]) rfl rfl) rfl hl.1 rfl (Nat.le_of_ble_eq_true rfl) ⟨Nat.zero_le _, Nat.zero_le _⟩ dX11_told_109 (fun H locs hP hD hS => ?_)
      obtain rfl := Option.some.inj hf
      exact ow_retI C0 hP hD hS dX11_told_112
    replace hf := ow_f hc hf
    have hn5 := hc
    rcases Decidable.em (x1 = 6) with hc | hc
    · replace hf := ow_t hc hf
      refine lv_tableIn (tgt := 113) hx hb dX11_told_32 (by rw [hc]; decide) (by rw [hc]; decide) (by rw [hc]; rfl) (by decide) ?_
      refine lv_aload_n hx hb dX11_told_113 rfl (lv_at hl 0 rfl) ?_
      refine va_get (D := D) (ci := 11) (v := .ref (p0 29)) (C := RX11) (T := TX11) (N := 44) hx hb hts in_X11_told_X11 hown hK hP 0 rfl rfl 29 (by decide) (hts (.fieldLink RX11 67 "PaneDaysModel" "now" "[I") (List.mem_of_getElem? (i := 3) rfl)) (fun _ h9 => h9) rfl dX11_told_114 ?_
      refine lv_sipush (v := 2683) hx hb dX11_told_117 (by decide) ?_
      refine va_iald (f := v0_29) hx hb hK hP 3 0 rfl rfl (vp_in_nI (n := 2683) (by decide) (by decide)) dX11_told_120 ?_
      obtain rfl := Option.some.inj hf
      exact ow_retI C0 hP hD hS dX11_told_121
    replace hf := ow_f hc hf
    have hn6 := hc
    rcases Decidable.em (x1 = 7) with hc | hc
    · replace hf := ow_t hc hf
      refine lv_tableIn (tgt := 122) hx hb dX11_told_32 (by rw [hc]; decide) (by rw [hc]; decide) (by rw [hc]; rfl) (by decide) ?_
      refine lv_aload_n hx hb dX11_told_122 rfl (lv_at hl 0 rfl) ?_
      refine va_get (D := D) (ci := 11) (v := .int i0_33) (C := RX11) (T := TX11) (N := 44) hx hb hts in_X11_told_X11 hown hK hP 0 rfl rfl 33 (by decide) (hts (.fieldLink RX11 178 "PaneDaysModel" "lines" "I") (List.mem_of_getElem? (i := 4) rfl)) (fun _ h9 => h9) rfl dX11_told_123 ?_
      obtain rfl := Option.some.inj hf
      exact ow_retI C0 hP hD hS dX11_told_126
    replace hf := ow_f hc hf
    have hn7 := hc
    refine lv_tableOut (x := x1) (tgt := 127) hx hb dX11_told_32 (ow_out (fun z h1 h2 => by rcases (show z = 0 ∨ z = 1 ∨ z = 2 ∨ z = 3 ∨ z = 4 ∨ z = 5 ∨ z = 6 ∨ z = 7 by omega) with rfl | rfl | rfl | rfl | rfl | rfl | rfl | rfl <;> first | exact lv_neT hn0 (by decide) | exact lv_neT hn1 (by decide) | exact lv_neT hn2 (by decide) | exact lv_neT hn3 (by decide) | exact lv_neT hn4 (by decide) | exact lv_neT hn5 (by decide) | exact lv_neT hn6 (by decide) | exact lv_neT hn7 (by decide))) (by decide) ?_
    refine lv_aload_n hx hb dX11_told_127 rfl (lv_at hl 0 rfl) ?_
    refine va_get (D := D) (ci := 11) (v := .int i0_35) (C := RX11) (T := TX11) (N := 44) hx hb hts in_X11_told_X11 hown hK hP 0 rfl rfl 35 (by decide) (hts (.fieldLink RX11 184 "PaneDaysModel" "refusedSteps" "I") (List.mem_of_getElem? (i := 5) rfl)) (fun _ h9 => h9) rfl dX11_told_128 ?_
    obtain rfl := Option.some.inj hf
    exact ow_retI C0 hP hD hS dX11_told_131
  · replace hf := ow_f hc hf
    refine lv_iconst (v := 0) hx hb dX11_told_29 (by decide) ?_
    obtain rfl := Option.some.inj hf
    exact ow_retI C0 hP hD hS dX11_told_30
def f_X11_told  (i0_0 : Int32) (i0_33 : Int32) (i0_35 : Int32) (v0_10 : Nat → Int32) (v0_12 : Nat → Int32) (v0_29 : Nat → Int32) (x1 : Int32) : Option (Int32 × Int32 × (Nat → Int32)) := (f_X11_in x1 (0) (8)).bind fun q10 => if q10 = 0 then (f_X11_told_b21 i0_33 i0_35 v0_12 v0_29 (0) v0_10 x1 (1)) else (f_X11_told_b21 i0_33 i0_35 v0_12 v0_29 (0) v0_10 x1 (0))
set_option maxHeartbeats 4000000 in
set_option maxRecDepth 100000 in
theorem c_X11_told (l : Launch) (D : va_G) (cs : Nat → ClassId)  (sz : Nat) (a0 : Nat) (p0 : Nat → Nat) (i0_0 : Int32) (i0_1 : Int32) (i0_2 : Int32) (i0_3 : Int32) (i0_4 : Int32) (i0_5 : Int32) (i0_6 : Int32) (i0_7 : Int32) (i0_8 : Int32) (i0_19 : Int32) (i0_20 : Int32) (i0_28 : Int32) (i0_33 : Int32) (i0_34 : Int32) (i0_35 : Int32) (i0_36 : Int32) (i0_37 : Int32) (i0_38 : Int32) (i0_39 : Int32) (i0_40 : Int32) (i0_41 : Int32) (i0_42 : Int32) (i0_43 : Int32) (v0_10 : Nat → Int32) (v0_12 : Nat → Int32) (v0_29 : Nat → Int32) (x1 : Int32) (res : Int32 × Int32 × (Nat → Int32)) (hf : f_X11_told  i0_0 i0_33 i0_35 v0_10 v0_12 v0_29 x1 = some res) : MI l D cs yX11_told wsX11_told rm_X11_told [.ref a0, .int x1] sz (W_X11_told cs a0 p0 i0_0 i0_1 i0_2 i0_3 i0_4 i0_5 i0_6 i0_7 i0_8 i0_19 i0_20 i0_28 i0_33 i0_34 i0_35 i0_36 i0_37 i0_38 i0_39 i0_40 i0_41 i0_42 i0_43 v0_10 v0_12 v0_29) (W_X11_told cs a0 p0 res.2.1 i0_1 i0_2 i0_3 i0_4 i0_5 i0_6 i0_7 i0_8 i0_19 i0_20 i0_28 i0_33 i0_34 i0_35 i0_36 i0_37 i0_38 i0_39 i0_40 i0_41 i0_42 i0_43 res.2.2 v0_12 v0_29) res.1 := by
  rw [f_X11_told] at hf
  refine ow_enter (cc := cX11_told) (nL := 2) (ret := (some .int)) (by decide) rfl (Nat.le_of_ble_eq_true rfl) (fun p e s m below meth c ls H locs C0 hP hD hS hA hl => ?_)
  obtain ⟨hx, hb, hr, hlk, hml, hown, hts, hK, hG, hE⟩ := id C0
  have hl : lv_has ls 2 [(0, .ref a0), (1, .int x1)] := hl
  refine lv_aload_n hx hb dX11_told_0 rfl (lv_at hl 0 rfl) ?_
  refine lv_iconst (v := 0) hx hb dX11_told_1 (by decide) ?_
  refine va_put (D := D) (ci := 11) (v := .int 0) (ty := .int) (C := RX11) (T := TX11) (N := 44) hx hb hts in_X11_told_X11 tyX11 tyX11_ok nmX11 hown hK hP hD hS 0 rfl rfl 0 (by decide) (hts (.fieldLink RX11 85 "PaneDaysModel" "thrown" "I") (List.mem_of_getElem? (i := 1) rfl)) (fun _ h9 => h9) rfl (by decide +kernel) rfl rfl (Nat.le_of_ble_eq_true rfl) dX11_told_2 (fun H locs (hP : va_P D vwCl (W_X11_told cs a0 p0 (0) i0_1 i0_2 i0_3 i0_4 i0_5 i0_6 i0_7 i0_8 i0_19 i0_20 i0_28 i0_33 i0_34 i0_35 i0_36 i0_37 i0_38 i0_39 i0_40 i0_41 i0_42 i0_43 v0_10 v0_12 v0_29) H) (hD : va_D _ (W_X11_told cs a0 p0 (0) i0_1 i0_2 i0_3 i0_4 i0_5 i0_6 i0_7 i0_8 i0_19 i0_20 i0_28 i0_33 i0_34 i0_35 i0_36 i0_37 i0_38 i0_39 i0_40 i0_41 i0_42 i0_43 v0_10 v0_12 v0_29)) hS => ?_)
  refine lv_aload_n hx hb dX11_told_5 rfl (lv_at hl 0 rfl) ?_
  refine lv_iload_n hx hb dX11_told_6 rfl (lv_at hl 1 rfl) ?_
  refine lv_iconst (v := 0) hx hb dX11_told_7 (by decide) ?_
  refine lv_bipush (v := 8) hx hb dX11_told_8 (by decide) ?_
  obtain ⟨q10, hq, hf⟩ := bd_some hf
  refine ow_gSI (As := [.int x1, .int 0, .int 8]) (rest := [.ref a0]) (sg := (S_X11_told cs a0 p0 (0) i0_1 i0_2 i0_3 i0_4 i0_5 i0_6 i0_7 i0_8 i0_19 i0_20 i0_28 i0_33 i0_34 i0_35 i0_36 i0_37 i0_38 i0_39 i0_40 i0_41 i0_42 i0_43 v0_10 v0_12 v0_29)) (sc := ([] : List va_W)) (sc' := ([] : List va_W)) (sr := ow_pks (S_X11_told cs a0 p0 (0) i0_1 i0_2 i0_3 i0_4 i0_5 i0_6 i0_7 i0_8 i0_19 i0_20 i0_28 i0_33 i0_34 i0_35 i0_36 i0_37 i0_38 i0_39 i0_40 i0_41 i0_42 i0_43 v0_10 v0_12 v0_29) [0, 1, 2, 3]) (sf := (S_X11_told cs a0 p0 (0) i0_1 i0_2 i0_3 i0_4 i0_5 i0_6 i0_7 i0_8 i0_19 i0_20 i0_28 i0_33 i0_34 i0_35 i0_36 i0_37 i0_38 i0_39 i0_40 i0_41 i0_42 i0_43 v0_10 v0_12 v0_29)) (r := q10) C0 (c_X11_in l D cs H.size  x1 (0) (8) q10 hq) (va_cwS 3 hts gX11_told_X11_in rfl rfl rfl (by decide +kernel) ⟨Nat.le_of_ble_eq_true rfl, Nat.le_of_ble_eq_true rfl⟩) hP hD hS (sg_perm (isC := []) (isR := [0, 1, 2, 3]) rfl rfl rfl) (sg_permF (is := [0, 1, 2, 3]) rfl rfl) rfl hl.1 rfl (Nat.le_of_ble_eq_true rfl) ⟨Nat.zero_le _, Nat.zero_le _⟩ dX11_told_10 (fun H locs hP hD hS => ?_)
  refine lv_if_ne (tgt := 20) hx hb dX11_told_13 (by decide) (fun hc => ?_) (fun hc => ?_)
  · replace hf := ow_f hc hf
    refine lv_iconst (v := 0) hx hb dX11_told_20 (by decide) ?_
    exact w_X11_told_b21 C0 a0 p0 i0_1 i0_2 i0_3 i0_4 i0_5 i0_6 i0_7 i0_8 i0_19 i0_20 i0_28 i0_33 i0_34 i0_35 i0_36 i0_37 i0_38 i0_39 i0_40 i0_41 i0_42 i0_43 v0_12 v0_29 res (0) v0_10 x1 (0)  hf _ _ _ hP hD hS (lv_sub hl [0, 1] rfl)
  · replace hf := ow_t hc hf
    refine lv_iconst (v := 1) hx hb dX11_told_16 (by decide) ?_
    refine lv_goto (tgt := 21) hx hb dX11_told_17 (by decide) ?_
    exact w_X11_told_b21 C0 a0 p0 i0_1 i0_2 i0_3 i0_4 i0_5 i0_6 i0_7 i0_8 i0_19 i0_20 i0_28 i0_33 i0_34 i0_35 i0_36 i0_37 i0_38 i0_39 i0_40 i0_41 i0_42 i0_43 v0_12 v0_29 res (0) v0_10 x1 (1)  hf _ _ _ hP hD hS (lv_sub hl [0, 1] rfl)
theorem in_X11_undo_X11 : ∀ w ∈ u_ws RX11 TX11 44, w ∈ wsX11_undo := fun w h => List.mem_cons_of_mem _ (List.mem_append_right _ h)
abbrev W_X11_undo (cs : Nat → ClassId) (a0 : Nat) (p0 : Nat → Nat) (i0_0 : Int32) (i0_1 : Int32) (i0_2 : Int32) (i0_3 : Int32) (i0_4 : Int32) (i0_5 : Int32) (i0_6 : Int32) (i0_7 : Int32) (i0_8 : Int32) (i0_19 : Int32) (i0_20 : Int32) (i0_28 : Int32) (i0_33 : Int32) (i0_34 : Int32) (i0_35 : Int32) (i0_36 : Int32) (i0_37 : Int32) (i0_38 : Int32) (i0_39 : Int32) (i0_40 : Int32) (i0_41 : Int32) (i0_42 : Int32) (i0_43 : Int32) (v0_29 : Nat → Int32) (r0_31 : Nat → Nat) (g0_31 : Nat → Nat → Int32) : va_W := [(a0, .inr (11, [.int i0_0, .int i0_1, .int i0_2, .int i0_3, .int i0_4, .int i0_5, .int i0_6, .int i0_7, .int i0_8, .ref (p0 9), .ref (p0 10), .ref (p0 11), .ref (p0 12), .ref (p0 13), .ref (p0 14), .ref (p0 15), .ref (p0 16), .ref (p0 17), .ref (p0 18), .int i0_19, .int i0_20, .ref (p0 21), .ref (p0 22), .ref (p0 23), .ref (p0 24), .ref (p0 25), .ref (p0 26), .ref (p0 27), .int i0_28, .ref (p0 29), .ref (p0 30), .ref (p0 31), .ref (p0 32), .int i0_33, .int i0_34, .int i0_35, .int i0_36, .int i0_37, .int i0_38, .int i0_39, .int i0_40, .int i0_41, .int i0_42, .int i0_43])), (p0 29, .inl (cs 0, 2685, .inl v0_29)), gOut cs (p0 31) 8 r0_31] ++ (gRow cs 8 2685 r0_31 g0_31 ++ [])
abbrev S_X11_undo (cs : Nat → ClassId) (a0 : Nat) (p0 : Nat → Nat) (i0_0 : Int32) (i0_1 : Int32) (i0_2 : Int32) (i0_3 : Int32) (i0_4 : Int32) (i0_5 : Int32) (i0_6 : Int32) (i0_7 : Int32) (i0_8 : Int32) (i0_19 : Int32) (i0_20 : Int32) (i0_28 : Int32) (i0_33 : Int32) (i0_34 : Int32) (i0_35 : Int32) (i0_36 : Int32) (i0_37 : Int32) (i0_38 : Int32) (i0_39 : Int32) (i0_40 : Int32) (i0_41 : Int32) (i0_42 : Int32) (i0_43 : Int32) (v0_29 : Nat → Int32) (r0_31 : Nat → Nat) (g0_31 : Nat → Nat → Int32) : List va_W := [[(a0, .inr (11, [.int i0_0, .int i0_1, .int i0_2, .int i0_3, .int i0_4, .int i0_5, .int i0_6, .int i0_7, .int i0_8, .ref (p0 9), .ref (p0 10), .ref (p0 11), .ref (p0 12), .ref (p0 13), .ref (p0 14), .ref (p0 15), .ref (p0 16), .ref (p0 17), .ref (p0 18), .int i0_19, .int i0_20, .ref (p0 21), .ref (p0 22), .ref (p0 23), .ref (p0 24), .ref (p0 25), .ref (p0 26), .ref (p0 27), .int i0_28, .ref (p0 29), .ref (p0 30), .ref (p0 31), .ref (p0 32), .int i0_33, .int i0_34, .int i0_35, .int i0_36, .int i0_37, .int i0_38, .int i0_39, .int i0_40, .int i0_41, .int i0_42, .int i0_43]))], [(p0 29, .inl (cs 0, 2685, .inl v0_29))], [gOut cs (p0 31) 8 r0_31], gRow cs 8 2685 r0_31 g0_31]
abbrev rm_X11_undo : Room := { frames := 1, cells := 0, slots := 0, locals := 22 }
def f_X11_undo  (i0_0 : Int32) (i0_34 : Int32) (i0_35 : Int32) (v0_29 : Nat → Int32) (g0_31 : Nat → Nat → Int32)  : Option (Int32 × Int32 × Int32 × Int32 × (Nat → Int32)) := if i0_34 = 0 then (some ((-1), 0, i0_34, i0_35, v0_29)) else (ck (i0_34 - 1) 8 ((f_X11_copies 2685 (g0_31 (i0_34 - 1).toNatClampNeg) 2685 v0_29).bind fun q37 => some (i0_34 - 1, 0, i0_34 - 1, 0, q37)))
set_option maxHeartbeats 4000000 in
set_option maxRecDepth 100000 in
theorem c_X11_undo (l : Launch) (D : va_G) (cs : Nat → ClassId)  (sz : Nat) (a0 : Nat) (p0 : Nat → Nat) (i0_0 : Int32) (i0_1 : Int32) (i0_2 : Int32) (i0_3 : Int32) (i0_4 : Int32) (i0_5 : Int32) (i0_6 : Int32) (i0_7 : Int32) (i0_8 : Int32) (i0_19 : Int32) (i0_20 : Int32) (i0_28 : Int32) (i0_33 : Int32) (i0_34 : Int32) (i0_35 : Int32) (i0_36 : Int32) (i0_37 : Int32) (i0_38 : Int32) (i0_39 : Int32) (i0_40 : Int32) (i0_41 : Int32) (i0_42 : Int32) (i0_43 : Int32) (v0_29 : Nat → Int32) (r0_31 : Nat → Nat) (g0_31 : Nat → Nat → Int32)  (res : Int32 × Int32 × Int32 × Int32 × (Nat → Int32)) (hf : f_X11_undo  i0_0 i0_34 i0_35 v0_29 g0_31  = some res) : MI l D cs yX11_undo wsX11_undo rm_X11_undo [.ref a0] sz (W_X11_undo cs a0 p0 i0_0 i0_1 i0_2 i0_3 i0_4 i0_5 i0_6 i0_7 i0_8 i0_19 i0_20 i0_28 i0_33 i0_34 i0_35 i0_36 i0_37 i0_38 i0_39 i0_40 i0_41 i0_42 i0_43 v0_29 r0_31 g0_31) (W_X11_undo cs a0 p0 res.2.1 i0_1 i0_2 i0_3 i0_4 i0_5 i0_6 i0_7 i0_8 i0_19 i0_20 i0_28 i0_33 res.2.2.1 res.2.2.2.1 i0_36 i0_37 i0_38 i0_39 i0_40 i0_41 i0_42 i0_43 res.2.2.2.2 r0_31 g0_31) res.1 := by
  rw [f_X11_undo] at hf
  refine ow_enter (cc := cX11_undo) (nL := 1) (ret := (some .int)) (by decide) rfl (Nat.le_of_ble_eq_true rfl) (fun p e s m below meth c ls H locs C0 hP hD hS hA hl => ?_)
  obtain ⟨hx, hb, hr, hlk, hml, hown, hts, hK, hG, hE⟩ := id C0
  have hl : lv_has ls 1 [(0, .ref a0)] := hl
  refine lv_aload_n hx hb dX11_undo_0 rfl (lv_at hl 0 rfl) ?_
  refine lv_iconst (v := 0) hx hb dX11_undo_1 (by decide) ?_
  refine va_put (D := D) (ci := 11) (v := .int 0) (ty := .int) (C := RX11) (T := TX11) (N := 44) hx hb hts in_X11_undo_X11 tyX11 tyX11_ok nmX11 hown hK hP hD hS 0 rfl rfl 0 (by decide) (hts (.fieldLink RX11 85 "PaneDaysModel" "thrown" "I") (List.mem_of_getElem? (i := 1) rfl)) (fun _ h9 => h9) rfl (by decide +kernel) rfl rfl (Nat.le_of_ble_eq_true rfl) dX11_undo_2 (fun H locs (hP : va_P D vwCl (W_X11_undo cs a0 p0 (0) i0_1 i0_2 i0_3 i0_4 i0_5 i0_6 i0_7 i0_8 i0_19 i0_20 i0_28 i0_33 i0_34 i0_35 i0_36 i0_37 i0_38 i0_39 i0_40 i0_41 i0_42 i0_43 v0_29 r0_31 g0_31) H) (hD : va_D _ (W_X11_undo cs a0 p0 (0) i0_1 i0_2 i0_3 i0_4 i0_5 i0_6 i0_7 i0_8 i0_19 i0_20 i0_28 i0_33 i0_34 i0_35 i0_36 i0_37 i0_38 i0_39 i0_40 i0_41 i0_42 i0_43 v0_29 r0_31 g0_31)) hS => ?_)
  refine lv_aload_n hx hb dX11_undo_5 rfl (lv_at hl 0 rfl) ?_
  refine va_get (D := D) (ci := 11) (v := .int i0_34) (C := RX11) (T := TX11) (N := 44) hx hb hts in_X11_undo_X11 hown hK hP 0 rfl rfl 34 (by decide) (hts (.fieldLink RX11 181 "PaneDaysModel" "works" "I") (List.mem_of_getElem? (i := 2) rfl)) (fun _ h9 => h9) rfl dX11_undo_6 ?_
  refine lv_if_ne (tgt := 14) hx hb dX11_undo_9 (by decide) (fun hc => ?_) (fun hc => ?_)
  · replace hf := ow_f hc hf
    refine lv_aload_n hx hb dX11_undo_14 rfl (lv_at hl 0 rfl) ?_
    refine lv_dup hx hb dX11_undo_15 rfl ?_
    refine va_get (D := D) (ci := 11) (v := .int i0_34) (C := RX11) (T := TX11) (N := 44) hx hb hts in_X11_undo_X11 hown hK hP 0 rfl rfl 34 (by decide) (hts (.fieldLink RX11 181 "PaneDaysModel" "works" "I") (List.mem_of_getElem? (i := 2) rfl)) (fun _ h9 => h9) rfl dX11_undo_16 ?_
    refine lv_iconst (v := 1) hx hb dX11_undo_19 (by decide) ?_
    refine lv_isub hx hb dX11_undo_20 ?_
    refine va_put (D := D) (ci := 11) (v := .int (i0_34 - 1)) (ty := .int) (C := RX11) (T := TX11) (N := 44) hx hb hts in_X11_undo_X11 tyX11 tyX11_ok nmX11 hown hK hP hD hS 0 rfl rfl 34 (by decide) (hts (.fieldLink RX11 181 "PaneDaysModel" "works" "I") (List.mem_of_getElem? (i := 2) rfl)) (fun _ h9 => h9) rfl (by decide +kernel) rfl rfl (Nat.le_of_ble_eq_true rfl) dX11_undo_21 (fun H locs (hP : va_P D vwCl (W_X11_undo cs a0 p0 (0) i0_1 i0_2 i0_3 i0_4 i0_5 i0_6 i0_7 i0_8 i0_19 i0_20 i0_28 i0_33 (i0_34 - 1) i0_35 i0_36 i0_37 i0_38 i0_39 i0_40 i0_41 i0_42 i0_43 v0_29 r0_31 g0_31) H) (hD : va_D _ (W_X11_undo cs a0 p0 (0) i0_1 i0_2 i0_3 i0_4 i0_5 i0_6 i0_7 i0_8 i0_19 i0_20 i0_28 i0_33 (i0_34 - 1) i0_35 i0_36 i0_37 i0_38 i0_39 i0_40 i0_41 i0_42 i0_43 v0_29 r0_31 g0_31)) hS => ?_)
    refine lv_aload_n hx hb dX11_undo_24 rfl (lv_at hl 0 rfl) ?_
    refine va_get (D := D) (ci := 11) (v := .ref (p0 31)) (C := RX11) (T := TX11) (N := 44) hx hb hts in_X11_undo_X11 hown hK hP 0 rfl rfl 31 (by decide) (hts (.fieldLink RX11 73 "PaneDaysModel" "before" "[[I") (List.mem_of_getElem? (i := 3) rfl)) (fun _ h9 => h9) rfl dX11_undo_25 ?_
    refine lv_aload_n hx hb dX11_undo_28 rfl (lv_at hl 0 rfl) ?_
    refine va_get (D := D) (ci := 11) (v := .int (i0_34 - 1)) (C := RX11) (T := TX11) (N := 44) hx hb hts in_X11_undo_X11 hown hK hP 0 rfl rfl 34 (by decide) (hts (.fieldLink RX11 181 "PaneDaysModel" "works" "I") (List.mem_of_getElem? (i := 2) rfl)) (fun _ h9 => h9) rfl dX11_undo_29 ?_
    obtain ⟨hr32, hf⟩ := ck_some hf
    refine ow_aald (rr := r0_31) hx hb hK hP 2 rfl hr32 dX11_undo_32 ?_
    refine lv_aload_n hx hb dX11_undo_33 rfl (lv_at hl 0 rfl) ?_
    refine va_get (D := D) (ci := 11) (v := .ref (p0 29)) (C := RX11) (T := TX11) (N := 44) hx hb hts in_X11_undo_X11 hown hK hP 0 rfl rfl 29 (by decide) (hts (.fieldLink RX11 67 "PaneDaysModel" "now" "[I") (List.mem_of_getElem? (i := 4) rfl)) (fun _ h9 => h9) rfl dX11_undo_34 ?_
    obtain ⟨q37, hq, hf⟩ := bd_some hf
    replace hP := sg_Pp (sg_split (sg := (S_X11_undo cs a0 p0 (0) i0_1 i0_2 i0_3 i0_4 i0_5 i0_6 i0_7 i0_8 i0_19 i0_20 i0_28 i0_33 (i0_34 - 1) i0_35 i0_36 i0_37 i0_38 i0_39 i0_40 i0_41 i0_42 i0_43 v0_29 r0_31 g0_31)) 3 rfl (gr_split (vp_lt hr32))) hP
    replace hD := sg_Dp (sg_split (sg := (S_X11_undo cs a0 p0 (0) i0_1 i0_2 i0_3 i0_4 i0_5 i0_6 i0_7 i0_8 i0_19 i0_20 i0_28 i0_33 (i0_34 - 1) i0_35 i0_36 i0_37 i0_38 i0_39 i0_40 i0_41 i0_42 i0_43 v0_29 r0_31 g0_31)) 3 rfl (gr_split (vp_lt hr32))) hD
    refine ow_gSV (As := [.ref (r0_31 (i0_34 - 1).toNatClampNeg), .ref (p0 29)]) (rest := []) (sg := (List.set (S_X11_undo cs a0 p0 (0) i0_1 i0_2 i0_3 i0_4 i0_5 i0_6 i0_7 i0_8 i0_19 i0_20 i0_28 i0_33 (i0_34 - 1) i0_35 i0_36 i0_37 i0_38 i0_39 i0_40 i0_41 i0_42 i0_43 v0_29 r0_31 g0_31) 3 [(r0_31 (i0_34 - 1).toNatClampNeg, .inl (cs 0, 2685, .inl (g0_31 (i0_34 - 1).toNatClampNeg)))] ++ [gRest cs 8 2685 r0_31 g0_31 (i0_34 - 1).toNatClampNeg])) (sc := (S_X11_copies cs (r0_31 (i0_34 - 1).toNatClampNeg) 2685 (g0_31 (i0_34 - 1).toNatClampNeg) (p0 29) 2685 v0_29)) (sc' := (S_X11_copies cs (r0_31 (i0_34 - 1).toNatClampNeg) 2685 (g0_31 (i0_34 - 1).toNatClampNeg) (p0 29) 2685 q37)) (sr := ow_pks (List.set (S_X11_undo cs a0 p0 (0) i0_1 i0_2 i0_3 i0_4 i0_5 i0_6 i0_7 i0_8 i0_19 i0_20 i0_28 i0_33 (i0_34 - 1) i0_35 i0_36 i0_37 i0_38 i0_39 i0_40 i0_41 i0_42 i0_43 v0_29 r0_31 g0_31) 3 [(r0_31 (i0_34 - 1).toNatClampNeg, .inl (cs 0, 2685, .inl (g0_31 (i0_34 - 1).toNatClampNeg)))] ++ [gRest cs 8 2685 r0_31 g0_31 (i0_34 - 1).toNatClampNeg]) [0, 2, 4]) (sf := (List.set (S_X11_undo cs a0 p0 (0) i0_1 i0_2 i0_3 i0_4 i0_5 i0_6 i0_7 i0_8 i0_19 i0_20 i0_28 i0_33 (i0_34 - 1) i0_35 i0_36 i0_37 i0_38 i0_39 i0_40 i0_41 i0_42 i0_43 q37 r0_31 g0_31) 3 [(r0_31 (i0_34 - 1).toNatClampNeg, .inl (cs 0, 2685, .inl (g0_31 (i0_34 - 1).toNatClampNeg)))] ++ [gRest cs 8 2685 r0_31 g0_31 (i0_34 - 1).toNatClampNeg])) C0 (c_X11_copies l D cs H.size (r0_31 (i0_34 - 1).toNatClampNeg) 2685 (g0_31 (i0_34 - 1).toNatClampNeg) (p0 29) 2685 v0_29  q37 hq) (va_cwS 2 hts gX11_undo_X11_copies rfl rfl rfl (by decide +kernel) ⟨Nat.le_of_ble_eq_true rfl, Nat.le_of_ble_eq_true rfl⟩) hP hD hS (sg_perm (isC := [3, 1]) (isR := [0, 2, 4]) rfl rfl rfl) (sg_permF (is := [0, 4, 1, 3, 2]) rfl rfl) rfl hl.1 rfl (Nat.le_of_ble_eq_true rfl) ⟨Nat.zero_le _, Nat.zero_le _⟩ dX11_undo_37 (fun H locs hP hD hS => ?_)
    replace hP : va_P D vwCl (W_X11_undo cs a0 p0 (0) i0_1 i0_2 i0_3 i0_4 i0_5 i0_6 i0_7 i0_8 i0_19 i0_20 i0_28 i0_33 (i0_34 - 1) i0_35 i0_36 i0_37 i0_38 i0_39 i0_40 i0_41 i0_42 i0_43 q37 r0_31 g0_31) H := sg_Pp (sg_merge (sg := (S_X11_undo cs a0 p0 (0) i0_1 i0_2 i0_3 i0_4 i0_5 i0_6 i0_7 i0_8 i0_19 i0_20 i0_28 i0_33 (i0_34 - 1) i0_35 i0_36 i0_37 i0_38 i0_39 i0_40 i0_41 i0_42 i0_43 q37 r0_31 g0_31)) 3 rfl (gr_split (vp_lt hr32))) hP
    replace hD : va_D _ (W_X11_undo cs a0 p0 (0) i0_1 i0_2 i0_3 i0_4 i0_5 i0_6 i0_7 i0_8 i0_19 i0_20 i0_28 i0_33 (i0_34 - 1) i0_35 i0_36 i0_37 i0_38 i0_39 i0_40 i0_41 i0_42 i0_43 q37 r0_31 g0_31) := sg_Dp (sg_merge (sg := (S_X11_undo cs a0 p0 (0) i0_1 i0_2 i0_3 i0_4 i0_5 i0_6 i0_7 i0_8 i0_19 i0_20 i0_28 i0_33 (i0_34 - 1) i0_35 i0_36 i0_37 i0_38 i0_39 i0_40 i0_41 i0_42 i0_43 q37 r0_31 g0_31)) 3 rfl (gr_split (vp_lt hr32))) hD
    refine lv_aload_n hx hb dX11_undo_40 rfl (lv_at hl 0 rfl) ?_
    refine lv_iconst (v := 0) hx hb dX11_undo_41 (by decide) ?_
    refine va_put (D := D) (ci := 11) (v := .int 0) (ty := .int) (C := RX11) (T := TX11) (N := 44) hx hb hts in_X11_undo_X11 tyX11 tyX11_ok nmX11 hown hK hP hD hS 0 rfl rfl 35 (by decide) (hts (.fieldLink RX11 184 "PaneDaysModel" "refusedSteps" "I") (List.mem_of_getElem? (i := 5) rfl)) (fun _ h9 => h9) rfl (by decide +kernel) rfl rfl (Nat.le_of_ble_eq_true rfl) dX11_undo_42 (fun H locs (hP : va_P D vwCl (W_X11_undo cs a0 p0 (0) i0_1 i0_2 i0_3 i0_4 i0_5 i0_6 i0_7 i0_8 i0_19 i0_20 i0_28 i0_33 (i0_34 - 1) (0) i0_36 i0_37 i0_38 i0_39 i0_40 i0_41 i0_42 i0_43 q37 r0_31 g0_31) H) (hD : va_D _ (W_X11_undo cs a0 p0 (0) i0_1 i0_2 i0_3 i0_4 i0_5 i0_6 i0_7 i0_8 i0_19 i0_20 i0_28 i0_33 (i0_34 - 1) (0) i0_36 i0_37 i0_38 i0_39 i0_40 i0_41 i0_42 i0_43 q37 r0_31 g0_31)) hS => ?_)
    refine lv_aload_n hx hb dX11_undo_45 rfl (lv_at hl 0 rfl) ?_
    refine va_get (D := D) (ci := 11) (v := .int (i0_34 - 1)) (C := RX11) (T := TX11) (N := 44) hx hb hts in_X11_undo_X11 hown hK hP 0 rfl rfl 34 (by decide) (hts (.fieldLink RX11 181 "PaneDaysModel" "works" "I") (List.mem_of_getElem? (i := 2) rfl)) (fun _ h9 => h9) rfl dX11_undo_46 ?_
    obtain rfl := Option.some.inj hf
    exact ow_retI C0 hP hD hS dX11_undo_49
  · replace hf := ow_t hc hf
    refine lv_iconst (v := (-1)) hx hb dX11_undo_12 (by decide) ?_
    obtain rfl := Option.some.inj hf
    exact ow_retI C0 hP hD hS dX11_undo_13
theorem in_X11_byteAt_X11 : ∀ w ∈ u_ws RX11 TX11 44, w ∈ wsX11_byteAt := fun w h => List.mem_cons_of_mem _ (List.mem_append_right _ h)
abbrev W_X11_byteAt (cs : Nat → ClassId) (a0 : Nat) (p0 : Nat → Nat) (i0_0 : Int32) (i0_1 : Int32) (i0_2 : Int32) (i0_3 : Int32) (i0_4 : Int32) (i0_5 : Int32) (i0_6 : Int32) (i0_7 : Int32) (i0_8 : Int32) (i0_19 : Int32) (i0_20 : Int32) (i0_28 : Int32) (i0_33 : Int32) (i0_34 : Int32) (i0_35 : Int32) (i0_36 : Int32) (i0_37 : Int32) (i0_38 : Int32) (i0_39 : Int32) (i0_40 : Int32) (i0_41 : Int32) (i0_42 : Int32) (i0_43 : Int32) (v0_9 : Nat → Int32) : va_W := [(a0, .inr (11, [.int i0_0, .int i0_1, .int i0_2, .int i0_3, .int i0_4, .int i0_5, .int i0_6, .int i0_7, .int i0_8, .ref (p0 9), .ref (p0 10), .ref (p0 11), .ref (p0 12), .ref (p0 13), .ref (p0 14), .ref (p0 15), .ref (p0 16), .ref (p0 17), .ref (p0 18), .int i0_19, .int i0_20, .ref (p0 21), .ref (p0 22), .ref (p0 23), .ref (p0 24), .ref (p0 25), .ref (p0 26), .ref (p0 27), .int i0_28, .ref (p0 29), .ref (p0 30), .ref (p0 31), .ref (p0 32), .int i0_33, .int i0_34, .int i0_35, .int i0_36, .int i0_37, .int i0_38, .int i0_39, .int i0_40, .int i0_41, .int i0_42, .int i0_43])), (p0 9, .inl (cs 0, 600, .inl v0_9))]
abbrev S_X11_byteAt (cs : Nat → ClassId) (a0 : Nat) (p0 : Nat → Nat) (i0_0 : Int32) (i0_1 : Int32) (i0_2 : Int32) (i0_3 : Int32) (i0_4 : Int32) (i0_5 : Int32) (i0_6 : Int32) (i0_7 : Int32) (i0_8 : Int32) (i0_19 : Int32) (i0_20 : Int32) (i0_28 : Int32) (i0_33 : Int32) (i0_34 : Int32) (i0_35 : Int32) (i0_36 : Int32) (i0_37 : Int32) (i0_38 : Int32) (i0_39 : Int32) (i0_40 : Int32) (i0_41 : Int32) (i0_42 : Int32) (i0_43 : Int32) (v0_9 : Nat → Int32) : List va_W := [[(a0, .inr (11, [.int i0_0, .int i0_1, .int i0_2, .int i0_3, .int i0_4, .int i0_5, .int i0_6, .int i0_7, .int i0_8, .ref (p0 9), .ref (p0 10), .ref (p0 11), .ref (p0 12), .ref (p0 13), .ref (p0 14), .ref (p0 15), .ref (p0 16), .ref (p0 17), .ref (p0 18), .int i0_19, .int i0_20, .ref (p0 21), .ref (p0 22), .ref (p0 23), .ref (p0 24), .ref (p0 25), .ref (p0 26), .ref (p0 27), .int i0_28, .ref (p0 29), .ref (p0 30), .ref (p0 31), .ref (p0 32), .int i0_33, .int i0_34, .int i0_35, .int i0_36, .int i0_37, .int i0_38, .int i0_39, .int i0_40, .int i0_41, .int i0_42, .int i0_43]))], [(p0 9, .inl (cs 0, 600, .inl v0_9))]]
abbrev rm_X11_byteAt : Room := { frames := 0, cells := 0, slots := 0, locals := 0 }
def f_X11_byteAt  (i0_2 : Int32) (v0_9 : Nat → Int32) (x1 : Int32) : Option (Int32) := if x1 < i0_2 then (ck x1 600 (some (v0_9 (x1).toNatClampNeg))) else (some ((-1)))
set_option maxHeartbeats 4000000 in
set_option maxRecDepth 100000 in
theorem c_X11_byteAt (l : Launch) (D : va_G) (cs : Nat → ClassId)  (sz : Nat) (a0 : Nat) (p0 : Nat → Nat) (i0_0 : Int32) (i0_1 : Int32) (i0_2 : Int32) (i0_3 : Int32) (i0_4 : Int32) (i0_5 : Int32) (i0_6 : Int32) (i0_7 : Int32) (i0_8 : Int32) (i0_19 : Int32) (i0_20 : Int32) (i0_28 : Int32) (i0_33 : Int32) (i0_34 : Int32) (i0_35 : Int32) (i0_36 : Int32) (i0_37 : Int32) (i0_38 : Int32) (i0_39 : Int32) (i0_40 : Int32) (i0_41 : Int32) (i0_42 : Int32) (i0_43 : Int32) (v0_9 : Nat → Int32) (x1 : Int32) (res : Int32) (hf : f_X11_byteAt  i0_2 v0_9 x1 = some res) : MI l D cs yX11_byteAt wsX11_byteAt rm_X11_byteAt [.ref a0, .int x1] sz (W_X11_byteAt cs a0 p0 i0_0 i0_1 i0_2 i0_3 i0_4 i0_5 i0_6 i0_7 i0_8 i0_19 i0_20 i0_28 i0_33 i0_34 i0_35 i0_36 i0_37 i0_38 i0_39 i0_40 i0_41 i0_42 i0_43 v0_9) (W_X11_byteAt cs a0 p0 i0_0 i0_1 i0_2 i0_3 i0_4 i0_5 i0_6 i0_7 i0_8 i0_19 i0_20 i0_28 i0_33 i0_34 i0_35 i0_36 i0_37 i0_38 i0_39 i0_40 i0_41 i0_42 i0_43 v0_9) res := by
  rw [f_X11_byteAt] at hf
  refine ow_enter (cc := cX11_byteAt) (nL := 2) (ret := (some .int)) (by decide) rfl (Nat.le_of_ble_eq_true rfl) (fun p e s m below meth c ls H locs C0 hP hD hS hA hl => ?_)
  obtain ⟨hx, hb, hr, hlk, hml, hown, hts, hK, hG, hE⟩ := id C0
  have hl : lv_has ls 2 [(0, .ref a0), (1, .int x1)] := hl
  refine lv_iload_n hx hb dX11_byteAt_0 rfl (lv_at hl 1 rfl) ?_
  refine lv_aload_n hx hb dX11_byteAt_1 rfl (lv_at hl 0 rfl) ?_
  refine va_get (D := D) (ci := 11) (v := .int i0_2) (C := RX11) (T := TX11) (N := 44) hx hb hts in_X11_byteAt_X11 hown hK hP 0 rfl rfl 2 (by decide) (hts (.fieldLink RX11 91 "PaneDaysModel" "size" "I") (List.mem_of_getElem? (i := 1) rfl)) (fun _ h9 => h9) rfl dX11_byteAt_2 ?_
  refine lv_icmp_lt (tgt := 12) hx hb dX11_byteAt_5 (by decide) (fun hc => ?_) (fun hc => ?_)
  · replace hf := ow_t hc hf
    refine lv_aload_n hx hb dX11_byteAt_12 rfl (lv_at hl 0 rfl) ?_
    refine va_get (D := D) (ci := 11) (v := .ref (p0 9)) (C := RX11) (T := TX11) (N := 44) hx hb hts in_X11_byteAt_X11 hown hK hP 0 rfl rfl 9 (by decide) (hts (.fieldLink RX11 13 "PaneDaysModel" "fed" "[I") (List.mem_of_getElem? (i := 2) rfl)) (fun _ h9 => h9) rfl dX11_byteAt_13 ?_
    refine lv_iload_n hx hb dX11_byteAt_16 rfl (lv_at hl 1 rfl) ?_
    obtain ⟨hin, hf⟩ := ck_some hf
    refine va_iald (f := v0_9) hx hb hK hP 1 0 rfl rfl hin dX11_byteAt_17 ?_
    obtain rfl := Option.some.inj hf
    exact ow_retI C0 hP hD hS dX11_byteAt_18
  · replace hf := ow_f hc hf
    refine lv_iconst (v := (-1)) hx hb dX11_byteAt_8 (by decide) ?_
    refine lv_goto (tgt := 18) hx hb dX11_byteAt_9 (by decide) ?_
    obtain rfl := Option.some.inj hf
    exact ow_retI C0 hP hD hS dX11_byteAt_18
theorem in_X11_blanks_X11 : ∀ w ∈ u_ws RX11 TX11 44, w ∈ wsX11_blanks := fun w h => List.mem_cons_of_mem _ (List.mem_append_right _ h)
abbrev W_X11_blanks (cs : Nat → ClassId) (a0 : Nat) (p0 : Nat → Nat) (i0_0 : Int32) (i0_1 : Int32) (i0_2 : Int32) (i0_3 : Int32) (i0_4 : Int32) (i0_5 : Int32) (i0_6 : Int32) (i0_7 : Int32) (i0_8 : Int32) (i0_19 : Int32) (i0_20 : Int32) (i0_28 : Int32) (i0_33 : Int32) (i0_34 : Int32) (i0_35 : Int32) (i0_36 : Int32) (i0_37 : Int32) (i0_38 : Int32) (i0_39 : Int32) (i0_40 : Int32) (i0_41 : Int32) (i0_42 : Int32) (i0_43 : Int32) (v0_9 : Nat → Int32) : va_W := [(a0, .inr (11, [.int i0_0, .int i0_1, .int i0_2, .int i0_3, .int i0_4, .int i0_5, .int i0_6, .int i0_7, .int i0_8, .ref (p0 9), .ref (p0 10), .ref (p0 11), .ref (p0 12), .ref (p0 13), .ref (p0 14), .ref (p0 15), .ref (p0 16), .ref (p0 17), .ref (p0 18), .int i0_19, .int i0_20, .ref (p0 21), .ref (p0 22), .ref (p0 23), .ref (p0 24), .ref (p0 25), .ref (p0 26), .ref (p0 27), .int i0_28, .ref (p0 29), .ref (p0 30), .ref (p0 31), .ref (p0 32), .int i0_33, .int i0_34, .int i0_35, .int i0_36, .int i0_37, .int i0_38, .int i0_39, .int i0_40, .int i0_41, .int i0_42, .int i0_43])), (p0 9, .inl (cs 0, 600, .inl v0_9))]
abbrev S_X11_blanks (cs : Nat → ClassId) (a0 : Nat) (p0 : Nat → Nat) (i0_0 : Int32) (i0_1 : Int32) (i0_2 : Int32) (i0_3 : Int32) (i0_4 : Int32) (i0_5 : Int32) (i0_6 : Int32) (i0_7 : Int32) (i0_8 : Int32) (i0_19 : Int32) (i0_20 : Int32) (i0_28 : Int32) (i0_33 : Int32) (i0_34 : Int32) (i0_35 : Int32) (i0_36 : Int32) (i0_37 : Int32) (i0_38 : Int32) (i0_39 : Int32) (i0_40 : Int32) (i0_41 : Int32) (i0_42 : Int32) (i0_43 : Int32) (v0_9 : Nat → Int32) : List va_W := [[(a0, .inr (11, [.int i0_0, .int i0_1, .int i0_2, .int i0_3, .int i0_4, .int i0_5, .int i0_6, .int i0_7, .int i0_8, .ref (p0 9), .ref (p0 10), .ref (p0 11), .ref (p0 12), .ref (p0 13), .ref (p0 14), .ref (p0 15), .ref (p0 16), .ref (p0 17), .ref (p0 18), .int i0_19, .int i0_20, .ref (p0 21), .ref (p0 22), .ref (p0 23), .ref (p0 24), .ref (p0 25), .ref (p0 26), .ref (p0 27), .int i0_28, .ref (p0 29), .ref (p0 30), .ref (p0 31), .ref (p0 32), .int i0_33, .int i0_34, .int i0_35, .int i0_36, .int i0_37, .int i0_38, .int i0_39, .int i0_40, .int i0_41, .int i0_42, .int i0_43]))], [(p0 9, .inl (cs 0, 600, .inl v0_9))]]
abbrev rm_X11_blanks : Room := { frames := 1, cells := 0, slots := 0, locals := 21 }
def f_X11_blanks_b0  (i0_2 : Int32) (v0_9 : Nat → Int32)  : Nat → (Int32) → Option (Int32)
  | 0, _ => none
  | n + 1, i0_4 => (f_X11_byteAt i0_2 v0_9 i0_4).bind fun q5 => if q5 = 32 then (f_X11_blanks_b0 i0_2 v0_9 n (i0_4 + 1)) else (some (i0_4))
set_option maxHeartbeats 4000000 in
set_option maxRecDepth 100000 in
theorem w_X11_blanks_b0 {p : Program} {l : Launch} {e : Env} {s : State} {m : MethodId} {below : List Frame} {meth : Method} {c : Code} {D : va_G} {cs : Nat → ClassId} {av : Array Value} {w0 : va_W} (C0 : Cx p s m meth c av wsX11_blanks cX11_blanks 1 none RX11 D cs w0)  (a0 : Nat) (p0 : Nat → Nat) (i0_0 : Int32) (i0_1 : Int32) (i0_2 : Int32) (i0_3 : Int32) (i0_5 : Int32) (i0_6 : Int32) (i0_7 : Int32) (i0_8 : Int32) (i0_19 : Int32) (i0_20 : Int32) (i0_28 : Int32) (i0_33 : Int32) (i0_34 : Int32) (i0_35 : Int32) (i0_36 : Int32) (i0_37 : Int32) (i0_38 : Int32) (i0_39 : Int32) (i0_40 : Int32) (i0_41 : Int32) (i0_42 : Int32) (i0_43 : Int32) (v0_9 : Nat → Int32) (res : Int32)  : ∀ (n : Nat) (i0_4 : Int32), f_X11_blanks_b0 i0_2 v0_9 n i0_4 = some res → ∀ (H : Heap) (locs : List Loc) (ls : Array Slot), va_P D vwCl (W_X11_blanks cs a0 p0 i0_0 i0_1 i0_2 i0_3 i0_4 i0_5 i0_6 i0_7 i0_8 i0_19 i0_20 i0_28 i0_33 i0_34 i0_35 i0_36 i0_37 i0_38 i0_39 i0_40 i0_41 i0_42 i0_43 v0_9) H → va_D (va_A w0 s.heap.size) (W_X11_blanks cs a0 p0 i0_0 i0_1 i0_2 i0_3 i0_4 i0_5 i0_6 i0_7 i0_8 i0_19 i0_20 i0_28 i0_33 i0_34 i0_35 i0_36 i0_37 i0_38 i0_39 i0_40 i0_41 i0_42 i0_43 v0_9) → va_S (va_A w0 s.heap.size) s.heap H locs → lv_has ls 1 [(0, .ref a0)] → W p l e rm_X11_blanks s m av below meth c H locs 0 0 (MQ below (oV D cs w0 (W_X11_blanks cs a0 p0 i0_0 i0_1 i0_2 i0_3 res i0_5 i0_6 i0_7 i0_8 i0_19 i0_20 i0_28 i0_33 i0_34 i0_35 i0_36 i0_37 i0_38 i0_39 i0_40 i0_41 i0_42 i0_43 v0_9) s.heap.size) av s 0 0 (va_A w0 s.heap.size)) (F0 m 0 ls []) := by
  obtain ⟨hx, hb, hr, hlk, hml, hown, hts, hK, hG, hE⟩ := id C0
  intro n
  induction n with
  | zero =>
    intro i0_4 hf
    rw [f_X11_blanks_b0] at hf
    cases hf
  | succ n ih =>
    intro i0_4 hf H locs ls hP hD hS hl
    rw [f_X11_blanks_b0] at hf
    refine lv_aload_n hx hb dX11_blanks_0 rfl (lv_at hl 0 rfl) ?_
    refine lv_aload_n hx hb dX11_blanks_1 rfl (lv_at hl 0 rfl) ?_
    refine va_get (D := D) (ci := 11) (v := .int i0_4) (C := RX11) (T := TX11) (N := 44) hx hb hts in_X11_blanks_X11 hown hK hP 0 rfl rfl 4 (by decide) (hts (.fieldLink RX11 94 "PaneDaysModel" "at" "I") (List.mem_of_getElem? (i := 1) rfl)) (fun _ h9 => h9) rfl dX11_blanks_2 ?_
    obtain ⟨q5, hq, hf⟩ := bd_some hf
    refine ow_gVI (As := [.int i0_4]) (rest := []) (sg := (S_X11_blanks cs a0 p0 i0_0 i0_1 i0_2 i0_3 i0_4 i0_5 i0_6 i0_7 i0_8 i0_19 i0_20 i0_28 i0_33 i0_34 i0_35 i0_36 i0_37 i0_38 i0_39 i0_40 i0_41 i0_42 i0_43 v0_9)) (sc := (S_X11_byteAt cs a0 p0 i0_0 i0_1 i0_2 i0_3 i0_4 i0_5 i0_6 i0_7 i0_8 i0_19 i0_20 i0_28 i0_33 i0_34 i0_35 i0_36 i0_37 i0_38 i0_39 i0_40 i0_41 i0_42 i0_43 v0_9)) (sc' := (S_X11_byteAt cs a0 p0 i0_0 i0_1 i0_2 i0_3 i0_4 i0_5 i0_6 i0_7 i0_8 i0_19 i0_20 i0_28 i0_33 i0_34 i0_35 i0_36 i0_37 i0_38 i0_39 i0_40 i0_41 i0_42 i0_43 v0_9)) (sr := ow_pks (S_X11_blanks cs a0 p0 i0_0 i0_1 i0_2 i0_3 i0_4 i0_5 i0_6 i0_7 i0_8 i0_19 i0_20 i0_28 i0_33 i0_34 i0_35 i0_36 i0_37 i0_38 i0_39 i0_40 i0_41 i0_42 i0_43 v0_9) []) (sf := (S_X11_blanks cs a0 p0 i0_0 i0_1 i0_2 i0_3 i0_4 i0_5 i0_6 i0_7 i0_8 i0_19 i0_20 i0_28 i0_33 i0_34 i0_35 i0_36 i0_37 i0_38 i0_39 i0_40 i0_41 i0_42 i0_43 v0_9)) (r := q5) C0 (c_X11_byteAt l D cs H.size a0 p0 i0_0 i0_1 i0_2 i0_3 i0_4 i0_5 i0_6 i0_7 i0_8 i0_19 i0_20 i0_28 i0_33 i0_34 i0_35 i0_36 i0_37 i0_38 i0_39 i0_40 i0_41 i0_42 i0_43 v0_9 i0_4 q5 hq) (cwV 1 hts gX11_blanks_X11_byteAt rfl rfl rfl (by decide +kernel) ⟨Nat.le_of_ble_eq_true rfl, Nat.le_of_ble_eq_true rfl⟩) 11 rfl rfl hP hD hS (sg_perm (isC := [0, 1]) (isR := []) rfl rfl rfl) (sg_permF (is := [0, 1]) rfl rfl) rfl hl.1 rfl (Nat.le_of_ble_eq_true rfl) ⟨Nat.zero_le _, Nat.zero_le _⟩ dX11_blanks_5 (fun H locs hP hD hS => ?_)
    refine lv_bipush (v := 32) hx hb dX11_blanks_8 (by decide) ?_
    refine lv_icmp_ne (tgt := 26) hx hb dX11_blanks_10 (by decide) (fun hc => ?_) (fun hc => ?_)
    · replace hf := ow_f hc hf
      obtain rfl := Option.some.inj hf
      exact ow_retV C0 hP hD hS dX11_blanks_26
    · replace hf := ow_t hc hf
      refine lv_aload_n hx hb dX11_blanks_13 rfl (lv_at hl 0 rfl) ?_
      refine lv_dup hx hb dX11_blanks_14 rfl ?_
      refine va_get (D := D) (ci := 11) (v := .int i0_4) (C := RX11) (T := TX11) (N := 44) hx hb hts in_X11_blanks_X11 hown hK hP 0 rfl rfl 4 (by decide) (hts (.fieldLink RX11 94 "PaneDaysModel" "at" "I") (List.mem_of_getElem? (i := 1) rfl)) (fun _ h9 => h9) rfl dX11_blanks_15 ?_
      refine lv_iconst (v := 1) hx hb dX11_blanks_18 (by decide) ?_
      refine lv_iadd hx hb dX11_blanks_19 ?_
      refine va_put (D := D) (ci := 11) (v := .int (i0_4 + 1)) (ty := .int) (C := RX11) (T := TX11) (N := 44) hx hb hts in_X11_blanks_X11 tyX11 tyX11_ok nmX11 hown hK hP hD hS 0 rfl rfl 4 (by decide) (hts (.fieldLink RX11 94 "PaneDaysModel" "at" "I") (List.mem_of_getElem? (i := 1) rfl)) (fun _ h9 => h9) rfl (by decide +kernel) rfl rfl (Nat.le_of_ble_eq_true rfl) dX11_blanks_20 (fun H locs (hP : va_P D vwCl (W_X11_blanks cs a0 p0 i0_0 i0_1 i0_2 i0_3 (i0_4 + 1) i0_5 i0_6 i0_7 i0_8 i0_19 i0_20 i0_28 i0_33 i0_34 i0_35 i0_36 i0_37 i0_38 i0_39 i0_40 i0_41 i0_42 i0_43 v0_9) H) (hD : va_D _ (W_X11_blanks cs a0 p0 i0_0 i0_1 i0_2 i0_3 (i0_4 + 1) i0_5 i0_6 i0_7 i0_8 i0_19 i0_20 i0_28 i0_33 i0_34 i0_35 i0_36 i0_37 i0_38 i0_39 i0_40 i0_41 i0_42 i0_43 v0_9)) hS => ?_)
      refine lv_goto (tgt := 0) hx hb dX11_blanks_23 (by decide) ?_
      exact ih (i0_4 + 1)  hf _ _ _ hP hD hS (lv_sub hl [0] rfl)
def f_X11_blanks  (i0_2 : Int32) (i0_4 : Int32) (v0_9 : Nat → Int32)  : Option (Int32) := f_X11_blanks_b0 i0_2 v0_9 4000 i0_4
set_option maxHeartbeats 4000000 in
set_option maxRecDepth 100000 in
theorem c_X11_blanks (l : Launch) (D : va_G) (cs : Nat → ClassId)  (sz : Nat) (a0 : Nat) (p0 : Nat → Nat) (i0_0 : Int32) (i0_1 : Int32) (i0_2 : Int32) (i0_3 : Int32) (i0_4 : Int32) (i0_5 : Int32) (i0_6 : Int32) (i0_7 : Int32) (i0_8 : Int32) (i0_19 : Int32) (i0_20 : Int32) (i0_28 : Int32) (i0_33 : Int32) (i0_34 : Int32) (i0_35 : Int32) (i0_36 : Int32) (i0_37 : Int32) (i0_38 : Int32) (i0_39 : Int32) (i0_40 : Int32) (i0_41 : Int32) (i0_42 : Int32) (i0_43 : Int32) (v0_9 : Nat → Int32)  (res : Int32) (hf : f_X11_blanks  i0_2 i0_4 v0_9  = some res) : MV l D cs yX11_blanks wsX11_blanks rm_X11_blanks [.ref a0] sz (W_X11_blanks cs a0 p0 i0_0 i0_1 i0_2 i0_3 i0_4 i0_5 i0_6 i0_7 i0_8 i0_19 i0_20 i0_28 i0_33 i0_34 i0_35 i0_36 i0_37 i0_38 i0_39 i0_40 i0_41 i0_42 i0_43 v0_9) (W_X11_blanks cs a0 p0 i0_0 i0_1 i0_2 i0_3 res i0_5 i0_6 i0_7 i0_8 i0_19 i0_20 i0_28 i0_33 i0_34 i0_35 i0_36 i0_37 i0_38 i0_39 i0_40 i0_41 i0_42 i0_43 v0_9) := by
  rw [f_X11_blanks] at hf
  refine ow_enter (cc := cX11_blanks) (nL := 1) (ret := none) (by decide) rfl (Nat.le_of_ble_eq_true rfl) (fun p e s m below meth c ls H locs C0 hP hD hS hA hl => ?_)
  obtain ⟨hx, hb, hr, hlk, hml, hown, hts, hK, hG, hE⟩ := id C0
  have hl : lv_has ls 1 [(0, .ref a0)] := hl
  exact w_X11_blanks_b0 C0 a0 p0 i0_0 i0_1 i0_2 i0_3 i0_5 i0_6 i0_7 i0_8 i0_19 i0_20 i0_28 i0_33 i0_34 i0_35 i0_36 i0_37 i0_38 i0_39 i0_40 i0_41 i0_42 i0_43 v0_9 res 4000 i0_4  hf _ _ _ hP hD hS (lv_sub hl [0] rfl)
theorem in_X11_starts_X11 : ∀ w ∈ u_ws RX11 TX11 44, w ∈ wsX11_starts := fun w h => List.mem_cons_of_mem _ (List.mem_append_right _ h)
abbrev W_X11_starts (cs : Nat → ClassId) (a0 : Nat) (p0 : Nat → Nat) (i0_0 : Int32) (i0_1 : Int32) (i0_2 : Int32) (i0_3 : Int32) (i0_4 : Int32) (i0_5 : Int32) (i0_6 : Int32) (i0_7 : Int32) (i0_8 : Int32) (i0_19 : Int32) (i0_20 : Int32) (i0_28 : Int32) (i0_33 : Int32) (i0_34 : Int32) (i0_35 : Int32) (i0_36 : Int32) (i0_37 : Int32) (i0_38 : Int32) (i0_39 : Int32) (i0_40 : Int32) (i0_41 : Int32) (i0_42 : Int32) (i0_43 : Int32) (v0_9 : Nat → Int32) : va_W := [(a0, .inr (11, [.int i0_0, .int i0_1, .int i0_2, .int i0_3, .int i0_4, .int i0_5, .int i0_6, .int i0_7, .int i0_8, .ref (p0 9), .ref (p0 10), .ref (p0 11), .ref (p0 12), .ref (p0 13), .ref (p0 14), .ref (p0 15), .ref (p0 16), .ref (p0 17), .ref (p0 18), .int i0_19, .int i0_20, .ref (p0 21), .ref (p0 22), .ref (p0 23), .ref (p0 24), .ref (p0 25), .ref (p0 26), .ref (p0 27), .int i0_28, .ref (p0 29), .ref (p0 30), .ref (p0 31), .ref (p0 32), .int i0_33, .int i0_34, .int i0_35, .int i0_36, .int i0_37, .int i0_38, .int i0_39, .int i0_40, .int i0_41, .int i0_42, .int i0_43])), (p0 9, .inl (cs 0, 600, .inl v0_9))]
abbrev S_X11_starts (cs : Nat → ClassId) (a0 : Nat) (p0 : Nat → Nat) (i0_0 : Int32) (i0_1 : Int32) (i0_2 : Int32) (i0_3 : Int32) (i0_4 : Int32) (i0_5 : Int32) (i0_6 : Int32) (i0_7 : Int32) (i0_8 : Int32) (i0_19 : Int32) (i0_20 : Int32) (i0_28 : Int32) (i0_33 : Int32) (i0_34 : Int32) (i0_35 : Int32) (i0_36 : Int32) (i0_37 : Int32) (i0_38 : Int32) (i0_39 : Int32) (i0_40 : Int32) (i0_41 : Int32) (i0_42 : Int32) (i0_43 : Int32) (v0_9 : Nat → Int32) : List va_W := [[(a0, .inr (11, [.int i0_0, .int i0_1, .int i0_2, .int i0_3, .int i0_4, .int i0_5, .int i0_6, .int i0_7, .int i0_8, .ref (p0 9), .ref (p0 10), .ref (p0 11), .ref (p0 12), .ref (p0 13), .ref (p0 14), .ref (p0 15), .ref (p0 16), .ref (p0 17), .ref (p0 18), .int i0_19, .int i0_20, .ref (p0 21), .ref (p0 22), .ref (p0 23), .ref (p0 24), .ref (p0 25), .ref (p0 26), .ref (p0 27), .int i0_28, .ref (p0 29), .ref (p0 30), .ref (p0 31), .ref (p0 32), .int i0_33, .int i0_34, .int i0_35, .int i0_36, .int i0_37, .int i0_38, .int i0_39, .int i0_40, .int i0_41, .int i0_42, .int i0_43]))], [(p0 9, .inl (cs 0, 600, .inl v0_9))]]
abbrev rm_X11_starts : Room := { frames := 2, cells := 0, slots := 0, locals := 41 }
def f_X11_starts  (i0_1 : Int32) (i0_2 : Int32) (i0_4 : Int32) (i0_5 : Int32) (i0_6 : Int32) (i0_7 : Int32) (i0_8 : Int32) (v0_9 : Nat → Int32) (x1 : Int32) : Option (Int32 × Int32 × Int32 × Int32 × Int32 × Int32 × Int32) := (f_X11_blanks x1 (0) v0_9).bind fun q36 => some (0, x1, q36, 0, (-1), 0, 0)
set_option maxHeartbeats 4000000 in
set_option maxRecDepth 100000 in
theorem c_X11_starts (l : Launch) (D : va_G) (cs : Nat → ClassId)  (sz : Nat) (a0 : Nat) (p0 : Nat → Nat) (i0_0 : Int32) (i0_1 : Int32) (i0_2 : Int32) (i0_3 : Int32) (i0_4 : Int32) (i0_5 : Int32) (i0_6 : Int32) (i0_7 : Int32) (i0_8 : Int32) (i0_19 : Int32) (i0_20 : Int32) (i0_28 : Int32) (i0_33 : Int32) (i0_34 : Int32) (i0_35 : Int32) (i0_36 : Int32) (i0_37 : Int32) (i0_38 : Int32) (i0_39 : Int32) (i0_40 : Int32) (i0_41 : Int32) (i0_42 : Int32) (i0_43 : Int32) (v0_9 : Nat → Int32) (x1 : Int32) (res : Int32 × Int32 × Int32 × Int32 × Int32 × Int32 × Int32) (hf : f_X11_starts  i0_1 i0_2 i0_4 i0_5 i0_6 i0_7 i0_8 v0_9 x1 = some res) : MV l D cs yX11_starts wsX11_starts rm_X11_starts [.ref a0, .int x1] sz (W_X11_starts cs a0 p0 i0_0 i0_1 i0_2 i0_3 i0_4 i0_5 i0_6 i0_7 i0_8 i0_19 i0_20 i0_28 i0_33 i0_34 i0_35 i0_36 i0_37 i0_38 i0_39 i0_40 i0_41 i0_42 i0_43 v0_9) (W_X11_starts cs a0 p0 i0_0 res.1 res.2.1 i0_3 res.2.2.1 res.2.2.2.1 res.2.2.2.2.1 res.2.2.2.2.2.1 res.2.2.2.2.2.2 i0_19 i0_20 i0_28 i0_33 i0_34 i0_35 i0_36 i0_37 i0_38 i0_39 i0_40 i0_41 i0_42 i0_43 v0_9) := by
  rw [f_X11_starts] at hf
  refine ow_enter (cc := cX11_starts) (nL := 2) (ret := none) (by decide) rfl (Nat.le_of_ble_eq_true rfl) (fun p e s m below meth c ls H locs C0 hP hD hS hA hl => ?_)
  obtain ⟨hx, hb, hr, hlk, hml, hown, hts, hK, hG, hE⟩ := id C0
  have hl : lv_has ls 2 [(0, .ref a0), (1, .int x1)] := hl
  refine lv_aload_n hx hb dX11_starts_0 rfl (lv_at hl 0 rfl) ?_
  refine lv_iconst (v := 0) hx hb dX11_starts_1 (by decide) ?_
  refine va_put (D := D) (ci := 11) (v := .int 0) (ty := .int) (C := RX11) (T := TX11) (N := 44) hx hb hts in_X11_starts_X11 tyX11 tyX11_ok nmX11 hown hK hP hD hS 0 rfl rfl 1 (by decide) (hts (.fieldLink RX11 88 "PaneDaysModel" "tape" "I") (List.mem_of_getElem? (i := 1) rfl)) (fun _ h9 => h9) rfl (by decide +kernel) rfl rfl (Nat.le_of_ble_eq_true rfl) dX11_starts_2 (fun H locs (hP : va_P D vwCl (W_X11_starts cs a0 p0 i0_0 (0) i0_2 i0_3 i0_4 i0_5 i0_6 i0_7 i0_8 i0_19 i0_20 i0_28 i0_33 i0_34 i0_35 i0_36 i0_37 i0_38 i0_39 i0_40 i0_41 i0_42 i0_43 v0_9) H) (hD : va_D _ (W_X11_starts cs a0 p0 i0_0 (0) i0_2 i0_3 i0_4 i0_5 i0_6 i0_7 i0_8 i0_19 i0_20 i0_28 i0_33 i0_34 i0_35 i0_36 i0_37 i0_38 i0_39 i0_40 i0_41 i0_42 i0_43 v0_9)) hS => ?_)
  refine lv_aload_n hx hb dX11_starts_5 rfl (lv_at hl 0 rfl) ?_
  refine lv_iload_n hx hb dX11_starts_6 rfl (lv_at hl 1 rfl) ?_
  refine va_put (D := D) (ci := 11) (v := .int x1) (ty := .int) (C := RX11) (T := TX11) (N := 44) hx hb hts in_X11_starts_X11 tyX11 tyX11_ok nmX11 hown hK hP hD hS 0 rfl rfl 2 (by decide) (hts (.fieldLink RX11 91 "PaneDaysModel" "size" "I") (List.mem_of_getElem? (i := 2) rfl)) (fun _ h9 => h9) rfl (by decide +kernel) rfl rfl (Nat.le_of_ble_eq_true rfl) dX11_starts_7 (fun H locs (hP : va_P D vwCl (W_X11_starts cs a0 p0 i0_0 (0) x1 i0_3 i0_4 i0_5 i0_6 i0_7 i0_8 i0_19 i0_20 i0_28 i0_33 i0_34 i0_35 i0_36 i0_37 i0_38 i0_39 i0_40 i0_41 i0_42 i0_43 v0_9) H) (hD : va_D _ (W_X11_starts cs a0 p0 i0_0 (0) x1 i0_3 i0_4 i0_5 i0_6 i0_7 i0_8 i0_19 i0_20 i0_28 i0_33 i0_34 i0_35 i0_36 i0_37 i0_38 i0_39 i0_40 i0_41 i0_42 i0_43 v0_9)) hS => ?_)
  refine lv_aload_n hx hb dX11_starts_10 rfl (lv_at hl 0 rfl) ?_
  refine lv_iconst (v := 0) hx hb dX11_starts_11 (by decide) ?_
  refine va_put (D := D) (ci := 11) (v := .int 0) (ty := .int) (C := RX11) (T := TX11) (N := 44) hx hb hts in_X11_starts_X11 tyX11 tyX11_ok nmX11 hown hK hP hD hS 0 rfl rfl 4 (by decide) (hts (.fieldLink RX11 94 "PaneDaysModel" "at" "I") (List.mem_of_getElem? (i := 3) rfl)) (fun _ h9 => h9) rfl (by decide +kernel) rfl rfl (Nat.le_of_ble_eq_true rfl) dX11_starts_12 (fun H locs (hP : va_P D vwCl (W_X11_starts cs a0 p0 i0_0 (0) x1 i0_3 (0) i0_5 i0_6 i0_7 i0_8 i0_19 i0_20 i0_28 i0_33 i0_34 i0_35 i0_36 i0_37 i0_38 i0_39 i0_40 i0_41 i0_42 i0_43 v0_9) H) (hD : va_D _ (W_X11_starts cs a0 p0 i0_0 (0) x1 i0_3 (0) i0_5 i0_6 i0_7 i0_8 i0_19 i0_20 i0_28 i0_33 i0_34 i0_35 i0_36 i0_37 i0_38 i0_39 i0_40 i0_41 i0_42 i0_43 v0_9)) hS => ?_)
  refine lv_aload_n hx hb dX11_starts_15 rfl (lv_at hl 0 rfl) ?_
  refine lv_iconst (v := 0) hx hb dX11_starts_16 (by decide) ?_
  refine va_put (D := D) (ci := 11) (v := .int 0) (ty := .int) (C := RX11) (T := TX11) (N := 44) hx hb hts in_X11_starts_X11 tyX11 tyX11_ok nmX11 hown hK hP hD hS 0 rfl rfl 5 (by decide) (hts (.fieldLink RX11 101 "PaneDaysModel" "fault" "I") (List.mem_of_getElem? (i := 4) rfl)) (fun _ h9 => h9) rfl (by decide +kernel) rfl rfl (Nat.le_of_ble_eq_true rfl) dX11_starts_17 (fun H locs (hP : va_P D vwCl (W_X11_starts cs a0 p0 i0_0 (0) x1 i0_3 (0) (0) i0_6 i0_7 i0_8 i0_19 i0_20 i0_28 i0_33 i0_34 i0_35 i0_36 i0_37 i0_38 i0_39 i0_40 i0_41 i0_42 i0_43 v0_9) H) (hD : va_D _ (W_X11_starts cs a0 p0 i0_0 (0) x1 i0_3 (0) (0) i0_6 i0_7 i0_8 i0_19 i0_20 i0_28 i0_33 i0_34 i0_35 i0_36 i0_37 i0_38 i0_39 i0_40 i0_41 i0_42 i0_43 v0_9)) hS => ?_)
  refine lv_aload_n hx hb dX11_starts_20 rfl (lv_at hl 0 rfl) ?_
  refine lv_iconst (v := (-1)) hx hb dX11_starts_21 (by decide) ?_
  refine va_put (D := D) (ci := 11) (v := .int ((-1))) (ty := .int) (C := RX11) (T := TX11) (N := 44) hx hb hts in_X11_starts_X11 tyX11 tyX11_ok nmX11 hown hK hP hD hS 0 rfl rfl 6 (by decide) (hts (.fieldLink RX11 104 "PaneDaysModel" "faultAt" "I") (List.mem_of_getElem? (i := 5) rfl)) (fun _ h9 => h9) rfl (by decide +kernel) rfl rfl (Nat.le_of_ble_eq_true rfl) dX11_starts_22 (fun H locs (hP : va_P D vwCl (W_X11_starts cs a0 p0 i0_0 (0) x1 i0_3 (0) (0) ((-1)) i0_7 i0_8 i0_19 i0_20 i0_28 i0_33 i0_34 i0_35 i0_36 i0_37 i0_38 i0_39 i0_40 i0_41 i0_42 i0_43 v0_9) H) (hD : va_D _ (W_X11_starts cs a0 p0 i0_0 (0) x1 i0_3 (0) (0) ((-1)) i0_7 i0_8 i0_19 i0_20 i0_28 i0_33 i0_34 i0_35 i0_36 i0_37 i0_38 i0_39 i0_40 i0_41 i0_42 i0_43 v0_9)) hS => ?_)
  refine lv_aload_n hx hb dX11_starts_25 rfl (lv_at hl 0 rfl) ?_
  refine lv_iconst (v := 0) hx hb dX11_starts_26 (by decide) ?_
  refine va_put (D := D) (ci := 11) (v := .int 0) (ty := .int) (C := RX11) (T := TX11) (N := 44) hx hb hts in_X11_starts_X11 tyX11 tyX11_ok nmX11 hown hK hP hD hS 0 rfl rfl 7 (by decide) (hts (.fieldLink RX11 141 "PaneDaysModel" "clauses" "I") (List.mem_of_getElem? (i := 6) rfl)) (fun _ h9 => h9) rfl (by decide +kernel) rfl rfl (Nat.le_of_ble_eq_true rfl) dX11_starts_27 (fun H locs (hP : va_P D vwCl (W_X11_starts cs a0 p0 i0_0 (0) x1 i0_3 (0) (0) ((-1)) (0) i0_8 i0_19 i0_20 i0_28 i0_33 i0_34 i0_35 i0_36 i0_37 i0_38 i0_39 i0_40 i0_41 i0_42 i0_43 v0_9) H) (hD : va_D _ (W_X11_starts cs a0 p0 i0_0 (0) x1 i0_3 (0) (0) ((-1)) (0) i0_8 i0_19 i0_20 i0_28 i0_33 i0_34 i0_35 i0_36 i0_37 i0_38 i0_39 i0_40 i0_41 i0_42 i0_43 v0_9)) hS => ?_)
  refine lv_aload_n hx hb dX11_starts_30 rfl (lv_at hl 0 rfl) ?_
  refine lv_iconst (v := 0) hx hb dX11_starts_31 (by decide) ?_
  refine va_put (D := D) (ci := 11) (v := .int 0) (ty := .int) (C := RX11) (T := TX11) (N := 44) hx hb hts in_X11_starts_X11 tyX11 tyX11_ok nmX11 hown hK hP hD hS 0 rfl rfl 8 (by decide) (hts (.fieldLink RX11 144 "PaneDaysModel" "open" "I") (List.mem_of_getElem? (i := 7) rfl)) (fun _ h9 => h9) rfl (by decide +kernel) rfl rfl (Nat.le_of_ble_eq_true rfl) dX11_starts_32 (fun H locs (hP : va_P D vwCl (W_X11_starts cs a0 p0 i0_0 (0) x1 i0_3 (0) (0) ((-1)) (0) (0) i0_19 i0_20 i0_28 i0_33 i0_34 i0_35 i0_36 i0_37 i0_38 i0_39 i0_40 i0_41 i0_42 i0_43 v0_9) H) (hD : va_D _ (W_X11_starts cs a0 p0 i0_0 (0) x1 i0_3 (0) (0) ((-1)) (0) (0) i0_19 i0_20 i0_28 i0_33 i0_34 i0_35 i0_36 i0_37 i0_38 i0_39 i0_40 i0_41 i0_42 i0_43 v0_9)) hS => ?_)
  refine lv_aload_n hx hb dX11_starts_35 rfl (lv_at hl 0 rfl) ?_
  obtain ⟨q36, hq, hf⟩ := bd_some hf
  refine ow_gVV (As := []) (rest := []) (sg := (S_X11_starts cs a0 p0 i0_0 (0) x1 i0_3 (0) (0) ((-1)) (0) (0) i0_19 i0_20 i0_28 i0_33 i0_34 i0_35 i0_36 i0_37 i0_38 i0_39 i0_40 i0_41 i0_42 i0_43 v0_9)) (sc := (S_X11_blanks cs a0 p0 i0_0 (0) x1 i0_3 (0) (0) ((-1)) (0) (0) i0_19 i0_20 i0_28 i0_33 i0_34 i0_35 i0_36 i0_37 i0_38 i0_39 i0_40 i0_41 i0_42 i0_43 v0_9)) (sc' := (S_X11_blanks cs a0 p0 i0_0 (0) x1 i0_3 q36 (0) ((-1)) (0) (0) i0_19 i0_20 i0_28 i0_33 i0_34 i0_35 i0_36 i0_37 i0_38 i0_39 i0_40 i0_41 i0_42 i0_43 v0_9)) (sr := ow_pks (S_X11_starts cs a0 p0 i0_0 (0) x1 i0_3 (0) (0) ((-1)) (0) (0) i0_19 i0_20 i0_28 i0_33 i0_34 i0_35 i0_36 i0_37 i0_38 i0_39 i0_40 i0_41 i0_42 i0_43 v0_9) []) (sf := (S_X11_starts cs a0 p0 i0_0 (0) x1 i0_3 q36 (0) ((-1)) (0) (0) i0_19 i0_20 i0_28 i0_33 i0_34 i0_35 i0_36 i0_37 i0_38 i0_39 i0_40 i0_41 i0_42 i0_43 v0_9)) C0 (c_X11_blanks l D cs H.size a0 p0 i0_0 (0) x1 i0_3 (0) (0) ((-1)) (0) (0) i0_19 i0_20 i0_28 i0_33 i0_34 i0_35 i0_36 i0_37 i0_38 i0_39 i0_40 i0_41 i0_42 i0_43 v0_9  q36 hq) (cwV 0 hts gX11_starts_X11_blanks rfl rfl rfl (by decide +kernel) ⟨Nat.le_of_ble_eq_true rfl, Nat.le_of_ble_eq_true rfl⟩) 11 rfl rfl hP hD hS (sg_perm (isC := [0, 1]) (isR := []) rfl rfl rfl) (sg_permF (is := [0, 1]) rfl rfl) rfl hl.1 rfl (Nat.le_of_ble_eq_true rfl) ⟨Nat.zero_le _, Nat.zero_le _⟩ dX11_starts_36 (fun H locs hP hD hS => ?_)
  obtain rfl := Option.some.inj hf
  exact ow_retV C0 hP hD hS dX11_starts_39
abbrev rm_X11_isSmall : Room := { frames := 0, cells := 0, slots := 0, locals := 0 }
def f_X11_isSmall   (x0 : Int32) : Option (Int32) := if x0 < 97 then (some (0)) else (if 122 < x0 then (some (0)) else (some (1)))
set_option maxHeartbeats 4000000 in
set_option maxRecDepth 100000 in
theorem c_X11_isSmall (l : Launch) (D : va_G) (cs : Nat → ClassId)  (sz : Nat)  (x0 : Int32) (res : Int32) (hf : f_X11_isSmall   x0 = some res) : MI l D cs yX11_isSmall wsX11_isSmall rm_X11_isSmall [.int x0] sz ([] : va_W) ([] : va_W) res := by
  rw [f_X11_isSmall] at hf
  refine ow_enter (cc := cX11_isSmall) (nL := 1) (ret := (some .boolean)) (by decide) rfl (Nat.le_of_ble_eq_true rfl) (fun p e s m below meth c ls H locs C0 hP hD hS hA hl => ?_)
  obtain ⟨hx, hb, hr, hlk, hml, hown, hts, hK, hG, hE⟩ := id C0
  have hl : lv_has ls 1 [(0, .int x0)] := hl
  refine lv_iload_n hx hb dX11_isSmall_0 rfl (lv_at hl 0 rfl) ?_
  refine lv_bipush (v := 97) hx hb dX11_isSmall_1 (by decide) ?_
  refine lv_icmp_lt (tgt := 16) hx hb dX11_isSmall_3 (by decide) (fun hc => ?_) (fun hc => ?_)
  · replace hf := ow_t hc hf
    refine lv_iconst (v := 0) hx hb dX11_isSmall_16 (by decide) ?_
    obtain rfl := Option.some.inj hf
    exact ow_retZ C0 (Or.inl rfl) hP hD hS dX11_isSmall_17
  · replace hf := ow_f hc hf
    refine lv_iload_n hx hb dX11_isSmall_6 rfl (lv_at hl 0 rfl) ?_
    refine lv_bipush (v := 122) hx hb dX11_isSmall_7 (by decide) ?_
    refine lv_icmp_gt (tgt := 16) hx hb dX11_isSmall_9 (by decide) (fun hc => ?_) (fun hc => ?_)
    · replace hf := ow_t hc hf
      refine lv_iconst (v := 0) hx hb dX11_isSmall_16 (by decide) ?_
      obtain rfl := Option.some.inj hf
      exact ow_retZ C0 (Or.inl rfl) hP hD hS dX11_isSmall_17
    · replace hf := ow_f hc hf
      refine lv_iconst (v := 1) hx hb dX11_isSmall_12 (by decide) ?_
      refine lv_goto (tgt := 17) hx hb dX11_isSmall_13 (by decide) ?_
      obtain rfl := Option.some.inj hf
      exact ow_retZ C0 (Or.inr rfl) hP hD hS dX11_isSmall_17
theorem in_X11_wordHere_X11 : ∀ w ∈ u_ws RX11 TX11 44, w ∈ wsX11_wordHere := fun w h => List.mem_cons_of_mem _ (List.mem_append_right _ h)
abbrev W_X11_wordHere (cs : Nat → ClassId) (a0 : Nat) (p0 : Nat → Nat) (i0_0 : Int32) (i0_1 : Int32) (i0_2 : Int32) (i0_3 : Int32) (i0_4 : Int32) (i0_5 : Int32) (i0_6 : Int32) (i0_7 : Int32) (i0_8 : Int32) (i0_19 : Int32) (i0_20 : Int32) (i0_28 : Int32) (i0_33 : Int32) (i0_34 : Int32) (i0_35 : Int32) (i0_36 : Int32) (i0_37 : Int32) (i0_38 : Int32) (i0_39 : Int32) (i0_40 : Int32) (i0_41 : Int32) (i0_42 : Int32) (i0_43 : Int32) (v0_9 : Nat → Int32) : va_W := [(a0, .inr (11, [.int i0_0, .int i0_1, .int i0_2, .int i0_3, .int i0_4, .int i0_5, .int i0_6, .int i0_7, .int i0_8, .ref (p0 9), .ref (p0 10), .ref (p0 11), .ref (p0 12), .ref (p0 13), .ref (p0 14), .ref (p0 15), .ref (p0 16), .ref (p0 17), .ref (p0 18), .int i0_19, .int i0_20, .ref (p0 21), .ref (p0 22), .ref (p0 23), .ref (p0 24), .ref (p0 25), .ref (p0 26), .ref (p0 27), .int i0_28, .ref (p0 29), .ref (p0 30), .ref (p0 31), .ref (p0 32), .int i0_33, .int i0_34, .int i0_35, .int i0_36, .int i0_37, .int i0_38, .int i0_39, .int i0_40, .int i0_41, .int i0_42, .int i0_43])), (p0 9, .inl (cs 0, 600, .inl v0_9))]
abbrev S_X11_wordHere (cs : Nat → ClassId) (a0 : Nat) (p0 : Nat → Nat) (i0_0 : Int32) (i0_1 : Int32) (i0_2 : Int32) (i0_3 : Int32) (i0_4 : Int32) (i0_5 : Int32) (i0_6 : Int32) (i0_7 : Int32) (i0_8 : Int32) (i0_19 : Int32) (i0_20 : Int32) (i0_28 : Int32) (i0_33 : Int32) (i0_34 : Int32) (i0_35 : Int32) (i0_36 : Int32) (i0_37 : Int32) (i0_38 : Int32) (i0_39 : Int32) (i0_40 : Int32) (i0_41 : Int32) (i0_42 : Int32) (i0_43 : Int32) (v0_9 : Nat → Int32) : List va_W := [[(a0, .inr (11, [.int i0_0, .int i0_1, .int i0_2, .int i0_3, .int i0_4, .int i0_5, .int i0_6, .int i0_7, .int i0_8, .ref (p0 9), .ref (p0 10), .ref (p0 11), .ref (p0 12), .ref (p0 13), .ref (p0 14), .ref (p0 15), .ref (p0 16), .ref (p0 17), .ref (p0 18), .int i0_19, .int i0_20, .ref (p0 21), .ref (p0 22), .ref (p0 23), .ref (p0 24), .ref (p0 25), .ref (p0 26), .ref (p0 27), .int i0_28, .ref (p0 29), .ref (p0 30), .ref (p0 31), .ref (p0 32), .int i0_33, .int i0_34, .int i0_35, .int i0_36, .int i0_37, .int i0_38, .int i0_39, .int i0_40, .int i0_41, .int i0_42, .int i0_43]))], [(p0 9, .inl (cs 0, 600, .inl v0_9))]]
abbrev rm_X11_wordHere : Room := { frames := 2, cells := 0, slots := 0, locals := 41 }
def f_X11_wordHere_b54  (i0_2 : Int32) (v0_9 : Nat → Int32) (k8 : (Int32) → Int32 → Int32 → Option (Int32 × Int32)) (i0_4 : Int32) (x2 : Int32) (t0 : Int32) : Option (Int32 × Int32) := k8 i0_4 t0 (x2 + 1)
set_option maxHeartbeats 4000000 in
set_option maxRecDepth 100000 in
theorem w_X11_wordHere_b54 {p : Program} {l : Launch} {e : Env} {s : State} {m : MethodId} {below : List Frame} {meth : Method} {c : Code} {D : va_G} {cs : Nat → ClassId} {av : Array Value} {w0 : va_W} (C0 : Cx p s m meth c av wsX11_wordHere cX11_wordHere 3 (some .int) RX11 D cs w0)  (a0 : Nat) (p0 : Nat → Nat) (i0_0 : Int32) (i0_1 : Int32) (i0_2 : Int32) (i0_3 : Int32) (i0_5 : Int32) (i0_6 : Int32) (i0_7 : Int32) (i0_8 : Int32) (i0_19 : Int32) (i0_20 : Int32) (i0_28 : Int32) (i0_33 : Int32) (i0_34 : Int32) (i0_35 : Int32) (i0_36 : Int32) (i0_37 : Int32) (i0_38 : Int32) (i0_39 : Int32) (i0_40 : Int32) (i0_41 : Int32) (i0_42 : Int32) (i0_43 : Int32) (v0_9 : Nat → Int32) (res : Int32 × Int32) (k8 : (Int32) → Int32 → Int32 → Option (Int32 × Int32)) (hk8 : ∀ (i0_4 : Int32) (x1 : Int32) (x2 : Int32), k8 i0_4 x1 x2 = some res → ∀ (H : Heap) (locs : List Loc) (ls : Array Slot), va_P D vwCl (W_X11_wordHere cs a0 p0 i0_0 i0_1 i0_2 i0_3 i0_4 i0_5 i0_6 i0_7 i0_8 i0_19 i0_20 i0_28 i0_33 i0_34 i0_35 i0_36 i0_37 i0_38 i0_39 i0_40 i0_41 i0_42 i0_43 v0_9) H → va_D (va_A w0 s.heap.size) (W_X11_wordHere cs a0 p0 i0_0 i0_1 i0_2 i0_3 i0_4 i0_5 i0_6 i0_7 i0_8 i0_19 i0_20 i0_28 i0_33 i0_34 i0_35 i0_36 i0_37 i0_38 i0_39 i0_40 i0_41 i0_42 i0_43 v0_9) → va_S (va_A w0 s.heap.size) s.heap H locs → lv_has ls 3 [(0, .ref a0), (1, .int x1), (2, .int x2)] → W p l e rm_X11_wordHere s m av below meth c H locs 0 0 (MQ below (oI D cs w0 (W_X11_wordHere cs a0 p0 i0_0 i0_1 i0_2 i0_3 res.2 i0_5 i0_6 i0_7 i0_8 i0_19 i0_20 i0_28 i0_33 i0_34 i0_35 i0_36 i0_37 i0_38 i0_39 i0_40 i0_41 i0_42 i0_43 v0_9) res.1 s.heap.size) av s 0 0 (va_A w0 s.heap.size)) (F0 m 8 ls [])) : ∀ (i0_4 : Int32) (x2 : Int32) (t0 : Int32), f_X11_wordHere_b54 i0_2 v0_9 k8 i0_4 x2 t0 = some res → ∀ (H : Heap) (locs : List Loc) (ls : Array Slot), va_P D vwCl (W_X11_wordHere cs a0 p0 i0_0 i0_1 i0_2 i0_3 i0_4 i0_5 i0_6 i0_7 i0_8 i0_19 i0_20 i0_28 i0_33 i0_34 i0_35 i0_36 i0_37 i0_38 i0_39 i0_40 i0_41 i0_42 i0_43 v0_9) H → va_D (va_A w0 s.heap.size) (W_X11_wordHere cs a0 p0 i0_0 i0_1 i0_2 i0_3 i0_4 i0_5 i0_6 i0_7 i0_8 i0_19 i0_20 i0_28 i0_33 i0_34 i0_35 i0_36 i0_37 i0_38 i0_39 i0_40 i0_41 i0_42 i0_43 v0_9) → va_S (va_A w0 s.heap.size) s.heap H locs → lv_has ls 3 [(0, .ref a0), (2, .int x2)] → W p l e rm_X11_wordHere s m av below meth c H locs 0 0 (MQ below (oI D cs w0 (W_X11_wordHere cs a0 p0 i0_0 i0_1 i0_2 i0_3 res.2 i0_5 i0_6 i0_7 i0_8 i0_19 i0_20 i0_28 i0_33 i0_34 i0_35 i0_36 i0_37 i0_38 i0_39 i0_40 i0_41 i0_42 i0_43 v0_9) res.1 s.heap.size) av s 0 0 (va_A w0 s.heap.size)) (F0 m 54 ls [.int t0]) := by
  obtain ⟨hx, hb, hr, hlk, hml, hown, hts, hK, hG, hE⟩ := id C0
  intro i0_4 x2 t0 hf H locs ls hP hD hS hl
  rw [f_X11_wordHere_b54] at hf
  refine lv_istore_n (lv' := [(1, .int t0), (0, .ref a0), (2, .int x2)]) hx hb dX11_wordHere_54 rfl hl (by decide) rfl (fun ls hl => ?_)
  refine lv_iinc (v := x2 + 1) (lv' := [(2, .int (x2 + 1)), (1, .int t0), (0, .ref a0)]) hx hb dX11_wordHere_55 hl (k := 2) rfl (ow_inc (by decide)) (by decide) rfl (fun ls hl => ?_)
  refine lv_goto (tgt := 8) hx hb dX11_wordHere_58 (by decide) ?_
  exact hk8 i0_4 t0 (x2 + 1)  hf _ _ _ hP hD hS (lv_sub hl [2, 1, 0] rfl)
def f_X11_wordHere_b8  (i0_2 : Int32) (v0_9 : Nat → Int32)  : Nat → (Int32) → Int32 → Int32 → Option (Int32 × Int32)
  | 0, _, _, _ => none
  | n + 1, i0_4, x1, x2 => (f_X11_byteAt i0_2 v0_9 (i0_4 + x2)).bind fun q15 => (f_X11_isSmall q15).bind fun q18 => if q18 = 0 then (if x2 ≤ 6 then (some (x1, i0_4)) else (some ((-1), i0_4))) else (if 6 ≤ x2 then (f_X11_wordHere_b54 i0_2 v0_9 (f_X11_wordHere_b8 i0_2 v0_9 n) i0_4 x2 x1) else ((f_X11_byteAt i0_2 v0_9 (i0_4 + x2)).bind fun q41 => f_X11_wordHere_b54 i0_2 v0_9 (f_X11_wordHere_b8 i0_2 v0_9 n) i0_4 x2 ((((27 * x1) + q41) - 97) + 1)))
set_option maxHeartbeats 4000000 in
set_option maxRecDepth 100000 in
theorem w_X11_wordHere_b8 {p : Program} {l : Launch} {e : Env} {s : State} {m : MethodId} {below : List Frame} {meth : Method} {c : Code} {D : va_G} {cs : Nat → ClassId} {av : Array Value} {w0 : va_W} (C0 : Cx p s m meth c av wsX11_wordHere cX11_wordHere 3 (some .int) RX11 D cs w0)  (a0 : Nat) (p0 : Nat → Nat) (i0_0 : Int32) (i0_1 : Int32) (i0_2 : Int32) (i0_3 : Int32) (i0_5 : Int32) (i0_6 : Int32) (i0_7 : Int32) (i0_8 : Int32) (i0_19 : Int32) (i0_20 : Int32) (i0_28 : Int32) (i0_33 : Int32) (i0_34 : Int32) (i0_35 : Int32) (i0_36 : Int32) (i0_37 : Int32) (i0_38 : Int32) (i0_39 : Int32) (i0_40 : Int32) (i0_41 : Int32) (i0_42 : Int32) (i0_43 : Int32) (v0_9 : Nat → Int32) (res : Int32 × Int32)  : ∀ (n : Nat) (i0_4 : Int32) (x1 : Int32) (x2 : Int32), f_X11_wordHere_b8 i0_2 v0_9 n i0_4 x1 x2 = some res → ∀ (H : Heap) (locs : List Loc) (ls : Array Slot), va_P D vwCl (W_X11_wordHere cs a0 p0 i0_0 i0_1 i0_2 i0_3 i0_4 i0_5 i0_6 i0_7 i0_8 i0_19 i0_20 i0_28 i0_33 i0_34 i0_35 i0_36 i0_37 i0_38 i0_39 i0_40 i0_41 i0_42 i0_43 v0_9) H → va_D (va_A w0 s.heap.size) (W_X11_wordHere cs a0 p0 i0_0 i0_1 i0_2 i0_3 i0_4 i0_5 i0_6 i0_7 i0_8 i0_19 i0_20 i0_28 i0_33 i0_34 i0_35 i0_36 i0_37 i0_38 i0_39 i0_40 i0_41 i0_42 i0_43 v0_9) → va_S (va_A w0 s.heap.size) s.heap H locs → lv_has ls 3 [(0, .ref a0), (1, .int x1), (2, .int x2)] → W p l e rm_X11_wordHere s m av below meth c H locs 0 0 (MQ below (oI D cs w0 (W_X11_wordHere cs a0 p0 i0_0 i0_1 i0_2 i0_3 res.2 i0_5 i0_6 i0_7 i0_8 i0_19 i0_20 i0_28 i0_33 i0_34 i0_35 i0_36 i0_37 i0_38 i0_39 i0_40 i0_41 i0_42 i0_43 v0_9) res.1 s.heap.size) av s 0 0 (va_A w0 s.heap.size)) (F0 m 8 ls []) := by
  obtain ⟨hx, hb, hr, hlk, hml, hown, hts, hK, hG, hE⟩ := id C0
  intro n
  induction n with
  | zero =>
    intro i0_4 x1 x2 hf
    rw [f_X11_wordHere_b8] at hf
    cases hf
  | succ n ih =>
    intro i0_4 x1 x2 hf H locs ls hP hD hS hl
    rw [f_X11_wordHere_b8] at hf
    refine lv_aload_n hx hb dX11_wordHere_8 rfl (lv_at hl 0 rfl) ?_
    refine lv_aload_n hx hb dX11_wordHere_9 rfl (lv_at hl 0 rfl) ?_
    refine va_get (D := D) (ci := 11) (v := .int i0_4) (C := RX11) (T := TX11) (N := 44) hx hb hts in_X11_wordHere_X11 hown hK hP 0 rfl rfl 4 (by decide) (hts (.fieldLink RX11 94 "PaneDaysModel" "at" "I") (List.mem_of_getElem? (i := 1) rfl)) (fun _ h9 => h9) rfl dX11_wordHere_10 ?_
    refine lv_iload_n hx hb dX11_wordHere_13 rfl (lv_at hl 2 rfl) ?_
    refine lv_iadd hx hb dX11_wordHere_14 ?_
    obtain ⟨q15, hq, hf⟩ := bd_some hf
    refine ow_gVI (As := [.int (i0_4 + x2)]) (rest := []) (sg := (S_X11_wordHere cs a0 p0 i0_0 i0_1 i0_2 i0_3 i0_4 i0_5 i0_6 i0_7 i0_8 i0_19 i0_20 i0_28 i0_33 i0_34 i0_35 i0_36 i0_37 i0_38 i0_39 i0_40 i0_41 i0_42 i0_43 v0_9)) (sc := (S_X11_byteAt cs a0 p0 i0_0 i0_1 i0_2 i0_3 i0_4 i0_5 i0_6 i0_7 i0_8 i0_19 i0_20 i0_28 i0_33 i0_34 i0_35 i0_36 i0_37 i0_38 i0_39 i0_40 i0_41 i0_42 i0_43 v0_9)) (sc' := (S_X11_byteAt cs a0 p0 i0_0 i0_1 i0_2 i0_3 i0_4 i0_5 i0_6 i0_7 i0_8 i0_19 i0_20 i0_28 i0_33 i0_34 i0_35 i0_36 i0_37 i0_38 i0_39 i0_40 i0_41 i0_42 i0_43 v0_9)) (sr := ow_pks (S_X11_wordHere cs a0 p0 i0_0 i0_1 i0_2 i0_3 i0_4 i0_5 i0_6 i0_7 i0_8 i0_19 i0_20 i0_28 i0_33 i0_34 i0_35 i0_36 i0_37 i0_38 i0_39 i0_40 i0_41 i0_42 i0_43 v0_9) []) (sf := (S_X11_wordHere cs a0 p0 i0_0 i0_1 i0_2 i0_3 i0_4 i0_5 i0_6 i0_7 i0_8 i0_19 i0_20 i0_28 i0_33 i0_34 i0_35 i0_36 i0_37 i0_38 i0_39 i0_40 i0_41 i0_42 i0_43 v0_9)) (r := q15) C0 (c_X11_byteAt l D cs H.size a0 p0 i0_0 i0_1 i0_2 i0_3 i0_4 i0_5 i0_6 i0_7 i0_8 i0_19 i0_20 i0_28 i0_33 i0_34 i0_35 i0_36 i0_37 i0_38 i0_39 i0_40 i0_41 i0_42 i0_43 v0_9 (i0_4 + x2) q15 hq) (cwV 1 hts gX11_wordHere_X11_byteAt rfl rfl rfl (by decide +kernel) ⟨Nat.le_of_ble_eq_true rfl, Nat.le_of_ble_eq_true rfl⟩) 11 rfl rfl hP hD hS (sg_perm (isC := [0, 1]) (isR := []) rfl rfl rfl) (sg_permF (is := [0, 1]) rfl rfl) rfl hl.1 rfl (Nat.le_of_ble_eq_true rfl) ⟨Nat.zero_le _, Nat.zero_le _⟩ dX11_wordHere_15 (fun H locs hP hD hS => ?_)
    obtain ⟨q18, hq, hf⟩ := bd_some hf
    refine ow_gSI (As := [.int q15]) (rest := []) (sg := (S_X11_wordHere cs a0 p0 i0_0 i0_1 i0_2 i0_3 i0_4 i0_5 i0_6 i0_7 i0_8 i0_19 i0_20 i0_28 i0_33 i0_34 i0_35 i0_36 i0_37 i0_38 i0_39 i0_40 i0_41 i0_42 i0_43 v0_9)) (sc := ([] : List va_W)) (sc' := ([] : List va_W)) (sr := ow_pks (S_X11_wordHere cs a0 p0 i0_0 i0_1 i0_2 i0_3 i0_4 i0_5 i0_6 i0_7 i0_8 i0_19 i0_20 i0_28 i0_33 i0_34 i0_35 i0_36 i0_37 i0_38 i0_39 i0_40 i0_41 i0_42 i0_43 v0_9) [0, 1]) (sf := (S_X11_wordHere cs a0 p0 i0_0 i0_1 i0_2 i0_3 i0_4 i0_5 i0_6 i0_7 i0_8 i0_19 i0_20 i0_28 i0_33 i0_34 i0_35 i0_36 i0_37 i0_38 i0_39 i0_40 i0_41 i0_42 i0_43 v0_9)) (r := q18) C0 (c_X11_isSmall l D cs H.size  q15 q18 hq) (va_cwS 1 hts gX11_wordHere_X11_isSmall rfl rfl rfl (by decide +kernel) ⟨Nat.le_of_ble_eq_true rfl, Nat.le_of_ble_eq_true rfl⟩) hP hD hS (sg_perm (isC := []) (isR := [0, 1]) rfl rfl rfl) (sg_permF (is := [0, 1]) rfl rfl) rfl hl.1 rfl (Nat.le_of_ble_eq_true rfl) ⟨Nat.zero_le _, Nat.zero_le _⟩ dX11_wordHere_18 (fun H locs hP hD hS => ?_)
    refine lv_if_eq (tgt := 61) hx hb dX11_wordHere_21 (by decide) (fun hc => ?_) (fun hc => ?_)
    · replace hf := ow_t hc hf
      refine lv_iload_n hx hb dX11_wordHere_61 rfl (lv_at hl 2 rfl) ?_
      refine lv_bipush (v := 6) hx hb dX11_wordHere_62 (by decide) ?_
      refine lv_icmp_le (tgt := 71) hx hb dX11_wordHere_64 (by decide) (fun hc => ?_) (fun hc => ?_)
      · replace hf := ow_t hc hf
        refine lv_iload_n hx hb dX11_wordHere_71 rfl (lv_at hl 1 rfl) ?_
        obtain rfl := Option.some.inj hf
        exact ow_retI C0 hP hD hS dX11_wordHere_72
      · replace hf := ow_f hc hf
        refine lv_iconst (v := (-1)) hx hb dX11_wordHere_67 (by decide) ?_
        refine lv_goto (tgt := 72) hx hb dX11_wordHere_68 (by decide) ?_
        obtain rfl := Option.some.inj hf
        exact ow_retI C0 hP hD hS dX11_wordHere_72
    · replace hf := ow_f hc hf
      refine lv_iload_n hx hb dX11_wordHere_24 rfl (lv_at hl 2 rfl) ?_
      refine lv_bipush (v := 6) hx hb dX11_wordHere_25 (by decide) ?_
      refine lv_icmp_ge (tgt := 53) hx hb dX11_wordHere_27 (by decide) (fun hc => ?_) (fun hc => ?_)
      · replace hf := ow_t hc hf
        refine lv_iload_n hx hb dX11_wordHere_53 rfl (lv_at hl 1 rfl) ?_
        exact w_X11_wordHere_b54 C0 a0 p0 i0_0 i0_1 i0_2 i0_3 i0_5 i0_6 i0_7 i0_8 i0_19 i0_20 i0_28 i0_33 i0_34 i0_35 i0_36 i0_37 i0_38 i0_39 i0_40 i0_41 i0_42 i0_43 v0_9 res (f_X11_wordHere_b8 i0_2 v0_9 n) ih i0_4 x2 x1  hf _ _ _ hP hD hS (lv_sub hl [0, 2] rfl)
      · replace hf := ow_f hc hf
        refine lv_bipush (v := 27) hx hb dX11_wordHere_30 (by decide) ?_
        refine lv_iload_n hx hb dX11_wordHere_32 rfl (lv_at hl 1 rfl) ?_
        refine lv_imul hx hb dX11_wordHere_33 ?_
        refine lv_aload_n hx hb dX11_wordHere_34 rfl (lv_at hl 0 rfl) ?_
        refine lv_aload_n hx hb dX11_wordHere_35 rfl (lv_at hl 0 rfl) ?_
        refine va_get (D := D) (ci := 11) (v := .int i0_4) (C := RX11) (T := TX11) (N := 44) hx hb hts in_X11_wordHere_X11 hown hK hP 0 rfl rfl 4 (by decide) (hts (.fieldLink RX11 94 "PaneDaysModel" "at" "I") (List.mem_of_getElem? (i := 1) rfl)) (fun _ h9 => h9) rfl dX11_wordHere_36 ?_
        refine lv_iload_n hx hb dX11_wordHere_39 rfl (lv_at hl 2 rfl) ?_
        refine lv_iadd hx hb dX11_wordHere_40 ?_
        obtain ⟨q41, hq, hf⟩ := bd_some hf
        refine ow_gVI (As := [.int (i0_4 + x2)]) (rest := [.int (27 * x1)]) (sg := (S_X11_wordHere cs a0 p0 i0_0 i0_1 i0_2 i0_3 i0_4 i0_5 i0_6 i0_7 i0_8 i0_19 i0_20 i0_28 i0_33 i0_34 i0_35 i0_36 i0_37 i0_38 i0_39 i0_40 i0_41 i0_42 i0_43 v0_9)) (sc := (S_X11_byteAt cs a0 p0 i0_0 i0_1 i0_2 i0_3 i0_4 i0_5 i0_6 i0_7 i0_8 i0_19 i0_20 i0_28 i0_33 i0_34 i0_35 i0_36 i0_37 i0_38 i0_39 i0_40 i0_41 i0_42 i0_43 v0_9)) (sc' := (S_X11_byteAt cs a0 p0 i0_0 i0_1 i0_2 i0_3 i0_4 i0_5 i0_6 i0_7 i0_8 i0_19 i0_20 i0_28 i0_33 i0_34 i0_35 i0_36 i0_37 i0_38 i0_39 i0_40 i0_41 i0_42 i0_43 v0_9)) (sr := ow_pks (S_X11_wordHere cs a0 p0 i0_0 i0_1 i0_2 i0_3 i0_4 i0_5 i0_6 i0_7 i0_8 i0_19 i0_20 i0_28 i0_33 i0_34 i0_35 i0_36 i0_37 i0_38 i0_39 i0_40 i0_41 i0_42 i0_43 v0_9) []) (sf := (S_X11_wordHere cs a0 p0 i0_0 i0_1 i0_2 i0_3 i0_4 i0_5 i0_6 i0_7 i0_8 i0_19 i0_20 i0_28 i0_33 i0_34 i0_35 i0_36 i0_37 i0_38 i0_39 i0_40 i0_41 i0_42 i0_43 v0_9)) (r := q41) C0 (c_X11_byteAt l D cs H.size a0 p0 i0_0 i0_1 i0_2 i0_3 i0_4 i0_5 i0_6 i0_7 i0_8 i0_19 i0_20 i0_28 i0_33 i0_34 i0_35 i0_36 i0_37 i0_38 i0_39 i0_40 i0_41 i0_42 i0_43 v0_9 (i0_4 + x2) q41 hq) (cwV 1 hts gX11_wordHere_X11_byteAt rfl rfl rfl (by decide +kernel) ⟨Nat.le_of_ble_eq_true rfl, Nat.le_of_ble_eq_true rfl⟩) 11 rfl rfl hP hD hS (sg_perm (isC := [0, 1]) (isR := []) rfl rfl rfl) (sg_permF (is := [0, 1]) rfl rfl) rfl hl.1 rfl (Nat.le_of_ble_eq_true rfl) ⟨Nat.zero_le _, Nat.zero_le _⟩ dX11_wordHere_41 (fun H locs hP hD hS => ?_)
        refine lv_iadd hx hb dX11_wordHere_44 ?_
        refine lv_bipush (v := 97) hx hb dX11_wordHere_45 (by decide) ?_
        refine lv_isub hx hb dX11_wordHere_47 ?_
        refine lv_iconst (v := 1) hx hb dX11_wordHere_48 (by decide) ?_
        refine lv_iadd hx hb dX11_wordHere_49 ?_
        refine lv_goto (tgt := 54) hx hb dX11_wordHere_50 (by decide) ?_
        exact w_X11_wordHere_b54 C0 a0 p0 i0_0 i0_1 i0_2 i0_3 i0_5 i0_6 i0_7 i0_8 i0_19 i0_20 i0_28 i0_33 i0_34 i0_35 i0_36 i0_37 i0_38 i0_39 i0_40 i0_41 i0_42 i0_43 v0_9 res (f_X11_wordHere_b8 i0_2 v0_9 n) ih i0_4 x2 ((((27 * x1) + q41) - 97) + 1)  hf _ _ _ hP hD hS (lv_sub hl [0, 2] rfl)
def f_X11_wordHere  (i0_2 : Int32) (i0_4 : Int32) (v0_9 : Nat → Int32)  : Option (Int32 × Int32) := (f_X11_blanks i0_2 i0_4 v0_9).bind fun q1 => f_X11_wordHere_b8 i0_2 v0_9 4000 q1 (0) (0)
set_option maxHeartbeats 4000000 in
set_option maxRecDepth 100000 in
theorem c_X11_wordHere (l : Launch) (D : va_G) (cs : Nat → ClassId)  (sz : Nat) (a0 : Nat) (p0 : Nat → Nat) (i0_0 : Int32) (i0_1 : Int32) (i0_2 : Int32) (i0_3 : Int32) (i0_4 : Int32) (i0_5 : Int32) (i0_6 : Int32) (i0_7 : Int32) (i0_8 : Int32) (i0_19 : Int32) (i0_20 : Int32) (i0_28 : Int32) (i0_33 : Int32) (i0_34 : Int32) (i0_35 : Int32) (i0_36 : Int32) (i0_37 : Int32) (i0_38 : Int32) (i0_39 : Int32) (i0_40 : Int32) (i0_41 : Int32) (i0_42 : Int32) (i0_43 : Int32) (v0_9 : Nat → Int32)  (res : Int32 × Int32) (hf : f_X11_wordHere  i0_2 i0_4 v0_9  = some res) : MI l D cs yX11_wordHere wsX11_wordHere rm_X11_wordHere [.ref a0] sz (W_X11_wordHere cs a0 p0 i0_0 i0_1 i0_2 i0_3 i0_4 i0_5 i0_6 i0_7 i0_8 i0_19 i0_20 i0_28 i0_33 i0_34 i0_35 i0_36 i0_37 i0_38 i0_39 i0_40 i0_41 i0_42 i0_43 v0_9) (W_X11_wordHere cs a0 p0 i0_0 i0_1 i0_2 i0_3 res.2 i0_5 i0_6 i0_7 i0_8 i0_19 i0_20 i0_28 i0_33 i0_34 i0_35 i0_36 i0_37 i0_38 i0_39 i0_40 i0_41 i0_42 i0_43 v0_9) res.1 := by
  rw [f_X11_wordHere] at hf
  refine ow_enter (cc := cX11_wordHere) (nL := 3) (ret := (some .int)) (by decide) rfl (Nat.le_of_ble_eq_true rfl) (fun p e s m below meth c ls H locs C0 hP hD hS hA hl => ?_)
  obtain ⟨hx, hb, hr, hlk, hml, hown, hts, hK, hG, hE⟩ := id C0
  have hl : lv_has ls 3 [(0, .ref a0)] := hl
  refine lv_aload_n hx hb dX11_wordHere_0 rfl (lv_at hl 0 rfl) ?_
  obtain ⟨q1, hq, hf⟩ := bd_some hf
  refine ow_gVV (As := []) (rest := []) (sg := (S_X11_wordHere cs a0 p0 i0_0 i0_1 i0_2 i0_3 i0_4 i0_5 i0_6 i0_7 i0_8 i0_19 i0_20 i0_28 i0_33 i0_34 i0_35 i0_36 i0_37 i0_38 i0_39 i0_40 i0_41 i0_42 i0_43 v0_9)) (sc := (S_X11_blanks cs a0 p0 i0_0 i0_1 i0_2 i0_3 i0_4 i0_5 i0_6 i0_7 i0_8 i0_19 i0_20 i0_28 i0_33 i0_34 i0_35 i0_36 i0_37 i0_38 i0_39 i0_40 i0_41 i0_42 i0_43 v0_9)) (sc' := (S_X11_blanks cs a0 p0 i0_0 i0_1 i0_2 i0_3 q1 i0_5 i0_6 i0_7 i0_8 i0_19 i0_20 i0_28 i0_33 i0_34 i0_35 i0_36 i0_37 i0_38 i0_39 i0_40 i0_41 i0_42 i0_43 v0_9)) (sr := ow_pks (S_X11_wordHere cs a0 p0 i0_0 i0_1 i0_2 i0_3 i0_4 i0_5 i0_6 i0_7 i0_8 i0_19 i0_20 i0_28 i0_33 i0_34 i0_35 i0_36 i0_37 i0_38 i0_39 i0_40 i0_41 i0_42 i0_43 v0_9) []) (sf := (S_X11_wordHere cs a0 p0 i0_0 i0_1 i0_2 i0_3 q1 i0_5 i0_6 i0_7 i0_8 i0_19 i0_20 i0_28 i0_33 i0_34 i0_35 i0_36 i0_37 i0_38 i0_39 i0_40 i0_41 i0_42 i0_43 v0_9)) C0 (c_X11_blanks l D cs H.size a0 p0 i0_0 i0_1 i0_2 i0_3 i0_4 i0_5 i0_6 i0_7 i0_8 i0_19 i0_20 i0_28 i0_33 i0_34 i0_35 i0_36 i0_37 i0_38 i0_39 i0_40 i0_41 i0_42 i0_43 v0_9  q1 hq) (cwV 0 hts gX11_wordHere_X11_blanks rfl rfl rfl (by decide +kernel) ⟨Nat.le_of_ble_eq_true rfl, Nat.le_of_ble_eq_true rfl⟩) 11 rfl rfl hP hD hS (sg_perm (isC := [0, 1]) (isR := []) rfl rfl rfl) (sg_permF (is := [0, 1]) rfl rfl) rfl hl.1 rfl (Nat.le_of_ble_eq_true rfl) ⟨Nat.zero_le _, Nat.zero_le _⟩ dX11_wordHere_1 (fun H locs hP hD hS => ?_)
  refine lv_iconst (v := 0) hx hb dX11_wordHere_4 (by decide) ?_
  refine lv_istore_n (lv' := [(1, .int 0), (0, .ref a0)]) hx hb dX11_wordHere_5 rfl hl (by decide) rfl (fun ls hl => ?_)
  refine lv_iconst (v := 0) hx hb dX11_wordHere_6 (by decide) ?_
  refine lv_istore_n (lv' := [(2, .int 0), (1, .int 0), (0, .ref a0)]) hx hb dX11_wordHere_7 rfl hl (by decide) rfl (fun ls hl => ?_)
  exact w_X11_wordHere_b8 C0 a0 p0 i0_0 i0_1 i0_2 i0_3 i0_5 i0_6 i0_7 i0_8 i0_19 i0_20 i0_28 i0_33 i0_34 i0_35 i0_36 i0_37 i0_38 i0_39 i0_40 i0_41 i0_42 i0_43 v0_9 res 4000 q1 (0) (0)  hf _ _ _ hP hD hS (lv_sub hl [2, 1, 0] rfl)
abbrev rm_X11_six : Room := { frames := 0, cells := 0, slots := 0, locals := 0 }
def f_X11_six_b75     (x5 : Int32) (t0 : Int32) : Option (Int32) := if x5 = 0 then (some (t0)) else (some ((27 * t0) + x5))
set_option maxHeartbeats 4000000 in
set_option maxRecDepth 100000 in
theorem w_X11_six_b75 {p : Program} {l : Launch} {e : Env} {s : State} {m : MethodId} {below : List Frame} {meth : Method} {c : Code} {D : va_G} {cs : Nat → ClassId} {av : Array Value} {w0 : va_W} (C0 : Cx p s m meth c av wsX11_six cX11_six 7 (some .int) RX11 D cs w0)   (res : Int32)  : ∀ (x5 : Int32) (t0 : Int32), f_X11_six_b75 x5 t0 = some res → ∀ (H : Heap) (locs : List Loc) (ls : Array Slot), va_P D vwCl ([] : va_W) H → va_D (va_A w0 s.heap.size) ([] : va_W) → va_S (va_A w0 s.heap.size) s.heap H locs → lv_has ls 7 [(5, .int x5)] → W p l e rm_X11_six s m av below meth c H locs 0 0 (MQ below (oI D cs w0 ([] : va_W) res s.heap.size) av s 0 0 (va_A w0 s.heap.size)) (F0 m 75 ls [.int t0]) := by
  obtain ⟨hx, hb, hr, hlk, hml, hown, hts, hK, hG, hE⟩ := id C0
  intro x5 t0 hf H locs ls hP hD hS hl
  rw [f_X11_six_b75] at hf
  refine lv_istore (lv' := [(6, .int t0), (5, .int x5)]) hx hb dX11_six_75 hl (by decide) rfl (fun ls hl => ?_)
  refine lv_iload hx hb dX11_six_77 (lv_at hl 1 rfl) ?_
  refine lv_if_ne (tgt := 87) hx hb dX11_six_79 (by decide) (fun hc => ?_) (fun hc => ?_)
  · replace hf := ow_f hc hf
    refine lv_bipush (v := 27) hx hb dX11_six_87 (by decide) ?_
    refine lv_iload hx hb dX11_six_89 (lv_at hl 0 rfl) ?_
    refine lv_imul hx hb dX11_six_91 ?_
    refine lv_iload hx hb dX11_six_92 (lv_at hl 1 rfl) ?_
    refine lv_iadd hx hb dX11_six_94 ?_
    obtain rfl := Option.some.inj hf
    exact ow_retI C0 hP hD hS dX11_six_95
  · replace hf := ow_t hc hf
    refine lv_iload hx hb dX11_six_82 (lv_at hl 0 rfl) ?_
    refine lv_goto (tgt := 95) hx hb dX11_six_84 (by decide) ?_
    obtain rfl := Option.some.inj hf
    exact ow_retI C0 hP hD hS dX11_six_95
def f_X11_six_b55     (x4 : Int32) (x5 : Int32) (t0 : Int32) : Option (Int32) := if x4 = 0 then (f_X11_six_b75 x5 t0) else (f_X11_six_b75 x5 ((27 * t0) + x4))
set_option maxHeartbeats 4000000 in
set_option maxRecDepth 100000 in
theorem w_X11_six_b55 {p : Program} {l : Launch} {e : Env} {s : State} {m : MethodId} {below : List Frame} {meth : Method} {c : Code} {D : va_G} {cs : Nat → ClassId} {av : Array Value} {w0 : va_W} (C0 : Cx p s m meth c av wsX11_six cX11_six 7 (some .int) RX11 D cs w0)   (res : Int32)  : ∀ (x4 : Int32) (x5 : Int32) (t0 : Int32), f_X11_six_b55 x4 x5 t0 = some res → ∀ (H : Heap) (locs : List Loc) (ls : Array Slot), va_P D vwCl ([] : va_W) H → va_D (va_A w0 s.heap.size) ([] : va_W) → va_S (va_A w0 s.heap.size) s.heap H locs → lv_has ls 7 [(4, .int x4), (5, .int x5)] → W p l e rm_X11_six s m av below meth c H locs 0 0 (MQ below (oI D cs w0 ([] : va_W) res s.heap.size) av s 0 0 (va_A w0 s.heap.size)) (F0 m 55 ls [.int t0]) := by
  obtain ⟨hx, hb, hr, hlk, hml, hown, hts, hK, hG, hE⟩ := id C0
  intro x4 x5 t0 hf H locs ls hP hD hS hl
  rw [f_X11_six_b55] at hf
  refine lv_istore (lv' := [(6, .int t0), (4, .int x4), (5, .int x5)]) hx hb dX11_six_55 hl (by decide) rfl (fun ls hl => ?_)
  refine lv_iload hx hb dX11_six_57 (lv_at hl 1 rfl) ?_
  refine lv_if_ne (tgt := 67) hx hb dX11_six_59 (by decide) (fun hc => ?_) (fun hc => ?_)
  · replace hf := ow_f hc hf
    refine lv_bipush (v := 27) hx hb dX11_six_67 (by decide) ?_
    refine lv_iload hx hb dX11_six_69 (lv_at hl 0 rfl) ?_
    refine lv_imul hx hb dX11_six_71 ?_
    refine lv_iload hx hb dX11_six_72 (lv_at hl 1 rfl) ?_
    refine lv_iadd hx hb dX11_six_74 ?_
    exact w_X11_six_b75 C0 res x5 ((27 * t0) + x4)  hf _ _ _ hP hD hS (lv_sub hl [2] rfl)
  · replace hf := ow_t hc hf
    refine lv_iload hx hb dX11_six_62 (lv_at hl 0 rfl) ?_
    refine lv_goto (tgt := 75) hx hb dX11_six_64 (by decide) ?_
    exact w_X11_six_b75 C0 res x5 t0  hf _ _ _ hP hD hS (lv_sub hl [2] rfl)
def f_X11_six_b37     (x3 : Int32) (x4 : Int32) (x5 : Int32) (t0 : Int32) : Option (Int32) := if x3 = 0 then (f_X11_six_b55 x4 x5 t0) else (f_X11_six_b55 x4 x5 ((27 * t0) + x3))
set_option maxHeartbeats 4000000 in
set_option maxRecDepth 100000 in
theorem w_X11_six_b37 {p : Program} {l : Launch} {e : Env} {s : State} {m : MethodId} {below : List Frame} {meth : Method} {c : Code} {D : va_G} {cs : Nat → ClassId} {av : Array Value} {w0 : va_W} (C0 : Cx p s m meth c av wsX11_six cX11_six 7 (some .int) RX11 D cs w0)   (res : Int32)  : ∀ (x3 : Int32) (x4 : Int32) (x5 : Int32) (t0 : Int32), f_X11_six_b37 x3 x4 x5 t0 = some res → ∀ (H : Heap) (locs : List Loc) (ls : Array Slot), va_P D vwCl ([] : va_W) H → va_D (va_A w0 s.heap.size) ([] : va_W) → va_S (va_A w0 s.heap.size) s.heap H locs → lv_has ls 7 [(3, .int x3), (4, .int x4), (5, .int x5)] → W p l e rm_X11_six s m av below meth c H locs 0 0 (MQ below (oI D cs w0 ([] : va_W) res s.heap.size) av s 0 0 (va_A w0 s.heap.size)) (F0 m 37 ls [.int t0]) := by
  obtain ⟨hx, hb, hr, hlk, hml, hown, hts, hK, hG, hE⟩ := id C0
  intro x3 x4 x5 t0 hf H locs ls hP hD hS hl
  rw [f_X11_six_b37] at hf
  refine lv_istore (lv' := [(6, .int t0), (3, .int x3), (4, .int x4), (5, .int x5)]) hx hb dX11_six_37 hl (by decide) rfl (fun ls hl => ?_)
  refine lv_iload_n hx hb dX11_six_39 rfl (lv_at hl 1 rfl) ?_
  refine lv_if_ne (tgt := 48) hx hb dX11_six_40 (by decide) (fun hc => ?_) (fun hc => ?_)
  · replace hf := ow_f hc hf
    refine lv_bipush (v := 27) hx hb dX11_six_48 (by decide) ?_
    refine lv_iload hx hb dX11_six_50 (lv_at hl 0 rfl) ?_
    refine lv_imul hx hb dX11_six_52 ?_
    refine lv_iload_n hx hb dX11_six_53 rfl (lv_at hl 1 rfl) ?_
    refine lv_iadd hx hb dX11_six_54 ?_
    exact w_X11_six_b55 C0 res x4 x5 ((27 * t0) + x3)  hf _ _ _ hP hD hS (lv_sub hl [2, 3] rfl)
  · replace hf := ow_t hc hf
    refine lv_iload hx hb dX11_six_43 (lv_at hl 0 rfl) ?_
    refine lv_goto (tgt := 55) hx hb dX11_six_45 (by decide) ?_
    exact w_X11_six_b55 C0 res x4 x5 t0  hf _ _ _ hP hD hS (lv_sub hl [2, 3] rfl)
def f_X11_six_b19     (x2 : Int32) (x3 : Int32) (x4 : Int32) (x5 : Int32) (t0 : Int32) : Option (Int32) := if x2 = 0 then (f_X11_six_b37 x3 x4 x5 t0) else (f_X11_six_b37 x3 x4 x5 ((27 * t0) + x2))
set_option maxHeartbeats 4000000 in
set_option maxRecDepth 100000 in
theorem w_X11_six_b19 {p : Program} {l : Launch} {e : Env} {s : State} {m : MethodId} {below : List Frame} {meth : Method} {c : Code} {D : va_G} {cs : Nat → ClassId} {av : Array Value} {w0 : va_W} (C0 : Cx p s m meth c av wsX11_six cX11_six 7 (some .int) RX11 D cs w0)   (res : Int32)  : ∀ (x2 : Int32) (x3 : Int32) (x4 : Int32) (x5 : Int32) (t0 : Int32), f_X11_six_b19 x2 x3 x4 x5 t0 = some res → ∀ (H : Heap) (locs : List Loc) (ls : Array Slot), va_P D vwCl ([] : va_W) H → va_D (va_A w0 s.heap.size) ([] : va_W) → va_S (va_A w0 s.heap.size) s.heap H locs → lv_has ls 7 [(2, .int x2), (3, .int x3), (4, .int x4), (5, .int x5)] → W p l e rm_X11_six s m av below meth c H locs 0 0 (MQ below (oI D cs w0 ([] : va_W) res s.heap.size) av s 0 0 (va_A w0 s.heap.size)) (F0 m 19 ls [.int t0]) := by
  obtain ⟨hx, hb, hr, hlk, hml, hown, hts, hK, hG, hE⟩ := id C0
  intro x2 x3 x4 x5 t0 hf H locs ls hP hD hS hl
  rw [f_X11_six_b19] at hf
  refine lv_istore (lv' := [(6, .int t0), (2, .int x2), (3, .int x3), (4, .int x4), (5, .int x5)]) hx hb dX11_six_19 hl (by decide) rfl (fun ls hl => ?_)
  refine lv_iload_n hx hb dX11_six_21 rfl (lv_at hl 1 rfl) ?_
  refine lv_if_ne (tgt := 30) hx hb dX11_six_22 (by decide) (fun hc => ?_) (fun hc => ?_)
  · replace hf := ow_f hc hf
    refine lv_bipush (v := 27) hx hb dX11_six_30 (by decide) ?_
    refine lv_iload hx hb dX11_six_32 (lv_at hl 0 rfl) ?_
    refine lv_imul hx hb dX11_six_34 ?_
    refine lv_iload_n hx hb dX11_six_35 rfl (lv_at hl 1 rfl) ?_
    refine lv_iadd hx hb dX11_six_36 ?_
    exact w_X11_six_b37 C0 res x3 x4 x5 ((27 * t0) + x2)  hf _ _ _ hP hD hS (lv_sub hl [2, 3, 4] rfl)
  · replace hf := ow_t hc hf
    refine lv_iload hx hb dX11_six_25 (lv_at hl 0 rfl) ?_
    refine lv_goto (tgt := 37) hx hb dX11_six_27 (by decide) ?_
    exact w_X11_six_b37 C0 res x3 x4 x5 t0  hf _ _ _ hP hD hS (lv_sub hl [2, 3, 4] rfl)
def f_X11_six   (x0 : Int32) (x1 : Int32) (x2 : Int32) (x3 : Int32) (x4 : Int32) (x5 : Int32) : Option (Int32) := if x1 = 0 then (f_X11_six_b19 x2 x3 x4 x5 x0) else (f_X11_six_b19 x2 x3 x4 x5 ((27 * x0) + x1))
set_option maxHeartbeats 4000000 in
set_option maxRecDepth 100000 in
theorem c_X11_six (l : Launch) (D : va_G) (cs : Nat → ClassId)  (sz : Nat)  (x0 : Int32) (x1 : Int32) (x2 : Int32) (x3 : Int32) (x4 : Int32) (x5 : Int32) (res : Int32) (hf : f_X11_six   x0 x1 x2 x3 x4 x5 = some res) : MI l D cs yX11_six wsX11_six rm_X11_six [.int x0, .int x1, .int x2, .int x3, .int x4, .int x5] sz ([] : va_W) ([] : va_W) res := by
  rw [f_X11_six] at hf
  refine ow_enter (cc := cX11_six) (nL := 7) (ret := (some .int)) (by decide) rfl (Nat.le_of_ble_eq_true rfl) (fun p e s m below meth c ls H locs C0 hP hD hS hA hl => ?_)
  obtain ⟨hx, hb, hr, hlk, hml, hown, hts, hK, hG, hE⟩ := id C0
  have hl : lv_has ls 7 [(0, .int x0), (1, .int x1), (2, .int x2), (3, .int x3), (4, .int x4), (5, .int x5)] := hl
  refine lv_iload_n hx hb dX11_six_0 rfl (lv_at hl 0 rfl) ?_
  refine lv_istore (lv' := [(6, .int x0), (0, .int x0), (1, .int x1), (2, .int x2), (3, .int x3), (4, .int x4), (5, .int x5)]) hx hb dX11_six_1 hl (by decide) rfl (fun ls hl => ?_)
  refine lv_iload_n hx hb dX11_six_3 rfl (lv_at hl 2 rfl) ?_
  refine lv_if_ne (tgt := 12) hx hb dX11_six_4 (by decide) (fun hc => ?_) (fun hc => ?_)
  · replace hf := ow_f hc hf
    refine lv_bipush (v := 27) hx hb dX11_six_12 (by decide) ?_
    refine lv_iload hx hb dX11_six_14 (lv_at hl 0 rfl) ?_
    refine lv_imul hx hb dX11_six_16 ?_
    refine lv_iload_n hx hb dX11_six_17 rfl (lv_at hl 2 rfl) ?_
    refine lv_iadd hx hb dX11_six_18 ?_
    exact w_X11_six_b19 C0 res x2 x3 x4 x5 ((27 * x0) + x1)  hf _ _ _ hP hD hS (lv_sub hl [3, 4, 5, 6] rfl)
  · replace hf := ow_t hc hf
    refine lv_iload hx hb dX11_six_7 (lv_at hl 0 rfl) ?_
    refine lv_goto (tgt := 19) hx hb dX11_six_9 (by decide) ?_
    exact w_X11_six_b19 C0 res x2 x3 x4 x5 x0  hf _ _ _ hP hD hS (lv_sub hl [3, 4, 5, 6] rfl)

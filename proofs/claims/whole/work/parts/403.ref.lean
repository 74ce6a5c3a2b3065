theorem in_X11_filmsOver_X11 : ∀ w ∈ u_ws RX11 TX11 44, w ∈ wsX11_filmsOver := fun w h => List.mem_cons_of_mem _ (List.mem_append_right _ h)
abbrev W_X11_filmsOver (cs : Nat → ClassId) (a0 : Nat) (p0 : Nat → Nat) (i0_0 : Int32) (i0_1 : Int32) (i0_2 : Int32) (i0_3 : Int32) (i0_4 : Int32) (i0_5 : Int32) (i0_6 : Int32) (i0_7 : Int32) (i0_8 : Int32) (i0_19 : Int32) (i0_20 : Int32) (i0_28 : Int32) (i0_33 : Int32) (i0_34 : Int32) (i0_35 : Int32) (i0_36 : Int32) (i0_37 : Int32) (i0_38 : Int32) (i0_39 : Int32) (i0_40 : Int32) (i0_41 : Int32) (i0_42 : Int32) (i0_43 : Int32) (v0_12 : Nat → Int32) (a1 : Nat) (n1 : Nat) (v1 : Nat → Int32) : va_W := [(a0, .inr (11, [.int i0_0, .int i0_1, .int i0_2, .int i0_3, .int i0_4, .int i0_5, .int i0_6, .int i0_7, .int i0_8, .ref (p0 9), .ref (p0 10), .ref (p0 11), .ref (p0 12), .ref (p0 13), .ref (p0 14), .ref (p0 15), .ref (p0 16), .ref (p0 17), .ref (p0 18), .int i0_19, .int i0_20, .ref (p0 21), .ref (p0 22), .ref (p0 23), .ref (p0 24), .ref (p0 25), .ref (p0 26), .ref (p0 27), .int i0_28, .ref (p0 29), .ref (p0 30), .ref (p0 31), .ref (p0 32), .int i0_33, .int i0_34, .int i0_35, .int i0_36, .int i0_37, .int i0_38, .int i0_39, .int i0_40, .int i0_41, .int i0_42, .int i0_43])), (p0 12, .inl (cs 0, 6, .inl v0_12)), (a1, .inl (cs 0, n1, .inl v1))]
abbrev S_X11_filmsOver (cs : Nat → ClassId) (a0 : Nat) (p0 : Nat → Nat) (i0_0 : Int32) (i0_1 : Int32) (i0_2 : Int32) (i0_3 : Int32) (i0_4 : Int32) (i0_5 : Int32) (i0_6 : Int32) (i0_7 : Int32) (i0_8 : Int32) (i0_19 : Int32) (i0_20 : Int32) (i0_28 : Int32) (i0_33 : Int32) (i0_34 : Int32) (i0_35 : Int32) (i0_36 : Int32) (i0_37 : Int32) (i0_38 : Int32) (i0_39 : Int32) (i0_40 : Int32) (i0_41 : Int32) (i0_42 : Int32) (i0_43 : Int32) (v0_12 : Nat → Int32) (a1 : Nat) (n1 : Nat) (v1 : Nat → Int32) : List va_W := [[(a0, .inr (11, [.int i0_0, .int i0_1, .int i0_2, .int i0_3, .int i0_4, .int i0_5, .int i0_6, .int i0_7, .int i0_8, .ref (p0 9), .ref (p0 10), .ref (p0 11), .ref (p0 12), .ref (p0 13), .ref (p0 14), .ref (p0 15), .ref (p0 16), .ref (p0 17), .ref (p0 18), .int i0_19, .int i0_20, .ref (p0 21), .ref (p0 22), .ref (p0 23), .ref (p0 24), .ref (p0 25), .ref (p0 26), .ref (p0 27), .int i0_28, .ref (p0 29), .ref (p0 30), .ref (p0 31), .ref (p0 32), .int i0_33, .int i0_34, .int i0_35, .int i0_36, .int i0_37, .int i0_38, .int i0_39, .int i0_40, .int i0_41, .int i0_42, .int i0_43]))], [(p0 12, .inl (cs 0, 6, .inl v0_12))], [(a1, .inl (cs 0, n1, .inl v1))]]
abbrev rm_X11_filmsOver : Room := { frames := 0, cells := 0, slots := 0, locals := 0 }
def f_X11_filmsOver_b73  (v0_12 : Nat → Int32) (n1 : Nat)  (v1 : Nat → Int32) (x2 : Int32) (x3 : Int32) (x4 : Int32) : Option ((Nat → Int32)) := ck (2400 + x2) n1 (ck (x4 + (v1 (2400 + x2).toNatClampNeg)) n1 (ck (2400 + x2) n1 (ck (2400 + x2) n1 (some (upd (upd v1 (x4 + (v1 (2400 + x2).toNatClampNeg)).toNatClampNeg x3) (2400 + x2).toNatClampNeg (((upd v1 (x4 + (v1 (2400 + x2).toNatClampNeg)).toNatClampNeg x3) (2400 + x2).toNatClampNeg) + 1))))))
set_option maxHeartbeats 4000000 in
set_option maxRecDepth 100000 in
theorem w_X11_filmsOver_b73 {p : Program} {l : Launch} {e : Env} {s : State} {m : MethodId} {below : List Frame} {meth : Method} {c : Code} {D : va_G} {cs : Nat → ClassId} {av : Array Value} {w0 : va_W} (C0 : Cx p s m meth c av wsX11_filmsOver cX11_filmsOver 6 none RX11 D cs w0)  (a0 : Nat) (p0 : Nat → Nat) (i0_0 : Int32) (i0_1 : Int32) (i0_2 : Int32) (i0_3 : Int32) (i0_4 : Int32) (i0_5 : Int32) (i0_6 : Int32) (i0_7 : Int32) (i0_8 : Int32) (i0_19 : Int32) (i0_20 : Int32) (i0_28 : Int32) (i0_33 : Int32) (i0_34 : Int32) (i0_35 : Int32) (i0_36 : Int32) (i0_37 : Int32) (i0_38 : Int32) (i0_39 : Int32) (i0_40 : Int32) (i0_41 : Int32) (i0_42 : Int32) (i0_43 : Int32) (v0_12 : Nat → Int32) (a1 : Nat) (n1 : Nat) (res : (Nat → Int32))  : ∀ (v1 : Nat → Int32) (x2 : Int32) (x3 : Int32) (x4 : Int32), f_X11_filmsOver_b73 v0_12 n1 v1 x2 x3 x4 = some res → ∀ (H : Heap) (locs : List Loc) (ls : Array Slot), va_P D vwCl (W_X11_filmsOver cs a0 p0 i0_0 i0_1 i0_2 i0_3 i0_4 i0_5 i0_6 i0_7 i0_8 i0_19 i0_20 i0_28 i0_33 i0_34 i0_35 i0_36 i0_37 i0_38 i0_39 i0_40 i0_41 i0_42 i0_43 v0_12 a1 n1 v1) H → va_D (va_A w0 s.heap.size) (W_X11_filmsOver cs a0 p0 i0_0 i0_1 i0_2 i0_3 i0_4 i0_5 i0_6 i0_7 i0_8 i0_19 i0_20 i0_28 i0_33 i0_34 i0_35 i0_36 i0_37 i0_38 i0_39 i0_40 i0_41 i0_42 i0_43 v0_12 a1 n1 v1) → va_S (va_A w0 s.heap.size) s.heap H locs → lv_has ls 6 [(1, .ref a1), (2, .int x2), (3, .int x3), (4, .int x4)] → W p l e rm_X11_filmsOver s m av below meth c H locs 0 0 (MQ below (oV D cs w0 (W_X11_filmsOver cs a0 p0 i0_0 i0_1 i0_2 i0_3 i0_4 i0_5 i0_6 i0_7 i0_8 i0_19 i0_20 i0_28 i0_33 i0_34 i0_35 i0_36 i0_37 i0_38 i0_39 i0_40 i0_41 i0_42 i0_43 v0_12 a1 n1 res) s.heap.size) av s 0 0 (va_A w0 s.heap.size)) (F0 m 73 ls []) := by
  obtain ⟨hx, hb, hr, hlk, hml, hown, hts, hK, hG, hE⟩ := id C0
  intro v1 x2 x3 x4 hf H locs ls hP hD hS hl
  rw [f_X11_filmsOver_b73] at hf
  refine lv_aload_n hx hb dX11_filmsOver_73 rfl (lv_at hl 0 rfl) ?_
  refine lv_iload hx hb dX11_filmsOver_74 (lv_at hl 3 rfl) ?_
  refine lv_aload_n hx hb dX11_filmsOver_76 rfl (lv_at hl 0 rfl) ?_
  refine lv_sipush (v := 2400) hx hb dX11_filmsOver_77 (by decide) ?_
  refine lv_iload_n hx hb dX11_filmsOver_80 rfl (lv_at hl 1 rfl) ?_
  refine lv_iadd hx hb dX11_filmsOver_81 ?_
  obtain ⟨hin, hf⟩ := ck_some hf
  refine va_iald (f := v1) hx hb hK hP 2 0 rfl rfl hin dX11_filmsOver_82 ?_
  refine lv_iadd hx hb dX11_filmsOver_83 ?_
  refine lv_iload_n hx hb dX11_filmsOver_84 rfl (lv_at hl 2 rfl) ?_
  obtain ⟨hin, hf⟩ := ck_some hf
  refine va_iast (f := v1) hx hb hK hP hD hS 2 0 rfl rfl hin dX11_filmsOver_85 (fun H locs (hP : va_P D vwCl (W_X11_filmsOver cs a0 p0 i0_0 i0_1 i0_2 i0_3 i0_4 i0_5 i0_6 i0_7 i0_8 i0_19 i0_20 i0_28 i0_33 i0_34 i0_35 i0_36 i0_37 i0_38 i0_39 i0_40 i0_41 i0_42 i0_43 v0_12 a1 n1 (upd v1 (x4 + (v1 (2400 + x2).toNatClampNeg)).toNatClampNeg x3)) H) (hD : va_D _ (W_X11_filmsOver cs a0 p0 i0_0 i0_1 i0_2 i0_3 i0_4 i0_5 i0_6 i0_7 i0_8 i0_19 i0_20 i0_28 i0_33 i0_34 i0_35 i0_36 i0_37 i0_38 i0_39 i0_40 i0_41 i0_42 i0_43 v0_12 a1 n1 (upd v1 (x4 + (v1 (2400 + x2).toNatClampNeg)).toNatClampNeg x3))) hS => ?_)
  refine lv_aload_n hx hb dX11_filmsOver_86 rfl (lv_at hl 0 rfl) ?_
  refine lv_sipush (v := 2400) hx hb dX11_filmsOver_87 (by decide) ?_
  refine lv_iload_n hx hb dX11_filmsOver_90 rfl (lv_at hl 1 rfl) ?_
  refine lv_iadd hx hb dX11_filmsOver_91 ?_
  refine lv_dup2_11 hx hb dX11_filmsOver_92 rfl rfl ?_
  obtain ⟨hin, hf⟩ := ck_some hf
  refine va_iald (f := upd v1 (x4 + (v1 (2400 + x2).toNatClampNeg)).toNatClampNeg x3) hx hb hK hP 2 0 rfl rfl hin dX11_filmsOver_93 ?_
  refine lv_iconst (v := 1) hx hb dX11_filmsOver_94 (by decide) ?_
  refine lv_iadd hx hb dX11_filmsOver_95 ?_
  obtain ⟨hin, hf⟩ := ck_some hf
  refine va_iast (f := upd v1 (x4 + (v1 (2400 + x2).toNatClampNeg)).toNatClampNeg x3) hx hb hK hP hD hS 2 0 rfl rfl hin dX11_filmsOver_96 (fun H locs (hP : va_P D vwCl (W_X11_filmsOver cs a0 p0 i0_0 i0_1 i0_2 i0_3 i0_4 i0_5 i0_6 i0_7 i0_8 i0_19 i0_20 i0_28 i0_33 i0_34 i0_35 i0_36 i0_37 i0_38 i0_39 i0_40 i0_41 i0_42 i0_43 v0_12 a1 n1 (upd (upd v1 (x4 + (v1 (2400 + x2).toNatClampNeg)).toNatClampNeg x3) (2400 + x2).toNatClampNeg (((upd v1 (x4 + (v1 (2400 + x2).toNatClampNeg)).toNatClampNeg x3) (2400 + x2).toNatClampNeg) + 1))) H) (hD : va_D _ (W_X11_filmsOver cs a0 p0 i0_0 i0_1 i0_2 i0_3 i0_4 i0_5 i0_6 i0_7 i0_8 i0_19 i0_20 i0_28 i0_33 i0_34 i0_35 i0_36 i0_37 i0_38 i0_39 i0_40 i0_41 i0_42 i0_43 v0_12 a1 n1 (upd (upd v1 (x4 + (v1 (2400 + x2).toNatClampNeg)).toNatClampNeg x3) (2400 + x2).toNatClampNeg (((upd v1 (x4 + (v1 (2400 + x2).toNatClampNeg)).toNatClampNeg x3) (2400 + x2).toNatClampNeg) + 1)))) hS => ?_)
  obtain rfl := Option.some.inj hf
  exact ow_retV C0 hP hD hS dX11_filmsOver_97
def f_X11_filmsOver_b27  (v0_12 : Nat → Int32) (n1 : Nat)  : Nat → (Nat → Int32) → Int32 → Int32 → Int32 → Int32 → Option ((Nat → Int32))
  | 0, _, _, _, _, _ => none
  | n + 1, v1, x2, x3, x4, x5 => if (v0_12 (5 : Int32).toNatClampNeg) ≤ (x5 + 1) then (ck (2400 + x2) n1 (ck (2400 + x2) n1 (f_X11_filmsOver_b73 v0_12 n1 (upd v1 (2400 + x2).toNatClampNeg ((v1 (2400 + x2).toNatClampNeg) - 1)) x2 x3 x4))) else (ck ((x4 + x5) + 1) n1 (ck (x4 + x5) n1 (f_X11_filmsOver_b27 v0_12 n1 n (upd v1 (x4 + x5).toNatClampNeg (v1 ((x4 + x5) + 1).toNatClampNeg)) x2 x3 x4 (x5 + 1))))
set_option maxHeartbeats 4000000 in
set_option maxRecDepth 100000 in
theorem w_X11_filmsOver_b27 {p : Program} {l : Launch} {e : Env} {s : State} {m : MethodId} {below : List Frame} {meth : Method} {c : Code} {D : va_G} {cs : Nat → ClassId} {av : Array Value} {w0 : va_W} (C0 : Cx p s m meth c av wsX11_filmsOver cX11_filmsOver 6 none RX11 D cs w0)  (a0 : Nat) (p0 : Nat → Nat) (i0_0 : Int32) (i0_1 : Int32) (i0_2 : Int32) (i0_3 : Int32) (i0_4 : Int32) (i0_5 : Int32) (i0_6 : Int32) (i0_7 : Int32) (i0_8 : Int32) (i0_19 : Int32) (i0_20 : Int32) (i0_28 : Int32) (i0_33 : Int32) (i0_34 : Int32) (i0_35 : Int32) (i0_36 : Int32) (i0_37 : Int32) (i0_38 : Int32) (i0_39 : Int32) (i0_40 : Int32) (i0_41 : Int32) (i0_42 : Int32) (i0_43 : Int32) (v0_12 : Nat → Int32) (a1 : Nat) (n1 : Nat) (res : (Nat → Int32))  : ∀ (n : Nat) (v1 : Nat → Int32) (x2 : Int32) (x3 : Int32) (x4 : Int32) (x5 : Int32), f_X11_filmsOver_b27 v0_12 n1 n v1 x2 x3 x4 x5 = some res → ∀ (H : Heap) (locs : List Loc) (ls : Array Slot), va_P D vwCl (W_X11_filmsOver cs a0 p0 i0_0 i0_1 i0_2 i0_3 i0_4 i0_5 i0_6 i0_7 i0_8 i0_19 i0_20 i0_28 i0_33 i0_34 i0_35 i0_36 i0_37 i0_38 i0_39 i0_40 i0_41 i0_42 i0_43 v0_12 a1 n1 v1) H → va_D (va_A w0 s.heap.size) (W_X11_filmsOver cs a0 p0 i0_0 i0_1 i0_2 i0_3 i0_4 i0_5 i0_6 i0_7 i0_8 i0_19 i0_20 i0_28 i0_33 i0_34 i0_35 i0_36 i0_37 i0_38 i0_39 i0_40 i0_41 i0_42 i0_43 v0_12 a1 n1 v1) → va_S (va_A w0 s.heap.size) s.heap H locs → lv_has ls 6 [(0, .ref a0), (1, .ref a1), (2, .int x2), (3, .int x3), (4, .int x4), (5, .int x5)] → W p l e rm_X11_filmsOver s m av below meth c H locs 0 0 (MQ below (oV D cs w0 (W_X11_filmsOver cs a0 p0 i0_0 i0_1 i0_2 i0_3 i0_4 i0_5 i0_6 i0_7 i0_8 i0_19 i0_20 i0_28 i0_33 i0_34 i0_35 i0_36 i0_37 i0_38 i0_39 i0_40 i0_41 i0_42 i0_43 v0_12 a1 n1 res) s.heap.size) av s 0 0 (va_A w0 s.heap.size)) (F0 m 27 ls []) := by
  obtain ⟨hx, hb, hr, hlk, hml, hown, hts, hK, hG, hE⟩ := id C0
  intro n
  induction n with
  | zero =>
    intro v1 x2 x3 x4 x5 hf
    rw [f_X11_filmsOver_b27] at hf
    cases hf
  | succ n ih =>
    intro v1 x2 x3 x4 x5 hf H locs ls hP hD hS hl
    rw [f_X11_filmsOver_b27] at hf
    refine lv_iload hx hb dX11_filmsOver_27 (lv_at hl 5 rfl) ?_
    refine lv_iconst (v := 1) hx hb dX11_filmsOver_29 (by decide) ?_
    refine lv_iadd hx hb dX11_filmsOver_30 ?_
    refine lv_aload_n hx hb dX11_filmsOver_31 rfl (lv_at hl 0 rfl) ?_
    refine va_get (D := D) (ci := 11) (v := .ref (p0 12)) (C := RX11) (T := TX11) (N := 44) hx hb hts in_X11_filmsOver_X11 hown hK hP 0 rfl rfl 12 (by decide) (hts (.fieldLink RX11 23 "PaneDaysModel" "told" "[I") (List.mem_of_getElem? (i := 1) rfl)) (fun _ h9 => h9) rfl dX11_filmsOver_32 ?_
    refine lv_iconst (v := 5) hx hb dX11_filmsOver_35 (by decide) ?_
    refine va_iald (f := v0_12) hx hb hK hP 1 0 rfl rfl (vp_in_nI (n := 5) (by decide) (by decide)) dX11_filmsOver_36 ?_
    refine lv_icmp_ge (tgt := 62) hx hb dX11_filmsOver_37 (by decide) (fun hc => ?_) (fun hc => ?_)
    · replace hf := ow_t hc hf
      refine lv_aload_n hx hb dX11_filmsOver_62 rfl (lv_at hl 1 rfl) ?_
      refine lv_sipush (v := 2400) hx hb dX11_filmsOver_63 (by decide) ?_
      refine lv_iload_n hx hb dX11_filmsOver_66 rfl (lv_at hl 2 rfl) ?_
      refine lv_iadd hx hb dX11_filmsOver_67 ?_
      refine lv_dup2_11 hx hb dX11_filmsOver_68 rfl rfl ?_
      obtain ⟨hin, hf⟩ := ck_some hf
      refine va_iald (f := v1) hx hb hK hP 2 0 rfl rfl hin dX11_filmsOver_69 ?_
      refine lv_iconst (v := 1) hx hb dX11_filmsOver_70 (by decide) ?_
      refine lv_isub hx hb dX11_filmsOver_71 ?_
      obtain ⟨hin, hf⟩ := ck_some hf
      refine va_iast (f := v1) hx hb hK hP hD hS 2 0 rfl rfl hin dX11_filmsOver_72 (fun H locs (hP : va_P D vwCl (W_X11_filmsOver cs a0 p0 i0_0 i0_1 i0_2 i0_3 i0_4 i0_5 i0_6 i0_7 i0_8 i0_19 i0_20 i0_28 i0_33 i0_34 i0_35 i0_36 i0_37 i0_38 i0_39 i0_40 i0_41 i0_42 i0_43 v0_12 a1 n1 (upd v1 (2400 + x2).toNatClampNeg ((v1 (2400 + x2).toNatClampNeg) - 1))) H) (hD : va_D _ (W_X11_filmsOver cs a0 p0 i0_0 i0_1 i0_2 i0_3 i0_4 i0_5 i0_6 i0_7 i0_8 i0_19 i0_20 i0_28 i0_33 i0_34 i0_35 i0_36 i0_37 i0_38 i0_39 i0_40 i0_41 i0_42 i0_43 v0_12 a1 n1 (upd v1 (2400 + x2).toNatClampNeg ((v1 (2400 + x2).toNatClampNeg) - 1)))) hS => ?_)
      exact w_X11_filmsOver_b73 C0 a0 p0 i0_0 i0_1 i0_2 i0_3 i0_4 i0_5 i0_6 i0_7 i0_8 i0_19 i0_20 i0_28 i0_33 i0_34 i0_35 i0_36 i0_37 i0_38 i0_39 i0_40 i0_41 i0_42 i0_43 v0_12 a1 n1 res (upd v1 (2400 + x2).toNatClampNeg ((v1 (2400 + x2).toNatClampNeg) - 1)) x2 x3 x4  hf _ _ _ hP hD hS (lv_sub hl [1, 2, 3, 4] rfl)
    · replace hf := ow_f hc hf
      refine lv_aload_n hx hb dX11_filmsOver_40 rfl (lv_at hl 1 rfl) ?_
      refine lv_iload hx hb dX11_filmsOver_41 (lv_at hl 4 rfl) ?_
      refine lv_iload hx hb dX11_filmsOver_43 (lv_at hl 5 rfl) ?_
      refine lv_iadd hx hb dX11_filmsOver_45 ?_
      refine lv_aload_n hx hb dX11_filmsOver_46 rfl (lv_at hl 1 rfl) ?_
      refine lv_iload hx hb dX11_filmsOver_47 (lv_at hl 4 rfl) ?_
      refine lv_iload hx hb dX11_filmsOver_49 (lv_at hl 5 rfl) ?_
      refine lv_iadd hx hb dX11_filmsOver_51 ?_
      refine lv_iconst (v := 1) hx hb dX11_filmsOver_52 (by decide) ?_
      refine lv_iadd hx hb dX11_filmsOver_53 ?_
      obtain ⟨hin, hf⟩ := ck_some hf
      refine va_iald (f := v1) hx hb hK hP 2 0 rfl rfl hin dX11_filmsOver_54 ?_
      obtain ⟨hin, hf⟩ := ck_some hf
      refine va_iast (f := v1) hx hb hK hP hD hS 2 0 rfl rfl hin dX11_filmsOver_55 (fun H locs (hP : va_P D vwCl (W_X11_filmsOver cs a0 p0 i0_0 i0_1 i0_2 i0_3 i0_4 i0_5 i0_6 i0_7 i0_8 i0_19 i0_20 i0_28 i0_33 i0_34 i0_35 i0_36 i0_37 i0_38 i0_39 i0_40 i0_41 i0_42 i0_43 v0_12 a1 n1 (upd v1 (x4 + x5).toNatClampNeg (v1 ((x4 + x5) + 1).toNatClampNeg))) H) (hD : va_D _ (W_X11_filmsOver cs a0 p0 i0_0 i0_1 i0_2 i0_3 i0_4 i0_5 i0_6 i0_7 i0_8 i0_19 i0_20 i0_28 i0_33 i0_34 i0_35 i0_36 i0_37 i0_38 i0_39 i0_40 i0_41 i0_42 i0_43 v0_12 a1 n1 (upd v1 (x4 + x5).toNatClampNeg (v1 ((x4 + x5) + 1).toNatClampNeg)))) hS => ?_)
      refine lv_iinc (v := x5 + 1) (lv' := [(5, .int (x5 + 1)), (0, .ref a0), (1, .ref a1), (2, .int x2), (3, .int x3), (4, .int x4)]) hx hb dX11_filmsOver_56 hl (k := 5) rfl (ow_inc (by decide)) (by decide) rfl (fun ls hl => ?_)
      refine lv_goto (tgt := 27) hx hb dX11_filmsOver_59 (by decide) ?_
      exact ih (upd v1 (x4 + x5).toNatClampNeg (v1 ((x4 + x5) + 1).toNatClampNeg)) x2 x3 x4 (x5 + 1)  hf _ _ _ hP hD hS (lv_sub hl [1, 2, 3, 4, 5, 0] rfl)
def f_X11_filmsOver  (v0_12 : Nat → Int32) (n1 : Nat) (v1 : Nat → Int32) (x2 : Int32) (x3 : Int32) : Option ((Nat → Int32)) := ck (2400 + x2) n1 (if (v1 (2400 + x2).toNatClampNeg) = (v0_12 (5 : Int32).toNatClampNeg) then (f_X11_filmsOver_b27 v0_12 n1 4000 v1 x2 x3 (0 + (30 * x2)) (0)) else (f_X11_filmsOver_b73 v0_12 n1 v1 x2 x3 (0 + (30 * x2))))
set_option maxHeartbeats 4000000 in
set_option maxRecDepth 100000 in
theorem c_X11_filmsOver (l : Launch) (D : va_G) (cs : Nat → ClassId)  (sz : Nat) (a0 : Nat) (p0 : Nat → Nat) (i0_0 : Int32) (i0_1 : Int32) (i0_2 : Int32) (i0_3 : Int32) (i0_4 : Int32) (i0_5 : Int32) (i0_6 : Int32) (i0_7 : Int32) (i0_8 : Int32) (i0_19 : Int32) (i0_20 : Int32) (i0_28 : Int32) (i0_33 : Int32) (i0_34 : Int32) (i0_35 : Int32) (i0_36 : Int32) (i0_37 : Int32) (i0_38 : Int32) (i0_39 : Int32) (i0_40 : Int32) (i0_41 : Int32) (i0_42 : Int32) (i0_43 : Int32) (v0_12 : Nat → Int32) (a1 : Nat) (n1 : Nat) (v1 : Nat → Int32) (x2 : Int32) (x3 : Int32) (res : (Nat → Int32)) (hf : f_X11_filmsOver  v0_12 n1 v1 x2 x3 = some res) : MV l D cs yX11_filmsOver wsX11_filmsOver rm_X11_filmsOver [.ref a0, .ref a1, .int x2, .int x3] sz (W_X11_filmsOver cs a0 p0 i0_0 i0_1 i0_2 i0_3 i0_4 i0_5 i0_6 i0_7 i0_8 i0_19 i0_20 i0_28 i0_33 i0_34 i0_35 i0_36 i0_37 i0_38 i0_39 i0_40 i0_41 i0_42 i0_43 v0_12 a1 n1 v1) (W_X11_filmsOver cs a0 p0 i0_0 i0_1 i0_2 i0_3 i0_4 i0_5 i0_6 i0_7 i0_8 i0_19 i0_20 i0_28 i0_33 i0_34 i0_35 i0_36 i0_37 i0_38 i0_39 i0_40 i0_41 i0_42 i0_43 v0_12 a1 n1 res) := by
  rw [f_X11_filmsOver] at hf
  refine ow_enter (cc := cX11_filmsOver) (nL := 6) (ret := none) (by decide) rfl (Nat.le_of_ble_eq_true rfl) (fun p e s m below meth c ls H locs C0 hP hD hS hA hl => ?_)
  obtain ⟨hx, hb, hr, hlk, hml, hown, hts, hK, hG, hE⟩ := id C0
  have hl : lv_has ls 6 [(0, .ref a0), (1, .ref a1), (2, .int x2), (3, .int x3)] := hl
  refine lv_iconst (v := 0) hx hb dX11_filmsOver_0 (by decide) ?_
  refine lv_bipush (v := 30) hx hb dX11_filmsOver_1 (by decide) ?_
  refine lv_iload_n hx hb dX11_filmsOver_3 rfl (lv_at hl 2 rfl) ?_
  refine lv_imul hx hb dX11_filmsOver_4 ?_
  refine lv_iadd hx hb dX11_filmsOver_5 ?_
  refine lv_istore (lv' := [(4, .int (0 + (30 * x2))), (0, .ref a0), (1, .ref a1), (2, .int x2), (3, .int x3)]) hx hb dX11_filmsOver_6 hl (by decide) rfl (fun ls hl => ?_)
  refine lv_aload_n hx hb dX11_filmsOver_8 rfl (lv_at hl 2 rfl) ?_
  refine lv_sipush (v := 2400) hx hb dX11_filmsOver_9 (by decide) ?_
  refine lv_iload_n hx hb dX11_filmsOver_12 rfl (lv_at hl 3 rfl) ?_
  refine lv_iadd hx hb dX11_filmsOver_13 ?_
  obtain ⟨hin, hf⟩ := ck_some hf
  refine va_iald (f := v1) hx hb hK hP 2 0 rfl rfl hin dX11_filmsOver_14 ?_
  refine lv_aload_n hx hb dX11_filmsOver_15 rfl (lv_at hl 1 rfl) ?_
  refine va_get (D := D) (ci := 11) (v := .ref (p0 12)) (C := RX11) (T := TX11) (N := 44) hx hb hts in_X11_filmsOver_X11 hown hK hP 0 rfl rfl 12 (by decide) (hts (.fieldLink RX11 23 "PaneDaysModel" "told" "[I") (List.mem_of_getElem? (i := 1) rfl)) (fun _ h9 => h9) rfl dX11_filmsOver_16 ?_
  refine lv_iconst (v := 5) hx hb dX11_filmsOver_19 (by decide) ?_
  refine va_iald (f := v0_12) hx hb hK hP 1 0 rfl rfl (vp_in_nI (n := 5) (by decide) (by decide)) dX11_filmsOver_20 ?_
  refine lv_icmp_ne (tgt := 73) hx hb dX11_filmsOver_21 (by decide) (fun hc => ?_) (fun hc => ?_)
  · replace hf := ow_f hc hf
    exact w_X11_filmsOver_b73 C0 a0 p0 i0_0 i0_1 i0_2 i0_3 i0_4 i0_5 i0_6 i0_7 i0_8 i0_19 i0_20 i0_28 i0_33 i0_34 i0_35 i0_36 i0_37 i0_38 i0_39 i0_40 i0_41 i0_42 i0_43 v0_12 a1 n1 res v1 x2 x3 (0 + (30 * x2))  hf _ _ _ hP hD hS (lv_sub hl [2, 3, 4, 0] rfl)
  · replace hf := ow_t hc hf
    refine lv_iconst (v := 0) hx hb dX11_filmsOver_24 (by decide) ?_
    refine lv_istore (lv' := [(5, .int 0), (4, .int (0 + (30 * x2))), (0, .ref a0), (1, .ref a1), (2, .int x2), (3, .int x3)]) hx hb dX11_filmsOver_25 hl (by decide) rfl (fun ls hl => ?_)
    exact w_X11_filmsOver_b27 C0 a0 p0 i0_0 i0_1 i0_2 i0_3 i0_4 i0_5 i0_6 i0_7 i0_8 i0_19 i0_20 i0_28 i0_33 i0_34 i0_35 i0_36 i0_37 i0_38 i0_39 i0_40 i0_41 i0_42 i0_43 v0_12 a1 n1 res 4000 v1 x2 x3 (0 + (30 * x2)) (0)  hf _ _ _ hP hD hS (lv_sub hl [2, 3, 4, 5, 1, 0] rfl)

theorem in_X3_put_X3 : ∀ w ∈ u_ws RX3 TX3 3, w ∈ wsX3_put := fun w h => List.mem_cons_of_mem _ (List.mem_append_right _ h)
abbrev W_X3_put (cs : Nat → ClassId) (a0 : Nat) (p0 : Nat → Nat) (i0_2 : Int32) (v0_0 : Nat → Int32) (v0_1 : Nat → Int32) : va_W := wX3 cs a0 p0 i0_2 v0_0 v0_1
abbrev rm_X3_put : Room := { frames := 0, cells := 0, slots := 0, locals := 0 }
def f_X3_put  (i0_2 : Int32) (v0_0 : Nat → Int32) (x1 : Int32) : Option (Int32 × (Nat → Int32)) := if 150 ≤ i0_2 then (some (i0_2, v0_0)) else (ck i0_2 150 (some (i0_2 + 1, upd v0_0 (i0_2).toNatClampNeg x1)))
set_option maxHeartbeats 4000000 in
set_option maxRecDepth 100000 in
theorem c_X3_put (l : Launch) (D : va_G) (cs : Nat → ClassId)  (sz : Nat) (a0 : Nat) (p0 : Nat → Nat) (i0_2 : Int32) (v0_0 : Nat → Int32) (v0_1 : Nat → Int32) (x1 : Int32) (res : Int32 × (Nat → Int32)) (hf : f_X3_put  i0_2 v0_0 x1 = some res) : MV l D cs yX3_put wsX3_put rm_X3_put [.ref a0, .int x1] sz (W_X3_put cs a0 p0 i0_2 v0_0 v0_1) (W_X3_put cs a0 p0 res.1 res.2 v0_1) := by
  rw [f_X3_put] at hf
  refine ow_enter (cc := cX3_put) (nL := 2) (ret := none) (by decide) rfl (Nat.le_of_ble_eq_true rfl) (fun p e s m below meth c ls H locs C0 hP hD hS hA hl => ?_)
  obtain ⟨hx, hb, hr, hlk, hml, hown, hts, hK, hG, hE⟩ := id C0
  have hl : lv_has ls 2 [(0, .ref a0), (1, .int x1)] := hl
  refine lv_aload_n hx hb dX3_put_0 rfl (lv_at hl 0 rfl) ?_
  refine va_get (D := D) (ci := 3) (v := .int i0_2) (C := RX3) (T := TX3) (N := 3) hx hb hts in_X3_put_X3 hown hK hP 0 rfl rfl 2 (by decide) (hts (.fieldLink RX3 21 "PaneDays$Law" "length" "I") (List.mem_of_getElem? (i := 1) rfl)) (fun _ h9 => h9) rfl dX3_put_1 ?_
  refine lv_sipush (v := 150) hx hb dX3_put_4 (by decide) ?_
  refine lv_icmp_ge (tgt := 30) hx hb dX3_put_7 (by decide) (fun hc => ?_) (fun hc => ?_)
  · replace hf := ow_t hc hf
    obtain rfl := Option.some.inj hf
    exact ow_retV C0 hP hD hS dX3_put_30
  · replace hf := ow_f hc hf
    refine lv_aload_n hx hb dX3_put_10 rfl (lv_at hl 0 rfl) ?_
    refine va_get (D := D) (ci := 3) (v := .ref (p0 0)) (C := RX3) (T := TX3) (N := 3) hx hb hts in_X3_put_X3 hown hK hP 0 rfl rfl 0 (by decide) (hts (.fieldLink RX3 9 "PaneDays$Law" "code" "[I") (List.mem_of_getElem? (i := 2) rfl)) (fun _ h9 => h9) rfl dX3_put_11 ?_
    refine lv_aload_n hx hb dX3_put_14 rfl (lv_at hl 0 rfl) ?_
    refine va_get (D := D) (ci := 3) (v := .int i0_2) (C := RX3) (T := TX3) (N := 3) hx hb hts in_X3_put_X3 hown hK hP 0 rfl rfl 2 (by decide) (hts (.fieldLink RX3 21 "PaneDays$Law" "length" "I") (List.mem_of_getElem? (i := 1) rfl)) (fun _ h9 => h9) rfl dX3_put_15 ?_
    refine lv_iload_n hx hb dX3_put_18 rfl (lv_at hl 1 rfl) ?_
    obtain ⟨hin, hf⟩ := ck_some hf
    refine va_iast (f := v0_0) hx hb hK hP hD hS 1 0 rfl rfl hin dX3_put_19 (fun H locs (hP : va_P D vwCl (W_X3_put cs a0 p0 i0_2 (upd v0_0 (i0_2).toNatClampNeg x1) v0_1) H) (hD : va_D _ (W_X3_put cs a0 p0 i0_2 (upd v0_0 (i0_2).toNatClampNeg x1) v0_1)) hS => ?_)
    refine lv_aload_n hx hb dX3_put_20 rfl (lv_at hl 0 rfl) ?_
    refine lv_dup hx hb dX3_put_21 rfl ?_
    refine va_get (D := D) (ci := 3) (v := .int i0_2) (C := RX3) (T := TX3) (N := 3) hx hb hts in_X3_put_X3 hown hK hP 0 rfl rfl 2 (by decide) (hts (.fieldLink RX3 21 "PaneDays$Law" "length" "I") (List.mem_of_getElem? (i := 1) rfl)) (fun _ h9 => h9) rfl dX3_put_22 ?_
    refine lv_iconst (v := 1) hx hb dX3_put_25 (by decide) ?_
    refine lv_iadd hx hb dX3_put_26 ?_
    refine va_put (D := D) (ci := 3) (v := .int (i0_2 + 1)) (ty := .int) (C := RX3) (T := TX3) (N := 3) hx hb hts in_X3_put_X3 tyX3 tyX3_ok nmX3 hown hK hP hD hS 0 rfl rfl 2 (by decide) (hts (.fieldLink RX3 21 "PaneDays$Law" "length" "I") (List.mem_of_getElem? (i := 1) rfl)) (fun _ h9 => h9) rfl (by decide +kernel) rfl rfl (Nat.le_of_ble_eq_true rfl) dX3_put_27 (fun H locs (hP : va_P D vwCl (W_X3_put cs a0 p0 (i0_2 + 1) (upd v0_0 (i0_2).toNatClampNeg x1) v0_1) H) (hD : va_D _ (W_X3_put cs a0 p0 (i0_2 + 1) (upd v0_0 (i0_2).toNatClampNeg x1) v0_1)) hS => ?_)
    obtain rfl := Option.some.inj hf
    exact ow_retV C0 hP hD hS dX3_put_30
abbrev W_X3_nameOf (cs : Nat → ClassId) (a0 : Nat) (p0 : Nat → Nat) (i0_1 : Int32) (i0_2 : Int32) (i0_3 : Int32) (i0_4 : Int32) (i0_5 : Int32) (i0_6 : Int32) (i0_7 : Int32) (i0_8 : Int32) (v0_0 : Nat → Int32) : va_W := wX7 cs a0 p0 i0_1 i0_2 i0_3 i0_4 i0_5 i0_6 i0_7 i0_8 v0_0
abbrev rm_X3_nameOf : Room := { frames := 9, cells := 0, slots := 0, locals := 222 }
def f_X3_nameOf  (i0_3 : Int32) (i0_4 : Int32) (i0_5 : Int32) (v0_0 : Nat → Int32)  : Option (Int32) := (f_X7_isWord i0_3 i0_4 i0_5 v0_0 7).bind fun q3 => if q3 = 0 then ((f_X7_isWord i0_3 i0_4 i0_5 v0_0 8).bind fun q14 => if q14 = 0 then ((f_X7_isWord i0_3 i0_4 i0_5 v0_0 9).bind fun q25 => if q25 = 0 then ((f_X7_isWord i0_3 i0_4 i0_5 v0_0 10).bind fun q36 => if q36 = 0 then ((f_X7_isWord i0_3 i0_4 i0_5 v0_0 11).bind fun q47 => if q47 = 0 then ((f_X7_isWord i0_3 i0_4 i0_5 v0_0 12).bind fun q58 => if q58 = 0 then ((f_X7_isWord i0_3 i0_4 i0_5 v0_0 13).bind fun q69 => if q69 = 0 then ((f_X7_isWord i0_3 i0_4 i0_5 v0_0 14).bind fun q81 => if q81 = 0 then (some ((-1))) else (some (7))) else (some (6))) else (some (5))) else (some (4))) else (some (3))) else (some (2))) else (some (1))) else (some (0))
set_option maxHeartbeats 4000000 in
set_option maxRecDepth 100000 in
theorem c_X3_nameOf (l : Launch) (D : va_G) (cs : Nat → ClassId)  (sz : Nat) (a0 : Nat) (p0 : Nat → Nat) (i0_1 : Int32) (i0_2 : Int32) (i0_3 : Int32) (i0_4 : Int32) (i0_5 : Int32) (i0_6 : Int32) (i0_7 : Int32) (i0_8 : Int32) (v0_0 : Nat → Int32)  (res : Int32) (hf : f_X3_nameOf  i0_3 i0_4 i0_5 v0_0  = some res) : MI l D cs yX3_nameOf wsX3_nameOf rm_X3_nameOf [.ref a0] sz (W_X3_nameOf cs a0 p0 i0_1 i0_2 i0_3 i0_4 i0_5 i0_6 i0_7 i0_8 v0_0) (W_X3_nameOf cs a0 p0 i0_1 i0_2 i0_3 i0_4 i0_5 i0_6 i0_7 i0_8 v0_0) res := by
  rw [f_X3_nameOf] at hf
  refine ow_enter (cc := cX3_nameOf) (nL := 1) (ret := (some .int)) (by decide) rfl (Nat.le_of_ble_eq_true rfl) (fun p e s m below meth c ls H locs C0 hP hD hS hA hl => ?_)
  obtain ⟨hx, hb, hr, hlk, hml, hown, hts, hK, hG, hE⟩ := id C0
  have hl : lv_has ls 1 [(0, .ref a0)] := hl
  refine lv_aload_n hx hb dX3_nameOf_0 rfl (lv_at hl 0 rfl) ?_
  refine va_ldcS (own := RX3) (tx := "day") (q := D.2 100 7) hx hb hown (hG.2.2 (RX3, 78, "day", 7) (List.mem_of_getElem? (i := 7) rfl)) dX3_nameOf_1 ?_
  obtain ⟨q3, hq, hf⟩ := bd_some hf
  refine ow_callVI (As := [.ref (D.2 100 7)]) (rest := []) (wr := ow_pk (W_X3_nameOf cs a0 p0 i0_1 i0_2 i0_3 i0_4 i0_5 i0_6 i0_7 i0_8 v0_0) []) (wf := (W_X3_nameOf cs a0 p0 i0_1 i0_2 i0_3 i0_4 i0_5 i0_6 i0_7 i0_8 v0_0)) (r := q3) C0 (c_X7_isWord l D cs H.size a0 p0 i0_1 i0_2 i0_3 i0_4 i0_5 i0_6 i0_7 i0_8 v0_0 7 (by decide)  q3 hq) (cwV 1 hts gX3_nameOf_X7_isWord rfl rfl rfl (by decide +kernel) ⟨Nat.le_of_ble_eq_true rfl, Nat.le_of_ble_eq_true rfl⟩) 7 rfl rfl hP hD hS (fun q h => Or.inr h) [0, 1] [] [0, 1] rfl (by decide) rfl (by decide) (by decide) rfl (by decide) rfl hl.1 rfl (Nat.le_of_ble_eq_true rfl) ⟨Nat.zero_le _, Nat.zero_le _⟩ dX3_nameOf_3 (fun H locs hP hD hS => ?_)
  refine lv_if_eq (tgt := 11) hx hb dX3_nameOf_6 (by decide) (fun hc => ?_) (fun hc => ?_)
  · replace hf := ow_t hc hf
    refine lv_aload_n hx hb dX3_nameOf_11 rfl (lv_at hl 0 rfl) ?_
    refine va_ldcS (own := RX3) (tx := "x") (q := D.2 100 8) hx hb hown (hG.2.2 (RX3, 80, "x", 8) (List.mem_of_getElem? (i := 8) rfl)) dX3_nameOf_12 ?_
    obtain ⟨q14, hq, hf⟩ := bd_some hf
    refine ow_callVI (As := [.ref (D.2 100 8)]) (rest := []) (wr := ow_pk (W_X3_nameOf cs a0 p0 i0_1 i0_2 i0_3 i0_4 i0_5 i0_6 i0_7 i0_8 v0_0) []) (wf := (W_X3_nameOf cs a0 p0 i0_1 i0_2 i0_3 i0_4 i0_5 i0_6 i0_7 i0_8 v0_0)) (r := q14) C0 (c_X7_isWord l D cs H.size a0 p0 i0_1 i0_2 i0_3 i0_4 i0_5 i0_6 i0_7 i0_8 v0_0 8 (by decide)  q14 hq) (cwV 1 hts gX3_nameOf_X7_isWord rfl rfl rfl (by decide +kernel) ⟨Nat.le_of_ble_eq_true rfl, Nat.le_of_ble_eq_true rfl⟩) 7 rfl rfl hP hD hS (fun q h => Or.inr h) [0, 1] [] [0, 1] rfl (by decide) rfl (by decide) (by decide) rfl (by decide) rfl hl.1 rfl (Nat.le_of_ble_eq_true rfl) ⟨Nat.zero_le _, Nat.zero_le _⟩ dX3_nameOf_14 (fun H locs hP hD hS => ?_)
    refine lv_if_eq (tgt := 22) hx hb dX3_nameOf_17 (by decide) (fun hc => ?_) (fun hc => ?_)
    · replace hf := ow_t hc hf
      refine lv_aload_n hx hb dX3_nameOf_22 rfl (lv_at hl 0 rfl) ?_
      refine va_ldcS (own := RX3) (tx := "y") (q := D.2 100 9) hx hb hown (hG.2.2 (RX3, 82, "y", 9) (List.mem_of_getElem? (i := 9) rfl)) dX3_nameOf_23 ?_
      obtain ⟨q25, hq, hf⟩ := bd_some hf
      refine ow_callVI (As := [.ref (D.2 100 9)]) (rest := []) (wr := ow_pk (W_X3_nameOf cs a0 p0 i0_1 i0_2 i0_3 i0_4 i0_5 i0_6 i0_7 i0_8 v0_0) []) (wf := (W_X3_nameOf cs a0 p0 i0_1 i0_2 i0_3 i0_4 i0_5 i0_6 i0_7 i0_8 v0_0)) (r := q25) C0 (c_X7_isWord l D cs H.size a0 p0 i0_1 i0_2 i0_3 i0_4 i0_5 i0_6 i0_7 i0_8 v0_0 9 (by decide)  q25 hq) (cwV 1 hts gX3_nameOf_X7_isWord rfl rfl rfl (by decide +kernel) ⟨Nat.le_of_ble_eq_true rfl, Nat.le_of_ble_eq_true rfl⟩) 7 rfl rfl hP hD hS (fun q h => Or.inr h) [0, 1] [] [0, 1] rfl (by decide) rfl (by decide) (by decide) rfl (by decide) rfl hl.1 rfl (Nat.le_of_ble_eq_true rfl) ⟨Nat.zero_le _, Nat.zero_le _⟩ dX3_nameOf_25 (fun H locs hP hD hS => ?_)
      refine lv_if_eq (tgt := 33) hx hb dX3_nameOf_28 (by decide) (fun hc => ?_) (fun hc => ?_)
      · replace hf := ow_t hc hf
        refine lv_aload_n hx hb dX3_nameOf_33 rfl (lv_at hl 0 rfl) ?_
        refine va_ldcS (own := RX3) (tx := "floor") (q := D.2 100 10) hx hb hown (hG.2.2 (RX3, 84, "floor", 10) (List.mem_of_getElem? (i := 10) rfl)) dX3_nameOf_34 ?_
        obtain ⟨q36, hq, hf⟩ := bd_some hf
        refine ow_callVI (As := [.ref (D.2 100 10)]) (rest := []) (wr := ow_pk (W_X3_nameOf cs a0 p0 i0_1 i0_2 i0_3 i0_4 i0_5 i0_6 i0_7 i0_8 v0_0) []) (wf := (W_X3_nameOf cs a0 p0 i0_1 i0_2 i0_3 i0_4 i0_5 i0_6 i0_7 i0_8 v0_0)) (r := q36) C0 (c_X7_isWord l D cs H.size a0 p0 i0_1 i0_2 i0_3 i0_4 i0_5 i0_6 i0_7 i0_8 v0_0 10 (by decide)  q36 hq) (cwV 1 hts gX3_nameOf_X7_isWord rfl rfl rfl (by decide +kernel) ⟨Nat.le_of_ble_eq_true rfl, Nat.le_of_ble_eq_true rfl⟩) 7 rfl rfl hP hD hS (fun q h => Or.inr h) [0, 1] [] [0, 1] rfl (by decide) rfl (by decide) (by decide) rfl (by decide) rfl hl.1 rfl (Nat.le_of_ble_eq_true rfl) ⟨Nat.zero_le _, Nat.zero_le _⟩ dX3_nameOf_36 (fun H locs hP hD hS => ?_)
        refine lv_if_eq (tgt := 44) hx hb dX3_nameOf_39 (by decide) (fun hc => ?_) (fun hc => ?_)
        · replace hf := ow_t hc hf
          refine lv_aload_n hx hb dX3_nameOf_44 rfl (lv_at hl 0 rfl) ?_
          refine va_ldcS (own := RX3) (tx := "pane") (q := D.2 100 11) hx hb hown (hG.2.2 (RX3, 86, "pane", 11) (List.mem_of_getElem? (i := 11) rfl)) dX3_nameOf_45 ?_
          obtain ⟨q47, hq, hf⟩ := bd_some hf
          refine ow_callVI (As := [.ref (D.2 100 11)]) (rest := []) (wr := ow_pk (W_X3_nameOf cs a0 p0 i0_1 i0_2 i0_3 i0_4 i0_5 i0_6 i0_7 i0_8 v0_0) []) (wf := (W_X3_nameOf cs a0 p0 i0_1 i0_2 i0_3 i0_4 i0_5 i0_6 i0_7 i0_8 v0_0)) (r := q47) C0 (c_X7_isWord l D cs H.size a0 p0 i0_1 i0_2 i0_3 i0_4 i0_5 i0_6 i0_7 i0_8 v0_0 11 (by decide)  q47 hq) (cwV 1 hts gX3_nameOf_X7_isWord rfl rfl rfl (by decide +kernel) ⟨Nat.le_of_ble_eq_true rfl, Nat.le_of_ble_eq_true rfl⟩) 7 rfl rfl hP hD hS (fun q h => Or.inr h) [0, 1] [] [0, 1] rfl (by decide) rfl (by decide) (by decide) rfl (by decide) rfl hl.1 rfl (Nat.le_of_ble_eq_true rfl) ⟨Nat.zero_le _, Nat.zero_le _⟩ dX3_nameOf_47 (fun H locs hP hD hS => ?_)
          refine lv_if_eq (tgt := 55) hx hb dX3_nameOf_50 (by decide) (fun hc => ?_) (fun hc => ?_)
          · replace hf := ow_t hc hf
            refine lv_aload_n hx hb dX3_nameOf_55 rfl (lv_at hl 0 rfl) ?_
            refine va_ldcS (own := RX3) (tx := "deep") (q := D.2 100 12) hx hb hown (hG.2.2 (RX3, 88, "deep", 12) (List.mem_of_getElem? (i := 12) rfl)) dX3_nameOf_56 ?_
            obtain ⟨q58, hq, hf⟩ := bd_some hf
            refine ow_callVI (As := [.ref (D.2 100 12)]) (rest := []) (wr := ow_pk (W_X3_nameOf cs a0 p0 i0_1 i0_2 i0_3 i0_4 i0_5 i0_6 i0_7 i0_8 v0_0) []) (wf := (W_X3_nameOf cs a0 p0 i0_1 i0_2 i0_3 i0_4 i0_5 i0_6 i0_7 i0_8 v0_0)) (r := q58) C0 (c_X7_isWord l D cs H.size a0 p0 i0_1 i0_2 i0_3 i0_4 i0_5 i0_6 i0_7 i0_8 v0_0 12 (by decide)  q58 hq) (cwV 1 hts gX3_nameOf_X7_isWord rfl rfl rfl (by decide +kernel) ⟨Nat.le_of_ble_eq_true rfl, Nat.le_of_ble_eq_true rfl⟩) 7 rfl rfl hP hD hS (fun q h => Or.inr h) [0, 1] [] [0, 1] rfl (by decide) rfl (by decide) (by decide) rfl (by decide) rfl hl.1 rfl (Nat.le_of_ble_eq_true rfl) ⟨Nat.zero_le _, Nat.zero_le _⟩ dX3_nameOf_58 (fun H locs hP hD hS => ?_)
            refine lv_if_eq (tgt := 66) hx hb dX3_nameOf_61 (by decide) (fun hc => ?_) (fun hc => ?_)
            · replace hf := ow_t hc hf
              refine lv_aload_n hx hb dX3_nameOf_66 rfl (lv_at hl 0 rfl) ?_
              refine va_ldcS (own := RX3) (tx := "seen") (q := D.2 100 13) hx hb hown (hG.2.2 (RX3, 90, "seen", 13) (List.mem_of_getElem? (i := 13) rfl)) dX3_nameOf_67 ?_
              obtain ⟨q69, hq, hf⟩ := bd_some hf
              refine ow_callVI (As := [.ref (D.2 100 13)]) (rest := []) (wr := ow_pk (W_X3_nameOf cs a0 p0 i0_1 i0_2 i0_3 i0_4 i0_5 i0_6 i0_7 i0_8 v0_0) []) (wf := (W_X3_nameOf cs a0 p0 i0_1 i0_2 i0_3 i0_4 i0_5 i0_6 i0_7 i0_8 v0_0)) (r := q69) C0 (c_X7_isWord l D cs H.size a0 p0 i0_1 i0_2 i0_3 i0_4 i0_5 i0_6 i0_7 i0_8 v0_0 13 (by decide)  q69 hq) (cwV 1 hts gX3_nameOf_X7_isWord rfl rfl rfl (by decide +kernel) ⟨Nat.le_of_ble_eq_true rfl, Nat.le_of_ble_eq_true rfl⟩) 7 rfl rfl hP hD hS (fun q h => Or.inr h) [0, 1] [] [0, 1] rfl (by decide) rfl (by decide) (by decide) rfl (by decide) rfl hl.1 rfl (Nat.le_of_ble_eq_true rfl) ⟨Nat.zero_le _, Nat.zero_le _⟩ dX3_nameOf_69 (fun H locs hP hD hS => ?_)
              refine lv_if_eq (tgt := 78) hx hb dX3_nameOf_72 (by decide) (fun hc => ?_) (fun hc => ?_)
              · replace hf := ow_t hc hf
                refine lv_aload_n hx hb dX3_nameOf_78 rfl (lv_at hl 0 rfl) ?_
                refine va_ldcS (own := RX3) (tx := "rain") (q := D.2 100 14) hx hb hown (hG.2.2 (RX3, 92, "rain", 14) (List.mem_of_getElem? (i := 14) rfl)) dX3_nameOf_79 ?_
                obtain ⟨q81, hq, hf⟩ := bd_some hf
                refine ow_callVI (As := [.ref (D.2 100 14)]) (rest := []) (wr := ow_pk (W_X3_nameOf cs a0 p0 i0_1 i0_2 i0_3 i0_4 i0_5 i0_6 i0_7 i0_8 v0_0) []) (wf := (W_X3_nameOf cs a0 p0 i0_1 i0_2 i0_3 i0_4 i0_5 i0_6 i0_7 i0_8 v0_0)) (r := q81) C0 (c_X7_isWord l D cs H.size a0 p0 i0_1 i0_2 i0_3 i0_4 i0_5 i0_6 i0_7 i0_8 v0_0 14 (by decide)  q81 hq) (cwV 1 hts gX3_nameOf_X7_isWord rfl rfl rfl (by decide +kernel) ⟨Nat.le_of_ble_eq_true rfl, Nat.le_of_ble_eq_true rfl⟩) 7 rfl rfl hP hD hS (fun q h => Or.inr h) [0, 1] [] [0, 1] rfl (by decide) rfl (by decide) (by decide) rfl (by decide) rfl hl.1 rfl (Nat.le_of_ble_eq_true rfl) ⟨Nat.zero_le _, Nat.zero_le _⟩ dX3_nameOf_81 (fun H locs hP hD hS => ?_)
                refine lv_if_eq (tgt := 92) hx hb dX3_nameOf_84 (by decide) (fun hc => ?_) (fun hc => ?_)
                · replace hf := ow_t hc hf
                  refine lv_iconst (v := (-1)) hx hb dX3_nameOf_92 (by decide) ?_
                  obtain rfl := Option.some.inj hf
                  exact ow_retI C0 hP hD hS dX3_nameOf_93
                · replace hf := ow_f hc hf
                  refine lv_bipush (v := 7) hx hb dX3_nameOf_87 (by decide) ?_
                  refine lv_goto (tgt := 93) hx hb dX3_nameOf_89 (by decide) ?_
                  obtain rfl := Option.some.inj hf
                  exact ow_retI C0 hP hD hS dX3_nameOf_93
              · replace hf := ow_f hc hf
                refine lv_bipush (v := 6) hx hb dX3_nameOf_75 (by decide) ?_
                obtain rfl := Option.some.inj hf
                exact ow_retI C0 hP hD hS dX3_nameOf_77
            · replace hf := ow_f hc hf
              refine lv_iconst (v := 5) hx hb dX3_nameOf_64 (by decide) ?_
              obtain rfl := Option.some.inj hf
              exact ow_retI C0 hP hD hS dX3_nameOf_65
          · replace hf := ow_f hc hf
            refine lv_iconst (v := 4) hx hb dX3_nameOf_53 (by decide) ?_
            obtain rfl := Option.some.inj hf
            exact ow_retI C0 hP hD hS dX3_nameOf_54
        · replace hf := ow_f hc hf
          refine lv_iconst (v := 3) hx hb dX3_nameOf_42 (by decide) ?_
          obtain rfl := Option.some.inj hf
          exact ow_retI C0 hP hD hS dX3_nameOf_43
      · replace hf := ow_f hc hf
        refine lv_iconst (v := 2) hx hb dX3_nameOf_31 (by decide) ?_
        obtain rfl := Option.some.inj hf
        exact ow_retI C0 hP hD hS dX3_nameOf_32
    · replace hf := ow_f hc hf
      refine lv_iconst (v := 1) hx hb dX3_nameOf_20 (by decide) ?_
      obtain rfl := Option.some.inj hf
      exact ow_retI C0 hP hD hS dX3_nameOf_21
  · replace hf := ow_f hc hf
    refine lv_iconst (v := 0) hx hb dX3_nameOf_9 (by decide) ?_
    obtain rfl := Option.some.inj hf
    exact ow_retI C0 hP hD hS dX3_nameOf_10

abbrev W_X6_clauseOf (cs : Nat → ClassId) (a0 : Nat) (p0 : Nat → Nat) (i0_1 : Int32) (i0_2 : Int32) (i0_3 : Int32) (i0_4 : Int32) (i0_5 : Int32) (i0_6 : Int32) (i0_7 : Int32) (i0_8 : Int32) (v0_0 : Nat → Int32) : va_W := wX7 cs a0 p0 i0_1 i0_2 i0_3 i0_4 i0_5 i0_6 i0_7 i0_8 v0_0
abbrev rm_X6_clauseOf : Room := { frames := 9, cells := 0, slots := 0, locals := 222 }
def f_X6_clauseOf  (i0_3 : Int32) (i0_4 : Int32) (i0_5 : Int32) (v0_0 : Nat → Int32)  : Option (Int32) := (f_X7_isWord i0_3 i0_4 i0_5 v0_0 0).bind fun q3 => if q3 = 0 then ((f_X7_isWord i0_3 i0_4 i0_5 v0_0 1).bind fun q14 => if q14 = 0 then ((f_X7_isWord i0_3 i0_4 i0_5 v0_0 2).bind fun q25 => if q25 = 0 then ((f_X7_isWord i0_3 i0_4 i0_5 v0_0 3).bind fun q36 => if q36 = 0 then ((f_X7_isWord i0_3 i0_4 i0_5 v0_0 4).bind fun q47 => if q47 = 0 then (some ((-1))) else (some (4))) else (some (3))) else (some (2))) else (some (1))) else (some (0))
set_option maxHeartbeats 4000000 in
set_option maxRecDepth 100000 in
theorem c_X6_clauseOf (l : Launch) (D : va_G) (cs : Nat → ClassId)  (sz : Nat) (a0 : Nat) (p0 : Nat → Nat) (i0_1 : Int32) (i0_2 : Int32) (i0_3 : Int32) (i0_4 : Int32) (i0_5 : Int32) (i0_6 : Int32) (i0_7 : Int32) (i0_8 : Int32) (v0_0 : Nat → Int32)  (res : Int32) (hf : f_X6_clauseOf  i0_3 i0_4 i0_5 v0_0  = some res) : MI l D cs yX6_clauseOf wsX6_clauseOf rm_X6_clauseOf [.ref a0] sz (W_X6_clauseOf cs a0 p0 i0_1 i0_2 i0_3 i0_4 i0_5 i0_6 i0_7 i0_8 v0_0) (W_X6_clauseOf cs a0 p0 i0_1 i0_2 i0_3 i0_4 i0_5 i0_6 i0_7 i0_8 v0_0) res := by
  rw [f_X6_clauseOf] at hf
  refine ow_enter (cc := cX6_clauseOf) (nL := 1) (ret := (some .int)) (by decide) rfl (Nat.le_of_ble_eq_true rfl) (fun p e s m below meth c ls H locs C0 hP hD hS hA hl => ?_)
  obtain ⟨hx, hb, hr, hlk, hml, hown, hts, hK, hG, hE⟩ := id C0
  have hl : lv_has ls 1 [(0, .ref a0)] := hl
  refine lv_aload_n hx hb dX6_clauseOf_0 rfl (lv_at hl 0 rfl) ?_
  refine va_ldcS (own := RX6) (tx := "pane") (q := D.2 100 0) hx hb hown (hG.2.2 (RX6, 103, "pane", 0) (List.mem_of_getElem? (i := 0) rfl)) dX6_clauseOf_1 ?_
  obtain ⟨q3, hq, hf⟩ := bd_some hf
  refine ow_callVI (As := [.ref (D.2 100 0)]) (rest := []) (wr := ow_pk (W_X6_clauseOf cs a0 p0 i0_1 i0_2 i0_3 i0_4 i0_5 i0_6 i0_7 i0_8 v0_0) []) (wf := (W_X6_clauseOf cs a0 p0 i0_1 i0_2 i0_3 i0_4 i0_5 i0_6 i0_7 i0_8 v0_0)) (r := q3) C0 (c_X7_isWord l D cs H.size a0 p0 i0_1 i0_2 i0_3 i0_4 i0_5 i0_6 i0_7 i0_8 v0_0 0 (by decide)  q3 hq) (cwV 1 hts gX6_clauseOf_X7_isWord rfl rfl rfl (by decide +kernel) ⟨Nat.le_of_ble_eq_true rfl, Nat.le_of_ble_eq_true rfl⟩) 7 rfl rfl hP hD hS (fun q h => Or.inr h) [0, 1] [] [0, 1] rfl (by decide) rfl (by decide) (by decide) rfl (by decide) rfl hl.1 rfl (Nat.le_of_ble_eq_true rfl) ⟨Nat.zero_le _, Nat.zero_le _⟩ dX6_clauseOf_3 (fun H locs hP hD hS => ?_)
  refine lv_if_eq (tgt := 11) hx hb dX6_clauseOf_6 (by decide) (fun hc => ?_) (fun hc => ?_)
  · replace hf := ow_t hc hf
    refine lv_aload_n hx hb dX6_clauseOf_11 rfl (lv_at hl 0 rfl) ?_
    refine va_ldcS (own := RX6) (tx := "rain") (q := D.2 100 1) hx hb hown (hG.2.2 (RX6, 109, "rain", 1) (List.mem_of_getElem? (i := 1) rfl)) dX6_clauseOf_12 ?_
    obtain ⟨q14, hq, hf⟩ := bd_some hf
    refine ow_callVI (As := [.ref (D.2 100 1)]) (rest := []) (wr := ow_pk (W_X6_clauseOf cs a0 p0 i0_1 i0_2 i0_3 i0_4 i0_5 i0_6 i0_7 i0_8 v0_0) []) (wf := (W_X6_clauseOf cs a0 p0 i0_1 i0_2 i0_3 i0_4 i0_5 i0_6 i0_7 i0_8 v0_0)) (r := q14) C0 (c_X7_isWord l D cs H.size a0 p0 i0_1 i0_2 i0_3 i0_4 i0_5 i0_6 i0_7 i0_8 v0_0 1 (by decide)  q14 hq) (cwV 1 hts gX6_clauseOf_X7_isWord rfl rfl rfl (by decide +kernel) ⟨Nat.le_of_ble_eq_true rfl, Nat.le_of_ble_eq_true rfl⟩) 7 rfl rfl hP hD hS (fun q h => Or.inr h) [0, 1] [] [0, 1] rfl (by decide) rfl (by decide) (by decide) rfl (by decide) rfl hl.1 rfl (Nat.le_of_ble_eq_true rfl) ⟨Nat.zero_le _, Nat.zero_le _⟩ dX6_clauseOf_14 (fun H locs hP hD hS => ?_)
    refine lv_if_eq (tgt := 22) hx hb dX6_clauseOf_17 (by decide) (fun hc => ?_) (fun hc => ?_)
    · replace hf := ow_t hc hf
      refine lv_aload_n hx hb dX6_clauseOf_22 rfl (lv_at hl 0 rfl) ?_
      refine va_ldcS (own := RX6) (tx := "order") (q := D.2 100 2) hx hb hown (hG.2.2 (RX6, 111, "order", 2) (List.mem_of_getElem? (i := 2) rfl)) dX6_clauseOf_23 ?_
      obtain ⟨q25, hq, hf⟩ := bd_some hf
      refine ow_callVI (As := [.ref (D.2 100 2)]) (rest := []) (wr := ow_pk (W_X6_clauseOf cs a0 p0 i0_1 i0_2 i0_3 i0_4 i0_5 i0_6 i0_7 i0_8 v0_0) []) (wf := (W_X6_clauseOf cs a0 p0 i0_1 i0_2 i0_3 i0_4 i0_5 i0_6 i0_7 i0_8 v0_0)) (r := q25) C0 (c_X7_isWord l D cs H.size a0 p0 i0_1 i0_2 i0_3 i0_4 i0_5 i0_6 i0_7 i0_8 v0_0 2 (by decide)  q25 hq) (cwV 1 hts gX6_clauseOf_X7_isWord rfl rfl rfl (by decide +kernel) ⟨Nat.le_of_ble_eq_true rfl, Nat.le_of_ble_eq_true rfl⟩) 7 rfl rfl hP hD hS (fun q h => Or.inr h) [0, 1] [] [0, 1] rfl (by decide) rfl (by decide) (by decide) rfl (by decide) rfl hl.1 rfl (Nat.le_of_ble_eq_true rfl) ⟨Nat.zero_le _, Nat.zero_le _⟩ dX6_clauseOf_25 (fun H locs hP hD hS => ?_)
      refine lv_if_eq (tgt := 33) hx hb dX6_clauseOf_28 (by decide) (fun hc => ?_) (fun hc => ?_)
      · replace hf := ow_t hc hf
        refine lv_aload_n hx hb dX6_clauseOf_33 rfl (lv_at hl 0 rfl) ?_
        refine va_ldcS (own := RX6) (tx := "pace") (q := D.2 100 3) hx hb hown (hG.2.2 (RX6, 112, "pace", 3) (List.mem_of_getElem? (i := 3) rfl)) dX6_clauseOf_34 ?_
        obtain ⟨q36, hq, hf⟩ := bd_some hf
        refine ow_callVI (As := [.ref (D.2 100 3)]) (rest := []) (wr := ow_pk (W_X6_clauseOf cs a0 p0 i0_1 i0_2 i0_3 i0_4 i0_5 i0_6 i0_7 i0_8 v0_0) []) (wf := (W_X6_clauseOf cs a0 p0 i0_1 i0_2 i0_3 i0_4 i0_5 i0_6 i0_7 i0_8 v0_0)) (r := q36) C0 (c_X7_isWord l D cs H.size a0 p0 i0_1 i0_2 i0_3 i0_4 i0_5 i0_6 i0_7 i0_8 v0_0 3 (by decide)  q36 hq) (cwV 1 hts gX6_clauseOf_X7_isWord rfl rfl rfl (by decide +kernel) ⟨Nat.le_of_ble_eq_true rfl, Nat.le_of_ble_eq_true rfl⟩) 7 rfl rfl hP hD hS (fun q h => Or.inr h) [0, 1] [] [0, 1] rfl (by decide) rfl (by decide) (by decide) rfl (by decide) rfl hl.1 rfl (Nat.le_of_ble_eq_true rfl) ⟨Nat.zero_le _, Nat.zero_le _⟩ dX6_clauseOf_36 (fun H locs hP hD hS => ?_)
        refine lv_if_eq (tgt := 44) hx hb dX6_clauseOf_39 (by decide) (fun hc => ?_) (fun hc => ?_)
        · replace hf := ow_t hc hf
          refine lv_aload_n hx hb dX6_clauseOf_44 rfl (lv_at hl 0 rfl) ?_
          refine va_ldcS (own := RX6) (tx := "hold") (q := D.2 100 4) hx hb hown (hG.2.2 (RX6, 114, "hold", 4) (List.mem_of_getElem? (i := 4) rfl)) dX6_clauseOf_45 ?_
          obtain ⟨q47, hq, hf⟩ := bd_some hf
          refine ow_callVI (As := [.ref (D.2 100 4)]) (rest := []) (wr := ow_pk (W_X6_clauseOf cs a0 p0 i0_1 i0_2 i0_3 i0_4 i0_5 i0_6 i0_7 i0_8 v0_0) []) (wf := (W_X6_clauseOf cs a0 p0 i0_1 i0_2 i0_3 i0_4 i0_5 i0_6 i0_7 i0_8 v0_0)) (r := q47) C0 (c_X7_isWord l D cs H.size a0 p0 i0_1 i0_2 i0_3 i0_4 i0_5 i0_6 i0_7 i0_8 v0_0 4 (by decide)  q47 hq) (cwV 1 hts gX6_clauseOf_X7_isWord rfl rfl rfl (by decide +kernel) ⟨Nat.le_of_ble_eq_true rfl, Nat.le_of_ble_eq_true rfl⟩) 7 rfl rfl hP hD hS (fun q h => Or.inr h) [0, 1] [] [0, 1] rfl (by decide) rfl (by decide) (by decide) rfl (by decide) rfl hl.1 rfl (Nat.le_of_ble_eq_true rfl) ⟨Nat.zero_le _, Nat.zero_le _⟩ dX6_clauseOf_47 (fun H locs hP hD hS => ?_)
          refine lv_if_eq (tgt := 57) hx hb dX6_clauseOf_50 (by decide) (fun hc => ?_) (fun hc => ?_)
          · replace hf := ow_t hc hf
            refine lv_iconst (v := (-1)) hx hb dX6_clauseOf_57 (by decide) ?_
            obtain rfl := Option.some.inj hf
            exact ow_retI C0 hP hD hS dX6_clauseOf_58
          · replace hf := ow_f hc hf
            refine lv_iconst (v := 4) hx hb dX6_clauseOf_53 (by decide) ?_
            refine lv_goto (tgt := 58) hx hb dX6_clauseOf_54 (by decide) ?_
            obtain rfl := Option.some.inj hf
            exact ow_retI C0 hP hD hS dX6_clauseOf_58
        · replace hf := ow_f hc hf
          refine lv_iconst (v := 3) hx hb dX6_clauseOf_42 (by decide) ?_
          obtain rfl := Option.some.inj hf
          exact ow_retI C0 hP hD hS dX6_clauseOf_43
      · replace hf := ow_f hc hf
        refine lv_iconst (v := 2) hx hb dX6_clauseOf_31 (by decide) ?_
        obtain rfl := Option.some.inj hf
        exact ow_retI C0 hP hD hS dX6_clauseOf_32
    · replace hf := ow_f hc hf
      refine lv_iconst (v := 1) hx hb dX6_clauseOf_20 (by decide) ?_
      obtain rfl := Option.some.inj hf
      exact ow_retI C0 hP hD hS dX6_clauseOf_21
  · replace hf := ow_f hc hf
    refine lv_iconst (v := 0) hx hb dX6_clauseOf_9 (by decide) ?_
    obtain rfl := Option.some.inj hf
    exact ow_retI C0 hP hD hS dX6_clauseOf_10

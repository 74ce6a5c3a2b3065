/-! what is owed of a call of the law, by its kind -/
def pOp (J : CS → RS → Nat → Nat → Prop) (C : CS) (R : RS) (xs : Nat → Int32) (i cells slots : Nat) : Nat → Prop
  | 0 => pS_feed J C R (xs (i + 1)) (xs (i + 2)) (xs (i + 3)) (xs (i + 4)) (xs (i + 5)) cells slots
  | 1 => pS_street J C R (xs (i + 1)) cells slots
  | 2 => pS_law J C R (xs (i + 1)) cells slots
  | 3 => pS_work J C R (xs (i + 1)) cells slots
  | 4 => pS_book J C R (xs (i + 1)) cells slots
  | 5 => pS_fault J C R cells slots
  | 6 => pS_undo J C R cells slots
  | 7 => pS_told J C R (xs (i + 1)) cells slots
  | 8 => pS_pane J C R (xs (i + 1)) (xs (i + 2)) cells slots
  | 9 => pS_shows J C R (xs (i + 1)) (xs (i + 2)) (xs (i + 3)) cells slots
  | 10 => pS_deep J C R (xs (i + 1)) (xs (i + 2)) (xs (i + 3)) cells slots
  | 11 => pS_film J C R (xs (i + 1)) (xs (i + 2)) (xs (i + 3)) (xs (i + 4)) cells slots
  | 12 => pS_films J C R (xs (i + 1)) (xs (i + 2)) cells slots
  | 13 => pS_have J C R (xs (i + 1)) (xs (i + 2)) cells slots
  | 14 => pS_showing J C R (xs (i + 1)) (xs (i + 2)) cells slots
  | 15 => pS_settles J C R (xs (i + 1)) (xs (i + 2)) (xs (i + 3)) cells slots
  | 16 => pS_order J C R (xs (i + 1)) (xs (i + 2)) cells slots
  | 17 => pS_needs J C R (xs (i + 1)) cells slots
  | 18 => pS_lost J C R cells slots
  | 19 => pS_cost J C R (xs (i + 1)) (xs (i + 2)) (xs (i + 3)) cells slots
  | 20 => pS_view J C R (xs (i + 1)) (xs (i + 2)) (xs (i + 3)) cells slots
  | 21 => pS_seams J C R (xs (i + 1)) cells slots
  | 22 => pS_sights J C R (xs (i + 1)) cells slots
  | 23 => pS_alike J C R (xs (i + 1)) (xs (i + 2)) cells slots
  | 24 => pS_oldest J C R (xs (i + 1)) (xs (i + 2)) cells slots
  | 25 => pS_thick J C R cells slots
  | 26 => pS_patch J C R (xs (i + 1)) (xs (i + 2)) cells slots
  | 27 => pS_tells J C R (xs (i + 1)) cells slots
  | 28 => pS_look J C R (xs (i + 1)) (xs (i + 2)) cells slots
  | 29 => pS_cover J C R (xs (i + 1)) (xs (i + 2)) (xs (i + 3)) (xs (i + 4)) cells slots
  | 30 => pS_game J C R (xs (i + 1)) (xs (i + 2)) (xs (i + 3)) cells slots
  | 31 => pS_round J C R (xs (i + 1)) (xs (i + 2)) cells slots
  | 32 => pS_by J C R (xs (i + 1)) (xs (i + 2)) cells slots
  | 33 => pS_share J C R (xs (i + 1)) (xs (i + 2)) (xs (i + 3)) (xs (i + 4)) cells slots
  | 34 => pS_ahead J C R (xs (i + 1)) (xs (i + 2)) (xs (i + 3)) cells slots
  | 35 => pS_decade J C R (xs (i + 1)) (xs (i + 2)) (xs (i + 3)) (xs (i + 4)) cells slots
  | 36 => pS_span J C R (xs (i + 1)) (xs (i + 2)) (xs (i + 3)) (xs (i + 4)) (xs (i + 5)) (xs (i + 6)) cells slots
  | 37 => pS_image J C R cells slots
  | 38 => pS_restore J C R cells slots
  | 39 => pS_status J C R (xs (i + 1)) cells slots
  | 40 => pS_count J C R (xs (i + 1)) cells slots
  | _ => True
set_option maxHeartbeats 4000000 in
theorem law_step {p : Program} {l : Launch} {e : Env} {s : State} {m : MethodId} {av : Array Value} {below : List Frame} {meth : Method} {c : Code} {D : va_G} {cs : Nat → ClassId} {Q : State → Prop} (C0 : Cx p s m meth c av lw_tbl code 7 (some .boolean) RL D cs []) (hN : gN s) (hC : gC s) (hl0 : l.stackTraces = false) {b L : Nat} {xs : Nat → Int32} (hX : va_X b L xs s s.heap) (hbl : b < s.heap.size) (hL : L ≤ 3584) {x mo o : Nat} (i : Nat) (hi : i + 7 ≤ L) (J : CS → RS → Nat → Nat → Prop) (C : CS) (R : RS) (cells slots : Nat) (v : Nat → Int64) (H : Heap) (locs : List Loc) (ls : Array Slot) (hs : lwS D cs s b x mo o i C R v H locs ls) (kk : ∀ (C : CS) (R : RS) (cells slots : Nat) (v : Nat → Int64) (H : Heap) (locs : List Loc) (ls : Array Slot), J C R cells slots → lwS D cs s b x mo o i C R v H locs ls → W p l e room_1 s m av below meth c H locs cells slots Q (F0 m 2733 ls [])) (hp : ∀ k, k ≤ 40 → xs i &&& 63 = nI k → pOp J C R xs i cells slots k) (hd : J C R cells slots) : W p l e room_1 s m av below meth c H locs cells slots Q (F0 m 33 ls []) := by
  obtain ⟨hx, hb, hr, hlk, hml, hown, hts, hK0, hG, hE⟩ := id C0
  obtain ⟨ha, hm, hP, hD, hS, hl⟩ := id hs
  refine lv_aload_n hx hb dL_law__33 rfl (lv_at hl 0 rfl) ?_
  refine lv_iload hx hb dL_law__34 (lv_at hl 4 rfl) ?_
  refine ow_scr C0 hX hbl hS (vp_in_nI (by omega) (by omega)) dL_law__36 ?_
  rw [nI_clamp (by omega)]
  refine lv_bipush (v := 63) hx hb dL_law__37 (by decide) ?_
  refine lv_iand hx hb dL_law__39 ?_
  generalize hz : xs i &&& 63 = z
  by_cases h9 : z.toInt < 0 ∨ 40 < z.toInt
  · refine lv_tableOut (tgt := 2733) hx hb dL_law__40 h9 (by decide) ?_
    exact kk C R cells slots v H locs ls hd hs
  · obtain ⟨k, hk, rfl⟩ : ∃ k, k ≤ 40 ∧ z = nI k := by
      refine ⟨z.toInt.toNat, by omega, ?_⟩
      refine Int32.toInt_inj.mp ?_
      rw [show (nI z.toInt.toNat).toInt = ((z.toInt.toNat : Nat) : Int) from Int32.toInt_ofNat_of_lt (by omega)]
      omega
    have hp := hp k hk hz
    match k, hk with
    | 0, _ => exact lv_tableIn (tgt := 220) hx hb dL_law__40 (by decide) (by decide) rfl (by decide) (ls_0 C0 hN hC hl0 hX hbl hL i hi J C R cells slots v H locs ls hs kk hp)
    | 1, _ => exact lv_tableIn (tgt := 293) hx hb dL_law__40 (by decide) (by decide) rfl (by decide) (ls_1 C0 hN hC hl0 hX hbl hL i hi J C R cells slots v H locs ls hs kk hp)
    | 2, _ => exact lv_tableIn (tgt := 349) hx hb dL_law__40 (by decide) (by decide) rfl (by decide) (ls_2 C0 hN hC hl0 hX hbl hL i hi J C R cells slots v H locs ls hs kk hp)
    | 3, _ => exact lv_tableIn (tgt := 405) hx hb dL_law__40 (by decide) (by decide) rfl (by decide) (ls_3 C0 hN hC hl0 hX hbl hL i hi J C R cells slots v H locs ls hs kk hp)
    | 4, _ => exact lv_tableIn (tgt := 461) hx hb dL_law__40 (by decide) (by decide) rfl (by decide) (ls_4 C0 hN hC hl0 hX hbl hL i hi J C R cells slots v H locs ls hs kk hp)
    | 5, _ => exact lv_tableIn (tgt := 517) hx hb dL_law__40 (by decide) (by decide) rfl (by decide) (ls_5 C0 hN hC hl0 hX hbl hL i hi J C R cells slots v H locs ls hs kk hp)
    | 6, _ => exact lv_tableIn (tgt := 530) hx hb dL_law__40 (by decide) (by decide) rfl (by decide) (ls_6 C0 hN hC hl0 hX hbl hL i hi J C R cells slots v H locs ls hs kk hp)
    | 7, _ => exact lv_tableIn (tgt := 543) hx hb dL_law__40 (by decide) (by decide) rfl (by decide) (ls_7 C0 hN hC hl0 hX hbl hL i hi J C R cells slots v H locs ls hs kk hp)
    | 8, _ => exact lv_tableIn (tgt := 599) hx hb dL_law__40 (by decide) (by decide) rfl (by decide) (ls_8 C0 hN hC hl0 hX hbl hL i hi J C R cells slots v H locs ls hs kk hp)
    | 9, _ => exact lv_tableIn (tgt := 667) hx hb dL_law__40 (by decide) (by decide) rfl (by decide) (ls_9 C0 hN hC hl0 hX hbl hL i hi J C R cells slots v H locs ls hs kk hp)
    | 10, _ => exact lv_tableIn (tgt := 747) hx hb dL_law__40 (by decide) (by decide) rfl (by decide) (ls_10 C0 hN hC hl0 hX hbl hL i hi J C R cells slots v H locs ls hs kk hp)
    | 11, _ => exact lv_tableIn (tgt := 827) hx hb dL_law__40 (by decide) (by decide) rfl (by decide) (ls_11 C0 hN hC hl0 hX hbl hL i hi J C R cells slots v H locs ls hs kk hp)
    | 12, _ => exact lv_tableIn (tgt := 919) hx hb dL_law__40 (by decide) (by decide) rfl (by decide) (ls_12 C0 hN hC hl0 hX hbl hL i hi J C R cells slots v H locs ls hs kk hp)
    | 13, _ => exact lv_tableIn (tgt := 987) hx hb dL_law__40 (by decide) (by decide) rfl (by decide) (ls_13 C0 hN hC hl0 hX hbl hL i hi J C R cells slots v H locs ls hs kk hp)
    | 14, _ => exact lv_tableIn (tgt := 1055) hx hb dL_law__40 (by decide) (by decide) rfl (by decide) (ls_14 C0 hN hC hl0 hX hbl hL i hi J C R cells slots v H locs ls hs kk hp)
    | 15, _ => exact lv_tableIn (tgt := 1123) hx hb dL_law__40 (by decide) (by decide) rfl (by decide) (ls_15 C0 hN hC hl0 hX hbl hL i hi J C R cells slots v H locs ls hs kk hp)
    | 16, _ => exact lv_tableIn (tgt := 1210) hx hb dL_law__40 (by decide) (by decide) rfl (by decide) (ls_16 C0 hN hC hl0 hX hbl hL i hi J C R cells slots v H locs ls hs kk hp)
    | 17, _ => exact lv_tableIn (tgt := 1278) hx hb dL_law__40 (by decide) (by decide) rfl (by decide) (ls_17 C0 hN hC hl0 hX hbl hL i hi J C R cells slots v H locs ls hs kk hp)
    | 18, _ => exact lv_tableIn (tgt := 1334) hx hb dL_law__40 (by decide) (by decide) rfl (by decide) (ls_18 C0 hN hC hl0 hX hbl hL i hi J C R cells slots v H locs ls hs kk hp)
    | 19, _ => exact lv_tableIn (tgt := 1347) hx hb dL_law__40 (by decide) (by decide) rfl (by decide) (ls_19 C0 hN hC hl0 hX hbl hL i hi J C R cells slots v H locs ls hs kk hp)
    | 20, _ => exact lv_tableIn (tgt := 1427) hx hb dL_law__40 (by decide) (by decide) rfl (by decide) (ls_20 C0 hN hC hl0 hX hbl hL i hi J C R cells slots v H locs ls hs kk hp)
    | 21, _ => exact lv_tableIn (tgt := 1507) hx hb dL_law__40 (by decide) (by decide) rfl (by decide) (ls_21 C0 hN hC hl0 hX hbl hL i hi J C R cells slots v H locs ls hs kk hp)
    | 22, _ => exact lv_tableIn (tgt := 1563) hx hb dL_law__40 (by decide) (by decide) rfl (by decide) (ls_22 C0 hN hC hl0 hX hbl hL i hi J C R cells slots v H locs ls hs kk hp)
    | 23, _ => exact lv_tableIn (tgt := 1619) hx hb dL_law__40 (by decide) (by decide) rfl (by decide) (ls_23 C0 hN hC hl0 hX hbl hL i hi J C R cells slots v H locs ls hs kk hp)
    | 24, _ => exact lv_tableIn (tgt := 1687) hx hb dL_law__40 (by decide) (by decide) rfl (by decide) (ls_24 C0 hN hC hl0 hX hbl hL i hi J C R cells slots v H locs ls hs kk hp)
    | 25, _ => exact lv_tableIn (tgt := 1755) hx hb dL_law__40 (by decide) (by decide) rfl (by decide) (ls_25 C0 hN hC hl0 hX hbl hL i hi J C R cells slots v H locs ls hs kk hp)
    | 26, _ => exact lv_tableIn (tgt := 1768) hx hb dL_law__40 (by decide) (by decide) rfl (by decide) (ls_26 C0 hN hC hl0 hX hbl hL i hi J C R cells slots v H locs ls hs kk hp)
    | 27, _ => exact lv_tableIn (tgt := 1836) hx hb dL_law__40 (by decide) (by decide) rfl (by decide) (ls_27 C0 hN hC hl0 hX hbl hL i hi J C R cells slots v H locs ls hs kk hp)
    | 28, _ => exact lv_tableIn (tgt := 1892) hx hb dL_law__40 (by decide) (by decide) rfl (by decide) (ls_28 C0 hN hC hl0 hX hbl hL i hi J C R cells slots v H locs ls hs kk hp)
    | 29, _ => exact lv_tableIn (tgt := 1960) hx hb dL_law__40 (by decide) (by decide) rfl (by decide) (ls_29 C0 hN hC hl0 hX hbl hL i hi J C R cells slots v H locs ls hs kk hp)
    | 30, _ => exact lv_tableIn (tgt := 2052) hx hb dL_law__40 (by decide) (by decide) rfl (by decide) (ls_30 C0 hN hC hl0 hX hbl hL i hi J C R cells slots v H locs ls hs kk hp)
    | 31, _ => exact lv_tableIn (tgt := 2132) hx hb dL_law__40 (by decide) (by decide) rfl (by decide) (ls_31 C0 hN hC hl0 hX hbl hL i hi J C R cells slots v H locs ls hs kk hp)
    | 32, _ => exact lv_tableIn (tgt := 2200) hx hb dL_law__40 (by decide) (by decide) rfl (by decide) (ls_32 C0 hN hC hl0 hX hbl hL i hi J C R cells slots v H locs ls hs kk hp)
    | 33, _ => exact lv_tableIn (tgt := 2275) hx hb dL_law__40 (by decide) (by decide) rfl (by decide) (ls_33 C0 hN hC hl0 hX hbl hL i hi J C R cells slots v H locs ls hs kk hp)
    | 34, _ => exact lv_tableIn (tgt := 2367) hx hb dL_law__40 (by decide) (by decide) rfl (by decide) (ls_34 C0 hN hC hl0 hX hbl hL i hi J C R cells slots v H locs ls hs kk hp)
    | 35, _ => exact lv_tableIn (tgt := 2447) hx hb dL_law__40 (by decide) (by decide) rfl (by decide) (ls_35 C0 hN hC hl0 hX hbl hL i hi J C R cells slots v H locs ls hs kk hp)
    | 36, _ => exact lv_tableIn (tgt := 2539) hx hb dL_law__40 (by decide) (by decide) rfl (by decide) (ls_36 C0 hN hC hl0 hX hbl hL i hi J C R cells slots v H locs ls hs kk hp)
    | 37, _ => exact lv_tableIn (tgt := 2657) hx hb dL_law__40 (by decide) (by decide) rfl (by decide) (ls_37 C0 hN hC hl0 hX hbl hL i hi J C R cells slots v H locs ls hs kk hp)
    | 38, _ => exact lv_tableIn (tgt := 2670) hx hb dL_law__40 (by decide) (by decide) rfl (by decide) (ls_38 C0 hN hC hl0 hX hbl hL i hi J C R cells slots v H locs ls hs kk hp)
    | 39, _ => exact lv_tableIn (tgt := 2683) hx hb dL_law__40 (by decide) (by decide) rfl (by decide) (ls_39 C0 hN hC hl0 hX hbl hL i hi J C R cells slots v H locs ls hs kk hp)
    | 40, _ => exact lv_tableIn (tgt := 2708) hx hb dL_law__40 (by decide) (by decide) rfl (by decide) (ls_40 C0 hN hC hl0 hX hbl hL i hi J C R cells slots v H locs ls hs kk hp)
    | k + 41, h => omega

/-! the law's loop, over any invariant I of the two states and of the room used -/
theorem lw_cmp {L i : Nat} (hL : L ≤ 3584) (hi : i ≤ 7000) : (Int32.ofNat L - 7 < nI i) ↔ L < i + 7 := by
  rw [Int32.lt_iff_toInt_lt, Int32.toInt_sub, Int32.toInt_ofNat_of_lt (by omega), show (nI i).toInt = (i : Int) from Int32.toInt_ofNat_of_lt (by omega), show (7 : Int32).toInt = 7 from rfl, Int.bmod_eq_of_le (by omega) (by omega)]
  omega
abbrev lwS (D : va_G) (cs : Nat → ClassId) (s : State) (b x mo o : Nat) (i : Nat) (C : CS) (R : RS) (v : Nat → Int64) (H : Heap) (locs : List Loc) (ls : Array Slot) : Prop :=
  C.a = x ∧ R.a = mo ∧ va_P D vwCl [(cW cs C).flatten, (rW cs R).flatten, [oCell cs o v]].flatten H ∧ va_D (va_A [] s.heap.size) [(cW cs C).flatten, (rW cs R).flatten, [oCell cs o v]].flatten ∧ va_S (va_A [] s.heap.size) s.heap H locs ∧ lv_has ls 7 [(0, .ref b), (1, .ref x), (2, .ref mo), (3, .ref o), (4, .int (nI i))]
theorem law_loop {p : Program} {l : Launch} {e : Env} {s : State} {m : MethodId} {av : Array Value} {below : List Frame} {meth : Method} {c : Code} {D : va_G} {cs : Nat → ClassId} {Q : State → Prop} (C0 : Cx p s m meth c av lw_tbl code 7 (some .boolean) RL D cs []) {b L : Nat} {xs : Nat → Int32} (hX : va_X b L xs s s.heap) (hbl : b < s.heap.size) (hL : L ≤ 3584) {x mo o : Nat} (I : Nat → CS → RS → Nat → Nat → Prop)
    (hstep : ∀ (i : Nat) (C : CS) (R : RS) (cells slots : Nat) (v : Nat → Int64) (H : Heap) (locs : List Loc) (ls : Array Slot), i + 7 ≤ L → I i C R cells slots → lwS D cs s b x mo o i C R v H locs ls →
      (∀ (C : CS) (R : RS) (cells slots : Nat) (v : Nat → Int64) (H : Heap) (locs : List Loc) (ls : Array Slot), I (i + 7) C R cells slots → lwS D cs s b x mo o i C R v H locs ls → W p l e room_1 s m av below meth c H locs cells slots Q (F0 m 2733 ls [])) →
      W p l e room_1 s m av below meth c H locs cells slots Q (F0 m 33 ls []))
    (hend : ∀ (i : Nat) (C : CS) (R : RS) (cells slots : Nat) (H : Heap) (locs : List Loc) (ls : Array Slot), i ≤ L → I i C R cells slots → va_S (va_A [] s.heap.size) s.heap H locs → W p l e room_1 s m av below meth c H locs cells slots Q (F0 m 2739 ls [])) :
    ∀ (n i : Nat) (C : CS) (R : RS) (cells slots : Nat) (v : Nat → Int64) (H : Heap) (locs : List Loc) (ls : Array Slot), L < i + n → i ≤ L → I i C R cells slots → lwS D cs s b x mo o i C R v H locs ls → W p l e room_1 s m av below meth c H locs cells slots Q (F0 m 23 ls []) := by
  obtain ⟨hx, hb, hr, hlk, hml, hown, hts, hK0, hG, hE⟩ := id C0
  have hbA : ¬ va_A [] s.heap.size b := by
    intro h
    rcases h with ⟨k, e, h⟩ | h
    · cases h
    · omega
  intro n
  induction n with
  | zero => intro i C R cells slots v H locs ls h1 h2; omega
  | succ n ih =>
    intro i C R cells slots v H locs ls h1 h2 hI hs
    obtain ⟨ha, hm, hP, hD, hS, hl⟩ := id hs
    refine lv_iload hx hb dL_law__23 (lv_at hl 4 rfl) ?_
    refine lv_aload_n hx hb dL_law__25 rfl (lv_at hl 0 rfl) ?_
    refine va_slen hx hb hX hbl hbA hS dL_law__26 ?_
    refine lv_bipush (v := 7) hx hb dL_law__27 (by decide) ?_
    refine lv_isub hx hb dL_law__29 ?_
    refine lv_icmp_gt (tgt := 2739) hx hb dL_law__30 (by decide) (fun hc => ?_) (fun hc => ?_)
    · exact hend i C R cells slots H locs ls h2 hI hS
    · have hc2 : i + 7 ≤ L := by
        rw [lw_cmp hL (by omega)] at hc
        omega
      refine hstep i C R cells slots v H locs ls hc2 hI hs (fun C R cells slots v H locs ls hI hs => ?_)
      obtain ⟨ha, hm, hP, hD, hS, hl⟩ := id hs
      refine lv_iinc (v := nI (i + 7)) (lv' := [(4, .int (nI (i + 7))), (0, .ref b), (1, .ref x), (2, .ref mo), (3, .ref o)]) hx hb dL_law__2733 hl (k := 4) rfl (by rw [show Int32.ofInt 7 = nI 7 from rfl, nI_add]) (by decide) rfl (fun ls hl => ?_)
      refine lv_goto (tgt := 23) hx hb dL_law__2736 (by decide) ?_
      exact ih (i + 7) C R cells slots v H locs ls (by omega) hc2 hI ⟨ha, hm, hP, hD, hS, lv_sub hl [1, 2, 3, 4, 0] rfl⟩

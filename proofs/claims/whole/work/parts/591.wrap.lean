set_option maxHeartbeats 4000000 in
set_option maxRecDepth 100000 in
theorem c_L_street (l : Launch) (D : va_G) (cs : Nat → ClassId) {S : Type} (sz x o : Nat) (x1 : Int32) (v : Nat → Int64) (w : va_W) (fs : List Value) (hw0 : w[0]? = some (x, .inr (10, fs))) (ok : S → Prop) (w' : S → va_W) (K : Nat) (r : Int32) (rmY : Room) (mc ms : Nat) (hc : rmY.cells = mc) (hs : rmY.slots = ms) (hf : rmY.frames ≤ 95) (hlo : rmY.locals ≤ 2300) (hK : K = 0 ∨ K = 1) (hM : ∀ sz, XS l D cs yX10_street wsX10_street rmY [.ref x, .int x1] sz w ok w' K r mc ms) : MW l D cs yL_street wsL_street (rmL mc ms) [.ref x, .int x1, .ref o] sz (w ++ [oCell cs o v]) ok (fun u => oCell cs o (if K = 0 then vp_updL v (0 : Int32).toNatClampNeg r.toInt64 else v) :: w' u) (if K = 1 then 1 else 0 : Int32) mc ms := by
  refine ow_enterH (S := S) (y := yL_street) (ws := wsL_street) (av := [.ref x, .int x1, .ref o]) (sz := sz) (w := w ++ [oCell cs o v]) (Qc := fun sz => va_Qi (fun x (u : S) => x = (if K = 1 then 1 else 0 : Int32) ∧ ok u) (fun u t => va_P D vwCl ((fun u => oCell cs o (if K = 0 then vp_updL v (0 : Int32).toNatClampNeg r.toInt64 else v) :: w' u) u) t.heap ∧ va_D (va_A (w ++ [oCell cs o v]) sz) ((fun u => oCell cs o (if K = 0 then vp_updL v (0 : Int32).toNatClampNeg r.toInt64 else v) :: w' u) u)) (va_A (w ++ [oCell cs o v]) sz)) (cc := cL_street) (nL := 4) (ret := some .int) (hh := [(0, 9, 12, 13)]) (by decide) rfl (Nat.le_of_ble_eq_true rfl) (fun p e s m below meth c ls H locs C0 hN hC ht hP hD hS hsz hl => ?_)
  obtain ⟨hx, hb, hr, hlk, hml, hown, hts, hK0, hG, hE⟩ := id C0
  have hl : lv_has ls 4 [(0, .ref x), (1, .int x1), (2, .ref o)] := hl
  refine lv_aload_n hx hb dL_street_0 rfl (lv_at hl 2 rfl) ?_
  refine lv_iconst (v := 0) hx hb dL_street_1 (by decide) ?_
  refine lv_aload_n hx hb dL_street_2 rfl (lv_at hl 0 rfl) ?_
  refine lv_iload_n hx hb dL_street_3 rfl (lv_at hl 1 rfl) ?_
  refine ow_wcall (As := [.int x1]) (rest := [.int 0, .ref o]) (k := K) (r := r) C0 hN (hM H.size) (cwV 1 hts gL_street_X10_street rfl hc hs (by decide +kernel) ⟨by show rmY.frames + 1 ≤ 100; omega, by show 8 + (_ + 11) + rmY.locals ≤ 2400; omega⟩) 10 rfl hw0 hP hD hS rfl hl.1 rfl (Nat.le_of_ble_eq_true rfl) ⟨by show 0 + mc ≤ mc; omega, by show 0 + ms ≤ ms; omega⟩ dL_street_4 (fun hk u q9 ce H1 locs1 hok hce hcv hcl hP hD hS => ?_) (fun hk u H locs hok hP hD hS => ?_)
  · rcases hK with rfl | rfl
    · exact absurd rfl hk
    · refine vx_catch (own := RL) (name := "java/lang/IllegalArgumentException") hown [] ⟨0, 9, 12, 13⟩ [] (ht.trans rfl) (fun _ h => nomatch h) (by decide) (by decide) (hts (.classLink RL 13 "java/lang/IllegalArgumentException") (List.mem_of_getElem? (i := 1) rfl)) (va_Nw.use rfl (hN.2.2.2.1 "java/lang/IllegalArgumentException" (by decide))) hce hcv hcl ?_
      refine lv_astore_n (lv' := [(3, .ref q9), (0, .ref x), (1, .int x1), (2, .ref o)]) hx hb dL_street_12 rfl hl (by decide) rfl (fun ls hl => ?_)
      refine lv_iconst (v := 1) hx hb dL_street_13 (by decide) ?_
      exact ow_wret C0 u hok rfl hP hD hS (by omega) (by omega) dL_street_14
  · subst hk
    refine lv_i2l (v := r.toInt64) hx hb dL_street_7 rfl ?_
    refine va_last (x := r.toInt64) hx hb hK0 hP hD hS 0 2 rfl rfl (vp_in_nI (n := 0) (by decide) (by decide)) dL_street_8 (fun H locs hP hD hS => ?_)
    refine lv_goto (tgt := 15) hx hb dL_street_9 (by decide) ?_
    refine lv_iconst (v := 0) hx hb dL_street_15 (by decide) ?_
    exact ow_wret C0 u hok rfl hP hD hS (by omega) (by omega) dL_street_16
set_option maxHeartbeats 4000000 in
set_option maxRecDepth 100000 in
theorem c_L_law (l : Launch) (D : va_G) (cs : Nat → ClassId) {S : Type} (sz x o : Nat) (x1 : Int32) (v : Nat → Int64) (w : va_W) (fs : List Value) (hw0 : w[0]? = some (x, .inr (10, fs))) (ok : S → Prop) (w' : S → va_W) (K : Nat) (r : Int32) (rmY : Room) (mc ms : Nat) (hc : rmY.cells = mc) (hs : rmY.slots = ms) (hf : rmY.frames ≤ 95) (hlo : rmY.locals ≤ 2300) (hK : K = 0 ∨ K = 1) (hM : ∀ sz, XS l D cs yX10_law wsX10_law rmY [.ref x, .int x1] sz w ok w' K r mc ms) : MW l D cs yL_law wsL_law (rmL mc ms) [.ref x, .int x1, .ref o] sz (w ++ [oCell cs o v]) ok (fun u => oCell cs o (if K = 0 then vp_updL v (0 : Int32).toNatClampNeg r.toInt64 else v) :: w' u) (if K = 1 then 1 else 0 : Int32) mc ms := by
  refine ow_enterH (S := S) (y := yL_law) (ws := wsL_law) (av := [.ref x, .int x1, .ref o]) (sz := sz) (w := w ++ [oCell cs o v]) (Qc := fun sz => va_Qi (fun x (u : S) => x = (if K = 1 then 1 else 0 : Int32) ∧ ok u) (fun u t => va_P D vwCl ((fun u => oCell cs o (if K = 0 then vp_updL v (0 : Int32).toNatClampNeg r.toInt64 else v) :: w' u) u) t.heap ∧ va_D (va_A (w ++ [oCell cs o v]) sz) ((fun u => oCell cs o (if K = 0 then vp_updL v (0 : Int32).toNatClampNeg r.toInt64 else v) :: w' u) u)) (va_A (w ++ [oCell cs o v]) sz)) (cc := cL_law) (nL := 4) (ret := some .int) (hh := [(0, 9, 12, 13)]) (by decide) rfl (Nat.le_of_ble_eq_true rfl) (fun p e s m below meth c ls H locs C0 hN hC ht hP hD hS hsz hl => ?_)
  obtain ⟨hx, hb, hr, hlk, hml, hown, hts, hK0, hG, hE⟩ := id C0
  have hl : lv_has ls 4 [(0, .ref x), (1, .int x1), (2, .ref o)] := hl
  refine lv_aload_n hx hb dL_law_0 rfl (lv_at hl 2 rfl) ?_
  refine lv_iconst (v := 0) hx hb dL_law_1 (by decide) ?_
  refine lv_aload_n hx hb dL_law_2 rfl (lv_at hl 0 rfl) ?_
  refine lv_iload_n hx hb dL_law_3 rfl (lv_at hl 1 rfl) ?_
  refine ow_wcall (As := [.int x1]) (rest := [.int 0, .ref o]) (k := K) (r := r) C0 hN (hM H.size) (cwV 1 hts gL_law_X10_law rfl hc hs (by decide +kernel) ⟨by show rmY.frames + 1 ≤ 100; omega, by show 8 + (_ + 11) + rmY.locals ≤ 2400; omega⟩) 10 rfl hw0 hP hD hS rfl hl.1 rfl (Nat.le_of_ble_eq_true rfl) ⟨by show 0 + mc ≤ mc; omega, by show 0 + ms ≤ ms; omega⟩ dL_law_4 (fun hk u q9 ce H1 locs1 hok hce hcv hcl hP hD hS => ?_) (fun hk u H locs hok hP hD hS => ?_)
  · rcases hK with rfl | rfl
    · exact absurd rfl hk
    · refine vx_catch (own := RL) (name := "java/lang/IllegalArgumentException") hown [] ⟨0, 9, 12, 13⟩ [] (ht.trans rfl) (fun _ h => nomatch h) (by decide) (by decide) (hts (.classLink RL 13 "java/lang/IllegalArgumentException") (List.mem_of_getElem? (i := 1) rfl)) (va_Nw.use rfl (hN.2.2.2.1 "java/lang/IllegalArgumentException" (by decide))) hce hcv hcl ?_
      refine lv_astore_n (lv' := [(3, .ref q9), (0, .ref x), (1, .int x1), (2, .ref o)]) hx hb dL_law_12 rfl hl (by decide) rfl (fun ls hl => ?_)
      refine lv_iconst (v := 1) hx hb dL_law_13 (by decide) ?_
      exact ow_wret C0 u hok rfl hP hD hS (by omega) (by omega) dL_law_14
  · subst hk
    refine lv_i2l (v := r.toInt64) hx hb dL_law_7 rfl ?_
    refine va_last (x := r.toInt64) hx hb hK0 hP hD hS 0 2 rfl rfl (vp_in_nI (n := 0) (by decide) (by decide)) dL_law_8 (fun H locs hP hD hS => ?_)
    refine lv_goto (tgt := 15) hx hb dL_law_9 (by decide) ?_
    refine lv_iconst (v := 0) hx hb dL_law_15 (by decide) ?_
    exact ow_wret C0 u hok rfl hP hD hS (by omega) (by omega) dL_law_16
set_option maxHeartbeats 4000000 in
set_option maxRecDepth 100000 in
theorem c_L_work (l : Launch) (D : va_G) (cs : Nat → ClassId) {S : Type} (sz x o : Nat) (x1 : Int32) (v : Nat → Int64) (w : va_W) (fs : List Value) (hw0 : w[0]? = some (x, .inr (10, fs))) (ok : S → Prop) (w' : S → va_W) (K : Nat) (r : Int32) (rmY : Room) (mc ms : Nat) (hc : rmY.cells = mc) (hs : rmY.slots = ms) (hf : rmY.frames ≤ 95) (hlo : rmY.locals ≤ 2300) (hK : K = 0 ∨ K = 1) (hM : ∀ sz, XS l D cs yX10_work wsX10_work rmY [.ref x, .int x1] sz w ok w' K r mc ms) : MW l D cs yL_work wsL_work (rmL mc ms) [.ref x, .int x1, .ref o] sz (w ++ [oCell cs o v]) ok (fun u => oCell cs o (if K = 0 then vp_updL v (0 : Int32).toNatClampNeg r.toInt64 else v) :: w' u) (if K = 1 then 1 else 0 : Int32) mc ms := by
  refine ow_enterH (S := S) (y := yL_work) (ws := wsL_work) (av := [.ref x, .int x1, .ref o]) (sz := sz) (w := w ++ [oCell cs o v]) (Qc := fun sz => va_Qi (fun x (u : S) => x = (if K = 1 then 1 else 0 : Int32) ∧ ok u) (fun u t => va_P D vwCl ((fun u => oCell cs o (if K = 0 then vp_updL v (0 : Int32).toNatClampNeg r.toInt64 else v) :: w' u) u) t.heap ∧ va_D (va_A (w ++ [oCell cs o v]) sz) ((fun u => oCell cs o (if K = 0 then vp_updL v (0 : Int32).toNatClampNeg r.toInt64 else v) :: w' u) u)) (va_A (w ++ [oCell cs o v]) sz)) (cc := cL_work) (nL := 4) (ret := some .int) (hh := [(0, 9, 12, 13)]) (by decide) rfl (Nat.le_of_ble_eq_true rfl) (fun p e s m below meth c ls H locs C0 hN hC ht hP hD hS hsz hl => ?_)
  obtain ⟨hx, hb, hr, hlk, hml, hown, hts, hK0, hG, hE⟩ := id C0
  have hl : lv_has ls 4 [(0, .ref x), (1, .int x1), (2, .ref o)] := hl
  refine lv_aload_n hx hb dL_work_0 rfl (lv_at hl 2 rfl) ?_
  refine lv_iconst (v := 0) hx hb dL_work_1 (by decide) ?_
  refine lv_aload_n hx hb dL_work_2 rfl (lv_at hl 0 rfl) ?_
  refine lv_iload_n hx hb dL_work_3 rfl (lv_at hl 1 rfl) ?_
  refine ow_wcall (As := [.int x1]) (rest := [.int 0, .ref o]) (k := K) (r := r) C0 hN (hM H.size) (cwV 1 hts gL_work_X10_work rfl hc hs (by decide +kernel) ⟨by show rmY.frames + 1 ≤ 100; omega, by show 8 + (_ + 11) + rmY.locals ≤ 2400; omega⟩) 10 rfl hw0 hP hD hS rfl hl.1 rfl (Nat.le_of_ble_eq_true rfl) ⟨by show 0 + mc ≤ mc; omega, by show 0 + ms ≤ ms; omega⟩ dL_work_4 (fun hk u q9 ce H1 locs1 hok hce hcv hcl hP hD hS => ?_) (fun hk u H locs hok hP hD hS => ?_)
  · rcases hK with rfl | rfl
    · exact absurd rfl hk
    · refine vx_catch (own := RL) (name := "java/lang/IllegalArgumentException") hown [] ⟨0, 9, 12, 13⟩ [] (ht.trans rfl) (fun _ h => nomatch h) (by decide) (by decide) (hts (.classLink RL 13 "java/lang/IllegalArgumentException") (List.mem_of_getElem? (i := 1) rfl)) (va_Nw.use rfl (hN.2.2.2.1 "java/lang/IllegalArgumentException" (by decide))) hce hcv hcl ?_
      refine lv_astore_n (lv' := [(3, .ref q9), (0, .ref x), (1, .int x1), (2, .ref o)]) hx hb dL_work_12 rfl hl (by decide) rfl (fun ls hl => ?_)
      refine lv_iconst (v := 1) hx hb dL_work_13 (by decide) ?_
      exact ow_wret C0 u hok rfl hP hD hS (by omega) (by omega) dL_work_14
  · subst hk
    refine lv_i2l (v := r.toInt64) hx hb dL_work_7 rfl ?_
    refine va_last (x := r.toInt64) hx hb hK0 hP hD hS 0 2 rfl rfl (vp_in_nI (n := 0) (by decide) (by decide)) dL_work_8 (fun H locs hP hD hS => ?_)
    refine lv_goto (tgt := 15) hx hb dL_work_9 (by decide) ?_
    refine lv_iconst (v := 0) hx hb dL_work_15 (by decide) ?_
    exact ow_wret C0 u hok rfl hP hD hS (by omega) (by omega) dL_work_16
set_option maxHeartbeats 4000000 in
set_option maxRecDepth 100000 in
theorem c_L_book (l : Launch) (D : va_G) (cs : Nat → ClassId) {S : Type} (sz x o : Nat) (x1 : Int32) (v : Nat → Int64) (w : va_W) (fs : List Value) (hw0 : w[0]? = some (x, .inr (10, fs))) (ok : S → Prop) (w' : S → va_W) (K : Nat) (r : Int32) (rmY : Room) (mc ms : Nat) (hc : rmY.cells = mc) (hs : rmY.slots = ms) (hf : rmY.frames ≤ 95) (hlo : rmY.locals ≤ 2300) (hK : K = 0 ∨ K = 1) (hM : ∀ sz, XS l D cs yX10_book wsX10_book rmY [.ref x, .int x1] sz w ok w' K r mc ms) : MW l D cs yL_book wsL_book (rmL mc ms) [.ref x, .int x1, .ref o] sz (w ++ [oCell cs o v]) ok (fun u => oCell cs o (if K = 0 then vp_updL v (0 : Int32).toNatClampNeg r.toInt64 else v) :: w' u) (if K = 1 then 1 else 0 : Int32) mc ms := by
  refine ow_enterH (S := S) (y := yL_book) (ws := wsL_book) (av := [.ref x, .int x1, .ref o]) (sz := sz) (w := w ++ [oCell cs o v]) (Qc := fun sz => va_Qi (fun x (u : S) => x = (if K = 1 then 1 else 0 : Int32) ∧ ok u) (fun u t => va_P D vwCl ((fun u => oCell cs o (if K = 0 then vp_updL v (0 : Int32).toNatClampNeg r.toInt64 else v) :: w' u) u) t.heap ∧ va_D (va_A (w ++ [oCell cs o v]) sz) ((fun u => oCell cs o (if K = 0 then vp_updL v (0 : Int32).toNatClampNeg r.toInt64 else v) :: w' u) u)) (va_A (w ++ [oCell cs o v]) sz)) (cc := cL_book) (nL := 4) (ret := some .int) (hh := [(0, 9, 12, 13)]) (by decide) rfl (Nat.le_of_ble_eq_true rfl) (fun p e s m below meth c ls H locs C0 hN hC ht hP hD hS hsz hl => ?_)
  obtain ⟨hx, hb, hr, hlk, hml, hown, hts, hK0, hG, hE⟩ := id C0
  have hl : lv_has ls 4 [(0, .ref x), (1, .int x1), (2, .ref o)] := hl
  refine lv_aload_n hx hb dL_book_0 rfl (lv_at hl 2 rfl) ?_
  refine lv_iconst (v := 0) hx hb dL_book_1 (by decide) ?_
  refine lv_aload_n hx hb dL_book_2 rfl (lv_at hl 0 rfl) ?_
  refine lv_iload_n hx hb dL_book_3 rfl (lv_at hl 1 rfl) ?_
  refine ow_wcall (As := [.int x1]) (rest := [.int 0, .ref o]) (k := K) (r := r) C0 hN (hM H.size) (cwV 1 hts gL_book_X10_book rfl hc hs (by decide +kernel) ⟨by show rmY.frames + 1 ≤ 100; omega, by show 8 + (_ + 11) + rmY.locals ≤ 2400; omega⟩) 10 rfl hw0 hP hD hS rfl hl.1 rfl (Nat.le_of_ble_eq_true rfl) ⟨by show 0 + mc ≤ mc; omega, by show 0 + ms ≤ ms; omega⟩ dL_book_4 (fun hk u q9 ce H1 locs1 hok hce hcv hcl hP hD hS => ?_) (fun hk u H locs hok hP hD hS => ?_)
  · rcases hK with rfl | rfl
    · exact absurd rfl hk
    · refine vx_catch (own := RL) (name := "java/lang/IllegalArgumentException") hown [] ⟨0, 9, 12, 13⟩ [] (ht.trans rfl) (fun _ h => nomatch h) (by decide) (by decide) (hts (.classLink RL 13 "java/lang/IllegalArgumentException") (List.mem_of_getElem? (i := 1) rfl)) (va_Nw.use rfl (hN.2.2.2.1 "java/lang/IllegalArgumentException" (by decide))) hce hcv hcl ?_
      refine lv_astore_n (lv' := [(3, .ref q9), (0, .ref x), (1, .int x1), (2, .ref o)]) hx hb dL_book_12 rfl hl (by decide) rfl (fun ls hl => ?_)
      refine lv_iconst (v := 1) hx hb dL_book_13 (by decide) ?_
      exact ow_wret C0 u hok rfl hP hD hS (by omega) (by omega) dL_book_14
  · subst hk
    refine lv_i2l (v := r.toInt64) hx hb dL_book_7 rfl ?_
    refine va_last (x := r.toInt64) hx hb hK0 hP hD hS 0 2 rfl rfl (vp_in_nI (n := 0) (by decide) (by decide)) dL_book_8 (fun H locs hP hD hS => ?_)
    refine lv_goto (tgt := 15) hx hb dL_book_9 (by decide) ?_
    refine lv_iconst (v := 0) hx hb dL_book_15 (by decide) ?_
    exact ow_wret C0 u hok rfl hP hD hS (by omega) (by omega) dL_book_16
set_option maxHeartbeats 4000000 in
set_option maxRecDepth 100000 in
theorem c_L_told (l : Launch) (D : va_G) (cs : Nat → ClassId) {S : Type} (sz x o : Nat) (x1 : Int32) (v : Nat → Int64) (w : va_W) (fs : List Value) (hw0 : w[0]? = some (x, .inr (10, fs))) (ok : S → Prop) (w' : S → va_W) (K : Nat) (r : Int32) (rmY : Room) (mc ms : Nat) (hc : rmY.cells = mc) (hs : rmY.slots = ms) (hf : rmY.frames ≤ 95) (hlo : rmY.locals ≤ 2300) (hK : K = 0 ∨ K = 1) (hM : ∀ sz, XS l D cs yX10_told wsX10_told rmY [.ref x, .int x1] sz w ok w' K r mc ms) : MW l D cs yL_told wsL_told (rmL mc ms) [.ref x, .int x1, .ref o] sz (w ++ [oCell cs o v]) ok (fun u => oCell cs o (if K = 0 then vp_updL v (0 : Int32).toNatClampNeg r.toInt64 else v) :: w' u) (if K = 1 then 1 else 0 : Int32) mc ms := by
  refine ow_enterH (S := S) (y := yL_told) (ws := wsL_told) (av := [.ref x, .int x1, .ref o]) (sz := sz) (w := w ++ [oCell cs o v]) (Qc := fun sz => va_Qi (fun x (u : S) => x = (if K = 1 then 1 else 0 : Int32) ∧ ok u) (fun u t => va_P D vwCl ((fun u => oCell cs o (if K = 0 then vp_updL v (0 : Int32).toNatClampNeg r.toInt64 else v) :: w' u) u) t.heap ∧ va_D (va_A (w ++ [oCell cs o v]) sz) ((fun u => oCell cs o (if K = 0 then vp_updL v (0 : Int32).toNatClampNeg r.toInt64 else v) :: w' u) u)) (va_A (w ++ [oCell cs o v]) sz)) (cc := cL_told) (nL := 4) (ret := some .int) (hh := [(0, 9, 12, 13)]) (by decide) rfl (Nat.le_of_ble_eq_true rfl) (fun p e s m below meth c ls H locs C0 hN hC ht hP hD hS hsz hl => ?_)
  obtain ⟨hx, hb, hr, hlk, hml, hown, hts, hK0, hG, hE⟩ := id C0
  have hl : lv_has ls 4 [(0, .ref x), (1, .int x1), (2, .ref o)] := hl
  refine lv_aload_n hx hb dL_told_0 rfl (lv_at hl 2 rfl) ?_
  refine lv_iconst (v := 0) hx hb dL_told_1 (by decide) ?_
  refine lv_aload_n hx hb dL_told_2 rfl (lv_at hl 0 rfl) ?_
  refine lv_iload_n hx hb dL_told_3 rfl (lv_at hl 1 rfl) ?_
  refine ow_wcall (As := [.int x1]) (rest := [.int 0, .ref o]) (k := K) (r := r) C0 hN (hM H.size) (cwV 1 hts gL_told_X10_told rfl hc hs (by decide +kernel) ⟨by show rmY.frames + 1 ≤ 100; omega, by show 8 + (_ + 11) + rmY.locals ≤ 2400; omega⟩) 10 rfl hw0 hP hD hS rfl hl.1 rfl (Nat.le_of_ble_eq_true rfl) ⟨by show 0 + mc ≤ mc; omega, by show 0 + ms ≤ ms; omega⟩ dL_told_4 (fun hk u q9 ce H1 locs1 hok hce hcv hcl hP hD hS => ?_) (fun hk u H locs hok hP hD hS => ?_)
  · rcases hK with rfl | rfl
    · exact absurd rfl hk
    · refine vx_catch (own := RL) (name := "java/lang/IllegalArgumentException") hown [] ⟨0, 9, 12, 13⟩ [] (ht.trans rfl) (fun _ h => nomatch h) (by decide) (by decide) (hts (.classLink RL 13 "java/lang/IllegalArgumentException") (List.mem_of_getElem? (i := 1) rfl)) (va_Nw.use rfl (hN.2.2.2.1 "java/lang/IllegalArgumentException" (by decide))) hce hcv hcl ?_
      refine lv_astore_n (lv' := [(3, .ref q9), (0, .ref x), (1, .int x1), (2, .ref o)]) hx hb dL_told_12 rfl hl (by decide) rfl (fun ls hl => ?_)
      refine lv_iconst (v := 1) hx hb dL_told_13 (by decide) ?_
      exact ow_wret C0 u hok rfl hP hD hS (by omega) (by omega) dL_told_14
  · subst hk
    refine lv_i2l (v := r.toInt64) hx hb dL_told_7 rfl ?_
    refine va_last (x := r.toInt64) hx hb hK0 hP hD hS 0 2 rfl rfl (vp_in_nI (n := 0) (by decide) (by decide)) dL_told_8 (fun H locs hP hD hS => ?_)
    refine lv_goto (tgt := 15) hx hb dL_told_9 (by decide) ?_
    refine lv_iconst (v := 0) hx hb dL_told_15 (by decide) ?_
    exact ow_wret C0 u hok rfl hP hD hS (by omega) (by omega) dL_told_16
set_option maxHeartbeats 4000000 in
set_option maxRecDepth 100000 in
theorem c_L_pane (l : Launch) (D : va_G) (cs : Nat → ClassId) {S : Type} (sz x o : Nat) (x1 : Int32) (x2 : Int32) (v : Nat → Int64) (w : va_W) (fs : List Value) (hw0 : w[0]? = some (x, .inr (10, fs))) (ok : S → Prop) (w' : S → va_W) (K : Nat) (r : Int32) (rmY : Room) (mc ms : Nat) (hc : rmY.cells = mc) (hs : rmY.slots = ms) (hf : rmY.frames ≤ 95) (hlo : rmY.locals ≤ 2300) (hK : K = 0 ∨ K = 2 ∨ K = 1) (hM : ∀ sz, XS l D cs yX10_pane wsX10_pane rmY [.ref x, .int x1, .int x2] sz w ok w' K r mc ms) : MW l D cs yL_pane wsL_pane (rmL mc ms) [.ref x, .int x1, .int x2, .ref o] sz (w ++ [oCell cs o v]) ok (fun u => oCell cs o (if K = 0 then vp_updL v (0 : Int32).toNatClampNeg r.toInt64 else v) :: w' u) (if K = 2 then 1 else if K = 1 then 2 else 0 : Int32) mc ms := by
  refine ow_enterH (S := S) (y := yL_pane) (ws := wsL_pane) (av := [.ref x, .int x1, .int x2, .ref o]) (sz := sz) (w := w ++ [oCell cs o v]) (Qc := fun sz => va_Qi (fun x (u : S) => x = (if K = 2 then 1 else if K = 1 then 2 else 0 : Int32) ∧ ok u) (fun u t => va_P D vwCl ((fun u => oCell cs o (if K = 0 then vp_updL v (0 : Int32).toNatClampNeg r.toInt64 else v) :: w' u) u) t.heap ∧ va_D (va_A (w ++ [oCell cs o v]) sz) ((fun u => oCell cs o (if K = 0 then vp_updL v (0 : Int32).toNatClampNeg r.toInt64 else v) :: w' u) u)) (va_A (w ++ [oCell cs o v]) sz)) (cc := cL_pane) (nL := 5) (ret := some .int) (hh := [(0, 10, 13, 31), (0, 10, 17, 13)]) (by decide) rfl (Nat.le_of_ble_eq_true rfl) (fun p e s m below meth c ls H locs C0 hN hC ht hP hD hS hsz hl => ?_)
  obtain ⟨hx, hb, hr, hlk, hml, hown, hts, hK0, hG, hE⟩ := id C0
  have hl : lv_has ls 5 [(0, .ref x), (1, .int x1), (2, .int x2), (3, .ref o)] := hl
  refine lv_aload_n hx hb dL_pane_0 rfl (lv_at hl 3 rfl) ?_
  refine lv_iconst (v := 0) hx hb dL_pane_1 (by decide) ?_
  refine lv_aload_n hx hb dL_pane_2 rfl (lv_at hl 0 rfl) ?_
  refine lv_iload_n hx hb dL_pane_3 rfl (lv_at hl 1 rfl) ?_
  refine lv_iload_n hx hb dL_pane_4 rfl (lv_at hl 2 rfl) ?_
  refine ow_wcall (As := [.int x1, .int x2]) (rest := [.int 0, .ref o]) (k := K) (r := r) C0 hN (hM H.size) (cwV 2 hts gL_pane_X10_pane rfl hc hs (by decide +kernel) ⟨by show rmY.frames + 1 ≤ 100; omega, by show 8 + (_ + 11) + rmY.locals ≤ 2400; omega⟩) 10 rfl hw0 hP hD hS rfl hl.1 rfl (Nat.le_of_ble_eq_true rfl) ⟨by show 0 + mc ≤ mc; omega, by show 0 + ms ≤ ms; omega⟩ dL_pane_5 (fun hk u q9 ce H1 locs1 hok hce hcv hcl hP hD hS => ?_) (fun hk u H locs hok hP hD hS => ?_)
  · rcases hK with rfl | rfl | rfl
    · exact absurd rfl hk
    · refine vx_catch (own := RL) (name := "java/util/NoSuchElementException") hown [] ⟨0, 10, 13, 31⟩ [⟨0, 10, 17, 13⟩] (ht.trans rfl) (fun _ h => nomatch h) (by decide) (by decide) (hts (.classLink RL 31 "java/util/NoSuchElementException") (List.mem_of_getElem? (i := 1) rfl)) (va_Nw.use rfl (hN.2.2.2.1 "java/util/NoSuchElementException" (by decide))) hce hcv hcl ?_
      refine lv_astore (lv' := [(4, .ref q9), (0, .ref x), (1, .int x1), (2, .int x2), (3, .ref o)]) hx hb dL_pane_13 hl (by decide) rfl (fun ls hl => ?_)
      refine lv_iconst (v := 1) hx hb dL_pane_15 (by decide) ?_
      exact ow_wret C0 u hok rfl hP hD hS (by omega) (by omega) dL_pane_16
    · refine vx_catch (own := RL) (name := "java/lang/IllegalArgumentException") hown [⟨0, 10, 13, 31⟩] ⟨0, 10, 17, 13⟩ [] (ht.trans rfl) (List.forall_mem_cons.mpr ⟨Or.inr ⟨by decide, "java/util/NoSuchElementException", (hts (.classLink RL 31 "java/util/NoSuchElementException") (List.mem_of_getElem? (i := 1) rfl)), hC.1⟩, fun _ h => nomatch h⟩) (by decide) (by decide) (hts (.classLink RL 13 "java/lang/IllegalArgumentException") (List.mem_of_getElem? (i := 2) rfl)) (va_Nw.use rfl (hN.2.2.2.1 "java/lang/IllegalArgumentException" (by decide))) hce hcv hcl ?_
      refine lv_astore (lv' := [(4, .ref q9), (0, .ref x), (1, .int x1), (2, .int x2), (3, .ref o)]) hx hb dL_pane_17 hl (by decide) rfl (fun ls hl => ?_)
      refine lv_iconst (v := 2) hx hb dL_pane_19 (by decide) ?_
      exact ow_wret C0 u hok rfl hP hD hS (by omega) (by omega) dL_pane_20
  · subst hk
    refine lv_i2l (v := r.toInt64) hx hb dL_pane_8 rfl ?_
    refine va_last (x := r.toInt64) hx hb hK0 hP hD hS 0 2 rfl rfl (vp_in_nI (n := 0) (by decide) (by decide)) dL_pane_9 (fun H locs hP hD hS => ?_)
    refine lv_goto (tgt := 21) hx hb dL_pane_10 (by decide) ?_
    refine lv_iconst (v := 0) hx hb dL_pane_21 (by decide) ?_
    exact ow_wret C0 u hok rfl hP hD hS (by omega) (by omega) dL_pane_22
set_option maxHeartbeats 4000000 in
set_option maxRecDepth 100000 in
theorem c_L_shows (l : Launch) (D : va_G) (cs : Nat → ClassId) {S : Type} (sz x o : Nat) (x1 : Int32) (x2 : Int32) (x3 : Int32) (v : Nat → Int64) (w : va_W) (fs : List Value) (hw0 : w[0]? = some (x, .inr (10, fs))) (ok : S → Prop) (w' : S → va_W) (K : Nat) (r : Int32) (rmY : Room) (mc ms : Nat) (hc : rmY.cells = mc) (hs : rmY.slots = ms) (hf : rmY.frames ≤ 95) (hlo : rmY.locals ≤ 2300) (hK : K = 0 ∨ K = 3 ∨ K = 2) (hM : ∀ sz, XS l D cs yX10_shows wsX10_shows rmY [.ref x, .int x1, .int x2, .int x3] sz w ok w' K r mc ms) : MW l D cs yL_shows wsL_shows (rmL mc ms) [.ref x, .int x1, .int x2, .int x3, .ref o] sz (w ++ [oCell cs o v]) ok (fun u => oCell cs o (if K = 0 then vp_updL v (0 : Int32).toNatClampNeg r.toInt64 else v) :: w' u) (if K = 3 then 1 else if K = 2 then 2 else 0 : Int32) mc ms := by
  refine ow_enterH (S := S) (y := yL_shows) (ws := wsL_shows) (av := [.ref x, .int x1, .int x2, .int x3, .ref o]) (sz := sz) (w := w ++ [oCell cs o v]) (Qc := fun sz => va_Qi (fun x (u : S) => x = (if K = 3 then 1 else if K = 2 then 2 else 0 : Int32) ∧ ok u) (fun u t => va_P D vwCl ((fun u => oCell cs o (if K = 0 then vp_updL v (0 : Int32).toNatClampNeg r.toInt64 else v) :: w' u) u) t.heap ∧ va_D (va_A (w ++ [oCell cs o v]) sz) ((fun u => oCell cs o (if K = 0 then vp_updL v (0 : Int32).toNatClampNeg r.toInt64 else v) :: w' u) u)) (va_A (w ++ [oCell cs o v]) sz)) (cc := cL_shows) (nL := 6) (ret := some .int) (hh := [(0, 12, 15, 37), (0, 12, 19, 31)]) (by decide) rfl (Nat.le_of_ble_eq_true rfl) (fun p e s m below meth c ls H locs C0 hN hC ht hP hD hS hsz hl => ?_)
  obtain ⟨hx, hb, hr, hlk, hml, hown, hts, hK0, hG, hE⟩ := id C0
  have hl : lv_has ls 6 [(0, .ref x), (1, .int x1), (2, .int x2), (3, .int x3), (4, .ref o)] := hl
  refine lv_aload hx hb dL_shows_0 (lv_at hl 4 rfl) ?_
  refine lv_iconst (v := 0) hx hb dL_shows_2 (by decide) ?_
  refine lv_aload_n hx hb dL_shows_3 rfl (lv_at hl 0 rfl) ?_
  refine lv_iload_n hx hb dL_shows_4 rfl (lv_at hl 1 rfl) ?_
  refine lv_iload_n hx hb dL_shows_5 rfl (lv_at hl 2 rfl) ?_
  refine lv_iload_n hx hb dL_shows_6 rfl (lv_at hl 3 rfl) ?_
  refine ow_wcall (As := [.int x1, .int x2, .int x3]) (rest := [.int 0, .ref o]) (k := K) (r := r) C0 hN (hM H.size) (cwV 3 hts gL_shows_X10_shows rfl hc hs (by decide +kernel) ⟨by show rmY.frames + 1 ≤ 100; omega, by show 8 + (_ + 11) + rmY.locals ≤ 2400; omega⟩) 10 rfl hw0 hP hD hS rfl hl.1 rfl (Nat.le_of_ble_eq_true rfl) ⟨by show 0 + mc ≤ mc; omega, by show 0 + ms ≤ ms; omega⟩ dL_shows_7 (fun hk u q9 ce H1 locs1 hok hce hcv hcl hP hD hS => ?_) (fun hk u H locs hok hP hD hS => ?_)
  · rcases hK with rfl | rfl | rfl
    · exact absurd rfl hk
    · refine vx_catch (own := RL) (name := "java/lang/IndexOutOfBoundsException") hown [] ⟨0, 12, 15, 37⟩ [⟨0, 12, 19, 31⟩] (ht.trans rfl) (fun _ h => nomatch h) (by decide) (by decide) (hts (.classLink RL 37 "java/lang/IndexOutOfBoundsException") (List.mem_of_getElem? (i := 1) rfl)) (va_Nw.use rfl (hN.2.2.2.1 "java/lang/IndexOutOfBoundsException" (by decide))) hce hcv hcl ?_
      refine lv_astore (lv' := [(5, .ref q9), (0, .ref x), (1, .int x1), (2, .int x2), (3, .int x3), (4, .ref o)]) hx hb dL_shows_15 hl (by decide) rfl (fun ls hl => ?_)
      refine lv_iconst (v := 1) hx hb dL_shows_17 (by decide) ?_
      exact ow_wret C0 u hok rfl hP hD hS (by omega) (by omega) dL_shows_18
    · refine vx_catch (own := RL) (name := "java/util/NoSuchElementException") hown [⟨0, 12, 15, 37⟩] ⟨0, 12, 19, 31⟩ [] (ht.trans rfl) (List.forall_mem_cons.mpr ⟨Or.inr ⟨by decide, "java/lang/IndexOutOfBoundsException", (hts (.classLink RL 37 "java/lang/IndexOutOfBoundsException") (List.mem_of_getElem? (i := 1) rfl)), hC.2.1⟩, fun _ h => nomatch h⟩) (by decide) (by decide) (hts (.classLink RL 31 "java/util/NoSuchElementException") (List.mem_of_getElem? (i := 2) rfl)) (va_Nw.use rfl (hN.2.2.2.1 "java/util/NoSuchElementException" (by decide))) hce hcv hcl ?_
      refine lv_astore (lv' := [(5, .ref q9), (0, .ref x), (1, .int x1), (2, .int x2), (3, .int x3), (4, .ref o)]) hx hb dL_shows_19 hl (by decide) rfl (fun ls hl => ?_)
      refine lv_iconst (v := 2) hx hb dL_shows_21 (by decide) ?_
      exact ow_wret C0 u hok rfl hP hD hS (by omega) (by omega) dL_shows_22
  · subst hk
    refine lv_i2l (v := r.toInt64) hx hb dL_shows_10 rfl ?_
    refine va_last (x := r.toInt64) hx hb hK0 hP hD hS 0 2 rfl rfl (vp_in_nI (n := 0) (by decide) (by decide)) dL_shows_11 (fun H locs hP hD hS => ?_)
    refine lv_goto (tgt := 23) hx hb dL_shows_12 (by decide) ?_
    refine lv_iconst (v := 0) hx hb dL_shows_23 (by decide) ?_
    exact ow_wret C0 u hok rfl hP hD hS (by omega) (by omega) dL_shows_24
set_option maxHeartbeats 4000000 in
set_option maxRecDepth 100000 in
theorem c_L_deep (l : Launch) (D : va_G) (cs : Nat → ClassId) {S : Type} (sz x o : Nat) (x1 : Int32) (x2 : Int32) (x3 : Int32) (v : Nat → Int64) (w : va_W) (fs : List Value) (hw0 : w[0]? = some (x, .inr (10, fs))) (ok : S → Prop) (w' : S → va_W) (K : Nat) (r : Int32) (rmY : Room) (mc ms : Nat) (hc : rmY.cells = mc) (hs : rmY.slots = ms) (hf : rmY.frames ≤ 95) (hlo : rmY.locals ≤ 2300) (hK : K = 0 ∨ K = 3 ∨ K = 2) (hM : ∀ sz, XS l D cs yX10_deep wsX10_deep rmY [.ref x, .int x1, .int x2, .int x3] sz w ok w' K r mc ms) : MW l D cs yL_deep wsL_deep (rmL mc ms) [.ref x, .int x1, .int x2, .int x3, .ref o] sz (w ++ [oCell cs o v]) ok (fun u => oCell cs o (if K = 0 then vp_updL v (0 : Int32).toNatClampNeg r.toInt64 else v) :: w' u) (if K = 3 then 1 else if K = 2 then 2 else 0 : Int32) mc ms := by
  refine ow_enterH (S := S) (y := yL_deep) (ws := wsL_deep) (av := [.ref x, .int x1, .int x2, .int x3, .ref o]) (sz := sz) (w := w ++ [oCell cs o v]) (Qc := fun sz => va_Qi (fun x (u : S) => x = (if K = 3 then 1 else if K = 2 then 2 else 0 : Int32) ∧ ok u) (fun u t => va_P D vwCl ((fun u => oCell cs o (if K = 0 then vp_updL v (0 : Int32).toNatClampNeg r.toInt64 else v) :: w' u) u) t.heap ∧ va_D (va_A (w ++ [oCell cs o v]) sz) ((fun u => oCell cs o (if K = 0 then vp_updL v (0 : Int32).toNatClampNeg r.toInt64 else v) :: w' u) u)) (va_A (w ++ [oCell cs o v]) sz)) (cc := cL_deep) (nL := 6) (ret := some .int) (hh := [(0, 12, 15, 37), (0, 12, 19, 31)]) (by decide) rfl (Nat.le_of_ble_eq_true rfl) (fun p e s m below meth c ls H locs C0 hN hC ht hP hD hS hsz hl => ?_)
  obtain ⟨hx, hb, hr, hlk, hml, hown, hts, hK0, hG, hE⟩ := id C0
  have hl : lv_has ls 6 [(0, .ref x), (1, .int x1), (2, .int x2), (3, .int x3), (4, .ref o)] := hl
  refine lv_aload hx hb dL_deep_0 (lv_at hl 4 rfl) ?_
  refine lv_iconst (v := 0) hx hb dL_deep_2 (by decide) ?_
  refine lv_aload_n hx hb dL_deep_3 rfl (lv_at hl 0 rfl) ?_
  refine lv_iload_n hx hb dL_deep_4 rfl (lv_at hl 1 rfl) ?_
  refine lv_iload_n hx hb dL_deep_5 rfl (lv_at hl 2 rfl) ?_
  refine lv_iload_n hx hb dL_deep_6 rfl (lv_at hl 3 rfl) ?_
  refine ow_wcall (As := [.int x1, .int x2, .int x3]) (rest := [.int 0, .ref o]) (k := K) (r := r) C0 hN (hM H.size) (cwV 3 hts gL_deep_X10_deep rfl hc hs (by decide +kernel) ⟨by show rmY.frames + 1 ≤ 100; omega, by show 8 + (_ + 11) + rmY.locals ≤ 2400; omega⟩) 10 rfl hw0 hP hD hS rfl hl.1 rfl (Nat.le_of_ble_eq_true rfl) ⟨by show 0 + mc ≤ mc; omega, by show 0 + ms ≤ ms; omega⟩ dL_deep_7 (fun hk u q9 ce H1 locs1 hok hce hcv hcl hP hD hS => ?_) (fun hk u H locs hok hP hD hS => ?_)
  · rcases hK with rfl | rfl | rfl
    · exact absurd rfl hk
    · refine vx_catch (own := RL) (name := "java/lang/IndexOutOfBoundsException") hown [] ⟨0, 12, 15, 37⟩ [⟨0, 12, 19, 31⟩] (ht.trans rfl) (fun _ h => nomatch h) (by decide) (by decide) (hts (.classLink RL 37 "java/lang/IndexOutOfBoundsException") (List.mem_of_getElem? (i := 1) rfl)) (va_Nw.use rfl (hN.2.2.2.1 "java/lang/IndexOutOfBoundsException" (by decide))) hce hcv hcl ?_
      refine lv_astore (lv' := [(5, .ref q9), (0, .ref x), (1, .int x1), (2, .int x2), (3, .int x3), (4, .ref o)]) hx hb dL_deep_15 hl (by decide) rfl (fun ls hl => ?_)
      refine lv_iconst (v := 1) hx hb dL_deep_17 (by decide) ?_
      exact ow_wret C0 u hok rfl hP hD hS (by omega) (by omega) dL_deep_18
    · refine vx_catch (own := RL) (name := "java/util/NoSuchElementException") hown [⟨0, 12, 15, 37⟩] ⟨0, 12, 19, 31⟩ [] (ht.trans rfl) (List.forall_mem_cons.mpr ⟨Or.inr ⟨by decide, "java/lang/IndexOutOfBoundsException", (hts (.classLink RL 37 "java/lang/IndexOutOfBoundsException") (List.mem_of_getElem? (i := 1) rfl)), hC.2.1⟩, fun _ h => nomatch h⟩) (by decide) (by decide) (hts (.classLink RL 31 "java/util/NoSuchElementException") (List.mem_of_getElem? (i := 2) rfl)) (va_Nw.use rfl (hN.2.2.2.1 "java/util/NoSuchElementException" (by decide))) hce hcv hcl ?_
      refine lv_astore (lv' := [(5, .ref q9), (0, .ref x), (1, .int x1), (2, .int x2), (3, .int x3), (4, .ref o)]) hx hb dL_deep_19 hl (by decide) rfl (fun ls hl => ?_)
      refine lv_iconst (v := 2) hx hb dL_deep_21 (by decide) ?_
      exact ow_wret C0 u hok rfl hP hD hS (by omega) (by omega) dL_deep_22
  · subst hk
    refine lv_i2l (v := r.toInt64) hx hb dL_deep_10 rfl ?_
    refine va_last (x := r.toInt64) hx hb hK0 hP hD hS 0 2 rfl rfl (vp_in_nI (n := 0) (by decide) (by decide)) dL_deep_11 (fun H locs hP hD hS => ?_)
    refine lv_goto (tgt := 23) hx hb dL_deep_12 (by decide) ?_
    refine lv_iconst (v := 0) hx hb dL_deep_23 (by decide) ?_
    exact ow_wret C0 u hok rfl hP hD hS (by omega) (by omega) dL_deep_24
set_option maxHeartbeats 4000000 in
set_option maxRecDepth 100000 in
theorem c_L_film (l : Launch) (D : va_G) (cs : Nat → ClassId) {S : Type} (sz x o : Nat) (x1 : Int32) (x2 : Int32) (x3 : Int32) (x4 : Int32) (v : Nat → Int64) (w : va_W) (fs : List Value) (hw0 : w[0]? = some (x, .inr (10, fs))) (ok : S → Prop) (w' : S → va_W) (K : Nat) (r : Int32) (rmY : Room) (mc ms : Nat) (hc : rmY.cells = mc) (hs : rmY.slots = ms) (hf : rmY.frames ≤ 95) (hlo : rmY.locals ≤ 2300) (hK : K = 0 ∨ K = 3 ∨ K = 2) (hM : ∀ sz, XS l D cs yX10_film wsX10_film rmY [.ref x, .int x1, .int x2, .int x3, .int x4] sz w ok w' K r mc ms) : MW l D cs yL_film wsL_film (rmL mc ms) [.ref x, .int x1, .int x2, .int x3, .int x4, .ref o] sz (w ++ [oCell cs o v]) ok (fun u => oCell cs o (if K = 0 then vp_updL v (0 : Int32).toNatClampNeg r.toInt64 else v) :: w' u) (if K = 3 then 1 else if K = 2 then 2 else 0 : Int32) mc ms := by
  refine ow_enterH (S := S) (y := yL_film) (ws := wsL_film) (av := [.ref x, .int x1, .int x2, .int x3, .int x4, .ref o]) (sz := sz) (w := w ++ [oCell cs o v]) (Qc := fun sz => va_Qi (fun x (u : S) => x = (if K = 3 then 1 else if K = 2 then 2 else 0 : Int32) ∧ ok u) (fun u t => va_P D vwCl ((fun u => oCell cs o (if K = 0 then vp_updL v (0 : Int32).toNatClampNeg r.toInt64 else v) :: w' u) u) t.heap ∧ va_D (va_A (w ++ [oCell cs o v]) sz) ((fun u => oCell cs o (if K = 0 then vp_updL v (0 : Int32).toNatClampNeg r.toInt64 else v) :: w' u) u)) (va_A (w ++ [oCell cs o v]) sz)) (cc := cL_film) (nL := 7) (ret := some .int) (hh := [(0, 14, 17, 37), (0, 14, 21, 31)]) (by decide) rfl (Nat.le_of_ble_eq_true rfl) (fun p e s m below meth c ls H locs C0 hN hC ht hP hD hS hsz hl => ?_)
  obtain ⟨hx, hb, hr, hlk, hml, hown, hts, hK0, hG, hE⟩ := id C0
  have hl : lv_has ls 7 [(0, .ref x), (1, .int x1), (2, .int x2), (3, .int x3), (4, .int x4), (5, .ref o)] := hl
  refine lv_aload hx hb dL_film_0 (lv_at hl 5 rfl) ?_
  refine lv_iconst (v := 0) hx hb dL_film_2 (by decide) ?_
  refine lv_aload_n hx hb dL_film_3 rfl (lv_at hl 0 rfl) ?_
  refine lv_iload_n hx hb dL_film_4 rfl (lv_at hl 1 rfl) ?_
  refine lv_iload_n hx hb dL_film_5 rfl (lv_at hl 2 rfl) ?_
  refine lv_iload_n hx hb dL_film_6 rfl (lv_at hl 3 rfl) ?_
  refine lv_iload hx hb dL_film_7 (lv_at hl 4 rfl) ?_
  refine ow_wcall (As := [.int x1, .int x2, .int x3, .int x4]) (rest := [.int 0, .ref o]) (k := K) (r := r) C0 hN (hM H.size) (cwV 4 hts gL_film_X10_film rfl hc hs (by decide +kernel) ⟨by show rmY.frames + 1 ≤ 100; omega, by show 8 + (_ + 11) + rmY.locals ≤ 2400; omega⟩) 10 rfl hw0 hP hD hS rfl hl.1 rfl (Nat.le_of_ble_eq_true rfl) ⟨by show 0 + mc ≤ mc; omega, by show 0 + ms ≤ ms; omega⟩ dL_film_9 (fun hk u q9 ce H1 locs1 hok hce hcv hcl hP hD hS => ?_) (fun hk u H locs hok hP hD hS => ?_)
  · rcases hK with rfl | rfl | rfl
    · exact absurd rfl hk
    · refine vx_catch (own := RL) (name := "java/lang/IndexOutOfBoundsException") hown [] ⟨0, 14, 17, 37⟩ [⟨0, 14, 21, 31⟩] (ht.trans rfl) (fun _ h => nomatch h) (by decide) (by decide) (hts (.classLink RL 37 "java/lang/IndexOutOfBoundsException") (List.mem_of_getElem? (i := 1) rfl)) (va_Nw.use rfl (hN.2.2.2.1 "java/lang/IndexOutOfBoundsException" (by decide))) hce hcv hcl ?_
      refine lv_astore (lv' := [(6, .ref q9), (0, .ref x), (1, .int x1), (2, .int x2), (3, .int x3), (4, .int x4), (5, .ref o)]) hx hb dL_film_17 hl (by decide) rfl (fun ls hl => ?_)
      refine lv_iconst (v := 1) hx hb dL_film_19 (by decide) ?_
      exact ow_wret C0 u hok rfl hP hD hS (by omega) (by omega) dL_film_20
    · refine vx_catch (own := RL) (name := "java/util/NoSuchElementException") hown [⟨0, 14, 17, 37⟩] ⟨0, 14, 21, 31⟩ [] (ht.trans rfl) (List.forall_mem_cons.mpr ⟨Or.inr ⟨by decide, "java/lang/IndexOutOfBoundsException", (hts (.classLink RL 37 "java/lang/IndexOutOfBoundsException") (List.mem_of_getElem? (i := 1) rfl)), hC.2.1⟩, fun _ h => nomatch h⟩) (by decide) (by decide) (hts (.classLink RL 31 "java/util/NoSuchElementException") (List.mem_of_getElem? (i := 2) rfl)) (va_Nw.use rfl (hN.2.2.2.1 "java/util/NoSuchElementException" (by decide))) hce hcv hcl ?_
      refine lv_astore (lv' := [(6, .ref q9), (0, .ref x), (1, .int x1), (2, .int x2), (3, .int x3), (4, .int x4), (5, .ref o)]) hx hb dL_film_21 hl (by decide) rfl (fun ls hl => ?_)
      refine lv_iconst (v := 2) hx hb dL_film_23 (by decide) ?_
      exact ow_wret C0 u hok rfl hP hD hS (by omega) (by omega) dL_film_24
  · subst hk
    refine lv_i2l (v := r.toInt64) hx hb dL_film_12 rfl ?_
    refine va_last (x := r.toInt64) hx hb hK0 hP hD hS 0 2 rfl rfl (vp_in_nI (n := 0) (by decide) (by decide)) dL_film_13 (fun H locs hP hD hS => ?_)
    refine lv_goto (tgt := 25) hx hb dL_film_14 (by decide) ?_
    refine lv_iconst (v := 0) hx hb dL_film_25 (by decide) ?_
    exact ow_wret C0 u hok rfl hP hD hS (by omega) (by omega) dL_film_26
set_option maxHeartbeats 4000000 in
set_option maxRecDepth 100000 in
theorem c_L_films (l : Launch) (D : va_G) (cs : Nat → ClassId) {S : Type} (sz x o : Nat) (x1 : Int32) (x2 : Int32) (v : Nat → Int64) (w : va_W) (fs : List Value) (hw0 : w[0]? = some (x, .inr (10, fs))) (ok : S → Prop) (w' : S → va_W) (K : Nat) (r : Int32) (rmY : Room) (mc ms : Nat) (hc : rmY.cells = mc) (hs : rmY.slots = ms) (hf : rmY.frames ≤ 95) (hlo : rmY.locals ≤ 2300) (hK : K = 0 ∨ K = 1) (hM : ∀ sz, XS l D cs yX10_films wsX10_films rmY [.ref x, .int x1, .int x2] sz w ok w' K r mc ms) : MW l D cs yL_films wsL_films (rmL mc ms) [.ref x, .int x1, .int x2, .ref o] sz (w ++ [oCell cs o v]) ok (fun u => oCell cs o (if K = 0 then vp_updL v (0 : Int32).toNatClampNeg r.toInt64 else v) :: w' u) (if K = 1 then 1 else 0 : Int32) mc ms := by
  refine ow_enterH (S := S) (y := yL_films) (ws := wsL_films) (av := [.ref x, .int x1, .int x2, .ref o]) (sz := sz) (w := w ++ [oCell cs o v]) (Qc := fun sz => va_Qi (fun x (u : S) => x = (if K = 1 then 1 else 0 : Int32) ∧ ok u) (fun u t => va_P D vwCl ((fun u => oCell cs o (if K = 0 then vp_updL v (0 : Int32).toNatClampNeg r.toInt64 else v) :: w' u) u) t.heap ∧ va_D (va_A (w ++ [oCell cs o v]) sz) ((fun u => oCell cs o (if K = 0 then vp_updL v (0 : Int32).toNatClampNeg r.toInt64 else v) :: w' u) u)) (va_A (w ++ [oCell cs o v]) sz)) (cc := cL_films) (nL := 5) (ret := some .int) (hh := [(0, 10, 13, 13)]) (by decide) rfl (Nat.le_of_ble_eq_true rfl) (fun p e s m below meth c ls H locs C0 hN hC ht hP hD hS hsz hl => ?_)
  obtain ⟨hx, hb, hr, hlk, hml, hown, hts, hK0, hG, hE⟩ := id C0
  have hl : lv_has ls 5 [(0, .ref x), (1, .int x1), (2, .int x2), (3, .ref o)] := hl
  refine lv_aload_n hx hb dL_films_0 rfl (lv_at hl 3 rfl) ?_
  refine lv_iconst (v := 0) hx hb dL_films_1 (by decide) ?_
  refine lv_aload_n hx hb dL_films_2 rfl (lv_at hl 0 rfl) ?_
  refine lv_iload_n hx hb dL_films_3 rfl (lv_at hl 1 rfl) ?_
  refine lv_iload_n hx hb dL_films_4 rfl (lv_at hl 2 rfl) ?_
  refine ow_wcall (As := [.int x1, .int x2]) (rest := [.int 0, .ref o]) (k := K) (r := r) C0 hN (hM H.size) (cwV 2 hts gL_films_X10_films rfl hc hs (by decide +kernel) ⟨by show rmY.frames + 1 ≤ 100; omega, by show 8 + (_ + 11) + rmY.locals ≤ 2400; omega⟩) 10 rfl hw0 hP hD hS rfl hl.1 rfl (Nat.le_of_ble_eq_true rfl) ⟨by show 0 + mc ≤ mc; omega, by show 0 + ms ≤ ms; omega⟩ dL_films_5 (fun hk u q9 ce H1 locs1 hok hce hcv hcl hP hD hS => ?_) (fun hk u H locs hok hP hD hS => ?_)
  · rcases hK with rfl | rfl
    · exact absurd rfl hk
    · refine vx_catch (own := RL) (name := "java/lang/IllegalArgumentException") hown [] ⟨0, 10, 13, 13⟩ [] (ht.trans rfl) (fun _ h => nomatch h) (by decide) (by decide) (hts (.classLink RL 13 "java/lang/IllegalArgumentException") (List.mem_of_getElem? (i := 1) rfl)) (va_Nw.use rfl (hN.2.2.2.1 "java/lang/IllegalArgumentException" (by decide))) hce hcv hcl ?_
      refine lv_astore (lv' := [(4, .ref q9), (0, .ref x), (1, .int x1), (2, .int x2), (3, .ref o)]) hx hb dL_films_13 hl (by decide) rfl (fun ls hl => ?_)
      refine lv_iconst (v := 1) hx hb dL_films_15 (by decide) ?_
      exact ow_wret C0 u hok rfl hP hD hS (by omega) (by omega) dL_films_16
  · subst hk
    refine lv_i2l (v := r.toInt64) hx hb dL_films_8 rfl ?_
    refine va_last (x := r.toInt64) hx hb hK0 hP hD hS 0 2 rfl rfl (vp_in_nI (n := 0) (by decide) (by decide)) dL_films_9 (fun H locs hP hD hS => ?_)
    refine lv_goto (tgt := 17) hx hb dL_films_10 (by decide) ?_
    refine lv_iconst (v := 0) hx hb dL_films_17 (by decide) ?_
    exact ow_wret C0 u hok rfl hP hD hS (by omega) (by omega) dL_films_18
set_option maxHeartbeats 4000000 in
set_option maxRecDepth 100000 in
theorem c_L_have (l : Launch) (D : va_G) (cs : Nat → ClassId) {S : Type} (sz x o : Nat) (x1 : Int32) (x2 : Int32) (v : Nat → Int64) (w : va_W) (fs : List Value) (hw0 : w[0]? = some (x, .inr (10, fs))) (ok : S → Prop) (w' : S → va_W) (K : Nat) (r : Int32) (rmY : Room) (mc ms : Nat) (hc : rmY.cells = mc) (hs : rmY.slots = ms) (hf : rmY.frames ≤ 95) (hlo : rmY.locals ≤ 2300) (hK : K = 0 ∨ K = 2 ∨ K = 1) (hM : ∀ sz, XS l D cs yX10_have wsX10_have rmY [.ref x, .int x1, .int x2] sz w ok w' K r mc ms) : MW l D cs yL_have wsL_have (rmL mc ms) [.ref x, .int x1, .int x2, .ref o] sz (w ++ [oCell cs o v]) ok (fun u => oCell cs o (if K = 0 then vp_updL v (0 : Int32).toNatClampNeg r.toInt64 else v) :: w' u) (if K = 2 then 1 else if K = 1 then 2 else 0 : Int32) mc ms := by
  refine ow_enterH (S := S) (y := yL_have) (ws := wsL_have) (av := [.ref x, .int x1, .int x2, .ref o]) (sz := sz) (w := w ++ [oCell cs o v]) (Qc := fun sz => va_Qi (fun x (u : S) => x = (if K = 2 then 1 else if K = 1 then 2 else 0 : Int32) ∧ ok u) (fun u t => va_P D vwCl ((fun u => oCell cs o (if K = 0 then vp_updL v (0 : Int32).toNatClampNeg r.toInt64 else v) :: w' u) u) t.heap ∧ va_D (va_A (w ++ [oCell cs o v]) sz) ((fun u => oCell cs o (if K = 0 then vp_updL v (0 : Int32).toNatClampNeg r.toInt64 else v) :: w' u) u)) (va_A (w ++ [oCell cs o v]) sz)) (cc := cL_have) (nL := 5) (ret := some .int) (hh := [(0, 10, 13, 31), (0, 10, 17, 13)]) (by decide) rfl (Nat.le_of_ble_eq_true rfl) (fun p e s m below meth c ls H locs C0 hN hC ht hP hD hS hsz hl => ?_)
  obtain ⟨hx, hb, hr, hlk, hml, hown, hts, hK0, hG, hE⟩ := id C0
  have hl : lv_has ls 5 [(0, .ref x), (1, .int x1), (2, .int x2), (3, .ref o)] := hl
  refine lv_aload_n hx hb dL_have_0 rfl (lv_at hl 3 rfl) ?_
  refine lv_iconst (v := 0) hx hb dL_have_1 (by decide) ?_
  refine lv_aload_n hx hb dL_have_2 rfl (lv_at hl 0 rfl) ?_
  refine lv_iload_n hx hb dL_have_3 rfl (lv_at hl 1 rfl) ?_
  refine lv_iload_n hx hb dL_have_4 rfl (lv_at hl 2 rfl) ?_
  refine ow_wcall (As := [.int x1, .int x2]) (rest := [.int 0, .ref o]) (k := K) (r := r) C0 hN (hM H.size) (cwV 2 hts gL_have_X10_have rfl hc hs (by decide +kernel) ⟨by show rmY.frames + 1 ≤ 100; omega, by show 8 + (_ + 11) + rmY.locals ≤ 2400; omega⟩) 10 rfl hw0 hP hD hS rfl hl.1 rfl (Nat.le_of_ble_eq_true rfl) ⟨by show 0 + mc ≤ mc; omega, by show 0 + ms ≤ ms; omega⟩ dL_have_5 (fun hk u q9 ce H1 locs1 hok hce hcv hcl hP hD hS => ?_) (fun hk u H locs hok hP hD hS => ?_)
  · rcases hK with rfl | rfl | rfl
    · exact absurd rfl hk
    · refine vx_catch (own := RL) (name := "java/util/NoSuchElementException") hown [] ⟨0, 10, 13, 31⟩ [⟨0, 10, 17, 13⟩] (ht.trans rfl) (fun _ h => nomatch h) (by decide) (by decide) (hts (.classLink RL 31 "java/util/NoSuchElementException") (List.mem_of_getElem? (i := 1) rfl)) (va_Nw.use rfl (hN.2.2.2.1 "java/util/NoSuchElementException" (by decide))) hce hcv hcl ?_
      refine lv_astore (lv' := [(4, .ref q9), (0, .ref x), (1, .int x1), (2, .int x2), (3, .ref o)]) hx hb dL_have_13 hl (by decide) rfl (fun ls hl => ?_)
      refine lv_iconst (v := 1) hx hb dL_have_15 (by decide) ?_
      exact ow_wret C0 u hok rfl hP hD hS (by omega) (by omega) dL_have_16
    · refine vx_catch (own := RL) (name := "java/lang/IllegalArgumentException") hown [⟨0, 10, 13, 31⟩] ⟨0, 10, 17, 13⟩ [] (ht.trans rfl) (List.forall_mem_cons.mpr ⟨Or.inr ⟨by decide, "java/util/NoSuchElementException", (hts (.classLink RL 31 "java/util/NoSuchElementException") (List.mem_of_getElem? (i := 1) rfl)), hC.1⟩, fun _ h => nomatch h⟩) (by decide) (by decide) (hts (.classLink RL 13 "java/lang/IllegalArgumentException") (List.mem_of_getElem? (i := 2) rfl)) (va_Nw.use rfl (hN.2.2.2.1 "java/lang/IllegalArgumentException" (by decide))) hce hcv hcl ?_
      refine lv_astore (lv' := [(4, .ref q9), (0, .ref x), (1, .int x1), (2, .int x2), (3, .ref o)]) hx hb dL_have_17 hl (by decide) rfl (fun ls hl => ?_)
      refine lv_iconst (v := 2) hx hb dL_have_19 (by decide) ?_
      exact ow_wret C0 u hok rfl hP hD hS (by omega) (by omega) dL_have_20
  · subst hk
    refine lv_i2l (v := r.toInt64) hx hb dL_have_8 rfl ?_
    refine va_last (x := r.toInt64) hx hb hK0 hP hD hS 0 2 rfl rfl (vp_in_nI (n := 0) (by decide) (by decide)) dL_have_9 (fun H locs hP hD hS => ?_)
    refine lv_goto (tgt := 21) hx hb dL_have_10 (by decide) ?_
    refine lv_iconst (v := 0) hx hb dL_have_21 (by decide) ?_
    exact ow_wret C0 u hok rfl hP hD hS (by omega) (by omega) dL_have_22
set_option maxHeartbeats 4000000 in
set_option maxRecDepth 100000 in
theorem c_L_showing (l : Launch) (D : va_G) (cs : Nat → ClassId) {S : Type} (sz x o : Nat) (x1 : Int32) (x2 : Int32) (v : Nat → Int64) (w : va_W) (fs : List Value) (hw0 : w[0]? = some (x, .inr (10, fs))) (ok : S → Prop) (w' : S → va_W) (K : Nat) (r : Int32) (rmY : Room) (mc ms : Nat) (hc : rmY.cells = mc) (hs : rmY.slots = ms) (hf : rmY.frames ≤ 95) (hlo : rmY.locals ≤ 2300) (hK : K = 0 ∨ K = 2 ∨ K = 1) (hM : ∀ sz, XS l D cs yX10_showing wsX10_showing rmY [.ref x, .int x1, .int x2] sz w ok w' K r mc ms) : MW l D cs yL_showing wsL_showing (rmL mc ms) [.ref x, .int x1, .int x2, .ref o] sz (w ++ [oCell cs o v]) ok (fun u => oCell cs o (if K = 0 then vp_updL v (0 : Int32).toNatClampNeg r.toInt64 else v) :: w' u) (if K = 2 then 1 else if K = 1 then 2 else 0 : Int32) mc ms := by
  refine ow_enterH (S := S) (y := yL_showing) (ws := wsL_showing) (av := [.ref x, .int x1, .int x2, .ref o]) (sz := sz) (w := w ++ [oCell cs o v]) (Qc := fun sz => va_Qi (fun x (u : S) => x = (if K = 2 then 1 else if K = 1 then 2 else 0 : Int32) ∧ ok u) (fun u t => va_P D vwCl ((fun u => oCell cs o (if K = 0 then vp_updL v (0 : Int32).toNatClampNeg r.toInt64 else v) :: w' u) u) t.heap ∧ va_D (va_A (w ++ [oCell cs o v]) sz) ((fun u => oCell cs o (if K = 0 then vp_updL v (0 : Int32).toNatClampNeg r.toInt64 else v) :: w' u) u)) (va_A (w ++ [oCell cs o v]) sz)) (cc := cL_showing) (nL := 5) (ret := some .int) (hh := [(0, 10, 13, 31), (0, 10, 17, 13)]) (by decide) rfl (Nat.le_of_ble_eq_true rfl) (fun p e s m below meth c ls H locs C0 hN hC ht hP hD hS hsz hl => ?_)
  obtain ⟨hx, hb, hr, hlk, hml, hown, hts, hK0, hG, hE⟩ := id C0
  have hl : lv_has ls 5 [(0, .ref x), (1, .int x1), (2, .int x2), (3, .ref o)] := hl
  refine lv_aload_n hx hb dL_showing_0 rfl (lv_at hl 3 rfl) ?_
  refine lv_iconst (v := 0) hx hb dL_showing_1 (by decide) ?_
  refine lv_aload_n hx hb dL_showing_2 rfl (lv_at hl 0 rfl) ?_
  refine lv_iload_n hx hb dL_showing_3 rfl (lv_at hl 1 rfl) ?_
  refine lv_iload_n hx hb dL_showing_4 rfl (lv_at hl 2 rfl) ?_
  refine ow_wcall (As := [.int x1, .int x2]) (rest := [.int 0, .ref o]) (k := K) (r := r) C0 hN (hM H.size) (cwV 2 hts gL_showing_X10_showing rfl hc hs (by decide +kernel) ⟨by show rmY.frames + 1 ≤ 100; omega, by show 8 + (_ + 11) + rmY.locals ≤ 2400; omega⟩) 10 rfl hw0 hP hD hS rfl hl.1 rfl (Nat.le_of_ble_eq_true rfl) ⟨by show 0 + mc ≤ mc; omega, by show 0 + ms ≤ ms; omega⟩ dL_showing_5 (fun hk u q9 ce H1 locs1 hok hce hcv hcl hP hD hS => ?_) (fun hk u H locs hok hP hD hS => ?_)
  · rcases hK with rfl | rfl | rfl
    · exact absurd rfl hk
    · refine vx_catch (own := RL) (name := "java/util/NoSuchElementException") hown [] ⟨0, 10, 13, 31⟩ [⟨0, 10, 17, 13⟩] (ht.trans rfl) (fun _ h => nomatch h) (by decide) (by decide) (hts (.classLink RL 31 "java/util/NoSuchElementException") (List.mem_of_getElem? (i := 1) rfl)) (va_Nw.use rfl (hN.2.2.2.1 "java/util/NoSuchElementException" (by decide))) hce hcv hcl ?_
      refine lv_astore (lv' := [(4, .ref q9), (0, .ref x), (1, .int x1), (2, .int x2), (3, .ref o)]) hx hb dL_showing_13 hl (by decide) rfl (fun ls hl => ?_)
      refine lv_iconst (v := 1) hx hb dL_showing_15 (by decide) ?_
      exact ow_wret C0 u hok rfl hP hD hS (by omega) (by omega) dL_showing_16
    · refine vx_catch (own := RL) (name := "java/lang/IllegalArgumentException") hown [⟨0, 10, 13, 31⟩] ⟨0, 10, 17, 13⟩ [] (ht.trans rfl) (List.forall_mem_cons.mpr ⟨Or.inr ⟨by decide, "java/util/NoSuchElementException", (hts (.classLink RL 31 "java/util/NoSuchElementException") (List.mem_of_getElem? (i := 1) rfl)), hC.1⟩, fun _ h => nomatch h⟩) (by decide) (by decide) (hts (.classLink RL 13 "java/lang/IllegalArgumentException") (List.mem_of_getElem? (i := 2) rfl)) (va_Nw.use rfl (hN.2.2.2.1 "java/lang/IllegalArgumentException" (by decide))) hce hcv hcl ?_
      refine lv_astore (lv' := [(4, .ref q9), (0, .ref x), (1, .int x1), (2, .int x2), (3, .ref o)]) hx hb dL_showing_17 hl (by decide) rfl (fun ls hl => ?_)
      refine lv_iconst (v := 2) hx hb dL_showing_19 (by decide) ?_
      exact ow_wret C0 u hok rfl hP hD hS (by omega) (by omega) dL_showing_20
  · subst hk
    refine lv_i2l (v := r.toInt64) hx hb dL_showing_8 rfl ?_
    refine va_last (x := r.toInt64) hx hb hK0 hP hD hS 0 2 rfl rfl (vp_in_nI (n := 0) (by decide) (by decide)) dL_showing_9 (fun H locs hP hD hS => ?_)
    refine lv_goto (tgt := 21) hx hb dL_showing_10 (by decide) ?_
    refine lv_iconst (v := 0) hx hb dL_showing_21 (by decide) ?_
    exact ow_wret C0 u hok rfl hP hD hS (by omega) (by omega) dL_showing_22
set_option maxHeartbeats 4000000 in
set_option maxRecDepth 100000 in
theorem c_L_settles (l : Launch) (D : va_G) (cs : Nat → ClassId) {S : Type} (sz x o : Nat) (x1 : Int32) (x2 : Int32) (x3 : Int32) (v : Nat → Int64) (w : va_W) (fs : List Value) (hw0 : w[0]? = some (x, .inr (10, fs))) (ok : S → Prop) (w' : S → va_W) (K : Nat) (r : Int32) (rmY : Room) (mc ms : Nat) (hc : rmY.cells = mc) (hs : rmY.slots = ms) (hf : rmY.frames ≤ 95) (hlo : rmY.locals ≤ 2300) (hK : K = 0 ∨ K = 3 ∨ K = 2) (hM : ∀ sz, XS l D cs yX10_settles wsX10_settles rmY [.ref x, .int x1, .int x2, .int x3] sz w ok w' K r mc ms) : MW l D cs yL_settles wsL_settles (rmL mc ms) [.ref x, .int x1, .int x2, .int x3, .ref o] sz (w ++ [oCell cs o v]) ok (fun u => oCell cs o (if K = 0 then vp_updL v (0 : Int32).toNatClampNeg (if r = 0 then (0 : Int64) else 1) else v) :: w' u) (if K = 3 then 1 else if K = 2 then 2 else 0 : Int32) mc ms := by
  refine ow_enterH (S := S) (y := yL_settles) (ws := wsL_settles) (av := [.ref x, .int x1, .int x2, .int x3, .ref o]) (sz := sz) (w := w ++ [oCell cs o v]) (Qc := fun sz => va_Qi (fun x (u : S) => x = (if K = 3 then 1 else if K = 2 then 2 else 0 : Int32) ∧ ok u) (fun u t => va_P D vwCl ((fun u => oCell cs o (if K = 0 then vp_updL v (0 : Int32).toNatClampNeg (if r = 0 then (0 : Int64) else 1) else v) :: w' u) u) t.heap ∧ va_D (va_A (w ++ [oCell cs o v]) sz) ((fun u => oCell cs o (if K = 0 then vp_updL v (0 : Int32).toNatClampNeg (if r = 0 then (0 : Int64) else 1) else v) :: w' u) u)) (va_A (w ++ [oCell cs o v]) sz)) (cc := cL_settles) (nL := 6) (ret := some .int) (hh := [(0, 19, 22, 37), (0, 19, 26, 31)]) (by decide) rfl (Nat.le_of_ble_eq_true rfl) (fun p e s m below meth c ls H locs C0 hN hC ht hP hD hS hsz hl => ?_)
  obtain ⟨hx, hb, hr, hlk, hml, hown, hts, hK0, hG, hE⟩ := id C0
  have hl : lv_has ls 6 [(0, .ref x), (1, .int x1), (2, .int x2), (3, .int x3), (4, .ref o)] := hl
  refine lv_aload hx hb dL_settles_0 (lv_at hl 4 rfl) ?_
  refine lv_iconst (v := 0) hx hb dL_settles_2 (by decide) ?_
  refine lv_aload_n hx hb dL_settles_3 rfl (lv_at hl 0 rfl) ?_
  refine lv_iload_n hx hb dL_settles_4 rfl (lv_at hl 1 rfl) ?_
  refine lv_iload_n hx hb dL_settles_5 rfl (lv_at hl 2 rfl) ?_
  refine lv_iload_n hx hb dL_settles_6 rfl (lv_at hl 3 rfl) ?_
  refine ow_wcall (As := [.int x1, .int x2, .int x3]) (rest := [.int 0, .ref o]) (k := K) (r := r) C0 hN (hM H.size) (cwV 3 hts gL_settles_X10_settles rfl hc hs (by decide +kernel) ⟨by show rmY.frames + 1 ≤ 100; omega, by show 8 + (_ + 11) + rmY.locals ≤ 2400; omega⟩) 10 rfl hw0 hP hD hS rfl hl.1 rfl (Nat.le_of_ble_eq_true rfl) ⟨by show 0 + mc ≤ mc; omega, by show 0 + ms ≤ ms; omega⟩ dL_settles_7 (fun hk u q9 ce H1 locs1 hok hce hcv hcl hP hD hS => ?_) (fun hk u H locs hok hP hD hS => ?_)
  · rcases hK with rfl | rfl | rfl
    · exact absurd rfl hk
    · refine vx_catch (own := RL) (name := "java/lang/IndexOutOfBoundsException") hown [] ⟨0, 19, 22, 37⟩ [⟨0, 19, 26, 31⟩] (ht.trans rfl) (fun _ h => nomatch h) (by decide) (by decide) (hts (.classLink RL 37 "java/lang/IndexOutOfBoundsException") (List.mem_of_getElem? (i := 1) rfl)) (va_Nw.use rfl (hN.2.2.2.1 "java/lang/IndexOutOfBoundsException" (by decide))) hce hcv hcl ?_
      refine lv_astore (lv' := [(5, .ref q9), (0, .ref x), (1, .int x1), (2, .int x2), (3, .int x3), (4, .ref o)]) hx hb dL_settles_22 hl (by decide) rfl (fun ls hl => ?_)
      refine lv_iconst (v := 1) hx hb dL_settles_24 (by decide) ?_
      exact ow_wret C0 u hok rfl hP hD hS (by omega) (by omega) dL_settles_25
    · refine vx_catch (own := RL) (name := "java/util/NoSuchElementException") hown [⟨0, 19, 22, 37⟩] ⟨0, 19, 26, 31⟩ [] (ht.trans rfl) (List.forall_mem_cons.mpr ⟨Or.inr ⟨by decide, "java/lang/IndexOutOfBoundsException", (hts (.classLink RL 37 "java/lang/IndexOutOfBoundsException") (List.mem_of_getElem? (i := 1) rfl)), hC.2.1⟩, fun _ h => nomatch h⟩) (by decide) (by decide) (hts (.classLink RL 31 "java/util/NoSuchElementException") (List.mem_of_getElem? (i := 2) rfl)) (va_Nw.use rfl (hN.2.2.2.1 "java/util/NoSuchElementException" (by decide))) hce hcv hcl ?_
      refine lv_astore (lv' := [(5, .ref q9), (0, .ref x), (1, .int x1), (2, .int x2), (3, .int x3), (4, .ref o)]) hx hb dL_settles_26 hl (by decide) rfl (fun ls hl => ?_)
      refine lv_iconst (v := 2) hx hb dL_settles_28 (by decide) ?_
      exact ow_wret C0 u hok rfl hP hD hS (by omega) (by omega) dL_settles_29
  · subst hk
    refine lv_if_eq (tgt := 17) hx hb dL_settles_10 (by decide) (fun hz => ?_) (fun hz => ?_)
    · rw [show (if r = 0 then (0 : Int64) else 1) = 0 from if_pos hz]
      refine lv_lconst (v := 0) hx hb dL_settles_17 rfl ?_
      refine va_last (x := 0) hx hb hK0 hP hD hS 0 2 rfl rfl (vp_in_nI (n := 0) (by decide) (by decide)) dL_settles_18 (fun H locs hP hD hS => ?_)
      refine lv_goto (tgt := 30) hx hb dL_settles_19 (by decide) ?_
      refine lv_iconst (v := 0) hx hb dL_settles_30 (by decide) ?_
      exact ow_wret C0 u hok rfl hP hD hS (by omega) (by omega) dL_settles_31
    · rw [show (if r = 0 then (0 : Int64) else 1) = 1 from if_neg hz]
      refine lv_lconst (v := 1) hx hb dL_settles_13 rfl ?_
      refine lv_goto (tgt := 18) hx hb dL_settles_14 (by decide) ?_
      refine va_last (x := 1) hx hb hK0 hP hD hS 0 2 rfl rfl (vp_in_nI (n := 0) (by decide) (by decide)) dL_settles_18 (fun H locs hP hD hS => ?_)
      refine lv_goto (tgt := 30) hx hb dL_settles_19 (by decide) ?_
      refine lv_iconst (v := 0) hx hb dL_settles_30 (by decide) ?_
      exact ow_wret C0 u hok rfl hP hD hS (by omega) (by omega) dL_settles_31
set_option maxHeartbeats 4000000 in
set_option maxRecDepth 100000 in
theorem c_L_order (l : Launch) (D : va_G) (cs : Nat → ClassId) {S : Type} (sz x o : Nat) (x1 : Int32) (x2 : Int32) (v : Nat → Int64) (w : va_W) (fs : List Value) (hw0 : w[0]? = some (x, .inr (10, fs))) (ok : S → Prop) (w' : S → va_W) (K : Nat) (r : Int32) (rmY : Room) (mc ms : Nat) (hc : rmY.cells = mc) (hs : rmY.slots = ms) (hf : rmY.frames ≤ 95) (hlo : rmY.locals ≤ 2300) (hK : K = 0 ∨ K = 2 ∨ K = 1) (hM : ∀ sz, XS l D cs yX10_order wsX10_order rmY [.ref x, .int x1, .int x2] sz w ok w' K r mc ms) : MW l D cs yL_order wsL_order (rmL mc ms) [.ref x, .int x1, .int x2, .ref o] sz (w ++ [oCell cs o v]) ok (fun u => oCell cs o (if K = 0 then vp_updL v (0 : Int32).toNatClampNeg r.toInt64 else v) :: w' u) (if K = 2 then 1 else if K = 1 then 2 else 0 : Int32) mc ms := by
  refine ow_enterH (S := S) (y := yL_order) (ws := wsL_order) (av := [.ref x, .int x1, .int x2, .ref o]) (sz := sz) (w := w ++ [oCell cs o v]) (Qc := fun sz => va_Qi (fun x (u : S) => x = (if K = 2 then 1 else if K = 1 then 2 else 0 : Int32) ∧ ok u) (fun u t => va_P D vwCl ((fun u => oCell cs o (if K = 0 then vp_updL v (0 : Int32).toNatClampNeg r.toInt64 else v) :: w' u) u) t.heap ∧ va_D (va_A (w ++ [oCell cs o v]) sz) ((fun u => oCell cs o (if K = 0 then vp_updL v (0 : Int32).toNatClampNeg r.toInt64 else v) :: w' u) u)) (va_A (w ++ [oCell cs o v]) sz)) (cc := cL_order) (nL := 5) (ret := some .int) (hh := [(0, 10, 13, 31), (0, 10, 17, 13)]) (by decide) rfl (Nat.le_of_ble_eq_true rfl) (fun p e s m below meth c ls H locs C0 hN hC ht hP hD hS hsz hl => ?_)
  obtain ⟨hx, hb, hr, hlk, hml, hown, hts, hK0, hG, hE⟩ := id C0
  have hl : lv_has ls 5 [(0, .ref x), (1, .int x1), (2, .int x2), (3, .ref o)] := hl
  refine lv_aload_n hx hb dL_order_0 rfl (lv_at hl 3 rfl) ?_
  refine lv_iconst (v := 0) hx hb dL_order_1 (by decide) ?_
  refine lv_aload_n hx hb dL_order_2 rfl (lv_at hl 0 rfl) ?_
  refine lv_iload_n hx hb dL_order_3 rfl (lv_at hl 1 rfl) ?_
  refine lv_iload_n hx hb dL_order_4 rfl (lv_at hl 2 rfl) ?_
  refine ow_wcall (As := [.int x1, .int x2]) (rest := [.int 0, .ref o]) (k := K) (r := r) C0 hN (hM H.size) (cwV 2 hts gL_order_X10_order rfl hc hs (by decide +kernel) ⟨by show rmY.frames + 1 ≤ 100; omega, by show 8 + (_ + 11) + rmY.locals ≤ 2400; omega⟩) 10 rfl hw0 hP hD hS rfl hl.1 rfl (Nat.le_of_ble_eq_true rfl) ⟨by show 0 + mc ≤ mc; omega, by show 0 + ms ≤ ms; omega⟩ dL_order_5 (fun hk u q9 ce H1 locs1 hok hce hcv hcl hP hD hS => ?_) (fun hk u H locs hok hP hD hS => ?_)
  · rcases hK with rfl | rfl | rfl
    · exact absurd rfl hk
    · refine vx_catch (own := RL) (name := "java/util/NoSuchElementException") hown [] ⟨0, 10, 13, 31⟩ [⟨0, 10, 17, 13⟩] (ht.trans rfl) (fun _ h => nomatch h) (by decide) (by decide) (hts (.classLink RL 31 "java/util/NoSuchElementException") (List.mem_of_getElem? (i := 1) rfl)) (va_Nw.use rfl (hN.2.2.2.1 "java/util/NoSuchElementException" (by decide))) hce hcv hcl ?_
      refine lv_astore (lv' := [(4, .ref q9), (0, .ref x), (1, .int x1), (2, .int x2), (3, .ref o)]) hx hb dL_order_13 hl (by decide) rfl (fun ls hl => ?_)
      refine lv_iconst (v := 1) hx hb dL_order_15 (by decide) ?_
      exact ow_wret C0 u hok rfl hP hD hS (by omega) (by omega) dL_order_16
    · refine vx_catch (own := RL) (name := "java/lang/IllegalArgumentException") hown [⟨0, 10, 13, 31⟩] ⟨0, 10, 17, 13⟩ [] (ht.trans rfl) (List.forall_mem_cons.mpr ⟨Or.inr ⟨by decide, "java/util/NoSuchElementException", (hts (.classLink RL 31 "java/util/NoSuchElementException") (List.mem_of_getElem? (i := 1) rfl)), hC.1⟩, fun _ h => nomatch h⟩) (by decide) (by decide) (hts (.classLink RL 13 "java/lang/IllegalArgumentException") (List.mem_of_getElem? (i := 2) rfl)) (va_Nw.use rfl (hN.2.2.2.1 "java/lang/IllegalArgumentException" (by decide))) hce hcv hcl ?_
      refine lv_astore (lv' := [(4, .ref q9), (0, .ref x), (1, .int x1), (2, .int x2), (3, .ref o)]) hx hb dL_order_17 hl (by decide) rfl (fun ls hl => ?_)
      refine lv_iconst (v := 2) hx hb dL_order_19 (by decide) ?_
      exact ow_wret C0 u hok rfl hP hD hS (by omega) (by omega) dL_order_20
  · subst hk
    refine lv_i2l (v := r.toInt64) hx hb dL_order_8 rfl ?_
    refine va_last (x := r.toInt64) hx hb hK0 hP hD hS 0 2 rfl rfl (vp_in_nI (n := 0) (by decide) (by decide)) dL_order_9 (fun H locs hP hD hS => ?_)
    refine lv_goto (tgt := 21) hx hb dL_order_10 (by decide) ?_
    refine lv_iconst (v := 0) hx hb dL_order_21 (by decide) ?_
    exact ow_wret C0 u hok rfl hP hD hS (by omega) (by omega) dL_order_22
set_option maxHeartbeats 4000000 in
set_option maxRecDepth 100000 in
theorem c_L_needs (l : Launch) (D : va_G) (cs : Nat → ClassId) {S : Type} (sz x o : Nat) (x1 : Int32) (v : Nat → Int64) (w : va_W) (fs : List Value) (hw0 : w[0]? = some (x, .inr (10, fs))) (ok : S → Prop) (w' : S → va_W) (K : Nat) (r : Int32) (rmY : Room) (mc ms : Nat) (hc : rmY.cells = mc) (hs : rmY.slots = ms) (hf : rmY.frames ≤ 95) (hlo : rmY.locals ≤ 2300) (hK : K = 0 ∨ K = 2) (hM : ∀ sz, XS l D cs yX10_needs wsX10_needs rmY [.ref x, .int x1] sz w ok w' K r mc ms) : MW l D cs yL_needs wsL_needs (rmL mc ms) [.ref x, .int x1, .ref o] sz (w ++ [oCell cs o v]) ok (fun u => oCell cs o (if K = 0 then vp_updL v (0 : Int32).toNatClampNeg r.toInt64 else v) :: w' u) (if K = 2 then 1 else 0 : Int32) mc ms := by
  refine ow_enterH (S := S) (y := yL_needs) (ws := wsL_needs) (av := [.ref x, .int x1, .ref o]) (sz := sz) (w := w ++ [oCell cs o v]) (Qc := fun sz => va_Qi (fun x (u : S) => x = (if K = 2 then 1 else 0 : Int32) ∧ ok u) (fun u t => va_P D vwCl ((fun u => oCell cs o (if K = 0 then vp_updL v (0 : Int32).toNatClampNeg r.toInt64 else v) :: w' u) u) t.heap ∧ va_D (va_A (w ++ [oCell cs o v]) sz) ((fun u => oCell cs o (if K = 0 then vp_updL v (0 : Int32).toNatClampNeg r.toInt64 else v) :: w' u) u)) (va_A (w ++ [oCell cs o v]) sz)) (cc := cL_needs) (nL := 4) (ret := some .int) (hh := [(0, 9, 12, 31)]) (by decide) rfl (Nat.le_of_ble_eq_true rfl) (fun p e s m below meth c ls H locs C0 hN hC ht hP hD hS hsz hl => ?_)
  obtain ⟨hx, hb, hr, hlk, hml, hown, hts, hK0, hG, hE⟩ := id C0
  have hl : lv_has ls 4 [(0, .ref x), (1, .int x1), (2, .ref o)] := hl
  refine lv_aload_n hx hb dL_needs_0 rfl (lv_at hl 2 rfl) ?_
  refine lv_iconst (v := 0) hx hb dL_needs_1 (by decide) ?_
  refine lv_aload_n hx hb dL_needs_2 rfl (lv_at hl 0 rfl) ?_
  refine lv_iload_n hx hb dL_needs_3 rfl (lv_at hl 1 rfl) ?_
  refine ow_wcall (As := [.int x1]) (rest := [.int 0, .ref o]) (k := K) (r := r) C0 hN (hM H.size) (cwV 1 hts gL_needs_X10_needs rfl hc hs (by decide +kernel) ⟨by show rmY.frames + 1 ≤ 100; omega, by show 8 + (_ + 11) + rmY.locals ≤ 2400; omega⟩) 10 rfl hw0 hP hD hS rfl hl.1 rfl (Nat.le_of_ble_eq_true rfl) ⟨by show 0 + mc ≤ mc; omega, by show 0 + ms ≤ ms; omega⟩ dL_needs_4 (fun hk u q9 ce H1 locs1 hok hce hcv hcl hP hD hS => ?_) (fun hk u H locs hok hP hD hS => ?_)
  · rcases hK with rfl | rfl
    · exact absurd rfl hk
    · refine vx_catch (own := RL) (name := "java/util/NoSuchElementException") hown [] ⟨0, 9, 12, 31⟩ [] (ht.trans rfl) (fun _ h => nomatch h) (by decide) (by decide) (hts (.classLink RL 31 "java/util/NoSuchElementException") (List.mem_of_getElem? (i := 1) rfl)) (va_Nw.use rfl (hN.2.2.2.1 "java/util/NoSuchElementException" (by decide))) hce hcv hcl ?_
      refine lv_astore_n (lv' := [(3, .ref q9), (0, .ref x), (1, .int x1), (2, .ref o)]) hx hb dL_needs_12 rfl hl (by decide) rfl (fun ls hl => ?_)
      refine lv_iconst (v := 1) hx hb dL_needs_13 (by decide) ?_
      exact ow_wret C0 u hok rfl hP hD hS (by omega) (by omega) dL_needs_14
  · subst hk
    refine lv_i2l (v := r.toInt64) hx hb dL_needs_7 rfl ?_
    refine va_last (x := r.toInt64) hx hb hK0 hP hD hS 0 2 rfl rfl (vp_in_nI (n := 0) (by decide) (by decide)) dL_needs_8 (fun H locs hP hD hS => ?_)
    refine lv_goto (tgt := 15) hx hb dL_needs_9 (by decide) ?_
    refine lv_iconst (v := 0) hx hb dL_needs_15 (by decide) ?_
    exact ow_wret C0 u hok rfl hP hD hS (by omega) (by omega) dL_needs_16
set_option maxHeartbeats 4000000 in
set_option maxRecDepth 100000 in
theorem c_L_cost (l : Launch) (D : va_G) (cs : Nat → ClassId) {S : Type} (sz x o : Nat) (x1 : Int32) (x2 : Int32) (x3 : Int32) (v : Nat → Int64) (w : va_W) (fs : List Value) (hw0 : w[0]? = some (x, .inr (10, fs))) (ok : S → Prop) (w' : S → va_W) (K : Nat) (r : Int32) (rmY : Room) (mc ms : Nat) (hc : rmY.cells = mc) (hs : rmY.slots = ms) (hf : rmY.frames ≤ 95) (hlo : rmY.locals ≤ 2300) (hK : K = 0 ∨ K = 2 ∨ K = 1) (hM : ∀ sz, XS l D cs yX10_cost wsX10_cost rmY [.ref x, .int x1, .int x2, .int x3] sz w ok w' K r mc ms) : MW l D cs yL_cost wsL_cost (rmL mc ms) [.ref x, .int x1, .int x2, .int x3, .ref o] sz (w ++ [oCell cs o v]) ok (fun u => oCell cs o (if K = 0 then vp_updL v (0 : Int32).toNatClampNeg r.toInt64 else v) :: w' u) (if K = 2 then 1 else if K = 1 then 2 else 0 : Int32) mc ms := by
  refine ow_enterH (S := S) (y := yL_cost) (ws := wsL_cost) (av := [.ref x, .int x1, .int x2, .int x3, .ref o]) (sz := sz) (w := w ++ [oCell cs o v]) (Qc := fun sz => va_Qi (fun x (u : S) => x = (if K = 2 then 1 else if K = 1 then 2 else 0 : Int32) ∧ ok u) (fun u t => va_P D vwCl ((fun u => oCell cs o (if K = 0 then vp_updL v (0 : Int32).toNatClampNeg r.toInt64 else v) :: w' u) u) t.heap ∧ va_D (va_A (w ++ [oCell cs o v]) sz) ((fun u => oCell cs o (if K = 0 then vp_updL v (0 : Int32).toNatClampNeg r.toInt64 else v) :: w' u) u)) (va_A (w ++ [oCell cs o v]) sz)) (cc := cL_cost) (nL := 6) (ret := some .int) (hh := [(0, 12, 15, 31), (0, 12, 19, 13)]) (by decide) rfl (Nat.le_of_ble_eq_true rfl) (fun p e s m below meth c ls H locs C0 hN hC ht hP hD hS hsz hl => ?_)
  obtain ⟨hx, hb, hr, hlk, hml, hown, hts, hK0, hG, hE⟩ := id C0
  have hl : lv_has ls 6 [(0, .ref x), (1, .int x1), (2, .int x2), (3, .int x3), (4, .ref o)] := hl
  refine lv_aload hx hb dL_cost_0 (lv_at hl 4 rfl) ?_
  refine lv_iconst (v := 0) hx hb dL_cost_2 (by decide) ?_
  refine lv_aload_n hx hb dL_cost_3 rfl (lv_at hl 0 rfl) ?_
  refine lv_iload_n hx hb dL_cost_4 rfl (lv_at hl 1 rfl) ?_
  refine lv_iload_n hx hb dL_cost_5 rfl (lv_at hl 2 rfl) ?_
  refine lv_iload_n hx hb dL_cost_6 rfl (lv_at hl 3 rfl) ?_
  refine ow_wcall (As := [.int x1, .int x2, .int x3]) (rest := [.int 0, .ref o]) (k := K) (r := r) C0 hN (hM H.size) (cwV 3 hts gL_cost_X10_cost rfl hc hs (by decide +kernel) ⟨by show rmY.frames + 1 ≤ 100; omega, by show 8 + (_ + 11) + rmY.locals ≤ 2400; omega⟩) 10 rfl hw0 hP hD hS rfl hl.1 rfl (Nat.le_of_ble_eq_true rfl) ⟨by show 0 + mc ≤ mc; omega, by show 0 + ms ≤ ms; omega⟩ dL_cost_7 (fun hk u q9 ce H1 locs1 hok hce hcv hcl hP hD hS => ?_) (fun hk u H locs hok hP hD hS => ?_)
  · rcases hK with rfl | rfl | rfl
    · exact absurd rfl hk
    · refine vx_catch (own := RL) (name := "java/util/NoSuchElementException") hown [] ⟨0, 12, 15, 31⟩ [⟨0, 12, 19, 13⟩] (ht.trans rfl) (fun _ h => nomatch h) (by decide) (by decide) (hts (.classLink RL 31 "java/util/NoSuchElementException") (List.mem_of_getElem? (i := 1) rfl)) (va_Nw.use rfl (hN.2.2.2.1 "java/util/NoSuchElementException" (by decide))) hce hcv hcl ?_
      refine lv_astore (lv' := [(5, .ref q9), (0, .ref x), (1, .int x1), (2, .int x2), (3, .int x3), (4, .ref o)]) hx hb dL_cost_15 hl (by decide) rfl (fun ls hl => ?_)
      refine lv_iconst (v := 1) hx hb dL_cost_17 (by decide) ?_
      exact ow_wret C0 u hok rfl hP hD hS (by omega) (by omega) dL_cost_18
    · refine vx_catch (own := RL) (name := "java/lang/IllegalArgumentException") hown [⟨0, 12, 15, 31⟩] ⟨0, 12, 19, 13⟩ [] (ht.trans rfl) (List.forall_mem_cons.mpr ⟨Or.inr ⟨by decide, "java/util/NoSuchElementException", (hts (.classLink RL 31 "java/util/NoSuchElementException") (List.mem_of_getElem? (i := 1) rfl)), hC.1⟩, fun _ h => nomatch h⟩) (by decide) (by decide) (hts (.classLink RL 13 "java/lang/IllegalArgumentException") (List.mem_of_getElem? (i := 2) rfl)) (va_Nw.use rfl (hN.2.2.2.1 "java/lang/IllegalArgumentException" (by decide))) hce hcv hcl ?_
      refine lv_astore (lv' := [(5, .ref q9), (0, .ref x), (1, .int x1), (2, .int x2), (3, .int x3), (4, .ref o)]) hx hb dL_cost_19 hl (by decide) rfl (fun ls hl => ?_)
      refine lv_iconst (v := 2) hx hb dL_cost_21 (by decide) ?_
      exact ow_wret C0 u hok rfl hP hD hS (by omega) (by omega) dL_cost_22
  · subst hk
    refine lv_i2l (v := r.toInt64) hx hb dL_cost_10 rfl ?_
    refine va_last (x := r.toInt64) hx hb hK0 hP hD hS 0 2 rfl rfl (vp_in_nI (n := 0) (by decide) (by decide)) dL_cost_11 (fun H locs hP hD hS => ?_)
    refine lv_goto (tgt := 23) hx hb dL_cost_12 (by decide) ?_
    refine lv_iconst (v := 0) hx hb dL_cost_23 (by decide) ?_
    exact ow_wret C0 u hok rfl hP hD hS (by omega) (by omega) dL_cost_24
set_option maxHeartbeats 4000000 in
set_option maxRecDepth 100000 in
theorem c_L_view (l : Launch) (D : va_G) (cs : Nat → ClassId) {S : Type} (sz x o : Nat) (x1 : Int32) (x2 : Int32) (x3 : Int32) (v : Nat → Int64) (w : va_W) (fs : List Value) (hw0 : w[0]? = some (x, .inr (10, fs))) (ok : S → Prop) (w' : S → va_W) (K : Nat) (r : Int32) (rmY : Room) (mc ms : Nat) (hc : rmY.cells = mc) (hs : rmY.slots = ms) (hf : rmY.frames ≤ 95) (hlo : rmY.locals ≤ 2300) (hK : K = 0 ∨ K = 2 ∨ K = 1) (hM : ∀ sz, XS l D cs yX10_view wsX10_view rmY [.ref x, .int x1, .int x2, .int x3] sz w ok w' K r mc ms) : MW l D cs yL_view wsL_view (rmL mc ms) [.ref x, .int x1, .int x2, .int x3, .ref o] sz (w ++ [oCell cs o v]) ok (fun u => oCell cs o (if K = 0 then vp_updL v (0 : Int32).toNatClampNeg r.toInt64 else v) :: w' u) (if K = 2 then 1 else if K = 1 then 2 else 0 : Int32) mc ms := by
  refine ow_enterH (S := S) (y := yL_view) (ws := wsL_view) (av := [.ref x, .int x1, .int x2, .int x3, .ref o]) (sz := sz) (w := w ++ [oCell cs o v]) (Qc := fun sz => va_Qi (fun x (u : S) => x = (if K = 2 then 1 else if K = 1 then 2 else 0 : Int32) ∧ ok u) (fun u t => va_P D vwCl ((fun u => oCell cs o (if K = 0 then vp_updL v (0 : Int32).toNatClampNeg r.toInt64 else v) :: w' u) u) t.heap ∧ va_D (va_A (w ++ [oCell cs o v]) sz) ((fun u => oCell cs o (if K = 0 then vp_updL v (0 : Int32).toNatClampNeg r.toInt64 else v) :: w' u) u)) (va_A (w ++ [oCell cs o v]) sz)) (cc := cL_view) (nL := 6) (ret := some .int) (hh := [(0, 12, 15, 31), (0, 12, 19, 13)]) (by decide) rfl (Nat.le_of_ble_eq_true rfl) (fun p e s m below meth c ls H locs C0 hN hC ht hP hD hS hsz hl => ?_)
  obtain ⟨hx, hb, hr, hlk, hml, hown, hts, hK0, hG, hE⟩ := id C0
  have hl : lv_has ls 6 [(0, .ref x), (1, .int x1), (2, .int x2), (3, .int x3), (4, .ref o)] := hl
  refine lv_aload hx hb dL_view_0 (lv_at hl 4 rfl) ?_
  refine lv_iconst (v := 0) hx hb dL_view_2 (by decide) ?_
  refine lv_aload_n hx hb dL_view_3 rfl (lv_at hl 0 rfl) ?_
  refine lv_iload_n hx hb dL_view_4 rfl (lv_at hl 1 rfl) ?_
  refine lv_iload_n hx hb dL_view_5 rfl (lv_at hl 2 rfl) ?_
  refine lv_iload_n hx hb dL_view_6 rfl (lv_at hl 3 rfl) ?_
  refine ow_wcall (As := [.int x1, .int x2, .int x3]) (rest := [.int 0, .ref o]) (k := K) (r := r) C0 hN (hM H.size) (cwV 3 hts gL_view_X10_view rfl hc hs (by decide +kernel) ⟨by show rmY.frames + 1 ≤ 100; omega, by show 8 + (_ + 11) + rmY.locals ≤ 2400; omega⟩) 10 rfl hw0 hP hD hS rfl hl.1 rfl (Nat.le_of_ble_eq_true rfl) ⟨by show 0 + mc ≤ mc; omega, by show 0 + ms ≤ ms; omega⟩ dL_view_7 (fun hk u q9 ce H1 locs1 hok hce hcv hcl hP hD hS => ?_) (fun hk u H locs hok hP hD hS => ?_)
  · rcases hK with rfl | rfl | rfl
    · exact absurd rfl hk
    · refine vx_catch (own := RL) (name := "java/util/NoSuchElementException") hown [] ⟨0, 12, 15, 31⟩ [⟨0, 12, 19, 13⟩] (ht.trans rfl) (fun _ h => nomatch h) (by decide) (by decide) (hts (.classLink RL 31 "java/util/NoSuchElementException") (List.mem_of_getElem? (i := 1) rfl)) (va_Nw.use rfl (hN.2.2.2.1 "java/util/NoSuchElementException" (by decide))) hce hcv hcl ?_
      refine lv_astore (lv' := [(5, .ref q9), (0, .ref x), (1, .int x1), (2, .int x2), (3, .int x3), (4, .ref o)]) hx hb dL_view_15 hl (by decide) rfl (fun ls hl => ?_)
      refine lv_iconst (v := 1) hx hb dL_view_17 (by decide) ?_
      exact ow_wret C0 u hok rfl hP hD hS (by omega) (by omega) dL_view_18
    · refine vx_catch (own := RL) (name := "java/lang/IllegalArgumentException") hown [⟨0, 12, 15, 31⟩] ⟨0, 12, 19, 13⟩ [] (ht.trans rfl) (List.forall_mem_cons.mpr ⟨Or.inr ⟨by decide, "java/util/NoSuchElementException", (hts (.classLink RL 31 "java/util/NoSuchElementException") (List.mem_of_getElem? (i := 1) rfl)), hC.1⟩, fun _ h => nomatch h⟩) (by decide) (by decide) (hts (.classLink RL 13 "java/lang/IllegalArgumentException") (List.mem_of_getElem? (i := 2) rfl)) (va_Nw.use rfl (hN.2.2.2.1 "java/lang/IllegalArgumentException" (by decide))) hce hcv hcl ?_
      refine lv_astore (lv' := [(5, .ref q9), (0, .ref x), (1, .int x1), (2, .int x2), (3, .int x3), (4, .ref o)]) hx hb dL_view_19 hl (by decide) rfl (fun ls hl => ?_)
      refine lv_iconst (v := 2) hx hb dL_view_21 (by decide) ?_
      exact ow_wret C0 u hok rfl hP hD hS (by omega) (by omega) dL_view_22
  · subst hk
    refine lv_i2l (v := r.toInt64) hx hb dL_view_10 rfl ?_
    refine va_last (x := r.toInt64) hx hb hK0 hP hD hS 0 2 rfl rfl (vp_in_nI (n := 0) (by decide) (by decide)) dL_view_11 (fun H locs hP hD hS => ?_)
    refine lv_goto (tgt := 23) hx hb dL_view_12 (by decide) ?_
    refine lv_iconst (v := 0) hx hb dL_view_23 (by decide) ?_
    exact ow_wret C0 u hok rfl hP hD hS (by omega) (by omega) dL_view_24
set_option maxHeartbeats 4000000 in
set_option maxRecDepth 100000 in
theorem c_L_seams (l : Launch) (D : va_G) (cs : Nat → ClassId) {S : Type} (sz x o : Nat) (x1 : Int32) (v : Nat → Int64) (w : va_W) (fs : List Value) (hw0 : w[0]? = some (x, .inr (10, fs))) (ok : S → Prop) (w' : S → va_W) (K : Nat) (r : Int32) (rmY : Room) (mc ms : Nat) (hc : rmY.cells = mc) (hs : rmY.slots = ms) (hf : rmY.frames ≤ 95) (hlo : rmY.locals ≤ 2300) (hK : K = 0 ∨ K = 2) (hM : ∀ sz, XS l D cs yX10_seams wsX10_seams rmY [.ref x, .int x1] sz w ok w' K r mc ms) : MW l D cs yL_seams wsL_seams (rmL mc ms) [.ref x, .int x1, .ref o] sz (w ++ [oCell cs o v]) ok (fun u => oCell cs o (if K = 0 then vp_updL v (0 : Int32).toNatClampNeg r.toInt64 else v) :: w' u) (if K = 2 then 1 else 0 : Int32) mc ms := by
  refine ow_enterH (S := S) (y := yL_seams) (ws := wsL_seams) (av := [.ref x, .int x1, .ref o]) (sz := sz) (w := w ++ [oCell cs o v]) (Qc := fun sz => va_Qi (fun x (u : S) => x = (if K = 2 then 1 else 0 : Int32) ∧ ok u) (fun u t => va_P D vwCl ((fun u => oCell cs o (if K = 0 then vp_updL v (0 : Int32).toNatClampNeg r.toInt64 else v) :: w' u) u) t.heap ∧ va_D (va_A (w ++ [oCell cs o v]) sz) ((fun u => oCell cs o (if K = 0 then vp_updL v (0 : Int32).toNatClampNeg r.toInt64 else v) :: w' u) u)) (va_A (w ++ [oCell cs o v]) sz)) (cc := cL_seams) (nL := 4) (ret := some .int) (hh := [(0, 9, 12, 31)]) (by decide) rfl (Nat.le_of_ble_eq_true rfl) (fun p e s m below meth c ls H locs C0 hN hC ht hP hD hS hsz hl => ?_)
  obtain ⟨hx, hb, hr, hlk, hml, hown, hts, hK0, hG, hE⟩ := id C0
  have hl : lv_has ls 4 [(0, .ref x), (1, .int x1), (2, .ref o)] := hl
  refine lv_aload_n hx hb dL_seams_0 rfl (lv_at hl 2 rfl) ?_
  refine lv_iconst (v := 0) hx hb dL_seams_1 (by decide) ?_
  refine lv_aload_n hx hb dL_seams_2 rfl (lv_at hl 0 rfl) ?_
  refine lv_iload_n hx hb dL_seams_3 rfl (lv_at hl 1 rfl) ?_
  refine ow_wcall (As := [.int x1]) (rest := [.int 0, .ref o]) (k := K) (r := r) C0 hN (hM H.size) (cwV 1 hts gL_seams_X10_seams rfl hc hs (by decide +kernel) ⟨by show rmY.frames + 1 ≤ 100; omega, by show 8 + (_ + 11) + rmY.locals ≤ 2400; omega⟩) 10 rfl hw0 hP hD hS rfl hl.1 rfl (Nat.le_of_ble_eq_true rfl) ⟨by show 0 + mc ≤ mc; omega, by show 0 + ms ≤ ms; omega⟩ dL_seams_4 (fun hk u q9 ce H1 locs1 hok hce hcv hcl hP hD hS => ?_) (fun hk u H locs hok hP hD hS => ?_)
  · rcases hK with rfl | rfl
    · exact absurd rfl hk
    · refine vx_catch (own := RL) (name := "java/util/NoSuchElementException") hown [] ⟨0, 9, 12, 31⟩ [] (ht.trans rfl) (fun _ h => nomatch h) (by decide) (by decide) (hts (.classLink RL 31 "java/util/NoSuchElementException") (List.mem_of_getElem? (i := 1) rfl)) (va_Nw.use rfl (hN.2.2.2.1 "java/util/NoSuchElementException" (by decide))) hce hcv hcl ?_
      refine lv_astore_n (lv' := [(3, .ref q9), (0, .ref x), (1, .int x1), (2, .ref o)]) hx hb dL_seams_12 rfl hl (by decide) rfl (fun ls hl => ?_)
      refine lv_iconst (v := 1) hx hb dL_seams_13 (by decide) ?_
      exact ow_wret C0 u hok rfl hP hD hS (by omega) (by omega) dL_seams_14
  · subst hk
    refine lv_i2l (v := r.toInt64) hx hb dL_seams_7 rfl ?_
    refine va_last (x := r.toInt64) hx hb hK0 hP hD hS 0 2 rfl rfl (vp_in_nI (n := 0) (by decide) (by decide)) dL_seams_8 (fun H locs hP hD hS => ?_)
    refine lv_goto (tgt := 15) hx hb dL_seams_9 (by decide) ?_
    refine lv_iconst (v := 0) hx hb dL_seams_15 (by decide) ?_
    exact ow_wret C0 u hok rfl hP hD hS (by omega) (by omega) dL_seams_16
set_option maxHeartbeats 4000000 in
set_option maxRecDepth 100000 in
theorem c_L_sights (l : Launch) (D : va_G) (cs : Nat → ClassId) {S : Type} (sz x o : Nat) (x1 : Int32) (v : Nat → Int64) (w : va_W) (fs : List Value) (hw0 : w[0]? = some (x, .inr (10, fs))) (ok : S → Prop) (w' : S → va_W) (K : Nat) (r : Int32) (rmY : Room) (mc ms : Nat) (hc : rmY.cells = mc) (hs : rmY.slots = ms) (hf : rmY.frames ≤ 95) (hlo : rmY.locals ≤ 2300) (hK : K = 0 ∨ K = 2) (hM : ∀ sz, XS l D cs yX10_sights wsX10_sights rmY [.ref x, .int x1] sz w ok w' K r mc ms) : MW l D cs yL_sights wsL_sights (rmL mc ms) [.ref x, .int x1, .ref o] sz (w ++ [oCell cs o v]) ok (fun u => oCell cs o (if K = 0 then vp_updL v (0 : Int32).toNatClampNeg r.toInt64 else v) :: w' u) (if K = 2 then 1 else 0 : Int32) mc ms := by
  refine ow_enterH (S := S) (y := yL_sights) (ws := wsL_sights) (av := [.ref x, .int x1, .ref o]) (sz := sz) (w := w ++ [oCell cs o v]) (Qc := fun sz => va_Qi (fun x (u : S) => x = (if K = 2 then 1 else 0 : Int32) ∧ ok u) (fun u t => va_P D vwCl ((fun u => oCell cs o (if K = 0 then vp_updL v (0 : Int32).toNatClampNeg r.toInt64 else v) :: w' u) u) t.heap ∧ va_D (va_A (w ++ [oCell cs o v]) sz) ((fun u => oCell cs o (if K = 0 then vp_updL v (0 : Int32).toNatClampNeg r.toInt64 else v) :: w' u) u)) (va_A (w ++ [oCell cs o v]) sz)) (cc := cL_sights) (nL := 4) (ret := some .int) (hh := [(0, 9, 12, 31)]) (by decide) rfl (Nat.le_of_ble_eq_true rfl) (fun p e s m below meth c ls H locs C0 hN hC ht hP hD hS hsz hl => ?_)
  obtain ⟨hx, hb, hr, hlk, hml, hown, hts, hK0, hG, hE⟩ := id C0
  have hl : lv_has ls 4 [(0, .ref x), (1, .int x1), (2, .ref o)] := hl
  refine lv_aload_n hx hb dL_sights_0 rfl (lv_at hl 2 rfl) ?_
  refine lv_iconst (v := 0) hx hb dL_sights_1 (by decide) ?_
  refine lv_aload_n hx hb dL_sights_2 rfl (lv_at hl 0 rfl) ?_
  refine lv_iload_n hx hb dL_sights_3 rfl (lv_at hl 1 rfl) ?_
  refine ow_wcall (As := [.int x1]) (rest := [.int 0, .ref o]) (k := K) (r := r) C0 hN (hM H.size) (cwV 1 hts gL_sights_X10_sights rfl hc hs (by decide +kernel) ⟨by show rmY.frames + 1 ≤ 100; omega, by show 8 + (_ + 11) + rmY.locals ≤ 2400; omega⟩) 10 rfl hw0 hP hD hS rfl hl.1 rfl (Nat.le_of_ble_eq_true rfl) ⟨by show 0 + mc ≤ mc; omega, by show 0 + ms ≤ ms; omega⟩ dL_sights_4 (fun hk u q9 ce H1 locs1 hok hce hcv hcl hP hD hS => ?_) (fun hk u H locs hok hP hD hS => ?_)
  · rcases hK with rfl | rfl
    · exact absurd rfl hk
    · refine vx_catch (own := RL) (name := "java/util/NoSuchElementException") hown [] ⟨0, 9, 12, 31⟩ [] (ht.trans rfl) (fun _ h => nomatch h) (by decide) (by decide) (hts (.classLink RL 31 "java/util/NoSuchElementException") (List.mem_of_getElem? (i := 1) rfl)) (va_Nw.use rfl (hN.2.2.2.1 "java/util/NoSuchElementException" (by decide))) hce hcv hcl ?_
      refine lv_astore_n (lv' := [(3, .ref q9), (0, .ref x), (1, .int x1), (2, .ref o)]) hx hb dL_sights_12 rfl hl (by decide) rfl (fun ls hl => ?_)
      refine lv_iconst (v := 1) hx hb dL_sights_13 (by decide) ?_
      exact ow_wret C0 u hok rfl hP hD hS (by omega) (by omega) dL_sights_14
  · subst hk
    refine lv_i2l (v := r.toInt64) hx hb dL_sights_7 rfl ?_
    refine va_last (x := r.toInt64) hx hb hK0 hP hD hS 0 2 rfl rfl (vp_in_nI (n := 0) (by decide) (by decide)) dL_sights_8 (fun H locs hP hD hS => ?_)
    refine lv_goto (tgt := 15) hx hb dL_sights_9 (by decide) ?_
    refine lv_iconst (v := 0) hx hb dL_sights_15 (by decide) ?_
    exact ow_wret C0 u hok rfl hP hD hS (by omega) (by omega) dL_sights_16
set_option maxHeartbeats 4000000 in
set_option maxRecDepth 100000 in
theorem c_L_alike (l : Launch) (D : va_G) (cs : Nat → ClassId) {S : Type} (sz x o : Nat) (x1 : Int32) (x2 : Int32) (v : Nat → Int64) (w : va_W) (fs : List Value) (hw0 : w[0]? = some (x, .inr (10, fs))) (ok : S → Prop) (w' : S → va_W) (K : Nat) (r : Int32) (rmY : Room) (mc ms : Nat) (hc : rmY.cells = mc) (hs : rmY.slots = ms) (hf : rmY.frames ≤ 95) (hlo : rmY.locals ≤ 2300) (hK : K = 0 ∨ K = 2) (hM : ∀ sz, XS l D cs yX10_alike wsX10_alike rmY [.ref x, .int x1, .int x2] sz w ok w' K r mc ms) : MW l D cs yL_alike wsL_alike (rmL mc ms) [.ref x, .int x1, .int x2, .ref o] sz (w ++ [oCell cs o v]) ok (fun u => oCell cs o (if K = 0 then vp_updL v (0 : Int32).toNatClampNeg r.toInt64 else v) :: w' u) (if K = 2 then 1 else 0 : Int32) mc ms := by
  refine ow_enterH (S := S) (y := yL_alike) (ws := wsL_alike) (av := [.ref x, .int x1, .int x2, .ref o]) (sz := sz) (w := w ++ [oCell cs o v]) (Qc := fun sz => va_Qi (fun x (u : S) => x = (if K = 2 then 1 else 0 : Int32) ∧ ok u) (fun u t => va_P D vwCl ((fun u => oCell cs o (if K = 0 then vp_updL v (0 : Int32).toNatClampNeg r.toInt64 else v) :: w' u) u) t.heap ∧ va_D (va_A (w ++ [oCell cs o v]) sz) ((fun u => oCell cs o (if K = 0 then vp_updL v (0 : Int32).toNatClampNeg r.toInt64 else v) :: w' u) u)) (va_A (w ++ [oCell cs o v]) sz)) (cc := cL_alike) (nL := 5) (ret := some .int) (hh := [(0, 10, 13, 31)]) (by decide) rfl (Nat.le_of_ble_eq_true rfl) (fun p e s m below meth c ls H locs C0 hN hC ht hP hD hS hsz hl => ?_)
  obtain ⟨hx, hb, hr, hlk, hml, hown, hts, hK0, hG, hE⟩ := id C0
  have hl : lv_has ls 5 [(0, .ref x), (1, .int x1), (2, .int x2), (3, .ref o)] := hl
  refine lv_aload_n hx hb dL_alike_0 rfl (lv_at hl 3 rfl) ?_
  refine lv_iconst (v := 0) hx hb dL_alike_1 (by decide) ?_
  refine lv_aload_n hx hb dL_alike_2 rfl (lv_at hl 0 rfl) ?_
  refine lv_iload_n hx hb dL_alike_3 rfl (lv_at hl 1 rfl) ?_
  refine lv_iload_n hx hb dL_alike_4 rfl (lv_at hl 2 rfl) ?_
  refine ow_wcall (As := [.int x1, .int x2]) (rest := [.int 0, .ref o]) (k := K) (r := r) C0 hN (hM H.size) (cwV 2 hts gL_alike_X10_alike rfl hc hs (by decide +kernel) ⟨by show rmY.frames + 1 ≤ 100; omega, by show 8 + (_ + 11) + rmY.locals ≤ 2400; omega⟩) 10 rfl hw0 hP hD hS rfl hl.1 rfl (Nat.le_of_ble_eq_true rfl) ⟨by show 0 + mc ≤ mc; omega, by show 0 + ms ≤ ms; omega⟩ dL_alike_5 (fun hk u q9 ce H1 locs1 hok hce hcv hcl hP hD hS => ?_) (fun hk u H locs hok hP hD hS => ?_)
  · rcases hK with rfl | rfl
    · exact absurd rfl hk
    · refine vx_catch (own := RL) (name := "java/util/NoSuchElementException") hown [] ⟨0, 10, 13, 31⟩ [] (ht.trans rfl) (fun _ h => nomatch h) (by decide) (by decide) (hts (.classLink RL 31 "java/util/NoSuchElementException") (List.mem_of_getElem? (i := 1) rfl)) (va_Nw.use rfl (hN.2.2.2.1 "java/util/NoSuchElementException" (by decide))) hce hcv hcl ?_
      refine lv_astore (lv' := [(4, .ref q9), (0, .ref x), (1, .int x1), (2, .int x2), (3, .ref o)]) hx hb dL_alike_13 hl (by decide) rfl (fun ls hl => ?_)
      refine lv_iconst (v := 1) hx hb dL_alike_15 (by decide) ?_
      exact ow_wret C0 u hok rfl hP hD hS (by omega) (by omega) dL_alike_16
  · subst hk
    refine lv_i2l (v := r.toInt64) hx hb dL_alike_8 rfl ?_
    refine va_last (x := r.toInt64) hx hb hK0 hP hD hS 0 2 rfl rfl (vp_in_nI (n := 0) (by decide) (by decide)) dL_alike_9 (fun H locs hP hD hS => ?_)
    refine lv_goto (tgt := 17) hx hb dL_alike_10 (by decide) ?_
    refine lv_iconst (v := 0) hx hb dL_alike_17 (by decide) ?_
    exact ow_wret C0 u hok rfl hP hD hS (by omega) (by omega) dL_alike_18
set_option maxHeartbeats 4000000 in
set_option maxRecDepth 100000 in
theorem c_L_oldest (l : Launch) (D : va_G) (cs : Nat → ClassId) {S : Type} (sz x o : Nat) (x1 : Int32) (x2 : Int32) (v : Nat → Int64) (w : va_W) (fs : List Value) (hw0 : w[0]? = some (x, .inr (10, fs))) (ok : S → Prop) (w' : S → va_W) (K : Nat) (r : Int32) (rmY : Room) (mc ms : Nat) (hc : rmY.cells = mc) (hs : rmY.slots = ms) (hf : rmY.frames ≤ 95) (hlo : rmY.locals ≤ 2300) (hK : K = 0 ∨ K = 2 ∨ K = 1) (hM : ∀ sz, XS l D cs yX10_oldest wsX10_oldest rmY [.ref x, .int x1, .int x2] sz w ok w' K r mc ms) : MW l D cs yL_oldest wsL_oldest (rmL mc ms) [.ref x, .int x1, .int x2, .ref o] sz (w ++ [oCell cs o v]) ok (fun u => oCell cs o (if K = 0 then vp_updL v (0 : Int32).toNatClampNeg r.toInt64 else v) :: w' u) (if K = 2 then 1 else if K = 1 then 2 else 0 : Int32) mc ms := by
  refine ow_enterH (S := S) (y := yL_oldest) (ws := wsL_oldest) (av := [.ref x, .int x1, .int x2, .ref o]) (sz := sz) (w := w ++ [oCell cs o v]) (Qc := fun sz => va_Qi (fun x (u : S) => x = (if K = 2 then 1 else if K = 1 then 2 else 0 : Int32) ∧ ok u) (fun u t => va_P D vwCl ((fun u => oCell cs o (if K = 0 then vp_updL v (0 : Int32).toNatClampNeg r.toInt64 else v) :: w' u) u) t.heap ∧ va_D (va_A (w ++ [oCell cs o v]) sz) ((fun u => oCell cs o (if K = 0 then vp_updL v (0 : Int32).toNatClampNeg r.toInt64 else v) :: w' u) u)) (va_A (w ++ [oCell cs o v]) sz)) (cc := cL_oldest) (nL := 5) (ret := some .int) (hh := [(0, 10, 13, 31), (0, 10, 17, 13)]) (by decide) rfl (Nat.le_of_ble_eq_true rfl) (fun p e s m below meth c ls H locs C0 hN hC ht hP hD hS hsz hl => ?_)
  obtain ⟨hx, hb, hr, hlk, hml, hown, hts, hK0, hG, hE⟩ := id C0
  have hl : lv_has ls 5 [(0, .ref x), (1, .int x1), (2, .int x2), (3, .ref o)] := hl
  refine lv_aload_n hx hb dL_oldest_0 rfl (lv_at hl 3 rfl) ?_
  refine lv_iconst (v := 0) hx hb dL_oldest_1 (by decide) ?_
  refine lv_aload_n hx hb dL_oldest_2 rfl (lv_at hl 0 rfl) ?_
  refine lv_iload_n hx hb dL_oldest_3 rfl (lv_at hl 1 rfl) ?_
  refine lv_iload_n hx hb dL_oldest_4 rfl (lv_at hl 2 rfl) ?_
  refine ow_wcall (As := [.int x1, .int x2]) (rest := [.int 0, .ref o]) (k := K) (r := r) C0 hN (hM H.size) (cwV 2 hts gL_oldest_X10_oldest rfl hc hs (by decide +kernel) ⟨by show rmY.frames + 1 ≤ 100; omega, by show 8 + (_ + 11) + rmY.locals ≤ 2400; omega⟩) 10 rfl hw0 hP hD hS rfl hl.1 rfl (Nat.le_of_ble_eq_true rfl) ⟨by show 0 + mc ≤ mc; omega, by show 0 + ms ≤ ms; omega⟩ dL_oldest_5 (fun hk u q9 ce H1 locs1 hok hce hcv hcl hP hD hS => ?_) (fun hk u H locs hok hP hD hS => ?_)
  · rcases hK with rfl | rfl | rfl
    · exact absurd rfl hk
    · refine vx_catch (own := RL) (name := "java/util/NoSuchElementException") hown [] ⟨0, 10, 13, 31⟩ [⟨0, 10, 17, 13⟩] (ht.trans rfl) (fun _ h => nomatch h) (by decide) (by decide) (hts (.classLink RL 31 "java/util/NoSuchElementException") (List.mem_of_getElem? (i := 1) rfl)) (va_Nw.use rfl (hN.2.2.2.1 "java/util/NoSuchElementException" (by decide))) hce hcv hcl ?_
      refine lv_astore (lv' := [(4, .ref q9), (0, .ref x), (1, .int x1), (2, .int x2), (3, .ref o)]) hx hb dL_oldest_13 hl (by decide) rfl (fun ls hl => ?_)
      refine lv_iconst (v := 1) hx hb dL_oldest_15 (by decide) ?_
      exact ow_wret C0 u hok rfl hP hD hS (by omega) (by omega) dL_oldest_16
    · refine vx_catch (own := RL) (name := "java/lang/IllegalArgumentException") hown [⟨0, 10, 13, 31⟩] ⟨0, 10, 17, 13⟩ [] (ht.trans rfl) (List.forall_mem_cons.mpr ⟨Or.inr ⟨by decide, "java/util/NoSuchElementException", (hts (.classLink RL 31 "java/util/NoSuchElementException") (List.mem_of_getElem? (i := 1) rfl)), hC.1⟩, fun _ h => nomatch h⟩) (by decide) (by decide) (hts (.classLink RL 13 "java/lang/IllegalArgumentException") (List.mem_of_getElem? (i := 2) rfl)) (va_Nw.use rfl (hN.2.2.2.1 "java/lang/IllegalArgumentException" (by decide))) hce hcv hcl ?_
      refine lv_astore (lv' := [(4, .ref q9), (0, .ref x), (1, .int x1), (2, .int x2), (3, .ref o)]) hx hb dL_oldest_17 hl (by decide) rfl (fun ls hl => ?_)
      refine lv_iconst (v := 2) hx hb dL_oldest_19 (by decide) ?_
      exact ow_wret C0 u hok rfl hP hD hS (by omega) (by omega) dL_oldest_20
  · subst hk
    refine lv_i2l (v := r.toInt64) hx hb dL_oldest_8 rfl ?_
    refine va_last (x := r.toInt64) hx hb hK0 hP hD hS 0 2 rfl rfl (vp_in_nI (n := 0) (by decide) (by decide)) dL_oldest_9 (fun H locs hP hD hS => ?_)
    refine lv_goto (tgt := 21) hx hb dL_oldest_10 (by decide) ?_
    refine lv_iconst (v := 0) hx hb dL_oldest_21 (by decide) ?_
    exact ow_wret C0 u hok rfl hP hD hS (by omega) (by omega) dL_oldest_22
set_option maxHeartbeats 4000000 in
set_option maxRecDepth 100000 in
theorem c_L_patch (l : Launch) (D : va_G) (cs : Nat → ClassId) {S : Type} (sz x o : Nat) (x1 : Int32) (x2 : Int32) (v : Nat → Int64) (w : va_W) (fs : List Value) (hw0 : w[0]? = some (x, .inr (10, fs))) (ok : S → Prop) (w' : S → va_W) (K : Nat) (r : Int32) (rmY : Room) (mc ms : Nat) (hc : rmY.cells = mc) (hs : rmY.slots = ms) (hf : rmY.frames ≤ 95) (hlo : rmY.locals ≤ 2300) (hK : K = 0 ∨ K = 2 ∨ K = 1) (hM : ∀ sz, XS l D cs yX10_patch wsX10_patch rmY [.ref x, .int x1, .int x2] sz w ok w' K r mc ms) : MW l D cs yL_patch wsL_patch (rmL mc ms) [.ref x, .int x1, .int x2, .ref o] sz (w ++ [oCell cs o v]) ok (fun u => oCell cs o (if K = 0 then vp_updL v (0 : Int32).toNatClampNeg r.toInt64 else v) :: w' u) (if K = 2 then 1 else if K = 1 then 2 else 0 : Int32) mc ms := by
  refine ow_enterH (S := S) (y := yL_patch) (ws := wsL_patch) (av := [.ref x, .int x1, .int x2, .ref o]) (sz := sz) (w := w ++ [oCell cs o v]) (Qc := fun sz => va_Qi (fun x (u : S) => x = (if K = 2 then 1 else if K = 1 then 2 else 0 : Int32) ∧ ok u) (fun u t => va_P D vwCl ((fun u => oCell cs o (if K = 0 then vp_updL v (0 : Int32).toNatClampNeg r.toInt64 else v) :: w' u) u) t.heap ∧ va_D (va_A (w ++ [oCell cs o v]) sz) ((fun u => oCell cs o (if K = 0 then vp_updL v (0 : Int32).toNatClampNeg r.toInt64 else v) :: w' u) u)) (va_A (w ++ [oCell cs o v]) sz)) (cc := cL_patch) (nL := 5) (ret := some .int) (hh := [(0, 10, 13, 31), (0, 10, 17, 13)]) (by decide) rfl (Nat.le_of_ble_eq_true rfl) (fun p e s m below meth c ls H locs C0 hN hC ht hP hD hS hsz hl => ?_)
  obtain ⟨hx, hb, hr, hlk, hml, hown, hts, hK0, hG, hE⟩ := id C0
  have hl : lv_has ls 5 [(0, .ref x), (1, .int x1), (2, .int x2), (3, .ref o)] := hl
  refine lv_aload_n hx hb dL_patch_0 rfl (lv_at hl 3 rfl) ?_
  refine lv_iconst (v := 0) hx hb dL_patch_1 (by decide) ?_
  refine lv_aload_n hx hb dL_patch_2 rfl (lv_at hl 0 rfl) ?_
  refine lv_iload_n hx hb dL_patch_3 rfl (lv_at hl 1 rfl) ?_
  refine lv_iload_n hx hb dL_patch_4 rfl (lv_at hl 2 rfl) ?_
  refine ow_wcall (As := [.int x1, .int x2]) (rest := [.int 0, .ref o]) (k := K) (r := r) C0 hN (hM H.size) (cwV 2 hts gL_patch_X10_patch rfl hc hs (by decide +kernel) ⟨by show rmY.frames + 1 ≤ 100; omega, by show 8 + (_ + 11) + rmY.locals ≤ 2400; omega⟩) 10 rfl hw0 hP hD hS rfl hl.1 rfl (Nat.le_of_ble_eq_true rfl) ⟨by show 0 + mc ≤ mc; omega, by show 0 + ms ≤ ms; omega⟩ dL_patch_5 (fun hk u q9 ce H1 locs1 hok hce hcv hcl hP hD hS => ?_) (fun hk u H locs hok hP hD hS => ?_)
  · rcases hK with rfl | rfl | rfl
    · exact absurd rfl hk
    · refine vx_catch (own := RL) (name := "java/util/NoSuchElementException") hown [] ⟨0, 10, 13, 31⟩ [⟨0, 10, 17, 13⟩] (ht.trans rfl) (fun _ h => nomatch h) (by decide) (by decide) (hts (.classLink RL 31 "java/util/NoSuchElementException") (List.mem_of_getElem? (i := 1) rfl)) (va_Nw.use rfl (hN.2.2.2.1 "java/util/NoSuchElementException" (by decide))) hce hcv hcl ?_
      refine lv_astore (lv' := [(4, .ref q9), (0, .ref x), (1, .int x1), (2, .int x2), (3, .ref o)]) hx hb dL_patch_13 hl (by decide) rfl (fun ls hl => ?_)
      refine lv_iconst (v := 1) hx hb dL_patch_15 (by decide) ?_
      exact ow_wret C0 u hok rfl hP hD hS (by omega) (by omega) dL_patch_16
    · refine vx_catch (own := RL) (name := "java/lang/IllegalArgumentException") hown [⟨0, 10, 13, 31⟩] ⟨0, 10, 17, 13⟩ [] (ht.trans rfl) (List.forall_mem_cons.mpr ⟨Or.inr ⟨by decide, "java/util/NoSuchElementException", (hts (.classLink RL 31 "java/util/NoSuchElementException") (List.mem_of_getElem? (i := 1) rfl)), hC.1⟩, fun _ h => nomatch h⟩) (by decide) (by decide) (hts (.classLink RL 13 "java/lang/IllegalArgumentException") (List.mem_of_getElem? (i := 2) rfl)) (va_Nw.use rfl (hN.2.2.2.1 "java/lang/IllegalArgumentException" (by decide))) hce hcv hcl ?_
      refine lv_astore (lv' := [(4, .ref q9), (0, .ref x), (1, .int x1), (2, .int x2), (3, .ref o)]) hx hb dL_patch_17 hl (by decide) rfl (fun ls hl => ?_)
      refine lv_iconst (v := 2) hx hb dL_patch_19 (by decide) ?_
      exact ow_wret C0 u hok rfl hP hD hS (by omega) (by omega) dL_patch_20
  · subst hk
    refine lv_i2l (v := r.toInt64) hx hb dL_patch_8 rfl ?_
    refine va_last (x := r.toInt64) hx hb hK0 hP hD hS 0 2 rfl rfl (vp_in_nI (n := 0) (by decide) (by decide)) dL_patch_9 (fun H locs hP hD hS => ?_)
    refine lv_goto (tgt := 21) hx hb dL_patch_10 (by decide) ?_
    refine lv_iconst (v := 0) hx hb dL_patch_21 (by decide) ?_
    exact ow_wret C0 u hok rfl hP hD hS (by omega) (by omega) dL_patch_22
set_option maxHeartbeats 4000000 in
set_option maxRecDepth 100000 in
theorem c_L_tells (l : Launch) (D : va_G) (cs : Nat → ClassId) {S : Type} (sz x o : Nat) (x1 : Int32) (v : Nat → Int64) (w : va_W) (fs : List Value) (hw0 : w[0]? = some (x, .inr (10, fs))) (ok : S → Prop) (w' : S → va_W) (K : Nat) (r : Int32) (rmY : Room) (mc ms : Nat) (hc : rmY.cells = mc) (hs : rmY.slots = ms) (hf : rmY.frames ≤ 95) (hlo : rmY.locals ≤ 2300) (hK : K = 0 ∨ K = 2) (hM : ∀ sz, XS l D cs yX10_tells wsX10_tells rmY [.ref x, .int x1] sz w ok w' K r mc ms) : MW l D cs yL_tells wsL_tells (rmL mc ms) [.ref x, .int x1, .ref o] sz (w ++ [oCell cs o v]) ok (fun u => oCell cs o (if K = 0 then vp_updL v (0 : Int32).toNatClampNeg r.toInt64 else v) :: w' u) (if K = 2 then 1 else 0 : Int32) mc ms := by
  refine ow_enterH (S := S) (y := yL_tells) (ws := wsL_tells) (av := [.ref x, .int x1, .ref o]) (sz := sz) (w := w ++ [oCell cs o v]) (Qc := fun sz => va_Qi (fun x (u : S) => x = (if K = 2 then 1 else 0 : Int32) ∧ ok u) (fun u t => va_P D vwCl ((fun u => oCell cs o (if K = 0 then vp_updL v (0 : Int32).toNatClampNeg r.toInt64 else v) :: w' u) u) t.heap ∧ va_D (va_A (w ++ [oCell cs o v]) sz) ((fun u => oCell cs o (if K = 0 then vp_updL v (0 : Int32).toNatClampNeg r.toInt64 else v) :: w' u) u)) (va_A (w ++ [oCell cs o v]) sz)) (cc := cL_tells) (nL := 4) (ret := some .int) (hh := [(0, 9, 12, 31)]) (by decide) rfl (Nat.le_of_ble_eq_true rfl) (fun p e s m below meth c ls H locs C0 hN hC ht hP hD hS hsz hl => ?_)
  obtain ⟨hx, hb, hr, hlk, hml, hown, hts, hK0, hG, hE⟩ := id C0
  have hl : lv_has ls 4 [(0, .ref x), (1, .int x1), (2, .ref o)] := hl
  refine lv_aload_n hx hb dL_tells_0 rfl (lv_at hl 2 rfl) ?_
  refine lv_iconst (v := 0) hx hb dL_tells_1 (by decide) ?_
  refine lv_aload_n hx hb dL_tells_2 rfl (lv_at hl 0 rfl) ?_
  refine lv_iload_n hx hb dL_tells_3 rfl (lv_at hl 1 rfl) ?_
  refine ow_wcall (As := [.int x1]) (rest := [.int 0, .ref o]) (k := K) (r := r) C0 hN (hM H.size) (cwV 1 hts gL_tells_X10_tells rfl hc hs (by decide +kernel) ⟨by show rmY.frames + 1 ≤ 100; omega, by show 8 + (_ + 11) + rmY.locals ≤ 2400; omega⟩) 10 rfl hw0 hP hD hS rfl hl.1 rfl (Nat.le_of_ble_eq_true rfl) ⟨by show 0 + mc ≤ mc; omega, by show 0 + ms ≤ ms; omega⟩ dL_tells_4 (fun hk u q9 ce H1 locs1 hok hce hcv hcl hP hD hS => ?_) (fun hk u H locs hok hP hD hS => ?_)
  · rcases hK with rfl | rfl
    · exact absurd rfl hk
    · refine vx_catch (own := RL) (name := "java/util/NoSuchElementException") hown [] ⟨0, 9, 12, 31⟩ [] (ht.trans rfl) (fun _ h => nomatch h) (by decide) (by decide) (hts (.classLink RL 31 "java/util/NoSuchElementException") (List.mem_of_getElem? (i := 1) rfl)) (va_Nw.use rfl (hN.2.2.2.1 "java/util/NoSuchElementException" (by decide))) hce hcv hcl ?_
      refine lv_astore_n (lv' := [(3, .ref q9), (0, .ref x), (1, .int x1), (2, .ref o)]) hx hb dL_tells_12 rfl hl (by decide) rfl (fun ls hl => ?_)
      refine lv_iconst (v := 1) hx hb dL_tells_13 (by decide) ?_
      exact ow_wret C0 u hok rfl hP hD hS (by omega) (by omega) dL_tells_14
  · subst hk
    refine lv_i2l (v := r.toInt64) hx hb dL_tells_7 rfl ?_
    refine va_last (x := r.toInt64) hx hb hK0 hP hD hS 0 2 rfl rfl (vp_in_nI (n := 0) (by decide) (by decide)) dL_tells_8 (fun H locs hP hD hS => ?_)
    refine lv_goto (tgt := 15) hx hb dL_tells_9 (by decide) ?_
    refine lv_iconst (v := 0) hx hb dL_tells_15 (by decide) ?_
    exact ow_wret C0 u hok rfl hP hD hS (by omega) (by omega) dL_tells_16
set_option maxHeartbeats 4000000 in
set_option maxRecDepth 100000 in
theorem c_L_look (l : Launch) (D : va_G) (cs : Nat → ClassId) {S : Type} (sz x o : Nat) (x1 : Int32) (x2 : Int32) (v : Nat → Int64) (w : va_W) (fs : List Value) (hw0 : w[0]? = some (x, .inr (10, fs))) (ok : S → Prop) (w' : S → va_W) (K : Nat) (r : Int32) (rmY : Room) (mc ms : Nat) (hc : rmY.cells = mc) (hs : rmY.slots = ms) (hf : rmY.frames ≤ 95) (hlo : rmY.locals ≤ 2300) (hK : K = 0 ∨ K = 2 ∨ K = 1) (hM : ∀ sz, XS l D cs yX10_look wsX10_look rmY [.ref x, .int x1, .int x2] sz w ok w' K r mc ms) : MW l D cs yL_look wsL_look (rmL mc ms) [.ref x, .int x1, .int x2, .ref o] sz (w ++ [oCell cs o v]) ok (fun u => oCell cs o (if K = 0 then vp_updL v (0 : Int32).toNatClampNeg r.toInt64 else v) :: w' u) (if K = 2 then 1 else if K = 1 then 2 else 0 : Int32) mc ms := by
  refine ow_enterH (S := S) (y := yL_look) (ws := wsL_look) (av := [.ref x, .int x1, .int x2, .ref o]) (sz := sz) (w := w ++ [oCell cs o v]) (Qc := fun sz => va_Qi (fun x (u : S) => x = (if K = 2 then 1 else if K = 1 then 2 else 0 : Int32) ∧ ok u) (fun u t => va_P D vwCl ((fun u => oCell cs o (if K = 0 then vp_updL v (0 : Int32).toNatClampNeg r.toInt64 else v) :: w' u) u) t.heap ∧ va_D (va_A (w ++ [oCell cs o v]) sz) ((fun u => oCell cs o (if K = 0 then vp_updL v (0 : Int32).toNatClampNeg r.toInt64 else v) :: w' u) u)) (va_A (w ++ [oCell cs o v]) sz)) (cc := cL_look) (nL := 5) (ret := some .int) (hh := [(0, 10, 13, 31), (0, 10, 17, 13)]) (by decide) rfl (Nat.le_of_ble_eq_true rfl) (fun p e s m below meth c ls H locs C0 hN hC ht hP hD hS hsz hl => ?_)
  obtain ⟨hx, hb, hr, hlk, hml, hown, hts, hK0, hG, hE⟩ := id C0
  have hl : lv_has ls 5 [(0, .ref x), (1, .int x1), (2, .int x2), (3, .ref o)] := hl
  refine lv_aload_n hx hb dL_look_0 rfl (lv_at hl 3 rfl) ?_
  refine lv_iconst (v := 0) hx hb dL_look_1 (by decide) ?_
  refine lv_aload_n hx hb dL_look_2 rfl (lv_at hl 0 rfl) ?_
  refine lv_iload_n hx hb dL_look_3 rfl (lv_at hl 1 rfl) ?_
  refine lv_iload_n hx hb dL_look_4 rfl (lv_at hl 2 rfl) ?_
  refine ow_wcall (As := [.int x1, .int x2]) (rest := [.int 0, .ref o]) (k := K) (r := r) C0 hN (hM H.size) (cwV 2 hts gL_look_X10_look rfl hc hs (by decide +kernel) ⟨by show rmY.frames + 1 ≤ 100; omega, by show 8 + (_ + 11) + rmY.locals ≤ 2400; omega⟩) 10 rfl hw0 hP hD hS rfl hl.1 rfl (Nat.le_of_ble_eq_true rfl) ⟨by show 0 + mc ≤ mc; omega, by show 0 + ms ≤ ms; omega⟩ dL_look_5 (fun hk u q9 ce H1 locs1 hok hce hcv hcl hP hD hS => ?_) (fun hk u H locs hok hP hD hS => ?_)
  · rcases hK with rfl | rfl | rfl
    · exact absurd rfl hk
    · refine vx_catch (own := RL) (name := "java/util/NoSuchElementException") hown [] ⟨0, 10, 13, 31⟩ [⟨0, 10, 17, 13⟩] (ht.trans rfl) (fun _ h => nomatch h) (by decide) (by decide) (hts (.classLink RL 31 "java/util/NoSuchElementException") (List.mem_of_getElem? (i := 1) rfl)) (va_Nw.use rfl (hN.2.2.2.1 "java/util/NoSuchElementException" (by decide))) hce hcv hcl ?_
      refine lv_astore (lv' := [(4, .ref q9), (0, .ref x), (1, .int x1), (2, .int x2), (3, .ref o)]) hx hb dL_look_13 hl (by decide) rfl (fun ls hl => ?_)
      refine lv_iconst (v := 1) hx hb dL_look_15 (by decide) ?_
      exact ow_wret C0 u hok rfl hP hD hS (by omega) (by omega) dL_look_16
    · refine vx_catch (own := RL) (name := "java/lang/IllegalArgumentException") hown [⟨0, 10, 13, 31⟩] ⟨0, 10, 17, 13⟩ [] (ht.trans rfl) (List.forall_mem_cons.mpr ⟨Or.inr ⟨by decide, "java/util/NoSuchElementException", (hts (.classLink RL 31 "java/util/NoSuchElementException") (List.mem_of_getElem? (i := 1) rfl)), hC.1⟩, fun _ h => nomatch h⟩) (by decide) (by decide) (hts (.classLink RL 13 "java/lang/IllegalArgumentException") (List.mem_of_getElem? (i := 2) rfl)) (va_Nw.use rfl (hN.2.2.2.1 "java/lang/IllegalArgumentException" (by decide))) hce hcv hcl ?_
      refine lv_astore (lv' := [(4, .ref q9), (0, .ref x), (1, .int x1), (2, .int x2), (3, .ref o)]) hx hb dL_look_17 hl (by decide) rfl (fun ls hl => ?_)
      refine lv_iconst (v := 2) hx hb dL_look_19 (by decide) ?_
      exact ow_wret C0 u hok rfl hP hD hS (by omega) (by omega) dL_look_20
  · subst hk
    refine lv_i2l (v := r.toInt64) hx hb dL_look_8 rfl ?_
    refine va_last (x := r.toInt64) hx hb hK0 hP hD hS 0 2 rfl rfl (vp_in_nI (n := 0) (by decide) (by decide)) dL_look_9 (fun H locs hP hD hS => ?_)
    refine lv_goto (tgt := 21) hx hb dL_look_10 (by decide) ?_
    refine lv_iconst (v := 0) hx hb dL_look_21 (by decide) ?_
    exact ow_wret C0 u hok rfl hP hD hS (by omega) (by omega) dL_look_22
set_option maxHeartbeats 4000000 in
set_option maxRecDepth 100000 in
theorem c_L_cover (l : Launch) (D : va_G) (cs : Nat → ClassId) {S : Type} (sz x o : Nat) (x1 : Int32) (x2 : Int32) (x3 : Int32) (x4 : Int32) (v : Nat → Int64) (w : va_W) (fs : List Value) (hw0 : w[0]? = some (x, .inr (10, fs))) (ok : S → Prop) (w' : S → va_W) (K : Nat) (r : Int32) (rmY : Room) (mc ms : Nat) (hc : rmY.cells = mc) (hs : rmY.slots = ms) (hf : rmY.frames ≤ 95) (hlo : rmY.locals ≤ 2300) (hK : K = 0 ∨ K = 2 ∨ K = 1) (hM : ∀ sz, XS l D cs yX10_cover wsX10_cover rmY [.ref x, .int x1, .int x2, .int x3, .int x4] sz w ok w' K r mc ms) : MW l D cs yL_cover wsL_cover (rmL mc ms) [.ref x, .int x1, .int x2, .int x3, .int x4, .ref o] sz (w ++ [oCell cs o v]) ok (fun u => oCell cs o (if K = 0 then vp_updL v (0 : Int32).toNatClampNeg r.toInt64 else v) :: w' u) (if K = 2 then 1 else if K = 1 then 2 else 0 : Int32) mc ms := by
  refine ow_enterH (S := S) (y := yL_cover) (ws := wsL_cover) (av := [.ref x, .int x1, .int x2, .int x3, .int x4, .ref o]) (sz := sz) (w := w ++ [oCell cs o v]) (Qc := fun sz => va_Qi (fun x (u : S) => x = (if K = 2 then 1 else if K = 1 then 2 else 0 : Int32) ∧ ok u) (fun u t => va_P D vwCl ((fun u => oCell cs o (if K = 0 then vp_updL v (0 : Int32).toNatClampNeg r.toInt64 else v) :: w' u) u) t.heap ∧ va_D (va_A (w ++ [oCell cs o v]) sz) ((fun u => oCell cs o (if K = 0 then vp_updL v (0 : Int32).toNatClampNeg r.toInt64 else v) :: w' u) u)) (va_A (w ++ [oCell cs o v]) sz)) (cc := cL_cover) (nL := 7) (ret := some .int) (hh := [(0, 14, 17, 31), (0, 14, 21, 13)]) (by decide) rfl (Nat.le_of_ble_eq_true rfl) (fun p e s m below meth c ls H locs C0 hN hC ht hP hD hS hsz hl => ?_)
  obtain ⟨hx, hb, hr, hlk, hml, hown, hts, hK0, hG, hE⟩ := id C0
  have hl : lv_has ls 7 [(0, .ref x), (1, .int x1), (2, .int x2), (3, .int x3), (4, .int x4), (5, .ref o)] := hl
  refine lv_aload hx hb dL_cover_0 (lv_at hl 5 rfl) ?_
  refine lv_iconst (v := 0) hx hb dL_cover_2 (by decide) ?_
  refine lv_aload_n hx hb dL_cover_3 rfl (lv_at hl 0 rfl) ?_
  refine lv_iload_n hx hb dL_cover_4 rfl (lv_at hl 1 rfl) ?_
  refine lv_iload_n hx hb dL_cover_5 rfl (lv_at hl 2 rfl) ?_
  refine lv_iload_n hx hb dL_cover_6 rfl (lv_at hl 3 rfl) ?_
  refine lv_iload hx hb dL_cover_7 (lv_at hl 4 rfl) ?_
  refine ow_wcall (As := [.int x1, .int x2, .int x3, .int x4]) (rest := [.int 0, .ref o]) (k := K) (r := r) C0 hN (hM H.size) (cwV 4 hts gL_cover_X10_cover rfl hc hs (by decide +kernel) ⟨by show rmY.frames + 1 ≤ 100; omega, by show 8 + (_ + 11) + rmY.locals ≤ 2400; omega⟩) 10 rfl hw0 hP hD hS rfl hl.1 rfl (Nat.le_of_ble_eq_true rfl) ⟨by show 0 + mc ≤ mc; omega, by show 0 + ms ≤ ms; omega⟩ dL_cover_9 (fun hk u q9 ce H1 locs1 hok hce hcv hcl hP hD hS => ?_) (fun hk u H locs hok hP hD hS => ?_)
  · rcases hK with rfl | rfl | rfl
    · exact absurd rfl hk
    · refine vx_catch (own := RL) (name := "java/util/NoSuchElementException") hown [] ⟨0, 14, 17, 31⟩ [⟨0, 14, 21, 13⟩] (ht.trans rfl) (fun _ h => nomatch h) (by decide) (by decide) (hts (.classLink RL 31 "java/util/NoSuchElementException") (List.mem_of_getElem? (i := 1) rfl)) (va_Nw.use rfl (hN.2.2.2.1 "java/util/NoSuchElementException" (by decide))) hce hcv hcl ?_
      refine lv_astore (lv' := [(6, .ref q9), (0, .ref x), (1, .int x1), (2, .int x2), (3, .int x3), (4, .int x4), (5, .ref o)]) hx hb dL_cover_17 hl (by decide) rfl (fun ls hl => ?_)
      refine lv_iconst (v := 1) hx hb dL_cover_19 (by decide) ?_
      exact ow_wret C0 u hok rfl hP hD hS (by omega) (by omega) dL_cover_20
    · refine vx_catch (own := RL) (name := "java/lang/IllegalArgumentException") hown [⟨0, 14, 17, 31⟩] ⟨0, 14, 21, 13⟩ [] (ht.trans rfl) (List.forall_mem_cons.mpr ⟨Or.inr ⟨by decide, "java/util/NoSuchElementException", (hts (.classLink RL 31 "java/util/NoSuchElementException") (List.mem_of_getElem? (i := 1) rfl)), hC.1⟩, fun _ h => nomatch h⟩) (by decide) (by decide) (hts (.classLink RL 13 "java/lang/IllegalArgumentException") (List.mem_of_getElem? (i := 2) rfl)) (va_Nw.use rfl (hN.2.2.2.1 "java/lang/IllegalArgumentException" (by decide))) hce hcv hcl ?_
      refine lv_astore (lv' := [(6, .ref q9), (0, .ref x), (1, .int x1), (2, .int x2), (3, .int x3), (4, .int x4), (5, .ref o)]) hx hb dL_cover_21 hl (by decide) rfl (fun ls hl => ?_)
      refine lv_iconst (v := 2) hx hb dL_cover_23 (by decide) ?_
      exact ow_wret C0 u hok rfl hP hD hS (by omega) (by omega) dL_cover_24
  · subst hk
    refine lv_i2l (v := r.toInt64) hx hb dL_cover_12 rfl ?_
    refine va_last (x := r.toInt64) hx hb hK0 hP hD hS 0 2 rfl rfl (vp_in_nI (n := 0) (by decide) (by decide)) dL_cover_13 (fun H locs hP hD hS => ?_)
    refine lv_goto (tgt := 25) hx hb dL_cover_14 (by decide) ?_
    refine lv_iconst (v := 0) hx hb dL_cover_25 (by decide) ?_
    exact ow_wret C0 u hok rfl hP hD hS (by omega) (by omega) dL_cover_26
set_option maxHeartbeats 4000000 in
set_option maxRecDepth 100000 in
theorem c_L_game (l : Launch) (D : va_G) (cs : Nat → ClassId) {S : Type} (sz x o : Nat) (x1 : Int32) (x2 : Int32) (x3 : Int32) (v : Nat → Int64) (w : va_W) (fs : List Value) (hw0 : w[0]? = some (x, .inr (10, fs))) (ok : S → Prop) (w' : S → va_W) (K : Nat) (r : Int32) (rmY : Room) (mc ms : Nat) (hc : rmY.cells = mc) (hs : rmY.slots = ms) (hf : rmY.frames ≤ 95) (hlo : rmY.locals ≤ 2300) (hK : K = 0 ∨ K = 2 ∨ K = 1) (hM : ∀ sz, XS l D cs yX10_game wsX10_game rmY [.ref x, .int x1, .int x2, .int x3] sz w ok w' K r mc ms) : MW l D cs yL_game wsL_game (rmL mc ms) [.ref x, .int x1, .int x2, .int x3, .ref o] sz (w ++ [oCell cs o v]) ok (fun u => oCell cs o (if K = 0 then vp_updL v (0 : Int32).toNatClampNeg r.toInt64 else v) :: w' u) (if K = 2 then 1 else if K = 1 then 2 else 0 : Int32) mc ms := by
  refine ow_enterH (S := S) (y := yL_game) (ws := wsL_game) (av := [.ref x, .int x1, .int x2, .int x3, .ref o]) (sz := sz) (w := w ++ [oCell cs o v]) (Qc := fun sz => va_Qi (fun x (u : S) => x = (if K = 2 then 1 else if K = 1 then 2 else 0 : Int32) ∧ ok u) (fun u t => va_P D vwCl ((fun u => oCell cs o (if K = 0 then vp_updL v (0 : Int32).toNatClampNeg r.toInt64 else v) :: w' u) u) t.heap ∧ va_D (va_A (w ++ [oCell cs o v]) sz) ((fun u => oCell cs o (if K = 0 then vp_updL v (0 : Int32).toNatClampNeg r.toInt64 else v) :: w' u) u)) (va_A (w ++ [oCell cs o v]) sz)) (cc := cL_game) (nL := 6) (ret := some .int) (hh := [(0, 12, 15, 31), (0, 12, 19, 13)]) (by decide) rfl (Nat.le_of_ble_eq_true rfl) (fun p e s m below meth c ls H locs C0 hN hC ht hP hD hS hsz hl => ?_)
  obtain ⟨hx, hb, hr, hlk, hml, hown, hts, hK0, hG, hE⟩ := id C0
  have hl : lv_has ls 6 [(0, .ref x), (1, .int x1), (2, .int x2), (3, .int x3), (4, .ref o)] := hl
  refine lv_aload hx hb dL_game_0 (lv_at hl 4 rfl) ?_
  refine lv_iconst (v := 0) hx hb dL_game_2 (by decide) ?_
  refine lv_aload_n hx hb dL_game_3 rfl (lv_at hl 0 rfl) ?_
  refine lv_iload_n hx hb dL_game_4 rfl (lv_at hl 1 rfl) ?_
  refine lv_iload_n hx hb dL_game_5 rfl (lv_at hl 2 rfl) ?_
  refine lv_iload_n hx hb dL_game_6 rfl (lv_at hl 3 rfl) ?_
  refine ow_wcall (As := [.int x1, .int x2, .int x3]) (rest := [.int 0, .ref o]) (k := K) (r := r) C0 hN (hM H.size) (cwV 3 hts gL_game_X10_game rfl hc hs (by decide +kernel) ⟨by show rmY.frames + 1 ≤ 100; omega, by show 8 + (_ + 11) + rmY.locals ≤ 2400; omega⟩) 10 rfl hw0 hP hD hS rfl hl.1 rfl (Nat.le_of_ble_eq_true rfl) ⟨by show 0 + mc ≤ mc; omega, by show 0 + ms ≤ ms; omega⟩ dL_game_7 (fun hk u q9 ce H1 locs1 hok hce hcv hcl hP hD hS => ?_) (fun hk u H locs hok hP hD hS => ?_)
  · rcases hK with rfl | rfl | rfl
    · exact absurd rfl hk
    · refine vx_catch (own := RL) (name := "java/util/NoSuchElementException") hown [] ⟨0, 12, 15, 31⟩ [⟨0, 12, 19, 13⟩] (ht.trans rfl) (fun _ h => nomatch h) (by decide) (by decide) (hts (.classLink RL 31 "java/util/NoSuchElementException") (List.mem_of_getElem? (i := 1) rfl)) (va_Nw.use rfl (hN.2.2.2.1 "java/util/NoSuchElementException" (by decide))) hce hcv hcl ?_
      refine lv_astore (lv' := [(5, .ref q9), (0, .ref x), (1, .int x1), (2, .int x2), (3, .int x3), (4, .ref o)]) hx hb dL_game_15 hl (by decide) rfl (fun ls hl => ?_)
      refine lv_iconst (v := 1) hx hb dL_game_17 (by decide) ?_
      exact ow_wret C0 u hok rfl hP hD hS (by omega) (by omega) dL_game_18
    · refine vx_catch (own := RL) (name := "java/lang/IllegalArgumentException") hown [⟨0, 12, 15, 31⟩] ⟨0, 12, 19, 13⟩ [] (ht.trans rfl) (List.forall_mem_cons.mpr ⟨Or.inr ⟨by decide, "java/util/NoSuchElementException", (hts (.classLink RL 31 "java/util/NoSuchElementException") (List.mem_of_getElem? (i := 1) rfl)), hC.1⟩, fun _ h => nomatch h⟩) (by decide) (by decide) (hts (.classLink RL 13 "java/lang/IllegalArgumentException") (List.mem_of_getElem? (i := 2) rfl)) (va_Nw.use rfl (hN.2.2.2.1 "java/lang/IllegalArgumentException" (by decide))) hce hcv hcl ?_
      refine lv_astore (lv' := [(5, .ref q9), (0, .ref x), (1, .int x1), (2, .int x2), (3, .int x3), (4, .ref o)]) hx hb dL_game_19 hl (by decide) rfl (fun ls hl => ?_)
      refine lv_iconst (v := 2) hx hb dL_game_21 (by decide) ?_
      exact ow_wret C0 u hok rfl hP hD hS (by omega) (by omega) dL_game_22
  · subst hk
    refine lv_i2l (v := r.toInt64) hx hb dL_game_10 rfl ?_
    refine va_last (x := r.toInt64) hx hb hK0 hP hD hS 0 2 rfl rfl (vp_in_nI (n := 0) (by decide) (by decide)) dL_game_11 (fun H locs hP hD hS => ?_)
    refine lv_goto (tgt := 23) hx hb dL_game_12 (by decide) ?_
    refine lv_iconst (v := 0) hx hb dL_game_23 (by decide) ?_
    exact ow_wret C0 u hok rfl hP hD hS (by omega) (by omega) dL_game_24
set_option maxHeartbeats 4000000 in
set_option maxRecDepth 100000 in
theorem c_L_round (l : Launch) (D : va_G) (cs : Nat → ClassId) {S : Type} (sz x o : Nat) (x1 : Int32) (x2 : Int32) (v : Nat → Int64) (w : va_W) (fs : List Value) (hw0 : w[0]? = some (x, .inr (10, fs))) (ok : S → Prop) (w' : S → va_W) (K : Nat) (r : Int32) (rmY : Room) (mc ms : Nat) (hc : rmY.cells = mc) (hs : rmY.slots = ms) (hf : rmY.frames ≤ 95) (hlo : rmY.locals ≤ 2300) (hK : K = 0 ∨ K = 1) (hM : ∀ sz, XS l D cs yX10_round wsX10_round rmY [.ref x, .int x1, .int x2] sz w ok w' K r mc ms) : MW l D cs yL_round wsL_round (rmL mc ms) [.ref x, .int x1, .int x2, .ref o] sz (w ++ [oCell cs o v]) ok (fun u => oCell cs o (if K = 0 then vp_updL v (0 : Int32).toNatClampNeg r.toInt64 else v) :: w' u) (if K = 1 then 1 else 0 : Int32) mc ms := by
  refine ow_enterH (S := S) (y := yL_round) (ws := wsL_round) (av := [.ref x, .int x1, .int x2, .ref o]) (sz := sz) (w := w ++ [oCell cs o v]) (Qc := fun sz => va_Qi (fun x (u : S) => x = (if K = 1 then 1 else 0 : Int32) ∧ ok u) (fun u t => va_P D vwCl ((fun u => oCell cs o (if K = 0 then vp_updL v (0 : Int32).toNatClampNeg r.toInt64 else v) :: w' u) u) t.heap ∧ va_D (va_A (w ++ [oCell cs o v]) sz) ((fun u => oCell cs o (if K = 0 then vp_updL v (0 : Int32).toNatClampNeg r.toInt64 else v) :: w' u) u)) (va_A (w ++ [oCell cs o v]) sz)) (cc := cL_round) (nL := 5) (ret := some .int) (hh := [(0, 10, 13, 13)]) (by decide) rfl (Nat.le_of_ble_eq_true rfl) (fun p e s m below meth c ls H locs C0 hN hC ht hP hD hS hsz hl => ?_)
  obtain ⟨hx, hb, hr, hlk, hml, hown, hts, hK0, hG, hE⟩ := id C0
  have hl : lv_has ls 5 [(0, .ref x), (1, .int x1), (2, .int x2), (3, .ref o)] := hl
  refine lv_aload_n hx hb dL_round_0 rfl (lv_at hl 3 rfl) ?_
  refine lv_iconst (v := 0) hx hb dL_round_1 (by decide) ?_
  refine lv_aload_n hx hb dL_round_2 rfl (lv_at hl 0 rfl) ?_
  refine lv_iload_n hx hb dL_round_3 rfl (lv_at hl 1 rfl) ?_
  refine lv_iload_n hx hb dL_round_4 rfl (lv_at hl 2 rfl) ?_
  refine ow_wcall (As := [.int x1, .int x2]) (rest := [.int 0, .ref o]) (k := K) (r := r) C0 hN (hM H.size) (cwV 2 hts gL_round_X10_round rfl hc hs (by decide +kernel) ⟨by show rmY.frames + 1 ≤ 100; omega, by show 8 + (_ + 11) + rmY.locals ≤ 2400; omega⟩) 10 rfl hw0 hP hD hS rfl hl.1 rfl (Nat.le_of_ble_eq_true rfl) ⟨by show 0 + mc ≤ mc; omega, by show 0 + ms ≤ ms; omega⟩ dL_round_5 (fun hk u q9 ce H1 locs1 hok hce hcv hcl hP hD hS => ?_) (fun hk u H locs hok hP hD hS => ?_)
  · rcases hK with rfl | rfl
    · exact absurd rfl hk
    · refine vx_catch (own := RL) (name := "java/lang/IllegalArgumentException") hown [] ⟨0, 10, 13, 13⟩ [] (ht.trans rfl) (fun _ h => nomatch h) (by decide) (by decide) (hts (.classLink RL 13 "java/lang/IllegalArgumentException") (List.mem_of_getElem? (i := 1) rfl)) (va_Nw.use rfl (hN.2.2.2.1 "java/lang/IllegalArgumentException" (by decide))) hce hcv hcl ?_
      refine lv_astore (lv' := [(4, .ref q9), (0, .ref x), (1, .int x1), (2, .int x2), (3, .ref o)]) hx hb dL_round_13 hl (by decide) rfl (fun ls hl => ?_)
      refine lv_iconst (v := 1) hx hb dL_round_15 (by decide) ?_
      exact ow_wret C0 u hok rfl hP hD hS (by omega) (by omega) dL_round_16
  · subst hk
    refine lv_i2l (v := r.toInt64) hx hb dL_round_8 rfl ?_
    refine va_last (x := r.toInt64) hx hb hK0 hP hD hS 0 2 rfl rfl (vp_in_nI (n := 0) (by decide) (by decide)) dL_round_9 (fun H locs hP hD hS => ?_)
    refine lv_goto (tgt := 17) hx hb dL_round_10 (by decide) ?_
    refine lv_iconst (v := 0) hx hb dL_round_17 (by decide) ?_
    exact ow_wret C0 u hok rfl hP hD hS (by omega) (by omega) dL_round_18
set_option maxHeartbeats 4000000 in
set_option maxRecDepth 100000 in
theorem c_L_by (l : Launch) (D : va_G) (cs : Nat → ClassId) {S : Type} (sz x o : Nat) (x1 : Int32) (x2 : Int32) (v : Nat → Int64) (w : va_W) (fs : List Value) (hw0 : w[0]? = some (x, .inr (10, fs))) (ok : S → Prop) (w' : S → va_W) (K : Nat) (r : Int32) (rmY : Room) (mc ms : Nat) (hc : rmY.cells = mc) (hs : rmY.slots = ms) (hf : rmY.frames ≤ 95) (hlo : rmY.locals ≤ 2300) (hK : K = 0 ∨ K = 1) (hM : ∀ sz, XS l D cs yX10_by wsX10_by rmY [.ref x, .int x1, .int x2] sz w ok w' K r mc ms) : MW l D cs yL_by wsL_by (rmL mc ms) [.ref x, .int x1, .int x2, .ref o] sz (w ++ [oCell cs o v]) ok (fun u => oCell cs o (if K = 0 then vp_updL v (0 : Int32).toNatClampNeg (if r = 0 then (0 : Int64) else 1) else v) :: w' u) (if K = 1 then 1 else 0 : Int32) mc ms := by
  refine ow_enterH (S := S) (y := yL_by) (ws := wsL_by) (av := [.ref x, .int x1, .int x2, .ref o]) (sz := sz) (w := w ++ [oCell cs o v]) (Qc := fun sz => va_Qi (fun x (u : S) => x = (if K = 1 then 1 else 0 : Int32) ∧ ok u) (fun u t => va_P D vwCl ((fun u => oCell cs o (if K = 0 then vp_updL v (0 : Int32).toNatClampNeg (if r = 0 then (0 : Int64) else 1) else v) :: w' u) u) t.heap ∧ va_D (va_A (w ++ [oCell cs o v]) sz) ((fun u => oCell cs o (if K = 0 then vp_updL v (0 : Int32).toNatClampNeg (if r = 0 then (0 : Int64) else 1) else v) :: w' u) u)) (va_A (w ++ [oCell cs o v]) sz)) (cc := cL_by) (nL := 5) (ret := some .int) (hh := [(0, 17, 20, 13)]) (by decide) rfl (Nat.le_of_ble_eq_true rfl) (fun p e s m below meth c ls H locs C0 hN hC ht hP hD hS hsz hl => ?_)
  obtain ⟨hx, hb, hr, hlk, hml, hown, hts, hK0, hG, hE⟩ := id C0
  have hl : lv_has ls 5 [(0, .ref x), (1, .int x1), (2, .int x2), (3, .ref o)] := hl
  refine lv_aload_n hx hb dL_by_0 rfl (lv_at hl 3 rfl) ?_
  refine lv_iconst (v := 0) hx hb dL_by_1 (by decide) ?_
  refine lv_aload_n hx hb dL_by_2 rfl (lv_at hl 0 rfl) ?_
  refine lv_iload_n hx hb dL_by_3 rfl (lv_at hl 1 rfl) ?_
  refine lv_iload_n hx hb dL_by_4 rfl (lv_at hl 2 rfl) ?_
  refine ow_wcall (As := [.int x1, .int x2]) (rest := [.int 0, .ref o]) (k := K) (r := r) C0 hN (hM H.size) (cwV 2 hts gL_by_X10_by rfl hc hs (by decide +kernel) ⟨by show rmY.frames + 1 ≤ 100; omega, by show 8 + (_ + 11) + rmY.locals ≤ 2400; omega⟩) 10 rfl hw0 hP hD hS rfl hl.1 rfl (Nat.le_of_ble_eq_true rfl) ⟨by show 0 + mc ≤ mc; omega, by show 0 + ms ≤ ms; omega⟩ dL_by_5 (fun hk u q9 ce H1 locs1 hok hce hcv hcl hP hD hS => ?_) (fun hk u H locs hok hP hD hS => ?_)
  · rcases hK with rfl | rfl
    · exact absurd rfl hk
    · refine vx_catch (own := RL) (name := "java/lang/IllegalArgumentException") hown [] ⟨0, 17, 20, 13⟩ [] (ht.trans rfl) (fun _ h => nomatch h) (by decide) (by decide) (hts (.classLink RL 13 "java/lang/IllegalArgumentException") (List.mem_of_getElem? (i := 1) rfl)) (va_Nw.use rfl (hN.2.2.2.1 "java/lang/IllegalArgumentException" (by decide))) hce hcv hcl ?_
      refine lv_astore (lv' := [(4, .ref q9), (0, .ref x), (1, .int x1), (2, .int x2), (3, .ref o)]) hx hb dL_by_20 hl (by decide) rfl (fun ls hl => ?_)
      refine lv_iconst (v := 1) hx hb dL_by_22 (by decide) ?_
      exact ow_wret C0 u hok rfl hP hD hS (by omega) (by omega) dL_by_23
  · subst hk
    refine lv_if_eq (tgt := 15) hx hb dL_by_8 (by decide) (fun hz => ?_) (fun hz => ?_)
    · rw [show (if r = 0 then (0 : Int64) else 1) = 0 from if_pos hz]
      refine lv_lconst (v := 0) hx hb dL_by_15 rfl ?_
      refine va_last (x := 0) hx hb hK0 hP hD hS 0 2 rfl rfl (vp_in_nI (n := 0) (by decide) (by decide)) dL_by_16 (fun H locs hP hD hS => ?_)
      refine lv_goto (tgt := 24) hx hb dL_by_17 (by decide) ?_
      refine lv_iconst (v := 0) hx hb dL_by_24 (by decide) ?_
      exact ow_wret C0 u hok rfl hP hD hS (by omega) (by omega) dL_by_25
    · rw [show (if r = 0 then (0 : Int64) else 1) = 1 from if_neg hz]
      refine lv_lconst (v := 1) hx hb dL_by_11 rfl ?_
      refine lv_goto (tgt := 16) hx hb dL_by_12 (by decide) ?_
      refine va_last (x := 1) hx hb hK0 hP hD hS 0 2 rfl rfl (vp_in_nI (n := 0) (by decide) (by decide)) dL_by_16 (fun H locs hP hD hS => ?_)
      refine lv_goto (tgt := 24) hx hb dL_by_17 (by decide) ?_
      refine lv_iconst (v := 0) hx hb dL_by_24 (by decide) ?_
      exact ow_wret C0 u hok rfl hP hD hS (by omega) (by omega) dL_by_25
set_option maxHeartbeats 4000000 in
set_option maxRecDepth 100000 in
theorem c_L_share (l : Launch) (D : va_G) (cs : Nat → ClassId) {S : Type} (sz x o : Nat) (x1 : Int32) (x2 : Int32) (x3 : Int32) (x4 : Int32) (v : Nat → Int64) (w : va_W) (fs : List Value) (hw0 : w[0]? = some (x, .inr (10, fs))) (ok : S → Prop) (w' : S → va_W) (K : Nat) (r : Int32) (rmY : Room) (mc ms : Nat) (hc : rmY.cells = mc) (hs : rmY.slots = ms) (hf : rmY.frames ≤ 95) (hlo : rmY.locals ≤ 2300) (hK : K = 0 ∨ K = 3 ∨ K = 2 ∨ K = 1) (hM : ∀ sz, XS l D cs yX10_share wsX10_share rmY [.ref x, .int x1, .int x2, .int x3, .int x4] sz w ok w' K r mc ms) : MW l D cs yL_share wsL_share (rmL mc ms) [.ref x, .int x1, .int x2, .int x3, .int x4, .ref o] sz (w ++ [oCell cs o v]) ok (fun u => oCell cs o (if K = 0 then vp_updL v (0 : Int32).toNatClampNeg r.toInt64 else v) :: w' u) (if K = 3 then 1 else if K = 2 then 2 else if K = 1 then 3 else 0 : Int32) mc ms := by
  refine ow_enterH (S := S) (y := yL_share) (ws := wsL_share) (av := [.ref x, .int x1, .int x2, .int x3, .int x4, .ref o]) (sz := sz) (w := w ++ [oCell cs o v]) (Qc := fun sz => va_Qi (fun x (u : S) => x = (if K = 3 then 1 else if K = 2 then 2 else if K = 1 then 3 else 0 : Int32) ∧ ok u) (fun u t => va_P D vwCl ((fun u => oCell cs o (if K = 0 then vp_updL v (0 : Int32).toNatClampNeg r.toInt64 else v) :: w' u) u) t.heap ∧ va_D (va_A (w ++ [oCell cs o v]) sz) ((fun u => oCell cs o (if K = 0 then vp_updL v (0 : Int32).toNatClampNeg r.toInt64 else v) :: w' u) u)) (va_A (w ++ [oCell cs o v]) sz)) (cc := cL_share) (nL := 7) (ret := some .int) (hh := [(0, 14, 17, 37), (0, 14, 21, 31), (0, 14, 25, 13)]) (by decide) rfl (Nat.le_of_ble_eq_true rfl) (fun p e s m below meth c ls H locs C0 hN hC ht hP hD hS hsz hl => ?_)
  obtain ⟨hx, hb, hr, hlk, hml, hown, hts, hK0, hG, hE⟩ := id C0
  have hl : lv_has ls 7 [(0, .ref x), (1, .int x1), (2, .int x2), (3, .int x3), (4, .int x4), (5, .ref o)] := hl
  refine lv_aload hx hb dL_share_0 (lv_at hl 5 rfl) ?_
  refine lv_iconst (v := 0) hx hb dL_share_2 (by decide) ?_
  refine lv_aload_n hx hb dL_share_3 rfl (lv_at hl 0 rfl) ?_
  refine lv_iload_n hx hb dL_share_4 rfl (lv_at hl 1 rfl) ?_
  refine lv_iload_n hx hb dL_share_5 rfl (lv_at hl 2 rfl) ?_
  refine lv_iload_n hx hb dL_share_6 rfl (lv_at hl 3 rfl) ?_
  refine lv_iload hx hb dL_share_7 (lv_at hl 4 rfl) ?_
  refine ow_wcall (As := [.int x1, .int x2, .int x3, .int x4]) (rest := [.int 0, .ref o]) (k := K) (r := r) C0 hN (hM H.size) (cwV 4 hts gL_share_X10_share rfl hc hs (by decide +kernel) ⟨by show rmY.frames + 1 ≤ 100; omega, by show 8 + (_ + 11) + rmY.locals ≤ 2400; omega⟩) 10 rfl hw0 hP hD hS rfl hl.1 rfl (Nat.le_of_ble_eq_true rfl) ⟨by show 0 + mc ≤ mc; omega, by show 0 + ms ≤ ms; omega⟩ dL_share_9 (fun hk u q9 ce H1 locs1 hok hce hcv hcl hP hD hS => ?_) (fun hk u H locs hok hP hD hS => ?_)
  · rcases hK with rfl | rfl | rfl | rfl
    · exact absurd rfl hk
    · refine vx_catch (own := RL) (name := "java/lang/IndexOutOfBoundsException") hown [] ⟨0, 14, 17, 37⟩ [⟨0, 14, 21, 31⟩, ⟨0, 14, 25, 13⟩] (ht.trans rfl) (fun _ h => nomatch h) (by decide) (by decide) (hts (.classLink RL 37 "java/lang/IndexOutOfBoundsException") (List.mem_of_getElem? (i := 1) rfl)) (va_Nw.use rfl (hN.2.2.2.1 "java/lang/IndexOutOfBoundsException" (by decide))) hce hcv hcl ?_
      refine lv_astore (lv' := [(6, .ref q9), (0, .ref x), (1, .int x1), (2, .int x2), (3, .int x3), (4, .int x4), (5, .ref o)]) hx hb dL_share_17 hl (by decide) rfl (fun ls hl => ?_)
      refine lv_iconst (v := 1) hx hb dL_share_19 (by decide) ?_
      exact ow_wret C0 u hok rfl hP hD hS (by omega) (by omega) dL_share_20
    · refine vx_catch (own := RL) (name := "java/util/NoSuchElementException") hown [⟨0, 14, 17, 37⟩] ⟨0, 14, 21, 31⟩ [⟨0, 14, 25, 13⟩] (ht.trans rfl) (List.forall_mem_cons.mpr ⟨Or.inr ⟨by decide, "java/lang/IndexOutOfBoundsException", (hts (.classLink RL 37 "java/lang/IndexOutOfBoundsException") (List.mem_of_getElem? (i := 1) rfl)), hC.2.1⟩, fun _ h => nomatch h⟩) (by decide) (by decide) (hts (.classLink RL 31 "java/util/NoSuchElementException") (List.mem_of_getElem? (i := 2) rfl)) (va_Nw.use rfl (hN.2.2.2.1 "java/util/NoSuchElementException" (by decide))) hce hcv hcl ?_
      refine lv_astore (lv' := [(6, .ref q9), (0, .ref x), (1, .int x1), (2, .int x2), (3, .int x3), (4, .int x4), (5, .ref o)]) hx hb dL_share_21 hl (by decide) rfl (fun ls hl => ?_)
      refine lv_iconst (v := 2) hx hb dL_share_23 (by decide) ?_
      exact ow_wret C0 u hok rfl hP hD hS (by omega) (by omega) dL_share_24
    · refine vx_catch (own := RL) (name := "java/lang/IllegalArgumentException") hown [⟨0, 14, 17, 37⟩, ⟨0, 14, 21, 31⟩] ⟨0, 14, 25, 13⟩ [] (ht.trans rfl) (List.forall_mem_cons.mpr ⟨Or.inr ⟨by decide, "java/lang/IndexOutOfBoundsException", (hts (.classLink RL 37 "java/lang/IndexOutOfBoundsException") (List.mem_of_getElem? (i := 1) rfl)), hC.2.2⟩, List.forall_mem_cons.mpr ⟨Or.inr ⟨by decide, "java/util/NoSuchElementException", (hts (.classLink RL 31 "java/util/NoSuchElementException") (List.mem_of_getElem? (i := 2) rfl)), hC.1⟩, fun _ h => nomatch h⟩⟩) (by decide) (by decide) (hts (.classLink RL 13 "java/lang/IllegalArgumentException") (List.mem_of_getElem? (i := 3) rfl)) (va_Nw.use rfl (hN.2.2.2.1 "java/lang/IllegalArgumentException" (by decide))) hce hcv hcl ?_
      refine lv_astore (lv' := [(6, .ref q9), (0, .ref x), (1, .int x1), (2, .int x2), (3, .int x3), (4, .int x4), (5, .ref o)]) hx hb dL_share_25 hl (by decide) rfl (fun ls hl => ?_)
      refine lv_iconst (v := 3) hx hb dL_share_27 (by decide) ?_
      exact ow_wret C0 u hok rfl hP hD hS (by omega) (by omega) dL_share_28
  · subst hk
    refine lv_i2l (v := r.toInt64) hx hb dL_share_12 rfl ?_
    refine va_last (x := r.toInt64) hx hb hK0 hP hD hS 0 2 rfl rfl (vp_in_nI (n := 0) (by decide) (by decide)) dL_share_13 (fun H locs hP hD hS => ?_)
    refine lv_goto (tgt := 29) hx hb dL_share_14 (by decide) ?_
    refine lv_iconst (v := 0) hx hb dL_share_29 (by decide) ?_
    exact ow_wret C0 u hok rfl hP hD hS (by omega) (by omega) dL_share_30
set_option maxHeartbeats 4000000 in
set_option maxRecDepth 100000 in
theorem c_L_ahead (l : Launch) (D : va_G) (cs : Nat → ClassId) {S : Type} (sz x o : Nat) (x1 : Int32) (x2 : Int32) (x3 : Int32) (v : Nat → Int64) (w : va_W) (fs : List Value) (hw0 : w[0]? = some (x, .inr (10, fs))) (ok : S → Prop) (w' : S → va_W) (K : Nat) (r : Int32) (rmY : Room) (mc ms : Nat) (hc : rmY.cells = mc) (hs : rmY.slots = ms) (hf : rmY.frames ≤ 95) (hlo : rmY.locals ≤ 2300) (hK : K = 0 ∨ K = 2 ∨ K = 1) (hM : ∀ sz, XS l D cs yX10_ahead wsX10_ahead rmY [.ref x, .int x1, .int x2, .int x3] sz w ok w' K r mc ms) : MW l D cs yL_ahead wsL_ahead (rmL mc ms) [.ref x, .int x1, .int x2, .int x3, .ref o] sz (w ++ [oCell cs o v]) ok (fun u => oCell cs o (if K = 0 then vp_updL v (0 : Int32).toNatClampNeg r.toInt64 else v) :: w' u) (if K = 2 then 1 else if K = 1 then 2 else 0 : Int32) mc ms := by
  refine ow_enterH (S := S) (y := yL_ahead) (ws := wsL_ahead) (av := [.ref x, .int x1, .int x2, .int x3, .ref o]) (sz := sz) (w := w ++ [oCell cs o v]) (Qc := fun sz => va_Qi (fun x (u : S) => x = (if K = 2 then 1 else if K = 1 then 2 else 0 : Int32) ∧ ok u) (fun u t => va_P D vwCl ((fun u => oCell cs o (if K = 0 then vp_updL v (0 : Int32).toNatClampNeg r.toInt64 else v) :: w' u) u) t.heap ∧ va_D (va_A (w ++ [oCell cs o v]) sz) ((fun u => oCell cs o (if K = 0 then vp_updL v (0 : Int32).toNatClampNeg r.toInt64 else v) :: w' u) u)) (va_A (w ++ [oCell cs o v]) sz)) (cc := cL_ahead) (nL := 6) (ret := some .int) (hh := [(0, 12, 15, 31), (0, 12, 19, 13)]) (by decide) rfl (Nat.le_of_ble_eq_true rfl) (fun p e s m below meth c ls H locs C0 hN hC ht hP hD hS hsz hl => ?_)
  obtain ⟨hx, hb, hr, hlk, hml, hown, hts, hK0, hG, hE⟩ := id C0
  have hl : lv_has ls 6 [(0, .ref x), (1, .int x1), (2, .int x2), (3, .int x3), (4, .ref o)] := hl
  refine lv_aload hx hb dL_ahead_0 (lv_at hl 4 rfl) ?_
  refine lv_iconst (v := 0) hx hb dL_ahead_2 (by decide) ?_
  refine lv_aload_n hx hb dL_ahead_3 rfl (lv_at hl 0 rfl) ?_
  refine lv_iload_n hx hb dL_ahead_4 rfl (lv_at hl 1 rfl) ?_
  refine lv_iload_n hx hb dL_ahead_5 rfl (lv_at hl 2 rfl) ?_
  refine lv_iload_n hx hb dL_ahead_6 rfl (lv_at hl 3 rfl) ?_
  refine ow_wcall (As := [.int x1, .int x2, .int x3]) (rest := [.int 0, .ref o]) (k := K) (r := r) C0 hN (hM H.size) (cwV 3 hts gL_ahead_X10_ahead rfl hc hs (by decide +kernel) ⟨by show rmY.frames + 1 ≤ 100; omega, by show 8 + (_ + 11) + rmY.locals ≤ 2400; omega⟩) 10 rfl hw0 hP hD hS rfl hl.1 rfl (Nat.le_of_ble_eq_true rfl) ⟨by show 0 + mc ≤ mc; omega, by show 0 + ms ≤ ms; omega⟩ dL_ahead_7 (fun hk u q9 ce H1 locs1 hok hce hcv hcl hP hD hS => ?_) (fun hk u H locs hok hP hD hS => ?_)
  · rcases hK with rfl | rfl | rfl
    · exact absurd rfl hk
    · refine vx_catch (own := RL) (name := "java/util/NoSuchElementException") hown [] ⟨0, 12, 15, 31⟩ [⟨0, 12, 19, 13⟩] (ht.trans rfl) (fun _ h => nomatch h) (by decide) (by decide) (hts (.classLink RL 31 "java/util/NoSuchElementException") (List.mem_of_getElem? (i := 1) rfl)) (va_Nw.use rfl (hN.2.2.2.1 "java/util/NoSuchElementException" (by decide))) hce hcv hcl ?_
      refine lv_astore (lv' := [(5, .ref q9), (0, .ref x), (1, .int x1), (2, .int x2), (3, .int x3), (4, .ref o)]) hx hb dL_ahead_15 hl (by decide) rfl (fun ls hl => ?_)
      refine lv_iconst (v := 1) hx hb dL_ahead_17 (by decide) ?_
      exact ow_wret C0 u hok rfl hP hD hS (by omega) (by omega) dL_ahead_18
    · refine vx_catch (own := RL) (name := "java/lang/IllegalArgumentException") hown [⟨0, 12, 15, 31⟩] ⟨0, 12, 19, 13⟩ [] (ht.trans rfl) (List.forall_mem_cons.mpr ⟨Or.inr ⟨by decide, "java/util/NoSuchElementException", (hts (.classLink RL 31 "java/util/NoSuchElementException") (List.mem_of_getElem? (i := 1) rfl)), hC.1⟩, fun _ h => nomatch h⟩) (by decide) (by decide) (hts (.classLink RL 13 "java/lang/IllegalArgumentException") (List.mem_of_getElem? (i := 2) rfl)) (va_Nw.use rfl (hN.2.2.2.1 "java/lang/IllegalArgumentException" (by decide))) hce hcv hcl ?_
      refine lv_astore (lv' := [(5, .ref q9), (0, .ref x), (1, .int x1), (2, .int x2), (3, .int x3), (4, .ref o)]) hx hb dL_ahead_19 hl (by decide) rfl (fun ls hl => ?_)
      refine lv_iconst (v := 2) hx hb dL_ahead_21 (by decide) ?_
      exact ow_wret C0 u hok rfl hP hD hS (by omega) (by omega) dL_ahead_22
  · subst hk
    refine lv_i2l (v := r.toInt64) hx hb dL_ahead_10 rfl ?_
    refine va_last (x := r.toInt64) hx hb hK0 hP hD hS 0 2 rfl rfl (vp_in_nI (n := 0) (by decide) (by decide)) dL_ahead_11 (fun H locs hP hD hS => ?_)
    refine lv_goto (tgt := 23) hx hb dL_ahead_12 (by decide) ?_
    refine lv_iconst (v := 0) hx hb dL_ahead_23 (by decide) ?_
    exact ow_wret C0 u hok rfl hP hD hS (by omega) (by omega) dL_ahead_24
set_option maxHeartbeats 4000000 in
set_option maxRecDepth 100000 in
theorem c_L_decade (l : Launch) (D : va_G) (cs : Nat → ClassId) {S : Type} (sz x o : Nat) (x1 : Int32) (x2 : Int32) (x3 : Int32) (x4 : Int32) (v : Nat → Int64) (w : va_W) (fs : List Value) (hw0 : w[0]? = some (x, .inr (10, fs))) (ok : S → Prop) (w' : S → va_W) (K : Nat) (r : Int32) (rmY : Room) (mc ms : Nat) (hc : rmY.cells = mc) (hs : rmY.slots = ms) (hf : rmY.frames ≤ 95) (hlo : rmY.locals ≤ 2300) (hK : K = 0 ∨ K = 1) (hM : ∀ sz, XS l D cs yX10_decade wsX10_decade rmY [.ref x, .int x1, .int x2, .int x3, .int x4] sz w ok w' K r mc ms) : MW l D cs yL_decade wsL_decade (rmL mc ms) [.ref x, .int x1, .int x2, .int x3, .int x4, .ref o] sz (w ++ [oCell cs o v]) ok (fun u => oCell cs o (if K = 0 then vp_updL v (0 : Int32).toNatClampNeg r.toInt64 else v) :: w' u) (if K = 1 then 1 else 0 : Int32) mc ms := by
  refine ow_enterH (S := S) (y := yL_decade) (ws := wsL_decade) (av := [.ref x, .int x1, .int x2, .int x3, .int x4, .ref o]) (sz := sz) (w := w ++ [oCell cs o v]) (Qc := fun sz => va_Qi (fun x (u : S) => x = (if K = 1 then 1 else 0 : Int32) ∧ ok u) (fun u t => va_P D vwCl ((fun u => oCell cs o (if K = 0 then vp_updL v (0 : Int32).toNatClampNeg r.toInt64 else v) :: w' u) u) t.heap ∧ va_D (va_A (w ++ [oCell cs o v]) sz) ((fun u => oCell cs o (if K = 0 then vp_updL v (0 : Int32).toNatClampNeg r.toInt64 else v) :: w' u) u)) (va_A (w ++ [oCell cs o v]) sz)) (cc := cL_decade) (nL := 7) (ret := some .int) (hh := [(0, 14, 17, 13)]) (by decide) rfl (Nat.le_of_ble_eq_true rfl) (fun p e s m below meth c ls H locs C0 hN hC ht hP hD hS hsz hl => ?_)
  obtain ⟨hx, hb, hr, hlk, hml, hown, hts, hK0, hG, hE⟩ := id C0
  have hl : lv_has ls 7 [(0, .ref x), (1, .int x1), (2, .int x2), (3, .int x3), (4, .int x4), (5, .ref o)] := hl
  refine lv_aload hx hb dL_decade_0 (lv_at hl 5 rfl) ?_
  refine lv_iconst (v := 0) hx hb dL_decade_2 (by decide) ?_
  refine lv_aload_n hx hb dL_decade_3 rfl (lv_at hl 0 rfl) ?_
  refine lv_iload_n hx hb dL_decade_4 rfl (lv_at hl 1 rfl) ?_
  refine lv_iload_n hx hb dL_decade_5 rfl (lv_at hl 2 rfl) ?_
  refine lv_iload_n hx hb dL_decade_6 rfl (lv_at hl 3 rfl) ?_
  refine lv_iload hx hb dL_decade_7 (lv_at hl 4 rfl) ?_
  refine ow_wcall (As := [.int x1, .int x2, .int x3, .int x4]) (rest := [.int 0, .ref o]) (k := K) (r := r) C0 hN (hM H.size) (cwV 4 hts gL_decade_X10_decade rfl hc hs (by decide +kernel) ⟨by show rmY.frames + 1 ≤ 100; omega, by show 8 + (_ + 11) + rmY.locals ≤ 2400; omega⟩) 10 rfl hw0 hP hD hS rfl hl.1 rfl (Nat.le_of_ble_eq_true rfl) ⟨by show 0 + mc ≤ mc; omega, by show 0 + ms ≤ ms; omega⟩ dL_decade_9 (fun hk u q9 ce H1 locs1 hok hce hcv hcl hP hD hS => ?_) (fun hk u H locs hok hP hD hS => ?_)
  · rcases hK with rfl | rfl
    · exact absurd rfl hk
    · refine vx_catch (own := RL) (name := "java/lang/IllegalArgumentException") hown [] ⟨0, 14, 17, 13⟩ [] (ht.trans rfl) (fun _ h => nomatch h) (by decide) (by decide) (hts (.classLink RL 13 "java/lang/IllegalArgumentException") (List.mem_of_getElem? (i := 1) rfl)) (va_Nw.use rfl (hN.2.2.2.1 "java/lang/IllegalArgumentException" (by decide))) hce hcv hcl ?_
      refine lv_astore (lv' := [(6, .ref q9), (0, .ref x), (1, .int x1), (2, .int x2), (3, .int x3), (4, .int x4), (5, .ref o)]) hx hb dL_decade_17 hl (by decide) rfl (fun ls hl => ?_)
      refine lv_iconst (v := 1) hx hb dL_decade_19 (by decide) ?_
      exact ow_wret C0 u hok rfl hP hD hS (by omega) (by omega) dL_decade_20
  · subst hk
    refine lv_i2l (v := r.toInt64) hx hb dL_decade_12 rfl ?_
    refine va_last (x := r.toInt64) hx hb hK0 hP hD hS 0 2 rfl rfl (vp_in_nI (n := 0) (by decide) (by decide)) dL_decade_13 (fun H locs hP hD hS => ?_)
    refine lv_goto (tgt := 21) hx hb dL_decade_14 (by decide) ?_
    refine lv_iconst (v := 0) hx hb dL_decade_21 (by decide) ?_
    exact ow_wret C0 u hok rfl hP hD hS (by omega) (by omega) dL_decade_22
set_option maxHeartbeats 4000000 in
set_option maxRecDepth 100000 in
theorem c_L_span (l : Launch) (D : va_G) (cs : Nat → ClassId) {S : Type} (sz x o : Nat) (x1 : Int32) (x2 : Int32) (x3 : Int32) (x4 : Int32) (x5 : Int32) (x6 : Int32) (v : Nat → Int64) (w : va_W) (fs : List Value) (hw0 : w[0]? = some (x, .inr (10, fs))) (ok : S → Prop) (w' : S → va_W) (K : Nat) (r : Int32) (rmY : Room) (mc ms : Nat) (hc : rmY.cells = mc) (hs : rmY.slots = ms) (hf : rmY.frames ≤ 95) (hlo : rmY.locals ≤ 2300) (hK : K = 0 ∨ K = 1) (hM : ∀ sz, XS l D cs yX10_span wsX10_span rmY [.ref x, .int x1, .int x2, .int x3, .int x4, .int x5, .int x6] sz w ok w' K r mc ms) : MW l D cs yL_span wsL_span (rmL mc ms) [.ref x, .int x1, .int x2, .int x3, .int x4, .int x5, .int x6, .ref o] sz (w ++ [oCell cs o v]) ok (fun u => oCell cs o (if K = 0 then vp_updL v (0 : Int32).toNatClampNeg r.toInt64 else v) :: w' u) (if K = 1 then 1 else 0 : Int32) mc ms := by
  refine ow_enterH (S := S) (y := yL_span) (ws := wsL_span) (av := [.ref x, .int x1, .int x2, .int x3, .int x4, .int x5, .int x6, .ref o]) (sz := sz) (w := w ++ [oCell cs o v]) (Qc := fun sz => va_Qi (fun x (u : S) => x = (if K = 1 then 1 else 0 : Int32) ∧ ok u) (fun u t => va_P D vwCl ((fun u => oCell cs o (if K = 0 then vp_updL v (0 : Int32).toNatClampNeg r.toInt64 else v) :: w' u) u) t.heap ∧ va_D (va_A (w ++ [oCell cs o v]) sz) ((fun u => oCell cs o (if K = 0 then vp_updL v (0 : Int32).toNatClampNeg r.toInt64 else v) :: w' u) u)) (va_A (w ++ [oCell cs o v]) sz)) (cc := cL_span) (nL := 9) (ret := some .int) (hh := [(0, 18, 21, 13)]) (by decide) rfl (Nat.le_of_ble_eq_true rfl) (fun p e s m below meth c ls H locs C0 hN hC ht hP hD hS hsz hl => ?_)
  obtain ⟨hx, hb, hr, hlk, hml, hown, hts, hK0, hG, hE⟩ := id C0
  have hl : lv_has ls 9 [(0, .ref x), (1, .int x1), (2, .int x2), (3, .int x3), (4, .int x4), (5, .int x5), (6, .int x6), (7, .ref o)] := hl
  refine lv_aload hx hb dL_span_0 (lv_at hl 7 rfl) ?_
  refine lv_iconst (v := 0) hx hb dL_span_2 (by decide) ?_
  refine lv_aload_n hx hb dL_span_3 rfl (lv_at hl 0 rfl) ?_
  refine lv_iload_n hx hb dL_span_4 rfl (lv_at hl 1 rfl) ?_
  refine lv_iload_n hx hb dL_span_5 rfl (lv_at hl 2 rfl) ?_
  refine lv_iload_n hx hb dL_span_6 rfl (lv_at hl 3 rfl) ?_
  refine lv_iload hx hb dL_span_7 (lv_at hl 4 rfl) ?_
  refine lv_iload hx hb dL_span_9 (lv_at hl 5 rfl) ?_
  refine lv_iload hx hb dL_span_11 (lv_at hl 6 rfl) ?_
  refine ow_wcall (As := [.int x1, .int x2, .int x3, .int x4, .int x5, .int x6]) (rest := [.int 0, .ref o]) (k := K) (r := r) C0 hN (hM H.size) (cwV 6 hts gL_span_X10_span rfl hc hs (by decide +kernel) ⟨by show rmY.frames + 1 ≤ 100; omega, by show 8 + (_ + 11) + rmY.locals ≤ 2400; omega⟩) 10 rfl hw0 hP hD hS rfl hl.1 rfl (Nat.le_of_ble_eq_true rfl) ⟨by show 0 + mc ≤ mc; omega, by show 0 + ms ≤ ms; omega⟩ dL_span_13 (fun hk u q9 ce H1 locs1 hok hce hcv hcl hP hD hS => ?_) (fun hk u H locs hok hP hD hS => ?_)
  · rcases hK with rfl | rfl
    · exact absurd rfl hk
    · refine vx_catch (own := RL) (name := "java/lang/IllegalArgumentException") hown [] ⟨0, 18, 21, 13⟩ [] (ht.trans rfl) (fun _ h => nomatch h) (by decide) (by decide) (hts (.classLink RL 13 "java/lang/IllegalArgumentException") (List.mem_of_getElem? (i := 1) rfl)) (va_Nw.use rfl (hN.2.2.2.1 "java/lang/IllegalArgumentException" (by decide))) hce hcv hcl ?_
      refine lv_astore (lv' := [(8, .ref q9), (0, .ref x), (1, .int x1), (2, .int x2), (3, .int x3), (4, .int x4), (5, .int x5), (6, .int x6), (7, .ref o)]) hx hb dL_span_21 hl (by decide) rfl (fun ls hl => ?_)
      refine lv_iconst (v := 1) hx hb dL_span_23 (by decide) ?_
      exact ow_wret C0 u hok rfl hP hD hS (by omega) (by omega) dL_span_24
  · subst hk
    refine lv_i2l (v := r.toInt64) hx hb dL_span_16 rfl ?_
    refine va_last (x := r.toInt64) hx hb hK0 hP hD hS 0 2 rfl rfl (vp_in_nI (n := 0) (by decide) (by decide)) dL_span_17 (fun H locs hP hD hS => ?_)
    refine lv_goto (tgt := 25) hx hb dL_span_18 (by decide) ?_
    refine lv_iconst (v := 0) hx hb dL_span_25 (by decide) ?_
    exact ow_wret C0 u hok rfl hP hD hS (by omega) (by omega) dL_span_26

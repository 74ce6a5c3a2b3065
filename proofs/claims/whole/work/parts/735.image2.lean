/-! image, restore: the calls -/
theorem kp_now {wo : Int32} {now : Nat → Int32} {be : Nat → Nat → Int32} {q : Nat} (hq : q < 2685) : kpT wo now be (1 + q) = now q := by
  rw [kpT, if_neg (by omega), if_pos (by omega), Nat.add_sub_cancel_left]
theorem kp_be {wo : Int32} {now : Nat → Int32} {be : Nat → Nat → Int32} {i q : Nat} (hq : q < 2685) : kpT wo now be (1 + 2685 * (i + 1) + q) = be i q := by
  rw [kpT, if_neg (by omega), if_neg (by omega), show (1 + 2685 * (i + 1) + q - 2686) / 2685 = i by omega, show (1 + 2685 * (i + 1) + q - 2686) % 2685 = q by omega]
theorem im_row {np hd : Nat} {W H : Nat → Nat} {n : GC} {v29 : Nat → Int32} {G : Nat → GC} {g31 : Nat → Nat → Int32} {k : Nat} {v' : Nat → Int32} (h30 : hd ≤ 30) (hk : k ≤ 8) (hG : PzGX np hd W H n v29) (hP : ∀ j, j < k → PzGX np hd W H (G j) (g31 j)) (hv : ∀ j, j < 24166 → v' j = kpT (nI k) v29 g31 j) {B' : Nat → Option Nat} {B0 : Nat → Option Nat} {G0 G' : Nat → GC} (hc : cpOk B0 B' G0 G G' k) (g0 : GC) : ∃ w, w ≤ 8 ∧ nI k = nI w ∧ v' 0 = nI w ∧ PzGX np hd W H (g_cp g0 n) (fun q => v' (1 + q)) ∧ ∀ i, i < w → (B' i).isSome = true ∧ PzGX np hd W H (G' i) (fun q => v' (1 + 2685 * (i + 1) + q)) := by
  refine ⟨k, hk, rfl, ?_, ?_, fun i hi => ?_⟩
  · rw [hv 0 (by omega), kpT, if_pos rfl]
  · refine hG.cp h30 g0 (fun j hj => ?_)
    show v' (1 + j) = _
    rw [hv _ (by omega), kp_now hj]
  · obtain ⟨a1, g, a2⟩ := (hc i).1 hi
    refine ⟨a1, ?_⟩
    rw [a2]
    refine (hP i hi).cp h30 g (fun j hj => ?_)
    show v' (1 + 2685 * (i + 1) + j) = _
    rw [hv _ (by omega), kp_be hj]
theorem q_image {L i : Nat} {C : CS} {R : RS} {cells slots : Nat} (h : PzInv L i C R cells slots) (hi : i + 7 ≤ L) : pS_image (PzInv L (i + 7)) C R cells slots := by
  obtain ⟨np, no, hd, W, H, hS, hG, hL, hB, hT, hP, ⟨m, hm, hm1, hm2, hm3, hm4⟩, hrs, hp1, hp2⟩ := id h.2.1
  obtain ⟨k, hk, hk1, hk2, hk3⟩ := id hP
  obtain ⟨-, -, hiL, hL3, hr1, hr2⟩ := id h
  have h30 := hS.2.2.1.2
  have hroom := pz_room
  have hkeep := h.keep (a := 0) (b := 0) hi (by omega) (by omega) h.1
  have hgr : ∀ j, j < 2 → m = j → ∃ s n' g' v', n' = R.v29 ∧ g' = R.g31 ∧ (∀ q, q < 24166 → v' q = kpT (nI k) R.v29 R.g31 q) ∧ fR_image R = some (nI (j + 1), 0, nI k, nI (j + 1), s, n', g', va_up R.g32 j v') := by
    intro j hj hmj
    obtain ⟨s, n', g', v', a1, a2, a3, a4⟩ := r_img (wo := nI k) (z := R.i37) R.v29 R.g31 (R.g32 j)
    refine ⟨s, n', g', v', funext a1, funext (fun a => funext (a2 a)), a3, ?_⟩
    show f_X11_image _ _ _ _ _ _ _ = _
    rw [f_X11_image, hm2, hmj, if_neg (by rw [pl2, nI_eq (by omega) (by omega)]; omega), pu_ck hj (by omega), nI_clamp (by omega), hk2, a4, nI_1]
    rfl
  have hnl0 := nul_le8 (C.mB 0) k
  have hnl1 := nul_le8 (C.mB 1) k
  rcases (by omega : m = 2 ∨ m = 0 ∨ m = 1) with rfl | rfl | rfl
  · left
    refine ⟨(-1, 0, R.i34, R.i36, R.i37, R.v29, R.g31, R.g32), hm1, ?_, rfl, pz_fit h (by omega) (by omega), hkeep⟩
    show f_X11_image _ _ _ _ _ _ _ = _
    rw [f_X11_image, if_pos (by rw [hm2]; rfl)]
  · obtain ⟨s, n', g', v', e1, e2, e3, e4⟩ := hgr 0 (by omega) rfl
    subst e1 e2
    cases hIM : C.IM 0 with
    | some a =>
      right; left
      refine ⟨a, k, _, hm1, hIM, hk1, hk, fun j hj => (hk3 j hj).1, e4, rfl, ⟨?_, ?_⟩, fun u hu => ?_⟩
      · omega
      · have := nul_cp (B' := C.mB 0) (B := C.mB 0) (G := C.mG 0) (G1 := C.mG 0) (G' := C.mG 0) (k := 0) (fun j => ⟨fun h => absurd h (by omega), fun _ => ⟨rfl, rfl⟩⟩) (by omega)
        have h8 : nulN (C.mB 0) k ≤ nulN (C.mB 0) 8 := nulN_le (C.mB 0) hk
        have : pzNul C.B C.mB = nulN C.B 8 + nulN (C.mB 0) 8 + nulN (C.mB 1) 8 := rfl
        omega
      · have hn := nul_cp hu hk
        refine ⟨h.1, ⟨np, no, hd, W, H, hS, hG, hL, hB, hT, ⟨k, hk, rfl, rfl, hk3⟩, ⟨1, by omega, rfl, rfl, ?_, ?_⟩, hrs, hp1, hp2⟩, hi, hL3, ?_, ?_⟩
        · intro j hj hn0 i2
          show va_up C.mB 0 u.1 j i2 = none
          by_cases ej : j = 0
          · subst ej
            rw [hIM] at hn0
            cases hn0
          · show (if j = 0 then u.1 else C.mB j) i2 = none
            rw [if_neg ej]
            exact hm3 j hj hn0 i2
        · intro j hj
          have ej : j = 0 := by omega
          subst ej
          refine ⟨by rw [hIM]; rfl, ?_⟩
          exact im_row h30 hk hG (fun j hj => (hk3 j hj).2) e3 hu (C.mn 0)
        · show cells + 4 * nulN (C.mB 0) k ≤ _
          omega
        · show slots + 2689 * nulN (C.mB 0) k + 2689 * (nulN C.B 8 + nulN u.1 8 + nulN (C.mB 1) 8) ≤ _
          have : pzNul C.B C.mB = nulN C.B 8 + nulN (C.mB 0) 8 + nulN (C.mB 1) 8 := rfl
          omega
    | none =>
      right; right; right; left
      have hall := nul_all (fun i2 => hm3 0 (by omega) hIM i2)
      have hnk := nul_none k
      refine ⟨k, _, hm1, hIM, hk1, hk, fun j hj => (hk3 j hj).1, e4, rfl, ⟨?_, ?_⟩, fun u hu => ?_⟩
      · rw [hnk]
        omega
      · rw [hnk]
        have : pzNul C.B C.mB = nulN C.B 8 + nulN (C.mB 0) 8 + nulN (C.mB 1) 8 := rfl
        omega
      · have hn := nul_cp hu hk
        rw [hnk, nul_none 8] at hn
        refine ⟨h.1, ⟨np, no, hd, W, H, hS, hG, hL, hB, hT, ⟨k, hk, rfl, rfl, hk3⟩, ⟨1, by omega, rfl, rfl, ?_, ?_⟩, hrs, hp1, hp2⟩, hi, hL3, ?_, ?_⟩
        · intro j hj hn0 i2
          by_cases ej : j = 0
          · subst ej
            cases hn0
          · have hn1 : C.IM j = none := by
              have hn2 : (if j = 0 then some u.1 else C.IM j) = none := hn0
              rw [if_neg ej] at hn2
              exact hn2
            show (if j = 0 then u.2.2.1 else C.mB j) i2 = none
            rw [if_neg ej]
            exact hm3 j hj hn1 i2
        · intro j hj
          have ej : j = 0 := by omega
          subst ej
          exact ⟨rfl, im_row h30 hk hG (fun j hj => (hk3 j hj).2) e3 hu g_0⟩
        · show cells + (6 + 4 * nulN (fun _ => none) k) ≤ _
          rw [hnk]
          omega
        · show slots + (2700 + 2689 * nulN (fun _ => none) k) + 2689 * (nulN C.B 8 + nulN u.2.2.1 8 + nulN (C.mB 1) 8) ≤ _
          rw [hnk]
          have : pzNul C.B C.mB = nulN C.B 8 + nulN (C.mB 0) 8 + nulN (C.mB 1) 8 := rfl
          omega
  · obtain ⟨s, n', g', v', e1, e2, e3, e4⟩ := hgr 1 (by omega) rfl
    subst e1 e2
    have hold := hm4 0 (by omega)
    cases hIM : C.IM 1 with
    | some a =>
      right; right; left
      refine ⟨a, k, _, hm1, hIM, hk1, hk, fun j hj => (hk3 j hj).1, e4, rfl, ⟨?_, ?_⟩, fun u hu => ?_⟩
      · omega
      · have h8 : nulN (C.mB 1) k ≤ nulN (C.mB 1) 8 := nulN_le (C.mB 1) hk
        have : pzNul C.B C.mB = nulN C.B 8 + nulN (C.mB 0) 8 + nulN (C.mB 1) 8 := rfl
        omega
      · have hn := nul_cp hu hk
        refine ⟨h.1, ⟨np, no, hd, W, H, hS, hG, hL, hB, hT, ⟨k, hk, rfl, rfl, hk3⟩, ⟨2, by omega, rfl, rfl, ?_, ?_⟩, hrs, hp1, hp2⟩, hi, hL3, ?_, ?_⟩
        · intro j hj hn0 i2
          by_cases ej : j = 1
          · subst ej
            rw [hIM] at hn0
            cases hn0
          · show (if j = 1 then u.1 else C.mB j) i2 = none
            rw [if_neg ej]
            exact hm3 j hj hn0 i2
        · intro j hj
          by_cases ej : j = 1
          · subst ej
            refine ⟨by rw [hIM]; rfl, ?_⟩
            exact im_row h30 hk hG (fun j hj => (hk3 j hj).2) e3 hu (C.mn 1)
          · have ej0 : j = 0 := by omega
            subst ej0
            exact hold
        · show cells + 4 * nulN (C.mB 1) k ≤ _
          omega
        · show slots + 2689 * nulN (C.mB 1) k + 2689 * (nulN C.B 8 + nulN (C.mB 0) 8 + nulN u.1 8) ≤ _
          have : pzNul C.B C.mB = nulN C.B 8 + nulN (C.mB 0) 8 + nulN (C.mB 1) 8 := rfl
          omega
    | none =>
      right; right; right; right
      have hall := nul_all (fun i2 => hm3 1 (by omega) hIM i2)
      have hnk := nul_none k
      refine ⟨k, _, hm1, hIM, hk1, hk, fun j hj => (hk3 j hj).1, e4, rfl, ⟨?_, ?_⟩, fun u hu => ?_⟩
      · rw [hnk]
        omega
      · rw [hnk]
        have : pzNul C.B C.mB = nulN C.B 8 + nulN (C.mB 0) 8 + nulN (C.mB 1) 8 := rfl
        omega
      · have hn := nul_cp hu hk
        rw [hnk, nul_none 8] at hn
        refine ⟨h.1, ⟨np, no, hd, W, H, hS, hG, hL, hB, hT, ⟨k, hk, rfl, rfl, hk3⟩, ⟨2, by omega, rfl, rfl, ?_, ?_⟩, hrs, hp1, hp2⟩, hi, hL3, ?_, ?_⟩
        · intro j hj hn0 i2
          by_cases ej : j = 1
          · subst ej
            cases hn0
          · have hn1 : C.IM j = none := by
              have hn2 : (if j = 1 then some u.1 else C.IM j) = none := hn0
              rw [if_neg ej] at hn2
              exact hn2
            show (if j = 1 then u.2.2.1 else C.mB j) i2 = none
            rw [if_neg ej]
            exact hm3 j hj hn1 i2
        · intro j hj
          by_cases ej : j = 1
          · subst ej
            exact ⟨rfl, im_row h30 hk hG (fun j hj => (hk3 j hj).2) e3 hu g_0⟩
          · have ej0 : j = 0 := by omega
            subst ej0
            exact hold
        · show cells + (6 + 4 * nulN (fun _ => none) k) ≤ _
          rw [hnk]
          omega
        · show slots + (2700 + 2689 * nulN (fun _ => none) k) + 2689 * (nulN C.B 8 + nulN (C.mB 0) 8 + nulN u.2.2.1 8) ≤ _
          rw [hnk]
          have : pzNul C.B C.mB = nulN C.B 8 + nulN (C.mB 0) 8 + nulN (C.mB 1) 8 := rfl
          omega
theorem rs_step {L i : Nat} {C : CS} {R : RS} {cells slots : Nat} (h : PzInv L i C R cells slots) (hi : i + 7 ≤ L) (j : Nat) (hj : j < 2) (hjm : C.i13 = nI (j + 1)) : ∃ (a k : Nat) (rs2 : Int32 × Int32 × Int32 × Int32 × Int32 × Int32 × (Nat → Int32) × (Nat → Nat → Int32) × (Nat → Nat → Int32)), C.i13 = nI (j + 1) ∧ C.IM j = some a ∧ C.mi j = nI k ∧ k ≤ 8 ∧ (∀ i, i < k → (C.mB j i).isSome = true) ∧ fR_restore R = some rs2 ∧ (nI j) = rs2.1 ∧ (cells + (4 * nulN C.B k) ≤ room_1.cells ∧ slots + (2689 * nulN C.B k) ≤ room_1.slots) ∧ (∀ u : (Nat → Option Nat) × (Nat → Nat → Nat) × (Nat → GC), cpOk C.B u.1 C.G (C.mG j) u.2.2 k → PzInv L (i + 7) (uC_res C j u) (uR_restore R rs2) (cells + (4 * nulN C.B k)) (slots + (2689 * nulN C.B k))) := by
  obtain ⟨np, no, hd, W, H, hS, hG, hL, hB, hT, hP, ⟨m, hm, hm1, hm2, hm3, hm4⟩, hrs, hp1, hp2⟩ := id h.2.1
  obtain ⟨-, -, hiL, hL3, hr1, hr2⟩ := id h
  have h30 := hS.2.2.1.2
  have hroom := pz_room
  have hmj : m = j + 1 := by
    rw [hm1, nI_eq (by omega) (by omega)] at hjm
    exact hjm
  obtain ⟨b1, w, b2, b3, b4, b5, b6⟩ := hm4 j (by omega)
  obtain ⟨a, ha⟩ := Option.isSome_iff_exists.mp b1
  obtain ⟨s, n', g', a1, a2, a3⟩ := r_bck (wo := R.i34) (z := R.i37) R.v29 R.g31 (R.g32 j)
  have eR : fR_restore R = some (nI j, 0, R.g32 j 0, 0, nI j, s, n', g', va_up R.g32 j (R.g32 j)) := by
    show f_X11_restore _ _ _ _ _ _ _ _ = _
    rw [f_X11_restore, hm2, hmj, if_neg (nI_ne0 (by omega) (by omega)), nI_pred, pu_ck hj (by omega), nI_clamp (by omega), a3]
    rfl
  have hnl := nul_le8 C.B w
  have hnl8 : nulN C.B w ≤ nulN C.B 8 := nulN_le C.B b2
  have hNul : pzNul C.B C.mB = nulN C.B 8 + nulN (C.mB 0) 8 + nulN (C.mB 1) 8 := rfl
  have hup : va_up R.g32 j (R.g32 j) = R.g32 := by
    funext a
    show (if a = j then R.g32 j else R.g32 a) = R.g32 a
    by_cases e : a = j
    · rw [if_pos e, e]
    · rw [if_neg e]
  rw [hup] at eR
  refine ⟨a, w, _, hjm, ha, b3, b2, fun i hi2 => (b6 i hi2).1, eR, rfl, ⟨by omega, by omega⟩, fun u hu => ?_⟩
  have hn := nul_cp hu b2
  refine ⟨h.1, ⟨np, no, hd, W, H, hS, ?_, hL, hB, hT, ⟨w, b2, b3, b4, fun q hq => ?_⟩, ⟨j, by omega, rfl, rfl, hm3, fun q hq => hm4 q (by omega)⟩, rfl, hp1, hp2⟩, hi, hL3, ?_, ?_⟩
  · exact b5.cp h30 C.n a1
  · obtain ⟨c1, g, c2⟩ := (hu q).1 hq
    refine ⟨c1, ?_⟩
    show PzGX np hd W H (u.2.2 q) (g' q)
    rw [c2]
    refine (b6 q hq).2.cp h30 g (fun t ht => ?_)
    show g' q t = R.g32 j (1 + 2685 * (q + 1) + t)
    rw [a2 q t (by omega) ht]
    congr 1
    omega
  · show cells + 4 * nulN C.B w ≤ _
    omega
  · show slots + 2689 * nulN C.B w + 2689 * (nulN u.1 8 + nulN (C.mB 0) 8 + nulN (C.mB 1) 8) ≤ _
    omega
theorem q_restore {L i : Nat} {C : CS} {R : RS} {cells slots : Nat} (h : PzInv L i C R cells slots) (hi : i + 7 ≤ L) : pS_restore (PzInv L (i + 7)) C R cells slots := by
  obtain ⟨np, no, hd, W, H, hS, hG, hL, hB, hT, hP, ⟨m, hm, hm1, hm2, hm3, hm4⟩, hrs, hp1, hp2⟩ := id h.2.1
  rcases (by omega : m = 0 ∨ m = 1 ∨ m = 2) with rfl | rfl | rfl
  · left
    refine ⟨(-1, 0, R.i34, R.i35, R.i36, R.i37, R.v29, R.g31, R.g32), hm1, ?_, rfl, pz_fit h (by omega) (by omega), h.keep hi (by omega) (by omega) h.1⟩
    show f_X11_restore _ _ _ _ _ _ _ _ = _
    rw [f_X11_restore, if_pos (by rw [hm2]; rfl)]
  · right; left
    exact rs_step h hi 0 (by omega) hm1
  · right; right
    exact rs_step h hi 1 (by omega) hm1

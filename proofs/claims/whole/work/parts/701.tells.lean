/-! pure: tellsNothing -/
theorem tn_b (q : Nat) (v : Nat → Int32) (i : Nat) (hi : i < 3) : f_X11_tellsNothing_b2 (q + 1) v (nI i) = f_X11_tellsNothing_b2 q (upd v i 0) (nI (i + 1)) := by
  rw [f_X11_tellsNothing_b2, show (3 : Int32) = nI 3 from rfl, if_neg (nI_ge (by omega) (by omega)), pu_ck (by omega) (by omega), nI_clamp (by omega), nI_1]
theorem r_tellsNothing (v : Nat → Int32) : f_X11_tellsNothing v = some (upd (upd (upd (upd (upd (upd v 0 0) 1 0) 2 0) 3 1) 4 3) 5 20) := by
  rw [f_X11_tellsNothing, show (0 : Int32) = nI 0 from rfl, tn_b 3999 v 0 (by omega), tn_b 3998 _ 1 (by omega), tn_b 3997 _ 2 (by omega), show (3997 : Nat) = 3996 + 1 from rfl, f_X11_tellsNothing_b2, show (3 : Int32) = nI 3 from rfl, if_pos (nI_le (by omega) (by omega)), nI_clamp (by omega), show (4 : Int32) = nI 4 from rfl, nI_clamp (by omega), show (5 : Int32) = nI 5 from rfl, nI_clamp (by omega)]
  rfl

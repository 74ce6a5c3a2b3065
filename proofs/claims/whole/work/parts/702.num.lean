/-! numbers -/
theorem pl0 : (0 : Int32) = nI 0 := rfl
theorem pl1 : (1 : Int32) = nI 1 := rfl
theorem pl2 : (2 : Int32) = nI 2 := rfl
theorem pl3 : (3 : Int32) = nI 3 := rfl
theorem pl4 : (4 : Int32) = nI 4 := rfl
theorem pl5 : (5 : Int32) = nI 5 := rfl
theorem pl6 : (6 : Int32) = nI 6 := rfl
theorem pl7 : (7 : Int32) = nI 7 := rfl
theorem pl8 : (8 : Int32) = nI 8 := rfl
theorem pl9 : (9 : Int32) = nI 9 := rfl
theorem pl10 : (10 : Int32) = nI 10 := rfl
theorem pl11 : (11 : Int32) = nI 11 := rfl
theorem pl12 : (12 : Int32) = nI 12 := rfl
theorem pl13 : (13 : Int32) = nI 13 := rfl
theorem pl14 : (14 : Int32) = nI 14 := rfl
theorem pl15 : (15 : Int32) = nI 15 := rfl
theorem pl16 : (16 : Int32) = nI 16 := rfl
theorem pl17 : (17 : Int32) = nI 17 := rfl
theorem pl18 : (18 : Int32) = nI 18 := rfl
theorem pl19 : (19 : Int32) = nI 19 := rfl
theorem pl20 : (20 : Int32) = nI 20 := rfl
theorem pl21 : (21 : Int32) = nI 21 := rfl
theorem pl22 : (22 : Int32) = nI 22 := rfl
theorem pl23 : (23 : Int32) = nI 23 := rfl
theorem pl24 : (24 : Int32) = nI 24 := rfl
theorem pl25 : (25 : Int32) = nI 25 := rfl
theorem pl26 : (26 : Int32) = nI 26 := rfl
theorem pl27 : (27 : Int32) = nI 27 := rfl
theorem pl28 : (28 : Int32) = nI 28 := rfl
theorem pl29 : (29 : Int32) = nI 29 := rfl
theorem pl30 : (30 : Int32) = nI 30 := rfl
theorem pl31 : (31 : Int32) = nI 31 := rfl
theorem pl32 : (32 : Int32) = nI 32 := rfl
theorem pl48 : (48 : Int32) = nI 48 := rfl
theorem pl57 : (57 : Int32) = nI 57 := rfl
theorem pl60 : (60 : Int32) = nI 60 := rfl
theorem pl61 : (61 : Int32) = nI 61 := rfl
theorem pl80 : (80 : Int32) = nI 80 := rfl
theorem pl97 : (97 : Int32) = nI 97 := rfl
theorem pl99 : (99 : Int32) = nI 99 := rfl
theorem pl100 : (100 : Int32) = nI 100 := rfl
theorem pl122 : (122 : Int32) = nI 122 := rfl
theorem pl150 : (150 : Int32) = nI 150 := rfl
theorem pl160 : (160 : Int32) = nI 160 := rfl
theorem pl199 : (199 : Int32) = nI 199 := rfl
theorem pl200 : (200 : Int32) = nI 200 := rfl
theorem pl201 : (201 : Int32) = nI 201 := rfl
theorem pl255 : (255 : Int32) = nI 255 := rfl
theorem pl305 : (305 : Int32) = nI 305 := rfl
theorem pl600 : (600 : Int32) = nI 600 := rfl
theorem pl999 : (999 : Int32) = nI 999 := rfl
theorem pl1000 : (1000 : Int32) = nI 1000 := rfl
theorem pl2400 : (2400 : Int32) = nI 2400 := rfl
theorem pl2480 : (2480 : Int32) = nI 2480 := rfl
theorem pl2681 : (2681 : Int32) = nI 2681 := rfl
theorem pl2682 : (2682 : Int32) = nI 2682 := rfl
theorem pl2683 : (2683 : Int32) = nI 2683 := rfl
theorem pl2684 : (2684 : Int32) = nI 2684 := rfl
theorem pl2685 : (2685 : Int32) = nI 2685 := rfl
theorem pl9999 : (9999 : Int32) = nI 9999 := rfl
theorem pl100000 : (100000 : Int32) = nI 100000 := rfl
theorem pl1000000 : (1000000 : Int32) = nI 1000000 := rfl
theorem pz_sl : ∀ n, n < 32 → ((nI n &&& 31).toBitVec.smod 32).toNat = n := by decide
theorem pz_and (a b : Nat) : nI a &&& nI b = nI (a &&& b) := by
  apply Int32.toBitVec_inj.mp
  show BitVec.ofNat 32 a &&& BitVec.ofNat 32 b = BitVec.ofNat 32 (a &&& b)
  rw [BitVec.ofNat_and]
theorem pz_or (a b : Nat) : nI a ||| nI b = nI (a ||| b) := by
  apply Int32.toBitVec_inj.mp
  show BitVec.ofNat 32 a ||| BitVec.ofNat 32 b = BitVec.ofNat 32 (a ||| b)
  rw [BitVec.ofNat_or]
theorem pz_xor (a b : Nat) : nI a ^^^ nI b = nI (a ^^^ b) := by
  apply Int32.toBitVec_inj.mp
  show BitVec.ofNat 32 a ^^^ BitVec.ofNat 32 b = BitVec.ofNat 32 (a ^^^ b)
  rw [BitVec.ofNat_xor]
theorem pz_of32 (x : Int32) : ∃ n, n < 2 ^ 32 ∧ x = nI n := by
  refine ⟨x.toBitVec.toNat, x.toBitVec.isLt, ?_⟩
  apply Int32.toBitVec_inj.mp
  show _ = BitVec.ofNat 32 _
  rw [BitVec.ofNat_toNat, BitVec.setWidth_eq]
theorem pn_bit {m i : Nat} (hm : m < 2 ^ 31) (hi : i < 32) : nI m >>> (nI i &&& nI 31) &&& nI 1 = nI (m / 2 ^ i % 2) := by
  rw [← pl31, pk_shrN hm _ i (pz_sl i hi), show (nI 1) = nI (2 ^ 1 - 1) from rfl, pk_andN (by have := Nat.div_le_self m (2 ^ i); omega) 1 (by rfl)]
theorem pn_shl {i : Nat} (hi : i < 32) : nI 1 <<< (nI i &&& nI 31) = nI (2 ^ i) := by
  rw [← pl31, pk_shlN _ i (pz_sl i hi) (by rw [Nat.one_mul]; exact Nat.pow_lt_pow_right (by omega) hi), Nat.one_mul]
theorem pn_tb {m i : Nat} : (m / 2 ^ i % 2 = 1) = (m.testBit i = true) := by
  rw [Nat.testBit_eq_decide_div_mod_eq, decide_eq_true_eq]
theorem pn_rem {a d : Nat} (ha : a < 2 ^ 31) (h0 : 0 < d) (hd : d < 2 ^ 31) : nI a - nI (a / d) * nI d = nI (a % d) := by
  rw [← pk_div ha h0 hd, pk_rem ha h0 hd]

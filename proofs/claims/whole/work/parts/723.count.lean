/-! Integer.bitCount -/
theorem and_sp {x y r s : Nat} (hr : r < 256) (hs : s < 256) : (256 * x + r) &&& (256 * y + s) = 256 * (x &&& y) + (r &&& s) := by
  have h1 : ((256 * x + r) &&& (256 * y + s)) / 2 ^ 8 = x &&& y := by
    rw [Nat.and_div_two_pow]
    congr 1 <;> omega
  have h2 : ((256 * x + r) &&& (256 * y + s)) % 2 ^ 8 = r &&& s := by
    rw [Nat.and_mod_two_pow]
    congr 1 <;> omega
  have h3 := Nat.div_add_mod ((256 * x + r) &&& (256 * y + s)) (2 ^ 8)
  rw [h1, h2] at h3
  omega
theorem by55 : ∀ q, q < 2 → ∀ r, r < 128 → (q * 128 + r) &&& 85 = r &&& 85 := by decide
theorem by33 : ∀ q, q < 4 → ∀ r, r < 64 → (q * 64 + r) &&& 51 = r &&& 51 := by decide
/-- half the bits of a byte -/
theorem m55 {n : Nat} (h : n < 2 ^ 32) : (n / 2) &&& 1431655765 = ((n % 256 / 2) &&& 85) + 256 * ((n / 256 % 256 / 2) &&& 85) + 65536 * ((n / 65536 % 256 / 2) &&& 85) + 16777216 * ((n / 16777216 / 2) &&& 85) := by
  have e1 : n / 2 = 256 * (n / 256 / 2) + (n / 256 % 2 * 128 + n % 256 / 2) := by omega
  have e2 : n / 256 / 2 = 256 * (n / 65536 / 2) + (n / 65536 % 2 * 128 + n / 256 % 256 / 2) := by omega
  have e3 : n / 65536 / 2 = 256 * (n / 16777216 / 2) + (n / 16777216 % 2 * 128 + n / 65536 % 256 / 2) := by omega
  rw [e1, show (1431655765 : Nat) = 256 * 5592405 + 85 from rfl, and_sp (by omega) (by omega), by55 _ (by omega) _ (by omega), e2, show (5592405 : Nat) = 256 * 21845 + 85 from rfl, and_sp (by omega) (by omega), by55 _ (by omega) _ (by omega), e3, show (21845 : Nat) = 256 * 85 + 85 from rfl, and_sp (by omega) (by omega), by55 _ (by omega) _ (by omega)]
  omega
theorem m33 {n : Nat} (h : n < 2 ^ 32) : n &&& 858993459 = ((n % 256) &&& 51) + 256 * ((n / 256 % 256) &&& 51) + 65536 * ((n / 65536 % 256) &&& 51) + 16777216 * ((n / 16777216) &&& 51) := by
  have e1 : n = 256 * (n / 256) + n % 256 := by omega
  have e2 : n / 256 = 256 * (n / 65536) + n / 256 % 256 := by omega
  have e3 : n / 65536 = 256 * (n / 16777216) + n / 65536 % 256 := by omega
  have k1 : n &&& 858993459 = 256 * ((n / 256) &&& 3355443) + ((n % 256) &&& 51) := by
    rw [show (858993459 : Nat) = 256 * 3355443 + 51 from rfl]
    exact (congrArg (fun z => z &&& (256 * 3355443 + 51)) e1).trans (and_sp (by omega) (by omega))
  have k2 : (n / 256) &&& 3355443 = 256 * ((n / 65536) &&& 13107) + ((n / 256 % 256) &&& 51) := by
    rw [show (3355443 : Nat) = 256 * 13107 + 51 from rfl]
    exact (congrArg (fun z => z &&& (256 * 13107 + 51)) e2).trans (and_sp (by omega) (by omega))
  have k3 : (n / 65536) &&& 13107 = 256 * ((n / 16777216) &&& 51) + ((n / 65536 % 256) &&& 51) := by
    rw [show (13107 : Nat) = 256 * 51 + 51 from rfl]
    exact (congrArg (fun z => z &&& (256 * 51 + 51)) e3).trans (and_sp (by omega) (by omega))
  omega
theorem m33h {n : Nat} (h : n < 2 ^ 32) : (n / 4) &&& 858993459 = ((n % 256 / 4) &&& 51) + 256 * ((n / 256 % 256 / 4) &&& 51) + 65536 * ((n / 65536 % 256 / 4) &&& 51) + 16777216 * ((n / 16777216 / 4) &&& 51) := by
  have e1 : n / 4 = 256 * (n / 256 / 4) + (n / 256 % 4 * 64 + n % 256 / 4) := by omega
  have e2 : n / 256 / 4 = 256 * (n / 65536 / 4) + (n / 65536 % 4 * 64 + n / 256 % 256 / 4) := by omega
  have e3 : n / 65536 / 4 = 256 * (n / 16777216 / 4) + (n / 16777216 % 4 * 64 + n / 65536 % 256 / 4) := by omega
  rw [e1, show (858993459 : Nat) = 256 * 3355443 + 51 from rfl, and_sp (by omega) (by omega), by33 _ (by omega) _ (by omega), e2, show (3355443 : Nat) = 256 * 13107 + 51 from rfl, and_sp (by omega) (by omega), by33 _ (by omega) _ (by omega), e3, show (13107 : Nat) = 256 * 51 + 51 from rfl, and_sp (by omega) (by omega), by33 _ (by omega) _ (by omega)]
  omega
/-- steps of the count on one byte -/
def y1 (a : Nat) : Nat := a - ((a / 2) &&& 85)
def y2 (a : Nat) : Nat := (y1 a &&& 51) + ((y1 a / 4) &&& 51)
theorem y1_le : ∀ a, a < 256 → (a / 2) &&& 85 ≤ a ∧ y1 a < 256 := by decide +kernel
theorem y2_le : ∀ a, a < 256 → y2 a < 256 ∧ y2 a % 16 ≤ 4 ∧ y2 a / 16 ≤ 4 := by decide +kernel
theorem m0f : ∀ a, a < 256 → a &&& 15 = a % 16 := by decide +kernel
/-- the bits of a byte -/
def pcb (a : Nat) : Nat := y2 a % 16 + y2 a / 16
theorem pcb_eq0 : ∀ a, a < 256 → pcb a = a % 2 + (a / 2 % 2 + (a / 4 % 2 + (a / 8 % 2 + (a / 16 % 2 + (a / 32 % 2 + (a / 64 % 2 + a / 128 % 2)))))) := by decide +kernel
theorem tb_nat (n i : Nat) : (n.testBit i).toNat = n / 2 ^ i % 2 := by
  rw [Nat.testBit_eq_decide_div_mod_eq]
  rcases Nat.mod_two_eq_zero_or_one (n / 2 ^ i) with h0 | h0
  · rw [h0]
    rfl
  · rw [h0]
    rfl
theorem pcb_eq (a : Nat) (h : a < 256) : pcb a = sF (fun j => (a.testBit j).toNat) 8 0 := by
  rw [pcb_eq0 a h]
  simp only [sF, tb_nat, Nat.zero_add, Nat.reduceAdd, Nat.reducePow, Nat.div_one, Nat.add_zero]
theorem m0f4 {n : Nat} (h : n < 2 ^ 32) : n &&& 252645135 = (n % 16) + 256 * (n / 256 % 16) + 65536 * (n / 65536 % 16) + 16777216 * (n / 16777216 % 16) := by
  have e1 : n = 256 * (n / 256) + n % 256 := by omega
  have e2 : n / 256 = 256 * (n / 65536) + n / 256 % 256 := by omega
  have e3 : n / 65536 = 256 * (n / 16777216) + n / 65536 % 256 := by omega
  have k1 : n &&& 252645135 = 256 * ((n / 256) &&& 986895) + ((n % 256) &&& 15) := by
    rw [show (252645135 : Nat) = 256 * 986895 + 15 from rfl]
    exact (congrArg (fun z => z &&& (256 * 986895 + 15)) e1).trans (and_sp (by omega) (by omega))
  have k2 : (n / 256) &&& 986895 = 256 * ((n / 65536) &&& 3855) + ((n / 256 % 256) &&& 15) := by
    rw [show (986895 : Nat) = 256 * 3855 + 15 from rfl]
    exact (congrArg (fun z => z &&& (256 * 3855 + 15)) e2).trans (and_sp (by omega) (by omega))
  have k3 : (n / 65536) &&& 3855 = 256 * ((n / 16777216) &&& 15) + ((n / 65536 % 256) &&& 15) := by
    rw [show (3855 : Nat) = 256 * 15 + 15 from rfl]
    exact (congrArg (fun z => z &&& (256 * 15 + 15)) e3).trans (and_sp (by omega) (by omega))
  rw [m0f _ (by omega)] at k1 k2 k3
  rw [m0f _ (by omega)] at k3
  omega
theorem nb0 {a r : Nat} (h1 : a % 16 ≤ 4) (h2 : a / 16 ≤ 4) : (a + 256 * r + (a + 256 * r) / 16) % 16 = a % 16 + a / 16 := by
  have e : (a + 256 * r) / 16 = a / 16 + 16 * r := by omega
  rw [e]
  omega
theorem nb1 {l b r : Nat} (hl : l ≤ 68) (h1 : b % 16 ≤ 4) (h2 : b / 16 ≤ 4) : (l + 256 * (b + 256 * r) + (l + 256 * (b + 256 * r)) / 16) / 256 % 16 = b % 16 + b / 16 := by
  have e : (l + 256 * (b + 256 * r)) / 16 = l / 16 + 16 * b + 4096 * r := by omega
  have e2 : (l + 256 * (b + 256 * r) + (l / 16 + 16 * b + 4096 * r)) / 256 = b + b / 16 + 272 * r := by omega
  rw [e, e2]
  omega
theorem nb2 {l b r : Nat} (hl : l ≤ 17476) (h1 : b % 16 ≤ 4) (h2 : b / 16 ≤ 4) : (l + 65536 * (b + 256 * r) + (l + 65536 * (b + 256 * r)) / 16) / 65536 % 16 = b % 16 + b / 16 := by
  have e : (l + 65536 * (b + 256 * r)) / 16 = l / 16 + 4096 * b + 1048576 * r := by omega
  have e2 : (l + 65536 * (b + 256 * r) + (l / 16 + 4096 * b + 1048576 * r)) / 65536 = b + b / 16 + 272 * r := by omega
  rw [e, e2]
  omega
theorem nb3 {l b : Nat} (hl : l ≤ 4473924) (h1 : b % 16 ≤ 4) (h2 : b / 16 ≤ 4) : (l + 16777216 * b + (l + 16777216 * b) / 16) / 16777216 % 16 = b % 16 + b / 16 ∧ l + 16777216 * b + (l + 16777216 * b) / 16 < 2 ^ 32 := by
  have e : (l + 16777216 * b) / 16 = l / 16 + 1048576 * b := by omega
  have e2 : (l + 16777216 * b + (l / 16 + 1048576 * b)) / 16777216 = b + b / 16 := by omega
  rw [e, e2]
  omega
theorem le68 {a : Nat} (h1 : a % 16 ≤ 4) (h2 : a / 16 ≤ 4) : a ≤ 68 := by omega
theorem eqA (a b c d : Nat) : a + 256 * (b + 256 * c + 65536 * d) = a + 256 * b + 65536 * c + 16777216 * d := by omega
theorem eqB (a b c d : Nat) : a + 256 * (b + 256 * (c + 256 * d)) = a + 256 * b + 65536 * c + 16777216 * d := by omega
theorem eqC (a b c d : Nat) : a + 256 * b + 65536 * (c + 256 * d) = a + 256 * b + 65536 * c + 16777216 * d := by omega
theorem leB {a b : Nat} (h1 : a ≤ 68) (h2 : b ≤ 68) : a + 256 * b ≤ 17476 := by omega
theorem leC {a b c : Nat} (h1 : a ≤ 68) (h2 : b ≤ 68) (h3 : c ≤ 68) : a + 256 * b + 65536 * c ≤ 4473924 := by omega
theorem nib {n2 a b c d : Nat} (a1 : a % 16 ≤ 4) (a2 : a / 16 ≤ 4) (b1 : b % 16 ≤ 4) (b2 : b / 16 ≤ 4) (c1 : c % 16 ≤ 4) (c2 : c / 16 ≤ 4) (d1 : d % 16 ≤ 4) (d2 : d / 16 ≤ 4) (h : a + 256 * b + 65536 * c + 16777216 * d = n2) : (n2 + n2 / 16) % 16 = a % 16 + a / 16 ∧ (n2 + n2 / 16) / 256 % 16 = b % 16 + b / 16 ∧ (n2 + n2 / 16) / 65536 % 16 = c % 16 + c / 16 ∧ (n2 + n2 / 16) / 16777216 % 16 = d % 16 + d / 16 ∧ n2 + n2 / 16 < 2 ^ 32 := by
  have k0 := nb0 (r := b + 256 * c + 65536 * d) a1 a2
  have k1 := nb1 (l := a) (r := c + 256 * d) (le68 a1 a2) b1 b2
  have k2 := nb2 (l := a + 256 * b) (r := d) (leB (le68 a1 a2) (le68 b1 b2)) c1 c2
  have k3 := nb3 (l := a + 256 * b + 65536 * c) (leC (le68 a1 a2) (le68 b1 b2) (le68 c1 c2)) d1 d2
  rw [eqA, h] at k0
  rw [eqB, h] at k1
  rw [eqC, h] at k2
  rw [h] at k3
  exact ⟨k0, k1, k2, k3.1, k3.2⟩
theorem fin4 {n3 a b c d : Nat} (ha : a ≤ 8) (hb : b ≤ 8) (hc : c ≤ 8) (hd : d ≤ 8) (h : a + 256 * b + 65536 * c + 16777216 * d = n3) : (n3 + n3 / 256 + (n3 + n3 / 256) / 65536) % 64 = a + b + c + d ∧ n3 + n3 / 256 + (n3 + n3 / 256) / 65536 < 2 ^ 32 := by
  have e : n3 / 256 = b + 256 * c + 65536 * d := by omega
  have e2 : n3 + n3 / 256 = (a + b) + 256 * (b + c) + 65536 * (c + d) + 16777216 * d := by omega
  have e3 : (n3 + n3 / 256) / 65536 = (c + d) + 256 * d := by omega
  rw [e3, e2]
  omega
def pc4 (n : Nat) : Nat := pcb (n % 256) + pcb (n / 256 % 256) + pcb (n / 65536 % 256) + pcb (n / 16777216)
theorem p_bitCount {n : Nat} (h : n < 2 ^ 32) : f_J6_bitCount_0f7a4 (nI n) = some (nI (pc4 n)) := by
  have s1 : ∀ {m : Nat}, m < 2 ^ 32 → ((nI m).toUInt32 >>> ((1 : Int32).toUInt32 &&& Int32.toUInt32 31)).toInt32 = nI (m / 2) := fun hm => pk_ushrN hm 1 1 (by decide)
  have s2 : ∀ {m : Nat}, m < 2 ^ 32 → ((nI m).toUInt32 >>> ((2 : Int32).toUInt32 &&& Int32.toUInt32 31)).toInt32 = nI (m / 4) := fun hm => pk_ushrN hm 2 2 (by decide)
  have s4 : ∀ {m : Nat}, m < 2 ^ 32 → ((nI m).toUInt32 >>> ((4 : Int32).toUInt32 &&& Int32.toUInt32 31)).toInt32 = nI (m / 16) := fun hm => pk_ushrN hm 4 4 (by decide)
  have s8 : ∀ {m : Nat}, m < 2 ^ 32 → ((nI m).toUInt32 >>> ((8 : Int32).toUInt32 &&& Int32.toUInt32 31)).toInt32 = nI (m / 256) := fun hm => pk_ushrN hm 8 8 (by decide)
  have s16 : ∀ {m : Nat}, m < 2 ^ 32 → ((nI m).toUInt32 >>> ((16 : Int32).toUInt32 &&& Int32.toUInt32 31)).toInt32 = nI (m / 65536) := fun hm => pk_ushrN hm 16 16 (by decide)
  have g1 := y1_le (n % 256) (by omega)
  have g2 := y1_le (n / 256 % 256) (by omega)
  have g3 := y1_le (n / 65536 % 256) (by omega)
  have g4 := y1_le (n / 16777216) (by omega)
  have f1 := y2_le (n % 256) (by omega)
  have f2 := y2_le (n / 256 % 256) (by omega)
  have f3 := y2_le (n / 65536 % 256) (by omega)
  have f4 := y2_le (n / 16777216) (by omega)
  have hA : nI n - (((nI n).toUInt32 >>> ((1 : Int32).toUInt32 &&& Int32.toUInt32 31)).toInt32 &&& 1431655765) = nI (y1 (n % 256) + 256 * y1 (n / 256 % 256) + 65536 * y1 (n / 65536 % 256) + 16777216 * y1 (n / 16777216)) := by
    rw [s1 h, show (1431655765 : Int32) = nI 1431655765 from rfl, pz_and, m55 h]
    rw [pk_sub (by omega)]
    congr 1
    simp only [y1] at g1 g2 g3 g4 ⊢
    omega
  generalize hN1 : y1 (n % 256) + 256 * y1 (n / 256 % 256) + 65536 * y1 (n / 65536 % 256) + 16777216 * y1 (n / 16777216) = n1 at hA
  have a0 : n1 % 256 = y1 (n % 256) := by omega
  have a1 : n1 / 256 % 256 = y1 (n / 256 % 256) := by omega
  have a2 : n1 / 65536 % 256 = y1 (n / 65536 % 256) := by omega
  have a3 : n1 / 16777216 = y1 (n / 16777216) := by omega
  have hn1 : n1 < 2 ^ 32 := by omega
  have hB : (nI n1 &&& 858993459) + (((nI n1).toUInt32 >>> ((2 : Int32).toUInt32 &&& Int32.toUInt32 31)).toInt32 &&& 858993459) = nI (y2 (n % 256) + 256 * y2 (n / 256 % 256) + 65536 * y2 (n / 65536 % 256) + 16777216 * y2 (n / 16777216)) := by
    rw [s2 hn1, show (858993459 : Int32) = nI 858993459 from rfl, pz_and, pz_and, m33 hn1, m33h hn1, a0, a1, a2, a3, nI_add]
    congr 1
    simp only [y2]
    omega
  generalize hN2 : y2 (n % 256) + 256 * y2 (n / 256 % 256) + 65536 * y2 (n / 65536 % 256) + 16777216 * y2 (n / 16777216) = n2 at hB
  have hn2 : n2 < 2 ^ 32 := by omega
  have hC : (nI n2 + ((nI n2).toUInt32 >>> ((4 : Int32).toUInt32 &&& Int32.toUInt32 31)).toInt32) &&& 252645135 = nI (pcb (n % 256) + 256 * pcb (n / 256 % 256) + 65536 * pcb (n / 65536 % 256) + 16777216 * pcb (n / 16777216)) := by
    obtain ⟨k1, k2, k3, k4, k5⟩ := nib f1.2.1 f1.2.2 f2.2.1 f2.2.2 f3.2.1 f3.2.2 f4.2.1 f4.2.2 hN2
    rw [s4 hn2, show (252645135 : Int32) = nI 252645135 from rfl, nI_add, pz_and, m0f4 k5, k1, k2, k3, k4]
    rfl
  generalize hN3 : pcb (n % 256) + 256 * pcb (n / 256 % 256) + 65536 * pcb (n / 65536 % 256) + 16777216 * pcb (n / 16777216) = n3 at hC
  have p1 : pcb (n % 256) ≤ 8 := by rw [pcb]; omega
  have p2 : pcb (n / 256 % 256) ≤ 8 := by rw [pcb]; omega
  have p3 : pcb (n / 65536 % 256) ≤ 8 := by rw [pcb]; omega
  have p4 : pcb (n / 16777216) ≤ 8 := by rw [pcb]; omega
  obtain ⟨k1, k2⟩ := fin4 p1 p2 p3 p4 hN3
  rw [f_J6_bitCount_0f7a4, hA, hB, hC, s8 (by omega), nI_add, s16 (by omega), nI_add, pk_andN k2 6 (by rfl)]
  rw [show (2 : Nat) ^ 6 = 64 from rfl, k1]
  rfl
theorem sF_shift (f : Nat → Nat) (s : Nat) : ∀ m j, sF (fun i => f (s + i)) m j = sF f m (s + j) := by
  intro m
  induction m with
  | zero =>
    intro j
    rfl
  | succ m ih =>
    intro j
    rw [sF, sF, ih (j + 1), Nat.add_assoc]
theorem pcb_sh {n s : Nat} : pcb (n / 2 ^ s % 256) = sF (fun i => (n.testBit i).toNat) 8 s := by
  rw [pcb_eq _ (Nat.mod_lt _ (by omega))]
  have e : ∀ j, j < 8 → (n / 2 ^ s % 256).testBit j = n.testBit (s + j) := by
    intro j hj
    rw [show 256 = 2 ^ 8 from rfl, Nat.testBit_mod_two_pow, Nat.testBit_div_two_pow]
    simp [hj, Nat.add_comm]
  have e2 := sF_shift (fun i => (n.testBit i).toNat) s 8 0
  rw [Nat.add_zero] at e2
  rw [← e2]
  apply sF_ext
  intro j h1 h2
  show ((n / 2 ^ s % 256).testBit j).toNat = (n.testBit (s + j)).toNat
  rw [e j (by omega)]
theorem pc4_eq {n : Nat} (h : n < 2 ^ 32) : pc4 n = sF (fun i => (n.testBit i).toNat) 32 0 := by
  have e0 := pcb_sh (n := n) (s := 0)
  have e1 := pcb_sh (n := n) (s := 8)
  have e2 := pcb_sh (n := n) (s := 16)
  have e3 := pcb_sh (n := n) (s := 24)
  simp only [Nat.reducePow, Nat.div_one] at e0 e1 e2 e3
  rw [show n / 16777216 % 256 = n / 16777216 by omega] at e3
  have f1 := sF_split (fun i => (n.testBit i).toNat) 8 24 0
  have f2 := sF_split (fun i => (n.testBit i).toNat) 8 16 8
  have f3 := sF_split (fun i => (n.testBit i).toNat) 8 8 16
  simp only [Nat.reduceAdd] at f1 f2 f3
  rw [pc4, e0, e1, e2, e3, f1, f2, f3]
  omega

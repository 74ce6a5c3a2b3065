/-! the relation of the two states -/
/-- the bits of the cells of a pane of w times h -/
def pzcb (w h : Nat) : Nat := (List.range 16).foldl (fun m i => if i % 4 < w ∧ i / 4 < h then m ||| 2 ^ i else m) 0
theorem pzcb_tb : ∀ w, w ≤ 4 → ∀ h, h ≤ 4 → ∀ i, i < 32 → ((pzcb w h).testBit i = true ↔ i % 4 < w ∧ i / 4 < h) := by
  decide
theorem pzcb_lt : ∀ w, w ≤ 4 → ∀ h, h ≤ 4 → pzcb w h < 65536 := by decide
/-- cell c is of a pane -/
def pzIn (np : Nat) (W H : Nat → Nat) (c : Nat) : Prop := c / 16 < np ∧ c % 4 < W (c / 16) ∧ c % 16 / 4 < H (c / 16)
/-- how much rain the first n rains bring on day d -/
def pzRain (ra : Nat → Nat → Int32) (d : Int32) : Nat → Int32
  | 0 => nI 0
  | n + 1 => pzRain ra d n + (if ra n 0 = d then ra n 1 else nI 0)
def PzN (W H : Nat → Nat) (s : CX6) (pa : Nat → Nat → Int32) (p : Nat) : Prop :=
  (1 ≤ W p ∧ W p ≤ 4) ∧ (1 ≤ H p ∧ H p ≤ 4) ∧
  s.2.2.2.2.2.2.1 p = nI (W p) ∧ pa p 0 = nI (W p) ∧ s.2.2.2.2.2.2.2.1 p = nI (H p) ∧ pa p 1 = nI (H p) ∧
  (∃ a, a ≤ 60 ∧ s.2.2.2.2.2.2.2.2.1 p = nI a ∧ pa p 2 = nI a) ∧ (∃ a, a ≤ 9 ∧ s.2.2.2.2.2.2.2.2.2.1 p = nI a ∧ pa p 3 = nI a) ∧
  s.2.2.2.2.2.2.2.2.2.2.1 p = nI (pzcb (W p) (H p))
def PzO (np : Nat) (W H : Nat → Nat) (s : CX6) (od : Nat → Nat → Int32) (o : Nat) : Prop :=
  ∃ p x y d u, p < np ∧ x < W p ∧ y < H p ∧ 1 ≤ d ∧ d ≤ u ∧ u ≤ 200 ∧
  (s.2.2.2.2.2.2.2.2.2.2.2.2 (5 * o) = nI p ∧ od o 0 = nI p) ∧ (s.2.2.2.2.2.2.2.2.2.2.2.2 (5 * o + 1) = nI x ∧ od o 1 = nI x) ∧ (s.2.2.2.2.2.2.2.2.2.2.2.2 (5 * o + 2) = nI y ∧ od o 2 = nI y) ∧ (s.2.2.2.2.2.2.2.2.2.2.2.2 (5 * o + 3) = nI d ∧ od o 3 = nI d) ∧ (s.2.2.2.2.2.2.2.2.2.2.2.2 (5 * o + 4) = nI u ∧ od o 4 = nI u)
/-- the street -/
def PzS (np no hd : Nat) (W H : Nat → Nat) (s : CX6) (to : Nat → Int32) (pa ra od : Nat → Nat → Int32) : Prop :=
  np ≤ 5 ∧ no ≤ 12 ∧ (1 ≤ hd ∧ hd ≤ 30) ∧ (s.1 = nI np ∧ to 0 = nI np) ∧ (s.2.2.1 = nI no ∧ to 1 = nI no) ∧
  (∃ nr, nr ≤ 12 ∧ s.2.1 = nI nr ∧ to 2 = nI nr ∧ ∀ d, d ≤ 200 → ∃ r, r ≤ 108 ∧ s.2.2.2.2.2.2.2.2.2.2.2.1 d = nI r ∧ pzRain ra (nI d) nr = nI r) ∧
  (∃ a, a ≤ 9 ∧ s.2.2.2.1 = nI a ∧ to 3 = nI a) ∧ (∃ a, a ≤ 9 ∧ s.2.2.2.2.1 = nI a ∧ to 4 = nI a) ∧ (s.2.2.2.2.2.1 = nI hd ∧ to 5 = nI hd) ∧
  (∀ p, p < np → PzN W H s pa p) ∧ (∀ o, o < no → PzO np W H s od o)
def pzRag (row : Nat → Int32) : Nat → Int32
  | 0 => nI 0
  | n + 1 => pzRag row n + row (2480 + n)
/-- the films: class and row -/
def PzG (np hd : Nat) (W H : Nat → Nat) (G : GC) (row : Nat → Int32) (dp fd : Nat → Nat) (dy : Nat) : Prop :=
  (∀ c, c < 80 → dp c ≤ hd ∧ G.2.2.2.2.2.2.1 c = nI (dp c) ∧ row (2400 + c) = nI (dp c) ∧ (0 < dp c → pzIn np W H c)) ∧
  (∀ c, c < 80 → ∀ j, j < dp c → G.2.2.2.2.2.1 (30 * c + j) = nI (fd (30 * c + j)) ∧ row (30 * c + j) = nI (fd (30 * c + j)) ∧ 1 ≤ fd (30 * c + j) ∧ fd (30 * c + j) ≤ dy ∧ (j + 1 < dp c → fd (30 * c + j) < fd (30 * c + j + 1))) ∧
  (dy ≤ 200 ∧ G.2.1 = nI dy ∧ row 2684 = nI dy) ∧
  (∀ d, d ≤ 200 → G.2.2.2.2.2.2.2 d = row (2480 + d)) ∧
  G.1 = pzRag row 201 ∧ G.2.2.1 = row 2683 ∧ G.2.2.2.2.1 = row 2682 ∧ (∃ b, b < 32 ∧ G.2.2.2.1 = nI b ∧ row 2681 = nI b ∧ ∀ c, c < 80 → b.testBit (c / 16) = true → dp c = 0)
def PzGX (np hd : Nat) (W H : Nat → Nat) (G : GC) (row : Nat → Int32) : Prop := ∃ dp fd dy, PzG np hd W H G row dp fd dy
/-- the height of the stack ahead of place i of a law -/
def PzL (l : CX3) (m : Int32) (la : Nat → Nat → Int32) : Prop :=
  ∃ n, n ≤ 150 ∧ m = nI n ∧ ((n = 0 ∧ l.1 = nI 1 ∧ l.2.1 0 = nI 1) ∨ (l.1 = nI n ∧ ∃ ht : Nat → Nat, ht 0 = 0 ∧ ht n = 1 ∧ ∀ i, i < n →
    ((∃ v, v ≤ 999 ∧ la i 0 = nI 0 ∧ la i 1 = nI v ∧ l.2.1 i = nI v ∧ ht (i + 1) = ht i + 1) ∨
     (∃ v, v < 8 ∧ la i 0 = nI 1 ∧ la i 1 = nI v ∧ l.2.1 i = -1 - nI v ∧ ht (i + 1) = ht i + 1) ∨
     (∃ v, v < 7 ∧ la i 0 = nI (2 + v) ∧ l.2.1 i = -9 - nI v ∧ 2 ≤ ht i ∧ ht (i + 1) + 1 = ht i))))
def pzBits (xy : Nat → Nat) : Nat → Nat
  | 0 => 0
  | n + 1 => pzBits xy n ||| 2 ^ xy n
def PzB (b : CX0) (m : Int32) (bo : Nat → Nat → Int32) : Prop :=
  ∃ n xy, n ≤ 8 ∧ b.1 = nI n ∧ m = nI n ∧ b.2.1 = nI (pzBits xy n) ∧ (∀ i j, i < j → j < n → xy i ≠ xy j) ∧ ∀ i, i < n → xy i < 16 ∧ b.2.2.1 i = nI (xy i) ∧ bo i 0 = nI (xy i % 4) ∧ bo i 1 = nI (xy i / 4) ∧ ∃ d, d ≤ 200 ∧ b.2.2.2 i = nI d ∧ bo i 2 = nI d
def PzT (t : CX7) (m pl : Int32) (fe : Nat → Int32) : Prop :=
  ∃ n, n ≤ 600 ∧ t.1 = nI n ∧ m = nI n ∧ t.2.2.2.2.2.2.2.1 = pl ∧ ∀ i, i < n → ∃ b, b < 256 ∧ fe i = nI b ∧ t.2.2.2.2.2.2.2.2 i = (nI b).toInt8.toInt32
def PzP (np hd : Nat) (W H : Nat → Nat) (i2 : Int32) (B : Nat → Option Nat) (G : Nat → GC) (m : Int32) (be : Nat → Nat → Int32) : Prop :=
  ∃ k, k ≤ 8 ∧ i2 = nI k ∧ m = nI k ∧ ∀ j, j < k → (B j).isSome = true ∧ PzGX np hd W H (G j) (be j)
def PzI (np hd : Nat) (W H : Nat → Nat) (i13 : Int32) (IM : Nat → Option Nat) (mi : Nat → Int32) (mB : Nat → Nat → Option Nat) (mn : Nat → GC) (mG : Nat → Nat → GC) (m : Int32) (ke : Nat → Nat → Int32) : Prop :=
  ∃ k, k ≤ 2 ∧ i13 = nI k ∧ m = nI k ∧ (∀ j, j < 2 → IM j = none → ∀ i, mB j i = none) ∧ ∀ j, j < k → (IM j).isSome = true ∧ ∃ w, w ≤ 8 ∧ mi j = nI w ∧ ke j 0 = nI w ∧ PzGX np hd W H (mn j) (fun q => ke j (1 + q)) ∧ ∀ i, i < w → (mB j i).isSome = true ∧ PzGX np hd W H (mG j i) (fun q => ke j (1 + 2685 * (i + 1) + q))
/-- refusals counted alike -/
def PzRf (v w : Nat → Int32) : Prop := ∀ k, k < 3 → v k = w k
def PzKB (np no hd : Nat) (W H : Nat → Nat) (s1 : CX6) (n : GC) (l1 : CX3) (b1 : CX0) (t : CX7) (i2 : Int32) (B : Nat → Option Nat) (G : Nat → GC) (i13 : Int32) (IM : Nat → Option Nat) (mi : Nat → Int32) (mB : Nat → Nat → Option Nat) (mn : Nat → GC) (mG : Nat → Nat → GC) (i14 : Int32) (pj pp p0 : Nat → Nat) (wb : Nat → Int32)
    (v12 : Nat → Int32) (g14 g16 g18 : Nat → Nat → Int32) (v29 : Nat → Int32) (i19 : Int32) (g21 : Nat → Nat → Int32) (i33 : Int32) (g23 : Nat → Nat → Int32) (i1 i3 : Int32) (v9 : Nat → Int32) (i34 : Int32) (g31 : Nat → Nat → Int32) (i36 : Int32) (g32 : Nat → Nat → Int32) (i35 : Int32) : Prop :=
  PzS np no hd W H s1 v12 g14 g16 g18 ∧ PzGX np hd W H n v29 ∧ PzL l1 i19 g21 ∧ PzB b1 i33 g23 ∧ PzT t i1 i3 v9 ∧ PzP np hd W H i2 B G i34 g31 ∧
  PzI np hd W H i13 IM mi mB mn mG i36 g32 ∧ i14 = i35 ∧ pj 7 = pp 0 ∧ pj 8 = p0 10 ∧ (∀ p, p < 5 → wb (61 * p) = 0)
def PzK (s1 : CX6) (n : GC) (l1 : CX3) (b1 : CX0) (t : CX7) (i2 : Int32) (B : Nat → Option Nat) (G : Nat → GC) (i13 : Int32) (IM : Nat → Option Nat) (mi : Nat → Int32) (mB : Nat → Nat → Option Nat) (mn : Nat → GC) (mG : Nat → Nat → GC) (i14 : Int32) (pj pp p0 : Nat → Nat) (wb : Nat → Int32)
    (v12 : Nat → Int32) (g14 g16 g18 : Nat → Nat → Int32) (v29 : Nat → Int32) (i19 : Int32) (g21 : Nat → Nat → Int32) (i33 : Int32) (g23 : Nat → Nat → Int32) (i1 i3 : Int32) (v9 : Nat → Int32) (i34 : Int32) (g31 : Nat → Nat → Int32) (i36 : Int32) (g32 : Nat → Nat → Int32) (i35 : Int32) : Prop :=
  ∃ np no hd W H, PzKB np no hd W H s1 n l1 b1 t i2 B G i13 IM mi mB mn mG i14 pj pp p0 wb v12 g14 g16 g18 v29 i19 g21 i33 g23 i1 i3 v9 i34 g31 i36 g32 i35
abbrev PzC (C : CS) (R : RS) : Prop := PzK C.s1 C.n C.l1 C.b1 C.t C.i2 C.B C.G C.i13 C.IM C.mi C.mB C.mn C.mG C.i14 C.pj C.pp C.p0 C.h.2.2.2.2 R.v12 R.g14 R.g16 R.g18 R.v29 R.i19 R.g21 R.i33 R.g23 R.i1 R.i3 R.v9 R.i34 R.g31 R.i36 R.g32 R.i35
/-- slots of the pools that are still null -/
def pzNul (B : Nat → Option Nat) (mB : Nat → Nat → Option Nat) : Nat := nulN B 8 + nulN (mB 0) 8 + nulN (mB 1) 8
def PzRm (i : Nat) (B : Nat → Option Nat) (mB : Nat → Nat → Option Nat) (cells slots : Nat) : Prop :=
  cells ≤ 700 + 40 * i ∧ slots + 2689 * pzNul B mB ≤ 200000 + 400 * i
def PzInv (L i : Nat) (C : CS) (R : RS) (cells slots : Nat) : Prop := PzRf C.v15 R.v10 ∧ PzC C R ∧ i ≤ L ∧ L ≤ 3584 ∧ PzRm i C.B C.mB cells slots
theorem pz_room : 160000 ≤ room_1.cells ∧ 1800000 ≤ room_1.slots := by decide
theorem PzInv.room {L i : Nat} {C : CS} {R : RS} {cells slots : Nat} (h : PzInv L i C R cells slots) : cells ≤ room_1.cells ∧ slots ≤ room_1.slots := by
  obtain ⟨-, -, h1, h2, h3, h4⟩ := h
  have h5 := pz_room
  omega
theorem pz_fit {L i : Nat} {C : CS} {R : RS} {cells slots a b : Nat} (h : PzInv L i C R cells slots) (ha : a ≤ 280) (hb : b ≤ 2800) : cells + a ≤ room_1.cells ∧ slots + b ≤ room_1.slots := by
  obtain ⟨-, -, h1, h2, h3, h4⟩ := h
  have h5 := pz_room
  omega
theorem PzInv.keep {L i : Nat} {C : CS} {R : RS} {cells slots a b : Nat} (h : PzInv L i C R cells slots) (hi : i + 7 ≤ L) (ha : a ≤ 280) (hb : b ≤ 2800) {v w : Nat → Int32} (hv : PzRf v w) : PzRf v w ∧ PzC C R ∧ i + 7 ≤ L ∧ L ≤ 3584 ∧ PzRm (i + 7) C.B C.mB (cells + a) (slots + b) := by
  obtain ⟨-, h0, h1, h2, h3, h4⟩ := h
  exact ⟨hv, h0, hi, h2, by omega, by omega⟩
theorem PzRf.up {v w : Nat → Int32} (h : PzRf v w) {k : Nat} : PzRf (upd v k (v k + 1)) (upd w k (w k + 1)) := by
  intro j hj
  simp only [upd]
  by_cases e : j = k
  · subst e
    simp [h j hj]
  · simp [e, h j hj]

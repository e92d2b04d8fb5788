/-- a loop by its measure: it goes on, or it ends well -/
theorem loopU {S Z9 : Type} (L : Nat → S → Option Z9) (P : Nat → S → Prop) (Q : Z9 → Prop)
    (hs : ∀ n m s, P (m + 1) s → (∃ s', P m s' ∧ L (n + 1) s = L n s') ∨ (∃ r, L (n + 1) s = some r ∧ Q r))
    (h0 : ∀ n s, P 0 s → ∃ r, L (n + 1) s = some r ∧ Q r) : ∀ m n s, m < n → P m s → ∃ r, L n s = some r ∧ Q r
  | 0, n + 1, s, _, h => h0 n s h
  | m + 1, n + 1, s, hm, h => by
    rcases hs n m s h with ⟨s', h1, h2⟩ | ⟨r, h1, h2⟩
    · obtain ⟨r, e, q⟩ := loopU L P Q hs h0 m n s' (by omega) h1
      exact ⟨r, h2.trans e, q⟩
    · exact ⟨r, h1, h2⟩
theorem gd_t {R : Type} {c : Bool} {o : Option R} (h : c = true) : gd c o = o := by rw [h]; rfl
theorem bn_t {A R : Type} {a : A} {k : A → Option R} : bn a k = k a := rfl
theorem bd1_t {A R : Type} {a : A} {o : Option A} {k : A → Option R} (h : o = some a) : bd1 o k = k a := by rw [h]; rfl
theorem bd2_t {A B R : Type} {a : A} {b : B} {o : Option (A × B)} {k : A → B → Option R} (h : o = some (a, b)) : bd2 o k = k a b := by rw [h]; rfl
theorem bd3_t {A B C R : Type} {a : A} {b : B} {c : C} {o : Option (A × B × C)} {k : A → B → C → Option R} (h : o = some (a, b, c)) : bd3 o k = k a b c := by rw [h]; rfl
theorem bd4_t {A B C D R : Type} {a : A} {b : B} {c : C} {d : D} {o : Option (A × B × C × D)} {k : A → B → C → D → Option R} (h : o = some (a, b, c, d)) : bd4 o k = k a b c d := by rw [h]; rfl
theorem bd6_t {A B C D E F R : Type} {a : A} {b : B} {c : C} {d : D} {e : E} {f : F} {o : Option (A × B × C × D × E × F)} {k : A → B → C → D → E → F → Option R} (h : o = some (a, b, c, d, e, f)) : bd6 o k = k a b c d e f := by rw [h]; rfl
theorem inbN {i L : Nat} (h : i < L) (hL : L < 2 ^ 31) : inb (nI i) L = true := by
  have e : (nI i).toNatClampNeg = i := nI_clamp (by omega)
  have p : ¬ nI i < 0 := nI_pos (by omega)
  unfold inb
  rw [e]
  simp [p, h]
def bset (P : Nat → Bool) : Nat := (P 0).toNat + 2 * (P 1).toNat + 4 * (P 2).toNat + 8 * (P 3).toNat + 16 * (P 4).toNat + 32 * (P 5).toNat
theorem bset_lt (P : Nat → Bool) : bset P < 64 := by
  unfold bset
  have h : ∀ b : Bool, b.toNat ≤ 1 := by decide
  have := h (P 0); have := h (P 1); have := h (P 2); have := h (P 3); have := h (P 4); have := h (P 5)
  omega
set_option maxRecDepth 100000 in
theorem bset6 : ∀ a b c d e f : Bool, (a.toNat + 2 * b.toNat + 4 * c.toNat + 8 * d.toNat + 16 * e.toNat + 32 * f.toNat).testBit 0 = a ∧ (a.toNat + 2 * b.toNat + 4 * c.toNat + 8 * d.toNat + 16 * e.toNat + 32 * f.toNat).testBit 1 = b ∧ (a.toNat + 2 * b.toNat + 4 * c.toNat + 8 * d.toNat + 16 * e.toNat + 32 * f.toNat).testBit 2 = c ∧ (a.toNat + 2 * b.toNat + 4 * c.toNat + 8 * d.toNat + 16 * e.toNat + 32 * f.toNat).testBit 3 = d ∧ (a.toNat + 2 * b.toNat + 4 * c.toNat + 8 * d.toNat + 16 * e.toNat + 32 * f.toNat).testBit 4 = e ∧ (a.toNat + 2 * b.toNat + 4 * c.toNat + 8 * d.toNat + 16 * e.toNat + 32 * f.toNat).testBit 5 = f := by decide +kernel
theorem lt6 {i : Nat} (h : i < 6) : i = 0 ∨ i = 1 ∨ i = 2 ∨ i = 3 ∨ i = 4 ∨ i = 5 := by omega
theorem bset_tb (P : Nat → Bool) {i : Nat} (h : i < 6) : (bset P).testBit i = P i := by
  obtain ⟨h0, h1, h2, h3, h4, h5⟩ := bset6 (P 0) (P 1) (P 2) (P 3) (P 4) (P 5)
  rcases lt6 h with rfl | rfl | rfl | rfl | rfl | rfl
  · exact h0
  · exact h1
  · exact h2
  · exact h3
  · exact h4
  · exact h5
theorem ext64 {a b : Nat} (ha : a < 64) (hb : b < 64) (h : ∀ i, i < 6 → a.testBit i = b.testBit i) : a = b := by
  refine Nat.eq_of_testBit_eq fun i => ?_
  by_cases hi : i < 6
  · exact h i hi
  · have p : (64 : Nat) ≤ 2 ^ i := by
      have : (2 : Nat) ^ 6 ≤ 2 ^ i := Nat.pow_le_pow_right (by omega) (by omega)
      exact this
    rw [Nat.testBit_lt_two_pow (by omega), Nat.testBit_lt_two_pow (by omega)]
theorem bset_ext {P Q : Nat → Bool} (h : ∀ i, i < 6 → P i = Q i) : bset P = bset Q := by
  unfold bset
  rw [h 0 (by omega), h 1 (by omega), h 2 (by omega), h 3 (by omega), h 4 (by omega), h 5 (by omega)]
theorem eq_bset {b : Nat} (h : b < 64) : bset b.testBit = b := ext64 (bset_lt _) h fun i hi => bset_tb _ hi
theorem or_lt64 {a b : Nat} (ha : a < 64) (hb : b < 64) : a ||| b < 64 := Nat.or_lt_two_pow (n := 6) ha hb
theorem and_lt64 {a b : Nat} (ha : a < 64) : a &&& b < 64 := Nat.lt_of_le_of_lt Nat.and_le_left ha
theorem bset_or (P Q : Nat → Bool) : bset P ||| bset Q = bset fun i => P i || Q i := ext64 (or_lt64 (bset_lt _) (bset_lt _)) (bset_lt _) fun i hi => by rw [Nat.testBit_or, bset_tb _ hi, bset_tb _ hi, bset_tb _ hi]
theorem two_lt64 : ∀ i, i < 6 → 2 ^ i < 64 := by decide
theorem two_tb : ∀ i, i < 6 → ∀ j, j < 6 → (2 ^ i).testBit j = decide (j = i) := by decide
theorem bset_or1 (P : Nat → Bool) {i : Nat} (hi : i < 6) : bset P ||| 2 ^ i = bset fun j => P j || decide (j = i) := ext64 (or_lt64 (bset_lt _) (two_lt64 i hi)) (bset_lt _) fun j hj => by rw [Nat.testBit_or, bset_tb _ hj, two_tb i hi j hj, bset_tb _ hj]
theorem nI_or {a b : Nat} (ha : a < 64) (hb : b < 64) : nI a ||| nI b = nI (a ||| b) := by
  revert b; revert a; decide +kernel
theorem shl1 : ∀ h, h < 6 → (1 : Int32) <<< (nI h &&& 31) = nI (2 ^ h) := by decide
theorem nI_i : ∀ h, h < 7 → (¬ (6 : Int32) ≤ nI h ↔ h < 6) := by decide
theorem pcnt_le : ∀ b, b < 64 → pcnt b ≤ 6 := by decide +kernel
set_option maxRecDepth 100000 in
theorem pcnt_mono : ∀ b, b < 64 → ∀ c, c < 64 → b ||| c = c → b ≠ c → pcnt b < pcnt c := by decide +kernel
theorem pcnt_1 : ∀ h, h < 6 → pcnt (2 ^ h) = 1 := by decide
/-- a standing's numbers: day, sugar, ice, places, rocks, pours -/
abbrev SN : Type := Nat → Nat
def sPl (S : SN) (h : Nat) : Nat := S (3 + h)
def sRk (S : SN) (h : Nat) : Nat := S (9 + h)
def sHd (S : SN) (a b : Nat) : Nat := S (15 + 6 * a + b)
def RC (S : SN) (x0 x1 x2 x3 : Nat → Int32) : Prop := (∀ j, j < 3 → x0 j = nI (S j)) ∧ (∀ j, j < 6 → x1 j = nI (S (3 + j))) ∧ (∀ j, j < 6 → x2 j = nI (S (9 + j))) ∧ (∀ j, j < 36 → x3 j = nI (S (15 + j)))
/-- a standing of a town: the hill's length, how many houses -/
def VS (H M : Nat) (S : SN) : Prop := M ≤ 6 ∧ 5 ≤ H ∧ H ≤ 60 ∧ (∀ h, h < 6 → sPl S h ≤ H ∧ sRk S h ≤ 9 ∧ (M ≤ h → sPl S h = 0 ∧ sRk S h = 0)) ∧ (∀ a b, a < 6 → b < 6 → sHd S a b ≤ 9 ∧ sHd S a b = sHd S b a ∧ (M ≤ a → sHd S a b = 0)) ∧ (∀ a, a < 6 → sHd S a a = 0) ∧ (∀ a b, a < M → b < 6 → sPl S a = H → sHd S a b = 0) ∧ S 0 ≤ 2000 ∧ S 1 ≤ 99 ∧ S 2 ≤ 9
def edge (S : SN) (t i o : Nat) : Bool := decide (t < sHd S i o)
def hb (S : SN) (t i : Nat) : Nat := bset (edge S t i)

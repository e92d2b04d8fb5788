def RH (x : Nat → Int32) (f : Nat → Nat → Nat) : Prop := ∀ a b, a < 6 → b < 6 → x (6 * a + b) = nI (f a b)
def RP (x : Nat → Int32) (g : Nat → Nat) : Prop := ∀ h, h < 6 → x h = nI (g h)
theorem ixC (a b : Nat) : nI a * 6 + nI b = nI (6 * a + b) := by
  rw [show (6 : Int32) = nI 6 from rfl, pk_mul, nI_add, Nat.mul_comm]
theorem ixR (a b : Nat) : 6 * nI a + nI b = nI (6 * a + b) := by
  rw [show (6 : Int32) = nI 6 from rfl, pk_mul, nI_add]
theorem ix36 {a b : Nat} (ha : a < 6) (hb : b < 6) : 6 * a + b < 36 := by omega
theorem inbH {a b : Nat} (ha : a < 6) (hb : b < 6) : inb (nI (6 * a + b)) 36 = true := inbN (ix36 ha hb) (by decide)
theorem clH {a b : Nat} (ha : a < 6) (hb : b < 6) : (nI (6 * a + b)).toNatClampNeg = 6 * a + b := nI_clamp (by have := ix36 ha hb; omega)
theorem cl6 {a : Nat} (ha : a < 6) : (nI a).toNatClampNeg = a := nI_clamp (by omega)
theorem in6 {a : Nat} (ha : a < 6) : inb (nI a) 6 = true := inbN ha (by decide)
def setF (f : Nat → Nat → Nat) (a b v : Nat) : Nat → Nat → Nat := fun c d => if (c = a ∧ d = b) ∨ (c = b ∧ d = a) then v else f c d
theorem RH_set {x : Nat → Int32} {f : Nat → Nat → Nat} (h : RH x f) {a b : Nat} (ha : a < 6) (hb : b < 6) (v : Nat) : RH (upd (upd x (6 * a + b) (nI v)) (6 * b + a) (nI v)) (setF f a b v) := by
  intro c d hc hd
  unfold upd setF
  by_cases h1 : 6 * c + d = 6 * b + a
  · have e1 : c = b := by omega
    have e2 : d = a := by omega
    rw [if_pos h1, if_pos (Or.inr ⟨e1, e2⟩)]
  · rw [if_neg h1]
    by_cases h2 : 6 * c + d = 6 * a + b
    · have e1 : c = a := by omega
      have e2 : d = b := by omega
      rw [if_pos h2, if_pos (Or.inl ⟨e1, e2⟩)]
    · rw [if_neg h2, if_neg (by rintro (⟨e1, e2⟩ | ⟨e1, e2⟩) <;> subst e1 <;> subst e2 <;> omega)]
      exact h c d hc hd
theorem RP_set {x : Nat → Int32} {g : Nat → Nat} (h : RP x g) {a : Nat} (v : Nat) : RP (upd x a (nI v)) (fun c => if c = a then v else g c) := by
  intro c hc
  show (if c = a then nI v else x c) = nI (if c = a then v else g c)
  by_cases e : c = a
  · rw [if_pos e, if_pos e]
  · rw [if_neg e, if_neg e]; exact h c hc
theorem RH_congr {x : Nat → Int32} {f g : Nat → Nat → Nat} (h : RH x f) (e : ∀ a b, a < 6 → b < 6 → f a b = g a b) : RH x g := fun a b ha hb => by rw [h a b ha hb, e a b ha hb]
theorem RP_congr {x : Nat → Int32} {f g : Nat → Nat} (h : RP x f) (e : ∀ a, a < 6 → f a = g a) : RP x g := fun a ha => by rw [h a ha, e a ha]
theorem p_hardOf {x : Nat → Int32} {f : Nat → Nat → Nat} (h : RH x f) {a b : Nat} (ha : a < 6) (hb : b < 6) : fX7_hardOf x (nI a) (nI b) = some (nI (f a b)) := by
  unfold fX7_hardOf fX7_hardOf_0
  rw [ixC, gd_t (inbH ha hb), clH ha hb, h a b ha hb]
theorem p_setHard {x : Nat → Int32} {f : Nat → Nat → Nat} (h : RH x f) {a b : Nat} (ha : a < 6) (hb : b < 6) (v : Nat) : ∃ x', fX7_setHard (nI a) (nI b) (nI v) x = some x' ∧ RH x' (setF f a b v) := by
  refine ⟨_, ?_, RH_set h ha hb v⟩
  unfold fX7_setHard fX7_setHard_0
  rw [ixC, ixC, gd_t (inbH ha hb), gd_t (inbH hb ha), clH ha hb, clH hb ha]
theorem p_joins {x : Nat → Int32} {f : Nat → Nat → Nat} (h : RH x f) {a b : Nat} (ha : a < 6) (hb : b < 6) (v : Nat) : ∃ x', fX12_joins (nI a) (nI b) (nI v) x = some x' ∧ RH x' (setF f a b v) := by
  refine ⟨_, ?_, RH_set h ha hb v⟩
  unfold fX12_joins fX12_joins_0
  rw [ixR, ixR, gd_t (inbH ha hb), gd_t (inbH hb ha), clH ha hb, clH hb ha]
/-- the bits of those before i of whom it is so -/
def bto (P : Nat → Bool) (i : Nat) : Nat := bset fun o => decide (o < i) && P o
theorem bto_0 (P : Nat → Bool) : bto P 0 = 0 := by simp [bto, bset]
theorem bto_6 (P : Nat → Bool) : bto P 6 = bset P := bset_ext fun i hi => by simp [hi]
theorem bto_lt (P : Nat → Bool) (i : Nat) : bto P i < 64 := bset_lt _
theorem bto_t {P : Nat → Bool} {i : Nat} (hi : i < 6) (h : P i = true) : bto P i ||| 2 ^ i = bto P (i + 1) := by
  unfold bto
  rw [bset_or1 _ hi]
  refine bset_ext fun j hj => ?_
  by_cases e : j = i
  · subst e; simp [h]
  · have : decide (j < i + 1) = decide (j < i) := by simp; omega
    simp [e, this]
theorem bto_f {P : Nat → Bool} {i : Nat} (h : P i = false) : bto P i = bto P (i + 1) := by
  refine bset_ext fun j hj => ?_
  by_cases e : j = i
  · subst e; simp [h]
  · have : decide (j < i + 1) = decide (j < i) := by simp; omega
    simp [this]
theorem le6 {i : Nat} (h : i < 6) : ¬ (6 : Int32) ≤ nI i := (nI_i i (by omega)).mpr h
theorem ge6 : (6 : Int32) ≤ nI 6 := by decide
theorem p_harderTo {x : Nat → Int32} {f : Nat → Nat → Nat} (hf : RH x f) (h9 : ∀ a b, a < 6 → b < 6 → f a b ≤ 9) {h t : Nat} (hh : h < 6) (ht : t < 100) : fX7_harderTo x (nI h) (nI t) = some (nI (bset fun o => decide (t < f h o))) := by
  refine loop4 (fX7_harderTo_5b x) (fun m v1 v2 v3 v4 => ∃ i, i + m = 6 ∧ v1 = nI h ∧ v2 = nI t ∧ v3 = nI (bto (fun o => decide (t < f h o)) i) ∧ v4 = nI i) (fun r => r = some (nI (bset fun o => decide (t < f h o)))) ?_ ?_ 6 5000 (nI h) (nI t) 0 0 (by decide) ⟨0, rfl, rfl, rfl, by rw [bto_0]; rfl, rfl⟩
  · rintro k m _ _ _ _ ⟨i, hi, rfl, rfl, rfl, rfl⟩
    have hi6 : i < 6 := by omega
    have h9' := h9 h i hh hi6
    refine Or.inl ?_
    unfold fX7_harderTo_5b
    rw [if_neg (le6 hi6), ixC, gd_t (inbH hh hi6), clH hh hi6, hf h i hh hi6]
    by_cases c : f h i ≤ t
    · rw [if_pos (nI_le c (by omega))]
      refine ⟨_, _, _, _, ⟨i + 1, by omega, rfl, rfl, rfl, rfl⟩, ?_⟩
      unfold fX7_harderTo_35
      rw [bn_t, nI_1, bto_f (P := fun o => decide (t < f h o)) (by simpa using c)]
    · rw [if_neg (nI_ge (by omega) (by omega))]
      refine ⟨_, _, _, _, ⟨i + 1, by omega, rfl, rfl, rfl, rfl⟩, ?_⟩
      unfold fX7_harderTo_35
      rw [bn_t, bn_t, nI_1, shl1 i hi6, nI_or (bto_lt _ _) (two_lt64 i hi6), bto_t (P := fun o => decide (t < f h o)) hi6 (by simpa using c)]
  · rintro k _ _ _ _ ⟨i, hi, rfl, rfl, rfl, rfl⟩
    obtain rfl : i = 6 := by omega
    unfold fX7_harderTo_5b
    rw [if_pos ge6, bto_6]

theorem zI0 : (0 : Int32) = nI 0 := rfl
theorem zI1 : (1 : Int32) = nI 1 := rfl
theorem zI2 : (2 : Int32) = nI 2 := rfl
theorem zI3 : (3 : Int32) = nI 3 := rfl
theorem zI4 : (4 : Int32) = nI 4 := rfl
theorem zI5 : (5 : Int32) = nI 5 := rfl
theorem zI6 : (6 : Int32) = nI 6 := rfl
theorem zI7 : (7 : Int32) = nI 7 := rfl
theorem zI8 : (8 : Int32) = nI 8 := rfl
theorem zI9 : (9 : Int32) = nI 9 := rfl
theorem zI10 : (10 : Int32) = nI 10 := rfl
theorem zI11 : (11 : Int32) = nI 11 := rfl
theorem zI12 : (12 : Int32) = nI 12 := rfl
theorem nle {a b : Nat} (ha : a < 2147483648) (hb : b < 2147483648) : (nI a ≤ nI b) = (a ≤ b) := propext (nI_leI ha hb)
theorem nlt {a b : Nat} (ha : a < 2147483648) (hb : b < 2147483648) : (nI a < nI b) = (a < b) := propext (nI_ltI ha hb)
theorem neq {a b : Nat} (ha : a < 2147483648) (hb : b < 2147483648) : (nI a = nI b) = (a = b) := propext (nI_eq ha hb)
theorem gdN {R : Type} {i L : Nat} {o : Option R} (h : i < L) (hL : L < 2147483648) : gd (inb (nI i) L) o = o := gd_t (inbN h hL)
theorem clN {i : Nat} (h : i < 2147483648) : (nI i).toNatClampNeg = i := nI_clamp h
theorem nsub {a b : Nat} (h : b ≤ a) : nI a - nI b = nI (a - b) := pk_sub h
theorem mul6a (a : Nat) : nI 6 * nI a = nI (6 * a) := pk_mul 6 a
theorem mul6b (a : Nat) : nI a * nI 6 = nI (6 * a) := by rw [pk_mul, Nat.mul_comm]
theorem bn_s {A R : Type} (a : A) (k : A → Option R) : bn a k = k a := rfl
theorem bd1_s {A R : Type} (a : A) (k : A → Option R) : bd1 (some a) k = k a := rfl
theorem bd2_s {A B R : Type} (a : A) (b : B) (k : A → B → Option R) : bd2 (some (a, b)) k = k a b := rfl
theorem bd3_s {A B C R : Type} (a : A) (b : B) (c : C) (k : A → B → C → Option R) : bd3 (some (a, b, c)) k = k a b c := rfl
theorem bd4_s {A B C D R : Type} (a : A) (b : B) (c : C) (d : D) (k : A → B → C → D → Option R) : bd4 (some (a, b, c, d)) k = k a b c d := rfl
section DAY
variable {H M K : Nat} {p r s : Nat → Nat} {f : Nat → Nat → Nat}
theorem lo_s {f : Nat → Nat → Nat} {h i : Nat} (hi : i < 6) : ∀ c d, c < 6 → d < 6 → setF (fun c d => if (c = h ∧ d < i) ∨ (d = h ∧ c < i) then 0 else f c d) h i 0 c d = if (c = h ∧ d < i + 1) ∨ (d = h ∧ c < i + 1) then 0 else f c d := by
  intro c d hc hd
  simp only [setF]
  repeat' split
  all_goals first | rfl | omega
theorem p_loosen {x2 x3 : Nat → Int32} (h2 : RP x2 r) (h3 : RH x3 f) {h : Nat} (hh : h < 6) : ∃ y2 y3, fX7_loosen (nI h) x2 x3 = some (y2, y3) ∧ (RP y2 fun c => if c = h then 0 else r c) ∧ RH y3 fun c d => if c = h ∨ d = h then 0 else f c d := by
  unfold fX7_loosen fX7_loosen_0
  simp (disch := omega) only [Nat.reduceEqDiff, Nat.reduceLeDiff, Nat.reduceAdd, Nat.reduceSub, Nat.reduceMul, eq_self, Nat.le_refl, Nat.lt_irrefl, zI0, zI1, zI2, zI3, zI4, zI5, zI6, zI7, zI8, zI9, zI10, zI11, zI12, nle, nlt, neq, gdN, clN, nI_add, nsub, mul6a, mul6b, bn_s, bd1_s, bd2_s, bd3_s, bd4_s, if_true, if_false, not_true_eq_false, not_false_eq_true]
  refine loop4 fX7_loosen_9b (fun m v1 v2 y2 y3 => ∃ i, i + m = 6 ∧ v1 = nI h ∧ v2 = nI i ∧ (RP y2 fun c => if c = h then 0 else r c) ∧ RH y3 fun c d => if (c = h ∧ d < i) ∨ (d = h ∧ c < i) then 0 else f c d) (fun o => ∃ y2 y3, o = some (y2, y3) ∧ (RP y2 fun c => if c = h then 0 else r c) ∧ RH y3 fun c d => if c = h ∨ d = h then 0 else f c d) ?_ ?_ 6 5000 _ _ _ _ (by decide) ⟨0, rfl, rfl, rfl, RP_set h2 0, RH_congr h3 fun c d _ _ => by rw [if_neg (by omega)]⟩
  · rintro k m _ _ y2 y3 ⟨i, hi, rfl, rfl, q2, q3⟩
    obtain ⟨z, ez, hz⟩ := p_setHard q3 hh (show i < 6 by omega) 0
    refine Or.inl ⟨_, _, _, _, ⟨i + 1, by omega, rfl, rfl, q2, RH_congr hz (lo_s (by omega))⟩, ?_⟩
    unfold fX7_loosen_9b
    rw [if_neg (le6 (by omega)), show (0 : Int32) = nI 0 from rfl, ez, bd1_s, bn_s, nI_1]
  · rintro k _ _ y2 y3 ⟨i, hi, rfl, rfl, q2, q3⟩
    obtain rfl : i = 6 := by omega
    unfold fX7_loosen_9b
    rw [if_pos ge6]
    exact ⟨_, _, rfl, q2, RH_congr q3 fun c d hc hd => by (repeat' split) <;> first | rfl | omega⟩
theorem p_floods {x2 x3 : Nat → Int32} (h2 : RP x2 r) (h3 : RH x3 f) {h : Nat} (hh : h < 6) : ∃ y2 y3, fX12_floods (nI h) x2 x3 = some (y2, y3) ∧ (RP y2 fun c => if c = h then 0 else r c) ∧ RH y3 fun c d => if c = h ∨ d = h then 0 else f c d := by
  unfold fX12_floods fX12_floods_0
  simp (disch := omega) only [Nat.reduceEqDiff, Nat.reduceLeDiff, Nat.reduceAdd, Nat.reduceSub, Nat.reduceMul, eq_self, Nat.le_refl, Nat.lt_irrefl, zI0, zI1, zI2, zI3, zI4, zI5, zI6, zI7, zI8, zI9, zI10, zI11, zI12, nle, nlt, neq, gdN, clN, nI_add, nsub, mul6a, mul6b, bn_s, bd1_s, bd2_s, bd3_s, bd4_s, if_true, if_false, not_true_eq_false, not_false_eq_true]
  refine loop4 fX12_floods_9b (fun m v1 v2 y2 y3 => ∃ i, i + m = 6 ∧ v1 = nI h ∧ v2 = nI i ∧ (RP y2 fun c => if c = h then 0 else r c) ∧ RH y3 fun c d => if (c = h ∧ d < i) ∨ (d = h ∧ c < i) then 0 else f c d) (fun o => ∃ y2 y3, o = some (y2, y3) ∧ (RP y2 fun c => if c = h then 0 else r c) ∧ RH y3 fun c d => if c = h ∨ d = h then 0 else f c d) ?_ ?_ 6 5000 _ _ _ _ (by decide) ⟨0, rfl, rfl, rfl, RP_set h2 0, RH_congr h3 fun c d _ _ => by rw [if_neg (by omega)]⟩
  · rintro k m _ _ y2 y3 ⟨i, hi, rfl, rfl, q2, q3⟩
    obtain ⟨z, ez, hz⟩ := p_joins q3 hh (show i < 6 by omega) 0
    refine Or.inl ⟨_, _, _, _, ⟨i + 1, by omega, rfl, rfl, q2, RH_congr hz (lo_s (by omega))⟩, ?_⟩
    unfold fX12_floods_9b
    rw [if_neg (le6 (by omega)), show (0 : Int32) = nI 0 from rfl, ez, bd1_s, bn_s, nI_1]
  · rintro k _ _ y2 y3 ⟨i, hi, rfl, rfl, q2, q3⟩
    obtain rfl : i = 6 := by omega
    unfold fX12_floods_9b
    rw [if_pos ge6]
    exact ⟨_, _, rfl, q2, RH_congr q3 fun c d hc hd => by (repeat' split) <;> first | rfl | omega⟩
/-- behind the river: rocks, pours; and what sticks -/
def r2 (M H : Nat) (p r : Nat → Nat) (h : Nat) : Nat := if h < M ∧ p h = H then 0 else r h
def f2 (M H : Nat) (p : Nat → Nat) (f : Nat → Nat → Nat) (a b : Nat) : Nat := if (a < M ∧ p a = H) ∨ (b < M ∧ p b = H) then 0 else f a b
def f3 (M H K : Nat) (p s : Nat → Nat) (f : Nat → Nat → Nat) (a b : Nat) : Nat := if a < M ∧ b < M ∧ a ≠ b ∧ p a = p b ∧ p a < H ∧ 0 < s a + s b ∧ f a b = 0 then K else f a b
def cur (M H K : Nat) (p s : Nat → Nat) (f : Nat → Nat → Nat) (a b c d : Nat) : Nat := if (c < d ∧ (c < a ∨ (c = a ∧ d < b))) ∨ (d < c ∧ (d < a ∨ (d = a ∧ c < b))) then f3 M H K p s f c d else f c d
theorem cur_set {a b : Nat} (hs : f b a = f a b) (hab : a < b) (hb : b < M) (h1 : p a = p b) (h2 : p a < H) (h3 : 0 < s a + s b) (h4 : f a b = 0) : ∀ c d, c < 6 → d < 6 → setF (cur M H K p s f a b) a b K c d = cur M H K p s f a (b + 1) c d := by
  intro c d hc hd
  unfold setF cur f3
  by_cases e1 : c = a ∧ d = b
  · obtain ⟨rfl, rfl⟩ := e1
    repeat' split
    all_goals first | rfl | omega
  · by_cases e2 : c = b ∧ d = a
    · obtain ⟨rfl, rfl⟩ := e2
      repeat' split
      all_goals first | rfl | omega
    · rw [if_neg (by omega)]
      repeat' split
      all_goals first | rfl | omega
theorem cur_no {a b : Nat} (hs : f b a = f a b) (hab : a < b) (hn : ¬ (p a = p b ∧ p a < H ∧ 0 < s a + s b ∧ f a b = 0)) : ∀ c d, c < 6 → d < 6 → cur M H K p s f a b c d = cur M H K p s f a (b + 1) c d := by
  intro c d hc hd
  unfold cur f3
  by_cases e1 : c = a ∧ d = b
  · obtain ⟨rfl, rfl⟩ := e1
    repeat' split
    all_goals first | rfl | omega
  · by_cases e2 : c = b ∧ d = a
    · obtain ⟨rfl, rfl⟩ := e2
      repeat' split
      all_goals first | rfl | omega
    · repeat' split
      all_goals first | rfl | omega
theorem cur_row {a : Nat} : ∀ c d, c < 6 → d < 6 → cur M H K p s f a M c d = cur M H K p s f (a + 1) 0 c d := by
  intro c d hc hd
  unfold cur f3
  repeat' split
  all_goals first | rfl | omega
theorem cur_in {a : Nat} : ∀ c d, c < 6 → d < 6 → cur M H K p s f a 0 c d = cur M H K p s f a (a + 1) c d := by
  intro c d hc hd
  unfold cur f3
  repeat' split
  all_goals first | rfl | omega
theorem cur_0 : ∀ c d, c < 6 → d < 6 → f c d = cur M H K p s f 0 0 c d := by
  intro c d hc hd
  unfold cur f3
  repeat' split
  all_goals first | rfl | omega
theorem cur_M : ∀ c d, c < 6 → d < 6 → cur M H K p s f M 0 c d = f3 M H K p s f c d := by
  intro c d hc hd
  unfold cur f3
  repeat' split
  all_goals first | rfl | omega
theorem cur_at {a b : Nat} (hab : a < b) : cur M H K p s f a b a b = f a b := by
  unfold cur
  rw [if_neg (by omega)]
theorem hb01 {b i : Nat} (hb : b < 64) (hi : i < 6) : (fX11_hasBit (nI b) (nI i) = some (nI 1) ∧ b.testBit i = true) ∨ (fX11_hasBit (nI b) (nI i) = some (nI 0) ∧ b.testBit i = false) := by
  cases q : b.testBit i with
  | true => exact Or.inl ⟨hasBit_1 hb hi q, rfl⟩
  | false => exact Or.inr ⟨hasBit_0 hb hi q, rfl⟩
theorem p_stickIn {x1 x17 x3 : Nat → Int32} {gone a : Nat} (hM : M ≤ 6) (hH : H ≤ 60) (h0 : x17 0 = nI H) (h1 : x17 1 = nI K) (h4 : x17 4 = nI M) (hx1 : RP x1 p) (hp : ∀ h, h < 6 → p h ≤ 60) (hg : gone < 64) (hgs : ∀ h, h < 6 → gone.testBit h = decide (0 < s h)) (hf9 : ∀ a b, a < 6 → b < 6 → f a b ≤ 9) (hfs : ∀ a b, a < 6 → b < 6 → f a b = f b a) (hx3 : RH x3 (cur M H K p s f a (a + 1))) (ha : a < M) (k2 : Int32 → Int32 → (Nat → Int32) → Option (Nat → Int32)) : ∃ y, fX1_stickTogether_18 x1 x17 k2 (nI gone) (nI a) (nI (a + 1)) x3 = k2 (nI gone) (nI (a + 1)) y ∧ RH y (cur M H K p s f (a + 1) 0) := by
  refine loop4 (fX1_stickTogether_18b x1 x17 k2) (fun m v2 v3 v4 y => ∃ b, b + m = M ∧ a < b ∧ v2 = nI gone ∧ v3 = nI a ∧ v4 = nI b ∧ RH y (cur M H K p s f a b)) (fun o => ∃ y, o = k2 (nI gone) (nI (a + 1)) y ∧ RH y (cur M H K p s f (a + 1) 0)) ?_ ?_ (M - (a + 1)) 5000 _ _ _ _ (by omega) ⟨a + 1, by omega, by omega, rfl, rfl, rfl, hx3⟩
  · rintro k m _ _ _ y ⟨b, hb, hab, rfl, rfl, rfl, hy⟩
    have ha6 : a < 6 := by omega
    have hb6 : b < 6 := by omega
    have qa := hx1 a ha6
    have qb := hx1 b hb6
    have pa := hp a ha6
    have pb := hp b hb6
    have hard := p_hardOf hy ha6 hb6
    rw [cur_at hab] at hard
    have f9 := hf9 a b ha6 hb6
    have sa := hgs a ha6
    have sb := hgs b hb6
    have no : ¬ (p a = p b ∧ p a < H ∧ 0 < s a + s b ∧ f a b = 0) → RH y (cur M H K p s f a (b + 1)) := fun hn => RH_congr hy (cur_no (hfs b a hb6 ha6) hab hn)
    refine Or.inl ?_
    by_cases c : p a = p b ∧ p a < H ∧ 0 < s a + s b ∧ f a b = 0
    · obtain ⟨z, ez, hz⟩ := p_setHard hy ha6 hb6 K
      refine ⟨nI gone, nI a, nI (b + 1), z, ⟨b + 1, by omega, by omega, rfl, rfl, rfl, RH_congr hz (cur_set (hfs b a hb6 ha6) hab (by omega) c.1 c.2.1 c.2.2.1 c.2.2.2)⟩, ?_⟩
      have c2 : ¬ M ≤ b := by omega
      have c3 : ¬ H ≤ p b := by omega
      rcases hb01 hg ha6 with ⟨u1, u2⟩ | ⟨u1, u2⟩
      · simp (disch := omega) only [fX1_stickTogether_18b, fX1_stickTogether_66, fX1_stickTogether_67, fX1_stickTogether_86, fX1_stickTogether_91, fX1_stickTogether_127, h0, h1, h4, qa, qb, c.1, c2, c3, u1, hard, c.2.2.2, ez, Nat.reduceEqDiff, Nat.reduceLeDiff, Nat.reduceAdd, Nat.reduceSub, Nat.reduceMul, eq_self, Nat.le_refl, Nat.lt_irrefl, zI0, zI1, zI2, zI3, zI4, zI5, zI6, zI7, zI8, zI9, zI10, zI11, zI12, nle, nlt, neq, gdN, clN, nI_add, nsub, mul6a, mul6b, bn_s, bd1_s, bd2_s, bd3_s, bd4_s, if_true, if_false, not_true_eq_false, not_false_eq_true]
      · rcases hb01 hg hb6 with ⟨w1, w2⟩ | ⟨w1, w2⟩
        · simp (disch := omega) only [fX1_stickTogether_18b, fX1_stickTogether_66, fX1_stickTogether_67, fX1_stickTogether_86, fX1_stickTogether_91, fX1_stickTogether_127, h0, h1, h4, qa, qb, c.1, c2, c3, u1, w1, hard, c.2.2.2, ez, Nat.reduceEqDiff, Nat.reduceLeDiff, Nat.reduceAdd, Nat.reduceSub, Nat.reduceMul, eq_self, Nat.le_refl, Nat.lt_irrefl, zI0, zI1, zI2, zI3, zI4, zI5, zI6, zI7, zI8, zI9, zI10, zI11, zI12, nle, nlt, neq, gdN, clN, nI_add, nsub, mul6a, mul6b, bn_s, bd1_s, bd2_s, bd3_s, bd4_s, if_true, if_false, not_true_eq_false, not_false_eq_true]
        · rw [sa, decide_eq_false_iff_not] at u2
          rw [sb, decide_eq_false_iff_not] at w2
          omega
    · refine ⟨nI gone, nI a, nI (b + 1), y, ⟨b + 1, by omega, by omega, rfl, rfl, rfl, no c⟩, ?_⟩
      have c2 : ¬ M ≤ b := by omega
      by_cases c1 : p a = p b
      · by_cases c3 : H ≤ p b
        · rcases hb01 hg ha6 with ⟨u1, u2⟩ | ⟨u1, u2⟩ <;> rcases hb01 hg hb6 with ⟨w1, w2⟩ | ⟨w1, w2⟩ <;>
            simp (disch := omega) only [fX1_stickTogether_18b, fX1_stickTogether_66, fX1_stickTogether_67, fX1_stickTogether_86, fX1_stickTogether_91, fX1_stickTogether_127, h0, h1, h4, qa, qb, c1, c2, c3, u1, w1, hard, Nat.reduceEqDiff, Nat.reduceLeDiff, Nat.reduceAdd, Nat.reduceSub, Nat.reduceMul, eq_self, Nat.le_refl, Nat.lt_irrefl, zI0, zI1, zI2, zI3, zI4, zI5, zI6, zI7, zI8, zI9, zI10, zI11, zI12, nle, nlt, neq, gdN, clN, nI_add, nsub, mul6a, mul6b, bn_s, bd1_s, bd2_s, bd3_s, bd4_s, if_true, if_false, not_true_eq_false, not_false_eq_true]
        · rcases hb01 hg ha6 with ⟨u1, u2⟩ | ⟨u1, u2⟩ <;> rcases hb01 hg hb6 with ⟨w1, w2⟩ | ⟨w1, w2⟩ <;> rw [sa] at u2 <;> rw [sb] at w2 <;> simp only [decide_eq_true_eq, decide_eq_false_iff_not] at u2 w2
          · have c4 : ¬ f a b = 0 := by omega
            simp (disch := omega) only [fX1_stickTogether_18b, fX1_stickTogether_66, fX1_stickTogether_67, fX1_stickTogether_86, fX1_stickTogether_91, fX1_stickTogether_127, h0, h1, h4, qa, qb, c1, c2, c3, u1, w1, hard, c4, Nat.reduceEqDiff, Nat.reduceLeDiff, Nat.reduceAdd, Nat.reduceSub, Nat.reduceMul, eq_self, Nat.le_refl, Nat.lt_irrefl, zI0, zI1, zI2, zI3, zI4, zI5, zI6, zI7, zI8, zI9, zI10, zI11, zI12, nle, nlt, neq, gdN, clN, nI_add, nsub, mul6a, mul6b, bn_s, bd1_s, bd2_s, bd3_s, bd4_s, if_true, if_false, not_true_eq_false, not_false_eq_true]
          · have c4 : ¬ f a b = 0 := by omega
            simp (disch := omega) only [fX1_stickTogether_18b, fX1_stickTogether_66, fX1_stickTogether_67, fX1_stickTogether_86, fX1_stickTogether_91, fX1_stickTogether_127, h0, h1, h4, qa, qb, c1, c2, c3, u1, w1, hard, c4, Nat.reduceEqDiff, Nat.reduceLeDiff, Nat.reduceAdd, Nat.reduceSub, Nat.reduceMul, eq_self, Nat.le_refl, Nat.lt_irrefl, zI0, zI1, zI2, zI3, zI4, zI5, zI6, zI7, zI8, zI9, zI10, zI11, zI12, nle, nlt, neq, gdN, clN, nI_add, nsub, mul6a, mul6b, bn_s, bd1_s, bd2_s, bd3_s, bd4_s, if_true, if_false, not_true_eq_false, not_false_eq_true]
          · have c4 : ¬ f a b = 0 := by omega
            simp (disch := omega) only [fX1_stickTogether_18b, fX1_stickTogether_66, fX1_stickTogether_67, fX1_stickTogether_86, fX1_stickTogether_91, fX1_stickTogether_127, h0, h1, h4, qa, qb, c1, c2, c3, u1, w1, hard, c4, Nat.reduceEqDiff, Nat.reduceLeDiff, Nat.reduceAdd, Nat.reduceSub, Nat.reduceMul, eq_self, Nat.le_refl, Nat.lt_irrefl, zI0, zI1, zI2, zI3, zI4, zI5, zI6, zI7, zI8, zI9, zI10, zI11, zI12, nle, nlt, neq, gdN, clN, nI_add, nsub, mul6a, mul6b, bn_s, bd1_s, bd2_s, bd3_s, bd4_s, if_true, if_false, not_true_eq_false, not_false_eq_true]
          · simp (disch := omega) only [fX1_stickTogether_18b, fX1_stickTogether_66, fX1_stickTogether_67, fX1_stickTogether_86, fX1_stickTogether_91, fX1_stickTogether_127, h0, h1, h4, qa, qb, c1, c2, c3, u1, w1, hard, Nat.reduceEqDiff, Nat.reduceLeDiff, Nat.reduceAdd, Nat.reduceSub, Nat.reduceMul, eq_self, Nat.le_refl, Nat.lt_irrefl, zI0, zI1, zI2, zI3, zI4, zI5, zI6, zI7, zI8, zI9, zI10, zI11, zI12, nle, nlt, neq, gdN, clN, nI_add, nsub, mul6a, mul6b, bn_s, bd1_s, bd2_s, bd3_s, bd4_s, if_true, if_false, not_true_eq_false, not_false_eq_true]
      · rcases hb01 hg ha6 with ⟨u1, u2⟩ | ⟨u1, u2⟩ <;> rcases hb01 hg hb6 with ⟨w1, w2⟩ | ⟨w1, w2⟩ <;>
          simp (disch := omega) only [fX1_stickTogether_18b, fX1_stickTogether_66, fX1_stickTogether_67, fX1_stickTogether_86, fX1_stickTogether_91, fX1_stickTogether_127, h0, h1, h4, qa, qb, c1, c2, u1, w1, hard, Nat.reduceEqDiff, Nat.reduceLeDiff, Nat.reduceAdd, Nat.reduceSub, Nat.reduceMul, eq_self, Nat.le_refl, Nat.lt_irrefl, zI0, zI1, zI2, zI3, zI4, zI5, zI6, zI7, zI8, zI9, zI10, zI11, zI12, nle, nlt, neq, gdN, clN, nI_add, nsub, mul6a, mul6b, bn_s, bd1_s, bd2_s, bd3_s, bd4_s, if_true, if_false, not_true_eq_false, not_false_eq_true]
  · rintro k _ _ _ y ⟨b, hb, hab, rfl, rfl, rfl, hy⟩
    have eb : b = M := by omega
    subst eb
    refine ⟨y, ?_, RH_congr hy cur_row⟩
    simp (disch := omega) only [fX1_stickTogether_18b, h4, Nat.le_refl, Nat.reduceEqDiff, Nat.reduceLeDiff, Nat.reduceAdd, Nat.reduceSub, Nat.reduceMul, eq_self, Nat.le_refl, Nat.lt_irrefl, zI0, zI1, zI2, zI3, zI4, zI5, zI6, zI7, zI8, zI9, zI10, zI11, zI12, nle, nlt, neq, gdN, clN, nI_add, nsub, mul6a, mul6b, bn_s, bd1_s, bd2_s, bd3_s, bd4_s, if_true, if_false, not_true_eq_false, not_false_eq_true]
theorem p_stick {x1 x17 x3 : Nat → Int32} {gone : Nat} (hM : M ≤ 6) (hH : H ≤ 60) (h0 : x17 0 = nI H) (h1 : x17 1 = nI K) (h4 : x17 4 = nI M) (hx1 : RP x1 p) (hp : ∀ h, h < 6 → p h ≤ 60) (hg : gone < 64) (hgs : ∀ h, h < 6 → gone.testBit h = decide (0 < s h)) (hf9 : ∀ a b, a < 6 → b < 6 → f a b ≤ 9) (hfs : ∀ a b, a < 6 → b < 6 → f a b = f b a) (hx3 : RH x3 f) : ∃ y, fX1_stickTogether x1 x17 (nI gone) x3 = some y ∧ RH y (f3 M H K p s f) := by
  refine loop3 (fX1_stickTogether_2b x1 x17) (fun m v2 v3 y => ∃ a, a + m = M ∧ v2 = nI gone ∧ v3 = nI a ∧ RH y (cur M H K p s f a 0)) (fun o => ∃ y, o = some y ∧ RH y (f3 M H K p s f)) ?_ ?_ M 5000 _ _ _ (by omega) ⟨0, by omega, rfl, rfl, RH_congr hx3 cur_0⟩
  · rintro k m _ _ y ⟨a, ha, rfl, rfl, hy⟩
    obtain ⟨z, ez, hz⟩ := p_stickIn hM hH h0 h1 h4 hx1 hp hg hgs hf9 hfs (RH_congr hy cur_in) (show a < M by omega) k
    refine Or.inl ⟨_, _, _, ⟨a + 1, by omega, rfl, rfl, hz⟩, ?_⟩
    rw [← ez]
    have c2 : ¬ M ≤ a := by omega
    simp (disch := omega) only [fX1_stickTogether_2b, h4, c2, Nat.reduceEqDiff, Nat.reduceLeDiff, Nat.reduceAdd, Nat.reduceSub, Nat.reduceMul, eq_self, Nat.le_refl, Nat.lt_irrefl, zI0, zI1, zI2, zI3, zI4, zI5, zI6, zI7, zI8, zI9, zI10, zI11, zI12, nle, nlt, neq, gdN, clN, nI_add, nsub, mul6a, mul6b, bn_s, bd1_s, bd2_s, bd3_s, bd4_s, if_true, if_false, not_true_eq_false, not_false_eq_true]
  · rintro k _ _ y ⟨a, ha, rfl, rfl, hy⟩
    have eb : a = M := by omega
    subst eb
    refine ⟨y, ?_, RH_congr hy cur_M⟩
    simp (disch := omega) only [fX1_stickTogether_2b, h4, Nat.le_refl, Nat.reduceEqDiff, Nat.reduceLeDiff, Nat.reduceAdd, Nat.reduceSub, Nat.reduceMul, eq_self, Nat.le_refl, Nat.lt_irrefl, zI0, zI1, zI2, zI3, zI4, zI5, zI6, zI7, zI8, zI9, zI10, zI11, zI12, nle, nlt, neq, gdN, clN, nI_add, nsub, mul6a, mul6b, bn_s, bd1_s, bd2_s, bd3_s, bd4_s, if_true, if_false, not_true_eq_false, not_false_eq_true]
end DAY

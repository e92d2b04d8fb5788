section MELT
variable {H M K t : Nat} {g r p s : Nat → Nat} {f : Nat → Nat → Nat}
theorem r2_y {i : Nat} (hp : p i = H) : ∀ c, c < 6 → (if c = i then 0 else r2 i H p r c) = r2 (i + 1) H p r c := by
  intro c hc
  unfold r2
  by_cases e : c = i
  · subst e
    repeat' split
    all_goals first | rfl | omega
  · repeat' split
    all_goals first | rfl | omega
theorem r2_n {i : Nat} (hp : p i ≠ H) : ∀ c, c < 6 → r2 i H p r c = r2 (i + 1) H p r c := by
  intro c hc
  unfold r2
  by_cases e : c = i
  · subst e
    repeat' split
    all_goals first | rfl | omega
  · repeat' split
    all_goals first | rfl | omega
theorem f2_y {i : Nat} (hp : p i = H) : ∀ c d, c < 6 → d < 6 → (if c = i ∨ d = i then 0 else f2 i H p f c d) = f2 (i + 1) H p f c d := by
  intro c d hc hd
  unfold f2
  by_cases e : c = i
  · subst e
    repeat' split
    all_goals first | rfl | omega
  · by_cases e2 : d = i
    · subst e2
      repeat' split
      all_goals first | rfl | omega
    · repeat' split
      all_goals first | rfl | omega
theorem f2_n {i : Nat} (hp : p i ≠ H) : ∀ c d, c < 6 → d < 6 → f2 i H p f c d = f2 (i + 1) H p f c d := by
  intro c d hc hd
  unfold f2
  by_cases e : c = i
  · subst e
    by_cases e2 : d = c
    · subst e2
      repeat' split
      all_goals first | rfl | omega
    · repeat' split
      all_goals first | rfl | omega
  · by_cases e2 : d = i
    · subst e2
      repeat' split
      all_goals first | rfl | omega
    · repeat' split
      all_goals first | rfl | omega
theorem r2_0 : ∀ c, c < 6 → r c = r2 0 H p r c := fun c _ => by unfold r2; rw [if_neg (by omega)]
theorem f2_0 : ∀ c d, c < 6 → d < 6 → f c d = f2 0 H p f c d := fun c d _ _ => by unfold f2; rw [if_neg (by omega)]
theorem f2_9 {i : Nat} (h9 : ∀ a b, a < 6 → b < 6 → f a b ≤ 9) : ∀ a b, a < 6 → b < 6 → f2 i H p f a b ≤ 9 := fun a b ha hb => by
  have := h9 a b ha hb
  unfold f2
  split <;> omega
theorem f2_s {i : Nat} (hs : ∀ a b, a < 6 → b < 6 → f a b = f b a) : ∀ a b, a < 6 → b < 6 → f2 i H p f a b = f2 i H p f b a := fun a b ha hb => by
  have := hs a b ha hb
  unfold f2
  repeat' split
  all_goals first | rfl | omega
theorem pcnt_or1 : ∀ b, b < 64 → ∀ i, i < 6 → b.testBit i = false → pcnt (b ||| 2 ^ i) = pcnt b + 1 := by decide +kernel
theorem pcnt_bto {P : Nat → Bool} {i : Nat} (hi : i < 6) : pcnt (bto P (i + 1)) = pcnt (bto P i) + (if P i = true then 1 else 0) := by
  cases q : P i with
  | false => rw [← bto_f q]; simp
  | true =>
    rw [← bto_t hi q, pcnt_or1 _ (bto_lt _ _) i hi (by unfold bto; rw [bset_tb _ hi]; simp)]
    simp
theorem pcnt_bto_le (P : Nat → Bool) (i : Nat) : pcnt (bto P i) ≤ 6 := pcnt_le _ (bto_lt _ _)
/-- how many go down -/
def dwn (s : Nat → Nat) : Nat := bset fun h => decide (0 < s h)
theorem p_melt {x17 xo x1 x2 x3 x33 : Nat → Int32} {d ic : Nat} (hV : VG H M g r f) (ht : t < 10) (h0 : x17 0 = nI H) (h1 : x17 1 = nI K) (h4 : x17 4 = nI M) (hd : xo 0 = nI d) (hic : xo 2 = nI ic) (hi9 : ic ≤ 9) (hx1 : RP x1 g) (hx2 : RP x2 r) (hx3 : RH x3 f) : ∃ xo' y1 y2 y3 z, fX1_melt x17 (nI t) xo x1 x2 x3 x33 = some (nI (pcnt (dwn (sk H M t g r f))), xo', y1, y2, y3, z) ∧ xo' 0 = nI (d + 1) ∧ xo' 1 = xo 1 ∧ xo' 2 = nI (ic - 1) ∧ RP y1 (g2 H M t g r f) ∧ RP y2 (r2 M H (g2 H M t g r f) r) ∧ RH y3 (f3 M H K (g2 H M t g r f) (sk H M t g r f) (f2 M H (g2 H M t g r f) f)) := by
  obtain ⟨gone, y1, z, e1, hg1, hg2, hy1⟩ := p_runDown (x33 := x33) hV ht h0 h4 hx1 hx2 hx3
  obtain ⟨hM, hH5, hH, hgr, hr0, hf9, hf0, hfr⟩ := id hV
  have hgone : gone = dwn (sk H M t g r f) := ext64 hg1 (bset_lt _) fun i hi => by rw [hg2 i hi]; unfold dwn; rw [bset_tb _ hi]
  have hp : ∀ h, h < 6 → g2 H M t g r f h ≤ H := fun h hh => by
    have := (hgr h hh).1
    unfold g2 sk
    split
    · split
      · omega
      · omega
    · omega
  unfold fX1_melt fX1_melt_0
  rw [e1, bd3_s]
  generalize g2 H M t g r f = p at hp hy1 ⊢
  generalize hs : sk H M t g r f = s at hg2 hgone ⊢
  refine loop7 (fX1_melt_10b x17) (fun m v3 v4 yo w1 w2 w3 w4 => ∃ i, i + m = M ∧ v3 = nI gone ∧ v4 = nI i ∧ xo = yo ∧ y1 = w1 ∧ RP w2 (r2 i H p r) ∧ RH w3 (f2 i H p f) ∧ z = w4) (fun o => ∃ xo' y1 y2 y3 z, o = some (nI (pcnt (dwn s)), xo', y1, y2, y3, z) ∧ xo' 0 = nI (d + 1) ∧ xo' 1 = xo 1 ∧ xo' 2 = nI (ic - 1) ∧ RP y1 p ∧ RP y2 (r2 M H p r) ∧ RH y3 (f3 M H K p s (f2 M H p f))) ?_ ?_ M 5000 _ _ _ _ _ _ _ (by omega) ⟨0, by omega, rfl, rfl, rfl, rfl, RP_congr hx2 r2_0, RH_congr hx3 f2_0, rfl⟩
  · rintro k m _ _ _ _ w2 w3 _ ⟨i, hi, rfl, rfl, rfl, rfl, q2, q3, rfl⟩
    have hi6 : i < 6 := by omega
    have c2 : ¬ M ≤ i := by omega
    have qi := hy1 i hi6
    have hpi := hp i hi6
    by_cases c : p i = H
    · obtain ⟨u2, u3, eu, hu2, hu3⟩ := p_loosen q2 q3 hi6
      refine Or.inl ⟨_, _, _, _, _, _, _, ⟨i + 1, by omega, rfl, rfl, rfl, rfl, RP_congr hu2 (r2_y c), RH_congr hu3 (f2_y c), rfl⟩, ?_⟩
      simp (disch := omega) only [fX1_melt_10b, fX1_melt_45, h0, h4, c2, qi, c, Nat.lt_irrefl, eu, Nat.reduceEqDiff, Nat.reduceLeDiff, Nat.reduceAdd, Nat.reduceSub, Nat.reduceMul, eq_self, Nat.le_refl, Nat.lt_irrefl, zI0, zI1, zI2, zI3, zI4, zI5, zI6, zI7, zI8, zI9, zI10, zI11, zI12, nle, nlt, neq, gdN, clN, nI_add, nsub, mul6a, mul6b, bn_s, bd1_s, bd2_s, bd3_s, bd4_s, if_true, if_false, not_true_eq_false, not_false_eq_true]
    · refine Or.inl ⟨_, _, _, _, _, _, _, ⟨i + 1, by omega, rfl, rfl, rfl, rfl, RP_congr q2 (r2_n c), RH_congr q3 (f2_n c), rfl⟩, ?_⟩
      have c3 : p i < H := by omega
      simp (disch := omega) only [fX1_melt_10b, fX1_melt_45, h0, h4, c2, qi, c3, Nat.reduceEqDiff, Nat.reduceLeDiff, Nat.reduceAdd, Nat.reduceSub, Nat.reduceMul, eq_self, Nat.le_refl, Nat.lt_irrefl, zI0, zI1, zI2, zI3, zI4, zI5, zI6, zI7, zI8, zI9, zI10, zI11, zI12, nle, nlt, neq, gdN, clN, nI_add, nsub, mul6a, mul6b, bn_s, bd1_s, bd2_s, bd3_s, bd4_s, if_true, if_false, not_true_eq_false, not_false_eq_true]
  · rintro k _ _ _ _ w2 w3 _ ⟨i, hi, rfl, rfl, rfl, rfl, q2, q3, rfl⟩
    have eb : i = M := by omega
    subst eb
    obtain ⟨y3, e3, hy3⟩ := p_stick (K := K) (s := s) hM hH h0 h1 h4 hy1 (fun h hh => by have := hp h hh; omega) hg1 hg2 (f2_9 fun a b ha hb => (hf9 a b ha hb).1) (f2_s fun a b ha hb => (hf9 a b ha hb).2) q3
    have hice : (if 0 < xo 2 - 1 then xo 2 - 1 else 0) = nI (ic - 1) := by
      rw [hic]
      revert hi9
      generalize ic = n
      revert n
      decide +kernel
    refine ⟨upd (upd xo 2 (nI (ic - 1))) 0 (upd xo 2 (nI (ic - 1)) 0 + 1), y1, w2, y3, z, ?_, ?_, ?_, ?_, hy1, q2, hy3⟩
    · unfold fX1_melt_10b
      rw [h4, if_pos (by rw [nle (by omega) (by omega)]; omega), e3, bd1_s, p_bitCount _ hg1, bd1_s, hgone, hice]
    · show xo 0 + 1 = _
      rw [hd, nI_1]
    · rfl
    · rfl
end MELT

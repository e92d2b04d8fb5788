theorem i4 : inb 4 11 = true := by decide
theorem i0 : inb 0 11 = true := by decide
theorem i2 : inb 2 11 = true := by decide
theorem i3 : inb 3 11 = true := by decide
theorem i5 : inb 5 11 = true := by decide
theorem i6 : inb 6 11 = true := by decide
theorem i7 : inb 7 11 = true := by decide
theorem i10 : inb 10 11 = true := by decide
theorem n0' : (0 : Int32).toNatClampNeg = 0 := rfl
theorem n1' : (1 : Int32).toNatClampNeg = 1 := rfl
theorem n2' : (2 : Int32).toNatClampNeg = 2 := rfl
theorem n3' : (3 : Int32).toNatClampNeg = 3 := rfl
theorem n4' : (4 : Int32).toNatClampNeg = 4 := rfl
theorem n5' : (5 : Int32).toNatClampNeg = 5 := rfl
theorem n6' : (6 : Int32).toNatClampNeg = 6 := rfl
theorem n7' : (7 : Int32).toNatClampNeg = 7 := rfl
theorem n8' : (8 : Int32).toNatClampNeg = 8 := rfl
theorem n9' : (9 : Int32).toNatClampNeg = 9 := rfl
theorem n10' : (10 : Int32).toNatClampNeg = 10 := rfl
theorem n11' : (11 : Int32).toNatClampNeg = 11 := rfl
section BR
variable {x75 x78 : Nat → Int32} {f : Nat → Nat → Nat} {M t h : Nat}
/-- what a round of widening from b0 has come to, ahead of the two a, b -/
def wI (f : Nat → Nat → Nat) (M t h b0 a b w : Nat) : Prop := w < 64 ∧ (∀ i, i < 6 → b0.testBit i = true → w.testBit i = true) ∧ (∀ c, c < 64 → c.testBit h = true → clo (fun i o => decide (t < f i o)) c → ∀ i, i < 6 → w.testBit i = true → c.testBit i = true) ∧ (∀ a' b', a' < M → b' < M → (a' < a ∨ (a' = a ∧ b' < b)) → b0.testBit a' = true → t < f a' b' → w.testBit b' = true)
theorem or1_tb {w i : Nat} (hw : w < 64) (hi : i < 6) {j : Nat} (hj : j < 6) : (w ||| 2 ^ i).testBit j = (w.testBit j || decide (j = i)) := by rw [Nat.testBit_or, two_tb i hi j hj]
theorem p_inR (h4 : x75 4 = nI M) (hM : M ≤ 6) (hf : RH x78 f) (h9 : ∀ a b, a < 6 → b < 6 → f a b ≤ 9) (ht : t < 100) {b0 a w : Nat} (ha : a < M) (hw : wI f M t h b0 a 0 w) (k7 : Int32 → Int32 → Int32 → Option Int32) (k18 : Int32 → Int32 → Int32 → Int32 → Option Int32) : ∃ w', fX12_blockOf_32 x75 x78 k7 k18 (nI t) (nI w) (nI b0) (nI a) 0 = k18 (nI t) (nI w') (nI b0) (nI (a + 1)) ∧ wI f M t h b0 (a + 1) 0 w' := by
  refine loop5 (fX12_blockOf_32b x75 x78 k7 k18) (fun m v2 v3 v5 v6 v7 => ∃ b w, b + m = M ∧ v2 = nI t ∧ v3 = nI w ∧ v5 = nI b0 ∧ v6 = nI a ∧ v7 = nI b ∧ wI f M t h b0 a b w) (fun o => ∃ w', o = k18 (nI t) (nI w') (nI b0) (nI (a + 1)) ∧ wI f M t h b0 (a + 1) 0 w') ?_ ?_ M 5000 (nI t) (nI w) (nI b0) (nI a) 0 (by omega) ⟨0, w, by omega, rfl, rfl, rfl, rfl, rfl, hw⟩
  · rintro k m _ _ _ _ _ ⟨b, w, hb, rfl, rfl, rfl, rfl, rfl, hw, w1, w2, w3⟩
    have hbM : b < M := by omega
    have h9' := h9 a b (by omega) (by omega)
    refine Or.inl ?_
    unfold fX12_blockOf_32b
    rw [gd_t i4, n4', h4, if_neg (nI_ge hbM (by omega))]
    have skip : (w.testBit a = true → t < f a b → False) → ∃ a0' a1' a2' a3' a4', (∃ b_1 w, b_1 + m = M ∧ a0' = nI t ∧ a1' = nI w ∧ a2' = nI b0 ∧ a3' = nI a ∧ a4' = nI b_1 ∧ wI f M t h b0 a b_1 w) ∧ fX12_blockOf_77 x75 x78 k7 k18 k (nI t) (nI b0) (nI a) (nI b) (nI w) = k a0' a1' a2' a3' a4' := by
      intro hno
      refine ⟨_, _, _, _, _, ⟨b + 1, w, by omega, rfl, rfl, rfl, rfl, rfl, hw, w1, w2, fun a' b' ha' hb' hc q1 q2 => ?_⟩, ?_⟩
      · by_cases e : a' = a ∧ b' = b
        · obtain ⟨rfl, rfl⟩ := e
          exact absurd q2 fun q2 => hno (w1 a' (by omega) q1) q2
        · exact w3 a' b' ha' hb' (by omega) q1 q2
      · unfold fX12_blockOf_77 fX12_blockOf_78
        rw [bn_t, bn_t, nI_1, show (0 : Int32) = nI 0 from rfl, nI_or hw (by omega), Nat.or_zero]
    cases q : w.testBit a with
    | false =>
      rw [bd1_t (has_0 hw (by omega) q), if_pos rfl]
      exact skip (fun h => by rw [q] at h; cases h)
    | true =>
      rw [bd1_t (has_1 hw (by omega) q), if_neg one_ne, ixR, gd_t (inbH (by omega) (by omega)), clH (by omega) (by omega), hf a b (by omega) (by omega)]
      by_cases c : f a b ≤ t
      · rw [if_pos (nI_le c (by omega))]
        exact skip (fun _ h => by omega)
      · rw [if_neg (nI_ge (by omega) (by omega))]
        refine ⟨_, _, _, _, _, ⟨b + 1, w ||| 2 ^ b, by omega, rfl, rfl, rfl, rfl, rfl, or_lt64 hw (two_lt64 b (by omega)), fun i hi q1 => ?_, fun c' c1 c2 c3 i hi q1 => ?_, fun a' b' ha' hb' hc q1 q2 => ?_⟩, ?_⟩
        · rw [or1_tb hw (by omega) hi, w1 i hi q1]; rfl
        · rw [or1_tb hw (by omega) hi] at q1
          simp only [Bool.or_eq_true, decide_eq_true_eq] at q1
          rcases q1 with q1 | rfl
          · exact w2 c' c1 c2 c3 i hi q1
          · exact c3 a i (by omega) hi (w2 c' c1 c2 c3 a (by omega) q) (by simp; omega)
        · rw [or1_tb hw (by omega) (by omega)]
          simp only [Bool.or_eq_true, decide_eq_true_eq]
          by_cases e : b' = b
          · exact Or.inr e
          · exact Or.inl (w3 a' b' ha' hb' (by omega) q1 q2)
        · unfold fX12_blockOf_78
          rw [bn_t, bn_t, nI_1, shl1 b (by omega), nI_or hw (two_lt64 b (by omega))]
  · rintro k _ _ _ _ _ ⟨b, w, hb, rfl, rfl, rfl, rfl, rfl, hw', w1, w2, w3⟩
    obtain rfl : b = M := by omega
    refine ⟨w, ?_, hw', w1, w2, fun a' b' ha' hb' hc q1 q2 => w3 a' b' ha' hb' (by omega) q1 q2⟩
    unfold fX12_blockOf_32b
    rw [gd_t i4, n4', h4, if_pos (nI_le (Nat.le_refl _) (by omega)), bn_t, nI_1]
theorem p_midR (h4 : x75 4 = nI M) (hM : M ≤ 6) (hf : RH x78 f) (h9 : ∀ a b, a < 6 → b < 6 → f a b ≤ 9) (ht : t < 100) {b0 : Nat} (hb : wI f M t h b0 0 0 b0) (k7 : Int32 → Int32 → Int32 → Option Int32) : ∃ w, fX12_blockOf_18 x75 x78 k7 (nI t) (nI b0) (nI b0) 0 = (if w = b0 then k7 (nI t) (nI w) 0 else k7 (nI t) (nI w) 1) ∧ wI f M t h b0 M 0 w := by
  refine loop4 (fX12_blockOf_18b x75 x78 k7) (fun m v2 v3 v5 v6 => ∃ a w, a + m = M ∧ v2 = nI t ∧ v3 = nI w ∧ v5 = nI b0 ∧ v6 = nI a ∧ wI f M t h b0 a 0 w) (fun o => ∃ w, o = (if w = b0 then k7 (nI t) (nI w) 0 else k7 (nI t) (nI w) 1) ∧ wI f M t h b0 M 0 w) ?_ ?_ M 5000 (nI t) (nI b0) (nI b0) 0 (by omega) ⟨0, b0, by omega, rfl, rfl, rfl, rfl, hb⟩
  · rintro k m _ _ _ _ ⟨a, w, ha, rfl, rfl, rfl, rfl, hw⟩
    have haM : a < M := by omega
    refine Or.inl ?_
    unfold fX12_blockOf_18b
    rw [gd_t i4, n4', h4, if_neg (nI_ge haM (by omega))]
    obtain ⟨w', e, hw'⟩ := p_inR h4 hM hf h9 ht haM hw k7 k
    exact ⟨_, _, _, _, ⟨a + 1, w', by omega, rfl, rfl, rfl, rfl, hw'⟩, e⟩
  · rintro k _ _ _ _ ⟨a, w, ha, rfl, rfl, rfl, rfl, hw⟩
    obtain rfl : a = M := by omega
    refine ⟨w, ?_, hw⟩
    unfold fX12_blockOf_18b
    rw [gd_t i4, n4', h4, if_pos (nI_le (Nat.le_refl _) (by omega))]
    have hw64 := hw.1
    have hb64 := hb.1
    unfold fX12_blockOf_103
    by_cases q : w = b0
    · rw [if_pos (by rw [q]), if_pos q]
    · rw [if_neg (fun h => q ((nI_eq (by omega) (by omega)).mp h)), if_neg q]
theorem p_blockR (h4 : x75 4 = nI M) (hM : M ≤ 6) (hf : RH x78 f) (h9 : ∀ a b, a < 6 → b < 6 → f a b ≤ 9) (h0 : ∀ a b, a < 6 → b < 6 → (M ≤ a ∨ M ≤ b) → f a b = 0) (ht : t < 100) (hh : h < 6) : ∃ b, fX12_blockOf x75 x78 (nI h) (nI t) = some (nI b) ∧ IsBlk (fun i o => decide (t < f i o)) h b := by
  have key := loop3 (fX12_blockOf_7b x75 x78) (fun m v2 v3 v4 => ∃ b, v2 = nI t ∧ v3 = nI b ∧ b < 64 ∧ b.testBit h = true ∧ (∀ c, c < 64 → c.testBit h = true → clo (fun i o => decide (t < f i o)) c → ∀ i, i < 6 → b.testBit i = true → c.testBit i = true) ∧ ((v4 = 0 ∧ clo (fun i o => decide (t < f i o)) b) ∨ (v4 = 1 ∧ 8 ≤ m + pcnt b))) (fun o => ∃ b, o = some (nI b) ∧ IsBlk (fun i o => decide (t < f i o)) h b) ?_ ?_ 7 5000 (nI t) (nI (2 ^ h)) 1 (by decide) ⟨2 ^ h, rfl, rfl, two_lt64 h hh, by rw [two_tb h hh h hh]; simp, fun c _ h1 _ i hi q => by
      rw [two_tb h hh i hi] at q
      have : i = h := by simpa using q
      rw [this]; exact h1, Or.inr ⟨rfl, by rw [pcnt_1 h hh]; exact Nat.le_refl _⟩⟩
  · unfold fX12_blockOf fX12_blockOf_0
    rw [bn_t, shl1 h hh]
    exact key
  · rintro k m _ _ v4 ⟨b, rfl, rfl, hb, b1, b2, ⟨rfl, b3⟩ | ⟨rfl, b3⟩⟩
    · refine Or.inr ⟨b, ?_, hb, b1, b3, b2⟩
      unfold fX12_blockOf_7b
      rw [if_pos rfl]
    · refine Or.inl ?_
      unfold fX12_blockOf_7b
      rw [if_neg one_ne]
      obtain ⟨w, e, hw, w1, w2, w3⟩ := p_midR (h := h) h4 hM hf h9 ht (b0 := b) ⟨hb, fun _ _ h => h, b2, fun a' b' _ _ hc => absurd hc (by omega)⟩ k
      rw [e]
      by_cases q : w = b
      · rw [if_pos q]
        subst q
        refine ⟨_, _, _, ⟨w, rfl, rfl, hb, b1, b2, Or.inl ⟨rfl, fun i o hi ho q1 q2 => ?_⟩⟩, rfl⟩
        have q3 : t < f i o := by simpa using q2
        have hiM : i < M := by
          refine Nat.not_le.mp fun hc => ?_
          rw [h0 i o hi ho (Or.inl hc)] at q3
          omega
        have hoM : o < M := by
          refine Nat.not_le.mp fun hc => ?_
          rw [h0 i o hi ho (Or.inr hc)] at q3
          omega
        exact w3 i o hiM hoM (Or.inl hiM) q1 q3
      · rw [if_neg q]
        refine ⟨_, _, _, ⟨w, rfl, rfl, hw, w1 h hh b1, w2, Or.inr ⟨rfl, ?_⟩⟩, rfl⟩
        have := pcnt_mono b hb w hw (or_self_sub hb hw w1) (fun q' => q q'.symm)
        omega
  · rintro k _ _ v4 ⟨b, rfl, rfl, hb, b1, b2, ⟨rfl, b3⟩ | ⟨rfl, b3⟩⟩
    · refine ⟨b, ?_, hb, b1, b3, b2⟩
      unfold fX12_blockOf_7b
      rw [if_pos rfl]
    · have := pcnt_le b hb
      omega
theorem p_isFastR {x77 : Nat → Int32} {g : Nat → Nat} (h4 : x75 4 = nI M) (hM : M ≤ 6) (hx : RP x77 g) (h9 : ∀ h, h < 6 → g h ≤ 9) (hg0 : ∀ h, h < 6 → M ≤ h → g h = 0) {b : Nat} (hb : b < 64) (ht : t < 100) : fX12_isFast x75 x77 (nI b) (nI t) = some (if fast g t b = true then 1 else 0) := by
  refine loop3 (fX12_isFast_2b x75 x77) (fun m v2 v3 v4 => ∃ i, i + m = M ∧ v2 = nI b ∧ v3 = nI t ∧ v4 = nI i ∧ fastTo g t b i = false) (fun o => o = some (if fast g t b = true then 1 else 0)) ?_ ?_ M 5000 (nI b) (nI t) 0 (by omega) ⟨0, by omega, rfl, rfl, rfl, rfl⟩
  · rintro k m _ _ _ ⟨i, hi, rfl, rfl, rfl, h0⟩
    have hi6 : i < 6 := by omega
    have g9 := h9 i hi6
    unfold fX12_isFast_2b
    rw [gd_t i4, n4', h4, if_neg (nI_ge (show i < M by omega) (by omega))]
    cases q : b.testBit i with
    | false =>
      rw [bd1_t (has_0 hb hi6 q), if_pos rfl]
      refine Or.inl ⟨_, _, _, ⟨i + 1, by omega, rfl, rfl, rfl, ?_⟩, ?_⟩
      · rw [fastTo_s, h0, q]; rfl
      · unfold fX12_isFast_32
        rw [bn_t, nI_1]
    | true =>
      rw [bd1_t (has_1 hb hi6 q), if_neg one_ne, gd_t (in6 hi6), cl6 hi6, hx i hi6]
      by_cases c : g i ≤ t
      · rw [if_pos (nI_le c (by omega))]
        refine Or.inl ⟨_, _, _, ⟨i + 1, by omega, rfl, rfl, rfl, ?_⟩, ?_⟩
        · rw [fastTo_s, h0, q]; simpa using c
        · unfold fX12_isFast_32
          rw [bn_t, nI_1]
      · rw [if_neg (nI_ge (by omega) (by omega))]
        exact Or.inr (by rw [if_pos (show fast g t b = true from fastTo_t hi6 q (by omega))])
  · rintro k _ _ _ ⟨i, hi, rfl, rfl, rfl, h0⟩
    obtain rfl : i = M := by omega
    unfold fX12_isFast_2b
    rw [gd_t i4, n4', h4, if_pos (nI_le (Nat.le_refl _) (by omega)), if_neg]
    intro hc
    unfold fast at hc
    rw [List.any_eq_true] at hc
    obtain ⟨j, hj, q⟩ := hc
    rw [List.mem_range] at hj
    simp only [Bool.and_eq_true, decide_eq_true_eq] at q
    by_cases hji : j < i
    · rw [fastTo_t hji q.1 q.2] at h0; cases h0
    · have := hg0 j hj (by omega)
      omega
end BR

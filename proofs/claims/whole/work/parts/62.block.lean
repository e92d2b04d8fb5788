def clo (e : Nat → Nat → Bool) (c : Nat) : Prop := ∀ i o, i < 6 → o < 6 → c.testBit i = true → e i o = true → c.testBit o = true
/-- the least closed set about h -/
def IsBlk (e : Nat → Nat → Bool) (h b : Nat) : Prop := b < 64 ∧ b.testBit h = true ∧ clo e b ∧ ∀ c, c < 64 → c.testBit h = true → clo e c → ∀ i, i < 6 → b.testBit i = true → c.testBit i = true
theorem IsBlk.uniq {e : Nat → Nat → Bool} {h b c : Nat} (hb : IsBlk e h b) (hc : IsBlk e h c) : b = c := by
  refine ext64 hb.1 hc.1 fun i hi => ?_
  cases h1 : b.testBit i with
  | true => exact (hb.2.2.2 c hc.1 hc.2.1 hc.2.2.1 i hi h1).symm
  | false =>
    cases h2 : c.testBit i with
    | false => rfl
    | true => rw [hc.2.2.2 b hb.1 hb.2.1 hb.2.2.1 i hi h2] at h1; cases h1
theorem IsBlk.congr {e e' : Nat → Nat → Bool} {h b : Nat} (hb : IsBlk e h b) (he : ∀ i o, i < 6 → o < 6 → e i o = e' i o) : IsBlk e' h b :=
  ⟨hb.1, hb.2.1, fun i o hi ho h1 h2 => hb.2.2.1 i o hi ho h1 (by rw [he i o hi ho]; exact h2), fun c h1 h2 h3 => hb.2.2.2 c h1 h2 fun i o hi ho q1 q2 => h3 i o hi ho q1 (by rw [← he i o hi ho]; exact q2)⟩
/-- a symmetric graph's blocks part the houses -/
theorem IsBlk.sub {e : Nat → Nat → Bool} {h j b c : Nat} (hj : j < 6) (hb : IsBlk e h b) (hc : IsBlk e j c) (hjb : b.testBit j = true) : ∀ i, i < 6 → c.testBit i = true → b.testBit i = true := hc.2.2.2 b hb.1 hjb hb.2.2.1
theorem IsBlk.symm {e : Nat → Nat → Bool} (hs : ∀ i o, i < 6 → o < 6 → e i o = e o i) {h j b c : Nat} (hh : h < 6) (hj : j < 6) (hb : IsBlk e h b) (hc : IsBlk e j c) (hjb : b.testBit j = true) : c.testBit h = true := by
  cases q : c.testBit h with
  | true => rfl
  | false =>
    have hd : clo e (bset fun i => b.testBit i && !c.testBit i) := by
      intro i o hi ho h1 h2
      rw [bset_tb _ hi] at h1
      rw [bset_tb _ ho]
      simp only [Bool.and_eq_true, Bool.not_eq_true'] at h1 ⊢
      refine ⟨hb.2.2.1 i o hi ho h1.1 h2, ?_⟩
      cases q2 : c.testBit o with
      | false => rfl
      | true =>
        have := hc.2.2.1 o i ho hi q2 (by rw [hs o i ho hi]; exact h2)
        rw [h1.2] at this
        cases this
    have := hb.2.2.2 _ (bset_lt _) (by rw [bset_tb _ hh]; simp [hb.2.1, q]) hd j hj hjb
    rw [bset_tb _ hj] at this
    simp [hc.2.1] at this
theorem IsBlk.same {e : Nat → Nat → Bool} (hs : ∀ i o, i < 6 → o < 6 → e i o = e o i) {h j b c : Nat} (hh : h < 6) (hj : j < 6) (hb : IsBlk e h b) (hc : IsBlk e j c) (hjb : b.testBit j = true) : b = c := by
  have h2 := IsBlk.symm hs hh hj hb hc hjb
  refine ext64 hb.1 hc.1 fun i hi => ?_
  have s1 := IsBlk.sub hj hb hc hjb i hi
  have s2 := IsBlk.sub hh hc hb h2 i hi
  cases q1 : b.testBit i with
  | true => exact (s2 q1).symm
  | false =>
    cases q2 : c.testBit i with
    | false => rfl
    | true => rw [s1 q2] at q1; cases q1
theorem IsBlk.alone {e : Nat → Nat → Bool} {h : Nat} (hh : h < 6) (h0 : ∀ o, o < 6 → e h o = false) : IsBlk e h (2 ^ h) := by
  refine ⟨two_lt64 h hh, by rw [two_tb h hh h hh]; simp, fun i o hi ho q1 q2 => ?_, fun c hc q1 q2 i hi q3 => ?_⟩
  · rw [two_tb h hh i hi] at q1
    have : i = h := by simpa using q1
    rw [this, h0 o ho] at q2; cases q2
  · rw [two_tb h hh i hi] at q3
    have : i = h := by simpa using q3
    rw [this]; exact q1
def wto (e : Nat → Nat → Bool) (b i : Nat) : Nat := bset fun o => b.testBit o || (List.range i).any fun j => b.testBit j && e j o
theorem wto_lt (e : Nat → Nat → Bool) (b i : Nat) : wto e b i < 64 := bset_lt _
theorem wto_0 {e : Nat → Nat → Bool} {b : Nat} (h : b < 64) : wto e b 0 = b := by
  refine ext64 (wto_lt _ _ _) h fun i hi => ?_
  unfold wto
  rw [bset_tb _ hi]
  simp
theorem wto_s {e : Nat → Nat → Bool} {b i : Nat} : wto e b (i + 1) = if b.testBit i then wto e b i ||| bset (e i) else wto e b i := by
  cases q : b.testBit i with
  | false =>
    rw [if_neg (by simp)]
    refine bset_ext fun o ho => ?_
    rw [List.range_succ, List.any_append]
    simp [q]
  | true =>
    rw [if_pos rfl]
    unfold wto
    rw [bset_or]
    refine bset_ext fun o ho => ?_
    rw [List.range_succ, List.any_append]
    simp [q, Bool.or_assoc]
theorem wto_sub {e : Nat → Nat → Bool} {b i : Nat} {o : Nat} (ho : o < 6) (h : b.testBit o = true) : (wto e b i).testBit o = true := by
  unfold wto
  rw [bset_tb _ ho, h]; rfl
theorem wto_clo {e : Nat → Nat → Bool} {b : Nat} (h : wto e b 6 = b) : clo e b := by
  intro i o hi ho h1 h2
  rw [← h]
  unfold wto
  rw [bset_tb _ ho]
  simp only [Bool.or_eq_true, List.any_eq_true, List.mem_range, Bool.and_eq_true]
  exact Or.inr ⟨i, hi, h1, h2⟩
theorem wto_min {e : Nat → Nat → Bool} {b c : Nat} (hc : clo e c) (hb : ∀ i, i < 6 → b.testBit i = true → c.testBit i = true) : ∀ i, i < 6 → (wto e b 6).testBit i = true → c.testBit i = true := by
  intro o ho h
  unfold wto at h
  rw [bset_tb _ ho] at h
  simp only [Bool.or_eq_true, List.any_eq_true, List.mem_range, Bool.and_eq_true] at h
  rcases h with h | ⟨j, hj, h1, h2⟩
  · exact hb o ho h
  · exact hc j o hj ho (hb j hj h1) h2
theorem or_self_sub {b w : Nat} (hb : b < 64) (hw : w < 64) (h : ∀ o, o < 6 → b.testBit o = true → w.testBit o = true) : b ||| w = w := by
  refine ext64 (or_lt64 hb hw) hw fun i hi => ?_
  rw [Nat.testBit_or]
  cases q : b.testBit i with
  | false => rfl
  | true => rw [h i hi q]; rfl
theorem one_ne : ¬ (1 : Int32) = 0 := by decide
theorem hasBit_1 {b i : Nat} (hb : b < 64) (hi : i < 6) (h : b.testBit i = true) : fX11_hasBit (nI b) (nI i) = some 1 := by rw [p_hasBit b hb i hi, h]; rfl
theorem hasBit_0 {b i : Nat} (hb : b < 64) (hi : i < 6) (h : b.testBit i = false) : fX11_hasBit (nI b) (nI i) = some 0 := by rw [p_hasBit b hb i hi, h]; rfl
theorem has_1 {b i : Nat} (hb : b < 64) (hi : i < 6) (h : b.testBit i = true) : fX12_has (nI b) (nI i) = some 1 := by rw [p_has b hb i hi, h]; rfl
theorem has_0 {b i : Nat} (hb : b < 64) (hi : i < 6) (h : b.testBit i = false) : fX12_has (nI b) (nI i) = some 0 := by rw [p_has b hb i hi, h]; rfl
theorem hasBit_t {b i : Nat} (hb : b < 64) (hi : i < 6) : fX11_hasBit (nI b) (nI i) = some (if b.testBit i = true then 1 else 0) := p_hasBit b hb i hi
theorem has_t {b i : Nat} (hb : b < 64) (hi : i < 6) : fX12_has (nI b) (nI i) = some (if b.testBit i = true then 1 else 0) := p_has b hb i hi
theorem p_wide {x33 : Nat → Int32} {e : Nat → Nat → Bool} (hx : RP x33 fun i => bset (e i)) {b r : Nat} (hb : b < 64) (k6 : Int32 → Int32 → Option Int32) : fX1_blockOf_18 x33 k6 (nI b) (nI r) (nI b) 0 = if wto e b 6 = b then some (nI b) else k6 (nI (wto e b 6)) (nI (r + 1)) := by
  refine loop4 (fX1_blockOf_18b x33 k6) (fun m v2 v3 v4 v5 => ∃ i, i + m = 6 ∧ v2 = nI b ∧ v3 = nI r ∧ v4 = nI (wto e b i) ∧ v5 = nI i) (fun o => o = if wto e b 6 = b then some (nI b) else k6 (nI (wto e b 6)) (nI (r + 1))) ?_ ?_ 6 5000 (nI b) (nI r) (nI b) 0 (by decide) ⟨0, rfl, rfl, rfl, by rw [wto_0 hb], rfl⟩
  · rintro k m _ _ _ _ ⟨i, hi, rfl, rfl, rfl, rfl⟩
    have hi6 : i < 6 := by omega
    refine Or.inl ⟨_, _, _, _, ⟨i + 1, by omega, rfl, rfl, rfl, rfl⟩, ?_⟩
    unfold fX1_blockOf_18b
    rw [if_neg (le6 hi6), wto_s]
    cases q : b.testBit i with
    | false =>
      rw [bd1_t (hasBit_0 hb hi6 q), if_pos rfl, if_neg Bool.false_ne_true]
      unfold fX1_blockOf_46
      rw [bn_t, nI_1]
    | true =>
      rw [bd1_t (hasBit_1 hb hi6 q), if_neg one_ne, if_pos rfl, gd_t (in6 hi6), cl6 hi6, hx i hi6, bn_t, nI_or (wto_lt _ _ _) (bset_lt _)]
      unfold fX1_blockOf_46
      rw [bn_t, nI_1]
  · rintro k _ _ _ _ ⟨i, hi, rfl, rfl, rfl, rfl⟩
    obtain rfl : i = 6 := by omega
    unfold fX1_blockOf_18b
    rw [if_pos ge6]
    have hw := wto_lt e b 6
    by_cases q : wto e b 6 = b
    · rw [if_pos (by rw [q]), if_pos q]
    · rw [if_neg (fun h => q ((nI_eq (by omega) (by omega)).mp h)), if_neg q, bn_t, nI_1]
theorem p_blockOf {x33 : Nat → Int32} {e : Nat → Nat → Bool} (hx : RP x33 fun i => bset (e i)) {h : Nat} (hh : h < 6) : ∃ b, fX1_blockOf x33 (nI h) = some (nI b) ∧ IsBlk e h b := by
  have key := loop2 (fX1_blockOf_6b x33) (fun m v2 v3 => ∃ r b, r + m = 6 ∧ v2 = nI b ∧ v3 = nI r ∧ b < 64 ∧ b.testBit h = true ∧ (∀ c, c < 64 → c.testBit h = true → clo e c → ∀ i, i < 6 → b.testBit i = true → c.testBit i = true) ∧ r + 1 ≤ pcnt b) (fun o => ∃ b, o = some (nI b) ∧ IsBlk e h b) ?_ ?_ 6 5000 (nI (2 ^ h)) 0 (by decide) ⟨0, 2 ^ h, rfl, rfl, rfl, two_lt64 h hh, by rw [two_tb h hh h hh]; simp, fun c _ h1 _ i hi q => by
      rw [two_tb h hh i hi] at q
      have : i = h := by simpa using q
      rw [this]; exact h1, by rw [pcnt_1 h hh]; exact Nat.le_refl _⟩
  · unfold fX1_blockOf fX1_blockOf_0
    rw [bn_t, shl1 h hh]
    exact key
  · rintro k m _ _ ⟨r, b, hr, rfl, rfl, hb, h1, h2, h3⟩
    have hr6 : r < 6 := by omega
    unfold fX1_blockOf_6b
    rw [if_neg (le6 hr6), p_wide hx hb]
    by_cases q : wto e b 6 = b
    · rw [if_pos q]
      exact Or.inr ⟨b, rfl, hb, h1, wto_clo q, h2⟩
    · rw [if_neg q]
      refine Or.inl ⟨_, _, ⟨r + 1, wto e b 6, by omega, rfl, rfl, wto_lt _ _ _, wto_sub hh h1, fun c c1 c2 c3 => wto_min c3 (h2 c c1 c2 c3), ?_⟩, rfl⟩
      have := pcnt_mono b hb _ (wto_lt e b 6) (or_self_sub hb (wto_lt _ _ _) fun o ho => wto_sub ho) (fun q' => q q'.symm)
      omega
  · rintro k _ _ ⟨r, b, hr, rfl, rfl, hb, h1, h2, h3⟩
    have := pcnt_le b hb
    omega
theorem p_findHolds {x3 x33 : Nat → Int32} {f : Nat → Nat → Nat} (hf : RH x3 f) (h9 : ∀ a b, a < 6 → b < 6 → f a b ≤ 9) {t : Nat} (ht : t < 100) : ∃ y, fX1_findHolds x3 (nI t) x33 = some y ∧ RP y fun i => bset fun o => decide (t < f i o) := by
  refine loop3 (fX1_findHolds_2b x3) (fun m v2 v3 y => ∃ i, i + m = 6 ∧ v2 = nI t ∧ v3 = nI i ∧ ∀ j, j < i → y j = nI (bset fun o => decide (t < f j o))) (fun o => ∃ y, o = some y ∧ RP y fun i => bset fun o => decide (t < f i o)) ?_ ?_ 6 5000 (nI t) 0 x33 (by decide) ⟨0, rfl, rfl, rfl, fun j hj => absurd hj (by omega)⟩
  · rintro k m _ _ y ⟨i, hi, rfl, rfl, hy⟩
    have hi6 : i < 6 := by omega
    refine Or.inl ⟨nI t, nI (i + 1), upd y i (nI (bset fun o => decide (t < f i o))), ⟨i + 1, by omega, rfl, rfl, ?_⟩, ?_⟩
    rotate_left
    · unfold fX1_findHolds_2b
      rw [if_neg (le6 hi6), bd1_t (p_harderTo hf h9 hi6 ht), gd_t (in6 hi6), bn_t, nI_1, cl6 hi6]
    · intro j hj
      show (if j = i then _ else _) = _
      by_cases q : j = i
      · subst q; rw [if_pos rfl]
      · rw [if_neg q]; exact hy j (by omega)
  · rintro k _ _ y ⟨i, hi, rfl, rfl, hy⟩
    obtain rfl : i = 6 := by omega
    unfold fX1_findHolds_2b
    rw [if_pos ge6]
    exact ⟨y, rfl, fun j hj => hy j hj⟩
/-- some of the set is harder to the rock than the heat -/
def fast (g : Nat → Nat) (t b : Nat) : Bool := (List.range 6).any fun h => b.testBit h && decide (t < g h)
def fastTo (g : Nat → Nat) (t b i : Nat) : Bool := (List.range i).any fun h => b.testBit h && decide (t < g h)
theorem fastTo_s (g : Nat → Nat) (t b i : Nat) : fastTo g t b (i + 1) = (fastTo g t b i || (b.testBit i && decide (t < g i))) := by
  unfold fastTo
  rw [List.range_succ, List.any_append]
  simp
theorem fastTo_t {g : Nat → Nat} {t b i j : Nat} (h1 : i < j) (h2 : b.testBit i = true) (h3 : t < g i) : fastTo g t b j = true := by
  unfold fastTo
  rw [List.any_eq_true]
  exact ⟨i, List.mem_range.mpr h1, by simp [h2, h3]⟩
theorem p_isFast {x2 : Nat → Int32} {g : Nat → Nat} (hx : RP x2 g) (h9 : ∀ h, h < 6 → g h ≤ 9) {b t : Nat} (hb : b < 64) (ht : t < 100) : fX1_isFast x2 (nI b) (nI t) = some (if fast g t b = true then 1 else 0) := by
  refine loop3 (fX1_isFast_3b x2) (fun m v2 v3 v4 => ∃ i, i + m = 6 ∧ v2 = nI b ∧ v3 = nI t ∧ v4 = nI i ∧ fastTo g t b i = false) (fun o => o = some (if fast g t b = true then 1 else 0)) ?_ ?_ 6 5000 (nI b) (nI t) 0 (by decide) ⟨0, rfl, rfl, rfl, rfl, rfl⟩
  · rintro k m _ _ _ ⟨i, hi, rfl, rfl, rfl, h0⟩
    have hi6 : i < 6 := by omega
    have g9 := h9 i hi6
    unfold fX1_isFast_3b
    rw [if_neg (le6 hi6)]
    cases q : b.testBit i with
    | false =>
      rw [bd1_t (hasBit_0 hb hi6 q), if_pos rfl]
      refine Or.inl ⟨_, _, _, ⟨i + 1, by omega, rfl, rfl, rfl, ?_⟩, ?_⟩
      · rw [fastTo_s, h0, q]; rfl
      · unfold fX1_isFast_32
        rw [bn_t, nI_1]
    | true =>
      rw [bd1_t (hasBit_1 hb hi6 q), if_neg one_ne, gd_t (in6 hi6), cl6 hi6, hx i hi6]
      by_cases c : g i ≤ t
      · rw [if_pos (nI_le c (by omega))]
        refine Or.inl ⟨_, _, _, ⟨i + 1, by omega, rfl, rfl, rfl, ?_⟩, ?_⟩
        · rw [fastTo_s, h0, q]; simpa using c
        · unfold fX1_isFast_32
          rw [bn_t, nI_1]
      · rw [if_neg (nI_ge (by omega) (by omega))]
        exact Or.inr (by rw [if_pos (show fast g t b = true from fastTo_t hi6 q (by omega))])
  · rintro k _ _ _ ⟨i, hi, rfl, rfl, rfl, h0⟩
    obtain rfl : i = 6 := by omega
    unfold fX1_isFast_3b
    rw [if_pos ge6, if_neg (by rw [show fast g t b = fastTo g t b 6 from rfl, h0]; decide)]

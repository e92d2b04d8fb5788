/-- the block of a house, by what holds -/
def Bof (e : Nat → Nat → Bool) (h : Nat) : Nat := ((fX1_blockOf (fun i => nI (bset (e i))) (nI h)).getD 0).toNatClampNeg
theorem Bof_is (e : Nat → Nat → Bool) {h : Nat} (hh : h < 6) : IsBlk e h (Bof e h) := by
  obtain ⟨b, q, hb⟩ := p_blockOf (x33 := fun i => nI (bset (e i))) (e := e) (fun i hi => rfl) hh
  have : Bof e h = b := by
    unfold Bof
    rw [q]
    exact nI_clamp (by have := hb.1; omega)
  rw [this]; exact hb
theorem p_blockB {x33 : Nat → Int32} {e : Nat → Nat → Bool} (hx : RP x33 fun i => bset (e i)) {h : Nat} (hh : h < 6) : fX1_blockOf x33 (nI h) = some (nI (Bof e h)) := by
  obtain ⟨b, q, hb⟩ := p_blockOf hx hh
  rw [q, hb.uniq (Bof_is e hh)]
/-- the standing's parts, as a day's melting needs them -/
def VG (H M : Nat) (g r : Nat → Nat) (f : Nat → Nat → Nat) : Prop := M ≤ 6 ∧ 5 ≤ H ∧ H ≤ 60 ∧ (∀ h, h < 6 → g h ≤ H ∧ r h ≤ 9) ∧ (∀ h, h < 6 → M ≤ h → r h = 0) ∧ (∀ a b, a < 6 → b < 6 → f a b ≤ 9 ∧ f a b = f b a) ∧ (∀ a b, a < 6 → b < 6 → (M ≤ a ∨ M ≤ b) → f a b = 0) ∧ (∀ a b, a < M → b < 6 → g a = H → f a b = 0)
def eg (f : Nat → Nat → Nat) (t : Nat) : Nat → Nat → Bool := fun i o => decide (t < f i o)
def Bk (f : Nat → Nat → Nat) (t h : Nat) : Nat := Bof (eg f t) h
def sk (H M t : Nat) (g r : Nat → Nat) (f : Nat → Nat → Nat) (h : Nat) : Nat := if h < M then (if fast r t (Bk f t h) = true then 0 else min (t + 1 - pcnt (Bk f t h)) (H - g h)) else 0
def g2 (H M t : Nat) (g r : Nat → Nat) (f : Nat → Nat → Nat) (h : Nat) : Nat := g h + sk H M t g r f h
section DN
variable {H M t : Nat} {g r : Nat → Nat} {f : Nat → Nat → Nat}
theorem eg_symm (hV : VG H M g r f) : ∀ i o, i < 6 → o < 6 → eg f t i o = eg f t o i := fun i o hi ho => by unfold eg; rw [(hV.2.2.2.2.2.1 i o hi ho).2]
theorem Bk_is {h : Nat} (hh : h < 6) : IsBlk (eg f t) h (Bk f t h) := Bof_is _ hh
theorem Bk_lt {h : Nat} (hh : h < 6) : Bk f t h < 64 := (Bk_is hh).1
theorem Bk_self {h : Nat} (hh : h < 6) : (Bk f t h).testBit h = true := (Bk_is hh).2.1
theorem Bk_symm (hV : VG H M g r f) {h j : Nat} (hh : h < 6) (hj : j < 6) (q : (Bk f t h).testBit j = true) : (Bk f t j).testBit h = true := (Bk_is hh).symm (eg_symm hV) hh hj (Bk_is hj) q
theorem Bk_same (hV : VG H M g r f) {h j : Nat} (hh : h < 6) (hj : j < 6) (q : (Bk f t h).testBit j = true) : Bk f t h = Bk f t j := (Bk_is hh).same (eg_symm hV) hh hj (Bk_is hj) q
theorem Bk_M (hV : VG H M g r f) {h j : Nat} (hh : h < M) (hj : j < 6) (q : (Bk f t h).testBit j = true) : j < M := by
  have hM := hV.1
  have := (Bk_is (f := f) (t := t) (show h < 6 by omega)).2.2.2 (bset fun j => decide (j < M)) (bset_lt _) (by rw [bset_tb _ (by omega)]; simpa using hh) (fun i o hi ho q1 q2 => by
    rw [bset_tb _ ho]
    have q3 : t < f i o := by simpa [eg] using q2
    have : o < M := Nat.not_le.mp fun hc => by
      rw [hV.2.2.2.2.2.2.1 i o hi ho (Or.inr hc)] at q3
      omega
    simpa using this) j hj q
  rw [bset_tb _ hj] at this
  simpa using this
theorem Bk_river (hV : VG H M g r f) {h : Nat} (hh : h < M) (hr : g h = H) : Bk f t h = 2 ^ h := by
  have hM := hV.1
  exact (Bk_is (show h < 6 by omega)).uniq (IsBlk.alone (by omega) fun o ho => by
    unfold eg
    rw [hV.2.2.2.2.2.2.2 h o hh ho hr]
    simp)
theorem Bk_river' (hV : VG H M g r f) {h j : Nat} (hh : h < M) (hj : j < M) (hr : g h = H ∨ g j = H) (q : (Bk f t h).testBit j = true) : h = j := by
  have hM := hV.1
  rcases hr with hr | hr
  · rw [Bk_river hV hh hr, two_tb h (by omega) j (by omega)] at q
    have : j = h := by simpa using q
    exact this.symm
  · have q2 := Bk_symm hV (show h < 6 by omega) (show j < 6 by omega) q
    rw [Bk_river hV hj hr, two_tb j (by omega) h (by omega)] at q2
    simpa using q2
theorem p_riverBits {x1 x17 : Nat → Int32} (hM : M ≤ 6) (hH : H ≤ 60) (h0 : x17 0 = nI H) (h4 : x17 4 = nI M) (hx : RP x1 g) (hg : ∀ h, h < 6 → g h ≤ 60) : fX9_riverBits x1 x17 = some (nI (bset fun h => decide (h < M) && decide (H ≤ g h))) := by
  refine loop2 (fX9_riverBits_4b x1 x17) (fun m v2 v3 => ∃ i, i + m = M ∧ v2 = nI (bto (fun h => decide (h < M) && decide (H ≤ g h)) i) ∧ v3 = nI i) (fun o => o = some (nI (bset fun h => decide (h < M) && decide (H ≤ g h)))) ?_ ?_ M 5000 0 0 (by omega) ⟨0, by omega, by rw [bto_0]; rfl, rfl⟩
  · rintro k m _ _ ⟨i, hi, rfl, rfl⟩
    have hi6 : i < 6 := by omega
    have hg' := hg i hi6
    refine Or.inl ?_
    unfold fX9_riverBits_4b
    rw [h4, if_neg (nI_ge (show i < M by omega) (by omega)), gd_t (in6 hi6), cl6 hi6, hx i hi6, h0]
    by_cases c : g i < H
    · rw [if_pos (nI_lt c (by omega))]
      refine ⟨_, _, ⟨i + 1, by omega, rfl, rfl⟩, ?_⟩
      unfold fX9_riverBits_31
      rw [bn_t, nI_1, bto_f (P := fun h => decide (h < M) && decide (H ≤ g h)) (by simp; omega)]
    · rw [if_neg (nI_nlt (by omega) (by omega))]
      refine ⟨_, _, ⟨i + 1, by omega, rfl, rfl⟩, ?_⟩
      unfold fX9_riverBits_31
      rw [bn_t, bn_t, nI_1, shl1 i hi6, nI_or (bto_lt _ _) (two_lt64 i hi6), bto_t (P := fun h => decide (h < M) && decide (H ≤ g h)) hi6 (by simp; omega)]
  · rintro k _ _ ⟨i, hi, rfl, rfl⟩
    obtain rfl : i = M := by omega
    unfold fX9_riverBits_4b
    rw [h4, if_pos (nI_le (Nat.le_refl _) (by omega))]
    have : bto (fun h => decide (h < i) && decide (H ≤ g h)) i = bset fun h => decide (h < i) && decide (H ≤ g h) := bset_ext fun j hj => by
      by_cases q : j < i <;> simp [q]
    rw [this]
theorem p_lower {x1 x17 : Nat → Int32} (hM : M ≤ 6) (hH : H ≤ 60) (h0 : x17 0 = nI H) (h4 : x17 4 = nI M) {p : Nat → Nat} (hx : RP x1 p) (hp : ∀ h, h < 6 → p h ≤ 60) {b s : Nat} (hb : b < 64) (hs : s ≤ 100) : ∃ y, fX1_lower x17 (nI b) (nI s) x1 = some y ∧ RP y fun h => if h < M ∧ b.testBit h = true then min H (p h + s) else p h := by
  refine loop4 (fX1_lower_3b x17) (fun m v2 v3 v4 y => ∃ i, i + m = M ∧ v2 = nI b ∧ v3 = nI s ∧ v4 = nI i ∧ RP y fun h => if h < i ∧ b.testBit h = true then min H (p h + s) else p h) (fun o => ∃ y, o = some y ∧ RP y fun h => if h < M ∧ b.testBit h = true then min H (p h + s) else p h) ?_ ?_ M 5000 (nI b) (nI s) 0 x1 (by omega) ⟨0, by omega, rfl, rfl, rfl, RP_congr hx fun h _ => by rw [if_neg (by omega)]⟩
  · rintro k m _ _ _ y ⟨i, hi, rfl, rfl, rfl, hy⟩
    have hi6 : i < 6 := by omega
    have hp' := hp i hi6
    refine Or.inl ?_
    unfold fX1_lower_3b
    rw [h4, if_neg (nI_ge (show i < M by omega) (by omega))]
    cases q : b.testBit i with
    | false =>
      rw [bd1_t (hasBit_0 hb hi6 q), if_pos rfl]
      refine ⟨_, _, _, _, ⟨i + 1, by omega, rfl, rfl, rfl, RP_congr hy fun h _ => ?_⟩, ?_⟩
      · by_cases e : h = i
        · subst e; rw [if_neg (by omega), if_neg (by rw [q]; simp)]
        · by_cases c : h < i
          · by_cases c2 : b.testBit h = true
            · rw [if_pos ⟨c, c2⟩, if_pos ⟨by omega, c2⟩]
            · rw [if_neg (fun z => c2 z.2), if_neg (fun z => c2 z.2)]
          · rw [if_neg (by omega), if_neg (by omega)]
      · unfold fX1_lower_50
        rw [bn_t, nI_1]
    | true =>
      rw [bd1_t (hasBit_1 hb hi6 q), if_neg one_ne, gd_t (in6 hi6), gd_t (in6 hi6), cl6 hi6, hy i hi6]
      simp only [show ¬ (i < i ∧ b.testBit i = true) from by omega, if_false]
      rw [nI_add, h0]
      have hval : (if nI (p i + s) < nI H then nI (p i + s) else nI H) = nI (min H (p i + s)) := by
        by_cases c : p i + s < H
        · rw [if_pos (nI_lt c (by omega)), Nat.min_eq_right (by omega)]
        · rw [if_neg (nI_nlt (by omega) (by omega)), Nat.min_eq_left (by omega)]
      rw [hval]
      refine ⟨_, _, _, _, ⟨i + 1, by omega, rfl, rfl, rfl, RP_congr (RP_set hy (a := i) (min H (p i + s))) fun h _ => ?_⟩, ?_⟩
      · by_cases e : h = i
        · subst e; simp [q]
        · simp only [e, if_false]
          by_cases c : h < i
          · by_cases c2 : b.testBit h = true
            · rw [if_pos ⟨c, c2⟩, if_pos ⟨by omega, c2⟩]
            · rw [if_neg (fun z => c2 z.2), if_neg (fun z => c2 z.2)]
          · rw [if_neg (by omega), if_neg (by omega)]
      · unfold fX1_lower_50
        rw [bn_t, nI_1]
  · rintro k _ _ _ y ⟨i, hi, rfl, rfl, rfl, hy⟩
    obtain rfl : i = M := by omega
    unfold fX1_lower_3b
    rw [h4, if_pos (nI_le (Nat.le_refl _) (by omega))]
    exact ⟨y, rfl, hy⟩
theorem st_le : ∀ t, t < 10 → ∀ p, p < 7 → (nI t - nI p + 1 ≤ 0 ↔ t + 1 ≤ p) := by decide +kernel
theorem st_eq : ∀ t, t < 10 → ∀ p, p < 7 → p < t + 1 → nI t - nI p + 1 = nI (t + 1 - p) := by decide +kernel
/-- a house of a block of which one before i was looked at -/
def dn (H M t : Nat) (g : Nat → Nat) (f : Nat → Nat → Nat) (i h : Nat) : Bool := decide (h < M) && (!decide (g h = H) && (List.range i).any fun j => (Bk f t h).testBit j)
theorem any_s (b i : Nat) : ((List.range (i + 1)).any fun j => b.testBit j) = (((List.range i).any fun j => b.testBit j) || b.testBit i) := by
  rw [List.range_succ, List.any_append]; simp
theorem p_runDown {x1 x2 x3 x17 x33 : Nat → Int32} (hV : VG H M g r f) (ht : t < 10) (h0 : x17 0 = nI H) (h4 : x17 4 = nI M) (hx1 : RP x1 g) (hx2 : RP x2 r) (hx3 : RH x3 f) : ∃ gone y z, fX1_runDown x2 x3 x17 (nI t) x1 x33 = some (nI gone, y, z) ∧ gone < 64 ∧ (∀ h, h < 6 → gone.testBit h = decide (0 < sk H M t g r f h)) ∧ RP y (g2 H M t g r f) := by
  obtain ⟨hM, hH5, hH, hg, hr0, hf9, hf0, hfr⟩ := id hV
  have hg60 : ∀ h, h < 6 → g h ≤ 60 := fun h hh => by have := (hg h hh).1; omega
  obtain ⟨z, ez, hz⟩ := p_findHolds (x33 := x33) hx3 (fun a b ha hb => (hf9 a b ha hb).1) (show t < 100 by omega)
  unfold fX1_runDown fX1_runDown_0
  rw [bd1_t ez, bd1_t (p_riverBits hM hH h0 h4 hx1 hg60)]
  have hskM : ∀ h, M ≤ h → sk H M t g r f h = 0 := fun h hh => by unfold sk; rw [if_neg (by omega)]
  refine loop6 (fX1_runDown_21b x2 x3 x17) (fun m v2 v3 v4 v5 y z => ∃ i seen gone, i + m = M ∧ v2 = nI t ∧ v3 = nI seen ∧ v4 = nI gone ∧ v5 = nI i ∧ (RP z fun i => bset (eg f t i)) ∧ seen < 64 ∧ gone < 64 ∧ (∀ h, h < 6 → seen.testBit h = (decide (h < M) && (decide (g h = H) || (List.range i).any fun j => (Bk f t h).testBit j))) ∧ (∀ h, h < 6 → gone.testBit h = (dn H M t g f i h && decide (0 < sk H M t g r f h))) ∧ RP y fun h => if dn H M t g f i h = true then g2 H M t g r f h else g h) (fun o => ∃ gone y z, o = some (nI gone, y, z) ∧ gone < 64 ∧ (∀ h, h < 6 → gone.testBit h = decide (0 < sk H M t g r f h)) ∧ RP y (g2 H M t g r f)) ?_ ?_ M 5000 (nI t) _ 0 0 x1 z (by omega) ⟨0, _, 0, by omega, rfl, rfl, rfl, rfl, hz, bset_lt _, by decide, fun h hh => ?_, fun h hh => ?_, RP_congr hx1 fun h hh => ?_⟩
  · rintro k m _ _ _ _ y z ⟨i, seen, gone, hi, rfl, rfl, rfl, rfl, hz, hs, hgn, hseen, hgone, hy⟩
    have hi6 : i < 6 := by omega
    have hiM : i < M := by omega
    refine Or.inl ?_
    unfold fX1_runDown_21b
    rw [h4, if_neg (nI_ge hiM (by omega))]
    cases q : seen.testBit i with
    | true =>
      rw [bd1_t (hasBit_1 hs hi6 q), if_neg one_ne]
      have old : ∀ h, h < M → (Bk f t h).testBit i = true → g h = H ∨ ((List.range i).any fun j => (Bk f t h).testBit j) = true := by
        intro h hh hb
        rw [hseen i hi6] at q
        simp only [Bool.and_eq_true, Bool.or_eq_true, decide_eq_true_eq] at q
        rcases q.2 with q2 | q2
        · exact Or.inl (by rw [Bk_river' hV hh hiM (Or.inr q2) hb]; exact q2)
        · exact Or.inr (by rw [Bk_same hV (by omega) hi6 hb]; exact q2)
      have oldd : ∀ h, h < 6 → dn H M t g f (i + 1) h = dn H M t g f i h := by
        intro h hh
        unfold dn
        rw [any_s]
        by_cases c : h < M
        · cases q2 : (Bk f t h).testBit i with
          | false => simp
          | true =>
            rcases old h c q2 with q3 | q3
            · simp [q3]
            · simp only [q3, Bool.true_or]
        · simp [c]
      unfold fX1_runDown_98
      rw [bn_t, nI_1]
      refine ⟨_, _, _, _, _, _, ⟨i + 1, seen, gone, by omega, rfl, rfl, rfl, rfl, hz, hs, hgn, fun h hh => ?_, fun h hh => ?_, RP_congr hy fun h hh => ?_⟩, rfl⟩
      · rw [hseen h hh, any_s]
        by_cases c : h < M
        · cases q2 : (Bk f t h).testBit i with
          | false => simp
          | true =>
            rcases old h c q2 with q3 | q3
            · simp [q3]
            · simp only [q3, Bool.true_or]
        · simp [c]
      · rw [hgone h hh, oldd h hh]
      · rw [oldd h hh]
    | false =>
      rw [bd1_t (hasBit_0 hs hi6 q), if_pos rfl, bd1_t (p_blockB hz hi6)]
      have hB := Bk_lt (f := f) (t := t) hi6
      have hp6 := pcnt_le _ hB
      rw [show Bof (eg f t) i = Bk f t i from rfl, bd1_t (p_bitCount _ hB), bn_t, bn_t, nI_or hs hB]
      rw [hseen i hi6] at q
      have qi : g i ≠ H ∧ ((List.range i).any fun j => (Bk f t i).testBit j) = false := by
        simpa [hiM] using q
      -- those of the block
      have inB : ∀ h, h < 6 → (Bk f t i).testBit h = (Bk f t h).testBit i := by
        intro h hh
        cases q1 : (Bk f t i).testBit h with
        | true => exact (Bk_symm hV hi6 hh q1).symm
        | false =>
          cases q2 : (Bk f t h).testBit i with
          | false => rfl
          | true => rw [Bk_symm hV hh hi6 q2] at q1; cases q1
      have newB : ∀ h, h < 6 → (Bk f t h).testBit i = true → h < M ∧ g h ≠ H ∧ Bk f t h = Bk f t i ∧ ((List.range i).any fun j => (Bk f t h).testBit j) = false := by
        intro h hh hb
        have e := Bk_same hV hh hi6 hb
        have hhM : h < M := Bk_M hV hiM hh (by rw [inB h hh]; exact hb)
        refine ⟨hhM, fun hr => ?_, e, by rw [e]; exact qi.2⟩
        have := Bk_river' hV hhM hiM (Or.inl hr) hb
        rw [this] at hr
        exact qi.1 hr
      have seen' : ∀ h, h < 6 → (seen ||| Bk f t i).testBit h = (decide (h < M) && (decide (g h = H) || (List.range (i + 1)).any fun j => (Bk f t h).testBit j)) := by
        intro h hh
        rw [Nat.testBit_or, hseen h hh, any_s, inB h hh]
        cases q2 : (Bk f t h).testBit i with
        | false => simp
        | true => simp [(newB h hh q2).1]
      have dnS : ∀ h, h < 6 → dn H M t g f (i + 1) h = (dn H M t g f i h || (Bk f t h).testBit i) := by
        intro h hh
        unfold dn
        rw [any_s]
        cases q2 : (Bk f t h).testBit i with
        | false => simp
        | true => simp [(newB h hh q2).1, (newB h hh q2).2.1]
      have dn0 : ∀ h, h < 6 → (Bk f t h).testBit i = true → dn H M t g f i h = false := by
        intro h hh hb
        unfold dn
        rw [(newB h hh hb).2.2.2]
        simp
      have still : (∀ h, h < 6 → (Bk f t h).testBit i = true → sk H M t g r f h = 0) → ∃ a0' a1' a2' a3' a4' a5', (∃ i seen gone, i + m = M ∧ a0' = nI t ∧ a1' = nI seen ∧ a2' = nI gone ∧ a3' = nI i ∧ (RP a5' fun i => bset (eg f t i)) ∧ seen < 64 ∧ gone < 64 ∧ (∀ h, h < 6 → seen.testBit h = (decide (h < M) && (decide (g h = H) || (List.range i).any fun j => (Bk f t h).testBit j))) ∧ (∀ h, h < 6 → gone.testBit h = (dn H M t g f i h && decide (0 < sk H M t g r f h))) ∧ RP a4' fun h => if dn H M t g f i h = true then g2 H M t g r f h else g h) ∧ fX1_runDown_98 x2 x3 x17 k (nI t) (nI (seen ||| Bk f t i)) (nI gone) (nI i) y z = k a0' a1' a2' a3' a4' a5' := by
        intro h0s
        unfold fX1_runDown_98
        rw [bn_t, nI_1]
        refine ⟨_, _, _, _, _, _, ⟨i + 1, seen ||| Bk f t i, gone, by omega, rfl, rfl, rfl, rfl, hz, or_lt64 hs hB, hgn, seen', fun h hh => ?_, RP_congr hy fun h hh => ?_⟩, rfl⟩
        · rw [hgone h hh, dnS h hh]
          cases q2 : (Bk f t h).testBit i with
          | false => simp
          | true => rw [dn0 h hh q2, h0s h hh q2]; simp
        · rw [dnS h hh]
          cases q2 : (Bk f t h).testBit i with
          | false => simp
          | true =>
            rw [dn0 h hh q2]
            simp [g2, h0s h hh q2]
      have skB : ∀ h, h < 6 → (Bk f t h).testBit i = true → sk H M t g r f h = if fast r t (Bk f t i) = true then 0 else min (t + 1 - pcnt (Bk f t i)) (H - g h) := by
        intro h hh hb
        obtain ⟨b1, b2, b3, b4⟩ := newB h hh hb
        unfold sk
        rw [if_pos b1, b3]
      by_cases c : t + 1 ≤ pcnt (Bk f t i)
      · rw [if_pos ((st_le t ht _ (by omega)).mpr c)]
        refine still fun h hh hb => ?_
        rw [skB h hh hb, show t + 1 - pcnt (Bk f t i) = 0 by omega]
        simp
      · rw [if_neg (fun hc => c ((st_le t ht _ (by omega)).mp hc)), bd1_t (p_isFast hx2 (fun h hh => (hg h hh).2) hB (show t < 100 by omega))]
        cases q3 : fast r t (Bk f t i) with
        | true =>
          rw [if_pos rfl, if_neg one_ne]
          refine still fun h hh hb => ?_
          rw [skB h hh hb, q3]; rfl
        | false =>
          rw [if_neg Bool.false_ne_true, if_pos rfl, st_eq t ht _ (by omega) (by omega)]
          have hpl : ∀ h, h < 6 → (if dn H M t g f i h = true then g2 H M t g r f h else g h) ≤ 60 := by
            intro h hh
            have := (hg h hh).1
            have e : sk H M t g r f h ≤ H - g h := by
              unfold sk
              split
              · split
                · omega
                · exact Nat.min_le_right _ _
              · omega
            unfold g2
            split <;> omega
          obtain ⟨y', ey, hy'⟩ := p_lower hM hH h0 h4 hy hpl hB (show t + 1 - pcnt (Bk f t i) ≤ 100 by omega)
          rw [bd1_t ey, bn_t, nI_or hgn hB]
          unfold fX1_runDown_98
          rw [bn_t, nI_1]
          refine ⟨_, _, _, _, _, _, ⟨i + 1, seen ||| Bk f t i, gone ||| Bk f t i, by omega, rfl, rfl, rfl, rfl, hz, or_lt64 hs hB, or_lt64 hgn hB, seen', fun h hh => ?_, RP_congr hy' fun h hh => ?_⟩, rfl⟩
          · rw [Nat.testBit_or, hgone h hh, dnS h hh, inB h hh]
            cases q2 : (Bk f t h).testBit i with
            | false => simp
            | true =>
              have b := newB h hh q2
              have hle := (hg h hh).1
              rw [dn0 h hh q2, skB h hh q2, q3]
              have : 0 < min (t + 1 - pcnt (Bk f t i)) (H - g h) := by
                have := b.2.1
                omega
              rw [if_neg Bool.false_ne_true, decide_eq_true this]
              rfl
          · rw [dnS h hh, inB h hh]
            cases q2 : (Bk f t h).testBit i with
            | false => simp
            | true =>
              have b := newB h hh q2
              have hle := (hg h hh).1
              rw [dn0 h hh q2, if_pos ⟨b.1, rfl⟩, if_neg Bool.false_ne_true, if_pos (show (false || true) = true from rfl)]
              unfold g2
              have e2 : sk H M t g r f h = min (t + 1 - pcnt (Bk f t i)) (H - g h) := (skB h hh q2).trans (by rw [q3]; rfl)
              rw [e2]
              omega
  · rintro k _ _ _ _ y z ⟨i, seen, gone, hi, rfl, rfl, rfl, rfl, hz, hs, hgn, hseen, hgone, hy⟩
    obtain rfl : i = M := by omega
    unfold fX1_runDown_21b
    rw [h4, if_pos (nI_le (Nat.le_refl _) (by omega))]
    have dnM : ∀ h, h < 6 → h < i → g h ≠ H → dn H i t g f i h = true := by
      intro h hh hc hr
      unfold dn
      have : ((List.range i).any fun j => (Bk f t h).testBit j) = true := List.any_eq_true.mpr ⟨h, List.mem_range.mpr hc, Bk_self hh⟩
      rw [this]
      simp [hc, hr]
    have sk0 : ∀ h, h < 6 → dn H i t g f i h = false → sk H i t g r f h = 0 := by
      intro h hh hd
      by_cases c : h < i
      · by_cases c2 : g h = H
        · unfold sk
          rw [if_pos c, c2]
          split <;> simp
        · rw [dnM h hh c c2] at hd; cases hd
      · exact hskM h (by omega)
    refine ⟨gone, y, z, rfl, hgn, fun h hh => ?_, RP_congr hy fun h hh => ?_⟩
    · rw [hgone h hh]
      cases q : dn H i t g f i h with
      | true => rfl
      | false => rw [sk0 h hh q]; rfl
    · cases q : dn H i t g f i h with
      | true => simp
      | false => simp [g2, sk0 h hh q]
  · rw [bset_tb _ hh]
    have := (hg h hh).1
    have : decide (H ≤ g h) = decide (g h = H) := by
      by_cases c : g h = H
      · simp [c]
      · have : ¬ H ≤ g h := by omega
        simp [c, this]
    rw [this]; simp
  · have : (0 : Nat).testBit h = false := Nat.zero_testBit h
    rw [this]
    unfold dn; simp
  · unfold dn; simp
end DN

/-- a run of signs -/
def rn (P : Nat → Bool) : Nat → Nat → Nat
  | 0, s => s
  | m + 1, s => if P s = true then rn P m (s + 1) else s
theorem rn_ge {P : Nat → Bool} : ∀ m s, s ≤ rn P m s ∧ rn P m s ≤ s + m
  | 0, s => ⟨Nat.le_refl _, Nat.le_refl _⟩
  | m + 1, s => by
    have := rn_ge (P := P) m (s + 1)
    unfold rn
    split <;> omega
theorem rn_in {P : Nat → Bool} : ∀ m s j, s ≤ j → j < rn P m s → P j = true
  | 0, s, j, h1, h2 => absurd h2 (by unfold rn; omega)
  | m + 1, s, j, h1, h2 => by
    unfold rn at h2
    by_cases c : P s = true
    · rw [if_pos c] at h2
      by_cases e : j = s
      · subst e; exact c
      · exact rn_in m (s + 1) j (by omega) h2
    · rw [if_neg c] at h2; omega
theorem rn_end {P : Nat → Bool} : ∀ m s, rn P m s = s + m ∨ P (rn P m s) = false
  | 0, s => Or.inl rfl
  | m + 1, s => by
    unfold rn
    by_cases c : P s = true
    · rw [if_pos c]
      rcases rn_end (P := P) m (s + 1) with h | h
      · exact Or.inl (by omega)
      · exact Or.inr h
    · rw [if_neg c]; exact Or.inr (by simpa using c)
section LEX
variable {x1 x2 x74 x91 t : Nat → Int32} {sz : Nat}
def isR (t : Nat → Int32) (lo hi : Int32) (j : Nat) : Bool := decide (¬ t j < lo) && decide (¬ hi < t j)
def rd (t : Nat → Int32) (sz s : Nat) : Nat := rn (isR t 48 57) (sz - s) s
def rl (t : Nat → Int32) (sz s : Nat) : Nat := rn (isR t 97 122) (sz - s) s
def bk (t : Nat → Int32) (sz s : Nat) : Nat := rn (fun j => decide (t j = 32)) (sz - s) s
theorem p_behind {s : Nat} {lo hi : Int32} (hz : sz ≤ 400) (h1 : x1 1 = nI sz) (h2 : ∀ j, j < 400 → x2 j = t j) (hs : s ≤ sz) : fX8_behindRun x1 x2 (nI s) lo hi = some (nI (rn (isR t lo hi) (sz - s) s)) := by
  unfold fX8_behindRun fX8_behindRun_0 fX8_behindRun_3
  refine loop3 (fX8_behindRun_3b x1 x2) (fun m v2 v3 v4 => ∃ i, i + m = sz ∧ lo = v2 ∧ hi = v3 ∧ v4 = nI i ∧ rn (isR t lo hi) m i = rn (isR t lo hi) (sz - s) s) (fun o => o = some (nI (rn (isR t lo hi) (sz - s) s))) ?_ ?_ (sz - s) 5000 _ _ _ (by omega) ⟨s, by omega, rfl, rfl, rfl, rfl⟩
  · rintro k m _ _ _ ⟨i, hi', rfl, rfl, rfl, e⟩
    have ti := h2 i (by omega)
    unfold fX8_behindRun_3b
    rw [h1, if_neg (nI_ge (show i < sz by omega) (by omega)), gd_t (inbN (by omega) (by decide)), clN (by omega), ti]
    have er : rn (isR t lo hi) (m + 1) i = if isR t lo hi i = true then rn (isR t lo hi) m (i + 1) else i := rfl
    rw [er] at e
    by_cases c1 : t i < lo
    · rw [if_pos c1]
      rw [if_neg (by unfold isR; simp [c1])] at e
      exact Or.inr (by rw [e])
    · rw [if_neg c1, gd_t (inbN (by omega) (by decide))]
      by_cases c2 : hi < t i
      · rw [if_pos c2]
        rw [if_neg (by unfold isR; simp [c2])] at e
        exact Or.inr (by rw [e])
      · rw [if_neg c2, bn_s, nI_1]
        rw [if_pos (by unfold isR; rw [Bool.and_eq_true]; exact ⟨decide_eq_true c1, decide_eq_true c2⟩)] at e
        exact Or.inl ⟨lo, hi, nI (i + 1), ⟨i + 1, by omega, rfl, rfl, rfl, e⟩, rfl⟩
  · rintro k _ _ _ ⟨i, hi', rfl, rfl, rfl, e⟩
    unfold fX8_behindRun_3b
    rw [h1, if_pos (nI_le (by omega) (by omega))]
    have e' : i = rn (isR t lo hi) (sz - s) s := e
    rw [← e']
theorem bR_cases {x : Int32} (h : bR x) : ∃ k, k < 256 ∧ x = nI k - nI 128 := by
  refine ⟨(x.toInt + 128).toNat, ?_, ?_⟩
  · have := h.1; have := h.2; omega
  · rw [← Int32.toInt_inj, pk_sub_toInt (by have := h.2; omega) (by omega)]
    have := h.1
    omega
theorem sg_tab : ∀ k, k < 256 → ((nI k - nI 128) &&& 255 = 32 ↔ nI k - nI 128 = 32) ∧ fX12_in (((nI k - nI 128) &&& 255).toInt64) 48 57 = some (if (decide (¬ nI k - nI 128 < 48) && decide (¬ 57 < nI k - nI 128)) = true then nI 1 else nI 0) := by decide +kernel
theorem sg_t {x : Int32} (h : bR x) : (x &&& 255 = 32 ↔ x = 32) ∧ fX12_in ((x &&& 255).toInt64) 48 57 = some (if (decide (¬ x < 48) && decide (¬ 57 < x)) = true then nI 1 else nI 0) := by
  obtain ⟨k, hk, rfl⟩ := bR_cases h
  exact sg_tab k hk
theorem p_sign {p : Nat} (hz : sz ≤ 400) (h17 : x74 17 = nI sz) (h18 : x74 18 = nI p) (hp : p < 1000) (h91 : ∀ j, j < 400 → x91 j = t j) : fX12_sign x74 x91 = some (if p < sz then t p &&& 255 else -1) := by
  unfold fX12_sign fX12_sign_0
  rw [h17, h18]
  by_cases c : p < sz
  · rw [if_neg (nI_ge c (by omega)), gd_t (inbN (by omega) (by decide)), clN (by omega), h91 p (by omega), if_pos c]
  · rw [if_pos (nI_le (by omega) (by omega)), if_neg c]
theorem p_isDigit {p : Nat} (hz : sz ≤ 400) (h17 : x74 17 = nI sz) (h18 : x74 18 = nI p) (hp : p < 1000) (h91 : ∀ j, j < 400 → x91 j = t j) (hb : ∀ j, j < 400 → bR (t j)) : fX12_isDigit x74 x91 = some (if p < sz ∧ isR t 48 57 p = true then nI 1 else nI 0) := by
  unfold fX12_isDigit fX12_isDigit_0
  rw [p_sign hz h17 h18 hp h91, bd1_s]
  by_cases c : p < sz
  · rw [if_pos c, (sg_t (hb p (by omega))).2, bd1_s]
    unfold isR
    by_cases c2 : (decide (¬ t p < 48) && decide (¬ 57 < t p)) = true
    · rw [if_pos c2, if_pos ⟨c, c2⟩, gd_t bz_1]
    · rw [if_neg c2, if_neg (fun h => c2 h.2), gd_t bz_0]
  · rw [if_neg c, if_neg (fun h => c h.1), show fX12_in ((-1 : Int32).toInt64) 48 57 = some (nI 0) from by decide, bd1_s, gd_t bz_0]
theorem p_blanks {p : Nat} (hz : sz ≤ 400) (h17 : x74 17 = nI sz) (h18 : x74 18 = nI p) (hp : p < 1000) (h91 : ∀ j, j < 400 → x91 j = t j) (hb : ∀ j, j < 400 → bR (t j)) : ∃ z74, fX12_blanks x91 x74 = some z74 ∧ z74 18 = nI (bk t sz p) ∧ ∀ j, j ≠ 18 → z74 j = x74 j := by
  unfold fX12_blanks
  refine loop1 (fX12_blanks_0b x91) (fun m z74 => ∃ i, (i + m = sz ∨ (m = 0 ∧ sz ≤ i)) ∧ i < 1000 ∧ z74 18 = nI i ∧ (∀ j, j ≠ 18 → z74 j = x74 j) ∧ rn (fun j => decide (t j = 32)) m i = bk t sz p) (fun o => ∃ z74, o = some z74 ∧ z74 18 = nI (bk t sz p) ∧ ∀ j, j ≠ 18 → z74 j = x74 j) ?_ ?_ (sz - p) 5000 _ (by omega) ⟨p, by omega, hp, h18, fun _ _ => rfl, rfl⟩
  · rintro k m z74 ⟨i, hi, hi2, a18, af, e⟩
    have hs := p_sign (x74 := z74) hz ((af 17 (by omega)).trans h17) a18 hi2 h91
    unfold fX12_blanks_0b
    rw [hs, bd1_s, if_pos (show i < sz by omega)]
    have er : rn (fun j => decide (t j = 32)) (m + 1) i = if decide (t i = 32) = true then rn (fun j => decide (t j = 32)) m (i + 1) else i := rfl
    rw [er] at e
    by_cases c : t i = 32
    · rw [if_pos (decide_eq_true c)] at e
      rw [if_pos ((sg_t (hb i (by omega))).1.mpr c), a18, nI_1]
      exact Or.inl ⟨upd z74 18 (nI (i + 1)), ⟨i + 1, by omega, by omega, rfl, fun j hj => by rw [pk_un hj]; exact af j hj, e⟩, rfl⟩
    · rw [if_neg (by simpa using c)] at e
      rw [if_neg (fun h => c ((sg_t (hb i (by omega))).1.mp h))]
      exact Or.inr ⟨z74, rfl, by rw [a18, e], af⟩
  · rintro k z74 ⟨i, hi, hi2, a18, af, e⟩
    have hs := p_sign (x74 := z74) hz ((af 17 (by omega)).trans h17) a18 hi2 h91
    have e' : i = bk t sz p := e
    refine ⟨z74, ?_, by rw [a18, e'], af⟩
    unfold fX12_blanks_0b
    rw [hs, bd1_s, if_neg (show ¬ i < sz by omega), if_neg (by decide)]
end LEX

section WORD
variable {x1 x2 x74 x91 t : Nat → Int32} {sz : Nat}
def wlen (w : Nat) : Nat := lenS.getD w 0
/-- whether a word stands there -/
def wOK (w : Nat) (t : Nat → Int32) (s e : Nat) : Prop := wlen w = e - s ∧ ∀ k, k < wlen w → t (s + k) = sch w (nI k)
theorem slen_w : ∀ w, w < 20 → slen w = nI (wlen w) ∧ wlen w ≤ 10 ∧ 0 < wlen w := by decide +kernel
theorem p_isWord {w s e : Nat} (hw : w < 20) (hz : sz ≤ 400) (hse : s ≤ e) (he : e ≤ sz) (h2 : ∀ j, j < 400 → x2 j = t j) : (wOK w t s e ∧ fX8_isWord w x2 (nI s) (nI e) = some (nI 1)) ∨ (¬ wOK w t s e ∧ fX8_isWord w x2 (nI s) (nI e) = some (nI 0)) := by
  obtain ⟨sl, l10, l0⟩ := slen_w w hw
  unfold fX8_isWord fX8_isWord_0
  rw [sl, nsub hse]
  by_cases c : wlen w = e - s
  · rw [if_pos (by rw [c])]
    unfold fX8_isWord_15
    refine loop2 (fX8_isWord_15b w x2) (fun m v2 v4 => ∃ i, i + m = wlen w ∧ v2 = nI s ∧ v4 = nI i ∧ ∀ k, k < i → t (s + k) = sch w (nI k)) (fun o => (wOK w t s e ∧ o = some (nI 1)) ∨ (¬ wOK w t s e ∧ o = some (nI 0))) ?_ ?_ (wlen w) 5000 _ _ (by omega) ⟨0, by omega, rfl, rfl, fun k hk => absurd hk (by omega)⟩
    · rintro k m _ _ ⟨i, hi, rfl, rfl, h⟩
      have ti := h2 (s + i) (by omega)
      unfold fX8_isWord_15b
      rw [sl, if_neg (nI_ge (show i < wlen w by omega) (by omega)), nI_add, gd_t (inbN (by omega) (by decide)), gd_t (inbN (show i < lenS.getD w 0 from by show i < wlen w; omega) (by show wlen w < 2 ^ 31; omega)), clN (by omega), ti]
      by_cases c2 : t (s + i) = sch w (nI i)
      · rw [if_pos c2, bn_s, nI_1]
        refine Or.inl ⟨nI s, nI (i + 1), ⟨i + 1, by omega, rfl, rfl, fun k hk => ?_⟩, rfl⟩
        by_cases e2 : k = i
        · subst e2; exact c2
        · exact h k (by omega)
      · rw [if_neg c2]
        exact Or.inr (Or.inr ⟨fun h' => c2 (h'.2 i (by omega)), rfl⟩)
    · rintro k _ _ ⟨i, hi, rfl, rfl, h⟩
      have ei : i = wlen w := by omega
      unfold fX8_isWord_15b
      rw [sl, if_pos (nI_le (by omega) (by omega))]
      exact Or.inl ⟨⟨c, by rw [← ei]; exact h⟩, rfl⟩
  · rw [if_neg (fun h => c ((nI_eq (by omega) (by omega)).mp h))]
    exact Or.inr ⟨fun h => c h.1, rfl⟩
theorem p_isWordAt {w p : Nat} (hw : w < 20) (hz : sz ≤ 400) (h17 : x74 17 = nI sz) (h18 : x74 18 = nI p) (hp : p < 1000) (h91 : ∀ j, j < 400 → x91 j = t j) : (wOK w t p (rl t sz p) ∧ fX12_isWordAt w x74 x91 = some (nI 1)) ∨ (¬ wOK w t p (rl t sz p) ∧ fX12_isWordAt w x74 x91 = some (nI 0)) := by
  obtain ⟨sl, l10, l0⟩ := slen_w w hw
  have hge := rn_ge (P := isR t 97 122) (sz - p) p
  have e5 : fX12_isWordAt_5 w x74 x91 (nI p) = fX12_isWordAt_41 w x74 x91 (nI (rl t sz p)) := by
    unfold fX12_isWordAt_5
    refine loop1 (fX12_isWordAt_5b w x74 x91) (fun m v2 => ∃ i, (i + m = sz ∨ (m = 0 ∧ sz ≤ i)) ∧ i < 1000 ∧ v2 = nI i ∧ rn (isR t 97 122) m i = rl t sz p) (fun o => o = fX12_isWordAt_41 w x74 x91 (nI (rl t sz p))) ?_ ?_ (sz - p) 5000 _ (by omega) ⟨p, by omega, hp, rfl, rfl⟩
    · rintro k m _ ⟨i, hi, hi2, rfl, e⟩
      have ti := h91 i (by omega)
      unfold fX12_isWordAt_5b
      rw [h17, if_neg (nI_ge (show i < sz by omega) (by omega)), gd_t (inbN (by omega) (by decide)), clN (by omega), ti]
      have er : rn (isR t 97 122) (m + 1) i = if isR t 97 122 i = true then rn (isR t 97 122) m (i + 1) else i := rfl
      rw [er] at e
      by_cases c1 : t i < 97
      · rw [if_pos c1]
        rw [if_neg (by unfold isR; simp [c1])] at e
        exact Or.inr (by rw [e])
      · rw [if_neg c1, gd_t (inbN (by omega) (by decide))]
        by_cases c2 : 122 < t i
        · rw [if_pos c2]
          rw [if_neg (by unfold isR; simp [c2])] at e
          exact Or.inr (by rw [e])
        · rw [if_neg c2, bn_s, nI_1]
          rw [if_pos (by unfold isR; rw [Bool.and_eq_true]; exact ⟨decide_eq_true c1, decide_eq_true c2⟩)] at e
          exact Or.inl ⟨nI (i + 1), ⟨i + 1, by omega, by omega, rfl, e⟩, rfl⟩
    · rintro k _ ⟨i, hi, hi2, rfl, e⟩
      have e' : i = rl t sz p := e
      unfold fX12_isWordAt_5b
      rw [h17, if_pos (nI_le (by omega) (by omega)), e']
  have hrl : p ≤ rl t sz p ∧ rl t sz p ≤ p + (sz - p) := hge
  unfold fX12_isWordAt fX12_isWordAt_0
  rw [h18, bn_s, e5]
  unfold fX12_isWordAt_41 fX12_isWordAt_59
  rw [h18, sl, nsub hrl.1]
  by_cases c : rl t sz p - p = wlen w
  · rw [if_pos (by rw [c])]
    unfold fX12_isWordAt_63
    refine loop2 (fX12_isWordAt_63b w x74 x91) (fun m v3 v4 => ∃ i, i + m = wlen w ∧ v4 = nI i ∧ ((v3 = nI 1 ∧ ∀ k, k < i → t (p + k) = sch w (nI k)) ∨ (v3 = nI 0 ∧ ∃ k, k < wlen w ∧ t (p + k) ≠ sch w (nI k)))) (fun o => (wOK w t p (rl t sz p) ∧ o = some (nI 1)) ∨ (¬ wOK w t p (rl t sz p) ∧ o = some (nI 0))) ?_ ?_ (wlen w) 5000 _ _ (by omega) ⟨0, by omega, rfl, Or.inl ⟨rfl, fun k hk => absurd hk (by omega)⟩⟩
    · rintro k m _ _ ⟨i, hi, rfl, ⟨rfl, h⟩ | ⟨rfl, k0, hk0, hne⟩⟩
      · have ti := h91 (p + i) (by omega)
        unfold fX12_isWordAt_63b fX12_isWordAt_102
        rw [sl, if_neg (nI_ge (show i < wlen w by omega) (by omega)), if_neg (show ¬ nI 1 = (0 : Int32) from one_ne), h18, nI_add, gd_t (inbN (by omega) (by decide)), gd_t (inbN (show i < lenS.getD w 0 from by show i < wlen w; omega) (by show wlen w < 2 ^ 31; omega)), clN (by omega), ti]
        by_cases c2 : t (p + i) = sch w (nI i)
        · rw [if_pos c2, bn_s, nI_1]
          refine Or.inl ⟨nI 1, nI (i + 1), ⟨i + 1, by omega, rfl, Or.inl ⟨rfl, fun k hk => ?_⟩⟩, rfl⟩
          by_cases e2 : k = i
          · subst e2; exact c2
          · exact h k (by omega)
        · rw [if_neg c2, bn_s, nI_1]
          exact Or.inl ⟨nI 0, nI (i + 1), ⟨i + 1, by omega, rfl, Or.inr ⟨rfl, i, by omega, c2⟩⟩, rfl⟩
      · unfold fX12_isWordAt_63b
        rw [sl, if_neg (nI_ge (show i < wlen w by omega) (by omega)), if_pos z00, gd_t bz_0]
        exact Or.inr (Or.inr ⟨fun h' => hne (h'.2 k0 hk0), rfl⟩)
    · rintro k _ _ ⟨i, hi, rfl, ⟨rfl, h⟩ | ⟨rfl, k0, hk0, hne⟩⟩
      · have ei : i = wlen w := by omega
        unfold fX12_isWordAt_63b
        rw [sl, if_pos (nI_le (by omega) (by omega)), gd_t bz_1]
        exact Or.inl ⟨⟨c.symm, by rw [← ei]; exact h⟩, rfl⟩
      · unfold fX12_isWordAt_63b
        rw [sl, if_pos (nI_le (by omega) (by omega)), gd_t bz_0]
        exact Or.inr ⟨fun h' => hne (h'.2 k0 hk0), rfl⟩
  · rw [if_neg (fun h => c ((nI_eq (by omega) (by omega)).mp h))]
    unfold fX12_isWordAt_63
    have e0 : lq2 (fX12_isWordAt_63b w x74 x91) 5000 0 0 = some (nI 0) := by
      show fX12_isWordAt_63b w x74 x91 (lq2 (fX12_isWordAt_63b w x74 x91) 4999) (nI 0) (nI 0) = _
      unfold fX12_isWordAt_63b
      rw [sl, if_neg (nI_ge l0 (by omega)), if_pos z00, gd_t bz_0]
    rw [e0]
    exact Or.inr ⟨fun h => c h.1.symm, rfl⟩
/-- no two words stand at one place -/
theorem w_diff : ∀ w, w < 20 → ∀ w', w' < 20 → w ≠ w' → wlen w = wlen w' → ∃ k, k < wlen w ∧ sch w (nI k) ≠ sch w' (nI k) := by decide +kernel
theorem wOK_uniq {w w' s e : Nat} (hw : w < 20) (hw' : w' < 20) (h : wOK w t s e) (h' : wOK w' t s e) : w = w' := by
  by_cases c : w = w'
  · exact c
  · have el : wlen w = wlen w' := by rw [h.1, h'.1]
    obtain ⟨k, hk, hn⟩ := w_diff w hw w' hw' c el
    exact absurd ((h.2 k hk).symm.trans (h'.2 k (by omega))) hn
end WORD

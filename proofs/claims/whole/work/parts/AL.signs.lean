section SIGNS
variable {t : Nat → Int32} {sz s : Nat}
theorem sgx_tab : ∀ k, k < 256 → ((nI k - nI 128) &&& 255 = 37 ↔ nI k - nI 128 = 37) ∧ ((nI k - nI 128) &&& 255 = 42 ↔ nI k - nI 128 = 42) ∧ ((nI k - nI 128) &&& 255 = 43 ↔ nI k - nI 128 = 43) ∧ ((nI k - nI 128) &&& 255 = 45 ↔ nI k - nI 128 = 45) ∧ ((nI k - nI 128) &&& 255 = 47 ↔ nI k - nI 128 = 47) ∧ ((nI k - nI 128) &&& 255 = 60 ↔ nI k - nI 128 = 60) ∧ ((nI k - nI 128) &&& 255 = 61 ↔ nI k - nI 128 = 61) ∧ ((nI k - nI 128) &&& 255 = 62 ↔ nI k - nI 128 = 62) ∧ ((nI k - nI 128) &&& 255 = 91 ↔ nI k - nI 128 = 91) ∧ ((nI k - nI 128) &&& 255 = 93 ↔ nI k - nI 128 = 93) := by decide +kernel
theorem sgx {x : Int32} (h : bR x) : (x &&& 255 = 37 ↔ x = 37) ∧ (x &&& 255 = 42 ↔ x = 42) ∧ (x &&& 255 = 43 ↔ x = 43) ∧ (x &&& 255 = 45 ↔ x = 45) ∧ (x &&& 255 = 47 ↔ x = 47) ∧ (x &&& 255 = 60 ↔ x = 60) ∧ (x &&& 255 = 61 ↔ x = 61) ∧ (x &&& 255 = 62 ↔ x = 62) ∧ (x &&& 255 = 91 ↔ x = 91) ∧ (x &&& 255 = 93 ↔ x = 93) := by
  obtain ⟨k, hk, rfl⟩ := bR_cases h
  exact sgx_tab k hk
/-- a sign, or a number or a word -/
theorem tc_sg (hs : s < sz) (hz : sz ≤ 400) : (rd t sz s = s ∧ rl t sz s = s ∧ tc t sz s = sgc t sz s) ∨ ((isR t 48 57 s = true ∨ isR t 97 122 s = true) ∧ (tc t sz s < 4 ∨ 17 ≤ tc t sz s)) := by
  have r1 := rd_le (t := t) (show s ≤ sz by omega)
  have r2 := rl_le (t := t) (show s ≤ sz by omega)
  by_cases a : s < rd t sz s
  · refine Or.inr ⟨Or.inl (rn_in (P := isR t 48 57) (sz - s) s s (Nat.le_refl _) a), Or.inl ?_⟩
    have := (tc_digit (t := t) (show s ≤ sz by omega) hz).2 a
    split at this <;> omega
  · by_cases b : s < rl t sz s
    · refine Or.inr ⟨Or.inr (rn_in (P := isR t 97 122) (sz - s) s s (Nat.le_refl _) b), ?_⟩
      unfold tc
      rw [if_neg (by omega), if_neg a, if_pos b]
      rcases wc_is (t := t) hz r2.1 r2.2 with ⟨w, _, e2, _⟩ | ⟨e2, _⟩ <;> omega
    · refine Or.inl ⟨by omega, by omega, ?_⟩
      unfold tc
      rw [if_neg (by omega), if_neg a, if_neg b]
theorem isR_f {lo hi v : Int32} (e : t s = v) (h : (decide (¬ v < lo) && decide (¬ hi < v)) = false) : ¬ isR t lo hi s = true := by
  unfold isR
  rw [e, h]
  exact Bool.false_ne_true
theorem tch_43 (hs : s < sz) (hz : sz ≤ 400) : tc t sz s = 7 ↔ t s = 43 := by
  constructor
  · intro h
    rcases tc_sg (t := t) hs hz with ⟨_, _, e⟩ | ⟨_, e⟩
    · rw [e] at h
      unfold sgc at h
      by_cases k : t s = 43
      · exact k
      · rw [if_neg k] at h
        (repeat' split at h) <;> omega
    · omega
  · intro h
    rcases tc_sg (t := t) hs hz with ⟨_, _, e⟩ | ⟨e, _⟩
    · rw [e]
      unfold sgc
      rw [h]
      rfl
      
    · rcases e with e | e
      · exact absurd e (isR_f h (by decide))
      · exact absurd e (isR_f h (by decide))
theorem sg_43 (hz : sz ≤ 400) (hb : ∀ j, j < 400 → bR (t j)) : (if s < sz then t s &&& 255 else (-1 : Int32)) = 43 ↔ tc t sz s = 7 := by
  by_cases hs : s < sz
  · rw [if_pos hs]
    obtain ⟨q37, q42, q43, q45, q47, q60, q61, q62, q91, q93⟩ := sgx (hb s (by omega))
    exact q43.trans (tch_43 hs hz).symm
  · rw [if_neg hs]
    have : tc t sz s = 0 := by unfold tc; rw [if_pos (by omega)]
    constructor
    · intro h; exact absurd h (by decide)
    · intro h; omega
theorem tch_45 (hs : s < sz) (hz : sz ≤ 400) : tc t sz s = 8 ↔ t s = 45 := by
  constructor
  · intro h
    rcases tc_sg (t := t) hs hz with ⟨_, _, e⟩ | ⟨_, e⟩
    · rw [e] at h
      unfold sgc at h
      by_cases k : t s = 45
      · exact k
      · rw [if_neg k] at h
        (repeat' split at h) <;> omega
    · omega
  · intro h
    rcases tc_sg (t := t) hs hz with ⟨_, _, e⟩ | ⟨e, _⟩
    · rw [e]
      unfold sgc
      rw [h]
      rfl
      
    · rcases e with e | e
      · exact absurd e (isR_f h (by decide))
      · exact absurd e (isR_f h (by decide))
theorem sg_45 (hz : sz ≤ 400) (hb : ∀ j, j < 400 → bR (t j)) : (if s < sz then t s &&& 255 else (-1 : Int32)) = 45 ↔ tc t sz s = 8 := by
  by_cases hs : s < sz
  · rw [if_pos hs]
    obtain ⟨q37, q42, q43, q45, q47, q60, q61, q62, q91, q93⟩ := sgx (hb s (by omega))
    exact q45.trans (tch_45 hs hz).symm
  · rw [if_neg hs]
    have : tc t sz s = 0 := by unfold tc; rw [if_pos (by omega)]
    constructor
    · intro h; exact absurd h (by decide)
    · intro h; omega
theorem tch_42 (hs : s < sz) (hz : sz ≤ 400) : tc t sz s = 9 ↔ t s = 42 := by
  constructor
  · intro h
    rcases tc_sg (t := t) hs hz with ⟨_, _, e⟩ | ⟨_, e⟩
    · rw [e] at h
      unfold sgc at h
      by_cases k : t s = 42
      · exact k
      · rw [if_neg k] at h
        (repeat' split at h) <;> omega
    · omega
  · intro h
    rcases tc_sg (t := t) hs hz with ⟨_, _, e⟩ | ⟨e, _⟩
    · rw [e]
      unfold sgc
      rw [h]
      rfl
      
    · rcases e with e | e
      · exact absurd e (isR_f h (by decide))
      · exact absurd e (isR_f h (by decide))
theorem sg_42 (hz : sz ≤ 400) (hb : ∀ j, j < 400 → bR (t j)) : (if s < sz then t s &&& 255 else (-1 : Int32)) = 42 ↔ tc t sz s = 9 := by
  by_cases hs : s < sz
  · rw [if_pos hs]
    obtain ⟨q37, q42, q43, q45, q47, q60, q61, q62, q91, q93⟩ := sgx (hb s (by omega))
    exact q42.trans (tch_42 hs hz).symm
  · rw [if_neg hs]
    have : tc t sz s = 0 := by unfold tc; rw [if_pos (by omega)]
    constructor
    · intro h; exact absurd h (by decide)
    · intro h; omega
theorem tch_47 (hs : s < sz) (hz : sz ≤ 400) : tc t sz s = 10 ↔ t s = 47 := by
  constructor
  · intro h
    rcases tc_sg (t := t) hs hz with ⟨_, _, e⟩ | ⟨_, e⟩
    · rw [e] at h
      unfold sgc at h
      by_cases k : t s = 47
      · exact k
      · rw [if_neg k] at h
        (repeat' split at h) <;> omega
    · omega
  · intro h
    rcases tc_sg (t := t) hs hz with ⟨_, _, e⟩ | ⟨e, _⟩
    · rw [e]
      unfold sgc
      rw [h]
      rfl
      
    · rcases e with e | e
      · exact absurd e (isR_f h (by decide))
      · exact absurd e (isR_f h (by decide))
theorem sg_47 (hz : sz ≤ 400) (hb : ∀ j, j < 400 → bR (t j)) : (if s < sz then t s &&& 255 else (-1 : Int32)) = 47 ↔ tc t sz s = 10 := by
  by_cases hs : s < sz
  · rw [if_pos hs]
    obtain ⟨q37, q42, q43, q45, q47, q60, q61, q62, q91, q93⟩ := sgx (hb s (by omega))
    exact q47.trans (tch_47 hs hz).symm
  · rw [if_neg hs]
    have : tc t sz s = 0 := by unfold tc; rw [if_pos (by omega)]
    constructor
    · intro h; exact absurd h (by decide)
    · intro h; omega
theorem tch_37 (hs : s < sz) (hz : sz ≤ 400) : tc t sz s = 11 ↔ t s = 37 := by
  constructor
  · intro h
    rcases tc_sg (t := t) hs hz with ⟨_, _, e⟩ | ⟨_, e⟩
    · rw [e] at h
      unfold sgc at h
      by_cases k : t s = 37
      · exact k
      · rw [if_neg k] at h
        (repeat' split at h) <;> omega
    · omega
  · intro h
    rcases tc_sg (t := t) hs hz with ⟨_, _, e⟩ | ⟨e, _⟩
    · rw [e]
      unfold sgc
      rw [h]
      rfl
      
    · rcases e with e | e
      · exact absurd e (isR_f h (by decide))
      · exact absurd e (isR_f h (by decide))
theorem sg_37 (hz : sz ≤ 400) (hb : ∀ j, j < 400 → bR (t j)) : (if s < sz then t s &&& 255 else (-1 : Int32)) = 37 ↔ tc t sz s = 11 := by
  by_cases hs : s < sz
  · rw [if_pos hs]
    obtain ⟨q37, q42, q43, q45, q47, q60, q61, q62, q91, q93⟩ := sgx (hb s (by omega))
    exact q37.trans (tch_37 hs hz).symm
  · rw [if_neg hs]
    have : tc t sz s = 0 := by unfold tc; rw [if_pos (by omega)]
    constructor
    · intro h; exact absurd h (by decide)
    · intro h; omega
theorem tch_91 (hs : s < sz) (hz : sz ≤ 400) : tc t sz s = 5 ↔ t s = 91 := by
  constructor
  · intro h
    rcases tc_sg (t := t) hs hz with ⟨_, _, e⟩ | ⟨_, e⟩
    · rw [e] at h
      unfold sgc at h
      by_cases k : t s = 91
      · exact k
      · rw [if_neg k] at h
        (repeat' split at h) <;> omega
    · omega
  · intro h
    rcases tc_sg (t := t) hs hz with ⟨_, _, e⟩ | ⟨e, _⟩
    · rw [e]
      unfold sgc
      rw [h]
      rfl
      
    · rcases e with e | e
      · exact absurd e (isR_f h (by decide))
      · exact absurd e (isR_f h (by decide))
theorem sg_91 (hz : sz ≤ 400) (hb : ∀ j, j < 400 → bR (t j)) : (if s < sz then t s &&& 255 else (-1 : Int32)) = 91 ↔ tc t sz s = 5 := by
  by_cases hs : s < sz
  · rw [if_pos hs]
    obtain ⟨q37, q42, q43, q45, q47, q60, q61, q62, q91, q93⟩ := sgx (hb s (by omega))
    exact q91.trans (tch_91 hs hz).symm
  · rw [if_neg hs]
    have : tc t sz s = 0 := by unfold tc; rw [if_pos (by omega)]
    constructor
    · intro h; exact absurd h (by decide)
    · intro h; omega
theorem tch_93 (hs : s < sz) (hz : sz ≤ 400) : tc t sz s = 6 ↔ t s = 93 := by
  constructor
  · intro h
    rcases tc_sg (t := t) hs hz with ⟨_, _, e⟩ | ⟨_, e⟩
    · rw [e] at h
      unfold sgc at h
      by_cases k : t s = 93
      · exact k
      · rw [if_neg k] at h
        (repeat' split at h) <;> omega
    · omega
  · intro h
    rcases tc_sg (t := t) hs hz with ⟨_, _, e⟩ | ⟨e, _⟩
    · rw [e]
      unfold sgc
      rw [h]
      rfl
      
    · rcases e with e | e
      · exact absurd e (isR_f h (by decide))
      · exact absurd e (isR_f h (by decide))
theorem sg_93 (hz : sz ≤ 400) (hb : ∀ j, j < 400 → bR (t j)) : (if s < sz then t s &&& 255 else (-1 : Int32)) = 93 ↔ tc t sz s = 6 := by
  by_cases hs : s < sz
  · rw [if_pos hs]
    obtain ⟨q37, q42, q43, q45, q47, q60, q61, q62, q91, q93⟩ := sgx (hb s (by omega))
    exact q93.trans (tch_93 hs hz).symm
  · rw [if_neg hs]
    have : tc t sz s = 0 := by unfold tc; rw [if_pos (by omega)]
    constructor
    · intro h; exact absurd h (by decide)
    · intro h; omega
theorem tch_60 (hs : s < sz) (hz : sz ≤ 400) : (tc t sz s = 12 ∨ tc t sz s = 13) ↔ t s = 60 := by
  constructor
  · intro h
    rcases tc_sg (t := t) hs hz with ⟨_, _, e⟩ | ⟨_, e⟩
    · rw [e] at h
      unfold sgc at h
      by_cases k : t s = 60
      · exact k
      · rw [if_neg k] at h
        (repeat' split at h) <;> omega
    · omega
  · intro h
    rcases tc_sg (t := t) hs hz with ⟨_, _, e⟩ | ⟨e, _⟩
    · rw [e]
      unfold sgc
      rw [h]
      simp only [show ¬ (60 : Int32) = 37 by decide, show ¬ (60 : Int32) = 42 by decide, show ¬ (60 : Int32) = 43 by decide, show ¬ (60 : Int32) = 45 by decide, show ¬ (60 : Int32) = 47 by decide, show ¬ (60 : Int32) = 59 by decide, if_true, if_false]
      split <;> omega
    · rcases e with e | e
      · exact absurd e (isR_f h (by decide))
      · exact absurd e (isR_f h (by decide))
theorem sg_60 (hz : sz ≤ 400) (hb : ∀ j, j < 400 → bR (t j)) : (if s < sz then t s &&& 255 else (-1 : Int32)) = 60 ↔ (tc t sz s = 12 ∨ tc t sz s = 13) := by
  by_cases hs : s < sz
  · rw [if_pos hs]
    obtain ⟨q37, q42, q43, q45, q47, q60, q61, q62, q91, q93⟩ := sgx (hb s (by omega))
    exact q60.trans (tch_60 hs hz).symm
  · rw [if_neg hs]
    have : tc t sz s = 0 := by unfold tc; rw [if_pos (by omega)]
    constructor
    · intro h; exact absurd h (by decide)
    · intro h; omega
theorem tch_61 (hs : s < sz) (hz : sz ≤ 400) : tc t sz s = 14 ↔ t s = 61 := by
  constructor
  · intro h
    rcases tc_sg (t := t) hs hz with ⟨_, _, e⟩ | ⟨_, e⟩
    · rw [e] at h
      unfold sgc at h
      by_cases k : t s = 61
      · exact k
      · rw [if_neg k] at h
        (repeat' split at h) <;> omega
    · omega
  · intro h
    rcases tc_sg (t := t) hs hz with ⟨_, _, e⟩ | ⟨e, _⟩
    · rw [e]
      unfold sgc
      rw [h]
      rfl
      
    · rcases e with e | e
      · exact absurd e (isR_f h (by decide))
      · exact absurd e (isR_f h (by decide))
theorem sg_61 (hz : sz ≤ 400) (hb : ∀ j, j < 400 → bR (t j)) : (if s < sz then t s &&& 255 else (-1 : Int32)) = 61 ↔ tc t sz s = 14 := by
  by_cases hs : s < sz
  · rw [if_pos hs]
    obtain ⟨q37, q42, q43, q45, q47, q60, q61, q62, q91, q93⟩ := sgx (hb s (by omega))
    exact q61.trans (tch_61 hs hz).symm
  · rw [if_neg hs]
    have : tc t sz s = 0 := by unfold tc; rw [if_pos (by omega)]
    constructor
    · intro h; exact absurd h (by decide)
    · intro h; omega
theorem tch_62 (hs : s < sz) (hz : sz ≤ 400) : (tc t sz s = 15 ∨ tc t sz s = 16) ↔ t s = 62 := by
  constructor
  · intro h
    rcases tc_sg (t := t) hs hz with ⟨_, _, e⟩ | ⟨_, e⟩
    · rw [e] at h
      unfold sgc at h
      by_cases k : t s = 62
      · exact k
      · rw [if_neg k] at h
        (repeat' split at h) <;> omega
    · omega
  · intro h
    rcases tc_sg (t := t) hs hz with ⟨_, _, e⟩ | ⟨e, _⟩
    · rw [e]
      unfold sgc
      rw [h]
      simp only [show ¬ (62 : Int32) = 37 by decide, show ¬ (62 : Int32) = 42 by decide, show ¬ (62 : Int32) = 43 by decide, show ¬ (62 : Int32) = 45 by decide, show ¬ (62 : Int32) = 47 by decide, show ¬ (62 : Int32) = 59 by decide, show ¬ (62 : Int32) = 60 by decide, show ¬ (62 : Int32) = 61 by decide, if_true, if_false]
      split <;> omega
    · rcases e with e | e
      · exact absurd e (isR_f h (by decide))
      · exact absurd e (isR_f h (by decide))
theorem sg_62 (hz : sz ≤ 400) (hb : ∀ j, j < 400 → bR (t j)) : (if s < sz then t s &&& 255 else (-1 : Int32)) = 62 ↔ (tc t sz s = 15 ∨ tc t sz s = 16) := by
  by_cases hs : s < sz
  · rw [if_pos hs]
    obtain ⟨q37, q42, q43, q45, q47, q60, q61, q62, q91, q93⟩ := sgx (hb s (by omega))
    exact q62.trans (tch_62 hs hz).symm
  · rw [if_neg hs]
    have : tc t sz s = 0 := by unfold tc; rw [if_pos (by omega)]
    constructor
    · intro h; exact absurd h (by decide)
    · intro h; omega
theorem nx_sign (hs : s < sz) (hz : sz ≤ 400) (h : 4 ≤ tc t sz s) (h2 : tc t sz s ≤ 16) : nx t sz s = if tc t sz s = 13 ∨ tc t sz s = 15 then s + 2 else s + 1 := by
  rcases tc_sg (t := t) hs hz with ⟨e1, e2, e⟩ | ⟨_, e⟩
  · unfold nx
    rw [e1, if_neg (by omega), e2, if_neg (by omega), e]
  · omega
end SIGNS

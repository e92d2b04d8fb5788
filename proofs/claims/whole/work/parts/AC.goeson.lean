section GOON
variable {x1 x3 x4 x5 x74 x91 t : Nat → Int32} {sz c i p : Nat}
theorem sg59_tab : ∀ k, k < 256 → ((nI k - nI 128) &&& 255 = 59 ↔ nI k - nI 128 = 59) := by decide +kernel
theorem sg59 {x : Int32} (h : bR x) : (x &&& 255 = 59 ↔ x = 59) := by
  obtain ⟨k, hk, rfl⟩ := bR_cases h
  exact sg59_tab k hk
theorem run_no {s : Nat} {lo hi : Int32} (h : s < sz) (hn : isR t lo hi s = false) : rn (isR t lo hi) (sz - s) s = s := by
  rw [show sz - s = (sz - (s + 1)) + 1 by omega]
  show (if isR t lo hi s = true then _ else _) = _
  rw [hn, if_neg Bool.false_ne_true]
theorem tc_semi {s : Nat} (hs : s < sz) (hz : sz ≤ 400) : (tc t sz s = 4 ↔ t s = 59) ∧ (t s = 59 → nx t sz s = s + 1) ∧ tc t sz s ≠ 0 := by
  have r2 := rl_le (t := t) (show s ≤ sz by omega)
  have sg : t s = 59 → sgc t sz s = 4 := fun e => by unfold sgc; rw [e]; rfl
  have n1 : t s = 59 → rd t sz s = s := fun e => run_no hs (by unfold isR; rw [e]; decide)
  have n2 : t s = 59 → rl t sz s = s := fun e => run_no hs (by unfold isR; rw [e]; decide)
  refine ⟨⟨fun e => ?_, fun e => ?_⟩, fun e => ?_, ?_⟩
  · unfold tc at e
    rw [if_neg (by omega)] at e
    by_cases a : s < rd t sz s
    · rw [if_pos a] at e; split at e <;> omega
    · rw [if_neg a] at e
      by_cases b : s < rl t sz s
      · rw [if_pos b] at e
        rcases wc_is (t := t) hz r2.1 r2.2 with ⟨w, _, e2, _⟩ | ⟨e2, _⟩ <;> omega
      · rw [if_neg b] at e
        unfold sgc at e
        by_cases k : t s = 59
        · exact k
        · rw [if_neg k] at e
          (repeat' split at e) <;> omega
  · unfold tc
    rw [if_neg (by omega), n1 e, if_neg (by omega), n2 e, if_neg (by omega)]
    exact sg e
  · unfold nx
    rw [n1 e, if_neg (by omega), n2 e, if_neg (by omega), sg e, if_neg (by omega)]
  · unfold tc
    rw [if_neg (by omega)]
    by_cases a : s < rd t sz s
    · rw [if_pos a]; split <;> omega
    · rw [if_neg a]
      by_cases b : s < rl t sz s
      · rw [if_pos b]
        rcases wc_is (t := t) hz r2.1 r2.2 with ⟨w, _, e2, _⟩ | ⟨e2, _⟩ <;> omega
      · rw [if_neg b]
        unfold sgc
        (repeat' split) <;> omega
end GOON

section GOON
variable {x1 x3 x4 x5 x74 x91 t : Nat → Int32} {sz c i p : Nat}
theorem sg59_tab : ∀ k, k < 256 → ((nI k - nI 128) &&& 255 = 59 ↔ nI k - nI 128 = 59) := by decide +kernel
theorem sg59 {x : Int32} (h : bR x) : (x &&& 255 = 59 ↔ x = 59) := by
  obtain ⟨k, hk, rfl⟩ := bR_cases h
  exact sg59_tab k hk
theorem run_no {s : Nat} {lo hi : Int32} (h : s < sz) (hn : isR t lo hi s = false) : rn (isR t lo hi) (sz - s) s = s := by
  rw [show sz - s = (sz - (s + 1)) + 1 by omega]
  show (if isR t lo hi s = true then _ else _) = _
  rw [hn, if_neg Bool.false_ne_true]
theorem tc_semi {s : Nat} (hs : s < sz) (hz : sz ≤ 400) : (tc t sz s = 4 ↔ t s = 59) ∧ (t s = 59 → nx t sz s = s + 1) ∧ tc t sz s ≠ 0 := by
  have r2 := rl_le (t := t) (show s ≤ sz by omega)
  have sg : t s = 59 → sgc t sz s = 4 := fun e => by unfold sgc; rw [e]; rfl
  have n1 : t s = 59 → rd t sz s = s := fun e => run_no hs (by unfold isR; rw [e]; decide)
  have n2 : t s = 59 → rl t sz s = s := fun e => run_no hs (by unfold isR; rw [e]; decide)
  refine ⟨⟨fun e => ?_, fun e => ?_⟩, fun e => ?_, ?_⟩
  · unfold tc at e
    rw [if_neg (by omega)] at e
    by_cases a : s < rd t sz s
    · rw [if_pos a] at e; split at e <;> omega
    · rw [if_neg a] at e
      by_cases b : s < rl t sz s
      · rw [if_pos b] at e
        rcases wc_is (t := t) hz r2.1 r2.2 with ⟨w, _, e2, _⟩ | ⟨e2, _⟩ <;> omega
      · rw [if_neg b] at e
        unfold sgc at e
        by_cases k : t s = 59
        · exact k
        · rw [if_neg k] at e
          (repeat' split at e) <;> omega
  · unfold tc
    rw [if_neg (by omega), n1 e, if_neg (by omega), n2 e, if_neg (by omega)]
    exact sg e
  · unfold nx
    rw [n1 e, if_neg (by omega), n2 e, if_neg (by omega), sg e, if_neg (by omega)]
  · unfold tc
    rw [if_neg (by omega)]
    by_cases a : s < rd t sz s
    · rw [if_pos a]; split <;> omega
    · rw [if_neg a]
      by_cases b : s < rl t sz s
      · rw [if_pos b]
        rcases wc_is (t := t) hz r2.1 r2.2 with ⟨w, _, e2, _⟩ | ⟨e2, _⟩ <;> omega
      · rw [if_neg b]
        unfold sgc
        (repeat' split) <;> omega
/-- whether a text goes on -/
theorem r_goesOn (h : BP t sz c i p x1 x3 x4 x5 x74 x91) : (tc t sz (ts t sz i) = 4 ∧ ∃ z74, fX12_goesOn x91 x74 = some (1, z74) ∧ (∀ j, j ≠ 18 → j ≠ 19 → z74 j = x74 j) ∧ RPp t sz (nx t sz (ts t sz i)) z74 x91 ∧ ts t sz i < sz) ∨ (tc t sz (ts t sz i) = 0 ∧ ∃ z74, fX12_goesOn x91 x74 = some (0, z74) ∧ (∀ j, j ≠ 18 → j ≠ 19 → z74 j = x74 j) ∧ z74 19 = 0) ∨ (tc t sz (ts t sz i) ≠ 4 ∧ tc t sz (ts t sz i) ≠ 0 ∧ ∃ z74, fX12_goesOn x91 x74 = some (0, z74) ∧ (∀ j, j ≠ 18 → j ≠ 19 → z74 j = x74 j) ∧ z74 19 = nI (flt (ts t sz i) 0)) := by
  obtain ⟨w74, ew, w18, wf, bw⟩ := BP_blank h
  obtain ⟨_, ⟨hz, w17, _, w19, h91, hb⟩, _, _, _⟩ := id bw
  have tl := ts_le (t := t) (sz := sz) i
  unfold fX12_goesOn fX12_goesOn_0 fX12_goesOn_40 fX12_goesOn_62 fX12_goesOn_63
  rw [ew, bd1_s, if_pos w19, w17, w18]
  by_cases k : ts t sz i < sz
  · obtain ⟨s1, s2, s3⟩ := tc_semi (t := t) k hz
    rw [if_neg (nI_ge k (by omega)), p_sign hz w17 w18 (by omega) h91, bd1_s, if_pos k]
    by_cases e : t (ts t sz i) = 59
    · rw [if_pos ((sg59 (hb _ (by omega))).mpr e), if_pos w19, if_neg (nI_ge k (by omega)), gd_t (by decide), nI_1]
      refine Or.inl ⟨s1.mpr e, upd w74 18 (nI (ts t sz i + 1)), rfl, fun j a b => by rw [pk_un a]; exact wf j a, ⟨hz, w17, by rw [s2 e]; rfl, w19, h91, hb⟩, k⟩
    · have fl := flt_lt (s := ts t sz i) (k := 0) (by omega) (by omega)
      rw [if_neg (fun hh => e ((sg59 (hb _ (by omega))).mp hh)), show (0 : Int32) = nI 0 from rfl, (p_fails (x74 := w74)).1 w19, bd1_s, if_neg (show ¬ upd w74 19 (nI (flt (ts t sz i) 0)) 19 = nI 0 from ne0 (by omega) (by omega)), gd_t (by decide)]
      exact Or.inr (Or.inr ⟨fun hh => e (s1.mp hh), s3, _, rfl, fun j a b => by rw [pk_un a, pk_un b]; exact wf j a, rfl⟩)
  · have es : ts t sz i = sz := by omega
    rw [if_pos (nI_le (by omega) (by omega)), if_pos w19, if_pos (nI_le (by omega) (by omega)), gd_t (by decide)]
    exact Or.inr (Or.inl ⟨by rw [es]; exact tc_end, _, rfl, fun j a b => by rw [pk_un a]; exact wf j a, w19⟩)
end GOON

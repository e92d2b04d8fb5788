section READ
variable {x1 x3 x4 x5 t : Nat → Int32} {sz c i : Nat}
/-- the class's reading stands at token i -/
def TP (t : Nat → Int32) (sz c i : Nat) (x1 x3 x4 x5 : Nat → Int32) : Prop := sz ≤ 400 ∧ c ≤ sz ∧ ts t sz c = sz ∧ (∀ j, j < c → ts t sz j < sz) ∧ x1 1 = nI sz ∧ x1 5 = nI (c + 1) ∧ x1 6 = nI i ∧ i < 1000 ∧ TK t sz (c + 1) x3 x4 x5
theorem ts_end (h : ts t sz c = sz) : ∀ m, ts t sz (c + m) = sz
  | 0 => h
  | m + 1 => by
    have := ts_end h m
    show (if ts t sz (c + m) < sz then _ else ts t sz (c + m)) = sz
    rw [this, if_neg (Nat.lt_irrefl _)]
theorem ts_le : ∀ i, ts t sz i ≤ sz
  | 0 => (bk_le (Nat.zero_le _)).2
  | i + 1 => by
    have := ts_le i
    show (if ts t sz i < sz then _ else ts t sz i) ≤ sz
    by_cases k : ts t sz i < sz
    · rw [if_pos k]; exact (bk_le (nx_le k).2).2
    · rw [if_neg k]; exact this
theorem ts_s {i : Nat} (h : ts t sz i < sz) : ts t sz (i + 1) = bk t sz (nx t sz (ts t sz i)) := if_pos h
theorem tc_end : tc t sz sz = 0 := by unfold tc; rw [if_pos (Nat.le_refl _)]
theorem tn_end : tn t sz sz = 0 := by
  have := rd_le (t := t) (sz := sz) (s := sz) (Nat.le_refl _)
  unfold tn
  rw [if_neg (by omega)]
theorem tc_lt {s : Nat} (hz : sz ≤ 400) : tc t sz s < 37 := by
  unfold tc
  by_cases a : sz ≤ s
  · rw [if_pos a]; omega
  · rw [if_neg a]
    by_cases b : s < rd t sz s
    · rw [if_pos b]; split <;> omega
    · rw [if_neg b]
      have r2 := rl_le (t := t) (show s ≤ sz by omega)
      by_cases d : s < rl t sz s
      · rw [if_pos d]; exact WC_lt (wc_is hz r2.1 r2.2)
      · rw [if_neg d]; have := sgc_lt (t := t) (sz := sz) (s := s); omega
theorem p_code (h : TP t sz c i x1 x3 x4 x5) : fX8_code x1 x3 = some (nI (tc t sz (ts t sz i))) := by
  obtain ⟨hz, hc, hts, hlt, h1, h5, h6, hi, hk⟩ := h
  unfold fX8_code fX8_code_0
  rw [h5, h6]
  by_cases k : i < c + 1
  · rw [if_neg (nI_ge k (by omega)), gd_t (inbN (by omega) (by decide)), clN (by omega), (hk i k).1]
  · rw [if_pos (nI_le (by omega) (by omega)), show i = c + (i - c) by omega, ts_end hts, tc_end]
    rfl
theorem p_number (h : TP t sz c i x1 x3 x4 x5) : fX8_number x1 x5 = some (nI (tn t sz (ts t sz i))) := by
  obtain ⟨hz, hc, hts, hlt, h1, h5, h6, hi, hk⟩ := h
  unfold fX8_number fX8_number_0
  rw [h5, h6]
  by_cases k : i < c + 1
  · rw [if_neg (nI_ge k (by omega)), gd_t (inbN (by omega) (by decide)), clN (by omega), (hk i k).2.2]
  · rw [if_pos (nI_le (by omega) (by omega)), show i = c + (i - c) by omega, ts_end hts, tn_end]
    rfl
/-- a fault's number -/
def flt (place kind : Nat) : Nat := 1 + 8 * place + kind
theorem p_fail {kd : Nat} (h : TP t sz c i x1 x3 x4 x5) : fX8_fail x4 (nI kd) x1 = some (0, upd x1 7 (nI (flt (ts t sz i) kd))) := by
  obtain ⟨hz, hc, hts, hlt, h1, h5, h6, hi, hk⟩ := h
  have fin : ∀ s, fX8_fail_27 x4 (nI kd) (nI s) x1 = some (0, upd x1 7 (nI (flt s kd))) := fun s => by
    unfold fX8_fail_27 flt
    rw [zI1, zI8, pk_mul, nI_add, nI_add]
  unfold fX8_fail fX8_fail_0
  rw [h5, h6, h1]
  by_cases k : i < c + 1
  · rw [if_neg (nI_ge k (by omega)), gd_t (inbN (by omega) (by decide)), clN (by omega), (hk i k).2.1, fin]
  · rw [if_pos (nI_le (by omega) (by omega)), fin, show i = c + (i - c) by omega, ts_end hts]
theorem p_skip (h : TP t sz c i x1 x3 x4 x5) (hi : i < 999) : fX8_skip x1 = some (upd x1 6 (nI (i + 1))) ∧ TP t sz c (i + 1) (upd x1 6 (nI (i + 1))) x3 x4 x5 := by
  obtain ⟨hz, hc, hts, hlt, h1, h5, h6, _, hk⟩ := h
  refine ⟨?_, hz, hc, hts, hlt, h1, h5, rfl, by omega, hk⟩
  unfold fX8_skip fX8_skip_0
  rw [h6, nI_1]
theorem p_take {cd : Nat} (h : TP t sz c i x1 x3 x4 x5) (hi : i < 999) (hcd : cd < 100) : (tc t sz (ts t sz i) = cd ∧ fX8_take x3 x4 (nI cd) x1 = some (1, upd x1 6 (nI (i + 1)))) ∨ (tc t sz (ts t sz i) ≠ cd ∧ fX8_take x3 x4 (nI cd) x1 = some (0, upd x1 7 (nI (flt (ts t sz i) 0)))) := by
  have h6 := h.2.2.2.2.2.2.1
  have tl := tc_lt (t := t) (s := ts t sz i) h.1
  unfold fX8_take fX8_take_0
  rw [p_code h, bd1_s]
  by_cases k : tc t sz (ts t sz i) = cd
  · refine Or.inl ⟨k, ?_⟩
    rw [if_pos (by rw [k]), h6, nI_1]
  · refine Or.inr ⟨k, ?_⟩
    rw [if_neg (fun e => k ((nI_eq (by omega) (by omega)).mp e)), show (0 : Int32) = nI 0 from rfl, p_fail h, bd2_s, gd_t (by decide)]
    rfl
theorem TP_7 {v : Int32} (h : TP t sz c i x1 x3 x4 x5) : TP t sz c i (upd x1 7 v) x3 x4 x5 := by
  obtain ⟨hz, hc, hts, hlt, h1, h5, h6, hi, hk⟩ := h
  exact ⟨hz, hc, hts, hlt, h1, h5, h6, hi, hk⟩
end READ

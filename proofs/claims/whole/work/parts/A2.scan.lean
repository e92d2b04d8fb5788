section SCAN
variable {x1 x2 x3 x4 x5 t : Nat → Int32} {sz : Nat}
/-- which word stands there -/
def wc (t : Nat → Int32) (s e : Nat) : Nat := ((fX8_wordFrom t (nI s) (nI e)).getD 0).toNatClampNeg
def WC (t : Nat → Int32) (s e c : Nat) : Prop := (∃ w, w < 20 ∧ c = 17 + w ∧ wOK w t s e) ∨ (c = 3 ∧ ∀ w, w < 20 → ¬ wOK w t s e)
theorem wo_t : ∀ w, w < 20 → fX8_wordOf (nI (17 + w)) = some w ∧ w < nStr := by decide +kernel
theorem p_wordFrom {s e : Nat} (hz : sz ≤ 400) (hse : s ≤ e) (he : e ≤ sz) (h2 : ∀ j, j < 400 → x2 j = t j) : ∃ c, fX8_wordFrom x2 (nI s) (nI e) = some (nI c) ∧ WC t s e c := by
  unfold fX8_wordFrom fX8_wordFrom_0 fX8_wordFrom_3
  refine loop3 (fX8_wordFrom_3b x2) (fun m v1 v2 v3 => ∃ i, i + m = 20 ∧ v1 = nI s ∧ v2 = nI e ∧ v3 = nI (17 + i) ∧ ∀ w, w < i → ¬ wOK w t s e) (fun o => ∃ c, o = some (nI c) ∧ WC t s e c) ?_ ?_ 20 5000 _ _ _ (by omega) ⟨0, rfl, rfl, rfl, rfl, fun w hw => absurd hw (by omega)⟩
  · rintro k m _ _ _ ⟨i, hi, rfl, rfl, rfl, h⟩
    obtain ⟨ew, hn⟩ := wo_t i (by omega)
    unfold fX8_wordFrom_3b
    rw [if_neg (show ¬ (36 : Int32) < nI (17 + i) from nI_nlt (a := 36) (by omega) (by omega)), ew, bd1_s, gd_t (decide_eq_true hn)]
    rcases p_isWord (x2 := x2) (show i < 20 by omega) hz hse he h2 with ⟨ok, e1⟩ | ⟨nok, e1⟩
    · rw [e1, bd1_s, if_neg (show ¬ nI 1 = (0 : Int32) from one_ne)]
      exact Or.inr ⟨17 + i, rfl, Or.inl ⟨i, by omega, rfl, ok⟩⟩
    · rw [e1, bd1_s, if_pos z00, bn_s, nI_1]
      refine Or.inl ⟨nI s, nI e, nI (17 + i + 1), ⟨i + 1, by omega, rfl, rfl, rfl, fun w hw => ?_⟩, rfl⟩
      by_cases e2 : w = i
      · subst e2; exact nok
      · exact h w (by omega)
  · rintro k _ _ _ ⟨i, hi, rfl, rfl, rfl, h⟩
    have ei : i = 20 := by omega
    subst ei
    unfold fX8_wordFrom_3b
    rw [if_pos (by decide)]
    exact ⟨3, rfl, Or.inr ⟨rfl, h⟩⟩
theorem WC_uniq {s e c c' : Nat} (h : WC t s e c) (h' : WC t s e c') : c = c' := by
  rcases h with ⟨w, hw, rfl, ok⟩ | ⟨rfl, n⟩
  · rcases h' with ⟨w', hw', rfl, ok'⟩ | ⟨rfl, n'⟩
    · rw [wOK_uniq hw hw' ok ok']
    · exact absurd ok (n' w hw)
  · rcases h' with ⟨w', hw', rfl, ok'⟩ | ⟨rfl, n'⟩
    · exact absurd ok' (n w' hw')
    · rfl
theorem WC_lt {s e c : Nat} (h : WC t s e c) : c < 37 := by
  rcases h with ⟨w, hw, rfl, _⟩ | ⟨rfl, _⟩ <;> omega
theorem wc_is {s e : Nat} (hz : sz ≤ 400) (hse : s ≤ e) (he : e ≤ sz) : WC t s e (wc t s e) := by
  obtain ⟨c, e1, h⟩ := p_wordFrom (x2 := t) hz hse he (fun _ _ => rfl)
  have : wc t s e = c := by
    unfold wc
    rw [e1]
    exact nI_clamp (by have := WC_lt h; omega)
  rw [this]; exact h
theorem p_wordFrom' {s e : Nat} (hz : sz ≤ 400) (hse : s ≤ e) (he : e ≤ sz) (h2 : ∀ j, j < 400 → x2 j = t j) : fX8_wordFrom x2 (nI s) (nI e) = some (nI (wc t s e)) := by
  obtain ⟨c, e1, h⟩ := p_wordFrom (x2 := x2) hz hse he h2
  rw [e1, WC_uniq h (wc_is hz hse he)]
/-- a number -/
def dg1 (x : Int32) : Nat := x.toNatClampNeg - 48
def nmF (t : Nat → Int32) : Nat → Nat → Nat → Nat
  | 0, _, a => a
  | m + 1, s, a => nmF t m (s + 1) (a * 10 + dg1 (t s))
theorem dg_t {x : Int32} (h1 : ¬ x < 48) (h2 : ¬ 57 < x) : x = nI (48 + dg1 x) ∧ dg1 x ≤ 9 := by
  have a1 := Int32.not_lt.mp h1
  have a2 := Int32.not_lt.mp h2
  rw [Int32.le_iff_toInt_le] at a1 a2
  rw [show (48 : Int32).toInt = 48 from rfl] at a1
  rw [show (57 : Int32).toInt = 57 from rfl] at a2
  have hx : x = nI x.toInt.toNat := by rw [← Int32.toInt_inj, nI_toInt (by omega)]; omega
  have hc : x.toNatClampNeg = x.toInt.toNat := rfl
  unfold dg1
  rw [hc]
  refine ⟨?_, by omega⟩
  rw [show 48 + (x.toInt.toNat - 48) = x.toInt.toNat by omega]
  exact hx
theorem nm_step (a d : Nat) : nI a * 10 + nI (48 + d) - 48 = nI (a * 10 + d) := by
  rw [zI10, pk_mul, nI_add, show (48 : Int32) = nI 48 from rfl, nsub (by omega), show a * 10 + (48 + d) - 48 = a * 10 + d by omega]
theorem p_numberFrom {s e : Nat} (hse : s ≤ e) (he : e ≤ 400) (h2 : ∀ j, j < 400 → x2 j = t j) (hd : ∀ j, s ≤ j → j < e → isR t 48 57 j = true) : fX8_numberFrom x2 (nI s) (nI e) = some (nI (nmF t (e - s) s 0)) := by
  unfold fX8_numberFrom fX8_numberFrom_0 fX8_numberFrom_5
  refine loop3 (fX8_numberFrom_5b x2) (fun m v2 v3 v4 => ∃ i a, i + m = e ∧ s ≤ i ∧ v2 = nI e ∧ v3 = nI a ∧ v4 = nI i ∧ nmF t m i a = nmF t (e - s) s 0) (fun o => o = some (nI (nmF t (e - s) s 0))) ?_ ?_ (e - s) 5000 _ _ _ (by omega) ⟨s, 0, by omega, Nat.le_refl _, rfl, rfl, rfl, rfl⟩
  · rintro k m _ _ _ ⟨i, a, hi, hs, rfl, rfl, rfl, ea⟩
    have hdi := hd i hs (by omega)
    unfold isR at hdi
    rw [Bool.and_eq_true, decide_eq_true_eq, decide_eq_true_eq] at hdi
    obtain ⟨d1, d2⟩ := dg_t hdi.1 hdi.2
    refine Or.inl ⟨nI e, nI (a * 10 + dg1 (t i)), nI (i + 1), ⟨i + 1, a * 10 + dg1 (t i), by omega, by omega, rfl, rfl, rfl, ea⟩, ?_⟩
    unfold fX8_numberFrom_5b
    rw [if_neg (nI_ge (show i < e by omega) (by omega)), gd_t (inbN (by omega) (by decide)), bn_s, bn_s, nI_1, clN (by omega), h2 i (by omega)]
    have e2 : nI a * 10 + t i - 48 = nI (a * 10 + dg1 (t i)) := by
      have := nm_step a (dg1 (t i))
      rw [← d1] at this
      exact this
    rw [e2]
  · rintro k _ _ _ ⟨i, a, hi, hs, rfl, rfl, rfl, ea⟩
    have ea' : a = nmF t (e - s) s 0 := ea
    unfold fX8_numberFrom_5b
    rw [if_pos (nI_le (by omega) (by omega)), ea']
/-- a sign -/
def sgc (t : Nat → Int32) (sz s : Nat) : Nat := if t s = 37 then 11 else if t s = 42 then 9 else if t s = 43 then 7 else if t s = 45 then 8 else if t s = 47 then 10 else if t s = 59 then 4 else if t s = 60 then (if s + 1 < sz ∧ t (s + 1) = 61 then 13 else 12) else if t s = 61 then 14 else if t s = 62 then (if s + 1 < sz ∧ t (s + 1) = 61 then 15 else 16) else if t s = 91 then 5 else if t s = 93 then 6 else 3
theorem p_signAt {s : Nat} (hz : sz ≤ 400) (h1 : x1 1 = nI sz) (h2 : ∀ j, j < 400 → x2 j = t j) (hs : s < sz) : fX8_signAt x1 x2 (nI s) = some (nI (sgc t sz s)) := by
  have ti : ∀ (x : Int32) (c : Int), (x.toInt = c) = (x.toInt = c) := fun _ _ => rfl
  have cv : ∀ c : Int32, ((t s).toInt = c.toInt) = (t s = c) := fun c => propext Int32.toInt_inj
  have core : ∀ oe : Bool, (oe = true ↔ (s + 1 < sz ∧ t (s + 1) = 61)) → fX8_signAt_28 x1 x2 (nI s) (if oe = true then 1 else 0) = some (nI (sgc t sz s)) := by
    intro oe ho
    unfold fX8_signAt_28 fX8_signAt_181 sgc
    rw [gd_t (inbN (by omega) (by decide)), bn_s, clN (by omega), h2 s (by omega)]
    have g : ∀ c : Int32, ((t s).toInt = c.toInt) ↔ (t s = c) := fun c => Int32.toInt_inj
    by_cases k37 : t s = 37
    · rw [if_pos k37, if_pos (show (t s).toInt = 37 from (g 37).mpr k37)]; rfl
    rw [if_neg k37, if_neg (show ¬ (t s).toInt = 37 from fun h => k37 ((g 37).mp h))]
    by_cases k42 : t s = 42
    · rw [if_pos k42, if_pos (show (t s).toInt = 42 from (g 42).mpr k42)]; rfl
    rw [if_neg k42, if_neg (show ¬ (t s).toInt = 42 from fun h => k42 ((g 42).mp h))]
    by_cases k43 : t s = 43
    · rw [if_pos k43, if_pos (show (t s).toInt = 43 from (g 43).mpr k43)]; rfl
    rw [if_neg k43, if_neg (show ¬ (t s).toInt = 43 from fun h => k43 ((g 43).mp h))]
    by_cases k45 : t s = 45
    · rw [if_pos k45, if_pos (show (t s).toInt = 45 from (g 45).mpr k45)]; rfl
    rw [if_neg k45, if_neg (show ¬ (t s).toInt = 45 from fun h => k45 ((g 45).mp h))]
    by_cases k47 : t s = 47
    · rw [if_pos k47, if_pos (show (t s).toInt = 47 from (g 47).mpr k47)]; rfl
    rw [if_neg k47, if_neg (show ¬ (t s).toInt = 47 from fun h => k47 ((g 47).mp h))]
    by_cases k59 : t s = 59
    · rw [if_pos k59, if_pos (show (t s).toInt = 59 from (g 59).mpr k59)]; rfl
    rw [if_neg k59, if_neg (show ¬ (t s).toInt = 59 from fun h => k59 ((g 59).mp h))]
    by_cases k60 : t s = 60
    · rw [if_pos k60, if_pos (show (t s).toInt = 60 from (g 60).mpr k60)]
      cases oe with
      | true => rw [if_pos rfl, if_neg one_ne, if_pos (ho.mp rfl)]; rfl
      | false => rw [if_neg Bool.false_ne_true, if_pos rfl, if_neg (fun h => Bool.false_ne_true (ho.mpr h))]; rfl
    rw [if_neg k60, if_neg (show ¬ (t s).toInt = 60 from fun h => k60 ((g 60).mp h))]
    by_cases k61 : t s = 61
    · rw [if_pos k61, if_pos (show (t s).toInt = 61 from (g 61).mpr k61)]; rfl
    rw [if_neg k61, if_neg (show ¬ (t s).toInt = 61 from fun h => k61 ((g 61).mp h))]
    by_cases k62 : t s = 62
    · rw [if_pos k62, if_pos (show (t s).toInt = 62 from (g 62).mpr k62)]
      cases oe with
      | true => rw [if_pos rfl, if_neg one_ne, if_pos (ho.mp rfl)]; rfl
      | false => rw [if_neg Bool.false_ne_true, if_pos rfl, if_neg (fun h => Bool.false_ne_true (ho.mpr h))]; rfl
    rw [if_neg k62, if_neg (show ¬ (t s).toInt = 62 from fun h => k62 ((g 62).mp h))]
    by_cases k91 : t s = 91
    · rw [if_pos k91, if_pos (show (t s).toInt = 91 from (g 91).mpr k91)]; rfl
    rw [if_neg k91, if_neg (show ¬ (t s).toInt = 91 from fun h => k91 ((g 91).mp h))]
    by_cases k93 : t s = 93
    · rw [if_pos k93, if_pos (show (t s).toInt = 93 from (g 93).mpr k93)]; rfl
    rw [if_neg k93, if_neg (show ¬ (t s).toInt = 93 from fun h => k93 ((g 93).mp h))]
    rfl
  unfold fX8_signAt fX8_signAt_0 fX8_signAt_27
  rw [h1, nI_1]
  by_cases c : sz ≤ s + 1
  · rw [if_pos (nI_le c (by omega))]
    exact core false ⟨fun h => absurd h Bool.false_ne_true, fun h => absurd h.1 (by omega)⟩
  · rw [if_neg (nI_ge (by omega) (by omega)), gd_t (inbN (by omega) (by decide)), clN (by omega), h2 (s + 1) (by omega)]
    by_cases c2 : t (s + 1) = 61
    · rw [if_pos c2]
      exact core true ⟨fun _ => ⟨by omega, c2⟩, fun _ => rfl⟩
    · rw [if_neg c2]
      exact core false ⟨fun h => absurd h Bool.false_ne_true, fun h => absurd h.2 c2⟩
end SCAN

section TOKS
variable {x1 x2 x3 x4 x5 t : Nat → Int32} {sz : Nat}
/-- what stands at a place: its code, its number, what is behind it -/
def tc (t : Nat → Int32) (sz s : Nat) : Nat := if sz ≤ s then 0 else if s < rd t sz s then (if rd t sz s - s ≤ 5 then 1 else 2) else if s < rl t sz s then wc t s (rl t sz s) else sgc t sz s
def tn (t : Nat → Int32) (sz s : Nat) : Nat := if s < rd t sz s ∧ rd t sz s - s ≤ 5 then nmF t (rd t sz s - s) s 0 else 0
def nx (t : Nat → Int32) (sz s : Nat) : Nat := if s < rd t sz s then rd t sz s else if s < rl t sz s then rl t sz s else if sgc t sz s = 13 ∨ sgc t sz s = 15 then s + 2 else s + 1
def ts (t : Nat → Int32) (sz : Nat) : Nat → Nat
  | 0 => bk t sz 0
  | i + 1 => if ts t sz i < sz then bk t sz (nx t sz (ts t sz i)) else ts t sz i
theorem rd_le {s : Nat} (h : s ≤ sz) : s ≤ rd t sz s ∧ rd t sz s ≤ sz := by
  have := rn_ge (P := isR t 48 57) (sz - s) s
  unfold rd
  omega
theorem rl_le {s : Nat} (h : s ≤ sz) : s ≤ rl t sz s ∧ rl t sz s ≤ sz := by
  have := rn_ge (P := isR t 97 122) (sz - s) s
  unfold rl
  omega
theorem bk_le {s : Nat} (h : s ≤ sz) : s ≤ bk t sz s ∧ bk t sz s ≤ sz := by
  have := rn_ge (P := fun j => decide (t j = 32)) (sz - s) s
  unfold bk
  omega
theorem sgc_2 {s : Nat} (h : sgc t sz s = 13 ∨ sgc t sz s = 15) : s + 1 < sz := by
  unfold sgc at h
  by_cases c : s + 1 < sz ∧ t (s + 1) = 61
  · exact c.1
  · rw [if_neg c, if_neg c] at h
    (repeat' split at h) <;> omega
theorem sgc_lt {s : Nat} : sgc t sz s < 20 := by
  unfold sgc
  (repeat' split) <;> omega
theorem nx_le {s : Nat} (h : s < sz) : s < nx t sz s ∧ nx t sz s ≤ sz := by
  have h1 := rd_le (t := t) (show s ≤ sz by omega)
  have h2 := rl_le (t := t) (show s ≤ sz by omega)
  unfold nx
  by_cases c1 : s < rd t sz s
  · rw [if_pos c1]; omega
  · rw [if_neg c1]
    by_cases c2 : s < rl t sz s
    · rw [if_pos c2]; omega
    · rw [if_neg c2]
      by_cases c3 : sgc t sz s = 13 ∨ sgc t sz s = 15
      · rw [if_pos c3]
        have := sgc_2 c3
        omega
      · rw [if_neg c3]; omega
theorem bk_blank {s : Nat} (h : s < sz) (hb : t s = 32) : bk t sz s = bk t sz (s + 1) := by
  unfold bk
  rw [show sz - s = (sz - (s + 1)) + 1 by omega]
  show (if decide (t s = 32) = true then _ else _) = _
  rw [if_pos (decide_eq_true hb)]
theorem bk_not {s : Nat} (h : s < sz) (hb : t s ≠ 32) : bk t sz s = s := by
  unfold bk
  rw [show sz - s = (sz - (s + 1)) + 1 by omega]
  show (if decide (t s = 32) = true then _ else _) = _
  rw [if_neg (by simpa using hb)]
theorem bk_end {s : Nat} (h : sz ≤ s) : bk t sz s = s := by
  unfold bk
  rw [show sz - s = 0 by omega]
  rfl
theorem p_add {c s n : Int32} {i : Nat} (h5 : x1 5 = nI i) (hi : i ≤ 400) : fX8_add c s n x1 x3 x4 x5 = some (upd x1 5 (nI (i + 1)), upd x3 i c, upd x4 i s, upd x5 i n) := by
  unfold fX8_add fX8_add_0
  rw [h5, if_neg (show ¬ Int32.ofNat 401 ≤ nI i from nI_ge (b := 401) (by omega) (by omega)), gd_t (inbN (by omega) (by decide)), gd_t (inbN (by omega) (by decide)), gd_t (inbN (by omega) (by decide)), clN (by omega), nI_1]
theorem p_scanOne {s i : Nat} (hz : sz ≤ 400) (h1 : x1 1 = nI sz) (h5 : x1 5 = nI i) (hi : i ≤ 400) (h2 : ∀ j, j < 400 → x2 j = t j) (hs : s < sz) : fX8_scanOne x2 (nI s) x1 x3 x4 x5 = some (nI (nx t sz s), upd x1 5 (nI (i + 1)), upd x3 i (nI (tc t sz s)), upd x4 i (nI s), upd x5 i (nI (tn t sz s))) := by
  have e1 : fX8_behindRun x1 x2 (nI s) 48 57 = some (nI (rd t sz s)) := p_behind hz h1 h2 (by omega)
  have e2 : fX8_behindRun x1 x2 (nI s) 97 122 = some (nI (rl t sz s)) := p_behind hz h1 h2 (by omega)
  have r1 := rd_le (t := t) (show s ≤ sz by omega)
  have r2 := rl_le (t := t) (show s ≤ sz by omega)
  unfold fX8_scanOne fX8_scanOne_0
  rw [e1, bd1_s]
  unfold tc tn nx
  rw [if_neg (show ¬ sz ≤ s by omega)]
  by_cases c1 : s < rd t sz s
  · rw [if_neg (nI_ge c1 (by omega)), nsub r1.1, if_pos c1, if_pos c1]
    unfold fX8_scanOne_27 fX8_scanOne_38 fX8_scanOne_53
    by_cases c2 : rd t sz s - s ≤ 5
    · have en : fX8_numberFrom x2 (nI s) (nI (rd t sz s)) = some (nI (nmF t (rd t sz s - s) s 0)) := p_numberFrom r1.1 (by omega) h2 fun j h1 h2 => rn_in (P := isR t 48 57) (sz - s) s j h1 h2
      rw [if_neg (show ¬ (5 : Int32) < nI (rd t sz s - s) from nI_nlt (a := 5) c2 (by omega)), if_neg one_ne, if_neg one_ne, en, bd1_s, p_add h5 hi, bd4_s, if_pos c2, if_pos ⟨c1, c2⟩]
      rfl
    · rw [if_pos (show (5 : Int32) < nI (rd t sz s - s) from nI_lt (a := 5) (by omega) (by omega)), if_pos rfl, if_pos rfl, p_add h5 hi, bd4_s, if_neg c2, if_neg (fun h => c2 h.2)]
      rfl
  · rw [if_pos (nI_le (by omega) (by omega)), e2, bd1_s, if_neg c1, if_neg c1, if_neg (show ¬ (s < rd t sz s ∧ rd t sz s - s ≤ 5) from fun h => c1 h.1)]
    by_cases c2 : s < rl t sz s
    · rw [if_neg (nI_ge c2 (by omega)), p_wordFrom' hz r2.1 r2.2 h2, bd1_s, p_add h5 hi, bd4_s, if_pos c2, if_pos c2]
      rfl
    · have sl := sgc_lt (t := t) (sz := sz) (s := s)
      rw [if_pos (nI_le (by omega) (by omega)), p_signAt hz h1 h2 hs, bd1_s, p_add h5 hi, bd4_s, if_neg c2, if_neg c2]
      unfold fX8_scanOne_113
      by_cases k13 : sgc t sz s = 13
      · rw [if_pos (by rw [k13]; rfl), if_pos (Or.inl k13), zI2, nI_add]
        rfl
      · rw [if_neg (fun h : nI (sgc t sz s) = (13 : Int32) => k13 ((nI_eq (b := 13) (by omega) (by omega)).mp h))]
        by_cases k15 : sgc t sz s = 15
        · rw [if_pos (by rw [k15]; rfl), if_pos (Or.inr k15), zI2, nI_add]
          rfl
        · rw [if_neg (fun h : nI (sgc t sz s) = (15 : Int32) => k15 ((nI_eq (b := 15) (by omega) (by omega)).mp h)), if_neg (fun h => h.elim k13 k15), nI_1]
          rfl
/-- the tokens laid -/
def TK (t : Nat → Int32) (sz i : Nat) (x3 x4 x5 : Nat → Int32) : Prop := ∀ j, j < i → x3 j = nI (tc t sz (ts t sz j)) ∧ x4 j = nI (ts t sz j) ∧ x5 j = nI (tn t sz (ts t sz j))
theorem TK_add {i : Nat} (h : TK t sz i x3 x4 x5) : TK t sz (i + 1) (upd x3 i (nI (tc t sz (ts t sz i)))) (upd x4 i (nI (ts t sz i))) (upd x5 i (nI (tn t sz (ts t sz i)))) := by
  intro j hj
  by_cases e : j = i
  · subst e; rw [pk_us, pk_us, pk_us]; exact ⟨rfl, rfl, rfl⟩
  · rw [pk_un e, pk_un e, pk_un e]; exact h j (by omega)
theorem p_scan (hz : sz ≤ 400) (h1 : x1 1 = nI sz) (h2 : ∀ j, j < 400 → x2 j = t j) : ∃ c z1 z3 z4 z5, fX8_scan x2 x1 x3 x4 x5 = some (z1, z3, z4, z5) ∧ c ≤ sz ∧ ts t sz c = sz ∧ (∀ j, j < c → ts t sz j < sz) ∧ z1 5 = nI (c + 1) ∧ z1 6 = 0 ∧ z1 7 = 0 ∧ (∀ j, j ≠ 5 → j ≠ 6 → j ≠ 7 → z1 j = x1 j) ∧ TK t sz (c + 1) z3 z4 z5 := by
  unfold fX8_scan fX8_scan_0 fX8_scan_9
  have fin : ∀ {i a : Nat} {w1 w3 w4 w5 : Nat → Int32}, sz ≤ a → a ≤ sz → bk t sz a = ts t sz i → i ≤ a → w1 5 = nI i → (∀ j, j ≠ 5 → w1 j = x1 j) → (∀ j, j < i → ts t sz j < sz) → TK t sz i w3 w4 w5 → ∃ c z1 z3 z4 z5, fX8_scan_53 x2 w1 w3 w4 w5 = some (z1, z3, z4, z5) ∧ c ≤ sz ∧ ts t sz c = sz ∧ (∀ j, j < c → ts t sz j < sz) ∧ z1 5 = nI (c + 1) ∧ z1 6 = 0 ∧ z1 7 = 0 ∧ (∀ j, j ≠ 5 → j ≠ 6 → j ≠ 7 → z1 j = x1 j) ∧ TK t sz (c + 1) z3 z4 z5 := by
    intro i a w1 w3 w4 w5 a1 a2 hb hia h5 hf hlt hk
    have ets : ts t sz i = sz := by rw [← hb, bk_end a1]; omega
    have k := TK_add hk
    rw [ets] at k
    have t0 : tc t sz sz = 0 := by unfold tc; rw [if_pos (Nat.le_refl _)]
    have n0 : tn t sz sz = 0 := by
      have := rd_le (t := t) (sz := sz) (s := sz) (Nat.le_refl _)
      unfold tn
      rw [if_neg (by omega)]
    rw [t0, n0] at k
    refine ⟨i, upd (upd (upd w1 5 (nI (i + 1))) 6 0) 7 0, upd w3 i (nI 0), upd w4 i (nI sz), upd w5 i (nI 0), ?_, by omega, ets, hlt, rfl, rfl, rfl, fun j j5 j6 j7 => by rw [pk_un j7, pk_un j6, pk_un j5]; exact hf j j5, k⟩
    unfold fX8_scan_53
    rw [hf 1 (by omega), h1, p_add h5 (by omega), bd4_s]
    rfl
  refine loop6 (fX8_scan_9b x2) (fun m v1 v2 w1 w3 w4 w5 => ∃ a b i, sz ≤ a + m ∧ a ≤ sz ∧ b ≤ a ∧ v1 = nI a ∧ v2 = nI b ∧ bk t sz a = ts t sz i ∧ i ≤ a ∧ w1 5 = nI i ∧ (∀ j, j ≠ 5 → w1 j = x1 j) ∧ (∀ j, j < i → ts t sz j < sz) ∧ TK t sz i w3 w4 w5) (fun o => ∃ c z1 z3 z4 z5, o = some (z1, z3, z4, z5) ∧ c ≤ sz ∧ ts t sz c = sz ∧ (∀ j, j < c → ts t sz j < sz) ∧ z1 5 = nI (c + 1) ∧ z1 6 = 0 ∧ z1 7 = 0 ∧ (∀ j, j ≠ 5 → j ≠ 6 → j ≠ 7 → z1 j = x1 j) ∧ TK t sz (c + 1) z3 z4 z5) ?_ ?_ sz 5000 _ _ _ _ _ _ (by omega) ⟨0, 0, 0, by omega, by omega, by omega, rfl, rfl, rfl, by omega, rfl, fun j hj => pk_un hj, fun j hj => absurd hj (by omega), fun j hj => absurd hj (by omega)⟩
  · rintro k m _ _ w1 w3 w4 w5 ⟨a, b, i, hm, ha, hb, rfl, rfl, hbk, hia, h5, hf, hlt, hk⟩
    have w11 : w1 1 = nI sz := (hf 1 (by omega)).trans h1
    unfold fX8_scan_9b fX8_scan_46
    by_cases c : sz ≤ a
    · refine Or.inr ?_
      obtain h := fin c ha hbk hia h5 hf hlt hk
      by_cases c4 : (400 : Int32) ≤ nI b
      · rw [if_pos c4]; exact h
      · rw [if_neg c4, w11, if_pos (nI_le c (by omega))]; exact h
    · refine Or.inl ?_
      rw [if_neg (show ¬ (400 : Int32) ≤ nI b from nI_ge (b := 400) (by omega) (by omega)), w11, if_neg (nI_ge (show a < sz by omega) (by omega)), gd_t (inbN (by omega) (by decide)), clN (by omega), h2 a (by omega)]
      by_cases c2 : t a = 32
      · rw [if_pos c2, bn_s, nI_1, nI_1]
        exact ⟨nI (a + 1), nI (b + 1), w1, w3, w4, w5, ⟨a + 1, b + 1, i, by omega, by omega, by omega, rfl, rfl, by rw [← bk_blank (by omega) c2]; exact hbk, by omega, h5, hf, hlt, hk⟩, rfl⟩
      · have ea : ts t sz i = a := by rw [← hbk, bk_not (by omega) c2]
        have nl := nx_le (t := t) (show a < sz by omega)
        rw [if_neg c2, p_scanOne hz w11 h5 (by omega) h2 (show a < sz by omega), bd5_s, bn_s, nI_1]
        have k2 := TK_add hk
        rw [ea] at k2
        refine ⟨nI (nx t sz a), nI (b + 1), _, _, _, _, ⟨nx t sz a, b + 1, i + 1, by omega, nl.2, by omega, rfl, rfl, ?_, by omega, rfl, fun j hj => by rw [pk_un hj]; exact hf j hj, fun j hj => ?_, k2⟩, rfl⟩
        · show _ = if ts t sz i < sz then bk t sz (nx t sz (ts t sz i)) else ts t sz i
          rw [ea, if_pos (by omega)]
        · by_cases e : j = i
          · subst e; omega
          · exact hlt j (by omega)
  · rintro k _ _ w1 w3 w4 w5 ⟨a, b, i, hm, ha, hb, rfl, rfl, hbk, hia, h5, hf, hlt, hk⟩
    have w11 : w1 1 = nI sz := (hf 1 (by omega)).trans h1
    obtain h := fin (show sz ≤ a by omega) ha hbk hia h5 hf hlt hk
    unfold fX8_scan_9b
    by_cases c4 : (400 : Int32) ≤ nI b
    · rw [if_pos c4]; exact h
    · rw [if_neg c4, w11, if_pos (nI_le (by omega) (by omega))]; exact h
end TOKS

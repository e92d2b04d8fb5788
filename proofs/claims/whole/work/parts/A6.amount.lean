section AMT
variable {x1 x3 x4 x5 x74 x91 t : Nat → Int32} {sz c i : Nat}
theorem p_inI (a lo hi : Int32) : fX12_in a.toInt64 lo.toInt64 hi.toInt64 = some (if a < lo then nI 0 else if hi < a then nI 0 else nI 1) := by
  unfold fX12_in fX12_in_0 fX12_in_17
  have e : ∀ x y : Int32, (x.toInt64 < y.toInt64) ↔ x < y := fun x y => by
    rw [Int64.lt_iff_toInt_lt, Int32.toInt_toInt64, Int32.toInt_toInt64, Int32.lt_iff_toInt_lt]
  by_cases k1 : a < lo
  · rw [if_pos ((lg_cmp_lt _ _).mpr ((e a lo).mpr k1)), if_pos k1]; rfl
  · rw [if_neg (fun h => k1 ((e a lo).mp ((lg_cmp_lt _ _).mp h))), if_neg k1]
    by_cases k2 : hi < a
    · rw [if_pos ((lg_cmp_gt _ _).mpr ((e hi a).mpr k2)), if_pos k2]; rfl
    · rw [if_neg (fun h => k2 ((e hi a).mp ((lg_cmp_gt _ _).mp h))), if_neg k2]; rfl
/-- what reading a number between two comes to -/
def nk (t : Nat → Int32) (sz s : Nat) (lo hi : Int32) : Option Nat := if tc t sz s = 1 then (if nI (tn t sz s) < lo ∨ hi < nI (tn t sz s) then some 1 else none) else if tc t sz s = 2 then some 1 else some 0
theorem p_readNumber {lo hi : Int32} (h : TP t sz c i x1 x3 x4 x5) (hi' : i < 999) : (nk t sz (ts t sz i) lo hi = none ∧ fX10_readNumber x3 x4 x5 lo hi x1 = some (nI (tn t sz (ts t sz i)), upd x1 6 (nI (i + 1)))) ∨ ∃ kd, kd < 2 ∧ nk t sz (ts t sz i) lo hi = some kd ∧ fX10_readNumber x3 x4 x5 lo hi x1 = some (-1, upd x1 7 (nI (flt (ts t sz i) kd))) := by
  have tl := tc_lt (t := t) (s := ts t sz i) h.1
  have f1 : fX10_readNumber_59 x3 x4 x5 x1 = some (-1, upd x1 7 (nI (flt (ts t sz i) 1))) := by
    unfold fX10_readNumber_59
    rw [zI1, p_fail h, bd2_s]
  unfold fX10_readNumber fX10_readNumber_0 fX10_readNumber_33 nk
  rw [p_code h, bd1_s]
  by_cases k1 : tc t sz (ts t sz i) = 1
  · rw [if_pos k1, if_pos (show nI (tc t sz (ts t sz i)) = (1 : Int32) by rw [k1]; rfl), bd1_s, if_neg (show ¬ nI (tc t sz (ts t sz i)) = (2 : Int32) by rw [k1]; decide), p_number h, bd1_s, p_isWithin, bd1_s]
    by_cases k2 : nI (tn t sz (ts t sz i)) < lo
    · rw [if_pos k2, if_pos rfl, if_pos (Or.inl k2), f1]
      exact Or.inr ⟨1, by omega, rfl, rfl⟩
    · rw [if_neg k2]
      by_cases k3 : hi < nI (tn t sz (ts t sz i))
      · rw [if_pos k3, if_pos rfl, if_pos (Or.inr k3), f1]
        exact Or.inr ⟨1, by omega, rfl, rfl⟩
      · rw [if_neg k3, if_neg one_ne, bd1_s, (p_skip h hi').1, bd1_s, if_neg (fun h => h.elim k2 k3)]
        exact Or.inl ⟨rfl, rfl⟩
  · rw [if_neg k1, if_neg (show ¬ nI (tc t sz (ts t sz i)) = (1 : Int32) from fun e => k1 ((nI_eq (b := 1) (by omega) (by omega)).mp e)), bd1_s]
    by_cases k2 : tc t sz (ts t sz i) = 2
    · rw [if_pos k2, if_pos (show nI (tc t sz (ts t sz i)) = (2 : Int32) by rw [k2]; rfl), bd1_s, if_pos (show nI (tc t sz (ts t sz i)) = (2 : Int32) by rw [k2]; rfl), f1]
      exact Or.inr ⟨1, by omega, rfl, rfl⟩
    · rw [if_neg k2, if_neg (show ¬ nI (tc t sz (ts t sz i)) = (2 : Int32) from fun e => k2 ((nI_eq (b := 2) (by omega) (by omega)).mp e)), show (0 : Int32) = nI 0 from rfl, p_fail h, bd2_s]
      exact Or.inr ⟨0, by omega, rfl, rfl⟩
/-- which code a place with digits has -/
theorem tc_digit {s : Nat} (hs : s ≤ sz) (hz : sz ≤ 400) : (rd t sz s = s → tc t sz s ≠ 1 ∧ tc t sz s ≠ 2) ∧ (s < rd t sz s → tc t sz s = if rd t sz s - s ≤ 5 then 1 else 2) := by
  have r1 := rd_le (t := t) hs
  constructor
  · intro e
    unfold tc
    by_cases a : sz ≤ s
    · rw [if_pos a]; omega
    · rw [if_neg a, if_neg (show ¬ s < rd t sz s by omega)]
      have r2 := rl_le (t := t) (show s ≤ sz by omega)
      by_cases d : s < rl t sz s
      · rw [if_pos d]
        rcases wc_is (t := t) hz r2.1 r2.2 with ⟨w, _, e2, _⟩ | ⟨e2, _⟩ <;> omega
      · rw [if_neg d]
        unfold sgc
        (repeat' split) <;> omega
  · intro e
    unfold tc
    rw [if_neg (by omega), if_pos e]
/-- the reference's reading stands at p, with no fault -/
def RPp (t : Nat → Int32) (sz p : Nat) (x74 x91 : Nat → Int32) : Prop := sz ≤ 400 ∧ x74 17 = nI sz ∧ x74 18 = nI p ∧ x74 19 = 0 ∧ (∀ j, j < 400 → x91 j = t j) ∧ ∀ j, j < 400 → bR (t j)
theorem p_amount {lo hi : Int32} {p s : Nat} (h : RPp t sz p x74 x91) (hp : p ≤ sz) (hs : bk t sz p = s) : ∃ v z74, fX12_amount x91 lo hi x74 = some (v, z74) ∧ (∀ j, j ≠ 18 → j ≠ 19 → z74 j = x74 j) ∧ (∃ pq, z74 18 = nI pq ∧ pq ≤ sz) ∧ ((nk t sz s lo hi = none ∧ v = nI (tn t sz s) ∧ s < sz ∧ RPp t sz (nx t sz s) z74 x91) ∨ ∃ kd, kd < 2 ∧ nk t sz s lo hi = some kd ∧ z74 19 = nI (flt s kd)) := by
  obtain ⟨hz, h17, h18, h19, h91, hb⟩ := h
  obtain ⟨w74, ew, w18, wf⟩ := p_blanks hz h17 h18 (by omega) h91 hb
  rw [hs] at w18
  have bl := bk_le (t := t) hp
  rw [hs] at bl
  have w19 : w74 19 = 0 := (wf 19 (by omega)).trans h19
  obtain ⟨v, z74, ed, zf, cases3⟩ := p_digits (x91 := x91) hz ((wf 17 (by omega)).trans h17) w18 bl.2 w19 h91 hb
  have td := tc_digit (t := t) bl.2 hz
  unfold fX12_amount fX12_amount_0
  rw [ew, bd1_s, bn_s, w18, if_pos w19, ed, bd2_s]
  unfold fX12_amount_26 nk
  have zf' : ∀ j, j ≠ 18 → j ≠ 19 → z74 j = x74 j := fun j a b => (zf j a b).trans (wf j a)
  rcases cases3 with ⟨a1, a2, a3⟩ | ⟨a1, a2, a3, a4⟩ | ⟨a1, a2, a3, a4, a5, a6⟩
  · rw [if_neg (show ¬ z74 19 = 0 from by rw [a3]; exact ne0 (by unfold flt; omega) (by unfold flt; omega)), if_neg (td.1 a1).1, if_neg (td.1 a1).2]
    exact ⟨v, z74, rfl, zf', ⟨_, a2, bl.2⟩, Or.inr ⟨0, by omega, rfl, a3⟩⟩
  · have e2 := td.2 a1
    rw [if_neg (by omega)] at e2
    rw [if_neg (show ¬ z74 19 = 0 from by rw [a4]; exact ne0 (by unfold flt; omega) (by unfold flt; omega)), if_neg (by omega), if_pos e2]
    exact ⟨v, z74, rfl, zf', ⟨_, a3, (rd_le (t := t) bl.2).2⟩, Or.inr ⟨1, by omega, rfl, a4⟩⟩
  · have e1 := td.2 a1
    rw [if_pos a2] at e1
    have r1 := rd_le (t := t) bl.2
    have enx : nx t sz s = rd t sz s := by unfold nx; rw [if_pos a1]
    rw [if_pos a6, p_inI, bd1_s, if_pos e1, a3]
    by_cases k2 : nI (tn t sz s) < lo
    · rw [if_pos k2, if_pos z00, zI1, (p_fails (x74 := z74)).1 a6, bd1_s, if_pos (Or.inl k2)]
      exact ⟨_, _, rfl, fun j a b => by rw [pk_un b]; exact zf' j a b, ⟨_, (pk_un (by omega)).trans a5, r1.2⟩, Or.inr ⟨1, by omega, rfl, pk_us⟩⟩
    · rw [if_neg k2]
      by_cases k3 : hi < nI (tn t sz s)
      · rw [if_pos k3, if_pos z00, zI1, (p_fails (x74 := z74)).1 a6, bd1_s, if_pos (Or.inr k3)]
        exact ⟨_, _, rfl, fun j a b => by rw [pk_un b]; exact zf' j a b, ⟨_, (pk_un (by omega)).trans a5, r1.2⟩, Or.inr ⟨1, by omega, rfl, pk_us⟩⟩
      · rw [if_neg k3, if_neg (show ¬ nI 1 = (0 : Int32) from one_ne), if_neg (fun h => h.elim k2 k3)]
        exact ⟨_, _, rfl, zf', ⟨_, a5, r1.2⟩, Or.inl ⟨rfl, rfl, by omega, hz, (zf' 17 (by omega) (by omega)).trans h17, by rw [enx]; exact a5, a6, h91, hb⟩⟩
end AMT

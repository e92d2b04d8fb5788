section AM2
variable {x1 x3 x4 x5 x74 x91 t : Nat → Int32} {sz c i p : Nat}
/-- both readings at one token -/
def BP (t : Nat → Int32) (sz c i p : Nat) (x1 x3 x4 x5 x74 x91 : Nat → Int32) : Prop := TP t sz c i x1 x3 x4 x5 ∧ RPp t sz p x74 x91 ∧ p ≤ sz ∧ bk t sz p = ts t sz i ∧ i ≤ c
theorem flt_lt {s k : Nat} (hs : s ≤ 400) (hk : k < 10) : 0 < flt s k ∧ flt s k < 5000 := by unfold flt; omega
theorem am2 {lo hi : Int32} (h : BP t sz c i p x1 x3 x4 x5 x74 x91) : (∃ v p' z74, v ≤ 99999 ∧ ¬ nI v < lo ∧ ¬ hi < nI v ∧ tc t sz (ts t sz i) = 1 ∧ v = tn t sz (ts t sz i) ∧ fX10_readNumber x3 x4 x5 lo hi x1 = some (nI v, upd x1 6 (nI (i + 1))) ∧ fX12_amount x91 lo hi x74 = some (nI v, z74) ∧ (∀ j, j ≠ 18 → j ≠ 19 → z74 j = x74 j) ∧ BP t sz c (i + 1) p' (upd x1 6 (nI (i + 1))) x3 x4 x5 z74 x91) ∨ ∃ F v z74, 0 < F ∧ F < 5000 ∧ fX10_readNumber x3 x4 x5 lo hi x1 = some (-1, upd x1 7 (nI F)) ∧ fX12_amount x91 lo hi x74 = some (v, z74) ∧ (∀ j, j ≠ 18 → j ≠ 19 → z74 j = x74 j) ∧ z74 19 = nI F ∧ ∃ pq, z74 18 = nI pq ∧ pq ≤ sz := by
  obtain ⟨hT, hR, hp, hb, hic⟩ := h
  have hz := hT.1
  have hc := hT.2.1
  have tl := ts_le (t := t) (sz := sz) i
  obtain ⟨v, z74, ea, zf, hpq, oc'⟩ := p_amount (lo := lo) (hi := hi) hR hp hb
  rcases p_readNumber (lo := lo) (hi := hi) hT (by omega) with ⟨k1, er⟩ | ⟨kd, kl, k1, er⟩
  · rcases oc' with ⟨_, rfl, hlt, hR'⟩ | ⟨kd, _, k2, _⟩
    · have hnk := k1
      unfold nk at hnk
      have t1 : tc t sz (ts t sz i) = 1 := by
        by_cases a : tc t sz (ts t sz i) = 1
        · exact a
        · rw [if_neg a] at hnk
          split at hnk <;> cases hnk
      rw [if_pos t1] at hnk
      have w : ¬ (nI (tn t sz (ts t sz i)) < lo ∨ hi < nI (tn t sz (ts t sz i))) := fun hh => by rw [if_pos hh] at hnk; cases hnk
      have hic' : i + 1 ≤ c := by
        by_cases e : i = c
        · rw [e, hT.2.2.1] at hlt; omega
        · omega
      have n5 : tn t sz (ts t sz i) ≤ 99999 := by
        unfold tn
        by_cases k : ts t sz i < rd t sz (ts t sz i) ∧ rd t sz (ts t sz i) - ts t sz i ≤ 5
        · rw [if_pos k]
          exact nmF_5 k.2 fun j h1 h2 => rn_in (P := isR t 48 57) (sz - ts t sz i) (ts t sz i) j h1 (by have := k.1; unfold rd at h2 k; omega)
        · rw [if_neg k]; omega
      refine Or.inl ⟨_, nx t sz (ts t sz i), z74, n5, fun hh => w (Or.inl hh), fun hh => w (Or.inr hh), t1, rfl, er, ea, zf, (p_skip hT (by omega)).2, hR', (nx_le hlt).2, (ts_s hlt).symm, hic'⟩
    · rw [k1] at k2; cases k2
  · rcases oc' with ⟨k2, _⟩ | ⟨kd', _, k2, z19⟩
    · rw [k1] at k2; cases k2
    · rw [k1] at k2
      cases k2
      have fl := flt_lt (s := ts t sz i) (k := kd) (by omega) (by omega)
      exact Or.inr ⟨_, v, z74, fl.1, fl.2, er, ea, zf, z19, hpq⟩
/-- behind a fault the reference reads nothing -/
theorem p_amountF {lo hi : Int32} (hz : sz ≤ 400) (h17 : x74 17 = nI sz) (h18 : x74 18 = nI p) (hp : p < 1000) (h19 : x74 19 ≠ 0) (h91 : ∀ j, j < 400 → x91 j = t j) (hb : ∀ j, j < 400 → bR (t j)) : ∃ q z74, fX12_amount x91 lo hi x74 = some (0, z74) ∧ (∀ j, j ≠ 18 → z74 j = x74 j) ∧ z74 18 = nI q ∧ q < 1000 := by
  obtain ⟨w74, ew, w18, wf⟩ := p_blanks hz h17 h18 hp h91 hb
  have w19 : ¬ w74 19 = 0 := by rw [wf 19 (by omega)]; exact h19
  refine ⟨bk t sz p, w74, ?_, wf, w18, ?_⟩
  · unfold fX12_amount fX12_amount_0
    rw [ew, bd1_s, bn_s, if_neg w19]
    unfold fX12_amount_26
    rw [if_neg w19]
  · by_cases k : p ≤ sz
    · have := (bk_le (t := t) k).2; omega
    · rw [bk_end (by omega)]; exact hp
end AM2

section JOIN
variable {x1 x3 x4 x5 x7 x12 x74 x86 x87 x88 x89 x90 x91 t : Nat → Int32} {sz c i p M : Nat}
theorem bk_bk {s : Nat} (h : s ≤ sz) : bk t sz (bk t sz s) = bk t sz s := by
  have b := bk_le (t := t) h
  by_cases k : bk t sz s < sz
  · refine bk_not k ?_
    rcases rn_end (P := fun j => decide (t j = 32)) (sz - s) s with e | e
    · have : bk t sz s = s + (sz - s) := e
      omega
    · exact of_decide_eq_false e
  · exact bk_end (by omega)
theorem BP_blank (h : BP t sz c i p x1 x3 x4 x5 x74 x91) : ∃ w74, fX12_blanks x91 x74 = some w74 ∧ w74 18 = nI (ts t sz i) ∧ (∀ j, j ≠ 18 → w74 j = x74 j) ∧ BP t sz c i (ts t sz i) x1 x3 x4 x5 w74 x91 := by
  obtain ⟨hT, ⟨hz, h17, h18, h19, h91, hb⟩, hp, hbk, hic⟩ := h
  obtain ⟨w74, ew, w18, wf⟩ := p_blanks hz h17 h18 (by omega) h91 hb
  rw [hbk] at w18
  refine ⟨w74, ew, w18, wf, hT, ⟨hz, (wf 17 (by omega)).trans h17, w18, (wf 19 (by omega)).trans h19, h91, hb⟩, ts_le i, ?_, hic⟩
  rw [← hbk]; exact bk_bk hp
end JOIN

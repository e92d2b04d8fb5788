section TWORD
variable {x1 x3 x4 x5 x74 x86 x87 x88 x89 x90 x91 t : Nat → Int32} {sz c i p : Nat}
theorem rl_nil {s : Nat} (h : sz ≤ s) : rl t sz s = s := by
  unfold rl
  rw [show sz - s = 0 by omega]
  rfl
theorem rl_dig {s : Nat} (hs : s < sz) (h : s < rd t sz s) : rl t sz s = s := by
  have hd := rn_in (P := isR t 48 57) (sz - s) s s (Nat.le_refl _) h
  refine run_no hs ?_
  obtain ⟨h9, e⟩ := dg1_9 hd
  unfold isR
  rw [e, decide_eq_false (show ¬ ¬ nI (48 + dg1 (t s)) < 97 from fun hh => hh (nI_lt (b := 97) (by omega) (by omega)))]
  rfl
theorem sgc_17 {s : Nat} : sgc t sz s < 17 := by
  unfold sgc
  (repeat' split) <;> omega
/-- a word's code -/
theorem tc_word {s w : Nat} (hz : sz ≤ 400) (hs : s ≤ sz) (hw : w < 20) : tc t sz s = 17 + w ↔ wOK w t s (rl t sz s) := by
  obtain ⟨_, _, l0⟩ := slen_w w hw
  unfold tc
  by_cases a : sz ≤ s
  · rw [if_pos a, rl_nil a]
    constructor
    · intro h; omega
    · intro h; have := h.1; omega
  · rw [if_neg a]
    by_cases b : s < rd t sz s
    · rw [if_pos b, rl_dig (by omega) b]
      constructor
      · intro h; split at h <;> omega
      · intro h; have := h.1; omega
    · rw [if_neg b]
      have r2 := rl_le (t := t) (show s ≤ sz by omega)
      by_cases d : s < rl t sz s
      · rw [if_pos d]
        rcases wc_is (t := t) hz r2.1 r2.2 with ⟨w', hw', e, ok⟩ | ⟨e, no⟩
        · constructor
          · intro h
            have : w' = w := by omega
            rw [← this]; exact ok
          · intro h
            rw [e, wOK_uniq hw' hw ok h]
        · constructor
          · intro h; omega
          · intro h; exact absurd h (no w hw)
      · rw [if_neg d]
        constructor
        · intro h; have := sgc_17 (t := t) (sz := sz) (s := s); omega
        · intro h; have := h.1; omega
theorem nx_word {s w : Nat} (hz : sz ≤ 400) (hs : s ≤ sz) (hw : w < 20) (h : tc t sz s = 17 + w) : s < sz ∧ nx t sz s = s + wlen w := by
  obtain ⟨_, _, l0⟩ := slen_w w hw
  have ok := (tc_word hz hs hw).mp h
  have ok1 := ok.1
  have r2 := rl_le (t := t) hs
  have a : s < sz := by omega
  refine ⟨a, ?_⟩
  have b : ¬ s < rd t sz s := fun b => by rw [rl_dig a b] at ok1; omega
  unfold nx
  rw [if_neg b, if_pos (by omega)]
  omega
/-- both readings go on behind a token -/
theorem BP_next {z74 : Nat → Int32} (h : BP t sz c i p x1 x3 x4 x5 x74 x91) (hlt : ts t sz i < sz) (h17 : z74 17 = x74 17) (h19 : z74 19 = x74 19) (h18 : z74 18 = nI (nx t sz (ts t sz i))) : BP t sz c (i + 1) (nx t sz (ts t sz i)) (upd x1 6 (nI (i + 1))) x3 x4 x5 z74 x91 := by
  obtain ⟨hT, ⟨hz, a17, a18, a19, h91, hb⟩, hp, hbk, hic⟩ := h
  have hc := hT.2.1
  have hic' : i + 1 ≤ c := by
    by_cases e : i = c
    · rw [e, hT.2.2.1] at hlt; omega
    · omega
  exact ⟨(p_skip hT (by omega)).2, ⟨hz, h17.trans a17, h18, h19.trans a19, h91, hb⟩, (nx_le hlt).2, (ts_s hlt).symm, hic'⟩
theorem BP_word {w : Nat} (h : BP t sz c i (ts t sz i) x1 x3 x4 x5 x74 x91) (hw : w < 20) (hc : tc t sz (ts t sz i) = 17 + w) : BP t sz c (i + 1) (nx t sz (ts t sz i)) (upd x1 6 (nI (i + 1))) x3 x4 x5 (upd x74 18 (x74 18 + slen w)) x91 := by
  obtain ⟨hlt, e⟩ := nx_word h.1.1 (ts_le i) hw hc
  refine BP_next h hlt rfl rfl ?_
  rw [pk_us, h.2.1.2.2.1, (slen_w w hw).1, nI_add, e]
def tw (k : Nat) : Nat := if k = 0 then 12 else if k = 1 then 8 else if k = 2 then 13 else if k = 3 then 14 else 6
theorem tw_t : ∀ k, k < 5 → fX12_townWord (nI k) = some (tw k) ∧ tw k < nStr ∧ tw k < 20 := by decide +kernel
/-- which clause a code begins -/
def kOf (c : Nat) : Nat := if c = 29 then 0 else if c = 25 then 1 else if c = 30 then 2 else if c = 31 then 3 else if c = 23 then 4 else 5
theorem tw_step {s k : Nat} {v1 v2 : Int32} (hz : sz ≤ 400) (hs : s ≤ sz) (h17 : x74 17 = nI sz) (h18 : x74 18 = nI s) (h91 : ∀ j, j < 400 → x91 j = t j) (hk : k < 5) (kk : Int32 → Int32 → Int32 → (Nat → Int32) → (Nat → Int32) → (Nat → Int32) → (Nat → Int32) → (Nat → Int32) → (Nat → Int32) → Option ((Nat → Int32) × (Nat → Int32) × (Nat → Int32) × (Nat → Int32) × (Nat → Int32) × (Nat → Int32))) : fX12_townClause_11b x91 kk v1 v2 (nI k) x74 x86 x87 x88 x89 x90 = if tc t sz s = 17 + tw k then fX12_townClause_33 x91 v1 v2 (nI k) x74 x86 x87 x88 x89 x90 else kk v1 v2 (nI (k + 1)) x74 x86 x87 x88 x89 x90 := by
  obtain ⟨e1, e2, e3⟩ := tw_t k hk
  unfold fX12_townClause_11b
  rw [if_neg (show ¬ (5 : Int32) ≤ nI k from nI_ge (b := 5) (by omega) (by omega)), e1, bd1_s, gd_t (decide_eq_true e2)]
  rcases p_isWordAt (x74 := x74) (x91 := x91) (t := t) e3 hz h17 h18 (by omega) h91 with ⟨ok, e⟩ | ⟨no, e⟩
  · rw [e, bd1_s, if_neg (show ¬ nI 1 = (0 : Int32) from one_ne), if_pos ((tc_word hz hs e3).mpr ok)]
  · rw [e, bd1_s, if_pos z00, if_neg (fun h => no ((tc_word hz hs e3).mp h)), bn_s, nI_1]
theorem tw_all {s : Nat} {v1 v2 : Int32} (hz : sz ≤ 400) (hs : s ≤ sz) (h17 : x74 17 = nI sz) (h18 : x74 18 = nI s) (h91 : ∀ j, j < 400 → x91 j = t j) : fX12_townClause_11 x91 v1 v2 0 x74 x86 x87 x88 x89 x90 = fX12_townClause_33 x91 v1 v2 (nI (kOf (tc t sz s))) x74 x86 x87 x88 x89 x90 := by
  have st := fun n k (hk : k < 5) => (show lq9 (fX12_townClause_11b x91) (n + 1) v1 v2 (nI k) x74 x86 x87 x88 x89 x90 = _ from tw_step (x74 := x74) (x86 := x86) (x87 := x87) (x88 := x88) (x89 := x89) (x90 := x90) (v1 := v1) (v2 := v2) hz hs h17 h18 h91 hk (lq9 (fX12_townClause_11b x91) n))
  have st5 : lq9 (fX12_townClause_11b x91) 4995 v1 v2 (nI 5) x74 x86 x87 x88 x89 x90 = fX12_townClause_33 x91 v1 v2 (nI 5) x74 x86 x87 x88 x89 x90 := by
    show fX12_townClause_11b x91 (lq9 (fX12_townClause_11b x91) 4994) v1 v2 (nI 5) x74 x86 x87 x88 x89 x90 = _
    unfold fX12_townClause_11b
    rw [if_pos (by decide)]
  unfold fX12_townClause_11 kOf
  rw [show (0 : Int32) = nI 0 from rfl, st 4999 0 (by omega)]
  by_cases k0 : tc t sz s = 29
  · rw [if_pos (show tc t sz s = 17 + tw 0 from k0), if_pos k0]
  rw [if_neg (show ¬ tc t sz s = 17 + tw 0 from k0), if_neg k0, st 4998 1 (by omega)]
  by_cases k1 : tc t sz s = 25
  · rw [if_pos (show tc t sz s = 17 + tw 1 from k1), if_pos k1]
  rw [if_neg (show ¬ tc t sz s = 17 + tw 1 from k1), if_neg k1, st 4997 2 (by omega)]
  by_cases k2 : tc t sz s = 30
  · rw [if_pos (show tc t sz s = 17 + tw 2 from k2), if_pos k2]
  rw [if_neg (show ¬ tc t sz s = 17 + tw 2 from k2), if_neg k2, st 4996 3 (by omega)]
  by_cases k3 : tc t sz s = 31
  · rw [if_pos (show tc t sz s = 17 + tw 3 from k3), if_pos k3]
  rw [if_neg (show ¬ tc t sz s = 17 + tw 3 from k3), if_neg k3, st 4995 4 (by omega)]
  by_cases k4 : tc t sz s = 23
  · rw [if_pos (show tc t sz s = 17 + tw 4 from k4), if_pos k4]
  rw [if_neg (show ¬ tc t sz s = 17 + tw 4 from k4), if_neg k4, st5]
end TWORD

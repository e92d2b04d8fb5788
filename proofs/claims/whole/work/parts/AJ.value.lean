/-- both sides reading a rule: where, what is written, how much is counted -/
def RS (t : Nat → Int32) (sz c slot d e i p : Nat) (S E : List StO) (k : Nat) (x1 x3 x4 x5 x13 x14 x74 x91 x92 x93 : Nat → Int32) : Prop := BP t sz c i p x1 x3 x4 x5 x74 x91 ∧ (x13 2 = nI S.length ∧ x13 3 = nI k ∧ ES x14 S) ∧ (x74 20 = nI slot ∧ x74 22 = nI E.length ∧ x74 24 = nI k ∧ ER slot x92 x93 E ∧ x74 26 = 12) ∧ slot < 6 ∧ k ≤ 60 ∧ S.length + d ≤ i ∧ 3 * (E.length + d) + e ≤ 6 * k + ts t sz i
/-- the reference's fields that reading a rule doesn't touch; rows of the rules ahead -/
def fq74 (x z : Nat → Int32) : Prop := ∀ j, j ≠ 18 → j ≠ 19 → j ≠ 22 → j ≠ 24 → z j = x j
def fr92 (slot : Nat) (x92 x93 z92 z93 : Nat → Int32) : Prop := ∀ j, j < 300 * slot → z92 j = x92 j ∧ z93 j = x93 j
/-- the reference's fields that a fault leaves -/
def fu74 (x z : Nat → Int32) : Prop := ∀ j, j ≠ 18 → j ≠ 19 → j ≠ 22 → j ≠ 23 → j ≠ 24 → j ≠ 25 → z j = x j
/-- behind a fault -/
def RF (sz slot F : Nat) (x74 x92 x93 z74 z92 z93 : Nat → Int32) : Prop := 0 < F ∧ F < 5000 ∧ z74 19 = nI F ∧ (∃ pq, z74 18 = nI pq ∧ pq ≤ sz + 2) ∧ fu74 x74 z74 ∧ fr92 slot x92 x93 z92 z93
section VAL
variable {x1 x3 x4 x5 x13 x14 x74 x91 x92 x93 t : Nat → Int32} {sz c slot i p k : Nat} {S E : List StO}
theorem fr_refl {slot : Nat} : fr92 slot x92 x93 x92 x93 := fun _ _ => ⟨rfl, rfl⟩
theorem fr_trans {slot : Nat} {a b c' d e f : Nat → Int32} (h : fr92 slot a b c' d) (h2 : fr92 slot c' d e f) : fr92 slot a b e f := fun j hj => ⟨(h2 j hj).1.trans (h j hj).1, (h2 j hj).2.trans (h j hj).2⟩
theorem fq_trans {a b c' : Nat → Int32} (h : fq74 a b) (h2 : fq74 b c') : fq74 a c' := fun j j1 j2 j3 j4 => (h2 j j1 j2 j3 j4).trans (h j j1 j2 j3 j4)
theorem fq_fu {a b c' : Nat → Int32} (h : fq74 a b) (h2 : fu74 b c') : fu74 a c' := fun j j1 j2 j3 j4 j5 j6 => (h2 j j1 j2 j3 j4 j5 j6).trans (h j j1 j2 j3 j5)
theorem fu_trans {a b c' : Nat → Int32} (h : fu74 a b) (h2 : fu74 b c') : fu74 a c' := fun j j1 j2 j3 j4 j5 j6 => (h2 j j1 j2 j3 j4 j5 j6).trans (h j j1 j2 j3 j4 j5 j6)
theorem RF_fr {F : Nat} {y74 y92 y93 z74 z92 z93 : Nat → Int32} (h : fq74 x74 y74) (h2 : fr92 slot x92 x93 y92 y93) (hR : RF sz slot F y74 y92 y93 z74 z92 z93) : RF sz slot F x74 x92 x93 z74 z92 z93 := by
  obtain ⟨a, b, c', d, e, f⟩ := hR
  exact ⟨a, b, c', d, fq_fu h e, fr_trans h2 f⟩
theorem RF_fu {F : Nat} {y74 y92 y93 z74 z92 z93 : Nat → Int32} (h : fu74 x74 y74) (h2 : fr92 slot x92 x93 y92 y93) (hR : RF sz slot F y74 y92 y93 z74 z92 z93) : RF sz slot F x74 x92 x93 z74 z92 z93 := by
  obtain ⟨a, b, c', d, e, f⟩ := hR
  exact ⟨a, b, c', d, fu_trans h e, fr_trans h2 f⟩
/-- writing a step, an entry -/
theorem p_write {o : StO} (hv : o.1 < 64) (h2 : x13 2 = nI S.length) (hl : S.length < 412) : fX5_write (nI o.1) (nI o.2) x13 x14 = some (1, upd x13 2 (nI (S.length + 1)), upd x14 S.length (nI (64 * o.2 + o.1))) := by
  unfold fX5_write fX5_write_0
  rw [h2, if_pos (show nI S.length < Int32.ofNat 412 from nI_lt (b := 412) hl (by omega)), gd_t (inbN hl (by decide)), clN (by omega), nI_1, enc_w hv]
theorem p_entry {a b : Nat} (h19 : x74 19 = 0) (h20 : x74 20 = nI slot) (hs : slot < 6) (h22 : x74 22 = nI E.length) (hl : E.length < 300) : fX12_entry (nI a) (nI b) x74 x92 x93 = some (upd x74 22 (nI (E.length + 1)), upd x92 (300 * slot + E.length) (nI a), upd x93 (300 * slot + E.length) (nI b)) := by
  unfold fX12_entry fX12_entry_0
  rw [if_pos h19, h20, h22, show (300 : Int32) = nI 300 from rfl, pk_mul, nI_add, gd_t (inbN (by omega) (by decide)), gd_t (inbN (by omega) (by decide)), clN (by omega), nI_1]
theorem p_entryF {a b : Int32} (h19 : x74 19 ≠ 0) : fX12_entry a b x74 x92 x93 = some (x74, x92, x93) := by
  unfold fX12_entry fX12_entry_0
  rw [if_neg h19]
theorem p_countF {v : Nat} (h19 : x74 19 ≠ 0) : ∃ z, fX12_isCounted (nI v) x74 = some z ∧ ∀ j, j ≠ 24 → z j = x74 j := by
  unfold fX12_isCounted fX12_isCounted_0 fX12_isCounted_15
  by_cases q : x74 24 = 60
  · rw [if_pos q, show (3 : Int32) = nI 3 from rfl, (p_fails (x74 := x74)).2 h19, bd1_s]
    refine ⟨_, rfl, fun j hj => ?_⟩
    rw [pk_un hj]
    by_cases e : j = 19
    · subst e; exact pk_us
    · exact pk_un e
  · rw [if_neg q]
    exact ⟨_, rfl, fun j hj => pk_un hj⟩
theorem p_count {v : Nat} (h19 : x74 19 = 0) (h24 : x74 24 = nI k) (hk : k ≤ 60) : (k < 60 ∧ fX12_isCounted (nI v) x74 = some (upd x74 24 (nI (k + 1)))) ∨ (k = 60 ∧ fX12_isCounted (nI v) x74 = some (upd (upd x74 19 (nI (flt v 3))) 24 (nI (k + 1)))) := by
  unfold fX12_isCounted fX12_isCounted_0 fX12_isCounted_15
  by_cases q : k = 60
  · refine Or.inr ⟨q, ?_⟩
    rw [if_pos (by rw [h24, q]; rfl), show (3 : Int32) = nI 3 from rfl, (p_fails (x74 := x74)).1 h19, bd1_s, pk_un (by omega), h24, nI_1]
  · refine Or.inl ⟨by omega, ?_⟩
    rw [if_neg (by rw [h24]; exact fun e => q ((nI_eq (b := 60) (by omega) (by omega)).mp e)), h24, nI_1]
/-- which word of a rule stands there -/
def wk (c : Nat) : Nat := if 17 ≤ c ∧ c < 29 then c - 17 else 12
theorem rw_t : ∀ k, k < 12 → fX12_wordOf (nI k) = some k ∧ k < nStr := by decide +kernel
theorem tc_wordA {s w : Nat} (hz : sz ≤ 400) (hw : w < 20) : tc t sz s = 17 + w ↔ wOK w t s (rl t sz s) := by
  by_cases hs : s ≤ sz
  · exact tc_word hz hs hw
  · obtain ⟨_, _, l0⟩ := slen_w w hw
    constructor
    · intro h; unfold tc at h; rw [if_pos (by omega)] at h; omega
    · intro h; have := h.1; rw [rl_nil (by omega)] at this; omega
theorem p_words {s : Nat} {v1 : Int32} (hz : sz ≤ 400) (hs : s < 1000) (h17 : x74 17 = nI sz) (h18 : x74 18 = nI s) (h26 : x74 26 = 12) (h91 : ∀ j, j < 400 → x91 j = t j) : fX12_value_37 x91 v1 0 x74 x92 x93 = fX12_value_62 x91 v1 (nI (wk (tc t sz s))) x74 x92 x93 := by
  unfold fX12_value_37
  refine loop5 (fX12_value_37b x91) (fun m a b c74 c92 c93 => ∃ k, k + m = 12 ∧ v1 = a ∧ b = nI k ∧ x74 = c74 ∧ x92 = c92 ∧ x93 = c93 ∧ ∀ w, w < k → tc t sz s ≠ 17 + w) (fun o => o = fX12_value_62 x91 v1 (nI (wk (tc t sz s))) x74 x92 x93) ?_ ?_ 12 5000 _ _ _ _ _ (by omega) ⟨0, rfl, rfl, rfl, rfl, rfl, rfl, fun w hw => absurd hw (by omega)⟩
  · rintro kk m _ _ _ _ _ ⟨k, hk, rfl, rfl, rfl, rfl, rfl, hn⟩
    obtain ⟨e1, e2⟩ := rw_t k (by omega)
    unfold fX12_value_37b
    rw [h26, if_neg (show ¬ (12 : Int32) ≤ nI k from nI_ge (b := 12) (by omega) (by omega)), e1, bd1_s, gd_t (decide_eq_true e2)]
    rcases p_isWordAt (x74 := x74) (x91 := x91) (t := t) (show k < 20 by omega) hz h17 h18 (by omega) h91 with ⟨ok, e⟩ | ⟨no, e⟩
    · have ek : tc t sz s = 17 + k := (tc_wordA hz (by omega)).mpr ok
      refine Or.inr ?_
      rw [e, bd1_s, if_neg (show ¬ nI 1 = (0 : Int32) from one_ne)]
      unfold wk
      rw [ek, if_pos (by omega), show 17 + k - 17 = k by omega]
    · refine Or.inl ?_
      rw [e, bd1_s, if_pos z00, bn_s, nI_1]
      refine ⟨v1, nI (k + 1), x74, x92, x93, ⟨k + 1, by omega, rfl, rfl, rfl, rfl, rfl, fun w hw => ?_⟩, rfl⟩
      by_cases ew : w = k
      · subst ew; exact fun hh => no ((tc_wordA hz (by omega)).mp hh)
      · exact hn w (by omega)
  · rintro kk _ _ _ _ _ ⟨k, hk, rfl, rfl, rfl, rfl, rfl, hn⟩
    have ek : k = 12 := by omega
    subst ek
    unfold fX12_value_37b
    rw [h26, if_pos (by decide)]
    unfold wk
    rw [if_neg (fun hh => hn (tc t sz s - 17) (by omega) (by omega))]
/-- digits behind a fault -/
theorem p_digitsF {s : Nat} (hz : sz ≤ 400) (h17 : x74 17 = nI sz) (h18 : x74 18 = nI s) (hs : s < sz) (hd : isR t 48 57 s = true) (h19 : x74 19 ≠ 0) (h91 : ∀ j, j < 400 → x91 j = t j) (hb : ∀ j, j < 400 → bR (t j)) : ∃ v z74 q, fX12_digits x91 99999 x74 = some (v, z74) ∧ (∀ j, j ≠ 18 → z74 j = x74 j) ∧ z74 18 = nI q ∧ q ≤ sz := by
  have fin : ∀ {v1 v3 : Int32} {w74 : Nat → Int32} {p : Nat}, w74 18 = nI p → p ≤ sz → (∀ j, j ≠ 18 → w74 j = x74 j) → ∃ v z74 q, (if (5 : Int32) < w74 18 - nI s then bd1 (fX12_fails 1 (nI s) w74) fun x => some (v3, x) else if v3 ≤ v1 then some (v3, w74) else bd1 (fX12_fails 1 (nI s) w74) fun x => some (v3, x)) = some (v, z74) ∧ (∀ j, j ≠ 18 → z74 j = x74 j) ∧ z74 18 = nI q ∧ q ≤ sz := by
    intro v1 v3 w74 p a18 hp af
    have ff : fX12_fails 1 (nI s) w74 = some (upd w74 19 (w74 19)) := (p_fails (x74 := w74)).2 (by rw [af 19 (by omega)]; exact h19)
    have fz : ∀ j, j ≠ 18 → upd w74 19 (w74 19) j = x74 j := fun j hj => by
      by_cases e : j = 19
      · subst e; rw [pk_us]; exact af 19 (by omega)
      · rw [pk_un e]; exact af j hj
    rw [ff, bd1_s]
    by_cases c1 : (5 : Int32) < w74 18 - nI s
    · rw [if_pos c1]; exact ⟨_, _, p, rfl, fz, (pk_un (by omega)).trans a18, hp⟩
    · rw [if_neg c1]
      by_cases c2 : v3 ≤ v1
      · rw [if_pos c2]; exact ⟨_, _, p, rfl, af, a18, hp⟩
      · rw [if_neg c2]; exact ⟨_, _, p, rfl, fz, (pk_un (by omega)).trans a18, hp⟩
  unfold fX12_digits fX12_digits_0
  rw [p_isDigit hz h17 h18 (by omega) h91 hb, bd1_s, if_pos (show s < sz ∧ isR t 48 57 s = true from ⟨hs, hd⟩), if_neg (show ¬ nI 1 = (0 : Int32) from one_ne), bn_s, h18]
  unfold fX12_digits_25
  refine loop4 (fX12_digits_25b x91) (fun m v1 v2 v3 z74 => ∃ p, p + m = sz ∧ s ≤ p ∧ v2 = nI s ∧ z74 18 = nI p ∧ (∀ j, j ≠ 18 → z74 j = x74 j)) (fun o => ∃ v z74 q, o = some (v, z74) ∧ (∀ j, j ≠ 18 → z74 j = x74 j) ∧ z74 18 = nI q ∧ q ≤ sz) ?_ ?_ (sz - s) 5000 _ _ _ _ (by omega) ⟨s, by omega, Nat.le_refl _, rfl, h18, fun _ _ => rfl⟩
  · rintro kk m v1 _ v3 z74 ⟨p, hp, hsp, rfl, a18, af⟩
    have hdd := p_isDigit (x74 := z74) hz ((af 17 (by omega)).trans h17) a18 (by omega) h91 hb
    have hsg := p_sign (x74 := z74) hz ((af 17 (by omega)).trans h17) a18 (by omega) h91
    unfold fX12_digits_25b fX12_digits_58 fX12_digits_87
    rw [hdd, bd1_s]
    by_cases k1 : p < sz ∧ isR t 48 57 p = true
    · refine Or.inl ?_
      rw [if_pos k1, if_neg (show ¬ nI 1 = (0 : Int32) from one_ne)]
      by_cases k5 : (5 : Int32) ≤ z74 18 - nI s
      · rw [if_pos k5]
        exact ⟨_, _, _, upd z74 18 (nI (p + 1)), ⟨p + 1, by omega, by omega, rfl, rfl, fun j hj => by rw [pk_un hj]; exact af j hj⟩, by rw [a18, nI_1]⟩
      · rw [if_neg k5, hsg, bd1_s]
        exact ⟨_, _, _, upd z74 18 (nI (p + 1)), ⟨p + 1, by omega, by omega, rfl, rfl, fun j hj => by rw [pk_un hj]; exact af j hj⟩, by rw [a18, nI_1]⟩
    · refine Or.inr ?_
      rw [if_neg k1, if_pos z00]
      exact fin a18 (by omega) af
  · rintro kk v1 _ v3 z74 ⟨p, hp, hsp, rfl, a18, af⟩
    have hdd := p_isDigit (x74 := z74) hz ((af 17 (by omega)).trans h17) a18 (by omega) h91 hb
    unfold fX12_digits_25b fX12_digits_87
    rw [hdd, bd1_s, if_neg (show ¬ (p < sz ∧ isR t 48 57 p = true) from fun h => absurd h.1 (by omega)), if_pos z00]
    exact fin a18 (by omega) af
end VAL

section ANS
variable {x1 x3 x4 x5 x13 x14 x74 x91 x92 x93 x98 t : Nat → Int32} {sz c slot d e i p k n o D m : Nat} {S E L : List StO}
/-- a step of the class alone, an entry of the reference alone -/
theorem RS_opC {q : Nat} (h : RS t sz c slot (d + 1) e i p S E k x1 x3 x4 x5 x13 x14 x74 x91 x92 x93) (hq : q < 64) : fX5_write (nI q) 0 x13 x14 = some (1, upd x13 2 (nI (S.length + 1)), upd x14 S.length (nI (64 * 0 + q))) ∧ RS t sz c slot d (e + 3) i p (S ++ [(q, 0)]) E k x1 x3 x4 x5 (upd x13 2 (nI (S.length + 1))) (upd x14 S.length (nI (64 * 0 + q))) x74 x91 x92 x93 := by
  obtain ⟨hz, hc, hic, _, h300, _, h401⟩ := RS_lim h
  obtain ⟨hB, ⟨h2, h3, hES⟩, hR, hsl, hk, hS, hEk⟩ := h
  exact ⟨p_write (o := (q, 0)) hq h2 (by omega), hB, ⟨by rw [len1]; rfl, by rw [pk_un (by omega)]; exact h3, ES_add (o := (q, 0)) hES⟩, hR, hsl, hk, by rw [len1]; omega, by omega⟩
theorem RS_opR {q : Nat} (h : RS t sz c slot d (e + 3) i p S E k x1 x3 x4 x5 x13 x14 x74 x91 x92 x93) (hq : isBin q ∨ q = 36) : fX12_entry (nI (srt q)) 0 x74 x92 x93 = some (upd x74 22 (nI (E.length + 1)), upd x92 (300 * slot + E.length) (nI (srt q)), upd x93 (300 * slot + E.length) (nI 0)) ∧ RS t sz c slot d e i p S (E ++ [(q, 0)]) k x1 x3 x4 x5 x13 x14 (upd x74 22 (nI (E.length + 1))) x91 (upd x92 (300 * slot + E.length) (nI (srt q))) (upd x93 (300 * slot + E.length) (nI 0)) := by
  obtain ⟨hz, hc, hic, _, h300, _, h401⟩ := RS_lim h
  obtain ⟨hB, hC, ⟨h20, h22, h24, hE, h26⟩, hsl, hk, hS, hEk⟩ := h
  have er : rnm (q, 0) = 0 := by unfold rnm; rw [if_neg (show ¬ (17 ≤ q ∧ q ≤ 28) by unfold isBin at hq; omega)]
  have h19 : x74 19 = 0 := hB.2.1.2.2.2.1
  refine ⟨p_entry (E := E) (b := 0) h19 h20 hsl h22 h300, ?_, hC, ⟨by rw [pk_un (by omega)]; exact h20, by rw [len1]; rfl, by rw [pk_un (by omega)]; exact h24, ?_, by rw [pk_un (by omega)]; exact h26⟩, hsl, hk, hS, by rw [len1]; omega⟩
  · obtain ⟨hT, ⟨a1, a2, a3, a4, a5, a6⟩, hr⟩ := hB
    exact ⟨hT, ⟨a1, a2, a3, a4, a5, a6⟩, hr⟩
  · have := ER_add (o := (q, 0)) hE
    rw [er] at this
    exact this
theorem RS_set {z74 : FI} (h : RS t sz c slot d e i p S E k x1 x3 x4 x5 x13 x14 x74 x91 x92 x93) (hf : ∀ j, j ≠ 23 → j ≠ 25 → z74 j = x74 j) : RS t sz c slot d e i p S E k x1 x3 x4 x5 x13 x14 z74 x91 x92 x93 := by
  obtain ⟨hB, hC, ⟨h20, h22, h24, hE, h26⟩, hr⟩ := h
  obtain ⟨hT, ⟨a1, a2, a3, a4, a5, a6⟩, hr2⟩ := hB
  exact ⟨⟨hT, ⟨a1, (hf 17 (by omega) (by omega)).trans a2, (hf 18 (by omega) (by omega)).trans a3, (hf 19 (by omega) (by omega)).trans a4, a5, a6⟩, hr2⟩, hC, ⟨(hf 20 (by omega) (by omega)).trans h20, (hf 22 (by omega) (by omega)).trans h22, (hf 24 (by omega) (by omega)).trans h24, hE, (hf 26 (by omega) (by omega)).trans h26⟩, hr⟩
/-- what is on top is answered -/
theorem ans {q : Nat} (hq : isBin q ∨ q = 36) (hs16 : srt q < 16) : ∀ (m fuel : Nat) (E : List StO) (x74 x92 x93 : FI), m < fuel → RS t sz c slot d (e + 3 * m) i p S E k x1 x3 x4 x5 x13 x14 x74 x91 x92 x93 → x74 25 = nI (o + m) → x74 23 = nI (D + if q = 36 then m else 0) → D < 1000 → (∀ j, j < m → x98 (o + j) = nI (srt q)) → (o = 0 ∨ x98 (o - 1) ≠ nI (srt q)) → o + m ≤ 401 → ∃ z74 z92 z93, lq4 (fX12_answers_0b x98) fuel (nI (srt q)) x74 x92 x93 = some (z74, z92, z93) ∧ RS t sz c slot d e i p S (E ++ List.replicate m (q, 0)) k x1 x3 x4 x5 x13 x14 z74 x91 z92 z93 ∧ z74 25 = nI o ∧ z74 23 = nI D ∧ fu74 x74 z74 ∧ z74 18 = x74 18 ∧ fr92 slot x92 x93 z92 z93
  | 0, fuel + 1, E, x74, x92, x93, hf, hR, h25, h23, hD, ht, ho, hl => by
    have e23 : x74 23 = nI D := by
      rw [h23]
      split <;> rfl
    refine ⟨x74, x92, x93, ?_, by rw [List.replicate_zero, List.append_nil]; exact hR, h25, e23, fun _ _ _ _ _ _ _ => rfl, rfl, fr_refl⟩
    show fX12_answers_0b x98 (lq4 (fX12_answers_0b x98) fuel) (nI (srt q)) x74 x92 x93 = _
    unfold fX12_answers_0b fX12_top fX12_top_0
    rw [h25]
    by_cases k0 : o = 0
    · rw [if_pos (by rw [k0]; rfl), bd1_s, if_neg (fun hh => nn1 (show srt q < 2000000 by omega) hh.symm)]
    · have ho' : x98 (o - 1) ≠ nI (srt q) := ho.resolve_left k0
      rw [if_neg (ne0 (by omega) (by omega)), show (1 : Int32) = nI 1 from rfl, nsub (by omega), gd_t (inbN (by omega) (by decide)), bd1_s, clN (by omega), show o + 0 - 1 = o - 1 by omega, if_neg ho']
  | m + 1, fuel + 1, E, x74, x92, x93, hf, hR, h25, h23, hD, ht, ho, hl => by
    have h19 : x74 19 = 0 := hR.1.2.1.2.2.2.1
    have hR' : RS t sz c slot d (e + 3 * m + 3) i p S E k x1 x3 x4 x5 x13 x14 x74 x91 x92 x93 := RS_weak hR (Nat.le_refl _) (by omega)
    obtain ⟨oe, hR2⟩ := RS_opR hR' hq
    have dec : ∀ q2 : Nat, (q2 = 1 ↔ q = 36) → q2 ≤ 1 → nI (D + if q = 36 then m + 1 else 0) - nI q2 = nI (D + if q = 36 then m else 0) := fun q2 h1 h2 => by
      by_cases k36 : q = 36
      · rw [if_pos k36, if_pos k36, h1.mpr k36, nsub (by omega), show D + (m + 1) - 1 = D + m by omega]
      · rw [if_neg k36, if_neg k36, show q2 = 0 by have := mt h1.mp k36; omega, nsub (by omega)]
        rfl
    have top : fX12_top x74 x98 = some (nI (srt q)) := by
      unfold fX12_top fX12_top_0
      rw [h25, if_neg (ne0 (by omega) (by omega)), show (1 : Int32) = nI 1 from rfl, nsub (by omega), gd_t (inbN (by omega) (by decide)), clN (by omega), show o + (m + 1) - 1 = o + m by omega, ht m (by omega)]
    have s9 : (nI (srt q) = 9 ↔ q = 36) := by
      constructor
      · intro hh
        have h9 : srt q = 9 := (nI_eq (b := 9) (by omega) (by omega)).mp hh
        rcases hq with hb | h36
        · exact absurd h9 (srt_bin hb).2.2.1
        · exact h36
      · intro hh
        rw [hh]
        rfl
    have step : fX12_answers_0b x98 (lq4 (fX12_answers_0b x98) fuel) (nI (srt q)) x74 x92 x93 = lq4 (fX12_answers_0b x98) fuel (nI (srt q)) (upd (upd (upd x74 22 (nI (E.length + 1))) 25 (nI (o + m))) 23 (nI (D + if q = 36 then m else 0))) (upd x92 (300 * slot + E.length) (nI (srt q))) (upd x93 (300 * slot + E.length) (nI 0)) := by
      have e25 : upd x74 22 (nI (E.length + 1)) 25 - 1 = nI (o + m) := by
        rw [pk_un (by omega), h25, show (1 : Int32) = nI 1 from rfl, nsub (by omega), show o + (m + 1) - 1 = o + m by omega]
      unfold fX12_answers_0b fX12_answers_47
      rw [top, bd1_s, if_pos rfl, if_pos h19, oe, bd3_s, e25]
      have e23 : upd (upd x74 22 (nI (E.length + 1))) 25 (nI (o + m)) 23 = nI (D + if q = 36 then m + 1 else 0) := by rw [pk_un (by omega), pk_un (by omega)]; exact h23
      rw [e23]
      by_cases k36 : q = 36
      · rw [if_pos (s9.mpr k36), show (1 : Int32) = nI 1 from rfl, dec 1 ⟨fun _ => k36, fun _ => rfl⟩ (by omega)]
      · rw [if_neg (fun hh => k36 (s9.mp hh)), show (0 : Int32) = nI 0 from rfl, dec 0 ⟨fun hh => absurd hh (by omega), fun hh => absurd hh k36⟩ (by omega)]
    have hR3 : RS t sz c slot d (e + 3 * m) i p S (E ++ [(q, 0)]) k x1 x3 x4 x5 x13 x14 (upd (upd (upd x74 22 (nI (E.length + 1))) 25 (nI (o + m))) 23 (nI (D + if q = 36 then m else 0))) x91 (upd x92 (300 * slot + E.length) (nI (srt q))) (upd x93 (300 * slot + E.length) (nI 0)) := RS_set hR2 fun j j1 j2 => by rw [pk_un j1, pk_un j2]
    obtain ⟨z74, z92, z93, ez, hz, z25, z23, zf, z18, z9⟩ := ans hq hs16 m fuel (E ++ [(q, 0)]) _ _ _ (by omega) hR3 (by rw [pk_un (by omega), pk_us]) pk_us hD (fun j hj => ht j (by omega)) ho (by omega)
    refine ⟨z74, z92, z93, step.trans ez, ?_, z25, z23, fu_trans (fun j j1 j2 j3 j4 j5 j6 => by rw [pk_un j4, pk_un j6, pk_un j3]) zf, by rw [z18, pk_un (by omega), pk_un (by omega), pk_un (by omega)], fr_trans fr_op z9⟩
    rw [List.append_assoc] at hz
    exact hz
end ANS

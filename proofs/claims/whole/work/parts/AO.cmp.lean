section CMP
variable {x1 x3 x4 x5 x13 x14 x74 x91 x92 x93 t : Nat → Int32} {sz c slot d e i p k n s : Nat} {S E L : List StO}
theorem tcv_60 (hs : s < sz) (hz : sz ≤ 400) (h : t s = 60) : tc t sz s = if s + 1 < sz ∧ t (s + 1) = 61 then 13 else 12 := by
  rcases tc_sg (t := t) hs hz with ⟨_, _, e⟩ | ⟨e, _⟩
  · rw [e]
    unfold sgc
    rw [h]
    simp only [show ¬ (60 : Int32) = 37 by decide, show ¬ (60 : Int32) = 42 by decide, show ¬ (60 : Int32) = 43 by decide, show ¬ (60 : Int32) = 45 by decide, show ¬ (60 : Int32) = 47 by decide, show ¬ (60 : Int32) = 59 by decide, if_true, if_false]
  · rcases e with e | e
    · exact absurd e (isR_f h (by decide))
    · exact absurd e (isR_f h (by decide))
theorem tcv_62 (hs : s < sz) (hz : sz ≤ 400) (h : t s = 62) : tc t sz s = if s + 1 < sz ∧ t (s + 1) = 61 then 15 else 16 := by
  rcases tc_sg (t := t) hs hz with ⟨_, _, e⟩ | ⟨e, _⟩
  · rw [e]
    unfold sgc
    rw [h]
    simp only [show ¬ (62 : Int32) = 37 by decide, show ¬ (62 : Int32) = 42 by decide, show ¬ (62 : Int32) = 43 by decide, show ¬ (62 : Int32) = 45 by decide, show ¬ (62 : Int32) = 47 by decide, show ¬ (62 : Int32) = 59 by decide, show ¬ (62 : Int32) = 60 by decide, show ¬ (62 : Int32) = 61 by decide, if_true, if_false]
  · rcases e with e | e
    · exact absurd e (isR_f h (by decide))
    · exact absurd e (isR_f h (by decide))
/-- a comparison's sign, behind its count -/
theorem c37 {z : FI} (hz : sz ≤ 400) (hs : s < sz) (h18 : x74 18 = nI s) (h91 : ∀ j, j < 400 → x91 j = t j) (hb : ∀ j, j < 400 → bR (t j)) (hc : fX12_isCounted (nI s) x74 = some z) (z17 : z 17 = nI sz) (z18 : z 18 = nI s) {ch : Int32} (hch : ch = t s &&& 255) (hτ : t s = 60 ∨ t s = 61 ∨ t s = 62) : ∃ Z : FI, Z 18 = nI (nx t sz s) ∧ (∀ j, j ≠ 18 → Z j = z j) ∧ (12 ≤ tc t sz s ∧ tc t sz s ≤ 16) ∧ fX12_compared_37 x91 ch x74 x92 x93 = bd3 (fX12_sum x91 Z x92 x93) fun a b c => fX12_compared_139 x91 (nI (srt (tc t sz s))) a b c := by
  have e1 : z 18 + 1 = nI (s + 1) := by rw [z18, nI_1]
  have hsg := p_sign (x74 := upd z 18 (nI (s + 1))) (x91 := x91) (t := t) (p := s + 1) hz z17 pk_us (by omega) h91
  have or61 : (if s + 1 < sz then t (s + 1) &&& 255 else (-1 : Int32)) = 61 ↔ (s + 1 < sz ∧ t (s + 1) = 61) := by
    by_cases k : s + 1 < sz
    · rw [if_pos k]
      exact ⟨fun h => ⟨k, (sgx (hb _ (by omega))).2.2.2.2.2.2.1.mp h⟩, fun h => (sgx (hb _ (by omega))).2.2.2.2.2.2.1.mpr h.2⟩
    · rw [if_neg k]
      exact ⟨fun h => absurd h (by decide), fun h => absurd h.1 k⟩
  unfold fX12_compared_37
  rw [h18, hc, bd1_s, e1]
  rcases hτ with h | h | h
  · have hch' : ch = 60 := by rw [hch, h]; decide
    have τ := tcv_60 hs hz h
    rw [hch', if_neg (show ¬ (60 : Int32) = 61 by decide), hsg, bd1_s]
    by_cases k : s + 1 < sz ∧ t (s + 1) = 61
    · rw [if_pos k] at τ
      have enx := nx_sign (t := t) hs hz (by omega) (by omega)
      rw [if_pos (by omega)] at enx
      refine ⟨upd (upd z 18 (nI (s + 1))) 18 (nI (s + 2)), by rw [enx]; rfl, fun j hj => by rw [pk_un hj, pk_un hj], by omega, ?_⟩
      rw [if_pos (or61.mpr k), τ]
      unfold fX12_compared_75 fX12_compared_90
      rw [if_neg one_ne, pk_us, nI_1]
      simp only [show ¬ (60 : Int32) = 61 by decide, one_ne, if_true, if_false]
      rfl
    · rw [if_neg k] at τ
      have enx := nx_sign (t := t) hs hz (by omega) (by omega)
      rw [if_neg (by omega)] at enx
      refine ⟨upd (upd z 18 (nI (s + 1))) 18 (nI (s + 1)), by rw [enx]; rfl, fun j hj => by rw [pk_un hj, pk_un hj], by omega, ?_⟩
      rw [if_neg (fun hh => k (or61.mp hh)), τ]
      unfold fX12_compared_74 fX12_compared_75 fX12_compared_90
      rw [if_pos rfl, pk_us, show nI (s + 1) + 0 = nI (s + 1) from nI_add (s + 1) 0]
      simp only [show ¬ (60 : Int32) = 61 by decide, if_true, if_false]
      rfl
  · have hch' : ch = 61 := by rw [hch, h]; decide
    have τ := (tch_61 (t := t) hs hz).mpr h
    have enx := nx_sign (t := t) hs hz (by omega) (by omega)
    rw [if_neg (by omega)] at enx
    refine ⟨upd (upd z 18 (nI (s + 1))) 18 (nI (s + 1)), by rw [enx]; rfl, fun j hj => by rw [pk_un hj, pk_un hj], by omega, ?_⟩
    rw [hch', if_pos rfl, τ]
    unfold fX12_compared_74 fX12_compared_75 fX12_compared_90
    rw [if_pos rfl, pk_us, show nI (s + 1) + 0 = nI (s + 1) from nI_add (s + 1) 0]
    simp only [if_true]
    rfl
  · have hch' : ch = 62 := by rw [hch, h]; decide
    have τ := tcv_62 hs hz h
    rw [hch', if_neg (show ¬ (62 : Int32) = 61 by decide), hsg, bd1_s]
    by_cases k : s + 1 < sz ∧ t (s + 1) = 61
    · rw [if_pos k] at τ
      have enx := nx_sign (t := t) hs hz (by omega) (by omega)
      rw [if_pos (by omega)] at enx
      refine ⟨upd (upd z 18 (nI (s + 1))) 18 (nI (s + 2)), by rw [enx]; rfl, fun j hj => by rw [pk_un hj, pk_un hj], by omega, ?_⟩
      rw [if_pos (or61.mpr k), τ]
      unfold fX12_compared_75 fX12_compared_90
      rw [if_neg one_ne, pk_us, nI_1]
      simp only [show ¬ (62 : Int32) = 61 by decide, show ¬ (62 : Int32) = 60 by decide, one_ne, if_true, if_false]
      rfl
    · rw [if_neg k] at τ
      have enx := nx_sign (t := t) hs hz (by omega) (by omega)
      rw [if_neg (by omega)] at enx
      refine ⟨upd (upd z 18 (nI (s + 1))) 18 (nI (s + 1)), by rw [enx]; rfl, fun j hj => by rw [pk_un hj, pk_un hj], by omega, ?_⟩
      rw [if_neg (fun hh => k (or61.mp hh)), τ]
      unfold fX12_compared_74 fX12_compared_75 fX12_compared_90
      rw [if_pos rfl, pk_us, show nI (s + 1) + 0 = nI (s + 1) from nI_add (s + 1) 0]
      simp only [show ¬ (62 : Int32) = 61 by decide, show ¬ (62 : Int32) = 60 by decide, if_true, if_false]
      rfl
/-- what the reference does behind the first sum -/
def cmpR (x91 x74 x92 x93 : FI) : R3 := bd1 (fX12_sign x74 x91) fun r_5 => (if r_5 = 60 then (fX12_compared_37 x91 r_5 x74 x92 x93) else (if r_5 = 61 then (fX12_compared_37 x91 r_5 x74 x92 x93) else (if r_5 = 62 then (fX12_compared_37 x91 r_5 x74 x92 x93) else (bd1 (fX12_fails 0 (x74 18) x74) fun x74_7 => (some (x74_7, x92, x93))))))
theorem cmpR_37 (hz : sz ≤ 400) (h17 : x74 17 = nI sz) (h18 : x74 18 = nI s) (hs : s < 1000) (h91 : ∀ j, j < 400 → x91 j = t j) (hb : ∀ j, j < 400 → bR (t j)) : (s < sz ∧ (t s = 60 ∨ t s = 61 ∨ t s = 62) ∧ cmpR x91 x74 x92 x93 = fX12_compared_37 x91 (t s &&& 255) x74 x92 x93) ∨ (¬ (12 ≤ tc t sz s ∧ tc t sz s ≤ 16) ∧ cmpR x91 x74 x92 x93 = bd1 (fX12_fails (nI 0) (nI s) x74) fun x => some (x, x92, x93)) := by
  unfold cmpR
  rw [p_sign hz h17 h18 hs h91, bd1_s]
  by_cases k : s < sz
  · obtain ⟨q37, q42, q43, q45, q47, q60, q61, q62, q91, q93⟩ := sgx (hb s (by omega))
    rw [if_pos k]
    by_cases a : t s = 60
    · rw [if_pos (q60.mpr a)]; exact Or.inl ⟨k, Or.inl a, rfl⟩
    rw [if_neg (fun hh => a (q60.mp hh))]
    by_cases b : t s = 61
    · rw [if_pos (q61.mpr b)]; exact Or.inl ⟨k, Or.inr (Or.inl b), rfl⟩
    rw [if_neg (fun hh => b (q61.mp hh))]
    by_cases c' : t s = 62
    · rw [if_pos (q62.mpr c')]; exact Or.inl ⟨k, Or.inr (Or.inr c'), rfl⟩
    rw [if_neg (fun hh => c' (q62.mp hh)), h18]
    refine Or.inr ⟨fun hh => ?_, rfl⟩
    have n1 : ¬ (tc t sz s = 12 ∨ tc t sz s = 13) := fun h => a ((tch_60 (t := t) k hz).mp h)
    have n2 : ¬ tc t sz s = 14 := fun h => b ((tch_61 (t := t) k hz).mp h)
    have n3 : ¬ (tc t sz s = 15 ∨ tc t sz s = 16) := fun h => c' ((tch_62 (t := t) k hz).mp h)
    omega
  · rw [if_neg k, if_neg (by decide), if_neg (by decide), if_neg (by decide), h18]
    refine Or.inr ⟨fun hh => ?_, rfl⟩
    have : tc t sz s = 0 := by unfold tc; rw [if_pos (by omega)]
    omega
theorem cmpR_F (h : FM t sz x74 x91) : ∃ z74, cmpR x91 x74 x92 x93 = some (z74, x92, x93) ∧ (∀ j, j ≠ 18 → j ≠ 24 → z74 j = x74 j) ∧ FM t sz z74 x91 := by
  obtain ⟨hz, h17, ⟨s, h18, hs⟩, h19, h26, h91, hb⟩ := id h
  rcases cmpR_37 (x92 := x92) (x93 := x93) hz h17 h18 (by omega) h91 hb with ⟨k, hτ, e⟩ | ⟨_, e⟩
  · obtain ⟨z, ez, zf⟩ := p_countF (x74 := x74) (v := s) h19
    obtain ⟨Z, Z18, Zf, _, eZ⟩ := c37 (x92 := x92) (x93 := x93) hz k h18 h91 hb ez ((zf 17 (by omega)).trans h17) ((zf 18 (by omega)).trans h18) rfl hτ
    have nl := nx_le (t := t) k
    have hZ : FM t sz Z x91 := FM_set h (fun j a b => (Zf j a).trans (zf j b)) Z18 (by omega)
    obtain ⟨w, ew, wf, hw⟩ := sum_F (x92 := x92) (x93 := x93) hZ
    refine ⟨w, ?_, fun j a b => by rw [wf j a b, Zf j a, zf j b], hw⟩
    rw [e, eZ, ew, bd3_s]
    unfold fX12_compared_139
    rw [p_entryF hw.2.2.2.1, bd3_s]
  · have ff : ∀ j, j ≠ 18 → j ≠ 24 → upd x74 19 (x74 19) j = x74 j := fun j a b => by
      by_cases e : j = 19
      · subst e; exact pk_us
      · exact pk_un e
    refine ⟨upd x74 19 (x74 19), ?_, ff, FM_set h ff ((pk_un (by omega)).trans h18) hs⟩
    rw [e, (p_fails (x74 := x74)).2 h19, bd1_s]
/-- the class's reading of a comparison -/
def cmpC (x3 x4 x5 x1 x13 x14 : FI) : C4 := bd4 (fX5_readSum x3 x4 x5 x1 x13 x14) fun r_3 x1_4 x13_5 x14_6 => (if r_3 = 0 then (some (0, x1_4, x13_5, x14_6)) else (bd1 (fX8_code x1_4 x3) fun r_8 => (bd1 (fX11_isWithin r_8 12 16) fun r_10 => (if r_10 = 0 then (bd2 (fX8_fail x4 0 x1_4) fun r_27 x1_28 => (gd (bz r_27) (some (r_27, x1_28, x13_5, x14_6)))) else (if (x13_5 3) < 60 then (bd1 (fX8_skip x1_4) fun x1_12 => (bd4 (fX5_readSum x3 x4 x5 x1_12 (upd x13_5 3 ((x13_5 3) + 1)) x14_6) fun r_14 x1_15 x13_16 x14_17 => (if r_14 = 0 then (some (0, x1_15, x13_16, x14_17)) else (bd3 (fX5_write r_8 0 x13_16 x14_17) fun r_19 x13_20 x14_21 => (if r_19 = 0 then (some (0, x1_15, x13_20, x14_21)) else (some (1, x1_15, x13_20, x14_21))))))) else (bd2 (fX8_fail x4 3 x1_4) fun r_23 x1_24 => (gd (bz r_23) (some (r_23, x1_24, x13_5, x14_6)))))))))
theorem RF_FM' {F : Nat} {y92 y93 z74 z92 z93 : FI} (h : RS t sz c slot d e i p S E k x1 x3 x4 x5 x13 x14 x74 x91 x92 x93) (hR : RF sz slot F x74 y92 y93 z74 z92 z93) : FM t sz z74 x91 := RF_FM h (fun _ _ _ _ _ => rfl) hR
theorem e_cmp (h : RS t sz c slot d e i p S E k x1 x3 x4 x5 x13 x14 x74 x91 x92 x93) : TS t sz c slot d (e + 3) i 4 S E x3 x4 x5 x74 x91 x92 x93 (cmpC x3 x4 x5 x1 x13 x14) (fX12_compared x91 x74 x92 x93) := by
  have eR : fX12_compared x91 x74 x92 x93 = bd3 (fX12_sum x91 x74 x92 x93) fun a b c => cmpR x91 a b c := rfl
  rw [eR]
  unfold cmpC
  rcases e_sum h with ⟨i1, k1, L1, V1, y1, y13, y14, z74, z92, z93, hi1, hs1, ec, er, hR1, fz, f92⟩ | ⟨F, y1, y13, y14, z74, z92, z93, ec, y17, er, hRF⟩
  · obtain ⟨hz, hc, hic, _⟩ := RS_lim hR1
    obtain ⟨hB, ⟨h2, h3, hES⟩, ⟨h20, h22, h24, hER, h26⟩, hsl, hk, hSi, hEk⟩ := id hR1
    obtain ⟨hT, ⟨_, h17, h18, h19, h91, hb⟩, _⟩ := id hB
    have tl := tc_lt (t := t) (s := ts t sz i1) hz
    have tsl := ts_le (t := t) (sz := sz) i1
    rw [ec, bd4_s, if_neg one_ne, RS_code hR1, bd1_s, show (12 : Int32) = nI 12 from rfl, show (16 : Int32) = nI 16 from rfl, p_within' (by omega) (by omega) (by omega), bd1_s, er, bd3_s]
    have flf : ∀ kd, kd < 10 → 0 < flt (ts t sz i1) kd ∧ flt (ts t sz i1) kd < 5000 := fun kd hk => flt_lt (by omega) hk
    rcases cmpR_37 (x92 := z92) (x93 := z93) hz h17 h18 (by omega) h91 hb with ⟨hlt, hτ, eR⟩ | ⟨hno, eR⟩
    · have tm := ts_mono (t := t) (i := i1) hlt
      have nl := nx_le (t := t) hlt
      rw [eR]
      rcases p_count (x74 := z74) (v := ts t sz i1) h19 h24 hk with ⟨k60, ek⟩ | ⟨k60, ek⟩
      · obtain ⟨Z, Z18, Zf, h12, eZ⟩ := c37 (x92 := z92) (x93 := z93) hz hlt h18 h91 hb ek h17 h18 rfl hτ
        have hRZ : RS t sz c slot (d + 1) (e + 6) (i1 + 1) (nx t sz (ts t sz i1)) (S ++ L1) (E ++ L1) (k1 + 1) (upd y1 6 (nI (i1 + 1))) x3 x4 x5 (upd y13 3 (nI (k1 + 1))) y14 Z x91 z92 z93 := by
          refine ⟨BP_next hB hlt ((Zf 17 (by omega)).trans (pk_un (by omega))) ((Zf 19 (by omega)).trans (pk_un (by omega))) Z18, ⟨(pk_un (by omega)).trans h2, rfl, hES⟩, ⟨by rw [Zf 20 (by omega), pk_un (by omega)]; exact h20, by rw [Zf 22 (by omega), pk_un (by omega)]; exact h22, by rw [Zf 24 (by omega)]; exact pk_us, hER, by rw [Zf 26 (by omega), pk_un (by omega)]; exact h26⟩, hsl, by omega, by omega, by omega⟩
        have fZ : fq74 z74 Z := fun j j1 j2 j3 j4 => (Zf j j1).trans (pk_un j4)
        rw [if_pos h12, if_neg one_ne, h3, if_pos (show nI k1 < (60 : Int32) from nI_lt (b := 60) k60 (by omega)), (p_skip hT (by omega)).1, bd1_s, nI_1, eZ]
        rcases e_sum hRZ with ⟨i2, k2, L2, V2, u1, u13, u14, w74, w92, w93, hi2, hs2, ec2, er2, hR2, fz2, f922⟩ | ⟨F, u1, u13, u14, w74, w92, w93, ec2, u17, er2, hRF⟩
        · obtain ⟨ow, oe, hR3⟩ := RS_op (q := tc t sz (ts t sz i1)) hR2 (Or.inl (by unfold isBin; omega))
          rw [ec2, bd4_s, if_neg one_ne, ow, bd3_s, if_neg one_ne, er2, bd3_s]
          unfold fX12_compared_139
          rw [oe, bd3_s]
          have hsem := Sem_bin (c := tc t sz (ts t sz i1)) (h := 4) (by unfold isBin; omega) hs1 hs2 (by omega) (by omega)
          have hR4 := RS_weak (d' := d) (e' := e + 3) hR3 (Nat.le_refl _) (by omega)
          rw [app4 S, app4 E] at hR4
          exact Or.inl ⟨i2, k2, _, _, u1, _, _, _, _, _, by omega, hsem, rfl, rfl, hR4, fq_trans (fq_trans (fq_trans fz fZ) fz2) fq_op, fr_trans (fr_trans f92 f922) fr_op⟩
        · refine Or.inr ⟨F, u1, u13, u14, w74, w92, w93, ?_, u17, ?_, RF_fr (fq_trans fz fZ) f92 hRF⟩
          · rw [ec2, bd4_s, if_pos rfl]
          · rw [er2, bd3_s]
            unfold fX12_compared_139
            rw [p_entryF (by rw [hRF.2.2.1]; exact ne0 (by have := hRF.1; omega) (by have := hRF.2.1; omega)), bd3_s]
      · obtain ⟨Z, Z18, Zf, h12, eZ⟩ := c37 (x92 := z92) (x93 := z93) hz hlt h18 h91 hb ek (by rw [pk_un (by omega), pk_un (by omega)]; exact h17) (by rw [pk_un (by omega), pk_un (by omega)]; exact h18) rfl hτ
        have f3 := flf 3 (by omega)
        have Z19 : Z 19 = nI (flt (ts t sz i1) 3) := by rw [Zf 19 (by omega), pk_un (by omega), pk_us]
        have hFM : FM t sz Z x91 := ⟨hz, by rw [Zf 17 (by omega), pk_un (by omega), pk_un (by omega)]; exact h17, ⟨_, Z18, by omega⟩, by rw [Z19]; exact ne0 (by omega) (by omega), by rw [Zf 26 (by omega), pk_un (by omega), pk_un (by omega)]; exact h26, h91, hb⟩
        obtain ⟨w, ew, wf, hw⟩ := sum_F (x92 := z92) (x93 := z93) hFM
        obtain ⟨q, w18, hq⟩ := hw.2.2.1
        rw [if_pos h12, if_neg one_ne, h3, if_neg (show ¬ nI k1 < (60 : Int32) by rw [k60]; decide), show (3 : Int32) = nI 3 from rfl, p_fail hT, bd2_s, gd_t (by decide), eZ, ew, bd3_s]
        unfold fX12_compared_139
        rw [p_entryF hw.2.2.2.1, bd3_s]
        exact Or.inr ⟨_, _, y13, y14, w, z92, z93, rfl, pk_us, rfl, f3.1, f3.2, by rw [wf 19 (by omega) (by omega)]; exact Z19, ⟨q, w18, hq⟩, fun j j1 j2 j3 j4 j5 j6 => by rw [wf j j1 j5, Zf j j1, pk_un j5, pk_un j2, fz j j1 j2 j3 j5], f92⟩
    · have f0 := flf 0 (by omega)
      rw [if_neg hno, if_pos rfl, show (0 : Int32) = nI 0 from rfl, p_fail hT, bd2_s, gd_t (by decide), eR, (p_fails (x74 := z74)).1 h19, bd1_s]
      exact Or.inr ⟨_, _, y13, y14, _, z92, z93, rfl, pk_us, rfl, f0.1, f0.2, pk_us, ⟨_, (pk_un (by omega)).trans h18, by omega⟩, fun j j1 j2 j3 j4 j5 j6 => by rw [pk_un j2, fz j j1 j2 j3 j5], f92⟩
  · obtain ⟨w, ew, wf, hw⟩ := cmpR_F (x92 := z92) (x93 := z93) (RF_FM' h hRF)
    obtain ⟨q, w18, hq⟩ := hw.2.2.1
    obtain ⟨F0, F1, r19, _, rf, r92⟩ := hRF
    rw [ec, bd4_s, if_pos rfl, er, bd3_s, ew]
    exact Or.inr ⟨F, y1, y13, y14, w, z92, z93, rfl, y17, rfl, F0, F1, (wf 19 (by omega) (by omega)).trans r19, ⟨q, w18, hq⟩, fun j j1 j2 j3 j4 j5 j6 => (wf j j1 j5).trans (rf j j1 j2 j3 j4 j5 j6), r92⟩
end CMP

section SUM2
variable {x1 x3 x4 x5 x13 x14 x74 x91 x92 x93 t : Nat → Int32} {sz c slot d e i p k n : Nat} {S E L : List StO} {V : (Nat → Int64) → Int64}
/-- one term, from its first value on -/
theorem t_one {P : Int32} {fuel : Nat} (hf : c + 2 ≤ fuel + i + 1) (hn : 2 * n ≤ i) (h : RS t sz c slot d e i p S E k x1 x3 x4 x5 x13 x14 x74 x91 x92 x93) : TT t sz c slot d (e + 3) i P S E x3 x4 x5 x74 x91 x92 x93 (fX5_readSum_6b x3 x4 x5 (lq6 (fX5_readSum_6b x3 x4 x5) fuel) 0 P (nI n) x1 x13 x14) (fX12_term x91 x74 x92 x93) := by
  obtain ⟨hz, hc, hic, _⟩ := RS_lim h
  rw [sum6_0 (by omega)]
  unfold fX12_term fX12_term_0
  rcases e_val h with ⟨o, Vo, p', y1, y13, y14, z74, z92, z93, hso, ec, er, hR2, fz, f92⟩ | ⟨F, y1, y13, y14, z74, z92, z93, ec, y17, er, hRF⟩
  · obtain ⟨w74, ew, w18, hR4, fw, _⟩ := RS_blank hR2
    rw [ec, bd4_s, if_neg one_ne, er, bd3_s, ew, bd1_s]
    exact TT_fr (fq_trans fz fw) f92 (t_term (i0 := i) P c fuel 5000 n (i + 1) (k + 1) _ _ _ _ _ _ _ _ (by omega) (by omega) (by omega) (by omega) (by omega) hR4 (Sem_mono hso (by omega)))
  · have r19 : z74 19 ≠ 0 := by rw [hRF.2.2.1]; exact ne0 (by have := hRF.1; omega) (by have := hRF.2.1; omega)
    obtain ⟨w74, s, ew, w18, hs, wf, hFM⟩ := FM_blanks (RF_FM h (fun _ _ _ _ _ => rfl) hRF)
    refine Or.inr ⟨F, y1, y13, y14, w74, z92, z93, ?_, y17, ?_, ?_⟩
    · rw [ec, bd4_s, if_pos rfl]
    · rw [er, bd3_s, ew, bd1_s]
      unfold fX12_term_8
      show fX12_term_8b x91 (lq3 (fX12_term_8b x91) 4999) w74 z92 z93 = _
      unfold fX12_term_8b
      rw [if_neg (by rw [wf 19 (by omega)]; exact r19)]
    · obtain ⟨a, b, c', _, e', f⟩ := hRF
      exact ⟨a, b, (wf 19 (by omega)).trans c', ⟨s, w18, hs⟩, fun j j1 j2 j3 j4 j5 j6 => (wf j j1).trans (e' j j1 j2 j3 j4 j5 j6), f⟩
/-- what a sum comes to -/
def TS (t : FI) (sz c slot d e i0 h : Nat) (S E : List StO) (x3 x4 x5 x74 x91 x92 x93 : FI) (oc : C4) (or : R3) : Prop :=
  (∃ i k L V y1 y13 y14 z74 z92 z93, i0 < i ∧ Sem L h V ∧ oc = some (1, y1, y13, y14) ∧ or = some (z74, z92, z93) ∧ RS t sz c slot d e i (ts t sz i) (S ++ L) (E ++ L) k y1 x3 x4 x5 y13 y14 z74 x91 z92 z93 ∧ fq74 x74 z74 ∧ fr92 slot x92 x93 z92 z93) ∨ FL sz slot x74 x92 x93 oc or
theorem TS_fr {i0 h : Nat} {y74 y92 y93 : FI} {oc : C4} {or : R3} (h1 : fq74 x74 y74) (h2 : fr92 slot x92 x93 y92 y93) (hT : TS t sz c slot d e i0 h S E x3 x4 x5 y74 x91 y92 y93 oc or) : TS t sz c slot d e i0 h S E x3 x4 x5 x74 x91 x92 x93 oc or := by
  rcases hT with ⟨i, k, L, V, y1, y13, y14, z74, z92, z93, a1, a2, a3, a4, a5, a6, a7⟩ | hF
  · exact Or.inl ⟨i, k, L, V, y1, y13, y14, z74, z92, z93, a1, a2, a3, a4, a5, fq_trans h1 a6, fr_trans h2 a7⟩
  · exact Or.inr (FL_fr h1 h2 hF)
/-- a fault in the middle of a sum -/
theorem FL_sum {ks : Nat} {z74 z92 z93 : FI} {F : Nat} (hR : RF sz slot F x74 x92 x93 z74 z92 z93) : lq3 (fX12_sum_4b x91) (ks + 1) z74 z92 z93 = some (z74, z92, z93) := by
  show fX12_sum_4b x91 (lq3 (fX12_sum_4b x91) ks) z74 z92 z93 = _
  unfold fX12_sum_4b
  rw [if_neg (by rw [hR.2.2.1]; exact ne0 (by have := hR.1; omega) (by have := hR.2.1; omega))]
theorem t_sumL {i0 : Nat} : ∀ (m fuel ks n i k : Nat) (L : List StO) (V : (Nat → Int64) → Int64) (x1 x13 x14 x74 x92 x93 : FI), i0 < i → c ≤ i + m → c + 2 ≤ fuel + i → c + 2 ≤ ks + i → 2 * n + 1 ≤ i → RS t sz c slot d (e + 3) i (ts t sz i) (S ++ L) (E ++ L) k x1 x3 x4 x5 x13 x14 x74 x91 x92 x93 → Sem L 3 V → TS t sz c slot d (e + 3) i0 3 S E x3 x4 x5 x74 x91 x92 x93 (fX5_readSum_77 x3 x4 x5 (lq6 (fX5_readSum_6b x3 x4 x5) fuel) 0 (nI n) x1 x13 x14) (lq3 (fX12_sum_4b x91) ks x74 x92 x93)
  | m, fuel, 0, n, i, k, L, V, x1, x13, x14, x74, x92, x93, h0, hm, hf, hkr, hn, hR, hS => by
    have := (RS_lim hR).2.2.1
    omega
  | m, 0, ks + 1, n, i, k, L, V, x1, x13, x14, x74, x92, x93, h0, hm, hf, hkr, hn, hR, hS => by
    have := (RS_lim hR).2.2.1
    omega
  | m, fuel + 1, ks + 1, n, i, k, L, V, x1, x13, x14, x74, x92, x93, h0, hm, hf, hkr, hn, hR, hS => by
    obtain ⟨hz, hc, hic, _⟩ := RS_lim hR
    have hb := hR.1.2.1.2.2.2.2.2
    have h19 : x74 19 = 0 := hR.1.2.1.2.2.2.1
    have tl := tc_lt (t := t) (s := ts t sz i) hz
    have hsg := RS_sign hR
    show TS t sz c slot d (e + 3) i0 3 S E x3 x4 x5 x74 x91 x92 x93 _ (fX12_sum_4b x91 (lq3 (fX12_sum_4b x91) ks) x74 x92 x93)
    unfold fX5_readSum_77
    rw [RS_code hR, bd1_s, show (7 : Int32) = nI 7 from rfl, show (8 : Int32) = nI 8 from rfl, p_within' (by omega) (by omega) (by omega), bd1_s]
    by_cases c1 : 7 ≤ tc t sz (ts t sz i) ∧ tc t sz (ts t sz i) ≤ 8
    · have hlt : ts t sz i < sz := by
        refine Nat.not_le.mp fun hh => ?_
        have : tc t sz (ts t sz i) = 0 := by unfold tc; rw [if_pos hh]
        omega
      have enx := nx_sign (t := t) hlt hz (by omega) (by omega)
      rw [if_neg (by omega)] at enx
      have hic' : i < c := by
        refine Nat.lt_of_le_of_ne hic fun e => ?_
        rw [e, hR.1.1.2.2.1] at hlt
        omega
      have tm := ts_mono (t := t) (i := i) hlt
      obtain ⟨esk, hR1⟩ := RS_tok (d' := d + 1) (e' := e) (z74 := upd x74 18 (nI (ts t sz i + 1))) hR hlt (by rw [enx]; rfl) (fun j j1 _ _ => pk_un j1) (by omega) (by omega)
      have ref : fX12_sum_4b x91 (lq3 (fX12_sum_4b x91) ks) x74 x92 x93 = fX12_sum_43 x91 (lq3 (fX12_sum_4b x91) ks) (nI (srt (tc t sz (ts t sz i)))) x74 x92 x93 := by
        unfold fX12_sum_4b fX12_sum_29
        rw [if_pos h19, hsg, bd1_s]
        by_cases k7 : tc t sz (ts t sz i) = 7
        · rw [if_pos ((sg_43 hz hb).mpr k7), bd1_s, if_pos ((sg_43 hz hb).mpr k7), k7]
          rfl
        · rw [if_neg (fun hh => k7 ((sg_43 hz hb).mp hh)), bd1_s, bd1_s, if_pos ((sg_45 hz hb).mpr (by omega)), if_neg (fun hh => k7 ((sg_43 hz hb).mp hh)), show tc t sz (ts t sz i) = 8 by omega]
          rfl
      have cls : (if (if 7 ≤ tc t sz (ts t sz i) ∧ tc t sz (ts t sz i) ≤ 8 then (1 : Int32) else 0) = 0 then fX5_readSum_105 x3 x4 x5 (lq6 (fX5_readSum_6b x3 x4 x5) (fuel + 1)) 0 (nI n) 0 x1 x13 x14 else (bd1 (some (nI (tc t sz (ts t sz i)))) fun r_5 => (fX5_readSum_105 x3 x4 x5 (lq6 (fX5_readSum_6b x3 x4 x5) (fuel + 1)) 0 (nI n) r_5 x1 x13 x14))) = fX5_readSum_6b x3 x4 x5 (lq6 (fX5_readSum_6b x3 x4 x5) fuel) 0 (nI (tc t sz (ts t sz i))) (nI (n + 1)) (upd x1 6 (nI (i + 1))) x13 x14 := by
        rw [if_pos c1, if_neg one_ne, bd1_s]
        unfold fX5_readSum_105 fX5_readSum_112
        rw [if_neg (ne0 (by omega) (by omega)), esk, bd1_s, bn_s, nI_1]
        rfl
      rw [cls, ref]
      unfold fX12_sum_43
      rw [RS_p hR, nI_1]
      rcases t_one (P := nI (tc t sz (ts t sz i))) (fuel := fuel) (n := n + 1) (by omega) (by omega) hR1 with ⟨fuel', n', i', k', L', V', y1, y13, y14, z74, z92, z93, hi', hs', ec, er, hR2, fz, f92, hf', hn', hno⟩ | ⟨F, y1, y13, y14, z74, z92, z93, ec, y17, er, hRF⟩
      · obtain ⟨ow, oe, hR3⟩ := RS_op (q := tc t sz (ts t sz i)) hR2 (Or.inl (by unfold isBin; omega))
        have hic2 := (RS_lim hR2).2.2.1
        rw [ec, er, bd3_s, oe, bd3_s]
        unfold fX5_readSum_61
        rw [if_pos rfl, if_neg (ne0 (by omega) (by omega)), ow, bd3_s]
        have hsem := Sem_bin (c := tc t sz (ts t sz i)) (h := 3) (by unfold isBin; omega) hS hs' (by omega) (by omega)
        rw [app4 S, app4 E] at hR3
        match m, hm with
        | 0, hm => omega
        | m + 1, hm => exact TS_fr (fq_trans (fq_trans fq_18 fz) fq_op) (fr_trans f92 fr_op) (t_sumL (i0 := i0) m fuel' ks n' i' k' _ _ _ _ _ _ _ _ (by omega) (by omega) (by omega) (by omega) (by omega) hR3 hsem)
      · have r19 : z74 19 ≠ 0 := by rw [hRF.2.2.1]; exact ne0 (by have := hRF.1; omega) (by have := hRF.2.1; omega)
        refine Or.inr ⟨F, y1, y13, y14, z74, z92, z93, ec, y17, ?_, RF_fr fq_18 fr_refl hRF⟩
        match ks, hkr with
        | 0, hkr => omega
        | ks + 1, hkr => rw [er, bd3_s, p_entryF r19, bd3_s, FL_sum hRF]
    · rw [if_neg c1, if_pos rfl]
      unfold fX5_readSum_105
      rw [if_pos rfl]
      refine Or.inl ⟨i, k, L, V, x1, x13, x14, x74, x92, x93, h0, hS, rfl, ?_, hR, fun _ _ _ _ _ => rfl, fr_refl⟩
      unfold fX12_sum_4b
      rw [if_pos h19, hsg, bd1_s, if_neg (fun hh => by have := (sg_43 hz hb).mp hh; omega), bd1_s, if_neg (fun hh => by have := (sg_45 hz hb).mp hh; omega)]
end SUM2
section SUM3
variable {x1 x3 x4 x5 x13 x14 x74 x91 x92 x93 t : Nat → Int32} {sz c slot d e i p k n : Nat} {S E L : List StO} {V : (Nat → Int64) → Int64}
theorem e_sum (h : RS t sz c slot d e i p S E k x1 x3 x4 x5 x13 x14 x74 x91 x92 x93) : TS t sz c slot d (e + 3) i 3 S E x3 x4 x5 x74 x91 x92 x93 (fX5_readSum x3 x4 x5 x1 x13 x14) (fX12_sum x91 x74 x92 x93) := by
  obtain ⟨hz, hc, hic, _⟩ := RS_lim h
  have ec0 : fX5_readSum x3 x4 x5 x1 x13 x14 = fX5_readSum_6b x3 x4 x5 (lq6 (fX5_readSum_6b x3 x4 x5) 4999) 0 0 (nI 0) x1 x13 x14 := rfl
  rw [ec0]
  unfold fX12_sum fX12_sum_0
  rcases t_one (P := 0) (fuel := 4999) (n := 0) (by omega) (by omega) h with ⟨fuel', n', i', k', L', V', y1, y13, y14, z74, z92, z93, hi', hs', ec, er, hR2, fz, f92, hf', hn', hno⟩ | ⟨F, y1, y13, y14, z74, z92, z93, ec, y17, er, hRF⟩
  · rw [ec, er, bd3_s]
    unfold fX5_readSum_61 fX12_sum_4
    rw [if_pos rfl, if_pos rfl]
    exact TS_fr fz f92 (t_sumL (i0 := i) c fuel' 5000 n' i' k' _ _ _ _ _ _ _ _ (by omega) (by omega) (by omega) (by omega) (by omega) hR2 (Sem_mono hs' (by omega)))
  · refine Or.inr ⟨F, y1, y13, y14, z74, z92, z93, ec, y17, ?_, hRF⟩
    rw [er, bd3_s]
    exact FL_sum (ks := 4999) hRF
end SUM3

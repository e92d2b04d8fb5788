section SUM
variable {x1 x3 x4 x5 x13 x14 x74 x91 x92 x93 t : Nat → Int32} {sz c slot d e i p k n : Nat} {S E L : List StO} {V : (Nat → Int64) → Int64}
theorem app4 (A B C : List StO) (o : StO) : A ++ B ++ C ++ [o] = A ++ (B ++ C ++ [o]) := by simp only [List.append_assoc]
theorem RS_lim (h : RS t sz c slot d e i p S E k x1 x3 x4 x5 x13 x14 x74 x91 x92 x93) : sz ≤ 400 ∧ c ≤ 400 ∧ i ≤ c ∧ S.length + d ≤ i ∧ E.length < 300 ∧ k ≤ 60 ∧ S.length < 401 := by
  obtain ⟨hB, _, _, _, hk, hS, hE⟩ := h
  have := hB.1.1
  have := hB.1.2.1
  have := hB.2.2.2.2
  have := ts_le (t := t) (sz := sz) i
  omega
theorem RS_blank (h : RS t sz c slot d e i p S E k x1 x3 x4 x5 x13 x14 x74 x91 x92 x93) : ∃ w74, fX12_blanks x91 x74 = some w74 ∧ w74 18 = nI (ts t sz i) ∧ RS t sz c slot d e i (ts t sz i) S E k x1 x3 x4 x5 x13 x14 w74 x91 x92 x93 ∧ fq74 x74 w74 ∧ ∀ j, j ≠ 18 → w74 j = x74 j := by
  obtain ⟨hB, hC, ⟨h20, h22, h24, hE, h26⟩, hr⟩ := h
  obtain ⟨w74, ew, w18, wf, bw⟩ := BP_blank hB
  exact ⟨w74, ew, w18, ⟨bw, hC, ⟨(wf 20 (by omega)).trans h20, (wf 22 (by omega)).trans h22, (wf 24 (by omega)).trans h24, hE, (wf 26 (by omega)).trans h26⟩, hr⟩, fun j j1 _ _ _ => wf j j1, wf⟩
theorem RS_p (h : RS t sz c slot d e i p S E k x1 x3 x4 x5 x13 x14 x74 x91 x92 x93) : x74 18 = nI p := h.1.2.1.2.2.1
theorem RS_sign (h : RS t sz c slot d e i p S E k x1 x3 x4 x5 x13 x14 x74 x91 x92 x93) : fX12_sign x74 x91 = some (if p < sz then t p &&& 255 else -1) := by
  obtain ⟨hB, _⟩ := h
  obtain ⟨_, ⟨hz, h17, h18, h19, h91, hb⟩, hp, _⟩ := hB
  exact p_sign hz h17 h18 (by omega) h91
theorem RS_code (h : RS t sz c slot d e i p S E k x1 x3 x4 x5 x13 x14 x74 x91 x92 x93) : fX8_code x1 x3 = some (nI (tc t sz (ts t sz i))) := p_code h.1.1
/-- a token is passed: it may stand for a step that is still to be written -/
theorem RS_tok {d' e' : Nat} {z74 : Nat → Int32} (h : RS t sz c slot d e i p S E k x1 x3 x4 x5 x13 x14 x74 x91 x92 x93) (hlt : ts t sz i < sz) (h18 : z74 18 = nI (nx t sz (ts t sz i))) (hf : ∀ j, j ≠ 18 → j ≠ 23 → j ≠ 25 → z74 j = x74 j) (hd : d' ≤ d + 1) (he : 3 * d' + e' + ts t sz i ≤ 3 * d + e + ts t sz (i + 1)) : fX8_skip x1 = some (upd x1 6 (nI (i + 1))) ∧ RS t sz c slot d' e' (i + 1) (nx t sz (ts t sz i)) S E k (upd x1 6 (nI (i + 1))) x3 x4 x5 x13 x14 z74 x91 x92 x93 := by
  obtain ⟨hz, hc, hic, _⟩ := RS_lim h
  obtain ⟨hB, hC, ⟨h20, h22, h24, hE, h26⟩, hsl, hk, hS, hEk⟩ := h
  refine ⟨(p_skip hB.1 (by omega)).1, BP_next hB hlt (hf 17 (by omega) (by omega) (by omega)) (hf 19 (by omega) (by omega) (by omega)) h18, hC, ⟨(hf 20 (by omega) (by omega) (by omega)).trans h20, (hf 22 (by omega) (by omega) (by omega)).trans h22, (hf 24 (by omega) (by omega) (by omega)).trans h24, hE, (hf 26 (by omega) (by omega) (by omega)).trans h26⟩, hsl, hk, by omega, by omega⟩
/-- a step that was waiting is written -/
theorem RS_op {q : Nat} (h : RS t sz c slot (d + 1) e i p S E k x1 x3 x4 x5 x13 x14 x74 x91 x92 x93) (hq : isBin q ∨ q = 36) : fX5_write (nI q) 0 x13 x14 = some (1, upd x13 2 (nI (S.length + 1)), upd x14 S.length (nI (64 * 0 + q))) ∧ fX12_entry (nI (srt q)) 0 x74 x92 x93 = some (upd x74 22 (nI (E.length + 1)), upd x92 (300 * slot + E.length) (nI (srt q)), upd x93 (300 * slot + E.length) (nI 0)) ∧ RS t sz c slot d e i p (S ++ [(q, 0)]) (E ++ [(q, 0)]) k x1 x3 x4 x5 (upd x13 2 (nI (S.length + 1))) (upd x14 S.length (nI (64 * 0 + q))) (upd x74 22 (nI (E.length + 1))) x91 (upd x92 (300 * slot + E.length) (nI (srt q))) (upd x93 (300 * slot + E.length) (nI 0)) := by
  obtain ⟨hz, hc, hic, _, h300, _, h401⟩ := RS_lim h
  obtain ⟨hB, ⟨h2, h3, hES⟩, ⟨h20, h22, h24, hE, h26⟩, hsl, hk, hS, hEk⟩ := h
  have q64 : q < 64 := by unfold isBin at hq; omega
  have er : rnm (q, 0) = 0 := by unfold rnm; rw [if_neg (show ¬ (17 ≤ q ∧ q ≤ 28) by unfold isBin at hq; omega)]
  have h19 : x74 19 = 0 := hB.2.1.2.2.2.1
  refine ⟨p_write (o := (q, 0)) q64 h2 (by omega), p_entry (E := E) (b := 0) h19 h20 hsl h22 h300, ?_, ⟨by rw [len1]; rfl, by rw [pk_un (by omega)]; exact h3, ES_add (o := (q, 0)) hES⟩, ⟨by rw [pk_un (by omega)]; exact h20, by rw [len1]; rfl, by rw [pk_un (by omega)]; exact h24, ?_, by rw [pk_un (by omega)]; exact h26⟩, hsl, hk, by rw [len1]; omega, by rw [len1]; omega⟩
  · obtain ⟨hT, ⟨a1, a2, a3, a4, a5, a6⟩, hr⟩ := hB
    exact ⟨hT, ⟨a1, a2, a3, a4, a5, a6⟩, hr⟩
  · have := ER_add (o := (q, 0)) hE
    rw [er] at this
    exact this
theorem RS_weak {d' e' : Nat} (h : RS t sz c slot d e i p S E k x1 x3 x4 x5 x13 x14 x74 x91 x92 x93) (hd : d' ≤ d) (he : 3 * d' + e' ≤ 3 * d + e) : RS t sz c slot d' e' i p S E k x1 x3 x4 x5 x13 x14 x74 x91 x92 x93 := by
  obtain ⟨hB, hC, hR, hsl, hk, hS, hEk⟩ := h
  exact ⟨hB, hC, hR, hsl, hk, by omega, by omega⟩
theorem fq_op {v : Int32} : fq74 x74 (upd x74 22 v) := fun j _ _ j3 _ => pk_un j3
theorem fr_op {m : Nat} {v w : Int32} : fr92 slot x92 x93 (upd x92 (300 * slot + m) v) (upd x93 (300 * slot + m) w) := fun j hj => ⟨pk_un (by omega), pk_un (by omega)⟩
theorem fq_18 {v : Int32} : fq74 x74 (upd x74 18 v) := fun j j1 _ _ _ => pk_un j1
abbrev C4 : Type := Option (Int32 × FI × FI × FI)
abbrev R3 : Type := Option (FI × FI × FI)
/-- a fault, on both sides -/
def FL (sz slot : Nat) (x74 x92 x93 : FI) (oc : C4) (or : R3) : Prop := ∃ F y1 y13 y14 z74 z92 z93, oc = some (0, y1, y13, y14) ∧ y1 7 = nI F ∧ or = some (z74, z92, z93) ∧ RF sz slot F x74 x92 x93 z74 z92 z93
theorem FL_fr {y74 y92 y93 : FI} {oc : C4} {or : R3} (h : fq74 x74 y74) (h2 : fr92 slot x92 x93 y92 y93) (hF : FL sz slot y74 y92 y93 oc or) : FL sz slot x74 x92 x93 oc or := by
  obtain ⟨F, y1, y13, y14, z74, z92, z93, a, b, c', d'⟩ := hF
  exact ⟨F, y1, y13, y14, z74, z92, z93, a, b, c', RF_fr h h2 d'⟩
/-- FM from what a fault left -/
theorem RF_FM {F : Nat} {y74 y92 y93 z74 z92 z93 : FI} (h : RS t sz c slot d e i p S E k x1 x3 x4 x5 x13 x14 x74 x91 x92 x93) (hf : fq74 x74 y74) (hR : RF sz slot F y74 y92 y93 z74 z92 z93) : FM t sz z74 x91 := by
  obtain ⟨hB, _, ⟨_, _, _, _, h26⟩, _⟩ := h
  obtain ⟨_, ⟨hz, h17, h18, h19, h91, hb⟩, _⟩ := hB
  obtain ⟨F0, F1, r19, hp, hfu, _⟩ := hR
  exact ⟨hz, by rw [hfu 17 (by omega) (by omega) (by omega) (by omega) (by omega) (by omega), hf 17 (by omega) (by omega) (by omega) (by omega)]; exact h17, hp, by rw [r19]; exact ne0 (by omega) (by omega), by rw [hfu 26 (by omega) (by omega) (by omega) (by omega) (by omega) (by omega), hf 26 (by omega) (by omega) (by omega) (by omega)]; exact h26, h91, hb⟩
/-- what a term comes to -/
def TT (t : FI) (sz c slot d e i0 : Nat) (P : Int32) (S E : List StO) (x3 x4 x5 x74 x91 x92 x93 : FI) (oc : C4) (or : R3) : Prop :=
  (∃ fuel n i k L V y1 y13 y14 z74 z92 z93, i0 < i ∧ Sem L 2 V ∧ oc = fX5_readSum_61 x3 x4 x5 (lq6 (fX5_readSum_6b x3 x4 x5) fuel) P (nI n) 0 y1 y13 y14 ∧ or = some (z74, z92, z93) ∧ RS t sz c slot d e i (ts t sz i) (S ++ L) (E ++ L) k y1 x3 x4 x5 y13 y14 z74 x91 z92 z93 ∧ fq74 x74 z74 ∧ fr92 slot x92 x93 z92 z93 ∧ c + 2 ≤ fuel + i ∧ 2 * n + 1 ≤ i ∧ ¬ (9 ≤ tc t sz (ts t sz i) ∧ tc t sz (ts t sz i) ≤ 11)) ∨ FL sz slot x74 x92 x93 oc or
theorem TT_fr {i0 : Nat} {P : Int32} {y74 y92 y93 : FI} {oc : C4} {or : R3} (h : fq74 x74 y74) (h2 : fr92 slot x92 x93 y92 y93) (hT : TT t sz c slot d e i0 P S E x3 x4 x5 y74 x91 y92 y93 oc or) : TT t sz c slot d e i0 P S E x3 x4 x5 x74 x91 x92 x93 oc or := by
  rcases hT with ⟨fuel, n, i, k, L, V, y1, y13, y14, z74, z92, z93, a0, a1, a2, a3, a4, a5, a6, a7⟩ | hF
  · exact Or.inl ⟨fuel, n, i, k, L, V, y1, y13, y14, z74, z92, z93, a0, a1, a2, a3, a4, fq_trans h a5, fr_trans h2 a6, a7⟩
  · exact Or.inr (FL_fr h h2 hF)
theorem p_within' {a lo hi : Nat} (ha : a < 1000) (hlo : lo < 1000) (hhi : hi < 1000) : fX11_isWithin (nI a) (nI lo) (nI hi) = some (if lo ≤ a ∧ a ≤ hi then 1 else 0) := by
  rw [p_isWithin]
  by_cases c1 : a < lo
  · rw [if_pos (nI_lt c1 (by omega)), if_neg (by omega)]
  · rw [if_neg (nI_nlt (by omega) (by omega))]
    by_cases c2 : hi < a
    · rw [if_pos (nI_lt c2 (by omega)), if_neg (by omega)]
    · rw [if_neg (nI_nlt (by omega) (by omega)), if_pos (by omega)]
theorem sum6_T {K : Int32 → Int32 → Int32 → FI → FI → FI → C4} {T P : Int32} (hT : ¬ T = 0) (hn : n < 400) : fX5_readSum_6b x3 x4 x5 K T P (nI n) x1 x13 x14 = bd4 (fX5_readValue x3 x4 x5 x1 x13 x14) fun r_5 x1_6 x13_7 x14_8 => (if r_5 = 0 then (some (0, x1_6, x13_7, x14_8)) else (bd3 (fX5_write T 0 x13_7 x14_8) fun r_10 x13_11 x14_12 => (fX5_readSum_33 x3 x4 x5 K P (nI n) x1_6 x13_11 x14_12))) := by
  unfold fX5_readSum_6b
  rw [if_neg (show ¬ (400 : Int32) ≤ nI n from nI_ge (b := 400) hn (by omega))]
  simp only [if_neg hT]
theorem sum6_0 {K : Int32 → Int32 → Int32 → FI → FI → FI → C4} {P : Int32} (hn : n < 400) : fX5_readSum_6b x3 x4 x5 K 0 P (nI n) x1 x13 x14 = bd4 (fX5_readValue x3 x4 x5 x1 x13 x14) fun r_5 x1_6 x13_7 x14_8 => (if r_5 = 0 then (some (0, x1_6, x13_7, x14_8)) else (fX5_readSum_33 x3 x4 x5 K P (nI n) x1_6 x13_7 x14_8)) := by
  unfold fX5_readSum_6b
  rw [if_neg (show ¬ (400 : Int32) ≤ nI n from nI_ge (b := 400) hn (by omega))]
  simp only [if_true]
theorem t_term {i0 : Nat} (P : Int32) : ∀ (m fuel kr n i k : Nat) (L : List StO) (V : (Nat → Int64) → Int64) (x1 x13 x14 x74 x92 x93 : FI), i0 < i → c ≤ i + m → c + 2 ≤ fuel + i → c + 2 ≤ kr + i → 2 * n + 1 ≤ i → RS t sz c slot d (e + 3) i (ts t sz i) (S ++ L) (E ++ L) k x1 x3 x4 x5 x13 x14 x74 x91 x92 x93 → Sem L 2 V → TT t sz c slot d (e + 3) i0 P S E x3 x4 x5 x74 x91 x92 x93 (fX5_readSum_33 x3 x4 x5 (lq6 (fX5_readSum_6b x3 x4 x5) fuel) P (nI n) x1 x13 x14) (lq3 (fX12_term_8b x91) kr x74 x92 x93)
  | m, fuel, 0, n, i, k, L, V, x1, x13, x14, x74, x92, x93, h0, hm, hf, hkr, hn, hR, hS => by
    have := (RS_lim hR).2.2.1
    omega
  | m, 0, kr + 1, n, i, k, L, V, x1, x13, x14, x74, x92, x93, h0, hm, hf, hkr, hn, hR, hS => by
    have := (RS_lim hR).2.2.1
    omega
  | m, fuel + 1, kr + 1, n, i, k, L, V, x1, x13, x14, x74, x92, x93, h0, hm, hf, hkr, hn, hR, hS => by
    obtain ⟨hz, hc, hic, _⟩ := RS_lim hR
    have hb := hR.1.2.1.2.2.2.2.2
    have h19 : x74 19 = 0 := hR.1.2.1.2.2.2.1
    have tl := tc_lt (t := t) (s := ts t sz i) hz
    have hsg := RS_sign hR
    show TT t sz c slot d (e + 3) i0 P S E x3 x4 x5 x74 x91 x92 x93 _ (fX12_term_8b x91 (lq3 (fX12_term_8b x91) kr) x74 x92 x93)
    unfold fX5_readSum_33
    rw [RS_code hR, bd1_s, show (9 : Int32) = nI 9 from rfl, show (11 : Int32) = nI 11 from rfl, p_within' (by omega) (by omega) (by omega), bd1_s]
    by_cases c1 : 9 ≤ tc t sz (ts t sz i) ∧ tc t sz (ts t sz i) ≤ 11
    · have hlt : ts t sz i < sz := by
        refine Nat.not_le.mp fun hh => ?_
        have : tc t sz (ts t sz i) = 0 := by unfold tc; rw [if_pos hh]
        omega
      have enx := nx_sign (t := t) hlt hz (by omega) (by omega)
      rw [if_neg (by omega)] at enx
      obtain ⟨m', rfl⟩ : ∃ m', m = m' + 1 := by
        refine ⟨m - 1, ?_⟩
        have : i < c := by
          refine Nat.lt_of_le_of_ne hic fun e => ?_
          rw [e, hR.1.1.2.2.1] at hlt
          omega
        omega
      have tm := ts_mono (t := t) (i := i) hlt
      obtain ⟨esk, hR1⟩ := RS_tok (d' := d + 1) (e' := e) (z74 := upd x74 18 (nI (ts t sz i + 1))) hR hlt (by rw [enx]; rfl) (fun j j1 _ _ => pk_un j1) (by omega) (by omega)
      have ref : fX12_term_8b x91 (lq3 (fX12_term_8b x91) kr) x74 x92 x93 = fX12_term_72 x91 (lq3 (fX12_term_8b x91) kr) (nI (srt (tc t sz (ts t sz i)))) x74 x92 x93 := by
        unfold fX12_term_8b fX12_term_42
        rw [if_pos h19, hsg, bd1_s]
        by_cases k9 : tc t sz (ts t sz i) = 9
        · rw [if_pos ((sg_42 hz hb).mpr k9), bd1_s, if_pos ((sg_42 hz hb).mpr k9), k9]
          rfl
        · rw [if_neg (fun hh => k9 ((sg_42 hz hb).mp hh)), bd1_s, bd1_s, if_neg (fun hh => k9 ((sg_42 hz hb).mp hh)), bd1_s]
          by_cases k10 : tc t sz (ts t sz i) = 10
          · rw [if_pos ((sg_47 hz hb).mpr k10), if_pos ((sg_47 hz hb).mpr k10), k10]
            rfl
          · rw [if_neg (fun hh => k10 ((sg_47 hz hb).mp hh)), bd1_s, if_pos ((sg_37 hz hb).mpr (by omega)), if_neg (fun hh => k10 ((sg_47 hz hb).mp hh)), show tc t sz (ts t sz i) = 11 by omega]
            rfl
      have cls : (if (if 9 ≤ tc t sz (ts t sz i) ∧ tc t sz (ts t sz i) ≤ 11 then (1 : Int32) else 0) = 0 then fX5_readSum_61 x3 x4 x5 (lq6 (fX5_readSum_6b x3 x4 x5) (fuel + 1)) P (nI n) 0 x1 x13 x14 else (bd1 (some (nI (tc t sz (ts t sz i)))) fun r_5 => (fX5_readSum_61 x3 x4 x5 (lq6 (fX5_readSum_6b x3 x4 x5) (fuel + 1)) P (nI n) r_5 x1 x13 x14))) = bd4 (fX5_readValue x3 x4 x5 (upd x1 6 (nI (i + 1))) x13 x14) fun r_5 x1_6 x13_7 x14_8 => (if r_5 = 0 then (some (0, x1_6, x13_7, x14_8)) else (bd3 (fX5_write (nI (tc t sz (ts t sz i))) 0 x13_7 x14_8) fun r_10 x13_11 x14_12 => (fX5_readSum_33 x3 x4 x5 (lq6 (fX5_readSum_6b x3 x4 x5) fuel) P (nI (n + 1)) x1_6 x13_11 x14_12))) := by
        rw [if_pos c1, if_neg one_ne, bd1_s]
        unfold fX5_readSum_61 fX5_readSum_112
        rw [if_neg (ne0 (by omega) (by omega)), esk, bd1_s, bn_s, nI_1]
        show fX5_readSum_6b x3 x4 x5 (lq6 (fX5_readSum_6b x3 x4 x5) fuel) _ _ _ _ _ _ = _
        exact sum6_T (ne0 (by omega) (by omega)) (by omega)
      rw [cls, ref]
      unfold fX12_term_72
      rw [RS_p hR, nI_1]
      rcases e_val hR1 with ⟨o, Vo, p', y1, y13, y14, z74, z92, z93, hso, ec, er, hR2, fz, f92⟩ | ⟨F, y1, y13, y14, z74, z92, z93, ec, y17, er, hRF⟩
      · obtain ⟨ow, oe, hR3⟩ := RS_op (q := tc t sz (ts t sz i)) hR2 (Or.inl (by unfold isBin; omega))
        obtain ⟨w74, ew, w18, hR4, fw, _⟩ := RS_blank hR3
        rw [ec, bd4_s, if_neg one_ne, ow, bd3_s, er, bd3_s, oe, bd3_s, ew, bd1_s]
        have hsem := Sem_bin (c := tc t sz (ts t sz i)) (h := 2) (by unfold isBin; omega) hS hso (by omega) (by omega)
        rw [app4 S, app4 E] at hR4
        have ih := t_term (i0 := i0) P m' fuel kr (n + 1) (i + 1 + 1) (k + 1) _ _ _ _ _ _ _ _ (by omega) (by omega) (by omega) (by omega) (by omega) hR4 hsem
        exact TT_fr (fq_trans (fq_trans (fq_trans fq_18 fz) fq_op) fw) (fr_trans f92 fr_op) ih
      · have r19 : z74 19 ≠ 0 := by rw [hRF.2.2.1]; exact ne0 (by have := hRF.1; omega) (by have := hRF.2.1; omega)
        obtain ⟨w74, s, ew, w18, hs, wf, hFM⟩ := FM_blanks (RF_FM hR fq_18 hRF)
        refine Or.inr ⟨F, y1, y13, y14, w74, z92, z93, ?_, y17, ?_, ?_⟩
        · rw [ec, bd4_s, if_pos rfl]
        · rw [er, bd3_s, p_entryF r19, bd3_s, ew, bd1_s]
          match kr, hkr with
          | 0, hkr => omega
          | kr + 1, hkr =>
            show fX12_term_8b x91 (lq3 (fX12_term_8b x91) kr) w74 z92 z93 = _
            unfold fX12_term_8b
            rw [if_neg (by rw [wf 19 (by omega)]; exact r19)]
        · obtain ⟨a, b, c', _, e', f⟩ := RF_fr (x92 := x92) (x93 := x93) fq_18 fr_refl hRF
          exact ⟨a, b, (wf 19 (by omega)).trans c', ⟨s, w18, hs⟩, fun j j1 j2 j3 j4 j5 j6 => (wf j j1).trans (e' j j1 j2 j3 j4 j5 j6), f⟩
    · rw [if_neg c1, if_pos rfl]
      refine Or.inl ⟨fuel + 1, n, i, k, L, V, x1, x13, x14, x74, x92, x93, h0, hS, rfl, ?_, hR, fun _ _ _ _ _ => rfl, fr_refl, hf, hn, c1⟩
      unfold fX12_term_8b
      rw [if_pos h19, hsg, bd1_s, if_neg (fun hh => by have := (sg_42 hz hb).mp hh; omega), bd1_s, if_neg (fun hh => by have := (sg_47 hz hb).mp hh; omega), bd1_s, if_neg (fun hh => by have := (sg_37 hz hb).mp hh; omega)]
end SUM

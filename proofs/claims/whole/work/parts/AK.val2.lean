/-- the reference behind a fault -/
def FM (t : Nat → Int32) (sz : Nat) (x74 x91 : Nat → Int32) : Prop := sz ≤ 400 ∧ x74 17 = nI sz ∧ (∃ p, x74 18 = nI p ∧ p ≤ sz + 2) ∧ x74 19 ≠ 0 ∧ x74 26 = 12 ∧ (∀ j, j < 400 → x91 j = t j) ∧ ∀ j, j < 400 → bR (t j)
section VAL2
variable {x1 x3 x4 x5 x13 x14 x74 x91 x92 x93 t : Nat → Int32} {sz c slot d e i p k : Nat} {S E : List StO}
theorem FM_blanks (h : FM t sz x74 x91) : ∃ z74 s, fX12_blanks x91 x74 = some z74 ∧ z74 18 = nI s ∧ s ≤ sz + 2 ∧ (∀ j, j ≠ 18 → z74 j = x74 j) ∧ FM t sz z74 x91 := by
  obtain ⟨hz, h17, ⟨p, h18, hp⟩, h19, h26, h91, hb⟩ := h
  obtain ⟨w74, ew, w18, wf⟩ := p_blanks hz h17 h18 (by omega) h91 hb
  have hs : bk t sz p ≤ sz + 2 := by
    by_cases k : p ≤ sz
    · have := (bk_le (t := t) k).2; omega
    · rw [bk_end (by omega)]; exact hp
  exact ⟨w74, bk t sz p, ew, w18, hs, wf, hz, (wf 17 (by omega)).trans h17, ⟨_, w18, hs⟩, by rw [wf 19 (by omega)]; exact h19, (wf 26 (by omega)).trans h26, h91, hb⟩
theorem FM_set {z74 : Nat → Int32} {q : Nat} (h : FM t sz x74 x91) (hf : ∀ j, j ≠ 18 → j ≠ 24 → z74 j = x74 j) (h18 : z74 18 = nI q) (hq : q ≤ sz + 2) : FM t sz z74 x91 := by
  obtain ⟨hz, h17, _, h19, h26, h91, hb⟩ := h
  exact ⟨hz, (hf 17 (by omega) (by omega)).trans h17, ⟨q, h18, hq⟩, by rw [hf 19 (by omega) (by omega)]; exact h19, (hf 26 (by omega) (by omega)).trans h26, h91, hb⟩
theorem value_F (h : FM t sz x74 x91) : ∃ z74, fX12_value x91 x74 x92 x93 = some (z74, x92, x93) ∧ (∀ j, j ≠ 18 → j ≠ 24 → z74 j = x74 j) ∧ FM t sz z74 x91 := by
  obtain ⟨w74, s, ew, w18, hs, wf, hw⟩ := FM_blanks h
  obtain ⟨hz, w17, _, w19, w26, h91, hb⟩ := id hw
  unfold fX12_value fX12_value_0
  rw [ew, bd1_s, bn_s, w18, p_isDigit hz w17 w18 (by omega) h91 hb, bd1_s]
  by_cases c1 : s < sz ∧ isR t 48 57 s = true
  · obtain ⟨v, a74, q, ea, af, a18, hq⟩ := p_digitsF hz w17 w18 c1.1 c1.2 w19 h91 hb
    obtain ⟨b74, eb, bf⟩ := p_countF (x74 := a74) (v := s) (by rw [af 19 (by omega)]; exact w19)
    have b19 : b74 19 ≠ 0 := by rw [bf 19 (by omega), af 19 (by omega)]; exact w19
    rw [if_pos c1, if_neg (show ¬ nI 1 = (0 : Int32) from one_ne), ea, bd2_s, eb, bd1_s, p_entryF b19, bd3_s]
    have ff : ∀ j, j ≠ 18 → j ≠ 24 → b74 j = w74 j := fun j a b => (bf j b).trans (af j a)
    exact ⟨b74, rfl, fun j a b => (ff j a b).trans (wf j a), FM_set hw ff ((bf 18 (by omega)).trans a18) (by omega)⟩
  · rw [if_neg c1, if_pos z00, p_words hz (by omega) w17 w18 w26 h91]
    unfold fX12_value_62
    rw [w26]
    by_cases c2 : 17 ≤ tc t sz s ∧ tc t sz s < 29
    · have ek : wk (tc t sz s) = tc t sz s - 17 := by unfold wk; rw [if_pos c2]
      obtain ⟨e1, e2⟩ := rw_t (tc t sz s - 17) (by omega)
      have hss : s ≤ sz := by
        refine Nat.not_lt.mp fun hh => ?_
        have : tc t sz s = 0 := by unfold tc; rw [if_pos (by omega)]
        omega
      obtain ⟨s1, s2⟩ := nx_word (t := t) (w := tc t sz s - 17) hz hss (by omega) (by omega)
      have nl := nx_le (t := t) s1
      obtain ⟨b74, eb, bf⟩ := p_countF (x74 := w74) (v := s) w19
      have b18 : b74 18 = nI s := (bf 18 (by omega)).trans w18
      rw [ek, if_neg (show ¬ nI (tc t sz s - 17) = (12 : Int32) from fun hh => by have := (nI_eq (b := 12) (by omega) (by omega)).mp hh; omega), eb, bd1_s, e1, bd1_s, gd_t (decide_eq_true e2), p_entryF (by rw [pk_un (by omega), bf 19 (by omega)]; exact w19), bd3_s]
      have ff : ∀ j, j ≠ 18 → j ≠ 24 → upd b74 18 (b74 18 + slen (tc t sz s - 17)) j = w74 j := fun j a b => by rw [pk_un a]; exact bf j b
      refine ⟨_, rfl, fun j a b => (ff j a b).trans (wf j a), FM_set (q := s + wlen (tc t sz s - 17)) hw ff ?_ (by omega)⟩
      rw [pk_us, b18, (slen_w (tc t sz s - 17) (by omega)).1, nI_add]
    · have ek : wk (tc t sz s) = 12 := by unfold wk; rw [if_neg c2]
      rw [ek, if_pos (show nI 12 = (12 : Int32) from rfl), show (0 : Int32) = nI 0 from rfl, (p_fails (x74 := w74)).2 w19, bd1_s]
      have ff : ∀ j, j ≠ 18 → j ≠ 24 → upd w74 19 (w74 19) j = w74 j := fun j a b => by
        by_cases e : j = 19
        · subst e; exact pk_us
        · exact pk_un e
      exact ⟨_, rfl, fun j a b => (ff j a b).trans (wf j a), FM_set hw ff ((pk_un (by omega)).trans w18) hs⟩
theorem term_F (h : FM t sz x74 x91) : ∃ z74, fX12_term x91 x74 x92 x93 = some (z74, x92, x93) ∧ (∀ j, j ≠ 18 → j ≠ 24 → z74 j = x74 j) ∧ FM t sz z74 x91 := by
  obtain ⟨a74, ea, af, ha⟩ := value_F (x92 := x92) (x93 := x93) h
  obtain ⟨b74, s, eb, b18, hs, bf, hb⟩ := FM_blanks ha
  refine ⟨b74, ?_, fun j a b => (bf j a).trans (af j a b), hb⟩
  unfold fX12_term fX12_term_0
  rw [ea, bd3_s, eb, bd1_s]
  unfold fX12_term_8
  show fX12_term_8b x91 (lq3 (fX12_term_8b x91) 4999) b74 x92 x93 = _
  unfold fX12_term_8b
  rw [if_neg hb.2.2.2.1]
theorem sum_F (h : FM t sz x74 x91) : ∃ z74, fX12_sum x91 x74 x92 x93 = some (z74, x92, x93) ∧ (∀ j, j ≠ 18 → j ≠ 24 → z74 j = x74 j) ∧ FM t sz z74 x91 := by
  obtain ⟨a74, ea, af, ha⟩ := term_F (x92 := x92) (x93 := x93) h
  refine ⟨a74, ?_, af, ha⟩
  unfold fX12_sum fX12_sum_0
  rw [ea, bd3_s]
  unfold fX12_sum_4
  show fX12_sum_4b x91 (lq3 (fX12_sum_4b x91) 4999) a74 x92 x93 = _
  unfold fX12_sum_4b
  rw [if_neg ha.2.2.2.1]
theorem ts_mono (h : ts t sz i < sz) : nx t sz (ts t sz i) ≤ ts t sz (i + 1) ∧ ts t sz i < ts t sz (i + 1) := by
  have n := nx_le (t := t) h
  rw [ts_s h]
  have := (bk_le (t := t) n.2).1
  omega
theorem len1 {o : StO} : (S ++ [o]).length = S.length + 1 := by simp
theorem RF_mk {F q : Nat} {z74 : Nat → Int32} (hF : 0 < F ∧ F < 5000) (h19 : z74 19 = nI F) (h18 : z74 18 = nI q) (hq : q ≤ sz + 2) (hf : fu74 x74 z74) : RF sz slot F x74 x92 x93 z74 x92 x93 := ⟨hF.1, hF.2, h19, ⟨q, h18, hq⟩, hf, fr_refl⟩
theorem e_val (h : RS t sz c slot d e i p S E k x1 x3 x4 x5 x13 x14 x74 x91 x92 x93) : (∃ o V p' y1 y13 y14 z74 z92 z93, Sem [o] 1 V ∧ fX5_readValue x3 x4 x5 x1 x13 x14 = some (1, y1, y13, y14) ∧ fX12_value x91 x74 x92 x93 = some (z74, z92, z93) ∧ RS t sz c slot d (e + 3) (i + 1) p' (S ++ [o]) (E ++ [o]) (k + 1) y1 x3 x4 x5 y13 y14 z74 x91 z92 z93 ∧ fq74 x74 z74 ∧ fr92 slot x92 x93 z92 z93) ∨ ∃ F y1 y13 y14 z74 z92 z93, fX5_readValue x3 x4 x5 x1 x13 x14 = some (0, y1, y13, y14) ∧ y1 7 = nI F ∧ fX12_value x91 x74 x92 x93 = some (z74, z92, z93) ∧ RF sz slot F x74 x92 x93 z74 z92 z93 := by
  obtain ⟨hB, ⟨h2, h3, hS⟩, ⟨h20, h22, h24, hE, h26⟩, hsl, hk, hSi, hEk⟩ := h
  have hz := hB.1.1
  have hc := hB.1.2.1
  have hic := hB.2.2.2.2
  have tsl := ts_le (t := t) (sz := sz) i
  obtain ⟨w74, ew, w18, wf, bw⟩ := BP_blank hB
  obtain ⟨_, ⟨_, w17, _, w19, h91, hb⟩, _, _, _⟩ := id bw
  have tl := tc_lt (t := t) (s := ts t sz i) hz
  have td := tc_digit (t := t) tsl hz
  have rdl := rd_le (t := t) tsl
  have flf : ∀ kd, kd < 10 → 0 < flt (ts t sz i) kd ∧ flt (ts t sz i) kd < 5000 := fun kd hk => flt_lt (by omega) hk
  have w20 : w74 20 = nI slot := (wf 20 (by omega)).trans h20
  have w22 : w74 22 = nI E.length := (wf 22 (by omega)).trans h22
  have w24 : w74 24 = nI k := (wf 24 (by omega)).trans h24
  have w26 : w74 26 = 12 := (wf 26 (by omega)).trans h26
  have eq : ∀ b : Nat, b < 1000 → (nI (tc t sz (ts t sz i)) = nI b ↔ tc t sz (ts t sz i) = b) := fun b hb => nI_eq (by omega) (by omega)
  -- a value that is counted and written
  have good : ∀ (o : StO) (V : (Nat → Int64) → Int64) (a74 : Nat → Int32), Sem [o] 1 V → o.1 = tc t sz (ts t sz i) → o.2 = tn t sz (ts t sz i) → ts t sz i < sz → (∀ j, j ≠ 18 → j ≠ 24 → a74 j = w74 j) → a74 18 = nI (nx t sz (ts t sz i)) → a74 24 = nI (k + 1) → k < 60 → (∃ p' y1 y13 y14 z74 z92 z93, fX5_readValue_47 x3 x4 x5 (nI (tc t sz (ts t sz i))) x1 x13 x14 = some (1, y1, y13, y14) ∧ bd3 (fX12_entry (nI (srt o.1)) (nI (rnm o)) a74 x92 x93) (fun a b c => some (a, b, c)) = some (z74, z92, z93) ∧ RS t sz c slot d (e + 3) (i + 1) p' (S ++ [o]) (E ++ [o]) (k + 1) y1 x3 x4 x5 y13 y14 z74 x91 z92 z93 ∧ fq74 x74 z74 ∧ fr92 slot x92 x93 z92 z93) := by
    intro o V a74 hSem o1 o2 hlt af a18 a24 k60
    have vo := VO_lt (hSem.1 o (List.mem_singleton.mpr rfl))
    refine ⟨nx t sz (ts t sz i), upd x1 6 (nI (i + 1)), upd (upd x13 3 (nI (k + 1))) 2 (nI (S.length + 1)), upd x14 S.length (nI (64 * o.2 + o.1)), upd a74 22 (nI (E.length + 1)), upd x92 (300 * slot + E.length) (nI (srt o.1)), upd x93 (300 * slot + E.length) (nI (rnm o)), ?_, ?_, ⟨?_, ⟨by rw [len1]; rfl, rfl, ES_add hS⟩, ⟨?_, by rw [len1]; rfl, ?_, ER_add hE, ?_⟩, hsl, by omega, by rw [len1]; omega, ?_⟩, ?_, ?_⟩
    · unfold fX5_readValue_47
      rw [h3, if_pos (show nI k < (60 : Int32) from nI_lt (b := 60) k60 (by omega)), p_number hB.1, bd1_s, nI_1, ← o1, ← o2, p_write (x13 := upd x13 3 (nI (k + 1))) (S := S) (by omega) h2 (by omega), bd3_s, (p_skip hB.1 (by omega)).1, bd1_s]
    · rw [p_entry (E := E) (by rw [af 19 (by omega) (by omega)]; exact w19) ((af 20 (by omega) (by omega)).trans w20) hsl ((af 22 (by omega) (by omega)).trans w22) (by omega), bd3_s]
    · exact BP_next bw hlt (by rw [pk_un (by omega)]; exact af 17 (by omega) (by omega)) (by rw [pk_un (by omega)]; exact af 19 (by omega) (by omega)) ((pk_un (by omega)).trans a18)
    · rw [pk_un (by omega), af 20 (by omega) (by omega)]; exact w20
    · rw [pk_un (by omega)]; exact a24
    · rw [pk_un (by omega), af 26 (by omega) (by omega)]; exact w26
    · have := ts_mono (t := t) (i := i) hlt
      rw [len1]; omega
    · intro j j1 j2 j3 j4
      rw [pk_un j3, af j j1 j4, wf j j1]
    · intro j hj
      exact ⟨pk_un (by omega), pk_un (by omega)⟩
  have bad3 : k = 60 → fX5_readValue_47 x3 x4 x5 (nI (tc t sz (ts t sz i))) x1 x13 x14 = some (0, upd x1 7 (nI (flt (ts t sz i) 3)), x13, x14) := by
    intro k60
    unfold fX5_readValue_47
    rw [h3, if_neg (show ¬ nI k < (60 : Int32) by rw [k60]; decide), show (3 : Int32) = nI 3 from rfl, p_fail hB.1, bd2_s, gd_t (by decide)]
  unfold fX5_readValue fX5_readValue_0 fX12_value fX12_value_0
  rw [p_code hB.1, bd1_s, ew, bd1_s, bn_s, w18, p_isDigit hz w17 w18 (by omega) h91 hb, bd1_s]
  by_cases c1 : ts t sz i < rd t sz (ts t sz i)
  · have hd := rn_in (P := isR t 48 57) (sz - ts t sz i) (ts t sz i) (ts t sz i) (Nat.le_refl _) c1
    have hlt : ts t sz i < sz := by omega
    have enx : nx t sz (ts t sz i) = rd t sz (ts t sz i) := by unfold nx; rw [if_pos c1]
    rw [if_pos (show ts t sz i < sz ∧ isR t 48 57 (ts t sz i) = true from ⟨hlt, hd⟩), if_neg (show ¬ nI 1 = (0 : Int32) from one_ne)]
    obtain ⟨v, a74, ea, af, cs⟩ := p_digits (x74 := w74) hz w17 w18 tsl w19 h91 hb
    have e12 := td.2 c1
    rw [ea, bd2_s]
    rcases cs with ⟨a1, _⟩ | ⟨_, a2, a3, a4⟩ | ⟨_, a2, a3, a4, a5, a6⟩
    · omega
    · rw [if_neg (by omega)] at e12
      refine Or.inr ?_
      obtain ⟨b74, eb, bf⟩ := p_countF (x74 := a74) (v := ts t sz i) (by rw [a4]; exact ne0 (by have := flf 1 (by omega); omega) (by have := flf 1 (by omega); omega))
      have b19 : b74 19 = nI (flt (ts t sz i) 1) := (bf 19 (by omega)).trans a4
      rw [if_pos (show nI (tc t sz (ts t sz i)) = (2 : Int32) by rw [e12]; rfl), show (1 : Int32) = nI 1 from rfl, p_fail hB.1, bd2_s, gd_t (by decide), eb, bd1_s, p_entryF (by rw [b19]; exact ne0 (by have := flf 1 (by omega); omega) (by have := flf 1 (by omega); omega)), bd3_s]
      exact ⟨_, _, x13, x14, b74, x92, x93, rfl, pk_us, rfl, RF_mk (flf 1 (by omega)) b19 ((bf 18 (by omega)).trans a3) (by omega) fun j j1 j2 j3 j4 j5 j6 => by rw [bf j j5, af j j1 j2, wf j j1]⟩
    · rw [if_pos (by omega)] at e12
      rw [if_neg (show ¬ nI (tc t sz (ts t sz i)) = (2 : Int32) by rw [e12]; decide), if_pos (show nI (tc t sz (ts t sz i)) = (1 : Int32) by rw [e12]; rfl)]
      rcases p_count (x74 := a74) (v := ts t sz i) a6 ((af 24 (by omega) (by omega)).trans w24) hk with ⟨k60, ec⟩ | ⟨k60, ec⟩
      · refine Or.inl ?_
        obtain ⟨p', y1, y13, y14, z74, z92, z93, g1, g2, g3⟩ := good (1, tn t sz (ts t sz i)) _ (upd a74 24 (nI (k + 1))) (Sem_num a4) e12.symm rfl hlt (fun j j1 j2 => by
          rw [pk_un j2]
          by_cases e : j = 19
          · subst e; rw [a6, w19]
          · exact af j j1 e) (by rw [pk_un (by omega), enx]; exact a5) pk_us k60
        rw [ec, bd1_s, a3]
        exact ⟨_, _, p', y1, y13, y14, z74, z92, z93, Sem_num a4, g1, g2, g3⟩
      · refine Or.inr ?_
        rw [ec, bd1_s, p_entryF (by rw [pk_un (by omega), pk_us]; exact ne0 (by have := flf 3 (by omega); omega) (by have := flf 3 (by omega); omega)), bd3_s]
        exact ⟨_, _, x13, x14, _, x92, x93, bad3 k60, pk_us, rfl, RF_mk (q := rd t sz (ts t sz i)) (flf 3 (by omega)) (by rw [pk_un (by omega), pk_us]) (by rw [pk_un (by omega), pk_un (by omega)]; exact a5) (by omega) fun j j1 j2 j3 j4 j5 j6 => by rw [pk_un j5, pk_un j2, af j j1 j2, wf j j1]⟩
  · have er : rd t sz (ts t sz i) = ts t sz i := by omega
    have n12 := td.1 er
    have tn0 : tn t sz (ts t sz i) = 0 := by unfold tn; rw [if_neg (by omega)]
    rw [if_neg (show ¬ (ts t sz i < sz ∧ isR t 48 57 (ts t sz i) = true) from fun hh => c1 (by
      have e : rd t sz (ts t sz i) = rn (isR t 48 57) (sz - (ts t sz i + 1)) (ts t sz i + 1) := by
        unfold rd
        rw [show sz - ts t sz i = (sz - (ts t sz i + 1)) + 1 by omega]
        show (if isR t 48 57 (ts t sz i) = true then _ else _) = _
        rw [if_pos hh.2]
      have := rn_ge (P := isR t 48 57) (sz - (ts t sz i + 1)) (ts t sz i + 1)
      omega)), if_pos z00, p_words hz (by omega) w17 w18 w26 h91, if_neg (show ¬ nI (tc t sz (ts t sz i)) = (2 : Int32) from fun hh => n12.2 ((eq 2 (by omega)).mp hh)), if_neg (show ¬ nI (tc t sz (ts t sz i)) = (1 : Int32) from fun hh => n12.1 ((eq 1 (by omega)).mp hh))]
    unfold fX12_value_62
    rw [w26]
    by_cases c2 : 17 ≤ tc t sz (ts t sz i) ∧ tc t sz (ts t sz i) < 29
    · have ek : wk (tc t sz (ts t sz i)) = tc t sz (ts t sz i) - 17 := by unfold wk; rw [if_pos c2]
      obtain ⟨e1, e2⟩ := rw_t (tc t sz (ts t sz i) - 17) (by omega)
      obtain ⟨s1, s2⟩ := nx_word (t := t) (w := tc t sz (ts t sz i) - 17) hz tsl (by omega) (by omega)
      have hw1 : fX11_isWithin (nI (tc t sz (ts t sz i))) 17 28 = some 1 := by
        rw [p_isWithin, if_neg (show ¬ nI (tc t sz (ts t sz i)) < (17 : Int32) from nI_nlt (b := 17) (by omega) (by omega)), if_neg (show ¬ (28 : Int32) < nI (tc t sz (ts t sz i)) from nI_nlt (a := 28) (by omega) (by omega))]
      rw [hw1, bd1_s, if_neg one_ne, ek, if_neg (show ¬ nI (tc t sz (ts t sz i) - 17) = (12 : Int32) from fun hh => by have := (nI_eq (b := 12) (by omega) (by omega)).mp hh; omega)]
      rcases p_count (x74 := w74) (v := ts t sz i) w19 w24 hk with ⟨k60, ec⟩ | ⟨k60, ec⟩
      · refine Or.inl ?_
        have e17 : 17 + (tc t sz (ts t sz i) - 17) = tc t sz (ts t sz i) := by omega
        have hsem := Sem_word (k := tc t sz (ts t sz i) - 17) (by omega)
        rw [e17] at hsem
        have es : srt (tc t sz (ts t sz i)) = 1 := by
          have : ∀ x, 17 ≤ x → x < 29 → srt x = 1 := by
            intro x h1 h2
            unfold srt
            rw [if_neg (by omega), if_neg (by omega), if_neg (by omega), if_neg (by omega), if_neg (by omega), if_neg (by omega), if_neg (by omega), if_neg (by omega), if_neg (by omega), if_neg (by omega), if_neg (by omega), if_neg (by omega), if_pos (by omega)]
          exact this _ c2.1 c2.2
        have en : rnm (tc t sz (ts t sz i), 0) = tc t sz (ts t sz i) - 17 := by
          unfold rnm
          rw [if_pos (show 17 ≤ tc t sz (ts t sz i) ∧ tc t sz (ts t sz i) ≤ 28 by omega)]
        obtain ⟨p', y1, y13, y14, z74, z92, z93, g1, g2, g3⟩ := good (tc t sz (ts t sz i), 0) _ (upd (upd w74 24 (nI (k + 1))) 18 (upd w74 24 (nI (k + 1)) 18 + slen (tc t sz (ts t sz i) - 17))) hsem rfl tn0.symm s1 (fun j j1 j2 => by rw [pk_un j1, pk_un j2]) (by rw [pk_us, pk_un (by omega), w18, (slen_w (tc t sz (ts t sz i) - 17) (by omega)).1, nI_add, s2]) (by rw [pk_un (by omega), pk_us]) k60
        have g2' : bd3 (fX12_entry (nI (srt (tc t sz (ts t sz i)))) (nI (rnm (tc t sz (ts t sz i), 0))) (upd (upd w74 24 (nI (k + 1))) 18 (upd w74 24 (nI (k + 1)) 18 + slen (tc t sz (ts t sz i) - 17))) x92 x93) (fun a b c => some (a, b, c)) = some (z74, z92, z93) := g2
        rw [es, en] at g2'
        rw [ec, bd1_s, e1, bd1_s, gd_t (decide_eq_true e2)]
        exact ⟨_, _, p', y1, y13, y14, z74, z92, z93, hsem, g1, g2', g3⟩
      · refine Or.inr ?_
        have f3 := flf 3 (by omega)
        rw [ec, bd1_s, e1, bd1_s, gd_t (decide_eq_true e2), p_entryF (by rw [pk_un (by omega), pk_un (by omega), pk_us]; exact ne0 (by omega) (by omega)), bd3_s]
        have nl := nx_le (t := t) s1
        exact ⟨_, _, x13, x14, _, x92, x93, bad3 k60, pk_us, rfl, RF_mk (q := nx t sz (ts t sz i)) f3 (by rw [pk_un (by omega), pk_un (by omega), pk_us]) (by rw [pk_us, pk_un (by omega), pk_un (by omega), w18, (slen_w (tc t sz (ts t sz i) - 17) (by omega)).1, nI_add, s2]) (by omega) fun j j1 j2 j3 j4 j5 j6 => by rw [pk_un j1, pk_un j5, pk_un j2, wf j j1]⟩
    · have ek : wk (tc t sz (ts t sz i)) = 12 := by unfold wk; rw [if_neg c2]
      refine Or.inr ?_
      have hw0 : fX11_isWithin (nI (tc t sz (ts t sz i))) 17 28 = some 0 := by
        rw [p_isWithin]
        by_cases a : tc t sz (ts t sz i) < 17
        · rw [if_pos (show nI (tc t sz (ts t sz i)) < (17 : Int32) from nI_lt (b := 17) a (by omega))]
        · rw [if_neg (show ¬ nI (tc t sz (ts t sz i)) < (17 : Int32) from nI_nlt (b := 17) (by omega) (by omega)), if_pos (show (28 : Int32) < nI (tc t sz (ts t sz i)) from nI_lt (a := 28) (by omega) (by omega))]
      rw [hw0, bd1_s, if_pos rfl, ek, if_pos (show nI 12 = (12 : Int32) from rfl), show (0 : Int32) = nI 0 from rfl, p_fail hB.1, bd2_s, gd_t (by decide), (p_fails (x74 := w74)).1 w19, bd1_s]
      exact ⟨_, _, x13, x14, _, x92, x93, rfl, pk_us, rfl, RF_mk (q := ts t sz i) (flf 0 (by omega)) pk_us ((pk_un (by omega)).trans w18) (by omega) fun j j1 j2 j3 j4 j5 j6 => by rw [pk_un j2, wf j j1]⟩
end VAL2

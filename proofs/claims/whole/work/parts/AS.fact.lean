section FACT
variable {x1 x3 x4 x5 x13 x14 x74 x91 x92 x93 x98 t : Nat → Int32} {sz c slot d e i p k n o D j : Nat} {S E L : List StO}
theorem test_F {fuel : Nat} {v1 v2 : Int32} (h19 : x74 19 ≠ 0) : lq6 (fX12_test_9b x91) (fuel + 1) v1 v2 x74 x92 x93 x98 = some (x74, x92, x93, x98) := by
  show fX12_test_9b x91 (lq6 (fX12_test_9b x91) fuel) v1 v2 x74 x92 x93 x98 = _
  generalize lq6 (fX12_test_9b x91) fuel = K
  unfold fX12_test_9b
  by_cases k : v2 = 0
  · rw [if_pos k]
  · rw [if_neg k, if_neg h19]
theorem p_opens2 {q : Nat} (h25 : x74 25 = nI o) (ho : o < 402) (hq : q = 9 ∨ q = 12) (h23 : x74 23 = nI D) (hD : D < 10) : fX12_opens (nI q) x74 x98 = some (upd (upd x74 23 (nI (D + 1))) 25 (nI (o + 1)), upd x98 o (nI q)) := by
  have e : fX12_opens (nI q) x74 x98 = fX12_opens_12 (nI q) x74 x98 := by
    unfold fX12_opens fX12_opens_0
    rcases hq with rfl | rfl
    · rw [if_pos (show nI 9 = (9 : Int32) from rfl)]
    · rw [if_neg (by decide), if_pos (show nI 12 = (12 : Int32) from rfl)]
  rw [e]
  unfold fX12_opens_12 fX12_opens_30 fX12_opens_40
  rw [h23, if_neg (show ¬ nI D = (10 : Int32) from fun hh => by have := (nI_eq (b := 10) (by omega) (by omega)).mp hh; omega), nI_1, pk_un (by omega), h25, gd_t (inbN ho (by decide)), nI_1, clN (by omega)]
theorem p_opens2F {q s : Nat} (h25 : x74 25 = nI o) (ho : o < 402) (hq : q = 9 ∨ q = 12) (h23 : x74 23 = nI 10) (h19 : x74 19 = 0) (h18 : x74 18 = nI s) : ∃ z74 z98, fX12_opens (nI q) x74 x98 = some (z74, z98) ∧ z74 19 = nI (flt s 2) ∧ ∀ j, j ≠ 19 → j ≠ 23 → j ≠ 25 → z74 j = x74 j := by
  have e : fX12_opens (nI q) x74 x98 = fX12_opens_12 (nI q) x74 x98 := by
    unfold fX12_opens fX12_opens_0
    rcases hq with rfl | rfl
    · rw [if_pos (show nI 9 = (9 : Int32) from rfl)]
    · rw [if_neg (by decide), if_pos (show nI 12 = (12 : Int32) from rfl)]
  rw [e]
  unfold fX12_opens_12 fX12_opens_30 fX12_opens_40
  refine ⟨_, _, by rw [h23, if_pos (by decide), h18, show (2 : Int32) = nI 2 from rfl, (p_fails (x74 := x74)).1 h19, bd1_s, gd_t (by rw [pk_un (by omega), pk_un (by omega), h25]; exact inbN ho (by decide))], ?_, fun j j1 j2 j3 => ?_⟩
  · rw [pk_un (by omega), pk_un (by omega), pk_us]
  · rw [pk_un j3, pk_un j2, pk_un j1]
theorem fact_code (h : RS t sz c slot d e i p S E k x1 x3 x4 x5 x13 x14 x74 x91 x92 x93) : fFact x3 x4 x5 (j + 1) (nI D) x1 x13 x14 = if tc t sz (ts t sz i) = 36 ∨ tc t sz (ts t sz i) = 5 then fX5_readFactO_19 (fFact x3 x4 x5 j) (fX5_readTestO (fFact x3 x4 x5 j) x3 x4 x5) x3 x4 x5 (nI D) (nI (tc t sz (ts t sz i))) x1 x13 x14 else cmpC x3 x4 x5 x1 x13 x14 := by
  have tl := tc_lt (t := t) (s := ts t sz i) h.1.1.1
  show fX5_readFactO_0 (fFact x3 x4 x5 j) (fX5_readTestO (fFact x3 x4 x5 j) x3 x4 x5) x3 x4 x5 (nI D) x1 x13 x14 = _
  unfold fX5_readFactO_0
  rw [RS_code h, bd1_s]
  by_cases k36 : tc t sz (ts t sz i) = 36
  · rw [if_pos (show nI (tc t sz (ts t sz i)) = (36 : Int32) by rw [k36]; rfl), if_pos (Or.inl k36)]
  · rw [if_neg (show ¬ nI (tc t sz (ts t sz i)) = (36 : Int32) from fun hh => k36 ((nI_eq (b := 36) (by omega) (by omega)).mp hh))]
    by_cases k5 : tc t sz (ts t sz i) = 5
    · rw [if_pos (show nI (tc t sz (ts t sz i)) = (5 : Int32) by rw [k5]; rfl), if_pos (Or.inr k5)]
    · rw [if_neg (show ¬ nI (tc t sz (ts t sz i)) = (5 : Int32) from fun hh => k5 ((nI_eq (b := 5) (by omega) (by omega)).mp hh)), if_neg (fun hh => hh.elim k36 k5)]
      rfl
/-- what the reference does when a fact is wanted -/
theorem fact_ref {fuel : Nat} (h : RS t sz c slot d e i p S E k x1 x3 x4 x5 x13 x14 x74 x91 x92 x93) : ∃ w74, RS t sz c slot d e i (ts t sz i) S E k x1 x3 x4 x5 x13 x14 w74 x91 x92 x93 ∧ (∀ j, j ≠ 18 → w74 j = x74 j) ∧ lq6 (fX12_test_9b x91) (fuel + 1) 1 1 x74 x92 x93 x98 = if tc t sz (ts t sz i) = 36 then (bd2 (fX12_opens (nI 9) w74 x98) fun a b => lq6 (fX12_test_9b x91) fuel 1 1 (upd a 18 (a 18 + 3)) x92 x93 b) else if tc t sz (ts t sz i) = 5 then (bd2 (fX12_opens (nI 12) w74 x98) fun a b => lq6 (fX12_test_9b x91) fuel 1 1 (upd a 18 (a 18 + 1)) x92 x93 b) else bd3 (fX12_compared x91 w74 x92 x93) fun a b c => lq6 (fX12_test_9b x91) fuel 0 1 a b c x98 := by
  obtain ⟨hz, hc, hic, _⟩ := RS_lim h
  obtain ⟨w74, ew, w18, hRw, fw, wf⟩ := RS_blank h
  have h19 : x74 19 = 0 := h.1.2.1.2.2.2.1
  have w17 : w74 17 = nI sz := hRw.1.2.1.2.1
  have h91 := hRw.1.2.1.2.2.2.2.1
  have hb := hRw.1.2.1.2.2.2.2.2
  have tsl := ts_le (t := t) (sz := sz) i
  refine ⟨w74, hRw, wf, ?_⟩
  show fX12_test_9b x91 (lq6 (fX12_test_9b x91) fuel) 1 1 x74 x92 x93 x98 = _
  generalize lq6 (fX12_test_9b x91) fuel = K
  unfold fX12_test_9b fX12_test_36 fX12_fact fX12_fact_0
  rw [if_neg one_ne, if_pos h19, if_neg one_ne, ew, bd1_s]
  rcases p_isWordAt (w := 19) (x74 := w74) (x91 := x91) (t := t) (by omega) hz w17 w18 (by omega) h91 with ⟨ok, e1⟩ | ⟨no, e1⟩
  · have k36 : tc t sz (ts t sz i) = 36 := (tc_word hz tsl (w := 19) (by omega)).mpr ok
    rw [e1, bd1_s, if_neg (show ¬ nI 1 = (0 : Int32) from one_ne), if_pos k36, show (9 : Int32) = nI 9 from rfl]
    cases fX12_opens (nI 9) w74 x98 with
    | none => rfl
    | some ab => rfl
  · have k36 : ¬ tc t sz (ts t sz i) = 36 := fun hh => no ((tc_word hz tsl (w := 19) (by omega)).mp hh)
    rw [e1, bd1_s, if_pos z00, if_neg k36, RS_sign hRw, bd1_s]
    by_cases k5 : tc t sz (ts t sz i) = 5
    · rw [if_pos ((sg_91 hz hb).mpr k5), if_pos k5, show (12 : Int32) = nI 12 from rfl]
      cases fX12_opens (nI 12) w74 x98 with
      | none => rfl
      | some ab => rfl
    · rw [if_neg (fun hh => k5 ((sg_91 hz hb).mp hh)), if_neg k5]
      cases fX12_compared x91 w74 x92 x93 with
      | none => rfl
      | some ab => rfl
theorem hgt_s (hD : D < 10) : hgt (D + 1) + 2 = hgt D := by unfold hgt; omega
theorem rep_s (n q : Nat) (A : List StO) : A ++ rep n q ++ [(q, 0)] = A ++ rep (n + 1) q := by
  rw [List.append_assoc]
  unfold rep
  rw [List.replicate_succ']
theorem fact_all : ∀ (j D : Nat), j + D = 12 → D ≤ 10 → FSpec t x3 x4 x5 x91 sz c slot j D
  | 0, D, h1, h2 => by omega
  | j + 1, D, h1, h2 => by
    intro d e i p k o fuel S E x1 x13 x14 x74 x92 x93 x98 hR h25 h23 ho hfu
    obtain ⟨hz, hc, hic, _⟩ := RS_lim hR
    have tsl := ts_le (t := t) (sz := sz) i
    have tl := tc_lt (t := t) (s := ts t sz i) hz
    obtain ⟨fuel1, rfl⟩ : ∃ f, fuel = f + 1 := ⟨fuel - 1, by omega⟩
    obtain ⟨fuel, rfl⟩ : ∃ f, fuel1 = f + 1 := ⟨fuel1 - 1, by omega⟩
    obtain ⟨w74, hRw, wf, er⟩ := fact_ref (x98 := x98) (fuel := fuel + 1) hR
    have w19 : w74 19 = 0 := hRw.1.2.1.2.2.2.1
    have w18 := RS_p hRw
    rw [fact_code hR, er]
    have fl2 := flt_lt (s := ts t sz i) (k := 2) (by omega) (by omega)
    -- too deep
    have deep : ∀ (q m : Nat) (v : Int32), D = 10 → (q = 9 ∨ q = 12) → v = nI m → m ≤ 3 → ts t sz i + m ≤ sz + 2 → FO t sz c slot d e i D o S E x3 x4 x5 x74 x91 x92 x93 x98 (fX5_readFactO_19 (fFact x3 x4 x5 j) (fX5_readTestO (fFact x3 x4 x5 j) x3 x4 x5) x3 x4 x5 (nI D) (nI (tc t sz (ts t sz i))) x1 x13 x14) (bd2 (fX12_opens (nI q) w74 x98) fun a b => lq6 (fX12_test_9b x91) (fuel + 1) 1 1 (upd a 18 (a 18 + v)) x92 x93 b) := by
      intro q m v hD hq hv hm hsm
      obtain ⟨a74, a98, ea, a19, af⟩ := p_opens2F (x98 := x98) (q := q) ((wf 25 (by omega)).trans h25) (by omega) hq (by rw [wf 23 (by omega), h23, hD]) w19 w18
      have a18 : a74 18 = nI (ts t sz i) := (af 18 (by omega) (by omega) (by omega)).trans w18
      unfold fX5_readFactO_19
      rw [if_neg (show ¬ nI D < (10 : Int32) by rw [hD]; decide), show (2 : Int32) = nI 2 from rfl, p_fail hR.1.1, bd2_s, gd_t (by decide), ea, bd2_s, test_F (by rw [pk_un (by omega), a19]; exact ne0 (by omega) (by omega))]
      exact Or.inr ⟨_, _, x13, x14, _, x92, x93, a98, rfl, pk_us, rfl, fl2.1, fl2.2, (pk_un (by omega)).trans a19, ⟨ts t sz i + m, by rw [pk_us, a18, hv, nI_add], hsm⟩, fun j j1 j2 j3 j4 j5 j6 => by rw [pk_un j1, af j j2 j4 j6, wf j j1], fr_refl⟩
    by_cases k36 : tc t sz (ts t sz i) = 36
    · obtain ⟨hlt, enx⟩ := nx_word (t := t) (w := 19) hz tsl (by omega) k36
      have en3 : wlen 19 = 3 := by decide
      have nl := nx_le (t := t) hlt
      have tm := ts_mono (t := t) (i := i) hlt
      rw [if_pos (Or.inl k36), if_pos k36]
      by_cases hD : D = 10
      · exact deep 9 3 3 hD (Or.inl rfl) rfl (by omega) (by omega)
      · unfold fX5_readFactO_19
        obtain ⟨esk, hR1⟩ := RS_tok (d' := d + 1) (e' := e) (z74 := upd (upd (upd w74 23 (nI (D + 1))) 25 (nI (o + 1))) 18 (nI (nx t sz (ts t sz i)))) hRw hlt pk_us (fun j j1 j2 j3 => by rw [pk_un j1, pk_un j3, pk_un j2]) (by omega) (by omega)
        have e18 : upd (upd w74 23 (nI (D + 1))) 25 (nI (o + 1)) 18 + 3 = nI (nx t sz (ts t sz i)) := by
          rw [pk_un (by omega), pk_un (by omega), w18, show (3 : Int32) = nI 3 from rfl, nI_add, enx, en3]
        rw [if_pos (show nI D < (10 : Int32) from nI_lt (b := 10) (by omega) (by omega)), esk, bd1_s, if_pos (show nI (tc t sz (ts t sz i)) = (36 : Int32) by rw [k36]; rfl), nI_1, p_opens2 (o := o) (D := D) ((wf 25 (by omega)).trans h25) (by omega) (Or.inl rfl) ((wf 23 (by omega)).trans h23) (by omega), bd2_s, e18]
        have fr1 : fu74 x74 (upd (upd (upd w74 23 (nI (D + 1))) 25 (nI (o + 1))) 18 (nI (nx t sz (ts t sz i)))) := fun j j1 j2 j3 j4 j5 j6 => by rw [pk_un j1, pk_un j6, pk_un j4, wf j j1]
        rcases fact_all j (D + 1) (by omega) (by omega) _ _ _ _ _ (o + 1) (fuel + 1) _ _ _ _ _ _ _ _ (upd x98 o (nI 9)) hR1 (by rw [pk_un (by omega), pk_us]) (by rw [pk_un (by omega), pk_un (by omega), pk_us]) (by omega) (by omega) with ⟨fuel', nn, i', p', k', Lf, Vf, y1, y13, y14, z74, z92, z93, z98, hii, hsf, ec, er, hR2, z25, z23, hnn, hz98, fz, f92, hl1, hfu1⟩ | ⟨F, y1, y13, y14, z74, z92, z93, z98, ec, y17, er, hRF⟩
        · obtain ⟨ow, hR3⟩ := RS_opC (q := 36) hR2 (by omega)
          rw [ec, bd4_s, if_neg one_ne, show (36 : Int32) = nI 36 from rfl, ow, bd3_s, if_neg one_ne, er]
          have hsem := Sem_not hsf
          rw [rep_s] at hsem
          have hR4 := RS_weak (d' := d) (e' := e + 3 + 3 * (nn + 1)) hR3 (Nat.le_refl _) (by omega)
          rw [List.append_assoc S, rep_s] at hR4
          refine Or.inl ⟨fuel', nn + 1, i', p', k', Lf, _, y1, _, _, z74, z92, z93, z98, by omega, Sem_mono hsem (by have := hgt_s (D := D) (by omega); omega), rfl, rfl, hR4, by rw [z25, show o + 1 + nn = o + (nn + 1) by omega], by rw [z23, show D + 1 + nn = D + (nn + 1) by omega], fun jj hj => ?_, fun jj hj => by rw [hz98 jj (by omega), pk_un (by omega)], fu_trans fr1 fz, f92, by omega, hfu1⟩
          by_cases e0 : jj = 0
          · subst e0; rw [Nat.add_zero, hz98 o (by omega)]; exact pk_us
          · have := hnn (jj - 1) (by omega)
            rw [show o + 1 + (jj - 1) = o + jj by omega] at this
            exact this
        · rw [ec, bd4_s, if_pos rfl]
          unfold fX5_readFactO_71
          exact Or.inr ⟨F, y1, y13, y14, z74, z92, z93, z98, rfl, y17, er, RF_fu fr1 fr_refl hRF⟩
    · by_cases k5 : tc t sz (ts t sz i) = 5
      · have hlt : ts t sz i < sz := by
          refine Nat.not_le.mp fun hh => ?_
          have : tc t sz (ts t sz i) = 0 := by unfold tc; rw [if_pos hh]
          omega
        have enx := nx_sign (t := t) hlt hz (by omega) (by omega)
        rw [if_neg (by omega)] at enx
        have tm := ts_mono (t := t) (i := i) hlt
        rw [if_pos (Or.inr k5), if_neg k36, if_pos k5]
        by_cases hD : D = 10
        · exact deep 12 1 1 hD (Or.inr rfl) rfl (by omega) (by omega)
        · unfold fX5_readFactO_19
          obtain ⟨esk, hR1⟩ := RS_tok (d' := d) (e' := e) (z74 := upd (upd (upd w74 23 (nI (D + 1))) 25 (nI (o + 1))) 18 (nI (nx t sz (ts t sz i)))) hRw hlt pk_us (fun j j1 j2 j3 => by rw [pk_un j1, pk_un j3, pk_un j2]) (by omega) (by omega)
          have e18 : upd (upd w74 23 (nI (D + 1))) 25 (nI (o + 1)) 18 + 1 = nI (nx t sz (ts t sz i)) := by
            rw [pk_un (by omega), pk_un (by omega), w18, nI_1, enx]
          rw [if_pos (show nI D < (10 : Int32) from nI_lt (b := 10) (by omega) (by omega)), esk, bd1_s, if_neg (show ¬ nI (tc t sz (ts t sz i)) = (36 : Int32) by rw [k5]; decide), nI_1, p_opens2 (o := o) (D := D) ((wf 25 (by omega)).trans h25) (by omega) (Or.inr rfl) ((wf 23 (by omega)).trans h23) (by omega), bd2_s, e18]
          have fr1 : fu74 x74 (upd (upd (upd w74 23 (nI (D + 1))) 25 (nI (o + 1))) 18 (nI (nx t sz (ts t sz i)))) := fun j j1 j2 j3 j4 j5 j6 => by rw [pk_un j1, pk_un j6, pk_un j4, wf j j1]
          have hT := t_test (fact_all j (D + 1) (by omega) (by omega)) (by omega) (i0 := i + 1) (d := d) (e := e) (o := o + 1) (S := S) (E := E) c 5000 (fuel + 1) 0 (i + 1) _ k 0 0 [] [] _ _ _ _ _ _ (upd x98 o (nI 12)) (by omega) (by omega) (by omega) (by omega) (by omega) (by omega) (Nat.le_refl _) (by rw [List.append_nil, List.append_nil, List.append_nil]; exact hR1) (by rw [pk_un (by omega), pk_us]) (by rw [pk_un (by omega), pk_un (by omega), pk_us]) (fun h => absurd h (by omega)) (fun h => absurd h (by omega)) (Or.inr pk_us) (by omega) (Or.inl ⟨rfl, rfl⟩) (Or.inl ⟨rfl, rfl⟩)
          have ecT : fX5_readTestO (fFact x3 x4 x5 j) x3 x4 x5 (nI (D + 1)) (upd x1 6 (nI (i + 1))) x13 x14 = lq7 (fX5_readTestO_7b (fFact x3 x4 x5 j) x3 x4 x5) 5000 (nI (D + 1)) (nI 0) (nI 0) (nI 0) (upd x1 6 (nI (i + 1))) x13 x14 := rfl
          rw [ecT]
          rcases hT with ⟨fuel', i', k', L', V', y1, y13, y14, z74, z92, z93, z98, hii, hsf, ec, er, hR2, z25, z23, hz98, fz, f92, hfu1⟩ | ⟨F, y1, y13, y14, z74, z92, z93, z98, ec, y17, er, hRF⟩
          · obtain ⟨_, _, hic2, _⟩ := RS_lim hR2
            have hb2 := hR2.1.2.1.2.2.2.2.2
            have z19 : z74 19 = 0 := hR2.1.2.1.2.2.2.1
            have tsl2 := ts_le (t := t) (sz := sz) i'
            have top : fX12_top z74 z98 = some 12 := by
              unfold fX12_top fX12_top_0
              rw [z25, if_neg (ne0 (by omega) (by omega)), show (1 : Int32) = nI 1 from rfl, nsub (by omega), gd_t (inbN (by omega) (by decide)), clN (by omega), show o + 1 - 1 = o by omega, hz98 o (by omega), pk_us]
              rfl
            obtain ⟨fuel'', rfl⟩ : ∃ f, fuel' = f + 1 := ⟨fuel' - 1, by omega⟩
            rw [ec, bd4_s, if_neg one_ne, er]
            unfold TEnd
            rw [top, bd1_s, if_pos rfl, RS_sign hR2, bd1_s]
            rcases p_take (cd := 6) hR2.1.1 (by omega) (by omega) with ⟨t6, et⟩ | ⟨n6, et⟩
            · have hlt2 : ts t sz i' < sz := by
                refine Nat.not_le.mp fun hh => ?_
                have : tc t sz (ts t sz i') = 0 := by unfold tc; rw [if_pos hh]
                omega
              have enx2 := nx_sign (t := t) hlt2 hz (by omega) (by omega)
              rw [if_neg (by omega)] at enx2
              have tm2 := ts_mono (t := t) (i := i') hlt2
              obtain ⟨_, hR3⟩ := RS_tok (d' := d) (e' := e + 3) (z74 := upd (upd (upd z74 18 (nI (ts t sz i' + 1))) 25 (nI o)) 23 (nI D)) hR2 hlt2 (by rw [pk_un (by omega), pk_un (by omega), pk_us, enx2]) (fun j j1 j2 j3 => by rw [pk_un j2, pk_un j3, pk_un j1]) (by omega) (by omega)
              rw [show (6 : Int32) = nI 6 from rfl, et, bd2_s, if_neg one_ne, if_pos ((sg_93 hz hb2).mpr t6)]
              have e164 : fX12_test_164 x91 (lq6 (fX12_test_9b x91) (fuel'' + 1)) 0 1 z74 z92 z93 z98 = lq6 (fX12_test_9b x91) (fuel'' + 1) 0 1 (upd (upd (upd z74 18 (nI (ts t sz i' + 1))) 25 (nI o)) 23 (nI D)) z92 z93 z98 := by
                unfold fX12_test_164 fX12_test_199
                rw [RS_p hR2, nI_1, pk_un (show 25 ≠ 18 by omega), z25, show nI (o + 1) - 1 = nI o from by rw [show (1 : Int32) = nI 1 from rfl, nsub (by omega), show o + 1 - 1 = o by omega], pk_un (show 23 ≠ 25 by omega), pk_un (show 23 ≠ 18 by omega), z23, show nI (D + 1) - 1 = nI D from by rw [show (1 : Int32) = nI 1 from rfl, nsub (by omega), show D + 1 - 1 = D by omega]]
              rw [e164]
              refine Or.inl ⟨fuel'' + 1, 0, i' + 1, nx t sz (ts t sz i'), k', L', V', _, y13, y14, _, z92, z93, z98, by omega, ?_, rfl, rfl, ?_, by rw [pk_un (by omega), pk_us]; rfl, pk_us, fun jj hj => absurd hj (by omega), fun jj hj => by rw [hz98 jj (by omega), pk_un (by omega)], fu_trans fr1 (fu_trans fz fun j j1 j2 j3 j4 j5 j6 => by rw [pk_un j4, pk_un j6, pk_un j1]), f92, by omega, by omega⟩
              · rw [show L' ++ rep 0 36 = L' from List.append_nil L']
                exact Sem_mono hsf (by have := hgt_s (D := D) (by omega); omega)
              · rw [show L' ++ rep 0 36 = L' from List.append_nil L']
                exact hR3
            · have fl0 := flt_lt (s := ts t sz i') (k := 0) (by omega) (by omega)
              rw [show (6 : Int32) = nI 6 from rfl, et, bd2_s, if_pos rfl, if_neg (fun hh => n6 ((sg_93 hz hb2).mp hh)), RS_p hR2, show (0 : Int32) = nI 0 from rfl, (p_fails (x74 := z74)).1 z19, bd1_s]
              unfold fX5_readFactO_99 fX12_test_164 fX12_test_199
              rw [test_F (by rw [pk_un (by omega), pk_un (by omega), pk_un (by omega), pk_us]; exact ne0 (by omega) (by omega))]
              exact Or.inr ⟨_, _, y13, y14, _, z92, z93, z98, rfl, pk_us, rfl, fl0.1, fl0.2, by rw [pk_un (by omega), pk_un (by omega), pk_un (by omega), pk_us], ⟨ts t sz i' + 1, by rw [pk_un (by omega), pk_un (by omega), pk_us, pk_un (by omega), RS_p hR2, nI_1], by omega⟩, fu_trans fr1 (fu_trans fz fun j j1 j2 j3 j4 j5 j6 => by rw [pk_un j4, pk_un j6, pk_un j1, pk_un j2]), f92⟩
          · rw [ec, bd4_s, if_pos rfl]
            unfold fX5_readFactO_99
            exact Or.inr ⟨F, y1, y13, y14, z74, z92, z93, z98, rfl, y17, er, RF_fu fr1 fr_refl hRF⟩
      · rw [if_neg (fun hh => hh.elim k36 k5), if_neg k36, if_neg k5]
        have fr1 : fq74 x74 w74 := fun j j1 _ _ _ => wf j j1
        rcases e_cmp hRw with ⟨i', k', L', V', y1, y13, y14, z74, z92, z93, hii, hs', ec, er, hR2, fz, f92⟩ | ⟨F, y1, y13, y14, z74, z92, z93, ec, y17, er, hRF⟩
        · rw [ec, er, bd3_s]
          refine Or.inl ⟨fuel + 1, 0, i', ts t sz i', k', L', V', y1, y13, y14, z74, z92, z93, x98, hii, ?_, rfl, rfl, ?_, by rw [fz 25 (by omega) (by omega) (by omega) (by omega), wf 25 (by omega)]; exact h25, by rw [fz 23 (by omega) (by omega) (by omega) (by omega), wf 23 (by omega)]; exact h23, fun jj hj => absurd hj (by omega), fun _ _ => rfl, fun j j1 j2 j3 j4 j5 j6 => by rw [fz j j1 j2 j3 j5, wf j j1], f92, by omega, by omega⟩
          · rw [show L' ++ rep 0 36 = L' from List.append_nil L']
            exact Sem_mono hs' (by unfold hgt; omega)
          · rw [show L' ++ rep 0 36 = L' from List.append_nil L']
            exact hR2
        · refine Or.inr ⟨F, y1, y13, y14, z74, z92, z93, x98, ec, y17, ?_, RF_fr fr1 fr_refl hRF⟩
          rw [er, bd3_s, test_F (by rw [hRF.2.2.1]; exact ne0 (by have := hRF.1; omega) (by have := hRF.2.1; omega))]
end FACT

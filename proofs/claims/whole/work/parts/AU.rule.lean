/-- the reference's fields and rows that reading a rule leaves -/
def fz74 (x z : FI) : Prop := ∀ j, j ≠ 17 → j ≠ 18 → j ≠ 19 → j ≠ 20 → j ≠ 21 → j ≠ 22 → j ≠ 23 → j ≠ 24 → j ≠ 25 → z j = x j
def FRR (slot : Nat) (x92 x93 x94 x95 x96 x97 z92 z93 z94 z95 z96 z97 : FI) : Prop := fr92 slot x92 x93 z92 z93 ∧ fr95 slot x95 x96 x97 z95 z96 z97 ∧ ∀ j, j < slot → z94 j = x94 j
abbrev C7 : Type := Option (Int32 × FI × FI × FI × FI × FI × FI)
abbrev R9 : Type := Option (Int32 × FI × FI × FI × FI × FI × FI × FI × FI)
/-- a rule as both sides hold it -/
def RUL (slot : Nat) (Cs : List CLs) (y14 z92 z93 z94 z95 z96 z97 : FI) : Prop := (∀ cl, cl ∈ Cs → okC cl) ∧ Cs.length ≤ 12 ∧ (flC Cs).length ≤ 400 ∧ (flE Cs).length < 300 ∧ ES y14 (flC Cs) ∧ ER slot z92 z93 (flE Cs) ∧ CRr slot z95 z96 z97 0 0 Cs ∧ z94 slot = nI Cs.length
def RUO (slot : Nat) (x74 x92 x93 x94 x95 x96 x97 : FI) (oc : C7) (or : R9) : Prop :=
  (∃ Cs y1 y3 y4 y5 y13 y14 z74 z92 z93 z94 z95 z96 z97 z98, oc = some (1, y1, y3, y4, y5, y13, y14) ∧ or = some (nI slot, z74, z92, z93, z94, z95, z96, z97, z98) ∧ RUL slot Cs y14 z92 z93 z94 z95 z96 z97 ∧ y13 2 = nI (flC Cs).length ∧ z74 21 = nI (slot + 1) ∧ z74 17 = 0 ∧ fz74 x74 z74 ∧ FRR slot x92 x93 x94 x95 x96 x97 z92 z93 z94 z95 z96 z97) ∨
  ∃ F y1 y3 y4 y5 y13 y14 z74 z92 z93 z94 z95 z96 z97 z98, oc = some (0, y1, y3, y4, y5, y13, y14) ∧ y1 7 = nI F ∧ or = some (-2 - nI F, z74, z92, z93, z94, z95, z96, z97, z98) ∧ z74 21 = nI slot ∧ z74 17 = 0 ∧ fz74 x74 z74 ∧ FRR slot x92 x93 x94 x95 x96 x97 z92 z93 z94 z95 z96 z97
section RUL
variable {x1 x2 x3 x4 x5 x13 x14 x74 x91 x92 x93 x94 x95 x96 x97 x98 t : Nat → Int32} {sz c slot i p k n : Nat} {Cs : List CLs}
abbrev K10' : Type := Int32 → Int32 → FI → FI → FI → FI → FI → FI → FI → FI → R9
theorem rule_end0 {KK : K10'} (h19 : x74 19 = 0) (h20 : x74 20 = nI slot) (h21 : x74 21 = nI slot) (hs : slot < 6) : fX12_rule_27b x91 KK (nI n) 0 x74 x92 x93 x94 x95 x96 x97 x98 = some (nI slot, upd (upd x74 17 0) 21 (nI (slot + 1)), x92, x93, upd x94 slot (nI n), x95, x96, x97, x98) := by
  unfold fX12_rule_27b fX12_rule_79
  rw [if_pos rfl, pk_un (show 20 ≠ 17 by omega), h20, gd_t (inbN hs (by decide)), pk_un (show 19 ≠ 17 by omega), if_pos h19, pk_un (show 21 ≠ 17 by omega), h21, nI_1, clN (by omega), pk_un (show 19 ≠ 21 by omega), pk_un (show 19 ≠ 17 by omega), h19, if_pos (by decide), pk_us, show (1 : Int32) = nI 1 from rfl, nsub (by omega), show slot + 1 - 1 = slot by omega]
theorem rule_endF {KK : K10'} {F : Nat} (hF : 0 < F ∧ F < 5000) (h19 : x74 19 = nI F) (h20 : x74 20 = nI slot) (h21 : x74 21 = nI slot) (hs : slot < 6) : fX12_rule_27b x91 KK (nI n) 0 x74 x92 x93 x94 x95 x96 x97 x98 = some (-2 - nI F, upd (upd x74 17 0) 21 (nI slot), x92, x93, upd x94 slot (nI n), x95, x96, x97, x98) := by
  unfold fX12_rule_27b fX12_rule_79
  rw [if_pos rfl, pk_un (show 20 ≠ 17 by omega), h20, gd_t (inbN hs (by decide)), pk_un (show 19 ≠ 17 by omega), h19, if_neg (ne0 (by omega) (by omega)), pk_un (show 21 ≠ 17 by omega), h21, show nI slot + 0 = nI slot from nI_add slot 0, clN (by omega), pk_un (show 19 ≠ 21 by omega), pk_un (show 19 ≠ 17 by omega), h19, if_neg (nle0 (by omega) (by omega))]
theorem p_goesOnW {z74 : FI} {F pq : Nat} (hz : sz ≤ 400) (h17 : z74 17 = nI sz) (h91 : ∀ j, j < 400 → x91 j = t j) (hb : ∀ j, j < 400 → bR (t j)) (h18 : z74 18 = nI pq) (hq : pq ≤ sz + 2) (hF : 0 < F ∧ F < 5000) (h19 : z74 19 = nI F) : ∃ u74, fX12_goesOn x91 z74 = some (0, u74) ∧ (∀ j, j ≠ 18 → u74 j = z74 j) := by
  obtain ⟨w74, ew, w18, wf⟩ := p_blanks (x74 := z74) hz h17 h18 (by omega) h91 hb
  have wn : ¬ w74 19 = 0 := by rw [wf 19 (by omega), h19]; exact ne0 (by omega) (by omega)
  refine ⟨upd w74 18 (w74 18 + 1), ?_, fun j a => by rw [pk_un a]; exact wf j a⟩
  unfold fX12_goesOn fX12_goesOn_0 fX12_goesOn_40 fX12_goesOn_62 fX12_goesOn_63
  rw [ew, bd1_s, if_neg wn, if_neg wn, gd_t (by decide)]
theorem FRR_refl : FRR slot x92 x93 x94 x95 x96 x97 x92 x93 x94 x95 x96 x97 := ⟨fr_refl, fun _ _ => ⟨rfl, rfl, rfl⟩, fun _ _ => rfl⟩
theorem RUO_fr {y74 y92 y93 y94 y95 y96 y97 : FI} {oc : C7} {or : R9} (h : fz74 x74 y74) (h2 : FRR slot x92 x93 x94 x95 x96 x97 y92 y93 y94 y95 y96 y97) (hR : RUO slot y74 y92 y93 y94 y95 y96 y97 oc or) : RUO slot x74 x92 x93 x94 x95 x96 x97 oc or := by
  have ft : ∀ {a b c : FI}, fz74 a b → fz74 b c → fz74 a c := fun h h2 j j1 j2 j3 j4 j5 j6 j7 j8 j9 => (h2 j j1 j2 j3 j4 j5 j6 j7 j8 j9).trans (h j j1 j2 j3 j4 j5 j6 j7 j8 j9)
  have fft : ∀ {z92 z93 z94 z95 z96 z97 : FI}, FRR slot y92 y93 y94 y95 y96 y97 z92 z93 z94 z95 z96 z97 → FRR slot x92 x93 x94 x95 x96 x97 z92 z93 z94 z95 z96 z97 := fun h3 => ⟨fr_trans h2.1 h3.1, fun j hj => ⟨(h3.2.1 j hj).1.trans (h2.2.1 j hj).1, (h3.2.1 j hj).2.1.trans (h2.2.1 j hj).2.1, (h3.2.1 j hj).2.2.trans (h2.2.1 j hj).2.2⟩, fun j hj => (h3.2.2 j hj).trans (h2.2.2 j hj)⟩
  rcases hR with ⟨Cs, y1, y3, y4, y5, y13, y14, z74, z92, z93, z94, z95, z96, z97, z98, a1, a2, a3, a4, a5, a6, a7, a8⟩ | ⟨F, y1, y3, y4, y5, y13, y14, z74, z92, z93, z94, z95, z96, z97, z98, a1, a2, a3, a4, a5, a6, a7⟩
  · exact Or.inl ⟨Cs, y1, y3, y4, y5, y13, y14, z74, z92, z93, z94, z95, z96, z97, z98, a1, a2, a3, a4, a5, a6, ft h a7, fft a8⟩
  · exact Or.inr ⟨F, y1, y3, y4, y5, y13, y14, z74, z92, z93, z94, z95, z96, z97, z98, a1, a2, a3, a4, a5, ft h a6, fft a7⟩
/-- what holds ahead of a clause -/
def RSt (t : FI) (sz c slot i p k : Nat) (Cs : List CLs) (x1 x3 x4 x5 x13 x14 x74 x91 x92 x93 x95 x96 x97 : FI) : Prop := RS t sz c slot 0 0 i p (flC Cs) (flE Cs) k x1 x3 x4 x5 x13 x14 x74 x91 x92 x93 ∧ x74 23 = nI 0 ∧ x74 21 = nI slot ∧ CRr slot x95 x96 x97 0 0 Cs ∧ ∀ cl, cl ∈ Cs → okC cl
theorem u_loop : ∀ (m kc kr i p k : Nat) (Cs : List CLs) (x1 x13 x14 x74 x92 x93 x94 x95 x96 x97 x98 : FI), Cs.length + m = 12 → m < kc → m + 1 < kr → RSt t sz c slot i p k Cs x1 x3 x4 x5 x13 x14 x74 x91 x92 x93 x95 x96 x97 → RUO slot x74 x92 x93 x94 x95 x96 x97 (lq7 (fX5_readText_19b x2) kc (nI Cs.length) x1 x3 x4 x5 x13 x14) (lq10 (fX12_rule_27b x91) kr (nI Cs.length) 1 x74 x92 x93 x94 x95 x96 x97 x98)
  | m, kc + 1, kr + 2, i, p, k, Cs, x1, x13, x14, x74, x92, x93, x94, x95, x96, x97, x98, hm, hkc, hkr, hS => by
    obtain ⟨hR, h23, h21, hCR, hok⟩ := hS
    obtain ⟨hz, hc, hic, _⟩ := RS_lim hR
    have hsl := hR.2.2.2.1
    have h20 : x74 20 = nI slot := hR.2.2.1.1
    have hB := hR.1
    show RUO slot x74 x92 x93 x94 x95 x96 x97 (fX5_readText_19b x2 (lq7 (fX5_readText_19b x2) kc) (nI Cs.length) x1 x3 x4 x5 x13 x14) (fX12_rule_27b x91 (lq10 (fX12_rule_27b x91) (kr + 1)) (nI Cs.length) 1 x74 x92 x93 x94 x95 x96 x97 x98)
    generalize hKC : lq7 (fX5_readText_19b x2) kc = KC
    have hKR : ∀ a b x92 x93 x94 x95 x96 x97 x98, lq10 (fX12_rule_27b x91) (kr + 1) a 0 b x92 x93 x94 x95 x96 x97 x98 = fX12_rule_27b x91 (lq10 (fX12_rule_27b x91) kr) a 0 b x92 x93 x94 x95 x96 x97 x98 := fun _ _ _ _ _ _ _ _ _ => rfl
    generalize hKR' : lq10 (fX12_rule_27b x91) (kr + 1) = KR at hKR
    generalize lq10 (fX12_rule_27b x91) kr = KR2 at hKR
    have ref : fX12_rule_27b x91 KR (nI Cs.length) 1 x74 x92 x93 x94 x95 x96 x97 x98 = bd7 (fX12_ruleClause x91 (nI Cs.length) x74 x92 x93 x95 x96 x97 x98) fun x74_2 x92_3 x93_4 x95_5 x96_6 x97_7 x98_8 => (bd2 (fX12_goesOn x91 x74_2) fun r_11 x74_12 => (KR (nI (Cs.length + 1)) r_11 x74_12 x92_3 x93_4 x94 x95_5 x96_6 x97_7 x98_8)) := by
      unfold fX12_rule_27b
      rw [if_neg one_ne, nI_1]
      rfl
    have cls : fX5_readText_19b x2 KC (nI Cs.length) x1 x3 x4 x5 x13 x14 = bd4 (fX5_readClause x3 x4 x5 (nI Cs.length) x1 x13 x14) fun r_5 x1_6 x13_7 x14_8 => (if r_5 = 0 then (some (0, x1_6, x3, x4, x5, x13_7, x14_8)) else (bd1 (fX8_code x1_6 x3) fun r_10 => (if r_10 = 4 then (bd1 (fX8_skip x1_6) fun x1_12 => (KC (nI (Cs.length + 1)) x1_12 x3 x4 x5 x13_7 x14_8)) else (bd2 (fX8_take x3 x4 0 x1_6) fun r_15 x1_16 => (gd (bz r_15) (some (r_15, x1_16, x3, x4, x5, x13_7, x14_8))))))) := by
      unfold fX5_readText_19b
      rw [if_neg (show ¬ (12 : Int32) < nI Cs.length from nI_nlt (a := 12) (by omega) (by omega)), nI_1]
      rfl
    rw [ref, cls]
    rcases r_clause (x95 := x95) (x96 := x96) (x97 := x97) (x98 := x98) (n := Cs.length) hR h23 (by omega) with ⟨n12, i', p', k', A, B, y1, y13, y14, z74, z92, z93, z98, hAB, ec, er, hR2, fz, f92, z23⟩ | ⟨F, y1, y13, y14, z74, z92, z93, z95, z96, z97, z98, ec, y17, er, hRF, f95⟩
    · obtain ⟨_, _, hic2, _⟩ := RS_lim hR2
      have tl := tc_lt (t := t) (s := ts t sz i') hz
      have hR2' : RS t sz c slot 0 0 i' p' (flC (Cs ++ [(A, B)])) (flE (Cs ++ [(A, B)])) k' y1 x3 x4 x5 y13 y14 z74 x91 z92 z93 := by rw [flC_app, flE_app]; exact hR2
      have z21 : z74 21 = nI slot := (fz 21 (by omega) (by omega) (by omega) (by omega) (by omega) (by omega)).trans h21
      have z20 : z74 20 = nI slot := hR2.2.2.1.1
      have hCR2 : CRr slot (upd x95 (12 * slot + Cs.length) (nI (flE Cs).length)) (upd x96 (12 * slot + Cs.length) (nI ((flE Cs).length + A.length))) (upd x97 (12 * slot + Cs.length) (nI ((flE Cs).length + A.length + B.length))) 0 0 (Cs ++ [(A, B)]) := by
        refine CRr_add Cs 0 0 (CRr_fr Cs 0 0 (fun j hj => ⟨pk_un (by omega), pk_un (by omega), pk_un (by omega)⟩) hCR) ?_ ?_ ?_
        · rw [Nat.zero_add, Nat.zero_add]; exact pk_us
        · rw [Nat.zero_add, Nat.zero_add]; exact pk_us
        · rw [Nat.zero_add, Nat.zero_add]; exact pk_us
      have hok2 : ∀ cl, cl ∈ Cs ++ [(A, B)] → okC cl := fun cl hcl => by
        rcases List.mem_append.mp hcl with h | h
        · exact hok cl h
        · rw [List.mem_singleton] at h; subst h; exact hAB
      have f95 : FRR slot x92 x93 x94 x95 x96 x97 z92 z93 x94 (upd x95 (12 * slot + Cs.length) (nI (flE Cs).length)) (upd x96 (12 * slot + Cs.length) (nI ((flE Cs).length + A.length))) (upd x97 (12 * slot + Cs.length) (nI ((flE Cs).length + A.length + B.length))) := ⟨f92, fun j hj => ⟨pk_un (by omega), pk_un (by omega), pk_un (by omega)⟩, fun _ _ => rfl⟩
      have eln : (Cs ++ [(A, B)]).length = Cs.length + 1 := by rw [List.length_append]; rfl
      rw [ec, bd4_s, if_neg one_ne, p_code hR2.1.1, bd1_s, er, bd7_s]
      rcases r_goesOn hR2.1 with ⟨t4, u74, eu, uf, hRp, hlt⟩ | ⟨t0, u74, eu, uf, u19⟩ | ⟨n4, n0, u74, eu, uf, u19⟩
      · have tm := ts_mono (t := t) (i := i') hlt
        have hall : ∀ j, j ≠ 18 → j ≠ 23 → j ≠ 25 → u74 j = z74 j := fun j j1 _ _ => by
          by_cases e : j = 19
          · subst e; rw [hRp.2.2.2.1, hR2.1.2.1.2.2.2.1]
          · exact uf j j1 e
        obtain ⟨esk, hR3⟩ := RS_tok (d' := 0) (e' := 0) (z74 := u74) hR2' hlt hRp.2.2.1 hall (by omega) (by omega)
        rw [if_pos (show nI (tc t sz (ts t sz i')) = (4 : Int32) by rw [t4]; rfl), esk, bd1_s, eu, bd2_s, ← hKC, ← hKR', ← eln]
        match m, hm with
        | 0, hm => omega
        | m + 1, hm =>
          have ih := u_loop m kc (kr + 1) (i' + 1) _ k' (Cs ++ [(A, B)]) _ y13 y14 u74 z92 z93 x94 _ _ _ z98 (by rw [eln]; omega) (by omega) (by omega) ⟨hR3, (uf 23 (by omega) (by omega)).trans z23, (uf 21 (by omega) (by omega)).trans z21, hCR2, hok2⟩
          exact RUO_fr (fun j j1 j2 j3 j4 j5 j6 j7 j8 j9 => (uf j j2 j3).trans (fz j j2 j3 j6 j7 j8 j9)) f95 ih
      · rw [if_neg (show ¬ nI (tc t sz (ts t sz i')) = (4 : Int32) by rw [t0]; decide), eu, bd2_s, hKR, rule_end0 u19 ((uf 20 (by omega) (by omega)).trans z20) ((uf 21 (by omega) (by omega)).trans z21) hsl]
        rcases p_take (cd := 0) hR2.1.1 (by omega) (by omega) with ⟨_, et⟩ | ⟨nt, _⟩
        · rw [show (0 : Int32) = nI 0 from rfl, et, bd2_s, gd_t (by decide)]
          have lC := (RS_lim hR2').2.2.2
          refine Or.inl ⟨Cs ++ [(A, B)], _, x3, x4, x5, y13, y14, _, z92, z93, _, _, _, _, z98, rfl, rfl, ⟨hok2, by rw [eln]; omega, by omega, by omega, hR2'.2.1.2.2, hR2'.2.2.1.2.2.2.1, hCR2, by rw [pk_us, eln]⟩, hR2'.2.1.1, pk_us, by rw [pk_un (by omega), pk_us]; rfl, fun j j1 j2 j3 j4 j5 j6 j7 j8 j9 => by rw [pk_un j5, pk_un j1, uf j j2 j3, fz j j2 j3 j6 j7 j8 j9], f95.1, f95.2.1, fun j hj => pk_un (by omega)⟩
        · exact absurd t0 nt
      · have fl := flt_lt (s := ts t sz i') (k := 0) (by have := ts_le (t := t) (sz := sz) i'; omega) (by omega)
        rw [if_neg (show ¬ nI (tc t sz (ts t sz i')) = (4 : Int32) from fun e => n4 ((nI_eq (b := 4) (by omega) (by omega)).mp e)), eu, bd2_s, hKR, rule_endF fl u19 ((uf 20 (by omega) (by omega)).trans z20) ((uf 21 (by omega) (by omega)).trans z21) hsl]
        rcases p_take (cd := 0) hR2.1.1 (by omega) (by omega) with ⟨t0, _⟩ | ⟨_, et⟩
        · exact absurd t0 n0
        · rw [show fX8_take x3 x4 0 y1 = _ from et, bd2_s, gd_t (by decide)]
          exact Or.inr ⟨_, _, x3, x4, x5, y13, y14, _, z92, z93, _, _, _, _, z98, rfl, pk_us, rfl, pk_us, by rw [pk_un (by omega), pk_us], fun j j1 j2 j3 j4 j5 j6 j7 j8 j9 => by rw [pk_un j5, pk_un j1, uf j j2 j3, fz j j2 j3 j6 j7 j8 j9], f95.1, f95.2.1, fun j hj => pk_un (by omega)⟩
    · obtain ⟨F0, F1, r19, ⟨pq, z18, hq⟩, rf, r92⟩ := hRF
      obtain ⟨hT, ⟨_, a17, _, _, h91, hb⟩, _⟩ := hB
      obtain ⟨u74, eu, uf⟩ := p_goesOnW (t := t) (z74 := z74) (F := F) hz ((rf 17 (by omega) (by omega) (by omega) (by omega) (by omega) (by omega)).trans a17) h91 hb z18 hq ⟨F0, F1⟩ r19
      rw [ec, bd4_s, if_pos rfl, er, bd7_s, eu, bd2_s, hKR, rule_endF ⟨F0, F1⟩ ((uf 19 (by omega)).trans r19) ((uf 20 (by omega)).trans ((rf 20 (by omega) (by omega) (by omega) (by omega) (by omega) (by omega)).trans h20)) ((uf 21 (by omega)).trans ((rf 21 (by omega) (by omega) (by omega) (by omega) (by omega) (by omega)).trans h21)) hsl]
      exact Or.inr ⟨F, y1, x3, x4, x5, y13, y14, _, z92, z93, _, _, _, _, z98, rfl, y17, rfl, pk_us, by rw [pk_un (by omega), pk_us], fun j j1 j2 j3 j4 j5 j6 j7 j8 j9 => by rw [pk_un j5, pk_un j1, uf j j2, rf j j2 j3 j6 j7 j8 j9], r92, f95, fun j hj => pk_un (by omega)⟩
theorem e_rule (hX : TX sz x1 x2 x74 x91) (hs : slot < 6) (h21 : x74 21 = nI slot) (h26 : x74 26 = 12) : RUO slot x74 x92 x93 x94 x95 x96 x97 (fX5_readText x2 x1 x3 x4 x5 x13 x14) (fX12_rule x91 x74 x92 x93 x94 x95 x96 x97 x98) := by
  obtain ⟨hz, h1, h17, hb⟩ := hX
  obtain ⟨c, z1, z3, z4, z5, es, hc, hts, hlt, a5, a6, a7, af, hk⟩ := p_scan (x1 := x1) (x2 := x2) (x3 := x3) (x4 := x4) (x5 := x5) (t := x91) hz h1 (fun j hj => (hb j hj).1)
  unfold fX5_readText fX5_readText_0 fX12_rule fX12_rule_0 fX12_starts fX12_starts_0
  rw [es, bd4_s, if_neg (show ¬ x74 21 = (6 : Int32) by rw [h21]; exact fun hh => by have := (nI_eq (b := 6) (by omega) (by omega)).mp hh; omega), bd1_s, h21]
  unfold fX5_readText_19 fX12_rule_27
  have ih := u_loop (x2 := x2) (t := x91) (sz := sz) (c := c) (slot := slot) (x3 := z3) (x4 := z4) (x5 := z5) (x91 := x91) 12 5000 5000 0 0 0 [] z1 (upd (upd x13 2 0) 3 0) x14 (upd (upd (upd (upd (upd (upd x74 20 (nI slot)) 18 0) 19 0) 22 0) 23 0) 24 0) x92 x93 x94 x95 x96 x97 x98 rfl (by omega) (by omega) ⟨⟨⟨⟨hz, hc, hts, hlt, (af 1 (by omega) (by omega) (by omega)).trans h1, a5, a6, by omega, hk⟩, ⟨hz, h17, rfl, rfl, fun _ _ => rfl, fun j hj => (hb j hj).2⟩, Nat.zero_le _, rfl, Nat.zero_le _⟩, ⟨rfl, rfl, (fun j o hj => by cases hj)⟩, ⟨rfl, rfl, rfl, (fun j o hj => by cases hj), h26⟩, hs, Nat.zero_le _, Nat.le_refl _, Nat.zero_le _⟩, rfl, h21, trivial, fun cl hcl => by cases hcl⟩
  exact RUO_fr (fun j j1 j2 j3 j4 j5 j6 j7 j8 j9 => by rw [pk_un j8, pk_un j7, pk_un j6, pk_un j3, pk_un j2, pk_un j4]) FRR_refl ih
end RUL

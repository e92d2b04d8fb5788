section CAND
variable {H M K N B : Nat} {q : Nat → Nat} {S S0 : SN} {n : Nat} {nd nh np : Nat → Nat} {x16 x17 x18 x19 x20 x21 x22 x28 x29 x30 x33 x67 x68 x69 x70 x71 x73 x80 x81 x82 : Nat → Int32}
def ln (nd : Nat → Nat) : Nat → Nat
  | 0 => 0
  | i + 1 => if ln nd i < nd i then nd i else ln nd i
theorem ln_ge {nd : Nat → Nat} : ∀ i j, j < i → nd j ≤ ln nd i
  | i + 1, j, h => by
    unfold ln
    by_cases e : j = i
    · subst e; split <;> omega
    · have := ln_ge (nd := nd) i j (by omega)
      split <;> omega
theorem ln_le {nd : Nat → Nat} : ∀ i, (∀ j, j < i → nd j ≤ 60) → ln nd i ≤ 60
  | 0, _ => Nat.zero_le _
  | i + 1, h => by
    have := ln_le i fun j hj => h j (by omega)
    have := h i (by omega)
    unfold ln
    split <;> omega
/-- whether all notes of a day are so -/
def okD (n : Nat) (nd nh np : Nat → Nat) (d : Nat) (g : Nat → Nat) : Prop := ∀ j, j < n → nd j = d → g (nh j) = np j
/-- whether all notes are so by a rule -/
def okA (H M K N : Nat) (q : Nat → Nat) (W : WW) (n : Nat) (nd nh np : Nat → Nat) (S0 : SN) : Prop := ∀ j, j < n → sPl (run H M K N q W (nd j) S0) (nh j) = np j
theorem p_lastNoted (hN : NT H M n nd nh np x28 x29 x30 x80 x81 x82) (h7 : x16 7 = nI n) : fX6_lastNotedDay x16 x28 = some (nI (ln nd n)) := by
  obtain ⟨hn, hj⟩ := hN
  unfold fX6_lastNotedDay fX6_lastNotedDay_0 fX6_lastNotedDay_4
  refine loop2 (fX6_lastNotedDay_4b x16 x28) (fun m v1 v2 => ∃ i, i + m = n ∧ v1 = nI (ln nd i) ∧ v2 = nI i) (fun o => o = some (nI (ln nd n))) ?_ ?_ n 5000 _ _ (by omega) ⟨0, by omega, rfl, rfl⟩
  · rintro k m _ _ ⟨i, hi, rfl, rfl⟩
    obtain ⟨⟨a1, _, _⟩, ⟨b1, _, _⟩, _⟩ := hj i (by omega)
    have l1 := ln_le (nd := nd) i fun j h => (hj j (by omega)).1.1
    refine Or.inl ⟨nI (ln nd (i + 1)), nI (i + 1), ⟨i + 1, by omega, rfl, rfl⟩, ?_⟩
    unfold fX6_lastNotedDay_4b
    rw [h7, if_neg (nI_ge (show i < n by omega) (by omega)), gd_t (inbN (by omega) (by decide)), bn_s, bn_s, clN (by omega), b1, nI_1]
    show _ = k (nI (if ln nd i < nd i then nd i else ln nd i)) _
    by_cases c : ln nd i < nd i
    · rw [if_pos c, if_pos (nI_lt c (by omega))]
    · rw [if_neg c, if_neg (nI_nlt (by omega) (by omega))]
  · rintro k _ _ ⟨i, hi, rfl, rfl⟩
    have ei : i = n := by omega
    subst ei
    unfold fX6_lastNotedDay_4b
    rw [h7, if_pos (nI_le (Nat.le_refl _) (by omega))]
theorem p_asNoted {d : Nat} (hM : M ≤ 6) (hH : H ≤ 60) (hN : NT H M n nd nh np x28 x29 x30 x80 x81 x82) (h7 : x16 7 = nI n) (hR : RC S x68 x69 x70 x71) (hd : S 0 = d) (hd2 : d < 1000) (hg : ∀ h, h < 6 → sPl S h ≤ 60) : (okD n nd nh np d (sPl S) ∧ fX6_isAsNoted x16 x28 x29 x30 x68 x69 = some (nI 1)) ∨ (¬ okD n nd nh np d (sPl S) ∧ fX6_isAsNoted x16 x28 x29 x30 x68 x69 = some (nI 0)) := by
  obtain ⟨hn, hj⟩ := hN
  have r0 : x68 0 = nI d := (hR.1 0 (by omega)).trans (by rw [hd])
  unfold fX6_isAsNoted fX6_isAsNoted_0 fX6_isAsNoted_2
  refine loop1 (fX6_isAsNoted_2b x16 x28 x29 x30 x68 x69) (fun m v2 => ∃ i, i + m = n ∧ v2 = nI i ∧ okD i nd nh np d (sPl S)) (fun o => (okD n nd nh np d (sPl S) ∧ o = some (nI 1)) ∨ (¬ okD n nd nh np d (sPl S) ∧ o = some (nI 0))) ?_ ?_ n 5000 _ (by omega) ⟨0, by omega, rfl, fun j hj => absurd hj (by omega)⟩
  · rintro k m _ ⟨i, hi, rfl, ho⟩
    obtain ⟨⟨a1, a2, a3⟩, ⟨b1, b2, b3⟩, _⟩ := hj i (by omega)
    have gi := hg (nh i) (by omega)
    unfold fX6_isAsNoted_2b fX6_isAsNoted_45
    rw [h7, if_neg (nI_ge (show i < n by omega) (by omega)), gd_t (inbN (by omega) (by decide)), clN (by omega), b1, r0]
    have up : (nd i = d → sPl S (nh i) = np i) → okD (i + 1) nd nh np d (sPl S) := fun h j hj' => by
      by_cases e : j = i
      · subst e; exact h
      · exact ho j (by omega)
    by_cases c1 : nd i = d
    · rw [if_pos (by rw [c1]), gd_t (inbN (by omega) (by decide)), b2, gd_t (in6 (show nh i < 6 by omega)), gd_t (inbN (by omega) (by decide)), cl6 (show nh i < 6 by omega), RC_p hR (nh i) (by omega), b3]
      by_cases c2 : sPl S (nh i) = np i
      · rw [if_pos (by rw [c2]), bn_s, nI_1]
        exact Or.inl ⟨nI (i + 1), ⟨i + 1, by omega, rfl, up fun _ => c2⟩, rfl⟩
      · rw [if_neg (fun e => c2 ((nI_eq (by omega) (by omega)).mp e))]
        exact Or.inr (Or.inr ⟨fun h => c2 (h i (by omega) c1), rfl⟩)
    · rw [if_neg (fun e => c1 ((nI_eq (by omega) (by omega)).mp e)), bn_s, nI_1]
      exact Or.inl ⟨nI (i + 1), ⟨i + 1, by omega, rfl, up fun h => absurd h c1⟩, rfl⟩
  · rintro k _ ⟨i, hi, rfl, ho⟩
    have ei : i = n := by omega
    subst ei
    unfold fX6_isAsNoted_2b
    rw [h7, if_pos (nI_le (Nat.le_refl _) (by omega))]
    exact Or.inl ⟨ho, rfl⟩
theorem c_isSoN {lk mn : Nat} (hlk : lk ≤ 60) (hmn : mn < 7) (hV : VD H M 0 S0) (hT : TC H M K N q x17 x18) (hR0 : RC S0 x19 x20 x21 x22) (hN : NT H M n nd nh np x28 x29 x30 x80 x81 x82) (h7 : x16 7 = nI n) (h67 : x67 3 = nI mn) : ∃ r c33 c68 c69 c70 c71 c73, fX0_isSoN x16 x17 x18 x19 x20 x21 x22 x28 x29 x30 x67 (nI lk) x33 x68 x69 x70 x71 x73 = some (r, c33, c68, c69, c70, c71, c73) ∧ (∀ j, j < 6 * mn → c73 j = x73 j) ∧ ((r = nI 0 ∧ ¬ okA H M K N q none n nd nh np S0) ∨ (r = nI 1 ∧ okA H M K N q none n nd nh np S0 ∧ ∀ h, h < 6 → c73 (6 * mn + h) = nI (sPl (run H M K N q none lk S0) h))) := by
  obtain ⟨hM, hH5, hH, hgr, _⟩ := id hV.1
  have l60 := ln_le (nd := nd) n fun j h => (hN.2 j h).1.1
  have s00 : S0 0 = 0 := by have := hV.2.2.2.1; omega
  unfold fX0_isSoN fX0_isSoN_0
  obtain ⟨c68, c69, c70, c71, ec, hcp⟩ := p_copy (y0 := x68) (y1 := x69) (y2 := x70) (y3 := x71) hR0
  have eL : (if nI lk < nI (ln nd n) then nI (ln nd n) else nI lk) = nI (max lk (ln nd n)) := by
    by_cases c : lk < ln nd n
    · rw [if_pos (nI_lt c (by omega)), Nat.max_eq_right (by omega)]
    · rw [if_neg (nI_nlt (by omega) (by omega)), Nat.max_eq_left (by omega)]
  rw [p_lastNoted hN h7, bd1_s, bn_s, eL, ec, bd4_s]
  unfold fX0_isSoN_30
  refine loop9 (fX0_isSoN_30b x16 x17 x18 x19 x20 x21 x22 x28 x29 x30 x67) (fun m v3 v4 v5 _ z68 z69 z70 z71 z73 => ∃ d, d + m = max lk (ln nd n) + 1 ∧ v3 = nI lk ∧ v4 = nI (max lk (ln nd n)) ∧ v5 = nI d ∧ RC (run H M K N q none d S0) z68 z69 z70 z71 ∧ (∀ j, j < 6 * mn → z73 j = x73 j) ∧ (∀ j, j < n → nd j < d → sPl (run H M K N q none (nd j) S0) (nh j) = np j) ∧ (lk < d → ∀ h, h < 6 → z73 (6 * mn + h) = nI (sPl (run H M K N q none lk S0) h))) (fun o => ∃ r c33 c68 c69 c70 c71 c73, o = some (r, c33, c68, c69, c70, c71, c73) ∧ (∀ j, j < 6 * mn → c73 j = x73 j) ∧ ((r = nI 0 ∧ ¬ okA H M K N q none n nd nh np S0) ∨ (r = nI 1 ∧ okA H M K N q none n nd nh np S0 ∧ ∀ h, h < 6 → c73 (6 * mn + h) = nI (sPl (run H M K N q none lk S0) h)))) ?_ ?_ (max lk (ln nd n) + 1) 5000 _ _ _ _ _ _ _ _ _ (by omega) ⟨0, by omega, rfl, rfl, rfl, hcp, fun _ _ => rfl, fun j _ h => absurd h (by omega), fun h => absurd h (by omega)⟩
  · rintro k m _ _ _ z33 z68 z69 z70 z71 z73 ⟨d, hd, rfl, rfl, rfl, hR, h73, hok, hsee⟩
    have hVd := VD_run (W := none) (q := q) (N := N) (n := d) hT.2.1 hV
    have rd : run H M K N q none d S0 0 = d := by rw [run_0, s00, Nat.zero_add]
    have gd' := fun h (hh : h < 6) => (hVd.1.2.2.2.1 h hh).1
    rcases p_asNoted hM hH hN h7 hR rd (by omega) (fun h hh => by have := gd' h hh; omega) with ⟨ok, e⟩ | ⟨nok, e⟩
    · have hh := p_heatOf hT.1 hT.2.2.2.2.1 hT.2.2.2.2.2.2 (show run H M K N q none d S0 0 < 2147483648 by omega) (hR.1 0 (by omega)) (hR.1 2 (by omega)) hVd.2.2.2.2.2
      have h9 := hot_9 (d := run H M K N q none d S0 0) (ic := run H M K N q none d S0 2) hT.1
      obtain ⟨w0, w1, w2, w3, w33, ep, hr⟩ := p_passN (t := hot N q (run H M K N q none d S0 0) (run H M K N q none d S0 2)) (x33 := z33) hVd hT (by omega) hR
      have hr' : RC (run H M K N q none (d + 1) S0) w0 w1 w2 w3 := by rw [run_s]; exact hr
      have hok' : ∀ j, j < n → nd j < d + 1 → sPl (run H M K N q none (nd j) S0) (nh j) = np j := fun j hj hjd => by
        by_cases c : nd j = d
        · rw [c]; exact ok j hj c
        · exact hok j hj (by omega)
      by_cases c : d = lk
      · subst c
        refine Or.inl ⟨nI d, nI (max d (ln nd n)), nI (d + 1), w33, w0, w1, w2, w3, va_cpy z69 z73 0 (6 * mn) 6, ⟨d + 1, by omega, rfl, rfl, rfl, hr', fun j hj => ?_, hok', fun _ h hh => ?_⟩, ?_⟩
        · rw [pk_cpy_out (Or.inl hj)]; exact h73 j hj
        · rw [pk_cpy_in (by omega) (by omega), show 0 + (6 * mn + h - 6 * mn) = h by omega]; exact RC_p hR h hh
        · unfold fX0_isSoN_30b fX0_isSoN_80
          have cpk : ∀ m, m < 7 → cpok 0 (nI (6 * m)) 6 6 42 = true := by decide
          rw [if_neg (nI_nlt (by omega) (by omega)), e, bd1_s, if_neg (show ¬ nI 1 = (0 : Int32) from one_ne), if_pos rfl, h67, show nI mn * 6 = nI (6 * mn) from mul6b mn, show cpok 0 (nI (6 * mn)) 6 6 42 = true from cpk mn hmn, gd_t rfl, clN (by omega), hh, bd1_s, ep, bd6_s, bn_s, nI_1]
          rfl
      · refine Or.inl ⟨nI lk, nI (max lk (ln nd n)), nI (d + 1), w33, w0, w1, w2, w3, z73, ⟨d + 1, by omega, rfl, rfl, rfl, hr', h73, hok', fun h => hsee (by omega)⟩, ?_⟩
        unfold fX0_isSoN_30b fX0_isSoN_80
        rw [if_neg (nI_nlt (by omega) (by omega)), e, bd1_s, if_neg (show ¬ nI 1 = (0 : Int32) from one_ne), if_neg (fun e => c ((nI_eq (by omega) (by omega)).mp e)), hh, bd1_s, ep, bd6_s, bn_s, nI_1]
    · refine Or.inr ⟨nI 0, z33, z68, z69, z70, z71, z73, ?_, h73, Or.inl ⟨rfl, fun h => nok fun j hj hjd => by rw [← hjd]; exact h j hj⟩⟩
      unfold fX0_isSoN_30b
      rw [if_neg (nI_nlt (by omega) (by omega)), e, bd1_s, if_pos z00]
      rfl
  · rintro k _ _ _ z33 z68 z69 z70 z71 z73 ⟨d, hd, rfl, rfl, rfl, hR, h73, hok, hsee⟩
    refine ⟨nI 1, z33, z68, z69, z70, z71, z73, ?_, h73, Or.inr ⟨rfl, fun j hj => hok j hj (by have := ln_ge (nd := nd) n j hj; omega), hsee (by omega)⟩⟩
    unfold fX0_isSoN_30b
    rw [if_pos (nI_lt (by omega) (by omega))]
    rfl
theorem c_isSoR {Lru : Nat} {xr : Nat → Int32} {W : (Nat → Int64) → Int64} {z y : Nat → Int64} (hC : CW Lru xr W) {lk mn : Nat} (hlk : lk ≤ 60) (hmn : mn < 7) (hV : VD H M 0 S0) (hT : TC H M K N q x17 x18) (hR0 : RC S0 x19 x20 x21 x22) (hN : NT H M n nd nh np x28 x29 x30 x80 x81 x82) (h7 : x16 7 = nI n) (h67 : x67 3 = nI mn) : ∃ r c33 c68 c69 c70 c71 c73 z1 y1, fX0_isSoR Lru xr x16 x17 x18 x19 x20 x21 x22 x28 x29 x30 x67 (nI lk) x33 x68 x69 x70 x71 x73 z y = some (r, c33, c68, c69, c70, c71, c73, z1, y1) ∧ (∀ j, j < 6 * mn → c73 j = x73 j) ∧ ((r = nI 0 ∧ ¬ okA H M K N q (some W) n nd nh np S0) ∨ (r = nI 1 ∧ okA H M K N q (some W) n nd nh np S0 ∧ ∀ h, h < 6 → c73 (6 * mn + h) = nI (sPl (run H M K N q (some W) lk S0) h))) := by
  obtain ⟨hM, hH5, hH, hgr, _⟩ := id hV.1
  have l60 := ln_le (nd := nd) n fun j h => (hN.2 j h).1.1
  have s00 : S0 0 = 0 := by have := hV.2.2.2.1; omega
  unfold fX0_isSoR fX0_isSoR_0
  obtain ⟨c68, c69, c70, c71, ec, hcp⟩ := p_copy (y0 := x68) (y1 := x69) (y2 := x70) (y3 := x71) hR0
  have eL : (if nI lk < nI (ln nd n) then nI (ln nd n) else nI lk) = nI (max lk (ln nd n)) := by
    by_cases c : lk < ln nd n
    · rw [if_pos (nI_lt c (by omega)), Nat.max_eq_right (by omega)]
    · rw [if_neg (nI_nlt (by omega) (by omega)), Nat.max_eq_left (by omega)]
  rw [p_lastNoted hN h7, bd1_s, bn_s, eL, ec, bd4_s]
  unfold fX0_isSoR_30
  refine loop11 (fX0_isSoR_30b Lru xr x16 x17 x18 x19 x20 x21 x22 x28 x29 x30 x67) (fun m v3 v4 v5 _ z68 z69 z70 z71 z73 _ _ => ∃ d, d + m = max lk (ln nd n) + 1 ∧ v3 = nI lk ∧ v4 = nI (max lk (ln nd n)) ∧ v5 = nI d ∧ RC (run H M K N q (some W) d S0) z68 z69 z70 z71 ∧ (∀ j, j < 6 * mn → z73 j = x73 j) ∧ (∀ j, j < n → nd j < d → sPl (run H M K N q (some W) (nd j) S0) (nh j) = np j) ∧ (lk < d → ∀ h, h < 6 → z73 (6 * mn + h) = nI (sPl (run H M K N q (some W) lk S0) h))) (fun o => ∃ r c33 c68 c69 c70 c71 c73 z1 y1, o = some (r, c33, c68, c69, c70, c71, c73, z1, y1) ∧ (∀ j, j < 6 * mn → c73 j = x73 j) ∧ ((r = nI 0 ∧ ¬ okA H M K N q (some W) n nd nh np S0) ∨ (r = nI 1 ∧ okA H M K N q (some W) n nd nh np S0 ∧ ∀ h, h < 6 → c73 (6 * mn + h) = nI (sPl (run H M K N q (some W) lk S0) h)))) ?_ ?_ (max lk (ln nd n) + 1) 5000 _ _ _ _ _ _ _ _ _ _ _ (by omega) ⟨0, by omega, rfl, rfl, rfl, hcp, fun _ _ => rfl, fun j _ h => absurd h (by omega), fun h => absurd h (by omega)⟩
  · rintro k m _ _ _ z33 z68 z69 z70 z71 z73 zz yy ⟨d, hd, rfl, rfl, rfl, hR, h73, hok, hsee⟩
    have hVd := VD_run (W := (some W)) (q := q) (N := N) (n := d) hT.2.1 hV
    have rd : run H M K N q (some W) d S0 0 = d := by rw [run_0, s00, Nat.zero_add]
    have gd' := fun h (hh : h < 6) => (hVd.1.2.2.2.1 h hh).1
    rcases p_asNoted hM hH hN h7 hR rd (by omega) (fun h hh => by have := gd' h hh; omega) with ⟨ok, e⟩ | ⟨nok, e⟩
    · have hh := p_heatOf hT.1 hT.2.2.2.2.1 hT.2.2.2.2.2.2 (show run H M K N q (some W) d S0 0 < 2147483648 by omega) (hR.1 0 (by omega)) (hR.1 2 (by omega)) hVd.2.2.2.2.2
      have h9 := hot_9 (d := run H M K N q (some W) d S0 0) (ic := run H M K N q (some W) d S0 2) hT.1
      obtain ⟨w0, w1, w2, w3, w33, zz1, yy1, ep, hr⟩ := p_passR (t := hot N q (run H M K N q (some W) d S0 0) (run H M K N q (some W) d S0 2)) (x33 := z33) (z := zz) (y := yy) hC hVd (by omega) hT (by omega) hR
      have hr' : RC (run H M K N q (some W) (d + 1) S0) w0 w1 w2 w3 := by rw [run_s]; exact hr
      have hok' : ∀ j, j < n → nd j < d + 1 → sPl (run H M K N q (some W) (nd j) S0) (nh j) = np j := fun j hj hjd => by
        by_cases c : nd j = d
        · rw [c]; exact ok j hj c
        · exact hok j hj (by omega)
      by_cases c : d = lk
      · subst c
        refine Or.inl ⟨nI d, nI (max d (ln nd n)), nI (d + 1), w33, w0, w1, w2, w3, va_cpy z69 z73 0 (6 * mn) 6, zz1, yy1, ⟨d + 1, by omega, rfl, rfl, rfl, hr', fun j hj => ?_, hok', fun _ h hh => ?_⟩, ?_⟩
        · rw [pk_cpy_out (Or.inl hj)]; exact h73 j hj
        · rw [pk_cpy_in (by omega) (by omega), show 0 + (6 * mn + h - 6 * mn) = h by omega]; exact RC_p hR h hh
        · unfold fX0_isSoR_30b fX0_isSoR_80
          have cpk : ∀ m, m < 7 → cpok 0 (nI (6 * m)) 6 6 42 = true := by decide
          rw [if_neg (nI_nlt (by omega) (by omega)), e, bd1_s, if_neg (show ¬ nI 1 = (0 : Int32) from one_ne), if_pos rfl, h67, show nI mn * 6 = nI (6 * mn) from mul6b mn, show cpok 0 (nI (6 * mn)) 6 6 42 = true from cpk mn hmn, gd_t rfl, clN (by omega), hh, bd1_s, ep, bd8_s, bn_s, nI_1]
          rfl
      · refine Or.inl ⟨nI lk, nI (max lk (ln nd n)), nI (d + 1), w33, w0, w1, w2, w3, z73, zz1, yy1, ⟨d + 1, by omega, rfl, rfl, rfl, hr', h73, hok', fun h => hsee (by omega)⟩, ?_⟩
        unfold fX0_isSoR_30b fX0_isSoR_80
        rw [if_neg (nI_nlt (by omega) (by omega)), e, bd1_s, if_neg (show ¬ nI 1 = (0 : Int32) from one_ne), if_neg (fun e => c ((nI_eq (by omega) (by omega)).mp e)), hh, bd1_s, ep, bd8_s, bn_s, nI_1]
    · refine Or.inr ⟨nI 0, z33, z68, z69, z70, z71, z73, zz, yy, ?_, h73, Or.inl ⟨rfl, fun h => nok fun j hj hjd => by rw [← hjd]; exact h j hj⟩⟩
      unfold fX0_isSoR_30b
      rw [if_neg (nI_nlt (by omega) (by omega)), e, bd1_s, if_pos z00]
      rfl
  · rintro k _ _ _ z33 z68 z69 z70 z71 z73 zz yy ⟨d, hd, rfl, rfl, rfl, hR, h73, hok, hsee⟩
    refine ⟨nI 1, z33, z68, z69, z70, z71, z73, zz, yy, ?_, h73, Or.inr ⟨rfl, fun j hj => hok j hj (by have := ln_ge (nd := nd) n j hj; omega), hsee (by omega)⟩⟩
    unfold fX0_isSoR_30b
    rw [if_pos (nI_lt (by omega) (by omega))]
    rfl
end CAND

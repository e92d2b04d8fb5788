section TOWN
variable {x1 x2 x3 x4 x5 x7 x8 x9 x10 x11 x12 x16 x17 x18 x19 x20 x21 x22 x23 x24 x25 x26 x74 x75 x76 x77 x78 x79 x83 x84 x85 x86 x87 x88 x89 x90 x91 : Nat → Int32} {sz : Nat}
theorem r_z6 : ∃ z86, fX12_readsAll_6 x91 0 x74 x86 x87 x88 x89 x90 = fX12_readsAll_26 x91 0 x74 z86 x87 x88 x89 x90 ∧ ∀ j, j < 5 → z86 j = 0 := by
  unfold fX12_readsAll_6
  refine loop7 (fX12_readsAll_6b x91) (fun m v1 a74 a86 a87 a88 a89 a90 => ∃ i, i + m = 5 ∧ v1 = nI i ∧ x74 = a74 ∧ x87 = a87 ∧ x88 = a88 ∧ x89 = a89 ∧ x90 = a90 ∧ ∀ j, j < i → a86 j = 0) (fun o => ∃ z86, o = fX12_readsAll_26 x91 0 x74 z86 x87 x88 x89 x90 ∧ ∀ j, j < 5 → z86 j = 0) ?_ ?_ 5 5000 _ _ _ _ _ _ _ (by omega) ⟨0, rfl, rfl, rfl, rfl, rfl, rfl, rfl, fun j hj => absurd hj (by omega)⟩
  · rintro k m _ _ a86 _ _ _ _ ⟨i, hi, rfl, rfl, rfl, rfl, rfl, rfl, hz⟩
    refine Or.inl ⟨nI (i + 1), x74, upd a86 i 0, x87, x88, x89, x90, ⟨i + 1, by omega, rfl, rfl, rfl, rfl, rfl, rfl, fun j hj => ?_⟩, ?_⟩
    · by_cases e : j = i
      · subst e; exact pk_us
      · rw [pk_un e]; exact hz j (by omega)
    · unfold fX12_readsAll_6b
      rw [if_neg (show ¬ (5 : Int32) ≤ nI i from nI_ge (b := 5) (by omega) (by omega)), gd_t (inbN (by omega) (by decide)), bn_s, nI_1, clN (by omega)]
  · rintro k _ _ a86 _ _ _ _ ⟨i, hi, rfl, rfl, rfl, rfl, rfl, rfl, hz⟩
    have ei : i = 5 := by omega
    subst ei
    refine ⟨a86, ?_, hz⟩
    unfold fX12_readsAll_6b
    rw [if_pos (by decide)]
theorem r_z26 : ∃ z89, fX12_readsAll_26 x91 0 x74 x86 x87 x88 x89 x90 = fX12_readsAll_50 x91 0 x74 x86 x87 x88 z89 x90 ∧ ∀ j, j < 36 → z89 j = 0 := by
  unfold fX12_readsAll_26
  refine loop7 (fX12_readsAll_26b x91) (fun m v1 a74 a86 a87 a88 a89 a90 => ∃ i, i + m = 36 ∧ v1 = nI i ∧ x74 = a74 ∧ x86 = a86 ∧ x87 = a87 ∧ x88 = a88 ∧ x90 = a90 ∧ ∀ j, j < i → a89 j = 0) (fun o => ∃ z89, o = fX12_readsAll_50 x91 0 x74 x86 x87 x88 z89 x90 ∧ ∀ j, j < 36 → z89 j = 0) ?_ ?_ 36 5000 _ _ _ _ _ _ _ (by omega) ⟨0, rfl, rfl, rfl, rfl, rfl, rfl, rfl, fun j hj => absurd hj (by omega)⟩
  · rintro k m _ _ _ _ _ a89 _ ⟨i, hi, rfl, rfl, rfl, rfl, rfl, rfl, hz⟩
    refine Or.inl ⟨nI (i + 1), x74, x86, x87, x88, upd a89 i 0, x90, ⟨i + 1, by omega, rfl, rfl, rfl, rfl, rfl, rfl, fun j hj => ?_⟩, ?_⟩
    · by_cases e : j = i
      · subst e; exact pk_us
      · rw [pk_un e]; exact hz j (by omega)
    · unfold fX12_readsAll_26b
      rw [if_neg (show ¬ Int32.ofNat 36 ≤ nI i from nI_ge (b := 36) (by omega) (by omega)), gd_t (inbN (by omega) (by decide)), bn_s, nI_1, clN (by omega)]
  · rintro k _ _ _ _ _ a89 _ ⟨i, hi, rfl, rfl, rfl, rfl, rfl, rfl, hz⟩
    have ei : i = 36 := by omega
    subst ei
    refine ⟨a89, ?_, hz⟩
    unfold fX12_readsAll_26b
    rw [if_pos (by decide)]
theorem r_z50 : ∃ z87 z88, fX12_readsAll_50 x91 0 x74 x86 x87 x88 x89 x90 = fX12_readsAll_80 x91 0 1 x74 x86 z87 z88 x89 x90 ∧ (∀ j, j < 6 → z87 j = 0) ∧ ∀ j, j < 6 → z88 j = 0 := by
  unfold fX12_readsAll_50
  refine loop7 (fX12_readsAll_50b x91) (fun m v1 a74 a86 a87 a88 a89 a90 => ∃ i, i + m = 6 ∧ v1 = nI i ∧ x74 = a74 ∧ x86 = a86 ∧ x89 = a89 ∧ x90 = a90 ∧ (∀ j, j < i → a87 j = 0) ∧ ∀ j, j < i → a88 j = 0) (fun o => ∃ z87 z88, o = fX12_readsAll_80 x91 0 1 x74 x86 z87 z88 x89 x90 ∧ (∀ j, j < 6 → z87 j = 0) ∧ ∀ j, j < 6 → z88 j = 0) ?_ ?_ 6 5000 _ _ _ _ _ _ _ (by omega) ⟨0, rfl, rfl, rfl, rfl, rfl, rfl, fun j hj => absurd hj (by omega), fun j hj => absurd hj (by omega)⟩
  · rintro k m _ _ _ a87 a88 _ _ ⟨i, hi, rfl, rfl, rfl, rfl, rfl, hz, hz2⟩
    refine Or.inl ⟨nI (i + 1), x74, x86, upd a87 i 0, upd a88 i 0, x89, x90, ⟨i + 1, by omega, rfl, rfl, rfl, rfl, rfl, fun j hj => ?_, fun j hj => ?_⟩, ?_⟩
    · by_cases e : j = i
      · subst e; exact pk_us
      · rw [pk_un e]; exact hz j (by omega)
    · by_cases e : j = i
      · subst e; exact pk_us
      · rw [pk_un e]; exact hz2 j (by omega)
    · unfold fX12_readsAll_50b
      rw [if_neg (show ¬ (6 : Int32) ≤ nI i from nI_ge (b := 6) (by omega) (by omega)), gd_t (inbN (by omega) (by decide)), gd_t (inbN (by omega) (by decide)), bn_s, nI_1, clN (by omega)]
  · rintro k _ _ _ a87 a88 _ _ ⟨i, hi, rfl, rfl, rfl, rfl, rfl, hz, hz2⟩
    have ei : i = 6 := by omega
    subst ei
    refine ⟨a87, a88, ?_, hz, hz2⟩
    unfold fX12_readsAll_50b
    rw [if_pos (by decide)]
theorem p_clear : ∃ z7 z9 z10 z11 z12, fX9_clear x7 x9 x10 x11 x12 = some (z7, z9, z10, z11, z12) ∧ (z7 0 = 0 ∧ z7 1 = 0 ∧ z7 3 = 0 ∧ z7 4 = 0) ∧ (z9 0 = 0 ∧ z9 1 = 0 ∧ z9 2 = 0) ∧ (∀ j, j < 6 → z10 j = 0) ∧ (∀ j, j < 6 → z11 j = 0) ∧ ∀ j, j < 36 → z12 j = 0 := by
  obtain ⟨a, ea, ha⟩ := p_jfill (L := 6) (by omega) (v := 0) (x := x10)
  obtain ⟨b, eb, hb⟩ := p_jfill (L := 6) (by omega) (v := 0) (x := x11)
  obtain ⟨c, ec, hc⟩ := p_jfill (L := 36) (by omega) (v := 0) (x := x12)
  refine ⟨upd (upd (upd (upd x7 0 0) 1 0) 3 0) 4 0, upd (upd (upd x9 0 0) 1 0) 2 0, a, b, c, ?_, ⟨rfl, rfl, rfl, rfl⟩, ⟨rfl, rfl, rfl⟩, ha, hb, hc⟩
  unfold fX9_clear fX9_clear_0 fX7_clear fX7_clear_0
  rw [ea, bd1_s, eb, bd1_s, ec, bd1_s, bd4_s]
theorem t_text (hX : TX sz x1 x2 x74 x91) : TE (upd (upd (upd (upd (upd x74 18 0) 19 0) 22 0) 23 0) 24 0) (fX10_readText x2 x1 x3 x4 x5 x7 x8 x9 x10 x11 x12) (fX12_readsAll x91 x74 x86 x87 x88 x89 x90) := by
  obtain ⟨hz, h1, h17, hb⟩ := hX
  obtain ⟨z7, z9, z10, z11, z12, ec, ⟨c0, c1, c3, c4⟩, ⟨d0, d1, d2⟩, f10, f11, f12⟩ := p_clear (x7 := x7) (x9 := x9) (x10 := x10) (x11 := x11) (x12 := x12)
  obtain ⟨c, z1, z3, z4, z5, es, hc, hts, hlt, a5, a6, a7, af, hk⟩ := p_scan (x1 := x1) (x2 := x2) (x3 := x3) (x4 := x4) (x5 := x5) (t := x91) hz h1 (fun j hj => (hb j hj).1)
  unfold fX10_readText fX10_readText_0 fX12_readsAll fX12_readsAll_0 fX12_starts fX12_starts_0
  rw [ec, bd5_s, es, bd4_s, bd1_s]
  obtain ⟨y86, e6, g6⟩ := r_z6 (x74 := upd (upd (upd (upd (upd x74 18 0) 19 0) 22 0) 23 0) 24 0) (x86 := x86) (x87 := x87) (x88 := x88) (x89 := x89) (x90 := x90) (x91 := x91)
  obtain ⟨y89, e26, g26⟩ := r_z26 (x74 := upd (upd (upd (upd (upd x74 18 0) 19 0) 22 0) 23 0) 24 0) (x86 := y86) (x87 := x87) (x88 := x88) (x89 := x89) (x90 := x90) (x91 := x91)
  obtain ⟨y87, y88, e50, g50, g51⟩ := r_z50 (x74 := upd (upd (upd (upd (upd x74 18 0) 19 0) 22 0) 23 0) 24 0) (x86 := y86) (x87 := x87) (x88 := x88) (x89 := y89) (x90 := x90) (x91 := x91)
  rw [e6, e26, e50]
  unfold fX10_readText_16 fX12_readsAll_80
  refine t_loop (t := x91) (sz := sz) (c := c) 40 0 5000 5000 0 0 _ _ _ _ _ _ _ _ _ _ _ _ _ rfl (by omega) (by omega) ⟨⟨hz, hc, hts, hlt, (af 1 (by omega) (by omega) (by omega)).trans h1, a5, a6, by omega, hk⟩, ⟨hz, h17, rfl, rfl, fun _ _ => rfl, fun j hj => (hb j hj).2⟩, Nat.zero_le _, rfl, Nat.zero_le _⟩ ?_
  refine ⟨0, 0, 0, 0, 0, fun _ => 0, fun _ => 0, fun _ => 0, fun _ _ => 0, ⟨⟨c0, c1, c3, c4, d0, d1, d2⟩, ⟨f10, f11, fun a b ha hb => f12 _ (ix36 ha hb)⟩, ⟨g6 0 (by omega), g6 1 (by omega), g6 2 (by omega), g6 3 (by omega), g6 4 (by omega)⟩, ⟨g50, g51, fun a b ha hb => g26 _ (ix36 ha hb)⟩, fun j hj => absurd hj (by omega), ⟨by omega, by omega, by omega, by omega, by omega⟩, fun h hh => ⟨fun hm => absurd hm (by omega), fun _ => rfl, Nat.zero_le _, fun _ => rfl⟩, fun a b ha hb => ⟨Nat.zero_le _, rfl, fun _ => rfl⟩, fun a ha => rfl⟩, fun _ => ⟨rfl, rfl⟩, fun hh => absurd hh (by omega)⟩
/-- the fields of the reference that telling a town doesn't touch -/
def ft74 (x z : Nat → Int32) : Prop := ∀ j, j ≠ 17 → j ≠ 18 → j ≠ 19 → j ≠ 22 → j ≠ 23 → j ≠ 24 → j ≠ 43 → z j = x j
/-- a told town, as both sides begin it -/
def BT (H M K N : Nat) (q : Nat → Nat) (S0 : SN) (y17 y18 y19 y20 y21 y22 y23 y24 y25 y26 z75 z76 z77 z78 z79 z83 z84 z85 : Nat → Int32) : Prop := VD H M 0 S0 ∧ TC H M K N q y17 y18 ∧ TR H M K N q z75 z79 ∧ RC S0 y19 y20 y21 y22 ∧ RC S0 y23 y24 y25 y26 ∧ RR S0 z75 z76 z77 z78 ∧ BG S0 (z75 1) z83 z84 z85
theorem p_townC (hD : DR 1 x7 x8 x9 x10 x11 x12 x86 x87 x88 x89 x90) : ∃ H M K N q S0 y17 y18 y19 y20 y21 y22 y23 y24 y25 y26 z75 z76 z77 z78 z79 z83 z84 z85, fX6_open x7 x8 x9 x10 x11 x12 x16 x17 x18 x19 x20 x21 x22 x23 x24 x25 x26 = some (upd (upd x16 3 0) 7 0, y17, y18, y19, y20, y21, y22, y23, y24, y25, y26) ∧ fX12_town_21 x91 0 x74 x75 x76 x77 x78 x79 x83 x84 x85 x86 x87 x88 x89 x90 = some (nI M, upd x74 43 0, z75, z76, z77, z78, z79, z83, z84, z85, x86, x87, x88, x89, x90) ∧ y17 4 = nI M ∧ BT H M K N q S0 y17 y18 y19 y20 y21 y22 y23 y24 y25 y26 z75 z76 z77 z78 z79 z83 z84 z85 ∧ z75 8 = 0 ∧ z75 9 = x75 9 ∧ z75 10 = x75 10 := by
  obtain ⟨H, su, K, N, M, q, g, r, f, ⟨⟨h0, h1, h3, h4, s0, s1, s2⟩, ⟨hg, hr, hf⟩, ⟨r0, r1, r2, r3, r4⟩, ⟨hg', hr', hf'⟩, hq, ⟨bH, bs, bK, bN, bM⟩, hgr, hff, hd⟩, _, h5⟩ := hD
  have H5 := h5 (by omega)
  have hR0 : RC (mkS 0 su 0 g r f) x9 x10 x11 x12 := RC_mk s0 s1 s2 hg hr hf
  obtain ⟨y19, y20, y21, y22, e1, hR1⟩ := p_copy (y0 := x19) (y1 := x20) (y2 := x21) (y3 := x22) hR0
  obtain ⟨y23, y24, y25, y26, e2, hR2⟩ := p_copy (y0 := x23) (y1 := x24) (y2 := x25) (y3 := x26) hR0
  have hV : VD H M 0 (mkS 0 su 0 g r f) := by
    refine ⟨⟨bM, H5, bH, fun h hh => ?_, fun h hh hm => ?_, fun a b ha hb => ?_, fun a b ha hb hm => ?_, fun a b ha hb e => ?_⟩, fun h hh hm => ?_, fun a ha => ?_, Nat.le_refl _, bs, Nat.zero_le _⟩
    · rw [mk_p hh, mk_r hh]
      obtain ⟨g1, g2, g3, g4⟩ := hgr h hh
      refine ⟨?_, g3⟩
      by_cases k : h < M
      · have := g1 k; omega
      · rw [g2 (by omega)]; omega
    · rw [mk_r hh]; exact (hgr h hh).2.2.2 hm
    · rw [mk_h hb, mk_h ha]; exact ⟨(hff a b ha hb).1, (hff a b ha hb).2.1⟩
    · rw [mk_h hb]
      rcases hm with hm | hm
      · exact (hff a b ha hb).2.2 hm
      · rw [(hff a b ha hb).2.1]; exact (hff b a hb ha).2.2 hm
    · rw [mk_p (by omega)] at e
      have := (hgr a (by omega)).1 ha
      omega
    · rw [mk_p hh]; exact (hgr h hh).2.1 hm
    · rw [mk_h ha]; exact hd a ha
  obtain ⟨w75, e21, k75, k75b⟩ : ∃ w75, fX12_town_21 x91 0 x74 x75 x76 x77 x78 x79 x83 x84 x85 x86 x87 x88 x89 x90 = fX12_town_21b x91 (lq15 (fX12_town_21b x91) 0) (nI 5) x74 w75 x76 x77 x78 x79 x83 x84 x85 x86 x87 x88 x89 x90 ∧ (∀ j, j < 5 → w75 j = x86 j) ∧ ∀ j, 5 ≤ j → w75 j = x75 j := by
    unfold fX12_town_21
    refine loop15 (fX12_town_21b x91) (fun m v1 a74 a75 a76 a77 a78 a79 a83 a84 a85 a86 a87 a88 a89 a90 => ∃ i, i + m = 5 ∧ v1 = nI i ∧ x74 = a74 ∧ x76 = a76 ∧ x77 = a77 ∧ x78 = a78 ∧ x79 = a79 ∧ x83 = a83 ∧ x84 = a84 ∧ x85 = a85 ∧ x86 = a86 ∧ x87 = a87 ∧ x88 = a88 ∧ x89 = a89 ∧ x90 = a90 ∧ (∀ j, j < i → a75 j = x86 j) ∧ ∀ j, i ≤ j → a75 j = x75 j) (fun o => ∃ w75, o = fX12_town_21b x91 (lq15 (fX12_town_21b x91) 0) (nI 5) x74 w75 x76 x77 x78 x79 x83 x84 x85 x86 x87 x88 x89 x90 ∧ (∀ j, j < 5 → w75 j = x86 j) ∧ ∀ j, 5 ≤ j → w75 j = x75 j) ?_ ?_ 5 5000 _ _ _ _ _ _ _ _ _ _ _ _ _ _ _ (by omega) ⟨0, rfl, rfl, rfl, rfl, rfl, rfl, rfl, rfl, rfl, rfl, rfl, rfl, rfl, rfl, rfl, fun j hj => absurd hj (by omega), fun _ _ => rfl⟩
    · rintro k m _ _ a75 _ _ _ _ _ _ _ _ _ _ _ _ ⟨i, hi, rfl, rfl, rfl, rfl, rfl, rfl, rfl, rfl, rfl, rfl, rfl, rfl, rfl, rfl, ha, hb⟩
      refine Or.inl ⟨nI (i + 1), x74, upd a75 i (x86 i), x76, x77, x78, x79, x83, x84, x85, x86, x87, x88, x89, x90, ⟨i + 1, by omega, rfl, rfl, rfl, rfl, rfl, rfl, rfl, rfl, rfl, rfl, rfl, rfl, rfl, rfl, fun j hj => ?_, fun j hj => ?_⟩, ?_⟩
      · by_cases e : j = i
        · subst e; exact pk_us
        · rw [pk_un e]; exact ha j (by omega)
      · rw [pk_un (by omega)]; exact hb j (by omega)
      · unfold fX12_town_21b
        rw [if_neg (show ¬ (5 : Int32) ≤ nI i from nI_ge (b := 5) (by omega) (by omega)), gd_t (inbN (by omega) (by decide)), gd_t (inbN (by omega) (by decide)), bn_s, nI_1, clN (by omega)]
    · rintro k _ _ a75 _ _ _ _ _ _ _ _ _ _ _ _ ⟨i, hi, rfl, rfl, rfl, rfl, rfl, rfl, rfl, rfl, rfl, rfl, rfl, rfl, rfl, rfl, ha, hb⟩
      have ei : i = 5 := by omega
      subst ei
      refine ⟨a75, ?_, ha, hb⟩
      unfold fX12_town_21b
      rw [if_pos (by decide), if_pos (by decide)]
  obtain ⟨z83, e83, k83⟩ := p_copies (L := 6) (by omega) (xa := x87) (xb := x83)
  obtain ⟨z84, e84, k84⟩ := p_copies (L := 6) (by omega) (xa := x88) (xb := x84)
  obtain ⟨z85, e85, k85⟩ := p_copies (L := 36) (by omega) (xa := x89) (xb := x85)
  obtain ⟨z79, e79, k79⟩ := p_copies (L := 12) (by omega) (xa := x90) (xb := x79)
  have hBG : BG (mkS 0 su 0 g r f) (upd w75 8 0 1) z83 z84 z85 := by
    have hRm : RC (mkS 0 su 0 g r f) x9 x87 x88 x89 := RC_mk s0 s1 s2 hg' hr' hf'
    refine ⟨rfl, rfl, ?_, fun j hj => (k83 j hj).trans (hRm.2.1 j hj), fun j hj => (k84 j hj).trans (hRm.2.2.1 j hj), fun j hj => (k85 j hj).trans (hRm.2.2.2 j hj)⟩
    rw [pk_un (by omega), k75 1 (by omega), r1]
    rfl
  obtain ⟨z75, z76, z77, z78, eb, hRR, f75⟩ := p_begins (x76 := x76) (x77 := x77) (x78 := x78) hBG
  have hQ : VQ N q := ⟨bN, fun j hj => (hq j hj).2.2⟩
  have f75' : ∀ j, j < 5 → z75 j = x86 j := fun j hj => by rw [f75 j (by omega), pk_un (by omega), k75 j hj]
  have z4 : z75 (4 : Int32).toNatClampNeg = nI M := (f75' 4 (by omega)).trans r4
  refine ⟨H, M, K, N, q, mkS 0 su 0 g r f, upd (upd (upd (upd x17 0 (x7 0)) 1 (x7 1)) 3 (x7 3)) 4 (x7 4), va_cpy x8 x18 0 0 12, y19, y20, y21, y22, y23, y24, y25, y26, z75, z76, z77, z78, z79, z83, z84, z85, ?_, ?_, h4, ⟨hV, ⟨hQ, bK, h0, h1, h3, h4, fun j hj => ?_⟩, ⟨hQ, bK, (f75' 0 (by omega)).trans r0, (f75' 2 (by omega)).trans r2, (f75' 3 (by omega)).trans r3, (f75' 4 (by omega)).trans r4, fun j hj => ?_⟩, hR1, hR2, hRR, ?_⟩, ?_, ?_, ?_⟩
  · unfold fX6_open fX6_open_0 fX9_copy fX9_copy_0
    rw [gd_t (by decide), e1, bd4_s, bd6_s, e2, bd4_s]
    rfl
  · rw [e21]
    unfold fX12_town_21b
    have e8 : upd w75 (8 : Int32).toNatClampNeg 0 = upd w75 8 0 := rfl
    rw [if_pos (by decide), gd_t (by decide), e83, bd1_s, e84, bd1_s, e85, bd1_s, e79, bd1_s, e8, eb, bd4_s, gd_t (by decide), z4]
  · show va_cpy x8 x18 0 0 12 j = _
    unfold va_cpy
    rw [if_pos (by omega), Nat.zero_add, Nat.sub_zero]; exact (hq j hj).1
  · rw [k79 j (by omega)]; exact (hq j hj).2.1
  · rw [f75 1 (by omega)]; exact hBG
  · rw [f75 8 (by omega)]; rfl
  · rw [f75 9 (by omega), pk_un (by omega), k75b 9 (by omega)]
  · rw [f75 10 (by omega), pk_un (by omega), k75b 10 (by omega)]
theorem e_town (hX : TX sz x1 x2 x74 x91) : (∃ r y1 y3 y4 y5 y7 y8 y9 y10 y11 y12 z74 z86 z87 z88 z89 z90, fX11_town x2 x1 x3 x4 x5 x7 x8 x9 x10 x11 x12 x16 x17 x18 x19 x20 x21 x22 x23 x24 x25 x26 = some (r, y1, y3, y4, y5, y7, y8, y9, y10, y11, y12, x16, x17, x18, x19, x20, x21, x22, x23, x24, x25, x26) ∧ fX12_town x91 x74 x75 x76 x77 x78 x79 x83 x84 x85 x86 x87 x88 x89 x90 = some (r, z74, x75, x76, x77, x78, x79, x83, x84, x85, z86, z87, z88, z89, z90) ∧ TX 0 y1 x2 z74 x91 ∧ ft74 x74 z74 ∧ z74 43 = x74 43) ∨ ∃ r y1 y3 y4 y5 y7 y8 y9 y10 y11 y12 z74 z86 z87 z88 z89 z90 H M K N q S0 y17 y18 y19 y20 y21 y22 y23 y24 y25 y26 z75 z76 z77 z78 z79 z83 z84 z85, fX11_town x2 x1 x3 x4 x5 x7 x8 x9 x10 x11 x12 x16 x17 x18 x19 x20 x21 x22 x23 x24 x25 x26 = some (r, y1, y3, y4, y5, y7, y8, y9, y10, y11, y12, upd (upd x16 3 0) 7 0, y17, y18, y19, y20, y21, y22, y23, y24, y25, y26) ∧ fX12_town x91 x74 x75 x76 x77 x78 x79 x83 x84 x85 x86 x87 x88 x89 x90 = some (r, z74, z75, z76, z77, z78, z79, z83, z84, z85, z86, z87, z88, z89, z90) ∧ TX 0 y1 x2 z74 x91 ∧ ft74 x74 z74 ∧ z74 43 = 0 ∧ BT H M K N q S0 y17 y18 y19 y20 y21 y22 y23 y24 y25 y26 z75 z76 z77 z78 z79 z83 z84 z85 ∧ z75 8 = 0 ∧ z75 9 = x75 9 ∧ z75 10 = x75 10 := by
  have hb := hX.2.2.2
  have hTE := t_text (x3 := x3) (x4 := x4) (x5 := x5) (x7 := x7) (x8 := x8) (x9 := x9) (x10 := x10) (x11 := x11) (x12 := x12) (x86 := x86) (x87 := x87) (x88 := x88) (x89 := x89) (x90 := x90) hX
  unfold fX11_town fX11_town_0 fX12_town fX12_town_0
  have ff : ∀ {z74 : Nat → Int32}, fx74 (upd (upd (upd (upd (upd x74 18 0) 19 0) 22 0) 23 0) 24 0) z74 → ∀ j, j ≠ 17 → j ≠ 18 → j ≠ 19 → j ≠ 22 → j ≠ 23 → j ≠ 24 → z74 j = x74 j := fun h j a b c d e f => by rw [h j a b c, pk_un f, pk_un e, pk_un d, pk_un c, pk_un b]
  rcases hTE with ⟨y1, y3, y4, y5, y7, y8, y9, y10, y11, y12, z74, z86, z87, z88, z89, z90, ec, er, zf, z17, z19, hD⟩ | ⟨F, y1, y3, y4, y5, y7, y8, y9, y10, y11, y12, z74, z86, z87, z88, z89, z90, F0, F1, ec, y17, er, zf, z17, z19⟩
  · refine Or.inr ?_
    obtain ⟨H, M, K, N, q, S0, u17, u18, u19, u20, u21, u22, u23, u24, u25, u26, z75, z76, z77, z78, z79, z83, z84, z85, eo, et, u4, hBT, h8, h9, h10⟩ := p_townC (x16 := x16) (x17 := x17) (x18 := x18) (x19 := x19) (x20 := x20) (x21 := x21) (x22 := x22) (x23 := x23) (x24 := x24) (x25 := x25) (x26 := x26) (x74 := z74) (x75 := x75) (x76 := x76) (x77 := x77) (x78 := x78) (x79 := x79) (x83 := x83) (x84 := x84) (x85 := x85) (x91 := x91) hD
    refine ⟨nI M, upd y1 1 0, y3, y4, y5, y7, y8, y9, y10, y11, y12, upd z74 43 0, z86, z87, z88, z89, z90, H, M, K, N, q, S0, u17, u18, u19, u20, u21, u22, u23, u24, u25, u26, z75, z76, z77, z78, z79, z83, z84, z85, ?_, ?_, ⟨by omega, rfl, (pk_un (by omega)).trans z17, hb⟩, fun j a b c d e f g => by rw [pk_un g]; exact ff zf j a b c d e f, rfl, hBT, h8, h9, h10⟩
    · rw [ec, bd11_s, if_neg one_ne, eo, bd11_s, u4]
    · rw [er, bd6_s, z19, if_pos (by decide), et]
  · refine Or.inl ⟨-2 - nI F, upd y1 1 0, y3, y4, y5, y7, y8, y9, y10, y11, y12, z74, z86, z87, z88, z89, z90, ?_, ?_, ⟨by omega, rfl, z17, hb⟩, fun j a b c d e f _ => ff zf j a b c d e f, ff zf 43 (by omega) (by omega) (by omega) (by omega) (by omega) (by omega)⟩
    · rw [ec, bd11_s, if_pos rfl, pk_un (by omega), y17]
    · rw [er, bd6_s, z19, if_neg (show ¬ nI F ≤ 0 from nle0 (by omega) (by omega))]
end TOWN

section PAST
variable {x74 x75 x76 x77 x78 x102 xa : Nat → Int32}
/-- rows of numbers going into the past, or out of it -/
theorem p_movesS {L p : Nat} (hL : L ≤ 100) (hp : p + L ≤ 1020) (h5 : x74 45 = 0) (h4 : x74 44 = nI p) : ∃ za z74 z102, fX12_movesRow L xa x74 x102 = some (za, z74, z102) ∧ (∀ j, za j = xa j) ∧ z74 44 = nI (p + L) ∧ (∀ j, j ≠ 44 → z74 j = x74 j) ∧ ∀ j, z102 j = if p ≤ j ∧ j < p + L then xa (j - p) else x102 j := by
  refine loop4 (fX12_movesRow_2b L) (fun m v2 za z74 z102 => ∃ i, i + m = L ∧ v2 = nI i ∧ (∀ j, za j = xa j) ∧ z74 44 = nI (p + i) ∧ (∀ j, j ≠ 44 → z74 j = x74 j) ∧ ∀ j, z102 j = if p ≤ j ∧ j < p + i then xa (j - p) else x102 j) (fun o => ∃ za z74 z102, o = some (za, z74, z102) ∧ (∀ j, za j = xa j) ∧ z74 44 = nI (p + L) ∧ (∀ j, j ≠ 44 → z74 j = x74 j) ∧ ∀ j, z102 j = if p ≤ j ∧ j < p + L then xa (j - p) else x102 j) ?_ ?_ L 5000 _ _ _ _ (by omega) ⟨0, by omega, rfl, fun _ => rfl, h4, fun _ _ => rfl, fun j => by rw [if_neg (by omega)]⟩
  · rintro k m _ za z74 z102 ⟨i, hi, rfl, ha, h6', hf, hz⟩
    refine Or.inl ⟨nI (i + 1), upd za i (xa i), upd z74 44 (nI (p + (i + 1))), upd z102 (p + i) (xa i), ⟨i + 1, by omega, rfl, fun j => ?_, rfl, fun j hj => by rw [pk_un hj]; exact hf j hj, fun j => ?_⟩, ?_⟩
    · by_cases e : j = i
      · subst e; rw [pk_us]
      · rw [pk_un e]; exact ha j
    · by_cases e : j = p + i
      · subst e
        rw [pk_us, if_pos (by omega), show p + i - p = i by omega]
      · rw [pk_un e, hz j]
        (repeat' split) <;> first | rfl | omega
    · unfold fX12_movesRow_2b fX12_moves fX12_moves_0 fX12_moves_20
      rw [if_neg (show ¬ Int32.ofNat L ≤ nI i from nI_ge (a := i) (b := L) (by omega) (by omega)), gd_t (inbN (show i < L by omega) (by omega)), if_pos ((hf 45 (by omega)).trans h5), h6', gd_t (inbN (by omega) (by decide)), bd3_s, gd_t (inbN (show i < L by omega) (by omega)), bn_s, nI_1, nI_1, clN (by omega), clN (by omega), ha i]
      rfl
  · rintro k _ za z74 z102 ⟨i, hi, rfl, ha, h6', hf, hz⟩
    have ei : i = L := by omega
    subst ei
    refine ⟨za, z74, z102, ?_, ha, h6', hf, hz⟩
    unfold fX12_movesRow_2b
    rw [if_pos (show Int32.ofNat i ≤ nI i from nI_le (a := i) (b := i) (Nat.le_refl _) (by omega))]
theorem p_movesL {L p : Nat} (hL : L ≤ 100) (hp : p + L ≤ 1020) (h5 : x74 45 ≠ 0) (h4 : x74 44 = nI p) : ∃ za z74 z102, fX12_movesRow L xa x74 x102 = some (za, z74, z102) ∧ (∀ j, j < L → za j = x102 (p + j)) ∧ z74 44 = nI (p + L) ∧ (∀ j, j ≠ 44 → z74 j = x74 j) ∧ ∀ j, z102 j = x102 j := by
  refine loop4 (fX12_movesRow_2b L) (fun m v2 za z74 z102 => ∃ i, i + m = L ∧ v2 = nI i ∧ (∀ j, j < i → za j = x102 (p + j)) ∧ z74 44 = nI (p + i) ∧ (∀ j, j ≠ 44 → z74 j = x74 j) ∧ ∀ j, z102 j = x102 j) (fun o => ∃ za z74 z102, o = some (za, z74, z102) ∧ (∀ j, j < L → za j = x102 (p + j)) ∧ z74 44 = nI (p + L) ∧ (∀ j, j ≠ 44 → z74 j = x74 j) ∧ ∀ j, z102 j = x102 j) ?_ ?_ L 5000 _ _ _ _ (by omega) ⟨0, by omega, rfl, fun j hj => absurd hj (by omega), h4, fun _ _ => rfl, fun _ => rfl⟩
  · rintro k m _ za z74 z102 ⟨i, hi, rfl, ha, h6', hf, hz⟩
    refine Or.inl ⟨nI (i + 1), upd za i (x102 (p + i)), upd z74 44 (nI (p + (i + 1))), upd z102 (p + i) (x102 (p + i)), ⟨i + 1, by omega, rfl, fun j hj => ?_, rfl, fun j hj => by rw [pk_un hj]; exact hf j hj, fun j => ?_⟩, ?_⟩
    · by_cases e : j = i
      · subst e; rw [pk_us]
      · rw [pk_un e]; exact ha j (by omega)
    · by_cases e : j = p + i
      · subst e; rw [pk_us]
      · rw [pk_un e, hz j]
    · unfold fX12_movesRow_2b fX12_moves fX12_moves_0 fX12_moves_20
      rw [if_neg (show ¬ Int32.ofNat L ≤ nI i from nI_ge (a := i) (b := L) (by omega) (by omega)), gd_t (inbN (show i < L by omega) (by omega)), if_neg (by rw [hf 45 (by omega)]; exact h5), h6', gd_t (inbN (by omega) (by decide)), gd_t (inbN (by omega) (by decide)), bd3_s, gd_t (inbN (show i < L by omega) (by omega)), bn_s, nI_1, nI_1, clN (by omega), clN (by omega), hz]
      rfl
  · rintro k _ za z74 z102 ⟨i, hi, rfl, ha, h6', hf, hz⟩
    have ei : i = L := by omega
    subst ei
    refine ⟨za, z74, z102, ?_, ha, h6', hf, hz⟩
    unfold fX12_movesRow_2b
    rw [if_pos (show Int32.ofNat i ≤ nI i from nI_le (a := i) (b := i) (Nat.le_refl _) (by omega))]
/-- the fields of the reference that the past's rows don't touch -/
def fp74 (x z : Nat → Int32) : Prop := ∀ j, j ≠ 43 → j ≠ 44 → j ≠ 45 → z j = x j
theorem p_moves3S {p : Nat} (hp : p + 3 ≤ 1020) (h5 : x74 45 = 0) (h4 : x74 44 = nI p) : fX12_movesAll_15 5 x74 x75 x76 x77 x78 x102 = (fun z75 z74 z102 => bd3 (fX12_movesRow 6 x76 z74 z102) fun x76_1 x74_2 x102_3 => (bd3 (fX12_movesRow 6 x77 x74_2 x102_3) fun x77_5 x74_6 x102_7 => (bd3 (fX12_movesRow 36 x78 x74_6 x102_7) fun x78_9 x74_10 x102_11 => (some (x74_10, z75, x76_1, x77_5, x78_9, x102_11))))) (upd (upd (upd x75 5 (x75 5)) 6 (x75 6)) 7 (x75 7)) (upd (upd (upd x74 44 (nI (p + 1))) 44 (nI (p + 2))) 44 (nI (p + 3))) (upd (upd (upd x102 p (x75 5)) (p + 1) (x75 6)) (p + 2) (x75 7)) := by
  have st : ∀ (i : Nat) (z74 z75 z102 : Nat → Int32) (n : Nat) (pp : Nat), i < 8 → 5 ≤ i → pp < 1020 → z74 45 = 0 → z74 44 = nI pp → lq7 fX12_movesAll_15b (n + 1) (nI i) z74 z75 x76 x77 x78 z102 = lq7 fX12_movesAll_15b n (nI (i + 1)) (upd z74 44 (nI (pp + 1))) (upd z75 i (z75 i)) x76 x77 x78 (upd z102 pp (z75 i)) := by
    intro i z74 z75 z102 n pp hi h5' hpp a5 a4
    show fX12_movesAll_15b (lq7 fX12_movesAll_15b n) (nI i) z74 z75 x76 x77 x78 z102 = _
    unfold fX12_movesAll_15b fX12_moves fX12_moves_0 fX12_moves_20
    rw [if_neg (show ¬ (8 : Int32) ≤ nI i from nI_ge (b := 8) (by omega) (by omega)), gd_t (inbN (by omega) (by decide)), if_pos a5, a4, gd_t (inbN hpp (by decide)), bd3_s, gd_t (inbN (by omega) (by decide)), bn_s, nI_1, nI_1, clN (by omega), clN (by omega)]
  show lq7 fX12_movesAll_15b 5000 (nI 5) x74 x75 x76 x77 x78 x102 = _
  rw [st 5 x74 x75 x102 4999 p (by omega) (by omega) (by omega) h5 h4, st 6 _ _ _ 4998 (p + 1) (by omega) (by omega) (by omega) (by rw [pk_un (by omega)]; exact h5) pk_us, st 7 _ _ _ 4997 (p + 2) (by omega) (by omega) (by omega) (by rw [pk_un (by omega), pk_un (by omega)]; exact h5) pk_us]
  show fX12_movesAll_15b (lq7 fX12_movesAll_15b 4996) (nI 8) _ _ x76 x77 x78 _ = _
  unfold fX12_movesAll_15b
  rw [if_pos (by decide), pk_un (show (6 : Nat) ≠ 5 by omega), pk_un (show (7 : Nat) ≠ 6 by omega), pk_un (show (7 : Nat) ≠ 5 by omega)]
theorem p_moves3L {p : Nat} (hp : p + 3 ≤ 1020) (h5 : x74 45 ≠ 0) (h4 : x74 44 = nI p) : ∃ z75 z74 z102, fX12_movesAll_15 5 x74 x75 x76 x77 x78 x102 = (bd3 (fX12_movesRow 6 x76 z74 z102) fun x76_1 x74_2 x102_3 => (bd3 (fX12_movesRow 6 x77 x74_2 x102_3) fun x77_5 x74_6 x102_7 => (bd3 (fX12_movesRow 36 x78 x74_6 x102_7) fun x78_9 x74_10 x102_11 => (some (x74_10, z75, x76_1, x77_5, x78_9, x102_11))))) ∧ (∀ j, j < 3 → z75 (5 + j) = x102 (p + j)) ∧ (∀ j, j < 5 ∨ 8 ≤ j → z75 j = x75 j) ∧ z74 44 = nI (p + 3) ∧ (∀ j, j ≠ 44 → z74 j = x74 j) ∧ ∀ j, z102 j = x102 j := by
  refine loop7 fX12_movesAll_15b (fun m v3 z74 z75 z76 z77 z78 z102 => ∃ i, i + m = 3 ∧ v3 = nI (5 + i) ∧ x76 = z76 ∧ x77 = z77 ∧ x78 = z78 ∧ (∀ j, j < i → z75 (5 + j) = x102 (p + j)) ∧ (∀ j, j < 5 ∨ 8 ≤ j → z75 j = x75 j) ∧ z74 44 = nI (p + i) ∧ (∀ j, j ≠ 44 → z74 j = x74 j) ∧ ∀ j, z102 j = x102 j) (fun o => ∃ z75 z74 z102, o = (bd3 (fX12_movesRow 6 x76 z74 z102) fun x76_1 x74_2 x102_3 => (bd3 (fX12_movesRow 6 x77 x74_2 x102_3) fun x77_5 x74_6 x102_7 => (bd3 (fX12_movesRow 36 x78 x74_6 x102_7) fun x78_9 x74_10 x102_11 => (some (x74_10, z75, x76_1, x77_5, x78_9, x102_11))))) ∧ (∀ j, j < 3 → z75 (5 + j) = x102 (p + j)) ∧ (∀ j, j < 5 ∨ 8 ≤ j → z75 j = x75 j) ∧ z74 44 = nI (p + 3) ∧ (∀ j, j ≠ 44 → z74 j = x74 j) ∧ ∀ j, z102 j = x102 j) ?_ ?_ 3 5000 _ _ _ _ _ _ _ (by omega) ⟨0, rfl, rfl, rfl, rfl, rfl, fun j hj => absurd hj (by omega), fun _ _ => rfl, h4, fun _ _ => rfl, fun _ => rfl⟩
  · rintro k m _ z74 z75 _ _ _ z102 ⟨i, hi, rfl, rfl, rfl, rfl, ha, hb, h6', hf, hz⟩
    refine Or.inl ⟨nI (5 + (i + 1)), upd z74 44 (nI (p + (i + 1))), upd z75 (5 + i) (x102 (p + i)), x76, x77, x78, upd z102 (p + i) (x102 (p + i)), ⟨i + 1, by omega, rfl, rfl, rfl, rfl, fun j hj => ?_, fun j hj => ?_, rfl, fun j hj => by rw [pk_un hj]; exact hf j hj, fun j => ?_⟩, ?_⟩
    · by_cases e : j = i
      · subst e; rw [pk_us]
      · rw [pk_un (by omega)]; exact ha j (by omega)
    · rw [pk_un (by omega)]; exact hb j hj
    · by_cases e : j = p + i
      · subst e; rw [pk_us]
      · rw [pk_un e, hz j]
    · unfold fX12_movesAll_15b fX12_moves fX12_moves_0 fX12_moves_20
      rw [if_neg (show ¬ (8 : Int32) ≤ nI (5 + i) from nI_ge (b := 8) (by omega) (by omega)), gd_t (inbN (by omega) (by decide)), if_neg (by rw [hf 45 (by omega)]; exact h5), h6', gd_t (inbN (by omega) (by decide)), gd_t (inbN (by omega) (by decide)), bd3_s, gd_t (inbN (by omega) (by decide)), bn_s, nI_1, nI_1, clN (by omega), clN (by omega), hz]
      rfl
  · rintro k _ z74 z75 _ _ _ z102 ⟨i, hi, rfl, rfl, rfl, rfl, ha, hb, h6', hf, hz⟩
    have ei : i = 3 := by omega
    subst ei
    refine ⟨z75, z74, z102, ?_, ha, hb, h6', hf, hz⟩
    unfold fX12_movesAll_15b
    rw [if_pos (by decide)]
theorem p_saveAll {c : Nat} {S : SN} (hc : c < 20) (hR : RR S x75 x76 x77 x78) : ∃ z74 z75 z76 z77 z78 z102, fX12_movesAll (nI c) 0 x74 x75 x76 x77 x78 x102 = some (z74, z75, z76, z77, z78, z102) ∧ fp74 x74 z74 ∧ z74 43 = x74 43 ∧ (∀ j, z75 j = x75 j) ∧ (∀ j, z76 j = x76 j) ∧ (∀ j, z77 j = x77 j) ∧ (∀ j, z78 j = x78 j) ∧ (∀ j, j < 51 → z102 (51 * c + j) = nI (S j)) ∧ ∀ j, j < 51 * c ∨ 51 * c + 51 ≤ j → z102 j = x102 j := by
  have e0 : (51 : Int32) * nI c = nI (51 * c) := by rw [show (51 : Int32) = nI 51 from rfl, pk_mul]
  have m3 := p_moves3S (x74 := upd (upd x74 44 (nI (51 * c))) 45 0) (x75 := x75) (x76 := x76) (x77 := x77) (x78 := x78) (x102 := x102) (p := 51 * c) (by omega) rfl rfl
  obtain ⟨a1, b1, c1, e1, f1, g1, h1, k1⟩ := p_movesS (L := 6) (p := 51 * c + 3) (xa := x76) (x74 := upd (upd (upd (upd (upd x74 44 (nI (51 * c))) 45 0) 44 (nI (51 * c + 1))) 44 (nI (51 * c + 2))) 44 (nI (51 * c + 3))) (x102 := upd (upd (upd x102 (51 * c) (x75 5)) (51 * c + 1) (x75 6)) (51 * c + 2) (x75 7)) (by omega) (by omega) rfl rfl
  obtain ⟨a2, b2, c2, e2, f2, g2, h2, k2⟩ := p_movesS (L := 6) (p := 51 * c + 9) (xa := x77) (x74 := b1) (x102 := c1) (by omega) (by omega) (by rw [h1 45 (by omega)]; rfl) g1
  obtain ⟨a3, b3, c3, e3, f3, g3, h3, k3⟩ := p_movesS (L := 36) (p := 51 * c + 15) (xa := x78) (x74 := b2) (x102 := c2) (by omega) (by omega) (by rw [h2 45 (by omega), h1 45 (by omega)]; rfl) g2
  refine ⟨b3, upd (upd (upd x75 5 (x75 5)) 6 (x75 6)) 7 (x75 7), a1, a2, a3, c3, ?_, fun j j1 j2 j3 => ?_, ?_, fun j => ?_, f1, f2, f3, fun j hj => ?_, fun j hj => ?_⟩
  · unfold fX12_movesAll fX12_movesAll_0
    rw [gd_t (by decide), e0, m3]
    show bd3 _ _ = _
    rw [e1, bd3_s, e2, bd3_s, e3, bd3_s]
  · rw [h3 j j2, h2 j j2, h1 j j2, pk_un j2, pk_un j2, pk_un j2, pk_un j3, pk_un j2]
  · rw [h3 43 (by omega), h2 43 (by omega), h1 43 (by omega)]; rfl
  · unfold upd
    (repeat' split) <;> rename_i hh <;> first | rfl | rw [hh]
  · by_cases q1 : j < 3
    · rw [k3, if_neg (by omega), k2, if_neg (by omega), k1, if_neg (by omega), ← hR.1 j q1]
      match j, q1 with
      | 0, _ => rw [pk_un (by omega), pk_un (by omega)]; exact pk_us
      | 1, _ => rw [pk_un (by omega)]; exact pk_us
      | 2, _ => exact pk_us
      | j + 3, hj => omega
    · by_cases q2 : j < 9
      · rw [k3, if_neg (by omega), k2, if_neg (by omega), k1, if_pos (by omega), show 51 * c + j - (51 * c + 3) = j - 3 by omega, hR.2.1 (j - 3) (by omega), show 3 + (j - 3) = j by omega]
      · by_cases q3 : j < 15
        · rw [k3, if_neg (by omega), k2, if_pos (by omega), show 51 * c + j - (51 * c + 9) = j - 9 by omega, hR.2.2.1 (j - 9) (by omega), show 9 + (j - 9) = j by omega]
        · rw [k3, if_pos (by omega), show 51 * c + j - (51 * c + 15) = j - 15 by omega, hR.2.2.2 (j - 15) (by omega), show 15 + (j - 15) = j by omega]
  · rw [k3, if_neg (by omega), k2, if_neg (by omega), k1, if_neg (by omega), pk_un (by omega), pk_un (by omega), pk_un (by omega)]
end PAST

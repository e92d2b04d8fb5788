section CARRY
variable {x74 x75 x76 x77 x78 x112 xa : Nat → Int32}
theorem p_carryS {L p : Nat} (hL : L ≤ 2000) (hp : p + L ≤ 6500) (h7 : x74 57 = 0) (h6 : x74 56 = nI p) : ∃ z74 z112, fX12_carryRow L xa x74 x112 = some (xa, z74, z112) ∧ z74 56 = nI (p + L) ∧ (∀ j, j ≠ 56 → z74 j = x74 j) ∧ ∀ j, z112 j = if p ≤ j ∧ j < p + L then xa (j - p) else x112 j := by
  refine loop4 (fX12_carryRow_2b L) (fun m v2 za z74 z112 => ∃ i, i + m = L ∧ v2 = nI i ∧ xa = za ∧ z74 56 = nI (p + i) ∧ (∀ j, j ≠ 56 → z74 j = x74 j) ∧ ∀ j, z112 j = if p ≤ j ∧ j < p + i then xa (j - p) else x112 j) (fun o => ∃ z74 z112, o = some (xa, z74, z112) ∧ z74 56 = nI (p + L) ∧ (∀ j, j ≠ 56 → z74 j = x74 j) ∧ ∀ j, z112 j = if p ≤ j ∧ j < p + L then xa (j - p) else x112 j) ?_ ?_ L 5000 _ _ _ _ (by omega) ⟨0, by omega, rfl, rfl, h6, fun _ _ => rfl, fun j => by rw [if_neg (by omega)]⟩
  · rintro k m _ _ z74 z112 ⟨i, hi, rfl, rfl, h6', hf, hz⟩
    refine Or.inl ⟨_, _, upd z74 56 (nI (p + (i + 1))), upd z112 (p + i) (xa i), ⟨i + 1, by omega, rfl, rfl, rfl, fun j hj => by rw [pk_un hj]; exact hf j hj, fun j => ?_⟩, ?_⟩
    · by_cases e : j = p + i
      · subst e
        rw [pk_us, if_pos (by omega), show p + i - p = i by omega]
      · rw [pk_un e, hz j]
        (repeat' split) <;> first | rfl | omega
    · unfold fX12_carryRow_2b fX12_carryRow_42
      rw [if_neg (show ¬ Int32.ofNat L ≤ nI i from nI_ge (a := i) (b := L) (by omega) (by omega)), if_pos ((hf 57 (by omega)).trans h7), gd_t (inbN (show i < L by omega) (by omega)), h6', gd_t (inbN (by omega) (by decide)), bn_s, nI_1, nI_1, clN (by omega), clN (by omega)]
      rfl
  · rintro k _ _ z74 z112 ⟨i, hi, rfl, rfl, h6', hf, hz⟩
    have ei : i = L := by omega
    subst ei
    refine ⟨z74, z112, ?_, h6', hf, hz⟩
    unfold fX12_carryRow_2b
    rw [if_pos (show Int32.ofNat i ≤ nI i from nI_le (a := i) (b := i) (Nat.le_refl _) (by omega))]
theorem p_carryL {L p : Nat} (hL : L ≤ 2000) (hp : p + L ≤ 6500) (h7 : x74 57 ≠ 0) (h6 : x74 56 = nI p) : ∃ za z74, fX12_carryRow L xa x74 x112 = some (za, z74, x112) ∧ z74 56 = nI (p + L) ∧ (∀ j, j ≠ 56 → z74 j = x74 j) ∧ (∀ j, j < L → za j = x112 (p + j)) ∧ ∀ j, L ≤ j → za j = xa j := by
  refine loop4 (fX12_carryRow_2b L) (fun m v2 za z74 z112 => ∃ i, i + m = L ∧ v2 = nI i ∧ x112 = z112 ∧ z74 56 = nI (p + i) ∧ (∀ j, j ≠ 56 → z74 j = x74 j) ∧ (∀ j, j < i → za j = x112 (p + j)) ∧ ∀ j, i ≤ j → za j = xa j) (fun o => ∃ za z74, o = some (za, z74, x112) ∧ z74 56 = nI (p + L) ∧ (∀ j, j ≠ 56 → z74 j = x74 j) ∧ (∀ j, j < L → za j = x112 (p + j)) ∧ ∀ j, L ≤ j → za j = xa j) ?_ ?_ L 5000 _ _ _ _ (by omega) ⟨0, by omega, rfl, rfl, h6, fun _ _ => rfl, fun j hj => absurd hj (by omega), fun _ _ => rfl⟩
  · rintro k m _ za z74 _ ⟨i, hi, rfl, rfl, h6', hf, hz, hz2⟩
    refine Or.inl ⟨_, upd za i (x112 (p + i)), upd z74 56 (nI (p + (i + 1))), _, ⟨i + 1, by omega, rfl, rfl, rfl, fun j hj => by rw [pk_un hj]; exact hf j hj, fun j hj => ?_, fun j hj => ?_⟩, ?_⟩
    · by_cases e : j = i
      · subst e; rw [pk_us]
      · rw [pk_un e]; exact hz j (by omega)
    · rw [pk_un (by omega)]; exact hz2 j (by omega)
    · unfold fX12_carryRow_2b fX12_carryRow_42
      rw [if_neg (show ¬ Int32.ofNat L ≤ nI i from nI_ge (a := i) (b := L) (by omega) (by omega)), if_neg (by rw [hf 57 (by omega)]; exact h7), h6', gd_t (inbN (by omega) (by decide)), gd_t (inbN (show i < L by omega) (by omega)), bn_s, nI_1, nI_1, clN (by omega), clN (by omega)]
      rfl
  · rintro k _ za z74 _ ⟨i, hi, rfl, rfl, h6', hf, hz, hz2⟩
    have ei : i = L := by omega
    subst ei
    refine ⟨za, z74, ?_, h6', hf, hz, hz2⟩
    unfold fX12_carryRow_2b
    rw [if_pos (show Int32.ofNat i ≤ nI i from nI_le (a := i) (b := i) (Nat.le_refl _) (by omega))]
/-- the fifth image holds the rows -/
def Kp (x75 x76 x77 x78 x112 : Nat → Int32) : Prop := (∀ j, j < 11 → x112 (5200 + j) = x75 j) ∧ (∀ j, j < 6 → x112 (5211 + j) = x76 j) ∧ (∀ j, j < 6 → x112 (5217 + j) = x77 j) ∧ (∀ j, j < 36 → x112 (5223 + j) = x78 j)
/-- the fields of the reference that the images' rows don't touch -/
def fr74 (x z : Nat → Int32) : Prop := ∀ j, j ≠ 56 → j ≠ 57 → z j = x j
theorem p_keepsAll : ∃ z74 z112, fX12_keepsAll x74 x75 x76 x77 x78 x112 = some (z74, x75, x76, x77, x78, z112) ∧ fr74 x74 z74 ∧ Kp x75 x76 x77 x78 z112 ∧ ∀ j, j < 5200 → z112 j = x112 j := by
  obtain ⟨a1, b1, e1, p1, f1, h1⟩ := p_carryS (L := 11) (p := 5200) (xa := x75) (x74 := upd (upd x74 56 (1300 * 4)) 57 0) (x112 := x112) (by omega) (by omega) rfl rfl
  obtain ⟨a2, b2, e2, p2, f2, h2⟩ := p_carryS (L := 6) (p := 5211) (xa := x76) (x74 := a1) (x112 := b1) (by omega) (by omega) (by rw [f1 57 (by omega)]; rfl) p1
  obtain ⟨a3, b3, e3, p3, f3, h3⟩ := p_carryS (L := 6) (p := 5217) (xa := x77) (x74 := a2) (x112 := b2) (by omega) (by omega) (by rw [f2 57 (by omega), f1 57 (by omega)]; rfl) p2
  obtain ⟨a4, b4, e4, p4, f4, h4⟩ := p_carryS (L := 36) (p := 5223) (xa := x78) (x74 := a3) (x112 := b3) (by omega) (by omega) (by rw [f3 57 (by omega), f2 57 (by omega), f1 57 (by omega)]; rfl) p3
  refine ⟨a4, b4, ?_, fun j h6 h7 => ?_, ⟨fun j hj => ?_, fun j hj => ?_, fun j hj => ?_, fun j hj => ?_⟩, fun j hj => ?_⟩
  · unfold fX12_keepsAll fX12_keepsAll_0 fX12_carriesAllK fX12_carriesAllK_0
    rw [e1, bd3_s, e2, bd3_s, e3, bd3_s, e4, bd3_s, bd6_s]
  · rw [f4 j h6, f3 j h6, f2 j h6, f1 j h6, pk_un h7, pk_un h6]
  · rw [h4, if_neg (by omega), h3, if_neg (by omega), h2, if_neg (by omega), h1, if_pos (by omega), show 5200 + j - 5200 = j by omega]
  · rw [h4, if_neg (by omega), h3, if_neg (by omega), h2, if_pos (by omega), show 5211 + j - 5211 = j by omega]
  · rw [h4, if_neg (by omega), h3, if_pos (by omega), show 5217 + j - 5217 = j by omega]
  · rw [h4, if_pos (by omega), show 5223 + j - 5223 = j by omega]
  · rw [h4, if_neg (by omega), h3, if_neg (by omega), h2, if_neg (by omega), h1, if_neg (by omega)]
theorem p_laysBack {o75 o76 o77 o78 : Nat → Int32} (hK : Kp o75 o76 o77 o78 x112) : ∃ z74 z75 z76 z77 z78, fX12_laysBack x74 x75 x76 x77 x78 x112 = some (z74, z75, z76, z77, z78, x112) ∧ fr74 x74 z74 ∧ (∀ j, j < 11 → z75 j = o75 j) ∧ (∀ j, j < 6 → z76 j = o76 j) ∧ (∀ j, j < 6 → z77 j = o77 j) ∧ (∀ j, j < 36 → z78 j = o78 j) := by
  obtain ⟨k1, k2, k3, k4⟩ := hK
  obtain ⟨y1, a1, e1, p1, f1, h1, _⟩ := p_carryL (L := 11) (p := 5200) (xa := x75) (x74 := upd (upd x74 56 (1300 * 4)) 57 1) (x112 := x112) (by omega) (by omega) one_ne rfl
  obtain ⟨y2, a2, e2, p2, f2, h2, _⟩ := p_carryL (L := 6) (p := 5211) (xa := x76) (x74 := a1) (x112 := x112) (by omega) (by omega) (by rw [f1 57 (by omega)]; exact one_ne) p1
  obtain ⟨y3, a3, e3, p3, f3, h3, _⟩ := p_carryL (L := 6) (p := 5217) (xa := x77) (x74 := a2) (x112 := x112) (by omega) (by omega) (by rw [f2 57 (by omega), f1 57 (by omega)]; exact one_ne) p2
  obtain ⟨y4, a4, e4, p4, f4, h4, _⟩ := p_carryL (L := 36) (p := 5223) (xa := x78) (x74 := a3) (x112 := x112) (by omega) (by omega) (by rw [f3 57 (by omega), f2 57 (by omega), f1 57 (by omega)]; exact one_ne) p3
  refine ⟨a4, y1, y2, y3, y4, ?_, fun j h6 h7 => ?_, fun j hj => (h1 j hj).trans (k1 j hj), fun j hj => (h2 j hj).trans (k2 j hj), fun j hj => (h3 j hj).trans (k3 j hj), fun j hj => (h4 j hj).trans (k4 j hj)⟩
  · unfold fX12_laysBack fX12_laysBack_0 fX12_carriesAllL fX12_carriesAllL_0
    rw [e1, bd3_s, e2, bd3_s, e3, bd3_s, e4, bd3_s, bd6_s]
  · rw [f4 j h6, f3 j h6, f2 j h6, f1 j h6, pk_un h7, pk_un h6]
end CARRY
section SMALL
variable {M H : Nat} {x17 x75 : Nat → Int32}
theorem p_within {lo hi : Nat} (hh : hi < 2147483647) (hl : lo ≤ hi) (v : Int32) : (∃ n, lo ≤ n ∧ n ≤ hi ∧ v = nI n ∧ fX11_isWithin v (nI lo) (nI hi) = some (nI 1) ∧ fX12_in v.toInt64 (lN lo) (lN hi) = some (nI 1)) ∨ (fX11_isWithin v (nI lo) (nI hi) = some (nI 0) ∧ fX12_in v.toInt64 (lN lo) (lN hi) = some (nI 0)) := by
  rw [p_isWithin]
  unfold fX12_in fX12_in_0 fX12_in_17
  rcases pk_ix v (n := hi + 1) (by omega) with h | h | ⟨j, hj, rfl⟩
  · refine Or.inr ⟨?_, ?_⟩
    · rw [if_pos (Int32.lt_of_lt_of_le h (ge0 (by omega)))]; rfl
    · rw [if_pos ((lg_cmp_lt _ _).mpr ?_)]; rfl
      rw [Int64.lt_iff_toInt_lt, Int32.toInt_toInt64, pk_lT (by omega)]
      have := Int32.lt_iff_toInt_lt.mp h
      rw [show (0 : Int32).toInt = 0 from rfl] at this
      omega
  · have h2 := Int32.le_iff_toInt_le.mp h
    rw [show (nI (hi + 1)).toInt = ((hi + 1 : Nat) : Int) from nI_toInt (by omega)] at h2
    have lo' : (nI lo).toInt = (lo : Int) := nI_toInt (by omega)
    have hi' : (nI hi).toInt = (hi : Int) := nI_toInt (by omega)
    refine Or.inr ⟨?_, ?_⟩
    · rw [if_neg (fun e => by have := Int32.lt_iff_toInt_lt.mp e; omega), if_pos (Int32.lt_iff_toInt_lt.mpr (by omega))]; rfl
    · rw [if_neg (fun e => by have := Int64.lt_iff_toInt_lt.mp ((lg_cmp_lt _ _).mp e); rw [Int32.toInt_toInt64, pk_lT (by omega)] at this; omega), if_pos ((lg_cmp_gt _ _).mpr (Int64.lt_iff_toInt_lt.mpr (by rw [Int32.toInt_toInt64, pk_lT (by omega)]; omega)))]; rfl
  · by_cases c : lo ≤ j
    · refine Or.inl ⟨j, c, by omega, rfl, ?_, ?_⟩
      · rw [if_neg (nI_nlt c (by omega)), if_neg (nI_nlt (by omega) (by omega))]; rfl
      · rw [nI_l (by omega), if_neg (fun e => by have := (lN_lt (by omega) (by omega)).mp ((lg_cmp_lt _ _).mp e); omega), if_neg (fun e => by have := (lN_lt (by omega) (by omega)).mp ((lg_cmp_gt _ _).mp e); omega)]; rfl
    · refine Or.inr ⟨?_, ?_⟩
      · rw [if_pos (nI_lt (by omega) (by omega))]; rfl
      · rw [nI_l (by omega), if_pos ((lg_cmp_lt _ _).mpr ((lN_lt (by omega) (by omega)).mpr (by omega)))]; rfl
end SMALL

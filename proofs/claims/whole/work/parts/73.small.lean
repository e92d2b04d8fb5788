section SM2
variable {H M K N B : Nat} {q : Nat → Nat} {S : SN} {x17 x18 x75 x76 x79 : Nat → Int32}
theorem bz_0 : bz (nI 0) = true := by decide
theorem bz_1 : bz (nI 1) = true := by decide
theorem p_house (hM : M ≤ 6) (h1 : x17 4 = nI M) (h2 : x75 4 = nI M) (v : Int32) : (∃ h, h < M ∧ v = nI h ∧ fX11_isHouse x17 v = some (nI 1) ∧ fX12_isHouse x75 v = some (nI 1)) ∨ (fX11_isHouse x17 v = some (nI 0) ∧ fX12_isHouse x75 v = some (nI 0)) := by
  unfold fX11_isHouse fX11_isHouse_0 fX11_isHouse_22 fX12_isHouse fX12_isHouse_0
  rw [gd_t i4, n4', h1, h2]
  by_cases c0 : M = 0
  · subst c0
    refine Or.inr ⟨?_, ?_⟩
    · by_cases c : v < 0
      · rw [if_pos c]; rfl
      · rw [if_neg c, if_pos (show nI 0 ≤ v from Int32.not_lt.mp c)]; rfl
    · have e : fX12_in v.toInt64 0 ((nI 0 - 1).toInt64) = some (nI 0) := by
        unfold fX12_in fX12_in_0 fX12_in_17
        by_cases c : lg_cmp v.toInt64 0 < 0
        · rw [if_pos c]; rfl
        · rw [if_neg c, if_pos]
          · rfl
          · rw [lg_cmp_gt]
            have c' : ¬ v.toInt64 < 0 := fun h => c ((lg_cmp_lt _ _).mpr h)
            rw [Int64.lt_iff_toInt_lt] at c' ⊢
            rw [show (nI 0 - 1).toInt64.toInt = -1 from rfl]
            rw [show (0 : Int64).toInt = 0 from rfl] at c'
            omega
      rw [e, bd1_s, gd_t bz_0]
  · have e1 : ((nI M - 1).toInt64) = lN (M - 1) := by rw [zI1, nsub (by omega), nI_l (by omega)]
    rw [e1]
    rcases p_within (lo := 0) (hi := M - 1) (by omega) (by omega) v with ⟨n, n1, n2, rfl, w1, w2⟩ | ⟨w1, w2⟩
    · refine Or.inl ⟨n, by omega, rfl, ?_, ?_⟩
      · rw [if_neg (nI_pos (by omega)), if_neg (nI_ge (by omega) (by omega))]; rfl
      · rw [show (0 : Int64) = lN 0 from rfl, w2, bd1_s, gd_t bz_1]
    · refine Or.inr ⟨?_, ?_⟩
      · rw [p_isWithin] at w1
        by_cases c : v < 0
        · rw [if_pos c]; rfl
        · rw [if_neg c]
          by_cases c2 : nI (M - 1) < v
          · rw [if_pos]
            · rfl
            · have h1 := Int32.lt_iff_toInt_lt.mp c2
              rw [Int32.le_iff_toInt_le, nI_toInt (by omega)]
              rw [nI_toInt (by omega)] at h1
              omega
          · rw [if_neg (show ¬ v < nI 0 from c), if_neg c2] at w1
            cases w1
      · rw [show (0 : Int64) = lN 0 from rfl, w2, bd1_s, gd_t bz_0]
theorem p_two (hM : M ≤ 6) (h1 : x17 4 = nI M) (h2 : x75 4 = nI M) (v w : Int32) : (∃ a b, a < M ∧ b < M ∧ a ≠ b ∧ v = nI a ∧ w = nI b ∧ fX11_areTwo x17 v w = some (nI 1) ∧ fX12_areTwo x75 v w = some (nI 1)) ∨ (fX11_areTwo x17 v w = some (nI 0) ∧ fX12_areTwo x75 v w = some (nI 0)) := by
  unfold fX11_areTwo fX11_areTwo_0 fX11_areTwo_25 fX12_areTwo fX12_areTwo_0 fX12_areTwo_25
  rcases p_house hM h1 h2 v with ⟨a, ha, rfl, u1, u2⟩ | ⟨u1, u2⟩
  · rcases p_house hM h1 h2 w with ⟨b, hb, rfl, w1, w2⟩ | ⟨w1, w2⟩
    · by_cases c : a = b
      · subst c
        refine Or.inr ⟨?_, ?_⟩
        · rw [u1, bd1_s, if_neg (by decide), bd1_s, if_neg (by decide), if_pos rfl]; rfl
        · rw [u2, bd1_s, if_neg (by decide), bd1_s, if_neg (by decide), if_pos rfl]; rfl
      · have n : ¬ nI a = nI b := fun e => c ((nI_eq (by omega) (by omega)).mp e)
        refine Or.inl ⟨a, b, ha, hb, c, rfl, rfl, ?_, ?_⟩
        · rw [u1, bd1_s, if_neg (by decide), w1, bd1_s, if_neg (by decide), if_neg n]; rfl
        · rw [u2, bd1_s, if_neg (by decide), w2, bd1_s, if_neg (by decide), if_neg n]; rfl
    · refine Or.inr ⟨?_, ?_⟩
      · rw [u1, bd1_s, if_neg (by decide), w1, bd1_s, if_pos z00]; rfl
      · rw [u2, bd1_s, if_neg (by decide), w2, bd1_s, if_pos z00]; rfl
  · refine Or.inr ⟨?_, ?_⟩
    · rw [u1, bd1_s, if_pos z00]; rfl
    · rw [u2, bd1_s, if_pos z00]; rfl
theorem p_told1 (h : x17 0 = nI H) (h0 : 0 < H) (hH : H ≤ 60) : fX11_isTold x17 = some (nI 1) := by
  unfold fX11_isTold fX11_isTold_0
  rw [h, if_neg (nle0 h0 (by omega))]; rfl
theorem p_told0 (h : x17 0 = nI 0) : fX11_isTold x17 = some (nI 0) := by
  unfold fX11_isTold fX11_isTold_0
  rw [h, if_pos (le0 (Nat.le_refl 0))]; rfl
theorem p_town1 (h : x75 0 = nI H) (h0 : 0 < H) (hH : H ≤ 60) : fX12_isTown x75 = some (nI 1) := by
  unfold fX12_isTown fX12_isTown_0
  rw [gd_t i0, n0', h, if_neg (nle0 h0 (by omega))]; rfl
theorem p_town0 (h : x75 0 = nI 0) : fX12_isTown x75 = some (nI 0) := by
  unfold fX12_isTown fX12_isTown_0
  rw [gd_t i0, n0', h, if_pos (le0 (Nat.le_refl 0))]; rfl
/-- those in the river -/
def riv (H M : Nat) (g : Nat → Nat) : Nat := bset fun h => decide (h < M) && decide (H ≤ g h)
theorem p_riverC {x1 : Nat → Int32} (hV : VD H M B S) (hT : TC H M K N q x17 x18) (hx : RP x1 (sPl S)) : fX9_riverBits x1 x17 = some (nI (riv H M (sPl S))) := by
  obtain ⟨hM, hH5, hH, hgr, _⟩ := hV.1
  exact p_riverBits hM hH hT.2.2.1 hT.2.2.2.2.2.1 hx fun h hh => by have := (hgr h hh).1; omega
theorem p_riverR (hV : VD H M B S) (hT : TR H M K N q x75 x79) (hx : RP x76 (sPl S)) : fX12_inRiver x75 x76 = some (nI (riv H M (sPl S))) := by
  obtain ⟨hM, hH5, hH, hgr, _⟩ := hV.1
  have h0 := hT.2.2.1
  have h4 := hT.2.2.2.2.2.1
  generalize sPl S = g at hx hgr ⊢
  refine loop2 (fX12_inRiver_4b x75 x76) (fun m v2 v3 => ∃ i, i + m = M ∧ v2 = nI (bto (fun h => decide (h < M) && decide (H ≤ g h)) i) ∧ v3 = nI i) (fun o => o = some (nI (riv H M g))) ?_ ?_ M 5000 0 0 (by omega) ⟨0, by omega, by rw [bto_0]; rfl, rfl⟩
  · rintro k m _ _ ⟨i, hi, rfl, rfl⟩
    have hi6 : i < 6 := by omega
    have hg' := (hgr i hi6).1
    have e := p_inRiver (x75 := x75) h0 hH hx hi6 (by omega)
    refine Or.inl ⟨nI (bto (fun h => decide (h < M) && decide (H ≤ g h)) (i + 1)), nI (i + 1), ⟨i + 1, by omega, rfl, rfl⟩, ?_⟩
    unfold fX12_inRiver_4b fX12_inRiver_30
    by_cases c : g i = H
    · rw [if_pos c] at e
      rw [gd_t i4, n4', h4, if_neg (nI_ge (show i < M by omega) (by omega)), e, bd1_s, if_neg (show ¬ nI 1 = (0 : Int32) from one_ne), bn_s, bn_s, shl1 i hi6, nI_or (bto_lt _ _) (two_lt64 i hi6), bto_t (P := fun h => decide (h < M) && decide (H ≤ g h)) hi6 (by simp; omega), nI_1]
    · rw [if_neg c] at e
      rw [gd_t i4, n4', h4, if_neg (nI_ge (show i < M by omega) (by omega)), e, bd1_s, if_pos z00, bn_s, bn_s, zI0, nI_or (bto_lt _ _) (by omega), Nat.or_zero, ← bto_f (P := fun h => decide (h < M) && decide (H ≤ g h)) (by simp; omega), nI_1]
  · rintro k _ _ ⟨i, hi, rfl, rfl⟩
    have ei : i = M := by omega
    subst ei
    unfold fX12_inRiver_4b
    rw [gd_t i4, n4', h4, if_pos (nI_le (Nat.le_refl _) (by omega))]
    have : bto (fun h => decide (h < i) && decide (H ≤ g h)) i = riv H i g := bset_ext fun j hj => by
      by_cases c : j < i <;> simp [c]
    rw [this]
/-- all places together -/
def plc (g : Nat → Nat) : Nat → Nat
  | 0 => 0
  | n + 1 => plc g n + g n
theorem plc_le {g : Nat → Nat} {H : Nat} : ∀ n, n ≤ 6 → (∀ h, h < 6 → g h ≤ H) → plc g n ≤ n * H
  | 0, _, _ => Nat.zero_le _
  | n + 1, hn, h => by
    have := plc_le n (by omega) h
    have := h n (by omega)
    show plc g n + g n ≤ (n + 1) * H
    rw [Nat.succ_mul]
    omega
theorem p_placesC {x1 : Nat → Int32} (hM : M ≤ 6) (h4 : x17 4 = nI M) {g : Nat → Nat} (hx : RP x1 g) : fX9_placesOf x1 x17 = some (nI (plc g M)) := by
  refine loop2 (fX9_placesOf_4b x1 x17) (fun m v2 v3 => ∃ i, i + m = M ∧ v2 = nI (plc g i) ∧ v3 = nI i) (fun o => o = some (nI (plc g M))) ?_ ?_ M 5000 0 0 (by omega) ⟨0, by omega, rfl, rfl⟩
  · rintro k m _ _ ⟨i, hi, rfl, rfl⟩
    have hi6 : i < 6 := by omega
    refine Or.inl ⟨nI (plc g (i + 1)), nI (i + 1), ⟨i + 1, by omega, rfl, rfl⟩, ?_⟩
    unfold fX9_placesOf_4b
    rw [h4, if_neg (nI_ge (show i < M by omega) (by omega)), gd_t (in6 hi6), cl6 hi6, hx i hi6, bn_s, bn_s, nI_add, nI_1]
    rfl
  · rintro k _ _ ⟨i, hi, rfl, rfl⟩
    have ei : i = M := by omega
    subst ei
    unfold fX9_placesOf_4b
    rw [h4, if_pos (nI_le (Nat.le_refl _) (by omega))]
theorem p_placesR (hM : M ≤ 6) (h4 : x75 4 = nI M) {g : Nat → Nat} (hx : RP x76 g) : fX12_allPlaces x75 x76 = some (nI (plc g M)) := by
  refine loop2 (fX12_allPlaces_4b x75 x76) (fun m v2 v3 => ∃ i, i + m = M ∧ v2 = nI (plc g i) ∧ v3 = nI i) (fun o => o = some (nI (plc g M))) ?_ ?_ M 5000 0 0 (by omega) ⟨0, by omega, rfl, rfl⟩
  · rintro k m _ _ ⟨i, hi, rfl, rfl⟩
    have hi6 : i < 6 := by omega
    refine Or.inl ⟨nI (plc g (i + 1)), nI (i + 1), ⟨i + 1, by omega, rfl, rfl⟩, ?_⟩
    unfold fX12_allPlaces_4b
    rw [gd_t i4, n4', h4, if_neg (nI_ge (show i < M by omega) (by omega)), gd_t (in6 hi6), cl6 hi6, hx i hi6, bn_s, bn_s, nI_add, nI_1]
    rfl
  · rintro k _ _ ⟨i, hi, rfl, rfl⟩
    have ei : i = M := by omega
    subst ei
    unfold fX12_allPlaces_4b
    rw [gd_t i4, n4', h4, if_pos (nI_le (Nat.le_refl _) (by omega))]
theorem p_copy {x0 x1 x2 x3 y0 y1 y2 y3 : Nat → Int32} (h : RC S x0 x1 x2 x3) : ∃ z0 z1 z2 z3, fX7_copy x0 x1 x2 x3 y0 y1 y2 y3 = some (z0, z1, z2, z3) ∧ RC S z0 z1 z2 z3 := by
  obtain ⟨h0, h1, h2, h3⟩ := h
  refine ⟨upd (upd (upd y0 0 (x0 0)) 1 (x0 1)) 2 (x0 2), va_cpy x1 y1 0 0 6, va_cpy x2 y2 0 0 6, va_cpy x3 y3 0 0 36, ?_, fun j hj => ?_, fun j hj => ?_, fun j hj => ?_, fun j hj => ?_⟩
  · unfold fX7_copy fX7_copy_0
    rw [gd_t (by decide), gd_t (by decide), gd_t (by decide)]
    rfl
  · match j, hj with
    | 0, _ => exact h0 0 (by omega)
    | 1, _ => exact h0 1 (by omega)
    | 2, _ => exact h0 2 (by omega)
    | j + 3, hj => omega
  · rw [pk_cpy_in (by omega) (by omega), show 0 + (j - 0) = j by omega]; exact h1 j hj
  · rw [pk_cpy_in (by omega) (by omega), show 0 + (j - 0) = j by omega]; exact h2 j hj
  · rw [pk_cpy_in (by omega) (by omega), show 0 + (j - 0) = j by omega]; exact h3 j hj
end SM2

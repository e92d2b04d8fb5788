section QF
variable {H M K N B : Nat} {q : Nat → Nat} {S : SN} {W : WW} {x0 x1 x16 x17 x18 x23 x24 x25 x26 x28 x29 x30 x33 x74 x75 x76 x77 x78 x79 x80 x81 x82 x92 x93 x94 x95 x96 x97 : Nat → Int32}
theorem p_poured {x3 : Nat → Int32} {f : Nat → Nat → Nat} (hf : RH x3 f) (h9 : ∀ a b, a < 6 → b < 6 → f a b ≤ 9) {h : Nat} (hh : h < 6) : fX7_pouredTo x3 (nI h) = some (nI (bset fun o => decide (0 < f h o))) := by
  unfold fX7_pouredTo fX7_pouredTo_0
  rw [zI0, p_harderTo hf h9 hh (by omega), bd1_s]
theorem p_joined {f : Nat → Nat → Nat} (hM : M ≤ 6) (h4 : x75 4 = nI M) (hf : RH x78 f) (h9 : ∀ a b, a < 6 → b < 6 → f a b ≤ 9) (h0 : ∀ a b, a < 6 → b < 6 → (M ≤ a ∨ M ≤ b) → f a b = 0) {h : Nat} (hh : h < 6) : fX12_joinedTo x75 x78 (nI h) = some (nI (bset fun o => decide (0 < f h o))) := by
  refine loop3 (fX12_joinedTo_4b x75 x78) (fun m v1 v2 v3 => ∃ i, i + m = M ∧ v1 = nI h ∧ v2 = nI (bto (fun o => decide (0 < f h o)) i) ∧ v3 = nI i) (fun o => o = some (nI (bset fun o => decide (0 < f h o)))) ?_ ?_ M 5000 _ _ _ (by omega) ⟨0, by omega, rfl, by rw [bto_0]; rfl, rfl⟩
  · rintro k m _ _ _ ⟨i, hi, rfl, rfl, rfl⟩
    have hi6 : i < 6 := by omega
    have h9' := h9 h i hh hi6
    refine Or.inl ⟨nI h, nI (bto (fun o => decide (0 < f h o)) (i + 1)), nI (i + 1), ⟨i + 1, by omega, rfl, rfl, rfl⟩, ?_⟩
    unfold fX12_joinedTo_4b fX12_joinedTo_36
    rw [gd_t i4, n4', h4, if_neg (nI_ge (show i < M by omega) (by omega)), ixR, gd_t (inbH hh hi6), clH hh hi6, hf h i hh hi6]
    by_cases c : f h i ≤ 0
    · rw [if_pos (le0 c), bn_s, bn_s, nI_1, zI0, nI_or (bto_lt _ _) (by omega), Nat.or_zero, ← bto_f (P := fun o => decide (0 < f h o)) (by simp; omega)]
    · rw [if_neg (nle0 (by omega) (by omega)), bn_s, bn_s, nI_1, shl1 i hi6, nI_or (bto_lt _ _) (two_lt64 i hi6), bto_t (P := fun o => decide (0 < f h o)) hi6 (by simp; omega)]
  · rintro k _ _ _ ⟨i, hi, rfl, rfl, rfl⟩
    have ei : i = M := by omega
    subst ei
    unfold fX12_joinedTo_4b
    rw [gd_t i4, n4', h4, if_pos (nI_le (Nat.le_refl _) (by omega))]
    have : bto (fun o => decide (0 < f h o)) i = bset fun o => decide (0 < f h o) := bset_ext fun j hj => by
      by_cases c : j < i
      · simp [c]
      · simp [c, h0 h j hh hj (Or.inr (by omega))]
    rw [this]
/-- now: the heat and blocks on both sides -/
theorem p_heatC (hV : VD H M B S) (hB : B ≤ 999) (hT : TC H M K N q x17 x18) (hR : RC S x23 x24 x25 x26) : fX9_heatOf x23 x17 x18 = some (nI (hS N q S)) ∧ hS N q S ≤ 9 := by
  have hd : S 0 ≤ B := hV.2.2.2.1
  exact ⟨p_heatOf hT.1 hT.2.2.2.2.1 hT.2.2.2.2.2.2 (show S 0 < 2147483648 by omega) (hR.1 0 (by omega)) (hR.1 2 (by omega)) hV.2.2.2.2.2, hot_9 hT.1⟩
theorem p_heatN (hV : VD H M B S) (hB : B ≤ 999) (hT : TR H M K N q x75 x79) (hR : RR S x75 x76 x77 x78) (hdr : x74 37 = -1) : fX12_heat x74 x75 x79 = some (nI (hS N q S)) := by
  have hd : S 0 ≤ B := hV.2.2.2.1
  exact p_heatR hT.1 hdr hT.2.2.2.2.1 hT.2.2.2.2.2.2 (show S 0 < 2147483648 by omega) (hR.1 0 (by omega)) (hR.1 2 (by omega)) hV.2.2.2.2.2
theorem p_blockN {t h : Nat} (hV : VD H M B S) (hT : TR H M K N q x75 x79) (hR : RR S x75 x76 x77 x78) (ht : t ≤ 9) (hh : h < 6) : fX12_blockOf x75 x78 (nI h) (nI t) = some (nI (Bk (sHd S) t h)) := by
  obtain ⟨hM, hH5, hH, hgr, hr0, hf9, hf0, hfr⟩ := id hV.1
  obtain ⟨b, eb, hb⟩ := p_blockR hT.2.2.2.2.2.1 hM (RC_h hR) (fun a b ha hb => (hf9 a b ha hb).1) hf0 (show t < 100 by omega) hh
  rw [eb, hb.uniq (Bk_is hh)]
theorem e_house (hQ : QQ H M K N B q S W x17 x18 x23 x24 x25 x26 x74 x75 x76 x77 x78 x79 x92 x93 x94 x95 x96 x97) (v1 v2 : Int32) : ∃ r c33, fX11_house x17 x18 x23 x24 x25 x26 v1 v2 x33 = some (r, c33) ∧ fX12_house x74 x75 x76 x77 x78 x79 v1 v2 = some r := by
  obtain ⟨hV, hB, hT, hTR, hR, hRR, hW, hfree, hdr⟩ := hQ
  obtain ⟨hM, hH5, hH, hgr, hr0, hf9, hf0, hfr⟩ := id hV.1
  have h9 := fun a b ha hb => (hf9 a b ha hb).1
  unfold fX11_house fX11_house_0 fX12_house fX12_house_0
  rcases p_house hM hT.2.2.2.2.2.1 hTR.2.2.2.2.2.1 v1 with ⟨h, hh, rfl, u1, u2⟩ | ⟨u1, u2⟩
  · have hh6 : h < 6 := by omega
    rw [u1, u2, bd1_s, bd1_s, if_neg (show ¬ nI 1 = (0 : Int32) from one_ne), if_neg (show ¬ nI 1 = (0 : Int32) from one_ne)]
    by_cases c0 : v2.toInt = 0
    · rw [if_pos c0, if_pos c0, gd_t (in6 hh6), gd_t (in6 hh6), cl6 hh6, RC_p hR h hh6, RC_p hRR h hh6]
      exact ⟨_, _, rfl, rfl⟩
    rw [if_neg c0, if_neg c0]
    by_cases c1 : v2.toInt = 1
    · rw [if_pos c1, if_pos c1, gd_t (in6 hh6), gd_t (in6 hh6), cl6 hh6, RC_r hR h hh6, RC_r hRR h hh6]
      exact ⟨_, _, rfl, rfl⟩
    rw [if_neg c1, if_neg c1]
    by_cases c2 : v2.toInt = 2
    · rw [if_pos c2, if_pos c2, p_poured (RC_h hR) h9 hh6, p_joined hM hTR.2.2.2.2.2.1 (RC_h hRR) h9 hf0 hh6, bd1_s, bd1_s]
      exact ⟨_, _, rfl, rfl⟩
    rw [if_neg c2, if_neg c2]
    obtain ⟨hc, t9⟩ := p_heatC hV hB hT hR
    have hr := p_heatN (x74 := x74) hV hB hTR hRR hdr
    obtain ⟨z33, ez, hz⟩ := p_findHolds (x33 := x33) (RC_h hR) h9 (show hS N q S < 100 by omega)
    have eb := p_blockB hz hh6
    have eb2 := p_blockN hV hTR hRR t9 hh6
    have hb64 := Bk_lt (f := sHd S) (t := hS N q S) hh6
    have ebn : fX11_blockNow x17 x18 x23 x26 (nI h) x33 = some (nI (Bk (sHd S) (hS N q S) h), z33) := by
      unfold fX11_blockNow fX11_blockNow_0
      rw [hc, bd1_s, ez, bd1_s, eb, bd1_s]
      rfl
    by_cases c3 : v2.toInt = 3
    · rw [if_pos c3, if_pos c3, ebn, bd2_s, hr, bd1_s, eb2, bd1_s]
      exact ⟨_, _, rfl, rfl⟩
    rw [if_neg c3, if_neg c3]
    by_cases c4 : v2.toInt = 4
    · have f1 := p_isFast (RC_r hR) (fun h hh => (hgr h hh).2) hb64 (show hS N q S < 100 by omega)
      have f2 := p_isFastR hTR.2.2.2.2.2.1 hM (RC_r hRR) (fun h hh => (hgr h hh).2) hr0 hb64 (show hS N q S < 100 by omega)
      rw [if_pos c4, if_pos c4]
      unfold fX11_isFastNow fX11_isFastNow_0
      rw [ebn, bd2_s, hc, bd1_s, f1, bd1_s, hr, bd1_s, eb2, bd1_s, bd1_s, f2, bd1_s]
      cases fast (sRk S) (hS N q S) (Bk (sHd S) (hS N q S) h) with
      | true =>
        rw [if_pos rfl, gd_t (by decide), bd2_s, if_neg one_ne, if_neg one_ne]
        exact ⟨_, _, rfl, rfl⟩
      | false =>
        rw [if_neg Bool.false_ne_true, gd_t (by decide), bd2_s, if_pos rfl, if_pos rfl]
        exact ⟨_, _, rfl, rfl⟩
    rw [if_neg c4, if_neg c4]
    exact ⟨_, _, rfl, rfl⟩
  · rw [u1, u2, bd1_s, bd1_s, if_pos z00, if_pos z00]
    exact ⟨_, _, rfl, rfl⟩
theorem e_pourOf (hQ : QQ H M K N B q S W x17 x18 x23 x24 x25 x26 x74 x75 x76 x77 x78 x79 x92 x93 x94 x95 x96 x97) (v1 v2 : Int32) : ∃ r, fX11_pourOf x17 x26 v1 v2 = some r ∧ fX12_pourOf x75 x78 v1 v2 = some r := by
  obtain ⟨hV, hB, hT, hTR, hR, hRR, hW, hfree, hdr⟩ := hQ
  have hM := hV.1.1
  unfold fX11_pourOf fX11_pourOf_0 fX12_pourOf fX12_pourOf_0
  rcases p_two hM hT.2.2.2.2.2.1 hTR.2.2.2.2.2.1 v1 v2 with ⟨a, b, ha, hb, hab, rfl, rfl, u1, u2⟩ | ⟨u1, u2⟩
  · rw [u1, u2, bd1_s, bd1_s, if_neg (show ¬ nI 1 = (0 : Int32) from one_ne), if_neg (show ¬ nI 1 = (0 : Int32) from one_ne), p_hardOf (RC_h hR) (by omega) (by omega), bd1_s, ixR, gd_t (inbH (by omega) (by omega)), clH (by omega) (by omega), RC_h hRR a b (by omega) (by omega)]
    exact ⟨_, rfl, rfl⟩
  · rw [u1, u2, bd1_s, bd1_s, if_pos z00, if_pos z00]
    exact ⟨_, rfl, rfl⟩
theorem andn : ∀ r, r < 64 → ∀ b, b < 64 → nI r &&& (nI b ^^^ (-1)) = nI (bset fun o => r.testBit o && !b.testBit o) := by decide +kernel
/-- what leads out of a set -/
def lo1 (f : Nat → Nat → Nat) (s a : Nat) : Nat := pcnt (bset fun o => decide (0 < f a o) && !s.testBit o)
def lo (f : Nat → Nat → Nat) (s : Nat) : Nat → Nat
  | 0 => 0
  | i + 1 => lo f s i + (if s.testBit i = true then lo1 f s i else 0)
theorem lo_le (f : Nat → Nat → Nat) (s : Nat) : ∀ i, lo f s i ≤ 6 * i
  | 0 => Nat.le_refl _
  | i + 1 => by
    have := lo_le f s i
    have h := pcnt_le _ (bset_lt fun o => decide (0 < f i o) && !s.testBit o)
    unfold lo lo1
    split <;> omega
theorem p_across {f : Nat → Nat → Nat} {s : Nat} (hM : M ≤ 6) (h4 : x17 4 = nI M) (hf : RH x26 f) (h9 : ∀ a b, a < 6 → b < 6 → f a b ≤ 9) (hs : s < 64) : fX11_poursAcross x17 x26 (nI s) = some (nI (lo f s M)) := by
  refine loop3 (fX11_poursAcross_4b x17 x26) (fun m v1 v2 v3 => ∃ i, i + m = M ∧ v1 = nI s ∧ v2 = nI (lo f s i) ∧ v3 = nI i) (fun o => o = some (nI (lo f s M))) ?_ ?_ M 5000 _ _ _ (by omega) ⟨0, by omega, rfl, rfl, rfl⟩
  · rintro k m _ _ _ ⟨i, hi, rfl, rfl, rfl⟩
    have hi6 : i < 6 := by omega
    have hl : lo f s (i + 1) = lo f s i + (if s.testBit i = true then lo1 f s i else 0) := rfl
    refine Or.inl ⟨nI s, nI (lo f s (i + 1)), nI (i + 1), ⟨i + 1, by omega, rfl, rfl, rfl⟩, ?_⟩
    unfold fX11_poursAcross_4b fX11_poursAcross_47
    rw [h4, if_neg (nI_ge (show i < M by omega) (by omega)), hl]
    cases qb : s.testBit i with
    | false => rw [hasBit_0 hs hi6 qb, bd1_s, if_pos rfl, bn_s, nI_1, if_neg Bool.false_ne_true]; rfl
    | true =>
      have e : (bset fun o => (bset fun o => decide (0 < f i o)).testBit o && !s.testBit o) = bset fun o => decide (0 < f i o) && !s.testBit o := bset_ext fun j hj => by rw [bset_tb _ hj]
      rw [hasBit_1 hs hi6 qb, bd1_s, if_neg one_ne, p_poured hf h9 hi6, bd1_s, andn _ (bset_lt _) s hs, p_bitCount _ (bset_lt _), bd1_s, bn_s, bn_s, nI_1, nI_add, if_pos rfl, e]
      rfl
  · rintro k _ _ _ ⟨i, hi, rfl, rfl, rfl⟩
    have ei : i = M := by omega
    subst ei
    unfold fX11_poursAcross_4b
    rw [h4, if_pos (nI_le (Nat.le_refl _) (by omega))]
theorem has01 {b i : Nat} (hb : b < 64) (hi : i < 6) : fX12_has (nI b) (nI i) = some (if b.testBit i = true then nI 1 else nI 0) := p_has b hb i hi
theorem p_outIn {f : Nat → Nat → Nat} {s a n : Nat} (hM : M ≤ 6) (ha : a < M) (h4 : x75 4 = nI M) (hf : RH x78 f) (h9 : ∀ a b, a < 6 → b < 6 → f a b ≤ 9) (h0 : ∀ a b, a < 6 → b < 6 → (M ≤ a ∨ M ≤ b) → f a b = 0) (hs : s < 64) (k4 : Int32 → Int32 → Int32 → Option Int32) : fX12_leadsOut_17 x75 x78 k4 (nI s) (nI n) (nI a) 0 = k4 (nI s) (nI (n + (if s.testBit a = true then lo1 f s a else 0))) (nI (a + 1)) := by
  unfold fX12_leadsOut_17
  refine loop4 (fX12_leadsOut_17b x75 x78 k4) (fun m v1 v2 v3 v4 => ∃ i, i + m = M ∧ v1 = nI s ∧ v2 = nI (n + (if s.testBit a = true then pcnt (bto (fun o => decide (0 < f a o) && !s.testBit o) i) else 0)) ∧ v3 = nI a ∧ v4 = nI i) (fun o => o = k4 (nI s) (nI (n + (if s.testBit a = true then lo1 f s a else 0))) (nI (a + 1))) ?_ ?_ M 5000 _ _ _ _ (by omega) ⟨0, by omega, rfl, by rw [bto_0]; split <;> rfl, rfl, rfl⟩
  · rintro k m _ _ _ _ ⟨i, hi, rfl, rfl, rfl, rfl⟩
    have hi6 : i < 6 := by omega
    have ha6 : a < 6 := by omega
    have h9' := h9 a i ha6 hi6
    refine Or.inl ⟨nI s, nI (n + (if s.testBit a = true then pcnt (bto (fun o => decide (0 < f a o) && !s.testBit o) (i + 1)) else 0)), nI a, nI (i + 1), ⟨i + 1, by omega, rfl, rfl, rfl, rfl⟩, ?_⟩
    rw [pcnt_bto hi6]
    unfold fX12_leadsOut_17b fX12_leadsOut_65 fX12_leadsOut_66
    rw [gd_t i4, n4', h4, if_neg (nI_ge (show i < M by omega) (by omega)), has01 hs ha6, bd1_s]
    cases qa : s.testBit a with
    | false => rw [if_neg Bool.false_ne_true, if_pos z00, bn_s, bn_s, nI_1, zI0, nI_add, if_neg Bool.false_ne_true, if_neg Bool.false_ne_true]
    | true =>
      rw [if_pos rfl, if_neg (show ¬ nI 1 = (0 : Int32) from one_ne), has01 hs hi6, bd1_s]
      cases qi : s.testBit i with
      | true => rw [if_pos rfl, if_neg (show ¬ nI 1 = (0 : Int32) from one_ne), bn_s, bn_s, nI_1, zI0, nI_add, if_pos rfl, if_pos rfl, if_neg (by simp)]; rfl
      | false =>
        rw [if_neg Bool.false_ne_true, if_pos z00, ixR, gd_t (inbH ha6 hi6), clH ha6 hi6, hf a i ha6 hi6]
        by_cases c : f a i ≤ 0
        · rw [if_pos (le0 c), bn_s, bn_s, nI_1, zI0, nI_add, if_pos rfl, if_pos rfl, if_neg (by simp; omega)]; rfl
        · rw [if_neg (nle0 (by omega) (by omega)), bn_s, bn_s, nI_1, zI1, nI_add, if_pos rfl, if_pos rfl, if_pos (by simp; omega), Nat.add_assoc]
  · rintro k _ _ _ _ ⟨i, hi, rfl, rfl, rfl, rfl⟩
    have ei : i = M := by omega
    subst ei
    have e : bto (fun o => decide (0 < f a o) && !s.testBit o) i = bset fun o => decide (0 < f a o) && !s.testBit o := bset_ext fun j hj => by
      by_cases c : j < i
      · simp [c]
      · simp [c, h0 a j (by omega) hj (Or.inr (by omega))]
    unfold fX12_leadsOut_17b
    rw [gd_t i4, n4', h4, if_pos (nI_le (Nat.le_refl _) (by omega)), bn_s, nI_1, e]
    rfl
theorem p_out {f : Nat → Nat → Nat} {s : Nat} (hM : M ≤ 6) (h4 : x75 4 = nI M) (hf : RH x78 f) (h9 : ∀ a b, a < 6 → b < 6 → f a b ≤ 9) (h0 : ∀ a b, a < 6 → b < 6 → (M ≤ a ∨ M ≤ b) → f a b = 0) (hs : s < 64) : fX12_leadsOut x75 x78 (nI s) = some (nI (lo f s M)) := by
  refine loop3 (fX12_leadsOut_4b x75 x78) (fun m v1 v2 v3 => ∃ i, i + m = M ∧ v1 = nI s ∧ v2 = nI (lo f s i) ∧ v3 = nI i) (fun o => o = some (nI (lo f s M))) ?_ ?_ M 5000 _ _ _ (by omega) ⟨0, by omega, rfl, rfl, rfl⟩
  · rintro k m _ _ _ ⟨i, hi, rfl, rfl, rfl⟩
    refine Or.inl ⟨nI s, nI (lo f s (i + 1)), nI (i + 1), ⟨i + 1, by omega, rfl, rfl, rfl⟩, ?_⟩
    unfold fX12_leadsOut_4b
    rw [gd_t i4, n4', h4, if_neg (nI_ge (show i < M by omega) (by omega)), p_outIn hM (by omega) h4 hf h9 h0 hs]
    rfl
  · rintro k _ _ _ ⟨i, hi, rfl, rfl, rfl⟩
    have ei : i = M := by omega
    subst ei
    unfold fX12_leadsOut_4b
    rw [gd_t i4, n4', h4, if_pos (nI_le (Nat.le_refl _) (by omega))]
/-- the fewest so far, and its side -/
def pmB (o : Option (Nat × Nat)) : Nat := match o with
  | none => 100000
  | some x => x.1
def pm (f : Nat → Nat → Nat) (M a b : Nat) : Nat → Option (Nat × Nat)
  | 0 => none
  | s + 1 => if s.testBit a = true ∧ s.testBit b = false ∧ lo f s M < pmB (pm f M a b s) then some (lo f s M, s) else pm f M a b s
theorem pm_s {f : Nat → Nat → Nat} {M a b s : Nat} : pm f M a b (s + 1) = if s.testBit a = true ∧ s.testBit b = false ∧ lo f s M < pmB (pm f M a b s) then some (lo f s M, s) else pm f M a b s := rfl
theorem pm_some {f : Nat → Nat → Nat} {a b : Nat} (hM : M ≤ 6) (ha : a < M) (hb : b < M) (hab : a ≠ b) : ∀ s, 2 ^ a < s → ∃ x, pm f M a b s = some x
  | 0, h => absurd h (Nat.not_lt_zero _)
  | s + 1, h => by
    rw [pm_s]
    by_cases c : s.testBit a = true ∧ s.testBit b = false ∧ lo f s M < pmB (pm f M a b s)
    · rw [if_pos c]; exact ⟨_, rfl⟩
    · rw [if_neg c]
      by_cases e : s = 2 ^ a
      · cases hp : pm f M a b s with
        | some x => exact ⟨x, rfl⟩
        | none =>
          refine absurd ⟨?_, ?_, ?_⟩ c
          · rw [e, two_tb a (by omega) a (by omega)]; simp
          · rw [e, two_tb a (by omega) b (by omega)]; simpa using fun h => hab h.symm
          · rw [hp]
            have := lo_le f s M
            show _ < 100000
            omega
      · exact pm_some hM ha hb hab s (by omega)
theorem pow2 : ∀ M, M ≤ 6 → (1 : Int32) <<< (nI M &&& 31) = nI (2 ^ M) := by decide
theorem pow64 : ∀ M, M ≤ 6 → 2 ^ M ≤ 64 := by decide
theorem powlt : ∀ M, M ≤ 6 → ∀ a, a < M → 2 ^ a < 2 ^ M := by decide
def pmC (o : Option (Nat × Nat)) : Int32 × Int32 := match o with
  | none => (1000000, 0)
  | some x => (nI x.1, nI x.2)
def pmR (o : Option (Nat × Nat)) : Int32 × Int32 := match o with
  | none => (100000, -1)
  | some x => (nI x.1, nI x.2)
theorem pm_le {f : Nat → Nat → Nat} {a b : Nat} (hM : M ≤ 6) : ∀ s x, pm f M a b s = some x → x.1 ≤ 36
  | 0, _, h => by cases h
  | s + 1, x, h => by
    rw [pm_s] at h
    by_cases c : s.testBit a = true ∧ s.testBit b = false ∧ lo f s M < pmB (pm f M a b s)
    · rw [if_pos c] at h
      cases h
      have := lo_le f s M
      show lo f s M ≤ 36
      omega
    · rw [if_neg c] at h
      exact pm_le hM s x h
theorem hb2 {b i : Nat} (hb : b < 64) (hi : i < 6) : fX11_hasBit (nI b) (nI i) = some (if b.testBit i = true then nI 1 else nI 0) := p_hasBit b hb i hi
theorem e_part (hQ : QQ H M K N B q S W x17 x18 x23 x24 x25 x26 x74 x75 x76 x77 x78 x79 x92 x93 x94 x95 x96 x97) (v1 v2 v3 : Int32) : ∃ r, fX11_part x17 x26 v1 v2 v3 = some r ∧ fX12_part x75 x78 v1 v2 v3 = some r := by
  obtain ⟨hV, hB, hT, hTR, hR, hRR, hW, hfree, hdr⟩ := hQ
  obtain ⟨hM, hH5, hH, hgr, hr0, hf9, hf0, hfr⟩ := id hV.1
  have h9 := fun a b ha hb => (hf9 a b ha hb).1
  have h4 := hT.2.2.2.2.2.1
  have h4' := hTR.2.2.2.2.2.1
  have p64 := pow64 M hM
  unfold fX11_part fX11_part_0 fX12_part fX12_part_0
  rcases p_two hM h4 h4' v1 v2 with ⟨a, b, ha, hb, hab, rfl, rfl, u1, u2⟩ | ⟨u1, u2⟩
  · rw [u1, u2, bd1_s, bd1_s, if_neg (show ¬ nI 1 = (0 : Int32) from one_ne), if_neg (show ¬ nI 1 = (0 : Int32) from one_ne)]
    rcases p_within (lo := 0) (hi := 1) (by omega) (by omega) v3 with ⟨w, w1, w2, rfl, c4, d4⟩ | ⟨c4, d4⟩
    · rw [show fX11_isWithin (nI w) 0 1 = _ from c4, bd1_s, if_neg (show ¬ nI 1 = (0 : Int32) from one_ne), show fX12_in (nI w).toInt64 0 1 = _ from d4, bd1_s, if_neg (show ¬ nI 1 = (0 : Int32) from one_ne)]
      obtain ⟨x, hx⟩ := pm_some (f := sHd S) hM ha hb hab (2 ^ M) (powlt M hM a ha)
      refine ⟨if w = 0 then nI x.1 else nI x.2, ?_, ?_⟩
      · unfold fX11_part_30
        refine loop6 (fX11_part_30b x17 x26) (fun m v1 v2 v3 v4 v5 v6 => ∃ s, s + m = 2 ^ M ∧ v1 = nI a ∧ v2 = nI b ∧ v3 = nI w ∧ v4 = (pmC (pm (sHd S) M a b s)).1 ∧ v5 = (pmC (pm (sHd S) M a b s)).2 ∧ v6 = nI s) (fun o => o = some (if w = 0 then nI x.1 else nI x.2)) ?_ ?_ (2 ^ M) 5000 _ _ _ _ _ _ (by omega) ⟨0, by omega, rfl, rfl, rfl, rfl, rfl, rfl⟩
        · rintro k m _ _ _ _ _ _ ⟨s, hs, rfl, rfl, rfl, rfl, rfl, rfl⟩
          have hs64 : s < 64 := by omega
          have ll := lo_le (sHd S) s M
          refine Or.inl ⟨nI a, nI b, nI w, (pmC (pm (sHd S) M a b (s + 1))).1, (pmC (pm (sHd S) M a b (s + 1))).2, nI (s + 1), ⟨s + 1, by omega, rfl, rfl, rfl, rfl, rfl, rfl⟩, ?_⟩
          rw [pm_s]
          have ea := p_across hM h4 (RC_h hR) h9 hs64
          unfold fX11_part_30b fX11_part_88
          rw [h4, pow2 M hM, if_neg (nI_ge (show s < 2 ^ M by omega) (by omega)), hb2 hs64 (by omega), bd1_s]
          cases qa : s.testBit a with
          | false => rw [if_neg Bool.false_ne_true, if_pos z00, bn_s, nI_1, if_neg (fun h => Bool.false_ne_true h.1)]
          | true =>
            rw [if_pos rfl, if_neg (show ¬ nI 1 = (0 : Int32) from one_ne), hb2 hs64 (by omega), bd1_s]
            cases qb : s.testBit b with
            | true => rw [if_pos rfl, if_neg (show ¬ nI 1 = (0 : Int32) from one_ne), bn_s, nI_1, if_neg (fun h => Bool.false_ne_true h.2.1.symm)]
            | false =>
              rw [if_neg Bool.false_ne_true, if_pos z00, ea, bd1_s]
              cases hp : pm (sHd S) M a b s with
              | none =>
                rw [if_neg (show ¬ (pmC none).1 ≤ nI (lo (sHd S) s M) from nI_ge (b := 1000000) (by omega) (by omega)), bd1_s, bn_s, nI_1, if_pos ⟨rfl, rfl, show lo (sHd S) s M < 100000 by omega⟩]
                rfl
              | some y =>
                have yl := pm_le hM s y hp
                by_cases c : lo (sHd S) s M < y.1
                · rw [if_neg (show ¬ (pmC (some y)).1 ≤ _ from nI_ge c (by omega)), bd1_s, bn_s, nI_1, if_pos ⟨rfl, rfl, c⟩]
                  rfl
                · rw [if_pos (show (pmC (some y)).1 ≤ nI (lo (sHd S) s M) from nI_le (by omega) (by omega)), bn_s, nI_1, if_neg (fun h => c h.2.2)]
        · rintro k _ _ _ _ _ _ ⟨s, hs, rfl, rfl, rfl, rfl, rfl, rfl⟩
          have es : s = 2 ^ M := by omega
          subst es
          unfold fX11_part_30b
          rw [h4, pow2 M hM, if_pos (nI_le (Nat.le_refl _) (by omega)), hx]
          by_cases w0 : w = 0
          · rw [if_pos (by rw [w0]; rfl), if_pos w0]; rfl
          · rw [if_neg (ne0 w0 (by omega)), if_neg w0]; rfl
      · unfold fX12_part_32
        refine loop6 (fX12_part_32b x75 x78) (fun m v1 v2 v3 v4 v5 v6 => ∃ s, s + m = 2 ^ M ∧ v1 = nI a ∧ v2 = nI b ∧ v3 = nI w ∧ v4 = (pmR (pm (sHd S) M a b s)).2 ∧ v5 = (pmR (pm (sHd S) M a b s)).1 ∧ v6 = nI s) (fun o => o = some (if w = 0 then nI x.1 else nI x.2)) ?_ ?_ (2 ^ M) 5000 _ _ _ _ _ _ (by omega) ⟨0, by omega, rfl, rfl, rfl, rfl, rfl, rfl⟩
        · rintro k m _ _ _ _ _ _ ⟨s, hs, rfl, rfl, rfl, rfl, rfl, rfl⟩
          have hs64 : s < 64 := by omega
          have ll := lo_le (sHd S) s M
          refine Or.inl ⟨nI a, nI b, nI w, (pmR (pm (sHd S) M a b (s + 1))).2, (pmR (pm (sHd S) M a b (s + 1))).1, nI (s + 1), ⟨s + 1, by omega, rfl, rfl, rfl, rfl, rfl, rfl⟩, ?_⟩
          rw [pm_s]
          have ea := p_out hM h4' (RC_h hRR) h9 hf0 hs64
          unfold fX12_part_32b fX12_part_86
          rw [gd_t i4, n4', h4', pow2 M hM, if_neg (nI_ge (show s < 2 ^ M by omega) (by omega)), has01 hs64 (by omega), bd1_s]
          cases qa : s.testBit a with
          | false => rw [if_neg Bool.false_ne_true, if_pos z00, bn_s, nI_1, if_neg (fun h => Bool.false_ne_true h.1)]
          | true =>
            rw [if_pos rfl, if_neg (show ¬ nI 1 = (0 : Int32) from one_ne), has01 hs64 (by omega), bd1_s]
            cases qb : s.testBit b with
            | true => rw [if_pos rfl, if_neg (show ¬ nI 1 = (0 : Int32) from one_ne), bn_s, nI_1, if_neg (fun h => Bool.false_ne_true h.2.1.symm)]
            | false =>
              rw [if_neg Bool.false_ne_true, if_pos z00, ea, bd1_s]
              cases hp : pm (sHd S) M a b s with
              | none =>
                rw [if_neg (show ¬ (pmR none).1 ≤ nI (lo (sHd S) s M) from nI_ge (b := 100000) (by omega) (by omega)), bd1_s, bn_s, nI_1, if_pos ⟨rfl, rfl, show lo (sHd S) s M < 100000 by omega⟩]
                rfl
              | some y =>
                have yl := pm_le hM s y hp
                by_cases c : lo (sHd S) s M < y.1
                · rw [if_neg (show ¬ (pmR (some y)).1 ≤ _ from nI_ge c (by omega)), bd1_s, bn_s, nI_1, if_pos ⟨rfl, rfl, c⟩]
                  rfl
                · rw [if_pos (show (pmR (some y)).1 ≤ nI (lo (sHd S) s M) from nI_le (by omega) (by omega)), bn_s, nI_1, if_neg (fun h => c h.2.2)]
        · rintro k _ _ _ _ _ _ ⟨s, hs, rfl, rfl, rfl, rfl, rfl, rfl⟩
          have es : s = 2 ^ M := by omega
          subst es
          unfold fX12_part_32b
          rw [gd_t i4, n4', h4', pow2 M hM, if_pos (nI_le (Nat.le_refl _) (by omega)), hx]
          by_cases w0 : w = 0
          · rw [if_pos (by rw [w0]; rfl), if_pos w0]; rfl
          · rw [if_neg (ne0 w0 (by omega)), if_neg w0]; rfl
    · rw [show fX11_isWithin v3 0 1 = _ from c4, bd1_s, if_pos z00, show fX12_in v3.toInt64 0 1 = _ from d4, bd1_s, if_pos z00]
      exact ⟨_, rfl, rfl⟩
  · rw [u1, u2, bd1_s, bd1_s, if_pos z00, if_pos z00]
    exact ⟨_, rfl, rfl⟩
end QF

section GOES
variable {H M K t : Nat} {g r p s : Nat → Nat} {f : Nat → Nat → Nat} {x74 x75 x76 x77 x78 x79 x92 x93 x94 x95 x96 x97 x101 : Nat → Int32} {y99 y100 : Nat → Int64}
theorem p_inRiver {a : Nat} (h0 : x75 0 = nI H) (hH : H ≤ 60) (hx : RP x76 p) (ha : a < 6) (hp : p a ≤ 60) : fX12_isInRiver x75 x76 (nI a) = some (if p a = H then nI 1 else nI 0) := by
  have q := hx a ha
  unfold fX12_isInRiver fX12_isInRiver_0
  simp (disch := omega) only [q, h0, Nat.reduceEqDiff, Nat.reduceLeDiff, Nat.reduceAdd, Nat.reduceSub, Nat.reduceMul, eq_self, Nat.le_refl, Nat.lt_irrefl, zI0, zI1, zI2, zI3, zI4, zI5, zI6, zI7, zI8, zI9, zI10, zI11, zI12, nle, nlt, neq, gdN, clN, nI_add, nsub, mul6a, mul6b, bn_s, bd1_s, bd2_s, bd3_s, bd4_s, if_true, if_false, not_true_eq_false, not_false_eq_true]
  split <;> rfl
theorem sk_neg : ∀ t, t < 10 → ∀ p, p < 7 → ¬ p ≤ t + 1 → ¬ (0 : Int32) ≤ nI t - nI p + 1 := by decide +kernel
theorem sk_zero : ∀ t, t < 10 → nI t - nI (t + 1) + 1 = nI 0 := by decide +kernel
theorem sk_int {t p room : Nat} (ht : t < 10) (hp : p < 7) (hr : room ≤ 60) : (if (0 : Int32) ≤ nI t - nI p + 1 then (if nI t - nI p + 1 ≤ nI room then nI t - nI p + 1 else nI room) else nI 0) = nI (min (t + 1 - p) room) := by
  by_cases c : p ≤ t + 1
  · have e : nI t - nI p + 1 = nI (t + 1 - p) := by
      by_cases c2 : p = t + 1
      · rw [c2, sk_zero t ht, show t + 1 - (t + 1) = 0 by omega]
      · exact st_eq t ht p hp (by omega)
    rw [e]
    have : (0 : Int32) ≤ nI (t + 1 - p) := nI_le (a := 0) (by omega) (by omega)
    rw [if_pos this]
    by_cases c3 : t + 1 - p ≤ room
    · rw [if_pos (nI_le c3 (by omega)), Nat.min_eq_left (by omega)]
    · rw [if_neg (nI_ge (by omega) (by omega)), Nat.min_eq_right (by omega)]
  · rw [if_neg (sk_neg t ht p hp c), Nat.min_eq_left (by omega), show t + 1 - p = 0 by omega]
theorem p_sinks (hV : VG H M g r f) (ht : t < 10) (hheat : fX12_heat x74 x75 x79 = some (nI t)) (h0 : x75 0 = nI H) (h4 : x75 4 = nI M) (hx1 : RP x76 g) (hx2 : RP x77 r) (hx3 : RH x78 f) : ∃ y, fX12_laysSinks x74 x75 x76 x77 x78 x79 x101 = some y ∧ ∀ h, h < M → y h = nI (sk H M t g r f h) := by
  obtain ⟨hM, hH5, hH, hgr, hr0, hf9, hf0, hfr⟩ := id hV
  unfold fX12_laysSinks fX12_laysSinks_0
  rw [hheat, bd1_s]
  refine loop3 (fX12_laysSinks_7b x74 x75 x76 x77 x78 x79) (fun m v1 v2 y => ∃ i, i + m = M ∧ v1 = nI t ∧ v2 = nI i ∧ ∀ h, h < i → y h = nI (sk H M t g r f h)) (fun o => ∃ y, o = some y ∧ ∀ h, h < M → y h = nI (sk H M t g r f h)) ?_ ?_ M 5000 _ _ _ (by omega) ⟨0, by omega, rfl, rfl, fun h hh => absurd hh (by omega)⟩
  · rintro k m _ _ y ⟨i, hi, rfl, rfl, hy⟩
    have hi6 : i < 6 := by omega
    have c2 : ¬ M ≤ i := by omega
    have qi := hx1 i hi6
    have gi := (hgr i hi6).1
    obtain ⟨b, eb, hb⟩ := p_blockR h4 hM hx3 (fun a b ha hb => (hf9 a b ha hb).1) hf0 (show t < 100 by omega) hi6
    have hbk : b = Bk f t i := hb.uniq (Bk_is hi6)
    have hb64 := Bk_lt (f := f) (t := t) hi6
    rw [hbk] at eb
    have ebits := p_bits _ hb64
    have pc := pcnt_le _ hb64
    have efast := p_isFastR (x77 := x77) h4 hM hx2 (fun h hh => (hgr h hh).2) hr0 hb64 (show t < 100 by omega)
    refine Or.inl ⟨nI t, nI (i + 1), upd y i (nI (sk H M t g r f i)), ⟨i + 1, by omega, rfl, rfl, fun h hh => ?_⟩, ?_⟩
    · show (if h = i then _ else _) = _
      by_cases e : h = i
      · rw [if_pos e, e]
      · rw [if_neg e]; exact hy h (by omega)
    · have hsk : sk H M t g r f i = if fast r t (Bk f t i) = true then 0 else min (t + 1 - pcnt (Bk f t i)) (H - g i) := by
        unfold sk
        rw [if_pos (by omega)]
      have hsi := sk_int (room := H - g i) ht (show pcnt (Bk f t i) < 7 by omega) (by omega)
      cases q : fast r t (Bk f t i) with
      | true =>
        rw [q, if_pos rfl] at hsk efast
        rw [hsk]
        unfold fX12_laysSinks_7b
        rw [gd_t i4, n4', h4, if_neg (nI_ge (show i < M by omega) (by omega)), eb, bd1_s, ebits, bd1_s, bn_s, gd_t i0, gd_t (in6 hi6), cl6 hi6, n0', h0, qi, nsub (by omega), bn_s, efast, bd1_s, if_neg one_ne]
        unfold fX12_laysSinks_68 fX12_laysSinks_86
        rw [gd_t (in6 hi6), cl6 hi6, bn_s, nI_1, zI0]
      | false =>
        rw [q, if_neg Bool.false_ne_true] at hsk efast
        rw [hsk, ← hsi]
        by_cases d1 : (0 : Int32) ≤ nI t - nI (pcnt (Bk f t i)) + 1
        · by_cases d2 : nI t - nI (pcnt (Bk f t i)) + 1 ≤ nI (H - g i)
          · rw [if_pos d1, if_pos d2]
            unfold fX12_laysSinks_7b
            rw [gd_t i4, n4', h4, if_neg (nI_ge (show i < M by omega) (by omega)), eb, bd1_s, ebits, bd1_s, bn_s, gd_t i0, gd_t (in6 hi6), cl6 hi6, n0', h0, qi, nsub (by omega), bn_s, efast, bd1_s, if_pos rfl, if_pos d1, if_pos d2]
            unfold fX12_laysSinks_86
            rw [gd_t (in6 hi6), cl6 hi6, bn_s, nI_1]
          · rw [if_pos d1, if_neg d2]
            unfold fX12_laysSinks_7b
            rw [gd_t i4, n4', h4, if_neg (nI_ge (show i < M by omega) (by omega)), eb, bd1_s, ebits, bd1_s, bn_s, gd_t i0, gd_t (in6 hi6), cl6 hi6, n0', h0, qi, nsub (by omega), bn_s, efast, bd1_s, if_pos rfl, if_pos d1, if_neg d2]
            unfold fX12_laysSinks_86
            rw [gd_t (in6 hi6), cl6 hi6, bn_s, nI_1]
        · rw [if_neg d1]
          unfold fX12_laysSinks_7b
          rw [gd_t i4, n4', h4, if_neg (nI_ge (show i < M by omega) (by omega)), eb, bd1_s, ebits, bd1_s, bn_s, gd_t i0, gd_t (in6 hi6), cl6 hi6, n0', h0, qi, nsub (by omega), bn_s, efast, bd1_s, if_pos rfl, if_neg d1]
          unfold fX12_laysSinks_68 fX12_laysSinks_86
          rw [gd_t (in6 hi6), cl6 hi6, bn_s, nI_1]
          rfl
  · rintro k _ _ y ⟨i, hi, rfl, rfl, hy⟩
    have eb : i = M := by omega
    subst eb
    refine ⟨y, ?_, hy⟩
    simp (disch := omega) only [fX12_laysSinks_7b, h4, Nat.le_refl, Nat.reduceEqDiff, Nat.reduceLeDiff, Nat.reduceAdd, Nat.reduceSub, Nat.reduceMul, eq_self, Nat.le_refl, Nat.lt_irrefl, zI0, zI1, zI2, zI3, zI4, zI5, zI6, zI7, zI8, zI9, zI10, zI11, zI12, nle, nlt, neq, gdN, clN, nI_add, nsub, mul6a, mul6b, bn_s, bd1_s, bd2_s, bd3_s, bd4_s, if_true, if_false, not_true_eq_false, not_false_eq_true]
theorem p_goIn {a : Nat} {x101 : Nat → Int32} {n : Int32} (hM : M ≤ 6) (hH : H ≤ 60) (h0 : x75 0 = nI H) (h2 : x75 2 = nI K) (h4 : x75 4 = nI M) (hx1 : RP x76 p) (hp : ∀ h, h < 6 → p h ≤ H) (hs9 : ∀ h, h < 6 → s h ≤ 60) (hxs : ∀ h, h < M → x101 h = nI (s h)) (hf9 : ∀ a b, a < 6 → b < 6 → f a b ≤ 9) (hfs : ∀ a b, a < 6 → b < 6 → f a b = f b a) (hx3 : RH x78 (cur M H K p s f a (a + 1))) (ha : a < M) (k2 : Int32 → Int32 → (Nat → Int32) → (Nat → Int32) → (Nat → Int32) → (Nat → Int32) → (Nat → Int32) → (Nat → Int32) → (Nat → Int64) → (Nat → Int64) → Option (Int32 × (Nat → Int32) × (Nat → Int32) × (Nat → Int32) × (Nat → Int32) × (Nat → Int32) × (Nat → Int32) × (Nat → Int64) × (Nat → Int64))) : ∃ y, fX12_goes_138 x79 x92 x93 x94 x95 x96 x97 k2 n (nI a) (nI (a + 1)) x74 x75 x76 x77 x78 x101 y99 y100 = k2 n (nI (a + 1)) x74 x75 x76 x77 y x101 y99 y100 ∧ RH y (cur M H K p s f (a + 1) 0) := by
  refine loop11 (fX12_goes_138b x79 x92 x93 x94 x95 x96 x97 k2) (fun m v2 v3 v4 z74 z75 z76 z77 y z101 z99 z100 => ∃ b, b + m = M ∧ a < b ∧ n = v2 ∧ v3 = nI a ∧ v4 = nI b ∧ x74 = z74 ∧ x75 = z75 ∧ x76 = z76 ∧ x77 = z77 ∧ RH y (cur M H K p s f a b) ∧ x101 = z101 ∧ y99 = z99 ∧ y100 = z100) (fun o => ∃ y, o = k2 n (nI (a + 1)) x74 x75 x76 x77 y x101 y99 y100 ∧ RH y (cur M H K p s f (a + 1) 0)) ?_ ?_ (M - (a + 1)) 5000 _ _ _ _ _ _ _ _ _ _ _ (by omega) ⟨a + 1, by omega, by omega, rfl, rfl, rfl, rfl, rfl, rfl, rfl, hx3, rfl, rfl, rfl⟩
  · rintro k m _ _ _ _ _ _ _ y _ _ _ ⟨b, hb, hab, rfl, rfl, rfl, rfl, rfl, rfl, rfl, hy, rfl, rfl, rfl⟩
    have ha6 : a < 6 := by omega
    have hb6 : b < 6 := by omega
    have qa := hx1 a ha6
    have qb := hx1 b hb6
    have pa := hp a ha6
    have pb := hp b hb6
    have sa := hs9 a ha6
    have sb := hs9 b hb6
    have ta := hxs a (by omega)
    have tb := hxs b (by omega)
    have hard := hy a b ha6 hb6
    rw [cur_at hab] at hard
    have f9 := hf9 a b ha6 hb6
    have riv := p_inRiver (x75 := x75) h0 hH hx1 ha6 (by omega)
    have no : ¬ (p a = p b ∧ p a < H ∧ 0 < s a + s b ∧ f a b = 0) → RH y (cur M H K p s f a (b + 1)) := fun hn => RH_congr hy (cur_no (hfs b a hb6 ha6) hab hn)
    refine Or.inl ?_
    have c2 : ¬ M ≤ b := by omega
    by_cases c : p a = p b ∧ p a < H ∧ 0 < s a + s b ∧ f a b = 0
    · obtain ⟨z, ez, hz⟩ := p_joins hy ha6 hb6 K
      refine ⟨_, _, nI (b + 1), _, _, _, _, z, _, _, _, ⟨b + 1, by omega, by omega, rfl, rfl, rfl, rfl, rfl, rfl, rfl, RH_congr hz (cur_set (hfs b a hb6 ha6) hab (by omega) c.1 c.2.1 c.2.2.1 c.2.2.2), rfl, rfl, rfl⟩, ?_⟩
      have c3 : ¬ p a = H := by omega
      have c4 : ¬ s a + s b ≤ 0 := by omega
      rw [if_neg c3] at riv
      simp (disch := omega) only [fX12_goes_138b, fX12_goes_218, h0, h2, h4, qa, qb, ta, tb, c.1, c2, c4, riv, hard, c.2.2.2, ez, Nat.reduceEqDiff, Nat.reduceLeDiff, Nat.reduceAdd, Nat.reduceSub, Nat.reduceMul, eq_self, Nat.le_refl, Nat.lt_irrefl, zI0, zI1, zI2, zI3, zI4, zI5, zI6, zI7, zI8, zI9, zI10, zI11, zI12, nle, nlt, neq, gdN, clN, nI_add, nsub, mul6a, mul6b, bn_s, bd1_s, bd2_s, bd3_s, bd4_s, if_true, if_false, not_true_eq_false, not_false_eq_true]
    · refine ⟨_, _, nI (b + 1), _, _, _, _, y, _, _, _, ⟨b + 1, by omega, by omega, rfl, rfl, rfl, rfl, rfl, rfl, rfl, no c, rfl, rfl, rfl⟩, ?_⟩
      by_cases c1 : p a = p b
      · by_cases c3 : p a = H
        · rw [if_pos c3] at riv
          simp (disch := omega) only [fX12_goes_138b, fX12_goes_218, h0, h2, h4, qa, qb, ta, tb, c1, c2, riv, Nat.reduceEqDiff, Nat.reduceLeDiff, Nat.reduceAdd, Nat.reduceSub, Nat.reduceMul, eq_self, Nat.le_refl, Nat.lt_irrefl, zI0, zI1, zI2, zI3, zI4, zI5, zI6, zI7, zI8, zI9, zI10, zI11, zI12, nle, nlt, neq, gdN, clN, nI_add, nsub, mul6a, mul6b, bn_s, bd1_s, bd2_s, bd3_s, bd4_s, if_true, if_false, not_true_eq_false, not_false_eq_true]
        · rw [if_neg c3] at riv
          by_cases c4 : s a + s b ≤ 0
          · simp (disch := omega) only [fX12_goes_138b, fX12_goes_218, h0, h2, h4, qa, qb, ta, tb, c1, c2, c4, riv, Nat.reduceEqDiff, Nat.reduceLeDiff, Nat.reduceAdd, Nat.reduceSub, Nat.reduceMul, eq_self, Nat.le_refl, Nat.lt_irrefl, zI0, zI1, zI2, zI3, zI4, zI5, zI6, zI7, zI8, zI9, zI10, zI11, zI12, nle, nlt, neq, gdN, clN, nI_add, nsub, mul6a, mul6b, bn_s, bd1_s, bd2_s, bd3_s, bd4_s, if_true, if_false, not_true_eq_false, not_false_eq_true]
          · have c5 : ¬ f a b = 0 := by omega
            simp (disch := omega) only [fX12_goes_138b, fX12_goes_218, h0, h2, h4, qa, qb, ta, tb, c1, c2, c4, riv, hard, c5, Nat.reduceEqDiff, Nat.reduceLeDiff, Nat.reduceAdd, Nat.reduceSub, Nat.reduceMul, eq_self, Nat.le_refl, Nat.lt_irrefl, zI0, zI1, zI2, zI3, zI4, zI5, zI6, zI7, zI8, zI9, zI10, zI11, zI12, nle, nlt, neq, gdN, clN, nI_add, nsub, mul6a, mul6b, bn_s, bd1_s, bd2_s, bd3_s, bd4_s, if_true, if_false, not_true_eq_false, not_false_eq_true]
      · simp (disch := omega) only [fX12_goes_138b, fX12_goes_218, h0, h2, h4, qa, qb, c1, c2, Nat.reduceEqDiff, Nat.reduceLeDiff, Nat.reduceAdd, Nat.reduceSub, Nat.reduceMul, eq_self, Nat.le_refl, Nat.lt_irrefl, zI0, zI1, zI2, zI3, zI4, zI5, zI6, zI7, zI8, zI9, zI10, zI11, zI12, nle, nlt, neq, gdN, clN, nI_add, nsub, mul6a, mul6b, bn_s, bd1_s, bd2_s, bd3_s, bd4_s, if_true, if_false, not_true_eq_false, not_false_eq_true]
  · rintro k _ _ _ _ _ _ _ y _ _ _ ⟨b, hb, hab, rfl, rfl, rfl, rfl, rfl, rfl, rfl, hy, rfl, rfl, rfl⟩
    have eb : b = M := by omega
    subst eb
    refine ⟨y, ?_, RH_congr hy cur_row⟩
    simp (disch := omega) only [fX12_goes_138b, h4, Nat.le_refl, Nat.reduceEqDiff, Nat.reduceLeDiff, Nat.reduceAdd, Nat.reduceSub, Nat.reduceMul, eq_self, Nat.le_refl, Nat.lt_irrefl, zI0, zI1, zI2, zI3, zI4, zI5, zI6, zI7, zI8, zI9, zI10, zI11, zI12, nle, nlt, neq, gdN, clN, nI_add, nsub, mul6a, mul6b, bn_s, bd1_s, bd2_s, bd3_s, bd4_s, if_true, if_false, not_true_eq_false, not_false_eq_true]
theorem p_goOut {x101 : Nat → Int32} {n : Int32} {d ic : Nat} (hM : M ≤ 6) (hH : H ≤ 60) (h0 : x75 0 = nI H) (h2 : x75 2 = nI K) (h4 : x75 4 = nI M) (h5 : x75 5 = nI d) (h7 : x75 7 = nI ic) (hi9 : ic ≤ 9) (hx1 : RP x76 p) (hp : ∀ h, h < 6 → p h ≤ H) (hs9 : ∀ h, h < 6 → s h ≤ 60) (hxs : ∀ h, h < M → x101 h = nI (s h)) (hf9 : ∀ a b, a < 6 → b < 6 → f a b ≤ 9) (hfs : ∀ a b, a < 6 → b < 6 → f a b = f b a) (hx3 : RH x78 f) : ∃ y, fX12_goes_123 x79 x92 x93 x94 x95 x96 x97 n 0 x74 x75 x76 x77 x78 x101 y99 y100 = some (n, x74, upd (upd x75 7 (nI (ic - 1))) 5 (nI (d + 1)), x76, x77, y, x101, y99, y100) ∧ RH y (f3 M H K p s f) := by
  refine loop10 (fX12_goes_123b x79 x92 x93 x94 x95 x96 x97) (fun m v2 v3 z74 z75 z76 z77 y z101 z99 z100 => ∃ a, a + m = M ∧ n = v2 ∧ v3 = nI a ∧ x74 = z74 ∧ x75 = z75 ∧ x76 = z76 ∧ x77 = z77 ∧ RH y (cur M H K p s f a 0) ∧ x101 = z101 ∧ y99 = z99 ∧ y100 = z100) (fun o => ∃ y, o = some (n, x74, upd (upd x75 7 (nI (ic - 1))) 5 (nI (d + 1)), x76, x77, y, x101, y99, y100) ∧ RH y (f3 M H K p s f)) ?_ ?_ M 5000 _ _ _ _ _ _ _ _ _ _ (by omega) ⟨0, by omega, rfl, rfl, rfl, rfl, rfl, rfl, RH_congr hx3 cur_0, rfl, rfl, rfl⟩
  · rintro k m _ _ _ _ _ _ y _ _ _ ⟨a, ha, rfl, rfl, rfl, rfl, rfl, rfl, hy, rfl, rfl, rfl⟩
    obtain ⟨z, ez, hz⟩ := p_goIn (x74 := x74) (x77 := x77) (x79 := x79) (x92 := x92) (x93 := x93) (x94 := x94) (x95 := x95) (x96 := x96) (x97 := x97) (y99 := y99) (y100 := y100) (n := n) hM hH h0 h2 h4 hx1 hp hs9 hxs hf9 hfs (RH_congr hy cur_in) (show a < M by omega) k
    refine Or.inl ⟨_, _, _, _, _, _, _, _, _, _, ⟨a + 1, by omega, rfl, rfl, rfl, rfl, rfl, rfl, hz, rfl, rfl, rfl⟩, ?_⟩
    rw [← ez]
    have c2 : ¬ M ≤ a := by omega
    simp (disch := omega) only [fX12_goes_123b, h4, c2, Nat.reduceEqDiff, Nat.reduceLeDiff, Nat.reduceAdd, Nat.reduceSub, Nat.reduceMul, eq_self, Nat.le_refl, Nat.lt_irrefl, zI0, zI1, zI2, zI3, zI4, zI5, zI6, zI7, zI8, zI9, zI10, zI11, zI12, nle, nlt, neq, gdN, clN, nI_add, nsub, mul6a, mul6b, bn_s, bd1_s, bd2_s, bd3_s, bd4_s, if_true, if_false, not_true_eq_false, not_false_eq_true]
  · rintro k _ _ _ _ _ _ y _ _ _ ⟨a, ha, rfl, rfl, rfl, rfl, rfl, rfl, hy, rfl, rfl, rfl⟩
    have eb : a = M := by omega
    subst eb
    refine ⟨y, ?_, RH_congr hy cur_M⟩
    by_cases c : ic ≤ 0
    · obtain rfl : ic = 0 := by omega
      simp (disch := omega) only [fX12_goes_123b, fX12_goes_253, h4, h7, Nat.le_refl, upd, h5, Nat.reduceEqDiff, Nat.reduceLeDiff, Nat.reduceAdd, Nat.reduceSub, Nat.reduceMul, eq_self, Nat.le_refl, Nat.lt_irrefl, zI0, zI1, zI2, zI3, zI4, zI5, zI6, zI7, zI8, zI9, zI10, zI11, zI12, nle, nlt, neq, gdN, clN, nI_add, nsub, mul6a, mul6b, bn_s, bd1_s, bd2_s, bd3_s, bd4_s, if_true, if_false, not_true_eq_false, not_false_eq_true]
    · simp (disch := omega) only [fX12_goes_123b, fX12_goes_253, h4, h7, Nat.le_refl, c, Nat.reduceEqDiff, Nat.reduceLeDiff, Nat.reduceAdd, Nat.reduceSub, Nat.reduceMul, eq_self, Nat.le_refl, Nat.lt_irrefl, zI0, zI1, zI2, zI3, zI4, zI5, zI6, zI7, zI8, zI9, zI10, zI11, zI12, nle, nlt, neq, gdN, clN, nI_add, nsub, mul6a, mul6b, bn_s, bd1_s, bd2_s, bd3_s, bd4_s, if_true, if_false, not_true_eq_false, not_false_eq_true]
      rw [show upd x75 7 (nI (ic - 1)) 5 = nI d from h5, nI_add]
theorem p_go60 {x101 : Nat → Int32} {d ic : Nat} (hV : VG H M g r f) (ht : t < 10) (h0 : x75 0 = nI H) (h2 : x75 2 = nI K) (h4 : x75 4 = nI M) (h5 : x75 5 = nI d) (h7 : x75 7 = nI ic) (hi9 : ic ≤ 9) (hx1 : RP x76 g) (hx2 : RP x77 r) (hx3 : RH x78 f) (hxs : ∀ h, h < M → x101 h = nI (sk H M t g r f h)) : ∃ y1 y2 y3, fX12_goes_60 x79 x92 x93 x94 x95 x96 x97 0 0 x74 x75 x76 x77 x78 x101 y99 y100 = some (nI (pcnt (dwn (sk H M t g r f))), x74, upd (upd x75 7 (nI (ic - 1))) 5 (nI (d + 1)), y1, y2, y3, x101, y99, y100) ∧ RP y1 (g2 H M t g r f) ∧ RP y2 (r2 M H (g2 H M t g r f) r) ∧ RH y3 (f3 M H K (g2 H M t g r f) (sk H M t g r f) (f2 M H (g2 H M t g r f) f)) := by
  obtain ⟨hM, hH5, hH, hgr, hr0, hf9, hf0, hfr⟩ := id hV
  have hsk : ∀ h, h < 6 → sk H M t g r f h ≤ H - g h := fun h hh => by
    unfold sk
    split
    · split <;> omega
    · omega
  have hsM : ∀ h, M ≤ h → sk H M t g r f h = 0 := fun h hh => by
    unfold sk
    rw [if_neg (by omega)]
  unfold g2
  generalize sk H M t g r f = s at hsk hsM hxs ⊢
  have hp : ∀ h, h < 6 → g h + s h ≤ H := fun h hh => by
    have := (hgr h hh).1
    have := hsk h hh
    omega
  refine loop10 (fX12_goes_60b x79 x92 x93 x94 x95 x96 x97) (fun m v2 v3 z74 z75 y1 y2 y3 z101 z99 z100 => ∃ i, i + m = M ∧ v2 = nI (pcnt (bto (fun h => decide (0 < s h)) i)) ∧ v3 = nI i ∧ x74 = z74 ∧ x75 = z75 ∧ (RP y1 fun h => if h < i then g h + s h else g h) ∧ RP y2 (r2 i H (fun h => g h + s h) r) ∧ RH y3 (f2 i H (fun h => g h + s h) f) ∧ x101 = z101 ∧ y99 = z99 ∧ y100 = z100) (fun o => ∃ y1 y2 y3, o = some (nI (pcnt (dwn s)), x74, upd (upd x75 7 (nI (ic - 1))) 5 (nI (d + 1)), y1, y2, y3, x101, y99, y100) ∧ RP y1 (fun h => g h + s h) ∧ RP y2 (r2 M H (fun h => g h + s h) r) ∧ RH y3 (f3 M H K (fun h => g h + s h) s (f2 M H (fun h => g h + s h) f))) ?_ ?_ M 5000 _ _ _ _ _ _ _ _ _ _ (by omega) ⟨0, by omega, by rw [bto_0]; rfl, rfl, rfl, rfl, RP_congr hx1 fun h _ => by rw [if_neg (by omega)], RP_congr hx2 r2_0, RH_congr hx3 f2_0, rfl, rfl, rfl⟩
  · rintro k m _ _ _ _ y1 y2 y3 _ _ _ ⟨i, hi, rfl, rfl, rfl, rfl, q1, q2, q3, rfl, rfl, rfl⟩
    have hi6 : i < 6 := by omega
    have c2 : ¬ M ≤ i := by omega
    have qi := q1 i hi6
    simp only [Nat.lt_irrefl, if_false] at qi
    have si := hxs i (by omega)
    have pi := hp i hi6
    have pb := pcnt_bto_le (fun h => decide (0 < s h)) i
    have hn : pcnt (bto (fun h => decide (0 < s h)) (i + 1)) = pcnt (bto (fun h => decide (0 < s h)) i) + (if s i ≤ 0 then 0 else 1) := by
      rw [pcnt_bto hi6]
      congr 1
      by_cases c : s i ≤ 0
      · rw [if_neg (by simp; omega), if_pos c]
      · rw [if_pos (by simp; omega), if_neg c]
    have q1' : RP (upd y1 i (nI (g i + s i))) fun h => if h < i + 1 then g h + s h else g h := RP_congr (RP_set q1 (g i + s i)) fun h _ => by
      by_cases e : h = i
      · subst e; rw [if_pos rfl, if_pos (by omega)]
      · rw [if_neg e]
        repeat' split
        all_goals first | rfl | omega
    have riv := p_inRiver (x75 := x75) h0 hH q1' hi6 (by rw [if_pos (by omega)]; omega)
    rw [if_pos (show i < i + 1 by omega)] at riv
    by_cases c : g i + s i = H
    · obtain ⟨u2, u3, eu, hu2, hu3⟩ := p_floods q2 q3 hi6
      refine Or.inl ⟨nI (pcnt (bto (fun h => decide (0 < s h)) (i + 1))), nI (i + 1), _, _, upd y1 i (nI (g i + s i)), u2, u3, _, _, _, ⟨i + 1, by omega, rfl, rfl, rfl, rfl, q1', RP_congr hu2 (r2_y c), RH_congr hu3 (f2_y c), rfl, rfl, rfl⟩, ?_⟩
      rw [if_pos c] at riv
      rw [hn]
      by_cases c3 : s i ≤ 0
      · simp (disch := omega) only [fX12_goes_60b, fX12_goes_100, fX12_goes_115, h4, c2, qi, si, c3, riv, eu, Nat.reduceEqDiff, Nat.reduceLeDiff, Nat.reduceAdd, Nat.reduceSub, Nat.reduceMul, eq_self, Nat.le_refl, Nat.lt_irrefl, zI0, zI1, zI2, zI3, zI4, zI5, zI6, zI7, zI8, zI9, zI10, zI11, zI12, nle, nlt, neq, gdN, clN, nI_add, nsub, mul6a, mul6b, bn_s, bd1_s, bd2_s, bd3_s, bd4_s, if_true, if_false, not_true_eq_false, not_false_eq_true]
      · simp (disch := omega) only [fX12_goes_60b, fX12_goes_100, fX12_goes_115, h4, c2, qi, si, c3, riv, eu, Nat.reduceEqDiff, Nat.reduceLeDiff, Nat.reduceAdd, Nat.reduceSub, Nat.reduceMul, eq_self, Nat.le_refl, Nat.lt_irrefl, zI0, zI1, zI2, zI3, zI4, zI5, zI6, zI7, zI8, zI9, zI10, zI11, zI12, nle, nlt, neq, gdN, clN, nI_add, nsub, mul6a, mul6b, bn_s, bd1_s, bd2_s, bd3_s, bd4_s, if_true, if_false, not_true_eq_false, not_false_eq_true]
    · refine Or.inl ⟨nI (pcnt (bto (fun h => decide (0 < s h)) (i + 1))), nI (i + 1), _, _, upd y1 i (nI (g i + s i)), y2, y3, _, _, _, ⟨i + 1, by omega, rfl, rfl, rfl, rfl, q1', RP_congr q2 (r2_n c), RH_congr q3 (f2_n c), rfl, rfl, rfl⟩, ?_⟩
      rw [if_neg c] at riv
      rw [hn]
      by_cases c3 : s i ≤ 0
      · simp (disch := omega) only [fX12_goes_60b, fX12_goes_100, fX12_goes_115, h4, c2, qi, si, c3, riv, Nat.reduceEqDiff, Nat.reduceLeDiff, Nat.reduceAdd, Nat.reduceSub, Nat.reduceMul, eq_self, Nat.le_refl, Nat.lt_irrefl, zI0, zI1, zI2, zI3, zI4, zI5, zI6, zI7, zI8, zI9, zI10, zI11, zI12, nle, nlt, neq, gdN, clN, nI_add, nsub, mul6a, mul6b, bn_s, bd1_s, bd2_s, bd3_s, bd4_s, if_true, if_false, not_true_eq_false, not_false_eq_true]
      · simp (disch := omega) only [fX12_goes_60b, fX12_goes_100, fX12_goes_115, h4, c2, qi, si, c3, riv, Nat.reduceEqDiff, Nat.reduceLeDiff, Nat.reduceAdd, Nat.reduceSub, Nat.reduceMul, eq_self, Nat.le_refl, Nat.lt_irrefl, zI0, zI1, zI2, zI3, zI4, zI5, zI6, zI7, zI8, zI9, zI10, zI11, zI12, nle, nlt, neq, gdN, clN, nI_add, nsub, mul6a, mul6b, bn_s, bd1_s, bd2_s, bd3_s, bd4_s, if_true, if_false, not_true_eq_false, not_false_eq_true]
  · rintro k _ _ _ _ y1 y2 y3 _ _ _ ⟨i, hi, rfl, rfl, rfl, rfl, q1, q2, q3, rfl, rfl, rfl⟩
    have eb : i = M := by omega
    subst eb
    have q1' : RP y1 fun h => g h + s h := RP_congr q1 fun h hh => by
      by_cases c : h < i
      · rw [if_pos c]
      · rw [if_neg c, hsM h (by omega)]; rfl
    obtain ⟨y, ey, hy⟩ := p_goOut (x74 := x74) (x77 := y2) (x79 := x79) (x92 := x92) (x93 := x93) (x94 := x94) (x95 := x95) (x96 := x96) (x97 := x97) (y99 := y99) (y100 := y100) (n := nI (pcnt (bto (fun h => decide (0 < s h)) i))) hM hH h0 h2 h4 h5 h7 hi9 q1' hp (fun h hh => by have := hsk h hh; omega) hxs (f2_9 fun a b ha hb => (hf9 a b ha hb).1) (f2_s fun a b ha hb => (hf9 a b ha hb).2) q3
    have hd : bto (fun h => decide (0 < s h)) i = dwn s := bset_ext fun j hj => by
      by_cases c : j < i
      · simp [c]
      · simp [c, hsM j (by omega)]
    refine ⟨y1, y2, y, ?_, q1', q2, hy⟩
    rw [← hd, ← ey]
    unfold fX12_goes_60b
    rw [gd_t i4, n4', h4, if_pos (nI_le (Nat.le_refl _) (by omega))]
theorem p_go52 {d ic : Nat} (hV : VG H M g r f) (ht : t < 10) (hheat : fX12_heat x74 x75 x79 = some (nI t)) (h0 : x75 0 = nI H) (h2 : x75 2 = nI K) (h4 : x75 4 = nI M) (h5 : x75 5 = nI d) (h7 : x75 7 = nI ic) (hi9 : ic ≤ 9) (hx1 : RP x76 g) (hx2 : RP x77 r) (hx3 : RH x78 f) : ∃ y1 y2 y3 z, fX12_goes_52 x79 x92 x93 x94 x95 x96 x97 x74 x75 x76 x77 x78 x101 y99 y100 = some (nI (pcnt (dwn (sk H M t g r f))), x74, upd (upd x75 7 (nI (ic - 1))) 5 (nI (d + 1)), y1, y2, y3, z, y99, y100) ∧ RP y1 (g2 H M t g r f) ∧ RP y2 (r2 M H (g2 H M t g r f) r) ∧ RH y3 (f3 M H K (g2 H M t g r f) (sk H M t g r f) (f2 M H (g2 H M t g r f) f)) := by
  obtain ⟨z, ez, hz⟩ := p_sinks (x101 := x101) hV ht hheat h0 h4 hx1 hx2 hx3
  obtain ⟨y1, y2, y3, e, q⟩ := p_go60 (x74 := x74) (x79 := x79) (x92 := x92) (x93 := x93) (x94 := x94) (x95 := x95) (x96 := x96) (x97 := x97) (y99 := y99) (y100 := y100) hV ht h0 h2 h4 h5 h7 hi9 hx1 hx2 hx3 hz
  refine ⟨y1, y2, y3, z, ?_, q⟩
  unfold fX12_goes_52
  rw [ez, bd1_s, e]
end GOES

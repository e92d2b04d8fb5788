section DIG
variable {x74 x91 t : Nat → Int32} {sz : Nat}
theorem sg_dtab : ∀ k, k < 256 → (decide (¬ nI k - nI 128 < 48) && decide (¬ 57 < nI k - nI 128)) = true → (nI k - nI 128) &&& 255 = nI k - nI 128 := by decide +kernel
theorem sg_d {x : Int32} (h : bR x) (hd : (decide (¬ x < 48) && decide (¬ 57 < x)) = true) : x &&& 255 = x := by
  obtain ⟨k, hk, rfl⟩ := bR_cases h
  exact sg_dtab k hk hd
theorem dg1_9 {j : Nat} (h : isR t 48 57 j = true) : dg1 (t j) ≤ 9 ∧ t j = nI (48 + dg1 (t j)) := by
  unfold isR at h
  rw [Bool.and_eq_true, decide_eq_true_eq, decide_eq_true_eq] at h
  exact ⟨(dg_t h.1 h.2).2, (dg_t h.1 h.2).1⟩
theorem nmF_lt : ∀ m s a, (∀ j, s ≤ j → j < s + m → isR t 48 57 j = true) → nmF t m s a < (a + 1) * 10 ^ m
  | 0, s, a, _ => by show a < (a + 1) * 1; omega
  | m + 1, s, a, h => by
    have h9 := (dg1_9 (h s (Nat.le_refl _) (by omega))).1
    have ih := nmF_lt m (s + 1) (a * 10 + dg1 (t s)) fun j h1 h2 => h j (by omega) (by omega)
    have : (a * 10 + dg1 (t s) + 1) * 10 ^ m ≤ ((a + 1) * 10) * 10 ^ m := Nat.mul_le_mul_right _ (by omega)
    rw [Nat.mul_assoc, show 10 * 10 ^ m = 10 ^ (m + 1) by rw [Nat.pow_succ, Nat.mul_comm]] at this
    exact Nat.lt_of_lt_of_le ih this
theorem nmF_5 {m s : Nat} (hm : m ≤ 5) (h : ∀ j, s ≤ j → j < s + m → isR t 48 57 j = true) : nmF t m s 0 ≤ 99999 := by
  have h1 := nmF_lt m s 0 h
  have h2 : 10 ^ m ≤ 10 ^ 5 := Nat.pow_le_pow_right (by omega) hm
  have h3 : (10 : Nat) ^ 5 = 100000 := rfl
  omega
theorem nmF_snoc : ∀ m s a, nmF t (m + 1) s a = nmF t m s a * 10 + dg1 (t (s + m))
  | 0, s, a => rfl
  | m + 1, s, a => by
    have h := nmF_snoc m (s + 1) (a * 10 + dg1 (t s))
    rw [show s + 1 + m = s + (m + 1) by omega] at h
    exact h
/-- the fields that reading moves -/
theorem p_fails {pl kd : Nat} : (x74 19 = 0 → fX12_fails (nI kd) (nI pl) x74 = some (upd x74 19 (nI (flt pl kd)))) ∧ (x74 19 ≠ 0 → fX12_fails (nI kd) (nI pl) x74 = some (upd x74 19 (x74 19))) := by
  unfold fX12_fails fX12_fails_0 fX12_fails_23 flt
  constructor
  · intro h
    rw [if_pos h, zI1, zI8, pk_mul, nI_add, nI_add]
  · intro h
    rw [if_neg h]
theorem p_digits {s : Nat} (hz : sz ≤ 400) (h17 : x74 17 = nI sz) (h18 : x74 18 = nI s) (hs : s ≤ sz) (h19 : x74 19 = 0) (h91 : ∀ j, j < 400 → x91 j = t j) (hb : ∀ j, j < 400 → bR (t j)) : ∃ v z74, fX12_digits x91 99999 x74 = some (v, z74) ∧ (∀ j, j ≠ 18 → j ≠ 19 → z74 j = x74 j) ∧ ((rd t sz s = s ∧ z74 18 = nI s ∧ z74 19 = nI (flt s 0)) ∨ (s < rd t sz s ∧ 5 < rd t sz s - s ∧ z74 18 = nI (rd t sz s) ∧ z74 19 = nI (flt s 1)) ∨ (s < rd t sz s ∧ rd t sz s - s ≤ 5 ∧ v = nI (tn t sz s) ∧ tn t sz s ≤ 99999 ∧ z74 18 = nI (rd t sz s) ∧ z74 19 = 0)) := by
  have r1 := rd_le (t := t) hs
  have din := rn_in (P := isR t 48 57) (sz - s) s
  unfold fX12_digits fX12_digits_0
  rw [p_isDigit hz h17 h18 (by omega) h91 hb, bd1_s]
  by_cases c : s < sz ∧ isR t 48 57 s = true
  · have hr : s < rd t sz s := by
      have e : rd t sz s = rn (isR t 48 57) (sz - (s + 1)) (s + 1) := by
        unfold rd
        rw [show sz - s = (sz - (s + 1)) + 1 by omega]
        show (if isR t 48 57 s = true then _ else _) = _
        rw [if_pos c.2]
      have := rn_ge (P := isR t 48 57) (sz - (s + 1)) (s + 1)
      omega
    rw [if_pos c, if_neg (show ¬ nI 1 = (0 : Int32) from one_ne), bn_s, h18]
    unfold fX12_digits_25
    refine loop4 (fX12_digits_25b x91) (fun m v1 v2 v3 z74 => ∃ p, p + m = sz ∧ s ≤ p ∧ v1 = 99999 ∧ v2 = nI s ∧ v3 = nI (nmF t (min 5 (p - s)) s 0) ∧ z74 18 = nI p ∧ (∀ j, j ≠ 18 → z74 j = x74 j) ∧ p ≤ rd t sz s ∧ rn (isR t 48 57) m p = rd t sz s) (fun o => ∃ v z74, o = some (v, z74) ∧ (∀ j, j ≠ 18 → j ≠ 19 → z74 j = x74 j) ∧ ((rd t sz s = s ∧ z74 18 = nI s ∧ z74 19 = nI (flt s 0)) ∨ (s < rd t sz s ∧ 5 < rd t sz s - s ∧ z74 18 = nI (rd t sz s) ∧ z74 19 = nI (flt s 1)) ∨ (s < rd t sz s ∧ rd t sz s - s ≤ 5 ∧ v = nI (tn t sz s) ∧ tn t sz s ≤ 99999 ∧ z74 18 = nI (rd t sz s) ∧ z74 19 = 0))) ?_ ?_ (sz - s) 5000 _ _ _ _ (by omega) ⟨s, by omega, Nat.le_refl _, rfl, rfl, by rw [Nat.sub_self]; rfl, h18, fun _ _ => rfl, r1.1, rfl⟩
    · rintro k m _ _ _ z74 ⟨p, hp, hsp, rfl, rfl, rfl, a18, af, hpr, e⟩
      have hd := p_isDigit (x74 := z74) hz ((af 17 (by omega)).trans h17) a18 (by omega) h91 hb
      have hsg := p_sign (x74 := z74) hz ((af 17 (by omega)).trans h17) a18 (by omega) h91
      have er : rn (isR t 48 57) (m + 1) p = if isR t 48 57 p = true then rn (isR t 48 57) m (p + 1) else p := rfl
      rw [er] at e
      unfold fX12_digits_25b fX12_digits_58 fX12_digits_87
      by_cases k1 : isR t 48 57 p = true
      · rw [if_pos k1] at e
        have hpr' : p + 1 ≤ rd t sz s := by
          have := rn_ge (P := isR t 48 57) m (p + 1)
          omega
        rw [if_pos (show p < sz ∧ isR t 48 57 p = true from ⟨by omega, k1⟩)] at hd
        rw [hd, bd1_s, a18, nsub hsp, if_neg (show ¬ nI 1 = (0 : Int32) from one_ne), nI_1]
        by_cases k5 : 5 ≤ p - s
        · rw [if_pos (show (5 : Int32) ≤ nI (p - s) from nI_le (a := 5) k5 (by omega))]
          exact Or.inl ⟨99999, nI s, _, upd z74 18 (nI (p + 1)), ⟨p + 1, by omega, by omega, rfl, rfl, by rw [show min 5 (p + 1 - s) = min 5 (p - s) by omega], rfl, fun j hj => by rw [pk_un hj]; exact af j hj, hpr', e⟩, rfl⟩
        · obtain ⟨d9, dt⟩ := dg1_9 k1
          have dsg : t p &&& 255 = t p := sg_d (hb p (by omega)) k1
          rw [if_neg (show ¬ (5 : Int32) ≤ nI (p - s) from nI_ge (b := 5) (by omega) (by omega)), hsg, bd1_s, if_pos (show p < sz by omega), dsg]
          have ev : 10 * nI (nmF t (min 5 (p - s)) s 0) + t p - 48 = nI (nmF t (min 5 (p + 1 - s)) s 0) := by
            rw [show min 5 (p + 1 - s) = min 5 (p - s) + 1 by omega, nmF_snoc, show s + min 5 (p - s) = p by omega]
            have := nm_step (nmF t (min 5 (p - s)) s 0) (dg1 (t p))
            rw [← dt, Int32.mul_comm] at this
            exact this
          rw [ev]
          exact Or.inl ⟨99999, nI s, _, upd z74 18 (nI (p + 1)), ⟨p + 1, by omega, by omega, rfl, rfl, rfl, rfl, fun j hj => by rw [pk_un hj]; exact af j hj, hpr', e⟩, rfl⟩
      · rw [if_neg k1] at e
        subst e
        refine Or.inr ?_
        rw [if_neg (show ¬ (rd t sz s < sz ∧ isR t 48 57 (rd t sz s) = true) from fun h => k1 h.2)] at hd
        rw [hd, bd1_s, a18, nsub hsp, if_pos z00]
        by_cases k5 : 5 < rd t sz s - s
        · rw [if_pos (show (5 : Int32) < nI (rd t sz s - s) from nI_lt (a := 5) k5 (by omega)), zI1, (p_fails (x74 := z74)).1 ((af 19 (by omega)).trans h19), bd1_s]
          exact ⟨_, _, rfl, fun j j8 j9 => by rw [pk_un j9]; exact af j j8, Or.inr (Or.inl ⟨hr, k5, by rw [pk_un (by omega)]; exact a18, pk_us⟩)⟩
        · have etn : tn t sz s = nmF t (min 5 (rd t sz s - s)) s 0 := by
            unfold tn
            rw [if_pos ⟨hr, by omega⟩, show min 5 (rd t sz s - s) = rd t sz s - s by omega]
          have n5 : nmF t (min 5 (rd t sz s - s)) s 0 ≤ 99999 := nmF_5 (by omega) fun j h1 h2 => din j h1 (by unfold rd at hr k5 h2; omega)
          rw [if_neg (show ¬ (5 : Int32) < nI (rd t sz s - s) from nI_nlt (a := 5) (by omega) (by omega)), if_pos (show nI _ ≤ (99999 : Int32) from nI_le (b := 99999) n5 (by omega))]
          exact ⟨_, _, rfl, fun j j8 _ => af j j8, Or.inr (Or.inr ⟨hr, by omega, by rw [etn], by rw [etn]; exact n5, a18, (af 19 (by omega)).trans h19⟩)⟩
    · rintro k _ _ _ z74 ⟨p, hp, hsp, rfl, rfl, rfl, a18, af, hpr, e⟩
      have hd := p_isDigit (x74 := z74) hz ((af 17 (by omega)).trans h17) a18 (by omega) h91 hb
      have e' : p = rd t sz s := e
      subst e'
      unfold fX12_digits_25b fX12_digits_87
      rw [if_neg (show ¬ (rd t sz s < sz ∧ isR t 48 57 (rd t sz s) = true) from fun h => absurd h.1 (by omega))] at hd
      rw [hd, bd1_s, a18, nsub hsp, if_pos z00]
      by_cases k5 : 5 < rd t sz s - s
      · rw [if_pos (show (5 : Int32) < nI (rd t sz s - s) from nI_lt (a := 5) k5 (by omega)), zI1, (p_fails (x74 := z74)).1 ((af 19 (by omega)).trans h19), bd1_s]
        exact ⟨_, _, rfl, fun j j8 j9 => by rw [pk_un j9]; exact af j j8, Or.inr (Or.inl ⟨hr, k5, by rw [pk_un (by omega)]; exact a18, pk_us⟩)⟩
      · have etn : tn t sz s = nmF t (min 5 (rd t sz s - s)) s 0 := by
          unfold tn
          rw [if_pos ⟨hr, by omega⟩, show min 5 (rd t sz s - s) = rd t sz s - s by omega]
        have n5 : nmF t (min 5 (rd t sz s - s)) s 0 ≤ 99999 := nmF_5 (by omega) fun j h1 h2 => din j h1 (by unfold rd at hr k5 h2; omega)
        rw [if_neg (show ¬ (5 : Int32) < nI (rd t sz s - s) from nI_nlt (a := 5) (by omega) (by omega)), if_pos (show nI _ ≤ (99999 : Int32) from nI_le (b := 99999) n5 (by omega))]
        exact ⟨_, _, rfl, fun j j8 _ => af j j8, Or.inr (Or.inr ⟨hr, by omega, by rw [etn], by rw [etn]; exact n5, a18, (af 19 (by omega)).trans h19⟩)⟩
  · have hr : rd t sz s = s := by
      unfold rd
      by_cases k : s < sz
      · rw [show sz - s = (sz - (s + 1)) + 1 by omega]
        show (if isR t 48 57 s = true then _ else _) = _
        rw [if_neg (fun h => c ⟨k, h⟩)]
      · rw [show sz - s = 0 by omega]; rfl
    rw [if_neg c, if_pos z00, h18, show (0 : Int32) = nI 0 from rfl, (p_fails (x74 := x74)).1 h19, bd1_s]
    exact ⟨_, _, rfl, fun j _ j9 => pk_un j9, Or.inl ⟨hr, by rw [pk_un (by omega)]; exact h18, pk_us⟩⟩
end DIG

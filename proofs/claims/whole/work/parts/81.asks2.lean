section QG
variable {H M K N B : Nat} {q : Nat → Nat} {S : SN} {W : WW} {x0 x1 x16 x17 x18 x23 x24 x25 x26 x28 x29 x30 x33 x74 x75 x76 x77 x78 x79 x80 x81 x82 x92 x93 x94 x95 x96 x97 : Nat → Int32}
/-- the blocks found so far: seen, how many, the largest -/
def bl1 (H t : Nat) (g : Nat → Nat) (f : Nat → Nat → Nat) : Nat → Nat × Nat × Nat
  | 0 => (0, 0, 0)
  | i + 1 => if g i = H ∨ (bl1 H t g f i).1.testBit i = true then bl1 H t g f i else ((bl1 H t g f i).1 ||| Bk f t i, (bl1 H t g f i).2.1 + 1, if pcnt (Bk f t i) ≤ pcnt (bl1 H t g f i).2.2 then (bl1 H t g f i).2.2 else Bk f t i)
theorem bl_lt {t : Nat} {g : Nat → Nat} {f : Nat → Nat → Nat} : ∀ i, i ≤ 6 → (bl1 H t g f i).1 < 64 ∧ (bl1 H t g f i).2.1 ≤ i ∧ (bl1 H t g f i).2.2 < 64
  | 0, _ => ⟨show 0 < 64 by omega, Nat.le_refl _, show 0 < 64 by omega⟩
  | i + 1, h => by
    have k := bl_lt (t := t) (g := g) (f := f) i (by omega)
    have b := Bk_lt (f := f) (t := t) (h := i) (by omega)
    unfold bl1
    split
    · exact ⟨k.1, by omega, k.2.2⟩
    · refine ⟨or_lt64 k.1 b, ?_, ?_⟩
      · show _ + 1 ≤ _
        omega
      · show (if _ then _ else _) < 64
        split
        · exact k.2.2
        · exact b
theorem bl_y {t i : Nat} {g : Nat → Nat} {f : Nat → Nat → Nat} (h : g i = H ∨ (bl1 H t g f i).1.testBit i = true) : bl1 H t g f (i + 1) = bl1 H t g f i := if_pos h
theorem bl_n {t i : Nat} {g : Nat → Nat} {f : Nat → Nat → Nat} (h : ¬ (g i = H ∨ (bl1 H t g f i).1.testBit i = true)) : bl1 H t g f (i + 1) = ((bl1 H t g f i).1 ||| Bk f t i, (bl1 H t g f i).2.1 + 1, if pcnt (Bk f t i) ≤ pcnt (bl1 H t g f i).2.2 then (bl1 H t g f i).2.2 else Bk f t i) := if_neg h
theorem e_blocks (hQ : QQ H M K N B q S W x17 x18 x23 x24 x25 x26 x74 x75 x76 x77 x78 x79 x92 x93 x94 x95 x96 x97) (v1 : Int32) : ∃ r c33, fX11_blocks x17 x18 x23 x24 x26 v1 x33 = some (r, c33) ∧ fX12_blocks x74 x75 x76 x78 x79 v1 = some r := by
  obtain ⟨hV, hB, hT, hTR, hR, hRR, hW, hfree, hdr⟩ := hQ
  obtain ⟨hM, hH5, hH, hgr, hr0, hf9, hf0, hfr⟩ := id hV.1
  have h9 := fun a b ha hb => (hf9 a b ha hb).1
  have h4 := hT.2.2.2.2.2.1
  have h4' := hTR.2.2.2.2.2.1
  have tl := p_told1 hT.2.2.1 (by omega) hH
  have tw := p_town1 hTR.2.2.1 (by omega) hH
  obtain ⟨hc, t9⟩ := p_heatC hV hB hT hR
  have hrr := p_heatN (x74 := x74) hV hB hTR hRR hdr
  obtain ⟨z33, ez, hz⟩ := p_findHolds (x33 := x33) (RC_h hR) h9 (show hS N q S < 100 by omega)
  unfold fX11_blocks fX11_blocks_0 fX12_blocks fX12_blocks_0
  rw [tl, tw, bd1_s, bd1_s, if_neg (show ¬ nI 1 = (0 : Int32) from one_ne), if_neg (show ¬ nI 1 = (0 : Int32) from one_ne)]
  rcases p_within (lo := 0) (hi := 1) (by omega) (by omega) v1 with ⟨w, w1, w2, rfl, c4, d4⟩ | ⟨c4, d4⟩
  · rw [show fX11_isWithin (nI w) 0 1 = _ from c4, bd1_s, if_neg (show ¬ nI 1 = (0 : Int32) from one_ne), show fX12_in (nI w).toInt64 0 1 = _ from d4, bd1_s, if_neg (show ¬ nI 1 = (0 : Int32) from one_ne), hc, bd1_s, ez, bd1_s, p_riverC hV hT (RC_p hR), bd1_s]
    refine ⟨if w = 0 then nI (bl1 H (hS N q S) (sPl S) (sHd S) M).2.1 else nI (bl1 H (hS N q S) (sPl S) (sHd S) M).2.2, z33, ?_, ?_⟩
    · unfold fX11_blocks_75
      refine loop6 (fX11_blocks_75b x17 x18 x23 x24 x26) (fun m v1 v2 v3 v4 v5 y33 => ∃ i, i + m = M ∧ v1 = nI w ∧ v2 = nI (riv H M (sPl S) ||| (bl1 H (hS N q S) (sPl S) (sHd S) i).1) ∧ v3 = nI (bl1 H (hS N q S) (sPl S) (sHd S) i).2.1 ∧ v4 = nI (bl1 H (hS N q S) (sPl S) (sHd S) i).2.2 ∧ v5 = nI i ∧ z33 = y33) (fun o => o = some (if w = 0 then nI (bl1 H (hS N q S) (sPl S) (sHd S) M).2.1 else nI (bl1 H (hS N q S) (sPl S) (sHd S) M).2.2, z33)) ?_ ?_ M 5000 _ _ _ _ _ _ (by omega) ⟨0, by omega, rfl, by show _ = nI (_ ||| 0); rw [Nat.or_zero], rfl, rfl, rfl, rfl⟩
      · rintro k m _ _ _ _ _ _ ⟨i, hi, rfl, rfl, rfl, rfl, rfl, rfl⟩
        have hi6 : i < 6 := by omega
        have gi := (hgr i hi6).1
        obtain ⟨b1, b2, b3⟩ := bl_lt (H := H) (t := hS N q S) (g := sPl S) (f := sHd S) i (by omega)
        have rl : riv H M (sPl S) < 64 := bset_lt _
        have bb := Bk_lt (f := sHd S) (t := hS N q S) hi6
        have tb : (riv H M (sPl S) ||| (bl1 H (hS N q S) (sPl S) (sHd S) i).1).testBit i = true ↔ (sPl S i = H ∨ (bl1 H (hS N q S) (sPl S) (sHd S) i).1.testBit i = true) := by
          rw [Nat.testBit_or, Bool.or_eq_true]
          unfold riv
          rw [bset_tb _ hi6]
          simp only [Bool.and_eq_true, decide_eq_true_eq]
          constructor
          · rintro (h | h)
            · exact Or.inl (by omega)
            · exact Or.inr h
          · rintro (h | h)
            · exact Or.inl (by omega)
            · exact Or.inr h
        refine Or.inl ⟨nI w, nI (riv H M (sPl S) ||| (bl1 H (hS N q S) (sPl S) (sHd S) (i + 1)).1), nI (bl1 H (hS N q S) (sPl S) (sHd S) (i + 1)).2.1, nI (bl1 H (hS N q S) (sPl S) (sHd S) (i + 1)).2.2, nI (i + 1), z33, ⟨i + 1, by omega, rfl, rfl, rfl, rfl, rfl, rfl⟩, ?_⟩
        unfold fX11_blocks_75b fX11_blocks_138 fX11_blocks_140
        rw [h4, if_neg (nI_ge (show i < M by omega) (by omega)), hb2 (or_lt64 rl b1) hi6, bd1_s]
        by_cases c : sPl S i = H ∨ (bl1 H (hS N q S) (sPl S) (sHd S) i).1.testBit i = true
        · rw [if_pos (tb.mpr c), if_neg (show ¬ nI 1 = (0 : Int32) from one_ne), bn_s, nI_1, bl_y c]
        · rw [if_neg (fun h => c (tb.mp h)), if_pos z00, show fX1_blockOf z33 (nI i) = some (nI (Bk (sHd S) (hS N q S) i)) from p_blockB hz hi6, bd1_s, bn_s, bn_s, p_bitCount _ bb, bd1_s, p_bitCount _ b3, bd1_s, nI_or (or_lt64 rl b1) bb, nI_1, bl_n c, Nat.or_assoc]
          have q1 := pcnt_le _ bb
          have q2 := pcnt_le _ b3
          by_cases c2 : pcnt (Bk (sHd S) (hS N q S) i) ≤ pcnt (bl1 H (hS N q S) (sPl S) (sHd S) i).2.2
          · rw [if_pos (nI_le c2 (by omega)), bn_s, nI_1, if_pos c2]
          · rw [if_neg (nI_ge (by omega) (by omega)), bn_s, nI_1, if_neg c2]
      · rintro k _ _ _ _ _ _ ⟨i, hi, rfl, rfl, rfl, rfl, rfl, rfl⟩
        have ei : i = M := by omega
        subst ei
        unfold fX11_blocks_75b
        rw [h4, if_pos (nI_le (Nat.le_refl _) (by omega))]
        by_cases w0 : w = 0
        · rw [if_pos (by rw [w0]; rfl), if_pos w0]
        · rw [if_neg (ne0 w0 (by omega)), if_neg w0]
    · unfold fX12_blocks_29
      refine loop5 (fX12_blocks_29b x74 x75 x76 x78 x79) (fun m v1 v2 v3 v4 v5 => ∃ i, i + m = M ∧ v1 = nI w ∧ v2 = nI (bl1 H (hS N q S) (sPl S) (sHd S) i).2.1 ∧ v3 = nI (bl1 H (hS N q S) (sPl S) (sHd S) i).1 ∧ v4 = nI (bl1 H (hS N q S) (sPl S) (sHd S) i).2.2 ∧ v5 = nI i) (fun o => o = some (if w = 0 then nI (bl1 H (hS N q S) (sPl S) (sHd S) M).2.1 else nI (bl1 H (hS N q S) (sPl S) (sHd S) M).2.2)) ?_ ?_ M 5000 _ _ _ _ _ (by omega) ⟨0, by omega, rfl, rfl, rfl, rfl, rfl⟩
      · rintro k m _ _ _ _ _ ⟨i, hi, rfl, rfl, rfl, rfl, rfl⟩
        have hi6 : i < 6 := by omega
        have gi := (hgr i hi6).1
        obtain ⟨b1, b2, b3⟩ := bl_lt (H := H) (t := hS N q S) (g := sPl S) (f := sHd S) i (by omega)
        have bb := Bk_lt (f := sHd S) (t := hS N q S) hi6
        have er := p_inRiver (x75 := x75) hTR.2.2.1 hH (RC_p hRR) hi6 (by omega)
        have eb := p_blockN hV hTR hRR t9 hi6
        refine Or.inl ⟨nI w, nI (bl1 H (hS N q S) (sPl S) (sHd S) (i + 1)).2.1, nI (bl1 H (hS N q S) (sPl S) (sHd S) (i + 1)).1, nI (bl1 H (hS N q S) (sPl S) (sHd S) (i + 1)).2.2, nI (i + 1), ⟨i + 1, by omega, rfl, rfl, rfl, rfl, rfl⟩, ?_⟩
        unfold fX12_blocks_29b fX12_blocks_90 fX12_blocks_100
        rw [gd_t i4, n4', h4', if_neg (nI_ge (show i < M by omega) (by omega)), er, bd1_s]
        by_cases c0 : sPl S i = H
        · rw [if_pos c0, if_neg (show ¬ nI 1 = (0 : Int32) from one_ne), bn_s, nI_1, bl_y (Or.inl c0)]
        · rw [if_neg c0, if_pos z00, has01 b1 hi6, bd1_s]
          by_cases c1 : (bl1 H (hS N q S) (sPl S) (sHd S) i).1.testBit i = true
          · rw [if_pos c1, if_neg (show ¬ nI 1 = (0 : Int32) from one_ne), bn_s, nI_1, bl_y (Or.inr c1)]
          · rw [if_neg c1, if_pos z00, hrr, bd1_s, eb, bd1_s, p_bits _ bb, bd1_s, p_bits _ b3, bd1_s, bl_n (fun h => h.elim c0 c1)]
            have q1 := pcnt_le _ bb
            have q2 := pcnt_le _ b3
            by_cases c2 : pcnt (Bk (sHd S) (hS N q S) i) ≤ pcnt (bl1 H (hS N q S) (sPl S) (sHd S) i).2.2
            · rw [if_pos (nI_le c2 (by omega)), bn_s, bn_s, bn_s, nI_1, nI_1, nI_or b1 bb, if_pos c2]
            · rw [if_neg (nI_ge (by omega) (by omega)), bn_s, bn_s, bn_s, nI_1, nI_1, nI_or b1 bb, if_neg c2]
      · rintro k _ _ _ _ _ ⟨i, hi, rfl, rfl, rfl, rfl, rfl⟩
        have ei : i = M := by omega
        subst ei
        unfold fX12_blocks_29b
        rw [gd_t i4, n4', h4', if_pos (nI_le (Nat.le_refl _) (by omega))]
        by_cases w0 : w = 0
        · rw [if_pos (by rw [w0]; rfl), if_pos w0]
        · rw [if_neg (ne0 w0 (by omega)), if_neg w0]
  · rw [show fX11_isWithin v1 0 1 = _ from c4, bd1_s, if_pos z00, show fX12_in v1.toInt64 0 1 = _ from d4, bd1_s, if_pos z00]
    exact ⟨_, _, rfl, rfl⟩
/-- all of a house's hardness -/
def hn (r : Nat → Nat) (f : Nat → Nat → Nat) (h : Nat) : Nat → Nat
  | 0 => r h
  | i + 1 => hn r f h i + f h i
theorem hn_le {r : Nat → Nat} {f : Nat → Nat → Nat} {h : Nat} (hr : r h ≤ 9) (hf : ∀ o, o < 6 → f h o ≤ 9) : ∀ i, i ≤ 6 → hn r f h i ≤ 9 + 9 * i
  | 0, _ => hr
  | i + 1, hi => by
    have := hn_le hr hf i (by omega)
    have := hf i (by omega)
    unfold hn
    omega
theorem p_hardness {x2 x3 : Nat → Int32} {r : Nat → Nat} {f : Nat → Nat → Nat} (hr : RP x2 r) (hf : RH x3 f) {h : Nat} (hh : h < 6) : fX7_hardnessOf x2 x3 (nI h) = some (nI (hn r f h 6)) ∧ fX12_allHard x2 x3 (nI h) = some (nI (hn r f h 6)) := by
  constructor
  · unfold fX7_hardnessOf fX7_hardnessOf_0
    rw [gd_t (in6 hh), cl6 hh, hr h hh, bn_s]
    refine loop3 (fX7_hardnessOf_9b x2 x3) (fun m v1 v2 v3 => ∃ i, i + m = 6 ∧ v1 = nI h ∧ v2 = nI (hn r f h i) ∧ v3 = nI i) (fun o => o = some (nI (hn r f h 6))) ?_ ?_ 6 5000 _ _ _ (by omega) ⟨0, rfl, rfl, rfl, rfl⟩
    · rintro k m _ _ _ ⟨i, hi, rfl, rfl, rfl⟩
      refine Or.inl ⟨nI h, nI (hn r f h (i + 1)), nI (i + 1), ⟨i + 1, by omega, rfl, rfl, rfl⟩, ?_⟩
      unfold fX7_hardnessOf_9b
      rw [if_neg (le6 (by omega)), p_hardOf hf hh (by omega), bd1_s, bn_s, bn_s, nI_add, nI_1]
      rfl
    · rintro k _ _ _ ⟨i, hi, rfl, rfl, rfl⟩
      have ei : i = 6 := by omega
      subst ei
      unfold fX7_hardnessOf_9b
      rw [if_pos ge6]
  · unfold fX12_allHard fX12_allHard_0
    rw [gd_t (in6 hh), cl6 hh, hr h hh, bn_s]
    refine loop3 (fX12_allHard_9b x2 x3) (fun m v1 v2 v3 => ∃ i, i + m = 6 ∧ v1 = nI h ∧ v2 = nI (hn r f h i) ∧ v3 = nI i) (fun o => o = some (nI (hn r f h 6))) ?_ ?_ 6 5000 _ _ _ (by omega) ⟨0, rfl, rfl, rfl, rfl⟩
    · rintro k m _ _ _ ⟨i, hi, rfl, rfl, rfl⟩
      refine Or.inl ⟨nI h, nI (hn r f h (i + 1)), nI (i + 1), ⟨i + 1, by omega, rfl, rfl, rfl⟩, ?_⟩
      unfold fX12_allHard_9b
      rw [if_neg (le6 (by omega)), ixR, gd_t (inbH hh (by omega)), clH hh (by omega), hf h i hh (by omega), bn_s, bn_s, nI_add, nI_1]
      rfl
    · rintro k _ _ _ ⟨i, hi, rfl, rfl, rfl⟩
      have ei : i = 6 := by omega
      subst ei
      unfold fX12_allHard_9b
      rw [if_pos ge6]
def tt (u : Nat → Nat) : Nat → Nat
  | 0 => 0
  | i + 1 => tt u i + u i
theorem tt_le {u : Nat → Nat} : ∀ i, i ≤ 6 → (∀ h, h < 6 → u h ≤ 63) → tt u i ≤ 63 * i
  | 0, _, _ => Nat.le_refl _
  | i + 1, hi, h => by
    have := tt_le i (by omega) h
    have := h i (by omega)
    unfold tt
    omega
/-- what is left, and who goes ahead -/
def lf (u : Nat → Nat) (t T : Nat) : Nat → Int32
  | 0 => nI t
  | i + 1 => lf u t T i - nI (t * u i / T)
def soon (u : Nat → Nat) (t T h k : Nat) : Bool := decide (t * u h % T < t * u k % T) || (decide (t * u k % T = t * u h % T) && decide (k < h))
theorem sub_gt : ∀ a, a < 400 → ∀ b, b < 400 → ((0 : Int32) < nI a - nI b ↔ b < a) ∧ (nI a - nI b = 0 ↔ a = b) := by
  intro a ha b hb
  constructor
  · rw [Int32.lt_iff_toInt_lt, pk_sub_toInt (by omega) (by omega), show (0 : Int32).toInt = 0 from rfl]
    omega
  · rw [← Int32.toInt_inj, pk_sub_toInt (by omega) (by omega), show (0 : Int32).toInt = 0 from rfl]
    omega
theorem c_parts {u : Nat → Nat} {t T h : Nat} (hM : M ≤ 6) (hh : h < M) (h4 : x17 4 = nI M) (hu : ∀ k, k < 6 → u k ≤ 63) (ht : t ≤ 9999) (hT0 : 0 < T) (hT : T < 400) (he : ∀ k, k < 6 → fX7_hardnessOf x25 x26 (nI k) = some (nI (u k))) : fX11_parts_94 x17 x25 x26 (nI t) (nI h) (nI T) (nI t) 0 (nI (t * u h % T)) 0 = some (nI (t * u h / T) + (if lf u t T M ≤ nI (cf (soon u t T h) M).1 then 0 else 1)) := by
  unfold fX11_parts_94
  refine loop7 (fX11_parts_94b x17 x25 x26) (fun m v1 v2 v3 v4 v5 v6 v7 => ∃ i, i + m = M ∧ v1 = nI t ∧ v2 = nI h ∧ v3 = nI T ∧ v4 = lf u t T i ∧ v5 = nI (cf (soon u t T h) i).1 ∧ v6 = nI (t * u h % T) ∧ v7 = nI i) (fun o => o = some (nI (t * u h / T) + (if lf u t T M ≤ nI (cf (soon u t T h) M).1 then 0 else 1))) ?_ ?_ M 5000 _ _ _ _ _ _ _ (by omega) ⟨0, by omega, rfl, rfl, rfl, rfl, rfl, rfl, rfl⟩
  · rintro k m _ _ _ _ _ _ _ ⟨i, hi, rfl, rfl, rfl, rfl, rfl, rfl, rfl⟩
    have hi6 : i < 6 := by omega
    have b1 := Nat.mul_le_mul ht (hu i hi6)
    have b2 := Nat.mul_le_mul ht (hu h (by omega))
    have m1 := Nat.mod_lt (t * u i) hT0
    have m2 := Nat.mod_lt (t * u h) hT0
    have cl := cf_le (soon u t T h) i
    have e1 : ∀ P : Nat → Bool, (cf P (i + 1)).1 = if P i = true then (cf P i).1 + 1 else (cf P i).1 := fun P => by
      show (if _ then _ else _ : Nat × Int32).1 = _
      split <;> rfl
    refine Or.inl ⟨nI t, nI h, nI T, lf u t T (i + 1), nI (cf (soon u t T h) (i + 1)).1, nI (t * u h % T), nI (i + 1), ⟨i + 1, by omega, rfl, rfl, rfl, rfl, rfl, rfl, rfl⟩, ?_⟩
    rw [e1]
    unfold fX11_parts_94b fX11_parts_158 fX11_parts_161
    have gz : ∀ o : Option Int32, gd (nz (nI T)) o = o := fun o => gd_t (nz_t (by omega) (by omega))
    rw [h4, if_neg (nI_ge (show i < M by omega) (by omega)), he i hi6, bd1_s]
    simp only [bn_s, gz, pk_mul]
    rw [pk_rem (by omega) hT0 (by omega), pk_div (by omega) hT0 (by omega)]
    unfold soon
    by_cases c1 : t * u h % T < t * u i % T
    · rw [if_pos (nI_lt c1 (by omega)), nI_1, nI_1, if_pos (by simp [c1])]; rfl
    · rw [if_neg (nI_nlt (by omega) (by omega))]
      by_cases c2 : t * u i % T = t * u h % T
      · rw [if_pos (by rw [c2])]
        by_cases c3 : i < h
        · rw [if_neg (nI_ge c3 (by omega)), nI_1, nI_1, if_pos (by simp [c2, c3])]; rfl
        · rw [if_pos (nI_le (by omega) (by omega)), nI_1, if_neg (by simp [c1, c3])]; rfl
      · rw [if_neg (fun e => c2 ((nI_eq (by omega) (by omega)).mp e)), nI_1, if_neg (by simp [c1, c2])]; rfl
  · rintro k _ _ _ _ _ _ _ ⟨i, hi, rfl, rfl, rfl, rfl, rfl, rfl, rfl⟩
    have ei : i = M := by omega
    subst ei
    have b2 := Nat.mul_le_mul ht (hu h (by omega))
    unfold fX11_parts_94b
    rw [h4, if_pos (nI_le (Nat.le_refl _) (by omega)), he h (by omega), bd1_s, gd_t (nz_t (by omega) (by omega)), pk_mul, pk_div (by omega) hT0 (by omega)]
    split <;> rfl
theorem r_parts {u : Nat → Nat} {t T h : Nat} (hM : M ≤ 6) (hh : h < M) (h4 : x75 4 = nI M) (hu : ∀ k, k < 6 → u k ≤ 63) (ht : t ≤ 9999) (hT0 : 0 < T) (hT : T < 400) (he : ∀ k, k < 6 → fX12_allHard x77 x78 (nI k) = some (nI (u k))) : fX12_parts_68 x75 x77 x78 (nI t) (nI h) (nI T) (nI t) 0 0 = some (nI (t * u h / T) + (if lf u t T M ≤ nI (cf (soon u t T h) M).1 then 0 else 1)) := by
  unfold fX12_parts_68
  refine loop6 (fX12_parts_68b x75 x77 x78) (fun m v1 v2 v3 v4 v5 v7 => ∃ i, i + m = M ∧ v1 = nI t ∧ v2 = nI h ∧ v3 = nI T ∧ v4 = lf u t T i ∧ v5 = nI (cf (soon u t T h) i).1 ∧ v7 = nI i) (fun o => o = some (nI (t * u h / T) + (if lf u t T M ≤ nI (cf (soon u t T h) M).1 then 0 else 1))) ?_ ?_ M 5000 _ _ _ _ _ _ (by omega) ⟨0, by omega, rfl, rfl, rfl, rfl, rfl, rfl⟩
  · rintro k m _ _ _ _ _ _ ⟨i, hi, rfl, rfl, rfl, rfl, rfl, rfl⟩
    have hi6 : i < 6 := by omega
    have b1 := Nat.mul_le_mul ht (hu i hi6)
    have b2 := Nat.mul_le_mul ht (hu h (by omega))
    have m1 := Nat.mod_lt (t * u i) hT0
    have m2 := Nat.mod_lt (t * u h) hT0
    have cl := cf_le (soon u t T h) i
    obtain ⟨g1, g2⟩ := sub_gt (t * u i % T) (by omega) (t * u h % T) (by omega)
    have e1 : ∀ P : Nat → Bool, (cf P (i + 1)).1 = if P i = true then (cf P i).1 + 1 else (cf P i).1 := fun P => by
      show (if _ then _ else _ : Nat × Int32).1 = _
      split <;> rfl
    refine Or.inl ⟨nI t, nI h, nI T, lf u t T (i + 1), nI (cf (soon u t T h) (i + 1)).1, nI (i + 1), ⟨i + 1, by omega, rfl, rfl, rfl, rfl, rfl, rfl⟩, ?_⟩
    rw [e1]
    unfold fX12_parts_68b fX12_parts_134 fX12_parts_138 fX12_parts_139
    have gz : ∀ o : Option Int32, gd (nz (nI T)) o = o := fun o => gd_t (nz_t (by omega) (by omega))
    rw [gd_t i4, n4', h4, if_neg (nI_ge (show i < M by omega) (by omega)), he i hi6, bd1_s]
    simp only [bn_s, gz, pk_mul, bd1_s, he h (show h < 6 by omega)]
    rw [pk_rem (by omega) hT0 (by omega), pk_rem (by omega) hT0 (by omega), pk_div (by omega) hT0 (by omega)]
    unfold soon
    by_cases c1 : t * u h % T < t * u i % T
    · rw [if_pos (g1.mpr c1), nI_1, nI_1, if_pos (by simp [c1])]; rfl
    · rw [if_neg (fun e => c1 (g1.mp e))]
      by_cases c2 : t * u i % T = t * u h % T
      · rw [if_pos (g2.mpr c2)]
        by_cases c3 : i < h
        · rw [if_neg (nI_ge c3 (by omega)), nI_1, nI_1, if_pos (by simp [c2, c3])]; rfl
        · rw [if_pos (nI_le (by omega) (by omega)), nI_1, zI0, nI_add, Nat.add_zero, if_neg (by simp [c1, c3])]; rfl
      · rw [if_neg (fun e => c2 (g2.mp e)), nI_1, zI0, nI_add, Nat.add_zero, if_neg (by simp [c1, c2])]; rfl
  · rintro k _ _ _ _ _ _ ⟨i, hi, rfl, rfl, rfl, rfl, rfl, rfl⟩
    have ei : i = M := by omega
    subst ei
    have b2 := Nat.mul_le_mul ht (hu h (by omega))
    unfold fX12_parts_68b
    rw [gd_t i4, n4', h4, if_pos (nI_le (Nat.le_refl _) (by omega)), he h (by omega), bd1_s, gd_t (nz_t (by omega) (by omega)), pk_mul, pk_div (by omega) hT0 (by omega)]
    split <;> rfl
theorem e_parts (hQ : QQ H M K N B q S W x17 x18 x23 x24 x25 x26 x74 x75 x76 x77 x78 x79 x92 x93 x94 x95 x96 x97) (v1 v2 : Int32) : ∃ r, fX11_parts x17 x25 x26 v1 v2 = some r ∧ fX12_parts x75 x77 x78 v1 v2 = some r := by
  obtain ⟨hV, hB, hT, hTR, hR, hRR, hW, hfree, hdr⟩ := hQ
  obtain ⟨hM, hH5, hH, hgr, hr0, hf9, hf0, hfr⟩ := id hV.1
  have h4 := hT.2.2.2.2.2.1
  have h4' := hTR.2.2.2.2.2.1
  have hu : ∀ k, k < 6 → hn (sRk S) (sHd S) k 6 ≤ 63 := fun k hk => hn_le (hgr k hk).2 (fun o ho => (hf9 k o hk ho).1) 6 (Nat.le_refl _)
  have he := fun k (hk : k < 6) => (p_hardness (RC_r hR) (RC_h hR) hk).1
  have he' := fun k (hk : k < 6) => (p_hardness (RC_r hRR) (RC_h hRR) hk).2
  generalize hu' : (fun k => hn (sRk S) (sHd S) k 6) = u
  have hue : ∀ k, hn (sRk S) (sHd S) k 6 = u k := fun k => by rw [← hu']
  simp only [hue] at hu he he'
  have tl := tt_le (u := u) M hM hu
  unfold fX11_parts fX11_parts_0 fX12_parts fX12_parts_0
  rcases p_house hM h4 h4' v2 with ⟨h, hh, rfl, u1, u2⟩ | ⟨u1, u2⟩
  · rw [u1, u2, bd1_s, bd1_s, if_neg (show ¬ nI 1 = (0 : Int32) from one_ne), if_neg (show ¬ nI 1 = (0 : Int32) from one_ne)]
    rcases p_within (lo := 0) (hi := 9999) (by omega) (by omega) v1 with ⟨t, t1, t2, rfl, c4, d4⟩ | ⟨c4, d4⟩
    · rw [show fX11_isWithin (nI t) 0 9999 = _ from c4, bd1_s, if_neg (show ¬ nI 1 = (0 : Int32) from one_ne), show fX12_in (nI t).toInt64 0 9999 = _ from d4, bd1_s, if_neg (show ¬ nI 1 = (0 : Int32) from one_ne)]
      have b2 := Nat.mul_le_mul t2 (hu h (by omega))
      refine ⟨if tt u M = 0 then 0 else nI (t * u h / tt u M) + (if lf u t (tt u M) M ≤ nI (cf (soon u t (tt u M) h) M).1 then 0 else 1), ?_, ?_⟩
      · unfold fX11_parts_26
        refine loop4 (fX11_parts_26b x17 x25 x26) (fun m v1 v2 v3 v4 => ∃ i, i + m = M ∧ v1 = nI t ∧ v2 = nI h ∧ v3 = nI (tt u i) ∧ v4 = nI i) (fun o => o = some (if tt u M = 0 then 0 else nI (t * u h / tt u M) + (if lf u t (tt u M) M ≤ nI (cf (soon u t (tt u M) h) M).1 then 0 else 1))) ?_ ?_ M 5000 _ _ _ _ (by omega) ⟨0, by omega, rfl, rfl, rfl, rfl⟩
        · rintro k m _ _ _ _ ⟨i, hi, rfl, rfl, rfl, rfl⟩
          refine Or.inl ⟨nI t, nI h, nI (tt u (i + 1)), nI (i + 1), ⟨i + 1, by omega, rfl, rfl, rfl, rfl⟩, ?_⟩
          unfold fX11_parts_26b
          rw [h4, if_neg (nI_ge (show i < M by omega) (by omega)), he i (by omega), bd1_s, bn_s, bn_s, nI_add, nI_1]
          rfl
        · rintro k _ _ _ _ ⟨i, hi, rfl, rfl, rfl, rfl⟩
          have ei : i = M := by omega
          subst ei
          unfold fX11_parts_26b
          rw [h4, if_pos (nI_le (Nat.le_refl _) (by omega))]
          by_cases c : tt u i = 0
          · rw [if_neg (show ¬ (0 : Int32) < nI (tt u i) from nI_nlt (a := 0) (by omega) (by omega)), if_pos c]
          · rw [if_pos (show (0 : Int32) < nI (tt u i) from nI_lt (a := 0) (by omega) (by omega)), he h (by omega), bd1_s, gd_t (nz_t c (by omega)), pk_mul, pk_rem (by omega) (by omega) (by omega), bn_s, if_neg c]
            exact c_parts hM hh h4 hu t2 (by omega) (by omega) he
      · unfold fX12_parts_27
        refine loop4 (fX12_parts_27b x75 x77 x78) (fun m v1 v2 v3 v4 => ∃ i, i + m = M ∧ v1 = nI t ∧ v2 = nI h ∧ v3 = nI (tt u i) ∧ v4 = nI i) (fun o => o = some (if tt u M = 0 then 0 else nI (t * u h / tt u M) + (if lf u t (tt u M) M ≤ nI (cf (soon u t (tt u M) h) M).1 then 0 else 1))) ?_ ?_ M 5000 _ _ _ _ (by omega) ⟨0, by omega, rfl, rfl, rfl, rfl⟩
        · rintro k m _ _ _ _ ⟨i, hi, rfl, rfl, rfl, rfl⟩
          refine Or.inl ⟨nI t, nI h, nI (tt u (i + 1)), nI (i + 1), ⟨i + 1, by omega, rfl, rfl, rfl, rfl⟩, ?_⟩
          unfold fX12_parts_27b
          rw [gd_t i4, n4', h4', if_neg (nI_ge (show i < M by omega) (by omega)), he' i (by omega), bd1_s, bn_s, bn_s, nI_add, nI_1]
          rfl
        · rintro k _ _ _ _ ⟨i, hi, rfl, rfl, rfl, rfl⟩
          have ei : i = M := by omega
          subst ei
          unfold fX12_parts_27b
          rw [gd_t i4, n4', h4', if_pos (nI_le (Nat.le_refl _) (by omega))]
          by_cases c : tt u i = 0
          · rw [if_pos (by rw [c]; rfl), if_pos c]
          · rw [if_neg (ne0 c (by omega)), if_neg c]
            exact r_parts hM hh h4' hu t2 (by omega) (by omega) he'
    · rw [show fX11_isWithin v1 0 9999 = _ from c4, bd1_s, if_pos z00, show fX12_in v1.toInt64 0 9999 = _ from d4, bd1_s, if_pos z00]
      exact ⟨_, rfl, rfl⟩
  · rw [u1, u2, bd1_s, bd1_s, if_pos z00, if_pos z00]
    exact ⟨_, rfl, rfl⟩
end QG

section ROW3
variable {H M K N B : Nat} {q : Nat → Nat} {S : SN} {x74 x75 x76 x77 x78 x79 x92 x93 x94 x95 x96 x97 x101 x105 x106 x107 x112 : Nat → Int32} {y99 y100 : Nat → Int64}
theorem rv_none {os : Nat → OP} : ∀ m k S, (∀ j, os j = none) → (rv H M K N q os m k S true).2 = true
  | 0, _, _, _ => rfl
  | m + 1, k, S, h => by
    show (rv H M K N q os m (k + 1) (stR H M K N q S (if (true && feas S (os k)) = true then os k else none)) (true && feas S (os k))).2 = true
    rw [h k]
    exact rv_none m (k + 1) _ h
theorem plc_360 {T : SN} (hV : VD H M B T) : plc (sPl T) M ≤ 360 := by
  obtain ⟨hM, hH5, hH, hgr, _⟩ := id hV.1
  have := plc_le (g := sPl T) (H := H) M hM fun h hh => (hgr h hh).1
  have h2 : M * H ≤ 6 * 60 := Nat.mul_le_mul hM hH
  omega
theorem rw2_V {n bs c : Nat} (hK : K ≤ 9) (hM : M ≤ 6) (hV : VD H M B S) : VD H M (B + n) (rw2 H M K N q S n bs c).1 := VD_rv hK (fun _ => opt_V hM) n 0 B S true hV
theorem rb_some {n bs : Nat} (hK : K ≤ 9) (hV : VD H M B S) : ∀ c, 0 < c → ∃ x, rb H M K N q S n bs c = some x ∧ x.1 ≤ 360 ∧ x.2 < c
  | 0, h => absurd h (Nat.lt_irrefl 0)
  | c + 1, _ => by
    have p := plc_360 (rw2_V (N := N) (q := q) (n := n) (bs := bs) (c := c) hK hV.1.1 hV)
    rw [rb_s]
    by_cases k : (rw2 H M K N q S n bs c).2 = true ∧ plc (sPl (rw2 H M K N q S n bs c).1) M < rbB (rb H M K N q S n bs c)
    · rw [if_pos k]; exact ⟨_, rfl, p, Nat.lt_succ_self c⟩
    · rw [if_neg k]
      by_cases c0 : c = 0
      · subst c0
        refine absurd ⟨?_, ?_⟩ k
        · exact rv_none n 0 S fun j => by
            show opt M (0 / bs ^ (n - 1 - j) % bs) = none
            rw [Nat.zero_div, Nat.zero_mod]
            rfl
        · show _ < 100000
          omega
      · obtain ⟨x, h1, h2, h3⟩ := rb_some hK hV c (by omega)
        exact ⟨x, h1, h2, by omega⟩
theorem rbB_lt {n bs c : Nat} (hK : K ≤ 9) (hV : VD H M B S) : rbB (rb H M K N q S n bs c) ≤ 100000 := by
  by_cases c0 : c = 0
  · subst c0; exact Nat.le_refl _
  · obtain ⟨x, h1, h2, _⟩ := rb_some (N := N) (q := q) (n := n) (bs := bs) hK hV c (by omega)
    rw [h1]
    show x.1 ≤ _
    omega
abbrev T12 : Type := (Nat → Int32) × (Nat → Int32) × (Nat → Int32) × (Nat → Int32) × (Nat → Int32) × (Nat → Int32) × (Nat → Int32) × (Nat → Int32) × (Nat → Int32) × (Nat → Int32) × (Nat → Int64) × (Nat → Int64)
def FW (x74 x75 x76 x77 x78 x112 : Nat → Int32) (z : T12) : Prop := (∀ j, j ≠ 39 → j ≠ 56 → j ≠ 57 → z.1 j = x74 j) ∧ (∀ j, j < 11 → z.2.1 j = x75 j) ∧ (∀ j, j < 6 → z.2.2.1 j = x76 j) ∧ (∀ j, j < 6 → z.2.2.2.1 j = x77 j) ∧ (∀ j, j < 36 → z.2.2.2.2.1 j = x78 j) ∧ ∀ j, j < 5200 → z.2.2.2.2.2.2.2.2.2.1 j = x112 j
theorem pow16 {bs : Nat} (h : bs ≤ 16) : ∀ n, n ≤ 3 → bs ^ n ≤ 4096 := fun n hn => by
  have h1 : bs ^ n ≤ 16 ^ n := Nat.pow_le_pow_left h n
  have h2 : 16 ^ n ≤ 16 ^ 3 := Nat.pow_le_pow_right (by omega) hn
  have h3 : (16 : Nat) ^ 3 = 4096 := rfl
  omega
theorem r_row77 {n w bs codes : Nat} {z74 z75 z76 z77 z78 z101 z105 z106 z107 z112 : Nat → Int32} {z99 z100 : Nat → Int64} (hn1 : 1 ≤ n) (hn : n ≤ 3) (hw : w ≤ 3) (hbs : bs = (pls M M 0).length + 1) (hcs : codes = bs ^ n) (hV : VD H M B S) (hB : B ≤ 999) (hT : TR H M K N q x75 x79) (hR : RR S x75 x76 x77 x78) (hfree : x74 38 = -5) (hdr : x74 37 = -1) (h105 : LX (pls M M 0) z105) (hk : KR x74 x75 x76 x77 x78 x112 z74 z75 z76 z77 z78 z112) : ∃ z : T12, fX12_row_77 x79 x92 x93 x94 x95 x96 x97 (nI n) (nI w) (nI (bs - 1)) (nI codes) 100000 0 z74 z75 z76 z77 z78 z101 z105 z106 z107 z112 z99 z100 = some (ansW M n bs w (rb H M K N q S n bs codes), z) ∧ FW x74 x75 x76 x77 x78 x112 z := by
  have hM := hV.1.1
  have hK := hT.2.1
  have l15 := pls_n M (by omega)
  have hb16 : bs ≤ 16 := by omega
  have hb0 : 0 < bs := by omega
  have hc4 := pow16 hb16 n hn
  have hcp : 0 < codes := by rw [hcs]; exact Nat.pow_pos hb0
  unfold fX12_row_77
  refine loop18 (fX12_row_77b x79 x92 x93 x94 x95 x96 x97) (fun m v1 v2 v3 v4 v5 v6 w74 w75 w76 w77 w78 _ w105 _ w107 w112 _ _ => ∃ c, c + m = codes ∧ v1 = nI n ∧ v2 = nI w ∧ v3 = nI (bs - 1) ∧ v4 = nI codes ∧ v5 = nI (rbB (rb H M K N q S n bs c)) ∧ v6 = nI c ∧ KR x74 x75 x76 x77 x78 x112 w74 w75 w76 w77 w78 w112 ∧ z105 = w105 ∧ ∀ x, rb H M K N q S n bs c = some x → ∀ j, j < n → w107 j = oc (ops M bs n x.2 j)) (fun o => ∃ z : T12, o = some (ansW M n bs w (rb H M K N q S n bs codes), z) ∧ FW x74 x75 x76 x77 x78 x112 z) ?_ ?_ codes 5000 _ _ _ _ _ _ _ _ _ _ _ _ _ _ _ _ _ _ (by omega) ⟨0, by omega, rfl, rfl, rfl, rfl, rfl, rfl, hk, rfl, fun x hx => by cases hx⟩
  · rintro k m _ _ _ _ _ _ w74 w75 w76 w77 w78 w101 _ w106 w107 w112 w99 w100 ⟨c, hc, rfl, rfl, rfl, rfl, rfl, rfl, hk', rfl, h107⟩
    have dvs : ∀ k, k < n → bs ^ (n - (k + 1)) = bs ^ (n - k) / bs := fun k hk => by
      rw [show n - k = n - (k + 1) + 1 by omega, Nat.pow_succ, Nat.mul_div_cancel _ hb0]
    obtain ⟨u74, u75, u76, u77, u78, u101, u106, u99, u100, e, hu, h106⟩ := r_places (x105 := z105) (z101 := w101) (z106 := w106) (z99 := w99) (z100 := w100) (n := n) (bs := bs) (code := c) (codes := codes) (os := ops M bs n c) (dv := fun k => bs ^ (n - k)) (dg := dgt bs n c) hn hb0 hb16 (by omega) (by rw [hcs]; rfl) (by omega) (fun k hk => ⟨dvs k hk, Nat.pow_pos hb0, by unfold dgt; rw [show n - 1 - k = n - (k + 1) by omega]⟩) (fun k hk => by have := pow16 hb16 (n - k) (by omega); show bs ^ (n - k) < 5000; omega) (fun _ => opt_V hM) (fun k hk => by
      by_cases d0 : dgt bs n c k = 0
      · exact Or.inl ⟨d0, by unfold ops opt; rw [if_pos d0]⟩
      · refine Or.inr ⟨d0, ?_⟩
        have dl : dgt bs n c k < bs := Nat.mod_lt _ hb0
        unfold ops opt
        rw [if_neg d0]
        exact h105 _ (by omega)) hV hB hT hR hfree hdr hk'
    have p := plc_360 (rw2_V (N := N) (q := q) (n := n) (bs := bs) (c := c) hK hM hV)
    have rl := rbB_lt (N := N) (q := q) (n := n) (bs := bs) (c := c) hK hV
    have e' : fX12_placesByRow x79 x92 x93 x94 x95 x96 x97 z105 (nI n) (nI c) (nI codes) (nI (bs - 1)) w74 w75 w76 w77 w78 w101 w106 w112 w99 w100 = some (if (rw2 H M K N q S n bs c).2 = true then nI (plc (sPl (rw2 H M K N q S n bs c).1) M) else 100000, u74, u75, u76, u77, u78, u101, u106, w112, u99, u100) := e
    by_cases cc : (rw2 H M K N q S n bs c).2 = true ∧ plc (sPl (rw2 H M K N q S n bs c).1) M < rbB (rb H M K N q S n bs c)
    · obtain ⟨y, ey, hy⟩ := p_copies (L := 3) (by omega) (xa := u106) (xb := w107)
      refine Or.inl ⟨nI n, nI w, nI (bs - 1), nI codes, nI (rbB (rb H M K N q S n bs (c + 1))), nI (c + 1), u74, u75, u76, u77, u78, u101, z105, u106, y, w112, u99, u100, ⟨c + 1, by omega, rfl, rfl, rfl, rfl, rfl, rfl, hu, rfl, fun x hx j hj => ?_⟩, ?_⟩
      · rw [rb_s, if_pos cc] at hx
        cases hx
        rw [hy j (by omega)]; exact h106 j hj
      · unfold fX12_row_77b fX12_row_118
        rw [if_neg (nI_ge (show c < codes by omega) (by omega)), e', bd11_s, if_pos cc.1, if_neg (nI_ge cc.2 (by omega)), ey, bd1_s, bn_s, nI_1, rb_s, if_pos cc]
        rfl
    · refine Or.inl ⟨nI n, nI w, nI (bs - 1), nI codes, nI (rbB (rb H M K N q S n bs (c + 1))), nI (c + 1), u74, u75, u76, u77, u78, u101, z105, u106, w107, w112, u99, u100, ⟨c + 1, by omega, rfl, rfl, rfl, rfl, rfl, rfl, hu, rfl, by rw [rb_s, if_neg cc]; exact h107⟩, ?_⟩
      unfold fX12_row_77b fX12_row_118
      rw [if_neg (nI_ge (show c < codes by omega) (by omega)), e', bd11_s, rb_s, if_neg cc]
      by_cases k2 : (rw2 H M K N q S n bs c).2 = true
      · rw [if_pos k2, if_pos (nI_le (Nat.not_lt.mp fun h => cc ⟨k2, h⟩) (by omega)), bn_s, nI_1]
      · rw [if_neg k2, if_pos (show nI _ ≤ (100000 : Int32) from nI_le (b := 100000) rl (by omega)), bn_s, nI_1]
  · rintro k _ _ _ _ _ _ w74 w75 w76 w77 w78 w101 _ w106 w107 w112 w99 w100 ⟨c, hc, rfl, rfl, rfl, rfl, rfl, rfl, hk', rfl, h107⟩
    have ec : c = codes := by omega
    subst ec
    obtain ⟨x, h1, h2, h3⟩ := rb_some (N := N) (q := q) (n := n) (bs := bs) hK hV c hcp
    refine ⟨(w74, w75, w76, w77, w78, w101, z105, w106, w107, w112, w99, w100), ?_, hk'.1, hk'.2.1, hk'.2.2.1, hk'.2.2.2.1, hk'.2.2.2.2.1, hk'.2.2.2.2.2.1⟩
    unfold fX12_row_77b ansW
    rw [if_pos (nI_le (Nat.le_refl _) (by omega))]
    by_cases w0 : w = 0
    · rw [if_pos (by rw [w0]; rfl), if_pos w0]
    · rw [if_neg (ne0 w0 (by omega)), if_neg w0]
      by_cases w1 : n < w
      · rw [if_pos w1, if_pos (nI_lt w1 (by omega))]
      · rw [if_neg w1, if_neg (nI_nlt (by omega) (by omega)), zI1, nsub (by omega), gd_t (inbN (by omega) (by decide)), clN (by omega), h107 x h1 (w - 1) (by omega), h1]
theorem r_rowN {v1 v2 : Int32} (h : fX12_isTown x75 = some (nI 0) ∨ (fX12_isTown x75 = some (nI 1) ∧ (fX12_in v1.toInt64 1 3 = some (nI 0) ∨ (fX12_in v1.toInt64 1 3 = some (nI 1) ∧ fX12_in v2.toInt64 0 3 = some (nI 0))))) : fX12_row x79 x92 x93 x94 x95 x96 x97 v1 v2 x74 x75 x76 x77 x78 x101 x105 x106 x107 x112 y99 y100 = some (-3, x74, x75, x76, x77, x78, x101, x105, x106, x107, x112, y99, y100) := by
  unfold fX12_row fX12_row_0
  rcases h with h | ⟨h, h2 | ⟨h2, h3⟩⟩
  · rw [h, bd1_s, if_pos z00]
  · rw [h, bd1_s, if_neg (show ¬ nI 1 = (0 : Int32) from one_ne), h2, bd1_s, if_pos z00]
  · rw [h, bd1_s, if_neg (show ¬ nI 1 = (0 : Int32) from one_ne), h2, bd1_s, if_neg (show ¬ nI 1 = (0 : Int32) from one_ne), h3, bd1_s, if_pos z00]
theorem r_row {n w : Nat} (hn1 : 1 ≤ n) (hn : n ≤ 3) (hw : w ≤ 3) (hV : VD H M B S) (hB : B ≤ 999) (hT : TR H M K N q x75 x79) (hR : RR S x75 x76 x77 x78) (hfree : x74 38 = -5) (hdr : x74 37 = -1) (d1 : fX12_in (nI n).toInt64 1 3 = some (nI 1)) (d2 : fX12_in (nI w).toInt64 0 3 = some (nI 1)) : ∃ z : T12, fX12_row x79 x92 x93 x94 x95 x96 x97 (nI n) (nI w) x74 x75 x76 x77 x78 x101 x105 x106 x107 x112 y99 y100 = some (ansW M n ((pls M M 0).length + 1) w (rb H M K N q S n ((pls M M 0).length + 1) (((pls M M 0).length + 1) ^ n)), z) ∧ FW x74 x75 x76 x77 x78 x112 z := by
  obtain ⟨hM, hH5, hH, hgr, _⟩ := id hV.1
  have l15 := pls_n M (by omega)
  have tw := p_town1 hT.2.2.1 (by omega) hH
  obtain ⟨z105, e105, h105⟩ := p_twos (x75 := x75) (x105 := x105) hM hT.2.2.2.2.2.1
  unfold fX12_row fX12_row_0
  rw [tw, bd1_s, if_neg (show ¬ nI 1 = (0 : Int32) from one_ne), d1, bd1_s, if_neg (show ¬ nI 1 = (0 : Int32) from one_ne), d2, bd1_s, if_neg (show ¬ nI 1 = (0 : Int32) from one_ne), e105, bd2_s]
  unfold fX12_row_45
  refine loop17 (fX12_row_45b x79 x92 x93 x94 x95 x96 x97) (fun m v1 v2 v3 v4 v5 w74 w75 w76 w77 w78 _ w105 _ _ w112 _ _ => ∃ i, i + m = n ∧ v1 = nI n ∧ v2 = nI w ∧ v3 = nI (pls M M 0).length ∧ v4 = nI (((pls M M 0).length + 1) ^ i) ∧ v5 = nI i ∧ x74 = w74 ∧ x75 = w75 ∧ x76 = w76 ∧ x77 = w77 ∧ x78 = w78 ∧ z105 = w105 ∧ x112 = w112) (fun o => ∃ z : T12, o = some (ansW M n ((pls M M 0).length + 1) w (rb H M K N q S n ((pls M M 0).length + 1) (((pls M M 0).length + 1) ^ n)), z) ∧ FW x74 x75 x76 x77 x78 x112 z) ?_ ?_ n 5000 _ _ _ _ _ _ _ _ _ _ _ _ _ _ _ _ _ (by omega) ⟨0, by omega, rfl, rfl, rfl, rfl, rfl, rfl, rfl, rfl, rfl, rfl, rfl, rfl⟩
  · rintro k m _ _ _ _ _ _ _ _ _ _ w101 _ w106 w107 _ w99 w100 ⟨i, hi, rfl, rfl, rfl, rfl, rfl, rfl, rfl, rfl, rfl, rfl, rfl, rfl⟩
    refine Or.inl ⟨nI n, nI w, nI (pls M M 0).length, nI (((pls M M 0).length + 1) ^ (i + 1)), nI (i + 1), x74, x75, x76, x77, x78, w101, z105, w106, w107, x112, w99, w100, ⟨i + 1, by omega, rfl, rfl, rfl, rfl, rfl, rfl, rfl, rfl, rfl, rfl, rfl, rfl⟩, ?_⟩
    unfold fX12_row_45b
    rw [if_neg (nI_ge (show i < n by omega) (by omega)), bn_s, bn_s, nI_1, nI_1, pk_mul, Nat.pow_succ]
  · rintro k _ _ _ _ _ _ _ _ _ _ w101 _ w106 w107 _ w99 w100 ⟨i, hi, rfl, rfl, rfl, rfl, rfl, rfl, rfl, rfl, rfl, rfl, rfl, rfl⟩
    have ei : i = n := by omega
    subst ei
    obtain ⟨a74, a112, ea, fa, ka, ka2⟩ := p_keepsAll (x74 := x74) (x75 := x75) (x76 := x76) (x77 := x77) (x78 := x78) (x112 := x112)
    have kr : KR x74 x75 x76 x77 x78 x112 a74 x75 x76 x77 x78 a112 := ⟨fun j _ h6 h7 => fa j h6 h7, fun _ _ => rfl, fun _ _ => rfl, fun _ _ => rfl, fun _ _ => rfl, ka2, ka⟩
    have key := r_row77 (x92 := x92) (x93 := x93) (x94 := x94) (x95 := x95) (x96 := x96) (x97 := x97) (z101 := w101) (z106 := w106) (z107 := w107) (z99 := w99) (z100 := w100) hn1 hn hw rfl rfl hV hB hT hR hfree hdr h105 kr
    have e2 : fX12_row_45b x79 x92 x93 x94 x95 x96 x97 k (nI i) (nI w) (nI (pls M M 0).length) (nI (((pls M M 0).length + 1) ^ i)) (nI i) x74 x75 x76 x77 x78 w101 z105 w106 w107 x112 w99 w100 = fX12_row_77 x79 x92 x93 x94 x95 x96 x97 (nI i) (nI w) (nI (pls M M 0).length) (nI (((pls M M 0).length + 1) ^ i)) 100000 0 a74 x75 x76 x77 x78 w101 z105 w106 w107 a112 w99 w100 := by
      unfold fX12_row_45b
      rw [if_pos (nI_le (Nat.le_refl _) (by omega)), ea, bd6_s]
    rw [e2]
    exact key
end ROW3

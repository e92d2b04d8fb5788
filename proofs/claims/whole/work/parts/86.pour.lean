section POUR
variable {H M K N B : Nat} {q : Nat → Nat} {S : SN} {P : Nat → SN} {x17 x18 x23 x24 x25 x26 x74 x75 x76 x77 x78 x79 x102 : Nat → Int32}
/-- whether one may pour between two -/
def cp (H : Nat) (S : SN) (a b : Nat) : Prop := sHd S a b = 0 ∧ sPl S a ≠ H ∧ sPl S b ≠ H ∧ (sPl S a - sPl S b) + (sPl S b - sPl S a) ≤ 3
theorem p_canPour {a b : Nat} (hV : VD H M B S) (ha : a < 6) (hb : b < 6) (h0 : x17 0 = nI H) (r0 : x75 0 = nI H) (hR : RC S x23 x24 x25 x26) (hRR : RR S x75 x76 x77 x78) : (cp H S a b ∧ fX11_canPour x17 x24 x26 (nI a) (nI b) = some (nI 1) ∧ fX12_canPour x75 x76 x78 (nI a) (nI b) = some (nI 1)) ∨ (¬ cp H S a b ∧ fX11_canPour x17 x24 x26 (nI a) (nI b) = some (nI 0) ∧ fX12_canPour x75 x76 x78 (nI a) (nI b) = some (nI 0)) := by
  obtain ⟨hM, hH5, hH, hgr, hr0, hf9, hf0, hfr⟩ := id hV.1
  have ga := (hgr a ha).1
  have gb := (hgr b hb).1
  have f9 := (hf9 a b ha hb).1
  obtain ⟨ab1, ab2⟩ := absC (sPl S a) (by omega) (sPl S b) (by omega)
  have ra := p_inRiver (x75 := x75) r0 hH (RC_p hRR) ha (by omega)
  have rb := p_inRiver (x75 := x75) r0 hH (RC_p hRR) hb (by omega)
  have c11 : fX11_canPour x17 x24 x26 (nI a) (nI b) = if sHd S a b = 0 then (if H ≤ sPl S a then some (nI 0) else (if H ≤ sPl S b then some (nI 0) else (if 3 < (sPl S a - sPl S b) + (sPl S b - sPl S a) then some (nI 0) else some (nI 1)))) else some (nI 0) := by
    unfold fX11_canPour fX11_canPour_0 fX11_canPour_86
    rw [gd_t (in6 ha), bn_s, gd_t (in6 hb), bn_s, cl6 ha, cl6 hb, RC_p hR a ha, RC_p hR b hb, p_hardOf (RC_h hR) ha hb, bd1_s, h0, ab1]
    by_cases k1 : sHd S a b = 0
    · rw [if_pos k1, if_pos (by rw [k1]; rfl)]
      by_cases k2 : H ≤ sPl S a
      · rw [if_pos k2, if_pos (nI_le k2 (by omega))]; rfl
      · rw [if_neg k2, if_neg (nI_ge (by omega) (by omega))]
        by_cases k3 : H ≤ sPl S b
        · rw [if_pos k3, if_pos (nI_le k3 (by omega))]; rfl
        · rw [if_neg k3, if_neg (nI_ge (by omega) (by omega))]
          by_cases k4 : 3 < (sPl S a - sPl S b) + (sPl S b - sPl S a)
          · rw [if_pos k4, if_pos (show (3 : Int32) < _ from nI_lt (a := 3) k4 (by omega))]; rfl
          · rw [if_neg k4, if_neg (show ¬ (3 : Int32) < _ from nI_nlt (a := 3) (by omega) (by omega))]; rfl
    · rw [if_neg k1, if_neg (ne0 k1 (by omega))]; rfl
  have c12 : fX12_canPour x75 x76 x78 (nI a) (nI b) = if sHd S a b = 0 then (if sPl S a = H then some (nI 0) else (if sPl S b = H then some (nI 0) else (if 3 < (sPl S a - sPl S b) + (sPl S b - sPl S a) then some (nI 0) else some (nI 1)))) else some (nI 0) := by
    unfold fX12_canPour fX12_canPour_0 fX12_canPour_53
    rw [ixR, gd_t (inbH ha hb), clH ha hb, RC_h hRR a b ha hb]
    by_cases k1 : sHd S a b = 0
    · rw [if_pos k1, if_pos (by rw [k1]; rfl), ra, bd1_s]
      by_cases k2 : sPl S a = H
      · rw [if_pos k2, if_pos k2, if_neg (show ¬ nI 1 = (0 : Int32) from one_ne)]; rfl
      · rw [if_neg k2, if_neg k2, if_pos z00, rb, bd1_s]
        by_cases k3 : sPl S b = H
        · rw [if_pos k3, if_pos k3, if_neg (show ¬ nI 1 = (0 : Int32) from one_ne)]; rfl
        · rw [if_neg k3, if_neg k3, if_pos z00, gd_t (in6 ha), gd_t (in6 hb), cl6 ha, cl6 hb, RC_p hRR a ha, RC_p hRR b hb, ab2, bd1_s]
          by_cases k4 : 3 < (sPl S a - sPl S b) + (sPl S b - sPl S a)
          · rw [if_pos k4, if_pos (show (3 : Int32) < _ from nI_lt (a := 3) k4 (by omega))]; rfl
          · rw [if_neg k4, if_neg (show ¬ (3 : Int32) < _ from nI_nlt (a := 3) (by omega) (by omega))]; rfl
    · rw [if_neg k1, if_neg (ne0 k1 (by omega))]; rfl
  rw [c11, c12]
  unfold cp
  by_cases k1 : sHd S a b = 0
  · rw [if_pos k1, if_pos k1]
    by_cases k2 : sPl S a = H
    · rw [if_pos k2, if_pos (by omega)]; exact Or.inr ⟨fun h => h.2.1 k2, rfl, rfl⟩
    · rw [if_neg k2, if_neg (by omega)]
      by_cases k3 : sPl S b = H
      · rw [if_pos k3, if_pos (by omega)]; exact Or.inr ⟨fun h => h.2.2.1 k3, rfl, rfl⟩
      · rw [if_neg k3, if_neg (by omega)]
        by_cases k4 : 3 < (sPl S a - sPl S b) + (sPl S b - sPl S a)
        · rw [if_pos k4]; exact Or.inr ⟨fun h => by have := h.2.2.2; omega, rfl, rfl⟩
        · rw [if_neg k4]; exact Or.inl ⟨⟨k1, k2, k3, by omega⟩, rfl, rfl⟩
  · rw [if_neg k1, if_neg k1]; exact Or.inr ⟨fun h => k1 h.1, rfl, rfl⟩
theorem r_pourN {v1 v2 v3 : Int32} (h : fX12_areTwo x75 v1 v2 = some (nI 0) ∨ (fX12_areTwo x75 v1 v2 = some (nI 1) ∧ (fX12_in v3.toInt64 1 9 = some (nI 0) ∨ (fX12_in v3.toInt64 1 9 = some (nI 1) ∧ (fX12_canPour x75 x76 x78 v1 v2 = some (nI 0) ∨ (fX12_canPour x75 x76 x78 v1 v2 = some (nI 1) ∧ ¬ v3 ≤ x75 6)))))) : fX12_pour v1 v2 v3 x74 x75 x76 x77 x78 x102 = some (-1, x74, x75, x76, x77, x78, x102) := by
  unfold fX12_pour fX12_pour_0
  rcases h with h | ⟨h, h2 | ⟨h2, h3 | ⟨h3, h4⟩⟩⟩
  · rw [h, bd1_s, if_pos z00]
  · rw [h, bd1_s, if_neg (show ¬ nI 1 = (0 : Int32) from one_ne), h2, bd1_s, if_pos z00]
  · rw [h, bd1_s, if_neg (show ¬ nI 1 = (0 : Int32) from one_ne), h2, bd1_s, if_neg (show ¬ nI 1 = (0 : Int32) from one_ne), h3, bd1_s, if_pos z00]
  · rw [h, bd1_s, if_neg (show ¬ nI 1 = (0 : Int32) from one_ne), h2, bd1_s, if_neg (show ¬ nI 1 = (0 : Int32) from one_ne), h3, bd1_s, if_neg (show ¬ nI 1 = (0 : Int32) from one_ne), gd_t i6, n6', if_neg h4]
theorem r_pourY {a b v c : Nat} (ha : a < 6) (hb : b < 6) (hc : c ≤ 20) (hv : v ≤ S 1) (h : fX12_areTwo x75 (nI a) (nI b) = some (nI 1)) (h2 : fX12_in (nI v).toInt64 1 9 = some (nI 1)) (h3 : fX12_canPour x75 x76 x78 (nI a) (nI b) = some (nI 1)) (h9 : S 1 ≤ 99) (h43 : x74 43 = nI c) (hR : RR S x75 x76 x77 x78) (hP : PR P c x102) : ∃ z74 z75 z76 z77 z78 z102, fX12_pour (nI a) (nI b) (nI v) x74 x75 x76 x77 x78 x102 = some (nI (S 1 - v), z74, z75, z76, z77, z78, z102) ∧ AO (pP P c S) c (sU (sJ S a b v) 1 (S 1 - v)) x74 x75 z74 z75 z76 z77 z78 z102 := by
  obtain ⟨z74, z75, z76, z77, z78, z102, e, f, f43, g5, g6, g7, g8, hp⟩ := p_keepsAct hc h43 hR hP
  have hR' := RR_ext hR g5 g6 g7 g8
  obtain ⟨y, ey, hy⟩ := p_joins (RC_h hR') ha hb v
  have s6 : x75 6 = nI (S 1) := hR.1 1 (by omega)
  have s6' : z75 6 = nI (S 1) := hR'.1 1 (by omega)
  refine ⟨z74, upd z75 6 (nI (S 1 - v)), z76, z77, y, z102, ?_, f, f43, RR_sS (RC_sJ hR' ha hb hy), fun j hj => by rw [pk_un (by omega)]; exact g5 j, hp⟩
  unfold fX12_pour fX12_pour_0
  rw [h, bd1_s, if_neg (show ¬ nI 1 = (0 : Int32) from one_ne), h2, bd1_s, if_neg (show ¬ nI 1 = (0 : Int32) from one_ne), h3, bd1_s, if_neg (show ¬ nI 1 = (0 : Int32) from one_ne), gd_t i6, n6', s6, if_pos (nI_le hv (by omega)), e, bd6_s, ey, bd1_s, gd_t i6, gd_t i6, gd_t i6, s6', nsub hv, pk_us]
theorem r_rockN {v1 v2 : Int32} (h : fX12_isHouse x75 v1 = some (nI 0)) : fX12_rock v1 v2 x74 x75 x76 x77 x78 x102 = some (-1, x74, x75, x76, x77, x78, x102) := by
  unfold fX12_rock fX12_rock_0
  rw [h, bd1_s, if_pos z00]
theorem e_rock1 {h : Nat} (hV : VD H M B S) (hh : h < 6) (h0 : x17 0 = nI H) (r0 : x75 0 = nI H) (hu : fX12_isHouse x75 (nI h) = some (nI 1)) (hR : RC S x23 x24 x25 x26) (hRR : RR S x75 x76 x77 x78) (v2 : Int32) : (¬ x24 h < x17 0 ∧ fX12_rock (nI h) v2 x74 x75 x76 x77 x78 x102 = some (-1, x74, x75, x76, x77, x78, x102)) ∨ (x24 h < x17 0 ∧ fX11_isWithin v2 (x25 h + 1) 9 = some (nI 0) ∧ fX12_rock (nI h) v2 x74 x75 x76 x77 x78 x102 = some (-1, x74, x75, x76, x77, x78, x102)) ∨ (x24 h < x17 0 ∧ ∃ v, v2 = nI v ∧ sRk S h < v ∧ v ≤ 9 ∧ sPl S h ≠ H ∧ fX11_isWithin v2 (x25 h + 1) 9 = some (nI 1) ∧ ((¬ v2 - x25 h ≤ x23 1 ∧ fX12_rock (nI h) v2 x74 x75 x76 x77 x78 x102 = some (-1, x74, x75, x76, x77, x78, x102)) ∨ (v2 - x25 h ≤ x23 1 ∧ v - sRk S h ≤ S 1 ∧ ∀ {P : Nat → SN} {c : Nat}, c ≤ 20 → x74 43 = nI c → PR P c x102 → ∃ z74 z75 z76 z77 z78 z102, fX12_rock (nI h) v2 x74 x75 x76 x77 x78 x102 = some (nI (S 1 - (v - sRk S h)), z74, z75, z76, z77, z78, z102) ∧ AO (pP P c S) c (sU (sU S (9 + h) v) 1 (S 1 - (v - sRk S h))) x74 x75 z74 z75 z76 z77 z78 z102))) := by
  obtain ⟨hM, hH5, hH, hgr, hr0, hf9, hf0, hfr⟩ := id hV.1
  have gh := hgr h hh
  have s9 : S 1 ≤ 99 := hV.2.2.2.2.1
  have rh := p_inRiver (x75 := x75) r0 hH (RC_p hRR) hh (by omega)
  have s6 : x75 6 = nI (S 1) := hRR.1 1 (by omega)
  rw [RC_p hR h hh, RC_r hR h hh, h0, show x23 1 = nI (S 1) from hR.1 1 (by omega)]
  unfold fX12_rock fX12_rock_0
  rw [hu, bd1_s, if_neg (show ¬ nI 1 = (0 : Int32) from one_ne), rh, bd1_s]
  by_cases k1 : sPl S h = H
  · refine Or.inl ⟨nI_nlt (by omega) (by omega), ?_⟩
    rw [if_pos k1, if_neg (show ¬ nI 1 = (0 : Int32) from one_ne)]
  · refine Or.inr ?_
    have lt := nI_lt (a := sPl S h) (b := H) (by omega) (by omega)
    rw [if_neg k1, if_pos z00, gd_t (in6 hh), cl6 hh, RC_r hRR h hh, nI_1, nI_l (by omega)]
    by_cases k9 : sRk S h = 9
    · refine Or.inl ⟨lt, ?_, ?_⟩
      · rw [p_isWithin, k9]
        by_cases c : v2 < nI (9 + 1)
        · rw [if_pos c]; rfl
        · rw [if_neg c, if_pos (show (9 : Int32) < v2 from Int32.lt_of_lt_of_le (show (9 : Int32) < nI (9 + 1) by decide) (Int32.not_lt.mp c))]; rfl
      · have e : fX12_in v2.toInt64 (lN (sRk S h + 1)) 9 = some (nI 0) := by
          rw [k9]
          unfold fX12_in fX12_in_0 fX12_in_17
          by_cases c : lg_cmp v2.toInt64 (lN (9 + 1)) < 0
          · rw [if_pos c]; rfl
          · rw [if_neg c, if_pos]
            · rfl
            · rw [lg_cmp_gt]
              have c' : ¬ v2.toInt64 < lN (9 + 1) := fun h => c ((lg_cmp_lt _ _).mpr h)
              rw [Int64.lt_iff_toInt_lt] at c' ⊢
              rw [show (9 : Int64).toInt = 9 from rfl]
              rw [show (lN (9 + 1)).toInt = 10 from rfl] at c'
              omega
        rw [e, bd1_s, if_pos z00]
    · rcases p_within (lo := sRk S h + 1) (hi := 9) (by omega) (by omega) v2 with ⟨v, w1, w2, rfl, c2, d2⟩ | ⟨c2, d2⟩
      · refine Or.inr ⟨lt, v, rfl, by omega, w2, k1, c2, ?_⟩
        rw [show fX12_in (nI v).toInt64 (lN (sRk S h + 1)) 9 = _ from d2, bd1_s, if_neg (show ¬ nI 1 = (0 : Int32) from one_ne), gd_t i6, gd_t (in6 hh), n6', s6, nsub (show sRk S h ≤ v by omega)]
        by_cases k2 : v - sRk S h ≤ S 1
        · refine Or.inr ⟨nI_le k2 (by omega), k2, fun {P c} hc h43 hP => ?_⟩
          obtain ⟨z74, z75, z76, z77, z78, z102, e, f, f43, g5, g6, g7, g8, hp⟩ := p_keepsAct hc h43 hRR hP
          have hR' := RR_ext hRR g5 g6 g7 g8
          have s6' : z75 6 = nI (S 1) := hR'.1 1 (by omega)
          refine ⟨z74, upd z75 6 (nI (S 1 - (v - sRk S h))), z76, upd z77 h (nI v), z78, z102, ?_, f, f43, RR_sS (RC_sR hR' hh), fun j hj => by rw [pk_un (by omega)]; exact g5 j, hp⟩
          rw [if_pos (nI_le k2 (by omega)), e, bd6_s, gd_t i6, gd_t (in6 hh), gd_t i6, gd_t (in6 hh), gd_t i6, RC_r hR' h hh, s6', nsub (show sRk S h ≤ v by omega), nsub k2, pk_us]
        · exact Or.inl ⟨nI_ge (by omega) (by omega), by rw [if_neg (nI_ge (by omega) (by omega))]⟩
      · refine Or.inl ⟨lt, c2, ?_⟩
        rw [show fX12_in v2.toInt64 (lN (sRk S h + 1)) 9 = _ from d2, bd1_s, if_pos z00]
end POUR

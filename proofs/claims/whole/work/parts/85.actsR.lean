/-- a standing with one pour changed -/
def sJ (S : SN) (a b v : Nat) : SN := fun j => if j = 15 + 6 * a + b ∨ j = 15 + 6 * b + a then v else S j
theorem sJ_n {S : SN} {a b v j : Nat} (h : j < 15) : sJ S a b v j = S j := if_neg (by omega)
theorem sJ_h {S : SN} {a b v c d : Nat} (ha : a < 6) (hb : b < 6) (hd : d < 6) : sHd (sJ S a b v) c d = setF (sHd S) a b v c d := by
  unfold sHd sJ setF
  by_cases h : (c = a ∧ d = b) ∨ (c = b ∧ d = a)
  · rw [if_pos h, if_pos (by rcases h with ⟨rfl, rfl⟩ | ⟨rfl, rfl⟩ <;> omega)]
  · rw [if_neg h, if_neg (by omega)]
section ACT
variable {H M K N B : Nat} {q : Nat → Nat} {S : SN} {P : Nat → SN} {W : WW} {x74 x75 x76 x77 x78 x79 x92 x93 x94 x95 x96 x97 x101 x102 : Nat → Int32} {y99 y100 : Nat → Int64}
theorem RC_sJ {x0 x1 x2 x3 y3 : Nat → Int32} {a b v : Nat} (hR : RC S x0 x1 x2 x3) (ha : a < 6) (hb : b < 6) (hy : RH y3 (setF (sHd S) a b v)) : RC (sJ S a b v) x0 x1 x2 y3 := by
  refine ⟨fun j hj => ?_, fun j hj => ?_, fun j hj => ?_, fun j hj => ?_⟩
  · rw [sJ_n (by omega)]; exact hR.1 j hj
  · rw [sJ_n (by omega)]; exact hR.2.1 j hj
  · rw [sJ_n (by omega)]; exact hR.2.2.1 j hj
  · have e := hy (j / 6) (j % 6) (by omega) (by omega)
    rw [show 6 * (j / 6) + j % 6 = j by omega, ← sJ_h ha hb (by omega)] at e
    rw [e]
    unfold sHd
    rw [show 15 + 6 * (j / 6) + j % 6 = 15 + j by omega]
theorem RC_sS {x0 x1 x2 x3 : Nat → Int32} {k : Nat} (hR : RC S x0 x1 x2 x3) : RC (sU S 1 k) (upd x0 1 (nI k)) x1 x2 x3 := by
  refine ⟨fun j hj => ?_, fun j hj => ?_, fun j hj => ?_, fun j hj => ?_⟩
  · by_cases c : j = 1
    · subst c; rw [pk_us, sU_s]
    · rw [pk_un c, sU_n c]; exact hR.1 j hj
  · rw [sU_n (by omega)]; exact hR.2.1 j hj
  · rw [sU_n (by omega)]; exact hR.2.2.1 j hj
  · rw [sU_n (by omega)]; exact hR.2.2.2 j hj
theorem RR_sS {k : Nat} (hR : RR S x75 x76 x77 x78) : RR (sU S 1 k) (upd x75 6 (nI k)) x76 x77 x78 := by
  refine ⟨fun j hj => ?_, fun j hj => ?_, fun j hj => ?_, fun j hj => ?_⟩
  · show upd x75 6 (nI k) (5 + j) = _
    by_cases c : j = 1
    · subst c; rw [sU_s]; rfl
    · rw [pk_un (by omega), sU_n c]; exact hR.1 j hj
  · rw [sU_n (by omega)]; exact hR.2.1 j hj
  · rw [sU_n (by omega)]; exact hR.2.2.1 j hj
  · rw [sU_n (by omega)]; exact hR.2.2.2 j hj
theorem VD_sS {k : Nat} (hV : VD H M B S) (hk : k ≤ 99) : VD H M B (sU S 1 k) := by
  obtain ⟨v, v1, v2, v3, v4, v5⟩ := hV
  exact ⟨VG_congr v (fun h _ => sU_n (by omega)) (fun h _ => sU_n (by omega)) (fun a b _ _ => sU_n (by omega)), fun h hh hm => (sU_n (by omega)).trans (v1 h hh hm), fun a ha => (sU_n (by omega)).trans (v2 a ha), v3, hk, v5⟩
theorem VD_sJ {a b v : Nat} (hV : VD H M B S) (ha : a < M) (hb : b < M) (hab : a ≠ b) (hv : v ≤ 9) (hr : v = 0 ∨ (sPl S a ≠ H ∧ sPl S b ≠ H)) : VD H M B (sJ S a b v) := by
  obtain ⟨w, v1, v2, v3, v4, v5⟩ := hV
  obtain ⟨w1, w2, w3, w4, w5, w6, w7, w8⟩ := id w
  have g : VG H M (sPl S) (sRk S) (setF (sHd S) a b v) := by
    refine ⟨w1, w2, w3, w4, w5, fun x y hx hy => ?_, fun x y hx hy q => ?_, fun x y hx hy q => ?_⟩
    · have := w6 x y hx hy
      simp only [setF]
      (repeat' split) <;> omega
    · have := w7 x y hx hy q
      simp only [setF]
      split
      · omega
      · exact this
    · have := w8 x y hx hy q
      simp only [setF]
      split
      · rename_i e
        rcases hr with h0 | ⟨h1, h2⟩
        · exact h0
        · rcases e with e | e
          · rw [e.1] at q; exact absurd q h1
          · rw [e.1] at q; exact absurd q h2
      · exact this
  refine ⟨VG_congr g (fun h _ => sJ_n (by omega)) (fun h _ => sJ_n (by omega)) (fun x y hx hy => sJ_h (by omega) (by omega) hy), fun h hh hm => (sJ_n (by omega)).trans (v1 h hh hm), fun x hx => ?_, by rw [sJ_n (by omega)]; exact v3, by rw [sJ_n (by omega)]; exact v4, by rw [sJ_n (by omega)]; exact v5⟩
  rw [sJ_h (by omega) (by omega) hx]
  have := v2 x hx
  simp only [setF]
  split <;> omega
/-- what an act leaves: the standing, the past, all else -/
def AO (P : Nat → SN) (c : Nat) (S' : SN) (x74 x75 : Nat → Int32) (z74 z75 z76 z77 z78 z102 : Nat → Int32) : Prop := fp74 x74 z74 ∧ z74 43 = nI (pN c) ∧ RR S' z75 z76 z77 z78 ∧ (∀ j, j < 5 ∨ 8 ≤ j → z75 j = x75 j) ∧ PR P (pN c) z102
theorem RR_ext {z75 z76 z77 z78 : Nat → Int32} (hR : RR S x75 x76 x77 x78) (h5 : ∀ j, z75 j = x75 j) (h6 : ∀ j, z76 j = x76 j) (h7 : ∀ j, z77 j = x77 j) (h8 : ∀ j, z78 j = x78 j) : RR S z75 z76 z77 z78 := ⟨fun j hj => (h5 _).trans (hR.1 j hj), fun j hj => (h6 _).trans (hR.2.1 j hj), fun j hj => (h7 _).trans (hR.2.2.1 j hj), fun j hj => (h8 _).trans (hR.2.2.2 j hj)⟩
theorem r_crackN {v1 v2 : Int32} (h : fX12_areTwo x75 v1 v2 = some (nI 0)) : fX12_crack v1 v2 x74 x75 x76 x77 x78 x102 = some (-1, x74, x75, x76, x77, x78, x102) := by
  unfold fX12_crack fX12_crack_0
  rw [h, bd1_s, if_pos z00]
theorem r_crackZ {a b : Nat} (ha : a < 6) (hb : b < 6) (h : fX12_areTwo x75 (nI a) (nI b) = some (nI 1)) (hR : RR S x75 x76 x77 x78) (h0 : sHd S a b = 0) : fX12_crack (nI a) (nI b) x74 x75 x76 x77 x78 x102 = some (-1, x74, x75, x76, x77, x78, x102) := by
  unfold fX12_crack fX12_crack_0
  rw [h, bd1_s, if_neg (show ¬ nI 1 = (0 : Int32) from one_ne), ixR, gd_t (inbH ha hb), clH ha hb, RC_h hR a b ha hb, h0, if_pos z00]
theorem r_crackY {a b c : Nat} (ha : a < 6) (hb : b < 6) (hc : c ≤ 20) (h : fX12_areTwo x75 (nI a) (nI b) = some (nI 1)) (h43 : x74 43 = nI c) (hR : RR S x75 x76 x77 x78) (hP : PR P c x102) (h9 : sHd S a b ≤ 9) (h0 : sHd S a b ≠ 0) : ∃ z74 z75 z76 z77 z78 z102, fX12_crack (nI a) (nI b) x74 x75 x76 x77 x78 x102 = some (nI (sHd S a b), z74, z75, z76, z77, z78, z102) ∧ AO (pP P c S) c (sJ S a b 0) x74 x75 z74 z75 z76 z77 z78 z102 := by
  obtain ⟨z74, z75, z76, z77, z78, z102, e, f, f43, g5, g6, g7, g8, hp⟩ := p_keepsAct hc h43 hR hP
  have hR' := RR_ext hR g5 g6 g7 g8
  obtain ⟨y, ey, hy⟩ := p_joins (RC_h hR') ha hb 0
  refine ⟨z74, z75, z76, z77, y, z102, ?_, f, f43, RC_sJ hR' ha hb hy, fun j _ => g5 j, hp⟩
  unfold fX12_crack fX12_crack_0
  rw [h, bd1_s, if_neg (show ¬ nI 1 = (0 : Int32) from one_ne), ixR, gd_t (inbH ha hb), clH ha hb, RC_h hR a b ha hb, if_neg (ne0 h0 (by omega)), e, bd6_s, gd_t (inbH ha hb), bn_s, RC_h hR' a b ha hb, show (0 : Int32) = nI 0 from rfl, ey, bd1_s]
theorem r_iceN {v1 : Int32} (ht : fX12_isTown x75 = some (nI 0) ∨ (fX12_isTown x75 = some (nI 1) ∧ fX12_in v1.toInt64 1 9 = some (nI 0))) : fX12_ice v1 x74 x75 x76 x77 x78 x102 = some (-1, x74, x75, x76, x77, x78, x102) := by
  unfold fX12_ice fX12_ice_0
  rcases ht with h | ⟨h, h2⟩
  · rw [h, bd1_s, if_pos z00]
  · rw [h, bd1_s, if_neg (show ¬ nI 1 = (0 : Int32) from one_ne), h2, bd1_s, if_pos z00]
theorem r_iceY {n c : Nat} (hc : c ≤ 20) (ht : fX12_isTown x75 = some (nI 1)) (hi : fX12_in (nI n).toInt64 1 9 = some (nI 1)) (h43 : x74 43 = nI c) (hR : RR S x75 x76 x77 x78) (hP : PR P c x102) : ∃ z74 z75 z76 z77 z78 z102, fX12_ice (nI n) x74 x75 x76 x77 x78 x102 = some (nI (S 2), z74, z75, z76, z77, z78, z102) ∧ AO (pP P c S) c (sU S 2 n) x74 x75 z74 z75 z76 z77 z78 z102 := by
  obtain ⟨z74, z75, z76, z77, z78, z102, e, f, f43, g5, g6, g7, g8, hp⟩ := p_keepsAct hc h43 hR hP
  have hR' := RR_ext hR g5 g6 g7 g8
  refine ⟨z74, upd z75 7 (nI n), z76, z77, z78, z102, ?_, f, f43, RR_sI hR', fun j hj => by rw [pk_un (by omega)]; exact g5 j, hp⟩
  unfold fX12_ice fX12_ice_0
  rw [ht, bd1_s, if_neg (show ¬ nI 1 = (0 : Int32) from one_ne), hi, bd1_s, if_neg (show ¬ nI 1 = (0 : Int32) from one_ne), e, bd6_s, gd_t i7, bn_s, gd_t i7, n7', show z75 7 = nI (S 2) from hR'.1 2 (by omega)]
theorem r_dayN (ht : fX12_isTown x75 = some (nI 0) ∨ (fX12_isTown x75 = some (nI 1) ∧ x75 5 = 999)) : fX12_day x79 x92 x93 x94 x95 x96 x97 x74 x75 x76 x77 x78 x101 x102 y99 y100 = some (-1, x74, x75, x76, x77, x78, x101, x102, y99, y100) := by
  unfold fX12_day fX12_day_0
  rcases ht with h | ⟨h, h2⟩
  · rw [h, bd1_s, if_pos z00]
  · rw [h, bd1_s, if_neg (show ¬ nI 1 = (0 : Int32) from one_ne), gd_t i5, n5', if_pos h2]
theorem r_dayY {c : Nat} (hc : c ≤ 20) (ht : fX12_isTown x75 = some (nI 1)) (hV : VD H M 999 S) (h9 : S 0 < 999) (hT : TR H M K N q x75 x79) (hfree : x74 38 = -5) (hdr : x74 37 = -1) (hR : RR S x75 x76 x77 x78) (hW : RW (x75 10) x92 x93 x94 x95 x96 x97 W) (h43 : x74 43 = nI c) (hP : PR P c x102) : ∃ z74 z75 z76 z77 z78 z101 z102 z99 z100, fX12_day x79 x92 x93 x94 x95 x96 x97 x74 x75 x76 x77 x78 x101 x102 y99 y100 = some (nI (gon H M N q W (hS N q S) S), z74, z75, z76, z77, z78, z101, z102, z99, z100) ∧ AO (pP P c S) c (stp H M K N q W (hS N q S) S) x74 x75 z74 z75 z76 z77 z78 z102 := by
  obtain ⟨z74, z75, z76, z77, z78, z102, e, f, f43, g5, g6, g7, g8, hp⟩ := p_keepsAct hc h43 hR hP
  have hR' := RR_ext hR g5 g6 g7 g8
  obtain ⟨w75, w76, w77, w78, w101, w99, w100, eg, hr, hf⟩ := p_goes (x74 := z74) (x75 := z75) (x101 := x101) (y99 := y99) (y100 := y100) (W := W) (t := hS N q S) hV (by omega) (TR_fr hT fun j _ => g5 j) ((f 38 (by omega) (by omega) (by omega)).trans hfree) (Or.inr ⟨(f 37 (by omega) (by omega) (by omega)).trans hdr, rfl⟩) hR' (by rw [g5]; exact hW)
  refine ⟨z74, w75, w76, w77, w78, w101, z102, w99, w100, ?_, f, f43, hr, fun j hj => (hf j hj).trans (g5 j), hp⟩
  unfold fX12_day fX12_day_0
  rw [ht, bd1_s, if_neg (show ¬ nI 1 = (0 : Int32) from one_ne), gd_t i5, n5', if_neg (show ¬ x75 5 = 999 from fun h => by
    have h5 : x75 5 = nI (S 0) := hR.1 0 (by omega)
    have := (nI_eq (a := S 0) (b := 999) (by omega) (by omega)).mp (h5.symm.trans h)
    omega), e, bd6_s, eg, bd9_s]
end ACT

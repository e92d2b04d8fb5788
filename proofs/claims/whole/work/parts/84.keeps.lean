section KEEPS
variable {x74 x75 x76 x77 x78 x102 : Nat → Int32} {S : SN} {P : Nat → SN}
/-- the past's rows in the reference -/
def PR (P : Nat → SN) (c : Nat) (x102 : Nat → Int32) : Prop := ∀ k, k < c → ∀ j, j < 51 → x102 (51 * k + j) = nI (P k j)
theorem p_loadAll {c : Nat} (hc : c < 20) (hP : ∀ j, j < 51 → x102 (51 * c + j) = nI (S j)) : ∃ z74 z75 z76 z77 z78 z102, fX12_movesAll (nI c) 1 x74 x75 x76 x77 x78 x102 = some (z74, z75, z76, z77, z78, z102) ∧ fp74 x74 z74 ∧ z74 43 = x74 43 ∧ RR S z75 z76 z77 z78 ∧ (∀ j, j < 5 ∨ 8 ≤ j → z75 j = x75 j) ∧ ∀ j, z102 j = x102 j := by
  have e0 : (51 : Int32) * nI c = nI (51 * c) := by rw [show (51 : Int32) = nI 51 from rfl, pk_mul]
  obtain ⟨z75, b0, c0, e00, f0, ff0, g0, h0, k0⟩ := p_moves3L (x74 := upd (upd x74 44 (nI (51 * c))) 45 1) (x75 := x75) (x76 := x76) (x77 := x77) (x78 := x78) (x102 := x102) (p := 51 * c) (by omega) one_ne rfl
  obtain ⟨a1, b1, c1, e1, f1, g1, h1, k1⟩ := p_movesL (L := 6) (p := 51 * c + 3) (xa := x76) (x74 := b0) (x102 := c0) (by omega) (by omega) (by rw [h0 45 (by omega)]; exact one_ne) g0
  obtain ⟨a2, b2, c2, e2, f2, g2, h2, k2⟩ := p_movesL (L := 6) (p := 51 * c + 9) (xa := x77) (x74 := b1) (x102 := c1) (by omega) (by omega) (by rw [h1 45 (by omega), h0 45 (by omega)]; exact one_ne) g1
  obtain ⟨a3, b3, c3, e3, f3, g3, h3, k3⟩ := p_movesL (L := 36) (p := 51 * c + 15) (xa := x78) (x74 := b2) (x102 := c2) (by omega) (by omega) (by rw [h2 45 (by omega), h1 45 (by omega), h0 45 (by omega)]; exact one_ne) g2
  refine ⟨b3, z75, a1, a2, a3, c3, ?_, fun j j1 j2 j3 => ?_, ?_, ⟨fun j hj => ?_, fun j hj => ?_, fun j hj => ?_, fun j hj => ?_⟩, ff0, fun j => ?_⟩
  · unfold fX12_movesAll fX12_movesAll_0
    rw [gd_t (by decide), e0, e00, e1, bd3_s, e2, bd3_s, e3, bd3_s]
  · rw [h3 j j2, h2 j j2, h1 j j2, h0 j j2, pk_un j3, pk_un j2]
  · rw [h3 43 (by omega), h2 43 (by omega), h1 43 (by omega), h0 43 (by omega)]; rfl
  · exact (f0 j hj).trans (hP j (by omega))
  · rw [f1 j hj, k0, show 51 * c + 3 + j = 51 * c + (3 + j) by omega, hP (3 + j) (by omega)]
  · rw [f2 j hj, k1, k0, show 51 * c + 9 + j = 51 * c + (9 + j) by omega, hP (9 + j) (by omega)]
  · rw [f3 j hj, k2, k1, k0, show 51 * c + 15 + j = 51 * c + (15 + j) by omega, hP (15 + j) (by omega)]
  · rw [k3, k2, k1, k0]
/-- the past behind an act -/
def pP (P : Nat → SN) (c : Nat) (S : SN) : Nat → SN := if c = 20 then fun k => if k = 19 then S else P (k + 1) else fun k => if k = c then S else P k
def pN (c : Nat) : Nat := if c = 20 then 20 else c + 1
theorem p_keeps50 {c : Nat} (hc : c < 20) (h43 : x74 43 = nI c) (hR : RR S x75 x76 x77 x78) (hP : PR P c x102) : ∃ z74 z75 z76 z77 z78 z102, fX12_keepsAct_50 x74 x75 x76 x77 x78 x102 = some (z74, z75, z76, z77, z78, z102) ∧ fp74 x74 z74 ∧ z74 43 = nI (c + 1) ∧ (∀ j, z75 j = x75 j) ∧ (∀ j, z76 j = x76 j) ∧ (∀ j, z77 j = x77 j) ∧ (∀ j, z78 j = x78 j) ∧ PR (fun k => if k = c then S else P k) (c + 1) z102 := by
  obtain ⟨z74, z75, z76, z77, z78, z102, e, f, f43, g5, g6, g7, g8, h1, h2⟩ := p_saveAll (x74 := x74) (x102 := x102) hc hR
  refine ⟨upd z74 43 (nI (c + 1)), z75, z76, z77, z78, z102, ?_, fun j j1 j2 j3 => ?_, rfl, g5, g6, g7, g8, fun k hk j hj => ?_⟩
  · unfold fX12_keepsAct_50
    rw [h43, e, bd6_s, f43, h43, nI_1]
  · rw [pk_un j1]; exact f j j1 j2 j3
  · by_cases q : k = c
    · subst q; simp only [if_true]; exact h1 j hj
    · simp only [q, if_false]
      rw [h2 _ (by omega)]; exact hP k (by omega) j hj
theorem p_keepsAct {c : Nat} (hc : c ≤ 20) (h43 : x74 43 = nI c) (hR : RR S x75 x76 x77 x78) (hP : PR P c x102) : ∃ z74 z75 z76 z77 z78 z102, fX12_keepsAct x74 x75 x76 x77 x78 x102 = some (z74, z75, z76, z77, z78, z102) ∧ fp74 x74 z74 ∧ z74 43 = nI (pN c) ∧ (∀ j, z75 j = x75 j) ∧ (∀ j, z76 j = x76 j) ∧ (∀ j, z77 j = x77 j) ∧ (∀ j, z78 j = x78 j) ∧ PR (pP P c S) (pN c) z102 := by
  unfold fX12_keepsAct fX12_keepsAct_0
  by_cases q : c = 20
  · subst q
    rw [if_pos (by rw [h43]; rfl)]
    unfold fX12_keepsAct_12
    refine loop7 fX12_keepsAct_12b (fun m v1 z74 z75 z76 z77 z78 z102 => ∃ i, i + m = 969 ∧ v1 = nI (51 + i) ∧ x74 = z74 ∧ x75 = z75 ∧ x76 = z76 ∧ x77 = z77 ∧ x78 = z78 ∧ ∀ j, j < 1020 → z102 j = if j < i then x102 (j + 51) else x102 j) (fun o => ∃ z74 z75 z76 z77 z78 z102, o = some (z74, z75, z76, z77, z78, z102) ∧ fp74 x74 z74 ∧ z74 43 = nI (pN 20) ∧ (∀ j, z75 j = x75 j) ∧ (∀ j, z76 j = x76 j) ∧ (∀ j, z77 j = x77 j) ∧ (∀ j, z78 j = x78 j) ∧ PR (pP P 20 S) (pN 20) z102) ?_ ?_ 969 5000 _ _ _ _ _ _ _ (by omega) ⟨0, rfl, rfl, rfl, rfl, rfl, rfl, rfl, fun j hj => by rw [if_neg (by omega)]⟩
    · rintro k m _ _ _ _ _ _ z102 ⟨i, hi, rfl, rfl, rfl, rfl, rfl, rfl, hz⟩
      refine Or.inl ⟨nI (51 + (i + 1)), _, _, _, _, _, upd z102 i (x102 (51 + i)), ⟨i + 1, by omega, rfl, rfl, rfl, rfl, rfl, rfl, fun j hj => ?_⟩, ?_⟩
      · by_cases e : j = i
        · subst e; rw [pk_us, if_pos (by omega), Nat.add_comm]
        · rw [pk_un e, hz j hj]
          (repeat' split) <;> first | rfl | omega
      · unfold fX12_keepsAct_12b
        rw [if_neg (show ¬ (1020 : Int32) ≤ nI (51 + i) from nI_ge (b := 1020) (by omega) (by omega)), gd_t (inbN (by omega) (by decide)), show (51 : Int32) = nI 51 from rfl, nsub (by omega), gd_t (inbN (by omega) (by decide)), bn_s, nI_1, clN (by omega), clN (by omega), hz (51 + i) (by omega), if_neg (by omega), show 51 + i - 51 = i by omega]
        rfl
    · rintro k _ _ _ _ _ _ z102 ⟨i, hi, rfl, rfl, rfl, rfl, rfl, rfl, hz⟩
      have ei : i = 969 := by omega
      subst ei
      have hP' : PR (fun k => P (k + 1)) 19 z102 := fun k hk j hj => by
        rw [hz _ (by omega), if_pos (by omega), ← hP (k + 1) (by omega) j hj, show 51 * k + j + 51 = 51 * (k + 1) + j by omega]
      obtain ⟨z74, z75, z76, z77, z78, w102, e, f, f43, g5, g6, g7, g8, h1⟩ := p_keeps50 (x74 := upd x74 43 (nI 19)) (c := 19) (by omega) rfl hR hP'
      refine ⟨z74, z75, z76, z77, z78, w102, ?_, fun j j1 j2 j3 => by rw [f j j1 j2 j3, pk_un j1], f43, g5, g6, g7, g8, ?_⟩
      · unfold fX12_keepsAct_12b
        rw [if_pos (by decide), h43, zI1, nsub (by omega)]
        exact e
      · unfold pP pN
        rw [if_pos rfl, if_pos rfl]
        exact h1
  · rw [if_neg (fun e : x74 43 = (20 : Int32) => q ((nI_eq (b := 20) (by omega) (by omega)).mp (h43.symm.trans e)))]
    unfold pP pN
    rw [if_neg q, if_neg q]
    exact p_keeps50 (by omega) h43 hR hP
theorem p_undoR {c : Nat} (hc : c ≤ 20) (h43 : x74 43 = nI c) (hP : PR P c x102) : (c = 0 ∧ fX12_undo x74 x75 x76 x77 x78 x102 = some (-2, x74, x75, x76, x77, x78, x102)) ∨ (0 < c ∧ ∃ z74 z75 z76 z77 z78 z102, fX12_undo x74 x75 x76 x77 x78 x102 = some (nI (c - 1), z74, z75, z76, z77, z78, z102) ∧ fp74 x74 z74 ∧ z74 43 = nI (c - 1) ∧ RR (P (c - 1)) z75 z76 z77 z78 ∧ (∀ j, j < 5 ∨ 8 ≤ j → z75 j = x75 j) ∧ PR P (c - 1) z102) := by
  unfold fX12_undo fX12_undo_0
  by_cases q : c = 0
  · refine Or.inl ⟨q, ?_⟩
    rw [if_pos (by rw [h43, q]; rfl)]
  · refine Or.inr ⟨by omega, ?_⟩
    have e1 : x74 43 - 1 = nI (c - 1) := by rw [h43, zI1, nsub (by omega)]
    obtain ⟨z74, z75, z76, z77, z78, z102, e, f, f43, hr, g5, h1⟩ := p_loadAll (x74 := upd x74 43 (nI (c - 1))) (x75 := x75) (x76 := x76) (x77 := x77) (x78 := x78) (c := c - 1) (by omega) (hP (c - 1) (by omega))
    refine ⟨z74, z75, z76, z77, z78, z102, ?_, fun j j1 j2 j3 => by rw [f j j1 j2 j3, pk_un j1], f43, hr, g5, fun k hk j hj => by rw [h1]; exact hP k (by omega) j hj⟩
    rw [if_neg (by rw [h43]; exact ne0 q (by omega)), e1, pk_us, e, bd6_s, f43]
    rfl
end KEEPS

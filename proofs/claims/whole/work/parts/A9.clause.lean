section CLAUSE
variable {x1 x3 x4 x5 x7 x8 x9 x10 x74 x86 x87 x88 x89 x90 x91 t : Nat → Int32} {sz c i p N M H : Nat}
theorem t_heat (h : BP t sz c i p x1 x3 x4 x5 x74 x91) (hN : N < 12) (h3 : x7 3 = nI N) (r3 : x86 3 = nI N) : (∃ v p' y1 z74, v ≤ 9 ∧ fX10_readHeat x3 x4 x5 x1 x7 x8 = some (1, y1, upd x7 3 (nI (N + 1)), upd x8 N (nI v)) ∧ fX12_townPart x91 1 x74 x86 x87 x88 x89 x90 = some (z74, upd x86 3 (nI (N + 1)), x87, x88, x89, upd x90 N (nI v)) ∧ (∀ j, j ≠ 18 → j ≠ 19 → z74 j = x74 j) ∧ BP t sz c (i + 1) p' y1 x3 x4 x5 z74 x91) ∨ ∃ F y1 z74 z86 z90, 0 < F ∧ F < 5000 ∧ fX10_readHeat x3 x4 x5 x1 x7 x8 = some (0, y1, x7, x8) ∧ y1 7 = nI F ∧ fX12_townPart x91 1 x74 x86 x87 x88 x89 x90 = some (z74, z86, x87, x88, x89, z90) ∧ (∀ j, j ≠ 18 → j ≠ 19 → z74 j = x74 j) ∧ z74 19 = nI F ∧ ∃ pq, z74 18 = nI pq ∧ pq ≤ sz := by
  have r3' : x86 (3 : Int32).toNatClampNeg = nI N := r3
  unfold fX10_readHeat fX10_readHeat_0 fX12_townPart fX12_townPart_0
  rw [if_neg (show ¬ (1 : Int32).toInt = 0 by decide), if_pos (show (1 : Int32).toInt = 1 from rfl), gd_t (by decide)]
  rcases am2 (lo := 0) (hi := 9) h with ⟨v, p1, a74, _, _, l2, _, _, e1, f1, af, b1⟩ | ⟨F, v, a74, F0, F1, e1, f1, af, a19, hpq⟩
  · have hv : v ≤ 9 := nhi (hi := 9) l2 (by omega)
    rw [e1, bd2_s, f1, bd2_s, if_neg (nI_pos (by omega)), h3, if_pos (show nI N < (12 : Int32) from nI_lt (b := 12) hN (by omega)), gd_t (inbN hN (by decide)), r3', gd_t (inbN hN (by decide)), gd_t (by decide), gd_t (by decide), clN (by omega), nI_1]
    exact Or.inl ⟨v, p1, _, a74, hv, rfl, rfl, af, b1⟩
  · rw [e1, bd2_s, f1, bd2_s, if_pos (by decide), r3', gd_t (inbN hN (by decide)), gd_t (by decide), gd_t (by decide)]
    exact Or.inr ⟨F, _, a74, _, _, F0, F1, rfl, pk_us, rfl, af, a19, hpq⟩
theorem t_house (h : BP t sz c i p x1 x3 x4 x5 x74 x91) (hM : M < 6) (hH0 : 0 < H) (hH : H ≤ 60) (h0 : x7 0 = nI H) (r0 : x86 0 = nI H) (h4 : x7 4 = nI M) (r4 : x86 4 = nI M) : (∃ v p' y1 z74, v < H ∧ fX10_readHouse x3 x4 x5 x1 x7 x10 = some (1, y1, upd x7 4 (nI (M + 1)), upd x10 M (nI v)) ∧ fX12_townPart x91 2 x74 x86 x87 x88 x89 x90 = some (z74, upd x86 4 (nI (M + 1)), upd x87 M (nI v), x88, x89, x90) ∧ (∀ j, j ≠ 18 → j ≠ 19 → z74 j = x74 j) ∧ BP t sz c (i + 1) p' y1 x3 x4 x5 z74 x91) ∨ ∃ F y1 z74 z86 z87, 0 < F ∧ F < 5000 ∧ fX10_readHouse x3 x4 x5 x1 x7 x10 = some (0, y1, x7, x10) ∧ y1 7 = nI F ∧ fX12_townPart x91 2 x74 x86 x87 x88 x89 x90 = some (z74, z86, z87, x88, x89, x90) ∧ (∀ j, j ≠ 18 → j ≠ 19 → z74 j = x74 j) ∧ z74 19 = nI F ∧ ∃ pq, z74 18 = nI pq ∧ pq ≤ sz := by
  have r4' : x86 (4 : Int32).toNatClampNeg = nI M := r4
  have r0' : x86 (0 : Int32).toNatClampNeg = nI H := r0
  have eh : nI H - 1 = nI (H - 1) := by rw [zI1, nsub (by omega)]
  unfold fX10_readHouse fX10_readHouse_0 fX12_townPart fX12_townPart_0
  rw [if_neg (show ¬ (2 : Int32).toInt = 0 by decide), if_neg (show ¬ (2 : Int32).toInt = 1 by decide), if_pos (show (2 : Int32).toInt = 2 from rfl), gd_t (by decide), gd_t (by decide), h0, r0', eh]
  rcases am2 (lo := 0) (hi := nI (H - 1)) h with ⟨v, p1, a74, _, _, l2, _, _, e1, f1, af, b1⟩ | ⟨F, v, a74, F0, F1, e1, f1, af, a19, hpq⟩
  · have hv : v ≤ H - 1 := nhi l2 (by omega)
    rw [e1, bd2_s, f1, bd2_s, if_neg (nI_pos (by omega)), h4, if_pos (show nI M < (6 : Int32) from nI_lt (b := 6) hM (by omega)), gd_t (inbN hM (by decide)), r4', gd_t (inbN hM (by decide)), gd_t (by decide), gd_t (by decide), clN (by omega), nI_1]
    exact Or.inl ⟨v, p1, _, a74, by omega, rfl, rfl, af, b1⟩
  · rw [e1, bd2_s, f1, bd2_s, if_pos (by decide), r4', gd_t (inbN hM (by decide)), gd_t (by decide), gd_t (by decide)]
    exact Or.inr ⟨F, _, a74, _, _, F0, F1, rfl, pk_us, rfl, af, a19, hpq⟩
end CLAUSE

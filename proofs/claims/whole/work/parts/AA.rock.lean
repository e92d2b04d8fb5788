section ROCK
variable {x1 x3 x4 x5 x7 x11 x12 x74 x86 x87 x88 x89 x90 x91 t : Nat → Int32} {sz c i p M : Nat}
theorem vltM {v : Nat} (hM : M ≤ 6) (hv : v ≤ 99999) (h : ¬ nI M - 1 < nI v) : v < M := by
  refine Nat.not_le.mp fun hh => h ?_
  rw [Int32.lt_iff_toInt_lt, zI1, pk_sub_toInt (by omega) (by omega), nI_toInt (by omega)]
  omega
theorem t_rock (h : BP t sz c i p x1 x3 x4 x5 x74 x91) (hM : M ≤ 6) (h4 : x7 4 = nI M) (r4 : x86 4 = nI M) : (∃ v w p' y1 z74, v < M ∧ w ≤ 9 ∧ 1 ≤ w ∧ fX10_readRock x3 x4 x5 x7 x1 x11 = some (1, y1, upd x11 v (nI w)) ∧ fX12_townPart x91 4 x74 x86 x87 x88 x89 x90 = some (z74, x86, x87, upd x88 v (nI w), x89, x90) ∧ (∀ j, j ≠ 18 → j ≠ 19 → z74 j = x74 j) ∧ BP t sz c (i + 2) p' y1 x3 x4 x5 z74 x91) ∨ ∃ F y1 z74, 0 < F ∧ F < 5000 ∧ fX10_readRock x3 x4 x5 x7 x1 x11 = some (0, y1, x11) ∧ y1 7 = nI F ∧ fX12_townPart x91 4 x74 x86 x87 x88 x89 x90 = some (z74, x86, x87, x88, x89, x90) ∧ (∀ j, j ≠ 18 → j ≠ 19 → z74 j = x74 j) ∧ z74 19 = nI F ∧ ∃ pq, z74 18 = nI pq ∧ pq ≤ sz := by
  have r4' : x86 (4 : Int32).toNatClampNeg = nI M := r4
  unfold fX10_readRock fX10_readRock_0 fX10_readRock_30 fX12_townPart fX12_townPart_0
  rw [if_neg (show ¬ (4 : Int32).toInt = 0 by decide), if_neg (show ¬ (4 : Int32).toInt = 1 by decide), if_neg (show ¬ (4 : Int32).toInt = 2 by decide), if_neg (show ¬ (4 : Int32).toInt = 3 by decide), gd_t (by decide), h4, r4']
  rcases am2 (lo := 0) (hi := nI M - 1) h with ⟨v, p1, a74, v9, _, l2, _, _, e1, f1, af, b1⟩ | ⟨F, v, a74, F0, F1, e1, f1, af, a19, pq, a18, hq⟩
  · have hv := vltM hM v9 l2
    rw [e1, bd2_s, f1, bd2_s, if_pos (ge0 (by omega))]
    rcases am2 (lo := 1) (hi := 9) b1 with ⟨w, p2, b74, _, l3, l4, _, _, e2, f2, bf, b2⟩ | ⟨F, w, b74, F0, F1, e2, f2, bf, b19, hpq⟩
    · have hw1 : 1 ≤ w := nlo (lo := 1) l3 (by omega)
      have hw9 : w ≤ 9 := nhi (hi := 9) l4 (by omega)
      have b0 : b74 19 = 0 := b2.2.1.2.2.2.1
      rw [e2, bd2_s, f2, bd2_s, if_pos (ge0 (by omega)), gd_t (in6 (by omega)), if_pos b0, gd_t (in6 (by omega)), cl6 (by omega)]
      exact Or.inl ⟨v, w, p2, _, b74, hv, hw9, hw1, rfl, rfl, fun j a b => by rw [bf j a b, af j a b], b2⟩
    · rw [e2, bd2_s, f2, bd2_s, if_neg neg1, if_neg (show ¬ b74 19 = 0 by rw [b19]; exact ne0 (by omega) (by omega))]
      exact Or.inr ⟨F, _, b74, F0, F1, rfl, pk_us, rfl, fun j a b => by rw [bf j a b, af j a b], b19, hpq⟩
  · obtain ⟨pq1, b74, eb, bf, b18, bq, b19⟩ := p_aF (lo := 1) (hi := 9) (F := F) h.2.1 af a18 hq ⟨F0, F1⟩ a19
    rw [e1, bd2_s, f1, bd2_s, if_neg neg1, if_neg neg1, eb, bd2_s, if_neg (show ¬ b74 19 = 0 by rw [b19]; exact ne0 (by omega) (by omega))]
    exact Or.inr ⟨F, _, b74, F0, F1, rfl, pk_us, rfl, bf, b19, _, b18, bq⟩
end ROCK

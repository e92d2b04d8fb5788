section HILL
variable {x1 x3 x4 x5 x7 x9 x74 x86 x87 x88 x89 x90 x91 t : Nat → Int32} {sz c i p : Nat}
theorem nlo {v lo : Nat} (h : ¬ nI v < nI lo) (hl : lo < 2147483648) : lo ≤ v := Nat.not_lt.mp fun hh => h (nI_lt hh hl)
theorem nhi {v hi : Nat} (h : ¬ nI hi < nI v) (hv : v < 2147483648) : v ≤ hi := Nat.not_lt.mp fun hh => h (nI_lt hh hv)
theorem neg1 : ¬ (0 : Int32) ≤ -1 := by decide
theorem p_aF {lo hi : Int32} {F pq : Nat} (h : RPp t sz p x74 x91) {z74 : Nat → Int32} (zf : ∀ j, j ≠ 18 → j ≠ 19 → z74 j = x74 j) (h18 : z74 18 = nI pq) (hq : pq ≤ sz) (hF : 0 < F ∧ F < 5000) (h19 : z74 19 = nI F) : ∃ pq' w74, fX12_amount x91 lo hi z74 = some (0, w74) ∧ (∀ j, j ≠ 18 → j ≠ 19 → w74 j = x74 j) ∧ w74 18 = nI pq' ∧ pq' ≤ sz ∧ w74 19 = nI F := by
  obtain ⟨hz, h17, _, _, h91, hb⟩ := h
  obtain ⟨w74, ew, w18, wf⟩ := p_blanks (x74 := z74) hz ((zf 17 (by omega) (by omega)).trans h17) h18 (by omega) h91 hb
  have w19 : w74 19 = nI F := (wf 19 (by omega)).trans h19
  have wn : ¬ w74 19 = 0 := by rw [w19]; exact ne0 (by omega) (by omega)
  refine ⟨bk t sz pq, w74, ?_, fun j a b => (wf j a).trans (zf j a b), w18, (bk_le (t := t) hq).2, w19⟩
  unfold fX12_amount fX12_amount_0
  rw [ew, bd1_s, bn_s, if_neg wn]
  unfold fX12_amount_26
  rw [if_neg wn]
theorem t_hill (h : BP t sz c i p x1 x3 x4 x5 x74 x91) : (∃ H su K p' y1 z74, 5 ≤ H ∧ H ≤ 60 ∧ su ≤ 99 ∧ K ≤ 9 ∧ fX10_readHill x3 x4 x5 x1 x7 x9 = some (1, y1, upd (upd x7 0 (nI H)) 1 (nI K), upd x9 1 (nI su)) ∧ fX12_townPart x91 0 x74 x86 x87 x88 x89 x90 = some (z74, upd (upd (upd x86 0 (nI H)) 1 (nI su)) 2 (nI K), x87, x88, x89, x90) ∧ (∀ j, j ≠ 18 → j ≠ 19 → z74 j = x74 j) ∧ BP t sz c (i + 3) p' y1 x3 x4 x5 z74 x91) ∨ ∃ F y1 y7 y9 z74 z86, 0 < F ∧ F < 5000 ∧ fX10_readHill x3 x4 x5 x1 x7 x9 = some (0, y1, y7, y9) ∧ y1 7 = nI F ∧ fX12_townPart x91 0 x74 x86 x87 x88 x89 x90 = some (z74, z86, x87, x88, x89, x90) ∧ (∀ j, j ≠ 18 → j ≠ 19 → z74 j = x74 j) ∧ z74 19 = nI F ∧ ∃ pq, z74 18 = nI pq ∧ pq ≤ sz := by
  have hR := h.2.1
  unfold fX10_readHill fX10_readHill_0 fX10_readHill_42 fX10_readHill_73 fX12_townPart fX12_townPart_0
  rw [if_pos (show (0 : Int32).toInt = 0 from rfl)]
  rcases am2 (lo := 5) (hi := 60) h with ⟨v, p1, a74, _, l1, l2, _, _, e1, f1, af, b1⟩ | ⟨F, v, a74, F0, F1, e1, f1, af, a19, pq, a18, hq⟩
  · have hv5 : 5 ≤ v := nlo (lo := 5) l1 (by omega)
    have hv60 : v ≤ 60 := nhi (hi := 60) l2 (by omega)
    rw [e1, bd2_s, f1, bd2_s, pk_us, if_pos (ge0 (by omega)), gd_t (by decide)]
    rcases am2 (lo := 0) (hi := 99) b1 with ⟨u, p2, b74, _, _, l4, _, _, e2, f2, bf, b2⟩ | ⟨F, u, b74, F0, F1, e2, f2, bf, b19, pq, b18, hq⟩
    · have hu : u ≤ 99 := nhi (hi := 99) l4 (by omega)
      rw [e2, bd2_s, f2, bd2_s, pk_us, if_pos (ge0 (by omega)), gd_t (by decide)]
      rcases am2 (lo := 0) (hi := 9) b2 with ⟨k, p3, c74, _, _, l6, _, _, e3, f3, cf', b3⟩ | ⟨F, k, c74, F0, F1, e3, f3, cf', c19, pq, c18, hq⟩
      · have hk : k ≤ 9 := nhi (hi := 9) l6 (by omega)
        rw [e3, bd2_s, f3, bd2_s, pk_us, if_neg (nI_pos (by omega)), gd_t (by decide)]
        exact Or.inl ⟨v, u, k, p3, _, c74, hv5, hv60, hu, hk, rfl, rfl, fun j a b => by rw [cf' j a b, bf j a b, af j a b], b3⟩
      · rw [e3, bd2_s, f3, bd2_s, pk_us, if_pos (by decide), gd_t (by decide)]
        exact Or.inr ⟨F, _, _, _, c74, _, F0, F1, rfl, pk_us, rfl, fun j a b => by rw [cf' j a b, bf j a b, af j a b], c19, _, c18, hq⟩
    · obtain ⟨pq', c74, ec, cf', c18, cq, c19⟩ := p_aF (lo := 0) (hi := 9) (F := F) b1.2.1 bf b18 hq ⟨F0, F1⟩ b19
      rw [e2, bd2_s, f2, bd2_s, pk_us, if_neg neg1, pk_us, if_pos (by decide), gd_t (by decide), ec, bd2_s, gd_t (by decide)]
      exact Or.inr ⟨F, _, _, _, c74, _, F0, F1, rfl, pk_us, rfl, fun j a b => by rw [cf' j a b, af j a b], c19, _, c18, cq⟩
  · obtain ⟨pq1, b74, eb, bf, b18, bq, b19⟩ := p_aF (lo := 0) (hi := 99) (F := F) hR af a18 hq ⟨F0, F1⟩ a19
    obtain ⟨pq2, c74, ec, cf', c18, cq, c19⟩ := p_aF (lo := 0) (hi := 9) (F := F) hR bf b18 bq ⟨F0, F1⟩ b19
    rw [e1, bd2_s, f1, bd2_s, pk_us, if_neg neg1, pk_us, if_neg neg1, pk_us, if_pos (by decide), gd_t (by decide), eb, bd2_s, gd_t (by decide), ec, bd2_s, gd_t (by decide)]
    exact Or.inr ⟨F, _, _, _, c74, _, F0, F1, rfl, pk_us, rfl, cf', c19, _, c18, cq⟩
end HILL

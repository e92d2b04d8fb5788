section ROWE
theorem bd20_s {A0 A1 A2 A3 A4 A5 A6 A7 A8 A9 A10 A11 A12 A13 A14 A15 A16 A17 A18 A19 R : Type} (a0 : A0) (a1 : A1) (a2 : A2) (a3 : A3) (a4 : A4) (a5 : A5) (a6 : A6) (a7 : A7) (a8 : A8) (a9 : A9) (a10 : A10) (a11 : A11) (a12 : A12) (a13 : A13) (a14 : A14) (a15 : A15) (a16 : A16) (a17 : A17) (a18 : A18) (a19 : A19) (k : A0 → A1 → A2 → A3 → A4 → A5 → A6 → A7 → A8 → A9 → A10 → A11 → A12 → A13 → A14 → A15 → A16 → A17 → A18 → A19 → Option R) : bd20 (some (a0, a1, a2, a3, a4, a5, a6, a7, a8, a9, a10, a11, a12, a13, a14, a15, a16, a17, a18, a19)) k = k a0 a1 a2 a3 a4 a5 a6 a7 a8 a9 a10 a11 a12 a13 a14 a15 a16 a17 a18 a19 := rfl
variable {H M K N B : Nat} {q : Nat → Nat} {S : SN} {W : WW} {x17 x18 x23 x24 x25 x26 x33 x40 x42 x43 x44 x45 x46 x47 x48 x49 x50 x51 x52 x53 x54 x55 x56 x57 x58 x59 x74 x75 x76 x77 x78 x79 x92 x93 x94 x95 x96 x97 x101 x105 x106 x107 x112 : Nat → Int32} {y99 y100 : Nat → Int64}
theorem c_rowFind {n : Nat} (hn1 : 1 ≤ n) (hn : n ≤ 3) (hV : VD H M B S) (hB : B ≤ 999) (hT : TC H M K N q x17 x18) (hR : RC S x23 x24 x25 x26) : ∃ c33 c40 c42 c43 c44 c45 c46 c47 c48 c49 c50 c51 c52 c53 c54 c55 c56 c57 c58 c59, fX3_find x17 x18 x23 x24 x25 x26 (nI n) x33 x40 x42 x43 x44 x45 x46 x47 x48 x49 x50 x51 x52 x53 x54 x55 x56 x57 x58 x59 = some (c33, c40, c42, c43, c44, c45, c46, c47, c48, c49, c50, c51, c52, c53, c54, c55, c56, c57, c58, c59) ∧ ∃ x, rb H M K N q S n ((pls M M 0).length + 1) (((pls M M 0).length + 1) ^ n) = some x ∧ c40 4 = nI x.1 ∧ ∀ j, j < n → c59 j = oc (ops M ((pls M M 0).length + 1) n x.2 j) := by
  obtain ⟨c42, c43, c44, c45, ec, hc⟩ := p_copy (y0 := x42) (y1 := x43) (y2 := x44) (y3 := x45) hR
  obtain ⟨o33, o40, o46, o47, o48, o49, o50, o51, o52, o53, o54, o55, o56, o57, o58, o59, es, hs, _⟩ := s_0 (x46 := x46) (x47 := x47) (x48 := x48) (x49 := x49) (x50 := x50) (x51 := x51) (x52 := x52) (x53 := x53) (x54 := x54) (x55 := x55) (x56 := x56) (x57 := x57) (x42 := c42) (x43 := c43) (x44 := c44) (x45 := c45) (x33 := x33) (x40 := upd x40 4 1000000) (x58 := x58) (x59 := x59) (n := n) (p := 0) (S := S) (T := S) (Nat.zero_le n) hn rfl hV hB hT rfl rfl hc (fun j hj => absurd hj (Nat.not_lt_zero j)) (by rw [Nat.zero_mul]; exact ⟨rfl, fun x hx => by cases hx⟩)
  rw [Nat.zero_add, Nat.one_mul, Nat.sub_zero] at hs
  obtain ⟨x, h1, h2, h3⟩ := rb_some (N := N) (q := q) (n := n) (bs := (pls M M 0).length + 1) hT.2.1 hV (((pls M M 0).length + 1) ^ n) (Nat.pow_pos (by omega))
  refine ⟨o33, o40, c42, c43, c44, c45, o46, o47, o48, o49, o50, o51, o52, o53, o54, o55, o56, o57, o58, o59, ?_, x, h1, ?_, hs.2 x h1⟩
  · unfold fX3_find fX3_find_0
    rw [ec, bd4_s, es, bd16_s]
  · rw [hs.1, h1]; rfl
theorem e_row (hQ : QQ H M K N B q S W x17 x18 x23 x24 x25 x26 x74 x75 x76 x77 x78 x79 x92 x93 x94 x95 x96 x97) (v1 v2 : Int32) : ∃ r, (∃ c, fX11_row x17 x18 x23 x24 x25 x26 v1 v2 x33 x40 x42 x43 x44 x45 x46 x47 x48 x49 x50 x51 x52 x53 x54 x55 x56 x57 x58 x59 = some (r, c)) ∧ ∃ z, fX12_row x79 x92 x93 x94 x95 x96 x97 v1 v2 x74 x75 x76 x77 x78 x101 x105 x106 x107 x112 y99 y100 = some (r, z) ∧ FW x74 x75 x76 x77 x78 x112 z := by
  obtain ⟨hV, hB, hT, hTR, hR, hRR, hW, hfree, hdr⟩ := hQ
  obtain ⟨hM, hH5, hH, hgr, _⟩ := id hV.1
  have tl := p_told1 hT.2.2.1 (by omega) hH
  have tw := p_town1 hTR.2.2.1 (by omega) hH
  have fr : FW x74 x75 x76 x77 x78 x112 (x74, x75, x76, x77, x78, x101, x105, x106, x107, x112, y99, y100) := ⟨fun _ _ _ _ => rfl, fun _ _ => rfl, fun _ _ => rfl, fun _ _ => rfl, fun _ _ => rfl, fun _ _ => rfl⟩
  unfold fX11_row fX11_row_0
  rw [tl, bd1_s, if_neg (show ¬ nI 1 = (0 : Int32) from one_ne)]
  rcases p_within (lo := 1) (hi := 3) (by omega) (by omega) v1 with ⟨n, n1, n2, rfl, c1, d1⟩ | ⟨c1, d1⟩
  · rw [show fX11_isWithin (nI n) 1 3 = _ from c1, bd1_s, if_neg (show ¬ nI 1 = (0 : Int32) from one_ne)]
    rcases p_within (lo := 0) (hi := 3) (by omega) (by omega) v2 with ⟨w, w1, w2, rfl, c2, d2⟩ | ⟨c2, d2⟩
    · rw [show fX11_isWithin (nI w) 0 3 = _ from c2, bd1_s, if_neg (show ¬ nI 1 = (0 : Int32) from one_ne)]
      obtain ⟨z, ez, hz⟩ := r_row (x92 := x92) (x93 := x93) (x94 := x94) (x95 := x95) (x96 := x96) (x97 := x97) (x101 := x101) (x105 := x105) (x106 := x106) (x107 := x107) (x112 := x112) (y99 := y99) (y100 := y100) n1 n2 w2 hV hB hTR hRR hfree hdr d1 d2
      refine ⟨_, ?_, z, ez, hz⟩
      by_cases k : w ≤ n
      · rw [if_pos (nI_le k (by omega))]
        obtain ⟨c33, c40, c42, c43, c44, c45, c46, c47, c48, c49, c50, c51, c52, c53, c54, c55, c56, c57, c58, c59, ef, x, hx, h40, h59⟩ := c_rowFind (x33 := x33) (x40 := x40) (x42 := x42) (x43 := x43) (x44 := x44) (x45 := x45) (x46 := x46) (x47 := x47) (x48 := x48) (x49 := x49) (x50 := x50) (x51 := x51) (x52 := x52) (x53 := x53) (x54 := x54) (x55 := x55) (x56 := x56) (x57 := x57) (x58 := x58) (x59 := x59) n1 n2 hV hB hT hR
        rw [ef, bd20_s, hx]
        unfold ansW
        by_cases w0 : w = 0
        · rw [if_pos (by rw [w0]; rfl), if_pos w0, h40]; exact ⟨_, rfl⟩
        · rw [if_neg (ne0 w0 (by omega)), if_neg w0, if_neg (by omega), zI1, nsub (by omega), gd_t (inbN (by omega) (by decide)), clN (by omega), h59 (w - 1) (by omega)]; exact ⟨_, rfl⟩
      · rw [if_neg (nI_ge (by omega) (by omega))]
        unfold ansW
        rw [if_neg (by omega), if_pos (by omega)]
        exact ⟨_, rfl⟩
    · rw [show fX11_isWithin v2 0 3 = _ from c2, bd1_s, if_pos z00]
      exact ⟨_, ⟨_, rfl⟩, _, r_rowN (Or.inr ⟨tw, Or.inr ⟨d1, d2⟩⟩), fr⟩
  · rw [show fX11_isWithin v1 1 3 = _ from c1, bd1_s, if_pos z00]
    exact ⟨_, ⟨_, rfl⟩, _, r_rowN (Or.inr ⟨tw, Or.inl d1⟩), fr⟩
end ROWE

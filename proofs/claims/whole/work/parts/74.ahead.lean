section QA
variable {H M K N B : Nat} {q : Nat → Nat} {S : SN} {W : WW} {x0 x16 x17 x18 x23 x24 x25 x26 x33 x35 x36 x37 x38 x74 x75 x76 x77 x78 x79 x92 x93 x94 x95 x96 x97 x101 x112 : Nat → Int32} {y99 y100 : Nat → Int64}
/-- a told town, the same on both sides -/
def QQ (H M K N B : Nat) (q : Nat → Nat) (S : SN) (W : WW) (x17 x18 x23 x24 x25 x26 x74 x75 x76 x77 x78 x79 x92 x93 x94 x95 x96 x97 : Nat → Int32) : Prop := VD H M B S ∧ B ≤ 999 ∧ TC H M K N q x17 x18 ∧ TR H M K N q x75 x79 ∧ RC S x23 x24 x25 x26 ∧ RR S x75 x76 x77 x78 ∧ RW (x75 10) x92 x93 x94 x95 x96 x97 W ∧ x74 38 = -5 ∧ x74 37 = -1
def Fr (x74 x75 x76 x77 x78 x112 z74 z75 z76 z77 z78 z112 : Nat → Int32) : Prop := fr74 x74 z74 ∧ (∀ j, j < 11 → z75 j = x75 j) ∧ (∀ j, j < 6 → z76 j = x76 j) ∧ (∀ j, j < 6 → z77 j = x77 j) ∧ (∀ j, j < 36 → z78 j = x78 j) ∧ ∀ j, j < 5200 → z112 j = x112 j
theorem Fr_refl : Fr x74 x75 x76 x77 x78 x112 x74 x75 x76 x77 x78 x112 := ⟨fun _ _ _ => rfl, fun _ _ => rfl, fun _ _ => rfl, fun _ _ => rfl, fun _ _ => rfl, fun _ _ => rfl⟩
theorem fr74_trans {a b c : Nat → Int32} (h : fr74 a b) (h2 : fr74 b c) : fr74 a c := fun j h6 h7 => (h2 j h6 h7).trans (h j h6 h7)
theorem RR_same {z75 z76 z77 z78 : Nat → Int32} (h : RR S x75 x76 x77 x78) (h1 : ∀ j, j < 11 → z75 j = x75 j) (h2 : ∀ j, j < 6 → z76 j = x76 j) (h3 : ∀ j, j < 6 → z77 j = x77 j) (h4 : ∀ j, j < 36 → z78 j = x78 j) : RR S z75 z76 z77 z78 := ⟨fun j hj => (h1 (5 + j) (by omega)).trans (h.1 j hj), fun j hj => (h2 j hj).trans (h.2.1 j hj), fun j hj => (h3 j hj).trans (h.2.2.1 j hj), fun j hj => (h4 j hj).trans (h.2.2.2 j hj)⟩
theorem TR_same {z75 : Nat → Int32} (hT : TR H M K N q x75 x79) (h : ∀ j, j < 11 → z75 j = x75 j) : TR H M K N q z75 x79 := by
  obtain ⟨hQ, hK, h0, h2, h3, h4, hq⟩ := hT
  exact ⟨hQ, hK, (h 0 (by omega)).trans h0, (h 2 (by omega)).trans h2, (h 3 (by omega)).trans h3, (h 4 (by omega)).trans h4, hq⟩
theorem l0' : (0 : Int64) = lN 0 := rfl
theorem l1' : (1 : Int64) = lN 1 := rfl
theorem bd5_s {A B C D E R : Type} (a : A) (b : B) (c : C) (d : D) (e : E) (k : A → B → C → D → E → Option R) : bd5 (some (a, b, c, d, e)) k = k a b c d e := rfl
theorem bd7_s {A B C D E F G R : Type} (a : A) (b : B) (c : C) (d : D) (e : E) (f : F) (g : G) (k : A → B → C → D → E → F → G → Option R) : bd7 (some (a, b, c, d, e, f, g)) k = k a b c d e f g := rfl
theorem bd10_s {A B C D E F G I J L R : Type} (a : A) (b : B) (c : C) (d : D) (e : E) (f : F) (g : G) (i : I) (j : J) (l : L) (k : A → B → C → D → E → F → G → I → J → L → Option R) : bd10 (some (a, b, c, d, e, f, g, i, j, l)) k = k a b c d e f g i j l := rfl
theorem VD_run (hK : K ≤ 9) : ∀ {n B S}, VD H M B S → VD H M (B + n) (run H M K N q W n S)
  | 0, _, _, h => h
  | n + 1, B, S, h => by
    have := VD_run (n := n) hK (VD_stp (q := q) (N := N) (W := W) (t := hS N q S) hK h)
    rw [show B + 1 + n = B + (n + 1) by omega] at this
    exact this
abbrev T9 : Type := (Nat → Int32) × (Nat → Int32) × (Nat → Int32) × (Nat → Int32) × (Nat → Int32) × (Nat → Int32) × (Nat → Int32) × (Nat → Int64) × (Nat → Int64)
def FT (x74 x75 x76 x77 x78 x112 : Nat → Int32) (z : T9) : Prop := Fr x74 x75 x76 x77 x78 x112 z.1 z.2.1 z.2.2.1 z.2.2.2.1 z.2.2.2.2.1 z.2.2.2.2.2.2.1
/-- days tried, and all laid back -/
theorem p_trial {n : Nat} (hn : n ≤ 100) (hV : VD H M B S) (hB : B ≤ 2000) (hT : TR H M K N q x75 x79) (hR : RR S x75 x76 x77 x78) (hW : RW (x75 10) x92 x93 x94 x95 x96 x97 W) (hfree : x74 38 = -5) (hdr : x74 37 = -1) : ∃ z75 z76 z77 z78 z101 z99 z100, fX12_goFor x79 x92 x93 x94 x95 x96 x97 (nI n) x74 x75 x76 x77 x78 x101 y99 y100 = some (x74, z75, z76, z77, z78, z101, z99, z100) ∧ RR (run H M K N q W n S) z75 z76 z77 z78 ∧ TR H M K N q z75 x79 ∧ VD H M (B + n) (run H M K N q W n S) := by
  obtain ⟨z75, z76, z77, z78, z101, z99, z100, e, hr, hf⟩ := p_goFor (x101 := x101) (y99 := y99) (y100 := y100) (show n ≤ 1000 by omega) hV (by omega) hT hfree hdr hR hW
  exact ⟨z75, z76, z77, z78, z101, z99, z100, e, hr, TR_fr hT hf, VD_run hT.2.1 hV⟩
theorem pc6 {n : Nat} (h : n < 64) : fJ6_bitCount_0f7a4 (nI n) = some (nI (pcnt n)) ∧ fX12_bits (nI n) = some (nI (pcnt n)) := ⟨p_bitCount n h, p_bits n h⟩
theorem e_aheadN (hQ : QQ H M K N B q S none x17 x18 x23 x24 x25 x26 x74 x75 x76 x77 x78 x79 x92 x93 x94 x95 x96 x97) (v1 v2 v3 : Int32) : ∃ r, (∃ c, fX11_aheadN x0 x16 x17 x18 x23 x24 x25 x26 v1 v2 v3 x33 x35 x36 x37 x38 = some (r, c)) ∧ ∃ z, fX12_ahead x79 x92 x93 x94 x95 x96 x97 v1 v2 v3 x74 x75 x76 x77 x78 x101 x112 y99 y100 = some (r, z) ∧ FT x74 x75 x76 x77 x78 x112 z := by
  obtain ⟨hV, hB, hT, hTR, hR, hRR, hW, hfree, hdr⟩ := hQ
  obtain ⟨hM, hH5, hH, hgr, _⟩ := id hV.1
  have tl := p_told1 hT.2.2.1 (by omega) hH
  have tw := p_town1 hTR.2.2.1 (by omega) hH
  unfold fX11_aheadN fX11_aheadN_0 fX12_ahead fX12_ahead_0
  rw [tl, tw, bd1_s, bd1_s, if_neg (show ¬ nI 1 = (0 : Int32) from one_ne), if_neg (show ¬ nI 1 = (0 : Int32) from one_ne)]
  rcases p_within (lo := 0) (hi := 100) (by omega) (by omega) v2 with ⟨n, _, hn, rfl, c2, d2⟩ | ⟨c2, d2⟩
  · rcases p_within (lo := 0) (hi := 2) (by omega) (by omega) v3 with ⟨n3, _, hn3, rfl, c3, d3⟩ | ⟨c3, d3⟩
    · have core : (n3 = 0 → ∃ h, h < M ∧ v1 = nI h) → ∃ r, (∃ c, fX11_aheadN_40 x0 x16 x17 x18 x23 x24 x25 x26 v1 (nI n) (nI n3) x33 x35 x36 x37 x38 = some (r, c)) ∧ ∃ z, fX12_ahead_31 x79 x92 x93 x94 x95 x96 x97 v1 (nI n) (nI n3) x74 x75 x76 x77 x78 x101 x112 y99 y100 = some (r, z) ∧ FT x74 x75 x76 x77 x78 x112 z := by
        intro hv
        obtain ⟨c35, c36, c37, c38, ec, hc⟩ := p_copy (y0 := x35) (y1 := x36) (y2 := x37) (y3 := x38) hR
        obtain ⟨d35, d36, d37, d38, d33, ed, hd⟩ := p_passAllN (n := n) (x33 := x33) (show n ≤ 1000 by omega) hV (by omega) hT hc
        obtain ⟨a74, a112, ea, fa, ka, ka2⟩ := p_keepsAll (x74 := x74) (x75 := x75) (x76 := x76) (x77 := x77) (x78 := x78) (x112 := x112)
        obtain ⟨b75, b76, b77, b78, b101, b99, b100, eb, hb, tb, vb⟩ := p_trial (x74 := a74) (x101 := x101) (y99 := y99) (y100 := y100) hn hV (by omega) hTR hRR hW ((fa 38 (by omega) (by omega)).trans hfree) ((fa 37 (by omega) (by omega)).trans hdr)
        obtain ⟨e74, e75, e76, e77, e78, ee, fe, g75, g76, g77, g78⟩ := p_laysBack (x74 := a74) (x75 := b75) (x76 := b76) (x77 := b77) (x78 := b78) ka
        have fin : ∀ r, ∃ z, fX12_ahead_89 x79 x92 x93 x94 x95 x96 x97 r a74 b75 b76 b77 b78 b101 a112 b99 b100 = some (r, z) ∧ FT x74 x75 x76 x77 x78 x112 z := fun r => ⟨(e74, e75, e76, e77, e78, b101, a112, b99, b100), by unfold fX12_ahead_89; rw [ee, bd6_s], fr74_trans fa fe, g75, g76, g77, g78, ka2⟩
        unfold fX11_aheadN_40 fX12_ahead_31
        rw [ec, bd4_s, ed, bd5_s, show (0 : Int64) = lN 0 from rfl, show (100 : Int64) = lN 100 from rfl, d2, bd1_s, if_neg (show ¬ nI 1 = (0 : Int32) from one_ne), ea, bd6_s, eb, bd8_s]
        by_cases k0 : n3 = 0
        · obtain ⟨h, hh, rfl⟩ := hv k0
          subst k0
          rw [if_pos z00, if_pos z00, gd_t (in6 (show h < 6 by omega)), gd_t (in6 (show h < 6 by omega)), cl6 (show h < 6 by omega), RC_p hd h (by omega), RC_p hb h (by omega)]
          exact ⟨_, ⟨_, rfl⟩, fin _⟩
        · rw [if_neg (ne0 k0 (by omega)), if_neg (ne0 k0 (by omega))]
          by_cases k1 : n3 = 1
          · subst k1
            have hr64 : riv H M (sPl (run H M K N q none n S)) < 64 := bset_lt _
            rw [if_pos (show nI 1 = (1 : Int32) from rfl), if_pos (show nI 1 = (1 : Int32) from rfl), p_riverC vb hT (RC_p hd), bd1_s, (pc6 hr64).1, bd1_s, p_riverR vb tb (RC_p hb), bd1_s, (pc6 hr64).2, bd1_s]
            exact ⟨_, ⟨_, rfl⟩, fin _⟩
          · have k1' : ¬ nI n3 = (1 : Int32) := fun e => k1 ((nI_eq (b := 1) (by omega) (by omega)).mp e)
            rw [if_neg k1', if_neg k1', gd_t i6, n6', show b75 6 = nI (run H M K N q none n S 1) from hb.1 1 (by omega), hd.1 1 (by omega)]
            exact ⟨_, ⟨_, rfl⟩, fin _⟩
      rw [show fX11_isWithin (nI n) 0 100 = _ from c2, bd1_s, if_neg (show ¬ nI 1 = (0 : Int32) from one_ne), show fX11_isWithin (nI n3) 0 2 = _ from c3, bd1_s, if_neg (show ¬ nI 1 = (0 : Int32) from one_ne), show fX12_in (nI n3).toInt64 0 2 = _ from d3, bd1_s, if_neg (show ¬ nI 1 = (0 : Int32) from one_ne)]
      by_cases k0 : n3 = 0
      · subst k0
        rw [if_pos z00, if_pos z00]
        rcases p_house hM hT.2.2.2.2.2.1 hTR.2.2.2.2.2.1 v1 with ⟨h, hh, rfl, u1, u2⟩ | ⟨u1, u2⟩
        · rw [u1, u2, bd1_s, bd1_s, if_neg (show ¬ nI 1 = (0 : Int32) from one_ne), if_neg (show ¬ nI 1 = (0 : Int32) from one_ne)]
          exact core fun _ => ⟨h, hh, rfl⟩
        · rw [u1, u2, bd1_s, bd1_s, if_pos z00, if_pos z00]
          exact ⟨_, ⟨_, rfl⟩, ⟨_, rfl, Fr_refl⟩⟩
      · rw [if_neg (ne0 k0 (by omega)), if_neg (ne0 k0 (by omega))]
        exact core fun h => absurd h k0
    · rw [show fX11_isWithin (nI n) 0 100 = _ from c2, bd1_s, if_neg (show ¬ nI 1 = (0 : Int32) from one_ne), show fX11_isWithin v3 0 2 = _ from c3, bd1_s, if_pos z00, show fX12_in v3.toInt64 0 2 = _ from d3, bd1_s, if_pos z00]
      exact ⟨_, ⟨_, rfl⟩, ⟨_, rfl, Fr_refl⟩⟩
  · rw [show fX11_isWithin v2 0 100 = _ from c2, bd1_s, if_pos z00]
    refine ⟨_, ⟨_, rfl⟩, ⟨(x74, x75, x76, x77, x78, x101, x112, y99, y100), ?_, Fr_refl⟩⟩
    have h31 : ∀ v1, fX12_ahead_31 x79 x92 x93 x94 x95 x96 x97 v1 v2 v3 x74 x75 x76 x77 x78 x101 x112 y99 y100 = some (-1, (x74, x75, x76, x77, x78, x101, x112, y99, y100)) := fun v1 => by
      unfold fX12_ahead_31
      rw [show fX12_in v2.toInt64 0 100 = _ from d2, bd1_s, if_pos z00]
    rcases p_within (lo := 0) (hi := 2) (by omega) (by omega) v3 with ⟨n3, _, hn3, rfl, c3, d3⟩ | ⟨c3, d3⟩
    · rw [show fX12_in (nI n3).toInt64 0 2 = _ from d3, bd1_s, if_neg (show ¬ nI 1 = (0 : Int32) from one_ne)]
      by_cases k0 : nI n3 = 0
      · rw [if_pos k0]
        rcases p_house hM hT.2.2.2.2.2.1 hTR.2.2.2.2.2.1 v1 with ⟨h, hh, rfl, u1, u2⟩ | ⟨u1, u2⟩
        · rw [u2, bd1_s, if_neg (show ¬ nI 1 = (0 : Int32) from one_ne), h31]
        · rw [u2, bd1_s, if_pos z00]
      · rw [if_neg k0, h31]
    · rw [show fX12_in v3.toInt64 0 2 = _ from d3, bd1_s, if_pos z00]
theorem e_aheadR {Lru : Nat} {xr : Nat → Int32} {W : (Nat → Int64) → Int64} {z y : Nat → Int64} (hC : CW Lru xr W) (hQ : QQ H M K N B q S (some W) x17 x18 x23 x24 x25 x26 x74 x75 x76 x77 x78 x79 x92 x93 x94 x95 x96 x97) (v1 v2 v3 : Int32) : ∃ r, (∃ c, fX11_aheadR Lru xr x0 x16 x17 x18 x23 x24 x25 x26 v1 v2 v3 x33 x35 x36 x37 x38 z y = some (r, c)) ∧ ∃ z, fX12_ahead x79 x92 x93 x94 x95 x96 x97 v1 v2 v3 x74 x75 x76 x77 x78 x101 x112 y99 y100 = some (r, z) ∧ FT x74 x75 x76 x77 x78 x112 z := by
  obtain ⟨hV, hB, hT, hTR, hR, hRR, hW, hfree, hdr⟩ := hQ
  obtain ⟨hM, hH5, hH, hgr, _⟩ := id hV.1
  have tl := p_told1 hT.2.2.1 (by omega) hH
  have tw := p_town1 hTR.2.2.1 (by omega) hH
  unfold fX11_aheadR fX11_aheadR_0 fX12_ahead fX12_ahead_0
  rw [tl, tw, bd1_s, bd1_s, if_neg (show ¬ nI 1 = (0 : Int32) from one_ne), if_neg (show ¬ nI 1 = (0 : Int32) from one_ne)]
  rcases p_within (lo := 0) (hi := 100) (by omega) (by omega) v2 with ⟨n, _, hn, rfl, c2, d2⟩ | ⟨c2, d2⟩
  · rcases p_within (lo := 0) (hi := 2) (by omega) (by omega) v3 with ⟨n3, _, hn3, rfl, c3, d3⟩ | ⟨c3, d3⟩
    · have core : (n3 = 0 → ∃ h, h < M ∧ v1 = nI h) → ∃ r, (∃ c, fX11_aheadR_40 Lru xr x0 x16 x17 x18 x23 x24 x25 x26 v1 (nI n) (nI n3) x33 x35 x36 x37 x38 z y = some (r, c)) ∧ ∃ z, fX12_ahead_31 x79 x92 x93 x94 x95 x96 x97 v1 (nI n) (nI n3) x74 x75 x76 x77 x78 x101 x112 y99 y100 = some (r, z) ∧ FT x74 x75 x76 x77 x78 x112 z := by
        intro hv
        obtain ⟨c35, c36, c37, c38, ec, hc⟩ := p_copy (y0 := x35) (y1 := x36) (y2 := x37) (y3 := x38) hR
        obtain ⟨d35, d36, d37, d38, d33, zz, yy, ed, hd⟩ := p_passAllR (n := n) (x33 := x33) (z := z) (y := y) (show n ≤ 1000 by omega) hC hV (by omega) hT hc
        obtain ⟨a74, a112, ea, fa, ka, ka2⟩ := p_keepsAll (x74 := x74) (x75 := x75) (x76 := x76) (x77 := x77) (x78 := x78) (x112 := x112)
        obtain ⟨b75, b76, b77, b78, b101, b99, b100, eb, hb, tb, vb⟩ := p_trial (x74 := a74) (x101 := x101) (y99 := y99) (y100 := y100) hn hV (by omega) hTR hRR hW ((fa 38 (by omega) (by omega)).trans hfree) ((fa 37 (by omega) (by omega)).trans hdr)
        obtain ⟨e74, e75, e76, e77, e78, ee, fe, g75, g76, g77, g78⟩ := p_laysBack (x74 := a74) (x75 := b75) (x76 := b76) (x77 := b77) (x78 := b78) ka
        have fin : ∀ r, ∃ z, fX12_ahead_89 x79 x92 x93 x94 x95 x96 x97 r a74 b75 b76 b77 b78 b101 a112 b99 b100 = some (r, z) ∧ FT x74 x75 x76 x77 x78 x112 z := fun r => ⟨(e74, e75, e76, e77, e78, b101, a112, b99, b100), by unfold fX12_ahead_89; rw [ee, bd6_s], fr74_trans fa fe, g75, g76, g77, g78, ka2⟩
        unfold fX11_aheadR_40 fX12_ahead_31
        rw [ec, bd4_s, ed, bd7_s, show (0 : Int64) = lN 0 from rfl, show (100 : Int64) = lN 100 from rfl, d2, bd1_s, if_neg (show ¬ nI 1 = (0 : Int32) from one_ne), ea, bd6_s, eb, bd8_s]
        by_cases k0 : n3 = 0
        · obtain ⟨h, hh, rfl⟩ := hv k0
          subst k0
          rw [if_pos z00, if_pos z00, gd_t (in6 (show h < 6 by omega)), gd_t (in6 (show h < 6 by omega)), cl6 (show h < 6 by omega), RC_p hd h (by omega), RC_p hb h (by omega)]
          exact ⟨_, ⟨_, rfl⟩, fin _⟩
        · rw [if_neg (ne0 k0 (by omega)), if_neg (ne0 k0 (by omega))]
          by_cases k1 : n3 = 1
          · subst k1
            have hr64 : riv H M (sPl (run H M K N q (some W) n S)) < 64 := bset_lt _
            rw [if_pos (show nI 1 = (1 : Int32) from rfl), if_pos (show nI 1 = (1 : Int32) from rfl), p_riverC vb hT (RC_p hd), bd1_s, (pc6 hr64).1, bd1_s, p_riverR vb tb (RC_p hb), bd1_s, (pc6 hr64).2, bd1_s]
            exact ⟨_, ⟨_, rfl⟩, fin _⟩
          · have k1' : ¬ nI n3 = (1 : Int32) := fun e => k1 ((nI_eq (b := 1) (by omega) (by omega)).mp e)
            rw [if_neg k1', if_neg k1', gd_t i6, n6', show b75 6 = nI (run H M K N q (some W) n S 1) from hb.1 1 (by omega), hd.1 1 (by omega)]
            exact ⟨_, ⟨_, rfl⟩, fin _⟩
      rw [show fX11_isWithin (nI n) 0 100 = _ from c2, bd1_s, if_neg (show ¬ nI 1 = (0 : Int32) from one_ne), show fX11_isWithin (nI n3) 0 2 = _ from c3, bd1_s, if_neg (show ¬ nI 1 = (0 : Int32) from one_ne), show fX12_in (nI n3).toInt64 0 2 = _ from d3, bd1_s, if_neg (show ¬ nI 1 = (0 : Int32) from one_ne)]
      by_cases k0 : n3 = 0
      · subst k0
        rw [if_pos z00, if_pos z00]
        rcases p_house hM hT.2.2.2.2.2.1 hTR.2.2.2.2.2.1 v1 with ⟨h, hh, rfl, u1, u2⟩ | ⟨u1, u2⟩
        · rw [u1, u2, bd1_s, bd1_s, if_neg (show ¬ nI 1 = (0 : Int32) from one_ne), if_neg (show ¬ nI 1 = (0 : Int32) from one_ne)]
          exact core fun _ => ⟨h, hh, rfl⟩
        · rw [u1, u2, bd1_s, bd1_s, if_pos z00, if_pos z00]
          exact ⟨_, ⟨_, rfl⟩, ⟨_, rfl, Fr_refl⟩⟩
      · rw [if_neg (ne0 k0 (by omega)), if_neg (ne0 k0 (by omega))]
        exact core fun h => absurd h k0
    · rw [show fX11_isWithin (nI n) 0 100 = _ from c2, bd1_s, if_neg (show ¬ nI 1 = (0 : Int32) from one_ne), show fX11_isWithin v3 0 2 = _ from c3, bd1_s, if_pos z00, show fX12_in v3.toInt64 0 2 = _ from d3, bd1_s, if_pos z00]
      exact ⟨_, ⟨_, rfl⟩, ⟨_, rfl, Fr_refl⟩⟩
  · rw [show fX11_isWithin v2 0 100 = _ from c2, bd1_s, if_pos z00]
    refine ⟨_, ⟨_, rfl⟩, ⟨(x74, x75, x76, x77, x78, x101, x112, y99, y100), ?_, Fr_refl⟩⟩
    have h31 : ∀ v1, fX12_ahead_31 x79 x92 x93 x94 x95 x96 x97 v1 v2 v3 x74 x75 x76 x77 x78 x101 x112 y99 y100 = some (-1, (x74, x75, x76, x77, x78, x101, x112, y99, y100)) := fun v1 => by
      unfold fX12_ahead_31
      rw [show fX12_in v2.toInt64 0 100 = _ from d2, bd1_s, if_pos z00]
    rcases p_within (lo := 0) (hi := 2) (by omega) (by omega) v3 with ⟨n3, _, hn3, rfl, c3, d3⟩ | ⟨c3, d3⟩
    · rw [show fX12_in (nI n3).toInt64 0 2 = _ from d3, bd1_s, if_neg (show ¬ nI 1 = (0 : Int32) from one_ne)]
      by_cases k0 : nI n3 = 0
      · rw [if_pos k0]
        rcases p_house hM hT.2.2.2.2.2.1 hTR.2.2.2.2.2.1 v1 with ⟨h, hh, rfl, u1, u2⟩ | ⟨u1, u2⟩
        · rw [u2, bd1_s, if_neg (show ¬ nI 1 = (0 : Int32) from one_ne), h31]
        · rw [u2, bd1_s, if_pos z00]
      · rw [if_neg k0, h31]
    · rw [show fX12_in v3.toInt64 0 2 = _ from d3, bd1_s, if_pos z00]
end QA

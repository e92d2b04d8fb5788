section QC
variable {H M K N B : Nat} {q : Nat → Nat} {S : SN} {W : WW} {x0 x16 x17 x18 x23 x24 x25 x26 x33 x35 x36 x37 x38 x74 x75 x76 x77 x78 x79 x92 x93 x94 x95 x96 x97 x101 x112 : Nat → Int32} {y99 y100 : Nat → Int64}
def iceP (H M K N : Nat) (q : Nat → Nat) (W : WW) (S : SN) (n k : Nat) : Prop := riv H M (sPl (run H M K N q W n (sU S 2 k))) = riv H M (sPl S)
theorem riv_lt {g : Nat → Nat} : riv H M g < 64 := bset_lt _
theorem r_iced {n : Nat} (hn : n ≤ 60) (hV : VD H M B S) (hB : B ≤ 999) (hT : TR H M K N q x75 x79) (hR : RR S x75 x76 x77 x78) (hW : RW (x75 10) x92 x93 x94 x95 x96 x97 W) (hfree : x74 38 = -5) (hdr : x74 37 = -1) {a74 a112 : Nat → Int32} (hk : Kd x74 x75 x76 x77 x78 x112 a74 x75 x76 x77 x78 a112) : ∃ r z, fX12_iced_36 x79 x92 x93 x94 x95 x96 x97 (nI n) (nI (riv H M (sPl S))) (-2) 0 a74 x75 x76 x77 x78 x101 a112 y99 y100 = some (r, z) ∧ FT x74 x75 x76 x77 x78 x112 z ∧ IsF (iceP H M K N q W S n) 10 r := by
  refine loop13 (fX12_iced_36b x79 x92 x93 x94 x95 x96 x97) (fun m v1 v2 v3 v4 z74 z75 z76 z77 z78 _ z112 _ _ => ∃ i, i + m = 10 ∧ v1 = nI n ∧ v2 = nI (riv H M (sPl S)) ∧ v4 = nI i ∧ Kd x74 x75 x76 x77 x78 x112 z74 z75 z76 z77 z78 z112 ∧ ((v3 = -2 ∧ ∀ j, j < i → ¬ iceP H M K N q W S n j) ∨ ∃ k, k < 10 ∧ v3 = nI k ∧ iceP H M K N q W S n k ∧ ∀ j, j < k → ¬ iceP H M K N q W S n j)) (fun o => ∃ r z, o = some (r, z) ∧ FT x74 x75 x76 x77 x78 x112 z ∧ IsF (iceP H M K N q W S n) 10 r) ?_ ?_ 10 5000 _ _ _ _ _ _ _ _ _ _ _ _ _ (by omega) ⟨0, rfl, rfl, rfl, rfl, hk, Or.inl ⟨rfl, fun j hj => absurd hj (by omega)⟩⟩
  · rintro k m _ _ v4 _ z74 z75 z76 z77 z78 z101 z112 z99 z100 ⟨i, hi, rfl, rfl, rfl, hk, hc⟩
    have c9 : ¬ (9 : Int32) < nI i := nI_nlt (a := 9) (b := i) (by omega) (by omega)
    rcases hc with ⟨rfl, hc⟩ | ⟨k0, k1, rfl, k2, k3⟩
    · have hRz := RR_same hR hk.1.2.1 hk.1.2.2.1 hk.1.2.2.2.1 hk.1.2.2.2.2.1
      have hT' : TR H M K N q (upd z75 7 (nI i)) x79 := TR_fr (TR_same hT hk.1.2.1) fun j hj => pk_un (by omega)
      obtain ⟨b75, b76, b77, b78, b101, b99, b100, eb, hb, tb, vb⟩ := p_trial (x74 := z74) (x101 := z101) (y99 := z99) (y100 := z100) (show n ≤ 100 by omega) (VD_sI (k := i) hV (by omega)) (by omega) hT' (RR_sI (k := i) hRz) (by rw [pk_un (by omega), hk.1.2.1 10 (by omega)]; exact hW) ((hk.1.1 38 (by omega) (by omega)).trans hfree) ((hk.1.1 37 (by omega) (by omega)).trans hdr)
      obtain ⟨u74, u75, u76, u77, u78, eu, hu⟩ := p_backKd (w75 := b75) (w76 := b76) (w77 := b77) (w78 := b78) hk (fun _ _ _ => rfl)
      have er := p_riverR vb tb (RC_p hb)
      have l1 := riv_lt (H := H) (M := M) (g := sPl (run H M K N q W n (sU S 2 i)))
      have l2 := riv_lt (H := H) (M := M) (g := sPl S)
      by_cases c : iceP H M K N q W S n i
      · refine Or.inl ⟨_, _, nI i, nI (i + 1), u74, u75, u76, u77, u78, b101, z112, b99, b100, ⟨i + 1, by omega, rfl, rfl, rfl, hu, Or.inr ⟨i, by omega, rfl, c, hc⟩⟩, ?_⟩
        unfold fX12_iced_36b fX12_iced_78
        rw [if_neg c9, if_pos rfl, gd_t i7, n7', eb, bd8_s, er, bd1_s, if_pos (by rw [c]), eu, bd6_s, bn_s, nI_1]
      · refine Or.inl ⟨_, _, -2, nI (i + 1), u74, u75, u76, u77, u78, b101, z112, b99, b100, ⟨i + 1, by omega, rfl, rfl, rfl, hu, Or.inl ⟨rfl, fun j hj => ?_⟩⟩, ?_⟩
        · by_cases e : j = i
          · subst e; exact c
          · exact hc j (by omega)
        unfold fX12_iced_36b fX12_iced_78
        rw [if_neg c9, if_pos rfl, gd_t i7, n7', eb, bd8_s, er, bd1_s, if_neg (fun e => c ((nI_eq (by omega) (by omega)).mp e)), eu, bd6_s, bn_s, nI_1]
    · refine Or.inr ⟨nI k0, (z74, z75, z76, z77, z78, z101, z112, z99, z100), ?_, hk.1, Or.inl ⟨k0, k1, k2, k3, rfl⟩⟩
      have k4 : ∀ k, k < 10 → ¬ nI k = -2 := by decide
      unfold fX12_iced_36b
      rw [if_neg c9, if_neg (k4 k0 k1)]
  · rintro k _ _ v4 _ z74 z75 z76 z77 z78 z101 z112 z99 z100 ⟨i, hi, rfl, rfl, rfl, hk, hc⟩
    have ei : i = 10 := by omega
    subst ei
    refine ⟨v4, (z74, z75, z76, z77, z78, z101, z112, z99, z100), ?_, hk.1, ?_⟩
    · unfold fX12_iced_36b
      rw [if_pos (by decide)]
    · rcases hc with ⟨rfl, hc⟩ | ⟨k0, k1, rfl, k2, k3⟩
      · exact Or.inr ⟨hc, rfl⟩
      · exact Or.inl ⟨k0, k1, k2, k3, rfl⟩
theorem c_icedN {n : Nat} (hn : n ≤ 60) (hV : VD H M B S) (hB : B ≤ 999) (hT : TC H M K N q x17 x18) (hR : RC S x23 x24 x25 x26) : ∃ r c, fX11_icedN_21 x0 x16 x17 x18 x23 x24 x25 x26 (nI n) 0 x33 x35 x36 x37 x38 = some (r, c) ∧ IsF (iceP H M K N q none S n) 10 r := by
  refine loop7 (fX11_icedN_21b x0 x16 x17 x18 x23 x24 x25 x26) (fun m v1 v2 _ _ _ _ _ => ∃ i, i + m = 10 ∧ v1 = nI n ∧ v2 = nI i ∧ ∀ j, j < i → ¬ iceP H M K N q none S n j) (fun o => ∃ r c, o = some (r, c) ∧ IsF (iceP H M K N q none S n) 10 r) ?_ ?_ 10 5000 _ _ _ _ _ _ _ (by omega) ⟨0, rfl, rfl, rfl, fun j hj => absurd hj (by omega)⟩
  · rintro k m _ _ x33 x35 x36 x37 x38 ⟨i, hi, rfl, rfl, hc⟩
    have c9 : ¬ (9 : Int32) < nI i := nI_nlt (a := 9) (b := i) (by omega) (by omega)
    obtain ⟨c35, c36, c37, c38, ec, hcp⟩ := p_copy (y0 := x35) (y1 := x36) (y2 := x37) (y3 := x38) hR
    have hV' := VD_sI (k := i) hV (by omega)
    obtain ⟨d35, d36, d37, d38, d33, ed, hd⟩ := p_passAllN (n := n) (x33 := x33) (show n ≤ 1000 by omega) hV' (by omega) hT (RC_sI (k := i) hcp)
    have vb := VD_run (W := none) (q := q) (N := N) (n := n) hT.2.1 hV'
    have er := p_riverC vb hT (RC_p hd)
    have er0 := p_riverC hV hT (RC_p hR)
    have l1 := riv_lt (H := H) (M := M) (g := sPl (run H M K N q none n (sU S 2 i)))
    have l2 := riv_lt (H := H) (M := M) (g := sPl S)
    by_cases c : iceP H M K N q none S n i
    · refine Or.inr ⟨nI i, (d33, d35, d36, d37, d38), ?_, Or.inl ⟨i, by omega, c, hc, rfl⟩⟩
      unfold fX11_icedN_21b
      rw [if_neg c9, ec, bd4_s, ed, bd5_s, er, bd1_s, er0, bd1_s, if_pos (by rw [c])]
    · refine Or.inl ⟨_, nI (i + 1), d33, d35, d36, d37, d38, ⟨i + 1, by omega, rfl, rfl, fun j hj => ?_⟩, ?_⟩
      · by_cases e : j = i
        · subst e; exact c
        · exact hc j (by omega)
      unfold fX11_icedN_21b
      rw [if_neg c9, ec, bd4_s, ed, bd5_s, er, bd1_s, er0, bd1_s, if_neg (fun e => c ((nI_eq (by omega) (by omega)).mp e)), bn_s, nI_1]
  · rintro k _ _ x33 x35 x36 x37 x38 ⟨i, hi, rfl, rfl, hc⟩
    have ei : i = 10 := by omega
    subst ei
    refine ⟨-2, (x33, x35, x36, x37, x38), ?_, Or.inr ⟨hc, rfl⟩⟩
    unfold fX11_icedN_21b
    rw [if_pos (by decide)]
theorem e_icedN (hQ : QQ H M K N B q S none x17 x18 x23 x24 x25 x26 x74 x75 x76 x77 x78 x79 x92 x93 x94 x95 x96 x97) (v1 : Int32) : ∃ r, (∃ c, fX11_icedN x0 x16 x17 x18 x23 x24 x25 x26 v1 x33 x35 x36 x37 x38 = some (r, c)) ∧ ∃ z, fX12_iced x79 x92 x93 x94 x95 x96 x97 v1 x74 x75 x76 x77 x78 x101 x112 y99 y100 = some (r, z) ∧ FT x74 x75 x76 x77 x78 x112 z := by
  obtain ⟨hV, hB, hT, hTR, hR, hRR, hW, hfree, hdr⟩ := hQ
  obtain ⟨hM, hH5, hH, hgr, _⟩ := id hV.1
  have tl := p_told1 hT.2.2.1 (by omega) hH
  have tw := p_town1 hTR.2.2.1 (by omega) hH
  unfold fX11_icedN fX11_icedN_0 fX12_iced fX12_iced_0
  rw [tl, tw, bd1_s, bd1_s, if_neg (show ¬ nI 1 = (0 : Int32) from one_ne), if_neg (show ¬ nI 1 = (0 : Int32) from one_ne)]
  rcases p_within (lo := 1) (hi := 60) (by omega) (by omega) v1 with ⟨n, n1, n2, rfl, c2, d2⟩ | ⟨c2, d2⟩
  · rw [show fX11_isWithin (nI n) 1 60 = _ from c2, bd1_s, if_neg (show ¬ nI 1 = (0 : Int32) from one_ne), show fX12_in (nI n).toInt64 1 60 = _ from d2, bd1_s, if_neg (show ¬ nI 1 = (0 : Int32) from one_ne)]
    obtain ⟨a74, a112, ea, ka⟩ := p_keepsKd (x74 := x74) (x75 := x75) (x76 := x76) (x77 := x77) (x78 := x78) (x112 := x112)
    obtain ⟨r, c, ec, hc⟩ := c_icedN (x0 := x0) (x16 := x16) (x33 := x33) (x35 := x35) (x36 := x36) (x37 := x37) (x38 := x38) n2 hV hB hT hR
    obtain ⟨r', z', er, hf, hr⟩ := r_iced (x101 := x101) (y99 := y99) (y100 := y100) n2 hV hB hTR hRR hW hfree hdr ka
    have e := IsF_uniq hc hr
    subst e
    refine ⟨r, ⟨c, ec⟩, z', ?_, hf⟩
    rw [p_riverR hV hTR (RC_p hRR), bd1_s, ea, bd6_s, er]
  · rw [show fX11_isWithin v1 1 60 = _ from c2, bd1_s, if_pos z00, show fX12_in v1.toInt64 1 60 = _ from d2, bd1_s, if_pos z00]
    exact ⟨_, ⟨_, rfl⟩, ⟨_, rfl, Fr_refl⟩⟩
theorem c_icedR {Lru : Nat} {xr : Nat → Int32} {W : (Nat → Int64) → Int64} {z y : Nat → Int64} (hC : CW Lru xr W) {n : Nat} (hn : n ≤ 60) (hV : VD H M B S) (hB : B ≤ 999) (hT : TC H M K N q x17 x18) (hR : RC S x23 x24 x25 x26) : ∃ r c, fX11_icedR_21 Lru xr x0 x16 x17 x18 x23 x24 x25 x26 (nI n) 0 x33 x35 x36 x37 x38 z y = some (r, c) ∧ IsF (iceP H M K N q (some W) S n) 10 r := by
  refine loop9 (fX11_icedR_21b Lru xr x0 x16 x17 x18 x23 x24 x25 x26) (fun m v1 v2 _ _ _ _ _ _ _ => ∃ i, i + m = 10 ∧ v1 = nI n ∧ v2 = nI i ∧ ∀ j, j < i → ¬ iceP H M K N q (some W) S n j) (fun o => ∃ r c, o = some (r, c) ∧ IsF (iceP H M K N q (some W) S n) 10 r) ?_ ?_ 10 5000 _ _ _ _ _ _ _ _ _ (by omega) ⟨0, rfl, rfl, rfl, fun j hj => absurd hj (by omega)⟩
  · rintro k m _ _ x33 x35 x36 x37 x38 zz yy ⟨i, hi, rfl, rfl, hc⟩
    have c9 : ¬ (9 : Int32) < nI i := nI_nlt (a := 9) (b := i) (by omega) (by omega)
    obtain ⟨c35, c36, c37, c38, ec, hcp⟩ := p_copy (y0 := x35) (y1 := x36) (y2 := x37) (y3 := x38) hR
    have hV' := VD_sI (k := i) hV (by omega)
    obtain ⟨d35, d36, d37, d38, d33, zz1, yy1, ed, hd⟩ := p_passAllR (n := n) (x33 := x33) (z := zz) (y := yy) (show n ≤ 1000 by omega) hC hV' (by omega) hT (RC_sI (k := i) hcp)
    have vb := VD_run (W := (some W)) (q := q) (N := N) (n := n) hT.2.1 hV'
    have er := p_riverC vb hT (RC_p hd)
    have er0 := p_riverC hV hT (RC_p hR)
    have l1 := riv_lt (H := H) (M := M) (g := sPl (run H M K N q (some W) n (sU S 2 i)))
    have l2 := riv_lt (H := H) (M := M) (g := sPl S)
    by_cases c : iceP H M K N q (some W) S n i
    · refine Or.inr ⟨nI i, (d33, d35, d36, d37, d38, zz1, yy1), ?_, Or.inl ⟨i, by omega, c, hc, rfl⟩⟩
      unfold fX11_icedR_21b
      rw [if_neg c9, ec, bd4_s, ed, bd7_s, er, bd1_s, er0, bd1_s, if_pos (by rw [c])]
    · refine Or.inl ⟨_, nI (i + 1), d33, d35, d36, d37, d38, zz1, yy1, ⟨i + 1, by omega, rfl, rfl, fun j hj => ?_⟩, ?_⟩
      · by_cases e : j = i
        · subst e; exact c
        · exact hc j (by omega)
      unfold fX11_icedR_21b
      rw [if_neg c9, ec, bd4_s, ed, bd7_s, er, bd1_s, er0, bd1_s, if_neg (fun e => c ((nI_eq (by omega) (by omega)).mp e)), bn_s, nI_1]
  · rintro k _ _ x33 x35 x36 x37 x38 zz yy ⟨i, hi, rfl, rfl, hc⟩
    have ei : i = 10 := by omega
    subst ei
    refine ⟨-2, (x33, x35, x36, x37, x38, zz, yy), ?_, Or.inr ⟨hc, rfl⟩⟩
    unfold fX11_icedR_21b
    rw [if_pos (by decide)]
theorem e_icedR {Lru : Nat} {xr : Nat → Int32} {W : (Nat → Int64) → Int64} {z y : Nat → Int64} (hC : CW Lru xr W) (hQ : QQ H M K N B q S (some W) x17 x18 x23 x24 x25 x26 x74 x75 x76 x77 x78 x79 x92 x93 x94 x95 x96 x97) (v1 : Int32) : ∃ r, (∃ c, fX11_icedR Lru xr x0 x16 x17 x18 x23 x24 x25 x26 v1 x33 x35 x36 x37 x38 z y = some (r, c)) ∧ ∃ z, fX12_iced x79 x92 x93 x94 x95 x96 x97 v1 x74 x75 x76 x77 x78 x101 x112 y99 y100 = some (r, z) ∧ FT x74 x75 x76 x77 x78 x112 z := by
  obtain ⟨hV, hB, hT, hTR, hR, hRR, hW, hfree, hdr⟩ := hQ
  obtain ⟨hM, hH5, hH, hgr, _⟩ := id hV.1
  have tl := p_told1 hT.2.2.1 (by omega) hH
  have tw := p_town1 hTR.2.2.1 (by omega) hH
  unfold fX11_icedR fX11_icedR_0 fX12_iced fX12_iced_0
  rw [tl, tw, bd1_s, bd1_s, if_neg (show ¬ nI 1 = (0 : Int32) from one_ne), if_neg (show ¬ nI 1 = (0 : Int32) from one_ne)]
  rcases p_within (lo := 1) (hi := 60) (by omega) (by omega) v1 with ⟨n, n1, n2, rfl, c2, d2⟩ | ⟨c2, d2⟩
  · rw [show fX11_isWithin (nI n) 1 60 = _ from c2, bd1_s, if_neg (show ¬ nI 1 = (0 : Int32) from one_ne), show fX12_in (nI n).toInt64 1 60 = _ from d2, bd1_s, if_neg (show ¬ nI 1 = (0 : Int32) from one_ne)]
    obtain ⟨a74, a112, ea, ka⟩ := p_keepsKd (x74 := x74) (x75 := x75) (x76 := x76) (x77 := x77) (x78 := x78) (x112 := x112)
    obtain ⟨r, c, ec, hc⟩ := c_icedR (x0 := x0) (x16 := x16) (x33 := x33) (x35 := x35) (x36 := x36) (x37 := x37) (x38 := x38) (z := z) (y := y) hC n2 hV hB hT hR
    obtain ⟨r', z', er, hf, hr⟩ := r_iced (x101 := x101) (y99 := y99) (y100 := y100) n2 hV hB hTR hRR hW hfree hdr ka
    have e := IsF_uniq hc hr
    subst e
    refine ⟨r, ⟨c, ec⟩, z', ?_, hf⟩
    rw [p_riverR hV hTR (RC_p hRR), bd1_s, ea, bd6_s, er]
  · rw [show fX11_isWithin v1 1 60 = _ from c2, bd1_s, if_pos z00, show fX12_in v1.toInt64 1 60 = _ from d2, bd1_s, if_pos z00]
    exact ⟨_, ⟨_, rfl⟩, ⟨_, rfl, Fr_refl⟩⟩
/-- nothing goes up the hill -/
theorem stp_up {t h : Nat} (hh : h < 6) : sPl S h ≤ sPl (stp H M K N q W t S) h := by
  unfold stp stepS
  rw [mk_p hh]
  unfold g2
  omega
theorem run_up {h : Nat} (hh : h < 6) : ∀ {n S}, sPl S h ≤ sPl (run H M K N q W n S) h
  | 0, _ => Nat.le_refl _
  | n + 1, S => Nat.le_trans (stp_up hh) (run_up hh (n := n))
def stoP (H M K N : Nat) (q : Nat → Nat) (W : WW) (S : SN) (h at' n k : Nat) : Bool := decide (sPl (run H M K N q W n (sU S (3 + h) k)) h = at')
theorem r_stood {h n a w : Nat} (hh : h < M) (hn : n ≤ 60) (ha : a ≤ H) (hw : w ≤ 1) (hV : VD H M B S) (hB : B ≤ 999) (hT : TR H M K N q x75 x79) (hR : RR S x75 x76 x77 x78) (hW : RW (x75 10) x92 x93 x94 x95 x96 x97 W) (hfree : x74 38 = -5) (hdr : x74 37 = -1) {a74 a112 : Nat → Int32} (hk : Kd x74 x75 x76 x77 x78 x112 a74 x75 x76 x77 x78 a112) : ∃ z, fX12_stood_63 x79 x92 x93 x94 x95 x96 x97 (nI h) (nI a) (nI n) (nI w) 0 (-2) 0 a74 x75 x76 x77 x78 x101 a112 y99 y100 = some (if w = 0 then nI (cf (stoP H M K N q W S h a n) H).1 else (cf (stoP H M K N q W S h a n) H).2, z) ∧ FT x74 x75 x76 x77 x78 x112 z := by
  have hM := hV.1.1
  have hH := hV.1.2.2.1
  refine loop16 (fX12_stood_63b x79 x92 x93 x94 x95 x96 x97) (fun m v1 v2 v3 v4 v5 v6 v7 z74 z75 z76 z77 z78 _ z112 _ _ => ∃ i, i + m = H ∧ v1 = nI h ∧ v2 = nI a ∧ v3 = nI n ∧ v4 = nI w ∧ v5 = nI (cf (stoP H M K N q W S h a n) i).1 ∧ v6 = (cf (stoP H M K N q W S h a n) i).2 ∧ v7 = nI i ∧ Kd x74 x75 x76 x77 x78 x112 z74 z75 z76 z77 z78 z112) (fun o => ∃ z, o = some (if w = 0 then nI (cf (stoP H M K N q W S h a n) H).1 else (cf (stoP H M K N q W S h a n) H).2, z) ∧ FT x74 x75 x76 x77 x78 x112 z) ?_ ?_ H 5000 _ _ _ _ _ _ _ _ _ _ _ _ _ _ _ _ (by omega) ⟨0, by omega, rfl, rfl, rfl, rfl, rfl, rfl, rfl, hk⟩
  · rintro k m _ _ _ _ _ _ _ z74 z75 z76 z77 z78 z101 z112 z99 z100 ⟨i, hi, rfl, rfl, rfl, rfl, rfl, rfl, rfl, hk⟩
    have hRz := RR_same hR hk.1.2.1 hk.1.2.2.1 hk.1.2.2.2.1 hk.1.2.2.2.2.1
    have hV' := VD_sP (k := i) hV hh (by omega)
    obtain ⟨u74, u75, u76, u77, u78, u101, u99, u100, eu, hu⟩ := p_placeIn (x101 := z101) (y99 := z99) (y100 := z100) hk (show h < 6 by omega) (show n ≤ 100 by omega) hV' (by omega) hT (RC_sP (k := i) hRz (by omega)) hW hfree hdr
    have vb := VD_run (W := W) (q := q) (N := N) (n := n) hT.2.1 hV'
    have p1 := (vb.1.2.2.2.1 h (by omega)).1
    have h0 : z75 0 = nI H := (hk.1.2.1 0 (by omega)).trans hT.2.2.1
    have cl := cf_le (stoP H M K N q W S h a n) i
    by_cases c : stoP H M K N q W S h a n i = true
    · have c' : sPl (run H M K N q W n (sU S (3 + h) i)) h = a := by simpa [stoP] using c
      have e1 : cf (stoP H M K N q W S h a n) (i + 1) = ((cf (stoP H M K N q W S h a n) i).1 + 1, if (cf (stoP H M K N q W S h a n) i).1 = 0 then nI i else (cf (stoP H M K N q W S h a n) i).2) := by
        show (if _ then _ else _) = _
        rw [if_pos c]
      refine Or.inl ⟨nI h, nI a, nI n, nI w, nI (cf (stoP H M K N q W S h a n) (i + 1)).1, (cf (stoP H M K N q W S h a n) (i + 1)).2, nI (i + 1), u74, u75, u76, u77, u78, u101, z112, u99, u100, ⟨i + 1, by omega, rfl, rfl, rfl, rfl, rfl, rfl, rfl, hu⟩, ?_⟩
      rw [e1]
      unfold fX12_stood_63b fX12_stood_104 fX12_stood_109
      rw [gd_t i0, n0', h0, if_neg (nI_ge (show i < H by omega) (by omega)), gd_t (in6 (show h < 6 by omega)), cl6 (show h < 6 by omega), eu, bd10_s, if_pos (by rw [c'])]
      by_cases c3 : (cf (stoP H M K N q W S h a n) i).1 = 0
      · rw [if_pos (by rw [c3]; rfl), bn_s, bn_s, nI_1, nI_1, if_pos c3]
      · rw [if_neg (ne0 c3 (by omega)), bn_s, bn_s, nI_1, nI_1, if_neg c3]
    · have c' : ¬ sPl (run H M K N q W n (sU S (3 + h) i)) h = a := by simpa [stoP] using c
      have e1 : cf (stoP H M K N q W S h a n) (i + 1) = cf (stoP H M K N q W S h a n) i := by
        show (if _ then _ else _) = _
        rw [if_neg c]
      refine Or.inl ⟨nI h, nI a, nI n, nI w, nI (cf (stoP H M K N q W S h a n) (i + 1)).1, (cf (stoP H M K N q W S h a n) (i + 1)).2, nI (i + 1), u74, u75, u76, u77, u78, u101, z112, u99, u100, ⟨i + 1, by omega, rfl, rfl, rfl, rfl, rfl, rfl, rfl, hu⟩, ?_⟩
      rw [e1]
      unfold fX12_stood_63b fX12_stood_109
      rw [gd_t i0, n0', h0, if_neg (nI_ge (show i < H by omega) (by omega)), gd_t (in6 (show h < 6 by omega)), cl6 (show h < 6 by omega), eu, bd10_s, if_neg (fun e => c' ((nI_eq (by omega) (by omega)).mp e)), bn_s, nI_1]
  · rintro k _ _ _ _ _ _ _ z74 z75 z76 z77 z78 z101 z112 z99 z100 ⟨i, hi, rfl, rfl, rfl, rfl, rfl, rfl, rfl, hk⟩
    have ei : i = H := by omega
    subst ei
    have h0 : z75 0 = nI i := (hk.1.2.1 0 (by omega)).trans hT.2.2.1
    refine ⟨(z74, z75, z76, z77, z78, z101, z112, z99, z100), ?_, hk.1⟩
    unfold fX12_stood_63b
    rw [gd_t i0, n0', h0, if_pos (nI_le (Nat.le_refl _) (by omega))]
    by_cases c : w = 0
    · rw [if_pos (by rw [c]; rfl), if_pos c]
    · rw [if_neg (ne0 c (by omega)), if_neg c]
theorem c_stoodN {h n a w : Nat} (hh : h < M) (hn : n ≤ 60) (ha : a ≤ H) (hw : w ≤ 1) (hV : VD H M B S) (hB : B ≤ 999) (hT : TC H M K N q x17 x18) (hR : RC S x23 x24 x25 x26) : ∃ c, fX11_stoodN_58 x0 x16 x17 x18 x23 x24 x25 x26 (nI h) (nI a) (nI n) (nI w) 0 (-2) 0 x33 x35 x36 x37 x38 = some (if w = 0 then nI (cf (stoP H M K N q none S h a n) H).1 else (cf (stoP H M K N q none S h a n) H).2, c) := by
  have hM := hV.1.1
  have hH := hV.1.2.2.1
  have h0 := hT.2.2.1
  have hL : cf (stoP H M K N q none S h a n) H = cf (stoP H M K N q none S h a n) (min (a + 1) H) := by
    have e : min (a + 1) H + (H - min (a + 1) H) = H := by omega
    have key := cf_ext (P := stoP H M K N q none S h a n) (L := min (a + 1) H) (H - min (a + 1) H) fun j h1 h2 => ?_
    · rw [e] at key; exact key
    have := run_up (H := H) (M := M) (K := K) (N := N) (q := q) (W := none) (h := h) (show h < 6 by omega) (n := n) (S := sU S (3 + h) j)
    have e2 : sPl (sU S (3 + h) j) h = j := sU_s
    unfold stoP
    rw [decide_eq_false_iff_not]
    omega
  rw [hL]
  refine loop12 (fX11_stoodN_58b x0 x16 x17 x18 x23 x24 x25 x26) (fun m v1 v2 v3 v4 v5 v6 v7 _ _ _ _ _ => ∃ i, i + m = min (a + 1) H ∧ v1 = nI h ∧ v2 = nI a ∧ v3 = nI n ∧ v4 = nI w ∧ v5 = nI (cf (stoP H M K N q none S h a n) i).1 ∧ v6 = (cf (stoP H M K N q none S h a n) i).2 ∧ v7 = nI i) (fun o => ∃ c, o = some (if w = 0 then nI (cf (stoP H M K N q none S h a n) (min (a + 1) H)).1 else (cf (stoP H M K N q none S h a n) (min (a + 1) H)).2, c)) ?_ ?_ (min (a + 1) H) 5000 _ _ _ _ _ _ _ _ _ _ _ _ (by omega) ⟨0, by omega, rfl, rfl, rfl, rfl, rfl, rfl, rfl⟩
  · rintro k m _ _ _ _ _ _ _ x33 x35 x36 x37 x38 ⟨i, hi, rfl, rfl, rfl, rfl, rfl, rfl, rfl⟩
    obtain ⟨c35, c36, c37, c38, ec, hcp⟩ := p_copy (y0 := x35) (y1 := x36) (y2 := x37) (y3 := x38) hR
    have hV' := VD_sP (k := i) hV hh (by omega)
    obtain ⟨d35, d36, d37, d38, d33, ed, hd⟩ := p_passAllN (n := n) (x33 := x33) (show n ≤ 1000 by omega) hV' (by omega) hT (RC_sP (k := i) hcp (by omega))
    have vb := VD_run (W := none) (q := q) (N := N) (n := n) hT.2.1 hV'
    have p1 := (vb.1.2.2.2.1 h (by omega)).1
    have cl := cf_le (stoP H M K N q none S h a n) i
    by_cases c : stoP H M K N q none S h a n i = true
    · have c' : sPl (run H M K N q none n (sU S (3 + h) i)) h = a := by simpa [stoP] using c
      have e1 : cf (stoP H M K N q none S h a n) (i + 1) = ((cf (stoP H M K N q none S h a n) i).1 + 1, if (cf (stoP H M K N q none S h a n) i).1 = 0 then nI i else (cf (stoP H M K N q none S h a n) i).2) := by
        show (if _ then _ else _) = _
        rw [if_pos c]
      refine Or.inl ⟨nI h, nI a, nI n, nI w, nI (cf (stoP H M K N q none S h a n) (i + 1)).1, (cf (stoP H M K N q none S h a n) (i + 1)).2, nI (i + 1), d33, d35, d36, d37, d38, ⟨i + 1, by omega, rfl, rfl, rfl, rfl, rfl, rfl, rfl⟩, ?_⟩
      rw [e1]
      unfold fX11_stoodN_58b fX11_stoodN_145 fX11_stoodN_150
      rw [if_neg (nI_nlt (a := a) (b := i) (by omega) (by omega)), h0, if_neg (nI_ge (show i < H by omega) (by omega)), ec, bd4_s, gd_t (in6 (show h < 6 by omega)), cl6 (show h < 6 by omega), ed, bd5_s, gd_t (in6 (show h < 6 by omega)), RC_p hd h (by omega), if_pos (by rw [c'])]
      by_cases c3 : (cf (stoP H M K N q none S h a n) i).1 = 0
      · rw [if_pos (by rw [c3]; rfl), bn_s, bn_s, nI_1, nI_1, if_pos c3]
      · rw [if_neg (ne0 c3 (by omega)), bn_s, bn_s, nI_1, nI_1, if_neg c3]
    · have c' : ¬ sPl (run H M K N q none n (sU S (3 + h) i)) h = a := by simpa [stoP] using c
      have e1 : cf (stoP H M K N q none S h a n) (i + 1) = cf (stoP H M K N q none S h a n) i := by
        show (if _ then _ else _) = _
        rw [if_neg c]
      refine Or.inl ⟨nI h, nI a, nI n, nI w, nI (cf (stoP H M K N q none S h a n) (i + 1)).1, (cf (stoP H M K N q none S h a n) (i + 1)).2, nI (i + 1), d33, d35, d36, d37, d38, ⟨i + 1, by omega, rfl, rfl, rfl, rfl, rfl, rfl, rfl⟩, ?_⟩
      rw [e1]
      unfold fX11_stoodN_58b fX11_stoodN_150
      rw [if_neg (nI_nlt (a := a) (b := i) (by omega) (by omega)), h0, if_neg (nI_ge (show i < H by omega) (by omega)), ec, bd4_s, gd_t (in6 (show h < 6 by omega)), cl6 (show h < 6 by omega), ed, bd5_s, gd_t (in6 (show h < 6 by omega)), RC_p hd h (by omega), if_neg (fun e => c' ((nI_eq (by omega) (by omega)).mp e)), bn_s, nI_1]
  · rintro k _ _ _ _ _ _ _ x33 x35 x36 x37 x38 ⟨i, hi, rfl, rfl, rfl, rfl, rfl, rfl, rfl⟩
    have ei : i = min (a + 1) H := by omega
    rw [← ei]
    have fin : ∃ c, fX11_stoodN_156 x0 x16 x17 x18 x23 x24 x25 x26 (nI w) (nI (cf (stoP H M K N q none S h a n) i).1) (cf (stoP H M K N q none S h a n) i).2 x33 x35 x36 x37 x38 = some (if w = 0 then nI (cf (stoP H M K N q none S h a n) i).1 else (cf (stoP H M K N q none S h a n) i).2, c) := by
      unfold fX11_stoodN_156
      by_cases c : w = 0
      · rw [if_pos (by rw [c]; rfl), if_pos c]; exact ⟨_, rfl⟩
      · rw [if_neg (ne0 c (by omega)), if_neg c]; exact ⟨_, rfl⟩
    unfold fX11_stoodN_58b
    by_cases c : a < i
    · rw [if_pos (nI_lt c (by omega))]; exact fin
    · rw [if_neg (nI_nlt (by omega) (by omega)), h0, if_pos (nI_le (by omega) (by omega))]; exact fin
theorem e_stoodN (hQ : QQ H M K N B q S none x17 x18 x23 x24 x25 x26 x74 x75 x76 x77 x78 x79 x92 x93 x94 x95 x96 x97) (v1 v2 v3 v4 : Int32) : ∃ r, (∃ c, fX11_stoodN x0 x16 x17 x18 x23 x24 x25 x26 v1 v2 v3 v4 x33 x35 x36 x37 x38 = some (r, c)) ∧ ∃ z, fX12_stood x79 x92 x93 x94 x95 x96 x97 v1 v2 v3 v4 x74 x75 x76 x77 x78 x101 x112 y99 y100 = some (r, z) ∧ FT x74 x75 x76 x77 x78 x112 z := by
  obtain ⟨hV, hB, hT, hTR, hR, hRR, hW, hfree, hdr⟩ := hQ
  obtain ⟨hM, hH5, hH, hgr, _⟩ := id hV.1
  unfold fX11_stoodN fX11_stoodN_0 fX12_stood fX12_stood_0
  rcases p_house hM hT.2.2.2.2.2.1 hTR.2.2.2.2.2.1 v1 with ⟨h, hh, rfl, u1, u2⟩ | ⟨u1, u2⟩
  · rw [u1, u2, bd1_s, bd1_s, if_neg (show ¬ nI 1 = (0 : Int32) from one_ne), if_neg (show ¬ nI 1 = (0 : Int32) from one_ne), gd_t i0, n0', hT.2.2.1, hTR.2.2.1, nI_l (show H < 2147483648 by omega)]
    rcases p_within (lo := 0) (hi := H) (by omega) (by omega) v2 with ⟨a, a1, a2, rfl, c2, d2⟩ | ⟨c2, d2⟩
    · rw [show fX11_isWithin (nI a) 0 (nI H) = _ from c2, bd1_s, if_neg (show ¬ nI 1 = (0 : Int32) from one_ne), show fX12_in (nI a).toInt64 0 (lN H) = _ from d2, bd1_s, if_neg (show ¬ nI 1 = (0 : Int32) from one_ne)]
      rcases p_within (lo := 1) (hi := 30) (by omega) (by omega) v3 with ⟨n, n1, n2, rfl, c3, d3⟩ | ⟨c3, d3⟩
      · rw [show fX11_isWithin (nI n) 1 30 = _ from c3, bd1_s, if_neg (show ¬ nI 1 = (0 : Int32) from one_ne), show fX12_in (nI n).toInt64 1 30 = _ from d3, bd1_s, if_neg (show ¬ nI 1 = (0 : Int32) from one_ne)]
        rcases p_within (lo := 0) (hi := 1) (by omega) (by omega) v4 with ⟨w, w1, w2, rfl, c4, d4⟩ | ⟨c4, d4⟩
        · rw [show fX11_isWithin (nI w) 0 1 = _ from c4, bd1_s, if_neg (show ¬ nI 1 = (0 : Int32) from one_ne), show fX12_in (nI w).toInt64 0 1 = _ from d4, bd1_s, if_neg (show ¬ nI 1 = (0 : Int32) from one_ne)]
          obtain ⟨a74, a112, ea, ka⟩ := p_keepsKd (x74 := x74) (x75 := x75) (x76 := x76) (x77 := x77) (x78 := x78) (x112 := x112)
          obtain ⟨c, ec⟩ := c_stoodN (x0 := x0) (x16 := x16) (x33 := x33) (x35 := x35) (x36 := x36) (x37 := x37) (x38 := x38) hh (show n ≤ 60 by omega) a2 w2 hV hB hT hR
          obtain ⟨z', er, hf⟩ := r_stood (x101 := x101) (y99 := y99) (y100 := y100) hh (show n ≤ 60 by omega) a2 w2 hV hB hTR hRR hW hfree hdr ka
          refine ⟨_, ⟨c, ec⟩, z', ?_, hf⟩
          rw [ea, bd6_s, er]
        · rw [show fX11_isWithin v4 0 1 = _ from c4, bd1_s, if_pos z00, show fX12_in v4.toInt64 0 1 = _ from d4, bd1_s, if_pos z00]
          exact ⟨_, ⟨_, rfl⟩, ⟨_, rfl, Fr_refl⟩⟩
      · rw [show fX11_isWithin v3 1 30 = _ from c3, bd1_s, if_pos z00, show fX12_in v3.toInt64 1 30 = _ from d3, bd1_s, if_pos z00]
        exact ⟨_, ⟨_, rfl⟩, ⟨_, rfl, Fr_refl⟩⟩
    · rw [show fX11_isWithin v2 0 (nI H) = _ from c2, bd1_s, if_pos z00, show fX12_in v2.toInt64 0 (lN H) = _ from d2, bd1_s, if_pos z00]
      exact ⟨_, ⟨_, rfl⟩, ⟨_, rfl, Fr_refl⟩⟩
  · rw [u1, u2, bd1_s, bd1_s, if_pos z00, if_pos z00]
    exact ⟨_, ⟨_, rfl⟩, ⟨_, rfl, Fr_refl⟩⟩
theorem c_stoodR {Lru : Nat} {xr : Nat → Int32} {W : (Nat → Int64) → Int64} {z y : Nat → Int64} (hC : CW Lru xr W) {h n a w : Nat} (hh : h < M) (hn : n ≤ 60) (ha : a ≤ H) (hw : w ≤ 1) (hV : VD H M B S) (hB : B ≤ 999) (hT : TC H M K N q x17 x18) (hR : RC S x23 x24 x25 x26) : ∃ c, fX11_stoodR_58 Lru xr x0 x16 x17 x18 x23 x24 x25 x26 (nI h) (nI a) (nI n) (nI w) 0 (-2) 0 x33 x35 x36 x37 x38 z y = some (if w = 0 then nI (cf (stoP H M K N q (some W) S h a n) H).1 else (cf (stoP H M K N q (some W) S h a n) H).2, c) := by
  have hM := hV.1.1
  have hH := hV.1.2.2.1
  have h0 := hT.2.2.1
  have hL : cf (stoP H M K N q (some W) S h a n) H = cf (stoP H M K N q (some W) S h a n) (min (a + 1) H) := by
    have e : min (a + 1) H + (H - min (a + 1) H) = H := by omega
    have key := cf_ext (P := stoP H M K N q (some W) S h a n) (L := min (a + 1) H) (H - min (a + 1) H) fun j h1 h2 => ?_
    · rw [e] at key; exact key
    have := run_up (H := H) (M := M) (K := K) (N := N) (q := q) (W := (some W)) (h := h) (show h < 6 by omega) (n := n) (S := sU S (3 + h) j)
    have e2 : sPl (sU S (3 + h) j) h = j := sU_s
    unfold stoP
    rw [decide_eq_false_iff_not]
    omega
  rw [hL]
  refine loop14 (fX11_stoodR_58b Lru xr x0 x16 x17 x18 x23 x24 x25 x26) (fun m v1 v2 v3 v4 v5 v6 v7 _ _ _ _ _ _ _ => ∃ i, i + m = min (a + 1) H ∧ v1 = nI h ∧ v2 = nI a ∧ v3 = nI n ∧ v4 = nI w ∧ v5 = nI (cf (stoP H M K N q (some W) S h a n) i).1 ∧ v6 = (cf (stoP H M K N q (some W) S h a n) i).2 ∧ v7 = nI i) (fun o => ∃ c, o = some (if w = 0 then nI (cf (stoP H M K N q (some W) S h a n) (min (a + 1) H)).1 else (cf (stoP H M K N q (some W) S h a n) (min (a + 1) H)).2, c)) ?_ ?_ (min (a + 1) H) 5000 _ _ _ _ _ _ _ _ _ _ _ _ _ _ (by omega) ⟨0, by omega, rfl, rfl, rfl, rfl, rfl, rfl, rfl⟩
  · rintro k m _ _ _ _ _ _ _ x33 x35 x36 x37 x38 zz yy ⟨i, hi, rfl, rfl, rfl, rfl, rfl, rfl, rfl⟩
    obtain ⟨c35, c36, c37, c38, ec, hcp⟩ := p_copy (y0 := x35) (y1 := x36) (y2 := x37) (y3 := x38) hR
    have hV' := VD_sP (k := i) hV hh (by omega)
    obtain ⟨d35, d36, d37, d38, d33, zz1, yy1, ed, hd⟩ := p_passAllR (n := n) (x33 := x33) (z := zz) (y := yy) (show n ≤ 1000 by omega) hC hV' (by omega) hT (RC_sP (k := i) hcp (by omega))
    have vb := VD_run (W := (some W)) (q := q) (N := N) (n := n) hT.2.1 hV'
    have p1 := (vb.1.2.2.2.1 h (by omega)).1
    have cl := cf_le (stoP H M K N q (some W) S h a n) i
    by_cases c : stoP H M K N q (some W) S h a n i = true
    · have c' : sPl (run H M K N q (some W) n (sU S (3 + h) i)) h = a := by simpa [stoP] using c
      have e1 : cf (stoP H M K N q (some W) S h a n) (i + 1) = ((cf (stoP H M K N q (some W) S h a n) i).1 + 1, if (cf (stoP H M K N q (some W) S h a n) i).1 = 0 then nI i else (cf (stoP H M K N q (some W) S h a n) i).2) := by
        show (if _ then _ else _) = _
        rw [if_pos c]
      refine Or.inl ⟨nI h, nI a, nI n, nI w, nI (cf (stoP H M K N q (some W) S h a n) (i + 1)).1, (cf (stoP H M K N q (some W) S h a n) (i + 1)).2, nI (i + 1), d33, d35, d36, d37, d38, zz1, yy1, ⟨i + 1, by omega, rfl, rfl, rfl, rfl, rfl, rfl, rfl⟩, ?_⟩
      rw [e1]
      unfold fX11_stoodR_58b fX11_stoodR_145 fX11_stoodR_150
      rw [if_neg (nI_nlt (a := a) (b := i) (by omega) (by omega)), h0, if_neg (nI_ge (show i < H by omega) (by omega)), ec, bd4_s, gd_t (in6 (show h < 6 by omega)), cl6 (show h < 6 by omega), ed, bd7_s, gd_t (in6 (show h < 6 by omega)), RC_p hd h (by omega), if_pos (by rw [c'])]
      by_cases c3 : (cf (stoP H M K N q (some W) S h a n) i).1 = 0
      · rw [if_pos (by rw [c3]; rfl), bn_s, bn_s, nI_1, nI_1, if_pos c3]
      · rw [if_neg (ne0 c3 (by omega)), bn_s, bn_s, nI_1, nI_1, if_neg c3]
    · have c' : ¬ sPl (run H M K N q (some W) n (sU S (3 + h) i)) h = a := by simpa [stoP] using c
      have e1 : cf (stoP H M K N q (some W) S h a n) (i + 1) = cf (stoP H M K N q (some W) S h a n) i := by
        show (if _ then _ else _) = _
        rw [if_neg c]
      refine Or.inl ⟨nI h, nI a, nI n, nI w, nI (cf (stoP H M K N q (some W) S h a n) (i + 1)).1, (cf (stoP H M K N q (some W) S h a n) (i + 1)).2, nI (i + 1), d33, d35, d36, d37, d38, zz1, yy1, ⟨i + 1, by omega, rfl, rfl, rfl, rfl, rfl, rfl, rfl⟩, ?_⟩
      rw [e1]
      unfold fX11_stoodR_58b fX11_stoodR_150
      rw [if_neg (nI_nlt (a := a) (b := i) (by omega) (by omega)), h0, if_neg (nI_ge (show i < H by omega) (by omega)), ec, bd4_s, gd_t (in6 (show h < 6 by omega)), cl6 (show h < 6 by omega), ed, bd7_s, gd_t (in6 (show h < 6 by omega)), RC_p hd h (by omega), if_neg (fun e => c' ((nI_eq (by omega) (by omega)).mp e)), bn_s, nI_1]
  · rintro k _ _ _ _ _ _ _ x33 x35 x36 x37 x38 zz yy ⟨i, hi, rfl, rfl, rfl, rfl, rfl, rfl, rfl⟩
    have ei : i = min (a + 1) H := by omega
    rw [← ei]
    have fin : ∃ c, fX11_stoodR_156 Lru xr x0 x16 x17 x18 x23 x24 x25 x26 (nI w) (nI (cf (stoP H M K N q (some W) S h a n) i).1) (cf (stoP H M K N q (some W) S h a n) i).2 x33 x35 x36 x37 x38 zz yy = some (if w = 0 then nI (cf (stoP H M K N q (some W) S h a n) i).1 else (cf (stoP H M K N q (some W) S h a n) i).2, c) := by
      unfold fX11_stoodR_156
      by_cases c : w = 0
      · rw [if_pos (by rw [c]; rfl), if_pos c]; exact ⟨_, rfl⟩
      · rw [if_neg (ne0 c (by omega)), if_neg c]; exact ⟨_, rfl⟩
    unfold fX11_stoodR_58b
    by_cases c : a < i
    · rw [if_pos (nI_lt c (by omega))]; exact fin
    · rw [if_neg (nI_nlt (by omega) (by omega)), h0, if_pos (nI_le (by omega) (by omega))]; exact fin
theorem e_stoodR {Lru : Nat} {xr : Nat → Int32} {W : (Nat → Int64) → Int64} {z y : Nat → Int64} (hC : CW Lru xr W) (hQ : QQ H M K N B q S (some W) x17 x18 x23 x24 x25 x26 x74 x75 x76 x77 x78 x79 x92 x93 x94 x95 x96 x97) (v1 v2 v3 v4 : Int32) : ∃ r, (∃ c, fX11_stoodR Lru xr x0 x16 x17 x18 x23 x24 x25 x26 v1 v2 v3 v4 x33 x35 x36 x37 x38 z y = some (r, c)) ∧ ∃ z, fX12_stood x79 x92 x93 x94 x95 x96 x97 v1 v2 v3 v4 x74 x75 x76 x77 x78 x101 x112 y99 y100 = some (r, z) ∧ FT x74 x75 x76 x77 x78 x112 z := by
  obtain ⟨hV, hB, hT, hTR, hR, hRR, hW, hfree, hdr⟩ := hQ
  obtain ⟨hM, hH5, hH, hgr, _⟩ := id hV.1
  unfold fX11_stoodR fX11_stoodR_0 fX12_stood fX12_stood_0
  rcases p_house hM hT.2.2.2.2.2.1 hTR.2.2.2.2.2.1 v1 with ⟨h, hh, rfl, u1, u2⟩ | ⟨u1, u2⟩
  · rw [u1, u2, bd1_s, bd1_s, if_neg (show ¬ nI 1 = (0 : Int32) from one_ne), if_neg (show ¬ nI 1 = (0 : Int32) from one_ne), gd_t i0, n0', hT.2.2.1, hTR.2.2.1, nI_l (show H < 2147483648 by omega)]
    rcases p_within (lo := 0) (hi := H) (by omega) (by omega) v2 with ⟨a, a1, a2, rfl, c2, d2⟩ | ⟨c2, d2⟩
    · rw [show fX11_isWithin (nI a) 0 (nI H) = _ from c2, bd1_s, if_neg (show ¬ nI 1 = (0 : Int32) from one_ne), show fX12_in (nI a).toInt64 0 (lN H) = _ from d2, bd1_s, if_neg (show ¬ nI 1 = (0 : Int32) from one_ne)]
      rcases p_within (lo := 1) (hi := 30) (by omega) (by omega) v3 with ⟨n, n1, n2, rfl, c3, d3⟩ | ⟨c3, d3⟩
      · rw [show fX11_isWithin (nI n) 1 30 = _ from c3, bd1_s, if_neg (show ¬ nI 1 = (0 : Int32) from one_ne), show fX12_in (nI n).toInt64 1 30 = _ from d3, bd1_s, if_neg (show ¬ nI 1 = (0 : Int32) from one_ne)]
        rcases p_within (lo := 0) (hi := 1) (by omega) (by omega) v4 with ⟨w, w1, w2, rfl, c4, d4⟩ | ⟨c4, d4⟩
        · rw [show fX11_isWithin (nI w) 0 1 = _ from c4, bd1_s, if_neg (show ¬ nI 1 = (0 : Int32) from one_ne), show fX12_in (nI w).toInt64 0 1 = _ from d4, bd1_s, if_neg (show ¬ nI 1 = (0 : Int32) from one_ne)]
          obtain ⟨a74, a112, ea, ka⟩ := p_keepsKd (x74 := x74) (x75 := x75) (x76 := x76) (x77 := x77) (x78 := x78) (x112 := x112)
          obtain ⟨c, ec⟩ := c_stoodR (x0 := x0) (x16 := x16) (x33 := x33) (x35 := x35) (x36 := x36) (x37 := x37) (x38 := x38) (z := z) (y := y) hC hh (show n ≤ 60 by omega) a2 w2 hV hB hT hR
          obtain ⟨z', er, hf⟩ := r_stood (x101 := x101) (y99 := y99) (y100 := y100) hh (show n ≤ 60 by omega) a2 w2 hV hB hTR hRR hW hfree hdr ka
          refine ⟨_, ⟨c, ec⟩, z', ?_, hf⟩
          rw [ea, bd6_s, er]
        · rw [show fX11_isWithin v4 0 1 = _ from c4, bd1_s, if_pos z00, show fX12_in v4.toInt64 0 1 = _ from d4, bd1_s, if_pos z00]
          exact ⟨_, ⟨_, rfl⟩, ⟨_, rfl, Fr_refl⟩⟩
      · rw [show fX11_isWithin v3 1 30 = _ from c3, bd1_s, if_pos z00, show fX12_in v3.toInt64 1 30 = _ from d3, bd1_s, if_pos z00]
        exact ⟨_, ⟨_, rfl⟩, ⟨_, rfl, Fr_refl⟩⟩
    · rw [show fX11_isWithin v2 0 (nI H) = _ from c2, bd1_s, if_pos z00, show fX12_in v2.toInt64 0 (lN H) = _ from d2, bd1_s, if_pos z00]
      exact ⟨_, ⟨_, rfl⟩, ⟨_, rfl, Fr_refl⟩⟩
  · rw [u1, u2, bd1_s, bd1_s, if_pos z00, if_pos z00]
    exact ⟨_, ⟨_, rfl⟩, ⟨_, rfl, Fr_refl⟩⟩
end QC

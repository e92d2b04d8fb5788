section COULD
variable {H M K N B : Nat} {q : Nat → Nat} {S S0 : SN} {W : WW} {n : Nat} {nd nh np : Nat → Nat} {x28 x29 x30 x74 x75 x76 x77 x78 x79 x80 x81 x82 x83 x84 x85 x92 x93 x94 x95 x96 x97 x101 x110 x112 : Nat → Int32} {y99 y100 : Nat → Int64}
theorem p_copies {L : Nat} (hL : L ≤ 1000) {xa xb : Nat → Int32} : ∃ y, fX12_copies L L xa xb = some y ∧ ∀ j, j < L → y j = xa j := by
  unfold fX12_copies fX12_copies_0 fX12_copies_2
  refine loop2 (fX12_copies_2b L L xa) (fun m v2 y => ∃ i, i + m = L ∧ v2 = nI i ∧ ∀ j, j < i → y j = xa j) (fun o => ∃ y, o = some y ∧ ∀ j, j < L → y j = xa j) ?_ ?_ L 5000 _ _ (by omega) ⟨0, by omega, rfl, fun j hj => absurd hj (by omega)⟩
  · rintro k m _ y ⟨i, hi, rfl, hy⟩
    refine Or.inl ⟨nI (i + 1), upd y i (xa i), ⟨i + 1, by omega, rfl, fun j hj => ?_⟩, ?_⟩
    · by_cases e : j = i
      · subst e; rw [pk_us]
      · rw [pk_un e]; exact hy j (by omega)
    · unfold fX12_copies_2b
      rw [if_neg (show ¬ Int32.ofNat L ≤ nI i from nI_ge (a := i) (b := L) (by omega) (by omega)), gd_t (inbN (show i < L by omega) (by omega)), gd_t (inbN (show i < L by omega) (by omega)), bn_s, nI_1, clN (by omega)]
  · rintro k _ y ⟨i, hi, rfl, hy⟩
    have ei : i = L := by omega
    subst ei
    refine ⟨y, ?_, hy⟩
    unfold fX12_copies_2b
    rw [if_pos (show Int32.ofNat i ≤ nI i from nI_le (a := i) (b := i) (Nat.le_refl _) (by omega))]
/-- what was told of the beginning, in the reference's rows -/
def BG (S0 : SN) (c1 : Int32) (x83 x84 x85 : Nat → Int32) : Prop := S0 0 = 0 ∧ S0 2 = 0 ∧ c1 = nI (S0 1) ∧ (∀ j, j < 6 → x83 j = nI (S0 (3 + j))) ∧ (∀ j, j < 6 → x84 j = nI (S0 (9 + j))) ∧ ∀ j, j < 36 → x85 j = nI (S0 (15 + j))
theorem p_begins (hb : BG S0 (x75 1) x83 x84 x85) : ∃ z75 z76 z77 z78, fX12_begins x83 x84 x85 x75 x76 x77 x78 = some (z75, z76, z77, z78) ∧ RR S0 z75 z76 z77 z78 ∧ ∀ j, j < 5 ∨ 8 ≤ j → z75 j = x75 j := by
  obtain ⟨b0, b2, b1, b3, b9, b15⟩ := hb
  obtain ⟨y1, e1, h1⟩ := p_copies (L := 6) (by omega) (xa := x83) (xb := x76)
  obtain ⟨y2, e2, h2⟩ := p_copies (L := 6) (by omega) (xa := x84) (xb := x77)
  obtain ⟨y3, e3, h3⟩ := p_copies (L := 36) (by omega) (xa := x85) (xb := x78)
  refine ⟨upd (upd (upd x75 5 0) 6 (x75 1)) 7 0, y1, y2, y3, ?_, ⟨fun j hj => ?_, fun j hj => (h1 j hj).trans (b3 j hj), fun j hj => (h2 j hj).trans (b9 j hj), fun j hj => (h3 j hj).trans (b15 j hj)⟩, fun j hj => by rw [pk_un (by omega), pk_un (by omega), pk_un (by omega)]⟩
  · unfold fX12_begins fX12_begins_0
    rw [e1, bd1_s, e2, bd1_s, e3, bd1_s, gd_t i5, gd_t (by decide), gd_t i6, gd_t i7]
    rfl
  · match j, hj with
    | 0, _ => show (0 : Int32) = nI (S0 0); rw [b0]; rfl
    | 1, _ => exact b1
    | 2, _ => show (0 : Int32) = nI (S0 2); rw [b2]; rfl
    | j + 3, hj => omega
/-- the places of each day, laid -/
def LYd (H M K N : Nat) (q : Nat → Nat) (W : WW) (S0 : SN) (d : Nat) (x110 : Nat → Int32) : Prop := ∀ m, m < d → ∀ h, h < 6 → x110 (6 * m + h) = nI (sPl (run H M K N q W m S0) h)
abbrev K10 : Type := Int32 → (Nat → Int32) → (Nat → Int32) → (Nat → Int32) → (Nat → Int32) → (Nat → Int32) → (Nat → Int32) → (Nat → Int32) → (Nat → Int32) → (Nat → Int64) → (Nat → Int64) → Option (Int32 × T10)
theorem r_couldIn {d : Nat} {z74 z75 z76 z77 z78 z101 z110 z112 : Nat → Int32} {z99 z100 : Nat → Int64} (hd : d ≤ 60) (hV : VD H M 0 S0) (hT : TR H M K N q z75 x79) (hR : RR (run H M K N q W d S0) z75 z76 z77 z78) (hW : RW (z75 10) x92 x93 x94 x95 x96 x97 W) (hfree : z74 38 = -5) (hdr : z74 37 = -1) (hl : LYd H M K N q W S0 d z110) (k14 : K10) : ∃ u75 u76 u77 u78 u101 u110 u99 u100, fX12_couldRule_22 x79 x80 x81 x82 x83 x84 x85 x92 x93 x94 x95 x96 x97 k14 (nI d) 0 z74 z75 z76 z77 z78 z101 z110 z112 z99 z100 = k14 (nI (d + 1)) z74 u75 u76 u77 u78 u101 u110 z112 u99 u100 ∧ RR (run H M K N q W (d + 1) S0) u75 u76 u77 u78 ∧ (∀ j, j < 5 ∨ 8 ≤ j → u75 j = z75 j) ∧ LYd H M K N q W S0 (d + 1) u110 := by
  unfold fX12_couldRule_22
  refine loop12 (fX12_couldRule_22b x79 x80 x81 x82 x83 x84 x85 x92 x93 x94 x95 x96 x97 k14) (fun m v2 v3 w74 w75 w76 w77 w78 w101 w110 w112 w99 w100 => ∃ i, i + m = 6 ∧ v2 = nI d ∧ v3 = nI i ∧ z74 = w74 ∧ z75 = w75 ∧ z76 = w76 ∧ z77 = w77 ∧ z78 = w78 ∧ z101 = w101 ∧ z112 = w112 ∧ z99 = w99 ∧ z100 = w100 ∧ LYd H M K N q W S0 d w110 ∧ ∀ h, h < i → w110 (6 * d + h) = nI (sPl (run H M K N q W d S0) h)) (fun o => ∃ u75 u76 u77 u78 u101 u110 u99 u100, o = k14 (nI (d + 1)) z74 u75 u76 u77 u78 u101 u110 z112 u99 u100 ∧ RR (run H M K N q W (d + 1) S0) u75 u76 u77 u78 ∧ (∀ j, j < 5 ∨ 8 ≤ j → u75 j = z75 j) ∧ LYd H M K N q W S0 (d + 1) u110) ?_ ?_ 6 5000 _ _ _ _ _ _ _ _ _ _ _ _ (by omega) ⟨0, rfl, rfl, rfl, rfl, rfl, rfl, rfl, rfl, rfl, rfl, rfl, rfl, hl, fun h hh => absurd hh (by omega)⟩
  · rintro k m _ _ _ _ _ _ _ _ w110 _ _ _ ⟨i, hi, rfl, rfl, rfl, rfl, rfl, rfl, rfl, rfl, rfl, rfl, rfl, hl', hh⟩
    refine Or.inl ⟨nI d, nI (i + 1), z74, z75, z76, z77, z78, z101, upd w110 (6 * d + i) (nI (sPl (run H M K N q W d S0) i)), z112, z99, z100, ⟨i + 1, by omega, rfl, rfl, rfl, rfl, rfl, rfl, rfl, rfl, rfl, rfl, rfl, fun m' hm h h6 => by rw [pk_un (by omega)]; exact hl' m' hm h h6, fun h h' => ?_⟩, ?_⟩
    · by_cases e : h = i
      · subst e; rw [pk_us]
      · rw [pk_un (by omega)]; exact hh h (by omega)
    · unfold fX12_couldRule_22b
      rw [if_neg (le6 (by omega)), gd_t (in6 (by omega)), ixR, gd_t (inbN (by omega) (by decide)), bn_s, nI_1, clN (by omega), cl6 (by omega), RC_p hR i (by omega)]
  · rintro k _ _ _ _ _ _ _ _ w110 _ _ _ ⟨i, hi, rfl, rfl, rfl, rfl, rfl, rfl, rfl, rfl, rfl, rfl, rfl, hl', hh⟩
    have ei : i = 6 := by omega
    subst ei
    have hVd := VD_run (W := W) (q := q) (N := N) (n := d) hT.2.1 hV
    obtain ⟨u75, u76, u77, u78, u101, u99, u100, e, hr, hf⟩ := p_goes (x101 := z101) (y99 := z99) (y100 := z100) hVd (by omega) hT hfree (Or.inr ⟨hdr, rfl⟩) hR hW
    refine ⟨u75, u76, u77, u78, u101, w110, u99, u100, ?_, by rw [run_s]; exact hr, hf, fun m' hm h h6 => ?_⟩
    · unfold fX12_couldRule_22b
      rw [if_pos ge6, e, bd9_s, bn_s, nI_1]
    · by_cases c : m' = d
      · subst c; exact hh h h6
      · exact hl' m' (by omega) h h6
def CRq (H M K N : Nat) (q : Nat → Nat) (W : WW) (S0 : SN) (n : Nat) (nd nh np : Nat → Nat) (x74 x75 x76 x77 x78 x112 : Nat → Int32) (o : Option (Int32 × T10)) : Prop := ∃ r u74 u75 u76 u77 u78 u101 u110 u112 u99 u100, o = some (r, u74, u75, u76, u77, u78, u101, u110, u112, u99, u100) ∧ Kd x74 x75 x76 x77 x78 x112 u74 u75 u76 u77 u78 u112 ∧ LYd H M K N q W S0 61 u110 ∧ ((r = nI 1 ∧ okA H M K N q W n nd nh np S0) ∨ (r = nI 0 ∧ ¬ okA H M K N q W n nd nh np S0))
theorem r_could68 {u74 u75 u76 u77 u78 u101 u110 u112 : Nat → Int32} {u99 u100 : Nat → Int64} (hM : M ≤ 6) (hH : H ≤ 60) (hV : VD H M 0 S0) (hK : K ≤ 9) (hN : NT H M n nd nh np x28 x29 x30 x80 x81 x82) (h8 : x75 8 = nI n) (hk : Kd x74 x75 x76 x77 x78 x112 u74 u75 u76 u77 u78 u112) (hl : LYd H M K N q W S0 61 u110) : CRq H M K N q W S0 n nd nh np x74 x75 x76 x77 x78 x112 (fX12_couldRule_68 x79 x80 x81 x82 x83 x84 x85 x92 x93 x94 x95 x96 x97 0 u74 u75 u76 u77 u78 u101 u110 u112 u99 u100) := by
  obtain ⟨hn, hj⟩ := hN
  have h8' : u75 (8 : Int32).toNatClampNeg = nI n := (hk.1.2.1 8 (by omega)).trans h8
  unfold fX12_couldRule_68
  refine loop11 (fX12_couldRule_68b x79 x80 x81 x82 x83 x84 x85 x92 x93 x94 x95 x96 x97) (fun m v2 w74 w75 w76 w77 w78 w101 w110 w112 w99 w100 => ∃ i, i + m = n ∧ v2 = nI i ∧ u74 = w74 ∧ u75 = w75 ∧ u76 = w76 ∧ u77 = w77 ∧ u78 = w78 ∧ u101 = w101 ∧ u110 = w110 ∧ u112 = w112 ∧ u99 = w99 ∧ u100 = w100 ∧ ∀ j, j < i → sPl (run H M K N q W (nd j) S0) (nh j) = np j) (CRq H M K N q W S0 n nd nh np x74 x75 x76 x77 x78 x112) ?_ ?_ n 5000 _ _ _ _ _ _ _ _ _ _ _ (by omega) ⟨0, by omega, rfl, rfl, rfl, rfl, rfl, rfl, rfl, rfl, rfl, rfl, rfl, fun j hj => absurd hj (by omega)⟩
  · rintro k m _ _ _ _ _ _ _ _ _ _ _ ⟨i, hi, rfl, rfl, rfl, rfl, rfl, rfl, rfl, rfl, rfl, rfl, rfl, ho⟩
    obtain ⟨⟨a1, a2, a3⟩, _, b1, b2, b3⟩ := hj i (by omega)
    have gi := ((VD_run (W := W) (q := q) (N := N) (n := nd i) hK hV).1.2.2.2.1 (nh i) (by omega)).1
    have li := hl (nd i) (by omega) (nh i) (by omega)
    by_cases c : sPl (run H M K N q W (nd i) S0) (nh i) = np i
    · refine Or.inl ⟨nI (i + 1), u74, u75, u76, u77, u78, u101, u110, u112, u99, u100, ⟨i + 1, by omega, rfl, rfl, rfl, rfl, rfl, rfl, rfl, rfl, rfl, rfl, rfl, fun j hj' => ?_⟩, ?_⟩
      · by_cases e : j = i
        · subst e; exact c
        · exact ho j (by omega)
      · unfold fX12_couldRule_68b
        rw [gd_t (by decide), h8', if_neg (nI_ge (show i < n by omega) (by omega)), gd_t (inbN (by omega) (by decide)), gd_t (inbN (by omega) (by decide)), clN (by omega), b1, b2, b3, ixR, gd_t (inbN (by omega) (by decide)), gd_t (inbN (by omega) (by decide)), clN (by omega), li, if_pos (by rw [c]), bn_s, nI_1]
    · refine Or.inr ⟨nI 0, u74, u75, u76, u77, u78, u101, u110, u112, u99, u100, ?_, hk, hl, Or.inr ⟨rfl, fun h => c (h i (by omega))⟩⟩
      unfold fX12_couldRule_68b
      rw [gd_t (by decide), h8', if_neg (nI_ge (show i < n by omega) (by omega)), gd_t (inbN (by omega) (by decide)), gd_t (inbN (by omega) (by decide)), clN (by omega), b1, b2, b3, ixR, gd_t (inbN (by omega) (by decide)), gd_t (inbN (by omega) (by decide)), clN (by omega), li, if_neg (fun e => c ((nI_eq (by omega) (by omega)).mp e))]
      rfl
  · rintro k _ _ _ _ _ _ _ _ _ _ _ ⟨i, hi, rfl, rfl, rfl, rfl, rfl, rfl, rfl, rfl, rfl, rfl, rfl, ho⟩
    have ei : i = n := by omega
    subst ei
    refine ⟨nI 1, u74, u75, u76, u77, u78, u101, u110, u112, u99, u100, ?_, hk, hl, Or.inl ⟨rfl, ho⟩⟩
    unfold fX12_couldRule_68b
    rw [gd_t (by decide), h8', if_pos (nI_le (Nat.le_refl _) (by omega))]
    rfl
theorem r_could {v1 : Int32} {z74 z75 z76 z77 z78 z101 z110 z112 : Nat → Int32} {z99 z100 : Nat → Int64} (hV : VD H M 0 S0) (hT : TR H M K N q x75 x79) (hb : BG S0 (x75 1) x83 x84 x85) (hW : RW v1 x92 x93 x94 x95 x96 x97 W) (hfree : x74 38 = -5) (hdr : x74 37 = -1) (hN : NT H M n nd nh np x28 x29 x30 x80 x81 x82) (h8 : x75 8 = nI n) (hk : Kd x74 x75 x76 x77 x78 x112 z74 z75 z76 z77 z78 z112) : CRq H M K N q W S0 n nd nh np x74 x75 x76 x77 x78 x112 (fX12_couldRule x79 x80 x81 x82 x83 x84 x85 x92 x93 x94 x95 x96 x97 v1 z74 z75 z76 z77 z78 z101 z110 z112 z99 z100) := by
  obtain ⟨hM, hH5, hH, hgr, _⟩ := id hV.1
  have b1 : upd z75 10 v1 1 = x75 1 := by rw [pk_un (by omega)]; exact hk.1.2.1 1 (by omega)
  obtain ⟨w75, w76, w77, w78, ew, hw, fw⟩ := p_begins (x75 := upd z75 10 v1) (x76 := z76) (x77 := z77) (x78 := z78) (S0 := S0) (x83 := x83) (x84 := x84) (x85 := x85) (by rw [b1]; exact hb)
  unfold fX12_couldRule fX12_couldRule_0
  rw [gd_t i10, n10', ew, bd4_s]
  have hT0 : TR H M K N q (upd z75 10 v1) x79 := TR_5 (TR_same hT hk.1.2.1) fun j hj => pk_un (by omega)
  unfold fX12_couldRule_14
  refine loop11 (fX12_couldRule_14b x79 x80 x81 x82 x83 x84 x85 x92 x93 x94 x95 x96 x97) (fun m v2 a74 a75 a76 a77 a78 _ a110 a112 _ _ => ∃ d, d + m = 61 ∧ v2 = nI d ∧ z74 = a74 ∧ RR (run H M K N q W d S0) a75 a76 a77 a78 ∧ (∀ j, j < 5 ∨ 8 ≤ j → a75 j = upd z75 10 v1 j) ∧ z112 = a112 ∧ LYd H M K N q W S0 d a110) (CRq H M K N q W S0 n nd nh np x74 x75 x76 x77 x78 x112) ?_ ?_ 61 5000 _ _ _ _ _ _ _ _ _ _ _ (by omega) ⟨0, rfl, rfl, rfl, hw, fw, rfl, fun m hm => absurd hm (by omega)⟩
  · rintro k m _ _ a75 a76 a77 a78 a101 a110 _ a99 a100 ⟨d, hd, rfl, rfl, hr, hf, rfl, hl⟩
    obtain ⟨u75, u76, u77, u78, u101, u110, u99, u100, e, hr', hf', hl'⟩ := r_couldIn (x80 := x80) (x81 := x81) (x82 := x82) (x83 := x83) (x84 := x84) (x85 := x85) (z74 := z74) (z101 := a101) (z112 := z112) (z99 := a99) (z100 := a100) (show d ≤ 60 by omega) hV (TR_fr hT0 hf) hr (by rw [hf 10 (by omega), pk_us]; exact hW) ((hk.1.1 38 (by omega) (by omega)).trans hfree) ((hk.1.1 37 (by omega) (by omega)).trans hdr) hl k
    refine Or.inl ⟨nI (d + 1), z74, u75, u76, u77, u78, u101, u110, z112, u99, u100, ⟨d + 1, by omega, rfl, rfl, hr', fun j hj => (hf' j hj).trans (hf j hj), rfl, hl'⟩, ?_⟩
    rw [← e]
    unfold fX12_couldRule_14b
    rw [if_neg (show ¬ (60 : Int32) < nI d from nI_nlt (a := 60) (by omega) (by omega))]
  · rintro k _ _ a75 a76 a77 a78 a101 a110 _ a99 a100 ⟨d, hd, rfl, rfl, hr, hf, rfl, hl⟩
    have ed : d = 61 := by omega
    subst ed
    obtain ⟨u74, u75, u76, u77, u78, eu, hu⟩ := p_backKd (w75 := a75) (w76 := a76) (w77 := a77) (w78 := a78) hk (fun _ _ _ => rfl)
    have e2 : fX12_couldRule_14b x79 x80 x81 x82 x83 x84 x85 x92 x93 x94 x95 x96 x97 k (nI 61) z74 a75 a76 a77 a78 a101 a110 z112 a99 a100 = fX12_couldRule_68 x79 x80 x81 x82 x83 x84 x85 x92 x93 x94 x95 x96 x97 0 u74 u75 u76 u77 u78 a101 a110 z112 a99 a100 := by
      unfold fX12_couldRule_14b
      rw [if_pos (by decide), eu, bd6_s]
    rw [e2]
    exact r_could68 hM hH hV hT.2.1 hN h8 hu hl
end COULD

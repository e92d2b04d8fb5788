section ROWR
variable {H M K N B : Nat} {q : Nat → Nat} {S : SN} {x74 x75 x76 x77 x78 x79 x92 x93 x94 x95 x96 x97 x101 x105 x106 x107 x112 : Nat → Int32} {y99 y100 : Nat → Int64}
def rv (H M K N : Nat) (q : Nat → Nat) (os : Nat → OP) : Nat → Nat → SN → Bool → SN × Bool
  | 0, _, S, ok => (S, ok)
  | m + 1, k, S, ok => rv H M K N q os m (k + 1) (stR H M K N q S (if (ok && feas S (os k)) = true then os k else none)) (ok && feas S (os k))
/-- rows tried, all laid back but for whether the last could be gone -/
def KR (x74 x75 x76 x77 x78 x112 z74 z75 z76 z77 z78 z112 : Nat → Int32) : Prop := (∀ j, j ≠ 39 → j ≠ 56 → j ≠ 57 → z74 j = x74 j) ∧ (∀ j, j < 11 → z75 j = x75 j) ∧ (∀ j, j < 6 → z76 j = x76 j) ∧ (∀ j, j < 6 → z77 j = x77 j) ∧ (∀ j, j < 36 → z78 j = x78 j) ∧ (∀ j, j < 5200 → z112 j = x112 j) ∧ Kp x75 x76 x77 x78 z112
theorem VD_rv {os : Nat → OP} (hK : K ≤ 9) (ho : ∀ k, opV M (os k)) : ∀ m k B S ok, VD H M B S → VD H M (B + m) (rv H M K N q os m k S ok).1
  | 0, _, _, _, _, h => h
  | m + 1, k, B, S, ok, h => by
    have := VD_rv hK ho m (k + 1) (B + 1) _ (ok && feas S (os k)) (VD_stR (N := N) (q := q) (ok := ok) hK h (ho k))
    rw [show B + 1 + m = B + (m + 1) by omega] at this
    exact this
theorem r_places {n bs code codes : Nat} {os : Nat → OP} {dv dg : Nat → Nat} {z74 z75 z76 z77 z78 z101 z106 z112 : Nat → Int32} {z99 z100 : Nat → Int64} (hn : n ≤ 3) (hb0 : 0 < bs) (hb : bs ≤ 16) (hcode : code < 5000) (hdv0 : dv 0 = codes) (hcs : codes < 5000) (hdv : ∀ k, k < n → dv (k + 1) = dv k / bs ∧ 0 < dv (k + 1) ∧ dg k = code / dv (k + 1) % bs) (hdl : ∀ k, k ≤ n → dv k < 5000) (ho : ∀ k, opV M (os k)) (hdg : ∀ k, k < n → (dg k = 0 ∧ os k = none) ∨ (dg k ≠ 0 ∧ x105 (dg k - 1) = oc (os k))) (hV : VD H M B S) (hB : B ≤ 999) (hT : TR H M K N q x75 x79) (hR : RR S x75 x76 x77 x78) (hfree : x74 38 = -5) (hdr : x74 37 = -1) (hk : KR x74 x75 x76 x77 x78 x112 z74 z75 z76 z77 z78 z112) : ∃ u74 u75 u76 u77 u78 u101 u106 u99 u100, fX12_placesByRow x79 x92 x93 x94 x95 x96 x97 x105 (nI n) (nI code) (nI codes) (nI (bs - 1)) z74 z75 z76 z77 z78 z101 z106 z112 z99 z100 = some (if (rv H M K N q os n 0 S true).2 = true then nI (plc (sPl (rv H M K N q os n 0 S true).1) M) else 100000, u74, u75, u76, u77, u78, u101, u106, z112, u99, u100) ∧ KR x74 x75 x76 x77 x78 x112 u74 u75 u76 u77 u78 z112 ∧ ∀ j, j < n → u106 j = oc (os j) := by
  obtain ⟨hM, hH5, hH, hgr, _⟩ := id hV.1
  have ebs : nI (bs - 1) + 1 = nI bs := by rw [nI_1, show bs - 1 + 1 = bs by omega]
  obtain ⟨k74, k75, k76, k77, k78, k112, kp⟩ := id hk
  have hT0 := TR_same hT k75
  unfold fX12_placesByRow fX12_placesByRow_0 fX12_placesByRow_11
  refine loop15 (fX12_placesByRow_11b x79 x92 x93 x94 x95 x96 x97 x105) (fun m v1 v2 v4 v5 v6 w74 w75 w76 w77 w78 _ w106 w112 _ _ => ∃ k S' ok, k + m = n ∧ v1 = nI n ∧ v2 = nI code ∧ v4 = nI (bs - 1) ∧ v5 = nI (dv k) ∧ v6 = nI k ∧ (∀ j, j ≠ 38 → j ≠ 39 → w74 j = z74 j) ∧ w74 39 = (if ok = true then nI 1 else nI 0) ∧ RR S' w75 w76 w77 w78 ∧ (∀ j, j < 5 ∨ 8 ≤ j → w75 j = z75 j) ∧ z112 = w112 ∧ VD H M (B + k) S' ∧ (∀ j, j < k → w106 j = oc (os j)) ∧ rv H M K N q os m k S' ok = rv H M K N q os n 0 S true) (fun o => ∃ u74 u75 u76 u77 u78 u101 u106 u99 u100, o = some (if (rv H M K N q os n 0 S true).2 = true then nI (plc (sPl (rv H M K N q os n 0 S true).1) M) else 100000, u74, u75, u76, u77, u78, u101, u106, z112, u99, u100) ∧ KR x74 x75 x76 x77 x78 x112 u74 u75 u76 u77 u78 z112 ∧ ∀ j, j < n → u106 j = oc (os j)) ?_ ?_ n 5000 _ _ _ _ _ _ _ _ _ _ _ _ _ _ _ (by omega) ⟨0, S, true, by omega, rfl, rfl, rfl, by rw [hdv0], rfl, fun j _ h9 => pk_un h9, rfl, RR_same hR k75 k76 k77 k78, fun _ _ => rfl, rfl, hV, fun j hj => absurd hj (by omega), rfl⟩
  · rintro kk m _ _ _ _ _ w74 w75 w76 w77 w78 w101 w106 _ w99 w100 ⟨k, S', ok, hkm, rfl, rfl, rfl, rfl, rfl, f74, f39, hR', f75, rfl, hV', h106, hu⟩
    obtain ⟨d1, d2, d3⟩ := hdv k (by omega)
    have dl := hdl k (by omega)
    have dl1 := hdl (k + 1) (by omega)
    have dgl : dg k < bs := by rw [d3]; exact Nat.mod_lt _ hb0
    have hcd : code / dv (k + 1) < 5000 := Nat.lt_of_le_of_lt (Nat.div_le_self _ _) hcode
    have w37 : upd w74 38 (oc (os k)) 37 = -1 := by rw [pk_un (by omega), f74 37 (by omega) (by omega), k74 37 (by omega) (by omega) (by omega)]; exact hdr
    obtain ⟨r, u75, u76, u77, u78, u101, e, hr, hf⟩ := r_goesRow (x74 := upd w74 38 (oc (os k))) (x92 := x92) (x93 := x93) (x94 := x94) (x95 := x95) (x96 := x96) (x97 := x97) (x101 := w101) (y99 := w99) (y100 := w100) (o := os k) (ok := ok) hV' (by omega) (TR_fr hT0 f75) hR' w37 (ho k) pk_us (by rw [pk_un (by omega)]; exact f39)
    have step : fX12_placesByRow_56 x79 x92 x93 x94 x95 x96 x97 x105 kk (nI n) (nI code) (nI (bs - 1)) (nI (dv (k + 1))) (nI k) (oc (os k)) w74 w75 w76 w77 w78 w101 w106 z112 w99 w100 = kk (nI n) (nI code) (nI (bs - 1)) (nI (dv (k + 1))) (nI (k + 1)) (upd (upd w74 38 (oc (os k))) 39 (if (ok && feas S' (os k)) = true then nI 1 else nI 0)) u75 u76 u77 u78 u101 (upd w106 k (oc (os k))) z112 w99 w100 := by
      unfold fX12_placesByRow_56
      rw [gd_t (inbN (by omega) (by decide)), e, bd9_s, bn_s, nI_1, clN (by omega), pk_us]
    refine Or.inl ⟨_, _, _, _, _, _, u75, u76, u77, u78, u101, _, z112, w99, w100, ⟨k + 1, stR H M K N q S' (if (ok && feas S' (os k)) = true then os k else none), ok && feas S' (os k), by omega, rfl, rfl, rfl, rfl, rfl, fun j j8 j9 => by rw [pk_un j9, pk_un j8]; exact f74 j j8 j9, pk_us, hr, fun j hj => (hf j hj).trans (f75 j hj), rfl, VD_stR hT.2.1 hV' (ho k), fun j hj => ?_, hu⟩, Eq.trans ?_ step⟩
    · by_cases c : j = k
      · subst c; rw [pk_us]
      · rw [pk_un c]; exact h106 j (by omega)
    · unfold fX12_placesByRow_11b
      rw [if_neg (nI_ge (show k < n by omega) (by omega)), ebs, gd_t (nz_t (by omega) (by omega)), pk_div (by omega) hb0 (by omega), bn_s, ← d1, gd_t (nz_t (by omega) (by omega)), gd_t (nz_t (by omega) (by omega)), pk_div (by omega) d2 (by omega), pk_rem (by omega) hb0 (by omega), bn_s, ← d3]
      rcases hdg k (by omega) with ⟨g0, g1⟩ | ⟨g0, g1⟩
      · rw [if_pos (by rw [g0]; rfl), g1]; rfl
      · rw [if_neg (ne0 g0 (by omega)), zI1, nsub (by omega), gd_t (inbN (by omega) (by decide)), clN (by omega), g1]
  · rintro kk _ _ _ _ _ w74 w75 w76 w77 w78 w101 w106 _ w99 w100 ⟨k, S', ok, hkm, rfl, rfl, rfl, rfl, rfl, f74, f39, hR', f75, rfl, hV', h106, hu⟩
    have ek : k = n := by omega
    subst ek
    have hu' : (S', ok) = rv H M K N q os k 0 S true := hu
    rw [← hu']
    obtain ⟨e74, e75, e76, e77, e78, ee, fe, g75, g76, g77, g78⟩ := p_laysBack (x74 := upd w74 38 (-5)) (x75 := w75) (x76 := w76) (x77 := w77) (x78 := w78) kp
    have kr : KR x74 x75 x76 x77 x78 x112 e74 e75 e76 e77 e78 z112 := ⟨fun j j9 j6 j7 => by
      rw [fe j j6 j7]
      by_cases c : j = 38
      · subst c; rw [pk_us, hfree]
      · rw [pk_un c, f74 j c j9]; exact k74 j j9 j6 j7, g75, g76, g77, g78, k112, kp⟩
    refine ⟨e74, e75, e76, e77, e78, w101, w106, w99, w100, ?_, kr, h106⟩
    unfold fX12_placesByRow_11b fX12_placesByRow_104
    rw [if_pos (nI_le (Nat.le_refl _) (by omega)), pk_un (show (39 : Nat) ≠ 38 by omega), f39]
    cases ok with
    | false => rw [if_neg Bool.false_ne_true, if_pos z00, ee, bd6_s]; rfl
    | true =>
      rw [if_pos rfl, if_neg (show ¬ nI 1 = (0 : Int32) from one_ne), p_placesR hM ((f75 4 (by omega)).trans ((k75 4 (by omega)).trans hT.2.2.2.2.2.1)) (RC_p hR'), bd1_s, ee, bd6_s]
      rfl
end ROWR

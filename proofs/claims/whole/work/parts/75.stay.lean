/-- the first of whom it is so -/
def IsF (P : Nat → Prop) (L : Nat) (r : Int32) : Prop := (∃ k, k < L ∧ P k ∧ (∀ j, j < k → ¬ P j) ∧ r = nI k) ∨ ((∀ j, j < L → ¬ P j) ∧ r = -2)
theorem IsF_uniq {P : Nat → Prop} {L : Nat} {r r' : Int32} (h : IsF P L r) (h' : IsF P L r') : r = r' := by
  rcases h with ⟨k, k1, k2, k3, rfl⟩ | ⟨k1, rfl⟩
  · rcases h' with ⟨k', l1, l2, l3, rfl⟩ | ⟨l1, rfl⟩
    · have : k = k' := by
        rcases Nat.lt_trichotomy k k' with c | c | c
        · exact absurd k2 (l3 k c)
        · exact c
        · exact absurd l2 (k3 k' c)
      rw [this]
    · exact absurd k2 (l1 k k1)
  · rcases h' with ⟨k', l1, l2, l3, rfl⟩ | ⟨l1, rfl⟩
    · exact absurd l2 (k1 k' l1)
    · rfl
/-- how many of those before, and the first -/
def cf (P : Nat → Bool) : Nat → Nat × Int32
  | 0 => (0, -2)
  | i + 1 => if P i = true then ((cf P i).1 + 1, if (cf P i).1 = 0 then nI i else (cf P i).2) else cf P i
theorem cf_le (P : Nat → Bool) : ∀ i, (cf P i).1 ≤ i
  | 0 => Nat.le_refl _
  | i + 1 => by
    have := cf_le P i
    unfold cf
    split
    · show _ + 1 ≤ _
      omega
    · omega
theorem cf_ext {P : Nat → Bool} {L : Nat} : ∀ m, (∀ j, L ≤ j → j < L + m → P j = false) → cf P (L + m) = cf P L
  | 0, _ => rfl
  | m + 1, h => by
    show (if P (L + m) = true then _ else cf P (L + m)) = _
    rw [h (L + m) (by omega) (by omega), if_neg Bool.false_ne_true]
    exact cf_ext m fun j h1 h2 => h j h1 (by omega)
/-- a standing with one number changed -/
def sU (S : SN) (j0 k : Nat) : SN := fun j => if j = j0 then k else S j
theorem sU_n {S : SN} {j0 k j : Nat} (h : j ≠ j0) : sU S j0 k j = S j := if_neg h
theorem sU_s {S : SN} {j0 k : Nat} : sU S j0 k j0 = k := if_pos rfl
section QB
variable {H M K N B : Nat} {q : Nat → Nat} {S : SN} {W : WW} {x0 x16 x17 x18 x23 x24 x25 x26 x33 x35 x36 x37 x38 x74 x75 x76 x77 x78 x79 x92 x93 x94 x95 x96 x97 x101 x112 : Nat → Int32} {y99 y100 : Nat → Int64}
theorem RC_sR {x0 x1 x2 x3 : Nat → Int32} {h k : Nat} (hR : RC S x0 x1 x2 x3) (hh : h < 6) : RC (sU S (9 + h) k) x0 x1 (upd x2 h (nI k)) x3 := by
  refine ⟨fun j hj => ?_, fun j hj => ?_, fun j hj => ?_, fun j hj => ?_⟩
  · rw [sU_n (by omega)]; exact hR.1 j hj
  · rw [sU_n (by omega)]; exact hR.2.1 j hj
  · by_cases c : j = h
    · subst c; rw [pk_us, sU_s]
    · rw [pk_un c, sU_n (by omega)]; exact hR.2.2.1 j hj
  · rw [sU_n (by omega)]; exact hR.2.2.2 j hj
theorem RC_sP {x0 x1 x2 x3 : Nat → Int32} {h k : Nat} (hR : RC S x0 x1 x2 x3) (hh : h < 6) : RC (sU S (3 + h) k) x0 (upd x1 h (nI k)) x2 x3 := by
  refine ⟨fun j hj => ?_, fun j hj => ?_, fun j hj => ?_, fun j hj => ?_⟩
  · rw [sU_n (by omega)]; exact hR.1 j hj
  · by_cases c : j = h
    · subst c; rw [pk_us, sU_s]
    · rw [pk_un c, sU_n (by omega)]; exact hR.2.1 j hj
  · rw [sU_n (by omega)]; exact hR.2.2.1 j hj
  · rw [sU_n (by omega)]; exact hR.2.2.2 j hj
theorem RC_sI {x0 x1 x2 x3 : Nat → Int32} {k : Nat} (hR : RC S x0 x1 x2 x3) : RC (sU S 2 k) (upd x0 2 (nI k)) x1 x2 x3 := by
  refine ⟨fun j hj => ?_, fun j hj => ?_, fun j hj => ?_, fun j hj => ?_⟩
  · by_cases c : j = 2
    · subst c; rw [pk_us, sU_s]
    · rw [pk_un c, sU_n c]; exact hR.1 j hj
  · rw [sU_n (by omega)]; exact hR.2.1 j hj
  · rw [sU_n (by omega)]; exact hR.2.2.1 j hj
  · rw [sU_n (by omega)]; exact hR.2.2.2 j hj
theorem RR_sI {k : Nat} (hR : RR S x75 x76 x77 x78) : RR (sU S 2 k) (upd x75 7 (nI k)) x76 x77 x78 := by
  refine ⟨fun j hj => ?_, fun j hj => ?_, fun j hj => ?_, fun j hj => ?_⟩
  · show upd x75 7 (nI k) (5 + j) = _
    by_cases c : j = 2
    · subst c; rw [sU_s]; rfl
    · rw [pk_un (by omega), sU_n c]; exact hR.1 j hj
  · rw [sU_n (by omega)]; exact hR.2.1 j hj
  · rw [sU_n (by omega)]; exact hR.2.2.1 j hj
  · rw [sU_n (by omega)]; exact hR.2.2.2 j hj
theorem VG_congr {g r g' r' : Nat → Nat} {f f' : Nat → Nat → Nat} (hV : VG H M g r f) (h1 : ∀ h, h < 6 → g' h = g h) (h2 : ∀ h, h < 6 → r' h = r h) (h3 : ∀ a b, a < 6 → b < 6 → f' a b = f a b) : VG H M g' r' f' := by
  obtain ⟨w1, w2, w3, w4, w5, w6, w7, w8⟩ := hV
  refine ⟨w1, w2, w3, fun h hh => ?_, fun h hh q => ?_, fun a b ha hb => ?_, fun a b ha hb q => ?_, fun a b ha hb q => ?_⟩
  · rw [h1 h hh, h2 h hh]; exact w4 h hh
  · rw [h2 h hh]; exact w5 h hh q
  · rw [h3 a b ha hb, h3 b a hb ha]; exact w6 a b ha hb
  · rw [h3 a b ha hb]; exact w7 a b ha hb q
  · rw [h1 a (by omega)] at q
    rw [h3 a b (by omega) hb]; exact w8 a b ha hb q
theorem VD_sI {k : Nat} (hV : VD H M B S) (hk : k ≤ 9) : VD H M B (sU S 2 k) := by
  obtain ⟨v, v1, v2, v3, v4, v5⟩ := hV
  refine ⟨VG_congr v (fun h _ => sU_n (by omega)) (fun h _ => sU_n (by omega)) (fun a b _ _ => sU_n (by omega)), fun h hh hm => (sU_n (by omega)).trans (v1 h hh hm), fun a ha => (sU_n (by omega)).trans (v2 a ha), v3, v4, hk⟩
theorem VD_sR {h k : Nat} (hV : VD H M B S) (hh : h < M) (hk : k ≤ 9) : VD H M B (sU S (9 + h) k) := by
  obtain ⟨v, v1, v2, v3, v4, v5⟩ := hV
  obtain ⟨w1, w2, w3, w4, w5, w6, w7, w8⟩ := id v
  have v' : VG H M (sPl S) (fun j => if j = h then k else sRk S j) (sHd S) := ⟨w1, w2, w3, fun j hj => ⟨(w4 j hj).1, by
    have := (w4 j hj).2
    show (if j = h then k else sRk S j) ≤ 9
    split <;> omega⟩, fun j hj q => by
    have := w5 j hj q
    show (if j = h then k else sRk S j) = 0
    rw [if_neg (by omega)]; exact this, w6, w7, w8⟩
  refine ⟨VG_congr v' (fun j _ => sU_n (by omega)) (fun j hj => ?_) (fun a b _ _ => sU_n (by omega)), fun j hj hm => (sU_n (by omega)).trans (v1 j hj hm), fun a ha => (sU_n (by omega)).trans (v2 a ha), by rw [sU_n (by omega)]; exact v3, by rw [sU_n (by omega)]; exact v4, by rw [sU_n (by omega)]; exact v5⟩
  show sU S (9 + h) k (9 + j) = if j = h then k else sRk S j
  by_cases c : j = h
  · subst c; rw [sU_s, if_pos rfl]
  · rw [sU_n (by omega), if_neg c]; rfl
theorem VD_sP {h k : Nat} (hV : VD H M B S) (hh : h < M) (hk : k < H) : VD H M B (sU S (3 + h) k) := by
  obtain ⟨v, v1, v2, v3, v4, v5⟩ := hV
  obtain ⟨w1, w2, w3, w4, w5, w6, w7, w8⟩ := id v
  have v' : VG H M (fun j => if j = h then k else sPl S j) (sRk S) (sHd S) := ⟨w1, w2, w3, fun j hj => ⟨by
    have := (w4 j hj).1
    show (if j = h then k else sPl S j) ≤ H
    split <;> omega, (w4 j hj).2⟩, w5, w6, w7, fun a b ha hb q => by
    by_cases c : a = h
    · simp only [c, if_true] at q; omega
    · simp only [c, if_false] at q; exact w8 a b ha hb q⟩
  refine ⟨VG_congr v' (fun j hj => ?_) (fun j _ => sU_n (by omega)) (fun a b _ _ => sU_n (by omega)), fun j hj hm => (sU_n (by omega)).trans (v1 j hj hm), fun a ha => (sU_n (by omega)).trans (v2 a ha), by rw [sU_n (by omega)]; exact v3, by rw [sU_n (by omega)]; exact v4, by rw [sU_n (by omega)]; exact v5⟩
  show sU S (3 + h) k (3 + j) = if j = h then k else sPl S j
  by_cases c : j = h
  · subst c; rw [sU_s, if_pos rfl]
  · rw [sU_n (by omega), if_neg c]; rfl
/-- tried and laid back -/
def Kd (x74 x75 x76 x77 x78 x112 z74 z75 z76 z77 z78 z112 : Nat → Int32) : Prop := Fr x74 x75 x76 x77 x78 x112 z74 z75 z76 z77 z78 z112 ∧ Kp x75 x76 x77 x78 z112
theorem p_keepsKd : ∃ z74 z112, fX12_keepsAll x74 x75 x76 x77 x78 x112 = some (z74, x75, x76, x77, x78, z112) ∧ Kd x74 x75 x76 x77 x78 x112 z74 x75 x76 x77 x78 z112 := by
  obtain ⟨z74, z112, e, f, k, k2⟩ := p_keepsAll (x74 := x74) (x75 := x75) (x76 := x76) (x77 := x77) (x78 := x78) (x112 := x112)
  exact ⟨z74, z112, e, ⟨f, fun _ _ => rfl, fun _ _ => rfl, fun _ _ => rfl, fun _ _ => rfl, k2⟩, k⟩
theorem p_backKd {z74 z75 z76 z77 z78 z112 w74 w75 w76 w77 w78 : Nat → Int32} (h : Kd x74 x75 x76 x77 x78 x112 z74 z75 z76 z77 z78 z112) (hf : fr74 z74 w74) : ∃ u74 u75 u76 u77 u78, fX12_laysBack w74 w75 w76 w77 w78 z112 = some (u74, u75, u76, u77, u78, z112) ∧ Kd x74 x75 x76 x77 x78 x112 u74 u75 u76 u77 u78 z112 := by
  obtain ⟨⟨f, _, _, _, _, k2⟩, k⟩ := h
  obtain ⟨e74, e75, e76, e77, e78, ee, fe, g75, g76, g77, g78⟩ := p_laysBack (x74 := w74) (x75 := w75) (x76 := w76) (x77 := w77) (x78 := w78) k
  exact ⟨e74, e75, e76, e77, e78, ee, ⟨fr74_trans (fr74_trans f hf) fe, g75, g76, g77, g78, k2⟩, k⟩
theorem p_placeIn {h n : Nat} {S' : SN} {z74 z75 z76 z77 z78 z112 w76 w77 : Nat → Int32} (hk : Kd x74 x75 x76 x77 x78 x112 z74 z75 z76 z77 z78 z112) (hh : h < 6) (hn : n ≤ 100) (hV : VD H M B S') (hB : B ≤ 2000) (hT : TR H M K N q x75 x79) (hR : RR S' z75 w76 w77 z78) (hW : RW (x75 10) x92 x93 x94 x95 x96 x97 W) (hfree : x74 38 = -5) (hdr : x74 37 = -1) : ∃ u74 u75 u76 u77 u78 u101 u99 u100, fX12_placeIn x79 x92 x93 x94 x95 x96 x97 (nI h) (nI n) z74 z75 w76 w77 z78 x101 z112 y99 y100 = some (nI (sPl (run H M K N q W n S') h), u74, u75, u76, u77, u78, u101, z112, u99, u100) ∧ Kd x74 x75 x76 x77 x78 x112 u74 u75 u76 u77 u78 z112 := by
  obtain ⟨b75, b76, b77, b78, b101, b99, b100, eb, hb, tb, vb⟩ := p_trial (x74 := z74) (x101 := x101) (y99 := y99) (y100 := y100) hn hV hB (TR_same hT hk.1.2.1) hR (by rw [hk.1.2.1 10 (by omega)]; exact hW) ((hk.1.1 38 (by omega) (by omega)).trans hfree) ((hk.1.1 37 (by omega) (by omega)).trans hdr)
  obtain ⟨u74, u75, u76, u77, u78, eu, hu⟩ := p_backKd (w75 := b75) (w76 := b76) (w77 := b77) (w78 := b78) hk (fun _ _ _ => rfl)
  refine ⟨u74, u75, u76, u77, u78, b101, b99, b100, ?_, hu⟩
  unfold fX12_placeIn fX12_placeIn_0
  rw [eb, bd8_s, gd_t (in6 hh), bn_s, eu, bd6_s, cl6 hh, RC_p hb h hh]
def stayP (H M K N : Nat) (q : Nat → Nat) (W : WW) (S : SN) (h n k : Nat) : Prop := sPl (run H M K N q W n (sU S (9 + h) k)) h = sPl S h
theorem r_stay {h n : Nat} (hh : h < M) (hn : n ≤ 60) (hV : VD H M B S) (hB : B ≤ 999) (hT : TR H M K N q x75 x79) (hR : RR S x75 x76 x77 x78) (hW : RW (x75 10) x92 x93 x94 x95 x96 x97 W) (hfree : x74 38 = -5) (hdr : x74 37 = -1) {a74 a112 : Nat → Int32} (hk : Kd x74 x75 x76 x77 x78 x112 a74 x75 x76 x77 x78 a112) : ∃ r z, fX12_stay_40 x79 x92 x93 x94 x95 x96 x97 (nI h) (nI n) (nI (sPl S h)) (-2) 0 a74 x75 x76 x77 x78 x101 a112 y99 y100 = some (r, z) ∧ FT x74 x75 x76 x77 x78 x112 z ∧ IsF (stayP H M K N q W S h n) 10 r := by
  have hM := hV.1.1
  have hH := hV.1.2.2.1
  refine loop14 (fX12_stay_40b x79 x92 x93 x94 x95 x96 x97) (fun m v1 v2 v3 v4 v5 z74 z75 z76 z77 z78 _ z112 _ _ => ∃ i, i + m = 10 ∧ v1 = nI h ∧ v2 = nI n ∧ v3 = nI (sPl S h) ∧ v5 = nI i ∧ Kd x74 x75 x76 x77 x78 x112 z74 z75 z76 z77 z78 z112 ∧ ((v4 = -2 ∧ ∀ j, j < i → ¬ stayP H M K N q W S h n j) ∨ ∃ k, k < 10 ∧ v4 = nI k ∧ stayP H M K N q W S h n k ∧ ∀ j, j < k → ¬ stayP H M K N q W S h n j)) (fun o => ∃ r z, o = some (r, z) ∧ FT x74 x75 x76 x77 x78 x112 z ∧ IsF (stayP H M K N q W S h n) 10 r) ?_ ?_ 10 5000 _ _ _ _ _ _ _ _ _ _ _ _ _ _ (by omega) ⟨0, rfl, rfl, rfl, rfl, rfl, hk, Or.inl ⟨rfl, fun j hj => absurd hj (by omega)⟩⟩
  · rintro k m _ _ _ v4 _ z74 z75 z76 z77 z78 z101 z112 z99 z100 ⟨i, hi, rfl, rfl, rfl, rfl, hk, hc⟩
    have c9 : ¬ (9 : Int32) < nI i := nI_nlt (a := 9) (b := i) (by omega) (by omega)
    rcases hc with ⟨rfl, hc⟩ | ⟨k0, k1, rfl, k2, k3⟩
    · have hRz := RR_same hR hk.1.2.1 hk.1.2.2.1 hk.1.2.2.2.1 hk.1.2.2.2.2.1
      obtain ⟨u74, u75, u76, u77, u78, u101, u99, u100, eu, hu⟩ := p_placeIn (x101 := z101) (y99 := z99) (y100 := z100) hk (show h < 6 by omega) (show n ≤ 100 by omega) (VD_sR (k := i) hV hh (by omega)) (by omega) hT (RC_sR (k := i) hRz (by omega)) hW hfree hdr
      have vb := VD_run (W := W) (q := q) (N := N) (n := n) hT.2.1 (VD_sR (k := i) hV hh (by omega))
      have p1 := (vb.1.2.2.2.1 h (by omega)).1
      have p2 := (hV.1.2.2.2.1 h (by omega)).1
      by_cases c : stayP H M K N q W S h n i
      · refine Or.inl ⟨_, _, _, nI i, nI (i + 1), u74, u75, u76, u77, u78, u101, z112, u99, u100, ⟨i + 1, by omega, rfl, rfl, rfl, rfl, hu, Or.inr ⟨i, by omega, rfl, c, hc⟩⟩, ?_⟩
        unfold fX12_stay_40b fX12_stay_79
        rw [if_neg c9, if_pos rfl, gd_t (in6 (show h < 6 by omega)), cl6 (show h < 6 by omega), eu, bd10_s, if_pos (by rw [c]), bn_s, nI_1]
      · refine Or.inl ⟨_, _, _, -2, nI (i + 1), u74, u75, u76, u77, u78, u101, z112, u99, u100, ⟨i + 1, by omega, rfl, rfl, rfl, rfl, hu, Or.inl ⟨rfl, fun j hj => ?_⟩⟩, ?_⟩
        · by_cases e : j = i
          · subst e; exact c
          · exact hc j (by omega)
        unfold fX12_stay_40b fX12_stay_79
        rw [if_neg c9, if_pos rfl, gd_t (in6 (show h < 6 by omega)), cl6 (show h < 6 by omega), eu, bd10_s, if_neg (fun e => c ((nI_eq (by omega) (by omega)).mp e)), bn_s, nI_1]
    · refine Or.inr ⟨nI k0, (z74, z75, z76, z77, z78, z101, z112, z99, z100), ?_, hk.1, Or.inl ⟨k0, k1, k2, k3, rfl⟩⟩
      have k4 : ∀ k, k < 10 → ¬ nI k = -2 := by decide
      unfold fX12_stay_40b
      rw [if_neg c9, if_neg (k4 k0 k1)]
  · rintro k _ _ _ v4 _ z74 z75 z76 z77 z78 z101 z112 z99 z100 ⟨i, hi, rfl, rfl, rfl, rfl, hk, hc⟩
    have ei : i = 10 := by omega
    subst ei
    refine ⟨v4, (z74, z75, z76, z77, z78, z101, z112, z99, z100), ?_, hk.1, ?_⟩
    · unfold fX12_stay_40b
      rw [if_pos (by decide)]
    · rcases hc with ⟨rfl, hc⟩ | ⟨k0, k1, rfl, k2, k3⟩
      · exact Or.inr ⟨hc, rfl⟩
      · exact Or.inl ⟨k0, k1, k2, k3, rfl⟩
theorem c_stayN {h n : Nat} (hh : h < M) (hn : n ≤ 60) (hV : VD H M B S) (hB : B ≤ 999) (hT : TC H M K N q x17 x18) (hR : RC S x23 x24 x25 x26) : ∃ r c, fX11_stayN_22 x0 x16 x17 x18 x23 x24 x25 x26 (nI h) (nI n) 0 x33 x35 x36 x37 x38 = some (r, c) ∧ IsF (stayP H M K N q none S h n) 10 r := by
  have hM := hV.1.1
  have hH := hV.1.2.2.1
  refine loop8 (fX11_stayN_22b x0 x16 x17 x18 x23 x24 x25 x26) (fun m v1 v2 v3 _ _ _ _ _ => ∃ i, i + m = 10 ∧ v1 = nI h ∧ v2 = nI n ∧ v3 = nI i ∧ ∀ j, j < i → ¬ stayP H M K N q none S h n j) (fun o => ∃ r c, o = some (r, c) ∧ IsF (stayP H M K N q none S h n) 10 r) ?_ ?_ 10 5000 _ _ _ _ _ _ _ _ (by omega) ⟨0, rfl, rfl, rfl, rfl, fun j hj => absurd hj (by omega)⟩
  · rintro k m _ _ _ x33 x35 x36 x37 x38 ⟨i, hi, rfl, rfl, rfl, hc⟩
    have c9 : ¬ (9 : Int32) < nI i := nI_nlt (a := 9) (b := i) (by omega) (by omega)
    obtain ⟨c35, c36, c37, c38, ec, hcp⟩ := p_copy (y0 := x35) (y1 := x36) (y2 := x37) (y3 := x38) hR
    have hV' := VD_sR (k := i) hV hh (by omega)
    obtain ⟨d35, d36, d37, d38, d33, ed, hd⟩ := p_passAllN (n := n) (x33 := x33) (show n ≤ 1000 by omega) hV' (by omega) hT (RC_sR (k := i) hcp (by omega))
    have vb := VD_run (W := none) (q := q) (N := N) (n := n) hT.2.1 hV'
    have p1 := (vb.1.2.2.2.1 h (by omega)).1
    have p2 := (hV.1.2.2.2.1 h (by omega)).1
    by_cases c : stayP H M K N q none S h n i
    · refine Or.inr ⟨nI i, (d33, d35, d36, d37, d38), ?_, Or.inl ⟨i, by omega, c, hc, rfl⟩⟩
      · unfold fX11_stayN_22b
        rw [if_neg c9, ec, bd4_s, gd_t (in6 (show h < 6 by omega)), cl6 (show h < 6 by omega), ed, bd5_s, gd_t (in6 (show h < 6 by omega)), gd_t (in6 (show h < 6 by omega)), RC_p hd h (by omega), RC_p hR h (by omega), if_pos (by rw [c])]
    · refine Or.inl ⟨_, _, nI (i + 1), d33, d35, d36, d37, d38, ⟨i + 1, by omega, rfl, rfl, rfl, fun j hj => ?_⟩, ?_⟩
      · by_cases e : j = i
        · subst e; exact c
        · exact hc j (by omega)
      unfold fX11_stayN_22b
      rw [if_neg c9, ec, bd4_s, gd_t (in6 (show h < 6 by omega)), cl6 (show h < 6 by omega), ed, bd5_s, gd_t (in6 (show h < 6 by omega)), gd_t (in6 (show h < 6 by omega)), RC_p hd h (by omega), RC_p hR h (by omega), if_neg (fun e => c ((nI_eq (by omega) (by omega)).mp e)), bn_s, nI_1]
  · rintro k _ _ _ x33 x35 x36 x37 x38 ⟨i, hi, rfl, rfl, rfl, hc⟩
    have ei : i = 10 := by omega
    subst ei
    refine ⟨-2, (x33, x35, x36, x37, x38), ?_, Or.inr ⟨hc, rfl⟩⟩
    unfold fX11_stayN_22b
    rw [if_pos (by decide)]
theorem e_stayN (hQ : QQ H M K N B q S none x17 x18 x23 x24 x25 x26 x74 x75 x76 x77 x78 x79 x92 x93 x94 x95 x96 x97) (v1 v2 : Int32) : ∃ r, (∃ c, fX11_stayN x0 x16 x17 x18 x23 x24 x25 x26 v1 v2 x33 x35 x36 x37 x38 = some (r, c)) ∧ ∃ z, fX12_stay x79 x92 x93 x94 x95 x96 x97 v1 v2 x74 x75 x76 x77 x78 x101 x112 y99 y100 = some (r, z) ∧ FT x74 x75 x76 x77 x78 x112 z := by
  obtain ⟨hV, hB, hT, hTR, hR, hRR, hW, hfree, hdr⟩ := hQ
  obtain ⟨hM, hH5, hH, hgr, _⟩ := id hV.1
  unfold fX11_stayN fX11_stayN_0 fX12_stay fX12_stay_0
  rcases p_house hM hT.2.2.2.2.2.1 hTR.2.2.2.2.2.1 v1 with ⟨h, hh, rfl, u1, u2⟩ | ⟨u1, u2⟩
  · rw [u1, u2, bd1_s, bd1_s, if_neg (show ¬ nI 1 = (0 : Int32) from one_ne), if_neg (show ¬ nI 1 = (0 : Int32) from one_ne)]
    rcases p_within (lo := 1) (hi := 60) (by omega) (by omega) v2 with ⟨n, n1, n2, rfl, c2, d2⟩ | ⟨c2, d2⟩
    · rw [show fX11_isWithin (nI n) 1 60 = _ from c2, bd1_s, if_neg (show ¬ nI 1 = (0 : Int32) from one_ne), show fX12_in (nI n).toInt64 1 60 = _ from d2, bd1_s, if_neg (show ¬ nI 1 = (0 : Int32) from one_ne)]
      obtain ⟨a74, a112, ea, ka⟩ := p_keepsKd (x74 := x74) (x75 := x75) (x76 := x76) (x77 := x77) (x78 := x78) (x112 := x112)
      obtain ⟨r, c, ec, hc⟩ := c_stayN (x0 := x0) (x16 := x16) (x33 := x33) (x35 := x35) (x36 := x36) (x37 := x37) (x38 := x38) hh n2 hV hB hT hR
      obtain ⟨r', z', er, hf, hr⟩ := r_stay (x101 := x101) (y99 := y99) (y100 := y100) hh n2 hV hB hTR hRR hW hfree hdr ka
      have e := IsF_uniq hc hr
      subst e
      refine ⟨r, ⟨c, ec⟩, z', ?_, hf⟩
      rw [gd_t (in6 (show h < 6 by omega)), cl6 (show h < 6 by omega), bn_s, ea, bd6_s, RC_p hRR h (by omega), er]
    · rw [show fX11_isWithin v2 1 60 = _ from c2, bd1_s, if_pos z00, show fX12_in v2.toInt64 1 60 = _ from d2, bd1_s, if_pos z00]
      exact ⟨_, ⟨_, rfl⟩, ⟨_, rfl, Fr_refl⟩⟩
  · rw [u1, u2, bd1_s, bd1_s, if_pos z00, if_pos z00]
    exact ⟨_, ⟨_, rfl⟩, ⟨_, rfl, Fr_refl⟩⟩
theorem c_stayR {Lru : Nat} {xr : Nat → Int32} {W : (Nat → Int64) → Int64} {z y : Nat → Int64} (hC : CW Lru xr W) {h n : Nat} (hh : h < M) (hn : n ≤ 60) (hV : VD H M B S) (hB : B ≤ 999) (hT : TC H M K N q x17 x18) (hR : RC S x23 x24 x25 x26) : ∃ r c, fX11_stayR_22 Lru xr x0 x16 x17 x18 x23 x24 x25 x26 (nI h) (nI n) 0 x33 x35 x36 x37 x38 z y = some (r, c) ∧ IsF (stayP H M K N q (some W) S h n) 10 r := by
  have hM := hV.1.1
  have hH := hV.1.2.2.1
  refine loop10 (fX11_stayR_22b Lru xr x0 x16 x17 x18 x23 x24 x25 x26) (fun m v1 v2 v3 _ _ _ _ _ _ _ => ∃ i, i + m = 10 ∧ v1 = nI h ∧ v2 = nI n ∧ v3 = nI i ∧ ∀ j, j < i → ¬ stayP H M K N q (some W) S h n j) (fun o => ∃ r c, o = some (r, c) ∧ IsF (stayP H M K N q (some W) S h n) 10 r) ?_ ?_ 10 5000 _ _ _ _ _ _ _ _ _ _ (by omega) ⟨0, rfl, rfl, rfl, rfl, fun j hj => absurd hj (by omega)⟩
  · rintro k m _ _ _ x33 x35 x36 x37 x38 zz yy ⟨i, hi, rfl, rfl, rfl, hc⟩
    have c9 : ¬ (9 : Int32) < nI i := nI_nlt (a := 9) (b := i) (by omega) (by omega)
    obtain ⟨c35, c36, c37, c38, ec, hcp⟩ := p_copy (y0 := x35) (y1 := x36) (y2 := x37) (y3 := x38) hR
    have hV' := VD_sR (k := i) hV hh (by omega)
    obtain ⟨d35, d36, d37, d38, d33, zz1, yy1, ed, hd⟩ := p_passAllR (n := n) (x33 := x33) (z := zz) (y := yy) (show n ≤ 1000 by omega) hC hV' (by omega) hT (RC_sR (k := i) hcp (by omega))
    have vb := VD_run (W := (some W)) (q := q) (N := N) (n := n) hT.2.1 hV'
    have p1 := (vb.1.2.2.2.1 h (by omega)).1
    have p2 := (hV.1.2.2.2.1 h (by omega)).1
    by_cases c : stayP H M K N q (some W) S h n i
    · refine Or.inr ⟨nI i, (d33, d35, d36, d37, d38, zz1, yy1), ?_, Or.inl ⟨i, by omega, c, hc, rfl⟩⟩
      · unfold fX11_stayR_22b
        rw [if_neg c9, ec, bd4_s, gd_t (in6 (show h < 6 by omega)), cl6 (show h < 6 by omega), ed, bd7_s, gd_t (in6 (show h < 6 by omega)), gd_t (in6 (show h < 6 by omega)), RC_p hd h (by omega), RC_p hR h (by omega), if_pos (by rw [c])]
    · refine Or.inl ⟨_, _, nI (i + 1), d33, d35, d36, d37, d38, zz1, yy1, ⟨i + 1, by omega, rfl, rfl, rfl, fun j hj => ?_⟩, ?_⟩
      · by_cases e : j = i
        · subst e; exact c
        · exact hc j (by omega)
      unfold fX11_stayR_22b
      rw [if_neg c9, ec, bd4_s, gd_t (in6 (show h < 6 by omega)), cl6 (show h < 6 by omega), ed, bd7_s, gd_t (in6 (show h < 6 by omega)), gd_t (in6 (show h < 6 by omega)), RC_p hd h (by omega), RC_p hR h (by omega), if_neg (fun e => c ((nI_eq (by omega) (by omega)).mp e)), bn_s, nI_1]
  · rintro k _ _ _ x33 x35 x36 x37 x38 zz yy ⟨i, hi, rfl, rfl, rfl, hc⟩
    have ei : i = 10 := by omega
    subst ei
    refine ⟨-2, (x33, x35, x36, x37, x38, zz, yy), ?_, Or.inr ⟨hc, rfl⟩⟩
    unfold fX11_stayR_22b
    rw [if_pos (by decide)]
theorem e_stayR {Lru : Nat} {xr : Nat → Int32} {W : (Nat → Int64) → Int64} {z y : Nat → Int64} (hC : CW Lru xr W) (hQ : QQ H M K N B q S (some W) x17 x18 x23 x24 x25 x26 x74 x75 x76 x77 x78 x79 x92 x93 x94 x95 x96 x97) (v1 v2 : Int32) : ∃ r, (∃ c, fX11_stayR Lru xr x0 x16 x17 x18 x23 x24 x25 x26 v1 v2 x33 x35 x36 x37 x38 z y = some (r, c)) ∧ ∃ z, fX12_stay x79 x92 x93 x94 x95 x96 x97 v1 v2 x74 x75 x76 x77 x78 x101 x112 y99 y100 = some (r, z) ∧ FT x74 x75 x76 x77 x78 x112 z := by
  obtain ⟨hV, hB, hT, hTR, hR, hRR, hW, hfree, hdr⟩ := hQ
  obtain ⟨hM, hH5, hH, hgr, _⟩ := id hV.1
  unfold fX11_stayR fX11_stayR_0 fX12_stay fX12_stay_0
  rcases p_house hM hT.2.2.2.2.2.1 hTR.2.2.2.2.2.1 v1 with ⟨h, hh, rfl, u1, u2⟩ | ⟨u1, u2⟩
  · rw [u1, u2, bd1_s, bd1_s, if_neg (show ¬ nI 1 = (0 : Int32) from one_ne), if_neg (show ¬ nI 1 = (0 : Int32) from one_ne)]
    rcases p_within (lo := 1) (hi := 60) (by omega) (by omega) v2 with ⟨n, n1, n2, rfl, c2, d2⟩ | ⟨c2, d2⟩
    · rw [show fX11_isWithin (nI n) 1 60 = _ from c2, bd1_s, if_neg (show ¬ nI 1 = (0 : Int32) from one_ne), show fX12_in (nI n).toInt64 1 60 = _ from d2, bd1_s, if_neg (show ¬ nI 1 = (0 : Int32) from one_ne)]
      obtain ⟨a74, a112, ea, ka⟩ := p_keepsKd (x74 := x74) (x75 := x75) (x76 := x76) (x77 := x77) (x78 := x78) (x112 := x112)
      obtain ⟨r, c, ec, hc⟩ := c_stayR (x0 := x0) (x16 := x16) (x33 := x33) (x35 := x35) (x36 := x36) (x37 := x37) (x38 := x38) (z := z) (y := y) hC hh n2 hV hB hT hR
      obtain ⟨r', z', er, hf, hr⟩ := r_stay (x101 := x101) (y99 := y99) (y100 := y100) hh n2 hV hB hTR hRR hW hfree hdr ka
      have e := IsF_uniq hc hr
      subst e
      refine ⟨r, ⟨c, ec⟩, z', ?_, hf⟩
      rw [gd_t (in6 (show h < 6 by omega)), cl6 (show h < 6 by omega), bn_s, ea, bd6_s, RC_p hRR h (by omega), er]
    · rw [show fX11_isWithin v2 1 60 = _ from c2, bd1_s, if_pos z00, show fX12_in v2.toInt64 1 60 = _ from d2, bd1_s, if_pos z00]
      exact ⟨_, ⟨_, rfl⟩, ⟨_, rfl, Fr_refl⟩⟩
  · rw [u1, u2, bd1_s, bd1_s, if_pos z00, if_pos z00]
    exact ⟨_, ⟨_, rfl⟩, ⟨_, rfl, Fr_refl⟩⟩
end QB

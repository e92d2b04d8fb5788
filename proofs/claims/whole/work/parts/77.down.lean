theorem p_jfill {L : Nat} (hL : L ≤ 1000) {v : Int32} {x : Nat → Int32} : ∃ y, fJ7_fill_53178 L v x = some y ∧ ∀ j, j < L → y j = v := by
  refine loop4 (fJ7_fill_53178_5b L) (fun m v1 v2 v3 y => ∃ i, i + m = L ∧ v = v1 ∧ v2 = nI i ∧ v3 = nI L ∧ ∀ j, j < i → y j = v) (fun o => ∃ y, o = some y ∧ ∀ j, j < L → y j = v) ?_ ?_ L 5000 _ _ _ _ (by omega) ⟨0, by omega, rfl, rfl, rfl, fun j hj => absurd hj (by omega)⟩
  · rintro k m _ _ _ y ⟨i, hi, rfl, rfl, rfl, hy⟩
    refine Or.inl ⟨v, nI (i + 1), nI L, upd y i v, ⟨i + 1, by omega, rfl, rfl, rfl, fun j hj => ?_⟩, ?_⟩
    · by_cases e : j = i
      · subst e; rw [pk_us]
      · rw [pk_un e]; exact hy j (by omega)
    · unfold fJ7_fill_53178_5b
      rw [if_neg (nI_ge (show i < L by omega) (by omega)), gd_t (inbN (show i < L by omega) (by omega)), bn_s, clN (by omega), nI_1]
  · rintro k _ _ _ y ⟨i, hi, rfl, rfl, rfl, hy⟩
    have ei : i = L := by omega
    subst ei
    refine ⟨y, ?_, hy⟩
    unfold fJ7_fill_53178_5b
    rw [if_pos (nI_le (Nat.le_refl _) (by omega))]
section QD
variable {H M K N B : Nat} {q : Nat → Nat} {S : SN} {W : WW} {x0 x16 x17 x18 x23 x24 x25 x26 x33 x35 x36 x37 x38 x39 x74 x75 x76 x77 x78 x79 x92 x93 x94 x95 x96 x97 x101 x104 x112 : Nat → Int32} {y99 y100 : Nat → Int64}
theorem run_s : ∀ {i S}, run H M K N q W (i + 1) S = stp H M K N q W (hS N q (run H M K N q W i S)) (run H M K N q W i S)
  | 0, _ => rfl
  | i + 1, S => run_s (i := i) (S := stp H M K N q W (hS N q S) S)
/-- when each comes down -/
def dA (R : Nat → Nat → Nat) (H : Nat) : Nat → Nat → Nat
  | 0, _ => 100
  | i + 1, h => if dA R H i h = 100 ∧ R i h = H then i else dA R H i h
theorem dA_le (R : Nat → Nat → Nat) (H : Nat) : ∀ i h, i ≤ 100 → dA R H i h ≤ 100
  | 0, _, _ => Nat.le_refl _
  | i + 1, h, hi => by
    have := dA_le R H i h (by omega)
    unfold dA
    split <;> omega
def dR (S0 n : Nat) : Int32 := if n = 100 then -2 else nI (S0 + n)
theorem dR_0 (s0 H : Nat) (R : Nat → Nat → Nat) {h : Nat} : dR s0 (dA R H 0 h) = -2 := by
  show dR s0 100 = -2
  rw [dR, if_pos rfl]
def far (s0 n : Nat) : Nat := if n = 100 then 100000 else s0 + n
theorem far_lt {s0 n m : Nat} (hs : s0 ≤ 999) (hn : n ≤ 100) (hm : m ≤ 100) : (far s0 n < far s0 m ↔ n < m) ∧ (far s0 n = far s0 m ↔ n = m) ∧ far s0 n < 200000 := by
  unfold far
  (repeat' split) <;> omega
theorem nn2 {n : Nat} (h : n < 2000000) : ¬ nI n = -2 := fun e => by
  have := congrArg Int32.toInt e
  rw [nI_toInt (by omega)] at this
  rw [show (-2 : Int32).toInt = -2 from rfl] at this
  omega
theorem c_downInN {i : Nat} {S' : SN} {R : Nat → Nat → Nat} (hi : i < 100) (hV : VD H M B S') (hB : B < 999900) (hT : TC H M K N q x17 x18) (hRi : R i = sPl S') (hR : RC S' x35 x36 x37 x38) (hx : ∀ h, h < M → x39 h = nI (dA R H i h)) (k25 : Int32 → (Nat → Int32) → (Nat → Int32) → (Nat → Int32) → (Nat → Int32) → (Nat → Int32) → (Nat → Int32) → Option _) : ∃ c33 c35 c36 c37 c38 c39, fX11_findComesDownN_33 x0 x16 x17 x18 x23 x24 x25 x26 k25 (nI i) 0 x33 x35 x36 x37 x38 x39 = k25 (nI (i + 1)) c33 c35 c36 c37 c38 c39 ∧ RC (stp H M K N q none (hS N q S') S') c35 c36 c37 c38 ∧ ∀ h, h < M → c39 h = nI (dA R H (i + 1) h) := by
  obtain ⟨hM, hH5, hH, hgr, _⟩ := id hV.1
  have h4 := hT.2.2.2.2.2.1
  refine loop8 (fX11_findComesDownN_33b x0 x16 x17 x18 x23 x24 x25 x26 k25) (fun m v1 v2 _ z35 z36 z37 z38 z39 => ∃ j, j + m = M ∧ v1 = nI i ∧ v2 = nI j ∧ x35 = z35 ∧ x36 = z36 ∧ x37 = z37 ∧ x38 = z38 ∧ ∀ h, h < M → z39 h = nI (if h < j then dA R H (i + 1) h else dA R H i h)) (fun o => ∃ c33 c35 c36 c37 c38 c39, o = k25 (nI (i + 1)) c33 c35 c36 c37 c38 c39 ∧ RC (stp H M K N q none (hS N q S') S') c35 c36 c37 c38 ∧ ∀ h, h < M → c39 h = nI (dA R H (i + 1) h)) ?_ ?_ M 5000 _ _ _ _ _ _ _ _ (by omega) ⟨0, by omega, rfl, rfl, rfl, rfl, rfl, rfl, fun h hh => by rw [if_neg (by omega)]; exact hx h hh⟩
  · rintro k m _ _ z33 _ _ _ _ z39 ⟨j, hj, rfl, rfl, rfl, rfl, rfl, rfl, hz⟩
    have hj6 : j < 6 := by omega
    have zj := hz j (by omega)
    rw [if_neg (by omega)] at zj
    have pj := RC_p hR j hj6
    have gj := (hgr j hj6).1
    have dl := dA_le R H i j (by omega)
    have e1 : dA R H (i + 1) j = if dA R H i j = 100 ∧ R i j = H then i else dA R H i j := rfl
    rw [hRi] at e1
    have key : ∀ w : Nat → Int32, w j = nI (dA R H (i + 1) j) → (∀ h, h ≠ j → w h = z39 h) → ∀ h, h < M → w h = nI (if h < j + 1 then dA R H (i + 1) h else dA R H i h) := fun w w1 w2 h hh => by
      by_cases e : h = j
      · subst e; rw [if_pos (by omega)]; exact w1
      · rw [w2 h e, hz h hh]
        by_cases c : h < j
        · rw [if_pos c, if_pos (by omega)]
        · rw [if_neg c, if_neg (by omega)]
    by_cases c1 : dA R H i j = 100
    · by_cases c2 : sPl S' j = H
      · rw [if_pos ⟨c1, c2⟩] at e1
        refine Or.inl ⟨nI i, nI (j + 1), z33, x35, x36, x37, x38, upd z39 j (nI i), ⟨j + 1, by omega, rfl, rfl, rfl, rfl, rfl, rfl, key _ (by rw [pk_us, e1]) fun h hh => pk_un hh⟩, ?_⟩
        unfold fX11_findComesDownN_33b fX11_findComesDownN_87
        rw [h4, if_neg (nI_ge (show j < M by omega) (by omega)), gd_t (in6 hj6), cl6 hj6, zj, if_pos (by rw [c1]; rfl), gd_t (in6 hj6), pj, hT.2.2.1, if_neg (nI_nlt (by omega) (by omega)), gd_t (in6 hj6), bn_s, nI_1]
      · rw [if_neg (by omega)] at e1
        refine Or.inl ⟨nI i, nI (j + 1), z33, x35, x36, x37, x38, z39, ⟨j + 1, by omega, rfl, rfl, rfl, rfl, rfl, rfl, key _ (by rw [zj, e1]) fun h hh => rfl⟩, ?_⟩
        unfold fX11_findComesDownN_33b fX11_findComesDownN_87
        rw [h4, if_neg (nI_ge (show j < M by omega) (by omega)), gd_t (in6 hj6), cl6 hj6, zj, if_pos (by rw [c1]; rfl), gd_t (in6 hj6), pj, hT.2.2.1, if_pos (nI_lt (by omega) (by omega)), bn_s, nI_1]
    · rw [if_neg (by omega)] at e1
      refine Or.inl ⟨nI i, nI (j + 1), z33, x35, x36, x37, x38, z39, ⟨j + 1, by omega, rfl, rfl, rfl, rfl, rfl, rfl, key _ (by rw [zj, e1]) fun h hh => rfl⟩, ?_⟩
      unfold fX11_findComesDownN_33b fX11_findComesDownN_87
      rw [h4, if_neg (nI_ge (show j < M by omega) (by omega)), gd_t (in6 hj6), cl6 hj6, zj, if_neg (fun e : nI (dA R H i j) = (100 : Int32) => c1 ((nI_eq (b := 100) (by omega) (by omega)).mp e)), bn_s, nI_1]
  · rintro k _ _ z33 _ _ _ _ z39 ⟨j, hj, rfl, rfl, rfl, rfl, rfl, rfl, hz⟩
    have ej : j = M := by omega
    subst ej
    have hd : S' 0 ≤ B := hV.2.2.2.1
    have hh := p_heatOf hT.1 hT.2.2.2.2.1 hT.2.2.2.2.2.2 (show S' 0 < 2147483648 by omega) (hR.1 0 (by omega)) (hR.1 2 (by omega)) hV.2.2.2.2.2
    have h9 := hot_9 (d := S' 0) (ic := S' 2) hT.1
    obtain ⟨w0, w1, w2, w3, w33, e, hr⟩ := p_passN (t := hot N q (S' 0) (S' 2)) (x33 := z33) hV hT (by omega) hR
    refine ⟨w33, w0, w1, w2, w3, z39, ?_, hr, fun h hh => by rw [hz h hh, if_pos hh]⟩
    unfold fX11_findComesDownN_33b
    rw [h4, if_pos (nI_le (Nat.le_refl _) (by omega)), hh, bd1_s, e, bd6_s, bn_s, nI_1]
theorem c_comesN (hV : VD H M B S) (hB : B ≤ 999) (hT : TC H M K N q x17 x18) (hR : RC S x23 x24 x25 x26) : ∃ c33 c35 c36 c37 c38 c39, fX11_findComesDownN x0 x16 x17 x18 x23 x24 x25 x26 x33 x35 x36 x37 x38 x39 = some (c33, c35, c36, c37, c38, c39) ∧ ∀ h, h < M → c39 h = nI (dA (fun i => sPl (run H M K N q none i S)) H 100 h) := by
  have hM := hV.1.1
  obtain ⟨y39, e39, h39⟩ := p_jfill (L := 6) (v := 100) (x := x39) (by omega)
  obtain ⟨c35, c36, c37, c38, ec, hcp⟩ := p_copy (y0 := x35) (y1 := x36) (y2 := x37) (y3 := x38) hR
  unfold fX11_findComesDownN fX11_findComesDownN_0
  rw [e39, bd1_s, ec, bd4_s]
  refine loop7 (fX11_findComesDownN_25b x0 x16 x17 x18 x23 x24 x25 x26) (fun m v1 _ z35 z36 z37 z38 z39 => ∃ i, i + m = 100 ∧ v1 = nI i ∧ RC (run H M K N q none i S) z35 z36 z37 z38 ∧ ∀ h, h < M → z39 h = nI (dA (fun i => sPl (run H M K N q none i S)) H i h)) (fun o => ∃ c33 c35 c36 c37 c38 c39, o = some (c33, c35, c36, c37, c38, c39) ∧ ∀ h, h < M → c39 h = nI (dA (fun i => sPl (run H M K N q none i S)) H 100 h)) ?_ ?_ 100 5000 _ _ _ _ _ _ _ (by omega) ⟨0, rfl, rfl, hcp, fun h hh => h39 h (by omega)⟩
  · rintro k m _ z33 z35 z36 z37 z38 z39 ⟨i, hi, rfl, hr, hz⟩
    obtain ⟨d33, d35, d36, d37, d38, d39, e, hr', hz'⟩ := c_downInN (x0 := x0) (x16 := x16) (x23 := x23) (x24 := x24) (x25 := x25) (x26 := x26) (x33 := z33) (R := fun i => sPl (run H M K N q none i S)) (show i < 100 by omega) (VD_run (W := none) (q := q) (N := N) (n := i) hT.2.1 hV) (by omega) hT rfl hr hz k
    rw [← run_s] at hr'
    refine Or.inl ⟨nI (i + 1), d33, d35, d36, d37, d38, d39, ⟨i + 1, by omega, rfl, hr', hz'⟩, ?_⟩
    rw [← e]
    unfold fX11_findComesDownN_25b
    rw [if_neg (show ¬ (100 : Int32) ≤ nI i from nI_ge (b := 100) (by omega) (by omega))]
  · rintro k _ z33 z35 z36 z37 z38 z39 ⟨i, hi, rfl, hr, hz⟩
    have ei : i = 100 := by omega
    subst ei
    refine ⟨z33, z35, z36, z37, z38, z39, ?_, hz⟩
    unfold fX11_findComesDownN_25b
    rw [if_pos (show (100 : Int32) ≤ nI 100 from by decide)]
theorem c_downInR {Lru : Nat} {xr : Nat → Int32} {W : (Nat → Int64) → Int64} {z y : Nat → Int64} (hC : CW Lru xr W) {i : Nat} {S' : SN} {R : Nat → Nat → Nat} (hi : i < 100) (hV : VD H M B S') (hB : B < 999900) (hT : TC H M K N q x17 x18) (hRi : R i = sPl S') (hR : RC S' x35 x36 x37 x38) (hx : ∀ h, h < M → x39 h = nI (dA R H i h)) (k25 : Int32 → (Nat → Int32) → (Nat → Int32) → (Nat → Int32) → (Nat → Int32) → (Nat → Int32) → (Nat → Int32) → (Nat → Int64) → (Nat → Int64) → Option _) : ∃ c33 c35 c36 c37 c38 c39 z1 y1, fX11_findComesDownR_33 Lru xr x0 x16 x17 x18 x23 x24 x25 x26 k25 (nI i) 0 x33 x35 x36 x37 x38 x39 z y = k25 (nI (i + 1)) c33 c35 c36 c37 c38 c39 z1 y1 ∧ RC (stp H M K N q (some W) (hS N q S') S') c35 c36 c37 c38 ∧ ∀ h, h < M → c39 h = nI (dA R H (i + 1) h) := by
  obtain ⟨hM, hH5, hH, hgr, _⟩ := id hV.1
  have h4 := hT.2.2.2.2.2.1
  refine loop10 (fX11_findComesDownR_33b Lru xr x0 x16 x17 x18 x23 x24 x25 x26 k25) (fun m v1 v2 _ z35 z36 z37 z38 z39 _ _ => ∃ j, j + m = M ∧ v1 = nI i ∧ v2 = nI j ∧ x35 = z35 ∧ x36 = z36 ∧ x37 = z37 ∧ x38 = z38 ∧ ∀ h, h < M → z39 h = nI (if h < j then dA R H (i + 1) h else dA R H i h)) (fun o => ∃ c33 c35 c36 c37 c38 c39 z1 y1, o = k25 (nI (i + 1)) c33 c35 c36 c37 c38 c39 z1 y1 ∧ RC (stp H M K N q (some W) (hS N q S') S') c35 c36 c37 c38 ∧ ∀ h, h < M → c39 h = nI (dA R H (i + 1) h)) ?_ ?_ M 5000 _ _ _ _ _ _ _ _ _ _ (by omega) ⟨0, by omega, rfl, rfl, rfl, rfl, rfl, rfl, fun h hh => by rw [if_neg (by omega)]; exact hx h hh⟩
  · rintro k m _ _ z33 _ _ _ _ z39 zz yy ⟨j, hj, rfl, rfl, rfl, rfl, rfl, rfl, hz⟩
    have hj6 : j < 6 := by omega
    have zj := hz j (by omega)
    rw [if_neg (by omega)] at zj
    have pj := RC_p hR j hj6
    have gj := (hgr j hj6).1
    have dl := dA_le R H i j (by omega)
    have e1 : dA R H (i + 1) j = if dA R H i j = 100 ∧ R i j = H then i else dA R H i j := rfl
    rw [hRi] at e1
    have key : ∀ w : Nat → Int32, w j = nI (dA R H (i + 1) j) → (∀ h, h ≠ j → w h = z39 h) → ∀ h, h < M → w h = nI (if h < j + 1 then dA R H (i + 1) h else dA R H i h) := fun w w1 w2 h hh => by
      by_cases e : h = j
      · subst e; rw [if_pos (by omega)]; exact w1
      · rw [w2 h e, hz h hh]
        by_cases c : h < j
        · rw [if_pos c, if_pos (by omega)]
        · rw [if_neg c, if_neg (by omega)]
    by_cases c1 : dA R H i j = 100
    · by_cases c2 : sPl S' j = H
      · rw [if_pos ⟨c1, c2⟩] at e1
        refine Or.inl ⟨nI i, nI (j + 1), z33, x35, x36, x37, x38, upd z39 j (nI i), zz, yy, ⟨j + 1, by omega, rfl, rfl, rfl, rfl, rfl, rfl, key _ (by rw [pk_us, e1]) fun h hh => pk_un hh⟩, ?_⟩
        unfold fX11_findComesDownR_33b fX11_findComesDownR_87
        rw [h4, if_neg (nI_ge (show j < M by omega) (by omega)), gd_t (in6 hj6), cl6 hj6, zj, if_pos (by rw [c1]; rfl), gd_t (in6 hj6), pj, hT.2.2.1, if_neg (nI_nlt (by omega) (by omega)), gd_t (in6 hj6), bn_s, nI_1]
      · rw [if_neg (by omega)] at e1
        refine Or.inl ⟨nI i, nI (j + 1), z33, x35, x36, x37, x38, z39, zz, yy, ⟨j + 1, by omega, rfl, rfl, rfl, rfl, rfl, rfl, key _ (by rw [zj, e1]) fun h hh => rfl⟩, ?_⟩
        unfold fX11_findComesDownR_33b fX11_findComesDownR_87
        rw [h4, if_neg (nI_ge (show j < M by omega) (by omega)), gd_t (in6 hj6), cl6 hj6, zj, if_pos (by rw [c1]; rfl), gd_t (in6 hj6), pj, hT.2.2.1, if_pos (nI_lt (by omega) (by omega)), bn_s, nI_1]
    · rw [if_neg (by omega)] at e1
      refine Or.inl ⟨nI i, nI (j + 1), z33, x35, x36, x37, x38, z39, zz, yy, ⟨j + 1, by omega, rfl, rfl, rfl, rfl, rfl, rfl, key _ (by rw [zj, e1]) fun h hh => rfl⟩, ?_⟩
      unfold fX11_findComesDownR_33b fX11_findComesDownR_87
      rw [h4, if_neg (nI_ge (show j < M by omega) (by omega)), gd_t (in6 hj6), cl6 hj6, zj, if_neg (fun e : nI (dA R H i j) = (100 : Int32) => c1 ((nI_eq (b := 100) (by omega) (by omega)).mp e)), bn_s, nI_1]
  · rintro k _ _ z33 _ _ _ _ z39 zz yy ⟨j, hj, rfl, rfl, rfl, rfl, rfl, rfl, hz⟩
    have ej : j = M := by omega
    subst ej
    have hd : S' 0 ≤ B := hV.2.2.2.1
    have hh := p_heatOf hT.1 hT.2.2.2.2.1 hT.2.2.2.2.2.2 (show S' 0 < 2147483648 by omega) (hR.1 0 (by omega)) (hR.1 2 (by omega)) hV.2.2.2.2.2
    have h9 := hot_9 (d := S' 0) (ic := S' 2) hT.1
    obtain ⟨w0, w1, w2, w3, w33, zz1, yy1, e, hr⟩ := p_passR (t := hot N q (S' 0) (S' 2)) (x33 := z33) (z := zz) (y := yy) hC hV (by omega) hT (by omega) hR
    refine ⟨w33, w0, w1, w2, w3, z39, zz1, yy1, ?_, hr, fun h hh => by rw [hz h hh, if_pos hh]⟩
    unfold fX11_findComesDownR_33b
    rw [h4, if_pos (nI_le (Nat.le_refl _) (by omega)), hh, bd1_s, e, bd8_s, bn_s, nI_1]
theorem c_comesR {Lru : Nat} {xr : Nat → Int32} {W : (Nat → Int64) → Int64} {z y : Nat → Int64} (hC : CW Lru xr W) (hV : VD H M B S) (hB : B ≤ 999) (hT : TC H M K N q x17 x18) (hR : RC S x23 x24 x25 x26) : ∃ c33 c35 c36 c37 c38 c39 z1 y1, fX11_findComesDownR Lru xr x0 x16 x17 x18 x23 x24 x25 x26 x33 x35 x36 x37 x38 x39 z y = some (c33, c35, c36, c37, c38, c39, z1, y1) ∧ ∀ h, h < M → c39 h = nI (dA (fun i => sPl (run H M K N q (some W) i S)) H 100 h) := by
  have hM := hV.1.1
  obtain ⟨y39, e39, h39⟩ := p_jfill (L := 6) (v := 100) (x := x39) (by omega)
  obtain ⟨c35, c36, c37, c38, ec, hcp⟩ := p_copy (y0 := x35) (y1 := x36) (y2 := x37) (y3 := x38) hR
  unfold fX11_findComesDownR fX11_findComesDownR_0
  rw [e39, bd1_s, ec, bd4_s]
  refine loop9 (fX11_findComesDownR_25b Lru xr x0 x16 x17 x18 x23 x24 x25 x26) (fun m v1 _ z35 z36 z37 z38 z39 _ _ => ∃ i, i + m = 100 ∧ v1 = nI i ∧ RC (run H M K N q (some W) i S) z35 z36 z37 z38 ∧ ∀ h, h < M → z39 h = nI (dA (fun i => sPl (run H M K N q (some W) i S)) H i h)) (fun o => ∃ c33 c35 c36 c37 c38 c39 z1 y1, o = some (c33, c35, c36, c37, c38, c39, z1, y1) ∧ ∀ h, h < M → c39 h = nI (dA (fun i => sPl (run H M K N q (some W) i S)) H 100 h)) ?_ ?_ 100 5000 _ _ _ _ _ _ _ _ _ (by omega) ⟨0, rfl, rfl, hcp, fun h hh => h39 h (by omega)⟩
  · rintro k m _ z33 z35 z36 z37 z38 z39 zz yy ⟨i, hi, rfl, hr, hz⟩
    obtain ⟨d33, d35, d36, d37, d38, d39, zz1, yy1, e, hr', hz'⟩ := c_downInR (x0 := x0) (x16 := x16) (x23 := x23) (x24 := x24) (x25 := x25) (x26 := x26) (x33 := z33) (z := zz) (y := yy) (R := fun i => sPl (run H M K N q (some W) i S)) hC (show i < 100 by omega) (VD_run (W := (some W)) (q := q) (N := N) (n := i) hT.2.1 hV) (by omega) hT rfl hr hz k
    rw [← run_s] at hr'
    refine Or.inl ⟨nI (i + 1), d33, d35, d36, d37, d38, d39, zz1, yy1, ⟨i + 1, by omega, rfl, hr', hz'⟩, ?_⟩
    rw [← e]
    unfold fX11_findComesDownR_25b
    rw [if_neg (show ¬ (100 : Int32) ≤ nI i from nI_ge (b := 100) (by omega) (by omega))]
  · rintro k _ z33 z35 z36 z37 z38 z39 zz yy ⟨i, hi, rfl, hr, hz⟩
    have ei : i = 100 := by omega
    subst ei
    refine ⟨z33, z35, z36, z37, z38, z39, zz, yy, ?_, hz⟩
    unfold fX11_findComesDownR_25b
    rw [if_pos (show (100 : Int32) ≤ nI 100 from by decide)]
theorem c_orderN {h : Nat} {d : Nat → Nat} (hM : M ≤ 6) (hh : h < M) (h4 : x17 4 = nI M) (hd : ∀ j, j < M → d j ≤ 100) (hx : ∀ j, j < M → x39 j = nI (d j)) : ∃ c, fX11_orderN_18 x0 x16 x17 x18 x23 x24 x25 x26 (nI h) 0 0 x33 x35 x36 x37 x38 x39 = some (nI (cf (fun k => decide (d k < d h) || (decide (d k = d h) && decide (k < h))) M).1, c) := by
  refine loop9 (fX11_orderN_18b x0 x16 x17 x18 x23 x24 x25 x26) (fun m v1 v2 v3 _ _ _ _ _ z39 => ∃ i, i + m = M ∧ v1 = nI h ∧ v2 = nI (cf (fun k => decide (d k < d h) || (decide (d k = d h) && decide (k < h))) i).1 ∧ v3 = nI i ∧ x39 = z39) (fun o => ∃ c, o = some (nI (cf (fun k => decide (d k < d h) || (decide (d k = d h) && decide (k < h))) M).1, c)) ?_ ?_ M 5000 _ _ _ _ _ _ _ _ _ (by omega) ⟨0, by omega, rfl, rfl, rfl, rfl⟩
  · rintro k m _ _ _ z33 z35 z36 z37 z38 _ ⟨i, hi, rfl, rfl, rfl, rfl⟩
    have hi6 : i < 6 := by omega
    have hh6 : h < 6 := by omega
    have di := hd i (by omega)
    have dh := hd h hh
    have xi := hx i (by omega)
    have xh := hx h hh
    have e1 : ∀ P : Nat → Bool, (cf P (i + 1)).1 = if P i = true then (cf P i).1 + 1 else (cf P i).1 := fun P => by
      show (if _ then _ else _ : Nat × Int32).1 = _
      split <;> rfl
    refine Or.inl ⟨nI h, nI (cf (fun k => decide (d k < d h) || (decide (d k = d h) && decide (k < h))) (i + 1)).1, nI (i + 1), z33, z35, z36, z37, z38, x39, ⟨i + 1, by omega, rfl, rfl, rfl, rfl⟩, ?_⟩
    rw [e1]
    unfold fX11_orderN_18b
    rw [h4, if_neg (nI_ge (show i < M by omega) (by omega)), gd_t (in6 hi6), gd_t (in6 hh6), cl6 hi6, cl6 hh6, xi, xh]
    by_cases c1 : d i < d h
    · rw [if_neg (nI_ge c1 (by omega)), if_pos (by simp [c1])]
      unfold fX11_orderN_52 fX11_orderN_79 fX11_orderN_82
      rw [if_neg one_ne, bn_s, bn_s, nI_1, nI_1]
    · rw [if_pos (nI_le (by omega) (by omega))]
      unfold fX11_orderN_52 fX11_orderN_79 fX11_orderN_82
      rw [if_pos rfl, gd_t (in6 hi6), gd_t (in6 hh6), cl6 hi6, cl6 hh6, xi, xh]
      by_cases c2 : d i = d h
      · rw [if_pos (by rw [c2])]
        by_cases c3 : i < h
        · rw [if_neg (nI_ge c3 (by omega)), if_pos (by simp [c2, c3]), bn_s, bn_s, nI_1, nI_1]
        · rw [if_pos (nI_le (by omega) (by omega)), if_neg (by simp [c1, c3]), bn_s, nI_1]
      · rw [if_neg (fun e => c2 ((nI_eq (by omega) (by omega)).mp e)), if_neg (by simp [c1, c2]), bn_s, nI_1]
  · rintro k _ _ _ z33 z35 z36 z37 z38 _ ⟨i, hi, rfl, rfl, rfl, rfl⟩
    have ei : i = M := by omega
    subst ei
    unfold fX11_orderN_18b
    rw [h4, if_pos (nI_le (Nat.le_refl _) (by omega))]
    exact ⟨_, rfl⟩
theorem c_orderR {Lru : Nat} {xr : Nat → Int32} {W : (Nat → Int64) → Int64} {z y : Nat → Int64} (hC : CW Lru xr W) {h : Nat} {d : Nat → Nat} (hM : M ≤ 6) (hh : h < M) (h4 : x17 4 = nI M) (hd : ∀ j, j < M → d j ≤ 100) (hx : ∀ j, j < M → x39 j = nI (d j)) : ∃ c, fX11_orderR_18 Lru xr x0 x16 x17 x18 x23 x24 x25 x26 (nI h) 0 0 x33 x35 x36 x37 x38 x39 z y = some (nI (cf (fun k => decide (d k < d h) || (decide (d k = d h) && decide (k < h))) M).1, c) := by
  refine loop11 (fX11_orderR_18b Lru xr x0 x16 x17 x18 x23 x24 x25 x26) (fun m v1 v2 v3 _ _ _ _ _ z39 _ _ => ∃ i, i + m = M ∧ v1 = nI h ∧ v2 = nI (cf (fun k => decide (d k < d h) || (decide (d k = d h) && decide (k < h))) i).1 ∧ v3 = nI i ∧ x39 = z39) (fun o => ∃ c, o = some (nI (cf (fun k => decide (d k < d h) || (decide (d k = d h) && decide (k < h))) M).1, c)) ?_ ?_ M 5000 _ _ _ _ _ _ _ _ _ _ _ (by omega) ⟨0, by omega, rfl, rfl, rfl, rfl⟩
  · rintro k m _ _ _ z33 z35 z36 z37 z38 _ zz yy ⟨i, hi, rfl, rfl, rfl, rfl⟩
    have hi6 : i < 6 := by omega
    have hh6 : h < 6 := by omega
    have di := hd i (by omega)
    have dh := hd h hh
    have xi := hx i (by omega)
    have xh := hx h hh
    have e1 : ∀ P : Nat → Bool, (cf P (i + 1)).1 = if P i = true then (cf P i).1 + 1 else (cf P i).1 := fun P => by
      show (if _ then _ else _ : Nat × Int32).1 = _
      split <;> rfl
    refine Or.inl ⟨nI h, nI (cf (fun k => decide (d k < d h) || (decide (d k = d h) && decide (k < h))) (i + 1)).1, nI (i + 1), z33, z35, z36, z37, z38, x39, zz, yy, ⟨i + 1, by omega, rfl, rfl, rfl, rfl⟩, ?_⟩
    rw [e1]
    unfold fX11_orderR_18b
    rw [h4, if_neg (nI_ge (show i < M by omega) (by omega)), gd_t (in6 hi6), gd_t (in6 hh6), cl6 hi6, cl6 hh6, xi, xh]
    by_cases c1 : d i < d h
    · rw [if_neg (nI_ge c1 (by omega)), if_pos (by simp [c1])]
      unfold fX11_orderR_52 fX11_orderR_79 fX11_orderR_82
      rw [if_neg one_ne, bn_s, bn_s, nI_1, nI_1]
    · rw [if_pos (nI_le (by omega) (by omega))]
      unfold fX11_orderR_52 fX11_orderR_79 fX11_orderR_82
      rw [if_pos rfl, gd_t (in6 hi6), gd_t (in6 hh6), cl6 hi6, cl6 hh6, xi, xh]
      by_cases c2 : d i = d h
      · rw [if_pos (by rw [c2])]
        by_cases c3 : i < h
        · rw [if_neg (nI_ge c3 (by omega)), if_pos (by simp [c2, c3]), bn_s, bn_s, nI_1, nI_1]
        · rw [if_pos (nI_le (by omega) (by omega)), if_neg (by simp [c1, c3]), bn_s, nI_1]
      · rw [if_neg (fun e => c2 ((nI_eq (by omega) (by omega)).mp e)), if_neg (by simp [c1, c2]), bn_s, nI_1]
  · rintro k _ _ _ z33 z35 z36 z37 z38 _ zz yy ⟨i, hi, rfl, rfl, rfl, rfl⟩
    have ei : i = M := by omega
    subst ei
    unfold fX11_orderR_18b
    rw [h4, if_pos (nI_le (Nat.le_refl _) (by omega))]
    exact ⟨_, rfl⟩
theorem r_downIn {i : Nat} {S' : SN} {R : Nat → Nat → Nat} (hi : i < 100) (hV : VD H M B S') (hB : B < 999900) (hS0 : S' 0 = S 0 + i) (hT : TR H M K N q x75 x79) (hRi : R i = sPl S') (hR : RR S' x75 x76 x77 x78) (hW : RW (x75 10) x92 x93 x94 x95 x96 x97 W) (hfree : x74 38 = -5) (hdr : x74 37 = -1) (hx : ∀ h, h < M → x104 h = dR (S 0) (dA R H i h)) (k25 : Int32 → (Nat → Int32) → (Nat → Int32) → (Nat → Int32) → (Nat → Int32) → (Nat → Int32) → (Nat → Int32) → (Nat → Int32) → (Nat → Int32) → (Nat → Int64) → (Nat → Int64) → Option _) : ∃ z75 z76 z77 z78 z101 z104 z99 z100, fX12_laysDown_36 x79 x92 x93 x94 x95 x96 x97 k25 (nI i) 0 x74 x75 x76 x77 x78 x101 x104 x112 y99 y100 = k25 (nI (i + 1)) x74 z75 z76 z77 z78 z101 z104 x112 z99 z100 ∧ RR (stp H M K N q W (hS N q S') S') z75 z76 z77 z78 ∧ (∀ j, j < 5 ∨ 8 ≤ j → z75 j = x75 j) ∧ ∀ h, h < M → z104 h = dR (S 0) (dA R H (i + 1) h) := by
  obtain ⟨hM, hH5, hH, hgr, _⟩ := id hV.1
  have h4 := hT.2.2.2.2.2.1
  have hd : S' 0 ≤ B := hV.2.2.2.1
  refine loop12 (fX12_laysDown_36b x79 x92 x93 x94 x95 x96 x97 k25) (fun m v1 v2 z74 z75 z76 z77 z78 _ z104 z112 _ _ => ∃ j, j + m = M ∧ v1 = nI i ∧ v2 = nI j ∧ x74 = z74 ∧ x75 = z75 ∧ x76 = z76 ∧ x77 = z77 ∧ x78 = z78 ∧ x112 = z112 ∧ ∀ h, h < M → z104 h = dR (S 0) (if h < j then dA R H (i + 1) h else dA R H i h)) (fun o => ∃ z75 z76 z77 z78 z101 z104 z99 z100, o = k25 (nI (i + 1)) x74 z75 z76 z77 z78 z101 z104 x112 z99 z100 ∧ RR (stp H M K N q W (hS N q S') S') z75 z76 z77 z78 ∧ (∀ j, j < 5 ∨ 8 ≤ j → z75 j = x75 j) ∧ ∀ h, h < M → z104 h = dR (S 0) (dA R H (i + 1) h)) ?_ ?_ M 5000 _ _ _ _ _ _ _ _ _ _ _ _ (by omega) ⟨0, by omega, rfl, rfl, rfl, rfl, rfl, rfl, rfl, rfl, fun h hh => by rw [if_neg (by omega)]; exact hx h hh⟩
  · rintro k m _ _ _ _ _ _ _ z101 z104 _ z99 z100 ⟨j, hj, rfl, rfl, rfl, rfl, rfl, rfl, rfl, rfl, hz⟩
    have hj6 : j < 6 := by omega
    have zj := hz j (by omega)
    rw [if_neg (by omega)] at zj
    have gj := (hgr j hj6).1
    have er := p_inRiver (x75 := x75) hT.2.2.1 hH (RC_p hR) hj6 (by omega)
    have dl := dA_le R H i j (by omega)
    have e1 : dA R H (i + 1) j = if dA R H i j = 100 ∧ R i j = H then i else dA R H i j := rfl
    rw [hRi] at e1
    have key : ∀ v : Int32, v = dR (S 0) (dA R H (i + 1) j) → ∀ h, h < M → upd z104 j v h = dR (S 0) (if h < j + 1 then dA R H (i + 1) h else dA R H i h) := fun v hv h hh => by
      by_cases e : h = j
      · subst e; rw [pk_us, if_pos (by omega)]; exact hv
      · rw [pk_un e, hz h hh]
        by_cases c : h < j
        · rw [if_pos c, if_pos (by omega)]
        · rw [if_neg c, if_neg (by omega)]
    have r5 : x75 5 = nI (S' 0) := hR.1 0 (by omega)
    by_cases c1 : dA R H i j = 100
    · have zj' : z104 j = -2 := by rw [zj, dR, if_pos c1]
      by_cases c2 : sPl S' j = H
      · rw [if_pos ⟨c1, c2⟩] at e1
        rw [if_pos c2] at er
        refine Or.inl ⟨nI i, nI (j + 1), _, _, _, _, _, z101, upd z104 j (nI (S' 0)), _, z99, z100, ⟨j + 1, by omega, rfl, rfl, rfl, rfl, rfl, rfl, rfl, rfl, key _ (by rw [e1, dR, if_neg (by omega), hS0])⟩, ?_⟩
        unfold fX12_laysDown_36b fX12_laysDown_85
        rw [gd_t i4, n4', h4, if_neg (nI_ge (show j < M by omega) (by omega)), gd_t (in6 hj6), cl6 hj6, if_pos zj', er, bd1_s, if_neg (show ¬ nI 1 = (0 : Int32) from one_ne), gd_t i5, n5', r5, gd_t (in6 hj6), bn_s, nI_1]
      · rw [if_neg (by omega)] at e1
        rw [if_neg c2] at er
        refine Or.inl ⟨nI i, nI (j + 1), _, _, _, _, _, z101, upd z104 j (z104 j), _, z99, z100, ⟨j + 1, by omega, rfl, rfl, rfl, rfl, rfl, rfl, rfl, rfl, key _ (by rw [zj, e1])⟩, ?_⟩
        unfold fX12_laysDown_36b fX12_laysDown_79 fX12_laysDown_85
        rw [gd_t i4, n4', h4, if_neg (nI_ge (show j < M by omega) (by omega)), gd_t (in6 hj6), cl6 hj6, if_pos zj', er, bd1_s, if_pos z00, gd_t (in6 hj6), gd_t (in6 hj6), bn_s, nI_1]
    · rw [if_neg (by omega)] at e1
      have zj' : z104 j ≠ -2 := by rw [zj, dR, if_neg c1]; exact nn2 (by omega)
      refine Or.inl ⟨nI i, nI (j + 1), _, _, _, _, _, z101, upd z104 j (z104 j), _, z99, z100, ⟨j + 1, by omega, rfl, rfl, rfl, rfl, rfl, rfl, rfl, rfl, key _ (by rw [zj, e1])⟩, ?_⟩
      unfold fX12_laysDown_36b fX12_laysDown_79 fX12_laysDown_85
      rw [gd_t i4, n4', h4, if_neg (nI_ge (show j < M by omega) (by omega)), gd_t (in6 hj6), cl6 hj6, if_neg zj', gd_t (in6 hj6), gd_t (in6 hj6), bn_s, nI_1]
  · rintro k _ _ _ _ _ _ _ z101 z104 _ z99 z100 ⟨j, hj, rfl, rfl, rfl, rfl, rfl, rfl, rfl, rfl, hz⟩
    have ej : j = M := by omega
    subst ej
    obtain ⟨w75, w76, w77, w78, w101, w99, w100, e, hr, hf⟩ := p_goes (x101 := z101) (y99 := z99) (y100 := z100) hV (by omega) hT hfree (Or.inr ⟨hdr, rfl⟩) hR hW
    refine ⟨w75, w76, w77, w78, w101, z104, w99, w100, ?_, hr, hf, fun h hh => by rw [hz h hh, if_pos hh]⟩
    unfold fX12_laysDown_36b
    rw [gd_t i4, n4', h4, if_pos (nI_le (Nat.le_refl _) (by omega)), e, bd9_s, bn_s, nI_1]
theorem run_0 : ∀ {i S}, run H M K N q W i S 0 = S 0 + i
  | 0, _ => rfl
  | i + 1, S => by
    rw [run_s]
    show run H M K N q W i S 0 + 1 = _
    rw [run_0]
    omega
abbrev T10 : Type := (Nat → Int32) × (Nat → Int32) × (Nat → Int32) × (Nat → Int32) × (Nat → Int32) × (Nat → Int32) × (Nat → Int32) × (Nat → Int32) × (Nat → Int64) × (Nat → Int64)
def FD (x74 x75 x76 x77 x78 x112 : Nat → Int32) (z : T10) : Prop := Fr x74 x75 x76 x77 x78 x112 z.1 z.2.1 z.2.2.1 z.2.2.2.1 z.2.2.2.2.1 z.2.2.2.2.2.2.2.1
def LDq (H M K N : Nat) (q : Nat → Nat) (W : WW) (S : SN) (x74 x75 x76 x77 x78 x112 : Nat → Int32) (o : Option T10) : Prop := ∃ z : T10, o = some z ∧ FD x74 x75 x76 x77 x78 x112 z ∧ ∀ h, h < M → z.2.2.2.2.2.2.1 h = dR (S 0) (dA (fun i => sPl (run H M K N q W i S)) H 100 h)
theorem r_laysOut (hV : VD H M B S) (hB : B ≤ 999) (hT : TR H M K N q x75 x79) (hR : RR S x75 x76 x77 x78) (hW : RW (x75 10) x92 x93 x94 x95 x96 x97 W) (hfree : x74 38 = -5) (hdr : x74 37 = -1) {w101 w104 a74 a112 : Nat → Int32} {w99 w100 : Nat → Int64} (hk : Kd x74 x75 x76 x77 x78 x112 a74 x75 x76 x77 x78 a112) (hw : ∀ h, h < 6 → w104 h = (-2 : Int32)) : LDq H M K N q W S x74 x75 x76 x77 x78 x112 (fX12_laysDown_28 x79 x92 x93 x94 x95 x96 x97 0 a74 x75 x76 x77 x78 w101 w104 a112 w99 w100) := by
  have hM := hV.1.1
  refine loop11 (fX12_laysDown_28b x79 x92 x93 x94 x95 x96 x97) (fun m v1 z74 z75 z76 z77 z78 _ z104 z112 _ _ => ∃ i, i + m = 100 ∧ v1 = nI i ∧ a74 = z74 ∧ RR (run H M K N q W i S) z75 z76 z77 z78 ∧ (∀ j, j < 5 ∨ 8 ≤ j → z75 j = x75 j) ∧ a112 = z112 ∧ ∀ h, h < M → z104 h = dR (S 0) (dA (fun i => sPl (run H M K N q W i S)) H i h)) (LDq H M K N q W S x74 x75 x76 x77 x78 x112) ?_ ?_ 100 5000 _ _ _ _ _ _ _ _ _ _ _ (by omega) ⟨0, rfl, rfl, rfl, hR, fun _ _ => rfl, rfl, fun h hh => (hw h (by omega)).trans (dR_0 _ _ _).symm⟩
  · rintro k m _ _ z75 z76 z77 z78 z101 z104 _ z99 z100 ⟨i, hi, rfl, rfl, hr, hf, rfl, hz⟩
    obtain ⟨u75, u76, u77, u78, u101, u104, u99, u100, e, hr', hf', hz'⟩ := r_downIn (x101 := z101) (x112 := a112) (y99 := z99) (y100 := z100) (R := fun i => sPl (run H M K N q W i S)) (show i < 100 by omega) (VD_run (W := W) (q := q) (N := N) (n := i) hT.2.1 hV) (by omega) run_0 (TR_fr hT hf) rfl hr (by rw [hf 10 (by omega)]; exact hW) ((hk.1.1 38 (by omega) (by omega)).trans hfree) ((hk.1.1 37 (by omega) (by omega)).trans hdr) hz k
    rw [← run_s] at hr'
    refine Or.inl ⟨nI (i + 1), _, u75, u76, u77, u78, u101, u104, _, u99, u100, ⟨i + 1, by omega, rfl, rfl, hr', fun j hj => (hf' j hj).trans (hf j hj), rfl, hz'⟩, ?_⟩
    rw [← e]
    unfold fX12_laysDown_28b
    rw [if_neg (show ¬ (100 : Int32) ≤ nI i from nI_ge (b := 100) (by omega) (by omega))]
  · rintro k _ _ z75 z76 z77 z78 z101 z104 _ z99 z100 ⟨i, hi, rfl, rfl, hr, hf, rfl, hz⟩
    have ei : i = 100 := by omega
    subst ei
    obtain ⟨u74, u75, u76, u77, u78, eu, hu⟩ := p_backKd (w75 := z75) (w76 := z76) (w77 := z77) (w78 := z78) hk (fun _ _ _ => rfl)
    refine ⟨(u74, u75, u76, u77, u78, z101, z104, a112, z99, z100), ?_, hu.1, hz⟩
    unfold fX12_laysDown_28b
    rw [if_pos (show (100 : Int32) ≤ nI 100 from by decide), eu, bd6_s]
theorem r_laysDown (hV : VD H M B S) (hB : B ≤ 999) (hT : TR H M K N q x75 x79) (hR : RR S x75 x76 x77 x78) (hW : RW (x75 10) x92 x93 x94 x95 x96 x97 W) (hfree : x74 38 = -5) (hdr : x74 37 = -1) : LDq H M K N q W S x74 x75 x76 x77 x78 x112 (fX12_laysDown x79 x92 x93 x94 x95 x96 x97 x74 x75 x76 x77 x78 x101 x104 x112 y99 y100) := by
  have hM := hV.1.1
  unfold fX12_laysDown fX12_laysDown_0 fX12_laysDown_2
  refine loop11 (fX12_laysDown_2b x79 x92 x93 x94 x95 x96 x97) (fun m v1 z74 z75 z76 z77 z78 _ z104 z112 _ _ => ∃ i, i + m = 6 ∧ v1 = nI i ∧ x74 = z74 ∧ x75 = z75 ∧ x76 = z76 ∧ x77 = z77 ∧ x78 = z78 ∧ x112 = z112 ∧ ∀ h, h < i → z104 h = (-2 : Int32)) (LDq H M K N q W S x74 x75 x76 x77 x78 x112) ?_ ?_ 6 5000 _ _ _ _ _ _ _ _ _ _ _ (by omega) ⟨0, rfl, rfl, rfl, rfl, rfl, rfl, rfl, rfl, fun h hh => absurd hh (by omega)⟩
  · rintro k m _ _ _ _ _ _ z101 z104 _ z99 z100 ⟨i, hi, rfl, rfl, rfl, rfl, rfl, rfl, rfl, hz⟩
    refine Or.inl ⟨nI (i + 1), _, _, _, _, _, z101, upd z104 i (-2), _, z99, z100, ⟨i + 1, by omega, rfl, rfl, rfl, rfl, rfl, rfl, rfl, fun h hh => ?_⟩, ?_⟩
    · by_cases e : h = i
      · subst e; rw [pk_us]
      · rw [pk_un e]; exact hz h (by omega)
    · unfold fX12_laysDown_2b
      rw [if_neg (le6 (by omega)), gd_t (in6 (by omega)), bn_s, cl6 (by omega), nI_1]
  · rintro k _ _ _ _ _ _ z101 z104 _ z99 z100 ⟨i, hi, rfl, rfl, rfl, rfl, rfl, rfl, rfl, hz⟩
    have ei : i = 6 := by omega
    subst ei
    obtain ⟨a74, a112, ea, ka⟩ := p_keepsKd (x74 := x74) (x75 := x75) (x76 := x76) (x77 := x77) (x78 := x78) (x112 := x112)
    have e2 : fX12_laysDown_2b x79 x92 x93 x94 x95 x96 x97 k (nI 6) x74 x75 x76 x77 x78 z101 z104 x112 z99 z100 = fX12_laysDown_28 x79 x92 x93 x94 x95 x96 x97 0 a74 x75 x76 x77 x78 z101 z104 a112 z99 z100 := by
      unfold fX12_laysDown_2b
      rw [if_pos ge6, ea, bd6_s]
    rw [e2]
    exact r_laysOut hV hB hT hR hW hfree hdr ka hz
theorem r_order {h s0 : Nat} {d : Nat → Nat} (hM : M ≤ 6) (hh : h < M) (hs : s0 ≤ 999) (h4 : x75 4 = nI M) (hd : ∀ j, j < M → d j ≤ 100) (hx : ∀ j, j < M → x104 j = dR s0 (d j)) : fX12_order_43 x79 x92 x93 x94 x95 x96 x97 (nI h) (nI (far s0 (d h))) 0 0 x74 x75 x76 x77 x78 x101 x104 x112 y99 y100 = some (nI (cf (fun k => decide (d k < d h) || (decide (d k = d h) && decide (k < h))) M).1, x74, x75, x76, x77, x78, x101, x104, x112, y99, y100) := by
  refine loop14 (fX12_order_43b x79 x92 x93 x94 x95 x96 x97) (fun m v1 v2 v3 v4 z74 z75 z76 z77 z78 z101 z104 z112 z99 z100 => ∃ i, i + m = M ∧ v1 = nI h ∧ v2 = nI (far s0 (d h)) ∧ v3 = nI (cf (fun k => decide (d k < d h) || (decide (d k = d h) && decide (k < h))) i).1 ∧ v4 = nI i ∧ x74 = z74 ∧ x75 = z75 ∧ x76 = z76 ∧ x77 = z77 ∧ x78 = z78 ∧ x101 = z101 ∧ x104 = z104 ∧ x112 = z112 ∧ y99 = z99 ∧ y100 = z100) (fun o => o = some (nI (cf (fun k => decide (d k < d h) || (decide (d k = d h) && decide (k < h))) M).1, x74, x75, x76, x77, x78, x101, x104, x112, y99, y100)) ?_ ?_ M 5000 _ _ _ _ _ _ _ _ _ _ _ _ _ _ (by omega) ⟨0, by omega, rfl, rfl, rfl, rfl, rfl, rfl, rfl, rfl, rfl, rfl, rfl, rfl, rfl, rfl⟩
  · rintro k m _ _ _ _ _ _ _ _ _ _ _ _ _ _ ⟨i, hi, rfl, rfl, rfl, rfl, rfl, rfl, rfl, rfl, rfl, rfl, rfl, rfl, rfl, rfl⟩
    have hi6 : i < 6 := by omega
    have di := hd i (by omega)
    have dh := hd h hh
    have xi := hx i (by omega)
    have e1 : ∀ P : Nat → Bool, (cf P (i + 1)).1 = if P i = true then (cf P i).1 + 1 else (cf P i).1 := fun P => by
      show (if _ then _ else _ : Nat × Int32).1 = _
      split <;> rfl
    refine Or.inl ⟨nI h, nI (far s0 (d h)), nI (cf (fun k => decide (d k < d h) || (decide (d k = d h) && decide (k < h))) (i + 1)).1, nI (i + 1), x74, x75, x76, x77, x78, x101, x104, x112, y99, y100, ⟨i + 1, by omega, rfl, rfl, rfl, rfl, rfl, rfl, rfl, rfl, rfl, rfl, rfl, rfl, rfl, rfl⟩, ?_⟩
    have st : fX12_order_43b x79 x92 x93 x94 x95 x96 x97 k (nI h) (nI (far s0 (d h))) (nI (cf (fun k => decide (d k < d h) || (decide (d k = d h) && decide (k < h))) i).1) (nI i) x74 x75 x76 x77 x78 x101 x104 x112 y99 y100 = fX12_order_79 x79 x92 x93 x94 x95 x96 x97 k (nI h) (nI (far s0 (d h))) (nI (cf (fun k => decide (d k < d h) || (decide (d k = d h) && decide (k < h))) i).1) (nI i) (nI (far s0 (d i))) x74 x75 x76 x77 x78 x101 x104 x112 y99 y100 := by
      unfold fX12_order_43b
      rw [gd_t i4, n4', h4, if_neg (nI_ge (show i < M by omega) (by omega)), gd_t (in6 hi6), cl6 hi6, xi]
      unfold dR far
      by_cases c : d i = 100
      · rw [if_pos c, if_pos rfl, if_pos c]; rfl
      · rw [if_neg c, if_neg (nn2 (by omega)), gd_t (in6 hi6), if_neg c]
    rw [st, e1]
    obtain ⟨fl, fe, f2⟩ := far_lt hs di dh
    have f3 := (far_lt hs dh dh).2.2
    unfold fX12_order_79 fX12_order_100 fX12_order_104 fX12_order_105
    by_cases c1 : d i < d h
    · rw [if_pos (nI_lt (fl.mpr c1) (by omega)), if_pos (by simp [c1]), bn_s, bn_s, nI_1, nI_1]
    · rw [if_neg (nI_nlt (by omega) (by omega))]
      by_cases c2 : d i = d h
      · rw [if_pos (by rw [c2])]
        by_cases c3 : i < h
        · rw [if_neg (nI_ge c3 (by omega)), if_pos (by simp [c2, c3]), bn_s, bn_s, nI_1, nI_1]
        · rw [if_pos (nI_le (by omega) (by omega)), if_neg (by simp [c1, c3]), bn_s, bn_s, zI0, nI_add, Nat.add_zero, nI_1]
      · rw [if_neg (fun e => c2 (fe.mp ((nI_eq (by omega) (by omega)).mp e))), if_neg (by simp [c1, c2]), bn_s, bn_s, zI0, nI_add, Nat.add_zero, nI_1]
  · rintro k _ _ _ _ _ _ _ _ _ _ _ _ _ _ ⟨i, hi, rfl, rfl, rfl, rfl, rfl, rfl, rfl, rfl, rfl, rfl, rfl, rfl, rfl, rfl⟩
    have ei : i = M := by omega
    subst ei
    unfold fX12_order_43b
    rw [gd_t i4, n4', h4, if_pos (nI_le (Nat.le_refl _) (by omega))]
theorem e_downN (hQ : QQ H M K N B q S none x17 x18 x23 x24 x25 x26 x74 x75 x76 x77 x78 x79 x92 x93 x94 x95 x96 x97) (v1 : Int32) : ∃ r, (∃ c, fX11_downN x0 x16 x17 x18 x23 x24 x25 x26 v1 x33 x35 x36 x37 x38 x39 = some (r, c)) ∧ ∃ z, fX12_down x79 x92 x93 x94 x95 x96 x97 v1 x74 x75 x76 x77 x78 x101 x104 x112 y99 y100 = some (r, z) ∧ FD x74 x75 x76 x77 x78 x112 z := by
  obtain ⟨hV, hB, hT, hTR, hR, hRR, hW, hfree, hdr⟩ := hQ
  obtain ⟨hM, hH5, hH, hgr, _⟩ := id hV.1
  unfold fX11_downN fX11_downN_0 fX12_down fX12_down_0
  rcases p_house hM hT.2.2.2.2.2.1 hTR.2.2.2.2.2.1 v1 with ⟨h, hh, rfl, u1, u2⟩ | ⟨u1, u2⟩
  · rw [u1, u2, bd1_s, bd1_s, if_neg (show ¬ nI 1 = (0 : Int32) from one_ne), if_neg (show ¬ nI 1 = (0 : Int32) from one_ne)]
    obtain ⟨d33, d35, d36, d37, d38, d39, ec, hc⟩ := c_comesN (x0 := x0) (x16 := x16) (x33 := x33) (x35 := x35) (x36 := x36) (x37 := x37) (x38 := x38) (x39 := x39) hV hB hT hR
    obtain ⟨⟨z74, z75, z76, z77, z78, z101, z104, z112, z99, z100⟩, er, hf, hr⟩ := r_laysDown (x101 := x101) (x104 := x104) (x112 := x112) (y99 := y99) (y100 := y100) hV hB hTR hRR hW hfree hdr
    have rh := hr h hh
    simp only at rh
    have dl := dA_le (fun i => sPl (run H M K N q none i S)) H 100 h (by omega)
    have s0 : S 0 ≤ B := hV.2.2.2.1
    rw [ec, bd6_s, er, bd10_s, gd_t (in6 (show h < 6 by omega)), gd_t (in6 (show h < 6 by omega)), cl6 (show h < 6 by omega), hc h hh, rh]
    unfold dR
    by_cases c : dA (fun i => sPl (run H M K N q none i S)) H 100 h = 100
    · rw [if_pos (show (100 : Int32) ≤ _ by rw [c]; decide), if_pos c, gd_t (in6 (show h < 6 by omega))]
      exact ⟨_, ⟨_, rfl⟩, ⟨_, rfl, hf⟩⟩
    · rw [if_neg (show ¬ (100 : Int32) ≤ _ from nI_ge (b := 100) (by omega) (by omega)), gd_t (in6 (show h < 6 by omega)), if_neg c, show x23 0 = nI (S 0) from hR.1 0 (by omega), nI_add]
      exact ⟨_, ⟨_, rfl⟩, ⟨_, rfl, hf⟩⟩
  · rw [u1, u2, bd1_s, bd1_s, if_pos z00, if_pos z00]
    exact ⟨_, ⟨_, rfl⟩, ⟨_, rfl, Fr_refl⟩⟩
theorem e_orderN (hQ : QQ H M K N B q S none x17 x18 x23 x24 x25 x26 x74 x75 x76 x77 x78 x79 x92 x93 x94 x95 x96 x97) (v1 : Int32) : ∃ r, (∃ c, fX11_orderN x0 x16 x17 x18 x23 x24 x25 x26 v1 x33 x35 x36 x37 x38 x39 = some (r, c)) ∧ ∃ z, fX12_order x79 x92 x93 x94 x95 x96 x97 v1 x74 x75 x76 x77 x78 x101 x104 x112 y99 y100 = some (r, z) ∧ FD x74 x75 x76 x77 x78 x112 z := by
  obtain ⟨hV, hB, hT, hTR, hR, hRR, hW, hfree, hdr⟩ := hQ
  obtain ⟨hM, hH5, hH, hgr, _⟩ := id hV.1
  unfold fX11_orderN fX11_orderN_0 fX12_order fX12_order_0
  rcases p_house hM hT.2.2.2.2.2.1 hTR.2.2.2.2.2.1 v1 with ⟨h, hh, rfl, u1, u2⟩ | ⟨u1, u2⟩
  · rw [u1, u2, bd1_s, bd1_s, if_neg (show ¬ nI 1 = (0 : Int32) from one_ne), if_neg (show ¬ nI 1 = (0 : Int32) from one_ne)]
    obtain ⟨d33, d35, d36, d37, d38, d39, ec, hc⟩ := c_comesN (x0 := x0) (x16 := x16) (x33 := x33) (x35 := x35) (x36 := x36) (x37 := x37) (x38 := x38) (x39 := x39) hV hB hT hR
    obtain ⟨⟨z74, z75, z76, z77, z78, z101, z104, z112, z99, z100⟩, er, hf, hr⟩ := r_laysDown (x101 := x101) (x104 := x104) (x112 := x112) (y99 := y99) (y100 := y100) hV hB hTR hRR hW hfree hdr
    simp only at hr
    have dl := fun h (_ : h < M) => dA_le (fun i => sPl (run H M K N q none i S)) H 100 h (by omega)
    have s0 : S 0 ≤ B := hV.2.2.2.1
    generalize dA (fun i => sPl (run H M K N q none i S)) H 100 = d at hc hr dl
    have dh := dl h hh
    have rh := hr h hh
    obtain ⟨c, eo⟩ := c_orderN (x0 := x0) (x16 := x16) (x18 := x18) (x23 := x23) (x24 := x24) (x25 := x25) (x26 := x26) (x33 := d33) (x35 := d35) (x36 := d36) (x37 := d37) (x38 := d38) hM hh hT.2.2.2.2.2.1 dl hc
    have eo2 := r_order (x74 := z74) (x75 := z75) (x76 := z76) (x77 := z77) (x78 := z78) (x79 := x79) (x92 := x92) (x93 := x93) (x94 := x94) (x95 := x95) (x96 := x96) (x97 := x97) (x101 := z101) (x112 := z112) (y99 := z99) (y100 := z100) hM hh (show S 0 ≤ 999 by omega) ((hf.2.1 4 (by omega)).trans hTR.2.2.2.2.2.1) dl hr
    refine ⟨_, ⟨c, by rw [ec, bd6_s]; exact eo⟩, ⟨(z74, z75, z76, z77, z78, z101, z104, z112, z99, z100), ?_, hf⟩⟩
    rw [er, bd10_s, gd_t (in6 (show h < 6 by omega)), cl6 (show h < 6 by omega), ← eo2, rh]
    unfold fX12_order_37 dR far
    by_cases k0 : d h = 100
    · rw [if_pos k0, if_pos rfl, if_pos k0]; rfl
    · rw [if_neg k0, if_neg (nn2 (by omega)), gd_t (in6 (show h < 6 by omega)), if_neg k0]
  · rw [u1, u2, bd1_s, bd1_s, if_pos z00, if_pos z00]
    exact ⟨_, ⟨_, rfl⟩, ⟨_, rfl, Fr_refl⟩⟩
theorem e_downR {Lru : Nat} {xr : Nat → Int32} {W : (Nat → Int64) → Int64} {z y : Nat → Int64} (hC : CW Lru xr W) (hQ : QQ H M K N B q S (some W) x17 x18 x23 x24 x25 x26 x74 x75 x76 x77 x78 x79 x92 x93 x94 x95 x96 x97) (v1 : Int32) : ∃ r, (∃ c, fX11_downR Lru xr x0 x16 x17 x18 x23 x24 x25 x26 v1 x33 x35 x36 x37 x38 x39 z y = some (r, c)) ∧ ∃ z, fX12_down x79 x92 x93 x94 x95 x96 x97 v1 x74 x75 x76 x77 x78 x101 x104 x112 y99 y100 = some (r, z) ∧ FD x74 x75 x76 x77 x78 x112 z := by
  obtain ⟨hV, hB, hT, hTR, hR, hRR, hW, hfree, hdr⟩ := hQ
  obtain ⟨hM, hH5, hH, hgr, _⟩ := id hV.1
  unfold fX11_downR fX11_downR_0 fX12_down fX12_down_0
  rcases p_house hM hT.2.2.2.2.2.1 hTR.2.2.2.2.2.1 v1 with ⟨h, hh, rfl, u1, u2⟩ | ⟨u1, u2⟩
  · rw [u1, u2, bd1_s, bd1_s, if_neg (show ¬ nI 1 = (0 : Int32) from one_ne), if_neg (show ¬ nI 1 = (0 : Int32) from one_ne)]
    obtain ⟨d33, d35, d36, d37, d38, d39, zz1, yy1, ec, hc⟩ := c_comesR (x0 := x0) (x16 := x16) (x33 := x33) (x35 := x35) (x36 := x36) (x37 := x37) (x38 := x38) (x39 := x39) (z := z) (y := y) hC hV hB hT hR
    obtain ⟨⟨z74, z75, z76, z77, z78, z101, z104, z112, z99, z100⟩, er, hf, hr⟩ := r_laysDown (x101 := x101) (x104 := x104) (x112 := x112) (y99 := y99) (y100 := y100) hV hB hTR hRR hW hfree hdr
    have rh := hr h hh
    simp only at rh
    have dl := dA_le (fun i => sPl (run H M K N q (some W) i S)) H 100 h (by omega)
    have s0 : S 0 ≤ B := hV.2.2.2.1
    rw [ec, bd8_s, er, bd10_s, gd_t (in6 (show h < 6 by omega)), gd_t (in6 (show h < 6 by omega)), cl6 (show h < 6 by omega), hc h hh, rh]
    unfold dR
    by_cases c : dA (fun i => sPl (run H M K N q (some W) i S)) H 100 h = 100
    · rw [if_pos (show (100 : Int32) ≤ _ by rw [c]; decide), if_pos c, gd_t (in6 (show h < 6 by omega))]
      exact ⟨_, ⟨_, rfl⟩, ⟨_, rfl, hf⟩⟩
    · rw [if_neg (show ¬ (100 : Int32) ≤ _ from nI_ge (b := 100) (by omega) (by omega)), gd_t (in6 (show h < 6 by omega)), if_neg c, show x23 0 = nI (S 0) from hR.1 0 (by omega), nI_add]
      exact ⟨_, ⟨_, rfl⟩, ⟨_, rfl, hf⟩⟩
  · rw [u1, u2, bd1_s, bd1_s, if_pos z00, if_pos z00]
    exact ⟨_, ⟨_, rfl⟩, ⟨_, rfl, Fr_refl⟩⟩
theorem e_orderR {Lru : Nat} {xr : Nat → Int32} {W : (Nat → Int64) → Int64} {z y : Nat → Int64} (hC : CW Lru xr W) (hQ : QQ H M K N B q S (some W) x17 x18 x23 x24 x25 x26 x74 x75 x76 x77 x78 x79 x92 x93 x94 x95 x96 x97) (v1 : Int32) : ∃ r, (∃ c, fX11_orderR Lru xr x0 x16 x17 x18 x23 x24 x25 x26 v1 x33 x35 x36 x37 x38 x39 z y = some (r, c)) ∧ ∃ z, fX12_order x79 x92 x93 x94 x95 x96 x97 v1 x74 x75 x76 x77 x78 x101 x104 x112 y99 y100 = some (r, z) ∧ FD x74 x75 x76 x77 x78 x112 z := by
  obtain ⟨hV, hB, hT, hTR, hR, hRR, hW, hfree, hdr⟩ := hQ
  obtain ⟨hM, hH5, hH, hgr, _⟩ := id hV.1
  unfold fX11_orderR fX11_orderR_0 fX12_order fX12_order_0
  rcases p_house hM hT.2.2.2.2.2.1 hTR.2.2.2.2.2.1 v1 with ⟨h, hh, rfl, u1, u2⟩ | ⟨u1, u2⟩
  · rw [u1, u2, bd1_s, bd1_s, if_neg (show ¬ nI 1 = (0 : Int32) from one_ne), if_neg (show ¬ nI 1 = (0 : Int32) from one_ne)]
    obtain ⟨d33, d35, d36, d37, d38, d39, zz1, yy1, ec, hc⟩ := c_comesR (x0 := x0) (x16 := x16) (x33 := x33) (x35 := x35) (x36 := x36) (x37 := x37) (x38 := x38) (x39 := x39) (z := z) (y := y) hC hV hB hT hR
    obtain ⟨⟨z74, z75, z76, z77, z78, z101, z104, z112, z99, z100⟩, er, hf, hr⟩ := r_laysDown (x101 := x101) (x104 := x104) (x112 := x112) (y99 := y99) (y100 := y100) hV hB hTR hRR hW hfree hdr
    simp only at hr
    have dl := fun h (_ : h < M) => dA_le (fun i => sPl (run H M K N q (some W) i S)) H 100 h (by omega)
    have s0 : S 0 ≤ B := hV.2.2.2.1
    generalize dA (fun i => sPl (run H M K N q (some W) i S)) H 100 = d at hc hr dl
    have dh := dl h hh
    have rh := hr h hh
    obtain ⟨c, eo⟩ := c_orderR (x0 := x0) (x16 := x16) (x18 := x18) (x23 := x23) (x24 := x24) (x25 := x25) (x26 := x26) (x33 := d33) (x35 := d35) (x36 := d36) (x37 := d37) (x38 := d38) (z := zz1) (y := yy1) hC hM hh hT.2.2.2.2.2.1 dl hc
    have eo2 := r_order (x74 := z74) (x75 := z75) (x76 := z76) (x77 := z77) (x78 := z78) (x79 := x79) (x92 := x92) (x93 := x93) (x94 := x94) (x95 := x95) (x96 := x96) (x97 := x97) (x101 := z101) (x112 := z112) (y99 := z99) (y100 := z100) hM hh (show S 0 ≤ 999 by omega) ((hf.2.1 4 (by omega)).trans hTR.2.2.2.2.2.1) dl hr
    refine ⟨_, ⟨c, by rw [ec, bd8_s]; exact eo⟩, ⟨(z74, z75, z76, z77, z78, z101, z104, z112, z99, z100), ?_, hf⟩⟩
    rw [er, bd10_s, gd_t (in6 (show h < 6 by omega)), cl6 (show h < 6 by omega), ← eo2, rh]
    unfold fX12_order_37 dR far
    by_cases k0 : d h = 100
    · rw [if_pos k0, if_pos rfl, if_pos k0]; rfl
    · rw [if_neg k0, if_neg (nn2 (by omega)), gd_t (in6 (show h < 6 by omega)), if_neg k0]
  · rw [u1, u2, bd1_s, bd1_s, if_pos z00, if_pos z00]
    exact ⟨_, ⟨_, rfl⟩, ⟨_, rfl, Fr_refl⟩⟩
end QD

/-- what is behind a draw -/
def drw (x : Nat) : Nat := (12345 + 1103515245 * x) % 2147483648
theorem drw_lt (x : Nat) : drw x < 2147483648 := Nat.mod_lt _ (by omega)
theorem drw_i {x : Nat} (h : x < 2147483648) : ((((nI x).toInt64 * 1103515245) + 12345) - (((nI x).toInt64 * 1103515245) + 12345) / 2147483648 * 2147483648).toInt32 = nI (drw x) := by
  rw [nI_l h, show (1103515245 : Int64) = lN 1103515245 from rfl, show (12345 : Int64) = lN 12345 from rfl, show (2147483648 : Int64) = lN 2147483648 from rfl, lN_mul, lN_add, pk_lRem (by omega) (by omega) (by omega), lN_i, Nat.mul_comm, Nat.add_comm]
  rfl
theorem p_draw {x : Nat} (h : x < 2147483648) : fX11_behindDraw (nI x) = some (nI (drw x)) := by
  unfold fX11_behindDraw fX11_behindDraw_0
  rw [drw_i h]
theorem dq {x k : Nat} (h : x < 2147483648) (hk : 0 < k) (hk2 : k < 1000) : nI x / 65536 - nI x / 65536 / nI k * nI k = nI (x / 65536 % k) := by
  rw [show (65536 : Int32) = nI 65536 from rfl, pk_div h (by omega) (by omega), pk_rem (by omega) hk (by omega)]
theorem p_draws {x k : Nat} {x75 : Nat → Int32} (h : x < 2147483648) (hk : 0 < k) (hk2 : k < 1000) (h9 : x75 9 = nI x) : fX12_draws (nI k) x75 = some (nI (drw x / 65536 % k), upd x75 9 (nI (drw x))) := by
  have h9' : x75 (9 : Int32).toNatClampNeg = nI x := h9
  unfold fX12_draws fX12_draws_0
  rw [gd_t (by decide), gd_t (by decide), gd_t (by decide), gd_t (nz_t (by omega) (by omega)), h9', drw_i h, n9', pk_us, dq (drw_lt _) hk hk2]
section QS
variable {H M K N B : Nat} {q : Nat → Nat} {S : SN} {W : WW} {x0 x16 x17 x18 x23 x24 x25 x26 x33 x35 x36 x37 x38 x74 x75 x76 x77 x78 x79 x92 x93 x94 x95 x96 x97 x101 x112 : Nat → Int32} {y99 y100 : Nat → Int64}
/-- a day of a summer -/
def dm (H M K N : Nat) (q : Nat → Nat) (W : WW) (p : Nat) (s : Nat × SN) : Nat × SN := if drw s.1 / 65536 % 100 < p then (drw (drw s.1), stp H M K N q W (drw (drw s.1) / 65536 % 10) s.2) else (drw s.1, stp H M K N q W (hS N q s.2) s.2)
def sm (H M K N : Nat) (q : Nat → Nat) (W : WW) (p : Nat) : Nat → Nat × SN → Nat × SN
  | 0, s => s
  | n + 1, s => sm H M K N q W p n (dm H M K N q W p s)
def sq (H M K N : Nat) (q : Nat → Nat) (W : WW) (p n x : Nat) (S : SN) : Nat → Nat × Nat × Nat
  | 0 => (x, 0, 0)
  | i + 1 => ((sm H M K N q W p n ((sq H M K N q W p n x S i).1, S)).1, (sq H M K N q W p n x S i).2.1 + pcnt (riv H M (sPl (sm H M K N q W p n ((sq H M K N q W p n x S i).1, S)).2)), (sq H M K N q W p n x S i).2.2 + plc (sPl (sm H M K N q W p n ((sq H M K N q W p n x S i).1, S)).2) M)
theorem sm_s {p n : Nat} {s : Nat × SN} : sm H M K N q W p (n + 1) s = sm H M K N q W p n (dm H M K N q W p s) := rfl
theorem dm_V {p : Nat} {s : Nat × SN} (hK : K ≤ 9) (hV : VD H M B s.2) : VD H M (B + 1) (dm H M K N q W p s).2 ∧ (dm H M K N q W p s).1 < 2147483648 := by
  unfold dm
  split
  · exact ⟨VD_stp hK hV, drw_lt _⟩
  · exact ⟨VD_stp hK hV, drw_lt _⟩
theorem sm_V {p : Nat} (hK : K ≤ 9) : ∀ {n B : Nat} {s : Nat × SN}, VD H M B s.2 → s.1 < 2147483648 → VD H M (B + n) (sm H M K N q W p n s).2 ∧ (sm H M K N q W p n s).1 < 2147483648
  | 0, _, _, h, h2 => ⟨h, h2⟩
  | n + 1, B, s, h, h2 => by
    have k := dm_V (q := q) (N := N) (W := W) (p := p) hK h
    have := sm_V (p := p) hK (n := n) (B := B + 1) (s := dm H M K N q W p s) k.1 k.2
    rw [show B + 1 + n = B + (n + 1) by omega] at this
    exact this
theorem sq_V {p n x : Nat} (hK : K ≤ 9) (hV : VD H M B S) (hx : x < 2147483648) : ∀ i, (sq H M K N q W p n x S i).1 < 2147483648
  | 0 => hx
  | i + 1 => (sm_V hK (s := ((sq H M K N q W p n x S i).1, S)) hV (sq_V hK hV hx i)).2
theorem c_summerN {x n p : Nat} (hn : n ≤ 60) (hp : p ≤ 100) (hx : x < 2147483648) (hV : VD H M B S) (hB : B ≤ 999) (hT : TC H M K N q x17 x18) (hR : RC S x23 x24 x25 x26) : ∃ c33 c35 c36 c37 c38, fX11_passSummerN x0 x16 x17 x18 x23 x24 x25 x26 (nI x) (nI n) (nI p) x33 x35 x36 x37 x38 = some (nI (sm H M K N q none p n (x, S)).1, c33, c35, c36, c37, c38) ∧ RC (sm H M K N q none p n (x, S)).2 c35 c36 c37 c38 := by
  obtain ⟨c35, c36, c37, c38, ec, hcp⟩ := p_copy (y0 := x35) (y1 := x36) (y2 := x37) (y3 := x38) hR
  unfold fX11_passSummerN fX11_passSummerN_0
  rw [ec, bd4_s]
  refine loop9 (fX11_passSummerN_20b x0 x16 x17 x18 x23 x24 x25 x26) (fun m v2 v3 v4 v5 _ z35 z36 z37 z38 => ∃ i s, i + m = n ∧ v2 = nI n ∧ v3 = nI p ∧ v4 = nI s.1 ∧ v5 = nI i ∧ RC s.2 z35 z36 z37 z38 ∧ VD H M (B + i) s.2 ∧ s.1 < 2147483648 ∧ sm H M K N q none p m s = sm H M K N q none p n (x, S)) (fun o => ∃ c33 c35 c36 c37 c38, o = some (nI (sm H M K N q none p n (x, S)).1, c33, c35, c36, c37, c38) ∧ RC (sm H M K N q none p n (x, S)).2 c35 c36 c37 c38) ?_ ?_ n 5000 _ _ _ _ _ _ _ _ _ (by omega) ⟨0, (x, S), by omega, rfl, rfl, rfl, rfl, hcp, hV, hx, rfl⟩
  · rintro k m _ _ _ _ z33 z35 z36 z37 z38 ⟨i, s, hi, rfl, rfl, rfl, rfl, hR', hV', hs, hu⟩
    have hd : s.2 0 ≤ B + i := hV'.2.2.2.1
    have hh := p_heatOf hT.1 hT.2.2.2.2.1 hT.2.2.2.2.2.2 (show s.2 0 < 2147483648 by omega) (hR'.1 0 (by omega)) (hR'.1 2 (by omega)) hV'.2.2.2.2.2
    have h9 := hot_9 (d := s.2 0) (ic := s.2 2) hT.1
    have vd := dm_V (q := q) (N := N) (W := none) (p := p) hT.2.1 hV'
    have e1 := p_draw hs
    have e2 := p_draw (drw_lt s.1)
    have l1 := drw_lt s.1
    have l2 := drw_lt (drw s.1)
    have m1 := Nat.mod_lt (drw s.1 / 65536) (show 100 > 0 by omega)
    have m2 := Nat.mod_lt (drw (drw s.1) / 65536) (show 10 > 0 by omega)
    by_cases c : drw s.1 / 65536 % 100 < p
    · have ed : dm H M K N q none p s = (drw (drw s.1), stp H M K N q none (drw (drw s.1) / 65536 % 10) s.2) := by unfold dm; rw [if_pos c]
      obtain ⟨w0, w1, w2, w3, w33, e, hr⟩ := p_passN (t := drw (drw s.1) / 65536 % 10) (x33 := z33) hV' hT (by omega) hR'
      rw [ed] at vd
      refine Or.inl ⟨nI n, nI p, nI (drw (drw s.1)), nI (i + 1), w33, w0, w1, w2, w3, ⟨i + 1, (drw (drw s.1), stp H M K N q none (drw (drw s.1) / 65536 % 10) s.2), by omega, rfl, rfl, rfl, rfl, hr, vd.1, vd.2, ?_⟩, ?_⟩
      · rw [← hu, sm_s, ed]
      · unfold fX11_passSummerN_20b fX11_passSummerN_80
        rw [if_neg (nI_ge (show i < n by omega) (by omega)), hh, bd1_s, e1, bd1_s, show (100 : Int32) = nI 100 from rfl, dq l1 (by omega) (by omega), if_neg (nI_ge c (by omega)), e2, bd1_s, zI10, dq l2 (by omega) (by omega), bn_s, e, bd6_s, bn_s, nI_1]
    · have ed : dm H M K N q none p s = (drw s.1, stp H M K N q none (hS N q s.2) s.2) := by unfold dm; rw [if_neg c]
      obtain ⟨w0, w1, w2, w3, w33, e, hr⟩ := p_passN (t := hot N q (s.2 0) (s.2 2)) (x33 := z33) hV' hT (by omega) hR'
      rw [ed] at vd
      refine Or.inl ⟨nI n, nI p, nI (drw s.1), nI (i + 1), w33, w0, w1, w2, w3, ⟨i + 1, (drw s.1, stp H M K N q none (hS N q s.2) s.2), by omega, rfl, rfl, rfl, rfl, hr, vd.1, vd.2, ?_⟩, ?_⟩
      · rw [← hu, sm_s, ed]
      · unfold fX11_passSummerN_20b fX11_passSummerN_80
        rw [if_neg (nI_ge (show i < n by omega) (by omega)), hh, bd1_s, e1, bd1_s, show (100 : Int32) = nI 100 from rfl, dq l1 (by omega) (by omega), if_pos (nI_le (by omega) (by omega)), e, bd6_s, bn_s, nI_1]
  · rintro k _ _ _ _ z33 z35 z36 z37 z38 ⟨i, s, hi, rfl, rfl, rfl, rfl, hR', hV', hs, hu⟩
    have ei : i = n := by omega
    subst ei
    have hu' : s = sm H M K N q none p i (x, S) := hu
    refine ⟨z33, z35, z36, z37, z38, ?_, by rw [← hu']; exact hR'⟩
    unfold fX11_passSummerN_20b
    rw [if_pos (nI_le (Nat.le_refl _) (by omega)), ← hu']
theorem c_summersN {x m n p w : Nat} (hm : m ≤ 10) (hn : n ≤ 60) (hp : p ≤ 100) (hw : w ≤ 1) (hx : x < 2147483648) (hV : VD H M B S) (hB : B ≤ 999) (hT : TC H M K N q x17 x18) (hR : RC S x23 x24 x25 x26) : ∃ c, fX11_summersN_64 x0 x16 x17 x18 x23 x24 x25 x26 (nI m) (nI n) (nI p) (nI w) 0 (nI x) 0 x33 x35 x36 x37 x38 = some (if w = 0 then nI (sq H M K N q none p n x S m).2.1 else nI (sq H M K N q none p n x S m).2.2, c) := by
  have hM := hV.1.1
  unfold fX11_summersN_64
  refine loop12 (fX11_summersN_64b x0 x16 x17 x18 x23 x24 x25 x26) (fun m' v1 v2 v3 v4 v5 v6 v7 _ _ _ _ _ => ∃ i, i + m' = m ∧ v1 = nI m ∧ v2 = nI n ∧ v3 = nI p ∧ v4 = nI w ∧ v5 = (if w = 0 then nI (sq H M K N q none p n x S i).2.1 else nI (sq H M K N q none p n x S i).2.2) ∧ v6 = nI (sq H M K N q none p n x S i).1 ∧ v7 = nI i) (fun o => ∃ c, o = some (if w = 0 then nI (sq H M K N q none p n x S m).2.1 else nI (sq H M K N q none p n x S m).2.2, c)) ?_ ?_ m 5000 _ _ _ _ _ _ _ _ _ _ _ _ (by omega) ⟨0, by omega, rfl, rfl, rfl, rfl, by split <;> rfl, rfl, rfl⟩
  · rintro k m' _ _ _ _ _ _ _ z33 z35 z36 z37 z38 ⟨i, hi, rfl, rfl, rfl, rfl, rfl, rfl, rfl⟩
    have hxi := sq_V (q := q) (N := N) (W := none) (p := p) (n := n) hT.2.1 hV hx i
    obtain ⟨c33, c35, c36, c37, c38, e, hr⟩ := c_summerN (x0 := x0) (x16 := x16) (x33 := z33) (x35 := z35) (x36 := z36) (x37 := z37) (x38 := z38) hn hp hxi hV hB hT hR
    have vs := (sm_V (p := p) (N := N) (q := q) (W := none) (n := n) hT.2.1 (s := ((sq H M K N q none p n x S i).1, S)) hV hxi).1
    have hr64 : riv H M (sPl (sm H M K N q none p n ((sq H M K N q none p n x S i).1, S)).2) < 64 := bset_lt _
    refine Or.inl ⟨nI m, nI n, nI p, nI w, (if w = 0 then nI (sq H M K N q none p n x S (i + 1)).2.1 else nI (sq H M K N q none p n x S (i + 1)).2.2), nI (sq H M K N q none p n x S (i + 1)).1, nI (i + 1), c33, c35, c36, c37, c38, ⟨i + 1, by omega, rfl, rfl, rfl, rfl, rfl, rfl, rfl⟩, ?_⟩
    unfold fX11_summersN_64b fX11_summersN_121
    rw [if_neg (nI_ge (show i < m by omega) (by omega)), e, bd6_s]
    by_cases w0 : w = 0
    · rw [if_pos (by rw [w0]; rfl), p_riverC vs hT (RC_p hr), bd1_s, (pc6 hr64).1, bd1_s, bn_s, bn_s, nI_1, if_pos w0, if_pos w0, nI_add]
      rfl
    · rw [if_neg (ne0 w0 (by omega)), p_placesC hM hT.2.2.2.2.2.1 (RC_p hr), bd1_s, bn_s, bn_s, nI_1, if_neg w0, if_neg w0, nI_add]
      rfl
  · rintro k _ _ _ _ _ _ _ z33 z35 z36 z37 z38 ⟨i, hi, rfl, rfl, rfl, rfl, rfl, rfl, rfl⟩
    have ei : i = m := by omega
    subst ei
    unfold fX11_summersN_64b
    rw [if_pos (nI_le (Nat.le_refl _) (by omega))]
    exact ⟨_, rfl⟩
theorem c_summerR {Lru : Nat} {xr : Nat → Int32} {W : (Nat → Int64) → Int64} {z y : Nat → Int64} (hC : CW Lru xr W) {x n p : Nat} (hn : n ≤ 60) (hp : p ≤ 100) (hx : x < 2147483648) (hV : VD H M B S) (hB : B ≤ 999) (hT : TC H M K N q x17 x18) (hR : RC S x23 x24 x25 x26) : ∃ c33 c35 c36 c37 c38 z1 y1, fX11_passSummerR Lru xr x0 x16 x17 x18 x23 x24 x25 x26 (nI x) (nI n) (nI p) x33 x35 x36 x37 x38 z y = some (nI (sm H M K N q (some W) p n (x, S)).1, c33, c35, c36, c37, c38, z1, y1) ∧ RC (sm H M K N q (some W) p n (x, S)).2 c35 c36 c37 c38 := by
  obtain ⟨c35, c36, c37, c38, ec, hcp⟩ := p_copy (y0 := x35) (y1 := x36) (y2 := x37) (y3 := x38) hR
  unfold fX11_passSummerR fX11_passSummerR_0
  rw [ec, bd4_s]
  refine loop11 (fX11_passSummerR_20b Lru xr x0 x16 x17 x18 x23 x24 x25 x26) (fun m v2 v3 v4 v5 _ z35 z36 z37 z38 _ _ => ∃ i s, i + m = n ∧ v2 = nI n ∧ v3 = nI p ∧ v4 = nI s.1 ∧ v5 = nI i ∧ RC s.2 z35 z36 z37 z38 ∧ VD H M (B + i) s.2 ∧ s.1 < 2147483648 ∧ sm H M K N q (some W) p m s = sm H M K N q (some W) p n (x, S)) (fun o => ∃ c33 c35 c36 c37 c38 z1 y1, o = some (nI (sm H M K N q (some W) p n (x, S)).1, c33, c35, c36, c37, c38, z1, y1) ∧ RC (sm H M K N q (some W) p n (x, S)).2 c35 c36 c37 c38) ?_ ?_ n 5000 _ _ _ _ _ _ _ _ _ _ _ (by omega) ⟨0, (x, S), by omega, rfl, rfl, rfl, rfl, hcp, hV, hx, rfl⟩
  · rintro k m _ _ _ _ z33 z35 z36 z37 z38 zz yy ⟨i, s, hi, rfl, rfl, rfl, rfl, hR', hV', hs, hu⟩
    have hd : s.2 0 ≤ B + i := hV'.2.2.2.1
    have hh := p_heatOf hT.1 hT.2.2.2.2.1 hT.2.2.2.2.2.2 (show s.2 0 < 2147483648 by omega) (hR'.1 0 (by omega)) (hR'.1 2 (by omega)) hV'.2.2.2.2.2
    have h9 := hot_9 (d := s.2 0) (ic := s.2 2) hT.1
    have vd := dm_V (q := q) (N := N) (W := (some W)) (p := p) hT.2.1 hV'
    have e1 := p_draw hs
    have e2 := p_draw (drw_lt s.1)
    have l1 := drw_lt s.1
    have l2 := drw_lt (drw s.1)
    have m1 := Nat.mod_lt (drw s.1 / 65536) (show 100 > 0 by omega)
    have m2 := Nat.mod_lt (drw (drw s.1) / 65536) (show 10 > 0 by omega)
    by_cases c : drw s.1 / 65536 % 100 < p
    · have ed : dm H M K N q (some W) p s = (drw (drw s.1), stp H M K N q (some W) (drw (drw s.1) / 65536 % 10) s.2) := by unfold dm; rw [if_pos c]
      obtain ⟨w0, w1, w2, w3, w33, zz1, yy1, e, hr⟩ := p_passR (t := drw (drw s.1) / 65536 % 10) (x33 := z33) (z := zz) (y := yy) hC hV' (by omega) hT (by omega) hR'
      rw [ed] at vd
      refine Or.inl ⟨nI n, nI p, nI (drw (drw s.1)), nI (i + 1), w33, w0, w1, w2, w3, zz1, yy1, ⟨i + 1, (drw (drw s.1), stp H M K N q (some W) (drw (drw s.1) / 65536 % 10) s.2), by omega, rfl, rfl, rfl, rfl, hr, vd.1, vd.2, ?_⟩, ?_⟩
      · rw [← hu, sm_s, ed]
      · unfold fX11_passSummerR_20b fX11_passSummerR_80
        rw [if_neg (nI_ge (show i < n by omega) (by omega)), hh, bd1_s, e1, bd1_s, show (100 : Int32) = nI 100 from rfl, dq l1 (by omega) (by omega), if_neg (nI_ge c (by omega)), e2, bd1_s, zI10, dq l2 (by omega) (by omega), bn_s, e, bd8_s, bn_s, nI_1]
    · have ed : dm H M K N q (some W) p s = (drw s.1, stp H M K N q (some W) (hS N q s.2) s.2) := by unfold dm; rw [if_neg c]
      obtain ⟨w0, w1, w2, w3, w33, zz1, yy1, e, hr⟩ := p_passR (t := hot N q (s.2 0) (s.2 2)) (x33 := z33) (z := zz) (y := yy) hC hV' (by omega) hT (by omega) hR'
      rw [ed] at vd
      refine Or.inl ⟨nI n, nI p, nI (drw s.1), nI (i + 1), w33, w0, w1, w2, w3, zz1, yy1, ⟨i + 1, (drw s.1, stp H M K N q (some W) (hS N q s.2) s.2), by omega, rfl, rfl, rfl, rfl, hr, vd.1, vd.2, ?_⟩, ?_⟩
      · rw [← hu, sm_s, ed]
      · unfold fX11_passSummerR_20b fX11_passSummerR_80
        rw [if_neg (nI_ge (show i < n by omega) (by omega)), hh, bd1_s, e1, bd1_s, show (100 : Int32) = nI 100 from rfl, dq l1 (by omega) (by omega), if_pos (nI_le (by omega) (by omega)), e, bd8_s, bn_s, nI_1]
  · rintro k _ _ _ _ z33 z35 z36 z37 z38 zz yy ⟨i, s, hi, rfl, rfl, rfl, rfl, hR', hV', hs, hu⟩
    have ei : i = n := by omega
    subst ei
    have hu' : s = sm H M K N q (some W) p i (x, S) := hu
    refine ⟨z33, z35, z36, z37, z38, zz, yy, ?_, by rw [← hu']; exact hR'⟩
    unfold fX11_passSummerR_20b
    rw [if_pos (nI_le (Nat.le_refl _) (by omega)), ← hu']
theorem c_summersR {Lru : Nat} {xr : Nat → Int32} {W : (Nat → Int64) → Int64} {z y : Nat → Int64} (hC : CW Lru xr W) {x m n p w : Nat} (hm : m ≤ 10) (hn : n ≤ 60) (hp : p ≤ 100) (hw : w ≤ 1) (hx : x < 2147483648) (hV : VD H M B S) (hB : B ≤ 999) (hT : TC H M K N q x17 x18) (hR : RC S x23 x24 x25 x26) : ∃ c, fX11_summersR_64 Lru xr x0 x16 x17 x18 x23 x24 x25 x26 (nI m) (nI n) (nI p) (nI w) 0 (nI x) 0 x33 x35 x36 x37 x38 z y = some (if w = 0 then nI (sq H M K N q (some W) p n x S m).2.1 else nI (sq H M K N q (some W) p n x S m).2.2, c) := by
  have hM := hV.1.1
  unfold fX11_summersR_64
  refine loop14 (fX11_summersR_64b Lru xr x0 x16 x17 x18 x23 x24 x25 x26) (fun m' v1 v2 v3 v4 v5 v6 v7 _ _ _ _ _ _ _ => ∃ i, i + m' = m ∧ v1 = nI m ∧ v2 = nI n ∧ v3 = nI p ∧ v4 = nI w ∧ v5 = (if w = 0 then nI (sq H M K N q (some W) p n x S i).2.1 else nI (sq H M K N q (some W) p n x S i).2.2) ∧ v6 = nI (sq H M K N q (some W) p n x S i).1 ∧ v7 = nI i) (fun o => ∃ c, o = some (if w = 0 then nI (sq H M K N q (some W) p n x S m).2.1 else nI (sq H M K N q (some W) p n x S m).2.2, c)) ?_ ?_ m 5000 _ _ _ _ _ _ _ _ _ _ _ _ _ _ (by omega) ⟨0, by omega, rfl, rfl, rfl, rfl, by split <;> rfl, rfl, rfl⟩
  · rintro k m' _ _ _ _ _ _ _ z33 z35 z36 z37 z38 zz yy ⟨i, hi, rfl, rfl, rfl, rfl, rfl, rfl, rfl⟩
    have hxi := sq_V (q := q) (N := N) (W := (some W)) (p := p) (n := n) hT.2.1 hV hx i
    obtain ⟨c33, c35, c36, c37, c38, zz1, yy1, e, hr⟩ := c_summerR (x0 := x0) (x16 := x16) (x33 := z33) (x35 := z35) (x36 := z36) (x37 := z37) (x38 := z38) (z := zz) (y := yy) hC hn hp hxi hV hB hT hR
    have vs := (sm_V (p := p) (N := N) (q := q) (W := (some W)) (n := n) hT.2.1 (s := ((sq H M K N q (some W) p n x S i).1, S)) hV hxi).1
    have hr64 : riv H M (sPl (sm H M K N q (some W) p n ((sq H M K N q (some W) p n x S i).1, S)).2) < 64 := bset_lt _
    refine Or.inl ⟨nI m, nI n, nI p, nI w, (if w = 0 then nI (sq H M K N q (some W) p n x S (i + 1)).2.1 else nI (sq H M K N q (some W) p n x S (i + 1)).2.2), nI (sq H M K N q (some W) p n x S (i + 1)).1, nI (i + 1), c33, c35, c36, c37, c38, zz1, yy1, ⟨i + 1, by omega, rfl, rfl, rfl, rfl, rfl, rfl, rfl⟩, ?_⟩
    unfold fX11_summersR_64b fX11_summersR_121
    rw [if_neg (nI_ge (show i < m by omega) (by omega)), e, bd8_s]
    by_cases w0 : w = 0
    · rw [if_pos (by rw [w0]; rfl), p_riverC vs hT (RC_p hr), bd1_s, (pc6 hr64).1, bd1_s, bn_s, bn_s, nI_1, if_pos w0, if_pos w0, nI_add]
      rfl
    · rw [if_neg (ne0 w0 (by omega)), p_placesC hM hT.2.2.2.2.2.1 (RC_p hr), bd1_s, bn_s, bn_s, nI_1, if_neg w0, if_neg w0, nI_add]
      rfl
  · rintro k _ _ _ _ _ _ _ z33 z35 z36 z37 z38 zz yy ⟨i, hi, rfl, rfl, rfl, rfl, rfl, rfl, rfl⟩
    have ei : i = m := by omega
    subst ei
    unfold fX11_summersR_64b
    rw [if_pos (nI_le (Nat.le_refl _) (by omega))]
    exact ⟨_, rfl⟩
theorem TR_5 {z75 : Nat → Int32} (hT : TR H M K N q x75 x79) (h : ∀ j, j < 5 → z75 j = x75 j) : TR H M K N q z75 x79 := by
  obtain ⟨hQ, hK, h0, h2, h3, h4, hq⟩ := hT
  exact ⟨hQ, hK, (h 0 (by omega)).trans h0, (h 2 (by omega)).trans h2, (h 3 (by omega)).trans h3, (h 4 (by omega)).trans h4, hq⟩
theorem RR_57 {z75 : Nat → Int32} (h : RR S x75 x76 x77 x78) (h1 : ∀ j, 5 ≤ j → j < 8 → z75 j = x75 j) : RR S z75 x76 x77 x78 := ⟨fun j hj => (h1 (5 + j) (by omega) (by omega)).trans (h.1 j hj), h.2.1, h.2.2.1, h.2.2.2⟩
theorem r_summer {x n p a b : Nat} {v1 v4 v5 v9 : Int32} (hn : n ≤ 60) (hp : p ≤ 100) (hx : x < 2147483648) (hV : VD H M B S) (hB : B ≤ 999) (hT : TR H M K N q x75 x79) (hR : RR S x75 x76 x77 x78) (hW : RW (x75 10) x92 x93 x94 x95 x96 x97 W) (hfree : x74 38 = -5) (hdr : x74 37 = -1) {z74 z75 z76 z77 z78 z101 z112 : Nat → Int32} {z99 z100 : Nat → Int64} (hk : Kd x74 x75 x76 x77 x78 x112 z74 z75 z76 z77 z78 z112) (k82 : Int32 → Int32 → Int32 → Int32 → Int32 → Int32 → Int32 → Int32 → Int32 → (Nat → Int32) → (Nat → Int32) → (Nat → Int32) → (Nat → Int32) → (Nat → Int32) → (Nat → Int32) → (Nat → Int32) → (Nat → Int64) → (Nat → Int64) → Option (Int32 × T9)) : ∃ u74 u75 u76 u77 u78 u101 u99 u100, fX12_summers_100 x79 x92 x93 x94 x95 x96 x97 k82 v1 (nI n) (nI p) v4 v5 (nI a) (nI b) v9 0 z74 (upd z75 9 (nI x)) z76 z77 z78 z101 z112 z99 z100 = k82 v1 (nI n) (nI p) v4 v5 (nI (sm H M K N q W p n (x, S)).1) (nI (a + pcnt (riv H M (sPl (sm H M K N q W p n (x, S)).2)))) (nI (b + plc (sPl (sm H M K N q W p n (x, S)).2) M)) (v9 + 1) u74 u75 u76 u77 u78 u101 z112 u99 u100 ∧ Kd x74 x75 x76 x77 x78 x112 u74 u75 u76 u77 u78 z112 := by
  have hM := hV.1.1
  have hT0 := TR_same hT hk.1.2.1
  unfold fX12_summers_100
  refine loop18 (fX12_summers_100b x79 x92 x93 x94 x95 x96 x97 k82) (fun m w1 w2 w3 w4 w5 w7 w8 w9 w10 y74 y75 y76 y77 y78 _ y112 _ _ => ∃ i s, i + m = n ∧ v1 = w1 ∧ w2 = nI n ∧ w3 = nI p ∧ v4 = w4 ∧ v5 = w5 ∧ w7 = nI a ∧ w8 = nI b ∧ v9 = w9 ∧ w10 = nI i ∧ (∀ j, j ≠ 37 → y74 j = z74 j) ∧ (∀ j, j < 5 ∨ j = 8 ∨ j = 10 → y75 j = z75 j) ∧ y75 9 = nI s.1 ∧ RR s.2 y75 y76 y77 y78 ∧ z112 = y112 ∧ VD H M (B + i) s.2 ∧ s.1 < 2147483648 ∧ sm H M K N q W p m s = sm H M K N q W p n (x, S)) (fun o => ∃ u74 u75 u76 u77 u78 u101 u99 u100, o = k82 v1 (nI n) (nI p) v4 v5 (nI (sm H M K N q W p n (x, S)).1) (nI (a + pcnt (riv H M (sPl (sm H M K N q W p n (x, S)).2)))) (nI (b + plc (sPl (sm H M K N q W p n (x, S)).2) M)) (v9 + 1) u74 u75 u76 u77 u78 u101 z112 u99 u100 ∧ Kd x74 x75 x76 x77 x78 x112 u74 u75 u76 u77 u78 z112) ?_ ?_ n 5000 _ _ _ _ _ _ _ _ _ _ _ _ _ _ _ _ _ _ (by omega) ⟨0, (x, S), by omega, rfl, rfl, rfl, rfl, rfl, rfl, rfl, rfl, rfl, fun _ _ => rfl, fun j hj => pk_un (by omega), rfl, RR_57 (RR_same hR hk.1.2.1 hk.1.2.2.1 hk.1.2.2.2.1 hk.1.2.2.2.2.1) (fun j _ _ => pk_un (by omega)), rfl, hV, hx, rfl⟩
  · rintro k m _ _ _ _ _ _ _ _ _ y74 y75 y76 y77 y78 y101 _ y99 y100 ⟨i, s, hi, rfl, rfl, rfl, rfl, rfl, rfl, rfl, rfl, rfl, f74, f75, f9, hR', rfl, hV', hs, hu⟩
    have vd := dm_V (q := q) (N := N) (W := W) (p := p) hT.2.1 hV'
    have l1 := drw_lt s.1
    have l2 := drw_lt (drw s.1)
    have m2 := Nat.mod_lt (drw (drw s.1) / 65536) (show 10 > 0 by omega)
    have e1 := p_draws (k := 100) hs (by omega) (by omega) f9
    have free : ∀ v : Int32, upd y74 37 v 38 = -5 := fun v => by rw [pk_un (by omega), f74 38 (by omega), hk.1.1 38 (by omega) (by omega)]; exact hfree
    by_cases c : drw s.1 / 65536 % 100 < p
    · have ed : dm H M K N q W p s = (drw (drw s.1), stp H M K N q W (drw (drw s.1) / 65536 % 10) s.2) := by unfold dm; rw [if_pos c]
      rw [ed] at vd
      have e2 := p_draws (x75 := upd y75 9 (nI (drw s.1))) (k := 10) l1 (by omega) (by omega) rfl
      obtain ⟨w75, w76, w77, w78, w101, w99, w100, e, hr, hf⟩ := p_goes (x74 := upd y74 37 (nI (drw (drw s.1) / 65536 % 10))) (x75 := upd (upd y75 9 (nI (drw s.1))) 9 (nI (drw (drw s.1)))) (x101 := y101) (y99 := y99) (y100 := y100) (W := W) (t := drw (drw s.1) / 65536 % 10) hV' (by omega) (TR_5 hT0 fun j hj => by rw [pk_un (by omega), pk_un (by omega)]; exact f75 j (by omega)) (free _) (Or.inl ⟨rfl, by omega⟩) (RR_57 hR' fun j h5 h8 => by rw [pk_un (by omega), pk_un (by omega)]) (by rw [pk_un (by omega), pk_un (by omega), f75 10 (by omega), hk.1.2.1 10 (by omega)]; exact hW)
      refine Or.inl ⟨_, _, _, _, _, _, _, _, nI (i + 1), upd y74 37 (nI (drw (drw s.1) / 65536 % 10)), w75, w76, w77, w78, w101, _, w99, w100, ⟨i + 1, (drw (drw s.1), stp H M K N q W (drw (drw s.1) / 65536 % 10) s.2), by omega, rfl, rfl, rfl, rfl, rfl, rfl, rfl, rfl, rfl, fun j hj => by rw [pk_un hj]; exact f74 j hj, fun j hj => ?_, ?_, hr, rfl, vd.1, vd.2, by rw [← hu, sm_s, ed]⟩, ?_⟩
      · rw [hf j (by omega), pk_un (by omega), pk_un (by omega)]; exact f75 j hj
      · rw [hf 9 (by omega), pk_us]
      · unfold fX12_summers_100b fX12_summers_127
        rw [if_neg (nI_ge (show i < n by omega) (by omega)), show (100 : Int32) = nI 100 from rfl, e1, bd2_s, if_neg (nI_ge c (by omega)), zI10, e2, bd2_s, e, bd9_s, bn_s, nI_1]
    · have ed : dm H M K N q W p s = (drw s.1, stp H M K N q W (hS N q s.2) s.2) := by unfold dm; rw [if_neg c]
      rw [ed] at vd
      obtain ⟨w75, w76, w77, w78, w101, w99, w100, e, hr, hf⟩ := p_goes (x74 := upd y74 37 (-1)) (x75 := upd y75 9 (nI (drw s.1))) (x101 := y101) (y99 := y99) (y100 := y100) (W := W) (t := hS N q s.2) hV' (by omega) (TR_5 hT0 fun j hj => by rw [pk_un (by omega)]; exact f75 j (by omega)) (free _) (Or.inr ⟨rfl, rfl⟩) (RR_57 hR' fun j h5 h8 => by rw [pk_un (by omega)]) (by rw [pk_un (by omega), f75 10 (by omega), hk.1.2.1 10 (by omega)]; exact hW)
      refine Or.inl ⟨_, _, _, _, _, _, _, _, nI (i + 1), upd y74 37 (-1), w75, w76, w77, w78, w101, _, w99, w100, ⟨i + 1, (drw s.1, stp H M K N q W (hS N q s.2) s.2), by omega, rfl, rfl, rfl, rfl, rfl, rfl, rfl, rfl, rfl, fun j hj => by rw [pk_un hj]; exact f74 j hj, fun j hj => ?_, ?_, hr, rfl, vd.1, vd.2, by rw [← hu, sm_s, ed]⟩, ?_⟩
      · rw [hf j (by omega), pk_un (by omega)]; exact f75 j hj
      · rw [hf 9 (by omega), pk_us]
      · unfold fX12_summers_100b fX12_summers_127
        rw [if_neg (nI_ge (show i < n by omega) (by omega)), show (100 : Int32) = nI 100 from rfl, e1, bd2_s, if_pos (nI_le (by omega) (by omega)), e, bd9_s, bn_s, nI_1]
  · rintro k _ _ _ _ _ _ _ _ _ y74 y75 y76 y77 y78 y101 _ y99 y100 ⟨i, s, hi, rfl, rfl, rfl, rfl, rfl, rfl, rfl, rfl, rfl, f74, f75, f9, hR', rfl, hV', hs, hu⟩
    have ei : i = n := by omega
    subst ei
    have hu' : s = sm H M K N q W p i (x, S) := hu
    rw [← hu']
    have hTy := TR_5 hT0 fun j hj => f75 j (by omega)
    have hr64 : riv H M (sPl s.2) < 64 := bset_lt _
    obtain ⟨u74, u75, u76, u77, u78, eu, hku⟩ := p_backKd (w74 := upd y74 37 (-1)) (w75 := y75) (w76 := y76) (w77 := y77) (w78 := y78) hk (fun j h6 h7 => by
      by_cases c : j = 37
      · subst c; rw [pk_us, hk.1.1 37 (by omega) (by omega), hdr]
      · rw [pk_un c]; exact f74 j c)
    refine ⟨u74, u75, u76, u77, u78, y101, y99, y100, ?_, hku⟩
    have f9' : y75 (9 : Int32).toNatClampNeg = nI s.1 := f9
    unfold fX12_summers_100b
    rw [if_pos (nI_le (Nat.le_refl _) (by omega)), p_riverR hV' hTy (RC_p hR'), bd1_s, (pc6 hr64).2, bd1_s, bn_s, p_placesR hM hTy.2.2.2.2.2.1 (RC_p hR'), bd1_s, bn_s, gd_t (by decide), bn_s, eu, bd6_s, bn_s, nI_add, nI_add, f9']
theorem r_summers {x m n p w : Nat} (hm : m ≤ 10) (hn : n ≤ 60) (hp : p ≤ 100) (hw : w ≤ 1) (hx : x < 2147483648) (h9 : x75 9 = nI x) (hV : VD H M B S) (hB : B ≤ 999) (hT : TR H M K N q x75 x79) (hR : RR S x75 x76 x77 x78) (hW : RW (x75 10) x92 x93 x94 x95 x96 x97 W) (hfree : x74 38 = -5) (hdr : x74 37 = -1) {a74 a112 : Nat → Int32} (hk : Kd x74 x75 x76 x77 x78 x112 a74 x75 x76 x77 x78 a112) : ∃ z, fX12_summers_82 x79 x92 x93 x94 x95 x96 x97 (nI m) (nI n) (nI p) (nI w) (nI x) (nI x) 0 0 0 a74 x75 x76 x77 x78 x101 a112 y99 y100 = some (if w = 0 then nI (sq H M K N q W p n x S m).2.1 else nI (sq H M K N q W p n x S m).2.2, z) ∧ FT x74 x75 x76 x77 x78 x112 z := by
  unfold fX12_summers_82
  refine loop18 (fX12_summers_82b x79 x92 x93 x94 x95 x96 x97) (fun m' v1 v2 v3 v4 v5 v6 v7 v8 v9 z74 z75 z76 z77 z78 _ z112 _ _ => ∃ i, i + m' = m ∧ v1 = nI m ∧ v2 = nI n ∧ v3 = nI p ∧ v4 = nI w ∧ v5 = nI x ∧ v6 = nI (sq H M K N q W p n x S i).1 ∧ v7 = nI (sq H M K N q W p n x S i).2.1 ∧ v8 = nI (sq H M K N q W p n x S i).2.2 ∧ v9 = nI i ∧ Kd x74 x75 x76 x77 x78 x112 z74 z75 z76 z77 z78 z112) (fun o => ∃ z, o = some (if w = 0 then nI (sq H M K N q W p n x S m).2.1 else nI (sq H M K N q W p n x S m).2.2, z) ∧ FT x74 x75 x76 x77 x78 x112 z) ?_ ?_ m 5000 _ _ _ _ _ _ _ _ _ _ _ _ _ _ _ _ _ _ (by omega) ⟨0, by omega, rfl, rfl, rfl, rfl, rfl, rfl, rfl, rfl, rfl, hk⟩
  · rintro k m' _ _ _ _ _ _ _ _ _ z74 z75 z76 z77 z78 z101 z112 z99 z100 ⟨i, hi, rfl, rfl, rfl, rfl, rfl, rfl, rfl, rfl, rfl, hk⟩
    have hxi := sq_V (q := q) (N := N) (W := W) (p := p) (n := n) hT.2.1 hV hx i
    obtain ⟨u74, u75, u76, u77, u78, u101, u99, u100, e, hu⟩ := r_summer (v1 := nI m) (v4 := nI w) (v5 := nI x) (v9 := nI i) (a := (sq H M K N q W p n x S i).2.1) (b := (sq H M K N q W p n x S i).2.2) (z101 := z101) (z99 := z99) (z100 := z100) hn hp hxi hV hB hT hR hW hfree hdr hk k
    refine Or.inl ⟨_, _, _, _, _, _, _, _, _, u74, u75, u76, u77, u78, u101, z112, u99, u100, ⟨i + 1, by omega, rfl, rfl, rfl, rfl, rfl, rfl, rfl, rfl, rfl, hu⟩, ?_⟩
    rw [nI_1] at e
    refine Eq.trans ?_ e
    unfold fX12_summers_82b
    rw [if_neg (nI_ge (show i < m by omega) (by omega)), gd_t (by decide), n9']
  · rintro k _ _ _ _ _ _ _ _ _ z74 z75 z76 z77 z78 z101 z112 z99 z100 ⟨i, hi, rfl, rfl, rfl, rfl, rfl, rfl, rfl, rfl, rfl, hk⟩
    have ei : i = m := by omega
    subst ei
    have hf : FT x74 x75 x76 x77 x78 x112 (z74, upd z75 9 (nI x), z76, z77, z78, z101, z112, z99, z100) := ⟨hk.1.1, fun j hj => by
      by_cases c : j = 9
      · subst c; rw [h9]; exact (pk_us : upd z75 9 (nI x) 9 = nI x)
      · exact (pk_un c).trans (hk.1.2.1 j hj), hk.1.2.2.1, hk.1.2.2.2.1, hk.1.2.2.2.2.1, hk.1.2.2.2.2.2⟩
    refine ⟨_, ?_, hf⟩
    unfold fX12_summers_82b
    rw [if_pos (nI_le (Nat.le_refl _) (by omega)), gd_t (by decide), n9']
    by_cases w0 : w = 0
    · rw [if_pos (by rw [w0]; rfl), if_pos w0]
    · rw [if_neg (ne0 w0 (by omega)), if_neg w0]
theorem e_summersN {x : Nat} (hQ : QQ H M K N B q S none x17 x18 x23 x24 x25 x26 x74 x75 x76 x77 x78 x79 x92 x93 x94 x95 x96 x97) (hx : x < 2147483648) (h16 : x16 9 = nI x) (h9 : x75 9 = nI x) (v1 v2 v3 v4 : Int32) : ∃ r, (∃ c, fX11_summersN x0 x16 x17 x18 x23 x24 x25 x26 v1 v2 v3 v4 x33 x35 x36 x37 x38 = some (r, c)) ∧ ∃ z, fX12_summers x79 x92 x93 x94 x95 x96 x97 v1 v2 v3 v4 x74 x75 x76 x77 x78 x101 x112 y99 y100 = some (r, z) ∧ FT x74 x75 x76 x77 x78 x112 z := by
  obtain ⟨hV, hB, hT, hTR, hR, hRR, hW, hfree, hdr⟩ := hQ
  obtain ⟨hM, hH5, hH, hgr, _⟩ := id hV.1
  have tl := p_told1 hT.2.2.1 (by omega) hH
  have tw := p_town1 hTR.2.2.1 (by omega) hH
  unfold fX11_summersN fX11_summersN_0 fX12_summers fX12_summers_0
  rw [tl, tw, bd1_s, bd1_s, if_neg (show ¬ nI 1 = (0 : Int32) from one_ne), if_neg (show ¬ nI 1 = (0 : Int32) from one_ne)]
  rcases p_within (lo := 1) (hi := 10) (by omega) (by omega) v1 with ⟨m, m1, m2, rfl, c1, d1⟩ | ⟨c1, d1⟩
  · rw [show fX11_isWithin (nI m) 1 10 = _ from c1, bd1_s, if_neg (show ¬ nI 1 = (0 : Int32) from one_ne), show fX12_in (nI m).toInt64 1 10 = _ from d1, bd1_s, if_neg (show ¬ nI 1 = (0 : Int32) from one_ne)]
    rcases p_within (lo := 1) (hi := 60) (by omega) (by omega) v2 with ⟨n, n1, n2, rfl, c2, d2⟩ | ⟨c2, d2⟩
    · rw [show fX11_isWithin (nI n) 1 60 = _ from c2, bd1_s, if_neg (show ¬ nI 1 = (0 : Int32) from one_ne), show fX12_in (nI n).toInt64 1 60 = _ from d2, bd1_s, if_neg (show ¬ nI 1 = (0 : Int32) from one_ne)]
      rcases p_within (lo := 0) (hi := 100) (by omega) (by omega) v3 with ⟨p, p1, p2, rfl, c3, d3⟩ | ⟨c3, d3⟩
      · rw [show fX11_isWithin (nI p) 0 100 = _ from c3, bd1_s, if_neg (show ¬ nI 1 = (0 : Int32) from one_ne), show fX12_in (nI p).toInt64 0 100 = _ from d3, bd1_s, if_neg (show ¬ nI 1 = (0 : Int32) from one_ne)]
        rcases p_within (lo := 0) (hi := 1) (by omega) (by omega) v4 with ⟨w, w1, w2, rfl, c4, d4⟩ | ⟨c4, d4⟩
        · rw [show fX11_isWithin (nI w) 0 1 = _ from c4, bd1_s, if_neg (show ¬ nI 1 = (0 : Int32) from one_ne), show fX12_in (nI w).toInt64 0 1 = _ from d4, bd1_s, if_neg (show ¬ nI 1 = (0 : Int32) from one_ne)]
          obtain ⟨a74, a112, ea, ka⟩ := p_keepsKd (x74 := x74) (x75 := x75) (x76 := x76) (x77 := x77) (x78 := x78) (x112 := x112)
          obtain ⟨c, ec⟩ := c_summersN (x0 := x0) (x16 := x16) (x33 := x33) (x35 := x35) (x36 := x36) (x37 := x37) (x38 := x38) m2 n2 p2 w2 hx hV hB hT hR
          obtain ⟨z', er, hf⟩ := r_summers (x101 := x101) (y99 := y99) (y100 := y100) m2 n2 p2 w2 hx h9 hV hB hTR hRR hW hfree hdr ka
          refine ⟨_, ⟨c, by rw [bn_s, h16]; exact ec⟩, z', ?_, hf⟩
          have h9' : x75 (9 : Int32).toNatClampNeg = nI x := h9
          rw [gd_t (by decide), bn_s, ea, bd6_s, h9', er]
        · rw [show fX11_isWithin v4 0 1 = _ from c4, bd1_s, if_pos z00, show fX12_in v4.toInt64 0 1 = _ from d4, bd1_s, if_pos z00]
          exact ⟨_, ⟨_, rfl⟩, ⟨_, rfl, Fr_refl⟩⟩
      · rw [show fX11_isWithin v3 0 100 = _ from c3, bd1_s, if_pos z00, show fX12_in v3.toInt64 0 100 = _ from d3, bd1_s, if_pos z00]
        exact ⟨_, ⟨_, rfl⟩, ⟨_, rfl, Fr_refl⟩⟩
    · rw [show fX11_isWithin v2 1 60 = _ from c2, bd1_s, if_pos z00, show fX12_in v2.toInt64 1 60 = _ from d2, bd1_s, if_pos z00]
      exact ⟨_, ⟨_, rfl⟩, ⟨_, rfl, Fr_refl⟩⟩
  · rw [show fX11_isWithin v1 1 10 = _ from c1, bd1_s, if_pos z00, show fX12_in v1.toInt64 1 10 = _ from d1, bd1_s, if_pos z00]
    exact ⟨_, ⟨_, rfl⟩, ⟨_, rfl, Fr_refl⟩⟩
theorem e_summersR {Lru : Nat} {xr : Nat → Int32} {W : (Nat → Int64) → Int64} {z y : Nat → Int64} (hC : CW Lru xr W) {x : Nat} (hQ : QQ H M K N B q S (some W) x17 x18 x23 x24 x25 x26 x74 x75 x76 x77 x78 x79 x92 x93 x94 x95 x96 x97) (hx : x < 2147483648) (h16 : x16 9 = nI x) (h9 : x75 9 = nI x) (v1 v2 v3 v4 : Int32) : ∃ r, (∃ c, fX11_summersR Lru xr x0 x16 x17 x18 x23 x24 x25 x26 v1 v2 v3 v4 x33 x35 x36 x37 x38 z y = some (r, c)) ∧ ∃ z, fX12_summers x79 x92 x93 x94 x95 x96 x97 v1 v2 v3 v4 x74 x75 x76 x77 x78 x101 x112 y99 y100 = some (r, z) ∧ FT x74 x75 x76 x77 x78 x112 z := by
  obtain ⟨hV, hB, hT, hTR, hR, hRR, hW, hfree, hdr⟩ := hQ
  obtain ⟨hM, hH5, hH, hgr, _⟩ := id hV.1
  have tl := p_told1 hT.2.2.1 (by omega) hH
  have tw := p_town1 hTR.2.2.1 (by omega) hH
  unfold fX11_summersR fX11_summersR_0 fX12_summers fX12_summers_0
  rw [tl, tw, bd1_s, bd1_s, if_neg (show ¬ nI 1 = (0 : Int32) from one_ne), if_neg (show ¬ nI 1 = (0 : Int32) from one_ne)]
  rcases p_within (lo := 1) (hi := 10) (by omega) (by omega) v1 with ⟨m, m1, m2, rfl, c1, d1⟩ | ⟨c1, d1⟩
  · rw [show fX11_isWithin (nI m) 1 10 = _ from c1, bd1_s, if_neg (show ¬ nI 1 = (0 : Int32) from one_ne), show fX12_in (nI m).toInt64 1 10 = _ from d1, bd1_s, if_neg (show ¬ nI 1 = (0 : Int32) from one_ne)]
    rcases p_within (lo := 1) (hi := 60) (by omega) (by omega) v2 with ⟨n, n1, n2, rfl, c2, d2⟩ | ⟨c2, d2⟩
    · rw [show fX11_isWithin (nI n) 1 60 = _ from c2, bd1_s, if_neg (show ¬ nI 1 = (0 : Int32) from one_ne), show fX12_in (nI n).toInt64 1 60 = _ from d2, bd1_s, if_neg (show ¬ nI 1 = (0 : Int32) from one_ne)]
      rcases p_within (lo := 0) (hi := 100) (by omega) (by omega) v3 with ⟨p, p1, p2, rfl, c3, d3⟩ | ⟨c3, d3⟩
      · rw [show fX11_isWithin (nI p) 0 100 = _ from c3, bd1_s, if_neg (show ¬ nI 1 = (0 : Int32) from one_ne), show fX12_in (nI p).toInt64 0 100 = _ from d3, bd1_s, if_neg (show ¬ nI 1 = (0 : Int32) from one_ne)]
        rcases p_within (lo := 0) (hi := 1) (by omega) (by omega) v4 with ⟨w, w1, w2, rfl, c4, d4⟩ | ⟨c4, d4⟩
        · rw [show fX11_isWithin (nI w) 0 1 = _ from c4, bd1_s, if_neg (show ¬ nI 1 = (0 : Int32) from one_ne), show fX12_in (nI w).toInt64 0 1 = _ from d4, bd1_s, if_neg (show ¬ nI 1 = (0 : Int32) from one_ne)]
          obtain ⟨a74, a112, ea, ka⟩ := p_keepsKd (x74 := x74) (x75 := x75) (x76 := x76) (x77 := x77) (x78 := x78) (x112 := x112)
          obtain ⟨c, ec⟩ := c_summersR (x0 := x0) (x16 := x16) (x33 := x33) (x35 := x35) (x36 := x36) (x37 := x37) (x38 := x38) (z := z) (y := y) hC m2 n2 p2 w2 hx hV hB hT hR
          obtain ⟨z', er, hf⟩ := r_summers (x101 := x101) (y99 := y99) (y100 := y100) m2 n2 p2 w2 hx h9 hV hB hTR hRR hW hfree hdr ka
          refine ⟨_, ⟨c, by rw [bn_s, h16]; exact ec⟩, z', ?_, hf⟩
          have h9' : x75 (9 : Int32).toNatClampNeg = nI x := h9
          rw [gd_t (by decide), bn_s, ea, bd6_s, h9', er]
        · rw [show fX11_isWithin v4 0 1 = _ from c4, bd1_s, if_pos z00, show fX12_in v4.toInt64 0 1 = _ from d4, bd1_s, if_pos z00]
          exact ⟨_, ⟨_, rfl⟩, ⟨_, rfl, Fr_refl⟩⟩
      · rw [show fX11_isWithin v3 0 100 = _ from c3, bd1_s, if_pos z00, show fX12_in v3.toInt64 0 100 = _ from d3, bd1_s, if_pos z00]
        exact ⟨_, ⟨_, rfl⟩, ⟨_, rfl, Fr_refl⟩⟩
    · rw [show fX11_isWithin v2 1 60 = _ from c2, bd1_s, if_pos z00, show fX12_in v2.toInt64 1 60 = _ from d2, bd1_s, if_pos z00]
      exact ⟨_, ⟨_, rfl⟩, ⟨_, rfl, Fr_refl⟩⟩
  · rw [show fX11_isWithin v1 1 10 = _ from c1, bd1_s, if_pos z00, show fX12_in v1.toInt64 1 10 = _ from d1, bd1_s, if_pos z00]
    exact ⟨_, ⟨_, rfl⟩, ⟨_, rfl, Fr_refl⟩⟩
end QS

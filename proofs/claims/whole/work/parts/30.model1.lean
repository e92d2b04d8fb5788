-- X12_isDigit
def fX12_isDigit_0   (x74 : Nat → Int32) (x91 : Nat → Int32)   : Option (Int32) := bd1 (fX12_sign x74 x91) fun r_1 => (bd1 (fX12_in r_1.toInt64 48 57) fun r_3 => (gd (bz r_3) (some r_3)))
set_option maxHeartbeats 4000000 in
set_option maxRecDepth 100000 in
theorem wX12_isDigit_0 {l : Launch} {b0 : Nat} {D : GD} {K : KT} {n : Nat} {κ : QT} {X0 : XT} {Y0 : YT} {Z : ZT} (hL : LY n κ) (hN : ([74, 91] : List Nat).Nodup) (hM : ([] : List Nat).Nodup) (hC : gC l b0 D K RX12 cX12_isDigit (some FieldType.boolean) 1 1 25 0 0) {x74 : Nat → Int32} {x91 : Nat → Int32} {r : Int32} (hret : ∀ pc loc, narrow .boolean (.int r) = .int r → decode cX12_isDigit pc = .ok (.ireturn, 1) → gV l b0 D K (n, κ, ov X0 [74, 91] [x74, x91], ov Y0 [] [], Z, 0, 0) pc loc [.int r])  (hf : fX12_isDigit_0 x74 x91   = some r) : gV l b0 D K (n, κ, ov X0 [74, 91] [x74, x91], ov Y0 [] [], Z, 0, 0) 0 [(0, .ref (b0 + 74))] [] := by
  unfold fX12_isDigit_0 at hf
  refine g_aload_n hC 0 dX12_isDigit_0 rfl rfl ?_
  obtain ⟨r_1, q_2, hf⟩ := bd1E hf
  refine g_callV_i (a := 74) hC (X' := ov X0 [74, 91] [x74, x91]) (Y' := ov Y0 [] []) (As := []) (gMi_eq (c_X12_sign l hL (ov_map hN [0, 1] (by rfl) (by rfl)) (ov_map hM [] (by rfl) (by rfl)) q_2) (ov_ovE hN (by rfl) [0, 1] [] (by rfl) (by rfl) [] (by rfl) (by rfl) (by rfl) 2 (by rfl) (by decide)) (ov_ovE hM (by rfl) [] [] (by rfl) (by rfl) [] (by rfl) (by rfl) (by rfl) 0 (by rfl) (by decide))) tw_1384 tw_1381 tw_127 tw_1383 tw_50 (ci := 12) rfl (by decide) (kk_74 hL) (kn_74 hL) pd_X12_sign (by decide) (by decide) rfl rfl (Nat.le_of_ble_eq_true rfl) rfl dX12_isDigit_1 ?_
  refine g_i2l hC dX12_isDigit_4 ?_
  refine g_ldc2_w hC (v := 48) tw_1424 dX12_isDigit_5 ?_
  refine g_ldc2_w hC (v := 57) tw_1425 dX12_isDigit_8 ?_
  obtain ⟨r_3, q_4, hf⟩ := bd1E hf
  refine g_callS_i hC (X' := ov X0 [74, 91] [x74, x91]) (Y' := ov Y0 [] []) (As := [.long r_1.toInt64, .long 48, .long 57]) (gMi_eq (c_X12_in l hL (ov_map hN [] (by rfl) (by rfl)) (ov_map hM [] (by rfl) (by rfl)) q_4) (ov_ovE hN (by rfl) [] [0, 1] (by rfl) (by rfl) [x74, x91] (by rfl) (by rfl) (by rfl) 2 (by rfl) (by decide)) (ov_ovE hM (by rfl) [] [] (by rfl) (by rfl) [] (by rfl) (by rfl) (by rfl) 0 (by rfl) (by decide))) tw_1428 tw_1426 tw_127 tw_1427 pd_X12_in (by decide) (by decide) rfl rfl (Nat.le_of_ble_eq_true rfl) rfl dX12_isDigit_11 ?_
  obtain ⟨h_5, hf⟩ := gdE hf
  obtain rfl := sm1E hf
  exact hret _ _ (bz_nar h_5) dX12_isDigit_14

def fX12_isDigit   (x74 : Nat → Int32) (x91 : Nat → Int32)     : Option (Int32) := fX12_isDigit_0 x74 x91 

set_option maxHeartbeats 4000000 in
set_option maxRecDepth 100000 in
theorem c_X12_isDigit (l : Launch) {b0 : Nat} {D : GD} {n : Nat} {κ : QT} {X0 : XT} {Y0 : YT} {Z : ZT} (hL : LY n κ) {x74 : Nat → Int32} {x91 : Nat → Int32} (hx : ([74, 91] : List Nat).map X0 = [x74, x91]) (hy : ([] : List Nat).map Y0 = []) {r : Int32} (hf : fX12_isDigit x74 x91  = some r) : gMi l yX12_isDigit cX12_isDigit 1 (some FieldType.boolean) 1 25 0 0 b0 D [.ref (b0 + 74)] (n, κ, X0, Y0, Z) (n, κ, ov X0 [74, 91] [x74, x91], ov Y0 [] [], Z) r := by
  have hN : ([74, 91] : List Nat).Nodup := by decide
  have hM : ([] : List Nat).Nodup := by decide
  refine g_meti (own := RX12) (by decide) rfl rfl (Nat.le_of_ble_eq_true rfl) ?_
  intro K hC hret
  have e := wX12_isDigit_0 hL hN hM hC  hret hf
  rw [ov_id' hx, ov_id' hy] at e
  exact g_sub [0] rfl e

-- X12_entry
def fX12_entry_0     (v1 : Int32) (v2 : Int32) (x74 : (Nat → Int32)) (x92 : (Nat → Int32)) (x93 : (Nat → Int32)) : Option ((Nat → Int32) × (Nat → Int32) × (Nat → Int32)) := if (x74 19) = 0 then (gd (inb ((300 * (x74 20)) + (x74 22)) 1800) (gd (inb ((300 * (x74 20)) + (x74 22)) 1800) (some ((upd x74 22 ((x74 22) + 1)), (upd x92 ((300 * (x74 20)) + (x74 22)).toNatClampNeg v1), (upd x93 ((300 * (x74 20)) + (x74 22)).toNatClampNeg v2))))) else (some (x74, x92, x93))
set_option maxHeartbeats 4000000 in
set_option maxRecDepth 100000 in
theorem wX12_entry_0 {l : Launch} {b0 : Nat} {D : GD} {K : KT} {n : Nat} {κ : QT} {X0 : XT} {Y0 : YT} {Z : ZT} (hL : LY n κ) (hN : ([74, 92, 93] : List Nat).Nodup) (hM : ([] : List Nat).Nodup) (hC : gC l b0 D K RX12 cX12_entry none 3 0 0 0 0) {rx74 : (Nat → Int32)} {rx92 : (Nat → Int32)} {rx93 : (Nat → Int32)} (hret : ∀ pc loc, decode cX12_entry pc = .ok (.return_, 1) → gV l b0 D K (n, κ, ov X0 [74, 92, 93] [rx74, rx92, rx93], ov Y0 [] [], Z, 0, 0) pc loc []) {v1 : Int32} {v2 : Int32} {x74 : (Nat → Int32)} {x92 : (Nat → Int32)} {x93 : (Nat → Int32)} (hf : fX12_entry_0   v1 v2 x74 x92 x93 = some (rx74, rx92, rx93)) : gV l b0 D K (n, κ, ov X0 [74, 92, 93] [x74, x92, x93], ov Y0 [] [], Z, 0, 0) 0 [(0, .ref (b0 + 74)), (1, .int v1), (2, .int v2)] [] := by
  unfold fX12_entry_0 at hf
  refine g_aload_n hC 0 dX12_entry_0 rfl rfl ?_
  refine gt_X12_180 hC (x := x74) (kk_74 hL) (kn_74 hL) (ov_get hN 0 rfl rfl) dX12_entry_1 ?_
  refine g_if_ne hC 55 dX12_entry_4 (by decide) (fun hc => ?_) (fun hc => ?_)
  · replace hf := ifF hf hc
    obtain ⟨rfl, rfl, rfl⟩ := sm3E hf
    exact hret _ _ dX12_entry_55
  · replace hf := ifT hf hc
    refine g_aload_n hC 0 dX12_entry_7 rfl rfl ?_
    refine gt_X12_66 hC (a := 74) (kk_74 hL) (kn_74 hL) dX12_entry_8 ?_
    refine g_ref (b := 92) rfl ?_
    refine g_sipush hC (v := 300) dX12_entry_11 sp_300 ?_
    refine g_aload_n hC 0 dX12_entry_14 rfl rfl ?_
    refine gt_X12_210 hC (x := x74) (kk_74 hL) (kn_74 hL) (ov_get hN 0 rfl rfl) dX12_entry_15 ?_
    refine g_imul hC dX12_entry_18 ?_
    refine g_aload_n hC 0 dX12_entry_19 rfl rfl ?_
    refine gt_X12_213 hC (x := x74) (kk_74 hL) (kn_74 hL) (ov_get hN 0 rfl rfl) dX12_entry_20 ?_
    refine g_iadd hC dX12_entry_23 ?_
    refine g_iload_n hC 1 dX12_entry_24 rfl rfl ?_
    obtain ⟨h_1, hf⟩ := gdE hf
    refine g_iast hC (x := x92) (kk_92 hL) (kn_92 hL) (ov_get hN 1 rfl rfl) (inb_in h_1) (ov_set hN (by rfl) 1 (by rfl)) dX12_entry_25 ?_
    show gV l b0 D K (n, κ, ov X0 [74, 92, 93] [x74, (upd x92 ((300 * (x74 20)) + (x74 22)).toNatClampNeg v1), x93], ov Y0 [] [], Z, 0, 0) 26 [(0, .ref (b0 + 74)), (1, .int v1), (2, .int v2)] []
    refine g_aload_n hC 0 dX12_entry_26 rfl rfl ?_
    refine gt_X12_69 hC (a := 74) (kk_74 hL) (kn_74 hL) dX12_entry_27 ?_
    refine g_ref (b := 93) rfl ?_
    refine g_sipush hC (v := 300) dX12_entry_30 sp_300 ?_
    refine g_aload_n hC 0 dX12_entry_33 rfl rfl ?_
    refine gt_X12_210 hC (x := x74) (kk_74 hL) (kn_74 hL) (ov_get hN 0 rfl rfl) dX12_entry_34 ?_
    refine g_imul hC dX12_entry_37 ?_
    refine g_aload_n hC 0 dX12_entry_38 rfl rfl ?_
    refine gt_X12_213 hC (x := x74) (kk_74 hL) (kn_74 hL) (ov_get hN 0 rfl rfl) dX12_entry_39 ?_
    refine g_iadd hC dX12_entry_42 ?_
    refine g_iload_n hC 2 dX12_entry_43 rfl rfl ?_
    obtain ⟨h_2, hf⟩ := gdE hf
    refine g_iast hC (x := x93) (kk_93 hL) (kn_93 hL) (ov_get hN 2 rfl rfl) (inb_in h_2) (ov_set hN (by rfl) 2 (by rfl)) dX12_entry_44 ?_
    show gV l b0 D K (n, κ, ov X0 [74, 92, 93] [x74, (upd x92 ((300 * (x74 20)) + (x74 22)).toNatClampNeg v1), (upd x93 ((300 * (x74 20)) + (x74 22)).toNatClampNeg v2)], ov Y0 [] [], Z, 0, 0) 45 [(0, .ref (b0 + 74)), (1, .int v1), (2, .int v2)] []
    refine g_aload_n hC 0 dX12_entry_45 rfl rfl ?_
    refine g_dup hC dX12_entry_46 rfl ?_
    refine gt_X12_213 hC (x := x74) (kk_74 hL) (kn_74 hL) (ov_get hN 0 rfl rfl) dX12_entry_47 ?_
    refine g_iconst hC (v := 1) dX12_entry_50 ic_1 ?_
    refine g_iadd hC dX12_entry_51 ?_
    refine pt_X12_213 hC (x := x74) (kk_74 hL) (kn_74 hL) (ov_get hN 0 rfl rfl) (ov_set hN (by rfl) 0 (by rfl)) dX12_entry_52 ?_
    show gV l b0 D K (n, κ, ov X0 [74, 92, 93] [(upd x74 22 ((x74 22) + 1)), (upd x92 ((300 * (x74 20)) + (x74 22)).toNatClampNeg v1), (upd x93 ((300 * (x74 20)) + (x74 22)).toNatClampNeg v2)], ov Y0 [] [], Z, 0, 0) 55 [(0, .ref (b0 + 74)), (1, .int v1), (2, .int v2)] []
    obtain ⟨rfl, rfl, rfl⟩ := sm3E hf
    exact hret _ _ dX12_entry_55

def fX12_entry     (v1 : Int32) (v2 : Int32) (x74 : Nat → Int32) (x92 : Nat → Int32) (x93 : Nat → Int32)  : Option ((Nat → Int32) × (Nat → Int32) × (Nat → Int32)) := fX12_entry_0  v1 v2 x74 x92 x93

set_option maxHeartbeats 4000000 in
set_option maxRecDepth 100000 in
theorem c_X12_entry (l : Launch) {b0 : Nat} {D : GD} {n : Nat} {κ : QT} {X0 : XT} {Y0 : YT} {Z : ZT} (hL : LY n κ) {x74 : Nat → Int32} {x92 : Nat → Int32} {x93 : Nat → Int32} (hx : ([74, 92, 93] : List Nat).map X0 = [x74, x92, x93]) (hy : ([] : List Nat).map Y0 = []) {v1 : Int32} {v2 : Int32} {rx74 : (Nat → Int32)} {rx92 : (Nat → Int32)} {rx93 : (Nat → Int32)} (hf : fX12_entry  v1 v2 x74 x92 x93 = some (rx74, rx92, rx93)) : gMv l yX12_entry cX12_entry 3 none 0 0 0 0 b0 D [.ref (b0 + 74), .int v1, .int v2] (n, κ, X0, Y0, Z) (n, κ, ov X0 [74, 92, 93] [rx74, rx92, rx93], ov Y0 [] [], Z) := by
  have hN : ([74, 92, 93] : List Nat).Nodup := by decide
  have hM : ([] : List Nat).Nodup := by decide
  refine g_metv (own := RX12) (by decide) rfl rfl (Nat.le_of_ble_eq_true rfl) ?_
  intro K hC hret
  have e := wX12_entry_0 hL hN hM hC  hret hf
  rw [ov_id' hx, ov_id' hy] at e
  exact g_sub [0, 1, 2] rfl e

-- X12_isCounted
def fX12_isCounted_15     (x74 : (Nat → Int32)) : Option ((Nat → Int32)) := some (upd x74 24 ((x74 24) + 1))
set_option maxHeartbeats 4000000 in
set_option maxRecDepth 100000 in
theorem wX12_isCounted_15 {l : Launch} {b0 : Nat} {D : GD} {K : KT} {n : Nat} {κ : QT} {X0 : XT} {Y0 : YT} {Z : ZT} (hL : LY n κ) (hN : ([74] : List Nat).Nodup) (hM : ([] : List Nat).Nodup) (hC : gC l b0 D K RX12 cX12_isCounted none 2 1 22 0 0) {rx74 : (Nat → Int32)} (hret : ∀ pc loc, decode cX12_isCounted pc = .ok (.return_, 1) → gV l b0 D K (n, κ, ov X0 [74] [rx74], ov Y0 [] [], Z, 0, 0) pc loc []) {x74 : (Nat → Int32)} (hf : fX12_isCounted_15   x74 = some rx74) : gV l b0 D K (n, κ, ov X0 [74] [x74], ov Y0 [] [], Z, 0, 0) 15 [(0, .ref (b0 + 74))] [] := by
  unfold fX12_isCounted_15 at hf
  refine g_aload_n hC 0 dX12_isCounted_15 rfl rfl ?_
  refine g_dup hC dX12_isCounted_16 rfl ?_
  refine gt_X12_216 hC (x := x74) (kk_74 hL) (kn_74 hL) (ov_get hN 0 rfl rfl) dX12_isCounted_17 ?_
  refine g_iconst hC (v := 1) dX12_isCounted_20 ic_1 ?_
  refine g_iadd hC dX12_isCounted_21 ?_
  refine pt_X12_216 hC (x := x74) (kk_74 hL) (kn_74 hL) (ov_get hN 0 rfl rfl) (ov_set hN (by rfl) 0 (by rfl)) dX12_isCounted_22 ?_
  show gV l b0 D K (n, κ, ov X0 [74] [(upd x74 24 ((x74 24) + 1))], ov Y0 [] [], Z, 0, 0) 25 [(0, .ref (b0 + 74))] []
  obtain rfl := sm1E hf
  exact hret _ _ dX12_isCounted_25

def fX12_isCounted_0     (v1 : Int32) (x74 : (Nat → Int32)) : Option ((Nat → Int32)) := if (x74 24) = 60 then (bd1 (fX12_fails 3 v1 x74) fun x74_1 => (fX12_isCounted_15   x74_1)) else (fX12_isCounted_15   x74)
set_option maxHeartbeats 4000000 in
set_option maxRecDepth 100000 in
theorem wX12_isCounted_0 {l : Launch} {b0 : Nat} {D : GD} {K : KT} {n : Nat} {κ : QT} {X0 : XT} {Y0 : YT} {Z : ZT} (hL : LY n κ) (hN : ([74] : List Nat).Nodup) (hM : ([] : List Nat).Nodup) (hC : gC l b0 D K RX12 cX12_isCounted none 2 1 22 0 0) {rx74 : (Nat → Int32)} (hret : ∀ pc loc, decode cX12_isCounted pc = .ok (.return_, 1) → gV l b0 D K (n, κ, ov X0 [74] [rx74], ov Y0 [] [], Z, 0, 0) pc loc []) {v1 : Int32} {x74 : (Nat → Int32)} (hf : fX12_isCounted_0   v1 x74 = some rx74) : gV l b0 D K (n, κ, ov X0 [74] [x74], ov Y0 [] [], Z, 0, 0) 0 [(0, .ref (b0 + 74)), (1, .int v1)] [] := by
  unfold fX12_isCounted_0 at hf
  refine g_aload_n hC 0 dX12_isCounted_0 rfl rfl ?_
  refine gt_X12_216 hC (x := x74) (kk_74 hL) (kn_74 hL) (ov_get hN 0 rfl rfl) dX12_isCounted_1 ?_
  refine g_bipush hC (v := 60) dX12_isCounted_4 bp_60 ?_
  refine g_icmp_ne hC 15 dX12_isCounted_6 (by decide) (fun hc => ?_) (fun hc => ?_)
  · replace hf := ifF hf hc
    exact g_sub [0] rfl (wX12_isCounted_15 hL hN hM hC  hret  hf)
  · replace hf := ifT hf hc
    refine g_aload_n hC 0 dX12_isCounted_9 rfl rfl ?_
    refine g_iconst hC (v := 3) dX12_isCounted_10 ic_3 ?_
    refine g_iload_n hC 1 dX12_isCounted_11 rfl rfl ?_
    obtain ⟨x74_1, q_2, hf⟩ := bd1E hf
    refine g_callV_v (a := 74) hC (X' := ov X0 [74] [x74_1]) (Y' := ov Y0 [] []) (As := [.int 3, .int v1]) (gMv_eq (c_X12_fails l hL (ov_map hN [0] (by rfl) (by rfl)) (ov_map hM [] (by rfl) (by rfl)) q_2) (ov_ovE hN (by rfl) [0] [] (by rfl) (by rfl) [] (by rfl) (by rfl) (by rfl) 1 (by rfl) (by decide)) (ov_ovE hM (by rfl) [] [] (by rfl) (by rfl) [] (by rfl) (by rfl) (by rfl) 0 (by rfl) (by decide))) tw_1402 tw_1399 tw_127 tw_1401 tw_52 (ci := 12) rfl (by decide) (kk_74 hL) (kn_74 hL) pd_X12_fails (by decide) (by decide) rfl rfl (Nat.le_of_ble_eq_true rfl) rfl dX12_isCounted_12 ?_
    exact g_sub [0] rfl (wX12_isCounted_15 hL hN hM hC  hret  hf)

def fX12_isCounted     (v1 : Int32) (x74 : Nat → Int32)  : Option ((Nat → Int32)) := fX12_isCounted_0  v1 x74

set_option maxHeartbeats 4000000 in
set_option maxRecDepth 100000 in
theorem c_X12_isCounted (l : Launch) {b0 : Nat} {D : GD} {n : Nat} {κ : QT} {X0 : XT} {Y0 : YT} {Z : ZT} (hL : LY n κ) {x74 : Nat → Int32} (hx : ([74] : List Nat).map X0 = [x74]) (hy : ([] : List Nat).map Y0 = []) {v1 : Int32} {rx74 : (Nat → Int32)} (hf : fX12_isCounted  v1 x74 = some rx74) : gMv l yX12_isCounted cX12_isCounted 2 none 1 22 0 0 b0 D [.ref (b0 + 74), .int v1] (n, κ, X0, Y0, Z) (n, κ, ov X0 [74] [rx74], ov Y0 [] [], Z) := by
  have hN : ([74] : List Nat).Nodup := by decide
  have hM : ([] : List Nat).Nodup := by decide
  refine g_metv (own := RX12) (by decide) rfl rfl (Nat.le_of_ble_eq_true rfl) ?_
  intro K hC hret
  have e := wX12_isCounted_0 hL hN hM hC  hret hf
  rw [ov_id' hx, ov_id' hy] at e
  exact g_sub [0, 1] rfl e

-- X12_digits
def fX12_digits_87   (x91 : Nat → Int32)  (v2 : Int32) (v3 : Int32) (x74 : (Nat → Int32)) : Option (Int32 × (Nat → Int32)) := bd1 (fX12_fails 1 v2 x74) fun x74_1 => (some (v3, x74_1))
set_option maxHeartbeats 4000000 in
set_option maxRecDepth 100000 in
theorem wX12_digits_87 {l : Launch} {b0 : Nat} {D : GD} {K : KT} {n : Nat} {κ : QT} {X0 : XT} {Y0 : YT} {Z : ZT} (hL : LY n κ) (hN : ([74, 91] : List Nat).Nodup) (hM : ([] : List Nat).Nodup) (hC : gC l b0 D K RX12 cX12_digits (some FieldType.int) 4 2 45 0 0) {x91 : Nat → Int32} {r : Int32} {rx74 : (Nat → Int32)} (hret : ∀ pc loc, narrow .int (.int r) = .int r → decode cX12_digits pc = .ok (.ireturn, 1) → gV l b0 D K (n, κ, ov X0 [74, 91] [rx74, x91], ov Y0 [] [], Z, 0, 0) pc loc [.int r]) {v2 : Int32} {v3 : Int32} {x74 : (Nat → Int32)} (hf : fX12_digits_87 x91  v2 v3 x74 = some (r, rx74)) : gV l b0 D K (n, κ, ov X0 [74, 91] [x74, x91], ov Y0 [] [], Z, 0, 0) 87 [(0, .ref (b0 + 74)), (2, .int v2), (3, .int v3)] [] := by
  unfold fX12_digits_87 at hf
  refine g_aload_n hC 0 dX12_digits_87 rfl rfl ?_
  refine g_iconst hC (v := 1) dX12_digits_88 ic_1 ?_
  refine g_iload_n hC 1 dX12_digits_89 rfl rfl ?_
  obtain ⟨x74_1, q_2, hf⟩ := bd1E hf
  refine g_callV_v (a := 74) hC (X' := ov X0 [74, 91] [x74_1, x91]) (Y' := ov Y0 [] []) (As := [.int 1, .int v2]) (gMv_eq (c_X12_fails l hL (ov_map hN [0] (by rfl) (by rfl)) (ov_map hM [] (by rfl) (by rfl)) q_2) (ov_ovE hN (by rfl) [0] [1] (by rfl) (by rfl) [x91] (by rfl) (by rfl) (by rfl) 2 (by rfl) (by decide)) (ov_ovE hM (by rfl) [] [] (by rfl) (by rfl) [] (by rfl) (by rfl) (by rfl) 0 (by rfl) (by decide))) tw_1402 tw_1399 tw_127 tw_1401 tw_52 (ci := 12) rfl (by decide) (kk_74 hL) (kn_74 hL) pd_X12_fails (by decide) (by decide) rfl rfl (Nat.le_of_ble_eq_true rfl) rfl dX12_digits_90 ?_
  refine g_iload_n hC 2 dX12_digits_93 rfl rfl ?_
  obtain ⟨rfl, rfl⟩ := sm2E hf
  exact hret _ _ rfl dX12_digits_94

def fX12_digits_58   (x91 : Nat → Int32)  (k25 : Int32 → Int32 → Int32 → (Nat → Int32) → Option (Int32 × (Nat → Int32))) (v1 : Int32) (v2 : Int32) (s0 : Int32) (x74 : (Nat → Int32)) : Option (Int32 × (Nat → Int32)) := k25 v1 v2 s0 (upd x74 18 ((x74 18) + 1))
set_option maxHeartbeats 4000000 in
set_option maxRecDepth 100000 in
theorem wX12_digits_58 {l : Launch} {b0 : Nat} {D : GD} {K : KT} {n : Nat} {κ : QT} {X0 : XT} {Y0 : YT} {Z : ZT} (hL : LY n κ) (hN : ([74, 91] : List Nat).Nodup) (hM : ([] : List Nat).Nodup) (hC : gC l b0 D K RX12 cX12_digits (some FieldType.int) 4 2 45 0 0) {x91 : Nat → Int32} {r : Int32} {rx74 : (Nat → Int32)} (hret : ∀ pc loc, narrow .int (.int r) = .int r → decode cX12_digits pc = .ok (.ireturn, 1) → gV l b0 D K (n, κ, ov X0 [74, 91] [rx74, x91], ov Y0 [] [], Z, 0, 0) pc loc [.int r]) {k25 : Int32 → Int32 → Int32 → (Nat → Int32) → Option (Int32 × (Nat → Int32))} (hk25 : ∀ (v1 : Int32) (v2 : Int32) (v3 : Int32) (x74 : (Nat → Int32)), k25 v1 v2 v3 x74 = some (r, rx74) → gV l b0 D K (n, κ, ov X0 [74, 91] [x74, x91], ov Y0 [] [], Z, 0, 0) 25 [(0, .ref (b0 + 74)), (1, .int v1), (2, .int v2), (3, .int v3)] []) {v1 : Int32} {v2 : Int32} {s0 : Int32} {x74 : (Nat → Int32)} (hf : fX12_digits_58 x91 k25 v1 v2 s0 x74 = some (r, rx74)) : gV l b0 D K (n, κ, ov X0 [74, 91] [x74, x91], ov Y0 [] [], Z, 0, 0) 58 [(0, .ref (b0 + 74)), (1, .int v1), (2, .int v2)] [.int s0] := by
  unfold fX12_digits_58 at hf
  refine g_istore_n hC (i := 3) [(3, .int s0), (0, .ref (b0 + 74)), (1, .int v1), (2, .int v2)] rfl dX12_digits_58 (by decide) rfl ?_
  refine g_aload_n hC 1 dX12_digits_59 rfl rfl ?_
  refine g_dup hC dX12_digits_60 rfl ?_
  refine gt_X12_183 hC (x := x74) (kk_74 hL) (kn_74 hL) (ov_get hN 0 rfl rfl) dX12_digits_61 ?_
  refine g_iconst hC (v := 1) dX12_digits_64 ic_1 ?_
  refine g_iadd hC dX12_digits_65 ?_
  refine pt_X12_183 hC (x := x74) (kk_74 hL) (kn_74 hL) (ov_get hN 0 rfl rfl) (ov_set hN (by rfl) 0 (by rfl)) dX12_digits_66 ?_
  show gV l b0 D K (n, κ, ov X0 [74, 91] [(upd x74 18 ((x74 18) + 1)), x91], ov Y0 [] [], Z, 0, 0) 69 [(3, .int s0), (0, .ref (b0 + 74)), (1, .int v1), (2, .int v2)] []
  refine g_goto hC 25 dX12_digits_69 (by decide) ?_
  exact g_sub [1, 2, 3, 0] rfl (hk25 v1 v2 s0 (upd x74 18 ((x74 18) + 1)) hf)

def fX12_digits_25b   (x91 : Nat → Int32)  (k25 : Int32 → Int32 → Int32 → (Nat → Int32) → Option (Int32 × (Nat → Int32))) (v1 : Int32) (v2 : Int32) (v3 : Int32) (x74 : (Nat → Int32)) : Option (Int32 × (Nat → Int32)) := bd1 (fX12_isDigit x74 x91) fun r_1 => (if r_1 = 0 then (if 5 < ((x74 18) - v2) then (fX12_digits_87 x91  v2 v3 x74) else (if v3 ≤ v1 then (some (v3, x74)) else (fX12_digits_87 x91  v2 v3 x74))) else (if 5 ≤ ((x74 18) - v2) then (fX12_digits_58 x91 k25 v1 v2 v3 x74) else (bd1 (fX12_sign x74 x91) fun r_3 => (fX12_digits_58 x91 k25 v1 v2 (((10 * v3) + r_3) - 48) x74))))
def fX12_digits_25   (x91 : Nat → Int32)  : Int32 → Int32 → Int32 → (Nat → Int32) → Option (Int32 × (Nat → Int32)) := lq4 (fX12_digits_25b x91 ) 5000
set_option maxHeartbeats 4000000 in
set_option maxRecDepth 100000 in
theorem wX12_digits_25 {l : Launch} {b0 : Nat} {D : GD} {K : KT} {n : Nat} {κ : QT} {X0 : XT} {Y0 : YT} {Z : ZT} (hL : LY n κ) (hN : ([74, 91] : List Nat).Nodup) (hM : ([] : List Nat).Nodup) (hC : gC l b0 D K RX12 cX12_digits (some FieldType.int) 4 2 45 0 0) {x91 : Nat → Int32} {r : Int32} {rx74 : (Nat → Int32)} (hret : ∀ pc loc, narrow .int (.int r) = .int r → decode cX12_digits pc = .ok (.ireturn, 1) → gV l b0 D K (n, κ, ov X0 [74, 91] [rx74, x91], ov Y0 [] [], Z, 0, 0) pc loc [.int r]) : ∀ (j : Nat) (v1 : Int32) (v2 : Int32) (v3 : Int32) (x74 : (Nat → Int32)), lq4 (fX12_digits_25b x91 ) j v1 v2 v3 x74 = some (r, rx74) → gV l b0 D K (n, κ, ov X0 [74, 91] [x74, x91], ov Y0 [] [], Z, 0, 0) 25 [(0, .ref (b0 + 74)), (1, .int v1), (2, .int v2), (3, .int v3)] [] := by
  intro j
  induction j with
  | zero => intro v1 v2 v3 x74 hf; cases hf
  | succ j hk25 =>
    intro v1 v2 v3 x74 hf
    replace hf : fX12_digits_25b x91  (lq4 (fX12_digits_25b x91 ) j) v1 v2 v3 x74 = some (r, rx74) := hf
    unfold fX12_digits_25b at hf
    refine g_aload_n hC 0 dX12_digits_25 rfl rfl ?_
    obtain ⟨r_1, q_2, hf⟩ := bd1E hf
    refine g_callV_i (a := 74) hC (X' := ov X0 [74, 91] [x74, x91]) (Y' := ov Y0 [] []) (As := []) (gMi_eq (c_X12_isDigit l hL (ov_map hN [0, 1] (by rfl) (by rfl)) (ov_map hM [] (by rfl) (by rfl)) q_2) (ov_ovE hN (by rfl) [0, 1] [] (by rfl) (by rfl) [] (by rfl) (by rfl) (by rfl) 2 (by rfl) (by decide)) (ov_ovE hM (by rfl) [] [] (by rfl) (by rfl) [] (by rfl) (by rfl) (by rfl) 0 (by rfl) (by decide))) tw_1423 tw_1420 tw_127 tw_1422 tw_57 (ci := 12) rfl (by decide) (kk_74 hL) (kn_74 hL) pd_X12_isDigit (by decide) (by decide) rfl rfl (Nat.le_of_ble_eq_true rfl) rfl dX12_digits_26 ?_
    refine g_if_eq hC 72 dX12_digits_29 (by decide) (fun hc => ?_) (fun hc => ?_)
    · replace hf := ifT hf hc
      refine g_aload_n hC 0 dX12_digits_72 rfl rfl ?_
      refine gt_X12_183 hC (x := x74) (kk_74 hL) (kn_74 hL) (ov_get hN 0 rfl rfl) dX12_digits_73 ?_
      refine g_iload_n hC 2 dX12_digits_76 rfl rfl ?_
      refine g_isub hC dX12_digits_77 ?_
      refine g_iconst hC (v := 5) dX12_digits_78 ic_5 ?_
      refine g_icmp_gt hC 87 dX12_digits_79 (by decide) (fun hc => ?_) (fun hc => ?_)
      · replace hf := ifT hf hc
        exact g_sub [0, 2, 3] rfl (wX12_digits_87 hL hN hM hC  hret  hf)
      · replace hf := ifF hf hc
        refine g_iload_n hC 3 dX12_digits_82 rfl rfl ?_
        refine g_iload_n hC 1 dX12_digits_83 rfl rfl ?_
        refine g_icmp_le hC 93 dX12_digits_84 (by decide) (fun hc => ?_) (fun hc => ?_)
        · replace hf := ifT hf hc
          refine g_iload_n hC 3 dX12_digits_93 rfl rfl ?_
          obtain ⟨rfl, rfl⟩ := sm2E hf
          exact hret _ _ rfl dX12_digits_94
        · replace hf := ifF hf hc
          exact g_sub [0, 2, 3] rfl (wX12_digits_87 hL hN hM hC  hret  hf)
    · replace hf := ifF hf hc
      refine g_aload_n hC 0 dX12_digits_32 rfl rfl ?_
      refine gt_X12_183 hC (x := x74) (kk_74 hL) (kn_74 hL) (ov_get hN 0 rfl rfl) dX12_digits_33 ?_
      refine g_iload_n hC 2 dX12_digits_36 rfl rfl ?_
      refine g_isub hC dX12_digits_37 ?_
      refine g_iconst hC (v := 5) dX12_digits_38 ic_5 ?_
      refine g_icmp_ge hC 57 dX12_digits_39 (by decide) (fun hc => ?_) (fun hc => ?_)
      · replace hf := ifT hf hc
        refine g_iload_n hC 3 dX12_digits_57 rfl rfl ?_
        exact g_sub [0, 1, 2] rfl (wX12_digits_58 hL hN hM hC  hret hk25 hf)
      · replace hf := ifF hf hc
        refine g_bipush hC (v := 10) dX12_digits_42 bp_10 ?_
        refine g_iload_n hC 3 dX12_digits_44 rfl rfl ?_
        refine g_imul hC dX12_digits_45 ?_
        refine g_aload_n hC 0 dX12_digits_46 rfl rfl ?_
        obtain ⟨r_3, q_4, hf⟩ := bd1E hf
        refine g_callV_i (a := 74) hC (X' := ov X0 [74, 91] [x74, x91]) (Y' := ov Y0 [] []) (As := []) (gMi_eq (c_X12_sign l hL (ov_map hN [0, 1] (by rfl) (by rfl)) (ov_map hM [] (by rfl) (by rfl)) q_4) (ov_ovE hN (by rfl) [0, 1] [] (by rfl) (by rfl) [] (by rfl) (by rfl) (by rfl) 2 (by rfl) (by decide)) (ov_ovE hM (by rfl) [] [] (by rfl) (by rfl) [] (by rfl) (by rfl) (by rfl) 0 (by rfl) (by decide))) tw_1384 tw_1381 tw_127 tw_1383 tw_50 (ci := 12) rfl (by decide) (kk_74 hL) (kn_74 hL) pd_X12_sign (by decide) (by decide) rfl rfl (Nat.le_of_ble_eq_true rfl) rfl dX12_digits_47 ?_
        refine g_iadd hC dX12_digits_50 ?_
        refine g_bipush hC (v := 48) dX12_digits_51 bp_48 ?_
        refine g_isub hC dX12_digits_53 ?_
        refine g_goto hC 58 dX12_digits_54 (by decide) ?_
        exact g_sub [0, 1, 2] rfl (wX12_digits_58 hL hN hM hC  hret hk25 hf)

def fX12_digits_0   (x91 : Nat → Int32)  (v1 : Int32) (x74 : (Nat → Int32)) : Option (Int32 × (Nat → Int32)) := bd1 (fX12_isDigit x74 x91) fun r_1 => (if r_1 = 0 then (bd1 (fX12_fails 0 (x74 18) x74) fun x74_4 => (some (0, x74_4))) else (bn (x74 18) fun t_3 => (fX12_digits_25 x91  v1 t_3 0 x74)))
set_option maxHeartbeats 4000000 in
set_option maxRecDepth 100000 in
theorem wX12_digits_0 {l : Launch} {b0 : Nat} {D : GD} {K : KT} {n : Nat} {κ : QT} {X0 : XT} {Y0 : YT} {Z : ZT} (hL : LY n κ) (hN : ([74, 91] : List Nat).Nodup) (hM : ([] : List Nat).Nodup) (hC : gC l b0 D K RX12 cX12_digits (some FieldType.int) 4 2 45 0 0) {x91 : Nat → Int32} {r : Int32} {rx74 : (Nat → Int32)} (hret : ∀ pc loc, narrow .int (.int r) = .int r → decode cX12_digits pc = .ok (.ireturn, 1) → gV l b0 D K (n, κ, ov X0 [74, 91] [rx74, x91], ov Y0 [] [], Z, 0, 0) pc loc [.int r]) {v1 : Int32} {x74 : (Nat → Int32)} (hf : fX12_digits_0 x91  v1 x74 = some (r, rx74)) : gV l b0 D K (n, κ, ov X0 [74, 91] [x74, x91], ov Y0 [] [], Z, 0, 0) 0 [(0, .ref (b0 + 74)), (1, .int v1)] [] := by
  unfold fX12_digits_0 at hf
  refine g_aload_n hC 0 dX12_digits_0 rfl rfl ?_
  obtain ⟨r_1, q_2, hf⟩ := bd1E hf
  refine g_callV_i (a := 74) hC (X' := ov X0 [74, 91] [x74, x91]) (Y' := ov Y0 [] []) (As := []) (gMi_eq (c_X12_isDigit l hL (ov_map hN [0, 1] (by rfl) (by rfl)) (ov_map hM [] (by rfl) (by rfl)) q_2) (ov_ovE hN (by rfl) [0, 1] [] (by rfl) (by rfl) [] (by rfl) (by rfl) (by rfl) 2 (by rfl) (by decide)) (ov_ovE hM (by rfl) [] [] (by rfl) (by rfl) [] (by rfl) (by rfl) (by rfl) 0 (by rfl) (by decide))) tw_1423 tw_1420 tw_127 tw_1422 tw_57 (ci := 12) rfl (by decide) (kk_74 hL) (kn_74 hL) pd_X12_isDigit (by decide) (by decide) rfl rfl (Nat.le_of_ble_eq_true rfl) rfl dX12_digits_1 ?_
  refine g_if_ne hC 18 dX12_digits_4 (by decide) (fun hc => ?_) (fun hc => ?_)
  · replace hf := ifF hf hc
    refine g_aload_n hC 0 dX12_digits_18 rfl rfl ?_
    refine gt_X12_183 hC (x := x74) (kk_74 hL) (kn_74 hL) (ov_get hN 0 rfl rfl) dX12_digits_19 ?_
    obtain ⟨t_3, et_3, hf⟩ := bnE hf
    refine g_topi et_3 ?_
    refine g_istore_n hC (i := 2) [(2, .int t_3), (0, .ref (b0 + 74)), (1, .int v1)] rfl dX12_digits_22 (by decide) rfl ?_
    refine g_iconst hC (v := 0) dX12_digits_23 ic_0 ?_
    refine g_istore_n hC (i := 3) [(3, .int 0), (2, .int t_3), (0, .ref (b0 + 74)), (1, .int v1)] rfl dX12_digits_24 (by decide) rfl ?_
    exact g_sub [2, 3, 1, 0] rfl (wX12_digits_25 hL hN hM hC  hret  5000 v1 t_3 0 x74 hf)
  · replace hf := ifT hf hc
    refine g_aload_n hC 0 dX12_digits_7 rfl rfl ?_
    refine g_iconst hC (v := 0) dX12_digits_8 ic_0 ?_
    refine g_aload_n hC 0 dX12_digits_9 rfl rfl ?_
    refine gt_X12_183 hC (x := x74) (kk_74 hL) (kn_74 hL) (ov_get hN 0 rfl rfl) dX12_digits_10 ?_
    obtain ⟨x74_4, q_5, hf⟩ := bd1E hf
    refine g_callV_v (a := 74) hC (X' := ov X0 [74, 91] [x74_4, x91]) (Y' := ov Y0 [] []) (As := [.int 0, .int (x74 18)]) (gMv_eq (c_X12_fails l hL (ov_map hN [0] (by rfl) (by rfl)) (ov_map hM [] (by rfl) (by rfl)) q_5) (ov_ovE hN (by rfl) [0] [1] (by rfl) (by rfl) [x91] (by rfl) (by rfl) (by rfl) 2 (by rfl) (by decide)) (ov_ovE hM (by rfl) [] [] (by rfl) (by rfl) [] (by rfl) (by rfl) (by rfl) 0 (by rfl) (by decide))) tw_1402 tw_1399 tw_127 tw_1401 tw_52 (ci := 12) rfl (by decide) (kk_74 hL) (kn_74 hL) pd_X12_fails (by decide) (by decide) rfl rfl (Nat.le_of_ble_eq_true rfl) rfl dX12_digits_13 ?_
    refine g_iconst hC (v := 0) dX12_digits_16 ic_0 ?_
    obtain ⟨rfl, rfl⟩ := sm2E hf
    exact hret _ _ rfl dX12_digits_17

def fX12_digits   (x91 : Nat → Int32)  (v1 : Int32) (x74 : Nat → Int32)  : Option (Int32 × (Nat → Int32)) := fX12_digits_0 x91 v1 x74

set_option maxHeartbeats 4000000 in
set_option maxRecDepth 100000 in
theorem c_X12_digits (l : Launch) {b0 : Nat} {D : GD} {n : Nat} {κ : QT} {X0 : XT} {Y0 : YT} {Z : ZT} (hL : LY n κ) {x74 : Nat → Int32} {x91 : Nat → Int32} (hx : ([74, 91] : List Nat).map X0 = [x74, x91]) (hy : ([] : List Nat).map Y0 = []) {v1 : Int32} {r : Int32} {rx74 : (Nat → Int32)} (hf : fX12_digits x91 v1 x74 = some (r, rx74)) : gMi l yX12_digits cX12_digits 4 (some FieldType.int) 2 45 0 0 b0 D [.ref (b0 + 74), .int v1] (n, κ, X0, Y0, Z) (n, κ, ov X0 [74, 91] [rx74, x91], ov Y0 [] [], Z) r := by
  have hN : ([74, 91] : List Nat).Nodup := by decide
  have hM : ([] : List Nat).Nodup := by decide
  refine g_meti (own := RX12) (by decide) rfl rfl (Nat.le_of_ble_eq_true rfl) ?_
  intro K hC hret
  have e := wX12_digits_0 hL hN hM hC  hret hf
  rw [ov_id' hx, ov_id' hy] at e
  exact g_sub [0, 1] rfl e

-- X12_top
def fX12_top_0   (x74 : Nat → Int32) (x98 : Nat → Int32)   : Option (Int32) := if (x74 25) = 0 then (some (-1)) else (gd (inb ((x74 25) - 1) 402) (some (x98 ((x74 25) - 1).toNatClampNeg)))
set_option maxHeartbeats 4000000 in
set_option maxRecDepth 100000 in
theorem wX12_top_0 {l : Launch} {b0 : Nat} {D : GD} {K : KT} {n : Nat} {κ : QT} {X0 : XT} {Y0 : YT} {Z : ZT} (hL : LY n κ) (hN : ([74, 98] : List Nat).Nodup) (hM : ([] : List Nat).Nodup) (hC : gC l b0 D K RX12 cX12_top (some FieldType.int) 1 0 0 0 0) {x74 : Nat → Int32} {x98 : Nat → Int32} {r : Int32} (hret : ∀ pc loc, narrow .int (.int r) = .int r → decode cX12_top pc = .ok (.ireturn, 1) → gV l b0 D K (n, κ, ov X0 [74, 98] [x74, x98], ov Y0 [] [], Z, 0, 0) pc loc [.int r])  (hf : fX12_top_0 x74 x98   = some r) : gV l b0 D K (n, κ, ov X0 [74, 98] [x74, x98], ov Y0 [] [], Z, 0, 0) 0 [(0, .ref (b0 + 74))] [] := by
  unfold fX12_top_0 at hf
  refine g_aload_n hC 0 dX12_top_0 rfl rfl ?_
  refine gt_X12_251 hC (x := x74) (kk_74 hL) (kn_74 hL) (ov_get hN 0 rfl rfl) dX12_top_1 ?_
  refine g_if_ne hC 11 dX12_top_4 (by decide) (fun hc => ?_) (fun hc => ?_)
  · replace hf := ifF hf hc
    refine g_aload_n hC 0 dX12_top_11 rfl rfl ?_
    refine gt_X12_84 hC (a := 74) (kk_74 hL) (kn_74 hL) dX12_top_12 ?_
    refine g_ref (b := 98) rfl ?_
    refine g_aload_n hC 0 dX12_top_15 rfl rfl ?_
    refine gt_X12_251 hC (x := x74) (kk_74 hL) (kn_74 hL) (ov_get hN 0 rfl rfl) dX12_top_16 ?_
    refine g_iconst hC (v := 1) dX12_top_19 ic_1 ?_
    refine g_isub hC dX12_top_20 ?_
    obtain ⟨h_1, hf⟩ := gdE hf
    refine g_iald hC (x := x98) (kk_98 hL) (kn_98 hL) (ov_get hN 1 rfl rfl) (inb_in h_1) dX12_top_21 ?_
    obtain rfl := sm1E hf
    exact hret _ _ rfl dX12_top_22
  · replace hf := ifT hf hc
    refine g_iconst hC (v := (-1)) dX12_top_7 ic_m1 ?_
    refine g_goto hC 22 dX12_top_8 (by decide) ?_
    obtain rfl := sm1E hf
    exact hret _ _ rfl dX12_top_22

def fX12_top   (x74 : Nat → Int32) (x98 : Nat → Int32)     : Option (Int32) := fX12_top_0 x74 x98 

set_option maxHeartbeats 4000000 in
set_option maxRecDepth 100000 in
theorem c_X12_top (l : Launch) {b0 : Nat} {D : GD} {n : Nat} {κ : QT} {X0 : XT} {Y0 : YT} {Z : ZT} (hL : LY n κ) {x74 : Nat → Int32} {x98 : Nat → Int32} (hx : ([74, 98] : List Nat).map X0 = [x74, x98]) (hy : ([] : List Nat).map Y0 = []) {r : Int32} (hf : fX12_top x74 x98  = some r) : gMi l yX12_top cX12_top 1 (some FieldType.int) 0 0 0 0 b0 D [.ref (b0 + 74)] (n, κ, X0, Y0, Z) (n, κ, ov X0 [74, 98] [x74, x98], ov Y0 [] [], Z) r := by
  have hN : ([74, 98] : List Nat).Nodup := by decide
  have hM : ([] : List Nat).Nodup := by decide
  refine g_meti (own := RX12) (by decide) rfl rfl (Nat.le_of_ble_eq_true rfl) ?_
  intro K hC hret
  have e := wX12_top_0 hL hN hM hC  hret hf
  rw [ov_id' hx, ov_id' hy] at e
  exact g_sub [0] rfl e

-- X12_opens
def fX12_opens_40     (v1 : Int32) (x74 : (Nat → Int32)) (x98 : (Nat → Int32)) : Option ((Nat → Int32) × (Nat → Int32)) := gd (inb (x74 25) 402) (some ((upd x74 25 ((x74 25) + 1)), (upd x98 (x74 25).toNatClampNeg v1)))
set_option maxHeartbeats 4000000 in
set_option maxRecDepth 100000 in
theorem wX12_opens_40 {l : Launch} {b0 : Nat} {D : GD} {K : KT} {n : Nat} {κ : QT} {X0 : XT} {Y0 : YT} {Z : ZT} (hL : LY n κ) (hN : ([74, 98] : List Nat).Nodup) (hM : ([] : List Nat).Nodup) (hC : gC l b0 D K RX12 cX12_opens none 2 1 22 0 0) {rx74 : (Nat → Int32)} {rx98 : (Nat → Int32)} (hret : ∀ pc loc, decode cX12_opens pc = .ok (.return_, 1) → gV l b0 D K (n, κ, ov X0 [74, 98] [rx74, rx98], ov Y0 [] [], Z, 0, 0) pc loc []) {v1 : Int32} {x74 : (Nat → Int32)} {x98 : (Nat → Int32)} (hf : fX12_opens_40   v1 x74 x98 = some (rx74, rx98)) : gV l b0 D K (n, κ, ov X0 [74, 98] [x74, x98], ov Y0 [] [], Z, 0, 0) 40 [(0, .ref (b0 + 74)), (1, .int v1)] [] := by
  unfold fX12_opens_40 at hf
  refine g_aload_n hC 0 dX12_opens_40 rfl rfl ?_
  refine gt_X12_84 hC (a := 74) (kk_74 hL) (kn_74 hL) dX12_opens_41 ?_
  refine g_ref (b := 98) rfl ?_
  refine g_aload_n hC 0 dX12_opens_44 rfl rfl ?_
  refine gt_X12_251 hC (x := x74) (kk_74 hL) (kn_74 hL) (ov_get hN 0 rfl rfl) dX12_opens_45 ?_
  refine g_iload_n hC 1 dX12_opens_48 rfl rfl ?_
  obtain ⟨h_1, hf⟩ := gdE hf
  refine g_iast hC (x := x98) (kk_98 hL) (kn_98 hL) (ov_get hN 1 rfl rfl) (inb_in h_1) (ov_set hN (by rfl) 1 (by rfl)) dX12_opens_49 ?_
  show gV l b0 D K (n, κ, ov X0 [74, 98] [x74, (upd x98 (x74 25).toNatClampNeg v1)], ov Y0 [] [], Z, 0, 0) 50 [(0, .ref (b0 + 74)), (1, .int v1)] []
  refine g_aload_n hC 0 dX12_opens_50 rfl rfl ?_
  refine g_dup hC dX12_opens_51 rfl ?_
  refine gt_X12_251 hC (x := x74) (kk_74 hL) (kn_74 hL) (ov_get hN 0 rfl rfl) dX12_opens_52 ?_
  refine g_iconst hC (v := 1) dX12_opens_55 ic_1 ?_
  refine g_iadd hC dX12_opens_56 ?_
  refine pt_X12_251 hC (x := x74) (kk_74 hL) (kn_74 hL) (ov_get hN 0 rfl rfl) (ov_set hN (by rfl) 0 (by rfl)) dX12_opens_57 ?_
  show gV l b0 D K (n, κ, ov X0 [74, 98] [(upd x74 25 ((x74 25) + 1)), (upd x98 (x74 25).toNatClampNeg v1)], ov Y0 [] [], Z, 0, 0) 60 [(0, .ref (b0 + 74)), (1, .int v1)] []
  obtain ⟨rfl, rfl⟩ := sm2E hf
  exact hret _ _ dX12_opens_60

def fX12_opens_30     (v1 : Int32) (x74 : (Nat → Int32)) (x98 : (Nat → Int32)) : Option ((Nat → Int32) × (Nat → Int32)) := fX12_opens_40   v1 (upd x74 23 ((x74 23) + 1)) x98
set_option maxHeartbeats 4000000 in
set_option maxRecDepth 100000 in
theorem wX12_opens_30 {l : Launch} {b0 : Nat} {D : GD} {K : KT} {n : Nat} {κ : QT} {X0 : XT} {Y0 : YT} {Z : ZT} (hL : LY n κ) (hN : ([74, 98] : List Nat).Nodup) (hM : ([] : List Nat).Nodup) (hC : gC l b0 D K RX12 cX12_opens none 2 1 22 0 0) {rx74 : (Nat → Int32)} {rx98 : (Nat → Int32)} (hret : ∀ pc loc, decode cX12_opens pc = .ok (.return_, 1) → gV l b0 D K (n, κ, ov X0 [74, 98] [rx74, rx98], ov Y0 [] [], Z, 0, 0) pc loc []) {v1 : Int32} {x74 : (Nat → Int32)} {x98 : (Nat → Int32)} (hf : fX12_opens_30   v1 x74 x98 = some (rx74, rx98)) : gV l b0 D K (n, κ, ov X0 [74, 98] [x74, x98], ov Y0 [] [], Z, 0, 0) 30 [(0, .ref (b0 + 74)), (1, .int v1)] [] := by
  unfold fX12_opens_30 at hf
  refine g_aload_n hC 0 dX12_opens_30 rfl rfl ?_
  refine g_dup hC dX12_opens_31 rfl ?_
  refine gt_X12_254 hC (x := x74) (kk_74 hL) (kn_74 hL) (ov_get hN 0 rfl rfl) dX12_opens_32 ?_
  refine g_iconst hC (v := 1) dX12_opens_35 ic_1 ?_
  refine g_iadd hC dX12_opens_36 ?_
  refine pt_X12_254 hC (x := x74) (kk_74 hL) (kn_74 hL) (ov_get hN 0 rfl rfl) (ov_set hN (by rfl) 0 (by rfl)) dX12_opens_37 ?_
  show gV l b0 D K (n, κ, ov X0 [74, 98] [(upd x74 23 ((x74 23) + 1)), x98], ov Y0 [] [], Z, 0, 0) 40 [(0, .ref (b0 + 74)), (1, .int v1)] []
  exact g_sub [0, 1] rfl (wX12_opens_40 hL hN hM hC  hret  hf)

def fX12_opens_12     (v1 : Int32) (x74 : (Nat → Int32)) (x98 : (Nat → Int32)) : Option ((Nat → Int32) × (Nat → Int32)) := if (x74 23) = 10 then (bd1 (fX12_fails 2 (x74 18) x74) fun x74_1 => (fX12_opens_30   v1 x74_1 x98)) else (fX12_opens_30   v1 x74 x98)
set_option maxHeartbeats 4000000 in
set_option maxRecDepth 100000 in
theorem wX12_opens_12 {l : Launch} {b0 : Nat} {D : GD} {K : KT} {n : Nat} {κ : QT} {X0 : XT} {Y0 : YT} {Z : ZT} (hL : LY n κ) (hN : ([74, 98] : List Nat).Nodup) (hM : ([] : List Nat).Nodup) (hC : gC l b0 D K RX12 cX12_opens none 2 1 22 0 0) {rx74 : (Nat → Int32)} {rx98 : (Nat → Int32)} (hret : ∀ pc loc, decode cX12_opens pc = .ok (.return_, 1) → gV l b0 D K (n, κ, ov X0 [74, 98] [rx74, rx98], ov Y0 [] [], Z, 0, 0) pc loc []) {v1 : Int32} {x74 : (Nat → Int32)} {x98 : (Nat → Int32)} (hf : fX12_opens_12   v1 x74 x98 = some (rx74, rx98)) : gV l b0 D K (n, κ, ov X0 [74, 98] [x74, x98], ov Y0 [] [], Z, 0, 0) 12 [(0, .ref (b0 + 74)), (1, .int v1)] [] := by
  unfold fX12_opens_12 at hf
  refine g_aload_n hC 0 dX12_opens_12 rfl rfl ?_
  refine gt_X12_254 hC (x := x74) (kk_74 hL) (kn_74 hL) (ov_get hN 0 rfl rfl) dX12_opens_13 ?_
  refine g_bipush hC (v := 10) dX12_opens_16 bp_10 ?_
  refine g_icmp_ne hC 30 dX12_opens_18 (by decide) (fun hc => ?_) (fun hc => ?_)
  · replace hf := ifF hf hc
    exact g_sub [0, 1] rfl (wX12_opens_30 hL hN hM hC  hret  hf)
  · replace hf := ifT hf hc
    refine g_aload_n hC 0 dX12_opens_21 rfl rfl ?_
    refine g_iconst hC (v := 2) dX12_opens_22 ic_2 ?_
    refine g_aload_n hC 0 dX12_opens_23 rfl rfl ?_
    refine gt_X12_183 hC (x := x74) (kk_74 hL) (kn_74 hL) (ov_get hN 0 rfl rfl) dX12_opens_24 ?_
    obtain ⟨x74_1, q_2, hf⟩ := bd1E hf
    refine g_callV_v (a := 74) hC (X' := ov X0 [74, 98] [x74_1, x98]) (Y' := ov Y0 [] []) (As := [.int 2, .int (x74 18)]) (gMv_eq (c_X12_fails l hL (ov_map hN [0] (by rfl) (by rfl)) (ov_map hM [] (by rfl) (by rfl)) q_2) (ov_ovE hN (by rfl) [0] [1] (by rfl) (by rfl) [x98] (by rfl) (by rfl) (by rfl) 2 (by rfl) (by decide)) (ov_ovE hM (by rfl) [] [] (by rfl) (by rfl) [] (by rfl) (by rfl) (by rfl) 0 (by rfl) (by decide))) tw_1402 tw_1399 tw_127 tw_1401 tw_52 (ci := 12) rfl (by decide) (kk_74 hL) (kn_74 hL) pd_X12_fails (by decide) (by decide) rfl rfl (Nat.le_of_ble_eq_true rfl) rfl dX12_opens_27 ?_
    exact g_sub [0, 1] rfl (wX12_opens_30 hL hN hM hC  hret  hf)

def fX12_opens_0     (v1 : Int32) (x74 : (Nat → Int32)) (x98 : (Nat → Int32)) : Option ((Nat → Int32) × (Nat → Int32)) := if v1 = 9 then (fX12_opens_12   v1 x74 x98) else (if v1 = 12 then (fX12_opens_12   v1 x74 x98) else (fX12_opens_40   v1 x74 x98))
set_option maxHeartbeats 4000000 in
set_option maxRecDepth 100000 in
theorem wX12_opens_0 {l : Launch} {b0 : Nat} {D : GD} {K : KT} {n : Nat} {κ : QT} {X0 : XT} {Y0 : YT} {Z : ZT} (hL : LY n κ) (hN : ([74, 98] : List Nat).Nodup) (hM : ([] : List Nat).Nodup) (hC : gC l b0 D K RX12 cX12_opens none 2 1 22 0 0) {rx74 : (Nat → Int32)} {rx98 : (Nat → Int32)} (hret : ∀ pc loc, decode cX12_opens pc = .ok (.return_, 1) → gV l b0 D K (n, κ, ov X0 [74, 98] [rx74, rx98], ov Y0 [] [], Z, 0, 0) pc loc []) {v1 : Int32} {x74 : (Nat → Int32)} {x98 : (Nat → Int32)} (hf : fX12_opens_0   v1 x74 x98 = some (rx74, rx98)) : gV l b0 D K (n, κ, ov X0 [74, 98] [x74, x98], ov Y0 [] [], Z, 0, 0) 0 [(0, .ref (b0 + 74)), (1, .int v1)] [] := by
  unfold fX12_opens_0 at hf
  refine g_iload_n hC 1 dX12_opens_0 rfl rfl ?_
  refine g_bipush hC (v := 9) dX12_opens_1 bp_9 ?_
  refine g_icmp_eq hC 12 dX12_opens_3 (by decide) (fun hc => ?_) (fun hc => ?_)
  · replace hf := ifT hf hc
    exact g_sub [0, 1] rfl (wX12_opens_12 hL hN hM hC  hret  hf)
  · replace hf := ifF hf hc
    refine g_iload_n hC 1 dX12_opens_6 rfl rfl ?_
    refine g_bipush hC (v := 12) dX12_opens_7 bp_12 ?_
    refine g_icmp_ne hC 40 dX12_opens_9 (by decide) (fun hc => ?_) (fun hc => ?_)
    · replace hf := ifF hf hc
      exact g_sub [0, 1] rfl (wX12_opens_40 hL hN hM hC  hret  hf)
    · replace hf := ifT hf hc
      exact g_sub [0, 1] rfl (wX12_opens_12 hL hN hM hC  hret  hf)

def fX12_opens     (v1 : Int32) (x74 : Nat → Int32) (x98 : Nat → Int32)  : Option ((Nat → Int32) × (Nat → Int32)) := fX12_opens_0  v1 x74 x98

set_option maxHeartbeats 4000000 in
set_option maxRecDepth 100000 in
theorem c_X12_opens (l : Launch) {b0 : Nat} {D : GD} {n : Nat} {κ : QT} {X0 : XT} {Y0 : YT} {Z : ZT} (hL : LY n κ) {x74 : Nat → Int32} {x98 : Nat → Int32} (hx : ([74, 98] : List Nat).map X0 = [x74, x98]) (hy : ([] : List Nat).map Y0 = []) {v1 : Int32} {rx74 : (Nat → Int32)} {rx98 : (Nat → Int32)} (hf : fX12_opens  v1 x74 x98 = some (rx74, rx98)) : gMv l yX12_opens cX12_opens 2 none 1 22 0 0 b0 D [.ref (b0 + 74), .int v1] (n, κ, X0, Y0, Z) (n, κ, ov X0 [74, 98] [rx74, rx98], ov Y0 [] [], Z) := by
  have hN : ([74, 98] : List Nat).Nodup := by decide
  have hM : ([] : List Nat).Nodup := by decide
  refine g_metv (own := RX12) (by decide) rfl rfl (Nat.le_of_ble_eq_true rfl) ?_
  intro K hC hret
  have e := wX12_opens_0 hL hN hM hC  hret hf
  rw [ov_id' hx, ov_id' hy] at e
  exact g_sub [0, 1] rfl e

-- X12_answers
def fX12_answers_47   (x98 : Nat → Int32)  (k0 : Int32 → (Nat → Int32) → (Nat → Int32) → (Nat → Int32) → Option ((Nat → Int32) × (Nat → Int32) × (Nat → Int32))) (v1 : Int32) (s0 : Int32) (s1 : Int32) (x74 : (Nat → Int32)) (x92 : (Nat → Int32)) (x93 : (Nat → Int32)) : Option ((Nat → Int32) × (Nat → Int32) × (Nat → Int32)) := k0 v1 (upd x74 23 (s1 - s0)) x92 x93
set_option maxHeartbeats 4000000 in
set_option maxRecDepth 100000 in
theorem wX12_answers_47 {l : Launch} {b0 : Nat} {D : GD} {K : KT} {n : Nat} {κ : QT} {X0 : XT} {Y0 : YT} {Z : ZT} (hL : LY n κ) (hN : ([74, 92, 93, 98] : List Nat).Nodup) (hM : ([] : List Nat).Nodup) (hC : gC l b0 D K RX12 cX12_answers none 2 1 22 0 0) {x98 : Nat → Int32} {rx74 : (Nat → Int32)} {rx92 : (Nat → Int32)} {rx93 : (Nat → Int32)} (hret : ∀ pc loc, decode cX12_answers pc = .ok (.return_, 1) → gV l b0 D K (n, κ, ov X0 [74, 92, 93, 98] [rx74, rx92, rx93, x98], ov Y0 [] [], Z, 0, 0) pc loc []) {k0 : Int32 → (Nat → Int32) → (Nat → Int32) → (Nat → Int32) → Option ((Nat → Int32) × (Nat → Int32) × (Nat → Int32))} (hk0 : ∀ (v1 : Int32) (x74 : (Nat → Int32)) (x92 : (Nat → Int32)) (x93 : (Nat → Int32)), k0 v1 x74 x92 x93 = some (rx74, rx92, rx93) → gV l b0 D K (n, κ, ov X0 [74, 92, 93, 98] [x74, x92, x93, x98], ov Y0 [] [], Z, 0, 0) 0 [(0, .ref (b0 + 74)), (1, .int v1)] []) {v1 : Int32} {s0 : Int32} {s1 : Int32} {x74 : (Nat → Int32)} {x92 : (Nat → Int32)} {x93 : (Nat → Int32)} (hf : fX12_answers_47 x98 k0 v1 s0 s1 x74 x92 x93 = some (rx74, rx92, rx93)) : gV l b0 D K (n, κ, ov X0 [74, 92, 93, 98] [x74, x92, x93, x98], ov Y0 [] [], Z, 0, 0) 47 [(0, .ref (b0 + 74)), (1, .int v1)] [.int s0, .int s1, .ref (b0 + 74)] := by
  unfold fX12_answers_47 at hf
  refine g_isub hC dX12_answers_47 ?_
  refine pt_X12_254 hC (x := x74) (kk_74 hL) (kn_74 hL) (ov_get hN 0 rfl rfl) (ov_set hN (by rfl) 0 (by rfl)) dX12_answers_48 ?_
  show gV l b0 D K (n, κ, ov X0 [74, 92, 93, 98] [(upd x74 23 (s1 - s0)), x92, x93, x98], ov Y0 [] [], Z, 0, 0) 51 [(0, .ref (b0 + 74)), (1, .int v1)] []
  refine g_goto hC 0 dX12_answers_51 (by decide) ?_
  exact g_sub [0, 1] rfl (hk0 v1 (upd x74 23 (s1 - s0)) x92 x93 hf)

def fX12_answers_0b   (x98 : Nat → Int32)  (k0 : Int32 → (Nat → Int32) → (Nat → Int32) → (Nat → Int32) → Option ((Nat → Int32) × (Nat → Int32) × (Nat → Int32))) (v1 : Int32) (x74 : (Nat → Int32)) (x92 : (Nat → Int32)) (x93 : (Nat → Int32)) : Option ((Nat → Int32) × (Nat → Int32) × (Nat → Int32)) := bd1 (fX12_top x74 x98) fun r_1 => (if r_1 = v1 then (if (x74 19) = 0 then (bd3 (fX12_entry v1 0 x74 x92 x93) fun x74_3 x92_4 x93_5 => (if v1 = 9 then (fX12_answers_47 x98 k0 v1 1 ((upd x74_3 25 ((x74_3 25) - 1)) 23) (upd x74_3 25 ((x74_3 25) - 1)) x92_4 x93_5) else (fX12_answers_47 x98 k0 v1 0 ((upd x74_3 25 ((x74_3 25) - 1)) 23) (upd x74_3 25 ((x74_3 25) - 1)) x92_4 x93_5))) else (some (x74, x92, x93))) else (some (x74, x92, x93)))
def fX12_answers_0   (x98 : Nat → Int32)  : Int32 → (Nat → Int32) → (Nat → Int32) → (Nat → Int32) → Option ((Nat → Int32) × (Nat → Int32) × (Nat → Int32)) := lq4 (fX12_answers_0b x98 ) 5000
set_option maxHeartbeats 4000000 in
set_option maxRecDepth 100000 in
theorem wX12_answers_0 {l : Launch} {b0 : Nat} {D : GD} {K : KT} {n : Nat} {κ : QT} {X0 : XT} {Y0 : YT} {Z : ZT} (hL : LY n κ) (hN : ([74, 92, 93, 98] : List Nat).Nodup) (hM : ([] : List Nat).Nodup) (hC : gC l b0 D K RX12 cX12_answers none 2 1 22 0 0) {x98 : Nat → Int32} {rx74 : (Nat → Int32)} {rx92 : (Nat → Int32)} {rx93 : (Nat → Int32)} (hret : ∀ pc loc, decode cX12_answers pc = .ok (.return_, 1) → gV l b0 D K (n, κ, ov X0 [74, 92, 93, 98] [rx74, rx92, rx93, x98], ov Y0 [] [], Z, 0, 0) pc loc []) : ∀ (j : Nat) (v1 : Int32) (x74 : (Nat → Int32)) (x92 : (Nat → Int32)) (x93 : (Nat → Int32)), lq4 (fX12_answers_0b x98 ) j v1 x74 x92 x93 = some (rx74, rx92, rx93) → gV l b0 D K (n, κ, ov X0 [74, 92, 93, 98] [x74, x92, x93, x98], ov Y0 [] [], Z, 0, 0) 0 [(0, .ref (b0 + 74)), (1, .int v1)] [] := by
  intro j
  induction j with
  | zero => intro v1 x74 x92 x93 hf; cases hf
  | succ j hk0 =>
    intro v1 x74 x92 x93 hf
    replace hf : fX12_answers_0b x98  (lq4 (fX12_answers_0b x98 ) j) v1 x74 x92 x93 = some (rx74, rx92, rx93) := hf
    unfold fX12_answers_0b at hf
    refine g_aload_n hC 0 dX12_answers_0 rfl rfl ?_
    obtain ⟨r_1, q_2, hf⟩ := bd1E hf
    refine g_callV_i (a := 74) hC (X' := ov X0 [74, 92, 93, 98] [x74, x92, x93, x98]) (Y' := ov Y0 [] []) (As := []) (gMi_eq (c_X12_top l hL (ov_map hN [0, 3] (by rfl) (by rfl)) (ov_map hM [] (by rfl) (by rfl)) q_2) (ov_ovE hN (by rfl) [0, 3] [1, 2] (by rfl) (by rfl) [x92, x93] (by rfl) (by rfl) (by rfl) 4 (by rfl) (by decide)) (ov_ovE hM (by rfl) [] [] (by rfl) (by rfl) [] (by rfl) (by rfl) (by rfl) 0 (by rfl) (by decide))) tw_1515 tw_1512 tw_127 tw_1514 tw_73 (ci := 12) rfl (by decide) (kk_74 hL) (kn_74 hL) pd_X12_top (by decide) (by decide) rfl rfl (Nat.le_of_ble_eq_true rfl) rfl dX12_answers_1 ?_
    refine g_iload_n hC 1 dX12_answers_4 rfl rfl ?_
    refine g_icmp_ne hC 54 dX12_answers_5 (by decide) (fun hc => ?_) (fun hc => ?_)
    · replace hf := ifF hf hc
      obtain ⟨rfl, rfl, rfl⟩ := sm3E hf
      exact hret _ _ dX12_answers_54
    · replace hf := ifT hf hc
      refine g_aload_n hC 0 dX12_answers_8 rfl rfl ?_
      refine gt_X12_180 hC (x := x74) (kk_74 hL) (kn_74 hL) (ov_get hN 0 rfl rfl) dX12_answers_9 ?_
      refine g_if_ne hC 54 dX12_answers_12 (by decide) (fun hc => ?_) (fun hc => ?_)
      · replace hf := ifF hf hc
        obtain ⟨rfl, rfl, rfl⟩ := sm3E hf
        exact hret _ _ dX12_answers_54
      · replace hf := ifT hf hc
        refine g_aload_n hC 0 dX12_answers_15 rfl rfl ?_
        refine g_iload_n hC 1 dX12_answers_16 rfl rfl ?_
        refine g_iconst hC (v := 0) dX12_answers_17 ic_0 ?_
        obtain ⟨x74_3, x92_4, x93_5, q_6, hf⟩ := bd3E hf
        refine g_callV_v (a := 74) hC (X' := ov X0 [74, 92, 93, 98] [x74_3, x92_4, x93_5, x98]) (Y' := ov Y0 [] []) (As := [.int v1, .int 0]) (gMv_eq (c_X12_entry l hL (ov_map hN [0, 1, 2] (by rfl) (by rfl)) (ov_map hM [] (by rfl) (by rfl)) q_6) (ov_ovE hN (by rfl) [0, 1, 2] [3] (by rfl) (by rfl) [x98] (by rfl) (by rfl) (by rfl) 4 (by rfl) (by decide)) (ov_ovE hM (by rfl) [] [] (by rfl) (by rfl) [] (by rfl) (by rfl) (by rfl) 0 (by rfl) (by decide))) tw_1472 tw_1469 tw_127 tw_1471 tw_66 (ci := 12) rfl (by decide) (kk_74 hL) (kn_74 hL) pd_X12_entry (by decide) (by decide) rfl rfl (Nat.le_of_ble_eq_true rfl) rfl dX12_answers_18 ?_
        refine g_aload_n hC 0 dX12_answers_21 rfl rfl ?_
        refine g_dup hC dX12_answers_22 rfl ?_
        refine gt_X12_251 hC (x := x74_3) (kk_74 hL) (kn_74 hL) (ov_get hN 0 rfl rfl) dX12_answers_23 ?_
        refine g_iconst hC (v := 1) dX12_answers_26 ic_1 ?_
        refine g_isub hC dX12_answers_27 ?_
        refine pt_X12_251 hC (x := x74_3) (kk_74 hL) (kn_74 hL) (ov_get hN 0 rfl rfl) (ov_set hN (by rfl) 0 (by rfl)) dX12_answers_28 ?_
        show gV l b0 D K (n, κ, ov X0 [74, 92, 93, 98] [(upd x74_3 25 ((x74_3 25) - 1)), x92_4, x93_5, x98], ov Y0 [] [], Z, 0, 0) 31 [(0, .ref (b0 + 74)), (1, .int v1)] []
        refine g_aload_n hC 0 dX12_answers_31 rfl rfl ?_
        refine g_dup hC dX12_answers_32 rfl ?_
        refine gt_X12_254 hC (x := (upd x74_3 25 ((x74_3 25) - 1))) (kk_74 hL) (kn_74 hL) (ov_get hN 0 rfl rfl) dX12_answers_33 ?_
        refine g_iload_n hC 1 dX12_answers_36 rfl rfl ?_
        refine g_bipush hC (v := 9) dX12_answers_37 bp_9 ?_
        refine g_icmp_ne hC 46 dX12_answers_39 (by decide) (fun hc => ?_) (fun hc => ?_)
        · replace hf := ifF hf hc
          refine g_iconst hC (v := 0) dX12_answers_46 ic_0 ?_
          exact g_sub [0, 1] rfl (wX12_answers_47 hL hN hM hC  hret hk0 hf)
        · replace hf := ifT hf hc
          refine g_iconst hC (v := 1) dX12_answers_42 ic_1 ?_
          refine g_goto hC 47 dX12_answers_43 (by decide) ?_
          exact g_sub [0, 1] rfl (wX12_answers_47 hL hN hM hC  hret hk0 hf)

def fX12_answers   (x98 : Nat → Int32)  (v1 : Int32) (x74 : Nat → Int32) (x92 : Nat → Int32) (x93 : Nat → Int32)  : Option ((Nat → Int32) × (Nat → Int32) × (Nat → Int32)) := fX12_answers_0 x98 v1 x74 x92 x93

set_option maxHeartbeats 4000000 in
set_option maxRecDepth 100000 in
theorem c_X12_answers (l : Launch) {b0 : Nat} {D : GD} {n : Nat} {κ : QT} {X0 : XT} {Y0 : YT} {Z : ZT} (hL : LY n κ) {x74 : Nat → Int32} {x92 : Nat → Int32} {x93 : Nat → Int32} {x98 : Nat → Int32} (hx : ([74, 92, 93, 98] : List Nat).map X0 = [x74, x92, x93, x98]) (hy : ([] : List Nat).map Y0 = []) {v1 : Int32} {rx74 : (Nat → Int32)} {rx92 : (Nat → Int32)} {rx93 : (Nat → Int32)} (hf : fX12_answers x98 v1 x74 x92 x93 = some (rx74, rx92, rx93)) : gMv l yX12_answers cX12_answers 2 none 1 22 0 0 b0 D [.ref (b0 + 74), .int v1] (n, κ, X0, Y0, Z) (n, κ, ov X0 [74, 92, 93, 98] [rx74, rx92, rx93, x98], ov Y0 [] [], Z) := by
  have hN : ([74, 92, 93, 98] : List Nat).Nodup := by decide
  have hM : ([] : List Nat).Nodup := by decide
  refine g_metv (own := RX12) (by decide) rfl rfl (Nat.le_of_ble_eq_true rfl) ?_
  intro K hC hret
  have e := wX12_answers_0 hL hN hM hC  hret 5000 v1 x74 x92 x93 hf
  rw [ov_id' hx, ov_id' hy] at e
  exact g_sub [0, 1] rfl e

-- X12_amount
def fX12_amount_26   (x91 : Nat → Int32)  (v1 : Int32) (v2 : Int32) (v3 : Int32) (s0 : Int32) (x74 : (Nat → Int32)) : Option (Int32 × (Nat → Int32)) := if (x74 19) = 0 then (bd1 (fX12_in s0.toInt64 v1.toInt64 v2.toInt64) fun r_1 => (if r_1 = 0 then (bd1 (fX12_fails 1 v3 x74) fun x74_3 => (some (s0, x74_3))) else (some (s0, x74)))) else (some (s0, x74))
set_option maxHeartbeats 4000000 in
set_option maxRecDepth 100000 in
theorem wX12_amount_26 {l : Launch} {b0 : Nat} {D : GD} {K : KT} {n : Nat} {κ : QT} {X0 : XT} {Y0 : YT} {Z : ZT} (hL : LY n κ) (hN : ([74, 91] : List Nat).Nodup) (hM : ([] : List Nat).Nodup) (hC : gC l b0 D K RX12 cX12_amount (some FieldType.int) 5 3 68 0 0) {x91 : Nat → Int32} {r : Int32} {rx74 : (Nat → Int32)} (hret : ∀ pc loc, narrow .int (.int r) = .int r → decode cX12_amount pc = .ok (.ireturn, 1) → gV l b0 D K (n, κ, ov X0 [74, 91] [rx74, x91], ov Y0 [] [], Z, 0, 0) pc loc [.int r]) {v1 : Int32} {v2 : Int32} {v3 : Int32} {s0 : Int32} {x74 : (Nat → Int32)} (hf : fX12_amount_26 x91  v1 v2 v3 s0 x74 = some (r, rx74)) : gV l b0 D K (n, κ, ov X0 [74, 91] [x74, x91], ov Y0 [] [], Z, 0, 0) 26 [(0, .ref (b0 + 74)), (1, .int v1), (2, .int v2), (3, .int v3)] [.int s0] := by
  unfold fX12_amount_26 at hf
  refine g_istore hC (i := 4) [(4, .int s0), (0, .ref (b0 + 74)), (1, .int v1), (2, .int v2), (3, .int v3)] dX12_amount_26 (by decide) rfl ?_
  refine g_aload_n hC 1 dX12_amount_28 rfl rfl ?_
  refine gt_X12_180 hC (x := x74) (kk_74 hL) (kn_74 hL) (ov_get hN 0 rfl rfl) dX12_amount_29 ?_
  refine g_if_ne hC 54 dX12_amount_32 (by decide) (fun hc => ?_) (fun hc => ?_)
  · replace hf := ifF hf hc
    refine g_iload hC 0 dX12_amount_54 rfl ?_
    obtain ⟨rfl, rfl⟩ := sm2E hf
    exact hret _ _ rfl dX12_amount_56
  · replace hf := ifT hf hc
    refine g_iload hC 0 dX12_amount_35 rfl ?_
    refine g_i2l hC dX12_amount_37 ?_
    refine g_iload_n hC 2 dX12_amount_38 rfl rfl ?_
    refine g_i2l hC dX12_amount_39 ?_
    refine g_iload_n hC 3 dX12_amount_40 rfl rfl ?_
    refine g_i2l hC dX12_amount_41 ?_
    obtain ⟨r_1, q_2, hf⟩ := bd1E hf
    refine g_callS_i hC (X' := ov X0 [74, 91] [x74, x91]) (Y' := ov Y0 [] []) (As := [.long s0.toInt64, .long v1.toInt64, .long v2.toInt64]) (gMi_eq (c_X12_in l hL (ov_map hN [] (by rfl) (by rfl)) (ov_map hM [] (by rfl) (by rfl)) q_2) (ov_ovE hN (by rfl) [] [0, 1] (by rfl) (by rfl) [x74, x91] (by rfl) (by rfl) (by rfl) 2 (by rfl) (by decide)) (ov_ovE hM (by rfl) [] [] (by rfl) (by rfl) [] (by rfl) (by rfl) (by rfl) 0 (by rfl) (by decide))) tw_1428 tw_1426 tw_127 tw_1427 pd_X12_in (by decide) (by decide) rfl rfl (Nat.le_of_ble_eq_true rfl) rfl dX12_amount_42 ?_
    refine g_if_ne hC 54 dX12_amount_45 (by decide) (fun hc => ?_) (fun hc => ?_)
    · replace hf := ifF hf hc
      refine g_iload hC 0 dX12_amount_54 rfl ?_
      obtain ⟨rfl, rfl⟩ := sm2E hf
      exact hret _ _ rfl dX12_amount_56
    · replace hf := ifT hf hc
      refine g_aload_n hC 1 dX12_amount_48 rfl rfl ?_
      refine g_iconst hC (v := 1) dX12_amount_49 ic_1 ?_
      refine g_iload_n hC 4 dX12_amount_50 rfl rfl ?_
      obtain ⟨x74_3, q_4, hf⟩ := bd1E hf
      refine g_callV_v (a := 74) hC (X' := ov X0 [74, 91] [x74_3, x91]) (Y' := ov Y0 [] []) (As := [.int 1, .int v3]) (gMv_eq (c_X12_fails l hL (ov_map hN [0] (by rfl) (by rfl)) (ov_map hM [] (by rfl) (by rfl)) q_4) (ov_ovE hN (by rfl) [0] [1] (by rfl) (by rfl) [x91] (by rfl) (by rfl) (by rfl) 2 (by rfl) (by decide)) (ov_ovE hM (by rfl) [] [] (by rfl) (by rfl) [] (by rfl) (by rfl) (by rfl) 0 (by rfl) (by decide))) tw_1402 tw_1399 tw_127 tw_1401 tw_52 (ci := 12) rfl (by decide) (kk_74 hL) (kn_74 hL) pd_X12_fails (by decide) (by decide) rfl rfl (Nat.le_of_ble_eq_true rfl) rfl dX12_amount_51 ?_
      refine g_iload hC 0 dX12_amount_54 rfl ?_
      obtain ⟨rfl, rfl⟩ := sm2E hf
      exact hret _ _ rfl dX12_amount_56

def fX12_amount_0   (x91 : Nat → Int32)  (v1 : Int32) (v2 : Int32) (x74 : (Nat → Int32)) : Option (Int32 × (Nat → Int32)) := bd1 (fX12_blanks x91 x74) fun x74_1 => (bn (x74_1 18) fun t_3 => (if (x74_1 19) = 0 then (bd2 (fX12_digits x91 99999 x74_1) fun r_4 x74_5 => (fX12_amount_26 x91  v1 v2 t_3 r_4 x74_5)) else (fX12_amount_26 x91  v1 v2 t_3 0 x74_1)))
set_option maxHeartbeats 4000000 in
set_option maxRecDepth 100000 in
theorem wX12_amount_0 {l : Launch} {b0 : Nat} {D : GD} {K : KT} {n : Nat} {κ : QT} {X0 : XT} {Y0 : YT} {Z : ZT} (hL : LY n κ) (hN : ([74, 91] : List Nat).Nodup) (hM : ([] : List Nat).Nodup) (hC : gC l b0 D K RX12 cX12_amount (some FieldType.int) 5 3 68 0 0) {x91 : Nat → Int32} {r : Int32} {rx74 : (Nat → Int32)} (hret : ∀ pc loc, narrow .int (.int r) = .int r → decode cX12_amount pc = .ok (.ireturn, 1) → gV l b0 D K (n, κ, ov X0 [74, 91] [rx74, x91], ov Y0 [] [], Z, 0, 0) pc loc [.int r]) {v1 : Int32} {v2 : Int32} {x74 : (Nat → Int32)} (hf : fX12_amount_0 x91  v1 v2 x74 = some (r, rx74)) : gV l b0 D K (n, κ, ov X0 [74, 91] [x74, x91], ov Y0 [] [], Z, 0, 0) 0 [(0, .ref (b0 + 74)), (1, .int v1), (2, .int v2)] [] := by
  unfold fX12_amount_0 at hf
  refine g_aload_n hC 0 dX12_amount_0 rfl rfl ?_
  obtain ⟨x74_1, q_2, hf⟩ := bd1E hf
  refine g_callV_v (a := 74) hC (X' := ov X0 [74, 91] [x74_1, x91]) (Y' := ov Y0 [] []) (As := []) (gMv_eq (c_X12_blanks l hL (ov_map hN [0, 1] (by rfl) (by rfl)) (ov_map hM [] (by rfl) (by rfl)) q_2) (ov_ovE hN (by rfl) [0, 1] [] (by rfl) (by rfl) [] (by rfl) (by rfl) (by rfl) 2 (by rfl) (by decide)) (ov_ovE hM (by rfl) [] [] (by rfl) (by rfl) [] (by rfl) (by rfl) (by rfl) 0 (by rfl) (by decide))) tw_1380 tw_1377 tw_127 tw_1379 tw_49 (ci := 12) rfl (by decide) (kk_74 hL) (kn_74 hL) pd_X12_blanks (by decide) (by decide) rfl rfl (Nat.le_of_ble_eq_true rfl) rfl dX12_amount_1 ?_
  refine g_aload_n hC 0 dX12_amount_4 rfl rfl ?_
  refine gt_X12_183 hC (x := x74_1) (kk_74 hL) (kn_74 hL) (ov_get hN 0 rfl rfl) dX12_amount_5 ?_
  obtain ⟨t_3, et_3, hf⟩ := bnE hf
  refine g_topi et_3 ?_
  refine g_istore_n hC (i := 3) [(3, .int t_3), (0, .ref (b0 + 74)), (1, .int v1), (2, .int v2)] rfl dX12_amount_8 (by decide) rfl ?_
  refine g_aload_n hC 1 dX12_amount_9 rfl rfl ?_
  refine gt_X12_180 hC (x := x74_1) (kk_74 hL) (kn_74 hL) (ov_get hN 0 rfl rfl) dX12_amount_10 ?_
  refine g_if_ne hC 25 dX12_amount_13 (by decide) (fun hc => ?_) (fun hc => ?_)
  · replace hf := ifF hf hc
    refine g_iconst hC (v := 0) dX12_amount_25 ic_0 ?_
    exact g_sub [1, 2, 3, 0] rfl (wX12_amount_26 hL hN hM hC  hret  hf)
  · replace hf := ifT hf hc
    refine g_aload_n hC 1 dX12_amount_16 rfl rfl ?_
    refine g_ldc hC (v := 99999) tw_1415 dX12_amount_17 ?_
    obtain ⟨r_4, x74_5, q_6, hf⟩ := bd2E hf
    refine g_callV_i (a := 74) hC (X' := ov X0 [74, 91] [x74_5, x91]) (Y' := ov Y0 [] []) (As := [.int 99999]) (gMi_eq (c_X12_digits l hL (ov_map hN [0, 1] (by rfl) (by rfl)) (ov_map hM [] (by rfl) (by rfl)) q_6) (ov_ovE hN (by rfl) [0, 1] [] (by rfl) (by rfl) [] (by rfl) (by rfl) (by rfl) 2 (by rfl) (by decide)) (ov_ovE hM (by rfl) [] [] (by rfl) (by rfl) [] (by rfl) (by rfl) (by rfl) 0 (by rfl) (by decide))) tw_1419 tw_1416 tw_127 tw_1418 tw_56 (ci := 12) rfl (by decide) (kk_74 hL) (kn_74 hL) pd_X12_digits (by decide) (by decide) rfl rfl (Nat.le_of_ble_eq_true rfl) rfl dX12_amount_19 ?_
    refine g_goto hC 26 dX12_amount_22 (by decide) ?_
    exact g_sub [1, 2, 3, 0] rfl (wX12_amount_26 hL hN hM hC  hret  hf)

def fX12_amount   (x91 : Nat → Int32)  (v1 : Int32) (v2 : Int32) (x74 : Nat → Int32)  : Option (Int32 × (Nat → Int32)) := fX12_amount_0 x91 v1 v2 x74

set_option maxHeartbeats 4000000 in
set_option maxRecDepth 100000 in
theorem c_X12_amount (l : Launch) {b0 : Nat} {D : GD} {n : Nat} {κ : QT} {X0 : XT} {Y0 : YT} {Z : ZT} (hL : LY n κ) {x74 : Nat → Int32} {x91 : Nat → Int32} (hx : ([74, 91] : List Nat).map X0 = [x74, x91]) (hy : ([] : List Nat).map Y0 = []) {v1 : Int32} {v2 : Int32} {r : Int32} {rx74 : (Nat → Int32)} (hf : fX12_amount x91 v1 v2 x74 = some (r, rx74)) : gMi l yX12_amount cX12_amount 5 (some FieldType.int) 3 68 0 0 b0 D [.ref (b0 + 74), .int v1, .int v2] (n, κ, X0, Y0, Z) (n, κ, ov X0 [74, 91] [rx74, x91], ov Y0 [] [], Z) r := by
  have hN : ([74, 91] : List Nat).Nodup := by decide
  have hM : ([] : List Nat).Nodup := by decide
  refine g_meti (own := RX12) (by decide) rfl rfl (Nat.le_of_ble_eq_true rfl) ?_
  intro K hC hret
  have e := wX12_amount_0 hL hN hM hC  hret hf
  rw [ov_id' hx, ov_id' hy] at e
  exact g_sub [0, 1, 2] rfl e

-- X12_joinPart
def fX12_joinPart_55   (x86 : Nat → Int32) (x91 : Nat → Int32)  (v1 : Int32) (v3 : Int32) (x74 : (Nat → Int32)) (x89 : (Nat → Int32)) : Option ((Nat → Int32) × (Nat → Int32)) := bd2 (fX12_amount x91 1 9 x74) fun r_1 x74_2 => (if (x74_2 19) = 0 then (gd (inb ((6 * v1) + v3) 36) (gd (inb ((6 * v3) + v1) 36) (some (x74_2, (upd (upd x89 ((6 * v1) + v3).toNatClampNeg r_1) ((6 * v3) + v1).toNatClampNeg r_1))))) else (some (x74_2, x89)))
set_option maxHeartbeats 4000000 in
set_option maxRecDepth 100000 in
theorem wX12_joinPart_55 {l : Launch} {b0 : Nat} {D : GD} {K : KT} {n : Nat} {κ : QT} {X0 : XT} {Y0 : YT} {Z : ZT} (hL : LY n κ) (hN : ([74, 86, 89, 91] : List Nat).Nodup) (hM : ([] : List Nat).Nodup) (hC : gC l b0 D K RX12 cX12_joinPart none 5 4 92 0 0) {x86 : Nat → Int32} {x91 : Nat → Int32} {rx74 : (Nat → Int32)} {rx89 : (Nat → Int32)} (hret : ∀ pc loc, decode cX12_joinPart pc = .ok (.return_, 1) → gV l b0 D K (n, κ, ov X0 [74, 86, 89, 91] [rx74, x86, rx89, x91], ov Y0 [] [], Z, 0, 0) pc loc []) {v1 : Int32} {v3 : Int32} {x74 : (Nat → Int32)} {x89 : (Nat → Int32)} (hf : fX12_joinPart_55 x86 x91  v1 v3 x74 x89 = some (rx74, rx89)) : gV l b0 D K (n, κ, ov X0 [74, 86, 89, 91] [x74, x86, x89, x91], ov Y0 [] [], Z, 0, 0) 55 [(0, .ref (b0 + 74)), (1, .int v1), (3, .int v3)] [] := by
  unfold fX12_joinPart_55 at hf
  refine g_aload_n hC 0 dX12_joinPart_55 rfl rfl ?_
  refine g_iconst hC (v := 1) dX12_joinPart_56 ic_1 ?_
  refine g_bipush hC (v := 9) dX12_joinPart_57 bp_9 ?_
  obtain ⟨r_1, x74_2, q_3, hf⟩ := bd2E hf
  refine g_callV_i (a := 74) hC (X' := ov X0 [74, 86, 89, 91] [x74_2, x86, x89, x91]) (Y' := ov Y0 [] []) (As := [.int 1, .int 9]) (gMi_eq (c_X12_amount l hL (ov_map hN [0, 3] (by rfl) (by rfl)) (ov_map hM [] (by rfl) (by rfl)) q_3) (ov_ovE hN (by rfl) [0, 3] [1, 2] (by rfl) (by rfl) [x86, x89] (by rfl) (by rfl) (by rfl) 4 (by rfl) (by decide)) (ov_ovE hM (by rfl) [] [] (by rfl) (by rfl) [] (by rfl) (by rfl) (by rfl) 0 (by rfl) (by decide))) tw_1414 tw_1411 tw_127 tw_1413 tw_55 (ci := 12) rfl (by decide) (kk_74 hL) (kn_74 hL) pd_X12_amount (by decide) (by decide) rfl rfl (Nat.le_of_ble_eq_true rfl) rfl dX12_joinPart_59 ?_
  refine g_istore hC (i := 4) [(4, .int r_1), (0, .ref (b0 + 74)), (1, .int v1), (3, .int v3)] dX12_joinPart_62 (by decide) rfl ?_
  refine g_aload_n hC 1 dX12_joinPart_64 rfl rfl ?_
  refine gt_X12_180 hC (x := x74_2) (kk_74 hL) (kn_74 hL) (ov_get hN 0 rfl rfl) dX12_joinPart_65 ?_
  refine g_if_ne hC 97 dX12_joinPart_68 (by decide) (fun hc => ?_) (fun hc => ?_)
  · replace hf := ifF hf hc
    obtain ⟨rfl, rfl⟩ := sm2E hf
    exact hret _ _ dX12_joinPart_97
  · replace hf := ifT hf hc
    refine g_aload_n hC 1 dX12_joinPart_71 rfl rfl ?_
    refine gt_X12_52 hC (a := 74) (kk_74 hL) (kn_74 hL) dX12_joinPart_72 ?_
    refine g_ref (b := 89) rfl ?_
    refine g_bipush hC (v := 6) dX12_joinPart_75 bp_6 ?_
    refine g_iload_n hC 2 dX12_joinPart_77 rfl rfl ?_
    refine g_imul hC dX12_joinPart_78 ?_
    refine g_iload_n hC 3 dX12_joinPart_79 rfl rfl ?_
    refine g_iadd hC dX12_joinPart_80 ?_
    refine g_iload hC 0 dX12_joinPart_81 rfl ?_
    obtain ⟨h_4, hf⟩ := gdE hf
    refine g_iast hC (x := x89) (kk_89 hL) (kn_89 hL) (ov_get hN 2 rfl rfl) (inb_in h_4) (ov_set hN (by rfl) 2 (by rfl)) dX12_joinPart_83 ?_
    show gV l b0 D K (n, κ, ov X0 [74, 86, 89, 91] [x74_2, x86, (upd x89 ((6 * v1) + v3).toNatClampNeg r_1), x91], ov Y0 [] [], Z, 0, 0) 84 [(4, .int r_1), (0, .ref (b0 + 74)), (1, .int v1), (3, .int v3)] []
    refine g_aload_n hC 1 dX12_joinPart_84 rfl rfl ?_
    refine gt_X12_52 hC (a := 74) (kk_74 hL) (kn_74 hL) dX12_joinPart_85 ?_
    refine g_ref (b := 89) rfl ?_
    refine g_bipush hC (v := 6) dX12_joinPart_88 bp_6 ?_
    refine g_iload_n hC 3 dX12_joinPart_90 rfl rfl ?_
    refine g_imul hC dX12_joinPart_91 ?_
    refine g_iload_n hC 2 dX12_joinPart_92 rfl rfl ?_
    refine g_iadd hC dX12_joinPart_93 ?_
    refine g_iload hC 0 dX12_joinPart_94 rfl ?_
    obtain ⟨h_5, hf⟩ := gdE hf
    refine g_iast hC (x := (upd x89 ((6 * v1) + v3).toNatClampNeg r_1)) (kk_89 hL) (kn_89 hL) (ov_get hN 2 rfl rfl) (inb_in h_5) (ov_set hN (by rfl) 2 (by rfl)) dX12_joinPart_96 ?_
    show gV l b0 D K (n, κ, ov X0 [74, 86, 89, 91] [x74_2, x86, (upd (upd x89 ((6 * v1) + v3).toNatClampNeg r_1) ((6 * v3) + v1).toNatClampNeg r_1), x91], ov Y0 [] [], Z, 0, 0) 97 [(4, .int r_1), (0, .ref (b0 + 74)), (1, .int v1), (3, .int v3)] []
    obtain ⟨rfl, rfl⟩ := sm2E hf
    exact hret _ _ dX12_joinPart_97

def fX12_joinPart_0   (x86 : Nat → Int32) (x91 : Nat → Int32)  (x74 : (Nat → Int32)) (x89 : (Nat → Int32)) : Option ((Nat → Int32) × (Nat → Int32)) := gd (inb 4 5) (bd2 (fX12_amount x91 0 ((x86 (4 : Int32).toNatClampNeg) - 1) x74) fun r_2 x74_3 => (bd1 (fX12_blanks x91 x74_3) fun x74_5 => (bn (x74_5 18) fun t_7 => (gd (inb 4 5) (bd2 (fX12_amount x91 0 ((x86 (4 : Int32).toNatClampNeg) - 1) x74_5) fun r_9 x74_10 => (if (x74_10 19) = 0 then (if r_2 = r_9 then (bd1 (fX12_fails 1 t_7 x74_10) fun x74_12 => (fX12_joinPart_55 x86 x91  r_2 r_9 x74_12 x89)) else (fX12_joinPart_55 x86 x91  r_2 r_9 x74_10 x89)) else (fX12_joinPart_55 x86 x91  r_2 r_9 x74_10 x89)))))))
set_option maxHeartbeats 4000000 in
set_option maxRecDepth 100000 in
theorem wX12_joinPart_0 {l : Launch} {b0 : Nat} {D : GD} {K : KT} {n : Nat} {κ : QT} {X0 : XT} {Y0 : YT} {Z : ZT} (hL : LY n κ) (hN : ([74, 86, 89, 91] : List Nat).Nodup) (hM : ([] : List Nat).Nodup) (hC : gC l b0 D K RX12 cX12_joinPart none 5 4 92 0 0) {x86 : Nat → Int32} {x91 : Nat → Int32} {rx74 : (Nat → Int32)} {rx89 : (Nat → Int32)} (hret : ∀ pc loc, decode cX12_joinPart pc = .ok (.return_, 1) → gV l b0 D K (n, κ, ov X0 [74, 86, 89, 91] [rx74, x86, rx89, x91], ov Y0 [] [], Z, 0, 0) pc loc []) {x74 : (Nat → Int32)} {x89 : (Nat → Int32)} (hf : fX12_joinPart_0 x86 x91  x74 x89 = some (rx74, rx89)) : gV l b0 D K (n, κ, ov X0 [74, 86, 89, 91] [x74, x86, x89, x91], ov Y0 [] [], Z, 0, 0) 0 [(0, .ref (b0 + 74))] [] := by
  unfold fX12_joinPart_0 at hf
  refine g_aload_n hC 0 dX12_joinPart_0 rfl rfl ?_
  refine g_iconst hC (v := 0) dX12_joinPart_1 ic_0 ?_
  refine g_aload_n hC 0 dX12_joinPart_2 rfl rfl ?_
  refine gt_X12_43 hC (a := 74) (kk_74 hL) (kn_74 hL) dX12_joinPart_3 ?_
  refine g_ref (b := 86) rfl ?_
  refine g_iconst hC (v := 4) dX12_joinPart_6 ic_4 ?_
  obtain ⟨h_1, hf⟩ := gdE hf
  refine g_iald hC (x := x86) (kk_86 hL) (kn_86 hL) (ov_get hN 1 rfl rfl) (inb_in h_1) dX12_joinPart_7 ?_
  refine g_iconst hC (v := 1) dX12_joinPart_8 ic_1 ?_
  refine g_isub hC dX12_joinPart_9 ?_
  obtain ⟨r_2, x74_3, q_4, hf⟩ := bd2E hf
  refine g_callV_i (a := 74) hC (X' := ov X0 [74, 86, 89, 91] [x74_3, x86, x89, x91]) (Y' := ov Y0 [] []) (As := [.int 0, .int ((x86 (4 : Int32).toNatClampNeg) - 1)]) (gMi_eq (c_X12_amount l hL (ov_map hN [0, 3] (by rfl) (by rfl)) (ov_map hM [] (by rfl) (by rfl)) q_4) (ov_ovE hN (by rfl) [0, 3] [1, 2] (by rfl) (by rfl) [x86, x89] (by rfl) (by rfl) (by rfl) 4 (by rfl) (by decide)) (ov_ovE hM (by rfl) [] [] (by rfl) (by rfl) [] (by rfl) (by rfl) (by rfl) 0 (by rfl) (by decide))) tw_1414 tw_1411 tw_127 tw_1413 tw_55 (ci := 12) rfl (by decide) (kk_74 hL) (kn_74 hL) pd_X12_amount (by decide) (by decide) rfl rfl (Nat.le_of_ble_eq_true rfl) rfl dX12_joinPart_10 ?_
  refine g_istore_n hC (i := 1) [(1, .int r_2), (0, .ref (b0 + 74))] rfl dX12_joinPart_13 (by decide) rfl ?_
  refine g_aload_n hC 1 dX12_joinPart_14 rfl rfl ?_
  obtain ⟨x74_5, q_6, hf⟩ := bd1E hf
  refine g_callV_v (a := 74) hC (X' := ov X0 [74, 86, 89, 91] [x74_5, x86, x89, x91]) (Y' := ov Y0 [] []) (As := []) (gMv_eq (c_X12_blanks l hL (ov_map hN [0, 3] (by rfl) (by rfl)) (ov_map hM [] (by rfl) (by rfl)) q_6) (ov_ovE hN (by rfl) [0, 3] [1, 2] (by rfl) (by rfl) [x86, x89] (by rfl) (by rfl) (by rfl) 4 (by rfl) (by decide)) (ov_ovE hM (by rfl) [] [] (by rfl) (by rfl) [] (by rfl) (by rfl) (by rfl) 0 (by rfl) (by decide))) tw_1380 tw_1377 tw_127 tw_1379 tw_49 (ci := 12) rfl (by decide) (kk_74 hL) (kn_74 hL) pd_X12_blanks (by decide) (by decide) rfl rfl (Nat.le_of_ble_eq_true rfl) rfl dX12_joinPart_15 ?_
  refine g_aload_n hC 1 dX12_joinPart_18 rfl rfl ?_
  refine gt_X12_183 hC (x := x74_5) (kk_74 hL) (kn_74 hL) (ov_get hN 0 rfl rfl) dX12_joinPart_19 ?_
  obtain ⟨t_7, et_7, hf⟩ := bnE hf
  refine g_topi et_7 ?_
  refine g_istore_n hC (i := 2) [(2, .int t_7), (1, .int r_2), (0, .ref (b0 + 74))] rfl dX12_joinPart_22 (by decide) rfl ?_
  refine g_aload_n hC 2 dX12_joinPart_23 rfl rfl ?_
  refine g_iconst hC (v := 0) dX12_joinPart_24 ic_0 ?_
  refine g_aload_n hC 2 dX12_joinPart_25 rfl rfl ?_
  refine gt_X12_43 hC (a := 74) (kk_74 hL) (kn_74 hL) dX12_joinPart_26 ?_
  refine g_ref (b := 86) rfl ?_
  refine g_iconst hC (v := 4) dX12_joinPart_29 ic_4 ?_
  obtain ⟨h_8, hf⟩ := gdE hf
  refine g_iald hC (x := x86) (kk_86 hL) (kn_86 hL) (ov_get hN 1 rfl rfl) (inb_in h_8) dX12_joinPart_30 ?_
  refine g_iconst hC (v := 1) dX12_joinPart_31 ic_1 ?_
  refine g_isub hC dX12_joinPart_32 ?_
  obtain ⟨r_9, x74_10, q_11, hf⟩ := bd2E hf
  refine g_callV_i (a := 74) hC (X' := ov X0 [74, 86, 89, 91] [x74_10, x86, x89, x91]) (Y' := ov Y0 [] []) (As := [.int 0, .int ((x86 (4 : Int32).toNatClampNeg) - 1)]) (gMi_eq (c_X12_amount l hL (ov_map hN [0, 3] (by rfl) (by rfl)) (ov_map hM [] (by rfl) (by rfl)) q_11) (ov_ovE hN (by rfl) [0, 3] [1, 2] (by rfl) (by rfl) [x86, x89] (by rfl) (by rfl) (by rfl) 4 (by rfl) (by decide)) (ov_ovE hM (by rfl) [] [] (by rfl) (by rfl) [] (by rfl) (by rfl) (by rfl) 0 (by rfl) (by decide))) tw_1414 tw_1411 tw_127 tw_1413 tw_55 (ci := 12) rfl (by decide) (kk_74 hL) (kn_74 hL) pd_X12_amount (by decide) (by decide) rfl rfl (Nat.le_of_ble_eq_true rfl) rfl dX12_joinPart_33 ?_
  refine g_istore_n hC (i := 3) [(3, .int r_9), (2, .int t_7), (1, .int r_2), (0, .ref (b0 + 74))] rfl dX12_joinPart_36 (by decide) rfl ?_
  refine g_aload_n hC 3 dX12_joinPart_37 rfl rfl ?_
  refine gt_X12_180 hC (x := x74_10) (kk_74 hL) (kn_74 hL) (ov_get hN 0 rfl rfl) dX12_joinPart_38 ?_
  refine g_if_ne hC 55 dX12_joinPart_41 (by decide) (fun hc => ?_) (fun hc => ?_)
  · replace hf := ifF hf hc
    exact g_sub [3, 2, 0] rfl (wX12_joinPart_55 hL hN hM hC  hret  hf)
  · replace hf := ifT hf hc
    refine g_iload_n hC 2 dX12_joinPart_44 rfl rfl ?_
    refine g_iload_n hC 0 dX12_joinPart_45 rfl rfl ?_
    refine g_icmp_ne hC 55 dX12_joinPart_46 (by decide) (fun hc => ?_) (fun hc => ?_)
    · replace hf := ifF hf hc
      exact g_sub [3, 2, 0] rfl (wX12_joinPart_55 hL hN hM hC  hret  hf)
    · replace hf := ifT hf hc
      refine g_aload_n hC 3 dX12_joinPart_49 rfl rfl ?_
      refine g_iconst hC (v := 1) dX12_joinPart_50 ic_1 ?_
      refine g_iload_n hC 1 dX12_joinPart_51 rfl rfl ?_
      obtain ⟨x74_12, q_13, hf⟩ := bd1E hf
      refine g_callV_v (a := 74) hC (X' := ov X0 [74, 86, 89, 91] [x74_12, x86, x89, x91]) (Y' := ov Y0 [] []) (As := [.int 1, .int t_7]) (gMv_eq (c_X12_fails l hL (ov_map hN [0] (by rfl) (by rfl)) (ov_map hM [] (by rfl) (by rfl)) q_13) (ov_ovE hN (by rfl) [0] [1, 2, 3] (by rfl) (by rfl) [x86, x89, x91] (by rfl) (by rfl) (by rfl) 4 (by rfl) (by decide)) (ov_ovE hM (by rfl) [] [] (by rfl) (by rfl) [] (by rfl) (by rfl) (by rfl) 0 (by rfl) (by decide))) tw_1402 tw_1399 tw_127 tw_1401 tw_52 (ci := 12) rfl (by decide) (kk_74 hL) (kn_74 hL) pd_X12_fails (by decide) (by decide) rfl rfl (Nat.le_of_ble_eq_true rfl) rfl dX12_joinPart_52 ?_
      exact g_sub [3, 2, 0] rfl (wX12_joinPart_55 hL hN hM hC  hret  hf)

def fX12_joinPart   (x86 : Nat → Int32) (x91 : Nat → Int32)   (x74 : Nat → Int32) (x89 : Nat → Int32)  : Option ((Nat → Int32) × (Nat → Int32)) := fX12_joinPart_0 x86 x91 x74 x89

set_option maxHeartbeats 4000000 in
set_option maxRecDepth 100000 in
theorem c_X12_joinPart (l : Launch) {b0 : Nat} {D : GD} {n : Nat} {κ : QT} {X0 : XT} {Y0 : YT} {Z : ZT} (hL : LY n κ) {x74 : Nat → Int32} {x86 : Nat → Int32} {x89 : Nat → Int32} {x91 : Nat → Int32} (hx : ([74, 86, 89, 91] : List Nat).map X0 = [x74, x86, x89, x91]) (hy : ([] : List Nat).map Y0 = []) {rx74 : (Nat → Int32)} {rx89 : (Nat → Int32)} (hf : fX12_joinPart x86 x91 x74 x89 = some (rx74, rx89)) : gMv l yX12_joinPart cX12_joinPart 5 none 4 92 0 0 b0 D [.ref (b0 + 74)] (n, κ, X0, Y0, Z) (n, κ, ov X0 [74, 86, 89, 91] [rx74, x86, rx89, x91], ov Y0 [] [], Z) := by
  have hN : ([74, 86, 89, 91] : List Nat).Nodup := by decide
  have hM : ([] : List Nat).Nodup := by decide
  refine g_metv (own := RX12) (by decide) rfl rfl (Nat.le_of_ble_eq_true rfl) ?_
  intro K hC hret
  have e := wX12_joinPart_0 hL hN hM hC  hret hf
  rw [ov_id' hx, ov_id' hy] at e
  exact g_sub [0] rfl e

-- X12_townPart
def fX12_townPart_0   (x91 : Nat → Int32)  (v1 : Int32) (x74 : (Nat → Int32)) (x86 : (Nat → Int32)) (x87 : (Nat → Int32)) (x88 : (Nat → Int32)) (x89 : (Nat → Int32)) (x90 : (Nat → Int32)) : Option ((Nat → Int32) × (Nat → Int32) × (Nat → Int32) × (Nat → Int32) × (Nat → Int32) × (Nat → Int32)) := if v1.toInt = 0 then (bd2 (fX12_amount x91 5 60 x74) fun r_2 x74_3 => (gd (inb 0 5) (bd2 (fX12_amount x91 0 99 x74_3) fun r_6 x74_7 => (gd (inb 1 5) (bd2 (fX12_amount x91 0 9 x74_7) fun r_10 x74_11 => (gd (inb 2 5) (some (x74_11, (upd (upd (upd x86 (0 : Int32).toNatClampNeg r_2) (1 : Int32).toNatClampNeg r_6) (2 : Int32).toNatClampNeg r_10), x87, x88, x89, x90)))))))) else (if v1.toInt = 1 then (gd (inb 3 5) (bd2 (fX12_amount x91 0 9 x74) fun r_16 x74_17 => (gd (inb (x86 (3 : Int32).toNatClampNeg) 12) (gd (inb 3 5) (gd (inb 3 5) (some (x74_17, (upd x86 (3 : Int32).toNatClampNeg ((x86 (3 : Int32).toNatClampNeg) + 1)), x87, x88, x89, (upd x90 (x86 (3 : Int32).toNatClampNeg).toNatClampNeg r_16)))))))) else (if v1.toInt = 2 then (gd (inb 4 5) (gd (inb 0 5) (bd2 (fX12_amount x91 0 ((x86 (0 : Int32).toNatClampNeg) - 1) x74) fun r_25 x74_26 => (gd (inb (x86 (4 : Int32).toNatClampNeg) 6) (gd (inb 4 5) (gd (inb 4 5) (some (x74_26, (upd x86 (4 : Int32).toNatClampNeg ((x86 (4 : Int32).toNatClampNeg) + 1)), (upd x87 (x86 (4 : Int32).toNatClampNeg).toNatClampNeg r_25), x88, x89, x90)))))))) else (if v1.toInt = 3 then (bd2 (fX12_joinPart x86 x91 x74 x89) fun x74_32 x89_33 => (some (x74_32, x86, x87, x88, x89_33, x90))) else (gd (inb 4 5) (bd2 (fX12_amount x91 0 ((x86 (4 : Int32).toNatClampNeg) - 1) x74) fun r_36 x74_37 => (bd2 (fX12_amount x91 1 9 x74_37) fun r_39 x74_40 => (if (x74_40 19) = 0 then (gd (inb r_36 6) (some (x74_40, x86, x87, (upd x88 r_36.toNatClampNeg r_39), x89, x90))) else (some (x74_40, x86, x87, x88, x89, x90)))))))))
set_option maxHeartbeats 4000000 in
set_option maxRecDepth 100000 in
theorem wX12_townPart_0 {l : Launch} {b0 : Nat} {D : GD} {K : KT} {n : Nat} {κ : QT} {X0 : XT} {Y0 : YT} {Z : ZT} (hL : LY n κ) (hN : ([74, 86, 87, 88, 89, 90, 91] : List Nat).Nodup) (hM : ([] : List Nat).Nodup) (hC : gC l b0 D K RX12 cX12_townPart none 4 5 116 0 0) {x91 : Nat → Int32} {rx74 : (Nat → Int32)} {rx86 : (Nat → Int32)} {rx87 : (Nat → Int32)} {rx88 : (Nat → Int32)} {rx89 : (Nat → Int32)} {rx90 : (Nat → Int32)} (hret : ∀ pc loc, decode cX12_townPart pc = .ok (.return_, 1) → gV l b0 D K (n, κ, ov X0 [74, 86, 87, 88, 89, 90, 91] [rx74, rx86, rx87, rx88, rx89, rx90, x91], ov Y0 [] [], Z, 0, 0) pc loc []) {v1 : Int32} {x74 : (Nat → Int32)} {x86 : (Nat → Int32)} {x87 : (Nat → Int32)} {x88 : (Nat → Int32)} {x89 : (Nat → Int32)} {x90 : (Nat → Int32)} (hf : fX12_townPart_0 x91  v1 x74 x86 x87 x88 x89 x90 = some (rx74, rx86, rx87, rx88, rx89, rx90)) : gV l b0 D K (n, κ, ov X0 [74, 86, 87, 88, 89, 90, 91] [x74, x86, x87, x88, x89, x90, x91], ov Y0 [] [], Z, 0, 0) 0 [(0, .ref (b0 + 74)), (1, .int v1)] [] := by
  unfold fX12_townPart_0 at hf
  refine g_iload_n hC 1 dX12_townPart_0 rfl rfl ?_
  by_cases c_1 : v1.toInt = 0
  · replace hf := ifT hf c_1
    refine g_tabIn hC 32 dX12_townPart_1 (by omega) (by omega) (by rw [c_1]; rfl) (by decide) ?_
    refine g_aload_n hC 0 dX12_townPart_32 rfl rfl ?_
    refine gt_X12_43 hC (a := 74) (kk_74 hL) (kn_74 hL) dX12_townPart_33 ?_
    refine g_ref (b := 86) rfl ?_
    refine g_iconst hC (v := 0) dX12_townPart_36 ic_0 ?_
    refine g_aload_n hC 0 dX12_townPart_37 rfl rfl ?_
    refine g_iconst hC (v := 5) dX12_townPart_38 ic_5 ?_
    refine g_bipush hC (v := 60) dX12_townPart_39 bp_60 ?_
    obtain ⟨r_2, x74_3, q_4, hf⟩ := bd2E hf
    refine g_callV_i (a := 74) hC (X' := ov X0 [74, 86, 87, 88, 89, 90, 91] [x74_3, x86, x87, x88, x89, x90, x91]) (Y' := ov Y0 [] []) (As := [.int 5, .int 60]) (gMi_eq (c_X12_amount l hL (ov_map hN [0, 6] (by rfl) (by rfl)) (ov_map hM [] (by rfl) (by rfl)) q_4) (ov_ovE hN (by rfl) [0, 6] [1, 2, 3, 4, 5] (by rfl) (by rfl) [x86, x87, x88, x89, x90] (by rfl) (by rfl) (by rfl) 7 (by rfl) (by decide)) (ov_ovE hM (by rfl) [] [] (by rfl) (by rfl) [] (by rfl) (by rfl) (by rfl) 0 (by rfl) (by decide))) tw_1414 tw_1411 tw_127 tw_1413 tw_55 (ci := 12) rfl (by decide) (kk_74 hL) (kn_74 hL) pd_X12_amount (by decide) (by decide) rfl rfl (Nat.le_of_ble_eq_true rfl) rfl dX12_townPart_41 ?_
    obtain ⟨h_5, hf⟩ := gdE hf
    refine g_iast hC (x := x86) (kk_86 hL) (kn_86 hL) (ov_get hN 1 rfl rfl) (inb_in h_5) (ov_set hN (by rfl) 1 (by rfl)) dX12_townPart_44 ?_
    show gV l b0 D K (n, κ, ov X0 [74, 86, 87, 88, 89, 90, 91] [x74_3, (upd x86 (0 : Int32).toNatClampNeg r_2), x87, x88, x89, x90, x91], ov Y0 [] [], Z, 0, 0) 45 [(0, .ref (b0 + 74)), (1, .int v1)] []
    refine g_aload_n hC 0 dX12_townPart_45 rfl rfl ?_
    refine gt_X12_43 hC (a := 74) (kk_74 hL) (kn_74 hL) dX12_townPart_46 ?_
    refine g_ref (b := 86) rfl ?_
    refine g_iconst hC (v := 1) dX12_townPart_49 ic_1 ?_
    refine g_aload_n hC 0 dX12_townPart_50 rfl rfl ?_
    refine g_iconst hC (v := 0) dX12_townPart_51 ic_0 ?_
    refine g_bipush hC (v := 99) dX12_townPart_52 bp_99 ?_
    obtain ⟨r_6, x74_7, q_8, hf⟩ := bd2E hf
    refine g_callV_i (a := 74) hC (X' := ov X0 [74, 86, 87, 88, 89, 90, 91] [x74_7, (upd x86 (0 : Int32).toNatClampNeg r_2), x87, x88, x89, x90, x91]) (Y' := ov Y0 [] []) (As := [.int 0, .int 99]) (gMi_eq (c_X12_amount l hL (ov_map hN [0, 6] (by rfl) (by rfl)) (ov_map hM [] (by rfl) (by rfl)) q_8) (ov_ovE hN (by rfl) [0, 6] [1, 2, 3, 4, 5] (by rfl) (by rfl) [(upd x86 (0 : Int32).toNatClampNeg r_2), x87, x88, x89, x90] (by rfl) (by rfl) (by rfl) 7 (by rfl) (by decide)) (ov_ovE hM (by rfl) [] [] (by rfl) (by rfl) [] (by rfl) (by rfl) (by rfl) 0 (by rfl) (by decide))) tw_1414 tw_1411 tw_127 tw_1413 tw_55 (ci := 12) rfl (by decide) (kk_74 hL) (kn_74 hL) pd_X12_amount (by decide) (by decide) rfl rfl (Nat.le_of_ble_eq_true rfl) rfl dX12_townPart_54 ?_
    obtain ⟨h_9, hf⟩ := gdE hf
    refine g_iast hC (x := (upd x86 (0 : Int32).toNatClampNeg r_2)) (kk_86 hL) (kn_86 hL) (ov_get hN 1 rfl rfl) (inb_in h_9) (ov_set hN (by rfl) 1 (by rfl)) dX12_townPart_57 ?_
    show gV l b0 D K (n, κ, ov X0 [74, 86, 87, 88, 89, 90, 91] [x74_7, (upd (upd x86 (0 : Int32).toNatClampNeg r_2) (1 : Int32).toNatClampNeg r_6), x87, x88, x89, x90, x91], ov Y0 [] [], Z, 0, 0) 58 [(0, .ref (b0 + 74)), (1, .int v1)] []
    refine g_aload_n hC 0 dX12_townPart_58 rfl rfl ?_
    refine gt_X12_43 hC (a := 74) (kk_74 hL) (kn_74 hL) dX12_townPart_59 ?_
    refine g_ref (b := 86) rfl ?_
    refine g_iconst hC (v := 2) dX12_townPart_62 ic_2 ?_
    refine g_aload_n hC 0 dX12_townPart_63 rfl rfl ?_
    refine g_iconst hC (v := 0) dX12_townPart_64 ic_0 ?_
    refine g_bipush hC (v := 9) dX12_townPart_65 bp_9 ?_
    obtain ⟨r_10, x74_11, q_12, hf⟩ := bd2E hf
    refine g_callV_i (a := 74) hC (X' := ov X0 [74, 86, 87, 88, 89, 90, 91] [x74_11, (upd (upd x86 (0 : Int32).toNatClampNeg r_2) (1 : Int32).toNatClampNeg r_6), x87, x88, x89, x90, x91]) (Y' := ov Y0 [] []) (As := [.int 0, .int 9]) (gMi_eq (c_X12_amount l hL (ov_map hN [0, 6] (by rfl) (by rfl)) (ov_map hM [] (by rfl) (by rfl)) q_12) (ov_ovE hN (by rfl) [0, 6] [1, 2, 3, 4, 5] (by rfl) (by rfl) [(upd (upd x86 (0 : Int32).toNatClampNeg r_2) (1 : Int32).toNatClampNeg r_6), x87, x88, x89, x90] (by rfl) (by rfl) (by rfl) 7 (by rfl) (by decide)) (ov_ovE hM (by rfl) [] [] (by rfl) (by rfl) [] (by rfl) (by rfl) (by rfl) 0 (by rfl) (by decide))) tw_1414 tw_1411 tw_127 tw_1413 tw_55 (ci := 12) rfl (by decide) (kk_74 hL) (kn_74 hL) pd_X12_amount (by decide) (by decide) rfl rfl (Nat.le_of_ble_eq_true rfl) rfl dX12_townPart_67 ?_
    obtain ⟨h_13, hf⟩ := gdE hf
    refine g_iast hC (x := (upd (upd x86 (0 : Int32).toNatClampNeg r_2) (1 : Int32).toNatClampNeg r_6)) (kk_86 hL) (kn_86 hL) (ov_get hN 1 rfl rfl) (inb_in h_13) (ov_set hN (by rfl) 1 (by rfl)) dX12_townPart_70 ?_
    show gV l b0 D K (n, κ, ov X0 [74, 86, 87, 88, 89, 90, 91] [x74_11, (upd (upd (upd x86 (0 : Int32).toNatClampNeg r_2) (1 : Int32).toNatClampNeg r_6) (2 : Int32).toNatClampNeg r_10), x87, x88, x89, x90, x91], ov Y0 [] [], Z, 0, 0) 71 [(0, .ref (b0 + 74)), (1, .int v1)] []
    refine g_goto hC 185 dX12_townPart_71 (by decide) ?_
    obtain ⟨rfl, rfl, rfl, rfl, rfl, rfl⟩ := sm6E hf
    exact hret _ _ dX12_townPart_185
  replace hf := ifF hf c_1
  by_cases c_14 : v1.toInt = 1
  · replace hf := ifT hf c_14
    refine g_tabIn hC 74 dX12_townPart_1 (by omega) (by omega) (by rw [c_14]; rfl) (by decide) ?_
    refine g_aload_n hC 0 dX12_townPart_74 rfl rfl ?_
    refine gt_X12_55 hC (a := 74) (kk_74 hL) (kn_74 hL) dX12_townPart_75 ?_
    refine g_ref (b := 90) rfl ?_
    refine g_aload_n hC 0 dX12_townPart_78 rfl rfl ?_
    refine gt_X12_43 hC (a := 74) (kk_74 hL) (kn_74 hL) dX12_townPart_79 ?_
    refine g_ref (b := 86) rfl ?_
    refine g_iconst hC (v := 3) dX12_townPart_82 ic_3 ?_
    obtain ⟨h_15, hf⟩ := gdE hf
    refine g_iald hC (x := x86) (kk_86 hL) (kn_86 hL) (ov_get hN 1 rfl rfl) (inb_in h_15) dX12_townPart_83 ?_
    refine g_aload_n hC 0 dX12_townPart_84 rfl rfl ?_
    refine g_iconst hC (v := 0) dX12_townPart_85 ic_0 ?_
    refine g_bipush hC (v := 9) dX12_townPart_86 bp_9 ?_
    obtain ⟨r_16, x74_17, q_18, hf⟩ := bd2E hf
    refine g_callV_i (a := 74) hC (X' := ov X0 [74, 86, 87, 88, 89, 90, 91] [x74_17, x86, x87, x88, x89, x90, x91]) (Y' := ov Y0 [] []) (As := [.int 0, .int 9]) (gMi_eq (c_X12_amount l hL (ov_map hN [0, 6] (by rfl) (by rfl)) (ov_map hM [] (by rfl) (by rfl)) q_18) (ov_ovE hN (by rfl) [0, 6] [1, 2, 3, 4, 5] (by rfl) (by rfl) [x86, x87, x88, x89, x90] (by rfl) (by rfl) (by rfl) 7 (by rfl) (by decide)) (ov_ovE hM (by rfl) [] [] (by rfl) (by rfl) [] (by rfl) (by rfl) (by rfl) 0 (by rfl) (by decide))) tw_1414 tw_1411 tw_127 tw_1413 tw_55 (ci := 12) rfl (by decide) (kk_74 hL) (kn_74 hL) pd_X12_amount (by decide) (by decide) rfl rfl (Nat.le_of_ble_eq_true rfl) rfl dX12_townPart_88 ?_
    obtain ⟨h_19, hf⟩ := gdE hf
    refine g_iast hC (x := x90) (kk_90 hL) (kn_90 hL) (ov_get hN 5 rfl rfl) (inb_in h_19) (ov_set hN (by rfl) 5 (by rfl)) dX12_townPart_91 ?_
    show gV l b0 D K (n, κ, ov X0 [74, 86, 87, 88, 89, 90, 91] [x74_17, x86, x87, x88, x89, (upd x90 (x86 (3 : Int32).toNatClampNeg).toNatClampNeg r_16), x91], ov Y0 [] [], Z, 0, 0) 92 [(0, .ref (b0 + 74)), (1, .int v1)] []
    refine g_aload_n hC 0 dX12_townPart_92 rfl rfl ?_
    refine gt_X12_43 hC (a := 74) (kk_74 hL) (kn_74 hL) dX12_townPart_93 ?_
    refine g_ref (b := 86) rfl ?_
    refine g_iconst hC (v := 3) dX12_townPart_96 ic_3 ?_
    refine g_dup2 hC dX12_townPart_97 rfl rfl ?_
    obtain ⟨h_20, hf⟩ := gdE hf
    refine g_iald hC (x := x86) (kk_86 hL) (kn_86 hL) (ov_get hN 1 rfl rfl) (inb_in h_20) dX12_townPart_98 ?_
    refine g_iconst hC (v := 1) dX12_townPart_99 ic_1 ?_
    refine g_iadd hC dX12_townPart_100 ?_
    obtain ⟨h_21, hf⟩ := gdE hf
    refine g_iast hC (x := x86) (kk_86 hL) (kn_86 hL) (ov_get hN 1 rfl rfl) (inb_in h_21) (ov_set hN (by rfl) 1 (by rfl)) dX12_townPart_101 ?_
    show gV l b0 D K (n, κ, ov X0 [74, 86, 87, 88, 89, 90, 91] [x74_17, (upd x86 (3 : Int32).toNatClampNeg ((x86 (3 : Int32).toNatClampNeg) + 1)), x87, x88, x89, (upd x90 (x86 (3 : Int32).toNatClampNeg).toNatClampNeg r_16), x91], ov Y0 [] [], Z, 0, 0) 102 [(0, .ref (b0 + 74)), (1, .int v1)] []
    refine g_goto hC 185 dX12_townPart_102 (by decide) ?_
    obtain ⟨rfl, rfl, rfl, rfl, rfl, rfl⟩ := sm6E hf
    exact hret _ _ dX12_townPart_185
  replace hf := ifF hf c_14
  by_cases c_22 : v1.toInt = 2
  · replace hf := ifT hf c_22
    refine g_tabIn hC 105 dX12_townPart_1 (by omega) (by omega) (by rw [c_22]; rfl) (by decide) ?_
    refine g_aload_n hC 0 dX12_townPart_105 rfl rfl ?_
    refine gt_X12_46 hC (a := 74) (kk_74 hL) (kn_74 hL) dX12_townPart_106 ?_
    refine g_ref (b := 87) rfl ?_
    refine g_aload_n hC 0 dX12_townPart_109 rfl rfl ?_
    refine gt_X12_43 hC (a := 74) (kk_74 hL) (kn_74 hL) dX12_townPart_110 ?_
    refine g_ref (b := 86) rfl ?_
    refine g_iconst hC (v := 4) dX12_townPart_113 ic_4 ?_
    obtain ⟨h_23, hf⟩ := gdE hf
    refine g_iald hC (x := x86) (kk_86 hL) (kn_86 hL) (ov_get hN 1 rfl rfl) (inb_in h_23) dX12_townPart_114 ?_
    refine g_aload_n hC 0 dX12_townPart_115 rfl rfl ?_
    refine g_iconst hC (v := 0) dX12_townPart_116 ic_0 ?_
    refine g_aload_n hC 0 dX12_townPart_117 rfl rfl ?_
    refine gt_X12_43 hC (a := 74) (kk_74 hL) (kn_74 hL) dX12_townPart_118 ?_
    refine g_ref (b := 86) rfl ?_
    refine g_iconst hC (v := 0) dX12_townPart_121 ic_0 ?_
    obtain ⟨h_24, hf⟩ := gdE hf
    refine g_iald hC (x := x86) (kk_86 hL) (kn_86 hL) (ov_get hN 1 rfl rfl) (inb_in h_24) dX12_townPart_122 ?_
    refine g_iconst hC (v := 1) dX12_townPart_123 ic_1 ?_
    refine g_isub hC dX12_townPart_124 ?_
    obtain ⟨r_25, x74_26, q_27, hf⟩ := bd2E hf
    refine g_callV_i (a := 74) hC (X' := ov X0 [74, 86, 87, 88, 89, 90, 91] [x74_26, x86, x87, x88, x89, x90, x91]) (Y' := ov Y0 [] []) (As := [.int 0, .int ((x86 (0 : Int32).toNatClampNeg) - 1)]) (gMi_eq (c_X12_amount l hL (ov_map hN [0, 6] (by rfl) (by rfl)) (ov_map hM [] (by rfl) (by rfl)) q_27) (ov_ovE hN (by rfl) [0, 6] [1, 2, 3, 4, 5] (by rfl) (by rfl) [x86, x87, x88, x89, x90] (by rfl) (by rfl) (by rfl) 7 (by rfl) (by decide)) (ov_ovE hM (by rfl) [] [] (by rfl) (by rfl) [] (by rfl) (by rfl) (by rfl) 0 (by rfl) (by decide))) tw_1414 tw_1411 tw_127 tw_1413 tw_55 (ci := 12) rfl (by decide) (kk_74 hL) (kn_74 hL) pd_X12_amount (by decide) (by decide) rfl rfl (Nat.le_of_ble_eq_true rfl) rfl dX12_townPart_125 ?_
    obtain ⟨h_28, hf⟩ := gdE hf
    refine g_iast hC (x := x87) (kk_87 hL) (kn_87 hL) (ov_get hN 2 rfl rfl) (inb_in h_28) (ov_set hN (by rfl) 2 (by rfl)) dX12_townPart_128 ?_
    show gV l b0 D K (n, κ, ov X0 [74, 86, 87, 88, 89, 90, 91] [x74_26, x86, (upd x87 (x86 (4 : Int32).toNatClampNeg).toNatClampNeg r_25), x88, x89, x90, x91], ov Y0 [] [], Z, 0, 0) 129 [(0, .ref (b0 + 74)), (1, .int v1)] []
    refine g_aload_n hC 0 dX12_townPart_129 rfl rfl ?_
    refine gt_X12_43 hC (a := 74) (kk_74 hL) (kn_74 hL) dX12_townPart_130 ?_
    refine g_ref (b := 86) rfl ?_
    refine g_iconst hC (v := 4) dX12_townPart_133 ic_4 ?_
    refine g_dup2 hC dX12_townPart_134 rfl rfl ?_
    obtain ⟨h_29, hf⟩ := gdE hf
    refine g_iald hC (x := x86) (kk_86 hL) (kn_86 hL) (ov_get hN 1 rfl rfl) (inb_in h_29) dX12_townPart_135 ?_
    refine g_iconst hC (v := 1) dX12_townPart_136 ic_1 ?_
    refine g_iadd hC dX12_townPart_137 ?_
    obtain ⟨h_30, hf⟩ := gdE hf
    refine g_iast hC (x := x86) (kk_86 hL) (kn_86 hL) (ov_get hN 1 rfl rfl) (inb_in h_30) (ov_set hN (by rfl) 1 (by rfl)) dX12_townPart_138 ?_
    show gV l b0 D K (n, κ, ov X0 [74, 86, 87, 88, 89, 90, 91] [x74_26, (upd x86 (4 : Int32).toNatClampNeg ((x86 (4 : Int32).toNatClampNeg) + 1)), (upd x87 (x86 (4 : Int32).toNatClampNeg).toNatClampNeg r_25), x88, x89, x90, x91], ov Y0 [] [], Z, 0, 0) 139 [(0, .ref (b0 + 74)), (1, .int v1)] []
    refine g_goto hC 185 dX12_townPart_139 (by decide) ?_
    obtain ⟨rfl, rfl, rfl, rfl, rfl, rfl⟩ := sm6E hf
    exact hret _ _ dX12_townPart_185
  replace hf := ifF hf c_22
  by_cases c_31 : v1.toInt = 3
  · replace hf := ifT hf c_31
    refine g_tabIn hC 142 dX12_townPart_1 (by omega) (by omega) (by rw [c_31]; rfl) (by decide) ?_
    refine g_aload_n hC 0 dX12_townPart_142 rfl rfl ?_
    obtain ⟨x74_32, x89_33, q_34, hf⟩ := bd2E hf
    refine g_callV_v (a := 74) hC (X' := ov X0 [74, 86, 87, 88, 89, 90, 91] [x74_32, x86, x87, x88, x89_33, x90, x91]) (Y' := ov Y0 [] []) (As := []) (gMv_eq (c_X12_joinPart l hL (ov_map hN [0, 1, 4, 6] (by rfl) (by rfl)) (ov_map hM [] (by rfl) (by rfl)) q_34) (ov_ovE hN (by rfl) [0, 1, 4, 6] [2, 3, 5] (by rfl) (by rfl) [x87, x88, x90] (by rfl) (by rfl) (by rfl) 7 (by rfl) (by decide)) (ov_ovE hM (by rfl) [] [] (by rfl) (by rfl) [] (by rfl) (by rfl) (by rfl) 0 (by rfl) (by decide))) tw_1432 tw_1429 tw_127 tw_1431 tw_58 (ci := 12) rfl (by decide) (kk_74 hL) (kn_74 hL) pd_X12_joinPart (by decide) (by decide) rfl rfl (Nat.le_of_ble_eq_true rfl) rfl dX12_townPart_143 ?_
    refine g_goto hC 185 dX12_townPart_146 (by decide) ?_
    obtain ⟨rfl, rfl, rfl, rfl, rfl, rfl⟩ := sm6E hf
    exact hret _ _ dX12_townPart_185
  replace hf := ifF hf c_31
  refine g_tabOut hC 149 dX12_townPart_1 (by omega) (by decide) ?_
  refine g_aload_n hC 0 dX12_townPart_149 rfl rfl ?_
  refine g_iconst hC (v := 0) dX12_townPart_150 ic_0 ?_
  refine g_aload_n hC 0 dX12_townPart_151 rfl rfl ?_
  refine gt_X12_43 hC (a := 74) (kk_74 hL) (kn_74 hL) dX12_townPart_152 ?_
  refine g_ref (b := 86) rfl ?_
  refine g_iconst hC (v := 4) dX12_townPart_155 ic_4 ?_
  obtain ⟨h_35, hf⟩ := gdE hf
  refine g_iald hC (x := x86) (kk_86 hL) (kn_86 hL) (ov_get hN 1 rfl rfl) (inb_in h_35) dX12_townPart_156 ?_
  refine g_iconst hC (v := 1) dX12_townPart_157 ic_1 ?_
  refine g_isub hC dX12_townPart_158 ?_
  obtain ⟨r_36, x74_37, q_38, hf⟩ := bd2E hf
  refine g_callV_i (a := 74) hC (X' := ov X0 [74, 86, 87, 88, 89, 90, 91] [x74_37, x86, x87, x88, x89, x90, x91]) (Y' := ov Y0 [] []) (As := [.int 0, .int ((x86 (4 : Int32).toNatClampNeg) - 1)]) (gMi_eq (c_X12_amount l hL (ov_map hN [0, 6] (by rfl) (by rfl)) (ov_map hM [] (by rfl) (by rfl)) q_38) (ov_ovE hN (by rfl) [0, 6] [1, 2, 3, 4, 5] (by rfl) (by rfl) [x86, x87, x88, x89, x90] (by rfl) (by rfl) (by rfl) 7 (by rfl) (by decide)) (ov_ovE hM (by rfl) [] [] (by rfl) (by rfl) [] (by rfl) (by rfl) (by rfl) 0 (by rfl) (by decide))) tw_1414 tw_1411 tw_127 tw_1413 tw_55 (ci := 12) rfl (by decide) (kk_74 hL) (kn_74 hL) pd_X12_amount (by decide) (by decide) rfl rfl (Nat.le_of_ble_eq_true rfl) rfl dX12_townPart_159 ?_
  refine g_istore_n hC (i := 2) [(2, .int r_36), (0, .ref (b0 + 74)), (1, .int v1)] rfl dX12_townPart_162 (by decide) rfl ?_
  refine g_aload_n hC 1 dX12_townPart_163 rfl rfl ?_
  refine g_iconst hC (v := 1) dX12_townPart_164 ic_1 ?_
  refine g_bipush hC (v := 9) dX12_townPart_165 bp_9 ?_
  obtain ⟨r_39, x74_40, q_41, hf⟩ := bd2E hf
  refine g_callV_i (a := 74) hC (X' := ov X0 [74, 86, 87, 88, 89, 90, 91] [x74_40, x86, x87, x88, x89, x90, x91]) (Y' := ov Y0 [] []) (As := [.int 1, .int 9]) (gMi_eq (c_X12_amount l hL (ov_map hN [0, 6] (by rfl) (by rfl)) (ov_map hM [] (by rfl) (by rfl)) q_41) (ov_ovE hN (by rfl) [0, 6] [1, 2, 3, 4, 5] (by rfl) (by rfl) [x86, x87, x88, x89, x90] (by rfl) (by rfl) (by rfl) 7 (by rfl) (by decide)) (ov_ovE hM (by rfl) [] [] (by rfl) (by rfl) [] (by rfl) (by rfl) (by rfl) 0 (by rfl) (by decide))) tw_1414 tw_1411 tw_127 tw_1413 tw_55 (ci := 12) rfl (by decide) (kk_74 hL) (kn_74 hL) pd_X12_amount (by decide) (by decide) rfl rfl (Nat.le_of_ble_eq_true rfl) rfl dX12_townPart_167 ?_
  refine g_istore_n hC (i := 3) [(3, .int r_39), (2, .int r_36), (0, .ref (b0 + 74)), (1, .int v1)] rfl dX12_townPart_170 (by decide) rfl ?_
  refine g_aload_n hC 2 dX12_townPart_171 rfl rfl ?_
  refine gt_X12_180 hC (x := x74_40) (kk_74 hL) (kn_74 hL) (ov_get hN 0 rfl rfl) dX12_townPart_172 ?_
  refine g_if_ne hC 185 dX12_townPart_175 (by decide) (fun hc => ?_) (fun hc => ?_)
  · replace hf := ifF hf hc
    obtain ⟨rfl, rfl, rfl, rfl, rfl, rfl⟩ := sm6E hf
    exact hret _ _ dX12_townPart_185
  · replace hf := ifT hf hc
    refine g_aload_n hC 2 dX12_townPart_178 rfl rfl ?_
    refine gt_X12_49 hC (a := 74) (kk_74 hL) (kn_74 hL) dX12_townPart_179 ?_
    refine g_ref (b := 88) rfl ?_
    refine g_iload_n hC 1 dX12_townPart_182 rfl rfl ?_
    refine g_iload_n hC 0 dX12_townPart_183 rfl rfl ?_
    obtain ⟨h_42, hf⟩ := gdE hf
    refine g_iast hC (x := x88) (kk_88 hL) (kn_88 hL) (ov_get hN 3 rfl rfl) (inb_in h_42) (ov_set hN (by rfl) 3 (by rfl)) dX12_townPart_184 ?_
    show gV l b0 D K (n, κ, ov X0 [74, 86, 87, 88, 89, 90, 91] [x74_40, x86, x87, (upd x88 r_36.toNatClampNeg r_39), x89, x90, x91], ov Y0 [] [], Z, 0, 0) 185 [(3, .int r_39), (2, .int r_36), (0, .ref (b0 + 74)), (1, .int v1)] []
    obtain ⟨rfl, rfl, rfl, rfl, rfl, rfl⟩ := sm6E hf
    exact hret _ _ dX12_townPart_185

def fX12_townPart   (x91 : Nat → Int32)  (v1 : Int32) (x74 : Nat → Int32) (x86 : Nat → Int32) (x87 : Nat → Int32) (x88 : Nat → Int32) (x89 : Nat → Int32) (x90 : Nat → Int32)  : Option ((Nat → Int32) × (Nat → Int32) × (Nat → Int32) × (Nat → Int32) × (Nat → Int32) × (Nat → Int32)) := fX12_townPart_0 x91 v1 x74 x86 x87 x88 x89 x90

set_option maxHeartbeats 4000000 in
set_option maxRecDepth 100000 in
theorem c_X12_townPart (l : Launch) {b0 : Nat} {D : GD} {n : Nat} {κ : QT} {X0 : XT} {Y0 : YT} {Z : ZT} (hL : LY n κ) {x74 : Nat → Int32} {x86 : Nat → Int32} {x87 : Nat → Int32} {x88 : Nat → Int32} {x89 : Nat → Int32} {x90 : Nat → Int32} {x91 : Nat → Int32} (hx : ([74, 86, 87, 88, 89, 90, 91] : List Nat).map X0 = [x74, x86, x87, x88, x89, x90, x91]) (hy : ([] : List Nat).map Y0 = []) {v1 : Int32} {rx74 : (Nat → Int32)} {rx86 : (Nat → Int32)} {rx87 : (Nat → Int32)} {rx88 : (Nat → Int32)} {rx89 : (Nat → Int32)} {rx90 : (Nat → Int32)} (hf : fX12_townPart x91 v1 x74 x86 x87 x88 x89 x90 = some (rx74, rx86, rx87, rx88, rx89, rx90)) : gMv l yX12_townPart cX12_townPart 4 none 5 116 0 0 b0 D [.ref (b0 + 74), .int v1] (n, κ, X0, Y0, Z) (n, κ, ov X0 [74, 86, 87, 88, 89, 90, 91] [rx74, rx86, rx87, rx88, rx89, rx90, x91], ov Y0 [] [], Z) := by
  have hN : ([74, 86, 87, 88, 89, 90, 91] : List Nat).Nodup := by decide
  have hM : ([] : List Nat).Nodup := by decide
  refine g_metv (own := RX12) (by decide) rfl rfl (Nat.le_of_ble_eq_true rfl) ?_
  intro K hC hret
  have e := wX12_townPart_0 hL hN hM hC  hret hf
  rw [ov_id' hx, ov_id' hy] at e
  exact g_sub [0, 1] rfl e

-- X12_isFull
def fX12_isFull_61   (x86 : Nat → Int32)   : Option (Int32) := some 1
set_option maxHeartbeats 4000000 in
set_option maxRecDepth 100000 in
theorem wX12_isFull_61 {l : Launch} {b0 : Nat} {D : GD} {K : KT} {n : Nat} {κ : QT} {X0 : XT} {Y0 : YT} {Z : ZT} (hL : LY n κ) (hN : ([86] : List Nat).Nodup) (hM : ([] : List Nat).Nodup) (hC : gC l b0 D K RX12 cX12_isFull (some FieldType.boolean) 3 0 0 0 0) {x86 : Nat → Int32} {r : Int32} (hret : ∀ pc loc, narrow .boolean (.int r) = .int r → decode cX12_isFull pc = .ok (.ireturn, 1) → gV l b0 D K (n, κ, ov X0 [86] [x86], ov Y0 [] [], Z, 0, 0) pc loc [.int r])  (hf : fX12_isFull_61 x86   = some r) : gV l b0 D K (n, κ, ov X0 [86] [x86], ov Y0 [] [], Z, 0, 0) 61 [] [] := by
  unfold fX12_isFull_61 at hf
  refine g_iconst hC (v := 1) dX12_isFull_61 ic_1 ?_
  refine g_goto hC 66 dX12_isFull_62 (by decide) ?_
  obtain rfl := sm1E hf
  exact hret _ _ rfl dX12_isFull_66

def fX12_isFull_65   (x86 : Nat → Int32)   : Option (Int32) := some 0
set_option maxHeartbeats 4000000 in
set_option maxRecDepth 100000 in
theorem wX12_isFull_65 {l : Launch} {b0 : Nat} {D : GD} {K : KT} {n : Nat} {κ : QT} {X0 : XT} {Y0 : YT} {Z : ZT} (hL : LY n κ) (hN : ([86] : List Nat).Nodup) (hM : ([] : List Nat).Nodup) (hC : gC l b0 D K RX12 cX12_isFull (some FieldType.boolean) 3 0 0 0 0) {x86 : Nat → Int32} {r : Int32} (hret : ∀ pc loc, narrow .boolean (.int r) = .int r → decode cX12_isFull pc = .ok (.ireturn, 1) → gV l b0 D K (n, κ, ov X0 [86] [x86], ov Y0 [] [], Z, 0, 0) pc loc [.int r])  (hf : fX12_isFull_65 x86   = some r) : gV l b0 D K (n, κ, ov X0 [86] [x86], ov Y0 [] [], Z, 0, 0) 65 [] [] := by
  unfold fX12_isFull_65 at hf
  refine g_iconst hC (v := 0) dX12_isFull_65 ic_0 ?_
  obtain rfl := sm1E hf
  exact hret _ _ rfl dX12_isFull_66

def fX12_isFull_45   (x86 : Nat → Int32)  (v1 : Int32) : Option (Int32) := if v1 = 2 then (gd (inb 4 5) (if (x86 (4 : Int32).toNatClampNeg) = 6 then (fX12_isFull_61 x86  ) else (fX12_isFull_65 x86  ))) else (fX12_isFull_65 x86  )
set_option maxHeartbeats 4000000 in
set_option maxRecDepth 100000 in
theorem wX12_isFull_45 {l : Launch} {b0 : Nat} {D : GD} {K : KT} {n : Nat} {κ : QT} {X0 : XT} {Y0 : YT} {Z : ZT} (hL : LY n κ) (hN : ([86] : List Nat).Nodup) (hM : ([] : List Nat).Nodup) (hC : gC l b0 D K RX12 cX12_isFull (some FieldType.boolean) 3 0 0 0 0) {x86 : Nat → Int32} {r : Int32} (hret : ∀ pc loc, narrow .boolean (.int r) = .int r → decode cX12_isFull pc = .ok (.ireturn, 1) → gV l b0 D K (n, κ, ov X0 [86] [x86], ov Y0 [] [], Z, 0, 0) pc loc [.int r]) {v1 : Int32} (hf : fX12_isFull_45 x86  v1 = some r) : gV l b0 D K (n, κ, ov X0 [86] [x86], ov Y0 [] [], Z, 0, 0) 45 [(0, .ref (b0 + 74)), (1, .int v1)] [] := by
  unfold fX12_isFull_45 at hf
  refine g_iload_n hC 1 dX12_isFull_45 rfl rfl ?_
  refine g_iconst hC (v := 2) dX12_isFull_46 ic_2 ?_
  refine g_icmp_ne hC 65 dX12_isFull_47 (by decide) (fun hc => ?_) (fun hc => ?_)
  · replace hf := ifF hf hc
    exact g_sub [] rfl (wX12_isFull_65 hL hN hM hC  hret  hf)
  · replace hf := ifT hf hc
    refine g_aload_n hC 0 dX12_isFull_50 rfl rfl ?_
    refine gt_X12_43 hC (a := 74) (kk_74 hL) (kn_74 hL) dX12_isFull_51 ?_
    refine g_ref (b := 86) rfl ?_
    refine g_iconst hC (v := 4) dX12_isFull_54 ic_4 ?_
    obtain ⟨h_1, hf⟩ := gdE hf
    refine g_iald hC (x := x86) (kk_86 hL) (kn_86 hL) (ov_get hN 0 rfl rfl) (inb_in h_1) dX12_isFull_55 ?_
    refine g_bipush hC (v := 6) dX12_isFull_56 bp_6 ?_
    refine g_icmp_ne hC 65 dX12_isFull_58 (by decide) (fun hc => ?_) (fun hc => ?_)
    · replace hf := ifF hf hc
      exact g_sub [] rfl (wX12_isFull_65 hL hN hM hC  hret  hf)
    · replace hf := ifT hf hc
      exact g_sub [] rfl (wX12_isFull_61 hL hN hM hC  hret  hf)

def fX12_isFull_24   (x86 : Nat → Int32)  (v1 : Int32) (s0 : Int32) (s1 : Int32) : Option (Int32) := if s1 = s0 then (if v1 = 1 then (gd (inb 3 5) (if (x86 (3 : Int32).toNatClampNeg) = 12 then (fX12_isFull_61 x86  ) else (fX12_isFull_45 x86  v1))) else (fX12_isFull_45 x86  v1)) else (some 1)
set_option maxHeartbeats 4000000 in
set_option maxRecDepth 100000 in
theorem wX12_isFull_24 {l : Launch} {b0 : Nat} {D : GD} {K : KT} {n : Nat} {κ : QT} {X0 : XT} {Y0 : YT} {Z : ZT} (hL : LY n κ) (hN : ([86] : List Nat).Nodup) (hM : ([] : List Nat).Nodup) (hC : gC l b0 D K RX12 cX12_isFull (some FieldType.boolean) 3 0 0 0 0) {x86 : Nat → Int32} {r : Int32} (hret : ∀ pc loc, narrow .boolean (.int r) = .int r → decode cX12_isFull pc = .ok (.ireturn, 1) → gV l b0 D K (n, κ, ov X0 [86] [x86], ov Y0 [] [], Z, 0, 0) pc loc [.int r]) {v1 : Int32} {s0 : Int32} {s1 : Int32} (hf : fX12_isFull_24 x86  v1 s0 s1 = some r) : gV l b0 D K (n, κ, ov X0 [86] [x86], ov Y0 [] [], Z, 0, 0) 24 [(0, .ref (b0 + 74)), (1, .int v1)] [.int s0, .int s1] := by
  unfold fX12_isFull_24 at hf
  refine g_icmp_eq hC 29 dX12_isFull_24 (by decide) (fun hc => ?_) (fun hc => ?_)
  · replace hf := ifT hf hc
    refine g_iload_n hC 1 dX12_isFull_29 rfl rfl ?_
    refine g_iconst hC (v := 1) dX12_isFull_30 ic_1 ?_
    refine g_icmp_ne hC 45 dX12_isFull_31 (by decide) (fun hc => ?_) (fun hc => ?_)
    · replace hf := ifF hf hc
      exact g_sub [0, 1] rfl (wX12_isFull_45 hL hN hM hC  hret  hf)
    · replace hf := ifT hf hc
      refine g_aload_n hC 0 dX12_isFull_34 rfl rfl ?_
      refine gt_X12_43 hC (a := 74) (kk_74 hL) (kn_74 hL) dX12_isFull_35 ?_
      refine g_ref (b := 86) rfl ?_
      refine g_iconst hC (v := 3) dX12_isFull_38 ic_3 ?_
      obtain ⟨h_1, hf⟩ := gdE hf
      refine g_iald hC (x := x86) (kk_86 hL) (kn_86 hL) (ov_get hN 0 rfl rfl) (inb_in h_1) dX12_isFull_39 ?_
      refine g_bipush hC (v := 12) dX12_isFull_40 bp_12 ?_
      refine g_icmp_eq hC 61 dX12_isFull_42 (by decide) (fun hc => ?_) (fun hc => ?_)
      · replace hf := ifT hf hc
        exact g_sub [] rfl (wX12_isFull_61 hL hN hM hC  hret  hf)
      · replace hf := ifF hf hc
        exact g_sub [0, 1] rfl (wX12_isFull_45 hL hN hM hC  hret  hf)
  · replace hf := ifF hf hc
    refine g_iconst hC (v := 1) dX12_isFull_27 ic_1 ?_
    obtain rfl := sm1E hf
    exact hret _ _ rfl dX12_isFull_28

def fX12_isFull_15   (x86 : Nat → Int32)  (v1 : Int32) (v2 : Int32) (s0 : Int32) : Option (Int32) := if v2 = 0 then (fX12_isFull_24 x86  v1 1 s0) else (fX12_isFull_24 x86  v1 0 s0)
set_option maxHeartbeats 4000000 in
set_option maxRecDepth 100000 in
theorem wX12_isFull_15 {l : Launch} {b0 : Nat} {D : GD} {K : KT} {n : Nat} {κ : QT} {X0 : XT} {Y0 : YT} {Z : ZT} (hL : LY n κ) (hN : ([86] : List Nat).Nodup) (hM : ([] : List Nat).Nodup) (hC : gC l b0 D K RX12 cX12_isFull (some FieldType.boolean) 3 0 0 0 0) {x86 : Nat → Int32} {r : Int32} (hret : ∀ pc loc, narrow .boolean (.int r) = .int r → decode cX12_isFull pc = .ok (.ireturn, 1) → gV l b0 D K (n, κ, ov X0 [86] [x86], ov Y0 [] [], Z, 0, 0) pc loc [.int r]) {v1 : Int32} {v2 : Int32} {s0 : Int32} (hf : fX12_isFull_15 x86  v1 v2 s0 = some r) : gV l b0 D K (n, κ, ov X0 [86] [x86], ov Y0 [] [], Z, 0, 0) 15 [(0, .ref (b0 + 74)), (1, .int v1), (2, .int v2)] [.int s0] := by
  unfold fX12_isFull_15 at hf
  refine g_iload_n hC 2 dX12_isFull_15 rfl rfl ?_
  refine g_if_ne hC 23 dX12_isFull_16 (by decide) (fun hc => ?_) (fun hc => ?_)
  · replace hf := ifF hf hc
    refine g_iconst hC (v := 0) dX12_isFull_23 ic_0 ?_
    exact g_sub [0, 1] rfl (wX12_isFull_24 hL hN hM hC  hret  hf)
  · replace hf := ifT hf hc
    refine g_iconst hC (v := 1) dX12_isFull_19 ic_1 ?_
    refine g_goto hC 24 dX12_isFull_20 (by decide) ?_
    exact g_sub [0, 1] rfl (wX12_isFull_24 hL hN hM hC  hret  hf)

def fX12_isFull_0   (x86 : Nat → Int32)  (v1 : Int32) (v2 : Int32) : Option (Int32) := if v2 = 40 then (some 1) else (if v1 = 0 then (fX12_isFull_15 x86  v1 v2 1) else (fX12_isFull_15 x86  v1 v2 0))
set_option maxHeartbeats 4000000 in
set_option maxRecDepth 100000 in
theorem wX12_isFull_0 {l : Launch} {b0 : Nat} {D : GD} {K : KT} {n : Nat} {κ : QT} {X0 : XT} {Y0 : YT} {Z : ZT} (hL : LY n κ) (hN : ([86] : List Nat).Nodup) (hM : ([] : List Nat).Nodup) (hC : gC l b0 D K RX12 cX12_isFull (some FieldType.boolean) 3 0 0 0 0) {x86 : Nat → Int32} {r : Int32} (hret : ∀ pc loc, narrow .boolean (.int r) = .int r → decode cX12_isFull pc = .ok (.ireturn, 1) → gV l b0 D K (n, κ, ov X0 [86] [x86], ov Y0 [] [], Z, 0, 0) pc loc [.int r]) {v1 : Int32} {v2 : Int32} (hf : fX12_isFull_0 x86  v1 v2 = some r) : gV l b0 D K (n, κ, ov X0 [86] [x86], ov Y0 [] [], Z, 0, 0) 0 [(0, .ref (b0 + 74)), (1, .int v1), (2, .int v2)] [] := by
  unfold fX12_isFull_0 at hf
  refine g_iload_n hC 2 dX12_isFull_0 rfl rfl ?_
  refine g_bipush hC (v := 40) dX12_isFull_1 bp_40 ?_
  refine g_icmp_eq hC 27 dX12_isFull_3 (by decide) (fun hc => ?_) (fun hc => ?_)
  · replace hf := ifT hf hc
    refine g_iconst hC (v := 1) dX12_isFull_27 ic_1 ?_
    obtain rfl := sm1E hf
    exact hret _ _ rfl dX12_isFull_28
  · replace hf := ifF hf hc
    refine g_iload_n hC 1 dX12_isFull_6 rfl rfl ?_
    refine g_if_ne hC 14 dX12_isFull_7 (by decide) (fun hc => ?_) (fun hc => ?_)
    · replace hf := ifF hf hc
      refine g_iconst hC (v := 0) dX12_isFull_14 ic_0 ?_
      exact g_sub [0, 1, 2] rfl (wX12_isFull_15 hL hN hM hC  hret  hf)
    · replace hf := ifT hf hc
      refine g_iconst hC (v := 1) dX12_isFull_10 ic_1 ?_
      refine g_goto hC 15 dX12_isFull_11 (by decide) ?_
      exact g_sub [0, 1, 2] rfl (wX12_isFull_15 hL hN hM hC  hret  hf)

def fX12_isFull   (x86 : Nat → Int32)  (v1 : Int32) (v2 : Int32)   : Option (Int32) := fX12_isFull_0 x86 v1 v2

set_option maxHeartbeats 4000000 in
set_option maxRecDepth 100000 in
theorem c_X12_isFull (l : Launch) {b0 : Nat} {D : GD} {n : Nat} {κ : QT} {X0 : XT} {Y0 : YT} {Z : ZT} (hL : LY n κ) {x86 : Nat → Int32} (hx : ([86] : List Nat).map X0 = [x86]) (hy : ([] : List Nat).map Y0 = []) {v1 : Int32} {v2 : Int32} {r : Int32} (hf : fX12_isFull x86 v1 v2 = some r) : gMi l yX12_isFull cX12_isFull 3 (some FieldType.boolean) 0 0 0 0 b0 D [.ref (b0 + 74), .int v1, .int v2] (n, κ, X0, Y0, Z) (n, κ, ov X0 [86] [x86], ov Y0 [] [], Z) r := by
  have hN : ([86] : List Nat).Nodup := by decide
  have hM : ([] : List Nat).Nodup := by decide
  refine g_meti (own := RX12) (by decide) rfl rfl (Nat.le_of_ble_eq_true rfl) ?_
  intro K hC hret
  have e := wX12_isFull_0 hL hN hM hC  hret hf
  rw [ov_id' hx, ov_id' hy] at e
  exact g_sub [0, 1, 2] rfl e

-- X12_copies
def fX12_copies_2b  (La : Nat) (Lb : Nat) (xa : Nat → Int32)  (k2 : Int32 → (Nat → Int32) → Option ((Nat → Int32))) (v2 : Int32) (xb : (Nat → Int32)) : Option ((Nat → Int32)) := if (Int32.ofNat La) ≤ v2 then (some xb) else (gd (inb v2 La) (gd (inb v2 Lb) (bn (v2 + 1) fun t_3 => (k2 t_3 (upd xb v2.toNatClampNeg (xa v2.toNatClampNeg))))))
def fX12_copies_2  (La : Nat) (Lb : Nat) (xa : Nat → Int32)  : Int32 → (Nat → Int32) → Option ((Nat → Int32)) := lq2 (fX12_copies_2b La Lb xa ) 5000
set_option maxHeartbeats 4000000 in
set_option maxRecDepth 100000 in
theorem wX12_copies_2 {l : Launch} {b0 : Nat} {D : GD} {K : KT} {n : Nat} {κ : QT} {X0 : XT} {Y0 : YT} {Z : ZT} {a : Nat} {b : Nat} {La : Nat} {Lb : Nat} (hL : LY n κ) (hk_a : κ a = (14, La)) (hn_a : a < n) (hk_b : κ b = (14, Lb)) (hn_b : b < n) (hN : ([a, b] : List Nat).Nodup) (hM : ([] : List Nat).Nodup) (hC : gC l b0 D K RX12 cX12_copies none 3 0 0 0 0) {xa : Nat → Int32} {rxb : (Nat → Int32)} (hret : ∀ pc loc, decode cX12_copies pc = .ok (.return_, 1) → gV l b0 D K (n, κ, ov X0 [a, b] [xa, rxb], ov Y0 [] [], Z, 0, 0) pc loc []) : ∀ (j : Nat) (v2 : Int32) (xb : (Nat → Int32)), lq2 (fX12_copies_2b La Lb xa ) j v2 xb = some rxb → gV l b0 D K (n, κ, ov X0 [a, b] [xa, xb], ov Y0 [] [], Z, 0, 0) 2 [(0, .ref (b0 + a)), (1, .ref (b0 + b)), (2, .int v2)] [] := by
  intro j
  induction j with
  | zero => intro v2 xb hf; cases hf
  | succ j hk2 =>
    intro v2 xb hf
    replace hf : fX12_copies_2b La Lb xa  (lq2 (fX12_copies_2b La Lb xa ) j) v2 xb = some rxb := hf
    unfold fX12_copies_2b at hf
    refine g_iload_n hC 2 dX12_copies_2 rfl rfl ?_
    refine g_aload_n hC 0 dX12_copies_3 rfl rfl ?_
    refine g_alen_i hC (L := La) hk_a hn_a dX12_copies_4 ?_
    refine g_icmp_ge hC 20 dX12_copies_5 (by decide) (fun hc => ?_) (fun hc => ?_)
    · replace hf := ifT hf hc
      obtain rfl := sm1E hf
      exact hret _ _ dX12_copies_20
    · replace hf := ifF hf hc
      refine g_aload_n hC 1 dX12_copies_8 rfl rfl ?_
      refine g_iload_n hC 2 dX12_copies_9 rfl rfl ?_
      refine g_aload_n hC 0 dX12_copies_10 rfl rfl ?_
      refine g_iload_n hC 2 dX12_copies_11 rfl rfl ?_
      obtain ⟨h_1, hf⟩ := gdE hf
      refine g_iald hC (x := xa) hk_a hn_a (ov_get hN 0 rfl rfl) (inb_in h_1) dX12_copies_12 ?_
      obtain ⟨h_2, hf⟩ := gdE hf
      refine g_iast hC (x := xb) hk_b hn_b (ov_get hN 1 rfl rfl) (inb_in h_2) (ov_set hN (by rfl) 1 (by rfl)) dX12_copies_13 ?_
      show gV l b0 D K (n, κ, ov X0 [a, b] [xa, (upd xb v2.toNatClampNeg (xa v2.toNatClampNeg))], ov Y0 [] [], Z, 0, 0) 14 [(0, .ref (b0 + a)), (1, .ref (b0 + b)), (2, .int v2)] []
      obtain ⟨t_3, et_3, hf⟩ := bnE hf
      refine g_iinc hC (i := 2) (v := t_3) [(2, .int t_3), (0, .ref (b0 + a)), (1, .ref (b0 + b))] dX12_copies_14 (q := 2) rfl ((congrArg (HAdd.hAdd v2) ic_1).trans et_3.symm) (by decide) rfl ?_
      refine g_goto hC 2 dX12_copies_17 (by decide) ?_
      exact g_sub [1, 2, 0] rfl (hk2 t_3 (upd xb v2.toNatClampNeg (xa v2.toNatClampNeg)) hf)

def fX12_copies_0  (La : Nat) (Lb : Nat) (xa : Nat → Int32)  (xb : (Nat → Int32)) : Option ((Nat → Int32)) := fX12_copies_2 La Lb xa  0 xb
set_option maxHeartbeats 4000000 in
set_option maxRecDepth 100000 in
theorem wX12_copies_0 {l : Launch} {b0 : Nat} {D : GD} {K : KT} {n : Nat} {κ : QT} {X0 : XT} {Y0 : YT} {Z : ZT} {a : Nat} {b : Nat} {La : Nat} {Lb : Nat} (hL : LY n κ) (hk_a : κ a = (14, La)) (hn_a : a < n) (hk_b : κ b = (14, Lb)) (hn_b : b < n) (hN : ([a, b] : List Nat).Nodup) (hM : ([] : List Nat).Nodup) (hC : gC l b0 D K RX12 cX12_copies none 3 0 0 0 0) {xa : Nat → Int32} {rxb : (Nat → Int32)} (hret : ∀ pc loc, decode cX12_copies pc = .ok (.return_, 1) → gV l b0 D K (n, κ, ov X0 [a, b] [xa, rxb], ov Y0 [] [], Z, 0, 0) pc loc []) {xb : (Nat → Int32)} (hf : fX12_copies_0 La Lb xa  xb = some rxb) : gV l b0 D K (n, κ, ov X0 [a, b] [xa, xb], ov Y0 [] [], Z, 0, 0) 0 [(0, .ref (b0 + a)), (1, .ref (b0 + b))] [] := by
  unfold fX12_copies_0 at hf
  refine g_iconst hC (v := 0) dX12_copies_0 ic_0 ?_
  refine g_istore_n hC (i := 2) [(2, .int 0), (0, .ref (b0 + a)), (1, .ref (b0 + b))] rfl dX12_copies_1 (by decide) rfl ?_
  exact g_sub [1, 2, 0] rfl (wX12_copies_2 hL hk_a hn_a hk_b hn_b hN hM hC  hret  5000 0 xb hf)

def fX12_copies  (La : Nat) (Lb : Nat) (xa : Nat → Int32)   (xb : Nat → Int32)  : Option ((Nat → Int32)) := fX12_copies_0 La Lb xa xb

set_option maxHeartbeats 4000000 in
set_option maxRecDepth 100000 in
theorem c_X12_copies (l : Launch) {b0 : Nat} {D : GD} {n : Nat} {κ : QT} {X0 : XT} {Y0 : YT} {Z : ZT} {a : Nat} {b : Nat} {La : Nat} {Lb : Nat} (hL : LY n κ) (hk_a : κ a = (14, La)) (hn_a : a < n) (hk_b : κ b = (14, Lb)) (hn_b : b < n) (hN : ([a, b] : List Nat).Nodup) (hM : ([] : List Nat).Nodup) {xa : Nat → Int32} {xb : Nat → Int32} (hx : ([a, b] : List Nat).map X0 = [xa, xb]) (hy : ([] : List Nat).map Y0 = []) {rxb : (Nat → Int32)} (hf : fX12_copies La Lb xa xb = some rxb) : gMv l yX12_copies cX12_copies 3 none 0 0 0 0 b0 D [.ref (b0 + a), .ref (b0 + b)] (n, κ, X0, Y0, Z) (n, κ, ov X0 [a, b] [xa, rxb], ov Y0 [] [], Z) := by
  refine g_metv (own := RX12) (by decide) rfl rfl (Nat.le_of_ble_eq_true rfl) ?_
  intro K hC hret
  have e := wX12_copies_0 hL hk_a hn_a hk_b hn_b hN hM hC  hret hf
  rw [ov_id' hx, ov_id' hy] at e
  exact g_sub [0, 1] rfl e


-- X8_append
def fX8_append_3b     (k3 : Int32 → Int32 → (Nat → Int32) → (Nat → Int32) → Option ((Nat → Int32) × (Nat → Int32))) (v1 : Int32) (v2 : Int32) (x1 : (Nat → Int32)) (x2 : (Nat → Int32)) : Option ((Nat → Int32) × (Nat → Int32)) := if v2 < 0 then (some (x1, x2)) else (if 400 ≤ (x1 1) then (some (x1, x2)) else (gd (inb (x1 1) 400) (bn (v2 + (-8)) fun t_2 => (k3 v1 t_2 (upd x1 1 ((x1 1) + 1)) (upd x2 (x1 1).toNatClampNeg (vp_nar .byte ((v1 >>> (v2 &&& 31)).toInt8.toInt32)))))))
def fX8_append_3     : Int32 → Int32 → (Nat → Int32) → (Nat → Int32) → Option ((Nat → Int32) × (Nat → Int32)) := lq4 (fX8_append_3b  ) 5000
set_option maxHeartbeats 4000000 in
set_option maxRecDepth 100000 in
theorem wX8_append_3 {l : Launch} {b0 : Nat} {D : GD} {K : KT} {n : Nat} {κ : QT} {X0 : XT} {Y0 : YT} {Z : ZT} (hL : LY n κ) (hN : ([1, 2] : List Nat).Nodup) (hM : ([] : List Nat).Nodup) (hC : gC l b0 D K RX8 cX8_append none 3 0 0 0 0) {rx1 : (Nat → Int32)} {rx2 : (Nat → Int32)} (hret : ∀ pc loc, decode cX8_append pc = .ok (.return_, 1) → gV l b0 D K (n, κ, ov X0 [1, 2] [rx1, rx2], ov Y0 [] [], Z, 0, 0) pc loc []) : ∀ (j : Nat) (v1 : Int32) (v2 : Int32) (x1 : (Nat → Int32)) (x2 : (Nat → Int32)), lq4 (fX8_append_3b  ) j v1 v2 x1 x2 = some (rx1, rx2) → gV l b0 D K (n, κ, ov X0 [1, 2] [x1, x2], ov Y0 [] [], Z, 0, 0) 3 [(0, .ref (b0 + 1)), (1, .int v1), (2, .int v2)] [] := by
  intro j
  induction j with
  | zero => intro v1 v2 x1 x2 hf; cases hf
  | succ j hk3 =>
    intro v1 v2 x1 x2 hf
    replace hf : fX8_append_3b   (lq4 (fX8_append_3b  ) j) v1 v2 x1 x2 = some (rx1, rx2) := hf
    unfold fX8_append_3b at hf
    refine g_iload_n hC 2 dX8_append_3 rfl rfl ?_
    refine g_if_lt hC 46 dX8_append_4 (by decide) (fun hc => ?_) (fun hc => ?_)
    · replace hf := ifT hf hc
      obtain ⟨rfl, rfl⟩ := sm2E hf
      exact hret _ _ dX8_append_46
    · replace hf := ifF hf hc
      refine g_aload_n hC 0 dX8_append_7 rfl rfl ?_
      refine gt_X8_25 hC (x := x1) (kk_1 hL) (kn_1 hL) (ov_get hN 0 rfl rfl) dX8_append_8 ?_
      refine g_sipush hC (v := 400) dX8_append_11 sp_400 ?_
      refine g_icmp_ge hC 46 dX8_append_14 (by decide) (fun hc => ?_) (fun hc => ?_)
      · replace hf := ifT hf hc
        obtain ⟨rfl, rfl⟩ := sm2E hf
        exact hret _ _ dX8_append_46
      · replace hf := ifF hf hc
        refine g_aload_n hC 0 dX8_append_17 rfl rfl ?_
        refine gt_X8_9 hC (a := 1) (kk_1 hL) (kn_1 hL) dX8_append_18 ?_
        refine g_ref (b := 2) rfl ?_
        refine g_aload_n hC 0 dX8_append_21 rfl rfl ?_
        refine gt_X8_25 hC (x := x1) (kk_1 hL) (kn_1 hL) (ov_get hN 0 rfl rfl) dX8_append_22 ?_
        refine g_iload_n hC 1 dX8_append_25 rfl rfl ?_
        refine g_iload_n hC 2 dX8_append_26 rfl rfl ?_
        refine g_ishr hC dX8_append_27 ?_
        refine g_i2b hC dX8_append_28 ?_
        obtain ⟨h_1, hf⟩ := gdE hf
        refine g_bast hC (x := x2) (kk_2 hL) (kn_2 hL) (ov_get hN 1 rfl rfl) (inb_in h_1) (ov_set hN (by rfl) 1 (by rfl)) dX8_append_29 ?_
        show gV l b0 D K (n, κ, ov X0 [1, 2] [x1, (upd x2 (x1 1).toNatClampNeg (vp_nar .byte ((v1 >>> (v2 &&& 31)).toInt8.toInt32)))], ov Y0 [] [], Z, 0, 0) 30 [(0, .ref (b0 + 1)), (1, .int v1), (2, .int v2)] []
        refine g_aload_n hC 0 dX8_append_30 rfl rfl ?_
        refine g_dup hC dX8_append_31 rfl ?_
        refine gt_X8_25 hC (x := x1) (kk_1 hL) (kn_1 hL) (ov_get hN 0 rfl rfl) dX8_append_32 ?_
        refine g_iconst hC (v := 1) dX8_append_35 ic_1 ?_
        refine g_iadd hC dX8_append_36 ?_
        refine pt_X8_25 hC (x := x1) (kk_1 hL) (kn_1 hL) (ov_get hN 0 rfl rfl) (ov_set hN (by rfl) 0 (by rfl)) dX8_append_37 ?_
        show gV l b0 D K (n, κ, ov X0 [1, 2] [(upd x1 1 ((x1 1) + 1)), (upd x2 (x1 1).toNatClampNeg (vp_nar .byte ((v1 >>> (v2 &&& 31)).toInt8.toInt32)))], ov Y0 [] [], Z, 0, 0) 40 [(0, .ref (b0 + 1)), (1, .int v1), (2, .int v2)] []
        obtain ⟨t_2, et_2, hf⟩ := bnE hf
        refine g_iinc hC (i := 2) (v := t_2) [(2, .int t_2), (0, .ref (b0 + 1)), (1, .int v1)] dX8_append_40 (q := 2) rfl ((congrArg (HAdd.hAdd v2) ic_m8).trans et_2.symm) (by decide) rfl ?_
        refine g_goto hC 3 dX8_append_43 (by decide) ?_
        exact g_sub [1, 2, 0] rfl (hk3 v1 t_2 (upd x1 1 ((x1 1) + 1)) (upd x2 (x1 1).toNatClampNeg (vp_nar .byte ((v1 >>> (v2 &&& 31)).toInt8.toInt32))) hf)

def fX8_append_0     (v1 : Int32) (x1 : (Nat → Int32)) (x2 : (Nat → Int32)) : Option ((Nat → Int32) × (Nat → Int32)) := fX8_append_3   v1 24 x1 x2
set_option maxHeartbeats 4000000 in
set_option maxRecDepth 100000 in
theorem wX8_append_0 {l : Launch} {b0 : Nat} {D : GD} {K : KT} {n : Nat} {κ : QT} {X0 : XT} {Y0 : YT} {Z : ZT} (hL : LY n κ) (hN : ([1, 2] : List Nat).Nodup) (hM : ([] : List Nat).Nodup) (hC : gC l b0 D K RX8 cX8_append none 3 0 0 0 0) {rx1 : (Nat → Int32)} {rx2 : (Nat → Int32)} (hret : ∀ pc loc, decode cX8_append pc = .ok (.return_, 1) → gV l b0 D K (n, κ, ov X0 [1, 2] [rx1, rx2], ov Y0 [] [], Z, 0, 0) pc loc []) {v1 : Int32} {x1 : (Nat → Int32)} {x2 : (Nat → Int32)} (hf : fX8_append_0   v1 x1 x2 = some (rx1, rx2)) : gV l b0 D K (n, κ, ov X0 [1, 2] [x1, x2], ov Y0 [] [], Z, 0, 0) 0 [(0, .ref (b0 + 1)), (1, .int v1)] [] := by
  unfold fX8_append_0 at hf
  refine g_bipush hC (v := 24) dX8_append_0 bp_24 ?_
  refine g_istore_n hC (i := 2) [(2, .int 24), (0, .ref (b0 + 1)), (1, .int v1)] rfl dX8_append_2 (by decide) rfl ?_
  exact g_sub [1, 2, 0] rfl (wX8_append_3 hL hN hM hC  hret  5000 v1 24 x1 x2 hf)

def fX8_append     (v1 : Int32) (x1 : Nat → Int32) (x2 : Nat → Int32)  : Option ((Nat → Int32) × (Nat → Int32)) := fX8_append_0  v1 x1 x2

set_option maxHeartbeats 4000000 in
set_option maxRecDepth 100000 in
theorem c_X8_append (l : Launch) {b0 : Nat} {D : GD} {n : Nat} {κ : QT} {X0 : XT} {Y0 : YT} {Z : ZT} (hL : LY n κ) {x1 : Nat → Int32} {x2 : Nat → Int32} (hx : ([1, 2] : List Nat).map X0 = [x1, x2]) (hy : ([] : List Nat).map Y0 = []) {v1 : Int32} {rx1 : (Nat → Int32)} {rx2 : (Nat → Int32)} (hf : fX8_append  v1 x1 x2 = some (rx1, rx2)) : gMv l yX8_append cX8_append 3 none 0 0 0 0 b0 D [.ref (b0 + 1), .int v1] (n, κ, X0, Y0, Z) (n, κ, ov X0 [1, 2] [rx1, rx2], ov Y0 [] [], Z) := by
  have hN : ([1, 2] : List Nat).Nodup := by decide
  have hM : ([] : List Nat).Nodup := by decide
  refine g_metv (own := RX8) (by decide) rfl rfl (Nat.le_of_ble_eq_true rfl) ?_
  intro K hC hret
  have e := wX8_append_0 hL hN hM hC  hret hf
  rw [ov_id' hx, ov_id' hy] at e
  exact g_sub [0, 1] rfl e

-- X8_code
def fX8_code_0   (x1 : Nat → Int32) (x3 : Nat → Int32)   : Option (Int32) := if (x1 5) ≤ (x1 6) then (some 0) else (gd (inb (x1 6) 401) (some (x3 (x1 6).toNatClampNeg)))
set_option maxHeartbeats 4000000 in
set_option maxRecDepth 100000 in
theorem wX8_code_0 {l : Launch} {b0 : Nat} {D : GD} {K : KT} {n : Nat} {κ : QT} {X0 : XT} {Y0 : YT} {Z : ZT} (hL : LY n κ) (hN : ([1, 3] : List Nat).Nodup) (hM : ([] : List Nat).Nodup) (hC : gC l b0 D K RX8 cX8_code (some FieldType.int) 1 0 0 0 0) {x1 : Nat → Int32} {x3 : Nat → Int32} {r : Int32} (hret : ∀ pc loc, narrow .int (.int r) = .int r → decode cX8_code pc = .ok (.ireturn, 1) → gV l b0 D K (n, κ, ov X0 [1, 3] [x1, x3], ov Y0 [] [], Z, 0, 0) pc loc [.int r])  (hf : fX8_code_0 x1 x3   = some r) : gV l b0 D K (n, κ, ov X0 [1, 3] [x1, x3], ov Y0 [] [], Z, 0, 0) 0 [(0, .ref (b0 + 1))] [] := by
  unfold fX8_code_0 at hf
  refine g_aload_n hC 0 dX8_code_0 rfl rfl ?_
  refine gt_X8_40 hC (x := x1) (kk_1 hL) (kn_1 hL) (ov_get hN 0 rfl rfl) dX8_code_1 ?_
  refine g_aload_n hC 0 dX8_code_4 rfl rfl ?_
  refine gt_X8_29 hC (x := x1) (kk_1 hL) (kn_1 hL) (ov_get hN 0 rfl rfl) dX8_code_5 ?_
  refine g_icmp_ge hC 23 dX8_code_8 (by decide) (fun hc => ?_) (fun hc => ?_)
  · replace hf := ifT hf hc
    refine g_iconst hC (v := 0) dX8_code_23 ic_0 ?_
    obtain rfl := sm1E hf
    exact hret _ _ rfl dX8_code_24
  · replace hf := ifF hf hc
    refine g_aload_n hC 0 dX8_code_11 rfl rfl ?_
    refine gt_X8_15 hC (a := 1) (kk_1 hL) (kn_1 hL) dX8_code_12 ?_
    refine g_ref (b := 3) rfl ?_
    refine g_aload_n hC 0 dX8_code_15 rfl rfl ?_
    refine gt_X8_40 hC (x := x1) (kk_1 hL) (kn_1 hL) (ov_get hN 0 rfl rfl) dX8_code_16 ?_
    obtain ⟨h_1, hf⟩ := gdE hf
    refine g_iald hC (x := x3) (kk_3 hL) (kn_3 hL) (ov_get hN 1 rfl rfl) (inb_in h_1) dX8_code_19 ?_
    refine g_goto hC 24 dX8_code_20 (by decide) ?_
    obtain rfl := sm1E hf
    exact hret _ _ rfl dX8_code_24

def fX8_code   (x1 : Nat → Int32) (x3 : Nat → Int32)     : Option (Int32) := fX8_code_0 x1 x3 

set_option maxHeartbeats 4000000 in
set_option maxRecDepth 100000 in
theorem c_X8_code (l : Launch) {b0 : Nat} {D : GD} {n : Nat} {κ : QT} {X0 : XT} {Y0 : YT} {Z : ZT} (hL : LY n κ) {x1 : Nat → Int32} {x3 : Nat → Int32} (hx : ([1, 3] : List Nat).map X0 = [x1, x3]) (hy : ([] : List Nat).map Y0 = []) {r : Int32} (hf : fX8_code x1 x3  = some r) : gMi l yX8_code cX8_code 1 (some FieldType.int) 0 0 0 0 b0 D [.ref (b0 + 1)] (n, κ, X0, Y0, Z) (n, κ, ov X0 [1, 3] [x1, x3], ov Y0 [] [], Z) r := by
  have hN : ([1, 3] : List Nat).Nodup := by decide
  have hM : ([] : List Nat).Nodup := by decide
  refine g_meti (own := RX8) (by decide) rfl rfl (Nat.le_of_ble_eq_true rfl) ?_
  intro K hC hret
  have e := wX8_code_0 hL hN hM hC  hret hf
  rw [ov_id' hx, ov_id' hy] at e
  exact g_sub [0] rfl e

-- X8_number
def fX8_number_0   (x1 : Nat → Int32) (x5 : Nat → Int32)   : Option (Int32) := if (x1 5) ≤ (x1 6) then (some 0) else (gd (inb (x1 6) 401) (some (x5 (x1 6).toNatClampNeg)))
set_option maxHeartbeats 4000000 in
set_option maxRecDepth 100000 in
theorem wX8_number_0 {l : Launch} {b0 : Nat} {D : GD} {K : KT} {n : Nat} {κ : QT} {X0 : XT} {Y0 : YT} {Z : ZT} (hL : LY n κ) (hN : ([1, 5] : List Nat).Nodup) (hM : ([] : List Nat).Nodup) (hC : gC l b0 D K RX8 cX8_number (some FieldType.int) 1 0 0 0 0) {x1 : Nat → Int32} {x5 : Nat → Int32} {r : Int32} (hret : ∀ pc loc, narrow .int (.int r) = .int r → decode cX8_number pc = .ok (.ireturn, 1) → gV l b0 D K (n, κ, ov X0 [1, 5] [x1, x5], ov Y0 [] [], Z, 0, 0) pc loc [.int r])  (hf : fX8_number_0 x1 x5   = some r) : gV l b0 D K (n, κ, ov X0 [1, 5] [x1, x5], ov Y0 [] [], Z, 0, 0) 0 [(0, .ref (b0 + 1))] [] := by
  unfold fX8_number_0 at hf
  refine g_aload_n hC 0 dX8_number_0 rfl rfl ?_
  refine gt_X8_40 hC (x := x1) (kk_1 hL) (kn_1 hL) (ov_get hN 0 rfl rfl) dX8_number_1 ?_
  refine g_aload_n hC 0 dX8_number_4 rfl rfl ?_
  refine gt_X8_29 hC (x := x1) (kk_1 hL) (kn_1 hL) (ov_get hN 0 rfl rfl) dX8_number_5 ?_
  refine g_icmp_ge hC 23 dX8_number_8 (by decide) (fun hc => ?_) (fun hc => ?_)
  · replace hf := ifT hf hc
    refine g_iconst hC (v := 0) dX8_number_23 ic_0 ?_
    obtain rfl := sm1E hf
    exact hret _ _ rfl dX8_number_24
  · replace hf := ifF hf hc
    refine g_aload_n hC 0 dX8_number_11 rfl rfl ?_
    refine gt_X8_22 hC (a := 1) (kk_1 hL) (kn_1 hL) dX8_number_12 ?_
    refine g_ref (b := 5) rfl ?_
    refine g_aload_n hC 0 dX8_number_15 rfl rfl ?_
    refine gt_X8_40 hC (x := x1) (kk_1 hL) (kn_1 hL) (ov_get hN 0 rfl rfl) dX8_number_16 ?_
    obtain ⟨h_1, hf⟩ := gdE hf
    refine g_iald hC (x := x5) (kk_5 hL) (kn_5 hL) (ov_get hN 1 rfl rfl) (inb_in h_1) dX8_number_19 ?_
    refine g_goto hC 24 dX8_number_20 (by decide) ?_
    obtain rfl := sm1E hf
    exact hret _ _ rfl dX8_number_24

def fX8_number   (x1 : Nat → Int32) (x5 : Nat → Int32)     : Option (Int32) := fX8_number_0 x1 x5 

set_option maxHeartbeats 4000000 in
set_option maxRecDepth 100000 in
theorem c_X8_number (l : Launch) {b0 : Nat} {D : GD} {n : Nat} {κ : QT} {X0 : XT} {Y0 : YT} {Z : ZT} (hL : LY n κ) {x1 : Nat → Int32} {x5 : Nat → Int32} (hx : ([1, 5] : List Nat).map X0 = [x1, x5]) (hy : ([] : List Nat).map Y0 = []) {r : Int32} (hf : fX8_number x1 x5  = some r) : gMi l yX8_number cX8_number 1 (some FieldType.int) 0 0 0 0 b0 D [.ref (b0 + 1)] (n, κ, X0, Y0, Z) (n, κ, ov X0 [1, 5] [x1, x5], ov Y0 [] [], Z) r := by
  have hN : ([1, 5] : List Nat).Nodup := by decide
  have hM : ([] : List Nat).Nodup := by decide
  refine g_meti (own := RX8) (by decide) rfl rfl (Nat.le_of_ble_eq_true rfl) ?_
  intro K hC hret
  have e := wX8_number_0 hL hN hM hC  hret hf
  rw [ov_id' hx, ov_id' hy] at e
  exact g_sub [0] rfl e

-- X8_skip
def fX8_skip_0     (x1 : (Nat → Int32)) : Option ((Nat → Int32)) := some (upd x1 6 ((x1 6) + 1))
set_option maxHeartbeats 4000000 in
set_option maxRecDepth 100000 in
theorem wX8_skip_0 {l : Launch} {b0 : Nat} {D : GD} {K : KT} {n : Nat} {κ : QT} {X0 : XT} {Y0 : YT} {Z : ZT} (hL : LY n κ) (hN : ([1] : List Nat).Nodup) (hM : ([] : List Nat).Nodup) (hC : gC l b0 D K RX8 cX8_skip none 1 0 0 0 0) {rx1 : (Nat → Int32)} (hret : ∀ pc loc, decode cX8_skip pc = .ok (.return_, 1) → gV l b0 D K (n, κ, ov X0 [1] [rx1], ov Y0 [] [], Z, 0, 0) pc loc []) {x1 : (Nat → Int32)} (hf : fX8_skip_0   x1 = some rx1) : gV l b0 D K (n, κ, ov X0 [1] [x1], ov Y0 [] [], Z, 0, 0) 0 [(0, .ref (b0 + 1))] [] := by
  unfold fX8_skip_0 at hf
  refine g_aload_n hC 0 dX8_skip_0 rfl rfl ?_
  refine g_dup hC dX8_skip_1 rfl ?_
  refine gt_X8_40 hC (x := x1) (kk_1 hL) (kn_1 hL) (ov_get hN 0 rfl rfl) dX8_skip_2 ?_
  refine g_iconst hC (v := 1) dX8_skip_5 ic_1 ?_
  refine g_iadd hC dX8_skip_6 ?_
  refine pt_X8_40 hC (x := x1) (kk_1 hL) (kn_1 hL) (ov_get hN 0 rfl rfl) (ov_set hN (by rfl) 0 (by rfl)) dX8_skip_7 ?_
  show gV l b0 D K (n, κ, ov X0 [1] [(upd x1 6 ((x1 6) + 1))], ov Y0 [] [], Z, 0, 0) 10 [(0, .ref (b0 + 1))] []
  obtain rfl := sm1E hf
  exact hret _ _ dX8_skip_10

def fX8_skip      (x1 : Nat → Int32)  : Option ((Nat → Int32)) := fX8_skip_0  x1

set_option maxHeartbeats 4000000 in
set_option maxRecDepth 100000 in
theorem c_X8_skip (l : Launch) {b0 : Nat} {D : GD} {n : Nat} {κ : QT} {X0 : XT} {Y0 : YT} {Z : ZT} (hL : LY n κ) {x1 : Nat → Int32} (hx : ([1] : List Nat).map X0 = [x1]) (hy : ([] : List Nat).map Y0 = []) {rx1 : (Nat → Int32)} (hf : fX8_skip  x1 = some rx1) : gMv l yX8_skip cX8_skip 1 none 0 0 0 0 b0 D [.ref (b0 + 1)] (n, κ, X0, Y0, Z) (n, κ, ov X0 [1] [rx1], ov Y0 [] [], Z) := by
  have hN : ([1] : List Nat).Nodup := by decide
  have hM : ([] : List Nat).Nodup := by decide
  refine g_metv (own := RX8) (by decide) rfl rfl (Nat.le_of_ble_eq_true rfl) ?_
  intro K hC hret
  have e := wX8_skip_0 hL hN hM hC  hret hf
  rw [ov_id' hx, ov_id' hy] at e
  exact g_sub [0] rfl e

-- X8_fail
def fX8_fail_27   (x4 : Nat → Int32)  (v1 : Int32) (s0 : Int32) (x1 : (Nat → Int32)) : Option (Int32 × (Nat → Int32)) := some (0, (upd x1 7 ((1 + (8 * s0)) + v1)))
set_option maxHeartbeats 4000000 in
set_option maxRecDepth 100000 in
theorem wX8_fail_27 {l : Launch} {b0 : Nat} {D : GD} {K : KT} {n : Nat} {κ : QT} {X0 : XT} {Y0 : YT} {Z : ZT} (hL : LY n κ) (hN : ([1, 4] : List Nat).Nodup) (hM : ([] : List Nat).Nodup) (hC : gC l b0 D K RX8 cX8_fail (some FieldType.boolean) 3 0 0 0 0) {x4 : Nat → Int32} {r : Int32} {rx1 : (Nat → Int32)} (hret : ∀ pc loc, narrow .boolean (.int r) = .int r → decode cX8_fail pc = .ok (.ireturn, 1) → gV l b0 D K (n, κ, ov X0 [1, 4] [rx1, x4], ov Y0 [] [], Z, 0, 0) pc loc [.int r]) {v1 : Int32} {s0 : Int32} {x1 : (Nat → Int32)} (hf : fX8_fail_27 x4  v1 s0 x1 = some (r, rx1)) : gV l b0 D K (n, κ, ov X0 [1, 4] [x1, x4], ov Y0 [] [], Z, 0, 0) 27 [(0, .ref (b0 + 1)), (1, .int v1)] [.int s0] := by
  unfold fX8_fail_27 at hf
  refine g_istore_n hC (i := 2) [(2, .int s0), (0, .ref (b0 + 1)), (1, .int v1)] rfl dX8_fail_27 (by decide) rfl ?_
  refine g_aload_n hC 1 dX8_fail_28 rfl rfl ?_
  refine g_iconst hC (v := 1) dX8_fail_29 ic_1 ?_
  refine g_bipush hC (v := 8) dX8_fail_30 bp_8 ?_
  refine g_iload_n hC 0 dX8_fail_32 rfl rfl ?_
  refine g_imul hC dX8_fail_33 ?_
  refine g_iadd hC dX8_fail_34 ?_
  refine g_iload_n hC 2 dX8_fail_35 rfl rfl ?_
  refine g_iadd hC dX8_fail_36 ?_
  refine pt_X8_43 hC (x := x1) (kk_1 hL) (kn_1 hL) (ov_get hN 0 rfl rfl) (ov_set hN (by rfl) 0 (by rfl)) dX8_fail_37 ?_
  show gV l b0 D K (n, κ, ov X0 [1, 4] [(upd x1 7 ((1 + (8 * s0)) + v1)), x4], ov Y0 [] [], Z, 0, 0) 40 [(2, .int s0), (0, .ref (b0 + 1)), (1, .int v1)] []
  refine g_iconst hC (v := 0) dX8_fail_40 ic_0 ?_
  obtain ⟨rfl, rfl⟩ := sm2E hf
  exact hret _ _ rfl dX8_fail_41

def fX8_fail_0   (x4 : Nat → Int32)  (v1 : Int32) (x1 : (Nat → Int32)) : Option (Int32 × (Nat → Int32)) := if (x1 5) ≤ (x1 6) then (fX8_fail_27 x4  v1 (x1 1) x1) else (gd (inb (x1 6) 401) (fX8_fail_27 x4  v1 (x4 (x1 6).toNatClampNeg) x1))
set_option maxHeartbeats 4000000 in
set_option maxRecDepth 100000 in
theorem wX8_fail_0 {l : Launch} {b0 : Nat} {D : GD} {K : KT} {n : Nat} {κ : QT} {X0 : XT} {Y0 : YT} {Z : ZT} (hL : LY n κ) (hN : ([1, 4] : List Nat).Nodup) (hM : ([] : List Nat).Nodup) (hC : gC l b0 D K RX8 cX8_fail (some FieldType.boolean) 3 0 0 0 0) {x4 : Nat → Int32} {r : Int32} {rx1 : (Nat → Int32)} (hret : ∀ pc loc, narrow .boolean (.int r) = .int r → decode cX8_fail pc = .ok (.ireturn, 1) → gV l b0 D K (n, κ, ov X0 [1, 4] [rx1, x4], ov Y0 [] [], Z, 0, 0) pc loc [.int r]) {v1 : Int32} {x1 : (Nat → Int32)} (hf : fX8_fail_0 x4  v1 x1 = some (r, rx1)) : gV l b0 D K (n, κ, ov X0 [1, 4] [x1, x4], ov Y0 [] [], Z, 0, 0) 0 [(0, .ref (b0 + 1)), (1, .int v1)] [] := by
  unfold fX8_fail_0 at hf
  refine g_aload_n hC 0 dX8_fail_0 rfl rfl ?_
  refine gt_X8_40 hC (x := x1) (kk_1 hL) (kn_1 hL) (ov_get hN 0 rfl rfl) dX8_fail_1 ?_
  refine g_aload_n hC 0 dX8_fail_4 rfl rfl ?_
  refine gt_X8_29 hC (x := x1) (kk_1 hL) (kn_1 hL) (ov_get hN 0 rfl rfl) dX8_fail_5 ?_
  refine g_icmp_ge hC 23 dX8_fail_8 (by decide) (fun hc => ?_) (fun hc => ?_)
  · replace hf := ifT hf hc
    refine g_aload_n hC 0 dX8_fail_23 rfl rfl ?_
    refine gt_X8_25 hC (x := x1) (kk_1 hL) (kn_1 hL) (ov_get hN 0 rfl rfl) dX8_fail_24 ?_
    exact g_sub [0, 1] rfl (wX8_fail_27 hL hN hM hC  hret  hf)
  · replace hf := ifF hf hc
    refine g_aload_n hC 0 dX8_fail_11 rfl rfl ?_
    refine gt_X8_19 hC (a := 1) (kk_1 hL) (kn_1 hL) dX8_fail_12 ?_
    refine g_ref (b := 4) rfl ?_
    refine g_aload_n hC 0 dX8_fail_15 rfl rfl ?_
    refine gt_X8_40 hC (x := x1) (kk_1 hL) (kn_1 hL) (ov_get hN 0 rfl rfl) dX8_fail_16 ?_
    obtain ⟨h_1, hf⟩ := gdE hf
    refine g_iald hC (x := x4) (kk_4 hL) (kn_4 hL) (ov_get hN 1 rfl rfl) (inb_in h_1) dX8_fail_19 ?_
    refine g_goto hC 27 dX8_fail_20 (by decide) ?_
    exact g_sub [0, 1] rfl (wX8_fail_27 hL hN hM hC  hret  hf)

def fX8_fail   (x4 : Nat → Int32)  (v1 : Int32) (x1 : Nat → Int32)  : Option (Int32 × (Nat → Int32)) := fX8_fail_0 x4 v1 x1

set_option maxHeartbeats 4000000 in
set_option maxRecDepth 100000 in
theorem c_X8_fail (l : Launch) {b0 : Nat} {D : GD} {n : Nat} {κ : QT} {X0 : XT} {Y0 : YT} {Z : ZT} (hL : LY n κ) {x1 : Nat → Int32} {x4 : Nat → Int32} (hx : ([1, 4] : List Nat).map X0 = [x1, x4]) (hy : ([] : List Nat).map Y0 = []) {v1 : Int32} {r : Int32} {rx1 : (Nat → Int32)} (hf : fX8_fail x4 v1 x1 = some (r, rx1)) : gMi l yX8_fail cX8_fail 3 (some FieldType.boolean) 0 0 0 0 b0 D [.ref (b0 + 1), .int v1] (n, κ, X0, Y0, Z) (n, κ, ov X0 [1, 4] [rx1, x4], ov Y0 [] [], Z) r := by
  have hN : ([1, 4] : List Nat).Nodup := by decide
  have hM : ([] : List Nat).Nodup := by decide
  refine g_meti (own := RX8) (by decide) rfl rfl (Nat.le_of_ble_eq_true rfl) ?_
  intro K hC hret
  have e := wX8_fail_0 hL hN hM hC  hret hf
  rw [ov_id' hx, ov_id' hy] at e
  exact g_sub [0, 1] rfl e

-- X8_take
def fX8_take_0   (x3 : Nat → Int32) (x4 : Nat → Int32)  (v1 : Int32) (x1 : (Nat → Int32)) : Option (Int32 × (Nat → Int32)) := bd1 (fX8_code x1 x3) fun r_1 => (if r_1 = v1 then (some (1, (upd x1 6 ((x1 6) + 1)))) else (bd2 (fX8_fail x4 0 x1) fun r_3 x1_4 => (gd (bz r_3) (some (r_3, x1_4)))))
set_option maxHeartbeats 4000000 in
set_option maxRecDepth 100000 in
theorem wX8_take_0 {l : Launch} {b0 : Nat} {D : GD} {K : KT} {n : Nat} {κ : QT} {X0 : XT} {Y0 : YT} {Z : ZT} (hL : LY n κ) (hN : ([1, 3, 4] : List Nat).Nodup) (hM : ([] : List Nat).Nodup) (hC : gC l b0 D K RX8 cX8_take (some FieldType.boolean) 2 1 22 0 0) {x3 : Nat → Int32} {x4 : Nat → Int32} {r : Int32} {rx1 : (Nat → Int32)} (hret : ∀ pc loc, narrow .boolean (.int r) = .int r → decode cX8_take pc = .ok (.ireturn, 1) → gV l b0 D K (n, κ, ov X0 [1, 3, 4] [rx1, x3, x4], ov Y0 [] [], Z, 0, 0) pc loc [.int r]) {v1 : Int32} {x1 : (Nat → Int32)} (hf : fX8_take_0 x3 x4  v1 x1 = some (r, rx1)) : gV l b0 D K (n, κ, ov X0 [1, 3, 4] [x1, x3, x4], ov Y0 [] [], Z, 0, 0) 0 [(0, .ref (b0 + 1)), (1, .int v1)] [] := by
  unfold fX8_take_0 at hf
  refine g_aload_n hC 0 dX8_take_0 rfl rfl ?_
  obtain ⟨r_1, q_2, hf⟩ := bd1E hf
  refine g_callV_i (a := 1) hC (X' := ov X0 [1, 3, 4] [x1, x3, x4]) (Y' := ov Y0 [] []) (As := []) (gMi_eq (c_X8_code l hL (ov_map hN [0, 1] (by rfl) (by rfl)) (ov_map hM [] (by rfl) (by rfl)) q_2) (ov_ovE hN (by rfl) [0, 1] [2] (by rfl) (by rfl) [x4] (by rfl) (by rfl) (by rfl) 3 (by rfl) (by decide)) (ov_ovE hM (by rfl) [] [] (by rfl) (by rfl) [] (by rfl) (by rfl) (by rfl) 0 (by rfl) (by decide))) tw_639 tw_691 tw_117 tw_637 tw_638 (ci := 8) rfl (by decide) (kk_1 hL) (kn_1 hL) pd_X8_code (by decide) (by decide) rfl rfl (Nat.le_of_ble_eq_true rfl) rfl dX8_take_1 ?_
  refine g_iload_n hC 1 dX8_take_4 rfl rfl ?_
  refine g_icmp_eq hC 14 dX8_take_5 (by decide) (fun hc => ?_) (fun hc => ?_)
  · replace hf := ifT hf hc
    refine g_aload_n hC 0 dX8_take_14 rfl rfl ?_
    refine g_dup hC dX8_take_15 rfl ?_
    refine gt_X8_40 hC (x := x1) (kk_1 hL) (kn_1 hL) (ov_get hN 0 rfl rfl) dX8_take_16 ?_
    refine g_iconst hC (v := 1) dX8_take_19 ic_1 ?_
    refine g_iadd hC dX8_take_20 ?_
    refine pt_X8_40 hC (x := x1) (kk_1 hL) (kn_1 hL) (ov_get hN 0 rfl rfl) (ov_set hN (by rfl) 0 (by rfl)) dX8_take_21 ?_
    show gV l b0 D K (n, κ, ov X0 [1, 3, 4] [(upd x1 6 ((x1 6) + 1)), x3, x4], ov Y0 [] [], Z, 0, 0) 24 [(0, .ref (b0 + 1)), (1, .int v1)] []
    refine g_iconst hC (v := 1) dX8_take_24 ic_1 ?_
    obtain ⟨rfl, rfl⟩ := sm2E hf
    exact hret _ _ rfl dX8_take_25
  · replace hf := ifF hf hc
    refine g_aload_n hC 0 dX8_take_8 rfl rfl ?_
    refine g_iconst hC (v := 0) dX8_take_9 ic_0 ?_
    obtain ⟨r_3, x1_4, q_5, hf⟩ := bd2E hf
    refine g_callV_i (a := 1) hC (X' := ov X0 [1, 3, 4] [x1_4, x3, x4]) (Y' := ov Y0 [] []) (As := [.int 0]) (gMi_eq (c_X8_fail l hL (ov_map hN [0, 2] (by rfl) (by rfl)) (ov_map hM [] (by rfl) (by rfl)) q_5) (ov_ovE hN (by rfl) [0, 2] [1] (by rfl) (by rfl) [x3] (by rfl) (by rfl) (by rfl) 3 (by rfl) (by decide)) (ov_ovE hM (by rfl) [] [] (by rfl) (by rfl) [] (by rfl) (by rfl) (by rfl) 0 (by rfl) (by decide))) tw_643 tw_692 tw_117 tw_641 tw_642 (ci := 8) rfl (by decide) (kk_1 hL) (kn_1 hL) pd_X8_fail (by decide) (by decide) rfl rfl (Nat.le_of_ble_eq_true rfl) rfl dX8_take_10 ?_
    obtain ⟨h_6, hf⟩ := gdE hf
    obtain ⟨rfl, rfl⟩ := sm2E hf
    exact hret _ _ (bz_nar h_6) dX8_take_13

def fX8_take   (x3 : Nat → Int32) (x4 : Nat → Int32)  (v1 : Int32) (x1 : Nat → Int32)  : Option (Int32 × (Nat → Int32)) := fX8_take_0 x3 x4 v1 x1

set_option maxHeartbeats 4000000 in
set_option maxRecDepth 100000 in
theorem c_X8_take (l : Launch) {b0 : Nat} {D : GD} {n : Nat} {κ : QT} {X0 : XT} {Y0 : YT} {Z : ZT} (hL : LY n κ) {x1 : Nat → Int32} {x3 : Nat → Int32} {x4 : Nat → Int32} (hx : ([1, 3, 4] : List Nat).map X0 = [x1, x3, x4]) (hy : ([] : List Nat).map Y0 = []) {v1 : Int32} {r : Int32} {rx1 : (Nat → Int32)} (hf : fX8_take x3 x4 v1 x1 = some (r, rx1)) : gMi l yX8_take cX8_take 2 (some FieldType.boolean) 1 22 0 0 b0 D [.ref (b0 + 1), .int v1] (n, κ, X0, Y0, Z) (n, κ, ov X0 [1, 3, 4] [rx1, x3, x4], ov Y0 [] [], Z) r := by
  have hN : ([1, 3, 4] : List Nat).Nodup := by decide
  have hM : ([] : List Nat).Nodup := by decide
  refine g_meti (own := RX8) (by decide) rfl rfl (Nat.le_of_ble_eq_true rfl) ?_
  intro K hC hret
  have e := wX8_take_0 hL hN hM hC  hret hf
  rw [ov_id' hx, ov_id' hy] at e
  exact g_sub [0, 1] rfl e

-- X8_add
def fX8_add_0     (v1 : Int32) (v2 : Int32) (v3 : Int32) (x1 : (Nat → Int32)) (x3 : (Nat → Int32)) (x4 : (Nat → Int32)) (x5 : (Nat → Int32)) : Option ((Nat → Int32) × (Nat → Int32) × (Nat → Int32) × (Nat → Int32)) := if (Int32.ofNat 401) ≤ (x1 5) then (some (x1, x3, x4, x5)) else (gd (inb (x1 5) 401) (gd (inb (x1 5) 401) (gd (inb (x1 5) 401) (some ((upd x1 5 ((x1 5) + 1)), (upd x3 (x1 5).toNatClampNeg v1), (upd x4 (x1 5).toNatClampNeg v2), (upd x5 (x1 5).toNatClampNeg v3))))))
set_option maxHeartbeats 4000000 in
set_option maxRecDepth 100000 in
theorem wX8_add_0 {l : Launch} {b0 : Nat} {D : GD} {K : KT} {n : Nat} {κ : QT} {X0 : XT} {Y0 : YT} {Z : ZT} (hL : LY n κ) (hN : ([1, 3, 4, 5] : List Nat).Nodup) (hM : ([] : List Nat).Nodup) (hC : gC l b0 D K RX8 cX8_add none 4 0 0 0 0) {rx1 : (Nat → Int32)} {rx3 : (Nat → Int32)} {rx4 : (Nat → Int32)} {rx5 : (Nat → Int32)} (hret : ∀ pc loc, decode cX8_add pc = .ok (.return_, 1) → gV l b0 D K (n, κ, ov X0 [1, 3, 4, 5] [rx1, rx3, rx4, rx5], ov Y0 [] [], Z, 0, 0) pc loc []) {v1 : Int32} {v2 : Int32} {v3 : Int32} {x1 : (Nat → Int32)} {x3 : (Nat → Int32)} {x4 : (Nat → Int32)} {x5 : (Nat → Int32)} (hf : fX8_add_0   v1 v2 v3 x1 x3 x4 x5 = some (rx1, rx3, rx4, rx5)) : gV l b0 D K (n, κ, ov X0 [1, 3, 4, 5] [x1, x3, x4, x5], ov Y0 [] [], Z, 0, 0) 0 [(0, .ref (b0 + 1)), (1, .int v1), (2, .int v2), (3, .int v3)] [] := by
  unfold fX8_add_0 at hf
  refine g_aload_n hC 0 dX8_add_0 rfl rfl ?_
  refine gt_X8_29 hC (x := x1) (kk_1 hL) (kn_1 hL) (ov_get hN 0 rfl rfl) dX8_add_1 ?_
  refine g_aload_n hC 0 dX8_add_4 rfl rfl ?_
  refine gt_X8_15 hC (a := 1) (kk_1 hL) (kn_1 hL) dX8_add_5 ?_
  refine g_ref (b := 3) rfl ?_
  refine g_alen_i hC (L := 401) (kk_3 hL) (kn_3 hL) dX8_add_8 ?_
  refine g_icmp_ge hC 52 dX8_add_9 (by decide) (fun hc => ?_) (fun hc => ?_)
  · replace hf := ifT hf hc
    obtain ⟨rfl, rfl, rfl, rfl⟩ := sm4E hf
    exact hret _ _ dX8_add_52
  · replace hf := ifF hf hc
    refine g_aload_n hC 0 dX8_add_12 rfl rfl ?_
    refine gt_X8_15 hC (a := 1) (kk_1 hL) (kn_1 hL) dX8_add_13 ?_
    refine g_ref (b := 3) rfl ?_
    refine g_aload_n hC 0 dX8_add_16 rfl rfl ?_
    refine gt_X8_29 hC (x := x1) (kk_1 hL) (kn_1 hL) (ov_get hN 0 rfl rfl) dX8_add_17 ?_
    refine g_iload_n hC 1 dX8_add_20 rfl rfl ?_
    obtain ⟨h_1, hf⟩ := gdE hf
    refine g_iast hC (x := x3) (kk_3 hL) (kn_3 hL) (ov_get hN 1 rfl rfl) (inb_in h_1) (ov_set hN (by rfl) 1 (by rfl)) dX8_add_21 ?_
    show gV l b0 D K (n, κ, ov X0 [1, 3, 4, 5] [x1, (upd x3 (x1 5).toNatClampNeg v1), x4, x5], ov Y0 [] [], Z, 0, 0) 22 [(0, .ref (b0 + 1)), (1, .int v1), (2, .int v2), (3, .int v3)] []
    refine g_aload_n hC 0 dX8_add_22 rfl rfl ?_
    refine gt_X8_19 hC (a := 1) (kk_1 hL) (kn_1 hL) dX8_add_23 ?_
    refine g_ref (b := 4) rfl ?_
    refine g_aload_n hC 0 dX8_add_26 rfl rfl ?_
    refine gt_X8_29 hC (x := x1) (kk_1 hL) (kn_1 hL) (ov_get hN 0 rfl rfl) dX8_add_27 ?_
    refine g_iload_n hC 2 dX8_add_30 rfl rfl ?_
    obtain ⟨h_2, hf⟩ := gdE hf
    refine g_iast hC (x := x4) (kk_4 hL) (kn_4 hL) (ov_get hN 2 rfl rfl) (inb_in h_2) (ov_set hN (by rfl) 2 (by rfl)) dX8_add_31 ?_
    show gV l b0 D K (n, κ, ov X0 [1, 3, 4, 5] [x1, (upd x3 (x1 5).toNatClampNeg v1), (upd x4 (x1 5).toNatClampNeg v2), x5], ov Y0 [] [], Z, 0, 0) 32 [(0, .ref (b0 + 1)), (1, .int v1), (2, .int v2), (3, .int v3)] []
    refine g_aload_n hC 0 dX8_add_32 rfl rfl ?_
    refine gt_X8_22 hC (a := 1) (kk_1 hL) (kn_1 hL) dX8_add_33 ?_
    refine g_ref (b := 5) rfl ?_
    refine g_aload_n hC 0 dX8_add_36 rfl rfl ?_
    refine gt_X8_29 hC (x := x1) (kk_1 hL) (kn_1 hL) (ov_get hN 0 rfl rfl) dX8_add_37 ?_
    refine g_iload_n hC 3 dX8_add_40 rfl rfl ?_
    obtain ⟨h_3, hf⟩ := gdE hf
    refine g_iast hC (x := x5) (kk_5 hL) (kn_5 hL) (ov_get hN 3 rfl rfl) (inb_in h_3) (ov_set hN (by rfl) 3 (by rfl)) dX8_add_41 ?_
    show gV l b0 D K (n, κ, ov X0 [1, 3, 4, 5] [x1, (upd x3 (x1 5).toNatClampNeg v1), (upd x4 (x1 5).toNatClampNeg v2), (upd x5 (x1 5).toNatClampNeg v3)], ov Y0 [] [], Z, 0, 0) 42 [(0, .ref (b0 + 1)), (1, .int v1), (2, .int v2), (3, .int v3)] []
    refine g_aload_n hC 0 dX8_add_42 rfl rfl ?_
    refine g_dup hC dX8_add_43 rfl ?_
    refine gt_X8_29 hC (x := x1) (kk_1 hL) (kn_1 hL) (ov_get hN 0 rfl rfl) dX8_add_44 ?_
    refine g_iconst hC (v := 1) dX8_add_47 ic_1 ?_
    refine g_iadd hC dX8_add_48 ?_
    refine pt_X8_29 hC (x := x1) (kk_1 hL) (kn_1 hL) (ov_get hN 0 rfl rfl) (ov_set hN (by rfl) 0 (by rfl)) dX8_add_49 ?_
    show gV l b0 D K (n, κ, ov X0 [1, 3, 4, 5] [(upd x1 5 ((x1 5) + 1)), (upd x3 (x1 5).toNatClampNeg v1), (upd x4 (x1 5).toNatClampNeg v2), (upd x5 (x1 5).toNatClampNeg v3)], ov Y0 [] [], Z, 0, 0) 52 [(0, .ref (b0 + 1)), (1, .int v1), (2, .int v2), (3, .int v3)] []
    obtain ⟨rfl, rfl, rfl, rfl⟩ := sm4E hf
    exact hret _ _ dX8_add_52

def fX8_add     (v1 : Int32) (v2 : Int32) (v3 : Int32) (x1 : Nat → Int32) (x3 : Nat → Int32) (x4 : Nat → Int32) (x5 : Nat → Int32)  : Option ((Nat → Int32) × (Nat → Int32) × (Nat → Int32) × (Nat → Int32)) := fX8_add_0  v1 v2 v3 x1 x3 x4 x5

set_option maxHeartbeats 4000000 in
set_option maxRecDepth 100000 in
theorem c_X8_add (l : Launch) {b0 : Nat} {D : GD} {n : Nat} {κ : QT} {X0 : XT} {Y0 : YT} {Z : ZT} (hL : LY n κ) {x1 : Nat → Int32} {x3 : Nat → Int32} {x4 : Nat → Int32} {x5 : Nat → Int32} (hx : ([1, 3, 4, 5] : List Nat).map X0 = [x1, x3, x4, x5]) (hy : ([] : List Nat).map Y0 = []) {v1 : Int32} {v2 : Int32} {v3 : Int32} {rx1 : (Nat → Int32)} {rx3 : (Nat → Int32)} {rx4 : (Nat → Int32)} {rx5 : (Nat → Int32)} (hf : fX8_add  v1 v2 v3 x1 x3 x4 x5 = some (rx1, rx3, rx4, rx5)) : gMv l yX8_add cX8_add 4 none 0 0 0 0 b0 D [.ref (b0 + 1), .int v1, .int v2, .int v3] (n, κ, X0, Y0, Z) (n, κ, ov X0 [1, 3, 4, 5] [rx1, rx3, rx4, rx5], ov Y0 [] [], Z) := by
  have hN : ([1, 3, 4, 5] : List Nat).Nodup := by decide
  have hM : ([] : List Nat).Nodup := by decide
  refine g_metv (own := RX8) (by decide) rfl rfl (Nat.le_of_ble_eq_true rfl) ?_
  intro K hC hret
  have e := wX8_add_0 hL hN hM hC  hret hf
  rw [ov_id' hx, ov_id' hy] at e
  exact g_sub [0, 1, 2, 3] rfl e

-- X8_behindRun
def fX8_behindRun_3b   (x1 : Nat → Int32) (x2 : Nat → Int32)  (k3 : Int32 → Int32 → Int32 → Option (Int32)) (v2 : Int32) (v3 : Int32) (v4 : Int32) : Option (Int32) := if (x1 1) ≤ v4 then (some v4) else (gd (inb v4 400) (if (x2 v4.toNatClampNeg) < v2 then (some v4) else (gd (inb v4 400) (if v3 < (x2 v4.toNatClampNeg) then (some v4) else (bn (v4 + 1) fun t_3 => (k3 v2 v3 t_3))))))
def fX8_behindRun_3   (x1 : Nat → Int32) (x2 : Nat → Int32)  : Int32 → Int32 → Int32 → Option (Int32) := lq3 (fX8_behindRun_3b x1 x2 ) 5000
set_option maxHeartbeats 4000000 in
set_option maxRecDepth 100000 in
theorem wX8_behindRun_3 {l : Launch} {b0 : Nat} {D : GD} {K : KT} {n : Nat} {κ : QT} {X0 : XT} {Y0 : YT} {Z : ZT} (hL : LY n κ) (hN : ([1, 2] : List Nat).Nodup) (hM : ([] : List Nat).Nodup) (hC : gC l b0 D K RX8 cX8_behindRun (some FieldType.int) 5 0 0 0 0) {x1 : Nat → Int32} {x2 : Nat → Int32} {r : Int32} (hret : ∀ pc loc, narrow .int (.int r) = .int r → decode cX8_behindRun pc = .ok (.ireturn, 1) → gV l b0 D K (n, κ, ov X0 [1, 2] [x1, x2], ov Y0 [] [], Z, 0, 0) pc loc [.int r]) : ∀ (j : Nat) (v2 : Int32) (v3 : Int32) (v4 : Int32), lq3 (fX8_behindRun_3b x1 x2 ) j v2 v3 v4 = some r → gV l b0 D K (n, κ, ov X0 [1, 2] [x1, x2], ov Y0 [] [], Z, 0, 0) 3 [(0, .ref (b0 + 1)), (2, .int v2), (3, .int v3), (4, .int v4)] [] := by
  intro j
  induction j with
  | zero => intro v2 v3 v4 hf; cases hf
  | succ j hk3 =>
    intro v2 v3 v4 hf
    replace hf : fX8_behindRun_3b x1 x2  (lq3 (fX8_behindRun_3b x1 x2 ) j) v2 v3 v4 = some r := hf
    unfold fX8_behindRun_3b at hf
    refine g_iload hC 3 dX8_behindRun_3 rfl ?_
    refine g_aload_n hC 0 dX8_behindRun_5 rfl rfl ?_
    refine gt_X8_25 hC (x := x1) (kk_1 hL) (kn_1 hL) (ov_get hN 0 rfl rfl) dX8_behindRun_6 ?_
    refine g_icmp_ge hC 40 dX8_behindRun_9 (by decide) (fun hc => ?_) (fun hc => ?_)
    · replace hf := ifT hf hc
      refine g_iload hC 3 dX8_behindRun_40 rfl ?_
      obtain rfl := sm1E hf
      exact hret _ _ rfl dX8_behindRun_42
    · replace hf := ifF hf hc
      refine g_aload_n hC 0 dX8_behindRun_12 rfl rfl ?_
      refine gt_X8_9 hC (a := 1) (kk_1 hL) (kn_1 hL) dX8_behindRun_13 ?_
      refine g_ref (b := 2) rfl ?_
      refine g_iload hC 3 dX8_behindRun_16 rfl ?_
      obtain ⟨h_1, hf⟩ := gdE hf
      refine g_bald hC (x := x2) (kk_2 hL) (kn_2 hL) (ov_get hN 1 rfl rfl) (inb_in h_1) dX8_behindRun_18 ?_
      refine g_iload_n hC 1 dX8_behindRun_19 rfl rfl ?_
      refine g_icmp_lt hC 40 dX8_behindRun_20 (by decide) (fun hc => ?_) (fun hc => ?_)
      · replace hf := ifT hf hc
        refine g_iload hC 3 dX8_behindRun_40 rfl ?_
        obtain rfl := sm1E hf
        exact hret _ _ rfl dX8_behindRun_42
      · replace hf := ifF hf hc
        refine g_aload_n hC 0 dX8_behindRun_23 rfl rfl ?_
        refine gt_X8_9 hC (a := 1) (kk_1 hL) (kn_1 hL) dX8_behindRun_24 ?_
        refine g_ref (b := 2) rfl ?_
        refine g_iload hC 3 dX8_behindRun_27 rfl ?_
        obtain ⟨h_2, hf⟩ := gdE hf
        refine g_bald hC (x := x2) (kk_2 hL) (kn_2 hL) (ov_get hN 1 rfl rfl) (inb_in h_2) dX8_behindRun_29 ?_
        refine g_iload_n hC 2 dX8_behindRun_30 rfl rfl ?_
        refine g_icmp_gt hC 40 dX8_behindRun_31 (by decide) (fun hc => ?_) (fun hc => ?_)
        · replace hf := ifT hf hc
          refine g_iload hC 3 dX8_behindRun_40 rfl ?_
          obtain rfl := sm1E hf
          exact hret _ _ rfl dX8_behindRun_42
        · replace hf := ifF hf hc
          obtain ⟨t_3, et_3, hf⟩ := bnE hf
          refine g_iinc hC (i := 4) (v := t_3) [(4, .int t_3), (0, .ref (b0 + 1)), (2, .int v2), (3, .int v3)] dX8_behindRun_34 (q := 3) rfl ((congrArg (HAdd.hAdd v4) ic_1).trans et_3.symm) (by decide) rfl ?_
          refine g_goto hC 3 dX8_behindRun_37 (by decide) ?_
          exact g_sub [1, 2, 3, 0] rfl (hk3 v2 v3 t_3 hf)

def fX8_behindRun_0   (x1 : Nat → Int32) (x2 : Nat → Int32)  (v1 : Int32) (v2 : Int32) (v3 : Int32) : Option (Int32) := fX8_behindRun_3 x1 x2  v2 v3 v1
set_option maxHeartbeats 4000000 in
set_option maxRecDepth 100000 in
theorem wX8_behindRun_0 {l : Launch} {b0 : Nat} {D : GD} {K : KT} {n : Nat} {κ : QT} {X0 : XT} {Y0 : YT} {Z : ZT} (hL : LY n κ) (hN : ([1, 2] : List Nat).Nodup) (hM : ([] : List Nat).Nodup) (hC : gC l b0 D K RX8 cX8_behindRun (some FieldType.int) 5 0 0 0 0) {x1 : Nat → Int32} {x2 : Nat → Int32} {r : Int32} (hret : ∀ pc loc, narrow .int (.int r) = .int r → decode cX8_behindRun pc = .ok (.ireturn, 1) → gV l b0 D K (n, κ, ov X0 [1, 2] [x1, x2], ov Y0 [] [], Z, 0, 0) pc loc [.int r]) {v1 : Int32} {v2 : Int32} {v3 : Int32} (hf : fX8_behindRun_0 x1 x2  v1 v2 v3 = some r) : gV l b0 D K (n, κ, ov X0 [1, 2] [x1, x2], ov Y0 [] [], Z, 0, 0) 0 [(0, .ref (b0 + 1)), (1, .int v1), (2, .int v2), (3, .int v3)] [] := by
  unfold fX8_behindRun_0 at hf
  refine g_iload_n hC 1 dX8_behindRun_0 rfl rfl ?_
  refine g_istore hC (i := 4) [(4, .int v1), (0, .ref (b0 + 1)), (1, .int v1), (2, .int v2), (3, .int v3)] dX8_behindRun_1 (by decide) rfl ?_
  exact g_sub [1, 3, 4, 0] rfl (wX8_behindRun_3 hL hN hM hC  hret  5000 v2 v3 v1 hf)

def fX8_behindRun   (x1 : Nat → Int32) (x2 : Nat → Int32)  (v1 : Int32) (v2 : Int32) (v3 : Int32)   : Option (Int32) := fX8_behindRun_0 x1 x2 v1 v2 v3

set_option maxHeartbeats 4000000 in
set_option maxRecDepth 100000 in
theorem c_X8_behindRun (l : Launch) {b0 : Nat} {D : GD} {n : Nat} {κ : QT} {X0 : XT} {Y0 : YT} {Z : ZT} (hL : LY n κ) {x1 : Nat → Int32} {x2 : Nat → Int32} (hx : ([1, 2] : List Nat).map X0 = [x1, x2]) (hy : ([] : List Nat).map Y0 = []) {v1 : Int32} {v2 : Int32} {v3 : Int32} {r : Int32} (hf : fX8_behindRun x1 x2 v1 v2 v3 = some r) : gMi l yX8_behindRun cX8_behindRun 5 (some FieldType.int) 0 0 0 0 b0 D [.ref (b0 + 1), .int v1, .int v2, .int v3] (n, κ, X0, Y0, Z) (n, κ, ov X0 [1, 2] [x1, x2], ov Y0 [] [], Z) r := by
  have hN : ([1, 2] : List Nat).Nodup := by decide
  have hM : ([] : List Nat).Nodup := by decide
  refine g_meti (own := RX8) (by decide) rfl rfl (Nat.le_of_ble_eq_true rfl) ?_
  intro K hC hret
  have e := wX8_behindRun_0 hL hN hM hC  hret hf
  rw [ov_id' hx, ov_id' hy] at e
  exact g_sub [0, 1, 2, 3] rfl e

-- X8_numberFrom
def fX8_numberFrom_5b   (x2 : Nat → Int32)  (k5 : Int32 → Int32 → Int32 → Option (Int32)) (v2 : Int32) (v3 : Int32) (v4 : Int32) : Option (Int32) := if v2 ≤ v4 then (some v3) else (gd (inb v4 400) (bn (((v3 * 10) + (x2 v4.toNatClampNeg)) - 48) fun t_2 => (bn (v4 + 1) fun t_3 => (k5 v2 t_2 t_3))))
def fX8_numberFrom_5   (x2 : Nat → Int32)  : Int32 → Int32 → Int32 → Option (Int32) := lq3 (fX8_numberFrom_5b x2 ) 5000
set_option maxHeartbeats 4000000 in
set_option maxRecDepth 100000 in
theorem wX8_numberFrom_5 {l : Launch} {b0 : Nat} {D : GD} {K : KT} {n : Nat} {κ : QT} {X0 : XT} {Y0 : YT} {Z : ZT} (hL : LY n κ) (hN : ([2] : List Nat).Nodup) (hM : ([] : List Nat).Nodup) (hC : gC l b0 D K RX8 cX8_numberFrom (some FieldType.int) 5 0 0 0 0) {x2 : Nat → Int32} {r : Int32} (hret : ∀ pc loc, narrow .int (.int r) = .int r → decode cX8_numberFrom pc = .ok (.ireturn, 1) → gV l b0 D K (n, κ, ov X0 [2] [x2], ov Y0 [] [], Z, 0, 0) pc loc [.int r]) : ∀ (j : Nat) (v2 : Int32) (v3 : Int32) (v4 : Int32), lq3 (fX8_numberFrom_5b x2 ) j v2 v3 v4 = some r → gV l b0 D K (n, κ, ov X0 [2] [x2], ov Y0 [] [], Z, 0, 0) 5 [(0, .ref (b0 + 1)), (2, .int v2), (3, .int v3), (4, .int v4)] [] := by
  intro j
  induction j with
  | zero => intro v2 v3 v4 hf; cases hf
  | succ j hk5 =>
    intro v2 v3 v4 hf
    replace hf : fX8_numberFrom_5b x2  (lq3 (fX8_numberFrom_5b x2 ) j) v2 v3 v4 = some r := hf
    unfold fX8_numberFrom_5b at hf
    refine g_iload hC 3 dX8_numberFrom_5 rfl ?_
    refine g_iload_n hC 1 dX8_numberFrom_7 rfl rfl ?_
    refine g_icmp_ge hC 33 dX8_numberFrom_8 (by decide) (fun hc => ?_) (fun hc => ?_)
    · replace hf := ifT hf hc
      refine g_iload_n hC 2 dX8_numberFrom_33 rfl rfl ?_
      obtain rfl := sm1E hf
      exact hret _ _ rfl dX8_numberFrom_34
    · replace hf := ifF hf hc
      refine g_iload_n hC 2 dX8_numberFrom_11 rfl rfl ?_
      refine g_bipush hC (v := 10) dX8_numberFrom_12 bp_10 ?_
      refine g_imul hC dX8_numberFrom_14 ?_
      refine g_aload_n hC 0 dX8_numberFrom_15 rfl rfl ?_
      refine gt_X8_9 hC (a := 1) (kk_1 hL) (kn_1 hL) dX8_numberFrom_16 ?_
      refine g_ref (b := 2) rfl ?_
      refine g_iload hC 3 dX8_numberFrom_19 rfl ?_
      obtain ⟨h_1, hf⟩ := gdE hf
      refine g_bald hC (x := x2) (kk_2 hL) (kn_2 hL) (ov_get hN 0 rfl rfl) (inb_in h_1) dX8_numberFrom_21 ?_
      refine g_iadd hC dX8_numberFrom_22 ?_
      refine g_bipush hC (v := 48) dX8_numberFrom_23 bp_48 ?_
      refine g_isub hC dX8_numberFrom_25 ?_
      obtain ⟨t_2, et_2, hf⟩ := bnE hf
      refine g_topi et_2 ?_
      refine g_istore_n hC (i := 3) [(3, .int t_2), (0, .ref (b0 + 1)), (2, .int v2), (4, .int v4)] rfl dX8_numberFrom_26 (by decide) rfl ?_
      obtain ⟨t_3, et_3, hf⟩ := bnE hf
      refine g_iinc hC (i := 4) (v := t_3) [(4, .int t_3), (3, .int t_2), (0, .ref (b0 + 1)), (2, .int v2)] dX8_numberFrom_27 (q := 3) rfl ((congrArg (HAdd.hAdd v4) ic_1).trans et_3.symm) (by decide) rfl ?_
      refine g_goto hC 5 dX8_numberFrom_30 (by decide) ?_
      exact g_sub [2, 3, 1, 0] rfl (hk5 v2 t_2 t_3 hf)

def fX8_numberFrom_0   (x2 : Nat → Int32)  (v1 : Int32) (v2 : Int32) : Option (Int32) := fX8_numberFrom_5 x2  v2 0 v1
set_option maxHeartbeats 4000000 in
set_option maxRecDepth 100000 in
theorem wX8_numberFrom_0 {l : Launch} {b0 : Nat} {D : GD} {K : KT} {n : Nat} {κ : QT} {X0 : XT} {Y0 : YT} {Z : ZT} (hL : LY n κ) (hN : ([2] : List Nat).Nodup) (hM : ([] : List Nat).Nodup) (hC : gC l b0 D K RX8 cX8_numberFrom (some FieldType.int) 5 0 0 0 0) {x2 : Nat → Int32} {r : Int32} (hret : ∀ pc loc, narrow .int (.int r) = .int r → decode cX8_numberFrom pc = .ok (.ireturn, 1) → gV l b0 D K (n, κ, ov X0 [2] [x2], ov Y0 [] [], Z, 0, 0) pc loc [.int r]) {v1 : Int32} {v2 : Int32} (hf : fX8_numberFrom_0 x2  v1 v2 = some r) : gV l b0 D K (n, κ, ov X0 [2] [x2], ov Y0 [] [], Z, 0, 0) 0 [(0, .ref (b0 + 1)), (1, .int v1), (2, .int v2)] [] := by
  unfold fX8_numberFrom_0 at hf
  refine g_iconst hC (v := 0) dX8_numberFrom_0 ic_0 ?_
  refine g_istore_n hC (i := 3) [(3, .int 0), (0, .ref (b0 + 1)), (1, .int v1), (2, .int v2)] rfl dX8_numberFrom_1 (by decide) rfl ?_
  refine g_iload_n hC 2 dX8_numberFrom_2 rfl rfl ?_
  refine g_istore hC (i := 4) [(4, .int v1), (3, .int 0), (0, .ref (b0 + 1)), (1, .int v1), (2, .int v2)] dX8_numberFrom_3 (by decide) rfl ?_
  exact g_sub [2, 4, 1, 0] rfl (wX8_numberFrom_5 hL hN hM hC  hret  5000 v2 0 v1 hf)

def fX8_numberFrom   (x2 : Nat → Int32)  (v1 : Int32) (v2 : Int32)   : Option (Int32) := fX8_numberFrom_0 x2 v1 v2

set_option maxHeartbeats 4000000 in
set_option maxRecDepth 100000 in
theorem c_X8_numberFrom (l : Launch) {b0 : Nat} {D : GD} {n : Nat} {κ : QT} {X0 : XT} {Y0 : YT} {Z : ZT} (hL : LY n κ) {x2 : Nat → Int32} (hx : ([2] : List Nat).map X0 = [x2]) (hy : ([] : List Nat).map Y0 = []) {v1 : Int32} {v2 : Int32} {r : Int32} (hf : fX8_numberFrom x2 v1 v2 = some r) : gMi l yX8_numberFrom cX8_numberFrom 5 (some FieldType.int) 0 0 0 0 b0 D [.ref (b0 + 1), .int v1, .int v2] (n, κ, X0, Y0, Z) (n, κ, ov X0 [2] [x2], ov Y0 [] [], Z) r := by
  have hN : ([2] : List Nat).Nodup := by decide
  have hM : ([] : List Nat).Nodup := by decide
  refine g_meti (own := RX8) (by decide) rfl rfl (Nat.le_of_ble_eq_true rfl) ?_
  intro K hC hret
  have e := wX8_numberFrom_0 hL hN hM hC  hret hf
  rw [ov_id' hx, ov_id' hy] at e
  exact g_sub [0, 1, 2] rfl e

-- X8_signAt
def fX8_signAt_181   (x1 : Nat → Int32) (x2 : Nat → Int32)   : Option (Int32) := some 3
set_option maxHeartbeats 4000000 in
set_option maxRecDepth 100000 in
theorem wX8_signAt_181 {l : Launch} {b0 : Nat} {D : GD} {K : KT} {n : Nat} {κ : QT} {X0 : XT} {Y0 : YT} {Z : ZT} (hL : LY n κ) (hN : ([1, 2] : List Nat).Nodup) (hM : ([] : List Nat).Nodup) (hC : gC l b0 D K RX8 cX8_signAt (some FieldType.int) 3 0 0 0 0) {x1 : Nat → Int32} {x2 : Nat → Int32} {r : Int32} (hret : ∀ pc loc, narrow .int (.int r) = .int r → decode cX8_signAt pc = .ok (.ireturn, 1) → gV l b0 D K (n, κ, ov X0 [1, 2] [x1, x2], ov Y0 [] [], Z, 0, 0) pc loc [.int r])  (hf : fX8_signAt_181 x1 x2   = some r) : gV l b0 D K (n, κ, ov X0 [1, 2] [x1, x2], ov Y0 [] [], Z, 0, 0) 181 [] [] := by
  unfold fX8_signAt_181 at hf
  refine g_iconst hC (v := 3) dX8_signAt_181 ic_3 ?_
  obtain rfl := sm1E hf
  exact hret _ _ rfl dX8_signAt_182

def fX8_signAt_28   (x1 : Nat → Int32) (x2 : Nat → Int32)  (v1 : Int32) (s0 : Int32) : Option (Int32) := gd (inb v1 400) (bn (x2 v1.toNatClampNeg) fun t_2 => (if t_2.toInt = 37 then (some 11) else (if t_2.toInt = 42 then (some 9) else (if t_2.toInt = 43 then (some 7) else (if t_2.toInt = 45 then (some 8) else (if t_2.toInt = 47 then (some 10) else (if t_2.toInt = 59 then (some 4) else (if t_2.toInt = 60 then (if s0 = 0 then (some 12) else (some 13)) else (if t_2.toInt = 61 then (some 14) else (if t_2.toInt = 62 then (if s0 = 0 then (some 16) else (some 15)) else (if t_2.toInt = 91 then (some 5) else (if t_2.toInt = 93 then (some 6) else (fX8_signAt_181 x1 x2  )))))))))))))
set_option maxHeartbeats 4000000 in
set_option maxRecDepth 100000 in
theorem wX8_signAt_28 {l : Launch} {b0 : Nat} {D : GD} {K : KT} {n : Nat} {κ : QT} {X0 : XT} {Y0 : YT} {Z : ZT} (hL : LY n κ) (hN : ([1, 2] : List Nat).Nodup) (hM : ([] : List Nat).Nodup) (hC : gC l b0 D K RX8 cX8_signAt (some FieldType.int) 3 0 0 0 0) {x1 : Nat → Int32} {x2 : Nat → Int32} {r : Int32} (hret : ∀ pc loc, narrow .int (.int r) = .int r → decode cX8_signAt pc = .ok (.ireturn, 1) → gV l b0 D K (n, κ, ov X0 [1, 2] [x1, x2], ov Y0 [] [], Z, 0, 0) pc loc [.int r]) {v1 : Int32} {s0 : Int32} (hf : fX8_signAt_28 x1 x2  v1 s0 = some r) : gV l b0 D K (n, κ, ov X0 [1, 2] [x1, x2], ov Y0 [] [], Z, 0, 0) 28 [(0, .ref (b0 + 1)), (1, .int v1)] [.int s0] := by
  unfold fX8_signAt_28 at hf
  refine g_istore_n hC (i := 2) [(2, .int s0), (0, .ref (b0 + 1)), (1, .int v1)] rfl dX8_signAt_28 (by decide) rfl ?_
  refine g_aload_n hC 1 dX8_signAt_29 rfl rfl ?_
  refine gt_X8_9 hC (a := 1) (kk_1 hL) (kn_1 hL) dX8_signAt_30 ?_
  refine g_ref (b := 2) rfl ?_
  refine g_iload_n hC 2 dX8_signAt_33 rfl rfl ?_
  obtain ⟨h_1, hf⟩ := gdE hf
  refine g_bald hC (x := x2) (kk_2 hL) (kn_2 hL) (ov_get hN 1 rfl rfl) (inb_in h_1) dX8_signAt_34 ?_
  obtain ⟨t_2, et_2, hf⟩ := bnE hf
  refine g_topi et_2 ?_
  by_cases c_3 : t_2.toInt = 37
  · replace hf := ifT hf c_3
    refine g_look hC (off := 116) 151 dX8_signAt_35 (by decide) (by rw [c_3]; rfl) (by decide) ?_
    refine g_bipush hC (v := 11) dX8_signAt_151 bp_11 ?_
    obtain rfl := sm1E hf
    exact hret _ _ rfl dX8_signAt_153
  replace hf := ifF hf c_3
  by_cases c_4 : t_2.toInt = 42
  · replace hf := ifT hf c_4
    refine g_look hC (off := 110) 145 dX8_signAt_35 (by decide) (by rw [c_4]; rfl) (by decide) ?_
    refine g_bipush hC (v := 9) dX8_signAt_145 bp_9 ?_
    obtain rfl := sm1E hf
    exact hret _ _ rfl dX8_signAt_147
  replace hf := ifF hf c_4
  by_cases c_5 : t_2.toInt = 43
  · replace hf := ifT hf c_5
    refine g_look hC (off := 104) 139 dX8_signAt_35 (by decide) (by rw [c_5]; rfl) (by decide) ?_
    refine g_bipush hC (v := 7) dX8_signAt_139 bp_7 ?_
    obtain rfl := sm1E hf
    exact hret _ _ rfl dX8_signAt_141
  replace hf := ifF hf c_5
  by_cases c_6 : t_2.toInt = 45
  · replace hf := ifT hf c_6
    refine g_look hC (off := 107) 142 dX8_signAt_35 (by decide) (by rw [c_6]; rfl) (by decide) ?_
    refine g_bipush hC (v := 8) dX8_signAt_142 bp_8 ?_
    obtain rfl := sm1E hf
    exact hret _ _ rfl dX8_signAt_144
  replace hf := ifF hf c_6
  by_cases c_7 : t_2.toInt = 47
  · replace hf := ifT hf c_7
    refine g_look hC (off := 113) 148 dX8_signAt_35 (by decide) (by rw [c_7]; rfl) (by decide) ?_
    refine g_bipush hC (v := 10) dX8_signAt_148 bp_10 ?_
    obtain rfl := sm1E hf
    exact hret _ _ rfl dX8_signAt_150
  replace hf := ifF hf c_7
  by_cases c_8 : t_2.toInt = 59
  · replace hf := ifT hf c_8
    refine g_look hC (off := 97) 132 dX8_signAt_35 (by decide) (by rw [c_8]; rfl) (by decide) ?_
    refine g_iconst hC (v := 4) dX8_signAt_132 ic_4 ?_
    obtain rfl := sm1E hf
    exact hret _ _ rfl dX8_signAt_133
  replace hf := ifF hf c_8
  by_cases c_9 : t_2.toInt = 60
  · replace hf := ifT hf c_9
    refine g_look hC (off := 122) 157 dX8_signAt_35 (by decide) (by rw [c_9]; rfl) (by decide) ?_
    refine g_iload_n hC 0 dX8_signAt_157 rfl rfl ?_
    refine g_if_eq hC 166 dX8_signAt_158 (by decide) (fun hc => ?_) (fun hc => ?_)
    · replace hf := ifT hf hc
      refine g_bipush hC (v := 12) dX8_signAt_166 bp_12 ?_
      obtain rfl := sm1E hf
      exact hret _ _ rfl dX8_signAt_168
    · replace hf := ifF hf hc
      refine g_bipush hC (v := 13) dX8_signAt_161 bp_13 ?_
      refine g_goto hC 168 dX8_signAt_163 (by decide) ?_
      obtain rfl := sm1E hf
      exact hret _ _ rfl dX8_signAt_168
  replace hf := ifF hf c_9
  by_cases c_10 : t_2.toInt = 61
  · replace hf := ifT hf c_10
    refine g_look hC (off := 119) 154 dX8_signAt_35 (by decide) (by rw [c_10]; rfl) (by decide) ?_
    refine g_bipush hC (v := 14) dX8_signAt_154 bp_14 ?_
    obtain rfl := sm1E hf
    exact hret _ _ rfl dX8_signAt_156
  replace hf := ifF hf c_10
  by_cases c_11 : t_2.toInt = 62
  · replace hf := ifT hf c_11
    refine g_look hC (off := 134) 169 dX8_signAt_35 (by decide) (by rw [c_11]; rfl) (by decide) ?_
    refine g_iload_n hC 0 dX8_signAt_169 rfl rfl ?_
    refine g_if_eq hC 178 dX8_signAt_170 (by decide) (fun hc => ?_) (fun hc => ?_)
    · replace hf := ifT hf hc
      refine g_bipush hC (v := 16) dX8_signAt_178 bp_16 ?_
      obtain rfl := sm1E hf
      exact hret _ _ rfl dX8_signAt_180
    · replace hf := ifF hf hc
      refine g_bipush hC (v := 15) dX8_signAt_173 bp_15 ?_
      refine g_goto hC 180 dX8_signAt_175 (by decide) ?_
      obtain rfl := sm1E hf
      exact hret _ _ rfl dX8_signAt_180
  replace hf := ifF hf c_11
  by_cases c_12 : t_2.toInt = 91
  · replace hf := ifT hf c_12
    refine g_look hC (off := 99) 134 dX8_signAt_35 (by decide) (by rw [c_12]; rfl) (by decide) ?_
    refine g_iconst hC (v := 5) dX8_signAt_134 ic_5 ?_
    obtain rfl := sm1E hf
    exact hret _ _ rfl dX8_signAt_135
  replace hf := ifF hf c_12
  by_cases c_13 : t_2.toInt = 93
  · replace hf := ifT hf c_13
    refine g_look hC (off := 101) 136 dX8_signAt_35 (by decide) (by rw [c_13]; rfl) (by decide) ?_
    refine g_bipush hC (v := 6) dX8_signAt_136 bp_6 ?_
    obtain rfl := sm1E hf
    exact hret _ _ rfl dX8_signAt_138
  replace hf := ifF hf c_13
  refine g_look hC (off := 146) 181 dX8_signAt_35 (by decide) (by simp [Op.lookupswitch.offset, Ne.symm c_3, Ne.symm c_4, Ne.symm c_5, Ne.symm c_6, Ne.symm c_7, Ne.symm c_8, Ne.symm c_9, Ne.symm c_10, Ne.symm c_11, Ne.symm c_12, Ne.symm c_13]) (by decide) ?_
  exact g_sub [] rfl (wX8_signAt_181 hL hN hM hC  hret  hf)

def fX8_signAt_27   (x1 : Nat → Int32) (x2 : Nat → Int32)  (v1 : Int32) : Option (Int32) := fX8_signAt_28 x1 x2  v1 0
set_option maxHeartbeats 4000000 in
set_option maxRecDepth 100000 in
theorem wX8_signAt_27 {l : Launch} {b0 : Nat} {D : GD} {K : KT} {n : Nat} {κ : QT} {X0 : XT} {Y0 : YT} {Z : ZT} (hL : LY n κ) (hN : ([1, 2] : List Nat).Nodup) (hM : ([] : List Nat).Nodup) (hC : gC l b0 D K RX8 cX8_signAt (some FieldType.int) 3 0 0 0 0) {x1 : Nat → Int32} {x2 : Nat → Int32} {r : Int32} (hret : ∀ pc loc, narrow .int (.int r) = .int r → decode cX8_signAt pc = .ok (.ireturn, 1) → gV l b0 D K (n, κ, ov X0 [1, 2] [x1, x2], ov Y0 [] [], Z, 0, 0) pc loc [.int r]) {v1 : Int32} (hf : fX8_signAt_27 x1 x2  v1 = some r) : gV l b0 D K (n, κ, ov X0 [1, 2] [x1, x2], ov Y0 [] [], Z, 0, 0) 27 [(0, .ref (b0 + 1)), (1, .int v1)] [] := by
  unfold fX8_signAt_27 at hf
  refine g_iconst hC (v := 0) dX8_signAt_27 ic_0 ?_
  exact g_sub [0, 1] rfl (wX8_signAt_28 hL hN hM hC  hret  hf)

def fX8_signAt_0   (x1 : Nat → Int32) (x2 : Nat → Int32)  (v1 : Int32) : Option (Int32) := if (x1 1) ≤ (v1 + 1) then (fX8_signAt_27 x1 x2  v1) else (gd (inb (v1 + 1) 400) (if (x2 (v1 + 1).toNatClampNeg) = 61 then (fX8_signAt_28 x1 x2  v1 1) else (fX8_signAt_27 x1 x2  v1)))
set_option maxHeartbeats 4000000 in
set_option maxRecDepth 100000 in
theorem wX8_signAt_0 {l : Launch} {b0 : Nat} {D : GD} {K : KT} {n : Nat} {κ : QT} {X0 : XT} {Y0 : YT} {Z : ZT} (hL : LY n κ) (hN : ([1, 2] : List Nat).Nodup) (hM : ([] : List Nat).Nodup) (hC : gC l b0 D K RX8 cX8_signAt (some FieldType.int) 3 0 0 0 0) {x1 : Nat → Int32} {x2 : Nat → Int32} {r : Int32} (hret : ∀ pc loc, narrow .int (.int r) = .int r → decode cX8_signAt pc = .ok (.ireturn, 1) → gV l b0 D K (n, κ, ov X0 [1, 2] [x1, x2], ov Y0 [] [], Z, 0, 0) pc loc [.int r]) {v1 : Int32} (hf : fX8_signAt_0 x1 x2  v1 = some r) : gV l b0 D K (n, κ, ov X0 [1, 2] [x1, x2], ov Y0 [] [], Z, 0, 0) 0 [(0, .ref (b0 + 1)), (1, .int v1)] [] := by
  unfold fX8_signAt_0 at hf
  refine g_iload_n hC 1 dX8_signAt_0 rfl rfl ?_
  refine g_iconst hC (v := 1) dX8_signAt_1 ic_1 ?_
  refine g_iadd hC dX8_signAt_2 ?_
  refine g_aload_n hC 0 dX8_signAt_3 rfl rfl ?_
  refine gt_X8_25 hC (x := x1) (kk_1 hL) (kn_1 hL) (ov_get hN 0 rfl rfl) dX8_signAt_4 ?_
  refine g_icmp_ge hC 27 dX8_signAt_7 (by decide) (fun hc => ?_) (fun hc => ?_)
  · replace hf := ifT hf hc
    exact g_sub [0, 1] rfl (wX8_signAt_27 hL hN hM hC  hret  hf)
  · replace hf := ifF hf hc
    refine g_aload_n hC 0 dX8_signAt_10 rfl rfl ?_
    refine gt_X8_9 hC (a := 1) (kk_1 hL) (kn_1 hL) dX8_signAt_11 ?_
    refine g_ref (b := 2) rfl ?_
    refine g_iload_n hC 1 dX8_signAt_14 rfl rfl ?_
    refine g_iconst hC (v := 1) dX8_signAt_15 ic_1 ?_
    refine g_iadd hC dX8_signAt_16 ?_
    obtain ⟨h_1, hf⟩ := gdE hf
    refine g_bald hC (x := x2) (kk_2 hL) (kn_2 hL) (ov_get hN 1 rfl rfl) (inb_in h_1) dX8_signAt_17 ?_
    refine g_bipush hC (v := 61) dX8_signAt_18 bp_61 ?_
    refine g_icmp_ne hC 27 dX8_signAt_20 (by decide) (fun hc => ?_) (fun hc => ?_)
    · replace hf := ifF hf hc
      exact g_sub [0, 1] rfl (wX8_signAt_27 hL hN hM hC  hret  hf)
    · replace hf := ifT hf hc
      refine g_iconst hC (v := 1) dX8_signAt_23 ic_1 ?_
      refine g_goto hC 28 dX8_signAt_24 (by decide) ?_
      exact g_sub [0, 1] rfl (wX8_signAt_28 hL hN hM hC  hret  hf)

def fX8_signAt   (x1 : Nat → Int32) (x2 : Nat → Int32)  (v1 : Int32)   : Option (Int32) := fX8_signAt_0 x1 x2 v1

set_option maxHeartbeats 4000000 in
set_option maxRecDepth 100000 in
theorem c_X8_signAt (l : Launch) {b0 : Nat} {D : GD} {n : Nat} {κ : QT} {X0 : XT} {Y0 : YT} {Z : ZT} (hL : LY n κ) {x1 : Nat → Int32} {x2 : Nat → Int32} (hx : ([1, 2] : List Nat).map X0 = [x1, x2]) (hy : ([] : List Nat).map Y0 = []) {v1 : Int32} {r : Int32} (hf : fX8_signAt x1 x2 v1 = some r) : gMi l yX8_signAt cX8_signAt 3 (some FieldType.int) 0 0 0 0 b0 D [.ref (b0 + 1), .int v1] (n, κ, X0, Y0, Z) (n, κ, ov X0 [1, 2] [x1, x2], ov Y0 [] [], Z) r := by
  have hN : ([1, 2] : List Nat).Nodup := by decide
  have hM : ([] : List Nat).Nodup := by decide
  refine g_meti (own := RX8) (by decide) rfl rfl (Nat.le_of_ble_eq_true rfl) ?_
  intro K hC hret
  have e := wX8_signAt_0 hL hN hM hC  hret hf
  rw [ov_id' hx, ov_id' hy] at e
  exact g_sub [0, 1] rfl e

-- X8_wordOf
def fX8_wordOf_0     (v0 : Int32) : Option (Nat) := if v0.toInt = 17 then (some 0) else (if v0.toInt = 18 then (some 1) else (if v0.toInt = 19 then (some 2) else (if v0.toInt = 20 then (some 3) else (if v0.toInt = 21 then (some 4) else (if v0.toInt = 22 then (some 5) else (if v0.toInt = 23 then (some 6) else (if v0.toInt = 24 then (some 7) else (if v0.toInt = 25 then (some 8) else (if v0.toInt = 26 then (some 9) else (if v0.toInt = 27 then (some 10) else (if v0.toInt = 28 then (some 11) else (if v0.toInt = 29 then (some 12) else (if v0.toInt = 30 then (some 13) else (if v0.toInt = 31 then (some 14) else (if v0.toInt = 32 then (some 15) else (if v0.toInt = 33 then (some 16) else (if v0.toInt = 34 then (some 17) else (if v0.toInt = 35 then (some 18) else (some 19)))))))))))))))))))
set_option maxHeartbeats 4000000 in
set_option maxRecDepth 100000 in
theorem wX8_wordOf_0 {l : Launch} {b0 : Nat} {D : GD} {K : KT} {n : Nat} {κ : QT} {X0 : XT} {Y0 : YT} {Z : ZT} (hL : LY n κ) (hN : ([] : List Nat).Nodup) (hM : ([] : List Nat).Nodup) (hC : gC l b0 D K RX8 cX8_wordOf (some (FieldType.object "java/lang/String")) 1 0 0 0 0) {r : Nat} (hret : ∀ pc loc, decode cX8_wordOf pc = .ok (.areturn, 1) → gV l b0 D K (n, κ, ov X0 [] [], ov Y0 [] [], Z, 0, 0) pc loc [.ref (D.2 (100 + r))]) {v0 : Int32} (hf : fX8_wordOf_0   v0 = some r) : gV l b0 D K (n, κ, ov X0 [] [], ov Y0 [] [], Z, 0, 0) 0 [(0, .int v0)] [] := by
  unfold fX8_wordOf_0 at hf
  refine g_iload_n hC 0 dX8_wordOf_0 rfl rfl ?_
  by_cases c_1 : v0.toInt = 17
  · replace hf := ifT hf c_1
    refine g_tabIn hC 92 dX8_wordOf_1 (by omega) (by omega) (by rw [c_1]; rfl) (by decide) ?_
    refine g_ldcS hC (i := 0) (List.mem_of_getElem? (i := 0) rfl) dX8_wordOf_92 ?_
    obtain rfl := sm1E hf
    exact hret _ _ dX8_wordOf_94
  replace hf := ifF hf c_1
  by_cases c_2 : v0.toInt = 18
  · replace hf := ifT hf c_2
    refine g_tabIn hC 95 dX8_wordOf_1 (by omega) (by omega) (by rw [c_2]; rfl) (by decide) ?_
    refine g_ldcS hC (i := 1) (List.mem_of_getElem? (i := 1) rfl) dX8_wordOf_95 ?_
    obtain rfl := sm1E hf
    exact hret _ _ dX8_wordOf_97
  replace hf := ifF hf c_2
  by_cases c_3 : v0.toInt = 19
  · replace hf := ifT hf c_3
    refine g_tabIn hC 98 dX8_wordOf_1 (by omega) (by omega) (by rw [c_3]; rfl) (by decide) ?_
    refine g_ldcS hC (i := 2) (List.mem_of_getElem? (i := 2) rfl) dX8_wordOf_98 ?_
    obtain rfl := sm1E hf
    exact hret _ _ dX8_wordOf_100
  replace hf := ifF hf c_3
  by_cases c_4 : v0.toInt = 20
  · replace hf := ifT hf c_4
    refine g_tabIn hC 101 dX8_wordOf_1 (by omega) (by omega) (by rw [c_4]; rfl) (by decide) ?_
    refine g_ldcS hC (i := 3) (List.mem_of_getElem? (i := 3) rfl) dX8_wordOf_101 ?_
    obtain rfl := sm1E hf
    exact hret _ _ dX8_wordOf_103
  replace hf := ifF hf c_4
  by_cases c_5 : v0.toInt = 21
  · replace hf := ifT hf c_5
    refine g_tabIn hC 104 dX8_wordOf_1 (by omega) (by omega) (by rw [c_5]; rfl) (by decide) ?_
    refine g_ldcS hC (i := 4) (List.mem_of_getElem? (i := 4) rfl) dX8_wordOf_104 ?_
    obtain rfl := sm1E hf
    exact hret _ _ dX8_wordOf_106
  replace hf := ifF hf c_5
  by_cases c_6 : v0.toInt = 22
  · replace hf := ifT hf c_6
    refine g_tabIn hC 107 dX8_wordOf_1 (by omega) (by omega) (by rw [c_6]; rfl) (by decide) ?_
    refine g_ldcS hC (i := 5) (List.mem_of_getElem? (i := 5) rfl) dX8_wordOf_107 ?_
    obtain rfl := sm1E hf
    exact hret _ _ dX8_wordOf_109
  replace hf := ifF hf c_6
  by_cases c_7 : v0.toInt = 23
  · replace hf := ifT hf c_7
    refine g_tabIn hC 110 dX8_wordOf_1 (by omega) (by omega) (by rw [c_7]; rfl) (by decide) ?_
    refine g_ldcS hC (i := 6) (List.mem_of_getElem? (i := 6) rfl) dX8_wordOf_110 ?_
    obtain rfl := sm1E hf
    exact hret _ _ dX8_wordOf_112
  replace hf := ifF hf c_7
  by_cases c_8 : v0.toInt = 24
  · replace hf := ifT hf c_8
    refine g_tabIn hC 113 dX8_wordOf_1 (by omega) (by omega) (by rw [c_8]; rfl) (by decide) ?_
    refine g_ldcS hC (i := 7) (List.mem_of_getElem? (i := 7) rfl) dX8_wordOf_113 ?_
    obtain rfl := sm1E hf
    exact hret _ _ dX8_wordOf_115
  replace hf := ifF hf c_8
  by_cases c_9 : v0.toInt = 25
  · replace hf := ifT hf c_9
    refine g_tabIn hC 116 dX8_wordOf_1 (by omega) (by omega) (by rw [c_9]; rfl) (by decide) ?_
    refine g_ldcS hC (i := 8) (List.mem_of_getElem? (i := 8) rfl) dX8_wordOf_116 ?_
    obtain rfl := sm1E hf
    exact hret _ _ dX8_wordOf_118
  replace hf := ifF hf c_9
  by_cases c_10 : v0.toInt = 26
  · replace hf := ifT hf c_10
    refine g_tabIn hC 119 dX8_wordOf_1 (by omega) (by omega) (by rw [c_10]; rfl) (by decide) ?_
    refine g_ldcS hC (i := 9) (List.mem_of_getElem? (i := 9) rfl) dX8_wordOf_119 ?_
    obtain rfl := sm1E hf
    exact hret _ _ dX8_wordOf_121
  replace hf := ifF hf c_10
  by_cases c_11 : v0.toInt = 27
  · replace hf := ifT hf c_11
    refine g_tabIn hC 122 dX8_wordOf_1 (by omega) (by omega) (by rw [c_11]; rfl) (by decide) ?_
    refine g_ldcS hC (i := 10) (List.mem_of_getElem? (i := 10) rfl) dX8_wordOf_122 ?_
    obtain rfl := sm1E hf
    exact hret _ _ dX8_wordOf_124
  replace hf := ifF hf c_11
  by_cases c_12 : v0.toInt = 28
  · replace hf := ifT hf c_12
    refine g_tabIn hC 125 dX8_wordOf_1 (by omega) (by omega) (by rw [c_12]; rfl) (by decide) ?_
    refine g_ldcS hC (i := 11) (List.mem_of_getElem? (i := 11) rfl) dX8_wordOf_125 ?_
    obtain rfl := sm1E hf
    exact hret _ _ dX8_wordOf_127
  replace hf := ifF hf c_12
  by_cases c_13 : v0.toInt = 29
  · replace hf := ifT hf c_13
    refine g_tabIn hC 128 dX8_wordOf_1 (by omega) (by omega) (by rw [c_13]; rfl) (by decide) ?_
    refine g_ldcS hC (i := 12) (List.mem_of_getElem? (i := 12) rfl) dX8_wordOf_128 ?_
    obtain rfl := sm1E hf
    exact hret _ _ dX8_wordOf_130
  replace hf := ifF hf c_13
  by_cases c_14 : v0.toInt = 30
  · replace hf := ifT hf c_14
    refine g_tabIn hC 131 dX8_wordOf_1 (by omega) (by omega) (by rw [c_14]; rfl) (by decide) ?_
    refine g_ldcS hC (i := 13) (List.mem_of_getElem? (i := 13) rfl) dX8_wordOf_131 ?_
    obtain rfl := sm1E hf
    exact hret _ _ dX8_wordOf_133
  replace hf := ifF hf c_14
  by_cases c_15 : v0.toInt = 31
  · replace hf := ifT hf c_15
    refine g_tabIn hC 134 dX8_wordOf_1 (by omega) (by omega) (by rw [c_15]; rfl) (by decide) ?_
    refine g_ldcS hC (i := 14) (List.mem_of_getElem? (i := 14) rfl) dX8_wordOf_134 ?_
    obtain rfl := sm1E hf
    exact hret _ _ dX8_wordOf_136
  replace hf := ifF hf c_15
  by_cases c_16 : v0.toInt = 32
  · replace hf := ifT hf c_16
    refine g_tabIn hC 137 dX8_wordOf_1 (by omega) (by omega) (by rw [c_16]; rfl) (by decide) ?_
    refine g_ldcS hC (i := 15) (List.mem_of_getElem? (i := 15) rfl) dX8_wordOf_137 ?_
    obtain rfl := sm1E hf
    exact hret _ _ dX8_wordOf_139
  replace hf := ifF hf c_16
  by_cases c_17 : v0.toInt = 33
  · replace hf := ifT hf c_17
    refine g_tabIn hC 140 dX8_wordOf_1 (by omega) (by omega) (by rw [c_17]; rfl) (by decide) ?_
    refine g_ldcS hC (i := 16) (List.mem_of_getElem? (i := 16) rfl) dX8_wordOf_140 ?_
    obtain rfl := sm1E hf
    exact hret _ _ dX8_wordOf_142
  replace hf := ifF hf c_17
  by_cases c_18 : v0.toInt = 34
  · replace hf := ifT hf c_18
    refine g_tabIn hC 143 dX8_wordOf_1 (by omega) (by omega) (by rw [c_18]; rfl) (by decide) ?_
    refine g_ldcS hC (i := 17) (List.mem_of_getElem? (i := 17) rfl) dX8_wordOf_143 ?_
    obtain rfl := sm1E hf
    exact hret _ _ dX8_wordOf_145
  replace hf := ifF hf c_18
  by_cases c_19 : v0.toInt = 35
  · replace hf := ifT hf c_19
    refine g_tabIn hC 146 dX8_wordOf_1 (by omega) (by omega) (by rw [c_19]; rfl) (by decide) ?_
    refine g_ldcS hC (i := 18) (List.mem_of_getElem? (i := 18) rfl) dX8_wordOf_146 ?_
    obtain rfl := sm1E hf
    exact hret _ _ dX8_wordOf_148
  replace hf := ifF hf c_19
  refine g_tabOut hC 149 dX8_wordOf_1 (by omega) (by decide) ?_
  refine g_ldcS hC (i := 19) (List.mem_of_getElem? (i := 19) rfl) dX8_wordOf_149 ?_
  obtain rfl := sm1E hf
  exact hret _ _ dX8_wordOf_151

def fX8_wordOf     (v0 : Int32)   : Option (Nat) := fX8_wordOf_0  v0

set_option maxHeartbeats 4000000 in
set_option maxRecDepth 100000 in
theorem c_X8_wordOf (l : Launch) {b0 : Nat} {D : GD} {n : Nat} {κ : QT} {X0 : XT} {Y0 : YT} {Z : ZT} (hL : LY n κ) (hx : ([] : List Nat).map X0 = []) (hy : ([] : List Nat).map Y0 = []) {v0 : Int32} {r : Nat} (hf : fX8_wordOf  v0 = some r) : gMs l yX8_wordOf cX8_wordOf 1 (some (FieldType.object "java/lang/String")) 0 0 0 0 b0 D [.int v0] (n, κ, X0, Y0, Z) (n, κ, ov X0 [] [], ov Y0 [] [], Z) r := by
  have hN : ([] : List Nat).Nodup := by decide
  have hM : ([] : List Nat).Nodup := by decide
  refine g_mets (own := RX8) (by decide) rfl rfl (Nat.le_of_ble_eq_true rfl) ?_
  intro K hC hret
  have e := wX8_wordOf_0 hL hN hM hC  hret hf
  rw [ov_id' hx, ov_id' hy] at e
  exact g_sub [0] rfl e

-- X8_isWord
def fX8_isWord_15b  (w1 : Nat) (x2 : Nat → Int32)  (k15 : Int32 → Int32 → Option (Int32)) (v2 : Int32) (v4 : Int32) : Option (Int32) := if (slen w1) ≤ v4 then (some 1) else (gd (inb (v2 + v4) 400) (gd (inb v4 (lenS.getD w1 0)) (if (x2 (v2 + v4).toNatClampNeg) = (sch w1 v4) then (bn (v4 + 1) fun t_3 => (k15 v2 t_3)) else (some 0))))
def fX8_isWord_15  (w1 : Nat) (x2 : Nat → Int32)  : Int32 → Int32 → Option (Int32) := lq2 (fX8_isWord_15b w1 x2 ) 5000
set_option maxHeartbeats 4000000 in
set_option maxRecDepth 100000 in
theorem wX8_isWord_15 {l : Launch} {b0 : Nat} {D : GD} {K : KT} {n : Nat} {κ : QT} {X0 : XT} {Y0 : YT} {Z : ZT} {w1 : Nat} (hL : LY n κ) (hs_w1 : w1 < nStr) (hN : ([2] : List Nat).Nodup) (hM : ([] : List Nat).Nodup) (hC : gC l b0 D K RX8 cX8_isWord (some FieldType.boolean) 5 4 85 0 0) {x2 : Nat → Int32} {r : Int32} (hret : ∀ pc loc, narrow .boolean (.int r) = .int r → decode cX8_isWord pc = .ok (.ireturn, 1) → gV l b0 D K (n, κ, ov X0 [2] [x2], ov Y0 [] [], Z, 0, 0) pc loc [.int r]) : ∀ (j : Nat) (v2 : Int32) (v4 : Int32), lq2 (fX8_isWord_15b w1 x2 ) j v2 v4 = some r → gV l b0 D K (n, κ, ov X0 [2] [x2], ov Y0 [] [], Z, 0, 0) 15 [(0, .ref (b0 + 1)), (1, .ref (D.2 (100 + w1))), (2, .int v2), (4, .int v4)] [] := by
  intro j
  induction j with
  | zero => intro v2 v4 hf; cases hf
  | succ j hk15 =>
    intro v2 v4 hf
    replace hf : fX8_isWord_15b w1 x2  (lq2 (fX8_isWord_15b w1 x2 ) j) v2 v4 = some r := hf
    unfold fX8_isWord_15b at hf
    refine g_iload hC 3 dX8_isWord_15 rfl ?_
    refine g_aload_n hC 1 dX8_isWord_17 rfl rfl ?_
    refine g_callT_i hC hs_w1 (c_strlen l hs_w1) tw_583 tw_580 tw_129 tw_581 tw_582 pd_J0_length_8abf5 (by decide) (by decide) (Nat.le_of_ble_eq_true rfl) rfl dX8_isWord_18 ?_
    refine g_icmp_ge hC 50 dX8_isWord_21 (by decide) (fun hc => ?_) (fun hc => ?_)
    · replace hf := ifT hf hc
      refine g_iconst hC (v := 1) dX8_isWord_50 ic_1 ?_
      obtain rfl := sm1E hf
      exact hret _ _ rfl dX8_isWord_51
    · replace hf := ifF hf hc
      refine g_aload_n hC 0 dX8_isWord_24 rfl rfl ?_
      refine gt_X8_9 hC (a := 1) (kk_1 hL) (kn_1 hL) dX8_isWord_25 ?_
      refine g_ref (b := 2) rfl ?_
      refine g_iload_n hC 2 dX8_isWord_28 rfl rfl ?_
      refine g_iload hC 3 dX8_isWord_29 rfl ?_
      refine g_iadd hC dX8_isWord_31 ?_
      obtain ⟨h_1, hf⟩ := gdE hf
      refine g_bald hC (x := x2) (kk_2 hL) (kn_2 hL) (ov_get hN 0 rfl rfl) (inb_in h_1) dX8_isWord_32 ?_
      refine g_aload_n hC 1 dX8_isWord_33 rfl rfl ?_
      refine g_iload hC 3 dX8_isWord_34 rfl ?_
      obtain ⟨h_2, hf⟩ := gdE hf
      refine g_callT_i hC hs_w1 (As := [.int v4]) (c_strchr l hs_w1 (inb_0 h_2) (inb_s hs_w1 h_2) (inb_in h_2)) tw_593 tw_590 tw_129 tw_591 tw_592 pd_J0_charAt_5068e (by decide) (by decide) (Nat.le_of_ble_eq_true rfl) rfl dX8_isWord_36 ?_
      refine g_icmp_eq hC 44 dX8_isWord_39 (by decide) (fun hc => ?_) (fun hc => ?_)
      · replace hf := ifT hf hc
        obtain ⟨t_3, et_3, hf⟩ := bnE hf
        refine g_iinc hC (i := 4) (v := t_3) [(4, .int t_3), (0, .ref (b0 + 1)), (1, .ref (D.2 (100 + w1))), (2, .int v2)] dX8_isWord_44 (q := 3) rfl ((congrArg (HAdd.hAdd v4) ic_1).trans et_3.symm) (by decide) rfl ?_
        refine g_goto hC 15 dX8_isWord_47 (by decide) ?_
        exact g_sub [1, 2, 3, 0] rfl (hk15 v2 t_3 hf)
      · replace hf := ifF hf hc
        refine g_iconst hC (v := 0) dX8_isWord_42 ic_0 ?_
        obtain rfl := sm1E hf
        exact hret _ _ rfl dX8_isWord_43

def fX8_isWord_0  (w1 : Nat) (x2 : Nat → Int32)  (v2 : Int32) (v3 : Int32) : Option (Int32) := if (slen w1) = (v3 - v2) then (fX8_isWord_15 w1 x2  v2 0) else (some 0)
set_option maxHeartbeats 4000000 in
set_option maxRecDepth 100000 in
theorem wX8_isWord_0 {l : Launch} {b0 : Nat} {D : GD} {K : KT} {n : Nat} {κ : QT} {X0 : XT} {Y0 : YT} {Z : ZT} {w1 : Nat} (hL : LY n κ) (hs_w1 : w1 < nStr) (hN : ([2] : List Nat).Nodup) (hM : ([] : List Nat).Nodup) (hC : gC l b0 D K RX8 cX8_isWord (some FieldType.boolean) 5 4 85 0 0) {x2 : Nat → Int32} {r : Int32} (hret : ∀ pc loc, narrow .boolean (.int r) = .int r → decode cX8_isWord pc = .ok (.ireturn, 1) → gV l b0 D K (n, κ, ov X0 [2] [x2], ov Y0 [] [], Z, 0, 0) pc loc [.int r]) {v2 : Int32} {v3 : Int32} (hf : fX8_isWord_0 w1 x2  v2 v3 = some r) : gV l b0 D K (n, κ, ov X0 [2] [x2], ov Y0 [] [], Z, 0, 0) 0 [(0, .ref (b0 + 1)), (1, .ref (D.2 (100 + w1))), (2, .int v2), (3, .int v3)] [] := by
  unfold fX8_isWord_0 at hf
  refine g_aload_n hC 1 dX8_isWord_0 rfl rfl ?_
  refine g_callT_i hC hs_w1 (c_strlen l hs_w1) tw_583 tw_580 tw_129 tw_581 tw_582 pd_J0_length_8abf5 (by decide) (by decide) (Nat.le_of_ble_eq_true rfl) rfl dX8_isWord_1 ?_
  refine g_iload_n hC 3 dX8_isWord_4 rfl rfl ?_
  refine g_iload_n hC 2 dX8_isWord_5 rfl rfl ?_
  refine g_isub hC dX8_isWord_6 ?_
  refine g_icmp_eq hC 12 dX8_isWord_7 (by decide) (fun hc => ?_) (fun hc => ?_)
  · replace hf := ifT hf hc
    refine g_iconst hC (v := 0) dX8_isWord_12 ic_0 ?_
    refine g_istore hC (i := 4) [(4, .int 0), (0, .ref (b0 + 1)), (1, .ref (D.2 (100 + w1))), (2, .int v2), (3, .int v3)] dX8_isWord_13 (by decide) rfl ?_
    exact g_sub [1, 2, 3, 0] rfl (wX8_isWord_15 hL hs_w1 hN hM hC  hret  5000 v2 0 hf)
  · replace hf := ifF hf hc
    refine g_iconst hC (v := 0) dX8_isWord_10 ic_0 ?_
    obtain rfl := sm1E hf
    exact hret _ _ rfl dX8_isWord_11

def fX8_isWord  (w1 : Nat) (x2 : Nat → Int32)  (v2 : Int32) (v3 : Int32)   : Option (Int32) := fX8_isWord_0 w1 x2 v2 v3

set_option maxHeartbeats 4000000 in
set_option maxRecDepth 100000 in
theorem c_X8_isWord (l : Launch) {b0 : Nat} {D : GD} {n : Nat} {κ : QT} {X0 : XT} {Y0 : YT} {Z : ZT} {w1 : Nat} (hL : LY n κ) (hs_w1 : w1 < nStr) {x2 : Nat → Int32} (hx : ([2] : List Nat).map X0 = [x2]) (hy : ([] : List Nat).map Y0 = []) {v2 : Int32} {v3 : Int32} {r : Int32} (hf : fX8_isWord w1 x2 v2 v3 = some r) : gMi l yX8_isWord cX8_isWord 5 (some FieldType.boolean) 4 85 0 0 b0 D [.ref (b0 + 1), .ref (D.2 (100 + w1)), .int v2, .int v3] (n, κ, X0, Y0, Z) (n, κ, ov X0 [2] [x2], ov Y0 [] [], Z) r := by
  have hN : ([2] : List Nat).Nodup := by decide
  have hM : ([] : List Nat).Nodup := by decide
  refine g_meti (own := RX8) (by decide) rfl rfl (Nat.le_of_ble_eq_true rfl) ?_
  intro K hC hret
  have e := wX8_isWord_0 hL hs_w1 hN hM hC  hret hf
  rw [ov_id' hx, ov_id' hy] at e
  exact g_sub [0, 1, 2, 3] rfl e

-- X8_wordFrom
def fX8_wordFrom_3b   (x2 : Nat → Int32)  (k3 : Int32 → Int32 → Int32 → Option (Int32)) (v1 : Int32) (v2 : Int32) (v3 : Int32) : Option (Int32) := if 36 < v3 then (some 3) else (bd1 (fX8_wordOf v3) fun r_1 => (gd (decide (r_1 < nStr)) (bd1 (fX8_isWord r_1 x2 v1 v2) fun r_4 => (if r_4 = 0 then (bn (v3 + 1) fun t_6 => (k3 v1 v2 t_6)) else (some v3)))))
def fX8_wordFrom_3   (x2 : Nat → Int32)  : Int32 → Int32 → Int32 → Option (Int32) := lq3 (fX8_wordFrom_3b x2 ) 5000
set_option maxHeartbeats 4000000 in
set_option maxRecDepth 100000 in
theorem wX8_wordFrom_3 {l : Launch} {b0 : Nat} {D : GD} {K : KT} {n : Nat} {κ : QT} {X0 : XT} {Y0 : YT} {Z : ZT} (hL : LY n κ) (hN : ([2] : List Nat).Nodup) (hM : ([] : List Nat).Nodup) (hC : gC l b0 D K RX8 cX8_wordFrom (some FieldType.int) 4 5 109 0 0) {x2 : Nat → Int32} {r : Int32} (hret : ∀ pc loc, narrow .int (.int r) = .int r → decode cX8_wordFrom pc = .ok (.ireturn, 1) → gV l b0 D K (n, κ, ov X0 [2] [x2], ov Y0 [] [], Z, 0, 0) pc loc [.int r]) : ∀ (j : Nat) (v1 : Int32) (v2 : Int32) (v3 : Int32), lq3 (fX8_wordFrom_3b x2 ) j v1 v2 v3 = some r → gV l b0 D K (n, κ, ov X0 [2] [x2], ov Y0 [] [], Z, 0, 0) 3 [(0, .ref (b0 + 1)), (1, .int v1), (2, .int v2), (3, .int v3)] [] := by
  intro j
  induction j with
  | zero => intro v1 v2 v3 hf; cases hf
  | succ j hk3 =>
    intro v1 v2 v3 hf
    replace hf : fX8_wordFrom_3b x2  (lq3 (fX8_wordFrom_3b x2 ) j) v1 v2 v3 = some r := hf
    unfold fX8_wordFrom_3b at hf
    refine g_iload_n hC 3 dX8_wordFrom_3 rfl rfl ?_
    refine g_bipush hC (v := 36) dX8_wordFrom_4 bp_36 ?_
    refine g_icmp_gt hC 30 dX8_wordFrom_6 (by decide) (fun hc => ?_) (fun hc => ?_)
    · replace hf := ifT hf hc
      refine g_iconst hC (v := 3) dX8_wordFrom_30 ic_3 ?_
      obtain rfl := sm1E hf
      exact hret _ _ rfl dX8_wordFrom_31
    · replace hf := ifF hf hc
      refine g_aload_n hC 0 dX8_wordFrom_9 rfl rfl ?_
      refine g_iload_n hC 3 dX8_wordFrom_10 rfl rfl ?_
      obtain ⟨r_1, q_2, hf⟩ := bd1E hf
      refine g_callS_s hC (X' := ov X0 [2] [x2]) (Y' := ov Y0 [] []) (As := [.int v3]) (gMs_eq (c_X8_wordOf l hL (ov_map hN [] (by rfl) (by rfl)) (ov_map hM [] (by rfl) (by rfl)) q_2) (ov_ovE hN (by rfl) [] [0] (by rfl) (by rfl) [x2] (by rfl) (by rfl) (by rfl) 1 (by rfl) (by decide)) (ov_ovE hM (by rfl) [] [] (by rfl) (by rfl) [] (by rfl) (by rfl) (by rfl) 0 (by rfl) (by decide))) tw_555 tw_553 tw_117 tw_554 pd_X8_wordOf (by decide) (by decide) rfl rfl (Nat.le_of_ble_eq_true rfl) rfl dX8_wordFrom_11 ?_
      obtain ⟨h_3, hf⟩ := gdE hf
      refine g_iload_n hC 1 dX8_wordFrom_14 rfl rfl ?_
      refine g_iload_n hC 2 dX8_wordFrom_15 rfl rfl ?_
      obtain ⟨r_4, q_5, hf⟩ := bd1E hf
      refine g_callV_i (a := 1) hC (X' := ov X0 [2] [x2]) (Y' := ov Y0 [] []) (As := [.ref (D.2 (100 + r_1)), .int v1, .int v2]) (gMi_eq (c_X8_isWord l hL (of_decide_eq_true h_3) (ov_map hN [0] (by rfl) (by rfl)) (ov_map hM [] (by rfl) (by rfl)) q_5) (ov_ovE hN (by rfl) [0] [] (by rfl) (by rfl) [] (by rfl) (by rfl) (by rfl) 1 (by rfl) (by decide)) (ov_ovE hM (by rfl) [] [] (by rfl) (by rfl) [] (by rfl) (by rfl) (by rfl) 0 (by rfl) (by decide))) tw_579 tw_576 tw_117 tw_578 tw_5 (ci := 8) rfl (by decide) (kk_1 hL) (kn_1 hL) pd_X8_isWord (by decide) (by decide) rfl rfl (Nat.le_of_ble_eq_true rfl) rfl dX8_wordFrom_16 ?_
      refine g_if_eq hC 24 dX8_wordFrom_19 (by decide) (fun hc => ?_) (fun hc => ?_)
      · replace hf := ifT hf hc
        obtain ⟨t_6, et_6, hf⟩ := bnE hf
        refine g_iinc hC (i := 3) (v := t_6) [(3, .int t_6), (0, .ref (b0 + 1)), (1, .int v1), (2, .int v2)] dX8_wordFrom_24 (q := 3) rfl ((congrArg (HAdd.hAdd v3) ic_1).trans et_6.symm) (by decide) rfl ?_
        refine g_goto hC 3 dX8_wordFrom_27 (by decide) ?_
        exact g_sub [1, 2, 3, 0] rfl (hk3 v1 v2 t_6 hf)
      · replace hf := ifF hf hc
        refine g_iload_n hC 3 dX8_wordFrom_22 rfl rfl ?_
        obtain rfl := sm1E hf
        exact hret _ _ rfl dX8_wordFrom_23

def fX8_wordFrom_0   (x2 : Nat → Int32)  (v1 : Int32) (v2 : Int32) : Option (Int32) := fX8_wordFrom_3 x2  v1 v2 17
set_option maxHeartbeats 4000000 in
set_option maxRecDepth 100000 in
theorem wX8_wordFrom_0 {l : Launch} {b0 : Nat} {D : GD} {K : KT} {n : Nat} {κ : QT} {X0 : XT} {Y0 : YT} {Z : ZT} (hL : LY n κ) (hN : ([2] : List Nat).Nodup) (hM : ([] : List Nat).Nodup) (hC : gC l b0 D K RX8 cX8_wordFrom (some FieldType.int) 4 5 109 0 0) {x2 : Nat → Int32} {r : Int32} (hret : ∀ pc loc, narrow .int (.int r) = .int r → decode cX8_wordFrom pc = .ok (.ireturn, 1) → gV l b0 D K (n, κ, ov X0 [2] [x2], ov Y0 [] [], Z, 0, 0) pc loc [.int r]) {v1 : Int32} {v2 : Int32} (hf : fX8_wordFrom_0 x2  v1 v2 = some r) : gV l b0 D K (n, κ, ov X0 [2] [x2], ov Y0 [] [], Z, 0, 0) 0 [(0, .ref (b0 + 1)), (1, .int v1), (2, .int v2)] [] := by
  unfold fX8_wordFrom_0 at hf
  refine g_bipush hC (v := 17) dX8_wordFrom_0 bp_17 ?_
  refine g_istore_n hC (i := 3) [(3, .int 17), (0, .ref (b0 + 1)), (1, .int v1), (2, .int v2)] rfl dX8_wordFrom_2 (by decide) rfl ?_
  exact g_sub [1, 2, 3, 0] rfl (wX8_wordFrom_3 hL hN hM hC  hret  5000 v1 v2 17 hf)

def fX8_wordFrom   (x2 : Nat → Int32)  (v1 : Int32) (v2 : Int32)   : Option (Int32) := fX8_wordFrom_0 x2 v1 v2

set_option maxHeartbeats 4000000 in
set_option maxRecDepth 100000 in
theorem c_X8_wordFrom (l : Launch) {b0 : Nat} {D : GD} {n : Nat} {κ : QT} {X0 : XT} {Y0 : YT} {Z : ZT} (hL : LY n κ) {x2 : Nat → Int32} (hx : ([2] : List Nat).map X0 = [x2]) (hy : ([] : List Nat).map Y0 = []) {v1 : Int32} {v2 : Int32} {r : Int32} (hf : fX8_wordFrom x2 v1 v2 = some r) : gMi l yX8_wordFrom cX8_wordFrom 4 (some FieldType.int) 5 109 0 0 b0 D [.ref (b0 + 1), .int v1, .int v2] (n, κ, X0, Y0, Z) (n, κ, ov X0 [2] [x2], ov Y0 [] [], Z) r := by
  have hN : ([2] : List Nat).Nodup := by decide
  have hM : ([] : List Nat).Nodup := by decide
  refine g_meti (own := RX8) (by decide) rfl rfl (Nat.le_of_ble_eq_true rfl) ?_
  intro K hC hret
  have e := wX8_wordFrom_0 hL hN hM hC  hret hf
  rw [ov_id' hx, ov_id' hy] at e
  exact g_sub [0, 1, 2] rfl e

-- X8_scanOne
def fX8_scanOne_113   (x2 : Nat → Int32)  (s0 : Int32) (x1 : (Nat → Int32)) (x3 : (Nat → Int32)) (x4 : (Nat → Int32)) (x5 : (Nat → Int32)) : Option (Int32 × (Nat → Int32) × (Nat → Int32) × (Nat → Int32) × (Nat → Int32)) := some (s0 + 2, x1, x3, x4, x5)
set_option maxHeartbeats 4000000 in
set_option maxRecDepth 100000 in
theorem wX8_scanOne_113 {l : Launch} {b0 : Nat} {D : GD} {K : KT} {n : Nat} {κ : QT} {X0 : XT} {Y0 : YT} {Z : ZT} (hL : LY n κ) (hN : ([1, 2, 3, 4, 5] : List Nat).Nodup) (hM : ([] : List Nat).Nodup) (hC : gC l b0 D K RX8 cX8_scanOne (some FieldType.int) 4 6 132 0 0) {x2 : Nat → Int32} {r : Int32} {rx1 : (Nat → Int32)} {rx3 : (Nat → Int32)} {rx4 : (Nat → Int32)} {rx5 : (Nat → Int32)} (hret : ∀ pc loc, narrow .int (.int r) = .int r → decode cX8_scanOne pc = .ok (.ireturn, 1) → gV l b0 D K (n, κ, ov X0 [1, 2, 3, 4, 5] [rx1, x2, rx3, rx4, rx5], ov Y0 [] [], Z, 0, 0) pc loc [.int r]) {s0 : Int32} {x1 : (Nat → Int32)} {x3 : (Nat → Int32)} {x4 : (Nat → Int32)} {x5 : (Nat → Int32)} (hf : fX8_scanOne_113 x2  s0 x1 x3 x4 x5 = some (r, rx1, rx3, rx4, rx5)) : gV l b0 D K (n, κ, ov X0 [1, 2, 3, 4, 5] [x1, x2, x3, x4, x5], ov Y0 [] [], Z, 0, 0) 113 [] [.int s0] := by
  unfold fX8_scanOne_113 at hf
  refine g_iconst hC (v := 2) dX8_scanOne_113 ic_2 ?_
  refine g_goto hC 118 dX8_scanOne_114 (by decide) ?_
  refine g_iadd hC dX8_scanOne_118 ?_
  obtain ⟨rfl, rfl, rfl, rfl, rfl⟩ := sm5E hf
  exact hret _ _ rfl dX8_scanOne_119

def fX8_scanOne_53   (x2 : Nat → Int32)  (v2 : Int32) (s0 : Int32) (s1 : Int32) (s2 : Int32) (x1 : (Nat → Int32)) (x3 : (Nat → Int32)) (x4 : (Nat → Int32)) (x5 : (Nat → Int32)) : Option (Int32 × (Nat → Int32) × (Nat → Int32) × (Nat → Int32) × (Nat → Int32)) := bd4 (fX8_add s2 s1 s0 x1 x3 x4 x5) fun x1_1 x3_2 x4_3 x5_4 => (some (v2, x1_1, x3_2, x4_3, x5_4))
set_option maxHeartbeats 4000000 in
set_option maxRecDepth 100000 in
theorem wX8_scanOne_53 {l : Launch} {b0 : Nat} {D : GD} {K : KT} {n : Nat} {κ : QT} {X0 : XT} {Y0 : YT} {Z : ZT} (hL : LY n κ) (hN : ([1, 2, 3, 4, 5] : List Nat).Nodup) (hM : ([] : List Nat).Nodup) (hC : gC l b0 D K RX8 cX8_scanOne (some FieldType.int) 4 6 132 0 0) {x2 : Nat → Int32} {r : Int32} {rx1 : (Nat → Int32)} {rx3 : (Nat → Int32)} {rx4 : (Nat → Int32)} {rx5 : (Nat → Int32)} (hret : ∀ pc loc, narrow .int (.int r) = .int r → decode cX8_scanOne pc = .ok (.ireturn, 1) → gV l b0 D K (n, κ, ov X0 [1, 2, 3, 4, 5] [rx1, x2, rx3, rx4, rx5], ov Y0 [] [], Z, 0, 0) pc loc [.int r]) {v2 : Int32} {s0 : Int32} {s1 : Int32} {s2 : Int32} {x1 : (Nat → Int32)} {x3 : (Nat → Int32)} {x4 : (Nat → Int32)} {x5 : (Nat → Int32)} (hf : fX8_scanOne_53 x2  v2 s0 s1 s2 x1 x3 x4 x5 = some (r, rx1, rx3, rx4, rx5)) : gV l b0 D K (n, κ, ov X0 [1, 2, 3, 4, 5] [x1, x2, x3, x4, x5], ov Y0 [] [], Z, 0, 0) 53 [(2, .int v2)] [.int s0, .int s1, .int s2, .ref (b0 + 1)] := by
  unfold fX8_scanOne_53 at hf
  obtain ⟨x1_1, x3_2, x4_3, x5_4, q_5, hf⟩ := bd4E hf
  refine g_callV_v (a := 1) hC (X' := ov X0 [1, 2, 3, 4, 5] [x1_1, x2, x3_2, x4_3, x5_4]) (Y' := ov Y0 [] []) (As := [.int s2, .int s1, .int s0]) (gMv_eq (c_X8_add l hL (ov_map hN [0, 2, 3, 4] (by rfl) (by rfl)) (ov_map hM [] (by rfl) (by rfl)) q_5) (ov_ovE hN (by rfl) [0, 2, 3, 4] [1] (by rfl) (by rfl) [x2] (by rfl) (by rfl) (by rfl) 5 (by rfl) (by decide)) (ov_ovE hM (by rfl) [] [] (by rfl) (by rfl) [] (by rfl) (by rfl) (by rfl) 0 (by rfl) (by decide))) tw_548 tw_545 tw_117 tw_547 tw_3 (ci := 8) rfl (by decide) (kk_1 hL) (kn_1 hL) pd_X8_add (by decide) (by decide) rfl rfl (Nat.le_of_ble_eq_true rfl) rfl dX8_scanOne_53 ?_
  refine g_iload_n hC 0 dX8_scanOne_56 rfl rfl ?_
  obtain ⟨rfl, rfl, rfl, rfl, rfl⟩ := sm5E hf
  exact hret _ _ rfl dX8_scanOne_57

def fX8_scanOne_38   (x2 : Nat → Int32)  (v1 : Int32) (v2 : Int32) (v3 : Int32) (s0 : Int32) (x1 : (Nat → Int32)) (x3 : (Nat → Int32)) (x4 : (Nat → Int32)) (x5 : (Nat → Int32)) : Option (Int32 × (Nat → Int32) × (Nat → Int32) × (Nat → Int32) × (Nat → Int32)) := if v3 = 0 then (fX8_scanOne_53 x2  v2 0 v1 s0 x1 x3 x4 x5) else (bd1 (fX8_numberFrom x2 v1 v2) fun r_1 => (fX8_scanOne_53 x2  v2 r_1 v1 s0 x1 x3 x4 x5))
set_option maxHeartbeats 4000000 in
set_option maxRecDepth 100000 in
theorem wX8_scanOne_38 {l : Launch} {b0 : Nat} {D : GD} {K : KT} {n : Nat} {κ : QT} {X0 : XT} {Y0 : YT} {Z : ZT} (hL : LY n κ) (hN : ([1, 2, 3, 4, 5] : List Nat).Nodup) (hM : ([] : List Nat).Nodup) (hC : gC l b0 D K RX8 cX8_scanOne (some FieldType.int) 4 6 132 0 0) {x2 : Nat → Int32} {r : Int32} {rx1 : (Nat → Int32)} {rx3 : (Nat → Int32)} {rx4 : (Nat → Int32)} {rx5 : (Nat → Int32)} (hret : ∀ pc loc, narrow .int (.int r) = .int r → decode cX8_scanOne pc = .ok (.ireturn, 1) → gV l b0 D K (n, κ, ov X0 [1, 2, 3, 4, 5] [rx1, x2, rx3, rx4, rx5], ov Y0 [] [], Z, 0, 0) pc loc [.int r]) {v1 : Int32} {v2 : Int32} {v3 : Int32} {s0 : Int32} {x1 : (Nat → Int32)} {x3 : (Nat → Int32)} {x4 : (Nat → Int32)} {x5 : (Nat → Int32)} (hf : fX8_scanOne_38 x2  v1 v2 v3 s0 x1 x3 x4 x5 = some (r, rx1, rx3, rx4, rx5)) : gV l b0 D K (n, κ, ov X0 [1, 2, 3, 4, 5] [x1, x2, x3, x4, x5], ov Y0 [] [], Z, 0, 0) 38 [(0, .ref (b0 + 1)), (1, .int v1), (2, .int v2), (3, .int v3)] [.int s0, .ref (b0 + 1)] := by
  unfold fX8_scanOne_38 at hf
  refine g_iload_n hC 1 dX8_scanOne_38 rfl rfl ?_
  refine g_iload_n hC 3 dX8_scanOne_39 rfl rfl ?_
  refine g_if_eq hC 52 dX8_scanOne_40 (by decide) (fun hc => ?_) (fun hc => ?_)
  · replace hf := ifT hf hc
    refine g_iconst hC (v := 0) dX8_scanOne_52 ic_0 ?_
    exact g_sub [2] rfl (wX8_scanOne_53 hL hN hM hC  hret  hf)
  · replace hf := ifF hf hc
    refine g_aload_n hC 0 dX8_scanOne_43 rfl rfl ?_
    refine g_iload_n hC 1 dX8_scanOne_44 rfl rfl ?_
    refine g_iload_n hC 2 dX8_scanOne_45 rfl rfl ?_
    obtain ⟨r_1, q_2, hf⟩ := bd1E hf
    refine g_callV_i (a := 1) hC (X' := ov X0 [1, 2, 3, 4, 5] [x1, x2, x3, x4, x5]) (Y' := ov Y0 [] []) (As := [.int v1, .int v2]) (gMi_eq (c_X8_numberFrom l hL (ov_map hN [1] (by rfl) (by rfl)) (ov_map hM [] (by rfl) (by rfl)) q_2) (ov_ovE hN (by rfl) [1] [0, 2, 3, 4] (by rfl) (by rfl) [x1, x3, x4, x5] (by rfl) (by rfl) (by rfl) 5 (by rfl) (by decide)) (ov_ovE hM (by rfl) [] [] (by rfl) (by rfl) [] (by rfl) (by rfl) (by rfl) 0 (by rfl) (by decide))) tw_544 tw_541 tw_117 tw_543 tw_2 (ci := 8) rfl (by decide) (kk_1 hL) (kn_1 hL) pd_X8_numberFrom (by decide) (by decide) rfl rfl (Nat.le_of_ble_eq_true rfl) rfl dX8_scanOne_46 ?_
    refine g_goto hC 53 dX8_scanOne_49 (by decide) ?_
    exact g_sub [2] rfl (wX8_scanOne_53 hL hN hM hC  hret  hf)

def fX8_scanOne_27   (x2 : Nat → Int32)  (v1 : Int32) (v2 : Int32) (s0 : Int32) (x1 : (Nat → Int32)) (x3 : (Nat → Int32)) (x4 : (Nat → Int32)) (x5 : (Nat → Int32)) : Option (Int32 × (Nat → Int32) × (Nat → Int32) × (Nat → Int32) × (Nat → Int32)) := if s0 = 0 then (fX8_scanOne_38 x2  v1 v2 s0 2 x1 x3 x4 x5) else (fX8_scanOne_38 x2  v1 v2 s0 1 x1 x3 x4 x5)
set_option maxHeartbeats 4000000 in
set_option maxRecDepth 100000 in
theorem wX8_scanOne_27 {l : Launch} {b0 : Nat} {D : GD} {K : KT} {n : Nat} {κ : QT} {X0 : XT} {Y0 : YT} {Z : ZT} (hL : LY n κ) (hN : ([1, 2, 3, 4, 5] : List Nat).Nodup) (hM : ([] : List Nat).Nodup) (hC : gC l b0 D K RX8 cX8_scanOne (some FieldType.int) 4 6 132 0 0) {x2 : Nat → Int32} {r : Int32} {rx1 : (Nat → Int32)} {rx3 : (Nat → Int32)} {rx4 : (Nat → Int32)} {rx5 : (Nat → Int32)} (hret : ∀ pc loc, narrow .int (.int r) = .int r → decode cX8_scanOne pc = .ok (.ireturn, 1) → gV l b0 D K (n, κ, ov X0 [1, 2, 3, 4, 5] [rx1, x2, rx3, rx4, rx5], ov Y0 [] [], Z, 0, 0) pc loc [.int r]) {v1 : Int32} {v2 : Int32} {s0 : Int32} {x1 : (Nat → Int32)} {x3 : (Nat → Int32)} {x4 : (Nat → Int32)} {x5 : (Nat → Int32)} (hf : fX8_scanOne_27 x2  v1 v2 s0 x1 x3 x4 x5 = some (r, rx1, rx3, rx4, rx5)) : gV l b0 D K (n, κ, ov X0 [1, 2, 3, 4, 5] [x1, x2, x3, x4, x5], ov Y0 [] [], Z, 0, 0) 27 [(0, .ref (b0 + 1)), (1, .int v1), (2, .int v2)] [.int s0] := by
  unfold fX8_scanOne_27 at hf
  refine g_istore_n hC (i := 3) [(3, .int s0), (0, .ref (b0 + 1)), (1, .int v1), (2, .int v2)] rfl dX8_scanOne_27 (by decide) rfl ?_
  refine g_aload_n hC 1 dX8_scanOne_28 rfl rfl ?_
  refine g_iload_n hC 0 dX8_scanOne_29 rfl rfl ?_
  refine g_if_eq hC 37 dX8_scanOne_30 (by decide) (fun hc => ?_) (fun hc => ?_)
  · replace hf := ifT hf hc
    refine g_iconst hC (v := 2) dX8_scanOne_37 ic_2 ?_
    exact g_sub [1, 2, 3, 0] rfl (wX8_scanOne_38 hL hN hM hC  hret  hf)
  · replace hf := ifF hf hc
    refine g_iconst hC (v := 1) dX8_scanOne_33 ic_1 ?_
    refine g_goto hC 38 dX8_scanOne_34 (by decide) ?_
    exact g_sub [1, 2, 3, 0] rfl (wX8_scanOne_38 hL hN hM hC  hret  hf)

def fX8_scanOne_0   (x2 : Nat → Int32)  (v1 : Int32) (x1 : (Nat → Int32)) (x3 : (Nat → Int32)) (x4 : (Nat → Int32)) (x5 : (Nat → Int32)) : Option (Int32 × (Nat → Int32) × (Nat → Int32) × (Nat → Int32) × (Nat → Int32)) := bd1 (fX8_behindRun x1 x2 v1 48 57) fun r_1 => (if r_1 ≤ v1 then (bd1 (fX8_behindRun x1 x2 v1 97 122) fun r_3 => (if r_3 ≤ v1 then (bd1 (fX8_signAt x1 x2 v1) fun r_5 => (bd4 (fX8_add r_5 v1 0 x1 x3 x4 x5) fun x1_7 x3_8 x4_9 x5_10 => (if r_5 = 13 then (fX8_scanOne_113 x2  v1 x1_7 x3_8 x4_9 x5_10) else (if r_5 = 15 then (fX8_scanOne_113 x2  v1 x1_7 x3_8 x4_9 x5_10) else (some (v1 + 1, x1_7, x3_8, x4_9, x5_10)))))) else (bd1 (fX8_wordFrom x2 v1 r_3) fun r_12 => (bd4 (fX8_add r_12 v1 0 x1 x3 x4 x5) fun x1_14 x3_15 x4_16 x5_17 => (some (r_3, x1_14, x3_15, x4_16, x5_17)))))) else (if 5 < (r_1 - v1) then (fX8_scanOne_27 x2  v1 r_1 0 x1 x3 x4 x5) else (fX8_scanOne_27 x2  v1 r_1 1 x1 x3 x4 x5)))
set_option maxHeartbeats 4000000 in
set_option maxRecDepth 100000 in
theorem wX8_scanOne_0 {l : Launch} {b0 : Nat} {D : GD} {K : KT} {n : Nat} {κ : QT} {X0 : XT} {Y0 : YT} {Z : ZT} (hL : LY n κ) (hN : ([1, 2, 3, 4, 5] : List Nat).Nodup) (hM : ([] : List Nat).Nodup) (hC : gC l b0 D K RX8 cX8_scanOne (some FieldType.int) 4 6 132 0 0) {x2 : Nat → Int32} {r : Int32} {rx1 : (Nat → Int32)} {rx3 : (Nat → Int32)} {rx4 : (Nat → Int32)} {rx5 : (Nat → Int32)} (hret : ∀ pc loc, narrow .int (.int r) = .int r → decode cX8_scanOne pc = .ok (.ireturn, 1) → gV l b0 D K (n, κ, ov X0 [1, 2, 3, 4, 5] [rx1, x2, rx3, rx4, rx5], ov Y0 [] [], Z, 0, 0) pc loc [.int r]) {v1 : Int32} {x1 : (Nat → Int32)} {x3 : (Nat → Int32)} {x4 : (Nat → Int32)} {x5 : (Nat → Int32)} (hf : fX8_scanOne_0 x2  v1 x1 x3 x4 x5 = some (r, rx1, rx3, rx4, rx5)) : gV l b0 D K (n, κ, ov X0 [1, 2, 3, 4, 5] [x1, x2, x3, x4, x5], ov Y0 [] [], Z, 0, 0) 0 [(0, .ref (b0 + 1)), (1, .int v1)] [] := by
  unfold fX8_scanOne_0 at hf
  refine g_aload_n hC 0 dX8_scanOne_0 rfl rfl ?_
  refine g_iload_n hC 1 dX8_scanOne_1 rfl rfl ?_
  refine g_bipush hC (v := 48) dX8_scanOne_2 bp_48 ?_
  refine g_bipush hC (v := 57) dX8_scanOne_4 bp_57 ?_
  obtain ⟨r_1, q_2, hf⟩ := bd1E hf
  refine g_callV_i (a := 1) hC (X' := ov X0 [1, 2, 3, 4, 5] [x1, x2, x3, x4, x5]) (Y' := ov Y0 [] []) (As := [.int v1, .int 48, .int 57]) (gMi_eq (c_X8_behindRun l hL (ov_map hN [0, 1] (by rfl) (by rfl)) (ov_map hM [] (by rfl) (by rfl)) q_2) (ov_ovE hN (by rfl) [0, 1] [2, 3, 4] (by rfl) (by rfl) [x3, x4, x5] (by rfl) (by rfl) (by rfl) 5 (by rfl) (by decide)) (ov_ovE hM (by rfl) [] [] (by rfl) (by rfl) [] (by rfl) (by rfl) (by rfl) 0 (by rfl) (by decide))) tw_540 tw_537 tw_117 tw_539 tw_1 (ci := 8) rfl (by decide) (kk_1 hL) (kn_1 hL) pd_X8_behindRun (by decide) (by decide) rfl rfl (Nat.le_of_ble_eq_true rfl) rfl dX8_scanOne_6 ?_
  refine g_istore_n hC (i := 2) [(2, .int r_1), (0, .ref (b0 + 1)), (1, .int v1)] rfl dX8_scanOne_9 (by decide) rfl ?_
  refine g_iload_n hC 0 dX8_scanOne_10 rfl rfl ?_
  refine g_iload_n hC 2 dX8_scanOne_11 rfl rfl ?_
  refine g_icmp_le hC 58 dX8_scanOne_12 (by decide) (fun hc => ?_) (fun hc => ?_)
  · replace hf := ifT hf hc
    refine g_aload_n hC 1 dX8_scanOne_58 rfl rfl ?_
    refine g_iload_n hC 2 dX8_scanOne_59 rfl rfl ?_
    refine g_bipush hC (v := 97) dX8_scanOne_60 bp_97 ?_
    refine g_bipush hC (v := 122) dX8_scanOne_62 bp_122 ?_
    obtain ⟨r_3, q_4, hf⟩ := bd1E hf
    refine g_callV_i (a := 1) hC (X' := ov X0 [1, 2, 3, 4, 5] [x1, x2, x3, x4, x5]) (Y' := ov Y0 [] []) (As := [.int v1, .int 97, .int 122]) (gMi_eq (c_X8_behindRun l hL (ov_map hN [0, 1] (by rfl) (by rfl)) (ov_map hM [] (by rfl) (by rfl)) q_4) (ov_ovE hN (by rfl) [0, 1] [2, 3, 4] (by rfl) (by rfl) [x3, x4, x5] (by rfl) (by rfl) (by rfl) 5 (by rfl) (by decide)) (ov_ovE hM (by rfl) [] [] (by rfl) (by rfl) [] (by rfl) (by rfl) (by rfl) 0 (by rfl) (by decide))) tw_540 tw_537 tw_117 tw_539 tw_1 (ci := 8) rfl (by decide) (kk_1 hL) (kn_1 hL) pd_X8_behindRun (by decide) (by decide) rfl rfl (Nat.le_of_ble_eq_true rfl) rfl dX8_scanOne_64 ?_
    refine g_istore_n hC (i := 2) [(2, .int r_3), (0, .ref (b0 + 1)), (1, .int v1)] rfl dX8_scanOne_67 (by decide) rfl ?_
    refine g_iload_n hC 0 dX8_scanOne_68 rfl rfl ?_
    refine g_iload_n hC 2 dX8_scanOne_69 rfl rfl ?_
    refine g_icmp_le hC 87 dX8_scanOne_70 (by decide) (fun hc => ?_) (fun hc => ?_)
    · replace hf := ifT hf hc
      refine g_aload_n hC 1 dX8_scanOne_87 rfl rfl ?_
      refine g_iload_n hC 2 dX8_scanOne_88 rfl rfl ?_
      obtain ⟨r_5, q_6, hf⟩ := bd1E hf
      refine g_callV_i (a := 1) hC (X' := ov X0 [1, 2, 3, 4, 5] [x1, x2, x3, x4, x5]) (Y' := ov Y0 [] []) (As := [.int v1]) (gMi_eq (c_X8_signAt l hL (ov_map hN [0, 1] (by rfl) (by rfl)) (ov_map hM [] (by rfl) (by rfl)) q_6) (ov_ovE hN (by rfl) [0, 1] [2, 3, 4] (by rfl) (by rfl) [x3, x4, x5] (by rfl) (by rfl) (by rfl) 5 (by rfl) (by decide)) (ov_ovE hM (by rfl) [] [] (by rfl) (by rfl) [] (by rfl) (by rfl) (by rfl) 0 (by rfl) (by decide))) tw_631 tw_628 tw_117 tw_630 tw_6 (ci := 8) rfl (by decide) (kk_1 hL) (kn_1 hL) pd_X8_signAt (by decide) (by decide) rfl rfl (Nat.le_of_ble_eq_true rfl) rfl dX8_scanOne_89 ?_
      refine g_istore_n hC (i := 3) [(3, .int r_5), (2, .int r_3), (0, .ref (b0 + 1)), (1, .int v1)] rfl dX8_scanOne_92 (by decide) rfl ?_
      refine g_aload_n hC 2 dX8_scanOne_93 rfl rfl ?_
      refine g_iload_n hC 0 dX8_scanOne_94 rfl rfl ?_
      refine g_iload_n hC 3 dX8_scanOne_95 rfl rfl ?_
      refine g_iconst hC (v := 0) dX8_scanOne_96 ic_0 ?_
      obtain ⟨x1_7, x3_8, x4_9, x5_10, q_11, hf⟩ := bd4E hf
      refine g_callV_v (a := 1) hC (X' := ov X0 [1, 2, 3, 4, 5] [x1_7, x2, x3_8, x4_9, x5_10]) (Y' := ov Y0 [] []) (As := [.int r_5, .int v1, .int 0]) (gMv_eq (c_X8_add l hL (ov_map hN [0, 2, 3, 4] (by rfl) (by rfl)) (ov_map hM [] (by rfl) (by rfl)) q_11) (ov_ovE hN (by rfl) [0, 2, 3, 4] [1] (by rfl) (by rfl) [x2] (by rfl) (by rfl) (by rfl) 5 (by rfl) (by decide)) (ov_ovE hM (by rfl) [] [] (by rfl) (by rfl) [] (by rfl) (by rfl) (by rfl) 0 (by rfl) (by decide))) tw_548 tw_545 tw_117 tw_547 tw_3 (ci := 8) rfl (by decide) (kk_1 hL) (kn_1 hL) pd_X8_add (by decide) (by decide) rfl rfl (Nat.le_of_ble_eq_true rfl) rfl dX8_scanOne_97 ?_
      refine g_iload_n hC 3 dX8_scanOne_100 rfl rfl ?_
      refine g_iload_n hC 0 dX8_scanOne_101 rfl rfl ?_
      refine g_bipush hC (v := 13) dX8_scanOne_102 bp_13 ?_
      refine g_icmp_eq hC 113 dX8_scanOne_104 (by decide) (fun hc => ?_) (fun hc => ?_)
      · replace hf := ifT hf hc
        exact g_sub [] rfl (wX8_scanOne_113 hL hN hM hC  hret  hf)
      · replace hf := ifF hf hc
        refine g_iload_n hC 0 dX8_scanOne_107 rfl rfl ?_
        refine g_bipush hC (v := 15) dX8_scanOne_108 bp_15 ?_
        refine g_icmp_ne hC 117 dX8_scanOne_110 (by decide) (fun hc => ?_) (fun hc => ?_)
        · replace hf := ifF hf hc
          refine g_iconst hC (v := 1) dX8_scanOne_117 ic_1 ?_
          refine g_iadd hC dX8_scanOne_118 ?_
          obtain ⟨rfl, rfl, rfl, rfl, rfl⟩ := sm5E hf
          exact hret _ _ rfl dX8_scanOne_119
        · replace hf := ifT hf hc
          exact g_sub [] rfl (wX8_scanOne_113 hL hN hM hC  hret  hf)
    · replace hf := ifF hf hc
      refine g_aload_n hC 1 dX8_scanOne_73 rfl rfl ?_
      refine g_aload_n hC 1 dX8_scanOne_74 rfl rfl ?_
      refine g_iload_n hC 2 dX8_scanOne_75 rfl rfl ?_
      refine g_iload_n hC 0 dX8_scanOne_76 rfl rfl ?_
      obtain ⟨r_12, q_13, hf⟩ := bd1E hf
      refine g_callV_i (a := 1) hC (X' := ov X0 [1, 2, 3, 4, 5] [x1, x2, x3, x4, x5]) (Y' := ov Y0 [] []) (As := [.int v1, .int r_3]) (gMi_eq (c_X8_wordFrom l hL (ov_map hN [1] (by rfl) (by rfl)) (ov_map hM [] (by rfl) (by rfl)) q_13) (ov_ovE hN (by rfl) [1] [0, 2, 3, 4] (by rfl) (by rfl) [x1, x3, x4, x5] (by rfl) (by rfl) (by rfl) 5 (by rfl) (by decide)) (ov_ovE hM (by rfl) [] [] (by rfl) (by rfl) [] (by rfl) (by rfl) (by rfl) 0 (by rfl) (by decide))) tw_552 tw_549 tw_117 tw_551 tw_4 (ci := 8) rfl (by decide) (kk_1 hL) (kn_1 hL) pd_X8_wordFrom (by decide) (by decide) rfl rfl (Nat.le_of_ble_eq_true rfl) rfl dX8_scanOne_77 ?_
      refine g_iload_n hC 2 dX8_scanOne_80 rfl rfl ?_
      refine g_iconst hC (v := 0) dX8_scanOne_81 ic_0 ?_
      obtain ⟨x1_14, x3_15, x4_16, x5_17, q_18, hf⟩ := bd4E hf
      refine g_callV_v (a := 1) hC (X' := ov X0 [1, 2, 3, 4, 5] [x1_14, x2, x3_15, x4_16, x5_17]) (Y' := ov Y0 [] []) (As := [.int r_12, .int v1, .int 0]) (gMv_eq (c_X8_add l hL (ov_map hN [0, 2, 3, 4] (by rfl) (by rfl)) (ov_map hM [] (by rfl) (by rfl)) q_18) (ov_ovE hN (by rfl) [0, 2, 3, 4] [1] (by rfl) (by rfl) [x2] (by rfl) (by rfl) (by rfl) 5 (by rfl) (by decide)) (ov_ovE hM (by rfl) [] [] (by rfl) (by rfl) [] (by rfl) (by rfl) (by rfl) 0 (by rfl) (by decide))) tw_548 tw_545 tw_117 tw_547 tw_3 (ci := 8) rfl (by decide) (kk_1 hL) (kn_1 hL) pd_X8_add (by decide) (by decide) rfl rfl (Nat.le_of_ble_eq_true rfl) rfl dX8_scanOne_82 ?_
      refine g_iload_n hC 0 dX8_scanOne_85 rfl rfl ?_
      obtain ⟨rfl, rfl, rfl, rfl, rfl⟩ := sm5E hf
      exact hret _ _ rfl dX8_scanOne_86
  · replace hf := ifF hf hc
    refine g_iload_n hC 0 dX8_scanOne_15 rfl rfl ?_
    refine g_iload_n hC 2 dX8_scanOne_16 rfl rfl ?_
    refine g_isub hC dX8_scanOne_17 ?_
    refine g_iconst hC (v := 5) dX8_scanOne_18 ic_5 ?_
    refine g_icmp_gt hC 26 dX8_scanOne_19 (by decide) (fun hc => ?_) (fun hc => ?_)
    · replace hf := ifT hf hc
      refine g_iconst hC (v := 0) dX8_scanOne_26 ic_0 ?_
      exact g_sub [1, 2, 0] rfl (wX8_scanOne_27 hL hN hM hC  hret  hf)
    · replace hf := ifF hf hc
      refine g_iconst hC (v := 1) dX8_scanOne_22 ic_1 ?_
      refine g_goto hC 27 dX8_scanOne_23 (by decide) ?_
      exact g_sub [1, 2, 0] rfl (wX8_scanOne_27 hL hN hM hC  hret  hf)

def fX8_scanOne   (x2 : Nat → Int32)  (v1 : Int32) (x1 : Nat → Int32) (x3 : Nat → Int32) (x4 : Nat → Int32) (x5 : Nat → Int32)  : Option (Int32 × (Nat → Int32) × (Nat → Int32) × (Nat → Int32) × (Nat → Int32)) := fX8_scanOne_0 x2 v1 x1 x3 x4 x5

set_option maxHeartbeats 4000000 in
set_option maxRecDepth 100000 in
theorem c_X8_scanOne (l : Launch) {b0 : Nat} {D : GD} {n : Nat} {κ : QT} {X0 : XT} {Y0 : YT} {Z : ZT} (hL : LY n κ) {x1 : Nat → Int32} {x2 : Nat → Int32} {x3 : Nat → Int32} {x4 : Nat → Int32} {x5 : Nat → Int32} (hx : ([1, 2, 3, 4, 5] : List Nat).map X0 = [x1, x2, x3, x4, x5]) (hy : ([] : List Nat).map Y0 = []) {v1 : Int32} {r : Int32} {rx1 : (Nat → Int32)} {rx3 : (Nat → Int32)} {rx4 : (Nat → Int32)} {rx5 : (Nat → Int32)} (hf : fX8_scanOne x2 v1 x1 x3 x4 x5 = some (r, rx1, rx3, rx4, rx5)) : gMi l yX8_scanOne cX8_scanOne 4 (some FieldType.int) 6 132 0 0 b0 D [.ref (b0 + 1), .int v1] (n, κ, X0, Y0, Z) (n, κ, ov X0 [1, 2, 3, 4, 5] [rx1, x2, rx3, rx4, rx5], ov Y0 [] [], Z) r := by
  have hN : ([1, 2, 3, 4, 5] : List Nat).Nodup := by decide
  have hM : ([] : List Nat).Nodup := by decide
  refine g_meti (own := RX8) (by decide) rfl rfl (Nat.le_of_ble_eq_true rfl) ?_
  intro K hC hret
  have e := wX8_scanOne_0 hL hN hM hC  hret hf
  rw [ov_id' hx, ov_id' hy] at e
  exact g_sub [0, 1] rfl e

-- X8_scan
def fX8_scan_53   (x2 : Nat → Int32)  (x1 : (Nat → Int32)) (x3 : (Nat → Int32)) (x4 : (Nat → Int32)) (x5 : (Nat → Int32)) : Option ((Nat → Int32) × (Nat → Int32) × (Nat → Int32) × (Nat → Int32)) := bd4 (fX8_add 0 (x1 1) 0 x1 x3 x4 x5) fun x1_1 x3_2 x4_3 x5_4 => (some ((upd (upd x1_1 6 0) 7 0), x3_2, x4_3, x5_4))
set_option maxHeartbeats 4000000 in
set_option maxRecDepth 100000 in
theorem wX8_scan_53 {l : Launch} {b0 : Nat} {D : GD} {K : KT} {n : Nat} {κ : QT} {X0 : XT} {Y0 : YT} {Z : ZT} (hL : LY n κ) (hN : ([1, 2, 3, 4, 5] : List Nat).Nodup) (hM : ([] : List Nat).Nodup) (hC : gC l b0 D K RX8 cX8_scan none 3 7 155 0 0) {x2 : Nat → Int32} {rx1 : (Nat → Int32)} {rx3 : (Nat → Int32)} {rx4 : (Nat → Int32)} {rx5 : (Nat → Int32)} (hret : ∀ pc loc, decode cX8_scan pc = .ok (.return_, 1) → gV l b0 D K (n, κ, ov X0 [1, 2, 3, 4, 5] [rx1, x2, rx3, rx4, rx5], ov Y0 [] [], Z, 0, 0) pc loc []) {x1 : (Nat → Int32)} {x3 : (Nat → Int32)} {x4 : (Nat → Int32)} {x5 : (Nat → Int32)} (hf : fX8_scan_53 x2  x1 x3 x4 x5 = some (rx1, rx3, rx4, rx5)) : gV l b0 D K (n, κ, ov X0 [1, 2, 3, 4, 5] [x1, x2, x3, x4, x5], ov Y0 [] [], Z, 0, 0) 53 [(0, .ref (b0 + 1))] [] := by
  unfold fX8_scan_53 at hf
  refine g_aload_n hC 0 dX8_scan_53 rfl rfl ?_
  refine g_iconst hC (v := 0) dX8_scan_54 ic_0 ?_
  refine g_aload_n hC 0 dX8_scan_55 rfl rfl ?_
  refine gt_X8_25 hC (x := x1) (kk_1 hL) (kn_1 hL) (ov_get hN 0 rfl rfl) dX8_scan_56 ?_
  refine g_iconst hC (v := 0) dX8_scan_59 ic_0 ?_
  obtain ⟨x1_1, x3_2, x4_3, x5_4, q_5, hf⟩ := bd4E hf
  refine g_callV_v (a := 1) hC (X' := ov X0 [1, 2, 3, 4, 5] [x1_1, x2, x3_2, x4_3, x5_4]) (Y' := ov Y0 [] []) (As := [.int 0, .int (x1 1), .int 0]) (gMv_eq (c_X8_add l hL (ov_map hN [0, 2, 3, 4] (by rfl) (by rfl)) (ov_map hM [] (by rfl) (by rfl)) q_5) (ov_ovE hN (by rfl) [0, 2, 3, 4] [1] (by rfl) (by rfl) [x2] (by rfl) (by rfl) (by rfl) 5 (by rfl) (by decide)) (ov_ovE hM (by rfl) [] [] (by rfl) (by rfl) [] (by rfl) (by rfl) (by rfl) 0 (by rfl) (by decide))) tw_548 tw_545 tw_117 tw_547 tw_3 (ci := 8) rfl (by decide) (kk_1 hL) (kn_1 hL) pd_X8_add (by decide) (by decide) rfl rfl (Nat.le_of_ble_eq_true rfl) rfl dX8_scan_60 ?_
  refine g_aload_n hC 0 dX8_scan_63 rfl rfl ?_
  refine g_iconst hC (v := 0) dX8_scan_64 ic_0 ?_
  refine pt_X8_40 hC (x := x1_1) (kk_1 hL) (kn_1 hL) (ov_get hN 0 rfl rfl) (ov_set hN (by rfl) 0 (by rfl)) dX8_scan_65 ?_
  show gV l b0 D K (n, κ, ov X0 [1, 2, 3, 4, 5] [(upd x1_1 6 0), x2, x3_2, x4_3, x5_4], ov Y0 [] [], Z, 0, 0) 68 [(0, .ref (b0 + 1))] []
  refine g_aload_n hC 0 dX8_scan_68 rfl rfl ?_
  refine g_iconst hC (v := 0) dX8_scan_69 ic_0 ?_
  refine pt_X8_43 hC (x := (upd x1_1 6 0)) (kk_1 hL) (kn_1 hL) (ov_get hN 0 rfl rfl) (ov_set hN (by rfl) 0 (by rfl)) dX8_scan_70 ?_
  show gV l b0 D K (n, κ, ov X0 [1, 2, 3, 4, 5] [(upd (upd x1_1 6 0) 7 0), x2, x3_2, x4_3, x5_4], ov Y0 [] [], Z, 0, 0) 73 [(0, .ref (b0 + 1))] []
  obtain ⟨rfl, rfl, rfl, rfl⟩ := sm4E hf
  exact hret _ _ dX8_scan_73

def fX8_scan_46   (x2 : Nat → Int32)  (k9 : Int32 → Int32 → (Nat → Int32) → (Nat → Int32) → (Nat → Int32) → (Nat → Int32) → Option ((Nat → Int32) × (Nat → Int32) × (Nat → Int32) × (Nat → Int32))) (v2 : Int32) (s0 : Int32) (x1 : (Nat → Int32)) (x3 : (Nat → Int32)) (x4 : (Nat → Int32)) (x5 : (Nat → Int32)) : Option ((Nat → Int32) × (Nat → Int32) × (Nat → Int32) × (Nat → Int32)) := bn (v2 + 1) fun t_1 => (k9 s0 t_1 x1 x3 x4 x5)
set_option maxHeartbeats 4000000 in
set_option maxRecDepth 100000 in
theorem wX8_scan_46 {l : Launch} {b0 : Nat} {D : GD} {K : KT} {n : Nat} {κ : QT} {X0 : XT} {Y0 : YT} {Z : ZT} (hL : LY n κ) (hN : ([1, 2, 3, 4, 5] : List Nat).Nodup) (hM : ([] : List Nat).Nodup) (hC : gC l b0 D K RX8 cX8_scan none 3 7 155 0 0) {x2 : Nat → Int32} {rx1 : (Nat → Int32)} {rx3 : (Nat → Int32)} {rx4 : (Nat → Int32)} {rx5 : (Nat → Int32)} (hret : ∀ pc loc, decode cX8_scan pc = .ok (.return_, 1) → gV l b0 D K (n, κ, ov X0 [1, 2, 3, 4, 5] [rx1, x2, rx3, rx4, rx5], ov Y0 [] [], Z, 0, 0) pc loc []) {k9 : Int32 → Int32 → (Nat → Int32) → (Nat → Int32) → (Nat → Int32) → (Nat → Int32) → Option ((Nat → Int32) × (Nat → Int32) × (Nat → Int32) × (Nat → Int32))} (hk9 : ∀ (v1 : Int32) (v2 : Int32) (x1 : (Nat → Int32)) (x3 : (Nat → Int32)) (x4 : (Nat → Int32)) (x5 : (Nat → Int32)), k9 v1 v2 x1 x3 x4 x5 = some (rx1, rx3, rx4, rx5) → gV l b0 D K (n, κ, ov X0 [1, 2, 3, 4, 5] [x1, x2, x3, x4, x5], ov Y0 [] [], Z, 0, 0) 9 [(0, .ref (b0 + 1)), (1, .int v1), (2, .int v2)] []) {v2 : Int32} {s0 : Int32} {x1 : (Nat → Int32)} {x3 : (Nat → Int32)} {x4 : (Nat → Int32)} {x5 : (Nat → Int32)} (hf : fX8_scan_46 x2 k9 v2 s0 x1 x3 x4 x5 = some (rx1, rx3, rx4, rx5)) : gV l b0 D K (n, κ, ov X0 [1, 2, 3, 4, 5] [x1, x2, x3, x4, x5], ov Y0 [] [], Z, 0, 0) 46 [(0, .ref (b0 + 1)), (2, .int v2)] [.int s0] := by
  unfold fX8_scan_46 at hf
  refine g_istore_n hC (i := 1) [(1, .int s0), (0, .ref (b0 + 1)), (2, .int v2)] rfl dX8_scan_46 (by decide) rfl ?_
  obtain ⟨t_1, et_1, hf⟩ := bnE hf
  refine g_iinc hC (i := 2) (v := t_1) [(2, .int t_1), (1, .int s0), (0, .ref (b0 + 1))] dX8_scan_47 (q := 2) rfl ((congrArg (HAdd.hAdd v2) ic_1).trans et_1.symm) (by decide) rfl ?_
  refine g_goto hC 9 dX8_scan_50 (by decide) ?_
  exact g_sub [2, 1, 0] rfl (hk9 s0 t_1 x1 x3 x4 x5 hf)

def fX8_scan_9b   (x2 : Nat → Int32)  (k9 : Int32 → Int32 → (Nat → Int32) → (Nat → Int32) → (Nat → Int32) → (Nat → Int32) → Option ((Nat → Int32) × (Nat → Int32) × (Nat → Int32) × (Nat → Int32))) (v1 : Int32) (v2 : Int32) (x1 : (Nat → Int32)) (x3 : (Nat → Int32)) (x4 : (Nat → Int32)) (x5 : (Nat → Int32)) : Option ((Nat → Int32) × (Nat → Int32) × (Nat → Int32) × (Nat → Int32)) := if 400 ≤ v2 then (fX8_scan_53 x2  x1 x3 x4 x5) else (if (x1 1) ≤ v1 then (fX8_scan_53 x2  x1 x3 x4 x5) else (gd (inb v1 400) (if (x2 v1.toNatClampNeg) = 32 then (fX8_scan_46 x2 k9 v2 (v1 + 1) x1 x3 x4 x5) else (bd5 (fX8_scanOne x2 v1 x1 x3 x4 x5) fun r_2 x1_3 x3_4 x4_5 x5_6 => (fX8_scan_46 x2 k9 v2 r_2 x1_3 x3_4 x4_5 x5_6)))))
def fX8_scan_9   (x2 : Nat → Int32)  : Int32 → Int32 → (Nat → Int32) → (Nat → Int32) → (Nat → Int32) → (Nat → Int32) → Option ((Nat → Int32) × (Nat → Int32) × (Nat → Int32) × (Nat → Int32)) := lq6 (fX8_scan_9b x2 ) 5000
set_option maxHeartbeats 4000000 in
set_option maxRecDepth 100000 in
theorem wX8_scan_9 {l : Launch} {b0 : Nat} {D : GD} {K : KT} {n : Nat} {κ : QT} {X0 : XT} {Y0 : YT} {Z : ZT} (hL : LY n κ) (hN : ([1, 2, 3, 4, 5] : List Nat).Nodup) (hM : ([] : List Nat).Nodup) (hC : gC l b0 D K RX8 cX8_scan none 3 7 155 0 0) {x2 : Nat → Int32} {rx1 : (Nat → Int32)} {rx3 : (Nat → Int32)} {rx4 : (Nat → Int32)} {rx5 : (Nat → Int32)} (hret : ∀ pc loc, decode cX8_scan pc = .ok (.return_, 1) → gV l b0 D K (n, κ, ov X0 [1, 2, 3, 4, 5] [rx1, x2, rx3, rx4, rx5], ov Y0 [] [], Z, 0, 0) pc loc []) : ∀ (j : Nat) (v1 : Int32) (v2 : Int32) (x1 : (Nat → Int32)) (x3 : (Nat → Int32)) (x4 : (Nat → Int32)) (x5 : (Nat → Int32)), lq6 (fX8_scan_9b x2 ) j v1 v2 x1 x3 x4 x5 = some (rx1, rx3, rx4, rx5) → gV l b0 D K (n, κ, ov X0 [1, 2, 3, 4, 5] [x1, x2, x3, x4, x5], ov Y0 [] [], Z, 0, 0) 9 [(0, .ref (b0 + 1)), (1, .int v1), (2, .int v2)] [] := by
  intro j
  induction j with
  | zero => intro v1 v2 x1 x3 x4 x5 hf; cases hf
  | succ j hk9 =>
    intro v1 v2 x1 x3 x4 x5 hf
    replace hf : fX8_scan_9b x2  (lq6 (fX8_scan_9b x2 ) j) v1 v2 x1 x3 x4 x5 = some (rx1, rx3, rx4, rx5) := hf
    unfold fX8_scan_9b at hf
    refine g_iload_n hC 2 dX8_scan_9 rfl rfl ?_
    refine g_sipush hC (v := 400) dX8_scan_10 sp_400 ?_
    refine g_icmp_ge hC 53 dX8_scan_13 (by decide) (fun hc => ?_) (fun hc => ?_)
    · replace hf := ifT hf hc
      exact g_sub [0] rfl (wX8_scan_53 hL hN hM hC  hret  hf)
    · replace hf := ifF hf hc
      refine g_iload_n hC 1 dX8_scan_16 rfl rfl ?_
      refine g_aload_n hC 0 dX8_scan_17 rfl rfl ?_
      refine gt_X8_25 hC (x := x1) (kk_1 hL) (kn_1 hL) (ov_get hN 0 rfl rfl) dX8_scan_18 ?_
      refine g_icmp_ge hC 53 dX8_scan_21 (by decide) (fun hc => ?_) (fun hc => ?_)
      · replace hf := ifT hf hc
        exact g_sub [0] rfl (wX8_scan_53 hL hN hM hC  hret  hf)
      · replace hf := ifF hf hc
        refine g_aload_n hC 0 dX8_scan_24 rfl rfl ?_
        refine gt_X8_9 hC (a := 1) (kk_1 hL) (kn_1 hL) dX8_scan_25 ?_
        refine g_ref (b := 2) rfl ?_
        refine g_iload_n hC 1 dX8_scan_28 rfl rfl ?_
        obtain ⟨h_1, hf⟩ := gdE hf
        refine g_bald hC (x := x2) (kk_2 hL) (kn_2 hL) (ov_get hN 1 rfl rfl) (inb_in h_1) dX8_scan_29 ?_
        refine g_bipush hC (v := 32) dX8_scan_30 bp_32 ?_
        refine g_icmp_ne hC 41 dX8_scan_32 (by decide) (fun hc => ?_) (fun hc => ?_)
        · replace hf := ifF hf hc
          refine g_aload_n hC 0 dX8_scan_41 rfl rfl ?_
          refine g_iload_n hC 1 dX8_scan_42 rfl rfl ?_
          obtain ⟨r_2, x1_3, x3_4, x4_5, x5_6, q_7, hf⟩ := bd5E hf
          refine g_callV_i (a := 1) hC (X' := ov X0 [1, 2, 3, 4, 5] [x1_3, x2, x3_4, x4_5, x5_6]) (Y' := ov Y0 [] []) (As := [.int v1]) (gMi_eq (c_X8_scanOne l hL (ov_map hN [0, 1, 2, 3, 4] (by rfl) (by rfl)) (ov_map hM [] (by rfl) (by rfl)) q_7) (ov_ovE hN (by rfl) [0, 1, 2, 3, 4] [] (by rfl) (by rfl) [] (by rfl) (by rfl) (by rfl) 5 (by rfl) (by decide)) (ov_ovE hM (by rfl) [] [] (by rfl) (by rfl) [] (by rfl) (by rfl) (by rfl) 0 (by rfl) (by decide))) tw_536 tw_533 tw_117 tw_535 tw_0 (ci := 8) rfl (by decide) (kk_1 hL) (kn_1 hL) pd_X8_scanOne (by decide) (by decide) rfl rfl (Nat.le_of_ble_eq_true rfl) rfl dX8_scan_43 ?_
          exact g_sub [0, 2] rfl (wX8_scan_46 hL hN hM hC  hret hk9 hf)
        · replace hf := ifT hf hc
          refine g_iload_n hC 1 dX8_scan_35 rfl rfl ?_
          refine g_iconst hC (v := 1) dX8_scan_36 ic_1 ?_
          refine g_iadd hC dX8_scan_37 ?_
          refine g_goto hC 46 dX8_scan_38 (by decide) ?_
          exact g_sub [0, 2] rfl (wX8_scan_46 hL hN hM hC  hret hk9 hf)

def fX8_scan_0   (x2 : Nat → Int32)  (x1 : (Nat → Int32)) (x3 : (Nat → Int32)) (x4 : (Nat → Int32)) (x5 : (Nat → Int32)) : Option ((Nat → Int32) × (Nat → Int32) × (Nat → Int32) × (Nat → Int32)) := fX8_scan_9 x2  0 0 (upd x1 5 0) x3 x4 x5
set_option maxHeartbeats 4000000 in
set_option maxRecDepth 100000 in
theorem wX8_scan_0 {l : Launch} {b0 : Nat} {D : GD} {K : KT} {n : Nat} {κ : QT} {X0 : XT} {Y0 : YT} {Z : ZT} (hL : LY n κ) (hN : ([1, 2, 3, 4, 5] : List Nat).Nodup) (hM : ([] : List Nat).Nodup) (hC : gC l b0 D K RX8 cX8_scan none 3 7 155 0 0) {x2 : Nat → Int32} {rx1 : (Nat → Int32)} {rx3 : (Nat → Int32)} {rx4 : (Nat → Int32)} {rx5 : (Nat → Int32)} (hret : ∀ pc loc, decode cX8_scan pc = .ok (.return_, 1) → gV l b0 D K (n, κ, ov X0 [1, 2, 3, 4, 5] [rx1, x2, rx3, rx4, rx5], ov Y0 [] [], Z, 0, 0) pc loc []) {x1 : (Nat → Int32)} {x3 : (Nat → Int32)} {x4 : (Nat → Int32)} {x5 : (Nat → Int32)} (hf : fX8_scan_0 x2  x1 x3 x4 x5 = some (rx1, rx3, rx4, rx5)) : gV l b0 D K (n, κ, ov X0 [1, 2, 3, 4, 5] [x1, x2, x3, x4, x5], ov Y0 [] [], Z, 0, 0) 0 [(0, .ref (b0 + 1))] [] := by
  unfold fX8_scan_0 at hf
  refine g_aload_n hC 0 dX8_scan_0 rfl rfl ?_
  refine g_iconst hC (v := 0) dX8_scan_1 ic_0 ?_
  refine pt_X8_29 hC (x := x1) (kk_1 hL) (kn_1 hL) (ov_get hN 0 rfl rfl) (ov_set hN (by rfl) 0 (by rfl)) dX8_scan_2 ?_
  show gV l b0 D K (n, κ, ov X0 [1, 2, 3, 4, 5] [(upd x1 5 0), x2, x3, x4, x5], ov Y0 [] [], Z, 0, 0) 5 [(0, .ref (b0 + 1))] []
  refine g_iconst hC (v := 0) dX8_scan_5 ic_0 ?_
  refine g_istore_n hC (i := 1) [(1, .int 0), (0, .ref (b0 + 1))] rfl dX8_scan_6 (by decide) rfl ?_
  refine g_iconst hC (v := 0) dX8_scan_7 ic_0 ?_
  refine g_istore_n hC (i := 2) [(2, .int 0), (1, .int 0), (0, .ref (b0 + 1))] rfl dX8_scan_8 (by decide) rfl ?_
  exact g_sub [2, 1, 0] rfl (wX8_scan_9 hL hN hM hC  hret  5000 0 0 (upd x1 5 0) x3 x4 x5 hf)

def fX8_scan   (x2 : Nat → Int32)   (x1 : Nat → Int32) (x3 : Nat → Int32) (x4 : Nat → Int32) (x5 : Nat → Int32)  : Option ((Nat → Int32) × (Nat → Int32) × (Nat → Int32) × (Nat → Int32)) := fX8_scan_0 x2 x1 x3 x4 x5

set_option maxHeartbeats 4000000 in
set_option maxRecDepth 100000 in
theorem c_X8_scan (l : Launch) {b0 : Nat} {D : GD} {n : Nat} {κ : QT} {X0 : XT} {Y0 : YT} {Z : ZT} (hL : LY n κ) {x1 : Nat → Int32} {x2 : Nat → Int32} {x3 : Nat → Int32} {x4 : Nat → Int32} {x5 : Nat → Int32} (hx : ([1, 2, 3, 4, 5] : List Nat).map X0 = [x1, x2, x3, x4, x5]) (hy : ([] : List Nat).map Y0 = []) {rx1 : (Nat → Int32)} {rx3 : (Nat → Int32)} {rx4 : (Nat → Int32)} {rx5 : (Nat → Int32)} (hf : fX8_scan x2 x1 x3 x4 x5 = some (rx1, rx3, rx4, rx5)) : gMv l yX8_scan cX8_scan 3 none 7 155 0 0 b0 D [.ref (b0 + 1)] (n, κ, X0, Y0, Z) (n, κ, ov X0 [1, 2, 3, 4, 5] [rx1, x2, rx3, rx4, rx5], ov Y0 [] [], Z) := by
  have hN : ([1, 2, 3, 4, 5] : List Nat).Nodup := by decide
  have hM : ([] : List Nat).Nodup := by decide
  refine g_metv (own := RX8) (by decide) rfl rfl (Nat.le_of_ble_eq_true rfl) ?_
  intro K hC hret
  have e := wX8_scan_0 hL hN hM hC  hret hf
  rw [ov_id' hx, ov_id' hy] at e
  exact g_sub [0] rfl e


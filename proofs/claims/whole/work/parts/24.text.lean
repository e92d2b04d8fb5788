-- X8_append
def fX8_append_3b    (k3 : Int32 → Int32 → (Nat → Int32) → (Nat → Int32) → Option ((Nat → Int32) × (Nat → Int32))) (v1 : Int32) (v2 : Int32) (x1 : (Nat → Int32)) (x2 : (Nat → Int32)) : Option ((Nat → Int32) × (Nat → Int32)) := if v2 < 0 then (some (x1, x2)) else (if 400 ≤ (x1 1) then (some (x1, x2)) else (gd (inb (x1 1) 400) (bn (v2 + (-8)) fun t_2 => (k3 v1 t_2 (upd x1 1 ((x1 1) + 1)) (upd x2 (x1 1).toNatClampNeg (vp_nar .byte ((v1 >>> (v2 &&& 31)).toInt8.toInt32)))))))
def fX8_append_3    : Int32 → Int32 → (Nat → Int32) → (Nat → Int32) → Option ((Nat → Int32) × (Nat → Int32)) := lq4 (fX8_append_3b  ) 5000
set_option maxHeartbeats 4000000 in
set_option maxRecDepth 100000 in
theorem wX8_append_3 {l : Launch} {b0 : Nat} {D : GD} {K : KT} {n : Nat} {κ : QT} {X0 : XT} {Y0 : YT} {Z : ZT} (hL : LY n κ) (hN : ([1, 2] : List Nat).Nodup) (hM : ([] : List Nat).Nodup) (hC : gC l b0 D K RX8 cX8_append none 3 0 0 0 0) {rx1 : (Nat → Int32)} {rx2 : (Nat → Int32)} (hret : ∀ pc loc, decode cX8_append pc = .ok (.return_, 1) → gV l b0 D K (n, κ, ov X0 [1, 2] [rx1, rx2], ov Y0 [] [], Z, 0, 0) pc loc []) : ∀ (j : Nat) (v1 : Int32) (v2 : Int32) (x1 : (Nat → Int32)) (x2 : (Nat → Int32)), lq4 (fX8_append_3b  ) j v1 v2 x1 x2 = some (rx1, rx2) → gV l b0 D K (n, κ, ov X0 [1, 2] [x1, x2], ov Y0 [] [], Z, 0, 0) 3 [(0, .ref (b0 + 1)), (1, .int v1), (2, .int v2)] [] := by
  intro j
  induction j with
  | zero => intro v1 v2 x1 x2 hf; cases hf
  | succ j hk3 =>
    intro v1 v2 x1 x2 hf
    replace hf : fX8_append_3b   (lq4 (fX8_append_3b  ) j) v1 v2 x1 x2 = some (rx1, rx2) := hf
    unfold fX8_append_3b at hf
    refine g_iload_n hC 2 dX8_append_3 rfl rfl ?_
    refine g_if_lt hC 46 dX8_append_4 (by decide) (fun hc => ?_) (fun hc => ?_)
    · replace hf := ifT hf hc
      cases hf
      exact hret _ _ dX8_append_46
    · replace hf := ifF hf hc
      refine g_aload_n hC 0 dX8_append_7 rfl rfl ?_
      refine gt_X8_25 hC (x := x1) (kk_1 hL) (kn_1 hL) (ov_get hN 0 rfl rfl) dX8_append_8 ?_
      refine g_sipush hC (v := 400) dX8_append_11 sp_400 ?_
      refine g_icmp_ge hC 46 dX8_append_14 (by decide) (fun hc => ?_) (fun hc => ?_)
      · replace hf := ifT hf hc
        cases hf
        exact hret _ _ dX8_append_46
      · replace hf := ifF hf hc
        refine g_aload_n hC 0 dX8_append_17 rfl rfl ?_
        refine gt_X8_9 hC (a := 1) (kk_1 hL) (kn_1 hL) dX8_append_18 ?_
        refine g_ref (b := 2) rfl ?_
        refine g_aload_n hC 0 dX8_append_21 rfl rfl ?_
        refine gt_X8_25 hC (x := x1) (kk_1 hL) (kn_1 hL) (ov_get hN 0 rfl rfl) dX8_append_22 ?_
        refine g_iload_n hC 1 dX8_append_25 rfl rfl ?_
        refine g_iload_n hC 2 dX8_append_26 rfl rfl ?_
        refine g_ishr hC dX8_append_27 ?_
        refine g_i2b hC dX8_append_28 ?_
        obtain ⟨h_1, hf⟩ := gdE hf
        refine g_bast hC (x := x2) (kk_2 hL) (kn_2 hL) (ov_get hN 1 rfl rfl) (inb_in h_1) (ov_set hN (by rfl) 1 (by rfl)) dX8_append_29 ?_
        show gV l b0 D K (n, κ, ov X0 [1, 2] [x1, (upd x2 (x1 1).toNatClampNeg (vp_nar .byte ((v1 >>> (v2 &&& 31)).toInt8.toInt32)))], ov Y0 [] [], Z, 0, 0) 30 [(0, .ref (b0 + 1)), (1, .int v1), (2, .int v2)] []
        refine g_aload_n hC 0 dX8_append_30 rfl rfl ?_
        refine g_dup hC dX8_append_31 rfl ?_
        refine gt_X8_25 hC (x := x1) (kk_1 hL) (kn_1 hL) (ov_get hN 0 rfl rfl) dX8_append_32 ?_
        refine g_iconst hC (v := 1) dX8_append_35 ic_1 ?_
        refine g_iadd hC dX8_append_36 ?_
        refine pt_X8_25 hC (x := x1) (kk_1 hL) (kn_1 hL) (ov_get hN 0 rfl rfl) (ov_set hN (by rfl) 0 (by rfl)) dX8_append_37 ?_
        show gV l b0 D K (n, κ, ov X0 [1, 2] [(upd x1 1 ((x1 1) + 1)), (upd x2 (x1 1).toNatClampNeg (vp_nar .byte ((v1 >>> (v2 &&& 31)).toInt8.toInt32)))], ov Y0 [] [], Z, 0, 0) 40 [(0, .ref (b0 + 1)), (1, .int v1), (2, .int v2)] []
        obtain ⟨t_2, et_2, hf⟩ := bnE hf
        refine g_iinc hC (i := 2) (v := t_2) [(2, .int t_2), (0, .ref (b0 + 1)), (1, .int v1)] dX8_append_40 (q := 2) rfl ((congrArg (HAdd.hAdd v2) ic_m8).trans et_2.symm) (by decide) rfl ?_
        refine g_goto hC 3 dX8_append_43 (by decide) ?_
        exact g_sub [1, 2, 0] rfl (hk3 v1 t_2 (upd x1 1 ((x1 1) + 1)) (upd x2 (x1 1).toNatClampNeg (vp_nar .byte ((v1 >>> (v2 &&& 31)).toInt8.toInt32))) hf)

def fX8_append_0    (v1 : Int32) (x1 : (Nat → Int32)) (x2 : (Nat → Int32)) : Option ((Nat → Int32) × (Nat → Int32)) := fX8_append_3   v1 24 x1 x2
set_option maxHeartbeats 4000000 in
set_option maxRecDepth 100000 in
theorem wX8_append_0 {l : Launch} {b0 : Nat} {D : GD} {K : KT} {n : Nat} {κ : QT} {X0 : XT} {Y0 : YT} {Z : ZT} (hL : LY n κ) (hN : ([1, 2] : List Nat).Nodup) (hM : ([] : List Nat).Nodup) (hC : gC l b0 D K RX8 cX8_append none 3 0 0 0 0) {rx1 : (Nat → Int32)} {rx2 : (Nat → Int32)} (hret : ∀ pc loc, decode cX8_append pc = .ok (.return_, 1) → gV l b0 D K (n, κ, ov X0 [1, 2] [rx1, rx2], ov Y0 [] [], Z, 0, 0) pc loc []) {v1 : Int32} {x1 : (Nat → Int32)} {x2 : (Nat → Int32)} (hf : fX8_append_0   v1 x1 x2 = some (rx1, rx2)) : gV l b0 D K (n, κ, ov X0 [1, 2] [x1, x2], ov Y0 [] [], Z, 0, 0) 0 [(0, .ref (b0 + 1)), (1, .int v1)] [] := by
  unfold fX8_append_0 at hf
  refine g_bipush hC (v := 24) dX8_append_0 bp_24 ?_
  refine g_istore_n hC (i := 2) [(2, .int 24), (0, .ref (b0 + 1)), (1, .int v1)] rfl dX8_append_2 (by decide) rfl ?_
  exact g_sub [1, 2, 0] rfl (wX8_append_3 hL hN hM hC hret  5000 v1 24 x1 x2 hf)

def fX8_append    (v1 : Int32) (x1 : Nat → Int32) (x2 : Nat → Int32)  : Option ((Nat → Int32) × (Nat → Int32)) := fX8_append_0  v1 x1 x2

set_option maxHeartbeats 4000000 in
set_option maxRecDepth 100000 in
theorem c_X8_append (l : Launch) {b0 : Nat} {D : GD} {n : Nat} {κ : QT} {X0 : XT} {Y0 : YT} {Z : ZT} (hL : LY n κ) {x1 : Nat → Int32} {x2 : Nat → Int32} (hx : ([1, 2] : List Nat).map X0 = [x1, x2]) (hy : ([] : List Nat).map Y0 = []) {v1 : Int32} {rx1 : (Nat → Int32)} {rx2 : (Nat → Int32)} (hf : fX8_append  v1 x1 x2 = some (rx1, rx2)) : gMv l yX8_append cX8_append 3 none 0 0 0 0 b0 D [.ref (b0 + 1), .int v1] (n, κ, X0, Y0, Z) (n, κ, ov X0 [1, 2] [rx1, rx2], ov Y0 [] [], Z) := by
  have hN : ([1, 2] : List Nat).Nodup := by decide
  have hM : ([] : List Nat).Nodup := by decide
  refine g_metv (own := RX8) (by decide) rfl rfl (Nat.le_of_ble_eq_true rfl) ?_
  intro K hC hret
  have e := wX8_append_0 hL hN hM hC hret hf
  rw [ov_id' hx, ov_id' hy] at e
  exact g_sub [0, 1] rfl e

-- X8_code
def fX8_code_0  (x1 : Nat → Int32) (x3 : Nat → Int32)   : Option (Int32) := if (x1 5) ≤ (x1 6) then (some 0) else (gd (inb (x1 6) 401) (some (x3 (x1 6).toNatClampNeg)))
set_option maxHeartbeats 4000000 in
set_option maxRecDepth 100000 in
theorem wX8_code_0 {l : Launch} {b0 : Nat} {D : GD} {K : KT} {n : Nat} {κ : QT} {X0 : XT} {Y0 : YT} {Z : ZT} (hL : LY n κ) (hN : ([1, 3] : List Nat).Nodup) (hM : ([] : List Nat).Nodup) (hC : gC l b0 D K RX8 cX8_code (some FieldType.int) 1 0 0 0 0) {x1 : Nat → Int32} {x3 : Nat → Int32} {r : Int32} (hret : ∀ pc loc, narrow .int (.int r) = .int r → decode cX8_code pc = .ok (.ireturn, 1) → gV l b0 D K (n, κ, ov X0 [1, 3] [x1, x3], ov Y0 [] [], Z, 0, 0) pc loc [.int r])  (hf : fX8_code_0 x1 x3   = some r) : gV l b0 D K (n, κ, ov X0 [1, 3] [x1, x3], ov Y0 [] [], Z, 0, 0) 0 [(0, .ref (b0 + 1))] [] := by
  unfold fX8_code_0 at hf
  refine g_aload_n hC 0 dX8_code_0 rfl rfl ?_
  refine gt_X8_40 hC (x := x1) (kk_1 hL) (kn_1 hL) (ov_get hN 0 rfl rfl) dX8_code_1 ?_
  refine g_aload_n hC 0 dX8_code_4 rfl rfl ?_
  refine gt_X8_29 hC (x := x1) (kk_1 hL) (kn_1 hL) (ov_get hN 0 rfl rfl) dX8_code_5 ?_
  refine g_icmp_ge hC 23 dX8_code_8 (by decide) (fun hc => ?_) (fun hc => ?_)
  · replace hf := ifT hf hc
    refine g_iconst hC (v := 0) dX8_code_23 ic_0 ?_
    cases hf
    exact hret _ _ rfl dX8_code_24
  · replace hf := ifF hf hc
    refine g_aload_n hC 0 dX8_code_11 rfl rfl ?_
    refine gt_X8_15 hC (a := 1) (kk_1 hL) (kn_1 hL) dX8_code_12 ?_
    refine g_ref (b := 3) rfl ?_
    refine g_aload_n hC 0 dX8_code_15 rfl rfl ?_
    refine gt_X8_40 hC (x := x1) (kk_1 hL) (kn_1 hL) (ov_get hN 0 rfl rfl) dX8_code_16 ?_
    obtain ⟨h_1, hf⟩ := gdE hf
    refine g_iald hC (x := x3) (kk_3 hL) (kn_3 hL) (ov_get hN 1 rfl rfl) (inb_in h_1) dX8_code_19 ?_
    refine g_goto hC 24 dX8_code_20 (by decide) ?_
    cases hf
    exact hret _ _ rfl dX8_code_24

def fX8_code  (x1 : Nat → Int32) (x3 : Nat → Int32)     : Option (Int32) := fX8_code_0 x1 x3 

set_option maxHeartbeats 4000000 in
set_option maxRecDepth 100000 in
theorem c_X8_code (l : Launch) {b0 : Nat} {D : GD} {n : Nat} {κ : QT} {X0 : XT} {Y0 : YT} {Z : ZT} (hL : LY n κ) {x1 : Nat → Int32} {x3 : Nat → Int32} (hx : ([1, 3] : List Nat).map X0 = [x1, x3]) (hy : ([] : List Nat).map Y0 = []) {r : Int32} (hf : fX8_code x1 x3  = some r) : gMi l yX8_code cX8_code 1 (some FieldType.int) 0 0 0 0 b0 D [.ref (b0 + 1)] (n, κ, X0, Y0, Z) (n, κ, ov X0 [1, 3] [x1, x3], ov Y0 [] [], Z) r := by
  have hN : ([1, 3] : List Nat).Nodup := by decide
  have hM : ([] : List Nat).Nodup := by decide
  refine g_meti (own := RX8) (by decide) rfl rfl (Nat.le_of_ble_eq_true rfl) ?_
  intro K hC hret
  have e := wX8_code_0 hL hN hM hC hret hf
  rw [ov_id' hx, ov_id' hy] at e
  exact g_sub [0] rfl e

-- X8_number
def fX8_number_0  (x1 : Nat → Int32) (x5 : Nat → Int32)   : Option (Int32) := if (x1 5) ≤ (x1 6) then (some 0) else (gd (inb (x1 6) 401) (some (x5 (x1 6).toNatClampNeg)))
set_option maxHeartbeats 4000000 in
set_option maxRecDepth 100000 in
theorem wX8_number_0 {l : Launch} {b0 : Nat} {D : GD} {K : KT} {n : Nat} {κ : QT} {X0 : XT} {Y0 : YT} {Z : ZT} (hL : LY n κ) (hN : ([1, 5] : List Nat).Nodup) (hM : ([] : List Nat).Nodup) (hC : gC l b0 D K RX8 cX8_number (some FieldType.int) 1 0 0 0 0) {x1 : Nat → Int32} {x5 : Nat → Int32} {r : Int32} (hret : ∀ pc loc, narrow .int (.int r) = .int r → decode cX8_number pc = .ok (.ireturn, 1) → gV l b0 D K (n, κ, ov X0 [1, 5] [x1, x5], ov Y0 [] [], Z, 0, 0) pc loc [.int r])  (hf : fX8_number_0 x1 x5   = some r) : gV l b0 D K (n, κ, ov X0 [1, 5] [x1, x5], ov Y0 [] [], Z, 0, 0) 0 [(0, .ref (b0 + 1))] [] := by
  unfold fX8_number_0 at hf
  refine g_aload_n hC 0 dX8_number_0 rfl rfl ?_
  refine gt_X8_40 hC (x := x1) (kk_1 hL) (kn_1 hL) (ov_get hN 0 rfl rfl) dX8_number_1 ?_
  refine g_aload_n hC 0 dX8_number_4 rfl rfl ?_
  refine gt_X8_29 hC (x := x1) (kk_1 hL) (kn_1 hL) (ov_get hN 0 rfl rfl) dX8_number_5 ?_
  refine g_icmp_ge hC 23 dX8_number_8 (by decide) (fun hc => ?_) (fun hc => ?_)
  · replace hf := ifT hf hc
    refine g_iconst hC (v := 0) dX8_number_23 ic_0 ?_
    cases hf
    exact hret _ _ rfl dX8_number_24
  · replace hf := ifF hf hc
    refine g_aload_n hC 0 dX8_number_11 rfl rfl ?_
    refine gt_X8_22 hC (a := 1) (kk_1 hL) (kn_1 hL) dX8_number_12 ?_
    refine g_ref (b := 5) rfl ?_
    refine g_aload_n hC 0 dX8_number_15 rfl rfl ?_
    refine gt_X8_40 hC (x := x1) (kk_1 hL) (kn_1 hL) (ov_get hN 0 rfl rfl) dX8_number_16 ?_
    obtain ⟨h_1, hf⟩ := gdE hf
    refine g_iald hC (x := x5) (kk_5 hL) (kn_5 hL) (ov_get hN 1 rfl rfl) (inb_in h_1) dX8_number_19 ?_
    refine g_goto hC 24 dX8_number_20 (by decide) ?_
    cases hf
    exact hret _ _ rfl dX8_number_24

def fX8_number  (x1 : Nat → Int32) (x5 : Nat → Int32)     : Option (Int32) := fX8_number_0 x1 x5 

set_option maxHeartbeats 4000000 in
set_option maxRecDepth 100000 in
theorem c_X8_number (l : Launch) {b0 : Nat} {D : GD} {n : Nat} {κ : QT} {X0 : XT} {Y0 : YT} {Z : ZT} (hL : LY n κ) {x1 : Nat → Int32} {x5 : Nat → Int32} (hx : ([1, 5] : List Nat).map X0 = [x1, x5]) (hy : ([] : List Nat).map Y0 = []) {r : Int32} (hf : fX8_number x1 x5  = some r) : gMi l yX8_number cX8_number 1 (some FieldType.int) 0 0 0 0 b0 D [.ref (b0 + 1)] (n, κ, X0, Y0, Z) (n, κ, ov X0 [1, 5] [x1, x5], ov Y0 [] [], Z) r := by
  have hN : ([1, 5] : List Nat).Nodup := by decide
  have hM : ([] : List Nat).Nodup := by decide
  refine g_meti (own := RX8) (by decide) rfl rfl (Nat.le_of_ble_eq_true rfl) ?_
  intro K hC hret
  have e := wX8_number_0 hL hN hM hC hret hf
  rw [ov_id' hx, ov_id' hy] at e
  exact g_sub [0] rfl e

-- X8_skip
def fX8_skip_0    (x1 : (Nat → Int32)) : Option ((Nat → Int32)) := some (upd x1 6 ((x1 6) + 1))
set_option maxHeartbeats 4000000 in
set_option maxRecDepth 100000 in
theorem wX8_skip_0 {l : Launch} {b0 : Nat} {D : GD} {K : KT} {n : Nat} {κ : QT} {X0 : XT} {Y0 : YT} {Z : ZT} (hL : LY n κ) (hN : ([1] : List Nat).Nodup) (hM : ([] : List Nat).Nodup) (hC : gC l b0 D K RX8 cX8_skip none 1 0 0 0 0) {rx1 : (Nat → Int32)} (hret : ∀ pc loc, decode cX8_skip pc = .ok (.return_, 1) → gV l b0 D K (n, κ, ov X0 [1] [rx1], ov Y0 [] [], Z, 0, 0) pc loc []) {x1 : (Nat → Int32)} (hf : fX8_skip_0   x1 = some rx1) : gV l b0 D K (n, κ, ov X0 [1] [x1], ov Y0 [] [], Z, 0, 0) 0 [(0, .ref (b0 + 1))] [] := by
  unfold fX8_skip_0 at hf
  refine g_aload_n hC 0 dX8_skip_0 rfl rfl ?_
  refine g_dup hC dX8_skip_1 rfl ?_
  refine gt_X8_40 hC (x := x1) (kk_1 hL) (kn_1 hL) (ov_get hN 0 rfl rfl) dX8_skip_2 ?_
  refine g_iconst hC (v := 1) dX8_skip_5 ic_1 ?_
  refine g_iadd hC dX8_skip_6 ?_
  refine pt_X8_40 hC (x := x1) (kk_1 hL) (kn_1 hL) (ov_get hN 0 rfl rfl) (ov_set hN (by rfl) 0 (by rfl)) dX8_skip_7 ?_
  show gV l b0 D K (n, κ, ov X0 [1] [(upd x1 6 ((x1 6) + 1))], ov Y0 [] [], Z, 0, 0) 10 [(0, .ref (b0 + 1))] []
  cases hf
  exact hret _ _ dX8_skip_10

def fX8_skip     (x1 : Nat → Int32)  : Option ((Nat → Int32)) := fX8_skip_0  x1

set_option maxHeartbeats 4000000 in
set_option maxRecDepth 100000 in
theorem c_X8_skip (l : Launch) {b0 : Nat} {D : GD} {n : Nat} {κ : QT} {X0 : XT} {Y0 : YT} {Z : ZT} (hL : LY n κ) {x1 : Nat → Int32} (hx : ([1] : List Nat).map X0 = [x1]) (hy : ([] : List Nat).map Y0 = []) {rx1 : (Nat → Int32)} (hf : fX8_skip  x1 = some rx1) : gMv l yX8_skip cX8_skip 1 none 0 0 0 0 b0 D [.ref (b0 + 1)] (n, κ, X0, Y0, Z) (n, κ, ov X0 [1] [rx1], ov Y0 [] [], Z) := by
  have hN : ([1] : List Nat).Nodup := by decide
  have hM : ([] : List Nat).Nodup := by decide
  refine g_metv (own := RX8) (by decide) rfl rfl (Nat.le_of_ble_eq_true rfl) ?_
  intro K hC hret
  have e := wX8_skip_0 hL hN hM hC hret hf
  rw [ov_id' hx, ov_id' hy] at e
  exact g_sub [0] rfl e

-- X8_fail
def fX8_fail_27  (x4 : Nat → Int32)  (v1 : Int32) (s0 : Int32) (x1 : (Nat → Int32)) : Option (Int32 × (Nat → Int32)) := some (0, (upd x1 7 ((1 + (8 * s0)) + v1)))
set_option maxHeartbeats 4000000 in
set_option maxRecDepth 100000 in
theorem wX8_fail_27 {l : Launch} {b0 : Nat} {D : GD} {K : KT} {n : Nat} {κ : QT} {X0 : XT} {Y0 : YT} {Z : ZT} (hL : LY n κ) (hN : ([1, 4] : List Nat).Nodup) (hM : ([] : List Nat).Nodup) (hC : gC l b0 D K RX8 cX8_fail (some FieldType.boolean) 3 0 0 0 0) {x4 : Nat → Int32} {r : Int32} {rx1 : (Nat → Int32)} (hret : ∀ pc loc, narrow .boolean (.int r) = .int r → decode cX8_fail pc = .ok (.ireturn, 1) → gV l b0 D K (n, κ, ov X0 [1, 4] [rx1, x4], ov Y0 [] [], Z, 0, 0) pc loc [.int r]) {v1 : Int32} {s0 : Int32} {x1 : (Nat → Int32)} (hf : fX8_fail_27 x4  v1 s0 x1 = some (r, rx1)) : gV l b0 D K (n, κ, ov X0 [1, 4] [x1, x4], ov Y0 [] [], Z, 0, 0) 27 [(0, .ref (b0 + 1)), (1, .int v1)] [.int s0] := by
  unfold fX8_fail_27 at hf
  refine g_istore_n hC (i := 2) [(2, .int s0), (0, .ref (b0 + 1)), (1, .int v1)] rfl dX8_fail_27 (by decide) rfl ?_
  refine g_aload_n hC 1 dX8_fail_28 rfl rfl ?_
  refine g_iconst hC (v := 1) dX8_fail_29 ic_1 ?_
  refine g_bipush hC (v := 8) dX8_fail_30 bp_8 ?_
  refine g_iload_n hC 0 dX8_fail_32 rfl rfl ?_
  refine g_imul hC dX8_fail_33 ?_
  refine g_iadd hC dX8_fail_34 ?_
  refine g_iload_n hC 2 dX8_fail_35 rfl rfl ?_
  refine g_iadd hC dX8_fail_36 ?_
  refine pt_X8_43 hC (x := x1) (kk_1 hL) (kn_1 hL) (ov_get hN 0 rfl rfl) (ov_set hN (by rfl) 0 (by rfl)) dX8_fail_37 ?_
  show gV l b0 D K (n, κ, ov X0 [1, 4] [(upd x1 7 ((1 + (8 * s0)) + v1)), x4], ov Y0 [] [], Z, 0, 0) 40 [(2, .int s0), (0, .ref (b0 + 1)), (1, .int v1)] []
  refine g_iconst hC (v := 0) dX8_fail_40 ic_0 ?_
  cases hf
  exact hret _ _ rfl dX8_fail_41

def fX8_fail_0  (x4 : Nat → Int32)  (v1 : Int32) (x1 : (Nat → Int32)) : Option (Int32 × (Nat → Int32)) := if (x1 5) ≤ (x1 6) then (fX8_fail_27 x4  v1 (x1 1) x1) else (gd (inb (x1 6) 401) (fX8_fail_27 x4  v1 (x4 (x1 6).toNatClampNeg) x1))
set_option maxHeartbeats 4000000 in
set_option maxRecDepth 100000 in
theorem wX8_fail_0 {l : Launch} {b0 : Nat} {D : GD} {K : KT} {n : Nat} {κ : QT} {X0 : XT} {Y0 : YT} {Z : ZT} (hL : LY n κ) (hN : ([1, 4] : List Nat).Nodup) (hM : ([] : List Nat).Nodup) (hC : gC l b0 D K RX8 cX8_fail (some FieldType.boolean) 3 0 0 0 0) {x4 : Nat → Int32} {r : Int32} {rx1 : (Nat → Int32)} (hret : ∀ pc loc, narrow .boolean (.int r) = .int r → decode cX8_fail pc = .ok (.ireturn, 1) → gV l b0 D K (n, κ, ov X0 [1, 4] [rx1, x4], ov Y0 [] [], Z, 0, 0) pc loc [.int r]) {v1 : Int32} {x1 : (Nat → Int32)} (hf : fX8_fail_0 x4  v1 x1 = some (r, rx1)) : gV l b0 D K (n, κ, ov X0 [1, 4] [x1, x4], ov Y0 [] [], Z, 0, 0) 0 [(0, .ref (b0 + 1)), (1, .int v1)] [] := by
  unfold fX8_fail_0 at hf
  refine g_aload_n hC 0 dX8_fail_0 rfl rfl ?_
  refine gt_X8_40 hC (x := x1) (kk_1 hL) (kn_1 hL) (ov_get hN 0 rfl rfl) dX8_fail_1 ?_
  refine g_aload_n hC 0 dX8_fail_4 rfl rfl ?_
  refine gt_X8_29 hC (x := x1) (kk_1 hL) (kn_1 hL) (ov_get hN 0 rfl rfl) dX8_fail_5 ?_
  refine g_icmp_ge hC 23 dX8_fail_8 (by decide) (fun hc => ?_) (fun hc => ?_)
  · replace hf := ifT hf hc
    refine g_aload_n hC 0 dX8_fail_23 rfl rfl ?_
    refine gt_X8_25 hC (x := x1) (kk_1 hL) (kn_1 hL) (ov_get hN 0 rfl rfl) dX8_fail_24 ?_
    exact g_sub [0, 1] rfl (wX8_fail_27 hL hN hM hC hret  hf)
  · replace hf := ifF hf hc
    refine g_aload_n hC 0 dX8_fail_11 rfl rfl ?_
    refine gt_X8_19 hC (a := 1) (kk_1 hL) (kn_1 hL) dX8_fail_12 ?_
    refine g_ref (b := 4) rfl ?_
    refine g_aload_n hC 0 dX8_fail_15 rfl rfl ?_
    refine gt_X8_40 hC (x := x1) (kk_1 hL) (kn_1 hL) (ov_get hN 0 rfl rfl) dX8_fail_16 ?_
    obtain ⟨h_1, hf⟩ := gdE hf
    refine g_iald hC (x := x4) (kk_4 hL) (kn_4 hL) (ov_get hN 1 rfl rfl) (inb_in h_1) dX8_fail_19 ?_
    refine g_goto hC 27 dX8_fail_20 (by decide) ?_
    exact g_sub [0, 1] rfl (wX8_fail_27 hL hN hM hC hret  hf)

def fX8_fail  (x4 : Nat → Int32)  (v1 : Int32) (x1 : Nat → Int32)  : Option (Int32 × (Nat → Int32)) := fX8_fail_0 x4 v1 x1

set_option maxHeartbeats 4000000 in
set_option maxRecDepth 100000 in
theorem c_X8_fail (l : Launch) {b0 : Nat} {D : GD} {n : Nat} {κ : QT} {X0 : XT} {Y0 : YT} {Z : ZT} (hL : LY n κ) {x1 : Nat → Int32} {x4 : Nat → Int32} (hx : ([1, 4] : List Nat).map X0 = [x1, x4]) (hy : ([] : List Nat).map Y0 = []) {v1 : Int32} {r : Int32} {rx1 : (Nat → Int32)} (hf : fX8_fail x4 v1 x1 = some (r, rx1)) : gMi l yX8_fail cX8_fail 3 (some FieldType.boolean) 0 0 0 0 b0 D [.ref (b0 + 1), .int v1] (n, κ, X0, Y0, Z) (n, κ, ov X0 [1, 4] [rx1, x4], ov Y0 [] [], Z) r := by
  have hN : ([1, 4] : List Nat).Nodup := by decide
  have hM : ([] : List Nat).Nodup := by decide
  refine g_meti (own := RX8) (by decide) rfl rfl (Nat.le_of_ble_eq_true rfl) ?_
  intro K hC hret
  have e := wX8_fail_0 hL hN hM hC hret hf
  rw [ov_id' hx, ov_id' hy] at e
  exact g_sub [0, 1] rfl e

-- X8_take
def fX8_take_0  (x3 : Nat → Int32) (x4 : Nat → Int32)  (v1 : Int32) (x1 : (Nat → Int32)) : Option (Int32 × (Nat → Int32)) := bd1 (fX8_code x1 x3) fun r_1 => (if r_1 = v1 then (some (1, (upd x1 6 ((x1 6) + 1)))) else (bd2 (fX8_fail x4 0 x1) fun r_3 x1_4 => (gd (bz r_3) (some (r_3, x1_4)))))
set_option maxHeartbeats 4000000 in
set_option maxRecDepth 100000 in
theorem wX8_take_0 {l : Launch} {b0 : Nat} {D : GD} {K : KT} {n : Nat} {κ : QT} {X0 : XT} {Y0 : YT} {Z : ZT} (hL : LY n κ) (hN : ([1, 3, 4] : List Nat).Nodup) (hM : ([] : List Nat).Nodup) (hC : gC l b0 D K RX8 cX8_take (some FieldType.boolean) 2 1 22 0 0) {x3 : Nat → Int32} {x4 : Nat → Int32} {r : Int32} {rx1 : (Nat → Int32)} (hret : ∀ pc loc, narrow .boolean (.int r) = .int r → decode cX8_take pc = .ok (.ireturn, 1) → gV l b0 D K (n, κ, ov X0 [1, 3, 4] [rx1, x3, x4], ov Y0 [] [], Z, 0, 0) pc loc [.int r]) {v1 : Int32} {x1 : (Nat → Int32)} (hf : fX8_take_0 x3 x4  v1 x1 = some (r, rx1)) : gV l b0 D K (n, κ, ov X0 [1, 3, 4] [x1, x3, x4], ov Y0 [] [], Z, 0, 0) 0 [(0, .ref (b0 + 1)), (1, .int v1)] [] := by
  unfold fX8_take_0 at hf
  refine g_aload_n hC 0 dX8_take_0 rfl rfl ?_
  obtain ⟨r_1, q_2, hf⟩ := bd1E hf
  refine g_callV_i (a := 1) hC (X' := ov X0 [1, 3, 4] [x1, x3, x4]) (Y' := ov Y0 [] []) (As := []) (gMi_eq (c_X8_code l hL (ov_map hN [0, 1] (by rfl) (by rfl)) (ov_map hM [] (by rfl) (by rfl)) q_2) (ov_ov hN (by rfl) [0, 1] (by rfl)) (ov_ov hM (by rfl) [] (by rfl))) tw_639 tw_691 tw_117 tw_637 tw_638 (ci := 8) rfl (by decide) (kk_1 hL) (kn_1 hL) pd_X8_code (by decide) (by decide) rfl rfl (Nat.le_of_ble_eq_true rfl) rfl dX8_take_1 ?_
  refine g_iload_n hC 1 dX8_take_4 rfl rfl ?_
  refine g_icmp_eq hC 14 dX8_take_5 (by decide) (fun hc => ?_) (fun hc => ?_)
  · replace hf := ifT hf hc
    refine g_aload_n hC 0 dX8_take_14 rfl rfl ?_
    refine g_dup hC dX8_take_15 rfl ?_
    refine gt_X8_40 hC (x := x1) (kk_1 hL) (kn_1 hL) (ov_get hN 0 rfl rfl) dX8_take_16 ?_
    refine g_iconst hC (v := 1) dX8_take_19 ic_1 ?_
    refine g_iadd hC dX8_take_20 ?_
    refine pt_X8_40 hC (x := x1) (kk_1 hL) (kn_1 hL) (ov_get hN 0 rfl rfl) (ov_set hN (by rfl) 0 (by rfl)) dX8_take_21 ?_
    show gV l b0 D K (n, κ, ov X0 [1, 3, 4] [(upd x1 6 ((x1 6) + 1)), x3, x4], ov Y0 [] [], Z, 0, 0) 24 [(0, .ref (b0 + 1)), (1, .int v1)] []
    refine g_iconst hC (v := 1) dX8_take_24 ic_1 ?_
    cases hf
    exact hret _ _ rfl dX8_take_25
  · replace hf := ifF hf hc
    refine g_aload_n hC 0 dX8_take_8 rfl rfl ?_
    refine g_iconst hC (v := 0) dX8_take_9 ic_0 ?_
    obtain ⟨r_3, x1_4, q_5, hf⟩ := bd2E hf
    refine g_callV_i (a := 1) hC (X' := ov X0 [1, 3, 4] [x1_4, x3, x4]) (Y' := ov Y0 [] []) (As := [.int 0]) (gMi_eq (c_X8_fail l hL (ov_map hN [0, 2] (by rfl) (by rfl)) (ov_map hM [] (by rfl) (by rfl)) q_5) (ov_ov hN (by rfl) [0, 2] (by rfl)) (ov_ov hM (by rfl) [] (by rfl))) tw_643 tw_692 tw_117 tw_641 tw_642 (ci := 8) rfl (by decide) (kk_1 hL) (kn_1 hL) pd_X8_fail (by decide) (by decide) rfl rfl (Nat.le_of_ble_eq_true rfl) rfl dX8_take_10 ?_
    obtain ⟨h_6, hf⟩ := gdE hf
    cases hf
    exact hret _ _ (bz_nar h_6) dX8_take_13

def fX8_take  (x3 : Nat → Int32) (x4 : Nat → Int32)  (v1 : Int32) (x1 : Nat → Int32)  : Option (Int32 × (Nat → Int32)) := fX8_take_0 x3 x4 v1 x1

set_option maxHeartbeats 4000000 in
set_option maxRecDepth 100000 in
theorem c_X8_take (l : Launch) {b0 : Nat} {D : GD} {n : Nat} {κ : QT} {X0 : XT} {Y0 : YT} {Z : ZT} (hL : LY n κ) {x1 : Nat → Int32} {x3 : Nat → Int32} {x4 : Nat → Int32} (hx : ([1, 3, 4] : List Nat).map X0 = [x1, x3, x4]) (hy : ([] : List Nat).map Y0 = []) {v1 : Int32} {r : Int32} {rx1 : (Nat → Int32)} (hf : fX8_take x3 x4 v1 x1 = some (r, rx1)) : gMi l yX8_take cX8_take 2 (some FieldType.boolean) 1 22 0 0 b0 D [.ref (b0 + 1), .int v1] (n, κ, X0, Y0, Z) (n, κ, ov X0 [1, 3, 4] [rx1, x3, x4], ov Y0 [] [], Z) r := by
  have hN : ([1, 3, 4] : List Nat).Nodup := by decide
  have hM : ([] : List Nat).Nodup := by decide
  refine g_meti (own := RX8) (by decide) rfl rfl (Nat.le_of_ble_eq_true rfl) ?_
  intro K hC hret
  have e := wX8_take_0 hL hN hM hC hret hf
  rw [ov_id' hx, ov_id' hy] at e
  exact g_sub [0, 1] rfl e

-- X8_add
def fX8_add_0    (v1 : Int32) (v2 : Int32) (v3 : Int32) (x1 : (Nat → Int32)) (x3 : (Nat → Int32)) (x4 : (Nat → Int32)) (x5 : (Nat → Int32)) : Option ((Nat → Int32) × (Nat → Int32) × (Nat → Int32) × (Nat → Int32)) := if (Int32.ofNat 401) ≤ (x1 5) then (some (x1, x3, x4, x5)) else (gd (inb (x1 5) 401) (gd (inb (x1 5) 401) (gd (inb (x1 5) 401) (some ((upd x1 5 ((x1 5) + 1)), (upd x3 (x1 5).toNatClampNeg v1), (upd x4 (x1 5).toNatClampNeg v2), (upd x5 (x1 5).toNatClampNeg v3))))))
set_option maxHeartbeats 4000000 in
set_option maxRecDepth 100000 in
theorem wX8_add_0 {l : Launch} {b0 : Nat} {D : GD} {K : KT} {n : Nat} {κ : QT} {X0 : XT} {Y0 : YT} {Z : ZT} (hL : LY n κ) (hN : ([1, 3, 4, 5] : List Nat).Nodup) (hM : ([] : List Nat).Nodup) (hC : gC l b0 D K RX8 cX8_add none 4 0 0 0 0) {rx1 : (Nat → Int32)} {rx3 : (Nat → Int32)} {rx4 : (Nat → Int32)} {rx5 : (Nat → Int32)} (hret : ∀ pc loc, decode cX8_add pc = .ok (.return_, 1) → gV l b0 D K (n, κ, ov X0 [1, 3, 4, 5] [rx1, rx3, rx4, rx5], ov Y0 [] [], Z, 0, 0) pc loc []) {v1 : Int32} {v2 : Int32} {v3 : Int32} {x1 : (Nat → Int32)} {x3 : (Nat → Int32)} {x4 : (Nat → Int32)} {x5 : (Nat → Int32)} (hf : fX8_add_0   v1 v2 v3 x1 x3 x4 x5 = some (rx1, rx3, rx4, rx5)) : gV l b0 D K (n, κ, ov X0 [1, 3, 4, 5] [x1, x3, x4, x5], ov Y0 [] [], Z, 0, 0) 0 [(0, .ref (b0 + 1)), (1, .int v1), (2, .int v2), (3, .int v3)] [] := by
  unfold fX8_add_0 at hf
  refine g_aload_n hC 0 dX8_add_0 rfl rfl ?_
  refine gt_X8_29 hC (x := x1) (kk_1 hL) (kn_1 hL) (ov_get hN 0 rfl rfl) dX8_add_1 ?_
  refine g_aload_n hC 0 dX8_add_4 rfl rfl ?_
  refine gt_X8_15 hC (a := 1) (kk_1 hL) (kn_1 hL) dX8_add_5 ?_
  refine g_ref (b := 3) rfl ?_
  refine g_alen_i hC (L := 401) (kk_3 hL) (kn_3 hL) dX8_add_8 ?_
  refine g_icmp_ge hC 52 dX8_add_9 (by decide) (fun hc => ?_) (fun hc => ?_)
  · replace hf := ifT hf hc
    cases hf
    exact hret _ _ dX8_add_52
  · replace hf := ifF hf hc
    refine g_aload_n hC 0 dX8_add_12 rfl rfl ?_
    refine gt_X8_15 hC (a := 1) (kk_1 hL) (kn_1 hL) dX8_add_13 ?_
    refine g_ref (b := 3) rfl ?_
    refine g_aload_n hC 0 dX8_add_16 rfl rfl ?_
    refine gt_X8_29 hC (x := x1) (kk_1 hL) (kn_1 hL) (ov_get hN 0 rfl rfl) dX8_add_17 ?_
    refine g_iload_n hC 1 dX8_add_20 rfl rfl ?_
    obtain ⟨h_1, hf⟩ := gdE hf
    refine g_iast hC (x := x3) (kk_3 hL) (kn_3 hL) (ov_get hN 1 rfl rfl) (inb_in h_1) (ov_set hN (by rfl) 1 (by rfl)) dX8_add_21 ?_
    show gV l b0 D K (n, κ, ov X0 [1, 3, 4, 5] [x1, (upd x3 (x1 5).toNatClampNeg v1), x4, x5], ov Y0 [] [], Z, 0, 0) 22 [(0, .ref (b0 + 1)), (1, .int v1), (2, .int v2), (3, .int v3)] []
    refine g_aload_n hC 0 dX8_add_22 rfl rfl ?_
    refine gt_X8_19 hC (a := 1) (kk_1 hL) (kn_1 hL) dX8_add_23 ?_
    refine g_ref (b := 4) rfl ?_
    refine g_aload_n hC 0 dX8_add_26 rfl rfl ?_
    refine gt_X8_29 hC (x := x1) (kk_1 hL) (kn_1 hL) (ov_get hN 0 rfl rfl) dX8_add_27 ?_
    refine g_iload_n hC 2 dX8_add_30 rfl rfl ?_
    obtain ⟨h_2, hf⟩ := gdE hf
    refine g_iast hC (x := x4) (kk_4 hL) (kn_4 hL) (ov_get hN 2 rfl rfl) (inb_in h_2) (ov_set hN (by rfl) 2 (by rfl)) dX8_add_31 ?_
    show gV l b0 D K (n, κ, ov X0 [1, 3, 4, 5] [x1, (upd x3 (x1 5).toNatClampNeg v1), (upd x4 (x1 5).toNatClampNeg v2), x5], ov Y0 [] [], Z, 0, 0) 32 [(0, .ref (b0 + 1)), (1, .int v1), (2, .int v2), (3, .int v3)] []
    refine g_aload_n hC 0 dX8_add_32 rfl rfl ?_
    refine gt_X8_22 hC (a := 1) (kk_1 hL) (kn_1 hL) dX8_add_33 ?_
    refine g_ref (b := 5) rfl ?_
    refine g_aload_n hC 0 dX8_add_36 rfl rfl ?_
    refine gt_X8_29 hC (x := x1) (kk_1 hL) (kn_1 hL) (ov_get hN 0 rfl rfl) dX8_add_37 ?_
    refine g_iload_n hC 3 dX8_add_40 rfl rfl ?_
    obtain ⟨h_3, hf⟩ := gdE hf
    refine g_iast hC (x := x5) (kk_5 hL) (kn_5 hL) (ov_get hN 3 rfl rfl) (inb_in h_3) (ov_set hN (by rfl) 3 (by rfl)) dX8_add_41 ?_
    show gV l b0 D K (n, κ, ov X0 [1, 3, 4, 5] [x1, (upd x3 (x1 5).toNatClampNeg v1), (upd x4 (x1 5).toNatClampNeg v2), (upd x5 (x1 5).toNatClampNeg v3)], ov Y0 [] [], Z, 0, 0) 42 [(0, .ref (b0 + 1)), (1, .int v1), (2, .int v2), (3, .int v3)] []
    refine g_aload_n hC 0 dX8_add_42 rfl rfl ?_
    refine g_dup hC dX8_add_43 rfl ?_
    refine gt_X8_29 hC (x := x1) (kk_1 hL) (kn_1 hL) (ov_get hN 0 rfl rfl) dX8_add_44 ?_
    refine g_iconst hC (v := 1) dX8_add_47 ic_1 ?_
    refine g_iadd hC dX8_add_48 ?_
    refine pt_X8_29 hC (x := x1) (kk_1 hL) (kn_1 hL) (ov_get hN 0 rfl rfl) (ov_set hN (by rfl) 0 (by rfl)) dX8_add_49 ?_
    show gV l b0 D K (n, κ, ov X0 [1, 3, 4, 5] [(upd x1 5 ((x1 5) + 1)), (upd x3 (x1 5).toNatClampNeg v1), (upd x4 (x1 5).toNatClampNeg v2), (upd x5 (x1 5).toNatClampNeg v3)], ov Y0 [] [], Z, 0, 0) 52 [(0, .ref (b0 + 1)), (1, .int v1), (2, .int v2), (3, .int v3)] []
    cases hf
    exact hret _ _ dX8_add_52

def fX8_add    (v1 : Int32) (v2 : Int32) (v3 : Int32) (x1 : Nat → Int32) (x3 : Nat → Int32) (x4 : Nat → Int32) (x5 : Nat → Int32)  : Option ((Nat → Int32) × (Nat → Int32) × (Nat → Int32) × (Nat → Int32)) := fX8_add_0  v1 v2 v3 x1 x3 x4 x5

set_option maxHeartbeats 4000000 in
set_option maxRecDepth 100000 in
theorem c_X8_add (l : Launch) {b0 : Nat} {D : GD} {n : Nat} {κ : QT} {X0 : XT} {Y0 : YT} {Z : ZT} (hL : LY n κ) {x1 : Nat → Int32} {x3 : Nat → Int32} {x4 : Nat → Int32} {x5 : Nat → Int32} (hx : ([1, 3, 4, 5] : List Nat).map X0 = [x1, x3, x4, x5]) (hy : ([] : List Nat).map Y0 = []) {v1 : Int32} {v2 : Int32} {v3 : Int32} {rx1 : (Nat → Int32)} {rx3 : (Nat → Int32)} {rx4 : (Nat → Int32)} {rx5 : (Nat → Int32)} (hf : fX8_add  v1 v2 v3 x1 x3 x4 x5 = some (rx1, rx3, rx4, rx5)) : gMv l yX8_add cX8_add 4 none 0 0 0 0 b0 D [.ref (b0 + 1), .int v1, .int v2, .int v3] (n, κ, X0, Y0, Z) (n, κ, ov X0 [1, 3, 4, 5] [rx1, rx3, rx4, rx5], ov Y0 [] [], Z) := by
  have hN : ([1, 3, 4, 5] : List Nat).Nodup := by decide
  have hM : ([] : List Nat).Nodup := by decide
  refine g_metv (own := RX8) (by decide) rfl rfl (Nat.le_of_ble_eq_true rfl) ?_
  intro K hC hret
  have e := wX8_add_0 hL hN hM hC hret hf
  rw [ov_id' hx, ov_id' hy] at e
  exact g_sub [0, 1, 2, 3] rfl e

-- X8_behindRun
def fX8_behindRun_3b  (x1 : Nat → Int32) (x2 : Nat → Int32)  (k3 : Int32 → Int32 → Int32 → Option (Int32)) (v2 : Int32) (v3 : Int32) (v4 : Int32) : Option (Int32) := if (x1 1) ≤ v4 then (some v4) else (gd (inb v4 400) (if (x2 v4.toNatClampNeg) < v2 then (some v4) else (gd (inb v4 400) (if v3 < (x2 v4.toNatClampNeg) then (some v4) else (bn (v4 + 1) fun t_3 => (k3 v2 v3 t_3))))))
def fX8_behindRun_3  (x1 : Nat → Int32) (x2 : Nat → Int32)  : Int32 → Int32 → Int32 → Option (Int32) := lq3 (fX8_behindRun_3b x1 x2 ) 5000
set_option maxHeartbeats 4000000 in
set_option maxRecDepth 100000 in
theorem wX8_behindRun_3 {l : Launch} {b0 : Nat} {D : GD} {K : KT} {n : Nat} {κ : QT} {X0 : XT} {Y0 : YT} {Z : ZT} (hL : LY n κ) (hN : ([1, 2] : List Nat).Nodup) (hM : ([] : List Nat).Nodup) (hC : gC l b0 D K RX8 cX8_behindRun (some FieldType.int) 5 0 0 0 0) {x1 : Nat → Int32} {x2 : Nat → Int32} {r : Int32} (hret : ∀ pc loc, narrow .int (.int r) = .int r → decode cX8_behindRun pc = .ok (.ireturn, 1) → gV l b0 D K (n, κ, ov X0 [1, 2] [x1, x2], ov Y0 [] [], Z, 0, 0) pc loc [.int r]) : ∀ (j : Nat) (v2 : Int32) (v3 : Int32) (v4 : Int32), lq3 (fX8_behindRun_3b x1 x2 ) j v2 v3 v4 = some r → gV l b0 D K (n, κ, ov X0 [1, 2] [x1, x2], ov Y0 [] [], Z, 0, 0) 3 [(0, .ref (b0 + 1)), (2, .int v2), (3, .int v3), (4, .int v4)] [] := by
  intro j
  induction j with
  | zero => intro v2 v3 v4 hf; cases hf
  | succ j hk3 =>
    intro v2 v3 v4 hf
    replace hf : fX8_behindRun_3b x1 x2  (lq3 (fX8_behindRun_3b x1 x2 ) j) v2 v3 v4 = some r := hf
    unfold fX8_behindRun_3b at hf
    refine g_iload hC 3 dX8_behindRun_3 rfl ?_
    refine g_aload_n hC 0 dX8_behindRun_5 rfl rfl ?_
    refine gt_X8_25 hC (x := x1) (kk_1 hL) (kn_1 hL) (ov_get hN 0 rfl rfl) dX8_behindRun_6 ?_
    refine g_icmp_ge hC 40 dX8_behindRun_9 (by decide) (fun hc => ?_) (fun hc => ?_)
    · replace hf := ifT hf hc
      refine g_iload hC 3 dX8_behindRun_40 rfl ?_
      cases hf
      exact hret _ _ rfl dX8_behindRun_42
    · replace hf := ifF hf hc
      refine g_aload_n hC 0 dX8_behindRun_12 rfl rfl ?_
      refine gt_X8_9 hC (a := 1) (kk_1 hL) (kn_1 hL) dX8_behindRun_13 ?_
      refine g_ref (b := 2) rfl ?_
      refine g_iload hC 3 dX8_behindRun_16 rfl ?_
      obtain ⟨h_1, hf⟩ := gdE hf
      refine g_bald hC (x := x2) (kk_2 hL) (kn_2 hL) (ov_get hN 1 rfl rfl) (inb_in h_1) dX8_behindRun_18 ?_
      refine g_iload_n hC 1 dX8_behindRun_19 rfl rfl ?_
      refine g_icmp_lt hC 40 dX8_behindRun_20 (by decide) (fun hc => ?_) (fun hc => ?_)
      · replace hf := ifT hf hc
        refine g_iload hC 3 dX8_behindRun_40 rfl ?_
        cases hf
        exact hret _ _ rfl dX8_behindRun_42
      · replace hf := ifF hf hc
        refine g_aload_n hC 0 dX8_behindRun_23 rfl rfl ?_
        refine gt_X8_9 hC (a := 1) (kk_1 hL) (kn_1 hL) dX8_behindRun_24 ?_
        refine g_ref (b := 2) rfl ?_
        refine g_iload hC 3 dX8_behindRun_27 rfl ?_
        obtain ⟨h_2, hf⟩ := gdE hf
        refine g_bald hC (x := x2) (kk_2 hL) (kn_2 hL) (ov_get hN 1 rfl rfl) (inb_in h_2) dX8_behindRun_29 ?_
        refine g_iload_n hC 2 dX8_behindRun_30 rfl rfl ?_
        refine g_icmp_gt hC 40 dX8_behindRun_31 (by decide) (fun hc => ?_) (fun hc => ?_)
        · replace hf := ifT hf hc
          refine g_iload hC 3 dX8_behindRun_40 rfl ?_
          cases hf
          exact hret _ _ rfl dX8_behindRun_42
        · replace hf := ifF hf hc
          obtain ⟨t_3, et_3, hf⟩ := bnE hf
          refine g_iinc hC (i := 4) (v := t_3) [(4, .int t_3), (0, .ref (b0 + 1)), (2, .int v2), (3, .int v3)] dX8_behindRun_34 (q := 3) rfl ((congrArg (HAdd.hAdd v4) ic_1).trans et_3.symm) (by decide) rfl ?_
          refine g_goto hC 3 dX8_behindRun_37 (by decide) ?_
          exact g_sub [1, 2, 3, 0] rfl (hk3 v2 v3 t_3 hf)

def fX8_behindRun_0  (x1 : Nat → Int32) (x2 : Nat → Int32)  (v1 : Int32) (v2 : Int32) (v3 : Int32) : Option (Int32) := fX8_behindRun_3 x1 x2  v2 v3 v1
set_option maxHeartbeats 4000000 in
set_option maxRecDepth 100000 in
theorem wX8_behindRun_0 {l : Launch} {b0 : Nat} {D : GD} {K : KT} {n : Nat} {κ : QT} {X0 : XT} {Y0 : YT} {Z : ZT} (hL : LY n κ) (hN : ([1, 2] : List Nat).Nodup) (hM : ([] : List Nat).Nodup) (hC : gC l b0 D K RX8 cX8_behindRun (some FieldType.int) 5 0 0 0 0) {x1 : Nat → Int32} {x2 : Nat → Int32} {r : Int32} (hret : ∀ pc loc, narrow .int (.int r) = .int r → decode cX8_behindRun pc = .ok (.ireturn, 1) → gV l b0 D K (n, κ, ov X0 [1, 2] [x1, x2], ov Y0 [] [], Z, 0, 0) pc loc [.int r]) {v1 : Int32} {v2 : Int32} {v3 : Int32} (hf : fX8_behindRun_0 x1 x2  v1 v2 v3 = some r) : gV l b0 D K (n, κ, ov X0 [1, 2] [x1, x2], ov Y0 [] [], Z, 0, 0) 0 [(0, .ref (b0 + 1)), (1, .int v1), (2, .int v2), (3, .int v3)] [] := by
  unfold fX8_behindRun_0 at hf
  refine g_iload_n hC 1 dX8_behindRun_0 rfl rfl ?_
  refine g_istore hC (i := 4) [(4, .int v1), (0, .ref (b0 + 1)), (1, .int v1), (2, .int v2), (3, .int v3)] dX8_behindRun_1 (by decide) rfl ?_
  exact g_sub [1, 3, 4, 0] rfl (wX8_behindRun_3 hL hN hM hC hret  5000 v2 v3 v1 hf)

def fX8_behindRun  (x1 : Nat → Int32) (x2 : Nat → Int32)  (v1 : Int32) (v2 : Int32) (v3 : Int32)   : Option (Int32) := fX8_behindRun_0 x1 x2 v1 v2 v3

set_option maxHeartbeats 4000000 in
set_option maxRecDepth 100000 in
theorem c_X8_behindRun (l : Launch) {b0 : Nat} {D : GD} {n : Nat} {κ : QT} {X0 : XT} {Y0 : YT} {Z : ZT} (hL : LY n κ) {x1 : Nat → Int32} {x2 : Nat → Int32} (hx : ([1, 2] : List Nat).map X0 = [x1, x2]) (hy : ([] : List Nat).map Y0 = []) {v1 : Int32} {v2 : Int32} {v3 : Int32} {r : Int32} (hf : fX8_behindRun x1 x2 v1 v2 v3 = some r) : gMi l yX8_behindRun cX8_behindRun 5 (some FieldType.int) 0 0 0 0 b0 D [.ref (b0 + 1), .int v1, .int v2, .int v3] (n, κ, X0, Y0, Z) (n, κ, ov X0 [1, 2] [x1, x2], ov Y0 [] [], Z) r := by
  have hN : ([1, 2] : List Nat).Nodup := by decide
  have hM : ([] : List Nat).Nodup := by decide
  refine g_meti (own := RX8) (by decide) rfl rfl (Nat.le_of_ble_eq_true rfl) ?_
  intro K hC hret
  have e := wX8_behindRun_0 hL hN hM hC hret hf
  rw [ov_id' hx, ov_id' hy] at e
  exact g_sub [0, 1, 2, 3] rfl e

-- X8_numberFrom
def fX8_numberFrom_5b  (x2 : Nat → Int32)  (k5 : Int32 → Int32 → Int32 → Option (Int32)) (v2 : Int32) (v3 : Int32) (v4 : Int32) : Option (Int32) := if v2 ≤ v4 then (some v3) else (gd (inb v4 400) (bn (((v3 * 10) + (x2 v4.toNatClampNeg)) - 48) fun t_2 => (bn (v4 + 1) fun t_3 => (k5 v2 t_2 t_3))))
def fX8_numberFrom_5  (x2 : Nat → Int32)  : Int32 → Int32 → Int32 → Option (Int32) := lq3 (fX8_numberFrom_5b x2 ) 5000
set_option maxHeartbeats 4000000 in
set_option maxRecDepth 100000 in
theorem wX8_numberFrom_5 {l : Launch} {b0 : Nat} {D : GD} {K : KT} {n : Nat} {κ : QT} {X0 : XT} {Y0 : YT} {Z : ZT} (hL : LY n κ) (hN : ([2] : List Nat).Nodup) (hM : ([] : List Nat).Nodup) (hC : gC l b0 D K RX8 cX8_numberFrom (some FieldType.int) 5 0 0 0 0) {x2 : Nat → Int32} {r : Int32} (hret : ∀ pc loc, narrow .int (.int r) = .int r → decode cX8_numberFrom pc = .ok (.ireturn, 1) → gV l b0 D K (n, κ, ov X0 [2] [x2], ov Y0 [] [], Z, 0, 0) pc loc [.int r]) : ∀ (j : Nat) (v2 : Int32) (v3 : Int32) (v4 : Int32), lq3 (fX8_numberFrom_5b x2 ) j v2 v3 v4 = some r → gV l b0 D K (n, κ, ov X0 [2] [x2], ov Y0 [] [], Z, 0, 0) 5 [(0, .ref (b0 + 1)), (2, .int v2), (3, .int v3), (4, .int v4)] [] := by
  intro j
  induction j with
  | zero => intro v2 v3 v4 hf; cases hf
  | succ j hk5 =>
    intro v2 v3 v4 hf
    replace hf : fX8_numberFrom_5b x2  (lq3 (fX8_numberFrom_5b x2 ) j) v2 v3 v4 = some r := hf
    unfold fX8_numberFrom_5b at hf
    refine g_iload hC 3 dX8_numberFrom_5 rfl ?_
    refine g_iload_n hC 1 dX8_numberFrom_7 rfl rfl ?_
    refine g_icmp_ge hC 33 dX8_numberFrom_8 (by decide) (fun hc => ?_) (fun hc => ?_)
    · replace hf := ifT hf hc
      refine g_iload_n hC 2 dX8_numberFrom_33 rfl rfl ?_
      cases hf
      exact hret _ _ rfl dX8_numberFrom_34
    · replace hf := ifF hf hc
      refine g_iload_n hC 2 dX8_numberFrom_11 rfl rfl ?_
      refine g_bipush hC (v := 10) dX8_numberFrom_12 bp_10 ?_
      refine g_imul hC dX8_numberFrom_14 ?_
      refine g_aload_n hC 0 dX8_numberFrom_15 rfl rfl ?_
      refine gt_X8_9 hC (a := 1) (kk_1 hL) (kn_1 hL) dX8_numberFrom_16 ?_
      refine g_ref (b := 2) rfl ?_
      refine g_iload hC 3 dX8_numberFrom_19 rfl ?_
      obtain ⟨h_1, hf⟩ := gdE hf
      refine g_bald hC (x := x2) (kk_2 hL) (kn_2 hL) (ov_get hN 0 rfl rfl) (inb_in h_1) dX8_numberFrom_21 ?_
      refine g_iadd hC dX8_numberFrom_22 ?_
      refine g_bipush hC (v := 48) dX8_numberFrom_23 bp_48 ?_
      refine g_isub hC dX8_numberFrom_25 ?_
      obtain ⟨t_2, et_2, hf⟩ := bnE hf
      refine g_topi et_2 ?_
      refine g_istore_n hC (i := 3) [(3, .int t_2), (0, .ref (b0 + 1)), (2, .int v2), (4, .int v4)] rfl dX8_numberFrom_26 (by decide) rfl ?_
      obtain ⟨t_3, et_3, hf⟩ := bnE hf
      refine g_iinc hC (i := 4) (v := t_3) [(4, .int t_3), (3, .int t_2), (0, .ref (b0 + 1)), (2, .int v2)] dX8_numberFrom_27 (q := 3) rfl ((congrArg (HAdd.hAdd v4) ic_1).trans et_3.symm) (by decide) rfl ?_
      refine g_goto hC 5 dX8_numberFrom_30 (by decide) ?_
      exact g_sub [2, 3, 1, 0] rfl (hk5 v2 t_2 t_3 hf)

def fX8_numberFrom_0  (x2 : Nat → Int32)  (v1 : Int32) (v2 : Int32) : Option (Int32) := fX8_numberFrom_5 x2  v2 0 v1
set_option maxHeartbeats 4000000 in
set_option maxRecDepth 100000 in
theorem wX8_numberFrom_0 {l : Launch} {b0 : Nat} {D : GD} {K : KT} {n : Nat} {κ : QT} {X0 : XT} {Y0 : YT} {Z : ZT} (hL : LY n κ) (hN : ([2] : List Nat).Nodup) (hM : ([] : List Nat).Nodup) (hC : gC l b0 D K RX8 cX8_numberFrom (some FieldType.int) 5 0 0 0 0) {x2 : Nat → Int32} {r : Int32} (hret : ∀ pc loc, narrow .int (.int r) = .int r → decode cX8_numberFrom pc = .ok (.ireturn, 1) → gV l b0 D K (n, κ, ov X0 [2] [x2], ov Y0 [] [], Z, 0, 0) pc loc [.int r]) {v1 : Int32} {v2 : Int32} (hf : fX8_numberFrom_0 x2  v1 v2 = some r) : gV l b0 D K (n, κ, ov X0 [2] [x2], ov Y0 [] [], Z, 0, 0) 0 [(0, .ref (b0 + 1)), (1, .int v1), (2, .int v2)] [] := by
  unfold fX8_numberFrom_0 at hf
  refine g_iconst hC (v := 0) dX8_numberFrom_0 ic_0 ?_
  refine g_istore_n hC (i := 3) [(3, .int 0), (0, .ref (b0 + 1)), (1, .int v1), (2, .int v2)] rfl dX8_numberFrom_1 (by decide) rfl ?_
  refine g_iload_n hC 2 dX8_numberFrom_2 rfl rfl ?_
  refine g_istore hC (i := 4) [(4, .int v1), (3, .int 0), (0, .ref (b0 + 1)), (1, .int v1), (2, .int v2)] dX8_numberFrom_3 (by decide) rfl ?_
  exact g_sub [2, 4, 1, 0] rfl (wX8_numberFrom_5 hL hN hM hC hret  5000 v2 0 v1 hf)

def fX8_numberFrom  (x2 : Nat → Int32)  (v1 : Int32) (v2 : Int32)   : Option (Int32) := fX8_numberFrom_0 x2 v1 v2

set_option maxHeartbeats 4000000 in
set_option maxRecDepth 100000 in
theorem c_X8_numberFrom (l : Launch) {b0 : Nat} {D : GD} {n : Nat} {κ : QT} {X0 : XT} {Y0 : YT} {Z : ZT} (hL : LY n κ) {x2 : Nat → Int32} (hx : ([2] : List Nat).map X0 = [x2]) (hy : ([] : List Nat).map Y0 = []) {v1 : Int32} {v2 : Int32} {r : Int32} (hf : fX8_numberFrom x2 v1 v2 = some r) : gMi l yX8_numberFrom cX8_numberFrom 5 (some FieldType.int) 0 0 0 0 b0 D [.ref (b0 + 1), .int v1, .int v2] (n, κ, X0, Y0, Z) (n, κ, ov X0 [2] [x2], ov Y0 [] [], Z) r := by
  have hN : ([2] : List Nat).Nodup := by decide
  have hM : ([] : List Nat).Nodup := by decide
  refine g_meti (own := RX8) (by decide) rfl rfl (Nat.le_of_ble_eq_true rfl) ?_
  intro K hC hret
  have e := wX8_numberFrom_0 hL hN hM hC hret hf
  rw [ov_id' hx, ov_id' hy] at e
  exact g_sub [0, 1, 2] rfl e

-- X8_signAt
def fX8_signAt_181  (x1 : Nat → Int32) (x2 : Nat → Int32)   : Option (Int32) := some 3
set_option maxHeartbeats 4000000 in
set_option maxRecDepth 100000 in
theorem wX8_signAt_181 {l : Launch} {b0 : Nat} {D : GD} {K : KT} {n : Nat} {κ : QT} {X0 : XT} {Y0 : YT} {Z : ZT} (hL : LY n κ) (hN : ([1, 2] : List Nat).Nodup) (hM : ([] : List Nat).Nodup) (hC : gC l b0 D K RX8 cX8_signAt (some FieldType.int) 3 0 0 0 0) {x1 : Nat → Int32} {x2 : Nat → Int32} {r : Int32} (hret : ∀ pc loc, narrow .int (.int r) = .int r → decode cX8_signAt pc = .ok (.ireturn, 1) → gV l b0 D K (n, κ, ov X0 [1, 2] [x1, x2], ov Y0 [] [], Z, 0, 0) pc loc [.int r])  (hf : fX8_signAt_181 x1 x2   = some r) : gV l b0 D K (n, κ, ov X0 [1, 2] [x1, x2], ov Y0 [] [], Z, 0, 0) 181 [] [] := by
  unfold fX8_signAt_181 at hf
  refine g_iconst hC (v := 3) dX8_signAt_181 ic_3 ?_
  cases hf
  exact hret _ _ rfl dX8_signAt_182

def fX8_signAt_28  (x1 : Nat → Int32) (x2 : Nat → Int32)  (v1 : Int32) (s0 : Int32) : Option (Int32) := gd (inb v1 400) (bn (x2 v1.toNatClampNeg) fun t_2 => (if t_2.toInt = 37 then (some 11) else (if t_2.toInt = 42 then (some 9) else (if t_2.toInt = 43 then (some 7) else (if t_2.toInt = 45 then (some 8) else (if t_2.toInt = 47 then (some 10) else (if t_2.toInt = 59 then (some 4) else (if t_2.toInt = 60 then (if s0 = 0 then (some 12) else (some 13)) else (if t_2.toInt = 61 then (some 14) else (if t_2.toInt = 62 then (if s0 = 0 then (some 16) else (some 15)) else (if t_2.toInt = 91 then (some 5) else (if t_2.toInt = 93 then (some 6) else (fX8_signAt_181 x1 x2  )))))))))))))
set_option maxHeartbeats 4000000 in
set_option maxRecDepth 100000 in
theorem wX8_signAt_28 {l : Launch} {b0 : Nat} {D : GD} {K : KT} {n : Nat} {κ : QT} {X0 : XT} {Y0 : YT} {Z : ZT} (hL : LY n κ) (hN : ([1, 2] : List Nat).Nodup) (hM : ([] : List Nat).Nodup) (hC : gC l b0 D K RX8 cX8_signAt (some FieldType.int) 3 0 0 0 0) {x1 : Nat → Int32} {x2 : Nat → Int32} {r : Int32} (hret : ∀ pc loc, narrow .int (.int r) = .int r → decode cX8_signAt pc = .ok (.ireturn, 1) → gV l b0 D K (n, κ, ov X0 [1, 2] [x1, x2], ov Y0 [] [], Z, 0, 0) pc loc [.int r]) {v1 : Int32} {s0 : Int32} (hf : fX8_signAt_28 x1 x2  v1 s0 = some r) : gV l b0 D K (n, κ, ov X0 [1, 2] [x1, x2], ov Y0 [] [], Z, 0, 0) 28 [(0, .ref (b0 + 1)), (1, .int v1)] [.int s0] := by
  unfold fX8_signAt_28 at hf
  refine g_istore_n hC (i := 2) [(2, .int s0), (0, .ref (b0 + 1)), (1, .int v1)] rfl dX8_signAt_28 (by decide) rfl ?_
  refine g_aload_n hC 1 dX8_signAt_29 rfl rfl ?_
  refine gt_X8_9 hC (a := 1) (kk_1 hL) (kn_1 hL) dX8_signAt_30 ?_
  refine g_ref (b := 2) rfl ?_
  refine g_iload_n hC 2 dX8_signAt_33 rfl rfl ?_
  obtain ⟨h_1, hf⟩ := gdE hf
  refine g_bald hC (x := x2) (kk_2 hL) (kn_2 hL) (ov_get hN 1 rfl rfl) (inb_in h_1) dX8_signAt_34 ?_
  obtain ⟨t_2, et_2, hf⟩ := bnE hf
  refine g_topi et_2 ?_
  by_cases c_3 : t_2.toInt = 37
  · replace hf := ifT hf c_3
    refine g_look hC 151 dX8_signAt_35 (by decide) (by rw [c_3]; rfl) (by decide) ?_
    refine g_bipush hC (v := 11) dX8_signAt_151 bp_11 ?_
    cases hf
    exact hret _ _ rfl dX8_signAt_153
  replace hf := ifF hf c_3
  by_cases c_4 : t_2.toInt = 42
  · replace hf := ifT hf c_4
    refine g_look hC 145 dX8_signAt_35 (by decide) (by rw [c_4]; rfl) (by decide) ?_
    refine g_bipush hC (v := 9) dX8_signAt_145 bp_9 ?_
    cases hf
    exact hret _ _ rfl dX8_signAt_147
  replace hf := ifF hf c_4
  by_cases c_5 : t_2.toInt = 43
  · replace hf := ifT hf c_5
    refine g_look hC 139 dX8_signAt_35 (by decide) (by rw [c_5]; rfl) (by decide) ?_
    refine g_bipush hC (v := 7) dX8_signAt_139 bp_7 ?_
    cases hf
    exact hret _ _ rfl dX8_signAt_141
  replace hf := ifF hf c_5
  by_cases c_6 : t_2.toInt = 45
  · replace hf := ifT hf c_6
    refine g_look hC 142 dX8_signAt_35 (by decide) (by rw [c_6]; rfl) (by decide) ?_
    refine g_bipush hC (v := 8) dX8_signAt_142 bp_8 ?_
    cases hf
    exact hret _ _ rfl dX8_signAt_144
  replace hf := ifF hf c_6
  by_cases c_7 : t_2.toInt = 47
  · replace hf := ifT hf c_7
    refine g_look hC 148 dX8_signAt_35 (by decide) (by rw [c_7]; rfl) (by decide) ?_
    refine g_bipush hC (v := 10) dX8_signAt_148 bp_10 ?_
    cases hf
    exact hret _ _ rfl dX8_signAt_150
  replace hf := ifF hf c_7
  by_cases c_8 : t_2.toInt = 59
  · replace hf := ifT hf c_8
    refine g_look hC 132 dX8_signAt_35 (by decide) (by rw [c_8]; rfl) (by decide) ?_
    refine g_iconst hC (v := 4) dX8_signAt_132 ic_4 ?_
    cases hf
    exact hret _ _ rfl dX8_signAt_133
  replace hf := ifF hf c_8
  by_cases c_9 : t_2.toInt = 60
  · replace hf := ifT hf c_9
    refine g_look hC 157 dX8_signAt_35 (by decide) (by rw [c_9]; rfl) (by decide) ?_
    refine g_iload_n hC 0 dX8_signAt_157 rfl rfl ?_
    refine g_if_eq hC 166 dX8_signAt_158 (by decide) (fun hc => ?_) (fun hc => ?_)
    · replace hf := ifT hf hc
      refine g_bipush hC (v := 12) dX8_signAt_166 bp_12 ?_
      cases hf
      exact hret _ _ rfl dX8_signAt_168
    · replace hf := ifF hf hc
      refine g_bipush hC (v := 13) dX8_signAt_161 bp_13 ?_
      refine g_goto hC 168 dX8_signAt_163 (by decide) ?_
      cases hf
      exact hret _ _ rfl dX8_signAt_168
  replace hf := ifF hf c_9
  by_cases c_10 : t_2.toInt = 61
  · replace hf := ifT hf c_10
    refine g_look hC 154 dX8_signAt_35 (by decide) (by rw [c_10]; rfl) (by decide) ?_
    refine g_bipush hC (v := 14) dX8_signAt_154 bp_14 ?_
    cases hf
    exact hret _ _ rfl dX8_signAt_156
  replace hf := ifF hf c_10
  by_cases c_11 : t_2.toInt = 62
  · replace hf := ifT hf c_11
    refine g_look hC 169 dX8_signAt_35 (by decide) (by rw [c_11]; rfl) (by decide) ?_
    refine g_iload_n hC 0 dX8_signAt_169 rfl rfl ?_
    refine g_if_eq hC 178 dX8_signAt_170 (by decide) (fun hc => ?_) (fun hc => ?_)
    · replace hf := ifT hf hc
      refine g_bipush hC (v := 16) dX8_signAt_178 bp_16 ?_
      cases hf
      exact hret _ _ rfl dX8_signAt_180
    · replace hf := ifF hf hc
      refine g_bipush hC (v := 15) dX8_signAt_173 bp_15 ?_
      refine g_goto hC 180 dX8_signAt_175 (by decide) ?_
      cases hf
      exact hret _ _ rfl dX8_signAt_180
  replace hf := ifF hf c_11
  by_cases c_12 : t_2.toInt = 91
  · replace hf := ifT hf c_12
    refine g_look hC 134 dX8_signAt_35 (by decide) (by rw [c_12]; rfl) (by decide) ?_
    refine g_iconst hC (v := 5) dX8_signAt_134 ic_5 ?_
    cases hf
    exact hret _ _ rfl dX8_signAt_135
  replace hf := ifF hf c_12
  by_cases c_13 : t_2.toInt = 93
  · replace hf := ifT hf c_13
    refine g_look hC 136 dX8_signAt_35 (by decide) (by rw [c_13]; rfl) (by decide) ?_
    refine g_bipush hC (v := 6) dX8_signAt_136 bp_6 ?_
    cases hf
    exact hret _ _ rfl dX8_signAt_138
  replace hf := ifF hf c_13
  refine g_look hC (off := 146) 181 dX8_signAt_35 (by decide) (by simp [Op.lookupswitch.offset, c_3, c_4, c_5, c_6, c_7, c_8, c_9, c_10, c_11, c_12, c_13]) (by decide) ?_
  exact g_sub [] rfl (wX8_signAt_181 hL hN hM hC hret  hf)

def fX8_signAt_27  (x1 : Nat → Int32) (x2 : Nat → Int32)  (v1 : Int32) : Option (Int32) := fX8_signAt_28 x1 x2  v1 0
set_option maxHeartbeats 4000000 in
set_option maxRecDepth 100000 in
theorem wX8_signAt_27 {l : Launch} {b0 : Nat} {D : GD} {K : KT} {n : Nat} {κ : QT} {X0 : XT} {Y0 : YT} {Z : ZT} (hL : LY n κ) (hN : ([1, 2] : List Nat).Nodup) (hM : ([] : List Nat).Nodup) (hC : gC l b0 D K RX8 cX8_signAt (some FieldType.int) 3 0 0 0 0) {x1 : Nat → Int32} {x2 : Nat → Int32} {r : Int32} (hret : ∀ pc loc, narrow .int (.int r) = .int r → decode cX8_signAt pc = .ok (.ireturn, 1) → gV l b0 D K (n, κ, ov X0 [1, 2] [x1, x2], ov Y0 [] [], Z, 0, 0) pc loc [.int r]) {v1 : Int32} (hf : fX8_signAt_27 x1 x2  v1 = some r) : gV l b0 D K (n, κ, ov X0 [1, 2] [x1, x2], ov Y0 [] [], Z, 0, 0) 27 [(0, .ref (b0 + 1)), (1, .int v1)] [] := by
  unfold fX8_signAt_27 at hf
  refine g_iconst hC (v := 0) dX8_signAt_27 ic_0 ?_
  exact g_sub [0, 1] rfl (wX8_signAt_28 hL hN hM hC hret  hf)

def fX8_signAt_0  (x1 : Nat → Int32) (x2 : Nat → Int32)  (v1 : Int32) : Option (Int32) := if (x1 1) ≤ (v1 + 1) then (fX8_signAt_27 x1 x2  v1) else (gd (inb (v1 + 1) 400) (if (x2 (v1 + 1).toNatClampNeg) = 61 then (fX8_signAt_28 x1 x2  v1 1) else (fX8_signAt_27 x1 x2  v1)))
set_option maxHeartbeats 4000000 in
set_option maxRecDepth 100000 in
theorem wX8_signAt_0 {l : Launch} {b0 : Nat} {D : GD} {K : KT} {n : Nat} {κ : QT} {X0 : XT} {Y0 : YT} {Z : ZT} (hL : LY n κ) (hN : ([1, 2] : List Nat).Nodup) (hM : ([] : List Nat).Nodup) (hC : gC l b0 D K RX8 cX8_signAt (some FieldType.int) 3 0 0 0 0) {x1 : Nat → Int32} {x2 : Nat → Int32} {r : Int32} (hret : ∀ pc loc, narrow .int (.int r) = .int r → decode cX8_signAt pc = .ok (.ireturn, 1) → gV l b0 D K (n, κ, ov X0 [1, 2] [x1, x2], ov Y0 [] [], Z, 0, 0) pc loc [.int r]) {v1 : Int32} (hf : fX8_signAt_0 x1 x2  v1 = some r) : gV l b0 D K (n, κ, ov X0 [1, 2] [x1, x2], ov Y0 [] [], Z, 0, 0) 0 [(0, .ref (b0 + 1)), (1, .int v1)] [] := by
  unfold fX8_signAt_0 at hf
  refine g_iload_n hC 1 dX8_signAt_0 rfl rfl ?_
  refine g_iconst hC (v := 1) dX8_signAt_1 ic_1 ?_
  refine g_iadd hC dX8_signAt_2 ?_
  refine g_aload_n hC 0 dX8_signAt_3 rfl rfl ?_
  refine gt_X8_25 hC (x := x1) (kk_1 hL) (kn_1 hL) (ov_get hN 0 rfl rfl) dX8_signAt_4 ?_
  refine g_icmp_ge hC 27 dX8_signAt_7 (by decide) (fun hc => ?_) (fun hc => ?_)
  · replace hf := ifT hf hc
    exact g_sub [0, 1] rfl (wX8_signAt_27 hL hN hM hC hret  hf)
  · replace hf := ifF hf hc
    refine g_aload_n hC 0 dX8_signAt_10 rfl rfl ?_
    refine gt_X8_9 hC (a := 1) (kk_1 hL) (kn_1 hL) dX8_signAt_11 ?_
    refine g_ref (b := 2) rfl ?_
    refine g_iload_n hC 1 dX8_signAt_14 rfl rfl ?_
    refine g_iconst hC (v := 1) dX8_signAt_15 ic_1 ?_
    refine g_iadd hC dX8_signAt_16 ?_
    obtain ⟨h_1, hf⟩ := gdE hf
    refine g_bald hC (x := x2) (kk_2 hL) (kn_2 hL) (ov_get hN 1 rfl rfl) (inb_in h_1) dX8_signAt_17 ?_
    refine g_bipush hC (v := 61) dX8_signAt_18 bp_61 ?_
    refine g_icmp_ne hC 27 dX8_signAt_20 (by decide) (fun hc => ?_) (fun hc => ?_)
    · replace hf := ifF hf hc
      exact g_sub [0, 1] rfl (wX8_signAt_27 hL hN hM hC hret  hf)
    · replace hf := ifT hf hc
      refine g_iconst hC (v := 1) dX8_signAt_23 ic_1 ?_
      refine g_goto hC 28 dX8_signAt_24 (by decide) ?_
      exact g_sub [0, 1] rfl (wX8_signAt_28 hL hN hM hC hret  hf)

def fX8_signAt  (x1 : Nat → Int32) (x2 : Nat → Int32)  (v1 : Int32)   : Option (Int32) := fX8_signAt_0 x1 x2 v1

set_option maxHeartbeats 4000000 in
set_option maxRecDepth 100000 in
theorem c_X8_signAt (l : Launch) {b0 : Nat} {D : GD} {n : Nat} {κ : QT} {X0 : XT} {Y0 : YT} {Z : ZT} (hL : LY n κ) {x1 : Nat → Int32} {x2 : Nat → Int32} (hx : ([1, 2] : List Nat).map X0 = [x1, x2]) (hy : ([] : List Nat).map Y0 = []) {v1 : Int32} {r : Int32} (hf : fX8_signAt x1 x2 v1 = some r) : gMi l yX8_signAt cX8_signAt 3 (some FieldType.int) 0 0 0 0 b0 D [.ref (b0 + 1), .int v1] (n, κ, X0, Y0, Z) (n, κ, ov X0 [1, 2] [x1, x2], ov Y0 [] [], Z) r := by
  have hN : ([1, 2] : List Nat).Nodup := by decide
  have hM : ([] : List Nat).Nodup := by decide
  refine g_meti (own := RX8) (by decide) rfl rfl (Nat.le_of_ble_eq_true rfl) ?_
  intro K hC hret
  have e := wX8_signAt_0 hL hN hM hC hret hf
  rw [ov_id' hx, ov_id' hy] at e
  exact g_sub [0, 1] rfl e


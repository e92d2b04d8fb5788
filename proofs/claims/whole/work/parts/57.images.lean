set_option maxHeartbeats 4000000 in
set_option maxRecDepth 100000 in
theorem c_imageA (l : Launch) {b0 : Nat} {D : GD} {n : Nat} {κ : QT} {X : XT} {Y : YT} {Z : ZT} (hL : LY n κ) {v1 : Int32} (h1 : fX11_isWithin v1 0 3 = some 0) : gMi l yX11_image cX11_image 2 (some FieldType.int) 1 22 0 0 b0 D [.ref (b0 + 0), .int v1] (n, κ, X, Y, Z) (n, κ, X, Y, Z) (-1) := by
  refine g_meti (own := RX11) (by decide) rfl rfl (Nat.le_of_ble_eq_true rfl) ?_
  intro K hC hret
  refine g_iload_n hC 1 dX11_image_0 rfl rfl ?_
  refine g_iconst hC (v := 0) dX11_image_1 ic_0 ?_
  refine g_iconst hC (v := 3) dX11_image_2 ic_3 ?_
  refine g_callS_i hC (n' := n) (κ' := κ) (X' := X) (Y' := Y) (Z' := Z) (As := [.int v1, .int 0, .int 3]) (gMi_eq (c_X11_isWithin l hL (X0 := X) rfl rfl h1) (ov_id _ []) rfl) tw_666 tw_870 tw_116 tw_665 pd_X11_isWithin (by decide) (by decide) rfl rfl (Nat.le_of_ble_eq_true rfl) rfl dX11_image_3 ?_
  show gV l b0 D K (n, κ, X, Y, Z, 0, 0) 6 [(0, .ref (b0 + 0)), (1, .int v1)] [.int 0]
  refine g_if_ne hC 11 dX11_image_6 (by decide) (fun hq_ => absurd rfl hq_) (fun _ => ?_)
  refine g_iconst hC (v := (-1)) dX11_image_9 ic_m1 ?_
  exact hret _ _ rfl dX11_image_10
set_option maxHeartbeats 4000000 in
set_option maxRecDepth 100000 in
theorem c_imageB (l : Launch) {b0 : Nat} {D : GD} {n : Nat} {κ : QT} {X : XT} {Y : YT} {Z : ZT} (hL : LY n κ) {v1 : Int32} (h1 : fX11_isWithin v1 0 3 = some 1) (hi : inb v1 4 = true) {w : Nat} (hz : Z 31 v1.toNatClampNeg = some w) (kw : κ w = (6, 0)) (nw : w < n) {n1 : Nat} {κ1 : QT} {X1 : XT} {Z1 : ZT} (hM : gMv l yX6_copy cX6_copy 3 none 3 82 160 2160 b0 D [.ref (b0 + w), .ref (b0 + 16)] (n, κ, X, Y, Z) (n1, κ1, X1, Y, Z1)) (hL1 : LY n1 κ1) : gMi l yX11_image cX11_image 2 (some FieldType.int) 4 104 175 2346 b0 D [.ref (b0 + 0), .int v1] (n, κ, X, Y, Z) (n1, κ1, X1, Y, Z1) (X1 23 0) := by
  refine g_meti (own := RX11) (by decide) rfl rfl (Nat.le_of_ble_eq_true rfl) ?_
  intro K hC hret
  refine g_iload_n hC 1 dX11_image_0 rfl rfl ?_
  refine g_iconst hC (v := 0) dX11_image_1 ic_0 ?_
  refine g_iconst hC (v := 3) dX11_image_2 ic_3 ?_
  refine g_callS_i hC (n' := n) (κ' := κ) (X' := X) (Y' := Y) (Z' := Z) (As := [.int v1, .int 0, .int 3]) (gMi_eq (c_X11_isWithin l hL (X0 := X) rfl rfl h1) (ov_id _ []) rfl) tw_666 tw_870 tw_116 tw_665 pd_X11_isWithin (by decide) (by decide) rfl rfl (Nat.le_of_ble_eq_true rfl) rfl dX11_image_3 ?_
  show gV l b0 D K (n, κ, X, Y, Z, 0, 0) 6 [(0, .ref (b0 + 0)), (1, .int v1)] [.int 1]
  refine g_if_ne hC 11 dX11_image_6 (by decide) (fun _ => ?_) (fun hq_ => absurd hq_ (by decide))
  refine g_aload_n hC 0 dX11_image_11 rfl rfl ?_
  refine gt_X11_45 hC (a := 0) (kk_0 hL) (kn_0 hL) dX11_image_12 ?_
  refine g_ref (b := 31) rfl ?_
  refine g_iload_n hC 1 dX11_image_15 rfl rfl ?_
  refine g_aald18 hC (L := 4) (a := 31) (kk_31 hL) (kn_31 hL) (inb_in hi) (r := some w) hz dX11_image_16 ?_
  show gV l b0 D K (n, κ, X, Y, Z, 0, 0) 17 [(0, .ref (b0 + 0)), (1, .int v1)] [.ref (b0 + w)]
  refine g_ifnonnull hC 33 dX11_image_17 (by decide) ?_
  refine g_aload_n hC 0 dX11_image_33 rfl rfl ?_
  refine gt_X11_45 hC (a := 0) (kk_0 hL) (kn_0 hL) dX11_image_34 ?_
  refine g_ref (b := 31) rfl ?_
  refine g_iload_n hC 1 dX11_image_37 rfl rfl ?_
  refine g_aald18 hC (L := 4) (a := 31) (kk_31 hL) (kn_31 hL) (inb_in hi) (r := some w) hz dX11_image_38 ?_
  show gV l b0 D K (n, κ, X, Y, Z, 0, 0) 39 [(0, .ref (b0 + 0)), (1, .int v1)] [.ref (b0 + w)]
  refine g_aload_n hC 0 dX11_image_39 rfl rfl ?_
  refine gt_X11_41 hC (a := 0) (kk_0 hL) (kn_0 hL) dX11_image_40 ?_
  refine g_ref (b := 16) rfl ?_
  refine g_callV_v (a := w) hC (n' := n1) (κ' := κ1) (X' := X1) (Y' := Y) (Z' := Z1) (As := [.ref (b0 + 16)]) hM tw_1162 tw_1159 tw_122 tw_1160 tw_1161 (ci := 6) rfl (by decide) kw nw pd_X6_copy (by decide) (by decide) rfl rfl (Nat.le_of_ble_eq_true rfl) rfl dX11_image_43 ?_
  show gV l b0 D K (n1, κ1, X1, Y, Z1, 160, 2160) 46 [(0, .ref (b0 + 0)), (1, .int v1)] []
  refine g_aload_n hC 0 dX11_image_46 rfl rfl ?_
  refine gt_X11_41 hC (a := 0) (kk_0 hL1) (kn_0 hL1) dX11_image_47 ?_
  refine g_ref (b := 16) rfl ?_
  refine gt_X11_140 hC (a := 16) (kk_16 hL1) (kn_16 hL1) dX11_image_50 ?_
  refine g_ref (b := 23) rfl ?_
  refine gt_X11_170 hC (x := X1 23) (kk_23 hL1) (kn_23 hL1) rfl dX11_image_53 ?_
  refine g_widen (cs' := 175) (ss' := 2346) (by decide) (by decide) ?_
  exact hret _ _ rfl dX11_image_56
set_option maxHeartbeats 4000000 in
set_option maxRecDepth 100000 in
theorem c_imageC (l : Launch) {b0 : Nat} {D : GD} {n : Nat} {κ : QT} {X : XT} {Y : YT} {Z : ZT} (hL : LY n κ) {v1 : Int32} (h1 : fX11_isWithin v1 0 3 = some 1) (hi : inb v1 4 = true) (hz : Z 31 v1.toNatClampNeg = none) {n1 : Nat} {κ1 : QT} {X1 : XT} {Z1 : ZT} (hM : gMv l yX6_copy cX6_copy 3 none 3 82 160 2160 b0 D [.ref (b0 + n), .ref (b0 + 16)] (n + 15, blk κ n nScn, va_up (blz X n 15) n (upd (fun _ => 0) 8 (-1)), Y, va_up (va_up Z (n + 11) (fun _ => none)) 31 (va_up (Z 31) v1.toNatClampNeg (some n))) (n1, κ1, X1, Y, Z1)) (hL1 : LY n1 κ1) : gMi l yX11_image cX11_image 2 (some FieldType.int) 4 104 175 2346 b0 D [.ref (b0 + 0), .int v1] (n, κ, X, Y, Z) (n1, κ1, X1, Y, Z1) (X1 23 0) := by
  refine g_meti (own := RX11) (by decide) rfl rfl (Nat.le_of_ble_eq_true rfl) ?_
  intro K hC hret
  refine g_iload_n hC 1 dX11_image_0 rfl rfl ?_
  refine g_iconst hC (v := 0) dX11_image_1 ic_0 ?_
  refine g_iconst hC (v := 3) dX11_image_2 ic_3 ?_
  refine g_callS_i hC (n' := n) (κ' := κ) (X' := X) (Y' := Y) (Z' := Z) (As := [.int v1, .int 0, .int 3]) (gMi_eq (c_X11_isWithin l hL (X0 := X) rfl rfl h1) (ov_id _ []) rfl) tw_666 tw_870 tw_116 tw_665 pd_X11_isWithin (by decide) (by decide) rfl rfl (Nat.le_of_ble_eq_true rfl) rfl dX11_image_3 ?_
  show gV l b0 D K (n, κ, X, Y, Z, 0, 0) 6 [(0, .ref (b0 + 0)), (1, .int v1)] [.int 1]
  refine g_if_ne hC 11 dX11_image_6 (by decide) (fun _ => ?_) (fun hq_ => absurd hq_ (by decide))
  refine g_aload_n hC 0 dX11_image_11 rfl rfl ?_
  refine gt_X11_45 hC (a := 0) (kk_0 hL) (kn_0 hL) dX11_image_12 ?_
  refine g_ref (b := 31) rfl ?_
  refine g_iload_n hC 1 dX11_image_15 rfl rfl ?_
  refine g_aald18 hC (L := 4) (a := 31) (kk_31 hL) (kn_31 hL) (inb_in hi) (r := none) hz dX11_image_16 ?_
  show gV l b0 D K (n, κ, X, Y, Z, 0, 0) 17 [(0, .ref (b0 + 0)), (1, .int v1)] [.null]
  refine g_ifnonnullN hC dX11_image_17 ?_
  refine g_aload_n hC 0 dX11_image_20 rfl rfl ?_
  refine gt_X11_45 hC (a := 0) (kk_0 hL) (kn_0 hL) dX11_image_21 ?_
  refine g_ref (b := 31) rfl ?_
  refine g_iload_n hC 1 dX11_image_24 rfl rfl ?_
  have h114 : 114 ≤ n := hL.1
  have hL2 := LY_scn hL
  have hlt : ∀ x, x < n → blk κ n nScn x = κ x := fun x h => blk_lt h
  refine g_eqs (blk_nil (o := n)) (blz_nil (o := n)) ?_
  refine h_newo6 hC (L := []) (o := n) rfl tw_303 (by decide) dX11_image_25 ?_
  show gV l b0 D K (n + 1, blk κ n [(6 + 20, 0)], blz X n 1, Y, va_up Z n (fun _ => none), 1, 10) 28 [(0, .ref (b0 + 0)), (1, .int v1)] [.ref (b0 + n), .int v1, .ref (b0 + 31)]
  refine g_dup hC dX11_image_28 rfl ?_
  refine g_callIN_v hC (a := n) (As := []) (gMv_eqs (c_X6_init l (o := n) (Z2 := va_up Z (n + 11) (fun _ => none)) rfl (blk_at 0 rfl rfl) (blz_at 0 rfl (by simp)) up_eq (fun i hi => by simp only [va_up, if_neg hi])) (n2 := n + 15) rfl (blk_blk (L := []) (by decide)) (congrArg (fun f => va_up f n (upd (fun _ => 0) 8 (-1))) (blz_blz (m := 0)))) tw_307 (List.mem_of_getElem? (i := 3) rfl) tw_122 tw_306 rfl pd_X6_init (by decide) (by decide) rfl rfl (Nat.le_of_ble_eq_true rfl) rfl dX11_image_29 ?_
  show gV l b0 D K (n + 15, blk κ n nScn, va_up (blz X n 15) n (upd (fun _ => 0) 8 (-1)), Y, va_up Z (n + 11) (fun _ => none), 15, 186) 32 [(0, .ref (b0 + 0)), (1, .int v1)] [.ref (b0 + n), .int v1, .ref (b0 + 31)]
  refine g_aast18 hC (L := 4) (a := 31) (v := n) (i := v1) (kk_31 hL2) (kn_31 hL2) (blk_at 0 rfl rfl) (by omega) (inb_in hi) (Z' := va_up (va_up Z (n + 11) (fun _ => none)) 31 (va_up (Z 31) v1.toNatClampNeg (some n))) (by rw [up_ne (show (31 : Nat) ≠ n + 11 by omega)]) dX11_image_32 ?_
  show gV l b0 D K (n + 15, blk κ n nScn, va_up (blz X n 15) n (upd (fun _ => 0) 8 (-1)), Y, va_up (va_up Z (n + 11) (fun _ => none)) 31 (va_up (Z 31) v1.toNatClampNeg (some n)), 15, 186) 33 [(0, .ref (b0 + 0)), (1, .int v1)] []
  refine g_aload_n hC 0 dX11_image_33 rfl rfl ?_
  refine gt_X11_45 hC (a := 0) (kk_0 hL2) (kn_0 hL2) dX11_image_34 ?_
  refine g_ref (b := 31) rfl ?_
  refine g_iload_n hC 1 dX11_image_37 rfl rfl ?_
  refine g_aald18 hC (L := 4) (a := 31) (kk_31 hL2) (kn_31 hL2) (inb_in hi) (r := some n) (by rw [up_eq, up_eq]) dX11_image_38 ?_
  show gV l b0 D K (n + 15, blk κ n nScn, va_up (blz X n 15) n (upd (fun _ => 0) 8 (-1)), Y, va_up (va_up Z (n + 11) (fun _ => none)) 31 (va_up (Z 31) v1.toNatClampNeg (some n)), 15, 186) 39 [(0, .ref (b0 + 0)), (1, .int v1)] [.ref (b0 + n)]
  refine g_aload_n hC 0 dX11_image_39 rfl rfl ?_
  refine gt_X11_41 hC (a := 0) (kk_0 hL2) (kn_0 hL2) dX11_image_40 ?_
  refine g_ref (b := 16) rfl ?_
  refine g_callV_v (a := n) hC (n' := n1) (κ' := κ1) (X' := X1) (Y' := Y) (Z' := Z1) (As := [.ref (b0 + 16)]) hM tw_1162 tw_1159 tw_122 tw_1160 tw_1161 (ci := 6) rfl (by decide) (blk_at 0 rfl rfl) (by omega) pd_X6_copy (by decide) (by decide) rfl rfl (Nat.le_of_ble_eq_true rfl) rfl dX11_image_43 ?_
  show gV l b0 D K (n1, κ1, X1, Y, Z1, 175, 2346) 46 [(0, .ref (b0 + 0)), (1, .int v1)] []
  refine g_aload_n hC 0 dX11_image_46 rfl rfl ?_
  refine gt_X11_41 hC (a := 0) (kk_0 hL1) (kn_0 hL1) dX11_image_47 ?_
  refine g_ref (b := 16) rfl ?_
  refine gt_X11_140 hC (a := 16) (kk_16 hL1) (kn_16 hL1) dX11_image_50 ?_
  refine g_ref (b := 23) rfl ?_
  refine gt_X11_170 hC (x := X1 23) (kk_23 hL1) (kn_23 hL1) rfl dX11_image_53 ?_
  exact hret _ _ rfl dX11_image_56
set_option maxHeartbeats 4000000 in
set_option maxRecDepth 100000 in
theorem c_backA (l : Launch) {b0 : Nat} {D : GD} {n : Nat} {κ : QT} {X : XT} {Y : YT} {Z : ZT} (hL : LY n κ) {v1 : Int32} (h1 : fX11_isWithin v1 0 3 = some 0) : gMi l yX11_back cX11_back 2 (some FieldType.int) 1 22 0 0 b0 D [.ref (b0 + 0), .int v1] (n, κ, X, Y, Z) (n, κ, X, Y, Z) (-1) := by
  refine g_meti (own := RX11) (by decide) rfl rfl (Nat.le_of_ble_eq_true rfl) ?_
  intro K hC hret
  refine g_iload_n hC 1 dX11_back_0 rfl rfl ?_
  refine g_iconst hC (v := 0) dX11_back_1 ic_0 ?_
  refine g_iconst hC (v := 3) dX11_back_2 ic_3 ?_
  refine g_callS_i hC (n' := n) (κ' := κ) (X' := X) (Y' := Y) (Z' := Z) (As := [.int v1, .int 0, .int 3]) (gMi_eq (c_X11_isWithin l hL (X0 := X) rfl rfl h1) (ov_id _ []) rfl) tw_666 tw_870 tw_116 tw_665 pd_X11_isWithin (by decide) (by decide) rfl rfl (Nat.le_of_ble_eq_true rfl) rfl dX11_back_3 ?_
  show gV l b0 D K (n, κ, X, Y, Z, 0, 0) 6 [(0, .ref (b0 + 0)), (1, .int v1)] [.int 0]
  refine g_if_eq hC 18 dX11_back_6 (by decide) (fun _ => ?_) (fun hq_ => absurd rfl hq_)
  refine g_iconst hC (v := (-1)) dX11_back_18 ic_m1 ?_
  exact hret _ _ rfl dX11_back_19
set_option maxHeartbeats 4000000 in
set_option maxRecDepth 100000 in
theorem c_backB (l : Launch) {b0 : Nat} {D : GD} {n : Nat} {κ : QT} {X : XT} {Y : YT} {Z : ZT} (hL : LY n κ) {v1 : Int32} (h1 : fX11_isWithin v1 0 3 = some 1) (hi : inb v1 4 = true) (hz : Z 31 v1.toNatClampNeg = none) : gMi l yX11_back cX11_back 2 (some FieldType.int) 1 22 0 0 b0 D [.ref (b0 + 0), .int v1] (n, κ, X, Y, Z) (n, κ, X, Y, Z) (-1) := by
  refine g_meti (own := RX11) (by decide) rfl rfl (Nat.le_of_ble_eq_true rfl) ?_
  intro K hC hret
  refine g_iload_n hC 1 dX11_back_0 rfl rfl ?_
  refine g_iconst hC (v := 0) dX11_back_1 ic_0 ?_
  refine g_iconst hC (v := 3) dX11_back_2 ic_3 ?_
  refine g_callS_i hC (n' := n) (κ' := κ) (X' := X) (Y' := Y) (Z' := Z) (As := [.int v1, .int 0, .int 3]) (gMi_eq (c_X11_isWithin l hL (X0 := X) rfl rfl h1) (ov_id _ []) rfl) tw_666 tw_870 tw_116 tw_665 pd_X11_isWithin (by decide) (by decide) rfl rfl (Nat.le_of_ble_eq_true rfl) rfl dX11_back_3 ?_
  show gV l b0 D K (n, κ, X, Y, Z, 0, 0) 6 [(0, .ref (b0 + 0)), (1, .int v1)] [.int 1]
  refine g_if_eq hC 18 dX11_back_6 (by decide) (fun hq_ => absurd hq_ (by decide)) (fun _ => ?_)
  refine g_aload_n hC 0 dX11_back_9 rfl rfl ?_
  refine gt_X11_45 hC (a := 0) (kk_0 hL) (kn_0 hL) dX11_back_10 ?_
  refine g_ref (b := 31) rfl ?_
  refine g_iload_n hC 1 dX11_back_13 rfl rfl ?_
  refine g_aald18 hC (L := 4) (a := 31) (kk_31 hL) (kn_31 hL) (inb_in hi) (r := none) hz dX11_back_14 ?_
  show gV l b0 D K (n, κ, X, Y, Z, 0, 0) 15 [(0, .ref (b0 + 0)), (1, .int v1)] [.null]
  refine g_ifnonnullN hC dX11_back_15 ?_
  refine g_iconst hC (v := (-1)) dX11_back_18 ic_m1 ?_
  exact hret _ _ rfl dX11_back_19
set_option maxHeartbeats 4000000 in
set_option maxRecDepth 100000 in
theorem c_backC (l : Launch) {b0 : Nat} {D : GD} {n : Nat} {κ : QT} {X : XT} {Y : YT} {Z : ZT} (hL : LY n κ) {v1 : Int32} (h1 : fX11_isWithin v1 0 3 = some 1) (hi : inb v1 4 = true) {w : Nat} (hz : Z 31 v1.toNatClampNeg = some w) {n1 : Nat} {κ1 : QT} {X1 : XT} {Z1 : ZT} (hM : gMv l yX6_copy cX6_copy 3 none 3 82 160 2160 b0 D [.ref (b0 + 16), .ref (b0 + w)] (n, κ, X, Y, Z) (n1, κ1, X1, Y, Z1)) (hL1 : LY n1 κ1) : gMi l yX11_back cX11_back 2 (some FieldType.int) 4 104 160 2160 b0 D [.ref (b0 + 0), .int v1] (n, κ, X, Y, Z) (n1, κ1, X1, Y, Z1) (X1 23 0) := by
  refine g_meti (own := RX11) (by decide) rfl rfl (Nat.le_of_ble_eq_true rfl) ?_
  intro K hC hret
  refine g_iload_n hC 1 dX11_back_0 rfl rfl ?_
  refine g_iconst hC (v := 0) dX11_back_1 ic_0 ?_
  refine g_iconst hC (v := 3) dX11_back_2 ic_3 ?_
  refine g_callS_i hC (n' := n) (κ' := κ) (X' := X) (Y' := Y) (Z' := Z) (As := [.int v1, .int 0, .int 3]) (gMi_eq (c_X11_isWithin l hL (X0 := X) rfl rfl h1) (ov_id _ []) rfl) tw_666 tw_870 tw_116 tw_665 pd_X11_isWithin (by decide) (by decide) rfl rfl (Nat.le_of_ble_eq_true rfl) rfl dX11_back_3 ?_
  show gV l b0 D K (n, κ, X, Y, Z, 0, 0) 6 [(0, .ref (b0 + 0)), (1, .int v1)] [.int 1]
  refine g_if_eq hC 18 dX11_back_6 (by decide) (fun hq_ => absurd hq_ (by decide)) (fun _ => ?_)
  refine g_aload_n hC 0 dX11_back_9 rfl rfl ?_
  refine gt_X11_45 hC (a := 0) (kk_0 hL) (kn_0 hL) dX11_back_10 ?_
  refine g_ref (b := 31) rfl ?_
  refine g_iload_n hC 1 dX11_back_13 rfl rfl ?_
  refine g_aald18 hC (L := 4) (a := 31) (kk_31 hL) (kn_31 hL) (inb_in hi) (r := some w) hz dX11_back_14 ?_
  show gV l b0 D K (n, κ, X, Y, Z, 0, 0) 15 [(0, .ref (b0 + 0)), (1, .int v1)] [.ref (b0 + w)]
  refine g_ifnonnull hC 20 dX11_back_15 (by decide) ?_
  refine g_aload_n hC 0 dX11_back_20 rfl rfl ?_
  refine gt_X11_41 hC (a := 0) (kk_0 hL) (kn_0 hL) dX11_back_21 ?_
  refine g_ref (b := 16) rfl ?_
  refine g_aload_n hC 0 dX11_back_24 rfl rfl ?_
  refine gt_X11_45 hC (a := 0) (kk_0 hL) (kn_0 hL) dX11_back_25 ?_
  refine g_ref (b := 31) rfl ?_
  refine g_iload_n hC 1 dX11_back_28 rfl rfl ?_
  refine g_aald18 hC (L := 4) (a := 31) (kk_31 hL) (kn_31 hL) (inb_in hi) (r := some w) hz dX11_back_29 ?_
  show gV l b0 D K (n, κ, X, Y, Z, 0, 0) 30 [(0, .ref (b0 + 0)), (1, .int v1)] [.ref (b0 + w), .ref (b0 + 16)]
  refine g_callV_v (a := 16) hC (n' := n1) (κ' := κ1) (X' := X1) (Y' := Y) (Z' := Z1) (As := [.ref (b0 + w)]) hM tw_1162 tw_1159 tw_122 tw_1160 tw_1161 (ci := 6) rfl (by decide) (kk_16 hL) (kn_16 hL) pd_X6_copy (by decide) (by decide) rfl rfl (Nat.le_of_ble_eq_true rfl) rfl dX11_back_30 ?_
  show gV l b0 D K (n1, κ1, X1, Y, Z1, 160, 2160) 33 [(0, .ref (b0 + 0)), (1, .int v1)] []
  refine g_aload_n hC 0 dX11_back_33 rfl rfl ?_
  refine gt_X11_41 hC (a := 0) (kk_0 hL1) (kn_0 hL1) dX11_back_34 ?_
  refine g_ref (b := 16) rfl ?_
  refine gt_X11_140 hC (a := 16) (kk_16 hL1) (kn_16 hL1) dX11_back_37 ?_
  refine g_ref (b := 23) rfl ?_
  refine gt_X11_170 hC (x := X1 23) (kk_23 hL1) (kn_23 hL1) rfl dX11_back_40 ?_
  exact hret _ _ rfl dX11_back_43

set_option maxHeartbeats 4000000 in
set_option maxRecDepth 100000 in
theorem c_dayA (l : Launch) {b0 : Nat} {D : GD} {n : Nat} {κ : QT} {X : XT} {Y : YT} {Z : ZT} (hL : LY n κ) (h1 : fX11_isTold (X 17) = some 0) : gMi l yX11_day cX11_day 1 (some FieldType.int) 1 20 0 0 b0 D [.ref (b0 + 0)] (n, κ, X, Y, Z) (n, κ, X, Y, Z) (-1) := by
  refine g_meti (own := RX11) (by decide) rfl rfl (Nat.le_of_ble_eq_true rfl) ?_
  intro K hC hret
  refine g_aload_n hC 0 dX11_day_0 rfl rfl ?_
  refine g_callV_i (a := 0) hC (n' := n) (κ' := κ) (X' := X) (Y' := Y) (Z' := Z) (As := []) (gMi_eq (c_X11_isTold l hL (X0 := X) rfl rfl h1) (ov_id _ [17]) rfl) tw_853 tw_850 tw_116 tw_852 tw_25 (ci := 11) rfl (by decide) (kk_0 hL) (kn_0 hL) pd_X11_isTold (by decide) (by decide) rfl rfl (Nat.le_of_ble_eq_true rfl) rfl dX11_day_1 ?_
  show gV l b0 D K (n, κ, X, Y, Z, 0, 0) 4 [(0, .ref (b0 + 0))] [.int 0]
  refine g_if_eq hC 23 dX11_day_4 (by decide) (fun _ => ?_) (fun hq_ => absurd rfl hq_)
  refine g_iconst hC (v := (-1)) dX11_day_23 ic_m1 ?_
  exact hret _ _ rfl dX11_day_24
set_option maxHeartbeats 4000000 in
set_option maxRecDepth 100000 in
theorem c_dayB (l : Launch) {b0 : Nat} {D : GD} {n : Nat} {κ : QT} {X : XT} {Y : YT} {Z : ZT} (hL : LY n κ) (h1 : fX11_isTold (X 17) = some 1) (h2 : ¬ X 23 0 < 999) : gMi l yX11_day cX11_day 1 (some FieldType.int) 1 20 0 0 b0 D [.ref (b0 + 0)] (n, κ, X, Y, Z) (n, κ, X, Y, Z) (-1) := by
  refine g_meti (own := RX11) (by decide) rfl rfl (Nat.le_of_ble_eq_true rfl) ?_
  intro K hC hret
  refine g_aload_n hC 0 dX11_day_0 rfl rfl ?_
  refine g_callV_i (a := 0) hC (n' := n) (κ' := κ) (X' := X) (Y' := Y) (Z' := Z) (As := []) (gMi_eq (c_X11_isTold l hL (X0 := X) rfl rfl h1) (ov_id _ [17]) rfl) tw_853 tw_850 tw_116 tw_852 tw_25 (ci := 11) rfl (by decide) (kk_0 hL) (kn_0 hL) pd_X11_isTold (by decide) (by decide) rfl rfl (Nat.le_of_ble_eq_true rfl) rfl dX11_day_1 ?_
  show gV l b0 D K (n, κ, X, Y, Z, 0, 0) 4 [(0, .ref (b0 + 0))] [.int 1]
  refine g_if_eq hC 23 dX11_day_4 (by decide) (fun hq_ => absurd hq_ (by decide)) (fun _ => ?_)
  refine g_aload_n hC 0 dX11_day_7 rfl rfl ?_
  refine gt_X11_41 hC (a := 0) (kk_0 hL) (kn_0 hL) dX11_day_8 ?_
  refine g_ref (b := 16) rfl ?_
  refine gt_X11_140 hC (a := 16) (kk_16 hL) (kn_16 hL) dX11_day_11 ?_
  refine g_ref (b := 23) rfl ?_
  refine gt_X11_170 hC (x := X 23) (kk_23 hL) (kn_23 hL) rfl dX11_day_14 ?_
  refine g_sipush hC (v := 999) dX11_day_17 sp_999 ?_
  refine g_icmp_lt hC 25 dX11_day_20 (by decide) (fun hq_ => absurd hq_ h2) (fun _ => ?_)
  refine g_iconst hC (v := (-1)) dX11_day_23 ic_m1 ?_
  exact hret _ _ rfl dX11_day_24
set_option maxHeartbeats 4000000 in
set_option maxRecDepth 100000 in
theorem c_dayN (l : Launch) {b0 : Nat} {D : GD} {n : Nat} {κ : QT} {X : XT} {Y : YT} {Z : ZT} (hL : LY n κ) (h1 : fX11_isTold (X 17) = some 1) (h2 : X 23 0 < 999) {n1 : Nat} {κ1 : QT} {X1 : XT} {Z1 : ZT} (hM : gMv l yX6_remember cX6_remember 1 none 3 61 4 54 b0 D [.ref (b0 + 16)] (n, κ, X, Y, Z) (n1, κ1, X1, Y, Z1)) (hL1 : LY n1 κ1) (hri : fX11_isWithin (X1 16 8) 0 (X1 0 4 - 1) = some 0) {ht : Int32} (hh : fX9_heatOf (X1 23) (X1 17) (X1 18) = some ht) {r : Int32} {r0 r1 r2 r3 r33 : Nat → Int32} (hp : fX1_passN (X1 17) ht (X1 23) (X1 24) (X1 25) (X1 26) (X1 33) = some (r, r0, r1, r2, r3, r33)) : gMi l yX11_day cX11_day 1 (some FieldType.int) 5 138 4 54 b0 D [.ref (b0 + 0)] (n, κ, X, Y, Z) (n1, κ1, ov X1 [23, 24, 25, 26, 17, 33] [r0, r1, r2, r3, X1 17, r33], Y, Z1) r := by
  refine g_meti (own := RX11) (by decide) rfl rfl (Nat.le_of_ble_eq_true rfl) ?_
  intro K hC hret
  refine g_aload_n hC 0 dX11_day_0 rfl rfl ?_
  refine g_callV_i (a := 0) hC (n' := n) (κ' := κ) (X' := X) (Y' := Y) (Z' := Z) (As := []) (gMi_eq (c_X11_isTold l hL (X0 := X) rfl rfl h1) (ov_id _ [17]) rfl) tw_853 tw_850 tw_116 tw_852 tw_25 (ci := 11) rfl (by decide) (kk_0 hL) (kn_0 hL) pd_X11_isTold (by decide) (by decide) rfl rfl (Nat.le_of_ble_eq_true rfl) rfl dX11_day_1 ?_
  show gV l b0 D K (n, κ, X, Y, Z, 0, 0) 4 [(0, .ref (b0 + 0))] [.int 1]
  refine g_if_eq hC 23 dX11_day_4 (by decide) (fun hq_ => absurd hq_ (by decide)) (fun _ => ?_)
  refine g_aload_n hC 0 dX11_day_7 rfl rfl ?_
  refine gt_X11_41 hC (a := 0) (kk_0 hL) (kn_0 hL) dX11_day_8 ?_
  refine g_ref (b := 16) rfl ?_
  refine gt_X11_140 hC (a := 16) (kk_16 hL) (kn_16 hL) dX11_day_11 ?_
  refine g_ref (b := 23) rfl ?_
  refine gt_X11_170 hC (x := X 23) (kk_23 hL) (kn_23 hL) rfl dX11_day_14 ?_
  refine g_sipush hC (v := 999) dX11_day_17 sp_999 ?_
  refine g_icmp_lt hC 25 dX11_day_20 (by decide) (fun _ => ?_) (fun hq_ => absurd h2 hq_)
  refine g_aload_n hC 0 dX11_day_25 rfl rfl ?_
  refine gt_X11_41 hC (a := 0) (kk_0 hL) (kn_0 hL) dX11_day_26 ?_
  refine g_ref (b := 16) rfl ?_
  refine g_callV_v (a := 16) hC (n' := n1) (κ' := κ1) (X' := X1) (Y' := Y) (Z' := Z1) (As := []) hM tw_857 tw_854 tw_122 tw_855 tw_856 (ci := 6) rfl (by decide) (kk_16 hL) (kn_16 hL) pd_X6_remember (by decide) (by decide) rfl rfl (Nat.le_of_ble_eq_true rfl) rfl dX11_day_29 ?_
  show gV l b0 D K (n1, κ1, X1, Y, Z1, 4, 54) 32 [(0, .ref (b0 + 0))] []
  refine g_aload_n hC 0 dX11_day_32 rfl rfl ?_
  refine gt_X11_58 hC (a := 0) (kk_0 hL1) (kn_0 hL1) dX11_day_33 ?_
  refine g_ref (b := 32) rfl ?_
  refine g_aload_n hC 0 dX11_day_36 rfl rfl ?_
  refine gt_X11_41 hC (a := 0) (kk_0 hL1) (kn_0 hL1) dX11_day_37 ?_
  refine g_ref (b := 16) rfl ?_
  refine gt_X11_140 hC (a := 16) (kk_16 hL1) (kn_16 hL1) dX11_day_40 ?_
  refine g_ref (b := 23) rfl ?_
  refine g_aload_n hC 0 dX11_day_43 rfl rfl ?_
  refine g_callV_q (a := 0) hC (n' := n1) (κ' := κ1) (X' := X1) (Y' := Y) (Z' := Z1) (As := []) (c_rifN l hL1 rfl rfl hri) tw_869 tw_866 tw_116 tw_868 tw_28 (ci := 11) rfl (by decide) (kk_0 hL1) (kn_0 hL1) pd_X11_ruleInForce (by decide) (by decide) rfl rfl (Nat.le_of_ble_eq_true rfl) rfl dX11_day_44 ?_
  show gV l b0 D K (n1, κ1, X1, Y, Z1, 4, 54) 47 [(0, .ref (b0 + 0))] [.null, .ref (b0 + 23), .ref (b0 + 32)]
  refine g_aload_n hC 0 dX11_day_47 rfl rfl ?_
  refine gt_X11_41 hC (a := 0) (kk_0 hL1) (kn_0 hL1) dX11_day_48 ?_
  refine g_ref (b := 16) rfl ?_
  refine gt_X11_51 hC (a := 16) (kk_16 hL1) (kn_16 hL1) dX11_day_51 ?_
  refine g_ref (b := 17) rfl ?_
  refine g_aload_n hC 0 dX11_day_54 rfl rfl ?_
  refine gt_X11_41 hC (a := 0) (kk_0 hL1) (kn_0 hL1) dX11_day_55 ?_
  refine g_ref (b := 16) rfl ?_
  refine gt_X11_140 hC (a := 16) (kk_16 hL1) (kn_16 hL1) dX11_day_58 ?_
  refine g_ref (b := 23) rfl ?_
  refine g_callV_i (a := 17) hC (n' := n1) (κ' := κ1) (X' := X1) (Y' := Y) (Z' := Z1) (As := [.ref (b0 + 23)]) (gMi_eq (c_X9_heatOf l hL1 (kk_23 hL1) (kn_23 hL1) (by decide) (by decide) (X0 := X1) rfl rfl hh) (ov_id _ [23, 17, 18]) rfl) tw_806 tw_803 tw_119 tw_804 tw_805 (ci := 9) rfl (by decide) (kk_17 hL1) (kn_17 hL1) pd_X9_heatOf (by decide) (by decide) rfl rfl (Nat.le_of_ble_eq_true rfl) rfl dX11_day_61 ?_
  show gV l b0 D K (n1, κ1, X1, Y, Z1, 4, 54) 64 [(0, .ref (b0 + 0))] [.int ht, .null, .ref (b0 + 23), .ref (b0 + 32)]
  refine g_callV_i (a := 32) hC (n' := n1) (κ' := κ1) (X' := ov X1 [23, 24, 25, 26, 17, 33] [r0, r1, r2, r3, X1 17, r33]) (Y' := Y) (Z' := Z1) (As := [.ref (b0 + 23), .null, .int ht]) (c_X1_passN l hL1 (kk_23 hL1) (kn_23 hL1) (by decide) (by decide) rfl rfl hp) tw_874 tw_871 tw_123 tw_872 tw_873 (ci := 1) rfl (by decide) (kk_32 hL1) (kn_32 hL1) pd_X1_pass (by decide) (by decide) rfl rfl (Nat.le_of_ble_eq_true rfl) rfl dX11_day_64 ?_
  show gV l b0 D K (n1, κ1, ov X1 [23, 24, 25, 26, 17, 33] [r0, r1, r2, r3, X1 17, r33], Y, Z1, 4, 54) 67 [(0, .ref (b0 + 0))] [.int r]
  exact hret _ _ rfl dX11_day_67
set_option maxHeartbeats 4000000 in
set_option maxRecDepth 100000 in
theorem c_dayR (l : Launch) {b0 : Nat} {D : GD} {n : Nat} {κ : QT} {X : XT} {Y : YT} {Z : ZT} (hL : LY n κ) (h1 : fX11_isTold (X 17) = some 1) (h2 : X 23 0 < 999) {n1 : Nat} {κ1 : QT} {X1 : XT} {Z1 : ZT} (hM : gMv l yX6_remember cX6_remember 1 none 3 61 4 54 b0 D [.ref (b0 + 16)] (n, κ, X, Y, Z) (n1, κ1, X1, Y, Z1)) (hL1 : LY n1 κ1) {ru Lru : Nat} (hri : fX11_isWithin (X1 16 8) 0 (X1 0 4 - 1) = some 1 ∧ inb (X1 16 8) 6 = true ∧ Z1 15 (X1 16 8).toNatClampNeg = some ru) (kr : κ1 ru = (4, 0)) (nr : ru < n1) (kr1 : κ1 (ru + 1) = (14, Lru)) (hru : 114 ≤ ru) {ht : Int32} (hh : fX9_heatOf (X1 23) (X1 17) (X1 18) = some ht) {r : Int32} {r0 r1 r2 r3 r33 : Nat → Int32} {y2 y34 : Nat → Int64} (hp : fX1_passR Lru (X1 (ru + 1)) (X1 17) (X1 18) ht (X1 23) (X1 24) (X1 25) (X1 26) (X1 33) (Y (ru + 2)) (Y 34) = some (r, r0, r1, r2, r3, r33, y2, y34)) : gMi l yX11_day cX11_day 1 (some FieldType.int) 5 138 4 54 b0 D [.ref (b0 + 0)] (n, κ, X, Y, Z) (n1, κ1, ov X1 [23, 24, 25, 26, ru + 1, 17, 18, 33] [r0, r1, r2, r3, X1 (ru + 1), X1 17, X1 18, r33], ov Y [ru + 2, 34] [y2, y34], Z1) r := by
  refine g_meti (own := RX11) (by decide) rfl rfl (Nat.le_of_ble_eq_true rfl) ?_
  intro K hC hret
  refine g_aload_n hC 0 dX11_day_0 rfl rfl ?_
  refine g_callV_i (a := 0) hC (n' := n) (κ' := κ) (X' := X) (Y' := Y) (Z' := Z) (As := []) (gMi_eq (c_X11_isTold l hL (X0 := X) rfl rfl h1) (ov_id _ [17]) rfl) tw_853 tw_850 tw_116 tw_852 tw_25 (ci := 11) rfl (by decide) (kk_0 hL) (kn_0 hL) pd_X11_isTold (by decide) (by decide) rfl rfl (Nat.le_of_ble_eq_true rfl) rfl dX11_day_1 ?_
  show gV l b0 D K (n, κ, X, Y, Z, 0, 0) 4 [(0, .ref (b0 + 0))] [.int 1]
  refine g_if_eq hC 23 dX11_day_4 (by decide) (fun hq_ => absurd hq_ (by decide)) (fun _ => ?_)
  refine g_aload_n hC 0 dX11_day_7 rfl rfl ?_
  refine gt_X11_41 hC (a := 0) (kk_0 hL) (kn_0 hL) dX11_day_8 ?_
  refine g_ref (b := 16) rfl ?_
  refine gt_X11_140 hC (a := 16) (kk_16 hL) (kn_16 hL) dX11_day_11 ?_
  refine g_ref (b := 23) rfl ?_
  refine gt_X11_170 hC (x := X 23) (kk_23 hL) (kn_23 hL) rfl dX11_day_14 ?_
  refine g_sipush hC (v := 999) dX11_day_17 sp_999 ?_
  refine g_icmp_lt hC 25 dX11_day_20 (by decide) (fun _ => ?_) (fun hq_ => absurd h2 hq_)
  refine g_aload_n hC 0 dX11_day_25 rfl rfl ?_
  refine gt_X11_41 hC (a := 0) (kk_0 hL) (kn_0 hL) dX11_day_26 ?_
  refine g_ref (b := 16) rfl ?_
  refine g_callV_v (a := 16) hC (n' := n1) (κ' := κ1) (X' := X1) (Y' := Y) (Z' := Z1) (As := []) hM tw_857 tw_854 tw_122 tw_855 tw_856 (ci := 6) rfl (by decide) (kk_16 hL) (kn_16 hL) pd_X6_remember (by decide) (by decide) rfl rfl (Nat.le_of_ble_eq_true rfl) rfl dX11_day_29 ?_
  show gV l b0 D K (n1, κ1, X1, Y, Z1, 4, 54) 32 [(0, .ref (b0 + 0))] []
  refine g_aload_n hC 0 dX11_day_32 rfl rfl ?_
  refine gt_X11_58 hC (a := 0) (kk_0 hL1) (kn_0 hL1) dX11_day_33 ?_
  refine g_ref (b := 32) rfl ?_
  refine g_aload_n hC 0 dX11_day_36 rfl rfl ?_
  refine gt_X11_41 hC (a := 0) (kk_0 hL1) (kn_0 hL1) dX11_day_37 ?_
  refine g_ref (b := 16) rfl ?_
  refine gt_X11_140 hC (a := 16) (kk_16 hL1) (kn_16 hL1) dX11_day_40 ?_
  refine g_ref (b := 23) rfl ?_
  refine g_aload_n hC 0 dX11_day_43 rfl rfl ?_
  refine g_callV_q (a := 0) hC (n' := n1) (κ' := κ1) (X' := X1) (Y' := Y) (Z' := Z1) (As := []) (c_rifR l hL1 rfl rfl hri) tw_869 tw_866 tw_116 tw_868 tw_28 (ci := 11) rfl (by decide) (kk_0 hL1) (kn_0 hL1) pd_X11_ruleInForce (by decide) (by decide) rfl rfl (Nat.le_of_ble_eq_true rfl) rfl dX11_day_44 ?_
  show gV l b0 D K (n1, κ1, X1, Y, Z1, 4, 54) 47 [(0, .ref (b0 + 0))] [.ref (b0 + ru), .ref (b0 + 23), .ref (b0 + 32)]
  refine g_aload_n hC 0 dX11_day_47 rfl rfl ?_
  refine gt_X11_41 hC (a := 0) (kk_0 hL1) (kn_0 hL1) dX11_day_48 ?_
  refine g_ref (b := 16) rfl ?_
  refine gt_X11_51 hC (a := 16) (kk_16 hL1) (kn_16 hL1) dX11_day_51 ?_
  refine g_ref (b := 17) rfl ?_
  refine g_aload_n hC 0 dX11_day_54 rfl rfl ?_
  refine gt_X11_41 hC (a := 0) (kk_0 hL1) (kn_0 hL1) dX11_day_55 ?_
  refine g_ref (b := 16) rfl ?_
  refine gt_X11_140 hC (a := 16) (kk_16 hL1) (kn_16 hL1) dX11_day_58 ?_
  refine g_ref (b := 23) rfl ?_
  refine g_callV_i (a := 17) hC (n' := n1) (κ' := κ1) (X' := X1) (Y' := Y) (Z' := Z1) (As := [.ref (b0 + 23)]) (gMi_eq (c_X9_heatOf l hL1 (kk_23 hL1) (kn_23 hL1) (by decide) (by decide) (X0 := X1) rfl rfl hh) (ov_id _ [23, 17, 18]) rfl) tw_806 tw_803 tw_119 tw_804 tw_805 (ci := 9) rfl (by decide) (kk_17 hL1) (kn_17 hL1) pd_X9_heatOf (by decide) (by decide) rfl rfl (Nat.le_of_ble_eq_true rfl) rfl dX11_day_61 ?_
  show gV l b0 D K (n1, κ1, X1, Y, Z1, 4, 54) 64 [(0, .ref (b0 + 0))] [.int ht, .ref (b0 + ru), .ref (b0 + 23), .ref (b0 + 32)]
  refine g_callV_i (a := 32) hC (n' := n1) (κ' := κ1) (X' := ov X1 [23, 24, 25, 26, ru + 1, 17, 18, 33] [r0, r1, r2, r3, X1 (ru + 1), X1 17, X1 18, r33]) (Y' := ov Y [ru + 2, 34] [y2, y34]) (Z' := Z1) (As := [.ref (b0 + 23), .ref (b0 + ru), .int ht]) (c_X1_passR l hL1 (kk_23 hL1) (kn_23 hL1) kr nr kr1 (by simp; omega) (by simp; omega) rfl rfl hp) tw_874 tw_871 tw_123 tw_872 tw_873 (ci := 1) rfl (by decide) (kk_32 hL1) (kn_32 hL1) pd_X1_pass (by decide) (by decide) rfl rfl (Nat.le_of_ble_eq_true rfl) rfl dX11_day_64 ?_
  show gV l b0 D K (n1, κ1, ov X1 [23, 24, 25, 26, ru + 1, 17, 18, 33] [r0, r1, r2, r3, X1 (ru + 1), X1 17, X1 18, r33], ov Y [ru + 2, 34] [y2, y34], Z1, 4, 54) 67 [(0, .ref (b0 + 0))] [.int r]
  exact hret _ _ rfl dX11_day_67
set_option maxHeartbeats 4000000 in
set_option maxRecDepth 100000 in
theorem c_crackA (l : Launch) {b0 : Nat} {D : GD} {n : Nat} {κ : QT} {X : XT} {Y : YT} {Z : ZT} (hL : LY n κ) {v1 : Int32} {v2 : Int32} (h1 : fX11_areTwo (X 17) v1 v2 = some 0)  : gMi l yX11_crack cX11_crack 4 (some FieldType.int) 2 43 0 0 b0 D [.ref (b0 + 0), .int v1, .int v2] (n, κ, X, Y, Z) (n, κ, X, Y, Z) (-1) := by
  refine g_meti (own := RX11) (by decide) rfl rfl (Nat.le_of_ble_eq_true rfl) ?_
  intro K hC hret
  refine g_aload_n hC 0 dX11_crack_0 rfl rfl ?_
  refine g_iload_n hC 1 dX11_crack_1 rfl rfl ?_
  refine g_iload_n hC 2 dX11_crack_2 rfl rfl ?_
  refine g_callV_i (a := 0) hC (n' := n) (κ' := κ) (X' := X) (Y' := Y) (Z' := Z) (As := [.int v1, .int v2]) (gMi_eq (c_X11_areTwo l hL (X0 := X) rfl rfl h1) (ov_id _ [17]) rfl) tw_841 tw_838 tw_116 tw_840 tw_24 (ci := 11) rfl (by decide) (kk_0 hL) (kn_0 hL) pd_X11_areTwo (by decide) (by decide) rfl rfl (Nat.le_of_ble_eq_true rfl) rfl dX11_crack_3 ?_
  show gV l b0 D K (n, κ, X, Y, Z, 0, 0) 6 [(0, .ref (b0 + 0)), (1, .int v1), (2, .int v2)] [.int 0]
  refine g_if_eq hC 24 dX11_crack_6 (by decide) (fun _ => ?_) (fun hq_ => absurd rfl hq_)
  refine g_iconst hC (v := (-1)) dX11_crack_24 ic_m1 ?_
  exact hret _ _ rfl dX11_crack_25
set_option maxHeartbeats 4000000 in
set_option maxRecDepth 100000 in
theorem c_crackB (l : Launch) {b0 : Nat} {D : GD} {n : Nat} {κ : QT} {X : XT} {Y : YT} {Z : ZT} (hL : LY n κ) {v1 : Int32} {v2 : Int32} (h1 : fX11_areTwo (X 17) v1 v2 = some 1) (h2 : fX7_hardOf (X 26) v1 v2 = some 0) : gMi l yX11_crack cX11_crack 4 (some FieldType.int) 2 43 0 0 b0 D [.ref (b0 + 0), .int v1, .int v2] (n, κ, X, Y, Z) (n, κ, X, Y, Z) (-1) := by
  refine g_meti (own := RX11) (by decide) rfl rfl (Nat.le_of_ble_eq_true rfl) ?_
  intro K hC hret
  refine g_aload_n hC 0 dX11_crack_0 rfl rfl ?_
  refine g_iload_n hC 1 dX11_crack_1 rfl rfl ?_
  refine g_iload_n hC 2 dX11_crack_2 rfl rfl ?_
  refine g_callV_i (a := 0) hC (n' := n) (κ' := κ) (X' := X) (Y' := Y) (Z' := Z) (As := [.int v1, .int v2]) (gMi_eq (c_X11_areTwo l hL (X0 := X) rfl rfl h1) (ov_id _ [17]) rfl) tw_841 tw_838 tw_116 tw_840 tw_24 (ci := 11) rfl (by decide) (kk_0 hL) (kn_0 hL) pd_X11_areTwo (by decide) (by decide) rfl rfl (Nat.le_of_ble_eq_true rfl) rfl dX11_crack_3 ?_
  show gV l b0 D K (n, κ, X, Y, Z, 0, 0) 6 [(0, .ref (b0 + 0)), (1, .int v1), (2, .int v2)] [.int 1]
  refine g_if_eq hC 24 dX11_crack_6 (by decide) (fun hq_ => absurd hq_ (by decide)) (fun _ => ?_)
  refine g_aload_n hC 0 dX11_crack_9 rfl rfl ?_
  refine gt_X11_41 hC (a := 0) (kk_0 hL) (kn_0 hL) dX11_crack_10 ?_
  refine g_ref (b := 16) rfl ?_
  refine gt_X11_140 hC (a := 16) (kk_16 hL) (kn_16 hL) dX11_crack_13 ?_
  refine g_ref (b := 23) rfl ?_
  refine g_iload_n hC 1 dX11_crack_16 rfl rfl ?_
  refine g_iload_n hC 2 dX11_crack_17 rfl rfl ?_
  refine g_callV_i (a := 23) hC (n' := n) (κ' := κ) (X' := X) (Y' := Y) (Z' := Z) (As := [.int v1, .int v2]) (gMi_eq (c_X7_hardOf l hL (kk_23 hL) (kn_23 hL) (by decide) (by decide) (X0 := X) rfl rfl h2) (ov_id _ [26]) rfl) tw_845 tw_842 tw_120 tw_843 tw_844 (ci := 7) rfl (by decide) (kk_23 hL) (kn_23 hL) pd_X7_hardOf (by decide) (by decide) rfl rfl (Nat.le_of_ble_eq_true rfl) rfl dX11_crack_18 ?_
  show gV l b0 D K (n, κ, X, Y, Z, 0, 0) 21 [(0, .ref (b0 + 0)), (1, .int v1), (2, .int v2)] [.int 0]
  refine g_if_ne hC 26 dX11_crack_21 (by decide) (fun hq_ => absurd rfl hq_) (fun _ => ?_)
  refine g_iconst hC (v := (-1)) dX11_crack_24 ic_m1 ?_
  exact hret _ _ rfl dX11_crack_25
set_option maxHeartbeats 4000000 in
set_option maxRecDepth 100000 in
theorem c_crackC (l : Launch) {b0 : Nat} {D : GD} {n : Nat} {κ : QT} {X : XT} {Y : YT} {Z : ZT} (hL : LY n κ) {v1 : Int32} {v2 : Int32} (h1 : fX11_areTwo (X 17) v1 v2 = some 1) {q : Int32} (h2 : fX7_hardOf (X 26) v1 v2 = some q) (h3 : ¬ q = 0) {n1 : Nat} {κ1 : QT} {X1 : XT} {Z1 : ZT} (hM : gMv l yX6_remember cX6_remember 1 none 3 61 4 54 b0 D [.ref (b0 + 16)] (n, κ, X, Y, Z) (n1, κ1, X1, Y, Z1)) (hL1 : LY n1 κ1) {r26 : Nat → Int32} (hs : fX7_setHard v1 v2 0 (X1 26) = some r26) : gMi l yX11_crack cX11_crack 4 (some FieldType.int) 4 81 4 54 b0 D [.ref (b0 + 0), .int v1, .int v2] (n, κ, X, Y, Z) (n1, κ1, ov X1 [26] [r26], Y, Z1) q := by
  refine g_meti (own := RX11) (by decide) rfl rfl (Nat.le_of_ble_eq_true rfl) ?_
  intro K hC hret
  refine g_aload_n hC 0 dX11_crack_0 rfl rfl ?_
  refine g_iload_n hC 1 dX11_crack_1 rfl rfl ?_
  refine g_iload_n hC 2 dX11_crack_2 rfl rfl ?_
  refine g_callV_i (a := 0) hC (n' := n) (κ' := κ) (X' := X) (Y' := Y) (Z' := Z) (As := [.int v1, .int v2]) (gMi_eq (c_X11_areTwo l hL (X0 := X) rfl rfl h1) (ov_id _ [17]) rfl) tw_841 tw_838 tw_116 tw_840 tw_24 (ci := 11) rfl (by decide) (kk_0 hL) (kn_0 hL) pd_X11_areTwo (by decide) (by decide) rfl rfl (Nat.le_of_ble_eq_true rfl) rfl dX11_crack_3 ?_
  show gV l b0 D K (n, κ, X, Y, Z, 0, 0) 6 [(0, .ref (b0 + 0)), (1, .int v1), (2, .int v2)] [.int 1]
  refine g_if_eq hC 24 dX11_crack_6 (by decide) (fun hq_ => absurd hq_ (by decide)) (fun _ => ?_)
  refine g_aload_n hC 0 dX11_crack_9 rfl rfl ?_
  refine gt_X11_41 hC (a := 0) (kk_0 hL) (kn_0 hL) dX11_crack_10 ?_
  refine g_ref (b := 16) rfl ?_
  refine gt_X11_140 hC (a := 16) (kk_16 hL) (kn_16 hL) dX11_crack_13 ?_
  refine g_ref (b := 23) rfl ?_
  refine g_iload_n hC 1 dX11_crack_16 rfl rfl ?_
  refine g_iload_n hC 2 dX11_crack_17 rfl rfl ?_
  refine g_callV_i (a := 23) hC (n' := n) (κ' := κ) (X' := X) (Y' := Y) (Z' := Z) (As := [.int v1, .int v2]) (gMi_eq (c_X7_hardOf l hL (kk_23 hL) (kn_23 hL) (by decide) (by decide) (X0 := X) rfl rfl h2) (ov_id _ [26]) rfl) tw_845 tw_842 tw_120 tw_843 tw_844 (ci := 7) rfl (by decide) (kk_23 hL) (kn_23 hL) pd_X7_hardOf (by decide) (by decide) rfl rfl (Nat.le_of_ble_eq_true rfl) rfl dX11_crack_18 ?_
  show gV l b0 D K (n, κ, X, Y, Z, 0, 0) 21 [(0, .ref (b0 + 0)), (1, .int v1), (2, .int v2)] [.int q]
  refine g_if_ne hC 26 dX11_crack_21 (by decide) (fun _ => ?_) (fun hq_ => absurd hq_ h3)
  refine g_aload_n hC 0 dX11_crack_26 rfl rfl ?_
  refine gt_X11_41 hC (a := 0) (kk_0 hL) (kn_0 hL) dX11_crack_27 ?_
  refine g_ref (b := 16) rfl ?_
  refine gt_X11_140 hC (a := 16) (kk_16 hL) (kn_16 hL) dX11_crack_30 ?_
  refine g_ref (b := 23) rfl ?_
  refine g_iload_n hC 1 dX11_crack_33 rfl rfl ?_
  refine g_iload_n hC 2 dX11_crack_34 rfl rfl ?_
  refine g_callV_i (a := 23) hC (n' := n) (κ' := κ) (X' := X) (Y' := Y) (Z' := Z) (As := [.int v1, .int v2]) (gMi_eq (c_X7_hardOf l hL (kk_23 hL) (kn_23 hL) (by decide) (by decide) (X0 := X) rfl rfl h2) (ov_id _ [26]) rfl) tw_845 tw_842 tw_120 tw_843 tw_844 (ci := 7) rfl (by decide) (kk_23 hL) (kn_23 hL) pd_X7_hardOf (by decide) (by decide) rfl rfl (Nat.le_of_ble_eq_true rfl) rfl dX11_crack_35 ?_
  show gV l b0 D K (n, κ, X, Y, Z, 0, 0) 38 [(0, .ref (b0 + 0)), (1, .int v1), (2, .int v2)] [.int q]
  refine g_istore_n hC (i := 3) [(3, .int q), (0, .ref (b0 + 0)), (1, .int v1), (2, .int v2)] rfl dX11_crack_38 (by decide) rfl ?_
  refine g_aload_n hC 1 dX11_crack_39 rfl rfl ?_
  refine gt_X11_41 hC (a := 0) (kk_0 hL) (kn_0 hL) dX11_crack_40 ?_
  refine g_ref (b := 16) rfl ?_
  refine g_callV_v (a := 16) hC (n' := n1) (κ' := κ1) (X' := X1) (Y' := Y) (Z' := Z1) (As := []) hM tw_857 tw_854 tw_122 tw_855 tw_856 (ci := 6) rfl (by decide) (kk_16 hL) (kn_16 hL) pd_X6_remember (by decide) (by decide) rfl rfl (Nat.le_of_ble_eq_true rfl) rfl dX11_crack_43 ?_
  show gV l b0 D K (n1, κ1, X1, Y, Z1, 4, 54) 46 [(3, .int q), (0, .ref (b0 + 0)), (1, .int v1), (2, .int v2)] []
  refine g_aload_n hC 1 dX11_crack_46 rfl rfl ?_
  refine gt_X11_41 hC (a := 0) (kk_0 hL1) (kn_0 hL1) dX11_crack_47 ?_
  refine g_ref (b := 16) rfl ?_
  refine gt_X11_140 hC (a := 16) (kk_16 hL1) (kn_16 hL1) dX11_crack_50 ?_
  refine g_ref (b := 23) rfl ?_
  refine g_iload_n hC 2 dX11_crack_53 rfl rfl ?_
  refine g_iload_n hC 3 dX11_crack_54 rfl rfl ?_
  refine g_iconst hC (v := 0) dX11_crack_55 ic_0 ?_
  refine g_callV_v (a := 23) hC (n' := n1) (κ' := κ1) (X' := ov X1 [26] [r26]) (Y' := Y) (Z' := Z1) (As := [.int v1, .int v2, .int 0]) (c_X7_setHard l hL1 (kk_23 hL1) (kn_23 hL1) (by decide) (by decide) (X0 := X1) rfl rfl hs) tw_682 tw_946 tw_120 tw_680 tw_681 (ci := 7) rfl (by decide) (kk_23 hL1) (kn_23 hL1) pd_X7_setHard (by decide) (by decide) rfl rfl (Nat.le_of_ble_eq_true rfl) rfl dX11_crack_56 ?_
  show gV l b0 D K (n1, κ1, ov X1 [26] [r26], Y, Z1, 4, 54) 59 [(3, .int q), (0, .ref (b0 + 0)), (1, .int v1), (2, .int v2)] []
  refine g_iload_n hC 0 dX11_crack_59 rfl rfl ?_
  exact hret _ _ rfl dX11_crack_60
set_option maxHeartbeats 4000000 in
set_option maxRecDepth 100000 in
theorem c_pourA (l : Launch) {b0 : Nat} {D : GD} {n : Nat} {κ : QT} {X : XT} {Y : YT} {Z : ZT} (hL : LY n κ) {v1 : Int32} {v2 : Int32} {v3 : Int32} (h1 : fX11_areTwo (X 17) v1 v2 = some 0)  : gMi l yX11_pour cX11_pour 4 (some FieldType.int) 2 43 0 0 b0 D [.ref (b0 + 0), .int v1, .int v2, .int v3] (n, κ, X, Y, Z) (n, κ, X, Y, Z) (-1) := by
  refine g_meti (own := RX11) (by decide) rfl rfl (Nat.le_of_ble_eq_true rfl) ?_
  intro K hC hret
  refine g_aload_n hC 0 dX11_pour_0 rfl rfl ?_
  refine g_iload_n hC 1 dX11_pour_1 rfl rfl ?_
  refine g_iload_n hC 2 dX11_pour_2 rfl rfl ?_
  refine g_callV_i (a := 0) hC (n' := n) (κ' := κ) (X' := X) (Y' := Y) (Z' := Z) (As := [.int v1, .int v2]) (gMi_eq (c_X11_areTwo l hL (X0 := X) rfl rfl h1) (ov_id _ [17]) rfl) tw_841 tw_838 tw_116 tw_840 tw_24 (ci := 11) rfl (by decide) (kk_0 hL) (kn_0 hL) pd_X11_areTwo (by decide) (by decide) rfl rfl (Nat.le_of_ble_eq_true rfl) rfl dX11_pour_3 ?_
  show gV l b0 D K (n, κ, X, Y, Z, 0, 0) 6 [(0, .ref (b0 + 0)), (1, .int v1), (2, .int v2), (3, .int v3)] [.int 0]
  refine g_if_eq hC 42 dX11_pour_6 (by decide) (fun _ => ?_) (fun hq_ => absurd rfl hq_)
  refine g_iconst hC (v := (-1)) dX11_pour_42 ic_m1 ?_
  exact hret _ _ rfl dX11_pour_43
set_option maxHeartbeats 4000000 in
set_option maxRecDepth 100000 in
theorem c_pourB (l : Launch) {b0 : Nat} {D : GD} {n : Nat} {κ : QT} {X : XT} {Y : YT} {Z : ZT} (hL : LY n κ) {v1 : Int32} {v2 : Int32} {v3 : Int32} (h1 : fX11_areTwo (X 17) v1 v2 = some 1) (h2 : fX11_isWithin v3 1 9 = some 0)  : gMi l yX11_pour cX11_pour 4 (some FieldType.int) 2 43 0 0 b0 D [.ref (b0 + 0), .int v1, .int v2, .int v3] (n, κ, X, Y, Z) (n, κ, X, Y, Z) (-1) := by
  refine g_meti (own := RX11) (by decide) rfl rfl (Nat.le_of_ble_eq_true rfl) ?_
  intro K hC hret
  refine g_aload_n hC 0 dX11_pour_0 rfl rfl ?_
  refine g_iload_n hC 1 dX11_pour_1 rfl rfl ?_
  refine g_iload_n hC 2 dX11_pour_2 rfl rfl ?_
  refine g_callV_i (a := 0) hC (n' := n) (κ' := κ) (X' := X) (Y' := Y) (Z' := Z) (As := [.int v1, .int v2]) (gMi_eq (c_X11_areTwo l hL (X0 := X) rfl rfl h1) (ov_id _ [17]) rfl) tw_841 tw_838 tw_116 tw_840 tw_24 (ci := 11) rfl (by decide) (kk_0 hL) (kn_0 hL) pd_X11_areTwo (by decide) (by decide) rfl rfl (Nat.le_of_ble_eq_true rfl) rfl dX11_pour_3 ?_
  show gV l b0 D K (n, κ, X, Y, Z, 0, 0) 6 [(0, .ref (b0 + 0)), (1, .int v1), (2, .int v2), (3, .int v3)] [.int 1]
  refine g_if_eq hC 42 dX11_pour_6 (by decide) (fun hq_ => absurd hq_ (by decide)) (fun _ => ?_)
  refine g_iload_n hC 3 dX11_pour_9 rfl rfl ?_
  refine g_iconst hC (v := 1) dX11_pour_10 ic_1 ?_
  refine g_bipush hC (v := 9) dX11_pour_11 bp_9 ?_
  refine g_callS_i hC (n' := n) (κ' := κ) (X' := X) (Y' := Y) (Z' := Z) (As := [.int v3, .int 1, .int 9]) (gMi_eq (c_X11_isWithin l hL (X0 := X) rfl rfl h2) (ov_id _ []) rfl) tw_666 tw_870 tw_116 tw_665 pd_X11_isWithin (by decide) (by decide) rfl rfl (Nat.le_of_ble_eq_true rfl) rfl dX11_pour_13 ?_
  show gV l b0 D K (n, κ, X, Y, Z, 0, 0) 16 [(0, .ref (b0 + 0)), (1, .int v1), (2, .int v2), (3, .int v3)] [.int 0]
  refine g_if_eq hC 42 dX11_pour_16 (by decide) (fun _ => ?_) (fun hq_ => absurd rfl hq_)
  refine g_iconst hC (v := (-1)) dX11_pour_42 ic_m1 ?_
  exact hret _ _ rfl dX11_pour_43
set_option maxHeartbeats 4000000 in
set_option maxRecDepth 100000 in
theorem c_pourC (l : Launch) {b0 : Nat} {D : GD} {n : Nat} {κ : QT} {X : XT} {Y : YT} {Z : ZT} (hL : LY n κ) {v1 : Int32} {v2 : Int32} {v3 : Int32} (h1 : fX11_areTwo (X 17) v1 v2 = some 1) (h2 : fX11_isWithin v3 1 9 = some 1) (h3 : fX11_canPour (X 17) (X 24) (X 26) v1 v2 = some 0)  : gMi l yX11_pour cX11_pour 4 (some FieldType.int) 2 64 0 0 b0 D [.ref (b0 + 0), .int v1, .int v2, .int v3] (n, κ, X, Y, Z) (n, κ, X, Y, Z) (-1) := by
  refine g_meti (own := RX11) (by decide) rfl rfl (Nat.le_of_ble_eq_true rfl) ?_
  intro K hC hret
  refine g_aload_n hC 0 dX11_pour_0 rfl rfl ?_
  refine g_iload_n hC 1 dX11_pour_1 rfl rfl ?_
  refine g_iload_n hC 2 dX11_pour_2 rfl rfl ?_
  refine g_callV_i (a := 0) hC (n' := n) (κ' := κ) (X' := X) (Y' := Y) (Z' := Z) (As := [.int v1, .int v2]) (gMi_eq (c_X11_areTwo l hL (X0 := X) rfl rfl h1) (ov_id _ [17]) rfl) tw_841 tw_838 tw_116 tw_840 tw_24 (ci := 11) rfl (by decide) (kk_0 hL) (kn_0 hL) pd_X11_areTwo (by decide) (by decide) rfl rfl (Nat.le_of_ble_eq_true rfl) rfl dX11_pour_3 ?_
  show gV l b0 D K (n, κ, X, Y, Z, 0, 0) 6 [(0, .ref (b0 + 0)), (1, .int v1), (2, .int v2), (3, .int v3)] [.int 1]
  refine g_if_eq hC 42 dX11_pour_6 (by decide) (fun hq_ => absurd hq_ (by decide)) (fun _ => ?_)
  refine g_iload_n hC 3 dX11_pour_9 rfl rfl ?_
  refine g_iconst hC (v := 1) dX11_pour_10 ic_1 ?_
  refine g_bipush hC (v := 9) dX11_pour_11 bp_9 ?_
  refine g_callS_i hC (n' := n) (κ' := κ) (X' := X) (Y' := Y) (Z' := Z) (As := [.int v3, .int 1, .int 9]) (gMi_eq (c_X11_isWithin l hL (X0 := X) rfl rfl h2) (ov_id _ []) rfl) tw_666 tw_870 tw_116 tw_665 pd_X11_isWithin (by decide) (by decide) rfl rfl (Nat.le_of_ble_eq_true rfl) rfl dX11_pour_13 ?_
  show gV l b0 D K (n, κ, X, Y, Z, 0, 0) 16 [(0, .ref (b0 + 0)), (1, .int v1), (2, .int v2), (3, .int v3)] [.int 1]
  refine g_if_eq hC 42 dX11_pour_16 (by decide) (fun hq_ => absurd hq_ (by decide)) (fun _ => ?_)
  refine g_aload_n hC 0 dX11_pour_19 rfl rfl ?_
  refine g_iload_n hC 1 dX11_pour_20 rfl rfl ?_
  refine g_iload_n hC 2 dX11_pour_21 rfl rfl ?_
  refine g_callV_i (a := 0) hC (n' := n) (κ' := κ) (X' := X) (Y' := Y) (Z' := Z) (As := [.int v1, .int v2]) (gMi_eq (c_X11_canPour l hL (X0 := X) rfl rfl h3) (ov_id _ [17, 24, 26]) rfl) tw_954 tw_951 tw_116 tw_953 tw_34 (ci := 11) rfl (by decide) (kk_0 hL) (kn_0 hL) pd_X11_canPour (by decide) (by decide) rfl rfl (Nat.le_of_ble_eq_true rfl) rfl dX11_pour_22 ?_
  show gV l b0 D K (n, κ, X, Y, Z, 0, 0) 25 [(0, .ref (b0 + 0)), (1, .int v1), (2, .int v2), (3, .int v3)] [.int 0]
  refine g_if_eq hC 42 dX11_pour_25 (by decide) (fun _ => ?_) (fun hq_ => absurd rfl hq_)
  refine g_iconst hC (v := (-1)) dX11_pour_42 ic_m1 ?_
  exact hret _ _ rfl dX11_pour_43
set_option maxHeartbeats 4000000 in
set_option maxRecDepth 100000 in
theorem c_pourD (l : Launch) {b0 : Nat} {D : GD} {n : Nat} {κ : QT} {X : XT} {Y : YT} {Z : ZT} (hL : LY n κ) {v1 : Int32} {v2 : Int32} {v3 : Int32} (h1 : fX11_areTwo (X 17) v1 v2 = some 1) (h2 : fX11_isWithin v3 1 9 = some 1) (h3 : fX11_canPour (X 17) (X 24) (X 26) v1 v2 = some 1) (h4 : ¬ v3 ≤ X 23 1)  : gMi l yX11_pour cX11_pour 4 (some FieldType.int) 2 64 0 0 b0 D [.ref (b0 + 0), .int v1, .int v2, .int v3] (n, κ, X, Y, Z) (n, κ, X, Y, Z) (-1) := by
  refine g_meti (own := RX11) (by decide) rfl rfl (Nat.le_of_ble_eq_true rfl) ?_
  intro K hC hret
  refine g_aload_n hC 0 dX11_pour_0 rfl rfl ?_
  refine g_iload_n hC 1 dX11_pour_1 rfl rfl ?_
  refine g_iload_n hC 2 dX11_pour_2 rfl rfl ?_
  refine g_callV_i (a := 0) hC (n' := n) (κ' := κ) (X' := X) (Y' := Y) (Z' := Z) (As := [.int v1, .int v2]) (gMi_eq (c_X11_areTwo l hL (X0 := X) rfl rfl h1) (ov_id _ [17]) rfl) tw_841 tw_838 tw_116 tw_840 tw_24 (ci := 11) rfl (by decide) (kk_0 hL) (kn_0 hL) pd_X11_areTwo (by decide) (by decide) rfl rfl (Nat.le_of_ble_eq_true rfl) rfl dX11_pour_3 ?_
  show gV l b0 D K (n, κ, X, Y, Z, 0, 0) 6 [(0, .ref (b0 + 0)), (1, .int v1), (2, .int v2), (3, .int v3)] [.int 1]
  refine g_if_eq hC 42 dX11_pour_6 (by decide) (fun hq_ => absurd hq_ (by decide)) (fun _ => ?_)
  refine g_iload_n hC 3 dX11_pour_9 rfl rfl ?_
  refine g_iconst hC (v := 1) dX11_pour_10 ic_1 ?_
  refine g_bipush hC (v := 9) dX11_pour_11 bp_9 ?_
  refine g_callS_i hC (n' := n) (κ' := κ) (X' := X) (Y' := Y) (Z' := Z) (As := [.int v3, .int 1, .int 9]) (gMi_eq (c_X11_isWithin l hL (X0 := X) rfl rfl h2) (ov_id _ []) rfl) tw_666 tw_870 tw_116 tw_665 pd_X11_isWithin (by decide) (by decide) rfl rfl (Nat.le_of_ble_eq_true rfl) rfl dX11_pour_13 ?_
  show gV l b0 D K (n, κ, X, Y, Z, 0, 0) 16 [(0, .ref (b0 + 0)), (1, .int v1), (2, .int v2), (3, .int v3)] [.int 1]
  refine g_if_eq hC 42 dX11_pour_16 (by decide) (fun hq_ => absurd hq_ (by decide)) (fun _ => ?_)
  refine g_aload_n hC 0 dX11_pour_19 rfl rfl ?_
  refine g_iload_n hC 1 dX11_pour_20 rfl rfl ?_
  refine g_iload_n hC 2 dX11_pour_21 rfl rfl ?_
  refine g_callV_i (a := 0) hC (n' := n) (κ' := κ) (X' := X) (Y' := Y) (Z' := Z) (As := [.int v1, .int v2]) (gMi_eq (c_X11_canPour l hL (X0 := X) rfl rfl h3) (ov_id _ [17, 24, 26]) rfl) tw_954 tw_951 tw_116 tw_953 tw_34 (ci := 11) rfl (by decide) (kk_0 hL) (kn_0 hL) pd_X11_canPour (by decide) (by decide) rfl rfl (Nat.le_of_ble_eq_true rfl) rfl dX11_pour_22 ?_
  show gV l b0 D K (n, κ, X, Y, Z, 0, 0) 25 [(0, .ref (b0 + 0)), (1, .int v1), (2, .int v2), (3, .int v3)] [.int 1]
  refine g_if_eq hC 42 dX11_pour_25 (by decide) (fun hq_ => absurd hq_ (by decide)) (fun _ => ?_)
  refine g_aload_n hC 0 dX11_pour_28 rfl rfl ?_
  refine gt_X11_41 hC (a := 0) (kk_0 hL) (kn_0 hL) dX11_pour_29 ?_
  refine g_ref (b := 16) rfl ?_
  refine gt_X11_140 hC (a := 16) (kk_16 hL) (kn_16 hL) dX11_pour_32 ?_
  refine g_ref (b := 23) rfl ?_
  refine gt_X11_199 hC (x := X 23) (kk_23 hL) (kn_23 hL) rfl dX11_pour_35 ?_
  refine g_iload_n hC 3 dX11_pour_38 rfl rfl ?_
  refine g_icmp_ge hC 44 dX11_pour_39 (by decide) (fun hq_ => absurd hq_ h4) (fun _ => ?_)
  refine g_iconst hC (v := (-1)) dX11_pour_42 ic_m1 ?_
  exact hret _ _ rfl dX11_pour_43
set_option maxHeartbeats 4000000 in
set_option maxRecDepth 100000 in
theorem c_pourE (l : Launch) {b0 : Nat} {D : GD} {n : Nat} {κ : QT} {X : XT} {Y : YT} {Z : ZT} (hL : LY n κ) {v1 : Int32} {v2 : Int32} {v3 : Int32} (h1 : fX11_areTwo (X 17) v1 v2 = some 1) (h2 : fX11_isWithin v3 1 9 = some 1) (h3 : fX11_canPour (X 17) (X 24) (X 26) v1 v2 = some 1) (h4 : v3 ≤ X 23 1) {n1 : Nat} {κ1 : QT} {X1 : XT} {Z1 : ZT} (hM : gMv l yX6_remember cX6_remember 1 none 3 61 4 54 b0 D [.ref (b0 + 16)] (n, κ, X, Y, Z) (n1, κ1, X1, Y, Z1)) (hL1 : LY n1 κ1) {r26 : Nat → Int32} (hs : fX7_setHard v1 v2 v3 (X1 26) = some r26) : gMi l yX11_pour cX11_pour 4 (some FieldType.int) 4 81 4 54 b0 D [.ref (b0 + 0), .int v1, .int v2, .int v3] (n, κ, X, Y, Z) (n1, κ1, (va_up (ov X1 [26] [r26]) 23 (upd ((ov X1 [26] [r26]) 23) 1 ((((ov X1 [26] [r26]) 23) 1) - v3))), Y, Z1) ((((va_up (ov X1 [26] [r26]) 23 (upd ((ov X1 [26] [r26]) 23) 1 ((((ov X1 [26] [r26]) 23) 1) - v3)))) 23) 1) := by
  refine g_meti (own := RX11) (by decide) rfl rfl (Nat.le_of_ble_eq_true rfl) ?_
  intro K hC hret
  refine g_aload_n hC 0 dX11_pour_0 rfl rfl ?_
  refine g_iload_n hC 1 dX11_pour_1 rfl rfl ?_
  refine g_iload_n hC 2 dX11_pour_2 rfl rfl ?_
  refine g_callV_i (a := 0) hC (n' := n) (κ' := κ) (X' := X) (Y' := Y) (Z' := Z) (As := [.int v1, .int v2]) (gMi_eq (c_X11_areTwo l hL (X0 := X) rfl rfl h1) (ov_id _ [17]) rfl) tw_841 tw_838 tw_116 tw_840 tw_24 (ci := 11) rfl (by decide) (kk_0 hL) (kn_0 hL) pd_X11_areTwo (by decide) (by decide) rfl rfl (Nat.le_of_ble_eq_true rfl) rfl dX11_pour_3 ?_
  show gV l b0 D K (n, κ, X, Y, Z, 0, 0) 6 [(0, .ref (b0 + 0)), (1, .int v1), (2, .int v2), (3, .int v3)] [.int 1]
  refine g_if_eq hC 42 dX11_pour_6 (by decide) (fun hq_ => absurd hq_ (by decide)) (fun _ => ?_)
  refine g_iload_n hC 3 dX11_pour_9 rfl rfl ?_
  refine g_iconst hC (v := 1) dX11_pour_10 ic_1 ?_
  refine g_bipush hC (v := 9) dX11_pour_11 bp_9 ?_
  refine g_callS_i hC (n' := n) (κ' := κ) (X' := X) (Y' := Y) (Z' := Z) (As := [.int v3, .int 1, .int 9]) (gMi_eq (c_X11_isWithin l hL (X0 := X) rfl rfl h2) (ov_id _ []) rfl) tw_666 tw_870 tw_116 tw_665 pd_X11_isWithin (by decide) (by decide) rfl rfl (Nat.le_of_ble_eq_true rfl) rfl dX11_pour_13 ?_
  show gV l b0 D K (n, κ, X, Y, Z, 0, 0) 16 [(0, .ref (b0 + 0)), (1, .int v1), (2, .int v2), (3, .int v3)] [.int 1]
  refine g_if_eq hC 42 dX11_pour_16 (by decide) (fun hq_ => absurd hq_ (by decide)) (fun _ => ?_)
  refine g_aload_n hC 0 dX11_pour_19 rfl rfl ?_
  refine g_iload_n hC 1 dX11_pour_20 rfl rfl ?_
  refine g_iload_n hC 2 dX11_pour_21 rfl rfl ?_
  refine g_callV_i (a := 0) hC (n' := n) (κ' := κ) (X' := X) (Y' := Y) (Z' := Z) (As := [.int v1, .int v2]) (gMi_eq (c_X11_canPour l hL (X0 := X) rfl rfl h3) (ov_id _ [17, 24, 26]) rfl) tw_954 tw_951 tw_116 tw_953 tw_34 (ci := 11) rfl (by decide) (kk_0 hL) (kn_0 hL) pd_X11_canPour (by decide) (by decide) rfl rfl (Nat.le_of_ble_eq_true rfl) rfl dX11_pour_22 ?_
  show gV l b0 D K (n, κ, X, Y, Z, 0, 0) 25 [(0, .ref (b0 + 0)), (1, .int v1), (2, .int v2), (3, .int v3)] [.int 1]
  refine g_if_eq hC 42 dX11_pour_25 (by decide) (fun hq_ => absurd hq_ (by decide)) (fun _ => ?_)
  refine g_aload_n hC 0 dX11_pour_28 rfl rfl ?_
  refine gt_X11_41 hC (a := 0) (kk_0 hL) (kn_0 hL) dX11_pour_29 ?_
  refine g_ref (b := 16) rfl ?_
  refine gt_X11_140 hC (a := 16) (kk_16 hL) (kn_16 hL) dX11_pour_32 ?_
  refine g_ref (b := 23) rfl ?_
  refine gt_X11_199 hC (x := X 23) (kk_23 hL) (kn_23 hL) rfl dX11_pour_35 ?_
  refine g_iload_n hC 3 dX11_pour_38 rfl rfl ?_
  refine g_icmp_ge hC 44 dX11_pour_39 (by decide) (fun _ => ?_) (fun hq_ => absurd h4 hq_)
  refine g_aload_n hC 0 dX11_pour_44 rfl rfl ?_
  refine gt_X11_41 hC (a := 0) (kk_0 hL) (kn_0 hL) dX11_pour_45 ?_
  refine g_ref (b := 16) rfl ?_
  refine g_callV_v (a := 16) hC (n' := n1) (κ' := κ1) (X' := X1) (Y' := Y) (Z' := Z1) (As := []) hM tw_857 tw_854 tw_122 tw_855 tw_856 (ci := 6) rfl (by decide) (kk_16 hL) (kn_16 hL) pd_X6_remember (by decide) (by decide) rfl rfl (Nat.le_of_ble_eq_true rfl) rfl dX11_pour_48 ?_
  show gV l b0 D K (n1, κ1, X1, Y, Z1, 4, 54) 51 [(0, .ref (b0 + 0)), (1, .int v1), (2, .int v2), (3, .int v3)] []
  refine g_aload_n hC 0 dX11_pour_51 rfl rfl ?_
  refine gt_X11_41 hC (a := 0) (kk_0 hL1) (kn_0 hL1) dX11_pour_52 ?_
  refine g_ref (b := 16) rfl ?_
  refine gt_X11_140 hC (a := 16) (kk_16 hL1) (kn_16 hL1) dX11_pour_55 ?_
  refine g_ref (b := 23) rfl ?_
  refine g_iload_n hC 1 dX11_pour_58 rfl rfl ?_
  refine g_iload_n hC 2 dX11_pour_59 rfl rfl ?_
  refine g_iload_n hC 3 dX11_pour_60 rfl rfl ?_
  refine g_callV_v (a := 23) hC (n' := n1) (κ' := κ1) (X' := ov X1 [26] [r26]) (Y' := Y) (Z' := Z1) (As := [.int v1, .int v2, .int v3]) (c_X7_setHard l hL1 (kk_23 hL1) (kn_23 hL1) (by decide) (by decide) (X0 := X1) rfl rfl hs) tw_682 tw_946 tw_120 tw_680 tw_681 (ci := 7) rfl (by decide) (kk_23 hL1) (kn_23 hL1) pd_X7_setHard (by decide) (by decide) rfl rfl (Nat.le_of_ble_eq_true rfl) rfl dX11_pour_61 ?_
  show gV l b0 D K (n1, κ1, ov X1 [26] [r26], Y, Z1, 4, 54) 64 [(0, .ref (b0 + 0)), (1, .int v1), (2, .int v2), (3, .int v3)] []
  refine g_aload_n hC 0 dX11_pour_64 rfl rfl ?_
  refine gt_X11_41 hC (a := 0) (kk_0 hL1) (kn_0 hL1) dX11_pour_65 ?_
  refine g_ref (b := 16) rfl ?_
  refine gt_X11_140 hC (a := 16) (kk_16 hL1) (kn_16 hL1) dX11_pour_68 ?_
  refine g_ref (b := 23) rfl ?_
  refine g_dup hC dX11_pour_71 rfl ?_
  refine gt_X11_199 hC (x := (ov X1 [26] [r26]) 23) (kk_23 hL1) (kn_23 hL1) rfl dX11_pour_72 ?_
  refine g_iload_n hC 3 dX11_pour_75 rfl rfl ?_
  refine g_isub hC dX11_pour_76 ?_
  refine pt_X11_199 hC (v := (((ov X1 [26] [r26]) 23) 1) - v3) (x := (ov X1 [26] [r26]) 23) (kk_23 hL1) (kn_23 hL1) rfl rfl dX11_pour_77 ?_
  refine g_aload_n hC 0 dX11_pour_80 rfl rfl ?_
  refine gt_X11_41 hC (a := 0) (kk_0 hL1) (kn_0 hL1) dX11_pour_81 ?_
  refine g_ref (b := 16) rfl ?_
  refine gt_X11_140 hC (a := 16) (kk_16 hL1) (kn_16 hL1) dX11_pour_84 ?_
  refine g_ref (b := 23) rfl ?_
  refine gt_X11_199 hC (x := ((va_up (ov X1 [26] [r26]) 23 (upd ((ov X1 [26] [r26]) 23) 1 ((((ov X1 [26] [r26]) 23) 1) - v3)))) 23) (kk_23 hL1) (kn_23 hL1) rfl dX11_pour_87 ?_
  exact hret _ _ rfl dX11_pour_90
set_option maxHeartbeats 4000000 in
set_option maxRecDepth 100000 in
theorem c_rockA (l : Launch) {b0 : Nat} {D : GD} {n : Nat} {κ : QT} {X : XT} {Y : YT} {Z : ZT} (hL : LY n κ) {v1 : Int32} {v2 : Int32} (h1 : fX11_isHouse (X 17) v1 = some 0)  : gMi l yX11_rock cX11_rock 4 (some FieldType.int) 1 21 0 0 b0 D [.ref (b0 + 0), .int v1, .int v2] (n, κ, X, Y, Z) (n, κ, X, Y, Z) (-1) := by
  refine g_meti (own := RX11) (by decide) rfl rfl (Nat.le_of_ble_eq_true rfl) ?_
  intro K hC hret
  refine g_aload_n hC 0 dX11_rock_0 rfl rfl ?_
  refine g_iload_n hC 1 dX11_rock_1 rfl rfl ?_
  refine g_callV_i (a := 0) hC (n' := n) (κ' := κ) (X' := X) (Y' := Y) (Z' := Z) (As := [.int v1]) (gMi_eq (c_X11_isHouse l hL (X0 := X) rfl rfl h1) (ov_id _ [17]) rfl) tw_790 tw_787 tw_116 tw_789 tw_21 (ci := 11) rfl (by decide) (kk_0 hL) (kn_0 hL) pd_X11_isHouse (by decide) (by decide) rfl rfl (Nat.le_of_ble_eq_true rfl) rfl dX11_rock_2 ?_
  show gV l b0 D K (n, κ, X, Y, Z, 0, 0) 5 [(0, .ref (b0 + 0)), (1, .int v1), (2, .int v2)] [.int 0]
  refine g_if_eq hC 33 dX11_rock_5 (by decide) (fun _ => ?_) (fun hq_ => absurd rfl hq_)
  refine g_iconst hC (v := (-1)) dX11_rock_33 ic_m1 ?_
  exact hret _ _ rfl dX11_rock_34
set_option maxHeartbeats 4000000 in
set_option maxRecDepth 100000 in
theorem c_rockB (l : Launch) {b0 : Nat} {D : GD} {n : Nat} {κ : QT} {X : XT} {Y : YT} {Z : ZT} (hL : LY n κ) {v1 : Int32} {v2 : Int32} (h1 : fX11_isHouse (X 17) v1 = some 1) (hi : inb v1 6 = true) (h2 : ¬ X 24 v1.toNatClampNeg < X 17 0)  : gMi l yX11_rock cX11_rock 4 (some FieldType.int) 1 21 0 0 b0 D [.ref (b0 + 0), .int v1, .int v2] (n, κ, X, Y, Z) (n, κ, X, Y, Z) (-1) := by
  refine g_meti (own := RX11) (by decide) rfl rfl (Nat.le_of_ble_eq_true rfl) ?_
  intro K hC hret
  refine g_aload_n hC 0 dX11_rock_0 rfl rfl ?_
  refine g_iload_n hC 1 dX11_rock_1 rfl rfl ?_
  refine g_callV_i (a := 0) hC (n' := n) (κ' := κ) (X' := X) (Y' := Y) (Z' := Z) (As := [.int v1]) (gMi_eq (c_X11_isHouse l hL (X0 := X) rfl rfl h1) (ov_id _ [17]) rfl) tw_790 tw_787 tw_116 tw_789 tw_21 (ci := 11) rfl (by decide) (kk_0 hL) (kn_0 hL) pd_X11_isHouse (by decide) (by decide) rfl rfl (Nat.le_of_ble_eq_true rfl) rfl dX11_rock_2 ?_
  show gV l b0 D K (n, κ, X, Y, Z, 0, 0) 5 [(0, .ref (b0 + 0)), (1, .int v1), (2, .int v2)] [.int 1]
  refine g_if_eq hC 33 dX11_rock_5 (by decide) (fun hq_ => absurd hq_ (by decide)) (fun _ => ?_)
  refine g_aload_n hC 0 dX11_rock_8 rfl rfl ?_
  refine gt_X11_41 hC (a := 0) (kk_0 hL) (kn_0 hL) dX11_rock_9 ?_
  refine g_ref (b := 16) rfl ?_
  refine gt_X11_140 hC (a := 16) (kk_16 hL) (kn_16 hL) dX11_rock_12 ?_
  refine g_ref (b := 23) rfl ?_
  refine gt_X11_143 hC (a := 23) (kk_23 hL) (kn_23 hL) dX11_rock_15 ?_
  refine g_ref (b := 24) rfl ?_
  refine g_iload_n hC 1 dX11_rock_18 rfl rfl ?_
  refine g_iald hC (x := X 24) (kk_24 hL) (kn_24 hL) rfl (inb_in hi) dX11_rock_19 ?_
  refine g_aload_n hC 0 dX11_rock_20 rfl rfl ?_
  refine gt_X11_41 hC (a := 0) (kk_0 hL) (kn_0 hL) dX11_rock_21 ?_
  refine g_ref (b := 16) rfl ?_
  refine gt_X11_51 hC (a := 16) (kk_16 hL) (kn_16 hL) dX11_rock_24 ?_
  refine g_ref (b := 17) rfl ?_
  refine gt_X11_202 hC (x := X 17) (kk_17 hL) (kn_17 hL) rfl dX11_rock_27 ?_
  refine g_icmp_lt hC 35 dX11_rock_30 (by decide) (fun hq_ => absurd hq_ h2) (fun _ => ?_)
  refine g_iconst hC (v := (-1)) dX11_rock_33 ic_m1 ?_
  exact hret _ _ rfl dX11_rock_34
set_option maxHeartbeats 4000000 in
set_option maxRecDepth 100000 in
theorem c_rockC (l : Launch) {b0 : Nat} {D : GD} {n : Nat} {κ : QT} {X : XT} {Y : YT} {Z : ZT} (hL : LY n κ) {v1 : Int32} {v2 : Int32} (h1 : fX11_isHouse (X 17) v1 = some 1) (hi : inb v1 6 = true) (h2 : X 24 v1.toNatClampNeg < X 17 0) (h3 : fX11_isWithin v2 (X 25 v1.toNatClampNeg + 1) 9 = some 0)  : gMi l yX11_rock cX11_rock 4 (some FieldType.int) 1 22 0 0 b0 D [.ref (b0 + 0), .int v1, .int v2] (n, κ, X, Y, Z) (n, κ, X, Y, Z) (-1) := by
  refine g_meti (own := RX11) (by decide) rfl rfl (Nat.le_of_ble_eq_true rfl) ?_
  intro K hC hret
  refine g_aload_n hC 0 dX11_rock_0 rfl rfl ?_
  refine g_iload_n hC 1 dX11_rock_1 rfl rfl ?_
  refine g_callV_i (a := 0) hC (n' := n) (κ' := κ) (X' := X) (Y' := Y) (Z' := Z) (As := [.int v1]) (gMi_eq (c_X11_isHouse l hL (X0 := X) rfl rfl h1) (ov_id _ [17]) rfl) tw_790 tw_787 tw_116 tw_789 tw_21 (ci := 11) rfl (by decide) (kk_0 hL) (kn_0 hL) pd_X11_isHouse (by decide) (by decide) rfl rfl (Nat.le_of_ble_eq_true rfl) rfl dX11_rock_2 ?_
  show gV l b0 D K (n, κ, X, Y, Z, 0, 0) 5 [(0, .ref (b0 + 0)), (1, .int v1), (2, .int v2)] [.int 1]
  refine g_if_eq hC 33 dX11_rock_5 (by decide) (fun hq_ => absurd hq_ (by decide)) (fun _ => ?_)
  refine g_aload_n hC 0 dX11_rock_8 rfl rfl ?_
  refine gt_X11_41 hC (a := 0) (kk_0 hL) (kn_0 hL) dX11_rock_9 ?_
  refine g_ref (b := 16) rfl ?_
  refine gt_X11_140 hC (a := 16) (kk_16 hL) (kn_16 hL) dX11_rock_12 ?_
  refine g_ref (b := 23) rfl ?_
  refine gt_X11_143 hC (a := 23) (kk_23 hL) (kn_23 hL) dX11_rock_15 ?_
  refine g_ref (b := 24) rfl ?_
  refine g_iload_n hC 1 dX11_rock_18 rfl rfl ?_
  refine g_iald hC (x := X 24) (kk_24 hL) (kn_24 hL) rfl (inb_in hi) dX11_rock_19 ?_
  refine g_aload_n hC 0 dX11_rock_20 rfl rfl ?_
  refine gt_X11_41 hC (a := 0) (kk_0 hL) (kn_0 hL) dX11_rock_21 ?_
  refine g_ref (b := 16) rfl ?_
  refine gt_X11_51 hC (a := 16) (kk_16 hL) (kn_16 hL) dX11_rock_24 ?_
  refine g_ref (b := 17) rfl ?_
  refine gt_X11_202 hC (x := X 17) (kk_17 hL) (kn_17 hL) rfl dX11_rock_27 ?_
  refine g_icmp_lt hC 35 dX11_rock_30 (by decide) (fun _ => ?_) (fun hq_ => absurd h2 hq_)
  refine g_aload_n hC 0 dX11_rock_35 rfl rfl ?_
  refine gt_X11_41 hC (a := 0) (kk_0 hL) (kn_0 hL) dX11_rock_36 ?_
  refine g_ref (b := 16) rfl ?_
  refine gt_X11_140 hC (a := 16) (kk_16 hL) (kn_16 hL) dX11_rock_39 ?_
  refine g_ref (b := 23) rfl ?_
  refine gt_X11_146 hC (a := 23) (kk_23 hL) (kn_23 hL) dX11_rock_42 ?_
  refine g_ref (b := 25) rfl ?_
  refine g_iload_n hC 1 dX11_rock_45 rfl rfl ?_
  refine g_iald hC (x := X 25) (kk_25 hL) (kn_25 hL) rfl (inb_in hi) dX11_rock_46 ?_
  refine g_istore_n hC (i := 3) [(3, .int ((X 25) v1.toNatClampNeg)), (0, .ref (b0 + 0)), (1, .int v1), (2, .int v2)] rfl dX11_rock_47 (by decide) rfl ?_
  refine g_iload_n hC 3 dX11_rock_48 rfl rfl ?_
  refine g_iload_n hC 0 dX11_rock_49 rfl rfl ?_
  refine g_iconst hC (v := 1) dX11_rock_50 ic_1 ?_
  refine g_iadd hC dX11_rock_51 ?_
  refine g_bipush hC (v := 9) dX11_rock_52 bp_9 ?_
  refine g_callS_i hC (n' := n) (κ' := κ) (X' := X) (Y' := Y) (Z' := Z) (As := [.int v2, .int (((X 25) v1.toNatClampNeg) + 1), .int 9]) (gMi_eq (c_X11_isWithin l hL (X0 := X) rfl rfl h3) (ov_id _ []) rfl) tw_666 tw_870 tw_116 tw_665 pd_X11_isWithin (by decide) (by decide) rfl rfl (Nat.le_of_ble_eq_true rfl) rfl dX11_rock_54 ?_
  show gV l b0 D K (n, κ, X, Y, Z, 0, 0) 57 [(3, .int ((X 25) v1.toNatClampNeg)), (0, .ref (b0 + 0)), (1, .int v1), (2, .int v2)] [.int 0]
  refine g_if_eq hC 76 dX11_rock_57 (by decide) (fun _ => ?_) (fun hq_ => absurd rfl hq_)
  refine g_iconst hC (v := (-1)) dX11_rock_76 ic_m1 ?_
  exact hret _ _ rfl dX11_rock_77
set_option maxHeartbeats 4000000 in
set_option maxRecDepth 100000 in
theorem c_rockD (l : Launch) {b0 : Nat} {D : GD} {n : Nat} {κ : QT} {X : XT} {Y : YT} {Z : ZT} (hL : LY n κ) {v1 : Int32} {v2 : Int32} (h1 : fX11_isHouse (X 17) v1 = some 1) (hi : inb v1 6 = true) (h2 : X 24 v1.toNatClampNeg < X 17 0) (h3 : fX11_isWithin v2 (X 25 v1.toNatClampNeg + 1) 9 = some 1) (h4 : ¬ v2 - X 25 v1.toNatClampNeg ≤ X 23 1)  : gMi l yX11_rock cX11_rock 4 (some FieldType.int) 1 22 0 0 b0 D [.ref (b0 + 0), .int v1, .int v2] (n, κ, X, Y, Z) (n, κ, X, Y, Z) (-1) := by
  refine g_meti (own := RX11) (by decide) rfl rfl (Nat.le_of_ble_eq_true rfl) ?_
  intro K hC hret
  refine g_aload_n hC 0 dX11_rock_0 rfl rfl ?_
  refine g_iload_n hC 1 dX11_rock_1 rfl rfl ?_
  refine g_callV_i (a := 0) hC (n' := n) (κ' := κ) (X' := X) (Y' := Y) (Z' := Z) (As := [.int v1]) (gMi_eq (c_X11_isHouse l hL (X0 := X) rfl rfl h1) (ov_id _ [17]) rfl) tw_790 tw_787 tw_116 tw_789 tw_21 (ci := 11) rfl (by decide) (kk_0 hL) (kn_0 hL) pd_X11_isHouse (by decide) (by decide) rfl rfl (Nat.le_of_ble_eq_true rfl) rfl dX11_rock_2 ?_
  show gV l b0 D K (n, κ, X, Y, Z, 0, 0) 5 [(0, .ref (b0 + 0)), (1, .int v1), (2, .int v2)] [.int 1]
  refine g_if_eq hC 33 dX11_rock_5 (by decide) (fun hq_ => absurd hq_ (by decide)) (fun _ => ?_)
  refine g_aload_n hC 0 dX11_rock_8 rfl rfl ?_
  refine gt_X11_41 hC (a := 0) (kk_0 hL) (kn_0 hL) dX11_rock_9 ?_
  refine g_ref (b := 16) rfl ?_
  refine gt_X11_140 hC (a := 16) (kk_16 hL) (kn_16 hL) dX11_rock_12 ?_
  refine g_ref (b := 23) rfl ?_
  refine gt_X11_143 hC (a := 23) (kk_23 hL) (kn_23 hL) dX11_rock_15 ?_
  refine g_ref (b := 24) rfl ?_
  refine g_iload_n hC 1 dX11_rock_18 rfl rfl ?_
  refine g_iald hC (x := X 24) (kk_24 hL) (kn_24 hL) rfl (inb_in hi) dX11_rock_19 ?_
  refine g_aload_n hC 0 dX11_rock_20 rfl rfl ?_
  refine gt_X11_41 hC (a := 0) (kk_0 hL) (kn_0 hL) dX11_rock_21 ?_
  refine g_ref (b := 16) rfl ?_
  refine gt_X11_51 hC (a := 16) (kk_16 hL) (kn_16 hL) dX11_rock_24 ?_
  refine g_ref (b := 17) rfl ?_
  refine gt_X11_202 hC (x := X 17) (kk_17 hL) (kn_17 hL) rfl dX11_rock_27 ?_
  refine g_icmp_lt hC 35 dX11_rock_30 (by decide) (fun _ => ?_) (fun hq_ => absurd h2 hq_)
  refine g_aload_n hC 0 dX11_rock_35 rfl rfl ?_
  refine gt_X11_41 hC (a := 0) (kk_0 hL) (kn_0 hL) dX11_rock_36 ?_
  refine g_ref (b := 16) rfl ?_
  refine gt_X11_140 hC (a := 16) (kk_16 hL) (kn_16 hL) dX11_rock_39 ?_
  refine g_ref (b := 23) rfl ?_
  refine gt_X11_146 hC (a := 23) (kk_23 hL) (kn_23 hL) dX11_rock_42 ?_
  refine g_ref (b := 25) rfl ?_
  refine g_iload_n hC 1 dX11_rock_45 rfl rfl ?_
  refine g_iald hC (x := X 25) (kk_25 hL) (kn_25 hL) rfl (inb_in hi) dX11_rock_46 ?_
  refine g_istore_n hC (i := 3) [(3, .int ((X 25) v1.toNatClampNeg)), (0, .ref (b0 + 0)), (1, .int v1), (2, .int v2)] rfl dX11_rock_47 (by decide) rfl ?_
  refine g_iload_n hC 3 dX11_rock_48 rfl rfl ?_
  refine g_iload_n hC 0 dX11_rock_49 rfl rfl ?_
  refine g_iconst hC (v := 1) dX11_rock_50 ic_1 ?_
  refine g_iadd hC dX11_rock_51 ?_
  refine g_bipush hC (v := 9) dX11_rock_52 bp_9 ?_
  refine g_callS_i hC (n' := n) (κ' := κ) (X' := X) (Y' := Y) (Z' := Z) (As := [.int v2, .int (((X 25) v1.toNatClampNeg) + 1), .int 9]) (gMi_eq (c_X11_isWithin l hL (X0 := X) rfl rfl h3) (ov_id _ []) rfl) tw_666 tw_870 tw_116 tw_665 pd_X11_isWithin (by decide) (by decide) rfl rfl (Nat.le_of_ble_eq_true rfl) rfl dX11_rock_54 ?_
  show gV l b0 D K (n, κ, X, Y, Z, 0, 0) 57 [(3, .int ((X 25) v1.toNatClampNeg)), (0, .ref (b0 + 0)), (1, .int v1), (2, .int v2)] [.int 1]
  refine g_if_eq hC 76 dX11_rock_57 (by decide) (fun hq_ => absurd hq_ (by decide)) (fun _ => ?_)
  refine g_aload_n hC 1 dX11_rock_60 rfl rfl ?_
  refine gt_X11_41 hC (a := 0) (kk_0 hL) (kn_0 hL) dX11_rock_61 ?_
  refine g_ref (b := 16) rfl ?_
  refine gt_X11_140 hC (a := 16) (kk_16 hL) (kn_16 hL) dX11_rock_64 ?_
  refine g_ref (b := 23) rfl ?_
  refine gt_X11_199 hC (x := X 23) (kk_23 hL) (kn_23 hL) rfl dX11_rock_67 ?_
  refine g_iload_n hC 3 dX11_rock_70 rfl rfl ?_
  refine g_iload_n hC 0 dX11_rock_71 rfl rfl ?_
  refine g_isub hC dX11_rock_72 ?_
  refine g_icmp_ge hC 78 dX11_rock_73 (by decide) (fun hq_ => absurd hq_ h4) (fun _ => ?_)
  refine g_iconst hC (v := (-1)) dX11_rock_76 ic_m1 ?_
  exact hret _ _ rfl dX11_rock_77
set_option maxHeartbeats 4000000 in
set_option maxRecDepth 100000 in
theorem c_rockE (l : Launch) {b0 : Nat} {D : GD} {n : Nat} {κ : QT} {X : XT} {Y : YT} {Z : ZT} (hL : LY n κ) {v1 : Int32} {v2 : Int32} (h1 : fX11_isHouse (X 17) v1 = some 1) (hi : inb v1 6 = true) (h2 : X 24 v1.toNatClampNeg < X 17 0) (h3 : fX11_isWithin v2 (X 25 v1.toNatClampNeg + 1) 9 = some 1) (h4 : v2 - X 25 v1.toNatClampNeg ≤ X 23 1) {n1 : Nat} {κ1 : QT} {X1 : XT} {Z1 : ZT} (hM : gMv l yX6_remember cX6_remember 1 none 3 61 4 54 b0 D [.ref (b0 + 16)] (n, κ, X, Y, Z) (n1, κ1, X1, Y, Z1)) (hL1 : LY n1 κ1) : gMi l yX11_rock cX11_rock 4 (some FieldType.int) 4 81 4 54 b0 D [.ref (b0 + 0), .int v1, .int v2] (n, κ, X, Y, Z) (n1, κ1, (va_up ((va_up X1 25 (upd (X1 25) v1.toNatClampNeg v2))) 23 (upd (((va_up X1 25 (upd (X1 25) v1.toNatClampNeg v2))) 23) 1 (((((va_up X1 25 (upd (X1 25) v1.toNatClampNeg v2))) 23) 1) - (v2 - ((X 25) v1.toNatClampNeg))))), Y, Z1) ((((va_up ((va_up X1 25 (upd (X1 25) v1.toNatClampNeg v2))) 23 (upd (((va_up X1 25 (upd (X1 25) v1.toNatClampNeg v2))) 23) 1 (((((va_up X1 25 (upd (X1 25) v1.toNatClampNeg v2))) 23) 1) - (v2 - ((X 25) v1.toNatClampNeg)))))) 23) 1) := by
  refine g_meti (own := RX11) (by decide) rfl rfl (Nat.le_of_ble_eq_true rfl) ?_
  intro K hC hret
  refine g_aload_n hC 0 dX11_rock_0 rfl rfl ?_
  refine g_iload_n hC 1 dX11_rock_1 rfl rfl ?_
  refine g_callV_i (a := 0) hC (n' := n) (κ' := κ) (X' := X) (Y' := Y) (Z' := Z) (As := [.int v1]) (gMi_eq (c_X11_isHouse l hL (X0 := X) rfl rfl h1) (ov_id _ [17]) rfl) tw_790 tw_787 tw_116 tw_789 tw_21 (ci := 11) rfl (by decide) (kk_0 hL) (kn_0 hL) pd_X11_isHouse (by decide) (by decide) rfl rfl (Nat.le_of_ble_eq_true rfl) rfl dX11_rock_2 ?_
  show gV l b0 D K (n, κ, X, Y, Z, 0, 0) 5 [(0, .ref (b0 + 0)), (1, .int v1), (2, .int v2)] [.int 1]
  refine g_if_eq hC 33 dX11_rock_5 (by decide) (fun hq_ => absurd hq_ (by decide)) (fun _ => ?_)
  refine g_aload_n hC 0 dX11_rock_8 rfl rfl ?_
  refine gt_X11_41 hC (a := 0) (kk_0 hL) (kn_0 hL) dX11_rock_9 ?_
  refine g_ref (b := 16) rfl ?_
  refine gt_X11_140 hC (a := 16) (kk_16 hL) (kn_16 hL) dX11_rock_12 ?_
  refine g_ref (b := 23) rfl ?_
  refine gt_X11_143 hC (a := 23) (kk_23 hL) (kn_23 hL) dX11_rock_15 ?_
  refine g_ref (b := 24) rfl ?_
  refine g_iload_n hC 1 dX11_rock_18 rfl rfl ?_
  refine g_iald hC (x := X 24) (kk_24 hL) (kn_24 hL) rfl (inb_in hi) dX11_rock_19 ?_
  refine g_aload_n hC 0 dX11_rock_20 rfl rfl ?_
  refine gt_X11_41 hC (a := 0) (kk_0 hL) (kn_0 hL) dX11_rock_21 ?_
  refine g_ref (b := 16) rfl ?_
  refine gt_X11_51 hC (a := 16) (kk_16 hL) (kn_16 hL) dX11_rock_24 ?_
  refine g_ref (b := 17) rfl ?_
  refine gt_X11_202 hC (x := X 17) (kk_17 hL) (kn_17 hL) rfl dX11_rock_27 ?_
  refine g_icmp_lt hC 35 dX11_rock_30 (by decide) (fun _ => ?_) (fun hq_ => absurd h2 hq_)
  refine g_aload_n hC 0 dX11_rock_35 rfl rfl ?_
  refine gt_X11_41 hC (a := 0) (kk_0 hL) (kn_0 hL) dX11_rock_36 ?_
  refine g_ref (b := 16) rfl ?_
  refine gt_X11_140 hC (a := 16) (kk_16 hL) (kn_16 hL) dX11_rock_39 ?_
  refine g_ref (b := 23) rfl ?_
  refine gt_X11_146 hC (a := 23) (kk_23 hL) (kn_23 hL) dX11_rock_42 ?_
  refine g_ref (b := 25) rfl ?_
  refine g_iload_n hC 1 dX11_rock_45 rfl rfl ?_
  refine g_iald hC (x := X 25) (kk_25 hL) (kn_25 hL) rfl (inb_in hi) dX11_rock_46 ?_
  refine g_istore_n hC (i := 3) [(3, .int ((X 25) v1.toNatClampNeg)), (0, .ref (b0 + 0)), (1, .int v1), (2, .int v2)] rfl dX11_rock_47 (by decide) rfl ?_
  refine g_iload_n hC 3 dX11_rock_48 rfl rfl ?_
  refine g_iload_n hC 0 dX11_rock_49 rfl rfl ?_
  refine g_iconst hC (v := 1) dX11_rock_50 ic_1 ?_
  refine g_iadd hC dX11_rock_51 ?_
  refine g_bipush hC (v := 9) dX11_rock_52 bp_9 ?_
  refine g_callS_i hC (n' := n) (κ' := κ) (X' := X) (Y' := Y) (Z' := Z) (As := [.int v2, .int (((X 25) v1.toNatClampNeg) + 1), .int 9]) (gMi_eq (c_X11_isWithin l hL (X0 := X) rfl rfl h3) (ov_id _ []) rfl) tw_666 tw_870 tw_116 tw_665 pd_X11_isWithin (by decide) (by decide) rfl rfl (Nat.le_of_ble_eq_true rfl) rfl dX11_rock_54 ?_
  show gV l b0 D K (n, κ, X, Y, Z, 0, 0) 57 [(3, .int ((X 25) v1.toNatClampNeg)), (0, .ref (b0 + 0)), (1, .int v1), (2, .int v2)] [.int 1]
  refine g_if_eq hC 76 dX11_rock_57 (by decide) (fun hq_ => absurd hq_ (by decide)) (fun _ => ?_)
  refine g_aload_n hC 1 dX11_rock_60 rfl rfl ?_
  refine gt_X11_41 hC (a := 0) (kk_0 hL) (kn_0 hL) dX11_rock_61 ?_
  refine g_ref (b := 16) rfl ?_
  refine gt_X11_140 hC (a := 16) (kk_16 hL) (kn_16 hL) dX11_rock_64 ?_
  refine g_ref (b := 23) rfl ?_
  refine gt_X11_199 hC (x := X 23) (kk_23 hL) (kn_23 hL) rfl dX11_rock_67 ?_
  refine g_iload_n hC 3 dX11_rock_70 rfl rfl ?_
  refine g_iload_n hC 0 dX11_rock_71 rfl rfl ?_
  refine g_isub hC dX11_rock_72 ?_
  refine g_icmp_ge hC 78 dX11_rock_73 (by decide) (fun _ => ?_) (fun hq_ => absurd h4 hq_)
  refine g_aload_n hC 1 dX11_rock_78 rfl rfl ?_
  refine gt_X11_41 hC (a := 0) (kk_0 hL) (kn_0 hL) dX11_rock_79 ?_
  refine g_ref (b := 16) rfl ?_
  refine g_callV_v (a := 16) hC (n' := n1) (κ' := κ1) (X' := X1) (Y' := Y) (Z' := Z1) (As := []) hM tw_857 tw_854 tw_122 tw_855 tw_856 (ci := 6) rfl (by decide) (kk_16 hL) (kn_16 hL) pd_X6_remember (by decide) (by decide) rfl rfl (Nat.le_of_ble_eq_true rfl) rfl dX11_rock_82 ?_
  show gV l b0 D K (n1, κ1, X1, Y, Z1, 4, 54) 85 [(3, .int ((X 25) v1.toNatClampNeg)), (0, .ref (b0 + 0)), (1, .int v1), (2, .int v2)] []
  refine g_aload_n hC 1 dX11_rock_85 rfl rfl ?_
  refine gt_X11_41 hC (a := 0) (kk_0 hL1) (kn_0 hL1) dX11_rock_86 ?_
  refine g_ref (b := 16) rfl ?_
  refine gt_X11_140 hC (a := 16) (kk_16 hL1) (kn_16 hL1) dX11_rock_89 ?_
  refine g_ref (b := 23) rfl ?_
  refine gt_X11_146 hC (a := 23) (kk_23 hL1) (kn_23 hL1) dX11_rock_92 ?_
  refine g_ref (b := 25) rfl ?_
  refine g_iload_n hC 2 dX11_rock_95 rfl rfl ?_
  refine g_iload_n hC 3 dX11_rock_96 rfl rfl ?_
  refine g_iast hC (x := X1 25) (v := v2) (kk_25 hL1) (kn_25 hL1) rfl (inb_in hi) rfl dX11_rock_97 ?_
  refine g_aload_n hC 1 dX11_rock_98 rfl rfl ?_
  refine gt_X11_41 hC (a := 0) (kk_0 hL1) (kn_0 hL1) dX11_rock_99 ?_
  refine g_ref (b := 16) rfl ?_
  refine gt_X11_140 hC (a := 16) (kk_16 hL1) (kn_16 hL1) dX11_rock_102 ?_
  refine g_ref (b := 23) rfl ?_
  refine g_dup hC dX11_rock_105 rfl ?_
  refine gt_X11_199 hC (x := ((va_up X1 25 (upd (X1 25) v1.toNatClampNeg v2))) 23) (kk_23 hL1) (kn_23 hL1) rfl dX11_rock_106 ?_
  refine g_iload_n hC 3 dX11_rock_109 rfl rfl ?_
  refine g_iload_n hC 0 dX11_rock_110 rfl rfl ?_
  refine g_isub hC dX11_rock_111 ?_
  refine g_isub hC dX11_rock_112 ?_
  refine pt_X11_199 hC (v := ((((va_up X1 25 (upd (X1 25) v1.toNatClampNeg v2))) 23) 1) - (v2 - ((X 25) v1.toNatClampNeg))) (x := ((va_up X1 25 (upd (X1 25) v1.toNatClampNeg v2))) 23) (kk_23 hL1) (kn_23 hL1) rfl rfl dX11_rock_113 ?_
  refine g_aload_n hC 1 dX11_rock_116 rfl rfl ?_
  refine gt_X11_41 hC (a := 0) (kk_0 hL1) (kn_0 hL1) dX11_rock_117 ?_
  refine g_ref (b := 16) rfl ?_
  refine gt_X11_140 hC (a := 16) (kk_16 hL1) (kn_16 hL1) dX11_rock_120 ?_
  refine g_ref (b := 23) rfl ?_
  refine gt_X11_199 hC (x := ((va_up ((va_up X1 25 (upd (X1 25) v1.toNatClampNeg v2))) 23 (upd (((va_up X1 25 (upd (X1 25) v1.toNatClampNeg v2))) 23) 1 (((((va_up X1 25 (upd (X1 25) v1.toNatClampNeg v2))) 23) 1) - (v2 - ((X 25) v1.toNatClampNeg)))))) 23) (kk_23 hL1) (kn_23 hL1) rfl dX11_rock_123 ?_
  exact hret _ _ rfl dX11_rock_126
set_option maxHeartbeats 4000000 in
set_option maxRecDepth 100000 in
theorem c_iceA (l : Launch) {b0 : Nat} {D : GD} {n : Nat} {κ : QT} {X : XT} {Y : YT} {Z : ZT} (hL : LY n κ) {v1 : Int32} (h1 : fX11_isTold (X 17) = some 0)  : gMi l yX11_ice cX11_ice 3 (some FieldType.int) 1 20 0 0 b0 D [.ref (b0 + 0), .int v1] (n, κ, X, Y, Z) (n, κ, X, Y, Z) (-1) := by
  refine g_meti (own := RX11) (by decide) rfl rfl (Nat.le_of_ble_eq_true rfl) ?_
  intro K hC hret
  refine g_aload_n hC 0 dX11_ice_0 rfl rfl ?_
  refine g_callV_i (a := 0) hC (n' := n) (κ' := κ) (X' := X) (Y' := Y) (Z' := Z) (As := []) (gMi_eq (c_X11_isTold l hL (X0 := X) rfl rfl h1) (ov_id _ [17]) rfl) tw_853 tw_850 tw_116 tw_852 tw_25 (ci := 11) rfl (by decide) (kk_0 hL) (kn_0 hL) pd_X11_isTold (by decide) (by decide) rfl rfl (Nat.le_of_ble_eq_true rfl) rfl dX11_ice_1 ?_
  show gV l b0 D K (n, κ, X, Y, Z, 0, 0) 4 [(0, .ref (b0 + 0)), (1, .int v1)] [.int 0]
  refine g_if_eq hC 17 dX11_ice_4 (by decide) (fun _ => ?_) (fun hq_ => absurd rfl hq_)
  refine g_iconst hC (v := (-1)) dX11_ice_17 ic_m1 ?_
  exact hret _ _ rfl dX11_ice_18
set_option maxHeartbeats 4000000 in
set_option maxRecDepth 100000 in
theorem c_iceB (l : Launch) {b0 : Nat} {D : GD} {n : Nat} {κ : QT} {X : XT} {Y : YT} {Z : ZT} (hL : LY n κ) {v1 : Int32} (h1 : fX11_isTold (X 17) = some 1) (h2 : fX11_isWithin v1 1 9 = some 0)  : gMi l yX11_ice cX11_ice 3 (some FieldType.int) 1 22 0 0 b0 D [.ref (b0 + 0), .int v1] (n, κ, X, Y, Z) (n, κ, X, Y, Z) (-1) := by
  refine g_meti (own := RX11) (by decide) rfl rfl (Nat.le_of_ble_eq_true rfl) ?_
  intro K hC hret
  refine g_aload_n hC 0 dX11_ice_0 rfl rfl ?_
  refine g_callV_i (a := 0) hC (n' := n) (κ' := κ) (X' := X) (Y' := Y) (Z' := Z) (As := []) (gMi_eq (c_X11_isTold l hL (X0 := X) rfl rfl h1) (ov_id _ [17]) rfl) tw_853 tw_850 tw_116 tw_852 tw_25 (ci := 11) rfl (by decide) (kk_0 hL) (kn_0 hL) pd_X11_isTold (by decide) (by decide) rfl rfl (Nat.le_of_ble_eq_true rfl) rfl dX11_ice_1 ?_
  show gV l b0 D K (n, κ, X, Y, Z, 0, 0) 4 [(0, .ref (b0 + 0)), (1, .int v1)] [.int 1]
  refine g_if_eq hC 17 dX11_ice_4 (by decide) (fun hq_ => absurd hq_ (by decide)) (fun _ => ?_)
  refine g_iload_n hC 1 dX11_ice_7 rfl rfl ?_
  refine g_iconst hC (v := 1) dX11_ice_8 ic_1 ?_
  refine g_bipush hC (v := 9) dX11_ice_9 bp_9 ?_
  refine g_callS_i hC (n' := n) (κ' := κ) (X' := X) (Y' := Y) (Z' := Z) (As := [.int v1, .int 1, .int 9]) (gMi_eq (c_X11_isWithin l hL (X0 := X) rfl rfl h2) (ov_id _ []) rfl) tw_666 tw_870 tw_116 tw_665 pd_X11_isWithin (by decide) (by decide) rfl rfl (Nat.le_of_ble_eq_true rfl) rfl dX11_ice_11 ?_
  show gV l b0 D K (n, κ, X, Y, Z, 0, 0) 14 [(0, .ref (b0 + 0)), (1, .int v1)] [.int 0]
  refine g_if_ne hC 19 dX11_ice_14 (by decide) (fun hq_ => absurd rfl hq_) (fun _ => ?_)
  refine g_iconst hC (v := (-1)) dX11_ice_17 ic_m1 ?_
  exact hret _ _ rfl dX11_ice_18
set_option maxHeartbeats 4000000 in
set_option maxRecDepth 100000 in
theorem c_iceC (l : Launch) {b0 : Nat} {D : GD} {n : Nat} {κ : QT} {X : XT} {Y : YT} {Z : ZT} (hL : LY n κ) {v1 : Int32} (h1 : fX11_isTold (X 17) = some 1) (h2 : fX11_isWithin v1 1 9 = some 1) {n1 : Nat} {κ1 : QT} {X1 : XT} {Z1 : ZT} (hM : gMv l yX6_remember cX6_remember 1 none 3 61 4 54 b0 D [.ref (b0 + 16)] (n, κ, X, Y, Z) (n1, κ1, X1, Y, Z1)) (hL1 : LY n1 κ1) : gMi l yX11_ice cX11_ice 3 (some FieldType.int) 4 81 4 54 b0 D [.ref (b0 + 0), .int v1] (n, κ, X, Y, Z) (n1, κ1, (va_up X1 23 (upd (X1 23) 2 v1)), Y, Z1) (X 23 2) := by
  refine g_meti (own := RX11) (by decide) rfl rfl (Nat.le_of_ble_eq_true rfl) ?_
  intro K hC hret
  refine g_aload_n hC 0 dX11_ice_0 rfl rfl ?_
  refine g_callV_i (a := 0) hC (n' := n) (κ' := κ) (X' := X) (Y' := Y) (Z' := Z) (As := []) (gMi_eq (c_X11_isTold l hL (X0 := X) rfl rfl h1) (ov_id _ [17]) rfl) tw_853 tw_850 tw_116 tw_852 tw_25 (ci := 11) rfl (by decide) (kk_0 hL) (kn_0 hL) pd_X11_isTold (by decide) (by decide) rfl rfl (Nat.le_of_ble_eq_true rfl) rfl dX11_ice_1 ?_
  show gV l b0 D K (n, κ, X, Y, Z, 0, 0) 4 [(0, .ref (b0 + 0)), (1, .int v1)] [.int 1]
  refine g_if_eq hC 17 dX11_ice_4 (by decide) (fun hq_ => absurd hq_ (by decide)) (fun _ => ?_)
  refine g_iload_n hC 1 dX11_ice_7 rfl rfl ?_
  refine g_iconst hC (v := 1) dX11_ice_8 ic_1 ?_
  refine g_bipush hC (v := 9) dX11_ice_9 bp_9 ?_
  refine g_callS_i hC (n' := n) (κ' := κ) (X' := X) (Y' := Y) (Z' := Z) (As := [.int v1, .int 1, .int 9]) (gMi_eq (c_X11_isWithin l hL (X0 := X) rfl rfl h2) (ov_id _ []) rfl) tw_666 tw_870 tw_116 tw_665 pd_X11_isWithin (by decide) (by decide) rfl rfl (Nat.le_of_ble_eq_true rfl) rfl dX11_ice_11 ?_
  show gV l b0 D K (n, κ, X, Y, Z, 0, 0) 14 [(0, .ref (b0 + 0)), (1, .int v1)] [.int 1]
  refine g_if_ne hC 19 dX11_ice_14 (by decide) (fun _ => ?_) (fun hq_ => absurd hq_ (by decide))
  refine g_aload_n hC 0 dX11_ice_19 rfl rfl ?_
  refine gt_X11_41 hC (a := 0) (kk_0 hL) (kn_0 hL) dX11_ice_20 ?_
  refine g_ref (b := 16) rfl ?_
  refine gt_X11_140 hC (a := 16) (kk_16 hL) (kn_16 hL) dX11_ice_23 ?_
  refine g_ref (b := 23) rfl ?_
  refine gt_X11_205 hC (x := X 23) (kk_23 hL) (kn_23 hL) rfl dX11_ice_26 ?_
  refine g_istore_n hC (i := 2) [(2, .int ((X 23) 2)), (0, .ref (b0 + 0)), (1, .int v1)] rfl dX11_ice_29 (by decide) rfl ?_
  refine g_aload_n hC 1 dX11_ice_30 rfl rfl ?_
  refine gt_X11_41 hC (a := 0) (kk_0 hL) (kn_0 hL) dX11_ice_31 ?_
  refine g_ref (b := 16) rfl ?_
  refine g_callV_v (a := 16) hC (n' := n1) (κ' := κ1) (X' := X1) (Y' := Y) (Z' := Z1) (As := []) hM tw_857 tw_854 tw_122 tw_855 tw_856 (ci := 6) rfl (by decide) (kk_16 hL) (kn_16 hL) pd_X6_remember (by decide) (by decide) rfl rfl (Nat.le_of_ble_eq_true rfl) rfl dX11_ice_34 ?_
  show gV l b0 D K (n1, κ1, X1, Y, Z1, 4, 54) 37 [(2, .int ((X 23) 2)), (0, .ref (b0 + 0)), (1, .int v1)] []
  refine g_aload_n hC 1 dX11_ice_37 rfl rfl ?_
  refine gt_X11_41 hC (a := 0) (kk_0 hL1) (kn_0 hL1) dX11_ice_38 ?_
  refine g_ref (b := 16) rfl ?_
  refine gt_X11_140 hC (a := 16) (kk_16 hL1) (kn_16 hL1) dX11_ice_41 ?_
  refine g_ref (b := 23) rfl ?_
  refine g_iload_n hC 2 dX11_ice_44 rfl rfl ?_
  refine pt_X11_205 hC (v := v1) (x := X1 23) (kk_23 hL1) (kn_23 hL1) rfl rfl dX11_ice_45 ?_
  refine g_iload_n hC 0 dX11_ice_48 rfl rfl ?_
  exact hret _ _ rfl dX11_ice_49
set_option maxHeartbeats 4000000 in
set_option maxRecDepth 100000 in
theorem c_undoA (l : Launch) {b0 : Nat} {D : GD} {n : Nat} {κ : QT} {X : XT} {Y : YT} {Z : ZT} (hL : LY n κ) (hc : X 16 3 = 0) : gMi l yX11_undo cX11_undo 1 (some FieldType.int) 4 81 4 54 b0 D [.ref (b0 + 0)] (n, κ, X, Y, Z) (n, κ, X, Y, Z) (-2) := by
  refine g_meti (own := RX11) (by decide) rfl rfl (Nat.le_of_ble_eq_true rfl) ?_
  intro K hC hret
  refine g_aload_n hC 0 dX11_undo_0 rfl rfl ?_
  refine gt_X11_41 hC (a := 0) (kk_0 hL) (kn_0 hL) dX11_undo_1 ?_
  refine g_ref (b := 16) rfl ?_
  refine g_callV_i (a := 16) hC (n' := n) (κ' := κ) (X' := X) (Y' := Y) (Z' := Z) (As := []) (c_gb0 l hL hc) tw_971 tw_968 tw_122 tw_969 tw_970 (ci := 6) rfl (by decide) (kk_16 hL) (kn_16 hL) pd_X6_goBackAnAct (by decide) (by decide) rfl rfl (Nat.le_of_ble_eq_true rfl) rfl dX11_undo_4 ?_
  show gV l b0 D K (n, κ, X, Y, Z, 4, 54) 7 [(0, .ref (b0 + 0))] [.int 0]
  refine g_if_eq hC 20 dX11_undo_7 (by decide) (fun _ => ?_) (fun hq_ => absurd rfl hq_)
  refine g_bipush hC (v := (-2)) dX11_undo_20 bp_m2 ?_
  exact hret _ _ rfl dX11_undo_22
set_option maxHeartbeats 4000000 in
set_option maxRecDepth 100000 in
theorem c_undoB (l : Launch) {b0 : Nat} {D : GD} {n : Nat} {κ : QT} {X : XT} {Y : YT} {Z : ZT} (hL : LY n κ) (hc : ¬ X 16 3 = 0) (hv : inb (X 16 3 - 1) 20 = true) {a : Nat} (hz : Z 27 (X 16 3 - 1).toNatClampNeg = some a) (ka : κ a = (7, 0)) (na : a < n) (ha : 27 ≤ a) : gMi l yX11_undo cX11_undo 1 (some FieldType.int) 4 81 4 54 b0 D [.ref (b0 + 0)] (n, κ, X, Y, Z) (n, κ, cpS (va_up X 16 (upd (X 16) 3 (X 16 3 - 1))) 23 a, Y, Z) (((cpS (va_up X 16 (upd (X 16) 3 (X 16 3 - 1))) 23 a) 16) 3) := by
  refine g_meti (own := RX11) (by decide) rfl rfl (Nat.le_of_ble_eq_true rfl) ?_
  intro K hC hret
  refine g_aload_n hC 0 dX11_undo_0 rfl rfl ?_
  refine gt_X11_41 hC (a := 0) (kk_0 hL) (kn_0 hL) dX11_undo_1 ?_
  refine g_ref (b := 16) rfl ?_
  refine g_callV_i (a := 16) hC (n' := n) (κ' := κ) (X' := cpS (va_up X 16 (upd (X 16) 3 (X 16 3 - 1))) 23 a) (Y' := Y) (Z' := Z) (As := []) (c_gb1 l hL hc hv hz ka na ha) tw_971 tw_968 tw_122 tw_969 tw_970 (ci := 6) rfl (by decide) (kk_16 hL) (kn_16 hL) pd_X6_goBackAnAct (by decide) (by decide) rfl rfl (Nat.le_of_ble_eq_true rfl) rfl dX11_undo_4 ?_
  show gV l b0 D K (n, κ, cpS (va_up X 16 (upd (X 16) 3 (X 16 3 - 1))) 23 a, Y, Z, 4, 54) 7 [(0, .ref (b0 + 0))] [.int 1]
  refine g_if_eq hC 20 dX11_undo_7 (by decide) (fun hq_ => absurd hq_ (by decide)) (fun _ => ?_)
  refine g_aload_n hC 0 dX11_undo_10 rfl rfl ?_
  refine gt_X11_41 hC (a := 0) (kk_0 hL) (kn_0 hL) dX11_undo_11 ?_
  refine g_ref (b := 16) rfl ?_
  refine gt_X11_211 hC (x := (cpS (va_up X 16 (upd (X 16) 3 (X 16 3 - 1))) 23 a) 16) (kk_16 hL) (kn_16 hL) rfl dX11_undo_14 ?_
  refine g_goto hC 22 dX11_undo_17 (by decide) ?_
  exact hret _ _ rfl dX11_undo_22

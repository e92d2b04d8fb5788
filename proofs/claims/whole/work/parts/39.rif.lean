set_option maxRecDepth 100000 in
theorem c_rifN (l : Launch) {b0 : Nat} {D : GD} {n : Nat} {κ : QT} {X : XT} {Y : YT} {Z : ZT} (hL : LY n κ) {x0 x16 : Nat → Int32} (h0 : X 0 = x0) (h16 : X 16 = x16) (hri : fX11_isWithin (x16 8) 0 (x0 4 - 1) = some 0) : gMq l yX11_ruleInForce cX11_ruleInForce 1 (some (FieldType.object "ToffeeTown$Rule")) 1 30 0 0 b0 D [.ref (b0 + 0)] (n, κ, X, Y, Z) (n, κ, X, Y, Z) none := by
  refine g_metq (own := RX11) (C := RX4) (by decide) rfl rfl (Nat.le_of_ble_eq_true rfl) ?_
  intro K hC hret
  refine g_aload_n hC 0 dX11_ruleInForce_0 rfl rfl ?_
  refine gt_X11_41 hC (a := 0) (kk_0 hL) (kn_0 hL) dX11_ruleInForce_1 ?_
  refine g_ref (b := 16) rfl ?_
  refine gt_X11_133 hC (x := x16) (kk_16 hL) (kn_16 hL) h16 dX11_ruleInForce_4 ?_
  refine g_iconst hC (v := 0) dX11_ruleInForce_7 ic_0 ?_
  refine g_aload_n hC 0 dX11_ruleInForce_8 rfl rfl ?_
  refine gt_X11_122 hC (x := x0) (kk_0 hL) (kn_0 hL) h0 dX11_ruleInForce_9 ?_
  refine g_iconst hC (v := 1) dX11_ruleInForce_12 ic_1 ?_
  refine g_isub hC dX11_ruleInForce_13 ?_
  refine g_callS_i hC (As := [.int (x16 8), .int 0, .int (x0 4 - 1)]) (c_X11_isWithin l hL (X0 := X) (Y0 := Y) rfl rfl hri) tw_666 tw_870 tw_116 tw_665 pd_X11_isWithin (by decide) (by decide) rfl rfl (Nat.le_of_ble_eq_true rfl) rfl dX11_ruleInForce_14 ?_
  refine g_if_eq hC 35 dX11_ruleInForce_17 (by decide) (fun _ => ?_) (fun hc => absurd rfl hc)
  refine g_aconst_null hC dX11_ruleInForce_35 ?_
  exact hret _ _ dX11_ruleInForce_36
set_option maxRecDepth 100000 in
theorem c_rifR (l : Launch) {b0 : Nat} {D : GD} {n : Nat} {κ : QT} {X : XT} {Y : YT} {Z : ZT} (hL : LY n κ) {x0 x16 : Nat → Int32} (h0 : X 0 = x0) (h16 : X 16 = x16) {ru : Nat} (hri : fX11_isWithin (x16 8) 0 (x0 4 - 1) = some 1 ∧ inb (x16 8) 6 = true ∧ Z 15 (x16 8).toNatClampNeg = some ru) : gMq l yX11_ruleInForce cX11_ruleInForce 1 (some (FieldType.object "ToffeeTown$Rule")) 1 30 0 0 b0 D [.ref (b0 + 0)] (n, κ, X, Y, Z) (n, κ, X, Y, Z) (some ru) := by
  refine g_metq (own := RX11) (C := RX4) (by decide) rfl rfl (Nat.le_of_ble_eq_true rfl) ?_
  intro K hC hret
  refine g_aload_n hC 0 dX11_ruleInForce_0 rfl rfl ?_
  refine gt_X11_41 hC (a := 0) (kk_0 hL) (kn_0 hL) dX11_ruleInForce_1 ?_
  refine g_ref (b := 16) rfl ?_
  refine gt_X11_133 hC (x := x16) (kk_16 hL) (kn_16 hL) h16 dX11_ruleInForce_4 ?_
  refine g_iconst hC (v := 0) dX11_ruleInForce_7 ic_0 ?_
  refine g_aload_n hC 0 dX11_ruleInForce_8 rfl rfl ?_
  refine gt_X11_122 hC (x := x0) (kk_0 hL) (kn_0 hL) h0 dX11_ruleInForce_9 ?_
  refine g_iconst hC (v := 1) dX11_ruleInForce_12 ic_1 ?_
  refine g_isub hC dX11_ruleInForce_13 ?_
  refine g_callS_i hC (As := [.int (x16 8), .int 0, .int (x0 4 - 1)]) (c_X11_isWithin l hL (X0 := X) (Y0 := Y) rfl rfl hri.1) tw_666 tw_870 tw_116 tw_665 pd_X11_isWithin (by decide) (by decide) rfl rfl (Nat.le_of_ble_eq_true rfl) rfl dX11_ruleInForce_14 ?_
  refine g_if_eq hC 35 dX11_ruleInForce_17 (by decide) (fun hc => absurd hc (by decide)) (fun _ => ?_)
  refine g_aload_n hC 0 dX11_ruleInForce_20 rfl rfl ?_
  refine gt_X11_34 hC (a := 0) (kk_0 hL) (kn_0 hL) dX11_ruleInForce_21 ?_
  refine g_ref (b := 15) rfl ?_
  refine g_aload_n hC 0 dX11_ruleInForce_24 rfl rfl ?_
  refine gt_X11_41 hC (a := 0) (kk_0 hL) (kn_0 hL) dX11_ruleInForce_25 ?_
  refine g_ref (b := 16) rfl ?_
  refine gt_X11_133 hC (x := x16) (kk_16 hL) (kn_16 hL) h16 dX11_ruleInForce_28 ?_
  refine g_aald17 hC (L := 6) (kk_15 hL) (kn_15 hL) (inb_in hri.2.1) hri.2.2 dX11_ruleInForce_31 ?_
  refine g_goto hC 36 dX11_ruleInForce_32 (by decide) ?_
  exact hret _ _ dX11_ruleInForce_36

-- X7_clear
def fX7_clear_0     (xo : (Nat → Int32)) (xoz1 : (Nat → Int32)) (xoz2 : (Nat → Int32)) (xoz3 : (Nat → Int32)) : Option ((Nat → Int32) × (Nat → Int32) × (Nat → Int32) × (Nat → Int32)) := bd1 (fJ7_fill_53178 6 0 xoz1) fun xoz1_1 => (bd1 (fJ7_fill_53178 6 0 xoz2) fun xoz2_3 => (bd1 (fJ7_fill_53178 36 0 xoz3) fun xoz3_5 => (some ((upd (upd (upd xo 0 0) 1 0) 2 0), xoz1_1, xoz2_3, xoz3_5))))
set_option maxHeartbeats 4000000 in
set_option maxRecDepth 100000 in
theorem wX7_clear_0 {l : Launch} {b0 : Nat} {D : GD} {K : KT} {n : Nat} {κ : QT} {X0 : XT} {Y0 : YT} {Z : ZT} {o : Nat} (hL : LY n κ) (hk_o : κ o = (7, 0)) (hn_o : o < n) (hN : ([o, o + 1, o + 2, o + 3] : List Nat).Nodup) (hM : ([] : List Nat).Nodup) (hC : gC l b0 D K RX7 cX7_clear none 1 1 23 0 0) {rxo : (Nat → Int32)} {rxoz1 : (Nat → Int32)} {rxoz2 : (Nat → Int32)} {rxoz3 : (Nat → Int32)} (hret : ∀ pc loc, decode cX7_clear pc = .ok (.return_, 1) → gV l b0 D K (n, κ, ov X0 [o, o + 1, o + 2, o + 3] [rxo, rxoz1, rxoz2, rxoz3], ov Y0 [] [], Z, 0, 0) pc loc []) {xo : (Nat → Int32)} {xoz1 : (Nat → Int32)} {xoz2 : (Nat → Int32)} {xoz3 : (Nat → Int32)} (hf : fX7_clear_0   xo xoz1 xoz2 xoz3 = some (rxo, rxoz1, rxoz2, rxoz3)) : gV l b0 D K (n, κ, ov X0 [o, o + 1, o + 2, o + 3] [xo, xoz1, xoz2, xoz3], ov Y0 [] [], Z, 0, 0) 0 [(0, .ref (b0 + o))] [] := by
  unfold fX7_clear_0 at hf
  refine g_aload_n hC 0 dX7_clear_0 rfl rfl ?_
  refine g_iconst hC (v := 0) dX7_clear_1 ic_0 ?_
  refine pt_X7_21 hC (x := xo) hk_o hn_o (ov_get hN 0 rfl rfl) (ov_set hN (by rfl) 0 (by rfl)) dX7_clear_2 ?_
  show gV l b0 D K (n, κ, ov X0 [o, o + 1, o + 2, o + 3] [(upd xo 0 0), xoz1, xoz2, xoz3], ov Y0 [] [], Z, 0, 0) 5 [(0, .ref (b0 + o))] []
  refine g_aload_n hC 0 dX7_clear_5 rfl rfl ?_
  refine g_iconst hC (v := 0) dX7_clear_6 ic_0 ?_
  refine pt_X7_25 hC (x := (upd xo 0 0)) hk_o hn_o (ov_get hN 0 rfl rfl) (ov_set hN (by rfl) 0 (by rfl)) dX7_clear_7 ?_
  show gV l b0 D K (n, κ, ov X0 [o, o + 1, o + 2, o + 3] [(upd (upd xo 0 0) 1 0), xoz1, xoz2, xoz3], ov Y0 [] [], Z, 0, 0) 10 [(0, .ref (b0 + o))] []
  refine g_aload_n hC 0 dX7_clear_10 rfl rfl ?_
  refine g_iconst hC (v := 0) dX7_clear_11 ic_0 ?_
  refine pt_X7_28 hC (x := (upd (upd xo 0 0) 1 0)) hk_o hn_o (ov_get hN 0 rfl rfl) (ov_set hN (by rfl) 0 (by rfl)) dX7_clear_12 ?_
  show gV l b0 D K (n, κ, ov X0 [o, o + 1, o + 2, o + 3] [(upd (upd (upd xo 0 0) 1 0) 2 0), xoz1, xoz2, xoz3], ov Y0 [] [], Z, 0, 0) 15 [(0, .ref (b0 + o))] []
  refine g_aload_n hC 0 dX7_clear_15 rfl rfl ?_
  refine gt_X7_9 hC (a := o) hk_o hn_o dX7_clear_16 ?_
  refine g_ref (b := (o + 1)) rfl ?_
  refine g_iconst hC (v := 0) dX7_clear_19 ic_0 ?_
  obtain ⟨xoz1_1, q_2, hf⟩ := bd1E hf
  refine g_callS_v hC (X' := ov X0 [o, o + 1, o + 2, o + 3] [(upd (upd (upd xo 0 0) 1 0) 2 0), xoz1_1, xoz2, xoz3]) (Y' := ov Y0 [] []) (As := [.ref (b0 + (o + 1)), .int 0]) (gMv_eq (c_J7_fill_53178 l hL (LS1 hL hk_o hn_o) (LSn1 hL hk_o hn_o) (nd_sub hN [1] (by decide) (by rfl)) (nd_sub hM [] (by decide) (by rfl)) (ov_map hN [1] (by rfl) (by rfl)) (ov_map hM [] (by rfl) (by rfl)) q_2) (ov_ovE hN (by rfl) [1] [0, 2, 3] (by rfl) (by rfl) [(upd (upd (upd xo 0 0) 1 0) 2 0), xoz2, xoz3] (by rfl) (by rfl) (by rfl) 4 (by rfl) (by decide)) (ov_ovE hM (by rfl) [] [] (by rfl) (by rfl) [] (by rfl) (by rfl) (by rfl) 0 (by rfl) (by decide))) tw_528 tw_526 tw_128 tw_527 pd_J7_fill_53178 (by decide) (by decide) rfl rfl (Nat.le_of_ble_eq_true rfl) rfl dX7_clear_20 ?_
  refine g_aload_n hC 0 dX7_clear_23 rfl rfl ?_
  refine gt_X7_15 hC (a := o) hk_o hn_o dX7_clear_24 ?_
  refine g_ref (b := (o + 2)) rfl ?_
  refine g_iconst hC (v := 0) dX7_clear_27 ic_0 ?_
  obtain ⟨xoz2_3, q_4, hf⟩ := bd1E hf
  refine g_callS_v hC (X' := ov X0 [o, o + 1, o + 2, o + 3] [(upd (upd (upd xo 0 0) 1 0) 2 0), xoz1_1, xoz2_3, xoz3]) (Y' := ov Y0 [] []) (As := [.ref (b0 + (o + 2)), .int 0]) (gMv_eq (c_J7_fill_53178 l hL (LS2 hL hk_o hn_o) (LSn2 hL hk_o hn_o) (nd_sub hN [2] (by decide) (by rfl)) (nd_sub hM [] (by decide) (by rfl)) (ov_map hN [2] (by rfl) (by rfl)) (ov_map hM [] (by rfl) (by rfl)) q_4) (ov_ovE hN (by rfl) [2] [0, 1, 3] (by rfl) (by rfl) [(upd (upd (upd xo 0 0) 1 0) 2 0), xoz1_1, xoz3] (by rfl) (by rfl) (by rfl) 4 (by rfl) (by decide)) (ov_ovE hM (by rfl) [] [] (by rfl) (by rfl) [] (by rfl) (by rfl) (by rfl) 0 (by rfl) (by decide))) tw_528 tw_526 tw_128 tw_527 pd_J7_fill_53178 (by decide) (by decide) rfl rfl (Nat.le_of_ble_eq_true rfl) rfl dX7_clear_28 ?_
  refine g_aload_n hC 0 dX7_clear_31 rfl rfl ?_
  refine gt_X7_18 hC (a := o) hk_o hn_o dX7_clear_32 ?_
  refine g_ref (b := (o + 3)) rfl ?_
  refine g_iconst hC (v := 0) dX7_clear_35 ic_0 ?_
  obtain ⟨xoz3_5, q_6, hf⟩ := bd1E hf
  refine g_callS_v hC (X' := ov X0 [o, o + 1, o + 2, o + 3] [(upd (upd (upd xo 0 0) 1 0) 2 0), xoz1_1, xoz2_3, xoz3_5]) (Y' := ov Y0 [] []) (As := [.ref (b0 + (o + 3)), .int 0]) (gMv_eq (c_J7_fill_53178 l hL (LS3 hL hk_o hn_o) (LSn3 hL hk_o hn_o) (nd_sub hN [3] (by decide) (by rfl)) (nd_sub hM [] (by decide) (by rfl)) (ov_map hN [3] (by rfl) (by rfl)) (ov_map hM [] (by rfl) (by rfl)) q_6) (ov_ovE hN (by rfl) [3] [0, 1, 2] (by rfl) (by rfl) [(upd (upd (upd xo 0 0) 1 0) 2 0), xoz1_1, xoz2_3] (by rfl) (by rfl) (by rfl) 4 (by rfl) (by decide)) (ov_ovE hM (by rfl) [] [] (by rfl) (by rfl) [] (by rfl) (by rfl) (by rfl) 0 (by rfl) (by decide))) tw_528 tw_526 tw_128 tw_527 pd_J7_fill_53178 (by decide) (by decide) rfl rfl (Nat.le_of_ble_eq_true rfl) rfl dX7_clear_36 ?_
  obtain ⟨rfl, rfl, rfl, rfl⟩ := sm4E hf
  exact hret _ _ dX7_clear_39

def fX7_clear      (xo : Nat → Int32) (xoz1 : Nat → Int32) (xoz2 : Nat → Int32) (xoz3 : Nat → Int32)  : Option ((Nat → Int32) × (Nat → Int32) × (Nat → Int32) × (Nat → Int32)) := fX7_clear_0  xo xoz1 xoz2 xoz3

set_option maxHeartbeats 4000000 in
set_option maxRecDepth 100000 in
theorem c_X7_clear (l : Launch) {b0 : Nat} {D : GD} {n : Nat} {κ : QT} {X0 : XT} {Y0 : YT} {Z : ZT} {o : Nat} (hL : LY n κ) (hk_o : κ o = (7, 0)) (hn_o : o < n) (hN : ([o, o + 1, o + 2, o + 3] : List Nat).Nodup) (hM : ([] : List Nat).Nodup) {xo : Nat → Int32} {xoz1 : Nat → Int32} {xoz2 : Nat → Int32} {xoz3 : Nat → Int32} (hx : ([o, o + 1, o + 2, o + 3] : List Nat).map X0 = [xo, xoz1, xoz2, xoz3]) (hy : ([] : List Nat).map Y0 = []) {rxo : (Nat → Int32)} {rxoz1 : (Nat → Int32)} {rxoz2 : (Nat → Int32)} {rxoz3 : (Nat → Int32)} (hf : fX7_clear  xo xoz1 xoz2 xoz3 = some (rxo, rxoz1, rxoz2, rxoz3)) : gMv l yX7_clear cX7_clear 1 none 1 23 0 0 b0 D [.ref (b0 + o)] (n, κ, X0, Y0, Z) (n, κ, ov X0 [o, o + 1, o + 2, o + 3] [rxo, rxoz1, rxoz2, rxoz3], ov Y0 [] [], Z) := by
  refine g_metv (own := RX7) (by decide) rfl rfl (Nat.le_of_ble_eq_true rfl) ?_
  intro K hC hret
  have e := wX7_clear_0 hL hk_o hn_o hN hM hC  hret hf
  rw [ov_id' hx, ov_id' hy] at e
  exact g_sub [0] rfl e

-- X7_copy
def fX7_copy_0   (xq : Nat → Int32) (xqz1 : Nat → Int32) (xqz2 : Nat → Int32) (xqz3 : Nat → Int32)  (xo : (Nat → Int32)) (xoz1 : (Nat → Int32)) (xoz2 : (Nat → Int32)) (xoz3 : (Nat → Int32)) : Option ((Nat → Int32) × (Nat → Int32) × (Nat → Int32) × (Nat → Int32)) := gd (cpok 0 0 6 6 6) (gd (cpok 0 0 6 6 6) (gd (cpok 0 0 36 36 36) (some ((upd (upd (upd xo 0 (xq 0)) 1 (xq 1)) 2 (xq 2)), (va_cpy xqz1 xoz1 (0 : Int32).toNatClampNeg (0 : Int32).toNatClampNeg (6 : Int32).toNatClampNeg), (va_cpy xqz2 xoz2 (0 : Int32).toNatClampNeg (0 : Int32).toNatClampNeg (6 : Int32).toNatClampNeg), (va_cpy xqz3 xoz3 (0 : Int32).toNatClampNeg (0 : Int32).toNatClampNeg (36 : Int32).toNatClampNeg)))))
set_option maxHeartbeats 4000000 in
set_option maxRecDepth 100000 in
theorem wX7_copy_0 {l : Launch} {b0 : Nat} {D : GD} {K : KT} {n : Nat} {κ : QT} {X0 : XT} {Y0 : YT} {Z : ZT} {o : Nat} {q : Nat} (hL : LY n κ) (hk_o : κ o = (7, 0)) (hn_o : o < n) (hk_q : κ q = (7, 0)) (hn_q : q < n) (hN : ([o, o + 1, o + 2, o + 3, q, q + 1, q + 2, q + 3] : List Nat).Nodup) (hM : ([] : List Nat).Nodup) (hC : gC l b0 D K RX7 cX7_copy none 2 1 40 0 0) {xq : Nat → Int32} {xqz1 : Nat → Int32} {xqz2 : Nat → Int32} {xqz3 : Nat → Int32} {rxo : (Nat → Int32)} {rxoz1 : (Nat → Int32)} {rxoz2 : (Nat → Int32)} {rxoz3 : (Nat → Int32)} (hret : ∀ pc loc, decode cX7_copy pc = .ok (.return_, 1) → gV l b0 D K (n, κ, ov X0 [o, o + 1, o + 2, o + 3, q, q + 1, q + 2, q + 3] [rxo, rxoz1, rxoz2, rxoz3, xq, xqz1, xqz2, xqz3], ov Y0 [] [], Z, 0, 0) pc loc []) {xo : (Nat → Int32)} {xoz1 : (Nat → Int32)} {xoz2 : (Nat → Int32)} {xoz3 : (Nat → Int32)} (hf : fX7_copy_0 xq xqz1 xqz2 xqz3  xo xoz1 xoz2 xoz3 = some (rxo, rxoz1, rxoz2, rxoz3)) : gV l b0 D K (n, κ, ov X0 [o, o + 1, o + 2, o + 3, q, q + 1, q + 2, q + 3] [xo, xoz1, xoz2, xoz3, xq, xqz1, xqz2, xqz3], ov Y0 [] [], Z, 0, 0) 0 [(0, .ref (b0 + o)), (1, .ref (b0 + q))] [] := by
  unfold fX7_copy_0 at hf
  refine g_aload_n hC 0 dX7_copy_0 rfl rfl ?_
  refine g_aload_n hC 1 dX7_copy_1 rfl rfl ?_
  refine gt_X7_21 hC (x := xq) hk_q hn_q (ov_get hN 4 rfl rfl) dX7_copy_2 ?_
  refine pt_X7_21 hC (x := xo) hk_o hn_o (ov_get hN 0 rfl rfl) (ov_set hN (by rfl) 0 (by rfl)) dX7_copy_5 ?_
  show gV l b0 D K (n, κ, ov X0 [o, o + 1, o + 2, o + 3, q, q + 1, q + 2, q + 3] [(upd xo 0 (xq 0)), xoz1, xoz2, xoz3, xq, xqz1, xqz2, xqz3], ov Y0 [] [], Z, 0, 0) 8 [(0, .ref (b0 + o)), (1, .ref (b0 + q))] []
  refine g_aload_n hC 0 dX7_copy_8 rfl rfl ?_
  refine g_aload_n hC 1 dX7_copy_9 rfl rfl ?_
  refine gt_X7_25 hC (x := xq) hk_q hn_q (ov_get hN 4 rfl rfl) dX7_copy_10 ?_
  refine pt_X7_25 hC (x := (upd xo 0 (xq 0))) hk_o hn_o (ov_get hN 0 rfl rfl) (ov_set hN (by rfl) 0 (by rfl)) dX7_copy_13 ?_
  show gV l b0 D K (n, κ, ov X0 [o, o + 1, o + 2, o + 3, q, q + 1, q + 2, q + 3] [(upd (upd xo 0 (xq 0)) 1 (xq 1)), xoz1, xoz2, xoz3, xq, xqz1, xqz2, xqz3], ov Y0 [] [], Z, 0, 0) 16 [(0, .ref (b0 + o)), (1, .ref (b0 + q))] []
  refine g_aload_n hC 0 dX7_copy_16 rfl rfl ?_
  refine g_aload_n hC 1 dX7_copy_17 rfl rfl ?_
  refine gt_X7_28 hC (x := xq) hk_q hn_q (ov_get hN 4 rfl rfl) dX7_copy_18 ?_
  refine pt_X7_28 hC (x := (upd (upd xo 0 (xq 0)) 1 (xq 1))) hk_o hn_o (ov_get hN 0 rfl rfl) (ov_set hN (by rfl) 0 (by rfl)) dX7_copy_21 ?_
  show gV l b0 D K (n, κ, ov X0 [o, o + 1, o + 2, o + 3, q, q + 1, q + 2, q + 3] [(upd (upd (upd xo 0 (xq 0)) 1 (xq 1)) 2 (xq 2)), xoz1, xoz2, xoz3, xq, xqz1, xqz2, xqz3], ov Y0 [] [], Z, 0, 0) 24 [(0, .ref (b0 + o)), (1, .ref (b0 + q))] []
  refine g_aload_n hC 1 dX7_copy_24 rfl rfl ?_
  refine gt_X7_9 hC (a := q) hk_q hn_q dX7_copy_25 ?_
  refine g_ref (b := (q + 1)) rfl ?_
  refine g_iconst hC (v := 0) dX7_copy_28 ic_0 ?_
  refine g_aload_n hC 0 dX7_copy_29 rfl rfl ?_
  refine gt_X7_9 hC (a := o) hk_o hn_o dX7_copy_30 ?_
  refine g_ref (b := (o + 1)) rfl ?_
  refine g_iconst hC (v := 0) dX7_copy_33 ic_0 ?_
  refine g_bipush hC (v := 6) dX7_copy_34 bp_6 ?_
  obtain ⟨h_1, hf⟩ := gdE hf
  refine g_copy hC (f := xqz1) (g := xoz1) tw_708 (LS1 hL hk_q hn_q) (LSn1 hL hk_q hn_q) (LS1 hL hk_o hn_o) (LSn1 hL hk_o hn_o)  (ov_get hN 5 rfl rfl) (ov_get hN 1 rfl rfl) h_1 (ov_set hN (by rfl) 1 (by rfl)) (by decide) (by decide) dX7_copy_36 ?_
  show gV l b0 D K (n, κ, ov X0 [o, o + 1, o + 2, o + 3, q, q + 1, q + 2, q + 3] [(upd (upd (upd xo 0 (xq 0)) 1 (xq 1)) 2 (xq 2)), (va_cpy xqz1 xoz1 (0 : Int32).toNatClampNeg (0 : Int32).toNatClampNeg (6 : Int32).toNatClampNeg), xoz2, xoz3, xq, xqz1, xqz2, xqz3], ov Y0 [] [], Z, 0, 0) 39 [(0, .ref (b0 + o)), (1, .ref (b0 + q))] []
  refine g_aload_n hC 1 dX7_copy_39 rfl rfl ?_
  refine gt_X7_15 hC (a := q) hk_q hn_q dX7_copy_40 ?_
  refine g_ref (b := (q + 2)) rfl ?_
  refine g_iconst hC (v := 0) dX7_copy_43 ic_0 ?_
  refine g_aload_n hC 0 dX7_copy_44 rfl rfl ?_
  refine gt_X7_15 hC (a := o) hk_o hn_o dX7_copy_45 ?_
  refine g_ref (b := (o + 2)) rfl ?_
  refine g_iconst hC (v := 0) dX7_copy_48 ic_0 ?_
  refine g_bipush hC (v := 6) dX7_copy_49 bp_6 ?_
  obtain ⟨h_2, hf⟩ := gdE hf
  refine g_copy hC (f := xqz2) (g := xoz2) tw_708 (LS2 hL hk_q hn_q) (LSn2 hL hk_q hn_q) (LS2 hL hk_o hn_o) (LSn2 hL hk_o hn_o)  (ov_get hN 6 rfl rfl) (ov_get hN 2 rfl rfl) h_2 (ov_set hN (by rfl) 2 (by rfl)) (by decide) (by decide) dX7_copy_51 ?_
  show gV l b0 D K (n, κ, ov X0 [o, o + 1, o + 2, o + 3, q, q + 1, q + 2, q + 3] [(upd (upd (upd xo 0 (xq 0)) 1 (xq 1)) 2 (xq 2)), (va_cpy xqz1 xoz1 (0 : Int32).toNatClampNeg (0 : Int32).toNatClampNeg (6 : Int32).toNatClampNeg), (va_cpy xqz2 xoz2 (0 : Int32).toNatClampNeg (0 : Int32).toNatClampNeg (6 : Int32).toNatClampNeg), xoz3, xq, xqz1, xqz2, xqz3], ov Y0 [] [], Z, 0, 0) 54 [(0, .ref (b0 + o)), (1, .ref (b0 + q))] []
  refine g_aload_n hC 1 dX7_copy_54 rfl rfl ?_
  refine gt_X7_18 hC (a := q) hk_q hn_q dX7_copy_55 ?_
  refine g_ref (b := (q + 3)) rfl ?_
  refine g_iconst hC (v := 0) dX7_copy_58 ic_0 ?_
  refine g_aload_n hC 0 dX7_copy_59 rfl rfl ?_
  refine gt_X7_18 hC (a := o) hk_o hn_o dX7_copy_60 ?_
  refine g_ref (b := (o + 3)) rfl ?_
  refine g_iconst hC (v := 0) dX7_copy_63 ic_0 ?_
  refine g_bipush hC (v := 36) dX7_copy_64 bp_36 ?_
  obtain ⟨h_3, hf⟩ := gdE hf
  refine g_copy hC (f := xqz3) (g := xoz3) tw_708 (LS3 hL hk_q hn_q) (LSn3 hL hk_q hn_q) (LS3 hL hk_o hn_o) (LSn3 hL hk_o hn_o)  (ov_get hN 7 rfl rfl) (ov_get hN 3 rfl rfl) h_3 (ov_set hN (by rfl) 3 (by rfl)) (by decide) (by decide) dX7_copy_66 ?_
  show gV l b0 D K (n, κ, ov X0 [o, o + 1, o + 2, o + 3, q, q + 1, q + 2, q + 3] [(upd (upd (upd xo 0 (xq 0)) 1 (xq 1)) 2 (xq 2)), (va_cpy xqz1 xoz1 (0 : Int32).toNatClampNeg (0 : Int32).toNatClampNeg (6 : Int32).toNatClampNeg), (va_cpy xqz2 xoz2 (0 : Int32).toNatClampNeg (0 : Int32).toNatClampNeg (6 : Int32).toNatClampNeg), (va_cpy xqz3 xoz3 (0 : Int32).toNatClampNeg (0 : Int32).toNatClampNeg (36 : Int32).toNatClampNeg), xq, xqz1, xqz2, xqz3], ov Y0 [] [], Z, 0, 0) 69 [(0, .ref (b0 + o)), (1, .ref (b0 + q))] []
  obtain ⟨rfl, rfl, rfl, rfl⟩ := sm4E hf
  exact hret _ _ dX7_copy_69

def fX7_copy   (xq : Nat → Int32) (xqz1 : Nat → Int32) (xqz2 : Nat → Int32) (xqz3 : Nat → Int32)   (xo : Nat → Int32) (xoz1 : Nat → Int32) (xoz2 : Nat → Int32) (xoz3 : Nat → Int32)  : Option ((Nat → Int32) × (Nat → Int32) × (Nat → Int32) × (Nat → Int32)) := fX7_copy_0 xq xqz1 xqz2 xqz3 xo xoz1 xoz2 xoz3

set_option maxHeartbeats 4000000 in
set_option maxRecDepth 100000 in
theorem c_X7_copy (l : Launch) {b0 : Nat} {D : GD} {n : Nat} {κ : QT} {X0 : XT} {Y0 : YT} {Z : ZT} {o : Nat} {q : Nat} (hL : LY n κ) (hk_o : κ o = (7, 0)) (hn_o : o < n) (hk_q : κ q = (7, 0)) (hn_q : q < n) (hN : ([o, o + 1, o + 2, o + 3, q, q + 1, q + 2, q + 3] : List Nat).Nodup) (hM : ([] : List Nat).Nodup) {xo : Nat → Int32} {xoz1 : Nat → Int32} {xoz2 : Nat → Int32} {xoz3 : Nat → Int32} {xq : Nat → Int32} {xqz1 : Nat → Int32} {xqz2 : Nat → Int32} {xqz3 : Nat → Int32} (hx : ([o, o + 1, o + 2, o + 3, q, q + 1, q + 2, q + 3] : List Nat).map X0 = [xo, xoz1, xoz2, xoz3, xq, xqz1, xqz2, xqz3]) (hy : ([] : List Nat).map Y0 = []) {rxo : (Nat → Int32)} {rxoz1 : (Nat → Int32)} {rxoz2 : (Nat → Int32)} {rxoz3 : (Nat → Int32)} (hf : fX7_copy xq xqz1 xqz2 xqz3 xo xoz1 xoz2 xoz3 = some (rxo, rxoz1, rxoz2, rxoz3)) : gMv l yX7_copy cX7_copy 2 none 1 40 0 0 b0 D [.ref (b0 + o), .ref (b0 + q)] (n, κ, X0, Y0, Z) (n, κ, ov X0 [o, o + 1, o + 2, o + 3, q, q + 1, q + 2, q + 3] [rxo, rxoz1, rxoz2, rxoz3, xq, xqz1, xqz2, xqz3], ov Y0 [] [], Z) := by
  refine g_metv (own := RX7) (by decide) rfl rfl (Nat.le_of_ble_eq_true rfl) ?_
  intro K hC hret
  have e := wX7_copy_0 hL hk_o hn_o hk_q hn_q hN hM hC  hret hf
  rw [ov_id' hx, ov_id' hy] at e
  exact g_sub [0, 1] rfl e

-- X7_hardOf
def fX7_hardOf_0   (xoz3 : Nat → Int32)  (v1 : Int32) (v2 : Int32) : Option (Int32) := gd (inb ((v1 * 6) + v2) 36) (some (xoz3 ((v1 * 6) + v2).toNatClampNeg))
set_option maxHeartbeats 4000000 in
set_option maxRecDepth 100000 in
theorem wX7_hardOf_0 {l : Launch} {b0 : Nat} {D : GD} {K : KT} {n : Nat} {κ : QT} {X0 : XT} {Y0 : YT} {Z : ZT} {o : Nat} (hL : LY n κ) (hk_o : κ o = (7, 0)) (hn_o : o < n) (hN : ([o + 3] : List Nat).Nodup) (hM : ([] : List Nat).Nodup) (hC : gC l b0 D K RX7 cX7_hardOf (some FieldType.int) 3 0 0 0 0) {xoz3 : Nat → Int32} {r : Int32} (hret : ∀ pc loc, narrow .int (.int r) = .int r → decode cX7_hardOf pc = .ok (.ireturn, 1) → gV l b0 D K (n, κ, ov X0 [o + 3] [xoz3], ov Y0 [] [], Z, 0, 0) pc loc [.int r]) {v1 : Int32} {v2 : Int32} (hf : fX7_hardOf_0 xoz3  v1 v2 = some r) : gV l b0 D K (n, κ, ov X0 [o + 3] [xoz3], ov Y0 [] [], Z, 0, 0) 0 [(0, .ref (b0 + o)), (1, .int v1), (2, .int v2)] [] := by
  unfold fX7_hardOf_0 at hf
  refine g_aload_n hC 0 dX7_hardOf_0 rfl rfl ?_
  refine gt_X7_18 hC (a := o) hk_o hn_o dX7_hardOf_1 ?_
  refine g_ref (b := (o + 3)) rfl ?_
  refine g_iload_n hC 1 dX7_hardOf_4 rfl rfl ?_
  refine g_bipush hC (v := 6) dX7_hardOf_5 bp_6 ?_
  refine g_imul hC dX7_hardOf_7 ?_
  refine g_iload_n hC 2 dX7_hardOf_8 rfl rfl ?_
  refine g_iadd hC dX7_hardOf_9 ?_
  obtain ⟨h_1, hf⟩ := gdE hf
  refine g_iald hC (x := xoz3) (LS3 hL hk_o hn_o) (LSn3 hL hk_o hn_o) (ov_get hN 0 rfl rfl) (inb_in h_1) dX7_hardOf_10 ?_
  obtain rfl := sm1E hf
  exact hret _ _ rfl dX7_hardOf_11

def fX7_hardOf   (xoz3 : Nat → Int32)  (v1 : Int32) (v2 : Int32)   : Option (Int32) := fX7_hardOf_0 xoz3 v1 v2

set_option maxHeartbeats 4000000 in
set_option maxRecDepth 100000 in
theorem c_X7_hardOf (l : Launch) {b0 : Nat} {D : GD} {n : Nat} {κ : QT} {X0 : XT} {Y0 : YT} {Z : ZT} {o : Nat} (hL : LY n κ) (hk_o : κ o = (7, 0)) (hn_o : o < n) (hN : ([o + 3] : List Nat).Nodup) (hM : ([] : List Nat).Nodup) {xoz3 : Nat → Int32} (hx : ([o + 3] : List Nat).map X0 = [xoz3]) (hy : ([] : List Nat).map Y0 = []) {v1 : Int32} {v2 : Int32} {r : Int32} (hf : fX7_hardOf xoz3 v1 v2 = some r) : gMi l yX7_hardOf cX7_hardOf 3 (some FieldType.int) 0 0 0 0 b0 D [.ref (b0 + o), .int v1, .int v2] (n, κ, X0, Y0, Z) (n, κ, ov X0 [o + 3] [xoz3], ov Y0 [] [], Z) r := by
  refine g_meti (own := RX7) (by decide) rfl rfl (Nat.le_of_ble_eq_true rfl) ?_
  intro K hC hret
  have e := wX7_hardOf_0 hL hk_o hn_o hN hM hC  hret hf
  rw [ov_id' hx, ov_id' hy] at e
  exact g_sub [0, 1, 2] rfl e

-- X7_setHard
def fX7_setHard_0     (v1 : Int32) (v2 : Int32) (v3 : Int32) (xoz3 : (Nat → Int32)) : Option ((Nat → Int32)) := gd (inb ((v1 * 6) + v2) 36) (gd (inb ((v2 * 6) + v1) 36) (some (upd (upd xoz3 ((v1 * 6) + v2).toNatClampNeg v3) ((v2 * 6) + v1).toNatClampNeg v3)))
set_option maxHeartbeats 4000000 in
set_option maxRecDepth 100000 in
theorem wX7_setHard_0 {l : Launch} {b0 : Nat} {D : GD} {K : KT} {n : Nat} {κ : QT} {X0 : XT} {Y0 : YT} {Z : ZT} {o : Nat} (hL : LY n κ) (hk_o : κ o = (7, 0)) (hn_o : o < n) (hN : ([o + 3] : List Nat).Nodup) (hM : ([] : List Nat).Nodup) (hC : gC l b0 D K RX7 cX7_setHard none 4 0 0 0 0) {rxoz3 : (Nat → Int32)} (hret : ∀ pc loc, decode cX7_setHard pc = .ok (.return_, 1) → gV l b0 D K (n, κ, ov X0 [o + 3] [rxoz3], ov Y0 [] [], Z, 0, 0) pc loc []) {v1 : Int32} {v2 : Int32} {v3 : Int32} {xoz3 : (Nat → Int32)} (hf : fX7_setHard_0   v1 v2 v3 xoz3 = some rxoz3) : gV l b0 D K (n, κ, ov X0 [o + 3] [xoz3], ov Y0 [] [], Z, 0, 0) 0 [(0, .ref (b0 + o)), (1, .int v1), (2, .int v2), (3, .int v3)] [] := by
  unfold fX7_setHard_0 at hf
  refine g_aload_n hC 0 dX7_setHard_0 rfl rfl ?_
  refine gt_X7_18 hC (a := o) hk_o hn_o dX7_setHard_1 ?_
  refine g_ref (b := (o + 3)) rfl ?_
  refine g_iload_n hC 1 dX7_setHard_4 rfl rfl ?_
  refine g_bipush hC (v := 6) dX7_setHard_5 bp_6 ?_
  refine g_imul hC dX7_setHard_7 ?_
  refine g_iload_n hC 2 dX7_setHard_8 rfl rfl ?_
  refine g_iadd hC dX7_setHard_9 ?_
  refine g_iload_n hC 3 dX7_setHard_10 rfl rfl ?_
  obtain ⟨h_1, hf⟩ := gdE hf
  refine g_iast hC (x := xoz3) (LS3 hL hk_o hn_o) (LSn3 hL hk_o hn_o) (ov_get hN 0 rfl rfl) (inb_in h_1) (ov_set hN (by rfl) 0 (by rfl)) dX7_setHard_11 ?_
  show gV l b0 D K (n, κ, ov X0 [o + 3] [(upd xoz3 ((v1 * 6) + v2).toNatClampNeg v3)], ov Y0 [] [], Z, 0, 0) 12 [(0, .ref (b0 + o)), (1, .int v1), (2, .int v2), (3, .int v3)] []
  refine g_aload_n hC 0 dX7_setHard_12 rfl rfl ?_
  refine gt_X7_18 hC (a := o) hk_o hn_o dX7_setHard_13 ?_
  refine g_ref (b := (o + 3)) rfl ?_
  refine g_iload_n hC 2 dX7_setHard_16 rfl rfl ?_
  refine g_bipush hC (v := 6) dX7_setHard_17 bp_6 ?_
  refine g_imul hC dX7_setHard_19 ?_
  refine g_iload_n hC 1 dX7_setHard_20 rfl rfl ?_
  refine g_iadd hC dX7_setHard_21 ?_
  refine g_iload_n hC 3 dX7_setHard_22 rfl rfl ?_
  obtain ⟨h_2, hf⟩ := gdE hf
  refine g_iast hC (x := (upd xoz3 ((v1 * 6) + v2).toNatClampNeg v3)) (LS3 hL hk_o hn_o) (LSn3 hL hk_o hn_o) (ov_get hN 0 rfl rfl) (inb_in h_2) (ov_set hN (by rfl) 0 (by rfl)) dX7_setHard_23 ?_
  show gV l b0 D K (n, κ, ov X0 [o + 3] [(upd (upd xoz3 ((v1 * 6) + v2).toNatClampNeg v3) ((v2 * 6) + v1).toNatClampNeg v3)], ov Y0 [] [], Z, 0, 0) 24 [(0, .ref (b0 + o)), (1, .int v1), (2, .int v2), (3, .int v3)] []
  obtain rfl := sm1E hf
  exact hret _ _ dX7_setHard_24

def fX7_setHard     (v1 : Int32) (v2 : Int32) (v3 : Int32) (xoz3 : Nat → Int32)  : Option ((Nat → Int32)) := fX7_setHard_0  v1 v2 v3 xoz3

set_option maxHeartbeats 4000000 in
set_option maxRecDepth 100000 in
theorem c_X7_setHard (l : Launch) {b0 : Nat} {D : GD} {n : Nat} {κ : QT} {X0 : XT} {Y0 : YT} {Z : ZT} {o : Nat} (hL : LY n κ) (hk_o : κ o = (7, 0)) (hn_o : o < n) (hN : ([o + 3] : List Nat).Nodup) (hM : ([] : List Nat).Nodup) {xoz3 : Nat → Int32} (hx : ([o + 3] : List Nat).map X0 = [xoz3]) (hy : ([] : List Nat).map Y0 = []) {v1 : Int32} {v2 : Int32} {v3 : Int32} {rxoz3 : (Nat → Int32)} (hf : fX7_setHard  v1 v2 v3 xoz3 = some rxoz3) : gMv l yX7_setHard cX7_setHard 4 none 0 0 0 0 b0 D [.ref (b0 + o), .int v1, .int v2, .int v3] (n, κ, X0, Y0, Z) (n, κ, ov X0 [o + 3] [rxoz3], ov Y0 [] [], Z) := by
  refine g_metv (own := RX7) (by decide) rfl rfl (Nat.le_of_ble_eq_true rfl) ?_
  intro K hC hret
  have e := wX7_setHard_0 hL hk_o hn_o hN hM hC  hret hf
  rw [ov_id' hx, ov_id' hy] at e
  exact g_sub [0, 1, 2, 3] rfl e

-- X7_harden
def fX7_harden_0     (v1 : Int32) (v2 : Int32) (xo : (Nat → Int32)) (xoz3 : (Nat → Int32)) : Option ((Nat → Int32) × (Nat → Int32)) := bd1 (fX7_hardOf xoz3 v1 v2) fun r_1 => (bd1 (fX7_setHard v1 v2 (r_1 + 1) xoz3) fun xoz3_3 => (some ((upd xo 1 ((xo 1) - 1)), xoz3_3)))
set_option maxHeartbeats 4000000 in
set_option maxRecDepth 100000 in
theorem wX7_harden_0 {l : Launch} {b0 : Nat} {D : GD} {K : KT} {n : Nat} {κ : QT} {X0 : XT} {Y0 : YT} {Z : ZT} {o : Nat} (hL : LY n κ) (hk_o : κ o = (7, 0)) (hn_o : o < n) (hN : ([o, o + 3] : List Nat).Nodup) (hM : ([] : List Nat).Nodup) (hC : gC l b0 D K RX7 cX7_harden none 3 1 23 0 0) {rxo : (Nat → Int32)} {rxoz3 : (Nat → Int32)} (hret : ∀ pc loc, decode cX7_harden pc = .ok (.return_, 1) → gV l b0 D K (n, κ, ov X0 [o, o + 3] [rxo, rxoz3], ov Y0 [] [], Z, 0, 0) pc loc []) {v1 : Int32} {v2 : Int32} {xo : (Nat → Int32)} {xoz3 : (Nat → Int32)} (hf : fX7_harden_0   v1 v2 xo xoz3 = some (rxo, rxoz3)) : gV l b0 D K (n, κ, ov X0 [o, o + 3] [xo, xoz3], ov Y0 [] [], Z, 0, 0) 0 [(0, .ref (b0 + o)), (1, .int v1), (2, .int v2)] [] := by
  unfold fX7_harden_0 at hf
  refine g_aload_n hC 0 dX7_harden_0 rfl rfl ?_
  refine g_iload_n hC 1 dX7_harden_1 rfl rfl ?_
  refine g_iload_n hC 2 dX7_harden_2 rfl rfl ?_
  refine g_aload_n hC 0 dX7_harden_3 rfl rfl ?_
  refine g_iload_n hC 1 dX7_harden_4 rfl rfl ?_
  refine g_iload_n hC 2 dX7_harden_5 rfl rfl ?_
  obtain ⟨r_1, q_2, hf⟩ := bd1E hf
  refine g_callV_i (a := o) hC (X' := ov X0 [o, o + 3] [xo, xoz3]) (Y' := ov Y0 [] []) (As := [.int v1, .int v2]) (gMi_eq (c_X7_hardOf l hL hk_o hn_o (nd_sub hN [1] (by decide) (by rfl)) (nd_sub hM [] (by decide) (by rfl)) (ov_map hN [1] (by rfl) (by rfl)) (ov_map hM [] (by rfl) (by rfl)) q_2) (ov_ovE hN (by rfl) [1] [0] (by rfl) (by rfl) [xo] (by rfl) (by rfl) (by rfl) 2 (by rfl) (by decide)) (ov_ovE hM (by rfl) [] [] (by rfl) (by rfl) [] (by rfl) (by rfl) (by rfl) 0 (by rfl) (by decide))) tw_845 tw_883 tw_120 tw_843 tw_844 (ci := 7) rfl (by decide) hk_o hn_o pd_X7_hardOf (by decide) (by decide) rfl rfl (Nat.le_of_ble_eq_true rfl) rfl dX7_harden_6 ?_
  refine g_iconst hC (v := 1) dX7_harden_9 ic_1 ?_
  refine g_iadd hC dX7_harden_10 ?_
  obtain ⟨xoz3_3, q_4, hf⟩ := bd1E hf
  refine g_callV_v (a := o) hC (X' := ov X0 [o, o + 3] [xo, xoz3_3]) (Y' := ov Y0 [] []) (As := [.int v1, .int v2, .int (r_1 + 1)]) (gMv_eq (c_X7_setHard l hL hk_o hn_o (nd_sub hN [1] (by decide) (by rfl)) (nd_sub hM [] (by decide) (by rfl)) (ov_map hN [1] (by rfl) (by rfl)) (ov_map hM [] (by rfl) (by rfl)) q_4) (ov_ovE hN (by rfl) [1] [0] (by rfl) (by rfl) [xo] (by rfl) (by rfl) (by rfl) 2 (by rfl) (by decide)) (ov_ovE hM (by rfl) [] [] (by rfl) (by rfl) [] (by rfl) (by rfl) (by rfl) 0 (by rfl) (by decide))) tw_682 tw_905 tw_120 tw_680 tw_681 (ci := 7) rfl (by decide) hk_o hn_o pd_X7_setHard (by decide) (by decide) rfl rfl (Nat.le_of_ble_eq_true rfl) rfl dX7_harden_11 ?_
  refine g_aload_n hC 0 dX7_harden_14 rfl rfl ?_
  refine g_dup hC dX7_harden_15 rfl ?_
  refine gt_X7_25 hC (x := xo) hk_o hn_o (ov_get hN 0 rfl rfl) dX7_harden_16 ?_
  refine g_iconst hC (v := 1) dX7_harden_19 ic_1 ?_
  refine g_isub hC dX7_harden_20 ?_
  refine pt_X7_25 hC (x := xo) hk_o hn_o (ov_get hN 0 rfl rfl) (ov_set hN (by rfl) 0 (by rfl)) dX7_harden_21 ?_
  show gV l b0 D K (n, κ, ov X0 [o, o + 3] [(upd xo 1 ((xo 1) - 1)), xoz3_3], ov Y0 [] [], Z, 0, 0) 24 [(0, .ref (b0 + o)), (1, .int v1), (2, .int v2)] []
  obtain ⟨rfl, rfl⟩ := sm2E hf
  exact hret _ _ dX7_harden_24

def fX7_harden     (v1 : Int32) (v2 : Int32) (xo : Nat → Int32) (xoz3 : Nat → Int32)  : Option ((Nat → Int32) × (Nat → Int32)) := fX7_harden_0  v1 v2 xo xoz3

set_option maxHeartbeats 4000000 in
set_option maxRecDepth 100000 in
theorem c_X7_harden (l : Launch) {b0 : Nat} {D : GD} {n : Nat} {κ : QT} {X0 : XT} {Y0 : YT} {Z : ZT} {o : Nat} (hL : LY n κ) (hk_o : κ o = (7, 0)) (hn_o : o < n) (hN : ([o, o + 3] : List Nat).Nodup) (hM : ([] : List Nat).Nodup) {xo : Nat → Int32} {xoz3 : Nat → Int32} (hx : ([o, o + 3] : List Nat).map X0 = [xo, xoz3]) (hy : ([] : List Nat).map Y0 = []) {v1 : Int32} {v2 : Int32} {rxo : (Nat → Int32)} {rxoz3 : (Nat → Int32)} (hf : fX7_harden  v1 v2 xo xoz3 = some (rxo, rxoz3)) : gMv l yX7_harden cX7_harden 3 none 1 23 0 0 b0 D [.ref (b0 + o), .int v1, .int v2] (n, κ, X0, Y0, Z) (n, κ, ov X0 [o, o + 3] [rxo, rxoz3], ov Y0 [] [], Z) := by
  refine g_metv (own := RX7) (by decide) rfl rfl (Nat.le_of_ble_eq_true rfl) ?_
  intro K hC hret
  have e := wX7_harden_0 hL hk_o hn_o hN hM hC  hret hf
  rw [ov_id' hx, ov_id' hy] at e
  exact g_sub [0, 1, 2] rfl e

-- X7_canHarden
def fX7_canHarden_24   (xoz3 : Nat → Int32)   : Option (Int32) := some 0
set_option maxHeartbeats 4000000 in
set_option maxRecDepth 100000 in
theorem wX7_canHarden_24 {l : Launch} {b0 : Nat} {D : GD} {K : KT} {n : Nat} {κ : QT} {X0 : XT} {Y0 : YT} {Z : ZT} {o : Nat} (hL : LY n κ) (hk_o : κ o = (7, 0)) (hn_o : o < n) (hN : ([o + 3] : List Nat).Nodup) (hM : ([] : List Nat).Nodup) (hC : gC l b0 D K RX7 cX7_canHarden (some FieldType.boolean) 3 1 22 0 0) {xoz3 : Nat → Int32} {r : Int32} (hret : ∀ pc loc, narrow .boolean (.int r) = .int r → decode cX7_canHarden pc = .ok (.ireturn, 1) → gV l b0 D K (n, κ, ov X0 [o + 3] [xoz3], ov Y0 [] [], Z, 0, 0) pc loc [.int r])  (hf : fX7_canHarden_24 xoz3   = some r) : gV l b0 D K (n, κ, ov X0 [o + 3] [xoz3], ov Y0 [] [], Z, 0, 0) 24 [] [] := by
  unfold fX7_canHarden_24 at hf
  refine g_iconst hC (v := 0) dX7_canHarden_24 ic_0 ?_
  obtain rfl := sm1E hf
  exact hret _ _ rfl dX7_canHarden_25

def fX7_canHarden_0   (xoz3 : Nat → Int32)  (v1 : Int32) (v2 : Int32) : Option (Int32) := bd1 (fX7_hardOf xoz3 v1 v2) fun r_1 => (if r_1 ≤ 0 then (fX7_canHarden_24 xoz3  ) else (bd1 (fX7_hardOf xoz3 v1 v2) fun r_3 => (if 9 ≤ r_3 then (fX7_canHarden_24 xoz3  ) else (some 1))))
set_option maxHeartbeats 4000000 in
set_option maxRecDepth 100000 in
theorem wX7_canHarden_0 {l : Launch} {b0 : Nat} {D : GD} {K : KT} {n : Nat} {κ : QT} {X0 : XT} {Y0 : YT} {Z : ZT} {o : Nat} (hL : LY n κ) (hk_o : κ o = (7, 0)) (hn_o : o < n) (hN : ([o + 3] : List Nat).Nodup) (hM : ([] : List Nat).Nodup) (hC : gC l b0 D K RX7 cX7_canHarden (some FieldType.boolean) 3 1 22 0 0) {xoz3 : Nat → Int32} {r : Int32} (hret : ∀ pc loc, narrow .boolean (.int r) = .int r → decode cX7_canHarden pc = .ok (.ireturn, 1) → gV l b0 D K (n, κ, ov X0 [o + 3] [xoz3], ov Y0 [] [], Z, 0, 0) pc loc [.int r]) {v1 : Int32} {v2 : Int32} (hf : fX7_canHarden_0 xoz3  v1 v2 = some r) : gV l b0 D K (n, κ, ov X0 [o + 3] [xoz3], ov Y0 [] [], Z, 0, 0) 0 [(0, .ref (b0 + o)), (1, .int v1), (2, .int v2)] [] := by
  unfold fX7_canHarden_0 at hf
  refine g_aload_n hC 0 dX7_canHarden_0 rfl rfl ?_
  refine g_iload_n hC 1 dX7_canHarden_1 rfl rfl ?_
  refine g_iload_n hC 2 dX7_canHarden_2 rfl rfl ?_
  obtain ⟨r_1, q_2, hf⟩ := bd1E hf
  refine g_callV_i (a := o) hC (X' := ov X0 [o + 3] [xoz3]) (Y' := ov Y0 [] []) (As := [.int v1, .int v2]) (gMi_eq (c_X7_hardOf l hL hk_o hn_o (nd_sub hN [0] (by decide) (by rfl)) (nd_sub hM [] (by decide) (by rfl)) (ov_map hN [0] (by rfl) (by rfl)) (ov_map hM [] (by rfl) (by rfl)) q_2) (ov_ovE hN (by rfl) [0] [] (by rfl) (by rfl) [] (by rfl) (by rfl) (by rfl) 1 (by rfl) (by decide)) (ov_ovE hM (by rfl) [] [] (by rfl) (by rfl) [] (by rfl) (by rfl) (by rfl) 0 (by rfl) (by decide))) tw_845 tw_883 tw_120 tw_843 tw_844 (ci := 7) rfl (by decide) hk_o hn_o pd_X7_hardOf (by decide) (by decide) rfl rfl (Nat.le_of_ble_eq_true rfl) rfl dX7_canHarden_3 ?_
  refine g_if_le hC 24 dX7_canHarden_6 (by decide) (fun hc => ?_) (fun hc => ?_)
  · replace hf := ifT hf hc
    exact g_sub [] rfl (wX7_canHarden_24 hL hk_o hn_o hN hM hC  hret  hf)
  · replace hf := ifF hf hc
    refine g_aload_n hC 0 dX7_canHarden_9 rfl rfl ?_
    refine g_iload_n hC 1 dX7_canHarden_10 rfl rfl ?_
    refine g_iload_n hC 2 dX7_canHarden_11 rfl rfl ?_
    obtain ⟨r_3, q_4, hf⟩ := bd1E hf
    refine g_callV_i (a := o) hC (X' := ov X0 [o + 3] [xoz3]) (Y' := ov Y0 [] []) (As := [.int v1, .int v2]) (gMi_eq (c_X7_hardOf l hL hk_o hn_o (nd_sub hN [0] (by decide) (by rfl)) (nd_sub hM [] (by decide) (by rfl)) (ov_map hN [0] (by rfl) (by rfl)) (ov_map hM [] (by rfl) (by rfl)) q_4) (ov_ovE hN (by rfl) [0] [] (by rfl) (by rfl) [] (by rfl) (by rfl) (by rfl) 1 (by rfl) (by decide)) (ov_ovE hM (by rfl) [] [] (by rfl) (by rfl) [] (by rfl) (by rfl) (by rfl) 0 (by rfl) (by decide))) tw_845 tw_883 tw_120 tw_843 tw_844 (ci := 7) rfl (by decide) hk_o hn_o pd_X7_hardOf (by decide) (by decide) rfl rfl (Nat.le_of_ble_eq_true rfl) rfl dX7_canHarden_12 ?_
    refine g_bipush hC (v := 9) dX7_canHarden_15 bp_9 ?_
    refine g_icmp_ge hC 24 dX7_canHarden_17 (by decide) (fun hc => ?_) (fun hc => ?_)
    · replace hf := ifT hf hc
      exact g_sub [] rfl (wX7_canHarden_24 hL hk_o hn_o hN hM hC  hret  hf)
    · replace hf := ifF hf hc
      refine g_iconst hC (v := 1) dX7_canHarden_20 ic_1 ?_
      refine g_goto hC 25 dX7_canHarden_21 (by decide) ?_
      obtain rfl := sm1E hf
      exact hret _ _ rfl dX7_canHarden_25

def fX7_canHarden   (xoz3 : Nat → Int32)  (v1 : Int32) (v2 : Int32)   : Option (Int32) := fX7_canHarden_0 xoz3 v1 v2

set_option maxHeartbeats 4000000 in
set_option maxRecDepth 100000 in
theorem c_X7_canHarden (l : Launch) {b0 : Nat} {D : GD} {n : Nat} {κ : QT} {X0 : XT} {Y0 : YT} {Z : ZT} {o : Nat} (hL : LY n κ) (hk_o : κ o = (7, 0)) (hn_o : o < n) (hN : ([o + 3] : List Nat).Nodup) (hM : ([] : List Nat).Nodup) {xoz3 : Nat → Int32} (hx : ([o + 3] : List Nat).map X0 = [xoz3]) (hy : ([] : List Nat).map Y0 = []) {v1 : Int32} {v2 : Int32} {r : Int32} (hf : fX7_canHarden xoz3 v1 v2 = some r) : gMi l yX7_canHarden cX7_canHarden 3 (some FieldType.boolean) 1 22 0 0 b0 D [.ref (b0 + o), .int v1, .int v2] (n, κ, X0, Y0, Z) (n, κ, ov X0 [o + 3] [xoz3], ov Y0 [] [], Z) r := by
  refine g_meti (own := RX7) (by decide) rfl rfl (Nat.le_of_ble_eq_true rfl) ?_
  intro K hC hret
  have e := wX7_canHarden_0 hL hk_o hn_o hN hM hC  hret hf
  rw [ov_id' hx, ov_id' hy] at e
  exact g_sub [0, 1, 2] rfl e

-- X7_harderTo
def fX7_harderTo_35   (xoz3 : Nat → Int32)  (k5 : Int32 → Int32 → Int32 → Int32 → Option (Int32)) (v1 : Int32) (v2 : Int32) (v3 : Int32) (v4 : Int32) : Option (Int32) := bn (v4 + 1) fun t_1 => (k5 v1 v2 v3 t_1)
set_option maxHeartbeats 4000000 in
set_option maxRecDepth 100000 in
theorem wX7_harderTo_35 {l : Launch} {b0 : Nat} {D : GD} {K : KT} {n : Nat} {κ : QT} {X0 : XT} {Y0 : YT} {Z : ZT} {o : Nat} (hL : LY n κ) (hk_o : κ o = (7, 0)) (hn_o : o < n) (hN : ([o + 3] : List Nat).Nodup) (hM : ([] : List Nat).Nodup) (hC : gC l b0 D K RX7 cX7_harderTo (some FieldType.int) 5 0 0 0 0) {xoz3 : Nat → Int32} {r : Int32} (hret : ∀ pc loc, narrow .int (.int r) = .int r → decode cX7_harderTo pc = .ok (.ireturn, 1) → gV l b0 D K (n, κ, ov X0 [o + 3] [xoz3], ov Y0 [] [], Z, 0, 0) pc loc [.int r]) {k5 : Int32 → Int32 → Int32 → Int32 → Option (Int32)} (hk5 : ∀ (v1 : Int32) (v2 : Int32) (v3 : Int32) (v4 : Int32), k5 v1 v2 v3 v4 = some r → gV l b0 D K (n, κ, ov X0 [o + 3] [xoz3], ov Y0 [] [], Z, 0, 0) 5 [(0, .ref (b0 + o)), (1, .int v1), (2, .int v2), (3, .int v3), (4, .int v4)] []) {v1 : Int32} {v2 : Int32} {v3 : Int32} {v4 : Int32} (hf : fX7_harderTo_35 xoz3 k5 v1 v2 v3 v4 = some r) : gV l b0 D K (n, κ, ov X0 [o + 3] [xoz3], ov Y0 [] [], Z, 0, 0) 35 [(0, .ref (b0 + o)), (1, .int v1), (2, .int v2), (3, .int v3), (4, .int v4)] [] := by
  unfold fX7_harderTo_35 at hf
  obtain ⟨t_1, et_1, hf⟩ := bnE hf
  refine g_iinc hC (i := 4) (v := t_1) [(4, .int t_1), (0, .ref (b0 + o)), (1, .int v1), (2, .int v2), (3, .int v3)] dX7_harderTo_35 (q := 4) rfl ((congrArg (HAdd.hAdd v4) ic_1).trans et_1.symm) (by decide) rfl ?_
  refine g_goto hC 5 dX7_harderTo_38 (by decide) ?_
  exact g_sub [1, 2, 3, 4, 0] rfl (hk5 v1 v2 v3 t_1 hf)

def fX7_harderTo_5b   (xoz3 : Nat → Int32)  (k5 : Int32 → Int32 → Int32 → Int32 → Option (Int32)) (v1 : Int32) (v2 : Int32) (v3 : Int32) (v4 : Int32) : Option (Int32) := if 6 ≤ v4 then (some v3) else (gd (inb ((v1 * 6) + v4) 36) (if (xoz3 ((v1 * 6) + v4).toNatClampNeg) ≤ v2 then (fX7_harderTo_35 xoz3 k5 v1 v2 v3 v4) else (bn (v3 ||| (1 <<< (v4 &&& 31))) fun t_2 => (fX7_harderTo_35 xoz3 k5 v1 v2 t_2 v4))))
def fX7_harderTo_5   (xoz3 : Nat → Int32)  : Int32 → Int32 → Int32 → Int32 → Option (Int32) := lq4 (fX7_harderTo_5b xoz3 ) 5000
set_option maxHeartbeats 4000000 in
set_option maxRecDepth 100000 in
theorem wX7_harderTo_5 {l : Launch} {b0 : Nat} {D : GD} {K : KT} {n : Nat} {κ : QT} {X0 : XT} {Y0 : YT} {Z : ZT} {o : Nat} (hL : LY n κ) (hk_o : κ o = (7, 0)) (hn_o : o < n) (hN : ([o + 3] : List Nat).Nodup) (hM : ([] : List Nat).Nodup) (hC : gC l b0 D K RX7 cX7_harderTo (some FieldType.int) 5 0 0 0 0) {xoz3 : Nat → Int32} {r : Int32} (hret : ∀ pc loc, narrow .int (.int r) = .int r → decode cX7_harderTo pc = .ok (.ireturn, 1) → gV l b0 D K (n, κ, ov X0 [o + 3] [xoz3], ov Y0 [] [], Z, 0, 0) pc loc [.int r]) : ∀ (j : Nat) (v1 : Int32) (v2 : Int32) (v3 : Int32) (v4 : Int32), lq4 (fX7_harderTo_5b xoz3 ) j v1 v2 v3 v4 = some r → gV l b0 D K (n, κ, ov X0 [o + 3] [xoz3], ov Y0 [] [], Z, 0, 0) 5 [(0, .ref (b0 + o)), (1, .int v1), (2, .int v2), (3, .int v3), (4, .int v4)] [] := by
  intro j
  induction j with
  | zero => intro v1 v2 v3 v4 hf; cases hf
  | succ j hk5 =>
    intro v1 v2 v3 v4 hf
    replace hf : fX7_harderTo_5b xoz3  (lq4 (fX7_harderTo_5b xoz3 ) j) v1 v2 v3 v4 = some r := hf
    unfold fX7_harderTo_5b at hf
    refine g_iload hC 4 dX7_harderTo_5 rfl ?_
    refine g_bipush hC (v := 6) dX7_harderTo_7 bp_6 ?_
    refine g_icmp_ge hC 41 dX7_harderTo_9 (by decide) (fun hc => ?_) (fun hc => ?_)
    · replace hf := ifT hf hc
      refine g_iload_n hC 3 dX7_harderTo_41 rfl rfl ?_
      obtain rfl := sm1E hf
      exact hret _ _ rfl dX7_harderTo_42
    · replace hf := ifF hf hc
      refine g_aload_n hC 0 dX7_harderTo_12 rfl rfl ?_
      refine gt_X7_18 hC (a := o) hk_o hn_o dX7_harderTo_13 ?_
      refine g_ref (b := (o + 3)) rfl ?_
      refine g_iload_n hC 1 dX7_harderTo_16 rfl rfl ?_
      refine g_bipush hC (v := 6) dX7_harderTo_17 bp_6 ?_
      refine g_imul hC dX7_harderTo_19 ?_
      refine g_iload hC 4 dX7_harderTo_20 rfl ?_
      refine g_iadd hC dX7_harderTo_22 ?_
      obtain ⟨h_1, hf⟩ := gdE hf
      refine g_iald hC (x := xoz3) (LS3 hL hk_o hn_o) (LSn3 hL hk_o hn_o) (ov_get hN 0 rfl rfl) (inb_in h_1) dX7_harderTo_23 ?_
      refine g_iload_n hC 2 dX7_harderTo_24 rfl rfl ?_
      refine g_icmp_le hC 35 dX7_harderTo_25 (by decide) (fun hc => ?_) (fun hc => ?_)
      · replace hf := ifT hf hc
        exact g_sub [0, 1, 2, 3, 4] rfl (wX7_harderTo_35 hL hk_o hn_o hN hM hC  hret hk5 hf)
      · replace hf := ifF hf hc
        refine g_iload_n hC 3 dX7_harderTo_28 rfl rfl ?_
        refine g_iconst hC (v := 1) dX7_harderTo_29 ic_1 ?_
        refine g_iload hC 4 dX7_harderTo_30 rfl ?_
        refine g_ishl hC dX7_harderTo_32 ?_
        refine g_ior hC dX7_harderTo_33 ?_
        obtain ⟨t_2, et_2, hf⟩ := bnE hf
        refine g_topi et_2 ?_
        refine g_istore_n hC (i := 3) [(3, .int t_2), (0, .ref (b0 + o)), (1, .int v1), (2, .int v2), (4, .int v4)] rfl dX7_harderTo_34 (by decide) rfl ?_
        exact g_sub [1, 2, 3, 0, 4] rfl (wX7_harderTo_35 hL hk_o hn_o hN hM hC  hret hk5 hf)

def fX7_harderTo_0   (xoz3 : Nat → Int32)  (v1 : Int32) (v2 : Int32) : Option (Int32) := fX7_harderTo_5 xoz3  v1 v2 0 0
set_option maxHeartbeats 4000000 in
set_option maxRecDepth 100000 in
theorem wX7_harderTo_0 {l : Launch} {b0 : Nat} {D : GD} {K : KT} {n : Nat} {κ : QT} {X0 : XT} {Y0 : YT} {Z : ZT} {o : Nat} (hL : LY n κ) (hk_o : κ o = (7, 0)) (hn_o : o < n) (hN : ([o + 3] : List Nat).Nodup) (hM : ([] : List Nat).Nodup) (hC : gC l b0 D K RX7 cX7_harderTo (some FieldType.int) 5 0 0 0 0) {xoz3 : Nat → Int32} {r : Int32} (hret : ∀ pc loc, narrow .int (.int r) = .int r → decode cX7_harderTo pc = .ok (.ireturn, 1) → gV l b0 D K (n, κ, ov X0 [o + 3] [xoz3], ov Y0 [] [], Z, 0, 0) pc loc [.int r]) {v1 : Int32} {v2 : Int32} (hf : fX7_harderTo_0 xoz3  v1 v2 = some r) : gV l b0 D K (n, κ, ov X0 [o + 3] [xoz3], ov Y0 [] [], Z, 0, 0) 0 [(0, .ref (b0 + o)), (1, .int v1), (2, .int v2)] [] := by
  unfold fX7_harderTo_0 at hf
  refine g_iconst hC (v := 0) dX7_harderTo_0 ic_0 ?_
  refine g_istore_n hC (i := 3) [(3, .int 0), (0, .ref (b0 + o)), (1, .int v1), (2, .int v2)] rfl dX7_harderTo_1 (by decide) rfl ?_
  refine g_iconst hC (v := 0) dX7_harderTo_2 ic_0 ?_
  refine g_istore hC (i := 4) [(4, .int 0), (3, .int 0), (0, .ref (b0 + o)), (1, .int v1), (2, .int v2)] dX7_harderTo_3 (by decide) rfl ?_
  exact g_sub [2, 3, 4, 1, 0] rfl (wX7_harderTo_5 hL hk_o hn_o hN hM hC  hret  5000 v1 v2 0 0 hf)

def fX7_harderTo   (xoz3 : Nat → Int32)  (v1 : Int32) (v2 : Int32)   : Option (Int32) := fX7_harderTo_0 xoz3 v1 v2

set_option maxHeartbeats 4000000 in
set_option maxRecDepth 100000 in
theorem c_X7_harderTo (l : Launch) {b0 : Nat} {D : GD} {n : Nat} {κ : QT} {X0 : XT} {Y0 : YT} {Z : ZT} {o : Nat} (hL : LY n κ) (hk_o : κ o = (7, 0)) (hn_o : o < n) (hN : ([o + 3] : List Nat).Nodup) (hM : ([] : List Nat).Nodup) {xoz3 : Nat → Int32} (hx : ([o + 3] : List Nat).map X0 = [xoz3]) (hy : ([] : List Nat).map Y0 = []) {v1 : Int32} {v2 : Int32} {r : Int32} (hf : fX7_harderTo xoz3 v1 v2 = some r) : gMi l yX7_harderTo cX7_harderTo 5 (some FieldType.int) 0 0 0 0 b0 D [.ref (b0 + o), .int v1, .int v2] (n, κ, X0, Y0, Z) (n, κ, ov X0 [o + 3] [xoz3], ov Y0 [] [], Z) r := by
  refine g_meti (own := RX7) (by decide) rfl rfl (Nat.le_of_ble_eq_true rfl) ?_
  intro K hC hret
  have e := wX7_harderTo_0 hL hk_o hn_o hN hM hC  hret hf
  rw [ov_id' hx, ov_id' hy] at e
  exact g_sub [0, 1, 2] rfl e

-- X7_pouredTo
def fX7_pouredTo_0   (xoz3 : Nat → Int32)  (v1 : Int32) : Option (Int32) := bd1 (fX7_harderTo xoz3 v1 0) fun r_1 => (some r_1)
set_option maxHeartbeats 4000000 in
set_option maxRecDepth 100000 in
theorem wX7_pouredTo_0 {l : Launch} {b0 : Nat} {D : GD} {K : KT} {n : Nat} {κ : QT} {X0 : XT} {Y0 : YT} {Z : ZT} {o : Nat} (hL : LY n κ) (hk_o : κ o = (7, 0)) (hn_o : o < n) (hN : ([o + 3] : List Nat).Nodup) (hM : ([] : List Nat).Nodup) (hC : gC l b0 D K RX7 cX7_pouredTo (some FieldType.int) 2 1 24 0 0) {xoz3 : Nat → Int32} {r : Int32} (hret : ∀ pc loc, narrow .int (.int r) = .int r → decode cX7_pouredTo pc = .ok (.ireturn, 1) → gV l b0 D K (n, κ, ov X0 [o + 3] [xoz3], ov Y0 [] [], Z, 0, 0) pc loc [.int r]) {v1 : Int32} (hf : fX7_pouredTo_0 xoz3  v1 = some r) : gV l b0 D K (n, κ, ov X0 [o + 3] [xoz3], ov Y0 [] [], Z, 0, 0) 0 [(0, .ref (b0 + o)), (1, .int v1)] [] := by
  unfold fX7_pouredTo_0 at hf
  refine g_aload_n hC 0 dX7_pouredTo_0 rfl rfl ?_
  refine g_iload_n hC 1 dX7_pouredTo_1 rfl rfl ?_
  refine g_iconst hC (v := 0) dX7_pouredTo_2 ic_0 ?_
  obtain ⟨r_1, q_2, hf⟩ := bd1E hf
  refine g_callV_i (a := o) hC (X' := ov X0 [o + 3] [xoz3]) (Y' := ov Y0 [] []) (As := [.int v1, .int 0]) (gMi_eq (c_X7_harderTo l hL hk_o hn_o (nd_sub hN [0] (by decide) (by rfl)) (nd_sub hM [] (by decide) (by rfl)) (ov_map hN [0] (by rfl) (by rfl)) (ov_map hM [] (by rfl) (by rfl)) q_2) (ov_ovE hN (by rfl) [0] [] (by rfl) (by rfl) [] (by rfl) (by rfl) (by rfl) 1 (by rfl) (by decide)) (ov_ovE hM (by rfl) [] [] (by rfl) (by rfl) [] (by rfl) (by rfl) (by rfl) 0 (by rfl) (by decide))) tw_798 tw_795 tw_120 tw_796 tw_797 (ci := 7) rfl (by decide) hk_o hn_o pd_X7_harderTo (by decide) (by decide) rfl rfl (Nat.le_of_ble_eq_true rfl) rfl dX7_pouredTo_3 ?_
  obtain rfl := sm1E hf
  exact hret _ _ rfl dX7_pouredTo_6

def fX7_pouredTo   (xoz3 : Nat → Int32)  (v1 : Int32)   : Option (Int32) := fX7_pouredTo_0 xoz3 v1

set_option maxHeartbeats 4000000 in
set_option maxRecDepth 100000 in
theorem c_X7_pouredTo (l : Launch) {b0 : Nat} {D : GD} {n : Nat} {κ : QT} {X0 : XT} {Y0 : YT} {Z : ZT} {o : Nat} (hL : LY n κ) (hk_o : κ o = (7, 0)) (hn_o : o < n) (hN : ([o + 3] : List Nat).Nodup) (hM : ([] : List Nat).Nodup) {xoz3 : Nat → Int32} (hx : ([o + 3] : List Nat).map X0 = [xoz3]) (hy : ([] : List Nat).map Y0 = []) {v1 : Int32} {r : Int32} (hf : fX7_pouredTo xoz3 v1 = some r) : gMi l yX7_pouredTo cX7_pouredTo 2 (some FieldType.int) 1 24 0 0 b0 D [.ref (b0 + o), .int v1] (n, κ, X0, Y0, Z) (n, κ, ov X0 [o + 3] [xoz3], ov Y0 [] [], Z) r := by
  refine g_meti (own := RX7) (by decide) rfl rfl (Nat.le_of_ble_eq_true rfl) ?_
  intro K hC hret
  have e := wX7_pouredTo_0 hL hk_o hn_o hN hM hC  hret hf
  rw [ov_id' hx, ov_id' hy] at e
  exact g_sub [0, 1] rfl e

-- X7_hardnessOf
def fX7_hardnessOf_9b   (xoz2 : Nat → Int32) (xoz3 : Nat → Int32)  (k9 : Int32 → Int32 → Int32 → Option (Int32)) (v1 : Int32) (v2 : Int32) (v3 : Int32) : Option (Int32) := if 6 ≤ v3 then (some v2) else (bd1 (fX7_hardOf xoz3 v1 v3) fun r_1 => (bn (v2 + r_1) fun t_3 => (bn (v3 + 1) fun t_4 => (k9 v1 t_3 t_4))))
def fX7_hardnessOf_9   (xoz2 : Nat → Int32) (xoz3 : Nat → Int32)  : Int32 → Int32 → Int32 → Option (Int32) := lq3 (fX7_hardnessOf_9b xoz2 xoz3 ) 5000
set_option maxHeartbeats 4000000 in
set_option maxRecDepth 100000 in
theorem wX7_hardnessOf_9 {l : Launch} {b0 : Nat} {D : GD} {K : KT} {n : Nat} {κ : QT} {X0 : XT} {Y0 : YT} {Z : ZT} {o : Nat} (hL : LY n κ) (hk_o : κ o = (7, 0)) (hn_o : o < n) (hN : ([o + 2, o + 3] : List Nat).Nodup) (hM : ([] : List Nat).Nodup) (hC : gC l b0 D K RX7 cX7_hardnessOf (some FieldType.int) 4 1 22 0 0) {xoz2 : Nat → Int32} {xoz3 : Nat → Int32} {r : Int32} (hret : ∀ pc loc, narrow .int (.int r) = .int r → decode cX7_hardnessOf pc = .ok (.ireturn, 1) → gV l b0 D K (n, κ, ov X0 [o + 2, o + 3] [xoz2, xoz3], ov Y0 [] [], Z, 0, 0) pc loc [.int r]) : ∀ (j : Nat) (v1 : Int32) (v2 : Int32) (v3 : Int32), lq3 (fX7_hardnessOf_9b xoz2 xoz3 ) j v1 v2 v3 = some r → gV l b0 D K (n, κ, ov X0 [o + 2, o + 3] [xoz2, xoz3], ov Y0 [] [], Z, 0, 0) 9 [(0, .ref (b0 + o)), (1, .int v1), (2, .int v2), (3, .int v3)] [] := by
  intro j
  induction j with
  | zero => intro v1 v2 v3 hf; cases hf
  | succ j hk9 =>
    intro v1 v2 v3 hf
    replace hf : fX7_hardnessOf_9b xoz2 xoz3  (lq3 (fX7_hardnessOf_9b xoz2 xoz3 ) j) v1 v2 v3 = some r := hf
    unfold fX7_hardnessOf_9b at hf
    refine g_iload_n hC 3 dX7_hardnessOf_9 rfl rfl ?_
    refine g_bipush hC (v := 6) dX7_hardnessOf_10 bp_6 ?_
    refine g_icmp_ge hC 30 dX7_hardnessOf_12 (by decide) (fun hc => ?_) (fun hc => ?_)
    · replace hf := ifT hf hc
      refine g_iload_n hC 2 dX7_hardnessOf_30 rfl rfl ?_
      obtain rfl := sm1E hf
      exact hret _ _ rfl dX7_hardnessOf_31
    · replace hf := ifF hf hc
      refine g_iload_n hC 2 dX7_hardnessOf_15 rfl rfl ?_
      refine g_aload_n hC 0 dX7_hardnessOf_16 rfl rfl ?_
      refine g_iload_n hC 1 dX7_hardnessOf_17 rfl rfl ?_
      refine g_iload_n hC 3 dX7_hardnessOf_18 rfl rfl ?_
      obtain ⟨r_1, q_2, hf⟩ := bd1E hf
      refine g_callV_i (a := o) hC (X' := ov X0 [o + 2, o + 3] [xoz2, xoz3]) (Y' := ov Y0 [] []) (As := [.int v1, .int v3]) (gMi_eq (c_X7_hardOf l hL hk_o hn_o (nd_sub hN [1] (by decide) (by rfl)) (nd_sub hM [] (by decide) (by rfl)) (ov_map hN [1] (by rfl) (by rfl)) (ov_map hM [] (by rfl) (by rfl)) q_2) (ov_ovE hN (by rfl) [1] [0] (by rfl) (by rfl) [xoz2] (by rfl) (by rfl) (by rfl) 2 (by rfl) (by decide)) (ov_ovE hM (by rfl) [] [] (by rfl) (by rfl) [] (by rfl) (by rfl) (by rfl) 0 (by rfl) (by decide))) tw_845 tw_883 tw_120 tw_843 tw_844 (ci := 7) rfl (by decide) hk_o hn_o pd_X7_hardOf (by decide) (by decide) rfl rfl (Nat.le_of_ble_eq_true rfl) rfl dX7_hardnessOf_19 ?_
      refine g_iadd hC dX7_hardnessOf_22 ?_
      obtain ⟨t_3, et_3, hf⟩ := bnE hf
      refine g_topi et_3 ?_
      refine g_istore_n hC (i := 2) [(2, .int t_3), (0, .ref (b0 + o)), (1, .int v1), (3, .int v3)] rfl dX7_hardnessOf_23 (by decide) rfl ?_
      obtain ⟨t_4, et_4, hf⟩ := bnE hf
      refine g_iinc hC (i := 3) (v := t_4) [(3, .int t_4), (2, .int t_3), (0, .ref (b0 + o)), (1, .int v1)] dX7_hardnessOf_24 (q := 3) rfl ((congrArg (HAdd.hAdd v3) ic_1).trans et_4.symm) (by decide) rfl ?_
      refine g_goto hC 9 dX7_hardnessOf_27 (by decide) ?_
      exact g_sub [2, 3, 1, 0] rfl (hk9 v1 t_3 t_4 hf)

def fX7_hardnessOf_0   (xoz2 : Nat → Int32) (xoz3 : Nat → Int32)  (v1 : Int32) : Option (Int32) := gd (inb v1 6) (bn (xoz2 v1.toNatClampNeg) fun t_2 => (fX7_hardnessOf_9 xoz2 xoz3  v1 t_2 0))
set_option maxHeartbeats 4000000 in
set_option maxRecDepth 100000 in
theorem wX7_hardnessOf_0 {l : Launch} {b0 : Nat} {D : GD} {K : KT} {n : Nat} {κ : QT} {X0 : XT} {Y0 : YT} {Z : ZT} {o : Nat} (hL : LY n κ) (hk_o : κ o = (7, 0)) (hn_o : o < n) (hN : ([o + 2, o + 3] : List Nat).Nodup) (hM : ([] : List Nat).Nodup) (hC : gC l b0 D K RX7 cX7_hardnessOf (some FieldType.int) 4 1 22 0 0) {xoz2 : Nat → Int32} {xoz3 : Nat → Int32} {r : Int32} (hret : ∀ pc loc, narrow .int (.int r) = .int r → decode cX7_hardnessOf pc = .ok (.ireturn, 1) → gV l b0 D K (n, κ, ov X0 [o + 2, o + 3] [xoz2, xoz3], ov Y0 [] [], Z, 0, 0) pc loc [.int r]) {v1 : Int32} (hf : fX7_hardnessOf_0 xoz2 xoz3  v1 = some r) : gV l b0 D K (n, κ, ov X0 [o + 2, o + 3] [xoz2, xoz3], ov Y0 [] [], Z, 0, 0) 0 [(0, .ref (b0 + o)), (1, .int v1)] [] := by
  unfold fX7_hardnessOf_0 at hf
  refine g_aload_n hC 0 dX7_hardnessOf_0 rfl rfl ?_
  refine gt_X7_15 hC (a := o) hk_o hn_o dX7_hardnessOf_1 ?_
  refine g_ref (b := (o + 2)) rfl ?_
  refine g_iload_n hC 1 dX7_hardnessOf_4 rfl rfl ?_
  obtain ⟨h_1, hf⟩ := gdE hf
  refine g_iald hC (x := xoz2) (LS2 hL hk_o hn_o) (LSn2 hL hk_o hn_o) (ov_get hN 0 rfl rfl) (inb_in h_1) dX7_hardnessOf_5 ?_
  obtain ⟨t_2, et_2, hf⟩ := bnE hf
  refine g_topi et_2 ?_
  refine g_istore_n hC (i := 2) [(2, .int t_2), (0, .ref (b0 + o)), (1, .int v1)] rfl dX7_hardnessOf_6 (by decide) rfl ?_
  refine g_iconst hC (v := 0) dX7_hardnessOf_7 ic_0 ?_
  refine g_istore_n hC (i := 3) [(3, .int 0), (2, .int t_2), (0, .ref (b0 + o)), (1, .int v1)] rfl dX7_hardnessOf_8 (by decide) rfl ?_
  exact g_sub [2, 3, 1, 0] rfl (wX7_hardnessOf_9 hL hk_o hn_o hN hM hC  hret  5000 v1 t_2 0 hf)

def fX7_hardnessOf   (xoz2 : Nat → Int32) (xoz3 : Nat → Int32)  (v1 : Int32)   : Option (Int32) := fX7_hardnessOf_0 xoz2 xoz3 v1

set_option maxHeartbeats 4000000 in
set_option maxRecDepth 100000 in
theorem c_X7_hardnessOf (l : Launch) {b0 : Nat} {D : GD} {n : Nat} {κ : QT} {X0 : XT} {Y0 : YT} {Z : ZT} {o : Nat} (hL : LY n κ) (hk_o : κ o = (7, 0)) (hn_o : o < n) (hN : ([o + 2, o + 3] : List Nat).Nodup) (hM : ([] : List Nat).Nodup) {xoz2 : Nat → Int32} {xoz3 : Nat → Int32} (hx : ([o + 2, o + 3] : List Nat).map X0 = [xoz2, xoz3]) (hy : ([] : List Nat).map Y0 = []) {v1 : Int32} {r : Int32} (hf : fX7_hardnessOf xoz2 xoz3 v1 = some r) : gMi l yX7_hardnessOf cX7_hardnessOf 4 (some FieldType.int) 1 22 0 0 b0 D [.ref (b0 + o), .int v1] (n, κ, X0, Y0, Z) (n, κ, ov X0 [o + 2, o + 3] [xoz2, xoz3], ov Y0 [] [], Z) r := by
  refine g_meti (own := RX7) (by decide) rfl rfl (Nat.le_of_ble_eq_true rfl) ?_
  intro K hC hret
  have e := wX7_hardnessOf_0 hL hk_o hn_o hN hM hC  hret hf
  rw [ov_id' hx, ov_id' hy] at e
  exact g_sub [0, 1] rfl e

-- X7_loosen
def fX7_loosen_9b     (k9 : Int32 → Int32 → (Nat → Int32) → (Nat → Int32) → Option ((Nat → Int32) × (Nat → Int32))) (v1 : Int32) (v2 : Int32) (xoz2 : (Nat → Int32)) (xoz3 : (Nat → Int32)) : Option ((Nat → Int32) × (Nat → Int32)) := if 6 ≤ v2 then (some (xoz2, xoz3)) else (bd1 (fX7_setHard v1 v2 0 xoz3) fun xoz3_1 => (bn (v2 + 1) fun t_3 => (k9 v1 t_3 xoz2 xoz3_1)))
def fX7_loosen_9     : Int32 → Int32 → (Nat → Int32) → (Nat → Int32) → Option ((Nat → Int32) × (Nat → Int32)) := lq4 (fX7_loosen_9b  ) 5000
set_option maxHeartbeats 4000000 in
set_option maxRecDepth 100000 in
theorem wX7_loosen_9 {l : Launch} {b0 : Nat} {D : GD} {K : KT} {n : Nat} {κ : QT} {X0 : XT} {Y0 : YT} {Z : ZT} {o : Nat} (hL : LY n κ) (hk_o : κ o = (7, 0)) (hn_o : o < n) (hN : ([o + 2, o + 3] : List Nat).Nodup) (hM : ([] : List Nat).Nodup) (hC : gC l b0 D K RX7 cX7_loosen none 3 1 23 0 0) {rxoz2 : (Nat → Int32)} {rxoz3 : (Nat → Int32)} (hret : ∀ pc loc, decode cX7_loosen pc = .ok (.return_, 1) → gV l b0 D K (n, κ, ov X0 [o + 2, o + 3] [rxoz2, rxoz3], ov Y0 [] [], Z, 0, 0) pc loc []) : ∀ (j : Nat) (v1 : Int32) (v2 : Int32) (xoz2 : (Nat → Int32)) (xoz3 : (Nat → Int32)), lq4 (fX7_loosen_9b  ) j v1 v2 xoz2 xoz3 = some (rxoz2, rxoz3) → gV l b0 D K (n, κ, ov X0 [o + 2, o + 3] [xoz2, xoz3], ov Y0 [] [], Z, 0, 0) 9 [(0, .ref (b0 + o)), (1, .int v1), (2, .int v2)] [] := by
  intro j
  induction j with
  | zero => intro v1 v2 xoz2 xoz3 hf; cases hf
  | succ j hk9 =>
    intro v1 v2 xoz2 xoz3 hf
    replace hf : fX7_loosen_9b   (lq4 (fX7_loosen_9b  ) j) v1 v2 xoz2 xoz3 = some (rxoz2, rxoz3) := hf
    unfold fX7_loosen_9b at hf
    refine g_iload_n hC 2 dX7_loosen_9 rfl rfl ?_
    refine g_bipush hC (v := 6) dX7_loosen_10 bp_6 ?_
    refine g_icmp_ge hC 28 dX7_loosen_12 (by decide) (fun hc => ?_) (fun hc => ?_)
    · replace hf := ifT hf hc
      obtain ⟨rfl, rfl⟩ := sm2E hf
      exact hret _ _ dX7_loosen_28
    · replace hf := ifF hf hc
      refine g_aload_n hC 0 dX7_loosen_15 rfl rfl ?_
      refine g_iload_n hC 1 dX7_loosen_16 rfl rfl ?_
      refine g_iload_n hC 2 dX7_loosen_17 rfl rfl ?_
      refine g_iconst hC (v := 0) dX7_loosen_18 ic_0 ?_
      obtain ⟨xoz3_1, q_2, hf⟩ := bd1E hf
      refine g_callV_v (a := o) hC (X' := ov X0 [o + 2, o + 3] [xoz2, xoz3_1]) (Y' := ov Y0 [] []) (As := [.int v1, .int v2, .int 0]) (gMv_eq (c_X7_setHard l hL hk_o hn_o (nd_sub hN [1] (by decide) (by rfl)) (nd_sub hM [] (by decide) (by rfl)) (ov_map hN [1] (by rfl) (by rfl)) (ov_map hM [] (by rfl) (by rfl)) q_2) (ov_ovE hN (by rfl) [1] [0] (by rfl) (by rfl) [xoz2] (by rfl) (by rfl) (by rfl) 2 (by rfl) (by decide)) (ov_ovE hM (by rfl) [] [] (by rfl) (by rfl) [] (by rfl) (by rfl) (by rfl) 0 (by rfl) (by decide))) tw_682 tw_905 tw_120 tw_680 tw_681 (ci := 7) rfl (by decide) hk_o hn_o pd_X7_setHard (by decide) (by decide) rfl rfl (Nat.le_of_ble_eq_true rfl) rfl dX7_loosen_19 ?_
      obtain ⟨t_3, et_3, hf⟩ := bnE hf
      refine g_iinc hC (i := 2) (v := t_3) [(2, .int t_3), (0, .ref (b0 + o)), (1, .int v1)] dX7_loosen_22 (q := 2) rfl ((congrArg (HAdd.hAdd v2) ic_1).trans et_3.symm) (by decide) rfl ?_
      refine g_goto hC 9 dX7_loosen_25 (by decide) ?_
      exact g_sub [1, 2, 0] rfl (hk9 v1 t_3 xoz2 xoz3_1 hf)

def fX7_loosen_0     (v1 : Int32) (xoz2 : (Nat → Int32)) (xoz3 : (Nat → Int32)) : Option ((Nat → Int32) × (Nat → Int32)) := gd (inb v1 6) (fX7_loosen_9   v1 0 (upd xoz2 v1.toNatClampNeg 0) xoz3)
set_option maxHeartbeats 4000000 in
set_option maxRecDepth 100000 in
theorem wX7_loosen_0 {l : Launch} {b0 : Nat} {D : GD} {K : KT} {n : Nat} {κ : QT} {X0 : XT} {Y0 : YT} {Z : ZT} {o : Nat} (hL : LY n κ) (hk_o : κ o = (7, 0)) (hn_o : o < n) (hN : ([o + 2, o + 3] : List Nat).Nodup) (hM : ([] : List Nat).Nodup) (hC : gC l b0 D K RX7 cX7_loosen none 3 1 23 0 0) {rxoz2 : (Nat → Int32)} {rxoz3 : (Nat → Int32)} (hret : ∀ pc loc, decode cX7_loosen pc = .ok (.return_, 1) → gV l b0 D K (n, κ, ov X0 [o + 2, o + 3] [rxoz2, rxoz3], ov Y0 [] [], Z, 0, 0) pc loc []) {v1 : Int32} {xoz2 : (Nat → Int32)} {xoz3 : (Nat → Int32)} (hf : fX7_loosen_0   v1 xoz2 xoz3 = some (rxoz2, rxoz3)) : gV l b0 D K (n, κ, ov X0 [o + 2, o + 3] [xoz2, xoz3], ov Y0 [] [], Z, 0, 0) 0 [(0, .ref (b0 + o)), (1, .int v1)] [] := by
  unfold fX7_loosen_0 at hf
  refine g_aload_n hC 0 dX7_loosen_0 rfl rfl ?_
  refine gt_X7_15 hC (a := o) hk_o hn_o dX7_loosen_1 ?_
  refine g_ref (b := (o + 2)) rfl ?_
  refine g_iload_n hC 1 dX7_loosen_4 rfl rfl ?_
  refine g_iconst hC (v := 0) dX7_loosen_5 ic_0 ?_
  obtain ⟨h_1, hf⟩ := gdE hf
  refine g_iast hC (x := xoz2) (LS2 hL hk_o hn_o) (LSn2 hL hk_o hn_o) (ov_get hN 0 rfl rfl) (inb_in h_1) (ov_set hN (by rfl) 0 (by rfl)) dX7_loosen_6 ?_
  show gV l b0 D K (n, κ, ov X0 [o + 2, o + 3] [(upd xoz2 v1.toNatClampNeg 0), xoz3], ov Y0 [] [], Z, 0, 0) 7 [(0, .ref (b0 + o)), (1, .int v1)] []
  refine g_iconst hC (v := 0) dX7_loosen_7 ic_0 ?_
  refine g_istore_n hC (i := 2) [(2, .int 0), (0, .ref (b0 + o)), (1, .int v1)] rfl dX7_loosen_8 (by decide) rfl ?_
  exact g_sub [1, 2, 0] rfl (wX7_loosen_9 hL hk_o hn_o hN hM hC  hret  5000 v1 0 (upd xoz2 v1.toNatClampNeg 0) xoz3 hf)

def fX7_loosen     (v1 : Int32) (xoz2 : Nat → Int32) (xoz3 : Nat → Int32)  : Option ((Nat → Int32) × (Nat → Int32)) := fX7_loosen_0  v1 xoz2 xoz3

set_option maxHeartbeats 4000000 in
set_option maxRecDepth 100000 in
theorem c_X7_loosen (l : Launch) {b0 : Nat} {D : GD} {n : Nat} {κ : QT} {X0 : XT} {Y0 : YT} {Z : ZT} {o : Nat} (hL : LY n κ) (hk_o : κ o = (7, 0)) (hn_o : o < n) (hN : ([o + 2, o + 3] : List Nat).Nodup) (hM : ([] : List Nat).Nodup) {xoz2 : Nat → Int32} {xoz3 : Nat → Int32} (hx : ([o + 2, o + 3] : List Nat).map X0 = [xoz2, xoz3]) (hy : ([] : List Nat).map Y0 = []) {v1 : Int32} {rxoz2 : (Nat → Int32)} {rxoz3 : (Nat → Int32)} (hf : fX7_loosen  v1 xoz2 xoz3 = some (rxoz2, rxoz3)) : gMv l yX7_loosen cX7_loosen 3 none 1 23 0 0 b0 D [.ref (b0 + o), .int v1] (n, κ, X0, Y0, Z) (n, κ, ov X0 [o + 2, o + 3] [rxoz2, rxoz3], ov Y0 [] [], Z) := by
  refine g_metv (own := RX7) (by decide) rfl rfl (Nat.le_of_ble_eq_true rfl) ?_
  intro K hC hret
  have e := wX7_loosen_0 hL hk_o hn_o hN hM hC  hret hf
  rw [ov_id' hx, ov_id' hy] at e
  exact g_sub [0, 1] rfl e


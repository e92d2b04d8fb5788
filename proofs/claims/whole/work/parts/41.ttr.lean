-- X11_ahead
def fX11_aheadN_40   (x0 : Nat → Int32) (x16 : Nat → Int32) (x17 : Nat → Int32) (x18 : Nat → Int32) (x23 : Nat → Int32) (x24 : Nat → Int32) (x25 : Nat → Int32) (x26 : Nat → Int32)  (v1 : Int32) (v2 : Int32) (v3 : Int32) (x33 : (Nat → Int32)) (x35 : (Nat → Int32)) (x36 : (Nat → Int32)) (x37 : (Nat → Int32)) (x38 : (Nat → Int32)) : Option (Int32 × (Nat → Int32) × (Nat → Int32) × (Nat → Int32) × (Nat → Int32) × (Nat → Int32)) := bd4 (fX7_copy x23 x24 x25 x26 x35 x36 x37 x38) fun x35_1 x36_2 x37_3 x38_4 => (bd5 (fX1_passAllN x17 x18 v2 x35_1 x36_2 x37_3 x38_4 x33) fun x35_6 x36_7 x37_8 x38_9 x33_10 => (if v3 = 0 then (gd (inb v1 6) (some (x36_7 v1.toNatClampNeg, x33_10, x35_6, x36_7, x37_8, x38_9))) else (if v3 = 1 then (bd1 (fX9_riverBits x36_7 x17) fun r_12 => (bd1 (fJ6_bitCount_0f7a4 r_12) fun r_14 => (some (r_14, x33_10, x35_6, x36_7, x37_8, x38_9)))) else (some (x35_6 1, x33_10, x35_6, x36_7, x37_8, x38_9)))))
set_option maxHeartbeats 4000000 in
set_option maxRecDepth 100000 in
theorem wX11_aheadN_40 {l : Launch} {b0 : Nat} {D : GD} {K : KT} {n : Nat} {κ : QT} {X0 : XT} {Y0 : YT} {Z : ZT} (hL : LY n κ) (hN : ([0, 16, 17, 18, 23, 24, 25, 26, 33, 35, 36, 37, 38] : List Nat).Nodup) (hM : ([] : List Nat).Nodup) (hC : gC l b0 D K RX11 cX11_ahead (some FieldType.int) 4 6 162 0 0) {x0 : Nat → Int32} {x16 : Nat → Int32} {x17 : Nat → Int32} {x18 : Nat → Int32} {x23 : Nat → Int32} {x24 : Nat → Int32} {x25 : Nat → Int32} {x26 : Nat → Int32} (hri : fX11_isWithin (x16 8) 0 (x0 4 - 1) = some 0) {r : Int32} {rx33 : (Nat → Int32)} {rx35 : (Nat → Int32)} {rx36 : (Nat → Int32)} {rx37 : (Nat → Int32)} {rx38 : (Nat → Int32)} (hret : ∀ pc loc, narrow .int (.int r) = .int r → decode cX11_ahead pc = .ok (.ireturn, 1) → gV l b0 D K (n, κ, ov X0 [0, 16, 17, 18, 23, 24, 25, 26, 33, 35, 36, 37, 38] [x0, x16, x17, x18, x23, x24, x25, x26, rx33, rx35, rx36, rx37, rx38], ov Y0 [] [], Z, 0, 0) pc loc [.int r]) {v1 : Int32} {v2 : Int32} {v3 : Int32} {x33 : (Nat → Int32)} {x35 : (Nat → Int32)} {x36 : (Nat → Int32)} {x37 : (Nat → Int32)} {x38 : (Nat → Int32)} (hf : fX11_aheadN_40 x0 x16 x17 x18 x23 x24 x25 x26  v1 v2 v3 x33 x35 x36 x37 x38 = some (r, rx33, rx35, rx36, rx37, rx38)) : gV l b0 D K (n, κ, ov X0 [0, 16, 17, 18, 23, 24, 25, 26, 33, 35, 36, 37, 38] [x0, x16, x17, x18, x23, x24, x25, x26, x33, x35, x36, x37, x38], ov Y0 [] [], Z, 0, 0) 40 [(0, .ref (b0 + 0)), (1, .int v1), (2, .int v2), (3, .int v3)] [] := by
  unfold fX11_aheadN_40 at hf
  refine g_aload_n hC 0 dX11_ahead_40 rfl rfl ?_
  refine gt_X11_65 hC (a := 0) (kk_0 hL) (kn_0 hL) dX11_ahead_41 ?_
  refine g_ref (b := 35) rfl ?_
  refine g_aload_n hC 0 dX11_ahead_44 rfl rfl ?_
  refine gt_X11_41 hC (a := 0) (kk_0 hL) (kn_0 hL) dX11_ahead_45 ?_
  refine g_ref (b := 16) rfl ?_
  refine gt_X11_140 hC (a := 16) (kk_16 hL) (kn_16 hL) dX11_ahead_48 ?_
  refine g_ref (b := 23) rfl ?_
  obtain ⟨x35_1, x36_2, x37_3, x38_4, q_5, hf⟩ := bd4E hf
  refine g_callV_v (a := 35) hC (X' := ov X0 [0, 16, 17, 18, 23, 24, 25, 26, 33, 35, 36, 37, 38] [x0, x16, x17, x18, x23, x24, x25, x26, x33, x35_1, x36_2, x37_3, x38_4]) (Y' := ov Y0 [] []) (As := [.ref (b0 + 23)]) (gMv_eq (c_X7_copy l hL (kk_35 hL) (kn_35 hL) (kk_23 hL) (kn_23 hL) (nd_sub hN [9, 10, 11, 12, 4, 5, 6, 7] (by decide) (by rfl)) (nd_sub hM [] (by decide) (by rfl)) (ov_map hN [9, 10, 11, 12, 4, 5, 6, 7] (by rfl) (by rfl)) (ov_map hM [] (by rfl) (by rfl)) q_5) (ov_ovE hN (by rfl) [9, 10, 11, 12, 4, 5, 6, 7] [0, 1, 2, 3, 8] (by rfl) (by rfl) [x0, x16, x17, x18, x33] (by rfl) (by rfl) (by rfl) 13 (by rfl) (by decide)) (ov_ovE hM (by rfl) [] [] (by rfl) (by rfl) [] (by rfl) (by rfl) (by rfl) 0 (by rfl) (by decide))) tw_707 tw_976 tw_120 tw_705 tw_706 (ci := 7) rfl (by decide) (kk_35 hL) (kn_35 hL) pd_X7_copy (by decide) (by decide) rfl rfl (Nat.le_of_ble_eq_true rfl) rfl dX11_ahead_51 ?_
  refine g_aload_n hC 0 dX11_ahead_54 rfl rfl ?_
  refine gt_X11_58 hC (a := 0) (kk_0 hL) (kn_0 hL) dX11_ahead_55 ?_
  refine g_ref (b := 32) rfl ?_
  refine g_aload_n hC 0 dX11_ahead_58 rfl rfl ?_
  refine gt_X11_65 hC (a := 0) (kk_0 hL) (kn_0 hL) dX11_ahead_59 ?_
  refine g_ref (b := 35) rfl ?_
  refine g_aload_n hC 0 dX11_ahead_62 rfl rfl ?_
  refine g_callV_q (a := 0) hC (As := []) (c_rifN l hL (ov_get hN 0 rfl rfl) (ov_get hN 1 rfl rfl) hri) tw_869 tw_866 tw_116 tw_868 tw_28 (ci := 11) rfl (by decide) (kk_0 hL) (kn_0 hL) pd_X11_ruleInForce (by decide) (by decide) rfl rfl (Nat.le_of_ble_eq_true rfl) rfl dX11_ahead_63 ?_
  refine g_iload_n hC 2 dX11_ahead_66 rfl rfl ?_
  obtain ⟨x35_6, x36_7, x37_8, x38_9, x33_10, q_11, hf⟩ := bd5E hf
  refine g_callV_v (a := 32) hC (X' := ov X0 [0, 16, 17, 18, 23, 24, 25, 26, 33, 35, 36, 37, 38] [x0, x16, x17, x18, x23, x24, x25, x26, x33_10, x35_6, x36_7, x37_8, x38_9]) (Y' := ov Y0 [] []) (As := [.ref (b0 + 35), .null, .int v2]) (gMv_eq (c_X1_passAllN l hL (kk_35 hL) (kn_35 hL) (nd_sub hN [9, 10, 11, 12, 2, 3, 8] (by decide) (by rfl)) (nd_sub hM [] (by decide) (by rfl)) (ov_map hN [9, 10, 11, 12, 2, 3, 8] (by rfl) (by rfl)) (ov_map hM [] (by rfl) (by rfl)) q_11) (ov_ovE hN (by rfl) [9, 10, 11, 12, 2, 3, 8] [0, 1, 4, 5, 6, 7] (by rfl) (by rfl) [x0, x16, x23, x24, x25, x26] (by rfl) (by rfl) (by rfl) 13 (by rfl) (by decide)) (ov_ovE hM (by rfl) [] [] (by rfl) (by rfl) [] (by rfl) (by rfl) (by rfl) 0 (by rfl) (by decide))) tw_980 tw_977 tw_123 tw_978 tw_979 (ci := 1) rfl (by decide) (kk_32 hL) (kn_32 hL) pd_X1_passAll (by decide) (by decide) rfl rfl (Nat.le_of_ble_eq_true rfl) rfl dX11_ahead_67 ?_
  refine g_iload_n hC 3 dX11_ahead_70 rfl rfl ?_
  refine g_if_ne hC 84 dX11_ahead_71 (by decide) (fun hc => ?_) (fun hc => ?_)
  · replace hf := ifF hf hc
    refine g_iload_n hC 3 dX11_ahead_84 rfl rfl ?_
    refine g_iconst hC (v := 1) dX11_ahead_85 ic_1 ?_
    refine g_icmp_ne hC 109 dX11_ahead_86 (by decide) (fun hc => ?_) (fun hc => ?_)
    · replace hf := ifF hf hc
      refine g_aload_n hC 0 dX11_ahead_109 rfl rfl ?_
      refine gt_X11_65 hC (a := 0) (kk_0 hL) (kn_0 hL) dX11_ahead_110 ?_
      refine g_ref (b := 35) rfl ?_
      refine gt_X11_199 hC (x := x35_6) (kk_35 hL) (kn_35 hL) (ov_get hN 9 rfl rfl) dX11_ahead_113 ?_
      obtain ⟨rfl, rfl, rfl, rfl, rfl, rfl⟩ := sm6E hf
      exact hret _ _ rfl dX11_ahead_116
    · replace hf := ifT hf hc
      refine g_aload_n hC 0 dX11_ahead_89 rfl rfl ?_
      refine gt_X11_41 hC (a := 0) (kk_0 hL) (kn_0 hL) dX11_ahead_90 ?_
      refine g_ref (b := 16) rfl ?_
      refine gt_X11_51 hC (a := 16) (kk_16 hL) (kn_16 hL) dX11_ahead_93 ?_
      refine g_ref (b := 17) rfl ?_
      refine g_aload_n hC 0 dX11_ahead_96 rfl rfl ?_
      refine gt_X11_65 hC (a := 0) (kk_0 hL) (kn_0 hL) dX11_ahead_97 ?_
      refine g_ref (b := 35) rfl ?_
      obtain ⟨r_12, q_13, hf⟩ := bd1E hf
      refine g_callV_i (a := 17) hC (X' := ov X0 [0, 16, 17, 18, 23, 24, 25, 26, 33, 35, 36, 37, 38] [x0, x16, x17, x18, x23, x24, x25, x26, x33_10, x35_6, x36_7, x37_8, x38_9]) (Y' := ov Y0 [] []) (As := [.ref (b0 + 35)]) (gMi_eq (c_X9_riverBits l hL (kk_35 hL) (kn_35 hL) (nd_sub hN [10, 2] (by decide) (by rfl)) (nd_sub hM [] (by decide) (by rfl)) (ov_map hN [10, 2] (by rfl) (by rfl)) (ov_map hM [] (by rfl) (by rfl)) q_13) (ov_ovE hN (by rfl) [10, 2] [0, 1, 3, 4, 5, 6, 7, 8, 9, 11, 12] (by rfl) (by rfl) [x0, x16, x18, x23, x24, x25, x26, x33_10, x35_6, x37_8, x38_9] (by rfl) (by rfl) (by rfl) 13 (by rfl) (by decide)) (ov_ovE hM (by rfl) [] [] (by rfl) (by rfl) [] (by rfl) (by rfl) (by rfl) 0 (by rfl) (by decide))) tw_918 tw_983 tw_119 tw_916 tw_917 (ci := 9) rfl (by decide) (kk_17 hL) (kn_17 hL) pd_X9_riverBits (by decide) (by decide) rfl rfl (Nat.le_of_ble_eq_true rfl) rfl dX11_ahead_100 ?_
      obtain ⟨r_14, q_15, hf⟩ := bd1E hf
      refine g_callS_i hC (X' := ov X0 [0, 16, 17, 18, 23, 24, 25, 26, 33, 35, 36, 37, 38] [x0, x16, x17, x18, x23, x24, x25, x26, x33_10, x35_6, x36_7, x37_8, x38_9]) (Y' := ov Y0 [] []) (As := [.int r_12]) (gMi_eq (c_J6_bitCount_0f7a4 l hL (ov_map hN [] (by rfl) (by rfl)) (ov_map hM [] (by rfl) (by rfl)) q_15) (ov_ovE hN (by rfl) [] [0, 1, 2, 3, 4, 5, 6, 7, 8, 9, 10, 11, 12] (by rfl) (by rfl) [x0, x16, x17, x18, x23, x24, x25, x26, x33_10, x35_6, x36_7, x37_8, x38_9] (by rfl) (by rfl) (by rfl) 13 (by rfl) (by decide)) (ov_ovE hM (by rfl) [] [] (by rfl) (by rfl) [] (by rfl) (by rfl) (by rfl) 0 (by rfl) (by decide))) tw_922 tw_984 tw_136 tw_921 pd_J6_bitCount_0f7a4 (by decide) (by decide) rfl rfl (Nat.le_of_ble_eq_true rfl) rfl dX11_ahead_103 ?_
      refine g_goto hC 116 dX11_ahead_106 (by decide) ?_
      obtain ⟨rfl, rfl, rfl, rfl, rfl, rfl⟩ := sm6E hf
      exact hret _ _ rfl dX11_ahead_116
  · replace hf := ifT hf hc
    refine g_aload_n hC 0 dX11_ahead_74 rfl rfl ?_
    refine gt_X11_65 hC (a := 0) (kk_0 hL) (kn_0 hL) dX11_ahead_75 ?_
    refine g_ref (b := 35) rfl ?_
    refine gt_X11_143 hC (a := 35) (kk_35 hL) (kn_35 hL) dX11_ahead_78 ?_
    refine g_ref (b := 36) rfl ?_
    refine g_iload_n hC 1 dX11_ahead_81 rfl rfl ?_
    obtain ⟨h_16, hf⟩ := gdE hf
    refine g_iald hC (x := x36_7) (kk_36 hL) (kn_36 hL) (ov_get hN 10 rfl rfl) (inb_in h_16) dX11_ahead_82 ?_
    obtain ⟨rfl, rfl, rfl, rfl, rfl, rfl⟩ := sm6E hf
    exact hret _ _ rfl dX11_ahead_83

def fX11_aheadN_0   (x0 : Nat → Int32) (x16 : Nat → Int32) (x17 : Nat → Int32) (x18 : Nat → Int32) (x23 : Nat → Int32) (x24 : Nat → Int32) (x25 : Nat → Int32) (x26 : Nat → Int32)  (v1 : Int32) (v2 : Int32) (v3 : Int32) (x33 : (Nat → Int32)) (x35 : (Nat → Int32)) (x36 : (Nat → Int32)) (x37 : (Nat → Int32)) (x38 : (Nat → Int32)) : Option (Int32 × (Nat → Int32) × (Nat → Int32) × (Nat → Int32) × (Nat → Int32) × (Nat → Int32)) := bd1 (fX11_isTold x17) fun r_1 => (if r_1 = 0 then (some ((-1), x33, x35, x36, x37, x38)) else (bd1 (fX11_isWithin v2 0 100) fun r_3 => (if r_3 = 0 then (some ((-1), x33, x35, x36, x37, x38)) else (bd1 (fX11_isWithin v3 0 2) fun r_5 => (if r_5 = 0 then (some ((-1), x33, x35, x36, x37, x38)) else (if v3 = 0 then (bd1 (fX11_isHouse x17 v1) fun r_7 => (if r_7 = 0 then (some ((-1), x33, x35, x36, x37, x38)) else (fX11_aheadN_40 x0 x16 x17 x18 x23 x24 x25 x26  v1 v2 v3 x33 x35 x36 x37 x38))) else (fX11_aheadN_40 x0 x16 x17 x18 x23 x24 x25 x26  v1 v2 v3 x33 x35 x36 x37 x38)))))))
set_option maxHeartbeats 4000000 in
set_option maxRecDepth 100000 in
theorem wX11_aheadN_0 {l : Launch} {b0 : Nat} {D : GD} {K : KT} {n : Nat} {κ : QT} {X0 : XT} {Y0 : YT} {Z : ZT} (hL : LY n κ) (hN : ([0, 16, 17, 18, 23, 24, 25, 26, 33, 35, 36, 37, 38] : List Nat).Nodup) (hM : ([] : List Nat).Nodup) (hC : gC l b0 D K RX11 cX11_ahead (some FieldType.int) 4 6 162 0 0) {x0 : Nat → Int32} {x16 : Nat → Int32} {x17 : Nat → Int32} {x18 : Nat → Int32} {x23 : Nat → Int32} {x24 : Nat → Int32} {x25 : Nat → Int32} {x26 : Nat → Int32} (hri : fX11_isWithin (x16 8) 0 (x0 4 - 1) = some 0) {r : Int32} {rx33 : (Nat → Int32)} {rx35 : (Nat → Int32)} {rx36 : (Nat → Int32)} {rx37 : (Nat → Int32)} {rx38 : (Nat → Int32)} (hret : ∀ pc loc, narrow .int (.int r) = .int r → decode cX11_ahead pc = .ok (.ireturn, 1) → gV l b0 D K (n, κ, ov X0 [0, 16, 17, 18, 23, 24, 25, 26, 33, 35, 36, 37, 38] [x0, x16, x17, x18, x23, x24, x25, x26, rx33, rx35, rx36, rx37, rx38], ov Y0 [] [], Z, 0, 0) pc loc [.int r]) {v1 : Int32} {v2 : Int32} {v3 : Int32} {x33 : (Nat → Int32)} {x35 : (Nat → Int32)} {x36 : (Nat → Int32)} {x37 : (Nat → Int32)} {x38 : (Nat → Int32)} (hf : fX11_aheadN_0 x0 x16 x17 x18 x23 x24 x25 x26  v1 v2 v3 x33 x35 x36 x37 x38 = some (r, rx33, rx35, rx36, rx37, rx38)) : gV l b0 D K (n, κ, ov X0 [0, 16, 17, 18, 23, 24, 25, 26, 33, 35, 36, 37, 38] [x0, x16, x17, x18, x23, x24, x25, x26, x33, x35, x36, x37, x38], ov Y0 [] [], Z, 0, 0) 0 [(0, .ref (b0 + 0)), (1, .int v1), (2, .int v2), (3, .int v3)] [] := by
  unfold fX11_aheadN_0 at hf
  refine g_aload_n hC 0 dX11_ahead_0 rfl rfl ?_
  obtain ⟨r_1, q_2, hf⟩ := bd1E hf
  refine g_callV_i (a := 0) hC (X' := ov X0 [0, 16, 17, 18, 23, 24, 25, 26, 33, 35, 36, 37, 38] [x0, x16, x17, x18, x23, x24, x25, x26, x33, x35, x36, x37, x38]) (Y' := ov Y0 [] []) (As := []) (gMi_eq (c_X11_isTold l hL (ov_map hN [2] (by rfl) (by rfl)) (ov_map hM [] (by rfl) (by rfl)) q_2) (ov_ovE hN (by rfl) [2] [0, 1, 3, 4, 5, 6, 7, 8, 9, 10, 11, 12] (by rfl) (by rfl) [x0, x16, x18, x23, x24, x25, x26, x33, x35, x36, x37, x38] (by rfl) (by rfl) (by rfl) 13 (by rfl) (by decide)) (ov_ovE hM (by rfl) [] [] (by rfl) (by rfl) [] (by rfl) (by rfl) (by rfl) 0 (by rfl) (by decide))) tw_853 tw_850 tw_116 tw_852 tw_25 (ci := 11) rfl (by decide) (kk_0 hL) (kn_0 hL) pd_X11_isTold (by decide) (by decide) rfl rfl (Nat.le_of_ble_eq_true rfl) rfl dX11_ahead_1 ?_
  refine g_if_eq hC 38 dX11_ahead_4 (by decide) (fun hc => ?_) (fun hc => ?_)
  · replace hf := ifT hf hc
    refine g_iconst hC (v := (-1)) dX11_ahead_38 ic_m1 ?_
    obtain ⟨rfl, rfl, rfl, rfl, rfl, rfl⟩ := sm6E hf
    exact hret _ _ rfl dX11_ahead_39
  · replace hf := ifF hf hc
    refine g_iload_n hC 2 dX11_ahead_7 rfl rfl ?_
    refine g_iconst hC (v := 0) dX11_ahead_8 ic_0 ?_
    refine g_bipush hC (v := 100) dX11_ahead_9 bp_100 ?_
    obtain ⟨r_3, q_4, hf⟩ := bd1E hf
    refine g_callS_i hC (X' := ov X0 [0, 16, 17, 18, 23, 24, 25, 26, 33, 35, 36, 37, 38] [x0, x16, x17, x18, x23, x24, x25, x26, x33, x35, x36, x37, x38]) (Y' := ov Y0 [] []) (As := [.int v2, .int 0, .int 100]) (gMi_eq (c_X11_isWithin l hL (ov_map hN [] (by rfl) (by rfl)) (ov_map hM [] (by rfl) (by rfl)) q_4) (ov_ovE hN (by rfl) [] [0, 1, 2, 3, 4, 5, 6, 7, 8, 9, 10, 11, 12] (by rfl) (by rfl) [x0, x16, x17, x18, x23, x24, x25, x26, x33, x35, x36, x37, x38] (by rfl) (by rfl) (by rfl) 13 (by rfl) (by decide)) (ov_ovE hM (by rfl) [] [] (by rfl) (by rfl) [] (by rfl) (by rfl) (by rfl) 0 (by rfl) (by decide))) tw_666 tw_870 tw_116 tw_665 pd_X11_isWithin (by decide) (by decide) rfl rfl (Nat.le_of_ble_eq_true rfl) rfl dX11_ahead_11 ?_
    refine g_if_eq hC 38 dX11_ahead_14 (by decide) (fun hc => ?_) (fun hc => ?_)
    · replace hf := ifT hf hc
      refine g_iconst hC (v := (-1)) dX11_ahead_38 ic_m1 ?_
      obtain ⟨rfl, rfl, rfl, rfl, rfl, rfl⟩ := sm6E hf
      exact hret _ _ rfl dX11_ahead_39
    · replace hf := ifF hf hc
      refine g_iload_n hC 3 dX11_ahead_17 rfl rfl ?_
      refine g_iconst hC (v := 0) dX11_ahead_18 ic_0 ?_
      refine g_iconst hC (v := 2) dX11_ahead_19 ic_2 ?_
      obtain ⟨r_5, q_6, hf⟩ := bd1E hf
      refine g_callS_i hC (X' := ov X0 [0, 16, 17, 18, 23, 24, 25, 26, 33, 35, 36, 37, 38] [x0, x16, x17, x18, x23, x24, x25, x26, x33, x35, x36, x37, x38]) (Y' := ov Y0 [] []) (As := [.int v3, .int 0, .int 2]) (gMi_eq (c_X11_isWithin l hL (ov_map hN [] (by rfl) (by rfl)) (ov_map hM [] (by rfl) (by rfl)) q_6) (ov_ovE hN (by rfl) [] [0, 1, 2, 3, 4, 5, 6, 7, 8, 9, 10, 11, 12] (by rfl) (by rfl) [x0, x16, x17, x18, x23, x24, x25, x26, x33, x35, x36, x37, x38] (by rfl) (by rfl) (by rfl) 13 (by rfl) (by decide)) (ov_ovE hM (by rfl) [] [] (by rfl) (by rfl) [] (by rfl) (by rfl) (by rfl) 0 (by rfl) (by decide))) tw_666 tw_870 tw_116 tw_665 pd_X11_isWithin (by decide) (by decide) rfl rfl (Nat.le_of_ble_eq_true rfl) rfl dX11_ahead_20 ?_
      refine g_if_eq hC 38 dX11_ahead_23 (by decide) (fun hc => ?_) (fun hc => ?_)
      · replace hf := ifT hf hc
        refine g_iconst hC (v := (-1)) dX11_ahead_38 ic_m1 ?_
        obtain ⟨rfl, rfl, rfl, rfl, rfl, rfl⟩ := sm6E hf
        exact hret _ _ rfl dX11_ahead_39
      · replace hf := ifF hf hc
        refine g_iload_n hC 3 dX11_ahead_26 rfl rfl ?_
        refine g_if_ne hC 40 dX11_ahead_27 (by decide) (fun hc => ?_) (fun hc => ?_)
        · replace hf := ifF hf hc
          exact g_sub [0, 1, 2, 3] rfl (wX11_aheadN_40 hL hN hM hC hri hret  hf)
        · replace hf := ifT hf hc
          refine g_aload_n hC 0 dX11_ahead_30 rfl rfl ?_
          refine g_iload_n hC 1 dX11_ahead_31 rfl rfl ?_
          obtain ⟨r_7, q_8, hf⟩ := bd1E hf
          refine g_callV_i (a := 0) hC (X' := ov X0 [0, 16, 17, 18, 23, 24, 25, 26, 33, 35, 36, 37, 38] [x0, x16, x17, x18, x23, x24, x25, x26, x33, x35, x36, x37, x38]) (Y' := ov Y0 [] []) (As := [.int v1]) (gMi_eq (c_X11_isHouse l hL (ov_map hN [2] (by rfl) (by rfl)) (ov_map hM [] (by rfl) (by rfl)) q_8) (ov_ovE hN (by rfl) [2] [0, 1, 3, 4, 5, 6, 7, 8, 9, 10, 11, 12] (by rfl) (by rfl) [x0, x16, x18, x23, x24, x25, x26, x33, x35, x36, x37, x38] (by rfl) (by rfl) (by rfl) 13 (by rfl) (by decide)) (ov_ovE hM (by rfl) [] [] (by rfl) (by rfl) [] (by rfl) (by rfl) (by rfl) 0 (by rfl) (by decide))) tw_790 tw_787 tw_116 tw_789 tw_21 (ci := 11) rfl (by decide) (kk_0 hL) (kn_0 hL) pd_X11_isHouse (by decide) (by decide) rfl rfl (Nat.le_of_ble_eq_true rfl) rfl dX11_ahead_32 ?_
          refine g_if_ne hC 40 dX11_ahead_35 (by decide) (fun hc => ?_) (fun hc => ?_)
          · replace hf := ifF hf hc
            exact g_sub [0, 1, 2, 3] rfl (wX11_aheadN_40 hL hN hM hC hri hret  hf)
          · replace hf := ifT hf hc
            refine g_iconst hC (v := (-1)) dX11_ahead_38 ic_m1 ?_
            obtain ⟨rfl, rfl, rfl, rfl, rfl, rfl⟩ := sm6E hf
            exact hret _ _ rfl dX11_ahead_39

def fX11_aheadN   (x0 : Nat → Int32) (x16 : Nat → Int32) (x17 : Nat → Int32) (x18 : Nat → Int32) (x23 : Nat → Int32) (x24 : Nat → Int32) (x25 : Nat → Int32) (x26 : Nat → Int32)  (v1 : Int32) (v2 : Int32) (v3 : Int32) (x33 : Nat → Int32) (x35 : Nat → Int32) (x36 : Nat → Int32) (x37 : Nat → Int32) (x38 : Nat → Int32)  : Option (Int32 × (Nat → Int32) × (Nat → Int32) × (Nat → Int32) × (Nat → Int32) × (Nat → Int32)) := fX11_aheadN_0 x0 x16 x17 x18 x23 x24 x25 x26 v1 v2 v3 x33 x35 x36 x37 x38

set_option maxHeartbeats 4000000 in
set_option maxRecDepth 100000 in
theorem c_X11_aheadN (l : Launch) {b0 : Nat} {D : GD} {n : Nat} {κ : QT} {X0 : XT} {Y0 : YT} {Z : ZT} (hL : LY n κ) {x0 : Nat → Int32} {x16 : Nat → Int32} {x17 : Nat → Int32} {x18 : Nat → Int32} {x23 : Nat → Int32} {x24 : Nat → Int32} {x25 : Nat → Int32} {x26 : Nat → Int32} {x33 : Nat → Int32} {x35 : Nat → Int32} {x36 : Nat → Int32} {x37 : Nat → Int32} {x38 : Nat → Int32} (hri : fX11_isWithin (x16 8) 0 (x0 4 - 1) = some 0) (hx : ([0, 16, 17, 18, 23, 24, 25, 26, 33, 35, 36, 37, 38] : List Nat).map X0 = [x0, x16, x17, x18, x23, x24, x25, x26, x33, x35, x36, x37, x38]) (hy : ([] : List Nat).map Y0 = []) {v1 : Int32} {v2 : Int32} {v3 : Int32} {r : Int32} {rx33 : (Nat → Int32)} {rx35 : (Nat → Int32)} {rx36 : (Nat → Int32)} {rx37 : (Nat → Int32)} {rx38 : (Nat → Int32)} (hf : fX11_aheadN x0 x16 x17 x18 x23 x24 x25 x26 v1 v2 v3 x33 x35 x36 x37 x38 = some (r, rx33, rx35, rx36, rx37, rx38)) : gMi l yX11_ahead cX11_ahead 4 (some FieldType.int) 6 162 0 0 b0 D [.ref (b0 + 0), .int v1, .int v2, .int v3] (n, κ, X0, Y0, Z) (n, κ, ov X0 [0, 16, 17, 18, 23, 24, 25, 26, 33, 35, 36, 37, 38] [x0, x16, x17, x18, x23, x24, x25, x26, rx33, rx35, rx36, rx37, rx38], ov Y0 [] [], Z) r := by
  have hN : ([0, 16, 17, 18, 23, 24, 25, 26, 33, 35, 36, 37, 38] : List Nat).Nodup := by decide
  have hM : ([] : List Nat).Nodup := by decide
  refine g_meti (own := RX11) (by decide) rfl rfl (Nat.le_of_ble_eq_true rfl) ?_
  intro K hC hret
  have e := wX11_aheadN_0 hL hN hM hC hri hret hf
  rw [ov_id' hx, ov_id' hy] at e
  exact g_sub [0, 1, 2, 3] rfl e

-- X11_ahead
def fX11_aheadR_40  (Lru : Nat) (xruz1 : Nat → Int32) (x0 : Nat → Int32) (x16 : Nat → Int32) (x17 : Nat → Int32) (x18 : Nat → Int32) (x23 : Nat → Int32) (x24 : Nat → Int32) (x25 : Nat → Int32) (x26 : Nat → Int32)  (v1 : Int32) (v2 : Int32) (v3 : Int32) (x33 : (Nat → Int32)) (x35 : (Nat → Int32)) (x36 : (Nat → Int32)) (x37 : (Nat → Int32)) (x38 : (Nat → Int32)) (yruz2 : (Nat → Int64)) (y34 : (Nat → Int64)) : Option (Int32 × (Nat → Int32) × (Nat → Int32) × (Nat → Int32) × (Nat → Int32) × (Nat → Int32) × (Nat → Int64) × (Nat → Int64)) := bd4 (fX7_copy x23 x24 x25 x26 x35 x36 x37 x38) fun x35_1 x36_2 x37_3 x38_4 => (bd7 (fX1_passAllR Lru xruz1 x17 x18 v2 x35_1 x36_2 x37_3 x38_4 x33 yruz2 y34) fun x35_6 x36_7 x37_8 x38_9 x33_10 yruz2_11 y34_12 => (if v3 = 0 then (gd (inb v1 6) (some (x36_7 v1.toNatClampNeg, x33_10, x35_6, x36_7, x37_8, x38_9, yruz2_11, y34_12))) else (if v3 = 1 then (bd1 (fX9_riverBits x36_7 x17) fun r_14 => (bd1 (fJ6_bitCount_0f7a4 r_14) fun r_16 => (some (r_16, x33_10, x35_6, x36_7, x37_8, x38_9, yruz2_11, y34_12)))) else (some (x35_6 1, x33_10, x35_6, x36_7, x37_8, x38_9, yruz2_11, y34_12)))))
set_option maxHeartbeats 4000000 in
set_option maxRecDepth 100000 in
theorem wX11_aheadR_40 {l : Launch} {b0 : Nat} {D : GD} {K : KT} {n : Nat} {κ : QT} {X0 : XT} {Y0 : YT} {Z : ZT} {ru : Nat} {Lru : Nat} (hL : LY n κ) (hk_ru : κ ru = (4, 0)) (hn_ru : ru < n) (hk_ru_1 : κ (ru + 1) = (14, Lru)) (hN : ([ru + 1, 0, 16, 17, 18, 23, 24, 25, 26, 33, 35, 36, 37, 38] : List Nat).Nodup) (hM : ([ru + 2, 34] : List Nat).Nodup) (hC : gC l b0 D K RX11 cX11_ahead (some FieldType.int) 4 6 162 0 0) {xruz1 : Nat → Int32} {x0 : Nat → Int32} {x16 : Nat → Int32} {x17 : Nat → Int32} {x18 : Nat → Int32} {x23 : Nat → Int32} {x24 : Nat → Int32} {x25 : Nat → Int32} {x26 : Nat → Int32} (hri : fX11_isWithin (x16 8) 0 (x0 4 - 1) = some 1 ∧ inb (x16 8) 6 = true ∧ Z 15 (x16 8).toNatClampNeg = some ru) {r : Int32} {rx33 : (Nat → Int32)} {rx35 : (Nat → Int32)} {rx36 : (Nat → Int32)} {rx37 : (Nat → Int32)} {rx38 : (Nat → Int32)} {ryruz2 : (Nat → Int64)} {ry34 : (Nat → Int64)} (hret : ∀ pc loc, narrow .int (.int r) = .int r → decode cX11_ahead pc = .ok (.ireturn, 1) → gV l b0 D K (n, κ, ov X0 [ru + 1, 0, 16, 17, 18, 23, 24, 25, 26, 33, 35, 36, 37, 38] [xruz1, x0, x16, x17, x18, x23, x24, x25, x26, rx33, rx35, rx36, rx37, rx38], ov Y0 [ru + 2, 34] [ryruz2, ry34], Z, 0, 0) pc loc [.int r]) {v1 : Int32} {v2 : Int32} {v3 : Int32} {x33 : (Nat → Int32)} {x35 : (Nat → Int32)} {x36 : (Nat → Int32)} {x37 : (Nat → Int32)} {x38 : (Nat → Int32)} {yruz2 : (Nat → Int64)} {y34 : (Nat → Int64)} (hf : fX11_aheadR_40 Lru xruz1 x0 x16 x17 x18 x23 x24 x25 x26  v1 v2 v3 x33 x35 x36 x37 x38 yruz2 y34 = some (r, rx33, rx35, rx36, rx37, rx38, ryruz2, ry34)) : gV l b0 D K (n, κ, ov X0 [ru + 1, 0, 16, 17, 18, 23, 24, 25, 26, 33, 35, 36, 37, 38] [xruz1, x0, x16, x17, x18, x23, x24, x25, x26, x33, x35, x36, x37, x38], ov Y0 [ru + 2, 34] [yruz2, y34], Z, 0, 0) 40 [(0, .ref (b0 + 0)), (1, .int v1), (2, .int v2), (3, .int v3)] [] := by
  unfold fX11_aheadR_40 at hf
  refine g_aload_n hC 0 dX11_ahead_40 rfl rfl ?_
  refine gt_X11_65 hC (a := 0) (kk_0 hL) (kn_0 hL) dX11_ahead_41 ?_
  refine g_ref (b := 35) rfl ?_
  refine g_aload_n hC 0 dX11_ahead_44 rfl rfl ?_
  refine gt_X11_41 hC (a := 0) (kk_0 hL) (kn_0 hL) dX11_ahead_45 ?_
  refine g_ref (b := 16) rfl ?_
  refine gt_X11_140 hC (a := 16) (kk_16 hL) (kn_16 hL) dX11_ahead_48 ?_
  refine g_ref (b := 23) rfl ?_
  obtain ⟨x35_1, x36_2, x37_3, x38_4, q_5, hf⟩ := bd4E hf
  refine g_callV_v (a := 35) hC (X' := ov X0 [ru + 1, 0, 16, 17, 18, 23, 24, 25, 26, 33, 35, 36, 37, 38] [xruz1, x0, x16, x17, x18, x23, x24, x25, x26, x33, x35_1, x36_2, x37_3, x38_4]) (Y' := ov Y0 [ru + 2, 34] [yruz2, y34]) (As := [.ref (b0 + 23)]) (gMv_eq (c_X7_copy l hL (kk_35 hL) (kn_35 hL) (kk_23 hL) (kn_23 hL) (nd_sub hN [10, 11, 12, 13, 5, 6, 7, 8] (by decide) (by rfl)) (nd_sub hM [] (by decide) (by rfl)) (ov_map hN [10, 11, 12, 13, 5, 6, 7, 8] (by rfl) (by rfl)) (ov_map hM [] (by rfl) (by rfl)) q_5) (ov_ovE hN (by rfl) [10, 11, 12, 13, 5, 6, 7, 8] [0, 1, 2, 3, 4, 9] (by rfl) (by rfl) [xruz1, x0, x16, x17, x18, x33] (by rfl) (by rfl) (by rfl) 14 (by rfl) (by decide)) (ov_ovE hM (by rfl) [] [0, 1] (by rfl) (by rfl) [yruz2, y34] (by rfl) (by rfl) (by rfl) 2 (by rfl) (by decide))) tw_707 tw_976 tw_120 tw_705 tw_706 (ci := 7) rfl (by decide) (kk_35 hL) (kn_35 hL) pd_X7_copy (by decide) (by decide) rfl rfl (Nat.le_of_ble_eq_true rfl) rfl dX11_ahead_51 ?_
  refine g_aload_n hC 0 dX11_ahead_54 rfl rfl ?_
  refine gt_X11_58 hC (a := 0) (kk_0 hL) (kn_0 hL) dX11_ahead_55 ?_
  refine g_ref (b := 32) rfl ?_
  refine g_aload_n hC 0 dX11_ahead_58 rfl rfl ?_
  refine gt_X11_65 hC (a := 0) (kk_0 hL) (kn_0 hL) dX11_ahead_59 ?_
  refine g_ref (b := 35) rfl ?_
  refine g_aload_n hC 0 dX11_ahead_62 rfl rfl ?_
  refine g_callV_q (a := 0) hC (As := []) (c_rifR l hL (ov_get hN 1 rfl rfl) (ov_get hN 2 rfl rfl) hri) tw_869 tw_866 tw_116 tw_868 tw_28 (ci := 11) rfl (by decide) (kk_0 hL) (kn_0 hL) pd_X11_ruleInForce (by decide) (by decide) rfl rfl (Nat.le_of_ble_eq_true rfl) rfl dX11_ahead_63 ?_
  refine g_iload_n hC 2 dX11_ahead_66 rfl rfl ?_
  obtain ⟨x35_6, x36_7, x37_8, x38_9, x33_10, yruz2_11, y34_12, q_13, hf⟩ := bd7E hf
  refine g_callV_v (a := 32) hC (X' := ov X0 [ru + 1, 0, 16, 17, 18, 23, 24, 25, 26, 33, 35, 36, 37, 38] [xruz1, x0, x16, x17, x18, x23, x24, x25, x26, x33_10, x35_6, x36_7, x37_8, x38_9]) (Y' := ov Y0 [ru + 2, 34] [yruz2_11, y34_12]) (As := [.ref (b0 + 35), .ref (b0 + ru), .int v2]) (gMv_eq (c_X1_passAllR l hL (kk_35 hL) (kn_35 hL) hk_ru hn_ru hk_ru_1 (nd_sub hN [10, 11, 12, 13, 0, 3, 4, 9] (by decide) (by rfl)) (nd_sub hM [0, 1] (by decide) (by rfl)) (ov_map hN [10, 11, 12, 13, 0, 3, 4, 9] (by rfl) (by rfl)) (ov_map hM [0, 1] (by rfl) (by rfl)) q_13) (ov_ovE hN (by rfl) [10, 11, 12, 13, 0, 3, 4, 9] [1, 2, 5, 6, 7, 8] (by rfl) (by rfl) [x0, x16, x23, x24, x25, x26] (by rfl) (by rfl) (by rfl) 14 (by rfl) (by decide)) (ov_ovE hM (by rfl) [0, 1] [] (by rfl) (by rfl) [] (by rfl) (by rfl) (by rfl) 2 (by rfl) (by decide))) tw_980 tw_977 tw_123 tw_978 tw_979 (ci := 1) rfl (by decide) (kk_32 hL) (kn_32 hL) pd_X1_passAll (by decide) (by decide) rfl rfl (Nat.le_of_ble_eq_true rfl) rfl dX11_ahead_67 ?_
  refine g_iload_n hC 3 dX11_ahead_70 rfl rfl ?_
  refine g_if_ne hC 84 dX11_ahead_71 (by decide) (fun hc => ?_) (fun hc => ?_)
  · replace hf := ifF hf hc
    refine g_iload_n hC 3 dX11_ahead_84 rfl rfl ?_
    refine g_iconst hC (v := 1) dX11_ahead_85 ic_1 ?_
    refine g_icmp_ne hC 109 dX11_ahead_86 (by decide) (fun hc => ?_) (fun hc => ?_)
    · replace hf := ifF hf hc
      refine g_aload_n hC 0 dX11_ahead_109 rfl rfl ?_
      refine gt_X11_65 hC (a := 0) (kk_0 hL) (kn_0 hL) dX11_ahead_110 ?_
      refine g_ref (b := 35) rfl ?_
      refine gt_X11_199 hC (x := x35_6) (kk_35 hL) (kn_35 hL) (ov_get hN 10 rfl rfl) dX11_ahead_113 ?_
      obtain ⟨rfl, rfl, rfl, rfl, rfl, rfl, rfl, rfl⟩ := sm8E hf
      exact hret _ _ rfl dX11_ahead_116
    · replace hf := ifT hf hc
      refine g_aload_n hC 0 dX11_ahead_89 rfl rfl ?_
      refine gt_X11_41 hC (a := 0) (kk_0 hL) (kn_0 hL) dX11_ahead_90 ?_
      refine g_ref (b := 16) rfl ?_
      refine gt_X11_51 hC (a := 16) (kk_16 hL) (kn_16 hL) dX11_ahead_93 ?_
      refine g_ref (b := 17) rfl ?_
      refine g_aload_n hC 0 dX11_ahead_96 rfl rfl ?_
      refine gt_X11_65 hC (a := 0) (kk_0 hL) (kn_0 hL) dX11_ahead_97 ?_
      refine g_ref (b := 35) rfl ?_
      obtain ⟨r_14, q_15, hf⟩ := bd1E hf
      refine g_callV_i (a := 17) hC (X' := ov X0 [ru + 1, 0, 16, 17, 18, 23, 24, 25, 26, 33, 35, 36, 37, 38] [xruz1, x0, x16, x17, x18, x23, x24, x25, x26, x33_10, x35_6, x36_7, x37_8, x38_9]) (Y' := ov Y0 [ru + 2, 34] [yruz2_11, y34_12]) (As := [.ref (b0 + 35)]) (gMi_eq (c_X9_riverBits l hL (kk_35 hL) (kn_35 hL) (nd_sub hN [11, 3] (by decide) (by rfl)) (nd_sub hM [] (by decide) (by rfl)) (ov_map hN [11, 3] (by rfl) (by rfl)) (ov_map hM [] (by rfl) (by rfl)) q_15) (ov_ovE hN (by rfl) [11, 3] [0, 1, 2, 4, 5, 6, 7, 8, 9, 10, 12, 13] (by rfl) (by rfl) [xruz1, x0, x16, x18, x23, x24, x25, x26, x33_10, x35_6, x37_8, x38_9] (by rfl) (by rfl) (by rfl) 14 (by rfl) (by decide)) (ov_ovE hM (by rfl) [] [0, 1] (by rfl) (by rfl) [yruz2_11, y34_12] (by rfl) (by rfl) (by rfl) 2 (by rfl) (by decide))) tw_918 tw_983 tw_119 tw_916 tw_917 (ci := 9) rfl (by decide) (kk_17 hL) (kn_17 hL) pd_X9_riverBits (by decide) (by decide) rfl rfl (Nat.le_of_ble_eq_true rfl) rfl dX11_ahead_100 ?_
      obtain ⟨r_16, q_17, hf⟩ := bd1E hf
      refine g_callS_i hC (X' := ov X0 [ru + 1, 0, 16, 17, 18, 23, 24, 25, 26, 33, 35, 36, 37, 38] [xruz1, x0, x16, x17, x18, x23, x24, x25, x26, x33_10, x35_6, x36_7, x37_8, x38_9]) (Y' := ov Y0 [ru + 2, 34] [yruz2_11, y34_12]) (As := [.int r_14]) (gMi_eq (c_J6_bitCount_0f7a4 l hL (ov_map hN [] (by rfl) (by rfl)) (ov_map hM [] (by rfl) (by rfl)) q_17) (ov_ovE hN (by rfl) [] [0, 1, 2, 3, 4, 5, 6, 7, 8, 9, 10, 11, 12, 13] (by rfl) (by rfl) [xruz1, x0, x16, x17, x18, x23, x24, x25, x26, x33_10, x35_6, x36_7, x37_8, x38_9] (by rfl) (by rfl) (by rfl) 14 (by rfl) (by decide)) (ov_ovE hM (by rfl) [] [0, 1] (by rfl) (by rfl) [yruz2_11, y34_12] (by rfl) (by rfl) (by rfl) 2 (by rfl) (by decide))) tw_922 tw_984 tw_136 tw_921 pd_J6_bitCount_0f7a4 (by decide) (by decide) rfl rfl (Nat.le_of_ble_eq_true rfl) rfl dX11_ahead_103 ?_
      refine g_goto hC 116 dX11_ahead_106 (by decide) ?_
      obtain ⟨rfl, rfl, rfl, rfl, rfl, rfl, rfl, rfl⟩ := sm8E hf
      exact hret _ _ rfl dX11_ahead_116
  · replace hf := ifT hf hc
    refine g_aload_n hC 0 dX11_ahead_74 rfl rfl ?_
    refine gt_X11_65 hC (a := 0) (kk_0 hL) (kn_0 hL) dX11_ahead_75 ?_
    refine g_ref (b := 35) rfl ?_
    refine gt_X11_143 hC (a := 35) (kk_35 hL) (kn_35 hL) dX11_ahead_78 ?_
    refine g_ref (b := 36) rfl ?_
    refine g_iload_n hC 1 dX11_ahead_81 rfl rfl ?_
    obtain ⟨h_18, hf⟩ := gdE hf
    refine g_iald hC (x := x36_7) (kk_36 hL) (kn_36 hL) (ov_get hN 11 rfl rfl) (inb_in h_18) dX11_ahead_82 ?_
    obtain ⟨rfl, rfl, rfl, rfl, rfl, rfl, rfl, rfl⟩ := sm8E hf
    exact hret _ _ rfl dX11_ahead_83

def fX11_aheadR_0  (Lru : Nat) (xruz1 : Nat → Int32) (x0 : Nat → Int32) (x16 : Nat → Int32) (x17 : Nat → Int32) (x18 : Nat → Int32) (x23 : Nat → Int32) (x24 : Nat → Int32) (x25 : Nat → Int32) (x26 : Nat → Int32)  (v1 : Int32) (v2 : Int32) (v3 : Int32) (x33 : (Nat → Int32)) (x35 : (Nat → Int32)) (x36 : (Nat → Int32)) (x37 : (Nat → Int32)) (x38 : (Nat → Int32)) (yruz2 : (Nat → Int64)) (y34 : (Nat → Int64)) : Option (Int32 × (Nat → Int32) × (Nat → Int32) × (Nat → Int32) × (Nat → Int32) × (Nat → Int32) × (Nat → Int64) × (Nat → Int64)) := bd1 (fX11_isTold x17) fun r_1 => (if r_1 = 0 then (some ((-1), x33, x35, x36, x37, x38, yruz2, y34)) else (bd1 (fX11_isWithin v2 0 100) fun r_3 => (if r_3 = 0 then (some ((-1), x33, x35, x36, x37, x38, yruz2, y34)) else (bd1 (fX11_isWithin v3 0 2) fun r_5 => (if r_5 = 0 then (some ((-1), x33, x35, x36, x37, x38, yruz2, y34)) else (if v3 = 0 then (bd1 (fX11_isHouse x17 v1) fun r_7 => (if r_7 = 0 then (some ((-1), x33, x35, x36, x37, x38, yruz2, y34)) else (fX11_aheadR_40 Lru xruz1 x0 x16 x17 x18 x23 x24 x25 x26  v1 v2 v3 x33 x35 x36 x37 x38 yruz2 y34))) else (fX11_aheadR_40 Lru xruz1 x0 x16 x17 x18 x23 x24 x25 x26  v1 v2 v3 x33 x35 x36 x37 x38 yruz2 y34)))))))
set_option maxHeartbeats 4000000 in
set_option maxRecDepth 100000 in
theorem wX11_aheadR_0 {l : Launch} {b0 : Nat} {D : GD} {K : KT} {n : Nat} {κ : QT} {X0 : XT} {Y0 : YT} {Z : ZT} {ru : Nat} {Lru : Nat} (hL : LY n κ) (hk_ru : κ ru = (4, 0)) (hn_ru : ru < n) (hk_ru_1 : κ (ru + 1) = (14, Lru)) (hN : ([ru + 1, 0, 16, 17, 18, 23, 24, 25, 26, 33, 35, 36, 37, 38] : List Nat).Nodup) (hM : ([ru + 2, 34] : List Nat).Nodup) (hC : gC l b0 D K RX11 cX11_ahead (some FieldType.int) 4 6 162 0 0) {xruz1 : Nat → Int32} {x0 : Nat → Int32} {x16 : Nat → Int32} {x17 : Nat → Int32} {x18 : Nat → Int32} {x23 : Nat → Int32} {x24 : Nat → Int32} {x25 : Nat → Int32} {x26 : Nat → Int32} (hri : fX11_isWithin (x16 8) 0 (x0 4 - 1) = some 1 ∧ inb (x16 8) 6 = true ∧ Z 15 (x16 8).toNatClampNeg = some ru) {r : Int32} {rx33 : (Nat → Int32)} {rx35 : (Nat → Int32)} {rx36 : (Nat → Int32)} {rx37 : (Nat → Int32)} {rx38 : (Nat → Int32)} {ryruz2 : (Nat → Int64)} {ry34 : (Nat → Int64)} (hret : ∀ pc loc, narrow .int (.int r) = .int r → decode cX11_ahead pc = .ok (.ireturn, 1) → gV l b0 D K (n, κ, ov X0 [ru + 1, 0, 16, 17, 18, 23, 24, 25, 26, 33, 35, 36, 37, 38] [xruz1, x0, x16, x17, x18, x23, x24, x25, x26, rx33, rx35, rx36, rx37, rx38], ov Y0 [ru + 2, 34] [ryruz2, ry34], Z, 0, 0) pc loc [.int r]) {v1 : Int32} {v2 : Int32} {v3 : Int32} {x33 : (Nat → Int32)} {x35 : (Nat → Int32)} {x36 : (Nat → Int32)} {x37 : (Nat → Int32)} {x38 : (Nat → Int32)} {yruz2 : (Nat → Int64)} {y34 : (Nat → Int64)} (hf : fX11_aheadR_0 Lru xruz1 x0 x16 x17 x18 x23 x24 x25 x26  v1 v2 v3 x33 x35 x36 x37 x38 yruz2 y34 = some (r, rx33, rx35, rx36, rx37, rx38, ryruz2, ry34)) : gV l b0 D K (n, κ, ov X0 [ru + 1, 0, 16, 17, 18, 23, 24, 25, 26, 33, 35, 36, 37, 38] [xruz1, x0, x16, x17, x18, x23, x24, x25, x26, x33, x35, x36, x37, x38], ov Y0 [ru + 2, 34] [yruz2, y34], Z, 0, 0) 0 [(0, .ref (b0 + 0)), (1, .int v1), (2, .int v2), (3, .int v3)] [] := by
  unfold fX11_aheadR_0 at hf
  refine g_aload_n hC 0 dX11_ahead_0 rfl rfl ?_
  obtain ⟨r_1, q_2, hf⟩ := bd1E hf
  refine g_callV_i (a := 0) hC (X' := ov X0 [ru + 1, 0, 16, 17, 18, 23, 24, 25, 26, 33, 35, 36, 37, 38] [xruz1, x0, x16, x17, x18, x23, x24, x25, x26, x33, x35, x36, x37, x38]) (Y' := ov Y0 [ru + 2, 34] [yruz2, y34]) (As := []) (gMi_eq (c_X11_isTold l hL (ov_map hN [3] (by rfl) (by rfl)) (ov_map hM [] (by rfl) (by rfl)) q_2) (ov_ovE hN (by rfl) [3] [0, 1, 2, 4, 5, 6, 7, 8, 9, 10, 11, 12, 13] (by rfl) (by rfl) [xruz1, x0, x16, x18, x23, x24, x25, x26, x33, x35, x36, x37, x38] (by rfl) (by rfl) (by rfl) 14 (by rfl) (by decide)) (ov_ovE hM (by rfl) [] [0, 1] (by rfl) (by rfl) [yruz2, y34] (by rfl) (by rfl) (by rfl) 2 (by rfl) (by decide))) tw_853 tw_850 tw_116 tw_852 tw_25 (ci := 11) rfl (by decide) (kk_0 hL) (kn_0 hL) pd_X11_isTold (by decide) (by decide) rfl rfl (Nat.le_of_ble_eq_true rfl) rfl dX11_ahead_1 ?_
  refine g_if_eq hC 38 dX11_ahead_4 (by decide) (fun hc => ?_) (fun hc => ?_)
  · replace hf := ifT hf hc
    refine g_iconst hC (v := (-1)) dX11_ahead_38 ic_m1 ?_
    obtain ⟨rfl, rfl, rfl, rfl, rfl, rfl, rfl, rfl⟩ := sm8E hf
    exact hret _ _ rfl dX11_ahead_39
  · replace hf := ifF hf hc
    refine g_iload_n hC 2 dX11_ahead_7 rfl rfl ?_
    refine g_iconst hC (v := 0) dX11_ahead_8 ic_0 ?_
    refine g_bipush hC (v := 100) dX11_ahead_9 bp_100 ?_
    obtain ⟨r_3, q_4, hf⟩ := bd1E hf
    refine g_callS_i hC (X' := ov X0 [ru + 1, 0, 16, 17, 18, 23, 24, 25, 26, 33, 35, 36, 37, 38] [xruz1, x0, x16, x17, x18, x23, x24, x25, x26, x33, x35, x36, x37, x38]) (Y' := ov Y0 [ru + 2, 34] [yruz2, y34]) (As := [.int v2, .int 0, .int 100]) (gMi_eq (c_X11_isWithin l hL (ov_map hN [] (by rfl) (by rfl)) (ov_map hM [] (by rfl) (by rfl)) q_4) (ov_ovE hN (by rfl) [] [0, 1, 2, 3, 4, 5, 6, 7, 8, 9, 10, 11, 12, 13] (by rfl) (by rfl) [xruz1, x0, x16, x17, x18, x23, x24, x25, x26, x33, x35, x36, x37, x38] (by rfl) (by rfl) (by rfl) 14 (by rfl) (by decide)) (ov_ovE hM (by rfl) [] [0, 1] (by rfl) (by rfl) [yruz2, y34] (by rfl) (by rfl) (by rfl) 2 (by rfl) (by decide))) tw_666 tw_870 tw_116 tw_665 pd_X11_isWithin (by decide) (by decide) rfl rfl (Nat.le_of_ble_eq_true rfl) rfl dX11_ahead_11 ?_
    refine g_if_eq hC 38 dX11_ahead_14 (by decide) (fun hc => ?_) (fun hc => ?_)
    · replace hf := ifT hf hc
      refine g_iconst hC (v := (-1)) dX11_ahead_38 ic_m1 ?_
      obtain ⟨rfl, rfl, rfl, rfl, rfl, rfl, rfl, rfl⟩ := sm8E hf
      exact hret _ _ rfl dX11_ahead_39
    · replace hf := ifF hf hc
      refine g_iload_n hC 3 dX11_ahead_17 rfl rfl ?_
      refine g_iconst hC (v := 0) dX11_ahead_18 ic_0 ?_
      refine g_iconst hC (v := 2) dX11_ahead_19 ic_2 ?_
      obtain ⟨r_5, q_6, hf⟩ := bd1E hf
      refine g_callS_i hC (X' := ov X0 [ru + 1, 0, 16, 17, 18, 23, 24, 25, 26, 33, 35, 36, 37, 38] [xruz1, x0, x16, x17, x18, x23, x24, x25, x26, x33, x35, x36, x37, x38]) (Y' := ov Y0 [ru + 2, 34] [yruz2, y34]) (As := [.int v3, .int 0, .int 2]) (gMi_eq (c_X11_isWithin l hL (ov_map hN [] (by rfl) (by rfl)) (ov_map hM [] (by rfl) (by rfl)) q_6) (ov_ovE hN (by rfl) [] [0, 1, 2, 3, 4, 5, 6, 7, 8, 9, 10, 11, 12, 13] (by rfl) (by rfl) [xruz1, x0, x16, x17, x18, x23, x24, x25, x26, x33, x35, x36, x37, x38] (by rfl) (by rfl) (by rfl) 14 (by rfl) (by decide)) (ov_ovE hM (by rfl) [] [0, 1] (by rfl) (by rfl) [yruz2, y34] (by rfl) (by rfl) (by rfl) 2 (by rfl) (by decide))) tw_666 tw_870 tw_116 tw_665 pd_X11_isWithin (by decide) (by decide) rfl rfl (Nat.le_of_ble_eq_true rfl) rfl dX11_ahead_20 ?_
      refine g_if_eq hC 38 dX11_ahead_23 (by decide) (fun hc => ?_) (fun hc => ?_)
      · replace hf := ifT hf hc
        refine g_iconst hC (v := (-1)) dX11_ahead_38 ic_m1 ?_
        obtain ⟨rfl, rfl, rfl, rfl, rfl, rfl, rfl, rfl⟩ := sm8E hf
        exact hret _ _ rfl dX11_ahead_39
      · replace hf := ifF hf hc
        refine g_iload_n hC 3 dX11_ahead_26 rfl rfl ?_
        refine g_if_ne hC 40 dX11_ahead_27 (by decide) (fun hc => ?_) (fun hc => ?_)
        · replace hf := ifF hf hc
          exact g_sub [0, 1, 2, 3] rfl (wX11_aheadR_40 hL hk_ru hn_ru hk_ru_1 hN hM hC hri hret  hf)
        · replace hf := ifT hf hc
          refine g_aload_n hC 0 dX11_ahead_30 rfl rfl ?_
          refine g_iload_n hC 1 dX11_ahead_31 rfl rfl ?_
          obtain ⟨r_7, q_8, hf⟩ := bd1E hf
          refine g_callV_i (a := 0) hC (X' := ov X0 [ru + 1, 0, 16, 17, 18, 23, 24, 25, 26, 33, 35, 36, 37, 38] [xruz1, x0, x16, x17, x18, x23, x24, x25, x26, x33, x35, x36, x37, x38]) (Y' := ov Y0 [ru + 2, 34] [yruz2, y34]) (As := [.int v1]) (gMi_eq (c_X11_isHouse l hL (ov_map hN [3] (by rfl) (by rfl)) (ov_map hM [] (by rfl) (by rfl)) q_8) (ov_ovE hN (by rfl) [3] [0, 1, 2, 4, 5, 6, 7, 8, 9, 10, 11, 12, 13] (by rfl) (by rfl) [xruz1, x0, x16, x18, x23, x24, x25, x26, x33, x35, x36, x37, x38] (by rfl) (by rfl) (by rfl) 14 (by rfl) (by decide)) (ov_ovE hM (by rfl) [] [0, 1] (by rfl) (by rfl) [yruz2, y34] (by rfl) (by rfl) (by rfl) 2 (by rfl) (by decide))) tw_790 tw_787 tw_116 tw_789 tw_21 (ci := 11) rfl (by decide) (kk_0 hL) (kn_0 hL) pd_X11_isHouse (by decide) (by decide) rfl rfl (Nat.le_of_ble_eq_true rfl) rfl dX11_ahead_32 ?_
          refine g_if_ne hC 40 dX11_ahead_35 (by decide) (fun hc => ?_) (fun hc => ?_)
          · replace hf := ifF hf hc
            exact g_sub [0, 1, 2, 3] rfl (wX11_aheadR_40 hL hk_ru hn_ru hk_ru_1 hN hM hC hri hret  hf)
          · replace hf := ifT hf hc
            refine g_iconst hC (v := (-1)) dX11_ahead_38 ic_m1 ?_
            obtain ⟨rfl, rfl, rfl, rfl, rfl, rfl, rfl, rfl⟩ := sm8E hf
            exact hret _ _ rfl dX11_ahead_39

def fX11_aheadR  (Lru : Nat) (xruz1 : Nat → Int32) (x0 : Nat → Int32) (x16 : Nat → Int32) (x17 : Nat → Int32) (x18 : Nat → Int32) (x23 : Nat → Int32) (x24 : Nat → Int32) (x25 : Nat → Int32) (x26 : Nat → Int32)  (v1 : Int32) (v2 : Int32) (v3 : Int32) (x33 : Nat → Int32) (x35 : Nat → Int32) (x36 : Nat → Int32) (x37 : Nat → Int32) (x38 : Nat → Int32) (yruz2 : Nat → Int64) (y34 : Nat → Int64) : Option (Int32 × (Nat → Int32) × (Nat → Int32) × (Nat → Int32) × (Nat → Int32) × (Nat → Int32) × (Nat → Int64) × (Nat → Int64)) := fX11_aheadR_0 Lru xruz1 x0 x16 x17 x18 x23 x24 x25 x26 v1 v2 v3 x33 x35 x36 x37 x38 yruz2 y34

set_option maxHeartbeats 4000000 in
set_option maxRecDepth 100000 in
theorem c_X11_aheadR (l : Launch) {b0 : Nat} {D : GD} {n : Nat} {κ : QT} {X0 : XT} {Y0 : YT} {Z : ZT} {ru : Nat} {Lru : Nat} (hL : LY n κ) (hk_ru : κ ru = (4, 0)) (hn_ru : ru < n) (hk_ru_1 : κ (ru + 1) = (14, Lru)) (hN : ([ru + 1, 0, 16, 17, 18, 23, 24, 25, 26, 33, 35, 36, 37, 38] : List Nat).Nodup) (hM : ([ru + 2, 34] : List Nat).Nodup) {xruz1 : Nat → Int32} {x0 : Nat → Int32} {x16 : Nat → Int32} {x17 : Nat → Int32} {x18 : Nat → Int32} {x23 : Nat → Int32} {x24 : Nat → Int32} {x25 : Nat → Int32} {x26 : Nat → Int32} {x33 : Nat → Int32} {x35 : Nat → Int32} {x36 : Nat → Int32} {x37 : Nat → Int32} {x38 : Nat → Int32} {yruz2 : Nat → Int64} {y34 : Nat → Int64} (hri : fX11_isWithin (x16 8) 0 (x0 4 - 1) = some 1 ∧ inb (x16 8) 6 = true ∧ Z 15 (x16 8).toNatClampNeg = some ru) (hx : ([ru + 1, 0, 16, 17, 18, 23, 24, 25, 26, 33, 35, 36, 37, 38] : List Nat).map X0 = [xruz1, x0, x16, x17, x18, x23, x24, x25, x26, x33, x35, x36, x37, x38]) (hy : ([ru + 2, 34] : List Nat).map Y0 = [yruz2, y34]) {v1 : Int32} {v2 : Int32} {v3 : Int32} {r : Int32} {rx33 : (Nat → Int32)} {rx35 : (Nat → Int32)} {rx36 : (Nat → Int32)} {rx37 : (Nat → Int32)} {rx38 : (Nat → Int32)} {ryruz2 : (Nat → Int64)} {ry34 : (Nat → Int64)} (hf : fX11_aheadR Lru xruz1 x0 x16 x17 x18 x23 x24 x25 x26 v1 v2 v3 x33 x35 x36 x37 x38 yruz2 y34 = some (r, rx33, rx35, rx36, rx37, rx38, ryruz2, ry34)) : gMi l yX11_ahead cX11_ahead 4 (some FieldType.int) 6 162 0 0 b0 D [.ref (b0 + 0), .int v1, .int v2, .int v3] (n, κ, X0, Y0, Z) (n, κ, ov X0 [ru + 1, 0, 16, 17, 18, 23, 24, 25, 26, 33, 35, 36, 37, 38] [xruz1, x0, x16, x17, x18, x23, x24, x25, x26, rx33, rx35, rx36, rx37, rx38], ov Y0 [ru + 2, 34] [ryruz2, ry34], Z) r := by
  refine g_meti (own := RX11) (by decide) rfl rfl (Nat.le_of_ble_eq_true rfl) ?_
  intro K hC hret
  have e := wX11_aheadR_0 hL hk_ru hn_ru hk_ru_1 hN hM hC hri hret hf
  rw [ov_id' hx, ov_id' hy] at e
  exact g_sub [0, 1, 2, 3] rfl e

-- X11_findComesDown
def fX11_findComesDownN_87   (x0 : Nat → Int32) (x16 : Nat → Int32) (x17 : Nat → Int32) (x18 : Nat → Int32) (x23 : Nat → Int32) (x24 : Nat → Int32) (x25 : Nat → Int32) (x26 : Nat → Int32)  (k25 : Int32 → (Nat → Int32) → (Nat → Int32) → (Nat → Int32) → (Nat → Int32) → (Nat → Int32) → (Nat → Int32) → Option ((Nat → Int32) × (Nat → Int32) × (Nat → Int32) × (Nat → Int32) × (Nat → Int32) × (Nat → Int32))) (k33 : Int32 → Int32 → (Nat → Int32) → (Nat → Int32) → (Nat → Int32) → (Nat → Int32) → (Nat → Int32) → (Nat → Int32) → Option ((Nat → Int32) × (Nat → Int32) × (Nat → Int32) × (Nat → Int32) × (Nat → Int32) × (Nat → Int32))) (v1 : Int32) (v2 : Int32) (x33 : (Nat → Int32)) (x35 : (Nat → Int32)) (x36 : (Nat → Int32)) (x37 : (Nat → Int32)) (x38 : (Nat → Int32)) (x39 : (Nat → Int32)) : Option ((Nat → Int32) × (Nat → Int32) × (Nat → Int32) × (Nat → Int32) × (Nat → Int32) × (Nat → Int32)) := bn (v2 + 1) fun t_1 => (k33 v1 t_1 x33 x35 x36 x37 x38 x39)
set_option maxHeartbeats 4000000 in
set_option maxRecDepth 100000 in
theorem wX11_findComesDownN_87 {l : Launch} {b0 : Nat} {D : GD} {K : KT} {n : Nat} {κ : QT} {X0 : XT} {Y0 : YT} {Z : ZT} (hL : LY n κ) (hN : ([0, 16, 17, 18, 23, 24, 25, 26, 33, 35, 36, 37, 38, 39] : List Nat).Nodup) (hM : ([] : List Nat).Nodup) (hC : gC l b0 D K RX11 cX11_findComesDown none 3 5 138 0 0) {x0 : Nat → Int32} {x16 : Nat → Int32} {x17 : Nat → Int32} {x18 : Nat → Int32} {x23 : Nat → Int32} {x24 : Nat → Int32} {x25 : Nat → Int32} {x26 : Nat → Int32} (hri : fX11_isWithin (x16 8) 0 (x0 4 - 1) = some 0) {rx33 : (Nat → Int32)} {rx35 : (Nat → Int32)} {rx36 : (Nat → Int32)} {rx37 : (Nat → Int32)} {rx38 : (Nat → Int32)} {rx39 : (Nat → Int32)} (hret : ∀ pc loc, decode cX11_findComesDown pc = .ok (.return_, 1) → gV l b0 D K (n, κ, ov X0 [0, 16, 17, 18, 23, 24, 25, 26, 33, 35, 36, 37, 38, 39] [x0, x16, x17, x18, x23, x24, x25, x26, rx33, rx35, rx36, rx37, rx38, rx39], ov Y0 [] [], Z, 0, 0) pc loc []) {k25 : Int32 → (Nat → Int32) → (Nat → Int32) → (Nat → Int32) → (Nat → Int32) → (Nat → Int32) → (Nat → Int32) → Option ((Nat → Int32) × (Nat → Int32) × (Nat → Int32) × (Nat → Int32) × (Nat → Int32) × (Nat → Int32))} (hk25 : ∀ (v1 : Int32) (x33 : (Nat → Int32)) (x35 : (Nat → Int32)) (x36 : (Nat → Int32)) (x37 : (Nat → Int32)) (x38 : (Nat → Int32)) (x39 : (Nat → Int32)), k25 v1 x33 x35 x36 x37 x38 x39 = some (rx33, rx35, rx36, rx37, rx38, rx39) → gV l b0 D K (n, κ, ov X0 [0, 16, 17, 18, 23, 24, 25, 26, 33, 35, 36, 37, 38, 39] [x0, x16, x17, x18, x23, x24, x25, x26, x33, x35, x36, x37, x38, x39], ov Y0 [] [], Z, 0, 0) 25 [(0, .ref (b0 + 0)), (1, .int v1)] []) {k33 : Int32 → Int32 → (Nat → Int32) → (Nat → Int32) → (Nat → Int32) → (Nat → Int32) → (Nat → Int32) → (Nat → Int32) → Option ((Nat → Int32) × (Nat → Int32) × (Nat → Int32) × (Nat → Int32) × (Nat → Int32) × (Nat → Int32))} (hk33 : ∀ (v1 : Int32) (v2 : Int32) (x33 : (Nat → Int32)) (x35 : (Nat → Int32)) (x36 : (Nat → Int32)) (x37 : (Nat → Int32)) (x38 : (Nat → Int32)) (x39 : (Nat → Int32)), k33 v1 v2 x33 x35 x36 x37 x38 x39 = some (rx33, rx35, rx36, rx37, rx38, rx39) → gV l b0 D K (n, κ, ov X0 [0, 16, 17, 18, 23, 24, 25, 26, 33, 35, 36, 37, 38, 39] [x0, x16, x17, x18, x23, x24, x25, x26, x33, x35, x36, x37, x38, x39], ov Y0 [] [], Z, 0, 0) 33 [(0, .ref (b0 + 0)), (1, .int v1), (2, .int v2)] []) {v1 : Int32} {v2 : Int32} {x33 : (Nat → Int32)} {x35 : (Nat → Int32)} {x36 : (Nat → Int32)} {x37 : (Nat → Int32)} {x38 : (Nat → Int32)} {x39 : (Nat → Int32)} (hf : fX11_findComesDownN_87 x0 x16 x17 x18 x23 x24 x25 x26 k25 k33 v1 v2 x33 x35 x36 x37 x38 x39 = some (rx33, rx35, rx36, rx37, rx38, rx39)) : gV l b0 D K (n, κ, ov X0 [0, 16, 17, 18, 23, 24, 25, 26, 33, 35, 36, 37, 38, 39] [x0, x16, x17, x18, x23, x24, x25, x26, x33, x35, x36, x37, x38, x39], ov Y0 [] [], Z, 0, 0) 87 [(0, .ref (b0 + 0)), (1, .int v1), (2, .int v2)] [] := by
  unfold fX11_findComesDownN_87 at hf
  obtain ⟨t_1, et_1, hf⟩ := bnE hf
  refine g_iinc hC (i := 2) (v := t_1) [(2, .int t_1), (0, .ref (b0 + 0)), (1, .int v1)] dX11_findComesDown_87 (q := 2) rfl ((congrArg (HAdd.hAdd v2) ic_1).trans et_1.symm) (by decide) rfl ?_
  refine g_goto hC 33 dX11_findComesDown_90 (by decide) ?_
  exact g_sub [1, 2, 0] rfl (hk33 v1 t_1 x33 x35 x36 x37 x38 x39 hf)

def fX11_findComesDownN_33b   (x0 : Nat → Int32) (x16 : Nat → Int32) (x17 : Nat → Int32) (x18 : Nat → Int32) (x23 : Nat → Int32) (x24 : Nat → Int32) (x25 : Nat → Int32) (x26 : Nat → Int32)  (k25 : Int32 → (Nat → Int32) → (Nat → Int32) → (Nat → Int32) → (Nat → Int32) → (Nat → Int32) → (Nat → Int32) → Option ((Nat → Int32) × (Nat → Int32) × (Nat → Int32) × (Nat → Int32) × (Nat → Int32) × (Nat → Int32))) (k33 : Int32 → Int32 → (Nat → Int32) → (Nat → Int32) → (Nat → Int32) → (Nat → Int32) → (Nat → Int32) → (Nat → Int32) → Option ((Nat → Int32) × (Nat → Int32) × (Nat → Int32) × (Nat → Int32) × (Nat → Int32) × (Nat → Int32))) (v1 : Int32) (v2 : Int32) (x33 : (Nat → Int32)) (x35 : (Nat → Int32)) (x36 : (Nat → Int32)) (x37 : (Nat → Int32)) (x38 : (Nat → Int32)) (x39 : (Nat → Int32)) : Option ((Nat → Int32) × (Nat → Int32) × (Nat → Int32) × (Nat → Int32) × (Nat → Int32) × (Nat → Int32)) := if (x17 4) ≤ v2 then (bd1 (fX9_heatOf x35 x17 x18) fun r_1 => (bd6 (fX1_passN x17 r_1 x35 x36 x37 x38 x33) fun r_3 x35_4 x36_5 x37_6 x38_7 x33_8 => (bn (v1 + 1) fun t_10 => (k25 t_10 x33_8 x35_4 x36_5 x37_6 x38_7 x39)))) else (gd (inb v2 6) (if (x39 v2.toNatClampNeg) = 100 then (gd (inb v2 6) (if (x36 v2.toNatClampNeg) < (x17 0) then (fX11_findComesDownN_87 x0 x16 x17 x18 x23 x24 x25 x26 k25 k33 v1 v2 x33 x35 x36 x37 x38 x39) else (gd (inb v2 6) (fX11_findComesDownN_87 x0 x16 x17 x18 x23 x24 x25 x26 k25 k33 v1 v2 x33 x35 x36 x37 x38 (upd x39 v2.toNatClampNeg v1))))) else (fX11_findComesDownN_87 x0 x16 x17 x18 x23 x24 x25 x26 k25 k33 v1 v2 x33 x35 x36 x37 x38 x39)))
def fX11_findComesDownN_33   (x0 : Nat → Int32) (x16 : Nat → Int32) (x17 : Nat → Int32) (x18 : Nat → Int32) (x23 : Nat → Int32) (x24 : Nat → Int32) (x25 : Nat → Int32) (x26 : Nat → Int32)  (k25 : Int32 → (Nat → Int32) → (Nat → Int32) → (Nat → Int32) → (Nat → Int32) → (Nat → Int32) → (Nat → Int32) → Option ((Nat → Int32) × (Nat → Int32) × (Nat → Int32) × (Nat → Int32) × (Nat → Int32) × (Nat → Int32))) : Int32 → Int32 → (Nat → Int32) → (Nat → Int32) → (Nat → Int32) → (Nat → Int32) → (Nat → Int32) → (Nat → Int32) → Option ((Nat → Int32) × (Nat → Int32) × (Nat → Int32) × (Nat → Int32) × (Nat → Int32) × (Nat → Int32)) := lq8 (fX11_findComesDownN_33b x0 x16 x17 x18 x23 x24 x25 x26 k25) 5000
set_option maxHeartbeats 4000000 in
set_option maxRecDepth 100000 in
theorem wX11_findComesDownN_33 {l : Launch} {b0 : Nat} {D : GD} {K : KT} {n : Nat} {κ : QT} {X0 : XT} {Y0 : YT} {Z : ZT} (hL : LY n κ) (hN : ([0, 16, 17, 18, 23, 24, 25, 26, 33, 35, 36, 37, 38, 39] : List Nat).Nodup) (hM : ([] : List Nat).Nodup) (hC : gC l b0 D K RX11 cX11_findComesDown none 3 5 138 0 0) {x0 : Nat → Int32} {x16 : Nat → Int32} {x17 : Nat → Int32} {x18 : Nat → Int32} {x23 : Nat → Int32} {x24 : Nat → Int32} {x25 : Nat → Int32} {x26 : Nat → Int32} (hri : fX11_isWithin (x16 8) 0 (x0 4 - 1) = some 0) {rx33 : (Nat → Int32)} {rx35 : (Nat → Int32)} {rx36 : (Nat → Int32)} {rx37 : (Nat → Int32)} {rx38 : (Nat → Int32)} {rx39 : (Nat → Int32)} (hret : ∀ pc loc, decode cX11_findComesDown pc = .ok (.return_, 1) → gV l b0 D K (n, κ, ov X0 [0, 16, 17, 18, 23, 24, 25, 26, 33, 35, 36, 37, 38, 39] [x0, x16, x17, x18, x23, x24, x25, x26, rx33, rx35, rx36, rx37, rx38, rx39], ov Y0 [] [], Z, 0, 0) pc loc []) {k25 : Int32 → (Nat → Int32) → (Nat → Int32) → (Nat → Int32) → (Nat → Int32) → (Nat → Int32) → (Nat → Int32) → Option ((Nat → Int32) × (Nat → Int32) × (Nat → Int32) × (Nat → Int32) × (Nat → Int32) × (Nat → Int32))} (hk25 : ∀ (v1 : Int32) (x33 : (Nat → Int32)) (x35 : (Nat → Int32)) (x36 : (Nat → Int32)) (x37 : (Nat → Int32)) (x38 : (Nat → Int32)) (x39 : (Nat → Int32)), k25 v1 x33 x35 x36 x37 x38 x39 = some (rx33, rx35, rx36, rx37, rx38, rx39) → gV l b0 D K (n, κ, ov X0 [0, 16, 17, 18, 23, 24, 25, 26, 33, 35, 36, 37, 38, 39] [x0, x16, x17, x18, x23, x24, x25, x26, x33, x35, x36, x37, x38, x39], ov Y0 [] [], Z, 0, 0) 25 [(0, .ref (b0 + 0)), (1, .int v1)] []) : ∀ (j : Nat) (v1 : Int32) (v2 : Int32) (x33 : (Nat → Int32)) (x35 : (Nat → Int32)) (x36 : (Nat → Int32)) (x37 : (Nat → Int32)) (x38 : (Nat → Int32)) (x39 : (Nat → Int32)), lq8 (fX11_findComesDownN_33b x0 x16 x17 x18 x23 x24 x25 x26 k25) j v1 v2 x33 x35 x36 x37 x38 x39 = some (rx33, rx35, rx36, rx37, rx38, rx39) → gV l b0 D K (n, κ, ov X0 [0, 16, 17, 18, 23, 24, 25, 26, 33, 35, 36, 37, 38, 39] [x0, x16, x17, x18, x23, x24, x25, x26, x33, x35, x36, x37, x38, x39], ov Y0 [] [], Z, 0, 0) 33 [(0, .ref (b0 + 0)), (1, .int v1), (2, .int v2)] [] := by
  intro j
  induction j with
  | zero => intro v1 v2 x33 x35 x36 x37 x38 x39 hf; cases hf
  | succ j hk33 =>
    intro v1 v2 x33 x35 x36 x37 x38 x39 hf
    replace hf : fX11_findComesDownN_33b x0 x16 x17 x18 x23 x24 x25 x26 k25 (lq8 (fX11_findComesDownN_33b x0 x16 x17 x18 x23 x24 x25 x26 k25) j) v1 v2 x33 x35 x36 x37 x38 x39 = some (rx33, rx35, rx36, rx37, rx38, rx39) := hf
    unfold fX11_findComesDownN_33b at hf
    refine g_iload_n hC 2 dX11_findComesDown_33 rfl rfl ?_
    refine g_aload_n hC 0 dX11_findComesDown_34 rfl rfl ?_
    refine gt_X11_41 hC (a := 0) (kk_0 hL) (kn_0 hL) dX11_findComesDown_35 ?_
    refine g_ref (b := 16) rfl ?_
    refine gt_X11_51 hC (a := 16) (kk_16 hL) (kn_16 hL) dX11_findComesDown_38 ?_
    refine g_ref (b := 17) rfl ?_
    refine gt_X11_117 hC (x := x17) (kk_17 hL) (kn_17 hL) (ov_get hN 2 rfl rfl) dX11_findComesDown_41 ?_
    refine g_icmp_ge hC 93 dX11_findComesDown_44 (by decide) (fun hc => ?_) (fun hc => ?_)
    · replace hf := ifT hf hc
      refine g_aload_n hC 0 dX11_findComesDown_93 rfl rfl ?_
      refine gt_X11_58 hC (a := 0) (kk_0 hL) (kn_0 hL) dX11_findComesDown_94 ?_
      refine g_ref (b := 32) rfl ?_
      refine g_aload_n hC 0 dX11_findComesDown_97 rfl rfl ?_
      refine gt_X11_65 hC (a := 0) (kk_0 hL) (kn_0 hL) dX11_findComesDown_98 ?_
      refine g_ref (b := 35) rfl ?_
      refine g_aload_n hC 0 dX11_findComesDown_101 rfl rfl ?_
      refine g_callV_q (a := 0) hC (As := []) (c_rifN l hL (ov_get hN 0 rfl rfl) (ov_get hN 1 rfl rfl) hri) tw_869 tw_866 tw_116 tw_868 tw_28 (ci := 11) rfl (by decide) (kk_0 hL) (kn_0 hL) pd_X11_ruleInForce (by decide) (by decide) rfl rfl (Nat.le_of_ble_eq_true rfl) rfl dX11_findComesDown_102 ?_
      refine g_aload_n hC 0 dX11_findComesDown_105 rfl rfl ?_
      refine gt_X11_41 hC (a := 0) (kk_0 hL) (kn_0 hL) dX11_findComesDown_106 ?_
      refine g_ref (b := 16) rfl ?_
      refine gt_X11_51 hC (a := 16) (kk_16 hL) (kn_16 hL) dX11_findComesDown_109 ?_
      refine g_ref (b := 17) rfl ?_
      refine g_aload_n hC 0 dX11_findComesDown_112 rfl rfl ?_
      refine gt_X11_65 hC (a := 0) (kk_0 hL) (kn_0 hL) dX11_findComesDown_113 ?_
      refine g_ref (b := 35) rfl ?_
      obtain ⟨r_1, q_2, hf⟩ := bd1E hf
      refine g_callV_i (a := 17) hC (X' := ov X0 [0, 16, 17, 18, 23, 24, 25, 26, 33, 35, 36, 37, 38, 39] [x0, x16, x17, x18, x23, x24, x25, x26, x33, x35, x36, x37, x38, x39]) (Y' := ov Y0 [] []) (As := [.ref (b0 + 35)]) (gMi_eq (c_X9_heatOf l hL (kk_35 hL) (kn_35 hL) (nd_sub hN [9, 2, 3] (by decide) (by rfl)) (nd_sub hM [] (by decide) (by rfl)) (ov_map hN [9, 2, 3] (by rfl) (by rfl)) (ov_map hM [] (by rfl) (by rfl)) q_2) (ov_ovE hN (by rfl) [9, 2, 3] [0, 1, 4, 5, 6, 7, 8, 10, 11, 12, 13] (by rfl) (by rfl) [x0, x16, x23, x24, x25, x26, x33, x36, x37, x38, x39] (by rfl) (by rfl) (by rfl) 14 (by rfl) (by decide)) (ov_ovE hM (by rfl) [] [] (by rfl) (by rfl) [] (by rfl) (by rfl) (by rfl) 0 (by rfl) (by decide))) tw_806 tw_803 tw_119 tw_804 tw_805 (ci := 9) rfl (by decide) (kk_17 hL) (kn_17 hL) pd_X9_heatOf (by decide) (by decide) rfl rfl (Nat.le_of_ble_eq_true rfl) rfl dX11_findComesDown_116 ?_
      obtain ⟨r_3, x35_4, x36_5, x37_6, x38_7, x33_8, q_9, hf⟩ := bd6E hf
      refine g_callV_i (a := 32) hC (X' := ov X0 [0, 16, 17, 18, 23, 24, 25, 26, 33, 35, 36, 37, 38, 39] [x0, x16, x17, x18, x23, x24, x25, x26, x33_8, x35_4, x36_5, x37_6, x38_7, x39]) (Y' := ov Y0 [] []) (As := [.ref (b0 + 35), .null, .int r_1]) (gMi_eq (c_X1_passN l hL (kk_35 hL) (kn_35 hL) (nd_sub hN [9, 10, 11, 12, 2, 8] (by decide) (by rfl)) (nd_sub hM [] (by decide) (by rfl)) (ov_map hN [9, 10, 11, 12, 2, 8] (by rfl) (by rfl)) (ov_map hM [] (by rfl) (by rfl)) q_9) (ov_ovE hN (by rfl) [9, 10, 11, 12, 2, 8] [0, 1, 3, 4, 5, 6, 7, 13] (by rfl) (by rfl) [x0, x16, x18, x23, x24, x25, x26, x39] (by rfl) (by rfl) (by rfl) 14 (by rfl) (by decide)) (ov_ovE hM (by rfl) [] [] (by rfl) (by rfl) [] (by rfl) (by rfl) (by rfl) 0 (by rfl) (by decide))) tw_874 tw_871 tw_123 tw_872 tw_873 (ci := 1) rfl (by decide) (kk_32 hL) (kn_32 hL) pd_X1_pass (by decide) (by decide) rfl rfl (Nat.le_of_ble_eq_true rfl) rfl dX11_findComesDown_119 ?_
      refine g_pop hC dX11_findComesDown_122 rfl ?_
      obtain ⟨t_10, et_10, hf⟩ := bnE hf
      refine g_iinc hC (i := 1) (v := t_10) [(1, .int t_10), (0, .ref (b0 + 0)), (2, .int v2)] dX11_findComesDown_123 (q := 1) rfl ((congrArg (HAdd.hAdd v1) ic_1).trans et_10.symm) (by decide) rfl ?_
      refine g_goto hC 25 dX11_findComesDown_126 (by decide) ?_
      exact g_sub [1, 0] rfl (hk25 t_10 x33_8 x35_4 x36_5 x37_6 x38_7 x39 hf)
    · replace hf := ifF hf hc
      refine g_aload_n hC 0 dX11_findComesDown_47 rfl rfl ?_
      refine gt_X11_69 hC (a := 0) (kk_0 hL) (kn_0 hL) dX11_findComesDown_48 ?_
      refine g_ref (b := 39) rfl ?_
      refine g_iload_n hC 2 dX11_findComesDown_51 rfl rfl ?_
      obtain ⟨h_11, hf⟩ := gdE hf
      refine g_iald hC (x := x39) (kk_39 hL) (kn_39 hL) (ov_get hN 13 rfl rfl) (inb_in h_11) dX11_findComesDown_52 ?_
      refine g_bipush hC (v := 100) dX11_findComesDown_53 bp_100 ?_
      refine g_icmp_ne hC 87 dX11_findComesDown_55 (by decide) (fun hc => ?_) (fun hc => ?_)
      · replace hf := ifF hf hc
        exact g_sub [0, 1, 2] rfl (wX11_findComesDownN_87 hL hN hM hC hri hret hk25 hk33 hf)
      · replace hf := ifT hf hc
        refine g_aload_n hC 0 dX11_findComesDown_58 rfl rfl ?_
        refine gt_X11_65 hC (a := 0) (kk_0 hL) (kn_0 hL) dX11_findComesDown_59 ?_
        refine g_ref (b := 35) rfl ?_
        refine gt_X11_143 hC (a := 35) (kk_35 hL) (kn_35 hL) dX11_findComesDown_62 ?_
        refine g_ref (b := 36) rfl ?_
        refine g_iload_n hC 2 dX11_findComesDown_65 rfl rfl ?_
        obtain ⟨h_12, hf⟩ := gdE hf
        refine g_iald hC (x := x36) (kk_36 hL) (kn_36 hL) (ov_get hN 10 rfl rfl) (inb_in h_12) dX11_findComesDown_66 ?_
        refine g_aload_n hC 0 dX11_findComesDown_67 rfl rfl ?_
        refine gt_X11_41 hC (a := 0) (kk_0 hL) (kn_0 hL) dX11_findComesDown_68 ?_
        refine g_ref (b := 16) rfl ?_
        refine gt_X11_51 hC (a := 16) (kk_16 hL) (kn_16 hL) dX11_findComesDown_71 ?_
        refine g_ref (b := 17) rfl ?_
        refine gt_X11_202 hC (x := x17) (kk_17 hL) (kn_17 hL) (ov_get hN 2 rfl rfl) dX11_findComesDown_74 ?_
        refine g_icmp_lt hC 87 dX11_findComesDown_77 (by decide) (fun hc => ?_) (fun hc => ?_)
        · replace hf := ifT hf hc
          exact g_sub [0, 1, 2] rfl (wX11_findComesDownN_87 hL hN hM hC hri hret hk25 hk33 hf)
        · replace hf := ifF hf hc
          refine g_aload_n hC 0 dX11_findComesDown_80 rfl rfl ?_
          refine gt_X11_69 hC (a := 0) (kk_0 hL) (kn_0 hL) dX11_findComesDown_81 ?_
          refine g_ref (b := 39) rfl ?_
          refine g_iload_n hC 2 dX11_findComesDown_84 rfl rfl ?_
          refine g_iload_n hC 1 dX11_findComesDown_85 rfl rfl ?_
          obtain ⟨h_13, hf⟩ := gdE hf
          refine g_iast hC (x := x39) (kk_39 hL) (kn_39 hL) (ov_get hN 13 rfl rfl) (inb_in h_13) (ov_set hN (by rfl) 13 (by rfl)) dX11_findComesDown_86 ?_
          show gV l b0 D K (n, κ, ov X0 [0, 16, 17, 18, 23, 24, 25, 26, 33, 35, 36, 37, 38, 39] [x0, x16, x17, x18, x23, x24, x25, x26, x33, x35, x36, x37, x38, (upd x39 v2.toNatClampNeg v1)], ov Y0 [] [], Z, 0, 0) 87 [(0, .ref (b0 + 0)), (1, .int v1), (2, .int v2)] []
          exact g_sub [0, 1, 2] rfl (wX11_findComesDownN_87 hL hN hM hC hri hret hk25 hk33 hf)

def fX11_findComesDownN_25b   (x0 : Nat → Int32) (x16 : Nat → Int32) (x17 : Nat → Int32) (x18 : Nat → Int32) (x23 : Nat → Int32) (x24 : Nat → Int32) (x25 : Nat → Int32) (x26 : Nat → Int32)  (k25 : Int32 → (Nat → Int32) → (Nat → Int32) → (Nat → Int32) → (Nat → Int32) → (Nat → Int32) → (Nat → Int32) → Option ((Nat → Int32) × (Nat → Int32) × (Nat → Int32) × (Nat → Int32) × (Nat → Int32) × (Nat → Int32))) (v1 : Int32) (x33 : (Nat → Int32)) (x35 : (Nat → Int32)) (x36 : (Nat → Int32)) (x37 : (Nat → Int32)) (x38 : (Nat → Int32)) (x39 : (Nat → Int32)) : Option ((Nat → Int32) × (Nat → Int32) × (Nat → Int32) × (Nat → Int32) × (Nat → Int32) × (Nat → Int32)) := if 100 ≤ v1 then (some (x33, x35, x36, x37, x38, x39)) else (fX11_findComesDownN_33 x0 x16 x17 x18 x23 x24 x25 x26 k25 v1 0 x33 x35 x36 x37 x38 x39)
def fX11_findComesDownN_25   (x0 : Nat → Int32) (x16 : Nat → Int32) (x17 : Nat → Int32) (x18 : Nat → Int32) (x23 : Nat → Int32) (x24 : Nat → Int32) (x25 : Nat → Int32) (x26 : Nat → Int32)  : Int32 → (Nat → Int32) → (Nat → Int32) → (Nat → Int32) → (Nat → Int32) → (Nat → Int32) → (Nat → Int32) → Option ((Nat → Int32) × (Nat → Int32) × (Nat → Int32) × (Nat → Int32) × (Nat → Int32) × (Nat → Int32)) := lq7 (fX11_findComesDownN_25b x0 x16 x17 x18 x23 x24 x25 x26 ) 5000
set_option maxHeartbeats 4000000 in
set_option maxRecDepth 100000 in
theorem wX11_findComesDownN_25 {l : Launch} {b0 : Nat} {D : GD} {K : KT} {n : Nat} {κ : QT} {X0 : XT} {Y0 : YT} {Z : ZT} (hL : LY n κ) (hN : ([0, 16, 17, 18, 23, 24, 25, 26, 33, 35, 36, 37, 38, 39] : List Nat).Nodup) (hM : ([] : List Nat).Nodup) (hC : gC l b0 D K RX11 cX11_findComesDown none 3 5 138 0 0) {x0 : Nat → Int32} {x16 : Nat → Int32} {x17 : Nat → Int32} {x18 : Nat → Int32} {x23 : Nat → Int32} {x24 : Nat → Int32} {x25 : Nat → Int32} {x26 : Nat → Int32} (hri : fX11_isWithin (x16 8) 0 (x0 4 - 1) = some 0) {rx33 : (Nat → Int32)} {rx35 : (Nat → Int32)} {rx36 : (Nat → Int32)} {rx37 : (Nat → Int32)} {rx38 : (Nat → Int32)} {rx39 : (Nat → Int32)} (hret : ∀ pc loc, decode cX11_findComesDown pc = .ok (.return_, 1) → gV l b0 D K (n, κ, ov X0 [0, 16, 17, 18, 23, 24, 25, 26, 33, 35, 36, 37, 38, 39] [x0, x16, x17, x18, x23, x24, x25, x26, rx33, rx35, rx36, rx37, rx38, rx39], ov Y0 [] [], Z, 0, 0) pc loc []) : ∀ (j : Nat) (v1 : Int32) (x33 : (Nat → Int32)) (x35 : (Nat → Int32)) (x36 : (Nat → Int32)) (x37 : (Nat → Int32)) (x38 : (Nat → Int32)) (x39 : (Nat → Int32)), lq7 (fX11_findComesDownN_25b x0 x16 x17 x18 x23 x24 x25 x26 ) j v1 x33 x35 x36 x37 x38 x39 = some (rx33, rx35, rx36, rx37, rx38, rx39) → gV l b0 D K (n, κ, ov X0 [0, 16, 17, 18, 23, 24, 25, 26, 33, 35, 36, 37, 38, 39] [x0, x16, x17, x18, x23, x24, x25, x26, x33, x35, x36, x37, x38, x39], ov Y0 [] [], Z, 0, 0) 25 [(0, .ref (b0 + 0)), (1, .int v1)] [] := by
  intro j
  induction j with
  | zero => intro v1 x33 x35 x36 x37 x38 x39 hf; cases hf
  | succ j hk25 =>
    intro v1 x33 x35 x36 x37 x38 x39 hf
    replace hf : fX11_findComesDownN_25b x0 x16 x17 x18 x23 x24 x25 x26  (lq7 (fX11_findComesDownN_25b x0 x16 x17 x18 x23 x24 x25 x26 ) j) v1 x33 x35 x36 x37 x38 x39 = some (rx33, rx35, rx36, rx37, rx38, rx39) := hf
    unfold fX11_findComesDownN_25b at hf
    refine g_iload_n hC 1 dX11_findComesDown_25 rfl rfl ?_
    refine g_bipush hC (v := 100) dX11_findComesDown_26 bp_100 ?_
    refine g_icmp_ge hC 129 dX11_findComesDown_28 (by decide) (fun hc => ?_) (fun hc => ?_)
    · replace hf := ifT hf hc
      obtain ⟨rfl, rfl, rfl, rfl, rfl, rfl⟩ := sm6E hf
      exact hret _ _ dX11_findComesDown_129
    · replace hf := ifF hf hc
      refine g_iconst hC (v := 0) dX11_findComesDown_31 ic_0 ?_
      refine g_istore_n hC (i := 2) [(2, .int 0), (0, .ref (b0 + 0)), (1, .int v1)] rfl dX11_findComesDown_32 (by decide) rfl ?_
      exact g_sub [1, 2, 0] rfl (wX11_findComesDownN_33 hL hN hM hC hri hret hk25 5000 v1 0 x33 x35 x36 x37 x38 x39 hf)

def fX11_findComesDownN_0   (x0 : Nat → Int32) (x16 : Nat → Int32) (x17 : Nat → Int32) (x18 : Nat → Int32) (x23 : Nat → Int32) (x24 : Nat → Int32) (x25 : Nat → Int32) (x26 : Nat → Int32)  (x33 : (Nat → Int32)) (x35 : (Nat → Int32)) (x36 : (Nat → Int32)) (x37 : (Nat → Int32)) (x38 : (Nat → Int32)) (x39 : (Nat → Int32)) : Option ((Nat → Int32) × (Nat → Int32) × (Nat → Int32) × (Nat → Int32) × (Nat → Int32) × (Nat → Int32)) := bd1 (fJ7_fill_53178 6 100 x39) fun x39_1 => (bd4 (fX7_copy x23 x24 x25 x26 x35 x36 x37 x38) fun x35_3 x36_4 x37_5 x38_6 => (fX11_findComesDownN_25 x0 x16 x17 x18 x23 x24 x25 x26  0 x33 x35_3 x36_4 x37_5 x38_6 x39_1))
set_option maxHeartbeats 4000000 in
set_option maxRecDepth 100000 in
theorem wX11_findComesDownN_0 {l : Launch} {b0 : Nat} {D : GD} {K : KT} {n : Nat} {κ : QT} {X0 : XT} {Y0 : YT} {Z : ZT} (hL : LY n κ) (hN : ([0, 16, 17, 18, 23, 24, 25, 26, 33, 35, 36, 37, 38, 39] : List Nat).Nodup) (hM : ([] : List Nat).Nodup) (hC : gC l b0 D K RX11 cX11_findComesDown none 3 5 138 0 0) {x0 : Nat → Int32} {x16 : Nat → Int32} {x17 : Nat → Int32} {x18 : Nat → Int32} {x23 : Nat → Int32} {x24 : Nat → Int32} {x25 : Nat → Int32} {x26 : Nat → Int32} (hri : fX11_isWithin (x16 8) 0 (x0 4 - 1) = some 0) {rx33 : (Nat → Int32)} {rx35 : (Nat → Int32)} {rx36 : (Nat → Int32)} {rx37 : (Nat → Int32)} {rx38 : (Nat → Int32)} {rx39 : (Nat → Int32)} (hret : ∀ pc loc, decode cX11_findComesDown pc = .ok (.return_, 1) → gV l b0 D K (n, κ, ov X0 [0, 16, 17, 18, 23, 24, 25, 26, 33, 35, 36, 37, 38, 39] [x0, x16, x17, x18, x23, x24, x25, x26, rx33, rx35, rx36, rx37, rx38, rx39], ov Y0 [] [], Z, 0, 0) pc loc []) {x33 : (Nat → Int32)} {x35 : (Nat → Int32)} {x36 : (Nat → Int32)} {x37 : (Nat → Int32)} {x38 : (Nat → Int32)} {x39 : (Nat → Int32)} (hf : fX11_findComesDownN_0 x0 x16 x17 x18 x23 x24 x25 x26  x33 x35 x36 x37 x38 x39 = some (rx33, rx35, rx36, rx37, rx38, rx39)) : gV l b0 D K (n, κ, ov X0 [0, 16, 17, 18, 23, 24, 25, 26, 33, 35, 36, 37, 38, 39] [x0, x16, x17, x18, x23, x24, x25, x26, x33, x35, x36, x37, x38, x39], ov Y0 [] [], Z, 0, 0) 0 [(0, .ref (b0 + 0))] [] := by
  unfold fX11_findComesDownN_0 at hf
  refine g_aload_n hC 0 dX11_findComesDown_0 rfl rfl ?_
  refine gt_X11_69 hC (a := 0) (kk_0 hL) (kn_0 hL) dX11_findComesDown_1 ?_
  refine g_ref (b := 39) rfl ?_
  refine g_bipush hC (v := 100) dX11_findComesDown_4 bp_100 ?_
  obtain ⟨x39_1, q_2, hf⟩ := bd1E hf
  refine g_callS_v hC (X' := ov X0 [0, 16, 17, 18, 23, 24, 25, 26, 33, 35, 36, 37, 38, 39] [x0, x16, x17, x18, x23, x24, x25, x26, x33, x35, x36, x37, x38, x39_1]) (Y' := ov Y0 [] []) (As := [.ref (b0 + 39), .int 100]) (gMv_eq (c_J7_fill_53178 l hL (kk_39 hL) (kn_39 hL) (nd_sub hN [13] (by decide) (by rfl)) (nd_sub hM [] (by decide) (by rfl)) (ov_map hN [13] (by rfl) (by rfl)) (ov_map hM [] (by rfl) (by rfl)) q_2) (ov_ovE hN (by rfl) [13] [0, 1, 2, 3, 4, 5, 6, 7, 8, 9, 10, 11, 12] (by rfl) (by rfl) [x0, x16, x17, x18, x23, x24, x25, x26, x33, x35, x36, x37, x38] (by rfl) (by rfl) (by rfl) 14 (by rfl) (by decide)) (ov_ovE hM (by rfl) [] [] (by rfl) (by rfl) [] (by rfl) (by rfl) (by rfl) 0 (by rfl) (by decide))) tw_528 tw_993 tw_128 tw_527 pd_J7_fill_53178 (by decide) (by decide) rfl rfl (Nat.le_of_ble_eq_true rfl) rfl dX11_findComesDown_6 ?_
  refine g_aload_n hC 0 dX11_findComesDown_9 rfl rfl ?_
  refine gt_X11_65 hC (a := 0) (kk_0 hL) (kn_0 hL) dX11_findComesDown_10 ?_
  refine g_ref (b := 35) rfl ?_
  refine g_aload_n hC 0 dX11_findComesDown_13 rfl rfl ?_
  refine gt_X11_41 hC (a := 0) (kk_0 hL) (kn_0 hL) dX11_findComesDown_14 ?_
  refine g_ref (b := 16) rfl ?_
  refine gt_X11_140 hC (a := 16) (kk_16 hL) (kn_16 hL) dX11_findComesDown_17 ?_
  refine g_ref (b := 23) rfl ?_
  obtain ⟨x35_3, x36_4, x37_5, x38_6, q_7, hf⟩ := bd4E hf
  refine g_callV_v (a := 35) hC (X' := ov X0 [0, 16, 17, 18, 23, 24, 25, 26, 33, 35, 36, 37, 38, 39] [x0, x16, x17, x18, x23, x24, x25, x26, x33, x35_3, x36_4, x37_5, x38_6, x39_1]) (Y' := ov Y0 [] []) (As := [.ref (b0 + 23)]) (gMv_eq (c_X7_copy l hL (kk_35 hL) (kn_35 hL) (kk_23 hL) (kn_23 hL) (nd_sub hN [9, 10, 11, 12, 4, 5, 6, 7] (by decide) (by rfl)) (nd_sub hM [] (by decide) (by rfl)) (ov_map hN [9, 10, 11, 12, 4, 5, 6, 7] (by rfl) (by rfl)) (ov_map hM [] (by rfl) (by rfl)) q_7) (ov_ovE hN (by rfl) [9, 10, 11, 12, 4, 5, 6, 7] [0, 1, 2, 3, 8, 13] (by rfl) (by rfl) [x0, x16, x17, x18, x33, x39_1] (by rfl) (by rfl) (by rfl) 14 (by rfl) (by decide)) (ov_ovE hM (by rfl) [] [] (by rfl) (by rfl) [] (by rfl) (by rfl) (by rfl) 0 (by rfl) (by decide))) tw_707 tw_976 tw_120 tw_705 tw_706 (ci := 7) rfl (by decide) (kk_35 hL) (kn_35 hL) pd_X7_copy (by decide) (by decide) rfl rfl (Nat.le_of_ble_eq_true rfl) rfl dX11_findComesDown_20 ?_
  refine g_iconst hC (v := 0) dX11_findComesDown_23 ic_0 ?_
  refine g_istore_n hC (i := 1) [(1, .int 0), (0, .ref (b0 + 0))] rfl dX11_findComesDown_24 (by decide) rfl ?_
  exact g_sub [1, 0] rfl (wX11_findComesDownN_25 hL hN hM hC hri hret  5000 0 x33 x35_3 x36_4 x37_5 x38_6 x39_1 hf)

def fX11_findComesDownN   (x0 : Nat → Int32) (x16 : Nat → Int32) (x17 : Nat → Int32) (x18 : Nat → Int32) (x23 : Nat → Int32) (x24 : Nat → Int32) (x25 : Nat → Int32) (x26 : Nat → Int32)   (x33 : Nat → Int32) (x35 : Nat → Int32) (x36 : Nat → Int32) (x37 : Nat → Int32) (x38 : Nat → Int32) (x39 : Nat → Int32)  : Option ((Nat → Int32) × (Nat → Int32) × (Nat → Int32) × (Nat → Int32) × (Nat → Int32) × (Nat → Int32)) := fX11_findComesDownN_0 x0 x16 x17 x18 x23 x24 x25 x26 x33 x35 x36 x37 x38 x39

set_option maxHeartbeats 4000000 in
set_option maxRecDepth 100000 in
theorem c_X11_findComesDownN (l : Launch) {b0 : Nat} {D : GD} {n : Nat} {κ : QT} {X0 : XT} {Y0 : YT} {Z : ZT} (hL : LY n κ) {x0 : Nat → Int32} {x16 : Nat → Int32} {x17 : Nat → Int32} {x18 : Nat → Int32} {x23 : Nat → Int32} {x24 : Nat → Int32} {x25 : Nat → Int32} {x26 : Nat → Int32} {x33 : Nat → Int32} {x35 : Nat → Int32} {x36 : Nat → Int32} {x37 : Nat → Int32} {x38 : Nat → Int32} {x39 : Nat → Int32} (hri : fX11_isWithin (x16 8) 0 (x0 4 - 1) = some 0) (hx : ([0, 16, 17, 18, 23, 24, 25, 26, 33, 35, 36, 37, 38, 39] : List Nat).map X0 = [x0, x16, x17, x18, x23, x24, x25, x26, x33, x35, x36, x37, x38, x39]) (hy : ([] : List Nat).map Y0 = []) {rx33 : (Nat → Int32)} {rx35 : (Nat → Int32)} {rx36 : (Nat → Int32)} {rx37 : (Nat → Int32)} {rx38 : (Nat → Int32)} {rx39 : (Nat → Int32)} (hf : fX11_findComesDownN x0 x16 x17 x18 x23 x24 x25 x26 x33 x35 x36 x37 x38 x39 = some (rx33, rx35, rx36, rx37, rx38, rx39)) : gMv l yX11_findComesDown cX11_findComesDown 3 none 5 138 0 0 b0 D [.ref (b0 + 0)] (n, κ, X0, Y0, Z) (n, κ, ov X0 [0, 16, 17, 18, 23, 24, 25, 26, 33, 35, 36, 37, 38, 39] [x0, x16, x17, x18, x23, x24, x25, x26, rx33, rx35, rx36, rx37, rx38, rx39], ov Y0 [] [], Z) := by
  have hN : ([0, 16, 17, 18, 23, 24, 25, 26, 33, 35, 36, 37, 38, 39] : List Nat).Nodup := by decide
  have hM : ([] : List Nat).Nodup := by decide
  refine g_metv (own := RX11) (by decide) rfl rfl (Nat.le_of_ble_eq_true rfl) ?_
  intro K hC hret
  have e := wX11_findComesDownN_0 hL hN hM hC hri hret hf
  rw [ov_id' hx, ov_id' hy] at e
  exact g_sub [0] rfl e

-- X11_findComesDown
def fX11_findComesDownR_87  (Lru : Nat) (xruz1 : Nat → Int32) (x0 : Nat → Int32) (x16 : Nat → Int32) (x17 : Nat → Int32) (x18 : Nat → Int32) (x23 : Nat → Int32) (x24 : Nat → Int32) (x25 : Nat → Int32) (x26 : Nat → Int32)  (k25 : Int32 → (Nat → Int32) → (Nat → Int32) → (Nat → Int32) → (Nat → Int32) → (Nat → Int32) → (Nat → Int32) → (Nat → Int64) → (Nat → Int64) → Option ((Nat → Int32) × (Nat → Int32) × (Nat → Int32) × (Nat → Int32) × (Nat → Int32) × (Nat → Int32) × (Nat → Int64) × (Nat → Int64))) (k33 : Int32 → Int32 → (Nat → Int32) → (Nat → Int32) → (Nat → Int32) → (Nat → Int32) → (Nat → Int32) → (Nat → Int32) → (Nat → Int64) → (Nat → Int64) → Option ((Nat → Int32) × (Nat → Int32) × (Nat → Int32) × (Nat → Int32) × (Nat → Int32) × (Nat → Int32) × (Nat → Int64) × (Nat → Int64))) (v1 : Int32) (v2 : Int32) (x33 : (Nat → Int32)) (x35 : (Nat → Int32)) (x36 : (Nat → Int32)) (x37 : (Nat → Int32)) (x38 : (Nat → Int32)) (x39 : (Nat → Int32)) (yruz2 : (Nat → Int64)) (y34 : (Nat → Int64)) : Option ((Nat → Int32) × (Nat → Int32) × (Nat → Int32) × (Nat → Int32) × (Nat → Int32) × (Nat → Int32) × (Nat → Int64) × (Nat → Int64)) := bn (v2 + 1) fun t_1 => (k33 v1 t_1 x33 x35 x36 x37 x38 x39 yruz2 y34)
set_option maxHeartbeats 4000000 in
set_option maxRecDepth 100000 in
theorem wX11_findComesDownR_87 {l : Launch} {b0 : Nat} {D : GD} {K : KT} {n : Nat} {κ : QT} {X0 : XT} {Y0 : YT} {Z : ZT} {ru : Nat} {Lru : Nat} (hL : LY n κ) (hk_ru : κ ru = (4, 0)) (hn_ru : ru < n) (hk_ru_1 : κ (ru + 1) = (14, Lru)) (hN : ([ru + 1, 0, 16, 17, 18, 23, 24, 25, 26, 33, 35, 36, 37, 38, 39] : List Nat).Nodup) (hM : ([ru + 2, 34] : List Nat).Nodup) (hC : gC l b0 D K RX11 cX11_findComesDown none 3 5 138 0 0) {xruz1 : Nat → Int32} {x0 : Nat → Int32} {x16 : Nat → Int32} {x17 : Nat → Int32} {x18 : Nat → Int32} {x23 : Nat → Int32} {x24 : Nat → Int32} {x25 : Nat → Int32} {x26 : Nat → Int32} (hri : fX11_isWithin (x16 8) 0 (x0 4 - 1) = some 1 ∧ inb (x16 8) 6 = true ∧ Z 15 (x16 8).toNatClampNeg = some ru) {rx33 : (Nat → Int32)} {rx35 : (Nat → Int32)} {rx36 : (Nat → Int32)} {rx37 : (Nat → Int32)} {rx38 : (Nat → Int32)} {rx39 : (Nat → Int32)} {ryruz2 : (Nat → Int64)} {ry34 : (Nat → Int64)} (hret : ∀ pc loc, decode cX11_findComesDown pc = .ok (.return_, 1) → gV l b0 D K (n, κ, ov X0 [ru + 1, 0, 16, 17, 18, 23, 24, 25, 26, 33, 35, 36, 37, 38, 39] [xruz1, x0, x16, x17, x18, x23, x24, x25, x26, rx33, rx35, rx36, rx37, rx38, rx39], ov Y0 [ru + 2, 34] [ryruz2, ry34], Z, 0, 0) pc loc []) {k25 : Int32 → (Nat → Int32) → (Nat → Int32) → (Nat → Int32) → (Nat → Int32) → (Nat → Int32) → (Nat → Int32) → (Nat → Int64) → (Nat → Int64) → Option ((Nat → Int32) × (Nat → Int32) × (Nat → Int32) × (Nat → Int32) × (Nat → Int32) × (Nat → Int32) × (Nat → Int64) × (Nat → Int64))} (hk25 : ∀ (v1 : Int32) (x33 : (Nat → Int32)) (x35 : (Nat → Int32)) (x36 : (Nat → Int32)) (x37 : (Nat → Int32)) (x38 : (Nat → Int32)) (x39 : (Nat → Int32)) (yruz2 : (Nat → Int64)) (y34 : (Nat → Int64)), k25 v1 x33 x35 x36 x37 x38 x39 yruz2 y34 = some (rx33, rx35, rx36, rx37, rx38, rx39, ryruz2, ry34) → gV l b0 D K (n, κ, ov X0 [ru + 1, 0, 16, 17, 18, 23, 24, 25, 26, 33, 35, 36, 37, 38, 39] [xruz1, x0, x16, x17, x18, x23, x24, x25, x26, x33, x35, x36, x37, x38, x39], ov Y0 [ru + 2, 34] [yruz2, y34], Z, 0, 0) 25 [(0, .ref (b0 + 0)), (1, .int v1)] []) {k33 : Int32 → Int32 → (Nat → Int32) → (Nat → Int32) → (Nat → Int32) → (Nat → Int32) → (Nat → Int32) → (Nat → Int32) → (Nat → Int64) → (Nat → Int64) → Option ((Nat → Int32) × (Nat → Int32) × (Nat → Int32) × (Nat → Int32) × (Nat → Int32) × (Nat → Int32) × (Nat → Int64) × (Nat → Int64))} (hk33 : ∀ (v1 : Int32) (v2 : Int32) (x33 : (Nat → Int32)) (x35 : (Nat → Int32)) (x36 : (Nat → Int32)) (x37 : (Nat → Int32)) (x38 : (Nat → Int32)) (x39 : (Nat → Int32)) (yruz2 : (Nat → Int64)) (y34 : (Nat → Int64)), k33 v1 v2 x33 x35 x36 x37 x38 x39 yruz2 y34 = some (rx33, rx35, rx36, rx37, rx38, rx39, ryruz2, ry34) → gV l b0 D K (n, κ, ov X0 [ru + 1, 0, 16, 17, 18, 23, 24, 25, 26, 33, 35, 36, 37, 38, 39] [xruz1, x0, x16, x17, x18, x23, x24, x25, x26, x33, x35, x36, x37, x38, x39], ov Y0 [ru + 2, 34] [yruz2, y34], Z, 0, 0) 33 [(0, .ref (b0 + 0)), (1, .int v1), (2, .int v2)] []) {v1 : Int32} {v2 : Int32} {x33 : (Nat → Int32)} {x35 : (Nat → Int32)} {x36 : (Nat → Int32)} {x37 : (Nat → Int32)} {x38 : (Nat → Int32)} {x39 : (Nat → Int32)} {yruz2 : (Nat → Int64)} {y34 : (Nat → Int64)} (hf : fX11_findComesDownR_87 Lru xruz1 x0 x16 x17 x18 x23 x24 x25 x26 k25 k33 v1 v2 x33 x35 x36 x37 x38 x39 yruz2 y34 = some (rx33, rx35, rx36, rx37, rx38, rx39, ryruz2, ry34)) : gV l b0 D K (n, κ, ov X0 [ru + 1, 0, 16, 17, 18, 23, 24, 25, 26, 33, 35, 36, 37, 38, 39] [xruz1, x0, x16, x17, x18, x23, x24, x25, x26, x33, x35, x36, x37, x38, x39], ov Y0 [ru + 2, 34] [yruz2, y34], Z, 0, 0) 87 [(0, .ref (b0 + 0)), (1, .int v1), (2, .int v2)] [] := by
  unfold fX11_findComesDownR_87 at hf
  obtain ⟨t_1, et_1, hf⟩ := bnE hf
  refine g_iinc hC (i := 2) (v := t_1) [(2, .int t_1), (0, .ref (b0 + 0)), (1, .int v1)] dX11_findComesDown_87 (q := 2) rfl ((congrArg (HAdd.hAdd v2) ic_1).trans et_1.symm) (by decide) rfl ?_
  refine g_goto hC 33 dX11_findComesDown_90 (by decide) ?_
  exact g_sub [1, 2, 0] rfl (hk33 v1 t_1 x33 x35 x36 x37 x38 x39 yruz2 y34 hf)

def fX11_findComesDownR_33b  (Lru : Nat) (xruz1 : Nat → Int32) (x0 : Nat → Int32) (x16 : Nat → Int32) (x17 : Nat → Int32) (x18 : Nat → Int32) (x23 : Nat → Int32) (x24 : Nat → Int32) (x25 : Nat → Int32) (x26 : Nat → Int32)  (k25 : Int32 → (Nat → Int32) → (Nat → Int32) → (Nat → Int32) → (Nat → Int32) → (Nat → Int32) → (Nat → Int32) → (Nat → Int64) → (Nat → Int64) → Option ((Nat → Int32) × (Nat → Int32) × (Nat → Int32) × (Nat → Int32) × (Nat → Int32) × (Nat → Int32) × (Nat → Int64) × (Nat → Int64))) (k33 : Int32 → Int32 → (Nat → Int32) → (Nat → Int32) → (Nat → Int32) → (Nat → Int32) → (Nat → Int32) → (Nat → Int32) → (Nat → Int64) → (Nat → Int64) → Option ((Nat → Int32) × (Nat → Int32) × (Nat → Int32) × (Nat → Int32) × (Nat → Int32) × (Nat → Int32) × (Nat → Int64) × (Nat → Int64))) (v1 : Int32) (v2 : Int32) (x33 : (Nat → Int32)) (x35 : (Nat → Int32)) (x36 : (Nat → Int32)) (x37 : (Nat → Int32)) (x38 : (Nat → Int32)) (x39 : (Nat → Int32)) (yruz2 : (Nat → Int64)) (y34 : (Nat → Int64)) : Option ((Nat → Int32) × (Nat → Int32) × (Nat → Int32) × (Nat → Int32) × (Nat → Int32) × (Nat → Int32) × (Nat → Int64) × (Nat → Int64)) := if (x17 4) ≤ v2 then (bd1 (fX9_heatOf x35 x17 x18) fun r_1 => (bd8 (fX1_passR Lru xruz1 x17 x18 r_1 x35 x36 x37 x38 x33 yruz2 y34) fun r_3 x35_4 x36_5 x37_6 x38_7 x33_8 yruz2_9 y34_10 => (bn (v1 + 1) fun t_12 => (k25 t_12 x33_8 x35_4 x36_5 x37_6 x38_7 x39 yruz2_9 y34_10)))) else (gd (inb v2 6) (if (x39 v2.toNatClampNeg) = 100 then (gd (inb v2 6) (if (x36 v2.toNatClampNeg) < (x17 0) then (fX11_findComesDownR_87 Lru xruz1 x0 x16 x17 x18 x23 x24 x25 x26 k25 k33 v1 v2 x33 x35 x36 x37 x38 x39 yruz2 y34) else (gd (inb v2 6) (fX11_findComesDownR_87 Lru xruz1 x0 x16 x17 x18 x23 x24 x25 x26 k25 k33 v1 v2 x33 x35 x36 x37 x38 (upd x39 v2.toNatClampNeg v1) yruz2 y34)))) else (fX11_findComesDownR_87 Lru xruz1 x0 x16 x17 x18 x23 x24 x25 x26 k25 k33 v1 v2 x33 x35 x36 x37 x38 x39 yruz2 y34)))
def fX11_findComesDownR_33  (Lru : Nat) (xruz1 : Nat → Int32) (x0 : Nat → Int32) (x16 : Nat → Int32) (x17 : Nat → Int32) (x18 : Nat → Int32) (x23 : Nat → Int32) (x24 : Nat → Int32) (x25 : Nat → Int32) (x26 : Nat → Int32)  (k25 : Int32 → (Nat → Int32) → (Nat → Int32) → (Nat → Int32) → (Nat → Int32) → (Nat → Int32) → (Nat → Int32) → (Nat → Int64) → (Nat → Int64) → Option ((Nat → Int32) × (Nat → Int32) × (Nat → Int32) × (Nat → Int32) × (Nat → Int32) × (Nat → Int32) × (Nat → Int64) × (Nat → Int64))) : Int32 → Int32 → (Nat → Int32) → (Nat → Int32) → (Nat → Int32) → (Nat → Int32) → (Nat → Int32) → (Nat → Int32) → (Nat → Int64) → (Nat → Int64) → Option ((Nat → Int32) × (Nat → Int32) × (Nat → Int32) × (Nat → Int32) × (Nat → Int32) × (Nat → Int32) × (Nat → Int64) × (Nat → Int64)) := lq10 (fX11_findComesDownR_33b Lru xruz1 x0 x16 x17 x18 x23 x24 x25 x26 k25) 5000
set_option maxHeartbeats 4000000 in
set_option maxRecDepth 100000 in
theorem wX11_findComesDownR_33 {l : Launch} {b0 : Nat} {D : GD} {K : KT} {n : Nat} {κ : QT} {X0 : XT} {Y0 : YT} {Z : ZT} {ru : Nat} {Lru : Nat} (hL : LY n κ) (hk_ru : κ ru = (4, 0)) (hn_ru : ru < n) (hk_ru_1 : κ (ru + 1) = (14, Lru)) (hN : ([ru + 1, 0, 16, 17, 18, 23, 24, 25, 26, 33, 35, 36, 37, 38, 39] : List Nat).Nodup) (hM : ([ru + 2, 34] : List Nat).Nodup) (hC : gC l b0 D K RX11 cX11_findComesDown none 3 5 138 0 0) {xruz1 : Nat → Int32} {x0 : Nat → Int32} {x16 : Nat → Int32} {x17 : Nat → Int32} {x18 : Nat → Int32} {x23 : Nat → Int32} {x24 : Nat → Int32} {x25 : Nat → Int32} {x26 : Nat → Int32} (hri : fX11_isWithin (x16 8) 0 (x0 4 - 1) = some 1 ∧ inb (x16 8) 6 = true ∧ Z 15 (x16 8).toNatClampNeg = some ru) {rx33 : (Nat → Int32)} {rx35 : (Nat → Int32)} {rx36 : (Nat → Int32)} {rx37 : (Nat → Int32)} {rx38 : (Nat → Int32)} {rx39 : (Nat → Int32)} {ryruz2 : (Nat → Int64)} {ry34 : (Nat → Int64)} (hret : ∀ pc loc, decode cX11_findComesDown pc = .ok (.return_, 1) → gV l b0 D K (n, κ, ov X0 [ru + 1, 0, 16, 17, 18, 23, 24, 25, 26, 33, 35, 36, 37, 38, 39] [xruz1, x0, x16, x17, x18, x23, x24, x25, x26, rx33, rx35, rx36, rx37, rx38, rx39], ov Y0 [ru + 2, 34] [ryruz2, ry34], Z, 0, 0) pc loc []) {k25 : Int32 → (Nat → Int32) → (Nat → Int32) → (Nat → Int32) → (Nat → Int32) → (Nat → Int32) → (Nat → Int32) → (Nat → Int64) → (Nat → Int64) → Option ((Nat → Int32) × (Nat → Int32) × (Nat → Int32) × (Nat → Int32) × (Nat → Int32) × (Nat → Int32) × (Nat → Int64) × (Nat → Int64))} (hk25 : ∀ (v1 : Int32) (x33 : (Nat → Int32)) (x35 : (Nat → Int32)) (x36 : (Nat → Int32)) (x37 : (Nat → Int32)) (x38 : (Nat → Int32)) (x39 : (Nat → Int32)) (yruz2 : (Nat → Int64)) (y34 : (Nat → Int64)), k25 v1 x33 x35 x36 x37 x38 x39 yruz2 y34 = some (rx33, rx35, rx36, rx37, rx38, rx39, ryruz2, ry34) → gV l b0 D K (n, κ, ov X0 [ru + 1, 0, 16, 17, 18, 23, 24, 25, 26, 33, 35, 36, 37, 38, 39] [xruz1, x0, x16, x17, x18, x23, x24, x25, x26, x33, x35, x36, x37, x38, x39], ov Y0 [ru + 2, 34] [yruz2, y34], Z, 0, 0) 25 [(0, .ref (b0 + 0)), (1, .int v1)] []) : ∀ (j : Nat) (v1 : Int32) (v2 : Int32) (x33 : (Nat → Int32)) (x35 : (Nat → Int32)) (x36 : (Nat → Int32)) (x37 : (Nat → Int32)) (x38 : (Nat → Int32)) (x39 : (Nat → Int32)) (yruz2 : (Nat → Int64)) (y34 : (Nat → Int64)), lq10 (fX11_findComesDownR_33b Lru xruz1 x0 x16 x17 x18 x23 x24 x25 x26 k25) j v1 v2 x33 x35 x36 x37 x38 x39 yruz2 y34 = some (rx33, rx35, rx36, rx37, rx38, rx39, ryruz2, ry34) → gV l b0 D K (n, κ, ov X0 [ru + 1, 0, 16, 17, 18, 23, 24, 25, 26, 33, 35, 36, 37, 38, 39] [xruz1, x0, x16, x17, x18, x23, x24, x25, x26, x33, x35, x36, x37, x38, x39], ov Y0 [ru + 2, 34] [yruz2, y34], Z, 0, 0) 33 [(0, .ref (b0 + 0)), (1, .int v1), (2, .int v2)] [] := by
  intro j
  induction j with
  | zero => intro v1 v2 x33 x35 x36 x37 x38 x39 yruz2 y34 hf; cases hf
  | succ j hk33 =>
    intro v1 v2 x33 x35 x36 x37 x38 x39 yruz2 y34 hf
    replace hf : fX11_findComesDownR_33b Lru xruz1 x0 x16 x17 x18 x23 x24 x25 x26 k25 (lq10 (fX11_findComesDownR_33b Lru xruz1 x0 x16 x17 x18 x23 x24 x25 x26 k25) j) v1 v2 x33 x35 x36 x37 x38 x39 yruz2 y34 = some (rx33, rx35, rx36, rx37, rx38, rx39, ryruz2, ry34) := hf
    unfold fX11_findComesDownR_33b at hf
    refine g_iload_n hC 2 dX11_findComesDown_33 rfl rfl ?_
    refine g_aload_n hC 0 dX11_findComesDown_34 rfl rfl ?_
    refine gt_X11_41 hC (a := 0) (kk_0 hL) (kn_0 hL) dX11_findComesDown_35 ?_
    refine g_ref (b := 16) rfl ?_
    refine gt_X11_51 hC (a := 16) (kk_16 hL) (kn_16 hL) dX11_findComesDown_38 ?_
    refine g_ref (b := 17) rfl ?_
    refine gt_X11_117 hC (x := x17) (kk_17 hL) (kn_17 hL) (ov_get hN 3 rfl rfl) dX11_findComesDown_41 ?_
    refine g_icmp_ge hC 93 dX11_findComesDown_44 (by decide) (fun hc => ?_) (fun hc => ?_)
    · replace hf := ifT hf hc
      refine g_aload_n hC 0 dX11_findComesDown_93 rfl rfl ?_
      refine gt_X11_58 hC (a := 0) (kk_0 hL) (kn_0 hL) dX11_findComesDown_94 ?_
      refine g_ref (b := 32) rfl ?_
      refine g_aload_n hC 0 dX11_findComesDown_97 rfl rfl ?_
      refine gt_X11_65 hC (a := 0) (kk_0 hL) (kn_0 hL) dX11_findComesDown_98 ?_
      refine g_ref (b := 35) rfl ?_
      refine g_aload_n hC 0 dX11_findComesDown_101 rfl rfl ?_
      refine g_callV_q (a := 0) hC (As := []) (c_rifR l hL (ov_get hN 1 rfl rfl) (ov_get hN 2 rfl rfl) hri) tw_869 tw_866 tw_116 tw_868 tw_28 (ci := 11) rfl (by decide) (kk_0 hL) (kn_0 hL) pd_X11_ruleInForce (by decide) (by decide) rfl rfl (Nat.le_of_ble_eq_true rfl) rfl dX11_findComesDown_102 ?_
      refine g_aload_n hC 0 dX11_findComesDown_105 rfl rfl ?_
      refine gt_X11_41 hC (a := 0) (kk_0 hL) (kn_0 hL) dX11_findComesDown_106 ?_
      refine g_ref (b := 16) rfl ?_
      refine gt_X11_51 hC (a := 16) (kk_16 hL) (kn_16 hL) dX11_findComesDown_109 ?_
      refine g_ref (b := 17) rfl ?_
      refine g_aload_n hC 0 dX11_findComesDown_112 rfl rfl ?_
      refine gt_X11_65 hC (a := 0) (kk_0 hL) (kn_0 hL) dX11_findComesDown_113 ?_
      refine g_ref (b := 35) rfl ?_
      obtain ⟨r_1, q_2, hf⟩ := bd1E hf
      refine g_callV_i (a := 17) hC (X' := ov X0 [ru + 1, 0, 16, 17, 18, 23, 24, 25, 26, 33, 35, 36, 37, 38, 39] [xruz1, x0, x16, x17, x18, x23, x24, x25, x26, x33, x35, x36, x37, x38, x39]) (Y' := ov Y0 [ru + 2, 34] [yruz2, y34]) (As := [.ref (b0 + 35)]) (gMi_eq (c_X9_heatOf l hL (kk_35 hL) (kn_35 hL) (nd_sub hN [10, 3, 4] (by decide) (by rfl)) (nd_sub hM [] (by decide) (by rfl)) (ov_map hN [10, 3, 4] (by rfl) (by rfl)) (ov_map hM [] (by rfl) (by rfl)) q_2) (ov_ovE hN (by rfl) [10, 3, 4] [0, 1, 2, 5, 6, 7, 8, 9, 11, 12, 13, 14] (by rfl) (by rfl) [xruz1, x0, x16, x23, x24, x25, x26, x33, x36, x37, x38, x39] (by rfl) (by rfl) (by rfl) 15 (by rfl) (by decide)) (ov_ovE hM (by rfl) [] [0, 1] (by rfl) (by rfl) [yruz2, y34] (by rfl) (by rfl) (by rfl) 2 (by rfl) (by decide))) tw_806 tw_803 tw_119 tw_804 tw_805 (ci := 9) rfl (by decide) (kk_17 hL) (kn_17 hL) pd_X9_heatOf (by decide) (by decide) rfl rfl (Nat.le_of_ble_eq_true rfl) rfl dX11_findComesDown_116 ?_
      obtain ⟨r_3, x35_4, x36_5, x37_6, x38_7, x33_8, yruz2_9, y34_10, q_11, hf⟩ := bd8E hf
      refine g_callV_i (a := 32) hC (X' := ov X0 [ru + 1, 0, 16, 17, 18, 23, 24, 25, 26, 33, 35, 36, 37, 38, 39] [xruz1, x0, x16, x17, x18, x23, x24, x25, x26, x33_8, x35_4, x36_5, x37_6, x38_7, x39]) (Y' := ov Y0 [ru + 2, 34] [yruz2_9, y34_10]) (As := [.ref (b0 + 35), .ref (b0 + ru), .int r_1]) (gMi_eq (c_X1_passR l hL (kk_35 hL) (kn_35 hL) hk_ru hn_ru hk_ru_1 (nd_sub hN [10, 11, 12, 13, 0, 3, 4, 9] (by decide) (by rfl)) (nd_sub hM [0, 1] (by decide) (by rfl)) (ov_map hN [10, 11, 12, 13, 0, 3, 4, 9] (by rfl) (by rfl)) (ov_map hM [0, 1] (by rfl) (by rfl)) q_11) (ov_ovE hN (by rfl) [10, 11, 12, 13, 0, 3, 4, 9] [1, 2, 5, 6, 7, 8, 14] (by rfl) (by rfl) [x0, x16, x23, x24, x25, x26, x39] (by rfl) (by rfl) (by rfl) 15 (by rfl) (by decide)) (ov_ovE hM (by rfl) [0, 1] [] (by rfl) (by rfl) [] (by rfl) (by rfl) (by rfl) 2 (by rfl) (by decide))) tw_874 tw_871 tw_123 tw_872 tw_873 (ci := 1) rfl (by decide) (kk_32 hL) (kn_32 hL) pd_X1_pass (by decide) (by decide) rfl rfl (Nat.le_of_ble_eq_true rfl) rfl dX11_findComesDown_119 ?_
      refine g_pop hC dX11_findComesDown_122 rfl ?_
      obtain ⟨t_12, et_12, hf⟩ := bnE hf
      refine g_iinc hC (i := 1) (v := t_12) [(1, .int t_12), (0, .ref (b0 + 0)), (2, .int v2)] dX11_findComesDown_123 (q := 1) rfl ((congrArg (HAdd.hAdd v1) ic_1).trans et_12.symm) (by decide) rfl ?_
      refine g_goto hC 25 dX11_findComesDown_126 (by decide) ?_
      exact g_sub [1, 0] rfl (hk25 t_12 x33_8 x35_4 x36_5 x37_6 x38_7 x39 yruz2_9 y34_10 hf)
    · replace hf := ifF hf hc
      refine g_aload_n hC 0 dX11_findComesDown_47 rfl rfl ?_
      refine gt_X11_69 hC (a := 0) (kk_0 hL) (kn_0 hL) dX11_findComesDown_48 ?_
      refine g_ref (b := 39) rfl ?_
      refine g_iload_n hC 2 dX11_findComesDown_51 rfl rfl ?_
      obtain ⟨h_13, hf⟩ := gdE hf
      refine g_iald hC (x := x39) (kk_39 hL) (kn_39 hL) (ov_get hN 14 rfl rfl) (inb_in h_13) dX11_findComesDown_52 ?_
      refine g_bipush hC (v := 100) dX11_findComesDown_53 bp_100 ?_
      refine g_icmp_ne hC 87 dX11_findComesDown_55 (by decide) (fun hc => ?_) (fun hc => ?_)
      · replace hf := ifF hf hc
        exact g_sub [0, 1, 2] rfl (wX11_findComesDownR_87 hL hk_ru hn_ru hk_ru_1 hN hM hC hri hret hk25 hk33 hf)
      · replace hf := ifT hf hc
        refine g_aload_n hC 0 dX11_findComesDown_58 rfl rfl ?_
        refine gt_X11_65 hC (a := 0) (kk_0 hL) (kn_0 hL) dX11_findComesDown_59 ?_
        refine g_ref (b := 35) rfl ?_
        refine gt_X11_143 hC (a := 35) (kk_35 hL) (kn_35 hL) dX11_findComesDown_62 ?_
        refine g_ref (b := 36) rfl ?_
        refine g_iload_n hC 2 dX11_findComesDown_65 rfl rfl ?_
        obtain ⟨h_14, hf⟩ := gdE hf
        refine g_iald hC (x := x36) (kk_36 hL) (kn_36 hL) (ov_get hN 11 rfl rfl) (inb_in h_14) dX11_findComesDown_66 ?_
        refine g_aload_n hC 0 dX11_findComesDown_67 rfl rfl ?_
        refine gt_X11_41 hC (a := 0) (kk_0 hL) (kn_0 hL) dX11_findComesDown_68 ?_
        refine g_ref (b := 16) rfl ?_
        refine gt_X11_51 hC (a := 16) (kk_16 hL) (kn_16 hL) dX11_findComesDown_71 ?_
        refine g_ref (b := 17) rfl ?_
        refine gt_X11_202 hC (x := x17) (kk_17 hL) (kn_17 hL) (ov_get hN 3 rfl rfl) dX11_findComesDown_74 ?_
        refine g_icmp_lt hC 87 dX11_findComesDown_77 (by decide) (fun hc => ?_) (fun hc => ?_)
        · replace hf := ifT hf hc
          exact g_sub [0, 1, 2] rfl (wX11_findComesDownR_87 hL hk_ru hn_ru hk_ru_1 hN hM hC hri hret hk25 hk33 hf)
        · replace hf := ifF hf hc
          refine g_aload_n hC 0 dX11_findComesDown_80 rfl rfl ?_
          refine gt_X11_69 hC (a := 0) (kk_0 hL) (kn_0 hL) dX11_findComesDown_81 ?_
          refine g_ref (b := 39) rfl ?_
          refine g_iload_n hC 2 dX11_findComesDown_84 rfl rfl ?_
          refine g_iload_n hC 1 dX11_findComesDown_85 rfl rfl ?_
          obtain ⟨h_15, hf⟩ := gdE hf
          refine g_iast hC (x := x39) (kk_39 hL) (kn_39 hL) (ov_get hN 14 rfl rfl) (inb_in h_15) (ov_set hN (by rfl) 14 (by rfl)) dX11_findComesDown_86 ?_
          show gV l b0 D K (n, κ, ov X0 [ru + 1, 0, 16, 17, 18, 23, 24, 25, 26, 33, 35, 36, 37, 38, 39] [xruz1, x0, x16, x17, x18, x23, x24, x25, x26, x33, x35, x36, x37, x38, (upd x39 v2.toNatClampNeg v1)], ov Y0 [ru + 2, 34] [yruz2, y34], Z, 0, 0) 87 [(0, .ref (b0 + 0)), (1, .int v1), (2, .int v2)] []
          exact g_sub [0, 1, 2] rfl (wX11_findComesDownR_87 hL hk_ru hn_ru hk_ru_1 hN hM hC hri hret hk25 hk33 hf)

def fX11_findComesDownR_25b  (Lru : Nat) (xruz1 : Nat → Int32) (x0 : Nat → Int32) (x16 : Nat → Int32) (x17 : Nat → Int32) (x18 : Nat → Int32) (x23 : Nat → Int32) (x24 : Nat → Int32) (x25 : Nat → Int32) (x26 : Nat → Int32)  (k25 : Int32 → (Nat → Int32) → (Nat → Int32) → (Nat → Int32) → (Nat → Int32) → (Nat → Int32) → (Nat → Int32) → (Nat → Int64) → (Nat → Int64) → Option ((Nat → Int32) × (Nat → Int32) × (Nat → Int32) × (Nat → Int32) × (Nat → Int32) × (Nat → Int32) × (Nat → Int64) × (Nat → Int64))) (v1 : Int32) (x33 : (Nat → Int32)) (x35 : (Nat → Int32)) (x36 : (Nat → Int32)) (x37 : (Nat → Int32)) (x38 : (Nat → Int32)) (x39 : (Nat → Int32)) (yruz2 : (Nat → Int64)) (y34 : (Nat → Int64)) : Option ((Nat → Int32) × (Nat → Int32) × (Nat → Int32) × (Nat → Int32) × (Nat → Int32) × (Nat → Int32) × (Nat → Int64) × (Nat → Int64)) := if 100 ≤ v1 then (some (x33, x35, x36, x37, x38, x39, yruz2, y34)) else (fX11_findComesDownR_33 Lru xruz1 x0 x16 x17 x18 x23 x24 x25 x26 k25 v1 0 x33 x35 x36 x37 x38 x39 yruz2 y34)
def fX11_findComesDownR_25  (Lru : Nat) (xruz1 : Nat → Int32) (x0 : Nat → Int32) (x16 : Nat → Int32) (x17 : Nat → Int32) (x18 : Nat → Int32) (x23 : Nat → Int32) (x24 : Nat → Int32) (x25 : Nat → Int32) (x26 : Nat → Int32)  : Int32 → (Nat → Int32) → (Nat → Int32) → (Nat → Int32) → (Nat → Int32) → (Nat → Int32) → (Nat → Int32) → (Nat → Int64) → (Nat → Int64) → Option ((Nat → Int32) × (Nat → Int32) × (Nat → Int32) × (Nat → Int32) × (Nat → Int32) × (Nat → Int32) × (Nat → Int64) × (Nat → Int64)) := lq9 (fX11_findComesDownR_25b Lru xruz1 x0 x16 x17 x18 x23 x24 x25 x26 ) 5000
set_option maxHeartbeats 4000000 in
set_option maxRecDepth 100000 in
theorem wX11_findComesDownR_25 {l : Launch} {b0 : Nat} {D : GD} {K : KT} {n : Nat} {κ : QT} {X0 : XT} {Y0 : YT} {Z : ZT} {ru : Nat} {Lru : Nat} (hL : LY n κ) (hk_ru : κ ru = (4, 0)) (hn_ru : ru < n) (hk_ru_1 : κ (ru + 1) = (14, Lru)) (hN : ([ru + 1, 0, 16, 17, 18, 23, 24, 25, 26, 33, 35, 36, 37, 38, 39] : List Nat).Nodup) (hM : ([ru + 2, 34] : List Nat).Nodup) (hC : gC l b0 D K RX11 cX11_findComesDown none 3 5 138 0 0) {xruz1 : Nat → Int32} {x0 : Nat → Int32} {x16 : Nat → Int32} {x17 : Nat → Int32} {x18 : Nat → Int32} {x23 : Nat → Int32} {x24 : Nat → Int32} {x25 : Nat → Int32} {x26 : Nat → Int32} (hri : fX11_isWithin (x16 8) 0 (x0 4 - 1) = some 1 ∧ inb (x16 8) 6 = true ∧ Z 15 (x16 8).toNatClampNeg = some ru) {rx33 : (Nat → Int32)} {rx35 : (Nat → Int32)} {rx36 : (Nat → Int32)} {rx37 : (Nat → Int32)} {rx38 : (Nat → Int32)} {rx39 : (Nat → Int32)} {ryruz2 : (Nat → Int64)} {ry34 : (Nat → Int64)} (hret : ∀ pc loc, decode cX11_findComesDown pc = .ok (.return_, 1) → gV l b0 D K (n, κ, ov X0 [ru + 1, 0, 16, 17, 18, 23, 24, 25, 26, 33, 35, 36, 37, 38, 39] [xruz1, x0, x16, x17, x18, x23, x24, x25, x26, rx33, rx35, rx36, rx37, rx38, rx39], ov Y0 [ru + 2, 34] [ryruz2, ry34], Z, 0, 0) pc loc []) : ∀ (j : Nat) (v1 : Int32) (x33 : (Nat → Int32)) (x35 : (Nat → Int32)) (x36 : (Nat → Int32)) (x37 : (Nat → Int32)) (x38 : (Nat → Int32)) (x39 : (Nat → Int32)) (yruz2 : (Nat → Int64)) (y34 : (Nat → Int64)), lq9 (fX11_findComesDownR_25b Lru xruz1 x0 x16 x17 x18 x23 x24 x25 x26 ) j v1 x33 x35 x36 x37 x38 x39 yruz2 y34 = some (rx33, rx35, rx36, rx37, rx38, rx39, ryruz2, ry34) → gV l b0 D K (n, κ, ov X0 [ru + 1, 0, 16, 17, 18, 23, 24, 25, 26, 33, 35, 36, 37, 38, 39] [xruz1, x0, x16, x17, x18, x23, x24, x25, x26, x33, x35, x36, x37, x38, x39], ov Y0 [ru + 2, 34] [yruz2, y34], Z, 0, 0) 25 [(0, .ref (b0 + 0)), (1, .int v1)] [] := by
  intro j
  induction j with
  | zero => intro v1 x33 x35 x36 x37 x38 x39 yruz2 y34 hf; cases hf
  | succ j hk25 =>
    intro v1 x33 x35 x36 x37 x38 x39 yruz2 y34 hf
    replace hf : fX11_findComesDownR_25b Lru xruz1 x0 x16 x17 x18 x23 x24 x25 x26  (lq9 (fX11_findComesDownR_25b Lru xruz1 x0 x16 x17 x18 x23 x24 x25 x26 ) j) v1 x33 x35 x36 x37 x38 x39 yruz2 y34 = some (rx33, rx35, rx36, rx37, rx38, rx39, ryruz2, ry34) := hf
    unfold fX11_findComesDownR_25b at hf
    refine g_iload_n hC 1 dX11_findComesDown_25 rfl rfl ?_
    refine g_bipush hC (v := 100) dX11_findComesDown_26 bp_100 ?_
    refine g_icmp_ge hC 129 dX11_findComesDown_28 (by decide) (fun hc => ?_) (fun hc => ?_)
    · replace hf := ifT hf hc
      obtain ⟨rfl, rfl, rfl, rfl, rfl, rfl, rfl, rfl⟩ := sm8E hf
      exact hret _ _ dX11_findComesDown_129
    · replace hf := ifF hf hc
      refine g_iconst hC (v := 0) dX11_findComesDown_31 ic_0 ?_
      refine g_istore_n hC (i := 2) [(2, .int 0), (0, .ref (b0 + 0)), (1, .int v1)] rfl dX11_findComesDown_32 (by decide) rfl ?_
      exact g_sub [1, 2, 0] rfl (wX11_findComesDownR_33 hL hk_ru hn_ru hk_ru_1 hN hM hC hri hret hk25 5000 v1 0 x33 x35 x36 x37 x38 x39 yruz2 y34 hf)

def fX11_findComesDownR_0  (Lru : Nat) (xruz1 : Nat → Int32) (x0 : Nat → Int32) (x16 : Nat → Int32) (x17 : Nat → Int32) (x18 : Nat → Int32) (x23 : Nat → Int32) (x24 : Nat → Int32) (x25 : Nat → Int32) (x26 : Nat → Int32)  (x33 : (Nat → Int32)) (x35 : (Nat → Int32)) (x36 : (Nat → Int32)) (x37 : (Nat → Int32)) (x38 : (Nat → Int32)) (x39 : (Nat → Int32)) (yruz2 : (Nat → Int64)) (y34 : (Nat → Int64)) : Option ((Nat → Int32) × (Nat → Int32) × (Nat → Int32) × (Nat → Int32) × (Nat → Int32) × (Nat → Int32) × (Nat → Int64) × (Nat → Int64)) := bd1 (fJ7_fill_53178 6 100 x39) fun x39_1 => (bd4 (fX7_copy x23 x24 x25 x26 x35 x36 x37 x38) fun x35_3 x36_4 x37_5 x38_6 => (fX11_findComesDownR_25 Lru xruz1 x0 x16 x17 x18 x23 x24 x25 x26  0 x33 x35_3 x36_4 x37_5 x38_6 x39_1 yruz2 y34))
set_option maxHeartbeats 4000000 in
set_option maxRecDepth 100000 in
theorem wX11_findComesDownR_0 {l : Launch} {b0 : Nat} {D : GD} {K : KT} {n : Nat} {κ : QT} {X0 : XT} {Y0 : YT} {Z : ZT} {ru : Nat} {Lru : Nat} (hL : LY n κ) (hk_ru : κ ru = (4, 0)) (hn_ru : ru < n) (hk_ru_1 : κ (ru + 1) = (14, Lru)) (hN : ([ru + 1, 0, 16, 17, 18, 23, 24, 25, 26, 33, 35, 36, 37, 38, 39] : List Nat).Nodup) (hM : ([ru + 2, 34] : List Nat).Nodup) (hC : gC l b0 D K RX11 cX11_findComesDown none 3 5 138 0 0) {xruz1 : Nat → Int32} {x0 : Nat → Int32} {x16 : Nat → Int32} {x17 : Nat → Int32} {x18 : Nat → Int32} {x23 : Nat → Int32} {x24 : Nat → Int32} {x25 : Nat → Int32} {x26 : Nat → Int32} (hri : fX11_isWithin (x16 8) 0 (x0 4 - 1) = some 1 ∧ inb (x16 8) 6 = true ∧ Z 15 (x16 8).toNatClampNeg = some ru) {rx33 : (Nat → Int32)} {rx35 : (Nat → Int32)} {rx36 : (Nat → Int32)} {rx37 : (Nat → Int32)} {rx38 : (Nat → Int32)} {rx39 : (Nat → Int32)} {ryruz2 : (Nat → Int64)} {ry34 : (Nat → Int64)} (hret : ∀ pc loc, decode cX11_findComesDown pc = .ok (.return_, 1) → gV l b0 D K (n, κ, ov X0 [ru + 1, 0, 16, 17, 18, 23, 24, 25, 26, 33, 35, 36, 37, 38, 39] [xruz1, x0, x16, x17, x18, x23, x24, x25, x26, rx33, rx35, rx36, rx37, rx38, rx39], ov Y0 [ru + 2, 34] [ryruz2, ry34], Z, 0, 0) pc loc []) {x33 : (Nat → Int32)} {x35 : (Nat → Int32)} {x36 : (Nat → Int32)} {x37 : (Nat → Int32)} {x38 : (Nat → Int32)} {x39 : (Nat → Int32)} {yruz2 : (Nat → Int64)} {y34 : (Nat → Int64)} (hf : fX11_findComesDownR_0 Lru xruz1 x0 x16 x17 x18 x23 x24 x25 x26  x33 x35 x36 x37 x38 x39 yruz2 y34 = some (rx33, rx35, rx36, rx37, rx38, rx39, ryruz2, ry34)) : gV l b0 D K (n, κ, ov X0 [ru + 1, 0, 16, 17, 18, 23, 24, 25, 26, 33, 35, 36, 37, 38, 39] [xruz1, x0, x16, x17, x18, x23, x24, x25, x26, x33, x35, x36, x37, x38, x39], ov Y0 [ru + 2, 34] [yruz2, y34], Z, 0, 0) 0 [(0, .ref (b0 + 0))] [] := by
  unfold fX11_findComesDownR_0 at hf
  refine g_aload_n hC 0 dX11_findComesDown_0 rfl rfl ?_
  refine gt_X11_69 hC (a := 0) (kk_0 hL) (kn_0 hL) dX11_findComesDown_1 ?_
  refine g_ref (b := 39) rfl ?_
  refine g_bipush hC (v := 100) dX11_findComesDown_4 bp_100 ?_
  obtain ⟨x39_1, q_2, hf⟩ := bd1E hf
  refine g_callS_v hC (X' := ov X0 [ru + 1, 0, 16, 17, 18, 23, 24, 25, 26, 33, 35, 36, 37, 38, 39] [xruz1, x0, x16, x17, x18, x23, x24, x25, x26, x33, x35, x36, x37, x38, x39_1]) (Y' := ov Y0 [ru + 2, 34] [yruz2, y34]) (As := [.ref (b0 + 39), .int 100]) (gMv_eq (c_J7_fill_53178 l hL (kk_39 hL) (kn_39 hL) (nd_sub hN [14] (by decide) (by rfl)) (nd_sub hM [] (by decide) (by rfl)) (ov_map hN [14] (by rfl) (by rfl)) (ov_map hM [] (by rfl) (by rfl)) q_2) (ov_ovE hN (by rfl) [14] [0, 1, 2, 3, 4, 5, 6, 7, 8, 9, 10, 11, 12, 13] (by rfl) (by rfl) [xruz1, x0, x16, x17, x18, x23, x24, x25, x26, x33, x35, x36, x37, x38] (by rfl) (by rfl) (by rfl) 15 (by rfl) (by decide)) (ov_ovE hM (by rfl) [] [0, 1] (by rfl) (by rfl) [yruz2, y34] (by rfl) (by rfl) (by rfl) 2 (by rfl) (by decide))) tw_528 tw_993 tw_128 tw_527 pd_J7_fill_53178 (by decide) (by decide) rfl rfl (Nat.le_of_ble_eq_true rfl) rfl dX11_findComesDown_6 ?_
  refine g_aload_n hC 0 dX11_findComesDown_9 rfl rfl ?_
  refine gt_X11_65 hC (a := 0) (kk_0 hL) (kn_0 hL) dX11_findComesDown_10 ?_
  refine g_ref (b := 35) rfl ?_
  refine g_aload_n hC 0 dX11_findComesDown_13 rfl rfl ?_
  refine gt_X11_41 hC (a := 0) (kk_0 hL) (kn_0 hL) dX11_findComesDown_14 ?_
  refine g_ref (b := 16) rfl ?_
  refine gt_X11_140 hC (a := 16) (kk_16 hL) (kn_16 hL) dX11_findComesDown_17 ?_
  refine g_ref (b := 23) rfl ?_
  obtain ⟨x35_3, x36_4, x37_5, x38_6, q_7, hf⟩ := bd4E hf
  refine g_callV_v (a := 35) hC (X' := ov X0 [ru + 1, 0, 16, 17, 18, 23, 24, 25, 26, 33, 35, 36, 37, 38, 39] [xruz1, x0, x16, x17, x18, x23, x24, x25, x26, x33, x35_3, x36_4, x37_5, x38_6, x39_1]) (Y' := ov Y0 [ru + 2, 34] [yruz2, y34]) (As := [.ref (b0 + 23)]) (gMv_eq (c_X7_copy l hL (kk_35 hL) (kn_35 hL) (kk_23 hL) (kn_23 hL) (nd_sub hN [10, 11, 12, 13, 5, 6, 7, 8] (by decide) (by rfl)) (nd_sub hM [] (by decide) (by rfl)) (ov_map hN [10, 11, 12, 13, 5, 6, 7, 8] (by rfl) (by rfl)) (ov_map hM [] (by rfl) (by rfl)) q_7) (ov_ovE hN (by rfl) [10, 11, 12, 13, 5, 6, 7, 8] [0, 1, 2, 3, 4, 9, 14] (by rfl) (by rfl) [xruz1, x0, x16, x17, x18, x33, x39_1] (by rfl) (by rfl) (by rfl) 15 (by rfl) (by decide)) (ov_ovE hM (by rfl) [] [0, 1] (by rfl) (by rfl) [yruz2, y34] (by rfl) (by rfl) (by rfl) 2 (by rfl) (by decide))) tw_707 tw_976 tw_120 tw_705 tw_706 (ci := 7) rfl (by decide) (kk_35 hL) (kn_35 hL) pd_X7_copy (by decide) (by decide) rfl rfl (Nat.le_of_ble_eq_true rfl) rfl dX11_findComesDown_20 ?_
  refine g_iconst hC (v := 0) dX11_findComesDown_23 ic_0 ?_
  refine g_istore_n hC (i := 1) [(1, .int 0), (0, .ref (b0 + 0))] rfl dX11_findComesDown_24 (by decide) rfl ?_
  exact g_sub [1, 0] rfl (wX11_findComesDownR_25 hL hk_ru hn_ru hk_ru_1 hN hM hC hri hret  5000 0 x33 x35_3 x36_4 x37_5 x38_6 x39_1 yruz2 y34 hf)

def fX11_findComesDownR  (Lru : Nat) (xruz1 : Nat → Int32) (x0 : Nat → Int32) (x16 : Nat → Int32) (x17 : Nat → Int32) (x18 : Nat → Int32) (x23 : Nat → Int32) (x24 : Nat → Int32) (x25 : Nat → Int32) (x26 : Nat → Int32)   (x33 : Nat → Int32) (x35 : Nat → Int32) (x36 : Nat → Int32) (x37 : Nat → Int32) (x38 : Nat → Int32) (x39 : Nat → Int32) (yruz2 : Nat → Int64) (y34 : Nat → Int64) : Option ((Nat → Int32) × (Nat → Int32) × (Nat → Int32) × (Nat → Int32) × (Nat → Int32) × (Nat → Int32) × (Nat → Int64) × (Nat → Int64)) := fX11_findComesDownR_0 Lru xruz1 x0 x16 x17 x18 x23 x24 x25 x26 x33 x35 x36 x37 x38 x39 yruz2 y34

set_option maxHeartbeats 4000000 in
set_option maxRecDepth 100000 in
theorem c_X11_findComesDownR (l : Launch) {b0 : Nat} {D : GD} {n : Nat} {κ : QT} {X0 : XT} {Y0 : YT} {Z : ZT} {ru : Nat} {Lru : Nat} (hL : LY n κ) (hk_ru : κ ru = (4, 0)) (hn_ru : ru < n) (hk_ru_1 : κ (ru + 1) = (14, Lru)) (hN : ([ru + 1, 0, 16, 17, 18, 23, 24, 25, 26, 33, 35, 36, 37, 38, 39] : List Nat).Nodup) (hM : ([ru + 2, 34] : List Nat).Nodup) {xruz1 : Nat → Int32} {x0 : Nat → Int32} {x16 : Nat → Int32} {x17 : Nat → Int32} {x18 : Nat → Int32} {x23 : Nat → Int32} {x24 : Nat → Int32} {x25 : Nat → Int32} {x26 : Nat → Int32} {x33 : Nat → Int32} {x35 : Nat → Int32} {x36 : Nat → Int32} {x37 : Nat → Int32} {x38 : Nat → Int32} {x39 : Nat → Int32} {yruz2 : Nat → Int64} {y34 : Nat → Int64} (hri : fX11_isWithin (x16 8) 0 (x0 4 - 1) = some 1 ∧ inb (x16 8) 6 = true ∧ Z 15 (x16 8).toNatClampNeg = some ru) (hx : ([ru + 1, 0, 16, 17, 18, 23, 24, 25, 26, 33, 35, 36, 37, 38, 39] : List Nat).map X0 = [xruz1, x0, x16, x17, x18, x23, x24, x25, x26, x33, x35, x36, x37, x38, x39]) (hy : ([ru + 2, 34] : List Nat).map Y0 = [yruz2, y34]) {rx33 : (Nat → Int32)} {rx35 : (Nat → Int32)} {rx36 : (Nat → Int32)} {rx37 : (Nat → Int32)} {rx38 : (Nat → Int32)} {rx39 : (Nat → Int32)} {ryruz2 : (Nat → Int64)} {ry34 : (Nat → Int64)} (hf : fX11_findComesDownR Lru xruz1 x0 x16 x17 x18 x23 x24 x25 x26 x33 x35 x36 x37 x38 x39 yruz2 y34 = some (rx33, rx35, rx36, rx37, rx38, rx39, ryruz2, ry34)) : gMv l yX11_findComesDown cX11_findComesDown 3 none 5 138 0 0 b0 D [.ref (b0 + 0)] (n, κ, X0, Y0, Z) (n, κ, ov X0 [ru + 1, 0, 16, 17, 18, 23, 24, 25, 26, 33, 35, 36, 37, 38, 39] [xruz1, x0, x16, x17, x18, x23, x24, x25, x26, rx33, rx35, rx36, rx37, rx38, rx39], ov Y0 [ru + 2, 34] [ryruz2, ry34], Z) := by
  refine g_metv (own := RX11) (by decide) rfl rfl (Nat.le_of_ble_eq_true rfl) ?_
  intro K hC hret
  have e := wX11_findComesDownR_0 hL hk_ru hn_ru hk_ru_1 hN hM hC hri hret hf
  rw [ov_id' hx, ov_id' hy] at e
  exact g_sub [0] rfl e

-- X11_down
def fX11_downN_0   (x0 : Nat → Int32) (x16 : Nat → Int32) (x17 : Nat → Int32) (x18 : Nat → Int32) (x23 : Nat → Int32) (x24 : Nat → Int32) (x25 : Nat → Int32) (x26 : Nat → Int32)  (v1 : Int32) (x33 : (Nat → Int32)) (x35 : (Nat → Int32)) (x36 : (Nat → Int32)) (x37 : (Nat → Int32)) (x38 : (Nat → Int32)) (x39 : (Nat → Int32)) : Option (Int32 × (Nat → Int32) × (Nat → Int32) × (Nat → Int32) × (Nat → Int32) × (Nat → Int32) × (Nat → Int32)) := bd1 (fX11_isHouse x17 v1) fun r_1 => (if r_1 = 0 then (some ((-1), x33, x35, x36, x37, x38, x39)) else (bd6 (fX11_findComesDownN x0 x16 x17 x18 x23 x24 x25 x26 x33 x35 x36 x37 x38 x39) fun x33_3 x35_4 x36_5 x37_6 x38_7 x39_8 => (gd (inb v1 6) (if 100 ≤ (x39_8 v1.toNatClampNeg) then (some ((-2), x33_3, x35_4, x36_5, x37_6, x38_7, x39_8)) else (gd (inb v1 6) (some ((x23 0) + (x39_8 v1.toNatClampNeg), x33_3, x35_4, x36_5, x37_6, x38_7, x39_8)))))))
set_option maxHeartbeats 4000000 in
set_option maxRecDepth 100000 in
theorem wX11_downN_0 {l : Launch} {b0 : Nat} {D : GD} {K : KT} {n : Nat} {κ : QT} {X0 : XT} {Y0 : YT} {Z : ZT} (hL : LY n κ) (hN : ([0, 16, 17, 18, 23, 24, 25, 26, 33, 35, 36, 37, 38, 39] : List Nat).Nodup) (hM : ([] : List Nat).Nodup) (hC : gC l b0 D K RX11 cX11_down (some FieldType.int) 2 6 160 0 0) {x0 : Nat → Int32} {x16 : Nat → Int32} {x17 : Nat → Int32} {x18 : Nat → Int32} {x23 : Nat → Int32} {x24 : Nat → Int32} {x25 : Nat → Int32} {x26 : Nat → Int32} (hri : fX11_isWithin (x16 8) 0 (x0 4 - 1) = some 0) {r : Int32} {rx33 : (Nat → Int32)} {rx35 : (Nat → Int32)} {rx36 : (Nat → Int32)} {rx37 : (Nat → Int32)} {rx38 : (Nat → Int32)} {rx39 : (Nat → Int32)} (hret : ∀ pc loc, narrow .int (.int r) = .int r → decode cX11_down pc = .ok (.ireturn, 1) → gV l b0 D K (n, κ, ov X0 [0, 16, 17, 18, 23, 24, 25, 26, 33, 35, 36, 37, 38, 39] [x0, x16, x17, x18, x23, x24, x25, x26, rx33, rx35, rx36, rx37, rx38, rx39], ov Y0 [] [], Z, 0, 0) pc loc [.int r]) {v1 : Int32} {x33 : (Nat → Int32)} {x35 : (Nat → Int32)} {x36 : (Nat → Int32)} {x37 : (Nat → Int32)} {x38 : (Nat → Int32)} {x39 : (Nat → Int32)} (hf : fX11_downN_0 x0 x16 x17 x18 x23 x24 x25 x26  v1 x33 x35 x36 x37 x38 x39 = some (r, rx33, rx35, rx36, rx37, rx38, rx39)) : gV l b0 D K (n, κ, ov X0 [0, 16, 17, 18, 23, 24, 25, 26, 33, 35, 36, 37, 38, 39] [x0, x16, x17, x18, x23, x24, x25, x26, x33, x35, x36, x37, x38, x39], ov Y0 [] [], Z, 0, 0) 0 [(0, .ref (b0 + 0)), (1, .int v1)] [] := by
  unfold fX11_downN_0 at hf
  refine g_aload_n hC 0 dX11_down_0 rfl rfl ?_
  refine g_iload_n hC 1 dX11_down_1 rfl rfl ?_
  obtain ⟨r_1, q_2, hf⟩ := bd1E hf
  refine g_callV_i (a := 0) hC (X' := ov X0 [0, 16, 17, 18, 23, 24, 25, 26, 33, 35, 36, 37, 38, 39] [x0, x16, x17, x18, x23, x24, x25, x26, x33, x35, x36, x37, x38, x39]) (Y' := ov Y0 [] []) (As := [.int v1]) (gMi_eq (c_X11_isHouse l hL (ov_map hN [2] (by rfl) (by rfl)) (ov_map hM [] (by rfl) (by rfl)) q_2) (ov_ovE hN (by rfl) [2] [0, 1, 3, 4, 5, 6, 7, 8, 9, 10, 11, 12, 13] (by rfl) (by rfl) [x0, x16, x18, x23, x24, x25, x26, x33, x35, x36, x37, x38, x39] (by rfl) (by rfl) (by rfl) 14 (by rfl) (by decide)) (ov_ovE hM (by rfl) [] [] (by rfl) (by rfl) [] (by rfl) (by rfl) (by rfl) 0 (by rfl) (by decide))) tw_790 tw_787 tw_116 tw_789 tw_21 (ci := 11) rfl (by decide) (kk_0 hL) (kn_0 hL) pd_X11_isHouse (by decide) (by decide) rfl rfl (Nat.le_of_ble_eq_true rfl) rfl dX11_down_2 ?_
  refine g_if_ne hC 10 dX11_down_5 (by decide) (fun hc => ?_) (fun hc => ?_)
  · replace hf := ifF hf hc
    refine g_aload_n hC 0 dX11_down_10 rfl rfl ?_
    obtain ⟨x33_3, x35_4, x36_5, x37_6, x38_7, x39_8, q_9, hf⟩ := bd6E hf
    refine g_callV_v (a := 0) hC (X' := ov X0 [0, 16, 17, 18, 23, 24, 25, 26, 33, 35, 36, 37, 38, 39] [x0, x16, x17, x18, x23, x24, x25, x26, x33_3, x35_4, x36_5, x37_6, x38_7, x39_8]) (Y' := ov Y0 [] []) (As := []) (gMv_eq (c_X11_findComesDownN l hL hri (ov_map hN [0, 1, 2, 3, 4, 5, 6, 7, 8, 9, 10, 11, 12, 13] (by rfl) (by rfl)) (ov_map hM [] (by rfl) (by rfl)) q_9) (ov_ovE hN (by rfl) [0, 1, 2, 3, 4, 5, 6, 7, 8, 9, 10, 11, 12, 13] [] (by rfl) (by rfl) [] (by rfl) (by rfl) (by rfl) 14 (by rfl) (by decide)) (ov_ovE hM (by rfl) [] [] (by rfl) (by rfl) [] (by rfl) (by rfl) (by rfl) 0 (by rfl) (by decide))) tw_992 tw_989 tw_116 tw_991 tw_35 (ci := 11) rfl (by decide) (kk_0 hL) (kn_0 hL) pd_X11_findComesDown (by decide) (by decide) rfl rfl (Nat.le_of_ble_eq_true rfl) rfl dX11_down_11 ?_
    refine g_aload_n hC 0 dX11_down_14 rfl rfl ?_
    refine gt_X11_69 hC (a := 0) (kk_0 hL) (kn_0 hL) dX11_down_15 ?_
    refine g_ref (b := 39) rfl ?_
    refine g_iload_n hC 1 dX11_down_18 rfl rfl ?_
    obtain ⟨h_10, hf⟩ := gdE hf
    refine g_iald hC (x := x39_8) (kk_39 hL) (kn_39 hL) (ov_get hN 13 rfl rfl) (inb_in h_10) dX11_down_19 ?_
    refine g_bipush hC (v := 100) dX11_down_20 bp_100 ?_
    refine g_icmp_ge hC 45 dX11_down_22 (by decide) (fun hc => ?_) (fun hc => ?_)
    · replace hf := ifT hf hc
      refine g_bipush hC (v := (-2)) dX11_down_45 bp_m2 ?_
      obtain ⟨rfl, rfl, rfl, rfl, rfl, rfl, rfl⟩ := sm7E hf
      exact hret _ _ rfl dX11_down_47
    · replace hf := ifF hf hc
      refine g_aload_n hC 0 dX11_down_25 rfl rfl ?_
      refine gt_X11_41 hC (a := 0) (kk_0 hL) (kn_0 hL) dX11_down_26 ?_
      refine g_ref (b := 16) rfl ?_
      refine gt_X11_140 hC (a := 16) (kk_16 hL) (kn_16 hL) dX11_down_29 ?_
      refine g_ref (b := 23) rfl ?_
      refine gt_X11_170 hC (x := x23) (kk_23 hL) (kn_23 hL) (ov_get hN 4 rfl rfl) dX11_down_32 ?_
      refine g_aload_n hC 0 dX11_down_35 rfl rfl ?_
      refine gt_X11_69 hC (a := 0) (kk_0 hL) (kn_0 hL) dX11_down_36 ?_
      refine g_ref (b := 39) rfl ?_
      refine g_iload_n hC 1 dX11_down_39 rfl rfl ?_
      obtain ⟨h_11, hf⟩ := gdE hf
      refine g_iald hC (x := x39_8) (kk_39 hL) (kn_39 hL) (ov_get hN 13 rfl rfl) (inb_in h_11) dX11_down_40 ?_
      refine g_iadd hC dX11_down_41 ?_
      refine g_goto hC 47 dX11_down_42 (by decide) ?_
      obtain ⟨rfl, rfl, rfl, rfl, rfl, rfl, rfl⟩ := sm7E hf
      exact hret _ _ rfl dX11_down_47
  · replace hf := ifT hf hc
    refine g_iconst hC (v := (-1)) dX11_down_8 ic_m1 ?_
    obtain ⟨rfl, rfl, rfl, rfl, rfl, rfl, rfl⟩ := sm7E hf
    exact hret _ _ rfl dX11_down_9

def fX11_downN   (x0 : Nat → Int32) (x16 : Nat → Int32) (x17 : Nat → Int32) (x18 : Nat → Int32) (x23 : Nat → Int32) (x24 : Nat → Int32) (x25 : Nat → Int32) (x26 : Nat → Int32)  (v1 : Int32) (x33 : Nat → Int32) (x35 : Nat → Int32) (x36 : Nat → Int32) (x37 : Nat → Int32) (x38 : Nat → Int32) (x39 : Nat → Int32)  : Option (Int32 × (Nat → Int32) × (Nat → Int32) × (Nat → Int32) × (Nat → Int32) × (Nat → Int32) × (Nat → Int32)) := fX11_downN_0 x0 x16 x17 x18 x23 x24 x25 x26 v1 x33 x35 x36 x37 x38 x39

set_option maxHeartbeats 4000000 in
set_option maxRecDepth 100000 in
theorem c_X11_downN (l : Launch) {b0 : Nat} {D : GD} {n : Nat} {κ : QT} {X0 : XT} {Y0 : YT} {Z : ZT} (hL : LY n κ) {x0 : Nat → Int32} {x16 : Nat → Int32} {x17 : Nat → Int32} {x18 : Nat → Int32} {x23 : Nat → Int32} {x24 : Nat → Int32} {x25 : Nat → Int32} {x26 : Nat → Int32} {x33 : Nat → Int32} {x35 : Nat → Int32} {x36 : Nat → Int32} {x37 : Nat → Int32} {x38 : Nat → Int32} {x39 : Nat → Int32} (hri : fX11_isWithin (x16 8) 0 (x0 4 - 1) = some 0) (hx : ([0, 16, 17, 18, 23, 24, 25, 26, 33, 35, 36, 37, 38, 39] : List Nat).map X0 = [x0, x16, x17, x18, x23, x24, x25, x26, x33, x35, x36, x37, x38, x39]) (hy : ([] : List Nat).map Y0 = []) {v1 : Int32} {r : Int32} {rx33 : (Nat → Int32)} {rx35 : (Nat → Int32)} {rx36 : (Nat → Int32)} {rx37 : (Nat → Int32)} {rx38 : (Nat → Int32)} {rx39 : (Nat → Int32)} (hf : fX11_downN x0 x16 x17 x18 x23 x24 x25 x26 v1 x33 x35 x36 x37 x38 x39 = some (r, rx33, rx35, rx36, rx37, rx38, rx39)) : gMi l yX11_down cX11_down 2 (some FieldType.int) 6 160 0 0 b0 D [.ref (b0 + 0), .int v1] (n, κ, X0, Y0, Z) (n, κ, ov X0 [0, 16, 17, 18, 23, 24, 25, 26, 33, 35, 36, 37, 38, 39] [x0, x16, x17, x18, x23, x24, x25, x26, rx33, rx35, rx36, rx37, rx38, rx39], ov Y0 [] [], Z) r := by
  have hN : ([0, 16, 17, 18, 23, 24, 25, 26, 33, 35, 36, 37, 38, 39] : List Nat).Nodup := by decide
  have hM : ([] : List Nat).Nodup := by decide
  refine g_meti (own := RX11) (by decide) rfl rfl (Nat.le_of_ble_eq_true rfl) ?_
  intro K hC hret
  have e := wX11_downN_0 hL hN hM hC hri hret hf
  rw [ov_id' hx, ov_id' hy] at e
  exact g_sub [0, 1] rfl e

-- X11_down
def fX11_downR_0  (Lru : Nat) (xruz1 : Nat → Int32) (x0 : Nat → Int32) (x16 : Nat → Int32) (x17 : Nat → Int32) (x18 : Nat → Int32) (x23 : Nat → Int32) (x24 : Nat → Int32) (x25 : Nat → Int32) (x26 : Nat → Int32)  (v1 : Int32) (x33 : (Nat → Int32)) (x35 : (Nat → Int32)) (x36 : (Nat → Int32)) (x37 : (Nat → Int32)) (x38 : (Nat → Int32)) (x39 : (Nat → Int32)) (yruz2 : (Nat → Int64)) (y34 : (Nat → Int64)) : Option (Int32 × (Nat → Int32) × (Nat → Int32) × (Nat → Int32) × (Nat → Int32) × (Nat → Int32) × (Nat → Int32) × (Nat → Int64) × (Nat → Int64)) := bd1 (fX11_isHouse x17 v1) fun r_1 => (if r_1 = 0 then (some ((-1), x33, x35, x36, x37, x38, x39, yruz2, y34)) else (bd8 (fX11_findComesDownR Lru xruz1 x0 x16 x17 x18 x23 x24 x25 x26 x33 x35 x36 x37 x38 x39 yruz2 y34) fun x33_3 x35_4 x36_5 x37_6 x38_7 x39_8 yruz2_9 y34_10 => (gd (inb v1 6) (if 100 ≤ (x39_8 v1.toNatClampNeg) then (some ((-2), x33_3, x35_4, x36_5, x37_6, x38_7, x39_8, yruz2_9, y34_10)) else (gd (inb v1 6) (some ((x23 0) + (x39_8 v1.toNatClampNeg), x33_3, x35_4, x36_5, x37_6, x38_7, x39_8, yruz2_9, y34_10)))))))
set_option maxHeartbeats 4000000 in
set_option maxRecDepth 100000 in
theorem wX11_downR_0 {l : Launch} {b0 : Nat} {D : GD} {K : KT} {n : Nat} {κ : QT} {X0 : XT} {Y0 : YT} {Z : ZT} {ru : Nat} {Lru : Nat} (hL : LY n κ) (hk_ru : κ ru = (4, 0)) (hn_ru : ru < n) (hk_ru_1 : κ (ru + 1) = (14, Lru)) (hN : ([ru + 1, 0, 16, 17, 18, 23, 24, 25, 26, 33, 35, 36, 37, 38, 39] : List Nat).Nodup) (hM : ([ru + 2, 34] : List Nat).Nodup) (hC : gC l b0 D K RX11 cX11_down (some FieldType.int) 2 6 160 0 0) {xruz1 : Nat → Int32} {x0 : Nat → Int32} {x16 : Nat → Int32} {x17 : Nat → Int32} {x18 : Nat → Int32} {x23 : Nat → Int32} {x24 : Nat → Int32} {x25 : Nat → Int32} {x26 : Nat → Int32} (hri : fX11_isWithin (x16 8) 0 (x0 4 - 1) = some 1 ∧ inb (x16 8) 6 = true ∧ Z 15 (x16 8).toNatClampNeg = some ru) {r : Int32} {rx33 : (Nat → Int32)} {rx35 : (Nat → Int32)} {rx36 : (Nat → Int32)} {rx37 : (Nat → Int32)} {rx38 : (Nat → Int32)} {rx39 : (Nat → Int32)} {ryruz2 : (Nat → Int64)} {ry34 : (Nat → Int64)} (hret : ∀ pc loc, narrow .int (.int r) = .int r → decode cX11_down pc = .ok (.ireturn, 1) → gV l b0 D K (n, κ, ov X0 [ru + 1, 0, 16, 17, 18, 23, 24, 25, 26, 33, 35, 36, 37, 38, 39] [xruz1, x0, x16, x17, x18, x23, x24, x25, x26, rx33, rx35, rx36, rx37, rx38, rx39], ov Y0 [ru + 2, 34] [ryruz2, ry34], Z, 0, 0) pc loc [.int r]) {v1 : Int32} {x33 : (Nat → Int32)} {x35 : (Nat → Int32)} {x36 : (Nat → Int32)} {x37 : (Nat → Int32)} {x38 : (Nat → Int32)} {x39 : (Nat → Int32)} {yruz2 : (Nat → Int64)} {y34 : (Nat → Int64)} (hf : fX11_downR_0 Lru xruz1 x0 x16 x17 x18 x23 x24 x25 x26  v1 x33 x35 x36 x37 x38 x39 yruz2 y34 = some (r, rx33, rx35, rx36, rx37, rx38, rx39, ryruz2, ry34)) : gV l b0 D K (n, κ, ov X0 [ru + 1, 0, 16, 17, 18, 23, 24, 25, 26, 33, 35, 36, 37, 38, 39] [xruz1, x0, x16, x17, x18, x23, x24, x25, x26, x33, x35, x36, x37, x38, x39], ov Y0 [ru + 2, 34] [yruz2, y34], Z, 0, 0) 0 [(0, .ref (b0 + 0)), (1, .int v1)] [] := by
  unfold fX11_downR_0 at hf
  refine g_aload_n hC 0 dX11_down_0 rfl rfl ?_
  refine g_iload_n hC 1 dX11_down_1 rfl rfl ?_
  obtain ⟨r_1, q_2, hf⟩ := bd1E hf
  refine g_callV_i (a := 0) hC (X' := ov X0 [ru + 1, 0, 16, 17, 18, 23, 24, 25, 26, 33, 35, 36, 37, 38, 39] [xruz1, x0, x16, x17, x18, x23, x24, x25, x26, x33, x35, x36, x37, x38, x39]) (Y' := ov Y0 [ru + 2, 34] [yruz2, y34]) (As := [.int v1]) (gMi_eq (c_X11_isHouse l hL (ov_map hN [3] (by rfl) (by rfl)) (ov_map hM [] (by rfl) (by rfl)) q_2) (ov_ovE hN (by rfl) [3] [0, 1, 2, 4, 5, 6, 7, 8, 9, 10, 11, 12, 13, 14] (by rfl) (by rfl) [xruz1, x0, x16, x18, x23, x24, x25, x26, x33, x35, x36, x37, x38, x39] (by rfl) (by rfl) (by rfl) 15 (by rfl) (by decide)) (ov_ovE hM (by rfl) [] [0, 1] (by rfl) (by rfl) [yruz2, y34] (by rfl) (by rfl) (by rfl) 2 (by rfl) (by decide))) tw_790 tw_787 tw_116 tw_789 tw_21 (ci := 11) rfl (by decide) (kk_0 hL) (kn_0 hL) pd_X11_isHouse (by decide) (by decide) rfl rfl (Nat.le_of_ble_eq_true rfl) rfl dX11_down_2 ?_
  refine g_if_ne hC 10 dX11_down_5 (by decide) (fun hc => ?_) (fun hc => ?_)
  · replace hf := ifF hf hc
    refine g_aload_n hC 0 dX11_down_10 rfl rfl ?_
    obtain ⟨x33_3, x35_4, x36_5, x37_6, x38_7, x39_8, yruz2_9, y34_10, q_11, hf⟩ := bd8E hf
    refine g_callV_v (a := 0) hC (X' := ov X0 [ru + 1, 0, 16, 17, 18, 23, 24, 25, 26, 33, 35, 36, 37, 38, 39] [xruz1, x0, x16, x17, x18, x23, x24, x25, x26, x33_3, x35_4, x36_5, x37_6, x38_7, x39_8]) (Y' := ov Y0 [ru + 2, 34] [yruz2_9, y34_10]) (As := []) (gMv_eq (c_X11_findComesDownR l hL hk_ru hn_ru hk_ru_1 (nd_sub hN [0, 1, 2, 3, 4, 5, 6, 7, 8, 9, 10, 11, 12, 13, 14] (by decide) (by rfl)) (nd_sub hM [0, 1] (by decide) (by rfl)) hri (ov_map hN [0, 1, 2, 3, 4, 5, 6, 7, 8, 9, 10, 11, 12, 13, 14] (by rfl) (by rfl)) (ov_map hM [0, 1] (by rfl) (by rfl)) q_11) (ov_ovE hN (by rfl) [0, 1, 2, 3, 4, 5, 6, 7, 8, 9, 10, 11, 12, 13, 14] [] (by rfl) (by rfl) [] (by rfl) (by rfl) (by rfl) 15 (by rfl) (by decide)) (ov_ovE hM (by rfl) [0, 1] [] (by rfl) (by rfl) [] (by rfl) (by rfl) (by rfl) 2 (by rfl) (by decide))) tw_992 tw_989 tw_116 tw_991 tw_35 (ci := 11) rfl (by decide) (kk_0 hL) (kn_0 hL) pd_X11_findComesDown (by decide) (by decide) rfl rfl (Nat.le_of_ble_eq_true rfl) rfl dX11_down_11 ?_
    refine g_aload_n hC 0 dX11_down_14 rfl rfl ?_
    refine gt_X11_69 hC (a := 0) (kk_0 hL) (kn_0 hL) dX11_down_15 ?_
    refine g_ref (b := 39) rfl ?_
    refine g_iload_n hC 1 dX11_down_18 rfl rfl ?_
    obtain ⟨h_12, hf⟩ := gdE hf
    refine g_iald hC (x := x39_8) (kk_39 hL) (kn_39 hL) (ov_get hN 14 rfl rfl) (inb_in h_12) dX11_down_19 ?_
    refine g_bipush hC (v := 100) dX11_down_20 bp_100 ?_
    refine g_icmp_ge hC 45 dX11_down_22 (by decide) (fun hc => ?_) (fun hc => ?_)
    · replace hf := ifT hf hc
      refine g_bipush hC (v := (-2)) dX11_down_45 bp_m2 ?_
      obtain ⟨rfl, rfl, rfl, rfl, rfl, rfl, rfl, rfl, rfl⟩ := sm9E hf
      exact hret _ _ rfl dX11_down_47
    · replace hf := ifF hf hc
      refine g_aload_n hC 0 dX11_down_25 rfl rfl ?_
      refine gt_X11_41 hC (a := 0) (kk_0 hL) (kn_0 hL) dX11_down_26 ?_
      refine g_ref (b := 16) rfl ?_
      refine gt_X11_140 hC (a := 16) (kk_16 hL) (kn_16 hL) dX11_down_29 ?_
      refine g_ref (b := 23) rfl ?_
      refine gt_X11_170 hC (x := x23) (kk_23 hL) (kn_23 hL) (ov_get hN 5 rfl rfl) dX11_down_32 ?_
      refine g_aload_n hC 0 dX11_down_35 rfl rfl ?_
      refine gt_X11_69 hC (a := 0) (kk_0 hL) (kn_0 hL) dX11_down_36 ?_
      refine g_ref (b := 39) rfl ?_
      refine g_iload_n hC 1 dX11_down_39 rfl rfl ?_
      obtain ⟨h_13, hf⟩ := gdE hf
      refine g_iald hC (x := x39_8) (kk_39 hL) (kn_39 hL) (ov_get hN 14 rfl rfl) (inb_in h_13) dX11_down_40 ?_
      refine g_iadd hC dX11_down_41 ?_
      refine g_goto hC 47 dX11_down_42 (by decide) ?_
      obtain ⟨rfl, rfl, rfl, rfl, rfl, rfl, rfl, rfl, rfl⟩ := sm9E hf
      exact hret _ _ rfl dX11_down_47
  · replace hf := ifT hf hc
    refine g_iconst hC (v := (-1)) dX11_down_8 ic_m1 ?_
    obtain ⟨rfl, rfl, rfl, rfl, rfl, rfl, rfl, rfl, rfl⟩ := sm9E hf
    exact hret _ _ rfl dX11_down_9

def fX11_downR  (Lru : Nat) (xruz1 : Nat → Int32) (x0 : Nat → Int32) (x16 : Nat → Int32) (x17 : Nat → Int32) (x18 : Nat → Int32) (x23 : Nat → Int32) (x24 : Nat → Int32) (x25 : Nat → Int32) (x26 : Nat → Int32)  (v1 : Int32) (x33 : Nat → Int32) (x35 : Nat → Int32) (x36 : Nat → Int32) (x37 : Nat → Int32) (x38 : Nat → Int32) (x39 : Nat → Int32) (yruz2 : Nat → Int64) (y34 : Nat → Int64) : Option (Int32 × (Nat → Int32) × (Nat → Int32) × (Nat → Int32) × (Nat → Int32) × (Nat → Int32) × (Nat → Int32) × (Nat → Int64) × (Nat → Int64)) := fX11_downR_0 Lru xruz1 x0 x16 x17 x18 x23 x24 x25 x26 v1 x33 x35 x36 x37 x38 x39 yruz2 y34

set_option maxHeartbeats 4000000 in
set_option maxRecDepth 100000 in
theorem c_X11_downR (l : Launch) {b0 : Nat} {D : GD} {n : Nat} {κ : QT} {X0 : XT} {Y0 : YT} {Z : ZT} {ru : Nat} {Lru : Nat} (hL : LY n κ) (hk_ru : κ ru = (4, 0)) (hn_ru : ru < n) (hk_ru_1 : κ (ru + 1) = (14, Lru)) (hN : ([ru + 1, 0, 16, 17, 18, 23, 24, 25, 26, 33, 35, 36, 37, 38, 39] : List Nat).Nodup) (hM : ([ru + 2, 34] : List Nat).Nodup) {xruz1 : Nat → Int32} {x0 : Nat → Int32} {x16 : Nat → Int32} {x17 : Nat → Int32} {x18 : Nat → Int32} {x23 : Nat → Int32} {x24 : Nat → Int32} {x25 : Nat → Int32} {x26 : Nat → Int32} {x33 : Nat → Int32} {x35 : Nat → Int32} {x36 : Nat → Int32} {x37 : Nat → Int32} {x38 : Nat → Int32} {x39 : Nat → Int32} {yruz2 : Nat → Int64} {y34 : Nat → Int64} (hri : fX11_isWithin (x16 8) 0 (x0 4 - 1) = some 1 ∧ inb (x16 8) 6 = true ∧ Z 15 (x16 8).toNatClampNeg = some ru) (hx : ([ru + 1, 0, 16, 17, 18, 23, 24, 25, 26, 33, 35, 36, 37, 38, 39] : List Nat).map X0 = [xruz1, x0, x16, x17, x18, x23, x24, x25, x26, x33, x35, x36, x37, x38, x39]) (hy : ([ru + 2, 34] : List Nat).map Y0 = [yruz2, y34]) {v1 : Int32} {r : Int32} {rx33 : (Nat → Int32)} {rx35 : (Nat → Int32)} {rx36 : (Nat → Int32)} {rx37 : (Nat → Int32)} {rx38 : (Nat → Int32)} {rx39 : (Nat → Int32)} {ryruz2 : (Nat → Int64)} {ry34 : (Nat → Int64)} (hf : fX11_downR Lru xruz1 x0 x16 x17 x18 x23 x24 x25 x26 v1 x33 x35 x36 x37 x38 x39 yruz2 y34 = some (r, rx33, rx35, rx36, rx37, rx38, rx39, ryruz2, ry34)) : gMi l yX11_down cX11_down 2 (some FieldType.int) 6 160 0 0 b0 D [.ref (b0 + 0), .int v1] (n, κ, X0, Y0, Z) (n, κ, ov X0 [ru + 1, 0, 16, 17, 18, 23, 24, 25, 26, 33, 35, 36, 37, 38, 39] [xruz1, x0, x16, x17, x18, x23, x24, x25, x26, rx33, rx35, rx36, rx37, rx38, rx39], ov Y0 [ru + 2, 34] [ryruz2, ry34], Z) r := by
  refine g_meti (own := RX11) (by decide) rfl rfl (Nat.le_of_ble_eq_true rfl) ?_
  intro K hC hret
  have e := wX11_downR_0 hL hk_ru hn_ru hk_ru_1 hN hM hC hri hret hf
  rw [ov_id' hx, ov_id' hy] at e
  exact g_sub [0, 1] rfl e

-- X11_order
def fX11_orderN_82   (x0 : Nat → Int32) (x16 : Nat → Int32) (x17 : Nat → Int32) (x18 : Nat → Int32) (x23 : Nat → Int32) (x24 : Nat → Int32) (x25 : Nat → Int32) (x26 : Nat → Int32)  (k18 : Int32 → Int32 → Int32 → (Nat → Int32) → (Nat → Int32) → (Nat → Int32) → (Nat → Int32) → (Nat → Int32) → (Nat → Int32) → Option (Int32 × (Nat → Int32) × (Nat → Int32) × (Nat → Int32) × (Nat → Int32) × (Nat → Int32) × (Nat → Int32))) (v1 : Int32) (v2 : Int32) (v3 : Int32) (x33 : (Nat → Int32)) (x35 : (Nat → Int32)) (x36 : (Nat → Int32)) (x37 : (Nat → Int32)) (x38 : (Nat → Int32)) (x39 : (Nat → Int32)) : Option (Int32 × (Nat → Int32) × (Nat → Int32) × (Nat → Int32) × (Nat → Int32) × (Nat → Int32) × (Nat → Int32)) := bn (v3 + 1) fun t_1 => (k18 v1 v2 t_1 x33 x35 x36 x37 x38 x39)
set_option maxHeartbeats 4000000 in
set_option maxRecDepth 100000 in
theorem wX11_orderN_82 {l : Launch} {b0 : Nat} {D : GD} {K : KT} {n : Nat} {κ : QT} {X0 : XT} {Y0 : YT} {Z : ZT} (hL : LY n κ) (hN : ([0, 16, 17, 18, 23, 24, 25, 26, 33, 35, 36, 37, 38, 39] : List Nat).Nodup) (hM : ([] : List Nat).Nodup) (hC : gC l b0 D K RX11 cX11_order (some FieldType.int) 5 6 160 0 0) {x0 : Nat → Int32} {x16 : Nat → Int32} {x17 : Nat → Int32} {x18 : Nat → Int32} {x23 : Nat → Int32} {x24 : Nat → Int32} {x25 : Nat → Int32} {x26 : Nat → Int32} (hri : fX11_isWithin (x16 8) 0 (x0 4 - 1) = some 0) {r : Int32} {rx33 : (Nat → Int32)} {rx35 : (Nat → Int32)} {rx36 : (Nat → Int32)} {rx37 : (Nat → Int32)} {rx38 : (Nat → Int32)} {rx39 : (Nat → Int32)} (hret : ∀ pc loc, narrow .int (.int r) = .int r → decode cX11_order pc = .ok (.ireturn, 1) → gV l b0 D K (n, κ, ov X0 [0, 16, 17, 18, 23, 24, 25, 26, 33, 35, 36, 37, 38, 39] [x0, x16, x17, x18, x23, x24, x25, x26, rx33, rx35, rx36, rx37, rx38, rx39], ov Y0 [] [], Z, 0, 0) pc loc [.int r]) {k18 : Int32 → Int32 → Int32 → (Nat → Int32) → (Nat → Int32) → (Nat → Int32) → (Nat → Int32) → (Nat → Int32) → (Nat → Int32) → Option (Int32 × (Nat → Int32) × (Nat → Int32) × (Nat → Int32) × (Nat → Int32) × (Nat → Int32) × (Nat → Int32))} (hk18 : ∀ (v1 : Int32) (v2 : Int32) (v3 : Int32) (x33 : (Nat → Int32)) (x35 : (Nat → Int32)) (x36 : (Nat → Int32)) (x37 : (Nat → Int32)) (x38 : (Nat → Int32)) (x39 : (Nat → Int32)), k18 v1 v2 v3 x33 x35 x36 x37 x38 x39 = some (r, rx33, rx35, rx36, rx37, rx38, rx39) → gV l b0 D K (n, κ, ov X0 [0, 16, 17, 18, 23, 24, 25, 26, 33, 35, 36, 37, 38, 39] [x0, x16, x17, x18, x23, x24, x25, x26, x33, x35, x36, x37, x38, x39], ov Y0 [] [], Z, 0, 0) 18 [(0, .ref (b0 + 0)), (1, .int v1), (2, .int v2), (3, .int v3)] []) {v1 : Int32} {v2 : Int32} {v3 : Int32} {x33 : (Nat → Int32)} {x35 : (Nat → Int32)} {x36 : (Nat → Int32)} {x37 : (Nat → Int32)} {x38 : (Nat → Int32)} {x39 : (Nat → Int32)} (hf : fX11_orderN_82 x0 x16 x17 x18 x23 x24 x25 x26 k18 v1 v2 v3 x33 x35 x36 x37 x38 x39 = some (r, rx33, rx35, rx36, rx37, rx38, rx39)) : gV l b0 D K (n, κ, ov X0 [0, 16, 17, 18, 23, 24, 25, 26, 33, 35, 36, 37, 38, 39] [x0, x16, x17, x18, x23, x24, x25, x26, x33, x35, x36, x37, x38, x39], ov Y0 [] [], Z, 0, 0) 82 [(0, .ref (b0 + 0)), (1, .int v1), (2, .int v2), (3, .int v3)] [] := by
  unfold fX11_orderN_82 at hf
  obtain ⟨t_1, et_1, hf⟩ := bnE hf
  refine g_iinc hC (i := 3) (v := t_1) [(3, .int t_1), (0, .ref (b0 + 0)), (1, .int v1), (2, .int v2)] dX11_order_82 (q := 3) rfl ((congrArg (HAdd.hAdd v3) ic_1).trans et_1.symm) (by decide) rfl ?_
  refine g_goto hC 18 dX11_order_85 (by decide) ?_
  exact g_sub [1, 2, 3, 0] rfl (hk18 v1 v2 t_1 x33 x35 x36 x37 x38 x39 hf)

def fX11_orderN_79   (x0 : Nat → Int32) (x16 : Nat → Int32) (x17 : Nat → Int32) (x18 : Nat → Int32) (x23 : Nat → Int32) (x24 : Nat → Int32) (x25 : Nat → Int32) (x26 : Nat → Int32)  (k18 : Int32 → Int32 → Int32 → (Nat → Int32) → (Nat → Int32) → (Nat → Int32) → (Nat → Int32) → (Nat → Int32) → (Nat → Int32) → Option (Int32 × (Nat → Int32) × (Nat → Int32) × (Nat → Int32) × (Nat → Int32) × (Nat → Int32) × (Nat → Int32))) (v1 : Int32) (v2 : Int32) (v3 : Int32) (x33 : (Nat → Int32)) (x35 : (Nat → Int32)) (x36 : (Nat → Int32)) (x37 : (Nat → Int32)) (x38 : (Nat → Int32)) (x39 : (Nat → Int32)) : Option (Int32 × (Nat → Int32) × (Nat → Int32) × (Nat → Int32) × (Nat → Int32) × (Nat → Int32) × (Nat → Int32)) := bn (v2 + 1) fun t_1 => (fX11_orderN_82 x0 x16 x17 x18 x23 x24 x25 x26 k18 v1 t_1 v3 x33 x35 x36 x37 x38 x39)
set_option maxHeartbeats 4000000 in
set_option maxRecDepth 100000 in
theorem wX11_orderN_79 {l : Launch} {b0 : Nat} {D : GD} {K : KT} {n : Nat} {κ : QT} {X0 : XT} {Y0 : YT} {Z : ZT} (hL : LY n κ) (hN : ([0, 16, 17, 18, 23, 24, 25, 26, 33, 35, 36, 37, 38, 39] : List Nat).Nodup) (hM : ([] : List Nat).Nodup) (hC : gC l b0 D K RX11 cX11_order (some FieldType.int) 5 6 160 0 0) {x0 : Nat → Int32} {x16 : Nat → Int32} {x17 : Nat → Int32} {x18 : Nat → Int32} {x23 : Nat → Int32} {x24 : Nat → Int32} {x25 : Nat → Int32} {x26 : Nat → Int32} (hri : fX11_isWithin (x16 8) 0 (x0 4 - 1) = some 0) {r : Int32} {rx33 : (Nat → Int32)} {rx35 : (Nat → Int32)} {rx36 : (Nat → Int32)} {rx37 : (Nat → Int32)} {rx38 : (Nat → Int32)} {rx39 : (Nat → Int32)} (hret : ∀ pc loc, narrow .int (.int r) = .int r → decode cX11_order pc = .ok (.ireturn, 1) → gV l b0 D K (n, κ, ov X0 [0, 16, 17, 18, 23, 24, 25, 26, 33, 35, 36, 37, 38, 39] [x0, x16, x17, x18, x23, x24, x25, x26, rx33, rx35, rx36, rx37, rx38, rx39], ov Y0 [] [], Z, 0, 0) pc loc [.int r]) {k18 : Int32 → Int32 → Int32 → (Nat → Int32) → (Nat → Int32) → (Nat → Int32) → (Nat → Int32) → (Nat → Int32) → (Nat → Int32) → Option (Int32 × (Nat → Int32) × (Nat → Int32) × (Nat → Int32) × (Nat → Int32) × (Nat → Int32) × (Nat → Int32))} (hk18 : ∀ (v1 : Int32) (v2 : Int32) (v3 : Int32) (x33 : (Nat → Int32)) (x35 : (Nat → Int32)) (x36 : (Nat → Int32)) (x37 : (Nat → Int32)) (x38 : (Nat → Int32)) (x39 : (Nat → Int32)), k18 v1 v2 v3 x33 x35 x36 x37 x38 x39 = some (r, rx33, rx35, rx36, rx37, rx38, rx39) → gV l b0 D K (n, κ, ov X0 [0, 16, 17, 18, 23, 24, 25, 26, 33, 35, 36, 37, 38, 39] [x0, x16, x17, x18, x23, x24, x25, x26, x33, x35, x36, x37, x38, x39], ov Y0 [] [], Z, 0, 0) 18 [(0, .ref (b0 + 0)), (1, .int v1), (2, .int v2), (3, .int v3)] []) {v1 : Int32} {v2 : Int32} {v3 : Int32} {x33 : (Nat → Int32)} {x35 : (Nat → Int32)} {x36 : (Nat → Int32)} {x37 : (Nat → Int32)} {x38 : (Nat → Int32)} {x39 : (Nat → Int32)} (hf : fX11_orderN_79 x0 x16 x17 x18 x23 x24 x25 x26 k18 v1 v2 v3 x33 x35 x36 x37 x38 x39 = some (r, rx33, rx35, rx36, rx37, rx38, rx39)) : gV l b0 D K (n, κ, ov X0 [0, 16, 17, 18, 23, 24, 25, 26, 33, 35, 36, 37, 38, 39] [x0, x16, x17, x18, x23, x24, x25, x26, x33, x35, x36, x37, x38, x39], ov Y0 [] [], Z, 0, 0) 79 [(0, .ref (b0 + 0)), (1, .int v1), (2, .int v2), (3, .int v3)] [] := by
  unfold fX11_orderN_79 at hf
  obtain ⟨t_1, et_1, hf⟩ := bnE hf
  refine g_iinc hC (i := 2) (v := t_1) [(2, .int t_1), (0, .ref (b0 + 0)), (1, .int v1), (3, .int v3)] dX11_order_79 (q := 2) rfl ((congrArg (HAdd.hAdd v2) ic_1).trans et_1.symm) (by decide) rfl ?_
  exact g_sub [1, 2, 0, 3] rfl (wX11_orderN_82 hL hN hM hC hri hret hk18 hf)

def fX11_orderN_52   (x0 : Nat → Int32) (x16 : Nat → Int32) (x17 : Nat → Int32) (x18 : Nat → Int32) (x23 : Nat → Int32) (x24 : Nat → Int32) (x25 : Nat → Int32) (x26 : Nat → Int32)  (k18 : Int32 → Int32 → Int32 → (Nat → Int32) → (Nat → Int32) → (Nat → Int32) → (Nat → Int32) → (Nat → Int32) → (Nat → Int32) → Option (Int32 × (Nat → Int32) × (Nat → Int32) × (Nat → Int32) × (Nat → Int32) × (Nat → Int32) × (Nat → Int32))) (v1 : Int32) (v2 : Int32) (v3 : Int32) (s0 : Int32) (x33 : (Nat → Int32)) (x35 : (Nat → Int32)) (x36 : (Nat → Int32)) (x37 : (Nat → Int32)) (x38 : (Nat → Int32)) (x39 : (Nat → Int32)) : Option (Int32 × (Nat → Int32) × (Nat → Int32) × (Nat → Int32) × (Nat → Int32) × (Nat → Int32) × (Nat → Int32)) := if s0 = 0 then (gd (inb v3 6) (gd (inb v1 6) (if (x39 v3.toNatClampNeg) = (x39 v1.toNatClampNeg) then (if v1 ≤ v3 then (fX11_orderN_82 x0 x16 x17 x18 x23 x24 x25 x26 k18 v1 v2 v3 x33 x35 x36 x37 x38 x39) else (fX11_orderN_79 x0 x16 x17 x18 x23 x24 x25 x26 k18 v1 v2 v3 x33 x35 x36 x37 x38 x39)) else (fX11_orderN_82 x0 x16 x17 x18 x23 x24 x25 x26 k18 v1 v2 v3 x33 x35 x36 x37 x38 x39)))) else (fX11_orderN_79 x0 x16 x17 x18 x23 x24 x25 x26 k18 v1 v2 v3 x33 x35 x36 x37 x38 x39)
set_option maxHeartbeats 4000000 in
set_option maxRecDepth 100000 in
theorem wX11_orderN_52 {l : Launch} {b0 : Nat} {D : GD} {K : KT} {n : Nat} {κ : QT} {X0 : XT} {Y0 : YT} {Z : ZT} (hL : LY n κ) (hN : ([0, 16, 17, 18, 23, 24, 25, 26, 33, 35, 36, 37, 38, 39] : List Nat).Nodup) (hM : ([] : List Nat).Nodup) (hC : gC l b0 D K RX11 cX11_order (some FieldType.int) 5 6 160 0 0) {x0 : Nat → Int32} {x16 : Nat → Int32} {x17 : Nat → Int32} {x18 : Nat → Int32} {x23 : Nat → Int32} {x24 : Nat → Int32} {x25 : Nat → Int32} {x26 : Nat → Int32} (hri : fX11_isWithin (x16 8) 0 (x0 4 - 1) = some 0) {r : Int32} {rx33 : (Nat → Int32)} {rx35 : (Nat → Int32)} {rx36 : (Nat → Int32)} {rx37 : (Nat → Int32)} {rx38 : (Nat → Int32)} {rx39 : (Nat → Int32)} (hret : ∀ pc loc, narrow .int (.int r) = .int r → decode cX11_order pc = .ok (.ireturn, 1) → gV l b0 D K (n, κ, ov X0 [0, 16, 17, 18, 23, 24, 25, 26, 33, 35, 36, 37, 38, 39] [x0, x16, x17, x18, x23, x24, x25, x26, rx33, rx35, rx36, rx37, rx38, rx39], ov Y0 [] [], Z, 0, 0) pc loc [.int r]) {k18 : Int32 → Int32 → Int32 → (Nat → Int32) → (Nat → Int32) → (Nat → Int32) → (Nat → Int32) → (Nat → Int32) → (Nat → Int32) → Option (Int32 × (Nat → Int32) × (Nat → Int32) × (Nat → Int32) × (Nat → Int32) × (Nat → Int32) × (Nat → Int32))} (hk18 : ∀ (v1 : Int32) (v2 : Int32) (v3 : Int32) (x33 : (Nat → Int32)) (x35 : (Nat → Int32)) (x36 : (Nat → Int32)) (x37 : (Nat → Int32)) (x38 : (Nat → Int32)) (x39 : (Nat → Int32)), k18 v1 v2 v3 x33 x35 x36 x37 x38 x39 = some (r, rx33, rx35, rx36, rx37, rx38, rx39) → gV l b0 D K (n, κ, ov X0 [0, 16, 17, 18, 23, 24, 25, 26, 33, 35, 36, 37, 38, 39] [x0, x16, x17, x18, x23, x24, x25, x26, x33, x35, x36, x37, x38, x39], ov Y0 [] [], Z, 0, 0) 18 [(0, .ref (b0 + 0)), (1, .int v1), (2, .int v2), (3, .int v3)] []) {v1 : Int32} {v2 : Int32} {v3 : Int32} {s0 : Int32} {x33 : (Nat → Int32)} {x35 : (Nat → Int32)} {x36 : (Nat → Int32)} {x37 : (Nat → Int32)} {x38 : (Nat → Int32)} {x39 : (Nat → Int32)} (hf : fX11_orderN_52 x0 x16 x17 x18 x23 x24 x25 x26 k18 v1 v2 v3 s0 x33 x35 x36 x37 x38 x39 = some (r, rx33, rx35, rx36, rx37, rx38, rx39)) : gV l b0 D K (n, κ, ov X0 [0, 16, 17, 18, 23, 24, 25, 26, 33, 35, 36, 37, 38, 39] [x0, x16, x17, x18, x23, x24, x25, x26, x33, x35, x36, x37, x38, x39], ov Y0 [] [], Z, 0, 0) 52 [(0, .ref (b0 + 0)), (1, .int v1), (2, .int v2), (3, .int v3)] [.int s0] := by
  unfold fX11_orderN_52 at hf
  refine g_istore hC (i := 4) [(4, .int s0), (0, .ref (b0 + 0)), (1, .int v1), (2, .int v2), (3, .int v3)] dX11_order_52 (by decide) rfl ?_
  refine g_iload hC 0 dX11_order_54 rfl ?_
  refine g_if_ne hC 79 dX11_order_56 (by decide) (fun hc => ?_) (fun hc => ?_)
  · replace hf := ifF hf hc
    exact g_sub [1, 2, 3, 4] rfl (wX11_orderN_79 hL hN hM hC hri hret hk18 hf)
  · replace hf := ifT hf hc
    refine g_aload_n hC 1 dX11_order_59 rfl rfl ?_
    refine gt_X11_69 hC (a := 0) (kk_0 hL) (kn_0 hL) dX11_order_60 ?_
    refine g_ref (b := 39) rfl ?_
    refine g_iload_n hC 4 dX11_order_63 rfl rfl ?_
    obtain ⟨h_1, hf⟩ := gdE hf
    refine g_iald hC (x := x39) (kk_39 hL) (kn_39 hL) (ov_get hN 13 rfl rfl) (inb_in h_1) dX11_order_64 ?_
    refine g_aload_n hC 1 dX11_order_65 rfl rfl ?_
    refine gt_X11_69 hC (a := 0) (kk_0 hL) (kn_0 hL) dX11_order_66 ?_
    refine g_ref (b := 39) rfl ?_
    refine g_iload_n hC 2 dX11_order_69 rfl rfl ?_
    obtain ⟨h_2, hf⟩ := gdE hf
    refine g_iald hC (x := x39) (kk_39 hL) (kn_39 hL) (ov_get hN 13 rfl rfl) (inb_in h_2) dX11_order_70 ?_
    refine g_icmp_ne hC 82 dX11_order_71 (by decide) (fun hc => ?_) (fun hc => ?_)
    · replace hf := ifF hf hc
      exact g_sub [1, 2, 3, 4] rfl (wX11_orderN_82 hL hN hM hC hri hret hk18 hf)
    · replace hf := ifT hf hc
      refine g_iload_n hC 4 dX11_order_74 rfl rfl ?_
      refine g_iload_n hC 2 dX11_order_75 rfl rfl ?_
      refine g_icmp_ge hC 82 dX11_order_76 (by decide) (fun hc => ?_) (fun hc => ?_)
      · replace hf := ifT hf hc
        exact g_sub [1, 2, 3, 4] rfl (wX11_orderN_82 hL hN hM hC hri hret hk18 hf)
      · replace hf := ifF hf hc
        exact g_sub [1, 2, 3, 4] rfl (wX11_orderN_79 hL hN hM hC hri hret hk18 hf)

def fX11_orderN_18b   (x0 : Nat → Int32) (x16 : Nat → Int32) (x17 : Nat → Int32) (x18 : Nat → Int32) (x23 : Nat → Int32) (x24 : Nat → Int32) (x25 : Nat → Int32) (x26 : Nat → Int32)  (k18 : Int32 → Int32 → Int32 → (Nat → Int32) → (Nat → Int32) → (Nat → Int32) → (Nat → Int32) → (Nat → Int32) → (Nat → Int32) → Option (Int32 × (Nat → Int32) × (Nat → Int32) × (Nat → Int32) × (Nat → Int32) × (Nat → Int32) × (Nat → Int32))) (v1 : Int32) (v2 : Int32) (v3 : Int32) (x33 : (Nat → Int32)) (x35 : (Nat → Int32)) (x36 : (Nat → Int32)) (x37 : (Nat → Int32)) (x38 : (Nat → Int32)) (x39 : (Nat → Int32)) : Option (Int32 × (Nat → Int32) × (Nat → Int32) × (Nat → Int32) × (Nat → Int32) × (Nat → Int32) × (Nat → Int32)) := if (x17 4) ≤ v3 then (some (v2, x33, x35, x36, x37, x38, x39)) else (gd (inb v3 6) (gd (inb v1 6) (if (x39 v1.toNatClampNeg) ≤ (x39 v3.toNatClampNeg) then (fX11_orderN_52 x0 x16 x17 x18 x23 x24 x25 x26 k18 v1 v2 v3 0 x33 x35 x36 x37 x38 x39) else (fX11_orderN_52 x0 x16 x17 x18 x23 x24 x25 x26 k18 v1 v2 v3 1 x33 x35 x36 x37 x38 x39))))
def fX11_orderN_18   (x0 : Nat → Int32) (x16 : Nat → Int32) (x17 : Nat → Int32) (x18 : Nat → Int32) (x23 : Nat → Int32) (x24 : Nat → Int32) (x25 : Nat → Int32) (x26 : Nat → Int32)  : Int32 → Int32 → Int32 → (Nat → Int32) → (Nat → Int32) → (Nat → Int32) → (Nat → Int32) → (Nat → Int32) → (Nat → Int32) → Option (Int32 × (Nat → Int32) × (Nat → Int32) × (Nat → Int32) × (Nat → Int32) × (Nat → Int32) × (Nat → Int32)) := lq9 (fX11_orderN_18b x0 x16 x17 x18 x23 x24 x25 x26 ) 5000
set_option maxHeartbeats 4000000 in
set_option maxRecDepth 100000 in
theorem wX11_orderN_18 {l : Launch} {b0 : Nat} {D : GD} {K : KT} {n : Nat} {κ : QT} {X0 : XT} {Y0 : YT} {Z : ZT} (hL : LY n κ) (hN : ([0, 16, 17, 18, 23, 24, 25, 26, 33, 35, 36, 37, 38, 39] : List Nat).Nodup) (hM : ([] : List Nat).Nodup) (hC : gC l b0 D K RX11 cX11_order (some FieldType.int) 5 6 160 0 0) {x0 : Nat → Int32} {x16 : Nat → Int32} {x17 : Nat → Int32} {x18 : Nat → Int32} {x23 : Nat → Int32} {x24 : Nat → Int32} {x25 : Nat → Int32} {x26 : Nat → Int32} (hri : fX11_isWithin (x16 8) 0 (x0 4 - 1) = some 0) {r : Int32} {rx33 : (Nat → Int32)} {rx35 : (Nat → Int32)} {rx36 : (Nat → Int32)} {rx37 : (Nat → Int32)} {rx38 : (Nat → Int32)} {rx39 : (Nat → Int32)} (hret : ∀ pc loc, narrow .int (.int r) = .int r → decode cX11_order pc = .ok (.ireturn, 1) → gV l b0 D K (n, κ, ov X0 [0, 16, 17, 18, 23, 24, 25, 26, 33, 35, 36, 37, 38, 39] [x0, x16, x17, x18, x23, x24, x25, x26, rx33, rx35, rx36, rx37, rx38, rx39], ov Y0 [] [], Z, 0, 0) pc loc [.int r]) : ∀ (j : Nat) (v1 : Int32) (v2 : Int32) (v3 : Int32) (x33 : (Nat → Int32)) (x35 : (Nat → Int32)) (x36 : (Nat → Int32)) (x37 : (Nat → Int32)) (x38 : (Nat → Int32)) (x39 : (Nat → Int32)), lq9 (fX11_orderN_18b x0 x16 x17 x18 x23 x24 x25 x26 ) j v1 v2 v3 x33 x35 x36 x37 x38 x39 = some (r, rx33, rx35, rx36, rx37, rx38, rx39) → gV l b0 D K (n, κ, ov X0 [0, 16, 17, 18, 23, 24, 25, 26, 33, 35, 36, 37, 38, 39] [x0, x16, x17, x18, x23, x24, x25, x26, x33, x35, x36, x37, x38, x39], ov Y0 [] [], Z, 0, 0) 18 [(0, .ref (b0 + 0)), (1, .int v1), (2, .int v2), (3, .int v3)] [] := by
  intro j
  induction j with
  | zero => intro v1 v2 v3 x33 x35 x36 x37 x38 x39 hf; cases hf
  | succ j hk18 =>
    intro v1 v2 v3 x33 x35 x36 x37 x38 x39 hf
    replace hf : fX11_orderN_18b x0 x16 x17 x18 x23 x24 x25 x26  (lq9 (fX11_orderN_18b x0 x16 x17 x18 x23 x24 x25 x26 ) j) v1 v2 v3 x33 x35 x36 x37 x38 x39 = some (r, rx33, rx35, rx36, rx37, rx38, rx39) := hf
    unfold fX11_orderN_18b at hf
    refine g_iload_n hC 3 dX11_order_18 rfl rfl ?_
    refine g_aload_n hC 0 dX11_order_19 rfl rfl ?_
    refine gt_X11_41 hC (a := 0) (kk_0 hL) (kn_0 hL) dX11_order_20 ?_
    refine g_ref (b := 16) rfl ?_
    refine gt_X11_51 hC (a := 16) (kk_16 hL) (kn_16 hL) dX11_order_23 ?_
    refine g_ref (b := 17) rfl ?_
    refine gt_X11_117 hC (x := x17) (kk_17 hL) (kn_17 hL) (ov_get hN 2 rfl rfl) dX11_order_26 ?_
    refine g_icmp_ge hC 88 dX11_order_29 (by decide) (fun hc => ?_) (fun hc => ?_)
    · replace hf := ifT hf hc
      refine g_iload_n hC 2 dX11_order_88 rfl rfl ?_
      obtain ⟨rfl, rfl, rfl, rfl, rfl, rfl, rfl⟩ := sm7E hf
      exact hret _ _ rfl dX11_order_89
    · replace hf := ifF hf hc
      refine g_aload_n hC 0 dX11_order_32 rfl rfl ?_
      refine gt_X11_69 hC (a := 0) (kk_0 hL) (kn_0 hL) dX11_order_33 ?_
      refine g_ref (b := 39) rfl ?_
      refine g_iload_n hC 3 dX11_order_36 rfl rfl ?_
      obtain ⟨h_1, hf⟩ := gdE hf
      refine g_iald hC (x := x39) (kk_39 hL) (kn_39 hL) (ov_get hN 13 rfl rfl) (inb_in h_1) dX11_order_37 ?_
      refine g_aload_n hC 0 dX11_order_38 rfl rfl ?_
      refine gt_X11_69 hC (a := 0) (kk_0 hL) (kn_0 hL) dX11_order_39 ?_
      refine g_ref (b := 39) rfl ?_
      refine g_iload_n hC 1 dX11_order_42 rfl rfl ?_
      obtain ⟨h_2, hf⟩ := gdE hf
      refine g_iald hC (x := x39) (kk_39 hL) (kn_39 hL) (ov_get hN 13 rfl rfl) (inb_in h_2) dX11_order_43 ?_
      refine g_icmp_ge hC 51 dX11_order_44 (by decide) (fun hc => ?_) (fun hc => ?_)
      · replace hf := ifT hf hc
        refine g_iconst hC (v := 0) dX11_order_51 ic_0 ?_
        exact g_sub [0, 1, 2, 3] rfl (wX11_orderN_52 hL hN hM hC hri hret hk18 hf)
      · replace hf := ifF hf hc
        refine g_iconst hC (v := 1) dX11_order_47 ic_1 ?_
        refine g_goto hC 52 dX11_order_48 (by decide) ?_
        exact g_sub [0, 1, 2, 3] rfl (wX11_orderN_52 hL hN hM hC hri hret hk18 hf)

def fX11_orderN_0   (x0 : Nat → Int32) (x16 : Nat → Int32) (x17 : Nat → Int32) (x18 : Nat → Int32) (x23 : Nat → Int32) (x24 : Nat → Int32) (x25 : Nat → Int32) (x26 : Nat → Int32)  (v1 : Int32) (x33 : (Nat → Int32)) (x35 : (Nat → Int32)) (x36 : (Nat → Int32)) (x37 : (Nat → Int32)) (x38 : (Nat → Int32)) (x39 : (Nat → Int32)) : Option (Int32 × (Nat → Int32) × (Nat → Int32) × (Nat → Int32) × (Nat → Int32) × (Nat → Int32) × (Nat → Int32)) := bd1 (fX11_isHouse x17 v1) fun r_1 => (if r_1 = 0 then (some ((-1), x33, x35, x36, x37, x38, x39)) else (bd6 (fX11_findComesDownN x0 x16 x17 x18 x23 x24 x25 x26 x33 x35 x36 x37 x38 x39) fun x33_3 x35_4 x36_5 x37_6 x38_7 x39_8 => (fX11_orderN_18 x0 x16 x17 x18 x23 x24 x25 x26  v1 0 0 x33_3 x35_4 x36_5 x37_6 x38_7 x39_8)))
set_option maxHeartbeats 4000000 in
set_option maxRecDepth 100000 in
theorem wX11_orderN_0 {l : Launch} {b0 : Nat} {D : GD} {K : KT} {n : Nat} {κ : QT} {X0 : XT} {Y0 : YT} {Z : ZT} (hL : LY n κ) (hN : ([0, 16, 17, 18, 23, 24, 25, 26, 33, 35, 36, 37, 38, 39] : List Nat).Nodup) (hM : ([] : List Nat).Nodup) (hC : gC l b0 D K RX11 cX11_order (some FieldType.int) 5 6 160 0 0) {x0 : Nat → Int32} {x16 : Nat → Int32} {x17 : Nat → Int32} {x18 : Nat → Int32} {x23 : Nat → Int32} {x24 : Nat → Int32} {x25 : Nat → Int32} {x26 : Nat → Int32} (hri : fX11_isWithin (x16 8) 0 (x0 4 - 1) = some 0) {r : Int32} {rx33 : (Nat → Int32)} {rx35 : (Nat → Int32)} {rx36 : (Nat → Int32)} {rx37 : (Nat → Int32)} {rx38 : (Nat → Int32)} {rx39 : (Nat → Int32)} (hret : ∀ pc loc, narrow .int (.int r) = .int r → decode cX11_order pc = .ok (.ireturn, 1) → gV l b0 D K (n, κ, ov X0 [0, 16, 17, 18, 23, 24, 25, 26, 33, 35, 36, 37, 38, 39] [x0, x16, x17, x18, x23, x24, x25, x26, rx33, rx35, rx36, rx37, rx38, rx39], ov Y0 [] [], Z, 0, 0) pc loc [.int r]) {v1 : Int32} {x33 : (Nat → Int32)} {x35 : (Nat → Int32)} {x36 : (Nat → Int32)} {x37 : (Nat → Int32)} {x38 : (Nat → Int32)} {x39 : (Nat → Int32)} (hf : fX11_orderN_0 x0 x16 x17 x18 x23 x24 x25 x26  v1 x33 x35 x36 x37 x38 x39 = some (r, rx33, rx35, rx36, rx37, rx38, rx39)) : gV l b0 D K (n, κ, ov X0 [0, 16, 17, 18, 23, 24, 25, 26, 33, 35, 36, 37, 38, 39] [x0, x16, x17, x18, x23, x24, x25, x26, x33, x35, x36, x37, x38, x39], ov Y0 [] [], Z, 0, 0) 0 [(0, .ref (b0 + 0)), (1, .int v1)] [] := by
  unfold fX11_orderN_0 at hf
  refine g_aload_n hC 0 dX11_order_0 rfl rfl ?_
  refine g_iload_n hC 1 dX11_order_1 rfl rfl ?_
  obtain ⟨r_1, q_2, hf⟩ := bd1E hf
  refine g_callV_i (a := 0) hC (X' := ov X0 [0, 16, 17, 18, 23, 24, 25, 26, 33, 35, 36, 37, 38, 39] [x0, x16, x17, x18, x23, x24, x25, x26, x33, x35, x36, x37, x38, x39]) (Y' := ov Y0 [] []) (As := [.int v1]) (gMi_eq (c_X11_isHouse l hL (ov_map hN [2] (by rfl) (by rfl)) (ov_map hM [] (by rfl) (by rfl)) q_2) (ov_ovE hN (by rfl) [2] [0, 1, 3, 4, 5, 6, 7, 8, 9, 10, 11, 12, 13] (by rfl) (by rfl) [x0, x16, x18, x23, x24, x25, x26, x33, x35, x36, x37, x38, x39] (by rfl) (by rfl) (by rfl) 14 (by rfl) (by decide)) (ov_ovE hM (by rfl) [] [] (by rfl) (by rfl) [] (by rfl) (by rfl) (by rfl) 0 (by rfl) (by decide))) tw_790 tw_787 tw_116 tw_789 tw_21 (ci := 11) rfl (by decide) (kk_0 hL) (kn_0 hL) pd_X11_isHouse (by decide) (by decide) rfl rfl (Nat.le_of_ble_eq_true rfl) rfl dX11_order_2 ?_
  refine g_if_ne hC 10 dX11_order_5 (by decide) (fun hc => ?_) (fun hc => ?_)
  · replace hf := ifF hf hc
    refine g_aload_n hC 0 dX11_order_10 rfl rfl ?_
    obtain ⟨x33_3, x35_4, x36_5, x37_6, x38_7, x39_8, q_9, hf⟩ := bd6E hf
    refine g_callV_v (a := 0) hC (X' := ov X0 [0, 16, 17, 18, 23, 24, 25, 26, 33, 35, 36, 37, 38, 39] [x0, x16, x17, x18, x23, x24, x25, x26, x33_3, x35_4, x36_5, x37_6, x38_7, x39_8]) (Y' := ov Y0 [] []) (As := []) (gMv_eq (c_X11_findComesDownN l hL hri (ov_map hN [0, 1, 2, 3, 4, 5, 6, 7, 8, 9, 10, 11, 12, 13] (by rfl) (by rfl)) (ov_map hM [] (by rfl) (by rfl)) q_9) (ov_ovE hN (by rfl) [0, 1, 2, 3, 4, 5, 6, 7, 8, 9, 10, 11, 12, 13] [] (by rfl) (by rfl) [] (by rfl) (by rfl) (by rfl) 14 (by rfl) (by decide)) (ov_ovE hM (by rfl) [] [] (by rfl) (by rfl) [] (by rfl) (by rfl) (by rfl) 0 (by rfl) (by decide))) tw_992 tw_989 tw_116 tw_991 tw_35 (ci := 11) rfl (by decide) (kk_0 hL) (kn_0 hL) pd_X11_findComesDown (by decide) (by decide) rfl rfl (Nat.le_of_ble_eq_true rfl) rfl dX11_order_11 ?_
    refine g_iconst hC (v := 0) dX11_order_14 ic_0 ?_
    refine g_istore_n hC (i := 2) [(2, .int 0), (0, .ref (b0 + 0)), (1, .int v1)] rfl dX11_order_15 (by decide) rfl ?_
    refine g_iconst hC (v := 0) dX11_order_16 ic_0 ?_
    refine g_istore_n hC (i := 3) [(3, .int 0), (2, .int 0), (0, .ref (b0 + 0)), (1, .int v1)] rfl dX11_order_17 (by decide) rfl ?_
    exact g_sub [2, 3, 1, 0] rfl (wX11_orderN_18 hL hN hM hC hri hret  5000 v1 0 0 x33_3 x35_4 x36_5 x37_6 x38_7 x39_8 hf)
  · replace hf := ifT hf hc
    refine g_iconst hC (v := (-1)) dX11_order_8 ic_m1 ?_
    obtain ⟨rfl, rfl, rfl, rfl, rfl, rfl, rfl⟩ := sm7E hf
    exact hret _ _ rfl dX11_order_9

def fX11_orderN   (x0 : Nat → Int32) (x16 : Nat → Int32) (x17 : Nat → Int32) (x18 : Nat → Int32) (x23 : Nat → Int32) (x24 : Nat → Int32) (x25 : Nat → Int32) (x26 : Nat → Int32)  (v1 : Int32) (x33 : Nat → Int32) (x35 : Nat → Int32) (x36 : Nat → Int32) (x37 : Nat → Int32) (x38 : Nat → Int32) (x39 : Nat → Int32)  : Option (Int32 × (Nat → Int32) × (Nat → Int32) × (Nat → Int32) × (Nat → Int32) × (Nat → Int32) × (Nat → Int32)) := fX11_orderN_0 x0 x16 x17 x18 x23 x24 x25 x26 v1 x33 x35 x36 x37 x38 x39

set_option maxHeartbeats 4000000 in
set_option maxRecDepth 100000 in
theorem c_X11_orderN (l : Launch) {b0 : Nat} {D : GD} {n : Nat} {κ : QT} {X0 : XT} {Y0 : YT} {Z : ZT} (hL : LY n κ) {x0 : Nat → Int32} {x16 : Nat → Int32} {x17 : Nat → Int32} {x18 : Nat → Int32} {x23 : Nat → Int32} {x24 : Nat → Int32} {x25 : Nat → Int32} {x26 : Nat → Int32} {x33 : Nat → Int32} {x35 : Nat → Int32} {x36 : Nat → Int32} {x37 : Nat → Int32} {x38 : Nat → Int32} {x39 : Nat → Int32} (hri : fX11_isWithin (x16 8) 0 (x0 4 - 1) = some 0) (hx : ([0, 16, 17, 18, 23, 24, 25, 26, 33, 35, 36, 37, 38, 39] : List Nat).map X0 = [x0, x16, x17, x18, x23, x24, x25, x26, x33, x35, x36, x37, x38, x39]) (hy : ([] : List Nat).map Y0 = []) {v1 : Int32} {r : Int32} {rx33 : (Nat → Int32)} {rx35 : (Nat → Int32)} {rx36 : (Nat → Int32)} {rx37 : (Nat → Int32)} {rx38 : (Nat → Int32)} {rx39 : (Nat → Int32)} (hf : fX11_orderN x0 x16 x17 x18 x23 x24 x25 x26 v1 x33 x35 x36 x37 x38 x39 = some (r, rx33, rx35, rx36, rx37, rx38, rx39)) : gMi l yX11_order cX11_order 5 (some FieldType.int) 6 160 0 0 b0 D [.ref (b0 + 0), .int v1] (n, κ, X0, Y0, Z) (n, κ, ov X0 [0, 16, 17, 18, 23, 24, 25, 26, 33, 35, 36, 37, 38, 39] [x0, x16, x17, x18, x23, x24, x25, x26, rx33, rx35, rx36, rx37, rx38, rx39], ov Y0 [] [], Z) r := by
  have hN : ([0, 16, 17, 18, 23, 24, 25, 26, 33, 35, 36, 37, 38, 39] : List Nat).Nodup := by decide
  have hM : ([] : List Nat).Nodup := by decide
  refine g_meti (own := RX11) (by decide) rfl rfl (Nat.le_of_ble_eq_true rfl) ?_
  intro K hC hret
  have e := wX11_orderN_0 hL hN hM hC hri hret hf
  rw [ov_id' hx, ov_id' hy] at e
  exact g_sub [0, 1] rfl e

-- X11_order
def fX11_orderR_82  (Lru : Nat) (xruz1 : Nat → Int32) (x0 : Nat → Int32) (x16 : Nat → Int32) (x17 : Nat → Int32) (x18 : Nat → Int32) (x23 : Nat → Int32) (x24 : Nat → Int32) (x25 : Nat → Int32) (x26 : Nat → Int32)  (k18 : Int32 → Int32 → Int32 → (Nat → Int32) → (Nat → Int32) → (Nat → Int32) → (Nat → Int32) → (Nat → Int32) → (Nat → Int32) → (Nat → Int64) → (Nat → Int64) → Option (Int32 × (Nat → Int32) × (Nat → Int32) × (Nat → Int32) × (Nat → Int32) × (Nat → Int32) × (Nat → Int32) × (Nat → Int64) × (Nat → Int64))) (v1 : Int32) (v2 : Int32) (v3 : Int32) (x33 : (Nat → Int32)) (x35 : (Nat → Int32)) (x36 : (Nat → Int32)) (x37 : (Nat → Int32)) (x38 : (Nat → Int32)) (x39 : (Nat → Int32)) (yruz2 : (Nat → Int64)) (y34 : (Nat → Int64)) : Option (Int32 × (Nat → Int32) × (Nat → Int32) × (Nat → Int32) × (Nat → Int32) × (Nat → Int32) × (Nat → Int32) × (Nat → Int64) × (Nat → Int64)) := bn (v3 + 1) fun t_1 => (k18 v1 v2 t_1 x33 x35 x36 x37 x38 x39 yruz2 y34)
set_option maxHeartbeats 4000000 in
set_option maxRecDepth 100000 in
theorem wX11_orderR_82 {l : Launch} {b0 : Nat} {D : GD} {K : KT} {n : Nat} {κ : QT} {X0 : XT} {Y0 : YT} {Z : ZT} {ru : Nat} {Lru : Nat} (hL : LY n κ) (hk_ru : κ ru = (4, 0)) (hn_ru : ru < n) (hk_ru_1 : κ (ru + 1) = (14, Lru)) (hN : ([ru + 1, 0, 16, 17, 18, 23, 24, 25, 26, 33, 35, 36, 37, 38, 39] : List Nat).Nodup) (hM : ([ru + 2, 34] : List Nat).Nodup) (hC : gC l b0 D K RX11 cX11_order (some FieldType.int) 5 6 160 0 0) {xruz1 : Nat → Int32} {x0 : Nat → Int32} {x16 : Nat → Int32} {x17 : Nat → Int32} {x18 : Nat → Int32} {x23 : Nat → Int32} {x24 : Nat → Int32} {x25 : Nat → Int32} {x26 : Nat → Int32} (hri : fX11_isWithin (x16 8) 0 (x0 4 - 1) = some 1 ∧ inb (x16 8) 6 = true ∧ Z 15 (x16 8).toNatClampNeg = some ru) {r : Int32} {rx33 : (Nat → Int32)} {rx35 : (Nat → Int32)} {rx36 : (Nat → Int32)} {rx37 : (Nat → Int32)} {rx38 : (Nat → Int32)} {rx39 : (Nat → Int32)} {ryruz2 : (Nat → Int64)} {ry34 : (Nat → Int64)} (hret : ∀ pc loc, narrow .int (.int r) = .int r → decode cX11_order pc = .ok (.ireturn, 1) → gV l b0 D K (n, κ, ov X0 [ru + 1, 0, 16, 17, 18, 23, 24, 25, 26, 33, 35, 36, 37, 38, 39] [xruz1, x0, x16, x17, x18, x23, x24, x25, x26, rx33, rx35, rx36, rx37, rx38, rx39], ov Y0 [ru + 2, 34] [ryruz2, ry34], Z, 0, 0) pc loc [.int r]) {k18 : Int32 → Int32 → Int32 → (Nat → Int32) → (Nat → Int32) → (Nat → Int32) → (Nat → Int32) → (Nat → Int32) → (Nat → Int32) → (Nat → Int64) → (Nat → Int64) → Option (Int32 × (Nat → Int32) × (Nat → Int32) × (Nat → Int32) × (Nat → Int32) × (Nat → Int32) × (Nat → Int32) × (Nat → Int64) × (Nat → Int64))} (hk18 : ∀ (v1 : Int32) (v2 : Int32) (v3 : Int32) (x33 : (Nat → Int32)) (x35 : (Nat → Int32)) (x36 : (Nat → Int32)) (x37 : (Nat → Int32)) (x38 : (Nat → Int32)) (x39 : (Nat → Int32)) (yruz2 : (Nat → Int64)) (y34 : (Nat → Int64)), k18 v1 v2 v3 x33 x35 x36 x37 x38 x39 yruz2 y34 = some (r, rx33, rx35, rx36, rx37, rx38, rx39, ryruz2, ry34) → gV l b0 D K (n, κ, ov X0 [ru + 1, 0, 16, 17, 18, 23, 24, 25, 26, 33, 35, 36, 37, 38, 39] [xruz1, x0, x16, x17, x18, x23, x24, x25, x26, x33, x35, x36, x37, x38, x39], ov Y0 [ru + 2, 34] [yruz2, y34], Z, 0, 0) 18 [(0, .ref (b0 + 0)), (1, .int v1), (2, .int v2), (3, .int v3)] []) {v1 : Int32} {v2 : Int32} {v3 : Int32} {x33 : (Nat → Int32)} {x35 : (Nat → Int32)} {x36 : (Nat → Int32)} {x37 : (Nat → Int32)} {x38 : (Nat → Int32)} {x39 : (Nat → Int32)} {yruz2 : (Nat → Int64)} {y34 : (Nat → Int64)} (hf : fX11_orderR_82 Lru xruz1 x0 x16 x17 x18 x23 x24 x25 x26 k18 v1 v2 v3 x33 x35 x36 x37 x38 x39 yruz2 y34 = some (r, rx33, rx35, rx36, rx37, rx38, rx39, ryruz2, ry34)) : gV l b0 D K (n, κ, ov X0 [ru + 1, 0, 16, 17, 18, 23, 24, 25, 26, 33, 35, 36, 37, 38, 39] [xruz1, x0, x16, x17, x18, x23, x24, x25, x26, x33, x35, x36, x37, x38, x39], ov Y0 [ru + 2, 34] [yruz2, y34], Z, 0, 0) 82 [(0, .ref (b0 + 0)), (1, .int v1), (2, .int v2), (3, .int v3)] [] := by
  unfold fX11_orderR_82 at hf
  obtain ⟨t_1, et_1, hf⟩ := bnE hf
  refine g_iinc hC (i := 3) (v := t_1) [(3, .int t_1), (0, .ref (b0 + 0)), (1, .int v1), (2, .int v2)] dX11_order_82 (q := 3) rfl ((congrArg (HAdd.hAdd v3) ic_1).trans et_1.symm) (by decide) rfl ?_
  refine g_goto hC 18 dX11_order_85 (by decide) ?_
  exact g_sub [1, 2, 3, 0] rfl (hk18 v1 v2 t_1 x33 x35 x36 x37 x38 x39 yruz2 y34 hf)

def fX11_orderR_79  (Lru : Nat) (xruz1 : Nat → Int32) (x0 : Nat → Int32) (x16 : Nat → Int32) (x17 : Nat → Int32) (x18 : Nat → Int32) (x23 : Nat → Int32) (x24 : Nat → Int32) (x25 : Nat → Int32) (x26 : Nat → Int32)  (k18 : Int32 → Int32 → Int32 → (Nat → Int32) → (Nat → Int32) → (Nat → Int32) → (Nat → Int32) → (Nat → Int32) → (Nat → Int32) → (Nat → Int64) → (Nat → Int64) → Option (Int32 × (Nat → Int32) × (Nat → Int32) × (Nat → Int32) × (Nat → Int32) × (Nat → Int32) × (Nat → Int32) × (Nat → Int64) × (Nat → Int64))) (v1 : Int32) (v2 : Int32) (v3 : Int32) (x33 : (Nat → Int32)) (x35 : (Nat → Int32)) (x36 : (Nat → Int32)) (x37 : (Nat → Int32)) (x38 : (Nat → Int32)) (x39 : (Nat → Int32)) (yruz2 : (Nat → Int64)) (y34 : (Nat → Int64)) : Option (Int32 × (Nat → Int32) × (Nat → Int32) × (Nat → Int32) × (Nat → Int32) × (Nat → Int32) × (Nat → Int32) × (Nat → Int64) × (Nat → Int64)) := bn (v2 + 1) fun t_1 => (fX11_orderR_82 Lru xruz1 x0 x16 x17 x18 x23 x24 x25 x26 k18 v1 t_1 v3 x33 x35 x36 x37 x38 x39 yruz2 y34)
set_option maxHeartbeats 4000000 in
set_option maxRecDepth 100000 in
theorem wX11_orderR_79 {l : Launch} {b0 : Nat} {D : GD} {K : KT} {n : Nat} {κ : QT} {X0 : XT} {Y0 : YT} {Z : ZT} {ru : Nat} {Lru : Nat} (hL : LY n κ) (hk_ru : κ ru = (4, 0)) (hn_ru : ru < n) (hk_ru_1 : κ (ru + 1) = (14, Lru)) (hN : ([ru + 1, 0, 16, 17, 18, 23, 24, 25, 26, 33, 35, 36, 37, 38, 39] : List Nat).Nodup) (hM : ([ru + 2, 34] : List Nat).Nodup) (hC : gC l b0 D K RX11 cX11_order (some FieldType.int) 5 6 160 0 0) {xruz1 : Nat → Int32} {x0 : Nat → Int32} {x16 : Nat → Int32} {x17 : Nat → Int32} {x18 : Nat → Int32} {x23 : Nat → Int32} {x24 : Nat → Int32} {x25 : Nat → Int32} {x26 : Nat → Int32} (hri : fX11_isWithin (x16 8) 0 (x0 4 - 1) = some 1 ∧ inb (x16 8) 6 = true ∧ Z 15 (x16 8).toNatClampNeg = some ru) {r : Int32} {rx33 : (Nat → Int32)} {rx35 : (Nat → Int32)} {rx36 : (Nat → Int32)} {rx37 : (Nat → Int32)} {rx38 : (Nat → Int32)} {rx39 : (Nat → Int32)} {ryruz2 : (Nat → Int64)} {ry34 : (Nat → Int64)} (hret : ∀ pc loc, narrow .int (.int r) = .int r → decode cX11_order pc = .ok (.ireturn, 1) → gV l b0 D K (n, κ, ov X0 [ru + 1, 0, 16, 17, 18, 23, 24, 25, 26, 33, 35, 36, 37, 38, 39] [xruz1, x0, x16, x17, x18, x23, x24, x25, x26, rx33, rx35, rx36, rx37, rx38, rx39], ov Y0 [ru + 2, 34] [ryruz2, ry34], Z, 0, 0) pc loc [.int r]) {k18 : Int32 → Int32 → Int32 → (Nat → Int32) → (Nat → Int32) → (Nat → Int32) → (Nat → Int32) → (Nat → Int32) → (Nat → Int32) → (Nat → Int64) → (Nat → Int64) → Option (Int32 × (Nat → Int32) × (Nat → Int32) × (Nat → Int32) × (Nat → Int32) × (Nat → Int32) × (Nat → Int32) × (Nat → Int64) × (Nat → Int64))} (hk18 : ∀ (v1 : Int32) (v2 : Int32) (v3 : Int32) (x33 : (Nat → Int32)) (x35 : (Nat → Int32)) (x36 : (Nat → Int32)) (x37 : (Nat → Int32)) (x38 : (Nat → Int32)) (x39 : (Nat → Int32)) (yruz2 : (Nat → Int64)) (y34 : (Nat → Int64)), k18 v1 v2 v3 x33 x35 x36 x37 x38 x39 yruz2 y34 = some (r, rx33, rx35, rx36, rx37, rx38, rx39, ryruz2, ry34) → gV l b0 D K (n, κ, ov X0 [ru + 1, 0, 16, 17, 18, 23, 24, 25, 26, 33, 35, 36, 37, 38, 39] [xruz1, x0, x16, x17, x18, x23, x24, x25, x26, x33, x35, x36, x37, x38, x39], ov Y0 [ru + 2, 34] [yruz2, y34], Z, 0, 0) 18 [(0, .ref (b0 + 0)), (1, .int v1), (2, .int v2), (3, .int v3)] []) {v1 : Int32} {v2 : Int32} {v3 : Int32} {x33 : (Nat → Int32)} {x35 : (Nat → Int32)} {x36 : (Nat → Int32)} {x37 : (Nat → Int32)} {x38 : (Nat → Int32)} {x39 : (Nat → Int32)} {yruz2 : (Nat → Int64)} {y34 : (Nat → Int64)} (hf : fX11_orderR_79 Lru xruz1 x0 x16 x17 x18 x23 x24 x25 x26 k18 v1 v2 v3 x33 x35 x36 x37 x38 x39 yruz2 y34 = some (r, rx33, rx35, rx36, rx37, rx38, rx39, ryruz2, ry34)) : gV l b0 D K (n, κ, ov X0 [ru + 1, 0, 16, 17, 18, 23, 24, 25, 26, 33, 35, 36, 37, 38, 39] [xruz1, x0, x16, x17, x18, x23, x24, x25, x26, x33, x35, x36, x37, x38, x39], ov Y0 [ru + 2, 34] [yruz2, y34], Z, 0, 0) 79 [(0, .ref (b0 + 0)), (1, .int v1), (2, .int v2), (3, .int v3)] [] := by
  unfold fX11_orderR_79 at hf
  obtain ⟨t_1, et_1, hf⟩ := bnE hf
  refine g_iinc hC (i := 2) (v := t_1) [(2, .int t_1), (0, .ref (b0 + 0)), (1, .int v1), (3, .int v3)] dX11_order_79 (q := 2) rfl ((congrArg (HAdd.hAdd v2) ic_1).trans et_1.symm) (by decide) rfl ?_
  exact g_sub [1, 2, 0, 3] rfl (wX11_orderR_82 hL hk_ru hn_ru hk_ru_1 hN hM hC hri hret hk18 hf)

def fX11_orderR_52  (Lru : Nat) (xruz1 : Nat → Int32) (x0 : Nat → Int32) (x16 : Nat → Int32) (x17 : Nat → Int32) (x18 : Nat → Int32) (x23 : Nat → Int32) (x24 : Nat → Int32) (x25 : Nat → Int32) (x26 : Nat → Int32)  (k18 : Int32 → Int32 → Int32 → (Nat → Int32) → (Nat → Int32) → (Nat → Int32) → (Nat → Int32) → (Nat → Int32) → (Nat → Int32) → (Nat → Int64) → (Nat → Int64) → Option (Int32 × (Nat → Int32) × (Nat → Int32) × (Nat → Int32) × (Nat → Int32) × (Nat → Int32) × (Nat → Int32) × (Nat → Int64) × (Nat → Int64))) (v1 : Int32) (v2 : Int32) (v3 : Int32) (s0 : Int32) (x33 : (Nat → Int32)) (x35 : (Nat → Int32)) (x36 : (Nat → Int32)) (x37 : (Nat → Int32)) (x38 : (Nat → Int32)) (x39 : (Nat → Int32)) (yruz2 : (Nat → Int64)) (y34 : (Nat → Int64)) : Option (Int32 × (Nat → Int32) × (Nat → Int32) × (Nat → Int32) × (Nat → Int32) × (Nat → Int32) × (Nat → Int32) × (Nat → Int64) × (Nat → Int64)) := if s0 = 0 then (gd (inb v3 6) (gd (inb v1 6) (if (x39 v3.toNatClampNeg) = (x39 v1.toNatClampNeg) then (if v1 ≤ v3 then (fX11_orderR_82 Lru xruz1 x0 x16 x17 x18 x23 x24 x25 x26 k18 v1 v2 v3 x33 x35 x36 x37 x38 x39 yruz2 y34) else (fX11_orderR_79 Lru xruz1 x0 x16 x17 x18 x23 x24 x25 x26 k18 v1 v2 v3 x33 x35 x36 x37 x38 x39 yruz2 y34)) else (fX11_orderR_82 Lru xruz1 x0 x16 x17 x18 x23 x24 x25 x26 k18 v1 v2 v3 x33 x35 x36 x37 x38 x39 yruz2 y34)))) else (fX11_orderR_79 Lru xruz1 x0 x16 x17 x18 x23 x24 x25 x26 k18 v1 v2 v3 x33 x35 x36 x37 x38 x39 yruz2 y34)
set_option maxHeartbeats 4000000 in
set_option maxRecDepth 100000 in
theorem wX11_orderR_52 {l : Launch} {b0 : Nat} {D : GD} {K : KT} {n : Nat} {κ : QT} {X0 : XT} {Y0 : YT} {Z : ZT} {ru : Nat} {Lru : Nat} (hL : LY n κ) (hk_ru : κ ru = (4, 0)) (hn_ru : ru < n) (hk_ru_1 : κ (ru + 1) = (14, Lru)) (hN : ([ru + 1, 0, 16, 17, 18, 23, 24, 25, 26, 33, 35, 36, 37, 38, 39] : List Nat).Nodup) (hM : ([ru + 2, 34] : List Nat).Nodup) (hC : gC l b0 D K RX11 cX11_order (some FieldType.int) 5 6 160 0 0) {xruz1 : Nat → Int32} {x0 : Nat → Int32} {x16 : Nat → Int32} {x17 : Nat → Int32} {x18 : Nat → Int32} {x23 : Nat → Int32} {x24 : Nat → Int32} {x25 : Nat → Int32} {x26 : Nat → Int32} (hri : fX11_isWithin (x16 8) 0 (x0 4 - 1) = some 1 ∧ inb (x16 8) 6 = true ∧ Z 15 (x16 8).toNatClampNeg = some ru) {r : Int32} {rx33 : (Nat → Int32)} {rx35 : (Nat → Int32)} {rx36 : (Nat → Int32)} {rx37 : (Nat → Int32)} {rx38 : (Nat → Int32)} {rx39 : (Nat → Int32)} {ryruz2 : (Nat → Int64)} {ry34 : (Nat → Int64)} (hret : ∀ pc loc, narrow .int (.int r) = .int r → decode cX11_order pc = .ok (.ireturn, 1) → gV l b0 D K (n, κ, ov X0 [ru + 1, 0, 16, 17, 18, 23, 24, 25, 26, 33, 35, 36, 37, 38, 39] [xruz1, x0, x16, x17, x18, x23, x24, x25, x26, rx33, rx35, rx36, rx37, rx38, rx39], ov Y0 [ru + 2, 34] [ryruz2, ry34], Z, 0, 0) pc loc [.int r]) {k18 : Int32 → Int32 → Int32 → (Nat → Int32) → (Nat → Int32) → (Nat → Int32) → (Nat → Int32) → (Nat → Int32) → (Nat → Int32) → (Nat → Int64) → (Nat → Int64) → Option (Int32 × (Nat → Int32) × (Nat → Int32) × (Nat → Int32) × (Nat → Int32) × (Nat → Int32) × (Nat → Int32) × (Nat → Int64) × (Nat → Int64))} (hk18 : ∀ (v1 : Int32) (v2 : Int32) (v3 : Int32) (x33 : (Nat → Int32)) (x35 : (Nat → Int32)) (x36 : (Nat → Int32)) (x37 : (Nat → Int32)) (x38 : (Nat → Int32)) (x39 : (Nat → Int32)) (yruz2 : (Nat → Int64)) (y34 : (Nat → Int64)), k18 v1 v2 v3 x33 x35 x36 x37 x38 x39 yruz2 y34 = some (r, rx33, rx35, rx36, rx37, rx38, rx39, ryruz2, ry34) → gV l b0 D K (n, κ, ov X0 [ru + 1, 0, 16, 17, 18, 23, 24, 25, 26, 33, 35, 36, 37, 38, 39] [xruz1, x0, x16, x17, x18, x23, x24, x25, x26, x33, x35, x36, x37, x38, x39], ov Y0 [ru + 2, 34] [yruz2, y34], Z, 0, 0) 18 [(0, .ref (b0 + 0)), (1, .int v1), (2, .int v2), (3, .int v3)] []) {v1 : Int32} {v2 : Int32} {v3 : Int32} {s0 : Int32} {x33 : (Nat → Int32)} {x35 : (Nat → Int32)} {x36 : (Nat → Int32)} {x37 : (Nat → Int32)} {x38 : (Nat → Int32)} {x39 : (Nat → Int32)} {yruz2 : (Nat → Int64)} {y34 : (Nat → Int64)} (hf : fX11_orderR_52 Lru xruz1 x0 x16 x17 x18 x23 x24 x25 x26 k18 v1 v2 v3 s0 x33 x35 x36 x37 x38 x39 yruz2 y34 = some (r, rx33, rx35, rx36, rx37, rx38, rx39, ryruz2, ry34)) : gV l b0 D K (n, κ, ov X0 [ru + 1, 0, 16, 17, 18, 23, 24, 25, 26, 33, 35, 36, 37, 38, 39] [xruz1, x0, x16, x17, x18, x23, x24, x25, x26, x33, x35, x36, x37, x38, x39], ov Y0 [ru + 2, 34] [yruz2, y34], Z, 0, 0) 52 [(0, .ref (b0 + 0)), (1, .int v1), (2, .int v2), (3, .int v3)] [.int s0] := by
  unfold fX11_orderR_52 at hf
  refine g_istore hC (i := 4) [(4, .int s0), (0, .ref (b0 + 0)), (1, .int v1), (2, .int v2), (3, .int v3)] dX11_order_52 (by decide) rfl ?_
  refine g_iload hC 0 dX11_order_54 rfl ?_
  refine g_if_ne hC 79 dX11_order_56 (by decide) (fun hc => ?_) (fun hc => ?_)
  · replace hf := ifF hf hc
    exact g_sub [1, 2, 3, 4] rfl (wX11_orderR_79 hL hk_ru hn_ru hk_ru_1 hN hM hC hri hret hk18 hf)
  · replace hf := ifT hf hc
    refine g_aload_n hC 1 dX11_order_59 rfl rfl ?_
    refine gt_X11_69 hC (a := 0) (kk_0 hL) (kn_0 hL) dX11_order_60 ?_
    refine g_ref (b := 39) rfl ?_
    refine g_iload_n hC 4 dX11_order_63 rfl rfl ?_
    obtain ⟨h_1, hf⟩ := gdE hf
    refine g_iald hC (x := x39) (kk_39 hL) (kn_39 hL) (ov_get hN 14 rfl rfl) (inb_in h_1) dX11_order_64 ?_
    refine g_aload_n hC 1 dX11_order_65 rfl rfl ?_
    refine gt_X11_69 hC (a := 0) (kk_0 hL) (kn_0 hL) dX11_order_66 ?_
    refine g_ref (b := 39) rfl ?_
    refine g_iload_n hC 2 dX11_order_69 rfl rfl ?_
    obtain ⟨h_2, hf⟩ := gdE hf
    refine g_iald hC (x := x39) (kk_39 hL) (kn_39 hL) (ov_get hN 14 rfl rfl) (inb_in h_2) dX11_order_70 ?_
    refine g_icmp_ne hC 82 dX11_order_71 (by decide) (fun hc => ?_) (fun hc => ?_)
    · replace hf := ifF hf hc
      exact g_sub [1, 2, 3, 4] rfl (wX11_orderR_82 hL hk_ru hn_ru hk_ru_1 hN hM hC hri hret hk18 hf)
    · replace hf := ifT hf hc
      refine g_iload_n hC 4 dX11_order_74 rfl rfl ?_
      refine g_iload_n hC 2 dX11_order_75 rfl rfl ?_
      refine g_icmp_ge hC 82 dX11_order_76 (by decide) (fun hc => ?_) (fun hc => ?_)
      · replace hf := ifT hf hc
        exact g_sub [1, 2, 3, 4] rfl (wX11_orderR_82 hL hk_ru hn_ru hk_ru_1 hN hM hC hri hret hk18 hf)
      · replace hf := ifF hf hc
        exact g_sub [1, 2, 3, 4] rfl (wX11_orderR_79 hL hk_ru hn_ru hk_ru_1 hN hM hC hri hret hk18 hf)

def fX11_orderR_18b  (Lru : Nat) (xruz1 : Nat → Int32) (x0 : Nat → Int32) (x16 : Nat → Int32) (x17 : Nat → Int32) (x18 : Nat → Int32) (x23 : Nat → Int32) (x24 : Nat → Int32) (x25 : Nat → Int32) (x26 : Nat → Int32)  (k18 : Int32 → Int32 → Int32 → (Nat → Int32) → (Nat → Int32) → (Nat → Int32) → (Nat → Int32) → (Nat → Int32) → (Nat → Int32) → (Nat → Int64) → (Nat → Int64) → Option (Int32 × (Nat → Int32) × (Nat → Int32) × (Nat → Int32) × (Nat → Int32) × (Nat → Int32) × (Nat → Int32) × (Nat → Int64) × (Nat → Int64))) (v1 : Int32) (v2 : Int32) (v3 : Int32) (x33 : (Nat → Int32)) (x35 : (Nat → Int32)) (x36 : (Nat → Int32)) (x37 : (Nat → Int32)) (x38 : (Nat → Int32)) (x39 : (Nat → Int32)) (yruz2 : (Nat → Int64)) (y34 : (Nat → Int64)) : Option (Int32 × (Nat → Int32) × (Nat → Int32) × (Nat → Int32) × (Nat → Int32) × (Nat → Int32) × (Nat → Int32) × (Nat → Int64) × (Nat → Int64)) := if (x17 4) ≤ v3 then (some (v2, x33, x35, x36, x37, x38, x39, yruz2, y34)) else (gd (inb v3 6) (gd (inb v1 6) (if (x39 v1.toNatClampNeg) ≤ (x39 v3.toNatClampNeg) then (fX11_orderR_52 Lru xruz1 x0 x16 x17 x18 x23 x24 x25 x26 k18 v1 v2 v3 0 x33 x35 x36 x37 x38 x39 yruz2 y34) else (fX11_orderR_52 Lru xruz1 x0 x16 x17 x18 x23 x24 x25 x26 k18 v1 v2 v3 1 x33 x35 x36 x37 x38 x39 yruz2 y34))))
def fX11_orderR_18  (Lru : Nat) (xruz1 : Nat → Int32) (x0 : Nat → Int32) (x16 : Nat → Int32) (x17 : Nat → Int32) (x18 : Nat → Int32) (x23 : Nat → Int32) (x24 : Nat → Int32) (x25 : Nat → Int32) (x26 : Nat → Int32)  : Int32 → Int32 → Int32 → (Nat → Int32) → (Nat → Int32) → (Nat → Int32) → (Nat → Int32) → (Nat → Int32) → (Nat → Int32) → (Nat → Int64) → (Nat → Int64) → Option (Int32 × (Nat → Int32) × (Nat → Int32) × (Nat → Int32) × (Nat → Int32) × (Nat → Int32) × (Nat → Int32) × (Nat → Int64) × (Nat → Int64)) := lq11 (fX11_orderR_18b Lru xruz1 x0 x16 x17 x18 x23 x24 x25 x26 ) 5000
set_option maxHeartbeats 4000000 in
set_option maxRecDepth 100000 in
theorem wX11_orderR_18 {l : Launch} {b0 : Nat} {D : GD} {K : KT} {n : Nat} {κ : QT} {X0 : XT} {Y0 : YT} {Z : ZT} {ru : Nat} {Lru : Nat} (hL : LY n κ) (hk_ru : κ ru = (4, 0)) (hn_ru : ru < n) (hk_ru_1 : κ (ru + 1) = (14, Lru)) (hN : ([ru + 1, 0, 16, 17, 18, 23, 24, 25, 26, 33, 35, 36, 37, 38, 39] : List Nat).Nodup) (hM : ([ru + 2, 34] : List Nat).Nodup) (hC : gC l b0 D K RX11 cX11_order (some FieldType.int) 5 6 160 0 0) {xruz1 : Nat → Int32} {x0 : Nat → Int32} {x16 : Nat → Int32} {x17 : Nat → Int32} {x18 : Nat → Int32} {x23 : Nat → Int32} {x24 : Nat → Int32} {x25 : Nat → Int32} {x26 : Nat → Int32} (hri : fX11_isWithin (x16 8) 0 (x0 4 - 1) = some 1 ∧ inb (x16 8) 6 = true ∧ Z 15 (x16 8).toNatClampNeg = some ru) {r : Int32} {rx33 : (Nat → Int32)} {rx35 : (Nat → Int32)} {rx36 : (Nat → Int32)} {rx37 : (Nat → Int32)} {rx38 : (Nat → Int32)} {rx39 : (Nat → Int32)} {ryruz2 : (Nat → Int64)} {ry34 : (Nat → Int64)} (hret : ∀ pc loc, narrow .int (.int r) = .int r → decode cX11_order pc = .ok (.ireturn, 1) → gV l b0 D K (n, κ, ov X0 [ru + 1, 0, 16, 17, 18, 23, 24, 25, 26, 33, 35, 36, 37, 38, 39] [xruz1, x0, x16, x17, x18, x23, x24, x25, x26, rx33, rx35, rx36, rx37, rx38, rx39], ov Y0 [ru + 2, 34] [ryruz2, ry34], Z, 0, 0) pc loc [.int r]) : ∀ (j : Nat) (v1 : Int32) (v2 : Int32) (v3 : Int32) (x33 : (Nat → Int32)) (x35 : (Nat → Int32)) (x36 : (Nat → Int32)) (x37 : (Nat → Int32)) (x38 : (Nat → Int32)) (x39 : (Nat → Int32)) (yruz2 : (Nat → Int64)) (y34 : (Nat → Int64)), lq11 (fX11_orderR_18b Lru xruz1 x0 x16 x17 x18 x23 x24 x25 x26 ) j v1 v2 v3 x33 x35 x36 x37 x38 x39 yruz2 y34 = some (r, rx33, rx35, rx36, rx37, rx38, rx39, ryruz2, ry34) → gV l b0 D K (n, κ, ov X0 [ru + 1, 0, 16, 17, 18, 23, 24, 25, 26, 33, 35, 36, 37, 38, 39] [xruz1, x0, x16, x17, x18, x23, x24, x25, x26, x33, x35, x36, x37, x38, x39], ov Y0 [ru + 2, 34] [yruz2, y34], Z, 0, 0) 18 [(0, .ref (b0 + 0)), (1, .int v1), (2, .int v2), (3, .int v3)] [] := by
  intro j
  induction j with
  | zero => intro v1 v2 v3 x33 x35 x36 x37 x38 x39 yruz2 y34 hf; cases hf
  | succ j hk18 =>
    intro v1 v2 v3 x33 x35 x36 x37 x38 x39 yruz2 y34 hf
    replace hf : fX11_orderR_18b Lru xruz1 x0 x16 x17 x18 x23 x24 x25 x26  (lq11 (fX11_orderR_18b Lru xruz1 x0 x16 x17 x18 x23 x24 x25 x26 ) j) v1 v2 v3 x33 x35 x36 x37 x38 x39 yruz2 y34 = some (r, rx33, rx35, rx36, rx37, rx38, rx39, ryruz2, ry34) := hf
    unfold fX11_orderR_18b at hf
    refine g_iload_n hC 3 dX11_order_18 rfl rfl ?_
    refine g_aload_n hC 0 dX11_order_19 rfl rfl ?_
    refine gt_X11_41 hC (a := 0) (kk_0 hL) (kn_0 hL) dX11_order_20 ?_
    refine g_ref (b := 16) rfl ?_
    refine gt_X11_51 hC (a := 16) (kk_16 hL) (kn_16 hL) dX11_order_23 ?_
    refine g_ref (b := 17) rfl ?_
    refine gt_X11_117 hC (x := x17) (kk_17 hL) (kn_17 hL) (ov_get hN 3 rfl rfl) dX11_order_26 ?_
    refine g_icmp_ge hC 88 dX11_order_29 (by decide) (fun hc => ?_) (fun hc => ?_)
    · replace hf := ifT hf hc
      refine g_iload_n hC 2 dX11_order_88 rfl rfl ?_
      obtain ⟨rfl, rfl, rfl, rfl, rfl, rfl, rfl, rfl, rfl⟩ := sm9E hf
      exact hret _ _ rfl dX11_order_89
    · replace hf := ifF hf hc
      refine g_aload_n hC 0 dX11_order_32 rfl rfl ?_
      refine gt_X11_69 hC (a := 0) (kk_0 hL) (kn_0 hL) dX11_order_33 ?_
      refine g_ref (b := 39) rfl ?_
      refine g_iload_n hC 3 dX11_order_36 rfl rfl ?_
      obtain ⟨h_1, hf⟩ := gdE hf
      refine g_iald hC (x := x39) (kk_39 hL) (kn_39 hL) (ov_get hN 14 rfl rfl) (inb_in h_1) dX11_order_37 ?_
      refine g_aload_n hC 0 dX11_order_38 rfl rfl ?_
      refine gt_X11_69 hC (a := 0) (kk_0 hL) (kn_0 hL) dX11_order_39 ?_
      refine g_ref (b := 39) rfl ?_
      refine g_iload_n hC 1 dX11_order_42 rfl rfl ?_
      obtain ⟨h_2, hf⟩ := gdE hf
      refine g_iald hC (x := x39) (kk_39 hL) (kn_39 hL) (ov_get hN 14 rfl rfl) (inb_in h_2) dX11_order_43 ?_
      refine g_icmp_ge hC 51 dX11_order_44 (by decide) (fun hc => ?_) (fun hc => ?_)
      · replace hf := ifT hf hc
        refine g_iconst hC (v := 0) dX11_order_51 ic_0 ?_
        exact g_sub [0, 1, 2, 3] rfl (wX11_orderR_52 hL hk_ru hn_ru hk_ru_1 hN hM hC hri hret hk18 hf)
      · replace hf := ifF hf hc
        refine g_iconst hC (v := 1) dX11_order_47 ic_1 ?_
        refine g_goto hC 52 dX11_order_48 (by decide) ?_
        exact g_sub [0, 1, 2, 3] rfl (wX11_orderR_52 hL hk_ru hn_ru hk_ru_1 hN hM hC hri hret hk18 hf)

def fX11_orderR_0  (Lru : Nat) (xruz1 : Nat → Int32) (x0 : Nat → Int32) (x16 : Nat → Int32) (x17 : Nat → Int32) (x18 : Nat → Int32) (x23 : Nat → Int32) (x24 : Nat → Int32) (x25 : Nat → Int32) (x26 : Nat → Int32)  (v1 : Int32) (x33 : (Nat → Int32)) (x35 : (Nat → Int32)) (x36 : (Nat → Int32)) (x37 : (Nat → Int32)) (x38 : (Nat → Int32)) (x39 : (Nat → Int32)) (yruz2 : (Nat → Int64)) (y34 : (Nat → Int64)) : Option (Int32 × (Nat → Int32) × (Nat → Int32) × (Nat → Int32) × (Nat → Int32) × (Nat → Int32) × (Nat → Int32) × (Nat → Int64) × (Nat → Int64)) := bd1 (fX11_isHouse x17 v1) fun r_1 => (if r_1 = 0 then (some ((-1), x33, x35, x36, x37, x38, x39, yruz2, y34)) else (bd8 (fX11_findComesDownR Lru xruz1 x0 x16 x17 x18 x23 x24 x25 x26 x33 x35 x36 x37 x38 x39 yruz2 y34) fun x33_3 x35_4 x36_5 x37_6 x38_7 x39_8 yruz2_9 y34_10 => (fX11_orderR_18 Lru xruz1 x0 x16 x17 x18 x23 x24 x25 x26  v1 0 0 x33_3 x35_4 x36_5 x37_6 x38_7 x39_8 yruz2_9 y34_10)))
set_option maxHeartbeats 4000000 in
set_option maxRecDepth 100000 in
theorem wX11_orderR_0 {l : Launch} {b0 : Nat} {D : GD} {K : KT} {n : Nat} {κ : QT} {X0 : XT} {Y0 : YT} {Z : ZT} {ru : Nat} {Lru : Nat} (hL : LY n κ) (hk_ru : κ ru = (4, 0)) (hn_ru : ru < n) (hk_ru_1 : κ (ru + 1) = (14, Lru)) (hN : ([ru + 1, 0, 16, 17, 18, 23, 24, 25, 26, 33, 35, 36, 37, 38, 39] : List Nat).Nodup) (hM : ([ru + 2, 34] : List Nat).Nodup) (hC : gC l b0 D K RX11 cX11_order (some FieldType.int) 5 6 160 0 0) {xruz1 : Nat → Int32} {x0 : Nat → Int32} {x16 : Nat → Int32} {x17 : Nat → Int32} {x18 : Nat → Int32} {x23 : Nat → Int32} {x24 : Nat → Int32} {x25 : Nat → Int32} {x26 : Nat → Int32} (hri : fX11_isWithin (x16 8) 0 (x0 4 - 1) = some 1 ∧ inb (x16 8) 6 = true ∧ Z 15 (x16 8).toNatClampNeg = some ru) {r : Int32} {rx33 : (Nat → Int32)} {rx35 : (Nat → Int32)} {rx36 : (Nat → Int32)} {rx37 : (Nat → Int32)} {rx38 : (Nat → Int32)} {rx39 : (Nat → Int32)} {ryruz2 : (Nat → Int64)} {ry34 : (Nat → Int64)} (hret : ∀ pc loc, narrow .int (.int r) = .int r → decode cX11_order pc = .ok (.ireturn, 1) → gV l b0 D K (n, κ, ov X0 [ru + 1, 0, 16, 17, 18, 23, 24, 25, 26, 33, 35, 36, 37, 38, 39] [xruz1, x0, x16, x17, x18, x23, x24, x25, x26, rx33, rx35, rx36, rx37, rx38, rx39], ov Y0 [ru + 2, 34] [ryruz2, ry34], Z, 0, 0) pc loc [.int r]) {v1 : Int32} {x33 : (Nat → Int32)} {x35 : (Nat → Int32)} {x36 : (Nat → Int32)} {x37 : (Nat → Int32)} {x38 : (Nat → Int32)} {x39 : (Nat → Int32)} {yruz2 : (Nat → Int64)} {y34 : (Nat → Int64)} (hf : fX11_orderR_0 Lru xruz1 x0 x16 x17 x18 x23 x24 x25 x26  v1 x33 x35 x36 x37 x38 x39 yruz2 y34 = some (r, rx33, rx35, rx36, rx37, rx38, rx39, ryruz2, ry34)) : gV l b0 D K (n, κ, ov X0 [ru + 1, 0, 16, 17, 18, 23, 24, 25, 26, 33, 35, 36, 37, 38, 39] [xruz1, x0, x16, x17, x18, x23, x24, x25, x26, x33, x35, x36, x37, x38, x39], ov Y0 [ru + 2, 34] [yruz2, y34], Z, 0, 0) 0 [(0, .ref (b0 + 0)), (1, .int v1)] [] := by
  unfold fX11_orderR_0 at hf
  refine g_aload_n hC 0 dX11_order_0 rfl rfl ?_
  refine g_iload_n hC 1 dX11_order_1 rfl rfl ?_
  obtain ⟨r_1, q_2, hf⟩ := bd1E hf
  refine g_callV_i (a := 0) hC (X' := ov X0 [ru + 1, 0, 16, 17, 18, 23, 24, 25, 26, 33, 35, 36, 37, 38, 39] [xruz1, x0, x16, x17, x18, x23, x24, x25, x26, x33, x35, x36, x37, x38, x39]) (Y' := ov Y0 [ru + 2, 34] [yruz2, y34]) (As := [.int v1]) (gMi_eq (c_X11_isHouse l hL (ov_map hN [3] (by rfl) (by rfl)) (ov_map hM [] (by rfl) (by rfl)) q_2) (ov_ovE hN (by rfl) [3] [0, 1, 2, 4, 5, 6, 7, 8, 9, 10, 11, 12, 13, 14] (by rfl) (by rfl) [xruz1, x0, x16, x18, x23, x24, x25, x26, x33, x35, x36, x37, x38, x39] (by rfl) (by rfl) (by rfl) 15 (by rfl) (by decide)) (ov_ovE hM (by rfl) [] [0, 1] (by rfl) (by rfl) [yruz2, y34] (by rfl) (by rfl) (by rfl) 2 (by rfl) (by decide))) tw_790 tw_787 tw_116 tw_789 tw_21 (ci := 11) rfl (by decide) (kk_0 hL) (kn_0 hL) pd_X11_isHouse (by decide) (by decide) rfl rfl (Nat.le_of_ble_eq_true rfl) rfl dX11_order_2 ?_
  refine g_if_ne hC 10 dX11_order_5 (by decide) (fun hc => ?_) (fun hc => ?_)
  · replace hf := ifF hf hc
    refine g_aload_n hC 0 dX11_order_10 rfl rfl ?_
    obtain ⟨x33_3, x35_4, x36_5, x37_6, x38_7, x39_8, yruz2_9, y34_10, q_11, hf⟩ := bd8E hf
    refine g_callV_v (a := 0) hC (X' := ov X0 [ru + 1, 0, 16, 17, 18, 23, 24, 25, 26, 33, 35, 36, 37, 38, 39] [xruz1, x0, x16, x17, x18, x23, x24, x25, x26, x33_3, x35_4, x36_5, x37_6, x38_7, x39_8]) (Y' := ov Y0 [ru + 2, 34] [yruz2_9, y34_10]) (As := []) (gMv_eq (c_X11_findComesDownR l hL hk_ru hn_ru hk_ru_1 (nd_sub hN [0, 1, 2, 3, 4, 5, 6, 7, 8, 9, 10, 11, 12, 13, 14] (by decide) (by rfl)) (nd_sub hM [0, 1] (by decide) (by rfl)) hri (ov_map hN [0, 1, 2, 3, 4, 5, 6, 7, 8, 9, 10, 11, 12, 13, 14] (by rfl) (by rfl)) (ov_map hM [0, 1] (by rfl) (by rfl)) q_11) (ov_ovE hN (by rfl) [0, 1, 2, 3, 4, 5, 6, 7, 8, 9, 10, 11, 12, 13, 14] [] (by rfl) (by rfl) [] (by rfl) (by rfl) (by rfl) 15 (by rfl) (by decide)) (ov_ovE hM (by rfl) [0, 1] [] (by rfl) (by rfl) [] (by rfl) (by rfl) (by rfl) 2 (by rfl) (by decide))) tw_992 tw_989 tw_116 tw_991 tw_35 (ci := 11) rfl (by decide) (kk_0 hL) (kn_0 hL) pd_X11_findComesDown (by decide) (by decide) rfl rfl (Nat.le_of_ble_eq_true rfl) rfl dX11_order_11 ?_
    refine g_iconst hC (v := 0) dX11_order_14 ic_0 ?_
    refine g_istore_n hC (i := 2) [(2, .int 0), (0, .ref (b0 + 0)), (1, .int v1)] rfl dX11_order_15 (by decide) rfl ?_
    refine g_iconst hC (v := 0) dX11_order_16 ic_0 ?_
    refine g_istore_n hC (i := 3) [(3, .int 0), (2, .int 0), (0, .ref (b0 + 0)), (1, .int v1)] rfl dX11_order_17 (by decide) rfl ?_
    exact g_sub [2, 3, 1, 0] rfl (wX11_orderR_18 hL hk_ru hn_ru hk_ru_1 hN hM hC hri hret  5000 v1 0 0 x33_3 x35_4 x36_5 x37_6 x38_7 x39_8 yruz2_9 y34_10 hf)
  · replace hf := ifT hf hc
    refine g_iconst hC (v := (-1)) dX11_order_8 ic_m1 ?_
    obtain ⟨rfl, rfl, rfl, rfl, rfl, rfl, rfl, rfl, rfl⟩ := sm9E hf
    exact hret _ _ rfl dX11_order_9

def fX11_orderR  (Lru : Nat) (xruz1 : Nat → Int32) (x0 : Nat → Int32) (x16 : Nat → Int32) (x17 : Nat → Int32) (x18 : Nat → Int32) (x23 : Nat → Int32) (x24 : Nat → Int32) (x25 : Nat → Int32) (x26 : Nat → Int32)  (v1 : Int32) (x33 : Nat → Int32) (x35 : Nat → Int32) (x36 : Nat → Int32) (x37 : Nat → Int32) (x38 : Nat → Int32) (x39 : Nat → Int32) (yruz2 : Nat → Int64) (y34 : Nat → Int64) : Option (Int32 × (Nat → Int32) × (Nat → Int32) × (Nat → Int32) × (Nat → Int32) × (Nat → Int32) × (Nat → Int32) × (Nat → Int64) × (Nat → Int64)) := fX11_orderR_0 Lru xruz1 x0 x16 x17 x18 x23 x24 x25 x26 v1 x33 x35 x36 x37 x38 x39 yruz2 y34

set_option maxHeartbeats 4000000 in
set_option maxRecDepth 100000 in
theorem c_X11_orderR (l : Launch) {b0 : Nat} {D : GD} {n : Nat} {κ : QT} {X0 : XT} {Y0 : YT} {Z : ZT} {ru : Nat} {Lru : Nat} (hL : LY n κ) (hk_ru : κ ru = (4, 0)) (hn_ru : ru < n) (hk_ru_1 : κ (ru + 1) = (14, Lru)) (hN : ([ru + 1, 0, 16, 17, 18, 23, 24, 25, 26, 33, 35, 36, 37, 38, 39] : List Nat).Nodup) (hM : ([ru + 2, 34] : List Nat).Nodup) {xruz1 : Nat → Int32} {x0 : Nat → Int32} {x16 : Nat → Int32} {x17 : Nat → Int32} {x18 : Nat → Int32} {x23 : Nat → Int32} {x24 : Nat → Int32} {x25 : Nat → Int32} {x26 : Nat → Int32} {x33 : Nat → Int32} {x35 : Nat → Int32} {x36 : Nat → Int32} {x37 : Nat → Int32} {x38 : Nat → Int32} {x39 : Nat → Int32} {yruz2 : Nat → Int64} {y34 : Nat → Int64} (hri : fX11_isWithin (x16 8) 0 (x0 4 - 1) = some 1 ∧ inb (x16 8) 6 = true ∧ Z 15 (x16 8).toNatClampNeg = some ru) (hx : ([ru + 1, 0, 16, 17, 18, 23, 24, 25, 26, 33, 35, 36, 37, 38, 39] : List Nat).map X0 = [xruz1, x0, x16, x17, x18, x23, x24, x25, x26, x33, x35, x36, x37, x38, x39]) (hy : ([ru + 2, 34] : List Nat).map Y0 = [yruz2, y34]) {v1 : Int32} {r : Int32} {rx33 : (Nat → Int32)} {rx35 : (Nat → Int32)} {rx36 : (Nat → Int32)} {rx37 : (Nat → Int32)} {rx38 : (Nat → Int32)} {rx39 : (Nat → Int32)} {ryruz2 : (Nat → Int64)} {ry34 : (Nat → Int64)} (hf : fX11_orderR Lru xruz1 x0 x16 x17 x18 x23 x24 x25 x26 v1 x33 x35 x36 x37 x38 x39 yruz2 y34 = some (r, rx33, rx35, rx36, rx37, rx38, rx39, ryruz2, ry34)) : gMi l yX11_order cX11_order 5 (some FieldType.int) 6 160 0 0 b0 D [.ref (b0 + 0), .int v1] (n, κ, X0, Y0, Z) (n, κ, ov X0 [ru + 1, 0, 16, 17, 18, 23, 24, 25, 26, 33, 35, 36, 37, 38, 39] [xruz1, x0, x16, x17, x18, x23, x24, x25, x26, rx33, rx35, rx36, rx37, rx38, rx39], ov Y0 [ru + 2, 34] [ryruz2, ry34], Z) r := by
  refine g_meti (own := RX11) (by decide) rfl rfl (Nat.le_of_ble_eq_true rfl) ?_
  intro K hC hret
  have e := wX11_orderR_0 hL hk_ru hn_ru hk_ru_1 hN hM hC hri hret hf
  rw [ov_id' hx, ov_id' hy] at e
  exact g_sub [0, 1] rfl e

-- X11_stay
def fX11_stayN_22b   (x0 : Nat → Int32) (x16 : Nat → Int32) (x17 : Nat → Int32) (x18 : Nat → Int32) (x23 : Nat → Int32) (x24 : Nat → Int32) (x25 : Nat → Int32) (x26 : Nat → Int32)  (k22 : Int32 → Int32 → Int32 → (Nat → Int32) → (Nat → Int32) → (Nat → Int32) → (Nat → Int32) → (Nat → Int32) → Option (Int32 × (Nat → Int32) × (Nat → Int32) × (Nat → Int32) × (Nat → Int32) × (Nat → Int32))) (v1 : Int32) (v2 : Int32) (v3 : Int32) (x33 : (Nat → Int32)) (x35 : (Nat → Int32)) (x36 : (Nat → Int32)) (x37 : (Nat → Int32)) (x38 : (Nat → Int32)) : Option (Int32 × (Nat → Int32) × (Nat → Int32) × (Nat → Int32) × (Nat → Int32) × (Nat → Int32)) := if 9 < v3 then (some ((-2), x33, x35, x36, x37, x38)) else (bd4 (fX7_copy x23 x24 x25 x26 x35 x36 x37 x38) fun x35_1 x36_2 x37_3 x38_4 => (gd (inb v1 6) (bd5 (fX1_passAllN x17 x18 v2 x35_1 x36_2 (upd x37_3 v1.toNatClampNeg v3) x38_4 x33) fun x35_7 x36_8 x37_9 x38_10 x33_11 => (gd (inb v1 6) (gd (inb v1 6) (if (x36_8 v1.toNatClampNeg) = (x24 v1.toNatClampNeg) then (some (v3, x33_11, x35_7, x36_8, x37_9, x38_10)) else (bn (v3 + 1) fun t_15 => (k22 v1 v2 t_15 x33_11 x35_7 x36_8 x37_9 x38_10))))))))
def fX11_stayN_22   (x0 : Nat → Int32) (x16 : Nat → Int32) (x17 : Nat → Int32) (x18 : Nat → Int32) (x23 : Nat → Int32) (x24 : Nat → Int32) (x25 : Nat → Int32) (x26 : Nat → Int32)  : Int32 → Int32 → Int32 → (Nat → Int32) → (Nat → Int32) → (Nat → Int32) → (Nat → Int32) → (Nat → Int32) → Option (Int32 × (Nat → Int32) × (Nat → Int32) × (Nat → Int32) × (Nat → Int32) × (Nat → Int32)) := lq8 (fX11_stayN_22b x0 x16 x17 x18 x23 x24 x25 x26 ) 5000
set_option maxHeartbeats 4000000 in
set_option maxRecDepth 100000 in
theorem wX11_stayN_22 {l : Launch} {b0 : Nat} {D : GD} {K : KT} {n : Nat} {κ : QT} {X0 : XT} {Y0 : YT} {Z : ZT} (hL : LY n κ) (hN : ([0, 16, 17, 18, 23, 24, 25, 26, 33, 35, 36, 37, 38] : List Nat).Nodup) (hM : ([] : List Nat).Nodup) (hC : gC l b0 D K RX11 cX11_stay (some FieldType.int) 4 6 162 0 0) {x0 : Nat → Int32} {x16 : Nat → Int32} {x17 : Nat → Int32} {x18 : Nat → Int32} {x23 : Nat → Int32} {x24 : Nat → Int32} {x25 : Nat → Int32} {x26 : Nat → Int32} (hri : fX11_isWithin (x16 8) 0 (x0 4 - 1) = some 0) {r : Int32} {rx33 : (Nat → Int32)} {rx35 : (Nat → Int32)} {rx36 : (Nat → Int32)} {rx37 : (Nat → Int32)} {rx38 : (Nat → Int32)} (hret : ∀ pc loc, narrow .int (.int r) = .int r → decode cX11_stay pc = .ok (.ireturn, 1) → gV l b0 D K (n, κ, ov X0 [0, 16, 17, 18, 23, 24, 25, 26, 33, 35, 36, 37, 38] [x0, x16, x17, x18, x23, x24, x25, x26, rx33, rx35, rx36, rx37, rx38], ov Y0 [] [], Z, 0, 0) pc loc [.int r]) : ∀ (j : Nat) (v1 : Int32) (v2 : Int32) (v3 : Int32) (x33 : (Nat → Int32)) (x35 : (Nat → Int32)) (x36 : (Nat → Int32)) (x37 : (Nat → Int32)) (x38 : (Nat → Int32)), lq8 (fX11_stayN_22b x0 x16 x17 x18 x23 x24 x25 x26 ) j v1 v2 v3 x33 x35 x36 x37 x38 = some (r, rx33, rx35, rx36, rx37, rx38) → gV l b0 D K (n, κ, ov X0 [0, 16, 17, 18, 23, 24, 25, 26, 33, 35, 36, 37, 38] [x0, x16, x17, x18, x23, x24, x25, x26, x33, x35, x36, x37, x38], ov Y0 [] [], Z, 0, 0) 22 [(0, .ref (b0 + 0)), (1, .int v1), (2, .int v2), (3, .int v3)] [] := by
  intro j
  induction j with
  | zero => intro v1 v2 v3 x33 x35 x36 x37 x38 hf; cases hf
  | succ j hk22 =>
    intro v1 v2 v3 x33 x35 x36 x37 x38 hf
    replace hf : fX11_stayN_22b x0 x16 x17 x18 x23 x24 x25 x26  (lq8 (fX11_stayN_22b x0 x16 x17 x18 x23 x24 x25 x26 ) j) v1 v2 v3 x33 x35 x36 x37 x38 = some (r, rx33, rx35, rx36, rx37, rx38) := hf
    unfold fX11_stayN_22b at hf
    refine g_iload_n hC 3 dX11_stay_22 rfl rfl ?_
    refine g_bipush hC (v := 9) dX11_stay_23 bp_9 ?_
    refine g_icmp_gt hC 100 dX11_stay_25 (by decide) (fun hc => ?_) (fun hc => ?_)
    · replace hf := ifT hf hc
      refine g_bipush hC (v := (-2)) dX11_stay_100 bp_m2 ?_
      obtain ⟨rfl, rfl, rfl, rfl, rfl, rfl⟩ := sm6E hf
      exact hret _ _ rfl dX11_stay_102
    · replace hf := ifF hf hc
      refine g_aload_n hC 0 dX11_stay_28 rfl rfl ?_
      refine gt_X11_65 hC (a := 0) (kk_0 hL) (kn_0 hL) dX11_stay_29 ?_
      refine g_ref (b := 35) rfl ?_
      refine g_aload_n hC 0 dX11_stay_32 rfl rfl ?_
      refine gt_X11_41 hC (a := 0) (kk_0 hL) (kn_0 hL) dX11_stay_33 ?_
      refine g_ref (b := 16) rfl ?_
      refine gt_X11_140 hC (a := 16) (kk_16 hL) (kn_16 hL) dX11_stay_36 ?_
      refine g_ref (b := 23) rfl ?_
      obtain ⟨x35_1, x36_2, x37_3, x38_4, q_5, hf⟩ := bd4E hf
      refine g_callV_v (a := 35) hC (X' := ov X0 [0, 16, 17, 18, 23, 24, 25, 26, 33, 35, 36, 37, 38] [x0, x16, x17, x18, x23, x24, x25, x26, x33, x35_1, x36_2, x37_3, x38_4]) (Y' := ov Y0 [] []) (As := [.ref (b0 + 23)]) (gMv_eq (c_X7_copy l hL (kk_35 hL) (kn_35 hL) (kk_23 hL) (kn_23 hL) (nd_sub hN [9, 10, 11, 12, 4, 5, 6, 7] (by decide) (by rfl)) (nd_sub hM [] (by decide) (by rfl)) (ov_map hN [9, 10, 11, 12, 4, 5, 6, 7] (by rfl) (by rfl)) (ov_map hM [] (by rfl) (by rfl)) q_5) (ov_ovE hN (by rfl) [9, 10, 11, 12, 4, 5, 6, 7] [0, 1, 2, 3, 8] (by rfl) (by rfl) [x0, x16, x17, x18, x33] (by rfl) (by rfl) (by rfl) 13 (by rfl) (by decide)) (ov_ovE hM (by rfl) [] [] (by rfl) (by rfl) [] (by rfl) (by rfl) (by rfl) 0 (by rfl) (by decide))) tw_707 tw_976 tw_120 tw_705 tw_706 (ci := 7) rfl (by decide) (kk_35 hL) (kn_35 hL) pd_X7_copy (by decide) (by decide) rfl rfl (Nat.le_of_ble_eq_true rfl) rfl dX11_stay_39 ?_
      refine g_aload_n hC 0 dX11_stay_42 rfl rfl ?_
      refine gt_X11_65 hC (a := 0) (kk_0 hL) (kn_0 hL) dX11_stay_43 ?_
      refine g_ref (b := 35) rfl ?_
      refine gt_X11_146 hC (a := 35) (kk_35 hL) (kn_35 hL) dX11_stay_46 ?_
      refine g_ref (b := 37) rfl ?_
      refine g_iload_n hC 1 dX11_stay_49 rfl rfl ?_
      refine g_iload_n hC 3 dX11_stay_50 rfl rfl ?_
      obtain ⟨h_6, hf⟩ := gdE hf
      refine g_iast hC (x := x37_3) (kk_37 hL) (kn_37 hL) (ov_get hN 11 rfl rfl) (inb_in h_6) (ov_set hN (by rfl) 11 (by rfl)) dX11_stay_51 ?_
      show gV l b0 D K (n, κ, ov X0 [0, 16, 17, 18, 23, 24, 25, 26, 33, 35, 36, 37, 38] [x0, x16, x17, x18, x23, x24, x25, x26, x33, x35_1, x36_2, (upd x37_3 v1.toNatClampNeg v3), x38_4], ov Y0 [] [], Z, 0, 0) 52 [(0, .ref (b0 + 0)), (1, .int v1), (2, .int v2), (3, .int v3)] []
      refine g_aload_n hC 0 dX11_stay_52 rfl rfl ?_
      refine gt_X11_58 hC (a := 0) (kk_0 hL) (kn_0 hL) dX11_stay_53 ?_
      refine g_ref (b := 32) rfl ?_
      refine g_aload_n hC 0 dX11_stay_56 rfl rfl ?_
      refine gt_X11_65 hC (a := 0) (kk_0 hL) (kn_0 hL) dX11_stay_57 ?_
      refine g_ref (b := 35) rfl ?_
      refine g_aload_n hC 0 dX11_stay_60 rfl rfl ?_
      refine g_callV_q (a := 0) hC (As := []) (c_rifN l hL (ov_get hN 0 rfl rfl) (ov_get hN 1 rfl rfl) hri) tw_869 tw_866 tw_116 tw_868 tw_28 (ci := 11) rfl (by decide) (kk_0 hL) (kn_0 hL) pd_X11_ruleInForce (by decide) (by decide) rfl rfl (Nat.le_of_ble_eq_true rfl) rfl dX11_stay_61 ?_
      refine g_iload_n hC 2 dX11_stay_64 rfl rfl ?_
      obtain ⟨x35_7, x36_8, x37_9, x38_10, x33_11, q_12, hf⟩ := bd5E hf
      refine g_callV_v (a := 32) hC (X' := ov X0 [0, 16, 17, 18, 23, 24, 25, 26, 33, 35, 36, 37, 38] [x0, x16, x17, x18, x23, x24, x25, x26, x33_11, x35_7, x36_8, x37_9, x38_10]) (Y' := ov Y0 [] []) (As := [.ref (b0 + 35), .null, .int v2]) (gMv_eq (c_X1_passAllN l hL (kk_35 hL) (kn_35 hL) (nd_sub hN [9, 10, 11, 12, 2, 3, 8] (by decide) (by rfl)) (nd_sub hM [] (by decide) (by rfl)) (ov_map hN [9, 10, 11, 12, 2, 3, 8] (by rfl) (by rfl)) (ov_map hM [] (by rfl) (by rfl)) q_12) (ov_ovE hN (by rfl) [9, 10, 11, 12, 2, 3, 8] [0, 1, 4, 5, 6, 7] (by rfl) (by rfl) [x0, x16, x23, x24, x25, x26] (by rfl) (by rfl) (by rfl) 13 (by rfl) (by decide)) (ov_ovE hM (by rfl) [] [] (by rfl) (by rfl) [] (by rfl) (by rfl) (by rfl) 0 (by rfl) (by decide))) tw_980 tw_977 tw_123 tw_978 tw_979 (ci := 1) rfl (by decide) (kk_32 hL) (kn_32 hL) pd_X1_passAll (by decide) (by decide) rfl rfl (Nat.le_of_ble_eq_true rfl) rfl dX11_stay_65 ?_
      refine g_aload_n hC 0 dX11_stay_68 rfl rfl ?_
      refine gt_X11_65 hC (a := 0) (kk_0 hL) (kn_0 hL) dX11_stay_69 ?_
      refine g_ref (b := 35) rfl ?_
      refine gt_X11_143 hC (a := 35) (kk_35 hL) (kn_35 hL) dX11_stay_72 ?_
      refine g_ref (b := 36) rfl ?_
      refine g_iload_n hC 1 dX11_stay_75 rfl rfl ?_
      obtain ⟨h_13, hf⟩ := gdE hf
      refine g_iald hC (x := x36_8) (kk_36 hL) (kn_36 hL) (ov_get hN 10 rfl rfl) (inb_in h_13) dX11_stay_76 ?_
      refine g_aload_n hC 0 dX11_stay_77 rfl rfl ?_
      refine gt_X11_41 hC (a := 0) (kk_0 hL) (kn_0 hL) dX11_stay_78 ?_
      refine g_ref (b := 16) rfl ?_
      refine gt_X11_140 hC (a := 16) (kk_16 hL) (kn_16 hL) dX11_stay_81 ?_
      refine g_ref (b := 23) rfl ?_
      refine gt_X11_143 hC (a := 23) (kk_23 hL) (kn_23 hL) dX11_stay_84 ?_
      refine g_ref (b := 24) rfl ?_
      refine g_iload_n hC 1 dX11_stay_87 rfl rfl ?_
      obtain ⟨h_14, hf⟩ := gdE hf
      refine g_iald hC (x := x24) (kk_24 hL) (kn_24 hL) (ov_get hN 5 rfl rfl) (inb_in h_14) dX11_stay_88 ?_
      refine g_icmp_ne hC 94 dX11_stay_89 (by decide) (fun hc => ?_) (fun hc => ?_)
      · replace hf := ifF hf hc
        obtain ⟨t_15, et_15, hf⟩ := bnE hf
        refine g_iinc hC (i := 3) (v := t_15) [(3, .int t_15), (0, .ref (b0 + 0)), (1, .int v1), (2, .int v2)] dX11_stay_94 (q := 3) rfl ((congrArg (HAdd.hAdd v3) ic_1).trans et_15.symm) (by decide) rfl ?_
        refine g_goto hC 22 dX11_stay_97 (by decide) ?_
        exact g_sub [1, 2, 3, 0] rfl (hk22 v1 v2 t_15 x33_11 x35_7 x36_8 x37_9 x38_10 hf)
      · replace hf := ifT hf hc
        refine g_iload_n hC 3 dX11_stay_92 rfl rfl ?_
        obtain ⟨rfl, rfl, rfl, rfl, rfl, rfl⟩ := sm6E hf
        exact hret _ _ rfl dX11_stay_93

def fX11_stayN_0   (x0 : Nat → Int32) (x16 : Nat → Int32) (x17 : Nat → Int32) (x18 : Nat → Int32) (x23 : Nat → Int32) (x24 : Nat → Int32) (x25 : Nat → Int32) (x26 : Nat → Int32)  (v1 : Int32) (v2 : Int32) (x33 : (Nat → Int32)) (x35 : (Nat → Int32)) (x36 : (Nat → Int32)) (x37 : (Nat → Int32)) (x38 : (Nat → Int32)) : Option (Int32 × (Nat → Int32) × (Nat → Int32) × (Nat → Int32) × (Nat → Int32) × (Nat → Int32)) := bd1 (fX11_isHouse x17 v1) fun r_1 => (if r_1 = 0 then (some ((-1), x33, x35, x36, x37, x38)) else (bd1 (fX11_isWithin v2 1 60) fun r_3 => (if r_3 = 0 then (some ((-1), x33, x35, x36, x37, x38)) else (fX11_stayN_22 x0 x16 x17 x18 x23 x24 x25 x26  v1 v2 0 x33 x35 x36 x37 x38))))
set_option maxHeartbeats 4000000 in
set_option maxRecDepth 100000 in
theorem wX11_stayN_0 {l : Launch} {b0 : Nat} {D : GD} {K : KT} {n : Nat} {κ : QT} {X0 : XT} {Y0 : YT} {Z : ZT} (hL : LY n κ) (hN : ([0, 16, 17, 18, 23, 24, 25, 26, 33, 35, 36, 37, 38] : List Nat).Nodup) (hM : ([] : List Nat).Nodup) (hC : gC l b0 D K RX11 cX11_stay (some FieldType.int) 4 6 162 0 0) {x0 : Nat → Int32} {x16 : Nat → Int32} {x17 : Nat → Int32} {x18 : Nat → Int32} {x23 : Nat → Int32} {x24 : Nat → Int32} {x25 : Nat → Int32} {x26 : Nat → Int32} (hri : fX11_isWithin (x16 8) 0 (x0 4 - 1) = some 0) {r : Int32} {rx33 : (Nat → Int32)} {rx35 : (Nat → Int32)} {rx36 : (Nat → Int32)} {rx37 : (Nat → Int32)} {rx38 : (Nat → Int32)} (hret : ∀ pc loc, narrow .int (.int r) = .int r → decode cX11_stay pc = .ok (.ireturn, 1) → gV l b0 D K (n, κ, ov X0 [0, 16, 17, 18, 23, 24, 25, 26, 33, 35, 36, 37, 38] [x0, x16, x17, x18, x23, x24, x25, x26, rx33, rx35, rx36, rx37, rx38], ov Y0 [] [], Z, 0, 0) pc loc [.int r]) {v1 : Int32} {v2 : Int32} {x33 : (Nat → Int32)} {x35 : (Nat → Int32)} {x36 : (Nat → Int32)} {x37 : (Nat → Int32)} {x38 : (Nat → Int32)} (hf : fX11_stayN_0 x0 x16 x17 x18 x23 x24 x25 x26  v1 v2 x33 x35 x36 x37 x38 = some (r, rx33, rx35, rx36, rx37, rx38)) : gV l b0 D K (n, κ, ov X0 [0, 16, 17, 18, 23, 24, 25, 26, 33, 35, 36, 37, 38] [x0, x16, x17, x18, x23, x24, x25, x26, x33, x35, x36, x37, x38], ov Y0 [] [], Z, 0, 0) 0 [(0, .ref (b0 + 0)), (1, .int v1), (2, .int v2)] [] := by
  unfold fX11_stayN_0 at hf
  refine g_aload_n hC 0 dX11_stay_0 rfl rfl ?_
  refine g_iload_n hC 1 dX11_stay_1 rfl rfl ?_
  obtain ⟨r_1, q_2, hf⟩ := bd1E hf
  refine g_callV_i (a := 0) hC (X' := ov X0 [0, 16, 17, 18, 23, 24, 25, 26, 33, 35, 36, 37, 38] [x0, x16, x17, x18, x23, x24, x25, x26, x33, x35, x36, x37, x38]) (Y' := ov Y0 [] []) (As := [.int v1]) (gMi_eq (c_X11_isHouse l hL (ov_map hN [2] (by rfl) (by rfl)) (ov_map hM [] (by rfl) (by rfl)) q_2) (ov_ovE hN (by rfl) [2] [0, 1, 3, 4, 5, 6, 7, 8, 9, 10, 11, 12] (by rfl) (by rfl) [x0, x16, x18, x23, x24, x25, x26, x33, x35, x36, x37, x38] (by rfl) (by rfl) (by rfl) 13 (by rfl) (by decide)) (ov_ovE hM (by rfl) [] [] (by rfl) (by rfl) [] (by rfl) (by rfl) (by rfl) 0 (by rfl) (by decide))) tw_790 tw_787 tw_116 tw_789 tw_21 (ci := 11) rfl (by decide) (kk_0 hL) (kn_0 hL) pd_X11_isHouse (by decide) (by decide) rfl rfl (Nat.le_of_ble_eq_true rfl) rfl dX11_stay_2 ?_
  refine g_if_eq hC 18 dX11_stay_5 (by decide) (fun hc => ?_) (fun hc => ?_)
  · replace hf := ifT hf hc
    refine g_iconst hC (v := (-1)) dX11_stay_18 ic_m1 ?_
    obtain ⟨rfl, rfl, rfl, rfl, rfl, rfl⟩ := sm6E hf
    exact hret _ _ rfl dX11_stay_19
  · replace hf := ifF hf hc
    refine g_iload_n hC 2 dX11_stay_8 rfl rfl ?_
    refine g_iconst hC (v := 1) dX11_stay_9 ic_1 ?_
    refine g_bipush hC (v := 60) dX11_stay_10 bp_60 ?_
    obtain ⟨r_3, q_4, hf⟩ := bd1E hf
    refine g_callS_i hC (X' := ov X0 [0, 16, 17, 18, 23, 24, 25, 26, 33, 35, 36, 37, 38] [x0, x16, x17, x18, x23, x24, x25, x26, x33, x35, x36, x37, x38]) (Y' := ov Y0 [] []) (As := [.int v2, .int 1, .int 60]) (gMi_eq (c_X11_isWithin l hL (ov_map hN [] (by rfl) (by rfl)) (ov_map hM [] (by rfl) (by rfl)) q_4) (ov_ovE hN (by rfl) [] [0, 1, 2, 3, 4, 5, 6, 7, 8, 9, 10, 11, 12] (by rfl) (by rfl) [x0, x16, x17, x18, x23, x24, x25, x26, x33, x35, x36, x37, x38] (by rfl) (by rfl) (by rfl) 13 (by rfl) (by decide)) (ov_ovE hM (by rfl) [] [] (by rfl) (by rfl) [] (by rfl) (by rfl) (by rfl) 0 (by rfl) (by decide))) tw_666 tw_870 tw_116 tw_665 pd_X11_isWithin (by decide) (by decide) rfl rfl (Nat.le_of_ble_eq_true rfl) rfl dX11_stay_12 ?_
    refine g_if_ne hC 20 dX11_stay_15 (by decide) (fun hc => ?_) (fun hc => ?_)
    · replace hf := ifF hf hc
      refine g_iconst hC (v := 0) dX11_stay_20 ic_0 ?_
      refine g_istore_n hC (i := 3) [(3, .int 0), (0, .ref (b0 + 0)), (1, .int v1), (2, .int v2)] rfl dX11_stay_21 (by decide) rfl ?_
      exact g_sub [1, 2, 3, 0] rfl (wX11_stayN_22 hL hN hM hC hri hret  5000 v1 v2 0 x33 x35 x36 x37 x38 hf)
    · replace hf := ifT hf hc
      refine g_iconst hC (v := (-1)) dX11_stay_18 ic_m1 ?_
      obtain ⟨rfl, rfl, rfl, rfl, rfl, rfl⟩ := sm6E hf
      exact hret _ _ rfl dX11_stay_19

def fX11_stayN   (x0 : Nat → Int32) (x16 : Nat → Int32) (x17 : Nat → Int32) (x18 : Nat → Int32) (x23 : Nat → Int32) (x24 : Nat → Int32) (x25 : Nat → Int32) (x26 : Nat → Int32)  (v1 : Int32) (v2 : Int32) (x33 : Nat → Int32) (x35 : Nat → Int32) (x36 : Nat → Int32) (x37 : Nat → Int32) (x38 : Nat → Int32)  : Option (Int32 × (Nat → Int32) × (Nat → Int32) × (Nat → Int32) × (Nat → Int32) × (Nat → Int32)) := fX11_stayN_0 x0 x16 x17 x18 x23 x24 x25 x26 v1 v2 x33 x35 x36 x37 x38

set_option maxHeartbeats 4000000 in
set_option maxRecDepth 100000 in
theorem c_X11_stayN (l : Launch) {b0 : Nat} {D : GD} {n : Nat} {κ : QT} {X0 : XT} {Y0 : YT} {Z : ZT} (hL : LY n κ) {x0 : Nat → Int32} {x16 : Nat → Int32} {x17 : Nat → Int32} {x18 : Nat → Int32} {x23 : Nat → Int32} {x24 : Nat → Int32} {x25 : Nat → Int32} {x26 : Nat → Int32} {x33 : Nat → Int32} {x35 : Nat → Int32} {x36 : Nat → Int32} {x37 : Nat → Int32} {x38 : Nat → Int32} (hri : fX11_isWithin (x16 8) 0 (x0 4 - 1) = some 0) (hx : ([0, 16, 17, 18, 23, 24, 25, 26, 33, 35, 36, 37, 38] : List Nat).map X0 = [x0, x16, x17, x18, x23, x24, x25, x26, x33, x35, x36, x37, x38]) (hy : ([] : List Nat).map Y0 = []) {v1 : Int32} {v2 : Int32} {r : Int32} {rx33 : (Nat → Int32)} {rx35 : (Nat → Int32)} {rx36 : (Nat → Int32)} {rx37 : (Nat → Int32)} {rx38 : (Nat → Int32)} (hf : fX11_stayN x0 x16 x17 x18 x23 x24 x25 x26 v1 v2 x33 x35 x36 x37 x38 = some (r, rx33, rx35, rx36, rx37, rx38)) : gMi l yX11_stay cX11_stay 4 (some FieldType.int) 6 162 0 0 b0 D [.ref (b0 + 0), .int v1, .int v2] (n, κ, X0, Y0, Z) (n, κ, ov X0 [0, 16, 17, 18, 23, 24, 25, 26, 33, 35, 36, 37, 38] [x0, x16, x17, x18, x23, x24, x25, x26, rx33, rx35, rx36, rx37, rx38], ov Y0 [] [], Z) r := by
  have hN : ([0, 16, 17, 18, 23, 24, 25, 26, 33, 35, 36, 37, 38] : List Nat).Nodup := by decide
  have hM : ([] : List Nat).Nodup := by decide
  refine g_meti (own := RX11) (by decide) rfl rfl (Nat.le_of_ble_eq_true rfl) ?_
  intro K hC hret
  have e := wX11_stayN_0 hL hN hM hC hri hret hf
  rw [ov_id' hx, ov_id' hy] at e
  exact g_sub [0, 1, 2] rfl e

-- X11_stay
def fX11_stayR_22b  (Lru : Nat) (xruz1 : Nat → Int32) (x0 : Nat → Int32) (x16 : Nat → Int32) (x17 : Nat → Int32) (x18 : Nat → Int32) (x23 : Nat → Int32) (x24 : Nat → Int32) (x25 : Nat → Int32) (x26 : Nat → Int32)  (k22 : Int32 → Int32 → Int32 → (Nat → Int32) → (Nat → Int32) → (Nat → Int32) → (Nat → Int32) → (Nat → Int32) → (Nat → Int64) → (Nat → Int64) → Option (Int32 × (Nat → Int32) × (Nat → Int32) × (Nat → Int32) × (Nat → Int32) × (Nat → Int32) × (Nat → Int64) × (Nat → Int64))) (v1 : Int32) (v2 : Int32) (v3 : Int32) (x33 : (Nat → Int32)) (x35 : (Nat → Int32)) (x36 : (Nat → Int32)) (x37 : (Nat → Int32)) (x38 : (Nat → Int32)) (yruz2 : (Nat → Int64)) (y34 : (Nat → Int64)) : Option (Int32 × (Nat → Int32) × (Nat → Int32) × (Nat → Int32) × (Nat → Int32) × (Nat → Int32) × (Nat → Int64) × (Nat → Int64)) := if 9 < v3 then (some ((-2), x33, x35, x36, x37, x38, yruz2, y34)) else (bd4 (fX7_copy x23 x24 x25 x26 x35 x36 x37 x38) fun x35_1 x36_2 x37_3 x38_4 => (gd (inb v1 6) (bd7 (fX1_passAllR Lru xruz1 x17 x18 v2 x35_1 x36_2 (upd x37_3 v1.toNatClampNeg v3) x38_4 x33 yruz2 y34) fun x35_7 x36_8 x37_9 x38_10 x33_11 yruz2_12 y34_13 => (gd (inb v1 6) (gd (inb v1 6) (if (x36_8 v1.toNatClampNeg) = (x24 v1.toNatClampNeg) then (some (v3, x33_11, x35_7, x36_8, x37_9, x38_10, yruz2_12, y34_13)) else (bn (v3 + 1) fun t_17 => (k22 v1 v2 t_17 x33_11 x35_7 x36_8 x37_9 x38_10 yruz2_12 y34_13))))))))
def fX11_stayR_22  (Lru : Nat) (xruz1 : Nat → Int32) (x0 : Nat → Int32) (x16 : Nat → Int32) (x17 : Nat → Int32) (x18 : Nat → Int32) (x23 : Nat → Int32) (x24 : Nat → Int32) (x25 : Nat → Int32) (x26 : Nat → Int32)  : Int32 → Int32 → Int32 → (Nat → Int32) → (Nat → Int32) → (Nat → Int32) → (Nat → Int32) → (Nat → Int32) → (Nat → Int64) → (Nat → Int64) → Option (Int32 × (Nat → Int32) × (Nat → Int32) × (Nat → Int32) × (Nat → Int32) × (Nat → Int32) × (Nat → Int64) × (Nat → Int64)) := lq10 (fX11_stayR_22b Lru xruz1 x0 x16 x17 x18 x23 x24 x25 x26 ) 5000
set_option maxHeartbeats 4000000 in
set_option maxRecDepth 100000 in
theorem wX11_stayR_22 {l : Launch} {b0 : Nat} {D : GD} {K : KT} {n : Nat} {κ : QT} {X0 : XT} {Y0 : YT} {Z : ZT} {ru : Nat} {Lru : Nat} (hL : LY n κ) (hk_ru : κ ru = (4, 0)) (hn_ru : ru < n) (hk_ru_1 : κ (ru + 1) = (14, Lru)) (hN : ([ru + 1, 0, 16, 17, 18, 23, 24, 25, 26, 33, 35, 36, 37, 38] : List Nat).Nodup) (hM : ([ru + 2, 34] : List Nat).Nodup) (hC : gC l b0 D K RX11 cX11_stay (some FieldType.int) 4 6 162 0 0) {xruz1 : Nat → Int32} {x0 : Nat → Int32} {x16 : Nat → Int32} {x17 : Nat → Int32} {x18 : Nat → Int32} {x23 : Nat → Int32} {x24 : Nat → Int32} {x25 : Nat → Int32} {x26 : Nat → Int32} (hri : fX11_isWithin (x16 8) 0 (x0 4 - 1) = some 1 ∧ inb (x16 8) 6 = true ∧ Z 15 (x16 8).toNatClampNeg = some ru) {r : Int32} {rx33 : (Nat → Int32)} {rx35 : (Nat → Int32)} {rx36 : (Nat → Int32)} {rx37 : (Nat → Int32)} {rx38 : (Nat → Int32)} {ryruz2 : (Nat → Int64)} {ry34 : (Nat → Int64)} (hret : ∀ pc loc, narrow .int (.int r) = .int r → decode cX11_stay pc = .ok (.ireturn, 1) → gV l b0 D K (n, κ, ov X0 [ru + 1, 0, 16, 17, 18, 23, 24, 25, 26, 33, 35, 36, 37, 38] [xruz1, x0, x16, x17, x18, x23, x24, x25, x26, rx33, rx35, rx36, rx37, rx38], ov Y0 [ru + 2, 34] [ryruz2, ry34], Z, 0, 0) pc loc [.int r]) : ∀ (j : Nat) (v1 : Int32) (v2 : Int32) (v3 : Int32) (x33 : (Nat → Int32)) (x35 : (Nat → Int32)) (x36 : (Nat → Int32)) (x37 : (Nat → Int32)) (x38 : (Nat → Int32)) (yruz2 : (Nat → Int64)) (y34 : (Nat → Int64)), lq10 (fX11_stayR_22b Lru xruz1 x0 x16 x17 x18 x23 x24 x25 x26 ) j v1 v2 v3 x33 x35 x36 x37 x38 yruz2 y34 = some (r, rx33, rx35, rx36, rx37, rx38, ryruz2, ry34) → gV l b0 D K (n, κ, ov X0 [ru + 1, 0, 16, 17, 18, 23, 24, 25, 26, 33, 35, 36, 37, 38] [xruz1, x0, x16, x17, x18, x23, x24, x25, x26, x33, x35, x36, x37, x38], ov Y0 [ru + 2, 34] [yruz2, y34], Z, 0, 0) 22 [(0, .ref (b0 + 0)), (1, .int v1), (2, .int v2), (3, .int v3)] [] := by
  intro j
  induction j with
  | zero => intro v1 v2 v3 x33 x35 x36 x37 x38 yruz2 y34 hf; cases hf
  | succ j hk22 =>
    intro v1 v2 v3 x33 x35 x36 x37 x38 yruz2 y34 hf
    replace hf : fX11_stayR_22b Lru xruz1 x0 x16 x17 x18 x23 x24 x25 x26  (lq10 (fX11_stayR_22b Lru xruz1 x0 x16 x17 x18 x23 x24 x25 x26 ) j) v1 v2 v3 x33 x35 x36 x37 x38 yruz2 y34 = some (r, rx33, rx35, rx36, rx37, rx38, ryruz2, ry34) := hf
    unfold fX11_stayR_22b at hf
    refine g_iload_n hC 3 dX11_stay_22 rfl rfl ?_
    refine g_bipush hC (v := 9) dX11_stay_23 bp_9 ?_
    refine g_icmp_gt hC 100 dX11_stay_25 (by decide) (fun hc => ?_) (fun hc => ?_)
    · replace hf := ifT hf hc
      refine g_bipush hC (v := (-2)) dX11_stay_100 bp_m2 ?_
      obtain ⟨rfl, rfl, rfl, rfl, rfl, rfl, rfl, rfl⟩ := sm8E hf
      exact hret _ _ rfl dX11_stay_102
    · replace hf := ifF hf hc
      refine g_aload_n hC 0 dX11_stay_28 rfl rfl ?_
      refine gt_X11_65 hC (a := 0) (kk_0 hL) (kn_0 hL) dX11_stay_29 ?_
      refine g_ref (b := 35) rfl ?_
      refine g_aload_n hC 0 dX11_stay_32 rfl rfl ?_
      refine gt_X11_41 hC (a := 0) (kk_0 hL) (kn_0 hL) dX11_stay_33 ?_
      refine g_ref (b := 16) rfl ?_
      refine gt_X11_140 hC (a := 16) (kk_16 hL) (kn_16 hL) dX11_stay_36 ?_
      refine g_ref (b := 23) rfl ?_
      obtain ⟨x35_1, x36_2, x37_3, x38_4, q_5, hf⟩ := bd4E hf
      refine g_callV_v (a := 35) hC (X' := ov X0 [ru + 1, 0, 16, 17, 18, 23, 24, 25, 26, 33, 35, 36, 37, 38] [xruz1, x0, x16, x17, x18, x23, x24, x25, x26, x33, x35_1, x36_2, x37_3, x38_4]) (Y' := ov Y0 [ru + 2, 34] [yruz2, y34]) (As := [.ref (b0 + 23)]) (gMv_eq (c_X7_copy l hL (kk_35 hL) (kn_35 hL) (kk_23 hL) (kn_23 hL) (nd_sub hN [10, 11, 12, 13, 5, 6, 7, 8] (by decide) (by rfl)) (nd_sub hM [] (by decide) (by rfl)) (ov_map hN [10, 11, 12, 13, 5, 6, 7, 8] (by rfl) (by rfl)) (ov_map hM [] (by rfl) (by rfl)) q_5) (ov_ovE hN (by rfl) [10, 11, 12, 13, 5, 6, 7, 8] [0, 1, 2, 3, 4, 9] (by rfl) (by rfl) [xruz1, x0, x16, x17, x18, x33] (by rfl) (by rfl) (by rfl) 14 (by rfl) (by decide)) (ov_ovE hM (by rfl) [] [0, 1] (by rfl) (by rfl) [yruz2, y34] (by rfl) (by rfl) (by rfl) 2 (by rfl) (by decide))) tw_707 tw_976 tw_120 tw_705 tw_706 (ci := 7) rfl (by decide) (kk_35 hL) (kn_35 hL) pd_X7_copy (by decide) (by decide) rfl rfl (Nat.le_of_ble_eq_true rfl) rfl dX11_stay_39 ?_
      refine g_aload_n hC 0 dX11_stay_42 rfl rfl ?_
      refine gt_X11_65 hC (a := 0) (kk_0 hL) (kn_0 hL) dX11_stay_43 ?_
      refine g_ref (b := 35) rfl ?_
      refine gt_X11_146 hC (a := 35) (kk_35 hL) (kn_35 hL) dX11_stay_46 ?_
      refine g_ref (b := 37) rfl ?_
      refine g_iload_n hC 1 dX11_stay_49 rfl rfl ?_
      refine g_iload_n hC 3 dX11_stay_50 rfl rfl ?_
      obtain ⟨h_6, hf⟩ := gdE hf
      refine g_iast hC (x := x37_3) (kk_37 hL) (kn_37 hL) (ov_get hN 12 rfl rfl) (inb_in h_6) (ov_set hN (by rfl) 12 (by rfl)) dX11_stay_51 ?_
      show gV l b0 D K (n, κ, ov X0 [ru + 1, 0, 16, 17, 18, 23, 24, 25, 26, 33, 35, 36, 37, 38] [xruz1, x0, x16, x17, x18, x23, x24, x25, x26, x33, x35_1, x36_2, (upd x37_3 v1.toNatClampNeg v3), x38_4], ov Y0 [ru + 2, 34] [yruz2, y34], Z, 0, 0) 52 [(0, .ref (b0 + 0)), (1, .int v1), (2, .int v2), (3, .int v3)] []
      refine g_aload_n hC 0 dX11_stay_52 rfl rfl ?_
      refine gt_X11_58 hC (a := 0) (kk_0 hL) (kn_0 hL) dX11_stay_53 ?_
      refine g_ref (b := 32) rfl ?_
      refine g_aload_n hC 0 dX11_stay_56 rfl rfl ?_
      refine gt_X11_65 hC (a := 0) (kk_0 hL) (kn_0 hL) dX11_stay_57 ?_
      refine g_ref (b := 35) rfl ?_
      refine g_aload_n hC 0 dX11_stay_60 rfl rfl ?_
      refine g_callV_q (a := 0) hC (As := []) (c_rifR l hL (ov_get hN 1 rfl rfl) (ov_get hN 2 rfl rfl) hri) tw_869 tw_866 tw_116 tw_868 tw_28 (ci := 11) rfl (by decide) (kk_0 hL) (kn_0 hL) pd_X11_ruleInForce (by decide) (by decide) rfl rfl (Nat.le_of_ble_eq_true rfl) rfl dX11_stay_61 ?_
      refine g_iload_n hC 2 dX11_stay_64 rfl rfl ?_
      obtain ⟨x35_7, x36_8, x37_9, x38_10, x33_11, yruz2_12, y34_13, q_14, hf⟩ := bd7E hf
      refine g_callV_v (a := 32) hC (X' := ov X0 [ru + 1, 0, 16, 17, 18, 23, 24, 25, 26, 33, 35, 36, 37, 38] [xruz1, x0, x16, x17, x18, x23, x24, x25, x26, x33_11, x35_7, x36_8, x37_9, x38_10]) (Y' := ov Y0 [ru + 2, 34] [yruz2_12, y34_13]) (As := [.ref (b0 + 35), .ref (b0 + ru), .int v2]) (gMv_eq (c_X1_passAllR l hL (kk_35 hL) (kn_35 hL) hk_ru hn_ru hk_ru_1 (nd_sub hN [10, 11, 12, 13, 0, 3, 4, 9] (by decide) (by rfl)) (nd_sub hM [0, 1] (by decide) (by rfl)) (ov_map hN [10, 11, 12, 13, 0, 3, 4, 9] (by rfl) (by rfl)) (ov_map hM [0, 1] (by rfl) (by rfl)) q_14) (ov_ovE hN (by rfl) [10, 11, 12, 13, 0, 3, 4, 9] [1, 2, 5, 6, 7, 8] (by rfl) (by rfl) [x0, x16, x23, x24, x25, x26] (by rfl) (by rfl) (by rfl) 14 (by rfl) (by decide)) (ov_ovE hM (by rfl) [0, 1] [] (by rfl) (by rfl) [] (by rfl) (by rfl) (by rfl) 2 (by rfl) (by decide))) tw_980 tw_977 tw_123 tw_978 tw_979 (ci := 1) rfl (by decide) (kk_32 hL) (kn_32 hL) pd_X1_passAll (by decide) (by decide) rfl rfl (Nat.le_of_ble_eq_true rfl) rfl dX11_stay_65 ?_
      refine g_aload_n hC 0 dX11_stay_68 rfl rfl ?_
      refine gt_X11_65 hC (a := 0) (kk_0 hL) (kn_0 hL) dX11_stay_69 ?_
      refine g_ref (b := 35) rfl ?_
      refine gt_X11_143 hC (a := 35) (kk_35 hL) (kn_35 hL) dX11_stay_72 ?_
      refine g_ref (b := 36) rfl ?_
      refine g_iload_n hC 1 dX11_stay_75 rfl rfl ?_
      obtain ⟨h_15, hf⟩ := gdE hf
      refine g_iald hC (x := x36_8) (kk_36 hL) (kn_36 hL) (ov_get hN 11 rfl rfl) (inb_in h_15) dX11_stay_76 ?_
      refine g_aload_n hC 0 dX11_stay_77 rfl rfl ?_
      refine gt_X11_41 hC (a := 0) (kk_0 hL) (kn_0 hL) dX11_stay_78 ?_
      refine g_ref (b := 16) rfl ?_
      refine gt_X11_140 hC (a := 16) (kk_16 hL) (kn_16 hL) dX11_stay_81 ?_
      refine g_ref (b := 23) rfl ?_
      refine gt_X11_143 hC (a := 23) (kk_23 hL) (kn_23 hL) dX11_stay_84 ?_
      refine g_ref (b := 24) rfl ?_
      refine g_iload_n hC 1 dX11_stay_87 rfl rfl ?_
      obtain ⟨h_16, hf⟩ := gdE hf
      refine g_iald hC (x := x24) (kk_24 hL) (kn_24 hL) (ov_get hN 6 rfl rfl) (inb_in h_16) dX11_stay_88 ?_
      refine g_icmp_ne hC 94 dX11_stay_89 (by decide) (fun hc => ?_) (fun hc => ?_)
      · replace hf := ifF hf hc
        obtain ⟨t_17, et_17, hf⟩ := bnE hf
        refine g_iinc hC (i := 3) (v := t_17) [(3, .int t_17), (0, .ref (b0 + 0)), (1, .int v1), (2, .int v2)] dX11_stay_94 (q := 3) rfl ((congrArg (HAdd.hAdd v3) ic_1).trans et_17.symm) (by decide) rfl ?_
        refine g_goto hC 22 dX11_stay_97 (by decide) ?_
        exact g_sub [1, 2, 3, 0] rfl (hk22 v1 v2 t_17 x33_11 x35_7 x36_8 x37_9 x38_10 yruz2_12 y34_13 hf)
      · replace hf := ifT hf hc
        refine g_iload_n hC 3 dX11_stay_92 rfl rfl ?_
        obtain ⟨rfl, rfl, rfl, rfl, rfl, rfl, rfl, rfl⟩ := sm8E hf
        exact hret _ _ rfl dX11_stay_93

def fX11_stayR_0  (Lru : Nat) (xruz1 : Nat → Int32) (x0 : Nat → Int32) (x16 : Nat → Int32) (x17 : Nat → Int32) (x18 : Nat → Int32) (x23 : Nat → Int32) (x24 : Nat → Int32) (x25 : Nat → Int32) (x26 : Nat → Int32)  (v1 : Int32) (v2 : Int32) (x33 : (Nat → Int32)) (x35 : (Nat → Int32)) (x36 : (Nat → Int32)) (x37 : (Nat → Int32)) (x38 : (Nat → Int32)) (yruz2 : (Nat → Int64)) (y34 : (Nat → Int64)) : Option (Int32 × (Nat → Int32) × (Nat → Int32) × (Nat → Int32) × (Nat → Int32) × (Nat → Int32) × (Nat → Int64) × (Nat → Int64)) := bd1 (fX11_isHouse x17 v1) fun r_1 => (if r_1 = 0 then (some ((-1), x33, x35, x36, x37, x38, yruz2, y34)) else (bd1 (fX11_isWithin v2 1 60) fun r_3 => (if r_3 = 0 then (some ((-1), x33, x35, x36, x37, x38, yruz2, y34)) else (fX11_stayR_22 Lru xruz1 x0 x16 x17 x18 x23 x24 x25 x26  v1 v2 0 x33 x35 x36 x37 x38 yruz2 y34))))
set_option maxHeartbeats 4000000 in
set_option maxRecDepth 100000 in
theorem wX11_stayR_0 {l : Launch} {b0 : Nat} {D : GD} {K : KT} {n : Nat} {κ : QT} {X0 : XT} {Y0 : YT} {Z : ZT} {ru : Nat} {Lru : Nat} (hL : LY n κ) (hk_ru : κ ru = (4, 0)) (hn_ru : ru < n) (hk_ru_1 : κ (ru + 1) = (14, Lru)) (hN : ([ru + 1, 0, 16, 17, 18, 23, 24, 25, 26, 33, 35, 36, 37, 38] : List Nat).Nodup) (hM : ([ru + 2, 34] : List Nat).Nodup) (hC : gC l b0 D K RX11 cX11_stay (some FieldType.int) 4 6 162 0 0) {xruz1 : Nat → Int32} {x0 : Nat → Int32} {x16 : Nat → Int32} {x17 : Nat → Int32} {x18 : Nat → Int32} {x23 : Nat → Int32} {x24 : Nat → Int32} {x25 : Nat → Int32} {x26 : Nat → Int32} (hri : fX11_isWithin (x16 8) 0 (x0 4 - 1) = some 1 ∧ inb (x16 8) 6 = true ∧ Z 15 (x16 8).toNatClampNeg = some ru) {r : Int32} {rx33 : (Nat → Int32)} {rx35 : (Nat → Int32)} {rx36 : (Nat → Int32)} {rx37 : (Nat → Int32)} {rx38 : (Nat → Int32)} {ryruz2 : (Nat → Int64)} {ry34 : (Nat → Int64)} (hret : ∀ pc loc, narrow .int (.int r) = .int r → decode cX11_stay pc = .ok (.ireturn, 1) → gV l b0 D K (n, κ, ov X0 [ru + 1, 0, 16, 17, 18, 23, 24, 25, 26, 33, 35, 36, 37, 38] [xruz1, x0, x16, x17, x18, x23, x24, x25, x26, rx33, rx35, rx36, rx37, rx38], ov Y0 [ru + 2, 34] [ryruz2, ry34], Z, 0, 0) pc loc [.int r]) {v1 : Int32} {v2 : Int32} {x33 : (Nat → Int32)} {x35 : (Nat → Int32)} {x36 : (Nat → Int32)} {x37 : (Nat → Int32)} {x38 : (Nat → Int32)} {yruz2 : (Nat → Int64)} {y34 : (Nat → Int64)} (hf : fX11_stayR_0 Lru xruz1 x0 x16 x17 x18 x23 x24 x25 x26  v1 v2 x33 x35 x36 x37 x38 yruz2 y34 = some (r, rx33, rx35, rx36, rx37, rx38, ryruz2, ry34)) : gV l b0 D K (n, κ, ov X0 [ru + 1, 0, 16, 17, 18, 23, 24, 25, 26, 33, 35, 36, 37, 38] [xruz1, x0, x16, x17, x18, x23, x24, x25, x26, x33, x35, x36, x37, x38], ov Y0 [ru + 2, 34] [yruz2, y34], Z, 0, 0) 0 [(0, .ref (b0 + 0)), (1, .int v1), (2, .int v2)] [] := by
  unfold fX11_stayR_0 at hf
  refine g_aload_n hC 0 dX11_stay_0 rfl rfl ?_
  refine g_iload_n hC 1 dX11_stay_1 rfl rfl ?_
  obtain ⟨r_1, q_2, hf⟩ := bd1E hf
  refine g_callV_i (a := 0) hC (X' := ov X0 [ru + 1, 0, 16, 17, 18, 23, 24, 25, 26, 33, 35, 36, 37, 38] [xruz1, x0, x16, x17, x18, x23, x24, x25, x26, x33, x35, x36, x37, x38]) (Y' := ov Y0 [ru + 2, 34] [yruz2, y34]) (As := [.int v1]) (gMi_eq (c_X11_isHouse l hL (ov_map hN [3] (by rfl) (by rfl)) (ov_map hM [] (by rfl) (by rfl)) q_2) (ov_ovE hN (by rfl) [3] [0, 1, 2, 4, 5, 6, 7, 8, 9, 10, 11, 12, 13] (by rfl) (by rfl) [xruz1, x0, x16, x18, x23, x24, x25, x26, x33, x35, x36, x37, x38] (by rfl) (by rfl) (by rfl) 14 (by rfl) (by decide)) (ov_ovE hM (by rfl) [] [0, 1] (by rfl) (by rfl) [yruz2, y34] (by rfl) (by rfl) (by rfl) 2 (by rfl) (by decide))) tw_790 tw_787 tw_116 tw_789 tw_21 (ci := 11) rfl (by decide) (kk_0 hL) (kn_0 hL) pd_X11_isHouse (by decide) (by decide) rfl rfl (Nat.le_of_ble_eq_true rfl) rfl dX11_stay_2 ?_
  refine g_if_eq hC 18 dX11_stay_5 (by decide) (fun hc => ?_) (fun hc => ?_)
  · replace hf := ifT hf hc
    refine g_iconst hC (v := (-1)) dX11_stay_18 ic_m1 ?_
    obtain ⟨rfl, rfl, rfl, rfl, rfl, rfl, rfl, rfl⟩ := sm8E hf
    exact hret _ _ rfl dX11_stay_19
  · replace hf := ifF hf hc
    refine g_iload_n hC 2 dX11_stay_8 rfl rfl ?_
    refine g_iconst hC (v := 1) dX11_stay_9 ic_1 ?_
    refine g_bipush hC (v := 60) dX11_stay_10 bp_60 ?_
    obtain ⟨r_3, q_4, hf⟩ := bd1E hf
    refine g_callS_i hC (X' := ov X0 [ru + 1, 0, 16, 17, 18, 23, 24, 25, 26, 33, 35, 36, 37, 38] [xruz1, x0, x16, x17, x18, x23, x24, x25, x26, x33, x35, x36, x37, x38]) (Y' := ov Y0 [ru + 2, 34] [yruz2, y34]) (As := [.int v2, .int 1, .int 60]) (gMi_eq (c_X11_isWithin l hL (ov_map hN [] (by rfl) (by rfl)) (ov_map hM [] (by rfl) (by rfl)) q_4) (ov_ovE hN (by rfl) [] [0, 1, 2, 3, 4, 5, 6, 7, 8, 9, 10, 11, 12, 13] (by rfl) (by rfl) [xruz1, x0, x16, x17, x18, x23, x24, x25, x26, x33, x35, x36, x37, x38] (by rfl) (by rfl) (by rfl) 14 (by rfl) (by decide)) (ov_ovE hM (by rfl) [] [0, 1] (by rfl) (by rfl) [yruz2, y34] (by rfl) (by rfl) (by rfl) 2 (by rfl) (by decide))) tw_666 tw_870 tw_116 tw_665 pd_X11_isWithin (by decide) (by decide) rfl rfl (Nat.le_of_ble_eq_true rfl) rfl dX11_stay_12 ?_
    refine g_if_ne hC 20 dX11_stay_15 (by decide) (fun hc => ?_) (fun hc => ?_)
    · replace hf := ifF hf hc
      refine g_iconst hC (v := 0) dX11_stay_20 ic_0 ?_
      refine g_istore_n hC (i := 3) [(3, .int 0), (0, .ref (b0 + 0)), (1, .int v1), (2, .int v2)] rfl dX11_stay_21 (by decide) rfl ?_
      exact g_sub [1, 2, 3, 0] rfl (wX11_stayR_22 hL hk_ru hn_ru hk_ru_1 hN hM hC hri hret  5000 v1 v2 0 x33 x35 x36 x37 x38 yruz2 y34 hf)
    · replace hf := ifT hf hc
      refine g_iconst hC (v := (-1)) dX11_stay_18 ic_m1 ?_
      obtain ⟨rfl, rfl, rfl, rfl, rfl, rfl, rfl, rfl⟩ := sm8E hf
      exact hret _ _ rfl dX11_stay_19

def fX11_stayR  (Lru : Nat) (xruz1 : Nat → Int32) (x0 : Nat → Int32) (x16 : Nat → Int32) (x17 : Nat → Int32) (x18 : Nat → Int32) (x23 : Nat → Int32) (x24 : Nat → Int32) (x25 : Nat → Int32) (x26 : Nat → Int32)  (v1 : Int32) (v2 : Int32) (x33 : Nat → Int32) (x35 : Nat → Int32) (x36 : Nat → Int32) (x37 : Nat → Int32) (x38 : Nat → Int32) (yruz2 : Nat → Int64) (y34 : Nat → Int64) : Option (Int32 × (Nat → Int32) × (Nat → Int32) × (Nat → Int32) × (Nat → Int32) × (Nat → Int32) × (Nat → Int64) × (Nat → Int64)) := fX11_stayR_0 Lru xruz1 x0 x16 x17 x18 x23 x24 x25 x26 v1 v2 x33 x35 x36 x37 x38 yruz2 y34

set_option maxHeartbeats 4000000 in
set_option maxRecDepth 100000 in
theorem c_X11_stayR (l : Launch) {b0 : Nat} {D : GD} {n : Nat} {κ : QT} {X0 : XT} {Y0 : YT} {Z : ZT} {ru : Nat} {Lru : Nat} (hL : LY n κ) (hk_ru : κ ru = (4, 0)) (hn_ru : ru < n) (hk_ru_1 : κ (ru + 1) = (14, Lru)) (hN : ([ru + 1, 0, 16, 17, 18, 23, 24, 25, 26, 33, 35, 36, 37, 38] : List Nat).Nodup) (hM : ([ru + 2, 34] : List Nat).Nodup) {xruz1 : Nat → Int32} {x0 : Nat → Int32} {x16 : Nat → Int32} {x17 : Nat → Int32} {x18 : Nat → Int32} {x23 : Nat → Int32} {x24 : Nat → Int32} {x25 : Nat → Int32} {x26 : Nat → Int32} {x33 : Nat → Int32} {x35 : Nat → Int32} {x36 : Nat → Int32} {x37 : Nat → Int32} {x38 : Nat → Int32} {yruz2 : Nat → Int64} {y34 : Nat → Int64} (hri : fX11_isWithin (x16 8) 0 (x0 4 - 1) = some 1 ∧ inb (x16 8) 6 = true ∧ Z 15 (x16 8).toNatClampNeg = some ru) (hx : ([ru + 1, 0, 16, 17, 18, 23, 24, 25, 26, 33, 35, 36, 37, 38] : List Nat).map X0 = [xruz1, x0, x16, x17, x18, x23, x24, x25, x26, x33, x35, x36, x37, x38]) (hy : ([ru + 2, 34] : List Nat).map Y0 = [yruz2, y34]) {v1 : Int32} {v2 : Int32} {r : Int32} {rx33 : (Nat → Int32)} {rx35 : (Nat → Int32)} {rx36 : (Nat → Int32)} {rx37 : (Nat → Int32)} {rx38 : (Nat → Int32)} {ryruz2 : (Nat → Int64)} {ry34 : (Nat → Int64)} (hf : fX11_stayR Lru xruz1 x0 x16 x17 x18 x23 x24 x25 x26 v1 v2 x33 x35 x36 x37 x38 yruz2 y34 = some (r, rx33, rx35, rx36, rx37, rx38, ryruz2, ry34)) : gMi l yX11_stay cX11_stay 4 (some FieldType.int) 6 162 0 0 b0 D [.ref (b0 + 0), .int v1, .int v2] (n, κ, X0, Y0, Z) (n, κ, ov X0 [ru + 1, 0, 16, 17, 18, 23, 24, 25, 26, 33, 35, 36, 37, 38] [xruz1, x0, x16, x17, x18, x23, x24, x25, x26, rx33, rx35, rx36, rx37, rx38], ov Y0 [ru + 2, 34] [ryruz2, ry34], Z) r := by
  refine g_meti (own := RX11) (by decide) rfl rfl (Nat.le_of_ble_eq_true rfl) ?_
  intro K hC hret
  have e := wX11_stayR_0 hL hk_ru hn_ru hk_ru_1 hN hM hC hri hret hf
  rw [ov_id' hx, ov_id' hy] at e
  exact g_sub [0, 1, 2] rfl e

-- X11_iced
def fX11_icedN_21b   (x0 : Nat → Int32) (x16 : Nat → Int32) (x17 : Nat → Int32) (x18 : Nat → Int32) (x23 : Nat → Int32) (x24 : Nat → Int32) (x25 : Nat → Int32) (x26 : Nat → Int32)  (k21 : Int32 → Int32 → (Nat → Int32) → (Nat → Int32) → (Nat → Int32) → (Nat → Int32) → (Nat → Int32) → Option (Int32 × (Nat → Int32) × (Nat → Int32) × (Nat → Int32) × (Nat → Int32) × (Nat → Int32))) (v1 : Int32) (v2 : Int32) (x33 : (Nat → Int32)) (x35 : (Nat → Int32)) (x36 : (Nat → Int32)) (x37 : (Nat → Int32)) (x38 : (Nat → Int32)) : Option (Int32 × (Nat → Int32) × (Nat → Int32) × (Nat → Int32) × (Nat → Int32) × (Nat → Int32)) := if 9 < v2 then (some ((-2), x33, x35, x36, x37, x38)) else (bd4 (fX7_copy x23 x24 x25 x26 x35 x36 x37 x38) fun x35_1 x36_2 x37_3 x38_4 => (bd5 (fX1_passAllN x17 x18 v1 (upd x35_1 2 v2) x36_2 x37_3 x38_4 x33) fun x35_6 x36_7 x37_8 x38_9 x33_10 => (bd1 (fX9_riverBits x36_7 x17) fun r_12 => (bd1 (fX9_riverBits x24 x17) fun r_14 => (if r_12 = r_14 then (some (v2, x33_10, x35_6, x36_7, x37_8, x38_9)) else (bn (v2 + 1) fun t_16 => (k21 v1 t_16 x33_10 x35_6 x36_7 x37_8 x38_9)))))))
def fX11_icedN_21   (x0 : Nat → Int32) (x16 : Nat → Int32) (x17 : Nat → Int32) (x18 : Nat → Int32) (x23 : Nat → Int32) (x24 : Nat → Int32) (x25 : Nat → Int32) (x26 : Nat → Int32)  : Int32 → Int32 → (Nat → Int32) → (Nat → Int32) → (Nat → Int32) → (Nat → Int32) → (Nat → Int32) → Option (Int32 × (Nat → Int32) × (Nat → Int32) × (Nat → Int32) × (Nat → Int32) × (Nat → Int32)) := lq7 (fX11_icedN_21b x0 x16 x17 x18 x23 x24 x25 x26 ) 5000
set_option maxHeartbeats 4000000 in
set_option maxRecDepth 100000 in
theorem wX11_icedN_21 {l : Launch} {b0 : Nat} {D : GD} {K : KT} {n : Nat} {κ : QT} {X0 : XT} {Y0 : YT} {Z : ZT} (hL : LY n κ) (hN : ([0, 16, 17, 18, 23, 24, 25, 26, 33, 35, 36, 37, 38] : List Nat).Nodup) (hM : ([] : List Nat).Nodup) (hC : gC l b0 D K RX11 cX11_iced (some FieldType.int) 3 6 162 0 0) {x0 : Nat → Int32} {x16 : Nat → Int32} {x17 : Nat → Int32} {x18 : Nat → Int32} {x23 : Nat → Int32} {x24 : Nat → Int32} {x25 : Nat → Int32} {x26 : Nat → Int32} (hri : fX11_isWithin (x16 8) 0 (x0 4 - 1) = some 0) {r : Int32} {rx33 : (Nat → Int32)} {rx35 : (Nat → Int32)} {rx36 : (Nat → Int32)} {rx37 : (Nat → Int32)} {rx38 : (Nat → Int32)} (hret : ∀ pc loc, narrow .int (.int r) = .int r → decode cX11_iced pc = .ok (.ireturn, 1) → gV l b0 D K (n, κ, ov X0 [0, 16, 17, 18, 23, 24, 25, 26, 33, 35, 36, 37, 38] [x0, x16, x17, x18, x23, x24, x25, x26, rx33, rx35, rx36, rx37, rx38], ov Y0 [] [], Z, 0, 0) pc loc [.int r]) : ∀ (j : Nat) (v1 : Int32) (v2 : Int32) (x33 : (Nat → Int32)) (x35 : (Nat → Int32)) (x36 : (Nat → Int32)) (x37 : (Nat → Int32)) (x38 : (Nat → Int32)), lq7 (fX11_icedN_21b x0 x16 x17 x18 x23 x24 x25 x26 ) j v1 v2 x33 x35 x36 x37 x38 = some (r, rx33, rx35, rx36, rx37, rx38) → gV l b0 D K (n, κ, ov X0 [0, 16, 17, 18, 23, 24, 25, 26, 33, 35, 36, 37, 38] [x0, x16, x17, x18, x23, x24, x25, x26, x33, x35, x36, x37, x38], ov Y0 [] [], Z, 0, 0) 21 [(0, .ref (b0 + 0)), (1, .int v1), (2, .int v2)] [] := by
  intro j
  induction j with
  | zero => intro v1 v2 x33 x35 x36 x37 x38 hf; cases hf
  | succ j hk21 =>
    intro v1 v2 x33 x35 x36 x37 x38 hf
    replace hf : fX11_icedN_21b x0 x16 x17 x18 x23 x24 x25 x26  (lq7 (fX11_icedN_21b x0 x16 x17 x18 x23 x24 x25 x26 ) j) v1 v2 x33 x35 x36 x37 x38 = some (r, rx33, rx35, rx36, rx37, rx38) := hf
    unfold fX11_icedN_21b at hf
    refine g_iload_n hC 2 dX11_iced_21 rfl rfl ?_
    refine g_bipush hC (v := 9) dX11_iced_22 bp_9 ?_
    refine g_icmp_gt hC 107 dX11_iced_24 (by decide) (fun hc => ?_) (fun hc => ?_)
    · replace hf := ifT hf hc
      refine g_bipush hC (v := (-2)) dX11_iced_107 bp_m2 ?_
      obtain ⟨rfl, rfl, rfl, rfl, rfl, rfl⟩ := sm6E hf
      exact hret _ _ rfl dX11_iced_109
    · replace hf := ifF hf hc
      refine g_aload_n hC 0 dX11_iced_27 rfl rfl ?_
      refine gt_X11_65 hC (a := 0) (kk_0 hL) (kn_0 hL) dX11_iced_28 ?_
      refine g_ref (b := 35) rfl ?_
      refine g_aload_n hC 0 dX11_iced_31 rfl rfl ?_
      refine gt_X11_41 hC (a := 0) (kk_0 hL) (kn_0 hL) dX11_iced_32 ?_
      refine g_ref (b := 16) rfl ?_
      refine gt_X11_140 hC (a := 16) (kk_16 hL) (kn_16 hL) dX11_iced_35 ?_
      refine g_ref (b := 23) rfl ?_
      obtain ⟨x35_1, x36_2, x37_3, x38_4, q_5, hf⟩ := bd4E hf
      refine g_callV_v (a := 35) hC (X' := ov X0 [0, 16, 17, 18, 23, 24, 25, 26, 33, 35, 36, 37, 38] [x0, x16, x17, x18, x23, x24, x25, x26, x33, x35_1, x36_2, x37_3, x38_4]) (Y' := ov Y0 [] []) (As := [.ref (b0 + 23)]) (gMv_eq (c_X7_copy l hL (kk_35 hL) (kn_35 hL) (kk_23 hL) (kn_23 hL) (nd_sub hN [9, 10, 11, 12, 4, 5, 6, 7] (by decide) (by rfl)) (nd_sub hM [] (by decide) (by rfl)) (ov_map hN [9, 10, 11, 12, 4, 5, 6, 7] (by rfl) (by rfl)) (ov_map hM [] (by rfl) (by rfl)) q_5) (ov_ovE hN (by rfl) [9, 10, 11, 12, 4, 5, 6, 7] [0, 1, 2, 3, 8] (by rfl) (by rfl) [x0, x16, x17, x18, x33] (by rfl) (by rfl) (by rfl) 13 (by rfl) (by decide)) (ov_ovE hM (by rfl) [] [] (by rfl) (by rfl) [] (by rfl) (by rfl) (by rfl) 0 (by rfl) (by decide))) tw_707 tw_976 tw_120 tw_705 tw_706 (ci := 7) rfl (by decide) (kk_35 hL) (kn_35 hL) pd_X7_copy (by decide) (by decide) rfl rfl (Nat.le_of_ble_eq_true rfl) rfl dX11_iced_38 ?_
      refine g_aload_n hC 0 dX11_iced_41 rfl rfl ?_
      refine gt_X11_65 hC (a := 0) (kk_0 hL) (kn_0 hL) dX11_iced_42 ?_
      refine g_ref (b := 35) rfl ?_
      refine g_iload_n hC 2 dX11_iced_45 rfl rfl ?_
      refine pt_X11_205 hC (x := x35_1) (kk_35 hL) (kn_35 hL) (ov_get hN 9 rfl rfl) (ov_set hN (by rfl) 9 (by rfl)) dX11_iced_46 ?_
      show gV l b0 D K (n, κ, ov X0 [0, 16, 17, 18, 23, 24, 25, 26, 33, 35, 36, 37, 38] [x0, x16, x17, x18, x23, x24, x25, x26, x33, (upd x35_1 2 v2), x36_2, x37_3, x38_4], ov Y0 [] [], Z, 0, 0) 49 [(0, .ref (b0 + 0)), (1, .int v1), (2, .int v2)] []
      refine g_aload_n hC 0 dX11_iced_49 rfl rfl ?_
      refine gt_X11_58 hC (a := 0) (kk_0 hL) (kn_0 hL) dX11_iced_50 ?_
      refine g_ref (b := 32) rfl ?_
      refine g_aload_n hC 0 dX11_iced_53 rfl rfl ?_
      refine gt_X11_65 hC (a := 0) (kk_0 hL) (kn_0 hL) dX11_iced_54 ?_
      refine g_ref (b := 35) rfl ?_
      refine g_aload_n hC 0 dX11_iced_57 rfl rfl ?_
      refine g_callV_q (a := 0) hC (As := []) (c_rifN l hL (ov_get hN 0 rfl rfl) (ov_get hN 1 rfl rfl) hri) tw_869 tw_866 tw_116 tw_868 tw_28 (ci := 11) rfl (by decide) (kk_0 hL) (kn_0 hL) pd_X11_ruleInForce (by decide) (by decide) rfl rfl (Nat.le_of_ble_eq_true rfl) rfl dX11_iced_58 ?_
      refine g_iload_n hC 1 dX11_iced_61 rfl rfl ?_
      obtain ⟨x35_6, x36_7, x37_8, x38_9, x33_10, q_11, hf⟩ := bd5E hf
      refine g_callV_v (a := 32) hC (X' := ov X0 [0, 16, 17, 18, 23, 24, 25, 26, 33, 35, 36, 37, 38] [x0, x16, x17, x18, x23, x24, x25, x26, x33_10, x35_6, x36_7, x37_8, x38_9]) (Y' := ov Y0 [] []) (As := [.ref (b0 + 35), .null, .int v1]) (gMv_eq (c_X1_passAllN l hL (kk_35 hL) (kn_35 hL) (nd_sub hN [9, 10, 11, 12, 2, 3, 8] (by decide) (by rfl)) (nd_sub hM [] (by decide) (by rfl)) (ov_map hN [9, 10, 11, 12, 2, 3, 8] (by rfl) (by rfl)) (ov_map hM [] (by rfl) (by rfl)) q_11) (ov_ovE hN (by rfl) [9, 10, 11, 12, 2, 3, 8] [0, 1, 4, 5, 6, 7] (by rfl) (by rfl) [x0, x16, x23, x24, x25, x26] (by rfl) (by rfl) (by rfl) 13 (by rfl) (by decide)) (ov_ovE hM (by rfl) [] [] (by rfl) (by rfl) [] (by rfl) (by rfl) (by rfl) 0 (by rfl) (by decide))) tw_980 tw_977 tw_123 tw_978 tw_979 (ci := 1) rfl (by decide) (kk_32 hL) (kn_32 hL) pd_X1_passAll (by decide) (by decide) rfl rfl (Nat.le_of_ble_eq_true rfl) rfl dX11_iced_62 ?_
      refine g_aload_n hC 0 dX11_iced_65 rfl rfl ?_
      refine gt_X11_41 hC (a := 0) (kk_0 hL) (kn_0 hL) dX11_iced_66 ?_
      refine g_ref (b := 16) rfl ?_
      refine gt_X11_51 hC (a := 16) (kk_16 hL) (kn_16 hL) dX11_iced_69 ?_
      refine g_ref (b := 17) rfl ?_
      refine g_aload_n hC 0 dX11_iced_72 rfl rfl ?_
      refine gt_X11_65 hC (a := 0) (kk_0 hL) (kn_0 hL) dX11_iced_73 ?_
      refine g_ref (b := 35) rfl ?_
      obtain ⟨r_12, q_13, hf⟩ := bd1E hf
      refine g_callV_i (a := 17) hC (X' := ov X0 [0, 16, 17, 18, 23, 24, 25, 26, 33, 35, 36, 37, 38] [x0, x16, x17, x18, x23, x24, x25, x26, x33_10, x35_6, x36_7, x37_8, x38_9]) (Y' := ov Y0 [] []) (As := [.ref (b0 + 35)]) (gMi_eq (c_X9_riverBits l hL (kk_35 hL) (kn_35 hL) (nd_sub hN [10, 2] (by decide) (by rfl)) (nd_sub hM [] (by decide) (by rfl)) (ov_map hN [10, 2] (by rfl) (by rfl)) (ov_map hM [] (by rfl) (by rfl)) q_13) (ov_ovE hN (by rfl) [10, 2] [0, 1, 3, 4, 5, 6, 7, 8, 9, 11, 12] (by rfl) (by rfl) [x0, x16, x18, x23, x24, x25, x26, x33_10, x35_6, x37_8, x38_9] (by rfl) (by rfl) (by rfl) 13 (by rfl) (by decide)) (ov_ovE hM (by rfl) [] [] (by rfl) (by rfl) [] (by rfl) (by rfl) (by rfl) 0 (by rfl) (by decide))) tw_918 tw_983 tw_119 tw_916 tw_917 (ci := 9) rfl (by decide) (kk_17 hL) (kn_17 hL) pd_X9_riverBits (by decide) (by decide) rfl rfl (Nat.le_of_ble_eq_true rfl) rfl dX11_iced_76 ?_
      refine g_aload_n hC 0 dX11_iced_79 rfl rfl ?_
      refine gt_X11_41 hC (a := 0) (kk_0 hL) (kn_0 hL) dX11_iced_80 ?_
      refine g_ref (b := 16) rfl ?_
      refine gt_X11_51 hC (a := 16) (kk_16 hL) (kn_16 hL) dX11_iced_83 ?_
      refine g_ref (b := 17) rfl ?_
      refine g_aload_n hC 0 dX11_iced_86 rfl rfl ?_
      refine gt_X11_41 hC (a := 0) (kk_0 hL) (kn_0 hL) dX11_iced_87 ?_
      refine g_ref (b := 16) rfl ?_
      refine gt_X11_140 hC (a := 16) (kk_16 hL) (kn_16 hL) dX11_iced_90 ?_
      refine g_ref (b := 23) rfl ?_
      obtain ⟨r_14, q_15, hf⟩ := bd1E hf
      refine g_callV_i (a := 17) hC (X' := ov X0 [0, 16, 17, 18, 23, 24, 25, 26, 33, 35, 36, 37, 38] [x0, x16, x17, x18, x23, x24, x25, x26, x33_10, x35_6, x36_7, x37_8, x38_9]) (Y' := ov Y0 [] []) (As := [.ref (b0 + 23)]) (gMi_eq (c_X9_riverBits l hL (kk_23 hL) (kn_23 hL) (nd_sub hN [5, 2] (by decide) (by rfl)) (nd_sub hM [] (by decide) (by rfl)) (ov_map hN [5, 2] (by rfl) (by rfl)) (ov_map hM [] (by rfl) (by rfl)) q_15) (ov_ovE hN (by rfl) [5, 2] [0, 1, 3, 4, 6, 7, 8, 9, 10, 11, 12] (by rfl) (by rfl) [x0, x16, x18, x23, x25, x26, x33_10, x35_6, x36_7, x37_8, x38_9] (by rfl) (by rfl) (by rfl) 13 (by rfl) (by decide)) (ov_ovE hM (by rfl) [] [] (by rfl) (by rfl) [] (by rfl) (by rfl) (by rfl) 0 (by rfl) (by decide))) tw_918 tw_983 tw_119 tw_916 tw_917 (ci := 9) rfl (by decide) (kk_17 hL) (kn_17 hL) pd_X9_riverBits (by decide) (by decide) rfl rfl (Nat.le_of_ble_eq_true rfl) rfl dX11_iced_93 ?_
      refine g_icmp_ne hC 101 dX11_iced_96 (by decide) (fun hc => ?_) (fun hc => ?_)
      · replace hf := ifF hf hc
        obtain ⟨t_16, et_16, hf⟩ := bnE hf
        refine g_iinc hC (i := 2) (v := t_16) [(2, .int t_16), (0, .ref (b0 + 0)), (1, .int v1)] dX11_iced_101 (q := 2) rfl ((congrArg (HAdd.hAdd v2) ic_1).trans et_16.symm) (by decide) rfl ?_
        refine g_goto hC 21 dX11_iced_104 (by decide) ?_
        exact g_sub [1, 2, 0] rfl (hk21 v1 t_16 x33_10 x35_6 x36_7 x37_8 x38_9 hf)
      · replace hf := ifT hf hc
        refine g_iload_n hC 2 dX11_iced_99 rfl rfl ?_
        obtain ⟨rfl, rfl, rfl, rfl, rfl, rfl⟩ := sm6E hf
        exact hret _ _ rfl dX11_iced_100

def fX11_icedN_0   (x0 : Nat → Int32) (x16 : Nat → Int32) (x17 : Nat → Int32) (x18 : Nat → Int32) (x23 : Nat → Int32) (x24 : Nat → Int32) (x25 : Nat → Int32) (x26 : Nat → Int32)  (v1 : Int32) (x33 : (Nat → Int32)) (x35 : (Nat → Int32)) (x36 : (Nat → Int32)) (x37 : (Nat → Int32)) (x38 : (Nat → Int32)) : Option (Int32 × (Nat → Int32) × (Nat → Int32) × (Nat → Int32) × (Nat → Int32) × (Nat → Int32)) := bd1 (fX11_isTold x17) fun r_1 => (if r_1 = 0 then (some ((-1), x33, x35, x36, x37, x38)) else (bd1 (fX11_isWithin v1 1 60) fun r_3 => (if r_3 = 0 then (some ((-1), x33, x35, x36, x37, x38)) else (fX11_icedN_21 x0 x16 x17 x18 x23 x24 x25 x26  v1 0 x33 x35 x36 x37 x38))))
set_option maxHeartbeats 4000000 in
set_option maxRecDepth 100000 in
theorem wX11_icedN_0 {l : Launch} {b0 : Nat} {D : GD} {K : KT} {n : Nat} {κ : QT} {X0 : XT} {Y0 : YT} {Z : ZT} (hL : LY n κ) (hN : ([0, 16, 17, 18, 23, 24, 25, 26, 33, 35, 36, 37, 38] : List Nat).Nodup) (hM : ([] : List Nat).Nodup) (hC : gC l b0 D K RX11 cX11_iced (some FieldType.int) 3 6 162 0 0) {x0 : Nat → Int32} {x16 : Nat → Int32} {x17 : Nat → Int32} {x18 : Nat → Int32} {x23 : Nat → Int32} {x24 : Nat → Int32} {x25 : Nat → Int32} {x26 : Nat → Int32} (hri : fX11_isWithin (x16 8) 0 (x0 4 - 1) = some 0) {r : Int32} {rx33 : (Nat → Int32)} {rx35 : (Nat → Int32)} {rx36 : (Nat → Int32)} {rx37 : (Nat → Int32)} {rx38 : (Nat → Int32)} (hret : ∀ pc loc, narrow .int (.int r) = .int r → decode cX11_iced pc = .ok (.ireturn, 1) → gV l b0 D K (n, κ, ov X0 [0, 16, 17, 18, 23, 24, 25, 26, 33, 35, 36, 37, 38] [x0, x16, x17, x18, x23, x24, x25, x26, rx33, rx35, rx36, rx37, rx38], ov Y0 [] [], Z, 0, 0) pc loc [.int r]) {v1 : Int32} {x33 : (Nat → Int32)} {x35 : (Nat → Int32)} {x36 : (Nat → Int32)} {x37 : (Nat → Int32)} {x38 : (Nat → Int32)} (hf : fX11_icedN_0 x0 x16 x17 x18 x23 x24 x25 x26  v1 x33 x35 x36 x37 x38 = some (r, rx33, rx35, rx36, rx37, rx38)) : gV l b0 D K (n, κ, ov X0 [0, 16, 17, 18, 23, 24, 25, 26, 33, 35, 36, 37, 38] [x0, x16, x17, x18, x23, x24, x25, x26, x33, x35, x36, x37, x38], ov Y0 [] [], Z, 0, 0) 0 [(0, .ref (b0 + 0)), (1, .int v1)] [] := by
  unfold fX11_icedN_0 at hf
  refine g_aload_n hC 0 dX11_iced_0 rfl rfl ?_
  obtain ⟨r_1, q_2, hf⟩ := bd1E hf
  refine g_callV_i (a := 0) hC (X' := ov X0 [0, 16, 17, 18, 23, 24, 25, 26, 33, 35, 36, 37, 38] [x0, x16, x17, x18, x23, x24, x25, x26, x33, x35, x36, x37, x38]) (Y' := ov Y0 [] []) (As := []) (gMi_eq (c_X11_isTold l hL (ov_map hN [2] (by rfl) (by rfl)) (ov_map hM [] (by rfl) (by rfl)) q_2) (ov_ovE hN (by rfl) [2] [0, 1, 3, 4, 5, 6, 7, 8, 9, 10, 11, 12] (by rfl) (by rfl) [x0, x16, x18, x23, x24, x25, x26, x33, x35, x36, x37, x38] (by rfl) (by rfl) (by rfl) 13 (by rfl) (by decide)) (ov_ovE hM (by rfl) [] [] (by rfl) (by rfl) [] (by rfl) (by rfl) (by rfl) 0 (by rfl) (by decide))) tw_853 tw_850 tw_116 tw_852 tw_25 (ci := 11) rfl (by decide) (kk_0 hL) (kn_0 hL) pd_X11_isTold (by decide) (by decide) rfl rfl (Nat.le_of_ble_eq_true rfl) rfl dX11_iced_1 ?_
  refine g_if_eq hC 17 dX11_iced_4 (by decide) (fun hc => ?_) (fun hc => ?_)
  · replace hf := ifT hf hc
    refine g_iconst hC (v := (-1)) dX11_iced_17 ic_m1 ?_
    obtain ⟨rfl, rfl, rfl, rfl, rfl, rfl⟩ := sm6E hf
    exact hret _ _ rfl dX11_iced_18
  · replace hf := ifF hf hc
    refine g_iload_n hC 1 dX11_iced_7 rfl rfl ?_
    refine g_iconst hC (v := 1) dX11_iced_8 ic_1 ?_
    refine g_bipush hC (v := 60) dX11_iced_9 bp_60 ?_
    obtain ⟨r_3, q_4, hf⟩ := bd1E hf
    refine g_callS_i hC (X' := ov X0 [0, 16, 17, 18, 23, 24, 25, 26, 33, 35, 36, 37, 38] [x0, x16, x17, x18, x23, x24, x25, x26, x33, x35, x36, x37, x38]) (Y' := ov Y0 [] []) (As := [.int v1, .int 1, .int 60]) (gMi_eq (c_X11_isWithin l hL (ov_map hN [] (by rfl) (by rfl)) (ov_map hM [] (by rfl) (by rfl)) q_4) (ov_ovE hN (by rfl) [] [0, 1, 2, 3, 4, 5, 6, 7, 8, 9, 10, 11, 12] (by rfl) (by rfl) [x0, x16, x17, x18, x23, x24, x25, x26, x33, x35, x36, x37, x38] (by rfl) (by rfl) (by rfl) 13 (by rfl) (by decide)) (ov_ovE hM (by rfl) [] [] (by rfl) (by rfl) [] (by rfl) (by rfl) (by rfl) 0 (by rfl) (by decide))) tw_666 tw_870 tw_116 tw_665 pd_X11_isWithin (by decide) (by decide) rfl rfl (Nat.le_of_ble_eq_true rfl) rfl dX11_iced_11 ?_
    refine g_if_ne hC 19 dX11_iced_14 (by decide) (fun hc => ?_) (fun hc => ?_)
    · replace hf := ifF hf hc
      refine g_iconst hC (v := 0) dX11_iced_19 ic_0 ?_
      refine g_istore_n hC (i := 2) [(2, .int 0), (0, .ref (b0 + 0)), (1, .int v1)] rfl dX11_iced_20 (by decide) rfl ?_
      exact g_sub [1, 2, 0] rfl (wX11_icedN_21 hL hN hM hC hri hret  5000 v1 0 x33 x35 x36 x37 x38 hf)
    · replace hf := ifT hf hc
      refine g_iconst hC (v := (-1)) dX11_iced_17 ic_m1 ?_
      obtain ⟨rfl, rfl, rfl, rfl, rfl, rfl⟩ := sm6E hf
      exact hret _ _ rfl dX11_iced_18

def fX11_icedN   (x0 : Nat → Int32) (x16 : Nat → Int32) (x17 : Nat → Int32) (x18 : Nat → Int32) (x23 : Nat → Int32) (x24 : Nat → Int32) (x25 : Nat → Int32) (x26 : Nat → Int32)  (v1 : Int32) (x33 : Nat → Int32) (x35 : Nat → Int32) (x36 : Nat → Int32) (x37 : Nat → Int32) (x38 : Nat → Int32)  : Option (Int32 × (Nat → Int32) × (Nat → Int32) × (Nat → Int32) × (Nat → Int32) × (Nat → Int32)) := fX11_icedN_0 x0 x16 x17 x18 x23 x24 x25 x26 v1 x33 x35 x36 x37 x38

set_option maxHeartbeats 4000000 in
set_option maxRecDepth 100000 in
theorem c_X11_icedN (l : Launch) {b0 : Nat} {D : GD} {n : Nat} {κ : QT} {X0 : XT} {Y0 : YT} {Z : ZT} (hL : LY n κ) {x0 : Nat → Int32} {x16 : Nat → Int32} {x17 : Nat → Int32} {x18 : Nat → Int32} {x23 : Nat → Int32} {x24 : Nat → Int32} {x25 : Nat → Int32} {x26 : Nat → Int32} {x33 : Nat → Int32} {x35 : Nat → Int32} {x36 : Nat → Int32} {x37 : Nat → Int32} {x38 : Nat → Int32} (hri : fX11_isWithin (x16 8) 0 (x0 4 - 1) = some 0) (hx : ([0, 16, 17, 18, 23, 24, 25, 26, 33, 35, 36, 37, 38] : List Nat).map X0 = [x0, x16, x17, x18, x23, x24, x25, x26, x33, x35, x36, x37, x38]) (hy : ([] : List Nat).map Y0 = []) {v1 : Int32} {r : Int32} {rx33 : (Nat → Int32)} {rx35 : (Nat → Int32)} {rx36 : (Nat → Int32)} {rx37 : (Nat → Int32)} {rx38 : (Nat → Int32)} (hf : fX11_icedN x0 x16 x17 x18 x23 x24 x25 x26 v1 x33 x35 x36 x37 x38 = some (r, rx33, rx35, rx36, rx37, rx38)) : gMi l yX11_iced cX11_iced 3 (some FieldType.int) 6 162 0 0 b0 D [.ref (b0 + 0), .int v1] (n, κ, X0, Y0, Z) (n, κ, ov X0 [0, 16, 17, 18, 23, 24, 25, 26, 33, 35, 36, 37, 38] [x0, x16, x17, x18, x23, x24, x25, x26, rx33, rx35, rx36, rx37, rx38], ov Y0 [] [], Z) r := by
  have hN : ([0, 16, 17, 18, 23, 24, 25, 26, 33, 35, 36, 37, 38] : List Nat).Nodup := by decide
  have hM : ([] : List Nat).Nodup := by decide
  refine g_meti (own := RX11) (by decide) rfl rfl (Nat.le_of_ble_eq_true rfl) ?_
  intro K hC hret
  have e := wX11_icedN_0 hL hN hM hC hri hret hf
  rw [ov_id' hx, ov_id' hy] at e
  exact g_sub [0, 1] rfl e

-- X11_iced
def fX11_icedR_21b  (Lru : Nat) (xruz1 : Nat → Int32) (x0 : Nat → Int32) (x16 : Nat → Int32) (x17 : Nat → Int32) (x18 : Nat → Int32) (x23 : Nat → Int32) (x24 : Nat → Int32) (x25 : Nat → Int32) (x26 : Nat → Int32)  (k21 : Int32 → Int32 → (Nat → Int32) → (Nat → Int32) → (Nat → Int32) → (Nat → Int32) → (Nat → Int32) → (Nat → Int64) → (Nat → Int64) → Option (Int32 × (Nat → Int32) × (Nat → Int32) × (Nat → Int32) × (Nat → Int32) × (Nat → Int32) × (Nat → Int64) × (Nat → Int64))) (v1 : Int32) (v2 : Int32) (x33 : (Nat → Int32)) (x35 : (Nat → Int32)) (x36 : (Nat → Int32)) (x37 : (Nat → Int32)) (x38 : (Nat → Int32)) (yruz2 : (Nat → Int64)) (y34 : (Nat → Int64)) : Option (Int32 × (Nat → Int32) × (Nat → Int32) × (Nat → Int32) × (Nat → Int32) × (Nat → Int32) × (Nat → Int64) × (Nat → Int64)) := if 9 < v2 then (some ((-2), x33, x35, x36, x37, x38, yruz2, y34)) else (bd4 (fX7_copy x23 x24 x25 x26 x35 x36 x37 x38) fun x35_1 x36_2 x37_3 x38_4 => (bd7 (fX1_passAllR Lru xruz1 x17 x18 v1 (upd x35_1 2 v2) x36_2 x37_3 x38_4 x33 yruz2 y34) fun x35_6 x36_7 x37_8 x38_9 x33_10 yruz2_11 y34_12 => (bd1 (fX9_riverBits x36_7 x17) fun r_14 => (bd1 (fX9_riverBits x24 x17) fun r_16 => (if r_14 = r_16 then (some (v2, x33_10, x35_6, x36_7, x37_8, x38_9, yruz2_11, y34_12)) else (bn (v2 + 1) fun t_18 => (k21 v1 t_18 x33_10 x35_6 x36_7 x37_8 x38_9 yruz2_11 y34_12)))))))
def fX11_icedR_21  (Lru : Nat) (xruz1 : Nat → Int32) (x0 : Nat → Int32) (x16 : Nat → Int32) (x17 : Nat → Int32) (x18 : Nat → Int32) (x23 : Nat → Int32) (x24 : Nat → Int32) (x25 : Nat → Int32) (x26 : Nat → Int32)  : Int32 → Int32 → (Nat → Int32) → (Nat → Int32) → (Nat → Int32) → (Nat → Int32) → (Nat → Int32) → (Nat → Int64) → (Nat → Int64) → Option (Int32 × (Nat → Int32) × (Nat → Int32) × (Nat → Int32) × (Nat → Int32) × (Nat → Int32) × (Nat → Int64) × (Nat → Int64)) := lq9 (fX11_icedR_21b Lru xruz1 x0 x16 x17 x18 x23 x24 x25 x26 ) 5000
set_option maxHeartbeats 4000000 in
set_option maxRecDepth 100000 in
theorem wX11_icedR_21 {l : Launch} {b0 : Nat} {D : GD} {K : KT} {n : Nat} {κ : QT} {X0 : XT} {Y0 : YT} {Z : ZT} {ru : Nat} {Lru : Nat} (hL : LY n κ) (hk_ru : κ ru = (4, 0)) (hn_ru : ru < n) (hk_ru_1 : κ (ru + 1) = (14, Lru)) (hN : ([ru + 1, 0, 16, 17, 18, 23, 24, 25, 26, 33, 35, 36, 37, 38] : List Nat).Nodup) (hM : ([ru + 2, 34] : List Nat).Nodup) (hC : gC l b0 D K RX11 cX11_iced (some FieldType.int) 3 6 162 0 0) {xruz1 : Nat → Int32} {x0 : Nat → Int32} {x16 : Nat → Int32} {x17 : Nat → Int32} {x18 : Nat → Int32} {x23 : Nat → Int32} {x24 : Nat → Int32} {x25 : Nat → Int32} {x26 : Nat → Int32} (hri : fX11_isWithin (x16 8) 0 (x0 4 - 1) = some 1 ∧ inb (x16 8) 6 = true ∧ Z 15 (x16 8).toNatClampNeg = some ru) {r : Int32} {rx33 : (Nat → Int32)} {rx35 : (Nat → Int32)} {rx36 : (Nat → Int32)} {rx37 : (Nat → Int32)} {rx38 : (Nat → Int32)} {ryruz2 : (Nat → Int64)} {ry34 : (Nat → Int64)} (hret : ∀ pc loc, narrow .int (.int r) = .int r → decode cX11_iced pc = .ok (.ireturn, 1) → gV l b0 D K (n, κ, ov X0 [ru + 1, 0, 16, 17, 18, 23, 24, 25, 26, 33, 35, 36, 37, 38] [xruz1, x0, x16, x17, x18, x23, x24, x25, x26, rx33, rx35, rx36, rx37, rx38], ov Y0 [ru + 2, 34] [ryruz2, ry34], Z, 0, 0) pc loc [.int r]) : ∀ (j : Nat) (v1 : Int32) (v2 : Int32) (x33 : (Nat → Int32)) (x35 : (Nat → Int32)) (x36 : (Nat → Int32)) (x37 : (Nat → Int32)) (x38 : (Nat → Int32)) (yruz2 : (Nat → Int64)) (y34 : (Nat → Int64)), lq9 (fX11_icedR_21b Lru xruz1 x0 x16 x17 x18 x23 x24 x25 x26 ) j v1 v2 x33 x35 x36 x37 x38 yruz2 y34 = some (r, rx33, rx35, rx36, rx37, rx38, ryruz2, ry34) → gV l b0 D K (n, κ, ov X0 [ru + 1, 0, 16, 17, 18, 23, 24, 25, 26, 33, 35, 36, 37, 38] [xruz1, x0, x16, x17, x18, x23, x24, x25, x26, x33, x35, x36, x37, x38], ov Y0 [ru + 2, 34] [yruz2, y34], Z, 0, 0) 21 [(0, .ref (b0 + 0)), (1, .int v1), (2, .int v2)] [] := by
  intro j
  induction j with
  | zero => intro v1 v2 x33 x35 x36 x37 x38 yruz2 y34 hf; cases hf
  | succ j hk21 =>
    intro v1 v2 x33 x35 x36 x37 x38 yruz2 y34 hf
    replace hf : fX11_icedR_21b Lru xruz1 x0 x16 x17 x18 x23 x24 x25 x26  (lq9 (fX11_icedR_21b Lru xruz1 x0 x16 x17 x18 x23 x24 x25 x26 ) j) v1 v2 x33 x35 x36 x37 x38 yruz2 y34 = some (r, rx33, rx35, rx36, rx37, rx38, ryruz2, ry34) := hf
    unfold fX11_icedR_21b at hf
    refine g_iload_n hC 2 dX11_iced_21 rfl rfl ?_
    refine g_bipush hC (v := 9) dX11_iced_22 bp_9 ?_
    refine g_icmp_gt hC 107 dX11_iced_24 (by decide) (fun hc => ?_) (fun hc => ?_)
    · replace hf := ifT hf hc
      refine g_bipush hC (v := (-2)) dX11_iced_107 bp_m2 ?_
      obtain ⟨rfl, rfl, rfl, rfl, rfl, rfl, rfl, rfl⟩ := sm8E hf
      exact hret _ _ rfl dX11_iced_109
    · replace hf := ifF hf hc
      refine g_aload_n hC 0 dX11_iced_27 rfl rfl ?_
      refine gt_X11_65 hC (a := 0) (kk_0 hL) (kn_0 hL) dX11_iced_28 ?_
      refine g_ref (b := 35) rfl ?_
      refine g_aload_n hC 0 dX11_iced_31 rfl rfl ?_
      refine gt_X11_41 hC (a := 0) (kk_0 hL) (kn_0 hL) dX11_iced_32 ?_
      refine g_ref (b := 16) rfl ?_
      refine gt_X11_140 hC (a := 16) (kk_16 hL) (kn_16 hL) dX11_iced_35 ?_
      refine g_ref (b := 23) rfl ?_
      obtain ⟨x35_1, x36_2, x37_3, x38_4, q_5, hf⟩ := bd4E hf
      refine g_callV_v (a := 35) hC (X' := ov X0 [ru + 1, 0, 16, 17, 18, 23, 24, 25, 26, 33, 35, 36, 37, 38] [xruz1, x0, x16, x17, x18, x23, x24, x25, x26, x33, x35_1, x36_2, x37_3, x38_4]) (Y' := ov Y0 [ru + 2, 34] [yruz2, y34]) (As := [.ref (b0 + 23)]) (gMv_eq (c_X7_copy l hL (kk_35 hL) (kn_35 hL) (kk_23 hL) (kn_23 hL) (nd_sub hN [10, 11, 12, 13, 5, 6, 7, 8] (by decide) (by rfl)) (nd_sub hM [] (by decide) (by rfl)) (ov_map hN [10, 11, 12, 13, 5, 6, 7, 8] (by rfl) (by rfl)) (ov_map hM [] (by rfl) (by rfl)) q_5) (ov_ovE hN (by rfl) [10, 11, 12, 13, 5, 6, 7, 8] [0, 1, 2, 3, 4, 9] (by rfl) (by rfl) [xruz1, x0, x16, x17, x18, x33] (by rfl) (by rfl) (by rfl) 14 (by rfl) (by decide)) (ov_ovE hM (by rfl) [] [0, 1] (by rfl) (by rfl) [yruz2, y34] (by rfl) (by rfl) (by rfl) 2 (by rfl) (by decide))) tw_707 tw_976 tw_120 tw_705 tw_706 (ci := 7) rfl (by decide) (kk_35 hL) (kn_35 hL) pd_X7_copy (by decide) (by decide) rfl rfl (Nat.le_of_ble_eq_true rfl) rfl dX11_iced_38 ?_
      refine g_aload_n hC 0 dX11_iced_41 rfl rfl ?_
      refine gt_X11_65 hC (a := 0) (kk_0 hL) (kn_0 hL) dX11_iced_42 ?_
      refine g_ref (b := 35) rfl ?_
      refine g_iload_n hC 2 dX11_iced_45 rfl rfl ?_
      refine pt_X11_205 hC (x := x35_1) (kk_35 hL) (kn_35 hL) (ov_get hN 10 rfl rfl) (ov_set hN (by rfl) 10 (by rfl)) dX11_iced_46 ?_
      show gV l b0 D K (n, κ, ov X0 [ru + 1, 0, 16, 17, 18, 23, 24, 25, 26, 33, 35, 36, 37, 38] [xruz1, x0, x16, x17, x18, x23, x24, x25, x26, x33, (upd x35_1 2 v2), x36_2, x37_3, x38_4], ov Y0 [ru + 2, 34] [yruz2, y34], Z, 0, 0) 49 [(0, .ref (b0 + 0)), (1, .int v1), (2, .int v2)] []
      refine g_aload_n hC 0 dX11_iced_49 rfl rfl ?_
      refine gt_X11_58 hC (a := 0) (kk_0 hL) (kn_0 hL) dX11_iced_50 ?_
      refine g_ref (b := 32) rfl ?_
      refine g_aload_n hC 0 dX11_iced_53 rfl rfl ?_
      refine gt_X11_65 hC (a := 0) (kk_0 hL) (kn_0 hL) dX11_iced_54 ?_
      refine g_ref (b := 35) rfl ?_
      refine g_aload_n hC 0 dX11_iced_57 rfl rfl ?_
      refine g_callV_q (a := 0) hC (As := []) (c_rifR l hL (ov_get hN 1 rfl rfl) (ov_get hN 2 rfl rfl) hri) tw_869 tw_866 tw_116 tw_868 tw_28 (ci := 11) rfl (by decide) (kk_0 hL) (kn_0 hL) pd_X11_ruleInForce (by decide) (by decide) rfl rfl (Nat.le_of_ble_eq_true rfl) rfl dX11_iced_58 ?_
      refine g_iload_n hC 1 dX11_iced_61 rfl rfl ?_
      obtain ⟨x35_6, x36_7, x37_8, x38_9, x33_10, yruz2_11, y34_12, q_13, hf⟩ := bd7E hf
      refine g_callV_v (a := 32) hC (X' := ov X0 [ru + 1, 0, 16, 17, 18, 23, 24, 25, 26, 33, 35, 36, 37, 38] [xruz1, x0, x16, x17, x18, x23, x24, x25, x26, x33_10, x35_6, x36_7, x37_8, x38_9]) (Y' := ov Y0 [ru + 2, 34] [yruz2_11, y34_12]) (As := [.ref (b0 + 35), .ref (b0 + ru), .int v1]) (gMv_eq (c_X1_passAllR l hL (kk_35 hL) (kn_35 hL) hk_ru hn_ru hk_ru_1 (nd_sub hN [10, 11, 12, 13, 0, 3, 4, 9] (by decide) (by rfl)) (nd_sub hM [0, 1] (by decide) (by rfl)) (ov_map hN [10, 11, 12, 13, 0, 3, 4, 9] (by rfl) (by rfl)) (ov_map hM [0, 1] (by rfl) (by rfl)) q_13) (ov_ovE hN (by rfl) [10, 11, 12, 13, 0, 3, 4, 9] [1, 2, 5, 6, 7, 8] (by rfl) (by rfl) [x0, x16, x23, x24, x25, x26] (by rfl) (by rfl) (by rfl) 14 (by rfl) (by decide)) (ov_ovE hM (by rfl) [0, 1] [] (by rfl) (by rfl) [] (by rfl) (by rfl) (by rfl) 2 (by rfl) (by decide))) tw_980 tw_977 tw_123 tw_978 tw_979 (ci := 1) rfl (by decide) (kk_32 hL) (kn_32 hL) pd_X1_passAll (by decide) (by decide) rfl rfl (Nat.le_of_ble_eq_true rfl) rfl dX11_iced_62 ?_
      refine g_aload_n hC 0 dX11_iced_65 rfl rfl ?_
      refine gt_X11_41 hC (a := 0) (kk_0 hL) (kn_0 hL) dX11_iced_66 ?_
      refine g_ref (b := 16) rfl ?_
      refine gt_X11_51 hC (a := 16) (kk_16 hL) (kn_16 hL) dX11_iced_69 ?_
      refine g_ref (b := 17) rfl ?_
      refine g_aload_n hC 0 dX11_iced_72 rfl rfl ?_
      refine gt_X11_65 hC (a := 0) (kk_0 hL) (kn_0 hL) dX11_iced_73 ?_
      refine g_ref (b := 35) rfl ?_
      obtain ⟨r_14, q_15, hf⟩ := bd1E hf
      refine g_callV_i (a := 17) hC (X' := ov X0 [ru + 1, 0, 16, 17, 18, 23, 24, 25, 26, 33, 35, 36, 37, 38] [xruz1, x0, x16, x17, x18, x23, x24, x25, x26, x33_10, x35_6, x36_7, x37_8, x38_9]) (Y' := ov Y0 [ru + 2, 34] [yruz2_11, y34_12]) (As := [.ref (b0 + 35)]) (gMi_eq (c_X9_riverBits l hL (kk_35 hL) (kn_35 hL) (nd_sub hN [11, 3] (by decide) (by rfl)) (nd_sub hM [] (by decide) (by rfl)) (ov_map hN [11, 3] (by rfl) (by rfl)) (ov_map hM [] (by rfl) (by rfl)) q_15) (ov_ovE hN (by rfl) [11, 3] [0, 1, 2, 4, 5, 6, 7, 8, 9, 10, 12, 13] (by rfl) (by rfl) [xruz1, x0, x16, x18, x23, x24, x25, x26, x33_10, x35_6, x37_8, x38_9] (by rfl) (by rfl) (by rfl) 14 (by rfl) (by decide)) (ov_ovE hM (by rfl) [] [0, 1] (by rfl) (by rfl) [yruz2_11, y34_12] (by rfl) (by rfl) (by rfl) 2 (by rfl) (by decide))) tw_918 tw_983 tw_119 tw_916 tw_917 (ci := 9) rfl (by decide) (kk_17 hL) (kn_17 hL) pd_X9_riverBits (by decide) (by decide) rfl rfl (Nat.le_of_ble_eq_true rfl) rfl dX11_iced_76 ?_
      refine g_aload_n hC 0 dX11_iced_79 rfl rfl ?_
      refine gt_X11_41 hC (a := 0) (kk_0 hL) (kn_0 hL) dX11_iced_80 ?_
      refine g_ref (b := 16) rfl ?_
      refine gt_X11_51 hC (a := 16) (kk_16 hL) (kn_16 hL) dX11_iced_83 ?_
      refine g_ref (b := 17) rfl ?_
      refine g_aload_n hC 0 dX11_iced_86 rfl rfl ?_
      refine gt_X11_41 hC (a := 0) (kk_0 hL) (kn_0 hL) dX11_iced_87 ?_
      refine g_ref (b := 16) rfl ?_
      refine gt_X11_140 hC (a := 16) (kk_16 hL) (kn_16 hL) dX11_iced_90 ?_
      refine g_ref (b := 23) rfl ?_
      obtain ⟨r_16, q_17, hf⟩ := bd1E hf
      refine g_callV_i (a := 17) hC (X' := ov X0 [ru + 1, 0, 16, 17, 18, 23, 24, 25, 26, 33, 35, 36, 37, 38] [xruz1, x0, x16, x17, x18, x23, x24, x25, x26, x33_10, x35_6, x36_7, x37_8, x38_9]) (Y' := ov Y0 [ru + 2, 34] [yruz2_11, y34_12]) (As := [.ref (b0 + 23)]) (gMi_eq (c_X9_riverBits l hL (kk_23 hL) (kn_23 hL) (nd_sub hN [6, 3] (by decide) (by rfl)) (nd_sub hM [] (by decide) (by rfl)) (ov_map hN [6, 3] (by rfl) (by rfl)) (ov_map hM [] (by rfl) (by rfl)) q_17) (ov_ovE hN (by rfl) [6, 3] [0, 1, 2, 4, 5, 7, 8, 9, 10, 11, 12, 13] (by rfl) (by rfl) [xruz1, x0, x16, x18, x23, x25, x26, x33_10, x35_6, x36_7, x37_8, x38_9] (by rfl) (by rfl) (by rfl) 14 (by rfl) (by decide)) (ov_ovE hM (by rfl) [] [0, 1] (by rfl) (by rfl) [yruz2_11, y34_12] (by rfl) (by rfl) (by rfl) 2 (by rfl) (by decide))) tw_918 tw_983 tw_119 tw_916 tw_917 (ci := 9) rfl (by decide) (kk_17 hL) (kn_17 hL) pd_X9_riverBits (by decide) (by decide) rfl rfl (Nat.le_of_ble_eq_true rfl) rfl dX11_iced_93 ?_
      refine g_icmp_ne hC 101 dX11_iced_96 (by decide) (fun hc => ?_) (fun hc => ?_)
      · replace hf := ifF hf hc
        obtain ⟨t_18, et_18, hf⟩ := bnE hf
        refine g_iinc hC (i := 2) (v := t_18) [(2, .int t_18), (0, .ref (b0 + 0)), (1, .int v1)] dX11_iced_101 (q := 2) rfl ((congrArg (HAdd.hAdd v2) ic_1).trans et_18.symm) (by decide) rfl ?_
        refine g_goto hC 21 dX11_iced_104 (by decide) ?_
        exact g_sub [1, 2, 0] rfl (hk21 v1 t_18 x33_10 x35_6 x36_7 x37_8 x38_9 yruz2_11 y34_12 hf)
      · replace hf := ifT hf hc
        refine g_iload_n hC 2 dX11_iced_99 rfl rfl ?_
        obtain ⟨rfl, rfl, rfl, rfl, rfl, rfl, rfl, rfl⟩ := sm8E hf
        exact hret _ _ rfl dX11_iced_100

def fX11_icedR_0  (Lru : Nat) (xruz1 : Nat → Int32) (x0 : Nat → Int32) (x16 : Nat → Int32) (x17 : Nat → Int32) (x18 : Nat → Int32) (x23 : Nat → Int32) (x24 : Nat → Int32) (x25 : Nat → Int32) (x26 : Nat → Int32)  (v1 : Int32) (x33 : (Nat → Int32)) (x35 : (Nat → Int32)) (x36 : (Nat → Int32)) (x37 : (Nat → Int32)) (x38 : (Nat → Int32)) (yruz2 : (Nat → Int64)) (y34 : (Nat → Int64)) : Option (Int32 × (Nat → Int32) × (Nat → Int32) × (Nat → Int32) × (Nat → Int32) × (Nat → Int32) × (Nat → Int64) × (Nat → Int64)) := bd1 (fX11_isTold x17) fun r_1 => (if r_1 = 0 then (some ((-1), x33, x35, x36, x37, x38, yruz2, y34)) else (bd1 (fX11_isWithin v1 1 60) fun r_3 => (if r_3 = 0 then (some ((-1), x33, x35, x36, x37, x38, yruz2, y34)) else (fX11_icedR_21 Lru xruz1 x0 x16 x17 x18 x23 x24 x25 x26  v1 0 x33 x35 x36 x37 x38 yruz2 y34))))
set_option maxHeartbeats 4000000 in
set_option maxRecDepth 100000 in
theorem wX11_icedR_0 {l : Launch} {b0 : Nat} {D : GD} {K : KT} {n : Nat} {κ : QT} {X0 : XT} {Y0 : YT} {Z : ZT} {ru : Nat} {Lru : Nat} (hL : LY n κ) (hk_ru : κ ru = (4, 0)) (hn_ru : ru < n) (hk_ru_1 : κ (ru + 1) = (14, Lru)) (hN : ([ru + 1, 0, 16, 17, 18, 23, 24, 25, 26, 33, 35, 36, 37, 38] : List Nat).Nodup) (hM : ([ru + 2, 34] : List Nat).Nodup) (hC : gC l b0 D K RX11 cX11_iced (some FieldType.int) 3 6 162 0 0) {xruz1 : Nat → Int32} {x0 : Nat → Int32} {x16 : Nat → Int32} {x17 : Nat → Int32} {x18 : Nat → Int32} {x23 : Nat → Int32} {x24 : Nat → Int32} {x25 : Nat → Int32} {x26 : Nat → Int32} (hri : fX11_isWithin (x16 8) 0 (x0 4 - 1) = some 1 ∧ inb (x16 8) 6 = true ∧ Z 15 (x16 8).toNatClampNeg = some ru) {r : Int32} {rx33 : (Nat → Int32)} {rx35 : (Nat → Int32)} {rx36 : (Nat → Int32)} {rx37 : (Nat → Int32)} {rx38 : (Nat → Int32)} {ryruz2 : (Nat → Int64)} {ry34 : (Nat → Int64)} (hret : ∀ pc loc, narrow .int (.int r) = .int r → decode cX11_iced pc = .ok (.ireturn, 1) → gV l b0 D K (n, κ, ov X0 [ru + 1, 0, 16, 17, 18, 23, 24, 25, 26, 33, 35, 36, 37, 38] [xruz1, x0, x16, x17, x18, x23, x24, x25, x26, rx33, rx35, rx36, rx37, rx38], ov Y0 [ru + 2, 34] [ryruz2, ry34], Z, 0, 0) pc loc [.int r]) {v1 : Int32} {x33 : (Nat → Int32)} {x35 : (Nat → Int32)} {x36 : (Nat → Int32)} {x37 : (Nat → Int32)} {x38 : (Nat → Int32)} {yruz2 : (Nat → Int64)} {y34 : (Nat → Int64)} (hf : fX11_icedR_0 Lru xruz1 x0 x16 x17 x18 x23 x24 x25 x26  v1 x33 x35 x36 x37 x38 yruz2 y34 = some (r, rx33, rx35, rx36, rx37, rx38, ryruz2, ry34)) : gV l b0 D K (n, κ, ov X0 [ru + 1, 0, 16, 17, 18, 23, 24, 25, 26, 33, 35, 36, 37, 38] [xruz1, x0, x16, x17, x18, x23, x24, x25, x26, x33, x35, x36, x37, x38], ov Y0 [ru + 2, 34] [yruz2, y34], Z, 0, 0) 0 [(0, .ref (b0 + 0)), (1, .int v1)] [] := by
  unfold fX11_icedR_0 at hf
  refine g_aload_n hC 0 dX11_iced_0 rfl rfl ?_
  obtain ⟨r_1, q_2, hf⟩ := bd1E hf
  refine g_callV_i (a := 0) hC (X' := ov X0 [ru + 1, 0, 16, 17, 18, 23, 24, 25, 26, 33, 35, 36, 37, 38] [xruz1, x0, x16, x17, x18, x23, x24, x25, x26, x33, x35, x36, x37, x38]) (Y' := ov Y0 [ru + 2, 34] [yruz2, y34]) (As := []) (gMi_eq (c_X11_isTold l hL (ov_map hN [3] (by rfl) (by rfl)) (ov_map hM [] (by rfl) (by rfl)) q_2) (ov_ovE hN (by rfl) [3] [0, 1, 2, 4, 5, 6, 7, 8, 9, 10, 11, 12, 13] (by rfl) (by rfl) [xruz1, x0, x16, x18, x23, x24, x25, x26, x33, x35, x36, x37, x38] (by rfl) (by rfl) (by rfl) 14 (by rfl) (by decide)) (ov_ovE hM (by rfl) [] [0, 1] (by rfl) (by rfl) [yruz2, y34] (by rfl) (by rfl) (by rfl) 2 (by rfl) (by decide))) tw_853 tw_850 tw_116 tw_852 tw_25 (ci := 11) rfl (by decide) (kk_0 hL) (kn_0 hL) pd_X11_isTold (by decide) (by decide) rfl rfl (Nat.le_of_ble_eq_true rfl) rfl dX11_iced_1 ?_
  refine g_if_eq hC 17 dX11_iced_4 (by decide) (fun hc => ?_) (fun hc => ?_)
  · replace hf := ifT hf hc
    refine g_iconst hC (v := (-1)) dX11_iced_17 ic_m1 ?_
    obtain ⟨rfl, rfl, rfl, rfl, rfl, rfl, rfl, rfl⟩ := sm8E hf
    exact hret _ _ rfl dX11_iced_18
  · replace hf := ifF hf hc
    refine g_iload_n hC 1 dX11_iced_7 rfl rfl ?_
    refine g_iconst hC (v := 1) dX11_iced_8 ic_1 ?_
    refine g_bipush hC (v := 60) dX11_iced_9 bp_60 ?_
    obtain ⟨r_3, q_4, hf⟩ := bd1E hf
    refine g_callS_i hC (X' := ov X0 [ru + 1, 0, 16, 17, 18, 23, 24, 25, 26, 33, 35, 36, 37, 38] [xruz1, x0, x16, x17, x18, x23, x24, x25, x26, x33, x35, x36, x37, x38]) (Y' := ov Y0 [ru + 2, 34] [yruz2, y34]) (As := [.int v1, .int 1, .int 60]) (gMi_eq (c_X11_isWithin l hL (ov_map hN [] (by rfl) (by rfl)) (ov_map hM [] (by rfl) (by rfl)) q_4) (ov_ovE hN (by rfl) [] [0, 1, 2, 3, 4, 5, 6, 7, 8, 9, 10, 11, 12, 13] (by rfl) (by rfl) [xruz1, x0, x16, x17, x18, x23, x24, x25, x26, x33, x35, x36, x37, x38] (by rfl) (by rfl) (by rfl) 14 (by rfl) (by decide)) (ov_ovE hM (by rfl) [] [0, 1] (by rfl) (by rfl) [yruz2, y34] (by rfl) (by rfl) (by rfl) 2 (by rfl) (by decide))) tw_666 tw_870 tw_116 tw_665 pd_X11_isWithin (by decide) (by decide) rfl rfl (Nat.le_of_ble_eq_true rfl) rfl dX11_iced_11 ?_
    refine g_if_ne hC 19 dX11_iced_14 (by decide) (fun hc => ?_) (fun hc => ?_)
    · replace hf := ifF hf hc
      refine g_iconst hC (v := 0) dX11_iced_19 ic_0 ?_
      refine g_istore_n hC (i := 2) [(2, .int 0), (0, .ref (b0 + 0)), (1, .int v1)] rfl dX11_iced_20 (by decide) rfl ?_
      exact g_sub [1, 2, 0] rfl (wX11_icedR_21 hL hk_ru hn_ru hk_ru_1 hN hM hC hri hret  5000 v1 0 x33 x35 x36 x37 x38 yruz2 y34 hf)
    · replace hf := ifT hf hc
      refine g_iconst hC (v := (-1)) dX11_iced_17 ic_m1 ?_
      obtain ⟨rfl, rfl, rfl, rfl, rfl, rfl, rfl, rfl⟩ := sm8E hf
      exact hret _ _ rfl dX11_iced_18

def fX11_icedR  (Lru : Nat) (xruz1 : Nat → Int32) (x0 : Nat → Int32) (x16 : Nat → Int32) (x17 : Nat → Int32) (x18 : Nat → Int32) (x23 : Nat → Int32) (x24 : Nat → Int32) (x25 : Nat → Int32) (x26 : Nat → Int32)  (v1 : Int32) (x33 : Nat → Int32) (x35 : Nat → Int32) (x36 : Nat → Int32) (x37 : Nat → Int32) (x38 : Nat → Int32) (yruz2 : Nat → Int64) (y34 : Nat → Int64) : Option (Int32 × (Nat → Int32) × (Nat → Int32) × (Nat → Int32) × (Nat → Int32) × (Nat → Int32) × (Nat → Int64) × (Nat → Int64)) := fX11_icedR_0 Lru xruz1 x0 x16 x17 x18 x23 x24 x25 x26 v1 x33 x35 x36 x37 x38 yruz2 y34

set_option maxHeartbeats 4000000 in
set_option maxRecDepth 100000 in
theorem c_X11_icedR (l : Launch) {b0 : Nat} {D : GD} {n : Nat} {κ : QT} {X0 : XT} {Y0 : YT} {Z : ZT} {ru : Nat} {Lru : Nat} (hL : LY n κ) (hk_ru : κ ru = (4, 0)) (hn_ru : ru < n) (hk_ru_1 : κ (ru + 1) = (14, Lru)) (hN : ([ru + 1, 0, 16, 17, 18, 23, 24, 25, 26, 33, 35, 36, 37, 38] : List Nat).Nodup) (hM : ([ru + 2, 34] : List Nat).Nodup) {xruz1 : Nat → Int32} {x0 : Nat → Int32} {x16 : Nat → Int32} {x17 : Nat → Int32} {x18 : Nat → Int32} {x23 : Nat → Int32} {x24 : Nat → Int32} {x25 : Nat → Int32} {x26 : Nat → Int32} {x33 : Nat → Int32} {x35 : Nat → Int32} {x36 : Nat → Int32} {x37 : Nat → Int32} {x38 : Nat → Int32} {yruz2 : Nat → Int64} {y34 : Nat → Int64} (hri : fX11_isWithin (x16 8) 0 (x0 4 - 1) = some 1 ∧ inb (x16 8) 6 = true ∧ Z 15 (x16 8).toNatClampNeg = some ru) (hx : ([ru + 1, 0, 16, 17, 18, 23, 24, 25, 26, 33, 35, 36, 37, 38] : List Nat).map X0 = [xruz1, x0, x16, x17, x18, x23, x24, x25, x26, x33, x35, x36, x37, x38]) (hy : ([ru + 2, 34] : List Nat).map Y0 = [yruz2, y34]) {v1 : Int32} {r : Int32} {rx33 : (Nat → Int32)} {rx35 : (Nat → Int32)} {rx36 : (Nat → Int32)} {rx37 : (Nat → Int32)} {rx38 : (Nat → Int32)} {ryruz2 : (Nat → Int64)} {ry34 : (Nat → Int64)} (hf : fX11_icedR Lru xruz1 x0 x16 x17 x18 x23 x24 x25 x26 v1 x33 x35 x36 x37 x38 yruz2 y34 = some (r, rx33, rx35, rx36, rx37, rx38, ryruz2, ry34)) : gMi l yX11_iced cX11_iced 3 (some FieldType.int) 6 162 0 0 b0 D [.ref (b0 + 0), .int v1] (n, κ, X0, Y0, Z) (n, κ, ov X0 [ru + 1, 0, 16, 17, 18, 23, 24, 25, 26, 33, 35, 36, 37, 38] [xruz1, x0, x16, x17, x18, x23, x24, x25, x26, rx33, rx35, rx36, rx37, rx38], ov Y0 [ru + 2, 34] [ryruz2, ry34], Z) r := by
  refine g_meti (own := RX11) (by decide) rfl rfl (Nat.le_of_ble_eq_true rfl) ?_
  intro K hC hret
  have e := wX11_icedR_0 hL hk_ru hn_ru hk_ru_1 hN hM hC hri hret hf
  rw [ov_id' hx, ov_id' hy] at e
  exact g_sub [0, 1] rfl e

-- X11_stood
def fX11_stoodN_156   (x0 : Nat → Int32) (x16 : Nat → Int32) (x17 : Nat → Int32) (x18 : Nat → Int32) (x23 : Nat → Int32) (x24 : Nat → Int32) (x25 : Nat → Int32) (x26 : Nat → Int32)  (v4 : Int32) (v5 : Int32) (v6 : Int32) (x33 : (Nat → Int32)) (x35 : (Nat → Int32)) (x36 : (Nat → Int32)) (x37 : (Nat → Int32)) (x38 : (Nat → Int32)) : Option (Int32 × (Nat → Int32) × (Nat → Int32) × (Nat → Int32) × (Nat → Int32) × (Nat → Int32)) := if v4 = 0 then (some (v5, x33, x35, x36, x37, x38)) else (some (v6, x33, x35, x36, x37, x38))
set_option maxHeartbeats 4000000 in
set_option maxRecDepth 100000 in
theorem wX11_stoodN_156 {l : Launch} {b0 : Nat} {D : GD} {K : KT} {n : Nat} {κ : QT} {X0 : XT} {Y0 : YT} {Z : ZT} (hL : LY n κ) (hN : ([0, 16, 17, 18, 23, 24, 25, 26, 33, 35, 36, 37, 38] : List Nat).Nodup) (hM : ([] : List Nat).Nodup) (hC : gC l b0 D K RX11 cX11_stood (some FieldType.int) 8 6 162 0 0) {x0 : Nat → Int32} {x16 : Nat → Int32} {x17 : Nat → Int32} {x18 : Nat → Int32} {x23 : Nat → Int32} {x24 : Nat → Int32} {x25 : Nat → Int32} {x26 : Nat → Int32} (hri : fX11_isWithin (x16 8) 0 (x0 4 - 1) = some 0) {r : Int32} {rx33 : (Nat → Int32)} {rx35 : (Nat → Int32)} {rx36 : (Nat → Int32)} {rx37 : (Nat → Int32)} {rx38 : (Nat → Int32)} (hret : ∀ pc loc, narrow .int (.int r) = .int r → decode cX11_stood pc = .ok (.ireturn, 1) → gV l b0 D K (n, κ, ov X0 [0, 16, 17, 18, 23, 24, 25, 26, 33, 35, 36, 37, 38] [x0, x16, x17, x18, x23, x24, x25, x26, rx33, rx35, rx36, rx37, rx38], ov Y0 [] [], Z, 0, 0) pc loc [.int r]) {v4 : Int32} {v5 : Int32} {v6 : Int32} {x33 : (Nat → Int32)} {x35 : (Nat → Int32)} {x36 : (Nat → Int32)} {x37 : (Nat → Int32)} {x38 : (Nat → Int32)} (hf : fX11_stoodN_156 x0 x16 x17 x18 x23 x24 x25 x26  v4 v5 v6 x33 x35 x36 x37 x38 = some (r, rx33, rx35, rx36, rx37, rx38)) : gV l b0 D K (n, κ, ov X0 [0, 16, 17, 18, 23, 24, 25, 26, 33, 35, 36, 37, 38] [x0, x16, x17, x18, x23, x24, x25, x26, x33, x35, x36, x37, x38], ov Y0 [] [], Z, 0, 0) 156 [(4, .int v4), (5, .int v5), (6, .int v6)] [] := by
  unfold fX11_stoodN_156 at hf
  refine g_iload hC 0 dX11_stood_156 rfl ?_
  refine g_if_ne hC 166 dX11_stood_158 (by decide) (fun hc => ?_) (fun hc => ?_)
  · replace hf := ifF hf hc
    refine g_iload hC 2 dX11_stood_166 rfl ?_
    obtain ⟨rfl, rfl, rfl, rfl, rfl, rfl⟩ := sm6E hf
    exact hret _ _ rfl dX11_stood_168
  · replace hf := ifT hf hc
    refine g_iload hC 1 dX11_stood_161 rfl ?_
    refine g_goto hC 168 dX11_stood_163 (by decide) ?_
    obtain ⟨rfl, rfl, rfl, rfl, rfl, rfl⟩ := sm6E hf
    exact hret _ _ rfl dX11_stood_168

def fX11_stoodN_150   (x0 : Nat → Int32) (x16 : Nat → Int32) (x17 : Nat → Int32) (x18 : Nat → Int32) (x23 : Nat → Int32) (x24 : Nat → Int32) (x25 : Nat → Int32) (x26 : Nat → Int32)  (k58 : Int32 → Int32 → Int32 → Int32 → Int32 → Int32 → Int32 → (Nat → Int32) → (Nat → Int32) → (Nat → Int32) → (Nat → Int32) → (Nat → Int32) → Option (Int32 × (Nat → Int32) × (Nat → Int32) × (Nat → Int32) × (Nat → Int32) × (Nat → Int32))) (v1 : Int32) (v2 : Int32) (v3 : Int32) (v4 : Int32) (v5 : Int32) (v6 : Int32) (v7 : Int32) (x33 : (Nat → Int32)) (x35 : (Nat → Int32)) (x36 : (Nat → Int32)) (x37 : (Nat → Int32)) (x38 : (Nat → Int32)) : Option (Int32 × (Nat → Int32) × (Nat → Int32) × (Nat → Int32) × (Nat → Int32) × (Nat → Int32)) := bn (v7 + 1) fun t_1 => (k58 v1 v2 v3 v4 v5 v6 t_1 x33 x35 x36 x37 x38)
set_option maxHeartbeats 4000000 in
set_option maxRecDepth 100000 in
theorem wX11_stoodN_150 {l : Launch} {b0 : Nat} {D : GD} {K : KT} {n : Nat} {κ : QT} {X0 : XT} {Y0 : YT} {Z : ZT} (hL : LY n κ) (hN : ([0, 16, 17, 18, 23, 24, 25, 26, 33, 35, 36, 37, 38] : List Nat).Nodup) (hM : ([] : List Nat).Nodup) (hC : gC l b0 D K RX11 cX11_stood (some FieldType.int) 8 6 162 0 0) {x0 : Nat → Int32} {x16 : Nat → Int32} {x17 : Nat → Int32} {x18 : Nat → Int32} {x23 : Nat → Int32} {x24 : Nat → Int32} {x25 : Nat → Int32} {x26 : Nat → Int32} (hri : fX11_isWithin (x16 8) 0 (x0 4 - 1) = some 0) {r : Int32} {rx33 : (Nat → Int32)} {rx35 : (Nat → Int32)} {rx36 : (Nat → Int32)} {rx37 : (Nat → Int32)} {rx38 : (Nat → Int32)} (hret : ∀ pc loc, narrow .int (.int r) = .int r → decode cX11_stood pc = .ok (.ireturn, 1) → gV l b0 D K (n, κ, ov X0 [0, 16, 17, 18, 23, 24, 25, 26, 33, 35, 36, 37, 38] [x0, x16, x17, x18, x23, x24, x25, x26, rx33, rx35, rx36, rx37, rx38], ov Y0 [] [], Z, 0, 0) pc loc [.int r]) {k58 : Int32 → Int32 → Int32 → Int32 → Int32 → Int32 → Int32 → (Nat → Int32) → (Nat → Int32) → (Nat → Int32) → (Nat → Int32) → (Nat → Int32) → Option (Int32 × (Nat → Int32) × (Nat → Int32) × (Nat → Int32) × (Nat → Int32) × (Nat → Int32))} (hk58 : ∀ (v1 : Int32) (v2 : Int32) (v3 : Int32) (v4 : Int32) (v5 : Int32) (v6 : Int32) (v7 : Int32) (x33 : (Nat → Int32)) (x35 : (Nat → Int32)) (x36 : (Nat → Int32)) (x37 : (Nat → Int32)) (x38 : (Nat → Int32)), k58 v1 v2 v3 v4 v5 v6 v7 x33 x35 x36 x37 x38 = some (r, rx33, rx35, rx36, rx37, rx38) → gV l b0 D K (n, κ, ov X0 [0, 16, 17, 18, 23, 24, 25, 26, 33, 35, 36, 37, 38] [x0, x16, x17, x18, x23, x24, x25, x26, x33, x35, x36, x37, x38], ov Y0 [] [], Z, 0, 0) 58 [(0, .ref (b0 + 0)), (1, .int v1), (2, .int v2), (3, .int v3), (4, .int v4), (5, .int v5), (6, .int v6), (7, .int v7)] []) {v1 : Int32} {v2 : Int32} {v3 : Int32} {v4 : Int32} {v5 : Int32} {v6 : Int32} {v7 : Int32} {x33 : (Nat → Int32)} {x35 : (Nat → Int32)} {x36 : (Nat → Int32)} {x37 : (Nat → Int32)} {x38 : (Nat → Int32)} (hf : fX11_stoodN_150 x0 x16 x17 x18 x23 x24 x25 x26 k58 v1 v2 v3 v4 v5 v6 v7 x33 x35 x36 x37 x38 = some (r, rx33, rx35, rx36, rx37, rx38)) : gV l b0 D K (n, κ, ov X0 [0, 16, 17, 18, 23, 24, 25, 26, 33, 35, 36, 37, 38] [x0, x16, x17, x18, x23, x24, x25, x26, x33, x35, x36, x37, x38], ov Y0 [] [], Z, 0, 0) 150 [(0, .ref (b0 + 0)), (1, .int v1), (2, .int v2), (3, .int v3), (4, .int v4), (5, .int v5), (6, .int v6), (7, .int v7)] [] := by
  unfold fX11_stoodN_150 at hf
  obtain ⟨t_1, et_1, hf⟩ := bnE hf
  refine g_iinc hC (i := 7) (v := t_1) [(7, .int t_1), (0, .ref (b0 + 0)), (1, .int v1), (2, .int v2), (3, .int v3), (4, .int v4), (5, .int v5), (6, .int v6)] dX11_stood_150 (q := 7) rfl ((congrArg (HAdd.hAdd v7) ic_1).trans et_1.symm) (by decide) rfl ?_
  refine g_goto hC 58 dX11_stood_153 (by decide) ?_
  exact g_sub [1, 2, 3, 4, 5, 6, 7, 0] rfl (hk58 v1 v2 v3 v4 v5 v6 t_1 x33 x35 x36 x37 x38 hf)

def fX11_stoodN_145   (x0 : Nat → Int32) (x16 : Nat → Int32) (x17 : Nat → Int32) (x18 : Nat → Int32) (x23 : Nat → Int32) (x24 : Nat → Int32) (x25 : Nat → Int32) (x26 : Nat → Int32)  (k58 : Int32 → Int32 → Int32 → Int32 → Int32 → Int32 → Int32 → (Nat → Int32) → (Nat → Int32) → (Nat → Int32) → (Nat → Int32) → (Nat → Int32) → Option (Int32 × (Nat → Int32) × (Nat → Int32) × (Nat → Int32) × (Nat → Int32) × (Nat → Int32))) (v1 : Int32) (v2 : Int32) (v3 : Int32) (v4 : Int32) (v5 : Int32) (v7 : Int32) (s0 : Int32) (x33 : (Nat → Int32)) (x35 : (Nat → Int32)) (x36 : (Nat → Int32)) (x37 : (Nat → Int32)) (x38 : (Nat → Int32)) : Option (Int32 × (Nat → Int32) × (Nat → Int32) × (Nat → Int32) × (Nat → Int32) × (Nat → Int32)) := bn (v5 + 1) fun t_1 => (fX11_stoodN_150 x0 x16 x17 x18 x23 x24 x25 x26 k58 v1 v2 v3 v4 t_1 s0 v7 x33 x35 x36 x37 x38)
set_option maxHeartbeats 4000000 in
set_option maxRecDepth 100000 in
theorem wX11_stoodN_145 {l : Launch} {b0 : Nat} {D : GD} {K : KT} {n : Nat} {κ : QT} {X0 : XT} {Y0 : YT} {Z : ZT} (hL : LY n κ) (hN : ([0, 16, 17, 18, 23, 24, 25, 26, 33, 35, 36, 37, 38] : List Nat).Nodup) (hM : ([] : List Nat).Nodup) (hC : gC l b0 D K RX11 cX11_stood (some FieldType.int) 8 6 162 0 0) {x0 : Nat → Int32} {x16 : Nat → Int32} {x17 : Nat → Int32} {x18 : Nat → Int32} {x23 : Nat → Int32} {x24 : Nat → Int32} {x25 : Nat → Int32} {x26 : Nat → Int32} (hri : fX11_isWithin (x16 8) 0 (x0 4 - 1) = some 0) {r : Int32} {rx33 : (Nat → Int32)} {rx35 : (Nat → Int32)} {rx36 : (Nat → Int32)} {rx37 : (Nat → Int32)} {rx38 : (Nat → Int32)} (hret : ∀ pc loc, narrow .int (.int r) = .int r → decode cX11_stood pc = .ok (.ireturn, 1) → gV l b0 D K (n, κ, ov X0 [0, 16, 17, 18, 23, 24, 25, 26, 33, 35, 36, 37, 38] [x0, x16, x17, x18, x23, x24, x25, x26, rx33, rx35, rx36, rx37, rx38], ov Y0 [] [], Z, 0, 0) pc loc [.int r]) {k58 : Int32 → Int32 → Int32 → Int32 → Int32 → Int32 → Int32 → (Nat → Int32) → (Nat → Int32) → (Nat → Int32) → (Nat → Int32) → (Nat → Int32) → Option (Int32 × (Nat → Int32) × (Nat → Int32) × (Nat → Int32) × (Nat → Int32) × (Nat → Int32))} (hk58 : ∀ (v1 : Int32) (v2 : Int32) (v3 : Int32) (v4 : Int32) (v5 : Int32) (v6 : Int32) (v7 : Int32) (x33 : (Nat → Int32)) (x35 : (Nat → Int32)) (x36 : (Nat → Int32)) (x37 : (Nat → Int32)) (x38 : (Nat → Int32)), k58 v1 v2 v3 v4 v5 v6 v7 x33 x35 x36 x37 x38 = some (r, rx33, rx35, rx36, rx37, rx38) → gV l b0 D K (n, κ, ov X0 [0, 16, 17, 18, 23, 24, 25, 26, 33, 35, 36, 37, 38] [x0, x16, x17, x18, x23, x24, x25, x26, x33, x35, x36, x37, x38], ov Y0 [] [], Z, 0, 0) 58 [(0, .ref (b0 + 0)), (1, .int v1), (2, .int v2), (3, .int v3), (4, .int v4), (5, .int v5), (6, .int v6), (7, .int v7)] []) {v1 : Int32} {v2 : Int32} {v3 : Int32} {v4 : Int32} {v5 : Int32} {v7 : Int32} {s0 : Int32} {x33 : (Nat → Int32)} {x35 : (Nat → Int32)} {x36 : (Nat → Int32)} {x37 : (Nat → Int32)} {x38 : (Nat → Int32)} (hf : fX11_stoodN_145 x0 x16 x17 x18 x23 x24 x25 x26 k58 v1 v2 v3 v4 v5 v7 s0 x33 x35 x36 x37 x38 = some (r, rx33, rx35, rx36, rx37, rx38)) : gV l b0 D K (n, κ, ov X0 [0, 16, 17, 18, 23, 24, 25, 26, 33, 35, 36, 37, 38] [x0, x16, x17, x18, x23, x24, x25, x26, x33, x35, x36, x37, x38], ov Y0 [] [], Z, 0, 0) 145 [(0, .ref (b0 + 0)), (1, .int v1), (2, .int v2), (3, .int v3), (4, .int v4), (5, .int v5), (7, .int v7)] [.int s0] := by
  unfold fX11_stoodN_145 at hf
  refine g_istore hC (i := 6) [(6, .int s0), (0, .ref (b0 + 0)), (1, .int v1), (2, .int v2), (3, .int v3), (4, .int v4), (5, .int v5), (7, .int v7)] dX11_stood_145 (by decide) rfl ?_
  obtain ⟨t_1, et_1, hf⟩ := bnE hf
  refine g_iinc hC (i := 5) (v := t_1) [(5, .int t_1), (6, .int s0), (0, .ref (b0 + 0)), (1, .int v1), (2, .int v2), (3, .int v3), (4, .int v4), (7, .int v7)] dX11_stood_147 (q := 6) rfl ((congrArg (HAdd.hAdd v5) ic_1).trans et_1.symm) (by decide) rfl ?_
  exact g_sub [2, 3, 4, 5, 6, 0, 1, 7] rfl (wX11_stoodN_150 hL hN hM hC hri hret hk58 hf)

def fX11_stoodN_58b   (x0 : Nat → Int32) (x16 : Nat → Int32) (x17 : Nat → Int32) (x18 : Nat → Int32) (x23 : Nat → Int32) (x24 : Nat → Int32) (x25 : Nat → Int32) (x26 : Nat → Int32)  (k58 : Int32 → Int32 → Int32 → Int32 → Int32 → Int32 → Int32 → (Nat → Int32) → (Nat → Int32) → (Nat → Int32) → (Nat → Int32) → (Nat → Int32) → Option (Int32 × (Nat → Int32) × (Nat → Int32) × (Nat → Int32) × (Nat → Int32) × (Nat → Int32))) (v1 : Int32) (v2 : Int32) (v3 : Int32) (v4 : Int32) (v5 : Int32) (v6 : Int32) (v7 : Int32) (x33 : (Nat → Int32)) (x35 : (Nat → Int32)) (x36 : (Nat → Int32)) (x37 : (Nat → Int32)) (x38 : (Nat → Int32)) : Option (Int32 × (Nat → Int32) × (Nat → Int32) × (Nat → Int32) × (Nat → Int32) × (Nat → Int32)) := if v2 < v7 then (fX11_stoodN_156 x0 x16 x17 x18 x23 x24 x25 x26  v4 v5 v6 x33 x35 x36 x37 x38) else (if (x17 0) ≤ v7 then (fX11_stoodN_156 x0 x16 x17 x18 x23 x24 x25 x26  v4 v5 v6 x33 x35 x36 x37 x38) else (bd4 (fX7_copy x23 x24 x25 x26 x35 x36 x37 x38) fun x35_1 x36_2 x37_3 x38_4 => (gd (inb v1 6) (bd5 (fX1_passAllN x17 x18 v3 x35_1 (upd x36_2 v1.toNatClampNeg v7) x37_3 x38_4 x33) fun x35_7 x36_8 x37_9 x38_10 x33_11 => (gd (inb v1 6) (if (x36_8 v1.toNatClampNeg) = v2 then (if v5 = 0 then (fX11_stoodN_145 x0 x16 x17 x18 x23 x24 x25 x26 k58 v1 v2 v3 v4 v5 v7 v7 x33_11 x35_7 x36_8 x37_9 x38_10) else (fX11_stoodN_145 x0 x16 x17 x18 x23 x24 x25 x26 k58 v1 v2 v3 v4 v5 v7 v6 x33_11 x35_7 x36_8 x37_9 x38_10)) else (fX11_stoodN_150 x0 x16 x17 x18 x23 x24 x25 x26 k58 v1 v2 v3 v4 v5 v6 v7 x33_11 x35_7 x36_8 x37_9 x38_10)))))))
def fX11_stoodN_58   (x0 : Nat → Int32) (x16 : Nat → Int32) (x17 : Nat → Int32) (x18 : Nat → Int32) (x23 : Nat → Int32) (x24 : Nat → Int32) (x25 : Nat → Int32) (x26 : Nat → Int32)  : Int32 → Int32 → Int32 → Int32 → Int32 → Int32 → Int32 → (Nat → Int32) → (Nat → Int32) → (Nat → Int32) → (Nat → Int32) → (Nat → Int32) → Option (Int32 × (Nat → Int32) × (Nat → Int32) × (Nat → Int32) × (Nat → Int32) × (Nat → Int32)) := lq12 (fX11_stoodN_58b x0 x16 x17 x18 x23 x24 x25 x26 ) 5000
set_option maxHeartbeats 4000000 in
set_option maxRecDepth 100000 in
theorem wX11_stoodN_58 {l : Launch} {b0 : Nat} {D : GD} {K : KT} {n : Nat} {κ : QT} {X0 : XT} {Y0 : YT} {Z : ZT} (hL : LY n κ) (hN : ([0, 16, 17, 18, 23, 24, 25, 26, 33, 35, 36, 37, 38] : List Nat).Nodup) (hM : ([] : List Nat).Nodup) (hC : gC l b0 D K RX11 cX11_stood (some FieldType.int) 8 6 162 0 0) {x0 : Nat → Int32} {x16 : Nat → Int32} {x17 : Nat → Int32} {x18 : Nat → Int32} {x23 : Nat → Int32} {x24 : Nat → Int32} {x25 : Nat → Int32} {x26 : Nat → Int32} (hri : fX11_isWithin (x16 8) 0 (x0 4 - 1) = some 0) {r : Int32} {rx33 : (Nat → Int32)} {rx35 : (Nat → Int32)} {rx36 : (Nat → Int32)} {rx37 : (Nat → Int32)} {rx38 : (Nat → Int32)} (hret : ∀ pc loc, narrow .int (.int r) = .int r → decode cX11_stood pc = .ok (.ireturn, 1) → gV l b0 D K (n, κ, ov X0 [0, 16, 17, 18, 23, 24, 25, 26, 33, 35, 36, 37, 38] [x0, x16, x17, x18, x23, x24, x25, x26, rx33, rx35, rx36, rx37, rx38], ov Y0 [] [], Z, 0, 0) pc loc [.int r]) : ∀ (j : Nat) (v1 : Int32) (v2 : Int32) (v3 : Int32) (v4 : Int32) (v5 : Int32) (v6 : Int32) (v7 : Int32) (x33 : (Nat → Int32)) (x35 : (Nat → Int32)) (x36 : (Nat → Int32)) (x37 : (Nat → Int32)) (x38 : (Nat → Int32)), lq12 (fX11_stoodN_58b x0 x16 x17 x18 x23 x24 x25 x26 ) j v1 v2 v3 v4 v5 v6 v7 x33 x35 x36 x37 x38 = some (r, rx33, rx35, rx36, rx37, rx38) → gV l b0 D K (n, κ, ov X0 [0, 16, 17, 18, 23, 24, 25, 26, 33, 35, 36, 37, 38] [x0, x16, x17, x18, x23, x24, x25, x26, x33, x35, x36, x37, x38], ov Y0 [] [], Z, 0, 0) 58 [(0, .ref (b0 + 0)), (1, .int v1), (2, .int v2), (3, .int v3), (4, .int v4), (5, .int v5), (6, .int v6), (7, .int v7)] [] := by
  intro j
  induction j with
  | zero => intro v1 v2 v3 v4 v5 v6 v7 x33 x35 x36 x37 x38 hf; cases hf
  | succ j hk58 =>
    intro v1 v2 v3 v4 v5 v6 v7 x33 x35 x36 x37 x38 hf
    replace hf : fX11_stoodN_58b x0 x16 x17 x18 x23 x24 x25 x26  (lq12 (fX11_stoodN_58b x0 x16 x17 x18 x23 x24 x25 x26 ) j) v1 v2 v3 v4 v5 v6 v7 x33 x35 x36 x37 x38 = some (r, rx33, rx35, rx36, rx37, rx38) := hf
    unfold fX11_stoodN_58b at hf
    refine g_iload hC 7 dX11_stood_58 rfl ?_
    refine g_iload_n hC 2 dX11_stood_60 rfl rfl ?_
    refine g_icmp_gt hC 156 dX11_stood_61 (by decide) (fun hc => ?_) (fun hc => ?_)
    · replace hf := ifT hf hc
      exact g_sub [4, 5, 6] rfl (wX11_stoodN_156 hL hN hM hC hri hret  hf)
    · replace hf := ifF hf hc
      refine g_iload hC 7 dX11_stood_64 rfl ?_
      refine g_aload_n hC 0 dX11_stood_66 rfl rfl ?_
      refine gt_X11_41 hC (a := 0) (kk_0 hL) (kn_0 hL) dX11_stood_67 ?_
      refine g_ref (b := 16) rfl ?_
      refine gt_X11_51 hC (a := 16) (kk_16 hL) (kn_16 hL) dX11_stood_70 ?_
      refine g_ref (b := 17) rfl ?_
      refine gt_X11_202 hC (x := x17) (kk_17 hL) (kn_17 hL) (ov_get hN 2 rfl rfl) dX11_stood_73 ?_
      refine g_icmp_ge hC 156 dX11_stood_76 (by decide) (fun hc => ?_) (fun hc => ?_)
      · replace hf := ifT hf hc
        exact g_sub [4, 5, 6] rfl (wX11_stoodN_156 hL hN hM hC hri hret  hf)
      · replace hf := ifF hf hc
        refine g_aload_n hC 0 dX11_stood_79 rfl rfl ?_
        refine gt_X11_65 hC (a := 0) (kk_0 hL) (kn_0 hL) dX11_stood_80 ?_
        refine g_ref (b := 35) rfl ?_
        refine g_aload_n hC 0 dX11_stood_83 rfl rfl ?_
        refine gt_X11_41 hC (a := 0) (kk_0 hL) (kn_0 hL) dX11_stood_84 ?_
        refine g_ref (b := 16) rfl ?_
        refine gt_X11_140 hC (a := 16) (kk_16 hL) (kn_16 hL) dX11_stood_87 ?_
        refine g_ref (b := 23) rfl ?_
        obtain ⟨x35_1, x36_2, x37_3, x38_4, q_5, hf⟩ := bd4E hf
        refine g_callV_v (a := 35) hC (X' := ov X0 [0, 16, 17, 18, 23, 24, 25, 26, 33, 35, 36, 37, 38] [x0, x16, x17, x18, x23, x24, x25, x26, x33, x35_1, x36_2, x37_3, x38_4]) (Y' := ov Y0 [] []) (As := [.ref (b0 + 23)]) (gMv_eq (c_X7_copy l hL (kk_35 hL) (kn_35 hL) (kk_23 hL) (kn_23 hL) (nd_sub hN [9, 10, 11, 12, 4, 5, 6, 7] (by decide) (by rfl)) (nd_sub hM [] (by decide) (by rfl)) (ov_map hN [9, 10, 11, 12, 4, 5, 6, 7] (by rfl) (by rfl)) (ov_map hM [] (by rfl) (by rfl)) q_5) (ov_ovE hN (by rfl) [9, 10, 11, 12, 4, 5, 6, 7] [0, 1, 2, 3, 8] (by rfl) (by rfl) [x0, x16, x17, x18, x33] (by rfl) (by rfl) (by rfl) 13 (by rfl) (by decide)) (ov_ovE hM (by rfl) [] [] (by rfl) (by rfl) [] (by rfl) (by rfl) (by rfl) 0 (by rfl) (by decide))) tw_707 tw_976 tw_120 tw_705 tw_706 (ci := 7) rfl (by decide) (kk_35 hL) (kn_35 hL) pd_X7_copy (by decide) (by decide) rfl rfl (Nat.le_of_ble_eq_true rfl) rfl dX11_stood_90 ?_
        refine g_aload_n hC 0 dX11_stood_93 rfl rfl ?_
        refine gt_X11_65 hC (a := 0) (kk_0 hL) (kn_0 hL) dX11_stood_94 ?_
        refine g_ref (b := 35) rfl ?_
        refine gt_X11_143 hC (a := 35) (kk_35 hL) (kn_35 hL) dX11_stood_97 ?_
        refine g_ref (b := 36) rfl ?_
        refine g_iload_n hC 1 dX11_stood_100 rfl rfl ?_
        refine g_iload hC 7 dX11_stood_101 rfl ?_
        obtain ⟨h_6, hf⟩ := gdE hf
        refine g_iast hC (x := x36_2) (kk_36 hL) (kn_36 hL) (ov_get hN 10 rfl rfl) (inb_in h_6) (ov_set hN (by rfl) 10 (by rfl)) dX11_stood_103 ?_
        show gV l b0 D K (n, κ, ov X0 [0, 16, 17, 18, 23, 24, 25, 26, 33, 35, 36, 37, 38] [x0, x16, x17, x18, x23, x24, x25, x26, x33, x35_1, (upd x36_2 v1.toNatClampNeg v7), x37_3, x38_4], ov Y0 [] [], Z, 0, 0) 104 [(0, .ref (b0 + 0)), (1, .int v1), (2, .int v2), (3, .int v3), (4, .int v4), (5, .int v5), (6, .int v6), (7, .int v7)] []
        refine g_aload_n hC 0 dX11_stood_104 rfl rfl ?_
        refine gt_X11_58 hC (a := 0) (kk_0 hL) (kn_0 hL) dX11_stood_105 ?_
        refine g_ref (b := 32) rfl ?_
        refine g_aload_n hC 0 dX11_stood_108 rfl rfl ?_
        refine gt_X11_65 hC (a := 0) (kk_0 hL) (kn_0 hL) dX11_stood_109 ?_
        refine g_ref (b := 35) rfl ?_
        refine g_aload_n hC 0 dX11_stood_112 rfl rfl ?_
        refine g_callV_q (a := 0) hC (As := []) (c_rifN l hL (ov_get hN 0 rfl rfl) (ov_get hN 1 rfl rfl) hri) tw_869 tw_866 tw_116 tw_868 tw_28 (ci := 11) rfl (by decide) (kk_0 hL) (kn_0 hL) pd_X11_ruleInForce (by decide) (by decide) rfl rfl (Nat.le_of_ble_eq_true rfl) rfl dX11_stood_113 ?_
        refine g_iload_n hC 3 dX11_stood_116 rfl rfl ?_
        obtain ⟨x35_7, x36_8, x37_9, x38_10, x33_11, q_12, hf⟩ := bd5E hf
        refine g_callV_v (a := 32) hC (X' := ov X0 [0, 16, 17, 18, 23, 24, 25, 26, 33, 35, 36, 37, 38] [x0, x16, x17, x18, x23, x24, x25, x26, x33_11, x35_7, x36_8, x37_9, x38_10]) (Y' := ov Y0 [] []) (As := [.ref (b0 + 35), .null, .int v3]) (gMv_eq (c_X1_passAllN l hL (kk_35 hL) (kn_35 hL) (nd_sub hN [9, 10, 11, 12, 2, 3, 8] (by decide) (by rfl)) (nd_sub hM [] (by decide) (by rfl)) (ov_map hN [9, 10, 11, 12, 2, 3, 8] (by rfl) (by rfl)) (ov_map hM [] (by rfl) (by rfl)) q_12) (ov_ovE hN (by rfl) [9, 10, 11, 12, 2, 3, 8] [0, 1, 4, 5, 6, 7] (by rfl) (by rfl) [x0, x16, x23, x24, x25, x26] (by rfl) (by rfl) (by rfl) 13 (by rfl) (by decide)) (ov_ovE hM (by rfl) [] [] (by rfl) (by rfl) [] (by rfl) (by rfl) (by rfl) 0 (by rfl) (by decide))) tw_980 tw_977 tw_123 tw_978 tw_979 (ci := 1) rfl (by decide) (kk_32 hL) (kn_32 hL) pd_X1_passAll (by decide) (by decide) rfl rfl (Nat.le_of_ble_eq_true rfl) rfl dX11_stood_117 ?_
        refine g_aload_n hC 0 dX11_stood_120 rfl rfl ?_
        refine gt_X11_65 hC (a := 0) (kk_0 hL) (kn_0 hL) dX11_stood_121 ?_
        refine g_ref (b := 35) rfl ?_
        refine gt_X11_143 hC (a := 35) (kk_35 hL) (kn_35 hL) dX11_stood_124 ?_
        refine g_ref (b := 36) rfl ?_
        refine g_iload_n hC 1 dX11_stood_127 rfl rfl ?_
        obtain ⟨h_13, hf⟩ := gdE hf
        refine g_iald hC (x := x36_8) (kk_36 hL) (kn_36 hL) (ov_get hN 10 rfl rfl) (inb_in h_13) dX11_stood_128 ?_
        refine g_iload_n hC 2 dX11_stood_129 rfl rfl ?_
        refine g_icmp_ne hC 150 dX11_stood_130 (by decide) (fun hc => ?_) (fun hc => ?_)
        · replace hf := ifF hf hc
          exact g_sub [0, 1, 2, 3, 4, 5, 6, 7] rfl (wX11_stoodN_150 hL hN hM hC hri hret hk58 hf)
        · replace hf := ifT hf hc
          refine g_iload hC 5 dX11_stood_133 rfl ?_
          refine g_if_ne hC 143 dX11_stood_135 (by decide) (fun hc => ?_) (fun hc => ?_)
          · replace hf := ifF hf hc
            refine g_iload hC 6 dX11_stood_143 rfl ?_
            exact g_sub [0, 1, 2, 3, 4, 5, 7] rfl (wX11_stoodN_145 hL hN hM hC hri hret hk58 hf)
          · replace hf := ifT hf hc
            refine g_iload hC 7 dX11_stood_138 rfl ?_
            refine g_goto hC 145 dX11_stood_140 (by decide) ?_
            exact g_sub [0, 1, 2, 3, 4, 5, 7] rfl (wX11_stoodN_145 hL hN hM hC hri hret hk58 hf)

def fX11_stoodN_0   (x0 : Nat → Int32) (x16 : Nat → Int32) (x17 : Nat → Int32) (x18 : Nat → Int32) (x23 : Nat → Int32) (x24 : Nat → Int32) (x25 : Nat → Int32) (x26 : Nat → Int32)  (v1 : Int32) (v2 : Int32) (v3 : Int32) (v4 : Int32) (x33 : (Nat → Int32)) (x35 : (Nat → Int32)) (x36 : (Nat → Int32)) (x37 : (Nat → Int32)) (x38 : (Nat → Int32)) : Option (Int32 × (Nat → Int32) × (Nat → Int32) × (Nat → Int32) × (Nat → Int32) × (Nat → Int32)) := bd1 (fX11_isHouse x17 v1) fun r_1 => (if r_1 = 0 then (some ((-1), x33, x35, x36, x37, x38)) else (bd1 (fX11_isWithin v2 0 (x17 0)) fun r_3 => (if r_3 = 0 then (some ((-1), x33, x35, x36, x37, x38)) else (bd1 (fX11_isWithin v3 1 30) fun r_5 => (if r_5 = 0 then (some ((-1), x33, x35, x36, x37, x38)) else (bd1 (fX11_isWithin v4 0 1) fun r_7 => (if r_7 = 0 then (some ((-1), x33, x35, x36, x37, x38)) else (fX11_stoodN_58 x0 x16 x17 x18 x23 x24 x25 x26  v1 v2 v3 v4 0 (-2) 0 x33 x35 x36 x37 x38))))))))
set_option maxHeartbeats 4000000 in
set_option maxRecDepth 100000 in
theorem wX11_stoodN_0 {l : Launch} {b0 : Nat} {D : GD} {K : KT} {n : Nat} {κ : QT} {X0 : XT} {Y0 : YT} {Z : ZT} (hL : LY n κ) (hN : ([0, 16, 17, 18, 23, 24, 25, 26, 33, 35, 36, 37, 38] : List Nat).Nodup) (hM : ([] : List Nat).Nodup) (hC : gC l b0 D K RX11 cX11_stood (some FieldType.int) 8 6 162 0 0) {x0 : Nat → Int32} {x16 : Nat → Int32} {x17 : Nat → Int32} {x18 : Nat → Int32} {x23 : Nat → Int32} {x24 : Nat → Int32} {x25 : Nat → Int32} {x26 : Nat → Int32} (hri : fX11_isWithin (x16 8) 0 (x0 4 - 1) = some 0) {r : Int32} {rx33 : (Nat → Int32)} {rx35 : (Nat → Int32)} {rx36 : (Nat → Int32)} {rx37 : (Nat → Int32)} {rx38 : (Nat → Int32)} (hret : ∀ pc loc, narrow .int (.int r) = .int r → decode cX11_stood pc = .ok (.ireturn, 1) → gV l b0 D K (n, κ, ov X0 [0, 16, 17, 18, 23, 24, 25, 26, 33, 35, 36, 37, 38] [x0, x16, x17, x18, x23, x24, x25, x26, rx33, rx35, rx36, rx37, rx38], ov Y0 [] [], Z, 0, 0) pc loc [.int r]) {v1 : Int32} {v2 : Int32} {v3 : Int32} {v4 : Int32} {x33 : (Nat → Int32)} {x35 : (Nat → Int32)} {x36 : (Nat → Int32)} {x37 : (Nat → Int32)} {x38 : (Nat → Int32)} (hf : fX11_stoodN_0 x0 x16 x17 x18 x23 x24 x25 x26  v1 v2 v3 v4 x33 x35 x36 x37 x38 = some (r, rx33, rx35, rx36, rx37, rx38)) : gV l b0 D K (n, κ, ov X0 [0, 16, 17, 18, 23, 24, 25, 26, 33, 35, 36, 37, 38] [x0, x16, x17, x18, x23, x24, x25, x26, x33, x35, x36, x37, x38], ov Y0 [] [], Z, 0, 0) 0 [(0, .ref (b0 + 0)), (1, .int v1), (2, .int v2), (3, .int v3), (4, .int v4)] [] := by
  unfold fX11_stoodN_0 at hf
  refine g_aload_n hC 0 dX11_stood_0 rfl rfl ?_
  refine g_iload_n hC 1 dX11_stood_1 rfl rfl ?_
  obtain ⟨r_1, q_2, hf⟩ := bd1E hf
  refine g_callV_i (a := 0) hC (X' := ov X0 [0, 16, 17, 18, 23, 24, 25, 26, 33, 35, 36, 37, 38] [x0, x16, x17, x18, x23, x24, x25, x26, x33, x35, x36, x37, x38]) (Y' := ov Y0 [] []) (As := [.int v1]) (gMi_eq (c_X11_isHouse l hL (ov_map hN [2] (by rfl) (by rfl)) (ov_map hM [] (by rfl) (by rfl)) q_2) (ov_ovE hN (by rfl) [2] [0, 1, 3, 4, 5, 6, 7, 8, 9, 10, 11, 12] (by rfl) (by rfl) [x0, x16, x18, x23, x24, x25, x26, x33, x35, x36, x37, x38] (by rfl) (by rfl) (by rfl) 13 (by rfl) (by decide)) (ov_ovE hM (by rfl) [] [] (by rfl) (by rfl) [] (by rfl) (by rfl) (by rfl) 0 (by rfl) (by decide))) tw_790 tw_787 tw_116 tw_789 tw_21 (ci := 11) rfl (by decide) (kk_0 hL) (kn_0 hL) pd_X11_isHouse (by decide) (by decide) rfl rfl (Nat.le_of_ble_eq_true rfl) rfl dX11_stood_2 ?_
  refine g_if_eq hC 46 dX11_stood_5 (by decide) (fun hc => ?_) (fun hc => ?_)
  · replace hf := ifT hf hc
    refine g_iconst hC (v := (-1)) dX11_stood_46 ic_m1 ?_
    obtain ⟨rfl, rfl, rfl, rfl, rfl, rfl⟩ := sm6E hf
    exact hret _ _ rfl dX11_stood_47
  · replace hf := ifF hf hc
    refine g_iload_n hC 2 dX11_stood_8 rfl rfl ?_
    refine g_iconst hC (v := 0) dX11_stood_9 ic_0 ?_
    refine g_aload_n hC 0 dX11_stood_10 rfl rfl ?_
    refine gt_X11_41 hC (a := 0) (kk_0 hL) (kn_0 hL) dX11_stood_11 ?_
    refine g_ref (b := 16) rfl ?_
    refine gt_X11_51 hC (a := 16) (kk_16 hL) (kn_16 hL) dX11_stood_14 ?_
    refine g_ref (b := 17) rfl ?_
    refine gt_X11_202 hC (x := x17) (kk_17 hL) (kn_17 hL) (ov_get hN 2 rfl rfl) dX11_stood_17 ?_
    obtain ⟨r_3, q_4, hf⟩ := bd1E hf
    refine g_callS_i hC (X' := ov X0 [0, 16, 17, 18, 23, 24, 25, 26, 33, 35, 36, 37, 38] [x0, x16, x17, x18, x23, x24, x25, x26, x33, x35, x36, x37, x38]) (Y' := ov Y0 [] []) (As := [.int v2, .int 0, .int (x17 0)]) (gMi_eq (c_X11_isWithin l hL (ov_map hN [] (by rfl) (by rfl)) (ov_map hM [] (by rfl) (by rfl)) q_4) (ov_ovE hN (by rfl) [] [0, 1, 2, 3, 4, 5, 6, 7, 8, 9, 10, 11, 12] (by rfl) (by rfl) [x0, x16, x17, x18, x23, x24, x25, x26, x33, x35, x36, x37, x38] (by rfl) (by rfl) (by rfl) 13 (by rfl) (by decide)) (ov_ovE hM (by rfl) [] [] (by rfl) (by rfl) [] (by rfl) (by rfl) (by rfl) 0 (by rfl) (by decide))) tw_666 tw_870 tw_116 tw_665 pd_X11_isWithin (by decide) (by decide) rfl rfl (Nat.le_of_ble_eq_true rfl) rfl dX11_stood_20 ?_
    refine g_if_eq hC 46 dX11_stood_23 (by decide) (fun hc => ?_) (fun hc => ?_)
    · replace hf := ifT hf hc
      refine g_iconst hC (v := (-1)) dX11_stood_46 ic_m1 ?_
      obtain ⟨rfl, rfl, rfl, rfl, rfl, rfl⟩ := sm6E hf
      exact hret _ _ rfl dX11_stood_47
    · replace hf := ifF hf hc
      refine g_iload_n hC 3 dX11_stood_26 rfl rfl ?_
      refine g_iconst hC (v := 1) dX11_stood_27 ic_1 ?_
      refine g_bipush hC (v := 30) dX11_stood_28 bp_30 ?_
      obtain ⟨r_5, q_6, hf⟩ := bd1E hf
      refine g_callS_i hC (X' := ov X0 [0, 16, 17, 18, 23, 24, 25, 26, 33, 35, 36, 37, 38] [x0, x16, x17, x18, x23, x24, x25, x26, x33, x35, x36, x37, x38]) (Y' := ov Y0 [] []) (As := [.int v3, .int 1, .int 30]) (gMi_eq (c_X11_isWithin l hL (ov_map hN [] (by rfl) (by rfl)) (ov_map hM [] (by rfl) (by rfl)) q_6) (ov_ovE hN (by rfl) [] [0, 1, 2, 3, 4, 5, 6, 7, 8, 9, 10, 11, 12] (by rfl) (by rfl) [x0, x16, x17, x18, x23, x24, x25, x26, x33, x35, x36, x37, x38] (by rfl) (by rfl) (by rfl) 13 (by rfl) (by decide)) (ov_ovE hM (by rfl) [] [] (by rfl) (by rfl) [] (by rfl) (by rfl) (by rfl) 0 (by rfl) (by decide))) tw_666 tw_870 tw_116 tw_665 pd_X11_isWithin (by decide) (by decide) rfl rfl (Nat.le_of_ble_eq_true rfl) rfl dX11_stood_30 ?_
      refine g_if_eq hC 46 dX11_stood_33 (by decide) (fun hc => ?_) (fun hc => ?_)
      · replace hf := ifT hf hc
        refine g_iconst hC (v := (-1)) dX11_stood_46 ic_m1 ?_
        obtain ⟨rfl, rfl, rfl, rfl, rfl, rfl⟩ := sm6E hf
        exact hret _ _ rfl dX11_stood_47
      · replace hf := ifF hf hc
        refine g_iload hC 4 dX11_stood_36 rfl ?_
        refine g_iconst hC (v := 0) dX11_stood_38 ic_0 ?_
        refine g_iconst hC (v := 1) dX11_stood_39 ic_1 ?_
        obtain ⟨r_7, q_8, hf⟩ := bd1E hf
        refine g_callS_i hC (X' := ov X0 [0, 16, 17, 18, 23, 24, 25, 26, 33, 35, 36, 37, 38] [x0, x16, x17, x18, x23, x24, x25, x26, x33, x35, x36, x37, x38]) (Y' := ov Y0 [] []) (As := [.int v4, .int 0, .int 1]) (gMi_eq (c_X11_isWithin l hL (ov_map hN [] (by rfl) (by rfl)) (ov_map hM [] (by rfl) (by rfl)) q_8) (ov_ovE hN (by rfl) [] [0, 1, 2, 3, 4, 5, 6, 7, 8, 9, 10, 11, 12] (by rfl) (by rfl) [x0, x16, x17, x18, x23, x24, x25, x26, x33, x35, x36, x37, x38] (by rfl) (by rfl) (by rfl) 13 (by rfl) (by decide)) (ov_ovE hM (by rfl) [] [] (by rfl) (by rfl) [] (by rfl) (by rfl) (by rfl) 0 (by rfl) (by decide))) tw_666 tw_870 tw_116 tw_665 pd_X11_isWithin (by decide) (by decide) rfl rfl (Nat.le_of_ble_eq_true rfl) rfl dX11_stood_40 ?_
        refine g_if_ne hC 48 dX11_stood_43 (by decide) (fun hc => ?_) (fun hc => ?_)
        · replace hf := ifF hf hc
          refine g_iconst hC (v := 0) dX11_stood_48 ic_0 ?_
          refine g_istore hC (i := 5) [(5, .int 0), (0, .ref (b0 + 0)), (1, .int v1), (2, .int v2), (3, .int v3), (4, .int v4)] dX11_stood_49 (by decide) rfl ?_
          refine g_bipush hC (v := (-2)) dX11_stood_51 bp_m2 ?_
          refine g_istore hC (i := 6) [(6, .int (-2)), (5, .int 0), (0, .ref (b0 + 0)), (1, .int v1), (2, .int v2), (3, .int v3), (4, .int v4)] dX11_stood_53 (by decide) rfl ?_
          refine g_iconst hC (v := 0) dX11_stood_55 ic_0 ?_
          refine g_istore hC (i := 7) [(7, .int 0), (6, .int (-2)), (5, .int 0), (0, .ref (b0 + 0)), (1, .int v1), (2, .int v2), (3, .int v3), (4, .int v4)] dX11_stood_56 (by decide) rfl ?_
          exact g_sub [3, 4, 5, 6, 7, 2, 1, 0] rfl (wX11_stoodN_58 hL hN hM hC hri hret  5000 v1 v2 v3 v4 0 (-2) 0 x33 x35 x36 x37 x38 hf)
        · replace hf := ifT hf hc
          refine g_iconst hC (v := (-1)) dX11_stood_46 ic_m1 ?_
          obtain ⟨rfl, rfl, rfl, rfl, rfl, rfl⟩ := sm6E hf
          exact hret _ _ rfl dX11_stood_47

def fX11_stoodN   (x0 : Nat → Int32) (x16 : Nat → Int32) (x17 : Nat → Int32) (x18 : Nat → Int32) (x23 : Nat → Int32) (x24 : Nat → Int32) (x25 : Nat → Int32) (x26 : Nat → Int32)  (v1 : Int32) (v2 : Int32) (v3 : Int32) (v4 : Int32) (x33 : Nat → Int32) (x35 : Nat → Int32) (x36 : Nat → Int32) (x37 : Nat → Int32) (x38 : Nat → Int32)  : Option (Int32 × (Nat → Int32) × (Nat → Int32) × (Nat → Int32) × (Nat → Int32) × (Nat → Int32)) := fX11_stoodN_0 x0 x16 x17 x18 x23 x24 x25 x26 v1 v2 v3 v4 x33 x35 x36 x37 x38

set_option maxHeartbeats 4000000 in
set_option maxRecDepth 100000 in
theorem c_X11_stoodN (l : Launch) {b0 : Nat} {D : GD} {n : Nat} {κ : QT} {X0 : XT} {Y0 : YT} {Z : ZT} (hL : LY n κ) {x0 : Nat → Int32} {x16 : Nat → Int32} {x17 : Nat → Int32} {x18 : Nat → Int32} {x23 : Nat → Int32} {x24 : Nat → Int32} {x25 : Nat → Int32} {x26 : Nat → Int32} {x33 : Nat → Int32} {x35 : Nat → Int32} {x36 : Nat → Int32} {x37 : Nat → Int32} {x38 : Nat → Int32} (hri : fX11_isWithin (x16 8) 0 (x0 4 - 1) = some 0) (hx : ([0, 16, 17, 18, 23, 24, 25, 26, 33, 35, 36, 37, 38] : List Nat).map X0 = [x0, x16, x17, x18, x23, x24, x25, x26, x33, x35, x36, x37, x38]) (hy : ([] : List Nat).map Y0 = []) {v1 : Int32} {v2 : Int32} {v3 : Int32} {v4 : Int32} {r : Int32} {rx33 : (Nat → Int32)} {rx35 : (Nat → Int32)} {rx36 : (Nat → Int32)} {rx37 : (Nat → Int32)} {rx38 : (Nat → Int32)} (hf : fX11_stoodN x0 x16 x17 x18 x23 x24 x25 x26 v1 v2 v3 v4 x33 x35 x36 x37 x38 = some (r, rx33, rx35, rx36, rx37, rx38)) : gMi l yX11_stood cX11_stood 8 (some FieldType.int) 6 162 0 0 b0 D [.ref (b0 + 0), .int v1, .int v2, .int v3, .int v4] (n, κ, X0, Y0, Z) (n, κ, ov X0 [0, 16, 17, 18, 23, 24, 25, 26, 33, 35, 36, 37, 38] [x0, x16, x17, x18, x23, x24, x25, x26, rx33, rx35, rx36, rx37, rx38], ov Y0 [] [], Z) r := by
  have hN : ([0, 16, 17, 18, 23, 24, 25, 26, 33, 35, 36, 37, 38] : List Nat).Nodup := by decide
  have hM : ([] : List Nat).Nodup := by decide
  refine g_meti (own := RX11) (by decide) rfl rfl (Nat.le_of_ble_eq_true rfl) ?_
  intro K hC hret
  have e := wX11_stoodN_0 hL hN hM hC hri hret hf
  rw [ov_id' hx, ov_id' hy] at e
  exact g_sub [0, 1, 2, 3, 4] rfl e

-- X11_stood
def fX11_stoodR_156  (Lru : Nat) (xruz1 : Nat → Int32) (x0 : Nat → Int32) (x16 : Nat → Int32) (x17 : Nat → Int32) (x18 : Nat → Int32) (x23 : Nat → Int32) (x24 : Nat → Int32) (x25 : Nat → Int32) (x26 : Nat → Int32)  (v4 : Int32) (v5 : Int32) (v6 : Int32) (x33 : (Nat → Int32)) (x35 : (Nat → Int32)) (x36 : (Nat → Int32)) (x37 : (Nat → Int32)) (x38 : (Nat → Int32)) (yruz2 : (Nat → Int64)) (y34 : (Nat → Int64)) : Option (Int32 × (Nat → Int32) × (Nat → Int32) × (Nat → Int32) × (Nat → Int32) × (Nat → Int32) × (Nat → Int64) × (Nat → Int64)) := if v4 = 0 then (some (v5, x33, x35, x36, x37, x38, yruz2, y34)) else (some (v6, x33, x35, x36, x37, x38, yruz2, y34))
set_option maxHeartbeats 4000000 in
set_option maxRecDepth 100000 in
theorem wX11_stoodR_156 {l : Launch} {b0 : Nat} {D : GD} {K : KT} {n : Nat} {κ : QT} {X0 : XT} {Y0 : YT} {Z : ZT} {ru : Nat} {Lru : Nat} (hL : LY n κ) (hk_ru : κ ru = (4, 0)) (hn_ru : ru < n) (hk_ru_1 : κ (ru + 1) = (14, Lru)) (hN : ([ru + 1, 0, 16, 17, 18, 23, 24, 25, 26, 33, 35, 36, 37, 38] : List Nat).Nodup) (hM : ([ru + 2, 34] : List Nat).Nodup) (hC : gC l b0 D K RX11 cX11_stood (some FieldType.int) 8 6 162 0 0) {xruz1 : Nat → Int32} {x0 : Nat → Int32} {x16 : Nat → Int32} {x17 : Nat → Int32} {x18 : Nat → Int32} {x23 : Nat → Int32} {x24 : Nat → Int32} {x25 : Nat → Int32} {x26 : Nat → Int32} (hri : fX11_isWithin (x16 8) 0 (x0 4 - 1) = some 1 ∧ inb (x16 8) 6 = true ∧ Z 15 (x16 8).toNatClampNeg = some ru) {r : Int32} {rx33 : (Nat → Int32)} {rx35 : (Nat → Int32)} {rx36 : (Nat → Int32)} {rx37 : (Nat → Int32)} {rx38 : (Nat → Int32)} {ryruz2 : (Nat → Int64)} {ry34 : (Nat → Int64)} (hret : ∀ pc loc, narrow .int (.int r) = .int r → decode cX11_stood pc = .ok (.ireturn, 1) → gV l b0 D K (n, κ, ov X0 [ru + 1, 0, 16, 17, 18, 23, 24, 25, 26, 33, 35, 36, 37, 38] [xruz1, x0, x16, x17, x18, x23, x24, x25, x26, rx33, rx35, rx36, rx37, rx38], ov Y0 [ru + 2, 34] [ryruz2, ry34], Z, 0, 0) pc loc [.int r]) {v4 : Int32} {v5 : Int32} {v6 : Int32} {x33 : (Nat → Int32)} {x35 : (Nat → Int32)} {x36 : (Nat → Int32)} {x37 : (Nat → Int32)} {x38 : (Nat → Int32)} {yruz2 : (Nat → Int64)} {y34 : (Nat → Int64)} (hf : fX11_stoodR_156 Lru xruz1 x0 x16 x17 x18 x23 x24 x25 x26  v4 v5 v6 x33 x35 x36 x37 x38 yruz2 y34 = some (r, rx33, rx35, rx36, rx37, rx38, ryruz2, ry34)) : gV l b0 D K (n, κ, ov X0 [ru + 1, 0, 16, 17, 18, 23, 24, 25, 26, 33, 35, 36, 37, 38] [xruz1, x0, x16, x17, x18, x23, x24, x25, x26, x33, x35, x36, x37, x38], ov Y0 [ru + 2, 34] [yruz2, y34], Z, 0, 0) 156 [(4, .int v4), (5, .int v5), (6, .int v6)] [] := by
  unfold fX11_stoodR_156 at hf
  refine g_iload hC 0 dX11_stood_156 rfl ?_
  refine g_if_ne hC 166 dX11_stood_158 (by decide) (fun hc => ?_) (fun hc => ?_)
  · replace hf := ifF hf hc
    refine g_iload hC 2 dX11_stood_166 rfl ?_
    obtain ⟨rfl, rfl, rfl, rfl, rfl, rfl, rfl, rfl⟩ := sm8E hf
    exact hret _ _ rfl dX11_stood_168
  · replace hf := ifT hf hc
    refine g_iload hC 1 dX11_stood_161 rfl ?_
    refine g_goto hC 168 dX11_stood_163 (by decide) ?_
    obtain ⟨rfl, rfl, rfl, rfl, rfl, rfl, rfl, rfl⟩ := sm8E hf
    exact hret _ _ rfl dX11_stood_168

def fX11_stoodR_150  (Lru : Nat) (xruz1 : Nat → Int32) (x0 : Nat → Int32) (x16 : Nat → Int32) (x17 : Nat → Int32) (x18 : Nat → Int32) (x23 : Nat → Int32) (x24 : Nat → Int32) (x25 : Nat → Int32) (x26 : Nat → Int32)  (k58 : Int32 → Int32 → Int32 → Int32 → Int32 → Int32 → Int32 → (Nat → Int32) → (Nat → Int32) → (Nat → Int32) → (Nat → Int32) → (Nat → Int32) → (Nat → Int64) → (Nat → Int64) → Option (Int32 × (Nat → Int32) × (Nat → Int32) × (Nat → Int32) × (Nat → Int32) × (Nat → Int32) × (Nat → Int64) × (Nat → Int64))) (v1 : Int32) (v2 : Int32) (v3 : Int32) (v4 : Int32) (v5 : Int32) (v6 : Int32) (v7 : Int32) (x33 : (Nat → Int32)) (x35 : (Nat → Int32)) (x36 : (Nat → Int32)) (x37 : (Nat → Int32)) (x38 : (Nat → Int32)) (yruz2 : (Nat → Int64)) (y34 : (Nat → Int64)) : Option (Int32 × (Nat → Int32) × (Nat → Int32) × (Nat → Int32) × (Nat → Int32) × (Nat → Int32) × (Nat → Int64) × (Nat → Int64)) := bn (v7 + 1) fun t_1 => (k58 v1 v2 v3 v4 v5 v6 t_1 x33 x35 x36 x37 x38 yruz2 y34)
set_option maxHeartbeats 4000000 in
set_option maxRecDepth 100000 in
theorem wX11_stoodR_150 {l : Launch} {b0 : Nat} {D : GD} {K : KT} {n : Nat} {κ : QT} {X0 : XT} {Y0 : YT} {Z : ZT} {ru : Nat} {Lru : Nat} (hL : LY n κ) (hk_ru : κ ru = (4, 0)) (hn_ru : ru < n) (hk_ru_1 : κ (ru + 1) = (14, Lru)) (hN : ([ru + 1, 0, 16, 17, 18, 23, 24, 25, 26, 33, 35, 36, 37, 38] : List Nat).Nodup) (hM : ([ru + 2, 34] : List Nat).Nodup) (hC : gC l b0 D K RX11 cX11_stood (some FieldType.int) 8 6 162 0 0) {xruz1 : Nat → Int32} {x0 : Nat → Int32} {x16 : Nat → Int32} {x17 : Nat → Int32} {x18 : Nat → Int32} {x23 : Nat → Int32} {x24 : Nat → Int32} {x25 : Nat → Int32} {x26 : Nat → Int32} (hri : fX11_isWithin (x16 8) 0 (x0 4 - 1) = some 1 ∧ inb (x16 8) 6 = true ∧ Z 15 (x16 8).toNatClampNeg = some ru) {r : Int32} {rx33 : (Nat → Int32)} {rx35 : (Nat → Int32)} {rx36 : (Nat → Int32)} {rx37 : (Nat → Int32)} {rx38 : (Nat → Int32)} {ryruz2 : (Nat → Int64)} {ry34 : (Nat → Int64)} (hret : ∀ pc loc, narrow .int (.int r) = .int r → decode cX11_stood pc = .ok (.ireturn, 1) → gV l b0 D K (n, κ, ov X0 [ru + 1, 0, 16, 17, 18, 23, 24, 25, 26, 33, 35, 36, 37, 38] [xruz1, x0, x16, x17, x18, x23, x24, x25, x26, rx33, rx35, rx36, rx37, rx38], ov Y0 [ru + 2, 34] [ryruz2, ry34], Z, 0, 0) pc loc [.int r]) {k58 : Int32 → Int32 → Int32 → Int32 → Int32 → Int32 → Int32 → (Nat → Int32) → (Nat → Int32) → (Nat → Int32) → (Nat → Int32) → (Nat → Int32) → (Nat → Int64) → (Nat → Int64) → Option (Int32 × (Nat → Int32) × (Nat → Int32) × (Nat → Int32) × (Nat → Int32) × (Nat → Int32) × (Nat → Int64) × (Nat → Int64))} (hk58 : ∀ (v1 : Int32) (v2 : Int32) (v3 : Int32) (v4 : Int32) (v5 : Int32) (v6 : Int32) (v7 : Int32) (x33 : (Nat → Int32)) (x35 : (Nat → Int32)) (x36 : (Nat → Int32)) (x37 : (Nat → Int32)) (x38 : (Nat → Int32)) (yruz2 : (Nat → Int64)) (y34 : (Nat → Int64)), k58 v1 v2 v3 v4 v5 v6 v7 x33 x35 x36 x37 x38 yruz2 y34 = some (r, rx33, rx35, rx36, rx37, rx38, ryruz2, ry34) → gV l b0 D K (n, κ, ov X0 [ru + 1, 0, 16, 17, 18, 23, 24, 25, 26, 33, 35, 36, 37, 38] [xruz1, x0, x16, x17, x18, x23, x24, x25, x26, x33, x35, x36, x37, x38], ov Y0 [ru + 2, 34] [yruz2, y34], Z, 0, 0) 58 [(0, .ref (b0 + 0)), (1, .int v1), (2, .int v2), (3, .int v3), (4, .int v4), (5, .int v5), (6, .int v6), (7, .int v7)] []) {v1 : Int32} {v2 : Int32} {v3 : Int32} {v4 : Int32} {v5 : Int32} {v6 : Int32} {v7 : Int32} {x33 : (Nat → Int32)} {x35 : (Nat → Int32)} {x36 : (Nat → Int32)} {x37 : (Nat → Int32)} {x38 : (Nat → Int32)} {yruz2 : (Nat → Int64)} {y34 : (Nat → Int64)} (hf : fX11_stoodR_150 Lru xruz1 x0 x16 x17 x18 x23 x24 x25 x26 k58 v1 v2 v3 v4 v5 v6 v7 x33 x35 x36 x37 x38 yruz2 y34 = some (r, rx33, rx35, rx36, rx37, rx38, ryruz2, ry34)) : gV l b0 D K (n, κ, ov X0 [ru + 1, 0, 16, 17, 18, 23, 24, 25, 26, 33, 35, 36, 37, 38] [xruz1, x0, x16, x17, x18, x23, x24, x25, x26, x33, x35, x36, x37, x38], ov Y0 [ru + 2, 34] [yruz2, y34], Z, 0, 0) 150 [(0, .ref (b0 + 0)), (1, .int v1), (2, .int v2), (3, .int v3), (4, .int v4), (5, .int v5), (6, .int v6), (7, .int v7)] [] := by
  unfold fX11_stoodR_150 at hf
  obtain ⟨t_1, et_1, hf⟩ := bnE hf
  refine g_iinc hC (i := 7) (v := t_1) [(7, .int t_1), (0, .ref (b0 + 0)), (1, .int v1), (2, .int v2), (3, .int v3), (4, .int v4), (5, .int v5), (6, .int v6)] dX11_stood_150 (q := 7) rfl ((congrArg (HAdd.hAdd v7) ic_1).trans et_1.symm) (by decide) rfl ?_
  refine g_goto hC 58 dX11_stood_153 (by decide) ?_
  exact g_sub [1, 2, 3, 4, 5, 6, 7, 0] rfl (hk58 v1 v2 v3 v4 v5 v6 t_1 x33 x35 x36 x37 x38 yruz2 y34 hf)

def fX11_stoodR_145  (Lru : Nat) (xruz1 : Nat → Int32) (x0 : Nat → Int32) (x16 : Nat → Int32) (x17 : Nat → Int32) (x18 : Nat → Int32) (x23 : Nat → Int32) (x24 : Nat → Int32) (x25 : Nat → Int32) (x26 : Nat → Int32)  (k58 : Int32 → Int32 → Int32 → Int32 → Int32 → Int32 → Int32 → (Nat → Int32) → (Nat → Int32) → (Nat → Int32) → (Nat → Int32) → (Nat → Int32) → (Nat → Int64) → (Nat → Int64) → Option (Int32 × (Nat → Int32) × (Nat → Int32) × (Nat → Int32) × (Nat → Int32) × (Nat → Int32) × (Nat → Int64) × (Nat → Int64))) (v1 : Int32) (v2 : Int32) (v3 : Int32) (v4 : Int32) (v5 : Int32) (v7 : Int32) (s0 : Int32) (x33 : (Nat → Int32)) (x35 : (Nat → Int32)) (x36 : (Nat → Int32)) (x37 : (Nat → Int32)) (x38 : (Nat → Int32)) (yruz2 : (Nat → Int64)) (y34 : (Nat → Int64)) : Option (Int32 × (Nat → Int32) × (Nat → Int32) × (Nat → Int32) × (Nat → Int32) × (Nat → Int32) × (Nat → Int64) × (Nat → Int64)) := bn (v5 + 1) fun t_1 => (fX11_stoodR_150 Lru xruz1 x0 x16 x17 x18 x23 x24 x25 x26 k58 v1 v2 v3 v4 t_1 s0 v7 x33 x35 x36 x37 x38 yruz2 y34)
set_option maxHeartbeats 4000000 in
set_option maxRecDepth 100000 in
theorem wX11_stoodR_145 {l : Launch} {b0 : Nat} {D : GD} {K : KT} {n : Nat} {κ : QT} {X0 : XT} {Y0 : YT} {Z : ZT} {ru : Nat} {Lru : Nat} (hL : LY n κ) (hk_ru : κ ru = (4, 0)) (hn_ru : ru < n) (hk_ru_1 : κ (ru + 1) = (14, Lru)) (hN : ([ru + 1, 0, 16, 17, 18, 23, 24, 25, 26, 33, 35, 36, 37, 38] : List Nat).Nodup) (hM : ([ru + 2, 34] : List Nat).Nodup) (hC : gC l b0 D K RX11 cX11_stood (some FieldType.int) 8 6 162 0 0) {xruz1 : Nat → Int32} {x0 : Nat → Int32} {x16 : Nat → Int32} {x17 : Nat → Int32} {x18 : Nat → Int32} {x23 : Nat → Int32} {x24 : Nat → Int32} {x25 : Nat → Int32} {x26 : Nat → Int32} (hri : fX11_isWithin (x16 8) 0 (x0 4 - 1) = some 1 ∧ inb (x16 8) 6 = true ∧ Z 15 (x16 8).toNatClampNeg = some ru) {r : Int32} {rx33 : (Nat → Int32)} {rx35 : (Nat → Int32)} {rx36 : (Nat → Int32)} {rx37 : (Nat → Int32)} {rx38 : (Nat → Int32)} {ryruz2 : (Nat → Int64)} {ry34 : (Nat → Int64)} (hret : ∀ pc loc, narrow .int (.int r) = .int r → decode cX11_stood pc = .ok (.ireturn, 1) → gV l b0 D K (n, κ, ov X0 [ru + 1, 0, 16, 17, 18, 23, 24, 25, 26, 33, 35, 36, 37, 38] [xruz1, x0, x16, x17, x18, x23, x24, x25, x26, rx33, rx35, rx36, rx37, rx38], ov Y0 [ru + 2, 34] [ryruz2, ry34], Z, 0, 0) pc loc [.int r]) {k58 : Int32 → Int32 → Int32 → Int32 → Int32 → Int32 → Int32 → (Nat → Int32) → (Nat → Int32) → (Nat → Int32) → (Nat → Int32) → (Nat → Int32) → (Nat → Int64) → (Nat → Int64) → Option (Int32 × (Nat → Int32) × (Nat → Int32) × (Nat → Int32) × (Nat → Int32) × (Nat → Int32) × (Nat → Int64) × (Nat → Int64))} (hk58 : ∀ (v1 : Int32) (v2 : Int32) (v3 : Int32) (v4 : Int32) (v5 : Int32) (v6 : Int32) (v7 : Int32) (x33 : (Nat → Int32)) (x35 : (Nat → Int32)) (x36 : (Nat → Int32)) (x37 : (Nat → Int32)) (x38 : (Nat → Int32)) (yruz2 : (Nat → Int64)) (y34 : (Nat → Int64)), k58 v1 v2 v3 v4 v5 v6 v7 x33 x35 x36 x37 x38 yruz2 y34 = some (r, rx33, rx35, rx36, rx37, rx38, ryruz2, ry34) → gV l b0 D K (n, κ, ov X0 [ru + 1, 0, 16, 17, 18, 23, 24, 25, 26, 33, 35, 36, 37, 38] [xruz1, x0, x16, x17, x18, x23, x24, x25, x26, x33, x35, x36, x37, x38], ov Y0 [ru + 2, 34] [yruz2, y34], Z, 0, 0) 58 [(0, .ref (b0 + 0)), (1, .int v1), (2, .int v2), (3, .int v3), (4, .int v4), (5, .int v5), (6, .int v6), (7, .int v7)] []) {v1 : Int32} {v2 : Int32} {v3 : Int32} {v4 : Int32} {v5 : Int32} {v7 : Int32} {s0 : Int32} {x33 : (Nat → Int32)} {x35 : (Nat → Int32)} {x36 : (Nat → Int32)} {x37 : (Nat → Int32)} {x38 : (Nat → Int32)} {yruz2 : (Nat → Int64)} {y34 : (Nat → Int64)} (hf : fX11_stoodR_145 Lru xruz1 x0 x16 x17 x18 x23 x24 x25 x26 k58 v1 v2 v3 v4 v5 v7 s0 x33 x35 x36 x37 x38 yruz2 y34 = some (r, rx33, rx35, rx36, rx37, rx38, ryruz2, ry34)) : gV l b0 D K (n, κ, ov X0 [ru + 1, 0, 16, 17, 18, 23, 24, 25, 26, 33, 35, 36, 37, 38] [xruz1, x0, x16, x17, x18, x23, x24, x25, x26, x33, x35, x36, x37, x38], ov Y0 [ru + 2, 34] [yruz2, y34], Z, 0, 0) 145 [(0, .ref (b0 + 0)), (1, .int v1), (2, .int v2), (3, .int v3), (4, .int v4), (5, .int v5), (7, .int v7)] [.int s0] := by
  unfold fX11_stoodR_145 at hf
  refine g_istore hC (i := 6) [(6, .int s0), (0, .ref (b0 + 0)), (1, .int v1), (2, .int v2), (3, .int v3), (4, .int v4), (5, .int v5), (7, .int v7)] dX11_stood_145 (by decide) rfl ?_
  obtain ⟨t_1, et_1, hf⟩ := bnE hf
  refine g_iinc hC (i := 5) (v := t_1) [(5, .int t_1), (6, .int s0), (0, .ref (b0 + 0)), (1, .int v1), (2, .int v2), (3, .int v3), (4, .int v4), (7, .int v7)] dX11_stood_147 (q := 6) rfl ((congrArg (HAdd.hAdd v5) ic_1).trans et_1.symm) (by decide) rfl ?_
  exact g_sub [2, 3, 4, 5, 6, 0, 1, 7] rfl (wX11_stoodR_150 hL hk_ru hn_ru hk_ru_1 hN hM hC hri hret hk58 hf)

def fX11_stoodR_58b  (Lru : Nat) (xruz1 : Nat → Int32) (x0 : Nat → Int32) (x16 : Nat → Int32) (x17 : Nat → Int32) (x18 : Nat → Int32) (x23 : Nat → Int32) (x24 : Nat → Int32) (x25 : Nat → Int32) (x26 : Nat → Int32)  (k58 : Int32 → Int32 → Int32 → Int32 → Int32 → Int32 → Int32 → (Nat → Int32) → (Nat → Int32) → (Nat → Int32) → (Nat → Int32) → (Nat → Int32) → (Nat → Int64) → (Nat → Int64) → Option (Int32 × (Nat → Int32) × (Nat → Int32) × (Nat → Int32) × (Nat → Int32) × (Nat → Int32) × (Nat → Int64) × (Nat → Int64))) (v1 : Int32) (v2 : Int32) (v3 : Int32) (v4 : Int32) (v5 : Int32) (v6 : Int32) (v7 : Int32) (x33 : (Nat → Int32)) (x35 : (Nat → Int32)) (x36 : (Nat → Int32)) (x37 : (Nat → Int32)) (x38 : (Nat → Int32)) (yruz2 : (Nat → Int64)) (y34 : (Nat → Int64)) : Option (Int32 × (Nat → Int32) × (Nat → Int32) × (Nat → Int32) × (Nat → Int32) × (Nat → Int32) × (Nat → Int64) × (Nat → Int64)) := if v2 < v7 then (fX11_stoodR_156 Lru xruz1 x0 x16 x17 x18 x23 x24 x25 x26  v4 v5 v6 x33 x35 x36 x37 x38 yruz2 y34) else (if (x17 0) ≤ v7 then (fX11_stoodR_156 Lru xruz1 x0 x16 x17 x18 x23 x24 x25 x26  v4 v5 v6 x33 x35 x36 x37 x38 yruz2 y34) else (bd4 (fX7_copy x23 x24 x25 x26 x35 x36 x37 x38) fun x35_1 x36_2 x37_3 x38_4 => (gd (inb v1 6) (bd7 (fX1_passAllR Lru xruz1 x17 x18 v3 x35_1 (upd x36_2 v1.toNatClampNeg v7) x37_3 x38_4 x33 yruz2 y34) fun x35_7 x36_8 x37_9 x38_10 x33_11 yruz2_12 y34_13 => (gd (inb v1 6) (if (x36_8 v1.toNatClampNeg) = v2 then (if v5 = 0 then (fX11_stoodR_145 Lru xruz1 x0 x16 x17 x18 x23 x24 x25 x26 k58 v1 v2 v3 v4 v5 v7 v7 x33_11 x35_7 x36_8 x37_9 x38_10 yruz2_12 y34_13) else (fX11_stoodR_145 Lru xruz1 x0 x16 x17 x18 x23 x24 x25 x26 k58 v1 v2 v3 v4 v5 v7 v6 x33_11 x35_7 x36_8 x37_9 x38_10 yruz2_12 y34_13)) else (fX11_stoodR_150 Lru xruz1 x0 x16 x17 x18 x23 x24 x25 x26 k58 v1 v2 v3 v4 v5 v6 v7 x33_11 x35_7 x36_8 x37_9 x38_10 yruz2_12 y34_13)))))))
def fX11_stoodR_58  (Lru : Nat) (xruz1 : Nat → Int32) (x0 : Nat → Int32) (x16 : Nat → Int32) (x17 : Nat → Int32) (x18 : Nat → Int32) (x23 : Nat → Int32) (x24 : Nat → Int32) (x25 : Nat → Int32) (x26 : Nat → Int32)  : Int32 → Int32 → Int32 → Int32 → Int32 → Int32 → Int32 → (Nat → Int32) → (Nat → Int32) → (Nat → Int32) → (Nat → Int32) → (Nat → Int32) → (Nat → Int64) → (Nat → Int64) → Option (Int32 × (Nat → Int32) × (Nat → Int32) × (Nat → Int32) × (Nat → Int32) × (Nat → Int32) × (Nat → Int64) × (Nat → Int64)) := lq14 (fX11_stoodR_58b Lru xruz1 x0 x16 x17 x18 x23 x24 x25 x26 ) 5000
set_option maxHeartbeats 4000000 in
set_option maxRecDepth 100000 in
theorem wX11_stoodR_58 {l : Launch} {b0 : Nat} {D : GD} {K : KT} {n : Nat} {κ : QT} {X0 : XT} {Y0 : YT} {Z : ZT} {ru : Nat} {Lru : Nat} (hL : LY n κ) (hk_ru : κ ru = (4, 0)) (hn_ru : ru < n) (hk_ru_1 : κ (ru + 1) = (14, Lru)) (hN : ([ru + 1, 0, 16, 17, 18, 23, 24, 25, 26, 33, 35, 36, 37, 38] : List Nat).Nodup) (hM : ([ru + 2, 34] : List Nat).Nodup) (hC : gC l b0 D K RX11 cX11_stood (some FieldType.int) 8 6 162 0 0) {xruz1 : Nat → Int32} {x0 : Nat → Int32} {x16 : Nat → Int32} {x17 : Nat → Int32} {x18 : Nat → Int32} {x23 : Nat → Int32} {x24 : Nat → Int32} {x25 : Nat → Int32} {x26 : Nat → Int32} (hri : fX11_isWithin (x16 8) 0 (x0 4 - 1) = some 1 ∧ inb (x16 8) 6 = true ∧ Z 15 (x16 8).toNatClampNeg = some ru) {r : Int32} {rx33 : (Nat → Int32)} {rx35 : (Nat → Int32)} {rx36 : (Nat → Int32)} {rx37 : (Nat → Int32)} {rx38 : (Nat → Int32)} {ryruz2 : (Nat → Int64)} {ry34 : (Nat → Int64)} (hret : ∀ pc loc, narrow .int (.int r) = .int r → decode cX11_stood pc = .ok (.ireturn, 1) → gV l b0 D K (n, κ, ov X0 [ru + 1, 0, 16, 17, 18, 23, 24, 25, 26, 33, 35, 36, 37, 38] [xruz1, x0, x16, x17, x18, x23, x24, x25, x26, rx33, rx35, rx36, rx37, rx38], ov Y0 [ru + 2, 34] [ryruz2, ry34], Z, 0, 0) pc loc [.int r]) : ∀ (j : Nat) (v1 : Int32) (v2 : Int32) (v3 : Int32) (v4 : Int32) (v5 : Int32) (v6 : Int32) (v7 : Int32) (x33 : (Nat → Int32)) (x35 : (Nat → Int32)) (x36 : (Nat → Int32)) (x37 : (Nat → Int32)) (x38 : (Nat → Int32)) (yruz2 : (Nat → Int64)) (y34 : (Nat → Int64)), lq14 (fX11_stoodR_58b Lru xruz1 x0 x16 x17 x18 x23 x24 x25 x26 ) j v1 v2 v3 v4 v5 v6 v7 x33 x35 x36 x37 x38 yruz2 y34 = some (r, rx33, rx35, rx36, rx37, rx38, ryruz2, ry34) → gV l b0 D K (n, κ, ov X0 [ru + 1, 0, 16, 17, 18, 23, 24, 25, 26, 33, 35, 36, 37, 38] [xruz1, x0, x16, x17, x18, x23, x24, x25, x26, x33, x35, x36, x37, x38], ov Y0 [ru + 2, 34] [yruz2, y34], Z, 0, 0) 58 [(0, .ref (b0 + 0)), (1, .int v1), (2, .int v2), (3, .int v3), (4, .int v4), (5, .int v5), (6, .int v6), (7, .int v7)] [] := by
  intro j
  induction j with
  | zero => intro v1 v2 v3 v4 v5 v6 v7 x33 x35 x36 x37 x38 yruz2 y34 hf; cases hf
  | succ j hk58 =>
    intro v1 v2 v3 v4 v5 v6 v7 x33 x35 x36 x37 x38 yruz2 y34 hf
    replace hf : fX11_stoodR_58b Lru xruz1 x0 x16 x17 x18 x23 x24 x25 x26  (lq14 (fX11_stoodR_58b Lru xruz1 x0 x16 x17 x18 x23 x24 x25 x26 ) j) v1 v2 v3 v4 v5 v6 v7 x33 x35 x36 x37 x38 yruz2 y34 = some (r, rx33, rx35, rx36, rx37, rx38, ryruz2, ry34) := hf
    unfold fX11_stoodR_58b at hf
    refine g_iload hC 7 dX11_stood_58 rfl ?_
    refine g_iload_n hC 2 dX11_stood_60 rfl rfl ?_
    refine g_icmp_gt hC 156 dX11_stood_61 (by decide) (fun hc => ?_) (fun hc => ?_)
    · replace hf := ifT hf hc
      exact g_sub [4, 5, 6] rfl (wX11_stoodR_156 hL hk_ru hn_ru hk_ru_1 hN hM hC hri hret  hf)
    · replace hf := ifF hf hc
      refine g_iload hC 7 dX11_stood_64 rfl ?_
      refine g_aload_n hC 0 dX11_stood_66 rfl rfl ?_
      refine gt_X11_41 hC (a := 0) (kk_0 hL) (kn_0 hL) dX11_stood_67 ?_
      refine g_ref (b := 16) rfl ?_
      refine gt_X11_51 hC (a := 16) (kk_16 hL) (kn_16 hL) dX11_stood_70 ?_
      refine g_ref (b := 17) rfl ?_
      refine gt_X11_202 hC (x := x17) (kk_17 hL) (kn_17 hL) (ov_get hN 3 rfl rfl) dX11_stood_73 ?_
      refine g_icmp_ge hC 156 dX11_stood_76 (by decide) (fun hc => ?_) (fun hc => ?_)
      · replace hf := ifT hf hc
        exact g_sub [4, 5, 6] rfl (wX11_stoodR_156 hL hk_ru hn_ru hk_ru_1 hN hM hC hri hret  hf)
      · replace hf := ifF hf hc
        refine g_aload_n hC 0 dX11_stood_79 rfl rfl ?_
        refine gt_X11_65 hC (a := 0) (kk_0 hL) (kn_0 hL) dX11_stood_80 ?_
        refine g_ref (b := 35) rfl ?_
        refine g_aload_n hC 0 dX11_stood_83 rfl rfl ?_
        refine gt_X11_41 hC (a := 0) (kk_0 hL) (kn_0 hL) dX11_stood_84 ?_
        refine g_ref (b := 16) rfl ?_
        refine gt_X11_140 hC (a := 16) (kk_16 hL) (kn_16 hL) dX11_stood_87 ?_
        refine g_ref (b := 23) rfl ?_
        obtain ⟨x35_1, x36_2, x37_3, x38_4, q_5, hf⟩ := bd4E hf
        refine g_callV_v (a := 35) hC (X' := ov X0 [ru + 1, 0, 16, 17, 18, 23, 24, 25, 26, 33, 35, 36, 37, 38] [xruz1, x0, x16, x17, x18, x23, x24, x25, x26, x33, x35_1, x36_2, x37_3, x38_4]) (Y' := ov Y0 [ru + 2, 34] [yruz2, y34]) (As := [.ref (b0 + 23)]) (gMv_eq (c_X7_copy l hL (kk_35 hL) (kn_35 hL) (kk_23 hL) (kn_23 hL) (nd_sub hN [10, 11, 12, 13, 5, 6, 7, 8] (by decide) (by rfl)) (nd_sub hM [] (by decide) (by rfl)) (ov_map hN [10, 11, 12, 13, 5, 6, 7, 8] (by rfl) (by rfl)) (ov_map hM [] (by rfl) (by rfl)) q_5) (ov_ovE hN (by rfl) [10, 11, 12, 13, 5, 6, 7, 8] [0, 1, 2, 3, 4, 9] (by rfl) (by rfl) [xruz1, x0, x16, x17, x18, x33] (by rfl) (by rfl) (by rfl) 14 (by rfl) (by decide)) (ov_ovE hM (by rfl) [] [0, 1] (by rfl) (by rfl) [yruz2, y34] (by rfl) (by rfl) (by rfl) 2 (by rfl) (by decide))) tw_707 tw_976 tw_120 tw_705 tw_706 (ci := 7) rfl (by decide) (kk_35 hL) (kn_35 hL) pd_X7_copy (by decide) (by decide) rfl rfl (Nat.le_of_ble_eq_true rfl) rfl dX11_stood_90 ?_
        refine g_aload_n hC 0 dX11_stood_93 rfl rfl ?_
        refine gt_X11_65 hC (a := 0) (kk_0 hL) (kn_0 hL) dX11_stood_94 ?_
        refine g_ref (b := 35) rfl ?_
        refine gt_X11_143 hC (a := 35) (kk_35 hL) (kn_35 hL) dX11_stood_97 ?_
        refine g_ref (b := 36) rfl ?_
        refine g_iload_n hC 1 dX11_stood_100 rfl rfl ?_
        refine g_iload hC 7 dX11_stood_101 rfl ?_
        obtain ⟨h_6, hf⟩ := gdE hf
        refine g_iast hC (x := x36_2) (kk_36 hL) (kn_36 hL) (ov_get hN 11 rfl rfl) (inb_in h_6) (ov_set hN (by rfl) 11 (by rfl)) dX11_stood_103 ?_
        show gV l b0 D K (n, κ, ov X0 [ru + 1, 0, 16, 17, 18, 23, 24, 25, 26, 33, 35, 36, 37, 38] [xruz1, x0, x16, x17, x18, x23, x24, x25, x26, x33, x35_1, (upd x36_2 v1.toNatClampNeg v7), x37_3, x38_4], ov Y0 [ru + 2, 34] [yruz2, y34], Z, 0, 0) 104 [(0, .ref (b0 + 0)), (1, .int v1), (2, .int v2), (3, .int v3), (4, .int v4), (5, .int v5), (6, .int v6), (7, .int v7)] []
        refine g_aload_n hC 0 dX11_stood_104 rfl rfl ?_
        refine gt_X11_58 hC (a := 0) (kk_0 hL) (kn_0 hL) dX11_stood_105 ?_
        refine g_ref (b := 32) rfl ?_
        refine g_aload_n hC 0 dX11_stood_108 rfl rfl ?_
        refine gt_X11_65 hC (a := 0) (kk_0 hL) (kn_0 hL) dX11_stood_109 ?_
        refine g_ref (b := 35) rfl ?_
        refine g_aload_n hC 0 dX11_stood_112 rfl rfl ?_
        refine g_callV_q (a := 0) hC (As := []) (c_rifR l hL (ov_get hN 1 rfl rfl) (ov_get hN 2 rfl rfl) hri) tw_869 tw_866 tw_116 tw_868 tw_28 (ci := 11) rfl (by decide) (kk_0 hL) (kn_0 hL) pd_X11_ruleInForce (by decide) (by decide) rfl rfl (Nat.le_of_ble_eq_true rfl) rfl dX11_stood_113 ?_
        refine g_iload_n hC 3 dX11_stood_116 rfl rfl ?_
        obtain ⟨x35_7, x36_8, x37_9, x38_10, x33_11, yruz2_12, y34_13, q_14, hf⟩ := bd7E hf
        refine g_callV_v (a := 32) hC (X' := ov X0 [ru + 1, 0, 16, 17, 18, 23, 24, 25, 26, 33, 35, 36, 37, 38] [xruz1, x0, x16, x17, x18, x23, x24, x25, x26, x33_11, x35_7, x36_8, x37_9, x38_10]) (Y' := ov Y0 [ru + 2, 34] [yruz2_12, y34_13]) (As := [.ref (b0 + 35), .ref (b0 + ru), .int v3]) (gMv_eq (c_X1_passAllR l hL (kk_35 hL) (kn_35 hL) hk_ru hn_ru hk_ru_1 (nd_sub hN [10, 11, 12, 13, 0, 3, 4, 9] (by decide) (by rfl)) (nd_sub hM [0, 1] (by decide) (by rfl)) (ov_map hN [10, 11, 12, 13, 0, 3, 4, 9] (by rfl) (by rfl)) (ov_map hM [0, 1] (by rfl) (by rfl)) q_14) (ov_ovE hN (by rfl) [10, 11, 12, 13, 0, 3, 4, 9] [1, 2, 5, 6, 7, 8] (by rfl) (by rfl) [x0, x16, x23, x24, x25, x26] (by rfl) (by rfl) (by rfl) 14 (by rfl) (by decide)) (ov_ovE hM (by rfl) [0, 1] [] (by rfl) (by rfl) [] (by rfl) (by rfl) (by rfl) 2 (by rfl) (by decide))) tw_980 tw_977 tw_123 tw_978 tw_979 (ci := 1) rfl (by decide) (kk_32 hL) (kn_32 hL) pd_X1_passAll (by decide) (by decide) rfl rfl (Nat.le_of_ble_eq_true rfl) rfl dX11_stood_117 ?_
        refine g_aload_n hC 0 dX11_stood_120 rfl rfl ?_
        refine gt_X11_65 hC (a := 0) (kk_0 hL) (kn_0 hL) dX11_stood_121 ?_
        refine g_ref (b := 35) rfl ?_
        refine gt_X11_143 hC (a := 35) (kk_35 hL) (kn_35 hL) dX11_stood_124 ?_
        refine g_ref (b := 36) rfl ?_
        refine g_iload_n hC 1 dX11_stood_127 rfl rfl ?_
        obtain ⟨h_15, hf⟩ := gdE hf
        refine g_iald hC (x := x36_8) (kk_36 hL) (kn_36 hL) (ov_get hN 11 rfl rfl) (inb_in h_15) dX11_stood_128 ?_
        refine g_iload_n hC 2 dX11_stood_129 rfl rfl ?_
        refine g_icmp_ne hC 150 dX11_stood_130 (by decide) (fun hc => ?_) (fun hc => ?_)
        · replace hf := ifF hf hc
          exact g_sub [0, 1, 2, 3, 4, 5, 6, 7] rfl (wX11_stoodR_150 hL hk_ru hn_ru hk_ru_1 hN hM hC hri hret hk58 hf)
        · replace hf := ifT hf hc
          refine g_iload hC 5 dX11_stood_133 rfl ?_
          refine g_if_ne hC 143 dX11_stood_135 (by decide) (fun hc => ?_) (fun hc => ?_)
          · replace hf := ifF hf hc
            refine g_iload hC 6 dX11_stood_143 rfl ?_
            exact g_sub [0, 1, 2, 3, 4, 5, 7] rfl (wX11_stoodR_145 hL hk_ru hn_ru hk_ru_1 hN hM hC hri hret hk58 hf)
          · replace hf := ifT hf hc
            refine g_iload hC 7 dX11_stood_138 rfl ?_
            refine g_goto hC 145 dX11_stood_140 (by decide) ?_
            exact g_sub [0, 1, 2, 3, 4, 5, 7] rfl (wX11_stoodR_145 hL hk_ru hn_ru hk_ru_1 hN hM hC hri hret hk58 hf)

def fX11_stoodR_0  (Lru : Nat) (xruz1 : Nat → Int32) (x0 : Nat → Int32) (x16 : Nat → Int32) (x17 : Nat → Int32) (x18 : Nat → Int32) (x23 : Nat → Int32) (x24 : Nat → Int32) (x25 : Nat → Int32) (x26 : Nat → Int32)  (v1 : Int32) (v2 : Int32) (v3 : Int32) (v4 : Int32) (x33 : (Nat → Int32)) (x35 : (Nat → Int32)) (x36 : (Nat → Int32)) (x37 : (Nat → Int32)) (x38 : (Nat → Int32)) (yruz2 : (Nat → Int64)) (y34 : (Nat → Int64)) : Option (Int32 × (Nat → Int32) × (Nat → Int32) × (Nat → Int32) × (Nat → Int32) × (Nat → Int32) × (Nat → Int64) × (Nat → Int64)) := bd1 (fX11_isHouse x17 v1) fun r_1 => (if r_1 = 0 then (some ((-1), x33, x35, x36, x37, x38, yruz2, y34)) else (bd1 (fX11_isWithin v2 0 (x17 0)) fun r_3 => (if r_3 = 0 then (some ((-1), x33, x35, x36, x37, x38, yruz2, y34)) else (bd1 (fX11_isWithin v3 1 30) fun r_5 => (if r_5 = 0 then (some ((-1), x33, x35, x36, x37, x38, yruz2, y34)) else (bd1 (fX11_isWithin v4 0 1) fun r_7 => (if r_7 = 0 then (some ((-1), x33, x35, x36, x37, x38, yruz2, y34)) else (fX11_stoodR_58 Lru xruz1 x0 x16 x17 x18 x23 x24 x25 x26  v1 v2 v3 v4 0 (-2) 0 x33 x35 x36 x37 x38 yruz2 y34))))))))
set_option maxHeartbeats 4000000 in
set_option maxRecDepth 100000 in
theorem wX11_stoodR_0 {l : Launch} {b0 : Nat} {D : GD} {K : KT} {n : Nat} {κ : QT} {X0 : XT} {Y0 : YT} {Z : ZT} {ru : Nat} {Lru : Nat} (hL : LY n κ) (hk_ru : κ ru = (4, 0)) (hn_ru : ru < n) (hk_ru_1 : κ (ru + 1) = (14, Lru)) (hN : ([ru + 1, 0, 16, 17, 18, 23, 24, 25, 26, 33, 35, 36, 37, 38] : List Nat).Nodup) (hM : ([ru + 2, 34] : List Nat).Nodup) (hC : gC l b0 D K RX11 cX11_stood (some FieldType.int) 8 6 162 0 0) {xruz1 : Nat → Int32} {x0 : Nat → Int32} {x16 : Nat → Int32} {x17 : Nat → Int32} {x18 : Nat → Int32} {x23 : Nat → Int32} {x24 : Nat → Int32} {x25 : Nat → Int32} {x26 : Nat → Int32} (hri : fX11_isWithin (x16 8) 0 (x0 4 - 1) = some 1 ∧ inb (x16 8) 6 = true ∧ Z 15 (x16 8).toNatClampNeg = some ru) {r : Int32} {rx33 : (Nat → Int32)} {rx35 : (Nat → Int32)} {rx36 : (Nat → Int32)} {rx37 : (Nat → Int32)} {rx38 : (Nat → Int32)} {ryruz2 : (Nat → Int64)} {ry34 : (Nat → Int64)} (hret : ∀ pc loc, narrow .int (.int r) = .int r → decode cX11_stood pc = .ok (.ireturn, 1) → gV l b0 D K (n, κ, ov X0 [ru + 1, 0, 16, 17, 18, 23, 24, 25, 26, 33, 35, 36, 37, 38] [xruz1, x0, x16, x17, x18, x23, x24, x25, x26, rx33, rx35, rx36, rx37, rx38], ov Y0 [ru + 2, 34] [ryruz2, ry34], Z, 0, 0) pc loc [.int r]) {v1 : Int32} {v2 : Int32} {v3 : Int32} {v4 : Int32} {x33 : (Nat → Int32)} {x35 : (Nat → Int32)} {x36 : (Nat → Int32)} {x37 : (Nat → Int32)} {x38 : (Nat → Int32)} {yruz2 : (Nat → Int64)} {y34 : (Nat → Int64)} (hf : fX11_stoodR_0 Lru xruz1 x0 x16 x17 x18 x23 x24 x25 x26  v1 v2 v3 v4 x33 x35 x36 x37 x38 yruz2 y34 = some (r, rx33, rx35, rx36, rx37, rx38, ryruz2, ry34)) : gV l b0 D K (n, κ, ov X0 [ru + 1, 0, 16, 17, 18, 23, 24, 25, 26, 33, 35, 36, 37, 38] [xruz1, x0, x16, x17, x18, x23, x24, x25, x26, x33, x35, x36, x37, x38], ov Y0 [ru + 2, 34] [yruz2, y34], Z, 0, 0) 0 [(0, .ref (b0 + 0)), (1, .int v1), (2, .int v2), (3, .int v3), (4, .int v4)] [] := by
  unfold fX11_stoodR_0 at hf
  refine g_aload_n hC 0 dX11_stood_0 rfl rfl ?_
  refine g_iload_n hC 1 dX11_stood_1 rfl rfl ?_
  obtain ⟨r_1, q_2, hf⟩ := bd1E hf
  refine g_callV_i (a := 0) hC (X' := ov X0 [ru + 1, 0, 16, 17, 18, 23, 24, 25, 26, 33, 35, 36, 37, 38] [xruz1, x0, x16, x17, x18, x23, x24, x25, x26, x33, x35, x36, x37, x38]) (Y' := ov Y0 [ru + 2, 34] [yruz2, y34]) (As := [.int v1]) (gMi_eq (c_X11_isHouse l hL (ov_map hN [3] (by rfl) (by rfl)) (ov_map hM [] (by rfl) (by rfl)) q_2) (ov_ovE hN (by rfl) [3] [0, 1, 2, 4, 5, 6, 7, 8, 9, 10, 11, 12, 13] (by rfl) (by rfl) [xruz1, x0, x16, x18, x23, x24, x25, x26, x33, x35, x36, x37, x38] (by rfl) (by rfl) (by rfl) 14 (by rfl) (by decide)) (ov_ovE hM (by rfl) [] [0, 1] (by rfl) (by rfl) [yruz2, y34] (by rfl) (by rfl) (by rfl) 2 (by rfl) (by decide))) tw_790 tw_787 tw_116 tw_789 tw_21 (ci := 11) rfl (by decide) (kk_0 hL) (kn_0 hL) pd_X11_isHouse (by decide) (by decide) rfl rfl (Nat.le_of_ble_eq_true rfl) rfl dX11_stood_2 ?_
  refine g_if_eq hC 46 dX11_stood_5 (by decide) (fun hc => ?_) (fun hc => ?_)
  · replace hf := ifT hf hc
    refine g_iconst hC (v := (-1)) dX11_stood_46 ic_m1 ?_
    obtain ⟨rfl, rfl, rfl, rfl, rfl, rfl, rfl, rfl⟩ := sm8E hf
    exact hret _ _ rfl dX11_stood_47
  · replace hf := ifF hf hc
    refine g_iload_n hC 2 dX11_stood_8 rfl rfl ?_
    refine g_iconst hC (v := 0) dX11_stood_9 ic_0 ?_
    refine g_aload_n hC 0 dX11_stood_10 rfl rfl ?_
    refine gt_X11_41 hC (a := 0) (kk_0 hL) (kn_0 hL) dX11_stood_11 ?_
    refine g_ref (b := 16) rfl ?_
    refine gt_X11_51 hC (a := 16) (kk_16 hL) (kn_16 hL) dX11_stood_14 ?_
    refine g_ref (b := 17) rfl ?_
    refine gt_X11_202 hC (x := x17) (kk_17 hL) (kn_17 hL) (ov_get hN 3 rfl rfl) dX11_stood_17 ?_
    obtain ⟨r_3, q_4, hf⟩ := bd1E hf
    refine g_callS_i hC (X' := ov X0 [ru + 1, 0, 16, 17, 18, 23, 24, 25, 26, 33, 35, 36, 37, 38] [xruz1, x0, x16, x17, x18, x23, x24, x25, x26, x33, x35, x36, x37, x38]) (Y' := ov Y0 [ru + 2, 34] [yruz2, y34]) (As := [.int v2, .int 0, .int (x17 0)]) (gMi_eq (c_X11_isWithin l hL (ov_map hN [] (by rfl) (by rfl)) (ov_map hM [] (by rfl) (by rfl)) q_4) (ov_ovE hN (by rfl) [] [0, 1, 2, 3, 4, 5, 6, 7, 8, 9, 10, 11, 12, 13] (by rfl) (by rfl) [xruz1, x0, x16, x17, x18, x23, x24, x25, x26, x33, x35, x36, x37, x38] (by rfl) (by rfl) (by rfl) 14 (by rfl) (by decide)) (ov_ovE hM (by rfl) [] [0, 1] (by rfl) (by rfl) [yruz2, y34] (by rfl) (by rfl) (by rfl) 2 (by rfl) (by decide))) tw_666 tw_870 tw_116 tw_665 pd_X11_isWithin (by decide) (by decide) rfl rfl (Nat.le_of_ble_eq_true rfl) rfl dX11_stood_20 ?_
    refine g_if_eq hC 46 dX11_stood_23 (by decide) (fun hc => ?_) (fun hc => ?_)
    · replace hf := ifT hf hc
      refine g_iconst hC (v := (-1)) dX11_stood_46 ic_m1 ?_
      obtain ⟨rfl, rfl, rfl, rfl, rfl, rfl, rfl, rfl⟩ := sm8E hf
      exact hret _ _ rfl dX11_stood_47
    · replace hf := ifF hf hc
      refine g_iload_n hC 3 dX11_stood_26 rfl rfl ?_
      refine g_iconst hC (v := 1) dX11_stood_27 ic_1 ?_
      refine g_bipush hC (v := 30) dX11_stood_28 bp_30 ?_
      obtain ⟨r_5, q_6, hf⟩ := bd1E hf
      refine g_callS_i hC (X' := ov X0 [ru + 1, 0, 16, 17, 18, 23, 24, 25, 26, 33, 35, 36, 37, 38] [xruz1, x0, x16, x17, x18, x23, x24, x25, x26, x33, x35, x36, x37, x38]) (Y' := ov Y0 [ru + 2, 34] [yruz2, y34]) (As := [.int v3, .int 1, .int 30]) (gMi_eq (c_X11_isWithin l hL (ov_map hN [] (by rfl) (by rfl)) (ov_map hM [] (by rfl) (by rfl)) q_6) (ov_ovE hN (by rfl) [] [0, 1, 2, 3, 4, 5, 6, 7, 8, 9, 10, 11, 12, 13] (by rfl) (by rfl) [xruz1, x0, x16, x17, x18, x23, x24, x25, x26, x33, x35, x36, x37, x38] (by rfl) (by rfl) (by rfl) 14 (by rfl) (by decide)) (ov_ovE hM (by rfl) [] [0, 1] (by rfl) (by rfl) [yruz2, y34] (by rfl) (by rfl) (by rfl) 2 (by rfl) (by decide))) tw_666 tw_870 tw_116 tw_665 pd_X11_isWithin (by decide) (by decide) rfl rfl (Nat.le_of_ble_eq_true rfl) rfl dX11_stood_30 ?_
      refine g_if_eq hC 46 dX11_stood_33 (by decide) (fun hc => ?_) (fun hc => ?_)
      · replace hf := ifT hf hc
        refine g_iconst hC (v := (-1)) dX11_stood_46 ic_m1 ?_
        obtain ⟨rfl, rfl, rfl, rfl, rfl, rfl, rfl, rfl⟩ := sm8E hf
        exact hret _ _ rfl dX11_stood_47
      · replace hf := ifF hf hc
        refine g_iload hC 4 dX11_stood_36 rfl ?_
        refine g_iconst hC (v := 0) dX11_stood_38 ic_0 ?_
        refine g_iconst hC (v := 1) dX11_stood_39 ic_1 ?_
        obtain ⟨r_7, q_8, hf⟩ := bd1E hf
        refine g_callS_i hC (X' := ov X0 [ru + 1, 0, 16, 17, 18, 23, 24, 25, 26, 33, 35, 36, 37, 38] [xruz1, x0, x16, x17, x18, x23, x24, x25, x26, x33, x35, x36, x37, x38]) (Y' := ov Y0 [ru + 2, 34] [yruz2, y34]) (As := [.int v4, .int 0, .int 1]) (gMi_eq (c_X11_isWithin l hL (ov_map hN [] (by rfl) (by rfl)) (ov_map hM [] (by rfl) (by rfl)) q_8) (ov_ovE hN (by rfl) [] [0, 1, 2, 3, 4, 5, 6, 7, 8, 9, 10, 11, 12, 13] (by rfl) (by rfl) [xruz1, x0, x16, x17, x18, x23, x24, x25, x26, x33, x35, x36, x37, x38] (by rfl) (by rfl) (by rfl) 14 (by rfl) (by decide)) (ov_ovE hM (by rfl) [] [0, 1] (by rfl) (by rfl) [yruz2, y34] (by rfl) (by rfl) (by rfl) 2 (by rfl) (by decide))) tw_666 tw_870 tw_116 tw_665 pd_X11_isWithin (by decide) (by decide) rfl rfl (Nat.le_of_ble_eq_true rfl) rfl dX11_stood_40 ?_
        refine g_if_ne hC 48 dX11_stood_43 (by decide) (fun hc => ?_) (fun hc => ?_)
        · replace hf := ifF hf hc
          refine g_iconst hC (v := 0) dX11_stood_48 ic_0 ?_
          refine g_istore hC (i := 5) [(5, .int 0), (0, .ref (b0 + 0)), (1, .int v1), (2, .int v2), (3, .int v3), (4, .int v4)] dX11_stood_49 (by decide) rfl ?_
          refine g_bipush hC (v := (-2)) dX11_stood_51 bp_m2 ?_
          refine g_istore hC (i := 6) [(6, .int (-2)), (5, .int 0), (0, .ref (b0 + 0)), (1, .int v1), (2, .int v2), (3, .int v3), (4, .int v4)] dX11_stood_53 (by decide) rfl ?_
          refine g_iconst hC (v := 0) dX11_stood_55 ic_0 ?_
          refine g_istore hC (i := 7) [(7, .int 0), (6, .int (-2)), (5, .int 0), (0, .ref (b0 + 0)), (1, .int v1), (2, .int v2), (3, .int v3), (4, .int v4)] dX11_stood_56 (by decide) rfl ?_
          exact g_sub [3, 4, 5, 6, 7, 2, 1, 0] rfl (wX11_stoodR_58 hL hk_ru hn_ru hk_ru_1 hN hM hC hri hret  5000 v1 v2 v3 v4 0 (-2) 0 x33 x35 x36 x37 x38 yruz2 y34 hf)
        · replace hf := ifT hf hc
          refine g_iconst hC (v := (-1)) dX11_stood_46 ic_m1 ?_
          obtain ⟨rfl, rfl, rfl, rfl, rfl, rfl, rfl, rfl⟩ := sm8E hf
          exact hret _ _ rfl dX11_stood_47

def fX11_stoodR  (Lru : Nat) (xruz1 : Nat → Int32) (x0 : Nat → Int32) (x16 : Nat → Int32) (x17 : Nat → Int32) (x18 : Nat → Int32) (x23 : Nat → Int32) (x24 : Nat → Int32) (x25 : Nat → Int32) (x26 : Nat → Int32)  (v1 : Int32) (v2 : Int32) (v3 : Int32) (v4 : Int32) (x33 : Nat → Int32) (x35 : Nat → Int32) (x36 : Nat → Int32) (x37 : Nat → Int32) (x38 : Nat → Int32) (yruz2 : Nat → Int64) (y34 : Nat → Int64) : Option (Int32 × (Nat → Int32) × (Nat → Int32) × (Nat → Int32) × (Nat → Int32) × (Nat → Int32) × (Nat → Int64) × (Nat → Int64)) := fX11_stoodR_0 Lru xruz1 x0 x16 x17 x18 x23 x24 x25 x26 v1 v2 v3 v4 x33 x35 x36 x37 x38 yruz2 y34

set_option maxHeartbeats 4000000 in
set_option maxRecDepth 100000 in
theorem c_X11_stoodR (l : Launch) {b0 : Nat} {D : GD} {n : Nat} {κ : QT} {X0 : XT} {Y0 : YT} {Z : ZT} {ru : Nat} {Lru : Nat} (hL : LY n κ) (hk_ru : κ ru = (4, 0)) (hn_ru : ru < n) (hk_ru_1 : κ (ru + 1) = (14, Lru)) (hN : ([ru + 1, 0, 16, 17, 18, 23, 24, 25, 26, 33, 35, 36, 37, 38] : List Nat).Nodup) (hM : ([ru + 2, 34] : List Nat).Nodup) {xruz1 : Nat → Int32} {x0 : Nat → Int32} {x16 : Nat → Int32} {x17 : Nat → Int32} {x18 : Nat → Int32} {x23 : Nat → Int32} {x24 : Nat → Int32} {x25 : Nat → Int32} {x26 : Nat → Int32} {x33 : Nat → Int32} {x35 : Nat → Int32} {x36 : Nat → Int32} {x37 : Nat → Int32} {x38 : Nat → Int32} {yruz2 : Nat → Int64} {y34 : Nat → Int64} (hri : fX11_isWithin (x16 8) 0 (x0 4 - 1) = some 1 ∧ inb (x16 8) 6 = true ∧ Z 15 (x16 8).toNatClampNeg = some ru) (hx : ([ru + 1, 0, 16, 17, 18, 23, 24, 25, 26, 33, 35, 36, 37, 38] : List Nat).map X0 = [xruz1, x0, x16, x17, x18, x23, x24, x25, x26, x33, x35, x36, x37, x38]) (hy : ([ru + 2, 34] : List Nat).map Y0 = [yruz2, y34]) {v1 : Int32} {v2 : Int32} {v3 : Int32} {v4 : Int32} {r : Int32} {rx33 : (Nat → Int32)} {rx35 : (Nat → Int32)} {rx36 : (Nat → Int32)} {rx37 : (Nat → Int32)} {rx38 : (Nat → Int32)} {ryruz2 : (Nat → Int64)} {ry34 : (Nat → Int64)} (hf : fX11_stoodR Lru xruz1 x0 x16 x17 x18 x23 x24 x25 x26 v1 v2 v3 v4 x33 x35 x36 x37 x38 yruz2 y34 = some (r, rx33, rx35, rx36, rx37, rx38, ryruz2, ry34)) : gMi l yX11_stood cX11_stood 8 (some FieldType.int) 6 162 0 0 b0 D [.ref (b0 + 0), .int v1, .int v2, .int v3, .int v4] (n, κ, X0, Y0, Z) (n, κ, ov X0 [ru + 1, 0, 16, 17, 18, 23, 24, 25, 26, 33, 35, 36, 37, 38] [xruz1, x0, x16, x17, x18, x23, x24, x25, x26, rx33, rx35, rx36, rx37, rx38], ov Y0 [ru + 2, 34] [ryruz2, ry34], Z) r := by
  refine g_meti (own := RX11) (by decide) rfl rfl (Nat.le_of_ble_eq_true rfl) ?_
  intro K hC hret
  have e := wX11_stoodR_0 hL hk_ru hn_ru hk_ru_1 hN hM hC hri hret hf
  rw [ov_id' hx, ov_id' hy] at e
  exact g_sub [0, 1, 2, 3, 4] rfl e

-- X11_rests
def fX11_restsN_0   (x0 : Nat → Int32) (x16 : Nat → Int32) (x17 : Nat → Int32) (x18 : Nat → Int32) (x23 : Nat → Int32) (x24 : Nat → Int32) (x25 : Nat → Int32) (x26 : Nat → Int32)  (v1 : Int32) (v2 : Int32) (v3 : Int32) (v4 : Int32) (x33 : (Nat → Int32)) (x60 : (Nat → Int32)) (x61 : (Nat → Int32)) (x62 : (Nat → Int32)) (x63 : (Nat → Int32)) (x64 : (Nat → Int32)) (x65 : (Nat → Int32)) (x66 : (Nat → Int32)) : Option (Int32 × (Nat → Int32) × (Nat → Int32) × (Nat → Int32) × (Nat → Int32) × (Nat → Int32) × (Nat → Int32) × (Nat → Int32) × (Nat → Int32)) := bd1 (fX11_areTwo x17 v1 v2) fun r_1 => (if r_1 = 0 then (some ((-1), x33, x60, x61, x62, x63, x64, x65, x66)) else (bd1 (fX11_isWithin v3 1 20) fun r_3 => (if r_3 = 0 then (some ((-1), x33, x60, x61, x62, x63, x64, x65, x66)) else (bd1 (fX11_isWithin v4 0 2) fun r_5 => (if r_5 = 0 then (some ((-1), x33, x60, x61, x62, x63, x64, x65, x66)) else (bd7 (fX2_playN x17 x18 x23 x24 x25 x26 v1 v2 v3 x33 x61 x62 x63 x64 x65 x66) fun x33_7 x61_8 x62_9 x63_10 x64_11 x65_12 x66_13 => (bd1 (fX2_find x65_12 x66_13 x60) fun x60_15 => (if v4 = 0 then (some (x60_15 4, x33_7, x60_15, x61_8, x62_9, x63_10, x64_11, x65_12, x66_13)) else (if v4 = 1 then (some (x60_15 5, x33_7, x60_15, x61_8, x62_9, x63_10, x64_11, x65_12, x66_13)) else (some (x60_15 6, x33_7, x60_15, x61_8, x62_9, x63_10, x64_11, x65_12, x66_13)))))))))))
set_option maxHeartbeats 4000000 in
set_option maxRecDepth 100000 in
theorem wX11_restsN_0 {l : Launch} {b0 : Nat} {D : GD} {K : KT} {n : Nat} {κ : QT} {X0 : XT} {Y0 : YT} {Z : ZT} (hL : LY n κ) (hN : ([0, 16, 17, 18, 23, 24, 25, 26, 33, 60, 61, 62, 63, 64, 65, 66] : List Nat).Nodup) (hM : ([] : List Nat).Nodup) (hC : gC l b0 D K RX11 cX11_rests (some FieldType.int) 5 7 190 0 0) {x0 : Nat → Int32} {x16 : Nat → Int32} {x17 : Nat → Int32} {x18 : Nat → Int32} {x23 : Nat → Int32} {x24 : Nat → Int32} {x25 : Nat → Int32} {x26 : Nat → Int32} (hri : fX11_isWithin (x16 8) 0 (x0 4 - 1) = some 0) {r : Int32} {rx33 : (Nat → Int32)} {rx60 : (Nat → Int32)} {rx61 : (Nat → Int32)} {rx62 : (Nat → Int32)} {rx63 : (Nat → Int32)} {rx64 : (Nat → Int32)} {rx65 : (Nat → Int32)} {rx66 : (Nat → Int32)} (hret : ∀ pc loc, narrow .int (.int r) = .int r → decode cX11_rests pc = .ok (.ireturn, 1) → gV l b0 D K (n, κ, ov X0 [0, 16, 17, 18, 23, 24, 25, 26, 33, 60, 61, 62, 63, 64, 65, 66] [x0, x16, x17, x18, x23, x24, x25, x26, rx33, rx60, rx61, rx62, rx63, rx64, rx65, rx66], ov Y0 [] [], Z, 0, 0) pc loc [.int r]) {v1 : Int32} {v2 : Int32} {v3 : Int32} {v4 : Int32} {x33 : (Nat → Int32)} {x60 : (Nat → Int32)} {x61 : (Nat → Int32)} {x62 : (Nat → Int32)} {x63 : (Nat → Int32)} {x64 : (Nat → Int32)} {x65 : (Nat → Int32)} {x66 : (Nat → Int32)} (hf : fX11_restsN_0 x0 x16 x17 x18 x23 x24 x25 x26  v1 v2 v3 v4 x33 x60 x61 x62 x63 x64 x65 x66 = some (r, rx33, rx60, rx61, rx62, rx63, rx64, rx65, rx66)) : gV l b0 D K (n, κ, ov X0 [0, 16, 17, 18, 23, 24, 25, 26, 33, 60, 61, 62, 63, 64, 65, 66] [x0, x16, x17, x18, x23, x24, x25, x26, x33, x60, x61, x62, x63, x64, x65, x66], ov Y0 [] [], Z, 0, 0) 0 [(0, .ref (b0 + 0)), (1, .int v1), (2, .int v2), (3, .int v3), (4, .int v4)] [] := by
  unfold fX11_restsN_0 at hf
  refine g_aload_n hC 0 dX11_rests_0 rfl rfl ?_
  refine g_iload_n hC 1 dX11_rests_1 rfl rfl ?_
  refine g_iload_n hC 2 dX11_rests_2 rfl rfl ?_
  obtain ⟨r_1, q_2, hf⟩ := bd1E hf
  refine g_callV_i (a := 0) hC (X' := ov X0 [0, 16, 17, 18, 23, 24, 25, 26, 33, 60, 61, 62, 63, 64, 65, 66] [x0, x16, x17, x18, x23, x24, x25, x26, x33, x60, x61, x62, x63, x64, x65, x66]) (Y' := ov Y0 [] []) (As := [.int v1, .int v2]) (gMi_eq (c_X11_areTwo l hL (ov_map hN [2] (by rfl) (by rfl)) (ov_map hM [] (by rfl) (by rfl)) q_2) (ov_ovE hN (by rfl) [2] [0, 1, 3, 4, 5, 6, 7, 8, 9, 10, 11, 12, 13, 14, 15] (by rfl) (by rfl) [x0, x16, x18, x23, x24, x25, x26, x33, x60, x61, x62, x63, x64, x65, x66] (by rfl) (by rfl) (by rfl) 16 (by rfl) (by decide)) (ov_ovE hM (by rfl) [] [] (by rfl) (by rfl) [] (by rfl) (by rfl) (by rfl) 0 (by rfl) (by decide))) tw_841 tw_838 tw_116 tw_840 tw_24 (ci := 11) rfl (by decide) (kk_0 hL) (kn_0 hL) pd_X11_areTwo (by decide) (by decide) rfl rfl (Nat.le_of_ble_eq_true rfl) rfl dX11_rests_3 ?_
  refine g_if_eq hC 29 dX11_rests_6 (by decide) (fun hc => ?_) (fun hc => ?_)
  · replace hf := ifT hf hc
    refine g_iconst hC (v := (-1)) dX11_rests_29 ic_m1 ?_
    obtain ⟨rfl, rfl, rfl, rfl, rfl, rfl, rfl, rfl, rfl⟩ := sm9E hf
    exact hret _ _ rfl dX11_rests_30
  · replace hf := ifF hf hc
    refine g_iload_n hC 3 dX11_rests_9 rfl rfl ?_
    refine g_iconst hC (v := 1) dX11_rests_10 ic_1 ?_
    refine g_bipush hC (v := 20) dX11_rests_11 bp_20 ?_
    obtain ⟨r_3, q_4, hf⟩ := bd1E hf
    refine g_callS_i hC (X' := ov X0 [0, 16, 17, 18, 23, 24, 25, 26, 33, 60, 61, 62, 63, 64, 65, 66] [x0, x16, x17, x18, x23, x24, x25, x26, x33, x60, x61, x62, x63, x64, x65, x66]) (Y' := ov Y0 [] []) (As := [.int v3, .int 1, .int 20]) (gMi_eq (c_X11_isWithin l hL (ov_map hN [] (by rfl) (by rfl)) (ov_map hM [] (by rfl) (by rfl)) q_4) (ov_ovE hN (by rfl) [] [0, 1, 2, 3, 4, 5, 6, 7, 8, 9, 10, 11, 12, 13, 14, 15] (by rfl) (by rfl) [x0, x16, x17, x18, x23, x24, x25, x26, x33, x60, x61, x62, x63, x64, x65, x66] (by rfl) (by rfl) (by rfl) 16 (by rfl) (by decide)) (ov_ovE hM (by rfl) [] [] (by rfl) (by rfl) [] (by rfl) (by rfl) (by rfl) 0 (by rfl) (by decide))) tw_666 tw_870 tw_116 tw_665 pd_X11_isWithin (by decide) (by decide) rfl rfl (Nat.le_of_ble_eq_true rfl) rfl dX11_rests_13 ?_
    refine g_if_eq hC 29 dX11_rests_16 (by decide) (fun hc => ?_) (fun hc => ?_)
    · replace hf := ifT hf hc
      refine g_iconst hC (v := (-1)) dX11_rests_29 ic_m1 ?_
      obtain ⟨rfl, rfl, rfl, rfl, rfl, rfl, rfl, rfl, rfl⟩ := sm9E hf
      exact hret _ _ rfl dX11_rests_30
    · replace hf := ifF hf hc
      refine g_iload hC 4 dX11_rests_19 rfl ?_
      refine g_iconst hC (v := 0) dX11_rests_21 ic_0 ?_
      refine g_iconst hC (v := 2) dX11_rests_22 ic_2 ?_
      obtain ⟨r_5, q_6, hf⟩ := bd1E hf
      refine g_callS_i hC (X' := ov X0 [0, 16, 17, 18, 23, 24, 25, 26, 33, 60, 61, 62, 63, 64, 65, 66] [x0, x16, x17, x18, x23, x24, x25, x26, x33, x60, x61, x62, x63, x64, x65, x66]) (Y' := ov Y0 [] []) (As := [.int v4, .int 0, .int 2]) (gMi_eq (c_X11_isWithin l hL (ov_map hN [] (by rfl) (by rfl)) (ov_map hM [] (by rfl) (by rfl)) q_6) (ov_ovE hN (by rfl) [] [0, 1, 2, 3, 4, 5, 6, 7, 8, 9, 10, 11, 12, 13, 14, 15] (by rfl) (by rfl) [x0, x16, x17, x18, x23, x24, x25, x26, x33, x60, x61, x62, x63, x64, x65, x66] (by rfl) (by rfl) (by rfl) 16 (by rfl) (by decide)) (ov_ovE hM (by rfl) [] [] (by rfl) (by rfl) [] (by rfl) (by rfl) (by rfl) 0 (by rfl) (by decide))) tw_666 tw_870 tw_116 tw_665 pd_X11_isWithin (by decide) (by decide) rfl rfl (Nat.le_of_ble_eq_true rfl) rfl dX11_rests_23 ?_
      refine g_if_ne hC 31 dX11_rests_26 (by decide) (fun hc => ?_) (fun hc => ?_)
      · replace hf := ifF hf hc
        refine g_aload_n hC 0 dX11_rests_31 rfl rfl ?_
        refine gt_X11_85 hC (a := 0) (kk_0 hL) (kn_0 hL) dX11_rests_32 ?_
        refine g_ref (b := 60) rfl ?_
        refine g_aload_n hC 0 dX11_rests_35 rfl rfl ?_
        refine gt_X11_41 hC (a := 0) (kk_0 hL) (kn_0 hL) dX11_rests_36 ?_
        refine g_ref (b := 16) rfl ?_
        refine gt_X11_140 hC (a := 16) (kk_16 hL) (kn_16 hL) dX11_rests_39 ?_
        refine g_ref (b := 23) rfl ?_
        refine g_aload_n hC 0 dX11_rests_42 rfl rfl ?_
        refine g_callV_q (a := 0) hC (As := []) (c_rifN l hL (ov_get hN 0 rfl rfl) (ov_get hN 1 rfl rfl) hri) tw_869 tw_866 tw_116 tw_868 tw_28 (ci := 11) rfl (by decide) (kk_0 hL) (kn_0 hL) pd_X11_ruleInForce (by decide) (by decide) rfl rfl (Nat.le_of_ble_eq_true rfl) rfl dX11_rests_43 ?_
        refine g_iload_n hC 1 dX11_rests_46 rfl rfl ?_
        refine g_iload_n hC 2 dX11_rests_47 rfl rfl ?_
        refine g_iload_n hC 3 dX11_rests_48 rfl rfl ?_
        obtain ⟨x33_7, x61_8, x62_9, x63_10, x64_11, x65_12, x66_13, q_14, hf⟩ := bd7E hf
        refine g_callV_v (a := 60) hC (X' := ov X0 [0, 16, 17, 18, 23, 24, 25, 26, 33, 60, 61, 62, 63, 64, 65, 66] [x0, x16, x17, x18, x23, x24, x25, x26, x33_7, x60, x61_8, x62_9, x63_10, x64_11, x65_12, x66_13]) (Y' := ov Y0 [] []) (As := [.ref (b0 + 23), .null, .int v1, .int v2, .int v3]) (gMv_eq (c_X2_playN l hL (ov_map hN [2, 3, 4, 5, 6, 7, 8, 10, 11, 12, 13, 14, 15] (by rfl) (by rfl)) (ov_map hM [] (by rfl) (by rfl)) q_14) (ov_ovE hN (by rfl) [2, 3, 4, 5, 6, 7, 8, 10, 11, 12, 13, 14, 15] [0, 1, 9] (by rfl) (by rfl) [x0, x16, x60] (by rfl) (by rfl) (by rfl) 16 (by rfl) (by decide)) (ov_ovE hM (by rfl) [] [] (by rfl) (by rfl) [] (by rfl) (by rfl) (by rfl) 0 (by rfl) (by decide))) tw_1062 tw_1059 tw_125 tw_1060 tw_1061 (ci := 2) rfl (by decide) (kk_60 hL) (kn_60 hL) pd_X2_play (by decide) (by decide) rfl rfl (Nat.le_of_ble_eq_true rfl) rfl dX11_rests_49 ?_
        refine g_aload_n hC 0 dX11_rests_52 rfl rfl ?_
        refine gt_X11_85 hC (a := 0) (kk_0 hL) (kn_0 hL) dX11_rests_53 ?_
        refine g_ref (b := 60) rfl ?_
        obtain ⟨x60_15, q_16, hf⟩ := bd1E hf
        refine g_callV_v (a := 60) hC (X' := ov X0 [0, 16, 17, 18, 23, 24, 25, 26, 33, 60, 61, 62, 63, 64, 65, 66] [x0, x16, x17, x18, x23, x24, x25, x26, x33_7, x60_15, x61_8, x62_9, x63_10, x64_11, x65_12, x66_13]) (Y' := ov Y0 [] []) (As := []) (gMv_eq (c_X2_find l hL (ov_map hN [9, 14, 15] (by rfl) (by rfl)) (ov_map hM [] (by rfl) (by rfl)) q_16) (ov_ovE hN (by rfl) [9, 14, 15] [0, 1, 2, 3, 4, 5, 6, 7, 8, 10, 11, 12, 13] (by rfl) (by rfl) [x0, x16, x17, x18, x23, x24, x25, x26, x33_7, x61_8, x62_9, x63_10, x64_11] (by rfl) (by rfl) (by rfl) 16 (by rfl) (by decide)) (ov_ovE hM (by rfl) [] [] (by rfl) (by rfl) [] (by rfl) (by rfl) (by rfl) 0 (by rfl) (by decide))) tw_1068 tw_1065 tw_125 tw_1066 tw_1067 (ci := 2) rfl (by decide) (kk_60 hL) (kn_60 hL) pd_X2_find (by decide) (by decide) rfl rfl (Nat.le_of_ble_eq_true rfl) rfl dX11_rests_56 ?_
        refine g_iload hC 4 dX11_rests_59 rfl ?_
        refine g_if_ne hC 72 dX11_rests_61 (by decide) (fun hc => ?_) (fun hc => ?_)
        · replace hf := ifF hf hc
          refine g_iload hC 4 dX11_rests_72 rfl ?_
          refine g_iconst hC (v := 1) dX11_rests_74 ic_1 ?_
          refine g_icmp_ne hC 88 dX11_rests_75 (by decide) (fun hc => ?_) (fun hc => ?_)
          · replace hf := ifF hf hc
            refine g_aload_n hC 0 dX11_rests_88 rfl rfl ?_
            refine gt_X11_85 hC (a := 0) (kk_0 hL) (kn_0 hL) dX11_rests_89 ?_
            refine g_ref (b := 60) rfl ?_
            refine gt_X11_268 hC (x := x60_15) (kk_60 hL) (kn_60 hL) (ov_get hN 9 rfl rfl) dX11_rests_92 ?_
            obtain ⟨rfl, rfl, rfl, rfl, rfl, rfl, rfl, rfl, rfl⟩ := sm9E hf
            exact hret _ _ rfl dX11_rests_95
          · replace hf := ifT hf hc
            refine g_aload_n hC 0 dX11_rests_78 rfl rfl ?_
            refine gt_X11_85 hC (a := 0) (kk_0 hL) (kn_0 hL) dX11_rests_79 ?_
            refine g_ref (b := 60) rfl ?_
            refine gt_X11_265 hC (x := x60_15) (kk_60 hL) (kn_60 hL) (ov_get hN 9 rfl rfl) dX11_rests_82 ?_
            refine g_goto hC 95 dX11_rests_85 (by decide) ?_
            obtain ⟨rfl, rfl, rfl, rfl, rfl, rfl, rfl, rfl, rfl⟩ := sm9E hf
            exact hret _ _ rfl dX11_rests_95
        · replace hf := ifT hf hc
          refine g_aload_n hC 0 dX11_rests_64 rfl rfl ?_
          refine gt_X11_85 hC (a := 0) (kk_0 hL) (kn_0 hL) dX11_rests_65 ?_
          refine g_ref (b := 60) rfl ?_
          refine gt_X11_262 hC (x := x60_15) (kk_60 hL) (kn_60 hL) (ov_get hN 9 rfl rfl) dX11_rests_68 ?_
          obtain ⟨rfl, rfl, rfl, rfl, rfl, rfl, rfl, rfl, rfl⟩ := sm9E hf
          exact hret _ _ rfl dX11_rests_71
      · replace hf := ifT hf hc
        refine g_iconst hC (v := (-1)) dX11_rests_29 ic_m1 ?_
        obtain ⟨rfl, rfl, rfl, rfl, rfl, rfl, rfl, rfl, rfl⟩ := sm9E hf
        exact hret _ _ rfl dX11_rests_30

def fX11_restsN   (x0 : Nat → Int32) (x16 : Nat → Int32) (x17 : Nat → Int32) (x18 : Nat → Int32) (x23 : Nat → Int32) (x24 : Nat → Int32) (x25 : Nat → Int32) (x26 : Nat → Int32)  (v1 : Int32) (v2 : Int32) (v3 : Int32) (v4 : Int32) (x33 : Nat → Int32) (x60 : Nat → Int32) (x61 : Nat → Int32) (x62 : Nat → Int32) (x63 : Nat → Int32) (x64 : Nat → Int32) (x65 : Nat → Int32) (x66 : Nat → Int32)  : Option (Int32 × (Nat → Int32) × (Nat → Int32) × (Nat → Int32) × (Nat → Int32) × (Nat → Int32) × (Nat → Int32) × (Nat → Int32) × (Nat → Int32)) := fX11_restsN_0 x0 x16 x17 x18 x23 x24 x25 x26 v1 v2 v3 v4 x33 x60 x61 x62 x63 x64 x65 x66

set_option maxHeartbeats 4000000 in
set_option maxRecDepth 100000 in
theorem c_X11_restsN (l : Launch) {b0 : Nat} {D : GD} {n : Nat} {κ : QT} {X0 : XT} {Y0 : YT} {Z : ZT} (hL : LY n κ) {x0 : Nat → Int32} {x16 : Nat → Int32} {x17 : Nat → Int32} {x18 : Nat → Int32} {x23 : Nat → Int32} {x24 : Nat → Int32} {x25 : Nat → Int32} {x26 : Nat → Int32} {x33 : Nat → Int32} {x60 : Nat → Int32} {x61 : Nat → Int32} {x62 : Nat → Int32} {x63 : Nat → Int32} {x64 : Nat → Int32} {x65 : Nat → Int32} {x66 : Nat → Int32} (hri : fX11_isWithin (x16 8) 0 (x0 4 - 1) = some 0) (hx : ([0, 16, 17, 18, 23, 24, 25, 26, 33, 60, 61, 62, 63, 64, 65, 66] : List Nat).map X0 = [x0, x16, x17, x18, x23, x24, x25, x26, x33, x60, x61, x62, x63, x64, x65, x66]) (hy : ([] : List Nat).map Y0 = []) {v1 : Int32} {v2 : Int32} {v3 : Int32} {v4 : Int32} {r : Int32} {rx33 : (Nat → Int32)} {rx60 : (Nat → Int32)} {rx61 : (Nat → Int32)} {rx62 : (Nat → Int32)} {rx63 : (Nat → Int32)} {rx64 : (Nat → Int32)} {rx65 : (Nat → Int32)} {rx66 : (Nat → Int32)} (hf : fX11_restsN x0 x16 x17 x18 x23 x24 x25 x26 v1 v2 v3 v4 x33 x60 x61 x62 x63 x64 x65 x66 = some (r, rx33, rx60, rx61, rx62, rx63, rx64, rx65, rx66)) : gMi l yX11_rests cX11_rests 5 (some FieldType.int) 7 190 0 0 b0 D [.ref (b0 + 0), .int v1, .int v2, .int v3, .int v4] (n, κ, X0, Y0, Z) (n, κ, ov X0 [0, 16, 17, 18, 23, 24, 25, 26, 33, 60, 61, 62, 63, 64, 65, 66] [x0, x16, x17, x18, x23, x24, x25, x26, rx33, rx60, rx61, rx62, rx63, rx64, rx65, rx66], ov Y0 [] [], Z) r := by
  have hN : ([0, 16, 17, 18, 23, 24, 25, 26, 33, 60, 61, 62, 63, 64, 65, 66] : List Nat).Nodup := by decide
  have hM : ([] : List Nat).Nodup := by decide
  refine g_meti (own := RX11) (by decide) rfl rfl (Nat.le_of_ble_eq_true rfl) ?_
  intro K hC hret
  have e := wX11_restsN_0 hL hN hM hC hri hret hf
  rw [ov_id' hx, ov_id' hy] at e
  exact g_sub [0, 1, 2, 3, 4] rfl e

-- X11_rests
def fX11_restsR_0  (Lru : Nat) (xruz1 : Nat → Int32) (x0 : Nat → Int32) (x16 : Nat → Int32) (x17 : Nat → Int32) (x18 : Nat → Int32) (x23 : Nat → Int32) (x24 : Nat → Int32) (x25 : Nat → Int32) (x26 : Nat → Int32)  (v1 : Int32) (v2 : Int32) (v3 : Int32) (v4 : Int32) (x33 : (Nat → Int32)) (x60 : (Nat → Int32)) (x61 : (Nat → Int32)) (x62 : (Nat → Int32)) (x63 : (Nat → Int32)) (x64 : (Nat → Int32)) (x65 : (Nat → Int32)) (x66 : (Nat → Int32)) (yruz2 : (Nat → Int64)) (y34 : (Nat → Int64)) : Option (Int32 × (Nat → Int32) × (Nat → Int32) × (Nat → Int32) × (Nat → Int32) × (Nat → Int32) × (Nat → Int32) × (Nat → Int32) × (Nat → Int32) × (Nat → Int64) × (Nat → Int64)) := bd1 (fX11_areTwo x17 v1 v2) fun r_1 => (if r_1 = 0 then (some ((-1), x33, x60, x61, x62, x63, x64, x65, x66, yruz2, y34)) else (bd1 (fX11_isWithin v3 1 20) fun r_3 => (if r_3 = 0 then (some ((-1), x33, x60, x61, x62, x63, x64, x65, x66, yruz2, y34)) else (bd1 (fX11_isWithin v4 0 2) fun r_5 => (if r_5 = 0 then (some ((-1), x33, x60, x61, x62, x63, x64, x65, x66, yruz2, y34)) else (bd9 (fX2_playR Lru xruz1 x17 x18 x23 x24 x25 x26 v1 v2 v3 x33 x61 x62 x63 x64 x65 x66 yruz2 y34) fun x33_7 x61_8 x62_9 x63_10 x64_11 x65_12 x66_13 yruz2_14 y34_15 => (bd1 (fX2_find x65_12 x66_13 x60) fun x60_17 => (if v4 = 0 then (some (x60_17 4, x33_7, x60_17, x61_8, x62_9, x63_10, x64_11, x65_12, x66_13, yruz2_14, y34_15)) else (if v4 = 1 then (some (x60_17 5, x33_7, x60_17, x61_8, x62_9, x63_10, x64_11, x65_12, x66_13, yruz2_14, y34_15)) else (some (x60_17 6, x33_7, x60_17, x61_8, x62_9, x63_10, x64_11, x65_12, x66_13, yruz2_14, y34_15)))))))))))
set_option maxHeartbeats 4000000 in
set_option maxRecDepth 100000 in
theorem wX11_restsR_0 {l : Launch} {b0 : Nat} {D : GD} {K : KT} {n : Nat} {κ : QT} {X0 : XT} {Y0 : YT} {Z : ZT} {ru : Nat} {Lru : Nat} (hL : LY n κ) (hk_ru : κ ru = (4, 0)) (hn_ru : ru < n) (hk_ru_1 : κ (ru + 1) = (14, Lru)) (hN : ([ru + 1, 0, 16, 17, 18, 23, 24, 25, 26, 33, 60, 61, 62, 63, 64, 65, 66] : List Nat).Nodup) (hM : ([ru + 2, 34] : List Nat).Nodup) (hC : gC l b0 D K RX11 cX11_rests (some FieldType.int) 5 7 190 0 0) {xruz1 : Nat → Int32} {x0 : Nat → Int32} {x16 : Nat → Int32} {x17 : Nat → Int32} {x18 : Nat → Int32} {x23 : Nat → Int32} {x24 : Nat → Int32} {x25 : Nat → Int32} {x26 : Nat → Int32} (hri : fX11_isWithin (x16 8) 0 (x0 4 - 1) = some 1 ∧ inb (x16 8) 6 = true ∧ Z 15 (x16 8).toNatClampNeg = some ru) {r : Int32} {rx33 : (Nat → Int32)} {rx60 : (Nat → Int32)} {rx61 : (Nat → Int32)} {rx62 : (Nat → Int32)} {rx63 : (Nat → Int32)} {rx64 : (Nat → Int32)} {rx65 : (Nat → Int32)} {rx66 : (Nat → Int32)} {ryruz2 : (Nat → Int64)} {ry34 : (Nat → Int64)} (hret : ∀ pc loc, narrow .int (.int r) = .int r → decode cX11_rests pc = .ok (.ireturn, 1) → gV l b0 D K (n, κ, ov X0 [ru + 1, 0, 16, 17, 18, 23, 24, 25, 26, 33, 60, 61, 62, 63, 64, 65, 66] [xruz1, x0, x16, x17, x18, x23, x24, x25, x26, rx33, rx60, rx61, rx62, rx63, rx64, rx65, rx66], ov Y0 [ru + 2, 34] [ryruz2, ry34], Z, 0, 0) pc loc [.int r]) {v1 : Int32} {v2 : Int32} {v3 : Int32} {v4 : Int32} {x33 : (Nat → Int32)} {x60 : (Nat → Int32)} {x61 : (Nat → Int32)} {x62 : (Nat → Int32)} {x63 : (Nat → Int32)} {x64 : (Nat → Int32)} {x65 : (Nat → Int32)} {x66 : (Nat → Int32)} {yruz2 : (Nat → Int64)} {y34 : (Nat → Int64)} (hf : fX11_restsR_0 Lru xruz1 x0 x16 x17 x18 x23 x24 x25 x26  v1 v2 v3 v4 x33 x60 x61 x62 x63 x64 x65 x66 yruz2 y34 = some (r, rx33, rx60, rx61, rx62, rx63, rx64, rx65, rx66, ryruz2, ry34)) : gV l b0 D K (n, κ, ov X0 [ru + 1, 0, 16, 17, 18, 23, 24, 25, 26, 33, 60, 61, 62, 63, 64, 65, 66] [xruz1, x0, x16, x17, x18, x23, x24, x25, x26, x33, x60, x61, x62, x63, x64, x65, x66], ov Y0 [ru + 2, 34] [yruz2, y34], Z, 0, 0) 0 [(0, .ref (b0 + 0)), (1, .int v1), (2, .int v2), (3, .int v3), (4, .int v4)] [] := by
  unfold fX11_restsR_0 at hf
  refine g_aload_n hC 0 dX11_rests_0 rfl rfl ?_
  refine g_iload_n hC 1 dX11_rests_1 rfl rfl ?_
  refine g_iload_n hC 2 dX11_rests_2 rfl rfl ?_
  obtain ⟨r_1, q_2, hf⟩ := bd1E hf
  refine g_callV_i (a := 0) hC (X' := ov X0 [ru + 1, 0, 16, 17, 18, 23, 24, 25, 26, 33, 60, 61, 62, 63, 64, 65, 66] [xruz1, x0, x16, x17, x18, x23, x24, x25, x26, x33, x60, x61, x62, x63, x64, x65, x66]) (Y' := ov Y0 [ru + 2, 34] [yruz2, y34]) (As := [.int v1, .int v2]) (gMi_eq (c_X11_areTwo l hL (ov_map hN [3] (by rfl) (by rfl)) (ov_map hM [] (by rfl) (by rfl)) q_2) (ov_ovE hN (by rfl) [3] [0, 1, 2, 4, 5, 6, 7, 8, 9, 10, 11, 12, 13, 14, 15, 16] (by rfl) (by rfl) [xruz1, x0, x16, x18, x23, x24, x25, x26, x33, x60, x61, x62, x63, x64, x65, x66] (by rfl) (by rfl) (by rfl) 17 (by rfl) (by decide)) (ov_ovE hM (by rfl) [] [0, 1] (by rfl) (by rfl) [yruz2, y34] (by rfl) (by rfl) (by rfl) 2 (by rfl) (by decide))) tw_841 tw_838 tw_116 tw_840 tw_24 (ci := 11) rfl (by decide) (kk_0 hL) (kn_0 hL) pd_X11_areTwo (by decide) (by decide) rfl rfl (Nat.le_of_ble_eq_true rfl) rfl dX11_rests_3 ?_
  refine g_if_eq hC 29 dX11_rests_6 (by decide) (fun hc => ?_) (fun hc => ?_)
  · replace hf := ifT hf hc
    refine g_iconst hC (v := (-1)) dX11_rests_29 ic_m1 ?_
    obtain ⟨rfl, rfl, rfl, rfl, rfl, rfl, rfl, rfl, rfl, rfl, rfl⟩ := sm11E hf
    exact hret _ _ rfl dX11_rests_30
  · replace hf := ifF hf hc
    refine g_iload_n hC 3 dX11_rests_9 rfl rfl ?_
    refine g_iconst hC (v := 1) dX11_rests_10 ic_1 ?_
    refine g_bipush hC (v := 20) dX11_rests_11 bp_20 ?_
    obtain ⟨r_3, q_4, hf⟩ := bd1E hf
    refine g_callS_i hC (X' := ov X0 [ru + 1, 0, 16, 17, 18, 23, 24, 25, 26, 33, 60, 61, 62, 63, 64, 65, 66] [xruz1, x0, x16, x17, x18, x23, x24, x25, x26, x33, x60, x61, x62, x63, x64, x65, x66]) (Y' := ov Y0 [ru + 2, 34] [yruz2, y34]) (As := [.int v3, .int 1, .int 20]) (gMi_eq (c_X11_isWithin l hL (ov_map hN [] (by rfl) (by rfl)) (ov_map hM [] (by rfl) (by rfl)) q_4) (ov_ovE hN (by rfl) [] [0, 1, 2, 3, 4, 5, 6, 7, 8, 9, 10, 11, 12, 13, 14, 15, 16] (by rfl) (by rfl) [xruz1, x0, x16, x17, x18, x23, x24, x25, x26, x33, x60, x61, x62, x63, x64, x65, x66] (by rfl) (by rfl) (by rfl) 17 (by rfl) (by decide)) (ov_ovE hM (by rfl) [] [0, 1] (by rfl) (by rfl) [yruz2, y34] (by rfl) (by rfl) (by rfl) 2 (by rfl) (by decide))) tw_666 tw_870 tw_116 tw_665 pd_X11_isWithin (by decide) (by decide) rfl rfl (Nat.le_of_ble_eq_true rfl) rfl dX11_rests_13 ?_
    refine g_if_eq hC 29 dX11_rests_16 (by decide) (fun hc => ?_) (fun hc => ?_)
    · replace hf := ifT hf hc
      refine g_iconst hC (v := (-1)) dX11_rests_29 ic_m1 ?_
      obtain ⟨rfl, rfl, rfl, rfl, rfl, rfl, rfl, rfl, rfl, rfl, rfl⟩ := sm11E hf
      exact hret _ _ rfl dX11_rests_30
    · replace hf := ifF hf hc
      refine g_iload hC 4 dX11_rests_19 rfl ?_
      refine g_iconst hC (v := 0) dX11_rests_21 ic_0 ?_
      refine g_iconst hC (v := 2) dX11_rests_22 ic_2 ?_
      obtain ⟨r_5, q_6, hf⟩ := bd1E hf
      refine g_callS_i hC (X' := ov X0 [ru + 1, 0, 16, 17, 18, 23, 24, 25, 26, 33, 60, 61, 62, 63, 64, 65, 66] [xruz1, x0, x16, x17, x18, x23, x24, x25, x26, x33, x60, x61, x62, x63, x64, x65, x66]) (Y' := ov Y0 [ru + 2, 34] [yruz2, y34]) (As := [.int v4, .int 0, .int 2]) (gMi_eq (c_X11_isWithin l hL (ov_map hN [] (by rfl) (by rfl)) (ov_map hM [] (by rfl) (by rfl)) q_6) (ov_ovE hN (by rfl) [] [0, 1, 2, 3, 4, 5, 6, 7, 8, 9, 10, 11, 12, 13, 14, 15, 16] (by rfl) (by rfl) [xruz1, x0, x16, x17, x18, x23, x24, x25, x26, x33, x60, x61, x62, x63, x64, x65, x66] (by rfl) (by rfl) (by rfl) 17 (by rfl) (by decide)) (ov_ovE hM (by rfl) [] [0, 1] (by rfl) (by rfl) [yruz2, y34] (by rfl) (by rfl) (by rfl) 2 (by rfl) (by decide))) tw_666 tw_870 tw_116 tw_665 pd_X11_isWithin (by decide) (by decide) rfl rfl (Nat.le_of_ble_eq_true rfl) rfl dX11_rests_23 ?_
      refine g_if_ne hC 31 dX11_rests_26 (by decide) (fun hc => ?_) (fun hc => ?_)
      · replace hf := ifF hf hc
        refine g_aload_n hC 0 dX11_rests_31 rfl rfl ?_
        refine gt_X11_85 hC (a := 0) (kk_0 hL) (kn_0 hL) dX11_rests_32 ?_
        refine g_ref (b := 60) rfl ?_
        refine g_aload_n hC 0 dX11_rests_35 rfl rfl ?_
        refine gt_X11_41 hC (a := 0) (kk_0 hL) (kn_0 hL) dX11_rests_36 ?_
        refine g_ref (b := 16) rfl ?_
        refine gt_X11_140 hC (a := 16) (kk_16 hL) (kn_16 hL) dX11_rests_39 ?_
        refine g_ref (b := 23) rfl ?_
        refine g_aload_n hC 0 dX11_rests_42 rfl rfl ?_
        refine g_callV_q (a := 0) hC (As := []) (c_rifR l hL (ov_get hN 1 rfl rfl) (ov_get hN 2 rfl rfl) hri) tw_869 tw_866 tw_116 tw_868 tw_28 (ci := 11) rfl (by decide) (kk_0 hL) (kn_0 hL) pd_X11_ruleInForce (by decide) (by decide) rfl rfl (Nat.le_of_ble_eq_true rfl) rfl dX11_rests_43 ?_
        refine g_iload_n hC 1 dX11_rests_46 rfl rfl ?_
        refine g_iload_n hC 2 dX11_rests_47 rfl rfl ?_
        refine g_iload_n hC 3 dX11_rests_48 rfl rfl ?_
        obtain ⟨x33_7, x61_8, x62_9, x63_10, x64_11, x65_12, x66_13, yruz2_14, y34_15, q_16, hf⟩ := bd9E hf
        refine g_callV_v (a := 60) hC (X' := ov X0 [ru + 1, 0, 16, 17, 18, 23, 24, 25, 26, 33, 60, 61, 62, 63, 64, 65, 66] [xruz1, x0, x16, x17, x18, x23, x24, x25, x26, x33_7, x60, x61_8, x62_9, x63_10, x64_11, x65_12, x66_13]) (Y' := ov Y0 [ru + 2, 34] [yruz2_14, y34_15]) (As := [.ref (b0 + 23), .ref (b0 + ru), .int v1, .int v2, .int v3]) (gMv_eq (c_X2_playR l hL hk_ru hn_ru hk_ru_1 (nd_sub hN [0, 3, 4, 5, 6, 7, 8, 9, 11, 12, 13, 14, 15, 16] (by decide) (by rfl)) (nd_sub hM [0, 1] (by decide) (by rfl)) (ov_map hN [0, 3, 4, 5, 6, 7, 8, 9, 11, 12, 13, 14, 15, 16] (by rfl) (by rfl)) (ov_map hM [0, 1] (by rfl) (by rfl)) q_16) (ov_ovE hN (by rfl) [0, 3, 4, 5, 6, 7, 8, 9, 11, 12, 13, 14, 15, 16] [1, 2, 10] (by rfl) (by rfl) [x0, x16, x60] (by rfl) (by rfl) (by rfl) 17 (by rfl) (by decide)) (ov_ovE hM (by rfl) [0, 1] [] (by rfl) (by rfl) [] (by rfl) (by rfl) (by rfl) 2 (by rfl) (by decide))) tw_1062 tw_1059 tw_125 tw_1060 tw_1061 (ci := 2) rfl (by decide) (kk_60 hL) (kn_60 hL) pd_X2_play (by decide) (by decide) rfl rfl (Nat.le_of_ble_eq_true rfl) rfl dX11_rests_49 ?_
        refine g_aload_n hC 0 dX11_rests_52 rfl rfl ?_
        refine gt_X11_85 hC (a := 0) (kk_0 hL) (kn_0 hL) dX11_rests_53 ?_
        refine g_ref (b := 60) rfl ?_
        obtain ⟨x60_17, q_18, hf⟩ := bd1E hf
        refine g_callV_v (a := 60) hC (X' := ov X0 [ru + 1, 0, 16, 17, 18, 23, 24, 25, 26, 33, 60, 61, 62, 63, 64, 65, 66] [xruz1, x0, x16, x17, x18, x23, x24, x25, x26, x33_7, x60_17, x61_8, x62_9, x63_10, x64_11, x65_12, x66_13]) (Y' := ov Y0 [ru + 2, 34] [yruz2_14, y34_15]) (As := []) (gMv_eq (c_X2_find l hL (ov_map hN [10, 15, 16] (by rfl) (by rfl)) (ov_map hM [] (by rfl) (by rfl)) q_18) (ov_ovE hN (by rfl) [10, 15, 16] [0, 1, 2, 3, 4, 5, 6, 7, 8, 9, 11, 12, 13, 14] (by rfl) (by rfl) [xruz1, x0, x16, x17, x18, x23, x24, x25, x26, x33_7, x61_8, x62_9, x63_10, x64_11] (by rfl) (by rfl) (by rfl) 17 (by rfl) (by decide)) (ov_ovE hM (by rfl) [] [0, 1] (by rfl) (by rfl) [yruz2_14, y34_15] (by rfl) (by rfl) (by rfl) 2 (by rfl) (by decide))) tw_1068 tw_1065 tw_125 tw_1066 tw_1067 (ci := 2) rfl (by decide) (kk_60 hL) (kn_60 hL) pd_X2_find (by decide) (by decide) rfl rfl (Nat.le_of_ble_eq_true rfl) rfl dX11_rests_56 ?_
        refine g_iload hC 4 dX11_rests_59 rfl ?_
        refine g_if_ne hC 72 dX11_rests_61 (by decide) (fun hc => ?_) (fun hc => ?_)
        · replace hf := ifF hf hc
          refine g_iload hC 4 dX11_rests_72 rfl ?_
          refine g_iconst hC (v := 1) dX11_rests_74 ic_1 ?_
          refine g_icmp_ne hC 88 dX11_rests_75 (by decide) (fun hc => ?_) (fun hc => ?_)
          · replace hf := ifF hf hc
            refine g_aload_n hC 0 dX11_rests_88 rfl rfl ?_
            refine gt_X11_85 hC (a := 0) (kk_0 hL) (kn_0 hL) dX11_rests_89 ?_
            refine g_ref (b := 60) rfl ?_
            refine gt_X11_268 hC (x := x60_17) (kk_60 hL) (kn_60 hL) (ov_get hN 10 rfl rfl) dX11_rests_92 ?_
            obtain ⟨rfl, rfl, rfl, rfl, rfl, rfl, rfl, rfl, rfl, rfl, rfl⟩ := sm11E hf
            exact hret _ _ rfl dX11_rests_95
          · replace hf := ifT hf hc
            refine g_aload_n hC 0 dX11_rests_78 rfl rfl ?_
            refine gt_X11_85 hC (a := 0) (kk_0 hL) (kn_0 hL) dX11_rests_79 ?_
            refine g_ref (b := 60) rfl ?_
            refine gt_X11_265 hC (x := x60_17) (kk_60 hL) (kn_60 hL) (ov_get hN 10 rfl rfl) dX11_rests_82 ?_
            refine g_goto hC 95 dX11_rests_85 (by decide) ?_
            obtain ⟨rfl, rfl, rfl, rfl, rfl, rfl, rfl, rfl, rfl, rfl, rfl⟩ := sm11E hf
            exact hret _ _ rfl dX11_rests_95
        · replace hf := ifT hf hc
          refine g_aload_n hC 0 dX11_rests_64 rfl rfl ?_
          refine gt_X11_85 hC (a := 0) (kk_0 hL) (kn_0 hL) dX11_rests_65 ?_
          refine g_ref (b := 60) rfl ?_
          refine gt_X11_262 hC (x := x60_17) (kk_60 hL) (kn_60 hL) (ov_get hN 10 rfl rfl) dX11_rests_68 ?_
          obtain ⟨rfl, rfl, rfl, rfl, rfl, rfl, rfl, rfl, rfl, rfl, rfl⟩ := sm11E hf
          exact hret _ _ rfl dX11_rests_71
      · replace hf := ifT hf hc
        refine g_iconst hC (v := (-1)) dX11_rests_29 ic_m1 ?_
        obtain ⟨rfl, rfl, rfl, rfl, rfl, rfl, rfl, rfl, rfl, rfl, rfl⟩ := sm11E hf
        exact hret _ _ rfl dX11_rests_30

def fX11_restsR  (Lru : Nat) (xruz1 : Nat → Int32) (x0 : Nat → Int32) (x16 : Nat → Int32) (x17 : Nat → Int32) (x18 : Nat → Int32) (x23 : Nat → Int32) (x24 : Nat → Int32) (x25 : Nat → Int32) (x26 : Nat → Int32)  (v1 : Int32) (v2 : Int32) (v3 : Int32) (v4 : Int32) (x33 : Nat → Int32) (x60 : Nat → Int32) (x61 : Nat → Int32) (x62 : Nat → Int32) (x63 : Nat → Int32) (x64 : Nat → Int32) (x65 : Nat → Int32) (x66 : Nat → Int32) (yruz2 : Nat → Int64) (y34 : Nat → Int64) : Option (Int32 × (Nat → Int32) × (Nat → Int32) × (Nat → Int32) × (Nat → Int32) × (Nat → Int32) × (Nat → Int32) × (Nat → Int32) × (Nat → Int32) × (Nat → Int64) × (Nat → Int64)) := fX11_restsR_0 Lru xruz1 x0 x16 x17 x18 x23 x24 x25 x26 v1 v2 v3 v4 x33 x60 x61 x62 x63 x64 x65 x66 yruz2 y34

set_option maxHeartbeats 4000000 in
set_option maxRecDepth 100000 in
theorem c_X11_restsR (l : Launch) {b0 : Nat} {D : GD} {n : Nat} {κ : QT} {X0 : XT} {Y0 : YT} {Z : ZT} {ru : Nat} {Lru : Nat} (hL : LY n κ) (hk_ru : κ ru = (4, 0)) (hn_ru : ru < n) (hk_ru_1 : κ (ru + 1) = (14, Lru)) (hN : ([ru + 1, 0, 16, 17, 18, 23, 24, 25, 26, 33, 60, 61, 62, 63, 64, 65, 66] : List Nat).Nodup) (hM : ([ru + 2, 34] : List Nat).Nodup) {xruz1 : Nat → Int32} {x0 : Nat → Int32} {x16 : Nat → Int32} {x17 : Nat → Int32} {x18 : Nat → Int32} {x23 : Nat → Int32} {x24 : Nat → Int32} {x25 : Nat → Int32} {x26 : Nat → Int32} {x33 : Nat → Int32} {x60 : Nat → Int32} {x61 : Nat → Int32} {x62 : Nat → Int32} {x63 : Nat → Int32} {x64 : Nat → Int32} {x65 : Nat → Int32} {x66 : Nat → Int32} {yruz2 : Nat → Int64} {y34 : Nat → Int64} (hri : fX11_isWithin (x16 8) 0 (x0 4 - 1) = some 1 ∧ inb (x16 8) 6 = true ∧ Z 15 (x16 8).toNatClampNeg = some ru) (hx : ([ru + 1, 0, 16, 17, 18, 23, 24, 25, 26, 33, 60, 61, 62, 63, 64, 65, 66] : List Nat).map X0 = [xruz1, x0, x16, x17, x18, x23, x24, x25, x26, x33, x60, x61, x62, x63, x64, x65, x66]) (hy : ([ru + 2, 34] : List Nat).map Y0 = [yruz2, y34]) {v1 : Int32} {v2 : Int32} {v3 : Int32} {v4 : Int32} {r : Int32} {rx33 : (Nat → Int32)} {rx60 : (Nat → Int32)} {rx61 : (Nat → Int32)} {rx62 : (Nat → Int32)} {rx63 : (Nat → Int32)} {rx64 : (Nat → Int32)} {rx65 : (Nat → Int32)} {rx66 : (Nat → Int32)} {ryruz2 : (Nat → Int64)} {ry34 : (Nat → Int64)} (hf : fX11_restsR Lru xruz1 x0 x16 x17 x18 x23 x24 x25 x26 v1 v2 v3 v4 x33 x60 x61 x62 x63 x64 x65 x66 yruz2 y34 = some (r, rx33, rx60, rx61, rx62, rx63, rx64, rx65, rx66, ryruz2, ry34)) : gMi l yX11_rests cX11_rests 5 (some FieldType.int) 7 190 0 0 b0 D [.ref (b0 + 0), .int v1, .int v2, .int v3, .int v4] (n, κ, X0, Y0, Z) (n, κ, ov X0 [ru + 1, 0, 16, 17, 18, 23, 24, 25, 26, 33, 60, 61, 62, 63, 64, 65, 66] [xruz1, x0, x16, x17, x18, x23, x24, x25, x26, rx33, rx60, rx61, rx62, rx63, rx64, rx65, rx66], ov Y0 [ru + 2, 34] [ryruz2, ry34], Z) r := by
  refine g_meti (own := RX11) (by decide) rfl rfl (Nat.le_of_ble_eq_true rfl) ?_
  intro K hC hret
  have e := wX11_restsR_0 hL hk_ru hn_ru hk_ru_1 hN hM hC hri hret hf
  rw [ov_id' hx, ov_id' hy] at e
  exact g_sub [0, 1, 2, 3, 4] rfl e

-- X11_passSummer
def fX11_passSummerN_80   (x0 : Nat → Int32) (x16 : Nat → Int32) (x17 : Nat → Int32) (x18 : Nat → Int32) (x23 : Nat → Int32) (x24 : Nat → Int32) (x25 : Nat → Int32) (x26 : Nat → Int32)  (k20 : Int32 → Int32 → Int32 → Int32 → (Nat → Int32) → (Nat → Int32) → (Nat → Int32) → (Nat → Int32) → (Nat → Int32) → Option (Int32 × (Nat → Int32) × (Nat → Int32) × (Nat → Int32) × (Nat → Int32) × (Nat → Int32))) (v2 : Int32) (v3 : Int32) (v4 : Int32) (v5 : Int32) (v6 : Int32) (x33 : (Nat → Int32)) (x35 : (Nat → Int32)) (x36 : (Nat → Int32)) (x37 : (Nat → Int32)) (x38 : (Nat → Int32)) : Option (Int32 × (Nat → Int32) × (Nat → Int32) × (Nat → Int32) × (Nat → Int32) × (Nat → Int32)) := bd6 (fX1_passN x17 v6 x35 x36 x37 x38 x33) fun r_1 x35_2 x36_3 x37_4 x38_5 x33_6 => (bn (v5 + 1) fun t_8 => (k20 v2 v3 v4 t_8 x33_6 x35_2 x36_3 x37_4 x38_5))
set_option maxHeartbeats 4000000 in
set_option maxRecDepth 100000 in
theorem wX11_passSummerN_80 {l : Launch} {b0 : Nat} {D : GD} {K : KT} {n : Nat} {κ : QT} {X0 : XT} {Y0 : YT} {Z : ZT} (hL : LY n κ) (hN : ([0, 16, 17, 18, 23, 24, 25, 26, 33, 35, 36, 37, 38] : List Nat).Nodup) (hM : ([] : List Nat).Nodup) (hC : gC l b0 D K RX11 cX11_passSummer (some FieldType.int) 7 5 138 0 0) {x0 : Nat → Int32} {x16 : Nat → Int32} {x17 : Nat → Int32} {x18 : Nat → Int32} {x23 : Nat → Int32} {x24 : Nat → Int32} {x25 : Nat → Int32} {x26 : Nat → Int32} (hri : fX11_isWithin (x16 8) 0 (x0 4 - 1) = some 0) {r : Int32} {rx33 : (Nat → Int32)} {rx35 : (Nat → Int32)} {rx36 : (Nat → Int32)} {rx37 : (Nat → Int32)} {rx38 : (Nat → Int32)} (hret : ∀ pc loc, narrow .int (.int r) = .int r → decode cX11_passSummer pc = .ok (.ireturn, 1) → gV l b0 D K (n, κ, ov X0 [0, 16, 17, 18, 23, 24, 25, 26, 33, 35, 36, 37, 38] [x0, x16, x17, x18, x23, x24, x25, x26, rx33, rx35, rx36, rx37, rx38], ov Y0 [] [], Z, 0, 0) pc loc [.int r]) {k20 : Int32 → Int32 → Int32 → Int32 → (Nat → Int32) → (Nat → Int32) → (Nat → Int32) → (Nat → Int32) → (Nat → Int32) → Option (Int32 × (Nat → Int32) × (Nat → Int32) × (Nat → Int32) × (Nat → Int32) × (Nat → Int32))} (hk20 : ∀ (v2 : Int32) (v3 : Int32) (v4 : Int32) (v5 : Int32) (x33 : (Nat → Int32)) (x35 : (Nat → Int32)) (x36 : (Nat → Int32)) (x37 : (Nat → Int32)) (x38 : (Nat → Int32)), k20 v2 v3 v4 v5 x33 x35 x36 x37 x38 = some (r, rx33, rx35, rx36, rx37, rx38) → gV l b0 D K (n, κ, ov X0 [0, 16, 17, 18, 23, 24, 25, 26, 33, 35, 36, 37, 38] [x0, x16, x17, x18, x23, x24, x25, x26, x33, x35, x36, x37, x38], ov Y0 [] [], Z, 0, 0) 20 [(0, .ref (b0 + 0)), (2, .int v2), (3, .int v3), (4, .int v4), (5, .int v5)] []) {v2 : Int32} {v3 : Int32} {v4 : Int32} {v5 : Int32} {v6 : Int32} {x33 : (Nat → Int32)} {x35 : (Nat → Int32)} {x36 : (Nat → Int32)} {x37 : (Nat → Int32)} {x38 : (Nat → Int32)} (hf : fX11_passSummerN_80 x0 x16 x17 x18 x23 x24 x25 x26 k20 v2 v3 v4 v5 v6 x33 x35 x36 x37 x38 = some (r, rx33, rx35, rx36, rx37, rx38)) : gV l b0 D K (n, κ, ov X0 [0, 16, 17, 18, 23, 24, 25, 26, 33, 35, 36, 37, 38] [x0, x16, x17, x18, x23, x24, x25, x26, x33, x35, x36, x37, x38], ov Y0 [] [], Z, 0, 0) 80 [(0, .ref (b0 + 0)), (2, .int v2), (3, .int v3), (4, .int v4), (5, .int v5), (6, .int v6)] [] := by
  unfold fX11_passSummerN_80 at hf
  refine g_aload_n hC 0 dX11_passSummer_80 rfl rfl ?_
  refine gt_X11_58 hC (a := 0) (kk_0 hL) (kn_0 hL) dX11_passSummer_81 ?_
  refine g_ref (b := 32) rfl ?_
  refine g_aload_n hC 0 dX11_passSummer_84 rfl rfl ?_
  refine gt_X11_65 hC (a := 0) (kk_0 hL) (kn_0 hL) dX11_passSummer_85 ?_
  refine g_ref (b := 35) rfl ?_
  refine g_aload_n hC 0 dX11_passSummer_88 rfl rfl ?_
  refine g_callV_q (a := 0) hC (As := []) (c_rifN l hL (ov_get hN 0 rfl rfl) (ov_get hN 1 rfl rfl) hri) tw_869 tw_866 tw_116 tw_868 tw_28 (ci := 11) rfl (by decide) (kk_0 hL) (kn_0 hL) pd_X11_ruleInForce (by decide) (by decide) rfl rfl (Nat.le_of_ble_eq_true rfl) rfl dX11_passSummer_89 ?_
  refine g_iload hC 5 dX11_passSummer_92 rfl ?_
  obtain ⟨r_1, x35_2, x36_3, x37_4, x38_5, x33_6, q_7, hf⟩ := bd6E hf
  refine g_callV_i (a := 32) hC (X' := ov X0 [0, 16, 17, 18, 23, 24, 25, 26, 33, 35, 36, 37, 38] [x0, x16, x17, x18, x23, x24, x25, x26, x33_6, x35_2, x36_3, x37_4, x38_5]) (Y' := ov Y0 [] []) (As := [.ref (b0 + 35), .null, .int v6]) (gMi_eq (c_X1_passN l hL (kk_35 hL) (kn_35 hL) (nd_sub hN [9, 10, 11, 12, 2, 8] (by decide) (by rfl)) (nd_sub hM [] (by decide) (by rfl)) (ov_map hN [9, 10, 11, 12, 2, 8] (by rfl) (by rfl)) (ov_map hM [] (by rfl) (by rfl)) q_7) (ov_ovE hN (by rfl) [9, 10, 11, 12, 2, 8] [0, 1, 3, 4, 5, 6, 7] (by rfl) (by rfl) [x0, x16, x18, x23, x24, x25, x26] (by rfl) (by rfl) (by rfl) 13 (by rfl) (by decide)) (ov_ovE hM (by rfl) [] [] (by rfl) (by rfl) [] (by rfl) (by rfl) (by rfl) 0 (by rfl) (by decide))) tw_874 tw_871 tw_123 tw_872 tw_873 (ci := 1) rfl (by decide) (kk_32 hL) (kn_32 hL) pd_X1_pass (by decide) (by decide) rfl rfl (Nat.le_of_ble_eq_true rfl) rfl dX11_passSummer_94 ?_
  refine g_pop hC dX11_passSummer_97 rfl ?_
  obtain ⟨t_8, et_8, hf⟩ := bnE hf
  refine g_iinc hC (i := 5) (v := t_8) [(5, .int t_8), (0, .ref (b0 + 0)), (2, .int v2), (3, .int v3), (4, .int v4), (6, .int v6)] dX11_passSummer_98 (q := 4) rfl ((congrArg (HAdd.hAdd v5) ic_1).trans et_8.symm) (by decide) rfl ?_
  refine g_goto hC 20 dX11_passSummer_101 (by decide) ?_
  exact g_sub [1, 2, 3, 4, 0] rfl (hk20 v2 v3 v4 t_8 x33_6 x35_2 x36_3 x37_4 x38_5 hf)

def fX11_passSummerN_20b   (x0 : Nat → Int32) (x16 : Nat → Int32) (x17 : Nat → Int32) (x18 : Nat → Int32) (x23 : Nat → Int32) (x24 : Nat → Int32) (x25 : Nat → Int32) (x26 : Nat → Int32)  (k20 : Int32 → Int32 → Int32 → Int32 → (Nat → Int32) → (Nat → Int32) → (Nat → Int32) → (Nat → Int32) → (Nat → Int32) → Option (Int32 × (Nat → Int32) × (Nat → Int32) × (Nat → Int32) × (Nat → Int32) × (Nat → Int32))) (v2 : Int32) (v3 : Int32) (v4 : Int32) (v5 : Int32) (x33 : (Nat → Int32)) (x35 : (Nat → Int32)) (x36 : (Nat → Int32)) (x37 : (Nat → Int32)) (x38 : (Nat → Int32)) : Option (Int32 × (Nat → Int32) × (Nat → Int32) × (Nat → Int32) × (Nat → Int32) × (Nat → Int32)) := if v2 ≤ v5 then (some (v4, x33, x35, x36, x37, x38)) else (bd1 (fX9_heatOf x35 x17 x18) fun r_1 => (bd1 (fX11_behindDraw v4) fun r_3 => (if v3 ≤ ((r_3 / 65536) - (r_3 / 65536) / 100 * 100) then (fX11_passSummerN_80 x0 x16 x17 x18 x23 x24 x25 x26 k20 v2 v3 r_3 v5 r_1 x33 x35 x36 x37 x38) else (bd1 (fX11_behindDraw r_3) fun r_5 => (bn ((r_5 / 65536) - (r_5 / 65536) / 10 * 10) fun t_7 => (fX11_passSummerN_80 x0 x16 x17 x18 x23 x24 x25 x26 k20 v2 v3 r_5 v5 t_7 x33 x35 x36 x37 x38))))))
def fX11_passSummerN_20   (x0 : Nat → Int32) (x16 : Nat → Int32) (x17 : Nat → Int32) (x18 : Nat → Int32) (x23 : Nat → Int32) (x24 : Nat → Int32) (x25 : Nat → Int32) (x26 : Nat → Int32)  : Int32 → Int32 → Int32 → Int32 → (Nat → Int32) → (Nat → Int32) → (Nat → Int32) → (Nat → Int32) → (Nat → Int32) → Option (Int32 × (Nat → Int32) × (Nat → Int32) × (Nat → Int32) × (Nat → Int32) × (Nat → Int32)) := lq9 (fX11_passSummerN_20b x0 x16 x17 x18 x23 x24 x25 x26 ) 5000
set_option maxHeartbeats 4000000 in
set_option maxRecDepth 100000 in
theorem wX11_passSummerN_20 {l : Launch} {b0 : Nat} {D : GD} {K : KT} {n : Nat} {κ : QT} {X0 : XT} {Y0 : YT} {Z : ZT} (hL : LY n κ) (hN : ([0, 16, 17, 18, 23, 24, 25, 26, 33, 35, 36, 37, 38] : List Nat).Nodup) (hM : ([] : List Nat).Nodup) (hC : gC l b0 D K RX11 cX11_passSummer (some FieldType.int) 7 5 138 0 0) {x0 : Nat → Int32} {x16 : Nat → Int32} {x17 : Nat → Int32} {x18 : Nat → Int32} {x23 : Nat → Int32} {x24 : Nat → Int32} {x25 : Nat → Int32} {x26 : Nat → Int32} (hri : fX11_isWithin (x16 8) 0 (x0 4 - 1) = some 0) {r : Int32} {rx33 : (Nat → Int32)} {rx35 : (Nat → Int32)} {rx36 : (Nat → Int32)} {rx37 : (Nat → Int32)} {rx38 : (Nat → Int32)} (hret : ∀ pc loc, narrow .int (.int r) = .int r → decode cX11_passSummer pc = .ok (.ireturn, 1) → gV l b0 D K (n, κ, ov X0 [0, 16, 17, 18, 23, 24, 25, 26, 33, 35, 36, 37, 38] [x0, x16, x17, x18, x23, x24, x25, x26, rx33, rx35, rx36, rx37, rx38], ov Y0 [] [], Z, 0, 0) pc loc [.int r]) : ∀ (j : Nat) (v2 : Int32) (v3 : Int32) (v4 : Int32) (v5 : Int32) (x33 : (Nat → Int32)) (x35 : (Nat → Int32)) (x36 : (Nat → Int32)) (x37 : (Nat → Int32)) (x38 : (Nat → Int32)), lq9 (fX11_passSummerN_20b x0 x16 x17 x18 x23 x24 x25 x26 ) j v2 v3 v4 v5 x33 x35 x36 x37 x38 = some (r, rx33, rx35, rx36, rx37, rx38) → gV l b0 D K (n, κ, ov X0 [0, 16, 17, 18, 23, 24, 25, 26, 33, 35, 36, 37, 38] [x0, x16, x17, x18, x23, x24, x25, x26, x33, x35, x36, x37, x38], ov Y0 [] [], Z, 0, 0) 20 [(0, .ref (b0 + 0)), (2, .int v2), (3, .int v3), (4, .int v4), (5, .int v5)] [] := by
  intro j
  induction j with
  | zero => intro v2 v3 v4 v5 x33 x35 x36 x37 x38 hf; cases hf
  | succ j hk20 =>
    intro v2 v3 v4 v5 x33 x35 x36 x37 x38 hf
    replace hf : fX11_passSummerN_20b x0 x16 x17 x18 x23 x24 x25 x26  (lq9 (fX11_passSummerN_20b x0 x16 x17 x18 x23 x24 x25 x26 ) j) v2 v3 v4 v5 x33 x35 x36 x37 x38 = some (r, rx33, rx35, rx36, rx37, rx38) := hf
    unfold fX11_passSummerN_20b at hf
    refine g_iload hC 4 dX11_passSummer_20 rfl ?_
    refine g_iload_n hC 1 dX11_passSummer_22 rfl rfl ?_
    refine g_icmp_ge hC 104 dX11_passSummer_23 (by decide) (fun hc => ?_) (fun hc => ?_)
    · replace hf := ifT hf hc
      refine g_iload hC 3 dX11_passSummer_104 rfl ?_
      obtain ⟨rfl, rfl, rfl, rfl, rfl, rfl⟩ := sm6E hf
      exact hret _ _ rfl dX11_passSummer_106
    · replace hf := ifF hf hc
      refine g_aload_n hC 0 dX11_passSummer_26 rfl rfl ?_
      refine gt_X11_41 hC (a := 0) (kk_0 hL) (kn_0 hL) dX11_passSummer_27 ?_
      refine g_ref (b := 16) rfl ?_
      refine gt_X11_51 hC (a := 16) (kk_16 hL) (kn_16 hL) dX11_passSummer_30 ?_
      refine g_ref (b := 17) rfl ?_
      refine g_aload_n hC 0 dX11_passSummer_33 rfl rfl ?_
      refine gt_X11_65 hC (a := 0) (kk_0 hL) (kn_0 hL) dX11_passSummer_34 ?_
      refine g_ref (b := 35) rfl ?_
      obtain ⟨r_1, q_2, hf⟩ := bd1E hf
      refine g_callV_i (a := 17) hC (X' := ov X0 [0, 16, 17, 18, 23, 24, 25, 26, 33, 35, 36, 37, 38] [x0, x16, x17, x18, x23, x24, x25, x26, x33, x35, x36, x37, x38]) (Y' := ov Y0 [] []) (As := [.ref (b0 + 35)]) (gMi_eq (c_X9_heatOf l hL (kk_35 hL) (kn_35 hL) (nd_sub hN [9, 2, 3] (by decide) (by rfl)) (nd_sub hM [] (by decide) (by rfl)) (ov_map hN [9, 2, 3] (by rfl) (by rfl)) (ov_map hM [] (by rfl) (by rfl)) q_2) (ov_ovE hN (by rfl) [9, 2, 3] [0, 1, 4, 5, 6, 7, 8, 10, 11, 12] (by rfl) (by rfl) [x0, x16, x23, x24, x25, x26, x33, x36, x37, x38] (by rfl) (by rfl) (by rfl) 13 (by rfl) (by decide)) (ov_ovE hM (by rfl) [] [] (by rfl) (by rfl) [] (by rfl) (by rfl) (by rfl) 0 (by rfl) (by decide))) tw_806 tw_803 tw_119 tw_804 tw_805 (ci := 9) rfl (by decide) (kk_17 hL) (kn_17 hL) pd_X9_heatOf (by decide) (by decide) rfl rfl (Nat.le_of_ble_eq_true rfl) rfl dX11_passSummer_37 ?_
      refine g_istore hC (i := 6) [(6, .int r_1), (0, .ref (b0 + 0)), (2, .int v2), (3, .int v3), (4, .int v4), (5, .int v5)] dX11_passSummer_40 (by decide) rfl ?_
      refine g_iload hC 4 dX11_passSummer_42 rfl ?_
      obtain ⟨r_3, q_4, hf⟩ := bd1E hf
      refine g_callS_i hC (X' := ov X0 [0, 16, 17, 18, 23, 24, 25, 26, 33, 35, 36, 37, 38] [x0, x16, x17, x18, x23, x24, x25, x26, x33, x35, x36, x37, x38]) (Y' := ov Y0 [] []) (As := [.int v4]) (gMi_eq (c_X11_behindDraw l hL (ov_map hN [] (by rfl) (by rfl)) (ov_map hM [] (by rfl) (by rfl)) q_4) (ov_ovE hN (by rfl) [] [0, 1, 2, 3, 4, 5, 6, 7, 8, 9, 10, 11, 12] (by rfl) (by rfl) [x0, x16, x17, x18, x23, x24, x25, x26, x33, x35, x36, x37, x38] (by rfl) (by rfl) (by rfl) 13 (by rfl) (by decide)) (ov_ovE hM (by rfl) [] [] (by rfl) (by rfl) [] (by rfl) (by rfl) (by rfl) 0 (by rfl) (by decide))) tw_1137 tw_1135 tw_116 tw_1136 pd_X11_behindDraw (by decide) (by decide) rfl rfl (Nat.le_of_ble_eq_true rfl) rfl dX11_passSummer_44 ?_
      refine g_istore hC (i := 4) [(4, .int r_3), (6, .int r_1), (0, .ref (b0 + 0)), (2, .int v2), (3, .int v3), (5, .int v5)] dX11_passSummer_47 (by decide) rfl ?_
      refine g_iload hC 0 dX11_passSummer_49 rfl ?_
      refine g_ldc_w hC (v := 65536) tw_1141 dX11_passSummer_51 ?_
      refine g_idiv hC dX11_passSummer_54 (by decide) ?_
      refine g_bipush hC (v := 100) dX11_passSummer_55 bp_100 ?_
      refine g_irem hC dX11_passSummer_57 (by decide) ?_
      refine g_iload_n hC 4 dX11_passSummer_58 rfl rfl ?_
      refine g_icmp_ge hC 80 dX11_passSummer_59 (by decide) (fun hc => ?_) (fun hc => ?_)
      · replace hf := ifT hf hc
        exact g_sub [2, 3, 4, 0, 5, 1] rfl (wX11_passSummerN_80 hL hN hM hC hri hret hk20 hf)
      · replace hf := ifF hf hc
        refine g_iload hC 0 dX11_passSummer_62 rfl ?_
        obtain ⟨r_5, q_6, hf⟩ := bd1E hf
        refine g_callS_i hC (X' := ov X0 [0, 16, 17, 18, 23, 24, 25, 26, 33, 35, 36, 37, 38] [x0, x16, x17, x18, x23, x24, x25, x26, x33, x35, x36, x37, x38]) (Y' := ov Y0 [] []) (As := [.int r_3]) (gMi_eq (c_X11_behindDraw l hL (ov_map hN [] (by rfl) (by rfl)) (ov_map hM [] (by rfl) (by rfl)) q_6) (ov_ovE hN (by rfl) [] [0, 1, 2, 3, 4, 5, 6, 7, 8, 9, 10, 11, 12] (by rfl) (by rfl) [x0, x16, x17, x18, x23, x24, x25, x26, x33, x35, x36, x37, x38] (by rfl) (by rfl) (by rfl) 13 (by rfl) (by decide)) (ov_ovE hM (by rfl) [] [] (by rfl) (by rfl) [] (by rfl) (by rfl) (by rfl) 0 (by rfl) (by decide))) tw_1137 tw_1135 tw_116 tw_1136 pd_X11_behindDraw (by decide) (by decide) rfl rfl (Nat.le_of_ble_eq_true rfl) rfl dX11_passSummer_64 ?_
        refine g_istore hC (i := 4) [(4, .int r_5), (6, .int r_1), (0, .ref (b0 + 0)), (2, .int v2), (3, .int v3), (5, .int v5)] dX11_passSummer_67 (by decide) rfl ?_
        refine g_iload hC 0 dX11_passSummer_69 rfl ?_
        refine g_ldc_w hC (v := 65536) tw_1141 dX11_passSummer_71 ?_
        refine g_idiv hC dX11_passSummer_74 (by decide) ?_
        refine g_bipush hC (v := 10) dX11_passSummer_75 bp_10 ?_
        refine g_irem hC dX11_passSummer_77 (by decide) ?_
        obtain ⟨t_7, et_7, hf⟩ := bnE hf
        refine g_topi et_7 ?_
        refine g_istore hC (i := 6) [(6, .int t_7), (4, .int r_5), (0, .ref (b0 + 0)), (2, .int v2), (3, .int v3), (5, .int v5)] dX11_passSummer_78 (by decide) rfl ?_
        exact g_sub [2, 3, 4, 1, 5, 0] rfl (wX11_passSummerN_80 hL hN hM hC hri hret hk20 hf)

def fX11_passSummerN_0   (x0 : Nat → Int32) (x16 : Nat → Int32) (x17 : Nat → Int32) (x18 : Nat → Int32) (x23 : Nat → Int32) (x24 : Nat → Int32) (x25 : Nat → Int32) (x26 : Nat → Int32)  (v1 : Int32) (v2 : Int32) (v3 : Int32) (x33 : (Nat → Int32)) (x35 : (Nat → Int32)) (x36 : (Nat → Int32)) (x37 : (Nat → Int32)) (x38 : (Nat → Int32)) : Option (Int32 × (Nat → Int32) × (Nat → Int32) × (Nat → Int32) × (Nat → Int32) × (Nat → Int32)) := bd4 (fX7_copy x23 x24 x25 x26 x35 x36 x37 x38) fun x35_1 x36_2 x37_3 x38_4 => (fX11_passSummerN_20 x0 x16 x17 x18 x23 x24 x25 x26  v2 v3 v1 0 x33 x35_1 x36_2 x37_3 x38_4)
set_option maxHeartbeats 4000000 in
set_option maxRecDepth 100000 in
theorem wX11_passSummerN_0 {l : Launch} {b0 : Nat} {D : GD} {K : KT} {n : Nat} {κ : QT} {X0 : XT} {Y0 : YT} {Z : ZT} (hL : LY n κ) (hN : ([0, 16, 17, 18, 23, 24, 25, 26, 33, 35, 36, 37, 38] : List Nat).Nodup) (hM : ([] : List Nat).Nodup) (hC : gC l b0 D K RX11 cX11_passSummer (some FieldType.int) 7 5 138 0 0) {x0 : Nat → Int32} {x16 : Nat → Int32} {x17 : Nat → Int32} {x18 : Nat → Int32} {x23 : Nat → Int32} {x24 : Nat → Int32} {x25 : Nat → Int32} {x26 : Nat → Int32} (hri : fX11_isWithin (x16 8) 0 (x0 4 - 1) = some 0) {r : Int32} {rx33 : (Nat → Int32)} {rx35 : (Nat → Int32)} {rx36 : (Nat → Int32)} {rx37 : (Nat → Int32)} {rx38 : (Nat → Int32)} (hret : ∀ pc loc, narrow .int (.int r) = .int r → decode cX11_passSummer pc = .ok (.ireturn, 1) → gV l b0 D K (n, κ, ov X0 [0, 16, 17, 18, 23, 24, 25, 26, 33, 35, 36, 37, 38] [x0, x16, x17, x18, x23, x24, x25, x26, rx33, rx35, rx36, rx37, rx38], ov Y0 [] [], Z, 0, 0) pc loc [.int r]) {v1 : Int32} {v2 : Int32} {v3 : Int32} {x33 : (Nat → Int32)} {x35 : (Nat → Int32)} {x36 : (Nat → Int32)} {x37 : (Nat → Int32)} {x38 : (Nat → Int32)} (hf : fX11_passSummerN_0 x0 x16 x17 x18 x23 x24 x25 x26  v1 v2 v3 x33 x35 x36 x37 x38 = some (r, rx33, rx35, rx36, rx37, rx38)) : gV l b0 D K (n, κ, ov X0 [0, 16, 17, 18, 23, 24, 25, 26, 33, 35, 36, 37, 38] [x0, x16, x17, x18, x23, x24, x25, x26, x33, x35, x36, x37, x38], ov Y0 [] [], Z, 0, 0) 0 [(0, .ref (b0 + 0)), (1, .int v1), (2, .int v2), (3, .int v3)] [] := by
  unfold fX11_passSummerN_0 at hf
  refine g_iload_n hC 1 dX11_passSummer_0 rfl rfl ?_
  refine g_istore hC (i := 4) [(4, .int v1), (0, .ref (b0 + 0)), (1, .int v1), (2, .int v2), (3, .int v3)] dX11_passSummer_1 (by decide) rfl ?_
  refine g_aload_n hC 1 dX11_passSummer_3 rfl rfl ?_
  refine gt_X11_65 hC (a := 0) (kk_0 hL) (kn_0 hL) dX11_passSummer_4 ?_
  refine g_ref (b := 35) rfl ?_
  refine g_aload_n hC 1 dX11_passSummer_7 rfl rfl ?_
  refine gt_X11_41 hC (a := 0) (kk_0 hL) (kn_0 hL) dX11_passSummer_8 ?_
  refine g_ref (b := 16) rfl ?_
  refine gt_X11_140 hC (a := 16) (kk_16 hL) (kn_16 hL) dX11_passSummer_11 ?_
  refine g_ref (b := 23) rfl ?_
  obtain ⟨x35_1, x36_2, x37_3, x38_4, q_5, hf⟩ := bd4E hf
  refine g_callV_v (a := 35) hC (X' := ov X0 [0, 16, 17, 18, 23, 24, 25, 26, 33, 35, 36, 37, 38] [x0, x16, x17, x18, x23, x24, x25, x26, x33, x35_1, x36_2, x37_3, x38_4]) (Y' := ov Y0 [] []) (As := [.ref (b0 + 23)]) (gMv_eq (c_X7_copy l hL (kk_35 hL) (kn_35 hL) (kk_23 hL) (kn_23 hL) (nd_sub hN [9, 10, 11, 12, 4, 5, 6, 7] (by decide) (by rfl)) (nd_sub hM [] (by decide) (by rfl)) (ov_map hN [9, 10, 11, 12, 4, 5, 6, 7] (by rfl) (by rfl)) (ov_map hM [] (by rfl) (by rfl)) q_5) (ov_ovE hN (by rfl) [9, 10, 11, 12, 4, 5, 6, 7] [0, 1, 2, 3, 8] (by rfl) (by rfl) [x0, x16, x17, x18, x33] (by rfl) (by rfl) (by rfl) 13 (by rfl) (by decide)) (ov_ovE hM (by rfl) [] [] (by rfl) (by rfl) [] (by rfl) (by rfl) (by rfl) 0 (by rfl) (by decide))) tw_707 tw_976 tw_120 tw_705 tw_706 (ci := 7) rfl (by decide) (kk_35 hL) (kn_35 hL) pd_X7_copy (by decide) (by decide) rfl rfl (Nat.le_of_ble_eq_true rfl) rfl dX11_passSummer_14 ?_
  refine g_iconst hC (v := 0) dX11_passSummer_17 ic_0 ?_
  refine g_istore hC (i := 5) [(5, .int 0), (4, .int v1), (0, .ref (b0 + 0)), (1, .int v1), (2, .int v2), (3, .int v3)] dX11_passSummer_18 (by decide) rfl ?_
  exact g_sub [2, 4, 5, 1, 0] rfl (wX11_passSummerN_20 hL hN hM hC hri hret  5000 v2 v3 v1 0 x33 x35_1 x36_2 x37_3 x38_4 hf)

def fX11_passSummerN   (x0 : Nat → Int32) (x16 : Nat → Int32) (x17 : Nat → Int32) (x18 : Nat → Int32) (x23 : Nat → Int32) (x24 : Nat → Int32) (x25 : Nat → Int32) (x26 : Nat → Int32)  (v1 : Int32) (v2 : Int32) (v3 : Int32) (x33 : Nat → Int32) (x35 : Nat → Int32) (x36 : Nat → Int32) (x37 : Nat → Int32) (x38 : Nat → Int32)  : Option (Int32 × (Nat → Int32) × (Nat → Int32) × (Nat → Int32) × (Nat → Int32) × (Nat → Int32)) := fX11_passSummerN_0 x0 x16 x17 x18 x23 x24 x25 x26 v1 v2 v3 x33 x35 x36 x37 x38

set_option maxHeartbeats 4000000 in
set_option maxRecDepth 100000 in
theorem c_X11_passSummerN (l : Launch) {b0 : Nat} {D : GD} {n : Nat} {κ : QT} {X0 : XT} {Y0 : YT} {Z : ZT} (hL : LY n κ) {x0 : Nat → Int32} {x16 : Nat → Int32} {x17 : Nat → Int32} {x18 : Nat → Int32} {x23 : Nat → Int32} {x24 : Nat → Int32} {x25 : Nat → Int32} {x26 : Nat → Int32} {x33 : Nat → Int32} {x35 : Nat → Int32} {x36 : Nat → Int32} {x37 : Nat → Int32} {x38 : Nat → Int32} (hri : fX11_isWithin (x16 8) 0 (x0 4 - 1) = some 0) (hx : ([0, 16, 17, 18, 23, 24, 25, 26, 33, 35, 36, 37, 38] : List Nat).map X0 = [x0, x16, x17, x18, x23, x24, x25, x26, x33, x35, x36, x37, x38]) (hy : ([] : List Nat).map Y0 = []) {v1 : Int32} {v2 : Int32} {v3 : Int32} {r : Int32} {rx33 : (Nat → Int32)} {rx35 : (Nat → Int32)} {rx36 : (Nat → Int32)} {rx37 : (Nat → Int32)} {rx38 : (Nat → Int32)} (hf : fX11_passSummerN x0 x16 x17 x18 x23 x24 x25 x26 v1 v2 v3 x33 x35 x36 x37 x38 = some (r, rx33, rx35, rx36, rx37, rx38)) : gMi l yX11_passSummer cX11_passSummer 7 (some FieldType.int) 5 138 0 0 b0 D [.ref (b0 + 0), .int v1, .int v2, .int v3] (n, κ, X0, Y0, Z) (n, κ, ov X0 [0, 16, 17, 18, 23, 24, 25, 26, 33, 35, 36, 37, 38] [x0, x16, x17, x18, x23, x24, x25, x26, rx33, rx35, rx36, rx37, rx38], ov Y0 [] [], Z) r := by
  have hN : ([0, 16, 17, 18, 23, 24, 25, 26, 33, 35, 36, 37, 38] : List Nat).Nodup := by decide
  have hM : ([] : List Nat).Nodup := by decide
  refine g_meti (own := RX11) (by decide) rfl rfl (Nat.le_of_ble_eq_true rfl) ?_
  intro K hC hret
  have e := wX11_passSummerN_0 hL hN hM hC hri hret hf
  rw [ov_id' hx, ov_id' hy] at e
  exact g_sub [0, 1, 2, 3] rfl e

-- X11_passSummer
def fX11_passSummerR_80  (Lru : Nat) (xruz1 : Nat → Int32) (x0 : Nat → Int32) (x16 : Nat → Int32) (x17 : Nat → Int32) (x18 : Nat → Int32) (x23 : Nat → Int32) (x24 : Nat → Int32) (x25 : Nat → Int32) (x26 : Nat → Int32)  (k20 : Int32 → Int32 → Int32 → Int32 → (Nat → Int32) → (Nat → Int32) → (Nat → Int32) → (Nat → Int32) → (Nat → Int32) → (Nat → Int64) → (Nat → Int64) → Option (Int32 × (Nat → Int32) × (Nat → Int32) × (Nat → Int32) × (Nat → Int32) × (Nat → Int32) × (Nat → Int64) × (Nat → Int64))) (v2 : Int32) (v3 : Int32) (v4 : Int32) (v5 : Int32) (v6 : Int32) (x33 : (Nat → Int32)) (x35 : (Nat → Int32)) (x36 : (Nat → Int32)) (x37 : (Nat → Int32)) (x38 : (Nat → Int32)) (yruz2 : (Nat → Int64)) (y34 : (Nat → Int64)) : Option (Int32 × (Nat → Int32) × (Nat → Int32) × (Nat → Int32) × (Nat → Int32) × (Nat → Int32) × (Nat → Int64) × (Nat → Int64)) := bd8 (fX1_passR Lru xruz1 x17 x18 v6 x35 x36 x37 x38 x33 yruz2 y34) fun r_1 x35_2 x36_3 x37_4 x38_5 x33_6 yruz2_7 y34_8 => (bn (v5 + 1) fun t_10 => (k20 v2 v3 v4 t_10 x33_6 x35_2 x36_3 x37_4 x38_5 yruz2_7 y34_8))
set_option maxHeartbeats 4000000 in
set_option maxRecDepth 100000 in
theorem wX11_passSummerR_80 {l : Launch} {b0 : Nat} {D : GD} {K : KT} {n : Nat} {κ : QT} {X0 : XT} {Y0 : YT} {Z : ZT} {ru : Nat} {Lru : Nat} (hL : LY n κ) (hk_ru : κ ru = (4, 0)) (hn_ru : ru < n) (hk_ru_1 : κ (ru + 1) = (14, Lru)) (hN : ([ru + 1, 0, 16, 17, 18, 23, 24, 25, 26, 33, 35, 36, 37, 38] : List Nat).Nodup) (hM : ([ru + 2, 34] : List Nat).Nodup) (hC : gC l b0 D K RX11 cX11_passSummer (some FieldType.int) 7 5 138 0 0) {xruz1 : Nat → Int32} {x0 : Nat → Int32} {x16 : Nat → Int32} {x17 : Nat → Int32} {x18 : Nat → Int32} {x23 : Nat → Int32} {x24 : Nat → Int32} {x25 : Nat → Int32} {x26 : Nat → Int32} (hri : fX11_isWithin (x16 8) 0 (x0 4 - 1) = some 1 ∧ inb (x16 8) 6 = true ∧ Z 15 (x16 8).toNatClampNeg = some ru) {r : Int32} {rx33 : (Nat → Int32)} {rx35 : (Nat → Int32)} {rx36 : (Nat → Int32)} {rx37 : (Nat → Int32)} {rx38 : (Nat → Int32)} {ryruz2 : (Nat → Int64)} {ry34 : (Nat → Int64)} (hret : ∀ pc loc, narrow .int (.int r) = .int r → decode cX11_passSummer pc = .ok (.ireturn, 1) → gV l b0 D K (n, κ, ov X0 [ru + 1, 0, 16, 17, 18, 23, 24, 25, 26, 33, 35, 36, 37, 38] [xruz1, x0, x16, x17, x18, x23, x24, x25, x26, rx33, rx35, rx36, rx37, rx38], ov Y0 [ru + 2, 34] [ryruz2, ry34], Z, 0, 0) pc loc [.int r]) {k20 : Int32 → Int32 → Int32 → Int32 → (Nat → Int32) → (Nat → Int32) → (Nat → Int32) → (Nat → Int32) → (Nat → Int32) → (Nat → Int64) → (Nat → Int64) → Option (Int32 × (Nat → Int32) × (Nat → Int32) × (Nat → Int32) × (Nat → Int32) × (Nat → Int32) × (Nat → Int64) × (Nat → Int64))} (hk20 : ∀ (v2 : Int32) (v3 : Int32) (v4 : Int32) (v5 : Int32) (x33 : (Nat → Int32)) (x35 : (Nat → Int32)) (x36 : (Nat → Int32)) (x37 : (Nat → Int32)) (x38 : (Nat → Int32)) (yruz2 : (Nat → Int64)) (y34 : (Nat → Int64)), k20 v2 v3 v4 v5 x33 x35 x36 x37 x38 yruz2 y34 = some (r, rx33, rx35, rx36, rx37, rx38, ryruz2, ry34) → gV l b0 D K (n, κ, ov X0 [ru + 1, 0, 16, 17, 18, 23, 24, 25, 26, 33, 35, 36, 37, 38] [xruz1, x0, x16, x17, x18, x23, x24, x25, x26, x33, x35, x36, x37, x38], ov Y0 [ru + 2, 34] [yruz2, y34], Z, 0, 0) 20 [(0, .ref (b0 + 0)), (2, .int v2), (3, .int v3), (4, .int v4), (5, .int v5)] []) {v2 : Int32} {v3 : Int32} {v4 : Int32} {v5 : Int32} {v6 : Int32} {x33 : (Nat → Int32)} {x35 : (Nat → Int32)} {x36 : (Nat → Int32)} {x37 : (Nat → Int32)} {x38 : (Nat → Int32)} {yruz2 : (Nat → Int64)} {y34 : (Nat → Int64)} (hf : fX11_passSummerR_80 Lru xruz1 x0 x16 x17 x18 x23 x24 x25 x26 k20 v2 v3 v4 v5 v6 x33 x35 x36 x37 x38 yruz2 y34 = some (r, rx33, rx35, rx36, rx37, rx38, ryruz2, ry34)) : gV l b0 D K (n, κ, ov X0 [ru + 1, 0, 16, 17, 18, 23, 24, 25, 26, 33, 35, 36, 37, 38] [xruz1, x0, x16, x17, x18, x23, x24, x25, x26, x33, x35, x36, x37, x38], ov Y0 [ru + 2, 34] [yruz2, y34], Z, 0, 0) 80 [(0, .ref (b0 + 0)), (2, .int v2), (3, .int v3), (4, .int v4), (5, .int v5), (6, .int v6)] [] := by
  unfold fX11_passSummerR_80 at hf
  refine g_aload_n hC 0 dX11_passSummer_80 rfl rfl ?_
  refine gt_X11_58 hC (a := 0) (kk_0 hL) (kn_0 hL) dX11_passSummer_81 ?_
  refine g_ref (b := 32) rfl ?_
  refine g_aload_n hC 0 dX11_passSummer_84 rfl rfl ?_
  refine gt_X11_65 hC (a := 0) (kk_0 hL) (kn_0 hL) dX11_passSummer_85 ?_
  refine g_ref (b := 35) rfl ?_
  refine g_aload_n hC 0 dX11_passSummer_88 rfl rfl ?_
  refine g_callV_q (a := 0) hC (As := []) (c_rifR l hL (ov_get hN 1 rfl rfl) (ov_get hN 2 rfl rfl) hri) tw_869 tw_866 tw_116 tw_868 tw_28 (ci := 11) rfl (by decide) (kk_0 hL) (kn_0 hL) pd_X11_ruleInForce (by decide) (by decide) rfl rfl (Nat.le_of_ble_eq_true rfl) rfl dX11_passSummer_89 ?_
  refine g_iload hC 5 dX11_passSummer_92 rfl ?_
  obtain ⟨r_1, x35_2, x36_3, x37_4, x38_5, x33_6, yruz2_7, y34_8, q_9, hf⟩ := bd8E hf
  refine g_callV_i (a := 32) hC (X' := ov X0 [ru + 1, 0, 16, 17, 18, 23, 24, 25, 26, 33, 35, 36, 37, 38] [xruz1, x0, x16, x17, x18, x23, x24, x25, x26, x33_6, x35_2, x36_3, x37_4, x38_5]) (Y' := ov Y0 [ru + 2, 34] [yruz2_7, y34_8]) (As := [.ref (b0 + 35), .ref (b0 + ru), .int v6]) (gMi_eq (c_X1_passR l hL (kk_35 hL) (kn_35 hL) hk_ru hn_ru hk_ru_1 (nd_sub hN [10, 11, 12, 13, 0, 3, 4, 9] (by decide) (by rfl)) (nd_sub hM [0, 1] (by decide) (by rfl)) (ov_map hN [10, 11, 12, 13, 0, 3, 4, 9] (by rfl) (by rfl)) (ov_map hM [0, 1] (by rfl) (by rfl)) q_9) (ov_ovE hN (by rfl) [10, 11, 12, 13, 0, 3, 4, 9] [1, 2, 5, 6, 7, 8] (by rfl) (by rfl) [x0, x16, x23, x24, x25, x26] (by rfl) (by rfl) (by rfl) 14 (by rfl) (by decide)) (ov_ovE hM (by rfl) [0, 1] [] (by rfl) (by rfl) [] (by rfl) (by rfl) (by rfl) 2 (by rfl) (by decide))) tw_874 tw_871 tw_123 tw_872 tw_873 (ci := 1) rfl (by decide) (kk_32 hL) (kn_32 hL) pd_X1_pass (by decide) (by decide) rfl rfl (Nat.le_of_ble_eq_true rfl) rfl dX11_passSummer_94 ?_
  refine g_pop hC dX11_passSummer_97 rfl ?_
  obtain ⟨t_10, et_10, hf⟩ := bnE hf
  refine g_iinc hC (i := 5) (v := t_10) [(5, .int t_10), (0, .ref (b0 + 0)), (2, .int v2), (3, .int v3), (4, .int v4), (6, .int v6)] dX11_passSummer_98 (q := 4) rfl ((congrArg (HAdd.hAdd v5) ic_1).trans et_10.symm) (by decide) rfl ?_
  refine g_goto hC 20 dX11_passSummer_101 (by decide) ?_
  exact g_sub [1, 2, 3, 4, 0] rfl (hk20 v2 v3 v4 t_10 x33_6 x35_2 x36_3 x37_4 x38_5 yruz2_7 y34_8 hf)

def fX11_passSummerR_20b  (Lru : Nat) (xruz1 : Nat → Int32) (x0 : Nat → Int32) (x16 : Nat → Int32) (x17 : Nat → Int32) (x18 : Nat → Int32) (x23 : Nat → Int32) (x24 : Nat → Int32) (x25 : Nat → Int32) (x26 : Nat → Int32)  (k20 : Int32 → Int32 → Int32 → Int32 → (Nat → Int32) → (Nat → Int32) → (Nat → Int32) → (Nat → Int32) → (Nat → Int32) → (Nat → Int64) → (Nat → Int64) → Option (Int32 × (Nat → Int32) × (Nat → Int32) × (Nat → Int32) × (Nat → Int32) × (Nat → Int32) × (Nat → Int64) × (Nat → Int64))) (v2 : Int32) (v3 : Int32) (v4 : Int32) (v5 : Int32) (x33 : (Nat → Int32)) (x35 : (Nat → Int32)) (x36 : (Nat → Int32)) (x37 : (Nat → Int32)) (x38 : (Nat → Int32)) (yruz2 : (Nat → Int64)) (y34 : (Nat → Int64)) : Option (Int32 × (Nat → Int32) × (Nat → Int32) × (Nat → Int32) × (Nat → Int32) × (Nat → Int32) × (Nat → Int64) × (Nat → Int64)) := if v2 ≤ v5 then (some (v4, x33, x35, x36, x37, x38, yruz2, y34)) else (bd1 (fX9_heatOf x35 x17 x18) fun r_1 => (bd1 (fX11_behindDraw v4) fun r_3 => (if v3 ≤ ((r_3 / 65536) - (r_3 / 65536) / 100 * 100) then (fX11_passSummerR_80 Lru xruz1 x0 x16 x17 x18 x23 x24 x25 x26 k20 v2 v3 r_3 v5 r_1 x33 x35 x36 x37 x38 yruz2 y34) else (bd1 (fX11_behindDraw r_3) fun r_5 => (bn ((r_5 / 65536) - (r_5 / 65536) / 10 * 10) fun t_7 => (fX11_passSummerR_80 Lru xruz1 x0 x16 x17 x18 x23 x24 x25 x26 k20 v2 v3 r_5 v5 t_7 x33 x35 x36 x37 x38 yruz2 y34))))))
def fX11_passSummerR_20  (Lru : Nat) (xruz1 : Nat → Int32) (x0 : Nat → Int32) (x16 : Nat → Int32) (x17 : Nat → Int32) (x18 : Nat → Int32) (x23 : Nat → Int32) (x24 : Nat → Int32) (x25 : Nat → Int32) (x26 : Nat → Int32)  : Int32 → Int32 → Int32 → Int32 → (Nat → Int32) → (Nat → Int32) → (Nat → Int32) → (Nat → Int32) → (Nat → Int32) → (Nat → Int64) → (Nat → Int64) → Option (Int32 × (Nat → Int32) × (Nat → Int32) × (Nat → Int32) × (Nat → Int32) × (Nat → Int32) × (Nat → Int64) × (Nat → Int64)) := lq11 (fX11_passSummerR_20b Lru xruz1 x0 x16 x17 x18 x23 x24 x25 x26 ) 5000
set_option maxHeartbeats 4000000 in
set_option maxRecDepth 100000 in
theorem wX11_passSummerR_20 {l : Launch} {b0 : Nat} {D : GD} {K : KT} {n : Nat} {κ : QT} {X0 : XT} {Y0 : YT} {Z : ZT} {ru : Nat} {Lru : Nat} (hL : LY n κ) (hk_ru : κ ru = (4, 0)) (hn_ru : ru < n) (hk_ru_1 : κ (ru + 1) = (14, Lru)) (hN : ([ru + 1, 0, 16, 17, 18, 23, 24, 25, 26, 33, 35, 36, 37, 38] : List Nat).Nodup) (hM : ([ru + 2, 34] : List Nat).Nodup) (hC : gC l b0 D K RX11 cX11_passSummer (some FieldType.int) 7 5 138 0 0) {xruz1 : Nat → Int32} {x0 : Nat → Int32} {x16 : Nat → Int32} {x17 : Nat → Int32} {x18 : Nat → Int32} {x23 : Nat → Int32} {x24 : Nat → Int32} {x25 : Nat → Int32} {x26 : Nat → Int32} (hri : fX11_isWithin (x16 8) 0 (x0 4 - 1) = some 1 ∧ inb (x16 8) 6 = true ∧ Z 15 (x16 8).toNatClampNeg = some ru) {r : Int32} {rx33 : (Nat → Int32)} {rx35 : (Nat → Int32)} {rx36 : (Nat → Int32)} {rx37 : (Nat → Int32)} {rx38 : (Nat → Int32)} {ryruz2 : (Nat → Int64)} {ry34 : (Nat → Int64)} (hret : ∀ pc loc, narrow .int (.int r) = .int r → decode cX11_passSummer pc = .ok (.ireturn, 1) → gV l b0 D K (n, κ, ov X0 [ru + 1, 0, 16, 17, 18, 23, 24, 25, 26, 33, 35, 36, 37, 38] [xruz1, x0, x16, x17, x18, x23, x24, x25, x26, rx33, rx35, rx36, rx37, rx38], ov Y0 [ru + 2, 34] [ryruz2, ry34], Z, 0, 0) pc loc [.int r]) : ∀ (j : Nat) (v2 : Int32) (v3 : Int32) (v4 : Int32) (v5 : Int32) (x33 : (Nat → Int32)) (x35 : (Nat → Int32)) (x36 : (Nat → Int32)) (x37 : (Nat → Int32)) (x38 : (Nat → Int32)) (yruz2 : (Nat → Int64)) (y34 : (Nat → Int64)), lq11 (fX11_passSummerR_20b Lru xruz1 x0 x16 x17 x18 x23 x24 x25 x26 ) j v2 v3 v4 v5 x33 x35 x36 x37 x38 yruz2 y34 = some (r, rx33, rx35, rx36, rx37, rx38, ryruz2, ry34) → gV l b0 D K (n, κ, ov X0 [ru + 1, 0, 16, 17, 18, 23, 24, 25, 26, 33, 35, 36, 37, 38] [xruz1, x0, x16, x17, x18, x23, x24, x25, x26, x33, x35, x36, x37, x38], ov Y0 [ru + 2, 34] [yruz2, y34], Z, 0, 0) 20 [(0, .ref (b0 + 0)), (2, .int v2), (3, .int v3), (4, .int v4), (5, .int v5)] [] := by
  intro j
  induction j with
  | zero => intro v2 v3 v4 v5 x33 x35 x36 x37 x38 yruz2 y34 hf; cases hf
  | succ j hk20 =>
    intro v2 v3 v4 v5 x33 x35 x36 x37 x38 yruz2 y34 hf
    replace hf : fX11_passSummerR_20b Lru xruz1 x0 x16 x17 x18 x23 x24 x25 x26  (lq11 (fX11_passSummerR_20b Lru xruz1 x0 x16 x17 x18 x23 x24 x25 x26 ) j) v2 v3 v4 v5 x33 x35 x36 x37 x38 yruz2 y34 = some (r, rx33, rx35, rx36, rx37, rx38, ryruz2, ry34) := hf
    unfold fX11_passSummerR_20b at hf
    refine g_iload hC 4 dX11_passSummer_20 rfl ?_
    refine g_iload_n hC 1 dX11_passSummer_22 rfl rfl ?_
    refine g_icmp_ge hC 104 dX11_passSummer_23 (by decide) (fun hc => ?_) (fun hc => ?_)
    · replace hf := ifT hf hc
      refine g_iload hC 3 dX11_passSummer_104 rfl ?_
      obtain ⟨rfl, rfl, rfl, rfl, rfl, rfl, rfl, rfl⟩ := sm8E hf
      exact hret _ _ rfl dX11_passSummer_106
    · replace hf := ifF hf hc
      refine g_aload_n hC 0 dX11_passSummer_26 rfl rfl ?_
      refine gt_X11_41 hC (a := 0) (kk_0 hL) (kn_0 hL) dX11_passSummer_27 ?_
      refine g_ref (b := 16) rfl ?_
      refine gt_X11_51 hC (a := 16) (kk_16 hL) (kn_16 hL) dX11_passSummer_30 ?_
      refine g_ref (b := 17) rfl ?_
      refine g_aload_n hC 0 dX11_passSummer_33 rfl rfl ?_
      refine gt_X11_65 hC (a := 0) (kk_0 hL) (kn_0 hL) dX11_passSummer_34 ?_
      refine g_ref (b := 35) rfl ?_
      obtain ⟨r_1, q_2, hf⟩ := bd1E hf
      refine g_callV_i (a := 17) hC (X' := ov X0 [ru + 1, 0, 16, 17, 18, 23, 24, 25, 26, 33, 35, 36, 37, 38] [xruz1, x0, x16, x17, x18, x23, x24, x25, x26, x33, x35, x36, x37, x38]) (Y' := ov Y0 [ru + 2, 34] [yruz2, y34]) (As := [.ref (b0 + 35)]) (gMi_eq (c_X9_heatOf l hL (kk_35 hL) (kn_35 hL) (nd_sub hN [10, 3, 4] (by decide) (by rfl)) (nd_sub hM [] (by decide) (by rfl)) (ov_map hN [10, 3, 4] (by rfl) (by rfl)) (ov_map hM [] (by rfl) (by rfl)) q_2) (ov_ovE hN (by rfl) [10, 3, 4] [0, 1, 2, 5, 6, 7, 8, 9, 11, 12, 13] (by rfl) (by rfl) [xruz1, x0, x16, x23, x24, x25, x26, x33, x36, x37, x38] (by rfl) (by rfl) (by rfl) 14 (by rfl) (by decide)) (ov_ovE hM (by rfl) [] [0, 1] (by rfl) (by rfl) [yruz2, y34] (by rfl) (by rfl) (by rfl) 2 (by rfl) (by decide))) tw_806 tw_803 tw_119 tw_804 tw_805 (ci := 9) rfl (by decide) (kk_17 hL) (kn_17 hL) pd_X9_heatOf (by decide) (by decide) rfl rfl (Nat.le_of_ble_eq_true rfl) rfl dX11_passSummer_37 ?_
      refine g_istore hC (i := 6) [(6, .int r_1), (0, .ref (b0 + 0)), (2, .int v2), (3, .int v3), (4, .int v4), (5, .int v5)] dX11_passSummer_40 (by decide) rfl ?_
      refine g_iload hC 4 dX11_passSummer_42 rfl ?_
      obtain ⟨r_3, q_4, hf⟩ := bd1E hf
      refine g_callS_i hC (X' := ov X0 [ru + 1, 0, 16, 17, 18, 23, 24, 25, 26, 33, 35, 36, 37, 38] [xruz1, x0, x16, x17, x18, x23, x24, x25, x26, x33, x35, x36, x37, x38]) (Y' := ov Y0 [ru + 2, 34] [yruz2, y34]) (As := [.int v4]) (gMi_eq (c_X11_behindDraw l hL (ov_map hN [] (by rfl) (by rfl)) (ov_map hM [] (by rfl) (by rfl)) q_4) (ov_ovE hN (by rfl) [] [0, 1, 2, 3, 4, 5, 6, 7, 8, 9, 10, 11, 12, 13] (by rfl) (by rfl) [xruz1, x0, x16, x17, x18, x23, x24, x25, x26, x33, x35, x36, x37, x38] (by rfl) (by rfl) (by rfl) 14 (by rfl) (by decide)) (ov_ovE hM (by rfl) [] [0, 1] (by rfl) (by rfl) [yruz2, y34] (by rfl) (by rfl) (by rfl) 2 (by rfl) (by decide))) tw_1137 tw_1135 tw_116 tw_1136 pd_X11_behindDraw (by decide) (by decide) rfl rfl (Nat.le_of_ble_eq_true rfl) rfl dX11_passSummer_44 ?_
      refine g_istore hC (i := 4) [(4, .int r_3), (6, .int r_1), (0, .ref (b0 + 0)), (2, .int v2), (3, .int v3), (5, .int v5)] dX11_passSummer_47 (by decide) rfl ?_
      refine g_iload hC 0 dX11_passSummer_49 rfl ?_
      refine g_ldc_w hC (v := 65536) tw_1141 dX11_passSummer_51 ?_
      refine g_idiv hC dX11_passSummer_54 (by decide) ?_
      refine g_bipush hC (v := 100) dX11_passSummer_55 bp_100 ?_
      refine g_irem hC dX11_passSummer_57 (by decide) ?_
      refine g_iload_n hC 4 dX11_passSummer_58 rfl rfl ?_
      refine g_icmp_ge hC 80 dX11_passSummer_59 (by decide) (fun hc => ?_) (fun hc => ?_)
      · replace hf := ifT hf hc
        exact g_sub [2, 3, 4, 0, 5, 1] rfl (wX11_passSummerR_80 hL hk_ru hn_ru hk_ru_1 hN hM hC hri hret hk20 hf)
      · replace hf := ifF hf hc
        refine g_iload hC 0 dX11_passSummer_62 rfl ?_
        obtain ⟨r_5, q_6, hf⟩ := bd1E hf
        refine g_callS_i hC (X' := ov X0 [ru + 1, 0, 16, 17, 18, 23, 24, 25, 26, 33, 35, 36, 37, 38] [xruz1, x0, x16, x17, x18, x23, x24, x25, x26, x33, x35, x36, x37, x38]) (Y' := ov Y0 [ru + 2, 34] [yruz2, y34]) (As := [.int r_3]) (gMi_eq (c_X11_behindDraw l hL (ov_map hN [] (by rfl) (by rfl)) (ov_map hM [] (by rfl) (by rfl)) q_6) (ov_ovE hN (by rfl) [] [0, 1, 2, 3, 4, 5, 6, 7, 8, 9, 10, 11, 12, 13] (by rfl) (by rfl) [xruz1, x0, x16, x17, x18, x23, x24, x25, x26, x33, x35, x36, x37, x38] (by rfl) (by rfl) (by rfl) 14 (by rfl) (by decide)) (ov_ovE hM (by rfl) [] [0, 1] (by rfl) (by rfl) [yruz2, y34] (by rfl) (by rfl) (by rfl) 2 (by rfl) (by decide))) tw_1137 tw_1135 tw_116 tw_1136 pd_X11_behindDraw (by decide) (by decide) rfl rfl (Nat.le_of_ble_eq_true rfl) rfl dX11_passSummer_64 ?_
        refine g_istore hC (i := 4) [(4, .int r_5), (6, .int r_1), (0, .ref (b0 + 0)), (2, .int v2), (3, .int v3), (5, .int v5)] dX11_passSummer_67 (by decide) rfl ?_
        refine g_iload hC 0 dX11_passSummer_69 rfl ?_
        refine g_ldc_w hC (v := 65536) tw_1141 dX11_passSummer_71 ?_
        refine g_idiv hC dX11_passSummer_74 (by decide) ?_
        refine g_bipush hC (v := 10) dX11_passSummer_75 bp_10 ?_
        refine g_irem hC dX11_passSummer_77 (by decide) ?_
        obtain ⟨t_7, et_7, hf⟩ := bnE hf
        refine g_topi et_7 ?_
        refine g_istore hC (i := 6) [(6, .int t_7), (4, .int r_5), (0, .ref (b0 + 0)), (2, .int v2), (3, .int v3), (5, .int v5)] dX11_passSummer_78 (by decide) rfl ?_
        exact g_sub [2, 3, 4, 1, 5, 0] rfl (wX11_passSummerR_80 hL hk_ru hn_ru hk_ru_1 hN hM hC hri hret hk20 hf)

def fX11_passSummerR_0  (Lru : Nat) (xruz1 : Nat → Int32) (x0 : Nat → Int32) (x16 : Nat → Int32) (x17 : Nat → Int32) (x18 : Nat → Int32) (x23 : Nat → Int32) (x24 : Nat → Int32) (x25 : Nat → Int32) (x26 : Nat → Int32)  (v1 : Int32) (v2 : Int32) (v3 : Int32) (x33 : (Nat → Int32)) (x35 : (Nat → Int32)) (x36 : (Nat → Int32)) (x37 : (Nat → Int32)) (x38 : (Nat → Int32)) (yruz2 : (Nat → Int64)) (y34 : (Nat → Int64)) : Option (Int32 × (Nat → Int32) × (Nat → Int32) × (Nat → Int32) × (Nat → Int32) × (Nat → Int32) × (Nat → Int64) × (Nat → Int64)) := bd4 (fX7_copy x23 x24 x25 x26 x35 x36 x37 x38) fun x35_1 x36_2 x37_3 x38_4 => (fX11_passSummerR_20 Lru xruz1 x0 x16 x17 x18 x23 x24 x25 x26  v2 v3 v1 0 x33 x35_1 x36_2 x37_3 x38_4 yruz2 y34)
set_option maxHeartbeats 4000000 in
set_option maxRecDepth 100000 in
theorem wX11_passSummerR_0 {l : Launch} {b0 : Nat} {D : GD} {K : KT} {n : Nat} {κ : QT} {X0 : XT} {Y0 : YT} {Z : ZT} {ru : Nat} {Lru : Nat} (hL : LY n κ) (hk_ru : κ ru = (4, 0)) (hn_ru : ru < n) (hk_ru_1 : κ (ru + 1) = (14, Lru)) (hN : ([ru + 1, 0, 16, 17, 18, 23, 24, 25, 26, 33, 35, 36, 37, 38] : List Nat).Nodup) (hM : ([ru + 2, 34] : List Nat).Nodup) (hC : gC l b0 D K RX11 cX11_passSummer (some FieldType.int) 7 5 138 0 0) {xruz1 : Nat → Int32} {x0 : Nat → Int32} {x16 : Nat → Int32} {x17 : Nat → Int32} {x18 : Nat → Int32} {x23 : Nat → Int32} {x24 : Nat → Int32} {x25 : Nat → Int32} {x26 : Nat → Int32} (hri : fX11_isWithin (x16 8) 0 (x0 4 - 1) = some 1 ∧ inb (x16 8) 6 = true ∧ Z 15 (x16 8).toNatClampNeg = some ru) {r : Int32} {rx33 : (Nat → Int32)} {rx35 : (Nat → Int32)} {rx36 : (Nat → Int32)} {rx37 : (Nat → Int32)} {rx38 : (Nat → Int32)} {ryruz2 : (Nat → Int64)} {ry34 : (Nat → Int64)} (hret : ∀ pc loc, narrow .int (.int r) = .int r → decode cX11_passSummer pc = .ok (.ireturn, 1) → gV l b0 D K (n, κ, ov X0 [ru + 1, 0, 16, 17, 18, 23, 24, 25, 26, 33, 35, 36, 37, 38] [xruz1, x0, x16, x17, x18, x23, x24, x25, x26, rx33, rx35, rx36, rx37, rx38], ov Y0 [ru + 2, 34] [ryruz2, ry34], Z, 0, 0) pc loc [.int r]) {v1 : Int32} {v2 : Int32} {v3 : Int32} {x33 : (Nat → Int32)} {x35 : (Nat → Int32)} {x36 : (Nat → Int32)} {x37 : (Nat → Int32)} {x38 : (Nat → Int32)} {yruz2 : (Nat → Int64)} {y34 : (Nat → Int64)} (hf : fX11_passSummerR_0 Lru xruz1 x0 x16 x17 x18 x23 x24 x25 x26  v1 v2 v3 x33 x35 x36 x37 x38 yruz2 y34 = some (r, rx33, rx35, rx36, rx37, rx38, ryruz2, ry34)) : gV l b0 D K (n, κ, ov X0 [ru + 1, 0, 16, 17, 18, 23, 24, 25, 26, 33, 35, 36, 37, 38] [xruz1, x0, x16, x17, x18, x23, x24, x25, x26, x33, x35, x36, x37, x38], ov Y0 [ru + 2, 34] [yruz2, y34], Z, 0, 0) 0 [(0, .ref (b0 + 0)), (1, .int v1), (2, .int v2), (3, .int v3)] [] := by
  unfold fX11_passSummerR_0 at hf
  refine g_iload_n hC 1 dX11_passSummer_0 rfl rfl ?_
  refine g_istore hC (i := 4) [(4, .int v1), (0, .ref (b0 + 0)), (1, .int v1), (2, .int v2), (3, .int v3)] dX11_passSummer_1 (by decide) rfl ?_
  refine g_aload_n hC 1 dX11_passSummer_3 rfl rfl ?_
  refine gt_X11_65 hC (a := 0) (kk_0 hL) (kn_0 hL) dX11_passSummer_4 ?_
  refine g_ref (b := 35) rfl ?_
  refine g_aload_n hC 1 dX11_passSummer_7 rfl rfl ?_
  refine gt_X11_41 hC (a := 0) (kk_0 hL) (kn_0 hL) dX11_passSummer_8 ?_
  refine g_ref (b := 16) rfl ?_
  refine gt_X11_140 hC (a := 16) (kk_16 hL) (kn_16 hL) dX11_passSummer_11 ?_
  refine g_ref (b := 23) rfl ?_
  obtain ⟨x35_1, x36_2, x37_3, x38_4, q_5, hf⟩ := bd4E hf
  refine g_callV_v (a := 35) hC (X' := ov X0 [ru + 1, 0, 16, 17, 18, 23, 24, 25, 26, 33, 35, 36, 37, 38] [xruz1, x0, x16, x17, x18, x23, x24, x25, x26, x33, x35_1, x36_2, x37_3, x38_4]) (Y' := ov Y0 [ru + 2, 34] [yruz2, y34]) (As := [.ref (b0 + 23)]) (gMv_eq (c_X7_copy l hL (kk_35 hL) (kn_35 hL) (kk_23 hL) (kn_23 hL) (nd_sub hN [10, 11, 12, 13, 5, 6, 7, 8] (by decide) (by rfl)) (nd_sub hM [] (by decide) (by rfl)) (ov_map hN [10, 11, 12, 13, 5, 6, 7, 8] (by rfl) (by rfl)) (ov_map hM [] (by rfl) (by rfl)) q_5) (ov_ovE hN (by rfl) [10, 11, 12, 13, 5, 6, 7, 8] [0, 1, 2, 3, 4, 9] (by rfl) (by rfl) [xruz1, x0, x16, x17, x18, x33] (by rfl) (by rfl) (by rfl) 14 (by rfl) (by decide)) (ov_ovE hM (by rfl) [] [0, 1] (by rfl) (by rfl) [yruz2, y34] (by rfl) (by rfl) (by rfl) 2 (by rfl) (by decide))) tw_707 tw_976 tw_120 tw_705 tw_706 (ci := 7) rfl (by decide) (kk_35 hL) (kn_35 hL) pd_X7_copy (by decide) (by decide) rfl rfl (Nat.le_of_ble_eq_true rfl) rfl dX11_passSummer_14 ?_
  refine g_iconst hC (v := 0) dX11_passSummer_17 ic_0 ?_
  refine g_istore hC (i := 5) [(5, .int 0), (4, .int v1), (0, .ref (b0 + 0)), (1, .int v1), (2, .int v2), (3, .int v3)] dX11_passSummer_18 (by decide) rfl ?_
  exact g_sub [2, 4, 5, 1, 0] rfl (wX11_passSummerR_20 hL hk_ru hn_ru hk_ru_1 hN hM hC hri hret  5000 v2 v3 v1 0 x33 x35_1 x36_2 x37_3 x38_4 yruz2 y34 hf)

def fX11_passSummerR  (Lru : Nat) (xruz1 : Nat → Int32) (x0 : Nat → Int32) (x16 : Nat → Int32) (x17 : Nat → Int32) (x18 : Nat → Int32) (x23 : Nat → Int32) (x24 : Nat → Int32) (x25 : Nat → Int32) (x26 : Nat → Int32)  (v1 : Int32) (v2 : Int32) (v3 : Int32) (x33 : Nat → Int32) (x35 : Nat → Int32) (x36 : Nat → Int32) (x37 : Nat → Int32) (x38 : Nat → Int32) (yruz2 : Nat → Int64) (y34 : Nat → Int64) : Option (Int32 × (Nat → Int32) × (Nat → Int32) × (Nat → Int32) × (Nat → Int32) × (Nat → Int32) × (Nat → Int64) × (Nat → Int64)) := fX11_passSummerR_0 Lru xruz1 x0 x16 x17 x18 x23 x24 x25 x26 v1 v2 v3 x33 x35 x36 x37 x38 yruz2 y34

set_option maxHeartbeats 4000000 in
set_option maxRecDepth 100000 in
theorem c_X11_passSummerR (l : Launch) {b0 : Nat} {D : GD} {n : Nat} {κ : QT} {X0 : XT} {Y0 : YT} {Z : ZT} {ru : Nat} {Lru : Nat} (hL : LY n κ) (hk_ru : κ ru = (4, 0)) (hn_ru : ru < n) (hk_ru_1 : κ (ru + 1) = (14, Lru)) (hN : ([ru + 1, 0, 16, 17, 18, 23, 24, 25, 26, 33, 35, 36, 37, 38] : List Nat).Nodup) (hM : ([ru + 2, 34] : List Nat).Nodup) {xruz1 : Nat → Int32} {x0 : Nat → Int32} {x16 : Nat → Int32} {x17 : Nat → Int32} {x18 : Nat → Int32} {x23 : Nat → Int32} {x24 : Nat → Int32} {x25 : Nat → Int32} {x26 : Nat → Int32} {x33 : Nat → Int32} {x35 : Nat → Int32} {x36 : Nat → Int32} {x37 : Nat → Int32} {x38 : Nat → Int32} {yruz2 : Nat → Int64} {y34 : Nat → Int64} (hri : fX11_isWithin (x16 8) 0 (x0 4 - 1) = some 1 ∧ inb (x16 8) 6 = true ∧ Z 15 (x16 8).toNatClampNeg = some ru) (hx : ([ru + 1, 0, 16, 17, 18, 23, 24, 25, 26, 33, 35, 36, 37, 38] : List Nat).map X0 = [xruz1, x0, x16, x17, x18, x23, x24, x25, x26, x33, x35, x36, x37, x38]) (hy : ([ru + 2, 34] : List Nat).map Y0 = [yruz2, y34]) {v1 : Int32} {v2 : Int32} {v3 : Int32} {r : Int32} {rx33 : (Nat → Int32)} {rx35 : (Nat → Int32)} {rx36 : (Nat → Int32)} {rx37 : (Nat → Int32)} {rx38 : (Nat → Int32)} {ryruz2 : (Nat → Int64)} {ry34 : (Nat → Int64)} (hf : fX11_passSummerR Lru xruz1 x0 x16 x17 x18 x23 x24 x25 x26 v1 v2 v3 x33 x35 x36 x37 x38 yruz2 y34 = some (r, rx33, rx35, rx36, rx37, rx38, ryruz2, ry34)) : gMi l yX11_passSummer cX11_passSummer 7 (some FieldType.int) 5 138 0 0 b0 D [.ref (b0 + 0), .int v1, .int v2, .int v3] (n, κ, X0, Y0, Z) (n, κ, ov X0 [ru + 1, 0, 16, 17, 18, 23, 24, 25, 26, 33, 35, 36, 37, 38] [xruz1, x0, x16, x17, x18, x23, x24, x25, x26, rx33, rx35, rx36, rx37, rx38], ov Y0 [ru + 2, 34] [ryruz2, ry34], Z) r := by
  refine g_meti (own := RX11) (by decide) rfl rfl (Nat.le_of_ble_eq_true rfl) ?_
  intro K hC hret
  have e := wX11_passSummerR_0 hL hk_ru hn_ru hk_ru_1 hN hM hC hri hret hf
  rw [ov_id' hx, ov_id' hy] at e
  exact g_sub [0, 1, 2, 3] rfl e

-- X11_summers
def fX11_summersN_121   (x0 : Nat → Int32) (x16 : Nat → Int32) (x17 : Nat → Int32) (x18 : Nat → Int32) (x23 : Nat → Int32) (x24 : Nat → Int32) (x25 : Nat → Int32) (x26 : Nat → Int32)  (k64 : Int32 → Int32 → Int32 → Int32 → Int32 → Int32 → Int32 → (Nat → Int32) → (Nat → Int32) → (Nat → Int32) → (Nat → Int32) → (Nat → Int32) → Option (Int32 × (Nat → Int32) × (Nat → Int32) × (Nat → Int32) × (Nat → Int32) × (Nat → Int32))) (v1 : Int32) (v2 : Int32) (v3 : Int32) (v4 : Int32) (v6 : Int32) (v7 : Int32) (s0 : Int32) (s1 : Int32) (x33 : (Nat → Int32)) (x35 : (Nat → Int32)) (x36 : (Nat → Int32)) (x37 : (Nat → Int32)) (x38 : (Nat → Int32)) : Option (Int32 × (Nat → Int32) × (Nat → Int32) × (Nat → Int32) × (Nat → Int32) × (Nat → Int32)) := bn (s1 + s0) fun t_1 => (bn (v7 + 1) fun t_2 => (k64 v1 v2 v3 v4 t_1 v6 t_2 x33 x35 x36 x37 x38))
set_option maxHeartbeats 4000000 in
set_option maxRecDepth 100000 in
theorem wX11_summersN_121 {l : Launch} {b0 : Nat} {D : GD} {K : KT} {n : Nat} {κ : QT} {X0 : XT} {Y0 : YT} {Z : ZT} (hL : LY n κ) (hN : ([0, 16, 17, 18, 23, 24, 25, 26, 33, 35, 36, 37, 38] : List Nat).Nodup) (hM : ([] : List Nat).Nodup) (hC : gC l b0 D K RX11 cX11_summers (some FieldType.int) 8 6 164 0 0) {x0 : Nat → Int32} {x16 : Nat → Int32} {x17 : Nat → Int32} {x18 : Nat → Int32} {x23 : Nat → Int32} {x24 : Nat → Int32} {x25 : Nat → Int32} {x26 : Nat → Int32} (hri : fX11_isWithin (x16 8) 0 (x0 4 - 1) = some 0) {r : Int32} {rx33 : (Nat → Int32)} {rx35 : (Nat → Int32)} {rx36 : (Nat → Int32)} {rx37 : (Nat → Int32)} {rx38 : (Nat → Int32)} (hret : ∀ pc loc, narrow .int (.int r) = .int r → decode cX11_summers pc = .ok (.ireturn, 1) → gV l b0 D K (n, κ, ov X0 [0, 16, 17, 18, 23, 24, 25, 26, 33, 35, 36, 37, 38] [x0, x16, x17, x18, x23, x24, x25, x26, rx33, rx35, rx36, rx37, rx38], ov Y0 [] [], Z, 0, 0) pc loc [.int r]) {k64 : Int32 → Int32 → Int32 → Int32 → Int32 → Int32 → Int32 → (Nat → Int32) → (Nat → Int32) → (Nat → Int32) → (Nat → Int32) → (Nat → Int32) → Option (Int32 × (Nat → Int32) × (Nat → Int32) × (Nat → Int32) × (Nat → Int32) × (Nat → Int32))} (hk64 : ∀ (v1 : Int32) (v2 : Int32) (v3 : Int32) (v4 : Int32) (v5 : Int32) (v6 : Int32) (v7 : Int32) (x33 : (Nat → Int32)) (x35 : (Nat → Int32)) (x36 : (Nat → Int32)) (x37 : (Nat → Int32)) (x38 : (Nat → Int32)), k64 v1 v2 v3 v4 v5 v6 v7 x33 x35 x36 x37 x38 = some (r, rx33, rx35, rx36, rx37, rx38) → gV l b0 D K (n, κ, ov X0 [0, 16, 17, 18, 23, 24, 25, 26, 33, 35, 36, 37, 38] [x0, x16, x17, x18, x23, x24, x25, x26, x33, x35, x36, x37, x38], ov Y0 [] [], Z, 0, 0) 64 [(0, .ref (b0 + 0)), (1, .int v1), (2, .int v2), (3, .int v3), (4, .int v4), (5, .int v5), (6, .int v6), (7, .int v7)] []) {v1 : Int32} {v2 : Int32} {v3 : Int32} {v4 : Int32} {v6 : Int32} {v7 : Int32} {s0 : Int32} {s1 : Int32} {x33 : (Nat → Int32)} {x35 : (Nat → Int32)} {x36 : (Nat → Int32)} {x37 : (Nat → Int32)} {x38 : (Nat → Int32)} (hf : fX11_summersN_121 x0 x16 x17 x18 x23 x24 x25 x26 k64 v1 v2 v3 v4 v6 v7 s0 s1 x33 x35 x36 x37 x38 = some (r, rx33, rx35, rx36, rx37, rx38)) : gV l b0 D K (n, κ, ov X0 [0, 16, 17, 18, 23, 24, 25, 26, 33, 35, 36, 37, 38] [x0, x16, x17, x18, x23, x24, x25, x26, x33, x35, x36, x37, x38], ov Y0 [] [], Z, 0, 0) 121 [(0, .ref (b0 + 0)), (1, .int v1), (2, .int v2), (3, .int v3), (4, .int v4), (6, .int v6), (7, .int v7)] [.int s0, .int s1] := by
  unfold fX11_summersN_121 at hf
  refine g_iadd hC dX11_summers_121 ?_
  obtain ⟨t_1, et_1, hf⟩ := bnE hf
  refine g_topi et_1 ?_
  refine g_istore hC (i := 5) [(5, .int t_1), (0, .ref (b0 + 0)), (1, .int v1), (2, .int v2), (3, .int v3), (4, .int v4), (6, .int v6), (7, .int v7)] dX11_summers_122 (by decide) rfl ?_
  obtain ⟨t_2, et_2, hf⟩ := bnE hf
  refine g_iinc hC (i := 7) (v := t_2) [(7, .int t_2), (5, .int t_1), (0, .ref (b0 + 0)), (1, .int v1), (2, .int v2), (3, .int v3), (4, .int v4), (6, .int v6)] dX11_summers_124 (q := 7) rfl ((congrArg (HAdd.hAdd v7) ic_1).trans et_2.symm) (by decide) rfl ?_
  refine g_goto hC 64 dX11_summers_127 (by decide) ?_
  exact g_sub [2, 3, 4, 5, 6, 1, 7, 0] rfl (hk64 v1 v2 v3 v4 t_1 v6 t_2 x33 x35 x36 x37 x38 hf)

def fX11_summersN_64b   (x0 : Nat → Int32) (x16 : Nat → Int32) (x17 : Nat → Int32) (x18 : Nat → Int32) (x23 : Nat → Int32) (x24 : Nat → Int32) (x25 : Nat → Int32) (x26 : Nat → Int32)  (k64 : Int32 → Int32 → Int32 → Int32 → Int32 → Int32 → Int32 → (Nat → Int32) → (Nat → Int32) → (Nat → Int32) → (Nat → Int32) → (Nat → Int32) → Option (Int32 × (Nat → Int32) × (Nat → Int32) × (Nat → Int32) × (Nat → Int32) × (Nat → Int32))) (v1 : Int32) (v2 : Int32) (v3 : Int32) (v4 : Int32) (v5 : Int32) (v6 : Int32) (v7 : Int32) (x33 : (Nat → Int32)) (x35 : (Nat → Int32)) (x36 : (Nat → Int32)) (x37 : (Nat → Int32)) (x38 : (Nat → Int32)) : Option (Int32 × (Nat → Int32) × (Nat → Int32) × (Nat → Int32) × (Nat → Int32) × (Nat → Int32)) := if v1 ≤ v7 then (some (v5, x33, x35, x36, x37, x38)) else (bd6 (fX11_passSummerN x0 x16 x17 x18 x23 x24 x25 x26 v6 v2 v3 x33 x35 x36 x37 x38) fun r_1 x33_2 x35_3 x36_4 x37_5 x38_6 => (if v4 = 0 then (bd1 (fX9_riverBits x36_4 x17) fun r_10 => (bd1 (fJ6_bitCount_0f7a4 r_10) fun r_12 => (fX11_summersN_121 x0 x16 x17 x18 x23 x24 x25 x26 k64 v1 v2 v3 v4 r_1 v7 r_12 v5 x33_2 x35_3 x36_4 x37_5 x38_6))) else (bd1 (fX9_placesOf x36_4 x17) fun r_8 => (fX11_summersN_121 x0 x16 x17 x18 x23 x24 x25 x26 k64 v1 v2 v3 v4 r_1 v7 r_8 v5 x33_2 x35_3 x36_4 x37_5 x38_6))))
def fX11_summersN_64   (x0 : Nat → Int32) (x16 : Nat → Int32) (x17 : Nat → Int32) (x18 : Nat → Int32) (x23 : Nat → Int32) (x24 : Nat → Int32) (x25 : Nat → Int32) (x26 : Nat → Int32)  : Int32 → Int32 → Int32 → Int32 → Int32 → Int32 → Int32 → (Nat → Int32) → (Nat → Int32) → (Nat → Int32) → (Nat → Int32) → (Nat → Int32) → Option (Int32 × (Nat → Int32) × (Nat → Int32) × (Nat → Int32) × (Nat → Int32) × (Nat → Int32)) := lq12 (fX11_summersN_64b x0 x16 x17 x18 x23 x24 x25 x26 ) 5000
set_option maxHeartbeats 4000000 in
set_option maxRecDepth 100000 in
theorem wX11_summersN_64 {l : Launch} {b0 : Nat} {D : GD} {K : KT} {n : Nat} {κ : QT} {X0 : XT} {Y0 : YT} {Z : ZT} (hL : LY n κ) (hN : ([0, 16, 17, 18, 23, 24, 25, 26, 33, 35, 36, 37, 38] : List Nat).Nodup) (hM : ([] : List Nat).Nodup) (hC : gC l b0 D K RX11 cX11_summers (some FieldType.int) 8 6 164 0 0) {x0 : Nat → Int32} {x16 : Nat → Int32} {x17 : Nat → Int32} {x18 : Nat → Int32} {x23 : Nat → Int32} {x24 : Nat → Int32} {x25 : Nat → Int32} {x26 : Nat → Int32} (hri : fX11_isWithin (x16 8) 0 (x0 4 - 1) = some 0) {r : Int32} {rx33 : (Nat → Int32)} {rx35 : (Nat → Int32)} {rx36 : (Nat → Int32)} {rx37 : (Nat → Int32)} {rx38 : (Nat → Int32)} (hret : ∀ pc loc, narrow .int (.int r) = .int r → decode cX11_summers pc = .ok (.ireturn, 1) → gV l b0 D K (n, κ, ov X0 [0, 16, 17, 18, 23, 24, 25, 26, 33, 35, 36, 37, 38] [x0, x16, x17, x18, x23, x24, x25, x26, rx33, rx35, rx36, rx37, rx38], ov Y0 [] [], Z, 0, 0) pc loc [.int r]) : ∀ (j : Nat) (v1 : Int32) (v2 : Int32) (v3 : Int32) (v4 : Int32) (v5 : Int32) (v6 : Int32) (v7 : Int32) (x33 : (Nat → Int32)) (x35 : (Nat → Int32)) (x36 : (Nat → Int32)) (x37 : (Nat → Int32)) (x38 : (Nat → Int32)), lq12 (fX11_summersN_64b x0 x16 x17 x18 x23 x24 x25 x26 ) j v1 v2 v3 v4 v5 v6 v7 x33 x35 x36 x37 x38 = some (r, rx33, rx35, rx36, rx37, rx38) → gV l b0 D K (n, κ, ov X0 [0, 16, 17, 18, 23, 24, 25, 26, 33, 35, 36, 37, 38] [x0, x16, x17, x18, x23, x24, x25, x26, x33, x35, x36, x37, x38], ov Y0 [] [], Z, 0, 0) 64 [(0, .ref (b0 + 0)), (1, .int v1), (2, .int v2), (3, .int v3), (4, .int v4), (5, .int v5), (6, .int v6), (7, .int v7)] [] := by
  intro j
  induction j with
  | zero => intro v1 v2 v3 v4 v5 v6 v7 x33 x35 x36 x37 x38 hf; cases hf
  | succ j hk64 =>
    intro v1 v2 v3 v4 v5 v6 v7 x33 x35 x36 x37 x38 hf
    replace hf : fX11_summersN_64b x0 x16 x17 x18 x23 x24 x25 x26  (lq12 (fX11_summersN_64b x0 x16 x17 x18 x23 x24 x25 x26 ) j) v1 v2 v3 v4 v5 v6 v7 x33 x35 x36 x37 x38 = some (r, rx33, rx35, rx36, rx37, rx38) := hf
    unfold fX11_summersN_64b at hf
    refine g_iload hC 7 dX11_summers_64 rfl ?_
    refine g_iload_n hC 1 dX11_summers_66 rfl rfl ?_
    refine g_icmp_ge hC 130 dX11_summers_67 (by decide) (fun hc => ?_) (fun hc => ?_)
    · replace hf := ifT hf hc
      refine g_iload hC 5 dX11_summers_130 rfl ?_
      obtain ⟨rfl, rfl, rfl, rfl, rfl, rfl⟩ := sm6E hf
      exact hret _ _ rfl dX11_summers_132
    · replace hf := ifF hf hc
      refine g_aload_n hC 0 dX11_summers_70 rfl rfl ?_
      refine g_iload hC 6 dX11_summers_71 rfl ?_
      refine g_iload_n hC 2 dX11_summers_73 rfl rfl ?_
      refine g_iload_n hC 3 dX11_summers_74 rfl rfl ?_
      obtain ⟨r_1, x33_2, x35_3, x36_4, x37_5, x38_6, q_7, hf⟩ := bd6E hf
      refine g_callV_i (a := 0) hC (X' := ov X0 [0, 16, 17, 18, 23, 24, 25, 26, 33, 35, 36, 37, 38] [x0, x16, x17, x18, x23, x24, x25, x26, x33_2, x35_3, x36_4, x37_5, x38_6]) (Y' := ov Y0 [] []) (As := [.int v6, .int v2, .int v3]) (gMi_eq (c_X11_passSummerN l hL hri (ov_map hN [0, 1, 2, 3, 4, 5, 6, 7, 8, 9, 10, 11, 12] (by rfl) (by rfl)) (ov_map hM [] (by rfl) (by rfl)) q_7) (ov_ovE hN (by rfl) [0, 1, 2, 3, 4, 5, 6, 7, 8, 9, 10, 11, 12] [] (by rfl) (by rfl) [] (by rfl) (by rfl) (by rfl) 13 (by rfl) (by decide)) (ov_ovE hM (by rfl) [] [] (by rfl) (by rfl) [] (by rfl) (by rfl) (by rfl) 0 (by rfl) (by decide))) tw_1134 tw_1131 tw_116 tw_1133 tw_42 (ci := 11) rfl (by decide) (kk_0 hL) (kn_0 hL) pd_X11_passSummer (by decide) (by decide) rfl rfl (Nat.le_of_ble_eq_true rfl) rfl dX11_summers_75 ?_
      refine g_istore hC (i := 6) [(6, .int r_1), (0, .ref (b0 + 0)), (1, .int v1), (2, .int v2), (3, .int v3), (4, .int v4), (5, .int v5), (7, .int v7)] dX11_summers_78 (by decide) rfl ?_
      refine g_iload hC 6 dX11_summers_80 rfl ?_
      refine g_iload hC 5 dX11_summers_82 rfl ?_
      refine g_if_ne hC 107 dX11_summers_84 (by decide) (fun hc => ?_) (fun hc => ?_)
      · replace hf := ifF hf hc
        refine g_aload_n hC 1 dX11_summers_107 rfl rfl ?_
        refine gt_X11_41 hC (a := 0) (kk_0 hL) (kn_0 hL) dX11_summers_108 ?_
        refine g_ref (b := 16) rfl ?_
        refine gt_X11_51 hC (a := 16) (kk_16 hL) (kn_16 hL) dX11_summers_111 ?_
        refine g_ref (b := 17) rfl ?_
        refine g_aload_n hC 1 dX11_summers_114 rfl rfl ?_
        refine gt_X11_65 hC (a := 0) (kk_0 hL) (kn_0 hL) dX11_summers_115 ?_
        refine g_ref (b := 35) rfl ?_
        obtain ⟨r_8, q_9, hf⟩ := bd1E hf
        refine g_callV_i (a := 17) hC (X' := ov X0 [0, 16, 17, 18, 23, 24, 25, 26, 33, 35, 36, 37, 38] [x0, x16, x17, x18, x23, x24, x25, x26, x33_2, x35_3, x36_4, x37_5, x38_6]) (Y' := ov Y0 [] []) (As := [.ref (b0 + 35)]) (gMi_eq (c_X9_placesOf l hL (kk_35 hL) (kn_35 hL) (nd_sub hN [10, 2] (by decide) (by rfl)) (nd_sub hM [] (by decide) (by rfl)) (ov_map hN [10, 2] (by rfl) (by rfl)) (ov_map hM [] (by rfl) (by rfl)) q_9) (ov_ovE hN (by rfl) [10, 2] [0, 1, 3, 4, 5, 6, 7, 8, 9, 11, 12] (by rfl) (by rfl) [x0, x16, x18, x23, x24, x25, x26, x33_2, x35_3, x37_5, x38_6] (by rfl) (by rfl) (by rfl) 13 (by rfl) (by decide)) (ov_ovE hM (by rfl) [] [] (by rfl) (by rfl) [] (by rfl) (by rfl) (by rfl) 0 (by rfl) (by decide))) tw_1041 tw_1142 tw_119 tw_1039 tw_1040 (ci := 9) rfl (by decide) (kk_17 hL) (kn_17 hL) pd_X9_placesOf (by decide) (by decide) rfl rfl (Nat.le_of_ble_eq_true rfl) rfl dX11_summers_118 ?_
        exact g_sub [1, 2, 3, 4, 5, 0, 7] rfl (wX11_summersN_121 hL hN hM hC hri hret hk64 hf)
      · replace hf := ifT hf hc
        refine g_aload_n hC 1 dX11_summers_87 rfl rfl ?_
        refine gt_X11_41 hC (a := 0) (kk_0 hL) (kn_0 hL) dX11_summers_88 ?_
        refine g_ref (b := 16) rfl ?_
        refine gt_X11_51 hC (a := 16) (kk_16 hL) (kn_16 hL) dX11_summers_91 ?_
        refine g_ref (b := 17) rfl ?_
        refine g_aload_n hC 1 dX11_summers_94 rfl rfl ?_
        refine gt_X11_65 hC (a := 0) (kk_0 hL) (kn_0 hL) dX11_summers_95 ?_
        refine g_ref (b := 35) rfl ?_
        obtain ⟨r_10, q_11, hf⟩ := bd1E hf
        refine g_callV_i (a := 17) hC (X' := ov X0 [0, 16, 17, 18, 23, 24, 25, 26, 33, 35, 36, 37, 38] [x0, x16, x17, x18, x23, x24, x25, x26, x33_2, x35_3, x36_4, x37_5, x38_6]) (Y' := ov Y0 [] []) (As := [.ref (b0 + 35)]) (gMi_eq (c_X9_riverBits l hL (kk_35 hL) (kn_35 hL) (nd_sub hN [10, 2] (by decide) (by rfl)) (nd_sub hM [] (by decide) (by rfl)) (ov_map hN [10, 2] (by rfl) (by rfl)) (ov_map hM [] (by rfl) (by rfl)) q_11) (ov_ovE hN (by rfl) [10, 2] [0, 1, 3, 4, 5, 6, 7, 8, 9, 11, 12] (by rfl) (by rfl) [x0, x16, x18, x23, x24, x25, x26, x33_2, x35_3, x37_5, x38_6] (by rfl) (by rfl) (by rfl) 13 (by rfl) (by decide)) (ov_ovE hM (by rfl) [] [] (by rfl) (by rfl) [] (by rfl) (by rfl) (by rfl) 0 (by rfl) (by decide))) tw_918 tw_983 tw_119 tw_916 tw_917 (ci := 9) rfl (by decide) (kk_17 hL) (kn_17 hL) pd_X9_riverBits (by decide) (by decide) rfl rfl (Nat.le_of_ble_eq_true rfl) rfl dX11_summers_98 ?_
        obtain ⟨r_12, q_13, hf⟩ := bd1E hf
        refine g_callS_i hC (X' := ov X0 [0, 16, 17, 18, 23, 24, 25, 26, 33, 35, 36, 37, 38] [x0, x16, x17, x18, x23, x24, x25, x26, x33_2, x35_3, x36_4, x37_5, x38_6]) (Y' := ov Y0 [] []) (As := [.int r_10]) (gMi_eq (c_J6_bitCount_0f7a4 l hL (ov_map hN [] (by rfl) (by rfl)) (ov_map hM [] (by rfl) (by rfl)) q_13) (ov_ovE hN (by rfl) [] [0, 1, 2, 3, 4, 5, 6, 7, 8, 9, 10, 11, 12] (by rfl) (by rfl) [x0, x16, x17, x18, x23, x24, x25, x26, x33_2, x35_3, x36_4, x37_5, x38_6] (by rfl) (by rfl) (by rfl) 13 (by rfl) (by decide)) (ov_ovE hM (by rfl) [] [] (by rfl) (by rfl) [] (by rfl) (by rfl) (by rfl) 0 (by rfl) (by decide))) tw_922 tw_984 tw_136 tw_921 pd_J6_bitCount_0f7a4 (by decide) (by decide) rfl rfl (Nat.le_of_ble_eq_true rfl) rfl dX11_summers_101 ?_
        refine g_goto hC 121 dX11_summers_104 (by decide) ?_
        exact g_sub [1, 2, 3, 4, 5, 0, 7] rfl (wX11_summersN_121 hL hN hM hC hri hret hk64 hf)

def fX11_summersN_0   (x0 : Nat → Int32) (x16 : Nat → Int32) (x17 : Nat → Int32) (x18 : Nat → Int32) (x23 : Nat → Int32) (x24 : Nat → Int32) (x25 : Nat → Int32) (x26 : Nat → Int32)  (v1 : Int32) (v2 : Int32) (v3 : Int32) (v4 : Int32) (x33 : (Nat → Int32)) (x35 : (Nat → Int32)) (x36 : (Nat → Int32)) (x37 : (Nat → Int32)) (x38 : (Nat → Int32)) : Option (Int32 × (Nat → Int32) × (Nat → Int32) × (Nat → Int32) × (Nat → Int32) × (Nat → Int32)) := bd1 (fX11_isTold x17) fun r_1 => (if r_1 = 0 then (some ((-1), x33, x35, x36, x37, x38)) else (bd1 (fX11_isWithin v1 1 10) fun r_3 => (if r_3 = 0 then (some ((-1), x33, x35, x36, x37, x38)) else (bd1 (fX11_isWithin v2 1 60) fun r_5 => (if r_5 = 0 then (some ((-1), x33, x35, x36, x37, x38)) else (bd1 (fX11_isWithin v3 0 100) fun r_7 => (if r_7 = 0 then (some ((-1), x33, x35, x36, x37, x38)) else (bd1 (fX11_isWithin v4 0 1) fun r_9 => (if r_9 = 0 then (some ((-1), x33, x35, x36, x37, x38)) else (bn (x16 9) fun t_11 => (fX11_summersN_64 x0 x16 x17 x18 x23 x24 x25 x26  v1 v2 v3 v4 0 t_11 0 x33 x35 x36 x37 x38)))))))))))
set_option maxHeartbeats 4000000 in
set_option maxRecDepth 100000 in
theorem wX11_summersN_0 {l : Launch} {b0 : Nat} {D : GD} {K : KT} {n : Nat} {κ : QT} {X0 : XT} {Y0 : YT} {Z : ZT} (hL : LY n κ) (hN : ([0, 16, 17, 18, 23, 24, 25, 26, 33, 35, 36, 37, 38] : List Nat).Nodup) (hM : ([] : List Nat).Nodup) (hC : gC l b0 D K RX11 cX11_summers (some FieldType.int) 8 6 164 0 0) {x0 : Nat → Int32} {x16 : Nat → Int32} {x17 : Nat → Int32} {x18 : Nat → Int32} {x23 : Nat → Int32} {x24 : Nat → Int32} {x25 : Nat → Int32} {x26 : Nat → Int32} (hri : fX11_isWithin (x16 8) 0 (x0 4 - 1) = some 0) {r : Int32} {rx33 : (Nat → Int32)} {rx35 : (Nat → Int32)} {rx36 : (Nat → Int32)} {rx37 : (Nat → Int32)} {rx38 : (Nat → Int32)} (hret : ∀ pc loc, narrow .int (.int r) = .int r → decode cX11_summers pc = .ok (.ireturn, 1) → gV l b0 D K (n, κ, ov X0 [0, 16, 17, 18, 23, 24, 25, 26, 33, 35, 36, 37, 38] [x0, x16, x17, x18, x23, x24, x25, x26, rx33, rx35, rx36, rx37, rx38], ov Y0 [] [], Z, 0, 0) pc loc [.int r]) {v1 : Int32} {v2 : Int32} {v3 : Int32} {v4 : Int32} {x33 : (Nat → Int32)} {x35 : (Nat → Int32)} {x36 : (Nat → Int32)} {x37 : (Nat → Int32)} {x38 : (Nat → Int32)} (hf : fX11_summersN_0 x0 x16 x17 x18 x23 x24 x25 x26  v1 v2 v3 v4 x33 x35 x36 x37 x38 = some (r, rx33, rx35, rx36, rx37, rx38)) : gV l b0 D K (n, κ, ov X0 [0, 16, 17, 18, 23, 24, 25, 26, 33, 35, 36, 37, 38] [x0, x16, x17, x18, x23, x24, x25, x26, x33, x35, x36, x37, x38], ov Y0 [] [], Z, 0, 0) 0 [(0, .ref (b0 + 0)), (1, .int v1), (2, .int v2), (3, .int v3), (4, .int v4)] [] := by
  unfold fX11_summersN_0 at hf
  refine g_aload_n hC 0 dX11_summers_0 rfl rfl ?_
  obtain ⟨r_1, q_2, hf⟩ := bd1E hf
  refine g_callV_i (a := 0) hC (X' := ov X0 [0, 16, 17, 18, 23, 24, 25, 26, 33, 35, 36, 37, 38] [x0, x16, x17, x18, x23, x24, x25, x26, x33, x35, x36, x37, x38]) (Y' := ov Y0 [] []) (As := []) (gMi_eq (c_X11_isTold l hL (ov_map hN [2] (by rfl) (by rfl)) (ov_map hM [] (by rfl) (by rfl)) q_2) (ov_ovE hN (by rfl) [2] [0, 1, 3, 4, 5, 6, 7, 8, 9, 10, 11, 12] (by rfl) (by rfl) [x0, x16, x18, x23, x24, x25, x26, x33, x35, x36, x37, x38] (by rfl) (by rfl) (by rfl) 13 (by rfl) (by decide)) (ov_ovE hM (by rfl) [] [] (by rfl) (by rfl) [] (by rfl) (by rfl) (by rfl) 0 (by rfl) (by decide))) tw_853 tw_850 tw_116 tw_852 tw_25 (ci := 11) rfl (by decide) (kk_0 hL) (kn_0 hL) pd_X11_isTold (by decide) (by decide) rfl rfl (Nat.le_of_ble_eq_true rfl) rfl dX11_summers_1 ?_
  refine g_if_eq hC 47 dX11_summers_4 (by decide) (fun hc => ?_) (fun hc => ?_)
  · replace hf := ifT hf hc
    refine g_iconst hC (v := (-1)) dX11_summers_47 ic_m1 ?_
    obtain ⟨rfl, rfl, rfl, rfl, rfl, rfl⟩ := sm6E hf
    exact hret _ _ rfl dX11_summers_48
  · replace hf := ifF hf hc
    refine g_iload_n hC 1 dX11_summers_7 rfl rfl ?_
    refine g_iconst hC (v := 1) dX11_summers_8 ic_1 ?_
    refine g_bipush hC (v := 10) dX11_summers_9 bp_10 ?_
    obtain ⟨r_3, q_4, hf⟩ := bd1E hf
    refine g_callS_i hC (X' := ov X0 [0, 16, 17, 18, 23, 24, 25, 26, 33, 35, 36, 37, 38] [x0, x16, x17, x18, x23, x24, x25, x26, x33, x35, x36, x37, x38]) (Y' := ov Y0 [] []) (As := [.int v1, .int 1, .int 10]) (gMi_eq (c_X11_isWithin l hL (ov_map hN [] (by rfl) (by rfl)) (ov_map hM [] (by rfl) (by rfl)) q_4) (ov_ovE hN (by rfl) [] [0, 1, 2, 3, 4, 5, 6, 7, 8, 9, 10, 11, 12] (by rfl) (by rfl) [x0, x16, x17, x18, x23, x24, x25, x26, x33, x35, x36, x37, x38] (by rfl) (by rfl) (by rfl) 13 (by rfl) (by decide)) (ov_ovE hM (by rfl) [] [] (by rfl) (by rfl) [] (by rfl) (by rfl) (by rfl) 0 (by rfl) (by decide))) tw_666 tw_870 tw_116 tw_665 pd_X11_isWithin (by decide) (by decide) rfl rfl (Nat.le_of_ble_eq_true rfl) rfl dX11_summers_11 ?_
    refine g_if_eq hC 47 dX11_summers_14 (by decide) (fun hc => ?_) (fun hc => ?_)
    · replace hf := ifT hf hc
      refine g_iconst hC (v := (-1)) dX11_summers_47 ic_m1 ?_
      obtain ⟨rfl, rfl, rfl, rfl, rfl, rfl⟩ := sm6E hf
      exact hret _ _ rfl dX11_summers_48
    · replace hf := ifF hf hc
      refine g_iload_n hC 2 dX11_summers_17 rfl rfl ?_
      refine g_iconst hC (v := 1) dX11_summers_18 ic_1 ?_
      refine g_bipush hC (v := 60) dX11_summers_19 bp_60 ?_
      obtain ⟨r_5, q_6, hf⟩ := bd1E hf
      refine g_callS_i hC (X' := ov X0 [0, 16, 17, 18, 23, 24, 25, 26, 33, 35, 36, 37, 38] [x0, x16, x17, x18, x23, x24, x25, x26, x33, x35, x36, x37, x38]) (Y' := ov Y0 [] []) (As := [.int v2, .int 1, .int 60]) (gMi_eq (c_X11_isWithin l hL (ov_map hN [] (by rfl) (by rfl)) (ov_map hM [] (by rfl) (by rfl)) q_6) (ov_ovE hN (by rfl) [] [0, 1, 2, 3, 4, 5, 6, 7, 8, 9, 10, 11, 12] (by rfl) (by rfl) [x0, x16, x17, x18, x23, x24, x25, x26, x33, x35, x36, x37, x38] (by rfl) (by rfl) (by rfl) 13 (by rfl) (by decide)) (ov_ovE hM (by rfl) [] [] (by rfl) (by rfl) [] (by rfl) (by rfl) (by rfl) 0 (by rfl) (by decide))) tw_666 tw_870 tw_116 tw_665 pd_X11_isWithin (by decide) (by decide) rfl rfl (Nat.le_of_ble_eq_true rfl) rfl dX11_summers_21 ?_
      refine g_if_eq hC 47 dX11_summers_24 (by decide) (fun hc => ?_) (fun hc => ?_)
      · replace hf := ifT hf hc
        refine g_iconst hC (v := (-1)) dX11_summers_47 ic_m1 ?_
        obtain ⟨rfl, rfl, rfl, rfl, rfl, rfl⟩ := sm6E hf
        exact hret _ _ rfl dX11_summers_48
      · replace hf := ifF hf hc
        refine g_iload_n hC 3 dX11_summers_27 rfl rfl ?_
        refine g_iconst hC (v := 0) dX11_summers_28 ic_0 ?_
        refine g_bipush hC (v := 100) dX11_summers_29 bp_100 ?_
        obtain ⟨r_7, q_8, hf⟩ := bd1E hf
        refine g_callS_i hC (X' := ov X0 [0, 16, 17, 18, 23, 24, 25, 26, 33, 35, 36, 37, 38] [x0, x16, x17, x18, x23, x24, x25, x26, x33, x35, x36, x37, x38]) (Y' := ov Y0 [] []) (As := [.int v3, .int 0, .int 100]) (gMi_eq (c_X11_isWithin l hL (ov_map hN [] (by rfl) (by rfl)) (ov_map hM [] (by rfl) (by rfl)) q_8) (ov_ovE hN (by rfl) [] [0, 1, 2, 3, 4, 5, 6, 7, 8, 9, 10, 11, 12] (by rfl) (by rfl) [x0, x16, x17, x18, x23, x24, x25, x26, x33, x35, x36, x37, x38] (by rfl) (by rfl) (by rfl) 13 (by rfl) (by decide)) (ov_ovE hM (by rfl) [] [] (by rfl) (by rfl) [] (by rfl) (by rfl) (by rfl) 0 (by rfl) (by decide))) tw_666 tw_870 tw_116 tw_665 pd_X11_isWithin (by decide) (by decide) rfl rfl (Nat.le_of_ble_eq_true rfl) rfl dX11_summers_31 ?_
        refine g_if_eq hC 47 dX11_summers_34 (by decide) (fun hc => ?_) (fun hc => ?_)
        · replace hf := ifT hf hc
          refine g_iconst hC (v := (-1)) dX11_summers_47 ic_m1 ?_
          obtain ⟨rfl, rfl, rfl, rfl, rfl, rfl⟩ := sm6E hf
          exact hret _ _ rfl dX11_summers_48
        · replace hf := ifF hf hc
          refine g_iload hC 4 dX11_summers_37 rfl ?_
          refine g_iconst hC (v := 0) dX11_summers_39 ic_0 ?_
          refine g_iconst hC (v := 1) dX11_summers_40 ic_1 ?_
          obtain ⟨r_9, q_10, hf⟩ := bd1E hf
          refine g_callS_i hC (X' := ov X0 [0, 16, 17, 18, 23, 24, 25, 26, 33, 35, 36, 37, 38] [x0, x16, x17, x18, x23, x24, x25, x26, x33, x35, x36, x37, x38]) (Y' := ov Y0 [] []) (As := [.int v4, .int 0, .int 1]) (gMi_eq (c_X11_isWithin l hL (ov_map hN [] (by rfl) (by rfl)) (ov_map hM [] (by rfl) (by rfl)) q_10) (ov_ovE hN (by rfl) [] [0, 1, 2, 3, 4, 5, 6, 7, 8, 9, 10, 11, 12] (by rfl) (by rfl) [x0, x16, x17, x18, x23, x24, x25, x26, x33, x35, x36, x37, x38] (by rfl) (by rfl) (by rfl) 13 (by rfl) (by decide)) (ov_ovE hM (by rfl) [] [] (by rfl) (by rfl) [] (by rfl) (by rfl) (by rfl) 0 (by rfl) (by decide))) tw_666 tw_870 tw_116 tw_665 pd_X11_isWithin (by decide) (by decide) rfl rfl (Nat.le_of_ble_eq_true rfl) rfl dX11_summers_41 ?_
          refine g_if_ne hC 49 dX11_summers_44 (by decide) (fun hc => ?_) (fun hc => ?_)
          · replace hf := ifF hf hc
            refine g_iconst hC (v := 0) dX11_summers_49 ic_0 ?_
            refine g_istore hC (i := 5) [(5, .int 0), (0, .ref (b0 + 0)), (1, .int v1), (2, .int v2), (3, .int v3), (4, .int v4)] dX11_summers_50 (by decide) rfl ?_
            refine g_aload_n hC 1 dX11_summers_52 rfl rfl ?_
            refine gt_X11_41 hC (a := 0) (kk_0 hL) (kn_0 hL) dX11_summers_53 ?_
            refine g_ref (b := 16) rfl ?_
            refine gt_X11_290 hC (x := x16) (kk_16 hL) (kn_16 hL) (ov_get hN 1 rfl rfl) dX11_summers_56 ?_
            obtain ⟨t_11, et_11, hf⟩ := bnE hf
            refine g_topi et_11 ?_
            refine g_istore hC (i := 6) [(6, .int t_11), (5, .int 0), (0, .ref (b0 + 0)), (1, .int v1), (2, .int v2), (3, .int v3), (4, .int v4)] dX11_summers_59 (by decide) rfl ?_
            refine g_iconst hC (v := 0) dX11_summers_61 ic_0 ?_
            refine g_istore hC (i := 7) [(7, .int 0), (6, .int t_11), (5, .int 0), (0, .ref (b0 + 0)), (1, .int v1), (2, .int v2), (3, .int v3), (4, .int v4)] dX11_summers_62 (by decide) rfl ?_
            exact g_sub [3, 4, 5, 6, 7, 2, 1, 0] rfl (wX11_summersN_64 hL hN hM hC hri hret  5000 v1 v2 v3 v4 0 t_11 0 x33 x35 x36 x37 x38 hf)
          · replace hf := ifT hf hc
            refine g_iconst hC (v := (-1)) dX11_summers_47 ic_m1 ?_
            obtain ⟨rfl, rfl, rfl, rfl, rfl, rfl⟩ := sm6E hf
            exact hret _ _ rfl dX11_summers_48

def fX11_summersN   (x0 : Nat → Int32) (x16 : Nat → Int32) (x17 : Nat → Int32) (x18 : Nat → Int32) (x23 : Nat → Int32) (x24 : Nat → Int32) (x25 : Nat → Int32) (x26 : Nat → Int32)  (v1 : Int32) (v2 : Int32) (v3 : Int32) (v4 : Int32) (x33 : Nat → Int32) (x35 : Nat → Int32) (x36 : Nat → Int32) (x37 : Nat → Int32) (x38 : Nat → Int32)  : Option (Int32 × (Nat → Int32) × (Nat → Int32) × (Nat → Int32) × (Nat → Int32) × (Nat → Int32)) := fX11_summersN_0 x0 x16 x17 x18 x23 x24 x25 x26 v1 v2 v3 v4 x33 x35 x36 x37 x38

set_option maxHeartbeats 4000000 in
set_option maxRecDepth 100000 in
theorem c_X11_summersN (l : Launch) {b0 : Nat} {D : GD} {n : Nat} {κ : QT} {X0 : XT} {Y0 : YT} {Z : ZT} (hL : LY n κ) {x0 : Nat → Int32} {x16 : Nat → Int32} {x17 : Nat → Int32} {x18 : Nat → Int32} {x23 : Nat → Int32} {x24 : Nat → Int32} {x25 : Nat → Int32} {x26 : Nat → Int32} {x33 : Nat → Int32} {x35 : Nat → Int32} {x36 : Nat → Int32} {x37 : Nat → Int32} {x38 : Nat → Int32} (hri : fX11_isWithin (x16 8) 0 (x0 4 - 1) = some 0) (hx : ([0, 16, 17, 18, 23, 24, 25, 26, 33, 35, 36, 37, 38] : List Nat).map X0 = [x0, x16, x17, x18, x23, x24, x25, x26, x33, x35, x36, x37, x38]) (hy : ([] : List Nat).map Y0 = []) {v1 : Int32} {v2 : Int32} {v3 : Int32} {v4 : Int32} {r : Int32} {rx33 : (Nat → Int32)} {rx35 : (Nat → Int32)} {rx36 : (Nat → Int32)} {rx37 : (Nat → Int32)} {rx38 : (Nat → Int32)} (hf : fX11_summersN x0 x16 x17 x18 x23 x24 x25 x26 v1 v2 v3 v4 x33 x35 x36 x37 x38 = some (r, rx33, rx35, rx36, rx37, rx38)) : gMi l yX11_summers cX11_summers 8 (some FieldType.int) 6 164 0 0 b0 D [.ref (b0 + 0), .int v1, .int v2, .int v3, .int v4] (n, κ, X0, Y0, Z) (n, κ, ov X0 [0, 16, 17, 18, 23, 24, 25, 26, 33, 35, 36, 37, 38] [x0, x16, x17, x18, x23, x24, x25, x26, rx33, rx35, rx36, rx37, rx38], ov Y0 [] [], Z) r := by
  have hN : ([0, 16, 17, 18, 23, 24, 25, 26, 33, 35, 36, 37, 38] : List Nat).Nodup := by decide
  have hM : ([] : List Nat).Nodup := by decide
  refine g_meti (own := RX11) (by decide) rfl rfl (Nat.le_of_ble_eq_true rfl) ?_
  intro K hC hret
  have e := wX11_summersN_0 hL hN hM hC hri hret hf
  rw [ov_id' hx, ov_id' hy] at e
  exact g_sub [0, 1, 2, 3, 4] rfl e

-- X11_summers
def fX11_summersR_121  (Lru : Nat) (xruz1 : Nat → Int32) (x0 : Nat → Int32) (x16 : Nat → Int32) (x17 : Nat → Int32) (x18 : Nat → Int32) (x23 : Nat → Int32) (x24 : Nat → Int32) (x25 : Nat → Int32) (x26 : Nat → Int32)  (k64 : Int32 → Int32 → Int32 → Int32 → Int32 → Int32 → Int32 → (Nat → Int32) → (Nat → Int32) → (Nat → Int32) → (Nat → Int32) → (Nat → Int32) → (Nat → Int64) → (Nat → Int64) → Option (Int32 × (Nat → Int32) × (Nat → Int32) × (Nat → Int32) × (Nat → Int32) × (Nat → Int32) × (Nat → Int64) × (Nat → Int64))) (v1 : Int32) (v2 : Int32) (v3 : Int32) (v4 : Int32) (v6 : Int32) (v7 : Int32) (s0 : Int32) (s1 : Int32) (x33 : (Nat → Int32)) (x35 : (Nat → Int32)) (x36 : (Nat → Int32)) (x37 : (Nat → Int32)) (x38 : (Nat → Int32)) (yruz2 : (Nat → Int64)) (y34 : (Nat → Int64)) : Option (Int32 × (Nat → Int32) × (Nat → Int32) × (Nat → Int32) × (Nat → Int32) × (Nat → Int32) × (Nat → Int64) × (Nat → Int64)) := bn (s1 + s0) fun t_1 => (bn (v7 + 1) fun t_2 => (k64 v1 v2 v3 v4 t_1 v6 t_2 x33 x35 x36 x37 x38 yruz2 y34))
set_option maxHeartbeats 4000000 in
set_option maxRecDepth 100000 in
theorem wX11_summersR_121 {l : Launch} {b0 : Nat} {D : GD} {K : KT} {n : Nat} {κ : QT} {X0 : XT} {Y0 : YT} {Z : ZT} {ru : Nat} {Lru : Nat} (hL : LY n κ) (hk_ru : κ ru = (4, 0)) (hn_ru : ru < n) (hk_ru_1 : κ (ru + 1) = (14, Lru)) (hN : ([ru + 1, 0, 16, 17, 18, 23, 24, 25, 26, 33, 35, 36, 37, 38] : List Nat).Nodup) (hM : ([ru + 2, 34] : List Nat).Nodup) (hC : gC l b0 D K RX11 cX11_summers (some FieldType.int) 8 6 164 0 0) {xruz1 : Nat → Int32} {x0 : Nat → Int32} {x16 : Nat → Int32} {x17 : Nat → Int32} {x18 : Nat → Int32} {x23 : Nat → Int32} {x24 : Nat → Int32} {x25 : Nat → Int32} {x26 : Nat → Int32} (hri : fX11_isWithin (x16 8) 0 (x0 4 - 1) = some 1 ∧ inb (x16 8) 6 = true ∧ Z 15 (x16 8).toNatClampNeg = some ru) {r : Int32} {rx33 : (Nat → Int32)} {rx35 : (Nat → Int32)} {rx36 : (Nat → Int32)} {rx37 : (Nat → Int32)} {rx38 : (Nat → Int32)} {ryruz2 : (Nat → Int64)} {ry34 : (Nat → Int64)} (hret : ∀ pc loc, narrow .int (.int r) = .int r → decode cX11_summers pc = .ok (.ireturn, 1) → gV l b0 D K (n, κ, ov X0 [ru + 1, 0, 16, 17, 18, 23, 24, 25, 26, 33, 35, 36, 37, 38] [xruz1, x0, x16, x17, x18, x23, x24, x25, x26, rx33, rx35, rx36, rx37, rx38], ov Y0 [ru + 2, 34] [ryruz2, ry34], Z, 0, 0) pc loc [.int r]) {k64 : Int32 → Int32 → Int32 → Int32 → Int32 → Int32 → Int32 → (Nat → Int32) → (Nat → Int32) → (Nat → Int32) → (Nat → Int32) → (Nat → Int32) → (Nat → Int64) → (Nat → Int64) → Option (Int32 × (Nat → Int32) × (Nat → Int32) × (Nat → Int32) × (Nat → Int32) × (Nat → Int32) × (Nat → Int64) × (Nat → Int64))} (hk64 : ∀ (v1 : Int32) (v2 : Int32) (v3 : Int32) (v4 : Int32) (v5 : Int32) (v6 : Int32) (v7 : Int32) (x33 : (Nat → Int32)) (x35 : (Nat → Int32)) (x36 : (Nat → Int32)) (x37 : (Nat → Int32)) (x38 : (Nat → Int32)) (yruz2 : (Nat → Int64)) (y34 : (Nat → Int64)), k64 v1 v2 v3 v4 v5 v6 v7 x33 x35 x36 x37 x38 yruz2 y34 = some (r, rx33, rx35, rx36, rx37, rx38, ryruz2, ry34) → gV l b0 D K (n, κ, ov X0 [ru + 1, 0, 16, 17, 18, 23, 24, 25, 26, 33, 35, 36, 37, 38] [xruz1, x0, x16, x17, x18, x23, x24, x25, x26, x33, x35, x36, x37, x38], ov Y0 [ru + 2, 34] [yruz2, y34], Z, 0, 0) 64 [(0, .ref (b0 + 0)), (1, .int v1), (2, .int v2), (3, .int v3), (4, .int v4), (5, .int v5), (6, .int v6), (7, .int v7)] []) {v1 : Int32} {v2 : Int32} {v3 : Int32} {v4 : Int32} {v6 : Int32} {v7 : Int32} {s0 : Int32} {s1 : Int32} {x33 : (Nat → Int32)} {x35 : (Nat → Int32)} {x36 : (Nat → Int32)} {x37 : (Nat → Int32)} {x38 : (Nat → Int32)} {yruz2 : (Nat → Int64)} {y34 : (Nat → Int64)} (hf : fX11_summersR_121 Lru xruz1 x0 x16 x17 x18 x23 x24 x25 x26 k64 v1 v2 v3 v4 v6 v7 s0 s1 x33 x35 x36 x37 x38 yruz2 y34 = some (r, rx33, rx35, rx36, rx37, rx38, ryruz2, ry34)) : gV l b0 D K (n, κ, ov X0 [ru + 1, 0, 16, 17, 18, 23, 24, 25, 26, 33, 35, 36, 37, 38] [xruz1, x0, x16, x17, x18, x23, x24, x25, x26, x33, x35, x36, x37, x38], ov Y0 [ru + 2, 34] [yruz2, y34], Z, 0, 0) 121 [(0, .ref (b0 + 0)), (1, .int v1), (2, .int v2), (3, .int v3), (4, .int v4), (6, .int v6), (7, .int v7)] [.int s0, .int s1] := by
  unfold fX11_summersR_121 at hf
  refine g_iadd hC dX11_summers_121 ?_
  obtain ⟨t_1, et_1, hf⟩ := bnE hf
  refine g_topi et_1 ?_
  refine g_istore hC (i := 5) [(5, .int t_1), (0, .ref (b0 + 0)), (1, .int v1), (2, .int v2), (3, .int v3), (4, .int v4), (6, .int v6), (7, .int v7)] dX11_summers_122 (by decide) rfl ?_
  obtain ⟨t_2, et_2, hf⟩ := bnE hf
  refine g_iinc hC (i := 7) (v := t_2) [(7, .int t_2), (5, .int t_1), (0, .ref (b0 + 0)), (1, .int v1), (2, .int v2), (3, .int v3), (4, .int v4), (6, .int v6)] dX11_summers_124 (q := 7) rfl ((congrArg (HAdd.hAdd v7) ic_1).trans et_2.symm) (by decide) rfl ?_
  refine g_goto hC 64 dX11_summers_127 (by decide) ?_
  exact g_sub [2, 3, 4, 5, 6, 1, 7, 0] rfl (hk64 v1 v2 v3 v4 t_1 v6 t_2 x33 x35 x36 x37 x38 yruz2 y34 hf)

def fX11_summersR_64b  (Lru : Nat) (xruz1 : Nat → Int32) (x0 : Nat → Int32) (x16 : Nat → Int32) (x17 : Nat → Int32) (x18 : Nat → Int32) (x23 : Nat → Int32) (x24 : Nat → Int32) (x25 : Nat → Int32) (x26 : Nat → Int32)  (k64 : Int32 → Int32 → Int32 → Int32 → Int32 → Int32 → Int32 → (Nat → Int32) → (Nat → Int32) → (Nat → Int32) → (Nat → Int32) → (Nat → Int32) → (Nat → Int64) → (Nat → Int64) → Option (Int32 × (Nat → Int32) × (Nat → Int32) × (Nat → Int32) × (Nat → Int32) × (Nat → Int32) × (Nat → Int64) × (Nat → Int64))) (v1 : Int32) (v2 : Int32) (v3 : Int32) (v4 : Int32) (v5 : Int32) (v6 : Int32) (v7 : Int32) (x33 : (Nat → Int32)) (x35 : (Nat → Int32)) (x36 : (Nat → Int32)) (x37 : (Nat → Int32)) (x38 : (Nat → Int32)) (yruz2 : (Nat → Int64)) (y34 : (Nat → Int64)) : Option (Int32 × (Nat → Int32) × (Nat → Int32) × (Nat → Int32) × (Nat → Int32) × (Nat → Int32) × (Nat → Int64) × (Nat → Int64)) := if v1 ≤ v7 then (some (v5, x33, x35, x36, x37, x38, yruz2, y34)) else (bd8 (fX11_passSummerR Lru xruz1 x0 x16 x17 x18 x23 x24 x25 x26 v6 v2 v3 x33 x35 x36 x37 x38 yruz2 y34) fun r_1 x33_2 x35_3 x36_4 x37_5 x38_6 yruz2_7 y34_8 => (if v4 = 0 then (bd1 (fX9_riverBits x36_4 x17) fun r_12 => (bd1 (fJ6_bitCount_0f7a4 r_12) fun r_14 => (fX11_summersR_121 Lru xruz1 x0 x16 x17 x18 x23 x24 x25 x26 k64 v1 v2 v3 v4 r_1 v7 r_14 v5 x33_2 x35_3 x36_4 x37_5 x38_6 yruz2_7 y34_8))) else (bd1 (fX9_placesOf x36_4 x17) fun r_10 => (fX11_summersR_121 Lru xruz1 x0 x16 x17 x18 x23 x24 x25 x26 k64 v1 v2 v3 v4 r_1 v7 r_10 v5 x33_2 x35_3 x36_4 x37_5 x38_6 yruz2_7 y34_8))))
def fX11_summersR_64  (Lru : Nat) (xruz1 : Nat → Int32) (x0 : Nat → Int32) (x16 : Nat → Int32) (x17 : Nat → Int32) (x18 : Nat → Int32) (x23 : Nat → Int32) (x24 : Nat → Int32) (x25 : Nat → Int32) (x26 : Nat → Int32)  : Int32 → Int32 → Int32 → Int32 → Int32 → Int32 → Int32 → (Nat → Int32) → (Nat → Int32) → (Nat → Int32) → (Nat → Int32) → (Nat → Int32) → (Nat → Int64) → (Nat → Int64) → Option (Int32 × (Nat → Int32) × (Nat → Int32) × (Nat → Int32) × (Nat → Int32) × (Nat → Int32) × (Nat → Int64) × (Nat → Int64)) := lq14 (fX11_summersR_64b Lru xruz1 x0 x16 x17 x18 x23 x24 x25 x26 ) 5000
set_option maxHeartbeats 4000000 in
set_option maxRecDepth 100000 in
theorem wX11_summersR_64 {l : Launch} {b0 : Nat} {D : GD} {K : KT} {n : Nat} {κ : QT} {X0 : XT} {Y0 : YT} {Z : ZT} {ru : Nat} {Lru : Nat} (hL : LY n κ) (hk_ru : κ ru = (4, 0)) (hn_ru : ru < n) (hk_ru_1 : κ (ru + 1) = (14, Lru)) (hN : ([ru + 1, 0, 16, 17, 18, 23, 24, 25, 26, 33, 35, 36, 37, 38] : List Nat).Nodup) (hM : ([ru + 2, 34] : List Nat).Nodup) (hC : gC l b0 D K RX11 cX11_summers (some FieldType.int) 8 6 164 0 0) {xruz1 : Nat → Int32} {x0 : Nat → Int32} {x16 : Nat → Int32} {x17 : Nat → Int32} {x18 : Nat → Int32} {x23 : Nat → Int32} {x24 : Nat → Int32} {x25 : Nat → Int32} {x26 : Nat → Int32} (hri : fX11_isWithin (x16 8) 0 (x0 4 - 1) = some 1 ∧ inb (x16 8) 6 = true ∧ Z 15 (x16 8).toNatClampNeg = some ru) {r : Int32} {rx33 : (Nat → Int32)} {rx35 : (Nat → Int32)} {rx36 : (Nat → Int32)} {rx37 : (Nat → Int32)} {rx38 : (Nat → Int32)} {ryruz2 : (Nat → Int64)} {ry34 : (Nat → Int64)} (hret : ∀ pc loc, narrow .int (.int r) = .int r → decode cX11_summers pc = .ok (.ireturn, 1) → gV l b0 D K (n, κ, ov X0 [ru + 1, 0, 16, 17, 18, 23, 24, 25, 26, 33, 35, 36, 37, 38] [xruz1, x0, x16, x17, x18, x23, x24, x25, x26, rx33, rx35, rx36, rx37, rx38], ov Y0 [ru + 2, 34] [ryruz2, ry34], Z, 0, 0) pc loc [.int r]) : ∀ (j : Nat) (v1 : Int32) (v2 : Int32) (v3 : Int32) (v4 : Int32) (v5 : Int32) (v6 : Int32) (v7 : Int32) (x33 : (Nat → Int32)) (x35 : (Nat → Int32)) (x36 : (Nat → Int32)) (x37 : (Nat → Int32)) (x38 : (Nat → Int32)) (yruz2 : (Nat → Int64)) (y34 : (Nat → Int64)), lq14 (fX11_summersR_64b Lru xruz1 x0 x16 x17 x18 x23 x24 x25 x26 ) j v1 v2 v3 v4 v5 v6 v7 x33 x35 x36 x37 x38 yruz2 y34 = some (r, rx33, rx35, rx36, rx37, rx38, ryruz2, ry34) → gV l b0 D K (n, κ, ov X0 [ru + 1, 0, 16, 17, 18, 23, 24, 25, 26, 33, 35, 36, 37, 38] [xruz1, x0, x16, x17, x18, x23, x24, x25, x26, x33, x35, x36, x37, x38], ov Y0 [ru + 2, 34] [yruz2, y34], Z, 0, 0) 64 [(0, .ref (b0 + 0)), (1, .int v1), (2, .int v2), (3, .int v3), (4, .int v4), (5, .int v5), (6, .int v6), (7, .int v7)] [] := by
  intro j
  induction j with
  | zero => intro v1 v2 v3 v4 v5 v6 v7 x33 x35 x36 x37 x38 yruz2 y34 hf; cases hf
  | succ j hk64 =>
    intro v1 v2 v3 v4 v5 v6 v7 x33 x35 x36 x37 x38 yruz2 y34 hf
    replace hf : fX11_summersR_64b Lru xruz1 x0 x16 x17 x18 x23 x24 x25 x26  (lq14 (fX11_summersR_64b Lru xruz1 x0 x16 x17 x18 x23 x24 x25 x26 ) j) v1 v2 v3 v4 v5 v6 v7 x33 x35 x36 x37 x38 yruz2 y34 = some (r, rx33, rx35, rx36, rx37, rx38, ryruz2, ry34) := hf
    unfold fX11_summersR_64b at hf
    refine g_iload hC 7 dX11_summers_64 rfl ?_
    refine g_iload_n hC 1 dX11_summers_66 rfl rfl ?_
    refine g_icmp_ge hC 130 dX11_summers_67 (by decide) (fun hc => ?_) (fun hc => ?_)
    · replace hf := ifT hf hc
      refine g_iload hC 5 dX11_summers_130 rfl ?_
      obtain ⟨rfl, rfl, rfl, rfl, rfl, rfl, rfl, rfl⟩ := sm8E hf
      exact hret _ _ rfl dX11_summers_132
    · replace hf := ifF hf hc
      refine g_aload_n hC 0 dX11_summers_70 rfl rfl ?_
      refine g_iload hC 6 dX11_summers_71 rfl ?_
      refine g_iload_n hC 2 dX11_summers_73 rfl rfl ?_
      refine g_iload_n hC 3 dX11_summers_74 rfl rfl ?_
      obtain ⟨r_1, x33_2, x35_3, x36_4, x37_5, x38_6, yruz2_7, y34_8, q_9, hf⟩ := bd8E hf
      refine g_callV_i (a := 0) hC (X' := ov X0 [ru + 1, 0, 16, 17, 18, 23, 24, 25, 26, 33, 35, 36, 37, 38] [xruz1, x0, x16, x17, x18, x23, x24, x25, x26, x33_2, x35_3, x36_4, x37_5, x38_6]) (Y' := ov Y0 [ru + 2, 34] [yruz2_7, y34_8]) (As := [.int v6, .int v2, .int v3]) (gMi_eq (c_X11_passSummerR l hL hk_ru hn_ru hk_ru_1 (nd_sub hN [0, 1, 2, 3, 4, 5, 6, 7, 8, 9, 10, 11, 12, 13] (by decide) (by rfl)) (nd_sub hM [0, 1] (by decide) (by rfl)) hri (ov_map hN [0, 1, 2, 3, 4, 5, 6, 7, 8, 9, 10, 11, 12, 13] (by rfl) (by rfl)) (ov_map hM [0, 1] (by rfl) (by rfl)) q_9) (ov_ovE hN (by rfl) [0, 1, 2, 3, 4, 5, 6, 7, 8, 9, 10, 11, 12, 13] [] (by rfl) (by rfl) [] (by rfl) (by rfl) (by rfl) 14 (by rfl) (by decide)) (ov_ovE hM (by rfl) [0, 1] [] (by rfl) (by rfl) [] (by rfl) (by rfl) (by rfl) 2 (by rfl) (by decide))) tw_1134 tw_1131 tw_116 tw_1133 tw_42 (ci := 11) rfl (by decide) (kk_0 hL) (kn_0 hL) pd_X11_passSummer (by decide) (by decide) rfl rfl (Nat.le_of_ble_eq_true rfl) rfl dX11_summers_75 ?_
      refine g_istore hC (i := 6) [(6, .int r_1), (0, .ref (b0 + 0)), (1, .int v1), (2, .int v2), (3, .int v3), (4, .int v4), (5, .int v5), (7, .int v7)] dX11_summers_78 (by decide) rfl ?_
      refine g_iload hC 6 dX11_summers_80 rfl ?_
      refine g_iload hC 5 dX11_summers_82 rfl ?_
      refine g_if_ne hC 107 dX11_summers_84 (by decide) (fun hc => ?_) (fun hc => ?_)
      · replace hf := ifF hf hc
        refine g_aload_n hC 1 dX11_summers_107 rfl rfl ?_
        refine gt_X11_41 hC (a := 0) (kk_0 hL) (kn_0 hL) dX11_summers_108 ?_
        refine g_ref (b := 16) rfl ?_
        refine gt_X11_51 hC (a := 16) (kk_16 hL) (kn_16 hL) dX11_summers_111 ?_
        refine g_ref (b := 17) rfl ?_
        refine g_aload_n hC 1 dX11_summers_114 rfl rfl ?_
        refine gt_X11_65 hC (a := 0) (kk_0 hL) (kn_0 hL) dX11_summers_115 ?_
        refine g_ref (b := 35) rfl ?_
        obtain ⟨r_10, q_11, hf⟩ := bd1E hf
        refine g_callV_i (a := 17) hC (X' := ov X0 [ru + 1, 0, 16, 17, 18, 23, 24, 25, 26, 33, 35, 36, 37, 38] [xruz1, x0, x16, x17, x18, x23, x24, x25, x26, x33_2, x35_3, x36_4, x37_5, x38_6]) (Y' := ov Y0 [ru + 2, 34] [yruz2_7, y34_8]) (As := [.ref (b0 + 35)]) (gMi_eq (c_X9_placesOf l hL (kk_35 hL) (kn_35 hL) (nd_sub hN [11, 3] (by decide) (by rfl)) (nd_sub hM [] (by decide) (by rfl)) (ov_map hN [11, 3] (by rfl) (by rfl)) (ov_map hM [] (by rfl) (by rfl)) q_11) (ov_ovE hN (by rfl) [11, 3] [0, 1, 2, 4, 5, 6, 7, 8, 9, 10, 12, 13] (by rfl) (by rfl) [xruz1, x0, x16, x18, x23, x24, x25, x26, x33_2, x35_3, x37_5, x38_6] (by rfl) (by rfl) (by rfl) 14 (by rfl) (by decide)) (ov_ovE hM (by rfl) [] [0, 1] (by rfl) (by rfl) [yruz2_7, y34_8] (by rfl) (by rfl) (by rfl) 2 (by rfl) (by decide))) tw_1041 tw_1142 tw_119 tw_1039 tw_1040 (ci := 9) rfl (by decide) (kk_17 hL) (kn_17 hL) pd_X9_placesOf (by decide) (by decide) rfl rfl (Nat.le_of_ble_eq_true rfl) rfl dX11_summers_118 ?_
        exact g_sub [1, 2, 3, 4, 5, 0, 7] rfl (wX11_summersR_121 hL hk_ru hn_ru hk_ru_1 hN hM hC hri hret hk64 hf)
      · replace hf := ifT hf hc
        refine g_aload_n hC 1 dX11_summers_87 rfl rfl ?_
        refine gt_X11_41 hC (a := 0) (kk_0 hL) (kn_0 hL) dX11_summers_88 ?_
        refine g_ref (b := 16) rfl ?_
        refine gt_X11_51 hC (a := 16) (kk_16 hL) (kn_16 hL) dX11_summers_91 ?_
        refine g_ref (b := 17) rfl ?_
        refine g_aload_n hC 1 dX11_summers_94 rfl rfl ?_
        refine gt_X11_65 hC (a := 0) (kk_0 hL) (kn_0 hL) dX11_summers_95 ?_
        refine g_ref (b := 35) rfl ?_
        obtain ⟨r_12, q_13, hf⟩ := bd1E hf
        refine g_callV_i (a := 17) hC (X' := ov X0 [ru + 1, 0, 16, 17, 18, 23, 24, 25, 26, 33, 35, 36, 37, 38] [xruz1, x0, x16, x17, x18, x23, x24, x25, x26, x33_2, x35_3, x36_4, x37_5, x38_6]) (Y' := ov Y0 [ru + 2, 34] [yruz2_7, y34_8]) (As := [.ref (b0 + 35)]) (gMi_eq (c_X9_riverBits l hL (kk_35 hL) (kn_35 hL) (nd_sub hN [11, 3] (by decide) (by rfl)) (nd_sub hM [] (by decide) (by rfl)) (ov_map hN [11, 3] (by rfl) (by rfl)) (ov_map hM [] (by rfl) (by rfl)) q_13) (ov_ovE hN (by rfl) [11, 3] [0, 1, 2, 4, 5, 6, 7, 8, 9, 10, 12, 13] (by rfl) (by rfl) [xruz1, x0, x16, x18, x23, x24, x25, x26, x33_2, x35_3, x37_5, x38_6] (by rfl) (by rfl) (by rfl) 14 (by rfl) (by decide)) (ov_ovE hM (by rfl) [] [0, 1] (by rfl) (by rfl) [yruz2_7, y34_8] (by rfl) (by rfl) (by rfl) 2 (by rfl) (by decide))) tw_918 tw_983 tw_119 tw_916 tw_917 (ci := 9) rfl (by decide) (kk_17 hL) (kn_17 hL) pd_X9_riverBits (by decide) (by decide) rfl rfl (Nat.le_of_ble_eq_true rfl) rfl dX11_summers_98 ?_
        obtain ⟨r_14, q_15, hf⟩ := bd1E hf
        refine g_callS_i hC (X' := ov X0 [ru + 1, 0, 16, 17, 18, 23, 24, 25, 26, 33, 35, 36, 37, 38] [xruz1, x0, x16, x17, x18, x23, x24, x25, x26, x33_2, x35_3, x36_4, x37_5, x38_6]) (Y' := ov Y0 [ru + 2, 34] [yruz2_7, y34_8]) (As := [.int r_12]) (gMi_eq (c_J6_bitCount_0f7a4 l hL (ov_map hN [] (by rfl) (by rfl)) (ov_map hM [] (by rfl) (by rfl)) q_15) (ov_ovE hN (by rfl) [] [0, 1, 2, 3, 4, 5, 6, 7, 8, 9, 10, 11, 12, 13] (by rfl) (by rfl) [xruz1, x0, x16, x17, x18, x23, x24, x25, x26, x33_2, x35_3, x36_4, x37_5, x38_6] (by rfl) (by rfl) (by rfl) 14 (by rfl) (by decide)) (ov_ovE hM (by rfl) [] [0, 1] (by rfl) (by rfl) [yruz2_7, y34_8] (by rfl) (by rfl) (by rfl) 2 (by rfl) (by decide))) tw_922 tw_984 tw_136 tw_921 pd_J6_bitCount_0f7a4 (by decide) (by decide) rfl rfl (Nat.le_of_ble_eq_true rfl) rfl dX11_summers_101 ?_
        refine g_goto hC 121 dX11_summers_104 (by decide) ?_
        exact g_sub [1, 2, 3, 4, 5, 0, 7] rfl (wX11_summersR_121 hL hk_ru hn_ru hk_ru_1 hN hM hC hri hret hk64 hf)

def fX11_summersR_0  (Lru : Nat) (xruz1 : Nat → Int32) (x0 : Nat → Int32) (x16 : Nat → Int32) (x17 : Nat → Int32) (x18 : Nat → Int32) (x23 : Nat → Int32) (x24 : Nat → Int32) (x25 : Nat → Int32) (x26 : Nat → Int32)  (v1 : Int32) (v2 : Int32) (v3 : Int32) (v4 : Int32) (x33 : (Nat → Int32)) (x35 : (Nat → Int32)) (x36 : (Nat → Int32)) (x37 : (Nat → Int32)) (x38 : (Nat → Int32)) (yruz2 : (Nat → Int64)) (y34 : (Nat → Int64)) : Option (Int32 × (Nat → Int32) × (Nat → Int32) × (Nat → Int32) × (Nat → Int32) × (Nat → Int32) × (Nat → Int64) × (Nat → Int64)) := bd1 (fX11_isTold x17) fun r_1 => (if r_1 = 0 then (some ((-1), x33, x35, x36, x37, x38, yruz2, y34)) else (bd1 (fX11_isWithin v1 1 10) fun r_3 => (if r_3 = 0 then (some ((-1), x33, x35, x36, x37, x38, yruz2, y34)) else (bd1 (fX11_isWithin v2 1 60) fun r_5 => (if r_5 = 0 then (some ((-1), x33, x35, x36, x37, x38, yruz2, y34)) else (bd1 (fX11_isWithin v3 0 100) fun r_7 => (if r_7 = 0 then (some ((-1), x33, x35, x36, x37, x38, yruz2, y34)) else (bd1 (fX11_isWithin v4 0 1) fun r_9 => (if r_9 = 0 then (some ((-1), x33, x35, x36, x37, x38, yruz2, y34)) else (bn (x16 9) fun t_11 => (fX11_summersR_64 Lru xruz1 x0 x16 x17 x18 x23 x24 x25 x26  v1 v2 v3 v4 0 t_11 0 x33 x35 x36 x37 x38 yruz2 y34)))))))))))
set_option maxHeartbeats 4000000 in
set_option maxRecDepth 100000 in
theorem wX11_summersR_0 {l : Launch} {b0 : Nat} {D : GD} {K : KT} {n : Nat} {κ : QT} {X0 : XT} {Y0 : YT} {Z : ZT} {ru : Nat} {Lru : Nat} (hL : LY n κ) (hk_ru : κ ru = (4, 0)) (hn_ru : ru < n) (hk_ru_1 : κ (ru + 1) = (14, Lru)) (hN : ([ru + 1, 0, 16, 17, 18, 23, 24, 25, 26, 33, 35, 36, 37, 38] : List Nat).Nodup) (hM : ([ru + 2, 34] : List Nat).Nodup) (hC : gC l b0 D K RX11 cX11_summers (some FieldType.int) 8 6 164 0 0) {xruz1 : Nat → Int32} {x0 : Nat → Int32} {x16 : Nat → Int32} {x17 : Nat → Int32} {x18 : Nat → Int32} {x23 : Nat → Int32} {x24 : Nat → Int32} {x25 : Nat → Int32} {x26 : Nat → Int32} (hri : fX11_isWithin (x16 8) 0 (x0 4 - 1) = some 1 ∧ inb (x16 8) 6 = true ∧ Z 15 (x16 8).toNatClampNeg = some ru) {r : Int32} {rx33 : (Nat → Int32)} {rx35 : (Nat → Int32)} {rx36 : (Nat → Int32)} {rx37 : (Nat → Int32)} {rx38 : (Nat → Int32)} {ryruz2 : (Nat → Int64)} {ry34 : (Nat → Int64)} (hret : ∀ pc loc, narrow .int (.int r) = .int r → decode cX11_summers pc = .ok (.ireturn, 1) → gV l b0 D K (n, κ, ov X0 [ru + 1, 0, 16, 17, 18, 23, 24, 25, 26, 33, 35, 36, 37, 38] [xruz1, x0, x16, x17, x18, x23, x24, x25, x26, rx33, rx35, rx36, rx37, rx38], ov Y0 [ru + 2, 34] [ryruz2, ry34], Z, 0, 0) pc loc [.int r]) {v1 : Int32} {v2 : Int32} {v3 : Int32} {v4 : Int32} {x33 : (Nat → Int32)} {x35 : (Nat → Int32)} {x36 : (Nat → Int32)} {x37 : (Nat → Int32)} {x38 : (Nat → Int32)} {yruz2 : (Nat → Int64)} {y34 : (Nat → Int64)} (hf : fX11_summersR_0 Lru xruz1 x0 x16 x17 x18 x23 x24 x25 x26  v1 v2 v3 v4 x33 x35 x36 x37 x38 yruz2 y34 = some (r, rx33, rx35, rx36, rx37, rx38, ryruz2, ry34)) : gV l b0 D K (n, κ, ov X0 [ru + 1, 0, 16, 17, 18, 23, 24, 25, 26, 33, 35, 36, 37, 38] [xruz1, x0, x16, x17, x18, x23, x24, x25, x26, x33, x35, x36, x37, x38], ov Y0 [ru + 2, 34] [yruz2, y34], Z, 0, 0) 0 [(0, .ref (b0 + 0)), (1, .int v1), (2, .int v2), (3, .int v3), (4, .int v4)] [] := by
  unfold fX11_summersR_0 at hf
  refine g_aload_n hC 0 dX11_summers_0 rfl rfl ?_
  obtain ⟨r_1, q_2, hf⟩ := bd1E hf
  refine g_callV_i (a := 0) hC (X' := ov X0 [ru + 1, 0, 16, 17, 18, 23, 24, 25, 26, 33, 35, 36, 37, 38] [xruz1, x0, x16, x17, x18, x23, x24, x25, x26, x33, x35, x36, x37, x38]) (Y' := ov Y0 [ru + 2, 34] [yruz2, y34]) (As := []) (gMi_eq (c_X11_isTold l hL (ov_map hN [3] (by rfl) (by rfl)) (ov_map hM [] (by rfl) (by rfl)) q_2) (ov_ovE hN (by rfl) [3] [0, 1, 2, 4, 5, 6, 7, 8, 9, 10, 11, 12, 13] (by rfl) (by rfl) [xruz1, x0, x16, x18, x23, x24, x25, x26, x33, x35, x36, x37, x38] (by rfl) (by rfl) (by rfl) 14 (by rfl) (by decide)) (ov_ovE hM (by rfl) [] [0, 1] (by rfl) (by rfl) [yruz2, y34] (by rfl) (by rfl) (by rfl) 2 (by rfl) (by decide))) tw_853 tw_850 tw_116 tw_852 tw_25 (ci := 11) rfl (by decide) (kk_0 hL) (kn_0 hL) pd_X11_isTold (by decide) (by decide) rfl rfl (Nat.le_of_ble_eq_true rfl) rfl dX11_summers_1 ?_
  refine g_if_eq hC 47 dX11_summers_4 (by decide) (fun hc => ?_) (fun hc => ?_)
  · replace hf := ifT hf hc
    refine g_iconst hC (v := (-1)) dX11_summers_47 ic_m1 ?_
    obtain ⟨rfl, rfl, rfl, rfl, rfl, rfl, rfl, rfl⟩ := sm8E hf
    exact hret _ _ rfl dX11_summers_48
  · replace hf := ifF hf hc
    refine g_iload_n hC 1 dX11_summers_7 rfl rfl ?_
    refine g_iconst hC (v := 1) dX11_summers_8 ic_1 ?_
    refine g_bipush hC (v := 10) dX11_summers_9 bp_10 ?_
    obtain ⟨r_3, q_4, hf⟩ := bd1E hf
    refine g_callS_i hC (X' := ov X0 [ru + 1, 0, 16, 17, 18, 23, 24, 25, 26, 33, 35, 36, 37, 38] [xruz1, x0, x16, x17, x18, x23, x24, x25, x26, x33, x35, x36, x37, x38]) (Y' := ov Y0 [ru + 2, 34] [yruz2, y34]) (As := [.int v1, .int 1, .int 10]) (gMi_eq (c_X11_isWithin l hL (ov_map hN [] (by rfl) (by rfl)) (ov_map hM [] (by rfl) (by rfl)) q_4) (ov_ovE hN (by rfl) [] [0, 1, 2, 3, 4, 5, 6, 7, 8, 9, 10, 11, 12, 13] (by rfl) (by rfl) [xruz1, x0, x16, x17, x18, x23, x24, x25, x26, x33, x35, x36, x37, x38] (by rfl) (by rfl) (by rfl) 14 (by rfl) (by decide)) (ov_ovE hM (by rfl) [] [0, 1] (by rfl) (by rfl) [yruz2, y34] (by rfl) (by rfl) (by rfl) 2 (by rfl) (by decide))) tw_666 tw_870 tw_116 tw_665 pd_X11_isWithin (by decide) (by decide) rfl rfl (Nat.le_of_ble_eq_true rfl) rfl dX11_summers_11 ?_
    refine g_if_eq hC 47 dX11_summers_14 (by decide) (fun hc => ?_) (fun hc => ?_)
    · replace hf := ifT hf hc
      refine g_iconst hC (v := (-1)) dX11_summers_47 ic_m1 ?_
      obtain ⟨rfl, rfl, rfl, rfl, rfl, rfl, rfl, rfl⟩ := sm8E hf
      exact hret _ _ rfl dX11_summers_48
    · replace hf := ifF hf hc
      refine g_iload_n hC 2 dX11_summers_17 rfl rfl ?_
      refine g_iconst hC (v := 1) dX11_summers_18 ic_1 ?_
      refine g_bipush hC (v := 60) dX11_summers_19 bp_60 ?_
      obtain ⟨r_5, q_6, hf⟩ := bd1E hf
      refine g_callS_i hC (X' := ov X0 [ru + 1, 0, 16, 17, 18, 23, 24, 25, 26, 33, 35, 36, 37, 38] [xruz1, x0, x16, x17, x18, x23, x24, x25, x26, x33, x35, x36, x37, x38]) (Y' := ov Y0 [ru + 2, 34] [yruz2, y34]) (As := [.int v2, .int 1, .int 60]) (gMi_eq (c_X11_isWithin l hL (ov_map hN [] (by rfl) (by rfl)) (ov_map hM [] (by rfl) (by rfl)) q_6) (ov_ovE hN (by rfl) [] [0, 1, 2, 3, 4, 5, 6, 7, 8, 9, 10, 11, 12, 13] (by rfl) (by rfl) [xruz1, x0, x16, x17, x18, x23, x24, x25, x26, x33, x35, x36, x37, x38] (by rfl) (by rfl) (by rfl) 14 (by rfl) (by decide)) (ov_ovE hM (by rfl) [] [0, 1] (by rfl) (by rfl) [yruz2, y34] (by rfl) (by rfl) (by rfl) 2 (by rfl) (by decide))) tw_666 tw_870 tw_116 tw_665 pd_X11_isWithin (by decide) (by decide) rfl rfl (Nat.le_of_ble_eq_true rfl) rfl dX11_summers_21 ?_
      refine g_if_eq hC 47 dX11_summers_24 (by decide) (fun hc => ?_) (fun hc => ?_)
      · replace hf := ifT hf hc
        refine g_iconst hC (v := (-1)) dX11_summers_47 ic_m1 ?_
        obtain ⟨rfl, rfl, rfl, rfl, rfl, rfl, rfl, rfl⟩ := sm8E hf
        exact hret _ _ rfl dX11_summers_48
      · replace hf := ifF hf hc
        refine g_iload_n hC 3 dX11_summers_27 rfl rfl ?_
        refine g_iconst hC (v := 0) dX11_summers_28 ic_0 ?_
        refine g_bipush hC (v := 100) dX11_summers_29 bp_100 ?_
        obtain ⟨r_7, q_8, hf⟩ := bd1E hf
        refine g_callS_i hC (X' := ov X0 [ru + 1, 0, 16, 17, 18, 23, 24, 25, 26, 33, 35, 36, 37, 38] [xruz1, x0, x16, x17, x18, x23, x24, x25, x26, x33, x35, x36, x37, x38]) (Y' := ov Y0 [ru + 2, 34] [yruz2, y34]) (As := [.int v3, .int 0, .int 100]) (gMi_eq (c_X11_isWithin l hL (ov_map hN [] (by rfl) (by rfl)) (ov_map hM [] (by rfl) (by rfl)) q_8) (ov_ovE hN (by rfl) [] [0, 1, 2, 3, 4, 5, 6, 7, 8, 9, 10, 11, 12, 13] (by rfl) (by rfl) [xruz1, x0, x16, x17, x18, x23, x24, x25, x26, x33, x35, x36, x37, x38] (by rfl) (by rfl) (by rfl) 14 (by rfl) (by decide)) (ov_ovE hM (by rfl) [] [0, 1] (by rfl) (by rfl) [yruz2, y34] (by rfl) (by rfl) (by rfl) 2 (by rfl) (by decide))) tw_666 tw_870 tw_116 tw_665 pd_X11_isWithin (by decide) (by decide) rfl rfl (Nat.le_of_ble_eq_true rfl) rfl dX11_summers_31 ?_
        refine g_if_eq hC 47 dX11_summers_34 (by decide) (fun hc => ?_) (fun hc => ?_)
        · replace hf := ifT hf hc
          refine g_iconst hC (v := (-1)) dX11_summers_47 ic_m1 ?_
          obtain ⟨rfl, rfl, rfl, rfl, rfl, rfl, rfl, rfl⟩ := sm8E hf
          exact hret _ _ rfl dX11_summers_48
        · replace hf := ifF hf hc
          refine g_iload hC 4 dX11_summers_37 rfl ?_
          refine g_iconst hC (v := 0) dX11_summers_39 ic_0 ?_
          refine g_iconst hC (v := 1) dX11_summers_40 ic_1 ?_
          obtain ⟨r_9, q_10, hf⟩ := bd1E hf
          refine g_callS_i hC (X' := ov X0 [ru + 1, 0, 16, 17, 18, 23, 24, 25, 26, 33, 35, 36, 37, 38] [xruz1, x0, x16, x17, x18, x23, x24, x25, x26, x33, x35, x36, x37, x38]) (Y' := ov Y0 [ru + 2, 34] [yruz2, y34]) (As := [.int v4, .int 0, .int 1]) (gMi_eq (c_X11_isWithin l hL (ov_map hN [] (by rfl) (by rfl)) (ov_map hM [] (by rfl) (by rfl)) q_10) (ov_ovE hN (by rfl) [] [0, 1, 2, 3, 4, 5, 6, 7, 8, 9, 10, 11, 12, 13] (by rfl) (by rfl) [xruz1, x0, x16, x17, x18, x23, x24, x25, x26, x33, x35, x36, x37, x38] (by rfl) (by rfl) (by rfl) 14 (by rfl) (by decide)) (ov_ovE hM (by rfl) [] [0, 1] (by rfl) (by rfl) [yruz2, y34] (by rfl) (by rfl) (by rfl) 2 (by rfl) (by decide))) tw_666 tw_870 tw_116 tw_665 pd_X11_isWithin (by decide) (by decide) rfl rfl (Nat.le_of_ble_eq_true rfl) rfl dX11_summers_41 ?_
          refine g_if_ne hC 49 dX11_summers_44 (by decide) (fun hc => ?_) (fun hc => ?_)
          · replace hf := ifF hf hc
            refine g_iconst hC (v := 0) dX11_summers_49 ic_0 ?_
            refine g_istore hC (i := 5) [(5, .int 0), (0, .ref (b0 + 0)), (1, .int v1), (2, .int v2), (3, .int v3), (4, .int v4)] dX11_summers_50 (by decide) rfl ?_
            refine g_aload_n hC 1 dX11_summers_52 rfl rfl ?_
            refine gt_X11_41 hC (a := 0) (kk_0 hL) (kn_0 hL) dX11_summers_53 ?_
            refine g_ref (b := 16) rfl ?_
            refine gt_X11_290 hC (x := x16) (kk_16 hL) (kn_16 hL) (ov_get hN 2 rfl rfl) dX11_summers_56 ?_
            obtain ⟨t_11, et_11, hf⟩ := bnE hf
            refine g_topi et_11 ?_
            refine g_istore hC (i := 6) [(6, .int t_11), (5, .int 0), (0, .ref (b0 + 0)), (1, .int v1), (2, .int v2), (3, .int v3), (4, .int v4)] dX11_summers_59 (by decide) rfl ?_
            refine g_iconst hC (v := 0) dX11_summers_61 ic_0 ?_
            refine g_istore hC (i := 7) [(7, .int 0), (6, .int t_11), (5, .int 0), (0, .ref (b0 + 0)), (1, .int v1), (2, .int v2), (3, .int v3), (4, .int v4)] dX11_summers_62 (by decide) rfl ?_
            exact g_sub [3, 4, 5, 6, 7, 2, 1, 0] rfl (wX11_summersR_64 hL hk_ru hn_ru hk_ru_1 hN hM hC hri hret  5000 v1 v2 v3 v4 0 t_11 0 x33 x35 x36 x37 x38 yruz2 y34 hf)
          · replace hf := ifT hf hc
            refine g_iconst hC (v := (-1)) dX11_summers_47 ic_m1 ?_
            obtain ⟨rfl, rfl, rfl, rfl, rfl, rfl, rfl, rfl⟩ := sm8E hf
            exact hret _ _ rfl dX11_summers_48

def fX11_summersR  (Lru : Nat) (xruz1 : Nat → Int32) (x0 : Nat → Int32) (x16 : Nat → Int32) (x17 : Nat → Int32) (x18 : Nat → Int32) (x23 : Nat → Int32) (x24 : Nat → Int32) (x25 : Nat → Int32) (x26 : Nat → Int32)  (v1 : Int32) (v2 : Int32) (v3 : Int32) (v4 : Int32) (x33 : Nat → Int32) (x35 : Nat → Int32) (x36 : Nat → Int32) (x37 : Nat → Int32) (x38 : Nat → Int32) (yruz2 : Nat → Int64) (y34 : Nat → Int64) : Option (Int32 × (Nat → Int32) × (Nat → Int32) × (Nat → Int32) × (Nat → Int32) × (Nat → Int32) × (Nat → Int64) × (Nat → Int64)) := fX11_summersR_0 Lru xruz1 x0 x16 x17 x18 x23 x24 x25 x26 v1 v2 v3 v4 x33 x35 x36 x37 x38 yruz2 y34

set_option maxHeartbeats 4000000 in
set_option maxRecDepth 100000 in
theorem c_X11_summersR (l : Launch) {b0 : Nat} {D : GD} {n : Nat} {κ : QT} {X0 : XT} {Y0 : YT} {Z : ZT} {ru : Nat} {Lru : Nat} (hL : LY n κ) (hk_ru : κ ru = (4, 0)) (hn_ru : ru < n) (hk_ru_1 : κ (ru + 1) = (14, Lru)) (hN : ([ru + 1, 0, 16, 17, 18, 23, 24, 25, 26, 33, 35, 36, 37, 38] : List Nat).Nodup) (hM : ([ru + 2, 34] : List Nat).Nodup) {xruz1 : Nat → Int32} {x0 : Nat → Int32} {x16 : Nat → Int32} {x17 : Nat → Int32} {x18 : Nat → Int32} {x23 : Nat → Int32} {x24 : Nat → Int32} {x25 : Nat → Int32} {x26 : Nat → Int32} {x33 : Nat → Int32} {x35 : Nat → Int32} {x36 : Nat → Int32} {x37 : Nat → Int32} {x38 : Nat → Int32} {yruz2 : Nat → Int64} {y34 : Nat → Int64} (hri : fX11_isWithin (x16 8) 0 (x0 4 - 1) = some 1 ∧ inb (x16 8) 6 = true ∧ Z 15 (x16 8).toNatClampNeg = some ru) (hx : ([ru + 1, 0, 16, 17, 18, 23, 24, 25, 26, 33, 35, 36, 37, 38] : List Nat).map X0 = [xruz1, x0, x16, x17, x18, x23, x24, x25, x26, x33, x35, x36, x37, x38]) (hy : ([ru + 2, 34] : List Nat).map Y0 = [yruz2, y34]) {v1 : Int32} {v2 : Int32} {v3 : Int32} {v4 : Int32} {r : Int32} {rx33 : (Nat → Int32)} {rx35 : (Nat → Int32)} {rx36 : (Nat → Int32)} {rx37 : (Nat → Int32)} {rx38 : (Nat → Int32)} {ryruz2 : (Nat → Int64)} {ry34 : (Nat → Int64)} (hf : fX11_summersR Lru xruz1 x0 x16 x17 x18 x23 x24 x25 x26 v1 v2 v3 v4 x33 x35 x36 x37 x38 yruz2 y34 = some (r, rx33, rx35, rx36, rx37, rx38, ryruz2, ry34)) : gMi l yX11_summers cX11_summers 8 (some FieldType.int) 6 164 0 0 b0 D [.ref (b0 + 0), .int v1, .int v2, .int v3, .int v4] (n, κ, X0, Y0, Z) (n, κ, ov X0 [ru + 1, 0, 16, 17, 18, 23, 24, 25, 26, 33, 35, 36, 37, 38] [xruz1, x0, x16, x17, x18, x23, x24, x25, x26, rx33, rx35, rx36, rx37, rx38], ov Y0 [ru + 2, 34] [ryruz2, ry34], Z) r := by
  refine g_meti (own := RX11) (by decide) rfl rfl (Nat.le_of_ble_eq_true rfl) ?_
  intro K hC hret
  have e := wX11_summersR_0 hL hk_ru hn_ru hk_ru_1 hN hM hC hri hret hf
  rw [ov_id' hx, ov_id' hy] at e
  exact g_sub [0, 1, 2, 3, 4] rfl e


-- X11_row
def fX11_row_0   (x17 : Nat → Int32) (x18 : Nat → Int32) (x23 : Nat → Int32) (x24 : Nat → Int32) (x25 : Nat → Int32) (x26 : Nat → Int32)  (v1 : Int32) (v2 : Int32) (x33 : (Nat → Int32)) (x40 : (Nat → Int32)) (x42 : (Nat → Int32)) (x43 : (Nat → Int32)) (x44 : (Nat → Int32)) (x45 : (Nat → Int32)) (x46 : (Nat → Int32)) (x47 : (Nat → Int32)) (x48 : (Nat → Int32)) (x49 : (Nat → Int32)) (x50 : (Nat → Int32)) (x51 : (Nat → Int32)) (x52 : (Nat → Int32)) (x53 : (Nat → Int32)) (x54 : (Nat → Int32)) (x55 : (Nat → Int32)) (x56 : (Nat → Int32)) (x57 : (Nat → Int32)) (x58 : (Nat → Int32)) (x59 : (Nat → Int32)) : Option (Int32 × (Nat → Int32) × (Nat → Int32) × (Nat → Int32) × (Nat → Int32) × (Nat → Int32) × (Nat → Int32) × (Nat → Int32) × (Nat → Int32) × (Nat → Int32) × (Nat → Int32) × (Nat → Int32) × (Nat → Int32) × (Nat → Int32) × (Nat → Int32) × (Nat → Int32) × (Nat → Int32) × (Nat → Int32) × (Nat → Int32) × (Nat → Int32) × (Nat → Int32)) := bd1 (fX11_isTold x17) fun r_1 => (if r_1 = 0 then (some ((-3), x33, x40, x42, x43, x44, x45, x46, x47, x48, x49, x50, x51, x52, x53, x54, x55, x56, x57, x58, x59)) else (bd1 (fX11_isWithin v1 1 3) fun r_3 => (if r_3 = 0 then (some ((-3), x33, x40, x42, x43, x44, x45, x46, x47, x48, x49, x50, x51, x52, x53, x54, x55, x56, x57, x58, x59)) else (bd1 (fX11_isWithin v2 0 3) fun r_5 => (if r_5 = 0 then (some ((-3), x33, x40, x42, x43, x44, x45, x46, x47, x48, x49, x50, x51, x52, x53, x54, x55, x56, x57, x58, x59)) else (if v2 ≤ v1 then (bd20 (fX3_find x17 x18 x23 x24 x25 x26 v1 x33 x40 x42 x43 x44 x45 x46 x47 x48 x49 x50 x51 x52 x53 x54 x55 x56 x57 x58 x59) fun x33_7 x40_8 x42_9 x43_10 x44_11 x45_12 x46_13 x47_14 x48_15 x49_16 x50_17 x51_18 x52_19 x53_20 x54_21 x55_22 x56_23 x57_24 x58_25 x59_26 => (if v2 = 0 then (some (x40_8 4, x33_7, x40_8, x42_9, x43_10, x44_11, x45_12, x46_13, x47_14, x48_15, x49_16, x50_17, x51_18, x52_19, x53_20, x54_21, x55_22, x56_23, x57_24, x58_25, x59_26)) else (gd (inb (v2 - 1) 3) (some (x59_26 (v2 - 1).toNatClampNeg, x33_7, x40_8, x42_9, x43_10, x44_11, x45_12, x46_13, x47_14, x48_15, x49_16, x50_17, x51_18, x52_19, x53_20, x54_21, x55_22, x56_23, x57_24, x58_25, x59_26))))) else (some ((-2), x33, x40, x42, x43, x44, x45, x46, x47, x48, x49, x50, x51, x52, x53, x54, x55, x56, x57, x58, x59))))))))
set_option maxHeartbeats 4000000 in
set_option maxRecDepth 100000 in
theorem wX11_row_0 {l : Launch} {b0 : Nat} {D : GD} {K : KT} {n : Nat} {κ : QT} {X0 : XT} {Y0 : YT} {Z : ZT} (hL : LY n κ) (hz41 : Z 41 0 = some 42 ∧ Z 41 1 = some 46 ∧ Z 41 2 = some 50 ∧ Z 41 3 = some 54) (hN : ([17, 18, 23, 24, 25, 26, 33, 40, 42, 43, 44, 45, 46, 47, 48, 49, 50, 51, 52, 53, 54, 55, 56, 57, 58, 59] : List Nat).Nodup) (hM : ([] : List Nat).Nodup) (hC : gC l b0 D K RX11 cX11_row (some FieldType.int) 3 11 284 0 0) {x17 : Nat → Int32} {x18 : Nat → Int32} {x23 : Nat → Int32} {x24 : Nat → Int32} {x25 : Nat → Int32} {x26 : Nat → Int32} {r : Int32} {rx33 : (Nat → Int32)} {rx40 : (Nat → Int32)} {rx42 : (Nat → Int32)} {rx43 : (Nat → Int32)} {rx44 : (Nat → Int32)} {rx45 : (Nat → Int32)} {rx46 : (Nat → Int32)} {rx47 : (Nat → Int32)} {rx48 : (Nat → Int32)} {rx49 : (Nat → Int32)} {rx50 : (Nat → Int32)} {rx51 : (Nat → Int32)} {rx52 : (Nat → Int32)} {rx53 : (Nat → Int32)} {rx54 : (Nat → Int32)} {rx55 : (Nat → Int32)} {rx56 : (Nat → Int32)} {rx57 : (Nat → Int32)} {rx58 : (Nat → Int32)} {rx59 : (Nat → Int32)} (hret : ∀ pc loc, narrow .int (.int r) = .int r → decode cX11_row pc = .ok (.ireturn, 1) → gV l b0 D K (n, κ, ov X0 [17, 18, 23, 24, 25, 26, 33, 40, 42, 43, 44, 45, 46, 47, 48, 49, 50, 51, 52, 53, 54, 55, 56, 57, 58, 59] [x17, x18, x23, x24, x25, x26, rx33, rx40, rx42, rx43, rx44, rx45, rx46, rx47, rx48, rx49, rx50, rx51, rx52, rx53, rx54, rx55, rx56, rx57, rx58, rx59], ov Y0 [] [], Z, 0, 0) pc loc [.int r]) {v1 : Int32} {v2 : Int32} {x33 : (Nat → Int32)} {x40 : (Nat → Int32)} {x42 : (Nat → Int32)} {x43 : (Nat → Int32)} {x44 : (Nat → Int32)} {x45 : (Nat → Int32)} {x46 : (Nat → Int32)} {x47 : (Nat → Int32)} {x48 : (Nat → Int32)} {x49 : (Nat → Int32)} {x50 : (Nat → Int32)} {x51 : (Nat → Int32)} {x52 : (Nat → Int32)} {x53 : (Nat → Int32)} {x54 : (Nat → Int32)} {x55 : (Nat → Int32)} {x56 : (Nat → Int32)} {x57 : (Nat → Int32)} {x58 : (Nat → Int32)} {x59 : (Nat → Int32)} (hf : fX11_row_0 x17 x18 x23 x24 x25 x26  v1 v2 x33 x40 x42 x43 x44 x45 x46 x47 x48 x49 x50 x51 x52 x53 x54 x55 x56 x57 x58 x59 = some (r, rx33, rx40, rx42, rx43, rx44, rx45, rx46, rx47, rx48, rx49, rx50, rx51, rx52, rx53, rx54, rx55, rx56, rx57, rx58, rx59)) : gV l b0 D K (n, κ, ov X0 [17, 18, 23, 24, 25, 26, 33, 40, 42, 43, 44, 45, 46, 47, 48, 49, 50, 51, 52, 53, 54, 55, 56, 57, 58, 59] [x17, x18, x23, x24, x25, x26, x33, x40, x42, x43, x44, x45, x46, x47, x48, x49, x50, x51, x52, x53, x54, x55, x56, x57, x58, x59], ov Y0 [] [], Z, 0, 0) 0 [(0, .ref (b0 + 0)), (1, .int v1), (2, .int v2)] [] := by
  unfold fX11_row_0 at hf
  refine g_aload_n hC 0 dX11_row_0 rfl rfl ?_
  obtain ⟨r_1, q_2, hf⟩ := bd1E hf
  refine g_callV_i (a := 0) hC (X' := ov X0 [17, 18, 23, 24, 25, 26, 33, 40, 42, 43, 44, 45, 46, 47, 48, 49, 50, 51, 52, 53, 54, 55, 56, 57, 58, 59] [x17, x18, x23, x24, x25, x26, x33, x40, x42, x43, x44, x45, x46, x47, x48, x49, x50, x51, x52, x53, x54, x55, x56, x57, x58, x59]) (Y' := ov Y0 [] []) (As := []) (gMi_eq (c_X11_isTold l hL (ov_map hN [0] (by rfl) (by rfl)) (ov_map hM [] (by rfl) (by rfl)) q_2) (ov_ovE hN (by rfl) [0] [1, 2, 3, 4, 5, 6, 7, 8, 9, 10, 11, 12, 13, 14, 15, 16, 17, 18, 19, 20, 21, 22, 23, 24, 25] (by rfl) (by rfl) [x18, x23, x24, x25, x26, x33, x40, x42, x43, x44, x45, x46, x47, x48, x49, x50, x51, x52, x53, x54, x55, x56, x57, x58, x59] (by rfl) (by rfl) (by rfl) 26 (by rfl) (by decide)) (ov_ovE hM (by rfl) [] [] (by rfl) (by rfl) [] (by rfl) (by rfl) (by rfl) 0 (by rfl) (by decide))) tw_853 tw_850 tw_116 tw_852 tw_25 (ci := 11) rfl (by decide) (kk_0 hL) (kn_0 hL) pd_X11_isTold (by decide) (by decide) rfl rfl (Nat.le_of_ble_eq_true rfl) rfl dX11_row_1 ?_
  refine g_if_eq hC 25 dX11_row_4 (by decide) (fun hc => ?_) (fun hc => ?_)
  · replace hf := ifT hf hc
    refine g_bipush hC (v := (-3)) dX11_row_25 bp_m3 ?_
    obtain ⟨rfl, rfl, rfl, rfl, rfl, rfl, rfl, rfl, rfl, rfl, rfl, rfl, rfl, rfl, rfl, rfl, rfl, rfl, rfl, rfl, rfl⟩ := sm21E hf
    exact hret _ _ rfl dX11_row_27
  · replace hf := ifF hf hc
    refine g_iload_n hC 1 dX11_row_7 rfl rfl ?_
    refine g_iconst hC (v := 1) dX11_row_8 ic_1 ?_
    refine g_iconst hC (v := 3) dX11_row_9 ic_3 ?_
    obtain ⟨r_3, q_4, hf⟩ := bd1E hf
    refine g_callS_i hC (X' := ov X0 [17, 18, 23, 24, 25, 26, 33, 40, 42, 43, 44, 45, 46, 47, 48, 49, 50, 51, 52, 53, 54, 55, 56, 57, 58, 59] [x17, x18, x23, x24, x25, x26, x33, x40, x42, x43, x44, x45, x46, x47, x48, x49, x50, x51, x52, x53, x54, x55, x56, x57, x58, x59]) (Y' := ov Y0 [] []) (As := [.int v1, .int 1, .int 3]) (gMi_eq (c_X11_isWithin l hL (ov_map hN [] (by rfl) (by rfl)) (ov_map hM [] (by rfl) (by rfl)) q_4) (ov_ovE hN (by rfl) [] [0, 1, 2, 3, 4, 5, 6, 7, 8, 9, 10, 11, 12, 13, 14, 15, 16, 17, 18, 19, 20, 21, 22, 23, 24, 25] (by rfl) (by rfl) [x17, x18, x23, x24, x25, x26, x33, x40, x42, x43, x44, x45, x46, x47, x48, x49, x50, x51, x52, x53, x54, x55, x56, x57, x58, x59] (by rfl) (by rfl) (by rfl) 26 (by rfl) (by decide)) (ov_ovE hM (by rfl) [] [] (by rfl) (by rfl) [] (by rfl) (by rfl) (by rfl) 0 (by rfl) (by decide))) tw_666 tw_870 tw_116 tw_665 pd_X11_isWithin (by decide) (by decide) rfl rfl (Nat.le_of_ble_eq_true rfl) rfl dX11_row_10 ?_
    refine g_if_eq hC 25 dX11_row_13 (by decide) (fun hc => ?_) (fun hc => ?_)
    · replace hf := ifT hf hc
      refine g_bipush hC (v := (-3)) dX11_row_25 bp_m3 ?_
      obtain ⟨rfl, rfl, rfl, rfl, rfl, rfl, rfl, rfl, rfl, rfl, rfl, rfl, rfl, rfl, rfl, rfl, rfl, rfl, rfl, rfl, rfl⟩ := sm21E hf
      exact hret _ _ rfl dX11_row_27
    · replace hf := ifF hf hc
      refine g_iload_n hC 2 dX11_row_16 rfl rfl ?_
      refine g_iconst hC (v := 0) dX11_row_17 ic_0 ?_
      refine g_iconst hC (v := 3) dX11_row_18 ic_3 ?_
      obtain ⟨r_5, q_6, hf⟩ := bd1E hf
      refine g_callS_i hC (X' := ov X0 [17, 18, 23, 24, 25, 26, 33, 40, 42, 43, 44, 45, 46, 47, 48, 49, 50, 51, 52, 53, 54, 55, 56, 57, 58, 59] [x17, x18, x23, x24, x25, x26, x33, x40, x42, x43, x44, x45, x46, x47, x48, x49, x50, x51, x52, x53, x54, x55, x56, x57, x58, x59]) (Y' := ov Y0 [] []) (As := [.int v2, .int 0, .int 3]) (gMi_eq (c_X11_isWithin l hL (ov_map hN [] (by rfl) (by rfl)) (ov_map hM [] (by rfl) (by rfl)) q_6) (ov_ovE hN (by rfl) [] [0, 1, 2, 3, 4, 5, 6, 7, 8, 9, 10, 11, 12, 13, 14, 15, 16, 17, 18, 19, 20, 21, 22, 23, 24, 25] (by rfl) (by rfl) [x17, x18, x23, x24, x25, x26, x33, x40, x42, x43, x44, x45, x46, x47, x48, x49, x50, x51, x52, x53, x54, x55, x56, x57, x58, x59] (by rfl) (by rfl) (by rfl) 26 (by rfl) (by decide)) (ov_ovE hM (by rfl) [] [] (by rfl) (by rfl) [] (by rfl) (by rfl) (by rfl) 0 (by rfl) (by decide))) tw_666 tw_870 tw_116 tw_665 pd_X11_isWithin (by decide) (by decide) rfl rfl (Nat.le_of_ble_eq_true rfl) rfl dX11_row_19 ?_
      refine g_if_ne hC 28 dX11_row_22 (by decide) (fun hc => ?_) (fun hc => ?_)
      · replace hf := ifF hf hc
        refine g_iload_n hC 2 dX11_row_28 rfl rfl ?_
        refine g_iload_n hC 1 dX11_row_29 rfl rfl ?_
        refine g_icmp_le hC 36 dX11_row_30 (by decide) (fun hc => ?_) (fun hc => ?_)
        · replace hf := ifT hf hc
          refine g_aload_n hC 0 dX11_row_36 rfl rfl ?_
          refine gt_X11_78 hC (a := 0) (kk_0 hL) (kn_0 hL) dX11_row_37 ?_
          refine g_ref (b := 40) rfl ?_
          refine g_aload_n hC 0 dX11_row_40 rfl rfl ?_
          refine gt_X11_41 hC (a := 0) (kk_0 hL) (kn_0 hL) dX11_row_41 ?_
          refine g_ref (b := 16) rfl ?_
          refine gt_X11_140 hC (a := 16) (kk_16 hL) (kn_16 hL) dX11_row_44 ?_
          refine g_ref (b := 23) rfl ?_
          refine g_iload_n hC 1 dX11_row_47 rfl rfl ?_
          obtain ⟨x33_7, x40_8, x42_9, x43_10, x44_11, x45_12, x46_13, x47_14, x48_15, x49_16, x50_17, x51_18, x52_19, x53_20, x54_21, x55_22, x56_23, x57_24, x58_25, x59_26, q_27, hf⟩ := bd20E hf
          refine g_callV_v (a := 40) hC (X' := ov X0 [17, 18, 23, 24, 25, 26, 33, 40, 42, 43, 44, 45, 46, 47, 48, 49, 50, 51, 52, 53, 54, 55, 56, 57, 58, 59] [x17, x18, x23, x24, x25, x26, x33_7, x40_8, x42_9, x43_10, x44_11, x45_12, x46_13, x47_14, x48_15, x49_16, x50_17, x51_18, x52_19, x53_20, x54_21, x55_22, x56_23, x57_24, x58_25, x59_26]) (Y' := ov Y0 [] []) (As := [.ref (b0 + 23), .int v1]) (gMv_eq (c_X3_find l hL hz41 (ov_map hN [0, 1, 2, 3, 4, 5, 6, 7, 8, 9, 10, 11, 12, 13, 14, 15, 16, 17, 18, 19, 20, 21, 22, 23, 24, 25] (by rfl) (by rfl)) (ov_map hM [] (by rfl) (by rfl)) q_27) (ov_ovE hN (by rfl) [0, 1, 2, 3, 4, 5, 6, 7, 8, 9, 10, 11, 12, 13, 14, 15, 16, 17, 18, 19, 20, 21, 22, 23, 24, 25] [] (by rfl) (by rfl) [] (by rfl) (by rfl) (by rfl) 26 (by rfl) (by decide)) (ov_ovE hM (by rfl) [] [] (by rfl) (by rfl) [] (by rfl) (by rfl) (by rfl) 0 (by rfl) (by decide))) tw_1027 tw_1024 tw_124 tw_1025 tw_1026 (ci := 3) rfl (by decide) (kk_40 hL) (kn_40 hL) pd_X3_find (by decide) (by decide) rfl rfl (Nat.le_of_ble_eq_true rfl) rfl dX11_row_48 ?_
          refine g_iload_n hC 2 dX11_row_51 rfl rfl ?_
          refine g_if_ne hC 65 dX11_row_52 (by decide) (fun hc => ?_) (fun hc => ?_)
          · replace hf := ifF hf hc
            refine g_aload_n hC 0 dX11_row_65 rfl rfl ?_
            refine gt_X11_78 hC (a := 0) (kk_0 hL) (kn_0 hL) dX11_row_66 ?_
            refine g_ref (b := 40) rfl ?_
            refine gt_X11_253 hC (a := 40) (kk_40 hL) (kn_40 hL) dX11_row_69 ?_
            refine g_ref (b := 59) rfl ?_
            refine g_iload_n hC 2 dX11_row_72 rfl rfl ?_
            refine g_iconst hC (v := 1) dX11_row_73 ic_1 ?_
            refine g_isub hC dX11_row_74 ?_
            obtain ⟨h_28, hf⟩ := gdE hf
            refine g_iald hC (x := x59_26) (kk_59 hL) (kn_59 hL) (ov_get hN 25 rfl rfl) (inb_in h_28) dX11_row_75 ?_
            obtain ⟨rfl, rfl, rfl, rfl, rfl, rfl, rfl, rfl, rfl, rfl, rfl, rfl, rfl, rfl, rfl, rfl, rfl, rfl, rfl, rfl, rfl⟩ := sm21E hf
            exact hret _ _ rfl dX11_row_76
          · replace hf := ifT hf hc
            refine g_aload_n hC 0 dX11_row_55 rfl rfl ?_
            refine gt_X11_78 hC (a := 0) (kk_0 hL) (kn_0 hL) dX11_row_56 ?_
            refine g_ref (b := 40) rfl ?_
            refine gt_X11_250 hC (x := x40_8) (kk_40 hL) (kn_40 hL) (ov_get hN 7 rfl rfl) dX11_row_59 ?_
            refine g_goto hC 76 dX11_row_62 (by decide) ?_
            obtain ⟨rfl, rfl, rfl, rfl, rfl, rfl, rfl, rfl, rfl, rfl, rfl, rfl, rfl, rfl, rfl, rfl, rfl, rfl, rfl, rfl, rfl⟩ := sm21E hf
            exact hret _ _ rfl dX11_row_76
        · replace hf := ifF hf hc
          refine g_bipush hC (v := (-2)) dX11_row_33 bp_m2 ?_
          obtain ⟨rfl, rfl, rfl, rfl, rfl, rfl, rfl, rfl, rfl, rfl, rfl, rfl, rfl, rfl, rfl, rfl, rfl, rfl, rfl, rfl, rfl⟩ := sm21E hf
          exact hret _ _ rfl dX11_row_35
      · replace hf := ifT hf hc
        refine g_bipush hC (v := (-3)) dX11_row_25 bp_m3 ?_
        obtain ⟨rfl, rfl, rfl, rfl, rfl, rfl, rfl, rfl, rfl, rfl, rfl, rfl, rfl, rfl, rfl, rfl, rfl, rfl, rfl, rfl, rfl⟩ := sm21E hf
        exact hret _ _ rfl dX11_row_27

def fX11_row   (x17 : Nat → Int32) (x18 : Nat → Int32) (x23 : Nat → Int32) (x24 : Nat → Int32) (x25 : Nat → Int32) (x26 : Nat → Int32)  (v1 : Int32) (v2 : Int32) (x33 : Nat → Int32) (x40 : Nat → Int32) (x42 : Nat → Int32) (x43 : Nat → Int32) (x44 : Nat → Int32) (x45 : Nat → Int32) (x46 : Nat → Int32) (x47 : Nat → Int32) (x48 : Nat → Int32) (x49 : Nat → Int32) (x50 : Nat → Int32) (x51 : Nat → Int32) (x52 : Nat → Int32) (x53 : Nat → Int32) (x54 : Nat → Int32) (x55 : Nat → Int32) (x56 : Nat → Int32) (x57 : Nat → Int32) (x58 : Nat → Int32) (x59 : Nat → Int32)  : Option (Int32 × (Nat → Int32) × (Nat → Int32) × (Nat → Int32) × (Nat → Int32) × (Nat → Int32) × (Nat → Int32) × (Nat → Int32) × (Nat → Int32) × (Nat → Int32) × (Nat → Int32) × (Nat → Int32) × (Nat → Int32) × (Nat → Int32) × (Nat → Int32) × (Nat → Int32) × (Nat → Int32) × (Nat → Int32) × (Nat → Int32) × (Nat → Int32) × (Nat → Int32)) := fX11_row_0 x17 x18 x23 x24 x25 x26 v1 v2 x33 x40 x42 x43 x44 x45 x46 x47 x48 x49 x50 x51 x52 x53 x54 x55 x56 x57 x58 x59

set_option maxHeartbeats 4000000 in
set_option maxRecDepth 100000 in
theorem c_X11_row (l : Launch) {b0 : Nat} {D : GD} {n : Nat} {κ : QT} {X0 : XT} {Y0 : YT} {Z : ZT} (hL : LY n κ) (hz41 : Z 41 0 = some 42 ∧ Z 41 1 = some 46 ∧ Z 41 2 = some 50 ∧ Z 41 3 = some 54) {x17 : Nat → Int32} {x18 : Nat → Int32} {x23 : Nat → Int32} {x24 : Nat → Int32} {x25 : Nat → Int32} {x26 : Nat → Int32} {x33 : Nat → Int32} {x40 : Nat → Int32} {x42 : Nat → Int32} {x43 : Nat → Int32} {x44 : Nat → Int32} {x45 : Nat → Int32} {x46 : Nat → Int32} {x47 : Nat → Int32} {x48 : Nat → Int32} {x49 : Nat → Int32} {x50 : Nat → Int32} {x51 : Nat → Int32} {x52 : Nat → Int32} {x53 : Nat → Int32} {x54 : Nat → Int32} {x55 : Nat → Int32} {x56 : Nat → Int32} {x57 : Nat → Int32} {x58 : Nat → Int32} {x59 : Nat → Int32} (hx : ([17, 18, 23, 24, 25, 26, 33, 40, 42, 43, 44, 45, 46, 47, 48, 49, 50, 51, 52, 53, 54, 55, 56, 57, 58, 59] : List Nat).map X0 = [x17, x18, x23, x24, x25, x26, x33, x40, x42, x43, x44, x45, x46, x47, x48, x49, x50, x51, x52, x53, x54, x55, x56, x57, x58, x59]) (hy : ([] : List Nat).map Y0 = []) {v1 : Int32} {v2 : Int32} {r : Int32} {rx33 : (Nat → Int32)} {rx40 : (Nat → Int32)} {rx42 : (Nat → Int32)} {rx43 : (Nat → Int32)} {rx44 : (Nat → Int32)} {rx45 : (Nat → Int32)} {rx46 : (Nat → Int32)} {rx47 : (Nat → Int32)} {rx48 : (Nat → Int32)} {rx49 : (Nat → Int32)} {rx50 : (Nat → Int32)} {rx51 : (Nat → Int32)} {rx52 : (Nat → Int32)} {rx53 : (Nat → Int32)} {rx54 : (Nat → Int32)} {rx55 : (Nat → Int32)} {rx56 : (Nat → Int32)} {rx57 : (Nat → Int32)} {rx58 : (Nat → Int32)} {rx59 : (Nat → Int32)} (hf : fX11_row x17 x18 x23 x24 x25 x26 v1 v2 x33 x40 x42 x43 x44 x45 x46 x47 x48 x49 x50 x51 x52 x53 x54 x55 x56 x57 x58 x59 = some (r, rx33, rx40, rx42, rx43, rx44, rx45, rx46, rx47, rx48, rx49, rx50, rx51, rx52, rx53, rx54, rx55, rx56, rx57, rx58, rx59)) : gMi l yX11_row cX11_row 3 (some FieldType.int) 11 284 0 0 b0 D [.ref (b0 + 0), .int v1, .int v2] (n, κ, X0, Y0, Z) (n, κ, ov X0 [17, 18, 23, 24, 25, 26, 33, 40, 42, 43, 44, 45, 46, 47, 48, 49, 50, 51, 52, 53, 54, 55, 56, 57, 58, 59] [x17, x18, x23, x24, x25, x26, rx33, rx40, rx42, rx43, rx44, rx45, rx46, rx47, rx48, rx49, rx50, rx51, rx52, rx53, rx54, rx55, rx56, rx57, rx58, rx59], ov Y0 [] [], Z) r := by
  have hN : ([17, 18, 23, 24, 25, 26, 33, 40, 42, 43, 44, 45, 46, 47, 48, 49, 50, 51, 52, 53, 54, 55, 56, 57, 58, 59] : List Nat).Nodup := by decide
  have hM : ([] : List Nat).Nodup := by decide
  refine g_meti (own := RX11) (by decide) rfl rfl (Nat.le_of_ble_eq_true rfl) ?_
  intro K hC hret
  have e := wX11_row_0 hL hz41 hN hM hC  hret hf
  rw [ov_id' hx, ov_id' hy] at e
  exact g_sub [0, 1, 2] rfl e


-- X5_readClause
def fX5_readClause_101   (x3 : Nat → Int32) (x4 : Nat → Int32) (x5 : Nat → Int32)  (x1 : (Nat → Int32)) (x13 : (Nat → Int32)) (x14 : (Nat → Int32)) : Option (Int32 × (Nat → Int32) × (Nat → Int32) × (Nat → Int32)) := some (0, x1, x13, x14)
set_option maxHeartbeats 4000000 in
set_option maxRecDepth 100000 in
theorem wX5_readClause_101 {l : Launch} {b0 : Nat} {D : GD} {K : KT} {n : Nat} {κ : QT} {X0 : XT} {Y0 : YT} {Z : ZT} (hL : LY n κ) (hN : ([1, 3, 4, 5, 13, 14] : List Nat).Nodup) (hM : ([] : List Nat).Nodup) (hC : gC l b0 D K RX5 cX5_readClause (some FieldType.boolean) 2 201 10024 0 0) {x3 : Nat → Int32} {x4 : Nat → Int32} {x5 : Nat → Int32} {r : Int32} {rx1 : (Nat → Int32)} {rx13 : (Nat → Int32)} {rx14 : (Nat → Int32)} (hret : ∀ pc loc, narrow .boolean (.int r) = .int r → decode cX5_readClause pc = .ok (.ireturn, 1) → gV l b0 D K (n, κ, ov X0 [1, 3, 4, 5, 13, 14] [rx1, x3, x4, x5, rx13, rx14], ov Y0 [] [], Z, 0, 0) pc loc [.int r]) {x1 : (Nat → Int32)} {x13 : (Nat → Int32)} {x14 : (Nat → Int32)} (hf : fX5_readClause_101 x3 x4 x5  x1 x13 x14 = some (r, rx1, rx13, rx14)) : gV l b0 D K (n, κ, ov X0 [1, 3, 4, 5, 13, 14] [x1, x3, x4, x5, x13, x14], ov Y0 [] [], Z, 0, 0) 101 [] [] := by
  unfold fX5_readClause_101 at hf
  refine g_iconst hC (v := 0) dX5_readClause_101 ic_0 ?_
  obtain ⟨rfl, rfl, rfl, rfl⟩ := sm4E hf
  exact hret _ _ rfl dX5_readClause_102

def fX5_readClause_0   (x3 : Nat → Int32) (x4 : Nat → Int32) (x5 : Nat → Int32)  (v1 : Int32) (x1 : (Nat → Int32)) (x13 : (Nat → Int32)) (x14 : (Nat → Int32)) : Option (Int32 × (Nat → Int32) × (Nat → Int32) × (Nat → Int32)) := bd1 (fX8_code x1 x3) fun r_1 => (if r_1 = 32 then (if v1 < 12 then (bd1 (fX8_skip x1) fun x1_3 => (bd4 (fX5_readSum x3 x4 x5 x1_3 x13 x14) fun r_5 x1_6 x13_7 x14_8 => (if r_5 = 0 then (some (0, x1_6, x13_7, x14_8)) else (bd1 (fX8_code x1_6 x3) fun r_10 => (if r_10 = 33 then (bd1 (fX8_skip x1_6) fun x1_12 => (bd4 (fTest x3 x4 x5 0 x1_12 x13_7 x14_8) fun r_14 x1_15 x13_16 x14_17 => (if r_14 = 0 then (fX5_readClause_101 x3 x4 x5  x1_15 x13_16 x14_17) else (bd3 (fX5_write 38 0 x13_16 x14_17) fun r_19 x13_20 x14_21 => (if r_19 = 0 then (fX5_readClause_101 x3 x4 x5  x1_15 x13_20 x14_21) else (some (1, x1_15, x13_20, x14_21))))))) else (bd3 (fX5_write 37 0 x13_7 x14_8) fun r_23 x13_24 x14_25 => (gd (bz r_23) (some (r_23, x1_6, x13_24, x14_25))))))))) else (bd2 (fX8_fail x4 4 x1) fun r_28 x1_29 => (gd (bz r_28) (some (r_28, x1_29, x13, x14))))) else (bd2 (fX8_fail x4 0 x1) fun r_32 x1_33 => (gd (bz r_32) (some (r_32, x1_33, x13, x14)))))
set_option maxHeartbeats 4000000 in
set_option maxRecDepth 100000 in
theorem wX5_readClause_0 {l : Launch} {b0 : Nat} {D : GD} {K : KT} {n : Nat} {κ : QT} {X0 : XT} {Y0 : YT} {Z : ZT} (hL : LY n κ) (hN : ([1, 3, 4, 5, 13, 14] : List Nat).Nodup) (hM : ([] : List Nat).Nodup) (hC : gC l b0 D K RX5 cX5_readClause (some FieldType.boolean) 2 201 10024 0 0) {x3 : Nat → Int32} {x4 : Nat → Int32} {x5 : Nat → Int32} {r : Int32} {rx1 : (Nat → Int32)} {rx13 : (Nat → Int32)} {rx14 : (Nat → Int32)} (hret : ∀ pc loc, narrow .boolean (.int r) = .int r → decode cX5_readClause pc = .ok (.ireturn, 1) → gV l b0 D K (n, κ, ov X0 [1, 3, 4, 5, 13, 14] [rx1, x3, x4, x5, rx13, rx14], ov Y0 [] [], Z, 0, 0) pc loc [.int r]) {v1 : Int32} {x1 : (Nat → Int32)} {x13 : (Nat → Int32)} {x14 : (Nat → Int32)} (hf : fX5_readClause_0 x3 x4 x5  v1 x1 x13 x14 = some (r, rx1, rx13, rx14)) : gV l b0 D K (n, κ, ov X0 [1, 3, 4, 5, 13, 14] [x1, x3, x4, x5, x13, x14], ov Y0 [] [], Z, 0, 0) 0 [(0, .ref (b0 + 13)), (1, .int v1)] [] := by
  unfold fX5_readClause_0 at hf
  refine g_aload_n hC 0 dX5_readClause_0 rfl rfl ?_
  refine gt_X5_15 hC (a := 13) (kk_13 hL) (kn_13 hL) dX5_readClause_1 ?_
  refine g_ref (b := 1) rfl ?_
  obtain ⟨r_1, q_2, hf⟩ := bd1E hf
  refine g_callV_i (a := 1) hC (X' := ov X0 [1, 3, 4, 5, 13, 14] [x1, x3, x4, x5, x13, x14]) (Y' := ov Y0 [] []) (As := []) (gMi_eq (c_X8_code l hL (ov_map hN [0, 1] (by rfl) (by rfl)) (ov_map hM [] (by rfl) (by rfl)) q_2) (ov_ovE hN (by rfl) [0, 1] [2, 3, 4, 5] (by rfl) (by rfl) [x4, x5, x13, x14] (by rfl) (by rfl) (by rfl) 6 (by rfl) (by decide)) (ov_ovE hM (by rfl) [] [] (by rfl) (by rfl) [] (by rfl) (by rfl) (by rfl) 0 (by rfl) (by decide))) tw_639 tw_723 tw_117 tw_637 tw_638 (ci := 8) rfl (by decide) (kk_1 hL) (kn_1 hL) pd_X8_code (by decide) (by decide) rfl rfl (Nat.le_of_ble_eq_true rfl) rfl dX5_readClause_4 ?_
  refine g_bipush hC (v := 32) dX5_readClause_7 bp_32 ?_
  refine g_icmp_eq hC 21 dX5_readClause_9 (by decide) (fun hc => ?_) (fun hc => ?_)
  · replace hf := ifT hf hc
    refine g_iload_n hC 1 dX5_readClause_21 rfl rfl ?_
    refine g_bipush hC (v := 12) dX5_readClause_22 bp_12 ?_
    refine g_icmp_lt hC 36 dX5_readClause_24 (by decide) (fun hc => ?_) (fun hc => ?_)
    · replace hf := ifT hf hc
      refine g_aload_n hC 0 dX5_readClause_36 rfl rfl ?_
      refine gt_X5_15 hC (a := 13) (kk_13 hL) (kn_13 hL) dX5_readClause_37 ?_
      refine g_ref (b := 1) rfl ?_
      obtain ⟨x1_3, q_4, hf⟩ := bd1E hf
      refine g_callV_v (a := 1) hC (X' := ov X0 [1, 3, 4, 5, 13, 14] [x1_3, x3, x4, x5, x13, x14]) (Y' := ov Y0 [] []) (As := []) (gMv_eq (c_X8_skip l hL (ov_map hN [0] (by rfl) (by rfl)) (ov_map hM [] (by rfl) (by rfl)) q_4) (ov_ovE hN (by rfl) [0] [1, 2, 3, 4, 5] (by rfl) (by rfl) [x3, x4, x5, x13, x14] (by rfl) (by rfl) (by rfl) 6 (by rfl) (by decide)) (ov_ovE hM (by rfl) [] [] (by rfl) (by rfl) [] (by rfl) (by rfl) (by rfl) 0 (by rfl) (by decide))) tw_651 tw_725 tw_117 tw_649 tw_650 (ci := 8) rfl (by decide) (kk_1 hL) (kn_1 hL) pd_X8_skip (by decide) (by decide) rfl rfl (Nat.le_of_ble_eq_true rfl) rfl dX5_readClause_40 ?_
      refine g_aload_n hC 0 dX5_readClause_43 rfl rfl ?_
      obtain ⟨r_5, x1_6, x13_7, x14_8, q_9, hf⟩ := bd4E hf
      refine g_callV_i (a := 13) hC (X' := ov X0 [1, 3, 4, 5, 13, 14] [x1_6, x3, x4, x5, x13_7, x14_8]) (Y' := ov Y0 [] []) (As := []) (gMi_eq (c_X5_readSum l hL (ov_map hN [0, 1, 2, 3, 4, 5] (by rfl) (by rfl)) (ov_map hM [] (by rfl) (by rfl)) q_9) (ov_ovE hN (by rfl) [0, 1, 2, 3, 4, 5] [] (by rfl) (by rfl) [] (by rfl) (by rfl) (by rfl) 6 (by rfl) (by decide)) (ov_ovE hM (by rfl) [] [] (by rfl) (by rfl) [] (by rfl) (by rfl) (by rfl) 0 (by rfl) (by decide))) tw_729 tw_726 tw_121 tw_728 tw_16 (ci := 5) rfl (by decide) (kk_13 hL) (kn_13 hL) pd_X5_readSum (by decide) (by decide) rfl rfl (Nat.le_of_ble_eq_true rfl) rfl dX5_readClause_44 ?_
      refine g_if_ne hC 52 dX5_readClause_47 (by decide) (fun hc => ?_) (fun hc => ?_)
      · replace hf := ifF hf hc
        refine g_aload_n hC 0 dX5_readClause_52 rfl rfl ?_
        refine gt_X5_15 hC (a := 13) (kk_13 hL) (kn_13 hL) dX5_readClause_53 ?_
        refine g_ref (b := 1) rfl ?_
        obtain ⟨r_10, q_11, hf⟩ := bd1E hf
        refine g_callV_i (a := 1) hC (X' := ov X0 [1, 3, 4, 5, 13, 14] [x1_6, x3, x4, x5, x13_7, x14_8]) (Y' := ov Y0 [] []) (As := []) (gMi_eq (c_X8_code l hL (ov_map hN [0, 1] (by rfl) (by rfl)) (ov_map hM [] (by rfl) (by rfl)) q_11) (ov_ovE hN (by rfl) [0, 1] [2, 3, 4, 5] (by rfl) (by rfl) [x4, x5, x13_7, x14_8] (by rfl) (by rfl) (by rfl) 6 (by rfl) (by decide)) (ov_ovE hM (by rfl) [] [] (by rfl) (by rfl) [] (by rfl) (by rfl) (by rfl) 0 (by rfl) (by decide))) tw_639 tw_723 tw_117 tw_637 tw_638 (ci := 8) rfl (by decide) (kk_1 hL) (kn_1 hL) pd_X8_code (by decide) (by decide) rfl rfl (Nat.le_of_ble_eq_true rfl) rfl dX5_readClause_56 ?_
        refine g_bipush hC (v := 33) dX5_readClause_59 bp_33 ?_
        refine g_icmp_eq hC 72 dX5_readClause_61 (by decide) (fun hc => ?_) (fun hc => ?_)
        · replace hf := ifT hf hc
          refine g_aload_n hC 0 dX5_readClause_72 rfl rfl ?_
          refine gt_X5_15 hC (a := 13) (kk_13 hL) (kn_13 hL) dX5_readClause_73 ?_
          refine g_ref (b := 1) rfl ?_
          obtain ⟨x1_12, q_13, hf⟩ := bd1E hf
          refine g_callV_v (a := 1) hC (X' := ov X0 [1, 3, 4, 5, 13, 14] [x1_12, x3, x4, x5, x13_7, x14_8]) (Y' := ov Y0 [] []) (As := []) (gMv_eq (c_X8_skip l hL (ov_map hN [0] (by rfl) (by rfl)) (ov_map hM [] (by rfl) (by rfl)) q_13) (ov_ovE hN (by rfl) [0] [1, 2, 3, 4, 5] (by rfl) (by rfl) [x3, x4, x5, x13_7, x14_8] (by rfl) (by rfl) (by rfl) 6 (by rfl) (by decide)) (ov_ovE hM (by rfl) [] [] (by rfl) (by rfl) [] (by rfl) (by rfl) (by rfl) 0 (by rfl) (by decide))) tw_651 tw_725 tw_117 tw_649 tw_650 (ci := 8) rfl (by decide) (kk_1 hL) (kn_1 hL) pd_X8_skip (by decide) (by decide) rfl rfl (Nat.le_of_ble_eq_true rfl) rfl dX5_readClause_76 ?_
          refine g_aload_n hC 0 dX5_readClause_79 rfl rfl ?_
          refine g_iconst hC (v := 0) dX5_readClause_80 ic_0 ?_
          obtain ⟨r_14, x1_15, x13_16, x14_17, q_18, hf⟩ := bd4E hf
          refine g_callV_i (a := 13) hC (X' := ov X0 [1, 3, 4, 5, 13, 14] [x1_15, x3, x4, x5, x13_16, x14_17]) (Y' := ov Y0 [] []) (As := [.int 0]) (gMi_eq (c_test l hL (ov_map hN [0, 1, 2, 3, 4, 5] (by rfl) (by rfl)) (ov_map hM [] (by rfl) (by rfl)) q_18) (ov_ovE hN (by rfl) [0, 1, 2, 3, 4, 5] [] (by rfl) (by rfl) [] (by rfl) (by rfl) (by rfl) 6 (by rfl) (by decide)) (ov_ovE hM (by rfl) [] [] (by rfl) (by rfl) [] (by rfl) (by rfl) (by rfl) 0 (by rfl) (by decide))) tw_743 tw_740 tw_121 tw_742 tw_19 (ci := 5) rfl (by decide) (kk_13 hL) (kn_13 hL) pd_X5_readTest (by decide) (by decide) rfl rfl (Nat.le_of_ble_eq_true rfl) rfl dX5_readClause_81 ?_
          refine g_if_eq hC 101 dX5_readClause_84 (by decide) (fun hc => ?_) (fun hc => ?_)
          · replace hf := ifT hf hc
            exact g_sub [] rfl (wX5_readClause_101 hL hN hM hC  hret  hf)
          · replace hf := ifF hf hc
            refine g_aload_n hC 0 dX5_readClause_87 rfl rfl ?_
            refine g_bipush hC (v := 38) dX5_readClause_88 bp_38 ?_
            refine g_iconst hC (v := 0) dX5_readClause_90 ic_0 ?_
            obtain ⟨r_19, x13_20, x14_21, q_22, hf⟩ := bd3E hf
            refine g_callV_i (a := 13) hC (X' := ov X0 [1, 3, 4, 5, 13, 14] [x1_15, x3, x4, x5, x13_20, x14_21]) (Y' := ov Y0 [] []) (As := [.int 38, .int 0]) (gMi_eq (c_X5_write l hL (ov_map hN [4, 5] (by rfl) (by rfl)) (ov_map hM [] (by rfl) (by rfl)) q_22) (ov_ovE hN (by rfl) [4, 5] [0, 1, 2, 3] (by rfl) (by rfl) [x1_15, x3, x4, x5] (by rfl) (by rfl) (by rfl) 6 (by rfl) (by decide)) (ov_ovE hM (by rfl) [] [] (by rfl) (by rfl) [] (by rfl) (by rfl) (by rfl) 0 (by rfl) (by decide))) tw_739 tw_736 tw_121 tw_738 tw_18 (ci := 5) rfl (by decide) (kk_13 hL) (kn_13 hL) pd_X5_write (by decide) (by decide) rfl rfl (Nat.le_of_ble_eq_true rfl) rfl dX5_readClause_91 ?_
            refine g_if_eq hC 101 dX5_readClause_94 (by decide) (fun hc => ?_) (fun hc => ?_)
            · replace hf := ifT hf hc
              exact g_sub [] rfl (wX5_readClause_101 hL hN hM hC  hret  hf)
            · replace hf := ifF hf hc
              refine g_iconst hC (v := 1) dX5_readClause_97 ic_1 ?_
              refine g_goto hC 102 dX5_readClause_98 (by decide) ?_
              obtain ⟨rfl, rfl, rfl, rfl⟩ := sm4E hf
              exact hret _ _ rfl dX5_readClause_102
        · replace hf := ifF hf hc
          refine g_aload_n hC 0 dX5_readClause_64 rfl rfl ?_
          refine g_bipush hC (v := 37) dX5_readClause_65 bp_37 ?_
          refine g_iconst hC (v := 0) dX5_readClause_67 ic_0 ?_
          obtain ⟨r_23, x13_24, x14_25, q_26, hf⟩ := bd3E hf
          refine g_callV_i (a := 13) hC (X' := ov X0 [1, 3, 4, 5, 13, 14] [x1_6, x3, x4, x5, x13_24, x14_25]) (Y' := ov Y0 [] []) (As := [.int 37, .int 0]) (gMi_eq (c_X5_write l hL (ov_map hN [4, 5] (by rfl) (by rfl)) (ov_map hM [] (by rfl) (by rfl)) q_26) (ov_ovE hN (by rfl) [4, 5] [0, 1, 2, 3] (by rfl) (by rfl) [x1_6, x3, x4, x5] (by rfl) (by rfl) (by rfl) 6 (by rfl) (by decide)) (ov_ovE hM (by rfl) [] [] (by rfl) (by rfl) [] (by rfl) (by rfl) (by rfl) 0 (by rfl) (by decide))) tw_739 tw_736 tw_121 tw_738 tw_18 (ci := 5) rfl (by decide) (kk_13 hL) (kn_13 hL) pd_X5_write (by decide) (by decide) rfl rfl (Nat.le_of_ble_eq_true rfl) rfl dX5_readClause_68 ?_
          obtain ⟨h_27, hf⟩ := gdE hf
          obtain ⟨rfl, rfl, rfl, rfl⟩ := sm4E hf
          exact hret _ _ (bz_nar h_27) dX5_readClause_71
      · replace hf := ifT hf hc
        refine g_iconst hC (v := 0) dX5_readClause_50 ic_0 ?_
        obtain ⟨rfl, rfl, rfl, rfl⟩ := sm4E hf
        exact hret _ _ rfl dX5_readClause_51
    · replace hf := ifF hf hc
      refine g_aload_n hC 0 dX5_readClause_27 rfl rfl ?_
      refine gt_X5_15 hC (a := 13) (kk_13 hL) (kn_13 hL) dX5_readClause_28 ?_
      refine g_ref (b := 1) rfl ?_
      refine g_iconst hC (v := 4) dX5_readClause_31 ic_4 ?_
      obtain ⟨r_28, x1_29, q_30, hf⟩ := bd2E hf
      refine g_callV_i (a := 1) hC (X' := ov X0 [1, 3, 4, 5, 13, 14] [x1_29, x3, x4, x5, x13, x14]) (Y' := ov Y0 [] []) (As := [.int 4]) (gMi_eq (c_X8_fail l hL (ov_map hN [0, 2] (by rfl) (by rfl)) (ov_map hM [] (by rfl) (by rfl)) q_30) (ov_ovE hN (by rfl) [0, 2] [1, 3, 4, 5] (by rfl) (by rfl) [x3, x5, x13, x14] (by rfl) (by rfl) (by rfl) 6 (by rfl) (by decide)) (ov_ovE hM (by rfl) [] [] (by rfl) (by rfl) [] (by rfl) (by rfl) (by rfl) 0 (by rfl) (by decide))) tw_643 tw_724 tw_117 tw_641 tw_642 (ci := 8) rfl (by decide) (kk_1 hL) (kn_1 hL) pd_X8_fail (by decide) (by decide) rfl rfl (Nat.le_of_ble_eq_true rfl) rfl dX5_readClause_32 ?_
      obtain ⟨h_31, hf⟩ := gdE hf
      obtain ⟨rfl, rfl, rfl, rfl⟩ := sm4E hf
      exact hret _ _ (bz_nar h_31) dX5_readClause_35
  · replace hf := ifF hf hc
    refine g_aload_n hC 0 dX5_readClause_12 rfl rfl ?_
    refine gt_X5_15 hC (a := 13) (kk_13 hL) (kn_13 hL) dX5_readClause_13 ?_
    refine g_ref (b := 1) rfl ?_
    refine g_iconst hC (v := 0) dX5_readClause_16 ic_0 ?_
    obtain ⟨r_32, x1_33, q_34, hf⟩ := bd2E hf
    refine g_callV_i (a := 1) hC (X' := ov X0 [1, 3, 4, 5, 13, 14] [x1_33, x3, x4, x5, x13, x14]) (Y' := ov Y0 [] []) (As := [.int 0]) (gMi_eq (c_X8_fail l hL (ov_map hN [0, 2] (by rfl) (by rfl)) (ov_map hM [] (by rfl) (by rfl)) q_34) (ov_ovE hN (by rfl) [0, 2] [1, 3, 4, 5] (by rfl) (by rfl) [x3, x5, x13, x14] (by rfl) (by rfl) (by rfl) 6 (by rfl) (by decide)) (ov_ovE hM (by rfl) [] [] (by rfl) (by rfl) [] (by rfl) (by rfl) (by rfl) 0 (by rfl) (by decide))) tw_643 tw_724 tw_117 tw_641 tw_642 (ci := 8) rfl (by decide) (kk_1 hL) (kn_1 hL) pd_X8_fail (by decide) (by decide) rfl rfl (Nat.le_of_ble_eq_true rfl) rfl dX5_readClause_17 ?_
    obtain ⟨h_35, hf⟩ := gdE hf
    obtain ⟨rfl, rfl, rfl, rfl⟩ := sm4E hf
    exact hret _ _ (bz_nar h_35) dX5_readClause_20

def fX5_readClause   (x3 : Nat → Int32) (x4 : Nat → Int32) (x5 : Nat → Int32)  (v1 : Int32) (x1 : Nat → Int32) (x13 : Nat → Int32) (x14 : Nat → Int32)  : Option (Int32 × (Nat → Int32) × (Nat → Int32) × (Nat → Int32)) := fX5_readClause_0 x3 x4 x5 v1 x1 x13 x14

set_option maxHeartbeats 4000000 in
set_option maxRecDepth 100000 in
theorem c_X5_readClause (l : Launch) {b0 : Nat} {D : GD} {n : Nat} {κ : QT} {X0 : XT} {Y0 : YT} {Z : ZT} (hL : LY n κ) {x1 : Nat → Int32} {x3 : Nat → Int32} {x4 : Nat → Int32} {x5 : Nat → Int32} {x13 : Nat → Int32} {x14 : Nat → Int32} (hx : ([1, 3, 4, 5, 13, 14] : List Nat).map X0 = [x1, x3, x4, x5, x13, x14]) (hy : ([] : List Nat).map Y0 = []) {v1 : Int32} {r : Int32} {rx1 : (Nat → Int32)} {rx13 : (Nat → Int32)} {rx14 : (Nat → Int32)} (hf : fX5_readClause x3 x4 x5 v1 x1 x13 x14 = some (r, rx1, rx13, rx14)) : gMi l yX5_readClause cX5_readClause 2 (some FieldType.boolean) 201 10024 0 0 b0 D [.ref (b0 + 13), .int v1] (n, κ, X0, Y0, Z) (n, κ, ov X0 [1, 3, 4, 5, 13, 14] [rx1, x3, x4, x5, rx13, rx14], ov Y0 [] [], Z) r := by
  have hN : ([1, 3, 4, 5, 13, 14] : List Nat).Nodup := by decide
  have hM : ([] : List Nat).Nodup := by decide
  refine g_meti (own := RX5) (by decide) rfl rfl (Nat.le_of_ble_eq_true rfl) ?_
  intro K hC hret
  have e := wX5_readClause_0 hL hN hM hC  hret hf
  rw [ov_id' hx, ov_id' hy] at e
  exact g_sub [0, 1] rfl e

-- X5_readText
def fX5_readText_19b   (x2 : Nat → Int32)  (k19 : Int32 → (Nat → Int32) → (Nat → Int32) → (Nat → Int32) → (Nat → Int32) → (Nat → Int32) → (Nat → Int32) → Option (Int32 × (Nat → Int32) × (Nat → Int32) × (Nat → Int32) × (Nat → Int32) × (Nat → Int32) × (Nat → Int32))) (v1 : Int32) (x1 : (Nat → Int32)) (x3 : (Nat → Int32)) (x4 : (Nat → Int32)) (x5 : (Nat → Int32)) (x13 : (Nat → Int32)) (x14 : (Nat → Int32)) : Option (Int32 × (Nat → Int32) × (Nat → Int32) × (Nat → Int32) × (Nat → Int32) × (Nat → Int32) × (Nat → Int32)) := if 12 < v1 then (bd2 (fX8_fail x4 4 x1) fun r_1 x1_2 => (gd (bz r_1) (some (r_1, x1_2, x3, x4, x5, x13, x14)))) else (bd4 (fX5_readClause x3 x4 x5 v1 x1 x13 x14) fun r_5 x1_6 x13_7 x14_8 => (if r_5 = 0 then (some (0, x1_6, x3, x4, x5, x13_7, x14_8)) else (bd1 (fX8_code x1_6 x3) fun r_10 => (if r_10 = 4 then (bd1 (fX8_skip x1_6) fun x1_12 => (bn (v1 + 1) fun t_14 => (k19 t_14 x1_12 x3 x4 x5 x13_7 x14_8))) else (bd2 (fX8_take x3 x4 0 x1_6) fun r_15 x1_16 => (gd (bz r_15) (some (r_15, x1_16, x3, x4, x5, x13_7, x14_8))))))))
def fX5_readText_19   (x2 : Nat → Int32)  : Int32 → (Nat → Int32) → (Nat → Int32) → (Nat → Int32) → (Nat → Int32) → (Nat → Int32) → (Nat → Int32) → Option (Int32 × (Nat → Int32) × (Nat → Int32) × (Nat → Int32) × (Nat → Int32) × (Nat → Int32) × (Nat → Int32)) := lq7 (fX5_readText_19b x2 ) 5000
set_option maxHeartbeats 4000000 in
set_option maxRecDepth 100000 in
theorem wX5_readText_19 {l : Launch} {b0 : Nat} {D : GD} {K : KT} {n : Nat} {κ : QT} {X0 : XT} {Y0 : YT} {Z : ZT} (hL : LY n κ) (hN : ([1, 2, 3, 4, 5, 13, 14] : List Nat).Nodup) (hM : ([] : List Nat).Nodup) (hC : gC l b0 D K RX5 cX5_readText (some FieldType.boolean) 2 202 10045 0 0) {x2 : Nat → Int32} {r : Int32} {rx1 : (Nat → Int32)} {rx3 : (Nat → Int32)} {rx4 : (Nat → Int32)} {rx5 : (Nat → Int32)} {rx13 : (Nat → Int32)} {rx14 : (Nat → Int32)} (hret : ∀ pc loc, narrow .boolean (.int r) = .int r → decode cX5_readText pc = .ok (.ireturn, 1) → gV l b0 D K (n, κ, ov X0 [1, 2, 3, 4, 5, 13, 14] [rx1, x2, rx3, rx4, rx5, rx13, rx14], ov Y0 [] [], Z, 0, 0) pc loc [.int r]) : ∀ (j : Nat) (v1 : Int32) (x1 : (Nat → Int32)) (x3 : (Nat → Int32)) (x4 : (Nat → Int32)) (x5 : (Nat → Int32)) (x13 : (Nat → Int32)) (x14 : (Nat → Int32)), lq7 (fX5_readText_19b x2 ) j v1 x1 x3 x4 x5 x13 x14 = some (r, rx1, rx3, rx4, rx5, rx13, rx14) → gV l b0 D K (n, κ, ov X0 [1, 2, 3, 4, 5, 13, 14] [x1, x2, x3, x4, x5, x13, x14], ov Y0 [] [], Z, 0, 0) 19 [(0, .ref (b0 + 13)), (1, .int v1)] [] := by
  intro j
  induction j with
  | zero => intro v1 x1 x3 x4 x5 x13 x14 hf; cases hf
  | succ j hk19 =>
    intro v1 x1 x3 x4 x5 x13 x14 hf
    replace hf : fX5_readText_19b x2  (lq7 (fX5_readText_19b x2 ) j) v1 x1 x3 x4 x5 x13 x14 = some (r, rx1, rx3, rx4, rx5, rx13, rx14) := hf
    unfold fX5_readText_19b at hf
    refine g_iload_n hC 1 dX5_readText_19 rfl rfl ?_
    refine g_bipush hC (v := 12) dX5_readText_20 bp_12 ?_
    refine g_icmp_gt hC 68 dX5_readText_22 (by decide) (fun hc => ?_) (fun hc => ?_)
    · replace hf := ifT hf hc
      refine g_aload_n hC 0 dX5_readText_68 rfl rfl ?_
      refine gt_X5_15 hC (a := 13) (kk_13 hL) (kn_13 hL) dX5_readText_69 ?_
      refine g_ref (b := 1) rfl ?_
      refine g_iconst hC (v := 4) dX5_readText_72 ic_4 ?_
      obtain ⟨r_1, x1_2, q_3, hf⟩ := bd2E hf
      refine g_callV_i (a := 1) hC (X' := ov X0 [1, 2, 3, 4, 5, 13, 14] [x1_2, x2, x3, x4, x5, x13, x14]) (Y' := ov Y0 [] []) (As := [.int 4]) (gMi_eq (c_X8_fail l hL (ov_map hN [0, 3] (by rfl) (by rfl)) (ov_map hM [] (by rfl) (by rfl)) q_3) (ov_ovE hN (by rfl) [0, 3] [1, 2, 4, 5, 6] (by rfl) (by rfl) [x2, x3, x5, x13, x14] (by rfl) (by rfl) (by rfl) 7 (by rfl) (by decide)) (ov_ovE hM (by rfl) [] [] (by rfl) (by rfl) [] (by rfl) (by rfl) (by rfl) 0 (by rfl) (by decide))) tw_643 tw_724 tw_117 tw_641 tw_642 (ci := 8) rfl (by decide) (kk_1 hL) (kn_1 hL) pd_X8_fail (by decide) (by decide) rfl rfl (Nat.le_of_ble_eq_true rfl) rfl dX5_readText_73 ?_
      obtain ⟨h_4, hf⟩ := gdE hf
      obtain ⟨rfl, rfl, rfl, rfl, rfl, rfl, rfl⟩ := sm7E hf
      exact hret _ _ (bz_nar h_4) dX5_readText_76
    · replace hf := ifF hf hc
      refine g_aload_n hC 0 dX5_readText_25 rfl rfl ?_
      refine g_iload_n hC 1 dX5_readText_26 rfl rfl ?_
      obtain ⟨r_5, x1_6, x13_7, x14_8, q_9, hf⟩ := bd4E hf
      refine g_callV_i (a := 13) hC (X' := ov X0 [1, 2, 3, 4, 5, 13, 14] [x1_6, x2, x3, x4, x5, x13_7, x14_8]) (Y' := ov Y0 [] []) (As := [.int v1]) (gMi_eq (c_X5_readClause l hL (ov_map hN [0, 2, 3, 4, 5, 6] (by rfl) (by rfl)) (ov_map hM [] (by rfl) (by rfl)) q_9) (ov_ovE hN (by rfl) [0, 2, 3, 4, 5, 6] [1] (by rfl) (by rfl) [x2] (by rfl) (by rfl) (by rfl) 7 (by rfl) (by decide)) (ov_ovE hM (by rfl) [] [] (by rfl) (by rfl) [] (by rfl) (by rfl) (by rfl) 0 (by rfl) (by decide))) tw_722 tw_719 tw_121 tw_721 tw_15 (ci := 5) rfl (by decide) (kk_13 hL) (kn_13 hL) pd_X5_readClause (by decide) (by decide) rfl rfl (Nat.le_of_ble_eq_true rfl) rfl dX5_readText_27 ?_
      refine g_if_ne hC 35 dX5_readText_30 (by decide) (fun hc => ?_) (fun hc => ?_)
      · replace hf := ifF hf hc
        refine g_aload_n hC 0 dX5_readText_35 rfl rfl ?_
        refine gt_X5_15 hC (a := 13) (kk_13 hL) (kn_13 hL) dX5_readText_36 ?_
        refine g_ref (b := 1) rfl ?_
        obtain ⟨r_10, q_11, hf⟩ := bd1E hf
        refine g_callV_i (a := 1) hC (X' := ov X0 [1, 2, 3, 4, 5, 13, 14] [x1_6, x2, x3, x4, x5, x13_7, x14_8]) (Y' := ov Y0 [] []) (As := []) (gMi_eq (c_X8_code l hL (ov_map hN [0, 2] (by rfl) (by rfl)) (ov_map hM [] (by rfl) (by rfl)) q_11) (ov_ovE hN (by rfl) [0, 2] [1, 3, 4, 5, 6] (by rfl) (by rfl) [x2, x4, x5, x13_7, x14_8] (by rfl) (by rfl) (by rfl) 7 (by rfl) (by decide)) (ov_ovE hM (by rfl) [] [] (by rfl) (by rfl) [] (by rfl) (by rfl) (by rfl) 0 (by rfl) (by decide))) tw_639 tw_723 tw_117 tw_637 tw_638 (ci := 8) rfl (by decide) (kk_1 hL) (kn_1 hL) pd_X8_code (by decide) (by decide) rfl rfl (Nat.le_of_ble_eq_true rfl) rfl dX5_readText_39 ?_
        refine g_iconst hC (v := 4) dX5_readText_42 ic_4 ?_
        refine g_icmp_eq hC 55 dX5_readText_43 (by decide) (fun hc => ?_) (fun hc => ?_)
        · replace hf := ifT hf hc
          refine g_aload_n hC 0 dX5_readText_55 rfl rfl ?_
          refine gt_X5_15 hC (a := 13) (kk_13 hL) (kn_13 hL) dX5_readText_56 ?_
          refine g_ref (b := 1) rfl ?_
          obtain ⟨x1_12, q_13, hf⟩ := bd1E hf
          refine g_callV_v (a := 1) hC (X' := ov X0 [1, 2, 3, 4, 5, 13, 14] [x1_12, x2, x3, x4, x5, x13_7, x14_8]) (Y' := ov Y0 [] []) (As := []) (gMv_eq (c_X8_skip l hL (ov_map hN [0] (by rfl) (by rfl)) (ov_map hM [] (by rfl) (by rfl)) q_13) (ov_ovE hN (by rfl) [0] [1, 2, 3, 4, 5, 6] (by rfl) (by rfl) [x2, x3, x4, x5, x13_7, x14_8] (by rfl) (by rfl) (by rfl) 7 (by rfl) (by decide)) (ov_ovE hM (by rfl) [] [] (by rfl) (by rfl) [] (by rfl) (by rfl) (by rfl) 0 (by rfl) (by decide))) tw_651 tw_725 tw_117 tw_649 tw_650 (ci := 8) rfl (by decide) (kk_1 hL) (kn_1 hL) pd_X8_skip (by decide) (by decide) rfl rfl (Nat.le_of_ble_eq_true rfl) rfl dX5_readText_59 ?_
          obtain ⟨t_14, et_14, hf⟩ := bnE hf
          refine g_iinc hC (i := 1) (v := t_14) [(1, .int t_14), (0, .ref (b0 + 13))] dX5_readText_62 (q := 1) rfl ((congrArg (HAdd.hAdd v1) ic_1).trans et_14.symm) (by decide) rfl ?_
          refine g_goto hC 19 dX5_readText_65 (by decide) ?_
          exact g_sub [1, 0] rfl (hk19 t_14 x1_12 x3 x4 x5 x13_7 x14_8 hf)
        · replace hf := ifF hf hc
          refine g_aload_n hC 0 dX5_readText_46 rfl rfl ?_
          refine gt_X5_15 hC (a := 13) (kk_13 hL) (kn_13 hL) dX5_readText_47 ?_
          refine g_ref (b := 1) rfl ?_
          refine g_iconst hC (v := 0) dX5_readText_50 ic_0 ?_
          obtain ⟨r_15, x1_16, q_17, hf⟩ := bd2E hf
          refine g_callV_i (a := 1) hC (X' := ov X0 [1, 2, 3, 4, 5, 13, 14] [x1_16, x2, x3, x4, x5, x13_7, x14_8]) (Y' := ov Y0 [] []) (As := [.int 0]) (gMi_eq (c_X8_take l hL (ov_map hN [0, 2, 3] (by rfl) (by rfl)) (ov_map hM [] (by rfl) (by rfl)) q_17) (ov_ovE hN (by rfl) [0, 2, 3] [1, 4, 5, 6] (by rfl) (by rfl) [x2, x5, x13_7, x14_8] (by rfl) (by rfl) (by rfl) 7 (by rfl) (by decide)) (ov_ovE hM (by rfl) [] [] (by rfl) (by rfl) [] (by rfl) (by rfl) (by rfl) 0 (by rfl) (by decide))) tw_690 tw_748 tw_117 tw_688 tw_689 (ci := 8) rfl (by decide) (kk_1 hL) (kn_1 hL) pd_X8_take (by decide) (by decide) rfl rfl (Nat.le_of_ble_eq_true rfl) rfl dX5_readText_51 ?_
          obtain ⟨h_18, hf⟩ := gdE hf
          obtain ⟨rfl, rfl, rfl, rfl, rfl, rfl, rfl⟩ := sm7E hf
          exact hret _ _ (bz_nar h_18) dX5_readText_54
      · replace hf := ifT hf hc
        refine g_iconst hC (v := 0) dX5_readText_33 ic_0 ?_
        obtain ⟨rfl, rfl, rfl, rfl, rfl, rfl, rfl⟩ := sm7E hf
        exact hret _ _ rfl dX5_readText_34

def fX5_readText_0   (x2 : Nat → Int32)  (x1 : (Nat → Int32)) (x3 : (Nat → Int32)) (x4 : (Nat → Int32)) (x5 : (Nat → Int32)) (x13 : (Nat → Int32)) (x14 : (Nat → Int32)) : Option (Int32 × (Nat → Int32) × (Nat → Int32) × (Nat → Int32) × (Nat → Int32) × (Nat → Int32) × (Nat → Int32)) := bd4 (fX8_scan x2 x1 x3 x4 x5) fun x1_1 x3_2 x4_3 x5_4 => (fX5_readText_19 x2  0 x1_1 x3_2 x4_3 x5_4 (upd (upd x13 2 0) 3 0) x14)
set_option maxHeartbeats 4000000 in
set_option maxRecDepth 100000 in
theorem wX5_readText_0 {l : Launch} {b0 : Nat} {D : GD} {K : KT} {n : Nat} {κ : QT} {X0 : XT} {Y0 : YT} {Z : ZT} (hL : LY n κ) (hN : ([1, 2, 3, 4, 5, 13, 14] : List Nat).Nodup) (hM : ([] : List Nat).Nodup) (hC : gC l b0 D K RX5 cX5_readText (some FieldType.boolean) 2 202 10045 0 0) {x2 : Nat → Int32} {r : Int32} {rx1 : (Nat → Int32)} {rx3 : (Nat → Int32)} {rx4 : (Nat → Int32)} {rx5 : (Nat → Int32)} {rx13 : (Nat → Int32)} {rx14 : (Nat → Int32)} (hret : ∀ pc loc, narrow .boolean (.int r) = .int r → decode cX5_readText pc = .ok (.ireturn, 1) → gV l b0 D K (n, κ, ov X0 [1, 2, 3, 4, 5, 13, 14] [rx1, x2, rx3, rx4, rx5, rx13, rx14], ov Y0 [] [], Z, 0, 0) pc loc [.int r]) {x1 : (Nat → Int32)} {x3 : (Nat → Int32)} {x4 : (Nat → Int32)} {x5 : (Nat → Int32)} {x13 : (Nat → Int32)} {x14 : (Nat → Int32)} (hf : fX5_readText_0 x2  x1 x3 x4 x5 x13 x14 = some (r, rx1, rx3, rx4, rx5, rx13, rx14)) : gV l b0 D K (n, κ, ov X0 [1, 2, 3, 4, 5, 13, 14] [x1, x2, x3, x4, x5, x13, x14], ov Y0 [] [], Z, 0, 0) 0 [(0, .ref (b0 + 13))] [] := by
  unfold fX5_readText_0 at hf
  refine g_aload_n hC 0 dX5_readText_0 rfl rfl ?_
  refine g_iconst hC (v := 0) dX5_readText_1 ic_0 ?_
  refine pt_X5_19 hC (x := x13) (kk_13 hL) (kn_13 hL) (ov_get hN 5 rfl rfl) (ov_set hN (by rfl) 5 (by rfl)) dX5_readText_2 ?_
  show gV l b0 D K (n, κ, ov X0 [1, 2, 3, 4, 5, 13, 14] [x1, x2, x3, x4, x5, (upd x13 2 0), x14], ov Y0 [] [], Z, 0, 0) 5 [(0, .ref (b0 + 13))] []
  refine g_aload_n hC 0 dX5_readText_5 rfl rfl ?_
  refine g_iconst hC (v := 0) dX5_readText_6 ic_0 ?_
  refine pt_X5_23 hC (x := (upd x13 2 0)) (kk_13 hL) (kn_13 hL) (ov_get hN 5 rfl rfl) (ov_set hN (by rfl) 5 (by rfl)) dX5_readText_7 ?_
  show gV l b0 D K (n, κ, ov X0 [1, 2, 3, 4, 5, 13, 14] [x1, x2, x3, x4, x5, (upd (upd x13 2 0) 3 0), x14], ov Y0 [] [], Z, 0, 0) 10 [(0, .ref (b0 + 13))] []
  refine g_aload_n hC 0 dX5_readText_10 rfl rfl ?_
  refine gt_X5_15 hC (a := 13) (kk_13 hL) (kn_13 hL) dX5_readText_11 ?_
  refine g_ref (b := 1) rfl ?_
  obtain ⟨x1_1, x3_2, x4_3, x5_4, q_5, hf⟩ := bd4E hf
  refine g_callV_v (a := 1) hC (X' := ov X0 [1, 2, 3, 4, 5, 13, 14] [x1_1, x2, x3_2, x4_3, x5_4, (upd (upd x13 2 0) 3 0), x14]) (Y' := ov Y0 [] []) (As := []) (gMv_eq (c_X8_scan l hL (ov_map hN [0, 1, 2, 3, 4] (by rfl) (by rfl)) (ov_map hM [] (by rfl) (by rfl)) q_5) (ov_ovE hN (by rfl) [0, 1, 2, 3, 4] [5, 6] (by rfl) (by rfl) [(upd (upd x13 2 0) 3 0), x14] (by rfl) (by rfl) (by rfl) 7 (by rfl) (by decide)) (ov_ovE hM (by rfl) [] [] (by rfl) (by rfl) [] (by rfl) (by rfl) (by rfl) 0 (by rfl) (by decide))) tw_532 tw_718 tw_117 tw_530 tw_531 (ci := 8) rfl (by decide) (kk_1 hL) (kn_1 hL) pd_X8_scan (by decide) (by decide) rfl rfl (Nat.le_of_ble_eq_true rfl) rfl dX5_readText_14 ?_
  refine g_iconst hC (v := 0) dX5_readText_17 ic_0 ?_
  refine g_istore_n hC (i := 1) [(1, .int 0), (0, .ref (b0 + 13))] rfl dX5_readText_18 (by decide) rfl ?_
  exact g_sub [1, 0] rfl (wX5_readText_19 hL hN hM hC  hret  5000 0 x1_1 x3_2 x4_3 x5_4 (upd (upd x13 2 0) 3 0) x14 hf)

def fX5_readText   (x2 : Nat → Int32)   (x1 : Nat → Int32) (x3 : Nat → Int32) (x4 : Nat → Int32) (x5 : Nat → Int32) (x13 : Nat → Int32) (x14 : Nat → Int32)  : Option (Int32 × (Nat → Int32) × (Nat → Int32) × (Nat → Int32) × (Nat → Int32) × (Nat → Int32) × (Nat → Int32)) := fX5_readText_0 x2 x1 x3 x4 x5 x13 x14

set_option maxHeartbeats 4000000 in
set_option maxRecDepth 100000 in
theorem c_X5_readText (l : Launch) {b0 : Nat} {D : GD} {n : Nat} {κ : QT} {X0 : XT} {Y0 : YT} {Z : ZT} (hL : LY n κ) {x1 : Nat → Int32} {x2 : Nat → Int32} {x3 : Nat → Int32} {x4 : Nat → Int32} {x5 : Nat → Int32} {x13 : Nat → Int32} {x14 : Nat → Int32} (hx : ([1, 2, 3, 4, 5, 13, 14] : List Nat).map X0 = [x1, x2, x3, x4, x5, x13, x14]) (hy : ([] : List Nat).map Y0 = []) {r : Int32} {rx1 : (Nat → Int32)} {rx3 : (Nat → Int32)} {rx4 : (Nat → Int32)} {rx5 : (Nat → Int32)} {rx13 : (Nat → Int32)} {rx14 : (Nat → Int32)} (hf : fX5_readText x2 x1 x3 x4 x5 x13 x14 = some (r, rx1, rx3, rx4, rx5, rx13, rx14)) : gMi l yX5_readText cX5_readText 2 (some FieldType.boolean) 202 10045 0 0 b0 D [.ref (b0 + 13)] (n, κ, X0, Y0, Z) (n, κ, ov X0 [1, 2, 3, 4, 5, 13, 14] [rx1, x2, rx3, rx4, rx5, rx13, rx14], ov Y0 [] [], Z) r := by
  have hN : ([1, 2, 3, 4, 5, 13, 14] : List Nat).Nodup := by decide
  have hM : ([] : List Nat).Nodup := by decide
  refine g_meti (own := RX5) (by decide) rfl rfl (Nat.le_of_ble_eq_true rfl) ?_
  intro K hC hret
  have e := wX5_readText_0 hL hN hM hC  hret hf
  rw [ov_id' hx, ov_id' hy] at e
  exact g_sub [0] rfl e


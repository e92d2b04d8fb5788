-- X12_image
def fX12_image_0     (v1 : Int32) (x74 : (Nat → Int32)) (x75 : (Nat → Int32)) (x76 : (Nat → Int32)) (x77 : (Nat → Int32)) (x78 : (Nat → Int32)) (x79 : (Nat → Int32)) (x80 : (Nat → Int32)) (x81 : (Nat → Int32)) (x82 : (Nat → Int32)) (x83 : (Nat → Int32)) (x84 : (Nat → Int32)) (x85 : (Nat → Int32)) (x102 : (Nat → Int32)) (x103 : (Nat → Int32)) (x112 : (Nat → Int32)) (x113 : (Nat → Int32)) : Option (Int32 × (Nat → Int32) × (Nat → Int32) × (Nat → Int32) × (Nat → Int32) × (Nat → Int32) × (Nat → Int32) × (Nat → Int32) × (Nat → Int32) × (Nat → Int32) × (Nat → Int32) × (Nat → Int32) × (Nat → Int32) × (Nat → Int32) × (Nat → Int32) × (Nat → Int32) × (Nat → Int32)) := bd1 (fX12_in v1.toInt64 0 3) fun r_1 => (if r_1 = 0 then (some ((-1), x74, x75, x76, x77, x78, x79, x80, x81, x82, x83, x84, x85, x102, x103, x112, x113)) else (gd (inb v1 4) (bd15 (fX12_carriesAll v1 0 x74 x75 x76 x77 x78 x79 x80 x81 x82 x83 x84 x85 x102 x103 x112) fun x74_4 x75_5 x76_6 x77_7 x78_8 x79_9 x80_10 x81_11 x82_12 x83_13 x84_14 x85_15 x102_16 x103_17 x112_18 => (gd (inb 5 11) (some (x75_5 (5 : Int32).toNatClampNeg, x74_4, x75_5, x76_6, x77_7, x78_8, x79_9, x80_10, x81_11, x82_12, x83_13, x84_14, x85_15, x102_16, x103_17, x112_18, (upd x113 v1.toNatClampNeg (vp_nar .boolean 1))))))))
set_option maxHeartbeats 4000000 in
set_option maxRecDepth 100000 in
theorem wX12_image_0 {l : Launch} {b0 : Nat} {D : GD} {K : KT} {n : Nat} {κ : QT} {X0 : XT} {Y0 : YT} {Z : ZT} (hL : LY n κ) (hN : ([74, 75, 76, 77, 78, 79, 80, 81, 82, 83, 84, 85, 102, 103, 112, 113] : List Nat).Nodup) (hM : ([] : List Nat).Nodup) (hC : gC l b0 D K RX12 cX12_image (some FieldType.int) 2 2 44 0 0) {r : Int32} {rx74 : (Nat → Int32)} {rx75 : (Nat → Int32)} {rx76 : (Nat → Int32)} {rx77 : (Nat → Int32)} {rx78 : (Nat → Int32)} {rx79 : (Nat → Int32)} {rx80 : (Nat → Int32)} {rx81 : (Nat → Int32)} {rx82 : (Nat → Int32)} {rx83 : (Nat → Int32)} {rx84 : (Nat → Int32)} {rx85 : (Nat → Int32)} {rx102 : (Nat → Int32)} {rx103 : (Nat → Int32)} {rx112 : (Nat → Int32)} {rx113 : (Nat → Int32)} (hret : ∀ pc loc, narrow .int (.int r) = .int r → decode cX12_image pc = .ok (.ireturn, 1) → gV l b0 D K (n, κ, ov X0 [74, 75, 76, 77, 78, 79, 80, 81, 82, 83, 84, 85, 102, 103, 112, 113] [rx74, rx75, rx76, rx77, rx78, rx79, rx80, rx81, rx82, rx83, rx84, rx85, rx102, rx103, rx112, rx113], ov Y0 [] [], Z, 0, 0) pc loc [.int r]) {v1 : Int32} {x74 : (Nat → Int32)} {x75 : (Nat → Int32)} {x76 : (Nat → Int32)} {x77 : (Nat → Int32)} {x78 : (Nat → Int32)} {x79 : (Nat → Int32)} {x80 : (Nat → Int32)} {x81 : (Nat → Int32)} {x82 : (Nat → Int32)} {x83 : (Nat → Int32)} {x84 : (Nat → Int32)} {x85 : (Nat → Int32)} {x102 : (Nat → Int32)} {x103 : (Nat → Int32)} {x112 : (Nat → Int32)} {x113 : (Nat → Int32)} (hf : fX12_image_0   v1 x74 x75 x76 x77 x78 x79 x80 x81 x82 x83 x84 x85 x102 x103 x112 x113 = some (r, rx74, rx75, rx76, rx77, rx78, rx79, rx80, rx81, rx82, rx83, rx84, rx85, rx102, rx103, rx112, rx113)) : gV l b0 D K (n, κ, ov X0 [74, 75, 76, 77, 78, 79, 80, 81, 82, 83, 84, 85, 102, 103, 112, 113] [x74, x75, x76, x77, x78, x79, x80, x81, x82, x83, x84, x85, x102, x103, x112, x113], ov Y0 [] [], Z, 0, 0) 0 [(0, .ref (b0 + 74)), (1, .int v1)] [] := by
  unfold fX12_image_0 at hf
  refine g_iload_n hC 1 dX12_image_0 rfl rfl ?_
  refine g_i2l hC dX12_image_1 ?_
  refine g_lconst hC (v := 0) dX12_image_2 rfl ?_
  refine g_ldc2_w hC (v := 3) tw_1737 dX12_image_3 ?_
  obtain ⟨r_1, q_2, hf⟩ := bd1E hf
  refine g_callS_i hC (X' := ov X0 [74, 75, 76, 77, 78, 79, 80, 81, 82, 83, 84, 85, 102, 103, 112, 113] [x74, x75, x76, x77, x78, x79, x80, x81, x82, x83, x84, x85, x102, x103, x112, x113]) (Y' := ov Y0 [] []) (As := [.long v1.toInt64, .long 0, .long 3]) (gMi_eq (c_X12_in l hL (ov_map hN [] (by rfl) (by rfl)) (ov_map hM [] (by rfl) (by rfl)) q_2) (ov_ovE hN (by rfl) [] [0, 1, 2, 3, 4, 5, 6, 7, 8, 9, 10, 11, 12, 13, 14, 15] (by rfl) (by rfl) [x74, x75, x76, x77, x78, x79, x80, x81, x82, x83, x84, x85, x102, x103, x112, x113] (by rfl) (by rfl) (by rfl) 16 (by rfl) (by decide)) (ov_ovE hM (by rfl) [] [] (by rfl) (by rfl) [] (by rfl) (by rfl) (by rfl) 0 (by rfl) (by decide))) tw_1428 tw_1426 tw_127 tw_1427 pd_X12_in (by decide) (by decide) rfl rfl (Nat.le_of_ble_eq_true rfl) rfl dX12_image_6 ?_
  refine g_if_ne hC 14 dX12_image_9 (by decide) (fun hc => ?_) (fun hc => ?_)
  · replace hf := ifF hf hc
    refine g_aload_n hC 0 dX12_image_14 rfl rfl ?_
    refine gt_X12_136 hC (a := 74) (kk_74 hL) (kn_74 hL) dX12_image_15 ?_
    refine g_ref (b := 113) rfl ?_
    refine g_iload_n hC 1 dX12_image_18 rfl rfl ?_
    refine g_iconst hC (v := 1) dX12_image_19 ic_1 ?_
    obtain ⟨h_3, hf⟩ := gdE hf
    refine g_zast hC (x := x113) (kk_113 hL) (kn_113 hL) (ov_get hN 15 rfl rfl) (inb_in h_3) (ov_set hN (by rfl) 15 (by rfl)) dX12_image_20 ?_
    show gV l b0 D K (n, κ, ov X0 [74, 75, 76, 77, 78, 79, 80, 81, 82, 83, 84, 85, 102, 103, 112, 113] [x74, x75, x76, x77, x78, x79, x80, x81, x82, x83, x84, x85, x102, x103, x112, (upd x113 v1.toNatClampNeg (vp_nar .boolean 1))], ov Y0 [] [], Z, 0, 0) 21 [(0, .ref (b0 + 74)), (1, .int v1)] []
    refine g_aload_n hC 0 dX12_image_21 rfl rfl ?_
    refine g_iload_n hC 1 dX12_image_22 rfl rfl ?_
    refine g_iconst hC (v := 0) dX12_image_23 ic_0 ?_
    obtain ⟨x74_4, x75_5, x76_6, x77_7, x78_8, x79_9, x80_10, x81_11, x82_12, x83_13, x84_14, x85_15, x102_16, x103_17, x112_18, q_19, hf⟩ := bd15E hf
    refine g_callV_v (a := 74) hC (X' := ov X0 [74, 75, 76, 77, 78, 79, 80, 81, 82, 83, 84, 85, 102, 103, 112, 113] [x74_4, x75_5, x76_6, x77_7, x78_8, x79_9, x80_10, x81_11, x82_12, x83_13, x84_14, x85_15, x102_16, x103_17, x112_18, (upd x113 v1.toNatClampNeg (vp_nar .boolean 1))]) (Y' := ov Y0 [] []) (As := [.int v1, .int 0]) (gMv_eq (c_X12_carriesAll l hL (ov_map hN [0, 1, 2, 3, 4, 5, 6, 7, 8, 9, 10, 11, 12, 13, 14] (by rfl) (by rfl)) (ov_map hM [] (by rfl) (by rfl)) q_19) (ov_ovE hN (by rfl) [0, 1, 2, 3, 4, 5, 6, 7, 8, 9, 10, 11, 12, 13, 14] [15] (by rfl) (by rfl) [(upd x113 v1.toNatClampNeg (vp_nar .boolean 1))] (by rfl) (by rfl) (by rfl) 16 (by rfl) (by decide)) (ov_ovE hM (by rfl) [] [] (by rfl) (by rfl) [] (by rfl) (by rfl) (by rfl) 0 (by rfl) (by decide))) tw_1677 tw_1674 tw_127 tw_1676 tw_98 (ci := 12) rfl (by decide) (kk_74 hL) (kn_74 hL) pd_X12_carriesAll (by decide) (by decide) rfl rfl (Nat.le_of_ble_eq_true rfl) rfl dX12_image_24 ?_
    refine g_aload_n hC 0 dX12_image_27 rfl rfl ?_
    refine gt_X12_9 hC (a := 74) (kk_74 hL) (kn_74 hL) dX12_image_28 ?_
    refine g_ref (b := 75) rfl ?_
    refine g_iconst hC (v := 5) dX12_image_31 ic_5 ?_
    obtain ⟨h_20, hf⟩ := gdE hf
    refine g_iald hC (x := x75_5) (kk_75 hL) (kn_75 hL) (ov_get hN 1 rfl rfl) (inb_in h_20) dX12_image_32 ?_
    obtain ⟨rfl, rfl, rfl, rfl, rfl, rfl, rfl, rfl, rfl, rfl, rfl, rfl, rfl, rfl, rfl, rfl, rfl⟩ := sm17E hf
    exact hret _ _ rfl dX12_image_33
  · replace hf := ifT hf hc
    refine g_iconst hC (v := (-1)) dX12_image_12 ic_m1 ?_
    obtain ⟨rfl, rfl, rfl, rfl, rfl, rfl, rfl, rfl, rfl, rfl, rfl, rfl, rfl, rfl, rfl, rfl, rfl⟩ := sm17E hf
    exact hret _ _ rfl dX12_image_13

def fX12_image     (v1 : Int32) (x74 : Nat → Int32) (x75 : Nat → Int32) (x76 : Nat → Int32) (x77 : Nat → Int32) (x78 : Nat → Int32) (x79 : Nat → Int32) (x80 : Nat → Int32) (x81 : Nat → Int32) (x82 : Nat → Int32) (x83 : Nat → Int32) (x84 : Nat → Int32) (x85 : Nat → Int32) (x102 : Nat → Int32) (x103 : Nat → Int32) (x112 : Nat → Int32) (x113 : Nat → Int32)  : Option (Int32 × (Nat → Int32) × (Nat → Int32) × (Nat → Int32) × (Nat → Int32) × (Nat → Int32) × (Nat → Int32) × (Nat → Int32) × (Nat → Int32) × (Nat → Int32) × (Nat → Int32) × (Nat → Int32) × (Nat → Int32) × (Nat → Int32) × (Nat → Int32) × (Nat → Int32) × (Nat → Int32)) := fX12_image_0  v1 x74 x75 x76 x77 x78 x79 x80 x81 x82 x83 x84 x85 x102 x103 x112 x113

set_option maxHeartbeats 4000000 in
set_option maxRecDepth 100000 in
theorem c_X12_image (l : Launch) {b0 : Nat} {D : GD} {n : Nat} {κ : QT} {X0 : XT} {Y0 : YT} {Z : ZT} (hL : LY n κ) {x74 : Nat → Int32} {x75 : Nat → Int32} {x76 : Nat → Int32} {x77 : Nat → Int32} {x78 : Nat → Int32} {x79 : Nat → Int32} {x80 : Nat → Int32} {x81 : Nat → Int32} {x82 : Nat → Int32} {x83 : Nat → Int32} {x84 : Nat → Int32} {x85 : Nat → Int32} {x102 : Nat → Int32} {x103 : Nat → Int32} {x112 : Nat → Int32} {x113 : Nat → Int32} (hx : ([74, 75, 76, 77, 78, 79, 80, 81, 82, 83, 84, 85, 102, 103, 112, 113] : List Nat).map X0 = [x74, x75, x76, x77, x78, x79, x80, x81, x82, x83, x84, x85, x102, x103, x112, x113]) (hy : ([] : List Nat).map Y0 = []) {v1 : Int32} {r : Int32} {rx74 : (Nat → Int32)} {rx75 : (Nat → Int32)} {rx76 : (Nat → Int32)} {rx77 : (Nat → Int32)} {rx78 : (Nat → Int32)} {rx79 : (Nat → Int32)} {rx80 : (Nat → Int32)} {rx81 : (Nat → Int32)} {rx82 : (Nat → Int32)} {rx83 : (Nat → Int32)} {rx84 : (Nat → Int32)} {rx85 : (Nat → Int32)} {rx102 : (Nat → Int32)} {rx103 : (Nat → Int32)} {rx112 : (Nat → Int32)} {rx113 : (Nat → Int32)} (hf : fX12_image  v1 x74 x75 x76 x77 x78 x79 x80 x81 x82 x83 x84 x85 x102 x103 x112 x113 = some (r, rx74, rx75, rx76, rx77, rx78, rx79, rx80, rx81, rx82, rx83, rx84, rx85, rx102, rx103, rx112, rx113)) : gMi l yX12_image cX12_image 2 (some FieldType.int) 2 44 0 0 b0 D [.ref (b0 + 74), .int v1] (n, κ, X0, Y0, Z) (n, κ, ov X0 [74, 75, 76, 77, 78, 79, 80, 81, 82, 83, 84, 85, 102, 103, 112, 113] [rx74, rx75, rx76, rx77, rx78, rx79, rx80, rx81, rx82, rx83, rx84, rx85, rx102, rx103, rx112, rx113], ov Y0 [] [], Z) r := by
  have hN : ([74, 75, 76, 77, 78, 79, 80, 81, 82, 83, 84, 85, 102, 103, 112, 113] : List Nat).Nodup := by decide
  have hM : ([] : List Nat).Nodup := by decide
  refine g_meti (own := RX12) (by decide) rfl rfl (Nat.le_of_ble_eq_true rfl) ?_
  intro K hC hret
  have e := wX12_image_0 hL hN hM hC  hret hf
  rw [ov_id' hx, ov_id' hy] at e
  exact g_sub [0, 1] rfl e

-- X12_back
def fX12_back_0   (x113 : Nat → Int32)  (v1 : Int32) (x74 : (Nat → Int32)) (x75 : (Nat → Int32)) (x76 : (Nat → Int32)) (x77 : (Nat → Int32)) (x78 : (Nat → Int32)) (x79 : (Nat → Int32)) (x80 : (Nat → Int32)) (x81 : (Nat → Int32)) (x82 : (Nat → Int32)) (x83 : (Nat → Int32)) (x84 : (Nat → Int32)) (x85 : (Nat → Int32)) (x102 : (Nat → Int32)) (x103 : (Nat → Int32)) (x112 : (Nat → Int32)) : Option (Int32 × (Nat → Int32) × (Nat → Int32) × (Nat → Int32) × (Nat → Int32) × (Nat → Int32) × (Nat → Int32) × (Nat → Int32) × (Nat → Int32) × (Nat → Int32) × (Nat → Int32) × (Nat → Int32) × (Nat → Int32) × (Nat → Int32) × (Nat → Int32) × (Nat → Int32)) := bd1 (fX12_in v1.toInt64 0 3) fun r_1 => (if r_1 = 0 then (some ((-1), x74, x75, x76, x77, x78, x79, x80, x81, x82, x83, x84, x85, x102, x103, x112)) else (gd (inb v1 4) (if (x113 v1.toNatClampNeg) = 0 then (some ((-1), x74, x75, x76, x77, x78, x79, x80, x81, x82, x83, x84, x85, x102, x103, x112)) else (bd15 (fX12_carriesAll v1 1 x74 x75 x76 x77 x78 x79 x80 x81 x82 x83 x84 x85 x102 x103 x112) fun x74_4 x75_5 x76_6 x77_7 x78_8 x79_9 x80_10 x81_11 x82_12 x83_13 x84_14 x85_15 x102_16 x103_17 x112_18 => (gd (inb 5 11) (some (x75_5 (5 : Int32).toNatClampNeg, x74_4, x75_5, x76_6, x77_7, x78_8, x79_9, x80_10, x81_11, x82_12, x83_13, x84_14, x85_15, x102_16, x103_17, x112_18)))))))
set_option maxHeartbeats 4000000 in
set_option maxRecDepth 100000 in
theorem wX12_back_0 {l : Launch} {b0 : Nat} {D : GD} {K : KT} {n : Nat} {κ : QT} {X0 : XT} {Y0 : YT} {Z : ZT} (hL : LY n κ) (hN : ([74, 75, 76, 77, 78, 79, 80, 81, 82, 83, 84, 85, 102, 103, 112, 113] : List Nat).Nodup) (hM : ([] : List Nat).Nodup) (hC : gC l b0 D K RX12 cX12_back (some FieldType.int) 2 2 44 0 0) {x113 : Nat → Int32} {r : Int32} {rx74 : (Nat → Int32)} {rx75 : (Nat → Int32)} {rx76 : (Nat → Int32)} {rx77 : (Nat → Int32)} {rx78 : (Nat → Int32)} {rx79 : (Nat → Int32)} {rx80 : (Nat → Int32)} {rx81 : (Nat → Int32)} {rx82 : (Nat → Int32)} {rx83 : (Nat → Int32)} {rx84 : (Nat → Int32)} {rx85 : (Nat → Int32)} {rx102 : (Nat → Int32)} {rx103 : (Nat → Int32)} {rx112 : (Nat → Int32)} (hret : ∀ pc loc, narrow .int (.int r) = .int r → decode cX12_back pc = .ok (.ireturn, 1) → gV l b0 D K (n, κ, ov X0 [74, 75, 76, 77, 78, 79, 80, 81, 82, 83, 84, 85, 102, 103, 112, 113] [rx74, rx75, rx76, rx77, rx78, rx79, rx80, rx81, rx82, rx83, rx84, rx85, rx102, rx103, rx112, x113], ov Y0 [] [], Z, 0, 0) pc loc [.int r]) {v1 : Int32} {x74 : (Nat → Int32)} {x75 : (Nat → Int32)} {x76 : (Nat → Int32)} {x77 : (Nat → Int32)} {x78 : (Nat → Int32)} {x79 : (Nat → Int32)} {x80 : (Nat → Int32)} {x81 : (Nat → Int32)} {x82 : (Nat → Int32)} {x83 : (Nat → Int32)} {x84 : (Nat → Int32)} {x85 : (Nat → Int32)} {x102 : (Nat → Int32)} {x103 : (Nat → Int32)} {x112 : (Nat → Int32)} (hf : fX12_back_0 x113  v1 x74 x75 x76 x77 x78 x79 x80 x81 x82 x83 x84 x85 x102 x103 x112 = some (r, rx74, rx75, rx76, rx77, rx78, rx79, rx80, rx81, rx82, rx83, rx84, rx85, rx102, rx103, rx112)) : gV l b0 D K (n, κ, ov X0 [74, 75, 76, 77, 78, 79, 80, 81, 82, 83, 84, 85, 102, 103, 112, 113] [x74, x75, x76, x77, x78, x79, x80, x81, x82, x83, x84, x85, x102, x103, x112, x113], ov Y0 [] [], Z, 0, 0) 0 [(0, .ref (b0 + 74)), (1, .int v1)] [] := by
  unfold fX12_back_0 at hf
  refine g_iload_n hC 1 dX12_back_0 rfl rfl ?_
  refine g_i2l hC dX12_back_1 ?_
  refine g_lconst hC (v := 0) dX12_back_2 rfl ?_
  refine g_ldc2_w hC (v := 3) tw_1737 dX12_back_3 ?_
  obtain ⟨r_1, q_2, hf⟩ := bd1E hf
  refine g_callS_i hC (X' := ov X0 [74, 75, 76, 77, 78, 79, 80, 81, 82, 83, 84, 85, 102, 103, 112, 113] [x74, x75, x76, x77, x78, x79, x80, x81, x82, x83, x84, x85, x102, x103, x112, x113]) (Y' := ov Y0 [] []) (As := [.long v1.toInt64, .long 0, .long 3]) (gMi_eq (c_X12_in l hL (ov_map hN [] (by rfl) (by rfl)) (ov_map hM [] (by rfl) (by rfl)) q_2) (ov_ovE hN (by rfl) [] [0, 1, 2, 3, 4, 5, 6, 7, 8, 9, 10, 11, 12, 13, 14, 15] (by rfl) (by rfl) [x74, x75, x76, x77, x78, x79, x80, x81, x82, x83, x84, x85, x102, x103, x112, x113] (by rfl) (by rfl) (by rfl) 16 (by rfl) (by decide)) (ov_ovE hM (by rfl) [] [] (by rfl) (by rfl) [] (by rfl) (by rfl) (by rfl) 0 (by rfl) (by decide))) tw_1428 tw_1426 tw_127 tw_1427 pd_X12_in (by decide) (by decide) rfl rfl (Nat.le_of_ble_eq_true rfl) rfl dX12_back_6 ?_
  refine g_if_eq hC 21 dX12_back_9 (by decide) (fun hc => ?_) (fun hc => ?_)
  · replace hf := ifT hf hc
    refine g_iconst hC (v := (-1)) dX12_back_21 ic_m1 ?_
    obtain ⟨rfl, rfl, rfl, rfl, rfl, rfl, rfl, rfl, rfl, rfl, rfl, rfl, rfl, rfl, rfl, rfl⟩ := sm16E hf
    exact hret _ _ rfl dX12_back_22
  · replace hf := ifF hf hc
    refine g_aload_n hC 0 dX12_back_12 rfl rfl ?_
    refine gt_X12_136 hC (a := 74) (kk_74 hL) (kn_74 hL) dX12_back_13 ?_
    refine g_ref (b := 113) rfl ?_
    refine g_iload_n hC 1 dX12_back_16 rfl rfl ?_
    obtain ⟨h_3, hf⟩ := gdE hf
    refine g_zald hC (x := x113) (kk_113 hL) (kn_113 hL) (ov_get hN 15 rfl rfl) (inb_in h_3) dX12_back_17 ?_
    refine g_if_ne hC 23 dX12_back_18 (by decide) (fun hc => ?_) (fun hc => ?_)
    · replace hf := ifF hf hc
      refine g_aload_n hC 0 dX12_back_23 rfl rfl ?_
      refine g_iload_n hC 1 dX12_back_24 rfl rfl ?_
      refine g_iconst hC (v := 1) dX12_back_25 ic_1 ?_
      obtain ⟨x74_4, x75_5, x76_6, x77_7, x78_8, x79_9, x80_10, x81_11, x82_12, x83_13, x84_14, x85_15, x102_16, x103_17, x112_18, q_19, hf⟩ := bd15E hf
      refine g_callV_v (a := 74) hC (X' := ov X0 [74, 75, 76, 77, 78, 79, 80, 81, 82, 83, 84, 85, 102, 103, 112, 113] [x74_4, x75_5, x76_6, x77_7, x78_8, x79_9, x80_10, x81_11, x82_12, x83_13, x84_14, x85_15, x102_16, x103_17, x112_18, x113]) (Y' := ov Y0 [] []) (As := [.int v1, .int 1]) (gMv_eq (c_X12_carriesAll l hL (ov_map hN [0, 1, 2, 3, 4, 5, 6, 7, 8, 9, 10, 11, 12, 13, 14] (by rfl) (by rfl)) (ov_map hM [] (by rfl) (by rfl)) q_19) (ov_ovE hN (by rfl) [0, 1, 2, 3, 4, 5, 6, 7, 8, 9, 10, 11, 12, 13, 14] [15] (by rfl) (by rfl) [x113] (by rfl) (by rfl) (by rfl) 16 (by rfl) (by decide)) (ov_ovE hM (by rfl) [] [] (by rfl) (by rfl) [] (by rfl) (by rfl) (by rfl) 0 (by rfl) (by decide))) tw_1677 tw_1674 tw_127 tw_1676 tw_98 (ci := 12) rfl (by decide) (kk_74 hL) (kn_74 hL) pd_X12_carriesAll (by decide) (by decide) rfl rfl (Nat.le_of_ble_eq_true rfl) rfl dX12_back_26 ?_
      refine g_aload_n hC 0 dX12_back_29 rfl rfl ?_
      refine gt_X12_9 hC (a := 74) (kk_74 hL) (kn_74 hL) dX12_back_30 ?_
      refine g_ref (b := 75) rfl ?_
      refine g_iconst hC (v := 5) dX12_back_33 ic_5 ?_
      obtain ⟨h_20, hf⟩ := gdE hf
      refine g_iald hC (x := x75_5) (kk_75 hL) (kn_75 hL) (ov_get hN 1 rfl rfl) (inb_in h_20) dX12_back_34 ?_
      obtain ⟨rfl, rfl, rfl, rfl, rfl, rfl, rfl, rfl, rfl, rfl, rfl, rfl, rfl, rfl, rfl, rfl⟩ := sm16E hf
      exact hret _ _ rfl dX12_back_35
    · replace hf := ifT hf hc
      refine g_iconst hC (v := (-1)) dX12_back_21 ic_m1 ?_
      obtain ⟨rfl, rfl, rfl, rfl, rfl, rfl, rfl, rfl, rfl, rfl, rfl, rfl, rfl, rfl, rfl, rfl⟩ := sm16E hf
      exact hret _ _ rfl dX12_back_22

def fX12_back   (x113 : Nat → Int32)  (v1 : Int32) (x74 : Nat → Int32) (x75 : Nat → Int32) (x76 : Nat → Int32) (x77 : Nat → Int32) (x78 : Nat → Int32) (x79 : Nat → Int32) (x80 : Nat → Int32) (x81 : Nat → Int32) (x82 : Nat → Int32) (x83 : Nat → Int32) (x84 : Nat → Int32) (x85 : Nat → Int32) (x102 : Nat → Int32) (x103 : Nat → Int32) (x112 : Nat → Int32)  : Option (Int32 × (Nat → Int32) × (Nat → Int32) × (Nat → Int32) × (Nat → Int32) × (Nat → Int32) × (Nat → Int32) × (Nat → Int32) × (Nat → Int32) × (Nat → Int32) × (Nat → Int32) × (Nat → Int32) × (Nat → Int32) × (Nat → Int32) × (Nat → Int32) × (Nat → Int32)) := fX12_back_0 x113 v1 x74 x75 x76 x77 x78 x79 x80 x81 x82 x83 x84 x85 x102 x103 x112

set_option maxHeartbeats 4000000 in
set_option maxRecDepth 100000 in
theorem c_X12_back (l : Launch) {b0 : Nat} {D : GD} {n : Nat} {κ : QT} {X0 : XT} {Y0 : YT} {Z : ZT} (hL : LY n κ) {x74 : Nat → Int32} {x75 : Nat → Int32} {x76 : Nat → Int32} {x77 : Nat → Int32} {x78 : Nat → Int32} {x79 : Nat → Int32} {x80 : Nat → Int32} {x81 : Nat → Int32} {x82 : Nat → Int32} {x83 : Nat → Int32} {x84 : Nat → Int32} {x85 : Nat → Int32} {x102 : Nat → Int32} {x103 : Nat → Int32} {x112 : Nat → Int32} {x113 : Nat → Int32} (hx : ([74, 75, 76, 77, 78, 79, 80, 81, 82, 83, 84, 85, 102, 103, 112, 113] : List Nat).map X0 = [x74, x75, x76, x77, x78, x79, x80, x81, x82, x83, x84, x85, x102, x103, x112, x113]) (hy : ([] : List Nat).map Y0 = []) {v1 : Int32} {r : Int32} {rx74 : (Nat → Int32)} {rx75 : (Nat → Int32)} {rx76 : (Nat → Int32)} {rx77 : (Nat → Int32)} {rx78 : (Nat → Int32)} {rx79 : (Nat → Int32)} {rx80 : (Nat → Int32)} {rx81 : (Nat → Int32)} {rx82 : (Nat → Int32)} {rx83 : (Nat → Int32)} {rx84 : (Nat → Int32)} {rx85 : (Nat → Int32)} {rx102 : (Nat → Int32)} {rx103 : (Nat → Int32)} {rx112 : (Nat → Int32)} (hf : fX12_back x113 v1 x74 x75 x76 x77 x78 x79 x80 x81 x82 x83 x84 x85 x102 x103 x112 = some (r, rx74, rx75, rx76, rx77, rx78, rx79, rx80, rx81, rx82, rx83, rx84, rx85, rx102, rx103, rx112)) : gMi l yX12_back cX12_back 2 (some FieldType.int) 2 44 0 0 b0 D [.ref (b0 + 74), .int v1] (n, κ, X0, Y0, Z) (n, κ, ov X0 [74, 75, 76, 77, 78, 79, 80, 81, 82, 83, 84, 85, 102, 103, 112, 113] [rx74, rx75, rx76, rx77, rx78, rx79, rx80, rx81, rx82, rx83, rx84, rx85, rx102, rx103, rx112, x113], ov Y0 [] [], Z) r := by
  have hN : ([74, 75, 76, 77, 78, 79, 80, 81, 82, 83, 84, 85, 102, 103, 112, 113] : List Nat).Nodup := by decide
  have hM : ([] : List Nat).Nodup := by decide
  refine g_meti (own := RX12) (by decide) rfl rfl (Nat.le_of_ble_eq_true rfl) ?_
  intro K hC hret
  have e := wX12_back_0 hL hN hM hC  hret hf
  rw [ov_id' hx, ov_id' hy] at e
  exact g_sub [0, 1] rfl e


-- X5_write
def fX5_write_0     (v1 : Int32) (v2 : Int32) (x13 : (Nat → Int32)) (x14 : (Nat → Int32)) : Option (Int32 × (Nat → Int32) × (Nat → Int32)) := if (x13 2) < (Int32.ofNat 412) then (gd (inb (x13 2) 412) (some (1, (upd x13 2 ((x13 2) + 1)), (upd x14 (x13 2).toNatClampNeg ((v2 <<< (6 &&& 31)) ||| v1))))) else (some (0, x13, x14))
set_option maxHeartbeats 4000000 in
set_option maxRecDepth 100000 in
theorem wX5_write_0 {l : Launch} {b0 : Nat} {D : GD} {K : KT} {n : Nat} {κ : QT} {X0 : XT} {Y0 : YT} {Z : ZT} (hL : LY n κ) (hN : ([13, 14] : List Nat).Nodup) (hM : ([] : List Nat).Nodup) (hC : gC l b0 D K RX5 cX5_write (some FieldType.boolean) 3 0 0 0 0) {r : Int32} {rx13 : (Nat → Int32)} {rx14 : (Nat → Int32)} (hret : ∀ pc loc, narrow .boolean (.int r) = .int r → decode cX5_write pc = .ok (.ireturn, 1) → gV l b0 D K (n, κ, ov X0 [13, 14] [rx13, rx14], ov Y0 [] [], Z, 0, 0) pc loc [.int r]) {v1 : Int32} {v2 : Int32} {x13 : (Nat → Int32)} {x14 : (Nat → Int32)} (hf : fX5_write_0   v1 v2 x13 x14 = some (r, rx13, rx14)) : gV l b0 D K (n, κ, ov X0 [13, 14] [x13, x14], ov Y0 [] [], Z, 0, 0) 0 [(0, .ref (b0 + 13)), (1, .int v1), (2, .int v2)] [] := by
  unfold fX5_write_0 at hf
  refine g_aload_n hC 0 dX5_write_0 rfl rfl ?_
  refine gt_X5_19 hC (x := x13) (kk_13 hL) (kn_13 hL) (ov_get hN 0 rfl rfl) dX5_write_1 ?_
  refine g_aload_n hC 0 dX5_write_4 rfl rfl ?_
  refine gt_X5_9 hC (a := 13) (kk_13 hL) (kn_13 hL) dX5_write_5 ?_
  refine g_ref (b := 14) rfl ?_
  refine g_alen_i hC (L := 412) (kk_14 hL) (kn_14 hL) dX5_write_8 ?_
  refine g_icmp_lt hC 14 dX5_write_9 (by decide) (fun hc => ?_) (fun hc => ?_)
  · replace hf := ifT hf hc
    refine g_aload_n hC 0 dX5_write_14 rfl rfl ?_
    refine gt_X5_9 hC (a := 13) (kk_13 hL) (kn_13 hL) dX5_write_15 ?_
    refine g_ref (b := 14) rfl ?_
    refine g_aload_n hC 0 dX5_write_18 rfl rfl ?_
    refine gt_X5_19 hC (x := x13) (kk_13 hL) (kn_13 hL) (ov_get hN 0 rfl rfl) dX5_write_19 ?_
    refine g_iload_n hC 2 dX5_write_22 rfl rfl ?_
    refine g_bipush hC (v := 6) dX5_write_23 bp_6 ?_
    refine g_ishl hC dX5_write_25 ?_
    refine g_iload_n hC 1 dX5_write_26 rfl rfl ?_
    refine g_ior hC dX5_write_27 ?_
    obtain ⟨h_1, hf⟩ := gdE hf
    refine g_iast hC (x := x14) (kk_14 hL) (kn_14 hL) (ov_get hN 1 rfl rfl) (inb_in h_1) (ov_set hN (by rfl) 1 (by rfl)) dX5_write_28 ?_
    show gV l b0 D K (n, κ, ov X0 [13, 14] [x13, (upd x14 (x13 2).toNatClampNeg ((v2 <<< (6 &&& 31)) ||| v1))], ov Y0 [] [], Z, 0, 0) 29 [(0, .ref (b0 + 13)), (1, .int v1), (2, .int v2)] []
    refine g_aload_n hC 0 dX5_write_29 rfl rfl ?_
    refine g_dup hC dX5_write_30 rfl ?_
    refine gt_X5_19 hC (x := x13) (kk_13 hL) (kn_13 hL) (ov_get hN 0 rfl rfl) dX5_write_31 ?_
    refine g_iconst hC (v := 1) dX5_write_34 ic_1 ?_
    refine g_iadd hC dX5_write_35 ?_
    refine pt_X5_19 hC (x := x13) (kk_13 hL) (kn_13 hL) (ov_get hN 0 rfl rfl) (ov_set hN (by rfl) 0 (by rfl)) dX5_write_36 ?_
    show gV l b0 D K (n, κ, ov X0 [13, 14] [(upd x13 2 ((x13 2) + 1)), (upd x14 (x13 2).toNatClampNeg ((v2 <<< (6 &&& 31)) ||| v1))], ov Y0 [] [], Z, 0, 0) 39 [(0, .ref (b0 + 13)), (1, .int v1), (2, .int v2)] []
    refine g_iconst hC (v := 1) dX5_write_39 ic_1 ?_
    obtain ⟨rfl, rfl, rfl⟩ := sm3E hf
    exact hret _ _ rfl dX5_write_40
  · replace hf := ifF hf hc
    refine g_iconst hC (v := 0) dX5_write_12 ic_0 ?_
    obtain ⟨rfl, rfl, rfl⟩ := sm3E hf
    exact hret _ _ rfl dX5_write_13

def fX5_write     (v1 : Int32) (v2 : Int32) (x13 : Nat → Int32) (x14 : Nat → Int32)  : Option (Int32 × (Nat → Int32) × (Nat → Int32)) := fX5_write_0  v1 v2 x13 x14

set_option maxHeartbeats 4000000 in
set_option maxRecDepth 100000 in
theorem c_X5_write (l : Launch) {b0 : Nat} {D : GD} {n : Nat} {κ : QT} {X0 : XT} {Y0 : YT} {Z : ZT} (hL : LY n κ) {x13 : Nat → Int32} {x14 : Nat → Int32} (hx : ([13, 14] : List Nat).map X0 = [x13, x14]) (hy : ([] : List Nat).map Y0 = []) {v1 : Int32} {v2 : Int32} {r : Int32} {rx13 : (Nat → Int32)} {rx14 : (Nat → Int32)} (hf : fX5_write  v1 v2 x13 x14 = some (r, rx13, rx14)) : gMi l yX5_write cX5_write 3 (some FieldType.boolean) 0 0 0 0 b0 D [.ref (b0 + 13), .int v1, .int v2] (n, κ, X0, Y0, Z) (n, κ, ov X0 [13, 14] [rx13, rx14], ov Y0 [] [], Z) r := by
  have hN : ([13, 14] : List Nat).Nodup := by decide
  have hM : ([] : List Nat).Nodup := by decide
  refine g_meti (own := RX5) (by decide) rfl rfl (Nat.le_of_ble_eq_true rfl) ?_
  intro K hC hret
  have e := wX5_write_0 hL hN hM hC  hret hf
  rw [ov_id' hx, ov_id' hy] at e
  exact g_sub [0, 1, 2] rfl e

-- X5_readValue
def fX5_readValue_47   (x3 : Nat → Int32) (x4 : Nat → Int32) (x5 : Nat → Int32)  (v1 : Int32) (x1 : (Nat → Int32)) (x13 : (Nat → Int32)) (x14 : (Nat → Int32)) : Option (Int32 × (Nat → Int32) × (Nat → Int32) × (Nat → Int32)) := if (x13 3) < 60 then (bd1 (fX8_number x1 x5) fun r_1 => (bd3 (fX5_write v1 r_1 (upd x13 3 ((x13 3) + 1)) x14) fun r_3 x13_4 x14_5 => (bd1 (fX8_skip x1) fun x1_7 => (some (1, x1_7, x13_4, x14_5))))) else (bd2 (fX8_fail x4 3 x1) fun r_9 x1_10 => (gd (bz r_9) (some (r_9, x1_10, x13, x14))))
set_option maxHeartbeats 4000000 in
set_option maxRecDepth 100000 in
theorem wX5_readValue_47 {l : Launch} {b0 : Nat} {D : GD} {K : KT} {n : Nat} {κ : QT} {X0 : XT} {Y0 : YT} {Z : ZT} (hL : LY n κ) (hN : ([1, 3, 4, 5, 13, 14] : List Nat).Nodup) (hM : ([] : List Nat).Nodup) (hC : gC l b0 D K RX5 cX5_readValue (some FieldType.boolean) 2 1 22 0 0) {x3 : Nat → Int32} {x4 : Nat → Int32} {x5 : Nat → Int32} {r : Int32} {rx1 : (Nat → Int32)} {rx13 : (Nat → Int32)} {rx14 : (Nat → Int32)} (hret : ∀ pc loc, narrow .boolean (.int r) = .int r → decode cX5_readValue pc = .ok (.ireturn, 1) → gV l b0 D K (n, κ, ov X0 [1, 3, 4, 5, 13, 14] [rx1, x3, x4, x5, rx13, rx14], ov Y0 [] [], Z, 0, 0) pc loc [.int r]) {v1 : Int32} {x1 : (Nat → Int32)} {x13 : (Nat → Int32)} {x14 : (Nat → Int32)} (hf : fX5_readValue_47 x3 x4 x5  v1 x1 x13 x14 = some (r, rx1, rx13, rx14)) : gV l b0 D K (n, κ, ov X0 [1, 3, 4, 5, 13, 14] [x1, x3, x4, x5, x13, x14], ov Y0 [] [], Z, 0, 0) 47 [(0, .ref (b0 + 13)), (1, .int v1)] [] := by
  unfold fX5_readValue_47 at hf
  refine g_aload_n hC 0 dX5_readValue_47 rfl rfl ?_
  refine gt_X5_23 hC (x := x13) (kk_13 hL) (kn_13 hL) (ov_get hN 4 rfl rfl) dX5_readValue_48 ?_
  refine g_bipush hC (v := 60) dX5_readValue_51 bp_60 ?_
  refine g_icmp_lt hC 65 dX5_readValue_53 (by decide) (fun hc => ?_) (fun hc => ?_)
  · replace hf := ifT hf hc
    refine g_aload_n hC 0 dX5_readValue_65 rfl rfl ?_
    refine g_dup hC dX5_readValue_66 rfl ?_
    refine gt_X5_23 hC (x := x13) (kk_13 hL) (kn_13 hL) (ov_get hN 4 rfl rfl) dX5_readValue_67 ?_
    refine g_iconst hC (v := 1) dX5_readValue_70 ic_1 ?_
    refine g_iadd hC dX5_readValue_71 ?_
    refine pt_X5_23 hC (x := x13) (kk_13 hL) (kn_13 hL) (ov_get hN 4 rfl rfl) (ov_set hN (by rfl) 4 (by rfl)) dX5_readValue_72 ?_
    show gV l b0 D K (n, κ, ov X0 [1, 3, 4, 5, 13, 14] [x1, x3, x4, x5, (upd x13 3 ((x13 3) + 1)), x14], ov Y0 [] [], Z, 0, 0) 75 [(0, .ref (b0 + 13)), (1, .int v1)] []
    refine g_aload_n hC 0 dX5_readValue_75 rfl rfl ?_
    refine g_iload_n hC 1 dX5_readValue_76 rfl rfl ?_
    refine g_aload_n hC 0 dX5_readValue_77 rfl rfl ?_
    refine gt_X5_15 hC (a := 13) (kk_13 hL) (kn_13 hL) dX5_readValue_78 ?_
    refine g_ref (b := 1) rfl ?_
    obtain ⟨r_1, q_2, hf⟩ := bd1E hf
    refine g_callV_i (a := 1) hC (X' := ov X0 [1, 3, 4, 5, 13, 14] [x1, x3, x4, x5, (upd x13 3 ((x13 3) + 1)), x14]) (Y' := ov Y0 [] []) (As := []) (gMi_eq (c_X8_number l hL (ov_map hN [0, 3] (by rfl) (by rfl)) (ov_map hM [] (by rfl) (by rfl)) q_2) (ov_ovE hN (by rfl) [0, 3] [1, 2, 4, 5] (by rfl) (by rfl) [x3, x4, (upd x13 3 ((x13 3) + 1)), x14] (by rfl) (by rfl) (by rfl) 6 (by rfl) (by decide)) (ov_ovE hM (by rfl) [] [] (by rfl) (by rfl) [] (by rfl) (by rfl) (by rfl) 0 (by rfl) (by decide))) tw_663 tw_735 tw_117 tw_661 tw_662 (ci := 8) rfl (by decide) (kk_1 hL) (kn_1 hL) pd_X8_number (by decide) (by decide) rfl rfl (Nat.le_of_ble_eq_true rfl) rfl dX5_readValue_81 ?_
    obtain ⟨r_3, x13_4, x14_5, q_6, hf⟩ := bd3E hf
    refine g_callV_i (a := 13) hC (X' := ov X0 [1, 3, 4, 5, 13, 14] [x1, x3, x4, x5, x13_4, x14_5]) (Y' := ov Y0 [] []) (As := [.int v1, .int r_1]) (gMi_eq (c_X5_write l hL (ov_map hN [4, 5] (by rfl) (by rfl)) (ov_map hM [] (by rfl) (by rfl)) q_6) (ov_ovE hN (by rfl) [4, 5] [0, 1, 2, 3] (by rfl) (by rfl) [x1, x3, x4, x5] (by rfl) (by rfl) (by rfl) 6 (by rfl) (by decide)) (ov_ovE hM (by rfl) [] [] (by rfl) (by rfl) [] (by rfl) (by rfl) (by rfl) 0 (by rfl) (by decide))) tw_739 tw_736 tw_121 tw_738 tw_18 (ci := 5) rfl (by decide) (kk_13 hL) (kn_13 hL) pd_X5_write (by decide) (by decide) rfl rfl (Nat.le_of_ble_eq_true rfl) rfl dX5_readValue_84 ?_
    refine g_pop hC dX5_readValue_87 rfl ?_
    refine g_aload_n hC 0 dX5_readValue_88 rfl rfl ?_
    refine gt_X5_15 hC (a := 13) (kk_13 hL) (kn_13 hL) dX5_readValue_89 ?_
    refine g_ref (b := 1) rfl ?_
    obtain ⟨x1_7, q_8, hf⟩ := bd1E hf
    refine g_callV_v (a := 1) hC (X' := ov X0 [1, 3, 4, 5, 13, 14] [x1_7, x3, x4, x5, x13_4, x14_5]) (Y' := ov Y0 [] []) (As := []) (gMv_eq (c_X8_skip l hL (ov_map hN [0] (by rfl) (by rfl)) (ov_map hM [] (by rfl) (by rfl)) q_8) (ov_ovE hN (by rfl) [0] [1, 2, 3, 4, 5] (by rfl) (by rfl) [x3, x4, x5, x13_4, x14_5] (by rfl) (by rfl) (by rfl) 6 (by rfl) (by decide)) (ov_ovE hM (by rfl) [] [] (by rfl) (by rfl) [] (by rfl) (by rfl) (by rfl) 0 (by rfl) (by decide))) tw_651 tw_725 tw_117 tw_649 tw_650 (ci := 8) rfl (by decide) (kk_1 hL) (kn_1 hL) pd_X8_skip (by decide) (by decide) rfl rfl (Nat.le_of_ble_eq_true rfl) rfl dX5_readValue_92 ?_
    refine g_iconst hC (v := 1) dX5_readValue_95 ic_1 ?_
    obtain ⟨rfl, rfl, rfl, rfl⟩ := sm4E hf
    exact hret _ _ rfl dX5_readValue_96
  · replace hf := ifF hf hc
    refine g_aload_n hC 0 dX5_readValue_56 rfl rfl ?_
    refine gt_X5_15 hC (a := 13) (kk_13 hL) (kn_13 hL) dX5_readValue_57 ?_
    refine g_ref (b := 1) rfl ?_
    refine g_iconst hC (v := 3) dX5_readValue_60 ic_3 ?_
    obtain ⟨r_9, x1_10, q_11, hf⟩ := bd2E hf
    refine g_callV_i (a := 1) hC (X' := ov X0 [1, 3, 4, 5, 13, 14] [x1_10, x3, x4, x5, x13, x14]) (Y' := ov Y0 [] []) (As := [.int 3]) (gMi_eq (c_X8_fail l hL (ov_map hN [0, 2] (by rfl) (by rfl)) (ov_map hM [] (by rfl) (by rfl)) q_11) (ov_ovE hN (by rfl) [0, 2] [1, 3, 4, 5] (by rfl) (by rfl) [x3, x5, x13, x14] (by rfl) (by rfl) (by rfl) 6 (by rfl) (by decide)) (ov_ovE hM (by rfl) [] [] (by rfl) (by rfl) [] (by rfl) (by rfl) (by rfl) 0 (by rfl) (by decide))) tw_643 tw_724 tw_117 tw_641 tw_642 (ci := 8) rfl (by decide) (kk_1 hL) (kn_1 hL) pd_X8_fail (by decide) (by decide) rfl rfl (Nat.le_of_ble_eq_true rfl) rfl dX5_readValue_61 ?_
    obtain ⟨h_12, hf⟩ := gdE hf
    obtain ⟨rfl, rfl, rfl, rfl⟩ := sm4E hf
    exact hret _ _ (bz_nar h_12) dX5_readValue_64

def fX5_readValue_0   (x3 : Nat → Int32) (x4 : Nat → Int32) (x5 : Nat → Int32)  (x1 : (Nat → Int32)) (x13 : (Nat → Int32)) (x14 : (Nat → Int32)) : Option (Int32 × (Nat → Int32) × (Nat → Int32) × (Nat → Int32)) := bd1 (fX8_code x1 x3) fun r_1 => (if r_1 = 2 then (bd2 (fX8_fail x4 1 x1) fun r_9 x1_10 => (gd (bz r_9) (some (r_9, x1_10, x13, x14)))) else (if r_1 = 1 then (fX5_readValue_47 x3 x4 x5  r_1 x1 x13 x14) else (bd1 (fX11_isWithin r_1 17 28) fun r_3 => (if r_3 = 0 then (bd2 (fX8_fail x4 0 x1) fun r_5 x1_6 => (gd (bz r_5) (some (r_5, x1_6, x13, x14)))) else (fX5_readValue_47 x3 x4 x5  r_1 x1 x13 x14)))))
set_option maxHeartbeats 4000000 in
set_option maxRecDepth 100000 in
theorem wX5_readValue_0 {l : Launch} {b0 : Nat} {D : GD} {K : KT} {n : Nat} {κ : QT} {X0 : XT} {Y0 : YT} {Z : ZT} (hL : LY n κ) (hN : ([1, 3, 4, 5, 13, 14] : List Nat).Nodup) (hM : ([] : List Nat).Nodup) (hC : gC l b0 D K RX5 cX5_readValue (some FieldType.boolean) 2 1 22 0 0) {x3 : Nat → Int32} {x4 : Nat → Int32} {x5 : Nat → Int32} {r : Int32} {rx1 : (Nat → Int32)} {rx13 : (Nat → Int32)} {rx14 : (Nat → Int32)} (hret : ∀ pc loc, narrow .boolean (.int r) = .int r → decode cX5_readValue pc = .ok (.ireturn, 1) → gV l b0 D K (n, κ, ov X0 [1, 3, 4, 5, 13, 14] [rx1, x3, x4, x5, rx13, rx14], ov Y0 [] [], Z, 0, 0) pc loc [.int r]) {x1 : (Nat → Int32)} {x13 : (Nat → Int32)} {x14 : (Nat → Int32)} (hf : fX5_readValue_0 x3 x4 x5  x1 x13 x14 = some (r, rx1, rx13, rx14)) : gV l b0 D K (n, κ, ov X0 [1, 3, 4, 5, 13, 14] [x1, x3, x4, x5, x13, x14], ov Y0 [] [], Z, 0, 0) 0 [(0, .ref (b0 + 13))] [] := by
  unfold fX5_readValue_0 at hf
  refine g_aload_n hC 0 dX5_readValue_0 rfl rfl ?_
  refine gt_X5_15 hC (a := 13) (kk_13 hL) (kn_13 hL) dX5_readValue_1 ?_
  refine g_ref (b := 1) rfl ?_
  obtain ⟨r_1, q_2, hf⟩ := bd1E hf
  refine g_callV_i (a := 1) hC (X' := ov X0 [1, 3, 4, 5, 13, 14] [x1, x3, x4, x5, x13, x14]) (Y' := ov Y0 [] []) (As := []) (gMi_eq (c_X8_code l hL (ov_map hN [0, 1] (by rfl) (by rfl)) (ov_map hM [] (by rfl) (by rfl)) q_2) (ov_ovE hN (by rfl) [0, 1] [2, 3, 4, 5] (by rfl) (by rfl) [x4, x5, x13, x14] (by rfl) (by rfl) (by rfl) 6 (by rfl) (by decide)) (ov_ovE hM (by rfl) [] [] (by rfl) (by rfl) [] (by rfl) (by rfl) (by rfl) 0 (by rfl) (by decide))) tw_639 tw_723 tw_117 tw_637 tw_638 (ci := 8) rfl (by decide) (kk_1 hL) (kn_1 hL) pd_X8_code (by decide) (by decide) rfl rfl (Nat.le_of_ble_eq_true rfl) rfl dX5_readValue_4 ?_
  refine g_istore_n hC (i := 1) [(1, .int r_1), (0, .ref (b0 + 13))] rfl dX5_readValue_7 (by decide) rfl ?_
  refine g_iload_n hC 0 dX5_readValue_8 rfl rfl ?_
  refine g_iconst hC (v := 2) dX5_readValue_9 ic_2 ?_
  refine g_icmp_ne hC 22 dX5_readValue_10 (by decide) (fun hc => ?_) (fun hc => ?_)
  · replace hf := ifF hf hc
    refine g_iload_n hC 0 dX5_readValue_22 rfl rfl ?_
    refine g_iconst hC (v := 1) dX5_readValue_23 ic_1 ?_
    refine g_icmp_eq hC 47 dX5_readValue_24 (by decide) (fun hc => ?_) (fun hc => ?_)
    · replace hf := ifT hf hc
      exact g_sub [1, 0] rfl (wX5_readValue_47 hL hN hM hC  hret  hf)
    · replace hf := ifF hf hc
      refine g_iload_n hC 0 dX5_readValue_27 rfl rfl ?_
      refine g_bipush hC (v := 17) dX5_readValue_28 bp_17 ?_
      refine g_bipush hC (v := 28) dX5_readValue_30 bp_28 ?_
      obtain ⟨r_3, q_4, hf⟩ := bd1E hf
      refine g_callSN_i hC (X' := ov X0 [1, 3, 4, 5, 13, 14] [x1, x3, x4, x5, x13, x14]) (Y' := ov Y0 [] []) (As := [.int r_1, .int 17, .int 28]) (gMi_eq (c_X11_isWithin l hL (ov_map hN [] (by rfl) (by rfl)) (ov_map hM [] (by rfl) (by rfl)) q_4) (ov_ovE hN (by rfl) [] [0, 1, 2, 3, 4, 5] (by rfl) (by rfl) [x1, x3, x4, x5, x13, x14] (by rfl) (by rfl) (by rfl) 6 (by rfl) (by decide)) (ov_ovE hM (by rfl) [] [] (by rfl) (by rfl) [] (by rfl) (by rfl) (by rfl) 0 (by rfl) (by decide))) tw_666 (List.mem_of_getElem? (i := 11) rfl) tw_116 tw_665 pd_X11_isWithin (by decide) (by decide) rfl rfl (Nat.le_of_ble_eq_true rfl) rfl dX5_readValue_32 ?_
      refine g_if_ne hC 47 dX5_readValue_35 (by decide) (fun hc => ?_) (fun hc => ?_)
      · replace hf := ifF hf hc
        exact g_sub [1, 0] rfl (wX5_readValue_47 hL hN hM hC  hret  hf)
      · replace hf := ifT hf hc
        refine g_aload_n hC 1 dX5_readValue_38 rfl rfl ?_
        refine gt_X5_15 hC (a := 13) (kk_13 hL) (kn_13 hL) dX5_readValue_39 ?_
        refine g_ref (b := 1) rfl ?_
        refine g_iconst hC (v := 0) dX5_readValue_42 ic_0 ?_
        obtain ⟨r_5, x1_6, q_7, hf⟩ := bd2E hf
        refine g_callV_i (a := 1) hC (X' := ov X0 [1, 3, 4, 5, 13, 14] [x1_6, x3, x4, x5, x13, x14]) (Y' := ov Y0 [] []) (As := [.int 0]) (gMi_eq (c_X8_fail l hL (ov_map hN [0, 2] (by rfl) (by rfl)) (ov_map hM [] (by rfl) (by rfl)) q_7) (ov_ovE hN (by rfl) [0, 2] [1, 3, 4, 5] (by rfl) (by rfl) [x3, x5, x13, x14] (by rfl) (by rfl) (by rfl) 6 (by rfl) (by decide)) (ov_ovE hM (by rfl) [] [] (by rfl) (by rfl) [] (by rfl) (by rfl) (by rfl) 0 (by rfl) (by decide))) tw_643 tw_724 tw_117 tw_641 tw_642 (ci := 8) rfl (by decide) (kk_1 hL) (kn_1 hL) pd_X8_fail (by decide) (by decide) rfl rfl (Nat.le_of_ble_eq_true rfl) rfl dX5_readValue_43 ?_
        obtain ⟨h_8, hf⟩ := gdE hf
        obtain ⟨rfl, rfl, rfl, rfl⟩ := sm4E hf
        exact hret _ _ (bz_nar h_8) dX5_readValue_46
  · replace hf := ifT hf hc
    refine g_aload_n hC 1 dX5_readValue_13 rfl rfl ?_
    refine gt_X5_15 hC (a := 13) (kk_13 hL) (kn_13 hL) dX5_readValue_14 ?_
    refine g_ref (b := 1) rfl ?_
    refine g_iconst hC (v := 1) dX5_readValue_17 ic_1 ?_
    obtain ⟨r_9, x1_10, q_11, hf⟩ := bd2E hf
    refine g_callV_i (a := 1) hC (X' := ov X0 [1, 3, 4, 5, 13, 14] [x1_10, x3, x4, x5, x13, x14]) (Y' := ov Y0 [] []) (As := [.int 1]) (gMi_eq (c_X8_fail l hL (ov_map hN [0, 2] (by rfl) (by rfl)) (ov_map hM [] (by rfl) (by rfl)) q_11) (ov_ovE hN (by rfl) [0, 2] [1, 3, 4, 5] (by rfl) (by rfl) [x3, x5, x13, x14] (by rfl) (by rfl) (by rfl) 6 (by rfl) (by decide)) (ov_ovE hM (by rfl) [] [] (by rfl) (by rfl) [] (by rfl) (by rfl) (by rfl) 0 (by rfl) (by decide))) tw_643 tw_724 tw_117 tw_641 tw_642 (ci := 8) rfl (by decide) (kk_1 hL) (kn_1 hL) pd_X8_fail (by decide) (by decide) rfl rfl (Nat.le_of_ble_eq_true rfl) rfl dX5_readValue_18 ?_
    obtain ⟨h_12, hf⟩ := gdE hf
    obtain ⟨rfl, rfl, rfl, rfl⟩ := sm4E hf
    exact hret _ _ (bz_nar h_12) dX5_readValue_21

def fX5_readValue   (x3 : Nat → Int32) (x4 : Nat → Int32) (x5 : Nat → Int32)   (x1 : Nat → Int32) (x13 : Nat → Int32) (x14 : Nat → Int32)  : Option (Int32 × (Nat → Int32) × (Nat → Int32) × (Nat → Int32)) := fX5_readValue_0 x3 x4 x5 x1 x13 x14

set_option maxHeartbeats 4000000 in
set_option maxRecDepth 100000 in
theorem c_X5_readValue (l : Launch) {b0 : Nat} {D : GD} {n : Nat} {κ : QT} {X0 : XT} {Y0 : YT} {Z : ZT} (hL : LY n κ) {x1 : Nat → Int32} {x3 : Nat → Int32} {x4 : Nat → Int32} {x5 : Nat → Int32} {x13 : Nat → Int32} {x14 : Nat → Int32} (hx : ([1, 3, 4, 5, 13, 14] : List Nat).map X0 = [x1, x3, x4, x5, x13, x14]) (hy : ([] : List Nat).map Y0 = []) {r : Int32} {rx1 : (Nat → Int32)} {rx13 : (Nat → Int32)} {rx14 : (Nat → Int32)} (hf : fX5_readValue x3 x4 x5 x1 x13 x14 = some (r, rx1, rx13, rx14)) : gMi l yX5_readValue cX5_readValue 2 (some FieldType.boolean) 1 22 0 0 b0 D [.ref (b0 + 13)] (n, κ, X0, Y0, Z) (n, κ, ov X0 [1, 3, 4, 5, 13, 14] [rx1, x3, x4, x5, rx13, rx14], ov Y0 [] [], Z) r := by
  have hN : ([1, 3, 4, 5, 13, 14] : List Nat).Nodup := by decide
  have hM : ([] : List Nat).Nodup := by decide
  refine g_meti (own := RX5) (by decide) rfl rfl (Nat.le_of_ble_eq_true rfl) ?_
  intro K hC hret
  have e := wX5_readValue_0 hL hN hM hC  hret hf
  rw [ov_id' hx, ov_id' hy] at e
  exact g_sub [0] rfl e

-- X5_readSum
def fX5_readSum_112   (x3 : Nat → Int32) (x4 : Nat → Int32) (x5 : Nat → Int32)  (k6 : Int32 → Int32 → Int32 → (Nat → Int32) → (Nat → Int32) → (Nat → Int32) → Option (Int32 × (Nat → Int32) × (Nat → Int32) × (Nat → Int32))) (v1 : Int32) (v2 : Int32) (v3 : Int32) (x1 : (Nat → Int32)) (x13 : (Nat → Int32)) (x14 : (Nat → Int32)) : Option (Int32 × (Nat → Int32) × (Nat → Int32) × (Nat → Int32)) := bd1 (fX8_skip x1) fun x1_1 => (bn (v3 + 1) fun t_3 => (k6 v1 v2 t_3 x1_1 x13 x14))
set_option maxHeartbeats 4000000 in
set_option maxRecDepth 100000 in
theorem wX5_readSum_112 {l : Launch} {b0 : Nat} {D : GD} {K : KT} {n : Nat} {κ : QT} {X0 : XT} {Y0 : YT} {Z : ZT} (hL : LY n κ) (hN : ([1, 3, 4, 5, 13, 14] : List Nat).Nodup) (hM : ([] : List Nat).Nodup) (hC : gC l b0 D K RX5 cX5_readSum (some FieldType.boolean) 4 2 43 0 0) {x3 : Nat → Int32} {x4 : Nat → Int32} {x5 : Nat → Int32} {r : Int32} {rx1 : (Nat → Int32)} {rx13 : (Nat → Int32)} {rx14 : (Nat → Int32)} (hret : ∀ pc loc, narrow .boolean (.int r) = .int r → decode cX5_readSum pc = .ok (.ireturn, 1) → gV l b0 D K (n, κ, ov X0 [1, 3, 4, 5, 13, 14] [rx1, x3, x4, x5, rx13, rx14], ov Y0 [] [], Z, 0, 0) pc loc [.int r]) {k6 : Int32 → Int32 → Int32 → (Nat → Int32) → (Nat → Int32) → (Nat → Int32) → Option (Int32 × (Nat → Int32) × (Nat → Int32) × (Nat → Int32))} (hk6 : ∀ (v1 : Int32) (v2 : Int32) (v3 : Int32) (x1 : (Nat → Int32)) (x13 : (Nat → Int32)) (x14 : (Nat → Int32)), k6 v1 v2 v3 x1 x13 x14 = some (r, rx1, rx13, rx14) → gV l b0 D K (n, κ, ov X0 [1, 3, 4, 5, 13, 14] [x1, x3, x4, x5, x13, x14], ov Y0 [] [], Z, 0, 0) 6 [(0, .ref (b0 + 13)), (1, .int v1), (2, .int v2), (3, .int v3)] []) {v1 : Int32} {v2 : Int32} {v3 : Int32} {x1 : (Nat → Int32)} {x13 : (Nat → Int32)} {x14 : (Nat → Int32)} (hf : fX5_readSum_112 x3 x4 x5 k6 v1 v2 v3 x1 x13 x14 = some (r, rx1, rx13, rx14)) : gV l b0 D K (n, κ, ov X0 [1, 3, 4, 5, 13, 14] [x1, x3, x4, x5, x13, x14], ov Y0 [] [], Z, 0, 0) 112 [(0, .ref (b0 + 13)), (1, .int v1), (2, .int v2), (3, .int v3)] [] := by
  unfold fX5_readSum_112 at hf
  refine g_aload_n hC 0 dX5_readSum_112 rfl rfl ?_
  refine gt_X5_15 hC (a := 13) (kk_13 hL) (kn_13 hL) dX5_readSum_113 ?_
  refine g_ref (b := 1) rfl ?_
  obtain ⟨x1_1, q_2, hf⟩ := bd1E hf
  refine g_callV_v (a := 1) hC (X' := ov X0 [1, 3, 4, 5, 13, 14] [x1_1, x3, x4, x5, x13, x14]) (Y' := ov Y0 [] []) (As := []) (gMv_eq (c_X8_skip l hL (ov_map hN [0] (by rfl) (by rfl)) (ov_map hM [] (by rfl) (by rfl)) q_2) (ov_ovE hN (by rfl) [0] [1, 2, 3, 4, 5] (by rfl) (by rfl) [x3, x4, x5, x13, x14] (by rfl) (by rfl) (by rfl) 6 (by rfl) (by decide)) (ov_ovE hM (by rfl) [] [] (by rfl) (by rfl) [] (by rfl) (by rfl) (by rfl) 0 (by rfl) (by decide))) tw_651 tw_725 tw_117 tw_649 tw_650 (ci := 8) rfl (by decide) (kk_1 hL) (kn_1 hL) pd_X8_skip (by decide) (by decide) rfl rfl (Nat.le_of_ble_eq_true rfl) rfl dX5_readSum_116 ?_
  obtain ⟨t_3, et_3, hf⟩ := bnE hf
  refine g_iinc hC (i := 3) (v := t_3) [(3, .int t_3), (0, .ref (b0 + 13)), (1, .int v1), (2, .int v2)] dX5_readSum_119 (q := 3) rfl ((congrArg (HAdd.hAdd v3) ic_1).trans et_3.symm) (by decide) rfl ?_
  refine g_goto hC 6 dX5_readSum_122 (by decide) ?_
  exact g_sub [1, 2, 3, 0] rfl (hk6 v1 v2 t_3 x1_1 x13 x14 hf)

def fX5_readSum_105   (x3 : Nat → Int32) (x4 : Nat → Int32) (x5 : Nat → Int32)  (k6 : Int32 → Int32 → Int32 → (Nat → Int32) → (Nat → Int32) → (Nat → Int32) → Option (Int32 × (Nat → Int32) × (Nat → Int32) × (Nat → Int32))) (v1 : Int32) (v3 : Int32) (s0 : Int32) (x1 : (Nat → Int32)) (x13 : (Nat → Int32)) (x14 : (Nat → Int32)) : Option (Int32 × (Nat → Int32) × (Nat → Int32) × (Nat → Int32)) := if s0 = 0 then (some (1, x1, x13, x14)) else (fX5_readSum_112 x3 x4 x5 k6 v1 s0 v3 x1 x13 x14)
set_option maxHeartbeats 4000000 in
set_option maxRecDepth 100000 in
theorem wX5_readSum_105 {l : Launch} {b0 : Nat} {D : GD} {K : KT} {n : Nat} {κ : QT} {X0 : XT} {Y0 : YT} {Z : ZT} (hL : LY n κ) (hN : ([1, 3, 4, 5, 13, 14] : List Nat).Nodup) (hM : ([] : List Nat).Nodup) (hC : gC l b0 D K RX5 cX5_readSum (some FieldType.boolean) 4 2 43 0 0) {x3 : Nat → Int32} {x4 : Nat → Int32} {x5 : Nat → Int32} {r : Int32} {rx1 : (Nat → Int32)} {rx13 : (Nat → Int32)} {rx14 : (Nat → Int32)} (hret : ∀ pc loc, narrow .boolean (.int r) = .int r → decode cX5_readSum pc = .ok (.ireturn, 1) → gV l b0 D K (n, κ, ov X0 [1, 3, 4, 5, 13, 14] [rx1, x3, x4, x5, rx13, rx14], ov Y0 [] [], Z, 0, 0) pc loc [.int r]) {k6 : Int32 → Int32 → Int32 → (Nat → Int32) → (Nat → Int32) → (Nat → Int32) → Option (Int32 × (Nat → Int32) × (Nat → Int32) × (Nat → Int32))} (hk6 : ∀ (v1 : Int32) (v2 : Int32) (v3 : Int32) (x1 : (Nat → Int32)) (x13 : (Nat → Int32)) (x14 : (Nat → Int32)), k6 v1 v2 v3 x1 x13 x14 = some (r, rx1, rx13, rx14) → gV l b0 D K (n, κ, ov X0 [1, 3, 4, 5, 13, 14] [x1, x3, x4, x5, x13, x14], ov Y0 [] [], Z, 0, 0) 6 [(0, .ref (b0 + 13)), (1, .int v1), (2, .int v2), (3, .int v3)] []) {v1 : Int32} {v3 : Int32} {s0 : Int32} {x1 : (Nat → Int32)} {x13 : (Nat → Int32)} {x14 : (Nat → Int32)} (hf : fX5_readSum_105 x3 x4 x5 k6 v1 v3 s0 x1 x13 x14 = some (r, rx1, rx13, rx14)) : gV l b0 D K (n, κ, ov X0 [1, 3, 4, 5, 13, 14] [x1, x3, x4, x5, x13, x14], ov Y0 [] [], Z, 0, 0) 105 [(0, .ref (b0 + 13)), (1, .int v1), (3, .int v3)] [.int s0] := by
  unfold fX5_readSum_105 at hf
  refine g_istore_n hC (i := 2) [(2, .int s0), (0, .ref (b0 + 13)), (1, .int v1), (3, .int v3)] rfl dX5_readSum_105 (by decide) rfl ?_
  refine g_iload_n hC 0 dX5_readSum_106 rfl rfl ?_
  refine g_if_ne hC 112 dX5_readSum_107 (by decide) (fun hc => ?_) (fun hc => ?_)
  · replace hf := ifF hf hc
    exact g_sub [1, 2, 0, 3] rfl (wX5_readSum_112 hL hN hM hC  hret hk6 hf)
  · replace hf := ifT hf hc
    refine g_iconst hC (v := 1) dX5_readSum_110 ic_1 ?_
    obtain ⟨rfl, rfl, rfl, rfl⟩ := sm4E hf
    exact hret _ _ rfl dX5_readSum_111

def fX5_readSum_77   (x3 : Nat → Int32) (x4 : Nat → Int32) (x5 : Nat → Int32)  (k6 : Int32 → Int32 → Int32 → (Nat → Int32) → (Nat → Int32) → (Nat → Int32) → Option (Int32 × (Nat → Int32) × (Nat → Int32) × (Nat → Int32))) (v1 : Int32) (v3 : Int32) (x1 : (Nat → Int32)) (x13 : (Nat → Int32)) (x14 : (Nat → Int32)) : Option (Int32 × (Nat → Int32) × (Nat → Int32) × (Nat → Int32)) := bd1 (fX8_code x1 x3) fun r_1 => (bd1 (fX11_isWithin r_1 7 8) fun r_3 => (if r_3 = 0 then (fX5_readSum_105 x3 x4 x5 k6 v1 v3 0 x1 x13 x14) else (bd1 (fX8_code x1 x3) fun r_5 => (fX5_readSum_105 x3 x4 x5 k6 v1 v3 r_5 x1 x13 x14))))
set_option maxHeartbeats 4000000 in
set_option maxRecDepth 100000 in
theorem wX5_readSum_77 {l : Launch} {b0 : Nat} {D : GD} {K : KT} {n : Nat} {κ : QT} {X0 : XT} {Y0 : YT} {Z : ZT} (hL : LY n κ) (hN : ([1, 3, 4, 5, 13, 14] : List Nat).Nodup) (hM : ([] : List Nat).Nodup) (hC : gC l b0 D K RX5 cX5_readSum (some FieldType.boolean) 4 2 43 0 0) {x3 : Nat → Int32} {x4 : Nat → Int32} {x5 : Nat → Int32} {r : Int32} {rx1 : (Nat → Int32)} {rx13 : (Nat → Int32)} {rx14 : (Nat → Int32)} (hret : ∀ pc loc, narrow .boolean (.int r) = .int r → decode cX5_readSum pc = .ok (.ireturn, 1) → gV l b0 D K (n, κ, ov X0 [1, 3, 4, 5, 13, 14] [rx1, x3, x4, x5, rx13, rx14], ov Y0 [] [], Z, 0, 0) pc loc [.int r]) {k6 : Int32 → Int32 → Int32 → (Nat → Int32) → (Nat → Int32) → (Nat → Int32) → Option (Int32 × (Nat → Int32) × (Nat → Int32) × (Nat → Int32))} (hk6 : ∀ (v1 : Int32) (v2 : Int32) (v3 : Int32) (x1 : (Nat → Int32)) (x13 : (Nat → Int32)) (x14 : (Nat → Int32)), k6 v1 v2 v3 x1 x13 x14 = some (r, rx1, rx13, rx14) → gV l b0 D K (n, κ, ov X0 [1, 3, 4, 5, 13, 14] [x1, x3, x4, x5, x13, x14], ov Y0 [] [], Z, 0, 0) 6 [(0, .ref (b0 + 13)), (1, .int v1), (2, .int v2), (3, .int v3)] []) {v1 : Int32} {v3 : Int32} {x1 : (Nat → Int32)} {x13 : (Nat → Int32)} {x14 : (Nat → Int32)} (hf : fX5_readSum_77 x3 x4 x5 k6 v1 v3 x1 x13 x14 = some (r, rx1, rx13, rx14)) : gV l b0 D K (n, κ, ov X0 [1, 3, 4, 5, 13, 14] [x1, x3, x4, x5, x13, x14], ov Y0 [] [], Z, 0, 0) 77 [(0, .ref (b0 + 13)), (1, .int v1), (3, .int v3)] [] := by
  unfold fX5_readSum_77 at hf
  refine g_aload_n hC 0 dX5_readSum_77 rfl rfl ?_
  refine gt_X5_15 hC (a := 13) (kk_13 hL) (kn_13 hL) dX5_readSum_78 ?_
  refine g_ref (b := 1) rfl ?_
  obtain ⟨r_1, q_2, hf⟩ := bd1E hf
  refine g_callV_i (a := 1) hC (X' := ov X0 [1, 3, 4, 5, 13, 14] [x1, x3, x4, x5, x13, x14]) (Y' := ov Y0 [] []) (As := []) (gMi_eq (c_X8_code l hL (ov_map hN [0, 1] (by rfl) (by rfl)) (ov_map hM [] (by rfl) (by rfl)) q_2) (ov_ovE hN (by rfl) [0, 1] [2, 3, 4, 5] (by rfl) (by rfl) [x4, x5, x13, x14] (by rfl) (by rfl) (by rfl) 6 (by rfl) (by decide)) (ov_ovE hM (by rfl) [] [] (by rfl) (by rfl) [] (by rfl) (by rfl) (by rfl) 0 (by rfl) (by decide))) tw_639 tw_723 tw_117 tw_637 tw_638 (ci := 8) rfl (by decide) (kk_1 hL) (kn_1 hL) pd_X8_code (by decide) (by decide) rfl rfl (Nat.le_of_ble_eq_true rfl) rfl dX5_readSum_81 ?_
  refine g_bipush hC (v := 7) dX5_readSum_84 bp_7 ?_
  refine g_bipush hC (v := 8) dX5_readSum_86 bp_8 ?_
  obtain ⟨r_3, q_4, hf⟩ := bd1E hf
  refine g_callSN_i hC (X' := ov X0 [1, 3, 4, 5, 13, 14] [x1, x3, x4, x5, x13, x14]) (Y' := ov Y0 [] []) (As := [.int r_1, .int 7, .int 8]) (gMi_eq (c_X11_isWithin l hL (ov_map hN [] (by rfl) (by rfl)) (ov_map hM [] (by rfl) (by rfl)) q_4) (ov_ovE hN (by rfl) [] [0, 1, 2, 3, 4, 5] (by rfl) (by rfl) [x1, x3, x4, x5, x13, x14] (by rfl) (by rfl) (by rfl) 6 (by rfl) (by decide)) (ov_ovE hM (by rfl) [] [] (by rfl) (by rfl) [] (by rfl) (by rfl) (by rfl) 0 (by rfl) (by decide))) tw_666 (List.mem_of_getElem? (i := 11) rfl) tw_116 tw_665 pd_X11_isWithin (by decide) (by decide) rfl rfl (Nat.le_of_ble_eq_true rfl) rfl dX5_readSum_88 ?_
  refine g_if_eq hC 104 dX5_readSum_91 (by decide) (fun hc => ?_) (fun hc => ?_)
  · replace hf := ifT hf hc
    refine g_iconst hC (v := 0) dX5_readSum_104 ic_0 ?_
    exact g_sub [0, 1, 2] rfl (wX5_readSum_105 hL hN hM hC  hret hk6 hf)
  · replace hf := ifF hf hc
    refine g_aload_n hC 0 dX5_readSum_94 rfl rfl ?_
    refine gt_X5_15 hC (a := 13) (kk_13 hL) (kn_13 hL) dX5_readSum_95 ?_
    refine g_ref (b := 1) rfl ?_
    obtain ⟨r_5, q_6, hf⟩ := bd1E hf
    refine g_callV_i (a := 1) hC (X' := ov X0 [1, 3, 4, 5, 13, 14] [x1, x3, x4, x5, x13, x14]) (Y' := ov Y0 [] []) (As := []) (gMi_eq (c_X8_code l hL (ov_map hN [0, 1] (by rfl) (by rfl)) (ov_map hM [] (by rfl) (by rfl)) q_6) (ov_ovE hN (by rfl) [0, 1] [2, 3, 4, 5] (by rfl) (by rfl) [x4, x5, x13, x14] (by rfl) (by rfl) (by rfl) 6 (by rfl) (by decide)) (ov_ovE hM (by rfl) [] [] (by rfl) (by rfl) [] (by rfl) (by rfl) (by rfl) 0 (by rfl) (by decide))) tw_639 tw_723 tw_117 tw_637 tw_638 (ci := 8) rfl (by decide) (kk_1 hL) (kn_1 hL) pd_X8_code (by decide) (by decide) rfl rfl (Nat.le_of_ble_eq_true rfl) rfl dX5_readSum_98 ?_
    refine g_goto hC 105 dX5_readSum_101 (by decide) ?_
    exact g_sub [0, 1, 2] rfl (wX5_readSum_105 hL hN hM hC  hret hk6 hf)

def fX5_readSum_61   (x3 : Nat → Int32) (x4 : Nat → Int32) (x5 : Nat → Int32)  (k6 : Int32 → Int32 → Int32 → (Nat → Int32) → (Nat → Int32) → (Nat → Int32) → Option (Int32 × (Nat → Int32) × (Nat → Int32) × (Nat → Int32))) (v2 : Int32) (v3 : Int32) (s0 : Int32) (x1 : (Nat → Int32)) (x13 : (Nat → Int32)) (x14 : (Nat → Int32)) : Option (Int32 × (Nat → Int32) × (Nat → Int32) × (Nat → Int32)) := if s0 = 0 then (if v2 = 0 then (fX5_readSum_77 x3 x4 x5 k6 s0 v3 x1 x13 x14) else (bd3 (fX5_write v2 0 x13 x14) fun r_1 x13_2 x14_3 => (fX5_readSum_77 x3 x4 x5 k6 s0 v3 x1 x13_2 x14_3))) else (fX5_readSum_112 x3 x4 x5 k6 s0 v2 v3 x1 x13 x14)
set_option maxHeartbeats 4000000 in
set_option maxRecDepth 100000 in
theorem wX5_readSum_61 {l : Launch} {b0 : Nat} {D : GD} {K : KT} {n : Nat} {κ : QT} {X0 : XT} {Y0 : YT} {Z : ZT} (hL : LY n κ) (hN : ([1, 3, 4, 5, 13, 14] : List Nat).Nodup) (hM : ([] : List Nat).Nodup) (hC : gC l b0 D K RX5 cX5_readSum (some FieldType.boolean) 4 2 43 0 0) {x3 : Nat → Int32} {x4 : Nat → Int32} {x5 : Nat → Int32} {r : Int32} {rx1 : (Nat → Int32)} {rx13 : (Nat → Int32)} {rx14 : (Nat → Int32)} (hret : ∀ pc loc, narrow .boolean (.int r) = .int r → decode cX5_readSum pc = .ok (.ireturn, 1) → gV l b0 D K (n, κ, ov X0 [1, 3, 4, 5, 13, 14] [rx1, x3, x4, x5, rx13, rx14], ov Y0 [] [], Z, 0, 0) pc loc [.int r]) {k6 : Int32 → Int32 → Int32 → (Nat → Int32) → (Nat → Int32) → (Nat → Int32) → Option (Int32 × (Nat → Int32) × (Nat → Int32) × (Nat → Int32))} (hk6 : ∀ (v1 : Int32) (v2 : Int32) (v3 : Int32) (x1 : (Nat → Int32)) (x13 : (Nat → Int32)) (x14 : (Nat → Int32)), k6 v1 v2 v3 x1 x13 x14 = some (r, rx1, rx13, rx14) → gV l b0 D K (n, κ, ov X0 [1, 3, 4, 5, 13, 14] [x1, x3, x4, x5, x13, x14], ov Y0 [] [], Z, 0, 0) 6 [(0, .ref (b0 + 13)), (1, .int v1), (2, .int v2), (3, .int v3)] []) {v2 : Int32} {v3 : Int32} {s0 : Int32} {x1 : (Nat → Int32)} {x13 : (Nat → Int32)} {x14 : (Nat → Int32)} (hf : fX5_readSum_61 x3 x4 x5 k6 v2 v3 s0 x1 x13 x14 = some (r, rx1, rx13, rx14)) : gV l b0 D K (n, κ, ov X0 [1, 3, 4, 5, 13, 14] [x1, x3, x4, x5, x13, x14], ov Y0 [] [], Z, 0, 0) 61 [(0, .ref (b0 + 13)), (2, .int v2), (3, .int v3)] [.int s0] := by
  unfold fX5_readSum_61 at hf
  refine g_istore_n hC (i := 1) [(1, .int s0), (0, .ref (b0 + 13)), (2, .int v2), (3, .int v3)] rfl dX5_readSum_61 (by decide) rfl ?_
  refine g_iload_n hC 0 dX5_readSum_62 rfl rfl ?_
  refine g_if_ne hC 112 dX5_readSum_63 (by decide) (fun hc => ?_) (fun hc => ?_)
  · replace hf := ifF hf hc
    exact g_sub [1, 0, 2, 3] rfl (wX5_readSum_112 hL hN hM hC  hret hk6 hf)
  · replace hf := ifT hf hc
    refine g_iload_n hC 2 dX5_readSum_66 rfl rfl ?_
    refine g_if_eq hC 77 dX5_readSum_67 (by decide) (fun hc => ?_) (fun hc => ?_)
    · replace hf := ifT hf hc
      exact g_sub [1, 0, 3] rfl (wX5_readSum_77 hL hN hM hC  hret hk6 hf)
    · replace hf := ifF hf hc
      refine g_aload_n hC 1 dX5_readSum_70 rfl rfl ?_
      refine g_iload_n hC 2 dX5_readSum_71 rfl rfl ?_
      refine g_iconst hC (v := 0) dX5_readSum_72 ic_0 ?_
      obtain ⟨r_1, x13_2, x14_3, q_4, hf⟩ := bd3E hf
      refine g_callV_i (a := 13) hC (X' := ov X0 [1, 3, 4, 5, 13, 14] [x1, x3, x4, x5, x13_2, x14_3]) (Y' := ov Y0 [] []) (As := [.int v2, .int 0]) (gMi_eq (c_X5_write l hL (ov_map hN [4, 5] (by rfl) (by rfl)) (ov_map hM [] (by rfl) (by rfl)) q_4) (ov_ovE hN (by rfl) [4, 5] [0, 1, 2, 3] (by rfl) (by rfl) [x1, x3, x4, x5] (by rfl) (by rfl) (by rfl) 6 (by rfl) (by decide)) (ov_ovE hM (by rfl) [] [] (by rfl) (by rfl) [] (by rfl) (by rfl) (by rfl) 0 (by rfl) (by decide))) tw_739 tw_736 tw_121 tw_738 tw_18 (ci := 5) rfl (by decide) (kk_13 hL) (kn_13 hL) pd_X5_write (by decide) (by decide) rfl rfl (Nat.le_of_ble_eq_true rfl) rfl dX5_readSum_73 ?_
      refine g_pop hC dX5_readSum_76 rfl ?_
      exact g_sub [1, 0, 3] rfl (wX5_readSum_77 hL hN hM hC  hret hk6 hf)

def fX5_readSum_33   (x3 : Nat → Int32) (x4 : Nat → Int32) (x5 : Nat → Int32)  (k6 : Int32 → Int32 → Int32 → (Nat → Int32) → (Nat → Int32) → (Nat → Int32) → Option (Int32 × (Nat → Int32) × (Nat → Int32) × (Nat → Int32))) (v2 : Int32) (v3 : Int32) (x1 : (Nat → Int32)) (x13 : (Nat → Int32)) (x14 : (Nat → Int32)) : Option (Int32 × (Nat → Int32) × (Nat → Int32) × (Nat → Int32)) := bd1 (fX8_code x1 x3) fun r_1 => (bd1 (fX11_isWithin r_1 9 11) fun r_3 => (if r_3 = 0 then (fX5_readSum_61 x3 x4 x5 k6 v2 v3 0 x1 x13 x14) else (bd1 (fX8_code x1 x3) fun r_5 => (fX5_readSum_61 x3 x4 x5 k6 v2 v3 r_5 x1 x13 x14))))
set_option maxHeartbeats 4000000 in
set_option maxRecDepth 100000 in
theorem wX5_readSum_33 {l : Launch} {b0 : Nat} {D : GD} {K : KT} {n : Nat} {κ : QT} {X0 : XT} {Y0 : YT} {Z : ZT} (hL : LY n κ) (hN : ([1, 3, 4, 5, 13, 14] : List Nat).Nodup) (hM : ([] : List Nat).Nodup) (hC : gC l b0 D K RX5 cX5_readSum (some FieldType.boolean) 4 2 43 0 0) {x3 : Nat → Int32} {x4 : Nat → Int32} {x5 : Nat → Int32} {r : Int32} {rx1 : (Nat → Int32)} {rx13 : (Nat → Int32)} {rx14 : (Nat → Int32)} (hret : ∀ pc loc, narrow .boolean (.int r) = .int r → decode cX5_readSum pc = .ok (.ireturn, 1) → gV l b0 D K (n, κ, ov X0 [1, 3, 4, 5, 13, 14] [rx1, x3, x4, x5, rx13, rx14], ov Y0 [] [], Z, 0, 0) pc loc [.int r]) {k6 : Int32 → Int32 → Int32 → (Nat → Int32) → (Nat → Int32) → (Nat → Int32) → Option (Int32 × (Nat → Int32) × (Nat → Int32) × (Nat → Int32))} (hk6 : ∀ (v1 : Int32) (v2 : Int32) (v3 : Int32) (x1 : (Nat → Int32)) (x13 : (Nat → Int32)) (x14 : (Nat → Int32)), k6 v1 v2 v3 x1 x13 x14 = some (r, rx1, rx13, rx14) → gV l b0 D K (n, κ, ov X0 [1, 3, 4, 5, 13, 14] [x1, x3, x4, x5, x13, x14], ov Y0 [] [], Z, 0, 0) 6 [(0, .ref (b0 + 13)), (1, .int v1), (2, .int v2), (3, .int v3)] []) {v2 : Int32} {v3 : Int32} {x1 : (Nat → Int32)} {x13 : (Nat → Int32)} {x14 : (Nat → Int32)} (hf : fX5_readSum_33 x3 x4 x5 k6 v2 v3 x1 x13 x14 = some (r, rx1, rx13, rx14)) : gV l b0 D K (n, κ, ov X0 [1, 3, 4, 5, 13, 14] [x1, x3, x4, x5, x13, x14], ov Y0 [] [], Z, 0, 0) 33 [(0, .ref (b0 + 13)), (2, .int v2), (3, .int v3)] [] := by
  unfold fX5_readSum_33 at hf
  refine g_aload_n hC 0 dX5_readSum_33 rfl rfl ?_
  refine gt_X5_15 hC (a := 13) (kk_13 hL) (kn_13 hL) dX5_readSum_34 ?_
  refine g_ref (b := 1) rfl ?_
  obtain ⟨r_1, q_2, hf⟩ := bd1E hf
  refine g_callV_i (a := 1) hC (X' := ov X0 [1, 3, 4, 5, 13, 14] [x1, x3, x4, x5, x13, x14]) (Y' := ov Y0 [] []) (As := []) (gMi_eq (c_X8_code l hL (ov_map hN [0, 1] (by rfl) (by rfl)) (ov_map hM [] (by rfl) (by rfl)) q_2) (ov_ovE hN (by rfl) [0, 1] [2, 3, 4, 5] (by rfl) (by rfl) [x4, x5, x13, x14] (by rfl) (by rfl) (by rfl) 6 (by rfl) (by decide)) (ov_ovE hM (by rfl) [] [] (by rfl) (by rfl) [] (by rfl) (by rfl) (by rfl) 0 (by rfl) (by decide))) tw_639 tw_723 tw_117 tw_637 tw_638 (ci := 8) rfl (by decide) (kk_1 hL) (kn_1 hL) pd_X8_code (by decide) (by decide) rfl rfl (Nat.le_of_ble_eq_true rfl) rfl dX5_readSum_37 ?_
  refine g_bipush hC (v := 9) dX5_readSum_40 bp_9 ?_
  refine g_bipush hC (v := 11) dX5_readSum_42 bp_11 ?_
  obtain ⟨r_3, q_4, hf⟩ := bd1E hf
  refine g_callSN_i hC (X' := ov X0 [1, 3, 4, 5, 13, 14] [x1, x3, x4, x5, x13, x14]) (Y' := ov Y0 [] []) (As := [.int r_1, .int 9, .int 11]) (gMi_eq (c_X11_isWithin l hL (ov_map hN [] (by rfl) (by rfl)) (ov_map hM [] (by rfl) (by rfl)) q_4) (ov_ovE hN (by rfl) [] [0, 1, 2, 3, 4, 5] (by rfl) (by rfl) [x1, x3, x4, x5, x13, x14] (by rfl) (by rfl) (by rfl) 6 (by rfl) (by decide)) (ov_ovE hM (by rfl) [] [] (by rfl) (by rfl) [] (by rfl) (by rfl) (by rfl) 0 (by rfl) (by decide))) tw_666 (List.mem_of_getElem? (i := 11) rfl) tw_116 tw_665 pd_X11_isWithin (by decide) (by decide) rfl rfl (Nat.le_of_ble_eq_true rfl) rfl dX5_readSum_44 ?_
  refine g_if_eq hC 60 dX5_readSum_47 (by decide) (fun hc => ?_) (fun hc => ?_)
  · replace hf := ifT hf hc
    refine g_iconst hC (v := 0) dX5_readSum_60 ic_0 ?_
    exact g_sub [0, 1, 2] rfl (wX5_readSum_61 hL hN hM hC  hret hk6 hf)
  · replace hf := ifF hf hc
    refine g_aload_n hC 0 dX5_readSum_50 rfl rfl ?_
    refine gt_X5_15 hC (a := 13) (kk_13 hL) (kn_13 hL) dX5_readSum_51 ?_
    refine g_ref (b := 1) rfl ?_
    obtain ⟨r_5, q_6, hf⟩ := bd1E hf
    refine g_callV_i (a := 1) hC (X' := ov X0 [1, 3, 4, 5, 13, 14] [x1, x3, x4, x5, x13, x14]) (Y' := ov Y0 [] []) (As := []) (gMi_eq (c_X8_code l hL (ov_map hN [0, 1] (by rfl) (by rfl)) (ov_map hM [] (by rfl) (by rfl)) q_6) (ov_ovE hN (by rfl) [0, 1] [2, 3, 4, 5] (by rfl) (by rfl) [x4, x5, x13, x14] (by rfl) (by rfl) (by rfl) 6 (by rfl) (by decide)) (ov_ovE hM (by rfl) [] [] (by rfl) (by rfl) [] (by rfl) (by rfl) (by rfl) 0 (by rfl) (by decide))) tw_639 tw_723 tw_117 tw_637 tw_638 (ci := 8) rfl (by decide) (kk_1 hL) (kn_1 hL) pd_X8_code (by decide) (by decide) rfl rfl (Nat.le_of_ble_eq_true rfl) rfl dX5_readSum_54 ?_
    refine g_goto hC 61 dX5_readSum_57 (by decide) ?_
    exact g_sub [0, 1, 2] rfl (wX5_readSum_61 hL hN hM hC  hret hk6 hf)

def fX5_readSum_6b   (x3 : Nat → Int32) (x4 : Nat → Int32) (x5 : Nat → Int32)  (k6 : Int32 → Int32 → Int32 → (Nat → Int32) → (Nat → Int32) → (Nat → Int32) → Option (Int32 × (Nat → Int32) × (Nat → Int32) × (Nat → Int32))) (v1 : Int32) (v2 : Int32) (v3 : Int32) (x1 : (Nat → Int32)) (x13 : (Nat → Int32)) (x14 : (Nat → Int32)) : Option (Int32 × (Nat → Int32) × (Nat → Int32) × (Nat → Int32)) := if 400 ≤ v3 then (bd2 (fX8_fail x4 0 x1) fun r_1 x1_2 => (gd (bz r_1) (some (r_1, x1_2, x13, x14)))) else (bd4 (fX5_readValue x3 x4 x5 x1 x13 x14) fun r_5 x1_6 x13_7 x14_8 => (if r_5 = 0 then (some (0, x1_6, x13_7, x14_8)) else (if v1 = 0 then (fX5_readSum_33 x3 x4 x5 k6 v2 v3 x1_6 x13_7 x14_8) else (bd3 (fX5_write v1 0 x13_7 x14_8) fun r_10 x13_11 x14_12 => (fX5_readSum_33 x3 x4 x5 k6 v2 v3 x1_6 x13_11 x14_12)))))
def fX5_readSum_6   (x3 : Nat → Int32) (x4 : Nat → Int32) (x5 : Nat → Int32)  : Int32 → Int32 → Int32 → (Nat → Int32) → (Nat → Int32) → (Nat → Int32) → Option (Int32 × (Nat → Int32) × (Nat → Int32) × (Nat → Int32)) := lq6 (fX5_readSum_6b x3 x4 x5 ) 5000
set_option maxHeartbeats 4000000 in
set_option maxRecDepth 100000 in
theorem wX5_readSum_6 {l : Launch} {b0 : Nat} {D : GD} {K : KT} {n : Nat} {κ : QT} {X0 : XT} {Y0 : YT} {Z : ZT} (hL : LY n κ) (hN : ([1, 3, 4, 5, 13, 14] : List Nat).Nodup) (hM : ([] : List Nat).Nodup) (hC : gC l b0 D K RX5 cX5_readSum (some FieldType.boolean) 4 2 43 0 0) {x3 : Nat → Int32} {x4 : Nat → Int32} {x5 : Nat → Int32} {r : Int32} {rx1 : (Nat → Int32)} {rx13 : (Nat → Int32)} {rx14 : (Nat → Int32)} (hret : ∀ pc loc, narrow .boolean (.int r) = .int r → decode cX5_readSum pc = .ok (.ireturn, 1) → gV l b0 D K (n, κ, ov X0 [1, 3, 4, 5, 13, 14] [rx1, x3, x4, x5, rx13, rx14], ov Y0 [] [], Z, 0, 0) pc loc [.int r]) : ∀ (j : Nat) (v1 : Int32) (v2 : Int32) (v3 : Int32) (x1 : (Nat → Int32)) (x13 : (Nat → Int32)) (x14 : (Nat → Int32)), lq6 (fX5_readSum_6b x3 x4 x5 ) j v1 v2 v3 x1 x13 x14 = some (r, rx1, rx13, rx14) → gV l b0 D K (n, κ, ov X0 [1, 3, 4, 5, 13, 14] [x1, x3, x4, x5, x13, x14], ov Y0 [] [], Z, 0, 0) 6 [(0, .ref (b0 + 13)), (1, .int v1), (2, .int v2), (3, .int v3)] [] := by
  intro j
  induction j with
  | zero => intro v1 v2 v3 x1 x13 x14 hf; cases hf
  | succ j hk6 =>
    intro v1 v2 v3 x1 x13 x14 hf
    replace hf : fX5_readSum_6b x3 x4 x5  (lq6 (fX5_readSum_6b x3 x4 x5 ) j) v1 v2 v3 x1 x13 x14 = some (r, rx1, rx13, rx14) := hf
    unfold fX5_readSum_6b at hf
    refine g_iload_n hC 3 dX5_readSum_6 rfl rfl ?_
    refine g_sipush hC (v := 400) dX5_readSum_7 sp_400 ?_
    refine g_icmp_ge hC 125 dX5_readSum_10 (by decide) (fun hc => ?_) (fun hc => ?_)
    · replace hf := ifT hf hc
      refine g_aload_n hC 0 dX5_readSum_125 rfl rfl ?_
      refine gt_X5_15 hC (a := 13) (kk_13 hL) (kn_13 hL) dX5_readSum_126 ?_
      refine g_ref (b := 1) rfl ?_
      refine g_iconst hC (v := 0) dX5_readSum_129 ic_0 ?_
      obtain ⟨r_1, x1_2, q_3, hf⟩ := bd2E hf
      refine g_callV_i (a := 1) hC (X' := ov X0 [1, 3, 4, 5, 13, 14] [x1_2, x3, x4, x5, x13, x14]) (Y' := ov Y0 [] []) (As := [.int 0]) (gMi_eq (c_X8_fail l hL (ov_map hN [0, 2] (by rfl) (by rfl)) (ov_map hM [] (by rfl) (by rfl)) q_3) (ov_ovE hN (by rfl) [0, 2] [1, 3, 4, 5] (by rfl) (by rfl) [x3, x5, x13, x14] (by rfl) (by rfl) (by rfl) 6 (by rfl) (by decide)) (ov_ovE hM (by rfl) [] [] (by rfl) (by rfl) [] (by rfl) (by rfl) (by rfl) 0 (by rfl) (by decide))) tw_643 tw_724 tw_117 tw_641 tw_642 (ci := 8) rfl (by decide) (kk_1 hL) (kn_1 hL) pd_X8_fail (by decide) (by decide) rfl rfl (Nat.le_of_ble_eq_true rfl) rfl dX5_readSum_130 ?_
      obtain ⟨h_4, hf⟩ := gdE hf
      obtain ⟨rfl, rfl, rfl, rfl⟩ := sm4E hf
      exact hret _ _ (bz_nar h_4) dX5_readSum_133
    · replace hf := ifF hf hc
      refine g_aload_n hC 0 dX5_readSum_13 rfl rfl ?_
      obtain ⟨r_5, x1_6, x13_7, x14_8, q_9, hf⟩ := bd4E hf
      refine g_callV_i (a := 13) hC (X' := ov X0 [1, 3, 4, 5, 13, 14] [x1_6, x3, x4, x5, x13_7, x14_8]) (Y' := ov Y0 [] []) (As := []) (gMi_eq (c_X5_readValue l hL (ov_map hN [0, 1, 2, 3, 4, 5] (by rfl) (by rfl)) (ov_map hM [] (by rfl) (by rfl)) q_9) (ov_ovE hN (by rfl) [0, 1, 2, 3, 4, 5] [] (by rfl) (by rfl) [] (by rfl) (by rfl) (by rfl) 6 (by rfl) (by decide)) (ov_ovE hM (by rfl) [] [] (by rfl) (by rfl) [] (by rfl) (by rfl) (by rfl) 0 (by rfl) (by decide))) tw_733 tw_730 tw_121 tw_732 tw_17 (ci := 5) rfl (by decide) (kk_13 hL) (kn_13 hL) pd_X5_readValue (by decide) (by decide) rfl rfl (Nat.le_of_ble_eq_true rfl) rfl dX5_readSum_14 ?_
      refine g_if_ne hC 22 dX5_readSum_17 (by decide) (fun hc => ?_) (fun hc => ?_)
      · replace hf := ifF hf hc
        refine g_iload_n hC 1 dX5_readSum_22 rfl rfl ?_
        refine g_if_eq hC 33 dX5_readSum_23 (by decide) (fun hc => ?_) (fun hc => ?_)
        · replace hf := ifT hf hc
          exact g_sub [0, 2, 3] rfl (wX5_readSum_33 hL hN hM hC  hret hk6 hf)
        · replace hf := ifF hf hc
          refine g_aload_n hC 0 dX5_readSum_26 rfl rfl ?_
          refine g_iload_n hC 1 dX5_readSum_27 rfl rfl ?_
          refine g_iconst hC (v := 0) dX5_readSum_28 ic_0 ?_
          obtain ⟨r_10, x13_11, x14_12, q_13, hf⟩ := bd3E hf
          refine g_callV_i (a := 13) hC (X' := ov X0 [1, 3, 4, 5, 13, 14] [x1_6, x3, x4, x5, x13_11, x14_12]) (Y' := ov Y0 [] []) (As := [.int v1, .int 0]) (gMi_eq (c_X5_write l hL (ov_map hN [4, 5] (by rfl) (by rfl)) (ov_map hM [] (by rfl) (by rfl)) q_13) (ov_ovE hN (by rfl) [4, 5] [0, 1, 2, 3] (by rfl) (by rfl) [x1_6, x3, x4, x5] (by rfl) (by rfl) (by rfl) 6 (by rfl) (by decide)) (ov_ovE hM (by rfl) [] [] (by rfl) (by rfl) [] (by rfl) (by rfl) (by rfl) 0 (by rfl) (by decide))) tw_739 tw_736 tw_121 tw_738 tw_18 (ci := 5) rfl (by decide) (kk_13 hL) (kn_13 hL) pd_X5_write (by decide) (by decide) rfl rfl (Nat.le_of_ble_eq_true rfl) rfl dX5_readSum_29 ?_
          refine g_pop hC dX5_readSum_32 rfl ?_
          exact g_sub [0, 2, 3] rfl (wX5_readSum_33 hL hN hM hC  hret hk6 hf)
      · replace hf := ifT hf hc
        refine g_iconst hC (v := 0) dX5_readSum_20 ic_0 ?_
        obtain ⟨rfl, rfl, rfl, rfl⟩ := sm4E hf
        exact hret _ _ rfl dX5_readSum_21

def fX5_readSum_0   (x3 : Nat → Int32) (x4 : Nat → Int32) (x5 : Nat → Int32)  (x1 : (Nat → Int32)) (x13 : (Nat → Int32)) (x14 : (Nat → Int32)) : Option (Int32 × (Nat → Int32) × (Nat → Int32) × (Nat → Int32)) := fX5_readSum_6 x3 x4 x5  0 0 0 x1 x13 x14
set_option maxHeartbeats 4000000 in
set_option maxRecDepth 100000 in
theorem wX5_readSum_0 {l : Launch} {b0 : Nat} {D : GD} {K : KT} {n : Nat} {κ : QT} {X0 : XT} {Y0 : YT} {Z : ZT} (hL : LY n κ) (hN : ([1, 3, 4, 5, 13, 14] : List Nat).Nodup) (hM : ([] : List Nat).Nodup) (hC : gC l b0 D K RX5 cX5_readSum (some FieldType.boolean) 4 2 43 0 0) {x3 : Nat → Int32} {x4 : Nat → Int32} {x5 : Nat → Int32} {r : Int32} {rx1 : (Nat → Int32)} {rx13 : (Nat → Int32)} {rx14 : (Nat → Int32)} (hret : ∀ pc loc, narrow .boolean (.int r) = .int r → decode cX5_readSum pc = .ok (.ireturn, 1) → gV l b0 D K (n, κ, ov X0 [1, 3, 4, 5, 13, 14] [rx1, x3, x4, x5, rx13, rx14], ov Y0 [] [], Z, 0, 0) pc loc [.int r]) {x1 : (Nat → Int32)} {x13 : (Nat → Int32)} {x14 : (Nat → Int32)} (hf : fX5_readSum_0 x3 x4 x5  x1 x13 x14 = some (r, rx1, rx13, rx14)) : gV l b0 D K (n, κ, ov X0 [1, 3, 4, 5, 13, 14] [x1, x3, x4, x5, x13, x14], ov Y0 [] [], Z, 0, 0) 0 [(0, .ref (b0 + 13))] [] := by
  unfold fX5_readSum_0 at hf
  refine g_iconst hC (v := 0) dX5_readSum_0 ic_0 ?_
  refine g_istore_n hC (i := 1) [(1, .int 0), (0, .ref (b0 + 13))] rfl dX5_readSum_1 (by decide) rfl ?_
  refine g_iconst hC (v := 0) dX5_readSum_2 ic_0 ?_
  refine g_istore_n hC (i := 2) [(2, .int 0), (1, .int 0), (0, .ref (b0 + 13))] rfl dX5_readSum_3 (by decide) rfl ?_
  refine g_iconst hC (v := 0) dX5_readSum_4 ic_0 ?_
  refine g_istore_n hC (i := 3) [(3, .int 0), (2, .int 0), (1, .int 0), (0, .ref (b0 + 13))] rfl dX5_readSum_5 (by decide) rfl ?_
  exact g_sub [3, 2, 1, 0] rfl (wX5_readSum_6 hL hN hM hC  hret  5000 0 0 0 x1 x13 x14 hf)

def fX5_readSum   (x3 : Nat → Int32) (x4 : Nat → Int32) (x5 : Nat → Int32)   (x1 : Nat → Int32) (x13 : Nat → Int32) (x14 : Nat → Int32)  : Option (Int32 × (Nat → Int32) × (Nat → Int32) × (Nat → Int32)) := fX5_readSum_0 x3 x4 x5 x1 x13 x14

set_option maxHeartbeats 4000000 in
set_option maxRecDepth 100000 in
theorem c_X5_readSum (l : Launch) {b0 : Nat} {D : GD} {n : Nat} {κ : QT} {X0 : XT} {Y0 : YT} {Z : ZT} (hL : LY n κ) {x1 : Nat → Int32} {x3 : Nat → Int32} {x4 : Nat → Int32} {x5 : Nat → Int32} {x13 : Nat → Int32} {x14 : Nat → Int32} (hx : ([1, 3, 4, 5, 13, 14] : List Nat).map X0 = [x1, x3, x4, x5, x13, x14]) (hy : ([] : List Nat).map Y0 = []) {r : Int32} {rx1 : (Nat → Int32)} {rx13 : (Nat → Int32)} {rx14 : (Nat → Int32)} (hf : fX5_readSum x3 x4 x5 x1 x13 x14 = some (r, rx1, rx13, rx14)) : gMi l yX5_readSum cX5_readSum 4 (some FieldType.boolean) 2 43 0 0 b0 D [.ref (b0 + 13)] (n, κ, X0, Y0, Z) (n, κ, ov X0 [1, 3, 4, 5, 13, 14] [rx1, x3, x4, x5, rx13, rx14], ov Y0 [] [], Z) r := by
  have hN : ([1, 3, 4, 5, 13, 14] : List Nat).Nodup := by decide
  have hM : ([] : List Nat).Nodup := by decide
  refine g_meti (own := RX5) (by decide) rfl rfl (Nat.le_of_ble_eq_true rfl) ?_
  intro K hC hret
  have e := wX5_readSum_0 hL hN hM hC  hret hf
  rw [ov_id' hx, ov_id' hy] at e
  exact g_sub [0] rfl e


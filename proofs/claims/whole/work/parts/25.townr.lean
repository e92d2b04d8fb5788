-- X10_readNumber
def fX10_readNumber_59   (x3 : Nat → Int32) (x4 : Nat → Int32) (x5 : Nat → Int32)  (x1 : (Nat → Int32)) : Option (Int32 × (Nat → Int32)) := bd2 (fX8_fail x4 1 x1) fun r_1 x1_2 => (some ((-1), x1_2))
set_option maxHeartbeats 4000000 in
set_option maxRecDepth 100000 in
theorem wX10_readNumber_59 {l : Launch} {b0 : Nat} {D : GD} {K : KT} {n : Nat} {κ : QT} {X0 : XT} {Y0 : YT} {Z : ZT} (hL : LY n κ) (hN : ([1, 3, 4, 5] : List Nat).Nodup) (hM : ([] : List Nat).Nodup) (hC : gC l b0 D K RX10 cX10_readNumber (some FieldType.int) 4 1 22 0 0) {x3 : Nat → Int32} {x4 : Nat → Int32} {x5 : Nat → Int32} {r : Int32} {rx1 : (Nat → Int32)} (hret : ∀ pc loc, narrow .int (.int r) = .int r → decode cX10_readNumber pc = .ok (.ireturn, 1) → gV l b0 D K (n, κ, ov X0 [1, 3, 4, 5] [rx1, x3, x4, x5], ov Y0 [] [], Z, 0, 0) pc loc [.int r]) {x1 : (Nat → Int32)} (hf : fX10_readNumber_59 x3 x4 x5  x1 = some (r, rx1)) : gV l b0 D K (n, κ, ov X0 [1, 3, 4, 5] [x1, x3, x4, x5], ov Y0 [] [], Z, 0, 0) 59 [(0, .ref (b0 + 6))] [] := by
  unfold fX10_readNumber_59 at hf
  refine g_aload_n hC 0 dX10_readNumber_59 rfl rfl ?_
  refine gt_X10_18 hC (a := 6) (kk_6 hL) (kn_6 hL) dX10_readNumber_60 ?_
  refine g_ref (b := 1) rfl ?_
  refine g_iconst hC (v := 1) dX10_readNumber_63 ic_1 ?_
  obtain ⟨r_1, x1_2, q_3, hf⟩ := bd2E hf
  refine g_callV_i (a := 1) hC (X' := ov X0 [1, 3, 4, 5] [x1_2, x3, x4, x5]) (Y' := ov Y0 [] []) (As := [.int 1]) (gMi_eq (c_X8_fail l hL (ov_map hN [0, 2] (by rfl) (by rfl)) (ov_map hM [] (by rfl) (by rfl)) q_3) (ov_ovE hN (by rfl) [0, 2] [1, 3] (by rfl) (by rfl) [x3, x5] (by rfl) (by rfl) (by rfl) 4 (by rfl) (by decide)) (ov_ovE hM (by rfl) [] [] (by rfl) (by rfl) [] (by rfl) (by rfl) (by rfl) 0 (by rfl) (by decide))) tw_643 tw_640 tw_117 tw_641 tw_642 (ci := 8) rfl (by decide) (kk_1 hL) (kn_1 hL) pd_X8_fail (by decide) (by decide) rfl rfl (Nat.le_of_ble_eq_true rfl) rfl dX10_readNumber_64 ?_
  refine g_pop hC dX10_readNumber_67 rfl ?_
  refine g_iconst hC (v := (-1)) dX10_readNumber_68 ic_m1 ?_
  obtain ⟨rfl, rfl⟩ := sm2E hf
  exact hret _ _ rfl dX10_readNumber_69

def fX10_readNumber_33   (x3 : Nat → Int32) (x4 : Nat → Int32) (x5 : Nat → Int32)  (v1 : Int32) (v2 : Int32) (x1 : (Nat → Int32)) : Option (Int32 × (Nat → Int32)) := bd1 (fX8_code x1 x3) fun r_1 => (if r_1 = 2 then (fX10_readNumber_59 x3 x4 x5  x1) else (bd1 (fX8_number x1 x5) fun r_3 => (bd1 (fX11_isWithin r_3 v1 v2) fun r_5 => (if r_5 = 0 then (fX10_readNumber_59 x3 x4 x5  x1) else (bd1 (fX8_number x1 x5) fun r_7 => (bd1 (fX8_skip x1) fun x1_9 => (some (r_7, x1_9))))))))
set_option maxHeartbeats 4000000 in
set_option maxRecDepth 100000 in
theorem wX10_readNumber_33 {l : Launch} {b0 : Nat} {D : GD} {K : KT} {n : Nat} {κ : QT} {X0 : XT} {Y0 : YT} {Z : ZT} (hL : LY n κ) (hN : ([1, 3, 4, 5] : List Nat).Nodup) (hM : ([] : List Nat).Nodup) (hC : gC l b0 D K RX10 cX10_readNumber (some FieldType.int) 4 1 22 0 0) {x3 : Nat → Int32} {x4 : Nat → Int32} {x5 : Nat → Int32} {r : Int32} {rx1 : (Nat → Int32)} (hret : ∀ pc loc, narrow .int (.int r) = .int r → decode cX10_readNumber pc = .ok (.ireturn, 1) → gV l b0 D K (n, κ, ov X0 [1, 3, 4, 5] [rx1, x3, x4, x5], ov Y0 [] [], Z, 0, 0) pc loc [.int r]) {v1 : Int32} {v2 : Int32} {x1 : (Nat → Int32)} (hf : fX10_readNumber_33 x3 x4 x5  v1 v2 x1 = some (r, rx1)) : gV l b0 D K (n, κ, ov X0 [1, 3, 4, 5] [x1, x3, x4, x5], ov Y0 [] [], Z, 0, 0) 33 [(0, .ref (b0 + 6)), (1, .int v1), (2, .int v2)] [] := by
  unfold fX10_readNumber_33 at hf
  refine g_aload_n hC 0 dX10_readNumber_33 rfl rfl ?_
  refine gt_X10_18 hC (a := 6) (kk_6 hL) (kn_6 hL) dX10_readNumber_34 ?_
  refine g_ref (b := 1) rfl ?_
  obtain ⟨r_1, q_2, hf⟩ := bd1E hf
  refine g_callV_i (a := 1) hC (X' := ov X0 [1, 3, 4, 5] [x1, x3, x4, x5]) (Y' := ov Y0 [] []) (As := []) (gMi_eq (c_X8_code l hL (ov_map hN [0, 1] (by rfl) (by rfl)) (ov_map hM [] (by rfl) (by rfl)) q_2) (ov_ovE hN (by rfl) [0, 1] [2, 3] (by rfl) (by rfl) [x4, x5] (by rfl) (by rfl) (by rfl) 4 (by rfl) (by decide)) (ov_ovE hM (by rfl) [] [] (by rfl) (by rfl) [] (by rfl) (by rfl) (by rfl) 0 (by rfl) (by decide))) tw_639 tw_636 tw_117 tw_637 tw_638 (ci := 8) rfl (by decide) (kk_1 hL) (kn_1 hL) pd_X8_code (by decide) (by decide) rfl rfl (Nat.le_of_ble_eq_true rfl) rfl dX10_readNumber_37 ?_
  refine g_iconst hC (v := 2) dX10_readNumber_40 ic_2 ?_
  refine g_icmp_eq hC 59 dX10_readNumber_41 (by decide) (fun hc => ?_) (fun hc => ?_)
  · replace hf := ifT hf hc
    exact g_sub [0] rfl (wX10_readNumber_59 hL hN hM hC  hret  hf)
  · replace hf := ifF hf hc
    refine g_aload_n hC 0 dX10_readNumber_44 rfl rfl ?_
    refine gt_X10_18 hC (a := 6) (kk_6 hL) (kn_6 hL) dX10_readNumber_45 ?_
    refine g_ref (b := 1) rfl ?_
    obtain ⟨r_3, q_4, hf⟩ := bd1E hf
    refine g_callV_i (a := 1) hC (X' := ov X0 [1, 3, 4, 5] [x1, x3, x4, x5]) (Y' := ov Y0 [] []) (As := []) (gMi_eq (c_X8_number l hL (ov_map hN [0, 3] (by rfl) (by rfl)) (ov_map hM [] (by rfl) (by rfl)) q_4) (ov_ovE hN (by rfl) [0, 3] [1, 2] (by rfl) (by rfl) [x3, x4] (by rfl) (by rfl) (by rfl) 4 (by rfl) (by decide)) (ov_ovE hM (by rfl) [] [] (by rfl) (by rfl) [] (by rfl) (by rfl) (by rfl) 0 (by rfl) (by decide))) tw_663 tw_660 tw_117 tw_661 tw_662 (ci := 8) rfl (by decide) (kk_1 hL) (kn_1 hL) pd_X8_number (by decide) (by decide) rfl rfl (Nat.le_of_ble_eq_true rfl) rfl dX10_readNumber_48 ?_
    refine g_iload_n hC 1 dX10_readNumber_51 rfl rfl ?_
    refine g_iload_n hC 2 dX10_readNumber_52 rfl rfl ?_
    obtain ⟨r_5, q_6, hf⟩ := bd1E hf
    refine g_callSN_i hC (X' := ov X0 [1, 3, 4, 5] [x1, x3, x4, x5]) (Y' := ov Y0 [] []) (As := [.int r_3, .int v1, .int v2]) (gMi_eq (c_X11_isWithin l hL (ov_map hN [] (by rfl) (by rfl)) (ov_map hM [] (by rfl) (by rfl)) q_6) (ov_ovE hN (by rfl) [] [0, 1, 2, 3] (by rfl) (by rfl) [x1, x3, x4, x5] (by rfl) (by rfl) (by rfl) 4 (by rfl) (by decide)) (ov_ovE hM (by rfl) [] [] (by rfl) (by rfl) [] (by rfl) (by rfl) (by rfl) 0 (by rfl) (by decide))) tw_666 (List.mem_of_getElem? (i := 10) rfl) tw_116 tw_665 pd_X11_isWithin (by decide) (by decide) rfl rfl (Nat.le_of_ble_eq_true rfl) rfl dX10_readNumber_53 ?_
    refine g_if_ne hC 70 dX10_readNumber_56 (by decide) (fun hc => ?_) (fun hc => ?_)
    · replace hf := ifF hf hc
      refine g_aload_n hC 0 dX10_readNumber_70 rfl rfl ?_
      refine gt_X10_18 hC (a := 6) (kk_6 hL) (kn_6 hL) dX10_readNumber_71 ?_
      refine g_ref (b := 1) rfl ?_
      obtain ⟨r_7, q_8, hf⟩ := bd1E hf
      refine g_callV_i (a := 1) hC (X' := ov X0 [1, 3, 4, 5] [x1, x3, x4, x5]) (Y' := ov Y0 [] []) (As := []) (gMi_eq (c_X8_number l hL (ov_map hN [0, 3] (by rfl) (by rfl)) (ov_map hM [] (by rfl) (by rfl)) q_8) (ov_ovE hN (by rfl) [0, 3] [1, 2] (by rfl) (by rfl) [x3, x4] (by rfl) (by rfl) (by rfl) 4 (by rfl) (by decide)) (ov_ovE hM (by rfl) [] [] (by rfl) (by rfl) [] (by rfl) (by rfl) (by rfl) 0 (by rfl) (by decide))) tw_663 tw_660 tw_117 tw_661 tw_662 (ci := 8) rfl (by decide) (kk_1 hL) (kn_1 hL) pd_X8_number (by decide) (by decide) rfl rfl (Nat.le_of_ble_eq_true rfl) rfl dX10_readNumber_74 ?_
      refine g_istore_n hC (i := 3) [(3, .int r_7), (0, .ref (b0 + 6)), (1, .int v1), (2, .int v2)] rfl dX10_readNumber_77 (by decide) rfl ?_
      refine g_aload_n hC 1 dX10_readNumber_78 rfl rfl ?_
      refine gt_X10_18 hC (a := 6) (kk_6 hL) (kn_6 hL) dX10_readNumber_79 ?_
      refine g_ref (b := 1) rfl ?_
      obtain ⟨x1_9, q_10, hf⟩ := bd1E hf
      refine g_callV_v (a := 1) hC (X' := ov X0 [1, 3, 4, 5] [x1_9, x3, x4, x5]) (Y' := ov Y0 [] []) (As := []) (gMv_eq (c_X8_skip l hL (ov_map hN [0] (by rfl) (by rfl)) (ov_map hM [] (by rfl) (by rfl)) q_10) (ov_ovE hN (by rfl) [0] [1, 2, 3] (by rfl) (by rfl) [x3, x4, x5] (by rfl) (by rfl) (by rfl) 4 (by rfl) (by decide)) (ov_ovE hM (by rfl) [] [] (by rfl) (by rfl) [] (by rfl) (by rfl) (by rfl) 0 (by rfl) (by decide))) tw_651 tw_648 tw_117 tw_649 tw_650 (ci := 8) rfl (by decide) (kk_1 hL) (kn_1 hL) pd_X8_skip (by decide) (by decide) rfl rfl (Nat.le_of_ble_eq_true rfl) rfl dX10_readNumber_82 ?_
      refine g_iload_n hC 0 dX10_readNumber_85 rfl rfl ?_
      obtain ⟨rfl, rfl⟩ := sm2E hf
      exact hret _ _ rfl dX10_readNumber_86
    · replace hf := ifT hf hc
      exact g_sub [0] rfl (wX10_readNumber_59 hL hN hM hC  hret  hf)

def fX10_readNumber_0   (x3 : Nat → Int32) (x4 : Nat → Int32) (x5 : Nat → Int32)  (v1 : Int32) (v2 : Int32) (x1 : (Nat → Int32)) : Option (Int32 × (Nat → Int32)) := bd1 (fX8_code x1 x3) fun r_1 => (if r_1 = 1 then (fX10_readNumber_33 x3 x4 x5  v1 v2 x1) else (bd1 (fX8_code x1 x3) fun r_3 => (if r_3 = 2 then (fX10_readNumber_33 x3 x4 x5  v1 v2 x1) else (bd2 (fX8_fail x4 0 x1) fun r_5 x1_6 => (some ((-1), x1_6))))))
set_option maxHeartbeats 4000000 in
set_option maxRecDepth 100000 in
theorem wX10_readNumber_0 {l : Launch} {b0 : Nat} {D : GD} {K : KT} {n : Nat} {κ : QT} {X0 : XT} {Y0 : YT} {Z : ZT} (hL : LY n κ) (hN : ([1, 3, 4, 5] : List Nat).Nodup) (hM : ([] : List Nat).Nodup) (hC : gC l b0 D K RX10 cX10_readNumber (some FieldType.int) 4 1 22 0 0) {x3 : Nat → Int32} {x4 : Nat → Int32} {x5 : Nat → Int32} {r : Int32} {rx1 : (Nat → Int32)} (hret : ∀ pc loc, narrow .int (.int r) = .int r → decode cX10_readNumber pc = .ok (.ireturn, 1) → gV l b0 D K (n, κ, ov X0 [1, 3, 4, 5] [rx1, x3, x4, x5], ov Y0 [] [], Z, 0, 0) pc loc [.int r]) {v1 : Int32} {v2 : Int32} {x1 : (Nat → Int32)} (hf : fX10_readNumber_0 x3 x4 x5  v1 v2 x1 = some (r, rx1)) : gV l b0 D K (n, κ, ov X0 [1, 3, 4, 5] [x1, x3, x4, x5], ov Y0 [] [], Z, 0, 0) 0 [(0, .ref (b0 + 6)), (1, .int v1), (2, .int v2)] [] := by
  unfold fX10_readNumber_0 at hf
  refine g_aload_n hC 0 dX10_readNumber_0 rfl rfl ?_
  refine gt_X10_18 hC (a := 6) (kk_6 hL) (kn_6 hL) dX10_readNumber_1 ?_
  refine g_ref (b := 1) rfl ?_
  obtain ⟨r_1, q_2, hf⟩ := bd1E hf
  refine g_callV_i (a := 1) hC (X' := ov X0 [1, 3, 4, 5] [x1, x3, x4, x5]) (Y' := ov Y0 [] []) (As := []) (gMi_eq (c_X8_code l hL (ov_map hN [0, 1] (by rfl) (by rfl)) (ov_map hM [] (by rfl) (by rfl)) q_2) (ov_ovE hN (by rfl) [0, 1] [2, 3] (by rfl) (by rfl) [x4, x5] (by rfl) (by rfl) (by rfl) 4 (by rfl) (by decide)) (ov_ovE hM (by rfl) [] [] (by rfl) (by rfl) [] (by rfl) (by rfl) (by rfl) 0 (by rfl) (by decide))) tw_639 tw_636 tw_117 tw_637 tw_638 (ci := 8) rfl (by decide) (kk_1 hL) (kn_1 hL) pd_X8_code (by decide) (by decide) rfl rfl (Nat.le_of_ble_eq_true rfl) rfl dX10_readNumber_4 ?_
  refine g_iconst hC (v := 1) dX10_readNumber_7 ic_1 ?_
  refine g_icmp_eq hC 33 dX10_readNumber_8 (by decide) (fun hc => ?_) (fun hc => ?_)
  · replace hf := ifT hf hc
    exact g_sub [0, 1, 2] rfl (wX10_readNumber_33 hL hN hM hC  hret  hf)
  · replace hf := ifF hf hc
    refine g_aload_n hC 0 dX10_readNumber_11 rfl rfl ?_
    refine gt_X10_18 hC (a := 6) (kk_6 hL) (kn_6 hL) dX10_readNumber_12 ?_
    refine g_ref (b := 1) rfl ?_
    obtain ⟨r_3, q_4, hf⟩ := bd1E hf
    refine g_callV_i (a := 1) hC (X' := ov X0 [1, 3, 4, 5] [x1, x3, x4, x5]) (Y' := ov Y0 [] []) (As := []) (gMi_eq (c_X8_code l hL (ov_map hN [0, 1] (by rfl) (by rfl)) (ov_map hM [] (by rfl) (by rfl)) q_4) (ov_ovE hN (by rfl) [0, 1] [2, 3] (by rfl) (by rfl) [x4, x5] (by rfl) (by rfl) (by rfl) 4 (by rfl) (by decide)) (ov_ovE hM (by rfl) [] [] (by rfl) (by rfl) [] (by rfl) (by rfl) (by rfl) 0 (by rfl) (by decide))) tw_639 tw_636 tw_117 tw_637 tw_638 (ci := 8) rfl (by decide) (kk_1 hL) (kn_1 hL) pd_X8_code (by decide) (by decide) rfl rfl (Nat.le_of_ble_eq_true rfl) rfl dX10_readNumber_15 ?_
    refine g_iconst hC (v := 2) dX10_readNumber_18 ic_2 ?_
    refine g_icmp_eq hC 33 dX10_readNumber_19 (by decide) (fun hc => ?_) (fun hc => ?_)
    · replace hf := ifT hf hc
      exact g_sub [0, 1, 2] rfl (wX10_readNumber_33 hL hN hM hC  hret  hf)
    · replace hf := ifF hf hc
      refine g_aload_n hC 0 dX10_readNumber_22 rfl rfl ?_
      refine gt_X10_18 hC (a := 6) (kk_6 hL) (kn_6 hL) dX10_readNumber_23 ?_
      refine g_ref (b := 1) rfl ?_
      refine g_iconst hC (v := 0) dX10_readNumber_26 ic_0 ?_
      obtain ⟨r_5, x1_6, q_7, hf⟩ := bd2E hf
      refine g_callV_i (a := 1) hC (X' := ov X0 [1, 3, 4, 5] [x1_6, x3, x4, x5]) (Y' := ov Y0 [] []) (As := [.int 0]) (gMi_eq (c_X8_fail l hL (ov_map hN [0, 2] (by rfl) (by rfl)) (ov_map hM [] (by rfl) (by rfl)) q_7) (ov_ovE hN (by rfl) [0, 2] [1, 3] (by rfl) (by rfl) [x3, x5] (by rfl) (by rfl) (by rfl) 4 (by rfl) (by decide)) (ov_ovE hM (by rfl) [] [] (by rfl) (by rfl) [] (by rfl) (by rfl) (by rfl) 0 (by rfl) (by decide))) tw_643 tw_640 tw_117 tw_641 tw_642 (ci := 8) rfl (by decide) (kk_1 hL) (kn_1 hL) pd_X8_fail (by decide) (by decide) rfl rfl (Nat.le_of_ble_eq_true rfl) rfl dX10_readNumber_27 ?_
      refine g_pop hC dX10_readNumber_30 rfl ?_
      refine g_iconst hC (v := (-1)) dX10_readNumber_31 ic_m1 ?_
      obtain ⟨rfl, rfl⟩ := sm2E hf
      exact hret _ _ rfl dX10_readNumber_32

def fX10_readNumber   (x3 : Nat → Int32) (x4 : Nat → Int32) (x5 : Nat → Int32)  (v1 : Int32) (v2 : Int32) (x1 : Nat → Int32)  : Option (Int32 × (Nat → Int32)) := fX10_readNumber_0 x3 x4 x5 v1 v2 x1

set_option maxHeartbeats 4000000 in
set_option maxRecDepth 100000 in
theorem c_X10_readNumber (l : Launch) {b0 : Nat} {D : GD} {n : Nat} {κ : QT} {X0 : XT} {Y0 : YT} {Z : ZT} (hL : LY n κ) {x1 : Nat → Int32} {x3 : Nat → Int32} {x4 : Nat → Int32} {x5 : Nat → Int32} (hx : ([1, 3, 4, 5] : List Nat).map X0 = [x1, x3, x4, x5]) (hy : ([] : List Nat).map Y0 = []) {v1 : Int32} {v2 : Int32} {r : Int32} {rx1 : (Nat → Int32)} (hf : fX10_readNumber x3 x4 x5 v1 v2 x1 = some (r, rx1)) : gMi l yX10_readNumber cX10_readNumber 4 (some FieldType.int) 1 22 0 0 b0 D [.ref (b0 + 6), .int v1, .int v2] (n, κ, X0, Y0, Z) (n, κ, ov X0 [1, 3, 4, 5] [rx1, x3, x4, x5], ov Y0 [] [], Z) r := by
  have hN : ([1, 3, 4, 5] : List Nat).Nodup := by decide
  have hM : ([] : List Nat).Nodup := by decide
  refine g_meti (own := RX10) (by decide) rfl rfl (Nat.le_of_ble_eq_true rfl) ?_
  intro K hC hret
  have e := wX10_readNumber_0 hL hN hM hC  hret hf
  rw [ov_id' hx, ov_id' hy] at e
  exact g_sub [0, 1, 2] rfl e

-- X10_isFull
def fX10_isFull_36   (x7 : Nat → Int32)   : Option (Int32) := some 1
set_option maxHeartbeats 4000000 in
set_option maxRecDepth 100000 in
theorem wX10_isFull_36 {l : Launch} {b0 : Nat} {D : GD} {K : KT} {n : Nat} {κ : QT} {X0 : XT} {Y0 : YT} {Z : ZT} (hL : LY n κ) (hN : ([7] : List Nat).Nodup) (hM : ([] : List Nat).Nodup) (hC : gC l b0 D K RX10 cX10_isFull (some FieldType.boolean) 2 0 0 0 0) {x7 : Nat → Int32} {r : Int32} (hret : ∀ pc loc, narrow .boolean (.int r) = .int r → decode cX10_isFull pc = .ok (.ireturn, 1) → gV l b0 D K (n, κ, ov X0 [7] [x7], ov Y0 [] [], Z, 0, 0) pc loc [.int r])  (hf : fX10_isFull_36 x7   = some r) : gV l b0 D K (n, κ, ov X0 [7] [x7], ov Y0 [] [], Z, 0, 0) 36 [] [] := by
  unfold fX10_isFull_36 at hf
  refine g_iconst hC (v := 1) dX10_isFull_36 ic_1 ?_
  refine g_goto hC 41 dX10_isFull_37 (by decide) ?_
  obtain rfl := sm1E hf
  exact hret _ _ rfl dX10_isFull_41

def fX10_isFull_40   (x7 : Nat → Int32)   : Option (Int32) := some 0
set_option maxHeartbeats 4000000 in
set_option maxRecDepth 100000 in
theorem wX10_isFull_40 {l : Launch} {b0 : Nat} {D : GD} {K : KT} {n : Nat} {κ : QT} {X0 : XT} {Y0 : YT} {Z : ZT} (hL : LY n κ) (hN : ([7] : List Nat).Nodup) (hM : ([] : List Nat).Nodup) (hC : gC l b0 D K RX10 cX10_isFull (some FieldType.boolean) 2 0 0 0 0) {x7 : Nat → Int32} {r : Int32} (hret : ∀ pc loc, narrow .boolean (.int r) = .int r → decode cX10_isFull pc = .ok (.ireturn, 1) → gV l b0 D K (n, κ, ov X0 [7] [x7], ov Y0 [] [], Z, 0, 0) pc loc [.int r])  (hf : fX10_isFull_40 x7   = some r) : gV l b0 D K (n, κ, ov X0 [7] [x7], ov Y0 [] [], Z, 0, 0) 40 [] [] := by
  unfold fX10_isFull_40 at hf
  refine g_iconst hC (v := 0) dX10_isFull_40 ic_0 ?_
  obtain rfl := sm1E hf
  exact hret _ _ rfl dX10_isFull_41

def fX10_isFull_18   (x7 : Nat → Int32)  (v1 : Int32) : Option (Int32) := if v1 = 30 then (if (x7 4) < 6 then (fX10_isFull_40 x7  ) else (fX10_isFull_36 x7  )) else (fX10_isFull_40 x7  )
set_option maxHeartbeats 4000000 in
set_option maxRecDepth 100000 in
theorem wX10_isFull_18 {l : Launch} {b0 : Nat} {D : GD} {K : KT} {n : Nat} {κ : QT} {X0 : XT} {Y0 : YT} {Z : ZT} (hL : LY n κ) (hN : ([7] : List Nat).Nodup) (hM : ([] : List Nat).Nodup) (hC : gC l b0 D K RX10 cX10_isFull (some FieldType.boolean) 2 0 0 0 0) {x7 : Nat → Int32} {r : Int32} (hret : ∀ pc loc, narrow .boolean (.int r) = .int r → decode cX10_isFull pc = .ok (.ireturn, 1) → gV l b0 D K (n, κ, ov X0 [7] [x7], ov Y0 [] [], Z, 0, 0) pc loc [.int r]) {v1 : Int32} (hf : fX10_isFull_18 x7  v1 = some r) : gV l b0 D K (n, κ, ov X0 [7] [x7], ov Y0 [] [], Z, 0, 0) 18 [(0, .ref (b0 + 6)), (1, .int v1)] [] := by
  unfold fX10_isFull_18 at hf
  refine g_iload_n hC 1 dX10_isFull_18 rfl rfl ?_
  refine g_bipush hC (v := 30) dX10_isFull_19 bp_30 ?_
  refine g_icmp_ne hC 40 dX10_isFull_21 (by decide) (fun hc => ?_) (fun hc => ?_)
  · replace hf := ifF hf hc
    exact g_sub [] rfl (wX10_isFull_40 hL hN hM hC  hret  hf)
  · replace hf := ifT hf hc
    refine g_aload_n hC 0 dX10_isFull_24 rfl rfl ?_
    refine gt_X10_12 hC (a := 6) (kk_6 hL) (kn_6 hL) dX10_isFull_25 ?_
    refine g_ref (b := 7) rfl ?_
    refine gt_X10_70 hC (x := x7) (kk_7 hL) (kn_7 hL) (ov_get hN 0 rfl rfl) dX10_isFull_28 ?_
    refine g_bipush hC (v := 6) dX10_isFull_31 bp_6 ?_
    refine g_icmp_lt hC 40 dX10_isFull_33 (by decide) (fun hc => ?_) (fun hc => ?_)
    · replace hf := ifT hf hc
      exact g_sub [] rfl (wX10_isFull_40 hL hN hM hC  hret  hf)
    · replace hf := ifF hf hc
      exact g_sub [] rfl (wX10_isFull_36 hL hN hM hC  hret  hf)

def fX10_isFull_0   (x7 : Nat → Int32)  (v1 : Int32) : Option (Int32) := if v1 = 25 then (if 12 ≤ (x7 3) then (fX10_isFull_36 x7  ) else (fX10_isFull_18 x7  v1)) else (fX10_isFull_18 x7  v1)
set_option maxHeartbeats 4000000 in
set_option maxRecDepth 100000 in
theorem wX10_isFull_0 {l : Launch} {b0 : Nat} {D : GD} {K : KT} {n : Nat} {κ : QT} {X0 : XT} {Y0 : YT} {Z : ZT} (hL : LY n κ) (hN : ([7] : List Nat).Nodup) (hM : ([] : List Nat).Nodup) (hC : gC l b0 D K RX10 cX10_isFull (some FieldType.boolean) 2 0 0 0 0) {x7 : Nat → Int32} {r : Int32} (hret : ∀ pc loc, narrow .boolean (.int r) = .int r → decode cX10_isFull pc = .ok (.ireturn, 1) → gV l b0 D K (n, κ, ov X0 [7] [x7], ov Y0 [] [], Z, 0, 0) pc loc [.int r]) {v1 : Int32} (hf : fX10_isFull_0 x7  v1 = some r) : gV l b0 D K (n, κ, ov X0 [7] [x7], ov Y0 [] [], Z, 0, 0) 0 [(0, .ref (b0 + 6)), (1, .int v1)] [] := by
  unfold fX10_isFull_0 at hf
  refine g_iload_n hC 1 dX10_isFull_0 rfl rfl ?_
  refine g_bipush hC (v := 25) dX10_isFull_1 bp_25 ?_
  refine g_icmp_ne hC 18 dX10_isFull_3 (by decide) (fun hc => ?_) (fun hc => ?_)
  · replace hf := ifF hf hc
    exact g_sub [0, 1] rfl (wX10_isFull_18 hL hN hM hC  hret  hf)
  · replace hf := ifT hf hc
    refine g_aload_n hC 0 dX10_isFull_6 rfl rfl ?_
    refine gt_X10_12 hC (a := 6) (kk_6 hL) (kn_6 hL) dX10_isFull_7 ?_
    refine g_ref (b := 7) rfl ?_
    refine gt_X10_66 hC (x := x7) (kk_7 hL) (kn_7 hL) (ov_get hN 0 rfl rfl) dX10_isFull_10 ?_
    refine g_bipush hC (v := 12) dX10_isFull_13 bp_12 ?_
    refine g_icmp_ge hC 36 dX10_isFull_15 (by decide) (fun hc => ?_) (fun hc => ?_)
    · replace hf := ifT hf hc
      exact g_sub [] rfl (wX10_isFull_36 hL hN hM hC  hret  hf)
    · replace hf := ifF hf hc
      exact g_sub [0, 1] rfl (wX10_isFull_18 hL hN hM hC  hret  hf)

def fX10_isFull   (x7 : Nat → Int32)  (v1 : Int32)   : Option (Int32) := fX10_isFull_0 x7 v1

set_option maxHeartbeats 4000000 in
set_option maxRecDepth 100000 in
theorem c_X10_isFull (l : Launch) {b0 : Nat} {D : GD} {n : Nat} {κ : QT} {X0 : XT} {Y0 : YT} {Z : ZT} (hL : LY n κ) {x7 : Nat → Int32} (hx : ([7] : List Nat).map X0 = [x7]) (hy : ([] : List Nat).map Y0 = []) {v1 : Int32} {r : Int32} (hf : fX10_isFull x7 v1 = some r) : gMi l yX10_isFull cX10_isFull 2 (some FieldType.boolean) 0 0 0 0 b0 D [.ref (b0 + 6), .int v1] (n, κ, X0, Y0, Z) (n, κ, ov X0 [7] [x7], ov Y0 [] [], Z) r := by
  have hN : ([7] : List Nat).Nodup := by decide
  have hM : ([] : List Nat).Nodup := by decide
  refine g_meti (own := RX10) (by decide) rfl rfl (Nat.le_of_ble_eq_true rfl) ?_
  intro K hC hret
  have e := wX10_isFull_0 hL hN hM hC  hret hf
  rw [ov_id' hx, ov_id' hy] at e
  exact g_sub [0, 1] rfl e

-- X10_readHill
def fX10_readHill_73   (x3 : Nat → Int32) (x4 : Nat → Int32) (x5 : Nat → Int32)  (s0 : Int32) (x1 : (Nat → Int32)) (x7 : (Nat → Int32)) (x9 : (Nat → Int32)) : Option (Int32 × (Nat → Int32) × (Nat → Int32) × (Nat → Int32)) := if ((upd x7 1 s0) 1) < 0 then (some (0, x1, (upd x7 1 s0), x9)) else (some (1, x1, (upd x7 1 s0), x9))
set_option maxHeartbeats 4000000 in
set_option maxRecDepth 100000 in
theorem wX10_readHill_73 {l : Launch} {b0 : Nat} {D : GD} {K : KT} {n : Nat} {κ : QT} {X0 : XT} {Y0 : YT} {Z : ZT} (hL : LY n κ) (hN : ([1, 3, 4, 5, 7, 9] : List Nat).Nodup) (hM : ([] : List Nat).Nodup) (hC : gC l b0 D K RX10 cX10_readHill (some FieldType.boolean) 1 2 45 0 0) {x3 : Nat → Int32} {x4 : Nat → Int32} {x5 : Nat → Int32} {r : Int32} {rx1 : (Nat → Int32)} {rx7 : (Nat → Int32)} {rx9 : (Nat → Int32)} (hret : ∀ pc loc, narrow .boolean (.int r) = .int r → decode cX10_readHill pc = .ok (.ireturn, 1) → gV l b0 D K (n, κ, ov X0 [1, 3, 4, 5, 7, 9] [rx1, x3, x4, x5, rx7, rx9], ov Y0 [] [], Z, 0, 0) pc loc [.int r]) {s0 : Int32} {x1 : (Nat → Int32)} {x7 : (Nat → Int32)} {x9 : (Nat → Int32)} (hf : fX10_readHill_73 x3 x4 x5  s0 x1 x7 x9 = some (r, rx1, rx7, rx9)) : gV l b0 D K (n, κ, ov X0 [1, 3, 4, 5, 7, 9] [x1, x3, x4, x5, x7, x9], ov Y0 [] [], Z, 0, 0) 73 [(0, .ref (b0 + 6))] [.int s0, .ref (b0 + 7)] := by
  unfold fX10_readHill_73 at hf
  refine pt_X10_89 hC (x := x7) (kk_7 hL) (kn_7 hL) (ov_get hN 4 rfl rfl) (ov_set hN (by rfl) 4 (by rfl)) dX10_readHill_73 ?_
  show gV l b0 D K (n, κ, ov X0 [1, 3, 4, 5, 7, 9] [x1, x3, x4, x5, (upd x7 1 s0), x9], ov Y0 [] [], Z, 0, 0) 76 [(0, .ref (b0 + 6))] []
  refine g_aload_n hC 0 dX10_readHill_76 rfl rfl ?_
  refine gt_X10_12 hC (a := 6) (kk_6 hL) (kn_6 hL) dX10_readHill_77 ?_
  refine g_ref (b := 7) rfl ?_
  refine gt_X10_89 hC (x := (upd x7 1 s0)) (kk_7 hL) (kn_7 hL) (ov_get hN 4 rfl rfl) dX10_readHill_80 ?_
  refine g_if_lt hC 90 dX10_readHill_83 (by decide) (fun hc => ?_) (fun hc => ?_)
  · replace hf := ifT hf hc
    refine g_iconst hC (v := 0) dX10_readHill_90 ic_0 ?_
    obtain ⟨rfl, rfl, rfl, rfl⟩ := sm4E hf
    exact hret _ _ rfl dX10_readHill_91
  · replace hf := ifF hf hc
    refine g_iconst hC (v := 1) dX10_readHill_86 ic_1 ?_
    refine g_goto hC 91 dX10_readHill_87 (by decide) ?_
    obtain ⟨rfl, rfl, rfl, rfl⟩ := sm4E hf
    exact hret _ _ rfl dX10_readHill_91

def fX10_readHill_42   (x3 : Nat → Int32) (x4 : Nat → Int32) (x5 : Nat → Int32)  (s0 : Int32) (x1 : (Nat → Int32)) (x7 : (Nat → Int32)) (x9 : (Nat → Int32)) : Option (Int32 × (Nat → Int32) × (Nat → Int32) × (Nat → Int32)) := if 0 ≤ ((upd x9 1 s0) 1) then (bd2 (fX10_readNumber x3 x4 x5 0 9 x1) fun r_1 x1_2 => (fX10_readHill_73 x3 x4 x5  r_1 x1_2 x7 (upd x9 1 s0))) else (fX10_readHill_73 x3 x4 x5  (-1) x1 x7 (upd x9 1 s0))
set_option maxHeartbeats 4000000 in
set_option maxRecDepth 100000 in
theorem wX10_readHill_42 {l : Launch} {b0 : Nat} {D : GD} {K : KT} {n : Nat} {κ : QT} {X0 : XT} {Y0 : YT} {Z : ZT} (hL : LY n κ) (hN : ([1, 3, 4, 5, 7, 9] : List Nat).Nodup) (hM : ([] : List Nat).Nodup) (hC : gC l b0 D K RX10 cX10_readHill (some FieldType.boolean) 1 2 45 0 0) {x3 : Nat → Int32} {x4 : Nat → Int32} {x5 : Nat → Int32} {r : Int32} {rx1 : (Nat → Int32)} {rx7 : (Nat → Int32)} {rx9 : (Nat → Int32)} (hret : ∀ pc loc, narrow .boolean (.int r) = .int r → decode cX10_readHill pc = .ok (.ireturn, 1) → gV l b0 D K (n, κ, ov X0 [1, 3, 4, 5, 7, 9] [rx1, x3, x4, x5, rx7, rx9], ov Y0 [] [], Z, 0, 0) pc loc [.int r]) {s0 : Int32} {x1 : (Nat → Int32)} {x7 : (Nat → Int32)} {x9 : (Nat → Int32)} (hf : fX10_readHill_42 x3 x4 x5  s0 x1 x7 x9 = some (r, rx1, rx7, rx9)) : gV l b0 D K (n, κ, ov X0 [1, 3, 4, 5, 7, 9] [x1, x3, x4, x5, x7, x9], ov Y0 [] [], Z, 0, 0) 42 [(0, .ref (b0 + 6))] [.int s0, .ref (b0 + 9)] := by
  unfold fX10_readHill_42 at hf
  refine pt_X10_84 hC (x := x9) (kk_9 hL) (kn_9 hL) (ov_get hN 5 rfl rfl) (ov_set hN (by rfl) 5 (by rfl)) dX10_readHill_42 ?_
  show gV l b0 D K (n, κ, ov X0 [1, 3, 4, 5, 7, 9] [x1, x3, x4, x5, x7, (upd x9 1 s0)], ov Y0 [] [], Z, 0, 0) 45 [(0, .ref (b0 + 6))] []
  refine g_aload_n hC 0 dX10_readHill_45 rfl rfl ?_
  refine gt_X10_12 hC (a := 6) (kk_6 hL) (kn_6 hL) dX10_readHill_46 ?_
  refine g_ref (b := 7) rfl ?_
  refine g_aload_n hC 0 dX10_readHill_49 rfl rfl ?_
  refine gt_X10_12 hC (a := 6) (kk_6 hL) (kn_6 hL) dX10_readHill_50 ?_
  refine g_ref (b := 7) rfl ?_
  refine gt_X10_80 hC (a := 7) (kk_7 hL) (kn_7 hL) dX10_readHill_53 ?_
  refine g_ref (b := 9) rfl ?_
  refine gt_X10_84 hC (x := (upd x9 1 s0)) (kk_9 hL) (kn_9 hL) (ov_get hN 5 rfl rfl) dX10_readHill_56 ?_
  refine g_if_ge hC 66 dX10_readHill_59 (by decide) (fun hc => ?_) (fun hc => ?_)
  · replace hf := ifT hf hc
    refine g_aload_n hC 0 dX10_readHill_66 rfl rfl ?_
    refine g_iconst hC (v := 0) dX10_readHill_67 ic_0 ?_
    refine g_bipush hC (v := 9) dX10_readHill_68 bp_9 ?_
    obtain ⟨r_1, x1_2, q_3, hf⟩ := bd2E hf
    refine g_callV_i (a := 6) hC (X' := ov X0 [1, 3, 4, 5, 7, 9] [x1_2, x3, x4, x5, x7, (upd x9 1 s0)]) (Y' := ov Y0 [] []) (As := [.int 0, .int 9]) (gMi_eq (c_X10_readNumber l hL (ov_map hN [0, 1, 2, 3] (by rfl) (by rfl)) (ov_map hM [] (by rfl) (by rfl)) q_3) (ov_ovE hN (by rfl) [0, 1, 2, 3] [4, 5] (by rfl) (by rfl) [x7, (upd x9 1 s0)] (by rfl) (by rfl) (by rfl) 6 (by rfl) (by decide)) (ov_ovE hM (by rfl) [] [] (by rfl) (by rfl) [] (by rfl) (by rfl) (by rfl) 0 (by rfl) (by decide))) tw_659 tw_656 tw_118 tw_658 tw_10 (ci := 10) rfl (by decide) (kk_6 hL) (kn_6 hL) pd_X10_readNumber (by decide) (by decide) rfl rfl (Nat.le_of_ble_eq_true rfl) rfl dX10_readHill_70 ?_
    exact g_sub [0] rfl (wX10_readHill_73 hL hN hM hC  hret  hf)
  · replace hf := ifF hf hc
    refine g_iconst hC (v := (-1)) dX10_readHill_62 ic_m1 ?_
    refine g_goto hC 73 dX10_readHill_63 (by decide) ?_
    exact g_sub [0] rfl (wX10_readHill_73 hL hN hM hC  hret  hf)

def fX10_readHill_0   (x3 : Nat → Int32) (x4 : Nat → Int32) (x5 : Nat → Int32)  (x1 : (Nat → Int32)) (x7 : (Nat → Int32)) (x9 : (Nat → Int32)) : Option (Int32 × (Nat → Int32) × (Nat → Int32) × (Nat → Int32)) := bd2 (fX10_readNumber x3 x4 x5 5 60 x1) fun r_1 x1_2 => (if 0 ≤ ((upd x7 0 r_1) 0) then (bd2 (fX10_readNumber x3 x4 x5 0 99 x1_2) fun r_4 x1_5 => (fX10_readHill_42 x3 x4 x5  r_4 x1_5 (upd x7 0 r_1) x9)) else (fX10_readHill_42 x3 x4 x5  (-1) x1_2 (upd x7 0 r_1) x9))
set_option maxHeartbeats 4000000 in
set_option maxRecDepth 100000 in
theorem wX10_readHill_0 {l : Launch} {b0 : Nat} {D : GD} {K : KT} {n : Nat} {κ : QT} {X0 : XT} {Y0 : YT} {Z : ZT} (hL : LY n κ) (hN : ([1, 3, 4, 5, 7, 9] : List Nat).Nodup) (hM : ([] : List Nat).Nodup) (hC : gC l b0 D K RX10 cX10_readHill (some FieldType.boolean) 1 2 45 0 0) {x3 : Nat → Int32} {x4 : Nat → Int32} {x5 : Nat → Int32} {r : Int32} {rx1 : (Nat → Int32)} {rx7 : (Nat → Int32)} {rx9 : (Nat → Int32)} (hret : ∀ pc loc, narrow .boolean (.int r) = .int r → decode cX10_readHill pc = .ok (.ireturn, 1) → gV l b0 D K (n, κ, ov X0 [1, 3, 4, 5, 7, 9] [rx1, x3, x4, x5, rx7, rx9], ov Y0 [] [], Z, 0, 0) pc loc [.int r]) {x1 : (Nat → Int32)} {x7 : (Nat → Int32)} {x9 : (Nat → Int32)} (hf : fX10_readHill_0 x3 x4 x5  x1 x7 x9 = some (r, rx1, rx7, rx9)) : gV l b0 D K (n, κ, ov X0 [1, 3, 4, 5, 7, 9] [x1, x3, x4, x5, x7, x9], ov Y0 [] [], Z, 0, 0) 0 [(0, .ref (b0 + 6))] [] := by
  unfold fX10_readHill_0 at hf
  refine g_aload_n hC 0 dX10_readHill_0 rfl rfl ?_
  refine gt_X10_12 hC (a := 6) (kk_6 hL) (kn_6 hL) dX10_readHill_1 ?_
  refine g_ref (b := 7) rfl ?_
  refine g_aload_n hC 0 dX10_readHill_4 rfl rfl ?_
  refine g_iconst hC (v := 5) dX10_readHill_5 ic_5 ?_
  refine g_bipush hC (v := 60) dX10_readHill_6 bp_60 ?_
  obtain ⟨r_1, x1_2, q_3, hf⟩ := bd2E hf
  refine g_callV_i (a := 6) hC (X' := ov X0 [1, 3, 4, 5, 7, 9] [x1_2, x3, x4, x5, x7, x9]) (Y' := ov Y0 [] []) (As := [.int 5, .int 60]) (gMi_eq (c_X10_readNumber l hL (ov_map hN [0, 1, 2, 3] (by rfl) (by rfl)) (ov_map hM [] (by rfl) (by rfl)) q_3) (ov_ovE hN (by rfl) [0, 1, 2, 3] [4, 5] (by rfl) (by rfl) [x7, x9] (by rfl) (by rfl) (by rfl) 6 (by rfl) (by decide)) (ov_ovE hM (by rfl) [] [] (by rfl) (by rfl) [] (by rfl) (by rfl) (by rfl) 0 (by rfl) (by decide))) tw_659 tw_656 tw_118 tw_658 tw_10 (ci := 10) rfl (by decide) (kk_6 hL) (kn_6 hL) pd_X10_readNumber (by decide) (by decide) rfl rfl (Nat.le_of_ble_eq_true rfl) rfl dX10_readHill_8 ?_
  refine pt_X10_77 hC (x := x7) (kk_7 hL) (kn_7 hL) (ov_get hN 4 rfl rfl) (ov_set hN (by rfl) 4 (by rfl)) dX10_readHill_11 ?_
  show gV l b0 D K (n, κ, ov X0 [1, 3, 4, 5, 7, 9] [x1_2, x3, x4, x5, (upd x7 0 r_1), x9], ov Y0 [] [], Z, 0, 0) 14 [(0, .ref (b0 + 6))] []
  refine g_aload_n hC 0 dX10_readHill_14 rfl rfl ?_
  refine gt_X10_12 hC (a := 6) (kk_6 hL) (kn_6 hL) dX10_readHill_15 ?_
  refine g_ref (b := 7) rfl ?_
  refine gt_X10_80 hC (a := 7) (kk_7 hL) (kn_7 hL) dX10_readHill_18 ?_
  refine g_ref (b := 9) rfl ?_
  refine g_aload_n hC 0 dX10_readHill_21 rfl rfl ?_
  refine gt_X10_12 hC (a := 6) (kk_6 hL) (kn_6 hL) dX10_readHill_22 ?_
  refine g_ref (b := 7) rfl ?_
  refine gt_X10_77 hC (x := (upd x7 0 r_1)) (kk_7 hL) (kn_7 hL) (ov_get hN 4 rfl rfl) dX10_readHill_25 ?_
  refine g_if_ge hC 35 dX10_readHill_28 (by decide) (fun hc => ?_) (fun hc => ?_)
  · replace hf := ifT hf hc
    refine g_aload_n hC 0 dX10_readHill_35 rfl rfl ?_
    refine g_iconst hC (v := 0) dX10_readHill_36 ic_0 ?_
    refine g_bipush hC (v := 99) dX10_readHill_37 bp_99 ?_
    obtain ⟨r_4, x1_5, q_6, hf⟩ := bd2E hf
    refine g_callV_i (a := 6) hC (X' := ov X0 [1, 3, 4, 5, 7, 9] [x1_5, x3, x4, x5, (upd x7 0 r_1), x9]) (Y' := ov Y0 [] []) (As := [.int 0, .int 99]) (gMi_eq (c_X10_readNumber l hL (ov_map hN [0, 1, 2, 3] (by rfl) (by rfl)) (ov_map hM [] (by rfl) (by rfl)) q_6) (ov_ovE hN (by rfl) [0, 1, 2, 3] [4, 5] (by rfl) (by rfl) [(upd x7 0 r_1), x9] (by rfl) (by rfl) (by rfl) 6 (by rfl) (by decide)) (ov_ovE hM (by rfl) [] [] (by rfl) (by rfl) [] (by rfl) (by rfl) (by rfl) 0 (by rfl) (by decide))) tw_659 tw_656 tw_118 tw_658 tw_10 (ci := 10) rfl (by decide) (kk_6 hL) (kn_6 hL) pd_X10_readNumber (by decide) (by decide) rfl rfl (Nat.le_of_ble_eq_true rfl) rfl dX10_readHill_39 ?_
    exact g_sub [0] rfl (wX10_readHill_42 hL hN hM hC  hret  hf)
  · replace hf := ifF hf hc
    refine g_iconst hC (v := (-1)) dX10_readHill_31 ic_m1 ?_
    refine g_goto hC 42 dX10_readHill_32 (by decide) ?_
    exact g_sub [0] rfl (wX10_readHill_42 hL hN hM hC  hret  hf)

def fX10_readHill   (x3 : Nat → Int32) (x4 : Nat → Int32) (x5 : Nat → Int32)   (x1 : Nat → Int32) (x7 : Nat → Int32) (x9 : Nat → Int32)  : Option (Int32 × (Nat → Int32) × (Nat → Int32) × (Nat → Int32)) := fX10_readHill_0 x3 x4 x5 x1 x7 x9

set_option maxHeartbeats 4000000 in
set_option maxRecDepth 100000 in
theorem c_X10_readHill (l : Launch) {b0 : Nat} {D : GD} {n : Nat} {κ : QT} {X0 : XT} {Y0 : YT} {Z : ZT} (hL : LY n κ) {x1 : Nat → Int32} {x3 : Nat → Int32} {x4 : Nat → Int32} {x5 : Nat → Int32} {x7 : Nat → Int32} {x9 : Nat → Int32} (hx : ([1, 3, 4, 5, 7, 9] : List Nat).map X0 = [x1, x3, x4, x5, x7, x9]) (hy : ([] : List Nat).map Y0 = []) {r : Int32} {rx1 : (Nat → Int32)} {rx7 : (Nat → Int32)} {rx9 : (Nat → Int32)} (hf : fX10_readHill x3 x4 x5 x1 x7 x9 = some (r, rx1, rx7, rx9)) : gMi l yX10_readHill cX10_readHill 1 (some FieldType.boolean) 2 45 0 0 b0 D [.ref (b0 + 6)] (n, κ, X0, Y0, Z) (n, κ, ov X0 [1, 3, 4, 5, 7, 9] [rx1, x3, x4, x5, rx7, rx9], ov Y0 [] [], Z) r := by
  have hN : ([1, 3, 4, 5, 7, 9] : List Nat).Nodup := by decide
  have hM : ([] : List Nat).Nodup := by decide
  refine g_meti (own := RX10) (by decide) rfl rfl (Nat.le_of_ble_eq_true rfl) ?_
  intro K hC hret
  have e := wX10_readHill_0 hL hN hM hC  hret hf
  rw [ov_id' hx, ov_id' hy] at e
  exact g_sub [0] rfl e

-- X10_readHeat
def fX10_readHeat_0   (x3 : Nat → Int32) (x4 : Nat → Int32) (x5 : Nat → Int32)  (x1 : (Nat → Int32)) (x7 : (Nat → Int32)) (x8 : (Nat → Int32)) : Option (Int32 × (Nat → Int32) × (Nat → Int32) × (Nat → Int32)) := bd2 (fX10_readNumber x3 x4 x5 0 9 x1) fun r_1 x1_2 => (if r_1 < 0 then (some (0, x1_2, x7, x8)) else (if (x7 3) < 12 then (gd (inb (x7 3) 12) (some (1, x1_2, (upd x7 3 ((x7 3) + 1)), (upd x8 (x7 3).toNatClampNeg r_1)))) else (some (0, x1_2, x7, x8))))
set_option maxHeartbeats 4000000 in
set_option maxRecDepth 100000 in
theorem wX10_readHeat_0 {l : Launch} {b0 : Nat} {D : GD} {K : KT} {n : Nat} {κ : QT} {X0 : XT} {Y0 : YT} {Z : ZT} (hL : LY n κ) (hN : ([1, 3, 4, 5, 7, 8] : List Nat).Nodup) (hM : ([] : List Nat).Nodup) (hC : gC l b0 D K RX10 cX10_readHeat (some FieldType.boolean) 2 2 45 0 0) {x3 : Nat → Int32} {x4 : Nat → Int32} {x5 : Nat → Int32} {r : Int32} {rx1 : (Nat → Int32)} {rx7 : (Nat → Int32)} {rx8 : (Nat → Int32)} (hret : ∀ pc loc, narrow .boolean (.int r) = .int r → decode cX10_readHeat pc = .ok (.ireturn, 1) → gV l b0 D K (n, κ, ov X0 [1, 3, 4, 5, 7, 8] [rx1, x3, x4, x5, rx7, rx8], ov Y0 [] [], Z, 0, 0) pc loc [.int r]) {x1 : (Nat → Int32)} {x7 : (Nat → Int32)} {x8 : (Nat → Int32)} (hf : fX10_readHeat_0 x3 x4 x5  x1 x7 x8 = some (r, rx1, rx7, rx8)) : gV l b0 D K (n, κ, ov X0 [1, 3, 4, 5, 7, 8] [x1, x3, x4, x5, x7, x8], ov Y0 [] [], Z, 0, 0) 0 [(0, .ref (b0 + 6))] [] := by
  unfold fX10_readHeat_0 at hf
  refine g_aload_n hC 0 dX10_readHeat_0 rfl rfl ?_
  refine g_iconst hC (v := 0) dX10_readHeat_1 ic_0 ?_
  refine g_bipush hC (v := 9) dX10_readHeat_2 bp_9 ?_
  obtain ⟨r_1, x1_2, q_3, hf⟩ := bd2E hf
  refine g_callV_i (a := 6) hC (X' := ov X0 [1, 3, 4, 5, 7, 8] [x1_2, x3, x4, x5, x7, x8]) (Y' := ov Y0 [] []) (As := [.int 0, .int 9]) (gMi_eq (c_X10_readNumber l hL (ov_map hN [0, 1, 2, 3] (by rfl) (by rfl)) (ov_map hM [] (by rfl) (by rfl)) q_3) (ov_ovE hN (by rfl) [0, 1, 2, 3] [4, 5] (by rfl) (by rfl) [x7, x8] (by rfl) (by rfl) (by rfl) 6 (by rfl) (by decide)) (ov_ovE hM (by rfl) [] [] (by rfl) (by rfl) [] (by rfl) (by rfl) (by rfl) 0 (by rfl) (by decide))) tw_659 tw_656 tw_118 tw_658 tw_10 (ci := 10) rfl (by decide) (kk_6 hL) (kn_6 hL) pd_X10_readNumber (by decide) (by decide) rfl rfl (Nat.le_of_ble_eq_true rfl) rfl dX10_readHeat_4 ?_
  refine g_istore_n hC (i := 1) [(1, .int r_1), (0, .ref (b0 + 6))] rfl dX10_readHeat_7 (by decide) rfl ?_
  refine g_iload_n hC 0 dX10_readHeat_8 rfl rfl ?_
  refine g_if_lt hC 24 dX10_readHeat_9 (by decide) (fun hc => ?_) (fun hc => ?_)
  · replace hf := ifT hf hc
    refine g_iconst hC (v := 0) dX10_readHeat_24 ic_0 ?_
    obtain ⟨rfl, rfl, rfl, rfl⟩ := sm4E hf
    exact hret _ _ rfl dX10_readHeat_25
  · replace hf := ifF hf hc
    refine g_aload_n hC 1 dX10_readHeat_12 rfl rfl ?_
    refine gt_X10_12 hC (a := 6) (kk_6 hL) (kn_6 hL) dX10_readHeat_13 ?_
    refine g_ref (b := 7) rfl ?_
    refine gt_X10_66 hC (x := x7) (kk_7 hL) (kn_7 hL) (ov_get hN 4 rfl rfl) dX10_readHeat_16 ?_
    refine g_bipush hC (v := 12) dX10_readHeat_19 bp_12 ?_
    refine g_icmp_lt hC 26 dX10_readHeat_21 (by decide) (fun hc => ?_) (fun hc => ?_)
    · replace hf := ifT hf hc
      refine g_aload_n hC 1 dX10_readHeat_26 rfl rfl ?_
      refine gt_X10_12 hC (a := 6) (kk_6 hL) (kn_6 hL) dX10_readHeat_27 ?_
      refine g_ref (b := 7) rfl ?_
      refine gt_X10_92 hC (a := 7) (kk_7 hL) (kn_7 hL) dX10_readHeat_30 ?_
      refine g_ref (b := 8) rfl ?_
      refine g_aload_n hC 1 dX10_readHeat_33 rfl rfl ?_
      refine gt_X10_12 hC (a := 6) (kk_6 hL) (kn_6 hL) dX10_readHeat_34 ?_
      refine g_ref (b := 7) rfl ?_
      refine gt_X10_66 hC (x := x7) (kk_7 hL) (kn_7 hL) (ov_get hN 4 rfl rfl) dX10_readHeat_37 ?_
      refine g_iload_n hC 0 dX10_readHeat_40 rfl rfl ?_
      obtain ⟨h_4, hf⟩ := gdE hf
      refine g_iast hC (x := x8) (kk_8 hL) (kn_8 hL) (ov_get hN 5 rfl rfl) (inb_in h_4) (ov_set hN (by rfl) 5 (by rfl)) dX10_readHeat_41 ?_
      show gV l b0 D K (n, κ, ov X0 [1, 3, 4, 5, 7, 8] [x1_2, x3, x4, x5, x7, (upd x8 (x7 3).toNatClampNeg r_1)], ov Y0 [] [], Z, 0, 0) 42 [(1, .int r_1), (0, .ref (b0 + 6))] []
      refine g_aload_n hC 1 dX10_readHeat_42 rfl rfl ?_
      refine gt_X10_12 hC (a := 6) (kk_6 hL) (kn_6 hL) dX10_readHeat_43 ?_
      refine g_ref (b := 7) rfl ?_
      refine g_dup hC dX10_readHeat_46 rfl ?_
      refine gt_X10_66 hC (x := x7) (kk_7 hL) (kn_7 hL) (ov_get hN 4 rfl rfl) dX10_readHeat_47 ?_
      refine g_iconst hC (v := 1) dX10_readHeat_50 ic_1 ?_
      refine g_iadd hC dX10_readHeat_51 ?_
      refine pt_X10_66 hC (x := x7) (kk_7 hL) (kn_7 hL) (ov_get hN 4 rfl rfl) (ov_set hN (by rfl) 4 (by rfl)) dX10_readHeat_52 ?_
      show gV l b0 D K (n, κ, ov X0 [1, 3, 4, 5, 7, 8] [x1_2, x3, x4, x5, (upd x7 3 ((x7 3) + 1)), (upd x8 (x7 3).toNatClampNeg r_1)], ov Y0 [] [], Z, 0, 0) 55 [(1, .int r_1), (0, .ref (b0 + 6))] []
      refine g_iconst hC (v := 1) dX10_readHeat_55 ic_1 ?_
      obtain ⟨rfl, rfl, rfl, rfl⟩ := sm4E hf
      exact hret _ _ rfl dX10_readHeat_56
    · replace hf := ifF hf hc
      refine g_iconst hC (v := 0) dX10_readHeat_24 ic_0 ?_
      obtain ⟨rfl, rfl, rfl, rfl⟩ := sm4E hf
      exact hret _ _ rfl dX10_readHeat_25

def fX10_readHeat   (x3 : Nat → Int32) (x4 : Nat → Int32) (x5 : Nat → Int32)   (x1 : Nat → Int32) (x7 : Nat → Int32) (x8 : Nat → Int32)  : Option (Int32 × (Nat → Int32) × (Nat → Int32) × (Nat → Int32)) := fX10_readHeat_0 x3 x4 x5 x1 x7 x8

set_option maxHeartbeats 4000000 in
set_option maxRecDepth 100000 in
theorem c_X10_readHeat (l : Launch) {b0 : Nat} {D : GD} {n : Nat} {κ : QT} {X0 : XT} {Y0 : YT} {Z : ZT} (hL : LY n κ) {x1 : Nat → Int32} {x3 : Nat → Int32} {x4 : Nat → Int32} {x5 : Nat → Int32} {x7 : Nat → Int32} {x8 : Nat → Int32} (hx : ([1, 3, 4, 5, 7, 8] : List Nat).map X0 = [x1, x3, x4, x5, x7, x8]) (hy : ([] : List Nat).map Y0 = []) {r : Int32} {rx1 : (Nat → Int32)} {rx7 : (Nat → Int32)} {rx8 : (Nat → Int32)} (hf : fX10_readHeat x3 x4 x5 x1 x7 x8 = some (r, rx1, rx7, rx8)) : gMi l yX10_readHeat cX10_readHeat 2 (some FieldType.boolean) 2 45 0 0 b0 D [.ref (b0 + 6)] (n, κ, X0, Y0, Z) (n, κ, ov X0 [1, 3, 4, 5, 7, 8] [rx1, x3, x4, x5, rx7, rx8], ov Y0 [] [], Z) r := by
  have hN : ([1, 3, 4, 5, 7, 8] : List Nat).Nodup := by decide
  have hM : ([] : List Nat).Nodup := by decide
  refine g_meti (own := RX10) (by decide) rfl rfl (Nat.le_of_ble_eq_true rfl) ?_
  intro K hC hret
  have e := wX10_readHeat_0 hL hN hM hC  hret hf
  rw [ov_id' hx, ov_id' hy] at e
  exact g_sub [0] rfl e

-- X10_readHouse
def fX10_readHouse_0   (x3 : Nat → Int32) (x4 : Nat → Int32) (x5 : Nat → Int32)  (x1 : (Nat → Int32)) (x7 : (Nat → Int32)) (x10 : (Nat → Int32)) : Option (Int32 × (Nat → Int32) × (Nat → Int32) × (Nat → Int32)) := bd2 (fX10_readNumber x3 x4 x5 0 ((x7 0) - 1) x1) fun r_1 x1_2 => (if r_1 < 0 then (some (0, x1_2, x7, x10)) else (if (x7 4) < 6 then (gd (inb (x7 4) 6) (some (1, x1_2, (upd x7 4 ((x7 4) + 1)), (upd x10 (x7 4).toNatClampNeg r_1)))) else (some (0, x1_2, x7, x10))))
set_option maxHeartbeats 4000000 in
set_option maxRecDepth 100000 in
theorem wX10_readHouse_0 {l : Launch} {b0 : Nat} {D : GD} {K : KT} {n : Nat} {κ : QT} {X0 : XT} {Y0 : YT} {Z : ZT} (hL : LY n κ) (hN : ([1, 3, 4, 5, 7, 10] : List Nat).Nodup) (hM : ([] : List Nat).Nodup) (hC : gC l b0 D K RX10 cX10_readHouse (some FieldType.boolean) 2 2 45 0 0) {x3 : Nat → Int32} {x4 : Nat → Int32} {x5 : Nat → Int32} {r : Int32} {rx1 : (Nat → Int32)} {rx7 : (Nat → Int32)} {rx10 : (Nat → Int32)} (hret : ∀ pc loc, narrow .boolean (.int r) = .int r → decode cX10_readHouse pc = .ok (.ireturn, 1) → gV l b0 D K (n, κ, ov X0 [1, 3, 4, 5, 7, 10] [rx1, x3, x4, x5, rx7, rx10], ov Y0 [] [], Z, 0, 0) pc loc [.int r]) {x1 : (Nat → Int32)} {x7 : (Nat → Int32)} {x10 : (Nat → Int32)} (hf : fX10_readHouse_0 x3 x4 x5  x1 x7 x10 = some (r, rx1, rx7, rx10)) : gV l b0 D K (n, κ, ov X0 [1, 3, 4, 5, 7, 10] [x1, x3, x4, x5, x7, x10], ov Y0 [] [], Z, 0, 0) 0 [(0, .ref (b0 + 6))] [] := by
  unfold fX10_readHouse_0 at hf
  refine g_aload_n hC 0 dX10_readHouse_0 rfl rfl ?_
  refine g_iconst hC (v := 0) dX10_readHouse_1 ic_0 ?_
  refine g_aload_n hC 0 dX10_readHouse_2 rfl rfl ?_
  refine gt_X10_12 hC (a := 6) (kk_6 hL) (kn_6 hL) dX10_readHouse_3 ?_
  refine g_ref (b := 7) rfl ?_
  refine gt_X10_77 hC (x := x7) (kk_7 hL) (kn_7 hL) (ov_get hN 4 rfl rfl) dX10_readHouse_6 ?_
  refine g_iconst hC (v := 1) dX10_readHouse_9 ic_1 ?_
  refine g_isub hC dX10_readHouse_10 ?_
  obtain ⟨r_1, x1_2, q_3, hf⟩ := bd2E hf
  refine g_callV_i (a := 6) hC (X' := ov X0 [1, 3, 4, 5, 7, 10] [x1_2, x3, x4, x5, x7, x10]) (Y' := ov Y0 [] []) (As := [.int 0, .int ((x7 0) - 1)]) (gMi_eq (c_X10_readNumber l hL (ov_map hN [0, 1, 2, 3] (by rfl) (by rfl)) (ov_map hM [] (by rfl) (by rfl)) q_3) (ov_ovE hN (by rfl) [0, 1, 2, 3] [4, 5] (by rfl) (by rfl) [x7, x10] (by rfl) (by rfl) (by rfl) 6 (by rfl) (by decide)) (ov_ovE hM (by rfl) [] [] (by rfl) (by rfl) [] (by rfl) (by rfl) (by rfl) 0 (by rfl) (by decide))) tw_659 tw_656 tw_118 tw_658 tw_10 (ci := 10) rfl (by decide) (kk_6 hL) (kn_6 hL) pd_X10_readNumber (by decide) (by decide) rfl rfl (Nat.le_of_ble_eq_true rfl) rfl dX10_readHouse_11 ?_
  refine g_istore_n hC (i := 1) [(1, .int r_1), (0, .ref (b0 + 6))] rfl dX10_readHouse_14 (by decide) rfl ?_
  refine g_iload_n hC 0 dX10_readHouse_15 rfl rfl ?_
  refine g_if_lt hC 31 dX10_readHouse_16 (by decide) (fun hc => ?_) (fun hc => ?_)
  · replace hf := ifT hf hc
    refine g_iconst hC (v := 0) dX10_readHouse_31 ic_0 ?_
    obtain ⟨rfl, rfl, rfl, rfl⟩ := sm4E hf
    exact hret _ _ rfl dX10_readHouse_32
  · replace hf := ifF hf hc
    refine g_aload_n hC 1 dX10_readHouse_19 rfl rfl ?_
    refine gt_X10_12 hC (a := 6) (kk_6 hL) (kn_6 hL) dX10_readHouse_20 ?_
    refine g_ref (b := 7) rfl ?_
    refine gt_X10_70 hC (x := x7) (kk_7 hL) (kn_7 hL) (ov_get hN 4 rfl rfl) dX10_readHouse_23 ?_
    refine g_bipush hC (v := 6) dX10_readHouse_26 bp_6 ?_
    refine g_icmp_lt hC 33 dX10_readHouse_28 (by decide) (fun hc => ?_) (fun hc => ?_)
    · replace hf := ifT hf hc
      refine g_aload_n hC 1 dX10_readHouse_33 rfl rfl ?_
      refine gt_X10_12 hC (a := 6) (kk_6 hL) (kn_6 hL) dX10_readHouse_34 ?_
      refine g_ref (b := 7) rfl ?_
      refine gt_X10_80 hC (a := 7) (kk_7 hL) (kn_7 hL) dX10_readHouse_37 ?_
      refine g_ref (b := 9) rfl ?_
      refine gt_X10_96 hC (a := 9) (kk_9 hL) (kn_9 hL) dX10_readHouse_40 ?_
      refine g_ref (b := 10) rfl ?_
      refine g_aload_n hC 1 dX10_readHouse_43 rfl rfl ?_
      refine gt_X10_12 hC (a := 6) (kk_6 hL) (kn_6 hL) dX10_readHouse_44 ?_
      refine g_ref (b := 7) rfl ?_
      refine gt_X10_70 hC (x := x7) (kk_7 hL) (kn_7 hL) (ov_get hN 4 rfl rfl) dX10_readHouse_47 ?_
      refine g_iload_n hC 0 dX10_readHouse_50 rfl rfl ?_
      obtain ⟨h_4, hf⟩ := gdE hf
      refine g_iast hC (x := x10) (kk_10 hL) (kn_10 hL) (ov_get hN 5 rfl rfl) (inb_in h_4) (ov_set hN (by rfl) 5 (by rfl)) dX10_readHouse_51 ?_
      show gV l b0 D K (n, κ, ov X0 [1, 3, 4, 5, 7, 10] [x1_2, x3, x4, x5, x7, (upd x10 (x7 4).toNatClampNeg r_1)], ov Y0 [] [], Z, 0, 0) 52 [(1, .int r_1), (0, .ref (b0 + 6))] []
      refine g_aload_n hC 1 dX10_readHouse_52 rfl rfl ?_
      refine gt_X10_12 hC (a := 6) (kk_6 hL) (kn_6 hL) dX10_readHouse_53 ?_
      refine g_ref (b := 7) rfl ?_
      refine g_dup hC dX10_readHouse_56 rfl ?_
      refine gt_X10_70 hC (x := x7) (kk_7 hL) (kn_7 hL) (ov_get hN 4 rfl rfl) dX10_readHouse_57 ?_
      refine g_iconst hC (v := 1) dX10_readHouse_60 ic_1 ?_
      refine g_iadd hC dX10_readHouse_61 ?_
      refine pt_X10_70 hC (x := x7) (kk_7 hL) (kn_7 hL) (ov_get hN 4 rfl rfl) (ov_set hN (by rfl) 4 (by rfl)) dX10_readHouse_62 ?_
      show gV l b0 D K (n, κ, ov X0 [1, 3, 4, 5, 7, 10] [x1_2, x3, x4, x5, (upd x7 4 ((x7 4) + 1)), (upd x10 (x7 4).toNatClampNeg r_1)], ov Y0 [] [], Z, 0, 0) 65 [(1, .int r_1), (0, .ref (b0 + 6))] []
      refine g_iconst hC (v := 1) dX10_readHouse_65 ic_1 ?_
      obtain ⟨rfl, rfl, rfl, rfl⟩ := sm4E hf
      exact hret _ _ rfl dX10_readHouse_66
    · replace hf := ifF hf hc
      refine g_iconst hC (v := 0) dX10_readHouse_31 ic_0 ?_
      obtain ⟨rfl, rfl, rfl, rfl⟩ := sm4E hf
      exact hret _ _ rfl dX10_readHouse_32

def fX10_readHouse   (x3 : Nat → Int32) (x4 : Nat → Int32) (x5 : Nat → Int32)   (x1 : Nat → Int32) (x7 : Nat → Int32) (x10 : Nat → Int32)  : Option (Int32 × (Nat → Int32) × (Nat → Int32) × (Nat → Int32)) := fX10_readHouse_0 x3 x4 x5 x1 x7 x10

set_option maxHeartbeats 4000000 in
set_option maxRecDepth 100000 in
theorem c_X10_readHouse (l : Launch) {b0 : Nat} {D : GD} {n : Nat} {κ : QT} {X0 : XT} {Y0 : YT} {Z : ZT} (hL : LY n κ) {x1 : Nat → Int32} {x3 : Nat → Int32} {x4 : Nat → Int32} {x5 : Nat → Int32} {x7 : Nat → Int32} {x10 : Nat → Int32} (hx : ([1, 3, 4, 5, 7, 10] : List Nat).map X0 = [x1, x3, x4, x5, x7, x10]) (hy : ([] : List Nat).map Y0 = []) {r : Int32} {rx1 : (Nat → Int32)} {rx7 : (Nat → Int32)} {rx10 : (Nat → Int32)} (hf : fX10_readHouse x3 x4 x5 x1 x7 x10 = some (r, rx1, rx7, rx10)) : gMi l yX10_readHouse cX10_readHouse 2 (some FieldType.boolean) 2 45 0 0 b0 D [.ref (b0 + 6)] (n, κ, X0, Y0, Z) (n, κ, ov X0 [1, 3, 4, 5, 7, 10] [rx1, x3, x4, x5, rx7, rx10], ov Y0 [] [], Z) r := by
  have hN : ([1, 3, 4, 5, 7, 10] : List Nat).Nodup := by decide
  have hM : ([] : List Nat).Nodup := by decide
  refine g_meti (own := RX10) (by decide) rfl rfl (Nat.le_of_ble_eq_true rfl) ?_
  intro K hC hret
  have e := wX10_readHouse_0 hL hN hM hC  hret hf
  rw [ov_id' hx, ov_id' hy] at e
  exact g_sub [0] rfl e

-- X10_readJoin
def fX10_readJoin_82   (x3 : Nat → Int32) (x4 : Nat → Int32) (x5 : Nat → Int32) (x7 : Nat → Int32)  (v1 : Int32) (v2 : Int32) (s0 : Int32) (x1 : (Nat → Int32)) (x12 : (Nat → Int32)) : Option (Int32 × (Nat → Int32) × (Nat → Int32)) := if 0 ≤ s0 then (bd1 (fX7_setHard v1 v2 s0 x12) fun x12_1 => (some (1, x1, x12_1))) else (some (0, x1, x12))
set_option maxHeartbeats 4000000 in
set_option maxRecDepth 100000 in
theorem wX10_readJoin_82 {l : Launch} {b0 : Nat} {D : GD} {K : KT} {n : Nat} {κ : QT} {X0 : XT} {Y0 : YT} {Z : ZT} (hL : LY n κ) (hN : ([1, 3, 4, 5, 7, 12] : List Nat).Nodup) (hM : ([] : List Nat).Nodup) (hC : gC l b0 D K RX10 cX10_readJoin (some FieldType.boolean) 4 2 45 0 0) {x3 : Nat → Int32} {x4 : Nat → Int32} {x5 : Nat → Int32} {x7 : Nat → Int32} {r : Int32} {rx1 : (Nat → Int32)} {rx12 : (Nat → Int32)} (hret : ∀ pc loc, narrow .boolean (.int r) = .int r → decode cX10_readJoin pc = .ok (.ireturn, 1) → gV l b0 D K (n, κ, ov X0 [1, 3, 4, 5, 7, 12] [rx1, x3, x4, x5, x7, rx12], ov Y0 [] [], Z, 0, 0) pc loc [.int r]) {v1 : Int32} {v2 : Int32} {s0 : Int32} {x1 : (Nat → Int32)} {x12 : (Nat → Int32)} (hf : fX10_readJoin_82 x3 x4 x5 x7  v1 v2 s0 x1 x12 = some (r, rx1, rx12)) : gV l b0 D K (n, κ, ov X0 [1, 3, 4, 5, 7, 12] [x1, x3, x4, x5, x7, x12], ov Y0 [] [], Z, 0, 0) 82 [(0, .ref (b0 + 6)), (1, .int v1), (2, .int v2)] [.int s0] := by
  unfold fX10_readJoin_82 at hf
  refine g_istore_n hC (i := 3) [(3, .int s0), (0, .ref (b0 + 6)), (1, .int v1), (2, .int v2)] rfl dX10_readJoin_82 (by decide) rfl ?_
  refine g_iload_n hC 0 dX10_readJoin_83 rfl rfl ?_
  refine g_if_ge hC 89 dX10_readJoin_84 (by decide) (fun hc => ?_) (fun hc => ?_)
  · replace hf := ifT hf hc
    refine g_aload_n hC 1 dX10_readJoin_89 rfl rfl ?_
    refine gt_X10_12 hC (a := 6) (kk_6 hL) (kn_6 hL) dX10_readJoin_90 ?_
    refine g_ref (b := 7) rfl ?_
    refine gt_X10_80 hC (a := 7) (kk_7 hL) (kn_7 hL) dX10_readJoin_93 ?_
    refine g_ref (b := 9) rfl ?_
    refine g_iload_n hC 2 dX10_readJoin_96 rfl rfl ?_
    refine g_iload_n hC 3 dX10_readJoin_97 rfl rfl ?_
    refine g_iload_n hC 0 dX10_readJoin_98 rfl rfl ?_
    obtain ⟨x12_1, q_2, hf⟩ := bd1E hf
    refine g_callV_v (a := 9) hC (X' := ov X0 [1, 3, 4, 5, 7, 12] [x1, x3, x4, x5, x7, x12_1]) (Y' := ov Y0 [] []) (As := [.int v1, .int v2, .int s0]) (gMv_eq (c_X7_setHard l hL (kk_9 hL) (kn_9 hL) (nd_sub hN [5] (by decide) (by rfl)) (nd_sub hM [] (by decide) (by rfl)) (ov_map hN [5] (by rfl) (by rfl)) (ov_map hM [] (by rfl) (by rfl)) q_2) (ov_ovE hN (by rfl) [5] [0, 1, 2, 3, 4] (by rfl) (by rfl) [x1, x3, x4, x5, x7] (by rfl) (by rfl) (by rfl) 6 (by rfl) (by decide)) (ov_ovE hM (by rfl) [] [] (by rfl) (by rfl) [] (by rfl) (by rfl) (by rfl) 0 (by rfl) (by decide))) tw_682 tw_679 tw_120 tw_680 tw_681 (ci := 7) rfl (by decide) (kk_9 hL) (kn_9 hL) pd_X7_setHard (by decide) (by decide) rfl rfl (Nat.le_of_ble_eq_true rfl) rfl dX10_readJoin_99 ?_
    refine g_iconst hC (v := 1) dX10_readJoin_102 ic_1 ?_
    obtain ⟨rfl, rfl, rfl⟩ := sm3E hf
    exact hret _ _ rfl dX10_readJoin_103
  · replace hf := ifF hf hc
    refine g_iconst hC (v := 0) dX10_readJoin_87 ic_0 ?_
    obtain ⟨rfl, rfl, rfl⟩ := sm3E hf
    exact hret _ _ rfl dX10_readJoin_88

def fX10_readJoin_52   (x3 : Nat → Int32) (x4 : Nat → Int32) (x5 : Nat → Int32) (x7 : Nat → Int32)  (v1 : Int32) (x1 : (Nat → Int32)) (x12 : (Nat → Int32)) : Option (Int32 × (Nat → Int32) × (Nat → Int32)) := bd2 (fX10_readNumber x3 x4 x5 0 ((x7 4) - 1) x1) fun r_1 x1_2 => (if 0 ≤ r_1 then (bd2 (fX10_readNumber x3 x4 x5 1 9 x1_2) fun r_4 x1_5 => (fX10_readJoin_82 x3 x4 x5 x7  v1 r_1 r_4 x1_5 x12)) else (fX10_readJoin_82 x3 x4 x5 x7  v1 r_1 (-1) x1_2 x12))
set_option maxHeartbeats 4000000 in
set_option maxRecDepth 100000 in
theorem wX10_readJoin_52 {l : Launch} {b0 : Nat} {D : GD} {K : KT} {n : Nat} {κ : QT} {X0 : XT} {Y0 : YT} {Z : ZT} (hL : LY n κ) (hN : ([1, 3, 4, 5, 7, 12] : List Nat).Nodup) (hM : ([] : List Nat).Nodup) (hC : gC l b0 D K RX10 cX10_readJoin (some FieldType.boolean) 4 2 45 0 0) {x3 : Nat → Int32} {x4 : Nat → Int32} {x5 : Nat → Int32} {x7 : Nat → Int32} {r : Int32} {rx1 : (Nat → Int32)} {rx12 : (Nat → Int32)} (hret : ∀ pc loc, narrow .boolean (.int r) = .int r → decode cX10_readJoin pc = .ok (.ireturn, 1) → gV l b0 D K (n, κ, ov X0 [1, 3, 4, 5, 7, 12] [rx1, x3, x4, x5, x7, rx12], ov Y0 [] [], Z, 0, 0) pc loc [.int r]) {v1 : Int32} {x1 : (Nat → Int32)} {x12 : (Nat → Int32)} (hf : fX10_readJoin_52 x3 x4 x5 x7  v1 x1 x12 = some (r, rx1, rx12)) : gV l b0 D K (n, κ, ov X0 [1, 3, 4, 5, 7, 12] [x1, x3, x4, x5, x7, x12], ov Y0 [] [], Z, 0, 0) 52 [(0, .ref (b0 + 6)), (1, .int v1)] [] := by
  unfold fX10_readJoin_52 at hf
  refine g_aload_n hC 0 dX10_readJoin_52 rfl rfl ?_
  refine g_iconst hC (v := 0) dX10_readJoin_53 ic_0 ?_
  refine g_aload_n hC 0 dX10_readJoin_54 rfl rfl ?_
  refine gt_X10_12 hC (a := 6) (kk_6 hL) (kn_6 hL) dX10_readJoin_55 ?_
  refine g_ref (b := 7) rfl ?_
  refine gt_X10_70 hC (x := x7) (kk_7 hL) (kn_7 hL) (ov_get hN 4 rfl rfl) dX10_readJoin_58 ?_
  refine g_iconst hC (v := 1) dX10_readJoin_61 ic_1 ?_
  refine g_isub hC dX10_readJoin_62 ?_
  obtain ⟨r_1, x1_2, q_3, hf⟩ := bd2E hf
  refine g_callV_i (a := 6) hC (X' := ov X0 [1, 3, 4, 5, 7, 12] [x1_2, x3, x4, x5, x7, x12]) (Y' := ov Y0 [] []) (As := [.int 0, .int ((x7 4) - 1)]) (gMi_eq (c_X10_readNumber l hL (ov_map hN [0, 1, 2, 3] (by rfl) (by rfl)) (ov_map hM [] (by rfl) (by rfl)) q_3) (ov_ovE hN (by rfl) [0, 1, 2, 3] [4, 5] (by rfl) (by rfl) [x7, x12] (by rfl) (by rfl) (by rfl) 6 (by rfl) (by decide)) (ov_ovE hM (by rfl) [] [] (by rfl) (by rfl) [] (by rfl) (by rfl) (by rfl) 0 (by rfl) (by decide))) tw_659 tw_656 tw_118 tw_658 tw_10 (ci := 10) rfl (by decide) (kk_6 hL) (kn_6 hL) pd_X10_readNumber (by decide) (by decide) rfl rfl (Nat.le_of_ble_eq_true rfl) rfl dX10_readJoin_63 ?_
  refine g_istore_n hC (i := 2) [(2, .int r_1), (0, .ref (b0 + 6)), (1, .int v1)] rfl dX10_readJoin_66 (by decide) rfl ?_
  refine g_iload_n hC 0 dX10_readJoin_67 rfl rfl ?_
  refine g_if_ge hC 75 dX10_readJoin_68 (by decide) (fun hc => ?_) (fun hc => ?_)
  · replace hf := ifT hf hc
    refine g_aload_n hC 1 dX10_readJoin_75 rfl rfl ?_
    refine g_iconst hC (v := 1) dX10_readJoin_76 ic_1 ?_
    refine g_bipush hC (v := 9) dX10_readJoin_77 bp_9 ?_
    obtain ⟨r_4, x1_5, q_6, hf⟩ := bd2E hf
    refine g_callV_i (a := 6) hC (X' := ov X0 [1, 3, 4, 5, 7, 12] [x1_5, x3, x4, x5, x7, x12]) (Y' := ov Y0 [] []) (As := [.int 1, .int 9]) (gMi_eq (c_X10_readNumber l hL (ov_map hN [0, 1, 2, 3] (by rfl) (by rfl)) (ov_map hM [] (by rfl) (by rfl)) q_6) (ov_ovE hN (by rfl) [0, 1, 2, 3] [4, 5] (by rfl) (by rfl) [x7, x12] (by rfl) (by rfl) (by rfl) 6 (by rfl) (by decide)) (ov_ovE hM (by rfl) [] [] (by rfl) (by rfl) [] (by rfl) (by rfl) (by rfl) 0 (by rfl) (by decide))) tw_659 tw_656 tw_118 tw_658 tw_10 (ci := 10) rfl (by decide) (kk_6 hL) (kn_6 hL) pd_X10_readNumber (by decide) (by decide) rfl rfl (Nat.le_of_ble_eq_true rfl) rfl dX10_readJoin_79 ?_
    exact g_sub [1, 2, 0] rfl (wX10_readJoin_82 hL hN hM hC  hret  hf)
  · replace hf := ifF hf hc
    refine g_iconst hC (v := (-1)) dX10_readJoin_71 ic_m1 ?_
    refine g_goto hC 82 dX10_readJoin_72 (by decide) ?_
    exact g_sub [1, 2, 0] rfl (wX10_readJoin_82 hL hN hM hC  hret  hf)

def fX10_readJoin_0   (x3 : Nat → Int32) (x4 : Nat → Int32) (x5 : Nat → Int32) (x7 : Nat → Int32)  (x1 : (Nat → Int32)) (x12 : (Nat → Int32)) : Option (Int32 × (Nat → Int32) × (Nat → Int32)) := bd2 (fX10_readNumber x3 x4 x5 0 ((x7 4) - 1) x1) fun r_1 x1_2 => (if 0 ≤ r_1 then (bd1 (fX8_code x1_2 x3) fun r_4 => (if r_4 = 1 then (bd1 (fX8_number x1_2 x5) fun r_6 => (if r_6 = r_1 then (bd2 (fX8_fail x4 1 x1_2) fun r_8 x1_9 => (gd (bz r_8) (some (r_8, x1_9, x12)))) else (fX10_readJoin_52 x3 x4 x5 x7  r_1 x1_2 x12))) else (fX10_readJoin_52 x3 x4 x5 x7  r_1 x1_2 x12))) else (some (0, x1_2, x12)))
set_option maxHeartbeats 4000000 in
set_option maxRecDepth 100000 in
theorem wX10_readJoin_0 {l : Launch} {b0 : Nat} {D : GD} {K : KT} {n : Nat} {κ : QT} {X0 : XT} {Y0 : YT} {Z : ZT} (hL : LY n κ) (hN : ([1, 3, 4, 5, 7, 12] : List Nat).Nodup) (hM : ([] : List Nat).Nodup) (hC : gC l b0 D K RX10 cX10_readJoin (some FieldType.boolean) 4 2 45 0 0) {x3 : Nat → Int32} {x4 : Nat → Int32} {x5 : Nat → Int32} {x7 : Nat → Int32} {r : Int32} {rx1 : (Nat → Int32)} {rx12 : (Nat → Int32)} (hret : ∀ pc loc, narrow .boolean (.int r) = .int r → decode cX10_readJoin pc = .ok (.ireturn, 1) → gV l b0 D K (n, κ, ov X0 [1, 3, 4, 5, 7, 12] [rx1, x3, x4, x5, x7, rx12], ov Y0 [] [], Z, 0, 0) pc loc [.int r]) {x1 : (Nat → Int32)} {x12 : (Nat → Int32)} (hf : fX10_readJoin_0 x3 x4 x5 x7  x1 x12 = some (r, rx1, rx12)) : gV l b0 D K (n, κ, ov X0 [1, 3, 4, 5, 7, 12] [x1, x3, x4, x5, x7, x12], ov Y0 [] [], Z, 0, 0) 0 [(0, .ref (b0 + 6))] [] := by
  unfold fX10_readJoin_0 at hf
  refine g_aload_n hC 0 dX10_readJoin_0 rfl rfl ?_
  refine g_iconst hC (v := 0) dX10_readJoin_1 ic_0 ?_
  refine g_aload_n hC 0 dX10_readJoin_2 rfl rfl ?_
  refine gt_X10_12 hC (a := 6) (kk_6 hL) (kn_6 hL) dX10_readJoin_3 ?_
  refine g_ref (b := 7) rfl ?_
  refine gt_X10_70 hC (x := x7) (kk_7 hL) (kn_7 hL) (ov_get hN 4 rfl rfl) dX10_readJoin_6 ?_
  refine g_iconst hC (v := 1) dX10_readJoin_9 ic_1 ?_
  refine g_isub hC dX10_readJoin_10 ?_
  obtain ⟨r_1, x1_2, q_3, hf⟩ := bd2E hf
  refine g_callV_i (a := 6) hC (X' := ov X0 [1, 3, 4, 5, 7, 12] [x1_2, x3, x4, x5, x7, x12]) (Y' := ov Y0 [] []) (As := [.int 0, .int ((x7 4) - 1)]) (gMi_eq (c_X10_readNumber l hL (ov_map hN [0, 1, 2, 3] (by rfl) (by rfl)) (ov_map hM [] (by rfl) (by rfl)) q_3) (ov_ovE hN (by rfl) [0, 1, 2, 3] [4, 5] (by rfl) (by rfl) [x7, x12] (by rfl) (by rfl) (by rfl) 6 (by rfl) (by decide)) (ov_ovE hM (by rfl) [] [] (by rfl) (by rfl) [] (by rfl) (by rfl) (by rfl) 0 (by rfl) (by decide))) tw_659 tw_656 tw_118 tw_658 tw_10 (ci := 10) rfl (by decide) (kk_6 hL) (kn_6 hL) pd_X10_readNumber (by decide) (by decide) rfl rfl (Nat.le_of_ble_eq_true rfl) rfl dX10_readJoin_11 ?_
  refine g_istore_n hC (i := 1) [(1, .int r_1), (0, .ref (b0 + 6))] rfl dX10_readJoin_14 (by decide) rfl ?_
  refine g_iload_n hC 0 dX10_readJoin_15 rfl rfl ?_
  refine g_if_ge hC 21 dX10_readJoin_16 (by decide) (fun hc => ?_) (fun hc => ?_)
  · replace hf := ifT hf hc
    refine g_aload_n hC 1 dX10_readJoin_21 rfl rfl ?_
    refine gt_X10_18 hC (a := 6) (kk_6 hL) (kn_6 hL) dX10_readJoin_22 ?_
    refine g_ref (b := 1) rfl ?_
    obtain ⟨r_4, q_5, hf⟩ := bd1E hf
    refine g_callV_i (a := 1) hC (X' := ov X0 [1, 3, 4, 5, 7, 12] [x1_2, x3, x4, x5, x7, x12]) (Y' := ov Y0 [] []) (As := []) (gMi_eq (c_X8_code l hL (ov_map hN [0, 1] (by rfl) (by rfl)) (ov_map hM [] (by rfl) (by rfl)) q_5) (ov_ovE hN (by rfl) [0, 1] [2, 3, 4, 5] (by rfl) (by rfl) [x4, x5, x7, x12] (by rfl) (by rfl) (by rfl) 6 (by rfl) (by decide)) (ov_ovE hM (by rfl) [] [] (by rfl) (by rfl) [] (by rfl) (by rfl) (by rfl) 0 (by rfl) (by decide))) tw_639 tw_636 tw_117 tw_637 tw_638 (ci := 8) rfl (by decide) (kk_1 hL) (kn_1 hL) pd_X8_code (by decide) (by decide) rfl rfl (Nat.le_of_ble_eq_true rfl) rfl dX10_readJoin_25 ?_
    refine g_iconst hC (v := 1) dX10_readJoin_28 ic_1 ?_
    refine g_icmp_ne hC 52 dX10_readJoin_29 (by decide) (fun hc => ?_) (fun hc => ?_)
    · replace hf := ifF hf hc
      exact g_sub [1, 0] rfl (wX10_readJoin_52 hL hN hM hC  hret  hf)
    · replace hf := ifT hf hc
      refine g_aload_n hC 1 dX10_readJoin_32 rfl rfl ?_
      refine gt_X10_18 hC (a := 6) (kk_6 hL) (kn_6 hL) dX10_readJoin_33 ?_
      refine g_ref (b := 1) rfl ?_
      obtain ⟨r_6, q_7, hf⟩ := bd1E hf
      refine g_callV_i (a := 1) hC (X' := ov X0 [1, 3, 4, 5, 7, 12] [x1_2, x3, x4, x5, x7, x12]) (Y' := ov Y0 [] []) (As := []) (gMi_eq (c_X8_number l hL (ov_map hN [0, 3] (by rfl) (by rfl)) (ov_map hM [] (by rfl) (by rfl)) q_7) (ov_ovE hN (by rfl) [0, 3] [1, 2, 4, 5] (by rfl) (by rfl) [x3, x4, x7, x12] (by rfl) (by rfl) (by rfl) 6 (by rfl) (by decide)) (ov_ovE hM (by rfl) [] [] (by rfl) (by rfl) [] (by rfl) (by rfl) (by rfl) 0 (by rfl) (by decide))) tw_663 tw_660 tw_117 tw_661 tw_662 (ci := 8) rfl (by decide) (kk_1 hL) (kn_1 hL) pd_X8_number (by decide) (by decide) rfl rfl (Nat.le_of_ble_eq_true rfl) rfl dX10_readJoin_36 ?_
      refine g_iload_n hC 0 dX10_readJoin_39 rfl rfl ?_
      refine g_icmp_ne hC 52 dX10_readJoin_40 (by decide) (fun hc => ?_) (fun hc => ?_)
      · replace hf := ifF hf hc
        exact g_sub [1, 0] rfl (wX10_readJoin_52 hL hN hM hC  hret  hf)
      · replace hf := ifT hf hc
        refine g_aload_n hC 1 dX10_readJoin_43 rfl rfl ?_
        refine gt_X10_18 hC (a := 6) (kk_6 hL) (kn_6 hL) dX10_readJoin_44 ?_
        refine g_ref (b := 1) rfl ?_
        refine g_iconst hC (v := 1) dX10_readJoin_47 ic_1 ?_
        obtain ⟨r_8, x1_9, q_10, hf⟩ := bd2E hf
        refine g_callV_i (a := 1) hC (X' := ov X0 [1, 3, 4, 5, 7, 12] [x1_9, x3, x4, x5, x7, x12]) (Y' := ov Y0 [] []) (As := [.int 1]) (gMi_eq (c_X8_fail l hL (ov_map hN [0, 2] (by rfl) (by rfl)) (ov_map hM [] (by rfl) (by rfl)) q_10) (ov_ovE hN (by rfl) [0, 2] [1, 3, 4, 5] (by rfl) (by rfl) [x3, x5, x7, x12] (by rfl) (by rfl) (by rfl) 6 (by rfl) (by decide)) (ov_ovE hM (by rfl) [] [] (by rfl) (by rfl) [] (by rfl) (by rfl) (by rfl) 0 (by rfl) (by decide))) tw_643 tw_640 tw_117 tw_641 tw_642 (ci := 8) rfl (by decide) (kk_1 hL) (kn_1 hL) pd_X8_fail (by decide) (by decide) rfl rfl (Nat.le_of_ble_eq_true rfl) rfl dX10_readJoin_48 ?_
        obtain ⟨h_11, hf⟩ := gdE hf
        obtain ⟨rfl, rfl, rfl⟩ := sm3E hf
        exact hret _ _ (bz_nar h_11) dX10_readJoin_51
  · replace hf := ifF hf hc
    refine g_iconst hC (v := 0) dX10_readJoin_19 ic_0 ?_
    obtain ⟨rfl, rfl, rfl⟩ := sm3E hf
    exact hret _ _ rfl dX10_readJoin_20

def fX10_readJoin   (x3 : Nat → Int32) (x4 : Nat → Int32) (x5 : Nat → Int32) (x7 : Nat → Int32)   (x1 : Nat → Int32) (x12 : Nat → Int32)  : Option (Int32 × (Nat → Int32) × (Nat → Int32)) := fX10_readJoin_0 x3 x4 x5 x7 x1 x12

set_option maxHeartbeats 4000000 in
set_option maxRecDepth 100000 in
theorem c_X10_readJoin (l : Launch) {b0 : Nat} {D : GD} {n : Nat} {κ : QT} {X0 : XT} {Y0 : YT} {Z : ZT} (hL : LY n κ) {x1 : Nat → Int32} {x3 : Nat → Int32} {x4 : Nat → Int32} {x5 : Nat → Int32} {x7 : Nat → Int32} {x12 : Nat → Int32} (hx : ([1, 3, 4, 5, 7, 12] : List Nat).map X0 = [x1, x3, x4, x5, x7, x12]) (hy : ([] : List Nat).map Y0 = []) {r : Int32} {rx1 : (Nat → Int32)} {rx12 : (Nat → Int32)} (hf : fX10_readJoin x3 x4 x5 x7 x1 x12 = some (r, rx1, rx12)) : gMi l yX10_readJoin cX10_readJoin 4 (some FieldType.boolean) 2 45 0 0 b0 D [.ref (b0 + 6)] (n, κ, X0, Y0, Z) (n, κ, ov X0 [1, 3, 4, 5, 7, 12] [rx1, x3, x4, x5, x7, rx12], ov Y0 [] [], Z) r := by
  have hN : ([1, 3, 4, 5, 7, 12] : List Nat).Nodup := by decide
  have hM : ([] : List Nat).Nodup := by decide
  refine g_meti (own := RX10) (by decide) rfl rfl (Nat.le_of_ble_eq_true rfl) ?_
  intro K hC hret
  have e := wX10_readJoin_0 hL hN hM hC  hret hf
  rw [ov_id' hx, ov_id' hy] at e
  exact g_sub [0] rfl e

-- X10_readRock
def fX10_readRock_30   (x3 : Nat → Int32) (x4 : Nat → Int32) (x5 : Nat → Int32) (x7 : Nat → Int32)  (v1 : Int32) (s0 : Int32) (x1 : (Nat → Int32)) (x11 : (Nat → Int32)) : Option (Int32 × (Nat → Int32) × (Nat → Int32)) := if 0 ≤ s0 then (gd (inb v1 6) (some (1, x1, (upd x11 v1.toNatClampNeg s0)))) else (some (0, x1, x11))
set_option maxHeartbeats 4000000 in
set_option maxRecDepth 100000 in
theorem wX10_readRock_30 {l : Launch} {b0 : Nat} {D : GD} {K : KT} {n : Nat} {κ : QT} {X0 : XT} {Y0 : YT} {Z : ZT} (hL : LY n κ) (hN : ([1, 3, 4, 5, 7, 11] : List Nat).Nodup) (hM : ([] : List Nat).Nodup) (hC : gC l b0 D K RX10 cX10_readRock (some FieldType.boolean) 3 2 45 0 0) {x3 : Nat → Int32} {x4 : Nat → Int32} {x5 : Nat → Int32} {x7 : Nat → Int32} {r : Int32} {rx1 : (Nat → Int32)} {rx11 : (Nat → Int32)} (hret : ∀ pc loc, narrow .boolean (.int r) = .int r → decode cX10_readRock pc = .ok (.ireturn, 1) → gV l b0 D K (n, κ, ov X0 [1, 3, 4, 5, 7, 11] [rx1, x3, x4, x5, x7, rx11], ov Y0 [] [], Z, 0, 0) pc loc [.int r]) {v1 : Int32} {s0 : Int32} {x1 : (Nat → Int32)} {x11 : (Nat → Int32)} (hf : fX10_readRock_30 x3 x4 x5 x7  v1 s0 x1 x11 = some (r, rx1, rx11)) : gV l b0 D K (n, κ, ov X0 [1, 3, 4, 5, 7, 11] [x1, x3, x4, x5, x7, x11], ov Y0 [] [], Z, 0, 0) 30 [(0, .ref (b0 + 6)), (1, .int v1)] [.int s0] := by
  unfold fX10_readRock_30 at hf
  refine g_istore_n hC (i := 2) [(2, .int s0), (0, .ref (b0 + 6)), (1, .int v1)] rfl dX10_readRock_30 (by decide) rfl ?_
  refine g_iload_n hC 0 dX10_readRock_31 rfl rfl ?_
  refine g_if_ge hC 37 dX10_readRock_32 (by decide) (fun hc => ?_) (fun hc => ?_)
  · replace hf := ifT hf hc
    refine g_aload_n hC 1 dX10_readRock_37 rfl rfl ?_
    refine gt_X10_12 hC (a := 6) (kk_6 hL) (kn_6 hL) dX10_readRock_38 ?_
    refine g_ref (b := 7) rfl ?_
    refine gt_X10_80 hC (a := 7) (kk_7 hL) (kn_7 hL) dX10_readRock_41 ?_
    refine g_ref (b := 9) rfl ?_
    refine gt_X10_106 hC (a := 9) (kk_9 hL) (kn_9 hL) dX10_readRock_44 ?_
    refine g_ref (b := 11) rfl ?_
    refine g_iload_n hC 2 dX10_readRock_47 rfl rfl ?_
    refine g_iload_n hC 0 dX10_readRock_48 rfl rfl ?_
    obtain ⟨h_1, hf⟩ := gdE hf
    refine g_iast hC (x := x11) (kk_11 hL) (kn_11 hL) (ov_get hN 5 rfl rfl) (inb_in h_1) (ov_set hN (by rfl) 5 (by rfl)) dX10_readRock_49 ?_
    show gV l b0 D K (n, κ, ov X0 [1, 3, 4, 5, 7, 11] [x1, x3, x4, x5, x7, (upd x11 v1.toNatClampNeg s0)], ov Y0 [] [], Z, 0, 0) 50 [(2, .int s0), (0, .ref (b0 + 6)), (1, .int v1)] []
    refine g_iconst hC (v := 1) dX10_readRock_50 ic_1 ?_
    obtain ⟨rfl, rfl, rfl⟩ := sm3E hf
    exact hret _ _ rfl dX10_readRock_51
  · replace hf := ifF hf hc
    refine g_iconst hC (v := 0) dX10_readRock_35 ic_0 ?_
    obtain ⟨rfl, rfl, rfl⟩ := sm3E hf
    exact hret _ _ rfl dX10_readRock_36

def fX10_readRock_0   (x3 : Nat → Int32) (x4 : Nat → Int32) (x5 : Nat → Int32) (x7 : Nat → Int32)  (x1 : (Nat → Int32)) (x11 : (Nat → Int32)) : Option (Int32 × (Nat → Int32) × (Nat → Int32)) := bd2 (fX10_readNumber x3 x4 x5 0 ((x7 4) - 1) x1) fun r_1 x1_2 => (if 0 ≤ r_1 then (bd2 (fX10_readNumber x3 x4 x5 1 9 x1_2) fun r_4 x1_5 => (fX10_readRock_30 x3 x4 x5 x7  r_1 r_4 x1_5 x11)) else (fX10_readRock_30 x3 x4 x5 x7  r_1 (-1) x1_2 x11))
set_option maxHeartbeats 4000000 in
set_option maxRecDepth 100000 in
theorem wX10_readRock_0 {l : Launch} {b0 : Nat} {D : GD} {K : KT} {n : Nat} {κ : QT} {X0 : XT} {Y0 : YT} {Z : ZT} (hL : LY n κ) (hN : ([1, 3, 4, 5, 7, 11] : List Nat).Nodup) (hM : ([] : List Nat).Nodup) (hC : gC l b0 D K RX10 cX10_readRock (some FieldType.boolean) 3 2 45 0 0) {x3 : Nat → Int32} {x4 : Nat → Int32} {x5 : Nat → Int32} {x7 : Nat → Int32} {r : Int32} {rx1 : (Nat → Int32)} {rx11 : (Nat → Int32)} (hret : ∀ pc loc, narrow .boolean (.int r) = .int r → decode cX10_readRock pc = .ok (.ireturn, 1) → gV l b0 D K (n, κ, ov X0 [1, 3, 4, 5, 7, 11] [rx1, x3, x4, x5, x7, rx11], ov Y0 [] [], Z, 0, 0) pc loc [.int r]) {x1 : (Nat → Int32)} {x11 : (Nat → Int32)} (hf : fX10_readRock_0 x3 x4 x5 x7  x1 x11 = some (r, rx1, rx11)) : gV l b0 D K (n, κ, ov X0 [1, 3, 4, 5, 7, 11] [x1, x3, x4, x5, x7, x11], ov Y0 [] [], Z, 0, 0) 0 [(0, .ref (b0 + 6))] [] := by
  unfold fX10_readRock_0 at hf
  refine g_aload_n hC 0 dX10_readRock_0 rfl rfl ?_
  refine g_iconst hC (v := 0) dX10_readRock_1 ic_0 ?_
  refine g_aload_n hC 0 dX10_readRock_2 rfl rfl ?_
  refine gt_X10_12 hC (a := 6) (kk_6 hL) (kn_6 hL) dX10_readRock_3 ?_
  refine g_ref (b := 7) rfl ?_
  refine gt_X10_70 hC (x := x7) (kk_7 hL) (kn_7 hL) (ov_get hN 4 rfl rfl) dX10_readRock_6 ?_
  refine g_iconst hC (v := 1) dX10_readRock_9 ic_1 ?_
  refine g_isub hC dX10_readRock_10 ?_
  obtain ⟨r_1, x1_2, q_3, hf⟩ := bd2E hf
  refine g_callV_i (a := 6) hC (X' := ov X0 [1, 3, 4, 5, 7, 11] [x1_2, x3, x4, x5, x7, x11]) (Y' := ov Y0 [] []) (As := [.int 0, .int ((x7 4) - 1)]) (gMi_eq (c_X10_readNumber l hL (ov_map hN [0, 1, 2, 3] (by rfl) (by rfl)) (ov_map hM [] (by rfl) (by rfl)) q_3) (ov_ovE hN (by rfl) [0, 1, 2, 3] [4, 5] (by rfl) (by rfl) [x7, x11] (by rfl) (by rfl) (by rfl) 6 (by rfl) (by decide)) (ov_ovE hM (by rfl) [] [] (by rfl) (by rfl) [] (by rfl) (by rfl) (by rfl) 0 (by rfl) (by decide))) tw_659 tw_656 tw_118 tw_658 tw_10 (ci := 10) rfl (by decide) (kk_6 hL) (kn_6 hL) pd_X10_readNumber (by decide) (by decide) rfl rfl (Nat.le_of_ble_eq_true rfl) rfl dX10_readRock_11 ?_
  refine g_istore_n hC (i := 1) [(1, .int r_1), (0, .ref (b0 + 6))] rfl dX10_readRock_14 (by decide) rfl ?_
  refine g_iload_n hC 0 dX10_readRock_15 rfl rfl ?_
  refine g_if_ge hC 23 dX10_readRock_16 (by decide) (fun hc => ?_) (fun hc => ?_)
  · replace hf := ifT hf hc
    refine g_aload_n hC 1 dX10_readRock_23 rfl rfl ?_
    refine g_iconst hC (v := 1) dX10_readRock_24 ic_1 ?_
    refine g_bipush hC (v := 9) dX10_readRock_25 bp_9 ?_
    obtain ⟨r_4, x1_5, q_6, hf⟩ := bd2E hf
    refine g_callV_i (a := 6) hC (X' := ov X0 [1, 3, 4, 5, 7, 11] [x1_5, x3, x4, x5, x7, x11]) (Y' := ov Y0 [] []) (As := [.int 1, .int 9]) (gMi_eq (c_X10_readNumber l hL (ov_map hN [0, 1, 2, 3] (by rfl) (by rfl)) (ov_map hM [] (by rfl) (by rfl)) q_6) (ov_ovE hN (by rfl) [0, 1, 2, 3] [4, 5] (by rfl) (by rfl) [x7, x11] (by rfl) (by rfl) (by rfl) 6 (by rfl) (by decide)) (ov_ovE hM (by rfl) [] [] (by rfl) (by rfl) [] (by rfl) (by rfl) (by rfl) 0 (by rfl) (by decide))) tw_659 tw_656 tw_118 tw_658 tw_10 (ci := 10) rfl (by decide) (kk_6 hL) (kn_6 hL) pd_X10_readNumber (by decide) (by decide) rfl rfl (Nat.le_of_ble_eq_true rfl) rfl dX10_readRock_27 ?_
    exact g_sub [1, 0] rfl (wX10_readRock_30 hL hN hM hC  hret  hf)
  · replace hf := ifF hf hc
    refine g_iconst hC (v := (-1)) dX10_readRock_19 ic_m1 ?_
    refine g_goto hC 30 dX10_readRock_20 (by decide) ?_
    exact g_sub [1, 0] rfl (wX10_readRock_30 hL hN hM hC  hret  hf)

def fX10_readRock   (x3 : Nat → Int32) (x4 : Nat → Int32) (x5 : Nat → Int32) (x7 : Nat → Int32)   (x1 : Nat → Int32) (x11 : Nat → Int32)  : Option (Int32 × (Nat → Int32) × (Nat → Int32)) := fX10_readRock_0 x3 x4 x5 x7 x1 x11

set_option maxHeartbeats 4000000 in
set_option maxRecDepth 100000 in
theorem c_X10_readRock (l : Launch) {b0 : Nat} {D : GD} {n : Nat} {κ : QT} {X0 : XT} {Y0 : YT} {Z : ZT} (hL : LY n κ) {x1 : Nat → Int32} {x3 : Nat → Int32} {x4 : Nat → Int32} {x5 : Nat → Int32} {x7 : Nat → Int32} {x11 : Nat → Int32} (hx : ([1, 3, 4, 5, 7, 11] : List Nat).map X0 = [x1, x3, x4, x5, x7, x11]) (hy : ([] : List Nat).map Y0 = []) {r : Int32} {rx1 : (Nat → Int32)} {rx11 : (Nat → Int32)} (hf : fX10_readRock x3 x4 x5 x7 x1 x11 = some (r, rx1, rx11)) : gMi l yX10_readRock cX10_readRock 3 (some FieldType.boolean) 2 45 0 0 b0 D [.ref (b0 + 6)] (n, κ, X0, Y0, Z) (n, κ, ov X0 [1, 3, 4, 5, 7, 11] [rx1, x3, x4, x5, x7, rx11], ov Y0 [] [], Z) r := by
  have hN : ([1, 3, 4, 5, 7, 11] : List Nat).Nodup := by decide
  have hM : ([] : List Nat).Nodup := by decide
  refine g_meti (own := RX10) (by decide) rfl rfl (Nat.le_of_ble_eq_true rfl) ?_
  intro K hC hret
  have e := wX10_readRock_0 hL hN hM hC  hret hf
  rw [ov_id' hx, ov_id' hy] at e
  exact g_sub [0] rfl e

-- X10_readClause
def fX10_readClause_84   (x3 : Nat → Int32) (x4 : Nat → Int32) (x5 : Nat → Int32)  (x1 : (Nat → Int32)) (x7 : (Nat → Int32)) (x8 : (Nat → Int32)) (x9 : (Nat → Int32)) (x10 : (Nat → Int32)) (x11 : (Nat → Int32)) (x12 : (Nat → Int32)) : Option (Int32 × (Nat → Int32) × (Nat → Int32) × (Nat → Int32) × (Nat → Int32) × (Nat → Int32) × (Nat → Int32) × (Nat → Int32)) := bd2 (fX8_fail x4 4 x1) fun r_1 x1_2 => (gd (bz r_1) (some (r_1, x1_2, x7, x8, x9, x10, x11, x12)))
set_option maxHeartbeats 4000000 in
set_option maxRecDepth 100000 in
theorem wX10_readClause_84 {l : Launch} {b0 : Nat} {D : GD} {K : KT} {n : Nat} {κ : QT} {X0 : XT} {Y0 : YT} {Z : ZT} (hL : LY n κ) (hN : ([1, 3, 4, 5, 7, 8, 9, 10, 11, 12] : List Nat).Nodup) (hM : ([] : List Nat).Nodup) (hC : gC l b0 D K RX10 cX10_readClause (some FieldType.boolean) 3 3 68 0 0) {x3 : Nat → Int32} {x4 : Nat → Int32} {x5 : Nat → Int32} {r : Int32} {rx1 : (Nat → Int32)} {rx7 : (Nat → Int32)} {rx8 : (Nat → Int32)} {rx9 : (Nat → Int32)} {rx10 : (Nat → Int32)} {rx11 : (Nat → Int32)} {rx12 : (Nat → Int32)} (hret : ∀ pc loc, narrow .boolean (.int r) = .int r → decode cX10_readClause pc = .ok (.ireturn, 1) → gV l b0 D K (n, κ, ov X0 [1, 3, 4, 5, 7, 8, 9, 10, 11, 12] [rx1, x3, x4, x5, rx7, rx8, rx9, rx10, rx11, rx12], ov Y0 [] [], Z, 0, 0) pc loc [.int r]) {x1 : (Nat → Int32)} {x7 : (Nat → Int32)} {x8 : (Nat → Int32)} {x9 : (Nat → Int32)} {x10 : (Nat → Int32)} {x11 : (Nat → Int32)} {x12 : (Nat → Int32)} (hf : fX10_readClause_84 x3 x4 x5  x1 x7 x8 x9 x10 x11 x12 = some (r, rx1, rx7, rx8, rx9, rx10, rx11, rx12)) : gV l b0 D K (n, κ, ov X0 [1, 3, 4, 5, 7, 8, 9, 10, 11, 12] [x1, x3, x4, x5, x7, x8, x9, x10, x11, x12], ov Y0 [] [], Z, 0, 0) 84 [(0, .ref (b0 + 6))] [] := by
  unfold fX10_readClause_84 at hf
  refine g_aload_n hC 0 dX10_readClause_84 rfl rfl ?_
  refine gt_X10_18 hC (a := 6) (kk_6 hL) (kn_6 hL) dX10_readClause_85 ?_
  refine g_ref (b := 1) rfl ?_
  refine g_iconst hC (v := 4) dX10_readClause_88 ic_4 ?_
  obtain ⟨r_1, x1_2, q_3, hf⟩ := bd2E hf
  refine g_callV_i (a := 1) hC (X' := ov X0 [1, 3, 4, 5, 7, 8, 9, 10, 11, 12] [x1_2, x3, x4, x5, x7, x8, x9, x10, x11, x12]) (Y' := ov Y0 [] []) (As := [.int 4]) (gMi_eq (c_X8_fail l hL (ov_map hN [0, 2] (by rfl) (by rfl)) (ov_map hM [] (by rfl) (by rfl)) q_3) (ov_ovE hN (by rfl) [0, 2] [1, 3, 4, 5, 6, 7, 8, 9] (by rfl) (by rfl) [x3, x5, x7, x8, x9, x10, x11, x12] (by rfl) (by rfl) (by rfl) 10 (by rfl) (by decide)) (ov_ovE hM (by rfl) [] [] (by rfl) (by rfl) [] (by rfl) (by rfl) (by rfl) 0 (by rfl) (by decide))) tw_643 tw_640 tw_117 tw_641 tw_642 (ci := 8) rfl (by decide) (kk_1 hL) (kn_1 hL) pd_X8_fail (by decide) (by decide) rfl rfl (Nat.le_of_ble_eq_true rfl) rfl dX10_readClause_89 ?_
  obtain ⟨h_4, hf⟩ := gdE hf
  obtain ⟨rfl, rfl, rfl, rfl, rfl, rfl, rfl, rfl⟩ := sm8E hf
  exact hret _ _ (bz_nar h_4) dX10_readClause_92

def fX10_readClause_164   (x3 : Nat → Int32) (x4 : Nat → Int32) (x5 : Nat → Int32)  (x1 : (Nat → Int32)) (x7 : (Nat → Int32)) (x8 : (Nat → Int32)) (x9 : (Nat → Int32)) (x10 : (Nat → Int32)) (x11 : (Nat → Int32)) (x12 : (Nat → Int32)) : Option (Int32 × (Nat → Int32) × (Nat → Int32) × (Nat → Int32) × (Nat → Int32) × (Nat → Int32) × (Nat → Int32) × (Nat → Int32)) := bd3 (fX10_readRock x3 x4 x5 x7 x1 x11) fun r_1 x1_2 x11_3 => (gd (bz r_1) (some (r_1, x1_2, x7, x8, x9, x10, x11_3, x12)))
set_option maxHeartbeats 4000000 in
set_option maxRecDepth 100000 in
theorem wX10_readClause_164 {l : Launch} {b0 : Nat} {D : GD} {K : KT} {n : Nat} {κ : QT} {X0 : XT} {Y0 : YT} {Z : ZT} (hL : LY n κ) (hN : ([1, 3, 4, 5, 7, 8, 9, 10, 11, 12] : List Nat).Nodup) (hM : ([] : List Nat).Nodup) (hC : gC l b0 D K RX10 cX10_readClause (some FieldType.boolean) 3 3 68 0 0) {x3 : Nat → Int32} {x4 : Nat → Int32} {x5 : Nat → Int32} {r : Int32} {rx1 : (Nat → Int32)} {rx7 : (Nat → Int32)} {rx8 : (Nat → Int32)} {rx9 : (Nat → Int32)} {rx10 : (Nat → Int32)} {rx11 : (Nat → Int32)} {rx12 : (Nat → Int32)} (hret : ∀ pc loc, narrow .boolean (.int r) = .int r → decode cX10_readClause pc = .ok (.ireturn, 1) → gV l b0 D K (n, κ, ov X0 [1, 3, 4, 5, 7, 8, 9, 10, 11, 12] [rx1, x3, x4, x5, rx7, rx8, rx9, rx10, rx11, rx12], ov Y0 [] [], Z, 0, 0) pc loc [.int r]) {x1 : (Nat → Int32)} {x7 : (Nat → Int32)} {x8 : (Nat → Int32)} {x9 : (Nat → Int32)} {x10 : (Nat → Int32)} {x11 : (Nat → Int32)} {x12 : (Nat → Int32)} (hf : fX10_readClause_164 x3 x4 x5  x1 x7 x8 x9 x10 x11 x12 = some (r, rx1, rx7, rx8, rx9, rx10, rx11, rx12)) : gV l b0 D K (n, κ, ov X0 [1, 3, 4, 5, 7, 8, 9, 10, 11, 12] [x1, x3, x4, x5, x7, x8, x9, x10, x11, x12], ov Y0 [] [], Z, 0, 0) 164 [(0, .ref (b0 + 6))] [] := by
  unfold fX10_readClause_164 at hf
  refine g_aload_n hC 0 dX10_readClause_164 rfl rfl ?_
  obtain ⟨r_1, x1_2, x11_3, q_4, hf⟩ := bd3E hf
  refine g_callV_i (a := 6) hC (X' := ov X0 [1, 3, 4, 5, 7, 8, 9, 10, 11, 12] [x1_2, x3, x4, x5, x7, x8, x9, x10, x11_3, x12]) (Y' := ov Y0 [] []) (As := []) (gMi_eq (c_X10_readRock l hL (ov_map hN [0, 1, 2, 3, 4, 8] (by rfl) (by rfl)) (ov_map hM [] (by rfl) (by rfl)) q_4) (ov_ovE hN (by rfl) [0, 1, 2, 3, 4, 8] [5, 6, 7, 9] (by rfl) (by rfl) [x8, x9, x10, x12] (by rfl) (by rfl) (by rfl) 10 (by rfl) (by decide)) (ov_ovE hM (by rfl) [] [] (by rfl) (by rfl) [] (by rfl) (by rfl) (by rfl) 0 (by rfl) (by decide))) tw_686 tw_683 tw_118 tw_685 tw_14 (ci := 10) rfl (by decide) (kk_6 hL) (kn_6 hL) pd_X10_readRock (by decide) (by decide) rfl rfl (Nat.le_of_ble_eq_true rfl) rfl dX10_readClause_165 ?_
  obtain ⟨h_5, hf⟩ := gdE hf
  obtain ⟨rfl, rfl, rfl, rfl, rfl, rfl, rfl, rfl⟩ := sm8E hf
  exact hret _ _ (bz_nar h_5) dX10_readClause_168

def fX10_readClause_73   (x3 : Nat → Int32) (x4 : Nat → Int32) (x5 : Nat → Int32)  (v2 : Int32) (s0 : Int32) (s1 : Int32) (x1 : (Nat → Int32)) (x7 : (Nat → Int32)) (x8 : (Nat → Int32)) (x9 : (Nat → Int32)) (x10 : (Nat → Int32)) (x11 : (Nat → Int32)) (x12 : (Nat → Int32)) : Option (Int32 × (Nat → Int32) × (Nat → Int32) × (Nat → Int32) × (Nat → Int32) × (Nat → Int32) × (Nat → Int32) × (Nat → Int32)) := if s1 = s0 then (bd1 (fX10_isFull x7 v2) fun r_1 => (if r_1 = 0 then (bd1 (fX8_skip x1) fun x1_3 => (if v2.toInt = 25 then (bd4 (fX10_readHeat x3 x4 x5 x1_3 x7 x8) fun r_6 x1_7 x7_8 x8_9 => (gd (bz r_6) (some (r_6, x1_7, x7_8, x8_9, x9, x10, x11, x12)))) else (if v2.toInt = 29 then (bd4 (fX10_readHill x3 x4 x5 x1_3 x7 x9) fun r_13 x1_14 x7_15 x9_16 => (gd (bz r_13) (some (r_13, x1_14, x7_15, x8, x9_16, x10, x11, x12)))) else (if v2.toInt = 30 then (bd4 (fX10_readHouse x3 x4 x5 x1_3 x7 x10) fun r_20 x1_21 x7_22 x10_23 => (gd (bz r_20) (some (r_20, x1_21, x7_22, x8, x9, x10_23, x11, x12)))) else (if v2.toInt = 31 then (bd3 (fX10_readJoin x3 x4 x5 x7 x1_3 x12) fun r_27 x1_28 x12_29 => (gd (bz r_27) (some (r_27, x1_28, x7, x8, x9, x10, x11, x12_29)))) else (fX10_readClause_164 x3 x4 x5  x1_3 x7 x8 x9 x10 x11 x12)))))) else (fX10_readClause_84 x3 x4 x5  x1 x7 x8 x9 x10 x11 x12))) else (fX10_readClause_84 x3 x4 x5  x1 x7 x8 x9 x10 x11 x12)
set_option maxHeartbeats 4000000 in
set_option maxRecDepth 100000 in
theorem wX10_readClause_73 {l : Launch} {b0 : Nat} {D : GD} {K : KT} {n : Nat} {κ : QT} {X0 : XT} {Y0 : YT} {Z : ZT} (hL : LY n κ) (hN : ([1, 3, 4, 5, 7, 8, 9, 10, 11, 12] : List Nat).Nodup) (hM : ([] : List Nat).Nodup) (hC : gC l b0 D K RX10 cX10_readClause (some FieldType.boolean) 3 3 68 0 0) {x3 : Nat → Int32} {x4 : Nat → Int32} {x5 : Nat → Int32} {r : Int32} {rx1 : (Nat → Int32)} {rx7 : (Nat → Int32)} {rx8 : (Nat → Int32)} {rx9 : (Nat → Int32)} {rx10 : (Nat → Int32)} {rx11 : (Nat → Int32)} {rx12 : (Nat → Int32)} (hret : ∀ pc loc, narrow .boolean (.int r) = .int r → decode cX10_readClause pc = .ok (.ireturn, 1) → gV l b0 D K (n, κ, ov X0 [1, 3, 4, 5, 7, 8, 9, 10, 11, 12] [rx1, x3, x4, x5, rx7, rx8, rx9, rx10, rx11, rx12], ov Y0 [] [], Z, 0, 0) pc loc [.int r]) {v2 : Int32} {s0 : Int32} {s1 : Int32} {x1 : (Nat → Int32)} {x7 : (Nat → Int32)} {x8 : (Nat → Int32)} {x9 : (Nat → Int32)} {x10 : (Nat → Int32)} {x11 : (Nat → Int32)} {x12 : (Nat → Int32)} (hf : fX10_readClause_73 x3 x4 x5  v2 s0 s1 x1 x7 x8 x9 x10 x11 x12 = some (r, rx1, rx7, rx8, rx9, rx10, rx11, rx12)) : gV l b0 D K (n, κ, ov X0 [1, 3, 4, 5, 7, 8, 9, 10, 11, 12] [x1, x3, x4, x5, x7, x8, x9, x10, x11, x12], ov Y0 [] [], Z, 0, 0) 73 [(0, .ref (b0 + 6)), (2, .int v2)] [.int s0, .int s1] := by
  unfold fX10_readClause_73 at hf
  refine g_icmp_ne hC 84 dX10_readClause_73 (by decide) (fun hc => ?_) (fun hc => ?_)
  · replace hf := ifF hf hc
    exact g_sub [0] rfl (wX10_readClause_84 hL hN hM hC  hret  hf)
  · replace hf := ifT hf hc
    refine g_aload_n hC 0 dX10_readClause_76 rfl rfl ?_
    refine g_iload_n hC 1 dX10_readClause_77 rfl rfl ?_
    obtain ⟨r_1, q_2, hf⟩ := bd1E hf
    refine g_callV_i (a := 6) hC (X' := ov X0 [1, 3, 4, 5, 7, 8, 9, 10, 11, 12] [x1, x3, x4, x5, x7, x8, x9, x10, x11, x12]) (Y' := ov Y0 [] []) (As := [.int v2]) (gMi_eq (c_X10_isFull l hL (ov_map hN [4] (by rfl) (by rfl)) (ov_map hM [] (by rfl) (by rfl)) q_2) (ov_ovE hN (by rfl) [4] [0, 1, 2, 3, 5, 6, 7, 8, 9] (by rfl) (by rfl) [x1, x3, x4, x5, x8, x9, x10, x11, x12] (by rfl) (by rfl) (by rfl) 10 (by rfl) (by decide)) (ov_ovE hM (by rfl) [] [] (by rfl) (by rfl) [] (by rfl) (by rfl) (by rfl) 0 (by rfl) (by decide))) tw_647 tw_644 tw_118 tw_646 tw_8 (ci := 10) rfl (by decide) (kk_6 hL) (kn_6 hL) pd_X10_isFull (by decide) (by decide) rfl rfl (Nat.le_of_ble_eq_true rfl) rfl dX10_readClause_78 ?_
    refine g_if_eq hC 93 dX10_readClause_81 (by decide) (fun hc => ?_) (fun hc => ?_)
    · replace hf := ifT hf hc
      refine g_aload_n hC 0 dX10_readClause_93 rfl rfl ?_
      refine gt_X10_18 hC (a := 6) (kk_6 hL) (kn_6 hL) dX10_readClause_94 ?_
      refine g_ref (b := 1) rfl ?_
      obtain ⟨x1_3, q_4, hf⟩ := bd1E hf
      refine g_callV_v (a := 1) hC (X' := ov X0 [1, 3, 4, 5, 7, 8, 9, 10, 11, 12] [x1_3, x3, x4, x5, x7, x8, x9, x10, x11, x12]) (Y' := ov Y0 [] []) (As := []) (gMv_eq (c_X8_skip l hL (ov_map hN [0] (by rfl) (by rfl)) (ov_map hM [] (by rfl) (by rfl)) q_4) (ov_ovE hN (by rfl) [0] [1, 2, 3, 4, 5, 6, 7, 8, 9] (by rfl) (by rfl) [x3, x4, x5, x7, x8, x9, x10, x11, x12] (by rfl) (by rfl) (by rfl) 10 (by rfl) (by decide)) (ov_ovE hM (by rfl) [] [] (by rfl) (by rfl) [] (by rfl) (by rfl) (by rfl) 0 (by rfl) (by decide))) tw_651 tw_648 tw_117 tw_649 tw_650 (ci := 8) rfl (by decide) (kk_1 hL) (kn_1 hL) pd_X8_skip (by decide) (by decide) rfl rfl (Nat.le_of_ble_eq_true rfl) rfl dX10_readClause_97 ?_
      refine g_iload_n hC 1 dX10_readClause_100 rfl rfl ?_
      by_cases c_5 : v2.toInt = 25
      · replace hf := ifT hf c_5
        refine g_tabIn hC 149 dX10_readClause_101 (by omega) (by omega) (by rw [c_5]; rfl) (by decide) ?_
        refine g_aload_n hC 0 dX10_readClause_149 rfl rfl ?_
        obtain ⟨r_6, x1_7, x7_8, x8_9, q_10, hf⟩ := bd4E hf
        refine g_callV_i (a := 6) hC (X' := ov X0 [1, 3, 4, 5, 7, 8, 9, 10, 11, 12] [x1_7, x3, x4, x5, x7_8, x8_9, x9, x10, x11, x12]) (Y' := ov Y0 [] []) (As := []) (gMi_eq (c_X10_readHeat l hL (ov_map hN [0, 1, 2, 3, 4, 5] (by rfl) (by rfl)) (ov_map hM [] (by rfl) (by rfl)) q_10) (ov_ovE hN (by rfl) [0, 1, 2, 3, 4, 5] [6, 7, 8, 9] (by rfl) (by rfl) [x9, x10, x11, x12] (by rfl) (by rfl) (by rfl) 10 (by rfl) (by decide)) (ov_ovE hM (by rfl) [] [] (by rfl) (by rfl) [] (by rfl) (by rfl) (by rfl) 0 (by rfl) (by decide))) tw_670 tw_667 tw_118 tw_669 tw_11 (ci := 10) rfl (by decide) (kk_6 hL) (kn_6 hL) pd_X10_readHeat (by decide) (by decide) rfl rfl (Nat.le_of_ble_eq_true rfl) rfl dX10_readClause_150 ?_
        obtain ⟨h_11, hf⟩ := gdE hf
        obtain ⟨rfl, rfl, rfl, rfl, rfl, rfl, rfl, rfl⟩ := sm8E hf
        exact hret _ _ (bz_nar h_11) dX10_readClause_153
      replace hf := ifF hf c_5
      by_cases c_12 : v2.toInt = 29
      · replace hf := ifT hf c_12
        refine g_tabIn hC 144 dX10_readClause_101 (by omega) (by omega) (by rw [c_12]; rfl) (by decide) ?_
        refine g_aload_n hC 0 dX10_readClause_144 rfl rfl ?_
        obtain ⟨r_13, x1_14, x7_15, x9_16, q_17, hf⟩ := bd4E hf
        refine g_callV_i (a := 6) hC (X' := ov X0 [1, 3, 4, 5, 7, 8, 9, 10, 11, 12] [x1_14, x3, x4, x5, x7_15, x8, x9_16, x10, x11, x12]) (Y' := ov Y0 [] []) (As := []) (gMi_eq (c_X10_readHill l hL (ov_map hN [0, 1, 2, 3, 4, 6] (by rfl) (by rfl)) (ov_map hM [] (by rfl) (by rfl)) q_17) (ov_ovE hN (by rfl) [0, 1, 2, 3, 4, 6] [5, 7, 8, 9] (by rfl) (by rfl) [x8, x10, x11, x12] (by rfl) (by rfl) (by rfl) 10 (by rfl) (by decide)) (ov_ovE hM (by rfl) [] [] (by rfl) (by rfl) [] (by rfl) (by rfl) (by rfl) 0 (by rfl) (by decide))) tw_655 tw_652 tw_118 tw_654 tw_9 (ci := 10) rfl (by decide) (kk_6 hL) (kn_6 hL) pd_X10_readHill (by decide) (by decide) rfl rfl (Nat.le_of_ble_eq_true rfl) rfl dX10_readClause_145 ?_
        obtain ⟨h_18, hf⟩ := gdE hf
        obtain ⟨rfl, rfl, rfl, rfl, rfl, rfl, rfl, rfl⟩ := sm8E hf
        exact hret _ _ (bz_nar h_18) dX10_readClause_148
      replace hf := ifF hf c_12
      by_cases c_19 : v2.toInt = 30
      · replace hf := ifT hf c_19
        refine g_tabIn hC 154 dX10_readClause_101 (by omega) (by omega) (by rw [c_19]; rfl) (by decide) ?_
        refine g_aload_n hC 0 dX10_readClause_154 rfl rfl ?_
        obtain ⟨r_20, x1_21, x7_22, x10_23, q_24, hf⟩ := bd4E hf
        refine g_callV_i (a := 6) hC (X' := ov X0 [1, 3, 4, 5, 7, 8, 9, 10, 11, 12] [x1_21, x3, x4, x5, x7_22, x8, x9, x10_23, x11, x12]) (Y' := ov Y0 [] []) (As := []) (gMi_eq (c_X10_readHouse l hL (ov_map hN [0, 1, 2, 3, 4, 7] (by rfl) (by rfl)) (ov_map hM [] (by rfl) (by rfl)) q_24) (ov_ovE hN (by rfl) [0, 1, 2, 3, 4, 7] [5, 6, 8, 9] (by rfl) (by rfl) [x8, x9, x11, x12] (by rfl) (by rfl) (by rfl) 10 (by rfl) (by decide)) (ov_ovE hM (by rfl) [] [] (by rfl) (by rfl) [] (by rfl) (by rfl) (by rfl) 0 (by rfl) (by decide))) tw_674 tw_671 tw_118 tw_673 tw_12 (ci := 10) rfl (by decide) (kk_6 hL) (kn_6 hL) pd_X10_readHouse (by decide) (by decide) rfl rfl (Nat.le_of_ble_eq_true rfl) rfl dX10_readClause_155 ?_
        obtain ⟨h_25, hf⟩ := gdE hf
        obtain ⟨rfl, rfl, rfl, rfl, rfl, rfl, rfl, rfl⟩ := sm8E hf
        exact hret _ _ (bz_nar h_25) dX10_readClause_158
      replace hf := ifF hf c_19
      by_cases c_26 : v2.toInt = 31
      · replace hf := ifT hf c_26
        refine g_tabIn hC 159 dX10_readClause_101 (by omega) (by omega) (by rw [c_26]; rfl) (by decide) ?_
        refine g_aload_n hC 0 dX10_readClause_159 rfl rfl ?_
        obtain ⟨r_27, x1_28, x12_29, q_30, hf⟩ := bd3E hf
        refine g_callV_i (a := 6) hC (X' := ov X0 [1, 3, 4, 5, 7, 8, 9, 10, 11, 12] [x1_28, x3, x4, x5, x7, x8, x9, x10, x11, x12_29]) (Y' := ov Y0 [] []) (As := []) (gMi_eq (c_X10_readJoin l hL (ov_map hN [0, 1, 2, 3, 4, 9] (by rfl) (by rfl)) (ov_map hM [] (by rfl) (by rfl)) q_30) (ov_ovE hN (by rfl) [0, 1, 2, 3, 4, 9] [5, 6, 7, 8] (by rfl) (by rfl) [x8, x9, x10, x11] (by rfl) (by rfl) (by rfl) 10 (by rfl) (by decide)) (ov_ovE hM (by rfl) [] [] (by rfl) (by rfl) [] (by rfl) (by rfl) (by rfl) 0 (by rfl) (by decide))) tw_678 tw_675 tw_118 tw_677 tw_13 (ci := 10) rfl (by decide) (kk_6 hL) (kn_6 hL) pd_X10_readJoin (by decide) (by decide) rfl rfl (Nat.le_of_ble_eq_true rfl) rfl dX10_readClause_160 ?_
        obtain ⟨h_31, hf⟩ := gdE hf
        obtain ⟨rfl, rfl, rfl, rfl, rfl, rfl, rfl, rfl⟩ := sm8E hf
        exact hret _ _ (bz_nar h_31) dX10_readClause_163
      replace hf := ifF hf c_26
      by_cases c_32 : v2.toInt = 26
      · refine g_tabIn hC 164 dX10_readClause_101 (by omega) (by omega) (by rw [c_32]; rfl) (by decide) ?_
        exact g_sub [0] rfl (wX10_readClause_164 hL hN hM hC  hret  hf)
      by_cases c_33 : v2.toInt = 27
      · refine g_tabIn hC 164 dX10_readClause_101 (by omega) (by omega) (by rw [c_33]; rfl) (by decide) ?_
        exact g_sub [0] rfl (wX10_readClause_164 hL hN hM hC  hret  hf)
      by_cases c_34 : v2.toInt = 28
      · refine g_tabIn hC 164 dX10_readClause_101 (by omega) (by omega) (by rw [c_34]; rfl) (by decide) ?_
        exact g_sub [0] rfl (wX10_readClause_164 hL hN hM hC  hret  hf)
      refine g_tabOut hC 164 dX10_readClause_101 (by omega) (by decide) ?_
      exact g_sub [0] rfl (wX10_readClause_164 hL hN hM hC  hret  hf)
    · replace hf := ifF hf hc
      exact g_sub [0] rfl (wX10_readClause_84 hL hN hM hC  hret  hf)

def fX10_readClause_64   (x3 : Nat → Int32) (x4 : Nat → Int32) (x5 : Nat → Int32)  (v1 : Int32) (v2 : Int32) (s0 : Int32) (x1 : (Nat → Int32)) (x7 : (Nat → Int32)) (x8 : (Nat → Int32)) (x9 : (Nat → Int32)) (x10 : (Nat → Int32)) (x11 : (Nat → Int32)) (x12 : (Nat → Int32)) : Option (Int32 × (Nat → Int32) × (Nat → Int32) × (Nat → Int32) × (Nat → Int32) × (Nat → Int32) × (Nat → Int32) × (Nat → Int32)) := if v1 = 0 then (fX10_readClause_73 x3 x4 x5  v2 1 s0 x1 x7 x8 x9 x10 x11 x12) else (fX10_readClause_73 x3 x4 x5  v2 0 s0 x1 x7 x8 x9 x10 x11 x12)
set_option maxHeartbeats 4000000 in
set_option maxRecDepth 100000 in
theorem wX10_readClause_64 {l : Launch} {b0 : Nat} {D : GD} {K : KT} {n : Nat} {κ : QT} {X0 : XT} {Y0 : YT} {Z : ZT} (hL : LY n κ) (hN : ([1, 3, 4, 5, 7, 8, 9, 10, 11, 12] : List Nat).Nodup) (hM : ([] : List Nat).Nodup) (hC : gC l b0 D K RX10 cX10_readClause (some FieldType.boolean) 3 3 68 0 0) {x3 : Nat → Int32} {x4 : Nat → Int32} {x5 : Nat → Int32} {r : Int32} {rx1 : (Nat → Int32)} {rx7 : (Nat → Int32)} {rx8 : (Nat → Int32)} {rx9 : (Nat → Int32)} {rx10 : (Nat → Int32)} {rx11 : (Nat → Int32)} {rx12 : (Nat → Int32)} (hret : ∀ pc loc, narrow .boolean (.int r) = .int r → decode cX10_readClause pc = .ok (.ireturn, 1) → gV l b0 D K (n, κ, ov X0 [1, 3, 4, 5, 7, 8, 9, 10, 11, 12] [rx1, x3, x4, x5, rx7, rx8, rx9, rx10, rx11, rx12], ov Y0 [] [], Z, 0, 0) pc loc [.int r]) {v1 : Int32} {v2 : Int32} {s0 : Int32} {x1 : (Nat → Int32)} {x7 : (Nat → Int32)} {x8 : (Nat → Int32)} {x9 : (Nat → Int32)} {x10 : (Nat → Int32)} {x11 : (Nat → Int32)} {x12 : (Nat → Int32)} (hf : fX10_readClause_64 x3 x4 x5  v1 v2 s0 x1 x7 x8 x9 x10 x11 x12 = some (r, rx1, rx7, rx8, rx9, rx10, rx11, rx12)) : gV l b0 D K (n, κ, ov X0 [1, 3, 4, 5, 7, 8, 9, 10, 11, 12] [x1, x3, x4, x5, x7, x8, x9, x10, x11, x12], ov Y0 [] [], Z, 0, 0) 64 [(0, .ref (b0 + 6)), (1, .int v1), (2, .int v2)] [.int s0] := by
  unfold fX10_readClause_64 at hf
  refine g_iload_n hC 1 dX10_readClause_64 rfl rfl ?_
  refine g_if_ne hC 72 dX10_readClause_65 (by decide) (fun hc => ?_) (fun hc => ?_)
  · replace hf := ifF hf hc
    refine g_iconst hC (v := 0) dX10_readClause_72 ic_0 ?_
    exact g_sub [0, 2] rfl (wX10_readClause_73 hL hN hM hC  hret  hf)
  · replace hf := ifT hf hc
    refine g_iconst hC (v := 1) dX10_readClause_68 ic_1 ?_
    refine g_goto hC 73 dX10_readClause_69 (by decide) ?_
    exact g_sub [0, 2] rfl (wX10_readClause_73 hL hN hM hC  hret  hf)

def fX10_readClause_47   (x3 : Nat → Int32) (x4 : Nat → Int32) (x5 : Nat → Int32)  (v1 : Int32) (v2 : Int32) (x1 : (Nat → Int32)) (x7 : (Nat → Int32)) (x8 : (Nat → Int32)) (x9 : (Nat → Int32)) (x10 : (Nat → Int32)) (x11 : (Nat → Int32)) (x12 : (Nat → Int32)) : Option (Int32 × (Nat → Int32) × (Nat → Int32) × (Nat → Int32) × (Nat → Int32) × (Nat → Int32) × (Nat → Int32) × (Nat → Int32)) := if 40 ≤ v1 then (fX10_readClause_84 x3 x4 x5  x1 x7 x8 x9 x10 x11 x12) else (if v2 = 29 then (fX10_readClause_64 x3 x4 x5  v1 v2 1 x1 x7 x8 x9 x10 x11 x12) else (fX10_readClause_64 x3 x4 x5  v1 v2 0 x1 x7 x8 x9 x10 x11 x12))
set_option maxHeartbeats 4000000 in
set_option maxRecDepth 100000 in
theorem wX10_readClause_47 {l : Launch} {b0 : Nat} {D : GD} {K : KT} {n : Nat} {κ : QT} {X0 : XT} {Y0 : YT} {Z : ZT} (hL : LY n κ) (hN : ([1, 3, 4, 5, 7, 8, 9, 10, 11, 12] : List Nat).Nodup) (hM : ([] : List Nat).Nodup) (hC : gC l b0 D K RX10 cX10_readClause (some FieldType.boolean) 3 3 68 0 0) {x3 : Nat → Int32} {x4 : Nat → Int32} {x5 : Nat → Int32} {r : Int32} {rx1 : (Nat → Int32)} {rx7 : (Nat → Int32)} {rx8 : (Nat → Int32)} {rx9 : (Nat → Int32)} {rx10 : (Nat → Int32)} {rx11 : (Nat → Int32)} {rx12 : (Nat → Int32)} (hret : ∀ pc loc, narrow .boolean (.int r) = .int r → decode cX10_readClause pc = .ok (.ireturn, 1) → gV l b0 D K (n, κ, ov X0 [1, 3, 4, 5, 7, 8, 9, 10, 11, 12] [rx1, x3, x4, x5, rx7, rx8, rx9, rx10, rx11, rx12], ov Y0 [] [], Z, 0, 0) pc loc [.int r]) {v1 : Int32} {v2 : Int32} {x1 : (Nat → Int32)} {x7 : (Nat → Int32)} {x8 : (Nat → Int32)} {x9 : (Nat → Int32)} {x10 : (Nat → Int32)} {x11 : (Nat → Int32)} {x12 : (Nat → Int32)} (hf : fX10_readClause_47 x3 x4 x5  v1 v2 x1 x7 x8 x9 x10 x11 x12 = some (r, rx1, rx7, rx8, rx9, rx10, rx11, rx12)) : gV l b0 D K (n, κ, ov X0 [1, 3, 4, 5, 7, 8, 9, 10, 11, 12] [x1, x3, x4, x5, x7, x8, x9, x10, x11, x12], ov Y0 [] [], Z, 0, 0) 47 [(0, .ref (b0 + 6)), (1, .int v1), (2, .int v2)] [] := by
  unfold fX10_readClause_47 at hf
  refine g_iload_n hC 1 dX10_readClause_47 rfl rfl ?_
  refine g_bipush hC (v := 40) dX10_readClause_48 bp_40 ?_
  refine g_icmp_ge hC 84 dX10_readClause_50 (by decide) (fun hc => ?_) (fun hc => ?_)
  · replace hf := ifT hf hc
    exact g_sub [0] rfl (wX10_readClause_84 hL hN hM hC  hret  hf)
  · replace hf := ifF hf hc
    refine g_iload_n hC 2 dX10_readClause_53 rfl rfl ?_
    refine g_bipush hC (v := 29) dX10_readClause_54 bp_29 ?_
    refine g_icmp_ne hC 63 dX10_readClause_56 (by decide) (fun hc => ?_) (fun hc => ?_)
    · replace hf := ifF hf hc
      refine g_iconst hC (v := 0) dX10_readClause_63 ic_0 ?_
      exact g_sub [0, 1, 2] rfl (wX10_readClause_64 hL hN hM hC  hret  hf)
    · replace hf := ifT hf hc
      refine g_iconst hC (v := 1) dX10_readClause_59 ic_1 ?_
      refine g_goto hC 64 dX10_readClause_60 (by decide) ?_
      exact g_sub [0, 1, 2] rfl (wX10_readClause_64 hL hN hM hC  hret  hf)

def fX10_readClause_0   (x3 : Nat → Int32) (x4 : Nat → Int32) (x5 : Nat → Int32)  (v1 : Int32) (x1 : (Nat → Int32)) (x7 : (Nat → Int32)) (x8 : (Nat → Int32)) (x9 : (Nat → Int32)) (x10 : (Nat → Int32)) (x11 : (Nat → Int32)) (x12 : (Nat → Int32)) : Option (Int32 × (Nat → Int32) × (Nat → Int32) × (Nat → Int32) × (Nat → Int32) × (Nat → Int32) × (Nat → Int32) × (Nat → Int32)) := bd1 (fX8_code x1 x3) fun r_1 => (if r_1 = 29 then (fX10_readClause_47 x3 x4 x5  v1 r_1 x1 x7 x8 x9 x10 x11 x12) else (if r_1 = 25 then (fX10_readClause_47 x3 x4 x5  v1 r_1 x1 x7 x8 x9 x10 x11 x12) else (if r_1 = 30 then (fX10_readClause_47 x3 x4 x5  v1 r_1 x1 x7 x8 x9 x10 x11 x12) else (if r_1 = 31 then (fX10_readClause_47 x3 x4 x5  v1 r_1 x1 x7 x8 x9 x10 x11 x12) else (if r_1 = 23 then (fX10_readClause_47 x3 x4 x5  v1 r_1 x1 x7 x8 x9 x10 x11 x12) else (bd2 (fX8_fail x4 0 x1) fun r_3 x1_4 => (gd (bz r_3) (some (r_3, x1_4, x7, x8, x9, x10, x11, x12)))))))))
set_option maxHeartbeats 4000000 in
set_option maxRecDepth 100000 in
theorem wX10_readClause_0 {l : Launch} {b0 : Nat} {D : GD} {K : KT} {n : Nat} {κ : QT} {X0 : XT} {Y0 : YT} {Z : ZT} (hL : LY n κ) (hN : ([1, 3, 4, 5, 7, 8, 9, 10, 11, 12] : List Nat).Nodup) (hM : ([] : List Nat).Nodup) (hC : gC l b0 D K RX10 cX10_readClause (some FieldType.boolean) 3 3 68 0 0) {x3 : Nat → Int32} {x4 : Nat → Int32} {x5 : Nat → Int32} {r : Int32} {rx1 : (Nat → Int32)} {rx7 : (Nat → Int32)} {rx8 : (Nat → Int32)} {rx9 : (Nat → Int32)} {rx10 : (Nat → Int32)} {rx11 : (Nat → Int32)} {rx12 : (Nat → Int32)} (hret : ∀ pc loc, narrow .boolean (.int r) = .int r → decode cX10_readClause pc = .ok (.ireturn, 1) → gV l b0 D K (n, κ, ov X0 [1, 3, 4, 5, 7, 8, 9, 10, 11, 12] [rx1, x3, x4, x5, rx7, rx8, rx9, rx10, rx11, rx12], ov Y0 [] [], Z, 0, 0) pc loc [.int r]) {v1 : Int32} {x1 : (Nat → Int32)} {x7 : (Nat → Int32)} {x8 : (Nat → Int32)} {x9 : (Nat → Int32)} {x10 : (Nat → Int32)} {x11 : (Nat → Int32)} {x12 : (Nat → Int32)} (hf : fX10_readClause_0 x3 x4 x5  v1 x1 x7 x8 x9 x10 x11 x12 = some (r, rx1, rx7, rx8, rx9, rx10, rx11, rx12)) : gV l b0 D K (n, κ, ov X0 [1, 3, 4, 5, 7, 8, 9, 10, 11, 12] [x1, x3, x4, x5, x7, x8, x9, x10, x11, x12], ov Y0 [] [], Z, 0, 0) 0 [(0, .ref (b0 + 6)), (1, .int v1)] [] := by
  unfold fX10_readClause_0 at hf
  refine g_aload_n hC 0 dX10_readClause_0 rfl rfl ?_
  refine gt_X10_18 hC (a := 6) (kk_6 hL) (kn_6 hL) dX10_readClause_1 ?_
  refine g_ref (b := 1) rfl ?_
  obtain ⟨r_1, q_2, hf⟩ := bd1E hf
  refine g_callV_i (a := 1) hC (X' := ov X0 [1, 3, 4, 5, 7, 8, 9, 10, 11, 12] [x1, x3, x4, x5, x7, x8, x9, x10, x11, x12]) (Y' := ov Y0 [] []) (As := []) (gMi_eq (c_X8_code l hL (ov_map hN [0, 1] (by rfl) (by rfl)) (ov_map hM [] (by rfl) (by rfl)) q_2) (ov_ovE hN (by rfl) [0, 1] [2, 3, 4, 5, 6, 7, 8, 9] (by rfl) (by rfl) [x4, x5, x7, x8, x9, x10, x11, x12] (by rfl) (by rfl) (by rfl) 10 (by rfl) (by decide)) (ov_ovE hM (by rfl) [] [] (by rfl) (by rfl) [] (by rfl) (by rfl) (by rfl) 0 (by rfl) (by decide))) tw_639 tw_636 tw_117 tw_637 tw_638 (ci := 8) rfl (by decide) (kk_1 hL) (kn_1 hL) pd_X8_code (by decide) (by decide) rfl rfl (Nat.le_of_ble_eq_true rfl) rfl dX10_readClause_4 ?_
  refine g_istore_n hC (i := 2) [(2, .int r_1), (0, .ref (b0 + 6)), (1, .int v1)] rfl dX10_readClause_7 (by decide) rfl ?_
  refine g_iload_n hC 0 dX10_readClause_8 rfl rfl ?_
  refine g_bipush hC (v := 29) dX10_readClause_9 bp_29 ?_
  refine g_icmp_eq hC 47 dX10_readClause_11 (by decide) (fun hc => ?_) (fun hc => ?_)
  · replace hf := ifT hf hc
    exact g_sub [1, 2, 0] rfl (wX10_readClause_47 hL hN hM hC  hret  hf)
  · replace hf := ifF hf hc
    refine g_iload_n hC 0 dX10_readClause_14 rfl rfl ?_
    refine g_bipush hC (v := 25) dX10_readClause_15 bp_25 ?_
    refine g_icmp_eq hC 47 dX10_readClause_17 (by decide) (fun hc => ?_) (fun hc => ?_)
    · replace hf := ifT hf hc
      exact g_sub [1, 2, 0] rfl (wX10_readClause_47 hL hN hM hC  hret  hf)
    · replace hf := ifF hf hc
      refine g_iload_n hC 0 dX10_readClause_20 rfl rfl ?_
      refine g_bipush hC (v := 30) dX10_readClause_21 bp_30 ?_
      refine g_icmp_eq hC 47 dX10_readClause_23 (by decide) (fun hc => ?_) (fun hc => ?_)
      · replace hf := ifT hf hc
        exact g_sub [1, 2, 0] rfl (wX10_readClause_47 hL hN hM hC  hret  hf)
      · replace hf := ifF hf hc
        refine g_iload_n hC 0 dX10_readClause_26 rfl rfl ?_
        refine g_bipush hC (v := 31) dX10_readClause_27 bp_31 ?_
        refine g_icmp_eq hC 47 dX10_readClause_29 (by decide) (fun hc => ?_) (fun hc => ?_)
        · replace hf := ifT hf hc
          exact g_sub [1, 2, 0] rfl (wX10_readClause_47 hL hN hM hC  hret  hf)
        · replace hf := ifF hf hc
          refine g_iload_n hC 0 dX10_readClause_32 rfl rfl ?_
          refine g_bipush hC (v := 23) dX10_readClause_33 bp_23 ?_
          refine g_icmp_eq hC 47 dX10_readClause_35 (by decide) (fun hc => ?_) (fun hc => ?_)
          · replace hf := ifT hf hc
            exact g_sub [1, 2, 0] rfl (wX10_readClause_47 hL hN hM hC  hret  hf)
          · replace hf := ifF hf hc
            refine g_aload_n hC 1 dX10_readClause_38 rfl rfl ?_
            refine gt_X10_18 hC (a := 6) (kk_6 hL) (kn_6 hL) dX10_readClause_39 ?_
            refine g_ref (b := 1) rfl ?_
            refine g_iconst hC (v := 0) dX10_readClause_42 ic_0 ?_
            obtain ⟨r_3, x1_4, q_5, hf⟩ := bd2E hf
            refine g_callV_i (a := 1) hC (X' := ov X0 [1, 3, 4, 5, 7, 8, 9, 10, 11, 12] [x1_4, x3, x4, x5, x7, x8, x9, x10, x11, x12]) (Y' := ov Y0 [] []) (As := [.int 0]) (gMi_eq (c_X8_fail l hL (ov_map hN [0, 2] (by rfl) (by rfl)) (ov_map hM [] (by rfl) (by rfl)) q_5) (ov_ovE hN (by rfl) [0, 2] [1, 3, 4, 5, 6, 7, 8, 9] (by rfl) (by rfl) [x3, x5, x7, x8, x9, x10, x11, x12] (by rfl) (by rfl) (by rfl) 10 (by rfl) (by decide)) (ov_ovE hM (by rfl) [] [] (by rfl) (by rfl) [] (by rfl) (by rfl) (by rfl) 0 (by rfl) (by decide))) tw_643 tw_640 tw_117 tw_641 tw_642 (ci := 8) rfl (by decide) (kk_1 hL) (kn_1 hL) pd_X8_fail (by decide) (by decide) rfl rfl (Nat.le_of_ble_eq_true rfl) rfl dX10_readClause_43 ?_
            obtain ⟨h_6, hf⟩ := gdE hf
            obtain ⟨rfl, rfl, rfl, rfl, rfl, rfl, rfl, rfl⟩ := sm8E hf
            exact hret _ _ (bz_nar h_6) dX10_readClause_46

def fX10_readClause   (x3 : Nat → Int32) (x4 : Nat → Int32) (x5 : Nat → Int32)  (v1 : Int32) (x1 : Nat → Int32) (x7 : Nat → Int32) (x8 : Nat → Int32) (x9 : Nat → Int32) (x10 : Nat → Int32) (x11 : Nat → Int32) (x12 : Nat → Int32)  : Option (Int32 × (Nat → Int32) × (Nat → Int32) × (Nat → Int32) × (Nat → Int32) × (Nat → Int32) × (Nat → Int32) × (Nat → Int32)) := fX10_readClause_0 x3 x4 x5 v1 x1 x7 x8 x9 x10 x11 x12

set_option maxHeartbeats 4000000 in
set_option maxRecDepth 100000 in
theorem c_X10_readClause (l : Launch) {b0 : Nat} {D : GD} {n : Nat} {κ : QT} {X0 : XT} {Y0 : YT} {Z : ZT} (hL : LY n κ) {x1 : Nat → Int32} {x3 : Nat → Int32} {x4 : Nat → Int32} {x5 : Nat → Int32} {x7 : Nat → Int32} {x8 : Nat → Int32} {x9 : Nat → Int32} {x10 : Nat → Int32} {x11 : Nat → Int32} {x12 : Nat → Int32} (hx : ([1, 3, 4, 5, 7, 8, 9, 10, 11, 12] : List Nat).map X0 = [x1, x3, x4, x5, x7, x8, x9, x10, x11, x12]) (hy : ([] : List Nat).map Y0 = []) {v1 : Int32} {r : Int32} {rx1 : (Nat → Int32)} {rx7 : (Nat → Int32)} {rx8 : (Nat → Int32)} {rx9 : (Nat → Int32)} {rx10 : (Nat → Int32)} {rx11 : (Nat → Int32)} {rx12 : (Nat → Int32)} (hf : fX10_readClause x3 x4 x5 v1 x1 x7 x8 x9 x10 x11 x12 = some (r, rx1, rx7, rx8, rx9, rx10, rx11, rx12)) : gMi l yX10_readClause cX10_readClause 3 (some FieldType.boolean) 3 68 0 0 b0 D [.ref (b0 + 6), .int v1] (n, κ, X0, Y0, Z) (n, κ, ov X0 [1, 3, 4, 5, 7, 8, 9, 10, 11, 12] [rx1, x3, x4, x5, rx7, rx8, rx9, rx10, rx11, rx12], ov Y0 [] [], Z) r := by
  have hN : ([1, 3, 4, 5, 7, 8, 9, 10, 11, 12] : List Nat).Nodup := by decide
  have hM : ([] : List Nat).Nodup := by decide
  refine g_meti (own := RX10) (by decide) rfl rfl (Nat.le_of_ble_eq_true rfl) ?_
  intro K hC hret
  have e := wX10_readClause_0 hL hN hM hC  hret hf
  rw [ov_id' hx, ov_id' hy] at e
  exact g_sub [0, 1] rfl e

-- X10_readText
def fX10_readText_16b   (x2 : Nat → Int32)  (k16 : Int32 → (Nat → Int32) → (Nat → Int32) → (Nat → Int32) → (Nat → Int32) → (Nat → Int32) → (Nat → Int32) → (Nat → Int32) → (Nat → Int32) → (Nat → Int32) → (Nat → Int32) → Option (Int32 × (Nat → Int32) × (Nat → Int32) × (Nat → Int32) × (Nat → Int32) × (Nat → Int32) × (Nat → Int32) × (Nat → Int32) × (Nat → Int32) × (Nat → Int32) × (Nat → Int32))) (v1 : Int32) (x1 : (Nat → Int32)) (x3 : (Nat → Int32)) (x4 : (Nat → Int32)) (x5 : (Nat → Int32)) (x7 : (Nat → Int32)) (x8 : (Nat → Int32)) (x9 : (Nat → Int32)) (x10 : (Nat → Int32)) (x11 : (Nat → Int32)) (x12 : (Nat → Int32)) : Option (Int32 × (Nat → Int32) × (Nat → Int32) × (Nat → Int32) × (Nat → Int32) × (Nat → Int32) × (Nat → Int32) × (Nat → Int32) × (Nat → Int32) × (Nat → Int32) × (Nat → Int32)) := if 40 < v1 then (bd2 (fX8_fail x4 4 x1) fun r_1 x1_2 => (gd (bz r_1) (some (r_1, x1_2, x3, x4, x5, x7, x8, x9, x10, x11, x12)))) else (bd8 (fX10_readClause x3 x4 x5 v1 x1 x7 x8 x9 x10 x11 x12) fun r_5 x1_6 x7_7 x8_8 x9_9 x10_10 x11_11 x12_12 => (if r_5 = 0 then (some (0, x1_6, x3, x4, x5, x7_7, x8_8, x9_9, x10_10, x11_11, x12_12)) else (bd1 (fX8_code x1_6 x3) fun r_14 => (if r_14 = 4 then (bd1 (fX8_skip x1_6) fun x1_16 => (bn (v1 + 1) fun t_18 => (k16 t_18 x1_16 x3 x4 x5 x7_7 x8_8 x9_9 x10_10 x11_11 x12_12))) else (bd2 (fX8_take x3 x4 0 x1_6) fun r_19 x1_20 => (gd (bz r_19) (some (r_19, x1_20, x3, x4, x5, x7_7, x8_8, x9_9, x10_10, x11_11, x12_12))))))))
def fX10_readText_16   (x2 : Nat → Int32)  : Int32 → (Nat → Int32) → (Nat → Int32) → (Nat → Int32) → (Nat → Int32) → (Nat → Int32) → (Nat → Int32) → (Nat → Int32) → (Nat → Int32) → (Nat → Int32) → (Nat → Int32) → Option (Int32 × (Nat → Int32) × (Nat → Int32) × (Nat → Int32) × (Nat → Int32) × (Nat → Int32) × (Nat → Int32) × (Nat → Int32) × (Nat → Int32) × (Nat → Int32) × (Nat → Int32)) := lq11 (fX10_readText_16b x2 ) 5000
set_option maxHeartbeats 4000000 in
set_option maxRecDepth 100000 in
theorem wX10_readText_16 {l : Launch} {b0 : Nat} {D : GD} {K : KT} {n : Nat} {κ : QT} {X0 : XT} {Y0 : YT} {Z : ZT} (hL : LY n κ) (hN : ([1, 2, 3, 4, 5, 7, 8, 9, 10, 11, 12] : List Nat).Nodup) (hM : ([] : List Nat).Nodup) (hC : gC l b0 D K RX10 cX10_readText (some FieldType.boolean) 2 8 177 0 0) {x2 : Nat → Int32} {r : Int32} {rx1 : (Nat → Int32)} {rx3 : (Nat → Int32)} {rx4 : (Nat → Int32)} {rx5 : (Nat → Int32)} {rx7 : (Nat → Int32)} {rx8 : (Nat → Int32)} {rx9 : (Nat → Int32)} {rx10 : (Nat → Int32)} {rx11 : (Nat → Int32)} {rx12 : (Nat → Int32)} (hret : ∀ pc loc, narrow .boolean (.int r) = .int r → decode cX10_readText pc = .ok (.ireturn, 1) → gV l b0 D K (n, κ, ov X0 [1, 2, 3, 4, 5, 7, 8, 9, 10, 11, 12] [rx1, x2, rx3, rx4, rx5, rx7, rx8, rx9, rx10, rx11, rx12], ov Y0 [] [], Z, 0, 0) pc loc [.int r]) : ∀ (j : Nat) (v1 : Int32) (x1 : (Nat → Int32)) (x3 : (Nat → Int32)) (x4 : (Nat → Int32)) (x5 : (Nat → Int32)) (x7 : (Nat → Int32)) (x8 : (Nat → Int32)) (x9 : (Nat → Int32)) (x10 : (Nat → Int32)) (x11 : (Nat → Int32)) (x12 : (Nat → Int32)), lq11 (fX10_readText_16b x2 ) j v1 x1 x3 x4 x5 x7 x8 x9 x10 x11 x12 = some (r, rx1, rx3, rx4, rx5, rx7, rx8, rx9, rx10, rx11, rx12) → gV l b0 D K (n, κ, ov X0 [1, 2, 3, 4, 5, 7, 8, 9, 10, 11, 12] [x1, x2, x3, x4, x5, x7, x8, x9, x10, x11, x12], ov Y0 [] [], Z, 0, 0) 16 [(0, .ref (b0 + 6)), (1, .int v1)] [] := by
  intro j
  induction j with
  | zero => intro v1 x1 x3 x4 x5 x7 x8 x9 x10 x11 x12 hf; cases hf
  | succ j hk16 =>
    intro v1 x1 x3 x4 x5 x7 x8 x9 x10 x11 x12 hf
    replace hf : fX10_readText_16b x2  (lq11 (fX10_readText_16b x2 ) j) v1 x1 x3 x4 x5 x7 x8 x9 x10 x11 x12 = some (r, rx1, rx3, rx4, rx5, rx7, rx8, rx9, rx10, rx11, rx12) := hf
    unfold fX10_readText_16b at hf
    refine g_iload_n hC 1 dX10_readText_16 rfl rfl ?_
    refine g_bipush hC (v := 40) dX10_readText_17 bp_40 ?_
    refine g_icmp_gt hC 65 dX10_readText_19 (by decide) (fun hc => ?_) (fun hc => ?_)
    · replace hf := ifT hf hc
      refine g_aload_n hC 0 dX10_readText_65 rfl rfl ?_
      refine gt_X10_18 hC (a := 6) (kk_6 hL) (kn_6 hL) dX10_readText_66 ?_
      refine g_ref (b := 1) rfl ?_
      refine g_iconst hC (v := 4) dX10_readText_69 ic_4 ?_
      obtain ⟨r_1, x1_2, q_3, hf⟩ := bd2E hf
      refine g_callV_i (a := 1) hC (X' := ov X0 [1, 2, 3, 4, 5, 7, 8, 9, 10, 11, 12] [x1_2, x2, x3, x4, x5, x7, x8, x9, x10, x11, x12]) (Y' := ov Y0 [] []) (As := [.int 4]) (gMi_eq (c_X8_fail l hL (ov_map hN [0, 3] (by rfl) (by rfl)) (ov_map hM [] (by rfl) (by rfl)) q_3) (ov_ovE hN (by rfl) [0, 3] [1, 2, 4, 5, 6, 7, 8, 9, 10] (by rfl) (by rfl) [x2, x3, x5, x7, x8, x9, x10, x11, x12] (by rfl) (by rfl) (by rfl) 11 (by rfl) (by decide)) (ov_ovE hM (by rfl) [] [] (by rfl) (by rfl) [] (by rfl) (by rfl) (by rfl) 0 (by rfl) (by decide))) tw_643 tw_640 tw_117 tw_641 tw_642 (ci := 8) rfl (by decide) (kk_1 hL) (kn_1 hL) pd_X8_fail (by decide) (by decide) rfl rfl (Nat.le_of_ble_eq_true rfl) rfl dX10_readText_70 ?_
      obtain ⟨h_4, hf⟩ := gdE hf
      obtain ⟨rfl, rfl, rfl, rfl, rfl, rfl, rfl, rfl, rfl, rfl, rfl⟩ := sm11E hf
      exact hret _ _ (bz_nar h_4) dX10_readText_73
    · replace hf := ifF hf hc
      refine g_aload_n hC 0 dX10_readText_22 rfl rfl ?_
      refine g_iload_n hC 1 dX10_readText_23 rfl rfl ?_
      obtain ⟨r_5, x1_6, x7_7, x8_8, x9_9, x10_10, x11_11, x12_12, q_13, hf⟩ := bd8E hf
      refine g_callV_i (a := 6) hC (X' := ov X0 [1, 2, 3, 4, 5, 7, 8, 9, 10, 11, 12] [x1_6, x2, x3, x4, x5, x7_7, x8_8, x9_9, x10_10, x11_11, x12_12]) (Y' := ov Y0 [] []) (As := [.int v1]) (gMi_eq (c_X10_readClause l hL (ov_map hN [0, 2, 3, 4, 5, 6, 7, 8, 9, 10] (by rfl) (by rfl)) (ov_map hM [] (by rfl) (by rfl)) q_13) (ov_ovE hN (by rfl) [0, 2, 3, 4, 5, 6, 7, 8, 9, 10] [1] (by rfl) (by rfl) [x2] (by rfl) (by rfl) (by rfl) 11 (by rfl) (by decide)) (ov_ovE hM (by rfl) [] [] (by rfl) (by rfl) [] (by rfl) (by rfl) (by rfl) 0 (by rfl) (by decide))) tw_635 tw_632 tw_118 tw_634 tw_7 (ci := 10) rfl (by decide) (kk_6 hL) (kn_6 hL) pd_X10_readClause (by decide) (by decide) rfl rfl (Nat.le_of_ble_eq_true rfl) rfl dX10_readText_24 ?_
      refine g_if_ne hC 32 dX10_readText_27 (by decide) (fun hc => ?_) (fun hc => ?_)
      · replace hf := ifF hf hc
        refine g_aload_n hC 0 dX10_readText_32 rfl rfl ?_
        refine gt_X10_18 hC (a := 6) (kk_6 hL) (kn_6 hL) dX10_readText_33 ?_
        refine g_ref (b := 1) rfl ?_
        obtain ⟨r_14, q_15, hf⟩ := bd1E hf
        refine g_callV_i (a := 1) hC (X' := ov X0 [1, 2, 3, 4, 5, 7, 8, 9, 10, 11, 12] [x1_6, x2, x3, x4, x5, x7_7, x8_8, x9_9, x10_10, x11_11, x12_12]) (Y' := ov Y0 [] []) (As := []) (gMi_eq (c_X8_code l hL (ov_map hN [0, 2] (by rfl) (by rfl)) (ov_map hM [] (by rfl) (by rfl)) q_15) (ov_ovE hN (by rfl) [0, 2] [1, 3, 4, 5, 6, 7, 8, 9, 10] (by rfl) (by rfl) [x2, x4, x5, x7_7, x8_8, x9_9, x10_10, x11_11, x12_12] (by rfl) (by rfl) (by rfl) 11 (by rfl) (by decide)) (ov_ovE hM (by rfl) [] [] (by rfl) (by rfl) [] (by rfl) (by rfl) (by rfl) 0 (by rfl) (by decide))) tw_639 tw_636 tw_117 tw_637 tw_638 (ci := 8) rfl (by decide) (kk_1 hL) (kn_1 hL) pd_X8_code (by decide) (by decide) rfl rfl (Nat.le_of_ble_eq_true rfl) rfl dX10_readText_36 ?_
        refine g_iconst hC (v := 4) dX10_readText_39 ic_4 ?_
        refine g_icmp_eq hC 52 dX10_readText_40 (by decide) (fun hc => ?_) (fun hc => ?_)
        · replace hf := ifT hf hc
          refine g_aload_n hC 0 dX10_readText_52 rfl rfl ?_
          refine gt_X10_18 hC (a := 6) (kk_6 hL) (kn_6 hL) dX10_readText_53 ?_
          refine g_ref (b := 1) rfl ?_
          obtain ⟨x1_16, q_17, hf⟩ := bd1E hf
          refine g_callV_v (a := 1) hC (X' := ov X0 [1, 2, 3, 4, 5, 7, 8, 9, 10, 11, 12] [x1_16, x2, x3, x4, x5, x7_7, x8_8, x9_9, x10_10, x11_11, x12_12]) (Y' := ov Y0 [] []) (As := []) (gMv_eq (c_X8_skip l hL (ov_map hN [0] (by rfl) (by rfl)) (ov_map hM [] (by rfl) (by rfl)) q_17) (ov_ovE hN (by rfl) [0] [1, 2, 3, 4, 5, 6, 7, 8, 9, 10] (by rfl) (by rfl) [x2, x3, x4, x5, x7_7, x8_8, x9_9, x10_10, x11_11, x12_12] (by rfl) (by rfl) (by rfl) 11 (by rfl) (by decide)) (ov_ovE hM (by rfl) [] [] (by rfl) (by rfl) [] (by rfl) (by rfl) (by rfl) 0 (by rfl) (by decide))) tw_651 tw_648 tw_117 tw_649 tw_650 (ci := 8) rfl (by decide) (kk_1 hL) (kn_1 hL) pd_X8_skip (by decide) (by decide) rfl rfl (Nat.le_of_ble_eq_true rfl) rfl dX10_readText_56 ?_
          obtain ⟨t_18, et_18, hf⟩ := bnE hf
          refine g_iinc hC (i := 1) (v := t_18) [(1, .int t_18), (0, .ref (b0 + 6))] dX10_readText_59 (q := 1) rfl ((congrArg (HAdd.hAdd v1) ic_1).trans et_18.symm) (by decide) rfl ?_
          refine g_goto hC 16 dX10_readText_62 (by decide) ?_
          exact g_sub [1, 0] rfl (hk16 t_18 x1_16 x3 x4 x5 x7_7 x8_8 x9_9 x10_10 x11_11 x12_12 hf)
        · replace hf := ifF hf hc
          refine g_aload_n hC 0 dX10_readText_43 rfl rfl ?_
          refine gt_X10_18 hC (a := 6) (kk_6 hL) (kn_6 hL) dX10_readText_44 ?_
          refine g_ref (b := 1) rfl ?_
          refine g_iconst hC (v := 0) dX10_readText_47 ic_0 ?_
          obtain ⟨r_19, x1_20, q_21, hf⟩ := bd2E hf
          refine g_callV_i (a := 1) hC (X' := ov X0 [1, 2, 3, 4, 5, 7, 8, 9, 10, 11, 12] [x1_20, x2, x3, x4, x5, x7_7, x8_8, x9_9, x10_10, x11_11, x12_12]) (Y' := ov Y0 [] []) (As := [.int 0]) (gMi_eq (c_X8_take l hL (ov_map hN [0, 2, 3] (by rfl) (by rfl)) (ov_map hM [] (by rfl) (by rfl)) q_21) (ov_ovE hN (by rfl) [0, 2, 3] [1, 4, 5, 6, 7, 8, 9, 10] (by rfl) (by rfl) [x2, x5, x7_7, x8_8, x9_9, x10_10, x11_11, x12_12] (by rfl) (by rfl) (by rfl) 11 (by rfl) (by decide)) (ov_ovE hM (by rfl) [] [] (by rfl) (by rfl) [] (by rfl) (by rfl) (by rfl) 0 (by rfl) (by decide))) tw_690 tw_687 tw_117 tw_688 tw_689 (ci := 8) rfl (by decide) (kk_1 hL) (kn_1 hL) pd_X8_take (by decide) (by decide) rfl rfl (Nat.le_of_ble_eq_true rfl) rfl dX10_readText_48 ?_
          obtain ⟨h_22, hf⟩ := gdE hf
          obtain ⟨rfl, rfl, rfl, rfl, rfl, rfl, rfl, rfl, rfl, rfl, rfl⟩ := sm11E hf
          exact hret _ _ (bz_nar h_22) dX10_readText_51
      · replace hf := ifT hf hc
        refine g_iconst hC (v := 0) dX10_readText_30 ic_0 ?_
        obtain ⟨rfl, rfl, rfl, rfl, rfl, rfl, rfl, rfl, rfl, rfl, rfl⟩ := sm11E hf
        exact hret _ _ rfl dX10_readText_31

def fX10_readText_0   (x2 : Nat → Int32)  (x1 : (Nat → Int32)) (x3 : (Nat → Int32)) (x4 : (Nat → Int32)) (x5 : (Nat → Int32)) (x7 : (Nat → Int32)) (x8 : (Nat → Int32)) (x9 : (Nat → Int32)) (x10 : (Nat → Int32)) (x11 : (Nat → Int32)) (x12 : (Nat → Int32)) : Option (Int32 × (Nat → Int32) × (Nat → Int32) × (Nat → Int32) × (Nat → Int32) × (Nat → Int32) × (Nat → Int32) × (Nat → Int32) × (Nat → Int32) × (Nat → Int32) × (Nat → Int32)) := bd5 (fX9_clear x7 x9 x10 x11 x12) fun x7_1 x9_2 x10_3 x11_4 x12_5 => (bd4 (fX8_scan x2 x1 x3 x4 x5) fun x1_7 x3_8 x4_9 x5_10 => (fX10_readText_16 x2  0 x1_7 x3_8 x4_9 x5_10 x7_1 x8 x9_2 x10_3 x11_4 x12_5))
set_option maxHeartbeats 4000000 in
set_option maxRecDepth 100000 in
theorem wX10_readText_0 {l : Launch} {b0 : Nat} {D : GD} {K : KT} {n : Nat} {κ : QT} {X0 : XT} {Y0 : YT} {Z : ZT} (hL : LY n κ) (hN : ([1, 2, 3, 4, 5, 7, 8, 9, 10, 11, 12] : List Nat).Nodup) (hM : ([] : List Nat).Nodup) (hC : gC l b0 D K RX10 cX10_readText (some FieldType.boolean) 2 8 177 0 0) {x2 : Nat → Int32} {r : Int32} {rx1 : (Nat → Int32)} {rx3 : (Nat → Int32)} {rx4 : (Nat → Int32)} {rx5 : (Nat → Int32)} {rx7 : (Nat → Int32)} {rx8 : (Nat → Int32)} {rx9 : (Nat → Int32)} {rx10 : (Nat → Int32)} {rx11 : (Nat → Int32)} {rx12 : (Nat → Int32)} (hret : ∀ pc loc, narrow .boolean (.int r) = .int r → decode cX10_readText pc = .ok (.ireturn, 1) → gV l b0 D K (n, κ, ov X0 [1, 2, 3, 4, 5, 7, 8, 9, 10, 11, 12] [rx1, x2, rx3, rx4, rx5, rx7, rx8, rx9, rx10, rx11, rx12], ov Y0 [] [], Z, 0, 0) pc loc [.int r]) {x1 : (Nat → Int32)} {x3 : (Nat → Int32)} {x4 : (Nat → Int32)} {x5 : (Nat → Int32)} {x7 : (Nat → Int32)} {x8 : (Nat → Int32)} {x9 : (Nat → Int32)} {x10 : (Nat → Int32)} {x11 : (Nat → Int32)} {x12 : (Nat → Int32)} (hf : fX10_readText_0 x2  x1 x3 x4 x5 x7 x8 x9 x10 x11 x12 = some (r, rx1, rx3, rx4, rx5, rx7, rx8, rx9, rx10, rx11, rx12)) : gV l b0 D K (n, κ, ov X0 [1, 2, 3, 4, 5, 7, 8, 9, 10, 11, 12] [x1, x2, x3, x4, x5, x7, x8, x9, x10, x11, x12], ov Y0 [] [], Z, 0, 0) 0 [(0, .ref (b0 + 6))] [] := by
  unfold fX10_readText_0 at hf
  refine g_aload_n hC 0 dX10_readText_0 rfl rfl ?_
  refine gt_X10_12 hC (a := 6) (kk_6 hL) (kn_6 hL) dX10_readText_1 ?_
  refine g_ref (b := 7) rfl ?_
  obtain ⟨x7_1, x9_2, x10_3, x11_4, x12_5, q_6, hf⟩ := bd5E hf
  refine g_callV_v (a := 7) hC (X' := ov X0 [1, 2, 3, 4, 5, 7, 8, 9, 10, 11, 12] [x1, x2, x3, x4, x5, x7_1, x8, x9_2, x10_3, x11_4, x12_5]) (Y' := ov Y0 [] []) (As := []) (gMv_eq (c_X9_clear l hL (ov_map hN [5, 7, 8, 9, 10] (by rfl) (by rfl)) (ov_map hM [] (by rfl) (by rfl)) q_6) (ov_ovE hN (by rfl) [5, 7, 8, 9, 10] [0, 1, 2, 3, 4, 6] (by rfl) (by rfl) [x1, x2, x3, x4, x5, x8] (by rfl) (by rfl) (by rfl) 11 (by rfl) (by decide)) (ov_ovE hM (by rfl) [] [] (by rfl) (by rfl) [] (by rfl) (by rfl) (by rfl) 0 (by rfl) (by decide))) tw_521 tw_518 tw_119 tw_519 tw_520 (ci := 9) rfl (by decide) (kk_7 hL) (kn_7 hL) pd_X9_clear (by decide) (by decide) rfl rfl (Nat.le_of_ble_eq_true rfl) rfl dX10_readText_4 ?_
  refine g_aload_n hC 0 dX10_readText_7 rfl rfl ?_
  refine gt_X10_18 hC (a := 6) (kk_6 hL) (kn_6 hL) dX10_readText_8 ?_
  refine g_ref (b := 1) rfl ?_
  obtain ⟨x1_7, x3_8, x4_9, x5_10, q_11, hf⟩ := bd4E hf
  refine g_callV_v (a := 1) hC (X' := ov X0 [1, 2, 3, 4, 5, 7, 8, 9, 10, 11, 12] [x1_7, x2, x3_8, x4_9, x5_10, x7_1, x8, x9_2, x10_3, x11_4, x12_5]) (Y' := ov Y0 [] []) (As := []) (gMv_eq (c_X8_scan l hL (ov_map hN [0, 1, 2, 3, 4] (by rfl) (by rfl)) (ov_map hM [] (by rfl) (by rfl)) q_11) (ov_ovE hN (by rfl) [0, 1, 2, 3, 4] [5, 6, 7, 8, 9, 10] (by rfl) (by rfl) [x7_1, x8, x9_2, x10_3, x11_4, x12_5] (by rfl) (by rfl) (by rfl) 11 (by rfl) (by decide)) (ov_ovE hM (by rfl) [] [] (by rfl) (by rfl) [] (by rfl) (by rfl) (by rfl) 0 (by rfl) (by decide))) tw_532 tw_529 tw_117 tw_530 tw_531 (ci := 8) rfl (by decide) (kk_1 hL) (kn_1 hL) pd_X8_scan (by decide) (by decide) rfl rfl (Nat.le_of_ble_eq_true rfl) rfl dX10_readText_11 ?_
  refine g_iconst hC (v := 0) dX10_readText_14 ic_0 ?_
  refine g_istore_n hC (i := 1) [(1, .int 0), (0, .ref (b0 + 6))] rfl dX10_readText_15 (by decide) rfl ?_
  exact g_sub [1, 0] rfl (wX10_readText_16 hL hN hM hC  hret  5000 0 x1_7 x3_8 x4_9 x5_10 x7_1 x8 x9_2 x10_3 x11_4 x12_5 hf)

def fX10_readText   (x2 : Nat → Int32)   (x1 : Nat → Int32) (x3 : Nat → Int32) (x4 : Nat → Int32) (x5 : Nat → Int32) (x7 : Nat → Int32) (x8 : Nat → Int32) (x9 : Nat → Int32) (x10 : Nat → Int32) (x11 : Nat → Int32) (x12 : Nat → Int32)  : Option (Int32 × (Nat → Int32) × (Nat → Int32) × (Nat → Int32) × (Nat → Int32) × (Nat → Int32) × (Nat → Int32) × (Nat → Int32) × (Nat → Int32) × (Nat → Int32) × (Nat → Int32)) := fX10_readText_0 x2 x1 x3 x4 x5 x7 x8 x9 x10 x11 x12

set_option maxHeartbeats 4000000 in
set_option maxRecDepth 100000 in
theorem c_X10_readText (l : Launch) {b0 : Nat} {D : GD} {n : Nat} {κ : QT} {X0 : XT} {Y0 : YT} {Z : ZT} (hL : LY n κ) {x1 : Nat → Int32} {x2 : Nat → Int32} {x3 : Nat → Int32} {x4 : Nat → Int32} {x5 : Nat → Int32} {x7 : Nat → Int32} {x8 : Nat → Int32} {x9 : Nat → Int32} {x10 : Nat → Int32} {x11 : Nat → Int32} {x12 : Nat → Int32} (hx : ([1, 2, 3, 4, 5, 7, 8, 9, 10, 11, 12] : List Nat).map X0 = [x1, x2, x3, x4, x5, x7, x8, x9, x10, x11, x12]) (hy : ([] : List Nat).map Y0 = []) {r : Int32} {rx1 : (Nat → Int32)} {rx3 : (Nat → Int32)} {rx4 : (Nat → Int32)} {rx5 : (Nat → Int32)} {rx7 : (Nat → Int32)} {rx8 : (Nat → Int32)} {rx9 : (Nat → Int32)} {rx10 : (Nat → Int32)} {rx11 : (Nat → Int32)} {rx12 : (Nat → Int32)} (hf : fX10_readText x2 x1 x3 x4 x5 x7 x8 x9 x10 x11 x12 = some (r, rx1, rx3, rx4, rx5, rx7, rx8, rx9, rx10, rx11, rx12)) : gMi l yX10_readText cX10_readText 2 (some FieldType.boolean) 8 177 0 0 b0 D [.ref (b0 + 6)] (n, κ, X0, Y0, Z) (n, κ, ov X0 [1, 2, 3, 4, 5, 7, 8, 9, 10, 11, 12] [rx1, x2, rx3, rx4, rx5, rx7, rx8, rx9, rx10, rx11, rx12], ov Y0 [] [], Z) r := by
  have hN : ([1, 2, 3, 4, 5, 7, 8, 9, 10, 11, 12] : List Nat).Nodup := by decide
  have hM : ([] : List Nat).Nodup := by decide
  refine g_meti (own := RX10) (by decide) rfl rfl (Nat.le_of_ble_eq_true rfl) ?_
  intro K hC hret
  have e := wX10_readText_0 hL hN hM hC  hret hf
  rw [ov_id' hx, ov_id' hy] at e
  exact g_sub [0] rfl e


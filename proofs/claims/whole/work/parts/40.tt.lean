-- X11_isTold
def fX11_isTold_0   (x17 : Nat → Int32)   : Option (Int32) := if (x17 0) ≤ 0 then (some 0) else (some 1)
set_option maxHeartbeats 4000000 in
set_option maxRecDepth 100000 in
theorem wX11_isTold_0 {l : Launch} {b0 : Nat} {D : GD} {K : KT} {n : Nat} {κ : QT} {X0 : XT} {Y0 : YT} {Z : ZT} (hL : LY n κ) (hN : ([17] : List Nat).Nodup) (hM : ([] : List Nat).Nodup) (hC : gC l b0 D K RX11 cX11_isTold (some FieldType.boolean) 1 0 0 0 0) {x17 : Nat → Int32} {r : Int32} (hret : ∀ pc loc, narrow .boolean (.int r) = .int r → decode cX11_isTold pc = .ok (.ireturn, 1) → gV l b0 D K (n, κ, ov X0 [17] [x17], ov Y0 [] [], Z, 0, 0) pc loc [.int r])  (hf : fX11_isTold_0 x17   = some r) : gV l b0 D K (n, κ, ov X0 [17] [x17], ov Y0 [] [], Z, 0, 0) 0 [(0, .ref (b0 + 0))] [] := by
  unfold fX11_isTold_0 at hf
  refine g_aload_n hC 0 dX11_isTold_0 rfl rfl ?_
  refine gt_X11_41 hC (a := 0) (kk_0 hL) (kn_0 hL) dX11_isTold_1 ?_
  refine g_ref (b := 16) rfl ?_
  refine gt_X11_51 hC (a := 16) (kk_16 hL) (kn_16 hL) dX11_isTold_4 ?_
  refine g_ref (b := 17) rfl ?_
  refine gt_X11_202 hC (x := x17) (kk_17 hL) (kn_17 hL) (ov_get hN 0 rfl rfl) dX11_isTold_7 ?_
  refine g_if_le hC 17 dX11_isTold_10 (by decide) (fun hc => ?_) (fun hc => ?_)
  · replace hf := ifT hf hc
    refine g_iconst hC (v := 0) dX11_isTold_17 ic_0 ?_
    obtain rfl := sm1E hf
    exact hret _ _ rfl dX11_isTold_18
  · replace hf := ifF hf hc
    refine g_iconst hC (v := 1) dX11_isTold_13 ic_1 ?_
    refine g_goto hC 18 dX11_isTold_14 (by decide) ?_
    obtain rfl := sm1E hf
    exact hret _ _ rfl dX11_isTold_18

def fX11_isTold   (x17 : Nat → Int32)     : Option (Int32) := fX11_isTold_0 x17 

set_option maxHeartbeats 4000000 in
set_option maxRecDepth 100000 in
theorem c_X11_isTold (l : Launch) {b0 : Nat} {D : GD} {n : Nat} {κ : QT} {X0 : XT} {Y0 : YT} {Z : ZT} (hL : LY n κ) {x17 : Nat → Int32} (hx : ([17] : List Nat).map X0 = [x17]) (hy : ([] : List Nat).map Y0 = []) {r : Int32} (hf : fX11_isTold x17  = some r) : gMi l yX11_isTold cX11_isTold 1 (some FieldType.boolean) 0 0 0 0 b0 D [.ref (b0 + 0)] (n, κ, X0, Y0, Z) (n, κ, ov X0 [17] [x17], ov Y0 [] [], Z) r := by
  have hN : ([17] : List Nat).Nodup := by decide
  have hM : ([] : List Nat).Nodup := by decide
  refine g_meti (own := RX11) (by decide) rfl rfl (Nat.le_of_ble_eq_true rfl) ?_
  intro K hC hret
  have e := wX11_isTold_0 hL hN hM hC  hret hf
  rw [ov_id' hx, ov_id' hy] at e
  exact g_sub [0] rfl e

-- X11_isHouse
def fX11_isHouse_22   (x17 : Nat → Int32)   : Option (Int32) := some 0
set_option maxHeartbeats 4000000 in
set_option maxRecDepth 100000 in
theorem wX11_isHouse_22 {l : Launch} {b0 : Nat} {D : GD} {K : KT} {n : Nat} {κ : QT} {X0 : XT} {Y0 : YT} {Z : ZT} (hL : LY n κ) (hN : ([17] : List Nat).Nodup) (hM : ([] : List Nat).Nodup) (hC : gC l b0 D K RX11 cX11_isHouse (some FieldType.boolean) 2 0 0 0 0) {x17 : Nat → Int32} {r : Int32} (hret : ∀ pc loc, narrow .boolean (.int r) = .int r → decode cX11_isHouse pc = .ok (.ireturn, 1) → gV l b0 D K (n, κ, ov X0 [17] [x17], ov Y0 [] [], Z, 0, 0) pc loc [.int r])  (hf : fX11_isHouse_22 x17   = some r) : gV l b0 D K (n, κ, ov X0 [17] [x17], ov Y0 [] [], Z, 0, 0) 22 [] [] := by
  unfold fX11_isHouse_22 at hf
  refine g_iconst hC (v := 0) dX11_isHouse_22 ic_0 ?_
  obtain rfl := sm1E hf
  exact hret _ _ rfl dX11_isHouse_23

def fX11_isHouse_0   (x17 : Nat → Int32)  (v1 : Int32) : Option (Int32) := if v1 < 0 then (fX11_isHouse_22 x17  ) else (if (x17 4) ≤ v1 then (fX11_isHouse_22 x17  ) else (some 1))
set_option maxHeartbeats 4000000 in
set_option maxRecDepth 100000 in
theorem wX11_isHouse_0 {l : Launch} {b0 : Nat} {D : GD} {K : KT} {n : Nat} {κ : QT} {X0 : XT} {Y0 : YT} {Z : ZT} (hL : LY n κ) (hN : ([17] : List Nat).Nodup) (hM : ([] : List Nat).Nodup) (hC : gC l b0 D K RX11 cX11_isHouse (some FieldType.boolean) 2 0 0 0 0) {x17 : Nat → Int32} {r : Int32} (hret : ∀ pc loc, narrow .boolean (.int r) = .int r → decode cX11_isHouse pc = .ok (.ireturn, 1) → gV l b0 D K (n, κ, ov X0 [17] [x17], ov Y0 [] [], Z, 0, 0) pc loc [.int r]) {v1 : Int32} (hf : fX11_isHouse_0 x17  v1 = some r) : gV l b0 D K (n, κ, ov X0 [17] [x17], ov Y0 [] [], Z, 0, 0) 0 [(0, .ref (b0 + 0)), (1, .int v1)] [] := by
  unfold fX11_isHouse_0 at hf
  refine g_iload_n hC 1 dX11_isHouse_0 rfl rfl ?_
  refine g_if_lt hC 22 dX11_isHouse_1 (by decide) (fun hc => ?_) (fun hc => ?_)
  · replace hf := ifT hf hc
    exact g_sub [] rfl (wX11_isHouse_22 hL hN hM hC  hret  hf)
  · replace hf := ifF hf hc
    refine g_iload_n hC 1 dX11_isHouse_4 rfl rfl ?_
    refine g_aload_n hC 0 dX11_isHouse_5 rfl rfl ?_
    refine gt_X11_41 hC (a := 0) (kk_0 hL) (kn_0 hL) dX11_isHouse_6 ?_
    refine g_ref (b := 16) rfl ?_
    refine gt_X11_51 hC (a := 16) (kk_16 hL) (kn_16 hL) dX11_isHouse_9 ?_
    refine g_ref (b := 17) rfl ?_
    refine gt_X11_117 hC (x := x17) (kk_17 hL) (kn_17 hL) (ov_get hN 0 rfl rfl) dX11_isHouse_12 ?_
    refine g_icmp_ge hC 22 dX11_isHouse_15 (by decide) (fun hc => ?_) (fun hc => ?_)
    · replace hf := ifT hf hc
      exact g_sub [] rfl (wX11_isHouse_22 hL hN hM hC  hret  hf)
    · replace hf := ifF hf hc
      refine g_iconst hC (v := 1) dX11_isHouse_18 ic_1 ?_
      refine g_goto hC 23 dX11_isHouse_19 (by decide) ?_
      obtain rfl := sm1E hf
      exact hret _ _ rfl dX11_isHouse_23

def fX11_isHouse   (x17 : Nat → Int32)  (v1 : Int32)   : Option (Int32) := fX11_isHouse_0 x17 v1

set_option maxHeartbeats 4000000 in
set_option maxRecDepth 100000 in
theorem c_X11_isHouse (l : Launch) {b0 : Nat} {D : GD} {n : Nat} {κ : QT} {X0 : XT} {Y0 : YT} {Z : ZT} (hL : LY n κ) {x17 : Nat → Int32} (hx : ([17] : List Nat).map X0 = [x17]) (hy : ([] : List Nat).map Y0 = []) {v1 : Int32} {r : Int32} (hf : fX11_isHouse x17 v1 = some r) : gMi l yX11_isHouse cX11_isHouse 2 (some FieldType.boolean) 0 0 0 0 b0 D [.ref (b0 + 0), .int v1] (n, κ, X0, Y0, Z) (n, κ, ov X0 [17] [x17], ov Y0 [] [], Z) r := by
  have hN : ([17] : List Nat).Nodup := by decide
  have hM : ([] : List Nat).Nodup := by decide
  refine g_meti (own := RX11) (by decide) rfl rfl (Nat.le_of_ble_eq_true rfl) ?_
  intro K hC hret
  have e := wX11_isHouse_0 hL hN hM hC  hret hf
  rw [ov_id' hx, ov_id' hy] at e
  exact g_sub [0, 1] rfl e

-- X11_areTwo
def fX11_areTwo_25   (x17 : Nat → Int32)   : Option (Int32) := some 0
set_option maxHeartbeats 4000000 in
set_option maxRecDepth 100000 in
theorem wX11_areTwo_25 {l : Launch} {b0 : Nat} {D : GD} {K : KT} {n : Nat} {κ : QT} {X0 : XT} {Y0 : YT} {Z : ZT} (hL : LY n κ) (hN : ([17] : List Nat).Nodup) (hM : ([] : List Nat).Nodup) (hC : gC l b0 D K RX11 cX11_areTwo (some FieldType.boolean) 3 1 21 0 0) {x17 : Nat → Int32} {r : Int32} (hret : ∀ pc loc, narrow .boolean (.int r) = .int r → decode cX11_areTwo pc = .ok (.ireturn, 1) → gV l b0 D K (n, κ, ov X0 [17] [x17], ov Y0 [] [], Z, 0, 0) pc loc [.int r])  (hf : fX11_areTwo_25 x17   = some r) : gV l b0 D K (n, κ, ov X0 [17] [x17], ov Y0 [] [], Z, 0, 0) 25 [] [] := by
  unfold fX11_areTwo_25 at hf
  refine g_iconst hC (v := 0) dX11_areTwo_25 ic_0 ?_
  obtain rfl := sm1E hf
  exact hret _ _ rfl dX11_areTwo_26

def fX11_areTwo_0   (x17 : Nat → Int32)  (v1 : Int32) (v2 : Int32) : Option (Int32) := bd1 (fX11_isHouse x17 v1) fun r_1 => (if r_1 = 0 then (fX11_areTwo_25 x17  ) else (bd1 (fX11_isHouse x17 v2) fun r_3 => (if r_3 = 0 then (fX11_areTwo_25 x17  ) else (if v1 = v2 then (fX11_areTwo_25 x17  ) else (some 1)))))
set_option maxHeartbeats 4000000 in
set_option maxRecDepth 100000 in
theorem wX11_areTwo_0 {l : Launch} {b0 : Nat} {D : GD} {K : KT} {n : Nat} {κ : QT} {X0 : XT} {Y0 : YT} {Z : ZT} (hL : LY n κ) (hN : ([17] : List Nat).Nodup) (hM : ([] : List Nat).Nodup) (hC : gC l b0 D K RX11 cX11_areTwo (some FieldType.boolean) 3 1 21 0 0) {x17 : Nat → Int32} {r : Int32} (hret : ∀ pc loc, narrow .boolean (.int r) = .int r → decode cX11_areTwo pc = .ok (.ireturn, 1) → gV l b0 D K (n, κ, ov X0 [17] [x17], ov Y0 [] [], Z, 0, 0) pc loc [.int r]) {v1 : Int32} {v2 : Int32} (hf : fX11_areTwo_0 x17  v1 v2 = some r) : gV l b0 D K (n, κ, ov X0 [17] [x17], ov Y0 [] [], Z, 0, 0) 0 [(0, .ref (b0 + 0)), (1, .int v1), (2, .int v2)] [] := by
  unfold fX11_areTwo_0 at hf
  refine g_aload_n hC 0 dX11_areTwo_0 rfl rfl ?_
  refine g_iload_n hC 1 dX11_areTwo_1 rfl rfl ?_
  obtain ⟨r_1, q_2, hf⟩ := bd1E hf
  refine g_callV_i (a := 0) hC (X' := ov X0 [17] [x17]) (Y' := ov Y0 [] []) (As := [.int v1]) (gMi_eq (c_X11_isHouse l hL (ov_map hN [0] (by rfl) (by rfl)) (ov_map hM [] (by rfl) (by rfl)) q_2) (ov_ovE hN (by rfl) [0] [] (by rfl) (by rfl) [] (by rfl) (by rfl) (by rfl) 1 (by rfl) (by decide)) (ov_ovE hM (by rfl) [] [] (by rfl) (by rfl) [] (by rfl) (by rfl) (by rfl) 0 (by rfl) (by decide))) tw_790 tw_787 tw_116 tw_789 tw_21 (ci := 11) rfl (by decide) (kk_0 hL) (kn_0 hL) pd_X11_isHouse (by decide) (by decide) rfl rfl (Nat.le_of_ble_eq_true rfl) rfl dX11_areTwo_2 ?_
  refine g_if_eq hC 25 dX11_areTwo_5 (by decide) (fun hc => ?_) (fun hc => ?_)
  · replace hf := ifT hf hc
    exact g_sub [] rfl (wX11_areTwo_25 hL hN hM hC  hret  hf)
  · replace hf := ifF hf hc
    refine g_aload_n hC 0 dX11_areTwo_8 rfl rfl ?_
    refine g_iload_n hC 2 dX11_areTwo_9 rfl rfl ?_
    obtain ⟨r_3, q_4, hf⟩ := bd1E hf
    refine g_callV_i (a := 0) hC (X' := ov X0 [17] [x17]) (Y' := ov Y0 [] []) (As := [.int v2]) (gMi_eq (c_X11_isHouse l hL (ov_map hN [0] (by rfl) (by rfl)) (ov_map hM [] (by rfl) (by rfl)) q_4) (ov_ovE hN (by rfl) [0] [] (by rfl) (by rfl) [] (by rfl) (by rfl) (by rfl) 1 (by rfl) (by decide)) (ov_ovE hM (by rfl) [] [] (by rfl) (by rfl) [] (by rfl) (by rfl) (by rfl) 0 (by rfl) (by decide))) tw_790 tw_787 tw_116 tw_789 tw_21 (ci := 11) rfl (by decide) (kk_0 hL) (kn_0 hL) pd_X11_isHouse (by decide) (by decide) rfl rfl (Nat.le_of_ble_eq_true rfl) rfl dX11_areTwo_10 ?_
    refine g_if_eq hC 25 dX11_areTwo_13 (by decide) (fun hc => ?_) (fun hc => ?_)
    · replace hf := ifT hf hc
      exact g_sub [] rfl (wX11_areTwo_25 hL hN hM hC  hret  hf)
    · replace hf := ifF hf hc
      refine g_iload_n hC 1 dX11_areTwo_16 rfl rfl ?_
      refine g_iload_n hC 2 dX11_areTwo_17 rfl rfl ?_
      refine g_icmp_eq hC 25 dX11_areTwo_18 (by decide) (fun hc => ?_) (fun hc => ?_)
      · replace hf := ifT hf hc
        exact g_sub [] rfl (wX11_areTwo_25 hL hN hM hC  hret  hf)
      · replace hf := ifF hf hc
        refine g_iconst hC (v := 1) dX11_areTwo_21 ic_1 ?_
        refine g_goto hC 26 dX11_areTwo_22 (by decide) ?_
        obtain rfl := sm1E hf
        exact hret _ _ rfl dX11_areTwo_26

def fX11_areTwo   (x17 : Nat → Int32)  (v1 : Int32) (v2 : Int32)   : Option (Int32) := fX11_areTwo_0 x17 v1 v2

set_option maxHeartbeats 4000000 in
set_option maxRecDepth 100000 in
theorem c_X11_areTwo (l : Launch) {b0 : Nat} {D : GD} {n : Nat} {κ : QT} {X0 : XT} {Y0 : YT} {Z : ZT} (hL : LY n κ) {x17 : Nat → Int32} (hx : ([17] : List Nat).map X0 = [x17]) (hy : ([] : List Nat).map Y0 = []) {v1 : Int32} {v2 : Int32} {r : Int32} (hf : fX11_areTwo x17 v1 v2 = some r) : gMi l yX11_areTwo cX11_areTwo 3 (some FieldType.boolean) 1 21 0 0 b0 D [.ref (b0 + 0), .int v1, .int v2] (n, κ, X0, Y0, Z) (n, κ, ov X0 [17] [x17], ov Y0 [] [], Z) r := by
  have hN : ([17] : List Nat).Nodup := by decide
  have hM : ([] : List Nat).Nodup := by decide
  refine g_meti (own := RX11) (by decide) rfl rfl (Nat.le_of_ble_eq_true rfl) ?_
  intro K hC hret
  have e := wX11_areTwo_0 hL hN hM hC  hret hf
  rw [ov_id' hx, ov_id' hy] at e
  exact g_sub [0, 1, 2] rfl e

-- X11_feed
def fX11_feed_0     (v1 : Int32) (v2 : Int32) (v3 : Int32) (v4 : Int32) (v5 : Int32) (x1 : (Nat → Int32)) (x2 : (Nat → Int32)) : Option (Int32 × (Nat → Int32) × (Nat → Int32)) := if ((x1 1) + 20) ≤ 400 then (bd2 (fX8_append v1 x1 x2) fun x1_1 x2_2 => (bd2 (fX8_append v2 x1_1 x2_2) fun x1_4 x2_5 => (bd2 (fX8_append v3 x1_4 x2_5) fun x1_7 x2_8 => (bd2 (fX8_append v4 x1_7 x2_8) fun x1_10 x2_11 => (bd2 (fX8_append v5 x1_10 x2_11) fun x1_13 x2_14 => (some (x1_13 1, x1_13, x2_14))))))) else (some ((-1), x1, x2))
set_option maxHeartbeats 4000000 in
set_option maxRecDepth 100000 in
theorem wX11_feed_0 {l : Launch} {b0 : Nat} {D : GD} {K : KT} {n : Nat} {κ : QT} {X0 : XT} {Y0 : YT} {Z : ZT} (hL : LY n κ) (hN : ([1, 2] : List Nat).Nodup) (hM : ([] : List Nat).Nodup) (hC : gC l b0 D K RX11 cX11_feed (some FieldType.int) 6 1 22 0 0) {r : Int32} {rx1 : (Nat → Int32)} {rx2 : (Nat → Int32)} (hret : ∀ pc loc, narrow .int (.int r) = .int r → decode cX11_feed pc = .ok (.ireturn, 1) → gV l b0 D K (n, κ, ov X0 [1, 2] [rx1, rx2], ov Y0 [] [], Z, 0, 0) pc loc [.int r]) {v1 : Int32} {v2 : Int32} {v3 : Int32} {v4 : Int32} {v5 : Int32} {x1 : (Nat → Int32)} {x2 : (Nat → Int32)} (hf : fX11_feed_0   v1 v2 v3 v4 v5 x1 x2 = some (r, rx1, rx2)) : gV l b0 D K (n, κ, ov X0 [1, 2] [x1, x2], ov Y0 [] [], Z, 0, 0) 0 [(0, .ref (b0 + 0)), (1, .int v1), (2, .int v2), (3, .int v3), (4, .int v4), (5, .int v5)] [] := by
  unfold fX11_feed_0 at hf
  refine g_aload_n hC 0 dX11_feed_0 rfl rfl ?_
  refine gt_X11_12 hC (a := 0) (kk_0 hL) (kn_0 hL) dX11_feed_1 ?_
  refine g_ref (b := 1) rfl ?_
  refine gt_X11_96 hC (x := x1) (kk_1 hL) (kn_1 hL) (ov_get hN 0 rfl rfl) dX11_feed_4 ?_
  refine g_bipush hC (v := 20) dX11_feed_7 bp_20 ?_
  refine g_iadd hC dX11_feed_9 ?_
  refine g_sipush hC (v := 400) dX11_feed_10 sp_400 ?_
  refine g_icmp_le hC 18 dX11_feed_13 (by decide) (fun hc => ?_) (fun hc => ?_)
  · replace hf := ifT hf hc
    refine g_aload_n hC 0 dX11_feed_18 rfl rfl ?_
    refine gt_X11_12 hC (a := 0) (kk_0 hL) (kn_0 hL) dX11_feed_19 ?_
    refine g_ref (b := 1) rfl ?_
    refine g_iload_n hC 1 dX11_feed_22 rfl rfl ?_
    obtain ⟨x1_1, x2_2, q_3, hf⟩ := bd2E hf
    refine g_callV_v (a := 1) hC (X' := ov X0 [1, 2] [x1_1, x2_2]) (Y' := ov Y0 [] []) (As := [.int v1]) (gMv_eq (c_X8_append l hL (ov_map hN [0, 1] (by rfl) (by rfl)) (ov_map hM [] (by rfl) (by rfl)) q_3) (ov_ovE hN (by rfl) [0, 1] [] (by rfl) (by rfl) [] (by rfl) (by rfl) (by rfl) 2 (by rfl) (by decide)) (ov_ovE hM (by rfl) [] [] (by rfl) (by rfl) [] (by rfl) (by rfl) (by rfl) 0 (by rfl) (by decide))) tw_505 tw_502 tw_117 tw_503 tw_504 (ci := 8) rfl (by decide) (kk_1 hL) (kn_1 hL) pd_X8_append (by decide) (by decide) rfl rfl (Nat.le_of_ble_eq_true rfl) rfl dX11_feed_23 ?_
    refine g_aload_n hC 0 dX11_feed_26 rfl rfl ?_
    refine gt_X11_12 hC (a := 0) (kk_0 hL) (kn_0 hL) dX11_feed_27 ?_
    refine g_ref (b := 1) rfl ?_
    refine g_iload_n hC 2 dX11_feed_30 rfl rfl ?_
    obtain ⟨x1_4, x2_5, q_6, hf⟩ := bd2E hf
    refine g_callV_v (a := 1) hC (X' := ov X0 [1, 2] [x1_4, x2_5]) (Y' := ov Y0 [] []) (As := [.int v2]) (gMv_eq (c_X8_append l hL (ov_map hN [0, 1] (by rfl) (by rfl)) (ov_map hM [] (by rfl) (by rfl)) q_6) (ov_ovE hN (by rfl) [0, 1] [] (by rfl) (by rfl) [] (by rfl) (by rfl) (by rfl) 2 (by rfl) (by decide)) (ov_ovE hM (by rfl) [] [] (by rfl) (by rfl) [] (by rfl) (by rfl) (by rfl) 0 (by rfl) (by decide))) tw_505 tw_502 tw_117 tw_503 tw_504 (ci := 8) rfl (by decide) (kk_1 hL) (kn_1 hL) pd_X8_append (by decide) (by decide) rfl rfl (Nat.le_of_ble_eq_true rfl) rfl dX11_feed_31 ?_
    refine g_aload_n hC 0 dX11_feed_34 rfl rfl ?_
    refine gt_X11_12 hC (a := 0) (kk_0 hL) (kn_0 hL) dX11_feed_35 ?_
    refine g_ref (b := 1) rfl ?_
    refine g_iload_n hC 3 dX11_feed_38 rfl rfl ?_
    obtain ⟨x1_7, x2_8, q_9, hf⟩ := bd2E hf
    refine g_callV_v (a := 1) hC (X' := ov X0 [1, 2] [x1_7, x2_8]) (Y' := ov Y0 [] []) (As := [.int v3]) (gMv_eq (c_X8_append l hL (ov_map hN [0, 1] (by rfl) (by rfl)) (ov_map hM [] (by rfl) (by rfl)) q_9) (ov_ovE hN (by rfl) [0, 1] [] (by rfl) (by rfl) [] (by rfl) (by rfl) (by rfl) 2 (by rfl) (by decide)) (ov_ovE hM (by rfl) [] [] (by rfl) (by rfl) [] (by rfl) (by rfl) (by rfl) 0 (by rfl) (by decide))) tw_505 tw_502 tw_117 tw_503 tw_504 (ci := 8) rfl (by decide) (kk_1 hL) (kn_1 hL) pd_X8_append (by decide) (by decide) rfl rfl (Nat.le_of_ble_eq_true rfl) rfl dX11_feed_39 ?_
    refine g_aload_n hC 0 dX11_feed_42 rfl rfl ?_
    refine gt_X11_12 hC (a := 0) (kk_0 hL) (kn_0 hL) dX11_feed_43 ?_
    refine g_ref (b := 1) rfl ?_
    refine g_iload hC 4 dX11_feed_46 rfl ?_
    obtain ⟨x1_10, x2_11, q_12, hf⟩ := bd2E hf
    refine g_callV_v (a := 1) hC (X' := ov X0 [1, 2] [x1_10, x2_11]) (Y' := ov Y0 [] []) (As := [.int v4]) (gMv_eq (c_X8_append l hL (ov_map hN [0, 1] (by rfl) (by rfl)) (ov_map hM [] (by rfl) (by rfl)) q_12) (ov_ovE hN (by rfl) [0, 1] [] (by rfl) (by rfl) [] (by rfl) (by rfl) (by rfl) 2 (by rfl) (by decide)) (ov_ovE hM (by rfl) [] [] (by rfl) (by rfl) [] (by rfl) (by rfl) (by rfl) 0 (by rfl) (by decide))) tw_505 tw_502 tw_117 tw_503 tw_504 (ci := 8) rfl (by decide) (kk_1 hL) (kn_1 hL) pd_X8_append (by decide) (by decide) rfl rfl (Nat.le_of_ble_eq_true rfl) rfl dX11_feed_48 ?_
    refine g_aload_n hC 0 dX11_feed_51 rfl rfl ?_
    refine gt_X11_12 hC (a := 0) (kk_0 hL) (kn_0 hL) dX11_feed_52 ?_
    refine g_ref (b := 1) rfl ?_
    refine g_iload hC 5 dX11_feed_55 rfl ?_
    obtain ⟨x1_13, x2_14, q_15, hf⟩ := bd2E hf
    refine g_callV_v (a := 1) hC (X' := ov X0 [1, 2] [x1_13, x2_14]) (Y' := ov Y0 [] []) (As := [.int v5]) (gMv_eq (c_X8_append l hL (ov_map hN [0, 1] (by rfl) (by rfl)) (ov_map hM [] (by rfl) (by rfl)) q_15) (ov_ovE hN (by rfl) [0, 1] [] (by rfl) (by rfl) [] (by rfl) (by rfl) (by rfl) 2 (by rfl) (by decide)) (ov_ovE hM (by rfl) [] [] (by rfl) (by rfl) [] (by rfl) (by rfl) (by rfl) 0 (by rfl) (by decide))) tw_505 tw_502 tw_117 tw_503 tw_504 (ci := 8) rfl (by decide) (kk_1 hL) (kn_1 hL) pd_X8_append (by decide) (by decide) rfl rfl (Nat.le_of_ble_eq_true rfl) rfl dX11_feed_57 ?_
    refine g_aload_n hC 0 dX11_feed_60 rfl rfl ?_
    refine gt_X11_12 hC (a := 0) (kk_0 hL) (kn_0 hL) dX11_feed_61 ?_
    refine g_ref (b := 1) rfl ?_
    refine gt_X11_96 hC (x := x1_13) (kk_1 hL) (kn_1 hL) (ov_get hN 0 rfl rfl) dX11_feed_64 ?_
    obtain ⟨rfl, rfl, rfl⟩ := sm3E hf
    exact hret _ _ rfl dX11_feed_67
  · replace hf := ifF hf hc
    refine g_iconst hC (v := (-1)) dX11_feed_16 ic_m1 ?_
    obtain ⟨rfl, rfl, rfl⟩ := sm3E hf
    exact hret _ _ rfl dX11_feed_17

def fX11_feed     (v1 : Int32) (v2 : Int32) (v3 : Int32) (v4 : Int32) (v5 : Int32) (x1 : Nat → Int32) (x2 : Nat → Int32)  : Option (Int32 × (Nat → Int32) × (Nat → Int32)) := fX11_feed_0  v1 v2 v3 v4 v5 x1 x2

set_option maxHeartbeats 4000000 in
set_option maxRecDepth 100000 in
theorem c_X11_feed (l : Launch) {b0 : Nat} {D : GD} {n : Nat} {κ : QT} {X0 : XT} {Y0 : YT} {Z : ZT} (hL : LY n κ) {x1 : Nat → Int32} {x2 : Nat → Int32} (hx : ([1, 2] : List Nat).map X0 = [x1, x2]) (hy : ([] : List Nat).map Y0 = []) {v1 : Int32} {v2 : Int32} {v3 : Int32} {v4 : Int32} {v5 : Int32} {r : Int32} {rx1 : (Nat → Int32)} {rx2 : (Nat → Int32)} (hf : fX11_feed  v1 v2 v3 v4 v5 x1 x2 = some (r, rx1, rx2)) : gMi l yX11_feed cX11_feed 6 (some FieldType.int) 1 22 0 0 b0 D [.ref (b0 + 0), .int v1, .int v2, .int v3, .int v4, .int v5] (n, κ, X0, Y0, Z) (n, κ, ov X0 [1, 2] [rx1, rx2], ov Y0 [] [], Z) r := by
  have hN : ([1, 2] : List Nat).Nodup := by decide
  have hM : ([] : List Nat).Nodup := by decide
  refine g_meti (own := RX11) (by decide) rfl rfl (Nat.le_of_ble_eq_true rfl) ?_
  intro K hC hret
  have e := wX11_feed_0 hL hN hM hC  hret hf
  rw [ov_id' hx, ov_id' hy] at e
  exact g_sub [0, 1, 2, 3, 4, 5] rfl e

-- X11_end
def fX11_end_0     (v1 : Int32) (x1 : (Nat → Int32)) : Option (Int32 × (Nat → Int32)) := if v1 < 0 then (some ((-1), x1)) else (if v1 ≤ (x1 1) then (some (v1, (upd x1 1 v1))) else (some ((-1), x1)))
set_option maxHeartbeats 4000000 in
set_option maxRecDepth 100000 in
theorem wX11_end_0 {l : Launch} {b0 : Nat} {D : GD} {K : KT} {n : Nat} {κ : QT} {X0 : XT} {Y0 : YT} {Z : ZT} (hL : LY n κ) (hN : ([1] : List Nat).Nodup) (hM : ([] : List Nat).Nodup) (hC : gC l b0 D K RX11 cX11_end (some FieldType.int) 2 0 0 0 0) {r : Int32} {rx1 : (Nat → Int32)} (hret : ∀ pc loc, narrow .int (.int r) = .int r → decode cX11_end pc = .ok (.ireturn, 1) → gV l b0 D K (n, κ, ov X0 [1] [rx1], ov Y0 [] [], Z, 0, 0) pc loc [.int r]) {v1 : Int32} {x1 : (Nat → Int32)} (hf : fX11_end_0   v1 x1 = some (r, rx1)) : gV l b0 D K (n, κ, ov X0 [1] [x1], ov Y0 [] [], Z, 0, 0) 0 [(0, .ref (b0 + 0)), (1, .int v1)] [] := by
  unfold fX11_end_0 at hf
  refine g_iload_n hC 1 dX11_end_0 rfl rfl ?_
  refine g_if_lt hC 15 dX11_end_1 (by decide) (fun hc => ?_) (fun hc => ?_)
  · replace hf := ifT hf hc
    refine g_iconst hC (v := (-1)) dX11_end_15 ic_m1 ?_
    obtain ⟨rfl, rfl⟩ := sm2E hf
    exact hret _ _ rfl dX11_end_16
  · replace hf := ifF hf hc
    refine g_iload_n hC 1 dX11_end_4 rfl rfl ?_
    refine g_aload_n hC 0 dX11_end_5 rfl rfl ?_
    refine gt_X11_12 hC (a := 0) (kk_0 hL) (kn_0 hL) dX11_end_6 ?_
    refine g_ref (b := 1) rfl ?_
    refine gt_X11_96 hC (x := x1) (kk_1 hL) (kn_1 hL) (ov_get hN 0 rfl rfl) dX11_end_9 ?_
    refine g_icmp_le hC 17 dX11_end_12 (by decide) (fun hc => ?_) (fun hc => ?_)
    · replace hf := ifT hf hc
      refine g_aload_n hC 0 dX11_end_17 rfl rfl ?_
      refine gt_X11_12 hC (a := 0) (kk_0 hL) (kn_0 hL) dX11_end_18 ?_
      refine g_ref (b := 1) rfl ?_
      refine g_iload_n hC 1 dX11_end_21 rfl rfl ?_
      refine pt_X11_96 hC (x := x1) (kk_1 hL) (kn_1 hL) (ov_get hN 0 rfl rfl) (ov_set hN (by rfl) 0 (by rfl)) dX11_end_22 ?_
      show gV l b0 D K (n, κ, ov X0 [1] [(upd x1 1 v1)], ov Y0 [] [], Z, 0, 0) 25 [(0, .ref (b0 + 0)), (1, .int v1)] []
      refine g_iload_n hC 1 dX11_end_25 rfl rfl ?_
      obtain ⟨rfl, rfl⟩ := sm2E hf
      exact hret _ _ rfl dX11_end_26
    · replace hf := ifF hf hc
      refine g_iconst hC (v := (-1)) dX11_end_15 ic_m1 ?_
      obtain ⟨rfl, rfl⟩ := sm2E hf
      exact hret _ _ rfl dX11_end_16

def fX11_end     (v1 : Int32) (x1 : Nat → Int32)  : Option (Int32 × (Nat → Int32)) := fX11_end_0  v1 x1

set_option maxHeartbeats 4000000 in
set_option maxRecDepth 100000 in
theorem c_X11_end (l : Launch) {b0 : Nat} {D : GD} {n : Nat} {κ : QT} {X0 : XT} {Y0 : YT} {Z : ZT} (hL : LY n κ) {x1 : Nat → Int32} (hx : ([1] : List Nat).map X0 = [x1]) (hy : ([] : List Nat).map Y0 = []) {v1 : Int32} {r : Int32} {rx1 : (Nat → Int32)} (hf : fX11_end  v1 x1 = some (r, rx1)) : gMi l yX11_end cX11_end 2 (some FieldType.int) 0 0 0 0 b0 D [.ref (b0 + 0), .int v1] (n, κ, X0, Y0, Z) (n, κ, ov X0 [1] [rx1], ov Y0 [] [], Z) r := by
  have hN : ([1] : List Nat).Nodup := by decide
  have hM : ([] : List Nat).Nodup := by decide
  refine g_meti (own := RX11) (by decide) rfl rfl (Nat.le_of_ble_eq_true rfl) ?_
  intro K hC hret
  have e := wX11_end_0 hL hN hM hC  hret hf
  rw [ov_id' hx, ov_id' hy] at e
  exact g_sub [0, 1] rfl e

-- X11_force
def fX11_force_0   (x0 : Nat → Int32)  (v1 : Int32) (x16 : (Nat → Int32)) : Option (Int32 × (Nat → Int32)) := if v1 < (-1) then (some ((-2), x16)) else (if v1 < (x0 4) then (bn (x16 8) fun t_1 => (some (t_1, (upd x16 8 v1)))) else (some ((-2), x16)))
set_option maxHeartbeats 4000000 in
set_option maxRecDepth 100000 in
theorem wX11_force_0 {l : Launch} {b0 : Nat} {D : GD} {K : KT} {n : Nat} {κ : QT} {X0 : XT} {Y0 : YT} {Z : ZT} (hL : LY n κ) (hN : ([0, 16] : List Nat).Nodup) (hM : ([] : List Nat).Nodup) (hC : gC l b0 D K RX11 cX11_force (some FieldType.int) 3 0 0 0 0) {x0 : Nat → Int32} {r : Int32} {rx16 : (Nat → Int32)} (hret : ∀ pc loc, narrow .int (.int r) = .int r → decode cX11_force pc = .ok (.ireturn, 1) → gV l b0 D K (n, κ, ov X0 [0, 16] [x0, rx16], ov Y0 [] [], Z, 0, 0) pc loc [.int r]) {v1 : Int32} {x16 : (Nat → Int32)} (hf : fX11_force_0 x0  v1 x16 = some (r, rx16)) : gV l b0 D K (n, κ, ov X0 [0, 16] [x0, x16], ov Y0 [] [], Z, 0, 0) 0 [(0, .ref (b0 + 0)), (1, .int v1)] [] := by
  unfold fX11_force_0 at hf
  refine g_iload_n hC 1 dX11_force_0 rfl rfl ?_
  refine g_iconst hC (v := (-1)) dX11_force_1 ic_m1 ?_
  refine g_icmp_lt hC 13 dX11_force_2 (by decide) (fun hc => ?_) (fun hc => ?_)
  · replace hf := ifT hf hc
    refine g_bipush hC (v := (-2)) dX11_force_13 bp_m2 ?_
    obtain ⟨rfl, rfl⟩ := sm2E hf
    exact hret _ _ rfl dX11_force_15
  · replace hf := ifF hf hc
    refine g_iload_n hC 1 dX11_force_5 rfl rfl ?_
    refine g_aload_n hC 0 dX11_force_6 rfl rfl ?_
    refine gt_X11_122 hC (x := x0) (kk_0 hL) (kn_0 hL) (ov_get hN 0 rfl rfl) dX11_force_7 ?_
    refine g_icmp_lt hC 16 dX11_force_10 (by decide) (fun hc => ?_) (fun hc => ?_)
    · replace hf := ifT hf hc
      refine g_aload_n hC 0 dX11_force_16 rfl rfl ?_
      refine gt_X11_41 hC (a := 0) (kk_0 hL) (kn_0 hL) dX11_force_17 ?_
      refine g_ref (b := 16) rfl ?_
      refine gt_X11_133 hC (x := x16) (kk_16 hL) (kn_16 hL) (ov_get hN 1 rfl rfl) dX11_force_20 ?_
      obtain ⟨t_1, et_1, hf⟩ := bnE hf
      refine g_topi et_1 ?_
      refine g_istore_n hC (i := 2) [(2, .int t_1), (0, .ref (b0 + 0)), (1, .int v1)] rfl dX11_force_23 (by decide) rfl ?_
      refine g_aload_n hC 1 dX11_force_24 rfl rfl ?_
      refine gt_X11_41 hC (a := 0) (kk_0 hL) (kn_0 hL) dX11_force_25 ?_
      refine g_ref (b := 16) rfl ?_
      refine g_iload_n hC 2 dX11_force_28 rfl rfl ?_
      refine pt_X11_133 hC (x := x16) (kk_16 hL) (kn_16 hL) (ov_get hN 1 rfl rfl) (ov_set hN (by rfl) 1 (by rfl)) dX11_force_29 ?_
      show gV l b0 D K (n, κ, ov X0 [0, 16] [x0, (upd x16 8 v1)], ov Y0 [] [], Z, 0, 0) 32 [(2, .int t_1), (0, .ref (b0 + 0)), (1, .int v1)] []
      refine g_iload_n hC 0 dX11_force_32 rfl rfl ?_
      obtain ⟨rfl, rfl⟩ := sm2E hf
      exact hret _ _ rfl dX11_force_33
    · replace hf := ifF hf hc
      refine g_bipush hC (v := (-2)) dX11_force_13 bp_m2 ?_
      obtain ⟨rfl, rfl⟩ := sm2E hf
      exact hret _ _ rfl dX11_force_15

def fX11_force   (x0 : Nat → Int32)  (v1 : Int32) (x16 : Nat → Int32)  : Option (Int32 × (Nat → Int32)) := fX11_force_0 x0 v1 x16

set_option maxHeartbeats 4000000 in
set_option maxRecDepth 100000 in
theorem c_X11_force (l : Launch) {b0 : Nat} {D : GD} {n : Nat} {κ : QT} {X0 : XT} {Y0 : YT} {Z : ZT} (hL : LY n κ) {x0 : Nat → Int32} {x16 : Nat → Int32} (hx : ([0, 16] : List Nat).map X0 = [x0, x16]) (hy : ([] : List Nat).map Y0 = []) {v1 : Int32} {r : Int32} {rx16 : (Nat → Int32)} (hf : fX11_force x0 v1 x16 = some (r, rx16)) : gMi l yX11_force cX11_force 3 (some FieldType.int) 0 0 0 0 b0 D [.ref (b0 + 0), .int v1] (n, κ, X0, Y0, Z) (n, κ, ov X0 [0, 16] [x0, rx16], ov Y0 [] [], Z) r := by
  have hN : ([0, 16] : List Nat).Nodup := by decide
  have hM : ([] : List Nat).Nodup := by decide
  refine g_meti (own := RX11) (by decide) rfl rfl (Nat.le_of_ble_eq_true rfl) ?_
  intro K hC hret
  have e := wX11_force_0 hL hN hM hC  hret hf
  rw [ov_id' hx, ov_id' hy] at e
  exact g_sub [0, 1] rfl e

-- X11_blockNow
def fX11_blockNow_0   (x17 : Nat → Int32) (x18 : Nat → Int32) (x23 : Nat → Int32) (x26 : Nat → Int32)  (v1 : Int32) (x33 : (Nat → Int32)) : Option (Int32 × (Nat → Int32)) := bd1 (fX9_heatOf x23 x17 x18) fun r_1 => (bd1 (fX1_findHolds x26 r_1 x33) fun x33_3 => (bd1 (fX1_blockOf x33_3 v1) fun r_5 => (some (r_5, x33_3))))
set_option maxHeartbeats 4000000 in
set_option maxRecDepth 100000 in
theorem wX11_blockNow_0 {l : Launch} {b0 : Nat} {D : GD} {K : KT} {n : Nat} {κ : QT} {X0 : XT} {Y0 : YT} {Z : ZT} (hL : LY n κ) (hN : ([17, 18, 23, 26, 33] : List Nat).Nodup) (hM : ([] : List Nat).Nodup) (hC : gC l b0 D K RX11 cX11_blockNow (some FieldType.int) 2 2 62 0 0) {x17 : Nat → Int32} {x18 : Nat → Int32} {x23 : Nat → Int32} {x26 : Nat → Int32} {r : Int32} {rx33 : (Nat → Int32)} (hret : ∀ pc loc, narrow .int (.int r) = .int r → decode cX11_blockNow pc = .ok (.ireturn, 1) → gV l b0 D K (n, κ, ov X0 [17, 18, 23, 26, 33] [x17, x18, x23, x26, rx33], ov Y0 [] [], Z, 0, 0) pc loc [.int r]) {v1 : Int32} {x33 : (Nat → Int32)} (hf : fX11_blockNow_0 x17 x18 x23 x26  v1 x33 = some (r, rx33)) : gV l b0 D K (n, κ, ov X0 [17, 18, 23, 26, 33] [x17, x18, x23, x26, x33], ov Y0 [] [], Z, 0, 0) 0 [(0, .ref (b0 + 0)), (1, .int v1)] [] := by
  unfold fX11_blockNow_0 at hf
  refine g_aload_n hC 0 dX11_blockNow_0 rfl rfl ?_
  refine gt_X11_58 hC (a := 0) (kk_0 hL) (kn_0 hL) dX11_blockNow_1 ?_
  refine g_ref (b := 32) rfl ?_
  refine g_aload_n hC 0 dX11_blockNow_4 rfl rfl ?_
  refine gt_X11_41 hC (a := 0) (kk_0 hL) (kn_0 hL) dX11_blockNow_5 ?_
  refine g_ref (b := 16) rfl ?_
  refine gt_X11_140 hC (a := 16) (kk_16 hL) (kn_16 hL) dX11_blockNow_8 ?_
  refine g_ref (b := 23) rfl ?_
  refine g_aload_n hC 0 dX11_blockNow_11 rfl rfl ?_
  refine gt_X11_41 hC (a := 0) (kk_0 hL) (kn_0 hL) dX11_blockNow_12 ?_
  refine g_ref (b := 16) rfl ?_
  refine gt_X11_51 hC (a := 16) (kk_16 hL) (kn_16 hL) dX11_blockNow_15 ?_
  refine g_ref (b := 17) rfl ?_
  refine g_aload_n hC 0 dX11_blockNow_18 rfl rfl ?_
  refine gt_X11_41 hC (a := 0) (kk_0 hL) (kn_0 hL) dX11_blockNow_19 ?_
  refine g_ref (b := 16) rfl ?_
  refine gt_X11_140 hC (a := 16) (kk_16 hL) (kn_16 hL) dX11_blockNow_22 ?_
  refine g_ref (b := 23) rfl ?_
  obtain ⟨r_1, q_2, hf⟩ := bd1E hf
  refine g_callV_i (a := 17) hC (X' := ov X0 [17, 18, 23, 26, 33] [x17, x18, x23, x26, x33]) (Y' := ov Y0 [] []) (As := [.ref (b0 + 23)]) (gMi_eq (c_X9_heatOf l hL (kk_23 hL) (kn_23 hL) (nd_sub hN [2, 0, 1] (by decide) (by rfl)) (nd_sub hM [] (by decide) (by rfl)) (ov_map hN [2, 0, 1] (by rfl) (by rfl)) (ov_map hM [] (by rfl) (by rfl)) q_2) (ov_ovE hN (by rfl) [2, 0, 1] [3, 4] (by rfl) (by rfl) [x26, x33] (by rfl) (by rfl) (by rfl) 5 (by rfl) (by decide)) (ov_ovE hM (by rfl) [] [] (by rfl) (by rfl) [] (by rfl) (by rfl) (by rfl) 0 (by rfl) (by decide))) tw_806 tw_803 tw_119 tw_804 tw_805 (ci := 9) rfl (by decide) (kk_17 hL) (kn_17 hL) pd_X9_heatOf (by decide) (by decide) rfl rfl (Nat.le_of_ble_eq_true rfl) rfl dX11_blockNow_25 ?_
  obtain ⟨x33_3, q_4, hf⟩ := bd1E hf
  refine g_callV_v (a := 32) hC (X' := ov X0 [17, 18, 23, 26, 33] [x17, x18, x23, x26, x33_3]) (Y' := ov Y0 [] []) (As := [.ref (b0 + 23), .int r_1]) (gMv_eq (c_X1_findHolds l hL (kk_23 hL) (kn_23 hL) (nd_sub hN [3, 4] (by decide) (by rfl)) (nd_sub hM [] (by decide) (by rfl)) (ov_map hN [3, 4] (by rfl) (by rfl)) (ov_map hM [] (by rfl) (by rfl)) q_4) (ov_ovE hN (by rfl) [3, 4] [0, 1, 2] (by rfl) (by rfl) [x17, x18, x23] (by rfl) (by rfl) (by rfl) 5 (by rfl) (by decide)) (ov_ovE hM (by rfl) [] [] (by rfl) (by rfl) [] (by rfl) (by rfl) (by rfl) 0 (by rfl) (by decide))) tw_817 tw_814 tw_123 tw_815 tw_816 (ci := 1) rfl (by decide) (kk_32 hL) (kn_32 hL) pd_X1_findHolds (by decide) (by decide) rfl rfl (Nat.le_of_ble_eq_true rfl) rfl dX11_blockNow_28 ?_
  refine g_aload_n hC 0 dX11_blockNow_31 rfl rfl ?_
  refine gt_X11_58 hC (a := 0) (kk_0 hL) (kn_0 hL) dX11_blockNow_32 ?_
  refine g_ref (b := 32) rfl ?_
  refine g_iload_n hC 1 dX11_blockNow_35 rfl rfl ?_
  obtain ⟨r_5, q_6, hf⟩ := bd1E hf
  refine g_callV_i (a := 32) hC (X' := ov X0 [17, 18, 23, 26, 33] [x17, x18, x23, x26, x33_3]) (Y' := ov Y0 [] []) (As := [.int v1]) (gMi_eq (c_X1_blockOf l hL (ov_map hN [4] (by rfl) (by rfl)) (ov_map hM [] (by rfl) (by rfl)) q_6) (ov_ovE hN (by rfl) [4] [0, 1, 2, 3] (by rfl) (by rfl) [x17, x18, x23, x26] (by rfl) (by rfl) (by rfl) 5 (by rfl) (by decide)) (ov_ovE hM (by rfl) [] [] (by rfl) (by rfl) [] (by rfl) (by rfl) (by rfl) 0 (by rfl) (by decide))) tw_822 tw_819 tw_123 tw_820 tw_821 (ci := 1) rfl (by decide) (kk_32 hL) (kn_32 hL) pd_X1_blockOf (by decide) (by decide) rfl rfl (Nat.le_of_ble_eq_true rfl) rfl dX11_blockNow_36 ?_
  obtain ⟨rfl, rfl⟩ := sm2E hf
  exact hret _ _ rfl dX11_blockNow_39

def fX11_blockNow   (x17 : Nat → Int32) (x18 : Nat → Int32) (x23 : Nat → Int32) (x26 : Nat → Int32)  (v1 : Int32) (x33 : Nat → Int32)  : Option (Int32 × (Nat → Int32)) := fX11_blockNow_0 x17 x18 x23 x26 v1 x33

set_option maxHeartbeats 4000000 in
set_option maxRecDepth 100000 in
theorem c_X11_blockNow (l : Launch) {b0 : Nat} {D : GD} {n : Nat} {κ : QT} {X0 : XT} {Y0 : YT} {Z : ZT} (hL : LY n κ) {x17 : Nat → Int32} {x18 : Nat → Int32} {x23 : Nat → Int32} {x26 : Nat → Int32} {x33 : Nat → Int32} (hx : ([17, 18, 23, 26, 33] : List Nat).map X0 = [x17, x18, x23, x26, x33]) (hy : ([] : List Nat).map Y0 = []) {v1 : Int32} {r : Int32} {rx33 : (Nat → Int32)} (hf : fX11_blockNow x17 x18 x23 x26 v1 x33 = some (r, rx33)) : gMi l yX11_blockNow cX11_blockNow 2 (some FieldType.int) 2 62 0 0 b0 D [.ref (b0 + 0), .int v1] (n, κ, X0, Y0, Z) (n, κ, ov X0 [17, 18, 23, 26, 33] [x17, x18, x23, x26, rx33], ov Y0 [] [], Z) r := by
  have hN : ([17, 18, 23, 26, 33] : List Nat).Nodup := by decide
  have hM : ([] : List Nat).Nodup := by decide
  refine g_meti (own := RX11) (by decide) rfl rfl (Nat.le_of_ble_eq_true rfl) ?_
  intro K hC hret
  have e := wX11_blockNow_0 hL hN hM hC  hret hf
  rw [ov_id' hx, ov_id' hy] at e
  exact g_sub [0, 1] rfl e

-- X11_isFastNow
def fX11_isFastNow_0   (x17 : Nat → Int32) (x18 : Nat → Int32) (x23 : Nat → Int32) (x25 : Nat → Int32) (x26 : Nat → Int32)  (v1 : Int32) (x33 : (Nat → Int32)) : Option (Int32 × (Nat → Int32)) := bd2 (fX11_blockNow x17 x18 x23 x26 v1 x33) fun r_1 x33_2 => (bd1 (fX9_heatOf x23 x17 x18) fun r_4 => (bd1 (fX1_isFast x25 r_1 r_4) fun r_6 => (gd (bz r_6) (some (r_6, x33_2)))))
set_option maxHeartbeats 4000000 in
set_option maxRecDepth 100000 in
theorem wX11_isFastNow_0 {l : Launch} {b0 : Nat} {D : GD} {K : KT} {n : Nat} {κ : QT} {X0 : XT} {Y0 : YT} {Z : ZT} (hL : LY n κ) (hN : ([17, 18, 23, 25, 26, 33] : List Nat).Nodup) (hM : ([] : List Nat).Nodup) (hC : gC l b0 D K RX11 cX11_isFastNow (some FieldType.boolean) 2 3 83 0 0) {x17 : Nat → Int32} {x18 : Nat → Int32} {x23 : Nat → Int32} {x25 : Nat → Int32} {x26 : Nat → Int32} {r : Int32} {rx33 : (Nat → Int32)} (hret : ∀ pc loc, narrow .boolean (.int r) = .int r → decode cX11_isFastNow pc = .ok (.ireturn, 1) → gV l b0 D K (n, κ, ov X0 [17, 18, 23, 25, 26, 33] [x17, x18, x23, x25, x26, rx33], ov Y0 [] [], Z, 0, 0) pc loc [.int r]) {v1 : Int32} {x33 : (Nat → Int32)} (hf : fX11_isFastNow_0 x17 x18 x23 x25 x26  v1 x33 = some (r, rx33)) : gV l b0 D K (n, κ, ov X0 [17, 18, 23, 25, 26, 33] [x17, x18, x23, x25, x26, x33], ov Y0 [] [], Z, 0, 0) 0 [(0, .ref (b0 + 0)), (1, .int v1)] [] := by
  unfold fX11_isFastNow_0 at hf
  refine g_aload_n hC 0 dX11_isFastNow_0 rfl rfl ?_
  refine gt_X11_58 hC (a := 0) (kk_0 hL) (kn_0 hL) dX11_isFastNow_1 ?_
  refine g_ref (b := 32) rfl ?_
  refine g_aload_n hC 0 dX11_isFastNow_4 rfl rfl ?_
  refine gt_X11_41 hC (a := 0) (kk_0 hL) (kn_0 hL) dX11_isFastNow_5 ?_
  refine g_ref (b := 16) rfl ?_
  refine gt_X11_140 hC (a := 16) (kk_16 hL) (kn_16 hL) dX11_isFastNow_8 ?_
  refine g_ref (b := 23) rfl ?_
  refine g_aload_n hC 0 dX11_isFastNow_11 rfl rfl ?_
  refine g_iload_n hC 1 dX11_isFastNow_12 rfl rfl ?_
  obtain ⟨r_1, x33_2, q_3, hf⟩ := bd2E hf
  refine g_callV_i (a := 0) hC (X' := ov X0 [17, 18, 23, 25, 26, 33] [x17, x18, x23, x25, x26, x33_2]) (Y' := ov Y0 [] []) (As := [.int v1]) (gMi_eq (c_X11_blockNow l hL (ov_map hN [0, 1, 2, 4, 5] (by rfl) (by rfl)) (ov_map hM [] (by rfl) (by rfl)) q_3) (ov_ovE hN (by rfl) [0, 1, 2, 4, 5] [3] (by rfl) (by rfl) [x25] (by rfl) (by rfl) (by rfl) 6 (by rfl) (by decide)) (ov_ovE hM (by rfl) [] [] (by rfl) (by rfl) [] (by rfl) (by rfl) (by rfl) 0 (by rfl) (by decide))) tw_802 tw_799 tw_116 tw_801 tw_22 (ci := 11) rfl (by decide) (kk_0 hL) (kn_0 hL) pd_X11_blockNow (by decide) (by decide) rfl rfl (Nat.le_of_ble_eq_true rfl) rfl dX11_isFastNow_13 ?_
  refine g_aload_n hC 0 dX11_isFastNow_16 rfl rfl ?_
  refine gt_X11_41 hC (a := 0) (kk_0 hL) (kn_0 hL) dX11_isFastNow_17 ?_
  refine g_ref (b := 16) rfl ?_
  refine gt_X11_51 hC (a := 16) (kk_16 hL) (kn_16 hL) dX11_isFastNow_20 ?_
  refine g_ref (b := 17) rfl ?_
  refine g_aload_n hC 0 dX11_isFastNow_23 rfl rfl ?_
  refine gt_X11_41 hC (a := 0) (kk_0 hL) (kn_0 hL) dX11_isFastNow_24 ?_
  refine g_ref (b := 16) rfl ?_
  refine gt_X11_140 hC (a := 16) (kk_16 hL) (kn_16 hL) dX11_isFastNow_27 ?_
  refine g_ref (b := 23) rfl ?_
  obtain ⟨r_4, q_5, hf⟩ := bd1E hf
  refine g_callV_i (a := 17) hC (X' := ov X0 [17, 18, 23, 25, 26, 33] [x17, x18, x23, x25, x26, x33_2]) (Y' := ov Y0 [] []) (As := [.ref (b0 + 23)]) (gMi_eq (c_X9_heatOf l hL (kk_23 hL) (kn_23 hL) (nd_sub hN [2, 0, 1] (by decide) (by rfl)) (nd_sub hM [] (by decide) (by rfl)) (ov_map hN [2, 0, 1] (by rfl) (by rfl)) (ov_map hM [] (by rfl) (by rfl)) q_5) (ov_ovE hN (by rfl) [2, 0, 1] [3, 4, 5] (by rfl) (by rfl) [x25, x26, x33_2] (by rfl) (by rfl) (by rfl) 6 (by rfl) (by decide)) (ov_ovE hM (by rfl) [] [] (by rfl) (by rfl) [] (by rfl) (by rfl) (by rfl) 0 (by rfl) (by decide))) tw_806 tw_803 tw_119 tw_804 tw_805 (ci := 9) rfl (by decide) (kk_17 hL) (kn_17 hL) pd_X9_heatOf (by decide) (by decide) rfl rfl (Nat.le_of_ble_eq_true rfl) rfl dX11_isFastNow_30 ?_
  obtain ⟨r_6, q_7, hf⟩ := bd1E hf
  refine g_callV_i (a := 32) hC (X' := ov X0 [17, 18, 23, 25, 26, 33] [x17, x18, x23, x25, x26, x33_2]) (Y' := ov Y0 [] []) (As := [.ref (b0 + 23), .int r_1, .int r_4]) (gMi_eq (c_X1_isFast l hL (kk_23 hL) (kn_23 hL) (nd_sub hN [3] (by decide) (by rfl)) (nd_sub hM [] (by decide) (by rfl)) (ov_map hN [3] (by rfl) (by rfl)) (ov_map hM [] (by rfl) (by rfl)) q_7) (ov_ovE hN (by rfl) [3] [0, 1, 2, 4, 5] (by rfl) (by rfl) [x17, x18, x23, x26, x33_2] (by rfl) (by rfl) (by rfl) 6 (by rfl) (by decide)) (ov_ovE hM (by rfl) [] [] (by rfl) (by rfl) [] (by rfl) (by rfl) (by rfl) 0 (by rfl) (by decide))) tw_833 tw_830 tw_123 tw_831 tw_832 (ci := 1) rfl (by decide) (kk_32 hL) (kn_32 hL) pd_X1_isFast (by decide) (by decide) rfl rfl (Nat.le_of_ble_eq_true rfl) rfl dX11_isFastNow_33 ?_
  obtain ⟨h_8, hf⟩ := gdE hf
  obtain ⟨rfl, rfl⟩ := sm2E hf
  exact hret _ _ (bz_nar h_8) dX11_isFastNow_36

def fX11_isFastNow   (x17 : Nat → Int32) (x18 : Nat → Int32) (x23 : Nat → Int32) (x25 : Nat → Int32) (x26 : Nat → Int32)  (v1 : Int32) (x33 : Nat → Int32)  : Option (Int32 × (Nat → Int32)) := fX11_isFastNow_0 x17 x18 x23 x25 x26 v1 x33

set_option maxHeartbeats 4000000 in
set_option maxRecDepth 100000 in
theorem c_X11_isFastNow (l : Launch) {b0 : Nat} {D : GD} {n : Nat} {κ : QT} {X0 : XT} {Y0 : YT} {Z : ZT} (hL : LY n κ) {x17 : Nat → Int32} {x18 : Nat → Int32} {x23 : Nat → Int32} {x25 : Nat → Int32} {x26 : Nat → Int32} {x33 : Nat → Int32} (hx : ([17, 18, 23, 25, 26, 33] : List Nat).map X0 = [x17, x18, x23, x25, x26, x33]) (hy : ([] : List Nat).map Y0 = []) {v1 : Int32} {r : Int32} {rx33 : (Nat → Int32)} (hf : fX11_isFastNow x17 x18 x23 x25 x26 v1 x33 = some (r, rx33)) : gMi l yX11_isFastNow cX11_isFastNow 2 (some FieldType.boolean) 3 83 0 0 b0 D [.ref (b0 + 0), .int v1] (n, κ, X0, Y0, Z) (n, κ, ov X0 [17, 18, 23, 25, 26, 33] [x17, x18, x23, x25, x26, rx33], ov Y0 [] [], Z) r := by
  have hN : ([17, 18, 23, 25, 26, 33] : List Nat).Nodup := by decide
  have hM : ([] : List Nat).Nodup := by decide
  refine g_meti (own := RX11) (by decide) rfl rfl (Nat.le_of_ble_eq_true rfl) ?_
  intro K hC hret
  have e := wX11_isFastNow_0 hL hN hM hC  hret hf
  rw [ov_id' hx, ov_id' hy] at e
  exact g_sub [0, 1] rfl e

-- X11_house
def fX11_house_0   (x17 : Nat → Int32) (x18 : Nat → Int32) (x23 : Nat → Int32) (x24 : Nat → Int32) (x25 : Nat → Int32) (x26 : Nat → Int32)  (v1 : Int32) (v2 : Int32) (x33 : (Nat → Int32)) : Option (Int32 × (Nat → Int32)) := bd1 (fX11_isHouse x17 v1) fun r_1 => (if r_1 = 0 then (some ((-1), x33)) else (if v2.toInt = 0 then (gd (inb v1 6) (some (x24 v1.toNatClampNeg, x33))) else (if v2.toInt = 1 then (gd (inb v1 6) (some (x25 v1.toNatClampNeg, x33))) else (if v2.toInt = 2 then (bd1 (fX7_pouredTo x26 v1) fun r_8 => (some (r_8, x33))) else (if v2.toInt = 3 then (bd2 (fX11_blockNow x17 x18 x23 x26 v1 x33) fun r_11 x33_12 => (some (r_11, x33_12))) else (if v2.toInt = 4 then (bd2 (fX11_isFastNow x17 x18 x23 x25 x26 v1 x33) fun r_15 x33_16 => (if r_15 = 0 then (some (0, x33_16)) else (some (1, x33_16)))) else (some ((-1), x33))))))))
set_option maxHeartbeats 4000000 in
set_option maxRecDepth 100000 in
theorem wX11_house_0 {l : Launch} {b0 : Nat} {D : GD} {K : KT} {n : Nat} {κ : QT} {X0 : XT} {Y0 : YT} {Z : ZT} (hL : LY n κ) (hN : ([17, 18, 23, 24, 25, 26, 33] : List Nat).Nodup) (hM : ([] : List Nat).Nodup) (hC : gC l b0 D K RX11 cX11_house (some FieldType.int) 3 4 104 0 0) {x17 : Nat → Int32} {x18 : Nat → Int32} {x23 : Nat → Int32} {x24 : Nat → Int32} {x25 : Nat → Int32} {x26 : Nat → Int32} {r : Int32} {rx33 : (Nat → Int32)} (hret : ∀ pc loc, narrow .int (.int r) = .int r → decode cX11_house pc = .ok (.ireturn, 1) → gV l b0 D K (n, κ, ov X0 [17, 18, 23, 24, 25, 26, 33] [x17, x18, x23, x24, x25, x26, rx33], ov Y0 [] [], Z, 0, 0) pc loc [.int r]) {v1 : Int32} {v2 : Int32} {x33 : (Nat → Int32)} (hf : fX11_house_0 x17 x18 x23 x24 x25 x26  v1 v2 x33 = some (r, rx33)) : gV l b0 D K (n, κ, ov X0 [17, 18, 23, 24, 25, 26, 33] [x17, x18, x23, x24, x25, x26, x33], ov Y0 [] [], Z, 0, 0) 0 [(0, .ref (b0 + 0)), (1, .int v1), (2, .int v2)] [] := by
  unfold fX11_house_0 at hf
  refine g_aload_n hC 0 dX11_house_0 rfl rfl ?_
  refine g_iload_n hC 1 dX11_house_1 rfl rfl ?_
  obtain ⟨r_1, q_2, hf⟩ := bd1E hf
  refine g_callV_i (a := 0) hC (X' := ov X0 [17, 18, 23, 24, 25, 26, 33] [x17, x18, x23, x24, x25, x26, x33]) (Y' := ov Y0 [] []) (As := [.int v1]) (gMi_eq (c_X11_isHouse l hL (ov_map hN [0] (by rfl) (by rfl)) (ov_map hM [] (by rfl) (by rfl)) q_2) (ov_ovE hN (by rfl) [0] [1, 2, 3, 4, 5, 6] (by rfl) (by rfl) [x18, x23, x24, x25, x26, x33] (by rfl) (by rfl) (by rfl) 7 (by rfl) (by decide)) (ov_ovE hM (by rfl) [] [] (by rfl) (by rfl) [] (by rfl) (by rfl) (by rfl) 0 (by rfl) (by decide))) tw_790 tw_787 tw_116 tw_789 tw_21 (ci := 11) rfl (by decide) (kk_0 hL) (kn_0 hL) pd_X11_isHouse (by decide) (by decide) rfl rfl (Nat.le_of_ble_eq_true rfl) rfl dX11_house_2 ?_
  refine g_if_ne hC 10 dX11_house_5 (by decide) (fun hc => ?_) (fun hc => ?_)
  · replace hf := ifF hf hc
    refine g_iload_n hC 2 dX11_house_10 rfl rfl ?_
    by_cases c_3 : v2.toInt = 0
    · replace hf := ifT hf c_3
      refine g_tabIn hC 44 dX11_house_11 (by omega) (by omega) (by rw [c_3]; rfl) (by decide) ?_
      refine g_aload_n hC 0 dX11_house_44 rfl rfl ?_
      refine gt_X11_41 hC (a := 0) (kk_0 hL) (kn_0 hL) dX11_house_45 ?_
      refine g_ref (b := 16) rfl ?_
      refine gt_X11_140 hC (a := 16) (kk_16 hL) (kn_16 hL) dX11_house_48 ?_
      refine g_ref (b := 23) rfl ?_
      refine gt_X11_143 hC (a := 23) (kk_23 hL) (kn_23 hL) dX11_house_51 ?_
      refine g_ref (b := 24) rfl ?_
      refine g_iload_n hC 1 dX11_house_54 rfl rfl ?_
      obtain ⟨h_4, hf⟩ := gdE hf
      refine g_iald hC (x := x24) (kk_24 hL) (kn_24 hL) (ov_get hN 3 rfl rfl) (inb_in h_4) dX11_house_55 ?_
      obtain ⟨rfl, rfl⟩ := sm2E hf
      exact hret _ _ rfl dX11_house_56
    replace hf := ifF hf c_3
    by_cases c_5 : v2.toInt = 1
    · replace hf := ifT hf c_5
      refine g_tabIn hC 57 dX11_house_11 (by omega) (by omega) (by rw [c_5]; rfl) (by decide) ?_
      refine g_aload_n hC 0 dX11_house_57 rfl rfl ?_
      refine gt_X11_41 hC (a := 0) (kk_0 hL) (kn_0 hL) dX11_house_58 ?_
      refine g_ref (b := 16) rfl ?_
      refine gt_X11_140 hC (a := 16) (kk_16 hL) (kn_16 hL) dX11_house_61 ?_
      refine g_ref (b := 23) rfl ?_
      refine gt_X11_146 hC (a := 23) (kk_23 hL) (kn_23 hL) dX11_house_64 ?_
      refine g_ref (b := 25) rfl ?_
      refine g_iload_n hC 1 dX11_house_67 rfl rfl ?_
      obtain ⟨h_6, hf⟩ := gdE hf
      refine g_iald hC (x := x25) (kk_25 hL) (kn_25 hL) (ov_get hN 4 rfl rfl) (inb_in h_6) dX11_house_68 ?_
      obtain ⟨rfl, rfl⟩ := sm2E hf
      exact hret _ _ rfl dX11_house_69
    replace hf := ifF hf c_5
    by_cases c_7 : v2.toInt = 2
    · replace hf := ifT hf c_7
      refine g_tabIn hC 70 dX11_house_11 (by omega) (by omega) (by rw [c_7]; rfl) (by decide) ?_
      refine g_aload_n hC 0 dX11_house_70 rfl rfl ?_
      refine gt_X11_41 hC (a := 0) (kk_0 hL) (kn_0 hL) dX11_house_71 ?_
      refine g_ref (b := 16) rfl ?_
      refine gt_X11_140 hC (a := 16) (kk_16 hL) (kn_16 hL) dX11_house_74 ?_
      refine g_ref (b := 23) rfl ?_
      refine g_iload_n hC 1 dX11_house_77 rfl rfl ?_
      obtain ⟨r_8, q_9, hf⟩ := bd1E hf
      refine g_callV_i (a := 23) hC (X' := ov X0 [17, 18, 23, 24, 25, 26, 33] [x17, x18, x23, x24, x25, x26, x33]) (Y' := ov Y0 [] []) (As := [.int v1]) (gMi_eq (c_X7_pouredTo l hL (kk_23 hL) (kn_23 hL) (nd_sub hN [5] (by decide) (by rfl)) (nd_sub hM [] (by decide) (by rfl)) (ov_map hN [5] (by rfl) (by rfl)) (ov_map hM [] (by rfl) (by rfl)) q_9) (ov_ovE hN (by rfl) [5] [0, 1, 2, 3, 4, 6] (by rfl) (by rfl) [x17, x18, x23, x24, x25, x33] (by rfl) (by rfl) (by rfl) 7 (by rfl) (by decide)) (ov_ovE hM (by rfl) [] [] (by rfl) (by rfl) [] (by rfl) (by rfl) (by rfl) 0 (by rfl) (by decide))) tw_794 tw_791 tw_120 tw_792 tw_793 (ci := 7) rfl (by decide) (kk_23 hL) (kn_23 hL) pd_X7_pouredTo (by decide) (by decide) rfl rfl (Nat.le_of_ble_eq_true rfl) rfl dX11_house_78 ?_
      obtain ⟨rfl, rfl⟩ := sm2E hf
      exact hret _ _ rfl dX11_house_81
    replace hf := ifF hf c_7
    by_cases c_10 : v2.toInt = 3
    · replace hf := ifT hf c_10
      refine g_tabIn hC 82 dX11_house_11 (by omega) (by omega) (by rw [c_10]; rfl) (by decide) ?_
      refine g_aload_n hC 0 dX11_house_82 rfl rfl ?_
      refine g_iload_n hC 1 dX11_house_83 rfl rfl ?_
      obtain ⟨r_11, x33_12, q_13, hf⟩ := bd2E hf
      refine g_callV_i (a := 0) hC (X' := ov X0 [17, 18, 23, 24, 25, 26, 33] [x17, x18, x23, x24, x25, x26, x33_12]) (Y' := ov Y0 [] []) (As := [.int v1]) (gMi_eq (c_X11_blockNow l hL (ov_map hN [0, 1, 2, 5, 6] (by rfl) (by rfl)) (ov_map hM [] (by rfl) (by rfl)) q_13) (ov_ovE hN (by rfl) [0, 1, 2, 5, 6] [3, 4] (by rfl) (by rfl) [x24, x25] (by rfl) (by rfl) (by rfl) 7 (by rfl) (by decide)) (ov_ovE hM (by rfl) [] [] (by rfl) (by rfl) [] (by rfl) (by rfl) (by rfl) 0 (by rfl) (by decide))) tw_802 tw_799 tw_116 tw_801 tw_22 (ci := 11) rfl (by decide) (kk_0 hL) (kn_0 hL) pd_X11_blockNow (by decide) (by decide) rfl rfl (Nat.le_of_ble_eq_true rfl) rfl dX11_house_84 ?_
      obtain ⟨rfl, rfl⟩ := sm2E hf
      exact hret _ _ rfl dX11_house_87
    replace hf := ifF hf c_10
    by_cases c_14 : v2.toInt = 4
    · replace hf := ifT hf c_14
      refine g_tabIn hC 88 dX11_house_11 (by omega) (by omega) (by rw [c_14]; rfl) (by decide) ?_
      refine g_aload_n hC 0 dX11_house_88 rfl rfl ?_
      refine g_iload_n hC 1 dX11_house_89 rfl rfl ?_
      obtain ⟨r_15, x33_16, q_17, hf⟩ := bd2E hf
      refine g_callV_i (a := 0) hC (X' := ov X0 [17, 18, 23, 24, 25, 26, 33] [x17, x18, x23, x24, x25, x26, x33_16]) (Y' := ov Y0 [] []) (As := [.int v1]) (gMi_eq (c_X11_isFastNow l hL (ov_map hN [0, 1, 2, 4, 5, 6] (by rfl) (by rfl)) (ov_map hM [] (by rfl) (by rfl)) q_17) (ov_ovE hN (by rfl) [0, 1, 2, 4, 5, 6] [3] (by rfl) (by rfl) [x24] (by rfl) (by rfl) (by rfl) 7 (by rfl) (by decide)) (ov_ovE hM (by rfl) [] [] (by rfl) (by rfl) [] (by rfl) (by rfl) (by rfl) 0 (by rfl) (by decide))) tw_829 tw_826 tw_116 tw_828 tw_23 (ci := 11) rfl (by decide) (kk_0 hL) (kn_0 hL) pd_X11_isFastNow (by decide) (by decide) rfl rfl (Nat.le_of_ble_eq_true rfl) rfl dX11_house_90 ?_
      refine g_if_eq hC 100 dX11_house_93 (by decide) (fun hc => ?_) (fun hc => ?_)
      · replace hf := ifT hf hc
        refine g_iconst hC (v := 0) dX11_house_100 ic_0 ?_
        obtain ⟨rfl, rfl⟩ := sm2E hf
        exact hret _ _ rfl dX11_house_101
      · replace hf := ifF hf hc
        refine g_iconst hC (v := 1) dX11_house_96 ic_1 ?_
        refine g_goto hC 101 dX11_house_97 (by decide) ?_
        obtain ⟨rfl, rfl⟩ := sm2E hf
        exact hret _ _ rfl dX11_house_101
    replace hf := ifF hf c_14
    refine g_tabOut hC 102 dX11_house_11 (by omega) (by decide) ?_
    refine g_iconst hC (v := (-1)) dX11_house_102 ic_m1 ?_
    obtain ⟨rfl, rfl⟩ := sm2E hf
    exact hret _ _ rfl dX11_house_103
  · replace hf := ifT hf hc
    refine g_iconst hC (v := (-1)) dX11_house_8 ic_m1 ?_
    obtain ⟨rfl, rfl⟩ := sm2E hf
    exact hret _ _ rfl dX11_house_9

def fX11_house   (x17 : Nat → Int32) (x18 : Nat → Int32) (x23 : Nat → Int32) (x24 : Nat → Int32) (x25 : Nat → Int32) (x26 : Nat → Int32)  (v1 : Int32) (v2 : Int32) (x33 : Nat → Int32)  : Option (Int32 × (Nat → Int32)) := fX11_house_0 x17 x18 x23 x24 x25 x26 v1 v2 x33

set_option maxHeartbeats 4000000 in
set_option maxRecDepth 100000 in
theorem c_X11_house (l : Launch) {b0 : Nat} {D : GD} {n : Nat} {κ : QT} {X0 : XT} {Y0 : YT} {Z : ZT} (hL : LY n κ) {x17 : Nat → Int32} {x18 : Nat → Int32} {x23 : Nat → Int32} {x24 : Nat → Int32} {x25 : Nat → Int32} {x26 : Nat → Int32} {x33 : Nat → Int32} (hx : ([17, 18, 23, 24, 25, 26, 33] : List Nat).map X0 = [x17, x18, x23, x24, x25, x26, x33]) (hy : ([] : List Nat).map Y0 = []) {v1 : Int32} {v2 : Int32} {r : Int32} {rx33 : (Nat → Int32)} (hf : fX11_house x17 x18 x23 x24 x25 x26 v1 v2 x33 = some (r, rx33)) : gMi l yX11_house cX11_house 3 (some FieldType.int) 4 104 0 0 b0 D [.ref (b0 + 0), .int v1, .int v2] (n, κ, X0, Y0, Z) (n, κ, ov X0 [17, 18, 23, 24, 25, 26, 33] [x17, x18, x23, x24, x25, x26, rx33], ov Y0 [] [], Z) r := by
  have hN : ([17, 18, 23, 24, 25, 26, 33] : List Nat).Nodup := by decide
  have hM : ([] : List Nat).Nodup := by decide
  refine g_meti (own := RX11) (by decide) rfl rfl (Nat.le_of_ble_eq_true rfl) ?_
  intro K hC hret
  have e := wX11_house_0 hL hN hM hC  hret hf
  rw [ov_id' hx, ov_id' hy] at e
  exact g_sub [0, 1, 2] rfl e

-- X11_pourOf
def fX11_pourOf_0   (x17 : Nat → Int32) (x26 : Nat → Int32)  (v1 : Int32) (v2 : Int32) : Option (Int32) := bd1 (fX11_areTwo x17 v1 v2) fun r_1 => (if r_1 = 0 then (some (-1)) else (bd1 (fX7_hardOf x26 v1 v2) fun r_3 => (some r_3)))
set_option maxHeartbeats 4000000 in
set_option maxRecDepth 100000 in
theorem wX11_pourOf_0 {l : Launch} {b0 : Nat} {D : GD} {K : KT} {n : Nat} {κ : QT} {X0 : XT} {Y0 : YT} {Z : ZT} (hL : LY n κ) (hN : ([17, 26] : List Nat).Nodup) (hM : ([] : List Nat).Nodup) (hC : gC l b0 D K RX11 cX11_pourOf (some FieldType.int) 3 2 43 0 0) {x17 : Nat → Int32} {x26 : Nat → Int32} {r : Int32} (hret : ∀ pc loc, narrow .int (.int r) = .int r → decode cX11_pourOf pc = .ok (.ireturn, 1) → gV l b0 D K (n, κ, ov X0 [17, 26] [x17, x26], ov Y0 [] [], Z, 0, 0) pc loc [.int r]) {v1 : Int32} {v2 : Int32} (hf : fX11_pourOf_0 x17 x26  v1 v2 = some r) : gV l b0 D K (n, κ, ov X0 [17, 26] [x17, x26], ov Y0 [] [], Z, 0, 0) 0 [(0, .ref (b0 + 0)), (1, .int v1), (2, .int v2)] [] := by
  unfold fX11_pourOf_0 at hf
  refine g_aload_n hC 0 dX11_pourOf_0 rfl rfl ?_
  refine g_iload_n hC 1 dX11_pourOf_1 rfl rfl ?_
  refine g_iload_n hC 2 dX11_pourOf_2 rfl rfl ?_
  obtain ⟨r_1, q_2, hf⟩ := bd1E hf
  refine g_callV_i (a := 0) hC (X' := ov X0 [17, 26] [x17, x26]) (Y' := ov Y0 [] []) (As := [.int v1, .int v2]) (gMi_eq (c_X11_areTwo l hL (ov_map hN [0] (by rfl) (by rfl)) (ov_map hM [] (by rfl) (by rfl)) q_2) (ov_ovE hN (by rfl) [0] [1] (by rfl) (by rfl) [x26] (by rfl) (by rfl) (by rfl) 2 (by rfl) (by decide)) (ov_ovE hM (by rfl) [] [] (by rfl) (by rfl) [] (by rfl) (by rfl) (by rfl) 0 (by rfl) (by decide))) tw_841 tw_838 tw_116 tw_840 tw_24 (ci := 11) rfl (by decide) (kk_0 hL) (kn_0 hL) pd_X11_areTwo (by decide) (by decide) rfl rfl (Nat.le_of_ble_eq_true rfl) rfl dX11_pourOf_3 ?_
  refine g_if_eq hC 24 dX11_pourOf_6 (by decide) (fun hc => ?_) (fun hc => ?_)
  · replace hf := ifT hf hc
    refine g_iconst hC (v := (-1)) dX11_pourOf_24 ic_m1 ?_
    obtain rfl := sm1E hf
    exact hret _ _ rfl dX11_pourOf_25
  · replace hf := ifF hf hc
    refine g_aload_n hC 0 dX11_pourOf_9 rfl rfl ?_
    refine gt_X11_41 hC (a := 0) (kk_0 hL) (kn_0 hL) dX11_pourOf_10 ?_
    refine g_ref (b := 16) rfl ?_
    refine gt_X11_140 hC (a := 16) (kk_16 hL) (kn_16 hL) dX11_pourOf_13 ?_
    refine g_ref (b := 23) rfl ?_
    refine g_iload_n hC 1 dX11_pourOf_16 rfl rfl ?_
    refine g_iload_n hC 2 dX11_pourOf_17 rfl rfl ?_
    obtain ⟨r_3, q_4, hf⟩ := bd1E hf
    refine g_callV_i (a := 23) hC (X' := ov X0 [17, 26] [x17, x26]) (Y' := ov Y0 [] []) (As := [.int v1, .int v2]) (gMi_eq (c_X7_hardOf l hL (kk_23 hL) (kn_23 hL) (nd_sub hN [1] (by decide) (by rfl)) (nd_sub hM [] (by decide) (by rfl)) (ov_map hN [1] (by rfl) (by rfl)) (ov_map hM [] (by rfl) (by rfl)) q_4) (ov_ovE hN (by rfl) [1] [0] (by rfl) (by rfl) [x17] (by rfl) (by rfl) (by rfl) 2 (by rfl) (by decide)) (ov_ovE hM (by rfl) [] [] (by rfl) (by rfl) [] (by rfl) (by rfl) (by rfl) 0 (by rfl) (by decide))) tw_845 tw_842 tw_120 tw_843 tw_844 (ci := 7) rfl (by decide) (kk_23 hL) (kn_23 hL) pd_X7_hardOf (by decide) (by decide) rfl rfl (Nat.le_of_ble_eq_true rfl) rfl dX11_pourOf_18 ?_
    refine g_goto hC 25 dX11_pourOf_21 (by decide) ?_
    obtain rfl := sm1E hf
    exact hret _ _ rfl dX11_pourOf_25

def fX11_pourOf   (x17 : Nat → Int32) (x26 : Nat → Int32)  (v1 : Int32) (v2 : Int32)   : Option (Int32) := fX11_pourOf_0 x17 x26 v1 v2

set_option maxHeartbeats 4000000 in
set_option maxRecDepth 100000 in
theorem c_X11_pourOf (l : Launch) {b0 : Nat} {D : GD} {n : Nat} {κ : QT} {X0 : XT} {Y0 : YT} {Z : ZT} (hL : LY n κ) {x17 : Nat → Int32} {x26 : Nat → Int32} (hx : ([17, 26] : List Nat).map X0 = [x17, x26]) (hy : ([] : List Nat).map Y0 = []) {v1 : Int32} {v2 : Int32} {r : Int32} (hf : fX11_pourOf x17 x26 v1 v2 = some r) : gMi l yX11_pourOf cX11_pourOf 3 (some FieldType.int) 2 43 0 0 b0 D [.ref (b0 + 0), .int v1, .int v2] (n, κ, X0, Y0, Z) (n, κ, ov X0 [17, 26] [x17, x26], ov Y0 [] [], Z) r := by
  have hN : ([17, 26] : List Nat).Nodup := by decide
  have hM : ([] : List Nat).Nodup := by decide
  refine g_meti (own := RX11) (by decide) rfl rfl (Nat.le_of_ble_eq_true rfl) ?_
  intro K hC hret
  have e := wX11_pourOf_0 hL hN hM hC  hret hf
  rw [ov_id' hx, ov_id' hy] at e
  exact g_sub [0, 1, 2] rfl e

-- X11_canPour
def fX11_canPour_86   (x17 : Nat → Int32) (x24 : Nat → Int32) (x26 : Nat → Int32)   : Option (Int32) := some 0
set_option maxHeartbeats 4000000 in
set_option maxRecDepth 100000 in
theorem wX11_canPour_86 {l : Launch} {b0 : Nat} {D : GD} {K : KT} {n : Nat} {κ : QT} {X0 : XT} {Y0 : YT} {Z : ZT} (hL : LY n κ) (hN : ([17, 24, 26] : List Nat).Nodup) (hM : ([] : List Nat).Nodup) (hC : gC l b0 D K RX11 cX11_canPour (some FieldType.boolean) 5 1 40 0 0) {x17 : Nat → Int32} {x24 : Nat → Int32} {x26 : Nat → Int32} {r : Int32} (hret : ∀ pc loc, narrow .boolean (.int r) = .int r → decode cX11_canPour pc = .ok (.ireturn, 1) → gV l b0 D K (n, κ, ov X0 [17, 24, 26] [x17, x24, x26], ov Y0 [] [], Z, 0, 0) pc loc [.int r])  (hf : fX11_canPour_86 x17 x24 x26   = some r) : gV l b0 D K (n, κ, ov X0 [17, 24, 26] [x17, x24, x26], ov Y0 [] [], Z, 0, 0) 86 [] [] := by
  unfold fX11_canPour_86 at hf
  refine g_iconst hC (v := 0) dX11_canPour_86 ic_0 ?_
  obtain rfl := sm1E hf
  exact hret _ _ rfl dX11_canPour_87

def fX11_canPour_0   (x17 : Nat → Int32) (x24 : Nat → Int32) (x26 : Nat → Int32)  (v1 : Int32) (v2 : Int32) : Option (Int32) := gd (inb v1 6) (bn (x24 v1.toNatClampNeg) fun t_2 => (gd (inb v2 6) (bn (x24 v2.toNatClampNeg) fun t_4 => (bd1 (fX7_hardOf x26 v1 v2) fun r_5 => (if r_5 = 0 then (if (x17 0) ≤ t_2 then (fX11_canPour_86 x17 x24 x26  ) else (if (x17 0) ≤ t_4 then (fX11_canPour_86 x17 x24 x26  ) else (if 3 < (if 0 ≤ (t_2 - t_4) then (t_2 - t_4) else 0 - (t_2 - t_4)) then (fX11_canPour_86 x17 x24 x26  ) else (some 1)))) else (fX11_canPour_86 x17 x24 x26  ))))))
set_option maxHeartbeats 4000000 in
set_option maxRecDepth 100000 in
theorem wX11_canPour_0 {l : Launch} {b0 : Nat} {D : GD} {K : KT} {n : Nat} {κ : QT} {X0 : XT} {Y0 : YT} {Z : ZT} (hL : LY n κ) (hN : ([17, 24, 26] : List Nat).Nodup) (hM : ([] : List Nat).Nodup) (hC : gC l b0 D K RX11 cX11_canPour (some FieldType.boolean) 5 1 40 0 0) {x17 : Nat → Int32} {x24 : Nat → Int32} {x26 : Nat → Int32} {r : Int32} (hret : ∀ pc loc, narrow .boolean (.int r) = .int r → decode cX11_canPour pc = .ok (.ireturn, 1) → gV l b0 D K (n, κ, ov X0 [17, 24, 26] [x17, x24, x26], ov Y0 [] [], Z, 0, 0) pc loc [.int r]) {v1 : Int32} {v2 : Int32} (hf : fX11_canPour_0 x17 x24 x26  v1 v2 = some r) : gV l b0 D K (n, κ, ov X0 [17, 24, 26] [x17, x24, x26], ov Y0 [] [], Z, 0, 0) 0 [(0, .ref (b0 + 0)), (1, .int v1), (2, .int v2)] [] := by
  unfold fX11_canPour_0 at hf
  refine g_aload_n hC 0 dX11_canPour_0 rfl rfl ?_
  refine gt_X11_41 hC (a := 0) (kk_0 hL) (kn_0 hL) dX11_canPour_1 ?_
  refine g_ref (b := 16) rfl ?_
  refine gt_X11_140 hC (a := 16) (kk_16 hL) (kn_16 hL) dX11_canPour_4 ?_
  refine g_ref (b := 23) rfl ?_
  refine gt_X11_143 hC (a := 23) (kk_23 hL) (kn_23 hL) dX11_canPour_7 ?_
  refine g_ref (b := 24) rfl ?_
  refine g_iload_n hC 1 dX11_canPour_10 rfl rfl ?_
  obtain ⟨h_1, hf⟩ := gdE hf
  refine g_iald hC (x := x24) (kk_24 hL) (kn_24 hL) (ov_get hN 1 rfl rfl) (inb_in h_1) dX11_canPour_11 ?_
  obtain ⟨t_2, et_2, hf⟩ := bnE hf
  refine g_topi et_2 ?_
  refine g_istore_n hC (i := 3) [(3, .int t_2), (0, .ref (b0 + 0)), (1, .int v1), (2, .int v2)] rfl dX11_canPour_12 (by decide) rfl ?_
  refine g_aload_n hC 1 dX11_canPour_13 rfl rfl ?_
  refine gt_X11_41 hC (a := 0) (kk_0 hL) (kn_0 hL) dX11_canPour_14 ?_
  refine g_ref (b := 16) rfl ?_
  refine gt_X11_140 hC (a := 16) (kk_16 hL) (kn_16 hL) dX11_canPour_17 ?_
  refine g_ref (b := 23) rfl ?_
  refine gt_X11_143 hC (a := 23) (kk_23 hL) (kn_23 hL) dX11_canPour_20 ?_
  refine g_ref (b := 24) rfl ?_
  refine g_iload_n hC 3 dX11_canPour_23 rfl rfl ?_
  obtain ⟨h_3, hf⟩ := gdE hf
  refine g_iald hC (x := x24) (kk_24 hL) (kn_24 hL) (ov_get hN 1 rfl rfl) (inb_in h_3) dX11_canPour_24 ?_
  obtain ⟨t_4, et_4, hf⟩ := bnE hf
  refine g_topi et_4 ?_
  refine g_istore hC (i := 4) [(4, .int t_4), (3, .int t_2), (0, .ref (b0 + 0)), (1, .int v1), (2, .int v2)] dX11_canPour_25 (by decide) rfl ?_
  refine g_aload_n hC 2 dX11_canPour_27 rfl rfl ?_
  refine gt_X11_41 hC (a := 0) (kk_0 hL) (kn_0 hL) dX11_canPour_28 ?_
  refine g_ref (b := 16) rfl ?_
  refine gt_X11_140 hC (a := 16) (kk_16 hL) (kn_16 hL) dX11_canPour_31 ?_
  refine g_ref (b := 23) rfl ?_
  refine g_iload_n hC 3 dX11_canPour_34 rfl rfl ?_
  refine g_iload_n hC 4 dX11_canPour_35 rfl rfl ?_
  obtain ⟨r_5, q_6, hf⟩ := bd1E hf
  refine g_callV_i (a := 23) hC (X' := ov X0 [17, 24, 26] [x17, x24, x26]) (Y' := ov Y0 [] []) (As := [.int v1, .int v2]) (gMi_eq (c_X7_hardOf l hL (kk_23 hL) (kn_23 hL) (nd_sub hN [2] (by decide) (by rfl)) (nd_sub hM [] (by decide) (by rfl)) (ov_map hN [2] (by rfl) (by rfl)) (ov_map hM [] (by rfl) (by rfl)) q_6) (ov_ovE hN (by rfl) [2] [0, 1] (by rfl) (by rfl) [x17, x24] (by rfl) (by rfl) (by rfl) 3 (by rfl) (by decide)) (ov_ovE hM (by rfl) [] [] (by rfl) (by rfl) [] (by rfl) (by rfl) (by rfl) 0 (by rfl) (by decide))) tw_845 tw_842 tw_120 tw_843 tw_844 (ci := 7) rfl (by decide) (kk_23 hL) (kn_23 hL) pd_X7_hardOf (by decide) (by decide) rfl rfl (Nat.le_of_ble_eq_true rfl) rfl dX11_canPour_36 ?_
  refine g_if_ne hC 86 dX11_canPour_39 (by decide) (fun hc => ?_) (fun hc => ?_)
  · replace hf := ifF hf hc
    exact g_sub [] rfl (wX11_canPour_86 hL hN hM hC  hret  hf)
  · replace hf := ifT hf hc
    refine g_iload_n hC 1 dX11_canPour_42 rfl rfl ?_
    refine g_aload_n hC 2 dX11_canPour_43 rfl rfl ?_
    refine gt_X11_41 hC (a := 0) (kk_0 hL) (kn_0 hL) dX11_canPour_44 ?_
    refine g_ref (b := 16) rfl ?_
    refine gt_X11_51 hC (a := 16) (kk_16 hL) (kn_16 hL) dX11_canPour_47 ?_
    refine g_ref (b := 17) rfl ?_
    refine gt_X11_202 hC (x := x17) (kk_17 hL) (kn_17 hL) (ov_get hN 0 rfl rfl) dX11_canPour_50 ?_
    refine g_icmp_ge hC 86 dX11_canPour_53 (by decide) (fun hc => ?_) (fun hc => ?_)
    · replace hf := ifT hf hc
      exact g_sub [] rfl (wX11_canPour_86 hL hN hM hC  hret  hf)
    · replace hf := ifF hf hc
      refine g_iload hC 0 dX11_canPour_56 rfl ?_
      refine g_aload_n hC 2 dX11_canPour_58 rfl rfl ?_
      refine gt_X11_41 hC (a := 0) (kk_0 hL) (kn_0 hL) dX11_canPour_59 ?_
      refine g_ref (b := 16) rfl ?_
      refine gt_X11_51 hC (a := 16) (kk_16 hL) (kn_16 hL) dX11_canPour_62 ?_
      refine g_ref (b := 17) rfl ?_
      refine gt_X11_202 hC (x := x17) (kk_17 hL) (kn_17 hL) (ov_get hN 0 rfl rfl) dX11_canPour_65 ?_
      refine g_icmp_ge hC 86 dX11_canPour_68 (by decide) (fun hc => ?_) (fun hc => ?_)
      · replace hf := ifT hf hc
        exact g_sub [] rfl (wX11_canPour_86 hL hN hM hC  hret  hf)
      · replace hf := ifF hf hc
        refine g_iload_n hC 1 dX11_canPour_71 rfl rfl ?_
        refine g_iload hC 0 dX11_canPour_72 rfl ?_
        refine g_isub hC dX11_canPour_74 ?_
        refine g_mabs hC tw_955 (by decide) (Nat.le_of_ble_eq_true rfl) dX11_canPour_75 ?_
        refine g_iconst hC (v := 3) dX11_canPour_78 ic_3 ?_
        refine g_icmp_gt hC 86 dX11_canPour_79 (by decide) (fun hc => ?_) (fun hc => ?_)
        · replace hf := ifT hf hc
          exact g_sub [] rfl (wX11_canPour_86 hL hN hM hC  hret  hf)
        · replace hf := ifF hf hc
          refine g_iconst hC (v := 1) dX11_canPour_82 ic_1 ?_
          refine g_goto hC 87 dX11_canPour_83 (by decide) ?_
          obtain rfl := sm1E hf
          exact hret _ _ rfl dX11_canPour_87

def fX11_canPour   (x17 : Nat → Int32) (x24 : Nat → Int32) (x26 : Nat → Int32)  (v1 : Int32) (v2 : Int32)   : Option (Int32) := fX11_canPour_0 x17 x24 x26 v1 v2

set_option maxHeartbeats 4000000 in
set_option maxRecDepth 100000 in
theorem c_X11_canPour (l : Launch) {b0 : Nat} {D : GD} {n : Nat} {κ : QT} {X0 : XT} {Y0 : YT} {Z : ZT} (hL : LY n κ) {x17 : Nat → Int32} {x24 : Nat → Int32} {x26 : Nat → Int32} (hx : ([17, 24, 26] : List Nat).map X0 = [x17, x24, x26]) (hy : ([] : List Nat).map Y0 = []) {v1 : Int32} {v2 : Int32} {r : Int32} (hf : fX11_canPour x17 x24 x26 v1 v2 = some r) : gMi l yX11_canPour cX11_canPour 5 (some FieldType.boolean) 1 40 0 0 b0 D [.ref (b0 + 0), .int v1, .int v2] (n, κ, X0, Y0, Z) (n, κ, ov X0 [17, 24, 26] [x17, x24, x26], ov Y0 [] [], Z) r := by
  have hN : ([17, 24, 26] : List Nat).Nodup := by decide
  have hM : ([] : List Nat).Nodup := by decide
  refine g_meti (own := RX11) (by decide) rfl rfl (Nat.le_of_ble_eq_true rfl) ?_
  intro K hC hret
  have e := wX11_canPour_0 hL hN hM hC  hret hf
  rw [ov_id' hx, ov_id' hy] at e
  exact g_sub [0, 1, 2] rfl e

-- X11_poursAcross
def fX11_poursAcross_47   (x17 : Nat → Int32) (x26 : Nat → Int32)  (k4 : Int32 → Int32 → Int32 → Option (Int32)) (v1 : Int32) (v2 : Int32) (v3 : Int32) : Option (Int32) := bn (v3 + 1) fun t_1 => (k4 v1 v2 t_1)
set_option maxHeartbeats 4000000 in
set_option maxRecDepth 100000 in
theorem wX11_poursAcross_47 {l : Launch} {b0 : Nat} {D : GD} {K : KT} {n : Nat} {κ : QT} {X0 : XT} {Y0 : YT} {Z : ZT} (hL : LY n κ) (hN : ([17, 26] : List Nat).Nodup) (hM : ([] : List Nat).Nodup) (hC : gC l b0 D K RX11 cX11_poursAcross (some FieldType.int) 4 2 45 0 0) {x17 : Nat → Int32} {x26 : Nat → Int32} {r : Int32} (hret : ∀ pc loc, narrow .int (.int r) = .int r → decode cX11_poursAcross pc = .ok (.ireturn, 1) → gV l b0 D K (n, κ, ov X0 [17, 26] [x17, x26], ov Y0 [] [], Z, 0, 0) pc loc [.int r]) {k4 : Int32 → Int32 → Int32 → Option (Int32)} (hk4 : ∀ (v1 : Int32) (v2 : Int32) (v3 : Int32), k4 v1 v2 v3 = some r → gV l b0 D K (n, κ, ov X0 [17, 26] [x17, x26], ov Y0 [] [], Z, 0, 0) 4 [(0, .ref (b0 + 0)), (1, .int v1), (2, .int v2), (3, .int v3)] []) {v1 : Int32} {v2 : Int32} {v3 : Int32} (hf : fX11_poursAcross_47 x17 x26 k4 v1 v2 v3 = some r) : gV l b0 D K (n, κ, ov X0 [17, 26] [x17, x26], ov Y0 [] [], Z, 0, 0) 47 [(0, .ref (b0 + 0)), (1, .int v1), (2, .int v2), (3, .int v3)] [] := by
  unfold fX11_poursAcross_47 at hf
  obtain ⟨t_1, et_1, hf⟩ := bnE hf
  refine g_iinc hC (i := 3) (v := t_1) [(3, .int t_1), (0, .ref (b0 + 0)), (1, .int v1), (2, .int v2)] dX11_poursAcross_47 (q := 3) rfl ((congrArg (HAdd.hAdd v3) ic_1).trans et_1.symm) (by decide) rfl ?_
  refine g_goto hC 4 dX11_poursAcross_50 (by decide) ?_
  exact g_sub [1, 2, 3, 0] rfl (hk4 v1 v2 t_1 hf)

def fX11_poursAcross_4b   (x17 : Nat → Int32) (x26 : Nat → Int32)  (k4 : Int32 → Int32 → Int32 → Option (Int32)) (v1 : Int32) (v2 : Int32) (v3 : Int32) : Option (Int32) := if (x17 4) ≤ v3 then (some v2) else (bd1 (fX11_hasBit v1 v3) fun r_1 => (if r_1 = 0 then (fX11_poursAcross_47 x17 x26 k4 v1 v2 v3) else (bd1 (fX7_pouredTo x26 v3) fun r_3 => (bd1 (fJ6_bitCount_0f7a4 (r_3 &&& (v1 ^^^ (-1)))) fun r_5 => (bn (v2 + r_5) fun t_7 => (fX11_poursAcross_47 x17 x26 k4 v1 t_7 v3))))))
def fX11_poursAcross_4   (x17 : Nat → Int32) (x26 : Nat → Int32)  : Int32 → Int32 → Int32 → Option (Int32) := lq3 (fX11_poursAcross_4b x17 x26 ) 5000
set_option maxHeartbeats 4000000 in
set_option maxRecDepth 100000 in
theorem wX11_poursAcross_4 {l : Launch} {b0 : Nat} {D : GD} {K : KT} {n : Nat} {κ : QT} {X0 : XT} {Y0 : YT} {Z : ZT} (hL : LY n κ) (hN : ([17, 26] : List Nat).Nodup) (hM : ([] : List Nat).Nodup) (hC : gC l b0 D K RX11 cX11_poursAcross (some FieldType.int) 4 2 45 0 0) {x17 : Nat → Int32} {x26 : Nat → Int32} {r : Int32} (hret : ∀ pc loc, narrow .int (.int r) = .int r → decode cX11_poursAcross pc = .ok (.ireturn, 1) → gV l b0 D K (n, κ, ov X0 [17, 26] [x17, x26], ov Y0 [] [], Z, 0, 0) pc loc [.int r]) : ∀ (j : Nat) (v1 : Int32) (v2 : Int32) (v3 : Int32), lq3 (fX11_poursAcross_4b x17 x26 ) j v1 v2 v3 = some r → gV l b0 D K (n, κ, ov X0 [17, 26] [x17, x26], ov Y0 [] [], Z, 0, 0) 4 [(0, .ref (b0 + 0)), (1, .int v1), (2, .int v2), (3, .int v3)] [] := by
  intro j
  induction j with
  | zero => intro v1 v2 v3 hf; cases hf
  | succ j hk4 =>
    intro v1 v2 v3 hf
    replace hf : fX11_poursAcross_4b x17 x26  (lq3 (fX11_poursAcross_4b x17 x26 ) j) v1 v2 v3 = some r := hf
    unfold fX11_poursAcross_4b at hf
    refine g_iload_n hC 3 dX11_poursAcross_4 rfl rfl ?_
    refine g_aload_n hC 0 dX11_poursAcross_5 rfl rfl ?_
    refine gt_X11_41 hC (a := 0) (kk_0 hL) (kn_0 hL) dX11_poursAcross_6 ?_
    refine g_ref (b := 16) rfl ?_
    refine gt_X11_51 hC (a := 16) (kk_16 hL) (kn_16 hL) dX11_poursAcross_9 ?_
    refine g_ref (b := 17) rfl ?_
    refine gt_X11_117 hC (x := x17) (kk_17 hL) (kn_17 hL) (ov_get hN 0 rfl rfl) dX11_poursAcross_12 ?_
    refine g_icmp_ge hC 53 dX11_poursAcross_15 (by decide) (fun hc => ?_) (fun hc => ?_)
    · replace hf := ifT hf hc
      refine g_iload_n hC 2 dX11_poursAcross_53 rfl rfl ?_
      obtain rfl := sm1E hf
      exact hret _ _ rfl dX11_poursAcross_54
    · replace hf := ifF hf hc
      refine g_iload_n hC 1 dX11_poursAcross_18 rfl rfl ?_
      refine g_iload_n hC 3 dX11_poursAcross_19 rfl rfl ?_
      obtain ⟨r_1, q_2, hf⟩ := bd1E hf
      refine g_callS_i hC (X' := ov X0 [17, 26] [x17, x26]) (Y' := ov Y0 [] []) (As := [.int v1, .int v3]) (gMi_eq (c_X11_hasBit l hL (ov_map hN [] (by rfl) (by rfl)) (ov_map hM [] (by rfl) (by rfl)) q_2) (ov_ovE hN (by rfl) [] [0, 1] (by rfl) (by rfl) [x17, x26] (by rfl) (by rfl) (by rfl) 2 (by rfl) (by decide)) (ov_ovE hM (by rfl) [] [] (by rfl) (by rfl) [] (by rfl) (by rfl) (by rfl) 0 (by rfl) (by decide))) tw_825 tw_999 tw_116 tw_824 pd_X11_hasBit (by decide) (by decide) rfl rfl (Nat.le_of_ble_eq_true rfl) rfl dX11_poursAcross_20 ?_
      refine g_if_eq hC 47 dX11_poursAcross_23 (by decide) (fun hc => ?_) (fun hc => ?_)
      · replace hf := ifT hf hc
        exact g_sub [0, 1, 2, 3] rfl (wX11_poursAcross_47 hL hN hM hC  hret hk4 hf)
      · replace hf := ifF hf hc
        refine g_iload_n hC 2 dX11_poursAcross_26 rfl rfl ?_
        refine g_aload_n hC 0 dX11_poursAcross_27 rfl rfl ?_
        refine gt_X11_41 hC (a := 0) (kk_0 hL) (kn_0 hL) dX11_poursAcross_28 ?_
        refine g_ref (b := 16) rfl ?_
        refine gt_X11_140 hC (a := 16) (kk_16 hL) (kn_16 hL) dX11_poursAcross_31 ?_
        refine g_ref (b := 23) rfl ?_
        refine g_iload_n hC 3 dX11_poursAcross_34 rfl rfl ?_
        obtain ⟨r_3, q_4, hf⟩ := bd1E hf
        refine g_callV_i (a := 23) hC (X' := ov X0 [17, 26] [x17, x26]) (Y' := ov Y0 [] []) (As := [.int v3]) (gMi_eq (c_X7_pouredTo l hL (kk_23 hL) (kn_23 hL) (nd_sub hN [1] (by decide) (by rfl)) (nd_sub hM [] (by decide) (by rfl)) (ov_map hN [1] (by rfl) (by rfl)) (ov_map hM [] (by rfl) (by rfl)) q_4) (ov_ovE hN (by rfl) [1] [0] (by rfl) (by rfl) [x17] (by rfl) (by rfl) (by rfl) 2 (by rfl) (by decide)) (ov_ovE hM (by rfl) [] [] (by rfl) (by rfl) [] (by rfl) (by rfl) (by rfl) 0 (by rfl) (by decide))) tw_794 tw_791 tw_120 tw_792 tw_793 (ci := 7) rfl (by decide) (kk_23 hL) (kn_23 hL) pd_X7_pouredTo (by decide) (by decide) rfl rfl (Nat.le_of_ble_eq_true rfl) rfl dX11_poursAcross_35 ?_
        refine g_iload_n hC 1 dX11_poursAcross_38 rfl rfl ?_
        refine g_iconst hC (v := (-1)) dX11_poursAcross_39 ic_m1 ?_
        refine g_ixor hC dX11_poursAcross_40 ?_
        refine g_iand hC dX11_poursAcross_41 ?_
        obtain ⟨r_5, q_6, hf⟩ := bd1E hf
        refine g_callS_i hC (X' := ov X0 [17, 26] [x17, x26]) (Y' := ov Y0 [] []) (As := [.int (r_3 &&& (v1 ^^^ (-1)))]) (gMi_eq (c_J6_bitCount_0f7a4 l hL (ov_map hN [] (by rfl) (by rfl)) (ov_map hM [] (by rfl) (by rfl)) q_6) (ov_ovE hN (by rfl) [] [0, 1] (by rfl) (by rfl) [x17, x26] (by rfl) (by rfl) (by rfl) 2 (by rfl) (by decide)) (ov_ovE hM (by rfl) [] [] (by rfl) (by rfl) [] (by rfl) (by rfl) (by rfl) 0 (by rfl) (by decide))) tw_922 tw_984 tw_136 tw_921 pd_J6_bitCount_0f7a4 (by decide) (by decide) rfl rfl (Nat.le_of_ble_eq_true rfl) rfl dX11_poursAcross_42 ?_
        refine g_iadd hC dX11_poursAcross_45 ?_
        obtain ⟨t_7, et_7, hf⟩ := bnE hf
        refine g_topi et_7 ?_
        refine g_istore_n hC (i := 2) [(2, .int t_7), (0, .ref (b0 + 0)), (1, .int v1), (3, .int v3)] rfl dX11_poursAcross_46 (by decide) rfl ?_
        exact g_sub [1, 2, 0, 3] rfl (wX11_poursAcross_47 hL hN hM hC  hret hk4 hf)

def fX11_poursAcross_0   (x17 : Nat → Int32) (x26 : Nat → Int32)  (v1 : Int32) : Option (Int32) := fX11_poursAcross_4 x17 x26  v1 0 0
set_option maxHeartbeats 4000000 in
set_option maxRecDepth 100000 in
theorem wX11_poursAcross_0 {l : Launch} {b0 : Nat} {D : GD} {K : KT} {n : Nat} {κ : QT} {X0 : XT} {Y0 : YT} {Z : ZT} (hL : LY n κ) (hN : ([17, 26] : List Nat).Nodup) (hM : ([] : List Nat).Nodup) (hC : gC l b0 D K RX11 cX11_poursAcross (some FieldType.int) 4 2 45 0 0) {x17 : Nat → Int32} {x26 : Nat → Int32} {r : Int32} (hret : ∀ pc loc, narrow .int (.int r) = .int r → decode cX11_poursAcross pc = .ok (.ireturn, 1) → gV l b0 D K (n, κ, ov X0 [17, 26] [x17, x26], ov Y0 [] [], Z, 0, 0) pc loc [.int r]) {v1 : Int32} (hf : fX11_poursAcross_0 x17 x26  v1 = some r) : gV l b0 D K (n, κ, ov X0 [17, 26] [x17, x26], ov Y0 [] [], Z, 0, 0) 0 [(0, .ref (b0 + 0)), (1, .int v1)] [] := by
  unfold fX11_poursAcross_0 at hf
  refine g_iconst hC (v := 0) dX11_poursAcross_0 ic_0 ?_
  refine g_istore_n hC (i := 2) [(2, .int 0), (0, .ref (b0 + 0)), (1, .int v1)] rfl dX11_poursAcross_1 (by decide) rfl ?_
  refine g_iconst hC (v := 0) dX11_poursAcross_2 ic_0 ?_
  refine g_istore_n hC (i := 3) [(3, .int 0), (2, .int 0), (0, .ref (b0 + 0)), (1, .int v1)] rfl dX11_poursAcross_3 (by decide) rfl ?_
  exact g_sub [2, 3, 1, 0] rfl (wX11_poursAcross_4 hL hN hM hC  hret  5000 v1 0 0 hf)

def fX11_poursAcross   (x17 : Nat → Int32) (x26 : Nat → Int32)  (v1 : Int32)   : Option (Int32) := fX11_poursAcross_0 x17 x26 v1

set_option maxHeartbeats 4000000 in
set_option maxRecDepth 100000 in
theorem c_X11_poursAcross (l : Launch) {b0 : Nat} {D : GD} {n : Nat} {κ : QT} {X0 : XT} {Y0 : YT} {Z : ZT} (hL : LY n κ) {x17 : Nat → Int32} {x26 : Nat → Int32} (hx : ([17, 26] : List Nat).map X0 = [x17, x26]) (hy : ([] : List Nat).map Y0 = []) {v1 : Int32} {r : Int32} (hf : fX11_poursAcross x17 x26 v1 = some r) : gMi l yX11_poursAcross cX11_poursAcross 4 (some FieldType.int) 2 45 0 0 b0 D [.ref (b0 + 0), .int v1] (n, κ, X0, Y0, Z) (n, κ, ov X0 [17, 26] [x17, x26], ov Y0 [] [], Z) r := by
  have hN : ([17, 26] : List Nat).Nodup := by decide
  have hM : ([] : List Nat).Nodup := by decide
  refine g_meti (own := RX11) (by decide) rfl rfl (Nat.le_of_ble_eq_true rfl) ?_
  intro K hC hret
  have e := wX11_poursAcross_0 hL hN hM hC  hret hf
  rw [ov_id' hx, ov_id' hy] at e
  exact g_sub [0, 1] rfl e

-- X11_part
def fX11_part_88   (x17 : Nat → Int32) (x26 : Nat → Int32)  (k30 : Int32 → Int32 → Int32 → Int32 → Int32 → Int32 → Option (Int32)) (v1 : Int32) (v2 : Int32) (v3 : Int32) (v4 : Int32) (v5 : Int32) (v6 : Int32) : Option (Int32) := bn (v6 + 1) fun t_1 => (k30 v1 v2 v3 v4 v5 t_1)
set_option maxHeartbeats 4000000 in
set_option maxRecDepth 100000 in
theorem wX11_part_88 {l : Launch} {b0 : Nat} {D : GD} {K : KT} {n : Nat} {κ : QT} {X0 : XT} {Y0 : YT} {Z : ZT} (hL : LY n κ) (hN : ([17, 26] : List Nat).Nodup) (hM : ([] : List Nat).Nodup) (hC : gC l b0 D K RX11 cX11_part (some FieldType.int) 7 3 68 0 0) {x17 : Nat → Int32} {x26 : Nat → Int32} {r : Int32} (hret : ∀ pc loc, narrow .int (.int r) = .int r → decode cX11_part pc = .ok (.ireturn, 1) → gV l b0 D K (n, κ, ov X0 [17, 26] [x17, x26], ov Y0 [] [], Z, 0, 0) pc loc [.int r]) {k30 : Int32 → Int32 → Int32 → Int32 → Int32 → Int32 → Option (Int32)} (hk30 : ∀ (v1 : Int32) (v2 : Int32) (v3 : Int32) (v4 : Int32) (v5 : Int32) (v6 : Int32), k30 v1 v2 v3 v4 v5 v6 = some r → gV l b0 D K (n, κ, ov X0 [17, 26] [x17, x26], ov Y0 [] [], Z, 0, 0) 30 [(0, .ref (b0 + 0)), (1, .int v1), (2, .int v2), (3, .int v3), (4, .int v4), (5, .int v5), (6, .int v6)] []) {v1 : Int32} {v2 : Int32} {v3 : Int32} {v4 : Int32} {v5 : Int32} {v6 : Int32} (hf : fX11_part_88 x17 x26 k30 v1 v2 v3 v4 v5 v6 = some r) : gV l b0 D K (n, κ, ov X0 [17, 26] [x17, x26], ov Y0 [] [], Z, 0, 0) 88 [(0, .ref (b0 + 0)), (1, .int v1), (2, .int v2), (3, .int v3), (4, .int v4), (5, .int v5), (6, .int v6)] [] := by
  unfold fX11_part_88 at hf
  obtain ⟨t_1, et_1, hf⟩ := bnE hf
  refine g_iinc hC (i := 6) (v := t_1) [(6, .int t_1), (0, .ref (b0 + 0)), (1, .int v1), (2, .int v2), (3, .int v3), (4, .int v4), (5, .int v5)] dX11_part_88 (q := 6) rfl ((congrArg (HAdd.hAdd v6) ic_1).trans et_1.symm) (by decide) rfl ?_
  refine g_goto hC 30 dX11_part_91 (by decide) ?_
  exact g_sub [1, 2, 3, 4, 5, 6, 0] rfl (hk30 v1 v2 v3 v4 v5 t_1 hf)

def fX11_part_30b   (x17 : Nat → Int32) (x26 : Nat → Int32)  (k30 : Int32 → Int32 → Int32 → Int32 → Int32 → Int32 → Option (Int32)) (v1 : Int32) (v2 : Int32) (v3 : Int32) (v4 : Int32) (v5 : Int32) (v6 : Int32) : Option (Int32) := if (1 <<< ((x17 4) &&& 31)) ≤ v6 then (if v3 = 0 then (some v4) else (some v5)) else (bd1 (fX11_hasBit v6 v1) fun r_1 => (if r_1 = 0 then (fX11_part_88 x17 x26 k30 v1 v2 v3 v4 v5 v6) else (bd1 (fX11_hasBit v6 v2) fun r_3 => (if r_3 = 0 then (bd1 (fX11_poursAcross x17 x26 v6) fun r_5 => (if v4 ≤ r_5 then (fX11_part_88 x17 x26 k30 v1 v2 v3 v4 v5 v6) else (bd1 (fX11_poursAcross x17 x26 v6) fun r_7 => (fX11_part_88 x17 x26 k30 v1 v2 v3 r_7 v6 v6)))) else (fX11_part_88 x17 x26 k30 v1 v2 v3 v4 v5 v6)))))
def fX11_part_30   (x17 : Nat → Int32) (x26 : Nat → Int32)  : Int32 → Int32 → Int32 → Int32 → Int32 → Int32 → Option (Int32) := lq6 (fX11_part_30b x17 x26 ) 5000
set_option maxHeartbeats 4000000 in
set_option maxRecDepth 100000 in
theorem wX11_part_30 {l : Launch} {b0 : Nat} {D : GD} {K : KT} {n : Nat} {κ : QT} {X0 : XT} {Y0 : YT} {Z : ZT} (hL : LY n κ) (hN : ([17, 26] : List Nat).Nodup) (hM : ([] : List Nat).Nodup) (hC : gC l b0 D K RX11 cX11_part (some FieldType.int) 7 3 68 0 0) {x17 : Nat → Int32} {x26 : Nat → Int32} {r : Int32} (hret : ∀ pc loc, narrow .int (.int r) = .int r → decode cX11_part pc = .ok (.ireturn, 1) → gV l b0 D K (n, κ, ov X0 [17, 26] [x17, x26], ov Y0 [] [], Z, 0, 0) pc loc [.int r]) : ∀ (j : Nat) (v1 : Int32) (v2 : Int32) (v3 : Int32) (v4 : Int32) (v5 : Int32) (v6 : Int32), lq6 (fX11_part_30b x17 x26 ) j v1 v2 v3 v4 v5 v6 = some r → gV l b0 D K (n, κ, ov X0 [17, 26] [x17, x26], ov Y0 [] [], Z, 0, 0) 30 [(0, .ref (b0 + 0)), (1, .int v1), (2, .int v2), (3, .int v3), (4, .int v4), (5, .int v5), (6, .int v6)] [] := by
  intro j
  induction j with
  | zero => intro v1 v2 v3 v4 v5 v6 hf; cases hf
  | succ j hk30 =>
    intro v1 v2 v3 v4 v5 v6 hf
    replace hf : fX11_part_30b x17 x26  (lq6 (fX11_part_30b x17 x26 ) j) v1 v2 v3 v4 v5 v6 = some r := hf
    unfold fX11_part_30b at hf
    refine g_iload hC 6 dX11_part_30 rfl ?_
    refine g_iconst hC (v := 1) dX11_part_32 ic_1 ?_
    refine g_aload_n hC 0 dX11_part_33 rfl rfl ?_
    refine gt_X11_41 hC (a := 0) (kk_0 hL) (kn_0 hL) dX11_part_34 ?_
    refine g_ref (b := 16) rfl ?_
    refine gt_X11_51 hC (a := 16) (kk_16 hL) (kn_16 hL) dX11_part_37 ?_
    refine g_ref (b := 17) rfl ?_
    refine gt_X11_117 hC (x := x17) (kk_17 hL) (kn_17 hL) (ov_get hN 0 rfl rfl) dX11_part_40 ?_
    refine g_ishl hC dX11_part_43 ?_
    refine g_icmp_ge hC 94 dX11_part_44 (by decide) (fun hc => ?_) (fun hc => ?_)
    · replace hf := ifT hf hc
      refine g_iload_n hC 3 dX11_part_94 rfl rfl ?_
      refine g_if_ne hC 103 dX11_part_95 (by decide) (fun hc => ?_) (fun hc => ?_)
      · replace hf := ifF hf hc
        refine g_iload hC 5 dX11_part_103 rfl ?_
        obtain rfl := sm1E hf
        exact hret _ _ rfl dX11_part_105
      · replace hf := ifT hf hc
        refine g_iload hC 4 dX11_part_98 rfl ?_
        refine g_goto hC 105 dX11_part_100 (by decide) ?_
        obtain rfl := sm1E hf
        exact hret _ _ rfl dX11_part_105
    · replace hf := ifF hf hc
      refine g_iload hC 6 dX11_part_47 rfl ?_
      refine g_iload_n hC 1 dX11_part_49 rfl rfl ?_
      obtain ⟨r_1, q_2, hf⟩ := bd1E hf
      refine g_callS_i hC (X' := ov X0 [17, 26] [x17, x26]) (Y' := ov Y0 [] []) (As := [.int v6, .int v1]) (gMi_eq (c_X11_hasBit l hL (ov_map hN [] (by rfl) (by rfl)) (ov_map hM [] (by rfl) (by rfl)) q_2) (ov_ovE hN (by rfl) [] [0, 1] (by rfl) (by rfl) [x17, x26] (by rfl) (by rfl) (by rfl) 2 (by rfl) (by decide)) (ov_ovE hM (by rfl) [] [] (by rfl) (by rfl) [] (by rfl) (by rfl) (by rfl) 0 (by rfl) (by decide))) tw_825 tw_999 tw_116 tw_824 pd_X11_hasBit (by decide) (by decide) rfl rfl (Nat.le_of_ble_eq_true rfl) rfl dX11_part_50 ?_
      refine g_if_eq hC 88 dX11_part_53 (by decide) (fun hc => ?_) (fun hc => ?_)
      · replace hf := ifT hf hc
        exact g_sub [0, 1, 2, 3, 4, 5, 6] rfl (wX11_part_88 hL hN hM hC  hret hk30 hf)
      · replace hf := ifF hf hc
        refine g_iload hC 6 dX11_part_56 rfl ?_
        refine g_iload_n hC 2 dX11_part_58 rfl rfl ?_
        obtain ⟨r_3, q_4, hf⟩ := bd1E hf
        refine g_callS_i hC (X' := ov X0 [17, 26] [x17, x26]) (Y' := ov Y0 [] []) (As := [.int v6, .int v2]) (gMi_eq (c_X11_hasBit l hL (ov_map hN [] (by rfl) (by rfl)) (ov_map hM [] (by rfl) (by rfl)) q_4) (ov_ovE hN (by rfl) [] [0, 1] (by rfl) (by rfl) [x17, x26] (by rfl) (by rfl) (by rfl) 2 (by rfl) (by decide)) (ov_ovE hM (by rfl) [] [] (by rfl) (by rfl) [] (by rfl) (by rfl) (by rfl) 0 (by rfl) (by decide))) tw_825 tw_999 tw_116 tw_824 pd_X11_hasBit (by decide) (by decide) rfl rfl (Nat.le_of_ble_eq_true rfl) rfl dX11_part_59 ?_
        refine g_if_ne hC 88 dX11_part_62 (by decide) (fun hc => ?_) (fun hc => ?_)
        · replace hf := ifF hf hc
          exact g_sub [0, 1, 2, 3, 4, 5, 6] rfl (wX11_part_88 hL hN hM hC  hret hk30 hf)
        · replace hf := ifT hf hc
          refine g_aload_n hC 0 dX11_part_65 rfl rfl ?_
          refine g_iload hC 6 dX11_part_66 rfl ?_
          obtain ⟨r_5, q_6, hf⟩ := bd1E hf
          refine g_callV_i (a := 0) hC (X' := ov X0 [17, 26] [x17, x26]) (Y' := ov Y0 [] []) (As := [.int v6]) (gMi_eq (c_X11_poursAcross l hL (ov_map hN [0, 1] (by rfl) (by rfl)) (ov_map hM [] (by rfl) (by rfl)) q_6) (ov_ovE hN (by rfl) [0, 1] [] (by rfl) (by rfl) [] (by rfl) (by rfl) (by rfl) 2 (by rfl) (by decide)) (ov_ovE hM (by rfl) [] [] (by rfl) (by rfl) [] (by rfl) (by rfl) (by rfl) 0 (by rfl) (by decide))) tw_1003 tw_1000 tw_116 tw_1002 tw_36 (ci := 11) rfl (by decide) (kk_0 hL) (kn_0 hL) pd_X11_poursAcross (by decide) (by decide) rfl rfl (Nat.le_of_ble_eq_true rfl) rfl dX11_part_68 ?_
          refine g_iload hC 4 dX11_part_71 rfl ?_
          refine g_icmp_ge hC 88 dX11_part_73 (by decide) (fun hc => ?_) (fun hc => ?_)
          · replace hf := ifT hf hc
            exact g_sub [0, 1, 2, 3, 4, 5, 6] rfl (wX11_part_88 hL hN hM hC  hret hk30 hf)
          · replace hf := ifF hf hc
            refine g_aload_n hC 0 dX11_part_76 rfl rfl ?_
            refine g_iload hC 6 dX11_part_77 rfl ?_
            obtain ⟨r_7, q_8, hf⟩ := bd1E hf
            refine g_callV_i (a := 0) hC (X' := ov X0 [17, 26] [x17, x26]) (Y' := ov Y0 [] []) (As := [.int v6]) (gMi_eq (c_X11_poursAcross l hL (ov_map hN [0, 1] (by rfl) (by rfl)) (ov_map hM [] (by rfl) (by rfl)) q_8) (ov_ovE hN (by rfl) [0, 1] [] (by rfl) (by rfl) [] (by rfl) (by rfl) (by rfl) 2 (by rfl) (by decide)) (ov_ovE hM (by rfl) [] [] (by rfl) (by rfl) [] (by rfl) (by rfl) (by rfl) 0 (by rfl) (by decide))) tw_1003 tw_1000 tw_116 tw_1002 tw_36 (ci := 11) rfl (by decide) (kk_0 hL) (kn_0 hL) pd_X11_poursAcross (by decide) (by decide) rfl rfl (Nat.le_of_ble_eq_true rfl) rfl dX11_part_79 ?_
            refine g_istore hC (i := 4) [(4, .int r_7), (0, .ref (b0 + 0)), (1, .int v1), (2, .int v2), (3, .int v3), (5, .int v5), (6, .int v6)] dX11_part_82 (by decide) rfl ?_
            refine g_iload hC 6 dX11_part_84 rfl ?_
            refine g_istore hC (i := 5) [(5, .int v6), (4, .int r_7), (0, .ref (b0 + 0)), (1, .int v1), (2, .int v2), (3, .int v3), (6, .int v6)] dX11_part_86 (by decide) rfl ?_
            exact g_sub [2, 3, 4, 5, 1, 0, 6] rfl (wX11_part_88 hL hN hM hC  hret hk30 hf)

def fX11_part_0   (x17 : Nat → Int32) (x26 : Nat → Int32)  (v1 : Int32) (v2 : Int32) (v3 : Int32) : Option (Int32) := bd1 (fX11_areTwo x17 v1 v2) fun r_1 => (if r_1 = 0 then (some (-1)) else (bd1 (fX11_isWithin v3 0 1) fun r_3 => (if r_3 = 0 then (some (-1)) else (fX11_part_30 x17 x26  v1 v2 v3 1000000 0 0))))
set_option maxHeartbeats 4000000 in
set_option maxRecDepth 100000 in
theorem wX11_part_0 {l : Launch} {b0 : Nat} {D : GD} {K : KT} {n : Nat} {κ : QT} {X0 : XT} {Y0 : YT} {Z : ZT} (hL : LY n κ) (hN : ([17, 26] : List Nat).Nodup) (hM : ([] : List Nat).Nodup) (hC : gC l b0 D K RX11 cX11_part (some FieldType.int) 7 3 68 0 0) {x17 : Nat → Int32} {x26 : Nat → Int32} {r : Int32} (hret : ∀ pc loc, narrow .int (.int r) = .int r → decode cX11_part pc = .ok (.ireturn, 1) → gV l b0 D K (n, κ, ov X0 [17, 26] [x17, x26], ov Y0 [] [], Z, 0, 0) pc loc [.int r]) {v1 : Int32} {v2 : Int32} {v3 : Int32} (hf : fX11_part_0 x17 x26  v1 v2 v3 = some r) : gV l b0 D K (n, κ, ov X0 [17, 26] [x17, x26], ov Y0 [] [], Z, 0, 0) 0 [(0, .ref (b0 + 0)), (1, .int v1), (2, .int v2), (3, .int v3)] [] := by
  unfold fX11_part_0 at hf
  refine g_aload_n hC 0 dX11_part_0 rfl rfl ?_
  refine g_iload_n hC 1 dX11_part_1 rfl rfl ?_
  refine g_iload_n hC 2 dX11_part_2 rfl rfl ?_
  obtain ⟨r_1, q_2, hf⟩ := bd1E hf
  refine g_callV_i (a := 0) hC (X' := ov X0 [17, 26] [x17, x26]) (Y' := ov Y0 [] []) (As := [.int v1, .int v2]) (gMi_eq (c_X11_areTwo l hL (ov_map hN [0] (by rfl) (by rfl)) (ov_map hM [] (by rfl) (by rfl)) q_2) (ov_ovE hN (by rfl) [0] [1] (by rfl) (by rfl) [x26] (by rfl) (by rfl) (by rfl) 2 (by rfl) (by decide)) (ov_ovE hM (by rfl) [] [] (by rfl) (by rfl) [] (by rfl) (by rfl) (by rfl) 0 (by rfl) (by decide))) tw_841 tw_838 tw_116 tw_840 tw_24 (ci := 11) rfl (by decide) (kk_0 hL) (kn_0 hL) pd_X11_areTwo (by decide) (by decide) rfl rfl (Nat.le_of_ble_eq_true rfl) rfl dX11_part_3 ?_
  refine g_if_eq hC 18 dX11_part_6 (by decide) (fun hc => ?_) (fun hc => ?_)
  · replace hf := ifT hf hc
    refine g_iconst hC (v := (-1)) dX11_part_18 ic_m1 ?_
    obtain rfl := sm1E hf
    exact hret _ _ rfl dX11_part_19
  · replace hf := ifF hf hc
    refine g_iload_n hC 3 dX11_part_9 rfl rfl ?_
    refine g_iconst hC (v := 0) dX11_part_10 ic_0 ?_
    refine g_iconst hC (v := 1) dX11_part_11 ic_1 ?_
    obtain ⟨r_3, q_4, hf⟩ := bd1E hf
    refine g_callS_i hC (X' := ov X0 [17, 26] [x17, x26]) (Y' := ov Y0 [] []) (As := [.int v3, .int 0, .int 1]) (gMi_eq (c_X11_isWithin l hL (ov_map hN [] (by rfl) (by rfl)) (ov_map hM [] (by rfl) (by rfl)) q_4) (ov_ovE hN (by rfl) [] [0, 1] (by rfl) (by rfl) [x17, x26] (by rfl) (by rfl) (by rfl) 2 (by rfl) (by decide)) (ov_ovE hM (by rfl) [] [] (by rfl) (by rfl) [] (by rfl) (by rfl) (by rfl) 0 (by rfl) (by decide))) tw_666 tw_870 tw_116 tw_665 pd_X11_isWithin (by decide) (by decide) rfl rfl (Nat.le_of_ble_eq_true rfl) rfl dX11_part_12 ?_
    refine g_if_ne hC 20 dX11_part_15 (by decide) (fun hc => ?_) (fun hc => ?_)
    · replace hf := ifF hf hc
      refine g_ldc hC (v := 1000000) tw_998 dX11_part_20 ?_
      refine g_istore hC (i := 4) [(4, .int 1000000), (0, .ref (b0 + 0)), (1, .int v1), (2, .int v2), (3, .int v3)] dX11_part_22 (by decide) rfl ?_
      refine g_iconst hC (v := 0) dX11_part_24 ic_0 ?_
      refine g_istore hC (i := 5) [(5, .int 0), (4, .int 1000000), (0, .ref (b0 + 0)), (1, .int v1), (2, .int v2), (3, .int v3)] dX11_part_25 (by decide) rfl ?_
      refine g_iconst hC (v := 0) dX11_part_27 ic_0 ?_
      refine g_istore hC (i := 6) [(6, .int 0), (5, .int 0), (4, .int 1000000), (0, .ref (b0 + 0)), (1, .int v1), (2, .int v2), (3, .int v3)] dX11_part_28 (by decide) rfl ?_
      exact g_sub [3, 4, 5, 6, 2, 1, 0] rfl (wX11_part_30 hL hN hM hC  hret  5000 v1 v2 v3 1000000 0 0 hf)
    · replace hf := ifT hf hc
      refine g_iconst hC (v := (-1)) dX11_part_18 ic_m1 ?_
      obtain rfl := sm1E hf
      exact hret _ _ rfl dX11_part_19

def fX11_part   (x17 : Nat → Int32) (x26 : Nat → Int32)  (v1 : Int32) (v2 : Int32) (v3 : Int32)   : Option (Int32) := fX11_part_0 x17 x26 v1 v2 v3

set_option maxHeartbeats 4000000 in
set_option maxRecDepth 100000 in
theorem c_X11_part (l : Launch) {b0 : Nat} {D : GD} {n : Nat} {κ : QT} {X0 : XT} {Y0 : YT} {Z : ZT} (hL : LY n κ) {x17 : Nat → Int32} {x26 : Nat → Int32} (hx : ([17, 26] : List Nat).map X0 = [x17, x26]) (hy : ([] : List Nat).map Y0 = []) {v1 : Int32} {v2 : Int32} {v3 : Int32} {r : Int32} (hf : fX11_part x17 x26 v1 v2 v3 = some r) : gMi l yX11_part cX11_part 7 (some FieldType.int) 3 68 0 0 b0 D [.ref (b0 + 0), .int v1, .int v2, .int v3] (n, κ, X0, Y0, Z) (n, κ, ov X0 [17, 26] [x17, x26], ov Y0 [] [], Z) r := by
  have hN : ([17, 26] : List Nat).Nodup := by decide
  have hM : ([] : List Nat).Nodup := by decide
  refine g_meti (own := RX11) (by decide) rfl rfl (Nat.le_of_ble_eq_true rfl) ?_
  intro K hC hret
  have e := wX11_part_0 hL hN hM hC  hret hf
  rw [ov_id' hx, ov_id' hy] at e
  exact g_sub [0, 1, 2, 3] rfl e

-- X11_blocks
def fX11_blocks_140   (x17 : Nat → Int32) (x18 : Nat → Int32) (x23 : Nat → Int32) (x24 : Nat → Int32) (x26 : Nat → Int32)  (k75 : Int32 → Int32 → Int32 → Int32 → Int32 → (Nat → Int32) → Option (Int32 × (Nat → Int32))) (v1 : Int32) (v2 : Int32) (v3 : Int32) (v4 : Int32) (v5 : Int32) (x33 : (Nat → Int32)) : Option (Int32 × (Nat → Int32)) := bn (v5 + 1) fun t_1 => (k75 v1 v2 v3 v4 t_1 x33)
set_option maxHeartbeats 4000000 in
set_option maxRecDepth 100000 in
theorem wX11_blocks_140 {l : Launch} {b0 : Nat} {D : GD} {K : KT} {n : Nat} {κ : QT} {X0 : XT} {Y0 : YT} {Z : ZT} (hL : LY n κ) (hN : ([17, 18, 23, 24, 26, 33] : List Nat).Nodup) (hM : ([] : List Nat).Nodup) (hC : gC l b0 D K RX11 cX11_blocks (some FieldType.int) 7 2 62 0 0) {x17 : Nat → Int32} {x18 : Nat → Int32} {x23 : Nat → Int32} {x24 : Nat → Int32} {x26 : Nat → Int32} {r : Int32} {rx33 : (Nat → Int32)} (hret : ∀ pc loc, narrow .int (.int r) = .int r → decode cX11_blocks pc = .ok (.ireturn, 1) → gV l b0 D K (n, κ, ov X0 [17, 18, 23, 24, 26, 33] [x17, x18, x23, x24, x26, rx33], ov Y0 [] [], Z, 0, 0) pc loc [.int r]) {k75 : Int32 → Int32 → Int32 → Int32 → Int32 → (Nat → Int32) → Option (Int32 × (Nat → Int32))} (hk75 : ∀ (v1 : Int32) (v2 : Int32) (v3 : Int32) (v4 : Int32) (v5 : Int32) (x33 : (Nat → Int32)), k75 v1 v2 v3 v4 v5 x33 = some (r, rx33) → gV l b0 D K (n, κ, ov X0 [17, 18, 23, 24, 26, 33] [x17, x18, x23, x24, x26, x33], ov Y0 [] [], Z, 0, 0) 75 [(0, .ref (b0 + 0)), (1, .int v1), (2, .int v2), (3, .int v3), (4, .int v4), (5, .int v5)] []) {v1 : Int32} {v2 : Int32} {v3 : Int32} {v4 : Int32} {v5 : Int32} {x33 : (Nat → Int32)} (hf : fX11_blocks_140 x17 x18 x23 x24 x26 k75 v1 v2 v3 v4 v5 x33 = some (r, rx33)) : gV l b0 D K (n, κ, ov X0 [17, 18, 23, 24, 26, 33] [x17, x18, x23, x24, x26, x33], ov Y0 [] [], Z, 0, 0) 140 [(0, .ref (b0 + 0)), (1, .int v1), (2, .int v2), (3, .int v3), (4, .int v4), (5, .int v5)] [] := by
  unfold fX11_blocks_140 at hf
  obtain ⟨t_1, et_1, hf⟩ := bnE hf
  refine g_iinc hC (i := 5) (v := t_1) [(5, .int t_1), (0, .ref (b0 + 0)), (1, .int v1), (2, .int v2), (3, .int v3), (4, .int v4)] dX11_blocks_140 (q := 5) rfl ((congrArg (HAdd.hAdd v5) ic_1).trans et_1.symm) (by decide) rfl ?_
  refine g_goto hC 75 dX11_blocks_143 (by decide) ?_
  exact g_sub [1, 2, 3, 4, 5, 0] rfl (hk75 v1 v2 v3 v4 t_1 x33 hf)

def fX11_blocks_138   (x17 : Nat → Int32) (x18 : Nat → Int32) (x23 : Nat → Int32) (x24 : Nat → Int32) (x26 : Nat → Int32)  (k75 : Int32 → Int32 → Int32 → Int32 → Int32 → (Nat → Int32) → Option (Int32 × (Nat → Int32))) (v1 : Int32) (v2 : Int32) (v3 : Int32) (v5 : Int32) (s0 : Int32) (x33 : (Nat → Int32)) : Option (Int32 × (Nat → Int32)) := fX11_blocks_140 x17 x18 x23 x24 x26 k75 v1 v2 v3 s0 v5 x33
set_option maxHeartbeats 4000000 in
set_option maxRecDepth 100000 in
theorem wX11_blocks_138 {l : Launch} {b0 : Nat} {D : GD} {K : KT} {n : Nat} {κ : QT} {X0 : XT} {Y0 : YT} {Z : ZT} (hL : LY n κ) (hN : ([17, 18, 23, 24, 26, 33] : List Nat).Nodup) (hM : ([] : List Nat).Nodup) (hC : gC l b0 D K RX11 cX11_blocks (some FieldType.int) 7 2 62 0 0) {x17 : Nat → Int32} {x18 : Nat → Int32} {x23 : Nat → Int32} {x24 : Nat → Int32} {x26 : Nat → Int32} {r : Int32} {rx33 : (Nat → Int32)} (hret : ∀ pc loc, narrow .int (.int r) = .int r → decode cX11_blocks pc = .ok (.ireturn, 1) → gV l b0 D K (n, κ, ov X0 [17, 18, 23, 24, 26, 33] [x17, x18, x23, x24, x26, rx33], ov Y0 [] [], Z, 0, 0) pc loc [.int r]) {k75 : Int32 → Int32 → Int32 → Int32 → Int32 → (Nat → Int32) → Option (Int32 × (Nat → Int32))} (hk75 : ∀ (v1 : Int32) (v2 : Int32) (v3 : Int32) (v4 : Int32) (v5 : Int32) (x33 : (Nat → Int32)), k75 v1 v2 v3 v4 v5 x33 = some (r, rx33) → gV l b0 D K (n, κ, ov X0 [17, 18, 23, 24, 26, 33] [x17, x18, x23, x24, x26, x33], ov Y0 [] [], Z, 0, 0) 75 [(0, .ref (b0 + 0)), (1, .int v1), (2, .int v2), (3, .int v3), (4, .int v4), (5, .int v5)] []) {v1 : Int32} {v2 : Int32} {v3 : Int32} {v5 : Int32} {s0 : Int32} {x33 : (Nat → Int32)} (hf : fX11_blocks_138 x17 x18 x23 x24 x26 k75 v1 v2 v3 v5 s0 x33 = some (r, rx33)) : gV l b0 D K (n, κ, ov X0 [17, 18, 23, 24, 26, 33] [x17, x18, x23, x24, x26, x33], ov Y0 [] [], Z, 0, 0) 138 [(0, .ref (b0 + 0)), (1, .int v1), (2, .int v2), (3, .int v3), (5, .int v5)] [.int s0] := by
  unfold fX11_blocks_138 at hf
  refine g_istore hC (i := 4) [(4, .int s0), (0, .ref (b0 + 0)), (1, .int v1), (2, .int v2), (3, .int v3), (5, .int v5)] dX11_blocks_138 (by decide) rfl ?_
  exact g_sub [1, 2, 3, 4, 0, 5] rfl (wX11_blocks_140 hL hN hM hC  hret hk75 hf)

def fX11_blocks_75b   (x17 : Nat → Int32) (x18 : Nat → Int32) (x23 : Nat → Int32) (x24 : Nat → Int32) (x26 : Nat → Int32)  (k75 : Int32 → Int32 → Int32 → Int32 → Int32 → (Nat → Int32) → Option (Int32 × (Nat → Int32))) (v1 : Int32) (v2 : Int32) (v3 : Int32) (v4 : Int32) (v5 : Int32) (x33 : (Nat → Int32)) : Option (Int32 × (Nat → Int32)) := if (x17 4) ≤ v5 then (if v1 = 0 then (some (v3, x33)) else (some (v4, x33))) else (bd1 (fX11_hasBit v2 v5) fun r_1 => (if r_1 = 0 then (bd1 (fX1_blockOf x33 v5) fun r_3 => (bn (v2 ||| r_3) fun t_5 => (bn (v3 + 1) fun t_6 => (bd1 (fJ6_bitCount_0f7a4 r_3) fun r_7 => (bd1 (fJ6_bitCount_0f7a4 v4) fun r_9 => (if r_7 ≤ r_9 then (fX11_blocks_138 x17 x18 x23 x24 x26 k75 v1 t_5 t_6 v5 v4 x33) else (fX11_blocks_138 x17 x18 x23 x24 x26 k75 v1 t_5 t_6 v5 r_3 x33))))))) else (fX11_blocks_140 x17 x18 x23 x24 x26 k75 v1 v2 v3 v4 v5 x33)))
def fX11_blocks_75   (x17 : Nat → Int32) (x18 : Nat → Int32) (x23 : Nat → Int32) (x24 : Nat → Int32) (x26 : Nat → Int32)  : Int32 → Int32 → Int32 → Int32 → Int32 → (Nat → Int32) → Option (Int32 × (Nat → Int32)) := lq6 (fX11_blocks_75b x17 x18 x23 x24 x26 ) 5000
set_option maxHeartbeats 4000000 in
set_option maxRecDepth 100000 in
theorem wX11_blocks_75 {l : Launch} {b0 : Nat} {D : GD} {K : KT} {n : Nat} {κ : QT} {X0 : XT} {Y0 : YT} {Z : ZT} (hL : LY n κ) (hN : ([17, 18, 23, 24, 26, 33] : List Nat).Nodup) (hM : ([] : List Nat).Nodup) (hC : gC l b0 D K RX11 cX11_blocks (some FieldType.int) 7 2 62 0 0) {x17 : Nat → Int32} {x18 : Nat → Int32} {x23 : Nat → Int32} {x24 : Nat → Int32} {x26 : Nat → Int32} {r : Int32} {rx33 : (Nat → Int32)} (hret : ∀ pc loc, narrow .int (.int r) = .int r → decode cX11_blocks pc = .ok (.ireturn, 1) → gV l b0 D K (n, κ, ov X0 [17, 18, 23, 24, 26, 33] [x17, x18, x23, x24, x26, rx33], ov Y0 [] [], Z, 0, 0) pc loc [.int r]) : ∀ (j : Nat) (v1 : Int32) (v2 : Int32) (v3 : Int32) (v4 : Int32) (v5 : Int32) (x33 : (Nat → Int32)), lq6 (fX11_blocks_75b x17 x18 x23 x24 x26 ) j v1 v2 v3 v4 v5 x33 = some (r, rx33) → gV l b0 D K (n, κ, ov X0 [17, 18, 23, 24, 26, 33] [x17, x18, x23, x24, x26, x33], ov Y0 [] [], Z, 0, 0) 75 [(0, .ref (b0 + 0)), (1, .int v1), (2, .int v2), (3, .int v3), (4, .int v4), (5, .int v5)] [] := by
  intro j
  induction j with
  | zero => intro v1 v2 v3 v4 v5 x33 hf; cases hf
  | succ j hk75 =>
    intro v1 v2 v3 v4 v5 x33 hf
    replace hf : fX11_blocks_75b x17 x18 x23 x24 x26  (lq6 (fX11_blocks_75b x17 x18 x23 x24 x26 ) j) v1 v2 v3 v4 v5 x33 = some (r, rx33) := hf
    unfold fX11_blocks_75b at hf
    refine g_iload hC 5 dX11_blocks_75 rfl ?_
    refine g_aload_n hC 0 dX11_blocks_77 rfl rfl ?_
    refine gt_X11_41 hC (a := 0) (kk_0 hL) (kn_0 hL) dX11_blocks_78 ?_
    refine g_ref (b := 16) rfl ?_
    refine gt_X11_51 hC (a := 16) (kk_16 hL) (kn_16 hL) dX11_blocks_81 ?_
    refine g_ref (b := 17) rfl ?_
    refine gt_X11_117 hC (x := x17) (kk_17 hL) (kn_17 hL) (ov_get hN 0 rfl rfl) dX11_blocks_84 ?_
    refine g_icmp_ge hC 146 dX11_blocks_87 (by decide) (fun hc => ?_) (fun hc => ?_)
    · replace hf := ifT hf hc
      refine g_iload_n hC 1 dX11_blocks_146 rfl rfl ?_
      refine g_if_ne hC 154 dX11_blocks_147 (by decide) (fun hc => ?_) (fun hc => ?_)
      · replace hf := ifF hf hc
        refine g_iload hC 4 dX11_blocks_154 rfl ?_
        obtain ⟨rfl, rfl⟩ := sm2E hf
        exact hret _ _ rfl dX11_blocks_156
      · replace hf := ifT hf hc
        refine g_iload_n hC 3 dX11_blocks_150 rfl rfl ?_
        refine g_goto hC 156 dX11_blocks_151 (by decide) ?_
        obtain ⟨rfl, rfl⟩ := sm2E hf
        exact hret _ _ rfl dX11_blocks_156
    · replace hf := ifF hf hc
      refine g_iload_n hC 2 dX11_blocks_90 rfl rfl ?_
      refine g_iload hC 5 dX11_blocks_91 rfl ?_
      obtain ⟨r_1, q_2, hf⟩ := bd1E hf
      refine g_callS_i hC (X' := ov X0 [17, 18, 23, 24, 26, 33] [x17, x18, x23, x24, x26, x33]) (Y' := ov Y0 [] []) (As := [.int v2, .int v5]) (gMi_eq (c_X11_hasBit l hL (ov_map hN [] (by rfl) (by rfl)) (ov_map hM [] (by rfl) (by rfl)) q_2) (ov_ovE hN (by rfl) [] [0, 1, 2, 3, 4, 5] (by rfl) (by rfl) [x17, x18, x23, x24, x26, x33] (by rfl) (by rfl) (by rfl) 6 (by rfl) (by decide)) (ov_ovE hM (by rfl) [] [] (by rfl) (by rfl) [] (by rfl) (by rfl) (by rfl) 0 (by rfl) (by decide))) tw_825 tw_999 tw_116 tw_824 pd_X11_hasBit (by decide) (by decide) rfl rfl (Nat.le_of_ble_eq_true rfl) rfl dX11_blocks_93 ?_
      refine g_if_ne hC 140 dX11_blocks_96 (by decide) (fun hc => ?_) (fun hc => ?_)
      · replace hf := ifF hf hc
        exact g_sub [0, 1, 2, 3, 4, 5] rfl (wX11_blocks_140 hL hN hM hC  hret hk75 hf)
      · replace hf := ifT hf hc
        refine g_aload_n hC 0 dX11_blocks_99 rfl rfl ?_
        refine gt_X11_58 hC (a := 0) (kk_0 hL) (kn_0 hL) dX11_blocks_100 ?_
        refine g_ref (b := 32) rfl ?_
        refine g_iload hC 5 dX11_blocks_103 rfl ?_
        obtain ⟨r_3, q_4, hf⟩ := bd1E hf
        refine g_callV_i (a := 32) hC (X' := ov X0 [17, 18, 23, 24, 26, 33] [x17, x18, x23, x24, x26, x33]) (Y' := ov Y0 [] []) (As := [.int v5]) (gMi_eq (c_X1_blockOf l hL (ov_map hN [5] (by rfl) (by rfl)) (ov_map hM [] (by rfl) (by rfl)) q_4) (ov_ovE hN (by rfl) [5] [0, 1, 2, 3, 4] (by rfl) (by rfl) [x17, x18, x23, x24, x26] (by rfl) (by rfl) (by rfl) 6 (by rfl) (by decide)) (ov_ovE hM (by rfl) [] [] (by rfl) (by rfl) [] (by rfl) (by rfl) (by rfl) 0 (by rfl) (by decide))) tw_822 tw_819 tw_123 tw_820 tw_821 (ci := 1) rfl (by decide) (kk_32 hL) (kn_32 hL) pd_X1_blockOf (by decide) (by decide) rfl rfl (Nat.le_of_ble_eq_true rfl) rfl dX11_blocks_105 ?_
        refine g_istore hC (i := 6) [(6, .int r_3), (0, .ref (b0 + 0)), (1, .int v1), (2, .int v2), (3, .int v3), (4, .int v4), (5, .int v5)] dX11_blocks_108 (by decide) rfl ?_
        refine g_iload_n hC 3 dX11_blocks_110 rfl rfl ?_
        refine g_iload hC 0 dX11_blocks_111 rfl ?_
        refine g_ior hC dX11_blocks_113 ?_
        obtain ⟨t_5, et_5, hf⟩ := bnE hf
        refine g_topi et_5 ?_
        refine g_istore_n hC (i := 2) [(2, .int t_5), (6, .int r_3), (0, .ref (b0 + 0)), (1, .int v1), (3, .int v3), (4, .int v4), (5, .int v5)] rfl dX11_blocks_114 (by decide) rfl ?_
        obtain ⟨t_6, et_6, hf⟩ := bnE hf
        refine g_iinc hC (i := 3) (v := t_6) [(3, .int t_6), (2, .int t_5), (6, .int r_3), (0, .ref (b0 + 0)), (1, .int v1), (4, .int v4), (5, .int v5)] dX11_blocks_115 (q := 4) rfl ((congrArg (HAdd.hAdd v3) ic_1).trans et_6.symm) (by decide) rfl ?_
        refine g_iload hC 2 dX11_blocks_118 rfl ?_
        obtain ⟨r_7, q_8, hf⟩ := bd1E hf
        refine g_callS_i hC (X' := ov X0 [17, 18, 23, 24, 26, 33] [x17, x18, x23, x24, x26, x33]) (Y' := ov Y0 [] []) (As := [.int r_3]) (gMi_eq (c_J6_bitCount_0f7a4 l hL (ov_map hN [] (by rfl) (by rfl)) (ov_map hM [] (by rfl) (by rfl)) q_8) (ov_ovE hN (by rfl) [] [0, 1, 2, 3, 4, 5] (by rfl) (by rfl) [x17, x18, x23, x24, x26, x33] (by rfl) (by rfl) (by rfl) 6 (by rfl) (by decide)) (ov_ovE hM (by rfl) [] [] (by rfl) (by rfl) [] (by rfl) (by rfl) (by rfl) 0 (by rfl) (by decide))) tw_922 tw_984 tw_136 tw_921 pd_J6_bitCount_0f7a4 (by decide) (by decide) rfl rfl (Nat.le_of_ble_eq_true rfl) rfl dX11_blocks_120 ?_
        refine g_iload hC 5 dX11_blocks_123 rfl ?_
        obtain ⟨r_9, q_10, hf⟩ := bd1E hf
        refine g_callS_i hC (X' := ov X0 [17, 18, 23, 24, 26, 33] [x17, x18, x23, x24, x26, x33]) (Y' := ov Y0 [] []) (As := [.int v4]) (gMi_eq (c_J6_bitCount_0f7a4 l hL (ov_map hN [] (by rfl) (by rfl)) (ov_map hM [] (by rfl) (by rfl)) q_10) (ov_ovE hN (by rfl) [] [0, 1, 2, 3, 4, 5] (by rfl) (by rfl) [x17, x18, x23, x24, x26, x33] (by rfl) (by rfl) (by rfl) 6 (by rfl) (by decide)) (ov_ovE hM (by rfl) [] [] (by rfl) (by rfl) [] (by rfl) (by rfl) (by rfl) 0 (by rfl) (by decide))) tw_922 tw_984 tw_136 tw_921 pd_J6_bitCount_0f7a4 (by decide) (by decide) rfl rfl (Nat.le_of_ble_eq_true rfl) rfl dX11_blocks_125 ?_
        refine g_icmp_le hC 136 dX11_blocks_128 (by decide) (fun hc => ?_) (fun hc => ?_)
        · replace hf := ifT hf hc
          refine g_iload hC 5 dX11_blocks_136 rfl ?_
          exact g_sub [3, 4, 1, 0, 6] rfl (wX11_blocks_138 hL hN hM hC  hret hk75 hf)
        · replace hf := ifF hf hc
          refine g_iload hC 2 dX11_blocks_131 rfl ?_
          refine g_goto hC 138 dX11_blocks_133 (by decide) ?_
          exact g_sub [3, 4, 1, 0, 6] rfl (wX11_blocks_138 hL hN hM hC  hret hk75 hf)

def fX11_blocks_0   (x17 : Nat → Int32) (x18 : Nat → Int32) (x23 : Nat → Int32) (x24 : Nat → Int32) (x26 : Nat → Int32)  (v1 : Int32) (x33 : (Nat → Int32)) : Option (Int32 × (Nat → Int32)) := bd1 (fX11_isTold x17) fun r_1 => (if r_1 = 0 then (some ((-1), x33)) else (bd1 (fX11_isWithin v1 0 1) fun r_3 => (if r_3 = 0 then (some ((-1), x33)) else (bd1 (fX9_heatOf x23 x17 x18) fun r_5 => (bd1 (fX1_findHolds x26 r_5 x33) fun x33_7 => (bd1 (fX9_riverBits x24 x17) fun r_9 => (fX11_blocks_75 x17 x18 x23 x24 x26  v1 r_9 0 0 0 x33_7)))))))
set_option maxHeartbeats 4000000 in
set_option maxRecDepth 100000 in
theorem wX11_blocks_0 {l : Launch} {b0 : Nat} {D : GD} {K : KT} {n : Nat} {κ : QT} {X0 : XT} {Y0 : YT} {Z : ZT} (hL : LY n κ) (hN : ([17, 18, 23, 24, 26, 33] : List Nat).Nodup) (hM : ([] : List Nat).Nodup) (hC : gC l b0 D K RX11 cX11_blocks (some FieldType.int) 7 2 62 0 0) {x17 : Nat → Int32} {x18 : Nat → Int32} {x23 : Nat → Int32} {x24 : Nat → Int32} {x26 : Nat → Int32} {r : Int32} {rx33 : (Nat → Int32)} (hret : ∀ pc loc, narrow .int (.int r) = .int r → decode cX11_blocks pc = .ok (.ireturn, 1) → gV l b0 D K (n, κ, ov X0 [17, 18, 23, 24, 26, 33] [x17, x18, x23, x24, x26, rx33], ov Y0 [] [], Z, 0, 0) pc loc [.int r]) {v1 : Int32} {x33 : (Nat → Int32)} (hf : fX11_blocks_0 x17 x18 x23 x24 x26  v1 x33 = some (r, rx33)) : gV l b0 D K (n, κ, ov X0 [17, 18, 23, 24, 26, 33] [x17, x18, x23, x24, x26, x33], ov Y0 [] [], Z, 0, 0) 0 [(0, .ref (b0 + 0)), (1, .int v1)] [] := by
  unfold fX11_blocks_0 at hf
  refine g_aload_n hC 0 dX11_blocks_0 rfl rfl ?_
  obtain ⟨r_1, q_2, hf⟩ := bd1E hf
  refine g_callV_i (a := 0) hC (X' := ov X0 [17, 18, 23, 24, 26, 33] [x17, x18, x23, x24, x26, x33]) (Y' := ov Y0 [] []) (As := []) (gMi_eq (c_X11_isTold l hL (ov_map hN [0] (by rfl) (by rfl)) (ov_map hM [] (by rfl) (by rfl)) q_2) (ov_ovE hN (by rfl) [0] [1, 2, 3, 4, 5] (by rfl) (by rfl) [x18, x23, x24, x26, x33] (by rfl) (by rfl) (by rfl) 6 (by rfl) (by decide)) (ov_ovE hM (by rfl) [] [] (by rfl) (by rfl) [] (by rfl) (by rfl) (by rfl) 0 (by rfl) (by decide))) tw_853 tw_850 tw_116 tw_852 tw_25 (ci := 11) rfl (by decide) (kk_0 hL) (kn_0 hL) pd_X11_isTold (by decide) (by decide) rfl rfl (Nat.le_of_ble_eq_true rfl) rfl dX11_blocks_1 ?_
  refine g_if_eq hC 16 dX11_blocks_4 (by decide) (fun hc => ?_) (fun hc => ?_)
  · replace hf := ifT hf hc
    refine g_iconst hC (v := (-1)) dX11_blocks_16 ic_m1 ?_
    obtain ⟨rfl, rfl⟩ := sm2E hf
    exact hret _ _ rfl dX11_blocks_17
  · replace hf := ifF hf hc
    refine g_iload_n hC 1 dX11_blocks_7 rfl rfl ?_
    refine g_iconst hC (v := 0) dX11_blocks_8 ic_0 ?_
    refine g_iconst hC (v := 1) dX11_blocks_9 ic_1 ?_
    obtain ⟨r_3, q_4, hf⟩ := bd1E hf
    refine g_callS_i hC (X' := ov X0 [17, 18, 23, 24, 26, 33] [x17, x18, x23, x24, x26, x33]) (Y' := ov Y0 [] []) (As := [.int v1, .int 0, .int 1]) (gMi_eq (c_X11_isWithin l hL (ov_map hN [] (by rfl) (by rfl)) (ov_map hM [] (by rfl) (by rfl)) q_4) (ov_ovE hN (by rfl) [] [0, 1, 2, 3, 4, 5] (by rfl) (by rfl) [x17, x18, x23, x24, x26, x33] (by rfl) (by rfl) (by rfl) 6 (by rfl) (by decide)) (ov_ovE hM (by rfl) [] [] (by rfl) (by rfl) [] (by rfl) (by rfl) (by rfl) 0 (by rfl) (by decide))) tw_666 tw_870 tw_116 tw_665 pd_X11_isWithin (by decide) (by decide) rfl rfl (Nat.le_of_ble_eq_true rfl) rfl dX11_blocks_10 ?_
    refine g_if_ne hC 18 dX11_blocks_13 (by decide) (fun hc => ?_) (fun hc => ?_)
    · replace hf := ifF hf hc
      refine g_aload_n hC 0 dX11_blocks_18 rfl rfl ?_
      refine gt_X11_58 hC (a := 0) (kk_0 hL) (kn_0 hL) dX11_blocks_19 ?_
      refine g_ref (b := 32) rfl ?_
      refine g_aload_n hC 0 dX11_blocks_22 rfl rfl ?_
      refine gt_X11_41 hC (a := 0) (kk_0 hL) (kn_0 hL) dX11_blocks_23 ?_
      refine g_ref (b := 16) rfl ?_
      refine gt_X11_140 hC (a := 16) (kk_16 hL) (kn_16 hL) dX11_blocks_26 ?_
      refine g_ref (b := 23) rfl ?_
      refine g_aload_n hC 0 dX11_blocks_29 rfl rfl ?_
      refine gt_X11_41 hC (a := 0) (kk_0 hL) (kn_0 hL) dX11_blocks_30 ?_
      refine g_ref (b := 16) rfl ?_
      refine gt_X11_51 hC (a := 16) (kk_16 hL) (kn_16 hL) dX11_blocks_33 ?_
      refine g_ref (b := 17) rfl ?_
      refine g_aload_n hC 0 dX11_blocks_36 rfl rfl ?_
      refine gt_X11_41 hC (a := 0) (kk_0 hL) (kn_0 hL) dX11_blocks_37 ?_
      refine g_ref (b := 16) rfl ?_
      refine gt_X11_140 hC (a := 16) (kk_16 hL) (kn_16 hL) dX11_blocks_40 ?_
      refine g_ref (b := 23) rfl ?_
      obtain ⟨r_5, q_6, hf⟩ := bd1E hf
      refine g_callV_i (a := 17) hC (X' := ov X0 [17, 18, 23, 24, 26, 33] [x17, x18, x23, x24, x26, x33]) (Y' := ov Y0 [] []) (As := [.ref (b0 + 23)]) (gMi_eq (c_X9_heatOf l hL (kk_23 hL) (kn_23 hL) (nd_sub hN [2, 0, 1] (by decide) (by rfl)) (nd_sub hM [] (by decide) (by rfl)) (ov_map hN [2, 0, 1] (by rfl) (by rfl)) (ov_map hM [] (by rfl) (by rfl)) q_6) (ov_ovE hN (by rfl) [2, 0, 1] [3, 4, 5] (by rfl) (by rfl) [x24, x26, x33] (by rfl) (by rfl) (by rfl) 6 (by rfl) (by decide)) (ov_ovE hM (by rfl) [] [] (by rfl) (by rfl) [] (by rfl) (by rfl) (by rfl) 0 (by rfl) (by decide))) tw_806 tw_803 tw_119 tw_804 tw_805 (ci := 9) rfl (by decide) (kk_17 hL) (kn_17 hL) pd_X9_heatOf (by decide) (by decide) rfl rfl (Nat.le_of_ble_eq_true rfl) rfl dX11_blocks_43 ?_
      obtain ⟨x33_7, q_8, hf⟩ := bd1E hf
      refine g_callV_v (a := 32) hC (X' := ov X0 [17, 18, 23, 24, 26, 33] [x17, x18, x23, x24, x26, x33_7]) (Y' := ov Y0 [] []) (As := [.ref (b0 + 23), .int r_5]) (gMv_eq (c_X1_findHolds l hL (kk_23 hL) (kn_23 hL) (nd_sub hN [4, 5] (by decide) (by rfl)) (nd_sub hM [] (by decide) (by rfl)) (ov_map hN [4, 5] (by rfl) (by rfl)) (ov_map hM [] (by rfl) (by rfl)) q_8) (ov_ovE hN (by rfl) [4, 5] [0, 1, 2, 3] (by rfl) (by rfl) [x17, x18, x23, x24] (by rfl) (by rfl) (by rfl) 6 (by rfl) (by decide)) (ov_ovE hM (by rfl) [] [] (by rfl) (by rfl) [] (by rfl) (by rfl) (by rfl) 0 (by rfl) (by decide))) tw_817 tw_814 tw_123 tw_815 tw_816 (ci := 1) rfl (by decide) (kk_32 hL) (kn_32 hL) pd_X1_findHolds (by decide) (by decide) rfl rfl (Nat.le_of_ble_eq_true rfl) rfl dX11_blocks_46 ?_
      refine g_aload_n hC 0 dX11_blocks_49 rfl rfl ?_
      refine gt_X11_41 hC (a := 0) (kk_0 hL) (kn_0 hL) dX11_blocks_50 ?_
      refine g_ref (b := 16) rfl ?_
      refine gt_X11_51 hC (a := 16) (kk_16 hL) (kn_16 hL) dX11_blocks_53 ?_
      refine g_ref (b := 17) rfl ?_
      refine g_aload_n hC 0 dX11_blocks_56 rfl rfl ?_
      refine gt_X11_41 hC (a := 0) (kk_0 hL) (kn_0 hL) dX11_blocks_57 ?_
      refine g_ref (b := 16) rfl ?_
      refine gt_X11_140 hC (a := 16) (kk_16 hL) (kn_16 hL) dX11_blocks_60 ?_
      refine g_ref (b := 23) rfl ?_
      obtain ⟨r_9, q_10, hf⟩ := bd1E hf
      refine g_callV_i (a := 17) hC (X' := ov X0 [17, 18, 23, 24, 26, 33] [x17, x18, x23, x24, x26, x33_7]) (Y' := ov Y0 [] []) (As := [.ref (b0 + 23)]) (gMi_eq (c_X9_riverBits l hL (kk_23 hL) (kn_23 hL) (nd_sub hN [3, 0] (by decide) (by rfl)) (nd_sub hM [] (by decide) (by rfl)) (ov_map hN [3, 0] (by rfl) (by rfl)) (ov_map hM [] (by rfl) (by rfl)) q_10) (ov_ovE hN (by rfl) [3, 0] [1, 2, 4, 5] (by rfl) (by rfl) [x18, x23, x26, x33_7] (by rfl) (by rfl) (by rfl) 6 (by rfl) (by decide)) (ov_ovE hM (by rfl) [] [] (by rfl) (by rfl) [] (by rfl) (by rfl) (by rfl) 0 (by rfl) (by decide))) tw_918 tw_983 tw_119 tw_916 tw_917 (ci := 9) rfl (by decide) (kk_17 hL) (kn_17 hL) pd_X9_riverBits (by decide) (by decide) rfl rfl (Nat.le_of_ble_eq_true rfl) rfl dX11_blocks_63 ?_
      refine g_istore_n hC (i := 2) [(2, .int r_9), (0, .ref (b0 + 0)), (1, .int v1)] rfl dX11_blocks_66 (by decide) rfl ?_
      refine g_iconst hC (v := 0) dX11_blocks_67 ic_0 ?_
      refine g_istore_n hC (i := 3) [(3, .int 0), (2, .int r_9), (0, .ref (b0 + 0)), (1, .int v1)] rfl dX11_blocks_68 (by decide) rfl ?_
      refine g_iconst hC (v := 0) dX11_blocks_69 ic_0 ?_
      refine g_istore hC (i := 4) [(4, .int 0), (3, .int 0), (2, .int r_9), (0, .ref (b0 + 0)), (1, .int v1)] dX11_blocks_70 (by decide) rfl ?_
      refine g_iconst hC (v := 0) dX11_blocks_72 ic_0 ?_
      refine g_istore hC (i := 5) [(5, .int 0), (4, .int 0), (3, .int 0), (2, .int r_9), (0, .ref (b0 + 0)), (1, .int v1)] dX11_blocks_73 (by decide) rfl ?_
      exact g_sub [4, 5, 3, 2, 1, 0] rfl (wX11_blocks_75 hL hN hM hC  hret  5000 v1 r_9 0 0 0 x33_7 hf)
    · replace hf := ifT hf hc
      refine g_iconst hC (v := (-1)) dX11_blocks_16 ic_m1 ?_
      obtain ⟨rfl, rfl⟩ := sm2E hf
      exact hret _ _ rfl dX11_blocks_17

def fX11_blocks   (x17 : Nat → Int32) (x18 : Nat → Int32) (x23 : Nat → Int32) (x24 : Nat → Int32) (x26 : Nat → Int32)  (v1 : Int32) (x33 : Nat → Int32)  : Option (Int32 × (Nat → Int32)) := fX11_blocks_0 x17 x18 x23 x24 x26 v1 x33

set_option maxHeartbeats 4000000 in
set_option maxRecDepth 100000 in
theorem c_X11_blocks (l : Launch) {b0 : Nat} {D : GD} {n : Nat} {κ : QT} {X0 : XT} {Y0 : YT} {Z : ZT} (hL : LY n κ) {x17 : Nat → Int32} {x18 : Nat → Int32} {x23 : Nat → Int32} {x24 : Nat → Int32} {x26 : Nat → Int32} {x33 : Nat → Int32} (hx : ([17, 18, 23, 24, 26, 33] : List Nat).map X0 = [x17, x18, x23, x24, x26, x33]) (hy : ([] : List Nat).map Y0 = []) {v1 : Int32} {r : Int32} {rx33 : (Nat → Int32)} (hf : fX11_blocks x17 x18 x23 x24 x26 v1 x33 = some (r, rx33)) : gMi l yX11_blocks cX11_blocks 7 (some FieldType.int) 2 62 0 0 b0 D [.ref (b0 + 0), .int v1] (n, κ, X0, Y0, Z) (n, κ, ov X0 [17, 18, 23, 24, 26, 33] [x17, x18, x23, x24, x26, rx33], ov Y0 [] [], Z) r := by
  have hN : ([17, 18, 23, 24, 26, 33] : List Nat).Nodup := by decide
  have hM : ([] : List Nat).Nodup := by decide
  refine g_meti (own := RX11) (by decide) rfl rfl (Nat.le_of_ble_eq_true rfl) ?_
  intro K hC hret
  have e := wX11_blocks_0 hL hN hM hC  hret hf
  rw [ov_id' hx, ov_id' hy] at e
  exact g_sub [0, 1] rfl e

-- X11_parts
def fX11_parts_161   (x17 : Nat → Int32) (x25 : Nat → Int32) (x26 : Nat → Int32)  (k94 : Int32 → Int32 → Int32 → Int32 → Int32 → Int32 → Int32 → Option (Int32)) (v1 : Int32) (v2 : Int32) (v3 : Int32) (v4 : Int32) (v5 : Int32) (v6 : Int32) (v7 : Int32) : Option (Int32) := bn (v7 + 1) fun t_1 => (k94 v1 v2 v3 v4 v5 v6 t_1)
set_option maxHeartbeats 4000000 in
set_option maxRecDepth 100000 in
theorem wX11_parts_161 {l : Launch} {b0 : Nat} {D : GD} {K : KT} {n : Nat} {κ : QT} {X0 : XT} {Y0 : YT} {Z : ZT} (hL : LY n κ) (hN : ([17, 25, 26] : List Nat).Nodup) (hM : ([] : List Nat).Nodup) (hC : gC l b0 D K RX11 cX11_parts (some FieldType.int) 9 2 45 0 0) {x17 : Nat → Int32} {x25 : Nat → Int32} {x26 : Nat → Int32} {r : Int32} (hret : ∀ pc loc, narrow .int (.int r) = .int r → decode cX11_parts pc = .ok (.ireturn, 1) → gV l b0 D K (n, κ, ov X0 [17, 25, 26] [x17, x25, x26], ov Y0 [] [], Z, 0, 0) pc loc [.int r]) {k94 : Int32 → Int32 → Int32 → Int32 → Int32 → Int32 → Int32 → Option (Int32)} (hk94 : ∀ (v1 : Int32) (v2 : Int32) (v3 : Int32) (v4 : Int32) (v5 : Int32) (v6 : Int32) (v7 : Int32), k94 v1 v2 v3 v4 v5 v6 v7 = some r → gV l b0 D K (n, κ, ov X0 [17, 25, 26] [x17, x25, x26], ov Y0 [] [], Z, 0, 0) 94 [(0, .ref (b0 + 0)), (1, .int v1), (2, .int v2), (3, .int v3), (4, .int v4), (5, .int v5), (6, .int v6), (7, .int v7)] []) {v1 : Int32} {v2 : Int32} {v3 : Int32} {v4 : Int32} {v5 : Int32} {v6 : Int32} {v7 : Int32} (hf : fX11_parts_161 x17 x25 x26 k94 v1 v2 v3 v4 v5 v6 v7 = some r) : gV l b0 D K (n, κ, ov X0 [17, 25, 26] [x17, x25, x26], ov Y0 [] [], Z, 0, 0) 161 [(0, .ref (b0 + 0)), (1, .int v1), (2, .int v2), (3, .int v3), (4, .int v4), (5, .int v5), (6, .int v6), (7, .int v7)] [] := by
  unfold fX11_parts_161 at hf
  obtain ⟨t_1, et_1, hf⟩ := bnE hf
  refine g_iinc hC (i := 7) (v := t_1) [(7, .int t_1), (0, .ref (b0 + 0)), (1, .int v1), (2, .int v2), (3, .int v3), (4, .int v4), (5, .int v5), (6, .int v6)] dX11_parts_161 (q := 7) rfl ((congrArg (HAdd.hAdd v7) ic_1).trans et_1.symm) (by decide) rfl ?_
  refine g_goto hC 94 dX11_parts_164 (by decide) ?_
  exact g_sub [1, 2, 3, 4, 5, 6, 7, 0] rfl (hk94 v1 v2 v3 v4 v5 v6 t_1 hf)

def fX11_parts_158   (x17 : Nat → Int32) (x25 : Nat → Int32) (x26 : Nat → Int32)  (k94 : Int32 → Int32 → Int32 → Int32 → Int32 → Int32 → Int32 → Option (Int32)) (v1 : Int32) (v2 : Int32) (v3 : Int32) (v4 : Int32) (v5 : Int32) (v6 : Int32) (v7 : Int32) : Option (Int32) := bn (v5 + 1) fun t_1 => (fX11_parts_161 x17 x25 x26 k94 v1 v2 v3 v4 t_1 v6 v7)
set_option maxHeartbeats 4000000 in
set_option maxRecDepth 100000 in
theorem wX11_parts_158 {l : Launch} {b0 : Nat} {D : GD} {K : KT} {n : Nat} {κ : QT} {X0 : XT} {Y0 : YT} {Z : ZT} (hL : LY n κ) (hN : ([17, 25, 26] : List Nat).Nodup) (hM : ([] : List Nat).Nodup) (hC : gC l b0 D K RX11 cX11_parts (some FieldType.int) 9 2 45 0 0) {x17 : Nat → Int32} {x25 : Nat → Int32} {x26 : Nat → Int32} {r : Int32} (hret : ∀ pc loc, narrow .int (.int r) = .int r → decode cX11_parts pc = .ok (.ireturn, 1) → gV l b0 D K (n, κ, ov X0 [17, 25, 26] [x17, x25, x26], ov Y0 [] [], Z, 0, 0) pc loc [.int r]) {k94 : Int32 → Int32 → Int32 → Int32 → Int32 → Int32 → Int32 → Option (Int32)} (hk94 : ∀ (v1 : Int32) (v2 : Int32) (v3 : Int32) (v4 : Int32) (v5 : Int32) (v6 : Int32) (v7 : Int32), k94 v1 v2 v3 v4 v5 v6 v7 = some r → gV l b0 D K (n, κ, ov X0 [17, 25, 26] [x17, x25, x26], ov Y0 [] [], Z, 0, 0) 94 [(0, .ref (b0 + 0)), (1, .int v1), (2, .int v2), (3, .int v3), (4, .int v4), (5, .int v5), (6, .int v6), (7, .int v7)] []) {v1 : Int32} {v2 : Int32} {v3 : Int32} {v4 : Int32} {v5 : Int32} {v6 : Int32} {v7 : Int32} (hf : fX11_parts_158 x17 x25 x26 k94 v1 v2 v3 v4 v5 v6 v7 = some r) : gV l b0 D K (n, κ, ov X0 [17, 25, 26] [x17, x25, x26], ov Y0 [] [], Z, 0, 0) 158 [(0, .ref (b0 + 0)), (1, .int v1), (2, .int v2), (3, .int v3), (4, .int v4), (5, .int v5), (6, .int v6), (7, .int v7)] [] := by
  unfold fX11_parts_158 at hf
  obtain ⟨t_1, et_1, hf⟩ := bnE hf
  refine g_iinc hC (i := 5) (v := t_1) [(5, .int t_1), (0, .ref (b0 + 0)), (1, .int v1), (2, .int v2), (3, .int v3), (4, .int v4), (6, .int v6), (7, .int v7)] dX11_parts_158 (q := 5) rfl ((congrArg (HAdd.hAdd v5) ic_1).trans et_1.symm) (by decide) rfl ?_
  exact g_sub [1, 2, 3, 4, 5, 0, 6, 7] rfl (wX11_parts_161 hL hN hM hC  hret hk94 hf)

def fX11_parts_94b   (x17 : Nat → Int32) (x25 : Nat → Int32) (x26 : Nat → Int32)  (k94 : Int32 → Int32 → Int32 → Int32 → Int32 → Int32 → Int32 → Option (Int32)) (v1 : Int32) (v2 : Int32) (v3 : Int32) (v4 : Int32) (v5 : Int32) (v6 : Int32) (v7 : Int32) : Option (Int32) := if (x17 4) ≤ v7 then (bd1 (fX7_hardnessOf x25 x26 v2) fun r_1 => (gd (nz v3) (if v4 ≤ v5 then (some (((v1 * r_1) / v3) + 0)) else (some (((v1 * r_1) / v3) + 1))))) else (bd1 (fX7_hardnessOf x25 x26 v7) fun r_4 => (bn (v1 * r_4) fun t_6 => (gd (nz v3) (bn (v4 - (t_6 / v3)) fun t_8 => (gd (nz v3) (if v6 < (t_6 - t_6 / v3 * v3) then (fX11_parts_158 x17 x25 x26 k94 v1 v2 v3 t_8 v5 v6 v7) else (gd (nz v3) (if (t_6 - t_6 / v3 * v3) = v6 then (if v2 ≤ v7 then (fX11_parts_161 x17 x25 x26 k94 v1 v2 v3 t_8 v5 v6 v7) else (fX11_parts_158 x17 x25 x26 k94 v1 v2 v3 t_8 v5 v6 v7)) else (fX11_parts_161 x17 x25 x26 k94 v1 v2 v3 t_8 v5 v6 v7)))))))))
def fX11_parts_94   (x17 : Nat → Int32) (x25 : Nat → Int32) (x26 : Nat → Int32)  : Int32 → Int32 → Int32 → Int32 → Int32 → Int32 → Int32 → Option (Int32) := lq7 (fX11_parts_94b x17 x25 x26 ) 5000
set_option maxHeartbeats 4000000 in
set_option maxRecDepth 100000 in
theorem wX11_parts_94 {l : Launch} {b0 : Nat} {D : GD} {K : KT} {n : Nat} {κ : QT} {X0 : XT} {Y0 : YT} {Z : ZT} (hL : LY n κ) (hN : ([17, 25, 26] : List Nat).Nodup) (hM : ([] : List Nat).Nodup) (hC : gC l b0 D K RX11 cX11_parts (some FieldType.int) 9 2 45 0 0) {x17 : Nat → Int32} {x25 : Nat → Int32} {x26 : Nat → Int32} {r : Int32} (hret : ∀ pc loc, narrow .int (.int r) = .int r → decode cX11_parts pc = .ok (.ireturn, 1) → gV l b0 D K (n, κ, ov X0 [17, 25, 26] [x17, x25, x26], ov Y0 [] [], Z, 0, 0) pc loc [.int r]) : ∀ (j : Nat) (v1 : Int32) (v2 : Int32) (v3 : Int32) (v4 : Int32) (v5 : Int32) (v6 : Int32) (v7 : Int32), lq7 (fX11_parts_94b x17 x25 x26 ) j v1 v2 v3 v4 v5 v6 v7 = some r → gV l b0 D K (n, κ, ov X0 [17, 25, 26] [x17, x25, x26], ov Y0 [] [], Z, 0, 0) 94 [(0, .ref (b0 + 0)), (1, .int v1), (2, .int v2), (3, .int v3), (4, .int v4), (5, .int v5), (6, .int v6), (7, .int v7)] [] := by
  intro j
  induction j with
  | zero => intro v1 v2 v3 v4 v5 v6 v7 hf; cases hf
  | succ j hk94 =>
    intro v1 v2 v3 v4 v5 v6 v7 hf
    replace hf : fX11_parts_94b x17 x25 x26  (lq7 (fX11_parts_94b x17 x25 x26 ) j) v1 v2 v3 v4 v5 v6 v7 = some r := hf
    unfold fX11_parts_94b at hf
    refine g_iload hC 7 dX11_parts_94 rfl ?_
    refine g_aload_n hC 0 dX11_parts_96 rfl rfl ?_
    refine gt_X11_41 hC (a := 0) (kk_0 hL) (kn_0 hL) dX11_parts_97 ?_
    refine g_ref (b := 16) rfl ?_
    refine gt_X11_51 hC (a := 16) (kk_16 hL) (kn_16 hL) dX11_parts_100 ?_
    refine g_ref (b := 17) rfl ?_
    refine gt_X11_117 hC (x := x17) (kk_17 hL) (kn_17 hL) (ov_get hN 0 rfl rfl) dX11_parts_103 ?_
    refine g_icmp_ge hC 167 dX11_parts_106 (by decide) (fun hc => ?_) (fun hc => ?_)
    · replace hf := ifT hf hc
      refine g_iload_n hC 1 dX11_parts_167 rfl rfl ?_
      refine g_aload_n hC 0 dX11_parts_168 rfl rfl ?_
      refine gt_X11_41 hC (a := 0) (kk_0 hL) (kn_0 hL) dX11_parts_169 ?_
      refine g_ref (b := 16) rfl ?_
      refine gt_X11_140 hC (a := 16) (kk_16 hL) (kn_16 hL) dX11_parts_172 ?_
      refine g_ref (b := 23) rfl ?_
      refine g_iload_n hC 2 dX11_parts_175 rfl rfl ?_
      obtain ⟨r_1, q_2, hf⟩ := bd1E hf
      refine g_callV_i (a := 23) hC (X' := ov X0 [17, 25, 26] [x17, x25, x26]) (Y' := ov Y0 [] []) (As := [.int v2]) (gMi_eq (c_X7_hardnessOf l hL (kk_23 hL) (kn_23 hL) (nd_sub hN [1, 2] (by decide) (by rfl)) (nd_sub hM [] (by decide) (by rfl)) (ov_map hN [1, 2] (by rfl) (by rfl)) (ov_map hM [] (by rfl) (by rfl)) q_2) (ov_ovE hN (by rfl) [1, 2] [0] (by rfl) (by rfl) [x17] (by rfl) (by rfl) (by rfl) 3 (by rfl) (by decide)) (ov_ovE hM (by rfl) [] [] (by rfl) (by rfl) [] (by rfl) (by rfl) (by rfl) 0 (by rfl) (by decide))) tw_1080 tw_1077 tw_120 tw_1078 tw_1079 (ci := 7) rfl (by decide) (kk_23 hL) (kn_23 hL) pd_X7_hardnessOf (by decide) (by decide) rfl rfl (Nat.le_of_ble_eq_true rfl) rfl dX11_parts_176 ?_
      refine g_imul hC dX11_parts_179 ?_
      refine g_iload_n hC 3 dX11_parts_180 rfl rfl ?_
      obtain ⟨h_3, hf⟩ := gdE hf
      refine g_idiv hC dX11_parts_181 (nzE h_3) ?_
      refine g_iload hC 5 dX11_parts_182 rfl ?_
      refine g_iload hC 4 dX11_parts_184 rfl ?_
      refine g_icmp_ge hC 193 dX11_parts_186 (by decide) (fun hc => ?_) (fun hc => ?_)
      · replace hf := ifT hf hc
        refine g_iconst hC (v := 0) dX11_parts_193 ic_0 ?_
        refine g_iadd hC dX11_parts_194 ?_
        obtain rfl := sm1E hf
        exact hret _ _ rfl dX11_parts_195
      · replace hf := ifF hf hc
        refine g_iconst hC (v := 1) dX11_parts_189 ic_1 ?_
        refine g_goto hC 194 dX11_parts_190 (by decide) ?_
        refine g_iadd hC dX11_parts_194 ?_
        obtain rfl := sm1E hf
        exact hret _ _ rfl dX11_parts_195
    · replace hf := ifF hf hc
      refine g_iload_n hC 1 dX11_parts_109 rfl rfl ?_
      refine g_aload_n hC 0 dX11_parts_110 rfl rfl ?_
      refine gt_X11_41 hC (a := 0) (kk_0 hL) (kn_0 hL) dX11_parts_111 ?_
      refine g_ref (b := 16) rfl ?_
      refine gt_X11_140 hC (a := 16) (kk_16 hL) (kn_16 hL) dX11_parts_114 ?_
      refine g_ref (b := 23) rfl ?_
      refine g_iload hC 7 dX11_parts_117 rfl ?_
      obtain ⟨r_4, q_5, hf⟩ := bd1E hf
      refine g_callV_i (a := 23) hC (X' := ov X0 [17, 25, 26] [x17, x25, x26]) (Y' := ov Y0 [] []) (As := [.int v7]) (gMi_eq (c_X7_hardnessOf l hL (kk_23 hL) (kn_23 hL) (nd_sub hN [1, 2] (by decide) (by rfl)) (nd_sub hM [] (by decide) (by rfl)) (ov_map hN [1, 2] (by rfl) (by rfl)) (ov_map hM [] (by rfl) (by rfl)) q_5) (ov_ovE hN (by rfl) [1, 2] [0] (by rfl) (by rfl) [x17] (by rfl) (by rfl) (by rfl) 3 (by rfl) (by decide)) (ov_ovE hM (by rfl) [] [] (by rfl) (by rfl) [] (by rfl) (by rfl) (by rfl) 0 (by rfl) (by decide))) tw_1080 tw_1077 tw_120 tw_1078 tw_1079 (ci := 7) rfl (by decide) (kk_23 hL) (kn_23 hL) pd_X7_hardnessOf (by decide) (by decide) rfl rfl (Nat.le_of_ble_eq_true rfl) rfl dX11_parts_119 ?_
      refine g_imul hC dX11_parts_122 ?_
      obtain ⟨t_6, et_6, hf⟩ := bnE hf
      refine g_topi et_6 ?_
      refine g_istore hC (i := 8) [(8, .int t_6), (0, .ref (b0 + 0)), (1, .int v1), (2, .int v2), (3, .int v3), (4, .int v4), (5, .int v5), (6, .int v6), (7, .int v7)] dX11_parts_123 (by decide) rfl ?_
      refine g_iload hC 5 dX11_parts_125 rfl ?_
      refine g_iload hC 0 dX11_parts_127 rfl ?_
      refine g_iload_n hC 4 dX11_parts_129 rfl rfl ?_
      obtain ⟨h_7, hf⟩ := gdE hf
      refine g_idiv hC dX11_parts_130 (nzE h_7) ?_
      refine g_isub hC dX11_parts_131 ?_
      obtain ⟨t_8, et_8, hf⟩ := bnE hf
      refine g_topi et_8 ?_
      refine g_istore hC (i := 4) [(4, .int t_8), (8, .int t_6), (0, .ref (b0 + 0)), (1, .int v1), (2, .int v2), (3, .int v3), (5, .int v5), (6, .int v6), (7, .int v7)] dX11_parts_132 (by decide) rfl ?_
      refine g_iload hC 1 dX11_parts_134 rfl ?_
      refine g_iload_n hC 5 dX11_parts_136 rfl rfl ?_
      obtain ⟨h_9, hf⟩ := gdE hf
      refine g_irem hC dX11_parts_137 (nzE h_9) ?_
      refine g_iload hC 7 dX11_parts_138 rfl ?_
      refine g_icmp_gt hC 158 dX11_parts_140 (by decide) (fun hc => ?_) (fun hc => ?_)
      · replace hf := ifT hf hc
        exact g_sub [2, 3, 4, 5, 0, 6, 7, 8] rfl (wX11_parts_158 hL hN hM hC  hret hk94 hf)
      · replace hf := ifF hf hc
        refine g_iload hC 1 dX11_parts_143 rfl ?_
        refine g_iload_n hC 5 dX11_parts_145 rfl rfl ?_
        obtain ⟨h_10, hf⟩ := gdE hf
        refine g_irem hC dX11_parts_146 (nzE h_10) ?_
        refine g_iload hC 7 dX11_parts_147 rfl ?_
        refine g_icmp_ne hC 161 dX11_parts_149 (by decide) (fun hc => ?_) (fun hc => ?_)
        · replace hf := ifF hf hc
          exact g_sub [2, 3, 4, 5, 0, 6, 7, 8] rfl (wX11_parts_161 hL hN hM hC  hret hk94 hf)
        · replace hf := ifT hf hc
          refine g_iload hC 8 dX11_parts_152 rfl ?_
          refine g_iload_n hC 4 dX11_parts_154 rfl rfl ?_
          refine g_icmp_ge hC 161 dX11_parts_155 (by decide) (fun hc => ?_) (fun hc => ?_)
          · replace hf := ifT hf hc
            exact g_sub [2, 3, 4, 5, 0, 6, 7, 8] rfl (wX11_parts_161 hL hN hM hC  hret hk94 hf)
          · replace hf := ifF hf hc
            exact g_sub [2, 3, 4, 5, 0, 6, 7, 8] rfl (wX11_parts_158 hL hN hM hC  hret hk94 hf)

def fX11_parts_26b   (x17 : Nat → Int32) (x25 : Nat → Int32) (x26 : Nat → Int32)  (k26 : Int32 → Int32 → Int32 → Int32 → Option (Int32)) (v1 : Int32) (v2 : Int32) (v3 : Int32) (v4 : Int32) : Option (Int32) := if (x17 4) ≤ v4 then (if 0 < v3 then (bd1 (fX7_hardnessOf x25 x26 v2) fun r_1 => (gd (nz v3) (bn ((v1 * r_1) - (v1 * r_1) / v3 * v3) fun t_4 => (fX11_parts_94 x17 x25 x26  v1 v2 v3 v1 0 t_4 0)))) else (some 0)) else (bd1 (fX7_hardnessOf x25 x26 v4) fun r_5 => (bn (v3 + r_5) fun t_7 => (bn (v4 + 1) fun t_8 => (k26 v1 v2 t_7 t_8))))
def fX11_parts_26   (x17 : Nat → Int32) (x25 : Nat → Int32) (x26 : Nat → Int32)  : Int32 → Int32 → Int32 → Int32 → Option (Int32) := lq4 (fX11_parts_26b x17 x25 x26 ) 5000
set_option maxHeartbeats 4000000 in
set_option maxRecDepth 100000 in
theorem wX11_parts_26 {l : Launch} {b0 : Nat} {D : GD} {K : KT} {n : Nat} {κ : QT} {X0 : XT} {Y0 : YT} {Z : ZT} (hL : LY n κ) (hN : ([17, 25, 26] : List Nat).Nodup) (hM : ([] : List Nat).Nodup) (hC : gC l b0 D K RX11 cX11_parts (some FieldType.int) 9 2 45 0 0) {x17 : Nat → Int32} {x25 : Nat → Int32} {x26 : Nat → Int32} {r : Int32} (hret : ∀ pc loc, narrow .int (.int r) = .int r → decode cX11_parts pc = .ok (.ireturn, 1) → gV l b0 D K (n, κ, ov X0 [17, 25, 26] [x17, x25, x26], ov Y0 [] [], Z, 0, 0) pc loc [.int r]) : ∀ (j : Nat) (v1 : Int32) (v2 : Int32) (v3 : Int32) (v4 : Int32), lq4 (fX11_parts_26b x17 x25 x26 ) j v1 v2 v3 v4 = some r → gV l b0 D K (n, κ, ov X0 [17, 25, 26] [x17, x25, x26], ov Y0 [] [], Z, 0, 0) 26 [(0, .ref (b0 + 0)), (1, .int v1), (2, .int v2), (3, .int v3), (4, .int v4)] [] := by
  intro j
  induction j with
  | zero => intro v1 v2 v3 v4 hf; cases hf
  | succ j hk26 =>
    intro v1 v2 v3 v4 hf
    replace hf : fX11_parts_26b x17 x25 x26  (lq4 (fX11_parts_26b x17 x25 x26 ) j) v1 v2 v3 v4 = some r := hf
    unfold fX11_parts_26b at hf
    refine g_iload hC 4 dX11_parts_26 rfl ?_
    refine g_aload_n hC 0 dX11_parts_28 rfl rfl ?_
    refine gt_X11_41 hC (a := 0) (kk_0 hL) (kn_0 hL) dX11_parts_29 ?_
    refine g_ref (b := 16) rfl ?_
    refine gt_X11_51 hC (a := 16) (kk_16 hL) (kn_16 hL) dX11_parts_32 ?_
    refine g_ref (b := 17) rfl ?_
    refine gt_X11_117 hC (x := x17) (kk_17 hL) (kn_17 hL) (ov_get hN 0 rfl rfl) dX11_parts_35 ?_
    refine g_icmp_ge hC 62 dX11_parts_38 (by decide) (fun hc => ?_) (fun hc => ?_)
    · replace hf := ifT hf hc
      refine g_iload_n hC 3 dX11_parts_62 rfl rfl ?_
      refine g_if_gt hC 68 dX11_parts_63 (by decide) (fun hc => ?_) (fun hc => ?_)
      · replace hf := ifT hf hc
        refine g_iload_n hC 1 dX11_parts_68 rfl rfl ?_
        refine g_istore hC (i := 4) [(4, .int v1), (0, .ref (b0 + 0)), (1, .int v1), (2, .int v2), (3, .int v3)] dX11_parts_69 (by decide) rfl ?_
        refine g_iconst hC (v := 0) dX11_parts_71 ic_0 ?_
        refine g_istore hC (i := 5) [(5, .int 0), (4, .int v1), (0, .ref (b0 + 0)), (1, .int v1), (2, .int v2), (3, .int v3)] dX11_parts_72 (by decide) rfl ?_
        refine g_iload_n hC 3 dX11_parts_74 rfl rfl ?_
        refine g_aload_n hC 2 dX11_parts_75 rfl rfl ?_
        refine gt_X11_41 hC (a := 0) (kk_0 hL) (kn_0 hL) dX11_parts_76 ?_
        refine g_ref (b := 16) rfl ?_
        refine gt_X11_140 hC (a := 16) (kk_16 hL) (kn_16 hL) dX11_parts_79 ?_
        refine g_ref (b := 23) rfl ?_
        refine g_iload_n hC 4 dX11_parts_82 rfl rfl ?_
        obtain ⟨r_1, q_2, hf⟩ := bd1E hf
        refine g_callV_i (a := 23) hC (X' := ov X0 [17, 25, 26] [x17, x25, x26]) (Y' := ov Y0 [] []) (As := [.int v2]) (gMi_eq (c_X7_hardnessOf l hL (kk_23 hL) (kn_23 hL) (nd_sub hN [1, 2] (by decide) (by rfl)) (nd_sub hM [] (by decide) (by rfl)) (ov_map hN [1, 2] (by rfl) (by rfl)) (ov_map hM [] (by rfl) (by rfl)) q_2) (ov_ovE hN (by rfl) [1, 2] [0] (by rfl) (by rfl) [x17] (by rfl) (by rfl) (by rfl) 3 (by rfl) (by decide)) (ov_ovE hM (by rfl) [] [] (by rfl) (by rfl) [] (by rfl) (by rfl) (by rfl) 0 (by rfl) (by decide))) tw_1080 tw_1077 tw_120 tw_1078 tw_1079 (ci := 7) rfl (by decide) (kk_23 hL) (kn_23 hL) pd_X7_hardnessOf (by decide) (by decide) rfl rfl (Nat.le_of_ble_eq_true rfl) rfl dX11_parts_83 ?_
        refine g_imul hC dX11_parts_86 ?_
        refine g_iload_n hC 5 dX11_parts_87 rfl rfl ?_
        obtain ⟨h_3, hf⟩ := gdE hf
        refine g_irem hC dX11_parts_88 (nzE h_3) ?_
        obtain ⟨t_4, et_4, hf⟩ := bnE hf
        refine g_topi et_4 ?_
        refine g_istore hC (i := 6) [(6, .int t_4), (5, .int 0), (4, .int v1), (0, .ref (b0 + 0)), (1, .int v1), (2, .int v2), (3, .int v3)] dX11_parts_89 (by decide) rfl ?_
        refine g_iconst hC (v := 0) dX11_parts_91 ic_0 ?_
        refine g_istore hC (i := 7) [(7, .int 0), (6, .int t_4), (5, .int 0), (4, .int v1), (0, .ref (b0 + 0)), (1, .int v1), (2, .int v2), (3, .int v3)] dX11_parts_92 (by decide) rfl ?_
        exact g_sub [4, 5, 6, 7, 3, 2, 1, 0] rfl (wX11_parts_94 hL hN hM hC  hret  5000 v1 v2 v3 v1 0 t_4 0 hf)
      · replace hf := ifF hf hc
        refine g_iconst hC (v := 0) dX11_parts_66 ic_0 ?_
        obtain rfl := sm1E hf
        exact hret _ _ rfl dX11_parts_67
    · replace hf := ifF hf hc
      refine g_iload_n hC 3 dX11_parts_41 rfl rfl ?_
      refine g_aload_n hC 0 dX11_parts_42 rfl rfl ?_
      refine gt_X11_41 hC (a := 0) (kk_0 hL) (kn_0 hL) dX11_parts_43 ?_
      refine g_ref (b := 16) rfl ?_
      refine gt_X11_140 hC (a := 16) (kk_16 hL) (kn_16 hL) dX11_parts_46 ?_
      refine g_ref (b := 23) rfl ?_
      refine g_iload hC 4 dX11_parts_49 rfl ?_
      obtain ⟨r_5, q_6, hf⟩ := bd1E hf
      refine g_callV_i (a := 23) hC (X' := ov X0 [17, 25, 26] [x17, x25, x26]) (Y' := ov Y0 [] []) (As := [.int v4]) (gMi_eq (c_X7_hardnessOf l hL (kk_23 hL) (kn_23 hL) (nd_sub hN [1, 2] (by decide) (by rfl)) (nd_sub hM [] (by decide) (by rfl)) (ov_map hN [1, 2] (by rfl) (by rfl)) (ov_map hM [] (by rfl) (by rfl)) q_6) (ov_ovE hN (by rfl) [1, 2] [0] (by rfl) (by rfl) [x17] (by rfl) (by rfl) (by rfl) 3 (by rfl) (by decide)) (ov_ovE hM (by rfl) [] [] (by rfl) (by rfl) [] (by rfl) (by rfl) (by rfl) 0 (by rfl) (by decide))) tw_1080 tw_1077 tw_120 tw_1078 tw_1079 (ci := 7) rfl (by decide) (kk_23 hL) (kn_23 hL) pd_X7_hardnessOf (by decide) (by decide) rfl rfl (Nat.le_of_ble_eq_true rfl) rfl dX11_parts_51 ?_
      refine g_iadd hC dX11_parts_54 ?_
      obtain ⟨t_7, et_7, hf⟩ := bnE hf
      refine g_topi et_7 ?_
      refine g_istore_n hC (i := 3) [(3, .int t_7), (0, .ref (b0 + 0)), (1, .int v1), (2, .int v2), (4, .int v4)] rfl dX11_parts_55 (by decide) rfl ?_
      obtain ⟨t_8, et_8, hf⟩ := bnE hf
      refine g_iinc hC (i := 4) (v := t_8) [(4, .int t_8), (3, .int t_7), (0, .ref (b0 + 0)), (1, .int v1), (2, .int v2)] dX11_parts_56 (q := 4) rfl ((congrArg (HAdd.hAdd v4) ic_1).trans et_8.symm) (by decide) rfl ?_
      refine g_goto hC 26 dX11_parts_59 (by decide) ?_
      exact g_sub [2, 3, 4, 1, 0] rfl (hk26 v1 v2 t_7 t_8 hf)

def fX11_parts_0   (x17 : Nat → Int32) (x25 : Nat → Int32) (x26 : Nat → Int32)  (v1 : Int32) (v2 : Int32) : Option (Int32) := bd1 (fX11_isHouse x17 v2) fun r_1 => (if r_1 = 0 then (some (-1)) else (bd1 (fX11_isWithin v1 0 9999) fun r_3 => (if r_3 = 0 then (some (-1)) else (fX11_parts_26 x17 x25 x26  v1 v2 0 0))))
set_option maxHeartbeats 4000000 in
set_option maxRecDepth 100000 in
theorem wX11_parts_0 {l : Launch} {b0 : Nat} {D : GD} {K : KT} {n : Nat} {κ : QT} {X0 : XT} {Y0 : YT} {Z : ZT} (hL : LY n κ) (hN : ([17, 25, 26] : List Nat).Nodup) (hM : ([] : List Nat).Nodup) (hC : gC l b0 D K RX11 cX11_parts (some FieldType.int) 9 2 45 0 0) {x17 : Nat → Int32} {x25 : Nat → Int32} {x26 : Nat → Int32} {r : Int32} (hret : ∀ pc loc, narrow .int (.int r) = .int r → decode cX11_parts pc = .ok (.ireturn, 1) → gV l b0 D K (n, κ, ov X0 [17, 25, 26] [x17, x25, x26], ov Y0 [] [], Z, 0, 0) pc loc [.int r]) {v1 : Int32} {v2 : Int32} (hf : fX11_parts_0 x17 x25 x26  v1 v2 = some r) : gV l b0 D K (n, κ, ov X0 [17, 25, 26] [x17, x25, x26], ov Y0 [] [], Z, 0, 0) 0 [(0, .ref (b0 + 0)), (1, .int v1), (2, .int v2)] [] := by
  unfold fX11_parts_0 at hf
  refine g_aload_n hC 0 dX11_parts_0 rfl rfl ?_
  refine g_iload_n hC 2 dX11_parts_1 rfl rfl ?_
  obtain ⟨r_1, q_2, hf⟩ := bd1E hf
  refine g_callV_i (a := 0) hC (X' := ov X0 [17, 25, 26] [x17, x25, x26]) (Y' := ov Y0 [] []) (As := [.int v2]) (gMi_eq (c_X11_isHouse l hL (ov_map hN [0] (by rfl) (by rfl)) (ov_map hM [] (by rfl) (by rfl)) q_2) (ov_ovE hN (by rfl) [0] [1, 2] (by rfl) (by rfl) [x25, x26] (by rfl) (by rfl) (by rfl) 3 (by rfl) (by decide)) (ov_ovE hM (by rfl) [] [] (by rfl) (by rfl) [] (by rfl) (by rfl) (by rfl) 0 (by rfl) (by decide))) tw_790 tw_787 tw_116 tw_789 tw_21 (ci := 11) rfl (by decide) (kk_0 hL) (kn_0 hL) pd_X11_isHouse (by decide) (by decide) rfl rfl (Nat.le_of_ble_eq_true rfl) rfl dX11_parts_2 ?_
  refine g_if_eq hC 19 dX11_parts_5 (by decide) (fun hc => ?_) (fun hc => ?_)
  · replace hf := ifT hf hc
    refine g_iconst hC (v := (-1)) dX11_parts_19 ic_m1 ?_
    obtain rfl := sm1E hf
    exact hret _ _ rfl dX11_parts_20
  · replace hf := ifF hf hc
    refine g_iload_n hC 1 dX11_parts_8 rfl rfl ?_
    refine g_iconst hC (v := 0) dX11_parts_9 ic_0 ?_
    refine g_sipush hC (v := 9999) dX11_parts_10 sp_9999 ?_
    obtain ⟨r_3, q_4, hf⟩ := bd1E hf
    refine g_callS_i hC (X' := ov X0 [17, 25, 26] [x17, x25, x26]) (Y' := ov Y0 [] []) (As := [.int v1, .int 0, .int 9999]) (gMi_eq (c_X11_isWithin l hL (ov_map hN [] (by rfl) (by rfl)) (ov_map hM [] (by rfl) (by rfl)) q_4) (ov_ovE hN (by rfl) [] [0, 1, 2] (by rfl) (by rfl) [x17, x25, x26] (by rfl) (by rfl) (by rfl) 3 (by rfl) (by decide)) (ov_ovE hM (by rfl) [] [] (by rfl) (by rfl) [] (by rfl) (by rfl) (by rfl) 0 (by rfl) (by decide))) tw_666 tw_870 tw_116 tw_665 pd_X11_isWithin (by decide) (by decide) rfl rfl (Nat.le_of_ble_eq_true rfl) rfl dX11_parts_13 ?_
    refine g_if_ne hC 21 dX11_parts_16 (by decide) (fun hc => ?_) (fun hc => ?_)
    · replace hf := ifF hf hc
      refine g_iconst hC (v := 0) dX11_parts_21 ic_0 ?_
      refine g_istore_n hC (i := 3) [(3, .int 0), (0, .ref (b0 + 0)), (1, .int v1), (2, .int v2)] rfl dX11_parts_22 (by decide) rfl ?_
      refine g_iconst hC (v := 0) dX11_parts_23 ic_0 ?_
      refine g_istore hC (i := 4) [(4, .int 0), (3, .int 0), (0, .ref (b0 + 0)), (1, .int v1), (2, .int v2)] dX11_parts_24 (by decide) rfl ?_
      exact g_sub [2, 3, 4, 1, 0] rfl (wX11_parts_26 hL hN hM hC  hret  5000 v1 v2 0 0 hf)
    · replace hf := ifT hf hc
      refine g_iconst hC (v := (-1)) dX11_parts_19 ic_m1 ?_
      obtain rfl := sm1E hf
      exact hret _ _ rfl dX11_parts_20

def fX11_parts   (x17 : Nat → Int32) (x25 : Nat → Int32) (x26 : Nat → Int32)  (v1 : Int32) (v2 : Int32)   : Option (Int32) := fX11_parts_0 x17 x25 x26 v1 v2

set_option maxHeartbeats 4000000 in
set_option maxRecDepth 100000 in
theorem c_X11_parts (l : Launch) {b0 : Nat} {D : GD} {n : Nat} {κ : QT} {X0 : XT} {Y0 : YT} {Z : ZT} (hL : LY n κ) {x17 : Nat → Int32} {x25 : Nat → Int32} {x26 : Nat → Int32} (hx : ([17, 25, 26] : List Nat).map X0 = [x17, x25, x26]) (hy : ([] : List Nat).map Y0 = []) {v1 : Int32} {v2 : Int32} {r : Int32} (hf : fX11_parts x17 x25 x26 v1 v2 = some r) : gMi l yX11_parts cX11_parts 9 (some FieldType.int) 2 45 0 0 b0 D [.ref (b0 + 0), .int v1, .int v2] (n, κ, X0, Y0, Z) (n, κ, ov X0 [17, 25, 26] [x17, x25, x26], ov Y0 [] [], Z) r := by
  have hN : ([17, 25, 26] : List Nat).Nodup := by decide
  have hM : ([] : List Nat).Nodup := by decide
  refine g_meti (own := RX11) (by decide) rfl rfl (Nat.le_of_ble_eq_true rfl) ?_
  intro K hC hret
  have e := wX11_parts_0 hL hN hM hC  hret hf
  rw [ov_id' hx, ov_id' hy] at e
  exact g_sub [0, 1, 2] rfl e

-- X11_note
def fX11_note_0   (x17 : Nat → Int32)  (v1 : Int32) (v2 : Int32) (v3 : Int32) (x16 : (Nat → Int32)) (x28 : (Nat → Int32)) (x29 : (Nat → Int32)) (x30 : (Nat → Int32)) : Option (Int32 × (Nat → Int32) × (Nat → Int32) × (Nat → Int32) × (Nat → Int32)) := if v1 = (-1) then (some (0, (upd x16 7 0), x28, x29, x30)) else (bd1 (fX11_isWithin v1 0 60) fun r_1 => (if r_1 = 0 then (some ((-2), x16, x28, x29, x30)) else (bd1 (fX11_isHouse x17 v2) fun r_3 => (if r_3 = 0 then (some ((-2), x16, x28, x29, x30)) else (bd1 (fX11_isWithin v3 0 (x17 0)) fun r_5 => (if r_5 = 0 then (some ((-2), x16, x28, x29, x30)) else (if (x16 7) < 10 then (bd4 (fX6_addNote v1 v2 v3 x16 x28 x29 x30) fun x16_7 x28_8 x29_9 x30_10 => (some (x16_7 7, x16_7, x28_8, x29_9, x30_10))) else (some ((-2), x16, x28, x29, x30)))))))))
set_option maxHeartbeats 4000000 in
set_option maxRecDepth 100000 in
theorem wX11_note_0 {l : Launch} {b0 : Nat} {D : GD} {K : KT} {n : Nat} {κ : QT} {X0 : XT} {Y0 : YT} {Z : ZT} (hL : LY n κ) (hN : ([16, 17, 28, 29, 30] : List Nat).Nodup) (hM : ([] : List Nat).Nodup) (hC : gC l b0 D K RX11 cX11_note (some FieldType.int) 4 1 23 0 0) {x17 : Nat → Int32} {r : Int32} {rx16 : (Nat → Int32)} {rx28 : (Nat → Int32)} {rx29 : (Nat → Int32)} {rx30 : (Nat → Int32)} (hret : ∀ pc loc, narrow .int (.int r) = .int r → decode cX11_note pc = .ok (.ireturn, 1) → gV l b0 D K (n, κ, ov X0 [16, 17, 28, 29, 30] [rx16, x17, rx28, rx29, rx30], ov Y0 [] [], Z, 0, 0) pc loc [.int r]) {v1 : Int32} {v2 : Int32} {v3 : Int32} {x16 : (Nat → Int32)} {x28 : (Nat → Int32)} {x29 : (Nat → Int32)} {x30 : (Nat → Int32)} (hf : fX11_note_0 x17  v1 v2 v3 x16 x28 x29 x30 = some (r, rx16, rx28, rx29, rx30)) : gV l b0 D K (n, κ, ov X0 [16, 17, 28, 29, 30] [x16, x17, x28, x29, x30], ov Y0 [] [], Z, 0, 0) 0 [(0, .ref (b0 + 0)), (1, .int v1), (2, .int v2), (3, .int v3)] [] := by
  unfold fX11_note_0 at hf
  refine g_iload_n hC 1 dX11_note_0 rfl rfl ?_
  refine g_iconst hC (v := (-1)) dX11_note_1 ic_m1 ?_
  refine g_icmp_ne hC 15 dX11_note_2 (by decide) (fun hc => ?_) (fun hc => ?_)
  · replace hf := ifF hf hc
    refine g_iload_n hC 1 dX11_note_15 rfl rfl ?_
    refine g_iconst hC (v := 0) dX11_note_16 ic_0 ?_
    refine g_bipush hC (v := 60) dX11_note_17 bp_60 ?_
    obtain ⟨r_1, q_2, hf⟩ := bd1E hf
    refine g_callS_i hC (X' := ov X0 [16, 17, 28, 29, 30] [x16, x17, x28, x29, x30]) (Y' := ov Y0 [] []) (As := [.int v1, .int 0, .int 60]) (gMi_eq (c_X11_isWithin l hL (ov_map hN [] (by rfl) (by rfl)) (ov_map hM [] (by rfl) (by rfl)) q_2) (ov_ovE hN (by rfl) [] [0, 1, 2, 3, 4] (by rfl) (by rfl) [x16, x17, x28, x29, x30] (by rfl) (by rfl) (by rfl) 5 (by rfl) (by decide)) (ov_ovE hM (by rfl) [] [] (by rfl) (by rfl) [] (by rfl) (by rfl) (by rfl) 0 (by rfl) (by decide))) tw_666 tw_870 tw_116 tw_665 pd_X11_isWithin (by decide) (by decide) rfl rfl (Nat.le_of_ble_eq_true rfl) rfl dX11_note_19 ?_
    refine g_if_eq hC 63 dX11_note_22 (by decide) (fun hc => ?_) (fun hc => ?_)
    · replace hf := ifT hf hc
      refine g_bipush hC (v := (-2)) dX11_note_63 bp_m2 ?_
      obtain ⟨rfl, rfl, rfl, rfl, rfl⟩ := sm5E hf
      exact hret _ _ rfl dX11_note_65
    · replace hf := ifF hf hc
      refine g_aload_n hC 0 dX11_note_25 rfl rfl ?_
      refine g_iload_n hC 2 dX11_note_26 rfl rfl ?_
      obtain ⟨r_3, q_4, hf⟩ := bd1E hf
      refine g_callV_i (a := 0) hC (X' := ov X0 [16, 17, 28, 29, 30] [x16, x17, x28, x29, x30]) (Y' := ov Y0 [] []) (As := [.int v2]) (gMi_eq (c_X11_isHouse l hL (ov_map hN [1] (by rfl) (by rfl)) (ov_map hM [] (by rfl) (by rfl)) q_4) (ov_ovE hN (by rfl) [1] [0, 2, 3, 4] (by rfl) (by rfl) [x16, x28, x29, x30] (by rfl) (by rfl) (by rfl) 5 (by rfl) (by decide)) (ov_ovE hM (by rfl) [] [] (by rfl) (by rfl) [] (by rfl) (by rfl) (by rfl) 0 (by rfl) (by decide))) tw_790 tw_787 tw_116 tw_789 tw_21 (ci := 11) rfl (by decide) (kk_0 hL) (kn_0 hL) pd_X11_isHouse (by decide) (by decide) rfl rfl (Nat.le_of_ble_eq_true rfl) rfl dX11_note_27 ?_
      refine g_if_eq hC 63 dX11_note_30 (by decide) (fun hc => ?_) (fun hc => ?_)
      · replace hf := ifT hf hc
        refine g_bipush hC (v := (-2)) dX11_note_63 bp_m2 ?_
        obtain ⟨rfl, rfl, rfl, rfl, rfl⟩ := sm5E hf
        exact hret _ _ rfl dX11_note_65
      · replace hf := ifF hf hc
        refine g_iload_n hC 3 dX11_note_33 rfl rfl ?_
        refine g_iconst hC (v := 0) dX11_note_34 ic_0 ?_
        refine g_aload_n hC 0 dX11_note_35 rfl rfl ?_
        refine gt_X11_41 hC (a := 0) (kk_0 hL) (kn_0 hL) dX11_note_36 ?_
        refine g_ref (b := 16) rfl ?_
        refine gt_X11_51 hC (a := 16) (kk_16 hL) (kn_16 hL) dX11_note_39 ?_
        refine g_ref (b := 17) rfl ?_
        refine gt_X11_202 hC (x := x17) (kk_17 hL) (kn_17 hL) (ov_get hN 1 rfl rfl) dX11_note_42 ?_
        obtain ⟨r_5, q_6, hf⟩ := bd1E hf
        refine g_callS_i hC (X' := ov X0 [16, 17, 28, 29, 30] [x16, x17, x28, x29, x30]) (Y' := ov Y0 [] []) (As := [.int v3, .int 0, .int (x17 0)]) (gMi_eq (c_X11_isWithin l hL (ov_map hN [] (by rfl) (by rfl)) (ov_map hM [] (by rfl) (by rfl)) q_6) (ov_ovE hN (by rfl) [] [0, 1, 2, 3, 4] (by rfl) (by rfl) [x16, x17, x28, x29, x30] (by rfl) (by rfl) (by rfl) 5 (by rfl) (by decide)) (ov_ovE hM (by rfl) [] [] (by rfl) (by rfl) [] (by rfl) (by rfl) (by rfl) 0 (by rfl) (by decide))) tw_666 tw_870 tw_116 tw_665 pd_X11_isWithin (by decide) (by decide) rfl rfl (Nat.le_of_ble_eq_true rfl) rfl dX11_note_45 ?_
        refine g_if_eq hC 63 dX11_note_48 (by decide) (fun hc => ?_) (fun hc => ?_)
        · replace hf := ifT hf hc
          refine g_bipush hC (v := (-2)) dX11_note_63 bp_m2 ?_
          obtain ⟨rfl, rfl, rfl, rfl, rfl⟩ := sm5E hf
          exact hret _ _ rfl dX11_note_65
        · replace hf := ifF hf hc
          refine g_aload_n hC 0 dX11_note_51 rfl rfl ?_
          refine gt_X11_41 hC (a := 0) (kk_0 hL) (kn_0 hL) dX11_note_52 ?_
          refine g_ref (b := 16) rfl ?_
          refine gt_X11_274 hC (x := x16) (kk_16 hL) (kn_16 hL) (ov_get hN 0 rfl rfl) dX11_note_55 ?_
          refine g_bipush hC (v := 10) dX11_note_58 bp_10 ?_
          refine g_icmp_lt hC 66 dX11_note_60 (by decide) (fun hc => ?_) (fun hc => ?_)
          · replace hf := ifT hf hc
            refine g_aload_n hC 0 dX11_note_66 rfl rfl ?_
            refine gt_X11_41 hC (a := 0) (kk_0 hL) (kn_0 hL) dX11_note_67 ?_
            refine g_ref (b := 16) rfl ?_
            refine g_iload_n hC 1 dX11_note_70 rfl rfl ?_
            refine g_iload_n hC 2 dX11_note_71 rfl rfl ?_
            refine g_iload_n hC 3 dX11_note_72 rfl rfl ?_
            obtain ⟨x16_7, x28_8, x29_9, x30_10, q_11, hf⟩ := bd4E hf
            refine g_callV_v (a := 16) hC (X' := ov X0 [16, 17, 28, 29, 30] [x16_7, x17, x28_8, x29_9, x30_10]) (Y' := ov Y0 [] []) (As := [.int v1, .int v2, .int v3]) (gMv_eq (c_X6_addNote l hL (ov_map hN [0, 2, 3, 4] (by rfl) (by rfl)) (ov_map hM [] (by rfl) (by rfl)) q_11) (ov_ovE hN (by rfl) [0, 2, 3, 4] [1] (by rfl) (by rfl) [x17] (by rfl) (by rfl) (by rfl) 5 (by rfl) (by decide)) (ov_ovE hM (by rfl) [] [] (by rfl) (by rfl) [] (by rfl) (by rfl) (by rfl) 0 (by rfl) (by decide))) tw_1088 tw_1085 tw_122 tw_1086 tw_1087 (ci := 6) rfl (by decide) (kk_16 hL) (kn_16 hL) pd_X6_addNote (by decide) (by decide) rfl rfl (Nat.le_of_ble_eq_true rfl) rfl dX11_note_73 ?_
            refine g_aload_n hC 0 dX11_note_76 rfl rfl ?_
            refine gt_X11_41 hC (a := 0) (kk_0 hL) (kn_0 hL) dX11_note_77 ?_
            refine g_ref (b := 16) rfl ?_
            refine gt_X11_274 hC (x := x16_7) (kk_16 hL) (kn_16 hL) (ov_get hN 0 rfl rfl) dX11_note_80 ?_
            obtain ⟨rfl, rfl, rfl, rfl, rfl⟩ := sm5E hf
            exact hret _ _ rfl dX11_note_83
          · replace hf := ifF hf hc
            refine g_bipush hC (v := (-2)) dX11_note_63 bp_m2 ?_
            obtain ⟨rfl, rfl, rfl, rfl, rfl⟩ := sm5E hf
            exact hret _ _ rfl dX11_note_65
  · replace hf := ifT hf hc
    refine g_aload_n hC 0 dX11_note_5 rfl rfl ?_
    refine gt_X11_41 hC (a := 0) (kk_0 hL) (kn_0 hL) dX11_note_6 ?_
    refine g_ref (b := 16) rfl ?_
    refine g_iconst hC (v := 0) dX11_note_9 ic_0 ?_
    refine pt_X11_274 hC (x := x16) (kk_16 hL) (kn_16 hL) (ov_get hN 0 rfl rfl) (ov_set hN (by rfl) 0 (by rfl)) dX11_note_10 ?_
    show gV l b0 D K (n, κ, ov X0 [16, 17, 28, 29, 30] [(upd x16 7 0), x17, x28, x29, x30], ov Y0 [] [], Z, 0, 0) 13 [(0, .ref (b0 + 0)), (1, .int v1), (2, .int v2), (3, .int v3)] []
    refine g_iconst hC (v := 0) dX11_note_13 ic_0 ?_
    obtain ⟨rfl, rfl, rfl, rfl, rfl⟩ := sm5E hf
    exact hret _ _ rfl dX11_note_14

def fX11_note   (x17 : Nat → Int32)  (v1 : Int32) (v2 : Int32) (v3 : Int32) (x16 : Nat → Int32) (x28 : Nat → Int32) (x29 : Nat → Int32) (x30 : Nat → Int32)  : Option (Int32 × (Nat → Int32) × (Nat → Int32) × (Nat → Int32) × (Nat → Int32)) := fX11_note_0 x17 v1 v2 v3 x16 x28 x29 x30

set_option maxHeartbeats 4000000 in
set_option maxRecDepth 100000 in
theorem c_X11_note (l : Launch) {b0 : Nat} {D : GD} {n : Nat} {κ : QT} {X0 : XT} {Y0 : YT} {Z : ZT} (hL : LY n κ) {x16 : Nat → Int32} {x17 : Nat → Int32} {x28 : Nat → Int32} {x29 : Nat → Int32} {x30 : Nat → Int32} (hx : ([16, 17, 28, 29, 30] : List Nat).map X0 = [x16, x17, x28, x29, x30]) (hy : ([] : List Nat).map Y0 = []) {v1 : Int32} {v2 : Int32} {v3 : Int32} {r : Int32} {rx16 : (Nat → Int32)} {rx28 : (Nat → Int32)} {rx29 : (Nat → Int32)} {rx30 : (Nat → Int32)} (hf : fX11_note x17 v1 v2 v3 x16 x28 x29 x30 = some (r, rx16, rx28, rx29, rx30)) : gMi l yX11_note cX11_note 4 (some FieldType.int) 1 23 0 0 b0 D [.ref (b0 + 0), .int v1, .int v2, .int v3] (n, κ, X0, Y0, Z) (n, κ, ov X0 [16, 17, 28, 29, 30] [rx16, x17, rx28, rx29, rx30], ov Y0 [] [], Z) r := by
  have hN : ([16, 17, 28, 29, 30] : List Nat).Nodup := by decide
  have hM : ([] : List Nat).Nodup := by decide
  refine g_meti (own := RX11) (by decide) rfl rfl (Nat.le_of_ble_eq_true rfl) ?_
  intro K hC hret
  have e := wX11_note_0 hL hN hM hC  hret hf
  rw [ov_id' hx, ov_id' hy] at e
  exact g_sub [0, 1, 2, 3] rfl e

-- X11_seed
def fX11_seed_0     (v1 : Int32) (x16 : (Nat → Int32)) : Option (Int32 × (Nat → Int32)) := if 0 ≤ v1 then (bn (x16 9) fun t_1 => (some (t_1, (upd x16 9 v1)))) else (some ((-1), x16))
set_option maxHeartbeats 4000000 in
set_option maxRecDepth 100000 in
theorem wX11_seed_0 {l : Launch} {b0 : Nat} {D : GD} {K : KT} {n : Nat} {κ : QT} {X0 : XT} {Y0 : YT} {Z : ZT} (hL : LY n κ) (hN : ([16] : List Nat).Nodup) (hM : ([] : List Nat).Nodup) (hC : gC l b0 D K RX11 cX11_seed (some FieldType.int) 3 0 0 0 0) {r : Int32} {rx16 : (Nat → Int32)} (hret : ∀ pc loc, narrow .int (.int r) = .int r → decode cX11_seed pc = .ok (.ireturn, 1) → gV l b0 D K (n, κ, ov X0 [16] [rx16], ov Y0 [] [], Z, 0, 0) pc loc [.int r]) {v1 : Int32} {x16 : (Nat → Int32)} (hf : fX11_seed_0   v1 x16 = some (r, rx16)) : gV l b0 D K (n, κ, ov X0 [16] [x16], ov Y0 [] [], Z, 0, 0) 0 [(0, .ref (b0 + 0)), (1, .int v1)] [] := by
  unfold fX11_seed_0 at hf
  refine g_iload_n hC 1 dX11_seed_0 rfl rfl ?_
  refine g_if_ge hC 6 dX11_seed_1 (by decide) (fun hc => ?_) (fun hc => ?_)
  · replace hf := ifT hf hc
    refine g_aload_n hC 0 dX11_seed_6 rfl rfl ?_
    refine gt_X11_41 hC (a := 0) (kk_0 hL) (kn_0 hL) dX11_seed_7 ?_
    refine g_ref (b := 16) rfl ?_
    refine gt_X11_290 hC (x := x16) (kk_16 hL) (kn_16 hL) (ov_get hN 0 rfl rfl) dX11_seed_10 ?_
    obtain ⟨t_1, et_1, hf⟩ := bnE hf
    refine g_topi et_1 ?_
    refine g_istore_n hC (i := 2) [(2, .int t_1), (0, .ref (b0 + 0)), (1, .int v1)] rfl dX11_seed_13 (by decide) rfl ?_
    refine g_aload_n hC 1 dX11_seed_14 rfl rfl ?_
    refine gt_X11_41 hC (a := 0) (kk_0 hL) (kn_0 hL) dX11_seed_15 ?_
    refine g_ref (b := 16) rfl ?_
    refine g_iload_n hC 2 dX11_seed_18 rfl rfl ?_
    refine pt_X11_290 hC (x := x16) (kk_16 hL) (kn_16 hL) (ov_get hN 0 rfl rfl) (ov_set hN (by rfl) 0 (by rfl)) dX11_seed_19 ?_
    show gV l b0 D K (n, κ, ov X0 [16] [(upd x16 9 v1)], ov Y0 [] [], Z, 0, 0) 22 [(2, .int t_1), (0, .ref (b0 + 0)), (1, .int v1)] []
    refine g_iload_n hC 0 dX11_seed_22 rfl rfl ?_
    obtain ⟨rfl, rfl⟩ := sm2E hf
    exact hret _ _ rfl dX11_seed_23
  · replace hf := ifF hf hc
    refine g_iconst hC (v := (-1)) dX11_seed_4 ic_m1 ?_
    obtain ⟨rfl, rfl⟩ := sm2E hf
    exact hret _ _ rfl dX11_seed_5

def fX11_seed     (v1 : Int32) (x16 : Nat → Int32)  : Option (Int32 × (Nat → Int32)) := fX11_seed_0  v1 x16

set_option maxHeartbeats 4000000 in
set_option maxRecDepth 100000 in
theorem c_X11_seed (l : Launch) {b0 : Nat} {D : GD} {n : Nat} {κ : QT} {X0 : XT} {Y0 : YT} {Z : ZT} (hL : LY n κ) {x16 : Nat → Int32} (hx : ([16] : List Nat).map X0 = [x16]) (hy : ([] : List Nat).map Y0 = []) {v1 : Int32} {r : Int32} {rx16 : (Nat → Int32)} (hf : fX11_seed  v1 x16 = some (r, rx16)) : gMi l yX11_seed cX11_seed 3 (some FieldType.int) 0 0 0 0 b0 D [.ref (b0 + 0), .int v1] (n, κ, X0, Y0, Z) (n, κ, ov X0 [16] [rx16], ov Y0 [] [], Z) r := by
  have hN : ([16] : List Nat).Nodup := by decide
  have hM : ([] : List Nat).Nodup := by decide
  refine g_meti (own := RX11) (by decide) rfl rfl (Nat.le_of_ble_eq_true rfl) ?_
  intro K hC hret
  have e := wX11_seed_0 hL hN hM hC  hret hf
  rw [ov_id' hx, ov_id' hy] at e
  exact g_sub [0, 1] rfl e

-- X11_countTold
def fX11_countTold_0   (x0 : Nat → Int32) (x16 : Nat → Int32) (x17 : Nat → Int32)  (v1 : Int32) : Option (Int32) := if v1.toInt = 0 then (some (x17 0)) else (if v1.toInt = 1 then (some (x17 1)) else (if v1.toInt = 2 then (some (x17 3)) else (if v1.toInt = 3 then (some (x17 4)) else (if v1.toInt = 4 then (some (x0 4)) else (some (x16 8))))))
set_option maxHeartbeats 4000000 in
set_option maxRecDepth 100000 in
theorem wX11_countTold_0 {l : Launch} {b0 : Nat} {D : GD} {K : KT} {n : Nat} {κ : QT} {X0 : XT} {Y0 : YT} {Z : ZT} (hL : LY n κ) (hN : ([0, 16, 17] : List Nat).Nodup) (hM : ([] : List Nat).Nodup) (hC : gC l b0 D K RX11 cX11_countTold (some FieldType.int) 2 0 0 0 0) {x0 : Nat → Int32} {x16 : Nat → Int32} {x17 : Nat → Int32} {r : Int32} (hret : ∀ pc loc, narrow .int (.int r) = .int r → decode cX11_countTold pc = .ok (.ireturn, 1) → gV l b0 D K (n, κ, ov X0 [0, 16, 17] [x0, x16, x17], ov Y0 [] [], Z, 0, 0) pc loc [.int r]) {v1 : Int32} (hf : fX11_countTold_0 x0 x16 x17  v1 = some r) : gV l b0 D K (n, κ, ov X0 [0, 16, 17] [x0, x16, x17], ov Y0 [] [], Z, 0, 0) 0 [(0, .ref (b0 + 0)), (1, .int v1)] [] := by
  unfold fX11_countTold_0 at hf
  refine g_iload_n hC 1 dX11_countTold_0 rfl rfl ?_
  by_cases c_1 : v1.toInt = 0
  · replace hf := ifT hf c_1
    refine g_tabIn hC 36 dX11_countTold_1 (by omega) (by omega) (by rw [c_1]; rfl) (by decide) ?_
    refine g_aload_n hC 0 dX11_countTold_36 rfl rfl ?_
    refine gt_X11_41 hC (a := 0) (kk_0 hL) (kn_0 hL) dX11_countTold_37 ?_
    refine g_ref (b := 16) rfl ?_
    refine gt_X11_51 hC (a := 16) (kk_16 hL) (kn_16 hL) dX11_countTold_40 ?_
    refine g_ref (b := 17) rfl ?_
    refine gt_X11_202 hC (x := x17) (kk_17 hL) (kn_17 hL) (ov_get hN 2 rfl rfl) dX11_countTold_43 ?_
    obtain rfl := sm1E hf
    exact hret _ _ rfl dX11_countTold_46
  replace hf := ifF hf c_1
  by_cases c_2 : v1.toInt = 1
  · replace hf := ifT hf c_2
    refine g_tabIn hC 47 dX11_countTold_1 (by omega) (by omega) (by rw [c_2]; rfl) (by decide) ?_
    refine g_aload_n hC 0 dX11_countTold_47 rfl rfl ?_
    refine gt_X11_41 hC (a := 0) (kk_0 hL) (kn_0 hL) dX11_countTold_48 ?_
    refine g_ref (b := 16) rfl ?_
    refine gt_X11_51 hC (a := 16) (kk_16 hL) (kn_16 hL) dX11_countTold_51 ?_
    refine g_ref (b := 17) rfl ?_
    refine gt_X11_309 hC (x := x17) (kk_17 hL) (kn_17 hL) (ov_get hN 2 rfl rfl) dX11_countTold_54 ?_
    obtain rfl := sm1E hf
    exact hret _ _ rfl dX11_countTold_57
  replace hf := ifF hf c_2
  by_cases c_3 : v1.toInt = 2
  · replace hf := ifT hf c_3
    refine g_tabIn hC 58 dX11_countTold_1 (by omega) (by omega) (by rw [c_3]; rfl) (by decide) ?_
    refine g_aload_n hC 0 dX11_countTold_58 rfl rfl ?_
    refine gt_X11_41 hC (a := 0) (kk_0 hL) (kn_0 hL) dX11_countTold_59 ?_
    refine g_ref (b := 16) rfl ?_
    refine gt_X11_51 hC (a := 16) (kk_16 hL) (kn_16 hL) dX11_countTold_62 ?_
    refine g_ref (b := 17) rfl ?_
    refine gt_X11_312 hC (x := x17) (kk_17 hL) (kn_17 hL) (ov_get hN 2 rfl rfl) dX11_countTold_65 ?_
    obtain rfl := sm1E hf
    exact hret _ _ rfl dX11_countTold_68
  replace hf := ifF hf c_3
  by_cases c_4 : v1.toInt = 3
  · replace hf := ifT hf c_4
    refine g_tabIn hC 69 dX11_countTold_1 (by omega) (by omega) (by rw [c_4]; rfl) (by decide) ?_
    refine g_aload_n hC 0 dX11_countTold_69 rfl rfl ?_
    refine gt_X11_41 hC (a := 0) (kk_0 hL) (kn_0 hL) dX11_countTold_70 ?_
    refine g_ref (b := 16) rfl ?_
    refine gt_X11_51 hC (a := 16) (kk_16 hL) (kn_16 hL) dX11_countTold_73 ?_
    refine g_ref (b := 17) rfl ?_
    refine gt_X11_117 hC (x := x17) (kk_17 hL) (kn_17 hL) (ov_get hN 2 rfl rfl) dX11_countTold_76 ?_
    obtain rfl := sm1E hf
    exact hret _ _ rfl dX11_countTold_79
  replace hf := ifF hf c_4
  by_cases c_5 : v1.toInt = 4
  · replace hf := ifT hf c_5
    refine g_tabIn hC 80 dX11_countTold_1 (by omega) (by omega) (by rw [c_5]; rfl) (by decide) ?_
    refine g_aload_n hC 0 dX11_countTold_80 rfl rfl ?_
    refine gt_X11_122 hC (x := x0) (kk_0 hL) (kn_0 hL) (ov_get hN 0 rfl rfl) dX11_countTold_81 ?_
    obtain rfl := sm1E hf
    exact hret _ _ rfl dX11_countTold_84
  replace hf := ifF hf c_5
  refine g_tabOut hC 85 dX11_countTold_1 (by omega) (by decide) ?_
  refine g_aload_n hC 0 dX11_countTold_85 rfl rfl ?_
  refine gt_X11_41 hC (a := 0) (kk_0 hL) (kn_0 hL) dX11_countTold_86 ?_
  refine g_ref (b := 16) rfl ?_
  refine gt_X11_133 hC (x := x16) (kk_16 hL) (kn_16 hL) (ov_get hN 1 rfl rfl) dX11_countTold_89 ?_
  obtain rfl := sm1E hf
  exact hret _ _ rfl dX11_countTold_92

def fX11_countTold   (x0 : Nat → Int32) (x16 : Nat → Int32) (x17 : Nat → Int32)  (v1 : Int32)   : Option (Int32) := fX11_countTold_0 x0 x16 x17 v1

set_option maxHeartbeats 4000000 in
set_option maxRecDepth 100000 in
theorem c_X11_countTold (l : Launch) {b0 : Nat} {D : GD} {n : Nat} {κ : QT} {X0 : XT} {Y0 : YT} {Z : ZT} (hL : LY n κ) {x0 : Nat → Int32} {x16 : Nat → Int32} {x17 : Nat → Int32} (hx : ([0, 16, 17] : List Nat).map X0 = [x0, x16, x17]) (hy : ([] : List Nat).map Y0 = []) {v1 : Int32} {r : Int32} (hf : fX11_countTold x0 x16 x17 v1 = some r) : gMi l yX11_countTold cX11_countTold 2 (some FieldType.int) 0 0 0 0 b0 D [.ref (b0 + 0), .int v1] (n, κ, X0, Y0, Z) (n, κ, ov X0 [0, 16, 17] [x0, x16, x17], ov Y0 [] [], Z) r := by
  have hN : ([0, 16, 17] : List Nat).Nodup := by decide
  have hM : ([] : List Nat).Nodup := by decide
  refine g_meti (own := RX11) (by decide) rfl rfl (Nat.le_of_ble_eq_true rfl) ?_
  intro K hC hret
  have e := wX11_countTold_0 hL hN hM hC  hret hf
  rw [ov_id' hx, ov_id' hy] at e
  exact g_sub [0, 1] rfl e

-- X11_countNow
def fX11_countNow_0   (x1 : Nat → Int32) (x16 : Nat → Int32) (x17 : Nat → Int32) (x18 : Nat → Int32) (x23 : Nat → Int32) (x24 : Nat → Int32)  (v1 : Int32) : Option (Int32) := if v1.toInt = 6 then (some (x23 0)) else (if v1.toInt = 7 then (bd1 (fX9_heatOf x23 x17 x18) fun r_3 => (some r_3)) else (if v1.toInt = 8 then (some (x23 1)) else (if v1.toInt = 9 then (some (x23 2)) else (if v1.toInt = 10 then (bd1 (fX9_riverBits x24 x17) fun r_8 => (some r_8)) else (if v1.toInt = 11 then (bd1 (fX9_placesOf x24 x17) fun r_11 => (some r_11)) else (if v1.toInt = 12 then (some (x16 7)) else (if v1.toInt = 13 then (some (x16 3)) else (if v1.toInt = 14 then (some (x16 9)) else (some (x1 1))))))))))
set_option maxHeartbeats 4000000 in
set_option maxRecDepth 100000 in
theorem wX11_countNow_0 {l : Launch} {b0 : Nat} {D : GD} {K : KT} {n : Nat} {κ : QT} {X0 : XT} {Y0 : YT} {Z : ZT} (hL : LY n κ) (hN : ([1, 16, 17, 18, 23, 24] : List Nat).Nodup) (hM : ([] : List Nat).Nodup) (hC : gC l b0 D K RX11 cX11_countNow (some FieldType.int) 2 2 62 0 0) {x1 : Nat → Int32} {x16 : Nat → Int32} {x17 : Nat → Int32} {x18 : Nat → Int32} {x23 : Nat → Int32} {x24 : Nat → Int32} {r : Int32} (hret : ∀ pc loc, narrow .int (.int r) = .int r → decode cX11_countNow pc = .ok (.ireturn, 1) → gV l b0 D K (n, κ, ov X0 [1, 16, 17, 18, 23, 24] [x1, x16, x17, x18, x23, x24], ov Y0 [] [], Z, 0, 0) pc loc [.int r]) {v1 : Int32} (hf : fX11_countNow_0 x1 x16 x17 x18 x23 x24  v1 = some r) : gV l b0 D K (n, κ, ov X0 [1, 16, 17, 18, 23, 24] [x1, x16, x17, x18, x23, x24], ov Y0 [] [], Z, 0, 0) 0 [(0, .ref (b0 + 0)), (1, .int v1)] [] := by
  unfold fX11_countNow_0 at hf
  refine g_iload_n hC 1 dX11_countNow_0 rfl rfl ?_
  by_cases c_1 : v1.toInt = 6
  · replace hf := ifT hf c_1
    refine g_tabIn hC 52 dX11_countNow_1 (by omega) (by omega) (by rw [c_1]; rfl) (by decide) ?_
    refine g_aload_n hC 0 dX11_countNow_52 rfl rfl ?_
    refine gt_X11_41 hC (a := 0) (kk_0 hL) (kn_0 hL) dX11_countNow_53 ?_
    refine g_ref (b := 16) rfl ?_
    refine gt_X11_140 hC (a := 16) (kk_16 hL) (kn_16 hL) dX11_countNow_56 ?_
    refine g_ref (b := 23) rfl ?_
    refine gt_X11_170 hC (x := x23) (kk_23 hL) (kn_23 hL) (ov_get hN 4 rfl rfl) dX11_countNow_59 ?_
    obtain rfl := sm1E hf
    exact hret _ _ rfl dX11_countNow_62
  replace hf := ifF hf c_1
  by_cases c_2 : v1.toInt = 7
  · replace hf := ifT hf c_2
    refine g_tabIn hC 63 dX11_countNow_1 (by omega) (by omega) (by rw [c_2]; rfl) (by decide) ?_
    refine g_aload_n hC 0 dX11_countNow_63 rfl rfl ?_
    refine gt_X11_41 hC (a := 0) (kk_0 hL) (kn_0 hL) dX11_countNow_64 ?_
    refine g_ref (b := 16) rfl ?_
    refine gt_X11_51 hC (a := 16) (kk_16 hL) (kn_16 hL) dX11_countNow_67 ?_
    refine g_ref (b := 17) rfl ?_
    refine g_aload_n hC 0 dX11_countNow_70 rfl rfl ?_
    refine gt_X11_41 hC (a := 0) (kk_0 hL) (kn_0 hL) dX11_countNow_71 ?_
    refine g_ref (b := 16) rfl ?_
    refine gt_X11_140 hC (a := 16) (kk_16 hL) (kn_16 hL) dX11_countNow_74 ?_
    refine g_ref (b := 23) rfl ?_
    obtain ⟨r_3, q_4, hf⟩ := bd1E hf
    refine g_callV_i (a := 17) hC (X' := ov X0 [1, 16, 17, 18, 23, 24] [x1, x16, x17, x18, x23, x24]) (Y' := ov Y0 [] []) (As := [.ref (b0 + 23)]) (gMi_eq (c_X9_heatOf l hL (kk_23 hL) (kn_23 hL) (nd_sub hN [4, 2, 3] (by decide) (by rfl)) (nd_sub hM [] (by decide) (by rfl)) (ov_map hN [4, 2, 3] (by rfl) (by rfl)) (ov_map hM [] (by rfl) (by rfl)) q_4) (ov_ovE hN (by rfl) [4, 2, 3] [0, 1, 5] (by rfl) (by rfl) [x1, x16, x24] (by rfl) (by rfl) (by rfl) 6 (by rfl) (by decide)) (ov_ovE hM (by rfl) [] [] (by rfl) (by rfl) [] (by rfl) (by rfl) (by rfl) 0 (by rfl) (by decide))) tw_806 tw_803 tw_119 tw_804 tw_805 (ci := 9) rfl (by decide) (kk_17 hL) (kn_17 hL) pd_X9_heatOf (by decide) (by decide) rfl rfl (Nat.le_of_ble_eq_true rfl) rfl dX11_countNow_77 ?_
    obtain rfl := sm1E hf
    exact hret _ _ rfl dX11_countNow_80
  replace hf := ifF hf c_2
  by_cases c_5 : v1.toInt = 8
  · replace hf := ifT hf c_5
    refine g_tabIn hC 81 dX11_countNow_1 (by omega) (by omega) (by rw [c_5]; rfl) (by decide) ?_
    refine g_aload_n hC 0 dX11_countNow_81 rfl rfl ?_
    refine gt_X11_41 hC (a := 0) (kk_0 hL) (kn_0 hL) dX11_countNow_82 ?_
    refine g_ref (b := 16) rfl ?_
    refine gt_X11_140 hC (a := 16) (kk_16 hL) (kn_16 hL) dX11_countNow_85 ?_
    refine g_ref (b := 23) rfl ?_
    refine gt_X11_199 hC (x := x23) (kk_23 hL) (kn_23 hL) (ov_get hN 4 rfl rfl) dX11_countNow_88 ?_
    obtain rfl := sm1E hf
    exact hret _ _ rfl dX11_countNow_91
  replace hf := ifF hf c_5
  by_cases c_6 : v1.toInt = 9
  · replace hf := ifT hf c_6
    refine g_tabIn hC 92 dX11_countNow_1 (by omega) (by omega) (by rw [c_6]; rfl) (by decide) ?_
    refine g_aload_n hC 0 dX11_countNow_92 rfl rfl ?_
    refine gt_X11_41 hC (a := 0) (kk_0 hL) (kn_0 hL) dX11_countNow_93 ?_
    refine g_ref (b := 16) rfl ?_
    refine gt_X11_140 hC (a := 16) (kk_16 hL) (kn_16 hL) dX11_countNow_96 ?_
    refine g_ref (b := 23) rfl ?_
    refine gt_X11_205 hC (x := x23) (kk_23 hL) (kn_23 hL) (ov_get hN 4 rfl rfl) dX11_countNow_99 ?_
    obtain rfl := sm1E hf
    exact hret _ _ rfl dX11_countNow_102
  replace hf := ifF hf c_6
  by_cases c_7 : v1.toInt = 10
  · replace hf := ifT hf c_7
    refine g_tabIn hC 103 dX11_countNow_1 (by omega) (by omega) (by rw [c_7]; rfl) (by decide) ?_
    refine g_aload_n hC 0 dX11_countNow_103 rfl rfl ?_
    refine gt_X11_41 hC (a := 0) (kk_0 hL) (kn_0 hL) dX11_countNow_104 ?_
    refine g_ref (b := 16) rfl ?_
    refine gt_X11_51 hC (a := 16) (kk_16 hL) (kn_16 hL) dX11_countNow_107 ?_
    refine g_ref (b := 17) rfl ?_
    refine g_aload_n hC 0 dX11_countNow_110 rfl rfl ?_
    refine gt_X11_41 hC (a := 0) (kk_0 hL) (kn_0 hL) dX11_countNow_111 ?_
    refine g_ref (b := 16) rfl ?_
    refine gt_X11_140 hC (a := 16) (kk_16 hL) (kn_16 hL) dX11_countNow_114 ?_
    refine g_ref (b := 23) rfl ?_
    obtain ⟨r_8, q_9, hf⟩ := bd1E hf
    refine g_callV_i (a := 17) hC (X' := ov X0 [1, 16, 17, 18, 23, 24] [x1, x16, x17, x18, x23, x24]) (Y' := ov Y0 [] []) (As := [.ref (b0 + 23)]) (gMi_eq (c_X9_riverBits l hL (kk_23 hL) (kn_23 hL) (nd_sub hN [5, 2] (by decide) (by rfl)) (nd_sub hM [] (by decide) (by rfl)) (ov_map hN [5, 2] (by rfl) (by rfl)) (ov_map hM [] (by rfl) (by rfl)) q_9) (ov_ovE hN (by rfl) [5, 2] [0, 1, 3, 4] (by rfl) (by rfl) [x1, x16, x18, x23] (by rfl) (by rfl) (by rfl) 6 (by rfl) (by decide)) (ov_ovE hM (by rfl) [] [] (by rfl) (by rfl) [] (by rfl) (by rfl) (by rfl) 0 (by rfl) (by decide))) tw_918 tw_983 tw_119 tw_916 tw_917 (ci := 9) rfl (by decide) (kk_17 hL) (kn_17 hL) pd_X9_riverBits (by decide) (by decide) rfl rfl (Nat.le_of_ble_eq_true rfl) rfl dX11_countNow_117 ?_
    obtain rfl := sm1E hf
    exact hret _ _ rfl dX11_countNow_120
  replace hf := ifF hf c_7
  by_cases c_10 : v1.toInt = 11
  · replace hf := ifT hf c_10
    refine g_tabIn hC 121 dX11_countNow_1 (by omega) (by omega) (by rw [c_10]; rfl) (by decide) ?_
    refine g_aload_n hC 0 dX11_countNow_121 rfl rfl ?_
    refine gt_X11_41 hC (a := 0) (kk_0 hL) (kn_0 hL) dX11_countNow_122 ?_
    refine g_ref (b := 16) rfl ?_
    refine gt_X11_51 hC (a := 16) (kk_16 hL) (kn_16 hL) dX11_countNow_125 ?_
    refine g_ref (b := 17) rfl ?_
    refine g_aload_n hC 0 dX11_countNow_128 rfl rfl ?_
    refine gt_X11_41 hC (a := 0) (kk_0 hL) (kn_0 hL) dX11_countNow_129 ?_
    refine g_ref (b := 16) rfl ?_
    refine gt_X11_140 hC (a := 16) (kk_16 hL) (kn_16 hL) dX11_countNow_132 ?_
    refine g_ref (b := 23) rfl ?_
    obtain ⟨r_11, q_12, hf⟩ := bd1E hf
    refine g_callV_i (a := 17) hC (X' := ov X0 [1, 16, 17, 18, 23, 24] [x1, x16, x17, x18, x23, x24]) (Y' := ov Y0 [] []) (As := [.ref (b0 + 23)]) (gMi_eq (c_X9_placesOf l hL (kk_23 hL) (kn_23 hL) (nd_sub hN [5, 2] (by decide) (by rfl)) (nd_sub hM [] (by decide) (by rfl)) (ov_map hN [5, 2] (by rfl) (by rfl)) (ov_map hM [] (by rfl) (by rfl)) q_12) (ov_ovE hN (by rfl) [5, 2] [0, 1, 3, 4] (by rfl) (by rfl) [x1, x16, x18, x23] (by rfl) (by rfl) (by rfl) 6 (by rfl) (by decide)) (ov_ovE hM (by rfl) [] [] (by rfl) (by rfl) [] (by rfl) (by rfl) (by rfl) 0 (by rfl) (by decide))) tw_1041 tw_1142 tw_119 tw_1039 tw_1040 (ci := 9) rfl (by decide) (kk_17 hL) (kn_17 hL) pd_X9_placesOf (by decide) (by decide) rfl rfl (Nat.le_of_ble_eq_true rfl) rfl dX11_countNow_135 ?_
    obtain rfl := sm1E hf
    exact hret _ _ rfl dX11_countNow_138
  replace hf := ifF hf c_10
  by_cases c_13 : v1.toInt = 12
  · replace hf := ifT hf c_13
    refine g_tabIn hC 139 dX11_countNow_1 (by omega) (by omega) (by rw [c_13]; rfl) (by decide) ?_
    refine g_aload_n hC 0 dX11_countNow_139 rfl rfl ?_
    refine gt_X11_41 hC (a := 0) (kk_0 hL) (kn_0 hL) dX11_countNow_140 ?_
    refine g_ref (b := 16) rfl ?_
    refine gt_X11_274 hC (x := x16) (kk_16 hL) (kn_16 hL) (ov_get hN 1 rfl rfl) dX11_countNow_143 ?_
    obtain rfl := sm1E hf
    exact hret _ _ rfl dX11_countNow_146
  replace hf := ifF hf c_13
  by_cases c_14 : v1.toInt = 13
  · replace hf := ifT hf c_14
    refine g_tabIn hC 147 dX11_countNow_1 (by omega) (by omega) (by rw [c_14]; rfl) (by decide) ?_
    refine g_aload_n hC 0 dX11_countNow_147 rfl rfl ?_
    refine gt_X11_41 hC (a := 0) (kk_0 hL) (kn_0 hL) dX11_countNow_148 ?_
    refine g_ref (b := 16) rfl ?_
    refine gt_X11_211 hC (x := x16) (kk_16 hL) (kn_16 hL) (ov_get hN 1 rfl rfl) dX11_countNow_151 ?_
    obtain rfl := sm1E hf
    exact hret _ _ rfl dX11_countNow_154
  replace hf := ifF hf c_14
  by_cases c_15 : v1.toInt = 14
  · replace hf := ifT hf c_15
    refine g_tabIn hC 155 dX11_countNow_1 (by omega) (by omega) (by rw [c_15]; rfl) (by decide) ?_
    refine g_aload_n hC 0 dX11_countNow_155 rfl rfl ?_
    refine gt_X11_41 hC (a := 0) (kk_0 hL) (kn_0 hL) dX11_countNow_156 ?_
    refine g_ref (b := 16) rfl ?_
    refine gt_X11_290 hC (x := x16) (kk_16 hL) (kn_16 hL) (ov_get hN 1 rfl rfl) dX11_countNow_159 ?_
    obtain rfl := sm1E hf
    exact hret _ _ rfl dX11_countNow_162
  replace hf := ifF hf c_15
  refine g_tabOut hC 163 dX11_countNow_1 (by omega) (by decide) ?_
  refine g_aload_n hC 0 dX11_countNow_163 rfl rfl ?_
  refine gt_X11_12 hC (a := 0) (kk_0 hL) (kn_0 hL) dX11_countNow_164 ?_
  refine g_ref (b := 1) rfl ?_
  refine gt_X11_96 hC (x := x1) (kk_1 hL) (kn_1 hL) (ov_get hN 0 rfl rfl) dX11_countNow_167 ?_
  obtain rfl := sm1E hf
  exact hret _ _ rfl dX11_countNow_170

def fX11_countNow   (x1 : Nat → Int32) (x16 : Nat → Int32) (x17 : Nat → Int32) (x18 : Nat → Int32) (x23 : Nat → Int32) (x24 : Nat → Int32)  (v1 : Int32)   : Option (Int32) := fX11_countNow_0 x1 x16 x17 x18 x23 x24 v1

set_option maxHeartbeats 4000000 in
set_option maxRecDepth 100000 in
theorem c_X11_countNow (l : Launch) {b0 : Nat} {D : GD} {n : Nat} {κ : QT} {X0 : XT} {Y0 : YT} {Z : ZT} (hL : LY n κ) {x1 : Nat → Int32} {x16 : Nat → Int32} {x17 : Nat → Int32} {x18 : Nat → Int32} {x23 : Nat → Int32} {x24 : Nat → Int32} (hx : ([1, 16, 17, 18, 23, 24] : List Nat).map X0 = [x1, x16, x17, x18, x23, x24]) (hy : ([] : List Nat).map Y0 = []) {v1 : Int32} {r : Int32} (hf : fX11_countNow x1 x16 x17 x18 x23 x24 v1 = some r) : gMi l yX11_countNow cX11_countNow 2 (some FieldType.int) 2 62 0 0 b0 D [.ref (b0 + 0), .int v1] (n, κ, X0, Y0, Z) (n, κ, ov X0 [1, 16, 17, 18, 23, 24] [x1, x16, x17, x18, x23, x24], ov Y0 [] [], Z) r := by
  have hN : ([1, 16, 17, 18, 23, 24] : List Nat).Nodup := by decide
  have hM : ([] : List Nat).Nodup := by decide
  refine g_meti (own := RX11) (by decide) rfl rfl (Nat.le_of_ble_eq_true rfl) ?_
  intro K hC hret
  have e := wX11_countNow_0 hL hN hM hC  hret hf
  rw [ov_id' hx, ov_id' hy] at e
  exact g_sub [0, 1] rfl e

-- X11_count
def fX11_count_0   (x0 : Nat → Int32) (x1 : Nat → Int32) (x16 : Nat → Int32) (x17 : Nat → Int32) (x18 : Nat → Int32) (x23 : Nat → Int32) (x24 : Nat → Int32)  (v1 : Int32) : Option (Int32) := bd1 (fX11_isWithin v1 0 5) fun r_1 => (if r_1 = 0 then (bd1 (fX11_isWithin v1 6 15) fun r_3 => (if r_3 = 0 then (some (-1)) else (bd1 (fX11_countNow x1 x16 x17 x18 x23 x24 v1) fun r_5 => (some r_5)))) else (bd1 (fX11_countTold x0 x16 x17 v1) fun r_7 => (some r_7)))
set_option maxHeartbeats 4000000 in
set_option maxRecDepth 100000 in
theorem wX11_count_0 {l : Launch} {b0 : Nat} {D : GD} {K : KT} {n : Nat} {κ : QT} {X0 : XT} {Y0 : YT} {Z : ZT} (hL : LY n κ) (hN : ([0, 1, 16, 17, 18, 23, 24] : List Nat).Nodup) (hM : ([] : List Nat).Nodup) (hC : gC l b0 D K RX11 cX11_count (some FieldType.int) 2 3 83 0 0) {x0 : Nat → Int32} {x1 : Nat → Int32} {x16 : Nat → Int32} {x17 : Nat → Int32} {x18 : Nat → Int32} {x23 : Nat → Int32} {x24 : Nat → Int32} {r : Int32} (hret : ∀ pc loc, narrow .int (.int r) = .int r → decode cX11_count pc = .ok (.ireturn, 1) → gV l b0 D K (n, κ, ov X0 [0, 1, 16, 17, 18, 23, 24] [x0, x1, x16, x17, x18, x23, x24], ov Y0 [] [], Z, 0, 0) pc loc [.int r]) {v1 : Int32} (hf : fX11_count_0 x0 x1 x16 x17 x18 x23 x24  v1 = some r) : gV l b0 D K (n, κ, ov X0 [0, 1, 16, 17, 18, 23, 24] [x0, x1, x16, x17, x18, x23, x24], ov Y0 [] [], Z, 0, 0) 0 [(0, .ref (b0 + 0)), (1, .int v1)] [] := by
  unfold fX11_count_0 at hf
  refine g_iload_n hC 1 dX11_count_0 rfl rfl ?_
  refine g_iconst hC (v := 0) dX11_count_1 ic_0 ?_
  refine g_iconst hC (v := 5) dX11_count_2 ic_5 ?_
  obtain ⟨r_1, q_2, hf⟩ := bd1E hf
  refine g_callS_i hC (X' := ov X0 [0, 1, 16, 17, 18, 23, 24] [x0, x1, x16, x17, x18, x23, x24]) (Y' := ov Y0 [] []) (As := [.int v1, .int 0, .int 5]) (gMi_eq (c_X11_isWithin l hL (ov_map hN [] (by rfl) (by rfl)) (ov_map hM [] (by rfl) (by rfl)) q_2) (ov_ovE hN (by rfl) [] [0, 1, 2, 3, 4, 5, 6] (by rfl) (by rfl) [x0, x1, x16, x17, x18, x23, x24] (by rfl) (by rfl) (by rfl) 7 (by rfl) (by decide)) (ov_ovE hM (by rfl) [] [] (by rfl) (by rfl) [] (by rfl) (by rfl) (by rfl) 0 (by rfl) (by decide))) tw_666 tw_870 tw_116 tw_665 pd_X11_isWithin (by decide) (by decide) rfl rfl (Nat.le_of_ble_eq_true rfl) rfl dX11_count_3 ?_
  refine g_if_eq hC 15 dX11_count_6 (by decide) (fun hc => ?_) (fun hc => ?_)
  · replace hf := ifT hf hc
    refine g_iload_n hC 1 dX11_count_15 rfl rfl ?_
    refine g_bipush hC (v := 6) dX11_count_16 bp_6 ?_
    refine g_bipush hC (v := 15) dX11_count_18 bp_15 ?_
    obtain ⟨r_3, q_4, hf⟩ := bd1E hf
    refine g_callS_i hC (X' := ov X0 [0, 1, 16, 17, 18, 23, 24] [x0, x1, x16, x17, x18, x23, x24]) (Y' := ov Y0 [] []) (As := [.int v1, .int 6, .int 15]) (gMi_eq (c_X11_isWithin l hL (ov_map hN [] (by rfl) (by rfl)) (ov_map hM [] (by rfl) (by rfl)) q_4) (ov_ovE hN (by rfl) [] [0, 1, 2, 3, 4, 5, 6] (by rfl) (by rfl) [x0, x1, x16, x17, x18, x23, x24] (by rfl) (by rfl) (by rfl) 7 (by rfl) (by decide)) (ov_ovE hM (by rfl) [] [] (by rfl) (by rfl) [] (by rfl) (by rfl) (by rfl) 0 (by rfl) (by decide))) tw_666 tw_870 tw_116 tw_665 pd_X11_isWithin (by decide) (by decide) rfl rfl (Nat.le_of_ble_eq_true rfl) rfl dX11_count_20 ?_
    refine g_if_eq hC 34 dX11_count_23 (by decide) (fun hc => ?_) (fun hc => ?_)
    · replace hf := ifT hf hc
      refine g_iconst hC (v := (-1)) dX11_count_34 ic_m1 ?_
      obtain rfl := sm1E hf
      exact hret _ _ rfl dX11_count_35
    · replace hf := ifF hf hc
      refine g_aload_n hC 0 dX11_count_26 rfl rfl ?_
      refine g_iload_n hC 1 dX11_count_27 rfl rfl ?_
      obtain ⟨r_5, q_6, hf⟩ := bd1E hf
      refine g_callV_i (a := 0) hC (X' := ov X0 [0, 1, 16, 17, 18, 23, 24] [x0, x1, x16, x17, x18, x23, x24]) (Y' := ov Y0 [] []) (As := [.int v1]) (gMi_eq (c_X11_countNow l hL (ov_map hN [1, 2, 3, 4, 5, 6] (by rfl) (by rfl)) (ov_map hM [] (by rfl) (by rfl)) q_6) (ov_ovE hN (by rfl) [1, 2, 3, 4, 5, 6] [0] (by rfl) (by rfl) [x0] (by rfl) (by rfl) (by rfl) 7 (by rfl) (by decide)) (ov_ovE hM (by rfl) [] [] (by rfl) (by rfl) [] (by rfl) (by rfl) (by rfl) 0 (by rfl) (by decide))) tw_1154 tw_1151 tw_116 tw_1153 tw_44 (ci := 11) rfl (by decide) (kk_0 hL) (kn_0 hL) pd_X11_countNow (by decide) (by decide) rfl rfl (Nat.le_of_ble_eq_true rfl) rfl dX11_count_28 ?_
      refine g_goto hC 35 dX11_count_31 (by decide) ?_
      obtain rfl := sm1E hf
      exact hret _ _ rfl dX11_count_35
  · replace hf := ifF hf hc
    refine g_aload_n hC 0 dX11_count_9 rfl rfl ?_
    refine g_iload_n hC 1 dX11_count_10 rfl rfl ?_
    obtain ⟨r_7, q_8, hf⟩ := bd1E hf
    refine g_callV_i (a := 0) hC (X' := ov X0 [0, 1, 16, 17, 18, 23, 24] [x0, x1, x16, x17, x18, x23, x24]) (Y' := ov Y0 [] []) (As := [.int v1]) (gMi_eq (c_X11_countTold l hL (ov_map hN [0, 2, 3] (by rfl) (by rfl)) (ov_map hM [] (by rfl) (by rfl)) q_8) (ov_ovE hN (by rfl) [0, 2, 3] [1, 4, 5, 6] (by rfl) (by rfl) [x1, x18, x23, x24] (by rfl) (by rfl) (by rfl) 7 (by rfl) (by decide)) (ov_ovE hM (by rfl) [] [] (by rfl) (by rfl) [] (by rfl) (by rfl) (by rfl) 0 (by rfl) (by decide))) tw_1150 tw_1147 tw_116 tw_1149 tw_43 (ci := 11) rfl (by decide) (kk_0 hL) (kn_0 hL) pd_X11_countTold (by decide) (by decide) rfl rfl (Nat.le_of_ble_eq_true rfl) rfl dX11_count_11 ?_
    obtain rfl := sm1E hf
    exact hret _ _ rfl dX11_count_14

def fX11_count   (x0 : Nat → Int32) (x1 : Nat → Int32) (x16 : Nat → Int32) (x17 : Nat → Int32) (x18 : Nat → Int32) (x23 : Nat → Int32) (x24 : Nat → Int32)  (v1 : Int32)   : Option (Int32) := fX11_count_0 x0 x1 x16 x17 x18 x23 x24 v1

set_option maxHeartbeats 4000000 in
set_option maxRecDepth 100000 in
theorem c_X11_count (l : Launch) {b0 : Nat} {D : GD} {n : Nat} {κ : QT} {X0 : XT} {Y0 : YT} {Z : ZT} (hL : LY n κ) {x0 : Nat → Int32} {x1 : Nat → Int32} {x16 : Nat → Int32} {x17 : Nat → Int32} {x18 : Nat → Int32} {x23 : Nat → Int32} {x24 : Nat → Int32} (hx : ([0, 1, 16, 17, 18, 23, 24] : List Nat).map X0 = [x0, x1, x16, x17, x18, x23, x24]) (hy : ([] : List Nat).map Y0 = []) {v1 : Int32} {r : Int32} (hf : fX11_count x0 x1 x16 x17 x18 x23 x24 v1 = some r) : gMi l yX11_count cX11_count 2 (some FieldType.int) 3 83 0 0 b0 D [.ref (b0 + 0), .int v1] (n, κ, X0, Y0, Z) (n, κ, ov X0 [0, 1, 16, 17, 18, 23, 24] [x0, x1, x16, x17, x18, x23, x24], ov Y0 [] [], Z) r := by
  have hN : ([0, 1, 16, 17, 18, 23, 24] : List Nat).Nodup := by decide
  have hM : ([] : List Nat).Nodup := by decide
  refine g_meti (own := RX11) (by decide) rfl rfl (Nat.le_of_ble_eq_true rfl) ?_
  intro K hC hret
  have e := wX11_count_0 hL hN hM hC  hret hf
  rw [ov_id' hx, ov_id' hy] at e
  exact g_sub [0, 1] rfl e

-- X11_behindDraw
def fX11_behindDraw_0     (v0 : Int32) : Option (Int32) := some ((((v0.toInt64 * 1103515245) + 12345) - ((v0.toInt64 * 1103515245) + 12345) / 2147483648 * 2147483648).toInt32)
set_option maxHeartbeats 4000000 in
set_option maxRecDepth 100000 in
theorem wX11_behindDraw_0 {l : Launch} {b0 : Nat} {D : GD} {K : KT} {n : Nat} {κ : QT} {X0 : XT} {Y0 : YT} {Z : ZT} (hL : LY n κ) (hN : ([] : List Nat).Nodup) (hM : ([] : List Nat).Nodup) (hC : gC l b0 D K RX11 cX11_behindDraw (some FieldType.int) 1 0 0 0 0) {r : Int32} (hret : ∀ pc loc, narrow .int (.int r) = .int r → decode cX11_behindDraw pc = .ok (.ireturn, 1) → gV l b0 D K (n, κ, ov X0 [] [], ov Y0 [] [], Z, 0, 0) pc loc [.int r]) {v0 : Int32} (hf : fX11_behindDraw_0   v0 = some r) : gV l b0 D K (n, κ, ov X0 [] [], ov Y0 [] [], Z, 0, 0) 0 [(0, .int v0)] [] := by
  unfold fX11_behindDraw_0 at hf
  refine g_iload_n hC 0 dX11_behindDraw_0 rfl rfl ?_
  refine g_i2l hC dX11_behindDraw_1 ?_
  refine g_ldc2_w hC (v := 1103515245) tw_1138 dX11_behindDraw_2 ?_
  refine g_lmul hC dX11_behindDraw_5 ?_
  refine g_ldc2_w hC (v := 12345) tw_1139 dX11_behindDraw_6 ?_
  refine g_ladd hC dX11_behindDraw_9 ?_
  refine g_ldc2_w hC (v := 2147483648) tw_1140 dX11_behindDraw_10 ?_
  refine g_lrem hC dX11_behindDraw_13 (by decide) ?_
  refine g_l2i hC dX11_behindDraw_14 ?_
  obtain rfl := sm1E hf
  exact hret _ _ rfl dX11_behindDraw_15

def fX11_behindDraw     (v0 : Int32)   : Option (Int32) := fX11_behindDraw_0  v0

set_option maxHeartbeats 4000000 in
set_option maxRecDepth 100000 in
theorem c_X11_behindDraw (l : Launch) {b0 : Nat} {D : GD} {n : Nat} {κ : QT} {X0 : XT} {Y0 : YT} {Z : ZT} (hL : LY n κ) (hx : ([] : List Nat).map X0 = []) (hy : ([] : List Nat).map Y0 = []) {v0 : Int32} {r : Int32} (hf : fX11_behindDraw  v0 = some r) : gMi l yX11_behindDraw cX11_behindDraw 1 (some FieldType.int) 0 0 0 0 b0 D [.int v0] (n, κ, X0, Y0, Z) (n, κ, ov X0 [] [], ov Y0 [] [], Z) r := by
  have hN : ([] : List Nat).Nodup := by decide
  have hM : ([] : List Nat).Nodup := by decide
  refine g_meti (own := RX11) (by decide) rfl rfl (Nat.le_of_ble_eq_true rfl) ?_
  intro K hC hret
  have e := wX11_behindDraw_0 hL hN hM hC  hret hf
  rw [ov_id' hx, ov_id' hy] at e
  exact g_sub [0] rfl e

-- X6_open
def fX6_open_0   (x7 : Nat → Int32) (x8 : Nat → Int32) (x9 : Nat → Int32) (x10 : Nat → Int32) (x11 : Nat → Int32) (x12 : Nat → Int32)  (x16 : (Nat → Int32)) (x17 : (Nat → Int32)) (x18 : (Nat → Int32)) (x19 : (Nat → Int32)) (x20 : (Nat → Int32)) (x21 : (Nat → Int32)) (x22 : (Nat → Int32)) (x23 : (Nat → Int32)) (x24 : (Nat → Int32)) (x25 : (Nat → Int32)) (x26 : (Nat → Int32)) : Option ((Nat → Int32) × (Nat → Int32) × (Nat → Int32) × (Nat → Int32) × (Nat → Int32) × (Nat → Int32) × (Nat → Int32) × (Nat → Int32) × (Nat → Int32) × (Nat → Int32) × (Nat → Int32)) := bd6 (fX9_copy x7 x8 x9 x10 x11 x12 x17 x18 x19 x20 x21 x22) fun x17_1 x18_2 x19_3 x20_4 x21_5 x22_6 => (bd4 (fX7_copy x9 x10 x11 x12 x23 x24 x25 x26) fun x23_8 x24_9 x25_10 x26_11 => (some ((upd (upd x16 3 0) 7 0), x17_1, x18_2, x19_3, x20_4, x21_5, x22_6, x23_8, x24_9, x25_10, x26_11)))
set_option maxHeartbeats 4000000 in
set_option maxRecDepth 100000 in
theorem wX6_open_0 {l : Launch} {b0 : Nat} {D : GD} {K : KT} {n : Nat} {κ : QT} {X0 : XT} {Y0 : YT} {Z : ZT} (hL : LY n κ) (hN : ([7, 8, 9, 10, 11, 12, 16, 17, 18, 19, 20, 21, 22, 23, 24, 25, 26] : List Nat).Nodup) (hM : ([] : List Nat).Nodup) (hC : gC l b0 D K RX6 cX6_open none 2 3 82 0 0) {x7 : Nat → Int32} {x8 : Nat → Int32} {x9 : Nat → Int32} {x10 : Nat → Int32} {x11 : Nat → Int32} {x12 : Nat → Int32} {rx16 : (Nat → Int32)} {rx17 : (Nat → Int32)} {rx18 : (Nat → Int32)} {rx19 : (Nat → Int32)} {rx20 : (Nat → Int32)} {rx21 : (Nat → Int32)} {rx22 : (Nat → Int32)} {rx23 : (Nat → Int32)} {rx24 : (Nat → Int32)} {rx25 : (Nat → Int32)} {rx26 : (Nat → Int32)} (hret : ∀ pc loc, decode cX6_open pc = .ok (.return_, 1) → gV l b0 D K (n, κ, ov X0 [7, 8, 9, 10, 11, 12, 16, 17, 18, 19, 20, 21, 22, 23, 24, 25, 26] [x7, x8, x9, x10, x11, x12, rx16, rx17, rx18, rx19, rx20, rx21, rx22, rx23, rx24, rx25, rx26], ov Y0 [] [], Z, 0, 0) pc loc []) {x16 : (Nat → Int32)} {x17 : (Nat → Int32)} {x18 : (Nat → Int32)} {x19 : (Nat → Int32)} {x20 : (Nat → Int32)} {x21 : (Nat → Int32)} {x22 : (Nat → Int32)} {x23 : (Nat → Int32)} {x24 : (Nat → Int32)} {x25 : (Nat → Int32)} {x26 : (Nat → Int32)} (hf : fX6_open_0 x7 x8 x9 x10 x11 x12  x16 x17 x18 x19 x20 x21 x22 x23 x24 x25 x26 = some (rx16, rx17, rx18, rx19, rx20, rx21, rx22, rx23, rx24, rx25, rx26)) : gV l b0 D K (n, κ, ov X0 [7, 8, 9, 10, 11, 12, 16, 17, 18, 19, 20, 21, 22, 23, 24, 25, 26] [x7, x8, x9, x10, x11, x12, x16, x17, x18, x19, x20, x21, x22, x23, x24, x25, x26], ov Y0 [] [], Z, 0, 0) 0 [(0, .ref (b0 + 16)), (1, .ref (b0 + 7))] [] := by
  unfold fX6_open_0 at hf
  refine g_aload_n hC 0 dX6_open_0 rfl rfl ?_
  refine gt_X6_12 hC (a := 16) (kk_16 hL) (kn_16 hL) dX6_open_1 ?_
  refine g_ref (b := 17) rfl ?_
  refine g_aload_n hC 1 dX6_open_4 rfl rfl ?_
  obtain ⟨x17_1, x18_2, x19_3, x20_4, x21_5, x22_6, q_7, hf⟩ := bd6E hf
  refine g_callV_v (a := 17) hC (X' := ov X0 [7, 8, 9, 10, 11, 12, 16, 17, 18, 19, 20, 21, 22, 23, 24, 25, 26] [x7, x8, x9, x10, x11, x12, x16, x17_1, x18_2, x19_3, x20_4, x21_5, x22_6, x23, x24, x25, x26]) (Y' := ov Y0 [] []) (As := [.ref (b0 + 7)]) (gMv_eq (c_X9_copy l hL (kk_17 hL) (kn_17 hL) (kk_7 hL) (kn_7 hL) (nd_sub hN [7, 8, 9, 10, 11, 12, 0, 1, 2, 3, 4, 5] (by decide) (by rfl)) (nd_sub hM [] (by decide) (by rfl)) (ov_map hN [7, 8, 9, 10, 11, 12, 0, 1, 2, 3, 4, 5] (by rfl) (by rfl)) (ov_map hM [] (by rfl) (by rfl)) q_7) (ov_ovE hN (by rfl) [7, 8, 9, 10, 11, 12, 0, 1, 2, 3, 4, 5] [6, 13, 14, 15, 16] (by rfl) (by rfl) [x16, x23, x24, x25, x26] (by rfl) (by rfl) (by rfl) 17 (by rfl) (by decide)) (ov_ovE hM (by rfl) [] [] (by rfl) (by rfl) [] (by rfl) (by rfl) (by rfl) 0 (by rfl) (by decide))) tw_700 tw_697 tw_119 tw_698 tw_699 (ci := 9) rfl (by decide) (kk_17 hL) (kn_17 hL) pd_X9_copy (by decide) (by decide) rfl rfl (Nat.le_of_ble_eq_true rfl) rfl dX6_open_5 ?_
  refine g_aload_n hC 0 dX6_open_8 rfl rfl ?_
  refine gt_X6_21 hC (a := 16) (kk_16 hL) (kn_16 hL) dX6_open_9 ?_
  refine g_ref (b := 23) rfl ?_
  refine g_aload_n hC 1 dX6_open_12 rfl rfl ?_
  refine gt_X6_47 hC (a := 7) (kk_7 hL) (kn_7 hL) dX6_open_13 ?_
  refine g_ref (b := 9) rfl ?_
  obtain ⟨x23_8, x24_9, x25_10, x26_11, q_12, hf⟩ := bd4E hf
  refine g_callV_v (a := 23) hC (X' := ov X0 [7, 8, 9, 10, 11, 12, 16, 17, 18, 19, 20, 21, 22, 23, 24, 25, 26] [x7, x8, x9, x10, x11, x12, x16, x17_1, x18_2, x19_3, x20_4, x21_5, x22_6, x23_8, x24_9, x25_10, x26_11]) (Y' := ov Y0 [] []) (As := [.ref (b0 + 9)]) (gMv_eq (c_X7_copy l hL (kk_23 hL) (kn_23 hL) (kk_9 hL) (kn_9 hL) (nd_sub hN [13, 14, 15, 16, 2, 3, 4, 5] (by decide) (by rfl)) (nd_sub hM [] (by decide) (by rfl)) (ov_map hN [13, 14, 15, 16, 2, 3, 4, 5] (by rfl) (by rfl)) (ov_map hM [] (by rfl) (by rfl)) q_12) (ov_ovE hN (by rfl) [13, 14, 15, 16, 2, 3, 4, 5] [0, 1, 6, 7, 8, 9, 10, 11, 12] (by rfl) (by rfl) [x7, x8, x16, x17_1, x18_2, x19_3, x20_4, x21_5, x22_6] (by rfl) (by rfl) (by rfl) 17 (by rfl) (by decide)) (ov_ovE hM (by rfl) [] [] (by rfl) (by rfl) [] (by rfl) (by rfl) (by rfl) 0 (by rfl) (by decide))) tw_707 tw_709 tw_120 tw_705 tw_706 (ci := 7) rfl (by decide) (kk_23 hL) (kn_23 hL) pd_X7_copy (by decide) (by decide) rfl rfl (Nat.le_of_ble_eq_true rfl) rfl dX6_open_16 ?_
  refine g_aload_n hC 0 dX6_open_19 rfl rfl ?_
  refine g_iconst hC (v := 0) dX6_open_20 ic_0 ?_
  refine pt_X6_53 hC (x := x16) (kk_16 hL) (kn_16 hL) (ov_get hN 6 rfl rfl) (ov_set hN (by rfl) 6 (by rfl)) dX6_open_21 ?_
  show gV l b0 D K (n, κ, ov X0 [7, 8, 9, 10, 11, 12, 16, 17, 18, 19, 20, 21, 22, 23, 24, 25, 26] [x7, x8, x9, x10, x11, x12, (upd x16 3 0), x17_1, x18_2, x19_3, x20_4, x21_5, x22_6, x23_8, x24_9, x25_10, x26_11], ov Y0 [] [], Z, 0, 0) 24 [(0, .ref (b0 + 16)), (1, .ref (b0 + 7))] []
  refine g_aload_n hC 0 dX6_open_24 rfl rfl ?_
  refine g_iconst hC (v := 0) dX6_open_25 ic_0 ?_
  refine pt_X6_56 hC (x := (upd x16 3 0)) (kk_16 hL) (kn_16 hL) (ov_get hN 6 rfl rfl) (ov_set hN (by rfl) 6 (by rfl)) dX6_open_26 ?_
  show gV l b0 D K (n, κ, ov X0 [7, 8, 9, 10, 11, 12, 16, 17, 18, 19, 20, 21, 22, 23, 24, 25, 26] [x7, x8, x9, x10, x11, x12, (upd (upd x16 3 0) 7 0), x17_1, x18_2, x19_3, x20_4, x21_5, x22_6, x23_8, x24_9, x25_10, x26_11], ov Y0 [] [], Z, 0, 0) 29 [(0, .ref (b0 + 16)), (1, .ref (b0 + 7))] []
  obtain ⟨rfl, rfl, rfl, rfl, rfl, rfl, rfl, rfl, rfl, rfl, rfl⟩ := sm11E hf
  exact hret _ _ dX6_open_29

def fX6_open   (x7 : Nat → Int32) (x8 : Nat → Int32) (x9 : Nat → Int32) (x10 : Nat → Int32) (x11 : Nat → Int32) (x12 : Nat → Int32)   (x16 : Nat → Int32) (x17 : Nat → Int32) (x18 : Nat → Int32) (x19 : Nat → Int32) (x20 : Nat → Int32) (x21 : Nat → Int32) (x22 : Nat → Int32) (x23 : Nat → Int32) (x24 : Nat → Int32) (x25 : Nat → Int32) (x26 : Nat → Int32)  : Option ((Nat → Int32) × (Nat → Int32) × (Nat → Int32) × (Nat → Int32) × (Nat → Int32) × (Nat → Int32) × (Nat → Int32) × (Nat → Int32) × (Nat → Int32) × (Nat → Int32) × (Nat → Int32)) := fX6_open_0 x7 x8 x9 x10 x11 x12 x16 x17 x18 x19 x20 x21 x22 x23 x24 x25 x26

set_option maxHeartbeats 4000000 in
set_option maxRecDepth 100000 in
theorem c_X6_open (l : Launch) {b0 : Nat} {D : GD} {n : Nat} {κ : QT} {X0 : XT} {Y0 : YT} {Z : ZT} (hL : LY n κ) {x7 : Nat → Int32} {x8 : Nat → Int32} {x9 : Nat → Int32} {x10 : Nat → Int32} {x11 : Nat → Int32} {x12 : Nat → Int32} {x16 : Nat → Int32} {x17 : Nat → Int32} {x18 : Nat → Int32} {x19 : Nat → Int32} {x20 : Nat → Int32} {x21 : Nat → Int32} {x22 : Nat → Int32} {x23 : Nat → Int32} {x24 : Nat → Int32} {x25 : Nat → Int32} {x26 : Nat → Int32} (hx : ([7, 8, 9, 10, 11, 12, 16, 17, 18, 19, 20, 21, 22, 23, 24, 25, 26] : List Nat).map X0 = [x7, x8, x9, x10, x11, x12, x16, x17, x18, x19, x20, x21, x22, x23, x24, x25, x26]) (hy : ([] : List Nat).map Y0 = []) {rx16 : (Nat → Int32)} {rx17 : (Nat → Int32)} {rx18 : (Nat → Int32)} {rx19 : (Nat → Int32)} {rx20 : (Nat → Int32)} {rx21 : (Nat → Int32)} {rx22 : (Nat → Int32)} {rx23 : (Nat → Int32)} {rx24 : (Nat → Int32)} {rx25 : (Nat → Int32)} {rx26 : (Nat → Int32)} (hf : fX6_open x7 x8 x9 x10 x11 x12 x16 x17 x18 x19 x20 x21 x22 x23 x24 x25 x26 = some (rx16, rx17, rx18, rx19, rx20, rx21, rx22, rx23, rx24, rx25, rx26)) : gMv l yX6_open cX6_open 2 none 3 82 0 0 b0 D [.ref (b0 + 16), .ref (b0 + 7)] (n, κ, X0, Y0, Z) (n, κ, ov X0 [7, 8, 9, 10, 11, 12, 16, 17, 18, 19, 20, 21, 22, 23, 24, 25, 26] [x7, x8, x9, x10, x11, x12, rx16, rx17, rx18, rx19, rx20, rx21, rx22, rx23, rx24, rx25, rx26], ov Y0 [] [], Z) := by
  have hN : ([7, 8, 9, 10, 11, 12, 16, 17, 18, 19, 20, 21, 22, 23, 24, 25, 26] : List Nat).Nodup := by decide
  have hM : ([] : List Nat).Nodup := by decide
  refine g_metv (own := RX6) (by decide) rfl rfl (Nat.le_of_ble_eq_true rfl) ?_
  intro K hC hret
  have e := wX6_open_0 hL hN hM hC  hret hf
  rw [ov_id' hx, ov_id' hy] at e
  exact g_sub [0, 1] rfl e

-- X11_town
def fX11_town_0   (x2 : Nat → Int32)  (x1 : (Nat → Int32)) (x3 : (Nat → Int32)) (x4 : (Nat → Int32)) (x5 : (Nat → Int32)) (x7 : (Nat → Int32)) (x8 : (Nat → Int32)) (x9 : (Nat → Int32)) (x10 : (Nat → Int32)) (x11 : (Nat → Int32)) (x12 : (Nat → Int32)) (x16 : (Nat → Int32)) (x17 : (Nat → Int32)) (x18 : (Nat → Int32)) (x19 : (Nat → Int32)) (x20 : (Nat → Int32)) (x21 : (Nat → Int32)) (x22 : (Nat → Int32)) (x23 : (Nat → Int32)) (x24 : (Nat → Int32)) (x25 : (Nat → Int32)) (x26 : (Nat → Int32)) : Option (Int32 × (Nat → Int32) × (Nat → Int32) × (Nat → Int32) × (Nat → Int32) × (Nat → Int32) × (Nat → Int32) × (Nat → Int32) × (Nat → Int32) × (Nat → Int32) × (Nat → Int32) × (Nat → Int32) × (Nat → Int32) × (Nat → Int32) × (Nat → Int32) × (Nat → Int32) × (Nat → Int32) × (Nat → Int32) × (Nat → Int32) × (Nat → Int32) × (Nat → Int32) × (Nat → Int32)) := bd11 (fX10_readText x2 x1 x3 x4 x5 x7 x8 x9 x10 x11 x12) fun r_1 x1_2 x3_3 x4_4 x5_5 x7_6 x8_7 x9_8 x10_9 x11_10 x12_11 => (if r_1 = 0 then (some ((-2) - ((upd x1_2 1 0) 7), (upd x1_2 1 0), x3_3, x4_4, x5_5, x7_6, x8_7, x9_8, x10_9, x11_10, x12_11, x16, x17, x18, x19, x20, x21, x22, x23, x24, x25, x26)) else (bd11 (fX6_open x7_6 x8_7 x9_8 x10_9 x11_10 x12_11 x16 x17 x18 x19 x20 x21 x22 x23 x24 x25 x26) fun x16_13 x17_14 x18_15 x19_16 x20_17 x21_18 x22_19 x23_20 x24_21 x25_22 x26_23 => (some (x17_14 4, (upd x1_2 1 0), x3_3, x4_4, x5_5, x7_6, x8_7, x9_8, x10_9, x11_10, x12_11, x16_13, x17_14, x18_15, x19_16, x20_17, x21_18, x22_19, x23_20, x24_21, x25_22, x26_23))))
set_option maxHeartbeats 4000000 in
set_option maxRecDepth 100000 in
theorem wX11_town_0 {l : Launch} {b0 : Nat} {D : GD} {K : KT} {n : Nat} {κ : QT} {X0 : XT} {Y0 : YT} {Z : ZT} (hL : LY n κ) (hN : ([1, 2, 3, 4, 5, 7, 8, 9, 10, 11, 12, 16, 17, 18, 19, 20, 21, 22, 23, 24, 25, 26] : List Nat).Nodup) (hM : ([] : List Nat).Nodup) (hC : gC l b0 D K RX11 cX11_town (some FieldType.int) 2 9 198 0 0) {x2 : Nat → Int32} {r : Int32} {rx1 : (Nat → Int32)} {rx3 : (Nat → Int32)} {rx4 : (Nat → Int32)} {rx5 : (Nat → Int32)} {rx7 : (Nat → Int32)} {rx8 : (Nat → Int32)} {rx9 : (Nat → Int32)} {rx10 : (Nat → Int32)} {rx11 : (Nat → Int32)} {rx12 : (Nat → Int32)} {rx16 : (Nat → Int32)} {rx17 : (Nat → Int32)} {rx18 : (Nat → Int32)} {rx19 : (Nat → Int32)} {rx20 : (Nat → Int32)} {rx21 : (Nat → Int32)} {rx22 : (Nat → Int32)} {rx23 : (Nat → Int32)} {rx24 : (Nat → Int32)} {rx25 : (Nat → Int32)} {rx26 : (Nat → Int32)} (hret : ∀ pc loc, narrow .int (.int r) = .int r → decode cX11_town pc = .ok (.ireturn, 1) → gV l b0 D K (n, κ, ov X0 [1, 2, 3, 4, 5, 7, 8, 9, 10, 11, 12, 16, 17, 18, 19, 20, 21, 22, 23, 24, 25, 26] [rx1, x2, rx3, rx4, rx5, rx7, rx8, rx9, rx10, rx11, rx12, rx16, rx17, rx18, rx19, rx20, rx21, rx22, rx23, rx24, rx25, rx26], ov Y0 [] [], Z, 0, 0) pc loc [.int r]) {x1 : (Nat → Int32)} {x3 : (Nat → Int32)} {x4 : (Nat → Int32)} {x5 : (Nat → Int32)} {x7 : (Nat → Int32)} {x8 : (Nat → Int32)} {x9 : (Nat → Int32)} {x10 : (Nat → Int32)} {x11 : (Nat → Int32)} {x12 : (Nat → Int32)} {x16 : (Nat → Int32)} {x17 : (Nat → Int32)} {x18 : (Nat → Int32)} {x19 : (Nat → Int32)} {x20 : (Nat → Int32)} {x21 : (Nat → Int32)} {x22 : (Nat → Int32)} {x23 : (Nat → Int32)} {x24 : (Nat → Int32)} {x25 : (Nat → Int32)} {x26 : (Nat → Int32)} (hf : fX11_town_0 x2  x1 x3 x4 x5 x7 x8 x9 x10 x11 x12 x16 x17 x18 x19 x20 x21 x22 x23 x24 x25 x26 = some (r, rx1, rx3, rx4, rx5, rx7, rx8, rx9, rx10, rx11, rx12, rx16, rx17, rx18, rx19, rx20, rx21, rx22, rx23, rx24, rx25, rx26)) : gV l b0 D K (n, κ, ov X0 [1, 2, 3, 4, 5, 7, 8, 9, 10, 11, 12, 16, 17, 18, 19, 20, 21, 22, 23, 24, 25, 26] [x1, x2, x3, x4, x5, x7, x8, x9, x10, x11, x12, x16, x17, x18, x19, x20, x21, x22, x23, x24, x25, x26], ov Y0 [] [], Z, 0, 0) 0 [(0, .ref (b0 + 0))] [] := by
  unfold fX11_town_0 at hf
  refine g_aload_n hC 0 dX11_town_0 rfl rfl ?_
  refine gt_X11_21 hC (a := 0) (kk_0 hL) (kn_0 hL) dX11_town_1 ?_
  refine g_ref (b := 6) rfl ?_
  obtain ⟨r_1, x1_2, x3_3, x4_4, x5_5, x7_6, x8_7, x9_8, x10_9, x11_10, x12_11, q_12, hf⟩ := bd11E hf
  refine g_callV_i (a := 6) hC (X' := ov X0 [1, 2, 3, 4, 5, 7, 8, 9, 10, 11, 12, 16, 17, 18, 19, 20, 21, 22, 23, 24, 25, 26] [x1_2, x2, x3_3, x4_4, x5_5, x7_6, x8_7, x9_8, x10_9, x11_10, x12_11, x16, x17, x18, x19, x20, x21, x22, x23, x24, x25, x26]) (Y' := ov Y0 [] []) (As := []) (gMi_eq (c_X10_readText l hL (ov_map hN [0, 1, 2, 3, 4, 5, 6, 7, 8, 9, 10] (by rfl) (by rfl)) (ov_map hM [] (by rfl) (by rfl)) q_12) (ov_ovE hN (by rfl) [0, 1, 2, 3, 4, 5, 6, 7, 8, 9, 10] [11, 12, 13, 14, 15, 16, 17, 18, 19, 20, 21] (by rfl) (by rfl) [x16, x17, x18, x19, x20, x21, x22, x23, x24, x25, x26] (by rfl) (by rfl) (by rfl) 22 (by rfl) (by decide)) (ov_ovE hM (by rfl) [] [] (by rfl) (by rfl) [] (by rfl) (by rfl) (by rfl) 0 (by rfl) (by decide))) tw_517 tw_514 tw_118 tw_515 tw_516 (ci := 10) rfl (by decide) (kk_6 hL) (kn_6 hL) pd_X10_readText (by decide) (by decide) rfl rfl (Nat.le_of_ble_eq_true rfl) rfl dX11_town_4 ?_
  refine g_istore_n hC (i := 1) [(1, .int r_1), (0, .ref (b0 + 0))] rfl dX11_town_7 (by decide) rfl ?_
  refine g_aload_n hC 1 dX11_town_8 rfl rfl ?_
  refine gt_X11_12 hC (a := 0) (kk_0 hL) (kn_0 hL) dX11_town_9 ?_
  refine g_ref (b := 1) rfl ?_
  refine g_iconst hC (v := 0) dX11_town_12 ic_0 ?_
  refine pt_X11_96 hC (x := x1_2) (kk_1 hL) (kn_1 hL) (ov_get hN 0 rfl rfl) (ov_set hN (by rfl) 0 (by rfl)) dX11_town_13 ?_
  show gV l b0 D K (n, κ, ov X0 [1, 2, 3, 4, 5, 7, 8, 9, 10, 11, 12, 16, 17, 18, 19, 20, 21, 22, 23, 24, 25, 26] [(upd x1_2 1 0), x2, x3_3, x4_4, x5_5, x7_6, x8_7, x9_8, x10_9, x11_10, x12_11, x16, x17, x18, x19, x20, x21, x22, x23, x24, x25, x26], ov Y0 [] [], Z, 0, 0) 16 [(1, .int r_1), (0, .ref (b0 + 0))] []
  refine g_iload_n hC 0 dX11_town_16 rfl rfl ?_
  refine g_if_ne hC 31 dX11_town_17 (by decide) (fun hc => ?_) (fun hc => ?_)
  · replace hf := ifF hf hc
    refine g_aload_n hC 1 dX11_town_31 rfl rfl ?_
    refine gt_X11_41 hC (a := 0) (kk_0 hL) (kn_0 hL) dX11_town_32 ?_
    refine g_ref (b := 16) rfl ?_
    refine g_aload_n hC 1 dX11_town_35 rfl rfl ?_
    refine gt_X11_21 hC (a := 0) (kk_0 hL) (kn_0 hL) dX11_town_36 ?_
    refine g_ref (b := 6) rfl ?_
    refine gt_X11_111 hC (a := 6) (kk_6 hL) (kn_6 hL) dX11_town_39 ?_
    refine g_ref (b := 7) rfl ?_
    obtain ⟨x16_13, x17_14, x18_15, x19_16, x20_17, x21_18, x22_19, x23_20, x24_21, x25_22, x26_23, q_24, hf⟩ := bd11E hf
    refine g_callV_v (a := 16) hC (X' := ov X0 [1, 2, 3, 4, 5, 7, 8, 9, 10, 11, 12, 16, 17, 18, 19, 20, 21, 22, 23, 24, 25, 26] [(upd x1_2 1 0), x2, x3_3, x4_4, x5_5, x7_6, x8_7, x9_8, x10_9, x11_10, x12_11, x16_13, x17_14, x18_15, x19_16, x20_17, x21_18, x22_19, x23_20, x24_21, x25_22, x26_23]) (Y' := ov Y0 [] []) (As := [.ref (b0 + 7)]) (gMv_eq (c_X6_open l hL (ov_map hN [5, 6, 7, 8, 9, 10, 11, 12, 13, 14, 15, 16, 17, 18, 19, 20, 21] (by rfl) (by rfl)) (ov_map hM [] (by rfl) (by rfl)) q_24) (ov_ovE hN (by rfl) [5, 6, 7, 8, 9, 10, 11, 12, 13, 14, 15, 16, 17, 18, 19, 20, 21] [0, 1, 2, 3, 4] (by rfl) (by rfl) [(upd x1_2 1 0), x2, x3_3, x4_4, x5_5] (by rfl) (by rfl) (by rfl) 22 (by rfl) (by decide)) (ov_ovE hM (by rfl) [] [] (by rfl) (by rfl) [] (by rfl) (by rfl) (by rfl) 0 (by rfl) (by decide))) tw_696 tw_693 tw_122 tw_694 tw_695 (ci := 6) rfl (by decide) (kk_16 hL) (kn_16 hL) pd_X6_open (by decide) (by decide) rfl rfl (Nat.le_of_ble_eq_true rfl) rfl dX11_town_42 ?_
    refine g_aload_n hC 1 dX11_town_45 rfl rfl ?_
    refine gt_X11_41 hC (a := 0) (kk_0 hL) (kn_0 hL) dX11_town_46 ?_
    refine g_ref (b := 16) rfl ?_
    refine gt_X11_51 hC (a := 16) (kk_16 hL) (kn_16 hL) dX11_town_49 ?_
    refine g_ref (b := 17) rfl ?_
    refine gt_X11_117 hC (x := x17_14) (kk_17 hL) (kn_17 hL) (ov_get hN 12 rfl rfl) dX11_town_52 ?_
    obtain ⟨rfl, rfl, rfl, rfl, rfl, rfl, rfl, rfl, rfl, rfl, rfl, rfl, rfl, rfl, rfl, rfl, rfl, rfl, rfl, rfl, rfl, rfl⟩ := sm22E hf
    exact hret _ _ rfl dX11_town_55
  · replace hf := ifT hf hc
    refine g_bipush hC (v := (-2)) dX11_town_20 bp_m2 ?_
    refine g_aload_n hC 1 dX11_town_22 rfl rfl ?_
    refine gt_X11_12 hC (a := 0) (kk_0 hL) (kn_0 hL) dX11_town_23 ?_
    refine g_ref (b := 1) rfl ?_
    refine gt_X11_108 hC (x := (upd x1_2 1 0)) (kk_1 hL) (kn_1 hL) (ov_get hN 0 rfl rfl) dX11_town_26 ?_
    refine g_isub hC dX11_town_29 ?_
    obtain ⟨rfl, rfl, rfl, rfl, rfl, rfl, rfl, rfl, rfl, rfl, rfl, rfl, rfl, rfl, rfl, rfl, rfl, rfl, rfl, rfl, rfl, rfl⟩ := sm22E hf
    exact hret _ _ rfl dX11_town_30

def fX11_town   (x2 : Nat → Int32)   (x1 : Nat → Int32) (x3 : Nat → Int32) (x4 : Nat → Int32) (x5 : Nat → Int32) (x7 : Nat → Int32) (x8 : Nat → Int32) (x9 : Nat → Int32) (x10 : Nat → Int32) (x11 : Nat → Int32) (x12 : Nat → Int32) (x16 : Nat → Int32) (x17 : Nat → Int32) (x18 : Nat → Int32) (x19 : Nat → Int32) (x20 : Nat → Int32) (x21 : Nat → Int32) (x22 : Nat → Int32) (x23 : Nat → Int32) (x24 : Nat → Int32) (x25 : Nat → Int32) (x26 : Nat → Int32)  : Option (Int32 × (Nat → Int32) × (Nat → Int32) × (Nat → Int32) × (Nat → Int32) × (Nat → Int32) × (Nat → Int32) × (Nat → Int32) × (Nat → Int32) × (Nat → Int32) × (Nat → Int32) × (Nat → Int32) × (Nat → Int32) × (Nat → Int32) × (Nat → Int32) × (Nat → Int32) × (Nat → Int32) × (Nat → Int32) × (Nat → Int32) × (Nat → Int32) × (Nat → Int32) × (Nat → Int32)) := fX11_town_0 x2 x1 x3 x4 x5 x7 x8 x9 x10 x11 x12 x16 x17 x18 x19 x20 x21 x22 x23 x24 x25 x26

set_option maxHeartbeats 4000000 in
set_option maxRecDepth 100000 in
theorem c_X11_town (l : Launch) {b0 : Nat} {D : GD} {n : Nat} {κ : QT} {X0 : XT} {Y0 : YT} {Z : ZT} (hL : LY n κ) {x1 : Nat → Int32} {x2 : Nat → Int32} {x3 : Nat → Int32} {x4 : Nat → Int32} {x5 : Nat → Int32} {x7 : Nat → Int32} {x8 : Nat → Int32} {x9 : Nat → Int32} {x10 : Nat → Int32} {x11 : Nat → Int32} {x12 : Nat → Int32} {x16 : Nat → Int32} {x17 : Nat → Int32} {x18 : Nat → Int32} {x19 : Nat → Int32} {x20 : Nat → Int32} {x21 : Nat → Int32} {x22 : Nat → Int32} {x23 : Nat → Int32} {x24 : Nat → Int32} {x25 : Nat → Int32} {x26 : Nat → Int32} (hx : ([1, 2, 3, 4, 5, 7, 8, 9, 10, 11, 12, 16, 17, 18, 19, 20, 21, 22, 23, 24, 25, 26] : List Nat).map X0 = [x1, x2, x3, x4, x5, x7, x8, x9, x10, x11, x12, x16, x17, x18, x19, x20, x21, x22, x23, x24, x25, x26]) (hy : ([] : List Nat).map Y0 = []) {r : Int32} {rx1 : (Nat → Int32)} {rx3 : (Nat → Int32)} {rx4 : (Nat → Int32)} {rx5 : (Nat → Int32)} {rx7 : (Nat → Int32)} {rx8 : (Nat → Int32)} {rx9 : (Nat → Int32)} {rx10 : (Nat → Int32)} {rx11 : (Nat → Int32)} {rx12 : (Nat → Int32)} {rx16 : (Nat → Int32)} {rx17 : (Nat → Int32)} {rx18 : (Nat → Int32)} {rx19 : (Nat → Int32)} {rx20 : (Nat → Int32)} {rx21 : (Nat → Int32)} {rx22 : (Nat → Int32)} {rx23 : (Nat → Int32)} {rx24 : (Nat → Int32)} {rx25 : (Nat → Int32)} {rx26 : (Nat → Int32)} (hf : fX11_town x2 x1 x3 x4 x5 x7 x8 x9 x10 x11 x12 x16 x17 x18 x19 x20 x21 x22 x23 x24 x25 x26 = some (r, rx1, rx3, rx4, rx5, rx7, rx8, rx9, rx10, rx11, rx12, rx16, rx17, rx18, rx19, rx20, rx21, rx22, rx23, rx24, rx25, rx26)) : gMi l yX11_town cX11_town 2 (some FieldType.int) 9 198 0 0 b0 D [.ref (b0 + 0)] (n, κ, X0, Y0, Z) (n, κ, ov X0 [1, 2, 3, 4, 5, 7, 8, 9, 10, 11, 12, 16, 17, 18, 19, 20, 21, 22, 23, 24, 25, 26] [rx1, x2, rx3, rx4, rx5, rx7, rx8, rx9, rx10, rx11, rx12, rx16, rx17, rx18, rx19, rx20, rx21, rx22, rx23, rx24, rx25, rx26], ov Y0 [] [], Z) r := by
  have hN : ([1, 2, 3, 4, 5, 7, 8, 9, 10, 11, 12, 16, 17, 18, 19, 20, 21, 22, 23, 24, 25, 26] : List Nat).Nodup := by decide
  have hM : ([] : List Nat).Nodup := by decide
  refine g_meti (own := RX11) (by decide) rfl rfl (Nat.le_of_ble_eq_true rfl) ?_
  intro K hC hret
  have e := wX11_town_0 hL hN hM hC  hret hf
  rw [ov_id' hx, ov_id' hy] at e
  exact g_sub [0] rfl e


def fX5_readTestO_95 (recF : Int32 → (Nat → Int32) → (Nat → Int32) → (Nat → Int32) → Option (Int32 × (Nat → Int32) × (Nat → Int32) × (Nat → Int32)))  (x3 : Nat → Int32) (x4 : Nat → Int32) (x5 : Nat → Int32)  (k7 : Int32 → Int32 → Int32 → Int32 → (Nat → Int32) → (Nat → Int32) → (Nat → Int32) → Option (Int32 × (Nat → Int32) × (Nat → Int32) × (Nat → Int32))) (v1 : Int32) (v2 : Int32) (v3 : Int32) (v4 : Int32) (x1 : (Nat → Int32)) (x13 : (Nat → Int32)) (x14 : (Nat → Int32)) : Option (Int32 × (Nat → Int32) × (Nat → Int32) × (Nat → Int32)) := bd1 (fX8_skip x1) fun x1_1 => (bn (v4 + 1) fun t_3 => (k7 v1 v2 v3 t_3 x1_1 x13 x14))
set_option maxHeartbeats 4000000 in
set_option maxRecDepth 100000 in
theorem wX5_readTestO_95 {l : Launch} {b0 : Nat} {D : GD} {K : KT} {n : Nat} {κ : QT} {X0 : XT} {Y0 : YT} {Z : ZT} (hL : LY n κ) {frF loF : Nat} (hN : ([1, 3, 4, 5, 13, 14] : List Nat).Nodup) (hM : ([] : List Nat).Nodup) (hC : gC l b0 D K RX5 cX5_readTest (some FieldType.boolean) 5 (frF + 8) (loF + 400) 0 0) {x3 : Nat → Int32} {x4 : Nat → Int32} {x5 : Nat → Int32} {recF : Int32 → (Nat → Int32) → (Nat → Int32) → (Nat → Int32) → Option (Int32 × (Nat → Int32) × (Nat → Int32) × (Nat → Int32))} (hF : ∀ {X0 : XT} {Y0 : YT} {zx1 : Nat → Int32} {zx13 : Nat → Int32} {zx14 : Nat → Int32} (hx : ([1, 3, 4, 5, 13, 14] : List Nat).map X0 = [zx1, x3, x4, x5, zx13, zx14]) (hy : ([] : List Nat).map Y0 = []) {v1 : Int32} {r : Int32} {rx1 : (Nat → Int32)} {rx13 : (Nat → Int32)} {rx14 : (Nat → Int32)}, recF v1 zx1 zx13 zx14 = some (r, rx1, rx13, rx14) → gMi l yX5_readFact cX5_readFact 4 (some FieldType.boolean) frF loF 0 0 b0 D [.ref (b0 + 13), .int v1] (n, κ, X0, Y0, Z) (n, κ, ov X0 [1, 3, 4, 5, 13, 14] [rx1, x3, x4, x5, rx13, rx14], ov Y0 [] [], Z) r) {r : Int32} {rx1 : (Nat → Int32)} {rx13 : (Nat → Int32)} {rx14 : (Nat → Int32)} (hret : ∀ pc loc, narrow .boolean (.int r) = .int r → decode cX5_readTest pc = .ok (.ireturn, 1) → gV l b0 D K (n, κ, ov X0 [1, 3, 4, 5, 13, 14] [rx1, x3, x4, x5, rx13, rx14], ov Y0 [] [], Z, 0, 0) pc loc [.int r]) {k7 : Int32 → Int32 → Int32 → Int32 → (Nat → Int32) → (Nat → Int32) → (Nat → Int32) → Option (Int32 × (Nat → Int32) × (Nat → Int32) × (Nat → Int32))} (hk7 : ∀ (v1 : Int32) (v2 : Int32) (v3 : Int32) (v4 : Int32) (x1 : (Nat → Int32)) (x13 : (Nat → Int32)) (x14 : (Nat → Int32)), k7 v1 v2 v3 v4 x1 x13 x14 = some (r, rx1, rx13, rx14) → gV l b0 D K (n, κ, ov X0 [1, 3, 4, 5, 13, 14] [x1, x3, x4, x5, x13, x14], ov Y0 [] [], Z, 0, 0) 7 [(0, .ref (b0 + 13)), (1, .int v1), (2, .int v2), (3, .int v3), (4, .int v4)] []) {v1 : Int32} {v2 : Int32} {v3 : Int32} {v4 : Int32} {x1 : (Nat → Int32)} {x13 : (Nat → Int32)} {x14 : (Nat → Int32)} (hf : fX5_readTestO_95 recF x3 x4 x5 k7 v1 v2 v3 v4 x1 x13 x14 = some (r, rx1, rx13, rx14)) : gV l b0 D K (n, κ, ov X0 [1, 3, 4, 5, 13, 14] [x1, x3, x4, x5, x13, x14], ov Y0 [] [], Z, 0, 0) 95 [(0, .ref (b0 + 13)), (1, .int v1), (2, .int v2), (3, .int v3), (4, .int v4)] [] := by
  unfold fX5_readTestO_95 at hf
  refine g_aload_n hC 0 dX5_readTest_95 rfl rfl ?_
  refine gt_X5_15 hC (a := 13) (kk_13 hL) (kn_13 hL) dX5_readTest_96 ?_
  refine g_ref (b := 1) rfl ?_
  obtain ⟨x1_1, q_2, hf⟩ := bd1E hf
  refine g_callV_v (a := 1) hC (X' := ov X0 [1, 3, 4, 5, 13, 14] [x1_1, x3, x4, x5, x13, x14]) (Y' := ov Y0 [] []) (As := []) (gMv_eq (c_X8_skip l hL (ov_map hN [0] (by rfl) (by rfl)) (ov_map hM [] (by rfl) (by rfl)) q_2) (ov_ovE hN (by rfl) [0] [1, 2, 3, 4, 5] (by rfl) (by rfl) [x3, x4, x5, x13, x14] (by rfl) (by rfl) (by rfl) 6 (by rfl) (by decide)) (ov_ovE hM (by rfl) [] [] (by rfl) (by rfl) [] (by rfl) (by rfl) (by rfl) 0 (by rfl) (by decide))) tw_651 tw_725 tw_117 tw_649 tw_650 (ci := 8) rfl (by decide) (kk_1 hL) (kn_1 hL) pd_X8_skip ⟨by omega, by omega⟩ (by decide) rfl rfl (Nat.le_of_ble_eq_true rfl) rfl dX5_readTest_99 ?_
  obtain ⟨t_3, et_3, hf⟩ := bnE hf
  refine g_iinc hC (i := 4) (v := t_3) [(4, .int t_3), (0, .ref (b0 + 13)), (1, .int v1), (2, .int v2), (3, .int v3)] dX5_readTest_102 (q := 4) rfl ((congrArg (HAdd.hAdd v4) ic_1).trans et_3.symm) (by decide) rfl ?_
  refine g_goto hC 7 dX5_readTest_105 (by decide) ?_
  exact g_sub [1, 2, 3, 4, 0] rfl (hk7 v1 v2 v3 t_3 x1_1 x13 x14 hf)

def fX5_readTestO_88 (recF : Int32 → (Nat → Int32) → (Nat → Int32) → (Nat → Int32) → Option (Int32 × (Nat → Int32) × (Nat → Int32) × (Nat → Int32)))  (x3 : Nat → Int32) (x4 : Nat → Int32) (x5 : Nat → Int32)  (k7 : Int32 → Int32 → Int32 → Int32 → (Nat → Int32) → (Nat → Int32) → (Nat → Int32) → Option (Int32 × (Nat → Int32) × (Nat → Int32) × (Nat → Int32))) (v1 : Int32) (v2 : Int32) (v4 : Int32) (s0 : Int32) (x1 : (Nat → Int32)) (x13 : (Nat → Int32)) (x14 : (Nat → Int32)) : Option (Int32 × (Nat → Int32) × (Nat → Int32) × (Nat → Int32)) := if s0 = 0 then (some (1, x1, x13, x14)) else (fX5_readTestO_95 recF x3 x4 x5 k7 v1 v2 s0 v4 x1 x13 x14)
set_option maxHeartbeats 4000000 in
set_option maxRecDepth 100000 in
theorem wX5_readTestO_88 {l : Launch} {b0 : Nat} {D : GD} {K : KT} {n : Nat} {κ : QT} {X0 : XT} {Y0 : YT} {Z : ZT} (hL : LY n κ) {frF loF : Nat} (hN : ([1, 3, 4, 5, 13, 14] : List Nat).Nodup) (hM : ([] : List Nat).Nodup) (hC : gC l b0 D K RX5 cX5_readTest (some FieldType.boolean) 5 (frF + 8) (loF + 400) 0 0) {x3 : Nat → Int32} {x4 : Nat → Int32} {x5 : Nat → Int32} {recF : Int32 → (Nat → Int32) → (Nat → Int32) → (Nat → Int32) → Option (Int32 × (Nat → Int32) × (Nat → Int32) × (Nat → Int32))} (hF : ∀ {X0 : XT} {Y0 : YT} {zx1 : Nat → Int32} {zx13 : Nat → Int32} {zx14 : Nat → Int32} (hx : ([1, 3, 4, 5, 13, 14] : List Nat).map X0 = [zx1, x3, x4, x5, zx13, zx14]) (hy : ([] : List Nat).map Y0 = []) {v1 : Int32} {r : Int32} {rx1 : (Nat → Int32)} {rx13 : (Nat → Int32)} {rx14 : (Nat → Int32)}, recF v1 zx1 zx13 zx14 = some (r, rx1, rx13, rx14) → gMi l yX5_readFact cX5_readFact 4 (some FieldType.boolean) frF loF 0 0 b0 D [.ref (b0 + 13), .int v1] (n, κ, X0, Y0, Z) (n, κ, ov X0 [1, 3, 4, 5, 13, 14] [rx1, x3, x4, x5, rx13, rx14], ov Y0 [] [], Z) r) {r : Int32} {rx1 : (Nat → Int32)} {rx13 : (Nat → Int32)} {rx14 : (Nat → Int32)} (hret : ∀ pc loc, narrow .boolean (.int r) = .int r → decode cX5_readTest pc = .ok (.ireturn, 1) → gV l b0 D K (n, κ, ov X0 [1, 3, 4, 5, 13, 14] [rx1, x3, x4, x5, rx13, rx14], ov Y0 [] [], Z, 0, 0) pc loc [.int r]) {k7 : Int32 → Int32 → Int32 → Int32 → (Nat → Int32) → (Nat → Int32) → (Nat → Int32) → Option (Int32 × (Nat → Int32) × (Nat → Int32) × (Nat → Int32))} (hk7 : ∀ (v1 : Int32) (v2 : Int32) (v3 : Int32) (v4 : Int32) (x1 : (Nat → Int32)) (x13 : (Nat → Int32)) (x14 : (Nat → Int32)), k7 v1 v2 v3 v4 x1 x13 x14 = some (r, rx1, rx13, rx14) → gV l b0 D K (n, κ, ov X0 [1, 3, 4, 5, 13, 14] [x1, x3, x4, x5, x13, x14], ov Y0 [] [], Z, 0, 0) 7 [(0, .ref (b0 + 13)), (1, .int v1), (2, .int v2), (3, .int v3), (4, .int v4)] []) {v1 : Int32} {v2 : Int32} {v4 : Int32} {s0 : Int32} {x1 : (Nat → Int32)} {x13 : (Nat → Int32)} {x14 : (Nat → Int32)} (hf : fX5_readTestO_88 recF x3 x4 x5 k7 v1 v2 v4 s0 x1 x13 x14 = some (r, rx1, rx13, rx14)) : gV l b0 D K (n, κ, ov X0 [1, 3, 4, 5, 13, 14] [x1, x3, x4, x5, x13, x14], ov Y0 [] [], Z, 0, 0) 88 [(0, .ref (b0 + 13)), (1, .int v1), (2, .int v2), (4, .int v4)] [.int s0] := by
  unfold fX5_readTestO_88 at hf
  refine g_istore_n hC (i := 3) [(3, .int s0), (0, .ref (b0 + 13)), (1, .int v1), (2, .int v2), (4, .int v4)] rfl dX5_readTest_88 (by decide) rfl ?_
  refine g_iload_n hC 0 dX5_readTest_89 rfl rfl ?_
  refine g_if_ne hC 95 dX5_readTest_90 (by decide) (fun hc => ?_) (fun hc => ?_)
  · replace hf := ifF hf hc
    exact g_sub [1, 2, 3, 0, 4] rfl (wX5_readTestO_95 hL hN hM hC hF hret hk7 hf)
  · replace hf := ifT hf hc
    refine g_iconst hC (v := 1) dX5_readTest_93 ic_1 ?_
    obtain ⟨rfl, rfl, rfl, rfl⟩ := sm4E hf
    exact hret _ _ rfl dX5_readTest_94

def fX5_readTestO_71 (recF : Int32 → (Nat → Int32) → (Nat → Int32) → (Nat → Int32) → Option (Int32 × (Nat → Int32) × (Nat → Int32) × (Nat → Int32)))  (x3 : Nat → Int32) (x4 : Nat → Int32) (x5 : Nat → Int32)  (k7 : Int32 → Int32 → Int32 → Int32 → (Nat → Int32) → (Nat → Int32) → (Nat → Int32) → Option (Int32 × (Nat → Int32) × (Nat → Int32) × (Nat → Int32))) (v1 : Int32) (v2 : Int32) (v4 : Int32) (x1 : (Nat → Int32)) (x13 : (Nat → Int32)) (x14 : (Nat → Int32)) : Option (Int32 × (Nat → Int32) × (Nat → Int32) × (Nat → Int32)) := bd1 (fX8_code x1 x3) fun r_1 => (if r_1 = 34 then (fX5_readTestO_88 recF x3 x4 x5 k7 v1 v2 v4 1 x1 x13 x14) else (fX5_readTestO_88 recF x3 x4 x5 k7 v1 v2 v4 0 x1 x13 x14))
set_option maxHeartbeats 4000000 in
set_option maxRecDepth 100000 in
theorem wX5_readTestO_71 {l : Launch} {b0 : Nat} {D : GD} {K : KT} {n : Nat} {κ : QT} {X0 : XT} {Y0 : YT} {Z : ZT} (hL : LY n κ) {frF loF : Nat} (hN : ([1, 3, 4, 5, 13, 14] : List Nat).Nodup) (hM : ([] : List Nat).Nodup) (hC : gC l b0 D K RX5 cX5_readTest (some FieldType.boolean) 5 (frF + 8) (loF + 400) 0 0) {x3 : Nat → Int32} {x4 : Nat → Int32} {x5 : Nat → Int32} {recF : Int32 → (Nat → Int32) → (Nat → Int32) → (Nat → Int32) → Option (Int32 × (Nat → Int32) × (Nat → Int32) × (Nat → Int32))} (hF : ∀ {X0 : XT} {Y0 : YT} {zx1 : Nat → Int32} {zx13 : Nat → Int32} {zx14 : Nat → Int32} (hx : ([1, 3, 4, 5, 13, 14] : List Nat).map X0 = [zx1, x3, x4, x5, zx13, zx14]) (hy : ([] : List Nat).map Y0 = []) {v1 : Int32} {r : Int32} {rx1 : (Nat → Int32)} {rx13 : (Nat → Int32)} {rx14 : (Nat → Int32)}, recF v1 zx1 zx13 zx14 = some (r, rx1, rx13, rx14) → gMi l yX5_readFact cX5_readFact 4 (some FieldType.boolean) frF loF 0 0 b0 D [.ref (b0 + 13), .int v1] (n, κ, X0, Y0, Z) (n, κ, ov X0 [1, 3, 4, 5, 13, 14] [rx1, x3, x4, x5, rx13, rx14], ov Y0 [] [], Z) r) {r : Int32} {rx1 : (Nat → Int32)} {rx13 : (Nat → Int32)} {rx14 : (Nat → Int32)} (hret : ∀ pc loc, narrow .boolean (.int r) = .int r → decode cX5_readTest pc = .ok (.ireturn, 1) → gV l b0 D K (n, κ, ov X0 [1, 3, 4, 5, 13, 14] [rx1, x3, x4, x5, rx13, rx14], ov Y0 [] [], Z, 0, 0) pc loc [.int r]) {k7 : Int32 → Int32 → Int32 → Int32 → (Nat → Int32) → (Nat → Int32) → (Nat → Int32) → Option (Int32 × (Nat → Int32) × (Nat → Int32) × (Nat → Int32))} (hk7 : ∀ (v1 : Int32) (v2 : Int32) (v3 : Int32) (v4 : Int32) (x1 : (Nat → Int32)) (x13 : (Nat → Int32)) (x14 : (Nat → Int32)), k7 v1 v2 v3 v4 x1 x13 x14 = some (r, rx1, rx13, rx14) → gV l b0 D K (n, κ, ov X0 [1, 3, 4, 5, 13, 14] [x1, x3, x4, x5, x13, x14], ov Y0 [] [], Z, 0, 0) 7 [(0, .ref (b0 + 13)), (1, .int v1), (2, .int v2), (3, .int v3), (4, .int v4)] []) {v1 : Int32} {v2 : Int32} {v4 : Int32} {x1 : (Nat → Int32)} {x13 : (Nat → Int32)} {x14 : (Nat → Int32)} (hf : fX5_readTestO_71 recF x3 x4 x5 k7 v1 v2 v4 x1 x13 x14 = some (r, rx1, rx13, rx14)) : gV l b0 D K (n, κ, ov X0 [1, 3, 4, 5, 13, 14] [x1, x3, x4, x5, x13, x14], ov Y0 [] [], Z, 0, 0) 71 [(0, .ref (b0 + 13)), (1, .int v1), (2, .int v2), (4, .int v4)] [] := by
  unfold fX5_readTestO_71 at hf
  refine g_aload_n hC 0 dX5_readTest_71 rfl rfl ?_
  refine gt_X5_15 hC (a := 13) (kk_13 hL) (kn_13 hL) dX5_readTest_72 ?_
  refine g_ref (b := 1) rfl ?_
  obtain ⟨r_1, q_2, hf⟩ := bd1E hf
  refine g_callV_i (a := 1) hC (X' := ov X0 [1, 3, 4, 5, 13, 14] [x1, x3, x4, x5, x13, x14]) (Y' := ov Y0 [] []) (As := []) (gMi_eq (c_X8_code l hL (ov_map hN [0, 1] (by rfl) (by rfl)) (ov_map hM [] (by rfl) (by rfl)) q_2) (ov_ovE hN (by rfl) [0, 1] [2, 3, 4, 5] (by rfl) (by rfl) [x4, x5, x13, x14] (by rfl) (by rfl) (by rfl) 6 (by rfl) (by decide)) (ov_ovE hM (by rfl) [] [] (by rfl) (by rfl) [] (by rfl) (by rfl) (by rfl) 0 (by rfl) (by decide))) tw_639 tw_723 tw_117 tw_637 tw_638 (ci := 8) rfl (by decide) (kk_1 hL) (kn_1 hL) pd_X8_code ⟨by omega, by omega⟩ (by decide) rfl rfl (Nat.le_of_ble_eq_true rfl) rfl dX5_readTest_75 ?_
  refine g_bipush hC (v := 34) dX5_readTest_78 bp_34 ?_
  refine g_icmp_ne hC 87 dX5_readTest_80 (by decide) (fun hc => ?_) (fun hc => ?_)
  · replace hf := ifF hf hc
    refine g_iconst hC (v := 0) dX5_readTest_87 ic_0 ?_
    exact g_sub [0, 1, 2, 3] rfl (wX5_readTestO_88 hL hN hM hC hF hret hk7 hf)
  · replace hf := ifT hf hc
    refine g_iconst hC (v := 1) dX5_readTest_83 ic_1 ?_
    refine g_goto hC 88 dX5_readTest_84 (by decide) ?_
    exact g_sub [0, 1, 2, 3] rfl (wX5_readTestO_88 hL hN hM hC hF hret hk7 hf)

def fX5_readTestO_54 (recF : Int32 → (Nat → Int32) → (Nat → Int32) → (Nat → Int32) → Option (Int32 × (Nat → Int32) × (Nat → Int32) × (Nat → Int32)))  (x3 : Nat → Int32) (x4 : Nat → Int32) (x5 : Nat → Int32)  (k7 : Int32 → Int32 → Int32 → Int32 → (Nat → Int32) → (Nat → Int32) → (Nat → Int32) → Option (Int32 × (Nat → Int32) × (Nat → Int32) × (Nat → Int32))) (v1 : Int32) (v3 : Int32) (v4 : Int32) (s0 : Int32) (x1 : (Nat → Int32)) (x13 : (Nat → Int32)) (x14 : (Nat → Int32)) : Option (Int32 × (Nat → Int32) × (Nat → Int32) × (Nat → Int32)) := if s0 = 0 then (if v3 = 0 then (fX5_readTestO_71 recF x3 x4 x5 k7 v1 s0 v4 x1 x13 x14) else (bd3 (fX5_write 34 0 x13 x14) fun r_1 x13_2 x14_3 => (fX5_readTestO_71 recF x3 x4 x5 k7 v1 s0 v4 x1 x13_2 x14_3))) else (fX5_readTestO_95 recF x3 x4 x5 k7 v1 s0 v3 v4 x1 x13 x14)
set_option maxHeartbeats 4000000 in
set_option maxRecDepth 100000 in
theorem wX5_readTestO_54 {l : Launch} {b0 : Nat} {D : GD} {K : KT} {n : Nat} {κ : QT} {X0 : XT} {Y0 : YT} {Z : ZT} (hL : LY n κ) {frF loF : Nat} (hN : ([1, 3, 4, 5, 13, 14] : List Nat).Nodup) (hM : ([] : List Nat).Nodup) (hC : gC l b0 D K RX5 cX5_readTest (some FieldType.boolean) 5 (frF + 8) (loF + 400) 0 0) {x3 : Nat → Int32} {x4 : Nat → Int32} {x5 : Nat → Int32} {recF : Int32 → (Nat → Int32) → (Nat → Int32) → (Nat → Int32) → Option (Int32 × (Nat → Int32) × (Nat → Int32) × (Nat → Int32))} (hF : ∀ {X0 : XT} {Y0 : YT} {zx1 : Nat → Int32} {zx13 : Nat → Int32} {zx14 : Nat → Int32} (hx : ([1, 3, 4, 5, 13, 14] : List Nat).map X0 = [zx1, x3, x4, x5, zx13, zx14]) (hy : ([] : List Nat).map Y0 = []) {v1 : Int32} {r : Int32} {rx1 : (Nat → Int32)} {rx13 : (Nat → Int32)} {rx14 : (Nat → Int32)}, recF v1 zx1 zx13 zx14 = some (r, rx1, rx13, rx14) → gMi l yX5_readFact cX5_readFact 4 (some FieldType.boolean) frF loF 0 0 b0 D [.ref (b0 + 13), .int v1] (n, κ, X0, Y0, Z) (n, κ, ov X0 [1, 3, 4, 5, 13, 14] [rx1, x3, x4, x5, rx13, rx14], ov Y0 [] [], Z) r) {r : Int32} {rx1 : (Nat → Int32)} {rx13 : (Nat → Int32)} {rx14 : (Nat → Int32)} (hret : ∀ pc loc, narrow .boolean (.int r) = .int r → decode cX5_readTest pc = .ok (.ireturn, 1) → gV l b0 D K (n, κ, ov X0 [1, 3, 4, 5, 13, 14] [rx1, x3, x4, x5, rx13, rx14], ov Y0 [] [], Z, 0, 0) pc loc [.int r]) {k7 : Int32 → Int32 → Int32 → Int32 → (Nat → Int32) → (Nat → Int32) → (Nat → Int32) → Option (Int32 × (Nat → Int32) × (Nat → Int32) × (Nat → Int32))} (hk7 : ∀ (v1 : Int32) (v2 : Int32) (v3 : Int32) (v4 : Int32) (x1 : (Nat → Int32)) (x13 : (Nat → Int32)) (x14 : (Nat → Int32)), k7 v1 v2 v3 v4 x1 x13 x14 = some (r, rx1, rx13, rx14) → gV l b0 D K (n, κ, ov X0 [1, 3, 4, 5, 13, 14] [x1, x3, x4, x5, x13, x14], ov Y0 [] [], Z, 0, 0) 7 [(0, .ref (b0 + 13)), (1, .int v1), (2, .int v2), (3, .int v3), (4, .int v4)] []) {v1 : Int32} {v3 : Int32} {v4 : Int32} {s0 : Int32} {x1 : (Nat → Int32)} {x13 : (Nat → Int32)} {x14 : (Nat → Int32)} (hf : fX5_readTestO_54 recF x3 x4 x5 k7 v1 v3 v4 s0 x1 x13 x14 = some (r, rx1, rx13, rx14)) : gV l b0 D K (n, κ, ov X0 [1, 3, 4, 5, 13, 14] [x1, x3, x4, x5, x13, x14], ov Y0 [] [], Z, 0, 0) 54 [(0, .ref (b0 + 13)), (1, .int v1), (3, .int v3), (4, .int v4)] [.int s0] := by
  unfold fX5_readTestO_54 at hf
  refine g_istore_n hC (i := 2) [(2, .int s0), (0, .ref (b0 + 13)), (1, .int v1), (3, .int v3), (4, .int v4)] rfl dX5_readTest_54 (by decide) rfl ?_
  refine g_iload_n hC 0 dX5_readTest_55 rfl rfl ?_
  refine g_if_ne hC 95 dX5_readTest_56 (by decide) (fun hc => ?_) (fun hc => ?_)
  · replace hf := ifF hf hc
    exact g_sub [1, 2, 0, 3, 4] rfl (wX5_readTestO_95 hL hN hM hC hF hret hk7 hf)
  · replace hf := ifT hf hc
    refine g_iload_n hC 3 dX5_readTest_59 rfl rfl ?_
    refine g_if_eq hC 71 dX5_readTest_60 (by decide) (fun hc => ?_) (fun hc => ?_)
    · replace hf := ifT hf hc
      exact g_sub [1, 2, 0, 4] rfl (wX5_readTestO_71 hL hN hM hC hF hret hk7 hf)
    · replace hf := ifF hf hc
      refine g_aload_n hC 1 dX5_readTest_63 rfl rfl ?_
      refine g_bipush hC (v := 34) dX5_readTest_64 bp_34 ?_
      refine g_iconst hC (v := 0) dX5_readTest_66 ic_0 ?_
      obtain ⟨r_1, x13_2, x14_3, q_4, hf⟩ := bd3E hf
      refine g_callV_i (a := 13) hC (X' := ov X0 [1, 3, 4, 5, 13, 14] [x1, x3, x4, x5, x13_2, x14_3]) (Y' := ov Y0 [] []) (As := [.int 34, .int 0]) (gMi_eq (c_X5_write l hL (ov_map hN [4, 5] (by rfl) (by rfl)) (ov_map hM [] (by rfl) (by rfl)) q_4) (ov_ovE hN (by rfl) [4, 5] [0, 1, 2, 3] (by rfl) (by rfl) [x1, x3, x4, x5] (by rfl) (by rfl) (by rfl) 6 (by rfl) (by decide)) (ov_ovE hM (by rfl) [] [] (by rfl) (by rfl) [] (by rfl) (by rfl) (by rfl) 0 (by rfl) (by decide))) tw_739 tw_736 tw_121 tw_738 tw_18 (ci := 5) rfl (by decide) (kk_13 hL) (kn_13 hL) pd_X5_write ⟨by omega, by omega⟩ (by decide) rfl rfl (Nat.le_of_ble_eq_true rfl) rfl dX5_readTest_67 ?_
      refine g_pop hC dX5_readTest_70 rfl ?_
      exact g_sub [1, 2, 0, 4] rfl (wX5_readTestO_71 hL hN hM hC hF hret hk7 hf)

def fX5_readTestO_37 (recF : Int32 → (Nat → Int32) → (Nat → Int32) → (Nat → Int32) → Option (Int32 × (Nat → Int32) × (Nat → Int32) × (Nat → Int32)))  (x3 : Nat → Int32) (x4 : Nat → Int32) (x5 : Nat → Int32)  (k7 : Int32 → Int32 → Int32 → Int32 → (Nat → Int32) → (Nat → Int32) → (Nat → Int32) → Option (Int32 × (Nat → Int32) × (Nat → Int32) × (Nat → Int32))) (v1 : Int32) (v3 : Int32) (v4 : Int32) (x1 : (Nat → Int32)) (x13 : (Nat → Int32)) (x14 : (Nat → Int32)) : Option (Int32 × (Nat → Int32) × (Nat → Int32) × (Nat → Int32)) := bd1 (fX8_code x1 x3) fun r_1 => (if r_1 = 35 then (fX5_readTestO_54 recF x3 x4 x5 k7 v1 v3 v4 1 x1 x13 x14) else (fX5_readTestO_54 recF x3 x4 x5 k7 v1 v3 v4 0 x1 x13 x14))
set_option maxHeartbeats 4000000 in
set_option maxRecDepth 100000 in
theorem wX5_readTestO_37 {l : Launch} {b0 : Nat} {D : GD} {K : KT} {n : Nat} {κ : QT} {X0 : XT} {Y0 : YT} {Z : ZT} (hL : LY n κ) {frF loF : Nat} (hN : ([1, 3, 4, 5, 13, 14] : List Nat).Nodup) (hM : ([] : List Nat).Nodup) (hC : gC l b0 D K RX5 cX5_readTest (some FieldType.boolean) 5 (frF + 8) (loF + 400) 0 0) {x3 : Nat → Int32} {x4 : Nat → Int32} {x5 : Nat → Int32} {recF : Int32 → (Nat → Int32) → (Nat → Int32) → (Nat → Int32) → Option (Int32 × (Nat → Int32) × (Nat → Int32) × (Nat → Int32))} (hF : ∀ {X0 : XT} {Y0 : YT} {zx1 : Nat → Int32} {zx13 : Nat → Int32} {zx14 : Nat → Int32} (hx : ([1, 3, 4, 5, 13, 14] : List Nat).map X0 = [zx1, x3, x4, x5, zx13, zx14]) (hy : ([] : List Nat).map Y0 = []) {v1 : Int32} {r : Int32} {rx1 : (Nat → Int32)} {rx13 : (Nat → Int32)} {rx14 : (Nat → Int32)}, recF v1 zx1 zx13 zx14 = some (r, rx1, rx13, rx14) → gMi l yX5_readFact cX5_readFact 4 (some FieldType.boolean) frF loF 0 0 b0 D [.ref (b0 + 13), .int v1] (n, κ, X0, Y0, Z) (n, κ, ov X0 [1, 3, 4, 5, 13, 14] [rx1, x3, x4, x5, rx13, rx14], ov Y0 [] [], Z) r) {r : Int32} {rx1 : (Nat → Int32)} {rx13 : (Nat → Int32)} {rx14 : (Nat → Int32)} (hret : ∀ pc loc, narrow .boolean (.int r) = .int r → decode cX5_readTest pc = .ok (.ireturn, 1) → gV l b0 D K (n, κ, ov X0 [1, 3, 4, 5, 13, 14] [rx1, x3, x4, x5, rx13, rx14], ov Y0 [] [], Z, 0, 0) pc loc [.int r]) {k7 : Int32 → Int32 → Int32 → Int32 → (Nat → Int32) → (Nat → Int32) → (Nat → Int32) → Option (Int32 × (Nat → Int32) × (Nat → Int32) × (Nat → Int32))} (hk7 : ∀ (v1 : Int32) (v2 : Int32) (v3 : Int32) (v4 : Int32) (x1 : (Nat → Int32)) (x13 : (Nat → Int32)) (x14 : (Nat → Int32)), k7 v1 v2 v3 v4 x1 x13 x14 = some (r, rx1, rx13, rx14) → gV l b0 D K (n, κ, ov X0 [1, 3, 4, 5, 13, 14] [x1, x3, x4, x5, x13, x14], ov Y0 [] [], Z, 0, 0) 7 [(0, .ref (b0 + 13)), (1, .int v1), (2, .int v2), (3, .int v3), (4, .int v4)] []) {v1 : Int32} {v3 : Int32} {v4 : Int32} {x1 : (Nat → Int32)} {x13 : (Nat → Int32)} {x14 : (Nat → Int32)} (hf : fX5_readTestO_37 recF x3 x4 x5 k7 v1 v3 v4 x1 x13 x14 = some (r, rx1, rx13, rx14)) : gV l b0 D K (n, κ, ov X0 [1, 3, 4, 5, 13, 14] [x1, x3, x4, x5, x13, x14], ov Y0 [] [], Z, 0, 0) 37 [(0, .ref (b0 + 13)), (1, .int v1), (3, .int v3), (4, .int v4)] [] := by
  unfold fX5_readTestO_37 at hf
  refine g_aload_n hC 0 dX5_readTest_37 rfl rfl ?_
  refine gt_X5_15 hC (a := 13) (kk_13 hL) (kn_13 hL) dX5_readTest_38 ?_
  refine g_ref (b := 1) rfl ?_
  obtain ⟨r_1, q_2, hf⟩ := bd1E hf
  refine g_callV_i (a := 1) hC (X' := ov X0 [1, 3, 4, 5, 13, 14] [x1, x3, x4, x5, x13, x14]) (Y' := ov Y0 [] []) (As := []) (gMi_eq (c_X8_code l hL (ov_map hN [0, 1] (by rfl) (by rfl)) (ov_map hM [] (by rfl) (by rfl)) q_2) (ov_ovE hN (by rfl) [0, 1] [2, 3, 4, 5] (by rfl) (by rfl) [x4, x5, x13, x14] (by rfl) (by rfl) (by rfl) 6 (by rfl) (by decide)) (ov_ovE hM (by rfl) [] [] (by rfl) (by rfl) [] (by rfl) (by rfl) (by rfl) 0 (by rfl) (by decide))) tw_639 tw_723 tw_117 tw_637 tw_638 (ci := 8) rfl (by decide) (kk_1 hL) (kn_1 hL) pd_X8_code ⟨by omega, by omega⟩ (by decide) rfl rfl (Nat.le_of_ble_eq_true rfl) rfl dX5_readTest_41 ?_
  refine g_bipush hC (v := 35) dX5_readTest_44 bp_35 ?_
  refine g_icmp_ne hC 53 dX5_readTest_46 (by decide) (fun hc => ?_) (fun hc => ?_)
  · replace hf := ifF hf hc
    refine g_iconst hC (v := 0) dX5_readTest_53 ic_0 ?_
    exact g_sub [0, 1, 2, 3] rfl (wX5_readTestO_54 hL hN hM hC hF hret hk7 hf)
  · replace hf := ifT hf hc
    refine g_iconst hC (v := 1) dX5_readTest_49 ic_1 ?_
    refine g_goto hC 54 dX5_readTest_50 (by decide) ?_
    exact g_sub [0, 1, 2, 3] rfl (wX5_readTestO_54 hL hN hM hC hF hret hk7 hf)

def fX5_readTestO_7b (recF : Int32 → (Nat → Int32) → (Nat → Int32) → (Nat → Int32) → Option (Int32 × (Nat → Int32) × (Nat → Int32) × (Nat → Int32)))  (x3 : Nat → Int32) (x4 : Nat → Int32) (x5 : Nat → Int32)  (k7 : Int32 → Int32 → Int32 → Int32 → (Nat → Int32) → (Nat → Int32) → (Nat → Int32) → Option (Int32 × (Nat → Int32) × (Nat → Int32) × (Nat → Int32))) (v1 : Int32) (v2 : Int32) (v3 : Int32) (v4 : Int32) (x1 : (Nat → Int32)) (x13 : (Nat → Int32)) (x14 : (Nat → Int32)) : Option (Int32 × (Nat → Int32) × (Nat → Int32) × (Nat → Int32)) := if 400 ≤ v4 then (bd2 (fX8_fail x4 0 x1) fun r_1 x1_2 => (gd (bz r_1) (some (r_1, x1_2, x13, x14)))) else (bd4 (recF v1 x1 x13 x14) fun r_5 x1_6 x13_7 x14_8 => (if r_5 = 0 then (some (0, x1_6, x13_7, x14_8)) else (if v2 = 0 then (fX5_readTestO_37 recF x3 x4 x5 k7 v1 v3 v4 x1_6 x13_7 x14_8) else (bd3 (fX5_write 35 0 x13_7 x14_8) fun r_10 x13_11 x14_12 => (fX5_readTestO_37 recF x3 x4 x5 k7 v1 v3 v4 x1_6 x13_11 x14_12)))))
def fX5_readTestO_7 (recF : Int32 → (Nat → Int32) → (Nat → Int32) → (Nat → Int32) → Option (Int32 × (Nat → Int32) × (Nat → Int32) × (Nat → Int32)))  (x3 : Nat → Int32) (x4 : Nat → Int32) (x5 : Nat → Int32)  : Int32 → Int32 → Int32 → Int32 → (Nat → Int32) → (Nat → Int32) → (Nat → Int32) → Option (Int32 × (Nat → Int32) × (Nat → Int32) × (Nat → Int32)) := lq7 (fX5_readTestO_7b recF x3 x4 x5 ) 5000
set_option maxHeartbeats 4000000 in
set_option maxRecDepth 100000 in
theorem wX5_readTestO_7 {l : Launch} {b0 : Nat} {D : GD} {K : KT} {n : Nat} {κ : QT} {X0 : XT} {Y0 : YT} {Z : ZT} (hL : LY n κ) {frF loF : Nat} (hN : ([1, 3, 4, 5, 13, 14] : List Nat).Nodup) (hM : ([] : List Nat).Nodup) (hC : gC l b0 D K RX5 cX5_readTest (some FieldType.boolean) 5 (frF + 8) (loF + 400) 0 0) {x3 : Nat → Int32} {x4 : Nat → Int32} {x5 : Nat → Int32} {recF : Int32 → (Nat → Int32) → (Nat → Int32) → (Nat → Int32) → Option (Int32 × (Nat → Int32) × (Nat → Int32) × (Nat → Int32))} (hF : ∀ {X0 : XT} {Y0 : YT} {zx1 : Nat → Int32} {zx13 : Nat → Int32} {zx14 : Nat → Int32} (hx : ([1, 3, 4, 5, 13, 14] : List Nat).map X0 = [zx1, x3, x4, x5, zx13, zx14]) (hy : ([] : List Nat).map Y0 = []) {v1 : Int32} {r : Int32} {rx1 : (Nat → Int32)} {rx13 : (Nat → Int32)} {rx14 : (Nat → Int32)}, recF v1 zx1 zx13 zx14 = some (r, rx1, rx13, rx14) → gMi l yX5_readFact cX5_readFact 4 (some FieldType.boolean) frF loF 0 0 b0 D [.ref (b0 + 13), .int v1] (n, κ, X0, Y0, Z) (n, κ, ov X0 [1, 3, 4, 5, 13, 14] [rx1, x3, x4, x5, rx13, rx14], ov Y0 [] [], Z) r) {r : Int32} {rx1 : (Nat → Int32)} {rx13 : (Nat → Int32)} {rx14 : (Nat → Int32)} (hret : ∀ pc loc, narrow .boolean (.int r) = .int r → decode cX5_readTest pc = .ok (.ireturn, 1) → gV l b0 D K (n, κ, ov X0 [1, 3, 4, 5, 13, 14] [rx1, x3, x4, x5, rx13, rx14], ov Y0 [] [], Z, 0, 0) pc loc [.int r]) : ∀ (j : Nat) (v1 : Int32) (v2 : Int32) (v3 : Int32) (v4 : Int32) (x1 : (Nat → Int32)) (x13 : (Nat → Int32)) (x14 : (Nat → Int32)), lq7 (fX5_readTestO_7b recF x3 x4 x5 ) j v1 v2 v3 v4 x1 x13 x14 = some (r, rx1, rx13, rx14) → gV l b0 D K (n, κ, ov X0 [1, 3, 4, 5, 13, 14] [x1, x3, x4, x5, x13, x14], ov Y0 [] [], Z, 0, 0) 7 [(0, .ref (b0 + 13)), (1, .int v1), (2, .int v2), (3, .int v3), (4, .int v4)] [] := by
  intro j
  induction j with
  | zero => intro v1 v2 v3 v4 x1 x13 x14 hf; cases hf
  | succ j hk7 =>
    intro v1 v2 v3 v4 x1 x13 x14 hf
    replace hf : fX5_readTestO_7b recF x3 x4 x5  (lq7 (fX5_readTestO_7b recF x3 x4 x5 ) j) v1 v2 v3 v4 x1 x13 x14 = some (r, rx1, rx13, rx14) := hf
    unfold fX5_readTestO_7b at hf
    refine g_iload hC 4 dX5_readTest_7 rfl ?_
    refine g_sipush hC (v := 400) dX5_readTest_9 sp_400 ?_
    refine g_icmp_ge hC 108 dX5_readTest_12 (by decide) (fun hc => ?_) (fun hc => ?_)
    · replace hf := ifT hf hc
      refine g_aload_n hC 0 dX5_readTest_108 rfl rfl ?_
      refine gt_X5_15 hC (a := 13) (kk_13 hL) (kn_13 hL) dX5_readTest_109 ?_
      refine g_ref (b := 1) rfl ?_
      refine g_iconst hC (v := 0) dX5_readTest_112 ic_0 ?_
      obtain ⟨r_1, x1_2, q_3, hf⟩ := bd2E hf
      refine g_callV_i (a := 1) hC (X' := ov X0 [1, 3, 4, 5, 13, 14] [x1_2, x3, x4, x5, x13, x14]) (Y' := ov Y0 [] []) (As := [.int 0]) (gMi_eq (c_X8_fail l hL (ov_map hN [0, 2] (by rfl) (by rfl)) (ov_map hM [] (by rfl) (by rfl)) q_3) (ov_ovE hN (by rfl) [0, 2] [1, 3, 4, 5] (by rfl) (by rfl) [x3, x5, x13, x14] (by rfl) (by rfl) (by rfl) 6 (by rfl) (by decide)) (ov_ovE hM (by rfl) [] [] (by rfl) (by rfl) [] (by rfl) (by rfl) (by rfl) 0 (by rfl) (by decide))) tw_643 tw_724 tw_117 tw_641 tw_642 (ci := 8) rfl (by decide) (kk_1 hL) (kn_1 hL) pd_X8_fail ⟨by omega, by omega⟩ (by decide) rfl rfl (Nat.le_of_ble_eq_true rfl) rfl dX5_readTest_113 ?_
      obtain ⟨h_4, hf⟩ := gdE hf
      obtain ⟨rfl, rfl, rfl, rfl⟩ := sm4E hf
      exact hret _ _ (bz_nar h_4) dX5_readTest_116
    · replace hf := ifF hf hc
      refine g_aload_n hC 0 dX5_readTest_15 rfl rfl ?_
      refine g_iload_n hC 1 dX5_readTest_16 rfl rfl ?_
      obtain ⟨r_5, x1_6, x13_7, x14_8, q_9, hf⟩ := bd4E hf
      refine g_callV_i (a := 13) hC (X' := ov X0 [1, 3, 4, 5, 13, 14] [x1_6, x3, x4, x5, x13_7, x14_8]) (Y' := ov Y0 [] []) (As := [.int v1]) (gMi_eq (hF (ov_map hN [0, 1, 2, 3, 4, 5] (by rfl) (by rfl)) (ov_map hM [] (by rfl) (by rfl)) q_9) (ov_ovE hN (by rfl) [0, 1, 2, 3, 4, 5] [] (by rfl) (by rfl) [] (by rfl) (by rfl) (by rfl) 6 (by rfl) (by decide)) (ov_ovE hM (by rfl) [] [] (by rfl) (by rfl) [] (by rfl) (by rfl) (by rfl) 0 (by rfl) (by decide))) tw_747 tw_744 tw_121 tw_746 tw_20 (ci := 5) rfl (by decide) (kk_13 hL) (kn_13 hL) pd_X5_readFact ⟨by omega, by omega⟩ (by decide) rfl rfl (Nat.le_of_ble_eq_true rfl) rfl dX5_readTest_17 ?_
      refine g_if_ne hC 25 dX5_readTest_20 (by decide) (fun hc => ?_) (fun hc => ?_)
      · replace hf := ifF hf hc
        refine g_iload_n hC 2 dX5_readTest_25 rfl rfl ?_
        refine g_if_eq hC 37 dX5_readTest_26 (by decide) (fun hc => ?_) (fun hc => ?_)
        · replace hf := ifT hf hc
          exact g_sub [0, 1, 3, 4] rfl (wX5_readTestO_37 hL hN hM hC hF hret hk7 hf)
        · replace hf := ifF hf hc
          refine g_aload_n hC 0 dX5_readTest_29 rfl rfl ?_
          refine g_bipush hC (v := 35) dX5_readTest_30 bp_35 ?_
          refine g_iconst hC (v := 0) dX5_readTest_32 ic_0 ?_
          obtain ⟨r_10, x13_11, x14_12, q_13, hf⟩ := bd3E hf
          refine g_callV_i (a := 13) hC (X' := ov X0 [1, 3, 4, 5, 13, 14] [x1_6, x3, x4, x5, x13_11, x14_12]) (Y' := ov Y0 [] []) (As := [.int 35, .int 0]) (gMi_eq (c_X5_write l hL (ov_map hN [4, 5] (by rfl) (by rfl)) (ov_map hM [] (by rfl) (by rfl)) q_13) (ov_ovE hN (by rfl) [4, 5] [0, 1, 2, 3] (by rfl) (by rfl) [x1_6, x3, x4, x5] (by rfl) (by rfl) (by rfl) 6 (by rfl) (by decide)) (ov_ovE hM (by rfl) [] [] (by rfl) (by rfl) [] (by rfl) (by rfl) (by rfl) 0 (by rfl) (by decide))) tw_739 tw_736 tw_121 tw_738 tw_18 (ci := 5) rfl (by decide) (kk_13 hL) (kn_13 hL) pd_X5_write ⟨by omega, by omega⟩ (by decide) rfl rfl (Nat.le_of_ble_eq_true rfl) rfl dX5_readTest_33 ?_
          refine g_pop hC dX5_readTest_36 rfl ?_
          exact g_sub [0, 1, 3, 4] rfl (wX5_readTestO_37 hL hN hM hC hF hret hk7 hf)
      · replace hf := ifT hf hc
        refine g_iconst hC (v := 0) dX5_readTest_23 ic_0 ?_
        obtain ⟨rfl, rfl, rfl, rfl⟩ := sm4E hf
        exact hret _ _ rfl dX5_readTest_24

def fX5_readTestO_0 (recF : Int32 → (Nat → Int32) → (Nat → Int32) → (Nat → Int32) → Option (Int32 × (Nat → Int32) × (Nat → Int32) × (Nat → Int32)))  (x3 : Nat → Int32) (x4 : Nat → Int32) (x5 : Nat → Int32)  (v1 : Int32) (x1 : (Nat → Int32)) (x13 : (Nat → Int32)) (x14 : (Nat → Int32)) : Option (Int32 × (Nat → Int32) × (Nat → Int32) × (Nat → Int32)) := fX5_readTestO_7 recF x3 x4 x5  v1 0 0 0 x1 x13 x14
set_option maxHeartbeats 4000000 in
set_option maxRecDepth 100000 in
theorem wX5_readTestO_0 {l : Launch} {b0 : Nat} {D : GD} {K : KT} {n : Nat} {κ : QT} {X0 : XT} {Y0 : YT} {Z : ZT} (hL : LY n κ) {frF loF : Nat} (hN : ([1, 3, 4, 5, 13, 14] : List Nat).Nodup) (hM : ([] : List Nat).Nodup) (hC : gC l b0 D K RX5 cX5_readTest (some FieldType.boolean) 5 (frF + 8) (loF + 400) 0 0) {x3 : Nat → Int32} {x4 : Nat → Int32} {x5 : Nat → Int32} {recF : Int32 → (Nat → Int32) → (Nat → Int32) → (Nat → Int32) → Option (Int32 × (Nat → Int32) × (Nat → Int32) × (Nat → Int32))} (hF : ∀ {X0 : XT} {Y0 : YT} {zx1 : Nat → Int32} {zx13 : Nat → Int32} {zx14 : Nat → Int32} (hx : ([1, 3, 4, 5, 13, 14] : List Nat).map X0 = [zx1, x3, x4, x5, zx13, zx14]) (hy : ([] : List Nat).map Y0 = []) {v1 : Int32} {r : Int32} {rx1 : (Nat → Int32)} {rx13 : (Nat → Int32)} {rx14 : (Nat → Int32)}, recF v1 zx1 zx13 zx14 = some (r, rx1, rx13, rx14) → gMi l yX5_readFact cX5_readFact 4 (some FieldType.boolean) frF loF 0 0 b0 D [.ref (b0 + 13), .int v1] (n, κ, X0, Y0, Z) (n, κ, ov X0 [1, 3, 4, 5, 13, 14] [rx1, x3, x4, x5, rx13, rx14], ov Y0 [] [], Z) r) {r : Int32} {rx1 : (Nat → Int32)} {rx13 : (Nat → Int32)} {rx14 : (Nat → Int32)} (hret : ∀ pc loc, narrow .boolean (.int r) = .int r → decode cX5_readTest pc = .ok (.ireturn, 1) → gV l b0 D K (n, κ, ov X0 [1, 3, 4, 5, 13, 14] [rx1, x3, x4, x5, rx13, rx14], ov Y0 [] [], Z, 0, 0) pc loc [.int r]) {v1 : Int32} {x1 : (Nat → Int32)} {x13 : (Nat → Int32)} {x14 : (Nat → Int32)} (hf : fX5_readTestO_0 recF x3 x4 x5  v1 x1 x13 x14 = some (r, rx1, rx13, rx14)) : gV l b0 D K (n, κ, ov X0 [1, 3, 4, 5, 13, 14] [x1, x3, x4, x5, x13, x14], ov Y0 [] [], Z, 0, 0) 0 [(0, .ref (b0 + 13)), (1, .int v1)] [] := by
  unfold fX5_readTestO_0 at hf
  refine g_iconst hC (v := 0) dX5_readTest_0 ic_0 ?_
  refine g_istore_n hC (i := 2) [(2, .int 0), (0, .ref (b0 + 13)), (1, .int v1)] rfl dX5_readTest_1 (by decide) rfl ?_
  refine g_iconst hC (v := 0) dX5_readTest_2 ic_0 ?_
  refine g_istore_n hC (i := 3) [(3, .int 0), (2, .int 0), (0, .ref (b0 + 13)), (1, .int v1)] rfl dX5_readTest_3 (by decide) rfl ?_
  refine g_iconst hC (v := 0) dX5_readTest_4 ic_0 ?_
  refine g_istore hC (i := 4) [(4, .int 0), (3, .int 0), (2, .int 0), (0, .ref (b0 + 13)), (1, .int v1)] dX5_readTest_5 (by decide) rfl ?_
  exact g_sub [3, 4, 2, 1, 0] rfl (wX5_readTestO_7 hL hN hM hC hF hret  5000 v1 0 0 0 x1 x13 x14 hf)

def fX5_readTestO (recF : Int32 → (Nat → Int32) → (Nat → Int32) → (Nat → Int32) → Option (Int32 × (Nat → Int32) × (Nat → Int32) × (Nat → Int32)))  (x3 : Nat → Int32) (x4 : Nat → Int32) (x5 : Nat → Int32)  (v1 : Int32) (x1 : Nat → Int32) (x13 : Nat → Int32) (x14 : Nat → Int32)  : Option (Int32 × (Nat → Int32) × (Nat → Int32) × (Nat → Int32)) := fX5_readTestO_0 recF x3 x4 x5 v1 x1 x13 x14

set_option maxHeartbeats 4000000 in
set_option maxRecDepth 100000 in
theorem c_X5_readTestO (l : Launch) {b0 : Nat} {D : GD} {n : Nat} {κ : QT} {X0 : XT} {Y0 : YT} {Z : ZT} (hL : LY n κ) {frF loF : Nat} {x1 : Nat → Int32} {x3 : Nat → Int32} {x4 : Nat → Int32} {x5 : Nat → Int32} {x13 : Nat → Int32} {x14 : Nat → Int32} {recF : Int32 → (Nat → Int32) → (Nat → Int32) → (Nat → Int32) → Option (Int32 × (Nat → Int32) × (Nat → Int32) × (Nat → Int32))} (hF : ∀ {X0 : XT} {Y0 : YT} {zx1 : Nat → Int32} {zx13 : Nat → Int32} {zx14 : Nat → Int32} (hx : ([1, 3, 4, 5, 13, 14] : List Nat).map X0 = [zx1, x3, x4, x5, zx13, zx14]) (hy : ([] : List Nat).map Y0 = []) {v1 : Int32} {r : Int32} {rx1 : (Nat → Int32)} {rx13 : (Nat → Int32)} {rx14 : (Nat → Int32)}, recF v1 zx1 zx13 zx14 = some (r, rx1, rx13, rx14) → gMi l yX5_readFact cX5_readFact 4 (some FieldType.boolean) frF loF 0 0 b0 D [.ref (b0 + 13), .int v1] (n, κ, X0, Y0, Z) (n, κ, ov X0 [1, 3, 4, 5, 13, 14] [rx1, x3, x4, x5, rx13, rx14], ov Y0 [] [], Z) r) (hx : ([1, 3, 4, 5, 13, 14] : List Nat).map X0 = [x1, x3, x4, x5, x13, x14]) (hy : ([] : List Nat).map Y0 = []) {v1 : Int32} {r : Int32} {rx1 : (Nat → Int32)} {rx13 : (Nat → Int32)} {rx14 : (Nat → Int32)} (hf : fX5_readTestO recF x3 x4 x5 v1 x1 x13 x14 = some (r, rx1, rx13, rx14)) : gMi l yX5_readTest cX5_readTest 5 (some FieldType.boolean) (frF + 8) (loF + 400) 0 0 b0 D [.ref (b0 + 13), .int v1] (n, κ, X0, Y0, Z) (n, κ, ov X0 [1, 3, 4, 5, 13, 14] [rx1, x3, x4, x5, rx13, rx14], ov Y0 [] [], Z) r := by
  have hN : ([1, 3, 4, 5, 13, 14] : List Nat).Nodup := by decide
  have hM : ([] : List Nat).Nodup := by decide
  refine g_meti (own := RX5) (by decide) rfl rfl (Nat.le_of_ble_eq_true rfl) ?_
  intro K hC hret
  have e := wX5_readTestO_0 hL hN hM hC hF hret hf
  rw [ov_id' hx, ov_id' hy] at e
  exact g_sub [0, 1] rfl e

def fX5_readFactO_193 (recF : Int32 → (Nat → Int32) → (Nat → Int32) → (Nat → Int32) → Option (Int32 × (Nat → Int32) × (Nat → Int32) × (Nat → Int32))) (recT : Int32 → (Nat → Int32) → (Nat → Int32) → (Nat → Int32) → Option (Int32 × (Nat → Int32) × (Nat → Int32) × (Nat → Int32)))  (x3 : Nat → Int32) (x4 : Nat → Int32) (x5 : Nat → Int32)  (x1 : (Nat → Int32)) (x13 : (Nat → Int32)) (x14 : (Nat → Int32)) : Option (Int32 × (Nat → Int32) × (Nat → Int32) × (Nat → Int32)) := some (0, x1, x13, x14)
set_option maxHeartbeats 4000000 in
set_option maxRecDepth 100000 in
theorem wX5_readFactO_193 {l : Launch} {b0 : Nat} {D : GD} {K : KT} {n : Nat} {κ : QT} {X0 : XT} {Y0 : YT} {Z : ZT} (hL : LY n κ) {frF loF : Nat} (hN : ([1, 3, 4, 5, 13, 14] : List Nat).Nodup) (hM : ([] : List Nat).Nodup) (hC : gC l b0 D K RX5 cX5_readFact (some FieldType.boolean) 4 (frF + 16) (loF + 800) 0 0) {x3 : Nat → Int32} {x4 : Nat → Int32} {x5 : Nat → Int32} {recF : Int32 → (Nat → Int32) → (Nat → Int32) → (Nat → Int32) → Option (Int32 × (Nat → Int32) × (Nat → Int32) × (Nat → Int32))} (hF : ∀ {X0 : XT} {Y0 : YT} {zx1 : Nat → Int32} {zx13 : Nat → Int32} {zx14 : Nat → Int32} (hx : ([1, 3, 4, 5, 13, 14] : List Nat).map X0 = [zx1, x3, x4, x5, zx13, zx14]) (hy : ([] : List Nat).map Y0 = []) {v1 : Int32} {r : Int32} {rx1 : (Nat → Int32)} {rx13 : (Nat → Int32)} {rx14 : (Nat → Int32)}, recF v1 zx1 zx13 zx14 = some (r, rx1, rx13, rx14) → gMi l yX5_readFact cX5_readFact 4 (some FieldType.boolean) frF loF 0 0 b0 D [.ref (b0 + 13), .int v1] (n, κ, X0, Y0, Z) (n, κ, ov X0 [1, 3, 4, 5, 13, 14] [rx1, x3, x4, x5, rx13, rx14], ov Y0 [] [], Z) r) {recT : Int32 → (Nat → Int32) → (Nat → Int32) → (Nat → Int32) → Option (Int32 × (Nat → Int32) × (Nat → Int32) × (Nat → Int32))} (hT : ∀ {X0 : XT} {Y0 : YT} {zx1 : Nat → Int32} {zx13 : Nat → Int32} {zx14 : Nat → Int32} (hx : ([1, 3, 4, 5, 13, 14] : List Nat).map X0 = [zx1, x3, x4, x5, zx13, zx14]) (hy : ([] : List Nat).map Y0 = []) {v1 : Int32} {r : Int32} {rx1 : (Nat → Int32)} {rx13 : (Nat → Int32)} {rx14 : (Nat → Int32)}, recT v1 zx1 zx13 zx14 = some (r, rx1, rx13, rx14) → gMi l yX5_readTest cX5_readTest 5 (some FieldType.boolean) (frF + 8) (loF + 400) 0 0 b0 D [.ref (b0 + 13), .int v1] (n, κ, X0, Y0, Z) (n, κ, ov X0 [1, 3, 4, 5, 13, 14] [rx1, x3, x4, x5, rx13, rx14], ov Y0 [] [], Z) r) {r : Int32} {rx1 : (Nat → Int32)} {rx13 : (Nat → Int32)} {rx14 : (Nat → Int32)} (hret : ∀ pc loc, narrow .boolean (.int r) = .int r → decode cX5_readFact pc = .ok (.ireturn, 1) → gV l b0 D K (n, κ, ov X0 [1, 3, 4, 5, 13, 14] [rx1, x3, x4, x5, rx13, rx14], ov Y0 [] [], Z, 0, 0) pc loc [.int r]) {x1 : (Nat → Int32)} {x13 : (Nat → Int32)} {x14 : (Nat → Int32)} (hf : fX5_readFactO_193 recF recT x3 x4 x5  x1 x13 x14 = some (r, rx1, rx13, rx14)) : gV l b0 D K (n, κ, ov X0 [1, 3, 4, 5, 13, 14] [x1, x3, x4, x5, x13, x14], ov Y0 [] [], Z, 0, 0) 193 [] [] := by
  unfold fX5_readFactO_193 at hf
  refine g_iconst hC (v := 0) dX5_readFact_193 ic_0 ?_
  obtain ⟨rfl, rfl, rfl, rfl⟩ := sm4E hf
  exact hret _ _ rfl dX5_readFact_194

def fX5_readFactO_99 (recF : Int32 → (Nat → Int32) → (Nat → Int32) → (Nat → Int32) → Option (Int32 × (Nat → Int32) × (Nat → Int32) × (Nat → Int32))) (recT : Int32 → (Nat → Int32) → (Nat → Int32) → (Nat → Int32) → Option (Int32 × (Nat → Int32) × (Nat → Int32) × (Nat → Int32)))  (x3 : Nat → Int32) (x4 : Nat → Int32) (x5 : Nat → Int32)  (x1 : (Nat → Int32)) (x13 : (Nat → Int32)) (x14 : (Nat → Int32)) : Option (Int32 × (Nat → Int32) × (Nat → Int32) × (Nat → Int32)) := some (0, x1, x13, x14)
set_option maxHeartbeats 4000000 in
set_option maxRecDepth 100000 in
theorem wX5_readFactO_99 {l : Launch} {b0 : Nat} {D : GD} {K : KT} {n : Nat} {κ : QT} {X0 : XT} {Y0 : YT} {Z : ZT} (hL : LY n κ) {frF loF : Nat} (hN : ([1, 3, 4, 5, 13, 14] : List Nat).Nodup) (hM : ([] : List Nat).Nodup) (hC : gC l b0 D K RX5 cX5_readFact (some FieldType.boolean) 4 (frF + 16) (loF + 800) 0 0) {x3 : Nat → Int32} {x4 : Nat → Int32} {x5 : Nat → Int32} {recF : Int32 → (Nat → Int32) → (Nat → Int32) → (Nat → Int32) → Option (Int32 × (Nat → Int32) × (Nat → Int32) × (Nat → Int32))} (hF : ∀ {X0 : XT} {Y0 : YT} {zx1 : Nat → Int32} {zx13 : Nat → Int32} {zx14 : Nat → Int32} (hx : ([1, 3, 4, 5, 13, 14] : List Nat).map X0 = [zx1, x3, x4, x5, zx13, zx14]) (hy : ([] : List Nat).map Y0 = []) {v1 : Int32} {r : Int32} {rx1 : (Nat → Int32)} {rx13 : (Nat → Int32)} {rx14 : (Nat → Int32)}, recF v1 zx1 zx13 zx14 = some (r, rx1, rx13, rx14) → gMi l yX5_readFact cX5_readFact 4 (some FieldType.boolean) frF loF 0 0 b0 D [.ref (b0 + 13), .int v1] (n, κ, X0, Y0, Z) (n, κ, ov X0 [1, 3, 4, 5, 13, 14] [rx1, x3, x4, x5, rx13, rx14], ov Y0 [] [], Z) r) {recT : Int32 → (Nat → Int32) → (Nat → Int32) → (Nat → Int32) → Option (Int32 × (Nat → Int32) × (Nat → Int32) × (Nat → Int32))} (hT : ∀ {X0 : XT} {Y0 : YT} {zx1 : Nat → Int32} {zx13 : Nat → Int32} {zx14 : Nat → Int32} (hx : ([1, 3, 4, 5, 13, 14] : List Nat).map X0 = [zx1, x3, x4, x5, zx13, zx14]) (hy : ([] : List Nat).map Y0 = []) {v1 : Int32} {r : Int32} {rx1 : (Nat → Int32)} {rx13 : (Nat → Int32)} {rx14 : (Nat → Int32)}, recT v1 zx1 zx13 zx14 = some (r, rx1, rx13, rx14) → gMi l yX5_readTest cX5_readTest 5 (some FieldType.boolean) (frF + 8) (loF + 400) 0 0 b0 D [.ref (b0 + 13), .int v1] (n, κ, X0, Y0, Z) (n, κ, ov X0 [1, 3, 4, 5, 13, 14] [rx1, x3, x4, x5, rx13, rx14], ov Y0 [] [], Z) r) {r : Int32} {rx1 : (Nat → Int32)} {rx13 : (Nat → Int32)} {rx14 : (Nat → Int32)} (hret : ∀ pc loc, narrow .boolean (.int r) = .int r → decode cX5_readFact pc = .ok (.ireturn, 1) → gV l b0 D K (n, κ, ov X0 [1, 3, 4, 5, 13, 14] [rx1, x3, x4, x5, rx13, rx14], ov Y0 [] [], Z, 0, 0) pc loc [.int r]) {x1 : (Nat → Int32)} {x13 : (Nat → Int32)} {x14 : (Nat → Int32)} (hf : fX5_readFactO_99 recF recT x3 x4 x5  x1 x13 x14 = some (r, rx1, rx13, rx14)) : gV l b0 D K (n, κ, ov X0 [1, 3, 4, 5, 13, 14] [x1, x3, x4, x5, x13, x14], ov Y0 [] [], Z, 0, 0) 99 [] [] := by
  unfold fX5_readFactO_99 at hf
  refine g_iconst hC (v := 0) dX5_readFact_99 ic_0 ?_
  obtain ⟨rfl, rfl, rfl, rfl⟩ := sm4E hf
  exact hret _ _ rfl dX5_readFact_100

def fX5_readFactO_71 (recF : Int32 → (Nat → Int32) → (Nat → Int32) → (Nat → Int32) → Option (Int32 × (Nat → Int32) × (Nat → Int32) × (Nat → Int32))) (recT : Int32 → (Nat → Int32) → (Nat → Int32) → (Nat → Int32) → Option (Int32 × (Nat → Int32) × (Nat → Int32) × (Nat → Int32)))  (x3 : Nat → Int32) (x4 : Nat → Int32) (x5 : Nat → Int32)  (x1 : (Nat → Int32)) (x13 : (Nat → Int32)) (x14 : (Nat → Int32)) : Option (Int32 × (Nat → Int32) × (Nat → Int32) × (Nat → Int32)) := some (0, x1, x13, x14)
set_option maxHeartbeats 4000000 in
set_option maxRecDepth 100000 in
theorem wX5_readFactO_71 {l : Launch} {b0 : Nat} {D : GD} {K : KT} {n : Nat} {κ : QT} {X0 : XT} {Y0 : YT} {Z : ZT} (hL : LY n κ) {frF loF : Nat} (hN : ([1, 3, 4, 5, 13, 14] : List Nat).Nodup) (hM : ([] : List Nat).Nodup) (hC : gC l b0 D K RX5 cX5_readFact (some FieldType.boolean) 4 (frF + 16) (loF + 800) 0 0) {x3 : Nat → Int32} {x4 : Nat → Int32} {x5 : Nat → Int32} {recF : Int32 → (Nat → Int32) → (Nat → Int32) → (Nat → Int32) → Option (Int32 × (Nat → Int32) × (Nat → Int32) × (Nat → Int32))} (hF : ∀ {X0 : XT} {Y0 : YT} {zx1 : Nat → Int32} {zx13 : Nat → Int32} {zx14 : Nat → Int32} (hx : ([1, 3, 4, 5, 13, 14] : List Nat).map X0 = [zx1, x3, x4, x5, zx13, zx14]) (hy : ([] : List Nat).map Y0 = []) {v1 : Int32} {r : Int32} {rx1 : (Nat → Int32)} {rx13 : (Nat → Int32)} {rx14 : (Nat → Int32)}, recF v1 zx1 zx13 zx14 = some (r, rx1, rx13, rx14) → gMi l yX5_readFact cX5_readFact 4 (some FieldType.boolean) frF loF 0 0 b0 D [.ref (b0 + 13), .int v1] (n, κ, X0, Y0, Z) (n, κ, ov X0 [1, 3, 4, 5, 13, 14] [rx1, x3, x4, x5, rx13, rx14], ov Y0 [] [], Z) r) {recT : Int32 → (Nat → Int32) → (Nat → Int32) → (Nat → Int32) → Option (Int32 × (Nat → Int32) × (Nat → Int32) × (Nat → Int32))} (hT : ∀ {X0 : XT} {Y0 : YT} {zx1 : Nat → Int32} {zx13 : Nat → Int32} {zx14 : Nat → Int32} (hx : ([1, 3, 4, 5, 13, 14] : List Nat).map X0 = [zx1, x3, x4, x5, zx13, zx14]) (hy : ([] : List Nat).map Y0 = []) {v1 : Int32} {r : Int32} {rx1 : (Nat → Int32)} {rx13 : (Nat → Int32)} {rx14 : (Nat → Int32)}, recT v1 zx1 zx13 zx14 = some (r, rx1, rx13, rx14) → gMi l yX5_readTest cX5_readTest 5 (some FieldType.boolean) (frF + 8) (loF + 400) 0 0 b0 D [.ref (b0 + 13), .int v1] (n, κ, X0, Y0, Z) (n, κ, ov X0 [1, 3, 4, 5, 13, 14] [rx1, x3, x4, x5, rx13, rx14], ov Y0 [] [], Z) r) {r : Int32} {rx1 : (Nat → Int32)} {rx13 : (Nat → Int32)} {rx14 : (Nat → Int32)} (hret : ∀ pc loc, narrow .boolean (.int r) = .int r → decode cX5_readFact pc = .ok (.ireturn, 1) → gV l b0 D K (n, κ, ov X0 [1, 3, 4, 5, 13, 14] [rx1, x3, x4, x5, rx13, rx14], ov Y0 [] [], Z, 0, 0) pc loc [.int r]) {x1 : (Nat → Int32)} {x13 : (Nat → Int32)} {x14 : (Nat → Int32)} (hf : fX5_readFactO_71 recF recT x3 x4 x5  x1 x13 x14 = some (r, rx1, rx13, rx14)) : gV l b0 D K (n, κ, ov X0 [1, 3, 4, 5, 13, 14] [x1, x3, x4, x5, x13, x14], ov Y0 [] [], Z, 0, 0) 71 [] [] := by
  unfold fX5_readFactO_71 at hf
  refine g_iconst hC (v := 0) dX5_readFact_71 ic_0 ?_
  obtain ⟨rfl, rfl, rfl, rfl⟩ := sm4E hf
  exact hret _ _ rfl dX5_readFact_72

def fX5_readFactO_19 (recF : Int32 → (Nat → Int32) → (Nat → Int32) → (Nat → Int32) → Option (Int32 × (Nat → Int32) × (Nat → Int32) × (Nat → Int32))) (recT : Int32 → (Nat → Int32) → (Nat → Int32) → (Nat → Int32) → Option (Int32 × (Nat → Int32) × (Nat → Int32) × (Nat → Int32)))  (x3 : Nat → Int32) (x4 : Nat → Int32) (x5 : Nat → Int32)  (v1 : Int32) (v2 : Int32) (x1 : (Nat → Int32)) (x13 : (Nat → Int32)) (x14 : (Nat → Int32)) : Option (Int32 × (Nat → Int32) × (Nat → Int32) × (Nat → Int32)) := if v1 < 10 then (bd1 (fX8_skip x1) fun x1_1 => (if v2 = 36 then (bd4 (recF (v1 + 1) x1_1 x13 x14) fun r_11 x1_12 x13_13 x14_14 => (if r_11 = 0 then (fX5_readFactO_71 recF recT x3 x4 x5  x1_12 x13_13 x14_14) else (bd3 (fX5_write 36 0 x13_13 x14_14) fun r_16 x13_17 x14_18 => (if r_16 = 0 then (fX5_readFactO_71 recF recT x3 x4 x5  x1_12 x13_17 x14_18) else (some (1, x1_12, x13_17, x14_18)))))) else (bd4 (recT (v1 + 1) x1_1 x13 x14) fun r_3 x1_4 x13_5 x14_6 => (if r_3 = 0 then (fX5_readFactO_99 recF recT x3 x4 x5  x1_4 x13_5 x14_6) else (bd2 (fX8_take x3 x4 6 x1_4) fun r_8 x1_9 => (if r_8 = 0 then (fX5_readFactO_99 recF recT x3 x4 x5  x1_9 x13_5 x14_6) else (some (1, x1_9, x13_5, x14_6)))))))) else (bd2 (fX8_fail x4 2 x1) fun r_20 x1_21 => (gd (bz r_20) (some (r_20, x1_21, x13, x14))))
set_option maxHeartbeats 4000000 in
set_option maxRecDepth 100000 in
theorem wX5_readFactO_19 {l : Launch} {b0 : Nat} {D : GD} {K : KT} {n : Nat} {κ : QT} {X0 : XT} {Y0 : YT} {Z : ZT} (hL : LY n κ) {frF loF : Nat} (hN : ([1, 3, 4, 5, 13, 14] : List Nat).Nodup) (hM : ([] : List Nat).Nodup) (hC : gC l b0 D K RX5 cX5_readFact (some FieldType.boolean) 4 (frF + 16) (loF + 800) 0 0) {x3 : Nat → Int32} {x4 : Nat → Int32} {x5 : Nat → Int32} {recF : Int32 → (Nat → Int32) → (Nat → Int32) → (Nat → Int32) → Option (Int32 × (Nat → Int32) × (Nat → Int32) × (Nat → Int32))} (hF : ∀ {X0 : XT} {Y0 : YT} {zx1 : Nat → Int32} {zx13 : Nat → Int32} {zx14 : Nat → Int32} (hx : ([1, 3, 4, 5, 13, 14] : List Nat).map X0 = [zx1, x3, x4, x5, zx13, zx14]) (hy : ([] : List Nat).map Y0 = []) {v1 : Int32} {r : Int32} {rx1 : (Nat → Int32)} {rx13 : (Nat → Int32)} {rx14 : (Nat → Int32)}, recF v1 zx1 zx13 zx14 = some (r, rx1, rx13, rx14) → gMi l yX5_readFact cX5_readFact 4 (some FieldType.boolean) frF loF 0 0 b0 D [.ref (b0 + 13), .int v1] (n, κ, X0, Y0, Z) (n, κ, ov X0 [1, 3, 4, 5, 13, 14] [rx1, x3, x4, x5, rx13, rx14], ov Y0 [] [], Z) r) {recT : Int32 → (Nat → Int32) → (Nat → Int32) → (Nat → Int32) → Option (Int32 × (Nat → Int32) × (Nat → Int32) × (Nat → Int32))} (hT : ∀ {X0 : XT} {Y0 : YT} {zx1 : Nat → Int32} {zx13 : Nat → Int32} {zx14 : Nat → Int32} (hx : ([1, 3, 4, 5, 13, 14] : List Nat).map X0 = [zx1, x3, x4, x5, zx13, zx14]) (hy : ([] : List Nat).map Y0 = []) {v1 : Int32} {r : Int32} {rx1 : (Nat → Int32)} {rx13 : (Nat → Int32)} {rx14 : (Nat → Int32)}, recT v1 zx1 zx13 zx14 = some (r, rx1, rx13, rx14) → gMi l yX5_readTest cX5_readTest 5 (some FieldType.boolean) (frF + 8) (loF + 400) 0 0 b0 D [.ref (b0 + 13), .int v1] (n, κ, X0, Y0, Z) (n, κ, ov X0 [1, 3, 4, 5, 13, 14] [rx1, x3, x4, x5, rx13, rx14], ov Y0 [] [], Z) r) {r : Int32} {rx1 : (Nat → Int32)} {rx13 : (Nat → Int32)} {rx14 : (Nat → Int32)} (hret : ∀ pc loc, narrow .boolean (.int r) = .int r → decode cX5_readFact pc = .ok (.ireturn, 1) → gV l b0 D K (n, κ, ov X0 [1, 3, 4, 5, 13, 14] [rx1, x3, x4, x5, rx13, rx14], ov Y0 [] [], Z, 0, 0) pc loc [.int r]) {v1 : Int32} {v2 : Int32} {x1 : (Nat → Int32)} {x13 : (Nat → Int32)} {x14 : (Nat → Int32)} (hf : fX5_readFactO_19 recF recT x3 x4 x5  v1 v2 x1 x13 x14 = some (r, rx1, rx13, rx14)) : gV l b0 D K (n, κ, ov X0 [1, 3, 4, 5, 13, 14] [x1, x3, x4, x5, x13, x14], ov Y0 [] [], Z, 0, 0) 19 [(0, .ref (b0 + 13)), (1, .int v1), (2, .int v2)] [] := by
  unfold fX5_readFactO_19 at hf
  refine g_iload_n hC 1 dX5_readFact_19 rfl rfl ?_
  refine g_bipush hC (v := 10) dX5_readFact_20 bp_10 ?_
  refine g_icmp_lt hC 34 dX5_readFact_22 (by decide) (fun hc => ?_) (fun hc => ?_)
  · replace hf := ifT hf hc
    refine g_aload_n hC 0 dX5_readFact_34 rfl rfl ?_
    refine gt_X5_15 hC (a := 13) (kk_13 hL) (kn_13 hL) dX5_readFact_35 ?_
    refine g_ref (b := 1) rfl ?_
    obtain ⟨x1_1, q_2, hf⟩ := bd1E hf
    refine g_callV_v (a := 1) hC (X' := ov X0 [1, 3, 4, 5, 13, 14] [x1_1, x3, x4, x5, x13, x14]) (Y' := ov Y0 [] []) (As := []) (gMv_eq (c_X8_skip l hL (ov_map hN [0] (by rfl) (by rfl)) (ov_map hM [] (by rfl) (by rfl)) q_2) (ov_ovE hN (by rfl) [0] [1, 2, 3, 4, 5] (by rfl) (by rfl) [x3, x4, x5, x13, x14] (by rfl) (by rfl) (by rfl) 6 (by rfl) (by decide)) (ov_ovE hM (by rfl) [] [] (by rfl) (by rfl) [] (by rfl) (by rfl) (by rfl) 0 (by rfl) (by decide))) tw_651 tw_725 tw_117 tw_649 tw_650 (ci := 8) rfl (by decide) (kk_1 hL) (kn_1 hL) pd_X8_skip ⟨by omega, by omega⟩ (by decide) rfl rfl (Nat.le_of_ble_eq_true rfl) rfl dX5_readFact_38 ?_
    refine g_iload_n hC 2 dX5_readFact_41 rfl rfl ?_
    refine g_bipush hC (v := 36) dX5_readFact_42 bp_36 ?_
    refine g_icmp_ne hC 73 dX5_readFact_44 (by decide) (fun hc => ?_) (fun hc => ?_)
    · replace hf := ifF hf hc
      refine g_aload_n hC 0 dX5_readFact_73 rfl rfl ?_
      refine g_iload_n hC 1 dX5_readFact_74 rfl rfl ?_
      refine g_iconst hC (v := 1) dX5_readFact_75 ic_1 ?_
      refine g_iadd hC dX5_readFact_76 ?_
      obtain ⟨r_3, x1_4, x13_5, x14_6, q_7, hf⟩ := bd4E hf
      refine g_callV_i (a := 13) hC (X' := ov X0 [1, 3, 4, 5, 13, 14] [x1_4, x3, x4, x5, x13_5, x14_6]) (Y' := ov Y0 [] []) (As := [.int (v1 + 1)]) (gMi_eq (hT (ov_map hN [0, 1, 2, 3, 4, 5] (by rfl) (by rfl)) (ov_map hM [] (by rfl) (by rfl)) q_7) (ov_ovE hN (by rfl) [0, 1, 2, 3, 4, 5] [] (by rfl) (by rfl) [] (by rfl) (by rfl) (by rfl) 6 (by rfl) (by decide)) (ov_ovE hM (by rfl) [] [] (by rfl) (by rfl) [] (by rfl) (by rfl) (by rfl) 0 (by rfl) (by decide))) tw_743 tw_740 tw_121 tw_742 tw_19 (ci := 5) rfl (by decide) (kk_13 hL) (kn_13 hL) pd_X5_readTest ⟨by omega, by omega⟩ (by decide) rfl rfl (Nat.le_of_ble_eq_true rfl) rfl dX5_readFact_77 ?_
      refine g_if_eq hC 99 dX5_readFact_80 (by decide) (fun hc => ?_) (fun hc => ?_)
      · replace hf := ifT hf hc
        exact g_sub [] rfl (wX5_readFactO_99 hL hN hM hC hF hT hret  hf)
      · replace hf := ifF hf hc
        refine g_aload_n hC 0 dX5_readFact_83 rfl rfl ?_
        refine gt_X5_15 hC (a := 13) (kk_13 hL) (kn_13 hL) dX5_readFact_84 ?_
        refine g_ref (b := 1) rfl ?_
        refine g_bipush hC (v := 6) dX5_readFact_87 bp_6 ?_
        obtain ⟨r_8, x1_9, q_10, hf⟩ := bd2E hf
        refine g_callV_i (a := 1) hC (X' := ov X0 [1, 3, 4, 5, 13, 14] [x1_9, x3, x4, x5, x13_5, x14_6]) (Y' := ov Y0 [] []) (As := [.int 6]) (gMi_eq (c_X8_take l hL (ov_map hN [0, 1, 2] (by rfl) (by rfl)) (ov_map hM [] (by rfl) (by rfl)) q_10) (ov_ovE hN (by rfl) [0, 1, 2] [3, 4, 5] (by rfl) (by rfl) [x5, x13_5, x14_6] (by rfl) (by rfl) (by rfl) 6 (by rfl) (by decide)) (ov_ovE hM (by rfl) [] [] (by rfl) (by rfl) [] (by rfl) (by rfl) (by rfl) 0 (by rfl) (by decide))) tw_690 tw_748 tw_117 tw_688 tw_689 (ci := 8) rfl (by decide) (kk_1 hL) (kn_1 hL) pd_X8_take ⟨by omega, by omega⟩ (by decide) rfl rfl (Nat.le_of_ble_eq_true rfl) rfl dX5_readFact_89 ?_
        refine g_if_eq hC 99 dX5_readFact_92 (by decide) (fun hc => ?_) (fun hc => ?_)
        · replace hf := ifT hf hc
          exact g_sub [] rfl (wX5_readFactO_99 hL hN hM hC hF hT hret  hf)
        · replace hf := ifF hf hc
          refine g_iconst hC (v := 1) dX5_readFact_95 ic_1 ?_
          refine g_goto hC 100 dX5_readFact_96 (by decide) ?_
          obtain ⟨rfl, rfl, rfl, rfl⟩ := sm4E hf
          exact hret _ _ rfl dX5_readFact_100
    · replace hf := ifT hf hc
      refine g_aload_n hC 0 dX5_readFact_47 rfl rfl ?_
      refine g_iload_n hC 1 dX5_readFact_48 rfl rfl ?_
      refine g_iconst hC (v := 1) dX5_readFact_49 ic_1 ?_
      refine g_iadd hC dX5_readFact_50 ?_
      obtain ⟨r_11, x1_12, x13_13, x14_14, q_15, hf⟩ := bd4E hf
      refine g_callV_i (a := 13) hC (X' := ov X0 [1, 3, 4, 5, 13, 14] [x1_12, x3, x4, x5, x13_13, x14_14]) (Y' := ov Y0 [] []) (As := [.int (v1 + 1)]) (gMi_eq (hF (ov_map hN [0, 1, 2, 3, 4, 5] (by rfl) (by rfl)) (ov_map hM [] (by rfl) (by rfl)) q_15) (ov_ovE hN (by rfl) [0, 1, 2, 3, 4, 5] [] (by rfl) (by rfl) [] (by rfl) (by rfl) (by rfl) 6 (by rfl) (by decide)) (ov_ovE hM (by rfl) [] [] (by rfl) (by rfl) [] (by rfl) (by rfl) (by rfl) 0 (by rfl) (by decide))) tw_747 tw_744 tw_121 tw_746 tw_20 (ci := 5) rfl (by decide) (kk_13 hL) (kn_13 hL) pd_X5_readFact ⟨by omega, by omega⟩ (by decide) rfl rfl (Nat.le_of_ble_eq_true rfl) rfl dX5_readFact_51 ?_
      refine g_if_eq hC 71 dX5_readFact_54 (by decide) (fun hc => ?_) (fun hc => ?_)
      · replace hf := ifT hf hc
        exact g_sub [] rfl (wX5_readFactO_71 hL hN hM hC hF hT hret  hf)
      · replace hf := ifF hf hc
        refine g_aload_n hC 0 dX5_readFact_57 rfl rfl ?_
        refine g_bipush hC (v := 36) dX5_readFact_58 bp_36 ?_
        refine g_iconst hC (v := 0) dX5_readFact_60 ic_0 ?_
        obtain ⟨r_16, x13_17, x14_18, q_19, hf⟩ := bd3E hf
        refine g_callV_i (a := 13) hC (X' := ov X0 [1, 3, 4, 5, 13, 14] [x1_12, x3, x4, x5, x13_17, x14_18]) (Y' := ov Y0 [] []) (As := [.int 36, .int 0]) (gMi_eq (c_X5_write l hL (ov_map hN [4, 5] (by rfl) (by rfl)) (ov_map hM [] (by rfl) (by rfl)) q_19) (ov_ovE hN (by rfl) [4, 5] [0, 1, 2, 3] (by rfl) (by rfl) [x1_12, x3, x4, x5] (by rfl) (by rfl) (by rfl) 6 (by rfl) (by decide)) (ov_ovE hM (by rfl) [] [] (by rfl) (by rfl) [] (by rfl) (by rfl) (by rfl) 0 (by rfl) (by decide))) tw_739 tw_736 tw_121 tw_738 tw_18 (ci := 5) rfl (by decide) (kk_13 hL) (kn_13 hL) pd_X5_write ⟨by omega, by omega⟩ (by decide) rfl rfl (Nat.le_of_ble_eq_true rfl) rfl dX5_readFact_61 ?_
        refine g_if_eq hC 71 dX5_readFact_64 (by decide) (fun hc => ?_) (fun hc => ?_)
        · replace hf := ifT hf hc
          exact g_sub [] rfl (wX5_readFactO_71 hL hN hM hC hF hT hret  hf)
        · replace hf := ifF hf hc
          refine g_iconst hC (v := 1) dX5_readFact_67 ic_1 ?_
          refine g_goto hC 72 dX5_readFact_68 (by decide) ?_
          obtain ⟨rfl, rfl, rfl, rfl⟩ := sm4E hf
          exact hret _ _ rfl dX5_readFact_72
  · replace hf := ifF hf hc
    refine g_aload_n hC 0 dX5_readFact_25 rfl rfl ?_
    refine gt_X5_15 hC (a := 13) (kk_13 hL) (kn_13 hL) dX5_readFact_26 ?_
    refine g_ref (b := 1) rfl ?_
    refine g_iconst hC (v := 2) dX5_readFact_29 ic_2 ?_
    obtain ⟨r_20, x1_21, q_22, hf⟩ := bd2E hf
    refine g_callV_i (a := 1) hC (X' := ov X0 [1, 3, 4, 5, 13, 14] [x1_21, x3, x4, x5, x13, x14]) (Y' := ov Y0 [] []) (As := [.int 2]) (gMi_eq (c_X8_fail l hL (ov_map hN [0, 2] (by rfl) (by rfl)) (ov_map hM [] (by rfl) (by rfl)) q_22) (ov_ovE hN (by rfl) [0, 2] [1, 3, 4, 5] (by rfl) (by rfl) [x3, x5, x13, x14] (by rfl) (by rfl) (by rfl) 6 (by rfl) (by decide)) (ov_ovE hM (by rfl) [] [] (by rfl) (by rfl) [] (by rfl) (by rfl) (by rfl) 0 (by rfl) (by decide))) tw_643 tw_724 tw_117 tw_641 tw_642 (ci := 8) rfl (by decide) (kk_1 hL) (kn_1 hL) pd_X8_fail ⟨by omega, by omega⟩ (by decide) rfl rfl (Nat.le_of_ble_eq_true rfl) rfl dX5_readFact_30 ?_
    obtain ⟨h_23, hf⟩ := gdE hf
    obtain ⟨rfl, rfl, rfl, rfl⟩ := sm4E hf
    exact hret _ _ (bz_nar h_23) dX5_readFact_33

def fX5_readFactO_0 (recF : Int32 → (Nat → Int32) → (Nat → Int32) → (Nat → Int32) → Option (Int32 × (Nat → Int32) × (Nat → Int32) × (Nat → Int32))) (recT : Int32 → (Nat → Int32) → (Nat → Int32) → (Nat → Int32) → Option (Int32 × (Nat → Int32) × (Nat → Int32) × (Nat → Int32)))  (x3 : Nat → Int32) (x4 : Nat → Int32) (x5 : Nat → Int32)  (v1 : Int32) (x1 : (Nat → Int32)) (x13 : (Nat → Int32)) (x14 : (Nat → Int32)) : Option (Int32 × (Nat → Int32) × (Nat → Int32) × (Nat → Int32)) := bd1 (fX8_code x1 x3) fun r_1 => (if r_1 = 36 then (fX5_readFactO_19 recF recT x3 x4 x5  v1 r_1 x1 x13 x14) else (if r_1 = 5 then (fX5_readFactO_19 recF recT x3 x4 x5  v1 r_1 x1 x13 x14) else (bd4 (fX5_readSum x3 x4 x5 x1 x13 x14) fun r_3 x1_4 x13_5 x14_6 => (if r_3 = 0 then (some (0, x1_4, x13_5, x14_6)) else (bd1 (fX8_code x1_4 x3) fun r_8 => (bd1 (fX11_isWithin r_8 12 16) fun r_10 => (if r_10 = 0 then (bd2 (fX8_fail x4 0 x1_4) fun r_27 x1_28 => (gd (bz r_27) (some (r_27, x1_28, x13_5, x14_6)))) else (if (x13_5 3) < 60 then (bd1 (fX8_skip x1_4) fun x1_12 => (bd4 (fX5_readSum x3 x4 x5 x1_12 (upd x13_5 3 ((x13_5 3) + 1)) x14_6) fun r_14 x1_15 x13_16 x14_17 => (if r_14 = 0 then (fX5_readFactO_193 recF recT x3 x4 x5  x1_15 x13_16 x14_17) else (bd3 (fX5_write r_8 0 x13_16 x14_17) fun r_19 x13_20 x14_21 => (if r_19 = 0 then (fX5_readFactO_193 recF recT x3 x4 x5  x1_15 x13_20 x14_21) else (some (1, x1_15, x13_20, x14_21))))))) else (bd2 (fX8_fail x4 3 x1_4) fun r_23 x1_24 => (gd (bz r_23) (some (r_23, x1_24, x13_5, x14_6))))))))))))
set_option maxHeartbeats 4000000 in
set_option maxRecDepth 100000 in
theorem wX5_readFactO_0 {l : Launch} {b0 : Nat} {D : GD} {K : KT} {n : Nat} {κ : QT} {X0 : XT} {Y0 : YT} {Z : ZT} (hL : LY n κ) {frF loF : Nat} (hN : ([1, 3, 4, 5, 13, 14] : List Nat).Nodup) (hM : ([] : List Nat).Nodup) (hC : gC l b0 D K RX5 cX5_readFact (some FieldType.boolean) 4 (frF + 16) (loF + 800) 0 0) {x3 : Nat → Int32} {x4 : Nat → Int32} {x5 : Nat → Int32} {recF : Int32 → (Nat → Int32) → (Nat → Int32) → (Nat → Int32) → Option (Int32 × (Nat → Int32) × (Nat → Int32) × (Nat → Int32))} (hF : ∀ {X0 : XT} {Y0 : YT} {zx1 : Nat → Int32} {zx13 : Nat → Int32} {zx14 : Nat → Int32} (hx : ([1, 3, 4, 5, 13, 14] : List Nat).map X0 = [zx1, x3, x4, x5, zx13, zx14]) (hy : ([] : List Nat).map Y0 = []) {v1 : Int32} {r : Int32} {rx1 : (Nat → Int32)} {rx13 : (Nat → Int32)} {rx14 : (Nat → Int32)}, recF v1 zx1 zx13 zx14 = some (r, rx1, rx13, rx14) → gMi l yX5_readFact cX5_readFact 4 (some FieldType.boolean) frF loF 0 0 b0 D [.ref (b0 + 13), .int v1] (n, κ, X0, Y0, Z) (n, κ, ov X0 [1, 3, 4, 5, 13, 14] [rx1, x3, x4, x5, rx13, rx14], ov Y0 [] [], Z) r) {recT : Int32 → (Nat → Int32) → (Nat → Int32) → (Nat → Int32) → Option (Int32 × (Nat → Int32) × (Nat → Int32) × (Nat → Int32))} (hT : ∀ {X0 : XT} {Y0 : YT} {zx1 : Nat → Int32} {zx13 : Nat → Int32} {zx14 : Nat → Int32} (hx : ([1, 3, 4, 5, 13, 14] : List Nat).map X0 = [zx1, x3, x4, x5, zx13, zx14]) (hy : ([] : List Nat).map Y0 = []) {v1 : Int32} {r : Int32} {rx1 : (Nat → Int32)} {rx13 : (Nat → Int32)} {rx14 : (Nat → Int32)}, recT v1 zx1 zx13 zx14 = some (r, rx1, rx13, rx14) → gMi l yX5_readTest cX5_readTest 5 (some FieldType.boolean) (frF + 8) (loF + 400) 0 0 b0 D [.ref (b0 + 13), .int v1] (n, κ, X0, Y0, Z) (n, κ, ov X0 [1, 3, 4, 5, 13, 14] [rx1, x3, x4, x5, rx13, rx14], ov Y0 [] [], Z) r) {r : Int32} {rx1 : (Nat → Int32)} {rx13 : (Nat → Int32)} {rx14 : (Nat → Int32)} (hret : ∀ pc loc, narrow .boolean (.int r) = .int r → decode cX5_readFact pc = .ok (.ireturn, 1) → gV l b0 D K (n, κ, ov X0 [1, 3, 4, 5, 13, 14] [rx1, x3, x4, x5, rx13, rx14], ov Y0 [] [], Z, 0, 0) pc loc [.int r]) {v1 : Int32} {x1 : (Nat → Int32)} {x13 : (Nat → Int32)} {x14 : (Nat → Int32)} (hf : fX5_readFactO_0 recF recT x3 x4 x5  v1 x1 x13 x14 = some (r, rx1, rx13, rx14)) : gV l b0 D K (n, κ, ov X0 [1, 3, 4, 5, 13, 14] [x1, x3, x4, x5, x13, x14], ov Y0 [] [], Z, 0, 0) 0 [(0, .ref (b0 + 13)), (1, .int v1)] [] := by
  unfold fX5_readFactO_0 at hf
  refine g_aload_n hC 0 dX5_readFact_0 rfl rfl ?_
  refine gt_X5_15 hC (a := 13) (kk_13 hL) (kn_13 hL) dX5_readFact_1 ?_
  refine g_ref (b := 1) rfl ?_
  obtain ⟨r_1, q_2, hf⟩ := bd1E hf
  refine g_callV_i (a := 1) hC (X' := ov X0 [1, 3, 4, 5, 13, 14] [x1, x3, x4, x5, x13, x14]) (Y' := ov Y0 [] []) (As := []) (gMi_eq (c_X8_code l hL (ov_map hN [0, 1] (by rfl) (by rfl)) (ov_map hM [] (by rfl) (by rfl)) q_2) (ov_ovE hN (by rfl) [0, 1] [2, 3, 4, 5] (by rfl) (by rfl) [x4, x5, x13, x14] (by rfl) (by rfl) (by rfl) 6 (by rfl) (by decide)) (ov_ovE hM (by rfl) [] [] (by rfl) (by rfl) [] (by rfl) (by rfl) (by rfl) 0 (by rfl) (by decide))) tw_639 tw_723 tw_117 tw_637 tw_638 (ci := 8) rfl (by decide) (kk_1 hL) (kn_1 hL) pd_X8_code ⟨by omega, by omega⟩ (by decide) rfl rfl (Nat.le_of_ble_eq_true rfl) rfl dX5_readFact_4 ?_
  refine g_istore_n hC (i := 2) [(2, .int r_1), (0, .ref (b0 + 13)), (1, .int v1)] rfl dX5_readFact_7 (by decide) rfl ?_
  refine g_iload_n hC 0 dX5_readFact_8 rfl rfl ?_
  refine g_bipush hC (v := 36) dX5_readFact_9 bp_36 ?_
  refine g_icmp_eq hC 19 dX5_readFact_11 (by decide) (fun hc => ?_) (fun hc => ?_)
  · replace hf := ifT hf hc
    exact g_sub [1, 2, 0] rfl (wX5_readFactO_19 hL hN hM hC hF hT hret  hf)
  · replace hf := ifF hf hc
    refine g_iload_n hC 0 dX5_readFact_14 rfl rfl ?_
    refine g_iconst hC (v := 5) dX5_readFact_15 ic_5 ?_
    refine g_icmp_ne hC 101 dX5_readFact_16 (by decide) (fun hc => ?_) (fun hc => ?_)
    · replace hf := ifF hf hc
      refine g_aload_n hC 1 dX5_readFact_101 rfl rfl ?_
      obtain ⟨r_3, x1_4, x13_5, x14_6, q_7, hf⟩ := bd4E hf
      refine g_callV_i (a := 13) hC (X' := ov X0 [1, 3, 4, 5, 13, 14] [x1_4, x3, x4, x5, x13_5, x14_6]) (Y' := ov Y0 [] []) (As := []) (gMi_eq (c_X5_readSum l hL (ov_map hN [0, 1, 2, 3, 4, 5] (by rfl) (by rfl)) (ov_map hM [] (by rfl) (by rfl)) q_7) (ov_ovE hN (by rfl) [0, 1, 2, 3, 4, 5] [] (by rfl) (by rfl) [] (by rfl) (by rfl) (by rfl) 6 (by rfl) (by decide)) (ov_ovE hM (by rfl) [] [] (by rfl) (by rfl) [] (by rfl) (by rfl) (by rfl) 0 (by rfl) (by decide))) tw_729 tw_726 tw_121 tw_728 tw_16 (ci := 5) rfl (by decide) (kk_13 hL) (kn_13 hL) pd_X5_readSum ⟨by omega, by omega⟩ (by decide) rfl rfl (Nat.le_of_ble_eq_true rfl) rfl dX5_readFact_102 ?_
      refine g_if_ne hC 110 dX5_readFact_105 (by decide) (fun hc => ?_) (fun hc => ?_)
      · replace hf := ifF hf hc
        refine g_aload_n hC 1 dX5_readFact_110 rfl rfl ?_
        refine gt_X5_15 hC (a := 13) (kk_13 hL) (kn_13 hL) dX5_readFact_111 ?_
        refine g_ref (b := 1) rfl ?_
        obtain ⟨r_8, q_9, hf⟩ := bd1E hf
        refine g_callV_i (a := 1) hC (X' := ov X0 [1, 3, 4, 5, 13, 14] [x1_4, x3, x4, x5, x13_5, x14_6]) (Y' := ov Y0 [] []) (As := []) (gMi_eq (c_X8_code l hL (ov_map hN [0, 1] (by rfl) (by rfl)) (ov_map hM [] (by rfl) (by rfl)) q_9) (ov_ovE hN (by rfl) [0, 1] [2, 3, 4, 5] (by rfl) (by rfl) [x4, x5, x13_5, x14_6] (by rfl) (by rfl) (by rfl) 6 (by rfl) (by decide)) (ov_ovE hM (by rfl) [] [] (by rfl) (by rfl) [] (by rfl) (by rfl) (by rfl) 0 (by rfl) (by decide))) tw_639 tw_723 tw_117 tw_637 tw_638 (ci := 8) rfl (by decide) (kk_1 hL) (kn_1 hL) pd_X8_code ⟨by omega, by omega⟩ (by decide) rfl rfl (Nat.le_of_ble_eq_true rfl) rfl dX5_readFact_114 ?_
        refine g_istore_n hC (i := 3) [(3, .int r_8), (2, .int r_1), (0, .ref (b0 + 13)), (1, .int v1)] rfl dX5_readFact_117 (by decide) rfl ?_
        refine g_iload_n hC 0 dX5_readFact_118 rfl rfl ?_
        refine g_bipush hC (v := 12) dX5_readFact_119 bp_12 ?_
        refine g_bipush hC (v := 16) dX5_readFact_121 bp_16 ?_
        obtain ⟨r_10, q_11, hf⟩ := bd1E hf
        refine g_callSN_i hC (X' := ov X0 [1, 3, 4, 5, 13, 14] [x1_4, x3, x4, x5, x13_5, x14_6]) (Y' := ov Y0 [] []) (As := [.int r_8, .int 12, .int 16]) (gMi_eq (c_X11_isWithin l hL (ov_map hN [] (by rfl) (by rfl)) (ov_map hM [] (by rfl) (by rfl)) q_11) (ov_ovE hN (by rfl) [] [0, 1, 2, 3, 4, 5] (by rfl) (by rfl) [x1_4, x3, x4, x5, x13_5, x14_6] (by rfl) (by rfl) (by rfl) 6 (by rfl) (by decide)) (ov_ovE hM (by rfl) [] [] (by rfl) (by rfl) [] (by rfl) (by rfl) (by rfl) 0 (by rfl) (by decide))) tw_666 (List.mem_of_getElem? (i := 11) rfl) tw_116 tw_665 pd_X11_isWithin ⟨by omega, by omega⟩ (by decide) rfl rfl (Nat.le_of_ble_eq_true rfl) rfl dX5_readFact_123 ?_
        refine g_if_ne hC 138 dX5_readFact_126 (by decide) (fun hc => ?_) (fun hc => ?_)
        · replace hf := ifF hf hc
          refine g_aload_n hC 2 dX5_readFact_138 rfl rfl ?_
          refine gt_X5_23 hC (x := x13_5) (kk_13 hL) (kn_13 hL) (ov_get hN 4 rfl rfl) dX5_readFact_139 ?_
          refine g_bipush hC (v := 60) dX5_readFact_142 bp_60 ?_
          refine g_icmp_lt hC 156 dX5_readFact_144 (by decide) (fun hc => ?_) (fun hc => ?_)
          · replace hf := ifT hf hc
            refine g_aload_n hC 2 dX5_readFact_156 rfl rfl ?_
            refine g_dup hC dX5_readFact_157 rfl ?_
            refine gt_X5_23 hC (x := x13_5) (kk_13 hL) (kn_13 hL) (ov_get hN 4 rfl rfl) dX5_readFact_158 ?_
            refine g_iconst hC (v := 1) dX5_readFact_161 ic_1 ?_
            refine g_iadd hC dX5_readFact_162 ?_
            refine pt_X5_23 hC (x := x13_5) (kk_13 hL) (kn_13 hL) (ov_get hN 4 rfl rfl) (ov_set hN (by rfl) 4 (by rfl)) dX5_readFact_163 ?_
            show gV l b0 D K (n, κ, ov X0 [1, 3, 4, 5, 13, 14] [x1_4, x3, x4, x5, (upd x13_5 3 ((x13_5 3) + 1)), x14_6], ov Y0 [] [], Z, 0, 0) 166 [(3, .int r_8), (2, .int r_1), (0, .ref (b0 + 13)), (1, .int v1)] []
            refine g_aload_n hC 2 dX5_readFact_166 rfl rfl ?_
            refine gt_X5_15 hC (a := 13) (kk_13 hL) (kn_13 hL) dX5_readFact_167 ?_
            refine g_ref (b := 1) rfl ?_
            obtain ⟨x1_12, q_13, hf⟩ := bd1E hf
            refine g_callV_v (a := 1) hC (X' := ov X0 [1, 3, 4, 5, 13, 14] [x1_12, x3, x4, x5, (upd x13_5 3 ((x13_5 3) + 1)), x14_6]) (Y' := ov Y0 [] []) (As := []) (gMv_eq (c_X8_skip l hL (ov_map hN [0] (by rfl) (by rfl)) (ov_map hM [] (by rfl) (by rfl)) q_13) (ov_ovE hN (by rfl) [0] [1, 2, 3, 4, 5] (by rfl) (by rfl) [x3, x4, x5, (upd x13_5 3 ((x13_5 3) + 1)), x14_6] (by rfl) (by rfl) (by rfl) 6 (by rfl) (by decide)) (ov_ovE hM (by rfl) [] [] (by rfl) (by rfl) [] (by rfl) (by rfl) (by rfl) 0 (by rfl) (by decide))) tw_651 tw_725 tw_117 tw_649 tw_650 (ci := 8) rfl (by decide) (kk_1 hL) (kn_1 hL) pd_X8_skip ⟨by omega, by omega⟩ (by decide) rfl rfl (Nat.le_of_ble_eq_true rfl) rfl dX5_readFact_170 ?_
            refine g_aload_n hC 2 dX5_readFact_173 rfl rfl ?_
            obtain ⟨r_14, x1_15, x13_16, x14_17, q_18, hf⟩ := bd4E hf
            refine g_callV_i (a := 13) hC (X' := ov X0 [1, 3, 4, 5, 13, 14] [x1_15, x3, x4, x5, x13_16, x14_17]) (Y' := ov Y0 [] []) (As := []) (gMi_eq (c_X5_readSum l hL (ov_map hN [0, 1, 2, 3, 4, 5] (by rfl) (by rfl)) (ov_map hM [] (by rfl) (by rfl)) q_18) (ov_ovE hN (by rfl) [0, 1, 2, 3, 4, 5] [] (by rfl) (by rfl) [] (by rfl) (by rfl) (by rfl) 6 (by rfl) (by decide)) (ov_ovE hM (by rfl) [] [] (by rfl) (by rfl) [] (by rfl) (by rfl) (by rfl) 0 (by rfl) (by decide))) tw_729 tw_726 tw_121 tw_728 tw_16 (ci := 5) rfl (by decide) (kk_13 hL) (kn_13 hL) pd_X5_readSum ⟨by omega, by omega⟩ (by decide) rfl rfl (Nat.le_of_ble_eq_true rfl) rfl dX5_readFact_174 ?_
            refine g_if_eq hC 193 dX5_readFact_177 (by decide) (fun hc => ?_) (fun hc => ?_)
            · replace hf := ifT hf hc
              exact g_sub [] rfl (wX5_readFactO_193 hL hN hM hC hF hT hret  hf)
            · replace hf := ifF hf hc
              refine g_aload_n hC 2 dX5_readFact_180 rfl rfl ?_
              refine g_iload_n hC 0 dX5_readFact_181 rfl rfl ?_
              refine g_iconst hC (v := 0) dX5_readFact_182 ic_0 ?_
              obtain ⟨r_19, x13_20, x14_21, q_22, hf⟩ := bd3E hf
              refine g_callV_i (a := 13) hC (X' := ov X0 [1, 3, 4, 5, 13, 14] [x1_15, x3, x4, x5, x13_20, x14_21]) (Y' := ov Y0 [] []) (As := [.int r_8, .int 0]) (gMi_eq (c_X5_write l hL (ov_map hN [4, 5] (by rfl) (by rfl)) (ov_map hM [] (by rfl) (by rfl)) q_22) (ov_ovE hN (by rfl) [4, 5] [0, 1, 2, 3] (by rfl) (by rfl) [x1_15, x3, x4, x5] (by rfl) (by rfl) (by rfl) 6 (by rfl) (by decide)) (ov_ovE hM (by rfl) [] [] (by rfl) (by rfl) [] (by rfl) (by rfl) (by rfl) 0 (by rfl) (by decide))) tw_739 tw_736 tw_121 tw_738 tw_18 (ci := 5) rfl (by decide) (kk_13 hL) (kn_13 hL) pd_X5_write ⟨by omega, by omega⟩ (by decide) rfl rfl (Nat.le_of_ble_eq_true rfl) rfl dX5_readFact_183 ?_
              refine g_if_eq hC 193 dX5_readFact_186 (by decide) (fun hc => ?_) (fun hc => ?_)
              · replace hf := ifT hf hc
                exact g_sub [] rfl (wX5_readFactO_193 hL hN hM hC hF hT hret  hf)
              · replace hf := ifF hf hc
                refine g_iconst hC (v := 1) dX5_readFact_189 ic_1 ?_
                refine g_goto hC 194 dX5_readFact_190 (by decide) ?_
                obtain ⟨rfl, rfl, rfl, rfl⟩ := sm4E hf
                exact hret _ _ rfl dX5_readFact_194
          · replace hf := ifF hf hc
            refine g_aload_n hC 2 dX5_readFact_147 rfl rfl ?_
            refine gt_X5_15 hC (a := 13) (kk_13 hL) (kn_13 hL) dX5_readFact_148 ?_
            refine g_ref (b := 1) rfl ?_
            refine g_iconst hC (v := 3) dX5_readFact_151 ic_3 ?_
            obtain ⟨r_23, x1_24, q_25, hf⟩ := bd2E hf
            refine g_callV_i (a := 1) hC (X' := ov X0 [1, 3, 4, 5, 13, 14] [x1_24, x3, x4, x5, x13_5, x14_6]) (Y' := ov Y0 [] []) (As := [.int 3]) (gMi_eq (c_X8_fail l hL (ov_map hN [0, 2] (by rfl) (by rfl)) (ov_map hM [] (by rfl) (by rfl)) q_25) (ov_ovE hN (by rfl) [0, 2] [1, 3, 4, 5] (by rfl) (by rfl) [x3, x5, x13_5, x14_6] (by rfl) (by rfl) (by rfl) 6 (by rfl) (by decide)) (ov_ovE hM (by rfl) [] [] (by rfl) (by rfl) [] (by rfl) (by rfl) (by rfl) 0 (by rfl) (by decide))) tw_643 tw_724 tw_117 tw_641 tw_642 (ci := 8) rfl (by decide) (kk_1 hL) (kn_1 hL) pd_X8_fail ⟨by omega, by omega⟩ (by decide) rfl rfl (Nat.le_of_ble_eq_true rfl) rfl dX5_readFact_152 ?_
            obtain ⟨h_26, hf⟩ := gdE hf
            obtain ⟨rfl, rfl, rfl, rfl⟩ := sm4E hf
            exact hret _ _ (bz_nar h_26) dX5_readFact_155
        · replace hf := ifT hf hc
          refine g_aload_n hC 2 dX5_readFact_129 rfl rfl ?_
          refine gt_X5_15 hC (a := 13) (kk_13 hL) (kn_13 hL) dX5_readFact_130 ?_
          refine g_ref (b := 1) rfl ?_
          refine g_iconst hC (v := 0) dX5_readFact_133 ic_0 ?_
          obtain ⟨r_27, x1_28, q_29, hf⟩ := bd2E hf
          refine g_callV_i (a := 1) hC (X' := ov X0 [1, 3, 4, 5, 13, 14] [x1_28, x3, x4, x5, x13_5, x14_6]) (Y' := ov Y0 [] []) (As := [.int 0]) (gMi_eq (c_X8_fail l hL (ov_map hN [0, 2] (by rfl) (by rfl)) (ov_map hM [] (by rfl) (by rfl)) q_29) (ov_ovE hN (by rfl) [0, 2] [1, 3, 4, 5] (by rfl) (by rfl) [x3, x5, x13_5, x14_6] (by rfl) (by rfl) (by rfl) 6 (by rfl) (by decide)) (ov_ovE hM (by rfl) [] [] (by rfl) (by rfl) [] (by rfl) (by rfl) (by rfl) 0 (by rfl) (by decide))) tw_643 tw_724 tw_117 tw_641 tw_642 (ci := 8) rfl (by decide) (kk_1 hL) (kn_1 hL) pd_X8_fail ⟨by omega, by omega⟩ (by decide) rfl rfl (Nat.le_of_ble_eq_true rfl) rfl dX5_readFact_134 ?_
          obtain ⟨h_30, hf⟩ := gdE hf
          obtain ⟨rfl, rfl, rfl, rfl⟩ := sm4E hf
          exact hret _ _ (bz_nar h_30) dX5_readFact_137
      · replace hf := ifT hf hc
        refine g_iconst hC (v := 0) dX5_readFact_108 ic_0 ?_
        obtain ⟨rfl, rfl, rfl, rfl⟩ := sm4E hf
        exact hret _ _ rfl dX5_readFact_109
    · replace hf := ifT hf hc
      exact g_sub [1, 2, 0] rfl (wX5_readFactO_19 hL hN hM hC hF hT hret  hf)

def fX5_readFactO (recF : Int32 → (Nat → Int32) → (Nat → Int32) → (Nat → Int32) → Option (Int32 × (Nat → Int32) × (Nat → Int32) × (Nat → Int32))) (recT : Int32 → (Nat → Int32) → (Nat → Int32) → (Nat → Int32) → Option (Int32 × (Nat → Int32) × (Nat → Int32) × (Nat → Int32)))  (x3 : Nat → Int32) (x4 : Nat → Int32) (x5 : Nat → Int32)  (v1 : Int32) (x1 : Nat → Int32) (x13 : Nat → Int32) (x14 : Nat → Int32)  : Option (Int32 × (Nat → Int32) × (Nat → Int32) × (Nat → Int32)) := fX5_readFactO_0 recF recT x3 x4 x5 v1 x1 x13 x14

set_option maxHeartbeats 4000000 in
set_option maxRecDepth 100000 in
theorem c_X5_readFactO (l : Launch) {b0 : Nat} {D : GD} {n : Nat} {κ : QT} {X0 : XT} {Y0 : YT} {Z : ZT} (hL : LY n κ) {frF loF : Nat} {x1 : Nat → Int32} {x3 : Nat → Int32} {x4 : Nat → Int32} {x5 : Nat → Int32} {x13 : Nat → Int32} {x14 : Nat → Int32} {recF : Int32 → (Nat → Int32) → (Nat → Int32) → (Nat → Int32) → Option (Int32 × (Nat → Int32) × (Nat → Int32) × (Nat → Int32))} (hF : ∀ {X0 : XT} {Y0 : YT} {zx1 : Nat → Int32} {zx13 : Nat → Int32} {zx14 : Nat → Int32} (hx : ([1, 3, 4, 5, 13, 14] : List Nat).map X0 = [zx1, x3, x4, x5, zx13, zx14]) (hy : ([] : List Nat).map Y0 = []) {v1 : Int32} {r : Int32} {rx1 : (Nat → Int32)} {rx13 : (Nat → Int32)} {rx14 : (Nat → Int32)}, recF v1 zx1 zx13 zx14 = some (r, rx1, rx13, rx14) → gMi l yX5_readFact cX5_readFact 4 (some FieldType.boolean) frF loF 0 0 b0 D [.ref (b0 + 13), .int v1] (n, κ, X0, Y0, Z) (n, κ, ov X0 [1, 3, 4, 5, 13, 14] [rx1, x3, x4, x5, rx13, rx14], ov Y0 [] [], Z) r) {recT : Int32 → (Nat → Int32) → (Nat → Int32) → (Nat → Int32) → Option (Int32 × (Nat → Int32) × (Nat → Int32) × (Nat → Int32))} (hT : ∀ {X0 : XT} {Y0 : YT} {zx1 : Nat → Int32} {zx13 : Nat → Int32} {zx14 : Nat → Int32} (hx : ([1, 3, 4, 5, 13, 14] : List Nat).map X0 = [zx1, x3, x4, x5, zx13, zx14]) (hy : ([] : List Nat).map Y0 = []) {v1 : Int32} {r : Int32} {rx1 : (Nat → Int32)} {rx13 : (Nat → Int32)} {rx14 : (Nat → Int32)}, recT v1 zx1 zx13 zx14 = some (r, rx1, rx13, rx14) → gMi l yX5_readTest cX5_readTest 5 (some FieldType.boolean) (frF + 8) (loF + 400) 0 0 b0 D [.ref (b0 + 13), .int v1] (n, κ, X0, Y0, Z) (n, κ, ov X0 [1, 3, 4, 5, 13, 14] [rx1, x3, x4, x5, rx13, rx14], ov Y0 [] [], Z) r) (hx : ([1, 3, 4, 5, 13, 14] : List Nat).map X0 = [x1, x3, x4, x5, x13, x14]) (hy : ([] : List Nat).map Y0 = []) {v1 : Int32} {r : Int32} {rx1 : (Nat → Int32)} {rx13 : (Nat → Int32)} {rx14 : (Nat → Int32)} (hf : fX5_readFactO recF recT x3 x4 x5 v1 x1 x13 x14 = some (r, rx1, rx13, rx14)) : gMi l yX5_readFact cX5_readFact 4 (some FieldType.boolean) (frF + 16) (loF + 800) 0 0 b0 D [.ref (b0 + 13), .int v1] (n, κ, X0, Y0, Z) (n, κ, ov X0 [1, 3, 4, 5, 13, 14] [rx1, x3, x4, x5, rx13, rx14], ov Y0 [] [], Z) r := by
  have hN : ([1, 3, 4, 5, 13, 14] : List Nat).Nodup := by decide
  have hM : ([] : List Nat).Nodup := by decide
  refine g_meti (own := RX5) (by decide) rfl rfl (Nat.le_of_ble_eq_true rfl) ?_
  intro K hC hret
  have e := wX5_readFactO_0 hL hN hM hC hF hT hret hf
  rw [ov_id' hx, ov_id' hy] at e
  exact g_sub [0, 1] rfl e


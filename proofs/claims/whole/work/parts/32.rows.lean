-- X3_keepIfBetter
def fX3_keepIfBetter_0_0   (x17 : Nat → Int32) (x43 : Nat → Int32) (x58 : Nat → Int32)  (x40 : (Nat → Int32)) (x59 : (Nat → Int32)) : Option ((Nat → Int32) × (Nat → Int32)) := bd1 (fX9_placesOf x43 x17) fun r_1 => (if (x40 4) ≤ r_1 then (some (x40, x59)) else (gd (cpok 0 0 3 3 3) (some ((upd x40 4 r_1), (va_cpy x58 x59 (0 : Int32).toNatClampNeg (0 : Int32).toNatClampNeg (3 : Int32).toNatClampNeg)))))
set_option maxHeartbeats 4000000 in
set_option maxRecDepth 100000 in
theorem wX3_keepIfBetter_0_0 {l : Launch} {b0 : Nat} {D : GD} {K : KT} {n : Nat} {κ : QT} {X0 : XT} {Y0 : YT} {Z : ZT} (hL : LY n κ) (hz41 : Z 41 0 = some 42 ∧ Z 41 1 = some 46 ∧ Z 41 2 = some 50 ∧ Z 41 3 = some 54) (hN : ([17, 40, 43, 58, 59] : List Nat).Nodup) (hM : ([] : List Nat).Nodup) (hC : gC l b0 D K RX3 cX3_keepIfBetter none 3 1 40 0 0) {x17 : Nat → Int32} {x43 : Nat → Int32} {x58 : Nat → Int32} {rx40 : (Nat → Int32)} {rx59 : (Nat → Int32)} (hret : ∀ pc loc, decode cX3_keepIfBetter pc = .ok (.return_, 1) → gV l b0 D K (n, κ, ov X0 [17, 40, 43, 58, 59] [x17, rx40, x43, x58, rx59], ov Y0 [] [], Z, 0, 0) pc loc []) {x40 : (Nat → Int32)} {x59 : (Nat → Int32)} (hf : fX3_keepIfBetter_0_0 x17 x43 x58  x40 x59 = some (rx40, rx59)) : gV l b0 D K (n, κ, ov X0 [17, 40, 43, 58, 59] [x17, x40, x43, x58, x59], ov Y0 [] [], Z, 0, 0) 0 [(0, .ref (b0 + 40)), (1, .int 0)] [] := by
  unfold fX3_keepIfBetter_0_0 at hf
  refine g_aload_n hC 0 dX3_keepIfBetter_0 rfl rfl ?_
  refine gt_X3_25 hC (a := 40) (kk_40 hL) (kn_40 hL) dX3_keepIfBetter_1 ?_
  refine g_ref (b := 32) rfl ?_
  refine gt_X3_53 hC (a := 32) (kk_32 hL) (kn_32 hL) dX3_keepIfBetter_4 ?_
  refine g_ref (b := 17) rfl ?_
  refine g_aload_n hC 0 dX3_keepIfBetter_7 rfl rfl ?_
  refine gt_X3_12 hC (a := 40) (kk_40 hL) (kn_40 hL) dX3_keepIfBetter_8 ?_
  refine g_ref (b := 41) rfl ?_
  refine g_iload_n hC 1 dX3_keepIfBetter_11 rfl rfl ?_
  refine g_aald19 hC (L := 4) (kk_41 hL) (kn_41 hL) (inb_in (by decide)) (r := some 42) hz41.1 dX3_keepIfBetter_12 ?_
  show gV l b0 D K (n, κ, ov X0 [17, 40, 43, 58, 59] [x17, x40, x43, x58, x59], ov Y0 [] [], Z, 0, 0) 13 [(0, .ref (b0 + 40)), (1, .int 0)] [.ref (b0 + 42), .ref (b0 + 17)]
  obtain ⟨r_1, q_2, hf⟩ := bd1E hf
  refine g_callV_i (a := 17) hC (X' := ov X0 [17, 40, 43, 58, 59] [x17, x40, x43, x58, x59]) (Y' := ov Y0 [] []) (As := [.ref (b0 + 42)]) (gMi_eq (c_X9_placesOf l hL (kk_42 hL) (kn_42 hL) (nd_sub hN [2, 0] (by decide) (by rfl)) (nd_sub hM [] (by decide) (by rfl)) (ov_map hN [2, 0] (by rfl) (by rfl)) (ov_map hM [] (by rfl) (by rfl)) q_2) (ov_ovE hN (by rfl) [2, 0] [1, 3, 4] (by rfl) (by rfl) [x40, x58, x59] (by rfl) (by rfl) (by rfl) 5 (by rfl) (by decide)) (ov_ovE hM (by rfl) [] [] (by rfl) (by rfl) [] (by rfl) (by rfl) (by rfl) 0 (by rfl) (by decide))) tw_1041 tw_1038 tw_119 tw_1039 tw_1040 (ci := 9) rfl (by decide) (kk_17 hL) (kn_17 hL) pd_X9_placesOf (by decide) (by decide) rfl rfl (Nat.le_of_ble_eq_true rfl) rfl dX3_keepIfBetter_13 ?_
  refine g_istore_n hC (i := 2) [(2, .int r_1), (0, .ref (b0 + 40)), (1, .int 0)] rfl dX3_keepIfBetter_16 (by decide) rfl ?_
  refine g_iload_n hC 0 dX3_keepIfBetter_17 rfl rfl ?_
  refine g_aload_n hC 1 dX3_keepIfBetter_18 rfl rfl ?_
  refine gt_X3_30 hC (x := x40) (kk_40 hL) (kn_40 hL) (ov_get hN 1 rfl rfl) dX3_keepIfBetter_19 ?_
  refine g_icmp_ge hC 44 dX3_keepIfBetter_22 (by decide) (fun hc => ?_) (fun hc => ?_)
  · replace hf := ifT hf hc
    obtain ⟨rfl, rfl⟩ := sm2E hf
    exact hret _ _ dX3_keepIfBetter_44
  · replace hf := ifF hf hc
    refine g_aload_n hC 1 dX3_keepIfBetter_25 rfl rfl ?_
    refine g_iload_n hC 0 dX3_keepIfBetter_26 rfl rfl ?_
    refine pt_X3_30 hC (x := x40) (kk_40 hL) (kn_40 hL) (ov_get hN 1 rfl rfl) (ov_set hN (by rfl) 1 (by rfl)) dX3_keepIfBetter_27 ?_
    show gV l b0 D K (n, κ, ov X0 [17, 40, 43, 58, 59] [x17, (upd x40 4 r_1), x43, x58, x59], ov Y0 [] [], Z, 0, 0) 30 [(2, .int r_1), (0, .ref (b0 + 40)), (1, .int 0)] []
    refine g_aload_n hC 1 dX3_keepIfBetter_30 rfl rfl ?_
    refine gt_X3_18 hC (a := 40) (kk_40 hL) (kn_40 hL) dX3_keepIfBetter_31 ?_
    refine g_ref (b := 58) rfl ?_
    refine g_iconst hC (v := 0) dX3_keepIfBetter_34 ic_0 ?_
    refine g_aload_n hC 1 dX3_keepIfBetter_35 rfl rfl ?_
    refine gt_X3_22 hC (a := 40) (kk_40 hL) (kn_40 hL) dX3_keepIfBetter_36 ?_
    refine g_ref (b := 59) rfl ?_
    refine g_iconst hC (v := 0) dX3_keepIfBetter_39 ic_0 ?_
    refine g_iconst hC (v := 3) dX3_keepIfBetter_40 ic_3 ?_
    obtain ⟨h_3, hf⟩ := gdE hf
    refine g_copy hC (f := x58) (g := x59) tw_1042 (kk_58 hL) (kn_58 hL) (kk_59 hL) (kn_59 hL)  (ov_get hN 3 rfl rfl) (ov_get hN 4 rfl rfl) h_3 (ov_set hN (by rfl) 4 (by rfl)) (by decide) (by decide) dX3_keepIfBetter_41 ?_
    show gV l b0 D K (n, κ, ov X0 [17, 40, 43, 58, 59] [x17, (upd x40 4 r_1), x43, x58, (va_cpy x58 x59 (0 : Int32).toNatClampNeg (0 : Int32).toNatClampNeg (3 : Int32).toNatClampNeg)], ov Y0 [] [], Z, 0, 0) 44 [(2, .int r_1), (0, .ref (b0 + 40)), (1, .int 0)] []
    obtain ⟨rfl, rfl⟩ := sm2E hf
    exact hret _ _ dX3_keepIfBetter_44

def fX3_keepIfBetter_0   (x17 : Nat → Int32) (x43 : Nat → Int32) (x58 : Nat → Int32)   (x40 : Nat → Int32) (x59 : Nat → Int32)  : Option ((Nat → Int32) × (Nat → Int32)) := fX3_keepIfBetter_0_0 x17 x43 x58 x40 x59

set_option maxHeartbeats 4000000 in
set_option maxRecDepth 100000 in
theorem c_X3_keepIfBetter_0 (l : Launch) {b0 : Nat} {D : GD} {n : Nat} {κ : QT} {X0 : XT} {Y0 : YT} {Z : ZT} (hL : LY n κ) (hz41 : Z 41 0 = some 42 ∧ Z 41 1 = some 46 ∧ Z 41 2 = some 50 ∧ Z 41 3 = some 54) {x17 : Nat → Int32} {x40 : Nat → Int32} {x43 : Nat → Int32} {x58 : Nat → Int32} {x59 : Nat → Int32} (hx : ([17, 40, 43, 58, 59] : List Nat).map X0 = [x17, x40, x43, x58, x59]) (hy : ([] : List Nat).map Y0 = []) {rx40 : (Nat → Int32)} {rx59 : (Nat → Int32)} (hf : fX3_keepIfBetter_0 x17 x43 x58 x40 x59 = some (rx40, rx59)) : gMv l yX3_keepIfBetter cX3_keepIfBetter 3 none 1 40 0 0 b0 D [.ref (b0 + 40), .int 0] (n, κ, X0, Y0, Z) (n, κ, ov X0 [17, 40, 43, 58, 59] [x17, rx40, x43, x58, rx59], ov Y0 [] [], Z) := by
  have hN : ([17, 40, 43, 58, 59] : List Nat).Nodup := by decide
  have hM : ([] : List Nat).Nodup := by decide
  refine g_metv (own := RX3) (by decide) rfl rfl (Nat.le_of_ble_eq_true rfl) ?_
  intro K hC hret
  have e := wX3_keepIfBetter_0_0 hL hz41 hN hM hC  hret hf
  rw [ov_id' hx, ov_id' hy] at e
  exact g_sub [0, 1] rfl e

-- X3_keepIfBetter
def fX3_keepIfBetter_1_0   (x17 : Nat → Int32) (x47 : Nat → Int32) (x58 : Nat → Int32)  (x40 : (Nat → Int32)) (x59 : (Nat → Int32)) : Option ((Nat → Int32) × (Nat → Int32)) := bd1 (fX9_placesOf x47 x17) fun r_1 => (if (x40 4) ≤ r_1 then (some (x40, x59)) else (gd (cpok 0 0 3 3 3) (some ((upd x40 4 r_1), (va_cpy x58 x59 (0 : Int32).toNatClampNeg (0 : Int32).toNatClampNeg (3 : Int32).toNatClampNeg)))))
set_option maxHeartbeats 4000000 in
set_option maxRecDepth 100000 in
theorem wX3_keepIfBetter_1_0 {l : Launch} {b0 : Nat} {D : GD} {K : KT} {n : Nat} {κ : QT} {X0 : XT} {Y0 : YT} {Z : ZT} (hL : LY n κ) (hz41 : Z 41 0 = some 42 ∧ Z 41 1 = some 46 ∧ Z 41 2 = some 50 ∧ Z 41 3 = some 54) (hN : ([17, 40, 47, 58, 59] : List Nat).Nodup) (hM : ([] : List Nat).Nodup) (hC : gC l b0 D K RX3 cX3_keepIfBetter none 3 1 40 0 0) {x17 : Nat → Int32} {x47 : Nat → Int32} {x58 : Nat → Int32} {rx40 : (Nat → Int32)} {rx59 : (Nat → Int32)} (hret : ∀ pc loc, decode cX3_keepIfBetter pc = .ok (.return_, 1) → gV l b0 D K (n, κ, ov X0 [17, 40, 47, 58, 59] [x17, rx40, x47, x58, rx59], ov Y0 [] [], Z, 0, 0) pc loc []) {x40 : (Nat → Int32)} {x59 : (Nat → Int32)} (hf : fX3_keepIfBetter_1_0 x17 x47 x58  x40 x59 = some (rx40, rx59)) : gV l b0 D K (n, κ, ov X0 [17, 40, 47, 58, 59] [x17, x40, x47, x58, x59], ov Y0 [] [], Z, 0, 0) 0 [(0, .ref (b0 + 40)), (1, .int 1)] [] := by
  unfold fX3_keepIfBetter_1_0 at hf
  refine g_aload_n hC 0 dX3_keepIfBetter_0 rfl rfl ?_
  refine gt_X3_25 hC (a := 40) (kk_40 hL) (kn_40 hL) dX3_keepIfBetter_1 ?_
  refine g_ref (b := 32) rfl ?_
  refine gt_X3_53 hC (a := 32) (kk_32 hL) (kn_32 hL) dX3_keepIfBetter_4 ?_
  refine g_ref (b := 17) rfl ?_
  refine g_aload_n hC 0 dX3_keepIfBetter_7 rfl rfl ?_
  refine gt_X3_12 hC (a := 40) (kk_40 hL) (kn_40 hL) dX3_keepIfBetter_8 ?_
  refine g_ref (b := 41) rfl ?_
  refine g_iload_n hC 1 dX3_keepIfBetter_11 rfl rfl ?_
  refine g_aald19 hC (L := 4) (kk_41 hL) (kn_41 hL) (inb_in (by decide)) (r := some 46) hz41.2.1 dX3_keepIfBetter_12 ?_
  show gV l b0 D K (n, κ, ov X0 [17, 40, 47, 58, 59] [x17, x40, x47, x58, x59], ov Y0 [] [], Z, 0, 0) 13 [(0, .ref (b0 + 40)), (1, .int 1)] [.ref (b0 + 46), .ref (b0 + 17)]
  obtain ⟨r_1, q_2, hf⟩ := bd1E hf
  refine g_callV_i (a := 17) hC (X' := ov X0 [17, 40, 47, 58, 59] [x17, x40, x47, x58, x59]) (Y' := ov Y0 [] []) (As := [.ref (b0 + 46)]) (gMi_eq (c_X9_placesOf l hL (kk_46 hL) (kn_46 hL) (nd_sub hN [2, 0] (by decide) (by rfl)) (nd_sub hM [] (by decide) (by rfl)) (ov_map hN [2, 0] (by rfl) (by rfl)) (ov_map hM [] (by rfl) (by rfl)) q_2) (ov_ovE hN (by rfl) [2, 0] [1, 3, 4] (by rfl) (by rfl) [x40, x58, x59] (by rfl) (by rfl) (by rfl) 5 (by rfl) (by decide)) (ov_ovE hM (by rfl) [] [] (by rfl) (by rfl) [] (by rfl) (by rfl) (by rfl) 0 (by rfl) (by decide))) tw_1041 tw_1038 tw_119 tw_1039 tw_1040 (ci := 9) rfl (by decide) (kk_17 hL) (kn_17 hL) pd_X9_placesOf (by decide) (by decide) rfl rfl (Nat.le_of_ble_eq_true rfl) rfl dX3_keepIfBetter_13 ?_
  refine g_istore_n hC (i := 2) [(2, .int r_1), (0, .ref (b0 + 40)), (1, .int 1)] rfl dX3_keepIfBetter_16 (by decide) rfl ?_
  refine g_iload_n hC 0 dX3_keepIfBetter_17 rfl rfl ?_
  refine g_aload_n hC 1 dX3_keepIfBetter_18 rfl rfl ?_
  refine gt_X3_30 hC (x := x40) (kk_40 hL) (kn_40 hL) (ov_get hN 1 rfl rfl) dX3_keepIfBetter_19 ?_
  refine g_icmp_ge hC 44 dX3_keepIfBetter_22 (by decide) (fun hc => ?_) (fun hc => ?_)
  · replace hf := ifT hf hc
    obtain ⟨rfl, rfl⟩ := sm2E hf
    exact hret _ _ dX3_keepIfBetter_44
  · replace hf := ifF hf hc
    refine g_aload_n hC 1 dX3_keepIfBetter_25 rfl rfl ?_
    refine g_iload_n hC 0 dX3_keepIfBetter_26 rfl rfl ?_
    refine pt_X3_30 hC (x := x40) (kk_40 hL) (kn_40 hL) (ov_get hN 1 rfl rfl) (ov_set hN (by rfl) 1 (by rfl)) dX3_keepIfBetter_27 ?_
    show gV l b0 D K (n, κ, ov X0 [17, 40, 47, 58, 59] [x17, (upd x40 4 r_1), x47, x58, x59], ov Y0 [] [], Z, 0, 0) 30 [(2, .int r_1), (0, .ref (b0 + 40)), (1, .int 1)] []
    refine g_aload_n hC 1 dX3_keepIfBetter_30 rfl rfl ?_
    refine gt_X3_18 hC (a := 40) (kk_40 hL) (kn_40 hL) dX3_keepIfBetter_31 ?_
    refine g_ref (b := 58) rfl ?_
    refine g_iconst hC (v := 0) dX3_keepIfBetter_34 ic_0 ?_
    refine g_aload_n hC 1 dX3_keepIfBetter_35 rfl rfl ?_
    refine gt_X3_22 hC (a := 40) (kk_40 hL) (kn_40 hL) dX3_keepIfBetter_36 ?_
    refine g_ref (b := 59) rfl ?_
    refine g_iconst hC (v := 0) dX3_keepIfBetter_39 ic_0 ?_
    refine g_iconst hC (v := 3) dX3_keepIfBetter_40 ic_3 ?_
    obtain ⟨h_3, hf⟩ := gdE hf
    refine g_copy hC (f := x58) (g := x59) tw_1042 (kk_58 hL) (kn_58 hL) (kk_59 hL) (kn_59 hL)  (ov_get hN 3 rfl rfl) (ov_get hN 4 rfl rfl) h_3 (ov_set hN (by rfl) 4 (by rfl)) (by decide) (by decide) dX3_keepIfBetter_41 ?_
    show gV l b0 D K (n, κ, ov X0 [17, 40, 47, 58, 59] [x17, (upd x40 4 r_1), x47, x58, (va_cpy x58 x59 (0 : Int32).toNatClampNeg (0 : Int32).toNatClampNeg (3 : Int32).toNatClampNeg)], ov Y0 [] [], Z, 0, 0) 44 [(2, .int r_1), (0, .ref (b0 + 40)), (1, .int 1)] []
    obtain ⟨rfl, rfl⟩ := sm2E hf
    exact hret _ _ dX3_keepIfBetter_44

def fX3_keepIfBetter_1   (x17 : Nat → Int32) (x47 : Nat → Int32) (x58 : Nat → Int32)   (x40 : Nat → Int32) (x59 : Nat → Int32)  : Option ((Nat → Int32) × (Nat → Int32)) := fX3_keepIfBetter_1_0 x17 x47 x58 x40 x59

set_option maxHeartbeats 4000000 in
set_option maxRecDepth 100000 in
theorem c_X3_keepIfBetter_1 (l : Launch) {b0 : Nat} {D : GD} {n : Nat} {κ : QT} {X0 : XT} {Y0 : YT} {Z : ZT} (hL : LY n κ) (hz41 : Z 41 0 = some 42 ∧ Z 41 1 = some 46 ∧ Z 41 2 = some 50 ∧ Z 41 3 = some 54) {x17 : Nat → Int32} {x40 : Nat → Int32} {x47 : Nat → Int32} {x58 : Nat → Int32} {x59 : Nat → Int32} (hx : ([17, 40, 47, 58, 59] : List Nat).map X0 = [x17, x40, x47, x58, x59]) (hy : ([] : List Nat).map Y0 = []) {rx40 : (Nat → Int32)} {rx59 : (Nat → Int32)} (hf : fX3_keepIfBetter_1 x17 x47 x58 x40 x59 = some (rx40, rx59)) : gMv l yX3_keepIfBetter cX3_keepIfBetter 3 none 1 40 0 0 b0 D [.ref (b0 + 40), .int 1] (n, κ, X0, Y0, Z) (n, κ, ov X0 [17, 40, 47, 58, 59] [x17, rx40, x47, x58, rx59], ov Y0 [] [], Z) := by
  have hN : ([17, 40, 47, 58, 59] : List Nat).Nodup := by decide
  have hM : ([] : List Nat).Nodup := by decide
  refine g_metv (own := RX3) (by decide) rfl rfl (Nat.le_of_ble_eq_true rfl) ?_
  intro K hC hret
  have e := wX3_keepIfBetter_1_0 hL hz41 hN hM hC  hret hf
  rw [ov_id' hx, ov_id' hy] at e
  exact g_sub [0, 1] rfl e

-- X3_keepIfBetter
def fX3_keepIfBetter_2_0   (x17 : Nat → Int32) (x51 : Nat → Int32) (x58 : Nat → Int32)  (x40 : (Nat → Int32)) (x59 : (Nat → Int32)) : Option ((Nat → Int32) × (Nat → Int32)) := bd1 (fX9_placesOf x51 x17) fun r_1 => (if (x40 4) ≤ r_1 then (some (x40, x59)) else (gd (cpok 0 0 3 3 3) (some ((upd x40 4 r_1), (va_cpy x58 x59 (0 : Int32).toNatClampNeg (0 : Int32).toNatClampNeg (3 : Int32).toNatClampNeg)))))
set_option maxHeartbeats 4000000 in
set_option maxRecDepth 100000 in
theorem wX3_keepIfBetter_2_0 {l : Launch} {b0 : Nat} {D : GD} {K : KT} {n : Nat} {κ : QT} {X0 : XT} {Y0 : YT} {Z : ZT} (hL : LY n κ) (hz41 : Z 41 0 = some 42 ∧ Z 41 1 = some 46 ∧ Z 41 2 = some 50 ∧ Z 41 3 = some 54) (hN : ([17, 40, 51, 58, 59] : List Nat).Nodup) (hM : ([] : List Nat).Nodup) (hC : gC l b0 D K RX3 cX3_keepIfBetter none 3 1 40 0 0) {x17 : Nat → Int32} {x51 : Nat → Int32} {x58 : Nat → Int32} {rx40 : (Nat → Int32)} {rx59 : (Nat → Int32)} (hret : ∀ pc loc, decode cX3_keepIfBetter pc = .ok (.return_, 1) → gV l b0 D K (n, κ, ov X0 [17, 40, 51, 58, 59] [x17, rx40, x51, x58, rx59], ov Y0 [] [], Z, 0, 0) pc loc []) {x40 : (Nat → Int32)} {x59 : (Nat → Int32)} (hf : fX3_keepIfBetter_2_0 x17 x51 x58  x40 x59 = some (rx40, rx59)) : gV l b0 D K (n, κ, ov X0 [17, 40, 51, 58, 59] [x17, x40, x51, x58, x59], ov Y0 [] [], Z, 0, 0) 0 [(0, .ref (b0 + 40)), (1, .int 2)] [] := by
  unfold fX3_keepIfBetter_2_0 at hf
  refine g_aload_n hC 0 dX3_keepIfBetter_0 rfl rfl ?_
  refine gt_X3_25 hC (a := 40) (kk_40 hL) (kn_40 hL) dX3_keepIfBetter_1 ?_
  refine g_ref (b := 32) rfl ?_
  refine gt_X3_53 hC (a := 32) (kk_32 hL) (kn_32 hL) dX3_keepIfBetter_4 ?_
  refine g_ref (b := 17) rfl ?_
  refine g_aload_n hC 0 dX3_keepIfBetter_7 rfl rfl ?_
  refine gt_X3_12 hC (a := 40) (kk_40 hL) (kn_40 hL) dX3_keepIfBetter_8 ?_
  refine g_ref (b := 41) rfl ?_
  refine g_iload_n hC 1 dX3_keepIfBetter_11 rfl rfl ?_
  refine g_aald19 hC (L := 4) (kk_41 hL) (kn_41 hL) (inb_in (by decide)) (r := some 50) hz41.2.2.1 dX3_keepIfBetter_12 ?_
  show gV l b0 D K (n, κ, ov X0 [17, 40, 51, 58, 59] [x17, x40, x51, x58, x59], ov Y0 [] [], Z, 0, 0) 13 [(0, .ref (b0 + 40)), (1, .int 2)] [.ref (b0 + 50), .ref (b0 + 17)]
  obtain ⟨r_1, q_2, hf⟩ := bd1E hf
  refine g_callV_i (a := 17) hC (X' := ov X0 [17, 40, 51, 58, 59] [x17, x40, x51, x58, x59]) (Y' := ov Y0 [] []) (As := [.ref (b0 + 50)]) (gMi_eq (c_X9_placesOf l hL (kk_50 hL) (kn_50 hL) (nd_sub hN [2, 0] (by decide) (by rfl)) (nd_sub hM [] (by decide) (by rfl)) (ov_map hN [2, 0] (by rfl) (by rfl)) (ov_map hM [] (by rfl) (by rfl)) q_2) (ov_ovE hN (by rfl) [2, 0] [1, 3, 4] (by rfl) (by rfl) [x40, x58, x59] (by rfl) (by rfl) (by rfl) 5 (by rfl) (by decide)) (ov_ovE hM (by rfl) [] [] (by rfl) (by rfl) [] (by rfl) (by rfl) (by rfl) 0 (by rfl) (by decide))) tw_1041 tw_1038 tw_119 tw_1039 tw_1040 (ci := 9) rfl (by decide) (kk_17 hL) (kn_17 hL) pd_X9_placesOf (by decide) (by decide) rfl rfl (Nat.le_of_ble_eq_true rfl) rfl dX3_keepIfBetter_13 ?_
  refine g_istore_n hC (i := 2) [(2, .int r_1), (0, .ref (b0 + 40)), (1, .int 2)] rfl dX3_keepIfBetter_16 (by decide) rfl ?_
  refine g_iload_n hC 0 dX3_keepIfBetter_17 rfl rfl ?_
  refine g_aload_n hC 1 dX3_keepIfBetter_18 rfl rfl ?_
  refine gt_X3_30 hC (x := x40) (kk_40 hL) (kn_40 hL) (ov_get hN 1 rfl rfl) dX3_keepIfBetter_19 ?_
  refine g_icmp_ge hC 44 dX3_keepIfBetter_22 (by decide) (fun hc => ?_) (fun hc => ?_)
  · replace hf := ifT hf hc
    obtain ⟨rfl, rfl⟩ := sm2E hf
    exact hret _ _ dX3_keepIfBetter_44
  · replace hf := ifF hf hc
    refine g_aload_n hC 1 dX3_keepIfBetter_25 rfl rfl ?_
    refine g_iload_n hC 0 dX3_keepIfBetter_26 rfl rfl ?_
    refine pt_X3_30 hC (x := x40) (kk_40 hL) (kn_40 hL) (ov_get hN 1 rfl rfl) (ov_set hN (by rfl) 1 (by rfl)) dX3_keepIfBetter_27 ?_
    show gV l b0 D K (n, κ, ov X0 [17, 40, 51, 58, 59] [x17, (upd x40 4 r_1), x51, x58, x59], ov Y0 [] [], Z, 0, 0) 30 [(2, .int r_1), (0, .ref (b0 + 40)), (1, .int 2)] []
    refine g_aload_n hC 1 dX3_keepIfBetter_30 rfl rfl ?_
    refine gt_X3_18 hC (a := 40) (kk_40 hL) (kn_40 hL) dX3_keepIfBetter_31 ?_
    refine g_ref (b := 58) rfl ?_
    refine g_iconst hC (v := 0) dX3_keepIfBetter_34 ic_0 ?_
    refine g_aload_n hC 1 dX3_keepIfBetter_35 rfl rfl ?_
    refine gt_X3_22 hC (a := 40) (kk_40 hL) (kn_40 hL) dX3_keepIfBetter_36 ?_
    refine g_ref (b := 59) rfl ?_
    refine g_iconst hC (v := 0) dX3_keepIfBetter_39 ic_0 ?_
    refine g_iconst hC (v := 3) dX3_keepIfBetter_40 ic_3 ?_
    obtain ⟨h_3, hf⟩ := gdE hf
    refine g_copy hC (f := x58) (g := x59) tw_1042 (kk_58 hL) (kn_58 hL) (kk_59 hL) (kn_59 hL)  (ov_get hN 3 rfl rfl) (ov_get hN 4 rfl rfl) h_3 (ov_set hN (by rfl) 4 (by rfl)) (by decide) (by decide) dX3_keepIfBetter_41 ?_
    show gV l b0 D K (n, κ, ov X0 [17, 40, 51, 58, 59] [x17, (upd x40 4 r_1), x51, x58, (va_cpy x58 x59 (0 : Int32).toNatClampNeg (0 : Int32).toNatClampNeg (3 : Int32).toNatClampNeg)], ov Y0 [] [], Z, 0, 0) 44 [(2, .int r_1), (0, .ref (b0 + 40)), (1, .int 2)] []
    obtain ⟨rfl, rfl⟩ := sm2E hf
    exact hret _ _ dX3_keepIfBetter_44

def fX3_keepIfBetter_2   (x17 : Nat → Int32) (x51 : Nat → Int32) (x58 : Nat → Int32)   (x40 : Nat → Int32) (x59 : Nat → Int32)  : Option ((Nat → Int32) × (Nat → Int32)) := fX3_keepIfBetter_2_0 x17 x51 x58 x40 x59

set_option maxHeartbeats 4000000 in
set_option maxRecDepth 100000 in
theorem c_X3_keepIfBetter_2 (l : Launch) {b0 : Nat} {D : GD} {n : Nat} {κ : QT} {X0 : XT} {Y0 : YT} {Z : ZT} (hL : LY n κ) (hz41 : Z 41 0 = some 42 ∧ Z 41 1 = some 46 ∧ Z 41 2 = some 50 ∧ Z 41 3 = some 54) {x17 : Nat → Int32} {x40 : Nat → Int32} {x51 : Nat → Int32} {x58 : Nat → Int32} {x59 : Nat → Int32} (hx : ([17, 40, 51, 58, 59] : List Nat).map X0 = [x17, x40, x51, x58, x59]) (hy : ([] : List Nat).map Y0 = []) {rx40 : (Nat → Int32)} {rx59 : (Nat → Int32)} (hf : fX3_keepIfBetter_2 x17 x51 x58 x40 x59 = some (rx40, rx59)) : gMv l yX3_keepIfBetter cX3_keepIfBetter 3 none 1 40 0 0 b0 D [.ref (b0 + 40), .int 2] (n, κ, X0, Y0, Z) (n, κ, ov X0 [17, 40, 51, 58, 59] [x17, rx40, x51, x58, rx59], ov Y0 [] [], Z) := by
  have hN : ([17, 40, 51, 58, 59] : List Nat).Nodup := by decide
  have hM : ([] : List Nat).Nodup := by decide
  refine g_metv (own := RX3) (by decide) rfl rfl (Nat.le_of_ble_eq_true rfl) ?_
  intro K hC hret
  have e := wX3_keepIfBetter_2_0 hL hz41 hN hM hC  hret hf
  rw [ov_id' hx, ov_id' hy] at e
  exact g_sub [0, 1] rfl e

-- X3_keepIfBetter
def fX3_keepIfBetter_3_0   (x17 : Nat → Int32) (x55 : Nat → Int32) (x58 : Nat → Int32)  (x40 : (Nat → Int32)) (x59 : (Nat → Int32)) : Option ((Nat → Int32) × (Nat → Int32)) := bd1 (fX9_placesOf x55 x17) fun r_1 => (if (x40 4) ≤ r_1 then (some (x40, x59)) else (gd (cpok 0 0 3 3 3) (some ((upd x40 4 r_1), (va_cpy x58 x59 (0 : Int32).toNatClampNeg (0 : Int32).toNatClampNeg (3 : Int32).toNatClampNeg)))))
set_option maxHeartbeats 4000000 in
set_option maxRecDepth 100000 in
theorem wX3_keepIfBetter_3_0 {l : Launch} {b0 : Nat} {D : GD} {K : KT} {n : Nat} {κ : QT} {X0 : XT} {Y0 : YT} {Z : ZT} (hL : LY n κ) (hz41 : Z 41 0 = some 42 ∧ Z 41 1 = some 46 ∧ Z 41 2 = some 50 ∧ Z 41 3 = some 54) (hN : ([17, 40, 55, 58, 59] : List Nat).Nodup) (hM : ([] : List Nat).Nodup) (hC : gC l b0 D K RX3 cX3_keepIfBetter none 3 1 40 0 0) {x17 : Nat → Int32} {x55 : Nat → Int32} {x58 : Nat → Int32} {rx40 : (Nat → Int32)} {rx59 : (Nat → Int32)} (hret : ∀ pc loc, decode cX3_keepIfBetter pc = .ok (.return_, 1) → gV l b0 D K (n, κ, ov X0 [17, 40, 55, 58, 59] [x17, rx40, x55, x58, rx59], ov Y0 [] [], Z, 0, 0) pc loc []) {x40 : (Nat → Int32)} {x59 : (Nat → Int32)} (hf : fX3_keepIfBetter_3_0 x17 x55 x58  x40 x59 = some (rx40, rx59)) : gV l b0 D K (n, κ, ov X0 [17, 40, 55, 58, 59] [x17, x40, x55, x58, x59], ov Y0 [] [], Z, 0, 0) 0 [(0, .ref (b0 + 40)), (1, .int 3)] [] := by
  unfold fX3_keepIfBetter_3_0 at hf
  refine g_aload_n hC 0 dX3_keepIfBetter_0 rfl rfl ?_
  refine gt_X3_25 hC (a := 40) (kk_40 hL) (kn_40 hL) dX3_keepIfBetter_1 ?_
  refine g_ref (b := 32) rfl ?_
  refine gt_X3_53 hC (a := 32) (kk_32 hL) (kn_32 hL) dX3_keepIfBetter_4 ?_
  refine g_ref (b := 17) rfl ?_
  refine g_aload_n hC 0 dX3_keepIfBetter_7 rfl rfl ?_
  refine gt_X3_12 hC (a := 40) (kk_40 hL) (kn_40 hL) dX3_keepIfBetter_8 ?_
  refine g_ref (b := 41) rfl ?_
  refine g_iload_n hC 1 dX3_keepIfBetter_11 rfl rfl ?_
  refine g_aald19 hC (L := 4) (kk_41 hL) (kn_41 hL) (inb_in (by decide)) (r := some 54) hz41.2.2.2 dX3_keepIfBetter_12 ?_
  show gV l b0 D K (n, κ, ov X0 [17, 40, 55, 58, 59] [x17, x40, x55, x58, x59], ov Y0 [] [], Z, 0, 0) 13 [(0, .ref (b0 + 40)), (1, .int 3)] [.ref (b0 + 54), .ref (b0 + 17)]
  obtain ⟨r_1, q_2, hf⟩ := bd1E hf
  refine g_callV_i (a := 17) hC (X' := ov X0 [17, 40, 55, 58, 59] [x17, x40, x55, x58, x59]) (Y' := ov Y0 [] []) (As := [.ref (b0 + 54)]) (gMi_eq (c_X9_placesOf l hL (kk_54 hL) (kn_54 hL) (nd_sub hN [2, 0] (by decide) (by rfl)) (nd_sub hM [] (by decide) (by rfl)) (ov_map hN [2, 0] (by rfl) (by rfl)) (ov_map hM [] (by rfl) (by rfl)) q_2) (ov_ovE hN (by rfl) [2, 0] [1, 3, 4] (by rfl) (by rfl) [x40, x58, x59] (by rfl) (by rfl) (by rfl) 5 (by rfl) (by decide)) (ov_ovE hM (by rfl) [] [] (by rfl) (by rfl) [] (by rfl) (by rfl) (by rfl) 0 (by rfl) (by decide))) tw_1041 tw_1038 tw_119 tw_1039 tw_1040 (ci := 9) rfl (by decide) (kk_17 hL) (kn_17 hL) pd_X9_placesOf (by decide) (by decide) rfl rfl (Nat.le_of_ble_eq_true rfl) rfl dX3_keepIfBetter_13 ?_
  refine g_istore_n hC (i := 2) [(2, .int r_1), (0, .ref (b0 + 40)), (1, .int 3)] rfl dX3_keepIfBetter_16 (by decide) rfl ?_
  refine g_iload_n hC 0 dX3_keepIfBetter_17 rfl rfl ?_
  refine g_aload_n hC 1 dX3_keepIfBetter_18 rfl rfl ?_
  refine gt_X3_30 hC (x := x40) (kk_40 hL) (kn_40 hL) (ov_get hN 1 rfl rfl) dX3_keepIfBetter_19 ?_
  refine g_icmp_ge hC 44 dX3_keepIfBetter_22 (by decide) (fun hc => ?_) (fun hc => ?_)
  · replace hf := ifT hf hc
    obtain ⟨rfl, rfl⟩ := sm2E hf
    exact hret _ _ dX3_keepIfBetter_44
  · replace hf := ifF hf hc
    refine g_aload_n hC 1 dX3_keepIfBetter_25 rfl rfl ?_
    refine g_iload_n hC 0 dX3_keepIfBetter_26 rfl rfl ?_
    refine pt_X3_30 hC (x := x40) (kk_40 hL) (kn_40 hL) (ov_get hN 1 rfl rfl) (ov_set hN (by rfl) 1 (by rfl)) dX3_keepIfBetter_27 ?_
    show gV l b0 D K (n, κ, ov X0 [17, 40, 55, 58, 59] [x17, (upd x40 4 r_1), x55, x58, x59], ov Y0 [] [], Z, 0, 0) 30 [(2, .int r_1), (0, .ref (b0 + 40)), (1, .int 3)] []
    refine g_aload_n hC 1 dX3_keepIfBetter_30 rfl rfl ?_
    refine gt_X3_18 hC (a := 40) (kk_40 hL) (kn_40 hL) dX3_keepIfBetter_31 ?_
    refine g_ref (b := 58) rfl ?_
    refine g_iconst hC (v := 0) dX3_keepIfBetter_34 ic_0 ?_
    refine g_aload_n hC 1 dX3_keepIfBetter_35 rfl rfl ?_
    refine gt_X3_22 hC (a := 40) (kk_40 hL) (kn_40 hL) dX3_keepIfBetter_36 ?_
    refine g_ref (b := 59) rfl ?_
    refine g_iconst hC (v := 0) dX3_keepIfBetter_39 ic_0 ?_
    refine g_iconst hC (v := 3) dX3_keepIfBetter_40 ic_3 ?_
    obtain ⟨h_3, hf⟩ := gdE hf
    refine g_copy hC (f := x58) (g := x59) tw_1042 (kk_58 hL) (kn_58 hL) (kk_59 hL) (kn_59 hL)  (ov_get hN 3 rfl rfl) (ov_get hN 4 rfl rfl) h_3 (ov_set hN (by rfl) 4 (by rfl)) (by decide) (by decide) dX3_keepIfBetter_41 ?_
    show gV l b0 D K (n, κ, ov X0 [17, 40, 55, 58, 59] [x17, (upd x40 4 r_1), x55, x58, (va_cpy x58 x59 (0 : Int32).toNatClampNeg (0 : Int32).toNatClampNeg (3 : Int32).toNatClampNeg)], ov Y0 [] [], Z, 0, 0) 44 [(2, .int r_1), (0, .ref (b0 + 40)), (1, .int 3)] []
    obtain ⟨rfl, rfl⟩ := sm2E hf
    exact hret _ _ dX3_keepIfBetter_44

def fX3_keepIfBetter_3   (x17 : Nat → Int32) (x55 : Nat → Int32) (x58 : Nat → Int32)   (x40 : Nat → Int32) (x59 : Nat → Int32)  : Option ((Nat → Int32) × (Nat → Int32)) := fX3_keepIfBetter_3_0 x17 x55 x58 x40 x59

set_option maxHeartbeats 4000000 in
set_option maxRecDepth 100000 in
theorem c_X3_keepIfBetter_3 (l : Launch) {b0 : Nat} {D : GD} {n : Nat} {κ : QT} {X0 : XT} {Y0 : YT} {Z : ZT} (hL : LY n κ) (hz41 : Z 41 0 = some 42 ∧ Z 41 1 = some 46 ∧ Z 41 2 = some 50 ∧ Z 41 3 = some 54) {x17 : Nat → Int32} {x40 : Nat → Int32} {x55 : Nat → Int32} {x58 : Nat → Int32} {x59 : Nat → Int32} (hx : ([17, 40, 55, 58, 59] : List Nat).map X0 = [x17, x40, x55, x58, x59]) (hy : ([] : List Nat).map Y0 = []) {rx40 : (Nat → Int32)} {rx59 : (Nat → Int32)} (hf : fX3_keepIfBetter_3 x17 x55 x58 x40 x59 = some (rx40, rx59)) : gMv l yX3_keepIfBetter cX3_keepIfBetter 3 none 1 40 0 0 b0 D [.ref (b0 + 40), .int 3] (n, κ, X0, Y0, Z) (n, κ, ov X0 [17, 40, 55, 58, 59] [x17, rx40, x55, x58, rx59], ov Y0 [] [], Z) := by
  have hN : ([17, 40, 55, 58, 59] : List Nat).Nodup := by decide
  have hM : ([] : List Nat).Nodup := by decide
  refine g_metv (own := RX3) (by decide) rfl rfl (Nat.le_of_ble_eq_true rfl) ?_
  intro K hC hret
  have e := wX3_keepIfBetter_3_0 hL hz41 hN hM hC  hret hf
  rw [ov_id' hx, ov_id' hy] at e
  exact g_sub [0, 1] rfl e

-- X3_search
def fX3_search_3_10   (x17 : Nat → Int32) (x55 : Nat → Int32) (x58 : Nat → Int32)  (x40 : (Nat → Int32)) (x59 : (Nat → Int32)) : Option ((Nat → Int32) × (Nat → Int32)) := bd2 (fX3_keepIfBetter_3 x17 x55 x58 x40 x59) fun x40_1 x59_2 => (some (x40_1, x59_2))
set_option maxHeartbeats 4000000 in
set_option maxRecDepth 100000 in
theorem wX3_search_3_10 {l : Launch} {b0 : Nat} {D : GD} {K : KT} {n : Nat} {κ : QT} {X0 : XT} {Y0 : YT} {Z : ZT} (hL : LY n κ) (hz41 : Z 41 0 = some 42 ∧ Z 41 1 = some 46 ∧ Z 41 2 = some 50 ∧ Z 41 3 = some 54) (hN : ([17, 40, 55, 58, 59] : List Nat).Nodup) (hM : ([] : List Nat).Nodup) (hC : gC l b0 D K RX3 cX3_search none 5 2 62 0 0) {x17 : Nat → Int32} {x55 : Nat → Int32} {x58 : Nat → Int32} {rx40 : (Nat → Int32)} {rx59 : (Nat → Int32)} (hret : ∀ pc loc, decode cX3_search pc = .ok (.return_, 1) → gV l b0 D K (n, κ, ov X0 [17, 40, 55, 58, 59] [x17, rx40, x55, x58, rx59], ov Y0 [] [], Z, 0, 0) pc loc []) {x40 : (Nat → Int32)} {x59 : (Nat → Int32)} (hf : fX3_search_3_10 x17 x55 x58  x40 x59 = some (rx40, rx59)) : gV l b0 D K (n, κ, ov X0 [17, 40, 55, 58, 59] [x17, x40, x55, x58, x59], ov Y0 [] [], Z, 0, 0) 10 [(0, .ref (b0 + 40)), (1, .int 3)] [] := by
  unfold fX3_search_3_10 at hf
  refine g_aload_n hC 0 dX3_search_10 rfl rfl ?_
  refine g_iload_n hC 1 dX3_search_11 rfl rfl ?_
  obtain ⟨x40_1, x59_2, q_3, hf⟩ := bd2E hf
  refine g_callV_v (a := 40) hC (X' := ov X0 [17, 40, 55, 58, 59] [x17, x40_1, x55, x58, x59_2]) (Y' := ov Y0 [] []) (As := [.int 3]) (gMv_eq (c_X3_keepIfBetter_3 l hL hz41 (ov_map hN [0, 1, 2, 3, 4] (by rfl) (by rfl)) (ov_map hM [] (by rfl) (by rfl)) q_3) (ov_ovE hN (by rfl) [0, 1, 2, 3, 4] [] (by rfl) (by rfl) [] (by rfl) (by rfl) (by rfl) 5 (by rfl) (by decide)) (ov_ovE hM (by rfl) [] [] (by rfl) (by rfl) [] (by rfl) (by rfl) (by rfl) 0 (by rfl) (by decide))) tw_1037 tw_1034 tw_124 tw_1036 tw_38 (ci := 3) rfl (by decide) (kk_40 hL) (kn_40 hL) pd_X3_keepIfBetter (by decide) (by decide) rfl rfl (Nat.le_of_ble_eq_true rfl) rfl dX3_search_12 ?_
  obtain ⟨rfl, rfl⟩ := sm2E hf
  exact hret _ _ dX3_search_15

def fX3_search_3_0   (x17 : Nat → Int32) (x55 : Nat → Int32) (x58 : Nat → Int32)  (v2 : Int32) (x40 : (Nat → Int32)) (x59 : (Nat → Int32)) : Option ((Nat → Int32) × (Nat → Int32)) := if v2 ≤ 3 then (fX3_search_3_10 x17 x55 x58  x40 x59) else (fX3_search_3_10 x17 x55 x58  x40 x59)
set_option maxHeartbeats 4000000 in
set_option maxRecDepth 100000 in
theorem wX3_search_3_0 {l : Launch} {b0 : Nat} {D : GD} {K : KT} {n : Nat} {κ : QT} {X0 : XT} {Y0 : YT} {Z : ZT} (hL : LY n κ) (hz41 : Z 41 0 = some 42 ∧ Z 41 1 = some 46 ∧ Z 41 2 = some 50 ∧ Z 41 3 = some 54) (hN : ([17, 40, 55, 58, 59] : List Nat).Nodup) (hM : ([] : List Nat).Nodup) (hC : gC l b0 D K RX3 cX3_search none 5 2 62 0 0) {x17 : Nat → Int32} {x55 : Nat → Int32} {x58 : Nat → Int32} {rx40 : (Nat → Int32)} {rx59 : (Nat → Int32)} (hret : ∀ pc loc, decode cX3_search pc = .ok (.return_, 1) → gV l b0 D K (n, κ, ov X0 [17, 40, 55, 58, 59] [x17, rx40, x55, x58, rx59], ov Y0 [] [], Z, 0, 0) pc loc []) {v2 : Int32} {x40 : (Nat → Int32)} {x59 : (Nat → Int32)} (hf : fX3_search_3_0 x17 x55 x58  v2 x40 x59 = some (rx40, rx59)) : gV l b0 D K (n, κ, ov X0 [17, 40, 55, 58, 59] [x17, x40, x55, x58, x59], ov Y0 [] [], Z, 0, 0) 0 [(0, .ref (b0 + 40)), (1, .int 3), (2, .int v2)] [] := by
  unfold fX3_search_3_0 at hf
  refine g_iload_n hC 1 dX3_search_0 rfl rfl ?_
  refine g_iload_n hC 2 dX3_search_1 rfl rfl ?_
  refine g_icmp_ge hC 10 dX3_search_2 (by decide) (fun hc => ?_) (fun hc => ?_)
  · replace hf := ifT hf hc
    exact g_sub [0, 1] rfl (wX3_search_3_10 hL hz41 hN hM hC  hret  hf)
  · replace hf := ifF hf hc
    refine g_iload_n hC 1 dX3_search_5 rfl rfl ?_
    refine g_iconst hC (v := 3) dX3_search_6 ic_3 ?_
    refine g_icmp_lt hC 16 dX3_search_7 (by decide) (fun hc => absurd hc (by decide)) (fun _ => ?_)
    exact g_sub [0, 1] rfl (wX3_search_3_10 hL hz41 hN hM hC  hret  hf)

def fX3_search_3   (x17 : Nat → Int32) (x55 : Nat → Int32) (x58 : Nat → Int32)  (v2 : Int32) (x40 : Nat → Int32) (x59 : Nat → Int32)  : Option ((Nat → Int32) × (Nat → Int32)) := fX3_search_3_0 x17 x55 x58 v2 x40 x59

set_option maxHeartbeats 4000000 in
set_option maxRecDepth 100000 in
theorem c_X3_search_3 (l : Launch) {b0 : Nat} {D : GD} {n : Nat} {κ : QT} {X0 : XT} {Y0 : YT} {Z : ZT} (hL : LY n κ) (hz41 : Z 41 0 = some 42 ∧ Z 41 1 = some 46 ∧ Z 41 2 = some 50 ∧ Z 41 3 = some 54) {x17 : Nat → Int32} {x40 : Nat → Int32} {x55 : Nat → Int32} {x58 : Nat → Int32} {x59 : Nat → Int32} (hx : ([17, 40, 55, 58, 59] : List Nat).map X0 = [x17, x40, x55, x58, x59]) (hy : ([] : List Nat).map Y0 = []) {v2 : Int32} {rx40 : (Nat → Int32)} {rx59 : (Nat → Int32)} (hf : fX3_search_3 x17 x55 x58 v2 x40 x59 = some (rx40, rx59)) : gMv l yX3_search cX3_search 5 none 2 62 0 0 b0 D [.ref (b0 + 40), .int 3, .int v2] (n, κ, X0, Y0, Z) (n, κ, ov X0 [17, 40, 55, 58, 59] [x17, rx40, x55, x58, rx59], ov Y0 [] [], Z) := by
  have hN : ([17, 40, 55, 58, 59] : List Nat).Nodup := by decide
  have hM : ([] : List Nat).Nodup := by decide
  refine g_metv (own := RX3) (by decide) rfl rfl (Nat.le_of_ble_eq_true rfl) ?_
  intro K hC hret
  have e := wX3_search_3_0 hL hz41 hN hM hC  hret hf
  rw [ov_id' hx, ov_id' hy] at e
  exact g_sub [0, 1, 2] rfl e

-- X3_goOn
def fX3_goOn_2_53   (x17 : Nat → Int32) (x18 : Nat → Int32) (x50 : Nat → Int32) (x51 : Nat → Int32) (x52 : Nat → Int32) (x53 : Nat → Int32)  (v2 : Int32) (x33 : (Nat → Int32)) (x40 : (Nat → Int32)) (x54 : (Nat → Int32)) (x55 : (Nat → Int32)) (x56 : (Nat → Int32)) (x57 : (Nat → Int32)) (x58 : (Nat → Int32)) (x59 : (Nat → Int32)) : Option ((Nat → Int32) × (Nat → Int32) × (Nat → Int32) × (Nat → Int32) × (Nat → Int32) × (Nat → Int32) × (Nat → Int32) × (Nat → Int32)) := bd1 (fX9_heatOf x54 x17 x18) fun r_1 => (bd6 (fX1_melt x17 r_1 x54 x55 x56 x57 x33) fun r_3 x54_4 x55_5 x56_6 x57_7 x33_8 => (bd2 (fX3_search_3 x17 x55_5 x58 v2 x40 x59) fun x40_10 x59_11 => (some (x33_8, x40_10, x54_4, x55_5, x56_6, x57_7, x58, x59_11))))
set_option maxHeartbeats 4000000 in
set_option maxRecDepth 100000 in
theorem wX3_goOn_2_53 {l : Launch} {b0 : Nat} {D : GD} {K : KT} {n : Nat} {κ : QT} {X0 : XT} {Y0 : YT} {Z : ZT} (hL : LY n κ) (hz41 : Z 41 0 = some 42 ∧ Z 41 1 = some 46 ∧ Z 41 2 = some 50 ∧ Z 41 3 = some 54) (hN : ([17, 18, 33, 40, 50, 51, 52, 53, 54, 55, 56, 57, 58, 59] : List Nat).Nodup) (hM : ([] : List Nat).Nodup) (hC : gC l b0 D K RX3 cX3_goOn none 6 4 115 0 0) {x17 : Nat → Int32} {x18 : Nat → Int32} {x50 : Nat → Int32} {x51 : Nat → Int32} {x52 : Nat → Int32} {x53 : Nat → Int32} {rx33 : (Nat → Int32)} {rx40 : (Nat → Int32)} {rx54 : (Nat → Int32)} {rx55 : (Nat → Int32)} {rx56 : (Nat → Int32)} {rx57 : (Nat → Int32)} {rx58 : (Nat → Int32)} {rx59 : (Nat → Int32)} (hret : ∀ pc loc, decode cX3_goOn pc = .ok (.return_, 1) → gV l b0 D K (n, κ, ov X0 [17, 18, 33, 40, 50, 51, 52, 53, 54, 55, 56, 57, 58, 59] [x17, x18, rx33, rx40, x50, x51, x52, x53, rx54, rx55, rx56, rx57, rx58, rx59], ov Y0 [] [], Z, 0, 0) pc loc []) {v2 : Int32} {x33 : (Nat → Int32)} {x40 : (Nat → Int32)} {x54 : (Nat → Int32)} {x55 : (Nat → Int32)} {x56 : (Nat → Int32)} {x57 : (Nat → Int32)} {x58 : (Nat → Int32)} {x59 : (Nat → Int32)} (hf : fX3_goOn_2_53 x17 x18 x50 x51 x52 x53  v2 x33 x40 x54 x55 x56 x57 x58 x59 = some (rx33, rx40, rx54, rx55, rx56, rx57, rx58, rx59)) : gV l b0 D K (n, κ, ov X0 [17, 18, 33, 40, 50, 51, 52, 53, 54, 55, 56, 57, 58, 59] [x17, x18, x33, x40, x50, x51, x52, x53, x54, x55, x56, x57, x58, x59], ov Y0 [] [], Z, 0, 0) 53 [(0, .ref (b0 + 40)), (1, .int 2), (2, .int v2), (5, .ref (b0 + 54))] [] := by
  unfold fX3_goOn_2_53 at hf
  refine g_aload_n hC 0 dX3_goOn_53 rfl rfl ?_
  refine gt_X3_25 hC (a := 40) (kk_40 hL) (kn_40 hL) dX3_goOn_54 ?_
  refine g_ref (b := 32) rfl ?_
  refine g_aload hC 3 dX3_goOn_57 rfl ?_
  refine g_aload_n hC 0 dX3_goOn_59 rfl rfl ?_
  refine gt_X3_25 hC (a := 40) (kk_40 hL) (kn_40 hL) dX3_goOn_60 ?_
  refine g_ref (b := 32) rfl ?_
  refine gt_X3_53 hC (a := 32) (kk_32 hL) (kn_32 hL) dX3_goOn_63 ?_
  refine g_ref (b := 17) rfl ?_
  refine g_aload hC 3 dX3_goOn_66 rfl ?_
  obtain ⟨r_1, q_2, hf⟩ := bd1E hf
  refine g_callV_i (a := 17) hC (X' := ov X0 [17, 18, 33, 40, 50, 51, 52, 53, 54, 55, 56, 57, 58, 59] [x17, x18, x33, x40, x50, x51, x52, x53, x54, x55, x56, x57, x58, x59]) (Y' := ov Y0 [] []) (As := [.ref (b0 + 54)]) (gMi_eq (c_X9_heatOf l hL (kk_54 hL) (kn_54 hL) (nd_sub hN [8, 0, 1] (by decide) (by rfl)) (nd_sub hM [] (by decide) (by rfl)) (ov_map hN [8, 0, 1] (by rfl) (by rfl)) (ov_map hM [] (by rfl) (by rfl)) q_2) (ov_ovE hN (by rfl) [8, 0, 1] [2, 3, 4, 5, 6, 7, 9, 10, 11, 12, 13] (by rfl) (by rfl) [x33, x40, x50, x51, x52, x53, x55, x56, x57, x58, x59] (by rfl) (by rfl) (by rfl) 14 (by rfl) (by decide)) (ov_ovE hM (by rfl) [] [] (by rfl) (by rfl) [] (by rfl) (by rfl) (by rfl) 0 (by rfl) (by decide))) tw_806 tw_1048 tw_119 tw_804 tw_805 (ci := 9) rfl (by decide) (kk_17 hL) (kn_17 hL) pd_X9_heatOf (by decide) (by decide) rfl rfl (Nat.le_of_ble_eq_true rfl) rfl dX3_goOn_68 ?_
  obtain ⟨r_3, x54_4, x55_5, x56_6, x57_7, x33_8, q_9, hf⟩ := bd6E hf
  refine g_callV_i (a := 32) hC (X' := ov X0 [17, 18, 33, 40, 50, 51, 52, 53, 54, 55, 56, 57, 58, 59] [x17, x18, x33_8, x40, x50, x51, x52, x53, x54_4, x55_5, x56_6, x57_7, x58, x59]) (Y' := ov Y0 [] []) (As := [.ref (b0 + 54), .int r_1]) (gMi_eq (c_X1_melt l hL (kk_54 hL) (kn_54 hL) (nd_sub hN [8, 9, 10, 11, 0, 2] (by decide) (by rfl)) (nd_sub hM [] (by decide) (by rfl)) (ov_map hN [8, 9, 10, 11, 0, 2] (by rfl) (by rfl)) (ov_map hM [] (by rfl) (by rfl)) q_9) (ov_ovE hN (by rfl) [8, 9, 10, 11, 0, 2] [1, 3, 4, 5, 6, 7, 12, 13] (by rfl) (by rfl) [x18, x40, x50, x51, x52, x53, x58, x59] (by rfl) (by rfl) (by rfl) 14 (by rfl) (by decide)) (ov_ovE hM (by rfl) [] [] (by rfl) (by rfl) [] (by rfl) (by rfl) (by rfl) 0 (by rfl) (by decide))) tw_909 tw_1049 tw_123 tw_907 tw_908 (ci := 1) rfl (by decide) (kk_32 hL) (kn_32 hL) pd_X1_melt (by decide) (by decide) rfl rfl (Nat.le_of_ble_eq_true rfl) rfl dX3_goOn_71 ?_
  refine g_pop hC dX3_goOn_74 rfl ?_
  refine g_aload_n hC 0 dX3_goOn_75 rfl rfl ?_
  refine g_iload_n hC 1 dX3_goOn_76 rfl rfl ?_
  refine g_iconst hC (v := 1) dX3_goOn_77 ic_1 ?_
  refine g_iadd hC dX3_goOn_78 ?_
  refine g_topi (v := 3) (by decide) ?_
  refine g_iload_n hC 2 dX3_goOn_79 rfl rfl ?_
  obtain ⟨x40_10, x59_11, q_12, hf⟩ := bd2E hf
  refine g_callV_v (a := 40) hC (X' := ov X0 [17, 18, 33, 40, 50, 51, 52, 53, 54, 55, 56, 57, 58, 59] [x17, x18, x33_8, x40_10, x50, x51, x52, x53, x54_4, x55_5, x56_6, x57_7, x58, x59_11]) (Y' := ov Y0 [] []) (As := [.int 3, .int v2]) (gMv_eq (c_X3_search_3 l hL hz41 (ov_map hN [0, 3, 9, 12, 13] (by rfl) (by rfl)) (ov_map hM [] (by rfl) (by rfl)) q_12) (ov_ovE hN (by rfl) [0, 3, 9, 12, 13] [1, 2, 4, 5, 6, 7, 8, 10, 11] (by rfl) (by rfl) [x18, x33_8, x50, x51, x52, x53, x54_4, x56_6, x57_7] (by rfl) (by rfl) (by rfl) 14 (by rfl) (by decide)) (ov_ovE hM (by rfl) [] [] (by rfl) (by rfl) [] (by rfl) (by rfl) (by rfl) 0 (by rfl) (by decide))) tw_1033 tw_1030 tw_124 tw_1032 tw_37 (ci := 3) rfl (by decide) (kk_40 hL) (kn_40 hL) pd_X3_search (by decide) (by decide) rfl rfl (Nat.le_of_ble_eq_true rfl) rfl dX3_goOn_80 ?_
  obtain ⟨rfl, rfl, rfl, rfl, rfl, rfl, rfl, rfl⟩ := sm8E hf
  exact hret _ _ dX3_goOn_83

def fX3_goOn_2_0   (x17 : Nat → Int32) (x18 : Nat → Int32) (x50 : Nat → Int32) (x51 : Nat → Int32) (x52 : Nat → Int32) (x53 : Nat → Int32)  (v2 : Int32) (v3 : Int32) (v4 : Int32) (x33 : (Nat → Int32)) (x40 : (Nat → Int32)) (x54 : (Nat → Int32)) (x55 : (Nat → Int32)) (x56 : (Nat → Int32)) (x57 : (Nat → Int32)) (x58 : (Nat → Int32)) (x59 : (Nat → Int32)) : Option ((Nat → Int32) × (Nat → Int32) × (Nat → Int32) × (Nat → Int32) × (Nat → Int32) × (Nat → Int32) × (Nat → Int32) × (Nat → Int32)) := bd4 (fX7_copy x50 x51 x52 x53 x54 x55 x56 x57) fun x54_1 x55_2 x56_3 x57_4 => (gd (inb 2 3) (if v3 < 0 then (fX3_goOn_2_53 x17 x18 x50 x51 x52 x53  v2 x33 x40 x54_1 x55_2 x56_3 x57_4 (upd x58 (2 : Int32).toNatClampNeg (-1)) x59) else (bd2 (fX7_harden v3 v4 x54_1 x57_4) fun x54_7 x57_8 => (gd (inb 2 3) (fX3_goOn_2_53 x17 x18 x50 x51 x52 x53  v2 x33 x40 x54_7 x55_2 x56_3 x57_8 (upd (upd x58 (2 : Int32).toNatClampNeg (-1)) (2 : Int32).toNatClampNeg ((8 * v3) + v4)) x59)))))
set_option maxHeartbeats 4000000 in
set_option maxRecDepth 100000 in
theorem wX3_goOn_2_0 {l : Launch} {b0 : Nat} {D : GD} {K : KT} {n : Nat} {κ : QT} {X0 : XT} {Y0 : YT} {Z : ZT} (hL : LY n κ) (hz41 : Z 41 0 = some 42 ∧ Z 41 1 = some 46 ∧ Z 41 2 = some 50 ∧ Z 41 3 = some 54) (hN : ([17, 18, 33, 40, 50, 51, 52, 53, 54, 55, 56, 57, 58, 59] : List Nat).Nodup) (hM : ([] : List Nat).Nodup) (hC : gC l b0 D K RX3 cX3_goOn none 6 4 115 0 0) {x17 : Nat → Int32} {x18 : Nat → Int32} {x50 : Nat → Int32} {x51 : Nat → Int32} {x52 : Nat → Int32} {x53 : Nat → Int32} {rx33 : (Nat → Int32)} {rx40 : (Nat → Int32)} {rx54 : (Nat → Int32)} {rx55 : (Nat → Int32)} {rx56 : (Nat → Int32)} {rx57 : (Nat → Int32)} {rx58 : (Nat → Int32)} {rx59 : (Nat → Int32)} (hret : ∀ pc loc, decode cX3_goOn pc = .ok (.return_, 1) → gV l b0 D K (n, κ, ov X0 [17, 18, 33, 40, 50, 51, 52, 53, 54, 55, 56, 57, 58, 59] [x17, x18, rx33, rx40, x50, x51, x52, x53, rx54, rx55, rx56, rx57, rx58, rx59], ov Y0 [] [], Z, 0, 0) pc loc []) {v2 : Int32} {v3 : Int32} {v4 : Int32} {x33 : (Nat → Int32)} {x40 : (Nat → Int32)} {x54 : (Nat → Int32)} {x55 : (Nat → Int32)} {x56 : (Nat → Int32)} {x57 : (Nat → Int32)} {x58 : (Nat → Int32)} {x59 : (Nat → Int32)} (hf : fX3_goOn_2_0 x17 x18 x50 x51 x52 x53  v2 v3 v4 x33 x40 x54 x55 x56 x57 x58 x59 = some (rx33, rx40, rx54, rx55, rx56, rx57, rx58, rx59)) : gV l b0 D K (n, κ, ov X0 [17, 18, 33, 40, 50, 51, 52, 53, 54, 55, 56, 57, 58, 59] [x17, x18, x33, x40, x50, x51, x52, x53, x54, x55, x56, x57, x58, x59], ov Y0 [] [], Z, 0, 0) 0 [(0, .ref (b0 + 40)), (1, .int 2), (2, .int v2), (3, .int v3), (4, .int v4)] [] := by
  unfold fX3_goOn_2_0 at hf
  refine g_aload_n hC 0 dX3_goOn_0 rfl rfl ?_
  refine gt_X3_12 hC (a := 40) (kk_40 hL) (kn_40 hL) dX3_goOn_1 ?_
  refine g_ref (b := 41) rfl ?_
  refine g_iload_n hC 1 dX3_goOn_4 rfl rfl ?_
  refine g_iconst hC (v := 1) dX3_goOn_5 ic_1 ?_
  refine g_iadd hC dX3_goOn_6 ?_
  refine g_topi (v := 3) (by decide) ?_
  refine g_aald19 hC (L := 4) (kk_41 hL) (kn_41 hL) (inb_in (by decide)) (r := some 54) hz41.2.2.2 dX3_goOn_7 ?_
  show gV l b0 D K (n, κ, ov X0 [17, 18, 33, 40, 50, 51, 52, 53, 54, 55, 56, 57, 58, 59] [x17, x18, x33, x40, x50, x51, x52, x53, x54, x55, x56, x57, x58, x59], ov Y0 [] [], Z, 0, 0) 8 [(0, .ref (b0 + 40)), (1, .int 2), (2, .int v2), (3, .int v3), (4, .int v4)] [.ref (b0 + 54)]
  refine g_astore hC (i := 5) [(5, .ref (b0 + 54)), (0, .ref (b0 + 40)), (1, .int 2), (2, .int v2), (3, .int v3), (4, .int v4)] dX3_goOn_8 (by decide) rfl ?_
  refine g_aload hC 0 dX3_goOn_10 rfl ?_
  refine g_aload_n hC 1 dX3_goOn_12 rfl rfl ?_
  refine gt_X3_12 hC (a := 40) (kk_40 hL) (kn_40 hL) dX3_goOn_13 ?_
  refine g_ref (b := 41) rfl ?_
  refine g_iload_n hC 2 dX3_goOn_16 rfl rfl ?_
  refine g_aald19 hC (L := 4) (kk_41 hL) (kn_41 hL) (inb_in (by decide)) (r := some 50) hz41.2.2.1 dX3_goOn_17 ?_
  show gV l b0 D K (n, κ, ov X0 [17, 18, 33, 40, 50, 51, 52, 53, 54, 55, 56, 57, 58, 59] [x17, x18, x33, x40, x50, x51, x52, x53, x54, x55, x56, x57, x58, x59], ov Y0 [] [], Z, 0, 0) 18 [(5, .ref (b0 + 54)), (0, .ref (b0 + 40)), (1, .int 2), (2, .int v2), (3, .int v3), (4, .int v4)] [.ref (b0 + 50), .ref (b0 + 54)]
  obtain ⟨x54_1, x55_2, x56_3, x57_4, q_5, hf⟩ := bd4E hf
  refine g_callV_v (a := 54) hC (X' := ov X0 [17, 18, 33, 40, 50, 51, 52, 53, 54, 55, 56, 57, 58, 59] [x17, x18, x33, x40, x50, x51, x52, x53, x54_1, x55_2, x56_3, x57_4, x58, x59]) (Y' := ov Y0 [] []) (As := [.ref (b0 + 50)]) (gMv_eq (c_X7_copy l hL (kk_54 hL) (kn_54 hL) (kk_50 hL) (kn_50 hL) (nd_sub hN [8, 9, 10, 11, 4, 5, 6, 7] (by decide) (by rfl)) (nd_sub hM [] (by decide) (by rfl)) (ov_map hN [8, 9, 10, 11, 4, 5, 6, 7] (by rfl) (by rfl)) (ov_map hM [] (by rfl) (by rfl)) q_5) (ov_ovE hN (by rfl) [8, 9, 10, 11, 4, 5, 6, 7] [0, 1, 2, 3, 12, 13] (by rfl) (by rfl) [x17, x18, x33, x40, x58, x59] (by rfl) (by rfl) (by rfl) 14 (by rfl) (by decide)) (ov_ovE hM (by rfl) [] [] (by rfl) (by rfl) [] (by rfl) (by rfl) (by rfl) 0 (by rfl) (by decide))) tw_707 tw_1029 tw_120 tw_705 tw_706 (ci := 7) rfl (by decide) (kk_54 hL) (kn_54 hL) pd_X7_copy (by decide) (by decide) rfl rfl (Nat.le_of_ble_eq_true rfl) rfl dX3_goOn_18 ?_
  refine g_aload_n hC 1 dX3_goOn_21 rfl rfl ?_
  refine gt_X3_18 hC (a := 40) (kk_40 hL) (kn_40 hL) dX3_goOn_22 ?_
  refine g_ref (b := 58) rfl ?_
  refine g_iload_n hC 2 dX3_goOn_25 rfl rfl ?_
  refine g_iconst hC (v := (-1)) dX3_goOn_26 ic_m1 ?_
  obtain ⟨h_6, hf⟩ := gdE hf
  refine g_iast hC (x := x58) (kk_58 hL) (kn_58 hL) (ov_get hN 12 rfl rfl) (inb_in h_6) (ov_set hN (by rfl) 12 (by rfl)) dX3_goOn_27 ?_
  show gV l b0 D K (n, κ, ov X0 [17, 18, 33, 40, 50, 51, 52, 53, 54, 55, 56, 57, 58, 59] [x17, x18, x33, x40, x50, x51, x52, x53, x54_1, x55_2, x56_3, x57_4, (upd x58 (2 : Int32).toNatClampNeg (-1)), x59], ov Y0 [] [], Z, 0, 0) 28 [(5, .ref (b0 + 54)), (0, .ref (b0 + 40)), (1, .int 2), (2, .int v2), (3, .int v3), (4, .int v4)] []
  refine g_iload_n hC 4 dX3_goOn_28 rfl rfl ?_
  refine g_if_lt hC 53 dX3_goOn_29 (by decide) (fun hc => ?_) (fun hc => ?_)
  · replace hf := ifT hf hc
    exact g_sub [1, 2, 3, 0] rfl (wX3_goOn_2_53 hL hz41 hN hM hC  hret  hf)
  · replace hf := ifF hf hc
    refine g_aload hC 0 dX3_goOn_32 rfl ?_
    refine g_iload_n hC 4 dX3_goOn_34 rfl rfl ?_
    refine g_iload hC 5 dX3_goOn_35 rfl ?_
    obtain ⟨x54_7, x57_8, q_9, hf⟩ := bd2E hf
    refine g_callV_v (a := 54) hC (X' := ov X0 [17, 18, 33, 40, 50, 51, 52, 53, 54, 55, 56, 57, 58, 59] [x17, x18, x33, x40, x50, x51, x52, x53, x54_7, x55_2, x56_3, x57_8, (upd x58 (2 : Int32).toNatClampNeg (-1)), x59]) (Y' := ov Y0 [] []) (As := [.int v3, .int v4]) (gMv_eq (c_X7_harden l hL (kk_54 hL) (kn_54 hL) (nd_sub hN [8, 11] (by decide) (by rfl)) (nd_sub hM [] (by decide) (by rfl)) (ov_map hN [8, 11] (by rfl) (by rfl)) (ov_map hM [] (by rfl) (by rfl)) q_9) (ov_ovE hN (by rfl) [8, 11] [0, 1, 2, 3, 4, 5, 6, 7, 9, 10, 12, 13] (by rfl) (by rfl) [x17, x18, x33, x40, x50, x51, x52, x53, x55_2, x56_3, (upd x58 (2 : Int32).toNatClampNeg (-1)), x59] (by rfl) (by rfl) (by rfl) 14 (by rfl) (by decide)) (ov_ovE hM (by rfl) [] [] (by rfl) (by rfl) [] (by rfl) (by rfl) (by rfl) 0 (by rfl) (by decide))) tw_904 tw_1047 tw_120 tw_902 tw_903 (ci := 7) rfl (by decide) (kk_54 hL) (kn_54 hL) pd_X7_harden (by decide) (by decide) rfl rfl (Nat.le_of_ble_eq_true rfl) rfl dX3_goOn_37 ?_
    refine g_aload_n hC 1 dX3_goOn_40 rfl rfl ?_
    refine gt_X3_18 hC (a := 40) (kk_40 hL) (kn_40 hL) dX3_goOn_41 ?_
    refine g_ref (b := 58) rfl ?_
    refine g_iload_n hC 2 dX3_goOn_44 rfl rfl ?_
    refine g_bipush hC (v := 8) dX3_goOn_45 bp_8 ?_
    refine g_iload_n hC 4 dX3_goOn_47 rfl rfl ?_
    refine g_imul hC dX3_goOn_48 ?_
    refine g_iload hC 5 dX3_goOn_49 rfl ?_
    refine g_iadd hC dX3_goOn_51 ?_
    obtain ⟨h_10, hf⟩ := gdE hf
    refine g_iast hC (x := (upd x58 (2 : Int32).toNatClampNeg (-1))) (kk_58 hL) (kn_58 hL) (ov_get hN 12 rfl rfl) (inb_in h_10) (ov_set hN (by rfl) 12 (by rfl)) dX3_goOn_52 ?_
    show gV l b0 D K (n, κ, ov X0 [17, 18, 33, 40, 50, 51, 52, 53, 54, 55, 56, 57, 58, 59] [x17, x18, x33, x40, x50, x51, x52, x53, x54_7, x55_2, x56_3, x57_8, (upd (upd x58 (2 : Int32).toNatClampNeg (-1)) (2 : Int32).toNatClampNeg ((8 * v3) + v4)), x59], ov Y0 [] [], Z, 0, 0) 53 [(5, .ref (b0 + 54)), (0, .ref (b0 + 40)), (1, .int 2), (2, .int v2), (3, .int v3), (4, .int v4)] []
    exact g_sub [1, 2, 3, 0] rfl (wX3_goOn_2_53 hL hz41 hN hM hC  hret  hf)

def fX3_goOn_2   (x17 : Nat → Int32) (x18 : Nat → Int32) (x50 : Nat → Int32) (x51 : Nat → Int32) (x52 : Nat → Int32) (x53 : Nat → Int32)  (v2 : Int32) (v3 : Int32) (v4 : Int32) (x33 : Nat → Int32) (x40 : Nat → Int32) (x54 : Nat → Int32) (x55 : Nat → Int32) (x56 : Nat → Int32) (x57 : Nat → Int32) (x58 : Nat → Int32) (x59 : Nat → Int32)  : Option ((Nat → Int32) × (Nat → Int32) × (Nat → Int32) × (Nat → Int32) × (Nat → Int32) × (Nat → Int32) × (Nat → Int32) × (Nat → Int32)) := fX3_goOn_2_0 x17 x18 x50 x51 x52 x53 v2 v3 v4 x33 x40 x54 x55 x56 x57 x58 x59

set_option maxHeartbeats 4000000 in
set_option maxRecDepth 100000 in
theorem c_X3_goOn_2 (l : Launch) {b0 : Nat} {D : GD} {n : Nat} {κ : QT} {X0 : XT} {Y0 : YT} {Z : ZT} (hL : LY n κ) (hz41 : Z 41 0 = some 42 ∧ Z 41 1 = some 46 ∧ Z 41 2 = some 50 ∧ Z 41 3 = some 54) {x17 : Nat → Int32} {x18 : Nat → Int32} {x33 : Nat → Int32} {x40 : Nat → Int32} {x50 : Nat → Int32} {x51 : Nat → Int32} {x52 : Nat → Int32} {x53 : Nat → Int32} {x54 : Nat → Int32} {x55 : Nat → Int32} {x56 : Nat → Int32} {x57 : Nat → Int32} {x58 : Nat → Int32} {x59 : Nat → Int32} (hx : ([17, 18, 33, 40, 50, 51, 52, 53, 54, 55, 56, 57, 58, 59] : List Nat).map X0 = [x17, x18, x33, x40, x50, x51, x52, x53, x54, x55, x56, x57, x58, x59]) (hy : ([] : List Nat).map Y0 = []) {v2 : Int32} {v3 : Int32} {v4 : Int32} {rx33 : (Nat → Int32)} {rx40 : (Nat → Int32)} {rx54 : (Nat → Int32)} {rx55 : (Nat → Int32)} {rx56 : (Nat → Int32)} {rx57 : (Nat → Int32)} {rx58 : (Nat → Int32)} {rx59 : (Nat → Int32)} (hf : fX3_goOn_2 x17 x18 x50 x51 x52 x53 v2 v3 v4 x33 x40 x54 x55 x56 x57 x58 x59 = some (rx33, rx40, rx54, rx55, rx56, rx57, rx58, rx59)) : gMv l yX3_goOn cX3_goOn 6 none 4 115 0 0 b0 D [.ref (b0 + 40), .int 2, .int v2, .int v3, .int v4] (n, κ, X0, Y0, Z) (n, κ, ov X0 [17, 18, 33, 40, 50, 51, 52, 53, 54, 55, 56, 57, 58, 59] [x17, x18, rx33, rx40, x50, x51, x52, x53, rx54, rx55, rx56, rx57, rx58, rx59], ov Y0 [] [], Z) := by
  have hN : ([17, 18, 33, 40, 50, 51, 52, 53, 54, 55, 56, 57, 58, 59] : List Nat).Nodup := by decide
  have hM : ([] : List Nat).Nodup := by decide
  refine g_metv (own := RX3) (by decide) rfl rfl (Nat.le_of_ble_eq_true rfl) ?_
  intro K hC hret
  have e := wX3_goOn_2_0 hL hz41 hN hM hC  hret hf
  rw [ov_id' hx, ov_id' hy] at e
  exact g_sub [0, 1, 2, 3, 4] rfl e

-- X3_search
def fX3_search_2_97   (x17 : Nat → Int32) (x18 : Nat → Int32) (x50 : Nat → Int32) (x51 : Nat → Int32) (x52 : Nat → Int32) (x53 : Nat → Int32)  (k39 : Int32 → Int32 → (Nat → Int32) → (Nat → Int32) → (Nat → Int32) → (Nat → Int32) → (Nat → Int32) → (Nat → Int32) → (Nat → Int32) → (Nat → Int32) → Option ((Nat → Int32) × (Nat → Int32) × (Nat → Int32) × (Nat → Int32) × (Nat → Int32) × (Nat → Int32) × (Nat → Int32) × (Nat → Int32))) (k58 : Int32 → Int32 → Int32 → (Nat → Int32) → (Nat → Int32) → (Nat → Int32) → (Nat → Int32) → (Nat → Int32) → (Nat → Int32) → (Nat → Int32) → (Nat → Int32) → Option ((Nat → Int32) × (Nat → Int32) × (Nat → Int32) × (Nat → Int32) × (Nat → Int32) × (Nat → Int32) × (Nat → Int32) × (Nat → Int32))) (v2 : Int32) (v3 : Int32) (v4 : Int32) (x33 : (Nat → Int32)) (x40 : (Nat → Int32)) (x54 : (Nat → Int32)) (x55 : (Nat → Int32)) (x56 : (Nat → Int32)) (x57 : (Nat → Int32)) (x58 : (Nat → Int32)) (x59 : (Nat → Int32)) : Option ((Nat → Int32) × (Nat → Int32) × (Nat → Int32) × (Nat → Int32) × (Nat → Int32) × (Nat → Int32) × (Nat → Int32) × (Nat → Int32)) := bn (v4 + 1) fun t_1 => (k58 v2 v3 t_1 x33 x40 x54 x55 x56 x57 x58 x59)
set_option maxHeartbeats 4000000 in
set_option maxRecDepth 100000 in
theorem wX3_search_2_97 {l : Launch} {b0 : Nat} {D : GD} {K : KT} {n : Nat} {κ : QT} {X0 : XT} {Y0 : YT} {Z : ZT} (hL : LY n κ) (hz41 : Z 41 0 = some 42 ∧ Z 41 1 = some 46 ∧ Z 41 2 = some 50 ∧ Z 41 3 = some 54) (hN : ([17, 18, 33, 40, 50, 51, 52, 53, 54, 55, 56, 57, 58, 59] : List Nat).Nodup) (hM : ([] : List Nat).Nodup) (hC : gC l b0 D K RX3 cX3_search none 5 5 140 0 0) {x17 : Nat → Int32} {x18 : Nat → Int32} {x50 : Nat → Int32} {x51 : Nat → Int32} {x52 : Nat → Int32} {x53 : Nat → Int32} {rx33 : (Nat → Int32)} {rx40 : (Nat → Int32)} {rx54 : (Nat → Int32)} {rx55 : (Nat → Int32)} {rx56 : (Nat → Int32)} {rx57 : (Nat → Int32)} {rx58 : (Nat → Int32)} {rx59 : (Nat → Int32)} (hret : ∀ pc loc, decode cX3_search pc = .ok (.return_, 1) → gV l b0 D K (n, κ, ov X0 [17, 18, 33, 40, 50, 51, 52, 53, 54, 55, 56, 57, 58, 59] [x17, x18, rx33, rx40, x50, x51, x52, x53, rx54, rx55, rx56, rx57, rx58, rx59], ov Y0 [] [], Z, 0, 0) pc loc []) {k39 : Int32 → Int32 → (Nat → Int32) → (Nat → Int32) → (Nat → Int32) → (Nat → Int32) → (Nat → Int32) → (Nat → Int32) → (Nat → Int32) → (Nat → Int32) → Option ((Nat → Int32) × (Nat → Int32) × (Nat → Int32) × (Nat → Int32) × (Nat → Int32) × (Nat → Int32) × (Nat → Int32) × (Nat → Int32))} (hk39 : ∀ (v2 : Int32) (v3 : Int32) (x33 : (Nat → Int32)) (x40 : (Nat → Int32)) (x54 : (Nat → Int32)) (x55 : (Nat → Int32)) (x56 : (Nat → Int32)) (x57 : (Nat → Int32)) (x58 : (Nat → Int32)) (x59 : (Nat → Int32)), k39 v2 v3 x33 x40 x54 x55 x56 x57 x58 x59 = some (rx33, rx40, rx54, rx55, rx56, rx57, rx58, rx59) → gV l b0 D K (n, κ, ov X0 [17, 18, 33, 40, 50, 51, 52, 53, 54, 55, 56, 57, 58, 59] [x17, x18, x33, x40, x50, x51, x52, x53, x54, x55, x56, x57, x58, x59], ov Y0 [] [], Z, 0, 0) 39 [(0, .ref (b0 + 40)), (1, .int 2), (2, .int v2), (3, .int v3)] []) {k58 : Int32 → Int32 → Int32 → (Nat → Int32) → (Nat → Int32) → (Nat → Int32) → (Nat → Int32) → (Nat → Int32) → (Nat → Int32) → (Nat → Int32) → (Nat → Int32) → Option ((Nat → Int32) × (Nat → Int32) × (Nat → Int32) × (Nat → Int32) × (Nat → Int32) × (Nat → Int32) × (Nat → Int32) × (Nat → Int32))} (hk58 : ∀ (v2 : Int32) (v3 : Int32) (v4 : Int32) (x33 : (Nat → Int32)) (x40 : (Nat → Int32)) (x54 : (Nat → Int32)) (x55 : (Nat → Int32)) (x56 : (Nat → Int32)) (x57 : (Nat → Int32)) (x58 : (Nat → Int32)) (x59 : (Nat → Int32)), k58 v2 v3 v4 x33 x40 x54 x55 x56 x57 x58 x59 = some (rx33, rx40, rx54, rx55, rx56, rx57, rx58, rx59) → gV l b0 D K (n, κ, ov X0 [17, 18, 33, 40, 50, 51, 52, 53, 54, 55, 56, 57, 58, 59] [x17, x18, x33, x40, x50, x51, x52, x53, x54, x55, x56, x57, x58, x59], ov Y0 [] [], Z, 0, 0) 58 [(0, .ref (b0 + 40)), (1, .int 2), (2, .int v2), (3, .int v3), (4, .int v4)] []) {v2 : Int32} {v3 : Int32} {v4 : Int32} {x33 : (Nat → Int32)} {x40 : (Nat → Int32)} {x54 : (Nat → Int32)} {x55 : (Nat → Int32)} {x56 : (Nat → Int32)} {x57 : (Nat → Int32)} {x58 : (Nat → Int32)} {x59 : (Nat → Int32)} (hf : fX3_search_2_97 x17 x18 x50 x51 x52 x53 k39 k58 v2 v3 v4 x33 x40 x54 x55 x56 x57 x58 x59 = some (rx33, rx40, rx54, rx55, rx56, rx57, rx58, rx59)) : gV l b0 D K (n, κ, ov X0 [17, 18, 33, 40, 50, 51, 52, 53, 54, 55, 56, 57, 58, 59] [x17, x18, x33, x40, x50, x51, x52, x53, x54, x55, x56, x57, x58, x59], ov Y0 [] [], Z, 0, 0) 97 [(0, .ref (b0 + 40)), (1, .int 2), (2, .int v2), (3, .int v3), (4, .int v4)] [] := by
  unfold fX3_search_2_97 at hf
  obtain ⟨t_1, et_1, hf⟩ := bnE hf
  refine g_iinc hC (i := 4) (v := t_1) [(4, .int t_1), (0, .ref (b0 + 40)), (1, .int 2), (2, .int v2), (3, .int v3)] dX3_search_97 (q := 4) rfl ((congrArg (HAdd.hAdd v4) ic_1).trans et_1.symm) (by decide) rfl ?_
  refine g_goto hC 58 dX3_search_100 (by decide) ?_
  exact g_sub [1, 2, 3, 4, 0] rfl (hk58 v2 v3 t_1 x33 x40 x54 x55 x56 x57 x58 x59 hf)

def fX3_search_2_58b   (x17 : Nat → Int32) (x18 : Nat → Int32) (x50 : Nat → Int32) (x51 : Nat → Int32) (x52 : Nat → Int32) (x53 : Nat → Int32)  (k39 : Int32 → Int32 → (Nat → Int32) → (Nat → Int32) → (Nat → Int32) → (Nat → Int32) → (Nat → Int32) → (Nat → Int32) → (Nat → Int32) → (Nat → Int32) → Option ((Nat → Int32) × (Nat → Int32) × (Nat → Int32) × (Nat → Int32) × (Nat → Int32) × (Nat → Int32) × (Nat → Int32) × (Nat → Int32))) (k58 : Int32 → Int32 → Int32 → (Nat → Int32) → (Nat → Int32) → (Nat → Int32) → (Nat → Int32) → (Nat → Int32) → (Nat → Int32) → (Nat → Int32) → (Nat → Int32) → Option ((Nat → Int32) × (Nat → Int32) × (Nat → Int32) × (Nat → Int32) × (Nat → Int32) × (Nat → Int32) × (Nat → Int32) × (Nat → Int32))) (v2 : Int32) (v3 : Int32) (v4 : Int32) (x33 : (Nat → Int32)) (x40 : (Nat → Int32)) (x54 : (Nat → Int32)) (x55 : (Nat → Int32)) (x56 : (Nat → Int32)) (x57 : (Nat → Int32)) (x58 : (Nat → Int32)) (x59 : (Nat → Int32)) : Option ((Nat → Int32) × (Nat → Int32) × (Nat → Int32) × (Nat → Int32) × (Nat → Int32) × (Nat → Int32) × (Nat → Int32) × (Nat → Int32)) := if (x17 4) ≤ v4 then (bn (v3 + 1) fun t_1 => (k39 v2 t_1 x33 x40 x54 x55 x56 x57 x58 x59)) else (bd1 (fX7_canHarden x53 v3 v4) fun r_2 => (if r_2 = 0 then (fX3_search_2_97 x17 x18 x50 x51 x52 x53 k39 k58 v2 v3 v4 x33 x40 x54 x55 x56 x57 x58 x59) else (bd8 (fX3_goOn_2 x17 x18 x50 x51 x52 x53 v2 v3 v4 x33 x40 x54 x55 x56 x57 x58 x59) fun x33_4 x40_5 x54_6 x55_7 x56_8 x57_9 x58_10 x59_11 => (fX3_search_2_97 x17 x18 x50 x51 x52 x53 k39 k58 v2 v3 v4 x33_4 x40_5 x54_6 x55_7 x56_8 x57_9 x58_10 x59_11))))
def fX3_search_2_58   (x17 : Nat → Int32) (x18 : Nat → Int32) (x50 : Nat → Int32) (x51 : Nat → Int32) (x52 : Nat → Int32) (x53 : Nat → Int32)  (k39 : Int32 → Int32 → (Nat → Int32) → (Nat → Int32) → (Nat → Int32) → (Nat → Int32) → (Nat → Int32) → (Nat → Int32) → (Nat → Int32) → (Nat → Int32) → Option ((Nat → Int32) × (Nat → Int32) × (Nat → Int32) × (Nat → Int32) × (Nat → Int32) × (Nat → Int32) × (Nat → Int32) × (Nat → Int32))) : Int32 → Int32 → Int32 → (Nat → Int32) → (Nat → Int32) → (Nat → Int32) → (Nat → Int32) → (Nat → Int32) → (Nat → Int32) → (Nat → Int32) → (Nat → Int32) → Option ((Nat → Int32) × (Nat → Int32) × (Nat → Int32) × (Nat → Int32) × (Nat → Int32) × (Nat → Int32) × (Nat → Int32) × (Nat → Int32)) := lq11 (fX3_search_2_58b x17 x18 x50 x51 x52 x53 k39) 5000
set_option maxHeartbeats 4000000 in
set_option maxRecDepth 100000 in
theorem wX3_search_2_58 {l : Launch} {b0 : Nat} {D : GD} {K : KT} {n : Nat} {κ : QT} {X0 : XT} {Y0 : YT} {Z : ZT} (hL : LY n κ) (hz41 : Z 41 0 = some 42 ∧ Z 41 1 = some 46 ∧ Z 41 2 = some 50 ∧ Z 41 3 = some 54) (hN : ([17, 18, 33, 40, 50, 51, 52, 53, 54, 55, 56, 57, 58, 59] : List Nat).Nodup) (hM : ([] : List Nat).Nodup) (hC : gC l b0 D K RX3 cX3_search none 5 5 140 0 0) {x17 : Nat → Int32} {x18 : Nat → Int32} {x50 : Nat → Int32} {x51 : Nat → Int32} {x52 : Nat → Int32} {x53 : Nat → Int32} {rx33 : (Nat → Int32)} {rx40 : (Nat → Int32)} {rx54 : (Nat → Int32)} {rx55 : (Nat → Int32)} {rx56 : (Nat → Int32)} {rx57 : (Nat → Int32)} {rx58 : (Nat → Int32)} {rx59 : (Nat → Int32)} (hret : ∀ pc loc, decode cX3_search pc = .ok (.return_, 1) → gV l b0 D K (n, κ, ov X0 [17, 18, 33, 40, 50, 51, 52, 53, 54, 55, 56, 57, 58, 59] [x17, x18, rx33, rx40, x50, x51, x52, x53, rx54, rx55, rx56, rx57, rx58, rx59], ov Y0 [] [], Z, 0, 0) pc loc []) {k39 : Int32 → Int32 → (Nat → Int32) → (Nat → Int32) → (Nat → Int32) → (Nat → Int32) → (Nat → Int32) → (Nat → Int32) → (Nat → Int32) → (Nat → Int32) → Option ((Nat → Int32) × (Nat → Int32) × (Nat → Int32) × (Nat → Int32) × (Nat → Int32) × (Nat → Int32) × (Nat → Int32) × (Nat → Int32))} (hk39 : ∀ (v2 : Int32) (v3 : Int32) (x33 : (Nat → Int32)) (x40 : (Nat → Int32)) (x54 : (Nat → Int32)) (x55 : (Nat → Int32)) (x56 : (Nat → Int32)) (x57 : (Nat → Int32)) (x58 : (Nat → Int32)) (x59 : (Nat → Int32)), k39 v2 v3 x33 x40 x54 x55 x56 x57 x58 x59 = some (rx33, rx40, rx54, rx55, rx56, rx57, rx58, rx59) → gV l b0 D K (n, κ, ov X0 [17, 18, 33, 40, 50, 51, 52, 53, 54, 55, 56, 57, 58, 59] [x17, x18, x33, x40, x50, x51, x52, x53, x54, x55, x56, x57, x58, x59], ov Y0 [] [], Z, 0, 0) 39 [(0, .ref (b0 + 40)), (1, .int 2), (2, .int v2), (3, .int v3)] []) : ∀ (j : Nat) (v2 : Int32) (v3 : Int32) (v4 : Int32) (x33 : (Nat → Int32)) (x40 : (Nat → Int32)) (x54 : (Nat → Int32)) (x55 : (Nat → Int32)) (x56 : (Nat → Int32)) (x57 : (Nat → Int32)) (x58 : (Nat → Int32)) (x59 : (Nat → Int32)), lq11 (fX3_search_2_58b x17 x18 x50 x51 x52 x53 k39) j v2 v3 v4 x33 x40 x54 x55 x56 x57 x58 x59 = some (rx33, rx40, rx54, rx55, rx56, rx57, rx58, rx59) → gV l b0 D K (n, κ, ov X0 [17, 18, 33, 40, 50, 51, 52, 53, 54, 55, 56, 57, 58, 59] [x17, x18, x33, x40, x50, x51, x52, x53, x54, x55, x56, x57, x58, x59], ov Y0 [] [], Z, 0, 0) 58 [(0, .ref (b0 + 40)), (1, .int 2), (2, .int v2), (3, .int v3), (4, .int v4)] [] := by
  intro j
  induction j with
  | zero => intro v2 v3 v4 x33 x40 x54 x55 x56 x57 x58 x59 hf; cases hf
  | succ j hk58 =>
    intro v2 v3 v4 x33 x40 x54 x55 x56 x57 x58 x59 hf
    replace hf : fX3_search_2_58b x17 x18 x50 x51 x52 x53 k39 (lq11 (fX3_search_2_58b x17 x18 x50 x51 x52 x53 k39) j) v2 v3 v4 x33 x40 x54 x55 x56 x57 x58 x59 = some (rx33, rx40, rx54, rx55, rx56, rx57, rx58, rx59) := hf
    unfold fX3_search_2_58b at hf
    refine g_iload hC 4 dX3_search_58 rfl ?_
    refine g_aload_n hC 0 dX3_search_60 rfl rfl ?_
    refine gt_X3_25 hC (a := 40) (kk_40 hL) (kn_40 hL) dX3_search_61 ?_
    refine g_ref (b := 32) rfl ?_
    refine gt_X3_53 hC (a := 32) (kk_32 hL) (kn_32 hL) dX3_search_64 ?_
    refine g_ref (b := 17) rfl ?_
    refine gt_X3_59 hC (x := x17) (kk_17 hL) (kn_17 hL) (ov_get hN 0 rfl rfl) dX3_search_67 ?_
    refine g_icmp_ge hC 103 dX3_search_70 (by decide) (fun hc => ?_) (fun hc => ?_)
    · replace hf := ifT hf hc
      obtain ⟨t_1, et_1, hf⟩ := bnE hf
      refine g_iinc hC (i := 3) (v := t_1) [(3, .int t_1), (0, .ref (b0 + 40)), (1, .int 2), (2, .int v2), (4, .int v4)] dX3_search_103 (q := 3) rfl ((congrArg (HAdd.hAdd v3) ic_1).trans et_1.symm) (by decide) rfl ?_
      refine g_goto hC 39 dX3_search_106 (by decide) ?_
      exact g_sub [1, 2, 3, 0] rfl (hk39 v2 t_1 x33 x40 x54 x55 x56 x57 x58 x59 hf)
    · replace hf := ifF hf hc
      refine g_aload_n hC 0 dX3_search_73 rfl rfl ?_
      refine gt_X3_12 hC (a := 40) (kk_40 hL) (kn_40 hL) dX3_search_74 ?_
      refine g_ref (b := 41) rfl ?_
      refine g_iload_n hC 1 dX3_search_77 rfl rfl ?_
      refine g_aald19 hC (L := 4) (kk_41 hL) (kn_41 hL) (inb_in (by decide)) (r := some 50) hz41.2.2.1 dX3_search_78 ?_
      show gV l b0 D K (n, κ, ov X0 [17, 18, 33, 40, 50, 51, 52, 53, 54, 55, 56, 57, 58, 59] [x17, x18, x33, x40, x50, x51, x52, x53, x54, x55, x56, x57, x58, x59], ov Y0 [] [], Z, 0, 0) 79 [(0, .ref (b0 + 40)), (1, .int 2), (2, .int v2), (3, .int v3), (4, .int v4)] [.ref (b0 + 50)]
      refine g_iload_n hC 3 dX3_search_79 rfl rfl ?_
      refine g_iload hC 4 dX3_search_80 rfl ?_
      obtain ⟨r_2, q_3, hf⟩ := bd1E hf
      refine g_callV_i (a := 50) hC (X' := ov X0 [17, 18, 33, 40, 50, 51, 52, 53, 54, 55, 56, 57, 58, 59] [x17, x18, x33, x40, x50, x51, x52, x53, x54, x55, x56, x57, x58, x59]) (Y' := ov Y0 [] []) (As := [.int v3, .int v4]) (gMi_eq (c_X7_canHarden l hL (kk_50 hL) (kn_50 hL) (nd_sub hN [7] (by decide) (by rfl)) (nd_sub hM [] (by decide) (by rfl)) (ov_map hN [7] (by rfl) (by rfl)) (ov_map hM [] (by rfl) (by rfl)) q_3) (ov_ovE hN (by rfl) [7] [0, 1, 2, 3, 4, 5, 6, 8, 9, 10, 11, 12, 13] (by rfl) (by rfl) [x17, x18, x33, x40, x50, x51, x52, x54, x55, x56, x57, x58, x59] (by rfl) (by rfl) (by rfl) 14 (by rfl) (by decide)) (ov_ovE hM (by rfl) [] [] (by rfl) (by rfl) [] (by rfl) (by rfl) (by rfl) 0 (by rfl) (by decide))) tw_882 tw_1050 tw_120 tw_880 tw_881 (ci := 7) rfl (by decide) (kk_50 hL) (kn_50 hL) pd_X7_canHarden (by decide) (by decide) rfl rfl (Nat.le_of_ble_eq_true rfl) rfl dX3_search_82 ?_
      refine g_if_eq hC 97 dX3_search_85 (by decide) (fun hc => ?_) (fun hc => ?_)
      · replace hf := ifT hf hc
        exact g_sub [0, 1, 2, 3, 4] rfl (wX3_search_2_97 hL hz41 hN hM hC  hret hk39 hk58 hf)
      · replace hf := ifF hf hc
        refine g_aload_n hC 0 dX3_search_88 rfl rfl ?_
        refine g_iload_n hC 1 dX3_search_89 rfl rfl ?_
        refine g_iload_n hC 2 dX3_search_90 rfl rfl ?_
        refine g_iload_n hC 3 dX3_search_91 rfl rfl ?_
        refine g_iload hC 4 dX3_search_92 rfl ?_
        obtain ⟨x33_4, x40_5, x54_6, x55_7, x56_8, x57_9, x58_10, x59_11, q_12, hf⟩ := bd8E hf
        refine g_callV_v (a := 40) hC (X' := ov X0 [17, 18, 33, 40, 50, 51, 52, 53, 54, 55, 56, 57, 58, 59] [x17, x18, x33_4, x40_5, x50, x51, x52, x53, x54_6, x55_7, x56_8, x57_9, x58_10, x59_11]) (Y' := ov Y0 [] []) (As := [.int 2, .int v2, .int v3, .int v4]) (gMv_eq (c_X3_goOn_2 l hL hz41 (ov_map hN [0, 1, 2, 3, 4, 5, 6, 7, 8, 9, 10, 11, 12, 13] (by rfl) (by rfl)) (ov_map hM [] (by rfl) (by rfl)) q_12) (ov_ovE hN (by rfl) [0, 1, 2, 3, 4, 5, 6, 7, 8, 9, 10, 11, 12, 13] [] (by rfl) (by rfl) [] (by rfl) (by rfl) (by rfl) 14 (by rfl) (by decide)) (ov_ovE hM (by rfl) [] [] (by rfl) (by rfl) [] (by rfl) (by rfl) (by rfl) 0 (by rfl) (by decide))) tw_1046 tw_1043 tw_124 tw_1045 tw_39 (ci := 3) rfl (by decide) (kk_40 hL) (kn_40 hL) pd_X3_goOn (by decide) (by decide) rfl rfl (Nat.le_of_ble_eq_true rfl) rfl dX3_search_94 ?_
        exact g_sub [0, 1, 2, 3, 4] rfl (wX3_search_2_97 hL hz41 hN hM hC  hret hk39 hk58 hf)

def fX3_search_2_39b   (x17 : Nat → Int32) (x18 : Nat → Int32) (x50 : Nat → Int32) (x51 : Nat → Int32) (x52 : Nat → Int32) (x53 : Nat → Int32)  (k39 : Int32 → Int32 → (Nat → Int32) → (Nat → Int32) → (Nat → Int32) → (Nat → Int32) → (Nat → Int32) → (Nat → Int32) → (Nat → Int32) → (Nat → Int32) → Option ((Nat → Int32) × (Nat → Int32) × (Nat → Int32) × (Nat → Int32) × (Nat → Int32) × (Nat → Int32) × (Nat → Int32) × (Nat → Int32))) (v2 : Int32) (v3 : Int32) (x33 : (Nat → Int32)) (x40 : (Nat → Int32)) (x54 : (Nat → Int32)) (x55 : (Nat → Int32)) (x56 : (Nat → Int32)) (x57 : (Nat → Int32)) (x58 : (Nat → Int32)) (x59 : (Nat → Int32)) : Option ((Nat → Int32) × (Nat → Int32) × (Nat → Int32) × (Nat → Int32) × (Nat → Int32) × (Nat → Int32) × (Nat → Int32) × (Nat → Int32)) := if (x17 4) ≤ v3 then (some (x33, x40, x54, x55, x56, x57, x58, x59)) else (bn (v3 + 1) fun t_1 => (fX3_search_2_58 x17 x18 x50 x51 x52 x53 k39 v2 v3 t_1 x33 x40 x54 x55 x56 x57 x58 x59))
def fX3_search_2_39   (x17 : Nat → Int32) (x18 : Nat → Int32) (x50 : Nat → Int32) (x51 : Nat → Int32) (x52 : Nat → Int32) (x53 : Nat → Int32)  : Int32 → Int32 → (Nat → Int32) → (Nat → Int32) → (Nat → Int32) → (Nat → Int32) → (Nat → Int32) → (Nat → Int32) → (Nat → Int32) → (Nat → Int32) → Option ((Nat → Int32) × (Nat → Int32) × (Nat → Int32) × (Nat → Int32) × (Nat → Int32) × (Nat → Int32) × (Nat → Int32) × (Nat → Int32)) := lq10 (fX3_search_2_39b x17 x18 x50 x51 x52 x53 ) 5000
set_option maxHeartbeats 4000000 in
set_option maxRecDepth 100000 in
theorem wX3_search_2_39 {l : Launch} {b0 : Nat} {D : GD} {K : KT} {n : Nat} {κ : QT} {X0 : XT} {Y0 : YT} {Z : ZT} (hL : LY n κ) (hz41 : Z 41 0 = some 42 ∧ Z 41 1 = some 46 ∧ Z 41 2 = some 50 ∧ Z 41 3 = some 54) (hN : ([17, 18, 33, 40, 50, 51, 52, 53, 54, 55, 56, 57, 58, 59] : List Nat).Nodup) (hM : ([] : List Nat).Nodup) (hC : gC l b0 D K RX3 cX3_search none 5 5 140 0 0) {x17 : Nat → Int32} {x18 : Nat → Int32} {x50 : Nat → Int32} {x51 : Nat → Int32} {x52 : Nat → Int32} {x53 : Nat → Int32} {rx33 : (Nat → Int32)} {rx40 : (Nat → Int32)} {rx54 : (Nat → Int32)} {rx55 : (Nat → Int32)} {rx56 : (Nat → Int32)} {rx57 : (Nat → Int32)} {rx58 : (Nat → Int32)} {rx59 : (Nat → Int32)} (hret : ∀ pc loc, decode cX3_search pc = .ok (.return_, 1) → gV l b0 D K (n, κ, ov X0 [17, 18, 33, 40, 50, 51, 52, 53, 54, 55, 56, 57, 58, 59] [x17, x18, rx33, rx40, x50, x51, x52, x53, rx54, rx55, rx56, rx57, rx58, rx59], ov Y0 [] [], Z, 0, 0) pc loc []) : ∀ (j : Nat) (v2 : Int32) (v3 : Int32) (x33 : (Nat → Int32)) (x40 : (Nat → Int32)) (x54 : (Nat → Int32)) (x55 : (Nat → Int32)) (x56 : (Nat → Int32)) (x57 : (Nat → Int32)) (x58 : (Nat → Int32)) (x59 : (Nat → Int32)), lq10 (fX3_search_2_39b x17 x18 x50 x51 x52 x53 ) j v2 v3 x33 x40 x54 x55 x56 x57 x58 x59 = some (rx33, rx40, rx54, rx55, rx56, rx57, rx58, rx59) → gV l b0 D K (n, κ, ov X0 [17, 18, 33, 40, 50, 51, 52, 53, 54, 55, 56, 57, 58, 59] [x17, x18, x33, x40, x50, x51, x52, x53, x54, x55, x56, x57, x58, x59], ov Y0 [] [], Z, 0, 0) 39 [(0, .ref (b0 + 40)), (1, .int 2), (2, .int v2), (3, .int v3)] [] := by
  intro j
  induction j with
  | zero => intro v2 v3 x33 x40 x54 x55 x56 x57 x58 x59 hf; cases hf
  | succ j hk39 =>
    intro v2 v3 x33 x40 x54 x55 x56 x57 x58 x59 hf
    replace hf : fX3_search_2_39b x17 x18 x50 x51 x52 x53  (lq10 (fX3_search_2_39b x17 x18 x50 x51 x52 x53 ) j) v2 v3 x33 x40 x54 x55 x56 x57 x58 x59 = some (rx33, rx40, rx54, rx55, rx56, rx57, rx58, rx59) := hf
    unfold fX3_search_2_39b at hf
    refine g_iload_n hC 3 dX3_search_39 rfl rfl ?_
    refine g_aload_n hC 0 dX3_search_40 rfl rfl ?_
    refine gt_X3_25 hC (a := 40) (kk_40 hL) (kn_40 hL) dX3_search_41 ?_
    refine g_ref (b := 32) rfl ?_
    refine gt_X3_53 hC (a := 32) (kk_32 hL) (kn_32 hL) dX3_search_44 ?_
    refine g_ref (b := 17) rfl ?_
    refine gt_X3_59 hC (x := x17) (kk_17 hL) (kn_17 hL) (ov_get hN 0 rfl rfl) dX3_search_47 ?_
    refine g_icmp_ge hC 109 dX3_search_50 (by decide) (fun hc => ?_) (fun hc => ?_)
    · replace hf := ifT hf hc
      obtain ⟨rfl, rfl, rfl, rfl, rfl, rfl, rfl, rfl⟩ := sm8E hf
      exact hret _ _ dX3_search_109
    · replace hf := ifF hf hc
      refine g_iload_n hC 3 dX3_search_53 rfl rfl ?_
      refine g_iconst hC (v := 1) dX3_search_54 ic_1 ?_
      refine g_iadd hC dX3_search_55 ?_
      obtain ⟨t_1, et_1, hf⟩ := bnE hf
      refine g_topi et_1 ?_
      refine g_istore hC (i := 4) [(4, .int t_1), (0, .ref (b0 + 40)), (1, .int 2), (2, .int v2), (3, .int v3)] dX3_search_56 (by decide) rfl ?_
      exact g_sub [1, 2, 3, 4, 0] rfl (wX3_search_2_58 hL hz41 hN hM hC  hret hk39 5000 v2 v3 t_1 x33 x40 x54 x55 x56 x57 x58 x59 hf)

def fX3_search_2_0   (x17 : Nat → Int32) (x18 : Nat → Int32) (x50 : Nat → Int32) (x51 : Nat → Int32) (x52 : Nat → Int32) (x53 : Nat → Int32)  (v2 : Int32) (x33 : (Nat → Int32)) (x40 : (Nat → Int32)) (x54 : (Nat → Int32)) (x55 : (Nat → Int32)) (x56 : (Nat → Int32)) (x57 : (Nat → Int32)) (x58 : (Nat → Int32)) (x59 : (Nat → Int32)) : Option ((Nat → Int32) × (Nat → Int32) × (Nat → Int32) × (Nat → Int32) × (Nat → Int32) × (Nat → Int32) × (Nat → Int32) × (Nat → Int32)) := if v2 ≤ 2 then (bd2 (fX3_keepIfBetter_2 x17 x51 x58 x40 x59) fun x40_1 x59_2 => (some (x33, x40_1, x54, x55, x56, x57, x58, x59_2))) else (bd8 (fX3_goOn_2 x17 x18 x50 x51 x52 x53 v2 (-1) (-1) x33 x40 x54 x55 x56 x57 x58 x59) fun x33_4 x40_5 x54_6 x55_7 x56_8 x57_9 x58_10 x59_11 => (if 0 < (x50 1) then (fX3_search_2_39 x17 x18 x50 x51 x52 x53  v2 0 x33_4 x40_5 x54_6 x55_7 x56_8 x57_9 x58_10 x59_11) else (some (x33_4, x40_5, x54_6, x55_7, x56_8, x57_9, x58_10, x59_11))))
set_option maxHeartbeats 4000000 in
set_option maxRecDepth 100000 in
theorem wX3_search_2_0 {l : Launch} {b0 : Nat} {D : GD} {K : KT} {n : Nat} {κ : QT} {X0 : XT} {Y0 : YT} {Z : ZT} (hL : LY n κ) (hz41 : Z 41 0 = some 42 ∧ Z 41 1 = some 46 ∧ Z 41 2 = some 50 ∧ Z 41 3 = some 54) (hN : ([17, 18, 33, 40, 50, 51, 52, 53, 54, 55, 56, 57, 58, 59] : List Nat).Nodup) (hM : ([] : List Nat).Nodup) (hC : gC l b0 D K RX3 cX3_search none 5 5 140 0 0) {x17 : Nat → Int32} {x18 : Nat → Int32} {x50 : Nat → Int32} {x51 : Nat → Int32} {x52 : Nat → Int32} {x53 : Nat → Int32} {rx33 : (Nat → Int32)} {rx40 : (Nat → Int32)} {rx54 : (Nat → Int32)} {rx55 : (Nat → Int32)} {rx56 : (Nat → Int32)} {rx57 : (Nat → Int32)} {rx58 : (Nat → Int32)} {rx59 : (Nat → Int32)} (hret : ∀ pc loc, decode cX3_search pc = .ok (.return_, 1) → gV l b0 D K (n, κ, ov X0 [17, 18, 33, 40, 50, 51, 52, 53, 54, 55, 56, 57, 58, 59] [x17, x18, rx33, rx40, x50, x51, x52, x53, rx54, rx55, rx56, rx57, rx58, rx59], ov Y0 [] [], Z, 0, 0) pc loc []) {v2 : Int32} {x33 : (Nat → Int32)} {x40 : (Nat → Int32)} {x54 : (Nat → Int32)} {x55 : (Nat → Int32)} {x56 : (Nat → Int32)} {x57 : (Nat → Int32)} {x58 : (Nat → Int32)} {x59 : (Nat → Int32)} (hf : fX3_search_2_0 x17 x18 x50 x51 x52 x53  v2 x33 x40 x54 x55 x56 x57 x58 x59 = some (rx33, rx40, rx54, rx55, rx56, rx57, rx58, rx59)) : gV l b0 D K (n, κ, ov X0 [17, 18, 33, 40, 50, 51, 52, 53, 54, 55, 56, 57, 58, 59] [x17, x18, x33, x40, x50, x51, x52, x53, x54, x55, x56, x57, x58, x59], ov Y0 [] [], Z, 0, 0) 0 [(0, .ref (b0 + 40)), (1, .int 2), (2, .int v2)] [] := by
  unfold fX3_search_2_0 at hf
  refine g_iload_n hC 1 dX3_search_0 rfl rfl ?_
  refine g_iload_n hC 2 dX3_search_1 rfl rfl ?_
  refine g_icmp_ge hC 10 dX3_search_2 (by decide) (fun hc => ?_) (fun hc => ?_)
  · replace hf := ifT hf hc
    refine g_aload_n hC 0 dX3_search_10 rfl rfl ?_
    refine g_iload_n hC 1 dX3_search_11 rfl rfl ?_
    obtain ⟨x40_1, x59_2, q_3, hf⟩ := bd2E hf
    refine g_callV_v (a := 40) hC (X' := ov X0 [17, 18, 33, 40, 50, 51, 52, 53, 54, 55, 56, 57, 58, 59] [x17, x18, x33, x40_1, x50, x51, x52, x53, x54, x55, x56, x57, x58, x59_2]) (Y' := ov Y0 [] []) (As := [.int 2]) (gMv_eq (c_X3_keepIfBetter_2 l hL hz41 (ov_map hN [0, 3, 5, 12, 13] (by rfl) (by rfl)) (ov_map hM [] (by rfl) (by rfl)) q_3) (ov_ovE hN (by rfl) [0, 3, 5, 12, 13] [1, 2, 4, 6, 7, 8, 9, 10, 11] (by rfl) (by rfl) [x18, x33, x50, x52, x53, x54, x55, x56, x57] (by rfl) (by rfl) (by rfl) 14 (by rfl) (by decide)) (ov_ovE hM (by rfl) [] [] (by rfl) (by rfl) [] (by rfl) (by rfl) (by rfl) 0 (by rfl) (by decide))) tw_1037 tw_1034 tw_124 tw_1036 tw_38 (ci := 3) rfl (by decide) (kk_40 hL) (kn_40 hL) pd_X3_keepIfBetter (by decide) (by decide) rfl rfl (Nat.le_of_ble_eq_true rfl) rfl dX3_search_12 ?_
    obtain ⟨rfl, rfl, rfl, rfl, rfl, rfl, rfl, rfl⟩ := sm8E hf
    exact hret _ _ dX3_search_15
  · replace hf := ifF hf hc
    refine g_iload_n hC 1 dX3_search_5 rfl rfl ?_
    refine g_iconst hC (v := 3) dX3_search_6 ic_3 ?_
    refine g_icmp_lt hC 16 dX3_search_7 (by decide) (fun _ => ?_) (fun hc => absurd (by decide) hc)
    refine g_aload_n hC 0 dX3_search_16 rfl rfl ?_
    refine g_iload_n hC 1 dX3_search_17 rfl rfl ?_
    refine g_iload_n hC 2 dX3_search_18 rfl rfl ?_
    refine g_iconst hC (v := (-1)) dX3_search_19 ic_m1 ?_
    refine g_iconst hC (v := (-1)) dX3_search_20 ic_m1 ?_
    obtain ⟨x33_4, x40_5, x54_6, x55_7, x56_8, x57_9, x58_10, x59_11, q_12, hf⟩ := bd8E hf
    refine g_callV_v (a := 40) hC (X' := ov X0 [17, 18, 33, 40, 50, 51, 52, 53, 54, 55, 56, 57, 58, 59] [x17, x18, x33_4, x40_5, x50, x51, x52, x53, x54_6, x55_7, x56_8, x57_9, x58_10, x59_11]) (Y' := ov Y0 [] []) (As := [.int 2, .int v2, .int (-1), .int (-1)]) (gMv_eq (c_X3_goOn_2 l hL hz41 (ov_map hN [0, 1, 2, 3, 4, 5, 6, 7, 8, 9, 10, 11, 12, 13] (by rfl) (by rfl)) (ov_map hM [] (by rfl) (by rfl)) q_12) (ov_ovE hN (by rfl) [0, 1, 2, 3, 4, 5, 6, 7, 8, 9, 10, 11, 12, 13] [] (by rfl) (by rfl) [] (by rfl) (by rfl) (by rfl) 14 (by rfl) (by decide)) (ov_ovE hM (by rfl) [] [] (by rfl) (by rfl) [] (by rfl) (by rfl) (by rfl) 0 (by rfl) (by decide))) tw_1046 tw_1043 tw_124 tw_1045 tw_39 (ci := 3) rfl (by decide) (kk_40 hL) (kn_40 hL) pd_X3_goOn (by decide) (by decide) rfl rfl (Nat.le_of_ble_eq_true rfl) rfl dX3_search_21 ?_
    refine g_aload_n hC 0 dX3_search_24 rfl rfl ?_
    refine gt_X3_12 hC (a := 40) (kk_40 hL) (kn_40 hL) dX3_search_25 ?_
    refine g_ref (b := 41) rfl ?_
    refine g_iload_n hC 1 dX3_search_28 rfl rfl ?_
    refine g_aald19 hC (L := 4) (kk_41 hL) (kn_41 hL) (inb_in (by decide)) (r := some 50) hz41.2.2.1 dX3_search_29 ?_
    show gV l b0 D K (n, κ, ov X0 [17, 18, 33, 40, 50, 51, 52, 53, 54, 55, 56, 57, 58, 59] [x17, x18, x33_4, x40_5, x50, x51, x52, x53, x54_6, x55_7, x56_8, x57_9, x58_10, x59_11], ov Y0 [] [], Z, 0, 0) 30 [(0, .ref (b0 + 40)), (1, .int 2), (2, .int v2)] [.ref (b0 + 50)]
    refine gt_X3_50 hC (x := x50) (kk_50 hL) (kn_50 hL) (ov_get hN 4 rfl rfl) dX3_search_30 ?_
    refine g_if_gt hC 37 dX3_search_33 (by decide) (fun hc => ?_) (fun hc => ?_)
    · replace hf := ifT hf hc
      refine g_iconst hC (v := 0) dX3_search_37 ic_0 ?_
      refine g_istore_n hC (i := 3) [(3, .int 0), (0, .ref (b0 + 40)), (1, .int 2), (2, .int v2)] rfl dX3_search_38 (by decide) rfl ?_
      exact g_sub [1, 2, 3, 0] rfl (wX3_search_2_39 hL hz41 hN hM hC  hret  5000 v2 0 x33_4 x40_5 x54_6 x55_7 x56_8 x57_9 x58_10 x59_11 hf)
    · replace hf := ifF hf hc
      obtain ⟨rfl, rfl, rfl, rfl, rfl, rfl, rfl, rfl⟩ := sm8E hf
      exact hret _ _ dX3_search_36

def fX3_search_2   (x17 : Nat → Int32) (x18 : Nat → Int32) (x50 : Nat → Int32) (x51 : Nat → Int32) (x52 : Nat → Int32) (x53 : Nat → Int32)  (v2 : Int32) (x33 : Nat → Int32) (x40 : Nat → Int32) (x54 : Nat → Int32) (x55 : Nat → Int32) (x56 : Nat → Int32) (x57 : Nat → Int32) (x58 : Nat → Int32) (x59 : Nat → Int32)  : Option ((Nat → Int32) × (Nat → Int32) × (Nat → Int32) × (Nat → Int32) × (Nat → Int32) × (Nat → Int32) × (Nat → Int32) × (Nat → Int32)) := fX3_search_2_0 x17 x18 x50 x51 x52 x53 v2 x33 x40 x54 x55 x56 x57 x58 x59

set_option maxHeartbeats 4000000 in
set_option maxRecDepth 100000 in
theorem c_X3_search_2 (l : Launch) {b0 : Nat} {D : GD} {n : Nat} {κ : QT} {X0 : XT} {Y0 : YT} {Z : ZT} (hL : LY n κ) (hz41 : Z 41 0 = some 42 ∧ Z 41 1 = some 46 ∧ Z 41 2 = some 50 ∧ Z 41 3 = some 54) {x17 : Nat → Int32} {x18 : Nat → Int32} {x33 : Nat → Int32} {x40 : Nat → Int32} {x50 : Nat → Int32} {x51 : Nat → Int32} {x52 : Nat → Int32} {x53 : Nat → Int32} {x54 : Nat → Int32} {x55 : Nat → Int32} {x56 : Nat → Int32} {x57 : Nat → Int32} {x58 : Nat → Int32} {x59 : Nat → Int32} (hx : ([17, 18, 33, 40, 50, 51, 52, 53, 54, 55, 56, 57, 58, 59] : List Nat).map X0 = [x17, x18, x33, x40, x50, x51, x52, x53, x54, x55, x56, x57, x58, x59]) (hy : ([] : List Nat).map Y0 = []) {v2 : Int32} {rx33 : (Nat → Int32)} {rx40 : (Nat → Int32)} {rx54 : (Nat → Int32)} {rx55 : (Nat → Int32)} {rx56 : (Nat → Int32)} {rx57 : (Nat → Int32)} {rx58 : (Nat → Int32)} {rx59 : (Nat → Int32)} (hf : fX3_search_2 x17 x18 x50 x51 x52 x53 v2 x33 x40 x54 x55 x56 x57 x58 x59 = some (rx33, rx40, rx54, rx55, rx56, rx57, rx58, rx59)) : gMv l yX3_search cX3_search 5 none 5 140 0 0 b0 D [.ref (b0 + 40), .int 2, .int v2] (n, κ, X0, Y0, Z) (n, κ, ov X0 [17, 18, 33, 40, 50, 51, 52, 53, 54, 55, 56, 57, 58, 59] [x17, x18, rx33, rx40, x50, x51, x52, x53, rx54, rx55, rx56, rx57, rx58, rx59], ov Y0 [] [], Z) := by
  have hN : ([17, 18, 33, 40, 50, 51, 52, 53, 54, 55, 56, 57, 58, 59] : List Nat).Nodup := by decide
  have hM : ([] : List Nat).Nodup := by decide
  refine g_metv (own := RX3) (by decide) rfl rfl (Nat.le_of_ble_eq_true rfl) ?_
  intro K hC hret
  have e := wX3_search_2_0 hL hz41 hN hM hC  hret hf
  rw [ov_id' hx, ov_id' hy] at e
  exact g_sub [0, 1, 2] rfl e

-- X3_goOn
def fX3_goOn_1_53   (x17 : Nat → Int32) (x18 : Nat → Int32) (x46 : Nat → Int32) (x47 : Nat → Int32) (x48 : Nat → Int32) (x49 : Nat → Int32)  (v2 : Int32) (x33 : (Nat → Int32)) (x40 : (Nat → Int32)) (x50 : (Nat → Int32)) (x51 : (Nat → Int32)) (x52 : (Nat → Int32)) (x53 : (Nat → Int32)) (x54 : (Nat → Int32)) (x55 : (Nat → Int32)) (x56 : (Nat → Int32)) (x57 : (Nat → Int32)) (x58 : (Nat → Int32)) (x59 : (Nat → Int32)) : Option ((Nat → Int32) × (Nat → Int32) × (Nat → Int32) × (Nat → Int32) × (Nat → Int32) × (Nat → Int32) × (Nat → Int32) × (Nat → Int32) × (Nat → Int32) × (Nat → Int32) × (Nat → Int32) × (Nat → Int32)) := bd1 (fX9_heatOf x50 x17 x18) fun r_1 => (bd6 (fX1_melt x17 r_1 x50 x51 x52 x53 x33) fun r_3 x50_4 x51_5 x52_6 x53_7 x33_8 => (bd8 (fX3_search_2 x17 x18 x50_4 x51_5 x52_6 x53_7 v2 x33_8 x40 x54 x55 x56 x57 x58 x59) fun x33_10 x40_11 x54_12 x55_13 x56_14 x57_15 x58_16 x59_17 => (some (x33_10, x40_11, x50_4, x51_5, x52_6, x53_7, x54_12, x55_13, x56_14, x57_15, x58_16, x59_17))))
set_option maxHeartbeats 4000000 in
set_option maxRecDepth 100000 in
theorem wX3_goOn_1_53 {l : Launch} {b0 : Nat} {D : GD} {K : KT} {n : Nat} {κ : QT} {X0 : XT} {Y0 : YT} {Z : ZT} (hL : LY n κ) (hz41 : Z 41 0 = some 42 ∧ Z 41 1 = some 46 ∧ Z 41 2 = some 50 ∧ Z 41 3 = some 54) (hN : ([17, 18, 33, 40, 46, 47, 48, 49, 50, 51, 52, 53, 54, 55, 56, 57, 58, 59] : List Nat).Nodup) (hM : ([] : List Nat).Nodup) (hC : gC l b0 D K RX3 cX3_goOn none 6 6 164 0 0) {x17 : Nat → Int32} {x18 : Nat → Int32} {x46 : Nat → Int32} {x47 : Nat → Int32} {x48 : Nat → Int32} {x49 : Nat → Int32} {rx33 : (Nat → Int32)} {rx40 : (Nat → Int32)} {rx50 : (Nat → Int32)} {rx51 : (Nat → Int32)} {rx52 : (Nat → Int32)} {rx53 : (Nat → Int32)} {rx54 : (Nat → Int32)} {rx55 : (Nat → Int32)} {rx56 : (Nat → Int32)} {rx57 : (Nat → Int32)} {rx58 : (Nat → Int32)} {rx59 : (Nat → Int32)} (hret : ∀ pc loc, decode cX3_goOn pc = .ok (.return_, 1) → gV l b0 D K (n, κ, ov X0 [17, 18, 33, 40, 46, 47, 48, 49, 50, 51, 52, 53, 54, 55, 56, 57, 58, 59] [x17, x18, rx33, rx40, x46, x47, x48, x49, rx50, rx51, rx52, rx53, rx54, rx55, rx56, rx57, rx58, rx59], ov Y0 [] [], Z, 0, 0) pc loc []) {v2 : Int32} {x33 : (Nat → Int32)} {x40 : (Nat → Int32)} {x50 : (Nat → Int32)} {x51 : (Nat → Int32)} {x52 : (Nat → Int32)} {x53 : (Nat → Int32)} {x54 : (Nat → Int32)} {x55 : (Nat → Int32)} {x56 : (Nat → Int32)} {x57 : (Nat → Int32)} {x58 : (Nat → Int32)} {x59 : (Nat → Int32)} (hf : fX3_goOn_1_53 x17 x18 x46 x47 x48 x49  v2 x33 x40 x50 x51 x52 x53 x54 x55 x56 x57 x58 x59 = some (rx33, rx40, rx50, rx51, rx52, rx53, rx54, rx55, rx56, rx57, rx58, rx59)) : gV l b0 D K (n, κ, ov X0 [17, 18, 33, 40, 46, 47, 48, 49, 50, 51, 52, 53, 54, 55, 56, 57, 58, 59] [x17, x18, x33, x40, x46, x47, x48, x49, x50, x51, x52, x53, x54, x55, x56, x57, x58, x59], ov Y0 [] [], Z, 0, 0) 53 [(0, .ref (b0 + 40)), (1, .int 1), (2, .int v2), (5, .ref (b0 + 50))] [] := by
  unfold fX3_goOn_1_53 at hf
  refine g_aload_n hC 0 dX3_goOn_53 rfl rfl ?_
  refine gt_X3_25 hC (a := 40) (kk_40 hL) (kn_40 hL) dX3_goOn_54 ?_
  refine g_ref (b := 32) rfl ?_
  refine g_aload hC 3 dX3_goOn_57 rfl ?_
  refine g_aload_n hC 0 dX3_goOn_59 rfl rfl ?_
  refine gt_X3_25 hC (a := 40) (kk_40 hL) (kn_40 hL) dX3_goOn_60 ?_
  refine g_ref (b := 32) rfl ?_
  refine gt_X3_53 hC (a := 32) (kk_32 hL) (kn_32 hL) dX3_goOn_63 ?_
  refine g_ref (b := 17) rfl ?_
  refine g_aload hC 3 dX3_goOn_66 rfl ?_
  obtain ⟨r_1, q_2, hf⟩ := bd1E hf
  refine g_callV_i (a := 17) hC (X' := ov X0 [17, 18, 33, 40, 46, 47, 48, 49, 50, 51, 52, 53, 54, 55, 56, 57, 58, 59] [x17, x18, x33, x40, x46, x47, x48, x49, x50, x51, x52, x53, x54, x55, x56, x57, x58, x59]) (Y' := ov Y0 [] []) (As := [.ref (b0 + 50)]) (gMi_eq (c_X9_heatOf l hL (kk_50 hL) (kn_50 hL) (nd_sub hN [8, 0, 1] (by decide) (by rfl)) (nd_sub hM [] (by decide) (by rfl)) (ov_map hN [8, 0, 1] (by rfl) (by rfl)) (ov_map hM [] (by rfl) (by rfl)) q_2) (ov_ovE hN (by rfl) [8, 0, 1] [2, 3, 4, 5, 6, 7, 9, 10, 11, 12, 13, 14, 15, 16, 17] (by rfl) (by rfl) [x33, x40, x46, x47, x48, x49, x51, x52, x53, x54, x55, x56, x57, x58, x59] (by rfl) (by rfl) (by rfl) 18 (by rfl) (by decide)) (ov_ovE hM (by rfl) [] [] (by rfl) (by rfl) [] (by rfl) (by rfl) (by rfl) 0 (by rfl) (by decide))) tw_806 tw_1048 tw_119 tw_804 tw_805 (ci := 9) rfl (by decide) (kk_17 hL) (kn_17 hL) pd_X9_heatOf (by decide) (by decide) rfl rfl (Nat.le_of_ble_eq_true rfl) rfl dX3_goOn_68 ?_
  obtain ⟨r_3, x50_4, x51_5, x52_6, x53_7, x33_8, q_9, hf⟩ := bd6E hf
  refine g_callV_i (a := 32) hC (X' := ov X0 [17, 18, 33, 40, 46, 47, 48, 49, 50, 51, 52, 53, 54, 55, 56, 57, 58, 59] [x17, x18, x33_8, x40, x46, x47, x48, x49, x50_4, x51_5, x52_6, x53_7, x54, x55, x56, x57, x58, x59]) (Y' := ov Y0 [] []) (As := [.ref (b0 + 50), .int r_1]) (gMi_eq (c_X1_melt l hL (kk_50 hL) (kn_50 hL) (nd_sub hN [8, 9, 10, 11, 0, 2] (by decide) (by rfl)) (nd_sub hM [] (by decide) (by rfl)) (ov_map hN [8, 9, 10, 11, 0, 2] (by rfl) (by rfl)) (ov_map hM [] (by rfl) (by rfl)) q_9) (ov_ovE hN (by rfl) [8, 9, 10, 11, 0, 2] [1, 3, 4, 5, 6, 7, 12, 13, 14, 15, 16, 17] (by rfl) (by rfl) [x18, x40, x46, x47, x48, x49, x54, x55, x56, x57, x58, x59] (by rfl) (by rfl) (by rfl) 18 (by rfl) (by decide)) (ov_ovE hM (by rfl) [] [] (by rfl) (by rfl) [] (by rfl) (by rfl) (by rfl) 0 (by rfl) (by decide))) tw_909 tw_1049 tw_123 tw_907 tw_908 (ci := 1) rfl (by decide) (kk_32 hL) (kn_32 hL) pd_X1_melt (by decide) (by decide) rfl rfl (Nat.le_of_ble_eq_true rfl) rfl dX3_goOn_71 ?_
  refine g_pop hC dX3_goOn_74 rfl ?_
  refine g_aload_n hC 0 dX3_goOn_75 rfl rfl ?_
  refine g_iload_n hC 1 dX3_goOn_76 rfl rfl ?_
  refine g_iconst hC (v := 1) dX3_goOn_77 ic_1 ?_
  refine g_iadd hC dX3_goOn_78 ?_
  refine g_topi (v := 2) (by decide) ?_
  refine g_iload_n hC 2 dX3_goOn_79 rfl rfl ?_
  obtain ⟨x33_10, x40_11, x54_12, x55_13, x56_14, x57_15, x58_16, x59_17, q_18, hf⟩ := bd8E hf
  refine g_callV_v (a := 40) hC (X' := ov X0 [17, 18, 33, 40, 46, 47, 48, 49, 50, 51, 52, 53, 54, 55, 56, 57, 58, 59] [x17, x18, x33_10, x40_11, x46, x47, x48, x49, x50_4, x51_5, x52_6, x53_7, x54_12, x55_13, x56_14, x57_15, x58_16, x59_17]) (Y' := ov Y0 [] []) (As := [.int 2, .int v2]) (gMv_eq (c_X3_search_2 l hL hz41 (ov_map hN [0, 1, 2, 3, 8, 9, 10, 11, 12, 13, 14, 15, 16, 17] (by rfl) (by rfl)) (ov_map hM [] (by rfl) (by rfl)) q_18) (ov_ovE hN (by rfl) [0, 1, 2, 3, 8, 9, 10, 11, 12, 13, 14, 15, 16, 17] [4, 5, 6, 7] (by rfl) (by rfl) [x46, x47, x48, x49] (by rfl) (by rfl) (by rfl) 18 (by rfl) (by decide)) (ov_ovE hM (by rfl) [] [] (by rfl) (by rfl) [] (by rfl) (by rfl) (by rfl) 0 (by rfl) (by decide))) tw_1033 tw_1030 tw_124 tw_1032 tw_37 (ci := 3) rfl (by decide) (kk_40 hL) (kn_40 hL) pd_X3_search (by decide) (by decide) rfl rfl (Nat.le_of_ble_eq_true rfl) rfl dX3_goOn_80 ?_
  obtain ⟨rfl, rfl, rfl, rfl, rfl, rfl, rfl, rfl, rfl, rfl, rfl, rfl⟩ := sm12E hf
  exact hret _ _ dX3_goOn_83

def fX3_goOn_1_0   (x17 : Nat → Int32) (x18 : Nat → Int32) (x46 : Nat → Int32) (x47 : Nat → Int32) (x48 : Nat → Int32) (x49 : Nat → Int32)  (v2 : Int32) (v3 : Int32) (v4 : Int32) (x33 : (Nat → Int32)) (x40 : (Nat → Int32)) (x50 : (Nat → Int32)) (x51 : (Nat → Int32)) (x52 : (Nat → Int32)) (x53 : (Nat → Int32)) (x54 : (Nat → Int32)) (x55 : (Nat → Int32)) (x56 : (Nat → Int32)) (x57 : (Nat → Int32)) (x58 : (Nat → Int32)) (x59 : (Nat → Int32)) : Option ((Nat → Int32) × (Nat → Int32) × (Nat → Int32) × (Nat → Int32) × (Nat → Int32) × (Nat → Int32) × (Nat → Int32) × (Nat → Int32) × (Nat → Int32) × (Nat → Int32) × (Nat → Int32) × (Nat → Int32)) := bd4 (fX7_copy x46 x47 x48 x49 x50 x51 x52 x53) fun x50_1 x51_2 x52_3 x53_4 => (gd (inb 1 3) (if v3 < 0 then (fX3_goOn_1_53 x17 x18 x46 x47 x48 x49  v2 x33 x40 x50_1 x51_2 x52_3 x53_4 x54 x55 x56 x57 (upd x58 (1 : Int32).toNatClampNeg (-1)) x59) else (bd2 (fX7_harden v3 v4 x50_1 x53_4) fun x50_7 x53_8 => (gd (inb 1 3) (fX3_goOn_1_53 x17 x18 x46 x47 x48 x49  v2 x33 x40 x50_7 x51_2 x52_3 x53_8 x54 x55 x56 x57 (upd (upd x58 (1 : Int32).toNatClampNeg (-1)) (1 : Int32).toNatClampNeg ((8 * v3) + v4)) x59)))))
set_option maxHeartbeats 4000000 in
set_option maxRecDepth 100000 in
theorem wX3_goOn_1_0 {l : Launch} {b0 : Nat} {D : GD} {K : KT} {n : Nat} {κ : QT} {X0 : XT} {Y0 : YT} {Z : ZT} (hL : LY n κ) (hz41 : Z 41 0 = some 42 ∧ Z 41 1 = some 46 ∧ Z 41 2 = some 50 ∧ Z 41 3 = some 54) (hN : ([17, 18, 33, 40, 46, 47, 48, 49, 50, 51, 52, 53, 54, 55, 56, 57, 58, 59] : List Nat).Nodup) (hM : ([] : List Nat).Nodup) (hC : gC l b0 D K RX3 cX3_goOn none 6 6 164 0 0) {x17 : Nat → Int32} {x18 : Nat → Int32} {x46 : Nat → Int32} {x47 : Nat → Int32} {x48 : Nat → Int32} {x49 : Nat → Int32} {rx33 : (Nat → Int32)} {rx40 : (Nat → Int32)} {rx50 : (Nat → Int32)} {rx51 : (Nat → Int32)} {rx52 : (Nat → Int32)} {rx53 : (Nat → Int32)} {rx54 : (Nat → Int32)} {rx55 : (Nat → Int32)} {rx56 : (Nat → Int32)} {rx57 : (Nat → Int32)} {rx58 : (Nat → Int32)} {rx59 : (Nat → Int32)} (hret : ∀ pc loc, decode cX3_goOn pc = .ok (.return_, 1) → gV l b0 D K (n, κ, ov X0 [17, 18, 33, 40, 46, 47, 48, 49, 50, 51, 52, 53, 54, 55, 56, 57, 58, 59] [x17, x18, rx33, rx40, x46, x47, x48, x49, rx50, rx51, rx52, rx53, rx54, rx55, rx56, rx57, rx58, rx59], ov Y0 [] [], Z, 0, 0) pc loc []) {v2 : Int32} {v3 : Int32} {v4 : Int32} {x33 : (Nat → Int32)} {x40 : (Nat → Int32)} {x50 : (Nat → Int32)} {x51 : (Nat → Int32)} {x52 : (Nat → Int32)} {x53 : (Nat → Int32)} {x54 : (Nat → Int32)} {x55 : (Nat → Int32)} {x56 : (Nat → Int32)} {x57 : (Nat → Int32)} {x58 : (Nat → Int32)} {x59 : (Nat → Int32)} (hf : fX3_goOn_1_0 x17 x18 x46 x47 x48 x49  v2 v3 v4 x33 x40 x50 x51 x52 x53 x54 x55 x56 x57 x58 x59 = some (rx33, rx40, rx50, rx51, rx52, rx53, rx54, rx55, rx56, rx57, rx58, rx59)) : gV l b0 D K (n, κ, ov X0 [17, 18, 33, 40, 46, 47, 48, 49, 50, 51, 52, 53, 54, 55, 56, 57, 58, 59] [x17, x18, x33, x40, x46, x47, x48, x49, x50, x51, x52, x53, x54, x55, x56, x57, x58, x59], ov Y0 [] [], Z, 0, 0) 0 [(0, .ref (b0 + 40)), (1, .int 1), (2, .int v2), (3, .int v3), (4, .int v4)] [] := by
  unfold fX3_goOn_1_0 at hf
  refine g_aload_n hC 0 dX3_goOn_0 rfl rfl ?_
  refine gt_X3_12 hC (a := 40) (kk_40 hL) (kn_40 hL) dX3_goOn_1 ?_
  refine g_ref (b := 41) rfl ?_
  refine g_iload_n hC 1 dX3_goOn_4 rfl rfl ?_
  refine g_iconst hC (v := 1) dX3_goOn_5 ic_1 ?_
  refine g_iadd hC dX3_goOn_6 ?_
  refine g_topi (v := 2) (by decide) ?_
  refine g_aald19 hC (L := 4) (kk_41 hL) (kn_41 hL) (inb_in (by decide)) (r := some 50) hz41.2.2.1 dX3_goOn_7 ?_
  show gV l b0 D K (n, κ, ov X0 [17, 18, 33, 40, 46, 47, 48, 49, 50, 51, 52, 53, 54, 55, 56, 57, 58, 59] [x17, x18, x33, x40, x46, x47, x48, x49, x50, x51, x52, x53, x54, x55, x56, x57, x58, x59], ov Y0 [] [], Z, 0, 0) 8 [(0, .ref (b0 + 40)), (1, .int 1), (2, .int v2), (3, .int v3), (4, .int v4)] [.ref (b0 + 50)]
  refine g_astore hC (i := 5) [(5, .ref (b0 + 50)), (0, .ref (b0 + 40)), (1, .int 1), (2, .int v2), (3, .int v3), (4, .int v4)] dX3_goOn_8 (by decide) rfl ?_
  refine g_aload hC 0 dX3_goOn_10 rfl ?_
  refine g_aload_n hC 1 dX3_goOn_12 rfl rfl ?_
  refine gt_X3_12 hC (a := 40) (kk_40 hL) (kn_40 hL) dX3_goOn_13 ?_
  refine g_ref (b := 41) rfl ?_
  refine g_iload_n hC 2 dX3_goOn_16 rfl rfl ?_
  refine g_aald19 hC (L := 4) (kk_41 hL) (kn_41 hL) (inb_in (by decide)) (r := some 46) hz41.2.1 dX3_goOn_17 ?_
  show gV l b0 D K (n, κ, ov X0 [17, 18, 33, 40, 46, 47, 48, 49, 50, 51, 52, 53, 54, 55, 56, 57, 58, 59] [x17, x18, x33, x40, x46, x47, x48, x49, x50, x51, x52, x53, x54, x55, x56, x57, x58, x59], ov Y0 [] [], Z, 0, 0) 18 [(5, .ref (b0 + 50)), (0, .ref (b0 + 40)), (1, .int 1), (2, .int v2), (3, .int v3), (4, .int v4)] [.ref (b0 + 46), .ref (b0 + 50)]
  obtain ⟨x50_1, x51_2, x52_3, x53_4, q_5, hf⟩ := bd4E hf
  refine g_callV_v (a := 50) hC (X' := ov X0 [17, 18, 33, 40, 46, 47, 48, 49, 50, 51, 52, 53, 54, 55, 56, 57, 58, 59] [x17, x18, x33, x40, x46, x47, x48, x49, x50_1, x51_2, x52_3, x53_4, x54, x55, x56, x57, x58, x59]) (Y' := ov Y0 [] []) (As := [.ref (b0 + 46)]) (gMv_eq (c_X7_copy l hL (kk_50 hL) (kn_50 hL) (kk_46 hL) (kn_46 hL) (nd_sub hN [8, 9, 10, 11, 4, 5, 6, 7] (by decide) (by rfl)) (nd_sub hM [] (by decide) (by rfl)) (ov_map hN [8, 9, 10, 11, 4, 5, 6, 7] (by rfl) (by rfl)) (ov_map hM [] (by rfl) (by rfl)) q_5) (ov_ovE hN (by rfl) [8, 9, 10, 11, 4, 5, 6, 7] [0, 1, 2, 3, 12, 13, 14, 15, 16, 17] (by rfl) (by rfl) [x17, x18, x33, x40, x54, x55, x56, x57, x58, x59] (by rfl) (by rfl) (by rfl) 18 (by rfl) (by decide)) (ov_ovE hM (by rfl) [] [] (by rfl) (by rfl) [] (by rfl) (by rfl) (by rfl) 0 (by rfl) (by decide))) tw_707 tw_1029 tw_120 tw_705 tw_706 (ci := 7) rfl (by decide) (kk_50 hL) (kn_50 hL) pd_X7_copy (by decide) (by decide) rfl rfl (Nat.le_of_ble_eq_true rfl) rfl dX3_goOn_18 ?_
  refine g_aload_n hC 1 dX3_goOn_21 rfl rfl ?_
  refine gt_X3_18 hC (a := 40) (kk_40 hL) (kn_40 hL) dX3_goOn_22 ?_
  refine g_ref (b := 58) rfl ?_
  refine g_iload_n hC 2 dX3_goOn_25 rfl rfl ?_
  refine g_iconst hC (v := (-1)) dX3_goOn_26 ic_m1 ?_
  obtain ⟨h_6, hf⟩ := gdE hf
  refine g_iast hC (x := x58) (kk_58 hL) (kn_58 hL) (ov_get hN 16 rfl rfl) (inb_in h_6) (ov_set hN (by rfl) 16 (by rfl)) dX3_goOn_27 ?_
  show gV l b0 D K (n, κ, ov X0 [17, 18, 33, 40, 46, 47, 48, 49, 50, 51, 52, 53, 54, 55, 56, 57, 58, 59] [x17, x18, x33, x40, x46, x47, x48, x49, x50_1, x51_2, x52_3, x53_4, x54, x55, x56, x57, (upd x58 (1 : Int32).toNatClampNeg (-1)), x59], ov Y0 [] [], Z, 0, 0) 28 [(5, .ref (b0 + 50)), (0, .ref (b0 + 40)), (1, .int 1), (2, .int v2), (3, .int v3), (4, .int v4)] []
  refine g_iload_n hC 4 dX3_goOn_28 rfl rfl ?_
  refine g_if_lt hC 53 dX3_goOn_29 (by decide) (fun hc => ?_) (fun hc => ?_)
  · replace hf := ifT hf hc
    exact g_sub [1, 2, 3, 0] rfl (wX3_goOn_1_53 hL hz41 hN hM hC  hret  hf)
  · replace hf := ifF hf hc
    refine g_aload hC 0 dX3_goOn_32 rfl ?_
    refine g_iload_n hC 4 dX3_goOn_34 rfl rfl ?_
    refine g_iload hC 5 dX3_goOn_35 rfl ?_
    obtain ⟨x50_7, x53_8, q_9, hf⟩ := bd2E hf
    refine g_callV_v (a := 50) hC (X' := ov X0 [17, 18, 33, 40, 46, 47, 48, 49, 50, 51, 52, 53, 54, 55, 56, 57, 58, 59] [x17, x18, x33, x40, x46, x47, x48, x49, x50_7, x51_2, x52_3, x53_8, x54, x55, x56, x57, (upd x58 (1 : Int32).toNatClampNeg (-1)), x59]) (Y' := ov Y0 [] []) (As := [.int v3, .int v4]) (gMv_eq (c_X7_harden l hL (kk_50 hL) (kn_50 hL) (nd_sub hN [8, 11] (by decide) (by rfl)) (nd_sub hM [] (by decide) (by rfl)) (ov_map hN [8, 11] (by rfl) (by rfl)) (ov_map hM [] (by rfl) (by rfl)) q_9) (ov_ovE hN (by rfl) [8, 11] [0, 1, 2, 3, 4, 5, 6, 7, 9, 10, 12, 13, 14, 15, 16, 17] (by rfl) (by rfl) [x17, x18, x33, x40, x46, x47, x48, x49, x51_2, x52_3, x54, x55, x56, x57, (upd x58 (1 : Int32).toNatClampNeg (-1)), x59] (by rfl) (by rfl) (by rfl) 18 (by rfl) (by decide)) (ov_ovE hM (by rfl) [] [] (by rfl) (by rfl) [] (by rfl) (by rfl) (by rfl) 0 (by rfl) (by decide))) tw_904 tw_1047 tw_120 tw_902 tw_903 (ci := 7) rfl (by decide) (kk_50 hL) (kn_50 hL) pd_X7_harden (by decide) (by decide) rfl rfl (Nat.le_of_ble_eq_true rfl) rfl dX3_goOn_37 ?_
    refine g_aload_n hC 1 dX3_goOn_40 rfl rfl ?_
    refine gt_X3_18 hC (a := 40) (kk_40 hL) (kn_40 hL) dX3_goOn_41 ?_
    refine g_ref (b := 58) rfl ?_
    refine g_iload_n hC 2 dX3_goOn_44 rfl rfl ?_
    refine g_bipush hC (v := 8) dX3_goOn_45 bp_8 ?_
    refine g_iload_n hC 4 dX3_goOn_47 rfl rfl ?_
    refine g_imul hC dX3_goOn_48 ?_
    refine g_iload hC 5 dX3_goOn_49 rfl ?_
    refine g_iadd hC dX3_goOn_51 ?_
    obtain ⟨h_10, hf⟩ := gdE hf
    refine g_iast hC (x := (upd x58 (1 : Int32).toNatClampNeg (-1))) (kk_58 hL) (kn_58 hL) (ov_get hN 16 rfl rfl) (inb_in h_10) (ov_set hN (by rfl) 16 (by rfl)) dX3_goOn_52 ?_
    show gV l b0 D K (n, κ, ov X0 [17, 18, 33, 40, 46, 47, 48, 49, 50, 51, 52, 53, 54, 55, 56, 57, 58, 59] [x17, x18, x33, x40, x46, x47, x48, x49, x50_7, x51_2, x52_3, x53_8, x54, x55, x56, x57, (upd (upd x58 (1 : Int32).toNatClampNeg (-1)) (1 : Int32).toNatClampNeg ((8 * v3) + v4)), x59], ov Y0 [] [], Z, 0, 0) 53 [(5, .ref (b0 + 50)), (0, .ref (b0 + 40)), (1, .int 1), (2, .int v2), (3, .int v3), (4, .int v4)] []
    exact g_sub [1, 2, 3, 0] rfl (wX3_goOn_1_53 hL hz41 hN hM hC  hret  hf)

def fX3_goOn_1   (x17 : Nat → Int32) (x18 : Nat → Int32) (x46 : Nat → Int32) (x47 : Nat → Int32) (x48 : Nat → Int32) (x49 : Nat → Int32)  (v2 : Int32) (v3 : Int32) (v4 : Int32) (x33 : Nat → Int32) (x40 : Nat → Int32) (x50 : Nat → Int32) (x51 : Nat → Int32) (x52 : Nat → Int32) (x53 : Nat → Int32) (x54 : Nat → Int32) (x55 : Nat → Int32) (x56 : Nat → Int32) (x57 : Nat → Int32) (x58 : Nat → Int32) (x59 : Nat → Int32)  : Option ((Nat → Int32) × (Nat → Int32) × (Nat → Int32) × (Nat → Int32) × (Nat → Int32) × (Nat → Int32) × (Nat → Int32) × (Nat → Int32) × (Nat → Int32) × (Nat → Int32) × (Nat → Int32) × (Nat → Int32)) := fX3_goOn_1_0 x17 x18 x46 x47 x48 x49 v2 v3 v4 x33 x40 x50 x51 x52 x53 x54 x55 x56 x57 x58 x59

set_option maxHeartbeats 4000000 in
set_option maxRecDepth 100000 in
theorem c_X3_goOn_1 (l : Launch) {b0 : Nat} {D : GD} {n : Nat} {κ : QT} {X0 : XT} {Y0 : YT} {Z : ZT} (hL : LY n κ) (hz41 : Z 41 0 = some 42 ∧ Z 41 1 = some 46 ∧ Z 41 2 = some 50 ∧ Z 41 3 = some 54) {x17 : Nat → Int32} {x18 : Nat → Int32} {x33 : Nat → Int32} {x40 : Nat → Int32} {x46 : Nat → Int32} {x47 : Nat → Int32} {x48 : Nat → Int32} {x49 : Nat → Int32} {x50 : Nat → Int32} {x51 : Nat → Int32} {x52 : Nat → Int32} {x53 : Nat → Int32} {x54 : Nat → Int32} {x55 : Nat → Int32} {x56 : Nat → Int32} {x57 : Nat → Int32} {x58 : Nat → Int32} {x59 : Nat → Int32} (hx : ([17, 18, 33, 40, 46, 47, 48, 49, 50, 51, 52, 53, 54, 55, 56, 57, 58, 59] : List Nat).map X0 = [x17, x18, x33, x40, x46, x47, x48, x49, x50, x51, x52, x53, x54, x55, x56, x57, x58, x59]) (hy : ([] : List Nat).map Y0 = []) {v2 : Int32} {v3 : Int32} {v4 : Int32} {rx33 : (Nat → Int32)} {rx40 : (Nat → Int32)} {rx50 : (Nat → Int32)} {rx51 : (Nat → Int32)} {rx52 : (Nat → Int32)} {rx53 : (Nat → Int32)} {rx54 : (Nat → Int32)} {rx55 : (Nat → Int32)} {rx56 : (Nat → Int32)} {rx57 : (Nat → Int32)} {rx58 : (Nat → Int32)} {rx59 : (Nat → Int32)} (hf : fX3_goOn_1 x17 x18 x46 x47 x48 x49 v2 v3 v4 x33 x40 x50 x51 x52 x53 x54 x55 x56 x57 x58 x59 = some (rx33, rx40, rx50, rx51, rx52, rx53, rx54, rx55, rx56, rx57, rx58, rx59)) : gMv l yX3_goOn cX3_goOn 6 none 6 164 0 0 b0 D [.ref (b0 + 40), .int 1, .int v2, .int v3, .int v4] (n, κ, X0, Y0, Z) (n, κ, ov X0 [17, 18, 33, 40, 46, 47, 48, 49, 50, 51, 52, 53, 54, 55, 56, 57, 58, 59] [x17, x18, rx33, rx40, x46, x47, x48, x49, rx50, rx51, rx52, rx53, rx54, rx55, rx56, rx57, rx58, rx59], ov Y0 [] [], Z) := by
  have hN : ([17, 18, 33, 40, 46, 47, 48, 49, 50, 51, 52, 53, 54, 55, 56, 57, 58, 59] : List Nat).Nodup := by decide
  have hM : ([] : List Nat).Nodup := by decide
  refine g_metv (own := RX3) (by decide) rfl rfl (Nat.le_of_ble_eq_true rfl) ?_
  intro K hC hret
  have e := wX3_goOn_1_0 hL hz41 hN hM hC  hret hf
  rw [ov_id' hx, ov_id' hy] at e
  exact g_sub [0, 1, 2, 3, 4] rfl e

-- X3_search
def fX3_search_1_97   (x17 : Nat → Int32) (x18 : Nat → Int32) (x46 : Nat → Int32) (x47 : Nat → Int32) (x48 : Nat → Int32) (x49 : Nat → Int32)  (k39 : Int32 → Int32 → (Nat → Int32) → (Nat → Int32) → (Nat → Int32) → (Nat → Int32) → (Nat → Int32) → (Nat → Int32) → (Nat → Int32) → (Nat → Int32) → (Nat → Int32) → (Nat → Int32) → (Nat → Int32) → (Nat → Int32) → Option ((Nat → Int32) × (Nat → Int32) × (Nat → Int32) × (Nat → Int32) × (Nat → Int32) × (Nat → Int32) × (Nat → Int32) × (Nat → Int32) × (Nat → Int32) × (Nat → Int32) × (Nat → Int32) × (Nat → Int32))) (k58 : Int32 → Int32 → Int32 → (Nat → Int32) → (Nat → Int32) → (Nat → Int32) → (Nat → Int32) → (Nat → Int32) → (Nat → Int32) → (Nat → Int32) → (Nat → Int32) → (Nat → Int32) → (Nat → Int32) → (Nat → Int32) → (Nat → Int32) → Option ((Nat → Int32) × (Nat → Int32) × (Nat → Int32) × (Nat → Int32) × (Nat → Int32) × (Nat → Int32) × (Nat → Int32) × (Nat → Int32) × (Nat → Int32) × (Nat → Int32) × (Nat → Int32) × (Nat → Int32))) (v2 : Int32) (v3 : Int32) (v4 : Int32) (x33 : (Nat → Int32)) (x40 : (Nat → Int32)) (x50 : (Nat → Int32)) (x51 : (Nat → Int32)) (x52 : (Nat → Int32)) (x53 : (Nat → Int32)) (x54 : (Nat → Int32)) (x55 : (Nat → Int32)) (x56 : (Nat → Int32)) (x57 : (Nat → Int32)) (x58 : (Nat → Int32)) (x59 : (Nat → Int32)) : Option ((Nat → Int32) × (Nat → Int32) × (Nat → Int32) × (Nat → Int32) × (Nat → Int32) × (Nat → Int32) × (Nat → Int32) × (Nat → Int32) × (Nat → Int32) × (Nat → Int32) × (Nat → Int32) × (Nat → Int32)) := bn (v4 + 1) fun t_1 => (k58 v2 v3 t_1 x33 x40 x50 x51 x52 x53 x54 x55 x56 x57 x58 x59)
set_option maxHeartbeats 4000000 in
set_option maxRecDepth 100000 in
theorem wX3_search_1_97 {l : Launch} {b0 : Nat} {D : GD} {K : KT} {n : Nat} {κ : QT} {X0 : XT} {Y0 : YT} {Z : ZT} (hL : LY n κ) (hz41 : Z 41 0 = some 42 ∧ Z 41 1 = some 46 ∧ Z 41 2 = some 50 ∧ Z 41 3 = some 54) (hN : ([17, 18, 33, 40, 46, 47, 48, 49, 50, 51, 52, 53, 54, 55, 56, 57, 58, 59] : List Nat).Nodup) (hM : ([] : List Nat).Nodup) (hC : gC l b0 D K RX3 cX3_search none 5 7 189 0 0) {x17 : Nat → Int32} {x18 : Nat → Int32} {x46 : Nat → Int32} {x47 : Nat → Int32} {x48 : Nat → Int32} {x49 : Nat → Int32} {rx33 : (Nat → Int32)} {rx40 : (Nat → Int32)} {rx50 : (Nat → Int32)} {rx51 : (Nat → Int32)} {rx52 : (Nat → Int32)} {rx53 : (Nat → Int32)} {rx54 : (Nat → Int32)} {rx55 : (Nat → Int32)} {rx56 : (Nat → Int32)} {rx57 : (Nat → Int32)} {rx58 : (Nat → Int32)} {rx59 : (Nat → Int32)} (hret : ∀ pc loc, decode cX3_search pc = .ok (.return_, 1) → gV l b0 D K (n, κ, ov X0 [17, 18, 33, 40, 46, 47, 48, 49, 50, 51, 52, 53, 54, 55, 56, 57, 58, 59] [x17, x18, rx33, rx40, x46, x47, x48, x49, rx50, rx51, rx52, rx53, rx54, rx55, rx56, rx57, rx58, rx59], ov Y0 [] [], Z, 0, 0) pc loc []) {k39 : Int32 → Int32 → (Nat → Int32) → (Nat → Int32) → (Nat → Int32) → (Nat → Int32) → (Nat → Int32) → (Nat → Int32) → (Nat → Int32) → (Nat → Int32) → (Nat → Int32) → (Nat → Int32) → (Nat → Int32) → (Nat → Int32) → Option ((Nat → Int32) × (Nat → Int32) × (Nat → Int32) × (Nat → Int32) × (Nat → Int32) × (Nat → Int32) × (Nat → Int32) × (Nat → Int32) × (Nat → Int32) × (Nat → Int32) × (Nat → Int32) × (Nat → Int32))} (hk39 : ∀ (v2 : Int32) (v3 : Int32) (x33 : (Nat → Int32)) (x40 : (Nat → Int32)) (x50 : (Nat → Int32)) (x51 : (Nat → Int32)) (x52 : (Nat → Int32)) (x53 : (Nat → Int32)) (x54 : (Nat → Int32)) (x55 : (Nat → Int32)) (x56 : (Nat → Int32)) (x57 : (Nat → Int32)) (x58 : (Nat → Int32)) (x59 : (Nat → Int32)), k39 v2 v3 x33 x40 x50 x51 x52 x53 x54 x55 x56 x57 x58 x59 = some (rx33, rx40, rx50, rx51, rx52, rx53, rx54, rx55, rx56, rx57, rx58, rx59) → gV l b0 D K (n, κ, ov X0 [17, 18, 33, 40, 46, 47, 48, 49, 50, 51, 52, 53, 54, 55, 56, 57, 58, 59] [x17, x18, x33, x40, x46, x47, x48, x49, x50, x51, x52, x53, x54, x55, x56, x57, x58, x59], ov Y0 [] [], Z, 0, 0) 39 [(0, .ref (b0 + 40)), (1, .int 1), (2, .int v2), (3, .int v3)] []) {k58 : Int32 → Int32 → Int32 → (Nat → Int32) → (Nat → Int32) → (Nat → Int32) → (Nat → Int32) → (Nat → Int32) → (Nat → Int32) → (Nat → Int32) → (Nat → Int32) → (Nat → Int32) → (Nat → Int32) → (Nat → Int32) → (Nat → Int32) → Option ((Nat → Int32) × (Nat → Int32) × (Nat → Int32) × (Nat → Int32) × (Nat → Int32) × (Nat → Int32) × (Nat → Int32) × (Nat → Int32) × (Nat → Int32) × (Nat → Int32) × (Nat → Int32) × (Nat → Int32))} (hk58 : ∀ (v2 : Int32) (v3 : Int32) (v4 : Int32) (x33 : (Nat → Int32)) (x40 : (Nat → Int32)) (x50 : (Nat → Int32)) (x51 : (Nat → Int32)) (x52 : (Nat → Int32)) (x53 : (Nat → Int32)) (x54 : (Nat → Int32)) (x55 : (Nat → Int32)) (x56 : (Nat → Int32)) (x57 : (Nat → Int32)) (x58 : (Nat → Int32)) (x59 : (Nat → Int32)), k58 v2 v3 v4 x33 x40 x50 x51 x52 x53 x54 x55 x56 x57 x58 x59 = some (rx33, rx40, rx50, rx51, rx52, rx53, rx54, rx55, rx56, rx57, rx58, rx59) → gV l b0 D K (n, κ, ov X0 [17, 18, 33, 40, 46, 47, 48, 49, 50, 51, 52, 53, 54, 55, 56, 57, 58, 59] [x17, x18, x33, x40, x46, x47, x48, x49, x50, x51, x52, x53, x54, x55, x56, x57, x58, x59], ov Y0 [] [], Z, 0, 0) 58 [(0, .ref (b0 + 40)), (1, .int 1), (2, .int v2), (3, .int v3), (4, .int v4)] []) {v2 : Int32} {v3 : Int32} {v4 : Int32} {x33 : (Nat → Int32)} {x40 : (Nat → Int32)} {x50 : (Nat → Int32)} {x51 : (Nat → Int32)} {x52 : (Nat → Int32)} {x53 : (Nat → Int32)} {x54 : (Nat → Int32)} {x55 : (Nat → Int32)} {x56 : (Nat → Int32)} {x57 : (Nat → Int32)} {x58 : (Nat → Int32)} {x59 : (Nat → Int32)} (hf : fX3_search_1_97 x17 x18 x46 x47 x48 x49 k39 k58 v2 v3 v4 x33 x40 x50 x51 x52 x53 x54 x55 x56 x57 x58 x59 = some (rx33, rx40, rx50, rx51, rx52, rx53, rx54, rx55, rx56, rx57, rx58, rx59)) : gV l b0 D K (n, κ, ov X0 [17, 18, 33, 40, 46, 47, 48, 49, 50, 51, 52, 53, 54, 55, 56, 57, 58, 59] [x17, x18, x33, x40, x46, x47, x48, x49, x50, x51, x52, x53, x54, x55, x56, x57, x58, x59], ov Y0 [] [], Z, 0, 0) 97 [(0, .ref (b0 + 40)), (1, .int 1), (2, .int v2), (3, .int v3), (4, .int v4)] [] := by
  unfold fX3_search_1_97 at hf
  obtain ⟨t_1, et_1, hf⟩ := bnE hf
  refine g_iinc hC (i := 4) (v := t_1) [(4, .int t_1), (0, .ref (b0 + 40)), (1, .int 1), (2, .int v2), (3, .int v3)] dX3_search_97 (q := 4) rfl ((congrArg (HAdd.hAdd v4) ic_1).trans et_1.symm) (by decide) rfl ?_
  refine g_goto hC 58 dX3_search_100 (by decide) ?_
  exact g_sub [1, 2, 3, 4, 0] rfl (hk58 v2 v3 t_1 x33 x40 x50 x51 x52 x53 x54 x55 x56 x57 x58 x59 hf)

def fX3_search_1_58b   (x17 : Nat → Int32) (x18 : Nat → Int32) (x46 : Nat → Int32) (x47 : Nat → Int32) (x48 : Nat → Int32) (x49 : Nat → Int32)  (k39 : Int32 → Int32 → (Nat → Int32) → (Nat → Int32) → (Nat → Int32) → (Nat → Int32) → (Nat → Int32) → (Nat → Int32) → (Nat → Int32) → (Nat → Int32) → (Nat → Int32) → (Nat → Int32) → (Nat → Int32) → (Nat → Int32) → Option ((Nat → Int32) × (Nat → Int32) × (Nat → Int32) × (Nat → Int32) × (Nat → Int32) × (Nat → Int32) × (Nat → Int32) × (Nat → Int32) × (Nat → Int32) × (Nat → Int32) × (Nat → Int32) × (Nat → Int32))) (k58 : Int32 → Int32 → Int32 → (Nat → Int32) → (Nat → Int32) → (Nat → Int32) → (Nat → Int32) → (Nat → Int32) → (Nat → Int32) → (Nat → Int32) → (Nat → Int32) → (Nat → Int32) → (Nat → Int32) → (Nat → Int32) → (Nat → Int32) → Option ((Nat → Int32) × (Nat → Int32) × (Nat → Int32) × (Nat → Int32) × (Nat → Int32) × (Nat → Int32) × (Nat → Int32) × (Nat → Int32) × (Nat → Int32) × (Nat → Int32) × (Nat → Int32) × (Nat → Int32))) (v2 : Int32) (v3 : Int32) (v4 : Int32) (x33 : (Nat → Int32)) (x40 : (Nat → Int32)) (x50 : (Nat → Int32)) (x51 : (Nat → Int32)) (x52 : (Nat → Int32)) (x53 : (Nat → Int32)) (x54 : (Nat → Int32)) (x55 : (Nat → Int32)) (x56 : (Nat → Int32)) (x57 : (Nat → Int32)) (x58 : (Nat → Int32)) (x59 : (Nat → Int32)) : Option ((Nat → Int32) × (Nat → Int32) × (Nat → Int32) × (Nat → Int32) × (Nat → Int32) × (Nat → Int32) × (Nat → Int32) × (Nat → Int32) × (Nat → Int32) × (Nat → Int32) × (Nat → Int32) × (Nat → Int32)) := if (x17 4) ≤ v4 then (bn (v3 + 1) fun t_1 => (k39 v2 t_1 x33 x40 x50 x51 x52 x53 x54 x55 x56 x57 x58 x59)) else (bd1 (fX7_canHarden x49 v3 v4) fun r_2 => (if r_2 = 0 then (fX3_search_1_97 x17 x18 x46 x47 x48 x49 k39 k58 v2 v3 v4 x33 x40 x50 x51 x52 x53 x54 x55 x56 x57 x58 x59) else (bd12 (fX3_goOn_1 x17 x18 x46 x47 x48 x49 v2 v3 v4 x33 x40 x50 x51 x52 x53 x54 x55 x56 x57 x58 x59) fun x33_4 x40_5 x50_6 x51_7 x52_8 x53_9 x54_10 x55_11 x56_12 x57_13 x58_14 x59_15 => (fX3_search_1_97 x17 x18 x46 x47 x48 x49 k39 k58 v2 v3 v4 x33_4 x40_5 x50_6 x51_7 x52_8 x53_9 x54_10 x55_11 x56_12 x57_13 x58_14 x59_15))))
def fX3_search_1_58   (x17 : Nat → Int32) (x18 : Nat → Int32) (x46 : Nat → Int32) (x47 : Nat → Int32) (x48 : Nat → Int32) (x49 : Nat → Int32)  (k39 : Int32 → Int32 → (Nat → Int32) → (Nat → Int32) → (Nat → Int32) → (Nat → Int32) → (Nat → Int32) → (Nat → Int32) → (Nat → Int32) → (Nat → Int32) → (Nat → Int32) → (Nat → Int32) → (Nat → Int32) → (Nat → Int32) → Option ((Nat → Int32) × (Nat → Int32) × (Nat → Int32) × (Nat → Int32) × (Nat → Int32) × (Nat → Int32) × (Nat → Int32) × (Nat → Int32) × (Nat → Int32) × (Nat → Int32) × (Nat → Int32) × (Nat → Int32))) : Int32 → Int32 → Int32 → (Nat → Int32) → (Nat → Int32) → (Nat → Int32) → (Nat → Int32) → (Nat → Int32) → (Nat → Int32) → (Nat → Int32) → (Nat → Int32) → (Nat → Int32) → (Nat → Int32) → (Nat → Int32) → (Nat → Int32) → Option ((Nat → Int32) × (Nat → Int32) × (Nat → Int32) × (Nat → Int32) × (Nat → Int32) × (Nat → Int32) × (Nat → Int32) × (Nat → Int32) × (Nat → Int32) × (Nat → Int32) × (Nat → Int32) × (Nat → Int32)) := lq15 (fX3_search_1_58b x17 x18 x46 x47 x48 x49 k39) 5000
set_option maxHeartbeats 4000000 in
set_option maxRecDepth 100000 in
theorem wX3_search_1_58 {l : Launch} {b0 : Nat} {D : GD} {K : KT} {n : Nat} {κ : QT} {X0 : XT} {Y0 : YT} {Z : ZT} (hL : LY n κ) (hz41 : Z 41 0 = some 42 ∧ Z 41 1 = some 46 ∧ Z 41 2 = some 50 ∧ Z 41 3 = some 54) (hN : ([17, 18, 33, 40, 46, 47, 48, 49, 50, 51, 52, 53, 54, 55, 56, 57, 58, 59] : List Nat).Nodup) (hM : ([] : List Nat).Nodup) (hC : gC l b0 D K RX3 cX3_search none 5 7 189 0 0) {x17 : Nat → Int32} {x18 : Nat → Int32} {x46 : Nat → Int32} {x47 : Nat → Int32} {x48 : Nat → Int32} {x49 : Nat → Int32} {rx33 : (Nat → Int32)} {rx40 : (Nat → Int32)} {rx50 : (Nat → Int32)} {rx51 : (Nat → Int32)} {rx52 : (Nat → Int32)} {rx53 : (Nat → Int32)} {rx54 : (Nat → Int32)} {rx55 : (Nat → Int32)} {rx56 : (Nat → Int32)} {rx57 : (Nat → Int32)} {rx58 : (Nat → Int32)} {rx59 : (Nat → Int32)} (hret : ∀ pc loc, decode cX3_search pc = .ok (.return_, 1) → gV l b0 D K (n, κ, ov X0 [17, 18, 33, 40, 46, 47, 48, 49, 50, 51, 52, 53, 54, 55, 56, 57, 58, 59] [x17, x18, rx33, rx40, x46, x47, x48, x49, rx50, rx51, rx52, rx53, rx54, rx55, rx56, rx57, rx58, rx59], ov Y0 [] [], Z, 0, 0) pc loc []) {k39 : Int32 → Int32 → (Nat → Int32) → (Nat → Int32) → (Nat → Int32) → (Nat → Int32) → (Nat → Int32) → (Nat → Int32) → (Nat → Int32) → (Nat → Int32) → (Nat → Int32) → (Nat → Int32) → (Nat → Int32) → (Nat → Int32) → Option ((Nat → Int32) × (Nat → Int32) × (Nat → Int32) × (Nat → Int32) × (Nat → Int32) × (Nat → Int32) × (Nat → Int32) × (Nat → Int32) × (Nat → Int32) × (Nat → Int32) × (Nat → Int32) × (Nat → Int32))} (hk39 : ∀ (v2 : Int32) (v3 : Int32) (x33 : (Nat → Int32)) (x40 : (Nat → Int32)) (x50 : (Nat → Int32)) (x51 : (Nat → Int32)) (x52 : (Nat → Int32)) (x53 : (Nat → Int32)) (x54 : (Nat → Int32)) (x55 : (Nat → Int32)) (x56 : (Nat → Int32)) (x57 : (Nat → Int32)) (x58 : (Nat → Int32)) (x59 : (Nat → Int32)), k39 v2 v3 x33 x40 x50 x51 x52 x53 x54 x55 x56 x57 x58 x59 = some (rx33, rx40, rx50, rx51, rx52, rx53, rx54, rx55, rx56, rx57, rx58, rx59) → gV l b0 D K (n, κ, ov X0 [17, 18, 33, 40, 46, 47, 48, 49, 50, 51, 52, 53, 54, 55, 56, 57, 58, 59] [x17, x18, x33, x40, x46, x47, x48, x49, x50, x51, x52, x53, x54, x55, x56, x57, x58, x59], ov Y0 [] [], Z, 0, 0) 39 [(0, .ref (b0 + 40)), (1, .int 1), (2, .int v2), (3, .int v3)] []) : ∀ (j : Nat) (v2 : Int32) (v3 : Int32) (v4 : Int32) (x33 : (Nat → Int32)) (x40 : (Nat → Int32)) (x50 : (Nat → Int32)) (x51 : (Nat → Int32)) (x52 : (Nat → Int32)) (x53 : (Nat → Int32)) (x54 : (Nat → Int32)) (x55 : (Nat → Int32)) (x56 : (Nat → Int32)) (x57 : (Nat → Int32)) (x58 : (Nat → Int32)) (x59 : (Nat → Int32)), lq15 (fX3_search_1_58b x17 x18 x46 x47 x48 x49 k39) j v2 v3 v4 x33 x40 x50 x51 x52 x53 x54 x55 x56 x57 x58 x59 = some (rx33, rx40, rx50, rx51, rx52, rx53, rx54, rx55, rx56, rx57, rx58, rx59) → gV l b0 D K (n, κ, ov X0 [17, 18, 33, 40, 46, 47, 48, 49, 50, 51, 52, 53, 54, 55, 56, 57, 58, 59] [x17, x18, x33, x40, x46, x47, x48, x49, x50, x51, x52, x53, x54, x55, x56, x57, x58, x59], ov Y0 [] [], Z, 0, 0) 58 [(0, .ref (b0 + 40)), (1, .int 1), (2, .int v2), (3, .int v3), (4, .int v4)] [] := by
  intro j
  induction j with
  | zero => intro v2 v3 v4 x33 x40 x50 x51 x52 x53 x54 x55 x56 x57 x58 x59 hf; cases hf
  | succ j hk58 =>
    intro v2 v3 v4 x33 x40 x50 x51 x52 x53 x54 x55 x56 x57 x58 x59 hf
    replace hf : fX3_search_1_58b x17 x18 x46 x47 x48 x49 k39 (lq15 (fX3_search_1_58b x17 x18 x46 x47 x48 x49 k39) j) v2 v3 v4 x33 x40 x50 x51 x52 x53 x54 x55 x56 x57 x58 x59 = some (rx33, rx40, rx50, rx51, rx52, rx53, rx54, rx55, rx56, rx57, rx58, rx59) := hf
    unfold fX3_search_1_58b at hf
    refine g_iload hC 4 dX3_search_58 rfl ?_
    refine g_aload_n hC 0 dX3_search_60 rfl rfl ?_
    refine gt_X3_25 hC (a := 40) (kk_40 hL) (kn_40 hL) dX3_search_61 ?_
    refine g_ref (b := 32) rfl ?_
    refine gt_X3_53 hC (a := 32) (kk_32 hL) (kn_32 hL) dX3_search_64 ?_
    refine g_ref (b := 17) rfl ?_
    refine gt_X3_59 hC (x := x17) (kk_17 hL) (kn_17 hL) (ov_get hN 0 rfl rfl) dX3_search_67 ?_
    refine g_icmp_ge hC 103 dX3_search_70 (by decide) (fun hc => ?_) (fun hc => ?_)
    · replace hf := ifT hf hc
      obtain ⟨t_1, et_1, hf⟩ := bnE hf
      refine g_iinc hC (i := 3) (v := t_1) [(3, .int t_1), (0, .ref (b0 + 40)), (1, .int 1), (2, .int v2), (4, .int v4)] dX3_search_103 (q := 3) rfl ((congrArg (HAdd.hAdd v3) ic_1).trans et_1.symm) (by decide) rfl ?_
      refine g_goto hC 39 dX3_search_106 (by decide) ?_
      exact g_sub [1, 2, 3, 0] rfl (hk39 v2 t_1 x33 x40 x50 x51 x52 x53 x54 x55 x56 x57 x58 x59 hf)
    · replace hf := ifF hf hc
      refine g_aload_n hC 0 dX3_search_73 rfl rfl ?_
      refine gt_X3_12 hC (a := 40) (kk_40 hL) (kn_40 hL) dX3_search_74 ?_
      refine g_ref (b := 41) rfl ?_
      refine g_iload_n hC 1 dX3_search_77 rfl rfl ?_
      refine g_aald19 hC (L := 4) (kk_41 hL) (kn_41 hL) (inb_in (by decide)) (r := some 46) hz41.2.1 dX3_search_78 ?_
      show gV l b0 D K (n, κ, ov X0 [17, 18, 33, 40, 46, 47, 48, 49, 50, 51, 52, 53, 54, 55, 56, 57, 58, 59] [x17, x18, x33, x40, x46, x47, x48, x49, x50, x51, x52, x53, x54, x55, x56, x57, x58, x59], ov Y0 [] [], Z, 0, 0) 79 [(0, .ref (b0 + 40)), (1, .int 1), (2, .int v2), (3, .int v3), (4, .int v4)] [.ref (b0 + 46)]
      refine g_iload_n hC 3 dX3_search_79 rfl rfl ?_
      refine g_iload hC 4 dX3_search_80 rfl ?_
      obtain ⟨r_2, q_3, hf⟩ := bd1E hf
      refine g_callV_i (a := 46) hC (X' := ov X0 [17, 18, 33, 40, 46, 47, 48, 49, 50, 51, 52, 53, 54, 55, 56, 57, 58, 59] [x17, x18, x33, x40, x46, x47, x48, x49, x50, x51, x52, x53, x54, x55, x56, x57, x58, x59]) (Y' := ov Y0 [] []) (As := [.int v3, .int v4]) (gMi_eq (c_X7_canHarden l hL (kk_46 hL) (kn_46 hL) (nd_sub hN [7] (by decide) (by rfl)) (nd_sub hM [] (by decide) (by rfl)) (ov_map hN [7] (by rfl) (by rfl)) (ov_map hM [] (by rfl) (by rfl)) q_3) (ov_ovE hN (by rfl) [7] [0, 1, 2, 3, 4, 5, 6, 8, 9, 10, 11, 12, 13, 14, 15, 16, 17] (by rfl) (by rfl) [x17, x18, x33, x40, x46, x47, x48, x50, x51, x52, x53, x54, x55, x56, x57, x58, x59] (by rfl) (by rfl) (by rfl) 18 (by rfl) (by decide)) (ov_ovE hM (by rfl) [] [] (by rfl) (by rfl) [] (by rfl) (by rfl) (by rfl) 0 (by rfl) (by decide))) tw_882 tw_1050 tw_120 tw_880 tw_881 (ci := 7) rfl (by decide) (kk_46 hL) (kn_46 hL) pd_X7_canHarden (by decide) (by decide) rfl rfl (Nat.le_of_ble_eq_true rfl) rfl dX3_search_82 ?_
      refine g_if_eq hC 97 dX3_search_85 (by decide) (fun hc => ?_) (fun hc => ?_)
      · replace hf := ifT hf hc
        exact g_sub [0, 1, 2, 3, 4] rfl (wX3_search_1_97 hL hz41 hN hM hC  hret hk39 hk58 hf)
      · replace hf := ifF hf hc
        refine g_aload_n hC 0 dX3_search_88 rfl rfl ?_
        refine g_iload_n hC 1 dX3_search_89 rfl rfl ?_
        refine g_iload_n hC 2 dX3_search_90 rfl rfl ?_
        refine g_iload_n hC 3 dX3_search_91 rfl rfl ?_
        refine g_iload hC 4 dX3_search_92 rfl ?_
        obtain ⟨x33_4, x40_5, x50_6, x51_7, x52_8, x53_9, x54_10, x55_11, x56_12, x57_13, x58_14, x59_15, q_16, hf⟩ := bd12E hf
        refine g_callV_v (a := 40) hC (X' := ov X0 [17, 18, 33, 40, 46, 47, 48, 49, 50, 51, 52, 53, 54, 55, 56, 57, 58, 59] [x17, x18, x33_4, x40_5, x46, x47, x48, x49, x50_6, x51_7, x52_8, x53_9, x54_10, x55_11, x56_12, x57_13, x58_14, x59_15]) (Y' := ov Y0 [] []) (As := [.int 1, .int v2, .int v3, .int v4]) (gMv_eq (c_X3_goOn_1 l hL hz41 (ov_map hN [0, 1, 2, 3, 4, 5, 6, 7, 8, 9, 10, 11, 12, 13, 14, 15, 16, 17] (by rfl) (by rfl)) (ov_map hM [] (by rfl) (by rfl)) q_16) (ov_ovE hN (by rfl) [0, 1, 2, 3, 4, 5, 6, 7, 8, 9, 10, 11, 12, 13, 14, 15, 16, 17] [] (by rfl) (by rfl) [] (by rfl) (by rfl) (by rfl) 18 (by rfl) (by decide)) (ov_ovE hM (by rfl) [] [] (by rfl) (by rfl) [] (by rfl) (by rfl) (by rfl) 0 (by rfl) (by decide))) tw_1046 tw_1043 tw_124 tw_1045 tw_39 (ci := 3) rfl (by decide) (kk_40 hL) (kn_40 hL) pd_X3_goOn (by decide) (by decide) rfl rfl (Nat.le_of_ble_eq_true rfl) rfl dX3_search_94 ?_
        exact g_sub [0, 1, 2, 3, 4] rfl (wX3_search_1_97 hL hz41 hN hM hC  hret hk39 hk58 hf)

def fX3_search_1_39b   (x17 : Nat → Int32) (x18 : Nat → Int32) (x46 : Nat → Int32) (x47 : Nat → Int32) (x48 : Nat → Int32) (x49 : Nat → Int32)  (k39 : Int32 → Int32 → (Nat → Int32) → (Nat → Int32) → (Nat → Int32) → (Nat → Int32) → (Nat → Int32) → (Nat → Int32) → (Nat → Int32) → (Nat → Int32) → (Nat → Int32) → (Nat → Int32) → (Nat → Int32) → (Nat → Int32) → Option ((Nat → Int32) × (Nat → Int32) × (Nat → Int32) × (Nat → Int32) × (Nat → Int32) × (Nat → Int32) × (Nat → Int32) × (Nat → Int32) × (Nat → Int32) × (Nat → Int32) × (Nat → Int32) × (Nat → Int32))) (v2 : Int32) (v3 : Int32) (x33 : (Nat → Int32)) (x40 : (Nat → Int32)) (x50 : (Nat → Int32)) (x51 : (Nat → Int32)) (x52 : (Nat → Int32)) (x53 : (Nat → Int32)) (x54 : (Nat → Int32)) (x55 : (Nat → Int32)) (x56 : (Nat → Int32)) (x57 : (Nat → Int32)) (x58 : (Nat → Int32)) (x59 : (Nat → Int32)) : Option ((Nat → Int32) × (Nat → Int32) × (Nat → Int32) × (Nat → Int32) × (Nat → Int32) × (Nat → Int32) × (Nat → Int32) × (Nat → Int32) × (Nat → Int32) × (Nat → Int32) × (Nat → Int32) × (Nat → Int32)) := if (x17 4) ≤ v3 then (some (x33, x40, x50, x51, x52, x53, x54, x55, x56, x57, x58, x59)) else (bn (v3 + 1) fun t_1 => (fX3_search_1_58 x17 x18 x46 x47 x48 x49 k39 v2 v3 t_1 x33 x40 x50 x51 x52 x53 x54 x55 x56 x57 x58 x59))
def fX3_search_1_39   (x17 : Nat → Int32) (x18 : Nat → Int32) (x46 : Nat → Int32) (x47 : Nat → Int32) (x48 : Nat → Int32) (x49 : Nat → Int32)  : Int32 → Int32 → (Nat → Int32) → (Nat → Int32) → (Nat → Int32) → (Nat → Int32) → (Nat → Int32) → (Nat → Int32) → (Nat → Int32) → (Nat → Int32) → (Nat → Int32) → (Nat → Int32) → (Nat → Int32) → (Nat → Int32) → Option ((Nat → Int32) × (Nat → Int32) × (Nat → Int32) × (Nat → Int32) × (Nat → Int32) × (Nat → Int32) × (Nat → Int32) × (Nat → Int32) × (Nat → Int32) × (Nat → Int32) × (Nat → Int32) × (Nat → Int32)) := lq14 (fX3_search_1_39b x17 x18 x46 x47 x48 x49 ) 5000
set_option maxHeartbeats 4000000 in
set_option maxRecDepth 100000 in
theorem wX3_search_1_39 {l : Launch} {b0 : Nat} {D : GD} {K : KT} {n : Nat} {κ : QT} {X0 : XT} {Y0 : YT} {Z : ZT} (hL : LY n κ) (hz41 : Z 41 0 = some 42 ∧ Z 41 1 = some 46 ∧ Z 41 2 = some 50 ∧ Z 41 3 = some 54) (hN : ([17, 18, 33, 40, 46, 47, 48, 49, 50, 51, 52, 53, 54, 55, 56, 57, 58, 59] : List Nat).Nodup) (hM : ([] : List Nat).Nodup) (hC : gC l b0 D K RX3 cX3_search none 5 7 189 0 0) {x17 : Nat → Int32} {x18 : Nat → Int32} {x46 : Nat → Int32} {x47 : Nat → Int32} {x48 : Nat → Int32} {x49 : Nat → Int32} {rx33 : (Nat → Int32)} {rx40 : (Nat → Int32)} {rx50 : (Nat → Int32)} {rx51 : (Nat → Int32)} {rx52 : (Nat → Int32)} {rx53 : (Nat → Int32)} {rx54 : (Nat → Int32)} {rx55 : (Nat → Int32)} {rx56 : (Nat → Int32)} {rx57 : (Nat → Int32)} {rx58 : (Nat → Int32)} {rx59 : (Nat → Int32)} (hret : ∀ pc loc, decode cX3_search pc = .ok (.return_, 1) → gV l b0 D K (n, κ, ov X0 [17, 18, 33, 40, 46, 47, 48, 49, 50, 51, 52, 53, 54, 55, 56, 57, 58, 59] [x17, x18, rx33, rx40, x46, x47, x48, x49, rx50, rx51, rx52, rx53, rx54, rx55, rx56, rx57, rx58, rx59], ov Y0 [] [], Z, 0, 0) pc loc []) : ∀ (j : Nat) (v2 : Int32) (v3 : Int32) (x33 : (Nat → Int32)) (x40 : (Nat → Int32)) (x50 : (Nat → Int32)) (x51 : (Nat → Int32)) (x52 : (Nat → Int32)) (x53 : (Nat → Int32)) (x54 : (Nat → Int32)) (x55 : (Nat → Int32)) (x56 : (Nat → Int32)) (x57 : (Nat → Int32)) (x58 : (Nat → Int32)) (x59 : (Nat → Int32)), lq14 (fX3_search_1_39b x17 x18 x46 x47 x48 x49 ) j v2 v3 x33 x40 x50 x51 x52 x53 x54 x55 x56 x57 x58 x59 = some (rx33, rx40, rx50, rx51, rx52, rx53, rx54, rx55, rx56, rx57, rx58, rx59) → gV l b0 D K (n, κ, ov X0 [17, 18, 33, 40, 46, 47, 48, 49, 50, 51, 52, 53, 54, 55, 56, 57, 58, 59] [x17, x18, x33, x40, x46, x47, x48, x49, x50, x51, x52, x53, x54, x55, x56, x57, x58, x59], ov Y0 [] [], Z, 0, 0) 39 [(0, .ref (b0 + 40)), (1, .int 1), (2, .int v2), (3, .int v3)] [] := by
  intro j
  induction j with
  | zero => intro v2 v3 x33 x40 x50 x51 x52 x53 x54 x55 x56 x57 x58 x59 hf; cases hf
  | succ j hk39 =>
    intro v2 v3 x33 x40 x50 x51 x52 x53 x54 x55 x56 x57 x58 x59 hf
    replace hf : fX3_search_1_39b x17 x18 x46 x47 x48 x49  (lq14 (fX3_search_1_39b x17 x18 x46 x47 x48 x49 ) j) v2 v3 x33 x40 x50 x51 x52 x53 x54 x55 x56 x57 x58 x59 = some (rx33, rx40, rx50, rx51, rx52, rx53, rx54, rx55, rx56, rx57, rx58, rx59) := hf
    unfold fX3_search_1_39b at hf
    refine g_iload_n hC 3 dX3_search_39 rfl rfl ?_
    refine g_aload_n hC 0 dX3_search_40 rfl rfl ?_
    refine gt_X3_25 hC (a := 40) (kk_40 hL) (kn_40 hL) dX3_search_41 ?_
    refine g_ref (b := 32) rfl ?_
    refine gt_X3_53 hC (a := 32) (kk_32 hL) (kn_32 hL) dX3_search_44 ?_
    refine g_ref (b := 17) rfl ?_
    refine gt_X3_59 hC (x := x17) (kk_17 hL) (kn_17 hL) (ov_get hN 0 rfl rfl) dX3_search_47 ?_
    refine g_icmp_ge hC 109 dX3_search_50 (by decide) (fun hc => ?_) (fun hc => ?_)
    · replace hf := ifT hf hc
      obtain ⟨rfl, rfl, rfl, rfl, rfl, rfl, rfl, rfl, rfl, rfl, rfl, rfl⟩ := sm12E hf
      exact hret _ _ dX3_search_109
    · replace hf := ifF hf hc
      refine g_iload_n hC 3 dX3_search_53 rfl rfl ?_
      refine g_iconst hC (v := 1) dX3_search_54 ic_1 ?_
      refine g_iadd hC dX3_search_55 ?_
      obtain ⟨t_1, et_1, hf⟩ := bnE hf
      refine g_topi et_1 ?_
      refine g_istore hC (i := 4) [(4, .int t_1), (0, .ref (b0 + 40)), (1, .int 1), (2, .int v2), (3, .int v3)] dX3_search_56 (by decide) rfl ?_
      exact g_sub [1, 2, 3, 4, 0] rfl (wX3_search_1_58 hL hz41 hN hM hC  hret hk39 5000 v2 v3 t_1 x33 x40 x50 x51 x52 x53 x54 x55 x56 x57 x58 x59 hf)

def fX3_search_1_0   (x17 : Nat → Int32) (x18 : Nat → Int32) (x46 : Nat → Int32) (x47 : Nat → Int32) (x48 : Nat → Int32) (x49 : Nat → Int32)  (v2 : Int32) (x33 : (Nat → Int32)) (x40 : (Nat → Int32)) (x50 : (Nat → Int32)) (x51 : (Nat → Int32)) (x52 : (Nat → Int32)) (x53 : (Nat → Int32)) (x54 : (Nat → Int32)) (x55 : (Nat → Int32)) (x56 : (Nat → Int32)) (x57 : (Nat → Int32)) (x58 : (Nat → Int32)) (x59 : (Nat → Int32)) : Option ((Nat → Int32) × (Nat → Int32) × (Nat → Int32) × (Nat → Int32) × (Nat → Int32) × (Nat → Int32) × (Nat → Int32) × (Nat → Int32) × (Nat → Int32) × (Nat → Int32) × (Nat → Int32) × (Nat → Int32)) := if v2 ≤ 1 then (bd2 (fX3_keepIfBetter_1 x17 x47 x58 x40 x59) fun x40_1 x59_2 => (some (x33, x40_1, x50, x51, x52, x53, x54, x55, x56, x57, x58, x59_2))) else (bd12 (fX3_goOn_1 x17 x18 x46 x47 x48 x49 v2 (-1) (-1) x33 x40 x50 x51 x52 x53 x54 x55 x56 x57 x58 x59) fun x33_4 x40_5 x50_6 x51_7 x52_8 x53_9 x54_10 x55_11 x56_12 x57_13 x58_14 x59_15 => (if 0 < (x46 1) then (fX3_search_1_39 x17 x18 x46 x47 x48 x49  v2 0 x33_4 x40_5 x50_6 x51_7 x52_8 x53_9 x54_10 x55_11 x56_12 x57_13 x58_14 x59_15) else (some (x33_4, x40_5, x50_6, x51_7, x52_8, x53_9, x54_10, x55_11, x56_12, x57_13, x58_14, x59_15))))
set_option maxHeartbeats 4000000 in
set_option maxRecDepth 100000 in
theorem wX3_search_1_0 {l : Launch} {b0 : Nat} {D : GD} {K : KT} {n : Nat} {κ : QT} {X0 : XT} {Y0 : YT} {Z : ZT} (hL : LY n κ) (hz41 : Z 41 0 = some 42 ∧ Z 41 1 = some 46 ∧ Z 41 2 = some 50 ∧ Z 41 3 = some 54) (hN : ([17, 18, 33, 40, 46, 47, 48, 49, 50, 51, 52, 53, 54, 55, 56, 57, 58, 59] : List Nat).Nodup) (hM : ([] : List Nat).Nodup) (hC : gC l b0 D K RX3 cX3_search none 5 7 189 0 0) {x17 : Nat → Int32} {x18 : Nat → Int32} {x46 : Nat → Int32} {x47 : Nat → Int32} {x48 : Nat → Int32} {x49 : Nat → Int32} {rx33 : (Nat → Int32)} {rx40 : (Nat → Int32)} {rx50 : (Nat → Int32)} {rx51 : (Nat → Int32)} {rx52 : (Nat → Int32)} {rx53 : (Nat → Int32)} {rx54 : (Nat → Int32)} {rx55 : (Nat → Int32)} {rx56 : (Nat → Int32)} {rx57 : (Nat → Int32)} {rx58 : (Nat → Int32)} {rx59 : (Nat → Int32)} (hret : ∀ pc loc, decode cX3_search pc = .ok (.return_, 1) → gV l b0 D K (n, κ, ov X0 [17, 18, 33, 40, 46, 47, 48, 49, 50, 51, 52, 53, 54, 55, 56, 57, 58, 59] [x17, x18, rx33, rx40, x46, x47, x48, x49, rx50, rx51, rx52, rx53, rx54, rx55, rx56, rx57, rx58, rx59], ov Y0 [] [], Z, 0, 0) pc loc []) {v2 : Int32} {x33 : (Nat → Int32)} {x40 : (Nat → Int32)} {x50 : (Nat → Int32)} {x51 : (Nat → Int32)} {x52 : (Nat → Int32)} {x53 : (Nat → Int32)} {x54 : (Nat → Int32)} {x55 : (Nat → Int32)} {x56 : (Nat → Int32)} {x57 : (Nat → Int32)} {x58 : (Nat → Int32)} {x59 : (Nat → Int32)} (hf : fX3_search_1_0 x17 x18 x46 x47 x48 x49  v2 x33 x40 x50 x51 x52 x53 x54 x55 x56 x57 x58 x59 = some (rx33, rx40, rx50, rx51, rx52, rx53, rx54, rx55, rx56, rx57, rx58, rx59)) : gV l b0 D K (n, κ, ov X0 [17, 18, 33, 40, 46, 47, 48, 49, 50, 51, 52, 53, 54, 55, 56, 57, 58, 59] [x17, x18, x33, x40, x46, x47, x48, x49, x50, x51, x52, x53, x54, x55, x56, x57, x58, x59], ov Y0 [] [], Z, 0, 0) 0 [(0, .ref (b0 + 40)), (1, .int 1), (2, .int v2)] [] := by
  unfold fX3_search_1_0 at hf
  refine g_iload_n hC 1 dX3_search_0 rfl rfl ?_
  refine g_iload_n hC 2 dX3_search_1 rfl rfl ?_
  refine g_icmp_ge hC 10 dX3_search_2 (by decide) (fun hc => ?_) (fun hc => ?_)
  · replace hf := ifT hf hc
    refine g_aload_n hC 0 dX3_search_10 rfl rfl ?_
    refine g_iload_n hC 1 dX3_search_11 rfl rfl ?_
    obtain ⟨x40_1, x59_2, q_3, hf⟩ := bd2E hf
    refine g_callV_v (a := 40) hC (X' := ov X0 [17, 18, 33, 40, 46, 47, 48, 49, 50, 51, 52, 53, 54, 55, 56, 57, 58, 59] [x17, x18, x33, x40_1, x46, x47, x48, x49, x50, x51, x52, x53, x54, x55, x56, x57, x58, x59_2]) (Y' := ov Y0 [] []) (As := [.int 1]) (gMv_eq (c_X3_keepIfBetter_1 l hL hz41 (ov_map hN [0, 3, 5, 16, 17] (by rfl) (by rfl)) (ov_map hM [] (by rfl) (by rfl)) q_3) (ov_ovE hN (by rfl) [0, 3, 5, 16, 17] [1, 2, 4, 6, 7, 8, 9, 10, 11, 12, 13, 14, 15] (by rfl) (by rfl) [x18, x33, x46, x48, x49, x50, x51, x52, x53, x54, x55, x56, x57] (by rfl) (by rfl) (by rfl) 18 (by rfl) (by decide)) (ov_ovE hM (by rfl) [] [] (by rfl) (by rfl) [] (by rfl) (by rfl) (by rfl) 0 (by rfl) (by decide))) tw_1037 tw_1034 tw_124 tw_1036 tw_38 (ci := 3) rfl (by decide) (kk_40 hL) (kn_40 hL) pd_X3_keepIfBetter (by decide) (by decide) rfl rfl (Nat.le_of_ble_eq_true rfl) rfl dX3_search_12 ?_
    obtain ⟨rfl, rfl, rfl, rfl, rfl, rfl, rfl, rfl, rfl, rfl, rfl, rfl⟩ := sm12E hf
    exact hret _ _ dX3_search_15
  · replace hf := ifF hf hc
    refine g_iload_n hC 1 dX3_search_5 rfl rfl ?_
    refine g_iconst hC (v := 3) dX3_search_6 ic_3 ?_
    refine g_icmp_lt hC 16 dX3_search_7 (by decide) (fun _ => ?_) (fun hc => absurd (by decide) hc)
    refine g_aload_n hC 0 dX3_search_16 rfl rfl ?_
    refine g_iload_n hC 1 dX3_search_17 rfl rfl ?_
    refine g_iload_n hC 2 dX3_search_18 rfl rfl ?_
    refine g_iconst hC (v := (-1)) dX3_search_19 ic_m1 ?_
    refine g_iconst hC (v := (-1)) dX3_search_20 ic_m1 ?_
    obtain ⟨x33_4, x40_5, x50_6, x51_7, x52_8, x53_9, x54_10, x55_11, x56_12, x57_13, x58_14, x59_15, q_16, hf⟩ := bd12E hf
    refine g_callV_v (a := 40) hC (X' := ov X0 [17, 18, 33, 40, 46, 47, 48, 49, 50, 51, 52, 53, 54, 55, 56, 57, 58, 59] [x17, x18, x33_4, x40_5, x46, x47, x48, x49, x50_6, x51_7, x52_8, x53_9, x54_10, x55_11, x56_12, x57_13, x58_14, x59_15]) (Y' := ov Y0 [] []) (As := [.int 1, .int v2, .int (-1), .int (-1)]) (gMv_eq (c_X3_goOn_1 l hL hz41 (ov_map hN [0, 1, 2, 3, 4, 5, 6, 7, 8, 9, 10, 11, 12, 13, 14, 15, 16, 17] (by rfl) (by rfl)) (ov_map hM [] (by rfl) (by rfl)) q_16) (ov_ovE hN (by rfl) [0, 1, 2, 3, 4, 5, 6, 7, 8, 9, 10, 11, 12, 13, 14, 15, 16, 17] [] (by rfl) (by rfl) [] (by rfl) (by rfl) (by rfl) 18 (by rfl) (by decide)) (ov_ovE hM (by rfl) [] [] (by rfl) (by rfl) [] (by rfl) (by rfl) (by rfl) 0 (by rfl) (by decide))) tw_1046 tw_1043 tw_124 tw_1045 tw_39 (ci := 3) rfl (by decide) (kk_40 hL) (kn_40 hL) pd_X3_goOn (by decide) (by decide) rfl rfl (Nat.le_of_ble_eq_true rfl) rfl dX3_search_21 ?_
    refine g_aload_n hC 0 dX3_search_24 rfl rfl ?_
    refine gt_X3_12 hC (a := 40) (kk_40 hL) (kn_40 hL) dX3_search_25 ?_
    refine g_ref (b := 41) rfl ?_
    refine g_iload_n hC 1 dX3_search_28 rfl rfl ?_
    refine g_aald19 hC (L := 4) (kk_41 hL) (kn_41 hL) (inb_in (by decide)) (r := some 46) hz41.2.1 dX3_search_29 ?_
    show gV l b0 D K (n, κ, ov X0 [17, 18, 33, 40, 46, 47, 48, 49, 50, 51, 52, 53, 54, 55, 56, 57, 58, 59] [x17, x18, x33_4, x40_5, x46, x47, x48, x49, x50_6, x51_7, x52_8, x53_9, x54_10, x55_11, x56_12, x57_13, x58_14, x59_15], ov Y0 [] [], Z, 0, 0) 30 [(0, .ref (b0 + 40)), (1, .int 1), (2, .int v2)] [.ref (b0 + 46)]
    refine gt_X3_50 hC (x := x46) (kk_46 hL) (kn_46 hL) (ov_get hN 4 rfl rfl) dX3_search_30 ?_
    refine g_if_gt hC 37 dX3_search_33 (by decide) (fun hc => ?_) (fun hc => ?_)
    · replace hf := ifT hf hc
      refine g_iconst hC (v := 0) dX3_search_37 ic_0 ?_
      refine g_istore_n hC (i := 3) [(3, .int 0), (0, .ref (b0 + 40)), (1, .int 1), (2, .int v2)] rfl dX3_search_38 (by decide) rfl ?_
      exact g_sub [1, 2, 3, 0] rfl (wX3_search_1_39 hL hz41 hN hM hC  hret  5000 v2 0 x33_4 x40_5 x50_6 x51_7 x52_8 x53_9 x54_10 x55_11 x56_12 x57_13 x58_14 x59_15 hf)
    · replace hf := ifF hf hc
      obtain ⟨rfl, rfl, rfl, rfl, rfl, rfl, rfl, rfl, rfl, rfl, rfl, rfl⟩ := sm12E hf
      exact hret _ _ dX3_search_36

def fX3_search_1   (x17 : Nat → Int32) (x18 : Nat → Int32) (x46 : Nat → Int32) (x47 : Nat → Int32) (x48 : Nat → Int32) (x49 : Nat → Int32)  (v2 : Int32) (x33 : Nat → Int32) (x40 : Nat → Int32) (x50 : Nat → Int32) (x51 : Nat → Int32) (x52 : Nat → Int32) (x53 : Nat → Int32) (x54 : Nat → Int32) (x55 : Nat → Int32) (x56 : Nat → Int32) (x57 : Nat → Int32) (x58 : Nat → Int32) (x59 : Nat → Int32)  : Option ((Nat → Int32) × (Nat → Int32) × (Nat → Int32) × (Nat → Int32) × (Nat → Int32) × (Nat → Int32) × (Nat → Int32) × (Nat → Int32) × (Nat → Int32) × (Nat → Int32) × (Nat → Int32) × (Nat → Int32)) := fX3_search_1_0 x17 x18 x46 x47 x48 x49 v2 x33 x40 x50 x51 x52 x53 x54 x55 x56 x57 x58 x59

set_option maxHeartbeats 4000000 in
set_option maxRecDepth 100000 in
theorem c_X3_search_1 (l : Launch) {b0 : Nat} {D : GD} {n : Nat} {κ : QT} {X0 : XT} {Y0 : YT} {Z : ZT} (hL : LY n κ) (hz41 : Z 41 0 = some 42 ∧ Z 41 1 = some 46 ∧ Z 41 2 = some 50 ∧ Z 41 3 = some 54) {x17 : Nat → Int32} {x18 : Nat → Int32} {x33 : Nat → Int32} {x40 : Nat → Int32} {x46 : Nat → Int32} {x47 : Nat → Int32} {x48 : Nat → Int32} {x49 : Nat → Int32} {x50 : Nat → Int32} {x51 : Nat → Int32} {x52 : Nat → Int32} {x53 : Nat → Int32} {x54 : Nat → Int32} {x55 : Nat → Int32} {x56 : Nat → Int32} {x57 : Nat → Int32} {x58 : Nat → Int32} {x59 : Nat → Int32} (hx : ([17, 18, 33, 40, 46, 47, 48, 49, 50, 51, 52, 53, 54, 55, 56, 57, 58, 59] : List Nat).map X0 = [x17, x18, x33, x40, x46, x47, x48, x49, x50, x51, x52, x53, x54, x55, x56, x57, x58, x59]) (hy : ([] : List Nat).map Y0 = []) {v2 : Int32} {rx33 : (Nat → Int32)} {rx40 : (Nat → Int32)} {rx50 : (Nat → Int32)} {rx51 : (Nat → Int32)} {rx52 : (Nat → Int32)} {rx53 : (Nat → Int32)} {rx54 : (Nat → Int32)} {rx55 : (Nat → Int32)} {rx56 : (Nat → Int32)} {rx57 : (Nat → Int32)} {rx58 : (Nat → Int32)} {rx59 : (Nat → Int32)} (hf : fX3_search_1 x17 x18 x46 x47 x48 x49 v2 x33 x40 x50 x51 x52 x53 x54 x55 x56 x57 x58 x59 = some (rx33, rx40, rx50, rx51, rx52, rx53, rx54, rx55, rx56, rx57, rx58, rx59)) : gMv l yX3_search cX3_search 5 none 7 189 0 0 b0 D [.ref (b0 + 40), .int 1, .int v2] (n, κ, X0, Y0, Z) (n, κ, ov X0 [17, 18, 33, 40, 46, 47, 48, 49, 50, 51, 52, 53, 54, 55, 56, 57, 58, 59] [x17, x18, rx33, rx40, x46, x47, x48, x49, rx50, rx51, rx52, rx53, rx54, rx55, rx56, rx57, rx58, rx59], ov Y0 [] [], Z) := by
  have hN : ([17, 18, 33, 40, 46, 47, 48, 49, 50, 51, 52, 53, 54, 55, 56, 57, 58, 59] : List Nat).Nodup := by decide
  have hM : ([] : List Nat).Nodup := by decide
  refine g_metv (own := RX3) (by decide) rfl rfl (Nat.le_of_ble_eq_true rfl) ?_
  intro K hC hret
  have e := wX3_search_1_0 hL hz41 hN hM hC  hret hf
  rw [ov_id' hx, ov_id' hy] at e
  exact g_sub [0, 1, 2] rfl e

-- X3_goOn
def fX3_goOn_0_53   (x17 : Nat → Int32) (x18 : Nat → Int32) (x42 : Nat → Int32) (x43 : Nat → Int32) (x44 : Nat → Int32) (x45 : Nat → Int32)  (v2 : Int32) (x33 : (Nat → Int32)) (x40 : (Nat → Int32)) (x46 : (Nat → Int32)) (x47 : (Nat → Int32)) (x48 : (Nat → Int32)) (x49 : (Nat → Int32)) (x50 : (Nat → Int32)) (x51 : (Nat → Int32)) (x52 : (Nat → Int32)) (x53 : (Nat → Int32)) (x54 : (Nat → Int32)) (x55 : (Nat → Int32)) (x56 : (Nat → Int32)) (x57 : (Nat → Int32)) (x58 : (Nat → Int32)) (x59 : (Nat → Int32)) : Option ((Nat → Int32) × (Nat → Int32) × (Nat → Int32) × (Nat → Int32) × (Nat → Int32) × (Nat → Int32) × (Nat → Int32) × (Nat → Int32) × (Nat → Int32) × (Nat → Int32) × (Nat → Int32) × (Nat → Int32) × (Nat → Int32) × (Nat → Int32) × (Nat → Int32) × (Nat → Int32)) := bd1 (fX9_heatOf x46 x17 x18) fun r_1 => (bd6 (fX1_melt x17 r_1 x46 x47 x48 x49 x33) fun r_3 x46_4 x47_5 x48_6 x49_7 x33_8 => (bd12 (fX3_search_1 x17 x18 x46_4 x47_5 x48_6 x49_7 v2 x33_8 x40 x50 x51 x52 x53 x54 x55 x56 x57 x58 x59) fun x33_10 x40_11 x50_12 x51_13 x52_14 x53_15 x54_16 x55_17 x56_18 x57_19 x58_20 x59_21 => (some (x33_10, x40_11, x46_4, x47_5, x48_6, x49_7, x50_12, x51_13, x52_14, x53_15, x54_16, x55_17, x56_18, x57_19, x58_20, x59_21))))
set_option maxHeartbeats 4000000 in
set_option maxRecDepth 100000 in
theorem wX3_goOn_0_53 {l : Launch} {b0 : Nat} {D : GD} {K : KT} {n : Nat} {κ : QT} {X0 : XT} {Y0 : YT} {Z : ZT} (hL : LY n κ) (hz41 : Z 41 0 = some 42 ∧ Z 41 1 = some 46 ∧ Z 41 2 = some 50 ∧ Z 41 3 = some 54) (hN : ([17, 18, 33, 40, 42, 43, 44, 45, 46, 47, 48, 49, 50, 51, 52, 53, 54, 55, 56, 57, 58, 59] : List Nat).Nodup) (hM : ([] : List Nat).Nodup) (hC : gC l b0 D K RX3 cX3_goOn none 6 8 213 0 0) {x17 : Nat → Int32} {x18 : Nat → Int32} {x42 : Nat → Int32} {x43 : Nat → Int32} {x44 : Nat → Int32} {x45 : Nat → Int32} {rx33 : (Nat → Int32)} {rx40 : (Nat → Int32)} {rx46 : (Nat → Int32)} {rx47 : (Nat → Int32)} {rx48 : (Nat → Int32)} {rx49 : (Nat → Int32)} {rx50 : (Nat → Int32)} {rx51 : (Nat → Int32)} {rx52 : (Nat → Int32)} {rx53 : (Nat → Int32)} {rx54 : (Nat → Int32)} {rx55 : (Nat → Int32)} {rx56 : (Nat → Int32)} {rx57 : (Nat → Int32)} {rx58 : (Nat → Int32)} {rx59 : (Nat → Int32)} (hret : ∀ pc loc, decode cX3_goOn pc = .ok (.return_, 1) → gV l b0 D K (n, κ, ov X0 [17, 18, 33, 40, 42, 43, 44, 45, 46, 47, 48, 49, 50, 51, 52, 53, 54, 55, 56, 57, 58, 59] [x17, x18, rx33, rx40, x42, x43, x44, x45, rx46, rx47, rx48, rx49, rx50, rx51, rx52, rx53, rx54, rx55, rx56, rx57, rx58, rx59], ov Y0 [] [], Z, 0, 0) pc loc []) {v2 : Int32} {x33 : (Nat → Int32)} {x40 : (Nat → Int32)} {x46 : (Nat → Int32)} {x47 : (Nat → Int32)} {x48 : (Nat → Int32)} {x49 : (Nat → Int32)} {x50 : (Nat → Int32)} {x51 : (Nat → Int32)} {x52 : (Nat → Int32)} {x53 : (Nat → Int32)} {x54 : (Nat → Int32)} {x55 : (Nat → Int32)} {x56 : (Nat → Int32)} {x57 : (Nat → Int32)} {x58 : (Nat → Int32)} {x59 : (Nat → Int32)} (hf : fX3_goOn_0_53 x17 x18 x42 x43 x44 x45  v2 x33 x40 x46 x47 x48 x49 x50 x51 x52 x53 x54 x55 x56 x57 x58 x59 = some (rx33, rx40, rx46, rx47, rx48, rx49, rx50, rx51, rx52, rx53, rx54, rx55, rx56, rx57, rx58, rx59)) : gV l b0 D K (n, κ, ov X0 [17, 18, 33, 40, 42, 43, 44, 45, 46, 47, 48, 49, 50, 51, 52, 53, 54, 55, 56, 57, 58, 59] [x17, x18, x33, x40, x42, x43, x44, x45, x46, x47, x48, x49, x50, x51, x52, x53, x54, x55, x56, x57, x58, x59], ov Y0 [] [], Z, 0, 0) 53 [(0, .ref (b0 + 40)), (1, .int 0), (2, .int v2), (5, .ref (b0 + 46))] [] := by
  unfold fX3_goOn_0_53 at hf
  refine g_aload_n hC 0 dX3_goOn_53 rfl rfl ?_
  refine gt_X3_25 hC (a := 40) (kk_40 hL) (kn_40 hL) dX3_goOn_54 ?_
  refine g_ref (b := 32) rfl ?_
  refine g_aload hC 3 dX3_goOn_57 rfl ?_
  refine g_aload_n hC 0 dX3_goOn_59 rfl rfl ?_
  refine gt_X3_25 hC (a := 40) (kk_40 hL) (kn_40 hL) dX3_goOn_60 ?_
  refine g_ref (b := 32) rfl ?_
  refine gt_X3_53 hC (a := 32) (kk_32 hL) (kn_32 hL) dX3_goOn_63 ?_
  refine g_ref (b := 17) rfl ?_
  refine g_aload hC 3 dX3_goOn_66 rfl ?_
  obtain ⟨r_1, q_2, hf⟩ := bd1E hf
  refine g_callV_i (a := 17) hC (X' := ov X0 [17, 18, 33, 40, 42, 43, 44, 45, 46, 47, 48, 49, 50, 51, 52, 53, 54, 55, 56, 57, 58, 59] [x17, x18, x33, x40, x42, x43, x44, x45, x46, x47, x48, x49, x50, x51, x52, x53, x54, x55, x56, x57, x58, x59]) (Y' := ov Y0 [] []) (As := [.ref (b0 + 46)]) (gMi_eq (c_X9_heatOf l hL (kk_46 hL) (kn_46 hL) (nd_sub hN [8, 0, 1] (by decide) (by rfl)) (nd_sub hM [] (by decide) (by rfl)) (ov_map hN [8, 0, 1] (by rfl) (by rfl)) (ov_map hM [] (by rfl) (by rfl)) q_2) (ov_ovE hN (by rfl) [8, 0, 1] [2, 3, 4, 5, 6, 7, 9, 10, 11, 12, 13, 14, 15, 16, 17, 18, 19, 20, 21] (by rfl) (by rfl) [x33, x40, x42, x43, x44, x45, x47, x48, x49, x50, x51, x52, x53, x54, x55, x56, x57, x58, x59] (by rfl) (by rfl) (by rfl) 22 (by rfl) (by decide)) (ov_ovE hM (by rfl) [] [] (by rfl) (by rfl) [] (by rfl) (by rfl) (by rfl) 0 (by rfl) (by decide))) tw_806 tw_1048 tw_119 tw_804 tw_805 (ci := 9) rfl (by decide) (kk_17 hL) (kn_17 hL) pd_X9_heatOf (by decide) (by decide) rfl rfl (Nat.le_of_ble_eq_true rfl) rfl dX3_goOn_68 ?_
  obtain ⟨r_3, x46_4, x47_5, x48_6, x49_7, x33_8, q_9, hf⟩ := bd6E hf
  refine g_callV_i (a := 32) hC (X' := ov X0 [17, 18, 33, 40, 42, 43, 44, 45, 46, 47, 48, 49, 50, 51, 52, 53, 54, 55, 56, 57, 58, 59] [x17, x18, x33_8, x40, x42, x43, x44, x45, x46_4, x47_5, x48_6, x49_7, x50, x51, x52, x53, x54, x55, x56, x57, x58, x59]) (Y' := ov Y0 [] []) (As := [.ref (b0 + 46), .int r_1]) (gMi_eq (c_X1_melt l hL (kk_46 hL) (kn_46 hL) (nd_sub hN [8, 9, 10, 11, 0, 2] (by decide) (by rfl)) (nd_sub hM [] (by decide) (by rfl)) (ov_map hN [8, 9, 10, 11, 0, 2] (by rfl) (by rfl)) (ov_map hM [] (by rfl) (by rfl)) q_9) (ov_ovE hN (by rfl) [8, 9, 10, 11, 0, 2] [1, 3, 4, 5, 6, 7, 12, 13, 14, 15, 16, 17, 18, 19, 20, 21] (by rfl) (by rfl) [x18, x40, x42, x43, x44, x45, x50, x51, x52, x53, x54, x55, x56, x57, x58, x59] (by rfl) (by rfl) (by rfl) 22 (by rfl) (by decide)) (ov_ovE hM (by rfl) [] [] (by rfl) (by rfl) [] (by rfl) (by rfl) (by rfl) 0 (by rfl) (by decide))) tw_909 tw_1049 tw_123 tw_907 tw_908 (ci := 1) rfl (by decide) (kk_32 hL) (kn_32 hL) pd_X1_melt (by decide) (by decide) rfl rfl (Nat.le_of_ble_eq_true rfl) rfl dX3_goOn_71 ?_
  refine g_pop hC dX3_goOn_74 rfl ?_
  refine g_aload_n hC 0 dX3_goOn_75 rfl rfl ?_
  refine g_iload_n hC 1 dX3_goOn_76 rfl rfl ?_
  refine g_iconst hC (v := 1) dX3_goOn_77 ic_1 ?_
  refine g_iadd hC dX3_goOn_78 ?_
  refine g_topi (v := 1) (by decide) ?_
  refine g_iload_n hC 2 dX3_goOn_79 rfl rfl ?_
  obtain ⟨x33_10, x40_11, x50_12, x51_13, x52_14, x53_15, x54_16, x55_17, x56_18, x57_19, x58_20, x59_21, q_22, hf⟩ := bd12E hf
  refine g_callV_v (a := 40) hC (X' := ov X0 [17, 18, 33, 40, 42, 43, 44, 45, 46, 47, 48, 49, 50, 51, 52, 53, 54, 55, 56, 57, 58, 59] [x17, x18, x33_10, x40_11, x42, x43, x44, x45, x46_4, x47_5, x48_6, x49_7, x50_12, x51_13, x52_14, x53_15, x54_16, x55_17, x56_18, x57_19, x58_20, x59_21]) (Y' := ov Y0 [] []) (As := [.int 1, .int v2]) (gMv_eq (c_X3_search_1 l hL hz41 (ov_map hN [0, 1, 2, 3, 8, 9, 10, 11, 12, 13, 14, 15, 16, 17, 18, 19, 20, 21] (by rfl) (by rfl)) (ov_map hM [] (by rfl) (by rfl)) q_22) (ov_ovE hN (by rfl) [0, 1, 2, 3, 8, 9, 10, 11, 12, 13, 14, 15, 16, 17, 18, 19, 20, 21] [4, 5, 6, 7] (by rfl) (by rfl) [x42, x43, x44, x45] (by rfl) (by rfl) (by rfl) 22 (by rfl) (by decide)) (ov_ovE hM (by rfl) [] [] (by rfl) (by rfl) [] (by rfl) (by rfl) (by rfl) 0 (by rfl) (by decide))) tw_1033 tw_1030 tw_124 tw_1032 tw_37 (ci := 3) rfl (by decide) (kk_40 hL) (kn_40 hL) pd_X3_search (by decide) (by decide) rfl rfl (Nat.le_of_ble_eq_true rfl) rfl dX3_goOn_80 ?_
  obtain ⟨rfl, rfl, rfl, rfl, rfl, rfl, rfl, rfl, rfl, rfl, rfl, rfl, rfl, rfl, rfl, rfl⟩ := sm16E hf
  exact hret _ _ dX3_goOn_83

def fX3_goOn_0_0   (x17 : Nat → Int32) (x18 : Nat → Int32) (x42 : Nat → Int32) (x43 : Nat → Int32) (x44 : Nat → Int32) (x45 : Nat → Int32)  (v2 : Int32) (v3 : Int32) (v4 : Int32) (x33 : (Nat → Int32)) (x40 : (Nat → Int32)) (x46 : (Nat → Int32)) (x47 : (Nat → Int32)) (x48 : (Nat → Int32)) (x49 : (Nat → Int32)) (x50 : (Nat → Int32)) (x51 : (Nat → Int32)) (x52 : (Nat → Int32)) (x53 : (Nat → Int32)) (x54 : (Nat → Int32)) (x55 : (Nat → Int32)) (x56 : (Nat → Int32)) (x57 : (Nat → Int32)) (x58 : (Nat → Int32)) (x59 : (Nat → Int32)) : Option ((Nat → Int32) × (Nat → Int32) × (Nat → Int32) × (Nat → Int32) × (Nat → Int32) × (Nat → Int32) × (Nat → Int32) × (Nat → Int32) × (Nat → Int32) × (Nat → Int32) × (Nat → Int32) × (Nat → Int32) × (Nat → Int32) × (Nat → Int32) × (Nat → Int32) × (Nat → Int32)) := bd4 (fX7_copy x42 x43 x44 x45 x46 x47 x48 x49) fun x46_1 x47_2 x48_3 x49_4 => (gd (inb 0 3) (if v3 < 0 then (fX3_goOn_0_53 x17 x18 x42 x43 x44 x45  v2 x33 x40 x46_1 x47_2 x48_3 x49_4 x50 x51 x52 x53 x54 x55 x56 x57 (upd x58 (0 : Int32).toNatClampNeg (-1)) x59) else (bd2 (fX7_harden v3 v4 x46_1 x49_4) fun x46_7 x49_8 => (gd (inb 0 3) (fX3_goOn_0_53 x17 x18 x42 x43 x44 x45  v2 x33 x40 x46_7 x47_2 x48_3 x49_8 x50 x51 x52 x53 x54 x55 x56 x57 (upd (upd x58 (0 : Int32).toNatClampNeg (-1)) (0 : Int32).toNatClampNeg ((8 * v3) + v4)) x59)))))
set_option maxHeartbeats 4000000 in
set_option maxRecDepth 100000 in
theorem wX3_goOn_0_0 {l : Launch} {b0 : Nat} {D : GD} {K : KT} {n : Nat} {κ : QT} {X0 : XT} {Y0 : YT} {Z : ZT} (hL : LY n κ) (hz41 : Z 41 0 = some 42 ∧ Z 41 1 = some 46 ∧ Z 41 2 = some 50 ∧ Z 41 3 = some 54) (hN : ([17, 18, 33, 40, 42, 43, 44, 45, 46, 47, 48, 49, 50, 51, 52, 53, 54, 55, 56, 57, 58, 59] : List Nat).Nodup) (hM : ([] : List Nat).Nodup) (hC : gC l b0 D K RX3 cX3_goOn none 6 8 213 0 0) {x17 : Nat → Int32} {x18 : Nat → Int32} {x42 : Nat → Int32} {x43 : Nat → Int32} {x44 : Nat → Int32} {x45 : Nat → Int32} {rx33 : (Nat → Int32)} {rx40 : (Nat → Int32)} {rx46 : (Nat → Int32)} {rx47 : (Nat → Int32)} {rx48 : (Nat → Int32)} {rx49 : (Nat → Int32)} {rx50 : (Nat → Int32)} {rx51 : (Nat → Int32)} {rx52 : (Nat → Int32)} {rx53 : (Nat → Int32)} {rx54 : (Nat → Int32)} {rx55 : (Nat → Int32)} {rx56 : (Nat → Int32)} {rx57 : (Nat → Int32)} {rx58 : (Nat → Int32)} {rx59 : (Nat → Int32)} (hret : ∀ pc loc, decode cX3_goOn pc = .ok (.return_, 1) → gV l b0 D K (n, κ, ov X0 [17, 18, 33, 40, 42, 43, 44, 45, 46, 47, 48, 49, 50, 51, 52, 53, 54, 55, 56, 57, 58, 59] [x17, x18, rx33, rx40, x42, x43, x44, x45, rx46, rx47, rx48, rx49, rx50, rx51, rx52, rx53, rx54, rx55, rx56, rx57, rx58, rx59], ov Y0 [] [], Z, 0, 0) pc loc []) {v2 : Int32} {v3 : Int32} {v4 : Int32} {x33 : (Nat → Int32)} {x40 : (Nat → Int32)} {x46 : (Nat → Int32)} {x47 : (Nat → Int32)} {x48 : (Nat → Int32)} {x49 : (Nat → Int32)} {x50 : (Nat → Int32)} {x51 : (Nat → Int32)} {x52 : (Nat → Int32)} {x53 : (Nat → Int32)} {x54 : (Nat → Int32)} {x55 : (Nat → Int32)} {x56 : (Nat → Int32)} {x57 : (Nat → Int32)} {x58 : (Nat → Int32)} {x59 : (Nat → Int32)} (hf : fX3_goOn_0_0 x17 x18 x42 x43 x44 x45  v2 v3 v4 x33 x40 x46 x47 x48 x49 x50 x51 x52 x53 x54 x55 x56 x57 x58 x59 = some (rx33, rx40, rx46, rx47, rx48, rx49, rx50, rx51, rx52, rx53, rx54, rx55, rx56, rx57, rx58, rx59)) : gV l b0 D K (n, κ, ov X0 [17, 18, 33, 40, 42, 43, 44, 45, 46, 47, 48, 49, 50, 51, 52, 53, 54, 55, 56, 57, 58, 59] [x17, x18, x33, x40, x42, x43, x44, x45, x46, x47, x48, x49, x50, x51, x52, x53, x54, x55, x56, x57, x58, x59], ov Y0 [] [], Z, 0, 0) 0 [(0, .ref (b0 + 40)), (1, .int 0), (2, .int v2), (3, .int v3), (4, .int v4)] [] := by
  unfold fX3_goOn_0_0 at hf
  refine g_aload_n hC 0 dX3_goOn_0 rfl rfl ?_
  refine gt_X3_12 hC (a := 40) (kk_40 hL) (kn_40 hL) dX3_goOn_1 ?_
  refine g_ref (b := 41) rfl ?_
  refine g_iload_n hC 1 dX3_goOn_4 rfl rfl ?_
  refine g_iconst hC (v := 1) dX3_goOn_5 ic_1 ?_
  refine g_iadd hC dX3_goOn_6 ?_
  refine g_topi (v := 1) (by decide) ?_
  refine g_aald19 hC (L := 4) (kk_41 hL) (kn_41 hL) (inb_in (by decide)) (r := some 46) hz41.2.1 dX3_goOn_7 ?_
  show gV l b0 D K (n, κ, ov X0 [17, 18, 33, 40, 42, 43, 44, 45, 46, 47, 48, 49, 50, 51, 52, 53, 54, 55, 56, 57, 58, 59] [x17, x18, x33, x40, x42, x43, x44, x45, x46, x47, x48, x49, x50, x51, x52, x53, x54, x55, x56, x57, x58, x59], ov Y0 [] [], Z, 0, 0) 8 [(0, .ref (b0 + 40)), (1, .int 0), (2, .int v2), (3, .int v3), (4, .int v4)] [.ref (b0 + 46)]
  refine g_astore hC (i := 5) [(5, .ref (b0 + 46)), (0, .ref (b0 + 40)), (1, .int 0), (2, .int v2), (3, .int v3), (4, .int v4)] dX3_goOn_8 (by decide) rfl ?_
  refine g_aload hC 0 dX3_goOn_10 rfl ?_
  refine g_aload_n hC 1 dX3_goOn_12 rfl rfl ?_
  refine gt_X3_12 hC (a := 40) (kk_40 hL) (kn_40 hL) dX3_goOn_13 ?_
  refine g_ref (b := 41) rfl ?_
  refine g_iload_n hC 2 dX3_goOn_16 rfl rfl ?_
  refine g_aald19 hC (L := 4) (kk_41 hL) (kn_41 hL) (inb_in (by decide)) (r := some 42) hz41.1 dX3_goOn_17 ?_
  show gV l b0 D K (n, κ, ov X0 [17, 18, 33, 40, 42, 43, 44, 45, 46, 47, 48, 49, 50, 51, 52, 53, 54, 55, 56, 57, 58, 59] [x17, x18, x33, x40, x42, x43, x44, x45, x46, x47, x48, x49, x50, x51, x52, x53, x54, x55, x56, x57, x58, x59], ov Y0 [] [], Z, 0, 0) 18 [(5, .ref (b0 + 46)), (0, .ref (b0 + 40)), (1, .int 0), (2, .int v2), (3, .int v3), (4, .int v4)] [.ref (b0 + 42), .ref (b0 + 46)]
  obtain ⟨x46_1, x47_2, x48_3, x49_4, q_5, hf⟩ := bd4E hf
  refine g_callV_v (a := 46) hC (X' := ov X0 [17, 18, 33, 40, 42, 43, 44, 45, 46, 47, 48, 49, 50, 51, 52, 53, 54, 55, 56, 57, 58, 59] [x17, x18, x33, x40, x42, x43, x44, x45, x46_1, x47_2, x48_3, x49_4, x50, x51, x52, x53, x54, x55, x56, x57, x58, x59]) (Y' := ov Y0 [] []) (As := [.ref (b0 + 42)]) (gMv_eq (c_X7_copy l hL (kk_46 hL) (kn_46 hL) (kk_42 hL) (kn_42 hL) (nd_sub hN [8, 9, 10, 11, 4, 5, 6, 7] (by decide) (by rfl)) (nd_sub hM [] (by decide) (by rfl)) (ov_map hN [8, 9, 10, 11, 4, 5, 6, 7] (by rfl) (by rfl)) (ov_map hM [] (by rfl) (by rfl)) q_5) (ov_ovE hN (by rfl) [8, 9, 10, 11, 4, 5, 6, 7] [0, 1, 2, 3, 12, 13, 14, 15, 16, 17, 18, 19, 20, 21] (by rfl) (by rfl) [x17, x18, x33, x40, x50, x51, x52, x53, x54, x55, x56, x57, x58, x59] (by rfl) (by rfl) (by rfl) 22 (by rfl) (by decide)) (ov_ovE hM (by rfl) [] [] (by rfl) (by rfl) [] (by rfl) (by rfl) (by rfl) 0 (by rfl) (by decide))) tw_707 tw_1029 tw_120 tw_705 tw_706 (ci := 7) rfl (by decide) (kk_46 hL) (kn_46 hL) pd_X7_copy (by decide) (by decide) rfl rfl (Nat.le_of_ble_eq_true rfl) rfl dX3_goOn_18 ?_
  refine g_aload_n hC 1 dX3_goOn_21 rfl rfl ?_
  refine gt_X3_18 hC (a := 40) (kk_40 hL) (kn_40 hL) dX3_goOn_22 ?_
  refine g_ref (b := 58) rfl ?_
  refine g_iload_n hC 2 dX3_goOn_25 rfl rfl ?_
  refine g_iconst hC (v := (-1)) dX3_goOn_26 ic_m1 ?_
  obtain ⟨h_6, hf⟩ := gdE hf
  refine g_iast hC (x := x58) (kk_58 hL) (kn_58 hL) (ov_get hN 20 rfl rfl) (inb_in h_6) (ov_set hN (by rfl) 20 (by rfl)) dX3_goOn_27 ?_
  show gV l b0 D K (n, κ, ov X0 [17, 18, 33, 40, 42, 43, 44, 45, 46, 47, 48, 49, 50, 51, 52, 53, 54, 55, 56, 57, 58, 59] [x17, x18, x33, x40, x42, x43, x44, x45, x46_1, x47_2, x48_3, x49_4, x50, x51, x52, x53, x54, x55, x56, x57, (upd x58 (0 : Int32).toNatClampNeg (-1)), x59], ov Y0 [] [], Z, 0, 0) 28 [(5, .ref (b0 + 46)), (0, .ref (b0 + 40)), (1, .int 0), (2, .int v2), (3, .int v3), (4, .int v4)] []
  refine g_iload_n hC 4 dX3_goOn_28 rfl rfl ?_
  refine g_if_lt hC 53 dX3_goOn_29 (by decide) (fun hc => ?_) (fun hc => ?_)
  · replace hf := ifT hf hc
    exact g_sub [1, 2, 3, 0] rfl (wX3_goOn_0_53 hL hz41 hN hM hC  hret  hf)
  · replace hf := ifF hf hc
    refine g_aload hC 0 dX3_goOn_32 rfl ?_
    refine g_iload_n hC 4 dX3_goOn_34 rfl rfl ?_
    refine g_iload hC 5 dX3_goOn_35 rfl ?_
    obtain ⟨x46_7, x49_8, q_9, hf⟩ := bd2E hf
    refine g_callV_v (a := 46) hC (X' := ov X0 [17, 18, 33, 40, 42, 43, 44, 45, 46, 47, 48, 49, 50, 51, 52, 53, 54, 55, 56, 57, 58, 59] [x17, x18, x33, x40, x42, x43, x44, x45, x46_7, x47_2, x48_3, x49_8, x50, x51, x52, x53, x54, x55, x56, x57, (upd x58 (0 : Int32).toNatClampNeg (-1)), x59]) (Y' := ov Y0 [] []) (As := [.int v3, .int v4]) (gMv_eq (c_X7_harden l hL (kk_46 hL) (kn_46 hL) (nd_sub hN [8, 11] (by decide) (by rfl)) (nd_sub hM [] (by decide) (by rfl)) (ov_map hN [8, 11] (by rfl) (by rfl)) (ov_map hM [] (by rfl) (by rfl)) q_9) (ov_ovE hN (by rfl) [8, 11] [0, 1, 2, 3, 4, 5, 6, 7, 9, 10, 12, 13, 14, 15, 16, 17, 18, 19, 20, 21] (by rfl) (by rfl) [x17, x18, x33, x40, x42, x43, x44, x45, x47_2, x48_3, x50, x51, x52, x53, x54, x55, x56, x57, (upd x58 (0 : Int32).toNatClampNeg (-1)), x59] (by rfl) (by rfl) (by rfl) 22 (by rfl) (by decide)) (ov_ovE hM (by rfl) [] [] (by rfl) (by rfl) [] (by rfl) (by rfl) (by rfl) 0 (by rfl) (by decide))) tw_904 tw_1047 tw_120 tw_902 tw_903 (ci := 7) rfl (by decide) (kk_46 hL) (kn_46 hL) pd_X7_harden (by decide) (by decide) rfl rfl (Nat.le_of_ble_eq_true rfl) rfl dX3_goOn_37 ?_
    refine g_aload_n hC 1 dX3_goOn_40 rfl rfl ?_
    refine gt_X3_18 hC (a := 40) (kk_40 hL) (kn_40 hL) dX3_goOn_41 ?_
    refine g_ref (b := 58) rfl ?_
    refine g_iload_n hC 2 dX3_goOn_44 rfl rfl ?_
    refine g_bipush hC (v := 8) dX3_goOn_45 bp_8 ?_
    refine g_iload_n hC 4 dX3_goOn_47 rfl rfl ?_
    refine g_imul hC dX3_goOn_48 ?_
    refine g_iload hC 5 dX3_goOn_49 rfl ?_
    refine g_iadd hC dX3_goOn_51 ?_
    obtain ⟨h_10, hf⟩ := gdE hf
    refine g_iast hC (x := (upd x58 (0 : Int32).toNatClampNeg (-1))) (kk_58 hL) (kn_58 hL) (ov_get hN 20 rfl rfl) (inb_in h_10) (ov_set hN (by rfl) 20 (by rfl)) dX3_goOn_52 ?_
    show gV l b0 D K (n, κ, ov X0 [17, 18, 33, 40, 42, 43, 44, 45, 46, 47, 48, 49, 50, 51, 52, 53, 54, 55, 56, 57, 58, 59] [x17, x18, x33, x40, x42, x43, x44, x45, x46_7, x47_2, x48_3, x49_8, x50, x51, x52, x53, x54, x55, x56, x57, (upd (upd x58 (0 : Int32).toNatClampNeg (-1)) (0 : Int32).toNatClampNeg ((8 * v3) + v4)), x59], ov Y0 [] [], Z, 0, 0) 53 [(5, .ref (b0 + 46)), (0, .ref (b0 + 40)), (1, .int 0), (2, .int v2), (3, .int v3), (4, .int v4)] []
    exact g_sub [1, 2, 3, 0] rfl (wX3_goOn_0_53 hL hz41 hN hM hC  hret  hf)

def fX3_goOn_0   (x17 : Nat → Int32) (x18 : Nat → Int32) (x42 : Nat → Int32) (x43 : Nat → Int32) (x44 : Nat → Int32) (x45 : Nat → Int32)  (v2 : Int32) (v3 : Int32) (v4 : Int32) (x33 : Nat → Int32) (x40 : Nat → Int32) (x46 : Nat → Int32) (x47 : Nat → Int32) (x48 : Nat → Int32) (x49 : Nat → Int32) (x50 : Nat → Int32) (x51 : Nat → Int32) (x52 : Nat → Int32) (x53 : Nat → Int32) (x54 : Nat → Int32) (x55 : Nat → Int32) (x56 : Nat → Int32) (x57 : Nat → Int32) (x58 : Nat → Int32) (x59 : Nat → Int32)  : Option ((Nat → Int32) × (Nat → Int32) × (Nat → Int32) × (Nat → Int32) × (Nat → Int32) × (Nat → Int32) × (Nat → Int32) × (Nat → Int32) × (Nat → Int32) × (Nat → Int32) × (Nat → Int32) × (Nat → Int32) × (Nat → Int32) × (Nat → Int32) × (Nat → Int32) × (Nat → Int32)) := fX3_goOn_0_0 x17 x18 x42 x43 x44 x45 v2 v3 v4 x33 x40 x46 x47 x48 x49 x50 x51 x52 x53 x54 x55 x56 x57 x58 x59

set_option maxHeartbeats 4000000 in
set_option maxRecDepth 100000 in
theorem c_X3_goOn_0 (l : Launch) {b0 : Nat} {D : GD} {n : Nat} {κ : QT} {X0 : XT} {Y0 : YT} {Z : ZT} (hL : LY n κ) (hz41 : Z 41 0 = some 42 ∧ Z 41 1 = some 46 ∧ Z 41 2 = some 50 ∧ Z 41 3 = some 54) {x17 : Nat → Int32} {x18 : Nat → Int32} {x33 : Nat → Int32} {x40 : Nat → Int32} {x42 : Nat → Int32} {x43 : Nat → Int32} {x44 : Nat → Int32} {x45 : Nat → Int32} {x46 : Nat → Int32} {x47 : Nat → Int32} {x48 : Nat → Int32} {x49 : Nat → Int32} {x50 : Nat → Int32} {x51 : Nat → Int32} {x52 : Nat → Int32} {x53 : Nat → Int32} {x54 : Nat → Int32} {x55 : Nat → Int32} {x56 : Nat → Int32} {x57 : Nat → Int32} {x58 : Nat → Int32} {x59 : Nat → Int32} (hx : ([17, 18, 33, 40, 42, 43, 44, 45, 46, 47, 48, 49, 50, 51, 52, 53, 54, 55, 56, 57, 58, 59] : List Nat).map X0 = [x17, x18, x33, x40, x42, x43, x44, x45, x46, x47, x48, x49, x50, x51, x52, x53, x54, x55, x56, x57, x58, x59]) (hy : ([] : List Nat).map Y0 = []) {v2 : Int32} {v3 : Int32} {v4 : Int32} {rx33 : (Nat → Int32)} {rx40 : (Nat → Int32)} {rx46 : (Nat → Int32)} {rx47 : (Nat → Int32)} {rx48 : (Nat → Int32)} {rx49 : (Nat → Int32)} {rx50 : (Nat → Int32)} {rx51 : (Nat → Int32)} {rx52 : (Nat → Int32)} {rx53 : (Nat → Int32)} {rx54 : (Nat → Int32)} {rx55 : (Nat → Int32)} {rx56 : (Nat → Int32)} {rx57 : (Nat → Int32)} {rx58 : (Nat → Int32)} {rx59 : (Nat → Int32)} (hf : fX3_goOn_0 x17 x18 x42 x43 x44 x45 v2 v3 v4 x33 x40 x46 x47 x48 x49 x50 x51 x52 x53 x54 x55 x56 x57 x58 x59 = some (rx33, rx40, rx46, rx47, rx48, rx49, rx50, rx51, rx52, rx53, rx54, rx55, rx56, rx57, rx58, rx59)) : gMv l yX3_goOn cX3_goOn 6 none 8 213 0 0 b0 D [.ref (b0 + 40), .int 0, .int v2, .int v3, .int v4] (n, κ, X0, Y0, Z) (n, κ, ov X0 [17, 18, 33, 40, 42, 43, 44, 45, 46, 47, 48, 49, 50, 51, 52, 53, 54, 55, 56, 57, 58, 59] [x17, x18, rx33, rx40, x42, x43, x44, x45, rx46, rx47, rx48, rx49, rx50, rx51, rx52, rx53, rx54, rx55, rx56, rx57, rx58, rx59], ov Y0 [] [], Z) := by
  have hN : ([17, 18, 33, 40, 42, 43, 44, 45, 46, 47, 48, 49, 50, 51, 52, 53, 54, 55, 56, 57, 58, 59] : List Nat).Nodup := by decide
  have hM : ([] : List Nat).Nodup := by decide
  refine g_metv (own := RX3) (by decide) rfl rfl (Nat.le_of_ble_eq_true rfl) ?_
  intro K hC hret
  have e := wX3_goOn_0_0 hL hz41 hN hM hC  hret hf
  rw [ov_id' hx, ov_id' hy] at e
  exact g_sub [0, 1, 2, 3, 4] rfl e

-- X3_search
def fX3_search_0_97   (x17 : Nat → Int32) (x18 : Nat → Int32) (x42 : Nat → Int32) (x43 : Nat → Int32) (x44 : Nat → Int32) (x45 : Nat → Int32)  (k39 : Int32 → Int32 → (Nat → Int32) → (Nat → Int32) → (Nat → Int32) → (Nat → Int32) → (Nat → Int32) → (Nat → Int32) → (Nat → Int32) → (Nat → Int32) → (Nat → Int32) → (Nat → Int32) → (Nat → Int32) → (Nat → Int32) → (Nat → Int32) → (Nat → Int32) → (Nat → Int32) → (Nat → Int32) → Option ((Nat → Int32) × (Nat → Int32) × (Nat → Int32) × (Nat → Int32) × (Nat → Int32) × (Nat → Int32) × (Nat → Int32) × (Nat → Int32) × (Nat → Int32) × (Nat → Int32) × (Nat → Int32) × (Nat → Int32) × (Nat → Int32) × (Nat → Int32) × (Nat → Int32) × (Nat → Int32))) (k58 : Int32 → Int32 → Int32 → (Nat → Int32) → (Nat → Int32) → (Nat → Int32) → (Nat → Int32) → (Nat → Int32) → (Nat → Int32) → (Nat → Int32) → (Nat → Int32) → (Nat → Int32) → (Nat → Int32) → (Nat → Int32) → (Nat → Int32) → (Nat → Int32) → (Nat → Int32) → (Nat → Int32) → (Nat → Int32) → Option ((Nat → Int32) × (Nat → Int32) × (Nat → Int32) × (Nat → Int32) × (Nat → Int32) × (Nat → Int32) × (Nat → Int32) × (Nat → Int32) × (Nat → Int32) × (Nat → Int32) × (Nat → Int32) × (Nat → Int32) × (Nat → Int32) × (Nat → Int32) × (Nat → Int32) × (Nat → Int32))) (v2 : Int32) (v3 : Int32) (v4 : Int32) (x33 : (Nat → Int32)) (x40 : (Nat → Int32)) (x46 : (Nat → Int32)) (x47 : (Nat → Int32)) (x48 : (Nat → Int32)) (x49 : (Nat → Int32)) (x50 : (Nat → Int32)) (x51 : (Nat → Int32)) (x52 : (Nat → Int32)) (x53 : (Nat → Int32)) (x54 : (Nat → Int32)) (x55 : (Nat → Int32)) (x56 : (Nat → Int32)) (x57 : (Nat → Int32)) (x58 : (Nat → Int32)) (x59 : (Nat → Int32)) : Option ((Nat → Int32) × (Nat → Int32) × (Nat → Int32) × (Nat → Int32) × (Nat → Int32) × (Nat → Int32) × (Nat → Int32) × (Nat → Int32) × (Nat → Int32) × (Nat → Int32) × (Nat → Int32) × (Nat → Int32) × (Nat → Int32) × (Nat → Int32) × (Nat → Int32) × (Nat → Int32)) := bn (v4 + 1) fun t_1 => (k58 v2 v3 t_1 x33 x40 x46 x47 x48 x49 x50 x51 x52 x53 x54 x55 x56 x57 x58 x59)
set_option maxHeartbeats 4000000 in
set_option maxRecDepth 100000 in
theorem wX3_search_0_97 {l : Launch} {b0 : Nat} {D : GD} {K : KT} {n : Nat} {κ : QT} {X0 : XT} {Y0 : YT} {Z : ZT} (hL : LY n κ) (hz41 : Z 41 0 = some 42 ∧ Z 41 1 = some 46 ∧ Z 41 2 = some 50 ∧ Z 41 3 = some 54) (hN : ([17, 18, 33, 40, 42, 43, 44, 45, 46, 47, 48, 49, 50, 51, 52, 53, 54, 55, 56, 57, 58, 59] : List Nat).Nodup) (hM : ([] : List Nat).Nodup) (hC : gC l b0 D K RX3 cX3_search none 5 9 238 0 0) {x17 : Nat → Int32} {x18 : Nat → Int32} {x42 : Nat → Int32} {x43 : Nat → Int32} {x44 : Nat → Int32} {x45 : Nat → Int32} {rx33 : (Nat → Int32)} {rx40 : (Nat → Int32)} {rx46 : (Nat → Int32)} {rx47 : (Nat → Int32)} {rx48 : (Nat → Int32)} {rx49 : (Nat → Int32)} {rx50 : (Nat → Int32)} {rx51 : (Nat → Int32)} {rx52 : (Nat → Int32)} {rx53 : (Nat → Int32)} {rx54 : (Nat → Int32)} {rx55 : (Nat → Int32)} {rx56 : (Nat → Int32)} {rx57 : (Nat → Int32)} {rx58 : (Nat → Int32)} {rx59 : (Nat → Int32)} (hret : ∀ pc loc, decode cX3_search pc = .ok (.return_, 1) → gV l b0 D K (n, κ, ov X0 [17, 18, 33, 40, 42, 43, 44, 45, 46, 47, 48, 49, 50, 51, 52, 53, 54, 55, 56, 57, 58, 59] [x17, x18, rx33, rx40, x42, x43, x44, x45, rx46, rx47, rx48, rx49, rx50, rx51, rx52, rx53, rx54, rx55, rx56, rx57, rx58, rx59], ov Y0 [] [], Z, 0, 0) pc loc []) {k39 : Int32 → Int32 → (Nat → Int32) → (Nat → Int32) → (Nat → Int32) → (Nat → Int32) → (Nat → Int32) → (Nat → Int32) → (Nat → Int32) → (Nat → Int32) → (Nat → Int32) → (Nat → Int32) → (Nat → Int32) → (Nat → Int32) → (Nat → Int32) → (Nat → Int32) → (Nat → Int32) → (Nat → Int32) → Option ((Nat → Int32) × (Nat → Int32) × (Nat → Int32) × (Nat → Int32) × (Nat → Int32) × (Nat → Int32) × (Nat → Int32) × (Nat → Int32) × (Nat → Int32) × (Nat → Int32) × (Nat → Int32) × (Nat → Int32) × (Nat → Int32) × (Nat → Int32) × (Nat → Int32) × (Nat → Int32))} (hk39 : ∀ (v2 : Int32) (v3 : Int32) (x33 : (Nat → Int32)) (x40 : (Nat → Int32)) (x46 : (Nat → Int32)) (x47 : (Nat → Int32)) (x48 : (Nat → Int32)) (x49 : (Nat → Int32)) (x50 : (Nat → Int32)) (x51 : (Nat → Int32)) (x52 : (Nat → Int32)) (x53 : (Nat → Int32)) (x54 : (Nat → Int32)) (x55 : (Nat → Int32)) (x56 : (Nat → Int32)) (x57 : (Nat → Int32)) (x58 : (Nat → Int32)) (x59 : (Nat → Int32)), k39 v2 v3 x33 x40 x46 x47 x48 x49 x50 x51 x52 x53 x54 x55 x56 x57 x58 x59 = some (rx33, rx40, rx46, rx47, rx48, rx49, rx50, rx51, rx52, rx53, rx54, rx55, rx56, rx57, rx58, rx59) → gV l b0 D K (n, κ, ov X0 [17, 18, 33, 40, 42, 43, 44, 45, 46, 47, 48, 49, 50, 51, 52, 53, 54, 55, 56, 57, 58, 59] [x17, x18, x33, x40, x42, x43, x44, x45, x46, x47, x48, x49, x50, x51, x52, x53, x54, x55, x56, x57, x58, x59], ov Y0 [] [], Z, 0, 0) 39 [(0, .ref (b0 + 40)), (1, .int 0), (2, .int v2), (3, .int v3)] []) {k58 : Int32 → Int32 → Int32 → (Nat → Int32) → (Nat → Int32) → (Nat → Int32) → (Nat → Int32) → (Nat → Int32) → (Nat → Int32) → (Nat → Int32) → (Nat → Int32) → (Nat → Int32) → (Nat → Int32) → (Nat → Int32) → (Nat → Int32) → (Nat → Int32) → (Nat → Int32) → (Nat → Int32) → (Nat → Int32) → Option ((Nat → Int32) × (Nat → Int32) × (Nat → Int32) × (Nat → Int32) × (Nat → Int32) × (Nat → Int32) × (Nat → Int32) × (Nat → Int32) × (Nat → Int32) × (Nat → Int32) × (Nat → Int32) × (Nat → Int32) × (Nat → Int32) × (Nat → Int32) × (Nat → Int32) × (Nat → Int32))} (hk58 : ∀ (v2 : Int32) (v3 : Int32) (v4 : Int32) (x33 : (Nat → Int32)) (x40 : (Nat → Int32)) (x46 : (Nat → Int32)) (x47 : (Nat → Int32)) (x48 : (Nat → Int32)) (x49 : (Nat → Int32)) (x50 : (Nat → Int32)) (x51 : (Nat → Int32)) (x52 : (Nat → Int32)) (x53 : (Nat → Int32)) (x54 : (Nat → Int32)) (x55 : (Nat → Int32)) (x56 : (Nat → Int32)) (x57 : (Nat → Int32)) (x58 : (Nat → Int32)) (x59 : (Nat → Int32)), k58 v2 v3 v4 x33 x40 x46 x47 x48 x49 x50 x51 x52 x53 x54 x55 x56 x57 x58 x59 = some (rx33, rx40, rx46, rx47, rx48, rx49, rx50, rx51, rx52, rx53, rx54, rx55, rx56, rx57, rx58, rx59) → gV l b0 D K (n, κ, ov X0 [17, 18, 33, 40, 42, 43, 44, 45, 46, 47, 48, 49, 50, 51, 52, 53, 54, 55, 56, 57, 58, 59] [x17, x18, x33, x40, x42, x43, x44, x45, x46, x47, x48, x49, x50, x51, x52, x53, x54, x55, x56, x57, x58, x59], ov Y0 [] [], Z, 0, 0) 58 [(0, .ref (b0 + 40)), (1, .int 0), (2, .int v2), (3, .int v3), (4, .int v4)] []) {v2 : Int32} {v3 : Int32} {v4 : Int32} {x33 : (Nat → Int32)} {x40 : (Nat → Int32)} {x46 : (Nat → Int32)} {x47 : (Nat → Int32)} {x48 : (Nat → Int32)} {x49 : (Nat → Int32)} {x50 : (Nat → Int32)} {x51 : (Nat → Int32)} {x52 : (Nat → Int32)} {x53 : (Nat → Int32)} {x54 : (Nat → Int32)} {x55 : (Nat → Int32)} {x56 : (Nat → Int32)} {x57 : (Nat → Int32)} {x58 : (Nat → Int32)} {x59 : (Nat → Int32)} (hf : fX3_search_0_97 x17 x18 x42 x43 x44 x45 k39 k58 v2 v3 v4 x33 x40 x46 x47 x48 x49 x50 x51 x52 x53 x54 x55 x56 x57 x58 x59 = some (rx33, rx40, rx46, rx47, rx48, rx49, rx50, rx51, rx52, rx53, rx54, rx55, rx56, rx57, rx58, rx59)) : gV l b0 D K (n, κ, ov X0 [17, 18, 33, 40, 42, 43, 44, 45, 46, 47, 48, 49, 50, 51, 52, 53, 54, 55, 56, 57, 58, 59] [x17, x18, x33, x40, x42, x43, x44, x45, x46, x47, x48, x49, x50, x51, x52, x53, x54, x55, x56, x57, x58, x59], ov Y0 [] [], Z, 0, 0) 97 [(0, .ref (b0 + 40)), (1, .int 0), (2, .int v2), (3, .int v3), (4, .int v4)] [] := by
  unfold fX3_search_0_97 at hf
  obtain ⟨t_1, et_1, hf⟩ := bnE hf
  refine g_iinc hC (i := 4) (v := t_1) [(4, .int t_1), (0, .ref (b0 + 40)), (1, .int 0), (2, .int v2), (3, .int v3)] dX3_search_97 (q := 4) rfl ((congrArg (HAdd.hAdd v4) ic_1).trans et_1.symm) (by decide) rfl ?_
  refine g_goto hC 58 dX3_search_100 (by decide) ?_
  exact g_sub [1, 2, 3, 4, 0] rfl (hk58 v2 v3 t_1 x33 x40 x46 x47 x48 x49 x50 x51 x52 x53 x54 x55 x56 x57 x58 x59 hf)

def fX3_search_0_58b   (x17 : Nat → Int32) (x18 : Nat → Int32) (x42 : Nat → Int32) (x43 : Nat → Int32) (x44 : Nat → Int32) (x45 : Nat → Int32)  (k39 : Int32 → Int32 → (Nat → Int32) → (Nat → Int32) → (Nat → Int32) → (Nat → Int32) → (Nat → Int32) → (Nat → Int32) → (Nat → Int32) → (Nat → Int32) → (Nat → Int32) → (Nat → Int32) → (Nat → Int32) → (Nat → Int32) → (Nat → Int32) → (Nat → Int32) → (Nat → Int32) → (Nat → Int32) → Option ((Nat → Int32) × (Nat → Int32) × (Nat → Int32) × (Nat → Int32) × (Nat → Int32) × (Nat → Int32) × (Nat → Int32) × (Nat → Int32) × (Nat → Int32) × (Nat → Int32) × (Nat → Int32) × (Nat → Int32) × (Nat → Int32) × (Nat → Int32) × (Nat → Int32) × (Nat → Int32))) (k58 : Int32 → Int32 → Int32 → (Nat → Int32) → (Nat → Int32) → (Nat → Int32) → (Nat → Int32) → (Nat → Int32) → (Nat → Int32) → (Nat → Int32) → (Nat → Int32) → (Nat → Int32) → (Nat → Int32) → (Nat → Int32) → (Nat → Int32) → (Nat → Int32) → (Nat → Int32) → (Nat → Int32) → (Nat → Int32) → Option ((Nat → Int32) × (Nat → Int32) × (Nat → Int32) × (Nat → Int32) × (Nat → Int32) × (Nat → Int32) × (Nat → Int32) × (Nat → Int32) × (Nat → Int32) × (Nat → Int32) × (Nat → Int32) × (Nat → Int32) × (Nat → Int32) × (Nat → Int32) × (Nat → Int32) × (Nat → Int32))) (v2 : Int32) (v3 : Int32) (v4 : Int32) (x33 : (Nat → Int32)) (x40 : (Nat → Int32)) (x46 : (Nat → Int32)) (x47 : (Nat → Int32)) (x48 : (Nat → Int32)) (x49 : (Nat → Int32)) (x50 : (Nat → Int32)) (x51 : (Nat → Int32)) (x52 : (Nat → Int32)) (x53 : (Nat → Int32)) (x54 : (Nat → Int32)) (x55 : (Nat → Int32)) (x56 : (Nat → Int32)) (x57 : (Nat → Int32)) (x58 : (Nat → Int32)) (x59 : (Nat → Int32)) : Option ((Nat → Int32) × (Nat → Int32) × (Nat → Int32) × (Nat → Int32) × (Nat → Int32) × (Nat → Int32) × (Nat → Int32) × (Nat → Int32) × (Nat → Int32) × (Nat → Int32) × (Nat → Int32) × (Nat → Int32) × (Nat → Int32) × (Nat → Int32) × (Nat → Int32) × (Nat → Int32)) := if (x17 4) ≤ v4 then (bn (v3 + 1) fun t_1 => (k39 v2 t_1 x33 x40 x46 x47 x48 x49 x50 x51 x52 x53 x54 x55 x56 x57 x58 x59)) else (bd1 (fX7_canHarden x45 v3 v4) fun r_2 => (if r_2 = 0 then (fX3_search_0_97 x17 x18 x42 x43 x44 x45 k39 k58 v2 v3 v4 x33 x40 x46 x47 x48 x49 x50 x51 x52 x53 x54 x55 x56 x57 x58 x59) else (bd16 (fX3_goOn_0 x17 x18 x42 x43 x44 x45 v2 v3 v4 x33 x40 x46 x47 x48 x49 x50 x51 x52 x53 x54 x55 x56 x57 x58 x59) fun x33_4 x40_5 x46_6 x47_7 x48_8 x49_9 x50_10 x51_11 x52_12 x53_13 x54_14 x55_15 x56_16 x57_17 x58_18 x59_19 => (fX3_search_0_97 x17 x18 x42 x43 x44 x45 k39 k58 v2 v3 v4 x33_4 x40_5 x46_6 x47_7 x48_8 x49_9 x50_10 x51_11 x52_12 x53_13 x54_14 x55_15 x56_16 x57_17 x58_18 x59_19))))
def fX3_search_0_58   (x17 : Nat → Int32) (x18 : Nat → Int32) (x42 : Nat → Int32) (x43 : Nat → Int32) (x44 : Nat → Int32) (x45 : Nat → Int32)  (k39 : Int32 → Int32 → (Nat → Int32) → (Nat → Int32) → (Nat → Int32) → (Nat → Int32) → (Nat → Int32) → (Nat → Int32) → (Nat → Int32) → (Nat → Int32) → (Nat → Int32) → (Nat → Int32) → (Nat → Int32) → (Nat → Int32) → (Nat → Int32) → (Nat → Int32) → (Nat → Int32) → (Nat → Int32) → Option ((Nat → Int32) × (Nat → Int32) × (Nat → Int32) × (Nat → Int32) × (Nat → Int32) × (Nat → Int32) × (Nat → Int32) × (Nat → Int32) × (Nat → Int32) × (Nat → Int32) × (Nat → Int32) × (Nat → Int32) × (Nat → Int32) × (Nat → Int32) × (Nat → Int32) × (Nat → Int32))) : Int32 → Int32 → Int32 → (Nat → Int32) → (Nat → Int32) → (Nat → Int32) → (Nat → Int32) → (Nat → Int32) → (Nat → Int32) → (Nat → Int32) → (Nat → Int32) → (Nat → Int32) → (Nat → Int32) → (Nat → Int32) → (Nat → Int32) → (Nat → Int32) → (Nat → Int32) → (Nat → Int32) → (Nat → Int32) → Option ((Nat → Int32) × (Nat → Int32) × (Nat → Int32) × (Nat → Int32) × (Nat → Int32) × (Nat → Int32) × (Nat → Int32) × (Nat → Int32) × (Nat → Int32) × (Nat → Int32) × (Nat → Int32) × (Nat → Int32) × (Nat → Int32) × (Nat → Int32) × (Nat → Int32) × (Nat → Int32)) := lq19 (fX3_search_0_58b x17 x18 x42 x43 x44 x45 k39) 5000
set_option maxHeartbeats 4000000 in
set_option maxRecDepth 100000 in
theorem wX3_search_0_58 {l : Launch} {b0 : Nat} {D : GD} {K : KT} {n : Nat} {κ : QT} {X0 : XT} {Y0 : YT} {Z : ZT} (hL : LY n κ) (hz41 : Z 41 0 = some 42 ∧ Z 41 1 = some 46 ∧ Z 41 2 = some 50 ∧ Z 41 3 = some 54) (hN : ([17, 18, 33, 40, 42, 43, 44, 45, 46, 47, 48, 49, 50, 51, 52, 53, 54, 55, 56, 57, 58, 59] : List Nat).Nodup) (hM : ([] : List Nat).Nodup) (hC : gC l b0 D K RX3 cX3_search none 5 9 238 0 0) {x17 : Nat → Int32} {x18 : Nat → Int32} {x42 : Nat → Int32} {x43 : Nat → Int32} {x44 : Nat → Int32} {x45 : Nat → Int32} {rx33 : (Nat → Int32)} {rx40 : (Nat → Int32)} {rx46 : (Nat → Int32)} {rx47 : (Nat → Int32)} {rx48 : (Nat → Int32)} {rx49 : (Nat → Int32)} {rx50 : (Nat → Int32)} {rx51 : (Nat → Int32)} {rx52 : (Nat → Int32)} {rx53 : (Nat → Int32)} {rx54 : (Nat → Int32)} {rx55 : (Nat → Int32)} {rx56 : (Nat → Int32)} {rx57 : (Nat → Int32)} {rx58 : (Nat → Int32)} {rx59 : (Nat → Int32)} (hret : ∀ pc loc, decode cX3_search pc = .ok (.return_, 1) → gV l b0 D K (n, κ, ov X0 [17, 18, 33, 40, 42, 43, 44, 45, 46, 47, 48, 49, 50, 51, 52, 53, 54, 55, 56, 57, 58, 59] [x17, x18, rx33, rx40, x42, x43, x44, x45, rx46, rx47, rx48, rx49, rx50, rx51, rx52, rx53, rx54, rx55, rx56, rx57, rx58, rx59], ov Y0 [] [], Z, 0, 0) pc loc []) {k39 : Int32 → Int32 → (Nat → Int32) → (Nat → Int32) → (Nat → Int32) → (Nat → Int32) → (Nat → Int32) → (Nat → Int32) → (Nat → Int32) → (Nat → Int32) → (Nat → Int32) → (Nat → Int32) → (Nat → Int32) → (Nat → Int32) → (Nat → Int32) → (Nat → Int32) → (Nat → Int32) → (Nat → Int32) → Option ((Nat → Int32) × (Nat → Int32) × (Nat → Int32) × (Nat → Int32) × (Nat → Int32) × (Nat → Int32) × (Nat → Int32) × (Nat → Int32) × (Nat → Int32) × (Nat → Int32) × (Nat → Int32) × (Nat → Int32) × (Nat → Int32) × (Nat → Int32) × (Nat → Int32) × (Nat → Int32))} (hk39 : ∀ (v2 : Int32) (v3 : Int32) (x33 : (Nat → Int32)) (x40 : (Nat → Int32)) (x46 : (Nat → Int32)) (x47 : (Nat → Int32)) (x48 : (Nat → Int32)) (x49 : (Nat → Int32)) (x50 : (Nat → Int32)) (x51 : (Nat → Int32)) (x52 : (Nat → Int32)) (x53 : (Nat → Int32)) (x54 : (Nat → Int32)) (x55 : (Nat → Int32)) (x56 : (Nat → Int32)) (x57 : (Nat → Int32)) (x58 : (Nat → Int32)) (x59 : (Nat → Int32)), k39 v2 v3 x33 x40 x46 x47 x48 x49 x50 x51 x52 x53 x54 x55 x56 x57 x58 x59 = some (rx33, rx40, rx46, rx47, rx48, rx49, rx50, rx51, rx52, rx53, rx54, rx55, rx56, rx57, rx58, rx59) → gV l b0 D K (n, κ, ov X0 [17, 18, 33, 40, 42, 43, 44, 45, 46, 47, 48, 49, 50, 51, 52, 53, 54, 55, 56, 57, 58, 59] [x17, x18, x33, x40, x42, x43, x44, x45, x46, x47, x48, x49, x50, x51, x52, x53, x54, x55, x56, x57, x58, x59], ov Y0 [] [], Z, 0, 0) 39 [(0, .ref (b0 + 40)), (1, .int 0), (2, .int v2), (3, .int v3)] []) : ∀ (j : Nat) (v2 : Int32) (v3 : Int32) (v4 : Int32) (x33 : (Nat → Int32)) (x40 : (Nat → Int32)) (x46 : (Nat → Int32)) (x47 : (Nat → Int32)) (x48 : (Nat → Int32)) (x49 : (Nat → Int32)) (x50 : (Nat → Int32)) (x51 : (Nat → Int32)) (x52 : (Nat → Int32)) (x53 : (Nat → Int32)) (x54 : (Nat → Int32)) (x55 : (Nat → Int32)) (x56 : (Nat → Int32)) (x57 : (Nat → Int32)) (x58 : (Nat → Int32)) (x59 : (Nat → Int32)), lq19 (fX3_search_0_58b x17 x18 x42 x43 x44 x45 k39) j v2 v3 v4 x33 x40 x46 x47 x48 x49 x50 x51 x52 x53 x54 x55 x56 x57 x58 x59 = some (rx33, rx40, rx46, rx47, rx48, rx49, rx50, rx51, rx52, rx53, rx54, rx55, rx56, rx57, rx58, rx59) → gV l b0 D K (n, κ, ov X0 [17, 18, 33, 40, 42, 43, 44, 45, 46, 47, 48, 49, 50, 51, 52, 53, 54, 55, 56, 57, 58, 59] [x17, x18, x33, x40, x42, x43, x44, x45, x46, x47, x48, x49, x50, x51, x52, x53, x54, x55, x56, x57, x58, x59], ov Y0 [] [], Z, 0, 0) 58 [(0, .ref (b0 + 40)), (1, .int 0), (2, .int v2), (3, .int v3), (4, .int v4)] [] := by
  intro j
  induction j with
  | zero => intro v2 v3 v4 x33 x40 x46 x47 x48 x49 x50 x51 x52 x53 x54 x55 x56 x57 x58 x59 hf; cases hf
  | succ j hk58 =>
    intro v2 v3 v4 x33 x40 x46 x47 x48 x49 x50 x51 x52 x53 x54 x55 x56 x57 x58 x59 hf
    replace hf : fX3_search_0_58b x17 x18 x42 x43 x44 x45 k39 (lq19 (fX3_search_0_58b x17 x18 x42 x43 x44 x45 k39) j) v2 v3 v4 x33 x40 x46 x47 x48 x49 x50 x51 x52 x53 x54 x55 x56 x57 x58 x59 = some (rx33, rx40, rx46, rx47, rx48, rx49, rx50, rx51, rx52, rx53, rx54, rx55, rx56, rx57, rx58, rx59) := hf
    unfold fX3_search_0_58b at hf
    refine g_iload hC 4 dX3_search_58 rfl ?_
    refine g_aload_n hC 0 dX3_search_60 rfl rfl ?_
    refine gt_X3_25 hC (a := 40) (kk_40 hL) (kn_40 hL) dX3_search_61 ?_
    refine g_ref (b := 32) rfl ?_
    refine gt_X3_53 hC (a := 32) (kk_32 hL) (kn_32 hL) dX3_search_64 ?_
    refine g_ref (b := 17) rfl ?_
    refine gt_X3_59 hC (x := x17) (kk_17 hL) (kn_17 hL) (ov_get hN 0 rfl rfl) dX3_search_67 ?_
    refine g_icmp_ge hC 103 dX3_search_70 (by decide) (fun hc => ?_) (fun hc => ?_)
    · replace hf := ifT hf hc
      obtain ⟨t_1, et_1, hf⟩ := bnE hf
      refine g_iinc hC (i := 3) (v := t_1) [(3, .int t_1), (0, .ref (b0 + 40)), (1, .int 0), (2, .int v2), (4, .int v4)] dX3_search_103 (q := 3) rfl ((congrArg (HAdd.hAdd v3) ic_1).trans et_1.symm) (by decide) rfl ?_
      refine g_goto hC 39 dX3_search_106 (by decide) ?_
      exact g_sub [1, 2, 3, 0] rfl (hk39 v2 t_1 x33 x40 x46 x47 x48 x49 x50 x51 x52 x53 x54 x55 x56 x57 x58 x59 hf)
    · replace hf := ifF hf hc
      refine g_aload_n hC 0 dX3_search_73 rfl rfl ?_
      refine gt_X3_12 hC (a := 40) (kk_40 hL) (kn_40 hL) dX3_search_74 ?_
      refine g_ref (b := 41) rfl ?_
      refine g_iload_n hC 1 dX3_search_77 rfl rfl ?_
      refine g_aald19 hC (L := 4) (kk_41 hL) (kn_41 hL) (inb_in (by decide)) (r := some 42) hz41.1 dX3_search_78 ?_
      show gV l b0 D K (n, κ, ov X0 [17, 18, 33, 40, 42, 43, 44, 45, 46, 47, 48, 49, 50, 51, 52, 53, 54, 55, 56, 57, 58, 59] [x17, x18, x33, x40, x42, x43, x44, x45, x46, x47, x48, x49, x50, x51, x52, x53, x54, x55, x56, x57, x58, x59], ov Y0 [] [], Z, 0, 0) 79 [(0, .ref (b0 + 40)), (1, .int 0), (2, .int v2), (3, .int v3), (4, .int v4)] [.ref (b0 + 42)]
      refine g_iload_n hC 3 dX3_search_79 rfl rfl ?_
      refine g_iload hC 4 dX3_search_80 rfl ?_
      obtain ⟨r_2, q_3, hf⟩ := bd1E hf
      refine g_callV_i (a := 42) hC (X' := ov X0 [17, 18, 33, 40, 42, 43, 44, 45, 46, 47, 48, 49, 50, 51, 52, 53, 54, 55, 56, 57, 58, 59] [x17, x18, x33, x40, x42, x43, x44, x45, x46, x47, x48, x49, x50, x51, x52, x53, x54, x55, x56, x57, x58, x59]) (Y' := ov Y0 [] []) (As := [.int v3, .int v4]) (gMi_eq (c_X7_canHarden l hL (kk_42 hL) (kn_42 hL) (nd_sub hN [7] (by decide) (by rfl)) (nd_sub hM [] (by decide) (by rfl)) (ov_map hN [7] (by rfl) (by rfl)) (ov_map hM [] (by rfl) (by rfl)) q_3) (ov_ovE hN (by rfl) [7] [0, 1, 2, 3, 4, 5, 6, 8, 9, 10, 11, 12, 13, 14, 15, 16, 17, 18, 19, 20, 21] (by rfl) (by rfl) [x17, x18, x33, x40, x42, x43, x44, x46, x47, x48, x49, x50, x51, x52, x53, x54, x55, x56, x57, x58, x59] (by rfl) (by rfl) (by rfl) 22 (by rfl) (by decide)) (ov_ovE hM (by rfl) [] [] (by rfl) (by rfl) [] (by rfl) (by rfl) (by rfl) 0 (by rfl) (by decide))) tw_882 tw_1050 tw_120 tw_880 tw_881 (ci := 7) rfl (by decide) (kk_42 hL) (kn_42 hL) pd_X7_canHarden (by decide) (by decide) rfl rfl (Nat.le_of_ble_eq_true rfl) rfl dX3_search_82 ?_
      refine g_if_eq hC 97 dX3_search_85 (by decide) (fun hc => ?_) (fun hc => ?_)
      · replace hf := ifT hf hc
        exact g_sub [0, 1, 2, 3, 4] rfl (wX3_search_0_97 hL hz41 hN hM hC  hret hk39 hk58 hf)
      · replace hf := ifF hf hc
        refine g_aload_n hC 0 dX3_search_88 rfl rfl ?_
        refine g_iload_n hC 1 dX3_search_89 rfl rfl ?_
        refine g_iload_n hC 2 dX3_search_90 rfl rfl ?_
        refine g_iload_n hC 3 dX3_search_91 rfl rfl ?_
        refine g_iload hC 4 dX3_search_92 rfl ?_
        obtain ⟨x33_4, x40_5, x46_6, x47_7, x48_8, x49_9, x50_10, x51_11, x52_12, x53_13, x54_14, x55_15, x56_16, x57_17, x58_18, x59_19, q_20, hf⟩ := bd16E hf
        refine g_callV_v (a := 40) hC (X' := ov X0 [17, 18, 33, 40, 42, 43, 44, 45, 46, 47, 48, 49, 50, 51, 52, 53, 54, 55, 56, 57, 58, 59] [x17, x18, x33_4, x40_5, x42, x43, x44, x45, x46_6, x47_7, x48_8, x49_9, x50_10, x51_11, x52_12, x53_13, x54_14, x55_15, x56_16, x57_17, x58_18, x59_19]) (Y' := ov Y0 [] []) (As := [.int 0, .int v2, .int v3, .int v4]) (gMv_eq (c_X3_goOn_0 l hL hz41 (ov_map hN [0, 1, 2, 3, 4, 5, 6, 7, 8, 9, 10, 11, 12, 13, 14, 15, 16, 17, 18, 19, 20, 21] (by rfl) (by rfl)) (ov_map hM [] (by rfl) (by rfl)) q_20) (ov_ovE hN (by rfl) [0, 1, 2, 3, 4, 5, 6, 7, 8, 9, 10, 11, 12, 13, 14, 15, 16, 17, 18, 19, 20, 21] [] (by rfl) (by rfl) [] (by rfl) (by rfl) (by rfl) 22 (by rfl) (by decide)) (ov_ovE hM (by rfl) [] [] (by rfl) (by rfl) [] (by rfl) (by rfl) (by rfl) 0 (by rfl) (by decide))) tw_1046 tw_1043 tw_124 tw_1045 tw_39 (ci := 3) rfl (by decide) (kk_40 hL) (kn_40 hL) pd_X3_goOn (by decide) (by decide) rfl rfl (Nat.le_of_ble_eq_true rfl) rfl dX3_search_94 ?_
        exact g_sub [0, 1, 2, 3, 4] rfl (wX3_search_0_97 hL hz41 hN hM hC  hret hk39 hk58 hf)

def fX3_search_0_39b   (x17 : Nat → Int32) (x18 : Nat → Int32) (x42 : Nat → Int32) (x43 : Nat → Int32) (x44 : Nat → Int32) (x45 : Nat → Int32)  (k39 : Int32 → Int32 → (Nat → Int32) → (Nat → Int32) → (Nat → Int32) → (Nat → Int32) → (Nat → Int32) → (Nat → Int32) → (Nat → Int32) → (Nat → Int32) → (Nat → Int32) → (Nat → Int32) → (Nat → Int32) → (Nat → Int32) → (Nat → Int32) → (Nat → Int32) → (Nat → Int32) → (Nat → Int32) → Option ((Nat → Int32) × (Nat → Int32) × (Nat → Int32) × (Nat → Int32) × (Nat → Int32) × (Nat → Int32) × (Nat → Int32) × (Nat → Int32) × (Nat → Int32) × (Nat → Int32) × (Nat → Int32) × (Nat → Int32) × (Nat → Int32) × (Nat → Int32) × (Nat → Int32) × (Nat → Int32))) (v2 : Int32) (v3 : Int32) (x33 : (Nat → Int32)) (x40 : (Nat → Int32)) (x46 : (Nat → Int32)) (x47 : (Nat → Int32)) (x48 : (Nat → Int32)) (x49 : (Nat → Int32)) (x50 : (Nat → Int32)) (x51 : (Nat → Int32)) (x52 : (Nat → Int32)) (x53 : (Nat → Int32)) (x54 : (Nat → Int32)) (x55 : (Nat → Int32)) (x56 : (Nat → Int32)) (x57 : (Nat → Int32)) (x58 : (Nat → Int32)) (x59 : (Nat → Int32)) : Option ((Nat → Int32) × (Nat → Int32) × (Nat → Int32) × (Nat → Int32) × (Nat → Int32) × (Nat → Int32) × (Nat → Int32) × (Nat → Int32) × (Nat → Int32) × (Nat → Int32) × (Nat → Int32) × (Nat → Int32) × (Nat → Int32) × (Nat → Int32) × (Nat → Int32) × (Nat → Int32)) := if (x17 4) ≤ v3 then (some (x33, x40, x46, x47, x48, x49, x50, x51, x52, x53, x54, x55, x56, x57, x58, x59)) else (bn (v3 + 1) fun t_1 => (fX3_search_0_58 x17 x18 x42 x43 x44 x45 k39 v2 v3 t_1 x33 x40 x46 x47 x48 x49 x50 x51 x52 x53 x54 x55 x56 x57 x58 x59))
def fX3_search_0_39   (x17 : Nat → Int32) (x18 : Nat → Int32) (x42 : Nat → Int32) (x43 : Nat → Int32) (x44 : Nat → Int32) (x45 : Nat → Int32)  : Int32 → Int32 → (Nat → Int32) → (Nat → Int32) → (Nat → Int32) → (Nat → Int32) → (Nat → Int32) → (Nat → Int32) → (Nat → Int32) → (Nat → Int32) → (Nat → Int32) → (Nat → Int32) → (Nat → Int32) → (Nat → Int32) → (Nat → Int32) → (Nat → Int32) → (Nat → Int32) → (Nat → Int32) → Option ((Nat → Int32) × (Nat → Int32) × (Nat → Int32) × (Nat → Int32) × (Nat → Int32) × (Nat → Int32) × (Nat → Int32) × (Nat → Int32) × (Nat → Int32) × (Nat → Int32) × (Nat → Int32) × (Nat → Int32) × (Nat → Int32) × (Nat → Int32) × (Nat → Int32) × (Nat → Int32)) := lq18 (fX3_search_0_39b x17 x18 x42 x43 x44 x45 ) 5000
set_option maxHeartbeats 4000000 in
set_option maxRecDepth 100000 in
theorem wX3_search_0_39 {l : Launch} {b0 : Nat} {D : GD} {K : KT} {n : Nat} {κ : QT} {X0 : XT} {Y0 : YT} {Z : ZT} (hL : LY n κ) (hz41 : Z 41 0 = some 42 ∧ Z 41 1 = some 46 ∧ Z 41 2 = some 50 ∧ Z 41 3 = some 54) (hN : ([17, 18, 33, 40, 42, 43, 44, 45, 46, 47, 48, 49, 50, 51, 52, 53, 54, 55, 56, 57, 58, 59] : List Nat).Nodup) (hM : ([] : List Nat).Nodup) (hC : gC l b0 D K RX3 cX3_search none 5 9 238 0 0) {x17 : Nat → Int32} {x18 : Nat → Int32} {x42 : Nat → Int32} {x43 : Nat → Int32} {x44 : Nat → Int32} {x45 : Nat → Int32} {rx33 : (Nat → Int32)} {rx40 : (Nat → Int32)} {rx46 : (Nat → Int32)} {rx47 : (Nat → Int32)} {rx48 : (Nat → Int32)} {rx49 : (Nat → Int32)} {rx50 : (Nat → Int32)} {rx51 : (Nat → Int32)} {rx52 : (Nat → Int32)} {rx53 : (Nat → Int32)} {rx54 : (Nat → Int32)} {rx55 : (Nat → Int32)} {rx56 : (Nat → Int32)} {rx57 : (Nat → Int32)} {rx58 : (Nat → Int32)} {rx59 : (Nat → Int32)} (hret : ∀ pc loc, decode cX3_search pc = .ok (.return_, 1) → gV l b0 D K (n, κ, ov X0 [17, 18, 33, 40, 42, 43, 44, 45, 46, 47, 48, 49, 50, 51, 52, 53, 54, 55, 56, 57, 58, 59] [x17, x18, rx33, rx40, x42, x43, x44, x45, rx46, rx47, rx48, rx49, rx50, rx51, rx52, rx53, rx54, rx55, rx56, rx57, rx58, rx59], ov Y0 [] [], Z, 0, 0) pc loc []) : ∀ (j : Nat) (v2 : Int32) (v3 : Int32) (x33 : (Nat → Int32)) (x40 : (Nat → Int32)) (x46 : (Nat → Int32)) (x47 : (Nat → Int32)) (x48 : (Nat → Int32)) (x49 : (Nat → Int32)) (x50 : (Nat → Int32)) (x51 : (Nat → Int32)) (x52 : (Nat → Int32)) (x53 : (Nat → Int32)) (x54 : (Nat → Int32)) (x55 : (Nat → Int32)) (x56 : (Nat → Int32)) (x57 : (Nat → Int32)) (x58 : (Nat → Int32)) (x59 : (Nat → Int32)), lq18 (fX3_search_0_39b x17 x18 x42 x43 x44 x45 ) j v2 v3 x33 x40 x46 x47 x48 x49 x50 x51 x52 x53 x54 x55 x56 x57 x58 x59 = some (rx33, rx40, rx46, rx47, rx48, rx49, rx50, rx51, rx52, rx53, rx54, rx55, rx56, rx57, rx58, rx59) → gV l b0 D K (n, κ, ov X0 [17, 18, 33, 40, 42, 43, 44, 45, 46, 47, 48, 49, 50, 51, 52, 53, 54, 55, 56, 57, 58, 59] [x17, x18, x33, x40, x42, x43, x44, x45, x46, x47, x48, x49, x50, x51, x52, x53, x54, x55, x56, x57, x58, x59], ov Y0 [] [], Z, 0, 0) 39 [(0, .ref (b0 + 40)), (1, .int 0), (2, .int v2), (3, .int v3)] [] := by
  intro j
  induction j with
  | zero => intro v2 v3 x33 x40 x46 x47 x48 x49 x50 x51 x52 x53 x54 x55 x56 x57 x58 x59 hf; cases hf
  | succ j hk39 =>
    intro v2 v3 x33 x40 x46 x47 x48 x49 x50 x51 x52 x53 x54 x55 x56 x57 x58 x59 hf
    replace hf : fX3_search_0_39b x17 x18 x42 x43 x44 x45  (lq18 (fX3_search_0_39b x17 x18 x42 x43 x44 x45 ) j) v2 v3 x33 x40 x46 x47 x48 x49 x50 x51 x52 x53 x54 x55 x56 x57 x58 x59 = some (rx33, rx40, rx46, rx47, rx48, rx49, rx50, rx51, rx52, rx53, rx54, rx55, rx56, rx57, rx58, rx59) := hf
    unfold fX3_search_0_39b at hf
    refine g_iload_n hC 3 dX3_search_39 rfl rfl ?_
    refine g_aload_n hC 0 dX3_search_40 rfl rfl ?_
    refine gt_X3_25 hC (a := 40) (kk_40 hL) (kn_40 hL) dX3_search_41 ?_
    refine g_ref (b := 32) rfl ?_
    refine gt_X3_53 hC (a := 32) (kk_32 hL) (kn_32 hL) dX3_search_44 ?_
    refine g_ref (b := 17) rfl ?_
    refine gt_X3_59 hC (x := x17) (kk_17 hL) (kn_17 hL) (ov_get hN 0 rfl rfl) dX3_search_47 ?_
    refine g_icmp_ge hC 109 dX3_search_50 (by decide) (fun hc => ?_) (fun hc => ?_)
    · replace hf := ifT hf hc
      obtain ⟨rfl, rfl, rfl, rfl, rfl, rfl, rfl, rfl, rfl, rfl, rfl, rfl, rfl, rfl, rfl, rfl⟩ := sm16E hf
      exact hret _ _ dX3_search_109
    · replace hf := ifF hf hc
      refine g_iload_n hC 3 dX3_search_53 rfl rfl ?_
      refine g_iconst hC (v := 1) dX3_search_54 ic_1 ?_
      refine g_iadd hC dX3_search_55 ?_
      obtain ⟨t_1, et_1, hf⟩ := bnE hf
      refine g_topi et_1 ?_
      refine g_istore hC (i := 4) [(4, .int t_1), (0, .ref (b0 + 40)), (1, .int 0), (2, .int v2), (3, .int v3)] dX3_search_56 (by decide) rfl ?_
      exact g_sub [1, 2, 3, 4, 0] rfl (wX3_search_0_58 hL hz41 hN hM hC  hret hk39 5000 v2 v3 t_1 x33 x40 x46 x47 x48 x49 x50 x51 x52 x53 x54 x55 x56 x57 x58 x59 hf)

def fX3_search_0_0   (x17 : Nat → Int32) (x18 : Nat → Int32) (x42 : Nat → Int32) (x43 : Nat → Int32) (x44 : Nat → Int32) (x45 : Nat → Int32)  (v2 : Int32) (x33 : (Nat → Int32)) (x40 : (Nat → Int32)) (x46 : (Nat → Int32)) (x47 : (Nat → Int32)) (x48 : (Nat → Int32)) (x49 : (Nat → Int32)) (x50 : (Nat → Int32)) (x51 : (Nat → Int32)) (x52 : (Nat → Int32)) (x53 : (Nat → Int32)) (x54 : (Nat → Int32)) (x55 : (Nat → Int32)) (x56 : (Nat → Int32)) (x57 : (Nat → Int32)) (x58 : (Nat → Int32)) (x59 : (Nat → Int32)) : Option ((Nat → Int32) × (Nat → Int32) × (Nat → Int32) × (Nat → Int32) × (Nat → Int32) × (Nat → Int32) × (Nat → Int32) × (Nat → Int32) × (Nat → Int32) × (Nat → Int32) × (Nat → Int32) × (Nat → Int32) × (Nat → Int32) × (Nat → Int32) × (Nat → Int32) × (Nat → Int32)) := if v2 ≤ 0 then (bd2 (fX3_keepIfBetter_0 x17 x43 x58 x40 x59) fun x40_1 x59_2 => (some (x33, x40_1, x46, x47, x48, x49, x50, x51, x52, x53, x54, x55, x56, x57, x58, x59_2))) else (bd16 (fX3_goOn_0 x17 x18 x42 x43 x44 x45 v2 (-1) (-1) x33 x40 x46 x47 x48 x49 x50 x51 x52 x53 x54 x55 x56 x57 x58 x59) fun x33_4 x40_5 x46_6 x47_7 x48_8 x49_9 x50_10 x51_11 x52_12 x53_13 x54_14 x55_15 x56_16 x57_17 x58_18 x59_19 => (if 0 < (x42 1) then (fX3_search_0_39 x17 x18 x42 x43 x44 x45  v2 0 x33_4 x40_5 x46_6 x47_7 x48_8 x49_9 x50_10 x51_11 x52_12 x53_13 x54_14 x55_15 x56_16 x57_17 x58_18 x59_19) else (some (x33_4, x40_5, x46_6, x47_7, x48_8, x49_9, x50_10, x51_11, x52_12, x53_13, x54_14, x55_15, x56_16, x57_17, x58_18, x59_19))))
set_option maxHeartbeats 4000000 in
set_option maxRecDepth 100000 in
theorem wX3_search_0_0 {l : Launch} {b0 : Nat} {D : GD} {K : KT} {n : Nat} {κ : QT} {X0 : XT} {Y0 : YT} {Z : ZT} (hL : LY n κ) (hz41 : Z 41 0 = some 42 ∧ Z 41 1 = some 46 ∧ Z 41 2 = some 50 ∧ Z 41 3 = some 54) (hN : ([17, 18, 33, 40, 42, 43, 44, 45, 46, 47, 48, 49, 50, 51, 52, 53, 54, 55, 56, 57, 58, 59] : List Nat).Nodup) (hM : ([] : List Nat).Nodup) (hC : gC l b0 D K RX3 cX3_search none 5 9 238 0 0) {x17 : Nat → Int32} {x18 : Nat → Int32} {x42 : Nat → Int32} {x43 : Nat → Int32} {x44 : Nat → Int32} {x45 : Nat → Int32} {rx33 : (Nat → Int32)} {rx40 : (Nat → Int32)} {rx46 : (Nat → Int32)} {rx47 : (Nat → Int32)} {rx48 : (Nat → Int32)} {rx49 : (Nat → Int32)} {rx50 : (Nat → Int32)} {rx51 : (Nat → Int32)} {rx52 : (Nat → Int32)} {rx53 : (Nat → Int32)} {rx54 : (Nat → Int32)} {rx55 : (Nat → Int32)} {rx56 : (Nat → Int32)} {rx57 : (Nat → Int32)} {rx58 : (Nat → Int32)} {rx59 : (Nat → Int32)} (hret : ∀ pc loc, decode cX3_search pc = .ok (.return_, 1) → gV l b0 D K (n, κ, ov X0 [17, 18, 33, 40, 42, 43, 44, 45, 46, 47, 48, 49, 50, 51, 52, 53, 54, 55, 56, 57, 58, 59] [x17, x18, rx33, rx40, x42, x43, x44, x45, rx46, rx47, rx48, rx49, rx50, rx51, rx52, rx53, rx54, rx55, rx56, rx57, rx58, rx59], ov Y0 [] [], Z, 0, 0) pc loc []) {v2 : Int32} {x33 : (Nat → Int32)} {x40 : (Nat → Int32)} {x46 : (Nat → Int32)} {x47 : (Nat → Int32)} {x48 : (Nat → Int32)} {x49 : (Nat → Int32)} {x50 : (Nat → Int32)} {x51 : (Nat → Int32)} {x52 : (Nat → Int32)} {x53 : (Nat → Int32)} {x54 : (Nat → Int32)} {x55 : (Nat → Int32)} {x56 : (Nat → Int32)} {x57 : (Nat → Int32)} {x58 : (Nat → Int32)} {x59 : (Nat → Int32)} (hf : fX3_search_0_0 x17 x18 x42 x43 x44 x45  v2 x33 x40 x46 x47 x48 x49 x50 x51 x52 x53 x54 x55 x56 x57 x58 x59 = some (rx33, rx40, rx46, rx47, rx48, rx49, rx50, rx51, rx52, rx53, rx54, rx55, rx56, rx57, rx58, rx59)) : gV l b0 D K (n, κ, ov X0 [17, 18, 33, 40, 42, 43, 44, 45, 46, 47, 48, 49, 50, 51, 52, 53, 54, 55, 56, 57, 58, 59] [x17, x18, x33, x40, x42, x43, x44, x45, x46, x47, x48, x49, x50, x51, x52, x53, x54, x55, x56, x57, x58, x59], ov Y0 [] [], Z, 0, 0) 0 [(0, .ref (b0 + 40)), (1, .int 0), (2, .int v2)] [] := by
  unfold fX3_search_0_0 at hf
  refine g_iload_n hC 1 dX3_search_0 rfl rfl ?_
  refine g_iload_n hC 2 dX3_search_1 rfl rfl ?_
  refine g_icmp_ge hC 10 dX3_search_2 (by decide) (fun hc => ?_) (fun hc => ?_)
  · replace hf := ifT hf hc
    refine g_aload_n hC 0 dX3_search_10 rfl rfl ?_
    refine g_iload_n hC 1 dX3_search_11 rfl rfl ?_
    obtain ⟨x40_1, x59_2, q_3, hf⟩ := bd2E hf
    refine g_callV_v (a := 40) hC (X' := ov X0 [17, 18, 33, 40, 42, 43, 44, 45, 46, 47, 48, 49, 50, 51, 52, 53, 54, 55, 56, 57, 58, 59] [x17, x18, x33, x40_1, x42, x43, x44, x45, x46, x47, x48, x49, x50, x51, x52, x53, x54, x55, x56, x57, x58, x59_2]) (Y' := ov Y0 [] []) (As := [.int 0]) (gMv_eq (c_X3_keepIfBetter_0 l hL hz41 (ov_map hN [0, 3, 5, 20, 21] (by rfl) (by rfl)) (ov_map hM [] (by rfl) (by rfl)) q_3) (ov_ovE hN (by rfl) [0, 3, 5, 20, 21] [1, 2, 4, 6, 7, 8, 9, 10, 11, 12, 13, 14, 15, 16, 17, 18, 19] (by rfl) (by rfl) [x18, x33, x42, x44, x45, x46, x47, x48, x49, x50, x51, x52, x53, x54, x55, x56, x57] (by rfl) (by rfl) (by rfl) 22 (by rfl) (by decide)) (ov_ovE hM (by rfl) [] [] (by rfl) (by rfl) [] (by rfl) (by rfl) (by rfl) 0 (by rfl) (by decide))) tw_1037 tw_1034 tw_124 tw_1036 tw_38 (ci := 3) rfl (by decide) (kk_40 hL) (kn_40 hL) pd_X3_keepIfBetter (by decide) (by decide) rfl rfl (Nat.le_of_ble_eq_true rfl) rfl dX3_search_12 ?_
    obtain ⟨rfl, rfl, rfl, rfl, rfl, rfl, rfl, rfl, rfl, rfl, rfl, rfl, rfl, rfl, rfl, rfl⟩ := sm16E hf
    exact hret _ _ dX3_search_15
  · replace hf := ifF hf hc
    refine g_iload_n hC 1 dX3_search_5 rfl rfl ?_
    refine g_iconst hC (v := 3) dX3_search_6 ic_3 ?_
    refine g_icmp_lt hC 16 dX3_search_7 (by decide) (fun _ => ?_) (fun hc => absurd (by decide) hc)
    refine g_aload_n hC 0 dX3_search_16 rfl rfl ?_
    refine g_iload_n hC 1 dX3_search_17 rfl rfl ?_
    refine g_iload_n hC 2 dX3_search_18 rfl rfl ?_
    refine g_iconst hC (v := (-1)) dX3_search_19 ic_m1 ?_
    refine g_iconst hC (v := (-1)) dX3_search_20 ic_m1 ?_
    obtain ⟨x33_4, x40_5, x46_6, x47_7, x48_8, x49_9, x50_10, x51_11, x52_12, x53_13, x54_14, x55_15, x56_16, x57_17, x58_18, x59_19, q_20, hf⟩ := bd16E hf
    refine g_callV_v (a := 40) hC (X' := ov X0 [17, 18, 33, 40, 42, 43, 44, 45, 46, 47, 48, 49, 50, 51, 52, 53, 54, 55, 56, 57, 58, 59] [x17, x18, x33_4, x40_5, x42, x43, x44, x45, x46_6, x47_7, x48_8, x49_9, x50_10, x51_11, x52_12, x53_13, x54_14, x55_15, x56_16, x57_17, x58_18, x59_19]) (Y' := ov Y0 [] []) (As := [.int 0, .int v2, .int (-1), .int (-1)]) (gMv_eq (c_X3_goOn_0 l hL hz41 (ov_map hN [0, 1, 2, 3, 4, 5, 6, 7, 8, 9, 10, 11, 12, 13, 14, 15, 16, 17, 18, 19, 20, 21] (by rfl) (by rfl)) (ov_map hM [] (by rfl) (by rfl)) q_20) (ov_ovE hN (by rfl) [0, 1, 2, 3, 4, 5, 6, 7, 8, 9, 10, 11, 12, 13, 14, 15, 16, 17, 18, 19, 20, 21] [] (by rfl) (by rfl) [] (by rfl) (by rfl) (by rfl) 22 (by rfl) (by decide)) (ov_ovE hM (by rfl) [] [] (by rfl) (by rfl) [] (by rfl) (by rfl) (by rfl) 0 (by rfl) (by decide))) tw_1046 tw_1043 tw_124 tw_1045 tw_39 (ci := 3) rfl (by decide) (kk_40 hL) (kn_40 hL) pd_X3_goOn (by decide) (by decide) rfl rfl (Nat.le_of_ble_eq_true rfl) rfl dX3_search_21 ?_
    refine g_aload_n hC 0 dX3_search_24 rfl rfl ?_
    refine gt_X3_12 hC (a := 40) (kk_40 hL) (kn_40 hL) dX3_search_25 ?_
    refine g_ref (b := 41) rfl ?_
    refine g_iload_n hC 1 dX3_search_28 rfl rfl ?_
    refine g_aald19 hC (L := 4) (kk_41 hL) (kn_41 hL) (inb_in (by decide)) (r := some 42) hz41.1 dX3_search_29 ?_
    show gV l b0 D K (n, κ, ov X0 [17, 18, 33, 40, 42, 43, 44, 45, 46, 47, 48, 49, 50, 51, 52, 53, 54, 55, 56, 57, 58, 59] [x17, x18, x33_4, x40_5, x42, x43, x44, x45, x46_6, x47_7, x48_8, x49_9, x50_10, x51_11, x52_12, x53_13, x54_14, x55_15, x56_16, x57_17, x58_18, x59_19], ov Y0 [] [], Z, 0, 0) 30 [(0, .ref (b0 + 40)), (1, .int 0), (2, .int v2)] [.ref (b0 + 42)]
    refine gt_X3_50 hC (x := x42) (kk_42 hL) (kn_42 hL) (ov_get hN 4 rfl rfl) dX3_search_30 ?_
    refine g_if_gt hC 37 dX3_search_33 (by decide) (fun hc => ?_) (fun hc => ?_)
    · replace hf := ifT hf hc
      refine g_iconst hC (v := 0) dX3_search_37 ic_0 ?_
      refine g_istore_n hC (i := 3) [(3, .int 0), (0, .ref (b0 + 40)), (1, .int 0), (2, .int v2)] rfl dX3_search_38 (by decide) rfl ?_
      exact g_sub [1, 2, 3, 0] rfl (wX3_search_0_39 hL hz41 hN hM hC  hret  5000 v2 0 x33_4 x40_5 x46_6 x47_7 x48_8 x49_9 x50_10 x51_11 x52_12 x53_13 x54_14 x55_15 x56_16 x57_17 x58_18 x59_19 hf)
    · replace hf := ifF hf hc
      obtain ⟨rfl, rfl, rfl, rfl, rfl, rfl, rfl, rfl, rfl, rfl, rfl, rfl, rfl, rfl, rfl, rfl⟩ := sm16E hf
      exact hret _ _ dX3_search_36

def fX3_search_0   (x17 : Nat → Int32) (x18 : Nat → Int32) (x42 : Nat → Int32) (x43 : Nat → Int32) (x44 : Nat → Int32) (x45 : Nat → Int32)  (v2 : Int32) (x33 : Nat → Int32) (x40 : Nat → Int32) (x46 : Nat → Int32) (x47 : Nat → Int32) (x48 : Nat → Int32) (x49 : Nat → Int32) (x50 : Nat → Int32) (x51 : Nat → Int32) (x52 : Nat → Int32) (x53 : Nat → Int32) (x54 : Nat → Int32) (x55 : Nat → Int32) (x56 : Nat → Int32) (x57 : Nat → Int32) (x58 : Nat → Int32) (x59 : Nat → Int32)  : Option ((Nat → Int32) × (Nat → Int32) × (Nat → Int32) × (Nat → Int32) × (Nat → Int32) × (Nat → Int32) × (Nat → Int32) × (Nat → Int32) × (Nat → Int32) × (Nat → Int32) × (Nat → Int32) × (Nat → Int32) × (Nat → Int32) × (Nat → Int32) × (Nat → Int32) × (Nat → Int32)) := fX3_search_0_0 x17 x18 x42 x43 x44 x45 v2 x33 x40 x46 x47 x48 x49 x50 x51 x52 x53 x54 x55 x56 x57 x58 x59

set_option maxHeartbeats 4000000 in
set_option maxRecDepth 100000 in
theorem c_X3_search_0 (l : Launch) {b0 : Nat} {D : GD} {n : Nat} {κ : QT} {X0 : XT} {Y0 : YT} {Z : ZT} (hL : LY n κ) (hz41 : Z 41 0 = some 42 ∧ Z 41 1 = some 46 ∧ Z 41 2 = some 50 ∧ Z 41 3 = some 54) {x17 : Nat → Int32} {x18 : Nat → Int32} {x33 : Nat → Int32} {x40 : Nat → Int32} {x42 : Nat → Int32} {x43 : Nat → Int32} {x44 : Nat → Int32} {x45 : Nat → Int32} {x46 : Nat → Int32} {x47 : Nat → Int32} {x48 : Nat → Int32} {x49 : Nat → Int32} {x50 : Nat → Int32} {x51 : Nat → Int32} {x52 : Nat → Int32} {x53 : Nat → Int32} {x54 : Nat → Int32} {x55 : Nat → Int32} {x56 : Nat → Int32} {x57 : Nat → Int32} {x58 : Nat → Int32} {x59 : Nat → Int32} (hx : ([17, 18, 33, 40, 42, 43, 44, 45, 46, 47, 48, 49, 50, 51, 52, 53, 54, 55, 56, 57, 58, 59] : List Nat).map X0 = [x17, x18, x33, x40, x42, x43, x44, x45, x46, x47, x48, x49, x50, x51, x52, x53, x54, x55, x56, x57, x58, x59]) (hy : ([] : List Nat).map Y0 = []) {v2 : Int32} {rx33 : (Nat → Int32)} {rx40 : (Nat → Int32)} {rx46 : (Nat → Int32)} {rx47 : (Nat → Int32)} {rx48 : (Nat → Int32)} {rx49 : (Nat → Int32)} {rx50 : (Nat → Int32)} {rx51 : (Nat → Int32)} {rx52 : (Nat → Int32)} {rx53 : (Nat → Int32)} {rx54 : (Nat → Int32)} {rx55 : (Nat → Int32)} {rx56 : (Nat → Int32)} {rx57 : (Nat → Int32)} {rx58 : (Nat → Int32)} {rx59 : (Nat → Int32)} (hf : fX3_search_0 x17 x18 x42 x43 x44 x45 v2 x33 x40 x46 x47 x48 x49 x50 x51 x52 x53 x54 x55 x56 x57 x58 x59 = some (rx33, rx40, rx46, rx47, rx48, rx49, rx50, rx51, rx52, rx53, rx54, rx55, rx56, rx57, rx58, rx59)) : gMv l yX3_search cX3_search 5 none 9 238 0 0 b0 D [.ref (b0 + 40), .int 0, .int v2] (n, κ, X0, Y0, Z) (n, κ, ov X0 [17, 18, 33, 40, 42, 43, 44, 45, 46, 47, 48, 49, 50, 51, 52, 53, 54, 55, 56, 57, 58, 59] [x17, x18, rx33, rx40, x42, x43, x44, x45, rx46, rx47, rx48, rx49, rx50, rx51, rx52, rx53, rx54, rx55, rx56, rx57, rx58, rx59], ov Y0 [] [], Z) := by
  have hN : ([17, 18, 33, 40, 42, 43, 44, 45, 46, 47, 48, 49, 50, 51, 52, 53, 54, 55, 56, 57, 58, 59] : List Nat).Nodup := by decide
  have hM : ([] : List Nat).Nodup := by decide
  refine g_metv (own := RX3) (by decide) rfl rfl (Nat.le_of_ble_eq_true rfl) ?_
  intro K hC hret
  have e := wX3_search_0_0 hL hz41 hN hM hC  hret hf
  rw [ov_id' hx, ov_id' hy] at e
  exact g_sub [0, 1, 2] rfl e

-- X3_find
def fX3_find_0   (x17 : Nat → Int32) (x18 : Nat → Int32) (x23 : Nat → Int32) (x24 : Nat → Int32) (x25 : Nat → Int32) (x26 : Nat → Int32)  (v2 : Int32) (x33 : (Nat → Int32)) (x40 : (Nat → Int32)) (x42 : (Nat → Int32)) (x43 : (Nat → Int32)) (x44 : (Nat → Int32)) (x45 : (Nat → Int32)) (x46 : (Nat → Int32)) (x47 : (Nat → Int32)) (x48 : (Nat → Int32)) (x49 : (Nat → Int32)) (x50 : (Nat → Int32)) (x51 : (Nat → Int32)) (x52 : (Nat → Int32)) (x53 : (Nat → Int32)) (x54 : (Nat → Int32)) (x55 : (Nat → Int32)) (x56 : (Nat → Int32)) (x57 : (Nat → Int32)) (x58 : (Nat → Int32)) (x59 : (Nat → Int32)) : Option ((Nat → Int32) × (Nat → Int32) × (Nat → Int32) × (Nat → Int32) × (Nat → Int32) × (Nat → Int32) × (Nat → Int32) × (Nat → Int32) × (Nat → Int32) × (Nat → Int32) × (Nat → Int32) × (Nat → Int32) × (Nat → Int32) × (Nat → Int32) × (Nat → Int32) × (Nat → Int32) × (Nat → Int32) × (Nat → Int32) × (Nat → Int32) × (Nat → Int32)) := bd4 (fX7_copy x23 x24 x25 x26 x42 x43 x44 x45) fun x42_1 x43_2 x44_3 x45_4 => (bd16 (fX3_search_0 x17 x18 x42_1 x43_2 x44_3 x45_4 v2 x33 (upd x40 4 1000000) x46 x47 x48 x49 x50 x51 x52 x53 x54 x55 x56 x57 x58 x59) fun x33_6 x40_7 x46_8 x47_9 x48_10 x49_11 x50_12 x51_13 x52_14 x53_15 x54_16 x55_17 x56_18 x57_19 x58_20 x59_21 => (some (x33_6, x40_7, x42_1, x43_2, x44_3, x45_4, x46_8, x47_9, x48_10, x49_11, x50_12, x51_13, x52_14, x53_15, x54_16, x55_17, x56_18, x57_19, x58_20, x59_21)))
set_option maxHeartbeats 4000000 in
set_option maxRecDepth 100000 in
theorem wX3_find_0 {l : Launch} {b0 : Nat} {D : GD} {K : KT} {n : Nat} {κ : QT} {X0 : XT} {Y0 : YT} {Z : ZT} (hL : LY n κ) (hz41 : Z 41 0 = some 42 ∧ Z 41 1 = some 46 ∧ Z 41 2 = some 50 ∧ Z 41 3 = some 54) (hN : ([17, 18, 23, 24, 25, 26, 33, 40, 42, 43, 44, 45, 46, 47, 48, 49, 50, 51, 52, 53, 54, 55, 56, 57, 58, 59] : List Nat).Nodup) (hM : ([] : List Nat).Nodup) (hC : gC l b0 D K RX3 cX3_find none 3 10 262 0 0) {x17 : Nat → Int32} {x18 : Nat → Int32} {x23 : Nat → Int32} {x24 : Nat → Int32} {x25 : Nat → Int32} {x26 : Nat → Int32} {rx33 : (Nat → Int32)} {rx40 : (Nat → Int32)} {rx42 : (Nat → Int32)} {rx43 : (Nat → Int32)} {rx44 : (Nat → Int32)} {rx45 : (Nat → Int32)} {rx46 : (Nat → Int32)} {rx47 : (Nat → Int32)} {rx48 : (Nat → Int32)} {rx49 : (Nat → Int32)} {rx50 : (Nat → Int32)} {rx51 : (Nat → Int32)} {rx52 : (Nat → Int32)} {rx53 : (Nat → Int32)} {rx54 : (Nat → Int32)} {rx55 : (Nat → Int32)} {rx56 : (Nat → Int32)} {rx57 : (Nat → Int32)} {rx58 : (Nat → Int32)} {rx59 : (Nat → Int32)} (hret : ∀ pc loc, decode cX3_find pc = .ok (.return_, 1) → gV l b0 D K (n, κ, ov X0 [17, 18, 23, 24, 25, 26, 33, 40, 42, 43, 44, 45, 46, 47, 48, 49, 50, 51, 52, 53, 54, 55, 56, 57, 58, 59] [x17, x18, x23, x24, x25, x26, rx33, rx40, rx42, rx43, rx44, rx45, rx46, rx47, rx48, rx49, rx50, rx51, rx52, rx53, rx54, rx55, rx56, rx57, rx58, rx59], ov Y0 [] [], Z, 0, 0) pc loc []) {v2 : Int32} {x33 : (Nat → Int32)} {x40 : (Nat → Int32)} {x42 : (Nat → Int32)} {x43 : (Nat → Int32)} {x44 : (Nat → Int32)} {x45 : (Nat → Int32)} {x46 : (Nat → Int32)} {x47 : (Nat → Int32)} {x48 : (Nat → Int32)} {x49 : (Nat → Int32)} {x50 : (Nat → Int32)} {x51 : (Nat → Int32)} {x52 : (Nat → Int32)} {x53 : (Nat → Int32)} {x54 : (Nat → Int32)} {x55 : (Nat → Int32)} {x56 : (Nat → Int32)} {x57 : (Nat → Int32)} {x58 : (Nat → Int32)} {x59 : (Nat → Int32)} (hf : fX3_find_0 x17 x18 x23 x24 x25 x26  v2 x33 x40 x42 x43 x44 x45 x46 x47 x48 x49 x50 x51 x52 x53 x54 x55 x56 x57 x58 x59 = some (rx33, rx40, rx42, rx43, rx44, rx45, rx46, rx47, rx48, rx49, rx50, rx51, rx52, rx53, rx54, rx55, rx56, rx57, rx58, rx59)) : gV l b0 D K (n, κ, ov X0 [17, 18, 23, 24, 25, 26, 33, 40, 42, 43, 44, 45, 46, 47, 48, 49, 50, 51, 52, 53, 54, 55, 56, 57, 58, 59] [x17, x18, x23, x24, x25, x26, x33, x40, x42, x43, x44, x45, x46, x47, x48, x49, x50, x51, x52, x53, x54, x55, x56, x57, x58, x59], ov Y0 [] [], Z, 0, 0) 0 [(0, .ref (b0 + 40)), (1, .ref (b0 + 23)), (2, .int v2)] [] := by
  unfold fX3_find_0 at hf
  refine g_aload_n hC 0 dX3_find_0 rfl rfl ?_
  refine g_ldc hC (v := 1000000) tw_1028 dX3_find_1 ?_
  refine pt_X3_30 hC (x := x40) (kk_40 hL) (kn_40 hL) (ov_get hN 7 rfl rfl) (ov_set hN (by rfl) 7 (by rfl)) dX3_find_3 ?_
  show gV l b0 D K (n, κ, ov X0 [17, 18, 23, 24, 25, 26, 33, 40, 42, 43, 44, 45, 46, 47, 48, 49, 50, 51, 52, 53, 54, 55, 56, 57, 58, 59] [x17, x18, x23, x24, x25, x26, x33, (upd x40 4 1000000), x42, x43, x44, x45, x46, x47, x48, x49, x50, x51, x52, x53, x54, x55, x56, x57, x58, x59], ov Y0 [] [], Z, 0, 0) 6 [(0, .ref (b0 + 40)), (1, .ref (b0 + 23)), (2, .int v2)] []
  refine g_aload_n hC 0 dX3_find_6 rfl rfl ?_
  refine gt_X3_12 hC (a := 40) (kk_40 hL) (kn_40 hL) dX3_find_7 ?_
  refine g_ref (b := 41) rfl ?_
  refine g_iconst hC (v := 0) dX3_find_10 ic_0 ?_
  refine g_aald19 hC (L := 4) (kk_41 hL) (kn_41 hL) (inb_in (by decide)) (r := some 42) hz41.1 dX3_find_11 ?_
  show gV l b0 D K (n, κ, ov X0 [17, 18, 23, 24, 25, 26, 33, 40, 42, 43, 44, 45, 46, 47, 48, 49, 50, 51, 52, 53, 54, 55, 56, 57, 58, 59] [x17, x18, x23, x24, x25, x26, x33, (upd x40 4 1000000), x42, x43, x44, x45, x46, x47, x48, x49, x50, x51, x52, x53, x54, x55, x56, x57, x58, x59], ov Y0 [] [], Z, 0, 0) 12 [(0, .ref (b0 + 40)), (1, .ref (b0 + 23)), (2, .int v2)] [.ref (b0 + 42)]
  refine g_aload_n hC 1 dX3_find_12 rfl rfl ?_
  obtain ⟨x42_1, x43_2, x44_3, x45_4, q_5, hf⟩ := bd4E hf
  refine g_callV_v (a := 42) hC (X' := ov X0 [17, 18, 23, 24, 25, 26, 33, 40, 42, 43, 44, 45, 46, 47, 48, 49, 50, 51, 52, 53, 54, 55, 56, 57, 58, 59] [x17, x18, x23, x24, x25, x26, x33, (upd x40 4 1000000), x42_1, x43_2, x44_3, x45_4, x46, x47, x48, x49, x50, x51, x52, x53, x54, x55, x56, x57, x58, x59]) (Y' := ov Y0 [] []) (As := [.ref (b0 + 23)]) (gMv_eq (c_X7_copy l hL (kk_42 hL) (kn_42 hL) (kk_23 hL) (kn_23 hL) (nd_sub hN [8, 9, 10, 11, 2, 3, 4, 5] (by decide) (by rfl)) (nd_sub hM [] (by decide) (by rfl)) (ov_map hN [8, 9, 10, 11, 2, 3, 4, 5] (by rfl) (by rfl)) (ov_map hM [] (by rfl) (by rfl)) q_5) (ov_ovE hN (by rfl) [8, 9, 10, 11, 2, 3, 4, 5] [0, 1, 6, 7, 12, 13, 14, 15, 16, 17, 18, 19, 20, 21, 22, 23, 24, 25] (by rfl) (by rfl) [x17, x18, x33, (upd x40 4 1000000), x46, x47, x48, x49, x50, x51, x52, x53, x54, x55, x56, x57, x58, x59] (by rfl) (by rfl) (by rfl) 26 (by rfl) (by decide)) (ov_ovE hM (by rfl) [] [] (by rfl) (by rfl) [] (by rfl) (by rfl) (by rfl) 0 (by rfl) (by decide))) tw_707 tw_1029 tw_120 tw_705 tw_706 (ci := 7) rfl (by decide) (kk_42 hL) (kn_42 hL) pd_X7_copy (by decide) (by decide) rfl rfl (Nat.le_of_ble_eq_true rfl) rfl dX3_find_13 ?_
  refine g_aload_n hC 0 dX3_find_16 rfl rfl ?_
  refine g_iconst hC (v := 0) dX3_find_17 ic_0 ?_
  refine g_iload_n hC 2 dX3_find_18 rfl rfl ?_
  obtain ⟨x33_6, x40_7, x46_8, x47_9, x48_10, x49_11, x50_12, x51_13, x52_14, x53_15, x54_16, x55_17, x56_18, x57_19, x58_20, x59_21, q_22, hf⟩ := bd16E hf
  refine g_callV_v (a := 40) hC (X' := ov X0 [17, 18, 23, 24, 25, 26, 33, 40, 42, 43, 44, 45, 46, 47, 48, 49, 50, 51, 52, 53, 54, 55, 56, 57, 58, 59] [x17, x18, x23, x24, x25, x26, x33_6, x40_7, x42_1, x43_2, x44_3, x45_4, x46_8, x47_9, x48_10, x49_11, x50_12, x51_13, x52_14, x53_15, x54_16, x55_17, x56_18, x57_19, x58_20, x59_21]) (Y' := ov Y0 [] []) (As := [.int 0, .int v2]) (gMv_eq (c_X3_search_0 l hL hz41 (ov_map hN [0, 1, 6, 7, 8, 9, 10, 11, 12, 13, 14, 15, 16, 17, 18, 19, 20, 21, 22, 23, 24, 25] (by rfl) (by rfl)) (ov_map hM [] (by rfl) (by rfl)) q_22) (ov_ovE hN (by rfl) [0, 1, 6, 7, 8, 9, 10, 11, 12, 13, 14, 15, 16, 17, 18, 19, 20, 21, 22, 23, 24, 25] [2, 3, 4, 5] (by rfl) (by rfl) [x23, x24, x25, x26] (by rfl) (by rfl) (by rfl) 26 (by rfl) (by decide)) (ov_ovE hM (by rfl) [] [] (by rfl) (by rfl) [] (by rfl) (by rfl) (by rfl) 0 (by rfl) (by decide))) tw_1033 tw_1030 tw_124 tw_1032 tw_37 (ci := 3) rfl (by decide) (kk_40 hL) (kn_40 hL) pd_X3_search (by decide) (by decide) rfl rfl (Nat.le_of_ble_eq_true rfl) rfl dX3_find_19 ?_
  obtain ⟨rfl, rfl, rfl, rfl, rfl, rfl, rfl, rfl, rfl, rfl, rfl, rfl, rfl, rfl, rfl, rfl, rfl, rfl, rfl, rfl⟩ := sm20E hf
  exact hret _ _ dX3_find_22

def fX3_find   (x17 : Nat → Int32) (x18 : Nat → Int32) (x23 : Nat → Int32) (x24 : Nat → Int32) (x25 : Nat → Int32) (x26 : Nat → Int32)  (v2 : Int32) (x33 : Nat → Int32) (x40 : Nat → Int32) (x42 : Nat → Int32) (x43 : Nat → Int32) (x44 : Nat → Int32) (x45 : Nat → Int32) (x46 : Nat → Int32) (x47 : Nat → Int32) (x48 : Nat → Int32) (x49 : Nat → Int32) (x50 : Nat → Int32) (x51 : Nat → Int32) (x52 : Nat → Int32) (x53 : Nat → Int32) (x54 : Nat → Int32) (x55 : Nat → Int32) (x56 : Nat → Int32) (x57 : Nat → Int32) (x58 : Nat → Int32) (x59 : Nat → Int32)  : Option ((Nat → Int32) × (Nat → Int32) × (Nat → Int32) × (Nat → Int32) × (Nat → Int32) × (Nat → Int32) × (Nat → Int32) × (Nat → Int32) × (Nat → Int32) × (Nat → Int32) × (Nat → Int32) × (Nat → Int32) × (Nat → Int32) × (Nat → Int32) × (Nat → Int32) × (Nat → Int32) × (Nat → Int32) × (Nat → Int32) × (Nat → Int32) × (Nat → Int32)) := fX3_find_0 x17 x18 x23 x24 x25 x26 v2 x33 x40 x42 x43 x44 x45 x46 x47 x48 x49 x50 x51 x52 x53 x54 x55 x56 x57 x58 x59

set_option maxHeartbeats 4000000 in
set_option maxRecDepth 100000 in
theorem c_X3_find (l : Launch) {b0 : Nat} {D : GD} {n : Nat} {κ : QT} {X0 : XT} {Y0 : YT} {Z : ZT} (hL : LY n κ) (hz41 : Z 41 0 = some 42 ∧ Z 41 1 = some 46 ∧ Z 41 2 = some 50 ∧ Z 41 3 = some 54) {x17 : Nat → Int32} {x18 : Nat → Int32} {x23 : Nat → Int32} {x24 : Nat → Int32} {x25 : Nat → Int32} {x26 : Nat → Int32} {x33 : Nat → Int32} {x40 : Nat → Int32} {x42 : Nat → Int32} {x43 : Nat → Int32} {x44 : Nat → Int32} {x45 : Nat → Int32} {x46 : Nat → Int32} {x47 : Nat → Int32} {x48 : Nat → Int32} {x49 : Nat → Int32} {x50 : Nat → Int32} {x51 : Nat → Int32} {x52 : Nat → Int32} {x53 : Nat → Int32} {x54 : Nat → Int32} {x55 : Nat → Int32} {x56 : Nat → Int32} {x57 : Nat → Int32} {x58 : Nat → Int32} {x59 : Nat → Int32} (hx : ([17, 18, 23, 24, 25, 26, 33, 40, 42, 43, 44, 45, 46, 47, 48, 49, 50, 51, 52, 53, 54, 55, 56, 57, 58, 59] : List Nat).map X0 = [x17, x18, x23, x24, x25, x26, x33, x40, x42, x43, x44, x45, x46, x47, x48, x49, x50, x51, x52, x53, x54, x55, x56, x57, x58, x59]) (hy : ([] : List Nat).map Y0 = []) {v2 : Int32} {rx33 : (Nat → Int32)} {rx40 : (Nat → Int32)} {rx42 : (Nat → Int32)} {rx43 : (Nat → Int32)} {rx44 : (Nat → Int32)} {rx45 : (Nat → Int32)} {rx46 : (Nat → Int32)} {rx47 : (Nat → Int32)} {rx48 : (Nat → Int32)} {rx49 : (Nat → Int32)} {rx50 : (Nat → Int32)} {rx51 : (Nat → Int32)} {rx52 : (Nat → Int32)} {rx53 : (Nat → Int32)} {rx54 : (Nat → Int32)} {rx55 : (Nat → Int32)} {rx56 : (Nat → Int32)} {rx57 : (Nat → Int32)} {rx58 : (Nat → Int32)} {rx59 : (Nat → Int32)} (hf : fX3_find x17 x18 x23 x24 x25 x26 v2 x33 x40 x42 x43 x44 x45 x46 x47 x48 x49 x50 x51 x52 x53 x54 x55 x56 x57 x58 x59 = some (rx33, rx40, rx42, rx43, rx44, rx45, rx46, rx47, rx48, rx49, rx50, rx51, rx52, rx53, rx54, rx55, rx56, rx57, rx58, rx59)) : gMv l yX3_find cX3_find 3 none 10 262 0 0 b0 D [.ref (b0 + 40), .ref (b0 + 23), .int v2] (n, κ, X0, Y0, Z) (n, κ, ov X0 [17, 18, 23, 24, 25, 26, 33, 40, 42, 43, 44, 45, 46, 47, 48, 49, 50, 51, 52, 53, 54, 55, 56, 57, 58, 59] [x17, x18, x23, x24, x25, x26, rx33, rx40, rx42, rx43, rx44, rx45, rx46, rx47, rx48, rx49, rx50, rx51, rx52, rx53, rx54, rx55, rx56, rx57, rx58, rx59], ov Y0 [] [], Z) := by
  have hN : ([17, 18, 23, 24, 25, 26, 33, 40, 42, 43, 44, 45, 46, 47, 48, 49, 50, 51, 52, 53, 54, 55, 56, 57, 58, 59] : List Nat).Nodup := by decide
  have hM : ([] : List Nat).Nodup := by decide
  refine g_metv (own := RX3) (by decide) rfl rfl (Nat.le_of_ble_eq_true rfl) ?_
  intro K hC hret
  have e := wX3_find_0 hL hz41 hN hM hC  hret hf
  rw [ov_id' hx, ov_id' hy] at e
  exact g_sub [0, 1, 2] rfl e


-- X11_isWithin
def fX11_isWithin_14      : Option (Int32) := some 0
set_option maxHeartbeats 4000000 in
set_option maxRecDepth 100000 in
theorem wX11_isWithin_14 {l : Launch} {b0 : Nat} {D : GD} {K : KT} {n : Nat} {κ : QT} {X0 : XT} {Y0 : YT} {Z : ZT} (hL : LY n κ) (hN : ([] : List Nat).Nodup) (hM : ([] : List Nat).Nodup) (hC : gC l b0 D K RX11 cX11_isWithin (some FieldType.boolean) 3 0 0 0 0) {r : Int32} (hret : ∀ pc loc, narrow .boolean (.int r) = .int r → decode cX11_isWithin pc = .ok (.ireturn, 1) → gV l b0 D K (n, κ, ov X0 [] [], ov Y0 [] [], Z, 0, 0) pc loc [.int r])  (hf : fX11_isWithin_14    = some r) : gV l b0 D K (n, κ, ov X0 [] [], ov Y0 [] [], Z, 0, 0) 14 [] [] := by
  unfold fX11_isWithin_14 at hf
  refine g_iconst hC (v := 0) dX11_isWithin_14 ic_0 ?_
  obtain rfl := sm1E hf
  exact hret _ _ rfl dX11_isWithin_15

def fX11_isWithin_0     (v0 : Int32) (v1 : Int32) (v2 : Int32) : Option (Int32) := if v0 < v1 then (fX11_isWithin_14   ) else (if v2 < v0 then (fX11_isWithin_14   ) else (some 1))
set_option maxHeartbeats 4000000 in
set_option maxRecDepth 100000 in
theorem wX11_isWithin_0 {l : Launch} {b0 : Nat} {D : GD} {K : KT} {n : Nat} {κ : QT} {X0 : XT} {Y0 : YT} {Z : ZT} (hL : LY n κ) (hN : ([] : List Nat).Nodup) (hM : ([] : List Nat).Nodup) (hC : gC l b0 D K RX11 cX11_isWithin (some FieldType.boolean) 3 0 0 0 0) {r : Int32} (hret : ∀ pc loc, narrow .boolean (.int r) = .int r → decode cX11_isWithin pc = .ok (.ireturn, 1) → gV l b0 D K (n, κ, ov X0 [] [], ov Y0 [] [], Z, 0, 0) pc loc [.int r]) {v0 : Int32} {v1 : Int32} {v2 : Int32} (hf : fX11_isWithin_0   v0 v1 v2 = some r) : gV l b0 D K (n, κ, ov X0 [] [], ov Y0 [] [], Z, 0, 0) 0 [(0, .int v0), (1, .int v1), (2, .int v2)] [] := by
  unfold fX11_isWithin_0 at hf
  refine g_iload_n hC 0 dX11_isWithin_0 rfl rfl ?_
  refine g_iload_n hC 1 dX11_isWithin_1 rfl rfl ?_
  refine g_icmp_lt hC 14 dX11_isWithin_2 (by decide) (fun hc => ?_) (fun hc => ?_)
  · replace hf := ifT hf hc
    exact g_sub [] rfl (wX11_isWithin_14 hL hN hM hC  hret  hf)
  · replace hf := ifF hf hc
    refine g_iload_n hC 0 dX11_isWithin_5 rfl rfl ?_
    refine g_iload_n hC 2 dX11_isWithin_6 rfl rfl ?_
    refine g_icmp_gt hC 14 dX11_isWithin_7 (by decide) (fun hc => ?_) (fun hc => ?_)
    · replace hf := ifT hf hc
      exact g_sub [] rfl (wX11_isWithin_14 hL hN hM hC  hret  hf)
    · replace hf := ifF hf hc
      refine g_iconst hC (v := 1) dX11_isWithin_10 ic_1 ?_
      refine g_goto hC 15 dX11_isWithin_11 (by decide) ?_
      obtain rfl := sm1E hf
      exact hret _ _ rfl dX11_isWithin_15

def fX11_isWithin     (v0 : Int32) (v1 : Int32) (v2 : Int32)   : Option (Int32) := fX11_isWithin_0  v0 v1 v2

set_option maxHeartbeats 4000000 in
set_option maxRecDepth 100000 in
theorem c_X11_isWithin (l : Launch) {b0 : Nat} {D : GD} {n : Nat} {κ : QT} {X0 : XT} {Y0 : YT} {Z : ZT} (hL : LY n κ) (hx : ([] : List Nat).map X0 = []) (hy : ([] : List Nat).map Y0 = []) {v0 : Int32} {v1 : Int32} {v2 : Int32} {r : Int32} (hf : fX11_isWithin  v0 v1 v2 = some r) : gMi l yX11_isWithin cX11_isWithin 3 (some FieldType.boolean) 0 0 0 0 b0 D [.int v0, .int v1, .int v2] (n, κ, X0, Y0, Z) (n, κ, ov X0 [] [], ov Y0 [] [], Z) r := by
  have hN : ([] : List Nat).Nodup := by decide
  have hM : ([] : List Nat).Nodup := by decide
  refine g_meti (own := RX11) (by decide) rfl rfl (Nat.le_of_ble_eq_true rfl) ?_
  intro K hC hret
  have e := wX11_isWithin_0 hL hN hM hC  hret hf
  rw [ov_id' hx, ov_id' hy] at e
  exact g_sub [0, 1, 2] rfl e

-- X11_hasBit
def fX11_hasBit_0     (v0 : Int32) (v1 : Int32) : Option (Int32) := if ((v0 >>> (v1 &&& 31)) &&& 1) = 1 then (some 1) else (some 0)
set_option maxHeartbeats 4000000 in
set_option maxRecDepth 100000 in
theorem wX11_hasBit_0 {l : Launch} {b0 : Nat} {D : GD} {K : KT} {n : Nat} {κ : QT} {X0 : XT} {Y0 : YT} {Z : ZT} (hL : LY n κ) (hN : ([] : List Nat).Nodup) (hM : ([] : List Nat).Nodup) (hC : gC l b0 D K RX11 cX11_hasBit (some FieldType.boolean) 2 0 0 0 0) {r : Int32} (hret : ∀ pc loc, narrow .boolean (.int r) = .int r → decode cX11_hasBit pc = .ok (.ireturn, 1) → gV l b0 D K (n, κ, ov X0 [] [], ov Y0 [] [], Z, 0, 0) pc loc [.int r]) {v0 : Int32} {v1 : Int32} (hf : fX11_hasBit_0   v0 v1 = some r) : gV l b0 D K (n, κ, ov X0 [] [], ov Y0 [] [], Z, 0, 0) 0 [(0, .int v0), (1, .int v1)] [] := by
  unfold fX11_hasBit_0 at hf
  refine g_iload_n hC 0 dX11_hasBit_0 rfl rfl ?_
  refine g_iload_n hC 1 dX11_hasBit_1 rfl rfl ?_
  refine g_ishr hC dX11_hasBit_2 ?_
  refine g_iconst hC (v := 1) dX11_hasBit_3 ic_1 ?_
  refine g_iand hC dX11_hasBit_4 ?_
  refine g_iconst hC (v := 1) dX11_hasBit_5 ic_1 ?_
  refine g_icmp_ne hC 13 dX11_hasBit_6 (by decide) (fun hc => ?_) (fun hc => ?_)
  · replace hf := ifF hf hc
    refine g_iconst hC (v := 0) dX11_hasBit_13 ic_0 ?_
    obtain rfl := sm1E hf
    exact hret _ _ rfl dX11_hasBit_14
  · replace hf := ifT hf hc
    refine g_iconst hC (v := 1) dX11_hasBit_9 ic_1 ?_
    refine g_goto hC 14 dX11_hasBit_10 (by decide) ?_
    obtain rfl := sm1E hf
    exact hret _ _ rfl dX11_hasBit_14

def fX11_hasBit     (v0 : Int32) (v1 : Int32)   : Option (Int32) := fX11_hasBit_0  v0 v1

set_option maxHeartbeats 4000000 in
set_option maxRecDepth 100000 in
theorem c_X11_hasBit (l : Launch) {b0 : Nat} {D : GD} {n : Nat} {κ : QT} {X0 : XT} {Y0 : YT} {Z : ZT} (hL : LY n κ) (hx : ([] : List Nat).map X0 = []) (hy : ([] : List Nat).map Y0 = []) {v0 : Int32} {v1 : Int32} {r : Int32} (hf : fX11_hasBit  v0 v1 = some r) : gMi l yX11_hasBit cX11_hasBit 2 (some FieldType.boolean) 0 0 0 0 b0 D [.int v0, .int v1] (n, κ, X0, Y0, Z) (n, κ, ov X0 [] [], ov Y0 [] [], Z) r := by
  have hN : ([] : List Nat).Nodup := by decide
  have hM : ([] : List Nat).Nodup := by decide
  refine g_meti (own := RX11) (by decide) rfl rfl (Nat.le_of_ble_eq_true rfl) ?_
  intro K hC hret
  have e := wX11_hasBit_0 hL hN hM hC  hret hf
  rw [ov_id' hx, ov_id' hy] at e
  exact g_sub [0, 1] rfl e

-- X9_clear
def fX9_clear_0     (x7 : (Nat → Int32)) (x9 : (Nat → Int32)) (x10 : (Nat → Int32)) (x11 : (Nat → Int32)) (x12 : (Nat → Int32)) : Option ((Nat → Int32) × (Nat → Int32) × (Nat → Int32) × (Nat → Int32) × (Nat → Int32)) := bd4 (fX7_clear x9 x10 x11 x12) fun x9_1 x10_2 x11_3 x12_4 => (some ((upd (upd (upd (upd x7 0 0) 1 0) 3 0) 4 0), x9_1, x10_2, x11_3, x12_4))
set_option maxHeartbeats 4000000 in
set_option maxRecDepth 100000 in
theorem wX9_clear_0 {l : Launch} {b0 : Nat} {D : GD} {K : KT} {n : Nat} {κ : QT} {X0 : XT} {Y0 : YT} {Z : ZT} (hL : LY n κ) (hN : ([7, 9, 10, 11, 12] : List Nat).Nodup) (hM : ([] : List Nat).Nodup) (hC : gC l b0 D K RX9 cX9_clear none 1 2 43 0 0) {rx7 : (Nat → Int32)} {rx9 : (Nat → Int32)} {rx10 : (Nat → Int32)} {rx11 : (Nat → Int32)} {rx12 : (Nat → Int32)} (hret : ∀ pc loc, decode cX9_clear pc = .ok (.return_, 1) → gV l b0 D K (n, κ, ov X0 [7, 9, 10, 11, 12] [rx7, rx9, rx10, rx11, rx12], ov Y0 [] [], Z, 0, 0) pc loc []) {x7 : (Nat → Int32)} {x9 : (Nat → Int32)} {x10 : (Nat → Int32)} {x11 : (Nat → Int32)} {x12 : (Nat → Int32)} (hf : fX9_clear_0   x7 x9 x10 x11 x12 = some (rx7, rx9, rx10, rx11, rx12)) : gV l b0 D K (n, κ, ov X0 [7, 9, 10, 11, 12] [x7, x9, x10, x11, x12], ov Y0 [] [], Z, 0, 0) 0 [(0, .ref (b0 + 7))] [] := by
  unfold fX9_clear_0 at hf
  refine g_aload_n hC 0 dX9_clear_0 rfl rfl ?_
  refine g_iconst hC (v := 0) dX9_clear_1 ic_0 ?_
  refine pt_X9_22 hC (x := x7) (kk_7 hL) (kn_7 hL) (ov_get hN 0 rfl rfl) (ov_set hN (by rfl) 0 (by rfl)) dX9_clear_2 ?_
  show gV l b0 D K (n, κ, ov X0 [7, 9, 10, 11, 12] [(upd x7 0 0), x9, x10, x11, x12], ov Y0 [] [], Z, 0, 0) 5 [(0, .ref (b0 + 7))] []
  refine g_aload_n hC 0 dX9_clear_5 rfl rfl ?_
  refine g_iconst hC (v := 0) dX9_clear_6 ic_0 ?_
  refine pt_X9_26 hC (x := (upd x7 0 0)) (kk_7 hL) (kn_7 hL) (ov_get hN 0 rfl rfl) (ov_set hN (by rfl) 0 (by rfl)) dX9_clear_7 ?_
  show gV l b0 D K (n, κ, ov X0 [7, 9, 10, 11, 12] [(upd (upd x7 0 0) 1 0), x9, x10, x11, x12], ov Y0 [] [], Z, 0, 0) 10 [(0, .ref (b0 + 7))] []
  refine g_aload_n hC 0 dX9_clear_10 rfl rfl ?_
  refine g_iconst hC (v := 0) dX9_clear_11 ic_0 ?_
  refine pt_X9_29 hC (x := (upd (upd x7 0 0) 1 0)) (kk_7 hL) (kn_7 hL) (ov_get hN 0 rfl rfl) (ov_set hN (by rfl) 0 (by rfl)) dX9_clear_12 ?_
  show gV l b0 D K (n, κ, ov X0 [7, 9, 10, 11, 12] [(upd (upd (upd x7 0 0) 1 0) 3 0), x9, x10, x11, x12], ov Y0 [] [], Z, 0, 0) 15 [(0, .ref (b0 + 7))] []
  refine g_aload_n hC 0 dX9_clear_15 rfl rfl ?_
  refine g_iconst hC (v := 0) dX9_clear_16 ic_0 ?_
  refine pt_X9_32 hC (x := (upd (upd (upd x7 0 0) 1 0) 3 0)) (kk_7 hL) (kn_7 hL) (ov_get hN 0 rfl rfl) (ov_set hN (by rfl) 0 (by rfl)) dX9_clear_17 ?_
  show gV l b0 D K (n, κ, ov X0 [7, 9, 10, 11, 12] [(upd (upd (upd (upd x7 0 0) 1 0) 3 0) 4 0), x9, x10, x11, x12], ov Y0 [] [], Z, 0, 0) 20 [(0, .ref (b0 + 7))] []
  refine g_aload_n hC 0 dX9_clear_20 rfl rfl ?_
  refine gt_X9_18 hC (a := 7) (kk_7 hL) (kn_7 hL) dX9_clear_21 ?_
  refine g_ref (b := 9) rfl ?_
  obtain ⟨x9_1, x10_2, x11_3, x12_4, q_5, hf⟩ := bd4E hf
  refine g_callV_v (a := 9) hC (X' := ov X0 [7, 9, 10, 11, 12] [(upd (upd (upd (upd x7 0 0) 1 0) 3 0) 4 0), x9_1, x10_2, x11_3, x12_4]) (Y' := ov Y0 [] []) (As := []) (gMv_eq (c_X7_clear l hL (kk_9 hL) (kn_9 hL) (nd_sub hN [1, 2, 3, 4] (by decide) (by rfl)) (nd_sub hM [] (by decide) (by rfl)) (ov_map hN [1, 2, 3, 4] (by rfl) (by rfl)) (ov_map hM [] (by rfl) (by rfl)) q_5) (ov_ovE hN (by rfl) [1, 2, 3, 4] [0] (by rfl) (by rfl) [(upd (upd (upd (upd x7 0 0) 1 0) 3 0) 4 0)] (by rfl) (by rfl) (by rfl) 5 (by rfl) (by decide)) (ov_ovE hM (by rfl) [] [] (by rfl) (by rfl) [] (by rfl) (by rfl) (by rfl) 0 (by rfl) (by decide))) tw_525 tw_522 tw_120 tw_523 tw_524 (ci := 7) rfl (by decide) (kk_9 hL) (kn_9 hL) pd_X7_clear (by decide) (by decide) rfl rfl (Nat.le_of_ble_eq_true rfl) rfl dX9_clear_24 ?_
  obtain ⟨rfl, rfl, rfl, rfl, rfl⟩ := sm5E hf
  exact hret _ _ dX9_clear_27

def fX9_clear      (x7 : Nat → Int32) (x9 : Nat → Int32) (x10 : Nat → Int32) (x11 : Nat → Int32) (x12 : Nat → Int32)  : Option ((Nat → Int32) × (Nat → Int32) × (Nat → Int32) × (Nat → Int32) × (Nat → Int32)) := fX9_clear_0  x7 x9 x10 x11 x12

set_option maxHeartbeats 4000000 in
set_option maxRecDepth 100000 in
theorem c_X9_clear (l : Launch) {b0 : Nat} {D : GD} {n : Nat} {κ : QT} {X0 : XT} {Y0 : YT} {Z : ZT} (hL : LY n κ) {x7 : Nat → Int32} {x9 : Nat → Int32} {x10 : Nat → Int32} {x11 : Nat → Int32} {x12 : Nat → Int32} (hx : ([7, 9, 10, 11, 12] : List Nat).map X0 = [x7, x9, x10, x11, x12]) (hy : ([] : List Nat).map Y0 = []) {rx7 : (Nat → Int32)} {rx9 : (Nat → Int32)} {rx10 : (Nat → Int32)} {rx11 : (Nat → Int32)} {rx12 : (Nat → Int32)} (hf : fX9_clear  x7 x9 x10 x11 x12 = some (rx7, rx9, rx10, rx11, rx12)) : gMv l yX9_clear cX9_clear 1 none 2 43 0 0 b0 D [.ref (b0 + 7)] (n, κ, X0, Y0, Z) (n, κ, ov X0 [7, 9, 10, 11, 12] [rx7, rx9, rx10, rx11, rx12], ov Y0 [] [], Z) := by
  have hN : ([7, 9, 10, 11, 12] : List Nat).Nodup := by decide
  have hM : ([] : List Nat).Nodup := by decide
  refine g_metv (own := RX9) (by decide) rfl rfl (Nat.le_of_ble_eq_true rfl) ?_
  intro K hC hret
  have e := wX9_clear_0 hL hN hM hC  hret hf
  rw [ov_id' hx, ov_id' hy] at e
  exact g_sub [0] rfl e

-- X9_copy
def fX9_copy_0   (xu : Nat → Int32) (xuz1 : Nat → Int32) (xuz2 : Nat → Int32) (xuz3 : Nat → Int32) (xuz4 : Nat → Int32) (xuz5 : Nat → Int32)  (xt : (Nat → Int32)) (xtz1 : (Nat → Int32)) (xtz2 : (Nat → Int32)) (xtz3 : (Nat → Int32)) (xtz4 : (Nat → Int32)) (xtz5 : (Nat → Int32)) : Option ((Nat → Int32) × (Nat → Int32) × (Nat → Int32) × (Nat → Int32) × (Nat → Int32) × (Nat → Int32)) := gd (cpok 0 0 12 12 12) (bd4 (fX7_copy xuz2 xuz3 xuz4 xuz5 xtz2 xtz3 xtz4 xtz5) fun xtz2_2 xtz3_3 xtz4_4 xtz5_5 => (some ((upd (upd (upd (upd xt 0 (xu 0)) 1 (xu 1)) 3 (xu 3)) 4 (xu 4)), (va_cpy xuz1 xtz1 (0 : Int32).toNatClampNeg (0 : Int32).toNatClampNeg (12 : Int32).toNatClampNeg), xtz2_2, xtz3_3, xtz4_4, xtz5_5)))
set_option maxHeartbeats 4000000 in
set_option maxRecDepth 100000 in
theorem wX9_copy_0 {l : Launch} {b0 : Nat} {D : GD} {K : KT} {n : Nat} {κ : QT} {X0 : XT} {Y0 : YT} {Z : ZT} {t : Nat} {u : Nat} (hL : LY n κ) (hk_t : κ t = (9, 0)) (hn_t : t < n) (hk_u : κ u = (9, 0)) (hn_u : u < n) (hN : ([t, t + 1, t + 2, t + 3, t + 4, t + 5, u, u + 1, u + 2, u + 3, u + 4, u + 5] : List Nat).Nodup) (hM : ([] : List Nat).Nodup) (hC : gC l b0 D K RX9 cX9_copy none 2 2 61 0 0) {xu : Nat → Int32} {xuz1 : Nat → Int32} {xuz2 : Nat → Int32} {xuz3 : Nat → Int32} {xuz4 : Nat → Int32} {xuz5 : Nat → Int32} {rxt : (Nat → Int32)} {rxtz1 : (Nat → Int32)} {rxtz2 : (Nat → Int32)} {rxtz3 : (Nat → Int32)} {rxtz4 : (Nat → Int32)} {rxtz5 : (Nat → Int32)} (hret : ∀ pc loc, decode cX9_copy pc = .ok (.return_, 1) → gV l b0 D K (n, κ, ov X0 [t, t + 1, t + 2, t + 3, t + 4, t + 5, u, u + 1, u + 2, u + 3, u + 4, u + 5] [rxt, rxtz1, rxtz2, rxtz3, rxtz4, rxtz5, xu, xuz1, xuz2, xuz3, xuz4, xuz5], ov Y0 [] [], Z, 0, 0) pc loc []) {xt : (Nat → Int32)} {xtz1 : (Nat → Int32)} {xtz2 : (Nat → Int32)} {xtz3 : (Nat → Int32)} {xtz4 : (Nat → Int32)} {xtz5 : (Nat → Int32)} (hf : fX9_copy_0 xu xuz1 xuz2 xuz3 xuz4 xuz5  xt xtz1 xtz2 xtz3 xtz4 xtz5 = some (rxt, rxtz1, rxtz2, rxtz3, rxtz4, rxtz5)) : gV l b0 D K (n, κ, ov X0 [t, t + 1, t + 2, t + 3, t + 4, t + 5, u, u + 1, u + 2, u + 3, u + 4, u + 5] [xt, xtz1, xtz2, xtz3, xtz4, xtz5, xu, xuz1, xuz2, xuz3, xuz4, xuz5], ov Y0 [] [], Z, 0, 0) 0 [(0, .ref (b0 + t)), (1, .ref (b0 + u))] [] := by
  unfold fX9_copy_0 at hf
  refine g_aload_n hC 0 dX9_copy_0 rfl rfl ?_
  refine g_aload_n hC 1 dX9_copy_1 rfl rfl ?_
  refine gt_X9_22 hC (x := xu) hk_u hn_u (ov_get hN 6 rfl rfl) dX9_copy_2 ?_
  refine pt_X9_22 hC (x := xt) hk_t hn_t (ov_get hN 0 rfl rfl) (ov_set hN (by rfl) 0 (by rfl)) dX9_copy_5 ?_
  show gV l b0 D K (n, κ, ov X0 [t, t + 1, t + 2, t + 3, t + 4, t + 5, u, u + 1, u + 2, u + 3, u + 4, u + 5] [(upd xt 0 (xu 0)), xtz1, xtz2, xtz3, xtz4, xtz5, xu, xuz1, xuz2, xuz3, xuz4, xuz5], ov Y0 [] [], Z, 0, 0) 8 [(0, .ref (b0 + t)), (1, .ref (b0 + u))] []
  refine g_aload_n hC 0 dX9_copy_8 rfl rfl ?_
  refine g_aload_n hC 1 dX9_copy_9 rfl rfl ?_
  refine gt_X9_26 hC (x := xu) hk_u hn_u (ov_get hN 6 rfl rfl) dX9_copy_10 ?_
  refine pt_X9_26 hC (x := (upd xt 0 (xu 0))) hk_t hn_t (ov_get hN 0 rfl rfl) (ov_set hN (by rfl) 0 (by rfl)) dX9_copy_13 ?_
  show gV l b0 D K (n, κ, ov X0 [t, t + 1, t + 2, t + 3, t + 4, t + 5, u, u + 1, u + 2, u + 3, u + 4, u + 5] [(upd (upd xt 0 (xu 0)) 1 (xu 1)), xtz1, xtz2, xtz3, xtz4, xtz5, xu, xuz1, xuz2, xuz3, xuz4, xuz5], ov Y0 [] [], Z, 0, 0) 16 [(0, .ref (b0 + t)), (1, .ref (b0 + u))] []
  refine g_aload_n hC 0 dX9_copy_16 rfl rfl ?_
  refine g_aload_n hC 1 dX9_copy_17 rfl rfl ?_
  refine gt_X9_29 hC (x := xu) hk_u hn_u (ov_get hN 6 rfl rfl) dX9_copy_18 ?_
  refine pt_X9_29 hC (x := (upd (upd xt 0 (xu 0)) 1 (xu 1))) hk_t hn_t (ov_get hN 0 rfl rfl) (ov_set hN (by rfl) 0 (by rfl)) dX9_copy_21 ?_
  show gV l b0 D K (n, κ, ov X0 [t, t + 1, t + 2, t + 3, t + 4, t + 5, u, u + 1, u + 2, u + 3, u + 4, u + 5] [(upd (upd (upd xt 0 (xu 0)) 1 (xu 1)) 3 (xu 3)), xtz1, xtz2, xtz3, xtz4, xtz5, xu, xuz1, xuz2, xuz3, xuz4, xuz5], ov Y0 [] [], Z, 0, 0) 24 [(0, .ref (b0 + t)), (1, .ref (b0 + u))] []
  refine g_aload_n hC 0 dX9_copy_24 rfl rfl ?_
  refine g_aload_n hC 1 dX9_copy_25 rfl rfl ?_
  refine gt_X9_32 hC (x := xu) hk_u hn_u (ov_get hN 6 rfl rfl) dX9_copy_26 ?_
  refine pt_X9_32 hC (x := (upd (upd (upd xt 0 (xu 0)) 1 (xu 1)) 3 (xu 3))) hk_t hn_t (ov_get hN 0 rfl rfl) (ov_set hN (by rfl) 0 (by rfl)) dX9_copy_29 ?_
  show gV l b0 D K (n, κ, ov X0 [t, t + 1, t + 2, t + 3, t + 4, t + 5, u, u + 1, u + 2, u + 3, u + 4, u + 5] [(upd (upd (upd (upd xt 0 (xu 0)) 1 (xu 1)) 3 (xu 3)) 4 (xu 4)), xtz1, xtz2, xtz3, xtz4, xtz5, xu, xuz1, xuz2, xuz3, xuz4, xuz5], ov Y0 [] [], Z, 0, 0) 32 [(0, .ref (b0 + t)), (1, .ref (b0 + u))] []
  refine g_aload_n hC 1 dX9_copy_32 rfl rfl ?_
  refine gt_X9_9 hC (a := u) hk_u hn_u dX9_copy_33 ?_
  refine g_ref (b := (u + 1)) rfl ?_
  refine g_iconst hC (v := 0) dX9_copy_36 ic_0 ?_
  refine g_aload_n hC 0 dX9_copy_37 rfl rfl ?_
  refine gt_X9_9 hC (a := t) hk_t hn_t dX9_copy_38 ?_
  refine g_ref (b := (t + 1)) rfl ?_
  refine g_iconst hC (v := 0) dX9_copy_41 ic_0 ?_
  refine g_bipush hC (v := 12) dX9_copy_42 bp_12 ?_
  obtain ⟨h_1, hf⟩ := gdE hf
  refine g_copy hC (f := xuz1) (g := xtz1) tw_701 (LT1 hL hk_u hn_u) (LTn1 hL hk_u hn_u) (LT1 hL hk_t hn_t) (LTn1 hL hk_t hn_t)  (ov_get hN 7 rfl rfl) (ov_get hN 1 rfl rfl) h_1 (ov_set hN (by rfl) 1 (by rfl)) (by decide) (by decide) dX9_copy_44 ?_
  show gV l b0 D K (n, κ, ov X0 [t, t + 1, t + 2, t + 3, t + 4, t + 5, u, u + 1, u + 2, u + 3, u + 4, u + 5] [(upd (upd (upd (upd xt 0 (xu 0)) 1 (xu 1)) 3 (xu 3)) 4 (xu 4)), (va_cpy xuz1 xtz1 (0 : Int32).toNatClampNeg (0 : Int32).toNatClampNeg (12 : Int32).toNatClampNeg), xtz2, xtz3, xtz4, xtz5, xu, xuz1, xuz2, xuz3, xuz4, xuz5], ov Y0 [] [], Z, 0, 0) 47 [(0, .ref (b0 + t)), (1, .ref (b0 + u))] []
  refine g_aload_n hC 0 dX9_copy_47 rfl rfl ?_
  refine gt_X9_18 hC (a := t) hk_t hn_t dX9_copy_48 ?_
  refine g_ref (b := (t + 2)) rfl ?_
  refine g_aload_n hC 1 dX9_copy_51 rfl rfl ?_
  refine gt_X9_18 hC (a := u) hk_u hn_u dX9_copy_52 ?_
  refine g_ref (b := (u + 2)) rfl ?_
  obtain ⟨xtz2_2, xtz3_3, xtz4_4, xtz5_5, q_6, hf⟩ := bd4E hf
  refine g_callV_v (a := (t + 2)) hC (X' := ov X0 [t, t + 1, t + 2, t + 3, t + 4, t + 5, u, u + 1, u + 2, u + 3, u + 4, u + 5] [(upd (upd (upd (upd xt 0 (xu 0)) 1 (xu 1)) 3 (xu 3)) 4 (xu 4)), (va_cpy xuz1 xtz1 (0 : Int32).toNatClampNeg (0 : Int32).toNatClampNeg (12 : Int32).toNatClampNeg), xtz2_2, xtz3_3, xtz4_4, xtz5_5, xu, xuz1, xuz2, xuz3, xuz4, xuz5]) (Y' := ov Y0 [] []) (As := [.ref (b0 + (u + 2))]) (gMv_eq (c_X7_copy l hL (LT2 hL hk_t hn_t) (LTn2 hL hk_t hn_t) (LT2 hL hk_u hn_u) (LTn2 hL hk_u hn_u) (nd_sub hN [2, 3, 4, 5, 8, 9, 10, 11] (by decide) (by rfl)) (nd_sub hM [] (by decide) (by rfl)) (ov_map hN [2, 3, 4, 5, 8, 9, 10, 11] (by rfl) (by rfl)) (ov_map hM [] (by rfl) (by rfl)) q_6) (ov_ovE hN (by rfl) [2, 3, 4, 5, 8, 9, 10, 11] [0, 1, 6, 7] (by rfl) (by rfl) [(upd (upd (upd (upd xt 0 (xu 0)) 1 (xu 1)) 3 (xu 3)) 4 (xu 4)), (va_cpy xuz1 xtz1 (0 : Int32).toNatClampNeg (0 : Int32).toNatClampNeg (12 : Int32).toNatClampNeg), xu, xuz1] (by rfl) (by rfl) (by rfl) 12 (by rfl) (by decide)) (ov_ovE hM (by rfl) [] [] (by rfl) (by rfl) [] (by rfl) (by rfl) (by rfl) 0 (by rfl) (by decide))) tw_707 tw_704 tw_120 tw_705 tw_706 (ci := 7) rfl (by decide) (LT2 hL hk_t hn_t) (LTn2 hL hk_t hn_t) pd_X7_copy (by decide) (by decide) rfl rfl (Nat.le_of_ble_eq_true rfl) rfl dX9_copy_55 ?_
  obtain ⟨rfl, rfl, rfl, rfl, rfl, rfl⟩ := sm6E hf
  exact hret _ _ dX9_copy_58

def fX9_copy   (xu : Nat → Int32) (xuz1 : Nat → Int32) (xuz2 : Nat → Int32) (xuz3 : Nat → Int32) (xuz4 : Nat → Int32) (xuz5 : Nat → Int32)   (xt : Nat → Int32) (xtz1 : Nat → Int32) (xtz2 : Nat → Int32) (xtz3 : Nat → Int32) (xtz4 : Nat → Int32) (xtz5 : Nat → Int32)  : Option ((Nat → Int32) × (Nat → Int32) × (Nat → Int32) × (Nat → Int32) × (Nat → Int32) × (Nat → Int32)) := fX9_copy_0 xu xuz1 xuz2 xuz3 xuz4 xuz5 xt xtz1 xtz2 xtz3 xtz4 xtz5

set_option maxHeartbeats 4000000 in
set_option maxRecDepth 100000 in
theorem c_X9_copy (l : Launch) {b0 : Nat} {D : GD} {n : Nat} {κ : QT} {X0 : XT} {Y0 : YT} {Z : ZT} {t : Nat} {u : Nat} (hL : LY n κ) (hk_t : κ t = (9, 0)) (hn_t : t < n) (hk_u : κ u = (9, 0)) (hn_u : u < n) (hN : ([t, t + 1, t + 2, t + 3, t + 4, t + 5, u, u + 1, u + 2, u + 3, u + 4, u + 5] : List Nat).Nodup) (hM : ([] : List Nat).Nodup) {xt : Nat → Int32} {xtz1 : Nat → Int32} {xtz2 : Nat → Int32} {xtz3 : Nat → Int32} {xtz4 : Nat → Int32} {xtz5 : Nat → Int32} {xu : Nat → Int32} {xuz1 : Nat → Int32} {xuz2 : Nat → Int32} {xuz3 : Nat → Int32} {xuz4 : Nat → Int32} {xuz5 : Nat → Int32} (hx : ([t, t + 1, t + 2, t + 3, t + 4, t + 5, u, u + 1, u + 2, u + 3, u + 4, u + 5] : List Nat).map X0 = [xt, xtz1, xtz2, xtz3, xtz4, xtz5, xu, xuz1, xuz2, xuz3, xuz4, xuz5]) (hy : ([] : List Nat).map Y0 = []) {rxt : (Nat → Int32)} {rxtz1 : (Nat → Int32)} {rxtz2 : (Nat → Int32)} {rxtz3 : (Nat → Int32)} {rxtz4 : (Nat → Int32)} {rxtz5 : (Nat → Int32)} (hf : fX9_copy xu xuz1 xuz2 xuz3 xuz4 xuz5 xt xtz1 xtz2 xtz3 xtz4 xtz5 = some (rxt, rxtz1, rxtz2, rxtz3, rxtz4, rxtz5)) : gMv l yX9_copy cX9_copy 2 none 2 61 0 0 b0 D [.ref (b0 + t), .ref (b0 + u)] (n, κ, X0, Y0, Z) (n, κ, ov X0 [t, t + 1, t + 2, t + 3, t + 4, t + 5, u, u + 1, u + 2, u + 3, u + 4, u + 5] [rxt, rxtz1, rxtz2, rxtz3, rxtz4, rxtz5, xu, xuz1, xuz2, xuz3, xuz4, xuz5], ov Y0 [] [], Z) := by
  refine g_metv (own := RX9) (by decide) rfl rfl (Nat.le_of_ble_eq_true rfl) ?_
  intro K hC hret
  have e := wX9_copy_0 hL hk_t hn_t hk_u hn_u hN hM hC  hret hf
  rw [ov_id' hx, ov_id' hy] at e
  exact g_sub [0, 1] rfl e

-- X9_toldHeat
def fX9_toldHeat_25   (x17 : Nat → Int32) (x18 : Nat → Int32)   : Option (Int32) := some 0
set_option maxHeartbeats 4000000 in
set_option maxRecDepth 100000 in
theorem wX9_toldHeat_25 {l : Launch} {b0 : Nat} {D : GD} {K : KT} {n : Nat} {κ : QT} {X0 : XT} {Y0 : YT} {Z : ZT} (hL : LY n κ) (hN : ([17, 18] : List Nat).Nodup) (hM : ([] : List Nat).Nodup) (hC : gC l b0 D K RX9 cX9_toldHeat (some FieldType.int) 2 0 0 0 0) {x17 : Nat → Int32} {x18 : Nat → Int32} {r : Int32} (hret : ∀ pc loc, narrow .int (.int r) = .int r → decode cX9_toldHeat pc = .ok (.ireturn, 1) → gV l b0 D K (n, κ, ov X0 [17, 18] [x17, x18], ov Y0 [] [], Z, 0, 0) pc loc [.int r])  (hf : fX9_toldHeat_25 x17 x18   = some r) : gV l b0 D K (n, κ, ov X0 [17, 18] [x17, x18], ov Y0 [] [], Z, 0, 0) 25 [] [] := by
  unfold fX9_toldHeat_25 at hf
  refine g_iconst hC (v := 0) dX9_toldHeat_25 ic_0 ?_
  obtain rfl := sm1E hf
  exact hret _ _ rfl dX9_toldHeat_26

def fX9_toldHeat_0   (x17 : Nat → Int32) (x18 : Nat → Int32)  (v1 : Int32) : Option (Int32) := if (x17 3) ≤ 0 then (fX9_toldHeat_25 x17 x18  ) else (if v1 < 0 then (fX9_toldHeat_25 x17 x18  ) else (gd (nz (x17 3)) (gd (inb (v1 - v1 / (x17 3) * (x17 3)) 12) (some (x18 (v1 - v1 / (x17 3) * (x17 3)).toNatClampNeg)))))
set_option maxHeartbeats 4000000 in
set_option maxRecDepth 100000 in
theorem wX9_toldHeat_0 {l : Launch} {b0 : Nat} {D : GD} {K : KT} {n : Nat} {κ : QT} {X0 : XT} {Y0 : YT} {Z : ZT} (hL : LY n κ) (hN : ([17, 18] : List Nat).Nodup) (hM : ([] : List Nat).Nodup) (hC : gC l b0 D K RX9 cX9_toldHeat (some FieldType.int) 2 0 0 0 0) {x17 : Nat → Int32} {x18 : Nat → Int32} {r : Int32} (hret : ∀ pc loc, narrow .int (.int r) = .int r → decode cX9_toldHeat pc = .ok (.ireturn, 1) → gV l b0 D K (n, κ, ov X0 [17, 18] [x17, x18], ov Y0 [] [], Z, 0, 0) pc loc [.int r]) {v1 : Int32} (hf : fX9_toldHeat_0 x17 x18  v1 = some r) : gV l b0 D K (n, κ, ov X0 [17, 18] [x17, x18], ov Y0 [] [], Z, 0, 0) 0 [(0, .ref (b0 + 17)), (1, .int v1)] [] := by
  unfold fX9_toldHeat_0 at hf
  refine g_aload_n hC 0 dX9_toldHeat_0 rfl rfl ?_
  refine gt_X9_29 hC (x := x17) (kk_17 hL) (kn_17 hL) (ov_get hN 0 rfl rfl) dX9_toldHeat_1 ?_
  refine g_if_le hC 25 dX9_toldHeat_4 (by decide) (fun hc => ?_) (fun hc => ?_)
  · replace hf := ifT hf hc
    exact g_sub [] rfl (wX9_toldHeat_25 hL hN hM hC  hret  hf)
  · replace hf := ifF hf hc
    refine g_iload_n hC 1 dX9_toldHeat_7 rfl rfl ?_
    refine g_if_lt hC 25 dX9_toldHeat_8 (by decide) (fun hc => ?_) (fun hc => ?_)
    · replace hf := ifT hf hc
      exact g_sub [] rfl (wX9_toldHeat_25 hL hN hM hC  hret  hf)
    · replace hf := ifF hf hc
      refine g_aload_n hC 0 dX9_toldHeat_11 rfl rfl ?_
      refine gt_X9_9 hC (a := 17) (kk_17 hL) (kn_17 hL) dX9_toldHeat_12 ?_
      refine g_ref (b := 18) rfl ?_
      refine g_iload_n hC 1 dX9_toldHeat_15 rfl rfl ?_
      refine g_aload_n hC 0 dX9_toldHeat_16 rfl rfl ?_
      refine gt_X9_29 hC (x := x17) (kk_17 hL) (kn_17 hL) (ov_get hN 0 rfl rfl) dX9_toldHeat_17 ?_
      obtain ⟨h_1, hf⟩ := gdE hf
      refine g_irem hC dX9_toldHeat_20 (nzE h_1) ?_
      obtain ⟨h_2, hf⟩ := gdE hf
      refine g_iald hC (x := x18) (kk_18 hL) (kn_18 hL) (ov_get hN 1 rfl rfl) (inb_in h_2) dX9_toldHeat_21 ?_
      refine g_goto hC 26 dX9_toldHeat_22 (by decide) ?_
      obtain rfl := sm1E hf
      exact hret _ _ rfl dX9_toldHeat_26

def fX9_toldHeat   (x17 : Nat → Int32) (x18 : Nat → Int32)  (v1 : Int32)   : Option (Int32) := fX9_toldHeat_0 x17 x18 v1

set_option maxHeartbeats 4000000 in
set_option maxRecDepth 100000 in
theorem c_X9_toldHeat (l : Launch) {b0 : Nat} {D : GD} {n : Nat} {κ : QT} {X0 : XT} {Y0 : YT} {Z : ZT} (hL : LY n κ) {x17 : Nat → Int32} {x18 : Nat → Int32} (hx : ([17, 18] : List Nat).map X0 = [x17, x18]) (hy : ([] : List Nat).map Y0 = []) {v1 : Int32} {r : Int32} (hf : fX9_toldHeat x17 x18 v1 = some r) : gMi l yX9_toldHeat cX9_toldHeat 2 (some FieldType.int) 0 0 0 0 b0 D [.ref (b0 + 17), .int v1] (n, κ, X0, Y0, Z) (n, κ, ov X0 [17, 18] [x17, x18], ov Y0 [] [], Z) r := by
  have hN : ([17, 18] : List Nat).Nodup := by decide
  have hM : ([] : List Nat).Nodup := by decide
  refine g_meti (own := RX9) (by decide) rfl rfl (Nat.le_of_ble_eq_true rfl) ?_
  intro K hC hret
  have e := wX9_toldHeat_0 hL hN hM hC  hret hf
  rw [ov_id' hx, ov_id' hy] at e
  exact g_sub [0, 1] rfl e

-- X9_heatOf
def fX9_heatOf_0   (xo : Nat → Int32) (x17 : Nat → Int32) (x18 : Nat → Int32)   : Option (Int32) := bd1 (fX9_toldHeat x17 x18 (xo 0)) fun r_1 => (if (xo 2) ≤ 0 then (some r_1) else (some (if 0 < (r_1 - 3) then (r_1 - 3) else 0)))
set_option maxHeartbeats 4000000 in
set_option maxRecDepth 100000 in
theorem wX9_heatOf_0 {l : Launch} {b0 : Nat} {D : GD} {K : KT} {n : Nat} {κ : QT} {X0 : XT} {Y0 : YT} {Z : ZT} {o : Nat} (hL : LY n κ) (hk_o : κ o = (7, 0)) (hn_o : o < n) (hN : ([o, 17, 18] : List Nat).Nodup) (hM : ([] : List Nat).Nodup) (hC : gC l b0 D K RX9 cX9_heatOf (some FieldType.int) 3 1 40 0 0) {xo : Nat → Int32} {x17 : Nat → Int32} {x18 : Nat → Int32} {r : Int32} (hret : ∀ pc loc, narrow .int (.int r) = .int r → decode cX9_heatOf pc = .ok (.ireturn, 1) → gV l b0 D K (n, κ, ov X0 [o, 17, 18] [xo, x17, x18], ov Y0 [] [], Z, 0, 0) pc loc [.int r])  (hf : fX9_heatOf_0 xo x17 x18   = some r) : gV l b0 D K (n, κ, ov X0 [o, 17, 18] [xo, x17, x18], ov Y0 [] [], Z, 0, 0) 0 [(0, .ref (b0 + 17)), (1, .ref (b0 + o))] [] := by
  unfold fX9_heatOf_0 at hf
  refine g_aload_n hC 0 dX9_heatOf_0 rfl rfl ?_
  refine g_aload_n hC 1 dX9_heatOf_1 rfl rfl ?_
  refine gt_X9_48 hC (x := xo) hk_o hn_o (ov_get hN 0 rfl rfl) dX9_heatOf_2 ?_
  obtain ⟨r_1, q_2, hf⟩ := bd1E hf
  refine g_callV_i (a := 17) hC (X' := ov X0 [o, 17, 18] [xo, x17, x18]) (Y' := ov Y0 [] []) (As := [.int (xo 0)]) (gMi_eq (c_X9_toldHeat l hL (ov_map hN [1, 2] (by rfl) (by rfl)) (ov_map hM [] (by rfl) (by rfl)) q_2) (ov_ovE hN (by rfl) [1, 2] [0] (by rfl) (by rfl) [xo] (by rfl) (by rfl) (by rfl) 3 (by rfl) (by decide)) (ov_ovE hM (by rfl) [] [] (by rfl) (by rfl) [] (by rfl) (by rfl) (by rfl) 0 (by rfl) (by decide))) tw_810 tw_807 tw_119 tw_808 tw_809 (ci := 9) rfl (by decide) (kk_17 hL) (kn_17 hL) pd_X9_toldHeat (by decide) (by decide) rfl rfl (Nat.le_of_ble_eq_true rfl) rfl dX9_heatOf_5 ?_
  refine g_istore_n hC (i := 2) [(2, .int r_1), (0, .ref (b0 + 17)), (1, .ref (b0 + o))] rfl dX9_heatOf_8 (by decide) rfl ?_
  refine g_aload_n hC 2 dX9_heatOf_9 rfl rfl ?_
  refine gt_X9_55 hC (x := xo) hk_o hn_o (ov_get hN 0 rfl rfl) dX9_heatOf_10 ?_
  refine g_if_le hC 26 dX9_heatOf_13 (by decide) (fun hc => ?_) (fun hc => ?_)
  · replace hf := ifT hf hc
    refine g_iload_n hC 0 dX9_heatOf_26 rfl rfl ?_
    obtain rfl := sm1E hf
    exact hret _ _ rfl dX9_heatOf_27
  · replace hf := ifF hf hc
    refine g_iconst hC (v := 0) dX9_heatOf_16 ic_0 ?_
    refine g_iload_n hC 0 dX9_heatOf_17 rfl rfl ?_
    refine g_iconst hC (v := 3) dX9_heatOf_18 ic_3 ?_
    refine g_isub hC dX9_heatOf_19 ?_
    refine g_mmax hC tw_811 (by decide) (Nat.le_of_ble_eq_true rfl) dX9_heatOf_20 ?_
    refine g_goto hC 27 dX9_heatOf_23 (by decide) ?_
    obtain rfl := sm1E hf
    exact hret _ _ rfl dX9_heatOf_27

def fX9_heatOf   (xo : Nat → Int32) (x17 : Nat → Int32) (x18 : Nat → Int32)     : Option (Int32) := fX9_heatOf_0 xo x17 x18 

set_option maxHeartbeats 4000000 in
set_option maxRecDepth 100000 in
theorem c_X9_heatOf (l : Launch) {b0 : Nat} {D : GD} {n : Nat} {κ : QT} {X0 : XT} {Y0 : YT} {Z : ZT} {o : Nat} (hL : LY n κ) (hk_o : κ o = (7, 0)) (hn_o : o < n) (hN : ([o, 17, 18] : List Nat).Nodup) (hM : ([] : List Nat).Nodup) {xo : Nat → Int32} {x17 : Nat → Int32} {x18 : Nat → Int32} (hx : ([o, 17, 18] : List Nat).map X0 = [xo, x17, x18]) (hy : ([] : List Nat).map Y0 = []) {r : Int32} (hf : fX9_heatOf xo x17 x18  = some r) : gMi l yX9_heatOf cX9_heatOf 3 (some FieldType.int) 1 40 0 0 b0 D [.ref (b0 + 17), .ref (b0 + o)] (n, κ, X0, Y0, Z) (n, κ, ov X0 [o, 17, 18] [xo, x17, x18], ov Y0 [] [], Z) r := by
  refine g_meti (own := RX9) (by decide) rfl rfl (Nat.le_of_ble_eq_true rfl) ?_
  intro K hC hret
  have e := wX9_heatOf_0 hL hk_o hn_o hN hM hC  hret hf
  rw [ov_id' hx, ov_id' hy] at e
  exact g_sub [0, 1] rfl e

-- X9_riverBits
def fX9_riverBits_31   (xoz1 : Nat → Int32) (x17 : Nat → Int32)  (k4 : Int32 → Int32 → Option (Int32)) (v2 : Int32) (v3 : Int32) : Option (Int32) := bn (v3 + 1) fun t_1 => (k4 v2 t_1)
set_option maxHeartbeats 4000000 in
set_option maxRecDepth 100000 in
theorem wX9_riverBits_31 {l : Launch} {b0 : Nat} {D : GD} {K : KT} {n : Nat} {κ : QT} {X0 : XT} {Y0 : YT} {Z : ZT} {o : Nat} (hL : LY n κ) (hk_o : κ o = (7, 0)) (hn_o : o < n) (hN : ([o + 1, 17] : List Nat).Nodup) (hM : ([] : List Nat).Nodup) (hC : gC l b0 D K RX9 cX9_riverBits (some FieldType.int) 4 0 0 0 0) {xoz1 : Nat → Int32} {x17 : Nat → Int32} {r : Int32} (hret : ∀ pc loc, narrow .int (.int r) = .int r → decode cX9_riverBits pc = .ok (.ireturn, 1) → gV l b0 D K (n, κ, ov X0 [o + 1, 17] [xoz1, x17], ov Y0 [] [], Z, 0, 0) pc loc [.int r]) {k4 : Int32 → Int32 → Option (Int32)} (hk4 : ∀ (v2 : Int32) (v3 : Int32), k4 v2 v3 = some r → gV l b0 D K (n, κ, ov X0 [o + 1, 17] [xoz1, x17], ov Y0 [] [], Z, 0, 0) 4 [(0, .ref (b0 + 17)), (1, .ref (b0 + o)), (2, .int v2), (3, .int v3)] []) {v2 : Int32} {v3 : Int32} (hf : fX9_riverBits_31 xoz1 x17 k4 v2 v3 = some r) : gV l b0 D K (n, κ, ov X0 [o + 1, 17] [xoz1, x17], ov Y0 [] [], Z, 0, 0) 31 [(0, .ref (b0 + 17)), (1, .ref (b0 + o)), (2, .int v2), (3, .int v3)] [] := by
  unfold fX9_riverBits_31 at hf
  obtain ⟨t_1, et_1, hf⟩ := bnE hf
  refine g_iinc hC (i := 3) (v := t_1) [(3, .int t_1), (0, .ref (b0 + 17)), (1, .ref (b0 + o)), (2, .int v2)] dX9_riverBits_31 (q := 3) rfl ((congrArg (HAdd.hAdd v3) ic_1).trans et_1.symm) (by decide) rfl ?_
  refine g_goto hC 4 dX9_riverBits_34 (by decide) ?_
  exact g_sub [1, 2, 3, 0] rfl (hk4 v2 t_1 hf)

def fX9_riverBits_4b   (xoz1 : Nat → Int32) (x17 : Nat → Int32)  (k4 : Int32 → Int32 → Option (Int32)) (v2 : Int32) (v3 : Int32) : Option (Int32) := if (x17 4) ≤ v3 then (some v2) else (gd (inb v3 6) (if (xoz1 v3.toNatClampNeg) < (x17 0) then (fX9_riverBits_31 xoz1 x17 k4 v2 v3) else (bn (v2 ||| (1 <<< (v3 &&& 31))) fun t_2 => (fX9_riverBits_31 xoz1 x17 k4 t_2 v3))))
def fX9_riverBits_4   (xoz1 : Nat → Int32) (x17 : Nat → Int32)  : Int32 → Int32 → Option (Int32) := lq2 (fX9_riverBits_4b xoz1 x17 ) 5000
set_option maxHeartbeats 4000000 in
set_option maxRecDepth 100000 in
theorem wX9_riverBits_4 {l : Launch} {b0 : Nat} {D : GD} {K : KT} {n : Nat} {κ : QT} {X0 : XT} {Y0 : YT} {Z : ZT} {o : Nat} (hL : LY n κ) (hk_o : κ o = (7, 0)) (hn_o : o < n) (hN : ([o + 1, 17] : List Nat).Nodup) (hM : ([] : List Nat).Nodup) (hC : gC l b0 D K RX9 cX9_riverBits (some FieldType.int) 4 0 0 0 0) {xoz1 : Nat → Int32} {x17 : Nat → Int32} {r : Int32} (hret : ∀ pc loc, narrow .int (.int r) = .int r → decode cX9_riverBits pc = .ok (.ireturn, 1) → gV l b0 D K (n, κ, ov X0 [o + 1, 17] [xoz1, x17], ov Y0 [] [], Z, 0, 0) pc loc [.int r]) : ∀ (j : Nat) (v2 : Int32) (v3 : Int32), lq2 (fX9_riverBits_4b xoz1 x17 ) j v2 v3 = some r → gV l b0 D K (n, κ, ov X0 [o + 1, 17] [xoz1, x17], ov Y0 [] [], Z, 0, 0) 4 [(0, .ref (b0 + 17)), (1, .ref (b0 + o)), (2, .int v2), (3, .int v3)] [] := by
  intro j
  induction j with
  | zero => intro v2 v3 hf; cases hf
  | succ j hk4 =>
    intro v2 v3 hf
    replace hf : fX9_riverBits_4b xoz1 x17  (lq2 (fX9_riverBits_4b xoz1 x17 ) j) v2 v3 = some r := hf
    unfold fX9_riverBits_4b at hf
    refine g_iload_n hC 3 dX9_riverBits_4 rfl rfl ?_
    refine g_aload_n hC 0 dX9_riverBits_5 rfl rfl ?_
    refine gt_X9_32 hC (x := x17) (kk_17 hL) (kn_17 hL) (ov_get hN 1 rfl rfl) dX9_riverBits_6 ?_
    refine g_icmp_ge hC 37 dX9_riverBits_9 (by decide) (fun hc => ?_) (fun hc => ?_)
    · replace hf := ifT hf hc
      refine g_iload_n hC 2 dX9_riverBits_37 rfl rfl ?_
      obtain rfl := sm1E hf
      exact hret _ _ rfl dX9_riverBits_38
    · replace hf := ifF hf hc
      refine g_aload_n hC 1 dX9_riverBits_12 rfl rfl ?_
      refine gt_X9_64 hC (a := o) hk_o hn_o dX9_riverBits_13 ?_
      refine g_ref (b := (o + 1)) rfl ?_
      refine g_iload_n hC 3 dX9_riverBits_16 rfl rfl ?_
      obtain ⟨h_1, hf⟩ := gdE hf
      refine g_iald hC (x := xoz1) (LS1 hL hk_o hn_o) (LSn1 hL hk_o hn_o) (ov_get hN 0 rfl rfl) (inb_in h_1) dX9_riverBits_17 ?_
      refine g_aload_n hC 0 dX9_riverBits_18 rfl rfl ?_
      refine gt_X9_22 hC (x := x17) (kk_17 hL) (kn_17 hL) (ov_get hN 1 rfl rfl) dX9_riverBits_19 ?_
      refine g_icmp_lt hC 31 dX9_riverBits_22 (by decide) (fun hc => ?_) (fun hc => ?_)
      · replace hf := ifT hf hc
        exact g_sub [0, 1, 2, 3] rfl (wX9_riverBits_31 hL hk_o hn_o hN hM hC  hret hk4 hf)
      · replace hf := ifF hf hc
        refine g_iload_n hC 2 dX9_riverBits_25 rfl rfl ?_
        refine g_iconst hC (v := 1) dX9_riverBits_26 ic_1 ?_
        refine g_iload_n hC 3 dX9_riverBits_27 rfl rfl ?_
        refine g_ishl hC dX9_riverBits_28 ?_
        refine g_ior hC dX9_riverBits_29 ?_
        obtain ⟨t_2, et_2, hf⟩ := bnE hf
        refine g_topi et_2 ?_
        refine g_istore_n hC (i := 2) [(2, .int t_2), (0, .ref (b0 + 17)), (1, .ref (b0 + o)), (3, .int v3)] rfl dX9_riverBits_30 (by decide) rfl ?_
        exact g_sub [1, 2, 0, 3] rfl (wX9_riverBits_31 hL hk_o hn_o hN hM hC  hret hk4 hf)

def fX9_riverBits_0   (xoz1 : Nat → Int32) (x17 : Nat → Int32)   : Option (Int32) := fX9_riverBits_4 xoz1 x17  0 0
set_option maxHeartbeats 4000000 in
set_option maxRecDepth 100000 in
theorem wX9_riverBits_0 {l : Launch} {b0 : Nat} {D : GD} {K : KT} {n : Nat} {κ : QT} {X0 : XT} {Y0 : YT} {Z : ZT} {o : Nat} (hL : LY n κ) (hk_o : κ o = (7, 0)) (hn_o : o < n) (hN : ([o + 1, 17] : List Nat).Nodup) (hM : ([] : List Nat).Nodup) (hC : gC l b0 D K RX9 cX9_riverBits (some FieldType.int) 4 0 0 0 0) {xoz1 : Nat → Int32} {x17 : Nat → Int32} {r : Int32} (hret : ∀ pc loc, narrow .int (.int r) = .int r → decode cX9_riverBits pc = .ok (.ireturn, 1) → gV l b0 D K (n, κ, ov X0 [o + 1, 17] [xoz1, x17], ov Y0 [] [], Z, 0, 0) pc loc [.int r])  (hf : fX9_riverBits_0 xoz1 x17   = some r) : gV l b0 D K (n, κ, ov X0 [o + 1, 17] [xoz1, x17], ov Y0 [] [], Z, 0, 0) 0 [(0, .ref (b0 + 17)), (1, .ref (b0 + o))] [] := by
  unfold fX9_riverBits_0 at hf
  refine g_iconst hC (v := 0) dX9_riverBits_0 ic_0 ?_
  refine g_istore_n hC (i := 2) [(2, .int 0), (0, .ref (b0 + 17)), (1, .ref (b0 + o))] rfl dX9_riverBits_1 (by decide) rfl ?_
  refine g_iconst hC (v := 0) dX9_riverBits_2 ic_0 ?_
  refine g_istore_n hC (i := 3) [(3, .int 0), (2, .int 0), (0, .ref (b0 + 17)), (1, .ref (b0 + o))] rfl dX9_riverBits_3 (by decide) rfl ?_
  exact g_sub [2, 3, 1, 0] rfl (wX9_riverBits_4 hL hk_o hn_o hN hM hC  hret  5000 0 0 hf)

def fX9_riverBits   (xoz1 : Nat → Int32) (x17 : Nat → Int32)     : Option (Int32) := fX9_riverBits_0 xoz1 x17 

set_option maxHeartbeats 4000000 in
set_option maxRecDepth 100000 in
theorem c_X9_riverBits (l : Launch) {b0 : Nat} {D : GD} {n : Nat} {κ : QT} {X0 : XT} {Y0 : YT} {Z : ZT} {o : Nat} (hL : LY n κ) (hk_o : κ o = (7, 0)) (hn_o : o < n) (hN : ([o + 1, 17] : List Nat).Nodup) (hM : ([] : List Nat).Nodup) {xoz1 : Nat → Int32} {x17 : Nat → Int32} (hx : ([o + 1, 17] : List Nat).map X0 = [xoz1, x17]) (hy : ([] : List Nat).map Y0 = []) {r : Int32} (hf : fX9_riverBits xoz1 x17  = some r) : gMi l yX9_riverBits cX9_riverBits 4 (some FieldType.int) 0 0 0 0 b0 D [.ref (b0 + 17), .ref (b0 + o)] (n, κ, X0, Y0, Z) (n, κ, ov X0 [o + 1, 17] [xoz1, x17], ov Y0 [] [], Z) r := by
  refine g_meti (own := RX9) (by decide) rfl rfl (Nat.le_of_ble_eq_true rfl) ?_
  intro K hC hret
  have e := wX9_riverBits_0 hL hk_o hn_o hN hM hC  hret hf
  rw [ov_id' hx, ov_id' hy] at e
  exact g_sub [0, 1] rfl e

-- X9_placesOf
def fX9_placesOf_4b   (xoz1 : Nat → Int32) (x17 : Nat → Int32)  (k4 : Int32 → Int32 → Option (Int32)) (v2 : Int32) (v3 : Int32) : Option (Int32) := if (x17 4) ≤ v3 then (some v2) else (gd (inb v3 6) (bn (v2 + (xoz1 v3.toNatClampNeg)) fun t_2 => (bn (v3 + 1) fun t_3 => (k4 t_2 t_3))))
def fX9_placesOf_4   (xoz1 : Nat → Int32) (x17 : Nat → Int32)  : Int32 → Int32 → Option (Int32) := lq2 (fX9_placesOf_4b xoz1 x17 ) 5000
set_option maxHeartbeats 4000000 in
set_option maxRecDepth 100000 in
theorem wX9_placesOf_4 {l : Launch} {b0 : Nat} {D : GD} {K : KT} {n : Nat} {κ : QT} {X0 : XT} {Y0 : YT} {Z : ZT} {o : Nat} (hL : LY n κ) (hk_o : κ o = (7, 0)) (hn_o : o < n) (hN : ([o + 1, 17] : List Nat).Nodup) (hM : ([] : List Nat).Nodup) (hC : gC l b0 D K RX9 cX9_placesOf (some FieldType.int) 4 0 0 0 0) {xoz1 : Nat → Int32} {x17 : Nat → Int32} {r : Int32} (hret : ∀ pc loc, narrow .int (.int r) = .int r → decode cX9_placesOf pc = .ok (.ireturn, 1) → gV l b0 D K (n, κ, ov X0 [o + 1, 17] [xoz1, x17], ov Y0 [] [], Z, 0, 0) pc loc [.int r]) : ∀ (j : Nat) (v2 : Int32) (v3 : Int32), lq2 (fX9_placesOf_4b xoz1 x17 ) j v2 v3 = some r → gV l b0 D K (n, κ, ov X0 [o + 1, 17] [xoz1, x17], ov Y0 [] [], Z, 0, 0) 4 [(0, .ref (b0 + 17)), (1, .ref (b0 + o)), (2, .int v2), (3, .int v3)] [] := by
  intro j
  induction j with
  | zero => intro v2 v3 hf; cases hf
  | succ j hk4 =>
    intro v2 v3 hf
    replace hf : fX9_placesOf_4b xoz1 x17  (lq2 (fX9_placesOf_4b xoz1 x17 ) j) v2 v3 = some r := hf
    unfold fX9_placesOf_4b at hf
    refine g_iload_n hC 3 dX9_placesOf_4 rfl rfl ?_
    refine g_aload_n hC 0 dX9_placesOf_5 rfl rfl ?_
    refine gt_X9_32 hC (x := x17) (kk_17 hL) (kn_17 hL) (ov_get hN 1 rfl rfl) dX9_placesOf_6 ?_
    refine g_icmp_ge hC 27 dX9_placesOf_9 (by decide) (fun hc => ?_) (fun hc => ?_)
    · replace hf := ifT hf hc
      refine g_iload_n hC 2 dX9_placesOf_27 rfl rfl ?_
      obtain rfl := sm1E hf
      exact hret _ _ rfl dX9_placesOf_28
    · replace hf := ifF hf hc
      refine g_iload_n hC 2 dX9_placesOf_12 rfl rfl ?_
      refine g_aload_n hC 1 dX9_placesOf_13 rfl rfl ?_
      refine gt_X9_64 hC (a := o) hk_o hn_o dX9_placesOf_14 ?_
      refine g_ref (b := (o + 1)) rfl ?_
      refine g_iload_n hC 3 dX9_placesOf_17 rfl rfl ?_
      obtain ⟨h_1, hf⟩ := gdE hf
      refine g_iald hC (x := xoz1) (LS1 hL hk_o hn_o) (LSn1 hL hk_o hn_o) (ov_get hN 0 rfl rfl) (inb_in h_1) dX9_placesOf_18 ?_
      refine g_iadd hC dX9_placesOf_19 ?_
      obtain ⟨t_2, et_2, hf⟩ := bnE hf
      refine g_topi et_2 ?_
      refine g_istore_n hC (i := 2) [(2, .int t_2), (0, .ref (b0 + 17)), (1, .ref (b0 + o)), (3, .int v3)] rfl dX9_placesOf_20 (by decide) rfl ?_
      obtain ⟨t_3, et_3, hf⟩ := bnE hf
      refine g_iinc hC (i := 3) (v := t_3) [(3, .int t_3), (2, .int t_2), (0, .ref (b0 + 17)), (1, .ref (b0 + o))] dX9_placesOf_21 (q := 3) rfl ((congrArg (HAdd.hAdd v3) ic_1).trans et_3.symm) (by decide) rfl ?_
      refine g_goto hC 4 dX9_placesOf_24 (by decide) ?_
      exact g_sub [2, 3, 1, 0] rfl (hk4 t_2 t_3 hf)

def fX9_placesOf_0   (xoz1 : Nat → Int32) (x17 : Nat → Int32)   : Option (Int32) := fX9_placesOf_4 xoz1 x17  0 0
set_option maxHeartbeats 4000000 in
set_option maxRecDepth 100000 in
theorem wX9_placesOf_0 {l : Launch} {b0 : Nat} {D : GD} {K : KT} {n : Nat} {κ : QT} {X0 : XT} {Y0 : YT} {Z : ZT} {o : Nat} (hL : LY n κ) (hk_o : κ o = (7, 0)) (hn_o : o < n) (hN : ([o + 1, 17] : List Nat).Nodup) (hM : ([] : List Nat).Nodup) (hC : gC l b0 D K RX9 cX9_placesOf (some FieldType.int) 4 0 0 0 0) {xoz1 : Nat → Int32} {x17 : Nat → Int32} {r : Int32} (hret : ∀ pc loc, narrow .int (.int r) = .int r → decode cX9_placesOf pc = .ok (.ireturn, 1) → gV l b0 D K (n, κ, ov X0 [o + 1, 17] [xoz1, x17], ov Y0 [] [], Z, 0, 0) pc loc [.int r])  (hf : fX9_placesOf_0 xoz1 x17   = some r) : gV l b0 D K (n, κ, ov X0 [o + 1, 17] [xoz1, x17], ov Y0 [] [], Z, 0, 0) 0 [(0, .ref (b0 + 17)), (1, .ref (b0 + o))] [] := by
  unfold fX9_placesOf_0 at hf
  refine g_iconst hC (v := 0) dX9_placesOf_0 ic_0 ?_
  refine g_istore_n hC (i := 2) [(2, .int 0), (0, .ref (b0 + 17)), (1, .ref (b0 + o))] rfl dX9_placesOf_1 (by decide) rfl ?_
  refine g_iconst hC (v := 0) dX9_placesOf_2 ic_0 ?_
  refine g_istore_n hC (i := 3) [(3, .int 0), (2, .int 0), (0, .ref (b0 + 17)), (1, .ref (b0 + o))] rfl dX9_placesOf_3 (by decide) rfl ?_
  exact g_sub [2, 3, 1, 0] rfl (wX9_placesOf_4 hL hk_o hn_o hN hM hC  hret  5000 0 0 hf)

def fX9_placesOf   (xoz1 : Nat → Int32) (x17 : Nat → Int32)     : Option (Int32) := fX9_placesOf_0 xoz1 x17 

set_option maxHeartbeats 4000000 in
set_option maxRecDepth 100000 in
theorem c_X9_placesOf (l : Launch) {b0 : Nat} {D : GD} {n : Nat} {κ : QT} {X0 : XT} {Y0 : YT} {Z : ZT} {o : Nat} (hL : LY n κ) (hk_o : κ o = (7, 0)) (hn_o : o < n) (hN : ([o + 1, 17] : List Nat).Nodup) (hM : ([] : List Nat).Nodup) {xoz1 : Nat → Int32} {x17 : Nat → Int32} (hx : ([o + 1, 17] : List Nat).map X0 = [xoz1, x17]) (hy : ([] : List Nat).map Y0 = []) {r : Int32} (hf : fX9_placesOf xoz1 x17  = some r) : gMi l yX9_placesOf cX9_placesOf 4 (some FieldType.int) 0 0 0 0 b0 D [.ref (b0 + 17), .ref (b0 + o)] (n, κ, X0, Y0, Z) (n, κ, ov X0 [o + 1, 17] [xoz1, x17], ov Y0 [] [], Z) r := by
  refine g_meti (own := RX9) (by decide) rfl rfl (Nat.le_of_ble_eq_true rfl) ?_
  intro K hC hret
  have e := wX9_placesOf_0 hL hk_o hn_o hN hM hC  hret hf
  rw [ov_id' hx, ov_id' hy] at e
  exact g_sub [0, 1] rfl e


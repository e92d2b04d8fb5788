-- X12_goesOn
def fX12_goesOn_63   (x91 : Nat → Int32)  (s0 : Int32) (x74 : (Nat → Int32)) : Option (Int32 × (Nat → Int32)) := gd (bz s0) (some (s0, (upd x74 18 ((x74 18) + 1))))
set_option maxHeartbeats 4000000 in
set_option maxRecDepth 100000 in
theorem wX12_goesOn_63 {l : Launch} {b0 : Nat} {D : GD} {K : KT} {n : Nat} {κ : QT} {X0 : XT} {Y0 : YT} {Z : ZT} (hL : LY n κ) (hN : ([74, 91] : List Nat).Nodup) (hM : ([] : List Nat).Nodup) (hC : gC l b0 D K RX12 cX12_goesOn (some FieldType.boolean) 2 2 40 0 0) {x91 : Nat → Int32} {r : Int32} {rx74 : (Nat → Int32)} (hret : ∀ pc loc, narrow .boolean (.int r) = .int r → decode cX12_goesOn pc = .ok (.ireturn, 1) → gV l b0 D K (n, κ, ov X0 [74, 91] [rx74, x91], ov Y0 [] [], Z, 0, 0) pc loc [.int r]) {s0 : Int32} {x74 : (Nat → Int32)} (hf : fX12_goesOn_63 x91  s0 x74 = some (r, rx74)) : gV l b0 D K (n, κ, ov X0 [74, 91] [x74, x91], ov Y0 [] [], Z, 0, 0) 63 [(0, .ref (b0 + 74))] [.int s0] := by
  unfold fX12_goesOn_63 at hf
  refine g_istore_n hC (i := 1) [(1, .int s0), (0, .ref (b0 + 74))] rfl dX12_goesOn_63 (by decide) rfl ?_
  refine g_aload_n hC 1 dX12_goesOn_64 rfl rfl ?_
  refine g_dup hC dX12_goesOn_65 rfl ?_
  refine gt_X12_183 hC (x := x74) (kk_74 hL) (kn_74 hL) (ov_get hN 0 rfl rfl) dX12_goesOn_66 ?_
  refine g_iconst hC (v := 1) dX12_goesOn_69 ic_1 ?_
  refine g_iadd hC dX12_goesOn_70 ?_
  refine pt_X12_183 hC (x := x74) (kk_74 hL) (kn_74 hL) (ov_get hN 0 rfl rfl) (ov_set hN (by rfl) 0 (by rfl)) dX12_goesOn_71 ?_
  show gV l b0 D K (n, κ, ov X0 [74, 91] [(upd x74 18 ((x74 18) + 1)), x91], ov Y0 [] [], Z, 0, 0) 74 [(1, .int s0), (0, .ref (b0 + 74))] []
  refine g_iload_n hC 0 dX12_goesOn_74 rfl rfl ?_
  obtain ⟨h_1, hf⟩ := gdE hf
  obtain ⟨rfl, rfl⟩ := sm2E hf
  exact hret _ _ (bz_nar h_1) dX12_goesOn_75

def fX12_goesOn_62   (x91 : Nat → Int32)  (x74 : (Nat → Int32)) : Option (Int32 × (Nat → Int32)) := fX12_goesOn_63 x91  0 x74
set_option maxHeartbeats 4000000 in
set_option maxRecDepth 100000 in
theorem wX12_goesOn_62 {l : Launch} {b0 : Nat} {D : GD} {K : KT} {n : Nat} {κ : QT} {X0 : XT} {Y0 : YT} {Z : ZT} (hL : LY n κ) (hN : ([74, 91] : List Nat).Nodup) (hM : ([] : List Nat).Nodup) (hC : gC l b0 D K RX12 cX12_goesOn (some FieldType.boolean) 2 2 40 0 0) {x91 : Nat → Int32} {r : Int32} {rx74 : (Nat → Int32)} (hret : ∀ pc loc, narrow .boolean (.int r) = .int r → decode cX12_goesOn pc = .ok (.ireturn, 1) → gV l b0 D K (n, κ, ov X0 [74, 91] [rx74, x91], ov Y0 [] [], Z, 0, 0) pc loc [.int r]) {x74 : (Nat → Int32)} (hf : fX12_goesOn_62 x91  x74 = some (r, rx74)) : gV l b0 D K (n, κ, ov X0 [74, 91] [x74, x91], ov Y0 [] [], Z, 0, 0) 62 [(0, .ref (b0 + 74))] [] := by
  unfold fX12_goesOn_62 at hf
  refine g_iconst hC (v := 0) dX12_goesOn_62 ic_0 ?_
  exact g_sub [0] rfl (wX12_goesOn_63 hL hN hM hC  hret  hf)

def fX12_goesOn_40   (x91 : Nat → Int32)  (x74 : (Nat → Int32)) : Option (Int32 × (Nat → Int32)) := if (x74 19) = 0 then (if (x74 17) ≤ (x74 18) then (fX12_goesOn_62 x91  x74) else (fX12_goesOn_63 x91  1 x74)) else (fX12_goesOn_62 x91  x74)
set_option maxHeartbeats 4000000 in
set_option maxRecDepth 100000 in
theorem wX12_goesOn_40 {l : Launch} {b0 : Nat} {D : GD} {K : KT} {n : Nat} {κ : QT} {X0 : XT} {Y0 : YT} {Z : ZT} (hL : LY n κ) (hN : ([74, 91] : List Nat).Nodup) (hM : ([] : List Nat).Nodup) (hC : gC l b0 D K RX12 cX12_goesOn (some FieldType.boolean) 2 2 40 0 0) {x91 : Nat → Int32} {r : Int32} {rx74 : (Nat → Int32)} (hret : ∀ pc loc, narrow .boolean (.int r) = .int r → decode cX12_goesOn pc = .ok (.ireturn, 1) → gV l b0 D K (n, κ, ov X0 [74, 91] [rx74, x91], ov Y0 [] [], Z, 0, 0) pc loc [.int r]) {x74 : (Nat → Int32)} (hf : fX12_goesOn_40 x91  x74 = some (r, rx74)) : gV l b0 D K (n, κ, ov X0 [74, 91] [x74, x91], ov Y0 [] [], Z, 0, 0) 40 [(0, .ref (b0 + 74))] [] := by
  unfold fX12_goesOn_40 at hf
  refine g_aload_n hC 0 dX12_goesOn_40 rfl rfl ?_
  refine gt_X12_180 hC (x := x74) (kk_74 hL) (kn_74 hL) (ov_get hN 0 rfl rfl) dX12_goesOn_41 ?_
  refine g_if_ne hC 62 dX12_goesOn_44 (by decide) (fun hc => ?_) (fun hc => ?_)
  · replace hf := ifF hf hc
    exact g_sub [0] rfl (wX12_goesOn_62 hL hN hM hC  hret  hf)
  · replace hf := ifT hf hc
    refine g_aload_n hC 0 dX12_goesOn_47 rfl rfl ?_
    refine gt_X12_183 hC (x := x74) (kk_74 hL) (kn_74 hL) (ov_get hN 0 rfl rfl) dX12_goesOn_48 ?_
    refine g_aload_n hC 0 dX12_goesOn_51 rfl rfl ?_
    refine gt_X12_151 hC (x := x74) (kk_74 hL) (kn_74 hL) (ov_get hN 0 rfl rfl) dX12_goesOn_52 ?_
    refine g_icmp_ge hC 62 dX12_goesOn_55 (by decide) (fun hc => ?_) (fun hc => ?_)
    · replace hf := ifT hf hc
      exact g_sub [0] rfl (wX12_goesOn_62 hL hN hM hC  hret  hf)
    · replace hf := ifF hf hc
      refine g_iconst hC (v := 1) dX12_goesOn_58 ic_1 ?_
      refine g_goto hC 63 dX12_goesOn_59 (by decide) ?_
      exact g_sub [0] rfl (wX12_goesOn_63 hL hN hM hC  hret  hf)

def fX12_goesOn_0   (x91 : Nat → Int32)  (x74 : (Nat → Int32)) : Option (Int32 × (Nat → Int32)) := bd1 (fX12_blanks x91 x74) fun x74_1 => (if (x74_1 19) = 0 then (if (x74_1 17) ≤ (x74_1 18) then (fX12_goesOn_40 x91  x74_1) else (bd1 (fX12_sign x74_1 x91) fun r_3 => (if r_3 = 59 then (fX12_goesOn_40 x91  x74_1) else (bd1 (fX12_fails 0 (x74_1 18) x74_1) fun x74_5 => (fX12_goesOn_40 x91  x74_5))))) else (fX12_goesOn_40 x91  x74_1))
set_option maxHeartbeats 4000000 in
set_option maxRecDepth 100000 in
theorem wX12_goesOn_0 {l : Launch} {b0 : Nat} {D : GD} {K : KT} {n : Nat} {κ : QT} {X0 : XT} {Y0 : YT} {Z : ZT} (hL : LY n κ) (hN : ([74, 91] : List Nat).Nodup) (hM : ([] : List Nat).Nodup) (hC : gC l b0 D K RX12 cX12_goesOn (some FieldType.boolean) 2 2 40 0 0) {x91 : Nat → Int32} {r : Int32} {rx74 : (Nat → Int32)} (hret : ∀ pc loc, narrow .boolean (.int r) = .int r → decode cX12_goesOn pc = .ok (.ireturn, 1) → gV l b0 D K (n, κ, ov X0 [74, 91] [rx74, x91], ov Y0 [] [], Z, 0, 0) pc loc [.int r]) {x74 : (Nat → Int32)} (hf : fX12_goesOn_0 x91  x74 = some (r, rx74)) : gV l b0 D K (n, κ, ov X0 [74, 91] [x74, x91], ov Y0 [] [], Z, 0, 0) 0 [(0, .ref (b0 + 74))] [] := by
  unfold fX12_goesOn_0 at hf
  refine g_aload_n hC 0 dX12_goesOn_0 rfl rfl ?_
  obtain ⟨x74_1, q_2, hf⟩ := bd1E hf
  refine g_callV_v (a := 74) hC (X' := ov X0 [74, 91] [x74_1, x91]) (Y' := ov Y0 [] []) (As := []) (gMv_eq (c_X12_blanks l hL (ov_map hN [0, 1] (by rfl) (by rfl)) (ov_map hM [] (by rfl) (by rfl)) q_2) (ov_ovE hN (by rfl) [0, 1] [] (by rfl) (by rfl) [] (by rfl) (by rfl) (by rfl) 2 (by rfl) (by decide)) (ov_ovE hM (by rfl) [] [] (by rfl) (by rfl) [] (by rfl) (by rfl) (by rfl) 0 (by rfl) (by decide))) tw_1380 tw_1377 tw_127 tw_1379 tw_49 (ci := 12) rfl (by decide) (kk_74 hL) (kn_74 hL) pd_X12_blanks (by decide) (by decide) rfl rfl (Nat.le_of_ble_eq_true rfl) rfl dX12_goesOn_1 ?_
  refine g_aload_n hC 0 dX12_goesOn_4 rfl rfl ?_
  refine gt_X12_180 hC (x := x74_1) (kk_74 hL) (kn_74 hL) (ov_get hN 0 rfl rfl) dX12_goesOn_5 ?_
  refine g_if_ne hC 40 dX12_goesOn_8 (by decide) (fun hc => ?_) (fun hc => ?_)
  · replace hf := ifF hf hc
    exact g_sub [0] rfl (wX12_goesOn_40 hL hN hM hC  hret  hf)
  · replace hf := ifT hf hc
    refine g_aload_n hC 0 dX12_goesOn_11 rfl rfl ?_
    refine gt_X12_183 hC (x := x74_1) (kk_74 hL) (kn_74 hL) (ov_get hN 0 rfl rfl) dX12_goesOn_12 ?_
    refine g_aload_n hC 0 dX12_goesOn_15 rfl rfl ?_
    refine gt_X12_151 hC (x := x74_1) (kk_74 hL) (kn_74 hL) (ov_get hN 0 rfl rfl) dX12_goesOn_16 ?_
    refine g_icmp_ge hC 40 dX12_goesOn_19 (by decide) (fun hc => ?_) (fun hc => ?_)
    · replace hf := ifT hf hc
      exact g_sub [0] rfl (wX12_goesOn_40 hL hN hM hC  hret  hf)
    · replace hf := ifF hf hc
      refine g_aload_n hC 0 dX12_goesOn_22 rfl rfl ?_
      obtain ⟨r_3, q_4, hf⟩ := bd1E hf
      refine g_callV_i (a := 74) hC (X' := ov X0 [74, 91] [x74_1, x91]) (Y' := ov Y0 [] []) (As := []) (gMi_eq (c_X12_sign l hL (ov_map hN [0, 1] (by rfl) (by rfl)) (ov_map hM [] (by rfl) (by rfl)) q_4) (ov_ovE hN (by rfl) [0, 1] [] (by rfl) (by rfl) [] (by rfl) (by rfl) (by rfl) 2 (by rfl) (by decide)) (ov_ovE hM (by rfl) [] [] (by rfl) (by rfl) [] (by rfl) (by rfl) (by rfl) 0 (by rfl) (by decide))) tw_1384 tw_1381 tw_127 tw_1383 tw_50 (ci := 12) rfl (by decide) (kk_74 hL) (kn_74 hL) pd_X12_sign (by decide) (by decide) rfl rfl (Nat.le_of_ble_eq_true rfl) rfl dX12_goesOn_23 ?_
      refine g_bipush hC (v := 59) dX12_goesOn_26 bp_59 ?_
      refine g_icmp_eq hC 40 dX12_goesOn_28 (by decide) (fun hc => ?_) (fun hc => ?_)
      · replace hf := ifT hf hc
        exact g_sub [0] rfl (wX12_goesOn_40 hL hN hM hC  hret  hf)
      · replace hf := ifF hf hc
        refine g_aload_n hC 0 dX12_goesOn_31 rfl rfl ?_
        refine g_iconst hC (v := 0) dX12_goesOn_32 ic_0 ?_
        refine g_aload_n hC 0 dX12_goesOn_33 rfl rfl ?_
        refine gt_X12_183 hC (x := x74_1) (kk_74 hL) (kn_74 hL) (ov_get hN 0 rfl rfl) dX12_goesOn_34 ?_
        obtain ⟨x74_5, q_6, hf⟩ := bd1E hf
        refine g_callV_v (a := 74) hC (X' := ov X0 [74, 91] [x74_5, x91]) (Y' := ov Y0 [] []) (As := [.int 0, .int (x74_1 18)]) (gMv_eq (c_X12_fails l hL (ov_map hN [0] (by rfl) (by rfl)) (ov_map hM [] (by rfl) (by rfl)) q_6) (ov_ovE hN (by rfl) [0] [1] (by rfl) (by rfl) [x91] (by rfl) (by rfl) (by rfl) 2 (by rfl) (by decide)) (ov_ovE hM (by rfl) [] [] (by rfl) (by rfl) [] (by rfl) (by rfl) (by rfl) 0 (by rfl) (by decide))) tw_1402 tw_1399 tw_127 tw_1401 tw_52 (ci := 12) rfl (by decide) (kk_74 hL) (kn_74 hL) pd_X12_fails (by decide) (by decide) rfl rfl (Nat.le_of_ble_eq_true rfl) rfl dX12_goesOn_37 ?_
        exact g_sub [0] rfl (wX12_goesOn_40 hL hN hM hC  hret  hf)

def fX12_goesOn   (x91 : Nat → Int32)   (x74 : Nat → Int32)  : Option (Int32 × (Nat → Int32)) := fX12_goesOn_0 x91 x74

set_option maxHeartbeats 4000000 in
set_option maxRecDepth 100000 in
theorem c_X12_goesOn (l : Launch) {b0 : Nat} {D : GD} {n : Nat} {κ : QT} {X0 : XT} {Y0 : YT} {Z : ZT} (hL : LY n κ) {x74 : Nat → Int32} {x91 : Nat → Int32} (hx : ([74, 91] : List Nat).map X0 = [x74, x91]) (hy : ([] : List Nat).map Y0 = []) {r : Int32} {rx74 : (Nat → Int32)} (hf : fX12_goesOn x91 x74 = some (r, rx74)) : gMi l yX12_goesOn cX12_goesOn 2 (some FieldType.boolean) 2 40 0 0 b0 D [.ref (b0 + 74)] (n, κ, X0, Y0, Z) (n, κ, ov X0 [74, 91] [rx74, x91], ov Y0 [] [], Z) r := by
  have hN : ([74, 91] : List Nat).Nodup := by decide
  have hM : ([] : List Nat).Nodup := by decide
  refine g_meti (own := RX12) (by decide) rfl rfl (Nat.le_of_ble_eq_true rfl) ?_
  intro K hC hret
  have e := wX12_goesOn_0 hL hN hM hC  hret hf
  rw [ov_id' hx, ov_id' hy] at e
  exact g_sub [0] rfl e

-- X12_starts
def fX12_starts_0     (x74 : (Nat → Int32)) : Option ((Nat → Int32)) := some (upd (upd (upd (upd (upd x74 18 0) 19 0) 22 0) 23 0) 24 0)
set_option maxHeartbeats 4000000 in
set_option maxRecDepth 100000 in
theorem wX12_starts_0 {l : Launch} {b0 : Nat} {D : GD} {K : KT} {n : Nat} {κ : QT} {X0 : XT} {Y0 : YT} {Z : ZT} (hL : LY n κ) (hN : ([74] : List Nat).Nodup) (hM : ([] : List Nat).Nodup) (hC : gC l b0 D K RX12 cX12_starts none 1 0 0 0 0) {rx74 : (Nat → Int32)} (hret : ∀ pc loc, decode cX12_starts pc = .ok (.return_, 1) → gV l b0 D K (n, κ, ov X0 [74] [rx74], ov Y0 [] [], Z, 0, 0) pc loc []) {x74 : (Nat → Int32)} (hf : fX12_starts_0   x74 = some rx74) : gV l b0 D K (n, κ, ov X0 [74] [x74], ov Y0 [] [], Z, 0, 0) 0 [(0, .ref (b0 + 74))] [] := by
  unfold fX12_starts_0 at hf
  refine g_aload_n hC 0 dX12_starts_0 rfl rfl ?_
  refine g_iconst hC (v := 0) dX12_starts_1 ic_0 ?_
  refine pt_X12_183 hC (x := x74) (kk_74 hL) (kn_74 hL) (ov_get hN 0 rfl rfl) (ov_set hN (by rfl) 0 (by rfl)) dX12_starts_2 ?_
  show gV l b0 D K (n, κ, ov X0 [74] [(upd x74 18 0)], ov Y0 [] [], Z, 0, 0) 5 [(0, .ref (b0 + 74))] []
  refine g_aload_n hC 0 dX12_starts_5 rfl rfl ?_
  refine g_iconst hC (v := 0) dX12_starts_6 ic_0 ?_
  refine pt_X12_180 hC (x := (upd x74 18 0)) (kk_74 hL) (kn_74 hL) (ov_get hN 0 rfl rfl) (ov_set hN (by rfl) 0 (by rfl)) dX12_starts_7 ?_
  show gV l b0 D K (n, κ, ov X0 [74] [(upd (upd x74 18 0) 19 0)], ov Y0 [] [], Z, 0, 0) 10 [(0, .ref (b0 + 74))] []
  refine g_aload_n hC 0 dX12_starts_10 rfl rfl ?_
  refine g_iconst hC (v := 0) dX12_starts_11 ic_0 ?_
  refine pt_X12_213 hC (x := (upd (upd x74 18 0) 19 0)) (kk_74 hL) (kn_74 hL) (ov_get hN 0 rfl rfl) (ov_set hN (by rfl) 0 (by rfl)) dX12_starts_12 ?_
  show gV l b0 D K (n, κ, ov X0 [74] [(upd (upd (upd x74 18 0) 19 0) 22 0)], ov Y0 [] [], Z, 0, 0) 15 [(0, .ref (b0 + 74))] []
  refine g_aload_n hC 0 dX12_starts_15 rfl rfl ?_
  refine g_iconst hC (v := 0) dX12_starts_16 ic_0 ?_
  refine pt_X12_254 hC (x := (upd (upd (upd x74 18 0) 19 0) 22 0)) (kk_74 hL) (kn_74 hL) (ov_get hN 0 rfl rfl) (ov_set hN (by rfl) 0 (by rfl)) dX12_starts_17 ?_
  show gV l b0 D K (n, κ, ov X0 [74] [(upd (upd (upd (upd x74 18 0) 19 0) 22 0) 23 0)], ov Y0 [] [], Z, 0, 0) 20 [(0, .ref (b0 + 74))] []
  refine g_aload_n hC 0 dX12_starts_20 rfl rfl ?_
  refine g_iconst hC (v := 0) dX12_starts_21 ic_0 ?_
  refine pt_X12_216 hC (x := (upd (upd (upd (upd x74 18 0) 19 0) 22 0) 23 0)) (kk_74 hL) (kn_74 hL) (ov_get hN 0 rfl rfl) (ov_set hN (by rfl) 0 (by rfl)) dX12_starts_22 ?_
  show gV l b0 D K (n, κ, ov X0 [74] [(upd (upd (upd (upd (upd x74 18 0) 19 0) 22 0) 23 0) 24 0)], ov Y0 [] [], Z, 0, 0) 25 [(0, .ref (b0 + 74))] []
  obtain rfl := sm1E hf
  exact hret _ _ dX12_starts_25

def fX12_starts      (x74 : Nat → Int32)  : Option ((Nat → Int32)) := fX12_starts_0  x74

set_option maxHeartbeats 4000000 in
set_option maxRecDepth 100000 in
theorem c_X12_starts (l : Launch) {b0 : Nat} {D : GD} {n : Nat} {κ : QT} {X0 : XT} {Y0 : YT} {Z : ZT} (hL : LY n κ) {x74 : Nat → Int32} (hx : ([74] : List Nat).map X0 = [x74]) (hy : ([] : List Nat).map Y0 = []) {rx74 : (Nat → Int32)} (hf : fX12_starts  x74 = some rx74) : gMv l yX12_starts cX12_starts 1 none 0 0 0 0 b0 D [.ref (b0 + 74)] (n, κ, X0, Y0, Z) (n, κ, ov X0 [74] [rx74], ov Y0 [] [], Z) := by
  have hN : ([74] : List Nat).Nodup := by decide
  have hM : ([] : List Nat).Nodup := by decide
  refine g_metv (own := RX12) (by decide) rfl rfl (Nat.le_of_ble_eq_true rfl) ?_
  intro K hC hret
  have e := wX12_starts_0 hL hN hM hC  hret hf
  rw [ov_id' hx, ov_id' hy] at e
  exact g_sub [0] rfl e

-- X12_begins
def fX12_begins_0   (x83 : Nat → Int32) (x84 : Nat → Int32) (x85 : Nat → Int32)  (x75 : (Nat → Int32)) (x76 : (Nat → Int32)) (x77 : (Nat → Int32)) (x78 : (Nat → Int32)) : Option ((Nat → Int32) × (Nat → Int32) × (Nat → Int32) × (Nat → Int32)) := bd1 (fX12_copies 6 6 x83 x76) fun x76_1 => (bd1 (fX12_copies 6 6 x84 x77) fun x77_3 => (bd1 (fX12_copies 36 36 x85 x78) fun x78_5 => (gd (inb 5 11) (gd (inb 1 11) (gd (inb 6 11) (gd (inb 7 11) (some ((upd (upd (upd x75 (5 : Int32).toNatClampNeg 0) (6 : Int32).toNatClampNeg ((upd x75 (5 : Int32).toNatClampNeg 0) (1 : Int32).toNatClampNeg)) (7 : Int32).toNatClampNeg 0), x76_1, x77_3, x78_5))))))))
set_option maxHeartbeats 4000000 in
set_option maxRecDepth 100000 in
theorem wX12_begins_0 {l : Launch} {b0 : Nat} {D : GD} {K : KT} {n : Nat} {κ : QT} {X0 : XT} {Y0 : YT} {Z : ZT} (hL : LY n κ) (hN : ([75, 76, 77, 78, 83, 84, 85] : List Nat).Nodup) (hM : ([] : List Nat).Nodup) (hC : gC l b0 D K RX12 cX12_begins none 1 1 22 0 0) {x83 : Nat → Int32} {x84 : Nat → Int32} {x85 : Nat → Int32} {rx75 : (Nat → Int32)} {rx76 : (Nat → Int32)} {rx77 : (Nat → Int32)} {rx78 : (Nat → Int32)} (hret : ∀ pc loc, decode cX12_begins pc = .ok (.return_, 1) → gV l b0 D K (n, κ, ov X0 [75, 76, 77, 78, 83, 84, 85] [rx75, rx76, rx77, rx78, x83, x84, x85], ov Y0 [] [], Z, 0, 0) pc loc []) {x75 : (Nat → Int32)} {x76 : (Nat → Int32)} {x77 : (Nat → Int32)} {x78 : (Nat → Int32)} (hf : fX12_begins_0 x83 x84 x85  x75 x76 x77 x78 = some (rx75, rx76, rx77, rx78)) : gV l b0 D K (n, κ, ov X0 [75, 76, 77, 78, 83, 84, 85] [x75, x76, x77, x78, x83, x84, x85], ov Y0 [] [], Z, 0, 0) 0 [(0, .ref (b0 + 74))] [] := by
  unfold fX12_begins_0 at hf
  refine g_aload_n hC 0 dX12_begins_0 rfl rfl ?_
  refine gt_X12_34 hC (a := 74) (kk_74 hL) (kn_74 hL) dX12_begins_1 ?_
  refine g_ref (b := 83) rfl ?_
  refine g_aload_n hC 0 dX12_begins_4 rfl rfl ?_
  refine gt_X12_13 hC (a := 74) (kk_74 hL) (kn_74 hL) dX12_begins_5 ?_
  refine g_ref (b := 76) rfl ?_
  obtain ⟨x76_1, q_2, hf⟩ := bd1E hf
  refine g_callS_v hC (X' := ov X0 [75, 76, 77, 78, 83, 84, 85] [x75, x76_1, x77, x78, x83, x84, x85]) (Y' := ov Y0 [] []) (As := [.ref (b0 + 83), .ref (b0 + 76)]) (gMv_eq (c_X12_copies l hL (kk_83 hL) (kn_83 hL) (kk_76 hL) (kn_76 hL) (nd_sub hN [4, 1] (by decide) (by rfl)) (nd_sub hM [] (by decide) (by rfl)) (ov_map hN [4, 1] (by rfl) (by rfl)) (ov_map hM [] (by rfl) (by rfl)) q_2) (ov_ovE hN (by rfl) [4, 1] [0, 2, 3, 5, 6] (by rfl) (by rfl) [x75, x77, x78, x84, x85] (by rfl) (by rfl) (by rfl) 7 (by rfl) (by decide)) (ov_ovE hM (by rfl) [] [] (by rfl) (by rfl) [] (by rfl) (by rfl) (by rfl) 0 (by rfl) (by decide))) tw_1439 tw_1437 tw_127 tw_1438 pd_X12_copies (by decide) (by decide) rfl rfl (Nat.le_of_ble_eq_true rfl) rfl dX12_begins_8 ?_
  refine g_aload_n hC 0 dX12_begins_11 rfl rfl ?_
  refine gt_X12_37 hC (a := 74) (kk_74 hL) (kn_74 hL) dX12_begins_12 ?_
  refine g_ref (b := 84) rfl ?_
  refine g_aload_n hC 0 dX12_begins_15 rfl rfl ?_
  refine gt_X12_16 hC (a := 74) (kk_74 hL) (kn_74 hL) dX12_begins_16 ?_
  refine g_ref (b := 77) rfl ?_
  obtain ⟨x77_3, q_4, hf⟩ := bd1E hf
  refine g_callS_v hC (X' := ov X0 [75, 76, 77, 78, 83, 84, 85] [x75, x76_1, x77_3, x78, x83, x84, x85]) (Y' := ov Y0 [] []) (As := [.ref (b0 + 84), .ref (b0 + 77)]) (gMv_eq (c_X12_copies l hL (kk_84 hL) (kn_84 hL) (kk_77 hL) (kn_77 hL) (nd_sub hN [5, 2] (by decide) (by rfl)) (nd_sub hM [] (by decide) (by rfl)) (ov_map hN [5, 2] (by rfl) (by rfl)) (ov_map hM [] (by rfl) (by rfl)) q_4) (ov_ovE hN (by rfl) [5, 2] [0, 1, 3, 4, 6] (by rfl) (by rfl) [x75, x76_1, x78, x83, x85] (by rfl) (by rfl) (by rfl) 7 (by rfl) (by decide)) (ov_ovE hM (by rfl) [] [] (by rfl) (by rfl) [] (by rfl) (by rfl) (by rfl) 0 (by rfl) (by decide))) tw_1439 tw_1437 tw_127 tw_1438 pd_X12_copies (by decide) (by decide) rfl rfl (Nat.le_of_ble_eq_true rfl) rfl dX12_begins_19 ?_
  refine g_aload_n hC 0 dX12_begins_22 rfl rfl ?_
  refine gt_X12_40 hC (a := 74) (kk_74 hL) (kn_74 hL) dX12_begins_23 ?_
  refine g_ref (b := 85) rfl ?_
  refine g_aload_n hC 0 dX12_begins_26 rfl rfl ?_
  refine gt_X12_19 hC (a := 74) (kk_74 hL) (kn_74 hL) dX12_begins_27 ?_
  refine g_ref (b := 78) rfl ?_
  obtain ⟨x78_5, q_6, hf⟩ := bd1E hf
  refine g_callS_v hC (X' := ov X0 [75, 76, 77, 78, 83, 84, 85] [x75, x76_1, x77_3, x78_5, x83, x84, x85]) (Y' := ov Y0 [] []) (As := [.ref (b0 + 85), .ref (b0 + 78)]) (gMv_eq (c_X12_copies l hL (kk_85 hL) (kn_85 hL) (kk_78 hL) (kn_78 hL) (nd_sub hN [6, 3] (by decide) (by rfl)) (nd_sub hM [] (by decide) (by rfl)) (ov_map hN [6, 3] (by rfl) (by rfl)) (ov_map hM [] (by rfl) (by rfl)) q_6) (ov_ovE hN (by rfl) [6, 3] [0, 1, 2, 4, 5] (by rfl) (by rfl) [x75, x76_1, x77_3, x83, x84] (by rfl) (by rfl) (by rfl) 7 (by rfl) (by decide)) (ov_ovE hM (by rfl) [] [] (by rfl) (by rfl) [] (by rfl) (by rfl) (by rfl) 0 (by rfl) (by decide))) tw_1439 tw_1437 tw_127 tw_1438 pd_X12_copies (by decide) (by decide) rfl rfl (Nat.le_of_ble_eq_true rfl) rfl dX12_begins_30 ?_
  refine g_aload_n hC 0 dX12_begins_33 rfl rfl ?_
  refine gt_X12_9 hC (a := 74) (kk_74 hL) (kn_74 hL) dX12_begins_34 ?_
  refine g_ref (b := 75) rfl ?_
  refine g_iconst hC (v := 5) dX12_begins_37 ic_5 ?_
  refine g_iconst hC (v := 0) dX12_begins_38 ic_0 ?_
  obtain ⟨h_7, hf⟩ := gdE hf
  refine g_iast hC (x := x75) (kk_75 hL) (kn_75 hL) (ov_get hN 0 rfl rfl) (inb_in h_7) (ov_set hN (by rfl) 0 (by rfl)) dX12_begins_39 ?_
  show gV l b0 D K (n, κ, ov X0 [75, 76, 77, 78, 83, 84, 85] [(upd x75 (5 : Int32).toNatClampNeg 0), x76_1, x77_3, x78_5, x83, x84, x85], ov Y0 [] [], Z, 0, 0) 40 [(0, .ref (b0 + 74))] []
  refine g_aload_n hC 0 dX12_begins_40 rfl rfl ?_
  refine gt_X12_9 hC (a := 74) (kk_74 hL) (kn_74 hL) dX12_begins_41 ?_
  refine g_ref (b := 75) rfl ?_
  refine g_bipush hC (v := 6) dX12_begins_44 bp_6 ?_
  refine g_aload_n hC 0 dX12_begins_46 rfl rfl ?_
  refine gt_X12_9 hC (a := 74) (kk_74 hL) (kn_74 hL) dX12_begins_47 ?_
  refine g_ref (b := 75) rfl ?_
  refine g_iconst hC (v := 1) dX12_begins_50 ic_1 ?_
  obtain ⟨h_8, hf⟩ := gdE hf
  refine g_iald hC (x := (upd x75 (5 : Int32).toNatClampNeg 0)) (kk_75 hL) (kn_75 hL) (ov_get hN 0 rfl rfl) (inb_in h_8) dX12_begins_51 ?_
  obtain ⟨h_9, hf⟩ := gdE hf
  refine g_iast hC (x := (upd x75 (5 : Int32).toNatClampNeg 0)) (kk_75 hL) (kn_75 hL) (ov_get hN 0 rfl rfl) (inb_in h_9) (ov_set hN (by rfl) 0 (by rfl)) dX12_begins_52 ?_
  show gV l b0 D K (n, κ, ov X0 [75, 76, 77, 78, 83, 84, 85] [(upd (upd x75 (5 : Int32).toNatClampNeg 0) (6 : Int32).toNatClampNeg ((upd x75 (5 : Int32).toNatClampNeg 0) (1 : Int32).toNatClampNeg)), x76_1, x77_3, x78_5, x83, x84, x85], ov Y0 [] [], Z, 0, 0) 53 [(0, .ref (b0 + 74))] []
  refine g_aload_n hC 0 dX12_begins_53 rfl rfl ?_
  refine gt_X12_9 hC (a := 74) (kk_74 hL) (kn_74 hL) dX12_begins_54 ?_
  refine g_ref (b := 75) rfl ?_
  refine g_bipush hC (v := 7) dX12_begins_57 bp_7 ?_
  refine g_iconst hC (v := 0) dX12_begins_59 ic_0 ?_
  obtain ⟨h_10, hf⟩ := gdE hf
  refine g_iast hC (x := (upd (upd x75 (5 : Int32).toNatClampNeg 0) (6 : Int32).toNatClampNeg ((upd x75 (5 : Int32).toNatClampNeg 0) (1 : Int32).toNatClampNeg))) (kk_75 hL) (kn_75 hL) (ov_get hN 0 rfl rfl) (inb_in h_10) (ov_set hN (by rfl) 0 (by rfl)) dX12_begins_60 ?_
  show gV l b0 D K (n, κ, ov X0 [75, 76, 77, 78, 83, 84, 85] [(upd (upd (upd x75 (5 : Int32).toNatClampNeg 0) (6 : Int32).toNatClampNeg ((upd x75 (5 : Int32).toNatClampNeg 0) (1 : Int32).toNatClampNeg)) (7 : Int32).toNatClampNeg 0), x76_1, x77_3, x78_5, x83, x84, x85], ov Y0 [] [], Z, 0, 0) 61 [(0, .ref (b0 + 74))] []
  obtain ⟨rfl, rfl, rfl, rfl⟩ := sm4E hf
  exact hret _ _ dX12_begins_61

def fX12_begins   (x83 : Nat → Int32) (x84 : Nat → Int32) (x85 : Nat → Int32)   (x75 : Nat → Int32) (x76 : Nat → Int32) (x77 : Nat → Int32) (x78 : Nat → Int32)  : Option ((Nat → Int32) × (Nat → Int32) × (Nat → Int32) × (Nat → Int32)) := fX12_begins_0 x83 x84 x85 x75 x76 x77 x78

set_option maxHeartbeats 4000000 in
set_option maxRecDepth 100000 in
theorem c_X12_begins (l : Launch) {b0 : Nat} {D : GD} {n : Nat} {κ : QT} {X0 : XT} {Y0 : YT} {Z : ZT} (hL : LY n κ) {x75 : Nat → Int32} {x76 : Nat → Int32} {x77 : Nat → Int32} {x78 : Nat → Int32} {x83 : Nat → Int32} {x84 : Nat → Int32} {x85 : Nat → Int32} (hx : ([75, 76, 77, 78, 83, 84, 85] : List Nat).map X0 = [x75, x76, x77, x78, x83, x84, x85]) (hy : ([] : List Nat).map Y0 = []) {rx75 : (Nat → Int32)} {rx76 : (Nat → Int32)} {rx77 : (Nat → Int32)} {rx78 : (Nat → Int32)} (hf : fX12_begins x83 x84 x85 x75 x76 x77 x78 = some (rx75, rx76, rx77, rx78)) : gMv l yX12_begins cX12_begins 1 none 1 22 0 0 b0 D [.ref (b0 + 74)] (n, κ, X0, Y0, Z) (n, κ, ov X0 [75, 76, 77, 78, 83, 84, 85] [rx75, rx76, rx77, rx78, x83, x84, x85], ov Y0 [] [], Z) := by
  have hN : ([75, 76, 77, 78, 83, 84, 85] : List Nat).Nodup := by decide
  have hM : ([] : List Nat).Nodup := by decide
  refine g_metv (own := RX12) (by decide) rfl rfl (Nat.le_of_ble_eq_true rfl) ?_
  intro K hC hret
  have e := wX12_begins_0 hL hN hM hC  hret hf
  rw [ov_id' hx, ov_id' hy] at e
  exact g_sub [0] rfl e

-- X12_force
def fX12_force_0   (x74 : Nat → Int32)  (v1 : Int32) (x75 : (Nat → Int32)) : Option (Int32 × (Nat → Int32)) := bd1 (fX12_in v1.toInt64 (-1) (((x74 21) - 1).toInt64)) fun r_1 => (if r_1 = 0 then (some ((-2), x75)) else (gd (inb 10 11) (bn (x75 (10 : Int32).toNatClampNeg) fun t_4 => (gd (inb 10 11) (some (t_4, (upd x75 (10 : Int32).toNatClampNeg v1)))))))
set_option maxHeartbeats 4000000 in
set_option maxRecDepth 100000 in
theorem wX12_force_0 {l : Launch} {b0 : Nat} {D : GD} {K : KT} {n : Nat} {κ : QT} {X0 : XT} {Y0 : YT} {Z : ZT} (hL : LY n κ) (hN : ([74, 75] : List Nat).Nodup) (hM : ([] : List Nat).Nodup) (hC : gC l b0 D K RX12 cX12_force (some FieldType.int) 3 1 25 0 0) {x74 : Nat → Int32} {r : Int32} {rx75 : (Nat → Int32)} (hret : ∀ pc loc, narrow .int (.int r) = .int r → decode cX12_force pc = .ok (.ireturn, 1) → gV l b0 D K (n, κ, ov X0 [74, 75] [x74, rx75], ov Y0 [] [], Z, 0, 0) pc loc [.int r]) {v1 : Int32} {x75 : (Nat → Int32)} (hf : fX12_force_0 x74  v1 x75 = some (r, rx75)) : gV l b0 D K (n, κ, ov X0 [74, 75] [x74, x75], ov Y0 [] [], Z, 0, 0) 0 [(0, .ref (b0 + 74)), (1, .int v1)] [] := by
  unfold fX12_force_0 at hf
  refine g_iload_n hC 1 dX12_force_0 rfl rfl ?_
  refine g_i2l hC dX12_force_1 ?_
  refine g_ldc2_w hC (v := (-1)) tw_1522 dX12_force_2 ?_
  refine g_aload_n hC 0 dX12_force_5 rfl rfl ?_
  refine gt_X12_333 hC (x := x74) (kk_74 hL) (kn_74 hL) (ov_get hN 0 rfl rfl) dX12_force_6 ?_
  refine g_iconst hC (v := 1) dX12_force_9 ic_1 ?_
  refine g_isub hC dX12_force_10 ?_
  refine g_i2l hC dX12_force_11 ?_
  obtain ⟨r_1, q_2, hf⟩ := bd1E hf
  refine g_callS_i hC (X' := ov X0 [74, 75] [x74, x75]) (Y' := ov Y0 [] []) (As := [.long v1.toInt64, .long (-1), .long (((x74 21) - 1).toInt64)]) (gMi_eq (c_X12_in l hL (ov_map hN [] (by rfl) (by rfl)) (ov_map hM [] (by rfl) (by rfl)) q_2) (ov_ovE hN (by rfl) [] [0, 1] (by rfl) (by rfl) [x74, x75] (by rfl) (by rfl) (by rfl) 2 (by rfl) (by decide)) (ov_ovE hM (by rfl) [] [] (by rfl) (by rfl) [] (by rfl) (by rfl) (by rfl) 0 (by rfl) (by decide))) tw_1428 tw_1426 tw_127 tw_1427 pd_X12_in (by decide) (by decide) rfl rfl (Nat.le_of_ble_eq_true rfl) rfl dX12_force_12 ?_
  refine g_if_ne hC 21 dX12_force_15 (by decide) (fun hc => ?_) (fun hc => ?_)
  · replace hf := ifF hf hc
    refine g_aload_n hC 0 dX12_force_21 rfl rfl ?_
    refine gt_X12_9 hC (a := 74) (kk_74 hL) (kn_74 hL) dX12_force_22 ?_
    refine g_ref (b := 75) rfl ?_
    refine g_bipush hC (v := 10) dX12_force_25 bp_10 ?_
    obtain ⟨h_3, hf⟩ := gdE hf
    refine g_iald hC (x := x75) (kk_75 hL) (kn_75 hL) (ov_get hN 1 rfl rfl) (inb_in h_3) dX12_force_27 ?_
    obtain ⟨t_4, et_4, hf⟩ := bnE hf
    refine g_topi et_4 ?_
    refine g_istore_n hC (i := 2) [(2, .int t_4), (0, .ref (b0 + 74)), (1, .int v1)] rfl dX12_force_28 (by decide) rfl ?_
    refine g_aload_n hC 1 dX12_force_29 rfl rfl ?_
    refine gt_X12_9 hC (a := 74) (kk_74 hL) (kn_74 hL) dX12_force_30 ?_
    refine g_ref (b := 75) rfl ?_
    refine g_bipush hC (v := 10) dX12_force_33 bp_10 ?_
    refine g_iload_n hC 2 dX12_force_35 rfl rfl ?_
    obtain ⟨h_5, hf⟩ := gdE hf
    refine g_iast hC (x := x75) (kk_75 hL) (kn_75 hL) (ov_get hN 1 rfl rfl) (inb_in h_5) (ov_set hN (by rfl) 1 (by rfl)) dX12_force_36 ?_
    show gV l b0 D K (n, κ, ov X0 [74, 75] [x74, (upd x75 (10 : Int32).toNatClampNeg v1)], ov Y0 [] [], Z, 0, 0) 37 [(2, .int t_4), (0, .ref (b0 + 74)), (1, .int v1)] []
    refine g_iload_n hC 0 dX12_force_37 rfl rfl ?_
    obtain ⟨rfl, rfl⟩ := sm2E hf
    exact hret _ _ rfl dX12_force_38
  · replace hf := ifT hf hc
    refine g_bipush hC (v := (-2)) dX12_force_18 bp_m2 ?_
    obtain ⟨rfl, rfl⟩ := sm2E hf
    exact hret _ _ rfl dX12_force_20

def fX12_force   (x74 : Nat → Int32)  (v1 : Int32) (x75 : Nat → Int32)  : Option (Int32 × (Nat → Int32)) := fX12_force_0 x74 v1 x75

set_option maxHeartbeats 4000000 in
set_option maxRecDepth 100000 in
theorem c_X12_force (l : Launch) {b0 : Nat} {D : GD} {n : Nat} {κ : QT} {X0 : XT} {Y0 : YT} {Z : ZT} (hL : LY n κ) {x74 : Nat → Int32} {x75 : Nat → Int32} (hx : ([74, 75] : List Nat).map X0 = [x74, x75]) (hy : ([] : List Nat).map Y0 = []) {v1 : Int32} {r : Int32} {rx75 : (Nat → Int32)} (hf : fX12_force x74 v1 x75 = some (r, rx75)) : gMi l yX12_force cX12_force 3 (some FieldType.int) 1 25 0 0 b0 D [.ref (b0 + 74), .int v1] (n, κ, X0, Y0, Z) (n, κ, ov X0 [74, 75] [x74, rx75], ov Y0 [] [], Z) r := by
  have hN : ([74, 75] : List Nat).Nodup := by decide
  have hM : ([] : List Nat).Nodup := by decide
  refine g_meti (own := RX12) (by decide) rfl rfl (Nat.le_of_ble_eq_true rfl) ?_
  intro K hC hret
  have e := wX12_force_0 hL hN hM hC  hret hf
  rw [ov_id' hx, ov_id' hy] at e
  exact g_sub [0, 1] rfl e

-- X12_truth
def fX12_truth_0     (v0 : Int32) : Option (Int64) := if v0 = 0 then (some 0) else (some 1)
set_option maxHeartbeats 4000000 in
set_option maxRecDepth 100000 in
theorem wX12_truth_0 {l : Launch} {b0 : Nat} {D : GD} {K : KT} {n : Nat} {κ : QT} {X0 : XT} {Y0 : YT} {Z : ZT} (hL : LY n κ) (hN : ([] : List Nat).Nodup) (hM : ([] : List Nat).Nodup) (hC : gC l b0 D K RX12 cX12_truth (some FieldType.long) 1 0 0 0 0) {r : Int64} (hret : ∀ pc loc, decode cX12_truth pc = .ok (.lreturn, 1) → gV l b0 D K (n, κ, ov X0 [] [], ov Y0 [] [], Z, 0, 0) pc loc [.long r]) {v0 : Int32} (hf : fX12_truth_0   v0 = some r) : gV l b0 D K (n, κ, ov X0 [] [], ov Y0 [] [], Z, 0, 0) 0 [(0, .int v0)] [] := by
  unfold fX12_truth_0 at hf
  refine g_iload_n hC 0 dX12_truth_0 rfl rfl ?_
  refine g_if_eq hC 8 dX12_truth_1 (by decide) (fun hc => ?_) (fun hc => ?_)
  · replace hf := ifT hf hc
    refine g_lconst hC (v := 0) dX12_truth_8 rfl ?_
    obtain rfl := sm1E hf
    exact hret _ _ dX12_truth_9
  · replace hf := ifF hf hc
    refine g_lconst hC (v := 1) dX12_truth_4 rfl ?_
    refine g_goto hC 9 dX12_truth_5 (by decide) ?_
    obtain rfl := sm1E hf
    exact hret _ _ dX12_truth_9

def fX12_truth     (v0 : Int32)   : Option (Int64) := fX12_truth_0  v0

set_option maxHeartbeats 4000000 in
set_option maxRecDepth 100000 in
theorem c_X12_truth (l : Launch) {b0 : Nat} {D : GD} {n : Nat} {κ : QT} {X0 : XT} {Y0 : YT} {Z : ZT} (hL : LY n κ) (hx : ([] : List Nat).map X0 = []) (hy : ([] : List Nat).map Y0 = []) {v0 : Int32} {r : Int64} (hf : fX12_truth  v0 = some r) : gMl l yX12_truth cX12_truth 1 (some FieldType.long) 0 0 0 0 b0 D [.int v0] (n, κ, X0, Y0, Z) (n, κ, ov X0 [] [], ov Y0 [] [], Z) r := by
  have hN : ([] : List Nat).Nodup := by decide
  have hM : ([] : List Nat).Nodup := by decide
  refine g_metl (own := RX12) (by decide) rfl rfl (Nat.le_of_ble_eq_true rfl) ?_
  intro K hC hret
  have e := wX12_truth_0 hL hN hM hC  hret hf
  rw [ov_id' hx, ov_id' hy] at e
  exact g_sub [0] rfl e

-- X12_both
def fX12_both_191     (v1 : Int64) (v3 : Int64) : Option (Int64) := some (v1 ||| v3)
set_option maxHeartbeats 4000000 in
set_option maxRecDepth 100000 in
theorem wX12_both_191 {l : Launch} {b0 : Nat} {D : GD} {K : KT} {n : Nat} {κ : QT} {X0 : XT} {Y0 : YT} {Z : ZT} (hL : LY n κ) (hN : ([] : List Nat).Nodup) (hM : ([] : List Nat).Nodup) (hC : gC l b0 D K RX12 cX12_both (some FieldType.long) 5 1 20 0 0) {r : Int64} (hret : ∀ pc loc, decode cX12_both pc = .ok (.lreturn, 1) → gV l b0 D K (n, κ, ov X0 [] [], ov Y0 [] [], Z, 0, 0) pc loc [.long r]) {v1 : Int64} {v3 : Int64} (hf : fX12_both_191   v1 v3 = some r) : gV l b0 D K (n, κ, ov X0 [] [], ov Y0 [] [], Z, 0, 0) 191 [(1, .long v1), (3, .long v3)] [] := by
  unfold fX12_both_191 at hf
  refine g_lload_n hC 0 dX12_both_191 rfl rfl ?_
  refine g_lload_n hC 1 dX12_both_192 rfl rfl ?_
  refine g_lor hC dX12_both_193 ?_
  obtain rfl := sm1E hf
  exact hret _ _ dX12_both_194

def fX12_both_183     (s0 : Int32) : Option (Int64) := bd1 (fX12_truth s0) fun r_1 => (some r_1)
set_option maxHeartbeats 4000000 in
set_option maxRecDepth 100000 in
theorem wX12_both_183 {l : Launch} {b0 : Nat} {D : GD} {K : KT} {n : Nat} {κ : QT} {X0 : XT} {Y0 : YT} {Z : ZT} (hL : LY n κ) (hN : ([] : List Nat).Nodup) (hM : ([] : List Nat).Nodup) (hC : gC l b0 D K RX12 cX12_both (some FieldType.long) 5 1 20 0 0) {r : Int64} (hret : ∀ pc loc, decode cX12_both pc = .ok (.lreturn, 1) → gV l b0 D K (n, κ, ov X0 [] [], ov Y0 [] [], Z, 0, 0) pc loc [.long r]) {s0 : Int32} (hf : fX12_both_183   s0 = some r) : gV l b0 D K (n, κ, ov X0 [] [], ov Y0 [] [], Z, 0, 0) 183 [] [.int s0] := by
  unfold fX12_both_183 at hf
  obtain ⟨r_1, q_2, hf⟩ := bd1E hf
  refine g_callS_l hC (X' := ov X0 [] []) (Y' := ov Y0 [] []) (As := [.int s0]) (gMl_eq (c_X12_truth l hL (ov_map hN [] (by rfl) (by rfl)) (ov_map hM [] (by rfl) (by rfl)) q_2) (ov_ovE hN (by rfl) [] [] (by rfl) (by rfl) [] (by rfl) (by rfl) (by rfl) 0 (by rfl) (by decide)) (ov_ovE hM (by rfl) [] [] (by rfl) (by rfl) [] (by rfl) (by rfl) (by rfl) 0 (by rfl) (by decide))) tw_1623 tw_1621 tw_127 tw_1622 pd_X12_truth (by decide) (by decide) rfl rfl (Nat.le_of_ble_eq_true rfl) rfl dX12_both_183 ?_
  obtain rfl := sm1E hf
  exact hret _ _ dX12_both_186

def fX12_both_168     (s0 : Int32) : Option (Int64) := bd1 (fX12_truth s0) fun r_1 => (some r_1)
set_option maxHeartbeats 4000000 in
set_option maxRecDepth 100000 in
theorem wX12_both_168 {l : Launch} {b0 : Nat} {D : GD} {K : KT} {n : Nat} {κ : QT} {X0 : XT} {Y0 : YT} {Z : ZT} (hL : LY n κ) (hN : ([] : List Nat).Nodup) (hM : ([] : List Nat).Nodup) (hC : gC l b0 D K RX12 cX12_both (some FieldType.long) 5 1 20 0 0) {r : Int64} (hret : ∀ pc loc, decode cX12_both pc = .ok (.lreturn, 1) → gV l b0 D K (n, κ, ov X0 [] [], ov Y0 [] [], Z, 0, 0) pc loc [.long r]) {s0 : Int32} (hf : fX12_both_168   s0 = some r) : gV l b0 D K (n, κ, ov X0 [] [], ov Y0 [] [], Z, 0, 0) 168 [] [.int s0] := by
  unfold fX12_both_168 at hf
  obtain ⟨r_1, q_2, hf⟩ := bd1E hf
  refine g_callS_l hC (X' := ov X0 [] []) (Y' := ov Y0 [] []) (As := [.int s0]) (gMl_eq (c_X12_truth l hL (ov_map hN [] (by rfl) (by rfl)) (ov_map hM [] (by rfl) (by rfl)) q_2) (ov_ovE hN (by rfl) [] [] (by rfl) (by rfl) [] (by rfl) (by rfl) (by rfl) 0 (by rfl) (by decide)) (ov_ovE hM (by rfl) [] [] (by rfl) (by rfl) [] (by rfl) (by rfl) (by rfl) 0 (by rfl) (by decide))) tw_1623 tw_1621 tw_127 tw_1622 pd_X12_truth (by decide) (by decide) rfl rfl (Nat.le_of_ble_eq_true rfl) rfl dX12_both_168 ?_
  obtain rfl := sm1E hf
  exact hret _ _ dX12_both_171

def fX12_both_153     (s0 : Int32) : Option (Int64) := bd1 (fX12_truth s0) fun r_1 => (some r_1)
set_option maxHeartbeats 4000000 in
set_option maxRecDepth 100000 in
theorem wX12_both_153 {l : Launch} {b0 : Nat} {D : GD} {K : KT} {n : Nat} {κ : QT} {X0 : XT} {Y0 : YT} {Z : ZT} (hL : LY n κ) (hN : ([] : List Nat).Nodup) (hM : ([] : List Nat).Nodup) (hC : gC l b0 D K RX12 cX12_both (some FieldType.long) 5 1 20 0 0) {r : Int64} (hret : ∀ pc loc, decode cX12_both pc = .ok (.lreturn, 1) → gV l b0 D K (n, κ, ov X0 [] [], ov Y0 [] [], Z, 0, 0) pc loc [.long r]) {s0 : Int32} (hf : fX12_both_153   s0 = some r) : gV l b0 D K (n, κ, ov X0 [] [], ov Y0 [] [], Z, 0, 0) 153 [] [.int s0] := by
  unfold fX12_both_153 at hf
  obtain ⟨r_1, q_2, hf⟩ := bd1E hf
  refine g_callS_l hC (X' := ov X0 [] []) (Y' := ov Y0 [] []) (As := [.int s0]) (gMl_eq (c_X12_truth l hL (ov_map hN [] (by rfl) (by rfl)) (ov_map hM [] (by rfl) (by rfl)) q_2) (ov_ovE hN (by rfl) [] [] (by rfl) (by rfl) [] (by rfl) (by rfl) (by rfl) 0 (by rfl) (by decide)) (ov_ovE hM (by rfl) [] [] (by rfl) (by rfl) [] (by rfl) (by rfl) (by rfl) 0 (by rfl) (by decide))) tw_1623 tw_1621 tw_127 tw_1622 pd_X12_truth (by decide) (by decide) rfl rfl (Nat.le_of_ble_eq_true rfl) rfl dX12_both_153 ?_
  obtain rfl := sm1E hf
  exact hret _ _ dX12_both_156

def fX12_both_138     (s0 : Int32) : Option (Int64) := bd1 (fX12_truth s0) fun r_1 => (some r_1)
set_option maxHeartbeats 4000000 in
set_option maxRecDepth 100000 in
theorem wX12_both_138 {l : Launch} {b0 : Nat} {D : GD} {K : KT} {n : Nat} {κ : QT} {X0 : XT} {Y0 : YT} {Z : ZT} (hL : LY n κ) (hN : ([] : List Nat).Nodup) (hM : ([] : List Nat).Nodup) (hC : gC l b0 D K RX12 cX12_both (some FieldType.long) 5 1 20 0 0) {r : Int64} (hret : ∀ pc loc, decode cX12_both pc = .ok (.lreturn, 1) → gV l b0 D K (n, κ, ov X0 [] [], ov Y0 [] [], Z, 0, 0) pc loc [.long r]) {s0 : Int32} (hf : fX12_both_138   s0 = some r) : gV l b0 D K (n, κ, ov X0 [] [], ov Y0 [] [], Z, 0, 0) 138 [] [.int s0] := by
  unfold fX12_both_138 at hf
  obtain ⟨r_1, q_2, hf⟩ := bd1E hf
  refine g_callS_l hC (X' := ov X0 [] []) (Y' := ov Y0 [] []) (As := [.int s0]) (gMl_eq (c_X12_truth l hL (ov_map hN [] (by rfl) (by rfl)) (ov_map hM [] (by rfl) (by rfl)) q_2) (ov_ovE hN (by rfl) [] [] (by rfl) (by rfl) [] (by rfl) (by rfl) (by rfl) 0 (by rfl) (by decide)) (ov_ovE hM (by rfl) [] [] (by rfl) (by rfl) [] (by rfl) (by rfl) (by rfl) 0 (by rfl) (by decide))) tw_1623 tw_1621 tw_127 tw_1622 pd_X12_truth (by decide) (by decide) rfl rfl (Nat.le_of_ble_eq_true rfl) rfl dX12_both_138 ?_
  obtain rfl := sm1E hf
  exact hret _ _ dX12_both_141

def fX12_both_123     (s0 : Int32) : Option (Int64) := bd1 (fX12_truth s0) fun r_1 => (some r_1)
set_option maxHeartbeats 4000000 in
set_option maxRecDepth 100000 in
theorem wX12_both_123 {l : Launch} {b0 : Nat} {D : GD} {K : KT} {n : Nat} {κ : QT} {X0 : XT} {Y0 : YT} {Z : ZT} (hL : LY n κ) (hN : ([] : List Nat).Nodup) (hM : ([] : List Nat).Nodup) (hC : gC l b0 D K RX12 cX12_both (some FieldType.long) 5 1 20 0 0) {r : Int64} (hret : ∀ pc loc, decode cX12_both pc = .ok (.lreturn, 1) → gV l b0 D K (n, κ, ov X0 [] [], ov Y0 [] [], Z, 0, 0) pc loc [.long r]) {s0 : Int32} (hf : fX12_both_123   s0 = some r) : gV l b0 D K (n, κ, ov X0 [] [], ov Y0 [] [], Z, 0, 0) 123 [] [.int s0] := by
  unfold fX12_both_123 at hf
  obtain ⟨r_1, q_2, hf⟩ := bd1E hf
  refine g_callS_l hC (X' := ov X0 [] []) (Y' := ov Y0 [] []) (As := [.int s0]) (gMl_eq (c_X12_truth l hL (ov_map hN [] (by rfl) (by rfl)) (ov_map hM [] (by rfl) (by rfl)) q_2) (ov_ovE hN (by rfl) [] [] (by rfl) (by rfl) [] (by rfl) (by rfl) (by rfl) 0 (by rfl) (by decide)) (ov_ovE hM (by rfl) [] [] (by rfl) (by rfl) [] (by rfl) (by rfl) (by rfl) 0 (by rfl) (by decide))) tw_1623 tw_1621 tw_127 tw_1622 pd_X12_truth (by decide) (by decide) rfl rfl (Nat.le_of_ble_eq_true rfl) rfl dX12_both_123 ?_
  obtain rfl := sm1E hf
  exact hret _ _ dX12_both_126

def fX12_both_0     (v0 : Int32) (v1 : Int64) (v3 : Int64) : Option (Int64) := if v0.toInt = 2 then (some (v1 + v3)) else (if v0.toInt = 3 then (some (v1 - v3)) else (if v0.toInt = 4 then (if 0 ≤ (lg_cmp v1 v3) then (fX12_both_123   0) else (fX12_both_123   1)) else (if v0.toInt = 5 then (if 0 < (lg_cmp v1 v3) then (fX12_both_138   0) else (fX12_both_138   1)) else (if v0.toInt = 6 then (if (lg_cmp v1 v3) = 0 then (fX12_both_153   1) else (fX12_both_153   0)) else (if v0.toInt = 7 then (if (lg_cmp v1 v3) < 0 then (fX12_both_168   0) else (fX12_both_168   1)) else (if v0.toInt = 8 then (if (lg_cmp v1 v3) ≤ 0 then (fX12_both_183   0) else (fX12_both_183   1)) else (if v0.toInt = 10 then (some (v1 &&& v3)) else (if v0.toInt = 13 then (some (v1 * v3)) else (if v0.toInt = 14 then (if (lg_cmp v3 0) = 0 then (some 0) else (gd (nzL v3) (some (v1 / v3)))) else (if v0.toInt = 15 then (if (lg_cmp v3 0) = 0 then (some 0) else (gd (nzL v3) (some (v1 - v1 / v3 * v3)))) else (fX12_both_191   v1 v3)))))))))))
set_option maxHeartbeats 4000000 in
set_option maxRecDepth 100000 in
theorem wX12_both_0 {l : Launch} {b0 : Nat} {D : GD} {K : KT} {n : Nat} {κ : QT} {X0 : XT} {Y0 : YT} {Z : ZT} (hL : LY n κ) (hN : ([] : List Nat).Nodup) (hM : ([] : List Nat).Nodup) (hC : gC l b0 D K RX12 cX12_both (some FieldType.long) 5 1 20 0 0) {r : Int64} (hret : ∀ pc loc, decode cX12_both pc = .ok (.lreturn, 1) → gV l b0 D K (n, κ, ov X0 [] [], ov Y0 [] [], Z, 0, 0) pc loc [.long r]) {v0 : Int32} {v1 : Int64} {v3 : Int64} (hf : fX12_both_0   v0 v1 v3 = some r) : gV l b0 D K (n, κ, ov X0 [] [], ov Y0 [] [], Z, 0, 0) 0 [(0, .int v0), (1, .long v1), (3, .long v3)] [] := by
  unfold fX12_both_0 at hf
  refine g_iload_n hC 0 dX12_both_0 rfl rfl ?_
  by_cases c_1 : v0.toInt = 2
  · replace hf := ifT hf c_1
    refine g_tabIn hC 72 dX12_both_1 (by omega) (by omega) (by rw [c_1]; rfl) (by decide) ?_
    refine g_lload_n hC 1 dX12_both_72 rfl rfl ?_
    refine g_lload_n hC 2 dX12_both_73 rfl rfl ?_
    refine g_ladd hC dX12_both_74 ?_
    obtain rfl := sm1E hf
    exact hret _ _ dX12_both_75
  replace hf := ifF hf c_1
  by_cases c_2 : v0.toInt = 3
  · replace hf := ifT hf c_2
    refine g_tabIn hC 76 dX12_both_1 (by omega) (by omega) (by rw [c_2]; rfl) (by decide) ?_
    refine g_lload_n hC 1 dX12_both_76 rfl rfl ?_
    refine g_lload_n hC 2 dX12_both_77 rfl rfl ?_
    refine g_lsub hC dX12_both_78 ?_
    obtain rfl := sm1E hf
    exact hret _ _ dX12_both_79
  replace hf := ifF hf c_2
  by_cases c_3 : v0.toInt = 4
  · replace hf := ifT hf c_3
    refine g_tabIn hC 112 dX12_both_1 (by omega) (by omega) (by rw [c_3]; rfl) (by decide) ?_
    refine g_lload_n hC 1 dX12_both_112 rfl rfl ?_
    refine g_lload_n hC 2 dX12_both_113 rfl rfl ?_
    refine g_lcmp hC dX12_both_114 ?_
    refine g_if_ge hC 122 dX12_both_115 (by decide) (fun hc => ?_) (fun hc => ?_)
    · replace hf := ifT hf hc
      refine g_iconst hC (v := 0) dX12_both_122 ic_0 ?_
      exact g_sub [] rfl (wX12_both_123 hL hN hM hC  hret  hf)
    · replace hf := ifF hf hc
      refine g_iconst hC (v := 1) dX12_both_118 ic_1 ?_
      refine g_goto hC 123 dX12_both_119 (by decide) ?_
      exact g_sub [] rfl (wX12_both_123 hL hN hM hC  hret  hf)
  replace hf := ifF hf c_3
  by_cases c_4 : v0.toInt = 5
  · replace hf := ifT hf c_4
    refine g_tabIn hC 127 dX12_both_1 (by omega) (by omega) (by rw [c_4]; rfl) (by decide) ?_
    refine g_lload_n hC 1 dX12_both_127 rfl rfl ?_
    refine g_lload_n hC 2 dX12_both_128 rfl rfl ?_
    refine g_lcmp hC dX12_both_129 ?_
    refine g_if_gt hC 137 dX12_both_130 (by decide) (fun hc => ?_) (fun hc => ?_)
    · replace hf := ifT hf hc
      refine g_iconst hC (v := 0) dX12_both_137 ic_0 ?_
      exact g_sub [] rfl (wX12_both_138 hL hN hM hC  hret  hf)
    · replace hf := ifF hf hc
      refine g_iconst hC (v := 1) dX12_both_133 ic_1 ?_
      refine g_goto hC 138 dX12_both_134 (by decide) ?_
      exact g_sub [] rfl (wX12_both_138 hL hN hM hC  hret  hf)
  replace hf := ifF hf c_4
  by_cases c_5 : v0.toInt = 6
  · replace hf := ifT hf c_5
    refine g_tabIn hC 142 dX12_both_1 (by omega) (by omega) (by rw [c_5]; rfl) (by decide) ?_
    refine g_lload_n hC 1 dX12_both_142 rfl rfl ?_
    refine g_lload_n hC 2 dX12_both_143 rfl rfl ?_
    refine g_lcmp hC dX12_both_144 ?_
    refine g_if_ne hC 152 dX12_both_145 (by decide) (fun hc => ?_) (fun hc => ?_)
    · replace hf := ifF hf hc
      refine g_iconst hC (v := 0) dX12_both_152 ic_0 ?_
      exact g_sub [] rfl (wX12_both_153 hL hN hM hC  hret  hf)
    · replace hf := ifT hf hc
      refine g_iconst hC (v := 1) dX12_both_148 ic_1 ?_
      refine g_goto hC 153 dX12_both_149 (by decide) ?_
      exact g_sub [] rfl (wX12_both_153 hL hN hM hC  hret  hf)
  replace hf := ifF hf c_5
  by_cases c_6 : v0.toInt = 7
  · replace hf := ifT hf c_6
    refine g_tabIn hC 157 dX12_both_1 (by omega) (by omega) (by rw [c_6]; rfl) (by decide) ?_
    refine g_lload_n hC 1 dX12_both_157 rfl rfl ?_
    refine g_lload_n hC 2 dX12_both_158 rfl rfl ?_
    refine g_lcmp hC dX12_both_159 ?_
    refine g_if_lt hC 167 dX12_both_160 (by decide) (fun hc => ?_) (fun hc => ?_)
    · replace hf := ifT hf hc
      refine g_iconst hC (v := 0) dX12_both_167 ic_0 ?_
      exact g_sub [] rfl (wX12_both_168 hL hN hM hC  hret  hf)
    · replace hf := ifF hf hc
      refine g_iconst hC (v := 1) dX12_both_163 ic_1 ?_
      refine g_goto hC 168 dX12_both_164 (by decide) ?_
      exact g_sub [] rfl (wX12_both_168 hL hN hM hC  hret  hf)
  replace hf := ifF hf c_6
  by_cases c_7 : v0.toInt = 8
  · replace hf := ifT hf c_7
    refine g_tabIn hC 172 dX12_both_1 (by omega) (by omega) (by rw [c_7]; rfl) (by decide) ?_
    refine g_lload_n hC 1 dX12_both_172 rfl rfl ?_
    refine g_lload_n hC 2 dX12_both_173 rfl rfl ?_
    refine g_lcmp hC dX12_both_174 ?_
    refine g_if_le hC 182 dX12_both_175 (by decide) (fun hc => ?_) (fun hc => ?_)
    · replace hf := ifT hf hc
      refine g_iconst hC (v := 0) dX12_both_182 ic_0 ?_
      exact g_sub [] rfl (wX12_both_183 hL hN hM hC  hret  hf)
    · replace hf := ifF hf hc
      refine g_iconst hC (v := 1) dX12_both_178 ic_1 ?_
      refine g_goto hC 183 dX12_both_179 (by decide) ?_
      exact g_sub [] rfl (wX12_both_183 hL hN hM hC  hret  hf)
  replace hf := ifF hf c_7
  by_cases c_8 : v0.toInt = 10
  · replace hf := ifT hf c_8
    refine g_tabIn hC 187 dX12_both_1 (by omega) (by omega) (by rw [c_8]; rfl) (by decide) ?_
    refine g_lload_n hC 1 dX12_both_187 rfl rfl ?_
    refine g_lload_n hC 2 dX12_both_188 rfl rfl ?_
    refine g_land hC dX12_both_189 ?_
    obtain rfl := sm1E hf
    exact hret _ _ dX12_both_190
  replace hf := ifF hf c_8
  by_cases c_9 : v0.toInt = 13
  · replace hf := ifT hf c_9
    refine g_tabIn hC 80 dX12_both_1 (by omega) (by omega) (by rw [c_9]; rfl) (by decide) ?_
    refine g_lload_n hC 1 dX12_both_80 rfl rfl ?_
    refine g_lload_n hC 2 dX12_both_81 rfl rfl ?_
    refine g_lmul hC dX12_both_82 ?_
    obtain rfl := sm1E hf
    exact hret _ _ dX12_both_83
  replace hf := ifF hf c_9
  by_cases c_10 : v0.toInt = 14
  · replace hf := ifT hf c_10
    refine g_tabIn hC 84 dX12_both_1 (by omega) (by omega) (by rw [c_10]; rfl) (by decide) ?_
    refine g_lload_n hC 2 dX12_both_84 rfl rfl ?_
    refine g_lconst hC (v := 0) dX12_both_85 rfl ?_
    refine g_lcmp hC dX12_both_86 ?_
    refine g_if_ne hC 94 dX12_both_87 (by decide) (fun hc => ?_) (fun hc => ?_)
    · replace hf := ifF hf hc
      refine g_lload_n hC 1 dX12_both_94 rfl rfl ?_
      refine g_lload_n hC 2 dX12_both_95 rfl rfl ?_
      obtain ⟨h_11, hf⟩ := gdE hf
      refine g_ldiv hC dX12_both_96 (nzLE h_11) ?_
      obtain rfl := sm1E hf
      exact hret _ _ dX12_both_97
    · replace hf := ifT hf hc
      refine g_lconst hC (v := 0) dX12_both_90 rfl ?_
      refine g_goto hC 97 dX12_both_91 (by decide) ?_
      obtain rfl := sm1E hf
      exact hret _ _ dX12_both_97
  replace hf := ifF hf c_10
  by_cases c_12 : v0.toInt = 15
  · replace hf := ifT hf c_12
    refine g_tabIn hC 98 dX12_both_1 (by omega) (by omega) (by rw [c_12]; rfl) (by decide) ?_
    refine g_lload_n hC 2 dX12_both_98 rfl rfl ?_
    refine g_lconst hC (v := 0) dX12_both_99 rfl ?_
    refine g_lcmp hC dX12_both_100 ?_
    refine g_if_ne hC 108 dX12_both_101 (by decide) (fun hc => ?_) (fun hc => ?_)
    · replace hf := ifF hf hc
      refine g_lload_n hC 1 dX12_both_108 rfl rfl ?_
      refine g_lload_n hC 2 dX12_both_109 rfl rfl ?_
      obtain ⟨h_13, hf⟩ := gdE hf
      refine g_lrem hC dX12_both_110 (nzLE h_13) ?_
      obtain rfl := sm1E hf
      exact hret _ _ dX12_both_111
    · replace hf := ifT hf hc
      refine g_lconst hC (v := 0) dX12_both_104 rfl ?_
      refine g_goto hC 111 dX12_both_105 (by decide) ?_
      obtain rfl := sm1E hf
      exact hret _ _ dX12_both_111
  replace hf := ifF hf c_12
  by_cases c_14 : v0.toInt = 9
  · refine g_tabIn hC 191 dX12_both_1 (by omega) (by omega) (by rw [c_14]; rfl) (by decide) ?_
    exact g_sub [1, 2] rfl (wX12_both_191 hL hN hM hC  hret  hf)
  by_cases c_15 : v0.toInt = 11
  · refine g_tabIn hC 191 dX12_both_1 (by omega) (by omega) (by rw [c_15]; rfl) (by decide) ?_
    exact g_sub [1, 2] rfl (wX12_both_191 hL hN hM hC  hret  hf)
  by_cases c_16 : v0.toInt = 12
  · refine g_tabIn hC 191 dX12_both_1 (by omega) (by omega) (by rw [c_16]; rfl) (by decide) ?_
    exact g_sub [1, 2] rfl (wX12_both_191 hL hN hM hC  hret  hf)
  refine g_tabOut hC 191 dX12_both_1 (by omega) (by decide) ?_
  exact g_sub [1, 2] rfl (wX12_both_191 hL hN hM hC  hret  hf)

def fX12_both     (v0 : Int32) (v1 : Int64) (v3 : Int64)   : Option (Int64) := fX12_both_0  v0 v1 v3

set_option maxHeartbeats 4000000 in
set_option maxRecDepth 100000 in
theorem c_X12_both (l : Launch) {b0 : Nat} {D : GD} {n : Nat} {κ : QT} {X0 : XT} {Y0 : YT} {Z : ZT} (hL : LY n κ) (hx : ([] : List Nat).map X0 = []) (hy : ([] : List Nat).map Y0 = []) {v0 : Int32} {v1 : Int64} {v3 : Int64} {r : Int64} (hf : fX12_both  v0 v1 v3 = some r) : gMl l yX12_both cX12_both 5 (some FieldType.long) 1 20 0 0 b0 D [.int v0, .long v1, .long v3] (n, κ, X0, Y0, Z) (n, κ, ov X0 [] [], ov Y0 [] [], Z) r := by
  have hN : ([] : List Nat).Nodup := by decide
  have hM : ([] : List Nat).Nodup := by decide
  refine g_metl (own := RX12) (by decide) rfl rfl (Nat.le_of_ble_eq_true rfl) ?_
  intro K hC hret
  have e := wX12_both_0 hL hN hM hC  hret hf
  rw [ov_id' hx, ov_id' hy] at e
  exact g_sub [0, 1, 2] rfl e

-- X12_answer
def fX12_answer_147   (x92 : Nat → Int32) (x93 : Nat → Int32) (y99 : Nat → Int64) (k6 : Int32 → Int32 → Int32 → Int32 → (Nat → Int64) → Option (Int64 × (Nat → Int64))) (v1 : Int32) (v3 : Int32) (v4 : Int32) (v5 : Int32) (y100 : (Nat → Int64)) : Option (Int64 × (Nat → Int64)) := bn (v5 + 1) fun t_1 => (k6 v1 v3 v4 t_1 y100)
set_option maxHeartbeats 4000000 in
set_option maxRecDepth 100000 in
theorem wX12_answer_147 {l : Launch} {b0 : Nat} {D : GD} {K : KT} {n : Nat} {κ : QT} {X0 : XT} {Y0 : YT} {Z : ZT} (hL : LY n κ) (hN : ([92, 93] : List Nat).Nodup) (hM : ([99, 100] : List Nat).Nodup) (hC : gC l b0 D K RX12 cX12_answer (some FieldType.long) 8 2 44 0 0) {x92 : Nat → Int32} {x93 : Nat → Int32} {y99 : Nat → Int64} {r : Int64} {ry100 : (Nat → Int64)} (hret : ∀ pc loc, decode cX12_answer pc = .ok (.lreturn, 1) → gV l b0 D K (n, κ, ov X0 [92, 93] [x92, x93], ov Y0 [99, 100] [y99, ry100], Z, 0, 0) pc loc [.long r]) {k6 : Int32 → Int32 → Int32 → Int32 → (Nat → Int64) → Option (Int64 × (Nat → Int64))} (hk6 : ∀ (v1 : Int32) (v3 : Int32) (v4 : Int32) (v5 : Int32) (y100 : (Nat → Int64)), k6 v1 v3 v4 v5 y100 = some (r, ry100) → gV l b0 D K (n, κ, ov X0 [92, 93] [x92, x93], ov Y0 [99, 100] [y99, y100], Z, 0, 0) 6 [(0, .ref (b0 + 74)), (1, .int v1), (3, .int v3), (4, .int v4), (5, .int v5)] []) {v1 : Int32} {v3 : Int32} {v4 : Int32} {v5 : Int32} {y100 : (Nat → Int64)} (hf : fX12_answer_147 x92 x93 y99 k6 v1 v3 v4 v5 y100 = some (r, ry100)) : gV l b0 D K (n, κ, ov X0 [92, 93] [x92, x93], ov Y0 [99, 100] [y99, y100], Z, 0, 0) 147 [(0, .ref (b0 + 74)), (1, .int v1), (3, .int v3), (4, .int v4), (5, .int v5)] [] := by
  unfold fX12_answer_147 at hf
  obtain ⟨t_1, et_1, hf⟩ := bnE hf
  refine g_iinc hC (i := 5) (v := t_1) [(5, .int t_1), (0, .ref (b0 + 74)), (1, .int v1), (3, .int v3), (4, .int v4)] dX12_answer_147 (q := 4) rfl ((congrArg (HAdd.hAdd v5) ic_1).trans et_1.symm) (by decide) rfl ?_
  refine g_goto hC 6 dX12_answer_150 (by decide) ?_
  exact g_sub [1, 2, 3, 4, 0] rfl (hk6 v1 v3 v4 t_1 y100 hf)

def fX12_answer_77   (x92 : Nat → Int32) (x93 : Nat → Int32) (y99 : Nat → Int64) (k6 : Int32 → Int32 → Int32 → Int32 → (Nat → Int64) → Option (Int64 × (Nat → Int64))) (v1 : Int32) (v3 : Int32) (v4 : Int32) (v5 : Int32) (s0 : Int64) (s1 : Int32) (y100 : (Nat → Int64)) : Option (Int64 × (Nat → Int64)) := gd (inb s1 300) (bn (v4 + 1) fun t_2 => (fX12_answer_147 x92 x93 y99 k6 v1 v3 t_2 v5 (vp_updL y100 s1.toNatClampNeg s0)))
set_option maxHeartbeats 4000000 in
set_option maxRecDepth 100000 in
theorem wX12_answer_77 {l : Launch} {b0 : Nat} {D : GD} {K : KT} {n : Nat} {κ : QT} {X0 : XT} {Y0 : YT} {Z : ZT} (hL : LY n κ) (hN : ([92, 93] : List Nat).Nodup) (hM : ([99, 100] : List Nat).Nodup) (hC : gC l b0 D K RX12 cX12_answer (some FieldType.long) 8 2 44 0 0) {x92 : Nat → Int32} {x93 : Nat → Int32} {y99 : Nat → Int64} {r : Int64} {ry100 : (Nat → Int64)} (hret : ∀ pc loc, decode cX12_answer pc = .ok (.lreturn, 1) → gV l b0 D K (n, κ, ov X0 [92, 93] [x92, x93], ov Y0 [99, 100] [y99, ry100], Z, 0, 0) pc loc [.long r]) {k6 : Int32 → Int32 → Int32 → Int32 → (Nat → Int64) → Option (Int64 × (Nat → Int64))} (hk6 : ∀ (v1 : Int32) (v3 : Int32) (v4 : Int32) (v5 : Int32) (y100 : (Nat → Int64)), k6 v1 v3 v4 v5 y100 = some (r, ry100) → gV l b0 D K (n, κ, ov X0 [92, 93] [x92, x93], ov Y0 [99, 100] [y99, y100], Z, 0, 0) 6 [(0, .ref (b0 + 74)), (1, .int v1), (3, .int v3), (4, .int v4), (5, .int v5)] []) {v1 : Int32} {v3 : Int32} {v4 : Int32} {v5 : Int32} {s0 : Int64} {s1 : Int32} {y100 : (Nat → Int64)} (hf : fX12_answer_77 x92 x93 y99 k6 v1 v3 v4 v5 s0 s1 y100 = some (r, ry100)) : gV l b0 D K (n, κ, ov X0 [92, 93] [x92, x93], ov Y0 [99, 100] [y99, y100], Z, 0, 0) 77 [(0, .ref (b0 + 74)), (1, .int v1), (3, .int v3), (4, .int v4), (5, .int v5)] [.long s0, .int s1, .ref (b0 + 100)] := by
  unfold fX12_answer_77 at hf
  obtain ⟨h_1, hf⟩ := gdE hf
  refine g_last hC (x := y100) (kk_100 hL) (kn_100 hL) (ov_get hM 1 rfl rfl) (inb_in h_1) (ov_set hM (by rfl) 1 (by rfl)) dX12_answer_77 ?_
  show gV l b0 D K (n, κ, ov X0 [92, 93] [x92, x93], ov Y0 [99, 100] [y99, (vp_updL y100 s1.toNatClampNeg s0)], Z, 0, 0) 78 [(0, .ref (b0 + 74)), (1, .int v1), (3, .int v3), (4, .int v4), (5, .int v5)] []
  obtain ⟨t_2, et_2, hf⟩ := bnE hf
  refine g_iinc hC (i := 4) (v := t_2) [(4, .int t_2), (0, .ref (b0 + 74)), (1, .int v1), (3, .int v3), (5, .int v5)] dX12_answer_78 (q := 3) rfl ((congrArg (HAdd.hAdd v4) ic_1).trans et_2.symm) (by decide) rfl ?_
  refine g_goto hC 147 dX12_answer_81 (by decide) ?_
  exact g_sub [1, 2, 3, 0, 4] rfl (wX12_answer_147 hL hN hM hC  hret hk6 hf)

def fX12_answer_53   (x92 : Nat → Int32) (x93 : Nat → Int32) (y99 : Nat → Int64) (k6 : Int32 → Int32 → Int32 → Int32 → (Nat → Int64) → Option (Int64 × (Nat → Int64))) (v1 : Int32) (v3 : Int32) (v4 : Int32) (v5 : Int32) (v6 : Int32) (v7 : Int32) (y100 : (Nat → Int64)) : Option (Int64 × (Nat → Int64)) := if v6 = 0 then (fX12_answer_77 x92 x93 y99 k6 v1 v3 v4 v5 v7.toInt64 v4 y100) else (gd (inb v7 12) (fX12_answer_77 x92 x93 y99 k6 v1 v3 v4 v5 (y99 v7.toNatClampNeg) v4 y100))
set_option maxHeartbeats 4000000 in
set_option maxRecDepth 100000 in
theorem wX12_answer_53 {l : Launch} {b0 : Nat} {D : GD} {K : KT} {n : Nat} {κ : QT} {X0 : XT} {Y0 : YT} {Z : ZT} (hL : LY n κ) (hN : ([92, 93] : List Nat).Nodup) (hM : ([99, 100] : List Nat).Nodup) (hC : gC l b0 D K RX12 cX12_answer (some FieldType.long) 8 2 44 0 0) {x92 : Nat → Int32} {x93 : Nat → Int32} {y99 : Nat → Int64} {r : Int64} {ry100 : (Nat → Int64)} (hret : ∀ pc loc, decode cX12_answer pc = .ok (.lreturn, 1) → gV l b0 D K (n, κ, ov X0 [92, 93] [x92, x93], ov Y0 [99, 100] [y99, ry100], Z, 0, 0) pc loc [.long r]) {k6 : Int32 → Int32 → Int32 → Int32 → (Nat → Int64) → Option (Int64 × (Nat → Int64))} (hk6 : ∀ (v1 : Int32) (v3 : Int32) (v4 : Int32) (v5 : Int32) (y100 : (Nat → Int64)), k6 v1 v3 v4 v5 y100 = some (r, ry100) → gV l b0 D K (n, κ, ov X0 [92, 93] [x92, x93], ov Y0 [99, 100] [y99, y100], Z, 0, 0) 6 [(0, .ref (b0 + 74)), (1, .int v1), (3, .int v3), (4, .int v4), (5, .int v5)] []) {v1 : Int32} {v3 : Int32} {v4 : Int32} {v5 : Int32} {v6 : Int32} {v7 : Int32} {y100 : (Nat → Int64)} (hf : fX12_answer_53 x92 x93 y99 k6 v1 v3 v4 v5 v6 v7 y100 = some (r, ry100)) : gV l b0 D K (n, κ, ov X0 [92, 93] [x92, x93], ov Y0 [99, 100] [y99, y100], Z, 0, 0) 53 [(0, .ref (b0 + 74)), (1, .int v1), (3, .int v3), (4, .int v4), (5, .int v5), (6, .int v6), (7, .int v7)] [] := by
  unfold fX12_answer_53 at hf
  refine g_aload_n hC 0 dX12_answer_53 rfl rfl ?_
  refine gt_X12_91 hC (a := 74) (kk_74 hL) (kn_74 hL) dX12_answer_54 ?_
  refine g_ref (b := 100) rfl ?_
  refine g_iload hC 3 dX12_answer_57 rfl ?_
  refine g_iload hC 5 dX12_answer_59 rfl ?_
  refine g_if_ne hC 70 dX12_answer_61 (by decide) (fun hc => ?_) (fun hc => ?_)
  · replace hf := ifF hf hc
    refine g_aload_n hC 0 dX12_answer_70 rfl rfl ?_
    refine gt_X12_87 hC (a := 74) (kk_74 hL) (kn_74 hL) dX12_answer_71 ?_
    refine g_ref (b := 99) rfl ?_
    refine g_iload hC 6 dX12_answer_74 rfl ?_
    obtain ⟨h_1, hf⟩ := gdE hf
    refine g_lald hC (x := y99) (kk_99 hL) (kn_99 hL) (ov_get hM 0 rfl rfl) (inb_in h_1) dX12_answer_76 ?_
    exact g_sub [0, 1, 2, 3, 4] rfl (wX12_answer_77 hL hN hM hC  hret hk6 hf)
  · replace hf := ifT hf hc
    refine g_iload hC 6 dX12_answer_64 rfl ?_
    refine g_i2l hC dX12_answer_66 ?_
    refine g_goto hC 77 dX12_answer_67 (by decide) ?_
    exact g_sub [0, 1, 2, 3, 4] rfl (wX12_answer_77 hL hN hM hC  hret hk6 hf)

def fX12_answer_6b   (x92 : Nat → Int32) (x93 : Nat → Int32) (y99 : Nat → Int64) (k6 : Int32 → Int32 → Int32 → Int32 → (Nat → Int64) → Option (Int64 × (Nat → Int64))) (v1 : Int32) (v3 : Int32) (v4 : Int32) (v5 : Int32) (y100 : (Nat → Int64)) : Option (Int64 × (Nat → Int64)) := if v3 ≤ v5 then (gd (inb 0 300) (some (y100 (0 : Int32).toNatClampNeg, y100))) else (gd (inb ((300 * v1) + v5) 1800) (bn (x92 ((300 * v1) + v5).toNatClampNeg) fun t_3 => (gd (inb ((300 * v1) + v5) 1800) (bn (x93 ((300 * v1) + v5).toNatClampNeg) fun t_5 => (if t_3 = 0 then (fX12_answer_53 x92 x93 y99 k6 v1 v3 v4 v5 t_3 t_5 y100) else (if t_3 = 1 then (fX12_answer_53 x92 x93 y99 k6 v1 v3 v4 v5 t_3 t_5 y100) else (if t_3 = 9 then (gd (inb (v4 - 1) 300) (gd (inb (v4 - 1) 300) (fX12_answer_147 x92 x93 y99 k6 v1 v3 v4 v5 (vp_updL y100 (v4 - 1).toNatClampNeg (1 - (y100 (v4 - 1).toNatClampNeg)))))) else (bn (v4 + (-1)) fun t_6 => (gd (inb (t_6 - 1) 300) (gd (inb t_6 300) (bd1 (fX12_both t_3 (y100 (t_6 - 1).toNatClampNeg) (y100 t_6.toNatClampNeg)) fun r_9 => (gd (inb (t_6 - 1) 300) (fX12_answer_147 x92 x93 y99 k6 v1 v3 t_6 v5 (vp_updL y100 (t_6 - 1).toNatClampNeg r_9))))))))))))))
def fX12_answer_6   (x92 : Nat → Int32) (x93 : Nat → Int32) (y99 : Nat → Int64) : Int32 → Int32 → Int32 → Int32 → (Nat → Int64) → Option (Int64 × (Nat → Int64)) := lq5 (fX12_answer_6b x92 x93 y99 ) 5000
set_option maxHeartbeats 4000000 in
set_option maxRecDepth 100000 in
theorem wX12_answer_6 {l : Launch} {b0 : Nat} {D : GD} {K : KT} {n : Nat} {κ : QT} {X0 : XT} {Y0 : YT} {Z : ZT} (hL : LY n κ) (hN : ([92, 93] : List Nat).Nodup) (hM : ([99, 100] : List Nat).Nodup) (hC : gC l b0 D K RX12 cX12_answer (some FieldType.long) 8 2 44 0 0) {x92 : Nat → Int32} {x93 : Nat → Int32} {y99 : Nat → Int64} {r : Int64} {ry100 : (Nat → Int64)} (hret : ∀ pc loc, decode cX12_answer pc = .ok (.lreturn, 1) → gV l b0 D K (n, κ, ov X0 [92, 93] [x92, x93], ov Y0 [99, 100] [y99, ry100], Z, 0, 0) pc loc [.long r]) : ∀ (j : Nat) (v1 : Int32) (v3 : Int32) (v4 : Int32) (v5 : Int32) (y100 : (Nat → Int64)), lq5 (fX12_answer_6b x92 x93 y99 ) j v1 v3 v4 v5 y100 = some (r, ry100) → gV l b0 D K (n, κ, ov X0 [92, 93] [x92, x93], ov Y0 [99, 100] [y99, y100], Z, 0, 0) 6 [(0, .ref (b0 + 74)), (1, .int v1), (3, .int v3), (4, .int v4), (5, .int v5)] [] := by
  intro j
  induction j with
  | zero => intro v1 v3 v4 v5 y100 hf; cases hf
  | succ j hk6 =>
    intro v1 v3 v4 v5 y100 hf
    replace hf : fX12_answer_6b x92 x93 y99  (lq5 (fX12_answer_6b x92 x93 y99 ) j) v1 v3 v4 v5 y100 = some (r, ry100) := hf
    unfold fX12_answer_6b at hf
    refine g_iload hC 4 dX12_answer_6 rfl ?_
    refine g_iload_n hC 2 dX12_answer_8 rfl rfl ?_
    refine g_icmp_ge hC 153 dX12_answer_9 (by decide) (fun hc => ?_) (fun hc => ?_)
    · replace hf := ifT hf hc
      refine g_aload_n hC 0 dX12_answer_153 rfl rfl ?_
      refine gt_X12_91 hC (a := 74) (kk_74 hL) (kn_74 hL) dX12_answer_154 ?_
      refine g_ref (b := 100) rfl ?_
      refine g_iconst hC (v := 0) dX12_answer_157 ic_0 ?_
      obtain ⟨h_1, hf⟩ := gdE hf
      refine g_lald hC (x := y100) (kk_100 hL) (kn_100 hL) (ov_get hM 1 rfl rfl) (inb_in h_1) dX12_answer_158 ?_
      obtain ⟨rfl, rfl⟩ := sm2E hf
      exact hret _ _ dX12_answer_159
    · replace hf := ifF hf hc
      refine g_aload_n hC 0 dX12_answer_12 rfl rfl ?_
      refine gt_X12_66 hC (a := 74) (kk_74 hL) (kn_74 hL) dX12_answer_13 ?_
      refine g_ref (b := 92) rfl ?_
      refine g_sipush hC (v := 300) dX12_answer_16 sp_300 ?_
      refine g_iload_n hC 1 dX12_answer_19 rfl rfl ?_
      refine g_imul hC dX12_answer_20 ?_
      refine g_iload hC 4 dX12_answer_21 rfl ?_
      refine g_iadd hC dX12_answer_23 ?_
      obtain ⟨h_2, hf⟩ := gdE hf
      refine g_iald hC (x := x92) (kk_92 hL) (kn_92 hL) (ov_get hN 0 rfl rfl) (inb_in h_2) dX12_answer_24 ?_
      obtain ⟨t_3, et_3, hf⟩ := bnE hf
      refine g_topi et_3 ?_
      refine g_istore hC (i := 6) [(6, .int t_3), (0, .ref (b0 + 74)), (1, .int v1), (3, .int v3), (4, .int v4), (5, .int v5)] dX12_answer_25 (by decide) rfl ?_
      refine g_aload_n hC 1 dX12_answer_27 rfl rfl ?_
      refine gt_X12_69 hC (a := 74) (kk_74 hL) (kn_74 hL) dX12_answer_28 ?_
      refine g_ref (b := 93) rfl ?_
      refine g_sipush hC (v := 300) dX12_answer_31 sp_300 ?_
      refine g_iload_n hC 2 dX12_answer_34 rfl rfl ?_
      refine g_imul hC dX12_answer_35 ?_
      refine g_iload hC 5 dX12_answer_36 rfl ?_
      refine g_iadd hC dX12_answer_38 ?_
      obtain ⟨h_4, hf⟩ := gdE hf
      refine g_iald hC (x := x93) (kk_93 hL) (kn_93 hL) (ov_get hN 1 rfl rfl) (inb_in h_4) dX12_answer_39 ?_
      obtain ⟨t_5, et_5, hf⟩ := bnE hf
      refine g_topi et_5 ?_
      refine g_istore hC (i := 7) [(7, .int t_5), (6, .int t_3), (0, .ref (b0 + 74)), (1, .int v1), (3, .int v3), (4, .int v4), (5, .int v5)] dX12_answer_40 (by decide) rfl ?_
      refine g_iload hC 1 dX12_answer_42 rfl ?_
      refine g_if_eq hC 53 dX12_answer_44 (by decide) (fun hc => ?_) (fun hc => ?_)
      · replace hf := ifT hf hc
        exact g_sub [2, 3, 4, 5, 6, 1, 0] rfl (wX12_answer_53 hL hN hM hC  hret hk6 hf)
      · replace hf := ifF hf hc
        refine g_iload hC 1 dX12_answer_47 rfl ?_
        refine g_iconst hC (v := 1) dX12_answer_49 ic_1 ?_
        refine g_icmp_ne hC 84 dX12_answer_50 (by decide) (fun hc => ?_) (fun hc => ?_)
        · replace hf := ifF hf hc
          refine g_iload hC 1 dX12_answer_84 rfl ?_
          refine g_bipush hC (v := 9) dX12_answer_86 bp_9 ?_
          refine g_icmp_ne hC 114 dX12_answer_88 (by decide) (fun hc => ?_) (fun hc => ?_)
          · replace hf := ifF hf hc
            obtain ⟨t_6, et_6, hf⟩ := bnE hf
            refine g_iinc hC (i := 4) (v := t_6) [(4, .int t_6), (7, .int t_5), (6, .int t_3), (0, .ref (b0 + 74)), (1, .int v1), (3, .int v3), (5, .int v5)] dX12_answer_114 (q := 5) rfl ((congrArg (HAdd.hAdd v4) ic_m1).trans et_6.symm) (by decide) rfl ?_
            refine g_aload_n hC 3 dX12_answer_117 rfl rfl ?_
            refine gt_X12_91 hC (a := 74) (kk_74 hL) (kn_74 hL) dX12_answer_118 ?_
            refine g_ref (b := 100) rfl ?_
            refine g_iload hC 0 dX12_answer_121 rfl ?_
            refine g_iconst hC (v := 1) dX12_answer_123 ic_1 ?_
            refine g_isub hC dX12_answer_124 ?_
            refine g_iload hC 2 dX12_answer_125 rfl ?_
            refine g_aload_n hC 3 dX12_answer_127 rfl rfl ?_
            refine gt_X12_91 hC (a := 74) (kk_74 hL) (kn_74 hL) dX12_answer_128 ?_
            refine g_ref (b := 100) rfl ?_
            refine g_iload hC 0 dX12_answer_131 rfl ?_
            refine g_iconst hC (v := 1) dX12_answer_133 ic_1 ?_
            refine g_isub hC dX12_answer_134 ?_
            obtain ⟨h_7, hf⟩ := gdE hf
            refine g_lald hC (x := y100) (kk_100 hL) (kn_100 hL) (ov_get hM 1 rfl rfl) (inb_in h_7) dX12_answer_135 ?_
            refine g_aload_n hC 3 dX12_answer_136 rfl rfl ?_
            refine gt_X12_91 hC (a := 74) (kk_74 hL) (kn_74 hL) dX12_answer_137 ?_
            refine g_ref (b := 100) rfl ?_
            refine g_iload hC 0 dX12_answer_140 rfl ?_
            obtain ⟨h_8, hf⟩ := gdE hf
            refine g_lald hC (x := y100) (kk_100 hL) (kn_100 hL) (ov_get hM 1 rfl rfl) (inb_in h_8) dX12_answer_142 ?_
            obtain ⟨r_9, q_10, hf⟩ := bd1E hf
            refine g_callS_l hC (X' := ov X0 [92, 93] [x92, x93]) (Y' := ov Y0 [99, 100] [y99, y100]) (As := [.int t_3, .long (y100 (t_6 - 1).toNatClampNeg), .long (y100 t_6.toNatClampNeg)]) (gMl_eq (c_X12_both l hL (ov_map hN [] (by rfl) (by rfl)) (ov_map hM [] (by rfl) (by rfl)) q_10) (ov_ovE hN (by rfl) [] [0, 1] (by rfl) (by rfl) [x92, x93] (by rfl) (by rfl) (by rfl) 2 (by rfl) (by decide)) (ov_ovE hM (by rfl) [] [0, 1] (by rfl) (by rfl) [y99, y100] (by rfl) (by rfl) (by rfl) 2 (by rfl) (by decide))) tw_1620 tw_1618 tw_127 tw_1619 pd_X12_both (by decide) (by decide) rfl rfl (Nat.le_of_ble_eq_true rfl) rfl dX12_answer_143 ?_
            obtain ⟨h_11, hf⟩ := gdE hf
            refine g_last hC (x := y100) (kk_100 hL) (kn_100 hL) (ov_get hM 1 rfl rfl) (inb_in h_11) (ov_set hM (by rfl) 1 (by rfl)) dX12_answer_146 ?_
            show gV l b0 D K (n, κ, ov X0 [92, 93] [x92, x93], ov Y0 [99, 100] [y99, (vp_updL y100 (t_6 - 1).toNatClampNeg r_9)], Z, 0, 0) 147 [(4, .int t_6), (7, .int t_5), (6, .int t_3), (0, .ref (b0 + 74)), (1, .int v1), (3, .int v3), (5, .int v5)] []
            exact g_sub [3, 4, 5, 0, 6] rfl (wX12_answer_147 hL hN hM hC  hret hk6 hf)
          · replace hf := ifT hf hc
            refine g_aload_n hC 2 dX12_answer_91 rfl rfl ?_
            refine gt_X12_91 hC (a := 74) (kk_74 hL) (kn_74 hL) dX12_answer_92 ?_
            refine g_ref (b := 100) rfl ?_
            refine g_iload hC 5 dX12_answer_95 rfl ?_
            refine g_iconst hC (v := 1) dX12_answer_97 ic_1 ?_
            refine g_isub hC dX12_answer_98 ?_
            refine g_lconst hC (v := 1) dX12_answer_99 rfl ?_
            refine g_aload_n hC 2 dX12_answer_100 rfl rfl ?_
            refine gt_X12_91 hC (a := 74) (kk_74 hL) (kn_74 hL) dX12_answer_101 ?_
            refine g_ref (b := 100) rfl ?_
            refine g_iload hC 5 dX12_answer_104 rfl ?_
            refine g_iconst hC (v := 1) dX12_answer_106 ic_1 ?_
            refine g_isub hC dX12_answer_107 ?_
            obtain ⟨h_12, hf⟩ := gdE hf
            refine g_lald hC (x := y100) (kk_100 hL) (kn_100 hL) (ov_get hM 1 rfl rfl) (inb_in h_12) dX12_answer_108 ?_
            refine g_lsub hC dX12_answer_109 ?_
            obtain ⟨h_13, hf⟩ := gdE hf
            refine g_last hC (x := y100) (kk_100 hL) (kn_100 hL) (ov_get hM 1 rfl rfl) (inb_in h_13) (ov_set hM (by rfl) 1 (by rfl)) dX12_answer_110 ?_
            show gV l b0 D K (n, κ, ov X0 [92, 93] [x92, x93], ov Y0 [99, 100] [y99, (vp_updL y100 (v4 - 1).toNatClampNeg (1 - (y100 (v4 - 1).toNatClampNeg)))], Z, 0, 0) 111 [(7, .int t_5), (6, .int t_3), (0, .ref (b0 + 74)), (1, .int v1), (3, .int v3), (4, .int v4), (5, .int v5)] []
            refine g_goto hC 147 dX12_answer_111 (by decide) ?_
            exact g_sub [2, 3, 4, 5, 6] rfl (wX12_answer_147 hL hN hM hC  hret hk6 hf)
        · replace hf := ifT hf hc
          exact g_sub [2, 3, 4, 5, 6, 1, 0] rfl (wX12_answer_53 hL hN hM hC  hret hk6 hf)

def fX12_answer_0   (x92 : Nat → Int32) (x93 : Nat → Int32) (y99 : Nat → Int64) (v1 : Int32) (v2 : Int32) (v3 : Int32) (y100 : (Nat → Int64)) : Option (Int64 × (Nat → Int64)) := fX12_answer_6 x92 x93 y99  v1 v3 0 v2 y100
set_option maxHeartbeats 4000000 in
set_option maxRecDepth 100000 in
theorem wX12_answer_0 {l : Launch} {b0 : Nat} {D : GD} {K : KT} {n : Nat} {κ : QT} {X0 : XT} {Y0 : YT} {Z : ZT} (hL : LY n κ) (hN : ([92, 93] : List Nat).Nodup) (hM : ([99, 100] : List Nat).Nodup) (hC : gC l b0 D K RX12 cX12_answer (some FieldType.long) 8 2 44 0 0) {x92 : Nat → Int32} {x93 : Nat → Int32} {y99 : Nat → Int64} {r : Int64} {ry100 : (Nat → Int64)} (hret : ∀ pc loc, decode cX12_answer pc = .ok (.lreturn, 1) → gV l b0 D K (n, κ, ov X0 [92, 93] [x92, x93], ov Y0 [99, 100] [y99, ry100], Z, 0, 0) pc loc [.long r]) {v1 : Int32} {v2 : Int32} {v3 : Int32} {y100 : (Nat → Int64)} (hf : fX12_answer_0 x92 x93 y99  v1 v2 v3 y100 = some (r, ry100)) : gV l b0 D K (n, κ, ov X0 [92, 93] [x92, x93], ov Y0 [99, 100] [y99, y100], Z, 0, 0) 0 [(0, .ref (b0 + 74)), (1, .int v1), (2, .int v2), (3, .int v3)] [] := by
  unfold fX12_answer_0 at hf
  refine g_iconst hC (v := 0) dX12_answer_0 ic_0 ?_
  refine g_istore hC (i := 4) [(4, .int 0), (0, .ref (b0 + 74)), (1, .int v1), (2, .int v2), (3, .int v3)] dX12_answer_1 (by decide) rfl ?_
  refine g_iload_n hC 3 dX12_answer_3 rfl rfl ?_
  refine g_istore hC (i := 5) [(5, .int v2), (4, .int 0), (0, .ref (b0 + 74)), (1, .int v1), (2, .int v2), (3, .int v3)] dX12_answer_4 (by decide) rfl ?_
  exact g_sub [2, 3, 5, 1, 0] rfl (wX12_answer_6 hL hN hM hC  hret  5000 v1 v3 0 v2 y100 hf)

def fX12_answer   (x92 : Nat → Int32) (x93 : Nat → Int32) (y99 : Nat → Int64) (v1 : Int32) (v2 : Int32) (v3 : Int32)  (y100 : Nat → Int64) : Option (Int64 × (Nat → Int64)) := fX12_answer_0 x92 x93 y99 v1 v2 v3 y100

set_option maxHeartbeats 4000000 in
set_option maxRecDepth 100000 in
theorem c_X12_answer (l : Launch) {b0 : Nat} {D : GD} {n : Nat} {κ : QT} {X0 : XT} {Y0 : YT} {Z : ZT} (hL : LY n κ) {x92 : Nat → Int32} {x93 : Nat → Int32} {y99 : Nat → Int64} {y100 : Nat → Int64} (hx : ([92, 93] : List Nat).map X0 = [x92, x93]) (hy : ([99, 100] : List Nat).map Y0 = [y99, y100]) {v1 : Int32} {v2 : Int32} {v3 : Int32} {r : Int64} {ry100 : (Nat → Int64)} (hf : fX12_answer x92 x93 y99 v1 v2 v3 y100 = some (r, ry100)) : gMl l yX12_answer cX12_answer 8 (some FieldType.long) 2 44 0 0 b0 D [.ref (b0 + 74), .int v1, .int v2, .int v3] (n, κ, X0, Y0, Z) (n, κ, ov X0 [92, 93] [x92, x93], ov Y0 [99, 100] [y99, ry100], Z) r := by
  have hN : ([92, 93] : List Nat).Nodup := by decide
  have hM : ([99, 100] : List Nat).Nodup := by decide
  refine g_metl (own := RX12) (by decide) rfl rfl (Nat.le_of_ble_eq_true rfl) ?_
  intro K hC hret
  have e := wX12_answer_0 hL hN hM hC  hret hf
  rw [ov_id' hx, ov_id' hy] at e
  exact g_sub [0, 1, 2, 3] rfl e

-- X12_wanted
def fX12_wanted_65   (x75 : Nat → Int32) (x92 : Nat → Int32) (x93 : Nat → Int32) (x94 : Nat → Int32) (x95 : Nat → Int32) (x96 : Nat → Int32) (x97 : Nat → Int32) (y99 : Nat → Int64) (v1 : Int32) (v2 : Int32) (y100 : (Nat → Int64)) : Option (Int64 × (Nat → Int64)) := gd (inb v2 72) (gd (inb v2 72) (bd2 (fX12_answer x92 x93 y99 v1 (x95 v2.toNatClampNeg) (x96 v2.toNatClampNeg) y100) fun r_3 y100_4 => (some (r_3, y100_4))))
set_option maxHeartbeats 4000000 in
set_option maxRecDepth 100000 in
theorem wX12_wanted_65 {l : Launch} {b0 : Nat} {D : GD} {K : KT} {n : Nat} {κ : QT} {X0 : XT} {Y0 : YT} {Z : ZT} (hL : LY n κ) (hN : ([75, 92, 93, 94, 95, 96, 97] : List Nat).Nodup) (hM : ([99, 100] : List Nat).Nodup) (hC : gC l b0 D K RX12 cX12_wanted (some FieldType.long) 3 3 71 0 0) {x75 : Nat → Int32} {x92 : Nat → Int32} {x93 : Nat → Int32} {x94 : Nat → Int32} {x95 : Nat → Int32} {x96 : Nat → Int32} {x97 : Nat → Int32} {y99 : Nat → Int64} {r : Int64} {ry100 : (Nat → Int64)} (hret : ∀ pc loc, decode cX12_wanted pc = .ok (.lreturn, 1) → gV l b0 D K (n, κ, ov X0 [75, 92, 93, 94, 95, 96, 97] [x75, x92, x93, x94, x95, x96, x97], ov Y0 [99, 100] [y99, ry100], Z, 0, 0) pc loc [.long r]) {v1 : Int32} {v2 : Int32} {y100 : (Nat → Int64)} (hf : fX12_wanted_65 x75 x92 x93 x94 x95 x96 x97 y99  v1 v2 y100 = some (r, ry100)) : gV l b0 D K (n, κ, ov X0 [75, 92, 93, 94, 95, 96, 97] [x75, x92, x93, x94, x95, x96, x97], ov Y0 [99, 100] [y99, y100], Z, 0, 0) 65 [(0, .ref (b0 + 74)), (1, .int v1), (2, .int v2)] [] := by
  unfold fX12_wanted_65 at hf
  refine g_aload_n hC 0 dX12_wanted_65 rfl rfl ?_
  refine g_iload_n hC 1 dX12_wanted_66 rfl rfl ?_
  refine g_aload_n hC 0 dX12_wanted_67 rfl rfl ?_
  refine gt_X12_75 hC (a := 74) (kk_74 hL) (kn_74 hL) dX12_wanted_68 ?_
  refine g_ref (b := 95) rfl ?_
  refine g_iload_n hC 2 dX12_wanted_71 rfl rfl ?_
  obtain ⟨h_1, hf⟩ := gdE hf
  refine g_iald hC (x := x95) (kk_95 hL) (kn_95 hL) (ov_get hN 4 rfl rfl) (inb_in h_1) dX12_wanted_72 ?_
  refine g_aload_n hC 0 dX12_wanted_73 rfl rfl ?_
  refine gt_X12_78 hC (a := 74) (kk_74 hL) (kn_74 hL) dX12_wanted_74 ?_
  refine g_ref (b := 96) rfl ?_
  refine g_iload_n hC 2 dX12_wanted_77 rfl rfl ?_
  obtain ⟨h_2, hf⟩ := gdE hf
  refine g_iald hC (x := x96) (kk_96 hL) (kn_96 hL) (ov_get hN 5 rfl rfl) (inb_in h_2) dX12_wanted_78 ?_
  obtain ⟨r_3, y100_4, q_5, hf⟩ := bd2E hf
  refine g_callV_l (a := 74) hC (X' := ov X0 [75, 92, 93, 94, 95, 96, 97] [x75, x92, x93, x94, x95, x96, x97]) (Y' := ov Y0 [99, 100] [y99, y100_4]) (As := [.int v1, .int (x95 v2.toNatClampNeg), .int (x96 v2.toNatClampNeg)]) (gMl_eq (c_X12_answer l hL (ov_map hN [1, 2] (by rfl) (by rfl)) (ov_map hM [0, 1] (by rfl) (by rfl)) q_5) (ov_ovE hN (by rfl) [1, 2] [0, 3, 4, 5, 6] (by rfl) (by rfl) [x75, x94, x95, x96, x97] (by rfl) (by rfl) (by rfl) 7 (by rfl) (by decide)) (ov_ovE hM (by rfl) [0, 1] [] (by rfl) (by rfl) [] (by rfl) (by rfl) (by rfl) 2 (by rfl) (by decide))) tw_1617 tw_1614 tw_127 tw_1616 tw_91 (ci := 12) rfl (by decide) (kk_74 hL) (kn_74 hL) pd_X12_answer (by decide) (by decide) rfl rfl (Nat.le_of_ble_eq_true rfl) rfl dX12_wanted_79 ?_
  obtain ⟨rfl, rfl⟩ := sm2E hf
  exact hret _ _ dX12_wanted_82

def fX12_wanted_13b   (x75 : Nat → Int32) (x92 : Nat → Int32) (x93 : Nat → Int32) (x94 : Nat → Int32) (x95 : Nat → Int32) (x96 : Nat → Int32) (x97 : Nat → Int32) (y99 : Nat → Int64) (k13 : Int32 → Int32 → (Nat → Int64) → Option (Int64 × (Nat → Int64))) (v1 : Int32) (v2 : Int32) (y100 : (Nat → Int64)) : Option (Int64 × (Nat → Int64)) := gd (inb v1 6) (if ((12 * v1) + (x94 v1.toNatClampNeg)) ≤ v2 then (some (0, y100)) else (gd (inb v2 72) (gd (inb v2 72) (if (x96 v2.toNatClampNeg) = (x97 v2.toNatClampNeg) then (fX12_wanted_65 x75 x92 x93 x94 x95 x96 x97 y99  v1 v2 y100) else (gd (inb v2 72) (gd (inb v2 72) (bd2 (fX12_answer x92 x93 y99 v1 (x96 v2.toNatClampNeg) (x97 v2.toNatClampNeg) y100) fun r_6 y100_7 => (if (lg_cmp r_6 1) = 0 then (fX12_wanted_65 x75 x92 x93 x94 x95 x96 x97 y99  v1 v2 y100_7) else (bn (v2 + 1) fun t_9 => (k13 v1 t_9 y100_7))))))))))
def fX12_wanted_13   (x75 : Nat → Int32) (x92 : Nat → Int32) (x93 : Nat → Int32) (x94 : Nat → Int32) (x95 : Nat → Int32) (x96 : Nat → Int32) (x97 : Nat → Int32) (y99 : Nat → Int64) : Int32 → Int32 → (Nat → Int64) → Option (Int64 × (Nat → Int64)) := lq3 (fX12_wanted_13b x75 x92 x93 x94 x95 x96 x97 y99 ) 5000
set_option maxHeartbeats 4000000 in
set_option maxRecDepth 100000 in
theorem wX12_wanted_13 {l : Launch} {b0 : Nat} {D : GD} {K : KT} {n : Nat} {κ : QT} {X0 : XT} {Y0 : YT} {Z : ZT} (hL : LY n κ) (hN : ([75, 92, 93, 94, 95, 96, 97] : List Nat).Nodup) (hM : ([99, 100] : List Nat).Nodup) (hC : gC l b0 D K RX12 cX12_wanted (some FieldType.long) 3 3 71 0 0) {x75 : Nat → Int32} {x92 : Nat → Int32} {x93 : Nat → Int32} {x94 : Nat → Int32} {x95 : Nat → Int32} {x96 : Nat → Int32} {x97 : Nat → Int32} {y99 : Nat → Int64} {r : Int64} {ry100 : (Nat → Int64)} (hret : ∀ pc loc, decode cX12_wanted pc = .ok (.lreturn, 1) → gV l b0 D K (n, κ, ov X0 [75, 92, 93, 94, 95, 96, 97] [x75, x92, x93, x94, x95, x96, x97], ov Y0 [99, 100] [y99, ry100], Z, 0, 0) pc loc [.long r]) : ∀ (j : Nat) (v1 : Int32) (v2 : Int32) (y100 : (Nat → Int64)), lq3 (fX12_wanted_13b x75 x92 x93 x94 x95 x96 x97 y99 ) j v1 v2 y100 = some (r, ry100) → gV l b0 D K (n, κ, ov X0 [75, 92, 93, 94, 95, 96, 97] [x75, x92, x93, x94, x95, x96, x97], ov Y0 [99, 100] [y99, y100], Z, 0, 0) 13 [(0, .ref (b0 + 74)), (1, .int v1), (2, .int v2)] [] := by
  intro j
  induction j with
  | zero => intro v1 v2 y100 hf; cases hf
  | succ j hk13 =>
    intro v1 v2 y100 hf
    replace hf : fX12_wanted_13b x75 x92 x93 x94 x95 x96 x97 y99  (lq3 (fX12_wanted_13b x75 x92 x93 x94 x95 x96 x97 y99 ) j) v1 v2 y100 = some (r, ry100) := hf
    unfold fX12_wanted_13b at hf
    refine g_iload_n hC 2 dX12_wanted_13 rfl rfl ?_
    refine g_bipush hC (v := 12) dX12_wanted_14 bp_12 ?_
    refine g_iload_n hC 1 dX12_wanted_16 rfl rfl ?_
    refine g_imul hC dX12_wanted_17 ?_
    refine g_aload_n hC 0 dX12_wanted_18 rfl rfl ?_
    refine gt_X12_72 hC (a := 74) (kk_74 hL) (kn_74 hL) dX12_wanted_19 ?_
    refine g_ref (b := 94) rfl ?_
    refine g_iload_n hC 1 dX12_wanted_22 rfl rfl ?_
    obtain ⟨h_1, hf⟩ := gdE hf
    refine g_iald hC (x := x94) (kk_94 hL) (kn_94 hL) (ov_get hN 3 rfl rfl) (inb_in h_1) dX12_wanted_23 ?_
    refine g_iadd hC dX12_wanted_24 ?_
    refine g_icmp_ge hC 89 dX12_wanted_25 (by decide) (fun hc => ?_) (fun hc => ?_)
    · replace hf := ifT hf hc
      refine g_lconst hC (v := 0) dX12_wanted_89 rfl ?_
      obtain ⟨rfl, rfl⟩ := sm2E hf
      exact hret _ _ dX12_wanted_90
    · replace hf := ifF hf hc
      refine g_aload_n hC 0 dX12_wanted_28 rfl rfl ?_
      refine gt_X12_78 hC (a := 74) (kk_74 hL) (kn_74 hL) dX12_wanted_29 ?_
      refine g_ref (b := 96) rfl ?_
      refine g_iload_n hC 2 dX12_wanted_32 rfl rfl ?_
      obtain ⟨h_2, hf⟩ := gdE hf
      refine g_iald hC (x := x96) (kk_96 hL) (kn_96 hL) (ov_get hN 5 rfl rfl) (inb_in h_2) dX12_wanted_33 ?_
      refine g_aload_n hC 0 dX12_wanted_34 rfl rfl ?_
      refine gt_X12_81 hC (a := 74) (kk_74 hL) (kn_74 hL) dX12_wanted_35 ?_
      refine g_ref (b := 97) rfl ?_
      refine g_iload_n hC 2 dX12_wanted_38 rfl rfl ?_
      obtain ⟨h_3, hf⟩ := gdE hf
      refine g_iald hC (x := x97) (kk_97 hL) (kn_97 hL) (ov_get hN 6 rfl rfl) (inb_in h_3) dX12_wanted_39 ?_
      refine g_icmp_eq hC 65 dX12_wanted_40 (by decide) (fun hc => ?_) (fun hc => ?_)
      · replace hf := ifT hf hc
        exact g_sub [0, 1, 2] rfl (wX12_wanted_65 hL hN hM hC  hret  hf)
      · replace hf := ifF hf hc
        refine g_aload_n hC 0 dX12_wanted_43 rfl rfl ?_
        refine g_iload_n hC 1 dX12_wanted_44 rfl rfl ?_
        refine g_aload_n hC 0 dX12_wanted_45 rfl rfl ?_
        refine gt_X12_78 hC (a := 74) (kk_74 hL) (kn_74 hL) dX12_wanted_46 ?_
        refine g_ref (b := 96) rfl ?_
        refine g_iload_n hC 2 dX12_wanted_49 rfl rfl ?_
        obtain ⟨h_4, hf⟩ := gdE hf
        refine g_iald hC (x := x96) (kk_96 hL) (kn_96 hL) (ov_get hN 5 rfl rfl) (inb_in h_4) dX12_wanted_50 ?_
        refine g_aload_n hC 0 dX12_wanted_51 rfl rfl ?_
        refine gt_X12_81 hC (a := 74) (kk_74 hL) (kn_74 hL) dX12_wanted_52 ?_
        refine g_ref (b := 97) rfl ?_
        refine g_iload_n hC 2 dX12_wanted_55 rfl rfl ?_
        obtain ⟨h_5, hf⟩ := gdE hf
        refine g_iald hC (x := x97) (kk_97 hL) (kn_97 hL) (ov_get hN 6 rfl rfl) (inb_in h_5) dX12_wanted_56 ?_
        obtain ⟨r_6, y100_7, q_8, hf⟩ := bd2E hf
        refine g_callV_l (a := 74) hC (X' := ov X0 [75, 92, 93, 94, 95, 96, 97] [x75, x92, x93, x94, x95, x96, x97]) (Y' := ov Y0 [99, 100] [y99, y100_7]) (As := [.int v1, .int (x96 v2.toNatClampNeg), .int (x97 v2.toNatClampNeg)]) (gMl_eq (c_X12_answer l hL (ov_map hN [1, 2] (by rfl) (by rfl)) (ov_map hM [0, 1] (by rfl) (by rfl)) q_8) (ov_ovE hN (by rfl) [1, 2] [0, 3, 4, 5, 6] (by rfl) (by rfl) [x75, x94, x95, x96, x97] (by rfl) (by rfl) (by rfl) 7 (by rfl) (by decide)) (ov_ovE hM (by rfl) [0, 1] [] (by rfl) (by rfl) [] (by rfl) (by rfl) (by rfl) 2 (by rfl) (by decide))) tw_1617 tw_1614 tw_127 tw_1616 tw_91 (ci := 12) rfl (by decide) (kk_74 hL) (kn_74 hL) pd_X12_answer (by decide) (by decide) rfl rfl (Nat.le_of_ble_eq_true rfl) rfl dX12_wanted_57 ?_
        refine g_lconst hC (v := 1) dX12_wanted_60 rfl ?_
        refine g_lcmp hC dX12_wanted_61 ?_
        refine g_if_ne hC 83 dX12_wanted_62 (by decide) (fun hc => ?_) (fun hc => ?_)
        · replace hf := ifF hf hc
          obtain ⟨t_9, et_9, hf⟩ := bnE hf
          refine g_iinc hC (i := 2) (v := t_9) [(2, .int t_9), (0, .ref (b0 + 74)), (1, .int v1)] dX12_wanted_83 (q := 2) rfl ((congrArg (HAdd.hAdd v2) ic_1).trans et_9.symm) (by decide) rfl ?_
          refine g_goto hC 13 dX12_wanted_86 (by decide) ?_
          exact g_sub [1, 2, 0] rfl (hk13 v1 t_9 y100_7 hf)
        · replace hf := ifT hf hc
          exact g_sub [0, 1, 2] rfl (wX12_wanted_65 hL hN hM hC  hret  hf)

def fX12_wanted_0   (x75 : Nat → Int32) (x92 : Nat → Int32) (x93 : Nat → Int32) (x94 : Nat → Int32) (x95 : Nat → Int32) (x96 : Nat → Int32) (x97 : Nat → Int32) (y99 : Nat → Int64) (y100 : (Nat → Int64)) : Option (Int64 × (Nat → Int64)) := gd (inb 10 11) (bn (x75 (10 : Int32).toNatClampNeg) fun t_2 => (bn (12 * t_2) fun t_3 => (fX12_wanted_13 x75 x92 x93 x94 x95 x96 x97 y99  t_2 t_3 y100)))
set_option maxHeartbeats 4000000 in
set_option maxRecDepth 100000 in
theorem wX12_wanted_0 {l : Launch} {b0 : Nat} {D : GD} {K : KT} {n : Nat} {κ : QT} {X0 : XT} {Y0 : YT} {Z : ZT} (hL : LY n κ) (hN : ([75, 92, 93, 94, 95, 96, 97] : List Nat).Nodup) (hM : ([99, 100] : List Nat).Nodup) (hC : gC l b0 D K RX12 cX12_wanted (some FieldType.long) 3 3 71 0 0) {x75 : Nat → Int32} {x92 : Nat → Int32} {x93 : Nat → Int32} {x94 : Nat → Int32} {x95 : Nat → Int32} {x96 : Nat → Int32} {x97 : Nat → Int32} {y99 : Nat → Int64} {r : Int64} {ry100 : (Nat → Int64)} (hret : ∀ pc loc, decode cX12_wanted pc = .ok (.lreturn, 1) → gV l b0 D K (n, κ, ov X0 [75, 92, 93, 94, 95, 96, 97] [x75, x92, x93, x94, x95, x96, x97], ov Y0 [99, 100] [y99, ry100], Z, 0, 0) pc loc [.long r]) {y100 : (Nat → Int64)} (hf : fX12_wanted_0 x75 x92 x93 x94 x95 x96 x97 y99  y100 = some (r, ry100)) : gV l b0 D K (n, κ, ov X0 [75, 92, 93, 94, 95, 96, 97] [x75, x92, x93, x94, x95, x96, x97], ov Y0 [99, 100] [y99, y100], Z, 0, 0) 0 [(0, .ref (b0 + 74))] [] := by
  unfold fX12_wanted_0 at hf
  refine g_aload_n hC 0 dX12_wanted_0 rfl rfl ?_
  refine gt_X12_9 hC (a := 74) (kk_74 hL) (kn_74 hL) dX12_wanted_1 ?_
  refine g_ref (b := 75) rfl ?_
  refine g_bipush hC (v := 10) dX12_wanted_4 bp_10 ?_
  obtain ⟨h_1, hf⟩ := gdE hf
  refine g_iald hC (x := x75) (kk_75 hL) (kn_75 hL) (ov_get hN 0 rfl rfl) (inb_in h_1) dX12_wanted_6 ?_
  obtain ⟨t_2, et_2, hf⟩ := bnE hf
  refine g_topi et_2 ?_
  refine g_istore_n hC (i := 1) [(1, .int t_2), (0, .ref (b0 + 74))] rfl dX12_wanted_7 (by decide) rfl ?_
  refine g_bipush hC (v := 12) dX12_wanted_8 bp_12 ?_
  refine g_iload_n hC 0 dX12_wanted_10 rfl rfl ?_
  refine g_imul hC dX12_wanted_11 ?_
  obtain ⟨t_3, et_3, hf⟩ := bnE hf
  refine g_topi et_3 ?_
  refine g_istore_n hC (i := 2) [(2, .int t_3), (1, .int t_2), (0, .ref (b0 + 74))] rfl dX12_wanted_12 (by decide) rfl ?_
  exact g_sub [2, 1, 0] rfl (wX12_wanted_13 hL hN hM hC  hret  5000 t_2 t_3 y100 hf)

def fX12_wanted   (x75 : Nat → Int32) (x92 : Nat → Int32) (x93 : Nat → Int32) (x94 : Nat → Int32) (x95 : Nat → Int32) (x96 : Nat → Int32) (x97 : Nat → Int32) (y99 : Nat → Int64)   (y100 : Nat → Int64) : Option (Int64 × (Nat → Int64)) := fX12_wanted_0 x75 x92 x93 x94 x95 x96 x97 y99 y100

set_option maxHeartbeats 4000000 in
set_option maxRecDepth 100000 in
theorem c_X12_wanted (l : Launch) {b0 : Nat} {D : GD} {n : Nat} {κ : QT} {X0 : XT} {Y0 : YT} {Z : ZT} (hL : LY n κ) {x75 : Nat → Int32} {x92 : Nat → Int32} {x93 : Nat → Int32} {x94 : Nat → Int32} {x95 : Nat → Int32} {x96 : Nat → Int32} {x97 : Nat → Int32} {y99 : Nat → Int64} {y100 : Nat → Int64} (hx : ([75, 92, 93, 94, 95, 96, 97] : List Nat).map X0 = [x75, x92, x93, x94, x95, x96, x97]) (hy : ([99, 100] : List Nat).map Y0 = [y99, y100]) {r : Int64} {ry100 : (Nat → Int64)} (hf : fX12_wanted x75 x92 x93 x94 x95 x96 x97 y99 y100 = some (r, ry100)) : gMl l yX12_wanted cX12_wanted 3 (some FieldType.long) 3 71 0 0 b0 D [.ref (b0 + 74)] (n, κ, X0, Y0, Z) (n, κ, ov X0 [75, 92, 93, 94, 95, 96, 97] [x75, x92, x93, x94, x95, x96, x97], ov Y0 [99, 100] [y99, ry100], Z) r := by
  have hN : ([75, 92, 93, 94, 95, 96, 97] : List Nat).Nodup := by decide
  have hM : ([99, 100] : List Nat).Nodup := by decide
  refine g_metl (own := RX12) (by decide) rfl rfl (Nat.le_of_ble_eq_true rfl) ?_
  intro K hC hret
  have e := wX12_wanted_0 hL hN hM hC  hret hf
  rw [ov_id' hx, ov_id' hy] at e
  exact g_sub [0] rfl e

-- X12_toldHeat
def fX12_toldHeat_0   (x75 : Nat → Int32) (x79 : Nat → Int32)  (v1 : Int32) : Option (Int32) := gd (inb 3 11) (if (x75 (3 : Int32).toNatClampNeg) = 0 then (some 0) else (gd (inb 3 11) (gd (nz (x75 (3 : Int32).toNatClampNeg)) (gd (inb (v1 - v1 / (x75 (3 : Int32).toNatClampNeg) * (x75 (3 : Int32).toNatClampNeg)) 12) (some (x79 (v1 - v1 / (x75 (3 : Int32).toNatClampNeg) * (x75 (3 : Int32).toNatClampNeg)).toNatClampNeg))))))
set_option maxHeartbeats 4000000 in
set_option maxRecDepth 100000 in
theorem wX12_toldHeat_0 {l : Launch} {b0 : Nat} {D : GD} {K : KT} {n : Nat} {κ : QT} {X0 : XT} {Y0 : YT} {Z : ZT} (hL : LY n κ) (hN : ([75, 79] : List Nat).Nodup) (hM : ([] : List Nat).Nodup) (hC : gC l b0 D K RX12 cX12_toldHeat (some FieldType.int) 2 0 0 0 0) {x75 : Nat → Int32} {x79 : Nat → Int32} {r : Int32} (hret : ∀ pc loc, narrow .int (.int r) = .int r → decode cX12_toldHeat pc = .ok (.ireturn, 1) → gV l b0 D K (n, κ, ov X0 [75, 79] [x75, x79], ov Y0 [] [], Z, 0, 0) pc loc [.int r]) {v1 : Int32} (hf : fX12_toldHeat_0 x75 x79  v1 = some r) : gV l b0 D K (n, κ, ov X0 [75, 79] [x75, x79], ov Y0 [] [], Z, 0, 0) 0 [(0, .ref (b0 + 74)), (1, .int v1)] [] := by
  unfold fX12_toldHeat_0 at hf
  refine g_aload_n hC 0 dX12_toldHeat_0 rfl rfl ?_
  refine gt_X12_9 hC (a := 74) (kk_74 hL) (kn_74 hL) dX12_toldHeat_1 ?_
  refine g_ref (b := 75) rfl ?_
  refine g_iconst hC (v := 3) dX12_toldHeat_4 ic_3 ?_
  obtain ⟨h_1, hf⟩ := gdE hf
  refine g_iald hC (x := x75) (kk_75 hL) (kn_75 hL) (ov_get hN 0 rfl rfl) (inb_in h_1) dX12_toldHeat_5 ?_
  refine g_if_ne hC 13 dX12_toldHeat_6 (by decide) (fun hc => ?_) (fun hc => ?_)
  · replace hf := ifF hf hc
    refine g_aload_n hC 0 dX12_toldHeat_13 rfl rfl ?_
    refine gt_X12_22 hC (a := 74) (kk_74 hL) (kn_74 hL) dX12_toldHeat_14 ?_
    refine g_ref (b := 79) rfl ?_
    refine g_iload_n hC 1 dX12_toldHeat_17 rfl rfl ?_
    refine g_aload_n hC 0 dX12_toldHeat_18 rfl rfl ?_
    refine gt_X12_9 hC (a := 74) (kk_74 hL) (kn_74 hL) dX12_toldHeat_19 ?_
    refine g_ref (b := 75) rfl ?_
    refine g_iconst hC (v := 3) dX12_toldHeat_22 ic_3 ?_
    obtain ⟨h_2, hf⟩ := gdE hf
    refine g_iald hC (x := x75) (kk_75 hL) (kn_75 hL) (ov_get hN 0 rfl rfl) (inb_in h_2) dX12_toldHeat_23 ?_
    obtain ⟨h_3, hf⟩ := gdE hf
    refine g_irem hC dX12_toldHeat_24 (nzE h_3) ?_
    obtain ⟨h_4, hf⟩ := gdE hf
    refine g_iald hC (x := x79) (kk_79 hL) (kn_79 hL) (ov_get hN 1 rfl rfl) (inb_in h_4) dX12_toldHeat_25 ?_
    obtain rfl := sm1E hf
    exact hret _ _ rfl dX12_toldHeat_26
  · replace hf := ifT hf hc
    refine g_iconst hC (v := 0) dX12_toldHeat_9 ic_0 ?_
    refine g_goto hC 26 dX12_toldHeat_10 (by decide) ?_
    obtain rfl := sm1E hf
    exact hret _ _ rfl dX12_toldHeat_26

def fX12_toldHeat   (x75 : Nat → Int32) (x79 : Nat → Int32)  (v1 : Int32)   : Option (Int32) := fX12_toldHeat_0 x75 x79 v1

set_option maxHeartbeats 4000000 in
set_option maxRecDepth 100000 in
theorem c_X12_toldHeat (l : Launch) {b0 : Nat} {D : GD} {n : Nat} {κ : QT} {X0 : XT} {Y0 : YT} {Z : ZT} (hL : LY n κ) {x75 : Nat → Int32} {x79 : Nat → Int32} (hx : ([75, 79] : List Nat).map X0 = [x75, x79]) (hy : ([] : List Nat).map Y0 = []) {v1 : Int32} {r : Int32} (hf : fX12_toldHeat x75 x79 v1 = some r) : gMi l yX12_toldHeat cX12_toldHeat 2 (some FieldType.int) 0 0 0 0 b0 D [.ref (b0 + 74), .int v1] (n, κ, X0, Y0, Z) (n, κ, ov X0 [75, 79] [x75, x79], ov Y0 [] [], Z) r := by
  have hN : ([75, 79] : List Nat).Nodup := by decide
  have hM : ([] : List Nat).Nodup := by decide
  refine g_meti (own := RX12) (by decide) rfl rfl (Nat.le_of_ble_eq_true rfl) ?_
  intro K hC hret
  have e := wX12_toldHeat_0 hL hN hM hC  hret hf
  rw [ov_id' hx, ov_id' hy] at e
  exact g_sub [0, 1] rfl e

-- X12_heat
def fX12_heat_38   (x74 : Nat → Int32) (x75 : Nat → Int32) (x79 : Nat → Int32)  (s0 : Int32) (s1 : Int32) : Option (Int32) := bn (s1 - s0) fun t_1 => (if 0 ≤ t_1 then (some t_1) else (some 0))
set_option maxHeartbeats 4000000 in
set_option maxRecDepth 100000 in
theorem wX12_heat_38 {l : Launch} {b0 : Nat} {D : GD} {K : KT} {n : Nat} {κ : QT} {X0 : XT} {Y0 : YT} {Z : ZT} (hL : LY n κ) (hN : ([74, 75, 79] : List Nat).Nodup) (hM : ([] : List Nat).Nodup) (hC : gC l b0 D K RX12 cX12_heat (some FieldType.int) 2 1 21 0 0) {x74 : Nat → Int32} {x75 : Nat → Int32} {x79 : Nat → Int32} {r : Int32} (hret : ∀ pc loc, narrow .int (.int r) = .int r → decode cX12_heat pc = .ok (.ireturn, 1) → gV l b0 D K (n, κ, ov X0 [74, 75, 79] [x74, x75, x79], ov Y0 [] [], Z, 0, 0) pc loc [.int r]) {s0 : Int32} {s1 : Int32} (hf : fX12_heat_38 x74 x75 x79  s0 s1 = some r) : gV l b0 D K (n, κ, ov X0 [74, 75, 79] [x74, x75, x79], ov Y0 [] [], Z, 0, 0) 38 [] [.int s0, .int s1] := by
  unfold fX12_heat_38 at hf
  refine g_isub hC dX12_heat_38 ?_
  obtain ⟨t_1, et_1, hf⟩ := bnE hf
  refine g_topi et_1 ?_
  refine g_istore_n hC (i := 1) [(1, .int t_1)] rfl dX12_heat_39 (by decide) rfl ?_
  refine g_iload_n hC 0 dX12_heat_40 rfl rfl ?_
  refine g_if_ge hC 48 dX12_heat_41 (by decide) (fun hc => ?_) (fun hc => ?_)
  · replace hf := ifT hf hc
    refine g_iload_n hC 0 dX12_heat_48 rfl rfl ?_
    obtain rfl := sm1E hf
    exact hret _ _ rfl dX12_heat_49
  · replace hf := ifF hf hc
    refine g_iconst hC (v := 0) dX12_heat_44 ic_0 ?_
    refine g_goto hC 49 dX12_heat_45 (by decide) ?_
    obtain rfl := sm1E hf
    exact hret _ _ rfl dX12_heat_49

def fX12_heat_0   (x74 : Nat → Int32) (x75 : Nat → Int32) (x79 : Nat → Int32)   : Option (Int32) := if (x74 37) = (-1) then (gd (inb 5 11) (bd1 (fX12_toldHeat x75 x79 (x75 (5 : Int32).toNatClampNeg)) fun r_2 => (gd (inb 7 11) (if (x75 (7 : Int32).toNatClampNeg) ≤ 0 then (fX12_heat_38 x74 x75 x79  0 r_2) else (fX12_heat_38 x74 x75 x79  3 r_2))))) else (some (x74 37))
set_option maxHeartbeats 4000000 in
set_option maxRecDepth 100000 in
theorem wX12_heat_0 {l : Launch} {b0 : Nat} {D : GD} {K : KT} {n : Nat} {κ : QT} {X0 : XT} {Y0 : YT} {Z : ZT} (hL : LY n κ) (hN : ([74, 75, 79] : List Nat).Nodup) (hM : ([] : List Nat).Nodup) (hC : gC l b0 D K RX12 cX12_heat (some FieldType.int) 2 1 21 0 0) {x74 : Nat → Int32} {x75 : Nat → Int32} {x79 : Nat → Int32} {r : Int32} (hret : ∀ pc loc, narrow .int (.int r) = .int r → decode cX12_heat pc = .ok (.ireturn, 1) → gV l b0 D K (n, κ, ov X0 [74, 75, 79] [x74, x75, x79], ov Y0 [] [], Z, 0, 0) pc loc [.int r])  (hf : fX12_heat_0 x74 x75 x79   = some r) : gV l b0 D K (n, κ, ov X0 [74, 75, 79] [x74, x75, x79], ov Y0 [] [], Z, 0, 0) 0 [(0, .ref (b0 + 74))] [] := by
  unfold fX12_heat_0 at hf
  refine g_aload_n hC 0 dX12_heat_0 rfl rfl ?_
  refine gt_X12_94 hC (x := x74) (kk_74 hL) (kn_74 hL) (ov_get hN 0 rfl rfl) dX12_heat_1 ?_
  refine g_iconst hC (v := (-1)) dX12_heat_4 ic_m1 ?_
  refine g_icmp_eq hC 13 dX12_heat_5 (by decide) (fun hc => ?_) (fun hc => ?_)
  · replace hf := ifT hf hc
    refine g_aload_n hC 0 dX12_heat_13 rfl rfl ?_
    refine g_aload_n hC 0 dX12_heat_14 rfl rfl ?_
    refine gt_X12_9 hC (a := 74) (kk_74 hL) (kn_74 hL) dX12_heat_15 ?_
    refine g_ref (b := 75) rfl ?_
    refine g_iconst hC (v := 5) dX12_heat_18 ic_5 ?_
    obtain ⟨h_1, hf⟩ := gdE hf
    refine g_iald hC (x := x75) (kk_75 hL) (kn_75 hL) (ov_get hN 1 rfl rfl) (inb_in h_1) dX12_heat_19 ?_
    obtain ⟨r_2, q_3, hf⟩ := bd1E hf
    refine g_callV_i (a := 74) hC (X' := ov X0 [74, 75, 79] [x74, x75, x79]) (Y' := ov Y0 [] []) (As := [.int (x75 (5 : Int32).toNatClampNeg)]) (gMi_eq (c_X12_toldHeat l hL (ov_map hN [1, 2] (by rfl) (by rfl)) (ov_map hM [] (by rfl) (by rfl)) q_3) (ov_ovE hN (by rfl) [1, 2] [0] (by rfl) (by rfl) [x74] (by rfl) (by rfl) (by rfl) 3 (by rfl) (by decide)) (ov_ovE hM (by rfl) [] [] (by rfl) (by rfl) [] (by rfl) (by rfl) (by rfl) 0 (by rfl) (by decide))) tw_1542 tw_1539 tw_127 tw_1541 tw_77 (ci := 12) rfl (by decide) (kk_74 hL) (kn_74 hL) pd_X12_toldHeat (by decide) (by decide) rfl rfl (Nat.le_of_ble_eq_true rfl) rfl dX12_heat_20 ?_
    refine g_aload_n hC 0 dX12_heat_23 rfl rfl ?_
    refine gt_X12_9 hC (a := 74) (kk_74 hL) (kn_74 hL) dX12_heat_24 ?_
    refine g_ref (b := 75) rfl ?_
    refine g_bipush hC (v := 7) dX12_heat_27 bp_7 ?_
    obtain ⟨h_4, hf⟩ := gdE hf
    refine g_iald hC (x := x75) (kk_75 hL) (kn_75 hL) (ov_get hN 1 rfl rfl) (inb_in h_4) dX12_heat_29 ?_
    refine g_if_le hC 37 dX12_heat_30 (by decide) (fun hc => ?_) (fun hc => ?_)
    · replace hf := ifT hf hc
      refine g_iconst hC (v := 0) dX12_heat_37 ic_0 ?_
      exact g_sub [] rfl (wX12_heat_38 hL hN hM hC  hret  hf)
    · replace hf := ifF hf hc
      refine g_iconst hC (v := 3) dX12_heat_33 ic_3 ?_
      refine g_goto hC 38 dX12_heat_34 (by decide) ?_
      exact g_sub [] rfl (wX12_heat_38 hL hN hM hC  hret  hf)
  · replace hf := ifF hf hc
    refine g_aload_n hC 0 dX12_heat_8 rfl rfl ?_
    refine gt_X12_94 hC (x := x74) (kk_74 hL) (kn_74 hL) (ov_get hN 0 rfl rfl) dX12_heat_9 ?_
    obtain rfl := sm1E hf
    exact hret _ _ rfl dX12_heat_12

def fX12_heat   (x74 : Nat → Int32) (x75 : Nat → Int32) (x79 : Nat → Int32)     : Option (Int32) := fX12_heat_0 x74 x75 x79 

set_option maxHeartbeats 4000000 in
set_option maxRecDepth 100000 in
theorem c_X12_heat (l : Launch) {b0 : Nat} {D : GD} {n : Nat} {κ : QT} {X0 : XT} {Y0 : YT} {Z : ZT} (hL : LY n κ) {x74 : Nat → Int32} {x75 : Nat → Int32} {x79 : Nat → Int32} (hx : ([74, 75, 79] : List Nat).map X0 = [x74, x75, x79]) (hy : ([] : List Nat).map Y0 = []) {r : Int32} (hf : fX12_heat x74 x75 x79  = some r) : gMi l yX12_heat cX12_heat 2 (some FieldType.int) 1 21 0 0 b0 D [.ref (b0 + 74)] (n, κ, X0, Y0, Z) (n, κ, ov X0 [74, 75, 79] [x74, x75, x79], ov Y0 [] [], Z) r := by
  have hN : ([74, 75, 79] : List Nat).Nodup := by decide
  have hM : ([] : List Nat).Nodup := by decide
  refine g_meti (own := RX12) (by decide) rfl rfl (Nat.le_of_ble_eq_true rfl) ?_
  intro K hC hret
  have e := wX12_heat_0 hL hN hM hC  hret hf
  rw [ov_id' hx, ov_id' hy] at e
  exact g_sub [0] rfl e

-- X12_blockOf
def fX12_blockOf_103   (x75 : Nat → Int32) (x78 : Nat → Int32)  (k7 : Int32 → Int32 → Int32 → Option (Int32)) (v2 : Int32) (v3 : Int32) (s0 : Int32) : Option (Int32) := k7 v2 v3 s0
set_option maxHeartbeats 4000000 in
set_option maxRecDepth 100000 in
theorem wX12_blockOf_103 {l : Launch} {b0 : Nat} {D : GD} {K : KT} {n : Nat} {κ : QT} {X0 : XT} {Y0 : YT} {Z : ZT} (hL : LY n κ) (hN : ([75, 78] : List Nat).Nodup) (hM : ([] : List Nat).Nodup) (hC : gC l b0 D K RX12 cX12_blockOf (some FieldType.int) 8 1 21 0 0) {x75 : Nat → Int32} {x78 : Nat → Int32} {r : Int32} (hret : ∀ pc loc, narrow .int (.int r) = .int r → decode cX12_blockOf pc = .ok (.ireturn, 1) → gV l b0 D K (n, κ, ov X0 [75, 78] [x75, x78], ov Y0 [] [], Z, 0, 0) pc loc [.int r]) {k7 : Int32 → Int32 → Int32 → Option (Int32)} (hk7 : ∀ (v2 : Int32) (v3 : Int32) (v4 : Int32), k7 v2 v3 v4 = some r → gV l b0 D K (n, κ, ov X0 [75, 78] [x75, x78], ov Y0 [] [], Z, 0, 0) 7 [(0, .ref (b0 + 74)), (2, .int v2), (3, .int v3), (4, .int v4)] []) {v2 : Int32} {v3 : Int32} {s0 : Int32} (hf : fX12_blockOf_103 x75 x78 k7 v2 v3 s0 = some r) : gV l b0 D K (n, κ, ov X0 [75, 78] [x75, x78], ov Y0 [] [], Z, 0, 0) 103 [(0, .ref (b0 + 74)), (2, .int v2), (3, .int v3)] [.int s0] := by
  unfold fX12_blockOf_103 at hf
  refine g_istore hC (i := 4) [(4, .int s0), (0, .ref (b0 + 74)), (2, .int v2), (3, .int v3)] dX12_blockOf_103 (by decide) rfl ?_
  refine g_goto hC 7 dX12_blockOf_105 (by decide) ?_
  exact g_sub [1, 2, 3, 0] rfl (hk7 v2 v3 s0 hf)

def fX12_blockOf_78   (x75 : Nat → Int32) (x78 : Nat → Int32)  (k7 : Int32 → Int32 → Int32 → Option (Int32)) (k18 : Int32 → Int32 → Int32 → Int32 → Option (Int32)) (k32 : Int32 → Int32 → Int32 → Int32 → Int32 → Option (Int32)) (v2 : Int32) (v5 : Int32) (v6 : Int32) (v7 : Int32) (s0 : Int32) (s1 : Int32) : Option (Int32) := bn (s1 ||| s0) fun t_1 => (bn (v7 + 1) fun t_2 => (k32 v2 t_1 v5 v6 t_2))
set_option maxHeartbeats 4000000 in
set_option maxRecDepth 100000 in
theorem wX12_blockOf_78 {l : Launch} {b0 : Nat} {D : GD} {K : KT} {n : Nat} {κ : QT} {X0 : XT} {Y0 : YT} {Z : ZT} (hL : LY n κ) (hN : ([75, 78] : List Nat).Nodup) (hM : ([] : List Nat).Nodup) (hC : gC l b0 D K RX12 cX12_blockOf (some FieldType.int) 8 1 21 0 0) {x75 : Nat → Int32} {x78 : Nat → Int32} {r : Int32} (hret : ∀ pc loc, narrow .int (.int r) = .int r → decode cX12_blockOf pc = .ok (.ireturn, 1) → gV l b0 D K (n, κ, ov X0 [75, 78] [x75, x78], ov Y0 [] [], Z, 0, 0) pc loc [.int r]) {k7 : Int32 → Int32 → Int32 → Option (Int32)} (hk7 : ∀ (v2 : Int32) (v3 : Int32) (v4 : Int32), k7 v2 v3 v4 = some r → gV l b0 D K (n, κ, ov X0 [75, 78] [x75, x78], ov Y0 [] [], Z, 0, 0) 7 [(0, .ref (b0 + 74)), (2, .int v2), (3, .int v3), (4, .int v4)] []) {k18 : Int32 → Int32 → Int32 → Int32 → Option (Int32)} (hk18 : ∀ (v2 : Int32) (v3 : Int32) (v5 : Int32) (v6 : Int32), k18 v2 v3 v5 v6 = some r → gV l b0 D K (n, κ, ov X0 [75, 78] [x75, x78], ov Y0 [] [], Z, 0, 0) 18 [(0, .ref (b0 + 74)), (2, .int v2), (3, .int v3), (5, .int v5), (6, .int v6)] []) {k32 : Int32 → Int32 → Int32 → Int32 → Int32 → Option (Int32)} (hk32 : ∀ (v2 : Int32) (v3 : Int32) (v5 : Int32) (v6 : Int32) (v7 : Int32), k32 v2 v3 v5 v6 v7 = some r → gV l b0 D K (n, κ, ov X0 [75, 78] [x75, x78], ov Y0 [] [], Z, 0, 0) 32 [(0, .ref (b0 + 74)), (2, .int v2), (3, .int v3), (5, .int v5), (6, .int v6), (7, .int v7)] []) {v2 : Int32} {v5 : Int32} {v6 : Int32} {v7 : Int32} {s0 : Int32} {s1 : Int32} (hf : fX12_blockOf_78 x75 x78 k7 k18 k32 v2 v5 v6 v7 s0 s1 = some r) : gV l b0 D K (n, κ, ov X0 [75, 78] [x75, x78], ov Y0 [] [], Z, 0, 0) 78 [(0, .ref (b0 + 74)), (2, .int v2), (5, .int v5), (6, .int v6), (7, .int v7)] [.int s0, .int s1] := by
  unfold fX12_blockOf_78 at hf
  refine g_ior hC dX12_blockOf_78 ?_
  obtain ⟨t_1, et_1, hf⟩ := bnE hf
  refine g_topi et_1 ?_
  refine g_istore_n hC (i := 3) [(3, .int t_1), (0, .ref (b0 + 74)), (2, .int v2), (5, .int v5), (6, .int v6), (7, .int v7)] rfl dX12_blockOf_79 (by decide) rfl ?_
  obtain ⟨t_2, et_2, hf⟩ := bnE hf
  refine g_iinc hC (i := 7) (v := t_2) [(7, .int t_2), (3, .int t_1), (0, .ref (b0 + 74)), (2, .int v2), (5, .int v5), (6, .int v6)] dX12_blockOf_80 (q := 5) rfl ((congrArg (HAdd.hAdd v7) ic_1).trans et_2.symm) (by decide) rfl ?_
  refine g_goto hC 32 dX12_blockOf_83 (by decide) ?_
  exact g_sub [2, 3, 1, 4, 5, 0] rfl (hk32 v2 t_1 v5 v6 t_2 hf)

def fX12_blockOf_77   (x75 : Nat → Int32) (x78 : Nat → Int32)  (k7 : Int32 → Int32 → Int32 → Option (Int32)) (k18 : Int32 → Int32 → Int32 → Int32 → Option (Int32)) (k32 : Int32 → Int32 → Int32 → Int32 → Int32 → Option (Int32)) (v2 : Int32) (v5 : Int32) (v6 : Int32) (v7 : Int32) (s0 : Int32) : Option (Int32) := fX12_blockOf_78 x75 x78 k7 k18 k32 v2 v5 v6 v7 0 s0
set_option maxHeartbeats 4000000 in
set_option maxRecDepth 100000 in
theorem wX12_blockOf_77 {l : Launch} {b0 : Nat} {D : GD} {K : KT} {n : Nat} {κ : QT} {X0 : XT} {Y0 : YT} {Z : ZT} (hL : LY n κ) (hN : ([75, 78] : List Nat).Nodup) (hM : ([] : List Nat).Nodup) (hC : gC l b0 D K RX12 cX12_blockOf (some FieldType.int) 8 1 21 0 0) {x75 : Nat → Int32} {x78 : Nat → Int32} {r : Int32} (hret : ∀ pc loc, narrow .int (.int r) = .int r → decode cX12_blockOf pc = .ok (.ireturn, 1) → gV l b0 D K (n, κ, ov X0 [75, 78] [x75, x78], ov Y0 [] [], Z, 0, 0) pc loc [.int r]) {k7 : Int32 → Int32 → Int32 → Option (Int32)} (hk7 : ∀ (v2 : Int32) (v3 : Int32) (v4 : Int32), k7 v2 v3 v4 = some r → gV l b0 D K (n, κ, ov X0 [75, 78] [x75, x78], ov Y0 [] [], Z, 0, 0) 7 [(0, .ref (b0 + 74)), (2, .int v2), (3, .int v3), (4, .int v4)] []) {k18 : Int32 → Int32 → Int32 → Int32 → Option (Int32)} (hk18 : ∀ (v2 : Int32) (v3 : Int32) (v5 : Int32) (v6 : Int32), k18 v2 v3 v5 v6 = some r → gV l b0 D K (n, κ, ov X0 [75, 78] [x75, x78], ov Y0 [] [], Z, 0, 0) 18 [(0, .ref (b0 + 74)), (2, .int v2), (3, .int v3), (5, .int v5), (6, .int v6)] []) {k32 : Int32 → Int32 → Int32 → Int32 → Int32 → Option (Int32)} (hk32 : ∀ (v2 : Int32) (v3 : Int32) (v5 : Int32) (v6 : Int32) (v7 : Int32), k32 v2 v3 v5 v6 v7 = some r → gV l b0 D K (n, κ, ov X0 [75, 78] [x75, x78], ov Y0 [] [], Z, 0, 0) 32 [(0, .ref (b0 + 74)), (2, .int v2), (3, .int v3), (5, .int v5), (6, .int v6), (7, .int v7)] []) {v2 : Int32} {v5 : Int32} {v6 : Int32} {v7 : Int32} {s0 : Int32} (hf : fX12_blockOf_77 x75 x78 k7 k18 k32 v2 v5 v6 v7 s0 = some r) : gV l b0 D K (n, κ, ov X0 [75, 78] [x75, x78], ov Y0 [] [], Z, 0, 0) 77 [(0, .ref (b0 + 74)), (2, .int v2), (5, .int v5), (6, .int v6), (7, .int v7)] [.int s0] := by
  unfold fX12_blockOf_77 at hf
  refine g_iconst hC (v := 0) dX12_blockOf_77 ic_0 ?_
  exact g_sub [0, 1, 2, 3, 4] rfl (wX12_blockOf_78 hL hN hM hC  hret hk7 hk18 hk32 hf)

def fX12_blockOf_32b   (x75 : Nat → Int32) (x78 : Nat → Int32)  (k7 : Int32 → Int32 → Int32 → Option (Int32)) (k18 : Int32 → Int32 → Int32 → Int32 → Option (Int32)) (k32 : Int32 → Int32 → Int32 → Int32 → Int32 → Option (Int32)) (v2 : Int32) (v3 : Int32) (v5 : Int32) (v6 : Int32) (v7 : Int32) : Option (Int32) := gd (inb 4 11) (if (x75 (4 : Int32).toNatClampNeg) ≤ v7 then (bn (v6 + 1) fun t_2 => (k18 v2 v3 v5 t_2)) else (bd1 (fX12_has v3 v6) fun r_3 => (if r_3 = 0 then (fX12_blockOf_77 x75 x78 k7 k18 k32 v2 v5 v6 v7 v3) else (gd (inb ((6 * v6) + v7) 36) (if (x78 ((6 * v6) + v7).toNatClampNeg) ≤ v2 then (fX12_blockOf_77 x75 x78 k7 k18 k32 v2 v5 v6 v7 v3) else (fX12_blockOf_78 x75 x78 k7 k18 k32 v2 v5 v6 v7 (1 <<< (v7 &&& 31)) v3))))))
def fX12_blockOf_32   (x75 : Nat → Int32) (x78 : Nat → Int32)  (k7 : Int32 → Int32 → Int32 → Option (Int32)) (k18 : Int32 → Int32 → Int32 → Int32 → Option (Int32)) : Int32 → Int32 → Int32 → Int32 → Int32 → Option (Int32) := lq5 (fX12_blockOf_32b x75 x78 k7 k18) 5000
set_option maxHeartbeats 4000000 in
set_option maxRecDepth 100000 in
theorem wX12_blockOf_32 {l : Launch} {b0 : Nat} {D : GD} {K : KT} {n : Nat} {κ : QT} {X0 : XT} {Y0 : YT} {Z : ZT} (hL : LY n κ) (hN : ([75, 78] : List Nat).Nodup) (hM : ([] : List Nat).Nodup) (hC : gC l b0 D K RX12 cX12_blockOf (some FieldType.int) 8 1 21 0 0) {x75 : Nat → Int32} {x78 : Nat → Int32} {r : Int32} (hret : ∀ pc loc, narrow .int (.int r) = .int r → decode cX12_blockOf pc = .ok (.ireturn, 1) → gV l b0 D K (n, κ, ov X0 [75, 78] [x75, x78], ov Y0 [] [], Z, 0, 0) pc loc [.int r]) {k7 : Int32 → Int32 → Int32 → Option (Int32)} (hk7 : ∀ (v2 : Int32) (v3 : Int32) (v4 : Int32), k7 v2 v3 v4 = some r → gV l b0 D K (n, κ, ov X0 [75, 78] [x75, x78], ov Y0 [] [], Z, 0, 0) 7 [(0, .ref (b0 + 74)), (2, .int v2), (3, .int v3), (4, .int v4)] []) {k18 : Int32 → Int32 → Int32 → Int32 → Option (Int32)} (hk18 : ∀ (v2 : Int32) (v3 : Int32) (v5 : Int32) (v6 : Int32), k18 v2 v3 v5 v6 = some r → gV l b0 D K (n, κ, ov X0 [75, 78] [x75, x78], ov Y0 [] [], Z, 0, 0) 18 [(0, .ref (b0 + 74)), (2, .int v2), (3, .int v3), (5, .int v5), (6, .int v6)] []) : ∀ (j : Nat) (v2 : Int32) (v3 : Int32) (v5 : Int32) (v6 : Int32) (v7 : Int32), lq5 (fX12_blockOf_32b x75 x78 k7 k18) j v2 v3 v5 v6 v7 = some r → gV l b0 D K (n, κ, ov X0 [75, 78] [x75, x78], ov Y0 [] [], Z, 0, 0) 32 [(0, .ref (b0 + 74)), (2, .int v2), (3, .int v3), (5, .int v5), (6, .int v6), (7, .int v7)] [] := by
  intro j
  induction j with
  | zero => intro v2 v3 v5 v6 v7 hf; cases hf
  | succ j hk32 =>
    intro v2 v3 v5 v6 v7 hf
    replace hf : fX12_blockOf_32b x75 x78 k7 k18 (lq5 (fX12_blockOf_32b x75 x78 k7 k18) j) v2 v3 v5 v6 v7 = some r := hf
    unfold fX12_blockOf_32b at hf
    refine g_iload hC 5 dX12_blockOf_32 rfl ?_
    refine g_aload_n hC 0 dX12_blockOf_34 rfl rfl ?_
    refine gt_X12_9 hC (a := 74) (kk_74 hL) (kn_74 hL) dX12_blockOf_35 ?_
    refine g_ref (b := 75) rfl ?_
    refine g_iconst hC (v := 4) dX12_blockOf_38 ic_4 ?_
    obtain ⟨h_1, hf⟩ := gdE hf
    refine g_iald hC (x := x75) (kk_75 hL) (kn_75 hL) (ov_get hN 0 rfl rfl) (inb_in h_1) dX12_blockOf_39 ?_
    refine g_icmp_ge hC 86 dX12_blockOf_40 (by decide) (fun hc => ?_) (fun hc => ?_)
    · replace hf := ifT hf hc
      obtain ⟨t_2, et_2, hf⟩ := bnE hf
      refine g_iinc hC (i := 6) (v := t_2) [(6, .int t_2), (0, .ref (b0 + 74)), (2, .int v2), (3, .int v3), (5, .int v5), (7, .int v7)] dX12_blockOf_86 (q := 4) rfl ((congrArg (HAdd.hAdd v6) ic_1).trans et_2.symm) (by decide) rfl ?_
      refine g_goto hC 18 dX12_blockOf_89 (by decide) ?_
      exact g_sub [1, 2, 3, 4, 0] rfl (hk18 v2 v3 v5 t_2 hf)
    · replace hf := ifF hf hc
      refine g_iload_n hC 2 dX12_blockOf_43 rfl rfl ?_
      refine g_iload_n hC 2 dX12_blockOf_44 rfl rfl ?_
      refine g_iload hC 4 dX12_blockOf_45 rfl ?_
      obtain ⟨r_3, q_4, hf⟩ := bd1E hf
      refine g_callS_i hC (X' := ov X0 [75, 78] [x75, x78]) (Y' := ov Y0 [] []) (As := [.int v3, .int v6]) (gMi_eq (c_X12_has l hL (ov_map hN [] (by rfl) (by rfl)) (ov_map hM [] (by rfl) (by rfl)) q_4) (ov_ovE hN (by rfl) [] [0, 1] (by rfl) (by rfl) [x75, x78] (by rfl) (by rfl) (by rfl) 2 (by rfl) (by decide)) (ov_ovE hM (by rfl) [] [] (by rfl) (by rfl) [] (by rfl) (by rfl) (by rfl) 0 (by rfl) (by decide))) tw_1549 tw_1547 tw_127 tw_1548 pd_X12_has (by decide) (by decide) rfl rfl (Nat.le_of_ble_eq_true rfl) rfl dX12_blockOf_47 ?_
      refine g_if_eq hC 77 dX12_blockOf_50 (by decide) (fun hc => ?_) (fun hc => ?_)
      · replace hf := ifT hf hc
        exact g_sub [0, 1, 3, 4, 5] rfl (wX12_blockOf_77 hL hN hM hC  hret hk7 hk18 hk32 hf)
      · replace hf := ifF hf hc
        refine g_aload_n hC 0 dX12_blockOf_53 rfl rfl ?_
        refine gt_X12_19 hC (a := 74) (kk_74 hL) (kn_74 hL) dX12_blockOf_54 ?_
        refine g_ref (b := 78) rfl ?_
        refine g_bipush hC (v := 6) dX12_blockOf_57 bp_6 ?_
        refine g_iload hC 4 dX12_blockOf_59 rfl ?_
        refine g_imul hC dX12_blockOf_61 ?_
        refine g_iload hC 5 dX12_blockOf_62 rfl ?_
        refine g_iadd hC dX12_blockOf_64 ?_
        obtain ⟨h_5, hf⟩ := gdE hf
        refine g_iald hC (x := x78) (kk_78 hL) (kn_78 hL) (ov_get hN 1 rfl rfl) (inb_in h_5) dX12_blockOf_65 ?_
        refine g_iload_n hC 1 dX12_blockOf_66 rfl rfl ?_
        refine g_icmp_le hC 77 dX12_blockOf_67 (by decide) (fun hc => ?_) (fun hc => ?_)
        · replace hf := ifT hf hc
          exact g_sub [0, 1, 3, 4, 5] rfl (wX12_blockOf_77 hL hN hM hC  hret hk7 hk18 hk32 hf)
        · replace hf := ifF hf hc
          refine g_iconst hC (v := 1) dX12_blockOf_70 ic_1 ?_
          refine g_iload hC 5 dX12_blockOf_71 rfl ?_
          refine g_ishl hC dX12_blockOf_73 ?_
          refine g_goto hC 78 dX12_blockOf_74 (by decide) ?_
          exact g_sub [0, 1, 3, 4, 5] rfl (wX12_blockOf_78 hL hN hM hC  hret hk7 hk18 hk32 hf)

def fX12_blockOf_18b   (x75 : Nat → Int32) (x78 : Nat → Int32)  (k7 : Int32 → Int32 → Int32 → Option (Int32)) (k18 : Int32 → Int32 → Int32 → Int32 → Option (Int32)) (v2 : Int32) (v3 : Int32) (v5 : Int32) (v6 : Int32) : Option (Int32) := gd (inb 4 11) (if (x75 (4 : Int32).toNatClampNeg) ≤ v6 then (if v3 = v5 then (fX12_blockOf_103 x75 x78 k7 v2 v3 0) else (fX12_blockOf_103 x75 x78 k7 v2 v3 1)) else (fX12_blockOf_32 x75 x78 k7 k18 v2 v3 v5 v6 0))
def fX12_blockOf_18   (x75 : Nat → Int32) (x78 : Nat → Int32)  (k7 : Int32 → Int32 → Int32 → Option (Int32)) : Int32 → Int32 → Int32 → Int32 → Option (Int32) := lq4 (fX12_blockOf_18b x75 x78 k7) 5000
set_option maxHeartbeats 4000000 in
set_option maxRecDepth 100000 in
theorem wX12_blockOf_18 {l : Launch} {b0 : Nat} {D : GD} {K : KT} {n : Nat} {κ : QT} {X0 : XT} {Y0 : YT} {Z : ZT} (hL : LY n κ) (hN : ([75, 78] : List Nat).Nodup) (hM : ([] : List Nat).Nodup) (hC : gC l b0 D K RX12 cX12_blockOf (some FieldType.int) 8 1 21 0 0) {x75 : Nat → Int32} {x78 : Nat → Int32} {r : Int32} (hret : ∀ pc loc, narrow .int (.int r) = .int r → decode cX12_blockOf pc = .ok (.ireturn, 1) → gV l b0 D K (n, κ, ov X0 [75, 78] [x75, x78], ov Y0 [] [], Z, 0, 0) pc loc [.int r]) {k7 : Int32 → Int32 → Int32 → Option (Int32)} (hk7 : ∀ (v2 : Int32) (v3 : Int32) (v4 : Int32), k7 v2 v3 v4 = some r → gV l b0 D K (n, κ, ov X0 [75, 78] [x75, x78], ov Y0 [] [], Z, 0, 0) 7 [(0, .ref (b0 + 74)), (2, .int v2), (3, .int v3), (4, .int v4)] []) : ∀ (j : Nat) (v2 : Int32) (v3 : Int32) (v5 : Int32) (v6 : Int32), lq4 (fX12_blockOf_18b x75 x78 k7) j v2 v3 v5 v6 = some r → gV l b0 D K (n, κ, ov X0 [75, 78] [x75, x78], ov Y0 [] [], Z, 0, 0) 18 [(0, .ref (b0 + 74)), (2, .int v2), (3, .int v3), (5, .int v5), (6, .int v6)] [] := by
  intro j
  induction j with
  | zero => intro v2 v3 v5 v6 hf; cases hf
  | succ j hk18 =>
    intro v2 v3 v5 v6 hf
    replace hf : fX12_blockOf_18b x75 x78 k7 (lq4 (fX12_blockOf_18b x75 x78 k7) j) v2 v3 v5 v6 = some r := hf
    unfold fX12_blockOf_18b at hf
    refine g_iload hC 4 dX12_blockOf_18 rfl ?_
    refine g_aload_n hC 0 dX12_blockOf_20 rfl rfl ?_
    refine gt_X12_9 hC (a := 74) (kk_74 hL) (kn_74 hL) dX12_blockOf_21 ?_
    refine g_ref (b := 75) rfl ?_
    refine g_iconst hC (v := 4) dX12_blockOf_24 ic_4 ?_
    obtain ⟨h_1, hf⟩ := gdE hf
    refine g_iald hC (x := x75) (kk_75 hL) (kn_75 hL) (ov_get hN 0 rfl rfl) (inb_in h_1) dX12_blockOf_25 ?_
    refine g_icmp_ge hC 92 dX12_blockOf_26 (by decide) (fun hc => ?_) (fun hc => ?_)
    · replace hf := ifT hf hc
      refine g_iload_n hC 2 dX12_blockOf_92 rfl rfl ?_
      refine g_iload hC 3 dX12_blockOf_93 rfl ?_
      refine g_icmp_eq hC 102 dX12_blockOf_95 (by decide) (fun hc => ?_) (fun hc => ?_)
      · replace hf := ifT hf hc
        refine g_iconst hC (v := 0) dX12_blockOf_102 ic_0 ?_
        exact g_sub [0, 1, 2] rfl (wX12_blockOf_103 hL hN hM hC  hret hk7 hf)
      · replace hf := ifF hf hc
        refine g_iconst hC (v := 1) dX12_blockOf_98 ic_1 ?_
        refine g_goto hC 103 dX12_blockOf_99 (by decide) ?_
        exact g_sub [0, 1, 2] rfl (wX12_blockOf_103 hL hN hM hC  hret hk7 hf)
    · replace hf := ifF hf hc
      refine g_iconst hC (v := 0) dX12_blockOf_29 ic_0 ?_
      refine g_istore hC (i := 7) [(7, .int 0), (0, .ref (b0 + 74)), (2, .int v2), (3, .int v3), (5, .int v5), (6, .int v6)] dX12_blockOf_30 (by decide) rfl ?_
      exact g_sub [1, 2, 3, 4, 5, 0] rfl (wX12_blockOf_32 hL hN hM hC  hret hk7 hk18 5000 v2 v3 v5 v6 0 hf)

def fX12_blockOf_7b   (x75 : Nat → Int32) (x78 : Nat → Int32)  (k7 : Int32 → Int32 → Int32 → Option (Int32)) (v2 : Int32) (v3 : Int32) (v4 : Int32) : Option (Int32) := if v4 = 0 then (some v3) else (fX12_blockOf_18 x75 x78 k7 v2 v3 v3 0)
def fX12_blockOf_7   (x75 : Nat → Int32) (x78 : Nat → Int32)  : Int32 → Int32 → Int32 → Option (Int32) := lq3 (fX12_blockOf_7b x75 x78 ) 5000
set_option maxHeartbeats 4000000 in
set_option maxRecDepth 100000 in
theorem wX12_blockOf_7 {l : Launch} {b0 : Nat} {D : GD} {K : KT} {n : Nat} {κ : QT} {X0 : XT} {Y0 : YT} {Z : ZT} (hL : LY n κ) (hN : ([75, 78] : List Nat).Nodup) (hM : ([] : List Nat).Nodup) (hC : gC l b0 D K RX12 cX12_blockOf (some FieldType.int) 8 1 21 0 0) {x75 : Nat → Int32} {x78 : Nat → Int32} {r : Int32} (hret : ∀ pc loc, narrow .int (.int r) = .int r → decode cX12_blockOf pc = .ok (.ireturn, 1) → gV l b0 D K (n, κ, ov X0 [75, 78] [x75, x78], ov Y0 [] [], Z, 0, 0) pc loc [.int r]) : ∀ (j : Nat) (v2 : Int32) (v3 : Int32) (v4 : Int32), lq3 (fX12_blockOf_7b x75 x78 ) j v2 v3 v4 = some r → gV l b0 D K (n, κ, ov X0 [75, 78] [x75, x78], ov Y0 [] [], Z, 0, 0) 7 [(0, .ref (b0 + 74)), (2, .int v2), (3, .int v3), (4, .int v4)] [] := by
  intro j
  induction j with
  | zero => intro v2 v3 v4 hf; cases hf
  | succ j hk7 =>
    intro v2 v3 v4 hf
    replace hf : fX12_blockOf_7b x75 x78  (lq3 (fX12_blockOf_7b x75 x78 ) j) v2 v3 v4 = some r := hf
    unfold fX12_blockOf_7b at hf
    refine g_iload hC 3 dX12_blockOf_7 rfl ?_
    refine g_if_eq hC 108 dX12_blockOf_9 (by decide) (fun hc => ?_) (fun hc => ?_)
    · replace hf := ifT hf hc
      refine g_iload_n hC 2 dX12_blockOf_108 rfl rfl ?_
      obtain rfl := sm1E hf
      exact hret _ _ rfl dX12_blockOf_109
    · replace hf := ifF hf hc
      refine g_iload_n hC 2 dX12_blockOf_12 rfl rfl ?_
      refine g_istore hC (i := 5) [(5, .int v3), (0, .ref (b0 + 74)), (2, .int v2), (3, .int v3), (4, .int v4)] dX12_blockOf_13 (by decide) rfl ?_
      refine g_iconst hC (v := 0) dX12_blockOf_15 ic_0 ?_
      refine g_istore hC (i := 6) [(6, .int 0), (5, .int v3), (0, .ref (b0 + 74)), (2, .int v2), (3, .int v3), (4, .int v4)] dX12_blockOf_16 (by decide) rfl ?_
      exact g_sub [2, 3, 4, 1, 0] rfl (wX12_blockOf_18 hL hN hM hC  hret hk7 5000 v2 v3 v3 0 hf)

def fX12_blockOf_0   (x75 : Nat → Int32) (x78 : Nat → Int32)  (v1 : Int32) (v2 : Int32) : Option (Int32) := bn (1 <<< (v1 &&& 31)) fun t_1 => (fX12_blockOf_7 x75 x78  v2 t_1 1)
set_option maxHeartbeats 4000000 in
set_option maxRecDepth 100000 in
theorem wX12_blockOf_0 {l : Launch} {b0 : Nat} {D : GD} {K : KT} {n : Nat} {κ : QT} {X0 : XT} {Y0 : YT} {Z : ZT} (hL : LY n κ) (hN : ([75, 78] : List Nat).Nodup) (hM : ([] : List Nat).Nodup) (hC : gC l b0 D K RX12 cX12_blockOf (some FieldType.int) 8 1 21 0 0) {x75 : Nat → Int32} {x78 : Nat → Int32} {r : Int32} (hret : ∀ pc loc, narrow .int (.int r) = .int r → decode cX12_blockOf pc = .ok (.ireturn, 1) → gV l b0 D K (n, κ, ov X0 [75, 78] [x75, x78], ov Y0 [] [], Z, 0, 0) pc loc [.int r]) {v1 : Int32} {v2 : Int32} (hf : fX12_blockOf_0 x75 x78  v1 v2 = some r) : gV l b0 D K (n, κ, ov X0 [75, 78] [x75, x78], ov Y0 [] [], Z, 0, 0) 0 [(0, .ref (b0 + 74)), (1, .int v1), (2, .int v2)] [] := by
  unfold fX12_blockOf_0 at hf
  refine g_iconst hC (v := 1) dX12_blockOf_0 ic_1 ?_
  refine g_iload_n hC 1 dX12_blockOf_1 rfl rfl ?_
  refine g_ishl hC dX12_blockOf_2 ?_
  obtain ⟨t_1, et_1, hf⟩ := bnE hf
  refine g_topi et_1 ?_
  refine g_istore_n hC (i := 3) [(3, .int t_1), (0, .ref (b0 + 74)), (1, .int v1), (2, .int v2)] rfl dX12_blockOf_3 (by decide) rfl ?_
  refine g_iconst hC (v := 1) dX12_blockOf_4 ic_1 ?_
  refine g_istore hC (i := 4) [(4, .int 1), (3, .int t_1), (0, .ref (b0 + 74)), (1, .int v1), (2, .int v2)] dX12_blockOf_5 (by decide) rfl ?_
  exact g_sub [2, 4, 1, 0] rfl (wX12_blockOf_7 hL hN hM hC  hret  5000 v2 t_1 1 hf)

def fX12_blockOf   (x75 : Nat → Int32) (x78 : Nat → Int32)  (v1 : Int32) (v2 : Int32)   : Option (Int32) := fX12_blockOf_0 x75 x78 v1 v2

set_option maxHeartbeats 4000000 in
set_option maxRecDepth 100000 in
theorem c_X12_blockOf (l : Launch) {b0 : Nat} {D : GD} {n : Nat} {κ : QT} {X0 : XT} {Y0 : YT} {Z : ZT} (hL : LY n κ) {x75 : Nat → Int32} {x78 : Nat → Int32} (hx : ([75, 78] : List Nat).map X0 = [x75, x78]) (hy : ([] : List Nat).map Y0 = []) {v1 : Int32} {v2 : Int32} {r : Int32} (hf : fX12_blockOf x75 x78 v1 v2 = some r) : gMi l yX12_blockOf cX12_blockOf 8 (some FieldType.int) 1 21 0 0 b0 D [.ref (b0 + 74), .int v1, .int v2] (n, κ, X0, Y0, Z) (n, κ, ov X0 [75, 78] [x75, x78], ov Y0 [] [], Z) r := by
  have hN : ([75, 78] : List Nat).Nodup := by decide
  have hM : ([] : List Nat).Nodup := by decide
  refine g_meti (own := RX12) (by decide) rfl rfl (Nat.le_of_ble_eq_true rfl) ?_
  intro K hC hret
  have e := wX12_blockOf_0 hL hN hM hC  hret hf
  rw [ov_id' hx, ov_id' hy] at e
  exact g_sub [0, 1, 2] rfl e

-- X12_isFast
def fX12_isFast_32   (x75 : Nat → Int32) (x77 : Nat → Int32)  (k2 : Int32 → Int32 → Int32 → Option (Int32)) (v1 : Int32) (v2 : Int32) (v3 : Int32) : Option (Int32) := bn (v3 + 1) fun t_1 => (k2 v1 v2 t_1)
set_option maxHeartbeats 4000000 in
set_option maxRecDepth 100000 in
theorem wX12_isFast_32 {l : Launch} {b0 : Nat} {D : GD} {K : KT} {n : Nat} {κ : QT} {X0 : XT} {Y0 : YT} {Z : ZT} (hL : LY n κ) (hN : ([75, 77] : List Nat).Nodup) (hM : ([] : List Nat).Nodup) (hC : gC l b0 D K RX12 cX12_isFast (some FieldType.boolean) 4 1 21 0 0) {x75 : Nat → Int32} {x77 : Nat → Int32} {r : Int32} (hret : ∀ pc loc, narrow .boolean (.int r) = .int r → decode cX12_isFast pc = .ok (.ireturn, 1) → gV l b0 D K (n, κ, ov X0 [75, 77] [x75, x77], ov Y0 [] [], Z, 0, 0) pc loc [.int r]) {k2 : Int32 → Int32 → Int32 → Option (Int32)} (hk2 : ∀ (v1 : Int32) (v2 : Int32) (v3 : Int32), k2 v1 v2 v3 = some r → gV l b0 D K (n, κ, ov X0 [75, 77] [x75, x77], ov Y0 [] [], Z, 0, 0) 2 [(0, .ref (b0 + 74)), (1, .int v1), (2, .int v2), (3, .int v3)] []) {v1 : Int32} {v2 : Int32} {v3 : Int32} (hf : fX12_isFast_32 x75 x77 k2 v1 v2 v3 = some r) : gV l b0 D K (n, κ, ov X0 [75, 77] [x75, x77], ov Y0 [] [], Z, 0, 0) 32 [(0, .ref (b0 + 74)), (1, .int v1), (2, .int v2), (3, .int v3)] [] := by
  unfold fX12_isFast_32 at hf
  obtain ⟨t_1, et_1, hf⟩ := bnE hf
  refine g_iinc hC (i := 3) (v := t_1) [(3, .int t_1), (0, .ref (b0 + 74)), (1, .int v1), (2, .int v2)] dX12_isFast_32 (q := 3) rfl ((congrArg (HAdd.hAdd v3) ic_1).trans et_1.symm) (by decide) rfl ?_
  refine g_goto hC 2 dX12_isFast_35 (by decide) ?_
  exact g_sub [1, 2, 3, 0] rfl (hk2 v1 v2 t_1 hf)

def fX12_isFast_2b   (x75 : Nat → Int32) (x77 : Nat → Int32)  (k2 : Int32 → Int32 → Int32 → Option (Int32)) (v1 : Int32) (v2 : Int32) (v3 : Int32) : Option (Int32) := gd (inb 4 11) (if (x75 (4 : Int32).toNatClampNeg) ≤ v3 then (some 0) else (bd1 (fX12_has v1 v3) fun r_2 => (if r_2 = 0 then (fX12_isFast_32 x75 x77 k2 v1 v2 v3) else (gd (inb v3 6) (if (x77 v3.toNatClampNeg) ≤ v2 then (fX12_isFast_32 x75 x77 k2 v1 v2 v3) else (some 1))))))
def fX12_isFast_2   (x75 : Nat → Int32) (x77 : Nat → Int32)  : Int32 → Int32 → Int32 → Option (Int32) := lq3 (fX12_isFast_2b x75 x77 ) 5000
set_option maxHeartbeats 4000000 in
set_option maxRecDepth 100000 in
theorem wX12_isFast_2 {l : Launch} {b0 : Nat} {D : GD} {K : KT} {n : Nat} {κ : QT} {X0 : XT} {Y0 : YT} {Z : ZT} (hL : LY n κ) (hN : ([75, 77] : List Nat).Nodup) (hM : ([] : List Nat).Nodup) (hC : gC l b0 D K RX12 cX12_isFast (some FieldType.boolean) 4 1 21 0 0) {x75 : Nat → Int32} {x77 : Nat → Int32} {r : Int32} (hret : ∀ pc loc, narrow .boolean (.int r) = .int r → decode cX12_isFast pc = .ok (.ireturn, 1) → gV l b0 D K (n, κ, ov X0 [75, 77] [x75, x77], ov Y0 [] [], Z, 0, 0) pc loc [.int r]) : ∀ (j : Nat) (v1 : Int32) (v2 : Int32) (v3 : Int32), lq3 (fX12_isFast_2b x75 x77 ) j v1 v2 v3 = some r → gV l b0 D K (n, κ, ov X0 [75, 77] [x75, x77], ov Y0 [] [], Z, 0, 0) 2 [(0, .ref (b0 + 74)), (1, .int v1), (2, .int v2), (3, .int v3)] [] := by
  intro j
  induction j with
  | zero => intro v1 v2 v3 hf; cases hf
  | succ j hk2 =>
    intro v1 v2 v3 hf
    replace hf : fX12_isFast_2b x75 x77  (lq3 (fX12_isFast_2b x75 x77 ) j) v1 v2 v3 = some r := hf
    unfold fX12_isFast_2b at hf
    refine g_iload_n hC 3 dX12_isFast_2 rfl rfl ?_
    refine g_aload_n hC 0 dX12_isFast_3 rfl rfl ?_
    refine gt_X12_9 hC (a := 74) (kk_74 hL) (kn_74 hL) dX12_isFast_4 ?_
    refine g_ref (b := 75) rfl ?_
    refine g_iconst hC (v := 4) dX12_isFast_7 ic_4 ?_
    obtain ⟨h_1, hf⟩ := gdE hf
    refine g_iald hC (x := x75) (kk_75 hL) (kn_75 hL) (ov_get hN 0 rfl rfl) (inb_in h_1) dX12_isFast_8 ?_
    refine g_icmp_ge hC 38 dX12_isFast_9 (by decide) (fun hc => ?_) (fun hc => ?_)
    · replace hf := ifT hf hc
      refine g_iconst hC (v := 0) dX12_isFast_38 ic_0 ?_
      obtain rfl := sm1E hf
      exact hret _ _ rfl dX12_isFast_39
    · replace hf := ifF hf hc
      refine g_iload_n hC 1 dX12_isFast_12 rfl rfl ?_
      refine g_iload_n hC 3 dX12_isFast_13 rfl rfl ?_
      obtain ⟨r_2, q_3, hf⟩ := bd1E hf
      refine g_callS_i hC (X' := ov X0 [75, 77] [x75, x77]) (Y' := ov Y0 [] []) (As := [.int v1, .int v3]) (gMi_eq (c_X12_has l hL (ov_map hN [] (by rfl) (by rfl)) (ov_map hM [] (by rfl) (by rfl)) q_3) (ov_ovE hN (by rfl) [] [0, 1] (by rfl) (by rfl) [x75, x77] (by rfl) (by rfl) (by rfl) 2 (by rfl) (by decide)) (ov_ovE hM (by rfl) [] [] (by rfl) (by rfl) [] (by rfl) (by rfl) (by rfl) 0 (by rfl) (by decide))) tw_1549 tw_1547 tw_127 tw_1548 pd_X12_has (by decide) (by decide) rfl rfl (Nat.le_of_ble_eq_true rfl) rfl dX12_isFast_14 ?_
      refine g_if_eq hC 32 dX12_isFast_17 (by decide) (fun hc => ?_) (fun hc => ?_)
      · replace hf := ifT hf hc
        exact g_sub [0, 1, 2, 3] rfl (wX12_isFast_32 hL hN hM hC  hret hk2 hf)
      · replace hf := ifF hf hc
        refine g_aload_n hC 0 dX12_isFast_20 rfl rfl ?_
        refine gt_X12_16 hC (a := 74) (kk_74 hL) (kn_74 hL) dX12_isFast_21 ?_
        refine g_ref (b := 77) rfl ?_
        refine g_iload_n hC 3 dX12_isFast_24 rfl rfl ?_
        obtain ⟨h_4, hf⟩ := gdE hf
        refine g_iald hC (x := x77) (kk_77 hL) (kn_77 hL) (ov_get hN 1 rfl rfl) (inb_in h_4) dX12_isFast_25 ?_
        refine g_iload_n hC 2 dX12_isFast_26 rfl rfl ?_
        refine g_icmp_le hC 32 dX12_isFast_27 (by decide) (fun hc => ?_) (fun hc => ?_)
        · replace hf := ifT hf hc
          exact g_sub [0, 1, 2, 3] rfl (wX12_isFast_32 hL hN hM hC  hret hk2 hf)
        · replace hf := ifF hf hc
          refine g_iconst hC (v := 1) dX12_isFast_30 ic_1 ?_
          obtain rfl := sm1E hf
          exact hret _ _ rfl dX12_isFast_31

def fX12_isFast_0   (x75 : Nat → Int32) (x77 : Nat → Int32)  (v1 : Int32) (v2 : Int32) : Option (Int32) := fX12_isFast_2 x75 x77  v1 v2 0
set_option maxHeartbeats 4000000 in
set_option maxRecDepth 100000 in
theorem wX12_isFast_0 {l : Launch} {b0 : Nat} {D : GD} {K : KT} {n : Nat} {κ : QT} {X0 : XT} {Y0 : YT} {Z : ZT} (hL : LY n κ) (hN : ([75, 77] : List Nat).Nodup) (hM : ([] : List Nat).Nodup) (hC : gC l b0 D K RX12 cX12_isFast (some FieldType.boolean) 4 1 21 0 0) {x75 : Nat → Int32} {x77 : Nat → Int32} {r : Int32} (hret : ∀ pc loc, narrow .boolean (.int r) = .int r → decode cX12_isFast pc = .ok (.ireturn, 1) → gV l b0 D K (n, κ, ov X0 [75, 77] [x75, x77], ov Y0 [] [], Z, 0, 0) pc loc [.int r]) {v1 : Int32} {v2 : Int32} (hf : fX12_isFast_0 x75 x77  v1 v2 = some r) : gV l b0 D K (n, κ, ov X0 [75, 77] [x75, x77], ov Y0 [] [], Z, 0, 0) 0 [(0, .ref (b0 + 74)), (1, .int v1), (2, .int v2)] [] := by
  unfold fX12_isFast_0 at hf
  refine g_iconst hC (v := 0) dX12_isFast_0 ic_0 ?_
  refine g_istore_n hC (i := 3) [(3, .int 0), (0, .ref (b0 + 74)), (1, .int v1), (2, .int v2)] rfl dX12_isFast_1 (by decide) rfl ?_
  exact g_sub [1, 2, 3, 0] rfl (wX12_isFast_2 hL hN hM hC  hret  5000 v1 v2 0 hf)

def fX12_isFast   (x75 : Nat → Int32) (x77 : Nat → Int32)  (v1 : Int32) (v2 : Int32)   : Option (Int32) := fX12_isFast_0 x75 x77 v1 v2

set_option maxHeartbeats 4000000 in
set_option maxRecDepth 100000 in
theorem c_X12_isFast (l : Launch) {b0 : Nat} {D : GD} {n : Nat} {κ : QT} {X0 : XT} {Y0 : YT} {Z : ZT} (hL : LY n κ) {x75 : Nat → Int32} {x77 : Nat → Int32} (hx : ([75, 77] : List Nat).map X0 = [x75, x77]) (hy : ([] : List Nat).map Y0 = []) {v1 : Int32} {v2 : Int32} {r : Int32} (hf : fX12_isFast x75 x77 v1 v2 = some r) : gMi l yX12_isFast cX12_isFast 4 (some FieldType.boolean) 1 21 0 0 b0 D [.ref (b0 + 74), .int v1, .int v2] (n, κ, X0, Y0, Z) (n, κ, ov X0 [75, 77] [x75, x77], ov Y0 [] [], Z) r := by
  have hN : ([75, 77] : List Nat).Nodup := by decide
  have hM : ([] : List Nat).Nodup := by decide
  refine g_meti (own := RX12) (by decide) rfl rfl (Nat.le_of_ble_eq_true rfl) ?_
  intro K hC hret
  have e := wX12_isFast_0 hL hN hM hC  hret hf
  rw [ov_id' hx, ov_id' hy] at e
  exact g_sub [0, 1, 2] rfl e


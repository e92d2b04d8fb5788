-- X12_goFor
def fX12_goFor_2b   (x79 : Nat → Int32) (x92 : Nat → Int32) (x93 : Nat → Int32) (x94 : Nat → Int32) (x95 : Nat → Int32) (x96 : Nat → Int32) (x97 : Nat → Int32)  (k2 : Int32 → Int32 → (Nat → Int32) → (Nat → Int32) → (Nat → Int32) → (Nat → Int32) → (Nat → Int32) → (Nat → Int32) → (Nat → Int64) → (Nat → Int64) → Option ((Nat → Int32) × (Nat → Int32) × (Nat → Int32) × (Nat → Int32) × (Nat → Int32) × (Nat → Int32) × (Nat → Int64) × (Nat → Int64))) (v1 : Int32) (v2 : Int32) (x74 : (Nat → Int32)) (x75 : (Nat → Int32)) (x76 : (Nat → Int32)) (x77 : (Nat → Int32)) (x78 : (Nat → Int32)) (x101 : (Nat → Int32)) (y99 : (Nat → Int64)) (y100 : (Nat → Int64)) : Option ((Nat → Int32) × (Nat → Int32) × (Nat → Int32) × (Nat → Int32) × (Nat → Int32) × (Nat → Int32) × (Nat → Int64) × (Nat → Int64)) := if v1 ≤ v2 then (some (x74, x75, x76, x77, x78, x101, y99, y100)) else (bd9 (fX12_goes x79 x92 x93 x94 x95 x96 x97 x74 x75 x76 x77 x78 x101 y99 y100) fun r_1 x74_2 x75_3 x76_4 x77_5 x78_6 x101_7 y99_8 y100_9 => (bn (v2 + 1) fun t_11 => (k2 v1 t_11 x74_2 x75_3 x76_4 x77_5 x78_6 x101_7 y99_8 y100_9)))
def fX12_goFor_2   (x79 : Nat → Int32) (x92 : Nat → Int32) (x93 : Nat → Int32) (x94 : Nat → Int32) (x95 : Nat → Int32) (x96 : Nat → Int32) (x97 : Nat → Int32)  : Int32 → Int32 → (Nat → Int32) → (Nat → Int32) → (Nat → Int32) → (Nat → Int32) → (Nat → Int32) → (Nat → Int32) → (Nat → Int64) → (Nat → Int64) → Option ((Nat → Int32) × (Nat → Int32) × (Nat → Int32) × (Nat → Int32) × (Nat → Int32) × (Nat → Int32) × (Nat → Int64) × (Nat → Int64)) := lq10 (fX12_goFor_2b x79 x92 x93 x94 x95 x96 x97 ) 5000
set_option maxHeartbeats 4000000 in
set_option maxRecDepth 100000 in
theorem wX12_goFor_2 {l : Launch} {b0 : Nat} {D : GD} {K : KT} {n : Nat} {κ : QT} {X0 : XT} {Y0 : YT} {Z : ZT} (hL : LY n κ) (hN : ([74, 75, 76, 77, 78, 79, 92, 93, 94, 95, 96, 97, 101] : List Nat).Nodup) (hM : ([99, 100] : List Nat).Nodup) (hC : gC l b0 D K RX12 cX12_goFor none 3 7 166 0 0) {x79 : Nat → Int32} {x92 : Nat → Int32} {x93 : Nat → Int32} {x94 : Nat → Int32} {x95 : Nat → Int32} {x96 : Nat → Int32} {x97 : Nat → Int32} {rx74 : (Nat → Int32)} {rx75 : (Nat → Int32)} {rx76 : (Nat → Int32)} {rx77 : (Nat → Int32)} {rx78 : (Nat → Int32)} {rx101 : (Nat → Int32)} {ry99 : (Nat → Int64)} {ry100 : (Nat → Int64)} (hret : ∀ pc loc, decode cX12_goFor pc = .ok (.return_, 1) → gV l b0 D K (n, κ, ov X0 [74, 75, 76, 77, 78, 79, 92, 93, 94, 95, 96, 97, 101] [rx74, rx75, rx76, rx77, rx78, x79, x92, x93, x94, x95, x96, x97, rx101], ov Y0 [99, 100] [ry99, ry100], Z, 0, 0) pc loc []) : ∀ (j : Nat) (v1 : Int32) (v2 : Int32) (x74 : (Nat → Int32)) (x75 : (Nat → Int32)) (x76 : (Nat → Int32)) (x77 : (Nat → Int32)) (x78 : (Nat → Int32)) (x101 : (Nat → Int32)) (y99 : (Nat → Int64)) (y100 : (Nat → Int64)), lq10 (fX12_goFor_2b x79 x92 x93 x94 x95 x96 x97 ) j v1 v2 x74 x75 x76 x77 x78 x101 y99 y100 = some (rx74, rx75, rx76, rx77, rx78, rx101, ry99, ry100) → gV l b0 D K (n, κ, ov X0 [74, 75, 76, 77, 78, 79, 92, 93, 94, 95, 96, 97, 101] [x74, x75, x76, x77, x78, x79, x92, x93, x94, x95, x96, x97, x101], ov Y0 [99, 100] [y99, y100], Z, 0, 0) 2 [(0, .ref (b0 + 74)), (1, .int v1), (2, .int v2)] [] := by
  intro j
  induction j with
  | zero => intro v1 v2 x74 x75 x76 x77 x78 x101 y99 y100 hf; cases hf
  | succ j hk2 =>
    intro v1 v2 x74 x75 x76 x77 x78 x101 y99 y100 hf
    replace hf : fX12_goFor_2b x79 x92 x93 x94 x95 x96 x97  (lq10 (fX12_goFor_2b x79 x92 x93 x94 x95 x96 x97 ) j) v1 v2 x74 x75 x76 x77 x78 x101 y99 y100 = some (rx74, rx75, rx76, rx77, rx78, rx101, ry99, ry100) := hf
    unfold fX12_goFor_2b at hf
    refine g_iload_n hC 2 dX12_goFor_2 rfl rfl ?_
    refine g_iload_n hC 1 dX12_goFor_3 rfl rfl ?_
    refine g_icmp_ge hC 18 dX12_goFor_4 (by decide) (fun hc => ?_) (fun hc => ?_)
    · replace hf := ifT hf hc
      obtain ⟨rfl, rfl, rfl, rfl, rfl, rfl, rfl, rfl⟩ := sm8E hf
      exact hret _ _ dX12_goFor_18
    · replace hf := ifF hf hc
      refine g_aload_n hC 0 dX12_goFor_7 rfl rfl ?_
      obtain ⟨r_1, x74_2, x75_3, x76_4, x77_5, x78_6, x101_7, y99_8, y100_9, q_10, hf⟩ := bd9E hf
      refine g_callV_i (a := 74) hC (X' := ov X0 [74, 75, 76, 77, 78, 79, 92, 93, 94, 95, 96, 97, 101] [x74_2, x75_3, x76_4, x77_5, x78_6, x79, x92, x93, x94, x95, x96, x97, x101_7]) (Y' := ov Y0 [99, 100] [y99_8, y100_9]) (As := []) (gMi_eq (c_X12_goes l hL (ov_map hN [0, 1, 2, 3, 4, 5, 6, 7, 8, 9, 10, 11, 12] (by rfl) (by rfl)) (ov_map hM [0, 1] (by rfl) (by rfl)) q_10) (ov_ovE hN (by rfl) [0, 1, 2, 3, 4, 5, 6, 7, 8, 9, 10, 11, 12] [] (by rfl) (by rfl) [] (by rfl) (by rfl) (by rfl) 13 (by rfl) (by decide)) (ov_ovE hM (by rfl) [0, 1] [] (by rfl) (by rfl) [] (by rfl) (by rfl) (by rfl) 2 (by rfl) (by decide))) tw_1593 tw_1590 tw_127 tw_1592 tw_86 (ci := 12) rfl (by decide) (kk_74 hL) (kn_74 hL) pd_X12_goes (by decide) (by decide) rfl rfl (Nat.le_of_ble_eq_true rfl) rfl dX12_goFor_8 ?_
      refine g_pop hC dX12_goFor_11 rfl ?_
      obtain ⟨t_11, et_11, hf⟩ := bnE hf
      refine g_iinc hC (i := 2) (v := t_11) [(2, .int t_11), (0, .ref (b0 + 74)), (1, .int v1)] dX12_goFor_12 (q := 2) rfl ((congrArg (HAdd.hAdd v2) ic_1).trans et_11.symm) (by decide) rfl ?_
      refine g_goto hC 2 dX12_goFor_15 (by decide) ?_
      exact g_sub [1, 2, 0] rfl (hk2 v1 t_11 x74_2 x75_3 x76_4 x77_5 x78_6 x101_7 y99_8 y100_9 hf)

def fX12_goFor_0   (x79 : Nat → Int32) (x92 : Nat → Int32) (x93 : Nat → Int32) (x94 : Nat → Int32) (x95 : Nat → Int32) (x96 : Nat → Int32) (x97 : Nat → Int32)  (v1 : Int32) (x74 : (Nat → Int32)) (x75 : (Nat → Int32)) (x76 : (Nat → Int32)) (x77 : (Nat → Int32)) (x78 : (Nat → Int32)) (x101 : (Nat → Int32)) (y99 : (Nat → Int64)) (y100 : (Nat → Int64)) : Option ((Nat → Int32) × (Nat → Int32) × (Nat → Int32) × (Nat → Int32) × (Nat → Int32) × (Nat → Int32) × (Nat → Int64) × (Nat → Int64)) := fX12_goFor_2 x79 x92 x93 x94 x95 x96 x97  v1 0 x74 x75 x76 x77 x78 x101 y99 y100
set_option maxHeartbeats 4000000 in
set_option maxRecDepth 100000 in
theorem wX12_goFor_0 {l : Launch} {b0 : Nat} {D : GD} {K : KT} {n : Nat} {κ : QT} {X0 : XT} {Y0 : YT} {Z : ZT} (hL : LY n κ) (hN : ([74, 75, 76, 77, 78, 79, 92, 93, 94, 95, 96, 97, 101] : List Nat).Nodup) (hM : ([99, 100] : List Nat).Nodup) (hC : gC l b0 D K RX12 cX12_goFor none 3 7 166 0 0) {x79 : Nat → Int32} {x92 : Nat → Int32} {x93 : Nat → Int32} {x94 : Nat → Int32} {x95 : Nat → Int32} {x96 : Nat → Int32} {x97 : Nat → Int32} {rx74 : (Nat → Int32)} {rx75 : (Nat → Int32)} {rx76 : (Nat → Int32)} {rx77 : (Nat → Int32)} {rx78 : (Nat → Int32)} {rx101 : (Nat → Int32)} {ry99 : (Nat → Int64)} {ry100 : (Nat → Int64)} (hret : ∀ pc loc, decode cX12_goFor pc = .ok (.return_, 1) → gV l b0 D K (n, κ, ov X0 [74, 75, 76, 77, 78, 79, 92, 93, 94, 95, 96, 97, 101] [rx74, rx75, rx76, rx77, rx78, x79, x92, x93, x94, x95, x96, x97, rx101], ov Y0 [99, 100] [ry99, ry100], Z, 0, 0) pc loc []) {v1 : Int32} {x74 : (Nat → Int32)} {x75 : (Nat → Int32)} {x76 : (Nat → Int32)} {x77 : (Nat → Int32)} {x78 : (Nat → Int32)} {x101 : (Nat → Int32)} {y99 : (Nat → Int64)} {y100 : (Nat → Int64)} (hf : fX12_goFor_0 x79 x92 x93 x94 x95 x96 x97  v1 x74 x75 x76 x77 x78 x101 y99 y100 = some (rx74, rx75, rx76, rx77, rx78, rx101, ry99, ry100)) : gV l b0 D K (n, κ, ov X0 [74, 75, 76, 77, 78, 79, 92, 93, 94, 95, 96, 97, 101] [x74, x75, x76, x77, x78, x79, x92, x93, x94, x95, x96, x97, x101], ov Y0 [99, 100] [y99, y100], Z, 0, 0) 0 [(0, .ref (b0 + 74)), (1, .int v1)] [] := by
  unfold fX12_goFor_0 at hf
  refine g_iconst hC (v := 0) dX12_goFor_0 ic_0 ?_
  refine g_istore_n hC (i := 2) [(2, .int 0), (0, .ref (b0 + 74)), (1, .int v1)] rfl dX12_goFor_1 (by decide) rfl ?_
  exact g_sub [1, 2, 0] rfl (wX12_goFor_2 hL hN hM hC  hret  5000 v1 0 x74 x75 x76 x77 x78 x101 y99 y100 hf)

def fX12_goFor   (x79 : Nat → Int32) (x92 : Nat → Int32) (x93 : Nat → Int32) (x94 : Nat → Int32) (x95 : Nat → Int32) (x96 : Nat → Int32) (x97 : Nat → Int32)  (v1 : Int32) (x74 : Nat → Int32) (x75 : Nat → Int32) (x76 : Nat → Int32) (x77 : Nat → Int32) (x78 : Nat → Int32) (x101 : Nat → Int32) (y99 : Nat → Int64) (y100 : Nat → Int64) : Option ((Nat → Int32) × (Nat → Int32) × (Nat → Int32) × (Nat → Int32) × (Nat → Int32) × (Nat → Int32) × (Nat → Int64) × (Nat → Int64)) := fX12_goFor_0 x79 x92 x93 x94 x95 x96 x97 v1 x74 x75 x76 x77 x78 x101 y99 y100

set_option maxHeartbeats 4000000 in
set_option maxRecDepth 100000 in
theorem c_X12_goFor (l : Launch) {b0 : Nat} {D : GD} {n : Nat} {κ : QT} {X0 : XT} {Y0 : YT} {Z : ZT} (hL : LY n κ) {x74 : Nat → Int32} {x75 : Nat → Int32} {x76 : Nat → Int32} {x77 : Nat → Int32} {x78 : Nat → Int32} {x79 : Nat → Int32} {x92 : Nat → Int32} {x93 : Nat → Int32} {x94 : Nat → Int32} {x95 : Nat → Int32} {x96 : Nat → Int32} {x97 : Nat → Int32} {x101 : Nat → Int32} {y99 : Nat → Int64} {y100 : Nat → Int64} (hx : ([74, 75, 76, 77, 78, 79, 92, 93, 94, 95, 96, 97, 101] : List Nat).map X0 = [x74, x75, x76, x77, x78, x79, x92, x93, x94, x95, x96, x97, x101]) (hy : ([99, 100] : List Nat).map Y0 = [y99, y100]) {v1 : Int32} {rx74 : (Nat → Int32)} {rx75 : (Nat → Int32)} {rx76 : (Nat → Int32)} {rx77 : (Nat → Int32)} {rx78 : (Nat → Int32)} {rx101 : (Nat → Int32)} {ry99 : (Nat → Int64)} {ry100 : (Nat → Int64)} (hf : fX12_goFor x79 x92 x93 x94 x95 x96 x97 v1 x74 x75 x76 x77 x78 x101 y99 y100 = some (rx74, rx75, rx76, rx77, rx78, rx101, ry99, ry100)) : gMv l yX12_goFor cX12_goFor 3 none 7 166 0 0 b0 D [.ref (b0 + 74), .int v1] (n, κ, X0, Y0, Z) (n, κ, ov X0 [74, 75, 76, 77, 78, 79, 92, 93, 94, 95, 96, 97, 101] [rx74, rx75, rx76, rx77, rx78, x79, x92, x93, x94, x95, x96, x97, rx101], ov Y0 [99, 100] [ry99, ry100], Z) := by
  have hN : ([74, 75, 76, 77, 78, 79, 92, 93, 94, 95, 96, 97, 101] : List Nat).Nodup := by decide
  have hM : ([99, 100] : List Nat).Nodup := by decide
  refine g_metv (own := RX12) (by decide) rfl rfl (Nat.le_of_ble_eq_true rfl) ?_
  intro K hC hret
  have e := wX12_goFor_0 hL hN hM hC  hret hf
  rw [ov_id' hx, ov_id' hy] at e
  exact g_sub [0, 1] rfl e

-- X12_moves
def fX12_moves_20     (s0 : Int32) (x74 : (Nat → Int32)) (x102 : (Nat → Int32)) : Option (Int32 × (Nat → Int32) × (Nat → Int32)) := gd (inb (x74 44) 1020) (some (s0, (upd x74 44 ((x74 44) + 1)), (upd x102 (x74 44).toNatClampNeg s0)))
set_option maxHeartbeats 4000000 in
set_option maxRecDepth 100000 in
theorem wX12_moves_20 {l : Launch} {b0 : Nat} {D : GD} {K : KT} {n : Nat} {κ : QT} {X0 : XT} {Y0 : YT} {Z : ZT} (hL : LY n κ) (hN : ([74, 102] : List Nat).Nodup) (hM : ([] : List Nat).Nodup) (hC : gC l b0 D K RX12 cX12_moves (some FieldType.int) 3 0 0 0 0) {r : Int32} {rx74 : (Nat → Int32)} {rx102 : (Nat → Int32)} (hret : ∀ pc loc, narrow .int (.int r) = .int r → decode cX12_moves pc = .ok (.ireturn, 1) → gV l b0 D K (n, κ, ov X0 [74, 102] [rx74, rx102], ov Y0 [] [], Z, 0, 0) pc loc [.int r]) {s0 : Int32} {x74 : (Nat → Int32)} {x102 : (Nat → Int32)} (hf : fX12_moves_20   s0 x74 x102 = some (r, rx74, rx102)) : gV l b0 D K (n, κ, ov X0 [74, 102] [x74, x102], ov Y0 [] [], Z, 0, 0) 20 [(0, .ref (b0 + 74))] [.int s0] := by
  unfold fX12_moves_20 at hf
  refine g_istore_n hC (i := 2) [(2, .int s0), (0, .ref (b0 + 74))] rfl dX12_moves_20 (by decide) rfl ?_
  refine g_aload_n hC 1 dX12_moves_21 rfl rfl ?_
  refine gt_X12_103 hC (a := 74) (kk_74 hL) (kn_74 hL) dX12_moves_22 ?_
  refine g_ref (b := 102) rfl ?_
  refine g_aload_n hC 1 dX12_moves_25 rfl rfl ?_
  refine gt_X12_418 hC (x := x74) (kk_74 hL) (kn_74 hL) (ov_get hN 0 rfl rfl) dX12_moves_26 ?_
  refine g_iload_n hC 0 dX12_moves_29 rfl rfl ?_
  obtain ⟨h_1, hf⟩ := gdE hf
  refine g_iast hC (x := x102) (kk_102 hL) (kn_102 hL) (ov_get hN 1 rfl rfl) (inb_in h_1) (ov_set hN (by rfl) 1 (by rfl)) dX12_moves_30 ?_
  show gV l b0 D K (n, κ, ov X0 [74, 102] [x74, (upd x102 (x74 44).toNatClampNeg s0)], ov Y0 [] [], Z, 0, 0) 31 [(2, .int s0), (0, .ref (b0 + 74))] []
  refine g_aload_n hC 1 dX12_moves_31 rfl rfl ?_
  refine g_dup hC dX12_moves_32 rfl ?_
  refine gt_X12_418 hC (x := x74) (kk_74 hL) (kn_74 hL) (ov_get hN 0 rfl rfl) dX12_moves_33 ?_
  refine g_iconst hC (v := 1) dX12_moves_36 ic_1 ?_
  refine g_iadd hC dX12_moves_37 ?_
  refine pt_X12_418 hC (x := x74) (kk_74 hL) (kn_74 hL) (ov_get hN 0 rfl rfl) (ov_set hN (by rfl) 0 (by rfl)) dX12_moves_38 ?_
  show gV l b0 D K (n, κ, ov X0 [74, 102] [(upd x74 44 ((x74 44) + 1)), (upd x102 (x74 44).toNatClampNeg s0)], ov Y0 [] [], Z, 0, 0) 41 [(2, .int s0), (0, .ref (b0 + 74))] []
  refine g_iload_n hC 0 dX12_moves_41 rfl rfl ?_
  obtain ⟨rfl, rfl, rfl⟩ := sm3E hf
  exact hret _ _ rfl dX12_moves_42

def fX12_moves_0     (v1 : Int32) (x74 : (Nat → Int32)) (x102 : (Nat → Int32)) : Option (Int32 × (Nat → Int32) × (Nat → Int32)) := if (x74 45) = 0 then (fX12_moves_20   v1 x74 x102) else (gd (inb (x74 44) 1020) (fX12_moves_20   (x102 (x74 44).toNatClampNeg) x74 x102))
set_option maxHeartbeats 4000000 in
set_option maxRecDepth 100000 in
theorem wX12_moves_0 {l : Launch} {b0 : Nat} {D : GD} {K : KT} {n : Nat} {κ : QT} {X0 : XT} {Y0 : YT} {Z : ZT} (hL : LY n κ) (hN : ([74, 102] : List Nat).Nodup) (hM : ([] : List Nat).Nodup) (hC : gC l b0 D K RX12 cX12_moves (some FieldType.int) 3 0 0 0 0) {r : Int32} {rx74 : (Nat → Int32)} {rx102 : (Nat → Int32)} (hret : ∀ pc loc, narrow .int (.int r) = .int r → decode cX12_moves pc = .ok (.ireturn, 1) → gV l b0 D K (n, κ, ov X0 [74, 102] [rx74, rx102], ov Y0 [] [], Z, 0, 0) pc loc [.int r]) {v1 : Int32} {x74 : (Nat → Int32)} {x102 : (Nat → Int32)} (hf : fX12_moves_0   v1 x74 x102 = some (r, rx74, rx102)) : gV l b0 D K (n, κ, ov X0 [74, 102] [x74, x102], ov Y0 [] [], Z, 0, 0) 0 [(0, .ref (b0 + 74)), (1, .int v1)] [] := by
  unfold fX12_moves_0 at hf
  refine g_aload_n hC 0 dX12_moves_0 rfl rfl ?_
  refine gt_X12_415 hC (x := x74) (kk_74 hL) (kn_74 hL) (ov_get hN 0 rfl rfl) dX12_moves_1 ?_
  refine g_if_eq hC 19 dX12_moves_4 (by decide) (fun hc => ?_) (fun hc => ?_)
  · replace hf := ifT hf hc
    refine g_iload_n hC 1 dX12_moves_19 rfl rfl ?_
    exact g_sub [0] rfl (wX12_moves_20 hL hN hM hC  hret  hf)
  · replace hf := ifF hf hc
    refine g_aload_n hC 0 dX12_moves_7 rfl rfl ?_
    refine gt_X12_103 hC (a := 74) (kk_74 hL) (kn_74 hL) dX12_moves_8 ?_
    refine g_ref (b := 102) rfl ?_
    refine g_aload_n hC 0 dX12_moves_11 rfl rfl ?_
    refine gt_X12_418 hC (x := x74) (kk_74 hL) (kn_74 hL) (ov_get hN 0 rfl rfl) dX12_moves_12 ?_
    obtain ⟨h_1, hf⟩ := gdE hf
    refine g_iald hC (x := x102) (kk_102 hL) (kn_102 hL) (ov_get hN 1 rfl rfl) (inb_in h_1) dX12_moves_15 ?_
    refine g_goto hC 20 dX12_moves_16 (by decide) ?_
    exact g_sub [0] rfl (wX12_moves_20 hL hN hM hC  hret  hf)

def fX12_moves     (v1 : Int32) (x74 : Nat → Int32) (x102 : Nat → Int32)  : Option (Int32 × (Nat → Int32) × (Nat → Int32)) := fX12_moves_0  v1 x74 x102

set_option maxHeartbeats 4000000 in
set_option maxRecDepth 100000 in
theorem c_X12_moves (l : Launch) {b0 : Nat} {D : GD} {n : Nat} {κ : QT} {X0 : XT} {Y0 : YT} {Z : ZT} (hL : LY n κ) {x74 : Nat → Int32} {x102 : Nat → Int32} (hx : ([74, 102] : List Nat).map X0 = [x74, x102]) (hy : ([] : List Nat).map Y0 = []) {v1 : Int32} {r : Int32} {rx74 : (Nat → Int32)} {rx102 : (Nat → Int32)} (hf : fX12_moves  v1 x74 x102 = some (r, rx74, rx102)) : gMi l yX12_moves cX12_moves 3 (some FieldType.int) 0 0 0 0 b0 D [.ref (b0 + 74), .int v1] (n, κ, X0, Y0, Z) (n, κ, ov X0 [74, 102] [rx74, rx102], ov Y0 [] [], Z) r := by
  have hN : ([74, 102] : List Nat).Nodup := by decide
  have hM : ([] : List Nat).Nodup := by decide
  refine g_meti (own := RX12) (by decide) rfl rfl (Nat.le_of_ble_eq_true rfl) ?_
  intro K hC hret
  have e := wX12_moves_0 hL hN hM hC  hret hf
  rw [ov_id' hx, ov_id' hy] at e
  exact g_sub [0, 1] rfl e

-- X12_movesRow
def fX12_movesRow_2b  (L : Nat)   (k2 : Int32 → (Nat → Int32) → (Nat → Int32) → (Nat → Int32) → Option ((Nat → Int32) × (Nat → Int32) × (Nat → Int32))) (v2 : Int32) (xa : (Nat → Int32)) (x74 : (Nat → Int32)) (x102 : (Nat → Int32)) : Option ((Nat → Int32) × (Nat → Int32) × (Nat → Int32)) := if (Int32.ofNat L) ≤ v2 then (some (xa, x74, x102)) else (gd (inb v2 L) (bd3 (fX12_moves (xa v2.toNatClampNeg) x74 x102) fun r_2 x74_3 x102_4 => (gd (inb v2 L) (bn (v2 + 1) fun t_7 => (k2 t_7 (upd xa v2.toNatClampNeg r_2) x74_3 x102_4)))))
def fX12_movesRow_2  (L : Nat)   : Int32 → (Nat → Int32) → (Nat → Int32) → (Nat → Int32) → Option ((Nat → Int32) × (Nat → Int32) × (Nat → Int32)) := lq4 (fX12_movesRow_2b L ) 5000
set_option maxHeartbeats 4000000 in
set_option maxRecDepth 100000 in
theorem wX12_movesRow_2 {l : Launch} {b0 : Nat} {D : GD} {K : KT} {n : Nat} {κ : QT} {X0 : XT} {Y0 : YT} {Z : ZT} {a : Nat} {L : Nat} (hL : LY n κ) (hk_a : κ a = (14, L)) (hn_a : a < n) (hN : ([a, 74, 102] : List Nat).Nodup) (hM : ([] : List Nat).Nodup) (hC : gC l b0 D K RX12 cX12_movesRow none 3 1 22 0 0) {rxa : (Nat → Int32)} {rx74 : (Nat → Int32)} {rx102 : (Nat → Int32)} (hret : ∀ pc loc, decode cX12_movesRow pc = .ok (.return_, 1) → gV l b0 D K (n, κ, ov X0 [a, 74, 102] [rxa, rx74, rx102], ov Y0 [] [], Z, 0, 0) pc loc []) : ∀ (j : Nat) (v2 : Int32) (xa : (Nat → Int32)) (x74 : (Nat → Int32)) (x102 : (Nat → Int32)), lq4 (fX12_movesRow_2b L ) j v2 xa x74 x102 = some (rxa, rx74, rx102) → gV l b0 D K (n, κ, ov X0 [a, 74, 102] [xa, x74, x102], ov Y0 [] [], Z, 0, 0) 2 [(0, .ref (b0 + 74)), (1, .ref (b0 + a)), (2, .int v2)] [] := by
  intro j
  induction j with
  | zero => intro v2 xa x74 x102 hf; cases hf
  | succ j hk2 =>
    intro v2 xa x74 x102 hf
    replace hf : fX12_movesRow_2b L  (lq4 (fX12_movesRow_2b L ) j) v2 xa x74 x102 = some (rxa, rx74, rx102) := hf
    unfold fX12_movesRow_2b at hf
    refine g_iload_n hC 2 dX12_movesRow_2 rfl rfl ?_
    refine g_aload_n hC 1 dX12_movesRow_3 rfl rfl ?_
    refine g_alen_i hC (L := L) hk_a hn_a dX12_movesRow_4 ?_
    refine g_icmp_ge hC 24 dX12_movesRow_5 (by decide) (fun hc => ?_) (fun hc => ?_)
    · replace hf := ifT hf hc
      obtain ⟨rfl, rfl, rfl⟩ := sm3E hf
      exact hret _ _ dX12_movesRow_24
    · replace hf := ifF hf hc
      refine g_aload_n hC 1 dX12_movesRow_8 rfl rfl ?_
      refine g_iload_n hC 2 dX12_movesRow_9 rfl rfl ?_
      refine g_aload_n hC 0 dX12_movesRow_10 rfl rfl ?_
      refine g_aload_n hC 1 dX12_movesRow_11 rfl rfl ?_
      refine g_iload_n hC 2 dX12_movesRow_12 rfl rfl ?_
      obtain ⟨h_1, hf⟩ := gdE hf
      refine g_iald hC (x := xa) hk_a hn_a (ov_get hN 0 rfl rfl) (inb_in h_1) dX12_movesRow_13 ?_
      obtain ⟨r_2, x74_3, x102_4, q_5, hf⟩ := bd3E hf
      refine g_callV_i (a := 74) hC (X' := ov X0 [a, 74, 102] [xa, x74_3, x102_4]) (Y' := ov Y0 [] []) (As := [.int (xa v2.toNatClampNeg)]) (gMi_eq (c_X12_moves l hL (ov_map hN [1, 2] (by rfl) (by rfl)) (ov_map hM [] (by rfl) (by rfl)) q_5) (ov_ovE hN (by rfl) [1, 2] [0] (by rfl) (by rfl) [xa] (by rfl) (by rfl) (by rfl) 3 (by rfl) (by decide)) (ov_ovE hM (by rfl) [] [] (by rfl) (by rfl) [] (by rfl) (by rfl) (by rfl) 0 (by rfl) (by decide))) tw_1573 tw_1570 tw_127 tw_1572 tw_82 (ci := 12) rfl (by decide) (kk_74 hL) (kn_74 hL) pd_X12_moves (by decide) (by decide) rfl rfl (Nat.le_of_ble_eq_true rfl) rfl dX12_movesRow_14 ?_
      obtain ⟨h_6, hf⟩ := gdE hf
      refine g_iast hC (x := xa) hk_a hn_a (ov_get hN 0 rfl rfl) (inb_in h_6) (ov_set hN (by rfl) 0 (by rfl)) dX12_movesRow_17 ?_
      show gV l b0 D K (n, κ, ov X0 [a, 74, 102] [(upd xa v2.toNatClampNeg r_2), x74_3, x102_4], ov Y0 [] [], Z, 0, 0) 18 [(0, .ref (b0 + 74)), (1, .ref (b0 + a)), (2, .int v2)] []
      obtain ⟨t_7, et_7, hf⟩ := bnE hf
      refine g_iinc hC (i := 2) (v := t_7) [(2, .int t_7), (0, .ref (b0 + 74)), (1, .ref (b0 + a))] dX12_movesRow_18 (q := 2) rfl ((congrArg (HAdd.hAdd v2) ic_1).trans et_7.symm) (by decide) rfl ?_
      refine g_goto hC 2 dX12_movesRow_21 (by decide) ?_
      exact g_sub [1, 2, 0] rfl (hk2 t_7 (upd xa v2.toNatClampNeg r_2) x74_3 x102_4 hf)

def fX12_movesRow_0  (L : Nat)   (xa : (Nat → Int32)) (x74 : (Nat → Int32)) (x102 : (Nat → Int32)) : Option ((Nat → Int32) × (Nat → Int32) × (Nat → Int32)) := fX12_movesRow_2 L  0 xa x74 x102
set_option maxHeartbeats 4000000 in
set_option maxRecDepth 100000 in
theorem wX12_movesRow_0 {l : Launch} {b0 : Nat} {D : GD} {K : KT} {n : Nat} {κ : QT} {X0 : XT} {Y0 : YT} {Z : ZT} {a : Nat} {L : Nat} (hL : LY n κ) (hk_a : κ a = (14, L)) (hn_a : a < n) (hN : ([a, 74, 102] : List Nat).Nodup) (hM : ([] : List Nat).Nodup) (hC : gC l b0 D K RX12 cX12_movesRow none 3 1 22 0 0) {rxa : (Nat → Int32)} {rx74 : (Nat → Int32)} {rx102 : (Nat → Int32)} (hret : ∀ pc loc, decode cX12_movesRow pc = .ok (.return_, 1) → gV l b0 D K (n, κ, ov X0 [a, 74, 102] [rxa, rx74, rx102], ov Y0 [] [], Z, 0, 0) pc loc []) {xa : (Nat → Int32)} {x74 : (Nat → Int32)} {x102 : (Nat → Int32)} (hf : fX12_movesRow_0 L  xa x74 x102 = some (rxa, rx74, rx102)) : gV l b0 D K (n, κ, ov X0 [a, 74, 102] [xa, x74, x102], ov Y0 [] [], Z, 0, 0) 0 [(0, .ref (b0 + 74)), (1, .ref (b0 + a))] [] := by
  unfold fX12_movesRow_0 at hf
  refine g_iconst hC (v := 0) dX12_movesRow_0 ic_0 ?_
  refine g_istore_n hC (i := 2) [(2, .int 0), (0, .ref (b0 + 74)), (1, .ref (b0 + a))] rfl dX12_movesRow_1 (by decide) rfl ?_
  exact g_sub [1, 2, 0] rfl (wX12_movesRow_2 hL hk_a hn_a hN hM hC  hret  5000 0 xa x74 x102 hf)

def fX12_movesRow  (L : Nat)    (xa : Nat → Int32) (x74 : Nat → Int32) (x102 : Nat → Int32)  : Option ((Nat → Int32) × (Nat → Int32) × (Nat → Int32)) := fX12_movesRow_0 L xa x74 x102

set_option maxHeartbeats 4000000 in
set_option maxRecDepth 100000 in
theorem c_X12_movesRow (l : Launch) {b0 : Nat} {D : GD} {n : Nat} {κ : QT} {X0 : XT} {Y0 : YT} {Z : ZT} {a : Nat} {L : Nat} (hL : LY n κ) (hk_a : κ a = (14, L)) (hn_a : a < n) (hN : ([a, 74, 102] : List Nat).Nodup) (hM : ([] : List Nat).Nodup) {xa : Nat → Int32} {x74 : Nat → Int32} {x102 : Nat → Int32} (hx : ([a, 74, 102] : List Nat).map X0 = [xa, x74, x102]) (hy : ([] : List Nat).map Y0 = []) {rxa : (Nat → Int32)} {rx74 : (Nat → Int32)} {rx102 : (Nat → Int32)} (hf : fX12_movesRow L xa x74 x102 = some (rxa, rx74, rx102)) : gMv l yX12_movesRow cX12_movesRow 3 none 1 22 0 0 b0 D [.ref (b0 + 74), .ref (b0 + a)] (n, κ, X0, Y0, Z) (n, κ, ov X0 [a, 74, 102] [rxa, rx74, rx102], ov Y0 [] [], Z) := by
  refine g_metv (own := RX12) (by decide) rfl rfl (Nat.le_of_ble_eq_true rfl) ?_
  intro K hC hret
  have e := wX12_movesRow_0 hL hk_a hn_a hN hM hC  hret hf
  rw [ov_id' hx, ov_id' hy] at e
  exact g_sub [0, 1] rfl e

-- X12_movesAll
def fX12_movesAll_15b     (k15 : Int32 → (Nat → Int32) → (Nat → Int32) → (Nat → Int32) → (Nat → Int32) → (Nat → Int32) → (Nat → Int32) → Option ((Nat → Int32) × (Nat → Int32) × (Nat → Int32) × (Nat → Int32) × (Nat → Int32) × (Nat → Int32))) (v3 : Int32) (x74 : (Nat → Int32)) (x75 : (Nat → Int32)) (x76 : (Nat → Int32)) (x77 : (Nat → Int32)) (x78 : (Nat → Int32)) (x102 : (Nat → Int32)) : Option ((Nat → Int32) × (Nat → Int32) × (Nat → Int32) × (Nat → Int32) × (Nat → Int32) × (Nat → Int32)) := if 8 ≤ v3 then (bd3 (fX12_movesRow 6 x76 x74 x102) fun x76_1 x74_2 x102_3 => (bd3 (fX12_movesRow 6 x77 x74_2 x102_3) fun x77_5 x74_6 x102_7 => (bd3 (fX12_movesRow 36 x78 x74_6 x102_7) fun x78_9 x74_10 x102_11 => (some (x74_10, x75, x76_1, x77_5, x78_9, x102_11))))) else (gd (inb v3 11) (bd3 (fX12_moves (x75 v3.toNatClampNeg) x74 x102) fun r_14 x74_15 x102_16 => (gd (inb v3 11) (bn (v3 + 1) fun t_19 => (k15 t_19 x74_15 (upd x75 v3.toNatClampNeg r_14) x76 x77 x78 x102_16)))))
def fX12_movesAll_15     : Int32 → (Nat → Int32) → (Nat → Int32) → (Nat → Int32) → (Nat → Int32) → (Nat → Int32) → (Nat → Int32) → Option ((Nat → Int32) × (Nat → Int32) × (Nat → Int32) × (Nat → Int32) × (Nat → Int32) × (Nat → Int32)) := lq7 (fX12_movesAll_15b  ) 5000
set_option maxHeartbeats 4000000 in
set_option maxRecDepth 100000 in
theorem wX12_movesAll_15 {l : Launch} {b0 : Nat} {D : GD} {K : KT} {n : Nat} {κ : QT} {X0 : XT} {Y0 : YT} {Z : ZT} (hL : LY n κ) (hN : ([74, 75, 76, 77, 78, 102] : List Nat).Nodup) (hM : ([] : List Nat).Nodup) (hC : gC l b0 D K RX12 cX12_movesAll none 4 2 44 0 0) {rx74 : (Nat → Int32)} {rx75 : (Nat → Int32)} {rx76 : (Nat → Int32)} {rx77 : (Nat → Int32)} {rx78 : (Nat → Int32)} {rx102 : (Nat → Int32)} (hret : ∀ pc loc, decode cX12_movesAll pc = .ok (.return_, 1) → gV l b0 D K (n, κ, ov X0 [74, 75, 76, 77, 78, 102] [rx74, rx75, rx76, rx77, rx78, rx102], ov Y0 [] [], Z, 0, 0) pc loc []) : ∀ (j : Nat) (v3 : Int32) (x74 : (Nat → Int32)) (x75 : (Nat → Int32)) (x76 : (Nat → Int32)) (x77 : (Nat → Int32)) (x78 : (Nat → Int32)) (x102 : (Nat → Int32)), lq7 (fX12_movesAll_15b  ) j v3 x74 x75 x76 x77 x78 x102 = some (rx74, rx75, rx76, rx77, rx78, rx102) → gV l b0 D K (n, κ, ov X0 [74, 75, 76, 77, 78, 102] [x74, x75, x76, x77, x78, x102], ov Y0 [] [], Z, 0, 0) 15 [(0, .ref (b0 + 74)), (3, .int v3)] [] := by
  intro j
  induction j with
  | zero => intro v3 x74 x75 x76 x77 x78 x102 hf; cases hf
  | succ j hk15 =>
    intro v3 x74 x75 x76 x77 x78 x102 hf
    replace hf : fX12_movesAll_15b   (lq7 (fX12_movesAll_15b  ) j) v3 x74 x75 x76 x77 x78 x102 = some (rx74, rx75, rx76, rx77, rx78, rx102) := hf
    unfold fX12_movesAll_15b at hf
    refine g_iload_n hC 1 dX12_movesAll_15 rfl rfl ?_
    refine g_bipush hC (v := 8) dX12_movesAll_16 bp_8 ?_
    refine g_icmp_ge hC 43 dX12_movesAll_18 (by decide) (fun hc => ?_) (fun hc => ?_)
    · replace hf := ifT hf hc
      refine g_aload_n hC 0 dX12_movesAll_43 rfl rfl ?_
      refine g_aload_n hC 0 dX12_movesAll_44 rfl rfl ?_
      refine gt_X12_13 hC (a := 74) (kk_74 hL) (kn_74 hL) dX12_movesAll_45 ?_
      refine g_ref (b := 76) rfl ?_
      obtain ⟨x76_1, x74_2, x102_3, q_4, hf⟩ := bd3E hf
      refine g_callV_v (a := 74) hC (X' := ov X0 [74, 75, 76, 77, 78, 102] [x74_2, x75, x76_1, x77, x78, x102_3]) (Y' := ov Y0 [] []) (As := [.ref (b0 + 76)]) (gMv_eq (c_X12_movesRow l hL (kk_76 hL) (kn_76 hL) (nd_sub hN [2, 0, 5] (by decide) (by rfl)) (nd_sub hM [] (by decide) (by rfl)) (ov_map hN [2, 0, 5] (by rfl) (by rfl)) (ov_map hM [] (by rfl) (by rfl)) q_4) (ov_ovE hN (by rfl) [2, 0, 5] [1, 3, 4] (by rfl) (by rfl) [x75, x77, x78] (by rfl) (by rfl) (by rfl) 6 (by rfl) (by decide)) (ov_ovE hM (by rfl) [] [] (by rfl) (by rfl) [] (by rfl) (by rfl) (by rfl) 0 (by rfl) (by decide))) tw_1577 tw_1574 tw_127 tw_1576 tw_83 (ci := 12) rfl (by decide) (kk_74 hL) (kn_74 hL) pd_X12_movesRow (by decide) (by decide) rfl rfl (Nat.le_of_ble_eq_true rfl) rfl dX12_movesAll_48 ?_
      refine g_aload_n hC 0 dX12_movesAll_51 rfl rfl ?_
      refine g_aload_n hC 0 dX12_movesAll_52 rfl rfl ?_
      refine gt_X12_16 hC (a := 74) (kk_74 hL) (kn_74 hL) dX12_movesAll_53 ?_
      refine g_ref (b := 77) rfl ?_
      obtain ⟨x77_5, x74_6, x102_7, q_8, hf⟩ := bd3E hf
      refine g_callV_v (a := 74) hC (X' := ov X0 [74, 75, 76, 77, 78, 102] [x74_6, x75, x76_1, x77_5, x78, x102_7]) (Y' := ov Y0 [] []) (As := [.ref (b0 + 77)]) (gMv_eq (c_X12_movesRow l hL (kk_77 hL) (kn_77 hL) (nd_sub hN [3, 0, 5] (by decide) (by rfl)) (nd_sub hM [] (by decide) (by rfl)) (ov_map hN [3, 0, 5] (by rfl) (by rfl)) (ov_map hM [] (by rfl) (by rfl)) q_8) (ov_ovE hN (by rfl) [3, 0, 5] [1, 2, 4] (by rfl) (by rfl) [x75, x76_1, x78] (by rfl) (by rfl) (by rfl) 6 (by rfl) (by decide)) (ov_ovE hM (by rfl) [] [] (by rfl) (by rfl) [] (by rfl) (by rfl) (by rfl) 0 (by rfl) (by decide))) tw_1577 tw_1574 tw_127 tw_1576 tw_83 (ci := 12) rfl (by decide) (kk_74 hL) (kn_74 hL) pd_X12_movesRow (by decide) (by decide) rfl rfl (Nat.le_of_ble_eq_true rfl) rfl dX12_movesAll_56 ?_
      refine g_aload_n hC 0 dX12_movesAll_59 rfl rfl ?_
      refine g_aload_n hC 0 dX12_movesAll_60 rfl rfl ?_
      refine gt_X12_19 hC (a := 74) (kk_74 hL) (kn_74 hL) dX12_movesAll_61 ?_
      refine g_ref (b := 78) rfl ?_
      obtain ⟨x78_9, x74_10, x102_11, q_12, hf⟩ := bd3E hf
      refine g_callV_v (a := 74) hC (X' := ov X0 [74, 75, 76, 77, 78, 102] [x74_10, x75, x76_1, x77_5, x78_9, x102_11]) (Y' := ov Y0 [] []) (As := [.ref (b0 + 78)]) (gMv_eq (c_X12_movesRow l hL (kk_78 hL) (kn_78 hL) (nd_sub hN [4, 0, 5] (by decide) (by rfl)) (nd_sub hM [] (by decide) (by rfl)) (ov_map hN [4, 0, 5] (by rfl) (by rfl)) (ov_map hM [] (by rfl) (by rfl)) q_12) (ov_ovE hN (by rfl) [4, 0, 5] [1, 2, 3] (by rfl) (by rfl) [x75, x76_1, x77_5] (by rfl) (by rfl) (by rfl) 6 (by rfl) (by decide)) (ov_ovE hM (by rfl) [] [] (by rfl) (by rfl) [] (by rfl) (by rfl) (by rfl) 0 (by rfl) (by decide))) tw_1577 tw_1574 tw_127 tw_1576 tw_83 (ci := 12) rfl (by decide) (kk_74 hL) (kn_74 hL) pd_X12_movesRow (by decide) (by decide) rfl rfl (Nat.le_of_ble_eq_true rfl) rfl dX12_movesAll_64 ?_
      obtain ⟨rfl, rfl, rfl, rfl, rfl, rfl⟩ := sm6E hf
      exact hret _ _ dX12_movesAll_67
    · replace hf := ifF hf hc
      refine g_aload_n hC 0 dX12_movesAll_21 rfl rfl ?_
      refine gt_X12_9 hC (a := 74) (kk_74 hL) (kn_74 hL) dX12_movesAll_22 ?_
      refine g_ref (b := 75) rfl ?_
      refine g_iload_n hC 1 dX12_movesAll_25 rfl rfl ?_
      refine g_aload_n hC 0 dX12_movesAll_26 rfl rfl ?_
      refine g_aload_n hC 0 dX12_movesAll_27 rfl rfl ?_
      refine gt_X12_9 hC (a := 74) (kk_74 hL) (kn_74 hL) dX12_movesAll_28 ?_
      refine g_ref (b := 75) rfl ?_
      refine g_iload_n hC 1 dX12_movesAll_31 rfl rfl ?_
      obtain ⟨h_13, hf⟩ := gdE hf
      refine g_iald hC (x := x75) (kk_75 hL) (kn_75 hL) (ov_get hN 1 rfl rfl) (inb_in h_13) dX12_movesAll_32 ?_
      obtain ⟨r_14, x74_15, x102_16, q_17, hf⟩ := bd3E hf
      refine g_callV_i (a := 74) hC (X' := ov X0 [74, 75, 76, 77, 78, 102] [x74_15, x75, x76, x77, x78, x102_16]) (Y' := ov Y0 [] []) (As := [.int (x75 v3.toNatClampNeg)]) (gMi_eq (c_X12_moves l hL (ov_map hN [0, 5] (by rfl) (by rfl)) (ov_map hM [] (by rfl) (by rfl)) q_17) (ov_ovE hN (by rfl) [0, 5] [1, 2, 3, 4] (by rfl) (by rfl) [x75, x76, x77, x78] (by rfl) (by rfl) (by rfl) 6 (by rfl) (by decide)) (ov_ovE hM (by rfl) [] [] (by rfl) (by rfl) [] (by rfl) (by rfl) (by rfl) 0 (by rfl) (by decide))) tw_1573 tw_1570 tw_127 tw_1572 tw_82 (ci := 12) rfl (by decide) (kk_74 hL) (kn_74 hL) pd_X12_moves (by decide) (by decide) rfl rfl (Nat.le_of_ble_eq_true rfl) rfl dX12_movesAll_33 ?_
      obtain ⟨h_18, hf⟩ := gdE hf
      refine g_iast hC (x := x75) (kk_75 hL) (kn_75 hL) (ov_get hN 1 rfl rfl) (inb_in h_18) (ov_set hN (by rfl) 1 (by rfl)) dX12_movesAll_36 ?_
      show gV l b0 D K (n, κ, ov X0 [74, 75, 76, 77, 78, 102] [x74_15, (upd x75 v3.toNatClampNeg r_14), x76, x77, x78, x102_16], ov Y0 [] [], Z, 0, 0) 37 [(0, .ref (b0 + 74)), (3, .int v3)] []
      obtain ⟨t_19, et_19, hf⟩ := bnE hf
      refine g_iinc hC (i := 3) (v := t_19) [(3, .int t_19), (0, .ref (b0 + 74))] dX12_movesAll_37 (q := 1) rfl ((congrArg (HAdd.hAdd v3) ic_1).trans et_19.symm) (by decide) rfl ?_
      refine g_goto hC 15 dX12_movesAll_40 (by decide) ?_
      exact g_sub [1, 0] rfl (hk15 t_19 x74_15 (upd x75 v3.toNatClampNeg r_14) x76 x77 x78 x102_16 hf)

def fX12_movesAll_0     (v1 : Int32) (v2 : Int32) (x74 : (Nat → Int32)) (x75 : (Nat → Int32)) (x76 : (Nat → Int32)) (x77 : (Nat → Int32)) (x78 : (Nat → Int32)) (x102 : (Nat → Int32)) : Option ((Nat → Int32) × (Nat → Int32) × (Nat → Int32) × (Nat → Int32) × (Nat → Int32) × (Nat → Int32)) := gd (bz v2) (fX12_movesAll_15   5 (upd (upd x74 44 (51 * v1)) 45 v2) x75 x76 x77 x78 x102)
set_option maxHeartbeats 4000000 in
set_option maxRecDepth 100000 in
theorem wX12_movesAll_0 {l : Launch} {b0 : Nat} {D : GD} {K : KT} {n : Nat} {κ : QT} {X0 : XT} {Y0 : YT} {Z : ZT} (hL : LY n κ) (hN : ([74, 75, 76, 77, 78, 102] : List Nat).Nodup) (hM : ([] : List Nat).Nodup) (hC : gC l b0 D K RX12 cX12_movesAll none 4 2 44 0 0) {rx74 : (Nat → Int32)} {rx75 : (Nat → Int32)} {rx76 : (Nat → Int32)} {rx77 : (Nat → Int32)} {rx78 : (Nat → Int32)} {rx102 : (Nat → Int32)} (hret : ∀ pc loc, decode cX12_movesAll pc = .ok (.return_, 1) → gV l b0 D K (n, κ, ov X0 [74, 75, 76, 77, 78, 102] [rx74, rx75, rx76, rx77, rx78, rx102], ov Y0 [] [], Z, 0, 0) pc loc []) {v1 : Int32} {v2 : Int32} {x74 : (Nat → Int32)} {x75 : (Nat → Int32)} {x76 : (Nat → Int32)} {x77 : (Nat → Int32)} {x78 : (Nat → Int32)} {x102 : (Nat → Int32)} (hf : fX12_movesAll_0   v1 v2 x74 x75 x76 x77 x78 x102 = some (rx74, rx75, rx76, rx77, rx78, rx102)) : gV l b0 D K (n, κ, ov X0 [74, 75, 76, 77, 78, 102] [x74, x75, x76, x77, x78, x102], ov Y0 [] [], Z, 0, 0) 0 [(0, .ref (b0 + 74)), (1, .int v1), (2, .int v2)] [] := by
  unfold fX12_movesAll_0 at hf
  refine g_aload_n hC 0 dX12_movesAll_0 rfl rfl ?_
  refine g_bipush hC (v := 51) dX12_movesAll_1 bp_51 ?_
  refine g_iload_n hC 1 dX12_movesAll_3 rfl rfl ?_
  refine g_imul hC dX12_movesAll_4 ?_
  refine pt_X12_418 hC (x := x74) (kk_74 hL) (kn_74 hL) (ov_get hN 0 rfl rfl) (ov_set hN (by rfl) 0 (by rfl)) dX12_movesAll_5 ?_
  show gV l b0 D K (n, κ, ov X0 [74, 75, 76, 77, 78, 102] [(upd x74 44 (51 * v1)), x75, x76, x77, x78, x102], ov Y0 [] [], Z, 0, 0) 8 [(0, .ref (b0 + 74)), (1, .int v1), (2, .int v2)] []
  refine g_aload_n hC 0 dX12_movesAll_8 rfl rfl ?_
  refine g_iload_n hC 2 dX12_movesAll_9 rfl rfl ?_
  obtain ⟨h_1, hf⟩ := gdE hf
  refine pt_X12_415 hC (x := (upd x74 44 (51 * v1))) h_1 (kk_74 hL) (kn_74 hL) (ov_get hN 0 rfl rfl) (ov_set hN (by rfl) 0 (by rfl)) dX12_movesAll_10 ?_
  show gV l b0 D K (n, κ, ov X0 [74, 75, 76, 77, 78, 102] [(upd (upd x74 44 (51 * v1)) 45 v2), x75, x76, x77, x78, x102], ov Y0 [] [], Z, 0, 0) 13 [(0, .ref (b0 + 74)), (1, .int v1), (2, .int v2)] []
  refine g_iconst hC (v := 5) dX12_movesAll_13 ic_5 ?_
  refine g_istore_n hC (i := 3) [(3, .int 5), (0, .ref (b0 + 74)), (1, .int v1), (2, .int v2)] rfl dX12_movesAll_14 (by decide) rfl ?_
  exact g_sub [1, 0] rfl (wX12_movesAll_15 hL hN hM hC  hret  5000 5 (upd (upd x74 44 (51 * v1)) 45 v2) x75 x76 x77 x78 x102 hf)

def fX12_movesAll     (v1 : Int32) (v2 : Int32) (x74 : Nat → Int32) (x75 : Nat → Int32) (x76 : Nat → Int32) (x77 : Nat → Int32) (x78 : Nat → Int32) (x102 : Nat → Int32)  : Option ((Nat → Int32) × (Nat → Int32) × (Nat → Int32) × (Nat → Int32) × (Nat → Int32) × (Nat → Int32)) := fX12_movesAll_0  v1 v2 x74 x75 x76 x77 x78 x102

set_option maxHeartbeats 4000000 in
set_option maxRecDepth 100000 in
theorem c_X12_movesAll (l : Launch) {b0 : Nat} {D : GD} {n : Nat} {κ : QT} {X0 : XT} {Y0 : YT} {Z : ZT} (hL : LY n κ) {x74 : Nat → Int32} {x75 : Nat → Int32} {x76 : Nat → Int32} {x77 : Nat → Int32} {x78 : Nat → Int32} {x102 : Nat → Int32} (hx : ([74, 75, 76, 77, 78, 102] : List Nat).map X0 = [x74, x75, x76, x77, x78, x102]) (hy : ([] : List Nat).map Y0 = []) {v1 : Int32} {v2 : Int32} {rx74 : (Nat → Int32)} {rx75 : (Nat → Int32)} {rx76 : (Nat → Int32)} {rx77 : (Nat → Int32)} {rx78 : (Nat → Int32)} {rx102 : (Nat → Int32)} (hf : fX12_movesAll  v1 v2 x74 x75 x76 x77 x78 x102 = some (rx74, rx75, rx76, rx77, rx78, rx102)) : gMv l yX12_movesAll cX12_movesAll 4 none 2 44 0 0 b0 D [.ref (b0 + 74), .int v1, .int v2] (n, κ, X0, Y0, Z) (n, κ, ov X0 [74, 75, 76, 77, 78, 102] [rx74, rx75, rx76, rx77, rx78, rx102], ov Y0 [] [], Z) := by
  have hN : ([74, 75, 76, 77, 78, 102] : List Nat).Nodup := by decide
  have hM : ([] : List Nat).Nodup := by decide
  refine g_metv (own := RX12) (by decide) rfl rfl (Nat.le_of_ble_eq_true rfl) ?_
  intro K hC hret
  have e := wX12_movesAll_0 hL hN hM hC  hret hf
  rw [ov_id' hx, ov_id' hy] at e
  exact g_sub [0, 1, 2] rfl e

-- X12_keepsAct
def fX12_keepsAct_50     (x74 : (Nat → Int32)) (x75 : (Nat → Int32)) (x76 : (Nat → Int32)) (x77 : (Nat → Int32)) (x78 : (Nat → Int32)) (x102 : (Nat → Int32)) : Option ((Nat → Int32) × (Nat → Int32) × (Nat → Int32) × (Nat → Int32) × (Nat → Int32) × (Nat → Int32)) := bd6 (fX12_movesAll (x74 43) 0 x74 x75 x76 x77 x78 x102) fun x74_1 x75_2 x76_3 x77_4 x78_5 x102_6 => (some ((upd x74_1 43 ((x74_1 43) + 1)), x75_2, x76_3, x77_4, x78_5, x102_6))
set_option maxHeartbeats 4000000 in
set_option maxRecDepth 100000 in
theorem wX12_keepsAct_50 {l : Launch} {b0 : Nat} {D : GD} {K : KT} {n : Nat} {κ : QT} {X0 : XT} {Y0 : YT} {Z : ZT} (hL : LY n κ) (hN : ([74, 75, 76, 77, 78, 102] : List Nat).Nodup) (hM : ([] : List Nat).Nodup) (hC : gC l b0 D K RX12 cX12_keepsAct none 2 3 67 0 0) {rx74 : (Nat → Int32)} {rx75 : (Nat → Int32)} {rx76 : (Nat → Int32)} {rx77 : (Nat → Int32)} {rx78 : (Nat → Int32)} {rx102 : (Nat → Int32)} (hret : ∀ pc loc, decode cX12_keepsAct pc = .ok (.return_, 1) → gV l b0 D K (n, κ, ov X0 [74, 75, 76, 77, 78, 102] [rx74, rx75, rx76, rx77, rx78, rx102], ov Y0 [] [], Z, 0, 0) pc loc []) {x74 : (Nat → Int32)} {x75 : (Nat → Int32)} {x76 : (Nat → Int32)} {x77 : (Nat → Int32)} {x78 : (Nat → Int32)} {x102 : (Nat → Int32)} (hf : fX12_keepsAct_50   x74 x75 x76 x77 x78 x102 = some (rx74, rx75, rx76, rx77, rx78, rx102)) : gV l b0 D K (n, κ, ov X0 [74, 75, 76, 77, 78, 102] [x74, x75, x76, x77, x78, x102], ov Y0 [] [], Z, 0, 0) 50 [(0, .ref (b0 + 74))] [] := by
  unfold fX12_keepsAct_50 at hf
  refine g_aload_n hC 0 dX12_keepsAct_50 rfl rfl ?_
  refine g_aload_n hC 0 dX12_keepsAct_51 rfl rfl ?_
  refine gt_X12_320 hC (x := x74) (kk_74 hL) (kn_74 hL) (ov_get hN 0 rfl rfl) dX12_keepsAct_52 ?_
  refine g_iconst hC (v := 0) dX12_keepsAct_55 ic_0 ?_
  obtain ⟨x74_1, x75_2, x76_3, x77_4, x78_5, x102_6, q_7, hf⟩ := bd6E hf
  refine g_callV_v (a := 74) hC (X' := ov X0 [74, 75, 76, 77, 78, 102] [x74_1, x75_2, x76_3, x77_4, x78_5, x102_6]) (Y' := ov Y0 [] []) (As := [.int (x74 43), .int 0]) (gMv_eq (c_X12_movesAll l hL (ov_map hN [0, 1, 2, 3, 4, 5] (by rfl) (by rfl)) (ov_map hM [] (by rfl) (by rfl)) q_7) (ov_ovE hN (by rfl) [0, 1, 2, 3, 4, 5] [] (by rfl) (by rfl) [] (by rfl) (by rfl) (by rfl) 6 (by rfl) (by decide)) (ov_ovE hM (by rfl) [] [] (by rfl) (by rfl) [] (by rfl) (by rfl) (by rfl) 0 (by rfl) (by decide))) tw_1569 tw_1566 tw_127 tw_1568 tw_81 (ci := 12) rfl (by decide) (kk_74 hL) (kn_74 hL) pd_X12_movesAll (by decide) (by decide) rfl rfl (Nat.le_of_ble_eq_true rfl) rfl dX12_keepsAct_56 ?_
  refine g_aload_n hC 0 dX12_keepsAct_59 rfl rfl ?_
  refine g_dup hC dX12_keepsAct_60 rfl ?_
  refine gt_X12_320 hC (x := x74_1) (kk_74 hL) (kn_74 hL) (ov_get hN 0 rfl rfl) dX12_keepsAct_61 ?_
  refine g_iconst hC (v := 1) dX12_keepsAct_64 ic_1 ?_
  refine g_iadd hC dX12_keepsAct_65 ?_
  refine pt_X12_320 hC (x := x74_1) (kk_74 hL) (kn_74 hL) (ov_get hN 0 rfl rfl) (ov_set hN (by rfl) 0 (by rfl)) dX12_keepsAct_66 ?_
  show gV l b0 D K (n, κ, ov X0 [74, 75, 76, 77, 78, 102] [(upd x74_1 43 ((x74_1 43) + 1)), x75_2, x76_3, x77_4, x78_5, x102_6], ov Y0 [] [], Z, 0, 0) 69 [(0, .ref (b0 + 74))] []
  obtain ⟨rfl, rfl, rfl, rfl, rfl, rfl⟩ := sm6E hf
  exact hret _ _ dX12_keepsAct_69

def fX12_keepsAct_12b     (k12 : Int32 → (Nat → Int32) → (Nat → Int32) → (Nat → Int32) → (Nat → Int32) → (Nat → Int32) → (Nat → Int32) → Option ((Nat → Int32) × (Nat → Int32) × (Nat → Int32) × (Nat → Int32) × (Nat → Int32) × (Nat → Int32))) (v1 : Int32) (x74 : (Nat → Int32)) (x75 : (Nat → Int32)) (x76 : (Nat → Int32)) (x77 : (Nat → Int32)) (x78 : (Nat → Int32)) (x102 : (Nat → Int32)) : Option ((Nat → Int32) × (Nat → Int32) × (Nat → Int32) × (Nat → Int32) × (Nat → Int32) × (Nat → Int32)) := if 1020 ≤ v1 then (fX12_keepsAct_50   (upd x74 43 ((x74 43) - 1)) x75 x76 x77 x78 x102) else (gd (inb v1 1020) (gd (inb (v1 - 51) 1020) (bn (v1 + 1) fun t_3 => (k12 t_3 x74 x75 x76 x77 x78 (upd x102 (v1 - 51).toNatClampNeg (x102 v1.toNatClampNeg))))))
def fX12_keepsAct_12     : Int32 → (Nat → Int32) → (Nat → Int32) → (Nat → Int32) → (Nat → Int32) → (Nat → Int32) → (Nat → Int32) → Option ((Nat → Int32) × (Nat → Int32) × (Nat → Int32) × (Nat → Int32) × (Nat → Int32) × (Nat → Int32)) := lq7 (fX12_keepsAct_12b  ) 5000
set_option maxHeartbeats 4000000 in
set_option maxRecDepth 100000 in
theorem wX12_keepsAct_12 {l : Launch} {b0 : Nat} {D : GD} {K : KT} {n : Nat} {κ : QT} {X0 : XT} {Y0 : YT} {Z : ZT} (hL : LY n κ) (hN : ([74, 75, 76, 77, 78, 102] : List Nat).Nodup) (hM : ([] : List Nat).Nodup) (hC : gC l b0 D K RX12 cX12_keepsAct none 2 3 67 0 0) {rx74 : (Nat → Int32)} {rx75 : (Nat → Int32)} {rx76 : (Nat → Int32)} {rx77 : (Nat → Int32)} {rx78 : (Nat → Int32)} {rx102 : (Nat → Int32)} (hret : ∀ pc loc, decode cX12_keepsAct pc = .ok (.return_, 1) → gV l b0 D K (n, κ, ov X0 [74, 75, 76, 77, 78, 102] [rx74, rx75, rx76, rx77, rx78, rx102], ov Y0 [] [], Z, 0, 0) pc loc []) : ∀ (j : Nat) (v1 : Int32) (x74 : (Nat → Int32)) (x75 : (Nat → Int32)) (x76 : (Nat → Int32)) (x77 : (Nat → Int32)) (x78 : (Nat → Int32)) (x102 : (Nat → Int32)), lq7 (fX12_keepsAct_12b  ) j v1 x74 x75 x76 x77 x78 x102 = some (rx74, rx75, rx76, rx77, rx78, rx102) → gV l b0 D K (n, κ, ov X0 [74, 75, 76, 77, 78, 102] [x74, x75, x76, x77, x78, x102], ov Y0 [] [], Z, 0, 0) 12 [(0, .ref (b0 + 74)), (1, .int v1)] [] := by
  intro j
  induction j with
  | zero => intro v1 x74 x75 x76 x77 x78 x102 hf; cases hf
  | succ j hk12 =>
    intro v1 x74 x75 x76 x77 x78 x102 hf
    replace hf : fX12_keepsAct_12b   (lq7 (fX12_keepsAct_12b  ) j) v1 x74 x75 x76 x77 x78 x102 = some (rx74, rx75, rx76, rx77, rx78, rx102) := hf
    unfold fX12_keepsAct_12b at hf
    refine g_iload_n hC 1 dX12_keepsAct_12 rfl rfl ?_
    refine g_sipush hC (v := 1020) dX12_keepsAct_13 sp_1020 ?_
    refine g_icmp_ge hC 40 dX12_keepsAct_16 (by decide) (fun hc => ?_) (fun hc => ?_)
    · replace hf := ifT hf hc
      refine g_aload_n hC 0 dX12_keepsAct_40 rfl rfl ?_
      refine g_dup hC dX12_keepsAct_41 rfl ?_
      refine gt_X12_320 hC (x := x74) (kk_74 hL) (kn_74 hL) (ov_get hN 0 rfl rfl) dX12_keepsAct_42 ?_
      refine g_iconst hC (v := 1) dX12_keepsAct_45 ic_1 ?_
      refine g_isub hC dX12_keepsAct_46 ?_
      refine pt_X12_320 hC (x := x74) (kk_74 hL) (kn_74 hL) (ov_get hN 0 rfl rfl) (ov_set hN (by rfl) 0 (by rfl)) dX12_keepsAct_47 ?_
      show gV l b0 D K (n, κ, ov X0 [74, 75, 76, 77, 78, 102] [(upd x74 43 ((x74 43) - 1)), x75, x76, x77, x78, x102], ov Y0 [] [], Z, 0, 0) 50 [(0, .ref (b0 + 74)), (1, .int v1)] []
      exact g_sub [0] rfl (wX12_keepsAct_50 hL hN hM hC  hret  hf)
    · replace hf := ifF hf hc
      refine g_aload_n hC 0 dX12_keepsAct_19 rfl rfl ?_
      refine gt_X12_103 hC (a := 74) (kk_74 hL) (kn_74 hL) dX12_keepsAct_20 ?_
      refine g_ref (b := 102) rfl ?_
      refine g_iload_n hC 1 dX12_keepsAct_23 rfl rfl ?_
      refine g_bipush hC (v := 51) dX12_keepsAct_24 bp_51 ?_
      refine g_isub hC dX12_keepsAct_26 ?_
      refine g_aload_n hC 0 dX12_keepsAct_27 rfl rfl ?_
      refine gt_X12_103 hC (a := 74) (kk_74 hL) (kn_74 hL) dX12_keepsAct_28 ?_
      refine g_ref (b := 102) rfl ?_
      refine g_iload_n hC 1 dX12_keepsAct_31 rfl rfl ?_
      obtain ⟨h_1, hf⟩ := gdE hf
      refine g_iald hC (x := x102) (kk_102 hL) (kn_102 hL) (ov_get hN 5 rfl rfl) (inb_in h_1) dX12_keepsAct_32 ?_
      obtain ⟨h_2, hf⟩ := gdE hf
      refine g_iast hC (x := x102) (kk_102 hL) (kn_102 hL) (ov_get hN 5 rfl rfl) (inb_in h_2) (ov_set hN (by rfl) 5 (by rfl)) dX12_keepsAct_33 ?_
      show gV l b0 D K (n, κ, ov X0 [74, 75, 76, 77, 78, 102] [x74, x75, x76, x77, x78, (upd x102 (v1 - 51).toNatClampNeg (x102 v1.toNatClampNeg))], ov Y0 [] [], Z, 0, 0) 34 [(0, .ref (b0 + 74)), (1, .int v1)] []
      obtain ⟨t_3, et_3, hf⟩ := bnE hf
      refine g_iinc hC (i := 1) (v := t_3) [(1, .int t_3), (0, .ref (b0 + 74))] dX12_keepsAct_34 (q := 1) rfl ((congrArg (HAdd.hAdd v1) ic_1).trans et_3.symm) (by decide) rfl ?_
      refine g_goto hC 12 dX12_keepsAct_37 (by decide) ?_
      exact g_sub [1, 0] rfl (hk12 t_3 x74 x75 x76 x77 x78 (upd x102 (v1 - 51).toNatClampNeg (x102 v1.toNatClampNeg)) hf)

def fX12_keepsAct_0     (x74 : (Nat → Int32)) (x75 : (Nat → Int32)) (x76 : (Nat → Int32)) (x77 : (Nat → Int32)) (x78 : (Nat → Int32)) (x102 : (Nat → Int32)) : Option ((Nat → Int32) × (Nat → Int32) × (Nat → Int32) × (Nat → Int32) × (Nat → Int32) × (Nat → Int32)) := if (x74 43) = 20 then (fX12_keepsAct_12   51 x74 x75 x76 x77 x78 x102) else (fX12_keepsAct_50   x74 x75 x76 x77 x78 x102)
set_option maxHeartbeats 4000000 in
set_option maxRecDepth 100000 in
theorem wX12_keepsAct_0 {l : Launch} {b0 : Nat} {D : GD} {K : KT} {n : Nat} {κ : QT} {X0 : XT} {Y0 : YT} {Z : ZT} (hL : LY n κ) (hN : ([74, 75, 76, 77, 78, 102] : List Nat).Nodup) (hM : ([] : List Nat).Nodup) (hC : gC l b0 D K RX12 cX12_keepsAct none 2 3 67 0 0) {rx74 : (Nat → Int32)} {rx75 : (Nat → Int32)} {rx76 : (Nat → Int32)} {rx77 : (Nat → Int32)} {rx78 : (Nat → Int32)} {rx102 : (Nat → Int32)} (hret : ∀ pc loc, decode cX12_keepsAct pc = .ok (.return_, 1) → gV l b0 D K (n, κ, ov X0 [74, 75, 76, 77, 78, 102] [rx74, rx75, rx76, rx77, rx78, rx102], ov Y0 [] [], Z, 0, 0) pc loc []) {x74 : (Nat → Int32)} {x75 : (Nat → Int32)} {x76 : (Nat → Int32)} {x77 : (Nat → Int32)} {x78 : (Nat → Int32)} {x102 : (Nat → Int32)} (hf : fX12_keepsAct_0   x74 x75 x76 x77 x78 x102 = some (rx74, rx75, rx76, rx77, rx78, rx102)) : gV l b0 D K (n, κ, ov X0 [74, 75, 76, 77, 78, 102] [x74, x75, x76, x77, x78, x102], ov Y0 [] [], Z, 0, 0) 0 [(0, .ref (b0 + 74))] [] := by
  unfold fX12_keepsAct_0 at hf
  refine g_aload_n hC 0 dX12_keepsAct_0 rfl rfl ?_
  refine gt_X12_320 hC (x := x74) (kk_74 hL) (kn_74 hL) (ov_get hN 0 rfl rfl) dX12_keepsAct_1 ?_
  refine g_bipush hC (v := 20) dX12_keepsAct_4 bp_20 ?_
  refine g_icmp_ne hC 50 dX12_keepsAct_6 (by decide) (fun hc => ?_) (fun hc => ?_)
  · replace hf := ifF hf hc
    exact g_sub [0] rfl (wX12_keepsAct_50 hL hN hM hC  hret  hf)
  · replace hf := ifT hf hc
    refine g_bipush hC (v := 51) dX12_keepsAct_9 bp_51 ?_
    refine g_istore_n hC (i := 1) [(1, .int 51), (0, .ref (b0 + 74))] rfl dX12_keepsAct_11 (by decide) rfl ?_
    exact g_sub [1, 0] rfl (wX12_keepsAct_12 hL hN hM hC  hret  5000 51 x74 x75 x76 x77 x78 x102 hf)

def fX12_keepsAct      (x74 : Nat → Int32) (x75 : Nat → Int32) (x76 : Nat → Int32) (x77 : Nat → Int32) (x78 : Nat → Int32) (x102 : Nat → Int32)  : Option ((Nat → Int32) × (Nat → Int32) × (Nat → Int32) × (Nat → Int32) × (Nat → Int32) × (Nat → Int32)) := fX12_keepsAct_0  x74 x75 x76 x77 x78 x102

set_option maxHeartbeats 4000000 in
set_option maxRecDepth 100000 in
theorem c_X12_keepsAct (l : Launch) {b0 : Nat} {D : GD} {n : Nat} {κ : QT} {X0 : XT} {Y0 : YT} {Z : ZT} (hL : LY n κ) {x74 : Nat → Int32} {x75 : Nat → Int32} {x76 : Nat → Int32} {x77 : Nat → Int32} {x78 : Nat → Int32} {x102 : Nat → Int32} (hx : ([74, 75, 76, 77, 78, 102] : List Nat).map X0 = [x74, x75, x76, x77, x78, x102]) (hy : ([] : List Nat).map Y0 = []) {rx74 : (Nat → Int32)} {rx75 : (Nat → Int32)} {rx76 : (Nat → Int32)} {rx77 : (Nat → Int32)} {rx78 : (Nat → Int32)} {rx102 : (Nat → Int32)} (hf : fX12_keepsAct  x74 x75 x76 x77 x78 x102 = some (rx74, rx75, rx76, rx77, rx78, rx102)) : gMv l yX12_keepsAct cX12_keepsAct 2 none 3 67 0 0 b0 D [.ref (b0 + 74)] (n, κ, X0, Y0, Z) (n, κ, ov X0 [74, 75, 76, 77, 78, 102] [rx74, rx75, rx76, rx77, rx78, rx102], ov Y0 [] [], Z) := by
  have hN : ([74, 75, 76, 77, 78, 102] : List Nat).Nodup := by decide
  have hM : ([] : List Nat).Nodup := by decide
  refine g_metv (own := RX12) (by decide) rfl rfl (Nat.le_of_ble_eq_true rfl) ?_
  intro K hC hret
  have e := wX12_keepsAct_0 hL hN hM hC  hret hf
  rw [ov_id' hx, ov_id' hy] at e
  exact g_sub [0] rfl e

-- X12_undo
def fX12_undo_0     (x74 : (Nat → Int32)) (x75 : (Nat → Int32)) (x76 : (Nat → Int32)) (x77 : (Nat → Int32)) (x78 : (Nat → Int32)) (x102 : (Nat → Int32)) : Option (Int32 × (Nat → Int32) × (Nat → Int32) × (Nat → Int32) × (Nat → Int32) × (Nat → Int32) × (Nat → Int32)) := if (x74 43) = 0 then (some ((-2), x74, x75, x76, x77, x78, x102)) else (bd6 (fX12_movesAll ((upd x74 43 ((x74 43) - 1)) 43) 1 (upd x74 43 ((x74 43) - 1)) x75 x76 x77 x78 x102) fun x74_1 x75_2 x76_3 x77_4 x78_5 x102_6 => (some (x74_1 43, x74_1, x75_2, x76_3, x77_4, x78_5, x102_6)))
set_option maxHeartbeats 4000000 in
set_option maxRecDepth 100000 in
theorem wX12_undo_0 {l : Launch} {b0 : Nat} {D : GD} {K : KT} {n : Nat} {κ : QT} {X0 : XT} {Y0 : YT} {Z : ZT} (hL : LY n κ) (hN : ([74, 75, 76, 77, 78, 102] : List Nat).Nodup) (hM : ([] : List Nat).Nodup) (hC : gC l b0 D K RX12 cX12_undo (some FieldType.int) 1 3 67 0 0) {r : Int32} {rx74 : (Nat → Int32)} {rx75 : (Nat → Int32)} {rx76 : (Nat → Int32)} {rx77 : (Nat → Int32)} {rx78 : (Nat → Int32)} {rx102 : (Nat → Int32)} (hret : ∀ pc loc, narrow .int (.int r) = .int r → decode cX12_undo pc = .ok (.ireturn, 1) → gV l b0 D K (n, κ, ov X0 [74, 75, 76, 77, 78, 102] [rx74, rx75, rx76, rx77, rx78, rx102], ov Y0 [] [], Z, 0, 0) pc loc [.int r]) {x74 : (Nat → Int32)} {x75 : (Nat → Int32)} {x76 : (Nat → Int32)} {x77 : (Nat → Int32)} {x78 : (Nat → Int32)} {x102 : (Nat → Int32)} (hf : fX12_undo_0   x74 x75 x76 x77 x78 x102 = some (r, rx74, rx75, rx76, rx77, rx78, rx102)) : gV l b0 D K (n, κ, ov X0 [74, 75, 76, 77, 78, 102] [x74, x75, x76, x77, x78, x102], ov Y0 [] [], Z, 0, 0) 0 [(0, .ref (b0 + 74))] [] := by
  unfold fX12_undo_0 at hf
  refine g_aload_n hC 0 dX12_undo_0 rfl rfl ?_
  refine gt_X12_320 hC (x := x74) (kk_74 hL) (kn_74 hL) (ov_get hN 0 rfl rfl) dX12_undo_1 ?_
  refine g_if_ne hC 10 dX12_undo_4 (by decide) (fun hc => ?_) (fun hc => ?_)
  · replace hf := ifF hf hc
    refine g_aload_n hC 0 dX12_undo_10 rfl rfl ?_
    refine g_dup hC dX12_undo_11 rfl ?_
    refine gt_X12_320 hC (x := x74) (kk_74 hL) (kn_74 hL) (ov_get hN 0 rfl rfl) dX12_undo_12 ?_
    refine g_iconst hC (v := 1) dX12_undo_15 ic_1 ?_
    refine g_isub hC dX12_undo_16 ?_
    refine pt_X12_320 hC (x := x74) (kk_74 hL) (kn_74 hL) (ov_get hN 0 rfl rfl) (ov_set hN (by rfl) 0 (by rfl)) dX12_undo_17 ?_
    show gV l b0 D K (n, κ, ov X0 [74, 75, 76, 77, 78, 102] [(upd x74 43 ((x74 43) - 1)), x75, x76, x77, x78, x102], ov Y0 [] [], Z, 0, 0) 20 [(0, .ref (b0 + 74))] []
    refine g_aload_n hC 0 dX12_undo_20 rfl rfl ?_
    refine g_aload_n hC 0 dX12_undo_21 rfl rfl ?_
    refine gt_X12_320 hC (x := (upd x74 43 ((x74 43) - 1))) (kk_74 hL) (kn_74 hL) (ov_get hN 0 rfl rfl) dX12_undo_22 ?_
    refine g_iconst hC (v := 1) dX12_undo_25 ic_1 ?_
    obtain ⟨x74_1, x75_2, x76_3, x77_4, x78_5, x102_6, q_7, hf⟩ := bd6E hf
    refine g_callV_v (a := 74) hC (X' := ov X0 [74, 75, 76, 77, 78, 102] [x74_1, x75_2, x76_3, x77_4, x78_5, x102_6]) (Y' := ov Y0 [] []) (As := [.int ((upd x74 43 ((x74 43) - 1)) 43), .int 1]) (gMv_eq (c_X12_movesAll l hL (ov_map hN [0, 1, 2, 3, 4, 5] (by rfl) (by rfl)) (ov_map hM [] (by rfl) (by rfl)) q_7) (ov_ovE hN (by rfl) [0, 1, 2, 3, 4, 5] [] (by rfl) (by rfl) [] (by rfl) (by rfl) (by rfl) 6 (by rfl) (by decide)) (ov_ovE hM (by rfl) [] [] (by rfl) (by rfl) [] (by rfl) (by rfl) (by rfl) 0 (by rfl) (by decide))) tw_1569 tw_1566 tw_127 tw_1568 tw_81 (ci := 12) rfl (by decide) (kk_74 hL) (kn_74 hL) pd_X12_movesAll (by decide) (by decide) rfl rfl (Nat.le_of_ble_eq_true rfl) rfl dX12_undo_26 ?_
    refine g_aload_n hC 0 dX12_undo_29 rfl rfl ?_
    refine gt_X12_320 hC (x := x74_1) (kk_74 hL) (kn_74 hL) (ov_get hN 0 rfl rfl) dX12_undo_30 ?_
    obtain ⟨rfl, rfl, rfl, rfl, rfl, rfl, rfl⟩ := sm7E hf
    exact hret _ _ rfl dX12_undo_33
  · replace hf := ifT hf hc
    refine g_bipush hC (v := (-2)) dX12_undo_7 bp_m2 ?_
    obtain ⟨rfl, rfl, rfl, rfl, rfl, rfl, rfl⟩ := sm7E hf
    exact hret _ _ rfl dX12_undo_9

def fX12_undo      (x74 : Nat → Int32) (x75 : Nat → Int32) (x76 : Nat → Int32) (x77 : Nat → Int32) (x78 : Nat → Int32) (x102 : Nat → Int32)  : Option (Int32 × (Nat → Int32) × (Nat → Int32) × (Nat → Int32) × (Nat → Int32) × (Nat → Int32) × (Nat → Int32)) := fX12_undo_0  x74 x75 x76 x77 x78 x102

set_option maxHeartbeats 4000000 in
set_option maxRecDepth 100000 in
theorem c_X12_undo (l : Launch) {b0 : Nat} {D : GD} {n : Nat} {κ : QT} {X0 : XT} {Y0 : YT} {Z : ZT} (hL : LY n κ) {x74 : Nat → Int32} {x75 : Nat → Int32} {x76 : Nat → Int32} {x77 : Nat → Int32} {x78 : Nat → Int32} {x102 : Nat → Int32} (hx : ([74, 75, 76, 77, 78, 102] : List Nat).map X0 = [x74, x75, x76, x77, x78, x102]) (hy : ([] : List Nat).map Y0 = []) {r : Int32} {rx74 : (Nat → Int32)} {rx75 : (Nat → Int32)} {rx76 : (Nat → Int32)} {rx77 : (Nat → Int32)} {rx78 : (Nat → Int32)} {rx102 : (Nat → Int32)} (hf : fX12_undo  x74 x75 x76 x77 x78 x102 = some (r, rx74, rx75, rx76, rx77, rx78, rx102)) : gMi l yX12_undo cX12_undo 1 (some FieldType.int) 3 67 0 0 b0 D [.ref (b0 + 74)] (n, κ, X0, Y0, Z) (n, κ, ov X0 [74, 75, 76, 77, 78, 102] [rx74, rx75, rx76, rx77, rx78, rx102], ov Y0 [] [], Z) r := by
  have hN : ([74, 75, 76, 77, 78, 102] : List Nat).Nodup := by decide
  have hM : ([] : List Nat).Nodup := by decide
  refine g_meti (own := RX12) (by decide) rfl rfl (Nat.le_of_ble_eq_true rfl) ?_
  intro K hC hret
  have e := wX12_undo_0 hL hN hM hC  hret hf
  rw [ov_id' hx, ov_id' hy] at e
  exact g_sub [0] rfl e

-- X12_day
def fX12_day_0   (x79 : Nat → Int32) (x92 : Nat → Int32) (x93 : Nat → Int32) (x94 : Nat → Int32) (x95 : Nat → Int32) (x96 : Nat → Int32) (x97 : Nat → Int32)  (x74 : (Nat → Int32)) (x75 : (Nat → Int32)) (x76 : (Nat → Int32)) (x77 : (Nat → Int32)) (x78 : (Nat → Int32)) (x101 : (Nat → Int32)) (x102 : (Nat → Int32)) (y99 : (Nat → Int64)) (y100 : (Nat → Int64)) : Option (Int32 × (Nat → Int32) × (Nat → Int32) × (Nat → Int32) × (Nat → Int32) × (Nat → Int32) × (Nat → Int32) × (Nat → Int32) × (Nat → Int64) × (Nat → Int64)) := bd1 (fX12_isTown x75) fun r_1 => (if r_1 = 0 then (some ((-1), x74, x75, x76, x77, x78, x101, x102, y99, y100)) else (gd (inb 5 11) (if (x75 (5 : Int32).toNatClampNeg) = 999 then (some ((-1), x74, x75, x76, x77, x78, x101, x102, y99, y100)) else (bd6 (fX12_keepsAct x74 x75 x76 x77 x78 x102) fun x74_4 x75_5 x76_6 x77_7 x78_8 x102_9 => (bd9 (fX12_goes x79 x92 x93 x94 x95 x96 x97 x74_4 x75_5 x76_6 x77_7 x78_8 x101 y99 y100) fun r_11 x74_12 x75_13 x76_14 x77_15 x78_16 x101_17 y99_18 y100_19 => (some (r_11, x74_12, x75_13, x76_14, x77_15, x78_16, x101_17, x102_9, y99_18, y100_19)))))))
set_option maxHeartbeats 4000000 in
set_option maxRecDepth 100000 in
theorem wX12_day_0 {l : Launch} {b0 : Nat} {D : GD} {K : KT} {n : Nat} {κ : QT} {X0 : XT} {Y0 : YT} {Z : ZT} (hL : LY n κ) (hN : ([74, 75, 76, 77, 78, 79, 92, 93, 94, 95, 96, 97, 101, 102] : List Nat).Nodup) (hM : ([99, 100] : List Nat).Nodup) (hC : gC l b0 D K RX12 cX12_day (some FieldType.int) 1 7 166 0 0) {x79 : Nat → Int32} {x92 : Nat → Int32} {x93 : Nat → Int32} {x94 : Nat → Int32} {x95 : Nat → Int32} {x96 : Nat → Int32} {x97 : Nat → Int32} {r : Int32} {rx74 : (Nat → Int32)} {rx75 : (Nat → Int32)} {rx76 : (Nat → Int32)} {rx77 : (Nat → Int32)} {rx78 : (Nat → Int32)} {rx101 : (Nat → Int32)} {rx102 : (Nat → Int32)} {ry99 : (Nat → Int64)} {ry100 : (Nat → Int64)} (hret : ∀ pc loc, narrow .int (.int r) = .int r → decode cX12_day pc = .ok (.ireturn, 1) → gV l b0 D K (n, κ, ov X0 [74, 75, 76, 77, 78, 79, 92, 93, 94, 95, 96, 97, 101, 102] [rx74, rx75, rx76, rx77, rx78, x79, x92, x93, x94, x95, x96, x97, rx101, rx102], ov Y0 [99, 100] [ry99, ry100], Z, 0, 0) pc loc [.int r]) {x74 : (Nat → Int32)} {x75 : (Nat → Int32)} {x76 : (Nat → Int32)} {x77 : (Nat → Int32)} {x78 : (Nat → Int32)} {x101 : (Nat → Int32)} {x102 : (Nat → Int32)} {y99 : (Nat → Int64)} {y100 : (Nat → Int64)} (hf : fX12_day_0 x79 x92 x93 x94 x95 x96 x97  x74 x75 x76 x77 x78 x101 x102 y99 y100 = some (r, rx74, rx75, rx76, rx77, rx78, rx101, rx102, ry99, ry100)) : gV l b0 D K (n, κ, ov X0 [74, 75, 76, 77, 78, 79, 92, 93, 94, 95, 96, 97, 101, 102] [x74, x75, x76, x77, x78, x79, x92, x93, x94, x95, x96, x97, x101, x102], ov Y0 [99, 100] [y99, y100], Z, 0, 0) 0 [(0, .ref (b0 + 74))] [] := by
  unfold fX12_day_0 at hf
  refine g_aload_n hC 0 dX12_day_0 rfl rfl ?_
  obtain ⟨r_1, q_2, hf⟩ := bd1E hf
  refine g_callV_i (a := 74) hC (X' := ov X0 [74, 75, 76, 77, 78, 79, 92, 93, 94, 95, 96, 97, 101, 102] [x74, x75, x76, x77, x78, x79, x92, x93, x94, x95, x96, x97, x101, x102]) (Y' := ov Y0 [99, 100] [y99, y100]) (As := []) (gMi_eq (c_X12_isTown l hL (ov_map hN [1] (by rfl) (by rfl)) (ov_map hM [] (by rfl) (by rfl)) q_2) (ov_ovE hN (by rfl) [1] [0, 2, 3, 4, 5, 6, 7, 8, 9, 10, 11, 12, 13] (by rfl) (by rfl) [x74, x76, x77, x78, x79, x92, x93, x94, x95, x96, x97, x101, x102] (by rfl) (by rfl) (by rfl) 14 (by rfl) (by decide)) (ov_ovE hM (by rfl) [] [0, 1] (by rfl) (by rfl) [y99, y100] (by rfl) (by rfl) (by rfl) 2 (by rfl) (by decide))) tw_1585 tw_1582 tw_127 tw_1584 tw_84 (ci := 12) rfl (by decide) (kk_74 hL) (kn_74 hL) pd_X12_isTown (by decide) (by decide) rfl rfl (Nat.le_of_ble_eq_true rfl) rfl dX12_day_1 ?_
  refine g_if_eq hC 19 dX12_day_4 (by decide) (fun hc => ?_) (fun hc => ?_)
  · replace hf := ifT hf hc
    refine g_iconst hC (v := (-1)) dX12_day_19 ic_m1 ?_
    obtain ⟨rfl, rfl, rfl, rfl, rfl, rfl, rfl, rfl, rfl, rfl⟩ := sm10E hf
    exact hret _ _ rfl dX12_day_20
  · replace hf := ifF hf hc
    refine g_aload_n hC 0 dX12_day_7 rfl rfl ?_
    refine gt_X12_9 hC (a := 74) (kk_74 hL) (kn_74 hL) dX12_day_8 ?_
    refine g_ref (b := 75) rfl ?_
    refine g_iconst hC (v := 5) dX12_day_11 ic_5 ?_
    obtain ⟨h_3, hf⟩ := gdE hf
    refine g_iald hC (x := x75) (kk_75 hL) (kn_75 hL) (ov_get hN 1 rfl rfl) (inb_in h_3) dX12_day_12 ?_
    refine g_sipush hC (v := 999) dX12_day_13 sp_999 ?_
    refine g_icmp_ne hC 21 dX12_day_16 (by decide) (fun hc => ?_) (fun hc => ?_)
    · replace hf := ifF hf hc
      refine g_aload_n hC 0 dX12_day_21 rfl rfl ?_
      obtain ⟨x74_4, x75_5, x76_6, x77_7, x78_8, x102_9, q_10, hf⟩ := bd6E hf
      refine g_callV_v (a := 74) hC (X' := ov X0 [74, 75, 76, 77, 78, 79, 92, 93, 94, 95, 96, 97, 101, 102] [x74_4, x75_5, x76_6, x77_7, x78_8, x79, x92, x93, x94, x95, x96, x97, x101, x102_9]) (Y' := ov Y0 [99, 100] [y99, y100]) (As := []) (gMv_eq (c_X12_keepsAct l hL (ov_map hN [0, 1, 2, 3, 4, 13] (by rfl) (by rfl)) (ov_map hM [] (by rfl) (by rfl)) q_10) (ov_ovE hN (by rfl) [0, 1, 2, 3, 4, 13] [5, 6, 7, 8, 9, 10, 11, 12] (by rfl) (by rfl) [x79, x92, x93, x94, x95, x96, x97, x101] (by rfl) (by rfl) (by rfl) 14 (by rfl) (by decide)) (ov_ovE hM (by rfl) [] [0, 1] (by rfl) (by rfl) [y99, y100] (by rfl) (by rfl) (by rfl) 2 (by rfl) (by decide))) tw_1589 tw_1586 tw_127 tw_1588 tw_85 (ci := 12) rfl (by decide) (kk_74 hL) (kn_74 hL) pd_X12_keepsAct (by decide) (by decide) rfl rfl (Nat.le_of_ble_eq_true rfl) rfl dX12_day_22 ?_
      refine g_aload_n hC 0 dX12_day_25 rfl rfl ?_
      obtain ⟨r_11, x74_12, x75_13, x76_14, x77_15, x78_16, x101_17, y99_18, y100_19, q_20, hf⟩ := bd9E hf
      refine g_callV_i (a := 74) hC (X' := ov X0 [74, 75, 76, 77, 78, 79, 92, 93, 94, 95, 96, 97, 101, 102] [x74_12, x75_13, x76_14, x77_15, x78_16, x79, x92, x93, x94, x95, x96, x97, x101_17, x102_9]) (Y' := ov Y0 [99, 100] [y99_18, y100_19]) (As := []) (gMi_eq (c_X12_goes l hL (ov_map hN [0, 1, 2, 3, 4, 5, 6, 7, 8, 9, 10, 11, 12] (by rfl) (by rfl)) (ov_map hM [0, 1] (by rfl) (by rfl)) q_20) (ov_ovE hN (by rfl) [0, 1, 2, 3, 4, 5, 6, 7, 8, 9, 10, 11, 12] [13] (by rfl) (by rfl) [x102_9] (by rfl) (by rfl) (by rfl) 14 (by rfl) (by decide)) (ov_ovE hM (by rfl) [0, 1] [] (by rfl) (by rfl) [] (by rfl) (by rfl) (by rfl) 2 (by rfl) (by decide))) tw_1593 tw_1590 tw_127 tw_1592 tw_86 (ci := 12) rfl (by decide) (kk_74 hL) (kn_74 hL) pd_X12_goes (by decide) (by decide) rfl rfl (Nat.le_of_ble_eq_true rfl) rfl dX12_day_26 ?_
      obtain ⟨rfl, rfl, rfl, rfl, rfl, rfl, rfl, rfl, rfl, rfl⟩ := sm10E hf
      exact hret _ _ rfl dX12_day_29
    · replace hf := ifT hf hc
      refine g_iconst hC (v := (-1)) dX12_day_19 ic_m1 ?_
      obtain ⟨rfl, rfl, rfl, rfl, rfl, rfl, rfl, rfl, rfl, rfl⟩ := sm10E hf
      exact hret _ _ rfl dX12_day_20

def fX12_day   (x79 : Nat → Int32) (x92 : Nat → Int32) (x93 : Nat → Int32) (x94 : Nat → Int32) (x95 : Nat → Int32) (x96 : Nat → Int32) (x97 : Nat → Int32)   (x74 : Nat → Int32) (x75 : Nat → Int32) (x76 : Nat → Int32) (x77 : Nat → Int32) (x78 : Nat → Int32) (x101 : Nat → Int32) (x102 : Nat → Int32) (y99 : Nat → Int64) (y100 : Nat → Int64) : Option (Int32 × (Nat → Int32) × (Nat → Int32) × (Nat → Int32) × (Nat → Int32) × (Nat → Int32) × (Nat → Int32) × (Nat → Int32) × (Nat → Int64) × (Nat → Int64)) := fX12_day_0 x79 x92 x93 x94 x95 x96 x97 x74 x75 x76 x77 x78 x101 x102 y99 y100

set_option maxHeartbeats 4000000 in
set_option maxRecDepth 100000 in
theorem c_X12_day (l : Launch) {b0 : Nat} {D : GD} {n : Nat} {κ : QT} {X0 : XT} {Y0 : YT} {Z : ZT} (hL : LY n κ) {x74 : Nat → Int32} {x75 : Nat → Int32} {x76 : Nat → Int32} {x77 : Nat → Int32} {x78 : Nat → Int32} {x79 : Nat → Int32} {x92 : Nat → Int32} {x93 : Nat → Int32} {x94 : Nat → Int32} {x95 : Nat → Int32} {x96 : Nat → Int32} {x97 : Nat → Int32} {x101 : Nat → Int32} {x102 : Nat → Int32} {y99 : Nat → Int64} {y100 : Nat → Int64} (hx : ([74, 75, 76, 77, 78, 79, 92, 93, 94, 95, 96, 97, 101, 102] : List Nat).map X0 = [x74, x75, x76, x77, x78, x79, x92, x93, x94, x95, x96, x97, x101, x102]) (hy : ([99, 100] : List Nat).map Y0 = [y99, y100]) {r : Int32} {rx74 : (Nat → Int32)} {rx75 : (Nat → Int32)} {rx76 : (Nat → Int32)} {rx77 : (Nat → Int32)} {rx78 : (Nat → Int32)} {rx101 : (Nat → Int32)} {rx102 : (Nat → Int32)} {ry99 : (Nat → Int64)} {ry100 : (Nat → Int64)} (hf : fX12_day x79 x92 x93 x94 x95 x96 x97 x74 x75 x76 x77 x78 x101 x102 y99 y100 = some (r, rx74, rx75, rx76, rx77, rx78, rx101, rx102, ry99, ry100)) : gMi l yX12_day cX12_day 1 (some FieldType.int) 7 166 0 0 b0 D [.ref (b0 + 74)] (n, κ, X0, Y0, Z) (n, κ, ov X0 [74, 75, 76, 77, 78, 79, 92, 93, 94, 95, 96, 97, 101, 102] [rx74, rx75, rx76, rx77, rx78, x79, x92, x93, x94, x95, x96, x97, rx101, rx102], ov Y0 [99, 100] [ry99, ry100], Z) r := by
  have hN : ([74, 75, 76, 77, 78, 79, 92, 93, 94, 95, 96, 97, 101, 102] : List Nat).Nodup := by decide
  have hM : ([99, 100] : List Nat).Nodup := by decide
  refine g_meti (own := RX12) (by decide) rfl rfl (Nat.le_of_ble_eq_true rfl) ?_
  intro K hC hret
  have e := wX12_day_0 hL hN hM hC  hret hf
  rw [ov_id' hx, ov_id' hy] at e
  exact g_sub [0] rfl e

-- X12_crack
def fX12_crack_0     (v1 : Int32) (v2 : Int32) (x74 : (Nat → Int32)) (x75 : (Nat → Int32)) (x76 : (Nat → Int32)) (x77 : (Nat → Int32)) (x78 : (Nat → Int32)) (x102 : (Nat → Int32)) : Option (Int32 × (Nat → Int32) × (Nat → Int32) × (Nat → Int32) × (Nat → Int32) × (Nat → Int32) × (Nat → Int32)) := bd1 (fX12_areTwo x75 v1 v2) fun r_1 => (if r_1 = 0 then (some ((-1), x74, x75, x76, x77, x78, x102)) else (gd (inb ((6 * v1) + v2) 36) (if (x78 ((6 * v1) + v2).toNatClampNeg) = 0 then (some ((-1), x74, x75, x76, x77, x78, x102)) else (bd6 (fX12_keepsAct x74 x75 x76 x77 x78 x102) fun x74_4 x75_5 x76_6 x77_7 x78_8 x102_9 => (gd (inb ((6 * v1) + v2) 36) (bn (x78_8 ((6 * v1) + v2).toNatClampNeg) fun t_12 => (bd1 (fX12_joins v1 v2 0 x78_8) fun x78_13 => (some (t_12, x74_4, x75_5, x76_6, x77_7, x78_13, x102_9)))))))))
set_option maxHeartbeats 4000000 in
set_option maxRecDepth 100000 in
theorem wX12_crack_0 {l : Launch} {b0 : Nat} {D : GD} {K : KT} {n : Nat} {κ : QT} {X0 : XT} {Y0 : YT} {Z : ZT} (hL : LY n κ) (hN : ([74, 75, 76, 77, 78, 102] : List Nat).Nodup) (hM : ([] : List Nat).Nodup) (hC : gC l b0 D K RX12 cX12_crack (some FieldType.int) 4 4 88 0 0) {r : Int32} {rx74 : (Nat → Int32)} {rx75 : (Nat → Int32)} {rx76 : (Nat → Int32)} {rx77 : (Nat → Int32)} {rx78 : (Nat → Int32)} {rx102 : (Nat → Int32)} (hret : ∀ pc loc, narrow .int (.int r) = .int r → decode cX12_crack pc = .ok (.ireturn, 1) → gV l b0 D K (n, κ, ov X0 [74, 75, 76, 77, 78, 102] [rx74, rx75, rx76, rx77, rx78, rx102], ov Y0 [] [], Z, 0, 0) pc loc [.int r]) {v1 : Int32} {v2 : Int32} {x74 : (Nat → Int32)} {x75 : (Nat → Int32)} {x76 : (Nat → Int32)} {x77 : (Nat → Int32)} {x78 : (Nat → Int32)} {x102 : (Nat → Int32)} (hf : fX12_crack_0   v1 v2 x74 x75 x76 x77 x78 x102 = some (r, rx74, rx75, rx76, rx77, rx78, rx102)) : gV l b0 D K (n, κ, ov X0 [74, 75, 76, 77, 78, 102] [x74, x75, x76, x77, x78, x102], ov Y0 [] [], Z, 0, 0) 0 [(0, .ref (b0 + 74)), (1, .int v1), (2, .int v2)] [] := by
  unfold fX12_crack_0 at hf
  refine g_aload_n hC 0 dX12_crack_0 rfl rfl ?_
  refine g_iload_n hC 1 dX12_crack_1 rfl rfl ?_
  refine g_iload_n hC 2 dX12_crack_2 rfl rfl ?_
  obtain ⟨r_1, q_2, hf⟩ := bd1E hf
  refine g_callV_i (a := 74) hC (X' := ov X0 [74, 75, 76, 77, 78, 102] [x74, x75, x76, x77, x78, x102]) (Y' := ov Y0 [] []) (As := [.int v1, .int v2]) (gMi_eq (c_X12_areTwo l hL (ov_map hN [1] (by rfl) (by rfl)) (ov_map hM [] (by rfl) (by rfl)) q_2) (ov_ovE hN (by rfl) [1] [0, 2, 3, 4, 5] (by rfl) (by rfl) [x74, x76, x77, x78, x102] (by rfl) (by rfl) (by rfl) 6 (by rfl) (by decide)) (ov_ovE hM (by rfl) [] [] (by rfl) (by rfl) [] (by rfl) (by rfl) (by rfl) 0 (by rfl) (by decide))) tw_1561 tw_1558 tw_127 tw_1560 tw_80 (ci := 12) rfl (by decide) (kk_74 hL) (kn_74 hL) pd_X12_areTwo (by decide) (by decide) rfl rfl (Nat.le_of_ble_eq_true rfl) rfl dX12_crack_3 ?_
  refine g_if_eq hC 23 dX12_crack_6 (by decide) (fun hc => ?_) (fun hc => ?_)
  · replace hf := ifT hf hc
    refine g_iconst hC (v := (-1)) dX12_crack_23 ic_m1 ?_
    obtain ⟨rfl, rfl, rfl, rfl, rfl, rfl, rfl⟩ := sm7E hf
    exact hret _ _ rfl dX12_crack_24
  · replace hf := ifF hf hc
    refine g_aload_n hC 0 dX12_crack_9 rfl rfl ?_
    refine gt_X12_19 hC (a := 74) (kk_74 hL) (kn_74 hL) dX12_crack_10 ?_
    refine g_ref (b := 78) rfl ?_
    refine g_bipush hC (v := 6) dX12_crack_13 bp_6 ?_
    refine g_iload_n hC 1 dX12_crack_15 rfl rfl ?_
    refine g_imul hC dX12_crack_16 ?_
    refine g_iload_n hC 2 dX12_crack_17 rfl rfl ?_
    refine g_iadd hC dX12_crack_18 ?_
    obtain ⟨h_3, hf⟩ := gdE hf
    refine g_iald hC (x := x78) (kk_78 hL) (kn_78 hL) (ov_get hN 4 rfl rfl) (inb_in h_3) dX12_crack_19 ?_
    refine g_if_ne hC 25 dX12_crack_20 (by decide) (fun hc => ?_) (fun hc => ?_)
    · replace hf := ifF hf hc
      refine g_aload_n hC 0 dX12_crack_25 rfl rfl ?_
      obtain ⟨x74_4, x75_5, x76_6, x77_7, x78_8, x102_9, q_10, hf⟩ := bd6E hf
      refine g_callV_v (a := 74) hC (X' := ov X0 [74, 75, 76, 77, 78, 102] [x74_4, x75_5, x76_6, x77_7, x78_8, x102_9]) (Y' := ov Y0 [] []) (As := []) (gMv_eq (c_X12_keepsAct l hL (ov_map hN [0, 1, 2, 3, 4, 5] (by rfl) (by rfl)) (ov_map hM [] (by rfl) (by rfl)) q_10) (ov_ovE hN (by rfl) [0, 1, 2, 3, 4, 5] [] (by rfl) (by rfl) [] (by rfl) (by rfl) (by rfl) 6 (by rfl) (by decide)) (ov_ovE hM (by rfl) [] [] (by rfl) (by rfl) [] (by rfl) (by rfl) (by rfl) 0 (by rfl) (by decide))) tw_1589 tw_1586 tw_127 tw_1588 tw_85 (ci := 12) rfl (by decide) (kk_74 hL) (kn_74 hL) pd_X12_keepsAct (by decide) (by decide) rfl rfl (Nat.le_of_ble_eq_true rfl) rfl dX12_crack_26 ?_
      refine g_aload_n hC 0 dX12_crack_29 rfl rfl ?_
      refine gt_X12_19 hC (a := 74) (kk_74 hL) (kn_74 hL) dX12_crack_30 ?_
      refine g_ref (b := 78) rfl ?_
      refine g_bipush hC (v := 6) dX12_crack_33 bp_6 ?_
      refine g_iload_n hC 1 dX12_crack_35 rfl rfl ?_
      refine g_imul hC dX12_crack_36 ?_
      refine g_iload_n hC 2 dX12_crack_37 rfl rfl ?_
      refine g_iadd hC dX12_crack_38 ?_
      obtain ⟨h_11, hf⟩ := gdE hf
      refine g_iald hC (x := x78_8) (kk_78 hL) (kn_78 hL) (ov_get hN 4 rfl rfl) (inb_in h_11) dX12_crack_39 ?_
      obtain ⟨t_12, et_12, hf⟩ := bnE hf
      refine g_topi et_12 ?_
      refine g_istore_n hC (i := 3) [(3, .int t_12), (0, .ref (b0 + 74)), (1, .int v1), (2, .int v2)] rfl dX12_crack_40 (by decide) rfl ?_
      refine g_aload_n hC 1 dX12_crack_41 rfl rfl ?_
      refine g_iload_n hC 2 dX12_crack_42 rfl rfl ?_
      refine g_iload_n hC 3 dX12_crack_43 rfl rfl ?_
      refine g_iconst hC (v := 0) dX12_crack_44 ic_0 ?_
      obtain ⟨x78_13, q_14, hf⟩ := bd1E hf
      refine g_callV_v (a := 74) hC (X' := ov X0 [74, 75, 76, 77, 78, 102] [x74_4, x75_5, x76_6, x77_7, x78_13, x102_9]) (Y' := ov Y0 [] []) (As := [.int v1, .int v2, .int 0]) (gMv_eq (c_X12_joins l hL (ov_map hN [4] (by rfl) (by rfl)) (ov_map hM [] (by rfl) (by rfl)) q_14) (ov_ovE hN (by rfl) [4] [0, 1, 2, 3, 5] (by rfl) (by rfl) [x74_4, x75_5, x76_6, x77_7, x102_9] (by rfl) (by rfl) (by rfl) 6 (by rfl) (by decide)) (ov_ovE hM (by rfl) [] [] (by rfl) (by rfl) [] (by rfl) (by rfl) (by rfl) 0 (by rfl) (by decide))) tw_1627 tw_1624 tw_127 tw_1626 tw_92 (ci := 12) rfl (by decide) (kk_74 hL) (kn_74 hL) pd_X12_joins (by decide) (by decide) rfl rfl (Nat.le_of_ble_eq_true rfl) rfl dX12_crack_45 ?_
      refine g_iload_n hC 0 dX12_crack_48 rfl rfl ?_
      obtain ⟨rfl, rfl, rfl, rfl, rfl, rfl, rfl⟩ := sm7E hf
      exact hret _ _ rfl dX12_crack_49
    · replace hf := ifT hf hc
      refine g_iconst hC (v := (-1)) dX12_crack_23 ic_m1 ?_
      obtain ⟨rfl, rfl, rfl, rfl, rfl, rfl, rfl⟩ := sm7E hf
      exact hret _ _ rfl dX12_crack_24

def fX12_crack     (v1 : Int32) (v2 : Int32) (x74 : Nat → Int32) (x75 : Nat → Int32) (x76 : Nat → Int32) (x77 : Nat → Int32) (x78 : Nat → Int32) (x102 : Nat → Int32)  : Option (Int32 × (Nat → Int32) × (Nat → Int32) × (Nat → Int32) × (Nat → Int32) × (Nat → Int32) × (Nat → Int32)) := fX12_crack_0  v1 v2 x74 x75 x76 x77 x78 x102

set_option maxHeartbeats 4000000 in
set_option maxRecDepth 100000 in
theorem c_X12_crack (l : Launch) {b0 : Nat} {D : GD} {n : Nat} {κ : QT} {X0 : XT} {Y0 : YT} {Z : ZT} (hL : LY n κ) {x74 : Nat → Int32} {x75 : Nat → Int32} {x76 : Nat → Int32} {x77 : Nat → Int32} {x78 : Nat → Int32} {x102 : Nat → Int32} (hx : ([74, 75, 76, 77, 78, 102] : List Nat).map X0 = [x74, x75, x76, x77, x78, x102]) (hy : ([] : List Nat).map Y0 = []) {v1 : Int32} {v2 : Int32} {r : Int32} {rx74 : (Nat → Int32)} {rx75 : (Nat → Int32)} {rx76 : (Nat → Int32)} {rx77 : (Nat → Int32)} {rx78 : (Nat → Int32)} {rx102 : (Nat → Int32)} (hf : fX12_crack  v1 v2 x74 x75 x76 x77 x78 x102 = some (r, rx74, rx75, rx76, rx77, rx78, rx102)) : gMi l yX12_crack cX12_crack 4 (some FieldType.int) 4 88 0 0 b0 D [.ref (b0 + 74), .int v1, .int v2] (n, κ, X0, Y0, Z) (n, κ, ov X0 [74, 75, 76, 77, 78, 102] [rx74, rx75, rx76, rx77, rx78, rx102], ov Y0 [] [], Z) r := by
  have hN : ([74, 75, 76, 77, 78, 102] : List Nat).Nodup := by decide
  have hM : ([] : List Nat).Nodup := by decide
  refine g_meti (own := RX12) (by decide) rfl rfl (Nat.le_of_ble_eq_true rfl) ?_
  intro K hC hret
  have e := wX12_crack_0 hL hN hM hC  hret hf
  rw [ov_id' hx, ov_id' hy] at e
  exact g_sub [0, 1, 2] rfl e

-- X12_canPour
def fX12_canPour_53   (x75 : Nat → Int32) (x76 : Nat → Int32) (x78 : Nat → Int32)   : Option (Int32) := some 0
set_option maxHeartbeats 4000000 in
set_option maxRecDepth 100000 in
theorem wX12_canPour_53 {l : Launch} {b0 : Nat} {D : GD} {K : KT} {n : Nat} {κ : QT} {X0 : XT} {Y0 : YT} {Z : ZT} (hL : LY n κ) (hN : ([75, 76, 78] : List Nat).Nodup) (hM : ([] : List Nat).Nodup) (hC : gC l b0 D K RX12 cX12_canPour (some FieldType.boolean) 3 1 21 0 0) {x75 : Nat → Int32} {x76 : Nat → Int32} {x78 : Nat → Int32} {r : Int32} (hret : ∀ pc loc, narrow .boolean (.int r) = .int r → decode cX12_canPour pc = .ok (.ireturn, 1) → gV l b0 D K (n, κ, ov X0 [75, 76, 78] [x75, x76, x78], ov Y0 [] [], Z, 0, 0) pc loc [.int r])  (hf : fX12_canPour_53 x75 x76 x78   = some r) : gV l b0 D K (n, κ, ov X0 [75, 76, 78] [x75, x76, x78], ov Y0 [] [], Z, 0, 0) 53 [] [] := by
  unfold fX12_canPour_53 at hf
  refine g_iconst hC (v := 0) dX12_canPour_53 ic_0 ?_
  obtain rfl := sm1E hf
  exact hret _ _ rfl dX12_canPour_54

def fX12_canPour_0   (x75 : Nat → Int32) (x76 : Nat → Int32) (x78 : Nat → Int32)  (v1 : Int32) (v2 : Int32) : Option (Int32) := gd (inb ((6 * v1) + v2) 36) (if (x78 ((6 * v1) + v2).toNatClampNeg) = 0 then (bd1 (fX12_isInRiver x75 x76 v1) fun r_2 => (if r_2 = 0 then (bd1 (fX12_isInRiver x75 x76 v2) fun r_4 => (if r_4 = 0 then (gd (inb v1 6) (gd (inb v2 6) (bd1 (fX12_differ (x76 v1.toNatClampNeg) (x76 v2.toNatClampNeg)) fun r_8 => (if 3 < r_8 then (fX12_canPour_53 x75 x76 x78  ) else (some 1))))) else (fX12_canPour_53 x75 x76 x78  ))) else (fX12_canPour_53 x75 x76 x78  ))) else (fX12_canPour_53 x75 x76 x78  ))
set_option maxHeartbeats 4000000 in
set_option maxRecDepth 100000 in
theorem wX12_canPour_0 {l : Launch} {b0 : Nat} {D : GD} {K : KT} {n : Nat} {κ : QT} {X0 : XT} {Y0 : YT} {Z : ZT} (hL : LY n κ) (hN : ([75, 76, 78] : List Nat).Nodup) (hM : ([] : List Nat).Nodup) (hC : gC l b0 D K RX12 cX12_canPour (some FieldType.boolean) 3 1 21 0 0) {x75 : Nat → Int32} {x76 : Nat → Int32} {x78 : Nat → Int32} {r : Int32} (hret : ∀ pc loc, narrow .boolean (.int r) = .int r → decode cX12_canPour pc = .ok (.ireturn, 1) → gV l b0 D K (n, κ, ov X0 [75, 76, 78] [x75, x76, x78], ov Y0 [] [], Z, 0, 0) pc loc [.int r]) {v1 : Int32} {v2 : Int32} (hf : fX12_canPour_0 x75 x76 x78  v1 v2 = some r) : gV l b0 D K (n, κ, ov X0 [75, 76, 78] [x75, x76, x78], ov Y0 [] [], Z, 0, 0) 0 [(0, .ref (b0 + 74)), (1, .int v1), (2, .int v2)] [] := by
  unfold fX12_canPour_0 at hf
  refine g_aload_n hC 0 dX12_canPour_0 rfl rfl ?_
  refine gt_X12_19 hC (a := 74) (kk_74 hL) (kn_74 hL) dX12_canPour_1 ?_
  refine g_ref (b := 78) rfl ?_
  refine g_bipush hC (v := 6) dX12_canPour_4 bp_6 ?_
  refine g_iload_n hC 1 dX12_canPour_6 rfl rfl ?_
  refine g_imul hC dX12_canPour_7 ?_
  refine g_iload_n hC 2 dX12_canPour_8 rfl rfl ?_
  refine g_iadd hC dX12_canPour_9 ?_
  obtain ⟨h_1, hf⟩ := gdE hf
  refine g_iald hC (x := x78) (kk_78 hL) (kn_78 hL) (ov_get hN 2 rfl rfl) (inb_in h_1) dX12_canPour_10 ?_
  refine g_if_ne hC 53 dX12_canPour_11 (by decide) (fun hc => ?_) (fun hc => ?_)
  · replace hf := ifF hf hc
    exact g_sub [] rfl (wX12_canPour_53 hL hN hM hC  hret  hf)
  · replace hf := ifT hf hc
    refine g_aload_n hC 0 dX12_canPour_14 rfl rfl ?_
    refine g_iload_n hC 1 dX12_canPour_15 rfl rfl ?_
    obtain ⟨r_2, q_3, hf⟩ := bd1E hf
    refine g_callV_i (a := 74) hC (X' := ov X0 [75, 76, 78] [x75, x76, x78]) (Y' := ov Y0 [] []) (As := [.int v1]) (gMi_eq (c_X12_isInRiver l hL (ov_map hN [0, 1] (by rfl) (by rfl)) (ov_map hM [] (by rfl) (by rfl)) q_3) (ov_ovE hN (by rfl) [0, 1] [2] (by rfl) (by rfl) [x78] (by rfl) (by rfl) (by rfl) 3 (by rfl) (by decide)) (ov_ovE hM (by rfl) [] [] (by rfl) (by rfl) [] (by rfl) (by rfl) (by rfl) 0 (by rfl) (by decide))) tw_1638 tw_1635 tw_127 tw_1637 tw_94 (ci := 12) rfl (by decide) (kk_74 hL) (kn_74 hL) pd_X12_isInRiver (by decide) (by decide) rfl rfl (Nat.le_of_ble_eq_true rfl) rfl dX12_canPour_16 ?_
    refine g_if_ne hC 53 dX12_canPour_19 (by decide) (fun hc => ?_) (fun hc => ?_)
    · replace hf := ifF hf hc
      exact g_sub [] rfl (wX12_canPour_53 hL hN hM hC  hret  hf)
    · replace hf := ifT hf hc
      refine g_aload_n hC 0 dX12_canPour_22 rfl rfl ?_
      refine g_iload_n hC 2 dX12_canPour_23 rfl rfl ?_
      obtain ⟨r_4, q_5, hf⟩ := bd1E hf
      refine g_callV_i (a := 74) hC (X' := ov X0 [75, 76, 78] [x75, x76, x78]) (Y' := ov Y0 [] []) (As := [.int v2]) (gMi_eq (c_X12_isInRiver l hL (ov_map hN [0, 1] (by rfl) (by rfl)) (ov_map hM [] (by rfl) (by rfl)) q_5) (ov_ovE hN (by rfl) [0, 1] [2] (by rfl) (by rfl) [x78] (by rfl) (by rfl) (by rfl) 3 (by rfl) (by decide)) (ov_ovE hM (by rfl) [] [] (by rfl) (by rfl) [] (by rfl) (by rfl) (by rfl) 0 (by rfl) (by decide))) tw_1638 tw_1635 tw_127 tw_1637 tw_94 (ci := 12) rfl (by decide) (kk_74 hL) (kn_74 hL) pd_X12_isInRiver (by decide) (by decide) rfl rfl (Nat.le_of_ble_eq_true rfl) rfl dX12_canPour_24 ?_
      refine g_if_ne hC 53 dX12_canPour_27 (by decide) (fun hc => ?_) (fun hc => ?_)
      · replace hf := ifF hf hc
        exact g_sub [] rfl (wX12_canPour_53 hL hN hM hC  hret  hf)
      · replace hf := ifT hf hc
        refine g_aload_n hC 0 dX12_canPour_30 rfl rfl ?_
        refine gt_X12_13 hC (a := 74) (kk_74 hL) (kn_74 hL) dX12_canPour_31 ?_
        refine g_ref (b := 76) rfl ?_
        refine g_iload_n hC 1 dX12_canPour_34 rfl rfl ?_
        obtain ⟨h_6, hf⟩ := gdE hf
        refine g_iald hC (x := x76) (kk_76 hL) (kn_76 hL) (ov_get hN 1 rfl rfl) (inb_in h_6) dX12_canPour_35 ?_
        refine g_aload_n hC 0 dX12_canPour_36 rfl rfl ?_
        refine gt_X12_13 hC (a := 74) (kk_74 hL) (kn_74 hL) dX12_canPour_37 ?_
        refine g_ref (b := 76) rfl ?_
        refine g_iload_n hC 2 dX12_canPour_40 rfl rfl ?_
        obtain ⟨h_7, hf⟩ := gdE hf
        refine g_iald hC (x := x76) (kk_76 hL) (kn_76 hL) (ov_get hN 1 rfl rfl) (inb_in h_7) dX12_canPour_41 ?_
        obtain ⟨r_8, q_9, hf⟩ := bd1E hf
        refine g_callS_i hC (X' := ov X0 [75, 76, 78] [x75, x76, x78]) (Y' := ov Y0 [] []) (As := [.int (x76 v1.toNatClampNeg), .int (x76 v2.toNatClampNeg)]) (gMi_eq (c_X12_differ l hL (ov_map hN [] (by rfl) (by rfl)) (ov_map hM [] (by rfl) (by rfl)) q_9) (ov_ovE hN (by rfl) [] [0, 1, 2] (by rfl) (by rfl) [x75, x76, x78] (by rfl) (by rfl) (by rfl) 3 (by rfl) (by decide)) (ov_ovE hM (by rfl) [] [] (by rfl) (by rfl) [] (by rfl) (by rfl) (by rfl) 0 (by rfl) (by decide))) tw_1609 tw_1607 tw_127 tw_1608 pd_X12_differ (by decide) (by decide) rfl rfl (Nat.le_of_ble_eq_true rfl) rfl dX12_canPour_42 ?_
        refine g_iconst hC (v := 3) dX12_canPour_45 ic_3 ?_
        refine g_icmp_gt hC 53 dX12_canPour_46 (by decide) (fun hc => ?_) (fun hc => ?_)
        · replace hf := ifT hf hc
          exact g_sub [] rfl (wX12_canPour_53 hL hN hM hC  hret  hf)
        · replace hf := ifF hf hc
          refine g_iconst hC (v := 1) dX12_canPour_49 ic_1 ?_
          refine g_goto hC 54 dX12_canPour_50 (by decide) ?_
          obtain rfl := sm1E hf
          exact hret _ _ rfl dX12_canPour_54

def fX12_canPour   (x75 : Nat → Int32) (x76 : Nat → Int32) (x78 : Nat → Int32)  (v1 : Int32) (v2 : Int32)   : Option (Int32) := fX12_canPour_0 x75 x76 x78 v1 v2

set_option maxHeartbeats 4000000 in
set_option maxRecDepth 100000 in
theorem c_X12_canPour (l : Launch) {b0 : Nat} {D : GD} {n : Nat} {κ : QT} {X0 : XT} {Y0 : YT} {Z : ZT} (hL : LY n κ) {x75 : Nat → Int32} {x76 : Nat → Int32} {x78 : Nat → Int32} (hx : ([75, 76, 78] : List Nat).map X0 = [x75, x76, x78]) (hy : ([] : List Nat).map Y0 = []) {v1 : Int32} {v2 : Int32} {r : Int32} (hf : fX12_canPour x75 x76 x78 v1 v2 = some r) : gMi l yX12_canPour cX12_canPour 3 (some FieldType.boolean) 1 21 0 0 b0 D [.ref (b0 + 74), .int v1, .int v2] (n, κ, X0, Y0, Z) (n, κ, ov X0 [75, 76, 78] [x75, x76, x78], ov Y0 [] [], Z) r := by
  have hN : ([75, 76, 78] : List Nat).Nodup := by decide
  have hM : ([] : List Nat).Nodup := by decide
  refine g_meti (own := RX12) (by decide) rfl rfl (Nat.le_of_ble_eq_true rfl) ?_
  intro K hC hret
  have e := wX12_canPour_0 hL hN hM hC  hret hf
  rw [ov_id' hx, ov_id' hy] at e
  exact g_sub [0, 1, 2] rfl e

-- X12_pour
def fX12_pour_0     (v1 : Int32) (v2 : Int32) (v3 : Int32) (x74 : (Nat → Int32)) (x75 : (Nat → Int32)) (x76 : (Nat → Int32)) (x77 : (Nat → Int32)) (x78 : (Nat → Int32)) (x102 : (Nat → Int32)) : Option (Int32 × (Nat → Int32) × (Nat → Int32) × (Nat → Int32) × (Nat → Int32) × (Nat → Int32) × (Nat → Int32)) := bd1 (fX12_areTwo x75 v1 v2) fun r_1 => (if r_1 = 0 then (some ((-1), x74, x75, x76, x77, x78, x102)) else (bd1 (fX12_in v3.toInt64 1 9) fun r_3 => (if r_3 = 0 then (some ((-1), x74, x75, x76, x77, x78, x102)) else (bd1 (fX12_canPour x75 x76 x78 v1 v2) fun r_5 => (if r_5 = 0 then (some ((-1), x74, x75, x76, x77, x78, x102)) else (gd (inb 6 11) (if v3 ≤ (x75 (6 : Int32).toNatClampNeg) then (bd6 (fX12_keepsAct x74 x75 x76 x77 x78 x102) fun x74_8 x75_9 x76_10 x77_11 x78_12 x102_13 => (bd1 (fX12_joins v1 v2 v3 x78_12) fun x78_15 => (gd (inb 6 11) (gd (inb 6 11) (gd (inb 6 11) (some ((upd x75_9 (6 : Int32).toNatClampNeg ((x75_9 (6 : Int32).toNatClampNeg) - v3)) (6 : Int32).toNatClampNeg, x74_8, (upd x75_9 (6 : Int32).toNatClampNeg ((x75_9 (6 : Int32).toNatClampNeg) - v3)), x76_10, x77_11, x78_15, x102_13))))))) else (some ((-1), x74, x75, x76, x77, x78, x102)))))))))
set_option maxHeartbeats 4000000 in
set_option maxRecDepth 100000 in
theorem wX12_pour_0 {l : Launch} {b0 : Nat} {D : GD} {K : KT} {n : Nat} {κ : QT} {X0 : XT} {Y0 : YT} {Z : ZT} (hL : LY n κ) (hN : ([74, 75, 76, 77, 78, 102] : List Nat).Nodup) (hM : ([] : List Nat).Nodup) (hC : gC l b0 D K RX12 cX12_pour (some FieldType.int) 4 4 88 0 0) {r : Int32} {rx74 : (Nat → Int32)} {rx75 : (Nat → Int32)} {rx76 : (Nat → Int32)} {rx77 : (Nat → Int32)} {rx78 : (Nat → Int32)} {rx102 : (Nat → Int32)} (hret : ∀ pc loc, narrow .int (.int r) = .int r → decode cX12_pour pc = .ok (.ireturn, 1) → gV l b0 D K (n, κ, ov X0 [74, 75, 76, 77, 78, 102] [rx74, rx75, rx76, rx77, rx78, rx102], ov Y0 [] [], Z, 0, 0) pc loc [.int r]) {v1 : Int32} {v2 : Int32} {v3 : Int32} {x74 : (Nat → Int32)} {x75 : (Nat → Int32)} {x76 : (Nat → Int32)} {x77 : (Nat → Int32)} {x78 : (Nat → Int32)} {x102 : (Nat → Int32)} (hf : fX12_pour_0   v1 v2 v3 x74 x75 x76 x77 x78 x102 = some (r, rx74, rx75, rx76, rx77, rx78, rx102)) : gV l b0 D K (n, κ, ov X0 [74, 75, 76, 77, 78, 102] [x74, x75, x76, x77, x78, x102], ov Y0 [] [], Z, 0, 0) 0 [(0, .ref (b0 + 74)), (1, .int v1), (2, .int v2), (3, .int v3)] [] := by
  unfold fX12_pour_0 at hf
  refine g_aload_n hC 0 dX12_pour_0 rfl rfl ?_
  refine g_iload_n hC 1 dX12_pour_1 rfl rfl ?_
  refine g_iload_n hC 2 dX12_pour_2 rfl rfl ?_
  obtain ⟨r_1, q_2, hf⟩ := bd1E hf
  refine g_callV_i (a := 74) hC (X' := ov X0 [74, 75, 76, 77, 78, 102] [x74, x75, x76, x77, x78, x102]) (Y' := ov Y0 [] []) (As := [.int v1, .int v2]) (gMi_eq (c_X12_areTwo l hL (ov_map hN [1] (by rfl) (by rfl)) (ov_map hM [] (by rfl) (by rfl)) q_2) (ov_ovE hN (by rfl) [1] [0, 2, 3, 4, 5] (by rfl) (by rfl) [x74, x76, x77, x78, x102] (by rfl) (by rfl) (by rfl) 6 (by rfl) (by decide)) (ov_ovE hM (by rfl) [] [] (by rfl) (by rfl) [] (by rfl) (by rfl) (by rfl) 0 (by rfl) (by decide))) tw_1561 tw_1558 tw_127 tw_1560 tw_80 (ci := 12) rfl (by decide) (kk_74 hL) (kn_74 hL) pd_X12_areTwo (by decide) (by decide) rfl rfl (Nat.le_of_ble_eq_true rfl) rfl dX12_pour_3 ?_
  refine g_if_eq hC 41 dX12_pour_6 (by decide) (fun hc => ?_) (fun hc => ?_)
  · replace hf := ifT hf hc
    refine g_iconst hC (v := (-1)) dX12_pour_41 ic_m1 ?_
    obtain ⟨rfl, rfl, rfl, rfl, rfl, rfl, rfl⟩ := sm7E hf
    exact hret _ _ rfl dX12_pour_42
  · replace hf := ifF hf hc
    refine g_iload_n hC 3 dX12_pour_9 rfl rfl ?_
    refine g_i2l hC dX12_pour_10 ?_
    refine g_lconst hC (v := 1) dX12_pour_11 rfl ?_
    refine g_ldc2_w hC (v := 9) tw_1651 dX12_pour_12 ?_
    obtain ⟨r_3, q_4, hf⟩ := bd1E hf
    refine g_callS_i hC (X' := ov X0 [74, 75, 76, 77, 78, 102] [x74, x75, x76, x77, x78, x102]) (Y' := ov Y0 [] []) (As := [.long v3.toInt64, .long 1, .long 9]) (gMi_eq (c_X12_in l hL (ov_map hN [] (by rfl) (by rfl)) (ov_map hM [] (by rfl) (by rfl)) q_4) (ov_ovE hN (by rfl) [] [0, 1, 2, 3, 4, 5] (by rfl) (by rfl) [x74, x75, x76, x77, x78, x102] (by rfl) (by rfl) (by rfl) 6 (by rfl) (by decide)) (ov_ovE hM (by rfl) [] [] (by rfl) (by rfl) [] (by rfl) (by rfl) (by rfl) 0 (by rfl) (by decide))) tw_1428 tw_1426 tw_127 tw_1427 pd_X12_in (by decide) (by decide) rfl rfl (Nat.le_of_ble_eq_true rfl) rfl dX12_pour_15 ?_
    refine g_if_eq hC 41 dX12_pour_18 (by decide) (fun hc => ?_) (fun hc => ?_)
    · replace hf := ifT hf hc
      refine g_iconst hC (v := (-1)) dX12_pour_41 ic_m1 ?_
      obtain ⟨rfl, rfl, rfl, rfl, rfl, rfl, rfl⟩ := sm7E hf
      exact hret _ _ rfl dX12_pour_42
    · replace hf := ifF hf hc
      refine g_aload_n hC 0 dX12_pour_21 rfl rfl ?_
      refine g_iload_n hC 1 dX12_pour_22 rfl rfl ?_
      refine g_iload_n hC 2 dX12_pour_23 rfl rfl ?_
      obtain ⟨r_5, q_6, hf⟩ := bd1E hf
      refine g_callV_i (a := 74) hC (X' := ov X0 [74, 75, 76, 77, 78, 102] [x74, x75, x76, x77, x78, x102]) (Y' := ov Y0 [] []) (As := [.int v1, .int v2]) (gMi_eq (c_X12_canPour l hL (ov_map hN [1, 2, 4] (by rfl) (by rfl)) (ov_map hM [] (by rfl) (by rfl)) q_6) (ov_ovE hN (by rfl) [1, 2, 4] [0, 3, 5] (by rfl) (by rfl) [x74, x77, x102] (by rfl) (by rfl) (by rfl) 6 (by rfl) (by decide)) (ov_ovE hM (by rfl) [] [] (by rfl) (by rfl) [] (by rfl) (by rfl) (by rfl) 0 (by rfl) (by decide))) tw_1655 tw_1652 tw_127 tw_1654 tw_96 (ci := 12) rfl (by decide) (kk_74 hL) (kn_74 hL) pd_X12_canPour (by decide) (by decide) rfl rfl (Nat.le_of_ble_eq_true rfl) rfl dX12_pour_24 ?_
      refine g_if_eq hC 41 dX12_pour_27 (by decide) (fun hc => ?_) (fun hc => ?_)
      · replace hf := ifT hf hc
        refine g_iconst hC (v := (-1)) dX12_pour_41 ic_m1 ?_
        obtain ⟨rfl, rfl, rfl, rfl, rfl, rfl, rfl⟩ := sm7E hf
        exact hret _ _ rfl dX12_pour_42
      · replace hf := ifF hf hc
        refine g_aload_n hC 0 dX12_pour_30 rfl rfl ?_
        refine gt_X12_9 hC (a := 74) (kk_74 hL) (kn_74 hL) dX12_pour_31 ?_
        refine g_ref (b := 75) rfl ?_
        refine g_bipush hC (v := 6) dX12_pour_34 bp_6 ?_
        obtain ⟨h_7, hf⟩ := gdE hf
        refine g_iald hC (x := x75) (kk_75 hL) (kn_75 hL) (ov_get hN 1 rfl rfl) (inb_in h_7) dX12_pour_36 ?_
        refine g_iload_n hC 3 dX12_pour_37 rfl rfl ?_
        refine g_icmp_ge hC 43 dX12_pour_38 (by decide) (fun hc => ?_) (fun hc => ?_)
        · replace hf := ifT hf hc
          refine g_aload_n hC 0 dX12_pour_43 rfl rfl ?_
          obtain ⟨x74_8, x75_9, x76_10, x77_11, x78_12, x102_13, q_14, hf⟩ := bd6E hf
          refine g_callV_v (a := 74) hC (X' := ov X0 [74, 75, 76, 77, 78, 102] [x74_8, x75_9, x76_10, x77_11, x78_12, x102_13]) (Y' := ov Y0 [] []) (As := []) (gMv_eq (c_X12_keepsAct l hL (ov_map hN [0, 1, 2, 3, 4, 5] (by rfl) (by rfl)) (ov_map hM [] (by rfl) (by rfl)) q_14) (ov_ovE hN (by rfl) [0, 1, 2, 3, 4, 5] [] (by rfl) (by rfl) [] (by rfl) (by rfl) (by rfl) 6 (by rfl) (by decide)) (ov_ovE hM (by rfl) [] [] (by rfl) (by rfl) [] (by rfl) (by rfl) (by rfl) 0 (by rfl) (by decide))) tw_1589 tw_1586 tw_127 tw_1588 tw_85 (ci := 12) rfl (by decide) (kk_74 hL) (kn_74 hL) pd_X12_keepsAct (by decide) (by decide) rfl rfl (Nat.le_of_ble_eq_true rfl) rfl dX12_pour_44 ?_
          refine g_aload_n hC 0 dX12_pour_47 rfl rfl ?_
          refine g_iload_n hC 1 dX12_pour_48 rfl rfl ?_
          refine g_iload_n hC 2 dX12_pour_49 rfl rfl ?_
          refine g_iload_n hC 3 dX12_pour_50 rfl rfl ?_
          obtain ⟨x78_15, q_16, hf⟩ := bd1E hf
          refine g_callV_v (a := 74) hC (X' := ov X0 [74, 75, 76, 77, 78, 102] [x74_8, x75_9, x76_10, x77_11, x78_15, x102_13]) (Y' := ov Y0 [] []) (As := [.int v1, .int v2, .int v3]) (gMv_eq (c_X12_joins l hL (ov_map hN [4] (by rfl) (by rfl)) (ov_map hM [] (by rfl) (by rfl)) q_16) (ov_ovE hN (by rfl) [4] [0, 1, 2, 3, 5] (by rfl) (by rfl) [x74_8, x75_9, x76_10, x77_11, x102_13] (by rfl) (by rfl) (by rfl) 6 (by rfl) (by decide)) (ov_ovE hM (by rfl) [] [] (by rfl) (by rfl) [] (by rfl) (by rfl) (by rfl) 0 (by rfl) (by decide))) tw_1627 tw_1624 tw_127 tw_1626 tw_92 (ci := 12) rfl (by decide) (kk_74 hL) (kn_74 hL) pd_X12_joins (by decide) (by decide) rfl rfl (Nat.le_of_ble_eq_true rfl) rfl dX12_pour_51 ?_
          refine g_aload_n hC 0 dX12_pour_54 rfl rfl ?_
          refine gt_X12_9 hC (a := 74) (kk_74 hL) (kn_74 hL) dX12_pour_55 ?_
          refine g_ref (b := 75) rfl ?_
          refine g_bipush hC (v := 6) dX12_pour_58 bp_6 ?_
          refine g_dup2 hC dX12_pour_60 rfl rfl ?_
          obtain ⟨h_17, hf⟩ := gdE hf
          refine g_iald hC (x := x75_9) (kk_75 hL) (kn_75 hL) (ov_get hN 1 rfl rfl) (inb_in h_17) dX12_pour_61 ?_
          refine g_iload_n hC 3 dX12_pour_62 rfl rfl ?_
          refine g_isub hC dX12_pour_63 ?_
          obtain ⟨h_18, hf⟩ := gdE hf
          refine g_iast hC (x := x75_9) (kk_75 hL) (kn_75 hL) (ov_get hN 1 rfl rfl) (inb_in h_18) (ov_set hN (by rfl) 1 (by rfl)) dX12_pour_64 ?_
          show gV l b0 D K (n, κ, ov X0 [74, 75, 76, 77, 78, 102] [x74_8, (upd x75_9 (6 : Int32).toNatClampNeg ((x75_9 (6 : Int32).toNatClampNeg) - v3)), x76_10, x77_11, x78_15, x102_13], ov Y0 [] [], Z, 0, 0) 65 [(0, .ref (b0 + 74)), (1, .int v1), (2, .int v2), (3, .int v3)] []
          refine g_aload_n hC 0 dX12_pour_65 rfl rfl ?_
          refine gt_X12_9 hC (a := 74) (kk_74 hL) (kn_74 hL) dX12_pour_66 ?_
          refine g_ref (b := 75) rfl ?_
          refine g_bipush hC (v := 6) dX12_pour_69 bp_6 ?_
          obtain ⟨h_19, hf⟩ := gdE hf
          refine g_iald hC (x := (upd x75_9 (6 : Int32).toNatClampNeg ((x75_9 (6 : Int32).toNatClampNeg) - v3))) (kk_75 hL) (kn_75 hL) (ov_get hN 1 rfl rfl) (inb_in h_19) dX12_pour_71 ?_
          obtain ⟨rfl, rfl, rfl, rfl, rfl, rfl, rfl⟩ := sm7E hf
          exact hret _ _ rfl dX12_pour_72
        · replace hf := ifF hf hc
          refine g_iconst hC (v := (-1)) dX12_pour_41 ic_m1 ?_
          obtain ⟨rfl, rfl, rfl, rfl, rfl, rfl, rfl⟩ := sm7E hf
          exact hret _ _ rfl dX12_pour_42

def fX12_pour     (v1 : Int32) (v2 : Int32) (v3 : Int32) (x74 : Nat → Int32) (x75 : Nat → Int32) (x76 : Nat → Int32) (x77 : Nat → Int32) (x78 : Nat → Int32) (x102 : Nat → Int32)  : Option (Int32 × (Nat → Int32) × (Nat → Int32) × (Nat → Int32) × (Nat → Int32) × (Nat → Int32) × (Nat → Int32)) := fX12_pour_0  v1 v2 v3 x74 x75 x76 x77 x78 x102

set_option maxHeartbeats 4000000 in
set_option maxRecDepth 100000 in
theorem c_X12_pour (l : Launch) {b0 : Nat} {D : GD} {n : Nat} {κ : QT} {X0 : XT} {Y0 : YT} {Z : ZT} (hL : LY n κ) {x74 : Nat → Int32} {x75 : Nat → Int32} {x76 : Nat → Int32} {x77 : Nat → Int32} {x78 : Nat → Int32} {x102 : Nat → Int32} (hx : ([74, 75, 76, 77, 78, 102] : List Nat).map X0 = [x74, x75, x76, x77, x78, x102]) (hy : ([] : List Nat).map Y0 = []) {v1 : Int32} {v2 : Int32} {v3 : Int32} {r : Int32} {rx74 : (Nat → Int32)} {rx75 : (Nat → Int32)} {rx76 : (Nat → Int32)} {rx77 : (Nat → Int32)} {rx78 : (Nat → Int32)} {rx102 : (Nat → Int32)} (hf : fX12_pour  v1 v2 v3 x74 x75 x76 x77 x78 x102 = some (r, rx74, rx75, rx76, rx77, rx78, rx102)) : gMi l yX12_pour cX12_pour 4 (some FieldType.int) 4 88 0 0 b0 D [.ref (b0 + 74), .int v1, .int v2, .int v3] (n, κ, X0, Y0, Z) (n, κ, ov X0 [74, 75, 76, 77, 78, 102] [rx74, rx75, rx76, rx77, rx78, rx102], ov Y0 [] [], Z) r := by
  have hN : ([74, 75, 76, 77, 78, 102] : List Nat).Nodup := by decide
  have hM : ([] : List Nat).Nodup := by decide
  refine g_meti (own := RX12) (by decide) rfl rfl (Nat.le_of_ble_eq_true rfl) ?_
  intro K hC hret
  have e := wX12_pour_0 hL hN hM hC  hret hf
  rw [ov_id' hx, ov_id' hy] at e
  exact g_sub [0, 1, 2, 3] rfl e

-- X12_rock
def fX12_rock_0     (v1 : Int32) (v2 : Int32) (x74 : (Nat → Int32)) (x75 : (Nat → Int32)) (x76 : (Nat → Int32)) (x77 : (Nat → Int32)) (x78 : (Nat → Int32)) (x102 : (Nat → Int32)) : Option (Int32 × (Nat → Int32) × (Nat → Int32) × (Nat → Int32) × (Nat → Int32) × (Nat → Int32) × (Nat → Int32)) := bd1 (fX12_isHouse x75 v1) fun r_1 => (if r_1 = 0 then (some ((-1), x74, x75, x76, x77, x78, x102)) else (bd1 (fX12_isInRiver x75 x76 v1) fun r_3 => (if r_3 = 0 then (gd (inb v1 6) (bd1 (fX12_in v2.toInt64 (((x77 v1.toNatClampNeg) + 1).toInt64) 9) fun r_6 => (if r_6 = 0 then (some ((-1), x74, x75, x76, x77, x78, x102)) else (gd (inb 6 11) (gd (inb v1 6) (if (v2 - (x77 v1.toNatClampNeg)) ≤ (x75 (6 : Int32).toNatClampNeg) then (bd6 (fX12_keepsAct x74 x75 x76 x77 x78 x102) fun x74_10 x75_11 x76_12 x77_13 x78_14 x102_15 => (gd (inb 6 11) (gd (inb v1 6) (gd (inb 6 11) (gd (inb v1 6) (gd (inb 6 11) (some ((upd x75_11 (6 : Int32).toNatClampNeg ((x75_11 (6 : Int32).toNatClampNeg) - (v2 - (x77_13 v1.toNatClampNeg)))) (6 : Int32).toNatClampNeg, x74_10, (upd x75_11 (6 : Int32).toNatClampNeg ((x75_11 (6 : Int32).toNatClampNeg) - (v2 - (x77_13 v1.toNatClampNeg)))), x76_12, (upd x77_13 v1.toNatClampNeg v2), x78_14, x102_15)))))))) else (some ((-1), x74, x75, x76, x77, x78, x102)))))))) else (some ((-1), x74, x75, x76, x77, x78, x102)))))
set_option maxHeartbeats 4000000 in
set_option maxRecDepth 100000 in
theorem wX12_rock_0 {l : Launch} {b0 : Nat} {D : GD} {K : KT} {n : Nat} {κ : QT} {X0 : XT} {Y0 : YT} {Z : ZT} (hL : LY n κ) (hN : ([74, 75, 76, 77, 78, 102] : List Nat).Nodup) (hM : ([] : List Nat).Nodup) (hC : gC l b0 D K RX12 cX12_rock (some FieldType.int) 3 4 88 0 0) {r : Int32} {rx74 : (Nat → Int32)} {rx75 : (Nat → Int32)} {rx76 : (Nat → Int32)} {rx77 : (Nat → Int32)} {rx78 : (Nat → Int32)} {rx102 : (Nat → Int32)} (hret : ∀ pc loc, narrow .int (.int r) = .int r → decode cX12_rock pc = .ok (.ireturn, 1) → gV l b0 D K (n, κ, ov X0 [74, 75, 76, 77, 78, 102] [rx74, rx75, rx76, rx77, rx78, rx102], ov Y0 [] [], Z, 0, 0) pc loc [.int r]) {v1 : Int32} {v2 : Int32} {x74 : (Nat → Int32)} {x75 : (Nat → Int32)} {x76 : (Nat → Int32)} {x77 : (Nat → Int32)} {x78 : (Nat → Int32)} {x102 : (Nat → Int32)} (hf : fX12_rock_0   v1 v2 x74 x75 x76 x77 x78 x102 = some (r, rx74, rx75, rx76, rx77, rx78, rx102)) : gV l b0 D K (n, κ, ov X0 [74, 75, 76, 77, 78, 102] [x74, x75, x76, x77, x78, x102], ov Y0 [] [], Z, 0, 0) 0 [(0, .ref (b0 + 74)), (1, .int v1), (2, .int v2)] [] := by
  unfold fX12_rock_0 at hf
  refine g_aload_n hC 0 dX12_rock_0 rfl rfl ?_
  refine g_iload_n hC 1 dX12_rock_1 rfl rfl ?_
  obtain ⟨r_1, q_2, hf⟩ := bd1E hf
  refine g_callV_i (a := 74) hC (X' := ov X0 [74, 75, 76, 77, 78, 102] [x74, x75, x76, x77, x78, x102]) (Y' := ov Y0 [] []) (As := [.int v1]) (gMi_eq (c_X12_isHouse l hL (ov_map hN [1] (by rfl) (by rfl)) (ov_map hM [] (by rfl) (by rfl)) q_2) (ov_ovE hN (by rfl) [1] [0, 2, 3, 4, 5] (by rfl) (by rfl) [x74, x76, x77, x78, x102] (by rfl) (by rfl) (by rfl) 6 (by rfl) (by decide)) (ov_ovE hM (by rfl) [] [] (by rfl) (by rfl) [] (by rfl) (by rfl) (by rfl) 0 (by rfl) (by decide))) tw_1530 tw_1527 tw_127 tw_1529 tw_74 (ci := 12) rfl (by decide) (kk_74 hL) (kn_74 hL) pd_X12_isHouse (by decide) (by decide) rfl rfl (Nat.le_of_ble_eq_true rfl) rfl dX12_rock_2 ?_
  refine g_if_eq hC 54 dX12_rock_5 (by decide) (fun hc => ?_) (fun hc => ?_)
  · replace hf := ifT hf hc
    refine g_iconst hC (v := (-1)) dX12_rock_54 ic_m1 ?_
    obtain ⟨rfl, rfl, rfl, rfl, rfl, rfl, rfl⟩ := sm7E hf
    exact hret _ _ rfl dX12_rock_55
  · replace hf := ifF hf hc
    refine g_aload_n hC 0 dX12_rock_8 rfl rfl ?_
    refine g_iload_n hC 1 dX12_rock_9 rfl rfl ?_
    obtain ⟨r_3, q_4, hf⟩ := bd1E hf
    refine g_callV_i (a := 74) hC (X' := ov X0 [74, 75, 76, 77, 78, 102] [x74, x75, x76, x77, x78, x102]) (Y' := ov Y0 [] []) (As := [.int v1]) (gMi_eq (c_X12_isInRiver l hL (ov_map hN [1, 2] (by rfl) (by rfl)) (ov_map hM [] (by rfl) (by rfl)) q_4) (ov_ovE hN (by rfl) [1, 2] [0, 3, 4, 5] (by rfl) (by rfl) [x74, x77, x78, x102] (by rfl) (by rfl) (by rfl) 6 (by rfl) (by decide)) (ov_ovE hM (by rfl) [] [] (by rfl) (by rfl) [] (by rfl) (by rfl) (by rfl) 0 (by rfl) (by decide))) tw_1638 tw_1635 tw_127 tw_1637 tw_94 (ci := 12) rfl (by decide) (kk_74 hL) (kn_74 hL) pd_X12_isInRiver (by decide) (by decide) rfl rfl (Nat.le_of_ble_eq_true rfl) rfl dX12_rock_10 ?_
    refine g_if_ne hC 54 dX12_rock_13 (by decide) (fun hc => ?_) (fun hc => ?_)
    · replace hf := ifF hf hc
      refine g_iconst hC (v := (-1)) dX12_rock_54 ic_m1 ?_
      obtain ⟨rfl, rfl, rfl, rfl, rfl, rfl, rfl⟩ := sm7E hf
      exact hret _ _ rfl dX12_rock_55
    · replace hf := ifT hf hc
      refine g_iload_n hC 2 dX12_rock_16 rfl rfl ?_
      refine g_i2l hC dX12_rock_17 ?_
      refine g_aload_n hC 0 dX12_rock_18 rfl rfl ?_
      refine gt_X12_16 hC (a := 74) (kk_74 hL) (kn_74 hL) dX12_rock_19 ?_
      refine g_ref (b := 77) rfl ?_
      refine g_iload_n hC 1 dX12_rock_22 rfl rfl ?_
      obtain ⟨h_5, hf⟩ := gdE hf
      refine g_iald hC (x := x77) (kk_77 hL) (kn_77 hL) (ov_get hN 3 rfl rfl) (inb_in h_5) dX12_rock_23 ?_
      refine g_iconst hC (v := 1) dX12_rock_24 ic_1 ?_
      refine g_iadd hC dX12_rock_25 ?_
      refine g_i2l hC dX12_rock_26 ?_
      refine g_ldc2_w hC (v := 9) tw_1651 dX12_rock_27 ?_
      obtain ⟨r_6, q_7, hf⟩ := bd1E hf
      refine g_callS_i hC (X' := ov X0 [74, 75, 76, 77, 78, 102] [x74, x75, x76, x77, x78, x102]) (Y' := ov Y0 [] []) (As := [.long v2.toInt64, .long (((x77 v1.toNatClampNeg) + 1).toInt64), .long 9]) (gMi_eq (c_X12_in l hL (ov_map hN [] (by rfl) (by rfl)) (ov_map hM [] (by rfl) (by rfl)) q_7) (ov_ovE hN (by rfl) [] [0, 1, 2, 3, 4, 5] (by rfl) (by rfl) [x74, x75, x76, x77, x78, x102] (by rfl) (by rfl) (by rfl) 6 (by rfl) (by decide)) (ov_ovE hM (by rfl) [] [] (by rfl) (by rfl) [] (by rfl) (by rfl) (by rfl) 0 (by rfl) (by decide))) tw_1428 tw_1426 tw_127 tw_1427 pd_X12_in (by decide) (by decide) rfl rfl (Nat.le_of_ble_eq_true rfl) rfl dX12_rock_30 ?_
      refine g_if_eq hC 54 dX12_rock_33 (by decide) (fun hc => ?_) (fun hc => ?_)
      · replace hf := ifT hf hc
        refine g_iconst hC (v := (-1)) dX12_rock_54 ic_m1 ?_
        obtain ⟨rfl, rfl, rfl, rfl, rfl, rfl, rfl⟩ := sm7E hf
        exact hret _ _ rfl dX12_rock_55
      · replace hf := ifF hf hc
        refine g_aload_n hC 0 dX12_rock_36 rfl rfl ?_
        refine gt_X12_9 hC (a := 74) (kk_74 hL) (kn_74 hL) dX12_rock_37 ?_
        refine g_ref (b := 75) rfl ?_
        refine g_bipush hC (v := 6) dX12_rock_40 bp_6 ?_
        obtain ⟨h_8, hf⟩ := gdE hf
        refine g_iald hC (x := x75) (kk_75 hL) (kn_75 hL) (ov_get hN 1 rfl rfl) (inb_in h_8) dX12_rock_42 ?_
        refine g_iload_n hC 2 dX12_rock_43 rfl rfl ?_
        refine g_aload_n hC 0 dX12_rock_44 rfl rfl ?_
        refine gt_X12_16 hC (a := 74) (kk_74 hL) (kn_74 hL) dX12_rock_45 ?_
        refine g_ref (b := 77) rfl ?_
        refine g_iload_n hC 1 dX12_rock_48 rfl rfl ?_
        obtain ⟨h_9, hf⟩ := gdE hf
        refine g_iald hC (x := x77) (kk_77 hL) (kn_77 hL) (ov_get hN 3 rfl rfl) (inb_in h_9) dX12_rock_49 ?_
        refine g_isub hC dX12_rock_50 ?_
        refine g_icmp_ge hC 56 dX12_rock_51 (by decide) (fun hc => ?_) (fun hc => ?_)
        · replace hf := ifT hf hc
          refine g_aload_n hC 0 dX12_rock_56 rfl rfl ?_
          obtain ⟨x74_10, x75_11, x76_12, x77_13, x78_14, x102_15, q_16, hf⟩ := bd6E hf
          refine g_callV_v (a := 74) hC (X' := ov X0 [74, 75, 76, 77, 78, 102] [x74_10, x75_11, x76_12, x77_13, x78_14, x102_15]) (Y' := ov Y0 [] []) (As := []) (gMv_eq (c_X12_keepsAct l hL (ov_map hN [0, 1, 2, 3, 4, 5] (by rfl) (by rfl)) (ov_map hM [] (by rfl) (by rfl)) q_16) (ov_ovE hN (by rfl) [0, 1, 2, 3, 4, 5] [] (by rfl) (by rfl) [] (by rfl) (by rfl) (by rfl) 6 (by rfl) (by decide)) (ov_ovE hM (by rfl) [] [] (by rfl) (by rfl) [] (by rfl) (by rfl) (by rfl) 0 (by rfl) (by decide))) tw_1589 tw_1586 tw_127 tw_1588 tw_85 (ci := 12) rfl (by decide) (kk_74 hL) (kn_74 hL) pd_X12_keepsAct (by decide) (by decide) rfl rfl (Nat.le_of_ble_eq_true rfl) rfl dX12_rock_57 ?_
          refine g_aload_n hC 0 dX12_rock_60 rfl rfl ?_
          refine gt_X12_9 hC (a := 74) (kk_74 hL) (kn_74 hL) dX12_rock_61 ?_
          refine g_ref (b := 75) rfl ?_
          refine g_bipush hC (v := 6) dX12_rock_64 bp_6 ?_
          refine g_dup2 hC dX12_rock_66 rfl rfl ?_
          obtain ⟨h_17, hf⟩ := gdE hf
          refine g_iald hC (x := x75_11) (kk_75 hL) (kn_75 hL) (ov_get hN 1 rfl rfl) (inb_in h_17) dX12_rock_67 ?_
          refine g_iload_n hC 2 dX12_rock_68 rfl rfl ?_
          refine g_aload_n hC 0 dX12_rock_69 rfl rfl ?_
          refine gt_X12_16 hC (a := 74) (kk_74 hL) (kn_74 hL) dX12_rock_70 ?_
          refine g_ref (b := 77) rfl ?_
          refine g_iload_n hC 1 dX12_rock_73 rfl rfl ?_
          obtain ⟨h_18, hf⟩ := gdE hf
          refine g_iald hC (x := x77_13) (kk_77 hL) (kn_77 hL) (ov_get hN 3 rfl rfl) (inb_in h_18) dX12_rock_74 ?_
          refine g_isub hC dX12_rock_75 ?_
          refine g_isub hC dX12_rock_76 ?_
          obtain ⟨h_19, hf⟩ := gdE hf
          refine g_iast hC (x := x75_11) (kk_75 hL) (kn_75 hL) (ov_get hN 1 rfl rfl) (inb_in h_19) (ov_set hN (by rfl) 1 (by rfl)) dX12_rock_77 ?_
          show gV l b0 D K (n, κ, ov X0 [74, 75, 76, 77, 78, 102] [x74_10, (upd x75_11 (6 : Int32).toNatClampNeg ((x75_11 (6 : Int32).toNatClampNeg) - (v2 - (x77_13 v1.toNatClampNeg)))), x76_12, x77_13, x78_14, x102_15], ov Y0 [] [], Z, 0, 0) 78 [(0, .ref (b0 + 74)), (1, .int v1), (2, .int v2)] []
          refine g_aload_n hC 0 dX12_rock_78 rfl rfl ?_
          refine gt_X12_16 hC (a := 74) (kk_74 hL) (kn_74 hL) dX12_rock_79 ?_
          refine g_ref (b := 77) rfl ?_
          refine g_iload_n hC 1 dX12_rock_82 rfl rfl ?_
          refine g_iload_n hC 2 dX12_rock_83 rfl rfl ?_
          obtain ⟨h_20, hf⟩ := gdE hf
          refine g_iast hC (x := x77_13) (kk_77 hL) (kn_77 hL) (ov_get hN 3 rfl rfl) (inb_in h_20) (ov_set hN (by rfl) 3 (by rfl)) dX12_rock_84 ?_
          show gV l b0 D K (n, κ, ov X0 [74, 75, 76, 77, 78, 102] [x74_10, (upd x75_11 (6 : Int32).toNatClampNeg ((x75_11 (6 : Int32).toNatClampNeg) - (v2 - (x77_13 v1.toNatClampNeg)))), x76_12, (upd x77_13 v1.toNatClampNeg v2), x78_14, x102_15], ov Y0 [] [], Z, 0, 0) 85 [(0, .ref (b0 + 74)), (1, .int v1), (2, .int v2)] []
          refine g_aload_n hC 0 dX12_rock_85 rfl rfl ?_
          refine gt_X12_9 hC (a := 74) (kk_74 hL) (kn_74 hL) dX12_rock_86 ?_
          refine g_ref (b := 75) rfl ?_
          refine g_bipush hC (v := 6) dX12_rock_89 bp_6 ?_
          obtain ⟨h_21, hf⟩ := gdE hf
          refine g_iald hC (x := (upd x75_11 (6 : Int32).toNatClampNeg ((x75_11 (6 : Int32).toNatClampNeg) - (v2 - (x77_13 v1.toNatClampNeg))))) (kk_75 hL) (kn_75 hL) (ov_get hN 1 rfl rfl) (inb_in h_21) dX12_rock_91 ?_
          obtain ⟨rfl, rfl, rfl, rfl, rfl, rfl, rfl⟩ := sm7E hf
          exact hret _ _ rfl dX12_rock_92
        · replace hf := ifF hf hc
          refine g_iconst hC (v := (-1)) dX12_rock_54 ic_m1 ?_
          obtain ⟨rfl, rfl, rfl, rfl, rfl, rfl, rfl⟩ := sm7E hf
          exact hret _ _ rfl dX12_rock_55

def fX12_rock     (v1 : Int32) (v2 : Int32) (x74 : Nat → Int32) (x75 : Nat → Int32) (x76 : Nat → Int32) (x77 : Nat → Int32) (x78 : Nat → Int32) (x102 : Nat → Int32)  : Option (Int32 × (Nat → Int32) × (Nat → Int32) × (Nat → Int32) × (Nat → Int32) × (Nat → Int32) × (Nat → Int32)) := fX12_rock_0  v1 v2 x74 x75 x76 x77 x78 x102

set_option maxHeartbeats 4000000 in
set_option maxRecDepth 100000 in
theorem c_X12_rock (l : Launch) {b0 : Nat} {D : GD} {n : Nat} {κ : QT} {X0 : XT} {Y0 : YT} {Z : ZT} (hL : LY n κ) {x74 : Nat → Int32} {x75 : Nat → Int32} {x76 : Nat → Int32} {x77 : Nat → Int32} {x78 : Nat → Int32} {x102 : Nat → Int32} (hx : ([74, 75, 76, 77, 78, 102] : List Nat).map X0 = [x74, x75, x76, x77, x78, x102]) (hy : ([] : List Nat).map Y0 = []) {v1 : Int32} {v2 : Int32} {r : Int32} {rx74 : (Nat → Int32)} {rx75 : (Nat → Int32)} {rx76 : (Nat → Int32)} {rx77 : (Nat → Int32)} {rx78 : (Nat → Int32)} {rx102 : (Nat → Int32)} (hf : fX12_rock  v1 v2 x74 x75 x76 x77 x78 x102 = some (r, rx74, rx75, rx76, rx77, rx78, rx102)) : gMi l yX12_rock cX12_rock 3 (some FieldType.int) 4 88 0 0 b0 D [.ref (b0 + 74), .int v1, .int v2] (n, κ, X0, Y0, Z) (n, κ, ov X0 [74, 75, 76, 77, 78, 102] [rx74, rx75, rx76, rx77, rx78, rx102], ov Y0 [] [], Z) r := by
  have hN : ([74, 75, 76, 77, 78, 102] : List Nat).Nodup := by decide
  have hM : ([] : List Nat).Nodup := by decide
  refine g_meti (own := RX12) (by decide) rfl rfl (Nat.le_of_ble_eq_true rfl) ?_
  intro K hC hret
  have e := wX12_rock_0 hL hN hM hC  hret hf
  rw [ov_id' hx, ov_id' hy] at e
  exact g_sub [0, 1, 2] rfl e

-- X12_ice
def fX12_ice_0     (v1 : Int32) (x74 : (Nat → Int32)) (x75 : (Nat → Int32)) (x76 : (Nat → Int32)) (x77 : (Nat → Int32)) (x78 : (Nat → Int32)) (x102 : (Nat → Int32)) : Option (Int32 × (Nat → Int32) × (Nat → Int32) × (Nat → Int32) × (Nat → Int32) × (Nat → Int32) × (Nat → Int32)) := bd1 (fX12_isTown x75) fun r_1 => (if r_1 = 0 then (some ((-1), x74, x75, x76, x77, x78, x102)) else (bd1 (fX12_in v1.toInt64 1 9) fun r_3 => (if r_3 = 0 then (some ((-1), x74, x75, x76, x77, x78, x102)) else (bd6 (fX12_keepsAct x74 x75 x76 x77 x78 x102) fun x74_5 x75_6 x76_7 x77_8 x78_9 x102_10 => (gd (inb 7 11) (bn (x75_6 (7 : Int32).toNatClampNeg) fun t_13 => (gd (inb 7 11) (some (t_13, x74_5, (upd x75_6 (7 : Int32).toNatClampNeg v1), x76_7, x77_8, x78_9, x102_10)))))))))
set_option maxHeartbeats 4000000 in
set_option maxRecDepth 100000 in
theorem wX12_ice_0 {l : Launch} {b0 : Nat} {D : GD} {K : KT} {n : Nat} {κ : QT} {X0 : XT} {Y0 : YT} {Z : ZT} (hL : LY n κ) (hN : ([74, 75, 76, 77, 78, 102] : List Nat).Nodup) (hM : ([] : List Nat).Nodup) (hC : gC l b0 D K RX12 cX12_ice (some FieldType.int) 3 4 88 0 0) {r : Int32} {rx74 : (Nat → Int32)} {rx75 : (Nat → Int32)} {rx76 : (Nat → Int32)} {rx77 : (Nat → Int32)} {rx78 : (Nat → Int32)} {rx102 : (Nat → Int32)} (hret : ∀ pc loc, narrow .int (.int r) = .int r → decode cX12_ice pc = .ok (.ireturn, 1) → gV l b0 D K (n, κ, ov X0 [74, 75, 76, 77, 78, 102] [rx74, rx75, rx76, rx77, rx78, rx102], ov Y0 [] [], Z, 0, 0) pc loc [.int r]) {v1 : Int32} {x74 : (Nat → Int32)} {x75 : (Nat → Int32)} {x76 : (Nat → Int32)} {x77 : (Nat → Int32)} {x78 : (Nat → Int32)} {x102 : (Nat → Int32)} (hf : fX12_ice_0   v1 x74 x75 x76 x77 x78 x102 = some (r, rx74, rx75, rx76, rx77, rx78, rx102)) : gV l b0 D K (n, κ, ov X0 [74, 75, 76, 77, 78, 102] [x74, x75, x76, x77, x78, x102], ov Y0 [] [], Z, 0, 0) 0 [(0, .ref (b0 + 74)), (1, .int v1)] [] := by
  unfold fX12_ice_0 at hf
  refine g_aload_n hC 0 dX12_ice_0 rfl rfl ?_
  obtain ⟨r_1, q_2, hf⟩ := bd1E hf
  refine g_callV_i (a := 74) hC (X' := ov X0 [74, 75, 76, 77, 78, 102] [x74, x75, x76, x77, x78, x102]) (Y' := ov Y0 [] []) (As := []) (gMi_eq (c_X12_isTown l hL (ov_map hN [1] (by rfl) (by rfl)) (ov_map hM [] (by rfl) (by rfl)) q_2) (ov_ovE hN (by rfl) [1] [0, 2, 3, 4, 5] (by rfl) (by rfl) [x74, x76, x77, x78, x102] (by rfl) (by rfl) (by rfl) 6 (by rfl) (by decide)) (ov_ovE hM (by rfl) [] [] (by rfl) (by rfl) [] (by rfl) (by rfl) (by rfl) 0 (by rfl) (by decide))) tw_1585 tw_1582 tw_127 tw_1584 tw_84 (ci := 12) rfl (by decide) (kk_74 hL) (kn_74 hL) pd_X12_isTown (by decide) (by decide) rfl rfl (Nat.le_of_ble_eq_true rfl) rfl dX12_ice_1 ?_
  refine g_if_eq hC 19 dX12_ice_4 (by decide) (fun hc => ?_) (fun hc => ?_)
  · replace hf := ifT hf hc
    refine g_iconst hC (v := (-1)) dX12_ice_19 ic_m1 ?_
    obtain ⟨rfl, rfl, rfl, rfl, rfl, rfl, rfl⟩ := sm7E hf
    exact hret _ _ rfl dX12_ice_20
  · replace hf := ifF hf hc
    refine g_iload_n hC 1 dX12_ice_7 rfl rfl ?_
    refine g_i2l hC dX12_ice_8 ?_
    refine g_lconst hC (v := 1) dX12_ice_9 rfl ?_
    refine g_ldc2_w hC (v := 9) tw_1651 dX12_ice_10 ?_
    obtain ⟨r_3, q_4, hf⟩ := bd1E hf
    refine g_callS_i hC (X' := ov X0 [74, 75, 76, 77, 78, 102] [x74, x75, x76, x77, x78, x102]) (Y' := ov Y0 [] []) (As := [.long v1.toInt64, .long 1, .long 9]) (gMi_eq (c_X12_in l hL (ov_map hN [] (by rfl) (by rfl)) (ov_map hM [] (by rfl) (by rfl)) q_4) (ov_ovE hN (by rfl) [] [0, 1, 2, 3, 4, 5] (by rfl) (by rfl) [x74, x75, x76, x77, x78, x102] (by rfl) (by rfl) (by rfl) 6 (by rfl) (by decide)) (ov_ovE hM (by rfl) [] [] (by rfl) (by rfl) [] (by rfl) (by rfl) (by rfl) 0 (by rfl) (by decide))) tw_1428 tw_1426 tw_127 tw_1427 pd_X12_in (by decide) (by decide) rfl rfl (Nat.le_of_ble_eq_true rfl) rfl dX12_ice_13 ?_
    refine g_if_ne hC 21 dX12_ice_16 (by decide) (fun hc => ?_) (fun hc => ?_)
    · replace hf := ifF hf hc
      refine g_aload_n hC 0 dX12_ice_21 rfl rfl ?_
      obtain ⟨x74_5, x75_6, x76_7, x77_8, x78_9, x102_10, q_11, hf⟩ := bd6E hf
      refine g_callV_v (a := 74) hC (X' := ov X0 [74, 75, 76, 77, 78, 102] [x74_5, x75_6, x76_7, x77_8, x78_9, x102_10]) (Y' := ov Y0 [] []) (As := []) (gMv_eq (c_X12_keepsAct l hL (ov_map hN [0, 1, 2, 3, 4, 5] (by rfl) (by rfl)) (ov_map hM [] (by rfl) (by rfl)) q_11) (ov_ovE hN (by rfl) [0, 1, 2, 3, 4, 5] [] (by rfl) (by rfl) [] (by rfl) (by rfl) (by rfl) 6 (by rfl) (by decide)) (ov_ovE hM (by rfl) [] [] (by rfl) (by rfl) [] (by rfl) (by rfl) (by rfl) 0 (by rfl) (by decide))) tw_1589 tw_1586 tw_127 tw_1588 tw_85 (ci := 12) rfl (by decide) (kk_74 hL) (kn_74 hL) pd_X12_keepsAct (by decide) (by decide) rfl rfl (Nat.le_of_ble_eq_true rfl) rfl dX12_ice_22 ?_
      refine g_aload_n hC 0 dX12_ice_25 rfl rfl ?_
      refine gt_X12_9 hC (a := 74) (kk_74 hL) (kn_74 hL) dX12_ice_26 ?_
      refine g_ref (b := 75) rfl ?_
      refine g_bipush hC (v := 7) dX12_ice_29 bp_7 ?_
      obtain ⟨h_12, hf⟩ := gdE hf
      refine g_iald hC (x := x75_6) (kk_75 hL) (kn_75 hL) (ov_get hN 1 rfl rfl) (inb_in h_12) dX12_ice_31 ?_
      obtain ⟨t_13, et_13, hf⟩ := bnE hf
      refine g_topi et_13 ?_
      refine g_istore_n hC (i := 2) [(2, .int t_13), (0, .ref (b0 + 74)), (1, .int v1)] rfl dX12_ice_32 (by decide) rfl ?_
      refine g_aload_n hC 1 dX12_ice_33 rfl rfl ?_
      refine gt_X12_9 hC (a := 74) (kk_74 hL) (kn_74 hL) dX12_ice_34 ?_
      refine g_ref (b := 75) rfl ?_
      refine g_bipush hC (v := 7) dX12_ice_37 bp_7 ?_
      refine g_iload_n hC 2 dX12_ice_39 rfl rfl ?_
      obtain ⟨h_14, hf⟩ := gdE hf
      refine g_iast hC (x := x75_6) (kk_75 hL) (kn_75 hL) (ov_get hN 1 rfl rfl) (inb_in h_14) (ov_set hN (by rfl) 1 (by rfl)) dX12_ice_40 ?_
      show gV l b0 D K (n, κ, ov X0 [74, 75, 76, 77, 78, 102] [x74_5, (upd x75_6 (7 : Int32).toNatClampNeg v1), x76_7, x77_8, x78_9, x102_10], ov Y0 [] [], Z, 0, 0) 41 [(2, .int t_13), (0, .ref (b0 + 74)), (1, .int v1)] []
      refine g_iload_n hC 0 dX12_ice_41 rfl rfl ?_
      obtain ⟨rfl, rfl, rfl, rfl, rfl, rfl, rfl⟩ := sm7E hf
      exact hret _ _ rfl dX12_ice_42
    · replace hf := ifT hf hc
      refine g_iconst hC (v := (-1)) dX12_ice_19 ic_m1 ?_
      obtain ⟨rfl, rfl, rfl, rfl, rfl, rfl, rfl⟩ := sm7E hf
      exact hret _ _ rfl dX12_ice_20

def fX12_ice     (v1 : Int32) (x74 : Nat → Int32) (x75 : Nat → Int32) (x76 : Nat → Int32) (x77 : Nat → Int32) (x78 : Nat → Int32) (x102 : Nat → Int32)  : Option (Int32 × (Nat → Int32) × (Nat → Int32) × (Nat → Int32) × (Nat → Int32) × (Nat → Int32) × (Nat → Int32)) := fX12_ice_0  v1 x74 x75 x76 x77 x78 x102

set_option maxHeartbeats 4000000 in
set_option maxRecDepth 100000 in
theorem c_X12_ice (l : Launch) {b0 : Nat} {D : GD} {n : Nat} {κ : QT} {X0 : XT} {Y0 : YT} {Z : ZT} (hL : LY n κ) {x74 : Nat → Int32} {x75 : Nat → Int32} {x76 : Nat → Int32} {x77 : Nat → Int32} {x78 : Nat → Int32} {x102 : Nat → Int32} (hx : ([74, 75, 76, 77, 78, 102] : List Nat).map X0 = [x74, x75, x76, x77, x78, x102]) (hy : ([] : List Nat).map Y0 = []) {v1 : Int32} {r : Int32} {rx74 : (Nat → Int32)} {rx75 : (Nat → Int32)} {rx76 : (Nat → Int32)} {rx77 : (Nat → Int32)} {rx78 : (Nat → Int32)} {rx102 : (Nat → Int32)} (hf : fX12_ice  v1 x74 x75 x76 x77 x78 x102 = some (r, rx74, rx75, rx76, rx77, rx78, rx102)) : gMi l yX12_ice cX12_ice 3 (some FieldType.int) 4 88 0 0 b0 D [.ref (b0 + 74), .int v1] (n, κ, X0, Y0, Z) (n, κ, ov X0 [74, 75, 76, 77, 78, 102] [rx74, rx75, rx76, rx77, rx78, rx102], ov Y0 [] [], Z) r := by
  have hN : ([74, 75, 76, 77, 78, 102] : List Nat).Nodup := by decide
  have hM : ([] : List Nat).Nodup := by decide
  refine g_meti (own := RX12) (by decide) rfl rfl (Nat.le_of_ble_eq_true rfl) ?_
  intro K hC hret
  have e := wX12_ice_0 hL hN hM hC  hret hf
  rw [ov_id' hx, ov_id' hy] at e
  exact g_sub [0, 1] rfl e


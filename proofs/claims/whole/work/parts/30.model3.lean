-- X12_isInRiver
def fX12_isInRiver_0   (x75 : Nat → Int32) (x76 : Nat → Int32)  (v1 : Int32) : Option (Int32) := gd (inb v1 6) (gd (inb 0 11) (if (x76 v1.toNatClampNeg) = (x75 (0 : Int32).toNatClampNeg) then (some 1) else (some 0)))
set_option maxHeartbeats 4000000 in
set_option maxRecDepth 100000 in
theorem wX12_isInRiver_0 {l : Launch} {b0 : Nat} {D : GD} {K : KT} {n : Nat} {κ : QT} {X0 : XT} {Y0 : YT} {Z : ZT} (hL : LY n κ) (hN : ([75, 76] : List Nat).Nodup) (hM : ([] : List Nat).Nodup) (hC : gC l b0 D K RX12 cX12_isInRiver (some FieldType.boolean) 2 0 0 0 0) {x75 : Nat → Int32} {x76 : Nat → Int32} {r : Int32} (hret : ∀ pc loc, narrow .boolean (.int r) = .int r → decode cX12_isInRiver pc = .ok (.ireturn, 1) → gV l b0 D K (n, κ, ov X0 [75, 76] [x75, x76], ov Y0 [] [], Z, 0, 0) pc loc [.int r]) {v1 : Int32} (hf : fX12_isInRiver_0 x75 x76  v1 = some r) : gV l b0 D K (n, κ, ov X0 [75, 76] [x75, x76], ov Y0 [] [], Z, 0, 0) 0 [(0, .ref (b0 + 74)), (1, .int v1)] [] := by
  unfold fX12_isInRiver_0 at hf
  refine g_aload_n hC 0 dX12_isInRiver_0 rfl rfl ?_
  refine gt_X12_13 hC (a := 74) (kk_74 hL) (kn_74 hL) dX12_isInRiver_1 ?_
  refine g_ref (b := 76) rfl ?_
  refine g_iload_n hC 1 dX12_isInRiver_4 rfl rfl ?_
  obtain ⟨h_1, hf⟩ := gdE hf
  refine g_iald hC (x := x76) (kk_76 hL) (kn_76 hL) (ov_get hN 1 rfl rfl) (inb_in h_1) dX12_isInRiver_5 ?_
  refine g_aload_n hC 0 dX12_isInRiver_6 rfl rfl ?_
  refine gt_X12_9 hC (a := 74) (kk_74 hL) (kn_74 hL) dX12_isInRiver_7 ?_
  refine g_ref (b := 75) rfl ?_
  refine g_iconst hC (v := 0) dX12_isInRiver_10 ic_0 ?_
  obtain ⟨h_2, hf⟩ := gdE hf
  refine g_iald hC (x := x75) (kk_75 hL) (kn_75 hL) (ov_get hN 0 rfl rfl) (inb_in h_2) dX12_isInRiver_11 ?_
  refine g_icmp_ne hC 19 dX12_isInRiver_12 (by decide) (fun hc => ?_) (fun hc => ?_)
  · replace hf := ifF hf hc
    refine g_iconst hC (v := 0) dX12_isInRiver_19 ic_0 ?_
    obtain rfl := sm1E hf
    exact hret _ _ rfl dX12_isInRiver_20
  · replace hf := ifT hf hc
    refine g_iconst hC (v := 1) dX12_isInRiver_15 ic_1 ?_
    refine g_goto hC 20 dX12_isInRiver_16 (by decide) ?_
    obtain rfl := sm1E hf
    exact hret _ _ rfl dX12_isInRiver_20

def fX12_isInRiver   (x75 : Nat → Int32) (x76 : Nat → Int32)  (v1 : Int32)   : Option (Int32) := fX12_isInRiver_0 x75 x76 v1

set_option maxHeartbeats 4000000 in
set_option maxRecDepth 100000 in
theorem c_X12_isInRiver (l : Launch) {b0 : Nat} {D : GD} {n : Nat} {κ : QT} {X0 : XT} {Y0 : YT} {Z : ZT} (hL : LY n κ) {x75 : Nat → Int32} {x76 : Nat → Int32} (hx : ([75, 76] : List Nat).map X0 = [x75, x76]) (hy : ([] : List Nat).map Y0 = []) {v1 : Int32} {r : Int32} (hf : fX12_isInRiver x75 x76 v1 = some r) : gMi l yX12_isInRiver cX12_isInRiver 2 (some FieldType.boolean) 0 0 0 0 b0 D [.ref (b0 + 74), .int v1] (n, κ, X0, Y0, Z) (n, κ, ov X0 [75, 76] [x75, x76], ov Y0 [] [], Z) r := by
  have hN : ([75, 76] : List Nat).Nodup := by decide
  have hM : ([] : List Nat).Nodup := by decide
  refine g_meti (own := RX12) (by decide) rfl rfl (Nat.le_of_ble_eq_true rfl) ?_
  intro K hC hret
  have e := wX12_isInRiver_0 hL hN hM hC  hret hf
  rw [ov_id' hx, ov_id' hy] at e
  exact g_sub [0, 1] rfl e

-- X12_joinedTo
def fX12_joinedTo_36   (x75 : Nat → Int32) (x78 : Nat → Int32)  (k4 : Int32 → Int32 → Int32 → Option (Int32)) (v1 : Int32) (v3 : Int32) (s0 : Int32) (s1 : Int32) : Option (Int32) := bn (s1 ||| s0) fun t_1 => (bn (v3 + 1) fun t_2 => (k4 v1 t_1 t_2))
set_option maxHeartbeats 4000000 in
set_option maxRecDepth 100000 in
theorem wX12_joinedTo_36 {l : Launch} {b0 : Nat} {D : GD} {K : KT} {n : Nat} {κ : QT} {X0 : XT} {Y0 : YT} {Z : ZT} (hL : LY n κ) (hN : ([75, 78] : List Nat).Nodup) (hM : ([] : List Nat).Nodup) (hC : gC l b0 D K RX12 cX12_joinedTo (some FieldType.int) 4 0 0 0 0) {x75 : Nat → Int32} {x78 : Nat → Int32} {r : Int32} (hret : ∀ pc loc, narrow .int (.int r) = .int r → decode cX12_joinedTo pc = .ok (.ireturn, 1) → gV l b0 D K (n, κ, ov X0 [75, 78] [x75, x78], ov Y0 [] [], Z, 0, 0) pc loc [.int r]) {k4 : Int32 → Int32 → Int32 → Option (Int32)} (hk4 : ∀ (v1 : Int32) (v2 : Int32) (v3 : Int32), k4 v1 v2 v3 = some r → gV l b0 D K (n, κ, ov X0 [75, 78] [x75, x78], ov Y0 [] [], Z, 0, 0) 4 [(0, .ref (b0 + 74)), (1, .int v1), (2, .int v2), (3, .int v3)] []) {v1 : Int32} {v3 : Int32} {s0 : Int32} {s1 : Int32} (hf : fX12_joinedTo_36 x75 x78 k4 v1 v3 s0 s1 = some r) : gV l b0 D K (n, κ, ov X0 [75, 78] [x75, x78], ov Y0 [] [], Z, 0, 0) 36 [(0, .ref (b0 + 74)), (1, .int v1), (3, .int v3)] [.int s0, .int s1] := by
  unfold fX12_joinedTo_36 at hf
  refine g_ior hC dX12_joinedTo_36 ?_
  obtain ⟨t_1, et_1, hf⟩ := bnE hf
  refine g_topi et_1 ?_
  refine g_istore_n hC (i := 2) [(2, .int t_1), (0, .ref (b0 + 74)), (1, .int v1), (3, .int v3)] rfl dX12_joinedTo_37 (by decide) rfl ?_
  obtain ⟨t_2, et_2, hf⟩ := bnE hf
  refine g_iinc hC (i := 3) (v := t_2) [(3, .int t_2), (2, .int t_1), (0, .ref (b0 + 74)), (1, .int v1)] dX12_joinedTo_38 (q := 3) rfl ((congrArg (HAdd.hAdd v3) ic_1).trans et_2.symm) (by decide) rfl ?_
  refine g_goto hC 4 dX12_joinedTo_41 (by decide) ?_
  exact g_sub [2, 3, 1, 0] rfl (hk4 v1 t_1 t_2 hf)

def fX12_joinedTo_4b   (x75 : Nat → Int32) (x78 : Nat → Int32)  (k4 : Int32 → Int32 → Int32 → Option (Int32)) (v1 : Int32) (v2 : Int32) (v3 : Int32) : Option (Int32) := gd (inb 4 11) (if (x75 (4 : Int32).toNatClampNeg) ≤ v3 then (some v2) else (gd (inb ((6 * v1) + v3) 36) (if (x78 ((6 * v1) + v3).toNatClampNeg) ≤ 0 then (fX12_joinedTo_36 x75 x78 k4 v1 v3 0 v2) else (fX12_joinedTo_36 x75 x78 k4 v1 v3 (1 <<< (v3 &&& 31)) v2))))
def fX12_joinedTo_4   (x75 : Nat → Int32) (x78 : Nat → Int32)  : Int32 → Int32 → Int32 → Option (Int32) := lq3 (fX12_joinedTo_4b x75 x78 ) 5000
set_option maxHeartbeats 4000000 in
set_option maxRecDepth 100000 in
theorem wX12_joinedTo_4 {l : Launch} {b0 : Nat} {D : GD} {K : KT} {n : Nat} {κ : QT} {X0 : XT} {Y0 : YT} {Z : ZT} (hL : LY n κ) (hN : ([75, 78] : List Nat).Nodup) (hM : ([] : List Nat).Nodup) (hC : gC l b0 D K RX12 cX12_joinedTo (some FieldType.int) 4 0 0 0 0) {x75 : Nat → Int32} {x78 : Nat → Int32} {r : Int32} (hret : ∀ pc loc, narrow .int (.int r) = .int r → decode cX12_joinedTo pc = .ok (.ireturn, 1) → gV l b0 D K (n, κ, ov X0 [75, 78] [x75, x78], ov Y0 [] [], Z, 0, 0) pc loc [.int r]) : ∀ (j : Nat) (v1 : Int32) (v2 : Int32) (v3 : Int32), lq3 (fX12_joinedTo_4b x75 x78 ) j v1 v2 v3 = some r → gV l b0 D K (n, κ, ov X0 [75, 78] [x75, x78], ov Y0 [] [], Z, 0, 0) 4 [(0, .ref (b0 + 74)), (1, .int v1), (2, .int v2), (3, .int v3)] [] := by
  intro j
  induction j with
  | zero => intro v1 v2 v3 hf; cases hf
  | succ j hk4 =>
    intro v1 v2 v3 hf
    replace hf : fX12_joinedTo_4b x75 x78  (lq3 (fX12_joinedTo_4b x75 x78 ) j) v1 v2 v3 = some r := hf
    unfold fX12_joinedTo_4b at hf
    refine g_iload_n hC 3 dX12_joinedTo_4 rfl rfl ?_
    refine g_aload_n hC 0 dX12_joinedTo_5 rfl rfl ?_
    refine gt_X12_9 hC (a := 74) (kk_74 hL) (kn_74 hL) dX12_joinedTo_6 ?_
    refine g_ref (b := 75) rfl ?_
    refine g_iconst hC (v := 4) dX12_joinedTo_9 ic_4 ?_
    obtain ⟨h_1, hf⟩ := gdE hf
    refine g_iald hC (x := x75) (kk_75 hL) (kn_75 hL) (ov_get hN 0 rfl rfl) (inb_in h_1) dX12_joinedTo_10 ?_
    refine g_icmp_ge hC 44 dX12_joinedTo_11 (by decide) (fun hc => ?_) (fun hc => ?_)
    · replace hf := ifT hf hc
      refine g_iload_n hC 2 dX12_joinedTo_44 rfl rfl ?_
      obtain rfl := sm1E hf
      exact hret _ _ rfl dX12_joinedTo_45
    · replace hf := ifF hf hc
      refine g_iload_n hC 2 dX12_joinedTo_14 rfl rfl ?_
      refine g_aload_n hC 0 dX12_joinedTo_15 rfl rfl ?_
      refine gt_X12_19 hC (a := 74) (kk_74 hL) (kn_74 hL) dX12_joinedTo_16 ?_
      refine g_ref (b := 78) rfl ?_
      refine g_bipush hC (v := 6) dX12_joinedTo_19 bp_6 ?_
      refine g_iload_n hC 1 dX12_joinedTo_21 rfl rfl ?_
      refine g_imul hC dX12_joinedTo_22 ?_
      refine g_iload_n hC 3 dX12_joinedTo_23 rfl rfl ?_
      refine g_iadd hC dX12_joinedTo_24 ?_
      obtain ⟨h_2, hf⟩ := gdE hf
      refine g_iald hC (x := x78) (kk_78 hL) (kn_78 hL) (ov_get hN 1 rfl rfl) (inb_in h_2) dX12_joinedTo_25 ?_
      refine g_if_le hC 35 dX12_joinedTo_26 (by decide) (fun hc => ?_) (fun hc => ?_)
      · replace hf := ifT hf hc
        refine g_iconst hC (v := 0) dX12_joinedTo_35 ic_0 ?_
        exact g_sub [0, 1, 3] rfl (wX12_joinedTo_36 hL hN hM hC  hret hk4 hf)
      · replace hf := ifF hf hc
        refine g_iconst hC (v := 1) dX12_joinedTo_29 ic_1 ?_
        refine g_iload_n hC 3 dX12_joinedTo_30 rfl rfl ?_
        refine g_ishl hC dX12_joinedTo_31 ?_
        refine g_goto hC 36 dX12_joinedTo_32 (by decide) ?_
        exact g_sub [0, 1, 3] rfl (wX12_joinedTo_36 hL hN hM hC  hret hk4 hf)

def fX12_joinedTo_0   (x75 : Nat → Int32) (x78 : Nat → Int32)  (v1 : Int32) : Option (Int32) := fX12_joinedTo_4 x75 x78  v1 0 0
set_option maxHeartbeats 4000000 in
set_option maxRecDepth 100000 in
theorem wX12_joinedTo_0 {l : Launch} {b0 : Nat} {D : GD} {K : KT} {n : Nat} {κ : QT} {X0 : XT} {Y0 : YT} {Z : ZT} (hL : LY n κ) (hN : ([75, 78] : List Nat).Nodup) (hM : ([] : List Nat).Nodup) (hC : gC l b0 D K RX12 cX12_joinedTo (some FieldType.int) 4 0 0 0 0) {x75 : Nat → Int32} {x78 : Nat → Int32} {r : Int32} (hret : ∀ pc loc, narrow .int (.int r) = .int r → decode cX12_joinedTo pc = .ok (.ireturn, 1) → gV l b0 D K (n, κ, ov X0 [75, 78] [x75, x78], ov Y0 [] [], Z, 0, 0) pc loc [.int r]) {v1 : Int32} (hf : fX12_joinedTo_0 x75 x78  v1 = some r) : gV l b0 D K (n, κ, ov X0 [75, 78] [x75, x78], ov Y0 [] [], Z, 0, 0) 0 [(0, .ref (b0 + 74)), (1, .int v1)] [] := by
  unfold fX12_joinedTo_0 at hf
  refine g_iconst hC (v := 0) dX12_joinedTo_0 ic_0 ?_
  refine g_istore_n hC (i := 2) [(2, .int 0), (0, .ref (b0 + 74)), (1, .int v1)] rfl dX12_joinedTo_1 (by decide) rfl ?_
  refine g_iconst hC (v := 0) dX12_joinedTo_2 ic_0 ?_
  refine g_istore_n hC (i := 3) [(3, .int 0), (2, .int 0), (0, .ref (b0 + 74)), (1, .int v1)] rfl dX12_joinedTo_3 (by decide) rfl ?_
  exact g_sub [2, 3, 1, 0] rfl (wX12_joinedTo_4 hL hN hM hC  hret  5000 v1 0 0 hf)

def fX12_joinedTo   (x75 : Nat → Int32) (x78 : Nat → Int32)  (v1 : Int32)   : Option (Int32) := fX12_joinedTo_0 x75 x78 v1

set_option maxHeartbeats 4000000 in
set_option maxRecDepth 100000 in
theorem c_X12_joinedTo (l : Launch) {b0 : Nat} {D : GD} {n : Nat} {κ : QT} {X0 : XT} {Y0 : YT} {Z : ZT} (hL : LY n κ) {x75 : Nat → Int32} {x78 : Nat → Int32} (hx : ([75, 78] : List Nat).map X0 = [x75, x78]) (hy : ([] : List Nat).map Y0 = []) {v1 : Int32} {r : Int32} (hf : fX12_joinedTo x75 x78 v1 = some r) : gMi l yX12_joinedTo cX12_joinedTo 4 (some FieldType.int) 0 0 0 0 b0 D [.ref (b0 + 74), .int v1] (n, κ, X0, Y0, Z) (n, κ, ov X0 [75, 78] [x75, x78], ov Y0 [] [], Z) r := by
  have hN : ([75, 78] : List Nat).Nodup := by decide
  have hM : ([] : List Nat).Nodup := by decide
  refine g_meti (own := RX12) (by decide) rfl rfl (Nat.le_of_ble_eq_true rfl) ?_
  intro K hC hret
  have e := wX12_joinedTo_0 hL hN hM hC  hret hf
  rw [ov_id' hx, ov_id' hy] at e
  exact g_sub [0, 1] rfl e

-- X12_house
def fX12_house_0   (x74 : Nat → Int32) (x75 : Nat → Int32) (x76 : Nat → Int32) (x77 : Nat → Int32) (x78 : Nat → Int32) (x79 : Nat → Int32)  (v1 : Int32) (v2 : Int32) : Option (Int32) := bd1 (fX12_isHouse x75 v1) fun r_1 => (if r_1 = 0 then (some (-1)) else (if v2.toInt = 0 then (gd (inb v1 6) (some (x76 v1.toNatClampNeg))) else (if v2.toInt = 1 then (gd (inb v1 6) (some (x77 v1.toNatClampNeg))) else (if v2.toInt = 2 then (bd1 (fX12_joinedTo x75 x78 v1) fun r_8 => (some r_8)) else (if v2.toInt = 3 then (bd1 (fX12_heat x74 x75 x79) fun r_11 => (bd1 (fX12_blockOf x75 x78 v1 r_11) fun r_13 => (some r_13))) else (if v2.toInt = 4 then (bd1 (fX12_heat x74 x75 x79) fun r_16 => (bd1 (fX12_blockOf x75 x78 v1 r_16) fun r_18 => (bd1 (fX12_heat x74 x75 x79) fun r_20 => (bd1 (fX12_isFast x75 x77 r_18 r_20) fun r_22 => (if r_22 = 0 then (some 0) else (some 1)))))) else (some (-1))))))))
set_option maxHeartbeats 4000000 in
set_option maxRecDepth 100000 in
theorem wX12_house_0 {l : Launch} {b0 : Nat} {D : GD} {K : KT} {n : Nat} {κ : QT} {X0 : XT} {Y0 : YT} {Z : ZT} (hL : LY n κ) (hN : ([74, 75, 76, 77, 78, 79] : List Nat).Nodup) (hM : ([] : List Nat).Nodup) (hC : gC l b0 D K RX12 cX12_house (some FieldType.int) 3 2 48 0 0) {x74 : Nat → Int32} {x75 : Nat → Int32} {x76 : Nat → Int32} {x77 : Nat → Int32} {x78 : Nat → Int32} {x79 : Nat → Int32} {r : Int32} (hret : ∀ pc loc, narrow .int (.int r) = .int r → decode cX12_house pc = .ok (.ireturn, 1) → gV l b0 D K (n, κ, ov X0 [74, 75, 76, 77, 78, 79] [x74, x75, x76, x77, x78, x79], ov Y0 [] [], Z, 0, 0) pc loc [.int r]) {v1 : Int32} {v2 : Int32} (hf : fX12_house_0 x74 x75 x76 x77 x78 x79  v1 v2 = some r) : gV l b0 D K (n, κ, ov X0 [74, 75, 76, 77, 78, 79] [x74, x75, x76, x77, x78, x79], ov Y0 [] [], Z, 0, 0) 0 [(0, .ref (b0 + 74)), (1, .int v1), (2, .int v2)] [] := by
  unfold fX12_house_0 at hf
  refine g_aload_n hC 0 dX12_house_0 rfl rfl ?_
  refine g_iload_n hC 1 dX12_house_1 rfl rfl ?_
  obtain ⟨r_1, q_2, hf⟩ := bd1E hf
  refine g_callV_i (a := 74) hC (X' := ov X0 [74, 75, 76, 77, 78, 79] [x74, x75, x76, x77, x78, x79]) (Y' := ov Y0 [] []) (As := [.int v1]) (gMi_eq (c_X12_isHouse l hL (ov_map hN [1] (by rfl) (by rfl)) (ov_map hM [] (by rfl) (by rfl)) q_2) (ov_ovE hN (by rfl) [1] [0, 2, 3, 4, 5] (by rfl) (by rfl) [x74, x76, x77, x78, x79] (by rfl) (by rfl) (by rfl) 6 (by rfl) (by decide)) (ov_ovE hM (by rfl) [] [] (by rfl) (by rfl) [] (by rfl) (by rfl) (by rfl) 0 (by rfl) (by decide))) tw_1530 tw_1527 tw_127 tw_1529 tw_74 (ci := 12) rfl (by decide) (kk_74 hL) (kn_74 hL) pd_X12_isHouse (by decide) (by decide) rfl rfl (Nat.le_of_ble_eq_true rfl) rfl dX12_house_2 ?_
  refine g_if_ne hC 10 dX12_house_5 (by decide) (fun hc => ?_) (fun hc => ?_)
  · replace hf := ifF hf hc
    refine g_iload_n hC 2 dX12_house_10 rfl rfl ?_
    by_cases c_3 : v2.toInt = 0
    · replace hf := ifT hf c_3
      refine g_tabIn hC 44 dX12_house_11 (by omega) (by omega) (by rw [c_3]; rfl) (by decide) ?_
      refine g_aload_n hC 0 dX12_house_44 rfl rfl ?_
      refine gt_X12_13 hC (a := 74) (kk_74 hL) (kn_74 hL) dX12_house_45 ?_
      refine g_ref (b := 76) rfl ?_
      refine g_iload_n hC 1 dX12_house_48 rfl rfl ?_
      obtain ⟨h_4, hf⟩ := gdE hf
      refine g_iald hC (x := x76) (kk_76 hL) (kn_76 hL) (ov_get hN 2 rfl rfl) (inb_in h_4) dX12_house_49 ?_
      obtain rfl := sm1E hf
      exact hret _ _ rfl dX12_house_50
    replace hf := ifF hf c_3
    by_cases c_5 : v2.toInt = 1
    · replace hf := ifT hf c_5
      refine g_tabIn hC 51 dX12_house_11 (by omega) (by omega) (by rw [c_5]; rfl) (by decide) ?_
      refine g_aload_n hC 0 dX12_house_51 rfl rfl ?_
      refine gt_X12_16 hC (a := 74) (kk_74 hL) (kn_74 hL) dX12_house_52 ?_
      refine g_ref (b := 77) rfl ?_
      refine g_iload_n hC 1 dX12_house_55 rfl rfl ?_
      obtain ⟨h_6, hf⟩ := gdE hf
      refine g_iald hC (x := x77) (kk_77 hL) (kn_77 hL) (ov_get hN 3 rfl rfl) (inb_in h_6) dX12_house_56 ?_
      obtain rfl := sm1E hf
      exact hret _ _ rfl dX12_house_57
    replace hf := ifF hf c_5
    by_cases c_7 : v2.toInt = 2
    · replace hf := ifT hf c_7
      refine g_tabIn hC 58 dX12_house_11 (by omega) (by omega) (by rw [c_7]; rfl) (by decide) ?_
      refine g_aload_n hC 0 dX12_house_58 rfl rfl ?_
      refine g_iload_n hC 1 dX12_house_59 rfl rfl ?_
      obtain ⟨r_8, q_9, hf⟩ := bd1E hf
      refine g_callV_i (a := 74) hC (X' := ov X0 [74, 75, 76, 77, 78, 79] [x74, x75, x76, x77, x78, x79]) (Y' := ov Y0 [] []) (As := [.int v1]) (gMi_eq (c_X12_joinedTo l hL (ov_map hN [1, 4] (by rfl) (by rfl)) (ov_map hM [] (by rfl) (by rfl)) q_9) (ov_ovE hN (by rfl) [1, 4] [0, 2, 3, 5] (by rfl) (by rfl) [x74, x76, x77, x79] (by rfl) (by rfl) (by rfl) 6 (by rfl) (by decide)) (ov_ovE hM (by rfl) [] [] (by rfl) (by rfl) [] (by rfl) (by rfl) (by rfl) 0 (by rfl) (by decide))) tw_1534 tw_1531 tw_127 tw_1533 tw_75 (ci := 12) rfl (by decide) (kk_74 hL) (kn_74 hL) pd_X12_joinedTo (by decide) (by decide) rfl rfl (Nat.le_of_ble_eq_true rfl) rfl dX12_house_60 ?_
      obtain rfl := sm1E hf
      exact hret _ _ rfl dX12_house_63
    replace hf := ifF hf c_7
    by_cases c_10 : v2.toInt = 3
    · replace hf := ifT hf c_10
      refine g_tabIn hC 64 dX12_house_11 (by omega) (by omega) (by rw [c_10]; rfl) (by decide) ?_
      refine g_aload_n hC 0 dX12_house_64 rfl rfl ?_
      refine g_iload_n hC 1 dX12_house_65 rfl rfl ?_
      refine g_aload_n hC 0 dX12_house_66 rfl rfl ?_
      obtain ⟨r_11, q_12, hf⟩ := bd1E hf
      refine g_callV_i (a := 74) hC (X' := ov X0 [74, 75, 76, 77, 78, 79] [x74, x75, x76, x77, x78, x79]) (Y' := ov Y0 [] []) (As := []) (gMi_eq (c_X12_heat l hL (ov_map hN [0, 1, 5] (by rfl) (by rfl)) (ov_map hM [] (by rfl) (by rfl)) q_12) (ov_ovE hN (by rfl) [0, 1, 5] [2, 3, 4] (by rfl) (by rfl) [x76, x77, x78] (by rfl) (by rfl) (by rfl) 6 (by rfl) (by decide)) (ov_ovE hM (by rfl) [] [] (by rfl) (by rfl) [] (by rfl) (by rfl) (by rfl) 0 (by rfl) (by decide))) tw_1538 tw_1535 tw_127 tw_1537 tw_76 (ci := 12) rfl (by decide) (kk_74 hL) (kn_74 hL) pd_X12_heat (by decide) (by decide) rfl rfl (Nat.le_of_ble_eq_true rfl) rfl dX12_house_67 ?_
      obtain ⟨r_13, q_14, hf⟩ := bd1E hf
      refine g_callV_i (a := 74) hC (X' := ov X0 [74, 75, 76, 77, 78, 79] [x74, x75, x76, x77, x78, x79]) (Y' := ov Y0 [] []) (As := [.int v1, .int r_11]) (gMi_eq (c_X12_blockOf l hL (ov_map hN [1, 4] (by rfl) (by rfl)) (ov_map hM [] (by rfl) (by rfl)) q_14) (ov_ovE hN (by rfl) [1, 4] [0, 2, 3, 5] (by rfl) (by rfl) [x74, x76, x77, x79] (by rfl) (by rfl) (by rfl) 6 (by rfl) (by decide)) (ov_ovE hM (by rfl) [] [] (by rfl) (by rfl) [] (by rfl) (by rfl) (by rfl) 0 (by rfl) (by decide))) tw_1546 tw_1543 tw_127 tw_1545 tw_78 (ci := 12) rfl (by decide) (kk_74 hL) (kn_74 hL) pd_X12_blockOf (by decide) (by decide) rfl rfl (Nat.le_of_ble_eq_true rfl) rfl dX12_house_70 ?_
      obtain rfl := sm1E hf
      exact hret _ _ rfl dX12_house_73
    replace hf := ifF hf c_10
    by_cases c_15 : v2.toInt = 4
    · replace hf := ifT hf c_15
      refine g_tabIn hC 74 dX12_house_11 (by omega) (by omega) (by rw [c_15]; rfl) (by decide) ?_
      refine g_aload_n hC 0 dX12_house_74 rfl rfl ?_
      refine g_aload_n hC 0 dX12_house_75 rfl rfl ?_
      refine g_iload_n hC 1 dX12_house_76 rfl rfl ?_
      refine g_aload_n hC 0 dX12_house_77 rfl rfl ?_
      obtain ⟨r_16, q_17, hf⟩ := bd1E hf
      refine g_callV_i (a := 74) hC (X' := ov X0 [74, 75, 76, 77, 78, 79] [x74, x75, x76, x77, x78, x79]) (Y' := ov Y0 [] []) (As := []) (gMi_eq (c_X12_heat l hL (ov_map hN [0, 1, 5] (by rfl) (by rfl)) (ov_map hM [] (by rfl) (by rfl)) q_17) (ov_ovE hN (by rfl) [0, 1, 5] [2, 3, 4] (by rfl) (by rfl) [x76, x77, x78] (by rfl) (by rfl) (by rfl) 6 (by rfl) (by decide)) (ov_ovE hM (by rfl) [] [] (by rfl) (by rfl) [] (by rfl) (by rfl) (by rfl) 0 (by rfl) (by decide))) tw_1538 tw_1535 tw_127 tw_1537 tw_76 (ci := 12) rfl (by decide) (kk_74 hL) (kn_74 hL) pd_X12_heat (by decide) (by decide) rfl rfl (Nat.le_of_ble_eq_true rfl) rfl dX12_house_78 ?_
      obtain ⟨r_18, q_19, hf⟩ := bd1E hf
      refine g_callV_i (a := 74) hC (X' := ov X0 [74, 75, 76, 77, 78, 79] [x74, x75, x76, x77, x78, x79]) (Y' := ov Y0 [] []) (As := [.int v1, .int r_16]) (gMi_eq (c_X12_blockOf l hL (ov_map hN [1, 4] (by rfl) (by rfl)) (ov_map hM [] (by rfl) (by rfl)) q_19) (ov_ovE hN (by rfl) [1, 4] [0, 2, 3, 5] (by rfl) (by rfl) [x74, x76, x77, x79] (by rfl) (by rfl) (by rfl) 6 (by rfl) (by decide)) (ov_ovE hM (by rfl) [] [] (by rfl) (by rfl) [] (by rfl) (by rfl) (by rfl) 0 (by rfl) (by decide))) tw_1546 tw_1543 tw_127 tw_1545 tw_78 (ci := 12) rfl (by decide) (kk_74 hL) (kn_74 hL) pd_X12_blockOf (by decide) (by decide) rfl rfl (Nat.le_of_ble_eq_true rfl) rfl dX12_house_81 ?_
      refine g_aload_n hC 0 dX12_house_84 rfl rfl ?_
      obtain ⟨r_20, q_21, hf⟩ := bd1E hf
      refine g_callV_i (a := 74) hC (X' := ov X0 [74, 75, 76, 77, 78, 79] [x74, x75, x76, x77, x78, x79]) (Y' := ov Y0 [] []) (As := []) (gMi_eq (c_X12_heat l hL (ov_map hN [0, 1, 5] (by rfl) (by rfl)) (ov_map hM [] (by rfl) (by rfl)) q_21) (ov_ovE hN (by rfl) [0, 1, 5] [2, 3, 4] (by rfl) (by rfl) [x76, x77, x78] (by rfl) (by rfl) (by rfl) 6 (by rfl) (by decide)) (ov_ovE hM (by rfl) [] [] (by rfl) (by rfl) [] (by rfl) (by rfl) (by rfl) 0 (by rfl) (by decide))) tw_1538 tw_1535 tw_127 tw_1537 tw_76 (ci := 12) rfl (by decide) (kk_74 hL) (kn_74 hL) pd_X12_heat (by decide) (by decide) rfl rfl (Nat.le_of_ble_eq_true rfl) rfl dX12_house_85 ?_
      obtain ⟨r_22, q_23, hf⟩ := bd1E hf
      refine g_callV_i (a := 74) hC (X' := ov X0 [74, 75, 76, 77, 78, 79] [x74, x75, x76, x77, x78, x79]) (Y' := ov Y0 [] []) (As := [.int r_18, .int r_20]) (gMi_eq (c_X12_isFast l hL (ov_map hN [1, 3] (by rfl) (by rfl)) (ov_map hM [] (by rfl) (by rfl)) q_23) (ov_ovE hN (by rfl) [1, 3] [0, 2, 4, 5] (by rfl) (by rfl) [x74, x76, x78, x79] (by rfl) (by rfl) (by rfl) 6 (by rfl) (by decide)) (ov_ovE hM (by rfl) [] [] (by rfl) (by rfl) [] (by rfl) (by rfl) (by rfl) 0 (by rfl) (by decide))) tw_1553 tw_1550 tw_127 tw_1552 tw_79 (ci := 12) rfl (by decide) (kk_74 hL) (kn_74 hL) pd_X12_isFast (by decide) (by decide) rfl rfl (Nat.le_of_ble_eq_true rfl) rfl dX12_house_88 ?_
      refine g_if_eq hC 98 dX12_house_91 (by decide) (fun hc => ?_) (fun hc => ?_)
      · replace hf := ifT hf hc
        refine g_iconst hC (v := 0) dX12_house_98 ic_0 ?_
        obtain rfl := sm1E hf
        exact hret _ _ rfl dX12_house_99
      · replace hf := ifF hf hc
        refine g_iconst hC (v := 1) dX12_house_94 ic_1 ?_
        refine g_goto hC 99 dX12_house_95 (by decide) ?_
        obtain rfl := sm1E hf
        exact hret _ _ rfl dX12_house_99
    replace hf := ifF hf c_15
    refine g_tabOut hC 100 dX12_house_11 (by omega) (by decide) ?_
    refine g_iconst hC (v := (-1)) dX12_house_100 ic_m1 ?_
    obtain rfl := sm1E hf
    exact hret _ _ rfl dX12_house_101
  · replace hf := ifT hf hc
    refine g_iconst hC (v := (-1)) dX12_house_8 ic_m1 ?_
    obtain rfl := sm1E hf
    exact hret _ _ rfl dX12_house_9

def fX12_house   (x74 : Nat → Int32) (x75 : Nat → Int32) (x76 : Nat → Int32) (x77 : Nat → Int32) (x78 : Nat → Int32) (x79 : Nat → Int32)  (v1 : Int32) (v2 : Int32)   : Option (Int32) := fX12_house_0 x74 x75 x76 x77 x78 x79 v1 v2

set_option maxHeartbeats 4000000 in
set_option maxRecDepth 100000 in
theorem c_X12_house (l : Launch) {b0 : Nat} {D : GD} {n : Nat} {κ : QT} {X0 : XT} {Y0 : YT} {Z : ZT} (hL : LY n κ) {x74 : Nat → Int32} {x75 : Nat → Int32} {x76 : Nat → Int32} {x77 : Nat → Int32} {x78 : Nat → Int32} {x79 : Nat → Int32} (hx : ([74, 75, 76, 77, 78, 79] : List Nat).map X0 = [x74, x75, x76, x77, x78, x79]) (hy : ([] : List Nat).map Y0 = []) {v1 : Int32} {v2 : Int32} {r : Int32} (hf : fX12_house x74 x75 x76 x77 x78 x79 v1 v2 = some r) : gMi l yX12_house cX12_house 3 (some FieldType.int) 2 48 0 0 b0 D [.ref (b0 + 74), .int v1, .int v2] (n, κ, X0, Y0, Z) (n, κ, ov X0 [74, 75, 76, 77, 78, 79] [x74, x75, x76, x77, x78, x79], ov Y0 [] [], Z) r := by
  have hN : ([74, 75, 76, 77, 78, 79] : List Nat).Nodup := by decide
  have hM : ([] : List Nat).Nodup := by decide
  refine g_meti (own := RX12) (by decide) rfl rfl (Nat.le_of_ble_eq_true rfl) ?_
  intro K hC hret
  have e := wX12_house_0 hL hN hM hC  hret hf
  rw [ov_id' hx, ov_id' hy] at e
  exact g_sub [0, 1, 2] rfl e

-- X12_pourOf
def fX12_pourOf_0   (x75 : Nat → Int32) (x78 : Nat → Int32)  (v1 : Int32) (v2 : Int32) : Option (Int32) := bd1 (fX12_areTwo x75 v1 v2) fun r_1 => (if r_1 = 0 then (some (-1)) else (gd (inb ((6 * v1) + v2) 36) (some (x78 ((6 * v1) + v2).toNatClampNeg))))
set_option maxHeartbeats 4000000 in
set_option maxRecDepth 100000 in
theorem wX12_pourOf_0 {l : Launch} {b0 : Nat} {D : GD} {K : KT} {n : Nat} {κ : QT} {X0 : XT} {Y0 : YT} {Z : ZT} (hL : LY n κ) (hN : ([75, 78] : List Nat).Nodup) (hM : ([] : List Nat).Nodup) (hC : gC l b0 D K RX12 cX12_pourOf (some FieldType.int) 3 3 68 0 0) {x75 : Nat → Int32} {x78 : Nat → Int32} {r : Int32} (hret : ∀ pc loc, narrow .int (.int r) = .int r → decode cX12_pourOf pc = .ok (.ireturn, 1) → gV l b0 D K (n, κ, ov X0 [75, 78] [x75, x78], ov Y0 [] [], Z, 0, 0) pc loc [.int r]) {v1 : Int32} {v2 : Int32} (hf : fX12_pourOf_0 x75 x78  v1 v2 = some r) : gV l b0 D K (n, κ, ov X0 [75, 78] [x75, x78], ov Y0 [] [], Z, 0, 0) 0 [(0, .ref (b0 + 74)), (1, .int v1), (2, .int v2)] [] := by
  unfold fX12_pourOf_0 at hf
  refine g_aload_n hC 0 dX12_pourOf_0 rfl rfl ?_
  refine g_iload_n hC 1 dX12_pourOf_1 rfl rfl ?_
  refine g_iload_n hC 2 dX12_pourOf_2 rfl rfl ?_
  obtain ⟨r_1, q_2, hf⟩ := bd1E hf
  refine g_callV_i (a := 74) hC (X' := ov X0 [75, 78] [x75, x78]) (Y' := ov Y0 [] []) (As := [.int v1, .int v2]) (gMi_eq (c_X12_areTwo l hL (ov_map hN [0] (by rfl) (by rfl)) (ov_map hM [] (by rfl) (by rfl)) q_2) (ov_ovE hN (by rfl) [0] [1] (by rfl) (by rfl) [x78] (by rfl) (by rfl) (by rfl) 2 (by rfl) (by decide)) (ov_ovE hM (by rfl) [] [] (by rfl) (by rfl) [] (by rfl) (by rfl) (by rfl) 0 (by rfl) (by decide))) tw_1561 tw_1558 tw_127 tw_1560 tw_80 (ci := 12) rfl (by decide) (kk_74 hL) (kn_74 hL) pd_X12_areTwo (by decide) (by decide) rfl rfl (Nat.le_of_ble_eq_true rfl) rfl dX12_pourOf_3 ?_
  refine g_if_eq hC 23 dX12_pourOf_6 (by decide) (fun hc => ?_) (fun hc => ?_)
  · replace hf := ifT hf hc
    refine g_iconst hC (v := (-1)) dX12_pourOf_23 ic_m1 ?_
    obtain rfl := sm1E hf
    exact hret _ _ rfl dX12_pourOf_24
  · replace hf := ifF hf hc
    refine g_aload_n hC 0 dX12_pourOf_9 rfl rfl ?_
    refine gt_X12_19 hC (a := 74) (kk_74 hL) (kn_74 hL) dX12_pourOf_10 ?_
    refine g_ref (b := 78) rfl ?_
    refine g_bipush hC (v := 6) dX12_pourOf_13 bp_6 ?_
    refine g_iload_n hC 1 dX12_pourOf_15 rfl rfl ?_
    refine g_imul hC dX12_pourOf_16 ?_
    refine g_iload_n hC 2 dX12_pourOf_17 rfl rfl ?_
    refine g_iadd hC dX12_pourOf_18 ?_
    obtain ⟨h_3, hf⟩ := gdE hf
    refine g_iald hC (x := x78) (kk_78 hL) (kn_78 hL) (ov_get hN 1 rfl rfl) (inb_in h_3) dX12_pourOf_19 ?_
    refine g_goto hC 24 dX12_pourOf_20 (by decide) ?_
    obtain rfl := sm1E hf
    exact hret _ _ rfl dX12_pourOf_24

def fX12_pourOf   (x75 : Nat → Int32) (x78 : Nat → Int32)  (v1 : Int32) (v2 : Int32)   : Option (Int32) := fX12_pourOf_0 x75 x78 v1 v2

set_option maxHeartbeats 4000000 in
set_option maxRecDepth 100000 in
theorem c_X12_pourOf (l : Launch) {b0 : Nat} {D : GD} {n : Nat} {κ : QT} {X0 : XT} {Y0 : YT} {Z : ZT} (hL : LY n κ) {x75 : Nat → Int32} {x78 : Nat → Int32} (hx : ([75, 78] : List Nat).map X0 = [x75, x78]) (hy : ([] : List Nat).map Y0 = []) {v1 : Int32} {v2 : Int32} {r : Int32} (hf : fX12_pourOf x75 x78 v1 v2 = some r) : gMi l yX12_pourOf cX12_pourOf 3 (some FieldType.int) 3 68 0 0 b0 D [.ref (b0 + 74), .int v1, .int v2] (n, κ, X0, Y0, Z) (n, κ, ov X0 [75, 78] [x75, x78], ov Y0 [] [], Z) r := by
  have hN : ([75, 78] : List Nat).Nodup := by decide
  have hM : ([] : List Nat).Nodup := by decide
  refine g_meti (own := RX12) (by decide) rfl rfl (Nat.le_of_ble_eq_true rfl) ?_
  intro K hC hret
  have e := wX12_pourOf_0 hL hN hM hC  hret hf
  rw [ov_id' hx, ov_id' hy] at e
  exact g_sub [0, 1, 2] rfl e

-- X12_joins
def fX12_joins_0     (v1 : Int32) (v2 : Int32) (v3 : Int32) (x78 : (Nat → Int32)) : Option ((Nat → Int32)) := gd (inb ((6 * v1) + v2) 36) (gd (inb ((6 * v2) + v1) 36) (some (upd (upd x78 ((6 * v1) + v2).toNatClampNeg v3) ((6 * v2) + v1).toNatClampNeg v3)))
set_option maxHeartbeats 4000000 in
set_option maxRecDepth 100000 in
theorem wX12_joins_0 {l : Launch} {b0 : Nat} {D : GD} {K : KT} {n : Nat} {κ : QT} {X0 : XT} {Y0 : YT} {Z : ZT} (hL : LY n κ) (hN : ([78] : List Nat).Nodup) (hM : ([] : List Nat).Nodup) (hC : gC l b0 D K RX12 cX12_joins none 4 0 0 0 0) {rx78 : (Nat → Int32)} (hret : ∀ pc loc, decode cX12_joins pc = .ok (.return_, 1) → gV l b0 D K (n, κ, ov X0 [78] [rx78], ov Y0 [] [], Z, 0, 0) pc loc []) {v1 : Int32} {v2 : Int32} {v3 : Int32} {x78 : (Nat → Int32)} (hf : fX12_joins_0   v1 v2 v3 x78 = some rx78) : gV l b0 D K (n, κ, ov X0 [78] [x78], ov Y0 [] [], Z, 0, 0) 0 [(0, .ref (b0 + 74)), (1, .int v1), (2, .int v2), (3, .int v3)] [] := by
  unfold fX12_joins_0 at hf
  refine g_aload_n hC 0 dX12_joins_0 rfl rfl ?_
  refine gt_X12_19 hC (a := 74) (kk_74 hL) (kn_74 hL) dX12_joins_1 ?_
  refine g_ref (b := 78) rfl ?_
  refine g_bipush hC (v := 6) dX12_joins_4 bp_6 ?_
  refine g_iload_n hC 1 dX12_joins_6 rfl rfl ?_
  refine g_imul hC dX12_joins_7 ?_
  refine g_iload_n hC 2 dX12_joins_8 rfl rfl ?_
  refine g_iadd hC dX12_joins_9 ?_
  refine g_iload_n hC 3 dX12_joins_10 rfl rfl ?_
  obtain ⟨h_1, hf⟩ := gdE hf
  refine g_iast hC (x := x78) (kk_78 hL) (kn_78 hL) (ov_get hN 0 rfl rfl) (inb_in h_1) (ov_set hN (by rfl) 0 (by rfl)) dX12_joins_11 ?_
  show gV l b0 D K (n, κ, ov X0 [78] [(upd x78 ((6 * v1) + v2).toNatClampNeg v3)], ov Y0 [] [], Z, 0, 0) 12 [(0, .ref (b0 + 74)), (1, .int v1), (2, .int v2), (3, .int v3)] []
  refine g_aload_n hC 0 dX12_joins_12 rfl rfl ?_
  refine gt_X12_19 hC (a := 74) (kk_74 hL) (kn_74 hL) dX12_joins_13 ?_
  refine g_ref (b := 78) rfl ?_
  refine g_bipush hC (v := 6) dX12_joins_16 bp_6 ?_
  refine g_iload_n hC 2 dX12_joins_18 rfl rfl ?_
  refine g_imul hC dX12_joins_19 ?_
  refine g_iload_n hC 1 dX12_joins_20 rfl rfl ?_
  refine g_iadd hC dX12_joins_21 ?_
  refine g_iload_n hC 3 dX12_joins_22 rfl rfl ?_
  obtain ⟨h_2, hf⟩ := gdE hf
  refine g_iast hC (x := (upd x78 ((6 * v1) + v2).toNatClampNeg v3)) (kk_78 hL) (kn_78 hL) (ov_get hN 0 rfl rfl) (inb_in h_2) (ov_set hN (by rfl) 0 (by rfl)) dX12_joins_23 ?_
  show gV l b0 D K (n, κ, ov X0 [78] [(upd (upd x78 ((6 * v1) + v2).toNatClampNeg v3) ((6 * v2) + v1).toNatClampNeg v3)], ov Y0 [] [], Z, 0, 0) 24 [(0, .ref (b0 + 74)), (1, .int v1), (2, .int v2), (3, .int v3)] []
  obtain rfl := sm1E hf
  exact hret _ _ dX12_joins_24

def fX12_joins     (v1 : Int32) (v2 : Int32) (v3 : Int32) (x78 : Nat → Int32)  : Option ((Nat → Int32)) := fX12_joins_0  v1 v2 v3 x78

set_option maxHeartbeats 4000000 in
set_option maxRecDepth 100000 in
theorem c_X12_joins (l : Launch) {b0 : Nat} {D : GD} {n : Nat} {κ : QT} {X0 : XT} {Y0 : YT} {Z : ZT} (hL : LY n κ) {x78 : Nat → Int32} (hx : ([78] : List Nat).map X0 = [x78]) (hy : ([] : List Nat).map Y0 = []) {v1 : Int32} {v2 : Int32} {v3 : Int32} {rx78 : (Nat → Int32)} (hf : fX12_joins  v1 v2 v3 x78 = some rx78) : gMv l yX12_joins cX12_joins 4 none 0 0 0 0 b0 D [.ref (b0 + 74), .int v1, .int v2, .int v3] (n, κ, X0, Y0, Z) (n, κ, ov X0 [78] [rx78], ov Y0 [] [], Z) := by
  have hN : ([78] : List Nat).Nodup := by decide
  have hM : ([] : List Nat).Nodup := by decide
  refine g_metv (own := RX12) (by decide) rfl rfl (Nat.le_of_ble_eq_true rfl) ?_
  intro K hC hret
  have e := wX12_joins_0 hL hN hM hC  hret hf
  rw [ov_id' hx, ov_id' hy] at e
  exact g_sub [0, 1, 2, 3] rfl e

-- X12_canHarden
def fX12_canHarden_0   (x78 : Nat → Int32)  (v1 : Int32) (v2 : Int32) : Option (Int32) := gd (inb ((6 * v1) + v2) 36) (bd1 (fX12_in ((x78 ((6 * v1) + v2).toNatClampNeg).toInt64) 1 8) fun r_2 => (gd (bz r_2) (some r_2)))
set_option maxHeartbeats 4000000 in
set_option maxRecDepth 100000 in
theorem wX12_canHarden_0 {l : Launch} {b0 : Nat} {D : GD} {K : KT} {n : Nat} {κ : QT} {X0 : XT} {Y0 : YT} {Z : ZT} (hL : LY n κ) (hN : ([78] : List Nat).Nodup) (hM : ([] : List Nat).Nodup) (hC : gC l b0 D K RX12 cX12_canHarden (some FieldType.boolean) 3 1 25 0 0) {x78 : Nat → Int32} {r : Int32} (hret : ∀ pc loc, narrow .boolean (.int r) = .int r → decode cX12_canHarden pc = .ok (.ireturn, 1) → gV l b0 D K (n, κ, ov X0 [78] [x78], ov Y0 [] [], Z, 0, 0) pc loc [.int r]) {v1 : Int32} {v2 : Int32} (hf : fX12_canHarden_0 x78  v1 v2 = some r) : gV l b0 D K (n, κ, ov X0 [78] [x78], ov Y0 [] [], Z, 0, 0) 0 [(0, .ref (b0 + 74)), (1, .int v1), (2, .int v2)] [] := by
  unfold fX12_canHarden_0 at hf
  refine g_aload_n hC 0 dX12_canHarden_0 rfl rfl ?_
  refine gt_X12_19 hC (a := 74) (kk_74 hL) (kn_74 hL) dX12_canHarden_1 ?_
  refine g_ref (b := 78) rfl ?_
  refine g_bipush hC (v := 6) dX12_canHarden_4 bp_6 ?_
  refine g_iload_n hC 1 dX12_canHarden_6 rfl rfl ?_
  refine g_imul hC dX12_canHarden_7 ?_
  refine g_iload_n hC 2 dX12_canHarden_8 rfl rfl ?_
  refine g_iadd hC dX12_canHarden_9 ?_
  obtain ⟨h_1, hf⟩ := gdE hf
  refine g_iald hC (x := x78) (kk_78 hL) (kn_78 hL) (ov_get hN 0 rfl rfl) (inb_in h_1) dX12_canHarden_10 ?_
  refine g_i2l hC dX12_canHarden_11 ?_
  refine g_lconst hC (v := 1) dX12_canHarden_12 rfl ?_
  refine g_ldc2_w hC (v := 8) tw_1602 dX12_canHarden_13 ?_
  obtain ⟨r_2, q_3, hf⟩ := bd1E hf
  refine g_callS_i hC (X' := ov X0 [78] [x78]) (Y' := ov Y0 [] []) (As := [.long ((x78 ((6 * v1) + v2).toNatClampNeg).toInt64), .long 1, .long 8]) (gMi_eq (c_X12_in l hL (ov_map hN [] (by rfl) (by rfl)) (ov_map hM [] (by rfl) (by rfl)) q_3) (ov_ovE hN (by rfl) [] [0] (by rfl) (by rfl) [x78] (by rfl) (by rfl) (by rfl) 1 (by rfl) (by decide)) (ov_ovE hM (by rfl) [] [] (by rfl) (by rfl) [] (by rfl) (by rfl) (by rfl) 0 (by rfl) (by decide))) tw_1428 tw_1426 tw_127 tw_1427 pd_X12_in (by decide) (by decide) rfl rfl (Nat.le_of_ble_eq_true rfl) rfl dX12_canHarden_16 ?_
  obtain ⟨h_4, hf⟩ := gdE hf
  obtain rfl := sm1E hf
  exact hret _ _ (bz_nar h_4) dX12_canHarden_19

def fX12_canHarden   (x78 : Nat → Int32)  (v1 : Int32) (v2 : Int32)   : Option (Int32) := fX12_canHarden_0 x78 v1 v2

set_option maxHeartbeats 4000000 in
set_option maxRecDepth 100000 in
theorem c_X12_canHarden (l : Launch) {b0 : Nat} {D : GD} {n : Nat} {κ : QT} {X0 : XT} {Y0 : YT} {Z : ZT} (hL : LY n κ) {x78 : Nat → Int32} (hx : ([78] : List Nat).map X0 = [x78]) (hy : ([] : List Nat).map Y0 = []) {v1 : Int32} {v2 : Int32} {r : Int32} (hf : fX12_canHarden x78 v1 v2 = some r) : gMi l yX12_canHarden cX12_canHarden 3 (some FieldType.boolean) 1 25 0 0 b0 D [.ref (b0 + 74), .int v1, .int v2] (n, κ, X0, Y0, Z) (n, κ, ov X0 [78] [x78], ov Y0 [] [], Z) r := by
  have hN : ([78] : List Nat).Nodup := by decide
  have hM : ([] : List Nat).Nodup := by decide
  refine g_meti (own := RX12) (by decide) rfl rfl (Nat.le_of_ble_eq_true rfl) ?_
  intro K hC hret
  have e := wX12_canHarden_0 hL hN hM hC  hret hf
  rw [ov_id' hx, ov_id' hy] at e
  exact g_sub [0, 1, 2] rfl e

-- X12_differ
def fX12_differ_0     (v0 : Int32) (v1 : Int32) : Option (Int32) := if v0 ≤ v1 then (some (v1 - v0)) else (some (v0 - v1))
set_option maxHeartbeats 4000000 in
set_option maxRecDepth 100000 in
theorem wX12_differ_0 {l : Launch} {b0 : Nat} {D : GD} {K : KT} {n : Nat} {κ : QT} {X0 : XT} {Y0 : YT} {Z : ZT} (hL : LY n κ) (hN : ([] : List Nat).Nodup) (hM : ([] : List Nat).Nodup) (hC : gC l b0 D K RX12 cX12_differ (some FieldType.int) 2 0 0 0 0) {r : Int32} (hret : ∀ pc loc, narrow .int (.int r) = .int r → decode cX12_differ pc = .ok (.ireturn, 1) → gV l b0 D K (n, κ, ov X0 [] [], ov Y0 [] [], Z, 0, 0) pc loc [.int r]) {v0 : Int32} {v1 : Int32} (hf : fX12_differ_0   v0 v1 = some r) : gV l b0 D K (n, κ, ov X0 [] [], ov Y0 [] [], Z, 0, 0) 0 [(0, .int v0), (1, .int v1)] [] := by
  unfold fX12_differ_0 at hf
  refine g_iload_n hC 0 dX12_differ_0 rfl rfl ?_
  refine g_iload_n hC 1 dX12_differ_1 rfl rfl ?_
  refine g_icmp_le hC 11 dX12_differ_2 (by decide) (fun hc => ?_) (fun hc => ?_)
  · replace hf := ifT hf hc
    refine g_iload_n hC 1 dX12_differ_11 rfl rfl ?_
    refine g_iload_n hC 0 dX12_differ_12 rfl rfl ?_
    refine g_isub hC dX12_differ_13 ?_
    obtain rfl := sm1E hf
    exact hret _ _ rfl dX12_differ_14
  · replace hf := ifF hf hc
    refine g_iload_n hC 0 dX12_differ_5 rfl rfl ?_
    refine g_iload_n hC 1 dX12_differ_6 rfl rfl ?_
    refine g_isub hC dX12_differ_7 ?_
    refine g_goto hC 14 dX12_differ_8 (by decide) ?_
    obtain rfl := sm1E hf
    exact hret _ _ rfl dX12_differ_14

def fX12_differ     (v0 : Int32) (v1 : Int32)   : Option (Int32) := fX12_differ_0  v0 v1

set_option maxHeartbeats 4000000 in
set_option maxRecDepth 100000 in
theorem c_X12_differ (l : Launch) {b0 : Nat} {D : GD} {n : Nat} {κ : QT} {X0 : XT} {Y0 : YT} {Z : ZT} (hL : LY n κ) (hx : ([] : List Nat).map X0 = []) (hy : ([] : List Nat).map Y0 = []) {v0 : Int32} {v1 : Int32} {r : Int32} (hf : fX12_differ  v0 v1 = some r) : gMi l yX12_differ cX12_differ 2 (some FieldType.int) 0 0 0 0 b0 D [.int v0, .int v1] (n, κ, X0, Y0, Z) (n, κ, ov X0 [] [], ov Y0 [] [], Z) r := by
  have hN : ([] : List Nat).Nodup := by decide
  have hM : ([] : List Nat).Nodup := by decide
  refine g_meti (own := RX12) (by decide) rfl rfl (Nat.le_of_ble_eq_true rfl) ?_
  intro K hC hret
  have e := wX12_differ_0 hL hN hM hC  hret hf
  rw [ov_id' hx, ov_id' hy] at e
  exact g_sub [0, 1] rfl e

-- X12_sumOf
def fX12_sumOf_0   (x74 : Nat → Int32) (x75 : Nat → Int32) (x76 : Nat → Int32) (x77 : Nat → Int32) (x78 : Nat → Int32) (x79 : Nat → Int32) (x92 : Nat → Int32) (x93 : Nat → Int32) (x94 : Nat → Int32) (x95 : Nat → Int32) (x96 : Nat → Int32) (x97 : Nat → Int32)  (v1 : Int32) (v2 : Int32) (y99 : (Nat → Int64)) (y100 : (Nat → Int64)) : Option (Int64 × (Nat → Int64) × (Nat → Int64)) := gd (inb 0 12) (gd (inb 1 12) (gd (inb ((6 * v1) + v2) 36) (gd (inb 2 12) (gd (inb v1 6) (gd (inb 3 12) (gd (inb v2 6) (gd (inb 4 12) (gd (inb v1 6) (gd (inb v2 6) (bd1 (fX12_differ (x76 v1.toNatClampNeg) (x76 v2.toNatClampNeg)) fun r_11 => (gd (inb 5 12) (gd (inb v1 6) (gd (inb 6 12) (gd (inb v2 6) (gd (inb 7 12) (bd1 (fX12_heat x74 x75 x79) fun r_18 => (gd (inb 8 12) (gd (inb 5 11) (bd1 (fX12_toldHeat x75 x79 ((x75 (5 : Int32).toNatClampNeg) + 1)) fun r_22 => (gd (inb 9 12) (gd (inb 6 11) (gd (inb 10 12) (gd (inb 5 11) (gd (inb 11 12) (bd2 (fX12_wanted x75 x92 x93 x94 x95 x96 x97 (vp_updL (vp_updL (vp_updL (vp_updL (vp_updL (vp_updL (vp_updL (vp_updL (vp_updL (vp_updL (vp_updL (vp_updL y99 (0 : Int32).toNatClampNeg v1.toInt64) (1 : Int32).toNatClampNeg v2.toInt64) (2 : Int32).toNatClampNeg ((x78 ((6 * v1) + v2).toNatClampNeg).toInt64)) (3 : Int32).toNatClampNeg ((x76 v1.toNatClampNeg).toInt64)) (4 : Int32).toNatClampNeg ((x76 v2.toNatClampNeg).toInt64)) (5 : Int32).toNatClampNeg r_11.toInt64) (6 : Int32).toNatClampNeg ((x77 v1.toNatClampNeg).toInt64)) (7 : Int32).toNatClampNeg ((x77 v2.toNatClampNeg).toInt64)) (8 : Int32).toNatClampNeg r_18.toInt64) (9 : Int32).toNatClampNeg r_22.toInt64) (10 : Int32).toNatClampNeg ((x75 (6 : Int32).toNatClampNeg).toInt64)) (11 : Int32).toNatClampNeg ((x75 (5 : Int32).toNatClampNeg).toInt64)) y100) fun r_29 y100_30 => (some (r_29, (vp_updL (vp_updL (vp_updL (vp_updL (vp_updL (vp_updL (vp_updL (vp_updL (vp_updL (vp_updL (vp_updL (vp_updL y99 (0 : Int32).toNatClampNeg v1.toInt64) (1 : Int32).toNatClampNeg v2.toInt64) (2 : Int32).toNatClampNeg ((x78 ((6 * v1) + v2).toNatClampNeg).toInt64)) (3 : Int32).toNatClampNeg ((x76 v1.toNatClampNeg).toInt64)) (4 : Int32).toNatClampNeg ((x76 v2.toNatClampNeg).toInt64)) (5 : Int32).toNatClampNeg r_11.toInt64) (6 : Int32).toNatClampNeg ((x77 v1.toNatClampNeg).toInt64)) (7 : Int32).toNatClampNeg ((x77 v2.toNatClampNeg).toInt64)) (8 : Int32).toNatClampNeg r_18.toInt64) (9 : Int32).toNatClampNeg r_22.toInt64) (10 : Int32).toNatClampNeg ((x75 (6 : Int32).toNatClampNeg).toInt64)) (11 : Int32).toNatClampNeg ((x75 (5 : Int32).toNatClampNeg).toInt64)), y100_30)))))))))))))))))))))))))))
set_option maxHeartbeats 4000000 in
set_option maxRecDepth 100000 in
theorem wX12_sumOf_0 {l : Launch} {b0 : Nat} {D : GD} {K : KT} {n : Nat} {κ : QT} {X0 : XT} {Y0 : YT} {Z : ZT} (hL : LY n κ) (hN : ([74, 75, 76, 77, 78, 79, 92, 93, 94, 95, 96, 97] : List Nat).Nodup) (hM : ([99, 100] : List Nat).Nodup) (hC : gC l b0 D K RX12 cX12_sumOf (some FieldType.long) 3 4 93 0 0) {x74 : Nat → Int32} {x75 : Nat → Int32} {x76 : Nat → Int32} {x77 : Nat → Int32} {x78 : Nat → Int32} {x79 : Nat → Int32} {x92 : Nat → Int32} {x93 : Nat → Int32} {x94 : Nat → Int32} {x95 : Nat → Int32} {x96 : Nat → Int32} {x97 : Nat → Int32} {r : Int64} {ry99 : (Nat → Int64)} {ry100 : (Nat → Int64)} (hret : ∀ pc loc, decode cX12_sumOf pc = .ok (.lreturn, 1) → gV l b0 D K (n, κ, ov X0 [74, 75, 76, 77, 78, 79, 92, 93, 94, 95, 96, 97] [x74, x75, x76, x77, x78, x79, x92, x93, x94, x95, x96, x97], ov Y0 [99, 100] [ry99, ry100], Z, 0, 0) pc loc [.long r]) {v1 : Int32} {v2 : Int32} {y99 : (Nat → Int64)} {y100 : (Nat → Int64)} (hf : fX12_sumOf_0 x74 x75 x76 x77 x78 x79 x92 x93 x94 x95 x96 x97  v1 v2 y99 y100 = some (r, ry99, ry100)) : gV l b0 D K (n, κ, ov X0 [74, 75, 76, 77, 78, 79, 92, 93, 94, 95, 96, 97] [x74, x75, x76, x77, x78, x79, x92, x93, x94, x95, x96, x97], ov Y0 [99, 100] [y99, y100], Z, 0, 0) 0 [(0, .ref (b0 + 74)), (1, .int v1), (2, .int v2)] [] := by
  unfold fX12_sumOf_0 at hf
  refine g_aload_n hC 0 dX12_sumOf_0 rfl rfl ?_
  refine gt_X12_87 hC (a := 74) (kk_74 hL) (kn_74 hL) dX12_sumOf_1 ?_
  refine g_ref (b := 99) rfl ?_
  refine g_iconst hC (v := 0) dX12_sumOf_4 ic_0 ?_
  refine g_iload_n hC 1 dX12_sumOf_5 rfl rfl ?_
  refine g_i2l hC dX12_sumOf_6 ?_
  obtain ⟨h_1, hf⟩ := gdE hf
  refine g_last hC (x := y99) (kk_99 hL) (kn_99 hL) (ov_get hM 0 rfl rfl) (inb_in h_1) (ov_set hM (by rfl) 0 (by rfl)) dX12_sumOf_7 ?_
  show gV l b0 D K (n, κ, ov X0 [74, 75, 76, 77, 78, 79, 92, 93, 94, 95, 96, 97] [x74, x75, x76, x77, x78, x79, x92, x93, x94, x95, x96, x97], ov Y0 [99, 100] [(vp_updL y99 (0 : Int32).toNatClampNeg v1.toInt64), y100], Z, 0, 0) 8 [(0, .ref (b0 + 74)), (1, .int v1), (2, .int v2)] []
  refine g_aload_n hC 0 dX12_sumOf_8 rfl rfl ?_
  refine gt_X12_87 hC (a := 74) (kk_74 hL) (kn_74 hL) dX12_sumOf_9 ?_
  refine g_ref (b := 99) rfl ?_
  refine g_iconst hC (v := 1) dX12_sumOf_12 ic_1 ?_
  refine g_iload_n hC 2 dX12_sumOf_13 rfl rfl ?_
  refine g_i2l hC dX12_sumOf_14 ?_
  obtain ⟨h_2, hf⟩ := gdE hf
  refine g_last hC (x := (vp_updL y99 (0 : Int32).toNatClampNeg v1.toInt64)) (kk_99 hL) (kn_99 hL) (ov_get hM 0 rfl rfl) (inb_in h_2) (ov_set hM (by rfl) 0 (by rfl)) dX12_sumOf_15 ?_
  show gV l b0 D K (n, κ, ov X0 [74, 75, 76, 77, 78, 79, 92, 93, 94, 95, 96, 97] [x74, x75, x76, x77, x78, x79, x92, x93, x94, x95, x96, x97], ov Y0 [99, 100] [(vp_updL (vp_updL y99 (0 : Int32).toNatClampNeg v1.toInt64) (1 : Int32).toNatClampNeg v2.toInt64), y100], Z, 0, 0) 16 [(0, .ref (b0 + 74)), (1, .int v1), (2, .int v2)] []
  refine g_aload_n hC 0 dX12_sumOf_16 rfl rfl ?_
  refine gt_X12_87 hC (a := 74) (kk_74 hL) (kn_74 hL) dX12_sumOf_17 ?_
  refine g_ref (b := 99) rfl ?_
  refine g_iconst hC (v := 2) dX12_sumOf_20 ic_2 ?_
  refine g_aload_n hC 0 dX12_sumOf_21 rfl rfl ?_
  refine gt_X12_19 hC (a := 74) (kk_74 hL) (kn_74 hL) dX12_sumOf_22 ?_
  refine g_ref (b := 78) rfl ?_
  refine g_bipush hC (v := 6) dX12_sumOf_25 bp_6 ?_
  refine g_iload_n hC 1 dX12_sumOf_27 rfl rfl ?_
  refine g_imul hC dX12_sumOf_28 ?_
  refine g_iload_n hC 2 dX12_sumOf_29 rfl rfl ?_
  refine g_iadd hC dX12_sumOf_30 ?_
  obtain ⟨h_3, hf⟩ := gdE hf
  refine g_iald hC (x := x78) (kk_78 hL) (kn_78 hL) (ov_get hN 4 rfl rfl) (inb_in h_3) dX12_sumOf_31 ?_
  refine g_i2l hC dX12_sumOf_32 ?_
  obtain ⟨h_4, hf⟩ := gdE hf
  refine g_last hC (x := (vp_updL (vp_updL y99 (0 : Int32).toNatClampNeg v1.toInt64) (1 : Int32).toNatClampNeg v2.toInt64)) (kk_99 hL) (kn_99 hL) (ov_get hM 0 rfl rfl) (inb_in h_4) (ov_set hM (by rfl) 0 (by rfl)) dX12_sumOf_33 ?_
  show gV l b0 D K (n, κ, ov X0 [74, 75, 76, 77, 78, 79, 92, 93, 94, 95, 96, 97] [x74, x75, x76, x77, x78, x79, x92, x93, x94, x95, x96, x97], ov Y0 [99, 100] [(vp_updL (vp_updL (vp_updL y99 (0 : Int32).toNatClampNeg v1.toInt64) (1 : Int32).toNatClampNeg v2.toInt64) (2 : Int32).toNatClampNeg ((x78 ((6 * v1) + v2).toNatClampNeg).toInt64)), y100], Z, 0, 0) 34 [(0, .ref (b0 + 74)), (1, .int v1), (2, .int v2)] []
  refine g_aload_n hC 0 dX12_sumOf_34 rfl rfl ?_
  refine gt_X12_87 hC (a := 74) (kk_74 hL) (kn_74 hL) dX12_sumOf_35 ?_
  refine g_ref (b := 99) rfl ?_
  refine g_iconst hC (v := 3) dX12_sumOf_38 ic_3 ?_
  refine g_aload_n hC 0 dX12_sumOf_39 rfl rfl ?_
  refine gt_X12_13 hC (a := 74) (kk_74 hL) (kn_74 hL) dX12_sumOf_40 ?_
  refine g_ref (b := 76) rfl ?_
  refine g_iload_n hC 1 dX12_sumOf_43 rfl rfl ?_
  obtain ⟨h_5, hf⟩ := gdE hf
  refine g_iald hC (x := x76) (kk_76 hL) (kn_76 hL) (ov_get hN 2 rfl rfl) (inb_in h_5) dX12_sumOf_44 ?_
  refine g_i2l hC dX12_sumOf_45 ?_
  obtain ⟨h_6, hf⟩ := gdE hf
  refine g_last hC (x := (vp_updL (vp_updL (vp_updL y99 (0 : Int32).toNatClampNeg v1.toInt64) (1 : Int32).toNatClampNeg v2.toInt64) (2 : Int32).toNatClampNeg ((x78 ((6 * v1) + v2).toNatClampNeg).toInt64))) (kk_99 hL) (kn_99 hL) (ov_get hM 0 rfl rfl) (inb_in h_6) (ov_set hM (by rfl) 0 (by rfl)) dX12_sumOf_46 ?_
  show gV l b0 D K (n, κ, ov X0 [74, 75, 76, 77, 78, 79, 92, 93, 94, 95, 96, 97] [x74, x75, x76, x77, x78, x79, x92, x93, x94, x95, x96, x97], ov Y0 [99, 100] [(vp_updL (vp_updL (vp_updL (vp_updL y99 (0 : Int32).toNatClampNeg v1.toInt64) (1 : Int32).toNatClampNeg v2.toInt64) (2 : Int32).toNatClampNeg ((x78 ((6 * v1) + v2).toNatClampNeg).toInt64)) (3 : Int32).toNatClampNeg ((x76 v1.toNatClampNeg).toInt64)), y100], Z, 0, 0) 47 [(0, .ref (b0 + 74)), (1, .int v1), (2, .int v2)] []
  refine g_aload_n hC 0 dX12_sumOf_47 rfl rfl ?_
  refine gt_X12_87 hC (a := 74) (kk_74 hL) (kn_74 hL) dX12_sumOf_48 ?_
  refine g_ref (b := 99) rfl ?_
  refine g_iconst hC (v := 4) dX12_sumOf_51 ic_4 ?_
  refine g_aload_n hC 0 dX12_sumOf_52 rfl rfl ?_
  refine gt_X12_13 hC (a := 74) (kk_74 hL) (kn_74 hL) dX12_sumOf_53 ?_
  refine g_ref (b := 76) rfl ?_
  refine g_iload_n hC 2 dX12_sumOf_56 rfl rfl ?_
  obtain ⟨h_7, hf⟩ := gdE hf
  refine g_iald hC (x := x76) (kk_76 hL) (kn_76 hL) (ov_get hN 2 rfl rfl) (inb_in h_7) dX12_sumOf_57 ?_
  refine g_i2l hC dX12_sumOf_58 ?_
  obtain ⟨h_8, hf⟩ := gdE hf
  refine g_last hC (x := (vp_updL (vp_updL (vp_updL (vp_updL y99 (0 : Int32).toNatClampNeg v1.toInt64) (1 : Int32).toNatClampNeg v2.toInt64) (2 : Int32).toNatClampNeg ((x78 ((6 * v1) + v2).toNatClampNeg).toInt64)) (3 : Int32).toNatClampNeg ((x76 v1.toNatClampNeg).toInt64))) (kk_99 hL) (kn_99 hL) (ov_get hM 0 rfl rfl) (inb_in h_8) (ov_set hM (by rfl) 0 (by rfl)) dX12_sumOf_59 ?_
  show gV l b0 D K (n, κ, ov X0 [74, 75, 76, 77, 78, 79, 92, 93, 94, 95, 96, 97] [x74, x75, x76, x77, x78, x79, x92, x93, x94, x95, x96, x97], ov Y0 [99, 100] [(vp_updL (vp_updL (vp_updL (vp_updL (vp_updL y99 (0 : Int32).toNatClampNeg v1.toInt64) (1 : Int32).toNatClampNeg v2.toInt64) (2 : Int32).toNatClampNeg ((x78 ((6 * v1) + v2).toNatClampNeg).toInt64)) (3 : Int32).toNatClampNeg ((x76 v1.toNatClampNeg).toInt64)) (4 : Int32).toNatClampNeg ((x76 v2.toNatClampNeg).toInt64)), y100], Z, 0, 0) 60 [(0, .ref (b0 + 74)), (1, .int v1), (2, .int v2)] []
  refine g_aload_n hC 0 dX12_sumOf_60 rfl rfl ?_
  refine gt_X12_87 hC (a := 74) (kk_74 hL) (kn_74 hL) dX12_sumOf_61 ?_
  refine g_ref (b := 99) rfl ?_
  refine g_iconst hC (v := 5) dX12_sumOf_64 ic_5 ?_
  refine g_aload_n hC 0 dX12_sumOf_65 rfl rfl ?_
  refine gt_X12_13 hC (a := 74) (kk_74 hL) (kn_74 hL) dX12_sumOf_66 ?_
  refine g_ref (b := 76) rfl ?_
  refine g_iload_n hC 1 dX12_sumOf_69 rfl rfl ?_
  obtain ⟨h_9, hf⟩ := gdE hf
  refine g_iald hC (x := x76) (kk_76 hL) (kn_76 hL) (ov_get hN 2 rfl rfl) (inb_in h_9) dX12_sumOf_70 ?_
  refine g_aload_n hC 0 dX12_sumOf_71 rfl rfl ?_
  refine gt_X12_13 hC (a := 74) (kk_74 hL) (kn_74 hL) dX12_sumOf_72 ?_
  refine g_ref (b := 76) rfl ?_
  refine g_iload_n hC 2 dX12_sumOf_75 rfl rfl ?_
  obtain ⟨h_10, hf⟩ := gdE hf
  refine g_iald hC (x := x76) (kk_76 hL) (kn_76 hL) (ov_get hN 2 rfl rfl) (inb_in h_10) dX12_sumOf_76 ?_
  obtain ⟨r_11, q_12, hf⟩ := bd1E hf
  refine g_callS_i hC (X' := ov X0 [74, 75, 76, 77, 78, 79, 92, 93, 94, 95, 96, 97] [x74, x75, x76, x77, x78, x79, x92, x93, x94, x95, x96, x97]) (Y' := ov Y0 [99, 100] [(vp_updL (vp_updL (vp_updL (vp_updL (vp_updL y99 (0 : Int32).toNatClampNeg v1.toInt64) (1 : Int32).toNatClampNeg v2.toInt64) (2 : Int32).toNatClampNeg ((x78 ((6 * v1) + v2).toNatClampNeg).toInt64)) (3 : Int32).toNatClampNeg ((x76 v1.toNatClampNeg).toInt64)) (4 : Int32).toNatClampNeg ((x76 v2.toNatClampNeg).toInt64)), y100]) (As := [.int (x76 v1.toNatClampNeg), .int (x76 v2.toNatClampNeg)]) (gMi_eq (c_X12_differ l hL (ov_map hN [] (by rfl) (by rfl)) (ov_map hM [] (by rfl) (by rfl)) q_12) (ov_ovE hN (by rfl) [] [0, 1, 2, 3, 4, 5, 6, 7, 8, 9, 10, 11] (by rfl) (by rfl) [x74, x75, x76, x77, x78, x79, x92, x93, x94, x95, x96, x97] (by rfl) (by rfl) (by rfl) 12 (by rfl) (by decide)) (ov_ovE hM (by rfl) [] [0, 1] (by rfl) (by rfl) [(vp_updL (vp_updL (vp_updL (vp_updL (vp_updL y99 (0 : Int32).toNatClampNeg v1.toInt64) (1 : Int32).toNatClampNeg v2.toInt64) (2 : Int32).toNatClampNeg ((x78 ((6 * v1) + v2).toNatClampNeg).toInt64)) (3 : Int32).toNatClampNeg ((x76 v1.toNatClampNeg).toInt64)) (4 : Int32).toNatClampNeg ((x76 v2.toNatClampNeg).toInt64)), y100] (by rfl) (by rfl) (by rfl) 2 (by rfl) (by decide))) tw_1609 tw_1607 tw_127 tw_1608 pd_X12_differ (by decide) (by decide) rfl rfl (Nat.le_of_ble_eq_true rfl) rfl dX12_sumOf_77 ?_
  refine g_i2l hC dX12_sumOf_80 ?_
  obtain ⟨h_13, hf⟩ := gdE hf
  refine g_last hC (x := (vp_updL (vp_updL (vp_updL (vp_updL (vp_updL y99 (0 : Int32).toNatClampNeg v1.toInt64) (1 : Int32).toNatClampNeg v2.toInt64) (2 : Int32).toNatClampNeg ((x78 ((6 * v1) + v2).toNatClampNeg).toInt64)) (3 : Int32).toNatClampNeg ((x76 v1.toNatClampNeg).toInt64)) (4 : Int32).toNatClampNeg ((x76 v2.toNatClampNeg).toInt64))) (kk_99 hL) (kn_99 hL) (ov_get hM 0 rfl rfl) (inb_in h_13) (ov_set hM (by rfl) 0 (by rfl)) dX12_sumOf_81 ?_
  show gV l b0 D K (n, κ, ov X0 [74, 75, 76, 77, 78, 79, 92, 93, 94, 95, 96, 97] [x74, x75, x76, x77, x78, x79, x92, x93, x94, x95, x96, x97], ov Y0 [99, 100] [(vp_updL (vp_updL (vp_updL (vp_updL (vp_updL (vp_updL y99 (0 : Int32).toNatClampNeg v1.toInt64) (1 : Int32).toNatClampNeg v2.toInt64) (2 : Int32).toNatClampNeg ((x78 ((6 * v1) + v2).toNatClampNeg).toInt64)) (3 : Int32).toNatClampNeg ((x76 v1.toNatClampNeg).toInt64)) (4 : Int32).toNatClampNeg ((x76 v2.toNatClampNeg).toInt64)) (5 : Int32).toNatClampNeg r_11.toInt64), y100], Z, 0, 0) 82 [(0, .ref (b0 + 74)), (1, .int v1), (2, .int v2)] []
  refine g_aload_n hC 0 dX12_sumOf_82 rfl rfl ?_
  refine gt_X12_87 hC (a := 74) (kk_74 hL) (kn_74 hL) dX12_sumOf_83 ?_
  refine g_ref (b := 99) rfl ?_
  refine g_bipush hC (v := 6) dX12_sumOf_86 bp_6 ?_
  refine g_aload_n hC 0 dX12_sumOf_88 rfl rfl ?_
  refine gt_X12_16 hC (a := 74) (kk_74 hL) (kn_74 hL) dX12_sumOf_89 ?_
  refine g_ref (b := 77) rfl ?_
  refine g_iload_n hC 1 dX12_sumOf_92 rfl rfl ?_
  obtain ⟨h_14, hf⟩ := gdE hf
  refine g_iald hC (x := x77) (kk_77 hL) (kn_77 hL) (ov_get hN 3 rfl rfl) (inb_in h_14) dX12_sumOf_93 ?_
  refine g_i2l hC dX12_sumOf_94 ?_
  obtain ⟨h_15, hf⟩ := gdE hf
  refine g_last hC (x := (vp_updL (vp_updL (vp_updL (vp_updL (vp_updL (vp_updL y99 (0 : Int32).toNatClampNeg v1.toInt64) (1 : Int32).toNatClampNeg v2.toInt64) (2 : Int32).toNatClampNeg ((x78 ((6 * v1) + v2).toNatClampNeg).toInt64)) (3 : Int32).toNatClampNeg ((x76 v1.toNatClampNeg).toInt64)) (4 : Int32).toNatClampNeg ((x76 v2.toNatClampNeg).toInt64)) (5 : Int32).toNatClampNeg r_11.toInt64)) (kk_99 hL) (kn_99 hL) (ov_get hM 0 rfl rfl) (inb_in h_15) (ov_set hM (by rfl) 0 (by rfl)) dX12_sumOf_95 ?_
  show gV l b0 D K (n, κ, ov X0 [74, 75, 76, 77, 78, 79, 92, 93, 94, 95, 96, 97] [x74, x75, x76, x77, x78, x79, x92, x93, x94, x95, x96, x97], ov Y0 [99, 100] [(vp_updL (vp_updL (vp_updL (vp_updL (vp_updL (vp_updL (vp_updL y99 (0 : Int32).toNatClampNeg v1.toInt64) (1 : Int32).toNatClampNeg v2.toInt64) (2 : Int32).toNatClampNeg ((x78 ((6 * v1) + v2).toNatClampNeg).toInt64)) (3 : Int32).toNatClampNeg ((x76 v1.toNatClampNeg).toInt64)) (4 : Int32).toNatClampNeg ((x76 v2.toNatClampNeg).toInt64)) (5 : Int32).toNatClampNeg r_11.toInt64) (6 : Int32).toNatClampNeg ((x77 v1.toNatClampNeg).toInt64)), y100], Z, 0, 0) 96 [(0, .ref (b0 + 74)), (1, .int v1), (2, .int v2)] []
  refine g_aload_n hC 0 dX12_sumOf_96 rfl rfl ?_
  refine gt_X12_87 hC (a := 74) (kk_74 hL) (kn_74 hL) dX12_sumOf_97 ?_
  refine g_ref (b := 99) rfl ?_
  refine g_bipush hC (v := 7) dX12_sumOf_100 bp_7 ?_
  refine g_aload_n hC 0 dX12_sumOf_102 rfl rfl ?_
  refine gt_X12_16 hC (a := 74) (kk_74 hL) (kn_74 hL) dX12_sumOf_103 ?_
  refine g_ref (b := 77) rfl ?_
  refine g_iload_n hC 2 dX12_sumOf_106 rfl rfl ?_
  obtain ⟨h_16, hf⟩ := gdE hf
  refine g_iald hC (x := x77) (kk_77 hL) (kn_77 hL) (ov_get hN 3 rfl rfl) (inb_in h_16) dX12_sumOf_107 ?_
  refine g_i2l hC dX12_sumOf_108 ?_
  obtain ⟨h_17, hf⟩ := gdE hf
  refine g_last hC (x := (vp_updL (vp_updL (vp_updL (vp_updL (vp_updL (vp_updL (vp_updL y99 (0 : Int32).toNatClampNeg v1.toInt64) (1 : Int32).toNatClampNeg v2.toInt64) (2 : Int32).toNatClampNeg ((x78 ((6 * v1) + v2).toNatClampNeg).toInt64)) (3 : Int32).toNatClampNeg ((x76 v1.toNatClampNeg).toInt64)) (4 : Int32).toNatClampNeg ((x76 v2.toNatClampNeg).toInt64)) (5 : Int32).toNatClampNeg r_11.toInt64) (6 : Int32).toNatClampNeg ((x77 v1.toNatClampNeg).toInt64))) (kk_99 hL) (kn_99 hL) (ov_get hM 0 rfl rfl) (inb_in h_17) (ov_set hM (by rfl) 0 (by rfl)) dX12_sumOf_109 ?_
  show gV l b0 D K (n, κ, ov X0 [74, 75, 76, 77, 78, 79, 92, 93, 94, 95, 96, 97] [x74, x75, x76, x77, x78, x79, x92, x93, x94, x95, x96, x97], ov Y0 [99, 100] [(vp_updL (vp_updL (vp_updL (vp_updL (vp_updL (vp_updL (vp_updL (vp_updL y99 (0 : Int32).toNatClampNeg v1.toInt64) (1 : Int32).toNatClampNeg v2.toInt64) (2 : Int32).toNatClampNeg ((x78 ((6 * v1) + v2).toNatClampNeg).toInt64)) (3 : Int32).toNatClampNeg ((x76 v1.toNatClampNeg).toInt64)) (4 : Int32).toNatClampNeg ((x76 v2.toNatClampNeg).toInt64)) (5 : Int32).toNatClampNeg r_11.toInt64) (6 : Int32).toNatClampNeg ((x77 v1.toNatClampNeg).toInt64)) (7 : Int32).toNatClampNeg ((x77 v2.toNatClampNeg).toInt64)), y100], Z, 0, 0) 110 [(0, .ref (b0 + 74)), (1, .int v1), (2, .int v2)] []
  refine g_aload_n hC 0 dX12_sumOf_110 rfl rfl ?_
  refine gt_X12_87 hC (a := 74) (kk_74 hL) (kn_74 hL) dX12_sumOf_111 ?_
  refine g_ref (b := 99) rfl ?_
  refine g_bipush hC (v := 8) dX12_sumOf_114 bp_8 ?_
  refine g_aload_n hC 0 dX12_sumOf_116 rfl rfl ?_
  obtain ⟨r_18, q_19, hf⟩ := bd1E hf
  refine g_callV_i (a := 74) hC (X' := ov X0 [74, 75, 76, 77, 78, 79, 92, 93, 94, 95, 96, 97] [x74, x75, x76, x77, x78, x79, x92, x93, x94, x95, x96, x97]) (Y' := ov Y0 [99, 100] [(vp_updL (vp_updL (vp_updL (vp_updL (vp_updL (vp_updL (vp_updL (vp_updL y99 (0 : Int32).toNatClampNeg v1.toInt64) (1 : Int32).toNatClampNeg v2.toInt64) (2 : Int32).toNatClampNeg ((x78 ((6 * v1) + v2).toNatClampNeg).toInt64)) (3 : Int32).toNatClampNeg ((x76 v1.toNatClampNeg).toInt64)) (4 : Int32).toNatClampNeg ((x76 v2.toNatClampNeg).toInt64)) (5 : Int32).toNatClampNeg r_11.toInt64) (6 : Int32).toNatClampNeg ((x77 v1.toNatClampNeg).toInt64)) (7 : Int32).toNatClampNeg ((x77 v2.toNatClampNeg).toInt64)), y100]) (As := []) (gMi_eq (c_X12_heat l hL (ov_map hN [0, 1, 5] (by rfl) (by rfl)) (ov_map hM [] (by rfl) (by rfl)) q_19) (ov_ovE hN (by rfl) [0, 1, 5] [2, 3, 4, 6, 7, 8, 9, 10, 11] (by rfl) (by rfl) [x76, x77, x78, x92, x93, x94, x95, x96, x97] (by rfl) (by rfl) (by rfl) 12 (by rfl) (by decide)) (ov_ovE hM (by rfl) [] [0, 1] (by rfl) (by rfl) [(vp_updL (vp_updL (vp_updL (vp_updL (vp_updL (vp_updL (vp_updL (vp_updL y99 (0 : Int32).toNatClampNeg v1.toInt64) (1 : Int32).toNatClampNeg v2.toInt64) (2 : Int32).toNatClampNeg ((x78 ((6 * v1) + v2).toNatClampNeg).toInt64)) (3 : Int32).toNatClampNeg ((x76 v1.toNatClampNeg).toInt64)) (4 : Int32).toNatClampNeg ((x76 v2.toNatClampNeg).toInt64)) (5 : Int32).toNatClampNeg r_11.toInt64) (6 : Int32).toNatClampNeg ((x77 v1.toNatClampNeg).toInt64)) (7 : Int32).toNatClampNeg ((x77 v2.toNatClampNeg).toInt64)), y100] (by rfl) (by rfl) (by rfl) 2 (by rfl) (by decide))) tw_1538 tw_1535 tw_127 tw_1537 tw_76 (ci := 12) rfl (by decide) (kk_74 hL) (kn_74 hL) pd_X12_heat (by decide) (by decide) rfl rfl (Nat.le_of_ble_eq_true rfl) rfl dX12_sumOf_117 ?_
  refine g_i2l hC dX12_sumOf_120 ?_
  obtain ⟨h_20, hf⟩ := gdE hf
  refine g_last hC (x := (vp_updL (vp_updL (vp_updL (vp_updL (vp_updL (vp_updL (vp_updL (vp_updL y99 (0 : Int32).toNatClampNeg v1.toInt64) (1 : Int32).toNatClampNeg v2.toInt64) (2 : Int32).toNatClampNeg ((x78 ((6 * v1) + v2).toNatClampNeg).toInt64)) (3 : Int32).toNatClampNeg ((x76 v1.toNatClampNeg).toInt64)) (4 : Int32).toNatClampNeg ((x76 v2.toNatClampNeg).toInt64)) (5 : Int32).toNatClampNeg r_11.toInt64) (6 : Int32).toNatClampNeg ((x77 v1.toNatClampNeg).toInt64)) (7 : Int32).toNatClampNeg ((x77 v2.toNatClampNeg).toInt64))) (kk_99 hL) (kn_99 hL) (ov_get hM 0 rfl rfl) (inb_in h_20) (ov_set hM (by rfl) 0 (by rfl)) dX12_sumOf_121 ?_
  show gV l b0 D K (n, κ, ov X0 [74, 75, 76, 77, 78, 79, 92, 93, 94, 95, 96, 97] [x74, x75, x76, x77, x78, x79, x92, x93, x94, x95, x96, x97], ov Y0 [99, 100] [(vp_updL (vp_updL (vp_updL (vp_updL (vp_updL (vp_updL (vp_updL (vp_updL (vp_updL y99 (0 : Int32).toNatClampNeg v1.toInt64) (1 : Int32).toNatClampNeg v2.toInt64) (2 : Int32).toNatClampNeg ((x78 ((6 * v1) + v2).toNatClampNeg).toInt64)) (3 : Int32).toNatClampNeg ((x76 v1.toNatClampNeg).toInt64)) (4 : Int32).toNatClampNeg ((x76 v2.toNatClampNeg).toInt64)) (5 : Int32).toNatClampNeg r_11.toInt64) (6 : Int32).toNatClampNeg ((x77 v1.toNatClampNeg).toInt64)) (7 : Int32).toNatClampNeg ((x77 v2.toNatClampNeg).toInt64)) (8 : Int32).toNatClampNeg r_18.toInt64), y100], Z, 0, 0) 122 [(0, .ref (b0 + 74)), (1, .int v1), (2, .int v2)] []
  refine g_aload_n hC 0 dX12_sumOf_122 rfl rfl ?_
  refine gt_X12_87 hC (a := 74) (kk_74 hL) (kn_74 hL) dX12_sumOf_123 ?_
  refine g_ref (b := 99) rfl ?_
  refine g_bipush hC (v := 9) dX12_sumOf_126 bp_9 ?_
  refine g_aload_n hC 0 dX12_sumOf_128 rfl rfl ?_
  refine g_aload_n hC 0 dX12_sumOf_129 rfl rfl ?_
  refine gt_X12_9 hC (a := 74) (kk_74 hL) (kn_74 hL) dX12_sumOf_130 ?_
  refine g_ref (b := 75) rfl ?_
  refine g_iconst hC (v := 5) dX12_sumOf_133 ic_5 ?_
  obtain ⟨h_21, hf⟩ := gdE hf
  refine g_iald hC (x := x75) (kk_75 hL) (kn_75 hL) (ov_get hN 1 rfl rfl) (inb_in h_21) dX12_sumOf_134 ?_
  refine g_iconst hC (v := 1) dX12_sumOf_135 ic_1 ?_
  refine g_iadd hC dX12_sumOf_136 ?_
  obtain ⟨r_22, q_23, hf⟩ := bd1E hf
  refine g_callV_i (a := 74) hC (X' := ov X0 [74, 75, 76, 77, 78, 79, 92, 93, 94, 95, 96, 97] [x74, x75, x76, x77, x78, x79, x92, x93, x94, x95, x96, x97]) (Y' := ov Y0 [99, 100] [(vp_updL (vp_updL (vp_updL (vp_updL (vp_updL (vp_updL (vp_updL (vp_updL (vp_updL y99 (0 : Int32).toNatClampNeg v1.toInt64) (1 : Int32).toNatClampNeg v2.toInt64) (2 : Int32).toNatClampNeg ((x78 ((6 * v1) + v2).toNatClampNeg).toInt64)) (3 : Int32).toNatClampNeg ((x76 v1.toNatClampNeg).toInt64)) (4 : Int32).toNatClampNeg ((x76 v2.toNatClampNeg).toInt64)) (5 : Int32).toNatClampNeg r_11.toInt64) (6 : Int32).toNatClampNeg ((x77 v1.toNatClampNeg).toInt64)) (7 : Int32).toNatClampNeg ((x77 v2.toNatClampNeg).toInt64)) (8 : Int32).toNatClampNeg r_18.toInt64), y100]) (As := [.int ((x75 (5 : Int32).toNatClampNeg) + 1)]) (gMi_eq (c_X12_toldHeat l hL (ov_map hN [1, 5] (by rfl) (by rfl)) (ov_map hM [] (by rfl) (by rfl)) q_23) (ov_ovE hN (by rfl) [1, 5] [0, 2, 3, 4, 6, 7, 8, 9, 10, 11] (by rfl) (by rfl) [x74, x76, x77, x78, x92, x93, x94, x95, x96, x97] (by rfl) (by rfl) (by rfl) 12 (by rfl) (by decide)) (ov_ovE hM (by rfl) [] [0, 1] (by rfl) (by rfl) [(vp_updL (vp_updL (vp_updL (vp_updL (vp_updL (vp_updL (vp_updL (vp_updL (vp_updL y99 (0 : Int32).toNatClampNeg v1.toInt64) (1 : Int32).toNatClampNeg v2.toInt64) (2 : Int32).toNatClampNeg ((x78 ((6 * v1) + v2).toNatClampNeg).toInt64)) (3 : Int32).toNatClampNeg ((x76 v1.toNatClampNeg).toInt64)) (4 : Int32).toNatClampNeg ((x76 v2.toNatClampNeg).toInt64)) (5 : Int32).toNatClampNeg r_11.toInt64) (6 : Int32).toNatClampNeg ((x77 v1.toNatClampNeg).toInt64)) (7 : Int32).toNatClampNeg ((x77 v2.toNatClampNeg).toInt64)) (8 : Int32).toNatClampNeg r_18.toInt64), y100] (by rfl) (by rfl) (by rfl) 2 (by rfl) (by decide))) tw_1542 tw_1539 tw_127 tw_1541 tw_77 (ci := 12) rfl (by decide) (kk_74 hL) (kn_74 hL) pd_X12_toldHeat (by decide) (by decide) rfl rfl (Nat.le_of_ble_eq_true rfl) rfl dX12_sumOf_137 ?_
  refine g_i2l hC dX12_sumOf_140 ?_
  obtain ⟨h_24, hf⟩ := gdE hf
  refine g_last hC (x := (vp_updL (vp_updL (vp_updL (vp_updL (vp_updL (vp_updL (vp_updL (vp_updL (vp_updL y99 (0 : Int32).toNatClampNeg v1.toInt64) (1 : Int32).toNatClampNeg v2.toInt64) (2 : Int32).toNatClampNeg ((x78 ((6 * v1) + v2).toNatClampNeg).toInt64)) (3 : Int32).toNatClampNeg ((x76 v1.toNatClampNeg).toInt64)) (4 : Int32).toNatClampNeg ((x76 v2.toNatClampNeg).toInt64)) (5 : Int32).toNatClampNeg r_11.toInt64) (6 : Int32).toNatClampNeg ((x77 v1.toNatClampNeg).toInt64)) (7 : Int32).toNatClampNeg ((x77 v2.toNatClampNeg).toInt64)) (8 : Int32).toNatClampNeg r_18.toInt64)) (kk_99 hL) (kn_99 hL) (ov_get hM 0 rfl rfl) (inb_in h_24) (ov_set hM (by rfl) 0 (by rfl)) dX12_sumOf_141 ?_
  show gV l b0 D K (n, κ, ov X0 [74, 75, 76, 77, 78, 79, 92, 93, 94, 95, 96, 97] [x74, x75, x76, x77, x78, x79, x92, x93, x94, x95, x96, x97], ov Y0 [99, 100] [(vp_updL (vp_updL (vp_updL (vp_updL (vp_updL (vp_updL (vp_updL (vp_updL (vp_updL (vp_updL y99 (0 : Int32).toNatClampNeg v1.toInt64) (1 : Int32).toNatClampNeg v2.toInt64) (2 : Int32).toNatClampNeg ((x78 ((6 * v1) + v2).toNatClampNeg).toInt64)) (3 : Int32).toNatClampNeg ((x76 v1.toNatClampNeg).toInt64)) (4 : Int32).toNatClampNeg ((x76 v2.toNatClampNeg).toInt64)) (5 : Int32).toNatClampNeg r_11.toInt64) (6 : Int32).toNatClampNeg ((x77 v1.toNatClampNeg).toInt64)) (7 : Int32).toNatClampNeg ((x77 v2.toNatClampNeg).toInt64)) (8 : Int32).toNatClampNeg r_18.toInt64) (9 : Int32).toNatClampNeg r_22.toInt64), y100], Z, 0, 0) 142 [(0, .ref (b0 + 74)), (1, .int v1), (2, .int v2)] []
  refine g_aload_n hC 0 dX12_sumOf_142 rfl rfl ?_
  refine gt_X12_87 hC (a := 74) (kk_74 hL) (kn_74 hL) dX12_sumOf_143 ?_
  refine g_ref (b := 99) rfl ?_
  refine g_bipush hC (v := 10) dX12_sumOf_146 bp_10 ?_
  refine g_aload_n hC 0 dX12_sumOf_148 rfl rfl ?_
  refine gt_X12_9 hC (a := 74) (kk_74 hL) (kn_74 hL) dX12_sumOf_149 ?_
  refine g_ref (b := 75) rfl ?_
  refine g_bipush hC (v := 6) dX12_sumOf_152 bp_6 ?_
  obtain ⟨h_25, hf⟩ := gdE hf
  refine g_iald hC (x := x75) (kk_75 hL) (kn_75 hL) (ov_get hN 1 rfl rfl) (inb_in h_25) dX12_sumOf_154 ?_
  refine g_i2l hC dX12_sumOf_155 ?_
  obtain ⟨h_26, hf⟩ := gdE hf
  refine g_last hC (x := (vp_updL (vp_updL (vp_updL (vp_updL (vp_updL (vp_updL (vp_updL (vp_updL (vp_updL (vp_updL y99 (0 : Int32).toNatClampNeg v1.toInt64) (1 : Int32).toNatClampNeg v2.toInt64) (2 : Int32).toNatClampNeg ((x78 ((6 * v1) + v2).toNatClampNeg).toInt64)) (3 : Int32).toNatClampNeg ((x76 v1.toNatClampNeg).toInt64)) (4 : Int32).toNatClampNeg ((x76 v2.toNatClampNeg).toInt64)) (5 : Int32).toNatClampNeg r_11.toInt64) (6 : Int32).toNatClampNeg ((x77 v1.toNatClampNeg).toInt64)) (7 : Int32).toNatClampNeg ((x77 v2.toNatClampNeg).toInt64)) (8 : Int32).toNatClampNeg r_18.toInt64) (9 : Int32).toNatClampNeg r_22.toInt64)) (kk_99 hL) (kn_99 hL) (ov_get hM 0 rfl rfl) (inb_in h_26) (ov_set hM (by rfl) 0 (by rfl)) dX12_sumOf_156 ?_
  show gV l b0 D K (n, κ, ov X0 [74, 75, 76, 77, 78, 79, 92, 93, 94, 95, 96, 97] [x74, x75, x76, x77, x78, x79, x92, x93, x94, x95, x96, x97], ov Y0 [99, 100] [(vp_updL (vp_updL (vp_updL (vp_updL (vp_updL (vp_updL (vp_updL (vp_updL (vp_updL (vp_updL (vp_updL y99 (0 : Int32).toNatClampNeg v1.toInt64) (1 : Int32).toNatClampNeg v2.toInt64) (2 : Int32).toNatClampNeg ((x78 ((6 * v1) + v2).toNatClampNeg).toInt64)) (3 : Int32).toNatClampNeg ((x76 v1.toNatClampNeg).toInt64)) (4 : Int32).toNatClampNeg ((x76 v2.toNatClampNeg).toInt64)) (5 : Int32).toNatClampNeg r_11.toInt64) (6 : Int32).toNatClampNeg ((x77 v1.toNatClampNeg).toInt64)) (7 : Int32).toNatClampNeg ((x77 v2.toNatClampNeg).toInt64)) (8 : Int32).toNatClampNeg r_18.toInt64) (9 : Int32).toNatClampNeg r_22.toInt64) (10 : Int32).toNatClampNeg ((x75 (6 : Int32).toNatClampNeg).toInt64)), y100], Z, 0, 0) 157 [(0, .ref (b0 + 74)), (1, .int v1), (2, .int v2)] []
  refine g_aload_n hC 0 dX12_sumOf_157 rfl rfl ?_
  refine gt_X12_87 hC (a := 74) (kk_74 hL) (kn_74 hL) dX12_sumOf_158 ?_
  refine g_ref (b := 99) rfl ?_
  refine g_bipush hC (v := 11) dX12_sumOf_161 bp_11 ?_
  refine g_aload_n hC 0 dX12_sumOf_163 rfl rfl ?_
  refine gt_X12_9 hC (a := 74) (kk_74 hL) (kn_74 hL) dX12_sumOf_164 ?_
  refine g_ref (b := 75) rfl ?_
  refine g_iconst hC (v := 5) dX12_sumOf_167 ic_5 ?_
  obtain ⟨h_27, hf⟩ := gdE hf
  refine g_iald hC (x := x75) (kk_75 hL) (kn_75 hL) (ov_get hN 1 rfl rfl) (inb_in h_27) dX12_sumOf_168 ?_
  refine g_i2l hC dX12_sumOf_169 ?_
  obtain ⟨h_28, hf⟩ := gdE hf
  refine g_last hC (x := (vp_updL (vp_updL (vp_updL (vp_updL (vp_updL (vp_updL (vp_updL (vp_updL (vp_updL (vp_updL (vp_updL y99 (0 : Int32).toNatClampNeg v1.toInt64) (1 : Int32).toNatClampNeg v2.toInt64) (2 : Int32).toNatClampNeg ((x78 ((6 * v1) + v2).toNatClampNeg).toInt64)) (3 : Int32).toNatClampNeg ((x76 v1.toNatClampNeg).toInt64)) (4 : Int32).toNatClampNeg ((x76 v2.toNatClampNeg).toInt64)) (5 : Int32).toNatClampNeg r_11.toInt64) (6 : Int32).toNatClampNeg ((x77 v1.toNatClampNeg).toInt64)) (7 : Int32).toNatClampNeg ((x77 v2.toNatClampNeg).toInt64)) (8 : Int32).toNatClampNeg r_18.toInt64) (9 : Int32).toNatClampNeg r_22.toInt64) (10 : Int32).toNatClampNeg ((x75 (6 : Int32).toNatClampNeg).toInt64))) (kk_99 hL) (kn_99 hL) (ov_get hM 0 rfl rfl) (inb_in h_28) (ov_set hM (by rfl) 0 (by rfl)) dX12_sumOf_170 ?_
  show gV l b0 D K (n, κ, ov X0 [74, 75, 76, 77, 78, 79, 92, 93, 94, 95, 96, 97] [x74, x75, x76, x77, x78, x79, x92, x93, x94, x95, x96, x97], ov Y0 [99, 100] [(vp_updL (vp_updL (vp_updL (vp_updL (vp_updL (vp_updL (vp_updL (vp_updL (vp_updL (vp_updL (vp_updL (vp_updL y99 (0 : Int32).toNatClampNeg v1.toInt64) (1 : Int32).toNatClampNeg v2.toInt64) (2 : Int32).toNatClampNeg ((x78 ((6 * v1) + v2).toNatClampNeg).toInt64)) (3 : Int32).toNatClampNeg ((x76 v1.toNatClampNeg).toInt64)) (4 : Int32).toNatClampNeg ((x76 v2.toNatClampNeg).toInt64)) (5 : Int32).toNatClampNeg r_11.toInt64) (6 : Int32).toNatClampNeg ((x77 v1.toNatClampNeg).toInt64)) (7 : Int32).toNatClampNeg ((x77 v2.toNatClampNeg).toInt64)) (8 : Int32).toNatClampNeg r_18.toInt64) (9 : Int32).toNatClampNeg r_22.toInt64) (10 : Int32).toNatClampNeg ((x75 (6 : Int32).toNatClampNeg).toInt64)) (11 : Int32).toNatClampNeg ((x75 (5 : Int32).toNatClampNeg).toInt64)), y100], Z, 0, 0) 171 [(0, .ref (b0 + 74)), (1, .int v1), (2, .int v2)] []
  refine g_aload_n hC 0 dX12_sumOf_171 rfl rfl ?_
  obtain ⟨r_29, y100_30, q_31, hf⟩ := bd2E hf
  refine g_callV_l (a := 74) hC (X' := ov X0 [74, 75, 76, 77, 78, 79, 92, 93, 94, 95, 96, 97] [x74, x75, x76, x77, x78, x79, x92, x93, x94, x95, x96, x97]) (Y' := ov Y0 [99, 100] [(vp_updL (vp_updL (vp_updL (vp_updL (vp_updL (vp_updL (vp_updL (vp_updL (vp_updL (vp_updL (vp_updL (vp_updL y99 (0 : Int32).toNatClampNeg v1.toInt64) (1 : Int32).toNatClampNeg v2.toInt64) (2 : Int32).toNatClampNeg ((x78 ((6 * v1) + v2).toNatClampNeg).toInt64)) (3 : Int32).toNatClampNeg ((x76 v1.toNatClampNeg).toInt64)) (4 : Int32).toNatClampNeg ((x76 v2.toNatClampNeg).toInt64)) (5 : Int32).toNatClampNeg r_11.toInt64) (6 : Int32).toNatClampNeg ((x77 v1.toNatClampNeg).toInt64)) (7 : Int32).toNatClampNeg ((x77 v2.toNatClampNeg).toInt64)) (8 : Int32).toNatClampNeg r_18.toInt64) (9 : Int32).toNatClampNeg r_22.toInt64) (10 : Int32).toNatClampNeg ((x75 (6 : Int32).toNatClampNeg).toInt64)) (11 : Int32).toNatClampNeg ((x75 (5 : Int32).toNatClampNeg).toInt64)), y100_30]) (As := []) (gMl_eq (c_X12_wanted l hL (ov_map hN [1, 6, 7, 8, 9, 10, 11] (by rfl) (by rfl)) (ov_map hM [0, 1] (by rfl) (by rfl)) q_31) (ov_ovE hN (by rfl) [1, 6, 7, 8, 9, 10, 11] [0, 2, 3, 4, 5] (by rfl) (by rfl) [x74, x76, x77, x78, x79] (by rfl) (by rfl) (by rfl) 12 (by rfl) (by decide)) (ov_ovE hM (by rfl) [0, 1] [] (by rfl) (by rfl) [] (by rfl) (by rfl) (by rfl) 2 (by rfl) (by decide))) tw_1613 tw_1610 tw_127 tw_1612 tw_90 (ci := 12) rfl (by decide) (kk_74 hL) (kn_74 hL) pd_X12_wanted (by decide) (by decide) rfl rfl (Nat.le_of_ble_eq_true rfl) rfl dX12_sumOf_172 ?_
  obtain ⟨rfl, rfl, rfl⟩ := sm3E hf
  exact hret _ _ dX12_sumOf_175

def fX12_sumOf   (x74 : Nat → Int32) (x75 : Nat → Int32) (x76 : Nat → Int32) (x77 : Nat → Int32) (x78 : Nat → Int32) (x79 : Nat → Int32) (x92 : Nat → Int32) (x93 : Nat → Int32) (x94 : Nat → Int32) (x95 : Nat → Int32) (x96 : Nat → Int32) (x97 : Nat → Int32)  (v1 : Int32) (v2 : Int32)  (y99 : Nat → Int64) (y100 : Nat → Int64) : Option (Int64 × (Nat → Int64) × (Nat → Int64)) := fX12_sumOf_0 x74 x75 x76 x77 x78 x79 x92 x93 x94 x95 x96 x97 v1 v2 y99 y100

set_option maxHeartbeats 4000000 in
set_option maxRecDepth 100000 in
theorem c_X12_sumOf (l : Launch) {b0 : Nat} {D : GD} {n : Nat} {κ : QT} {X0 : XT} {Y0 : YT} {Z : ZT} (hL : LY n κ) {x74 : Nat → Int32} {x75 : Nat → Int32} {x76 : Nat → Int32} {x77 : Nat → Int32} {x78 : Nat → Int32} {x79 : Nat → Int32} {x92 : Nat → Int32} {x93 : Nat → Int32} {x94 : Nat → Int32} {x95 : Nat → Int32} {x96 : Nat → Int32} {x97 : Nat → Int32} {y99 : Nat → Int64} {y100 : Nat → Int64} (hx : ([74, 75, 76, 77, 78, 79, 92, 93, 94, 95, 96, 97] : List Nat).map X0 = [x74, x75, x76, x77, x78, x79, x92, x93, x94, x95, x96, x97]) (hy : ([99, 100] : List Nat).map Y0 = [y99, y100]) {v1 : Int32} {v2 : Int32} {r : Int64} {ry99 : (Nat → Int64)} {ry100 : (Nat → Int64)} (hf : fX12_sumOf x74 x75 x76 x77 x78 x79 x92 x93 x94 x95 x96 x97 v1 v2 y99 y100 = some (r, ry99, ry100)) : gMl l yX12_sumOf cX12_sumOf 3 (some FieldType.long) 4 93 0 0 b0 D [.ref (b0 + 74), .int v1, .int v2] (n, κ, X0, Y0, Z) (n, κ, ov X0 [74, 75, 76, 77, 78, 79, 92, 93, 94, 95, 96, 97] [x74, x75, x76, x77, x78, x79, x92, x93, x94, x95, x96, x97], ov Y0 [99, 100] [ry99, ry100], Z) r := by
  have hN : ([74, 75, 76, 77, 78, 79, 92, 93, 94, 95, 96, 97] : List Nat).Nodup := by decide
  have hM : ([99, 100] : List Nat).Nodup := by decide
  refine g_metl (own := RX12) (by decide) rfl rfl (Nat.le_of_ble_eq_true rfl) ?_
  intro K hC hret
  have e := wX12_sumOf_0 hL hN hM hC  hret hf
  rw [ov_id' hx, ov_id' hy] at e
  exact g_sub [0, 1, 2] rfl e

-- X12_choice
def fX12_choice_178   (x75 : Nat → Int32) (x76 : Nat → Int32) (x77 : Nat → Int32) (x78 : Nat → Int32) (x79 : Nat → Int32) (x92 : Nat → Int32) (x93 : Nat → Int32) (x94 : Nat → Int32) (x95 : Nat → Int32) (x96 : Nat → Int32) (x97 : Nat → Int32)  (k110 : Int32 → Int64 → Int32 → (Nat → Int32) → (Nat → Int64) → (Nat → Int64) → Option (Int32 × (Nat → Int32) × (Nat → Int64) × (Nat → Int64))) (k127 : Int32 → Int64 → Int32 → Int32 → (Nat → Int32) → (Nat → Int64) → (Nat → Int64) → Option (Int32 × (Nat → Int32) × (Nat → Int64) × (Nat → Int64))) (v1 : Int32) (v2 : Int64) (v4 : Int32) (v5 : Int32) (x74 : (Nat → Int32)) (y99 : (Nat → Int64)) (y100 : (Nat → Int64)) : Option (Int32 × (Nat → Int32) × (Nat → Int64) × (Nat → Int64)) := bn (v5 + 1) fun t_1 => (k127 v1 v2 v4 t_1 x74 y99 y100)
set_option maxHeartbeats 4000000 in
set_option maxRecDepth 100000 in
theorem wX12_choice_178 {l : Launch} {b0 : Nat} {D : GD} {K : KT} {n : Nat} {κ : QT} {X0 : XT} {Y0 : YT} {Z : ZT} (hL : LY n κ) (hN : ([74, 75, 76, 77, 78, 79, 92, 93, 94, 95, 96, 97] : List Nat).Nodup) (hM : ([99, 100] : List Nat).Nodup) (hC : gC l b0 D K RX12 cX12_choice (some FieldType.int) 8 5 115 0 0) {x75 : Nat → Int32} {x76 : Nat → Int32} {x77 : Nat → Int32} {x78 : Nat → Int32} {x79 : Nat → Int32} {x92 : Nat → Int32} {x93 : Nat → Int32} {x94 : Nat → Int32} {x95 : Nat → Int32} {x96 : Nat → Int32} {x97 : Nat → Int32} {r : Int32} {rx74 : (Nat → Int32)} {ry99 : (Nat → Int64)} {ry100 : (Nat → Int64)} (hret : ∀ pc loc, narrow .int (.int r) = .int r → decode cX12_choice pc = .ok (.ireturn, 1) → gV l b0 D K (n, κ, ov X0 [74, 75, 76, 77, 78, 79, 92, 93, 94, 95, 96, 97] [rx74, x75, x76, x77, x78, x79, x92, x93, x94, x95, x96, x97], ov Y0 [99, 100] [ry99, ry100], Z, 0, 0) pc loc [.int r]) {k110 : Int32 → Int64 → Int32 → (Nat → Int32) → (Nat → Int64) → (Nat → Int64) → Option (Int32 × (Nat → Int32) × (Nat → Int64) × (Nat → Int64))} (hk110 : ∀ (v1 : Int32) (v2 : Int64) (v4 : Int32) (x74 : (Nat → Int32)) (y99 : (Nat → Int64)) (y100 : (Nat → Int64)), k110 v1 v2 v4 x74 y99 y100 = some (r, rx74, ry99, ry100) → gV l b0 D K (n, κ, ov X0 [74, 75, 76, 77, 78, 79, 92, 93, 94, 95, 96, 97] [x74, x75, x76, x77, x78, x79, x92, x93, x94, x95, x96, x97], ov Y0 [99, 100] [y99, y100], Z, 0, 0) 110 [(0, .ref (b0 + 74)), (1, .int v1), (2, .long v2), (4, .int v4)] []) {k127 : Int32 → Int64 → Int32 → Int32 → (Nat → Int32) → (Nat → Int64) → (Nat → Int64) → Option (Int32 × (Nat → Int32) × (Nat → Int64) × (Nat → Int64))} (hk127 : ∀ (v1 : Int32) (v2 : Int64) (v4 : Int32) (v5 : Int32) (x74 : (Nat → Int32)) (y99 : (Nat → Int64)) (y100 : (Nat → Int64)), k127 v1 v2 v4 v5 x74 y99 y100 = some (r, rx74, ry99, ry100) → gV l b0 D K (n, κ, ov X0 [74, 75, 76, 77, 78, 79, 92, 93, 94, 95, 96, 97] [x74, x75, x76, x77, x78, x79, x92, x93, x94, x95, x96, x97], ov Y0 [99, 100] [y99, y100], Z, 0, 0) 127 [(0, .ref (b0 + 74)), (1, .int v1), (2, .long v2), (4, .int v4), (5, .int v5)] []) {v1 : Int32} {v2 : Int64} {v4 : Int32} {v5 : Int32} {x74 : (Nat → Int32)} {y99 : (Nat → Int64)} {y100 : (Nat → Int64)} (hf : fX12_choice_178 x75 x76 x77 x78 x79 x92 x93 x94 x95 x96 x97 k110 k127 v1 v2 v4 v5 x74 y99 y100 = some (r, rx74, ry99, ry100)) : gV l b0 D K (n, κ, ov X0 [74, 75, 76, 77, 78, 79, 92, 93, 94, 95, 96, 97] [x74, x75, x76, x77, x78, x79, x92, x93, x94, x95, x96, x97], ov Y0 [99, 100] [y99, y100], Z, 0, 0) 178 [(0, .ref (b0 + 74)), (1, .int v1), (2, .long v2), (4, .int v4), (5, .int v5)] [] := by
  unfold fX12_choice_178 at hf
  obtain ⟨t_1, et_1, hf⟩ := bnE hf
  refine g_iinc hC (i := 5) (v := t_1) [(5, .int t_1), (0, .ref (b0 + 74)), (1, .int v1), (2, .long v2), (4, .int v4)] dX12_choice_178 (q := 4) rfl ((congrArg (HAdd.hAdd v5) ic_1).trans et_1.symm) (by decide) rfl ?_
  refine g_goto hC 127 dX12_choice_181 (by decide) ?_
  exact g_sub [1, 2, 3, 4, 0] rfl (hk127 v1 v2 v4 t_1 x74 y99 y100 hf)

def fX12_choice_127b   (x75 : Nat → Int32) (x76 : Nat → Int32) (x77 : Nat → Int32) (x78 : Nat → Int32) (x79 : Nat → Int32) (x92 : Nat → Int32) (x93 : Nat → Int32) (x94 : Nat → Int32) (x95 : Nat → Int32) (x96 : Nat → Int32) (x97 : Nat → Int32)  (k110 : Int32 → Int64 → Int32 → (Nat → Int32) → (Nat → Int64) → (Nat → Int64) → Option (Int32 × (Nat → Int32) × (Nat → Int64) × (Nat → Int64))) (k127 : Int32 → Int64 → Int32 → Int32 → (Nat → Int32) → (Nat → Int64) → (Nat → Int64) → Option (Int32 × (Nat → Int32) × (Nat → Int64) × (Nat → Int64))) (v1 : Int32) (v2 : Int64) (v4 : Int32) (v5 : Int32) (x74 : (Nat → Int32)) (y99 : (Nat → Int64)) (y100 : (Nat → Int64)) : Option (Int32 × (Nat → Int32) × (Nat → Int64) × (Nat → Int64)) := gd (inb 4 11) (if (x75 (4 : Int32).toNatClampNeg) ≤ v5 then (bn (v4 + 1) fun t_2 => (k110 v1 v2 t_2 x74 y99 y100)) else (bd1 (fX12_canHarden x78 v4 v5) fun r_3 => (if r_3 = 0 then (fX12_choice_178 x75 x76 x77 x78 x79 x92 x93 x94 x95 x96 x97 k110 k127 v1 v2 v4 v5 x74 y99 y100) else (bd3 (fX12_sumOf x74 x75 x76 x77 x78 x79 x92 x93 x94 x95 x96 x97 v4 v5 y99 y100) fun r_5 y99_6 y100_7 => (if (lg_cmp r_5 v2) ≤ 0 then (fX12_choice_178 x75 x76 x77 x78 x79 x92 x93 x94 x95 x96 x97 k110 k127 v1 v2 v4 v5 x74 y99_6 y100_7) else (bn ((8 * v4) + v5) fun t_9 => (fX12_choice_178 x75 x76 x77 x78 x79 x92 x93 x94 x95 x96 x97 k110 k127 t_9 r_5 v4 v5 x74 y99_6 y100_7)))))))
def fX12_choice_127   (x75 : Nat → Int32) (x76 : Nat → Int32) (x77 : Nat → Int32) (x78 : Nat → Int32) (x79 : Nat → Int32) (x92 : Nat → Int32) (x93 : Nat → Int32) (x94 : Nat → Int32) (x95 : Nat → Int32) (x96 : Nat → Int32) (x97 : Nat → Int32)  (k110 : Int32 → Int64 → Int32 → (Nat → Int32) → (Nat → Int64) → (Nat → Int64) → Option (Int32 × (Nat → Int32) × (Nat → Int64) × (Nat → Int64))) : Int32 → Int64 → Int32 → Int32 → (Nat → Int32) → (Nat → Int64) → (Nat → Int64) → Option (Int32 × (Nat → Int32) × (Nat → Int64) × (Nat → Int64)) := lq7 (fX12_choice_127b x75 x76 x77 x78 x79 x92 x93 x94 x95 x96 x97 k110) 5000
set_option maxHeartbeats 4000000 in
set_option maxRecDepth 100000 in
theorem wX12_choice_127 {l : Launch} {b0 : Nat} {D : GD} {K : KT} {n : Nat} {κ : QT} {X0 : XT} {Y0 : YT} {Z : ZT} (hL : LY n κ) (hN : ([74, 75, 76, 77, 78, 79, 92, 93, 94, 95, 96, 97] : List Nat).Nodup) (hM : ([99, 100] : List Nat).Nodup) (hC : gC l b0 D K RX12 cX12_choice (some FieldType.int) 8 5 115 0 0) {x75 : Nat → Int32} {x76 : Nat → Int32} {x77 : Nat → Int32} {x78 : Nat → Int32} {x79 : Nat → Int32} {x92 : Nat → Int32} {x93 : Nat → Int32} {x94 : Nat → Int32} {x95 : Nat → Int32} {x96 : Nat → Int32} {x97 : Nat → Int32} {r : Int32} {rx74 : (Nat → Int32)} {ry99 : (Nat → Int64)} {ry100 : (Nat → Int64)} (hret : ∀ pc loc, narrow .int (.int r) = .int r → decode cX12_choice pc = .ok (.ireturn, 1) → gV l b0 D K (n, κ, ov X0 [74, 75, 76, 77, 78, 79, 92, 93, 94, 95, 96, 97] [rx74, x75, x76, x77, x78, x79, x92, x93, x94, x95, x96, x97], ov Y0 [99, 100] [ry99, ry100], Z, 0, 0) pc loc [.int r]) {k110 : Int32 → Int64 → Int32 → (Nat → Int32) → (Nat → Int64) → (Nat → Int64) → Option (Int32 × (Nat → Int32) × (Nat → Int64) × (Nat → Int64))} (hk110 : ∀ (v1 : Int32) (v2 : Int64) (v4 : Int32) (x74 : (Nat → Int32)) (y99 : (Nat → Int64)) (y100 : (Nat → Int64)), k110 v1 v2 v4 x74 y99 y100 = some (r, rx74, ry99, ry100) → gV l b0 D K (n, κ, ov X0 [74, 75, 76, 77, 78, 79, 92, 93, 94, 95, 96, 97] [x74, x75, x76, x77, x78, x79, x92, x93, x94, x95, x96, x97], ov Y0 [99, 100] [y99, y100], Z, 0, 0) 110 [(0, .ref (b0 + 74)), (1, .int v1), (2, .long v2), (4, .int v4)] []) : ∀ (j : Nat) (v1 : Int32) (v2 : Int64) (v4 : Int32) (v5 : Int32) (x74 : (Nat → Int32)) (y99 : (Nat → Int64)) (y100 : (Nat → Int64)), lq7 (fX12_choice_127b x75 x76 x77 x78 x79 x92 x93 x94 x95 x96 x97 k110) j v1 v2 v4 v5 x74 y99 y100 = some (r, rx74, ry99, ry100) → gV l b0 D K (n, κ, ov X0 [74, 75, 76, 77, 78, 79, 92, 93, 94, 95, 96, 97] [x74, x75, x76, x77, x78, x79, x92, x93, x94, x95, x96, x97], ov Y0 [99, 100] [y99, y100], Z, 0, 0) 127 [(0, .ref (b0 + 74)), (1, .int v1), (2, .long v2), (4, .int v4), (5, .int v5)] [] := by
  intro j
  induction j with
  | zero => intro v1 v2 v4 v5 x74 y99 y100 hf; cases hf
  | succ j hk127 =>
    intro v1 v2 v4 v5 x74 y99 y100 hf
    replace hf : fX12_choice_127b x75 x76 x77 x78 x79 x92 x93 x94 x95 x96 x97 k110 (lq7 (fX12_choice_127b x75 x76 x77 x78 x79 x92 x93 x94 x95 x96 x97 k110) j) v1 v2 v4 v5 x74 y99 y100 = some (r, rx74, ry99, ry100) := hf
    unfold fX12_choice_127b at hf
    refine g_iload hC 4 dX12_choice_127 rfl ?_
    refine g_aload_n hC 0 dX12_choice_129 rfl rfl ?_
    refine gt_X12_9 hC (a := 74) (kk_74 hL) (kn_74 hL) dX12_choice_130 ?_
    refine g_ref (b := 75) rfl ?_
    refine g_iconst hC (v := 4) dX12_choice_133 ic_4 ?_
    obtain ⟨h_1, hf⟩ := gdE hf
    refine g_iald hC (x := x75) (kk_75 hL) (kn_75 hL) (ov_get hN 1 rfl rfl) (inb_in h_1) dX12_choice_134 ?_
    refine g_icmp_ge hC 184 dX12_choice_135 (by decide) (fun hc => ?_) (fun hc => ?_)
    · replace hf := ifT hf hc
      obtain ⟨t_2, et_2, hf⟩ := bnE hf
      refine g_iinc hC (i := 4) (v := t_2) [(4, .int t_2), (0, .ref (b0 + 74)), (1, .int v1), (2, .long v2), (5, .int v5)] dX12_choice_184 (q := 3) rfl ((congrArg (HAdd.hAdd v4) ic_1).trans et_2.symm) (by decide) rfl ?_
      refine g_goto hC 110 dX12_choice_187 (by decide) ?_
      exact g_sub [1, 2, 3, 0] rfl (hk110 v1 v2 t_2 x74 y99 y100 hf)
    · replace hf := ifF hf hc
      refine g_aload_n hC 0 dX12_choice_138 rfl rfl ?_
      refine g_iload hC 3 dX12_choice_139 rfl ?_
      refine g_iload hC 4 dX12_choice_141 rfl ?_
      obtain ⟨r_3, q_4, hf⟩ := bd1E hf
      refine g_callV_i (a := 74) hC (X' := ov X0 [74, 75, 76, 77, 78, 79, 92, 93, 94, 95, 96, 97] [x74, x75, x76, x77, x78, x79, x92, x93, x94, x95, x96, x97]) (Y' := ov Y0 [99, 100] [y99, y100]) (As := [.int v4, .int v5]) (gMi_eq (c_X12_canHarden l hL (ov_map hN [4] (by rfl) (by rfl)) (ov_map hM [] (by rfl) (by rfl)) q_4) (ov_ovE hN (by rfl) [4] [0, 1, 2, 3, 5, 6, 7, 8, 9, 10, 11] (by rfl) (by rfl) [x74, x75, x76, x77, x79, x92, x93, x94, x95, x96, x97] (by rfl) (by rfl) (by rfl) 12 (by rfl) (by decide)) (ov_ovE hM (by rfl) [] [0, 1] (by rfl) (by rfl) [y99, y100] (by rfl) (by rfl) (by rfl) 2 (by rfl) (by decide))) tw_1601 tw_1598 tw_127 tw_1600 tw_88 (ci := 12) rfl (by decide) (kk_74 hL) (kn_74 hL) pd_X12_canHarden (by decide) (by decide) rfl rfl (Nat.le_of_ble_eq_true rfl) rfl dX12_choice_143 ?_
      refine g_if_eq hC 178 dX12_choice_146 (by decide) (fun hc => ?_) (fun hc => ?_)
      · replace hf := ifT hf hc
        exact g_sub [0, 1, 2, 3, 4] rfl (wX12_choice_178 hL hN hM hC  hret hk110 hk127 hf)
      · replace hf := ifF hf hc
        refine g_aload_n hC 0 dX12_choice_149 rfl rfl ?_
        refine g_iload hC 3 dX12_choice_150 rfl ?_
        refine g_iload hC 4 dX12_choice_152 rfl ?_
        obtain ⟨r_5, y99_6, y100_7, q_8, hf⟩ := bd3E hf
        refine g_callV_l (a := 74) hC (X' := ov X0 [74, 75, 76, 77, 78, 79, 92, 93, 94, 95, 96, 97] [x74, x75, x76, x77, x78, x79, x92, x93, x94, x95, x96, x97]) (Y' := ov Y0 [99, 100] [y99_6, y100_7]) (As := [.int v4, .int v5]) (gMl_eq (c_X12_sumOf l hL (ov_map hN [0, 1, 2, 3, 4, 5, 6, 7, 8, 9, 10, 11] (by rfl) (by rfl)) (ov_map hM [0, 1] (by rfl) (by rfl)) q_8) (ov_ovE hN (by rfl) [0, 1, 2, 3, 4, 5, 6, 7, 8, 9, 10, 11] [] (by rfl) (by rfl) [] (by rfl) (by rfl) (by rfl) 12 (by rfl) (by decide)) (ov_ovE hM (by rfl) [0, 1] [] (by rfl) (by rfl) [] (by rfl) (by rfl) (by rfl) 2 (by rfl) (by decide))) tw_1606 tw_1603 tw_127 tw_1605 tw_89 (ci := 12) rfl (by decide) (kk_74 hL) (kn_74 hL) pd_X12_sumOf (by decide) (by decide) rfl rfl (Nat.le_of_ble_eq_true rfl) rfl dX12_choice_154 ?_
        refine g_lstore hC (i := 6) [(6, .long r_5), (0, .ref (b0 + 74)), (1, .int v1), (2, .long v2), (4, .int v4), (5, .int v5)] dX12_choice_157 (by decide) rfl ?_
        refine g_lload hC 0 dX12_choice_159 rfl ?_
        refine g_lload_n hC 3 dX12_choice_161 rfl rfl ?_
        refine g_lcmp hC dX12_choice_162 ?_
        refine g_if_le hC 178 dX12_choice_163 (by decide) (fun hc => ?_) (fun hc => ?_)
        · replace hf := ifT hf hc
          exact g_sub [1, 2, 3, 4, 5] rfl (wX12_choice_178 hL hN hM hC  hret hk110 hk127 hf)
        · replace hf := ifF hf hc
          refine g_bipush hC (v := 8) dX12_choice_166 bp_8 ?_
          refine g_iload hC 4 dX12_choice_168 rfl ?_
          refine g_imul hC dX12_choice_170 ?_
          refine g_iload hC 5 dX12_choice_171 rfl ?_
          refine g_iadd hC dX12_choice_173 ?_
          obtain ⟨t_9, et_9, hf⟩ := bnE hf
          refine g_topi et_9 ?_
          refine g_istore_n hC (i := 1) [(1, .int t_9), (6, .long r_5), (0, .ref (b0 + 74)), (2, .long v2), (4, .int v4), (5, .int v5)] rfl dX12_choice_174 (by decide) rfl ?_
          refine g_lload hC 1 dX12_choice_175 rfl ?_
          refine g_lstore_n hC (i := 2) [(2, .long r_5), (1, .int t_9), (6, .long r_5), (0, .ref (b0 + 74)), (4, .int v4), (5, .int v5)] rfl dX12_choice_177 (by decide) rfl ?_
          exact g_sub [3, 1, 0, 4, 5] rfl (wX12_choice_178 hL hN hM hC  hret hk110 hk127 hf)

def fX12_choice_110b   (x75 : Nat → Int32) (x76 : Nat → Int32) (x77 : Nat → Int32) (x78 : Nat → Int32) (x79 : Nat → Int32) (x92 : Nat → Int32) (x93 : Nat → Int32) (x94 : Nat → Int32) (x95 : Nat → Int32) (x96 : Nat → Int32) (x97 : Nat → Int32)  (k110 : Int32 → Int64 → Int32 → (Nat → Int32) → (Nat → Int64) → (Nat → Int64) → Option (Int32 × (Nat → Int32) × (Nat → Int64) × (Nat → Int64))) (v1 : Int32) (v2 : Int64) (v4 : Int32) (x74 : (Nat → Int32)) (y99 : (Nat → Int64)) (y100 : (Nat → Int64)) : Option (Int32 × (Nat → Int32) × (Nat → Int64) × (Nat → Int64)) := gd (inb 4 11) (if (x75 (4 : Int32).toNatClampNeg) ≤ v4 then (some (v1, x74, y99, y100)) else (bn (v4 + 1) fun t_2 => (fX12_choice_127 x75 x76 x77 x78 x79 x92 x93 x94 x95 x96 x97 k110 v1 v2 v4 t_2 x74 y99 y100)))
def fX12_choice_110   (x75 : Nat → Int32) (x76 : Nat → Int32) (x77 : Nat → Int32) (x78 : Nat → Int32) (x79 : Nat → Int32) (x92 : Nat → Int32) (x93 : Nat → Int32) (x94 : Nat → Int32) (x95 : Nat → Int32) (x96 : Nat → Int32) (x97 : Nat → Int32)  : Int32 → Int64 → Int32 → (Nat → Int32) → (Nat → Int64) → (Nat → Int64) → Option (Int32 × (Nat → Int32) × (Nat → Int64) × (Nat → Int64)) := lq6 (fX12_choice_110b x75 x76 x77 x78 x79 x92 x93 x94 x95 x96 x97 ) 5000
set_option maxHeartbeats 4000000 in
set_option maxRecDepth 100000 in
theorem wX12_choice_110 {l : Launch} {b0 : Nat} {D : GD} {K : KT} {n : Nat} {κ : QT} {X0 : XT} {Y0 : YT} {Z : ZT} (hL : LY n κ) (hN : ([74, 75, 76, 77, 78, 79, 92, 93, 94, 95, 96, 97] : List Nat).Nodup) (hM : ([99, 100] : List Nat).Nodup) (hC : gC l b0 D K RX12 cX12_choice (some FieldType.int) 8 5 115 0 0) {x75 : Nat → Int32} {x76 : Nat → Int32} {x77 : Nat → Int32} {x78 : Nat → Int32} {x79 : Nat → Int32} {x92 : Nat → Int32} {x93 : Nat → Int32} {x94 : Nat → Int32} {x95 : Nat → Int32} {x96 : Nat → Int32} {x97 : Nat → Int32} {r : Int32} {rx74 : (Nat → Int32)} {ry99 : (Nat → Int64)} {ry100 : (Nat → Int64)} (hret : ∀ pc loc, narrow .int (.int r) = .int r → decode cX12_choice pc = .ok (.ireturn, 1) → gV l b0 D K (n, κ, ov X0 [74, 75, 76, 77, 78, 79, 92, 93, 94, 95, 96, 97] [rx74, x75, x76, x77, x78, x79, x92, x93, x94, x95, x96, x97], ov Y0 [99, 100] [ry99, ry100], Z, 0, 0) pc loc [.int r]) : ∀ (j : Nat) (v1 : Int32) (v2 : Int64) (v4 : Int32) (x74 : (Nat → Int32)) (y99 : (Nat → Int64)) (y100 : (Nat → Int64)), lq6 (fX12_choice_110b x75 x76 x77 x78 x79 x92 x93 x94 x95 x96 x97 ) j v1 v2 v4 x74 y99 y100 = some (r, rx74, ry99, ry100) → gV l b0 D K (n, κ, ov X0 [74, 75, 76, 77, 78, 79, 92, 93, 94, 95, 96, 97] [x74, x75, x76, x77, x78, x79, x92, x93, x94, x95, x96, x97], ov Y0 [99, 100] [y99, y100], Z, 0, 0) 110 [(0, .ref (b0 + 74)), (1, .int v1), (2, .long v2), (4, .int v4)] [] := by
  intro j
  induction j with
  | zero => intro v1 v2 v4 x74 y99 y100 hf; cases hf
  | succ j hk110 =>
    intro v1 v2 v4 x74 y99 y100 hf
    replace hf : fX12_choice_110b x75 x76 x77 x78 x79 x92 x93 x94 x95 x96 x97  (lq6 (fX12_choice_110b x75 x76 x77 x78 x79 x92 x93 x94 x95 x96 x97 ) j) v1 v2 v4 x74 y99 y100 = some (r, rx74, ry99, ry100) := hf
    unfold fX12_choice_110b at hf
    refine g_iload hC 3 dX12_choice_110 rfl ?_
    refine g_aload_n hC 0 dX12_choice_112 rfl rfl ?_
    refine gt_X12_9 hC (a := 74) (kk_74 hL) (kn_74 hL) dX12_choice_113 ?_
    refine g_ref (b := 75) rfl ?_
    refine g_iconst hC (v := 4) dX12_choice_116 ic_4 ?_
    obtain ⟨h_1, hf⟩ := gdE hf
    refine g_iald hC (x := x75) (kk_75 hL) (kn_75 hL) (ov_get hN 1 rfl rfl) (inb_in h_1) dX12_choice_117 ?_
    refine g_icmp_ge hC 190 dX12_choice_118 (by decide) (fun hc => ?_) (fun hc => ?_)
    · replace hf := ifT hf hc
      refine g_iload_n hC 1 dX12_choice_190 rfl rfl ?_
      obtain ⟨rfl, rfl, rfl, rfl⟩ := sm4E hf
      exact hret _ _ rfl dX12_choice_191
    · replace hf := ifF hf hc
      refine g_iload hC 3 dX12_choice_121 rfl ?_
      refine g_iconst hC (v := 1) dX12_choice_123 ic_1 ?_
      refine g_iadd hC dX12_choice_124 ?_
      obtain ⟨t_2, et_2, hf⟩ := bnE hf
      refine g_topi et_2 ?_
      refine g_istore hC (i := 5) [(5, .int t_2), (0, .ref (b0 + 74)), (1, .int v1), (2, .long v2), (4, .int v4)] dX12_choice_125 (by decide) rfl ?_
      exact g_sub [1, 2, 3, 4, 0] rfl (wX12_choice_127 hL hN hM hC  hret hk110 5000 v1 v2 v4 t_2 x74 y99 y100 hf)

def fX12_choice_61   (x75 : Nat → Int32) (x76 : Nat → Int32) (x77 : Nat → Int32) (x78 : Nat → Int32) (x79 : Nat → Int32) (x92 : Nat → Int32) (x93 : Nat → Int32) (x94 : Nat → Int32) (x95 : Nat → Int32) (x96 : Nat → Int32) (x97 : Nat → Int32)  (s0 : Int32) (x74 : (Nat → Int32)) (y99 : (Nat → Int64)) (y100 : (Nat → Int64)) : Option (Int32 × (Nat → Int32) × (Nat → Int64) × (Nat → Int64)) := gd (bz s0) (if ((upd x74 39 s0) 39) = 0 then (some ((-1), (upd x74 39 s0), y99, y100)) else (some ((upd x74 39 s0) 38, (upd x74 39 s0), y99, y100)))
set_option maxHeartbeats 4000000 in
set_option maxRecDepth 100000 in
theorem wX12_choice_61 {l : Launch} {b0 : Nat} {D : GD} {K : KT} {n : Nat} {κ : QT} {X0 : XT} {Y0 : YT} {Z : ZT} (hL : LY n κ) (hN : ([74, 75, 76, 77, 78, 79, 92, 93, 94, 95, 96, 97] : List Nat).Nodup) (hM : ([99, 100] : List Nat).Nodup) (hC : gC l b0 D K RX12 cX12_choice (some FieldType.int) 8 5 115 0 0) {x75 : Nat → Int32} {x76 : Nat → Int32} {x77 : Nat → Int32} {x78 : Nat → Int32} {x79 : Nat → Int32} {x92 : Nat → Int32} {x93 : Nat → Int32} {x94 : Nat → Int32} {x95 : Nat → Int32} {x96 : Nat → Int32} {x97 : Nat → Int32} {r : Int32} {rx74 : (Nat → Int32)} {ry99 : (Nat → Int64)} {ry100 : (Nat → Int64)} (hret : ∀ pc loc, narrow .int (.int r) = .int r → decode cX12_choice pc = .ok (.ireturn, 1) → gV l b0 D K (n, κ, ov X0 [74, 75, 76, 77, 78, 79, 92, 93, 94, 95, 96, 97] [rx74, x75, x76, x77, x78, x79, x92, x93, x94, x95, x96, x97], ov Y0 [99, 100] [ry99, ry100], Z, 0, 0) pc loc [.int r]) {s0 : Int32} {x74 : (Nat → Int32)} {y99 : (Nat → Int64)} {y100 : (Nat → Int64)} (hf : fX12_choice_61 x75 x76 x77 x78 x79 x92 x93 x94 x95 x96 x97  s0 x74 y99 y100 = some (r, rx74, ry99, ry100)) : gV l b0 D K (n, κ, ov X0 [74, 75, 76, 77, 78, 79, 92, 93, 94, 95, 96, 97] [x74, x75, x76, x77, x78, x79, x92, x93, x94, x95, x96, x97], ov Y0 [99, 100] [y99, y100], Z, 0, 0) 61 [(0, .ref (b0 + 74))] [.int s0, .ref (b0 + 74)] := by
  unfold fX12_choice_61 at hf
  obtain ⟨h_1, hf⟩ := gdE hf
  refine pt_X12_382 hC (x := x74) h_1 (kk_74 hL) (kn_74 hL) (ov_get hN 0 rfl rfl) (ov_set hN (by rfl) 0 (by rfl)) dX12_choice_61 ?_
  show gV l b0 D K (n, κ, ov X0 [74, 75, 76, 77, 78, 79, 92, 93, 94, 95, 96, 97] [(upd x74 39 s0), x75, x76, x77, x78, x79, x92, x93, x94, x95, x96, x97], ov Y0 [99, 100] [y99, y100], Z, 0, 0) 64 [(0, .ref (b0 + 74))] []
  refine g_aload_n hC 0 dX12_choice_64 rfl rfl ?_
  refine gt_X12_382 hC (x := (upd x74 39 s0)) (kk_74 hL) (kn_74 hL) (ov_get hN 0 rfl rfl) dX12_choice_65 ?_
  refine g_if_eq hC 78 dX12_choice_68 (by decide) (fun hc => ?_) (fun hc => ?_)
  · replace hf := ifT hf hc
    refine g_iconst hC (v := (-1)) dX12_choice_78 ic_m1 ?_
    obtain ⟨rfl, rfl, rfl, rfl⟩ := sm4E hf
    exact hret _ _ rfl dX12_choice_79
  · replace hf := ifF hf hc
    refine g_aload_n hC 0 dX12_choice_71 rfl rfl ?_
    refine gt_X12_97 hC (x := (upd x74 39 s0)) (kk_74 hL) (kn_74 hL) (ov_get hN 0 rfl rfl) dX12_choice_72 ?_
    refine g_goto hC 79 dX12_choice_75 (by decide) ?_
    obtain ⟨rfl, rfl, rfl, rfl⟩ := sm4E hf
    exact hret _ _ rfl dX12_choice_79

def fX12_choice_60   (x75 : Nat → Int32) (x76 : Nat → Int32) (x77 : Nat → Int32) (x78 : Nat → Int32) (x79 : Nat → Int32) (x92 : Nat → Int32) (x93 : Nat → Int32) (x94 : Nat → Int32) (x95 : Nat → Int32) (x96 : Nat → Int32) (x97 : Nat → Int32)  (x74 : (Nat → Int32)) (y99 : (Nat → Int64)) (y100 : (Nat → Int64)) : Option (Int32 × (Nat → Int32) × (Nat → Int64) × (Nat → Int64)) := fX12_choice_61 x75 x76 x77 x78 x79 x92 x93 x94 x95 x96 x97  0 x74 y99 y100
set_option maxHeartbeats 4000000 in
set_option maxRecDepth 100000 in
theorem wX12_choice_60 {l : Launch} {b0 : Nat} {D : GD} {K : KT} {n : Nat} {κ : QT} {X0 : XT} {Y0 : YT} {Z : ZT} (hL : LY n κ) (hN : ([74, 75, 76, 77, 78, 79, 92, 93, 94, 95, 96, 97] : List Nat).Nodup) (hM : ([99, 100] : List Nat).Nodup) (hC : gC l b0 D K RX12 cX12_choice (some FieldType.int) 8 5 115 0 0) {x75 : Nat → Int32} {x76 : Nat → Int32} {x77 : Nat → Int32} {x78 : Nat → Int32} {x79 : Nat → Int32} {x92 : Nat → Int32} {x93 : Nat → Int32} {x94 : Nat → Int32} {x95 : Nat → Int32} {x96 : Nat → Int32} {x97 : Nat → Int32} {r : Int32} {rx74 : (Nat → Int32)} {ry99 : (Nat → Int64)} {ry100 : (Nat → Int64)} (hret : ∀ pc loc, narrow .int (.int r) = .int r → decode cX12_choice pc = .ok (.ireturn, 1) → gV l b0 D K (n, κ, ov X0 [74, 75, 76, 77, 78, 79, 92, 93, 94, 95, 96, 97] [rx74, x75, x76, x77, x78, x79, x92, x93, x94, x95, x96, x97], ov Y0 [99, 100] [ry99, ry100], Z, 0, 0) pc loc [.int r]) {x74 : (Nat → Int32)} {y99 : (Nat → Int64)} {y100 : (Nat → Int64)} (hf : fX12_choice_60 x75 x76 x77 x78 x79 x92 x93 x94 x95 x96 x97  x74 y99 y100 = some (r, rx74, ry99, ry100)) : gV l b0 D K (n, κ, ov X0 [74, 75, 76, 77, 78, 79, 92, 93, 94, 95, 96, 97] [x74, x75, x76, x77, x78, x79, x92, x93, x94, x95, x96, x97], ov Y0 [99, 100] [y99, y100], Z, 0, 0) 60 [(0, .ref (b0 + 74))] [.ref (b0 + 74)] := by
  unfold fX12_choice_60 at hf
  refine g_iconst hC (v := 0) dX12_choice_60 ic_0 ?_
  exact g_sub [0] rfl (wX12_choice_61 hL hN hM hC  hret  hf)

def fX12_choice_56   (x75 : Nat → Int32) (x76 : Nat → Int32) (x77 : Nat → Int32) (x78 : Nat → Int32) (x79 : Nat → Int32) (x92 : Nat → Int32) (x93 : Nat → Int32) (x94 : Nat → Int32) (x95 : Nat → Int32) (x96 : Nat → Int32) (x97 : Nat → Int32)  (x74 : (Nat → Int32)) (y99 : (Nat → Int64)) (y100 : (Nat → Int64)) : Option (Int32 × (Nat → Int32) × (Nat → Int64) × (Nat → Int64)) := fX12_choice_61 x75 x76 x77 x78 x79 x92 x93 x94 x95 x96 x97  1 x74 y99 y100
set_option maxHeartbeats 4000000 in
set_option maxRecDepth 100000 in
theorem wX12_choice_56 {l : Launch} {b0 : Nat} {D : GD} {K : KT} {n : Nat} {κ : QT} {X0 : XT} {Y0 : YT} {Z : ZT} (hL : LY n κ) (hN : ([74, 75, 76, 77, 78, 79, 92, 93, 94, 95, 96, 97] : List Nat).Nodup) (hM : ([99, 100] : List Nat).Nodup) (hC : gC l b0 D K RX12 cX12_choice (some FieldType.int) 8 5 115 0 0) {x75 : Nat → Int32} {x76 : Nat → Int32} {x77 : Nat → Int32} {x78 : Nat → Int32} {x79 : Nat → Int32} {x92 : Nat → Int32} {x93 : Nat → Int32} {x94 : Nat → Int32} {x95 : Nat → Int32} {x96 : Nat → Int32} {x97 : Nat → Int32} {r : Int32} {rx74 : (Nat → Int32)} {ry99 : (Nat → Int64)} {ry100 : (Nat → Int64)} (hret : ∀ pc loc, narrow .int (.int r) = .int r → decode cX12_choice pc = .ok (.ireturn, 1) → gV l b0 D K (n, κ, ov X0 [74, 75, 76, 77, 78, 79, 92, 93, 94, 95, 96, 97] [rx74, x75, x76, x77, x78, x79, x92, x93, x94, x95, x96, x97], ov Y0 [99, 100] [ry99, ry100], Z, 0, 0) pc loc [.int r]) {x74 : (Nat → Int32)} {y99 : (Nat → Int64)} {y100 : (Nat → Int64)} (hf : fX12_choice_56 x75 x76 x77 x78 x79 x92 x93 x94 x95 x96 x97  x74 y99 y100 = some (r, rx74, ry99, ry100)) : gV l b0 D K (n, κ, ov X0 [74, 75, 76, 77, 78, 79, 92, 93, 94, 95, 96, 97] [x74, x75, x76, x77, x78, x79, x92, x93, x94, x95, x96, x97], ov Y0 [99, 100] [y99, y100], Z, 0, 0) 56 [(0, .ref (b0 + 74))] [.ref (b0 + 74)] := by
  unfold fX12_choice_56 at hf
  refine g_iconst hC (v := 1) dX12_choice_56 ic_1 ?_
  refine g_goto hC 61 dX12_choice_57 (by decide) ?_
  exact g_sub [0] rfl (wX12_choice_61 hL hN hM hC  hret  hf)

def fX12_choice_0   (x75 : Nat → Int32) (x76 : Nat → Int32) (x77 : Nat → Int32) (x78 : Nat → Int32) (x79 : Nat → Int32) (x92 : Nat → Int32) (x93 : Nat → Int32) (x94 : Nat → Int32) (x95 : Nat → Int32) (x96 : Nat → Int32) (x97 : Nat → Int32)  (x74 : (Nat → Int32)) (y99 : (Nat → Int64)) (y100 : (Nat → Int64)) : Option (Int32 × (Nat → Int32) × (Nat → Int64) × (Nat → Int64)) := if (x74 38) = (-5) then (gd (inb 6 11) (if (x75 (6 : Int32).toNatClampNeg) = 0 then (some ((-1), x74, y99, y100)) else (gd (inb 10 11) (if (x75 (10 : Int32).toNatClampNeg) = (-1) then (some ((-1), x74, y99, y100)) else (fX12_choice_110 x75 x76 x77 x78 x79 x92 x93 x94 x95 x96 x97  (-1) 0 0 x74 y99 y100))))) else (if (x74 39) = 0 then (fX12_choice_60 x75 x76 x77 x78 x79 x92 x93 x94 x95 x96 x97  x74 y99 y100) else (if (x74 38) = (-1) then (fX12_choice_56 x75 x76 x77 x78 x79 x92 x93 x94 x95 x96 x97  x74 y99 y100) else (gd (inb 6 11) (if (x75 (6 : Int32).toNatClampNeg) ≤ 0 then (fX12_choice_60 x75 x76 x77 x78 x79 x92 x93 x94 x95 x96 x97  x74 y99 y100) else (bd1 (fX12_canHarden x78 ((x74 38) / 8) ((x74 38) - (x74 38) / 8 * 8)) fun r_4 => (if r_4 = 0 then (fX12_choice_60 x75 x76 x77 x78 x79 x92 x93 x94 x95 x96 x97  x74 y99 y100) else (fX12_choice_56 x75 x76 x77 x78 x79 x92 x93 x94 x95 x96 x97  x74 y99 y100)))))))
set_option maxHeartbeats 4000000 in
set_option maxRecDepth 100000 in
theorem wX12_choice_0 {l : Launch} {b0 : Nat} {D : GD} {K : KT} {n : Nat} {κ : QT} {X0 : XT} {Y0 : YT} {Z : ZT} (hL : LY n κ) (hN : ([74, 75, 76, 77, 78, 79, 92, 93, 94, 95, 96, 97] : List Nat).Nodup) (hM : ([99, 100] : List Nat).Nodup) (hC : gC l b0 D K RX12 cX12_choice (some FieldType.int) 8 5 115 0 0) {x75 : Nat → Int32} {x76 : Nat → Int32} {x77 : Nat → Int32} {x78 : Nat → Int32} {x79 : Nat → Int32} {x92 : Nat → Int32} {x93 : Nat → Int32} {x94 : Nat → Int32} {x95 : Nat → Int32} {x96 : Nat → Int32} {x97 : Nat → Int32} {r : Int32} {rx74 : (Nat → Int32)} {ry99 : (Nat → Int64)} {ry100 : (Nat → Int64)} (hret : ∀ pc loc, narrow .int (.int r) = .int r → decode cX12_choice pc = .ok (.ireturn, 1) → gV l b0 D K (n, κ, ov X0 [74, 75, 76, 77, 78, 79, 92, 93, 94, 95, 96, 97] [rx74, x75, x76, x77, x78, x79, x92, x93, x94, x95, x96, x97], ov Y0 [99, 100] [ry99, ry100], Z, 0, 0) pc loc [.int r]) {x74 : (Nat → Int32)} {y99 : (Nat → Int64)} {y100 : (Nat → Int64)} (hf : fX12_choice_0 x75 x76 x77 x78 x79 x92 x93 x94 x95 x96 x97  x74 y99 y100 = some (r, rx74, ry99, ry100)) : gV l b0 D K (n, κ, ov X0 [74, 75, 76, 77, 78, 79, 92, 93, 94, 95, 96, 97] [x74, x75, x76, x77, x78, x79, x92, x93, x94, x95, x96, x97], ov Y0 [99, 100] [y99, y100], Z, 0, 0) 0 [(0, .ref (b0 + 74))] [] := by
  unfold fX12_choice_0 at hf
  refine g_aload_n hC 0 dX12_choice_0 rfl rfl ?_
  refine gt_X12_97 hC (x := x74) (kk_74 hL) (kn_74 hL) (ov_get hN 0 rfl rfl) dX12_choice_1 ?_
  refine g_bipush hC (v := (-5)) dX12_choice_4 bp_m5 ?_
  refine g_icmp_eq hC 80 dX12_choice_6 (by decide) (fun hc => ?_) (fun hc => ?_)
  · replace hf := ifT hf hc
    refine g_iconst hC (v := (-1)) dX12_choice_80 ic_m1 ?_
    refine g_istore_n hC (i := 1) [(1, .int (-1)), (0, .ref (b0 + 74))] rfl dX12_choice_81 (by decide) rfl ?_
    refine g_lconst hC (v := 0) dX12_choice_82 rfl ?_
    refine g_lstore_n hC (i := 2) [(2, .long 0), (1, .int (-1)), (0, .ref (b0 + 74))] rfl dX12_choice_83 (by decide) rfl ?_
    refine g_aload_n hC 2 dX12_choice_84 rfl rfl ?_
    refine gt_X12_9 hC (a := 74) (kk_74 hL) (kn_74 hL) dX12_choice_85 ?_
    refine g_ref (b := 75) rfl ?_
    refine g_bipush hC (v := 6) dX12_choice_88 bp_6 ?_
    obtain ⟨h_1, hf⟩ := gdE hf
    refine g_iald hC (x := x75) (kk_75 hL) (kn_75 hL) (ov_get hN 1 rfl rfl) (inb_in h_1) dX12_choice_90 ?_
    refine g_if_eq hC 105 dX12_choice_91 (by decide) (fun hc => ?_) (fun hc => ?_)
    · replace hf := ifT hf hc
      refine g_iconst hC (v := (-1)) dX12_choice_105 ic_m1 ?_
      obtain ⟨rfl, rfl, rfl, rfl⟩ := sm4E hf
      exact hret _ _ rfl dX12_choice_106
    · replace hf := ifF hf hc
      refine g_aload_n hC 2 dX12_choice_94 rfl rfl ?_
      refine gt_X12_9 hC (a := 74) (kk_74 hL) (kn_74 hL) dX12_choice_95 ?_
      refine g_ref (b := 75) rfl ?_
      refine g_bipush hC (v := 10) dX12_choice_98 bp_10 ?_
      obtain ⟨h_2, hf⟩ := gdE hf
      refine g_iald hC (x := x75) (kk_75 hL) (kn_75 hL) (ov_get hN 1 rfl rfl) (inb_in h_2) dX12_choice_100 ?_
      refine g_iconst hC (v := (-1)) dX12_choice_101 ic_m1 ?_
      refine g_icmp_ne hC 107 dX12_choice_102 (by decide) (fun hc => ?_) (fun hc => ?_)
      · replace hf := ifF hf hc
        refine g_iconst hC (v := 0) dX12_choice_107 ic_0 ?_
        refine g_istore hC (i := 4) [(4, .int 0), (2, .long 0), (1, .int (-1)), (0, .ref (b0 + 74))] dX12_choice_108 (by decide) rfl ?_
        exact g_sub [3, 2, 1, 0] rfl (wX12_choice_110 hL hN hM hC  hret  5000 (-1) 0 0 x74 y99 y100 hf)
      · replace hf := ifT hf hc
        refine g_iconst hC (v := (-1)) dX12_choice_105 ic_m1 ?_
        obtain ⟨rfl, rfl, rfl, rfl⟩ := sm4E hf
        exact hret _ _ rfl dX12_choice_106
  · replace hf := ifF hf hc
    refine g_aload_n hC 0 dX12_choice_9 rfl rfl ?_
    refine g_aload_n hC 0 dX12_choice_10 rfl rfl ?_
    refine gt_X12_382 hC (x := x74) (kk_74 hL) (kn_74 hL) (ov_get hN 0 rfl rfl) dX12_choice_11 ?_
    refine g_if_eq hC 60 dX12_choice_14 (by decide) (fun hc => ?_) (fun hc => ?_)
    · replace hf := ifT hf hc
      exact g_sub [0] rfl (wX12_choice_60 hL hN hM hC  hret  hf)
    · replace hf := ifF hf hc
      refine g_aload_n hC 0 dX12_choice_17 rfl rfl ?_
      refine gt_X12_97 hC (x := x74) (kk_74 hL) (kn_74 hL) (ov_get hN 0 rfl rfl) dX12_choice_18 ?_
      refine g_iconst hC (v := (-1)) dX12_choice_21 ic_m1 ?_
      refine g_icmp_eq hC 56 dX12_choice_22 (by decide) (fun hc => ?_) (fun hc => ?_)
      · replace hf := ifT hf hc
        exact g_sub [0] rfl (wX12_choice_56 hL hN hM hC  hret  hf)
      · replace hf := ifF hf hc
        refine g_aload_n hC 0 dX12_choice_25 rfl rfl ?_
        refine gt_X12_9 hC (a := 74) (kk_74 hL) (kn_74 hL) dX12_choice_26 ?_
        refine g_ref (b := 75) rfl ?_
        refine g_bipush hC (v := 6) dX12_choice_29 bp_6 ?_
        obtain ⟨h_3, hf⟩ := gdE hf
        refine g_iald hC (x := x75) (kk_75 hL) (kn_75 hL) (ov_get hN 1 rfl rfl) (inb_in h_3) dX12_choice_31 ?_
        refine g_if_le hC 60 dX12_choice_32 (by decide) (fun hc => ?_) (fun hc => ?_)
        · replace hf := ifT hf hc
          exact g_sub [0] rfl (wX12_choice_60 hL hN hM hC  hret  hf)
        · replace hf := ifF hf hc
          refine g_aload_n hC 0 dX12_choice_35 rfl rfl ?_
          refine g_aload_n hC 0 dX12_choice_36 rfl rfl ?_
          refine gt_X12_97 hC (x := x74) (kk_74 hL) (kn_74 hL) (ov_get hN 0 rfl rfl) dX12_choice_37 ?_
          refine g_bipush hC (v := 8) dX12_choice_40 bp_8 ?_
          refine g_idiv hC dX12_choice_42 (by decide) ?_
          refine g_aload_n hC 0 dX12_choice_43 rfl rfl ?_
          refine gt_X12_97 hC (x := x74) (kk_74 hL) (kn_74 hL) (ov_get hN 0 rfl rfl) dX12_choice_44 ?_
          refine g_bipush hC (v := 8) dX12_choice_47 bp_8 ?_
          refine g_irem hC dX12_choice_49 (by decide) ?_
          obtain ⟨r_4, q_5, hf⟩ := bd1E hf
          refine g_callV_i (a := 74) hC (X' := ov X0 [74, 75, 76, 77, 78, 79, 92, 93, 94, 95, 96, 97] [x74, x75, x76, x77, x78, x79, x92, x93, x94, x95, x96, x97]) (Y' := ov Y0 [99, 100] [y99, y100]) (As := [.int ((x74 38) / 8), .int ((x74 38) - (x74 38) / 8 * 8)]) (gMi_eq (c_X12_canHarden l hL (ov_map hN [4] (by rfl) (by rfl)) (ov_map hM [] (by rfl) (by rfl)) q_5) (ov_ovE hN (by rfl) [4] [0, 1, 2, 3, 5, 6, 7, 8, 9, 10, 11] (by rfl) (by rfl) [x74, x75, x76, x77, x79, x92, x93, x94, x95, x96, x97] (by rfl) (by rfl) (by rfl) 12 (by rfl) (by decide)) (ov_ovE hM (by rfl) [] [0, 1] (by rfl) (by rfl) [y99, y100] (by rfl) (by rfl) (by rfl) 2 (by rfl) (by decide))) tw_1601 tw_1598 tw_127 tw_1600 tw_88 (ci := 12) rfl (by decide) (kk_74 hL) (kn_74 hL) pd_X12_canHarden (by decide) (by decide) rfl rfl (Nat.le_of_ble_eq_true rfl) rfl dX12_choice_50 ?_
          refine g_if_eq hC 60 dX12_choice_53 (by decide) (fun hc => ?_) (fun hc => ?_)
          · replace hf := ifT hf hc
            exact g_sub [0] rfl (wX12_choice_60 hL hN hM hC  hret  hf)
          · replace hf := ifF hf hc
            exact g_sub [0] rfl (wX12_choice_56 hL hN hM hC  hret  hf)

def fX12_choice   (x75 : Nat → Int32) (x76 : Nat → Int32) (x77 : Nat → Int32) (x78 : Nat → Int32) (x79 : Nat → Int32) (x92 : Nat → Int32) (x93 : Nat → Int32) (x94 : Nat → Int32) (x95 : Nat → Int32) (x96 : Nat → Int32) (x97 : Nat → Int32)   (x74 : Nat → Int32) (y99 : Nat → Int64) (y100 : Nat → Int64) : Option (Int32 × (Nat → Int32) × (Nat → Int64) × (Nat → Int64)) := fX12_choice_0 x75 x76 x77 x78 x79 x92 x93 x94 x95 x96 x97 x74 y99 y100

set_option maxHeartbeats 4000000 in
set_option maxRecDepth 100000 in
theorem c_X12_choice (l : Launch) {b0 : Nat} {D : GD} {n : Nat} {κ : QT} {X0 : XT} {Y0 : YT} {Z : ZT} (hL : LY n κ) {x74 : Nat → Int32} {x75 : Nat → Int32} {x76 : Nat → Int32} {x77 : Nat → Int32} {x78 : Nat → Int32} {x79 : Nat → Int32} {x92 : Nat → Int32} {x93 : Nat → Int32} {x94 : Nat → Int32} {x95 : Nat → Int32} {x96 : Nat → Int32} {x97 : Nat → Int32} {y99 : Nat → Int64} {y100 : Nat → Int64} (hx : ([74, 75, 76, 77, 78, 79, 92, 93, 94, 95, 96, 97] : List Nat).map X0 = [x74, x75, x76, x77, x78, x79, x92, x93, x94, x95, x96, x97]) (hy : ([99, 100] : List Nat).map Y0 = [y99, y100]) {r : Int32} {rx74 : (Nat → Int32)} {ry99 : (Nat → Int64)} {ry100 : (Nat → Int64)} (hf : fX12_choice x75 x76 x77 x78 x79 x92 x93 x94 x95 x96 x97 x74 y99 y100 = some (r, rx74, ry99, ry100)) : gMi l yX12_choice cX12_choice 8 (some FieldType.int) 5 115 0 0 b0 D [.ref (b0 + 74)] (n, κ, X0, Y0, Z) (n, κ, ov X0 [74, 75, 76, 77, 78, 79, 92, 93, 94, 95, 96, 97] [rx74, x75, x76, x77, x78, x79, x92, x93, x94, x95, x96, x97], ov Y0 [99, 100] [ry99, ry100], Z) r := by
  have hN : ([74, 75, 76, 77, 78, 79, 92, 93, 94, 95, 96, 97] : List Nat).Nodup := by decide
  have hM : ([99, 100] : List Nat).Nodup := by decide
  refine g_meti (own := RX12) (by decide) rfl rfl (Nat.le_of_ble_eq_true rfl) ?_
  intro K hC hret
  have e := wX12_choice_0 hL hN hM hC  hret hf
  rw [ov_id' hx, ov_id' hy] at e
  exact g_sub [0] rfl e

-- X12_laysSinks
def fX12_laysSinks_86   (x74 : Nat → Int32) (x75 : Nat → Int32) (x76 : Nat → Int32) (x77 : Nat → Int32) (x78 : Nat → Int32) (x79 : Nat → Int32)  (k7 : Int32 → Int32 → (Nat → Int32) → Option ((Nat → Int32))) (v1 : Int32) (v2 : Int32) (s0 : Int32) (s1 : Int32) (x101 : (Nat → Int32)) : Option ((Nat → Int32)) := gd (inb s1 6) (bn (v2 + 1) fun t_2 => (k7 v1 t_2 (upd x101 s1.toNatClampNeg s0)))
set_option maxHeartbeats 4000000 in
set_option maxRecDepth 100000 in
theorem wX12_laysSinks_86 {l : Launch} {b0 : Nat} {D : GD} {K : KT} {n : Nat} {κ : QT} {X0 : XT} {Y0 : YT} {Z : ZT} (hL : LY n κ) (hN : ([74, 75, 76, 77, 78, 79, 101] : List Nat).Nodup) (hM : ([] : List Nat).Nodup) (hC : gC l b0 D K RX12 cX12_laysSinks none 6 2 48 0 0) {x74 : Nat → Int32} {x75 : Nat → Int32} {x76 : Nat → Int32} {x77 : Nat → Int32} {x78 : Nat → Int32} {x79 : Nat → Int32} {rx101 : (Nat → Int32)} (hret : ∀ pc loc, decode cX12_laysSinks pc = .ok (.return_, 1) → gV l b0 D K (n, κ, ov X0 [74, 75, 76, 77, 78, 79, 101] [x74, x75, x76, x77, x78, x79, rx101], ov Y0 [] [], Z, 0, 0) pc loc []) {k7 : Int32 → Int32 → (Nat → Int32) → Option ((Nat → Int32))} (hk7 : ∀ (v1 : Int32) (v2 : Int32) (x101 : (Nat → Int32)), k7 v1 v2 x101 = some rx101 → gV l b0 D K (n, κ, ov X0 [74, 75, 76, 77, 78, 79, 101] [x74, x75, x76, x77, x78, x79, x101], ov Y0 [] [], Z, 0, 0) 7 [(0, .ref (b0 + 74)), (1, .int v1), (2, .int v2)] []) {v1 : Int32} {v2 : Int32} {s0 : Int32} {s1 : Int32} {x101 : (Nat → Int32)} (hf : fX12_laysSinks_86 x74 x75 x76 x77 x78 x79 k7 v1 v2 s0 s1 x101 = some rx101) : gV l b0 D K (n, κ, ov X0 [74, 75, 76, 77, 78, 79, 101] [x74, x75, x76, x77, x78, x79, x101], ov Y0 [] [], Z, 0, 0) 86 [(0, .ref (b0 + 74)), (1, .int v1), (2, .int v2)] [.int s0, .int s1, .ref (b0 + 101)] := by
  unfold fX12_laysSinks_86 at hf
  obtain ⟨h_1, hf⟩ := gdE hf
  refine g_iast hC (x := x101) (kk_101 hL) (kn_101 hL) (ov_get hN 6 rfl rfl) (inb_in h_1) (ov_set hN (by rfl) 6 (by rfl)) dX12_laysSinks_86 ?_
  show gV l b0 D K (n, κ, ov X0 [74, 75, 76, 77, 78, 79, 101] [x74, x75, x76, x77, x78, x79, (upd x101 s1.toNatClampNeg s0)], ov Y0 [] [], Z, 0, 0) 87 [(0, .ref (b0 + 74)), (1, .int v1), (2, .int v2)] []
  obtain ⟨t_2, et_2, hf⟩ := bnE hf
  refine g_iinc hC (i := 2) (v := t_2) [(2, .int t_2), (0, .ref (b0 + 74)), (1, .int v1)] dX12_laysSinks_87 (q := 2) rfl ((congrArg (HAdd.hAdd v2) ic_1).trans et_2.symm) (by decide) rfl ?_
  refine g_goto hC 7 dX12_laysSinks_90 (by decide) ?_
  exact g_sub [1, 2, 0] rfl (hk7 v1 t_2 (upd x101 s1.toNatClampNeg s0) hf)

def fX12_laysSinks_68   (x74 : Nat → Int32) (x75 : Nat → Int32) (x76 : Nat → Int32) (x77 : Nat → Int32) (x78 : Nat → Int32) (x79 : Nat → Int32)  (k7 : Int32 → Int32 → (Nat → Int32) → Option ((Nat → Int32))) (v1 : Int32) (v2 : Int32) (s0 : Int32) (x101 : (Nat → Int32)) : Option ((Nat → Int32)) := fX12_laysSinks_86 x74 x75 x76 x77 x78 x79 k7 v1 v2 0 s0 x101
set_option maxHeartbeats 4000000 in
set_option maxRecDepth 100000 in
theorem wX12_laysSinks_68 {l : Launch} {b0 : Nat} {D : GD} {K : KT} {n : Nat} {κ : QT} {X0 : XT} {Y0 : YT} {Z : ZT} (hL : LY n κ) (hN : ([74, 75, 76, 77, 78, 79, 101] : List Nat).Nodup) (hM : ([] : List Nat).Nodup) (hC : gC l b0 D K RX12 cX12_laysSinks none 6 2 48 0 0) {x74 : Nat → Int32} {x75 : Nat → Int32} {x76 : Nat → Int32} {x77 : Nat → Int32} {x78 : Nat → Int32} {x79 : Nat → Int32} {rx101 : (Nat → Int32)} (hret : ∀ pc loc, decode cX12_laysSinks pc = .ok (.return_, 1) → gV l b0 D K (n, κ, ov X0 [74, 75, 76, 77, 78, 79, 101] [x74, x75, x76, x77, x78, x79, rx101], ov Y0 [] [], Z, 0, 0) pc loc []) {k7 : Int32 → Int32 → (Nat → Int32) → Option ((Nat → Int32))} (hk7 : ∀ (v1 : Int32) (v2 : Int32) (x101 : (Nat → Int32)), k7 v1 v2 x101 = some rx101 → gV l b0 D K (n, κ, ov X0 [74, 75, 76, 77, 78, 79, 101] [x74, x75, x76, x77, x78, x79, x101], ov Y0 [] [], Z, 0, 0) 7 [(0, .ref (b0 + 74)), (1, .int v1), (2, .int v2)] []) {v1 : Int32} {v2 : Int32} {s0 : Int32} {x101 : (Nat → Int32)} (hf : fX12_laysSinks_68 x74 x75 x76 x77 x78 x79 k7 v1 v2 s0 x101 = some rx101) : gV l b0 D K (n, κ, ov X0 [74, 75, 76, 77, 78, 79, 101] [x74, x75, x76, x77, x78, x79, x101], ov Y0 [] [], Z, 0, 0) 68 [(0, .ref (b0 + 74)), (1, .int v1), (2, .int v2)] [.int s0, .ref (b0 + 101)] := by
  unfold fX12_laysSinks_68 at hf
  refine g_iconst hC (v := 0) dX12_laysSinks_68 ic_0 ?_
  refine g_goto hC 86 dX12_laysSinks_69 (by decide) ?_
  exact g_sub [0, 1, 2] rfl (wX12_laysSinks_86 hL hN hM hC  hret hk7 hf)

def fX12_laysSinks_7b   (x74 : Nat → Int32) (x75 : Nat → Int32) (x76 : Nat → Int32) (x77 : Nat → Int32) (x78 : Nat → Int32) (x79 : Nat → Int32)  (k7 : Int32 → Int32 → (Nat → Int32) → Option ((Nat → Int32))) (v1 : Int32) (v2 : Int32) (x101 : (Nat → Int32)) : Option ((Nat → Int32)) := gd (inb 4 11) (if (x75 (4 : Int32).toNatClampNeg) ≤ v2 then (some x101) else (bd1 (fX12_blockOf x75 x78 v2 v1) fun r_2 => (bd1 (fX12_bits r_2) fun r_4 => (bn ((v1 - r_4) + 1) fun t_6 => (gd (inb 0 11) (gd (inb v2 6) (bn ((x75 (0 : Int32).toNatClampNeg) - (x76 v2.toNatClampNeg)) fun t_9 => (bd1 (fX12_isFast x75 x77 r_2 v1) fun r_10 => (if r_10 = 0 then (if 0 ≤ t_6 then (if t_6 ≤ t_9 then (fX12_laysSinks_86 x74 x75 x76 x77 x78 x79 k7 v1 v2 t_6 v2 x101) else (fX12_laysSinks_86 x74 x75 x76 x77 x78 x79 k7 v1 v2 t_9 v2 x101)) else (fX12_laysSinks_68 x74 x75 x76 x77 x78 x79 k7 v1 v2 v2 x101)) else (fX12_laysSinks_68 x74 x75 x76 x77 x78 x79 k7 v1 v2 v2 x101))))))))))
def fX12_laysSinks_7   (x74 : Nat → Int32) (x75 : Nat → Int32) (x76 : Nat → Int32) (x77 : Nat → Int32) (x78 : Nat → Int32) (x79 : Nat → Int32)  : Int32 → Int32 → (Nat → Int32) → Option ((Nat → Int32)) := lq3 (fX12_laysSinks_7b x74 x75 x76 x77 x78 x79 ) 5000
set_option maxHeartbeats 4000000 in
set_option maxRecDepth 100000 in
theorem wX12_laysSinks_7 {l : Launch} {b0 : Nat} {D : GD} {K : KT} {n : Nat} {κ : QT} {X0 : XT} {Y0 : YT} {Z : ZT} (hL : LY n κ) (hN : ([74, 75, 76, 77, 78, 79, 101] : List Nat).Nodup) (hM : ([] : List Nat).Nodup) (hC : gC l b0 D K RX12 cX12_laysSinks none 6 2 48 0 0) {x74 : Nat → Int32} {x75 : Nat → Int32} {x76 : Nat → Int32} {x77 : Nat → Int32} {x78 : Nat → Int32} {x79 : Nat → Int32} {rx101 : (Nat → Int32)} (hret : ∀ pc loc, decode cX12_laysSinks pc = .ok (.return_, 1) → gV l b0 D K (n, κ, ov X0 [74, 75, 76, 77, 78, 79, 101] [x74, x75, x76, x77, x78, x79, rx101], ov Y0 [] [], Z, 0, 0) pc loc []) : ∀ (j : Nat) (v1 : Int32) (v2 : Int32) (x101 : (Nat → Int32)), lq3 (fX12_laysSinks_7b x74 x75 x76 x77 x78 x79 ) j v1 v2 x101 = some rx101 → gV l b0 D K (n, κ, ov X0 [74, 75, 76, 77, 78, 79, 101] [x74, x75, x76, x77, x78, x79, x101], ov Y0 [] [], Z, 0, 0) 7 [(0, .ref (b0 + 74)), (1, .int v1), (2, .int v2)] [] := by
  intro j
  induction j with
  | zero => intro v1 v2 x101 hf; cases hf
  | succ j hk7 =>
    intro v1 v2 x101 hf
    replace hf : fX12_laysSinks_7b x74 x75 x76 x77 x78 x79  (lq3 (fX12_laysSinks_7b x74 x75 x76 x77 x78 x79 ) j) v1 v2 x101 = some rx101 := hf
    unfold fX12_laysSinks_7b at hf
    refine g_iload_n hC 2 dX12_laysSinks_7 rfl rfl ?_
    refine g_aload_n hC 0 dX12_laysSinks_8 rfl rfl ?_
    refine gt_X12_9 hC (a := 74) (kk_74 hL) (kn_74 hL) dX12_laysSinks_9 ?_
    refine g_ref (b := 75) rfl ?_
    refine g_iconst hC (v := 4) dX12_laysSinks_12 ic_4 ?_
    obtain ⟨h_1, hf⟩ := gdE hf
    refine g_iald hC (x := x75) (kk_75 hL) (kn_75 hL) (ov_get hN 1 rfl rfl) (inb_in h_1) dX12_laysSinks_13 ?_
    refine g_icmp_ge hC 93 dX12_laysSinks_14 (by decide) (fun hc => ?_) (fun hc => ?_)
    · replace hf := ifT hf hc
      obtain rfl := sm1E hf
      exact hret _ _ dX12_laysSinks_93
    · replace hf := ifF hf hc
      refine g_aload_n hC 0 dX12_laysSinks_17 rfl rfl ?_
      refine g_iload_n hC 2 dX12_laysSinks_18 rfl rfl ?_
      refine g_iload_n hC 1 dX12_laysSinks_19 rfl rfl ?_
      obtain ⟨r_2, q_3, hf⟩ := bd1E hf
      refine g_callV_i (a := 74) hC (X' := ov X0 [74, 75, 76, 77, 78, 79, 101] [x74, x75, x76, x77, x78, x79, x101]) (Y' := ov Y0 [] []) (As := [.int v2, .int v1]) (gMi_eq (c_X12_blockOf l hL (ov_map hN [1, 4] (by rfl) (by rfl)) (ov_map hM [] (by rfl) (by rfl)) q_3) (ov_ovE hN (by rfl) [1, 4] [0, 2, 3, 5, 6] (by rfl) (by rfl) [x74, x76, x77, x79, x101] (by rfl) (by rfl) (by rfl) 7 (by rfl) (by decide)) (ov_ovE hM (by rfl) [] [] (by rfl) (by rfl) [] (by rfl) (by rfl) (by rfl) 0 (by rfl) (by decide))) tw_1546 tw_1543 tw_127 tw_1545 tw_78 (ci := 12) rfl (by decide) (kk_74 hL) (kn_74 hL) pd_X12_blockOf (by decide) (by decide) rfl rfl (Nat.le_of_ble_eq_true rfl) rfl dX12_laysSinks_20 ?_
      refine g_istore_n hC (i := 3) [(3, .int r_2), (0, .ref (b0 + 74)), (1, .int v1), (2, .int v2)] rfl dX12_laysSinks_23 (by decide) rfl ?_
      refine g_iload_n hC 2 dX12_laysSinks_24 rfl rfl ?_
      refine g_iload_n hC 0 dX12_laysSinks_25 rfl rfl ?_
      obtain ⟨r_4, q_5, hf⟩ := bd1E hf
      refine g_callS_i hC (X' := ov X0 [74, 75, 76, 77, 78, 79, 101] [x74, x75, x76, x77, x78, x79, x101]) (Y' := ov Y0 [] []) (As := [.int r_2]) (gMi_eq (c_X12_bits l hL (ov_map hN [] (by rfl) (by rfl)) (ov_map hM [] (by rfl) (by rfl)) q_5) (ov_ovE hN (by rfl) [] [0, 1, 2, 3, 4, 5, 6] (by rfl) (by rfl) [x74, x75, x76, x77, x78, x79, x101] (by rfl) (by rfl) (by rfl) 7 (by rfl) (by decide)) (ov_ovE hM (by rfl) [] [] (by rfl) (by rfl) [] (by rfl) (by rfl) (by rfl) 0 (by rfl) (by decide))) tw_1634 tw_1632 tw_127 tw_1633 pd_X12_bits (by decide) (by decide) rfl rfl (Nat.le_of_ble_eq_true rfl) rfl dX12_laysSinks_26 ?_
      refine g_isub hC dX12_laysSinks_29 ?_
      refine g_iconst hC (v := 1) dX12_laysSinks_30 ic_1 ?_
      refine g_iadd hC dX12_laysSinks_31 ?_
      obtain ⟨t_6, et_6, hf⟩ := bnE hf
      refine g_topi et_6 ?_
      refine g_istore hC (i := 4) [(4, .int t_6), (3, .int r_2), (0, .ref (b0 + 74)), (1, .int v1), (2, .int v2)] dX12_laysSinks_32 (by decide) rfl ?_
      refine g_aload_n hC 2 dX12_laysSinks_34 rfl rfl ?_
      refine gt_X12_9 hC (a := 74) (kk_74 hL) (kn_74 hL) dX12_laysSinks_35 ?_
      refine g_ref (b := 75) rfl ?_
      refine g_iconst hC (v := 0) dX12_laysSinks_38 ic_0 ?_
      obtain ⟨h_7, hf⟩ := gdE hf
      refine g_iald hC (x := x75) (kk_75 hL) (kn_75 hL) (ov_get hN 1 rfl rfl) (inb_in h_7) dX12_laysSinks_39 ?_
      refine g_aload_n hC 2 dX12_laysSinks_40 rfl rfl ?_
      refine gt_X12_13 hC (a := 74) (kk_74 hL) (kn_74 hL) dX12_laysSinks_41 ?_
      refine g_ref (b := 76) rfl ?_
      refine g_iload_n hC 4 dX12_laysSinks_44 rfl rfl ?_
      obtain ⟨h_8, hf⟩ := gdE hf
      refine g_iald hC (x := x76) (kk_76 hL) (kn_76 hL) (ov_get hN 2 rfl rfl) (inb_in h_8) dX12_laysSinks_45 ?_
      refine g_isub hC dX12_laysSinks_46 ?_
      obtain ⟨t_9, et_9, hf⟩ := bnE hf
      refine g_topi et_9 ?_
      refine g_istore hC (i := 5) [(5, .int t_9), (4, .int t_6), (3, .int r_2), (0, .ref (b0 + 74)), (1, .int v1), (2, .int v2)] dX12_laysSinks_47 (by decide) rfl ?_
      refine g_aload_n hC 3 dX12_laysSinks_49 rfl rfl ?_
      refine gt_X12_100 hC (a := 74) (kk_74 hL) (kn_74 hL) dX12_laysSinks_50 ?_
      refine g_ref (b := 101) rfl ?_
      refine g_iload_n hC 5 dX12_laysSinks_53 rfl rfl ?_
      refine g_aload_n hC 3 dX12_laysSinks_54 rfl rfl ?_
      refine g_iload_n hC 2 dX12_laysSinks_55 rfl rfl ?_
      refine g_iload_n hC 4 dX12_laysSinks_56 rfl rfl ?_
      obtain ⟨r_10, q_11, hf⟩ := bd1E hf
      refine g_callV_i (a := 74) hC (X' := ov X0 [74, 75, 76, 77, 78, 79, 101] [x74, x75, x76, x77, x78, x79, x101]) (Y' := ov Y0 [] []) (As := [.int r_2, .int v1]) (gMi_eq (c_X12_isFast l hL (ov_map hN [1, 3] (by rfl) (by rfl)) (ov_map hM [] (by rfl) (by rfl)) q_11) (ov_ovE hN (by rfl) [1, 3] [0, 2, 4, 5, 6] (by rfl) (by rfl) [x74, x76, x78, x79, x101] (by rfl) (by rfl) (by rfl) 7 (by rfl) (by decide)) (ov_ovE hM (by rfl) [] [] (by rfl) (by rfl) [] (by rfl) (by rfl) (by rfl) 0 (by rfl) (by decide))) tw_1553 tw_1550 tw_127 tw_1552 tw_79 (ci := 12) rfl (by decide) (kk_74 hL) (kn_74 hL) pd_X12_isFast (by decide) (by decide) rfl rfl (Nat.le_of_ble_eq_true rfl) rfl dX12_laysSinks_57 ?_
      refine g_if_ne hC 68 dX12_laysSinks_60 (by decide) (fun hc => ?_) (fun hc => ?_)
      · replace hf := ifF hf hc
        exact g_sub [3, 4, 5] rfl (wX12_laysSinks_68 hL hN hM hC  hret hk7 hf)
      · replace hf := ifT hf hc
        refine g_iload hC 1 dX12_laysSinks_63 rfl ?_
        refine g_if_ge hC 72 dX12_laysSinks_65 (by decide) (fun hc => ?_) (fun hc => ?_)
        · replace hf := ifT hf hc
          refine g_iload hC 1 dX12_laysSinks_72 rfl ?_
          refine g_iload hC 0 dX12_laysSinks_74 rfl ?_
          refine g_icmp_le hC 84 dX12_laysSinks_76 (by decide) (fun hc => ?_) (fun hc => ?_)
          · replace hf := ifT hf hc
            refine g_iload hC 1 dX12_laysSinks_84 rfl ?_
            exact g_sub [3, 4, 5] rfl (wX12_laysSinks_86 hL hN hM hC  hret hk7 hf)
          · replace hf := ifF hf hc
            refine g_iload hC 0 dX12_laysSinks_79 rfl ?_
            refine g_goto hC 86 dX12_laysSinks_81 (by decide) ?_
            exact g_sub [3, 4, 5] rfl (wX12_laysSinks_86 hL hN hM hC  hret hk7 hf)
        · replace hf := ifF hf hc
          exact g_sub [3, 4, 5] rfl (wX12_laysSinks_68 hL hN hM hC  hret hk7 hf)

def fX12_laysSinks_0   (x74 : Nat → Int32) (x75 : Nat → Int32) (x76 : Nat → Int32) (x77 : Nat → Int32) (x78 : Nat → Int32) (x79 : Nat → Int32)  (x101 : (Nat → Int32)) : Option ((Nat → Int32)) := bd1 (fX12_heat x74 x75 x79) fun r_1 => (fX12_laysSinks_7 x74 x75 x76 x77 x78 x79  r_1 0 x101)
set_option maxHeartbeats 4000000 in
set_option maxRecDepth 100000 in
theorem wX12_laysSinks_0 {l : Launch} {b0 : Nat} {D : GD} {K : KT} {n : Nat} {κ : QT} {X0 : XT} {Y0 : YT} {Z : ZT} (hL : LY n κ) (hN : ([74, 75, 76, 77, 78, 79, 101] : List Nat).Nodup) (hM : ([] : List Nat).Nodup) (hC : gC l b0 D K RX12 cX12_laysSinks none 6 2 48 0 0) {x74 : Nat → Int32} {x75 : Nat → Int32} {x76 : Nat → Int32} {x77 : Nat → Int32} {x78 : Nat → Int32} {x79 : Nat → Int32} {rx101 : (Nat → Int32)} (hret : ∀ pc loc, decode cX12_laysSinks pc = .ok (.return_, 1) → gV l b0 D K (n, κ, ov X0 [74, 75, 76, 77, 78, 79, 101] [x74, x75, x76, x77, x78, x79, rx101], ov Y0 [] [], Z, 0, 0) pc loc []) {x101 : (Nat → Int32)} (hf : fX12_laysSinks_0 x74 x75 x76 x77 x78 x79  x101 = some rx101) : gV l b0 D K (n, κ, ov X0 [74, 75, 76, 77, 78, 79, 101] [x74, x75, x76, x77, x78, x79, x101], ov Y0 [] [], Z, 0, 0) 0 [(0, .ref (b0 + 74))] [] := by
  unfold fX12_laysSinks_0 at hf
  refine g_aload_n hC 0 dX12_laysSinks_0 rfl rfl ?_
  obtain ⟨r_1, q_2, hf⟩ := bd1E hf
  refine g_callV_i (a := 74) hC (X' := ov X0 [74, 75, 76, 77, 78, 79, 101] [x74, x75, x76, x77, x78, x79, x101]) (Y' := ov Y0 [] []) (As := []) (gMi_eq (c_X12_heat l hL (ov_map hN [0, 1, 5] (by rfl) (by rfl)) (ov_map hM [] (by rfl) (by rfl)) q_2) (ov_ovE hN (by rfl) [0, 1, 5] [2, 3, 4, 6] (by rfl) (by rfl) [x76, x77, x78, x101] (by rfl) (by rfl) (by rfl) 7 (by rfl) (by decide)) (ov_ovE hM (by rfl) [] [] (by rfl) (by rfl) [] (by rfl) (by rfl) (by rfl) 0 (by rfl) (by decide))) tw_1538 tw_1535 tw_127 tw_1537 tw_76 (ci := 12) rfl (by decide) (kk_74 hL) (kn_74 hL) pd_X12_heat (by decide) (by decide) rfl rfl (Nat.le_of_ble_eq_true rfl) rfl dX12_laysSinks_1 ?_
  refine g_istore_n hC (i := 1) [(1, .int r_1), (0, .ref (b0 + 74))] rfl dX12_laysSinks_4 (by decide) rfl ?_
  refine g_iconst hC (v := 0) dX12_laysSinks_5 ic_0 ?_
  refine g_istore_n hC (i := 2) [(2, .int 0), (1, .int r_1), (0, .ref (b0 + 74))] rfl dX12_laysSinks_6 (by decide) rfl ?_
  exact g_sub [2, 1, 0] rfl (wX12_laysSinks_7 hL hN hM hC  hret  5000 r_1 0 x101 hf)

def fX12_laysSinks   (x74 : Nat → Int32) (x75 : Nat → Int32) (x76 : Nat → Int32) (x77 : Nat → Int32) (x78 : Nat → Int32) (x79 : Nat → Int32)   (x101 : Nat → Int32)  : Option ((Nat → Int32)) := fX12_laysSinks_0 x74 x75 x76 x77 x78 x79 x101

set_option maxHeartbeats 4000000 in
set_option maxRecDepth 100000 in
theorem c_X12_laysSinks (l : Launch) {b0 : Nat} {D : GD} {n : Nat} {κ : QT} {X0 : XT} {Y0 : YT} {Z : ZT} (hL : LY n κ) {x74 : Nat → Int32} {x75 : Nat → Int32} {x76 : Nat → Int32} {x77 : Nat → Int32} {x78 : Nat → Int32} {x79 : Nat → Int32} {x101 : Nat → Int32} (hx : ([74, 75, 76, 77, 78, 79, 101] : List Nat).map X0 = [x74, x75, x76, x77, x78, x79, x101]) (hy : ([] : List Nat).map Y0 = []) {rx101 : (Nat → Int32)} (hf : fX12_laysSinks x74 x75 x76 x77 x78 x79 x101 = some rx101) : gMv l yX12_laysSinks cX12_laysSinks 6 none 2 48 0 0 b0 D [.ref (b0 + 74)] (n, κ, X0, Y0, Z) (n, κ, ov X0 [74, 75, 76, 77, 78, 79, 101] [x74, x75, x76, x77, x78, x79, rx101], ov Y0 [] [], Z) := by
  have hN : ([74, 75, 76, 77, 78, 79, 101] : List Nat).Nodup := by decide
  have hM : ([] : List Nat).Nodup := by decide
  refine g_metv (own := RX12) (by decide) rfl rfl (Nat.le_of_ble_eq_true rfl) ?_
  intro K hC hret
  have e := wX12_laysSinks_0 hL hN hM hC  hret hf
  rw [ov_id' hx, ov_id' hy] at e
  exact g_sub [0] rfl e

-- X12_floods
def fX12_floods_9b     (k9 : Int32 → Int32 → (Nat → Int32) → (Nat → Int32) → Option ((Nat → Int32) × (Nat → Int32))) (v1 : Int32) (v2 : Int32) (x77 : (Nat → Int32)) (x78 : (Nat → Int32)) : Option ((Nat → Int32) × (Nat → Int32)) := if 6 ≤ v2 then (some (x77, x78)) else (bd1 (fX12_joins v1 v2 0 x78) fun x78_1 => (bn (v2 + 1) fun t_3 => (k9 v1 t_3 x77 x78_1)))
def fX12_floods_9     : Int32 → Int32 → (Nat → Int32) → (Nat → Int32) → Option ((Nat → Int32) × (Nat → Int32)) := lq4 (fX12_floods_9b  ) 5000
set_option maxHeartbeats 4000000 in
set_option maxRecDepth 100000 in
theorem wX12_floods_9 {l : Launch} {b0 : Nat} {D : GD} {K : KT} {n : Nat} {κ : QT} {X0 : XT} {Y0 : YT} {Z : ZT} (hL : LY n κ) (hN : ([77, 78] : List Nat).Nodup) (hM : ([] : List Nat).Nodup) (hC : gC l b0 D K RX12 cX12_floods none 3 1 23 0 0) {rx77 : (Nat → Int32)} {rx78 : (Nat → Int32)} (hret : ∀ pc loc, decode cX12_floods pc = .ok (.return_, 1) → gV l b0 D K (n, κ, ov X0 [77, 78] [rx77, rx78], ov Y0 [] [], Z, 0, 0) pc loc []) : ∀ (j : Nat) (v1 : Int32) (v2 : Int32) (x77 : (Nat → Int32)) (x78 : (Nat → Int32)), lq4 (fX12_floods_9b  ) j v1 v2 x77 x78 = some (rx77, rx78) → gV l b0 D K (n, κ, ov X0 [77, 78] [x77, x78], ov Y0 [] [], Z, 0, 0) 9 [(0, .ref (b0 + 74)), (1, .int v1), (2, .int v2)] [] := by
  intro j
  induction j with
  | zero => intro v1 v2 x77 x78 hf; cases hf
  | succ j hk9 =>
    intro v1 v2 x77 x78 hf
    replace hf : fX12_floods_9b   (lq4 (fX12_floods_9b  ) j) v1 v2 x77 x78 = some (rx77, rx78) := hf
    unfold fX12_floods_9b at hf
    refine g_iload_n hC 2 dX12_floods_9 rfl rfl ?_
    refine g_bipush hC (v := 6) dX12_floods_10 bp_6 ?_
    refine g_icmp_ge hC 28 dX12_floods_12 (by decide) (fun hc => ?_) (fun hc => ?_)
    · replace hf := ifT hf hc
      obtain ⟨rfl, rfl⟩ := sm2E hf
      exact hret _ _ dX12_floods_28
    · replace hf := ifF hf hc
      refine g_aload_n hC 0 dX12_floods_15 rfl rfl ?_
      refine g_iload_n hC 1 dX12_floods_16 rfl rfl ?_
      refine g_iload_n hC 2 dX12_floods_17 rfl rfl ?_
      refine g_iconst hC (v := 0) dX12_floods_18 ic_0 ?_
      obtain ⟨x78_1, q_2, hf⟩ := bd1E hf
      refine g_callV_v (a := 74) hC (X' := ov X0 [77, 78] [x77, x78_1]) (Y' := ov Y0 [] []) (As := [.int v1, .int v2, .int 0]) (gMv_eq (c_X12_joins l hL (ov_map hN [1] (by rfl) (by rfl)) (ov_map hM [] (by rfl) (by rfl)) q_2) (ov_ovE hN (by rfl) [1] [0] (by rfl) (by rfl) [x77] (by rfl) (by rfl) (by rfl) 2 (by rfl) (by decide)) (ov_ovE hM (by rfl) [] [] (by rfl) (by rfl) [] (by rfl) (by rfl) (by rfl) 0 (by rfl) (by decide))) tw_1627 tw_1624 tw_127 tw_1626 tw_92 (ci := 12) rfl (by decide) (kk_74 hL) (kn_74 hL) pd_X12_joins (by decide) (by decide) rfl rfl (Nat.le_of_ble_eq_true rfl) rfl dX12_floods_19 ?_
      obtain ⟨t_3, et_3, hf⟩ := bnE hf
      refine g_iinc hC (i := 2) (v := t_3) [(2, .int t_3), (0, .ref (b0 + 74)), (1, .int v1)] dX12_floods_22 (q := 2) rfl ((congrArg (HAdd.hAdd v2) ic_1).trans et_3.symm) (by decide) rfl ?_
      refine g_goto hC 9 dX12_floods_25 (by decide) ?_
      exact g_sub [1, 2, 0] rfl (hk9 v1 t_3 x77 x78_1 hf)

def fX12_floods_0     (v1 : Int32) (x77 : (Nat → Int32)) (x78 : (Nat → Int32)) : Option ((Nat → Int32) × (Nat → Int32)) := gd (inb v1 6) (fX12_floods_9   v1 0 (upd x77 v1.toNatClampNeg 0) x78)
set_option maxHeartbeats 4000000 in
set_option maxRecDepth 100000 in
theorem wX12_floods_0 {l : Launch} {b0 : Nat} {D : GD} {K : KT} {n : Nat} {κ : QT} {X0 : XT} {Y0 : YT} {Z : ZT} (hL : LY n κ) (hN : ([77, 78] : List Nat).Nodup) (hM : ([] : List Nat).Nodup) (hC : gC l b0 D K RX12 cX12_floods none 3 1 23 0 0) {rx77 : (Nat → Int32)} {rx78 : (Nat → Int32)} (hret : ∀ pc loc, decode cX12_floods pc = .ok (.return_, 1) → gV l b0 D K (n, κ, ov X0 [77, 78] [rx77, rx78], ov Y0 [] [], Z, 0, 0) pc loc []) {v1 : Int32} {x77 : (Nat → Int32)} {x78 : (Nat → Int32)} (hf : fX12_floods_0   v1 x77 x78 = some (rx77, rx78)) : gV l b0 D K (n, κ, ov X0 [77, 78] [x77, x78], ov Y0 [] [], Z, 0, 0) 0 [(0, .ref (b0 + 74)), (1, .int v1)] [] := by
  unfold fX12_floods_0 at hf
  refine g_aload_n hC 0 dX12_floods_0 rfl rfl ?_
  refine gt_X12_16 hC (a := 74) (kk_74 hL) (kn_74 hL) dX12_floods_1 ?_
  refine g_ref (b := 77) rfl ?_
  refine g_iload_n hC 1 dX12_floods_4 rfl rfl ?_
  refine g_iconst hC (v := 0) dX12_floods_5 ic_0 ?_
  obtain ⟨h_1, hf⟩ := gdE hf
  refine g_iast hC (x := x77) (kk_77 hL) (kn_77 hL) (ov_get hN 0 rfl rfl) (inb_in h_1) (ov_set hN (by rfl) 0 (by rfl)) dX12_floods_6 ?_
  show gV l b0 D K (n, κ, ov X0 [77, 78] [(upd x77 v1.toNatClampNeg 0), x78], ov Y0 [] [], Z, 0, 0) 7 [(0, .ref (b0 + 74)), (1, .int v1)] []
  refine g_iconst hC (v := 0) dX12_floods_7 ic_0 ?_
  refine g_istore_n hC (i := 2) [(2, .int 0), (0, .ref (b0 + 74)), (1, .int v1)] rfl dX12_floods_8 (by decide) rfl ?_
  exact g_sub [1, 2, 0] rfl (wX12_floods_9 hL hN hM hC  hret  5000 v1 0 (upd x77 v1.toNatClampNeg 0) x78 hf)

def fX12_floods     (v1 : Int32) (x77 : Nat → Int32) (x78 : Nat → Int32)  : Option ((Nat → Int32) × (Nat → Int32)) := fX12_floods_0  v1 x77 x78

set_option maxHeartbeats 4000000 in
set_option maxRecDepth 100000 in
theorem c_X12_floods (l : Launch) {b0 : Nat} {D : GD} {n : Nat} {κ : QT} {X0 : XT} {Y0 : YT} {Z : ZT} (hL : LY n κ) {x77 : Nat → Int32} {x78 : Nat → Int32} (hx : ([77, 78] : List Nat).map X0 = [x77, x78]) (hy : ([] : List Nat).map Y0 = []) {v1 : Int32} {rx77 : (Nat → Int32)} {rx78 : (Nat → Int32)} (hf : fX12_floods  v1 x77 x78 = some (rx77, rx78)) : gMv l yX12_floods cX12_floods 3 none 1 23 0 0 b0 D [.ref (b0 + 74), .int v1] (n, κ, X0, Y0, Z) (n, κ, ov X0 [77, 78] [rx77, rx78], ov Y0 [] [], Z) := by
  have hN : ([77, 78] : List Nat).Nodup := by decide
  have hM : ([] : List Nat).Nodup := by decide
  refine g_metv (own := RX12) (by decide) rfl rfl (Nat.le_of_ble_eq_true rfl) ?_
  intro K hC hret
  have e := wX12_floods_0 hL hN hM hC  hret hf
  rw [ov_id' hx, ov_id' hy] at e
  exact g_sub [0, 1] rfl e

-- X12_goes
def fX12_goes_253   (x79 : Nat → Int32) (x92 : Nat → Int32) (x93 : Nat → Int32) (x94 : Nat → Int32) (x95 : Nat → Int32) (x96 : Nat → Int32) (x97 : Nat → Int32)  (v2 : Int32) (s0 : Int32) (s1 : Int32) (s2 : Int32) (x74 : (Nat → Int32)) (x75 : (Nat → Int32)) (x76 : (Nat → Int32)) (x77 : (Nat → Int32)) (x78 : (Nat → Int32)) (x101 : (Nat → Int32)) (y99 : (Nat → Int64)) (y100 : (Nat → Int64)) : Option (Int32 × (Nat → Int32) × (Nat → Int32) × (Nat → Int32) × (Nat → Int32) × (Nat → Int32) × (Nat → Int32) × (Nat → Int64) × (Nat → Int64)) := gd (inb s2 11) (gd (inb 5 11) (gd (inb 5 11) (some (v2, x74, (upd (upd x75 s2.toNatClampNeg (s1 - s0)) (5 : Int32).toNatClampNeg (((upd x75 s2.toNatClampNeg (s1 - s0)) (5 : Int32).toNatClampNeg) + 1)), x76, x77, x78, x101, y99, y100))))
set_option maxHeartbeats 4000000 in
set_option maxRecDepth 100000 in
theorem wX12_goes_253 {l : Launch} {b0 : Nat} {D : GD} {K : KT} {n : Nat} {κ : QT} {X0 : XT} {Y0 : YT} {Z : ZT} (hL : LY n κ) (hN : ([74, 75, 76, 77, 78, 79, 92, 93, 94, 95, 96, 97, 101] : List Nat).Nodup) (hM : ([99, 100] : List Nat).Nodup) (hC : gC l b0 D K RX12 cX12_goes (some FieldType.int) 5 6 142 0 0) {x79 : Nat → Int32} {x92 : Nat → Int32} {x93 : Nat → Int32} {x94 : Nat → Int32} {x95 : Nat → Int32} {x96 : Nat → Int32} {x97 : Nat → Int32} {r : Int32} {rx74 : (Nat → Int32)} {rx75 : (Nat → Int32)} {rx76 : (Nat → Int32)} {rx77 : (Nat → Int32)} {rx78 : (Nat → Int32)} {rx101 : (Nat → Int32)} {ry99 : (Nat → Int64)} {ry100 : (Nat → Int64)} (hret : ∀ pc loc, narrow .int (.int r) = .int r → decode cX12_goes pc = .ok (.ireturn, 1) → gV l b0 D K (n, κ, ov X0 [74, 75, 76, 77, 78, 79, 92, 93, 94, 95, 96, 97, 101] [rx74, rx75, rx76, rx77, rx78, x79, x92, x93, x94, x95, x96, x97, rx101], ov Y0 [99, 100] [ry99, ry100], Z, 0, 0) pc loc [.int r]) {v2 : Int32} {s0 : Int32} {s1 : Int32} {s2 : Int32} {x74 : (Nat → Int32)} {x75 : (Nat → Int32)} {x76 : (Nat → Int32)} {x77 : (Nat → Int32)} {x78 : (Nat → Int32)} {x101 : (Nat → Int32)} {y99 : (Nat → Int64)} {y100 : (Nat → Int64)} (hf : fX12_goes_253 x79 x92 x93 x94 x95 x96 x97  v2 s0 s1 s2 x74 x75 x76 x77 x78 x101 y99 y100 = some (r, rx74, rx75, rx76, rx77, rx78, rx101, ry99, ry100)) : gV l b0 D K (n, κ, ov X0 [74, 75, 76, 77, 78, 79, 92, 93, 94, 95, 96, 97, 101] [x74, x75, x76, x77, x78, x79, x92, x93, x94, x95, x96, x97, x101], ov Y0 [99, 100] [y99, y100], Z, 0, 0) 253 [(0, .ref (b0 + 74)), (2, .int v2)] [.int s0, .int s1, .int s2, .ref (b0 + 75)] := by
  unfold fX12_goes_253 at hf
  refine g_isub hC dX12_goes_253 ?_
  obtain ⟨h_1, hf⟩ := gdE hf
  refine g_iast hC (x := x75) (kk_75 hL) (kn_75 hL) (ov_get hN 1 rfl rfl) (inb_in h_1) (ov_set hN (by rfl) 1 (by rfl)) dX12_goes_254 ?_
  show gV l b0 D K (n, κ, ov X0 [74, 75, 76, 77, 78, 79, 92, 93, 94, 95, 96, 97, 101] [x74, (upd x75 s2.toNatClampNeg (s1 - s0)), x76, x77, x78, x79, x92, x93, x94, x95, x96, x97, x101], ov Y0 [99, 100] [y99, y100], Z, 0, 0) 255 [(0, .ref (b0 + 74)), (2, .int v2)] []
  refine g_aload_n hC 0 dX12_goes_255 rfl rfl ?_
  refine gt_X12_9 hC (a := 74) (kk_74 hL) (kn_74 hL) dX12_goes_256 ?_
  refine g_ref (b := 75) rfl ?_
  refine g_iconst hC (v := 5) dX12_goes_259 ic_5 ?_
  refine g_dup2 hC dX12_goes_260 rfl rfl ?_
  obtain ⟨h_2, hf⟩ := gdE hf
  refine g_iald hC (x := (upd x75 s2.toNatClampNeg (s1 - s0))) (kk_75 hL) (kn_75 hL) (ov_get hN 1 rfl rfl) (inb_in h_2) dX12_goes_261 ?_
  refine g_iconst hC (v := 1) dX12_goes_262 ic_1 ?_
  refine g_iadd hC dX12_goes_263 ?_
  obtain ⟨h_3, hf⟩ := gdE hf
  refine g_iast hC (x := (upd x75 s2.toNatClampNeg (s1 - s0))) (kk_75 hL) (kn_75 hL) (ov_get hN 1 rfl rfl) (inb_in h_3) (ov_set hN (by rfl) 1 (by rfl)) dX12_goes_264 ?_
  show gV l b0 D K (n, κ, ov X0 [74, 75, 76, 77, 78, 79, 92, 93, 94, 95, 96, 97, 101] [x74, (upd (upd x75 s2.toNatClampNeg (s1 - s0)) (5 : Int32).toNatClampNeg (((upd x75 s2.toNatClampNeg (s1 - s0)) (5 : Int32).toNatClampNeg) + 1)), x76, x77, x78, x79, x92, x93, x94, x95, x96, x97, x101], ov Y0 [99, 100] [y99, y100], Z, 0, 0) 265 [(0, .ref (b0 + 74)), (2, .int v2)] []
  refine g_iload_n hC 1 dX12_goes_265 rfl rfl ?_
  obtain ⟨rfl, rfl, rfl, rfl, rfl, rfl, rfl, rfl, rfl⟩ := sm9E hf
  exact hret _ _ rfl dX12_goes_266

def fX12_goes_218   (x79 : Nat → Int32) (x92 : Nat → Int32) (x93 : Nat → Int32) (x94 : Nat → Int32) (x95 : Nat → Int32) (x96 : Nat → Int32) (x97 : Nat → Int32)  (k123 : Int32 → Int32 → (Nat → Int32) → (Nat → Int32) → (Nat → Int32) → (Nat → Int32) → (Nat → Int32) → (Nat → Int32) → (Nat → Int64) → (Nat → Int64) → Option (Int32 × (Nat → Int32) × (Nat → Int32) × (Nat → Int32) × (Nat → Int32) × (Nat → Int32) × (Nat → Int32) × (Nat → Int64) × (Nat → Int64))) (k138 : Int32 → Int32 → Int32 → (Nat → Int32) → (Nat → Int32) → (Nat → Int32) → (Nat → Int32) → (Nat → Int32) → (Nat → Int32) → (Nat → Int64) → (Nat → Int64) → Option (Int32 × (Nat → Int32) × (Nat → Int32) × (Nat → Int32) × (Nat → Int32) × (Nat → Int32) × (Nat → Int32) × (Nat → Int64) × (Nat → Int64))) (v2 : Int32) (v3 : Int32) (v4 : Int32) (x74 : (Nat → Int32)) (x75 : (Nat → Int32)) (x76 : (Nat → Int32)) (x77 : (Nat → Int32)) (x78 : (Nat → Int32)) (x101 : (Nat → Int32)) (y99 : (Nat → Int64)) (y100 : (Nat → Int64)) : Option (Int32 × (Nat → Int32) × (Nat → Int32) × (Nat → Int32) × (Nat → Int32) × (Nat → Int32) × (Nat → Int32) × (Nat → Int64) × (Nat → Int64)) := bn (v4 + 1) fun t_1 => (k138 v2 v3 t_1 x74 x75 x76 x77 x78 x101 y99 y100)
set_option maxHeartbeats 4000000 in
set_option maxRecDepth 100000 in
theorem wX12_goes_218 {l : Launch} {b0 : Nat} {D : GD} {K : KT} {n : Nat} {κ : QT} {X0 : XT} {Y0 : YT} {Z : ZT} (hL : LY n κ) (hN : ([74, 75, 76, 77, 78, 79, 92, 93, 94, 95, 96, 97, 101] : List Nat).Nodup) (hM : ([99, 100] : List Nat).Nodup) (hC : gC l b0 D K RX12 cX12_goes (some FieldType.int) 5 6 142 0 0) {x79 : Nat → Int32} {x92 : Nat → Int32} {x93 : Nat → Int32} {x94 : Nat → Int32} {x95 : Nat → Int32} {x96 : Nat → Int32} {x97 : Nat → Int32} {r : Int32} {rx74 : (Nat → Int32)} {rx75 : (Nat → Int32)} {rx76 : (Nat → Int32)} {rx77 : (Nat → Int32)} {rx78 : (Nat → Int32)} {rx101 : (Nat → Int32)} {ry99 : (Nat → Int64)} {ry100 : (Nat → Int64)} (hret : ∀ pc loc, narrow .int (.int r) = .int r → decode cX12_goes pc = .ok (.ireturn, 1) → gV l b0 D K (n, κ, ov X0 [74, 75, 76, 77, 78, 79, 92, 93, 94, 95, 96, 97, 101] [rx74, rx75, rx76, rx77, rx78, x79, x92, x93, x94, x95, x96, x97, rx101], ov Y0 [99, 100] [ry99, ry100], Z, 0, 0) pc loc [.int r]) {k123 : Int32 → Int32 → (Nat → Int32) → (Nat → Int32) → (Nat → Int32) → (Nat → Int32) → (Nat → Int32) → (Nat → Int32) → (Nat → Int64) → (Nat → Int64) → Option (Int32 × (Nat → Int32) × (Nat → Int32) × (Nat → Int32) × (Nat → Int32) × (Nat → Int32) × (Nat → Int32) × (Nat → Int64) × (Nat → Int64))} (hk123 : ∀ (v2 : Int32) (v3 : Int32) (x74 : (Nat → Int32)) (x75 : (Nat → Int32)) (x76 : (Nat → Int32)) (x77 : (Nat → Int32)) (x78 : (Nat → Int32)) (x101 : (Nat → Int32)) (y99 : (Nat → Int64)) (y100 : (Nat → Int64)), k123 v2 v3 x74 x75 x76 x77 x78 x101 y99 y100 = some (r, rx74, rx75, rx76, rx77, rx78, rx101, ry99, ry100) → gV l b0 D K (n, κ, ov X0 [74, 75, 76, 77, 78, 79, 92, 93, 94, 95, 96, 97, 101] [x74, x75, x76, x77, x78, x79, x92, x93, x94, x95, x96, x97, x101], ov Y0 [99, 100] [y99, y100], Z, 0, 0) 123 [(0, .ref (b0 + 74)), (2, .int v2), (3, .int v3)] []) {k138 : Int32 → Int32 → Int32 → (Nat → Int32) → (Nat → Int32) → (Nat → Int32) → (Nat → Int32) → (Nat → Int32) → (Nat → Int32) → (Nat → Int64) → (Nat → Int64) → Option (Int32 × (Nat → Int32) × (Nat → Int32) × (Nat → Int32) × (Nat → Int32) × (Nat → Int32) × (Nat → Int32) × (Nat → Int64) × (Nat → Int64))} (hk138 : ∀ (v2 : Int32) (v3 : Int32) (v4 : Int32) (x74 : (Nat → Int32)) (x75 : (Nat → Int32)) (x76 : (Nat → Int32)) (x77 : (Nat → Int32)) (x78 : (Nat → Int32)) (x101 : (Nat → Int32)) (y99 : (Nat → Int64)) (y100 : (Nat → Int64)), k138 v2 v3 v4 x74 x75 x76 x77 x78 x101 y99 y100 = some (r, rx74, rx75, rx76, rx77, rx78, rx101, ry99, ry100) → gV l b0 D K (n, κ, ov X0 [74, 75, 76, 77, 78, 79, 92, 93, 94, 95, 96, 97, 101] [x74, x75, x76, x77, x78, x79, x92, x93, x94, x95, x96, x97, x101], ov Y0 [99, 100] [y99, y100], Z, 0, 0) 138 [(0, .ref (b0 + 74)), (2, .int v2), (3, .int v3), (4, .int v4)] []) {v2 : Int32} {v3 : Int32} {v4 : Int32} {x74 : (Nat → Int32)} {x75 : (Nat → Int32)} {x76 : (Nat → Int32)} {x77 : (Nat → Int32)} {x78 : (Nat → Int32)} {x101 : (Nat → Int32)} {y99 : (Nat → Int64)} {y100 : (Nat → Int64)} (hf : fX12_goes_218 x79 x92 x93 x94 x95 x96 x97 k123 k138 v2 v3 v4 x74 x75 x76 x77 x78 x101 y99 y100 = some (r, rx74, rx75, rx76, rx77, rx78, rx101, ry99, ry100)) : gV l b0 D K (n, κ, ov X0 [74, 75, 76, 77, 78, 79, 92, 93, 94, 95, 96, 97, 101] [x74, x75, x76, x77, x78, x79, x92, x93, x94, x95, x96, x97, x101], ov Y0 [99, 100] [y99, y100], Z, 0, 0) 218 [(0, .ref (b0 + 74)), (2, .int v2), (3, .int v3), (4, .int v4)] [] := by
  unfold fX12_goes_218 at hf
  obtain ⟨t_1, et_1, hf⟩ := bnE hf
  refine g_iinc hC (i := 4) (v := t_1) [(4, .int t_1), (0, .ref (b0 + 74)), (2, .int v2), (3, .int v3)] dX12_goes_218 (q := 3) rfl ((congrArg (HAdd.hAdd v4) ic_1).trans et_1.symm) (by decide) rfl ?_
  refine g_goto hC 138 dX12_goes_221 (by decide) ?_
  exact g_sub [1, 2, 3, 0] rfl (hk138 v2 v3 t_1 x74 x75 x76 x77 x78 x101 y99 y100 hf)

def fX12_goes_138b   (x79 : Nat → Int32) (x92 : Nat → Int32) (x93 : Nat → Int32) (x94 : Nat → Int32) (x95 : Nat → Int32) (x96 : Nat → Int32) (x97 : Nat → Int32)  (k123 : Int32 → Int32 → (Nat → Int32) → (Nat → Int32) → (Nat → Int32) → (Nat → Int32) → (Nat → Int32) → (Nat → Int32) → (Nat → Int64) → (Nat → Int64) → Option (Int32 × (Nat → Int32) × (Nat → Int32) × (Nat → Int32) × (Nat → Int32) × (Nat → Int32) × (Nat → Int32) × (Nat → Int64) × (Nat → Int64))) (k138 : Int32 → Int32 → Int32 → (Nat → Int32) → (Nat → Int32) → (Nat → Int32) → (Nat → Int32) → (Nat → Int32) → (Nat → Int32) → (Nat → Int64) → (Nat → Int64) → Option (Int32 × (Nat → Int32) × (Nat → Int32) × (Nat → Int32) × (Nat → Int32) × (Nat → Int32) × (Nat → Int32) × (Nat → Int64) × (Nat → Int64))) (v2 : Int32) (v3 : Int32) (v4 : Int32) (x74 : (Nat → Int32)) (x75 : (Nat → Int32)) (x76 : (Nat → Int32)) (x77 : (Nat → Int32)) (x78 : (Nat → Int32)) (x101 : (Nat → Int32)) (y99 : (Nat → Int64)) (y100 : (Nat → Int64)) : Option (Int32 × (Nat → Int32) × (Nat → Int32) × (Nat → Int32) × (Nat → Int32) × (Nat → Int32) × (Nat → Int32) × (Nat → Int64) × (Nat → Int64)) := gd (inb 4 11) (if (x75 (4 : Int32).toNatClampNeg) ≤ v4 then (bn (v3 + 1) fun t_2 => (k123 v2 t_2 x74 x75 x76 x77 x78 x101 y99 y100)) else (gd (inb v3 6) (gd (inb v4 6) (if (x76 v3.toNatClampNeg) = (x76 v4.toNatClampNeg) then (bd1 (fX12_isInRiver x75 x76 v3) fun r_5 => (if r_5 = 0 then (gd (inb v3 6) (gd (inb v4 6) (if ((x101 v3.toNatClampNeg) + (x101 v4.toNatClampNeg)) ≤ 0 then (fX12_goes_218 x79 x92 x93 x94 x95 x96 x97 k123 k138 v2 v3 v4 x74 x75 x76 x77 x78 x101 y99 y100) else (gd (inb ((6 * v3) + v4) 36) (if (x78 ((6 * v3) + v4).toNatClampNeg) = 0 then (gd (inb 2 11) (bd1 (fX12_joins v3 v4 (x75 (2 : Int32).toNatClampNeg) x78) fun x78_11 => (fX12_goes_218 x79 x92 x93 x94 x95 x96 x97 k123 k138 v2 v3 v4 x74 x75 x76 x77 x78_11 x101 y99 y100))) else (fX12_goes_218 x79 x92 x93 x94 x95 x96 x97 k123 k138 v2 v3 v4 x74 x75 x76 x77 x78 x101 y99 y100)))))) else (fX12_goes_218 x79 x92 x93 x94 x95 x96 x97 k123 k138 v2 v3 v4 x74 x75 x76 x77 x78 x101 y99 y100))) else (fX12_goes_218 x79 x92 x93 x94 x95 x96 x97 k123 k138 v2 v3 v4 x74 x75 x76 x77 x78 x101 y99 y100)))))
def fX12_goes_138   (x79 : Nat → Int32) (x92 : Nat → Int32) (x93 : Nat → Int32) (x94 : Nat → Int32) (x95 : Nat → Int32) (x96 : Nat → Int32) (x97 : Nat → Int32)  (k123 : Int32 → Int32 → (Nat → Int32) → (Nat → Int32) → (Nat → Int32) → (Nat → Int32) → (Nat → Int32) → (Nat → Int32) → (Nat → Int64) → (Nat → Int64) → Option (Int32 × (Nat → Int32) × (Nat → Int32) × (Nat → Int32) × (Nat → Int32) × (Nat → Int32) × (Nat → Int32) × (Nat → Int64) × (Nat → Int64))) : Int32 → Int32 → Int32 → (Nat → Int32) → (Nat → Int32) → (Nat → Int32) → (Nat → Int32) → (Nat → Int32) → (Nat → Int32) → (Nat → Int64) → (Nat → Int64) → Option (Int32 × (Nat → Int32) × (Nat → Int32) × (Nat → Int32) × (Nat → Int32) × (Nat → Int32) × (Nat → Int32) × (Nat → Int64) × (Nat → Int64)) := lq11 (fX12_goes_138b x79 x92 x93 x94 x95 x96 x97 k123) 5000
set_option maxHeartbeats 4000000 in
set_option maxRecDepth 100000 in
theorem wX12_goes_138 {l : Launch} {b0 : Nat} {D : GD} {K : KT} {n : Nat} {κ : QT} {X0 : XT} {Y0 : YT} {Z : ZT} (hL : LY n κ) (hN : ([74, 75, 76, 77, 78, 79, 92, 93, 94, 95, 96, 97, 101] : List Nat).Nodup) (hM : ([99, 100] : List Nat).Nodup) (hC : gC l b0 D K RX12 cX12_goes (some FieldType.int) 5 6 142 0 0) {x79 : Nat → Int32} {x92 : Nat → Int32} {x93 : Nat → Int32} {x94 : Nat → Int32} {x95 : Nat → Int32} {x96 : Nat → Int32} {x97 : Nat → Int32} {r : Int32} {rx74 : (Nat → Int32)} {rx75 : (Nat → Int32)} {rx76 : (Nat → Int32)} {rx77 : (Nat → Int32)} {rx78 : (Nat → Int32)} {rx101 : (Nat → Int32)} {ry99 : (Nat → Int64)} {ry100 : (Nat → Int64)} (hret : ∀ pc loc, narrow .int (.int r) = .int r → decode cX12_goes pc = .ok (.ireturn, 1) → gV l b0 D K (n, κ, ov X0 [74, 75, 76, 77, 78, 79, 92, 93, 94, 95, 96, 97, 101] [rx74, rx75, rx76, rx77, rx78, x79, x92, x93, x94, x95, x96, x97, rx101], ov Y0 [99, 100] [ry99, ry100], Z, 0, 0) pc loc [.int r]) {k123 : Int32 → Int32 → (Nat → Int32) → (Nat → Int32) → (Nat → Int32) → (Nat → Int32) → (Nat → Int32) → (Nat → Int32) → (Nat → Int64) → (Nat → Int64) → Option (Int32 × (Nat → Int32) × (Nat → Int32) × (Nat → Int32) × (Nat → Int32) × (Nat → Int32) × (Nat → Int32) × (Nat → Int64) × (Nat → Int64))} (hk123 : ∀ (v2 : Int32) (v3 : Int32) (x74 : (Nat → Int32)) (x75 : (Nat → Int32)) (x76 : (Nat → Int32)) (x77 : (Nat → Int32)) (x78 : (Nat → Int32)) (x101 : (Nat → Int32)) (y99 : (Nat → Int64)) (y100 : (Nat → Int64)), k123 v2 v3 x74 x75 x76 x77 x78 x101 y99 y100 = some (r, rx74, rx75, rx76, rx77, rx78, rx101, ry99, ry100) → gV l b0 D K (n, κ, ov X0 [74, 75, 76, 77, 78, 79, 92, 93, 94, 95, 96, 97, 101] [x74, x75, x76, x77, x78, x79, x92, x93, x94, x95, x96, x97, x101], ov Y0 [99, 100] [y99, y100], Z, 0, 0) 123 [(0, .ref (b0 + 74)), (2, .int v2), (3, .int v3)] []) : ∀ (j : Nat) (v2 : Int32) (v3 : Int32) (v4 : Int32) (x74 : (Nat → Int32)) (x75 : (Nat → Int32)) (x76 : (Nat → Int32)) (x77 : (Nat → Int32)) (x78 : (Nat → Int32)) (x101 : (Nat → Int32)) (y99 : (Nat → Int64)) (y100 : (Nat → Int64)), lq11 (fX12_goes_138b x79 x92 x93 x94 x95 x96 x97 k123) j v2 v3 v4 x74 x75 x76 x77 x78 x101 y99 y100 = some (r, rx74, rx75, rx76, rx77, rx78, rx101, ry99, ry100) → gV l b0 D K (n, κ, ov X0 [74, 75, 76, 77, 78, 79, 92, 93, 94, 95, 96, 97, 101] [x74, x75, x76, x77, x78, x79, x92, x93, x94, x95, x96, x97, x101], ov Y0 [99, 100] [y99, y100], Z, 0, 0) 138 [(0, .ref (b0 + 74)), (2, .int v2), (3, .int v3), (4, .int v4)] [] := by
  intro j
  induction j with
  | zero => intro v2 v3 v4 x74 x75 x76 x77 x78 x101 y99 y100 hf; cases hf
  | succ j hk138 =>
    intro v2 v3 v4 x74 x75 x76 x77 x78 x101 y99 y100 hf
    replace hf : fX12_goes_138b x79 x92 x93 x94 x95 x96 x97 k123 (lq11 (fX12_goes_138b x79 x92 x93 x94 x95 x96 x97 k123) j) v2 v3 v4 x74 x75 x76 x77 x78 x101 y99 y100 = some (r, rx74, rx75, rx76, rx77, rx78, rx101, ry99, ry100) := hf
    unfold fX12_goes_138b at hf
    refine g_iload hC 3 dX12_goes_138 rfl ?_
    refine g_aload_n hC 0 dX12_goes_140 rfl rfl ?_
    refine gt_X12_9 hC (a := 74) (kk_74 hL) (kn_74 hL) dX12_goes_141 ?_
    refine g_ref (b := 75) rfl ?_
    refine g_iconst hC (v := 4) dX12_goes_144 ic_4 ?_
    obtain ⟨h_1, hf⟩ := gdE hf
    refine g_iald hC (x := x75) (kk_75 hL) (kn_75 hL) (ov_get hN 1 rfl rfl) (inb_in h_1) dX12_goes_145 ?_
    refine g_icmp_ge hC 224 dX12_goes_146 (by decide) (fun hc => ?_) (fun hc => ?_)
    · replace hf := ifT hf hc
      obtain ⟨t_2, et_2, hf⟩ := bnE hf
      refine g_iinc hC (i := 3) (v := t_2) [(3, .int t_2), (0, .ref (b0 + 74)), (2, .int v2), (4, .int v4)] dX12_goes_224 (q := 2) rfl ((congrArg (HAdd.hAdd v3) ic_1).trans et_2.symm) (by decide) rfl ?_
      refine g_goto hC 123 dX12_goes_227 (by decide) ?_
      exact g_sub [1, 2, 0] rfl (hk123 v2 t_2 x74 x75 x76 x77 x78 x101 y99 y100 hf)
    · replace hf := ifF hf hc
      refine g_aload_n hC 0 dX12_goes_149 rfl rfl ?_
      refine gt_X12_13 hC (a := 74) (kk_74 hL) (kn_74 hL) dX12_goes_150 ?_
      refine g_ref (b := 76) rfl ?_
      refine g_iload_n hC 2 dX12_goes_153 rfl rfl ?_
      obtain ⟨h_3, hf⟩ := gdE hf
      refine g_iald hC (x := x76) (kk_76 hL) (kn_76 hL) (ov_get hN 2 rfl rfl) (inb_in h_3) dX12_goes_154 ?_
      refine g_aload_n hC 0 dX12_goes_155 rfl rfl ?_
      refine gt_X12_13 hC (a := 74) (kk_74 hL) (kn_74 hL) dX12_goes_156 ?_
      refine g_ref (b := 76) rfl ?_
      refine g_iload hC 3 dX12_goes_159 rfl ?_
      obtain ⟨h_4, hf⟩ := gdE hf
      refine g_iald hC (x := x76) (kk_76 hL) (kn_76 hL) (ov_get hN 2 rfl rfl) (inb_in h_4) dX12_goes_161 ?_
      refine g_icmp_ne hC 218 dX12_goes_162 (by decide) (fun hc => ?_) (fun hc => ?_)
      · replace hf := ifF hf hc
        exact g_sub [0, 1, 2, 3] rfl (wX12_goes_218 hL hN hM hC  hret hk123 hk138 hf)
      · replace hf := ifT hf hc
        refine g_aload_n hC 0 dX12_goes_165 rfl rfl ?_
        refine g_iload_n hC 2 dX12_goes_166 rfl rfl ?_
        obtain ⟨r_5, q_6, hf⟩ := bd1E hf
        refine g_callV_i (a := 74) hC (X' := ov X0 [74, 75, 76, 77, 78, 79, 92, 93, 94, 95, 96, 97, 101] [x74, x75, x76, x77, x78, x79, x92, x93, x94, x95, x96, x97, x101]) (Y' := ov Y0 [99, 100] [y99, y100]) (As := [.int v3]) (gMi_eq (c_X12_isInRiver l hL (ov_map hN [1, 2] (by rfl) (by rfl)) (ov_map hM [] (by rfl) (by rfl)) q_6) (ov_ovE hN (by rfl) [1, 2] [0, 3, 4, 5, 6, 7, 8, 9, 10, 11, 12] (by rfl) (by rfl) [x74, x77, x78, x79, x92, x93, x94, x95, x96, x97, x101] (by rfl) (by rfl) (by rfl) 13 (by rfl) (by decide)) (ov_ovE hM (by rfl) [] [0, 1] (by rfl) (by rfl) [y99, y100] (by rfl) (by rfl) (by rfl) 2 (by rfl) (by decide))) tw_1638 tw_1635 tw_127 tw_1637 tw_94 (ci := 12) rfl (by decide) (kk_74 hL) (kn_74 hL) pd_X12_isInRiver (by decide) (by decide) rfl rfl (Nat.le_of_ble_eq_true rfl) rfl dX12_goes_167 ?_
        refine g_if_ne hC 218 dX12_goes_170 (by decide) (fun hc => ?_) (fun hc => ?_)
        · replace hf := ifF hf hc
          exact g_sub [0, 1, 2, 3] rfl (wX12_goes_218 hL hN hM hC  hret hk123 hk138 hf)
        · replace hf := ifT hf hc
          refine g_aload_n hC 0 dX12_goes_173 rfl rfl ?_
          refine gt_X12_100 hC (a := 74) (kk_74 hL) (kn_74 hL) dX12_goes_174 ?_
          refine g_ref (b := 101) rfl ?_
          refine g_iload_n hC 2 dX12_goes_177 rfl rfl ?_
          obtain ⟨h_7, hf⟩ := gdE hf
          refine g_iald hC (x := x101) (kk_101 hL) (kn_101 hL) (ov_get hN 12 rfl rfl) (inb_in h_7) dX12_goes_178 ?_
          refine g_aload_n hC 0 dX12_goes_179 rfl rfl ?_
          refine gt_X12_100 hC (a := 74) (kk_74 hL) (kn_74 hL) dX12_goes_180 ?_
          refine g_ref (b := 101) rfl ?_
          refine g_iload hC 3 dX12_goes_183 rfl ?_
          obtain ⟨h_8, hf⟩ := gdE hf
          refine g_iald hC (x := x101) (kk_101 hL) (kn_101 hL) (ov_get hN 12 rfl rfl) (inb_in h_8) dX12_goes_185 ?_
          refine g_iadd hC dX12_goes_186 ?_
          refine g_if_le hC 218 dX12_goes_187 (by decide) (fun hc => ?_) (fun hc => ?_)
          · replace hf := ifT hf hc
            exact g_sub [0, 1, 2, 3] rfl (wX12_goes_218 hL hN hM hC  hret hk123 hk138 hf)
          · replace hf := ifF hf hc
            refine g_aload_n hC 0 dX12_goes_190 rfl rfl ?_
            refine gt_X12_19 hC (a := 74) (kk_74 hL) (kn_74 hL) dX12_goes_191 ?_
            refine g_ref (b := 78) rfl ?_
            refine g_bipush hC (v := 6) dX12_goes_194 bp_6 ?_
            refine g_iload_n hC 2 dX12_goes_196 rfl rfl ?_
            refine g_imul hC dX12_goes_197 ?_
            refine g_iload hC 3 dX12_goes_198 rfl ?_
            refine g_iadd hC dX12_goes_200 ?_
            obtain ⟨h_9, hf⟩ := gdE hf
            refine g_iald hC (x := x78) (kk_78 hL) (kn_78 hL) (ov_get hN 4 rfl rfl) (inb_in h_9) dX12_goes_201 ?_
            refine g_if_ne hC 218 dX12_goes_202 (by decide) (fun hc => ?_) (fun hc => ?_)
            · replace hf := ifF hf hc
              exact g_sub [0, 1, 2, 3] rfl (wX12_goes_218 hL hN hM hC  hret hk123 hk138 hf)
            · replace hf := ifT hf hc
              refine g_aload_n hC 0 dX12_goes_205 rfl rfl ?_
              refine g_iload_n hC 2 dX12_goes_206 rfl rfl ?_
              refine g_iload hC 3 dX12_goes_207 rfl ?_
              refine g_aload_n hC 0 dX12_goes_209 rfl rfl ?_
              refine gt_X12_9 hC (a := 74) (kk_74 hL) (kn_74 hL) dX12_goes_210 ?_
              refine g_ref (b := 75) rfl ?_
              refine g_iconst hC (v := 2) dX12_goes_213 ic_2 ?_
              obtain ⟨h_10, hf⟩ := gdE hf
              refine g_iald hC (x := x75) (kk_75 hL) (kn_75 hL) (ov_get hN 1 rfl rfl) (inb_in h_10) dX12_goes_214 ?_
              obtain ⟨x78_11, q_12, hf⟩ := bd1E hf
              refine g_callV_v (a := 74) hC (X' := ov X0 [74, 75, 76, 77, 78, 79, 92, 93, 94, 95, 96, 97, 101] [x74, x75, x76, x77, x78_11, x79, x92, x93, x94, x95, x96, x97, x101]) (Y' := ov Y0 [99, 100] [y99, y100]) (As := [.int v3, .int v4, .int (x75 (2 : Int32).toNatClampNeg)]) (gMv_eq (c_X12_joins l hL (ov_map hN [4] (by rfl) (by rfl)) (ov_map hM [] (by rfl) (by rfl)) q_12) (ov_ovE hN (by rfl) [4] [0, 1, 2, 3, 5, 6, 7, 8, 9, 10, 11, 12] (by rfl) (by rfl) [x74, x75, x76, x77, x79, x92, x93, x94, x95, x96, x97, x101] (by rfl) (by rfl) (by rfl) 13 (by rfl) (by decide)) (ov_ovE hM (by rfl) [] [0, 1] (by rfl) (by rfl) [y99, y100] (by rfl) (by rfl) (by rfl) 2 (by rfl) (by decide))) tw_1627 tw_1624 tw_127 tw_1626 tw_92 (ci := 12) rfl (by decide) (kk_74 hL) (kn_74 hL) pd_X12_joins (by decide) (by decide) rfl rfl (Nat.le_of_ble_eq_true rfl) rfl dX12_goes_215 ?_
              exact g_sub [0, 1, 2, 3] rfl (wX12_goes_218 hL hN hM hC  hret hk123 hk138 hf)

def fX12_goes_123b   (x79 : Nat → Int32) (x92 : Nat → Int32) (x93 : Nat → Int32) (x94 : Nat → Int32) (x95 : Nat → Int32) (x96 : Nat → Int32) (x97 : Nat → Int32)  (k123 : Int32 → Int32 → (Nat → Int32) → (Nat → Int32) → (Nat → Int32) → (Nat → Int32) → (Nat → Int32) → (Nat → Int32) → (Nat → Int64) → (Nat → Int64) → Option (Int32 × (Nat → Int32) × (Nat → Int32) × (Nat → Int32) × (Nat → Int32) × (Nat → Int32) × (Nat → Int32) × (Nat → Int64) × (Nat → Int64))) (v2 : Int32) (v3 : Int32) (x74 : (Nat → Int32)) (x75 : (Nat → Int32)) (x76 : (Nat → Int32)) (x77 : (Nat → Int32)) (x78 : (Nat → Int32)) (x101 : (Nat → Int32)) (y99 : (Nat → Int64)) (y100 : (Nat → Int64)) : Option (Int32 × (Nat → Int32) × (Nat → Int32) × (Nat → Int32) × (Nat → Int32) × (Nat → Int32) × (Nat → Int32) × (Nat → Int64) × (Nat → Int64)) := gd (inb 4 11) (if (x75 (4 : Int32).toNatClampNeg) ≤ v3 then (gd (inb 7 11) (gd (inb 7 11) (if (x75 (7 : Int32).toNatClampNeg) ≤ 0 then (fX12_goes_253 x79 x92 x93 x94 x95 x96 x97  v2 0 (x75 (7 : Int32).toNatClampNeg) 7 x74 x75 x76 x77 x78 x101 y99 y100) else (fX12_goes_253 x79 x92 x93 x94 x95 x96 x97  v2 1 (x75 (7 : Int32).toNatClampNeg) 7 x74 x75 x76 x77 x78 x101 y99 y100)))) else (bn (v3 + 1) fun t_4 => (fX12_goes_138 x79 x92 x93 x94 x95 x96 x97 k123 v2 v3 t_4 x74 x75 x76 x77 x78 x101 y99 y100)))
def fX12_goes_123   (x79 : Nat → Int32) (x92 : Nat → Int32) (x93 : Nat → Int32) (x94 : Nat → Int32) (x95 : Nat → Int32) (x96 : Nat → Int32) (x97 : Nat → Int32)  : Int32 → Int32 → (Nat → Int32) → (Nat → Int32) → (Nat → Int32) → (Nat → Int32) → (Nat → Int32) → (Nat → Int32) → (Nat → Int64) → (Nat → Int64) → Option (Int32 × (Nat → Int32) × (Nat → Int32) × (Nat → Int32) × (Nat → Int32) × (Nat → Int32) × (Nat → Int32) × (Nat → Int64) × (Nat → Int64)) := lq10 (fX12_goes_123b x79 x92 x93 x94 x95 x96 x97 ) 5000
set_option maxHeartbeats 4000000 in
set_option maxRecDepth 100000 in
theorem wX12_goes_123 {l : Launch} {b0 : Nat} {D : GD} {K : KT} {n : Nat} {κ : QT} {X0 : XT} {Y0 : YT} {Z : ZT} (hL : LY n κ) (hN : ([74, 75, 76, 77, 78, 79, 92, 93, 94, 95, 96, 97, 101] : List Nat).Nodup) (hM : ([99, 100] : List Nat).Nodup) (hC : gC l b0 D K RX12 cX12_goes (some FieldType.int) 5 6 142 0 0) {x79 : Nat → Int32} {x92 : Nat → Int32} {x93 : Nat → Int32} {x94 : Nat → Int32} {x95 : Nat → Int32} {x96 : Nat → Int32} {x97 : Nat → Int32} {r : Int32} {rx74 : (Nat → Int32)} {rx75 : (Nat → Int32)} {rx76 : (Nat → Int32)} {rx77 : (Nat → Int32)} {rx78 : (Nat → Int32)} {rx101 : (Nat → Int32)} {ry99 : (Nat → Int64)} {ry100 : (Nat → Int64)} (hret : ∀ pc loc, narrow .int (.int r) = .int r → decode cX12_goes pc = .ok (.ireturn, 1) → gV l b0 D K (n, κ, ov X0 [74, 75, 76, 77, 78, 79, 92, 93, 94, 95, 96, 97, 101] [rx74, rx75, rx76, rx77, rx78, x79, x92, x93, x94, x95, x96, x97, rx101], ov Y0 [99, 100] [ry99, ry100], Z, 0, 0) pc loc [.int r]) : ∀ (j : Nat) (v2 : Int32) (v3 : Int32) (x74 : (Nat → Int32)) (x75 : (Nat → Int32)) (x76 : (Nat → Int32)) (x77 : (Nat → Int32)) (x78 : (Nat → Int32)) (x101 : (Nat → Int32)) (y99 : (Nat → Int64)) (y100 : (Nat → Int64)), lq10 (fX12_goes_123b x79 x92 x93 x94 x95 x96 x97 ) j v2 v3 x74 x75 x76 x77 x78 x101 y99 y100 = some (r, rx74, rx75, rx76, rx77, rx78, rx101, ry99, ry100) → gV l b0 D K (n, κ, ov X0 [74, 75, 76, 77, 78, 79, 92, 93, 94, 95, 96, 97, 101] [x74, x75, x76, x77, x78, x79, x92, x93, x94, x95, x96, x97, x101], ov Y0 [99, 100] [y99, y100], Z, 0, 0) 123 [(0, .ref (b0 + 74)), (2, .int v2), (3, .int v3)] [] := by
  intro j
  induction j with
  | zero => intro v2 v3 x74 x75 x76 x77 x78 x101 y99 y100 hf; cases hf
  | succ j hk123 =>
    intro v2 v3 x74 x75 x76 x77 x78 x101 y99 y100 hf
    replace hf : fX12_goes_123b x79 x92 x93 x94 x95 x96 x97  (lq10 (fX12_goes_123b x79 x92 x93 x94 x95 x96 x97 ) j) v2 v3 x74 x75 x76 x77 x78 x101 y99 y100 = some (r, rx74, rx75, rx76, rx77, rx78, rx101, ry99, ry100) := hf
    unfold fX12_goes_123b at hf
    refine g_iload_n hC 2 dX12_goes_123 rfl rfl ?_
    refine g_aload_n hC 0 dX12_goes_124 rfl rfl ?_
    refine gt_X12_9 hC (a := 74) (kk_74 hL) (kn_74 hL) dX12_goes_125 ?_
    refine g_ref (b := 75) rfl ?_
    refine g_iconst hC (v := 4) dX12_goes_128 ic_4 ?_
    obtain ⟨h_1, hf⟩ := gdE hf
    refine g_iald hC (x := x75) (kk_75 hL) (kn_75 hL) (ov_get hN 1 rfl rfl) (inb_in h_1) dX12_goes_129 ?_
    refine g_icmp_ge hC 230 dX12_goes_130 (by decide) (fun hc => ?_) (fun hc => ?_)
    · replace hf := ifT hf hc
      refine g_aload_n hC 0 dX12_goes_230 rfl rfl ?_
      refine gt_X12_9 hC (a := 74) (kk_74 hL) (kn_74 hL) dX12_goes_231 ?_
      refine g_ref (b := 75) rfl ?_
      refine g_bipush hC (v := 7) dX12_goes_234 bp_7 ?_
      refine g_dup2 hC dX12_goes_236 rfl rfl ?_
      obtain ⟨h_2, hf⟩ := gdE hf
      refine g_iald hC (x := x75) (kk_75 hL) (kn_75 hL) (ov_get hN 1 rfl rfl) (inb_in h_2) dX12_goes_237 ?_
      refine g_aload_n hC 0 dX12_goes_238 rfl rfl ?_
      refine gt_X12_9 hC (a := 74) (kk_74 hL) (kn_74 hL) dX12_goes_239 ?_
      refine g_ref (b := 75) rfl ?_
      refine g_bipush hC (v := 7) dX12_goes_242 bp_7 ?_
      obtain ⟨h_3, hf⟩ := gdE hf
      refine g_iald hC (x := x75) (kk_75 hL) (kn_75 hL) (ov_get hN 1 rfl rfl) (inb_in h_3) dX12_goes_244 ?_
      refine g_if_le hC 252 dX12_goes_245 (by decide) (fun hc => ?_) (fun hc => ?_)
      · replace hf := ifT hf hc
        refine g_iconst hC (v := 0) dX12_goes_252 ic_0 ?_
        exact g_sub [0, 1] rfl (wX12_goes_253 hL hN hM hC  hret  hf)
      · replace hf := ifF hf hc
        refine g_iconst hC (v := 1) dX12_goes_248 ic_1 ?_
        refine g_goto hC 253 dX12_goes_249 (by decide) ?_
        exact g_sub [0, 1] rfl (wX12_goes_253 hL hN hM hC  hret  hf)
    · replace hf := ifF hf hc
      refine g_iload_n hC 2 dX12_goes_133 rfl rfl ?_
      refine g_iconst hC (v := 1) dX12_goes_134 ic_1 ?_
      refine g_iadd hC dX12_goes_135 ?_
      obtain ⟨t_4, et_4, hf⟩ := bnE hf
      refine g_topi et_4 ?_
      refine g_istore hC (i := 4) [(4, .int t_4), (0, .ref (b0 + 74)), (2, .int v2), (3, .int v3)] dX12_goes_136 (by decide) rfl ?_
      exact g_sub [1, 2, 3, 0] rfl (wX12_goes_138 hL hN hM hC  hret hk123 5000 v2 v3 t_4 x74 x75 x76 x77 x78 x101 y99 y100 hf)

def fX12_goes_115   (x79 : Nat → Int32) (x92 : Nat → Int32) (x93 : Nat → Int32) (x94 : Nat → Int32) (x95 : Nat → Int32) (x96 : Nat → Int32) (x97 : Nat → Int32)  (k60 : Int32 → Int32 → (Nat → Int32) → (Nat → Int32) → (Nat → Int32) → (Nat → Int32) → (Nat → Int32) → (Nat → Int32) → (Nat → Int64) → (Nat → Int64) → Option (Int32 × (Nat → Int32) × (Nat → Int32) × (Nat → Int32) × (Nat → Int32) × (Nat → Int32) × (Nat → Int32) × (Nat → Int64) × (Nat → Int64))) (v2 : Int32) (v3 : Int32) (x74 : (Nat → Int32)) (x75 : (Nat → Int32)) (x76 : (Nat → Int32)) (x77 : (Nat → Int32)) (x78 : (Nat → Int32)) (x101 : (Nat → Int32)) (y99 : (Nat → Int64)) (y100 : (Nat → Int64)) : Option (Int32 × (Nat → Int32) × (Nat → Int32) × (Nat → Int32) × (Nat → Int32) × (Nat → Int32) × (Nat → Int32) × (Nat → Int64) × (Nat → Int64)) := bn (v3 + 1) fun t_1 => (k60 v2 t_1 x74 x75 x76 x77 x78 x101 y99 y100)
set_option maxHeartbeats 4000000 in
set_option maxRecDepth 100000 in
theorem wX12_goes_115 {l : Launch} {b0 : Nat} {D : GD} {K : KT} {n : Nat} {κ : QT} {X0 : XT} {Y0 : YT} {Z : ZT} (hL : LY n κ) (hN : ([74, 75, 76, 77, 78, 79, 92, 93, 94, 95, 96, 97, 101] : List Nat).Nodup) (hM : ([99, 100] : List Nat).Nodup) (hC : gC l b0 D K RX12 cX12_goes (some FieldType.int) 5 6 142 0 0) {x79 : Nat → Int32} {x92 : Nat → Int32} {x93 : Nat → Int32} {x94 : Nat → Int32} {x95 : Nat → Int32} {x96 : Nat → Int32} {x97 : Nat → Int32} {r : Int32} {rx74 : (Nat → Int32)} {rx75 : (Nat → Int32)} {rx76 : (Nat → Int32)} {rx77 : (Nat → Int32)} {rx78 : (Nat → Int32)} {rx101 : (Nat → Int32)} {ry99 : (Nat → Int64)} {ry100 : (Nat → Int64)} (hret : ∀ pc loc, narrow .int (.int r) = .int r → decode cX12_goes pc = .ok (.ireturn, 1) → gV l b0 D K (n, κ, ov X0 [74, 75, 76, 77, 78, 79, 92, 93, 94, 95, 96, 97, 101] [rx74, rx75, rx76, rx77, rx78, x79, x92, x93, x94, x95, x96, x97, rx101], ov Y0 [99, 100] [ry99, ry100], Z, 0, 0) pc loc [.int r]) {k60 : Int32 → Int32 → (Nat → Int32) → (Nat → Int32) → (Nat → Int32) → (Nat → Int32) → (Nat → Int32) → (Nat → Int32) → (Nat → Int64) → (Nat → Int64) → Option (Int32 × (Nat → Int32) × (Nat → Int32) × (Nat → Int32) × (Nat → Int32) × (Nat → Int32) × (Nat → Int32) × (Nat → Int64) × (Nat → Int64))} (hk60 : ∀ (v2 : Int32) (v3 : Int32) (x74 : (Nat → Int32)) (x75 : (Nat → Int32)) (x76 : (Nat → Int32)) (x77 : (Nat → Int32)) (x78 : (Nat → Int32)) (x101 : (Nat → Int32)) (y99 : (Nat → Int64)) (y100 : (Nat → Int64)), k60 v2 v3 x74 x75 x76 x77 x78 x101 y99 y100 = some (r, rx74, rx75, rx76, rx77, rx78, rx101, ry99, ry100) → gV l b0 D K (n, κ, ov X0 [74, 75, 76, 77, 78, 79, 92, 93, 94, 95, 96, 97, 101] [x74, x75, x76, x77, x78, x79, x92, x93, x94, x95, x96, x97, x101], ov Y0 [99, 100] [y99, y100], Z, 0, 0) 60 [(0, .ref (b0 + 74)), (2, .int v2), (3, .int v3)] []) {v2 : Int32} {v3 : Int32} {x74 : (Nat → Int32)} {x75 : (Nat → Int32)} {x76 : (Nat → Int32)} {x77 : (Nat → Int32)} {x78 : (Nat → Int32)} {x101 : (Nat → Int32)} {y99 : (Nat → Int64)} {y100 : (Nat → Int64)} (hf : fX12_goes_115 x79 x92 x93 x94 x95 x96 x97 k60 v2 v3 x74 x75 x76 x77 x78 x101 y99 y100 = some (r, rx74, rx75, rx76, rx77, rx78, rx101, ry99, ry100)) : gV l b0 D K (n, κ, ov X0 [74, 75, 76, 77, 78, 79, 92, 93, 94, 95, 96, 97, 101] [x74, x75, x76, x77, x78, x79, x92, x93, x94, x95, x96, x97, x101], ov Y0 [99, 100] [y99, y100], Z, 0, 0) 115 [(0, .ref (b0 + 74)), (2, .int v2), (3, .int v3)] [] := by
  unfold fX12_goes_115 at hf
  obtain ⟨t_1, et_1, hf⟩ := bnE hf
  refine g_iinc hC (i := 3) (v := t_1) [(3, .int t_1), (0, .ref (b0 + 74)), (2, .int v2)] dX12_goes_115 (q := 2) rfl ((congrArg (HAdd.hAdd v3) ic_1).trans et_1.symm) (by decide) rfl ?_
  refine g_goto hC 60 dX12_goes_118 (by decide) ?_
  exact g_sub [1, 2, 0] rfl (hk60 v2 t_1 x74 x75 x76 x77 x78 x101 y99 y100 hf)

def fX12_goes_100   (x79 : Nat → Int32) (x92 : Nat → Int32) (x93 : Nat → Int32) (x94 : Nat → Int32) (x95 : Nat → Int32) (x96 : Nat → Int32) (x97 : Nat → Int32)  (k60 : Int32 → Int32 → (Nat → Int32) → (Nat → Int32) → (Nat → Int32) → (Nat → Int32) → (Nat → Int32) → (Nat → Int32) → (Nat → Int64) → (Nat → Int64) → Option (Int32 × (Nat → Int32) × (Nat → Int32) × (Nat → Int32) × (Nat → Int32) × (Nat → Int32) × (Nat → Int32) × (Nat → Int64) × (Nat → Int64))) (v3 : Int32) (s0 : Int32) (s1 : Int32) (x74 : (Nat → Int32)) (x75 : (Nat → Int32)) (x76 : (Nat → Int32)) (x77 : (Nat → Int32)) (x78 : (Nat → Int32)) (x101 : (Nat → Int32)) (y99 : (Nat → Int64)) (y100 : (Nat → Int64)) : Option (Int32 × (Nat → Int32) × (Nat → Int32) × (Nat → Int32) × (Nat → Int32) × (Nat → Int32) × (Nat → Int32) × (Nat → Int64) × (Nat → Int64)) := bn (s1 + s0) fun t_1 => (bd1 (fX12_isInRiver x75 x76 v3) fun r_2 => (if r_2 = 0 then (fX12_goes_115 x79 x92 x93 x94 x95 x96 x97 k60 t_1 v3 x74 x75 x76 x77 x78 x101 y99 y100) else (bd2 (fX12_floods v3 x77 x78) fun x77_4 x78_5 => (fX12_goes_115 x79 x92 x93 x94 x95 x96 x97 k60 t_1 v3 x74 x75 x76 x77_4 x78_5 x101 y99 y100))))
set_option maxHeartbeats 4000000 in
set_option maxRecDepth 100000 in
theorem wX12_goes_100 {l : Launch} {b0 : Nat} {D : GD} {K : KT} {n : Nat} {κ : QT} {X0 : XT} {Y0 : YT} {Z : ZT} (hL : LY n κ) (hN : ([74, 75, 76, 77, 78, 79, 92, 93, 94, 95, 96, 97, 101] : List Nat).Nodup) (hM : ([99, 100] : List Nat).Nodup) (hC : gC l b0 D K RX12 cX12_goes (some FieldType.int) 5 6 142 0 0) {x79 : Nat → Int32} {x92 : Nat → Int32} {x93 : Nat → Int32} {x94 : Nat → Int32} {x95 : Nat → Int32} {x96 : Nat → Int32} {x97 : Nat → Int32} {r : Int32} {rx74 : (Nat → Int32)} {rx75 : (Nat → Int32)} {rx76 : (Nat → Int32)} {rx77 : (Nat → Int32)} {rx78 : (Nat → Int32)} {rx101 : (Nat → Int32)} {ry99 : (Nat → Int64)} {ry100 : (Nat → Int64)} (hret : ∀ pc loc, narrow .int (.int r) = .int r → decode cX12_goes pc = .ok (.ireturn, 1) → gV l b0 D K (n, κ, ov X0 [74, 75, 76, 77, 78, 79, 92, 93, 94, 95, 96, 97, 101] [rx74, rx75, rx76, rx77, rx78, x79, x92, x93, x94, x95, x96, x97, rx101], ov Y0 [99, 100] [ry99, ry100], Z, 0, 0) pc loc [.int r]) {k60 : Int32 → Int32 → (Nat → Int32) → (Nat → Int32) → (Nat → Int32) → (Nat → Int32) → (Nat → Int32) → (Nat → Int32) → (Nat → Int64) → (Nat → Int64) → Option (Int32 × (Nat → Int32) × (Nat → Int32) × (Nat → Int32) × (Nat → Int32) × (Nat → Int32) × (Nat → Int32) × (Nat → Int64) × (Nat → Int64))} (hk60 : ∀ (v2 : Int32) (v3 : Int32) (x74 : (Nat → Int32)) (x75 : (Nat → Int32)) (x76 : (Nat → Int32)) (x77 : (Nat → Int32)) (x78 : (Nat → Int32)) (x101 : (Nat → Int32)) (y99 : (Nat → Int64)) (y100 : (Nat → Int64)), k60 v2 v3 x74 x75 x76 x77 x78 x101 y99 y100 = some (r, rx74, rx75, rx76, rx77, rx78, rx101, ry99, ry100) → gV l b0 D K (n, κ, ov X0 [74, 75, 76, 77, 78, 79, 92, 93, 94, 95, 96, 97, 101] [x74, x75, x76, x77, x78, x79, x92, x93, x94, x95, x96, x97, x101], ov Y0 [99, 100] [y99, y100], Z, 0, 0) 60 [(0, .ref (b0 + 74)), (2, .int v2), (3, .int v3)] []) {v3 : Int32} {s0 : Int32} {s1 : Int32} {x74 : (Nat → Int32)} {x75 : (Nat → Int32)} {x76 : (Nat → Int32)} {x77 : (Nat → Int32)} {x78 : (Nat → Int32)} {x101 : (Nat → Int32)} {y99 : (Nat → Int64)} {y100 : (Nat → Int64)} (hf : fX12_goes_100 x79 x92 x93 x94 x95 x96 x97 k60 v3 s0 s1 x74 x75 x76 x77 x78 x101 y99 y100 = some (r, rx74, rx75, rx76, rx77, rx78, rx101, ry99, ry100)) : gV l b0 D K (n, κ, ov X0 [74, 75, 76, 77, 78, 79, 92, 93, 94, 95, 96, 97, 101] [x74, x75, x76, x77, x78, x79, x92, x93, x94, x95, x96, x97, x101], ov Y0 [99, 100] [y99, y100], Z, 0, 0) 100 [(0, .ref (b0 + 74)), (3, .int v3)] [.int s0, .int s1] := by
  unfold fX12_goes_100 at hf
  refine g_iadd hC dX12_goes_100 ?_
  obtain ⟨t_1, et_1, hf⟩ := bnE hf
  refine g_topi et_1 ?_
  refine g_istore_n hC (i := 2) [(2, .int t_1), (0, .ref (b0 + 74)), (3, .int v3)] rfl dX12_goes_101 (by decide) rfl ?_
  refine g_aload_n hC 1 dX12_goes_102 rfl rfl ?_
  refine g_iload_n hC 2 dX12_goes_103 rfl rfl ?_
  obtain ⟨r_2, q_3, hf⟩ := bd1E hf
  refine g_callV_i (a := 74) hC (X' := ov X0 [74, 75, 76, 77, 78, 79, 92, 93, 94, 95, 96, 97, 101] [x74, x75, x76, x77, x78, x79, x92, x93, x94, x95, x96, x97, x101]) (Y' := ov Y0 [99, 100] [y99, y100]) (As := [.int v3]) (gMi_eq (c_X12_isInRiver l hL (ov_map hN [1, 2] (by rfl) (by rfl)) (ov_map hM [] (by rfl) (by rfl)) q_3) (ov_ovE hN (by rfl) [1, 2] [0, 3, 4, 5, 6, 7, 8, 9, 10, 11, 12] (by rfl) (by rfl) [x74, x77, x78, x79, x92, x93, x94, x95, x96, x97, x101] (by rfl) (by rfl) (by rfl) 13 (by rfl) (by decide)) (ov_ovE hM (by rfl) [] [0, 1] (by rfl) (by rfl) [y99, y100] (by rfl) (by rfl) (by rfl) 2 (by rfl) (by decide))) tw_1638 tw_1635 tw_127 tw_1637 tw_94 (ci := 12) rfl (by decide) (kk_74 hL) (kn_74 hL) pd_X12_isInRiver (by decide) (by decide) rfl rfl (Nat.le_of_ble_eq_true rfl) rfl dX12_goes_104 ?_
  refine g_if_eq hC 115 dX12_goes_107 (by decide) (fun hc => ?_) (fun hc => ?_)
  · replace hf := ifT hf hc
    exact g_sub [1, 0, 2] rfl (wX12_goes_115 hL hN hM hC  hret hk60 hf)
  · replace hf := ifF hf hc
    refine g_aload_n hC 1 dX12_goes_110 rfl rfl ?_
    refine g_iload_n hC 2 dX12_goes_111 rfl rfl ?_
    obtain ⟨x77_4, x78_5, q_6, hf⟩ := bd2E hf
    refine g_callV_v (a := 74) hC (X' := ov X0 [74, 75, 76, 77, 78, 79, 92, 93, 94, 95, 96, 97, 101] [x74, x75, x76, x77_4, x78_5, x79, x92, x93, x94, x95, x96, x97, x101]) (Y' := ov Y0 [99, 100] [y99, y100]) (As := [.int v3]) (gMv_eq (c_X12_floods l hL (ov_map hN [3, 4] (by rfl) (by rfl)) (ov_map hM [] (by rfl) (by rfl)) q_6) (ov_ovE hN (by rfl) [3, 4] [0, 1, 2, 5, 6, 7, 8, 9, 10, 11, 12] (by rfl) (by rfl) [x74, x75, x76, x79, x92, x93, x94, x95, x96, x97, x101] (by rfl) (by rfl) (by rfl) 13 (by rfl) (by decide)) (ov_ovE hM (by rfl) [] [0, 1] (by rfl) (by rfl) [y99, y100] (by rfl) (by rfl) (by rfl) 2 (by rfl) (by decide))) tw_1642 tw_1639 tw_127 tw_1641 tw_95 (ci := 12) rfl (by decide) (kk_74 hL) (kn_74 hL) pd_X12_floods (by decide) (by decide) rfl rfl (Nat.le_of_ble_eq_true rfl) rfl dX12_goes_112 ?_
    exact g_sub [1, 0, 2] rfl (wX12_goes_115 hL hN hM hC  hret hk60 hf)

def fX12_goes_60b   (x79 : Nat → Int32) (x92 : Nat → Int32) (x93 : Nat → Int32) (x94 : Nat → Int32) (x95 : Nat → Int32) (x96 : Nat → Int32) (x97 : Nat → Int32)  (k60 : Int32 → Int32 → (Nat → Int32) → (Nat → Int32) → (Nat → Int32) → (Nat → Int32) → (Nat → Int32) → (Nat → Int32) → (Nat → Int64) → (Nat → Int64) → Option (Int32 × (Nat → Int32) × (Nat → Int32) × (Nat → Int32) × (Nat → Int32) × (Nat → Int32) × (Nat → Int32) × (Nat → Int64) × (Nat → Int64))) (v2 : Int32) (v3 : Int32) (x74 : (Nat → Int32)) (x75 : (Nat → Int32)) (x76 : (Nat → Int32)) (x77 : (Nat → Int32)) (x78 : (Nat → Int32)) (x101 : (Nat → Int32)) (y99 : (Nat → Int64)) (y100 : (Nat → Int64)) : Option (Int32 × (Nat → Int32) × (Nat → Int32) × (Nat → Int32) × (Nat → Int32) × (Nat → Int32) × (Nat → Int32) × (Nat → Int64) × (Nat → Int64)) := gd (inb 4 11) (if (x75 (4 : Int32).toNatClampNeg) ≤ v3 then (fX12_goes_123 x79 x92 x93 x94 x95 x96 x97  v2 0 x74 x75 x76 x77 x78 x101 y99 y100) else (gd (inb v3 6) (gd (inb v3 6) (gd (inb v3 6) (gd (inb v3 6) (if (x101 v3.toNatClampNeg) ≤ 0 then (fX12_goes_100 x79 x92 x93 x94 x95 x96 x97 k60 v3 0 v2 x74 x75 (upd x76 v3.toNatClampNeg ((x76 v3.toNatClampNeg) + (x101 v3.toNatClampNeg))) x77 x78 x101 y99 y100) else (fX12_goes_100 x79 x92 x93 x94 x95 x96 x97 k60 v3 1 v2 x74 x75 (upd x76 v3.toNatClampNeg ((x76 v3.toNatClampNeg) + (x101 v3.toNatClampNeg))) x77 x78 x101 y99 y100)))))))
def fX12_goes_60   (x79 : Nat → Int32) (x92 : Nat → Int32) (x93 : Nat → Int32) (x94 : Nat → Int32) (x95 : Nat → Int32) (x96 : Nat → Int32) (x97 : Nat → Int32)  : Int32 → Int32 → (Nat → Int32) → (Nat → Int32) → (Nat → Int32) → (Nat → Int32) → (Nat → Int32) → (Nat → Int32) → (Nat → Int64) → (Nat → Int64) → Option (Int32 × (Nat → Int32) × (Nat → Int32) × (Nat → Int32) × (Nat → Int32) × (Nat → Int32) × (Nat → Int32) × (Nat → Int64) × (Nat → Int64)) := lq10 (fX12_goes_60b x79 x92 x93 x94 x95 x96 x97 ) 5000
set_option maxHeartbeats 4000000 in
set_option maxRecDepth 100000 in
theorem wX12_goes_60 {l : Launch} {b0 : Nat} {D : GD} {K : KT} {n : Nat} {κ : QT} {X0 : XT} {Y0 : YT} {Z : ZT} (hL : LY n κ) (hN : ([74, 75, 76, 77, 78, 79, 92, 93, 94, 95, 96, 97, 101] : List Nat).Nodup) (hM : ([99, 100] : List Nat).Nodup) (hC : gC l b0 D K RX12 cX12_goes (some FieldType.int) 5 6 142 0 0) {x79 : Nat → Int32} {x92 : Nat → Int32} {x93 : Nat → Int32} {x94 : Nat → Int32} {x95 : Nat → Int32} {x96 : Nat → Int32} {x97 : Nat → Int32} {r : Int32} {rx74 : (Nat → Int32)} {rx75 : (Nat → Int32)} {rx76 : (Nat → Int32)} {rx77 : (Nat → Int32)} {rx78 : (Nat → Int32)} {rx101 : (Nat → Int32)} {ry99 : (Nat → Int64)} {ry100 : (Nat → Int64)} (hret : ∀ pc loc, narrow .int (.int r) = .int r → decode cX12_goes pc = .ok (.ireturn, 1) → gV l b0 D K (n, κ, ov X0 [74, 75, 76, 77, 78, 79, 92, 93, 94, 95, 96, 97, 101] [rx74, rx75, rx76, rx77, rx78, x79, x92, x93, x94, x95, x96, x97, rx101], ov Y0 [99, 100] [ry99, ry100], Z, 0, 0) pc loc [.int r]) : ∀ (j : Nat) (v2 : Int32) (v3 : Int32) (x74 : (Nat → Int32)) (x75 : (Nat → Int32)) (x76 : (Nat → Int32)) (x77 : (Nat → Int32)) (x78 : (Nat → Int32)) (x101 : (Nat → Int32)) (y99 : (Nat → Int64)) (y100 : (Nat → Int64)), lq10 (fX12_goes_60b x79 x92 x93 x94 x95 x96 x97 ) j v2 v3 x74 x75 x76 x77 x78 x101 y99 y100 = some (r, rx74, rx75, rx76, rx77, rx78, rx101, ry99, ry100) → gV l b0 D K (n, κ, ov X0 [74, 75, 76, 77, 78, 79, 92, 93, 94, 95, 96, 97, 101] [x74, x75, x76, x77, x78, x79, x92, x93, x94, x95, x96, x97, x101], ov Y0 [99, 100] [y99, y100], Z, 0, 0) 60 [(0, .ref (b0 + 74)), (2, .int v2), (3, .int v3)] [] := by
  intro j
  induction j with
  | zero => intro v2 v3 x74 x75 x76 x77 x78 x101 y99 y100 hf; cases hf
  | succ j hk60 =>
    intro v2 v3 x74 x75 x76 x77 x78 x101 y99 y100 hf
    replace hf : fX12_goes_60b x79 x92 x93 x94 x95 x96 x97  (lq10 (fX12_goes_60b x79 x92 x93 x94 x95 x96 x97 ) j) v2 v3 x74 x75 x76 x77 x78 x101 y99 y100 = some (r, rx74, rx75, rx76, rx77, rx78, rx101, ry99, ry100) := hf
    unfold fX12_goes_60b at hf
    refine g_iload_n hC 2 dX12_goes_60 rfl rfl ?_
    refine g_aload_n hC 0 dX12_goes_61 rfl rfl ?_
    refine gt_X12_9 hC (a := 74) (kk_74 hL) (kn_74 hL) dX12_goes_62 ?_
    refine g_ref (b := 75) rfl ?_
    refine g_iconst hC (v := 4) dX12_goes_65 ic_4 ?_
    obtain ⟨h_1, hf⟩ := gdE hf
    refine g_iald hC (x := x75) (kk_75 hL) (kn_75 hL) (ov_get hN 1 rfl rfl) (inb_in h_1) dX12_goes_66 ?_
    refine g_icmp_ge hC 121 dX12_goes_67 (by decide) (fun hc => ?_) (fun hc => ?_)
    · replace hf := ifT hf hc
      refine g_iconst hC (v := 0) dX12_goes_121 ic_0 ?_
      refine g_istore_n hC (i := 3) [(3, .int 0), (0, .ref (b0 + 74)), (2, .int v2)] rfl dX12_goes_122 (by decide) rfl ?_
      exact g_sub [1, 2, 0] rfl (wX12_goes_123 hL hN hM hC  hret  5000 v2 0 x74 x75 x76 x77 x78 x101 y99 y100 hf)
    · replace hf := ifF hf hc
      refine g_aload_n hC 0 dX12_goes_70 rfl rfl ?_
      refine gt_X12_13 hC (a := 74) (kk_74 hL) (kn_74 hL) dX12_goes_71 ?_
      refine g_ref (b := 76) rfl ?_
      refine g_iload_n hC 2 dX12_goes_74 rfl rfl ?_
      refine g_dup2 hC dX12_goes_75 rfl rfl ?_
      obtain ⟨h_2, hf⟩ := gdE hf
      refine g_iald hC (x := x76) (kk_76 hL) (kn_76 hL) (ov_get hN 2 rfl rfl) (inb_in h_2) dX12_goes_76 ?_
      refine g_aload_n hC 0 dX12_goes_77 rfl rfl ?_
      refine gt_X12_100 hC (a := 74) (kk_74 hL) (kn_74 hL) dX12_goes_78 ?_
      refine g_ref (b := 101) rfl ?_
      refine g_iload_n hC 2 dX12_goes_81 rfl rfl ?_
      obtain ⟨h_3, hf⟩ := gdE hf
      refine g_iald hC (x := x101) (kk_101 hL) (kn_101 hL) (ov_get hN 12 rfl rfl) (inb_in h_3) dX12_goes_82 ?_
      refine g_iadd hC dX12_goes_83 ?_
      obtain ⟨h_4, hf⟩ := gdE hf
      refine g_iast hC (x := x76) (kk_76 hL) (kn_76 hL) (ov_get hN 2 rfl rfl) (inb_in h_4) (ov_set hN (by rfl) 2 (by rfl)) dX12_goes_84 ?_
      show gV l b0 D K (n, κ, ov X0 [74, 75, 76, 77, 78, 79, 92, 93, 94, 95, 96, 97, 101] [x74, x75, (upd x76 v3.toNatClampNeg ((x76 v3.toNatClampNeg) + (x101 v3.toNatClampNeg))), x77, x78, x79, x92, x93, x94, x95, x96, x97, x101], ov Y0 [99, 100] [y99, y100], Z, 0, 0) 85 [(0, .ref (b0 + 74)), (2, .int v2), (3, .int v3)] []
      refine g_iload_n hC 1 dX12_goes_85 rfl rfl ?_
      refine g_aload_n hC 0 dX12_goes_86 rfl rfl ?_
      refine gt_X12_100 hC (a := 74) (kk_74 hL) (kn_74 hL) dX12_goes_87 ?_
      refine g_ref (b := 101) rfl ?_
      refine g_iload_n hC 2 dX12_goes_90 rfl rfl ?_
      obtain ⟨h_5, hf⟩ := gdE hf
      refine g_iald hC (x := x101) (kk_101 hL) (kn_101 hL) (ov_get hN 12 rfl rfl) (inb_in h_5) dX12_goes_91 ?_
      refine g_if_le hC 99 dX12_goes_92 (by decide) (fun hc => ?_) (fun hc => ?_)
      · replace hf := ifT hf hc
        refine g_iconst hC (v := 0) dX12_goes_99 ic_0 ?_
        exact g_sub [0, 2] rfl (wX12_goes_100 hL hN hM hC  hret hk60 hf)
      · replace hf := ifF hf hc
        refine g_iconst hC (v := 1) dX12_goes_95 ic_1 ?_
        refine g_goto hC 100 dX12_goes_96 (by decide) ?_
        exact g_sub [0, 2] rfl (wX12_goes_100 hL hN hM hC  hret hk60 hf)

def fX12_goes_52   (x79 : Nat → Int32) (x92 : Nat → Int32) (x93 : Nat → Int32) (x94 : Nat → Int32) (x95 : Nat → Int32) (x96 : Nat → Int32) (x97 : Nat → Int32)  (x74 : (Nat → Int32)) (x75 : (Nat → Int32)) (x76 : (Nat → Int32)) (x77 : (Nat → Int32)) (x78 : (Nat → Int32)) (x101 : (Nat → Int32)) (y99 : (Nat → Int64)) (y100 : (Nat → Int64)) : Option (Int32 × (Nat → Int32) × (Nat → Int32) × (Nat → Int32) × (Nat → Int32) × (Nat → Int32) × (Nat → Int32) × (Nat → Int64) × (Nat → Int64)) := bd1 (fX12_laysSinks x74 x75 x76 x77 x78 x79 x101) fun x101_1 => (fX12_goes_60 x79 x92 x93 x94 x95 x96 x97  0 0 x74 x75 x76 x77 x78 x101_1 y99 y100)
set_option maxHeartbeats 4000000 in
set_option maxRecDepth 100000 in
theorem wX12_goes_52 {l : Launch} {b0 : Nat} {D : GD} {K : KT} {n : Nat} {κ : QT} {X0 : XT} {Y0 : YT} {Z : ZT} (hL : LY n κ) (hN : ([74, 75, 76, 77, 78, 79, 92, 93, 94, 95, 96, 97, 101] : List Nat).Nodup) (hM : ([99, 100] : List Nat).Nodup) (hC : gC l b0 D K RX12 cX12_goes (some FieldType.int) 5 6 142 0 0) {x79 : Nat → Int32} {x92 : Nat → Int32} {x93 : Nat → Int32} {x94 : Nat → Int32} {x95 : Nat → Int32} {x96 : Nat → Int32} {x97 : Nat → Int32} {r : Int32} {rx74 : (Nat → Int32)} {rx75 : (Nat → Int32)} {rx76 : (Nat → Int32)} {rx77 : (Nat → Int32)} {rx78 : (Nat → Int32)} {rx101 : (Nat → Int32)} {ry99 : (Nat → Int64)} {ry100 : (Nat → Int64)} (hret : ∀ pc loc, narrow .int (.int r) = .int r → decode cX12_goes pc = .ok (.ireturn, 1) → gV l b0 D K (n, κ, ov X0 [74, 75, 76, 77, 78, 79, 92, 93, 94, 95, 96, 97, 101] [rx74, rx75, rx76, rx77, rx78, x79, x92, x93, x94, x95, x96, x97, rx101], ov Y0 [99, 100] [ry99, ry100], Z, 0, 0) pc loc [.int r]) {x74 : (Nat → Int32)} {x75 : (Nat → Int32)} {x76 : (Nat → Int32)} {x77 : (Nat → Int32)} {x78 : (Nat → Int32)} {x101 : (Nat → Int32)} {y99 : (Nat → Int64)} {y100 : (Nat → Int64)} (hf : fX12_goes_52 x79 x92 x93 x94 x95 x96 x97  x74 x75 x76 x77 x78 x101 y99 y100 = some (r, rx74, rx75, rx76, rx77, rx78, rx101, ry99, ry100)) : gV l b0 D K (n, κ, ov X0 [74, 75, 76, 77, 78, 79, 92, 93, 94, 95, 96, 97, 101] [x74, x75, x76, x77, x78, x79, x92, x93, x94, x95, x96, x97, x101], ov Y0 [99, 100] [y99, y100], Z, 0, 0) 52 [(0, .ref (b0 + 74))] [] := by
  unfold fX12_goes_52 at hf
  refine g_aload_n hC 0 dX12_goes_52 rfl rfl ?_
  obtain ⟨x101_1, q_2, hf⟩ := bd1E hf
  refine g_callV_v (a := 74) hC (X' := ov X0 [74, 75, 76, 77, 78, 79, 92, 93, 94, 95, 96, 97, 101] [x74, x75, x76, x77, x78, x79, x92, x93, x94, x95, x96, x97, x101_1]) (Y' := ov Y0 [99, 100] [y99, y100]) (As := []) (gMv_eq (c_X12_laysSinks l hL (ov_map hN [0, 1, 2, 3, 4, 5, 12] (by rfl) (by rfl)) (ov_map hM [] (by rfl) (by rfl)) q_2) (ov_ovE hN (by rfl) [0, 1, 2, 3, 4, 5, 12] [6, 7, 8, 9, 10, 11] (by rfl) (by rfl) [x92, x93, x94, x95, x96, x97] (by rfl) (by rfl) (by rfl) 13 (by rfl) (by decide)) (ov_ovE hM (by rfl) [] [0, 1] (by rfl) (by rfl) [y99, y100] (by rfl) (by rfl) (by rfl) 2 (by rfl) (by decide))) tw_1631 tw_1628 tw_127 tw_1630 tw_93 (ci := 12) rfl (by decide) (kk_74 hL) (kn_74 hL) pd_X12_laysSinks (by decide) (by decide) rfl rfl (Nat.le_of_ble_eq_true rfl) rfl dX12_goes_53 ?_
  refine g_iconst hC (v := 0) dX12_goes_56 ic_0 ?_
  refine g_istore_n hC (i := 2) [(2, .int 0), (0, .ref (b0 + 74))] rfl dX12_goes_57 (by decide) rfl ?_
  refine g_iconst hC (v := 0) dX12_goes_58 ic_0 ?_
  refine g_istore_n hC (i := 3) [(3, .int 0), (2, .int 0), (0, .ref (b0 + 74))] rfl dX12_goes_59 (by decide) rfl ?_
  exact g_sub [2, 1, 0] rfl (wX12_goes_60 hL hN hM hC  hret  5000 0 0 x74 x75 x76 x77 x78 x101_1 y99 y100 hf)

def fX12_goes_0   (x79 : Nat → Int32) (x92 : Nat → Int32) (x93 : Nat → Int32) (x94 : Nat → Int32) (x95 : Nat → Int32) (x96 : Nat → Int32) (x97 : Nat → Int32)  (x74 : (Nat → Int32)) (x75 : (Nat → Int32)) (x76 : (Nat → Int32)) (x77 : (Nat → Int32)) (x78 : (Nat → Int32)) (x101 : (Nat → Int32)) (y99 : (Nat → Int64)) (y100 : (Nat → Int64)) : Option (Int32 × (Nat → Int32) × (Nat → Int32) × (Nat → Int32) × (Nat → Int32) × (Nat → Int32) × (Nat → Int32) × (Nat → Int64) × (Nat → Int64)) := bd4 (fX12_choice x75 x76 x77 x78 x79 x92 x93 x94 x95 x96 x97 x74 y99 y100) fun r_1 x74_2 y99_3 y100_4 => (if r_1 = (-1) then (fX12_goes_52 x79 x92 x93 x94 x95 x96 x97  x74_2 x75 x76 x77 x78 x101 y99_3 y100_4) else (gd (inb ((6 * (r_1 / 8)) + (r_1 - r_1 / 8 * 8)) 36) (bd1 (fX12_joins (r_1 / 8) (r_1 - r_1 / 8 * 8) ((x78 ((6 * (r_1 / 8)) + (r_1 - r_1 / 8 * 8)).toNatClampNeg) + 1) x78) fun x78_7 => (gd (inb 6 11) (gd (inb 6 11) (fX12_goes_52 x79 x92 x93 x94 x95 x96 x97  x74_2 (upd x75 (6 : Int32).toNatClampNeg ((x75 (6 : Int32).toNatClampNeg) - 1)) x76 x77 x78_7 x101 y99_3 y100_4))))))
set_option maxHeartbeats 4000000 in
set_option maxRecDepth 100000 in
theorem wX12_goes_0 {l : Launch} {b0 : Nat} {D : GD} {K : KT} {n : Nat} {κ : QT} {X0 : XT} {Y0 : YT} {Z : ZT} (hL : LY n κ) (hN : ([74, 75, 76, 77, 78, 79, 92, 93, 94, 95, 96, 97, 101] : List Nat).Nodup) (hM : ([99, 100] : List Nat).Nodup) (hC : gC l b0 D K RX12 cX12_goes (some FieldType.int) 5 6 142 0 0) {x79 : Nat → Int32} {x92 : Nat → Int32} {x93 : Nat → Int32} {x94 : Nat → Int32} {x95 : Nat → Int32} {x96 : Nat → Int32} {x97 : Nat → Int32} {r : Int32} {rx74 : (Nat → Int32)} {rx75 : (Nat → Int32)} {rx76 : (Nat → Int32)} {rx77 : (Nat → Int32)} {rx78 : (Nat → Int32)} {rx101 : (Nat → Int32)} {ry99 : (Nat → Int64)} {ry100 : (Nat → Int64)} (hret : ∀ pc loc, narrow .int (.int r) = .int r → decode cX12_goes pc = .ok (.ireturn, 1) → gV l b0 D K (n, κ, ov X0 [74, 75, 76, 77, 78, 79, 92, 93, 94, 95, 96, 97, 101] [rx74, rx75, rx76, rx77, rx78, x79, x92, x93, x94, x95, x96, x97, rx101], ov Y0 [99, 100] [ry99, ry100], Z, 0, 0) pc loc [.int r]) {x74 : (Nat → Int32)} {x75 : (Nat → Int32)} {x76 : (Nat → Int32)} {x77 : (Nat → Int32)} {x78 : (Nat → Int32)} {x101 : (Nat → Int32)} {y99 : (Nat → Int64)} {y100 : (Nat → Int64)} (hf : fX12_goes_0 x79 x92 x93 x94 x95 x96 x97  x74 x75 x76 x77 x78 x101 y99 y100 = some (r, rx74, rx75, rx76, rx77, rx78, rx101, ry99, ry100)) : gV l b0 D K (n, κ, ov X0 [74, 75, 76, 77, 78, 79, 92, 93, 94, 95, 96, 97, 101] [x74, x75, x76, x77, x78, x79, x92, x93, x94, x95, x96, x97, x101], ov Y0 [99, 100] [y99, y100], Z, 0, 0) 0 [(0, .ref (b0 + 74))] [] := by
  unfold fX12_goes_0 at hf
  refine g_aload_n hC 0 dX12_goes_0 rfl rfl ?_
  obtain ⟨r_1, x74_2, y99_3, y100_4, q_5, hf⟩ := bd4E hf
  refine g_callV_i (a := 74) hC (X' := ov X0 [74, 75, 76, 77, 78, 79, 92, 93, 94, 95, 96, 97, 101] [x74_2, x75, x76, x77, x78, x79, x92, x93, x94, x95, x96, x97, x101]) (Y' := ov Y0 [99, 100] [y99_3, y100_4]) (As := []) (gMi_eq (c_X12_choice l hL (ov_map hN [0, 1, 2, 3, 4, 5, 6, 7, 8, 9, 10, 11] (by rfl) (by rfl)) (ov_map hM [0, 1] (by rfl) (by rfl)) q_5) (ov_ovE hN (by rfl) [0, 1, 2, 3, 4, 5, 6, 7, 8, 9, 10, 11] [12] (by rfl) (by rfl) [x101] (by rfl) (by rfl) (by rfl) 13 (by rfl) (by decide)) (ov_ovE hM (by rfl) [0, 1] [] (by rfl) (by rfl) [] (by rfl) (by rfl) (by rfl) 2 (by rfl) (by decide))) tw_1597 tw_1594 tw_127 tw_1596 tw_87 (ci := 12) rfl (by decide) (kk_74 hL) (kn_74 hL) pd_X12_choice (by decide) (by decide) rfl rfl (Nat.le_of_ble_eq_true rfl) rfl dX12_goes_1 ?_
  refine g_istore_n hC (i := 1) [(1, .int r_1), (0, .ref (b0 + 74))] rfl dX12_goes_4 (by decide) rfl ?_
  refine g_iload_n hC 0 dX12_goes_5 rfl rfl ?_
  refine g_iconst hC (v := (-1)) dX12_goes_6 ic_m1 ?_
  refine g_icmp_eq hC 52 dX12_goes_7 (by decide) (fun hc => ?_) (fun hc => ?_)
  · replace hf := ifT hf hc
    exact g_sub [1] rfl (wX12_goes_52 hL hN hM hC  hret  hf)
  · replace hf := ifF hf hc
    refine g_aload_n hC 1 dX12_goes_10 rfl rfl ?_
    refine g_iload_n hC 0 dX12_goes_11 rfl rfl ?_
    refine g_bipush hC (v := 8) dX12_goes_12 bp_8 ?_
    refine g_idiv hC dX12_goes_14 (by decide) ?_
    refine g_iload_n hC 0 dX12_goes_15 rfl rfl ?_
    refine g_bipush hC (v := 8) dX12_goes_16 bp_8 ?_
    refine g_irem hC dX12_goes_18 (by decide) ?_
    refine g_aload_n hC 1 dX12_goes_19 rfl rfl ?_
    refine gt_X12_19 hC (a := 74) (kk_74 hL) (kn_74 hL) dX12_goes_20 ?_
    refine g_ref (b := 78) rfl ?_
    refine g_bipush hC (v := 6) dX12_goes_23 bp_6 ?_
    refine g_iload_n hC 0 dX12_goes_25 rfl rfl ?_
    refine g_bipush hC (v := 8) dX12_goes_26 bp_8 ?_
    refine g_idiv hC dX12_goes_28 (by decide) ?_
    refine g_imul hC dX12_goes_29 ?_
    refine g_iload_n hC 0 dX12_goes_30 rfl rfl ?_
    refine g_bipush hC (v := 8) dX12_goes_31 bp_8 ?_
    refine g_irem hC dX12_goes_33 (by decide) ?_
    refine g_iadd hC dX12_goes_34 ?_
    obtain ⟨h_6, hf⟩ := gdE hf
    refine g_iald hC (x := x78) (kk_78 hL) (kn_78 hL) (ov_get hN 4 rfl rfl) (inb_in h_6) dX12_goes_35 ?_
    refine g_iconst hC (v := 1) dX12_goes_36 ic_1 ?_
    refine g_iadd hC dX12_goes_37 ?_
    obtain ⟨x78_7, q_8, hf⟩ := bd1E hf
    refine g_callV_v (a := 74) hC (X' := ov X0 [74, 75, 76, 77, 78, 79, 92, 93, 94, 95, 96, 97, 101] [x74_2, x75, x76, x77, x78_7, x79, x92, x93, x94, x95, x96, x97, x101]) (Y' := ov Y0 [99, 100] [y99_3, y100_4]) (As := [.int (r_1 / 8), .int (r_1 - r_1 / 8 * 8), .int ((x78 ((6 * (r_1 / 8)) + (r_1 - r_1 / 8 * 8)).toNatClampNeg) + 1)]) (gMv_eq (c_X12_joins l hL (ov_map hN [4] (by rfl) (by rfl)) (ov_map hM [] (by rfl) (by rfl)) q_8) (ov_ovE hN (by rfl) [4] [0, 1, 2, 3, 5, 6, 7, 8, 9, 10, 11, 12] (by rfl) (by rfl) [x74_2, x75, x76, x77, x79, x92, x93, x94, x95, x96, x97, x101] (by rfl) (by rfl) (by rfl) 13 (by rfl) (by decide)) (ov_ovE hM (by rfl) [] [0, 1] (by rfl) (by rfl) [y99_3, y100_4] (by rfl) (by rfl) (by rfl) 2 (by rfl) (by decide))) tw_1627 tw_1624 tw_127 tw_1626 tw_92 (ci := 12) rfl (by decide) (kk_74 hL) (kn_74 hL) pd_X12_joins (by decide) (by decide) rfl rfl (Nat.le_of_ble_eq_true rfl) rfl dX12_goes_38 ?_
    refine g_aload_n hC 1 dX12_goes_41 rfl rfl ?_
    refine gt_X12_9 hC (a := 74) (kk_74 hL) (kn_74 hL) dX12_goes_42 ?_
    refine g_ref (b := 75) rfl ?_
    refine g_bipush hC (v := 6) dX12_goes_45 bp_6 ?_
    refine g_dup2 hC dX12_goes_47 rfl rfl ?_
    obtain ⟨h_9, hf⟩ := gdE hf
    refine g_iald hC (x := x75) (kk_75 hL) (kn_75 hL) (ov_get hN 1 rfl rfl) (inb_in h_9) dX12_goes_48 ?_
    refine g_iconst hC (v := 1) dX12_goes_49 ic_1 ?_
    refine g_isub hC dX12_goes_50 ?_
    obtain ⟨h_10, hf⟩ := gdE hf
    refine g_iast hC (x := x75) (kk_75 hL) (kn_75 hL) (ov_get hN 1 rfl rfl) (inb_in h_10) (ov_set hN (by rfl) 1 (by rfl)) dX12_goes_51 ?_
    show gV l b0 D K (n, κ, ov X0 [74, 75, 76, 77, 78, 79, 92, 93, 94, 95, 96, 97, 101] [x74_2, (upd x75 (6 : Int32).toNatClampNeg ((x75 (6 : Int32).toNatClampNeg) - 1)), x76, x77, x78_7, x79, x92, x93, x94, x95, x96, x97, x101], ov Y0 [99, 100] [y99_3, y100_4], Z, 0, 0) 52 [(1, .int r_1), (0, .ref (b0 + 74))] []
    exact g_sub [1] rfl (wX12_goes_52 hL hN hM hC  hret  hf)

def fX12_goes   (x79 : Nat → Int32) (x92 : Nat → Int32) (x93 : Nat → Int32) (x94 : Nat → Int32) (x95 : Nat → Int32) (x96 : Nat → Int32) (x97 : Nat → Int32)   (x74 : Nat → Int32) (x75 : Nat → Int32) (x76 : Nat → Int32) (x77 : Nat → Int32) (x78 : Nat → Int32) (x101 : Nat → Int32) (y99 : Nat → Int64) (y100 : Nat → Int64) : Option (Int32 × (Nat → Int32) × (Nat → Int32) × (Nat → Int32) × (Nat → Int32) × (Nat → Int32) × (Nat → Int32) × (Nat → Int64) × (Nat → Int64)) := fX12_goes_0 x79 x92 x93 x94 x95 x96 x97 x74 x75 x76 x77 x78 x101 y99 y100

set_option maxHeartbeats 4000000 in
set_option maxRecDepth 100000 in
theorem c_X12_goes (l : Launch) {b0 : Nat} {D : GD} {n : Nat} {κ : QT} {X0 : XT} {Y0 : YT} {Z : ZT} (hL : LY n κ) {x74 : Nat → Int32} {x75 : Nat → Int32} {x76 : Nat → Int32} {x77 : Nat → Int32} {x78 : Nat → Int32} {x79 : Nat → Int32} {x92 : Nat → Int32} {x93 : Nat → Int32} {x94 : Nat → Int32} {x95 : Nat → Int32} {x96 : Nat → Int32} {x97 : Nat → Int32} {x101 : Nat → Int32} {y99 : Nat → Int64} {y100 : Nat → Int64} (hx : ([74, 75, 76, 77, 78, 79, 92, 93, 94, 95, 96, 97, 101] : List Nat).map X0 = [x74, x75, x76, x77, x78, x79, x92, x93, x94, x95, x96, x97, x101]) (hy : ([99, 100] : List Nat).map Y0 = [y99, y100]) {r : Int32} {rx74 : (Nat → Int32)} {rx75 : (Nat → Int32)} {rx76 : (Nat → Int32)} {rx77 : (Nat → Int32)} {rx78 : (Nat → Int32)} {rx101 : (Nat → Int32)} {ry99 : (Nat → Int64)} {ry100 : (Nat → Int64)} (hf : fX12_goes x79 x92 x93 x94 x95 x96 x97 x74 x75 x76 x77 x78 x101 y99 y100 = some (r, rx74, rx75, rx76, rx77, rx78, rx101, ry99, ry100)) : gMi l yX12_goes cX12_goes 5 (some FieldType.int) 6 142 0 0 b0 D [.ref (b0 + 74)] (n, κ, X0, Y0, Z) (n, κ, ov X0 [74, 75, 76, 77, 78, 79, 92, 93, 94, 95, 96, 97, 101] [rx74, rx75, rx76, rx77, rx78, x79, x92, x93, x94, x95, x96, x97, rx101], ov Y0 [99, 100] [ry99, ry100], Z) r := by
  have hN : ([74, 75, 76, 77, 78, 79, 92, 93, 94, 95, 96, 97, 101] : List Nat).Nodup := by decide
  have hM : ([99, 100] : List Nat).Nodup := by decide
  refine g_meti (own := RX12) (by decide) rfl rfl (Nat.le_of_ble_eq_true rfl) ?_
  intro K hC hret
  have e := wX12_goes_0 hL hN hM hC  hret hf
  rw [ov_id' hx, ov_id' hy] at e
  exact g_sub [0] rfl e


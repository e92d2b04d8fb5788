-- X12_in
def fX12_in_17      : Option (Int32) := some 0
set_option maxHeartbeats 4000000 in
set_option maxRecDepth 100000 in
theorem wX12_in_17 {l : Launch} {b0 : Nat} {D : GD} {K : KT} {n : Nat} {κ : QT} {X0 : XT} {Y0 : YT} {Z : ZT} (hL : LY n κ) (hN : ([] : List Nat).Nodup) (hM : ([] : List Nat).Nodup) (hC : gC l b0 D K RX12 cX12_in (some FieldType.boolean) 6 0 0 0 0) {r : Int32} (hret : ∀ pc loc, narrow .boolean (.int r) = .int r → decode cX12_in pc = .ok (.ireturn, 1) → gV l b0 D K (n, κ, ov X0 [] [], ov Y0 [] [], Z, 0, 0) pc loc [.int r])  (hf : fX12_in_17    = some r) : gV l b0 D K (n, κ, ov X0 [] [], ov Y0 [] [], Z, 0, 0) 17 [] [] := by
  unfold fX12_in_17 at hf
  refine g_iconst hC (v := 0) dX12_in_17 ic_0 ?_
  obtain rfl := sm1E hf
  exact hret _ _ rfl dX12_in_18

def fX12_in_0     (v0 : Int64) (v2 : Int64) (v4 : Int64) : Option (Int32) := if (lg_cmp v0 v2) < 0 then (fX12_in_17   ) else (if 0 < (lg_cmp v0 v4) then (fX12_in_17   ) else (some 1))
set_option maxHeartbeats 4000000 in
set_option maxRecDepth 100000 in
theorem wX12_in_0 {l : Launch} {b0 : Nat} {D : GD} {K : KT} {n : Nat} {κ : QT} {X0 : XT} {Y0 : YT} {Z : ZT} (hL : LY n κ) (hN : ([] : List Nat).Nodup) (hM : ([] : List Nat).Nodup) (hC : gC l b0 D K RX12 cX12_in (some FieldType.boolean) 6 0 0 0 0) {r : Int32} (hret : ∀ pc loc, narrow .boolean (.int r) = .int r → decode cX12_in pc = .ok (.ireturn, 1) → gV l b0 D K (n, κ, ov X0 [] [], ov Y0 [] [], Z, 0, 0) pc loc [.int r]) {v0 : Int64} {v2 : Int64} {v4 : Int64} (hf : fX12_in_0   v0 v2 v4 = some r) : gV l b0 D K (n, κ, ov X0 [] [], ov Y0 [] [], Z, 0, 0) 0 [(0, .long v0), (2, .long v2), (4, .long v4)] [] := by
  unfold fX12_in_0 at hf
  refine g_lload_n hC 0 dX12_in_0 rfl rfl ?_
  refine g_lload_n hC 1 dX12_in_1 rfl rfl ?_
  refine g_lcmp hC dX12_in_2 ?_
  refine g_if_lt hC 17 dX12_in_3 (by decide) (fun hc => ?_) (fun hc => ?_)
  · replace hf := ifT hf hc
    exact g_sub [] rfl (wX12_in_17 hL hN hM hC  hret  hf)
  · replace hf := ifF hf hc
    refine g_lload_n hC 0 dX12_in_6 rfl rfl ?_
    refine g_lload hC 2 dX12_in_7 rfl ?_
    refine g_lcmp hC dX12_in_9 ?_
    refine g_if_gt hC 17 dX12_in_10 (by decide) (fun hc => ?_) (fun hc => ?_)
    · replace hf := ifT hf hc
      exact g_sub [] rfl (wX12_in_17 hL hN hM hC  hret  hf)
    · replace hf := ifF hf hc
      refine g_iconst hC (v := 1) dX12_in_13 ic_1 ?_
      refine g_goto hC 18 dX12_in_14 (by decide) ?_
      obtain rfl := sm1E hf
      exact hret _ _ rfl dX12_in_18

def fX12_in     (v0 : Int64) (v2 : Int64) (v4 : Int64)   : Option (Int32) := fX12_in_0  v0 v2 v4

set_option maxHeartbeats 4000000 in
set_option maxRecDepth 100000 in
theorem c_X12_in (l : Launch) {b0 : Nat} {D : GD} {n : Nat} {κ : QT} {X0 : XT} {Y0 : YT} {Z : ZT} (hL : LY n κ) (hx : ([] : List Nat).map X0 = []) (hy : ([] : List Nat).map Y0 = []) {v0 : Int64} {v2 : Int64} {v4 : Int64} {r : Int32} (hf : fX12_in  v0 v2 v4 = some r) : gMi l yX12_in cX12_in 6 (some FieldType.boolean) 0 0 0 0 b0 D [.long v0, .long v2, .long v4] (n, κ, X0, Y0, Z) (n, κ, ov X0 [] [], ov Y0 [] [], Z) r := by
  have hN : ([] : List Nat).Nodup := by decide
  have hM : ([] : List Nat).Nodup := by decide
  refine g_meti (own := RX12) (by decide) rfl rfl (Nat.le_of_ble_eq_true rfl) ?_
  intro K hC hret
  have e := wX12_in_0 hL hN hM hC  hret hf
  rw [ov_id' hx, ov_id' hy] at e
  exact g_sub [0, 1, 2] rfl e

-- X12_bits
def fX12_bits_4b     (k4 : Int32 → Int32 → Int32 → Option (Int32)) (v0 : Int32) (v1 : Int32) (v2 : Int32) : Option (Int32) := if 16 ≤ v2 then (some v1) else (bn (v1 + ((v0 >>> (v2 &&& 31)) &&& 1)) fun t_1 => (bn (v2 + 1) fun t_2 => (k4 v0 t_1 t_2)))
def fX12_bits_4     : Int32 → Int32 → Int32 → Option (Int32) := lq3 (fX12_bits_4b  ) 5000
set_option maxHeartbeats 4000000 in
set_option maxRecDepth 100000 in
theorem wX12_bits_4 {l : Launch} {b0 : Nat} {D : GD} {K : KT} {n : Nat} {κ : QT} {X0 : XT} {Y0 : YT} {Z : ZT} (hL : LY n κ) (hN : ([] : List Nat).Nodup) (hM : ([] : List Nat).Nodup) (hC : gC l b0 D K RX12 cX12_bits (some FieldType.int) 3 0 0 0 0) {r : Int32} (hret : ∀ pc loc, narrow .int (.int r) = .int r → decode cX12_bits pc = .ok (.ireturn, 1) → gV l b0 D K (n, κ, ov X0 [] [], ov Y0 [] [], Z, 0, 0) pc loc [.int r]) : ∀ (j : Nat) (v0 : Int32) (v1 : Int32) (v2 : Int32), lq3 (fX12_bits_4b  ) j v0 v1 v2 = some r → gV l b0 D K (n, κ, ov X0 [] [], ov Y0 [] [], Z, 0, 0) 4 [(0, .int v0), (1, .int v1), (2, .int v2)] [] := by
  intro j
  induction j with
  | zero => intro v0 v1 v2 hf; cases hf
  | succ j hk4 =>
    intro v0 v1 v2 hf
    replace hf : fX12_bits_4b   (lq3 (fX12_bits_4b  ) j) v0 v1 v2 = some r := hf
    unfold fX12_bits_4b at hf
    refine g_iload_n hC 2 dX12_bits_4 rfl rfl ?_
    refine g_bipush hC (v := 16) dX12_bits_5 bp_16 ?_
    refine g_icmp_ge hC 24 dX12_bits_7 (by decide) (fun hc => ?_) (fun hc => ?_)
    · replace hf := ifT hf hc
      refine g_iload_n hC 1 dX12_bits_24 rfl rfl ?_
      obtain rfl := sm1E hf
      exact hret _ _ rfl dX12_bits_25
    · replace hf := ifF hf hc
      refine g_iload_n hC 1 dX12_bits_10 rfl rfl ?_
      refine g_iload_n hC 0 dX12_bits_11 rfl rfl ?_
      refine g_iload_n hC 2 dX12_bits_12 rfl rfl ?_
      refine g_ishr hC dX12_bits_13 ?_
      refine g_iconst hC (v := 1) dX12_bits_14 ic_1 ?_
      refine g_iand hC dX12_bits_15 ?_
      refine g_iadd hC dX12_bits_16 ?_
      obtain ⟨t_1, et_1, hf⟩ := bnE hf
      refine g_topi et_1 ?_
      refine g_istore_n hC (i := 1) [(1, .int t_1), (0, .int v0), (2, .int v2)] rfl dX12_bits_17 (by decide) rfl ?_
      obtain ⟨t_2, et_2, hf⟩ := bnE hf
      refine g_iinc hC (i := 2) (v := t_2) [(2, .int t_2), (1, .int t_1), (0, .int v0)] dX12_bits_18 (q := 2) rfl ((congrArg (HAdd.hAdd v2) ic_1).trans et_2.symm) (by decide) rfl ?_
      refine g_goto hC 4 dX12_bits_21 (by decide) ?_
      exact g_sub [2, 1, 0] rfl (hk4 v0 t_1 t_2 hf)

def fX12_bits_0     (v0 : Int32) : Option (Int32) := fX12_bits_4   v0 0 0
set_option maxHeartbeats 4000000 in
set_option maxRecDepth 100000 in
theorem wX12_bits_0 {l : Launch} {b0 : Nat} {D : GD} {K : KT} {n : Nat} {κ : QT} {X0 : XT} {Y0 : YT} {Z : ZT} (hL : LY n κ) (hN : ([] : List Nat).Nodup) (hM : ([] : List Nat).Nodup) (hC : gC l b0 D K RX12 cX12_bits (some FieldType.int) 3 0 0 0 0) {r : Int32} (hret : ∀ pc loc, narrow .int (.int r) = .int r → decode cX12_bits pc = .ok (.ireturn, 1) → gV l b0 D K (n, κ, ov X0 [] [], ov Y0 [] [], Z, 0, 0) pc loc [.int r]) {v0 : Int32} (hf : fX12_bits_0   v0 = some r) : gV l b0 D K (n, κ, ov X0 [] [], ov Y0 [] [], Z, 0, 0) 0 [(0, .int v0)] [] := by
  unfold fX12_bits_0 at hf
  refine g_iconst hC (v := 0) dX12_bits_0 ic_0 ?_
  refine g_istore_n hC (i := 1) [(1, .int 0), (0, .int v0)] rfl dX12_bits_1 (by decide) rfl ?_
  refine g_iconst hC (v := 0) dX12_bits_2 ic_0 ?_
  refine g_istore_n hC (i := 2) [(2, .int 0), (1, .int 0), (0, .int v0)] rfl dX12_bits_3 (by decide) rfl ?_
  exact g_sub [2, 1, 0] rfl (wX12_bits_4 hL hN hM hC  hret  5000 v0 0 0 hf)

def fX12_bits     (v0 : Int32)   : Option (Int32) := fX12_bits_0  v0

set_option maxHeartbeats 4000000 in
set_option maxRecDepth 100000 in
theorem c_X12_bits (l : Launch) {b0 : Nat} {D : GD} {n : Nat} {κ : QT} {X0 : XT} {Y0 : YT} {Z : ZT} (hL : LY n κ) (hx : ([] : List Nat).map X0 = []) (hy : ([] : List Nat).map Y0 = []) {v0 : Int32} {r : Int32} (hf : fX12_bits  v0 = some r) : gMi l yX12_bits cX12_bits 3 (some FieldType.int) 0 0 0 0 b0 D [.int v0] (n, κ, X0, Y0, Z) (n, κ, ov X0 [] [], ov Y0 [] [], Z) r := by
  have hN : ([] : List Nat).Nodup := by decide
  have hM : ([] : List Nat).Nodup := by decide
  refine g_meti (own := RX12) (by decide) rfl rfl (Nat.le_of_ble_eq_true rfl) ?_
  intro K hC hret
  have e := wX12_bits_0 hL hN hM hC  hret hf
  rw [ov_id' hx, ov_id' hy] at e
  exact g_sub [0] rfl e

-- X12_has
def fX12_has_0     (v0 : Int32) (v1 : Int32) : Option (Int32) := if ((v0 >>> (v1 &&& 31)) &&& 1) = 1 then (some 1) else (some 0)
set_option maxHeartbeats 4000000 in
set_option maxRecDepth 100000 in
theorem wX12_has_0 {l : Launch} {b0 : Nat} {D : GD} {K : KT} {n : Nat} {κ : QT} {X0 : XT} {Y0 : YT} {Z : ZT} (hL : LY n κ) (hN : ([] : List Nat).Nodup) (hM : ([] : List Nat).Nodup) (hC : gC l b0 D K RX12 cX12_has (some FieldType.boolean) 2 0 0 0 0) {r : Int32} (hret : ∀ pc loc, narrow .boolean (.int r) = .int r → decode cX12_has pc = .ok (.ireturn, 1) → gV l b0 D K (n, κ, ov X0 [] [], ov Y0 [] [], Z, 0, 0) pc loc [.int r]) {v0 : Int32} {v1 : Int32} (hf : fX12_has_0   v0 v1 = some r) : gV l b0 D K (n, κ, ov X0 [] [], ov Y0 [] [], Z, 0, 0) 0 [(0, .int v0), (1, .int v1)] [] := by
  unfold fX12_has_0 at hf
  refine g_iload_n hC 0 dX12_has_0 rfl rfl ?_
  refine g_iload_n hC 1 dX12_has_1 rfl rfl ?_
  refine g_ishr hC dX12_has_2 ?_
  refine g_iconst hC (v := 1) dX12_has_3 ic_1 ?_
  refine g_iand hC dX12_has_4 ?_
  refine g_iconst hC (v := 1) dX12_has_5 ic_1 ?_
  refine g_icmp_ne hC 13 dX12_has_6 (by decide) (fun hc => ?_) (fun hc => ?_)
  · replace hf := ifF hf hc
    refine g_iconst hC (v := 0) dX12_has_13 ic_0 ?_
    obtain rfl := sm1E hf
    exact hret _ _ rfl dX12_has_14
  · replace hf := ifT hf hc
    refine g_iconst hC (v := 1) dX12_has_9 ic_1 ?_
    refine g_goto hC 14 dX12_has_10 (by decide) ?_
    obtain rfl := sm1E hf
    exact hret _ _ rfl dX12_has_14

def fX12_has     (v0 : Int32) (v1 : Int32)   : Option (Int32) := fX12_has_0  v0 v1

set_option maxHeartbeats 4000000 in
set_option maxRecDepth 100000 in
theorem c_X12_has (l : Launch) {b0 : Nat} {D : GD} {n : Nat} {κ : QT} {X0 : XT} {Y0 : YT} {Z : ZT} (hL : LY n κ) (hx : ([] : List Nat).map X0 = []) (hy : ([] : List Nat).map Y0 = []) {v0 : Int32} {v1 : Int32} {r : Int32} (hf : fX12_has  v0 v1 = some r) : gMi l yX12_has cX12_has 2 (some FieldType.boolean) 0 0 0 0 b0 D [.int v0, .int v1] (n, κ, X0, Y0, Z) (n, κ, ov X0 [] [], ov Y0 [] [], Z) r := by
  have hN : ([] : List Nat).Nodup := by decide
  have hM : ([] : List Nat).Nodup := by decide
  refine g_meti (own := RX12) (by decide) rfl rfl (Nat.le_of_ble_eq_true rfl) ?_
  intro K hC hret
  have e := wX12_has_0 hL hN hM hC  hret hf
  rw [ov_id' hx, ov_id' hy] at e
  exact g_sub [0, 1] rfl e

-- X12_isTown
def fX12_isTown_0   (x75 : Nat → Int32)   : Option (Int32) := gd (inb 0 11) (if (x75 (0 : Int32).toNatClampNeg) ≤ 0 then (some 0) else (some 1))
set_option maxHeartbeats 4000000 in
set_option maxRecDepth 100000 in
theorem wX12_isTown_0 {l : Launch} {b0 : Nat} {D : GD} {K : KT} {n : Nat} {κ : QT} {X0 : XT} {Y0 : YT} {Z : ZT} (hL : LY n κ) (hN : ([75] : List Nat).Nodup) (hM : ([] : List Nat).Nodup) (hC : gC l b0 D K RX12 cX12_isTown (some FieldType.boolean) 1 0 0 0 0) {x75 : Nat → Int32} {r : Int32} (hret : ∀ pc loc, narrow .boolean (.int r) = .int r → decode cX12_isTown pc = .ok (.ireturn, 1) → gV l b0 D K (n, κ, ov X0 [75] [x75], ov Y0 [] [], Z, 0, 0) pc loc [.int r])  (hf : fX12_isTown_0 x75   = some r) : gV l b0 D K (n, κ, ov X0 [75] [x75], ov Y0 [] [], Z, 0, 0) 0 [(0, .ref (b0 + 74))] [] := by
  unfold fX12_isTown_0 at hf
  refine g_aload_n hC 0 dX12_isTown_0 rfl rfl ?_
  refine gt_X12_9 hC (a := 74) (kk_74 hL) (kn_74 hL) dX12_isTown_1 ?_
  refine g_ref (b := 75) rfl ?_
  refine g_iconst hC (v := 0) dX12_isTown_4 ic_0 ?_
  obtain ⟨h_1, hf⟩ := gdE hf
  refine g_iald hC (x := x75) (kk_75 hL) (kn_75 hL) (ov_get hN 0 rfl rfl) (inb_in h_1) dX12_isTown_5 ?_
  refine g_if_le hC 13 dX12_isTown_6 (by decide) (fun hc => ?_) (fun hc => ?_)
  · replace hf := ifT hf hc
    refine g_iconst hC (v := 0) dX12_isTown_13 ic_0 ?_
    obtain rfl := sm1E hf
    exact hret _ _ rfl dX12_isTown_14
  · replace hf := ifF hf hc
    refine g_iconst hC (v := 1) dX12_isTown_9 ic_1 ?_
    refine g_goto hC 14 dX12_isTown_10 (by decide) ?_
    obtain rfl := sm1E hf
    exact hret _ _ rfl dX12_isTown_14

def fX12_isTown   (x75 : Nat → Int32)     : Option (Int32) := fX12_isTown_0 x75 

set_option maxHeartbeats 4000000 in
set_option maxRecDepth 100000 in
theorem c_X12_isTown (l : Launch) {b0 : Nat} {D : GD} {n : Nat} {κ : QT} {X0 : XT} {Y0 : YT} {Z : ZT} (hL : LY n κ) {x75 : Nat → Int32} (hx : ([75] : List Nat).map X0 = [x75]) (hy : ([] : List Nat).map Y0 = []) {r : Int32} (hf : fX12_isTown x75  = some r) : gMi l yX12_isTown cX12_isTown 1 (some FieldType.boolean) 0 0 0 0 b0 D [.ref (b0 + 74)] (n, κ, X0, Y0, Z) (n, κ, ov X0 [75] [x75], ov Y0 [] [], Z) r := by
  have hN : ([75] : List Nat).Nodup := by decide
  have hM : ([] : List Nat).Nodup := by decide
  refine g_meti (own := RX12) (by decide) rfl rfl (Nat.le_of_ble_eq_true rfl) ?_
  intro K hC hret
  have e := wX12_isTown_0 hL hN hM hC  hret hf
  rw [ov_id' hx, ov_id' hy] at e
  exact g_sub [0] rfl e

-- X12_isHouse
def fX12_isHouse_0   (x75 : Nat → Int32)  (v1 : Int32) : Option (Int32) := gd (inb 4 11) (bd1 (fX12_in v1.toInt64 0 (((x75 (4 : Int32).toNatClampNeg) - 1).toInt64)) fun r_2 => (gd (bz r_2) (some r_2)))
set_option maxHeartbeats 4000000 in
set_option maxRecDepth 100000 in
theorem wX12_isHouse_0 {l : Launch} {b0 : Nat} {D : GD} {K : KT} {n : Nat} {κ : QT} {X0 : XT} {Y0 : YT} {Z : ZT} (hL : LY n κ) (hN : ([75] : List Nat).Nodup) (hM : ([] : List Nat).Nodup) (hC : gC l b0 D K RX12 cX12_isHouse (some FieldType.boolean) 2 1 25 0 0) {x75 : Nat → Int32} {r : Int32} (hret : ∀ pc loc, narrow .boolean (.int r) = .int r → decode cX12_isHouse pc = .ok (.ireturn, 1) → gV l b0 D K (n, κ, ov X0 [75] [x75], ov Y0 [] [], Z, 0, 0) pc loc [.int r]) {v1 : Int32} (hf : fX12_isHouse_0 x75  v1 = some r) : gV l b0 D K (n, κ, ov X0 [75] [x75], ov Y0 [] [], Z, 0, 0) 0 [(0, .ref (b0 + 74)), (1, .int v1)] [] := by
  unfold fX12_isHouse_0 at hf
  refine g_iload_n hC 1 dX12_isHouse_0 rfl rfl ?_
  refine g_i2l hC dX12_isHouse_1 ?_
  refine g_lconst hC (v := 0) dX12_isHouse_2 rfl ?_
  refine g_aload_n hC 0 dX12_isHouse_3 rfl rfl ?_
  refine gt_X12_9 hC (a := 74) (kk_74 hL) (kn_74 hL) dX12_isHouse_4 ?_
  refine g_ref (b := 75) rfl ?_
  refine g_iconst hC (v := 4) dX12_isHouse_7 ic_4 ?_
  obtain ⟨h_1, hf⟩ := gdE hf
  refine g_iald hC (x := x75) (kk_75 hL) (kn_75 hL) (ov_get hN 0 rfl rfl) (inb_in h_1) dX12_isHouse_8 ?_
  refine g_iconst hC (v := 1) dX12_isHouse_9 ic_1 ?_
  refine g_isub hC dX12_isHouse_10 ?_
  refine g_i2l hC dX12_isHouse_11 ?_
  obtain ⟨r_2, q_3, hf⟩ := bd1E hf
  refine g_callS_i hC (X' := ov X0 [75] [x75]) (Y' := ov Y0 [] []) (As := [.long v1.toInt64, .long 0, .long (((x75 (4 : Int32).toNatClampNeg) - 1).toInt64)]) (gMi_eq (c_X12_in l hL (ov_map hN [] (by rfl) (by rfl)) (ov_map hM [] (by rfl) (by rfl)) q_3) (ov_ovE hN (by rfl) [] [0] (by rfl) (by rfl) [x75] (by rfl) (by rfl) (by rfl) 1 (by rfl) (by decide)) (ov_ovE hM (by rfl) [] [] (by rfl) (by rfl) [] (by rfl) (by rfl) (by rfl) 0 (by rfl) (by decide))) tw_1428 tw_1426 tw_127 tw_1427 pd_X12_in (by decide) (by decide) rfl rfl (Nat.le_of_ble_eq_true rfl) rfl dX12_isHouse_12 ?_
  obtain ⟨h_4, hf⟩ := gdE hf
  obtain rfl := sm1E hf
  exact hret _ _ (bz_nar h_4) dX12_isHouse_15

def fX12_isHouse   (x75 : Nat → Int32)  (v1 : Int32)   : Option (Int32) := fX12_isHouse_0 x75 v1

set_option maxHeartbeats 4000000 in
set_option maxRecDepth 100000 in
theorem c_X12_isHouse (l : Launch) {b0 : Nat} {D : GD} {n : Nat} {κ : QT} {X0 : XT} {Y0 : YT} {Z : ZT} (hL : LY n κ) {x75 : Nat → Int32} (hx : ([75] : List Nat).map X0 = [x75]) (hy : ([] : List Nat).map Y0 = []) {v1 : Int32} {r : Int32} (hf : fX12_isHouse x75 v1 = some r) : gMi l yX12_isHouse cX12_isHouse 2 (some FieldType.boolean) 1 25 0 0 b0 D [.ref (b0 + 74), .int v1] (n, κ, X0, Y0, Z) (n, κ, ov X0 [75] [x75], ov Y0 [] [], Z) r := by
  have hN : ([75] : List Nat).Nodup := by decide
  have hM : ([] : List Nat).Nodup := by decide
  refine g_meti (own := RX12) (by decide) rfl rfl (Nat.le_of_ble_eq_true rfl) ?_
  intro K hC hret
  have e := wX12_isHouse_0 hL hN hM hC  hret hf
  rw [ov_id' hx, ov_id' hy] at e
  exact g_sub [0, 1] rfl e

-- X12_areTwo
def fX12_areTwo_25   (x75 : Nat → Int32)   : Option (Int32) := some 0
set_option maxHeartbeats 4000000 in
set_option maxRecDepth 100000 in
theorem wX12_areTwo_25 {l : Launch} {b0 : Nat} {D : GD} {K : KT} {n : Nat} {κ : QT} {X0 : XT} {Y0 : YT} {Z : ZT} (hL : LY n κ) (hN : ([75] : List Nat).Nodup) (hM : ([] : List Nat).Nodup) (hC : gC l b0 D K RX12 cX12_areTwo (some FieldType.boolean) 3 2 46 0 0) {x75 : Nat → Int32} {r : Int32} (hret : ∀ pc loc, narrow .boolean (.int r) = .int r → decode cX12_areTwo pc = .ok (.ireturn, 1) → gV l b0 D K (n, κ, ov X0 [75] [x75], ov Y0 [] [], Z, 0, 0) pc loc [.int r])  (hf : fX12_areTwo_25 x75   = some r) : gV l b0 D K (n, κ, ov X0 [75] [x75], ov Y0 [] [], Z, 0, 0) 25 [] [] := by
  unfold fX12_areTwo_25 at hf
  refine g_iconst hC (v := 0) dX12_areTwo_25 ic_0 ?_
  obtain rfl := sm1E hf
  exact hret _ _ rfl dX12_areTwo_26

def fX12_areTwo_0   (x75 : Nat → Int32)  (v1 : Int32) (v2 : Int32) : Option (Int32) := bd1 (fX12_isHouse x75 v1) fun r_1 => (if r_1 = 0 then (fX12_areTwo_25 x75  ) else (bd1 (fX12_isHouse x75 v2) fun r_3 => (if r_3 = 0 then (fX12_areTwo_25 x75  ) else (if v1 = v2 then (fX12_areTwo_25 x75  ) else (some 1)))))
set_option maxHeartbeats 4000000 in
set_option maxRecDepth 100000 in
theorem wX12_areTwo_0 {l : Launch} {b0 : Nat} {D : GD} {K : KT} {n : Nat} {κ : QT} {X0 : XT} {Y0 : YT} {Z : ZT} (hL : LY n κ) (hN : ([75] : List Nat).Nodup) (hM : ([] : List Nat).Nodup) (hC : gC l b0 D K RX12 cX12_areTwo (some FieldType.boolean) 3 2 46 0 0) {x75 : Nat → Int32} {r : Int32} (hret : ∀ pc loc, narrow .boolean (.int r) = .int r → decode cX12_areTwo pc = .ok (.ireturn, 1) → gV l b0 D K (n, κ, ov X0 [75] [x75], ov Y0 [] [], Z, 0, 0) pc loc [.int r]) {v1 : Int32} {v2 : Int32} (hf : fX12_areTwo_0 x75  v1 v2 = some r) : gV l b0 D K (n, κ, ov X0 [75] [x75], ov Y0 [] [], Z, 0, 0) 0 [(0, .ref (b0 + 74)), (1, .int v1), (2, .int v2)] [] := by
  unfold fX12_areTwo_0 at hf
  refine g_aload_n hC 0 dX12_areTwo_0 rfl rfl ?_
  refine g_iload_n hC 1 dX12_areTwo_1 rfl rfl ?_
  obtain ⟨r_1, q_2, hf⟩ := bd1E hf
  refine g_callV_i (a := 74) hC (X' := ov X0 [75] [x75]) (Y' := ov Y0 [] []) (As := [.int v1]) (gMi_eq (c_X12_isHouse l hL (ov_map hN [0] (by rfl) (by rfl)) (ov_map hM [] (by rfl) (by rfl)) q_2) (ov_ovE hN (by rfl) [0] [] (by rfl) (by rfl) [] (by rfl) (by rfl) (by rfl) 1 (by rfl) (by decide)) (ov_ovE hM (by rfl) [] [] (by rfl) (by rfl) [] (by rfl) (by rfl) (by rfl) 0 (by rfl) (by decide))) tw_1530 tw_1527 tw_127 tw_1529 tw_74 (ci := 12) rfl (by decide) (kk_74 hL) (kn_74 hL) pd_X12_isHouse (by decide) (by decide) rfl rfl (Nat.le_of_ble_eq_true rfl) rfl dX12_areTwo_2 ?_
  refine g_if_eq hC 25 dX12_areTwo_5 (by decide) (fun hc => ?_) (fun hc => ?_)
  · replace hf := ifT hf hc
    exact g_sub [] rfl (wX12_areTwo_25 hL hN hM hC  hret  hf)
  · replace hf := ifF hf hc
    refine g_aload_n hC 0 dX12_areTwo_8 rfl rfl ?_
    refine g_iload_n hC 2 dX12_areTwo_9 rfl rfl ?_
    obtain ⟨r_3, q_4, hf⟩ := bd1E hf
    refine g_callV_i (a := 74) hC (X' := ov X0 [75] [x75]) (Y' := ov Y0 [] []) (As := [.int v2]) (gMi_eq (c_X12_isHouse l hL (ov_map hN [0] (by rfl) (by rfl)) (ov_map hM [] (by rfl) (by rfl)) q_4) (ov_ovE hN (by rfl) [0] [] (by rfl) (by rfl) [] (by rfl) (by rfl) (by rfl) 1 (by rfl) (by decide)) (ov_ovE hM (by rfl) [] [] (by rfl) (by rfl) [] (by rfl) (by rfl) (by rfl) 0 (by rfl) (by decide))) tw_1530 tw_1527 tw_127 tw_1529 tw_74 (ci := 12) rfl (by decide) (kk_74 hL) (kn_74 hL) pd_X12_isHouse (by decide) (by decide) rfl rfl (Nat.le_of_ble_eq_true rfl) rfl dX12_areTwo_10 ?_
    refine g_if_eq hC 25 dX12_areTwo_13 (by decide) (fun hc => ?_) (fun hc => ?_)
    · replace hf := ifT hf hc
      exact g_sub [] rfl (wX12_areTwo_25 hL hN hM hC  hret  hf)
    · replace hf := ifF hf hc
      refine g_iload_n hC 1 dX12_areTwo_16 rfl rfl ?_
      refine g_iload_n hC 2 dX12_areTwo_17 rfl rfl ?_
      refine g_icmp_eq hC 25 dX12_areTwo_18 (by decide) (fun hc => ?_) (fun hc => ?_)
      · replace hf := ifT hf hc
        exact g_sub [] rfl (wX12_areTwo_25 hL hN hM hC  hret  hf)
      · replace hf := ifF hf hc
        refine g_iconst hC (v := 1) dX12_areTwo_21 ic_1 ?_
        refine g_goto hC 26 dX12_areTwo_22 (by decide) ?_
        obtain rfl := sm1E hf
        exact hret _ _ rfl dX12_areTwo_26

def fX12_areTwo   (x75 : Nat → Int32)  (v1 : Int32) (v2 : Int32)   : Option (Int32) := fX12_areTwo_0 x75 v1 v2

set_option maxHeartbeats 4000000 in
set_option maxRecDepth 100000 in
theorem c_X12_areTwo (l : Launch) {b0 : Nat} {D : GD} {n : Nat} {κ : QT} {X0 : XT} {Y0 : YT} {Z : ZT} (hL : LY n κ) {x75 : Nat → Int32} (hx : ([75] : List Nat).map X0 = [x75]) (hy : ([] : List Nat).map Y0 = []) {v1 : Int32} {v2 : Int32} {r : Int32} (hf : fX12_areTwo x75 v1 v2 = some r) : gMi l yX12_areTwo cX12_areTwo 3 (some FieldType.boolean) 2 46 0 0 b0 D [.ref (b0 + 74), .int v1, .int v2] (n, κ, X0, Y0, Z) (n, κ, ov X0 [75] [x75], ov Y0 [] [], Z) r := by
  have hN : ([75] : List Nat).Nodup := by decide
  have hM : ([] : List Nat).Nodup := by decide
  refine g_meti (own := RX12) (by decide) rfl rfl (Nat.le_of_ble_eq_true rfl) ?_
  intro K hC hret
  have e := wX12_areTwo_0 hL hN hM hC  hret hf
  rw [ov_id' hx, ov_id' hy] at e
  exact g_sub [0, 1, 2] rfl e

-- X12_put
def fX12_put_3b     (k3 : Int32 → Int32 → (Nat → Int32) → (Nat → Int32) → Option ((Nat → Int32) × (Nat → Int32))) (v1 : Int32) (v2 : Int32) (x74 : (Nat → Int32)) (x91 : (Nat → Int32)) : Option ((Nat → Int32) × (Nat → Int32)) := if v2 < 0 then (some (x74, x91)) else (gd (inb (x74 17) 400) (bn (v2 + (-8)) fun t_2 => (k3 v1 t_2 (upd x74 17 ((x74 17) + 1)) (upd x91 (x74 17).toNatClampNeg (vp_nar .byte ((v1 >>> (v2 &&& 31)).toInt8.toInt32))))))
def fX12_put_3     : Int32 → Int32 → (Nat → Int32) → (Nat → Int32) → Option ((Nat → Int32) × (Nat → Int32)) := lq4 (fX12_put_3b  ) 5000
set_option maxHeartbeats 4000000 in
set_option maxRecDepth 100000 in
theorem wX12_put_3 {l : Launch} {b0 : Nat} {D : GD} {K : KT} {n : Nat} {κ : QT} {X0 : XT} {Y0 : YT} {Z : ZT} (hL : LY n κ) (hN : ([74, 91] : List Nat).Nodup) (hM : ([] : List Nat).Nodup) (hC : gC l b0 D K RX12 cX12_put none 3 0 0 0 0) {rx74 : (Nat → Int32)} {rx91 : (Nat → Int32)} (hret : ∀ pc loc, decode cX12_put pc = .ok (.return_, 1) → gV l b0 D K (n, κ, ov X0 [74, 91] [rx74, rx91], ov Y0 [] [], Z, 0, 0) pc loc []) : ∀ (j : Nat) (v1 : Int32) (v2 : Int32) (x74 : (Nat → Int32)) (x91 : (Nat → Int32)), lq4 (fX12_put_3b  ) j v1 v2 x74 x91 = some (rx74, rx91) → gV l b0 D K (n, κ, ov X0 [74, 91] [x74, x91], ov Y0 [] [], Z, 0, 0) 3 [(0, .ref (b0 + 74)), (1, .int v1), (2, .int v2)] [] := by
  intro j
  induction j with
  | zero => intro v1 v2 x74 x91 hf; cases hf
  | succ j hk3 =>
    intro v1 v2 x74 x91 hf
    replace hf : fX12_put_3b   (lq4 (fX12_put_3b  ) j) v1 v2 x74 x91 = some (rx74, rx91) := hf
    unfold fX12_put_3b at hf
    refine g_iload_n hC 2 dX12_put_3 rfl rfl ?_
    refine g_if_lt hC 36 dX12_put_4 (by decide) (fun hc => ?_) (fun hc => ?_)
    · replace hf := ifT hf hc
      obtain ⟨rfl, rfl⟩ := sm2E hf
      exact hret _ _ dX12_put_36
    · replace hf := ifF hf hc
      refine g_aload_n hC 0 dX12_put_7 rfl rfl ?_
      refine gt_X12_62 hC (a := 74) (kk_74 hL) (kn_74 hL) dX12_put_8 ?_
      refine g_ref (b := 91) rfl ?_
      refine g_aload_n hC 0 dX12_put_11 rfl rfl ?_
      refine gt_X12_151 hC (x := x74) (kk_74 hL) (kn_74 hL) (ov_get hN 0 rfl rfl) dX12_put_12 ?_
      refine g_iload_n hC 1 dX12_put_15 rfl rfl ?_
      refine g_iload_n hC 2 dX12_put_16 rfl rfl ?_
      refine g_ishr hC dX12_put_17 ?_
      refine g_i2b hC dX12_put_18 ?_
      obtain ⟨h_1, hf⟩ := gdE hf
      refine g_bast hC (x := x91) (kk_91 hL) (kn_91 hL) (ov_get hN 1 rfl rfl) (inb_in h_1) (ov_set hN (by rfl) 1 (by rfl)) dX12_put_19 ?_
      show gV l b0 D K (n, κ, ov X0 [74, 91] [x74, (upd x91 (x74 17).toNatClampNeg (vp_nar .byte ((v1 >>> (v2 &&& 31)).toInt8.toInt32)))], ov Y0 [] [], Z, 0, 0) 20 [(0, .ref (b0 + 74)), (1, .int v1), (2, .int v2)] []
      refine g_aload_n hC 0 dX12_put_20 rfl rfl ?_
      refine g_dup hC dX12_put_21 rfl ?_
      refine gt_X12_151 hC (x := x74) (kk_74 hL) (kn_74 hL) (ov_get hN 0 rfl rfl) dX12_put_22 ?_
      refine g_iconst hC (v := 1) dX12_put_25 ic_1 ?_
      refine g_iadd hC dX12_put_26 ?_
      refine pt_X12_151 hC (x := x74) (kk_74 hL) (kn_74 hL) (ov_get hN 0 rfl rfl) (ov_set hN (by rfl) 0 (by rfl)) dX12_put_27 ?_
      show gV l b0 D K (n, κ, ov X0 [74, 91] [(upd x74 17 ((x74 17) + 1)), (upd x91 (x74 17).toNatClampNeg (vp_nar .byte ((v1 >>> (v2 &&& 31)).toInt8.toInt32)))], ov Y0 [] [], Z, 0, 0) 30 [(0, .ref (b0 + 74)), (1, .int v1), (2, .int v2)] []
      obtain ⟨t_2, et_2, hf⟩ := bnE hf
      refine g_iinc hC (i := 2) (v := t_2) [(2, .int t_2), (0, .ref (b0 + 74)), (1, .int v1)] dX12_put_30 (q := 2) rfl ((congrArg (HAdd.hAdd v2) ic_m8).trans et_2.symm) (by decide) rfl ?_
      refine g_goto hC 3 dX12_put_33 (by decide) ?_
      exact g_sub [1, 2, 0] rfl (hk3 v1 t_2 (upd x74 17 ((x74 17) + 1)) (upd x91 (x74 17).toNatClampNeg (vp_nar .byte ((v1 >>> (v2 &&& 31)).toInt8.toInt32))) hf)

def fX12_put_0     (v1 : Int32) (x74 : (Nat → Int32)) (x91 : (Nat → Int32)) : Option ((Nat → Int32) × (Nat → Int32)) := fX12_put_3   v1 24 x74 x91
set_option maxHeartbeats 4000000 in
set_option maxRecDepth 100000 in
theorem wX12_put_0 {l : Launch} {b0 : Nat} {D : GD} {K : KT} {n : Nat} {κ : QT} {X0 : XT} {Y0 : YT} {Z : ZT} (hL : LY n κ) (hN : ([74, 91] : List Nat).Nodup) (hM : ([] : List Nat).Nodup) (hC : gC l b0 D K RX12 cX12_put none 3 0 0 0 0) {rx74 : (Nat → Int32)} {rx91 : (Nat → Int32)} (hret : ∀ pc loc, decode cX12_put pc = .ok (.return_, 1) → gV l b0 D K (n, κ, ov X0 [74, 91] [rx74, rx91], ov Y0 [] [], Z, 0, 0) pc loc []) {v1 : Int32} {x74 : (Nat → Int32)} {x91 : (Nat → Int32)} (hf : fX12_put_0   v1 x74 x91 = some (rx74, rx91)) : gV l b0 D K (n, κ, ov X0 [74, 91] [x74, x91], ov Y0 [] [], Z, 0, 0) 0 [(0, .ref (b0 + 74)), (1, .int v1)] [] := by
  unfold fX12_put_0 at hf
  refine g_bipush hC (v := 24) dX12_put_0 bp_24 ?_
  refine g_istore_n hC (i := 2) [(2, .int 24), (0, .ref (b0 + 74)), (1, .int v1)] rfl dX12_put_2 (by decide) rfl ?_
  exact g_sub [1, 2, 0] rfl (wX12_put_3 hL hN hM hC  hret  5000 v1 24 x74 x91 hf)

def fX12_put     (v1 : Int32) (x74 : Nat → Int32) (x91 : Nat → Int32)  : Option ((Nat → Int32) × (Nat → Int32)) := fX12_put_0  v1 x74 x91

set_option maxHeartbeats 4000000 in
set_option maxRecDepth 100000 in
theorem c_X12_put (l : Launch) {b0 : Nat} {D : GD} {n : Nat} {κ : QT} {X0 : XT} {Y0 : YT} {Z : ZT} (hL : LY n κ) {x74 : Nat → Int32} {x91 : Nat → Int32} (hx : ([74, 91] : List Nat).map X0 = [x74, x91]) (hy : ([] : List Nat).map Y0 = []) {v1 : Int32} {rx74 : (Nat → Int32)} {rx91 : (Nat → Int32)} (hf : fX12_put  v1 x74 x91 = some (rx74, rx91)) : gMv l yX12_put cX12_put 3 none 0 0 0 0 b0 D [.ref (b0 + 74), .int v1] (n, κ, X0, Y0, Z) (n, κ, ov X0 [74, 91] [rx74, rx91], ov Y0 [] [], Z) := by
  have hN : ([74, 91] : List Nat).Nodup := by decide
  have hM : ([] : List Nat).Nodup := by decide
  refine g_metv (own := RX12) (by decide) rfl rfl (Nat.le_of_ble_eq_true rfl) ?_
  intro K hC hret
  have e := wX12_put_0 hL hN hM hC  hret hf
  rw [ov_id' hx, ov_id' hy] at e
  exact g_sub [0, 1] rfl e

-- X12_feed
def fX12_feed_0     (v1 : Int32) (v2 : Int32) (v3 : Int32) (v4 : Int32) (v5 : Int32) (x74 : (Nat → Int32)) (x91 : (Nat → Int32)) : Option (Int32 × (Nat → Int32) × (Nat → Int32)) := if ((x74 17) + 20) ≤ 400 then (bd2 (fX12_put v1 x74 x91) fun x74_1 x91_2 => (bd2 (fX12_put v2 x74_1 x91_2) fun x74_4 x91_5 => (bd2 (fX12_put v3 x74_4 x91_5) fun x74_7 x91_8 => (bd2 (fX12_put v4 x74_7 x91_8) fun x74_10 x91_11 => (bd2 (fX12_put v5 x74_10 x91_11) fun x74_13 x91_14 => (some (x74_13 17, x74_13, x91_14))))))) else (some ((-1), x74, x91))
set_option maxHeartbeats 4000000 in
set_option maxRecDepth 100000 in
theorem wX12_feed_0 {l : Launch} {b0 : Nat} {D : GD} {K : KT} {n : Nat} {κ : QT} {X0 : XT} {Y0 : YT} {Z : ZT} (hL : LY n κ) (hN : ([74, 91] : List Nat).Nodup) (hM : ([] : List Nat).Nodup) (hC : gC l b0 D K RX12 cX12_feed (some FieldType.int) 6 1 22 0 0) {r : Int32} {rx74 : (Nat → Int32)} {rx91 : (Nat → Int32)} (hret : ∀ pc loc, narrow .int (.int r) = .int r → decode cX12_feed pc = .ok (.ireturn, 1) → gV l b0 D K (n, κ, ov X0 [74, 91] [rx74, rx91], ov Y0 [] [], Z, 0, 0) pc loc [.int r]) {v1 : Int32} {v2 : Int32} {v3 : Int32} {v4 : Int32} {v5 : Int32} {x74 : (Nat → Int32)} {x91 : (Nat → Int32)} (hf : fX12_feed_0   v1 v2 v3 v4 v5 x74 x91 = some (r, rx74, rx91)) : gV l b0 D K (n, κ, ov X0 [74, 91] [x74, x91], ov Y0 [] [], Z, 0, 0) 0 [(0, .ref (b0 + 74)), (1, .int v1), (2, .int v2), (3, .int v3), (4, .int v4), (5, .int v5)] [] := by
  unfold fX12_feed_0 at hf
  refine g_aload_n hC 0 dX12_feed_0 rfl rfl ?_
  refine gt_X12_151 hC (x := x74) (kk_74 hL) (kn_74 hL) (ov_get hN 0 rfl rfl) dX12_feed_1 ?_
  refine g_bipush hC (v := 20) dX12_feed_4 bp_20 ?_
  refine g_iadd hC dX12_feed_6 ?_
  refine g_sipush hC (v := 400) dX12_feed_7 sp_400 ?_
  refine g_icmp_le hC 15 dX12_feed_10 (by decide) (fun hc => ?_) (fun hc => ?_)
  · replace hf := ifT hf hc
    refine g_aload_n hC 0 dX12_feed_15 rfl rfl ?_
    refine g_iload_n hC 1 dX12_feed_16 rfl rfl ?_
    obtain ⟨x74_1, x91_2, q_3, hf⟩ := bd2E hf
    refine g_callV_v (a := 74) hC (X' := ov X0 [74, 91] [x74_1, x91_2]) (Y' := ov Y0 [] []) (As := [.int v1]) (gMv_eq (c_X12_put l hL (ov_map hN [0, 1] (by rfl) (by rfl)) (ov_map hM [] (by rfl) (by rfl)) q_3) (ov_ovE hN (by rfl) [0, 1] [] (by rfl) (by rfl) [] (by rfl) (by rfl) (by rfl) 2 (by rfl) (by decide)) (ov_ovE hM (by rfl) [] [] (by rfl) (by rfl) [] (by rfl) (by rfl) (by rfl) 0 (by rfl) (by decide))) tw_1356 tw_1353 tw_127 tw_1355 tw_45 (ci := 12) rfl (by decide) (kk_74 hL) (kn_74 hL) pd_X12_put (by decide) (by decide) rfl rfl (Nat.le_of_ble_eq_true rfl) rfl dX12_feed_17 ?_
    refine g_aload_n hC 0 dX12_feed_20 rfl rfl ?_
    refine g_iload_n hC 2 dX12_feed_21 rfl rfl ?_
    obtain ⟨x74_4, x91_5, q_6, hf⟩ := bd2E hf
    refine g_callV_v (a := 74) hC (X' := ov X0 [74, 91] [x74_4, x91_5]) (Y' := ov Y0 [] []) (As := [.int v2]) (gMv_eq (c_X12_put l hL (ov_map hN [0, 1] (by rfl) (by rfl)) (ov_map hM [] (by rfl) (by rfl)) q_6) (ov_ovE hN (by rfl) [0, 1] [] (by rfl) (by rfl) [] (by rfl) (by rfl) (by rfl) 2 (by rfl) (by decide)) (ov_ovE hM (by rfl) [] [] (by rfl) (by rfl) [] (by rfl) (by rfl) (by rfl) 0 (by rfl) (by decide))) tw_1356 tw_1353 tw_127 tw_1355 tw_45 (ci := 12) rfl (by decide) (kk_74 hL) (kn_74 hL) pd_X12_put (by decide) (by decide) rfl rfl (Nat.le_of_ble_eq_true rfl) rfl dX12_feed_22 ?_
    refine g_aload_n hC 0 dX12_feed_25 rfl rfl ?_
    refine g_iload_n hC 3 dX12_feed_26 rfl rfl ?_
    obtain ⟨x74_7, x91_8, q_9, hf⟩ := bd2E hf
    refine g_callV_v (a := 74) hC (X' := ov X0 [74, 91] [x74_7, x91_8]) (Y' := ov Y0 [] []) (As := [.int v3]) (gMv_eq (c_X12_put l hL (ov_map hN [0, 1] (by rfl) (by rfl)) (ov_map hM [] (by rfl) (by rfl)) q_9) (ov_ovE hN (by rfl) [0, 1] [] (by rfl) (by rfl) [] (by rfl) (by rfl) (by rfl) 2 (by rfl) (by decide)) (ov_ovE hM (by rfl) [] [] (by rfl) (by rfl) [] (by rfl) (by rfl) (by rfl) 0 (by rfl) (by decide))) tw_1356 tw_1353 tw_127 tw_1355 tw_45 (ci := 12) rfl (by decide) (kk_74 hL) (kn_74 hL) pd_X12_put (by decide) (by decide) rfl rfl (Nat.le_of_ble_eq_true rfl) rfl dX12_feed_27 ?_
    refine g_aload_n hC 0 dX12_feed_30 rfl rfl ?_
    refine g_iload hC 4 dX12_feed_31 rfl ?_
    obtain ⟨x74_10, x91_11, q_12, hf⟩ := bd2E hf
    refine g_callV_v (a := 74) hC (X' := ov X0 [74, 91] [x74_10, x91_11]) (Y' := ov Y0 [] []) (As := [.int v4]) (gMv_eq (c_X12_put l hL (ov_map hN [0, 1] (by rfl) (by rfl)) (ov_map hM [] (by rfl) (by rfl)) q_12) (ov_ovE hN (by rfl) [0, 1] [] (by rfl) (by rfl) [] (by rfl) (by rfl) (by rfl) 2 (by rfl) (by decide)) (ov_ovE hM (by rfl) [] [] (by rfl) (by rfl) [] (by rfl) (by rfl) (by rfl) 0 (by rfl) (by decide))) tw_1356 tw_1353 tw_127 tw_1355 tw_45 (ci := 12) rfl (by decide) (kk_74 hL) (kn_74 hL) pd_X12_put (by decide) (by decide) rfl rfl (Nat.le_of_ble_eq_true rfl) rfl dX12_feed_33 ?_
    refine g_aload_n hC 0 dX12_feed_36 rfl rfl ?_
    refine g_iload hC 5 dX12_feed_37 rfl ?_
    obtain ⟨x74_13, x91_14, q_15, hf⟩ := bd2E hf
    refine g_callV_v (a := 74) hC (X' := ov X0 [74, 91] [x74_13, x91_14]) (Y' := ov Y0 [] []) (As := [.int v5]) (gMv_eq (c_X12_put l hL (ov_map hN [0, 1] (by rfl) (by rfl)) (ov_map hM [] (by rfl) (by rfl)) q_15) (ov_ovE hN (by rfl) [0, 1] [] (by rfl) (by rfl) [] (by rfl) (by rfl) (by rfl) 2 (by rfl) (by decide)) (ov_ovE hM (by rfl) [] [] (by rfl) (by rfl) [] (by rfl) (by rfl) (by rfl) 0 (by rfl) (by decide))) tw_1356 tw_1353 tw_127 tw_1355 tw_45 (ci := 12) rfl (by decide) (kk_74 hL) (kn_74 hL) pd_X12_put (by decide) (by decide) rfl rfl (Nat.le_of_ble_eq_true rfl) rfl dX12_feed_39 ?_
    refine g_aload_n hC 0 dX12_feed_42 rfl rfl ?_
    refine gt_X12_151 hC (x := x74_13) (kk_74 hL) (kn_74 hL) (ov_get hN 0 rfl rfl) dX12_feed_43 ?_
    obtain ⟨rfl, rfl, rfl⟩ := sm3E hf
    exact hret _ _ rfl dX12_feed_46
  · replace hf := ifF hf hc
    refine g_iconst hC (v := (-1)) dX12_feed_13 ic_m1 ?_
    obtain ⟨rfl, rfl, rfl⟩ := sm3E hf
    exact hret _ _ rfl dX12_feed_14

def fX12_feed     (v1 : Int32) (v2 : Int32) (v3 : Int32) (v4 : Int32) (v5 : Int32) (x74 : Nat → Int32) (x91 : Nat → Int32)  : Option (Int32 × (Nat → Int32) × (Nat → Int32)) := fX12_feed_0  v1 v2 v3 v4 v5 x74 x91

set_option maxHeartbeats 4000000 in
set_option maxRecDepth 100000 in
theorem c_X12_feed (l : Launch) {b0 : Nat} {D : GD} {n : Nat} {κ : QT} {X0 : XT} {Y0 : YT} {Z : ZT} (hL : LY n κ) {x74 : Nat → Int32} {x91 : Nat → Int32} (hx : ([74, 91] : List Nat).map X0 = [x74, x91]) (hy : ([] : List Nat).map Y0 = []) {v1 : Int32} {v2 : Int32} {v3 : Int32} {v4 : Int32} {v5 : Int32} {r : Int32} {rx74 : (Nat → Int32)} {rx91 : (Nat → Int32)} (hf : fX12_feed  v1 v2 v3 v4 v5 x74 x91 = some (r, rx74, rx91)) : gMi l yX12_feed cX12_feed 6 (some FieldType.int) 1 22 0 0 b0 D [.ref (b0 + 74), .int v1, .int v2, .int v3, .int v4, .int v5] (n, κ, X0, Y0, Z) (n, κ, ov X0 [74, 91] [rx74, rx91], ov Y0 [] [], Z) r := by
  have hN : ([74, 91] : List Nat).Nodup := by decide
  have hM : ([] : List Nat).Nodup := by decide
  refine g_meti (own := RX12) (by decide) rfl rfl (Nat.le_of_ble_eq_true rfl) ?_
  intro K hC hret
  have e := wX12_feed_0 hL hN hM hC  hret hf
  rw [ov_id' hx, ov_id' hy] at e
  exact g_sub [0, 1, 2, 3, 4, 5] rfl e

-- X12_end
def fX12_end_0     (v1 : Int32) (x74 : (Nat → Int32)) : Option (Int32 × (Nat → Int32)) := if v1 < 0 then (some ((-1), x74)) else (if v1 ≤ (x74 17) then (some (v1, (upd x74 17 v1))) else (some ((-1), x74)))
set_option maxHeartbeats 4000000 in
set_option maxRecDepth 100000 in
theorem wX12_end_0 {l : Launch} {b0 : Nat} {D : GD} {K : KT} {n : Nat} {κ : QT} {X0 : XT} {Y0 : YT} {Z : ZT} (hL : LY n κ) (hN : ([74] : List Nat).Nodup) (hM : ([] : List Nat).Nodup) (hC : gC l b0 D K RX12 cX12_end (some FieldType.int) 2 0 0 0 0) {r : Int32} {rx74 : (Nat → Int32)} (hret : ∀ pc loc, narrow .int (.int r) = .int r → decode cX12_end pc = .ok (.ireturn, 1) → gV l b0 D K (n, κ, ov X0 [74] [rx74], ov Y0 [] [], Z, 0, 0) pc loc [.int r]) {v1 : Int32} {x74 : (Nat → Int32)} (hf : fX12_end_0   v1 x74 = some (r, rx74)) : gV l b0 D K (n, κ, ov X0 [74] [x74], ov Y0 [] [], Z, 0, 0) 0 [(0, .ref (b0 + 74)), (1, .int v1)] [] := by
  unfold fX12_end_0 at hf
  refine g_iload_n hC 1 dX12_end_0 rfl rfl ?_
  refine g_if_lt hC 12 dX12_end_1 (by decide) (fun hc => ?_) (fun hc => ?_)
  · replace hf := ifT hf hc
    refine g_iconst hC (v := (-1)) dX12_end_12 ic_m1 ?_
    obtain ⟨rfl, rfl⟩ := sm2E hf
    exact hret _ _ rfl dX12_end_13
  · replace hf := ifF hf hc
    refine g_iload_n hC 1 dX12_end_4 rfl rfl ?_
    refine g_aload_n hC 0 dX12_end_5 rfl rfl ?_
    refine gt_X12_151 hC (x := x74) (kk_74 hL) (kn_74 hL) (ov_get hN 0 rfl rfl) dX12_end_6 ?_
    refine g_icmp_le hC 14 dX12_end_9 (by decide) (fun hc => ?_) (fun hc => ?_)
    · replace hf := ifT hf hc
      refine g_aload_n hC 0 dX12_end_14 rfl rfl ?_
      refine g_iload_n hC 1 dX12_end_15 rfl rfl ?_
      refine pt_X12_151 hC (x := x74) (kk_74 hL) (kn_74 hL) (ov_get hN 0 rfl rfl) (ov_set hN (by rfl) 0 (by rfl)) dX12_end_16 ?_
      show gV l b0 D K (n, κ, ov X0 [74] [(upd x74 17 v1)], ov Y0 [] [], Z, 0, 0) 19 [(0, .ref (b0 + 74)), (1, .int v1)] []
      refine g_iload_n hC 1 dX12_end_19 rfl rfl ?_
      obtain ⟨rfl, rfl⟩ := sm2E hf
      exact hret _ _ rfl dX12_end_20
    · replace hf := ifF hf hc
      refine g_iconst hC (v := (-1)) dX12_end_12 ic_m1 ?_
      obtain ⟨rfl, rfl⟩ := sm2E hf
      exact hret _ _ rfl dX12_end_13

def fX12_end     (v1 : Int32) (x74 : Nat → Int32)  : Option (Int32 × (Nat → Int32)) := fX12_end_0  v1 x74

set_option maxHeartbeats 4000000 in
set_option maxRecDepth 100000 in
theorem c_X12_end (l : Launch) {b0 : Nat} {D : GD} {n : Nat} {κ : QT} {X0 : XT} {Y0 : YT} {Z : ZT} (hL : LY n κ) {x74 : Nat → Int32} (hx : ([74] : List Nat).map X0 = [x74]) (hy : ([] : List Nat).map Y0 = []) {v1 : Int32} {r : Int32} {rx74 : (Nat → Int32)} (hf : fX12_end  v1 x74 = some (r, rx74)) : gMi l yX12_end cX12_end 2 (some FieldType.int) 0 0 0 0 b0 D [.ref (b0 + 74), .int v1] (n, κ, X0, Y0, Z) (n, κ, ov X0 [74] [rx74], ov Y0 [] [], Z) r := by
  have hN : ([74] : List Nat).Nodup := by decide
  have hM : ([] : List Nat).Nodup := by decide
  refine g_meti (own := RX12) (by decide) rfl rfl (Nat.le_of_ble_eq_true rfl) ?_
  intro K hC hret
  have e := wX12_end_0 hL hN hM hC  hret hf
  rw [ov_id' hx, ov_id' hy] at e
  exact g_sub [0, 1] rfl e

-- X12_fails
def fX12_fails_23     (s0 : Int32) (x74 : (Nat → Int32)) : Option ((Nat → Int32)) := some (upd x74 19 s0)
set_option maxHeartbeats 4000000 in
set_option maxRecDepth 100000 in
theorem wX12_fails_23 {l : Launch} {b0 : Nat} {D : GD} {K : KT} {n : Nat} {κ : QT} {X0 : XT} {Y0 : YT} {Z : ZT} (hL : LY n κ) (hN : ([74] : List Nat).Nodup) (hM : ([] : List Nat).Nodup) (hC : gC l b0 D K RX12 cX12_fails none 3 0 0 0 0) {rx74 : (Nat → Int32)} (hret : ∀ pc loc, decode cX12_fails pc = .ok (.return_, 1) → gV l b0 D K (n, κ, ov X0 [74] [rx74], ov Y0 [] [], Z, 0, 0) pc loc []) {s0 : Int32} {x74 : (Nat → Int32)} (hf : fX12_fails_23   s0 x74 = some rx74) : gV l b0 D K (n, κ, ov X0 [74] [x74], ov Y0 [] [], Z, 0, 0) 23 [] [.int s0, .ref (b0 + 74)] := by
  unfold fX12_fails_23 at hf
  refine pt_X12_180 hC (x := x74) (kk_74 hL) (kn_74 hL) (ov_get hN 0 rfl rfl) (ov_set hN (by rfl) 0 (by rfl)) dX12_fails_23 ?_
  show gV l b0 D K (n, κ, ov X0 [74] [(upd x74 19 s0)], ov Y0 [] [], Z, 0, 0) 26 [] []
  obtain rfl := sm1E hf
  exact hret _ _ dX12_fails_26

def fX12_fails_0     (v1 : Int32) (v2 : Int32) (x74 : (Nat → Int32)) : Option ((Nat → Int32)) := if (x74 19) = 0 then (fX12_fails_23   ((1 + (8 * v2)) + v1) x74) else (fX12_fails_23   (x74 19) x74)
set_option maxHeartbeats 4000000 in
set_option maxRecDepth 100000 in
theorem wX12_fails_0 {l : Launch} {b0 : Nat} {D : GD} {K : KT} {n : Nat} {κ : QT} {X0 : XT} {Y0 : YT} {Z : ZT} (hL : LY n κ) (hN : ([74] : List Nat).Nodup) (hM : ([] : List Nat).Nodup) (hC : gC l b0 D K RX12 cX12_fails none 3 0 0 0 0) {rx74 : (Nat → Int32)} (hret : ∀ pc loc, decode cX12_fails pc = .ok (.return_, 1) → gV l b0 D K (n, κ, ov X0 [74] [rx74], ov Y0 [] [], Z, 0, 0) pc loc []) {v1 : Int32} {v2 : Int32} {x74 : (Nat → Int32)} (hf : fX12_fails_0   v1 v2 x74 = some rx74) : gV l b0 D K (n, κ, ov X0 [74] [x74], ov Y0 [] [], Z, 0, 0) 0 [(0, .ref (b0 + 74)), (1, .int v1), (2, .int v2)] [] := by
  unfold fX12_fails_0 at hf
  refine g_aload_n hC 0 dX12_fails_0 rfl rfl ?_
  refine g_aload_n hC 0 dX12_fails_1 rfl rfl ?_
  refine gt_X12_180 hC (x := x74) (kk_74 hL) (kn_74 hL) (ov_get hN 0 rfl rfl) dX12_fails_2 ?_
  refine g_if_ne hC 19 dX12_fails_5 (by decide) (fun hc => ?_) (fun hc => ?_)
  · replace hf := ifF hf hc
    refine g_aload_n hC 0 dX12_fails_19 rfl rfl ?_
    refine gt_X12_180 hC (x := x74) (kk_74 hL) (kn_74 hL) (ov_get hN 0 rfl rfl) dX12_fails_20 ?_
    exact g_sub [] rfl (wX12_fails_23 hL hN hM hC  hret  hf)
  · replace hf := ifT hf hc
    refine g_iconst hC (v := 1) dX12_fails_8 ic_1 ?_
    refine g_bipush hC (v := 8) dX12_fails_9 bp_8 ?_
    refine g_iload_n hC 2 dX12_fails_11 rfl rfl ?_
    refine g_imul hC dX12_fails_12 ?_
    refine g_iadd hC dX12_fails_13 ?_
    refine g_iload_n hC 1 dX12_fails_14 rfl rfl ?_
    refine g_iadd hC dX12_fails_15 ?_
    refine g_goto hC 23 dX12_fails_16 (by decide) ?_
    exact g_sub [] rfl (wX12_fails_23 hL hN hM hC  hret  hf)

def fX12_fails     (v1 : Int32) (v2 : Int32) (x74 : Nat → Int32)  : Option ((Nat → Int32)) := fX12_fails_0  v1 v2 x74

set_option maxHeartbeats 4000000 in
set_option maxRecDepth 100000 in
theorem c_X12_fails (l : Launch) {b0 : Nat} {D : GD} {n : Nat} {κ : QT} {X0 : XT} {Y0 : YT} {Z : ZT} (hL : LY n κ) {x74 : Nat → Int32} (hx : ([74] : List Nat).map X0 = [x74]) (hy : ([] : List Nat).map Y0 = []) {v1 : Int32} {v2 : Int32} {rx74 : (Nat → Int32)} (hf : fX12_fails  v1 v2 x74 = some rx74) : gMv l yX12_fails cX12_fails 3 none 0 0 0 0 b0 D [.ref (b0 + 74), .int v1, .int v2] (n, κ, X0, Y0, Z) (n, κ, ov X0 [74] [rx74], ov Y0 [] [], Z) := by
  have hN : ([74] : List Nat).Nodup := by decide
  have hM : ([] : List Nat).Nodup := by decide
  refine g_metv (own := RX12) (by decide) rfl rfl (Nat.le_of_ble_eq_true rfl) ?_
  intro K hC hret
  have e := wX12_fails_0 hL hN hM hC  hret hf
  rw [ov_id' hx, ov_id' hy] at e
  exact g_sub [0, 1, 2] rfl e

-- X12_sign
def fX12_sign_0   (x74 : Nat → Int32) (x91 : Nat → Int32)   : Option (Int32) := if (x74 17) ≤ (x74 18) then (some (-1)) else (gd (inb (x74 18) 400) (some ((x91 (x74 18).toNatClampNeg) &&& 255)))
set_option maxHeartbeats 4000000 in
set_option maxRecDepth 100000 in
theorem wX12_sign_0 {l : Launch} {b0 : Nat} {D : GD} {K : KT} {n : Nat} {κ : QT} {X0 : XT} {Y0 : YT} {Z : ZT} (hL : LY n κ) (hN : ([74, 91] : List Nat).Nodup) (hM : ([] : List Nat).Nodup) (hC : gC l b0 D K RX12 cX12_sign (some FieldType.int) 1 0 0 0 0) {x74 : Nat → Int32} {x91 : Nat → Int32} {r : Int32} (hret : ∀ pc loc, narrow .int (.int r) = .int r → decode cX12_sign pc = .ok (.ireturn, 1) → gV l b0 D K (n, κ, ov X0 [74, 91] [x74, x91], ov Y0 [] [], Z, 0, 0) pc loc [.int r])  (hf : fX12_sign_0 x74 x91   = some r) : gV l b0 D K (n, κ, ov X0 [74, 91] [x74, x91], ov Y0 [] [], Z, 0, 0) 0 [(0, .ref (b0 + 74))] [] := by
  unfold fX12_sign_0 at hf
  refine g_aload_n hC 0 dX12_sign_0 rfl rfl ?_
  refine gt_X12_183 hC (x := x74) (kk_74 hL) (kn_74 hL) (ov_get hN 0 rfl rfl) dX12_sign_1 ?_
  refine g_aload_n hC 0 dX12_sign_4 rfl rfl ?_
  refine gt_X12_151 hC (x := x74) (kk_74 hL) (kn_74 hL) (ov_get hN 0 rfl rfl) dX12_sign_5 ?_
  refine g_icmp_ge hC 27 dX12_sign_8 (by decide) (fun hc => ?_) (fun hc => ?_)
  · replace hf := ifT hf hc
    refine g_iconst hC (v := (-1)) dX12_sign_27 ic_m1 ?_
    obtain rfl := sm1E hf
    exact hret _ _ rfl dX12_sign_28
  · replace hf := ifF hf hc
    refine g_aload_n hC 0 dX12_sign_11 rfl rfl ?_
    refine gt_X12_62 hC (a := 74) (kk_74 hL) (kn_74 hL) dX12_sign_12 ?_
    refine g_ref (b := 91) rfl ?_
    refine g_aload_n hC 0 dX12_sign_15 rfl rfl ?_
    refine gt_X12_183 hC (x := x74) (kk_74 hL) (kn_74 hL) (ov_get hN 0 rfl rfl) dX12_sign_16 ?_
    obtain ⟨h_1, hf⟩ := gdE hf
    refine g_bald hC (x := x91) (kk_91 hL) (kn_91 hL) (ov_get hN 1 rfl rfl) (inb_in h_1) dX12_sign_19 ?_
    refine g_sipush hC (v := 255) dX12_sign_20 sp_255 ?_
    refine g_iand hC dX12_sign_23 ?_
    refine g_goto hC 28 dX12_sign_24 (by decide) ?_
    obtain rfl := sm1E hf
    exact hret _ _ rfl dX12_sign_28

def fX12_sign   (x74 : Nat → Int32) (x91 : Nat → Int32)     : Option (Int32) := fX12_sign_0 x74 x91 

set_option maxHeartbeats 4000000 in
set_option maxRecDepth 100000 in
theorem c_X12_sign (l : Launch) {b0 : Nat} {D : GD} {n : Nat} {κ : QT} {X0 : XT} {Y0 : YT} {Z : ZT} (hL : LY n κ) {x74 : Nat → Int32} {x91 : Nat → Int32} (hx : ([74, 91] : List Nat).map X0 = [x74, x91]) (hy : ([] : List Nat).map Y0 = []) {r : Int32} (hf : fX12_sign x74 x91  = some r) : gMi l yX12_sign cX12_sign 1 (some FieldType.int) 0 0 0 0 b0 D [.ref (b0 + 74)] (n, κ, X0, Y0, Z) (n, κ, ov X0 [74, 91] [x74, x91], ov Y0 [] [], Z) r := by
  have hN : ([74, 91] : List Nat).Nodup := by decide
  have hM : ([] : List Nat).Nodup := by decide
  refine g_meti (own := RX12) (by decide) rfl rfl (Nat.le_of_ble_eq_true rfl) ?_
  intro K hC hret
  have e := wX12_sign_0 hL hN hM hC  hret hf
  rw [ov_id' hx, ov_id' hy] at e
  exact g_sub [0] rfl e

-- X12_blanks
def fX12_blanks_0b   (x91 : Nat → Int32)  (k0 : (Nat → Int32) → Option ((Nat → Int32))) (x74 : (Nat → Int32)) : Option ((Nat → Int32)) := bd1 (fX12_sign x74 x91) fun r_1 => (if r_1 = 32 then (k0 (upd x74 18 ((x74 18) + 1))) else (some x74))
def fX12_blanks_0   (x91 : Nat → Int32)  : (Nat → Int32) → Option ((Nat → Int32)) := lq1 (fX12_blanks_0b x91 ) 5000
set_option maxHeartbeats 4000000 in
set_option maxRecDepth 100000 in
theorem wX12_blanks_0 {l : Launch} {b0 : Nat} {D : GD} {K : KT} {n : Nat} {κ : QT} {X0 : XT} {Y0 : YT} {Z : ZT} (hL : LY n κ) (hN : ([74, 91] : List Nat).Nodup) (hM : ([] : List Nat).Nodup) (hC : gC l b0 D K RX12 cX12_blanks none 1 1 20 0 0) {x91 : Nat → Int32} {rx74 : (Nat → Int32)} (hret : ∀ pc loc, decode cX12_blanks pc = .ok (.return_, 1) → gV l b0 D K (n, κ, ov X0 [74, 91] [rx74, x91], ov Y0 [] [], Z, 0, 0) pc loc []) : ∀ (j : Nat) (x74 : (Nat → Int32)), lq1 (fX12_blanks_0b x91 ) j x74 = some rx74 → gV l b0 D K (n, κ, ov X0 [74, 91] [x74, x91], ov Y0 [] [], Z, 0, 0) 0 [(0, .ref (b0 + 74))] [] := by
  intro j
  induction j with
  | zero => intro x74 hf; cases hf
  | succ j hk0 =>
    intro x74 hf
    replace hf : fX12_blanks_0b x91  (lq1 (fX12_blanks_0b x91 ) j) x74 = some rx74 := hf
    unfold fX12_blanks_0b at hf
    refine g_aload_n hC 0 dX12_blanks_0 rfl rfl ?_
    obtain ⟨r_1, q_2, hf⟩ := bd1E hf
    refine g_callV_i (a := 74) hC (X' := ov X0 [74, 91] [x74, x91]) (Y' := ov Y0 [] []) (As := []) (gMi_eq (c_X12_sign l hL (ov_map hN [0, 1] (by rfl) (by rfl)) (ov_map hM [] (by rfl) (by rfl)) q_2) (ov_ovE hN (by rfl) [0, 1] [] (by rfl) (by rfl) [] (by rfl) (by rfl) (by rfl) 2 (by rfl) (by decide)) (ov_ovE hM (by rfl) [] [] (by rfl) (by rfl) [] (by rfl) (by rfl) (by rfl) 0 (by rfl) (by decide))) tw_1384 tw_1381 tw_127 tw_1383 tw_50 (ci := 12) rfl (by decide) (kk_74 hL) (kn_74 hL) pd_X12_sign (by decide) (by decide) rfl rfl (Nat.le_of_ble_eq_true rfl) rfl dX12_blanks_1 ?_
    refine g_bipush hC (v := 32) dX12_blanks_4 bp_32 ?_
    refine g_icmp_ne hC 22 dX12_blanks_6 (by decide) (fun hc => ?_) (fun hc => ?_)
    · replace hf := ifF hf hc
      obtain rfl := sm1E hf
      exact hret _ _ dX12_blanks_22
    · replace hf := ifT hf hc
      refine g_aload_n hC 0 dX12_blanks_9 rfl rfl ?_
      refine g_dup hC dX12_blanks_10 rfl ?_
      refine gt_X12_183 hC (x := x74) (kk_74 hL) (kn_74 hL) (ov_get hN 0 rfl rfl) dX12_blanks_11 ?_
      refine g_iconst hC (v := 1) dX12_blanks_14 ic_1 ?_
      refine g_iadd hC dX12_blanks_15 ?_
      refine pt_X12_183 hC (x := x74) (kk_74 hL) (kn_74 hL) (ov_get hN 0 rfl rfl) (ov_set hN (by rfl) 0 (by rfl)) dX12_blanks_16 ?_
      show gV l b0 D K (n, κ, ov X0 [74, 91] [(upd x74 18 ((x74 18) + 1)), x91], ov Y0 [] [], Z, 0, 0) 19 [(0, .ref (b0 + 74))] []
      refine g_goto hC 0 dX12_blanks_19 (by decide) ?_
      exact g_sub [0] rfl (hk0 (upd x74 18 ((x74 18) + 1)) hf)

def fX12_blanks   (x91 : Nat → Int32)   (x74 : Nat → Int32)  : Option ((Nat → Int32)) := fX12_blanks_0 x91 x74

set_option maxHeartbeats 4000000 in
set_option maxRecDepth 100000 in
theorem c_X12_blanks (l : Launch) {b0 : Nat} {D : GD} {n : Nat} {κ : QT} {X0 : XT} {Y0 : YT} {Z : ZT} (hL : LY n κ) {x74 : Nat → Int32} {x91 : Nat → Int32} (hx : ([74, 91] : List Nat).map X0 = [x74, x91]) (hy : ([] : List Nat).map Y0 = []) {rx74 : (Nat → Int32)} (hf : fX12_blanks x91 x74 = some rx74) : gMv l yX12_blanks cX12_blanks 1 none 1 20 0 0 b0 D [.ref (b0 + 74)] (n, κ, X0, Y0, Z) (n, κ, ov X0 [74, 91] [rx74, x91], ov Y0 [] [], Z) := by
  have hN : ([74, 91] : List Nat).Nodup := by decide
  have hM : ([] : List Nat).Nodup := by decide
  refine g_metv (own := RX12) (by decide) rfl rfl (Nat.le_of_ble_eq_true rfl) ?_
  intro K hC hret
  have e := wX12_blanks_0 hL hN hM hC  hret 5000 x74 hf
  rw [ov_id' hx, ov_id' hy] at e
  exact g_sub [0] rfl e


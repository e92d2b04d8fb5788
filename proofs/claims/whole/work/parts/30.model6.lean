-- X12_leadsOut
def fX12_leadsOut_66   (x75 : Nat → Int32) (x78 : Nat → Int32)  (k4 : Int32 → Int32 → Int32 → Option (Int32)) (k17 : Int32 → Int32 → Int32 → Int32 → Option (Int32)) (v1 : Int32) (v3 : Int32) (v4 : Int32) (s0 : Int32) (s1 : Int32) : Option (Int32) := bn (s1 + s0) fun t_1 => (bn (v4 + 1) fun t_2 => (k17 v1 t_1 v3 t_2))
set_option maxHeartbeats 4000000 in
set_option maxRecDepth 100000 in
theorem wX12_leadsOut_66 {l : Launch} {b0 : Nat} {D : GD} {K : KT} {n : Nat} {κ : QT} {X0 : XT} {Y0 : YT} {Z : ZT} (hL : LY n κ) (hN : ([75, 78] : List Nat).Nodup) (hM : ([] : List Nat).Nodup) (hC : gC l b0 D K RX12 cX12_leadsOut (some FieldType.int) 5 1 21 0 0) {x75 : Nat → Int32} {x78 : Nat → Int32} {r : Int32} (hret : ∀ pc loc, narrow .int (.int r) = .int r → decode cX12_leadsOut pc = .ok (.ireturn, 1) → gV l b0 D K (n, κ, ov X0 [75, 78] [x75, x78], ov Y0 [] [], Z, 0, 0) pc loc [.int r]) {k4 : Int32 → Int32 → Int32 → Option (Int32)} (hk4 : ∀ (v1 : Int32) (v2 : Int32) (v3 : Int32), k4 v1 v2 v3 = some r → gV l b0 D K (n, κ, ov X0 [75, 78] [x75, x78], ov Y0 [] [], Z, 0, 0) 4 [(0, .ref (b0 + 74)), (1, .int v1), (2, .int v2), (3, .int v3)] []) {k17 : Int32 → Int32 → Int32 → Int32 → Option (Int32)} (hk17 : ∀ (v1 : Int32) (v2 : Int32) (v3 : Int32) (v4 : Int32), k17 v1 v2 v3 v4 = some r → gV l b0 D K (n, κ, ov X0 [75, 78] [x75, x78], ov Y0 [] [], Z, 0, 0) 17 [(0, .ref (b0 + 74)), (1, .int v1), (2, .int v2), (3, .int v3), (4, .int v4)] []) {v1 : Int32} {v3 : Int32} {v4 : Int32} {s0 : Int32} {s1 : Int32} (hf : fX12_leadsOut_66 x75 x78 k4 k17 v1 v3 v4 s0 s1 = some r) : gV l b0 D K (n, κ, ov X0 [75, 78] [x75, x78], ov Y0 [] [], Z, 0, 0) 66 [(0, .ref (b0 + 74)), (1, .int v1), (3, .int v3), (4, .int v4)] [.int s0, .int s1] := by
  unfold fX12_leadsOut_66 at hf
  refine g_iadd hC dX12_leadsOut_66 ?_
  obtain ⟨t_1, et_1, hf⟩ := bnE hf
  refine g_topi et_1 ?_
  refine g_istore_n hC (i := 2) [(2, .int t_1), (0, .ref (b0 + 74)), (1, .int v1), (3, .int v3), (4, .int v4)] rfl dX12_leadsOut_67 (by decide) rfl ?_
  obtain ⟨t_2, et_2, hf⟩ := bnE hf
  refine g_iinc hC (i := 4) (v := t_2) [(4, .int t_2), (2, .int t_1), (0, .ref (b0 + 74)), (1, .int v1), (3, .int v3)] dX12_leadsOut_68 (q := 4) rfl ((congrArg (HAdd.hAdd v4) ic_1).trans et_2.symm) (by decide) rfl ?_
  refine g_goto hC 17 dX12_leadsOut_71 (by decide) ?_
  exact g_sub [2, 3, 1, 4, 0] rfl (hk17 v1 t_1 v3 t_2 hf)

def fX12_leadsOut_65   (x75 : Nat → Int32) (x78 : Nat → Int32)  (k4 : Int32 → Int32 → Int32 → Option (Int32)) (k17 : Int32 → Int32 → Int32 → Int32 → Option (Int32)) (v1 : Int32) (v3 : Int32) (v4 : Int32) (s0 : Int32) : Option (Int32) := fX12_leadsOut_66 x75 x78 k4 k17 v1 v3 v4 0 s0
set_option maxHeartbeats 4000000 in
set_option maxRecDepth 100000 in
theorem wX12_leadsOut_65 {l : Launch} {b0 : Nat} {D : GD} {K : KT} {n : Nat} {κ : QT} {X0 : XT} {Y0 : YT} {Z : ZT} (hL : LY n κ) (hN : ([75, 78] : List Nat).Nodup) (hM : ([] : List Nat).Nodup) (hC : gC l b0 D K RX12 cX12_leadsOut (some FieldType.int) 5 1 21 0 0) {x75 : Nat → Int32} {x78 : Nat → Int32} {r : Int32} (hret : ∀ pc loc, narrow .int (.int r) = .int r → decode cX12_leadsOut pc = .ok (.ireturn, 1) → gV l b0 D K (n, κ, ov X0 [75, 78] [x75, x78], ov Y0 [] [], Z, 0, 0) pc loc [.int r]) {k4 : Int32 → Int32 → Int32 → Option (Int32)} (hk4 : ∀ (v1 : Int32) (v2 : Int32) (v3 : Int32), k4 v1 v2 v3 = some r → gV l b0 D K (n, κ, ov X0 [75, 78] [x75, x78], ov Y0 [] [], Z, 0, 0) 4 [(0, .ref (b0 + 74)), (1, .int v1), (2, .int v2), (3, .int v3)] []) {k17 : Int32 → Int32 → Int32 → Int32 → Option (Int32)} (hk17 : ∀ (v1 : Int32) (v2 : Int32) (v3 : Int32) (v4 : Int32), k17 v1 v2 v3 v4 = some r → gV l b0 D K (n, κ, ov X0 [75, 78] [x75, x78], ov Y0 [] [], Z, 0, 0) 17 [(0, .ref (b0 + 74)), (1, .int v1), (2, .int v2), (3, .int v3), (4, .int v4)] []) {v1 : Int32} {v3 : Int32} {v4 : Int32} {s0 : Int32} (hf : fX12_leadsOut_65 x75 x78 k4 k17 v1 v3 v4 s0 = some r) : gV l b0 D K (n, κ, ov X0 [75, 78] [x75, x78], ov Y0 [] [], Z, 0, 0) 65 [(0, .ref (b0 + 74)), (1, .int v1), (3, .int v3), (4, .int v4)] [.int s0] := by
  unfold fX12_leadsOut_65 at hf
  refine g_iconst hC (v := 0) dX12_leadsOut_65 ic_0 ?_
  exact g_sub [0, 1, 2, 3] rfl (wX12_leadsOut_66 hL hN hM hC  hret hk4 hk17 hf)

def fX12_leadsOut_17b   (x75 : Nat → Int32) (x78 : Nat → Int32)  (k4 : Int32 → Int32 → Int32 → Option (Int32)) (k17 : Int32 → Int32 → Int32 → Int32 → Option (Int32)) (v1 : Int32) (v2 : Int32) (v3 : Int32) (v4 : Int32) : Option (Int32) := gd (inb 4 11) (if (x75 (4 : Int32).toNatClampNeg) ≤ v4 then (bn (v3 + 1) fun t_2 => (k4 v1 v2 t_2)) else (bd1 (fX12_has v1 v3) fun r_3 => (if r_3 = 0 then (fX12_leadsOut_65 x75 x78 k4 k17 v1 v3 v4 v2) else (bd1 (fX12_has v1 v4) fun r_5 => (if r_5 = 0 then (gd (inb ((6 * v3) + v4) 36) (if (x78 ((6 * v3) + v4).toNatClampNeg) ≤ 0 then (fX12_leadsOut_65 x75 x78 k4 k17 v1 v3 v4 v2) else (fX12_leadsOut_66 x75 x78 k4 k17 v1 v3 v4 1 v2))) else (fX12_leadsOut_65 x75 x78 k4 k17 v1 v3 v4 v2))))))
def fX12_leadsOut_17   (x75 : Nat → Int32) (x78 : Nat → Int32)  (k4 : Int32 → Int32 → Int32 → Option (Int32)) : Int32 → Int32 → Int32 → Int32 → Option (Int32) := lq4 (fX12_leadsOut_17b x75 x78 k4) 5000
set_option maxHeartbeats 4000000 in
set_option maxRecDepth 100000 in
theorem wX12_leadsOut_17 {l : Launch} {b0 : Nat} {D : GD} {K : KT} {n : Nat} {κ : QT} {X0 : XT} {Y0 : YT} {Z : ZT} (hL : LY n κ) (hN : ([75, 78] : List Nat).Nodup) (hM : ([] : List Nat).Nodup) (hC : gC l b0 D K RX12 cX12_leadsOut (some FieldType.int) 5 1 21 0 0) {x75 : Nat → Int32} {x78 : Nat → Int32} {r : Int32} (hret : ∀ pc loc, narrow .int (.int r) = .int r → decode cX12_leadsOut pc = .ok (.ireturn, 1) → gV l b0 D K (n, κ, ov X0 [75, 78] [x75, x78], ov Y0 [] [], Z, 0, 0) pc loc [.int r]) {k4 : Int32 → Int32 → Int32 → Option (Int32)} (hk4 : ∀ (v1 : Int32) (v2 : Int32) (v3 : Int32), k4 v1 v2 v3 = some r → gV l b0 D K (n, κ, ov X0 [75, 78] [x75, x78], ov Y0 [] [], Z, 0, 0) 4 [(0, .ref (b0 + 74)), (1, .int v1), (2, .int v2), (3, .int v3)] []) : ∀ (j : Nat) (v1 : Int32) (v2 : Int32) (v3 : Int32) (v4 : Int32), lq4 (fX12_leadsOut_17b x75 x78 k4) j v1 v2 v3 v4 = some r → gV l b0 D K (n, κ, ov X0 [75, 78] [x75, x78], ov Y0 [] [], Z, 0, 0) 17 [(0, .ref (b0 + 74)), (1, .int v1), (2, .int v2), (3, .int v3), (4, .int v4)] [] := by
  intro j
  induction j with
  | zero => intro v1 v2 v3 v4 hf; cases hf
  | succ j hk17 =>
    intro v1 v2 v3 v4 hf
    replace hf : fX12_leadsOut_17b x75 x78 k4 (lq4 (fX12_leadsOut_17b x75 x78 k4) j) v1 v2 v3 v4 = some r := hf
    unfold fX12_leadsOut_17b at hf
    refine g_iload hC 4 dX12_leadsOut_17 rfl ?_
    refine g_aload_n hC 0 dX12_leadsOut_19 rfl rfl ?_
    refine gt_X12_9 hC (a := 74) (kk_74 hL) (kn_74 hL) dX12_leadsOut_20 ?_
    refine g_ref (b := 75) rfl ?_
    refine g_iconst hC (v := 4) dX12_leadsOut_23 ic_4 ?_
    obtain ⟨h_1, hf⟩ := gdE hf
    refine g_iald hC (x := x75) (kk_75 hL) (kn_75 hL) (ov_get hN 0 rfl rfl) (inb_in h_1) dX12_leadsOut_24 ?_
    refine g_icmp_ge hC 74 dX12_leadsOut_25 (by decide) (fun hc => ?_) (fun hc => ?_)
    · replace hf := ifT hf hc
      obtain ⟨t_2, et_2, hf⟩ := bnE hf
      refine g_iinc hC (i := 3) (v := t_2) [(3, .int t_2), (0, .ref (b0 + 74)), (1, .int v1), (2, .int v2), (4, .int v4)] dX12_leadsOut_74 (q := 3) rfl ((congrArg (HAdd.hAdd v3) ic_1).trans et_2.symm) (by decide) rfl ?_
      refine g_goto hC 4 dX12_leadsOut_77 (by decide) ?_
      exact g_sub [1, 2, 3, 0] rfl (hk4 v1 v2 t_2 hf)
    · replace hf := ifF hf hc
      refine g_iload_n hC 2 dX12_leadsOut_28 rfl rfl ?_
      refine g_iload_n hC 1 dX12_leadsOut_29 rfl rfl ?_
      refine g_iload_n hC 3 dX12_leadsOut_30 rfl rfl ?_
      obtain ⟨r_3, q_4, hf⟩ := bd1E hf
      refine g_callS_i hC (X' := ov X0 [75, 78] [x75, x78]) (Y' := ov Y0 [] []) (As := [.int v1, .int v3]) (gMi_eq (c_X12_has l hL (ov_map hN [] (by rfl) (by rfl)) (ov_map hM [] (by rfl) (by rfl)) q_4) (ov_ovE hN (by rfl) [] [0, 1] (by rfl) (by rfl) [x75, x78] (by rfl) (by rfl) (by rfl) 2 (by rfl) (by decide)) (ov_ovE hM (by rfl) [] [] (by rfl) (by rfl) [] (by rfl) (by rfl) (by rfl) 0 (by rfl) (by decide))) tw_1549 tw_1547 tw_127 tw_1548 pd_X12_has (by decide) (by decide) rfl rfl (Nat.le_of_ble_eq_true rfl) rfl dX12_leadsOut_31 ?_
      refine g_if_eq hC 65 dX12_leadsOut_34 (by decide) (fun hc => ?_) (fun hc => ?_)
      · replace hf := ifT hf hc
        exact g_sub [0, 1, 3, 4] rfl (wX12_leadsOut_65 hL hN hM hC  hret hk4 hk17 hf)
      · replace hf := ifF hf hc
        refine g_iload_n hC 1 dX12_leadsOut_37 rfl rfl ?_
        refine g_iload hC 4 dX12_leadsOut_38 rfl ?_
        obtain ⟨r_5, q_6, hf⟩ := bd1E hf
        refine g_callS_i hC (X' := ov X0 [75, 78] [x75, x78]) (Y' := ov Y0 [] []) (As := [.int v1, .int v4]) (gMi_eq (c_X12_has l hL (ov_map hN [] (by rfl) (by rfl)) (ov_map hM [] (by rfl) (by rfl)) q_6) (ov_ovE hN (by rfl) [] [0, 1] (by rfl) (by rfl) [x75, x78] (by rfl) (by rfl) (by rfl) 2 (by rfl) (by decide)) (ov_ovE hM (by rfl) [] [] (by rfl) (by rfl) [] (by rfl) (by rfl) (by rfl) 0 (by rfl) (by decide))) tw_1549 tw_1547 tw_127 tw_1548 pd_X12_has (by decide) (by decide) rfl rfl (Nat.le_of_ble_eq_true rfl) rfl dX12_leadsOut_40 ?_
        refine g_if_ne hC 65 dX12_leadsOut_43 (by decide) (fun hc => ?_) (fun hc => ?_)
        · replace hf := ifF hf hc
          exact g_sub [0, 1, 3, 4] rfl (wX12_leadsOut_65 hL hN hM hC  hret hk4 hk17 hf)
        · replace hf := ifT hf hc
          refine g_aload_n hC 0 dX12_leadsOut_46 rfl rfl ?_
          refine gt_X12_19 hC (a := 74) (kk_74 hL) (kn_74 hL) dX12_leadsOut_47 ?_
          refine g_ref (b := 78) rfl ?_
          refine g_bipush hC (v := 6) dX12_leadsOut_50 bp_6 ?_
          refine g_iload_n hC 3 dX12_leadsOut_52 rfl rfl ?_
          refine g_imul hC dX12_leadsOut_53 ?_
          refine g_iload hC 4 dX12_leadsOut_54 rfl ?_
          refine g_iadd hC dX12_leadsOut_56 ?_
          obtain ⟨h_7, hf⟩ := gdE hf
          refine g_iald hC (x := x78) (kk_78 hL) (kn_78 hL) (ov_get hN 1 rfl rfl) (inb_in h_7) dX12_leadsOut_57 ?_
          refine g_if_le hC 65 dX12_leadsOut_58 (by decide) (fun hc => ?_) (fun hc => ?_)
          · replace hf := ifT hf hc
            exact g_sub [0, 1, 3, 4] rfl (wX12_leadsOut_65 hL hN hM hC  hret hk4 hk17 hf)
          · replace hf := ifF hf hc
            refine g_iconst hC (v := 1) dX12_leadsOut_61 ic_1 ?_
            refine g_goto hC 66 dX12_leadsOut_62 (by decide) ?_
            exact g_sub [0, 1, 3, 4] rfl (wX12_leadsOut_66 hL hN hM hC  hret hk4 hk17 hf)

def fX12_leadsOut_4b   (x75 : Nat → Int32) (x78 : Nat → Int32)  (k4 : Int32 → Int32 → Int32 → Option (Int32)) (v1 : Int32) (v2 : Int32) (v3 : Int32) : Option (Int32) := gd (inb 4 11) (if (x75 (4 : Int32).toNatClampNeg) ≤ v3 then (some v2) else (fX12_leadsOut_17 x75 x78 k4 v1 v2 v3 0))
def fX12_leadsOut_4   (x75 : Nat → Int32) (x78 : Nat → Int32)  : Int32 → Int32 → Int32 → Option (Int32) := lq3 (fX12_leadsOut_4b x75 x78 ) 5000
set_option maxHeartbeats 4000000 in
set_option maxRecDepth 100000 in
theorem wX12_leadsOut_4 {l : Launch} {b0 : Nat} {D : GD} {K : KT} {n : Nat} {κ : QT} {X0 : XT} {Y0 : YT} {Z : ZT} (hL : LY n κ) (hN : ([75, 78] : List Nat).Nodup) (hM : ([] : List Nat).Nodup) (hC : gC l b0 D K RX12 cX12_leadsOut (some FieldType.int) 5 1 21 0 0) {x75 : Nat → Int32} {x78 : Nat → Int32} {r : Int32} (hret : ∀ pc loc, narrow .int (.int r) = .int r → decode cX12_leadsOut pc = .ok (.ireturn, 1) → gV l b0 D K (n, κ, ov X0 [75, 78] [x75, x78], ov Y0 [] [], Z, 0, 0) pc loc [.int r]) : ∀ (j : Nat) (v1 : Int32) (v2 : Int32) (v3 : Int32), lq3 (fX12_leadsOut_4b x75 x78 ) j v1 v2 v3 = some r → gV l b0 D K (n, κ, ov X0 [75, 78] [x75, x78], ov Y0 [] [], Z, 0, 0) 4 [(0, .ref (b0 + 74)), (1, .int v1), (2, .int v2), (3, .int v3)] [] := by
  intro j
  induction j with
  | zero => intro v1 v2 v3 hf; cases hf
  | succ j hk4 =>
    intro v1 v2 v3 hf
    replace hf : fX12_leadsOut_4b x75 x78  (lq3 (fX12_leadsOut_4b x75 x78 ) j) v1 v2 v3 = some r := hf
    unfold fX12_leadsOut_4b at hf
    refine g_iload_n hC 3 dX12_leadsOut_4 rfl rfl ?_
    refine g_aload_n hC 0 dX12_leadsOut_5 rfl rfl ?_
    refine gt_X12_9 hC (a := 74) (kk_74 hL) (kn_74 hL) dX12_leadsOut_6 ?_
    refine g_ref (b := 75) rfl ?_
    refine g_iconst hC (v := 4) dX12_leadsOut_9 ic_4 ?_
    obtain ⟨h_1, hf⟩ := gdE hf
    refine g_iald hC (x := x75) (kk_75 hL) (kn_75 hL) (ov_get hN 0 rfl rfl) (inb_in h_1) dX12_leadsOut_10 ?_
    refine g_icmp_ge hC 80 dX12_leadsOut_11 (by decide) (fun hc => ?_) (fun hc => ?_)
    · replace hf := ifT hf hc
      refine g_iload_n hC 2 dX12_leadsOut_80 rfl rfl ?_
      obtain rfl := sm1E hf
      exact hret _ _ rfl dX12_leadsOut_81
    · replace hf := ifF hf hc
      refine g_iconst hC (v := 0) dX12_leadsOut_14 ic_0 ?_
      refine g_istore hC (i := 4) [(4, .int 0), (0, .ref (b0 + 74)), (1, .int v1), (2, .int v2), (3, .int v3)] dX12_leadsOut_15 (by decide) rfl ?_
      exact g_sub [1, 2, 3, 4, 0] rfl (wX12_leadsOut_17 hL hN hM hC  hret hk4 5000 v1 v2 v3 0 hf)

def fX12_leadsOut_0   (x75 : Nat → Int32) (x78 : Nat → Int32)  (v1 : Int32) : Option (Int32) := fX12_leadsOut_4 x75 x78  v1 0 0
set_option maxHeartbeats 4000000 in
set_option maxRecDepth 100000 in
theorem wX12_leadsOut_0 {l : Launch} {b0 : Nat} {D : GD} {K : KT} {n : Nat} {κ : QT} {X0 : XT} {Y0 : YT} {Z : ZT} (hL : LY n κ) (hN : ([75, 78] : List Nat).Nodup) (hM : ([] : List Nat).Nodup) (hC : gC l b0 D K RX12 cX12_leadsOut (some FieldType.int) 5 1 21 0 0) {x75 : Nat → Int32} {x78 : Nat → Int32} {r : Int32} (hret : ∀ pc loc, narrow .int (.int r) = .int r → decode cX12_leadsOut pc = .ok (.ireturn, 1) → gV l b0 D K (n, κ, ov X0 [75, 78] [x75, x78], ov Y0 [] [], Z, 0, 0) pc loc [.int r]) {v1 : Int32} (hf : fX12_leadsOut_0 x75 x78  v1 = some r) : gV l b0 D K (n, κ, ov X0 [75, 78] [x75, x78], ov Y0 [] [], Z, 0, 0) 0 [(0, .ref (b0 + 74)), (1, .int v1)] [] := by
  unfold fX12_leadsOut_0 at hf
  refine g_iconst hC (v := 0) dX12_leadsOut_0 ic_0 ?_
  refine g_istore_n hC (i := 2) [(2, .int 0), (0, .ref (b0 + 74)), (1, .int v1)] rfl dX12_leadsOut_1 (by decide) rfl ?_
  refine g_iconst hC (v := 0) dX12_leadsOut_2 ic_0 ?_
  refine g_istore_n hC (i := 3) [(3, .int 0), (2, .int 0), (0, .ref (b0 + 74)), (1, .int v1)] rfl dX12_leadsOut_3 (by decide) rfl ?_
  exact g_sub [2, 3, 1, 0] rfl (wX12_leadsOut_4 hL hN hM hC  hret  5000 v1 0 0 hf)

def fX12_leadsOut   (x75 : Nat → Int32) (x78 : Nat → Int32)  (v1 : Int32)   : Option (Int32) := fX12_leadsOut_0 x75 x78 v1

set_option maxHeartbeats 4000000 in
set_option maxRecDepth 100000 in
theorem c_X12_leadsOut (l : Launch) {b0 : Nat} {D : GD} {n : Nat} {κ : QT} {X0 : XT} {Y0 : YT} {Z : ZT} (hL : LY n κ) {x75 : Nat → Int32} {x78 : Nat → Int32} (hx : ([75, 78] : List Nat).map X0 = [x75, x78]) (hy : ([] : List Nat).map Y0 = []) {v1 : Int32} {r : Int32} (hf : fX12_leadsOut x75 x78 v1 = some r) : gMi l yX12_leadsOut cX12_leadsOut 5 (some FieldType.int) 1 21 0 0 b0 D [.ref (b0 + 74), .int v1] (n, κ, X0, Y0, Z) (n, κ, ov X0 [75, 78] [x75, x78], ov Y0 [] [], Z) r := by
  have hN : ([75, 78] : List Nat).Nodup := by decide
  have hM : ([] : List Nat).Nodup := by decide
  refine g_meti (own := RX12) (by decide) rfl rfl (Nat.le_of_ble_eq_true rfl) ?_
  intro K hC hret
  have e := wX12_leadsOut_0 hL hN hM hC  hret hf
  rw [ov_id' hx, ov_id' hy] at e
  exact g_sub [0, 1] rfl e

-- X12_part
def fX12_part_86   (x75 : Nat → Int32) (x78 : Nat → Int32)  (k32 : Int32 → Int32 → Int32 → Int32 → Int32 → Int32 → Option (Int32)) (v1 : Int32) (v2 : Int32) (v3 : Int32) (v4 : Int32) (v5 : Int32) (v6 : Int32) : Option (Int32) := bn (v6 + 1) fun t_1 => (k32 v1 v2 v3 v4 v5 t_1)
set_option maxHeartbeats 4000000 in
set_option maxRecDepth 100000 in
theorem wX12_part_86 {l : Launch} {b0 : Nat} {D : GD} {K : KT} {n : Nat} {κ : QT} {X0 : XT} {Y0 : YT} {Z : ZT} (hL : LY n κ) (hN : ([75, 78] : List Nat).Nodup) (hM : ([] : List Nat).Nodup) (hC : gC l b0 D K RX12 cX12_part (some FieldType.int) 7 3 68 0 0) {x75 : Nat → Int32} {x78 : Nat → Int32} {r : Int32} (hret : ∀ pc loc, narrow .int (.int r) = .int r → decode cX12_part pc = .ok (.ireturn, 1) → gV l b0 D K (n, κ, ov X0 [75, 78] [x75, x78], ov Y0 [] [], Z, 0, 0) pc loc [.int r]) {k32 : Int32 → Int32 → Int32 → Int32 → Int32 → Int32 → Option (Int32)} (hk32 : ∀ (v1 : Int32) (v2 : Int32) (v3 : Int32) (v4 : Int32) (v5 : Int32) (v6 : Int32), k32 v1 v2 v3 v4 v5 v6 = some r → gV l b0 D K (n, κ, ov X0 [75, 78] [x75, x78], ov Y0 [] [], Z, 0, 0) 32 [(0, .ref (b0 + 74)), (1, .int v1), (2, .int v2), (3, .int v3), (4, .int v4), (5, .int v5), (6, .int v6)] []) {v1 : Int32} {v2 : Int32} {v3 : Int32} {v4 : Int32} {v5 : Int32} {v6 : Int32} (hf : fX12_part_86 x75 x78 k32 v1 v2 v3 v4 v5 v6 = some r) : gV l b0 D K (n, κ, ov X0 [75, 78] [x75, x78], ov Y0 [] [], Z, 0, 0) 86 [(0, .ref (b0 + 74)), (1, .int v1), (2, .int v2), (3, .int v3), (4, .int v4), (5, .int v5), (6, .int v6)] [] := by
  unfold fX12_part_86 at hf
  obtain ⟨t_1, et_1, hf⟩ := bnE hf
  refine g_iinc hC (i := 6) (v := t_1) [(6, .int t_1), (0, .ref (b0 + 74)), (1, .int v1), (2, .int v2), (3, .int v3), (4, .int v4), (5, .int v5)] dX12_part_86 (q := 6) rfl ((congrArg (HAdd.hAdd v6) ic_1).trans et_1.symm) (by decide) rfl ?_
  refine g_goto hC 32 dX12_part_89 (by decide) ?_
  exact g_sub [1, 2, 3, 4, 5, 6, 0] rfl (hk32 v1 v2 v3 v4 v5 t_1 hf)

def fX12_part_32b   (x75 : Nat → Int32) (x78 : Nat → Int32)  (k32 : Int32 → Int32 → Int32 → Int32 → Int32 → Int32 → Option (Int32)) (v1 : Int32) (v2 : Int32) (v3 : Int32) (v4 : Int32) (v5 : Int32) (v6 : Int32) : Option (Int32) := gd (inb 4 11) (if (1 <<< ((x75 (4 : Int32).toNatClampNeg) &&& 31)) ≤ v6 then (if v3 = 0 then (some v5) else (some v4)) else (bd1 (fX12_has v6 v1) fun r_2 => (if r_2 = 0 then (fX12_part_86 x75 x78 k32 v1 v2 v3 v4 v5 v6) else (bd1 (fX12_has v6 v2) fun r_4 => (if r_4 = 0 then (bd1 (fX12_leadsOut x75 x78 v6) fun r_6 => (if v5 ≤ r_6 then (fX12_part_86 x75 x78 k32 v1 v2 v3 v4 v5 v6) else (bd1 (fX12_leadsOut x75 x78 v6) fun r_8 => (fX12_part_86 x75 x78 k32 v1 v2 v3 v6 r_8 v6)))) else (fX12_part_86 x75 x78 k32 v1 v2 v3 v4 v5 v6))))))
def fX12_part_32   (x75 : Nat → Int32) (x78 : Nat → Int32)  : Int32 → Int32 → Int32 → Int32 → Int32 → Int32 → Option (Int32) := lq6 (fX12_part_32b x75 x78 ) 5000
set_option maxHeartbeats 4000000 in
set_option maxRecDepth 100000 in
theorem wX12_part_32 {l : Launch} {b0 : Nat} {D : GD} {K : KT} {n : Nat} {κ : QT} {X0 : XT} {Y0 : YT} {Z : ZT} (hL : LY n κ) (hN : ([75, 78] : List Nat).Nodup) (hM : ([] : List Nat).Nodup) (hC : gC l b0 D K RX12 cX12_part (some FieldType.int) 7 3 68 0 0) {x75 : Nat → Int32} {x78 : Nat → Int32} {r : Int32} (hret : ∀ pc loc, narrow .int (.int r) = .int r → decode cX12_part pc = .ok (.ireturn, 1) → gV l b0 D K (n, κ, ov X0 [75, 78] [x75, x78], ov Y0 [] [], Z, 0, 0) pc loc [.int r]) : ∀ (j : Nat) (v1 : Int32) (v2 : Int32) (v3 : Int32) (v4 : Int32) (v5 : Int32) (v6 : Int32), lq6 (fX12_part_32b x75 x78 ) j v1 v2 v3 v4 v5 v6 = some r → gV l b0 D K (n, κ, ov X0 [75, 78] [x75, x78], ov Y0 [] [], Z, 0, 0) 32 [(0, .ref (b0 + 74)), (1, .int v1), (2, .int v2), (3, .int v3), (4, .int v4), (5, .int v5), (6, .int v6)] [] := by
  intro j
  induction j with
  | zero => intro v1 v2 v3 v4 v5 v6 hf; cases hf
  | succ j hk32 =>
    intro v1 v2 v3 v4 v5 v6 hf
    replace hf : fX12_part_32b x75 x78  (lq6 (fX12_part_32b x75 x78 ) j) v1 v2 v3 v4 v5 v6 = some r := hf
    unfold fX12_part_32b at hf
    refine g_iload hC 6 dX12_part_32 rfl ?_
    refine g_iconst hC (v := 1) dX12_part_34 ic_1 ?_
    refine g_aload_n hC 0 dX12_part_35 rfl rfl ?_
    refine gt_X12_9 hC (a := 74) (kk_74 hL) (kn_74 hL) dX12_part_36 ?_
    refine g_ref (b := 75) rfl ?_
    refine g_iconst hC (v := 4) dX12_part_39 ic_4 ?_
    obtain ⟨h_1, hf⟩ := gdE hf
    refine g_iald hC (x := x75) (kk_75 hL) (kn_75 hL) (ov_get hN 0 rfl rfl) (inb_in h_1) dX12_part_40 ?_
    refine g_ishl hC dX12_part_41 ?_
    refine g_icmp_ge hC 92 dX12_part_42 (by decide) (fun hc => ?_) (fun hc => ?_)
    · replace hf := ifT hf hc
      refine g_iload_n hC 3 dX12_part_92 rfl rfl ?_
      refine g_if_ne hC 101 dX12_part_93 (by decide) (fun hc => ?_) (fun hc => ?_)
      · replace hf := ifF hf hc
        refine g_iload hC 4 dX12_part_101 rfl ?_
        obtain rfl := sm1E hf
        exact hret _ _ rfl dX12_part_103
      · replace hf := ifT hf hc
        refine g_iload hC 5 dX12_part_96 rfl ?_
        refine g_goto hC 103 dX12_part_98 (by decide) ?_
        obtain rfl := sm1E hf
        exact hret _ _ rfl dX12_part_103
    · replace hf := ifF hf hc
      refine g_iload hC 6 dX12_part_45 rfl ?_
      refine g_iload_n hC 1 dX12_part_47 rfl rfl ?_
      obtain ⟨r_2, q_3, hf⟩ := bd1E hf
      refine g_callS_i hC (X' := ov X0 [75, 78] [x75, x78]) (Y' := ov Y0 [] []) (As := [.int v6, .int v1]) (gMi_eq (c_X12_has l hL (ov_map hN [] (by rfl) (by rfl)) (ov_map hM [] (by rfl) (by rfl)) q_3) (ov_ovE hN (by rfl) [] [0, 1] (by rfl) (by rfl) [x75, x78] (by rfl) (by rfl) (by rfl) 2 (by rfl) (by decide)) (ov_ovE hM (by rfl) [] [] (by rfl) (by rfl) [] (by rfl) (by rfl) (by rfl) 0 (by rfl) (by decide))) tw_1549 tw_1547 tw_127 tw_1548 pd_X12_has (by decide) (by decide) rfl rfl (Nat.le_of_ble_eq_true rfl) rfl dX12_part_48 ?_
      refine g_if_eq hC 86 dX12_part_51 (by decide) (fun hc => ?_) (fun hc => ?_)
      · replace hf := ifT hf hc
        exact g_sub [0, 1, 2, 3, 4, 5, 6] rfl (wX12_part_86 hL hN hM hC  hret hk32 hf)
      · replace hf := ifF hf hc
        refine g_iload hC 6 dX12_part_54 rfl ?_
        refine g_iload_n hC 2 dX12_part_56 rfl rfl ?_
        obtain ⟨r_4, q_5, hf⟩ := bd1E hf
        refine g_callS_i hC (X' := ov X0 [75, 78] [x75, x78]) (Y' := ov Y0 [] []) (As := [.int v6, .int v2]) (gMi_eq (c_X12_has l hL (ov_map hN [] (by rfl) (by rfl)) (ov_map hM [] (by rfl) (by rfl)) q_5) (ov_ovE hN (by rfl) [] [0, 1] (by rfl) (by rfl) [x75, x78] (by rfl) (by rfl) (by rfl) 2 (by rfl) (by decide)) (ov_ovE hM (by rfl) [] [] (by rfl) (by rfl) [] (by rfl) (by rfl) (by rfl) 0 (by rfl) (by decide))) tw_1549 tw_1547 tw_127 tw_1548 pd_X12_has (by decide) (by decide) rfl rfl (Nat.le_of_ble_eq_true rfl) rfl dX12_part_57 ?_
        refine g_if_ne hC 86 dX12_part_60 (by decide) (fun hc => ?_) (fun hc => ?_)
        · replace hf := ifF hf hc
          exact g_sub [0, 1, 2, 3, 4, 5, 6] rfl (wX12_part_86 hL hN hM hC  hret hk32 hf)
        · replace hf := ifT hf hc
          refine g_aload_n hC 0 dX12_part_63 rfl rfl ?_
          refine g_iload hC 6 dX12_part_64 rfl ?_
          obtain ⟨r_6, q_7, hf⟩ := bd1E hf
          refine g_callV_i (a := 74) hC (X' := ov X0 [75, 78] [x75, x78]) (Y' := ov Y0 [] []) (As := [.int v6]) (gMi_eq (c_X12_leadsOut l hL (ov_map hN [0, 1] (by rfl) (by rfl)) (ov_map hM [] (by rfl) (by rfl)) q_7) (ov_ovE hN (by rfl) [0, 1] [] (by rfl) (by rfl) [] (by rfl) (by rfl) (by rfl) 2 (by rfl) (by decide)) (ov_ovE hM (by rfl) [] [] (by rfl) (by rfl) [] (by rfl) (by rfl) (by rfl) 0 (by rfl) (by decide))) tw_1710 tw_1707 tw_127 tw_1709 tw_104 (ci := 12) rfl (by decide) (kk_74 hL) (kn_74 hL) pd_X12_leadsOut (by decide) (by decide) rfl rfl (Nat.le_of_ble_eq_true rfl) rfl dX12_part_66 ?_
          refine g_iload hC 5 dX12_part_69 rfl ?_
          refine g_icmp_ge hC 86 dX12_part_71 (by decide) (fun hc => ?_) (fun hc => ?_)
          · replace hf := ifT hf hc
            exact g_sub [0, 1, 2, 3, 4, 5, 6] rfl (wX12_part_86 hL hN hM hC  hret hk32 hf)
          · replace hf := ifF hf hc
            refine g_iload hC 6 dX12_part_74 rfl ?_
            refine g_istore hC (i := 4) [(4, .int v6), (0, .ref (b0 + 74)), (1, .int v1), (2, .int v2), (3, .int v3), (5, .int v5), (6, .int v6)] dX12_part_76 (by decide) rfl ?_
            refine g_aload_n hC 1 dX12_part_78 rfl rfl ?_
            refine g_iload hC 6 dX12_part_79 rfl ?_
            obtain ⟨r_8, q_9, hf⟩ := bd1E hf
            refine g_callV_i (a := 74) hC (X' := ov X0 [75, 78] [x75, x78]) (Y' := ov Y0 [] []) (As := [.int v6]) (gMi_eq (c_X12_leadsOut l hL (ov_map hN [0, 1] (by rfl) (by rfl)) (ov_map hM [] (by rfl) (by rfl)) q_9) (ov_ovE hN (by rfl) [0, 1] [] (by rfl) (by rfl) [] (by rfl) (by rfl) (by rfl) 2 (by rfl) (by decide)) (ov_ovE hM (by rfl) [] [] (by rfl) (by rfl) [] (by rfl) (by rfl) (by rfl) 0 (by rfl) (by decide))) tw_1710 tw_1707 tw_127 tw_1709 tw_104 (ci := 12) rfl (by decide) (kk_74 hL) (kn_74 hL) pd_X12_leadsOut (by decide) (by decide) rfl rfl (Nat.le_of_ble_eq_true rfl) rfl dX12_part_81 ?_
            refine g_istore hC (i := 5) [(5, .int r_8), (4, .int v6), (0, .ref (b0 + 74)), (1, .int v1), (2, .int v2), (3, .int v3), (6, .int v6)] dX12_part_84 (by decide) rfl ?_
            exact g_sub [2, 3, 4, 5, 1, 0, 6] rfl (wX12_part_86 hL hN hM hC  hret hk32 hf)

def fX12_part_0   (x75 : Nat → Int32) (x78 : Nat → Int32)  (v1 : Int32) (v2 : Int32) (v3 : Int32) : Option (Int32) := bd1 (fX12_areTwo x75 v1 v2) fun r_1 => (if r_1 = 0 then (some (-1)) else (bd1 (fX12_in v3.toInt64 0 1) fun r_3 => (if r_3 = 0 then (some (-1)) else (fX12_part_32 x75 x78  v1 v2 v3 (-1) 100000 0))))
set_option maxHeartbeats 4000000 in
set_option maxRecDepth 100000 in
theorem wX12_part_0 {l : Launch} {b0 : Nat} {D : GD} {K : KT} {n : Nat} {κ : QT} {X0 : XT} {Y0 : YT} {Z : ZT} (hL : LY n κ) (hN : ([75, 78] : List Nat).Nodup) (hM : ([] : List Nat).Nodup) (hC : gC l b0 D K RX12 cX12_part (some FieldType.int) 7 3 68 0 0) {x75 : Nat → Int32} {x78 : Nat → Int32} {r : Int32} (hret : ∀ pc loc, narrow .int (.int r) = .int r → decode cX12_part pc = .ok (.ireturn, 1) → gV l b0 D K (n, κ, ov X0 [75, 78] [x75, x78], ov Y0 [] [], Z, 0, 0) pc loc [.int r]) {v1 : Int32} {v2 : Int32} {v3 : Int32} (hf : fX12_part_0 x75 x78  v1 v2 v3 = some r) : gV l b0 D K (n, κ, ov X0 [75, 78] [x75, x78], ov Y0 [] [], Z, 0, 0) 0 [(0, .ref (b0 + 74)), (1, .int v1), (2, .int v2), (3, .int v3)] [] := by
  unfold fX12_part_0 at hf
  refine g_aload_n hC 0 dX12_part_0 rfl rfl ?_
  refine g_iload_n hC 1 dX12_part_1 rfl rfl ?_
  refine g_iload_n hC 2 dX12_part_2 rfl rfl ?_
  obtain ⟨r_1, q_2, hf⟩ := bd1E hf
  refine g_callV_i (a := 74) hC (X' := ov X0 [75, 78] [x75, x78]) (Y' := ov Y0 [] []) (As := [.int v1, .int v2]) (gMi_eq (c_X12_areTwo l hL (ov_map hN [0] (by rfl) (by rfl)) (ov_map hM [] (by rfl) (by rfl)) q_2) (ov_ovE hN (by rfl) [0] [1] (by rfl) (by rfl) [x78] (by rfl) (by rfl) (by rfl) 2 (by rfl) (by decide)) (ov_ovE hM (by rfl) [] [] (by rfl) (by rfl) [] (by rfl) (by rfl) (by rfl) 0 (by rfl) (by decide))) tw_1561 tw_1558 tw_127 tw_1560 tw_80 (ci := 12) rfl (by decide) (kk_74 hL) (kn_74 hL) pd_X12_areTwo (by decide) (by decide) rfl rfl (Nat.le_of_ble_eq_true rfl) rfl dX12_part_3 ?_
  refine g_if_eq hC 19 dX12_part_6 (by decide) (fun hc => ?_) (fun hc => ?_)
  · replace hf := ifT hf hc
    refine g_iconst hC (v := (-1)) dX12_part_19 ic_m1 ?_
    obtain rfl := sm1E hf
    exact hret _ _ rfl dX12_part_20
  · replace hf := ifF hf hc
    refine g_iload_n hC 3 dX12_part_9 rfl rfl ?_
    refine g_i2l hC dX12_part_10 ?_
    refine g_lconst hC (v := 0) dX12_part_11 rfl ?_
    refine g_lconst hC (v := 1) dX12_part_12 rfl ?_
    obtain ⟨r_3, q_4, hf⟩ := bd1E hf
    refine g_callS_i hC (X' := ov X0 [75, 78] [x75, x78]) (Y' := ov Y0 [] []) (As := [.long v3.toInt64, .long 0, .long 1]) (gMi_eq (c_X12_in l hL (ov_map hN [] (by rfl) (by rfl)) (ov_map hM [] (by rfl) (by rfl)) q_4) (ov_ovE hN (by rfl) [] [0, 1] (by rfl) (by rfl) [x75, x78] (by rfl) (by rfl) (by rfl) 2 (by rfl) (by decide)) (ov_ovE hM (by rfl) [] [] (by rfl) (by rfl) [] (by rfl) (by rfl) (by rfl) 0 (by rfl) (by decide))) tw_1428 tw_1426 tw_127 tw_1427 pd_X12_in (by decide) (by decide) rfl rfl (Nat.le_of_ble_eq_true rfl) rfl dX12_part_13 ?_
    refine g_if_ne hC 21 dX12_part_16 (by decide) (fun hc => ?_) (fun hc => ?_)
    · replace hf := ifF hf hc
      refine g_iconst hC (v := (-1)) dX12_part_21 ic_m1 ?_
      refine g_istore hC (i := 4) [(4, .int (-1)), (0, .ref (b0 + 74)), (1, .int v1), (2, .int v2), (3, .int v3)] dX12_part_22 (by decide) rfl ?_
      refine g_ldc_w hC (v := 100000) tw_1706 dX12_part_24 ?_
      refine g_istore hC (i := 5) [(5, .int 100000), (4, .int (-1)), (0, .ref (b0 + 74)), (1, .int v1), (2, .int v2), (3, .int v3)] dX12_part_27 (by decide) rfl ?_
      refine g_iconst hC (v := 0) dX12_part_29 ic_0 ?_
      refine g_istore hC (i := 6) [(6, .int 0), (5, .int 100000), (4, .int (-1)), (0, .ref (b0 + 74)), (1, .int v1), (2, .int v2), (3, .int v3)] dX12_part_30 (by decide) rfl ?_
      exact g_sub [3, 4, 5, 6, 2, 1, 0] rfl (wX12_part_32 hL hN hM hC  hret  5000 v1 v2 v3 (-1) 100000 0 hf)
    · replace hf := ifT hf hc
      refine g_iconst hC (v := (-1)) dX12_part_19 ic_m1 ?_
      obtain rfl := sm1E hf
      exact hret _ _ rfl dX12_part_20

def fX12_part   (x75 : Nat → Int32) (x78 : Nat → Int32)  (v1 : Int32) (v2 : Int32) (v3 : Int32)   : Option (Int32) := fX12_part_0 x75 x78 v1 v2 v3

set_option maxHeartbeats 4000000 in
set_option maxRecDepth 100000 in
theorem c_X12_part (l : Launch) {b0 : Nat} {D : GD} {n : Nat} {κ : QT} {X0 : XT} {Y0 : YT} {Z : ZT} (hL : LY n κ) {x75 : Nat → Int32} {x78 : Nat → Int32} (hx : ([75, 78] : List Nat).map X0 = [x75, x78]) (hy : ([] : List Nat).map Y0 = []) {v1 : Int32} {v2 : Int32} {v3 : Int32} {r : Int32} (hf : fX12_part x75 x78 v1 v2 v3 = some r) : gMi l yX12_part cX12_part 7 (some FieldType.int) 3 68 0 0 b0 D [.ref (b0 + 74), .int v1, .int v2, .int v3] (n, κ, X0, Y0, Z) (n, κ, ov X0 [75, 78] [x75, x78], ov Y0 [] [], Z) r := by
  have hN : ([75, 78] : List Nat).Nodup := by decide
  have hM : ([] : List Nat).Nodup := by decide
  refine g_meti (own := RX12) (by decide) rfl rfl (Nat.le_of_ble_eq_true rfl) ?_
  intro K hC hret
  have e := wX12_part_0 hL hN hM hC  hret hf
  rw [ov_id' hx, ov_id' hy] at e
  exact g_sub [0, 1, 2, 3] rfl e

-- X12_blocks
def fX12_blocks_100   (x74 : Nat → Int32) (x75 : Nat → Int32) (x76 : Nat → Int32) (x78 : Nat → Int32) (x79 : Nat → Int32)  (k29 : Int32 → Int32 → Int32 → Int32 → Int32 → Option (Int32)) (v1 : Int32) (v2 : Int32) (v3 : Int32) (v4 : Int32) (v5 : Int32) : Option (Int32) := bn (v5 + 1) fun t_1 => (k29 v1 v2 v3 v4 t_1)
set_option maxHeartbeats 4000000 in
set_option maxRecDepth 100000 in
theorem wX12_blocks_100 {l : Launch} {b0 : Nat} {D : GD} {K : KT} {n : Nat} {κ : QT} {X0 : XT} {Y0 : YT} {Z : ZT} (hL : LY n κ) (hN : ([74, 75, 76, 78, 79] : List Nat).Nodup) (hM : ([] : List Nat).Nodup) (hC : gC l b0 D K RX12 cX12_blocks (some FieldType.int) 7 2 48 0 0) {x74 : Nat → Int32} {x75 : Nat → Int32} {x76 : Nat → Int32} {x78 : Nat → Int32} {x79 : Nat → Int32} {r : Int32} (hret : ∀ pc loc, narrow .int (.int r) = .int r → decode cX12_blocks pc = .ok (.ireturn, 1) → gV l b0 D K (n, κ, ov X0 [74, 75, 76, 78, 79] [x74, x75, x76, x78, x79], ov Y0 [] [], Z, 0, 0) pc loc [.int r]) {k29 : Int32 → Int32 → Int32 → Int32 → Int32 → Option (Int32)} (hk29 : ∀ (v1 : Int32) (v2 : Int32) (v3 : Int32) (v4 : Int32) (v5 : Int32), k29 v1 v2 v3 v4 v5 = some r → gV l b0 D K (n, κ, ov X0 [74, 75, 76, 78, 79] [x74, x75, x76, x78, x79], ov Y0 [] [], Z, 0, 0) 29 [(0, .ref (b0 + 74)), (1, .int v1), (2, .int v2), (3, .int v3), (4, .int v4), (5, .int v5)] []) {v1 : Int32} {v2 : Int32} {v3 : Int32} {v4 : Int32} {v5 : Int32} (hf : fX12_blocks_100 x74 x75 x76 x78 x79 k29 v1 v2 v3 v4 v5 = some r) : gV l b0 D K (n, κ, ov X0 [74, 75, 76, 78, 79] [x74, x75, x76, x78, x79], ov Y0 [] [], Z, 0, 0) 100 [(0, .ref (b0 + 74)), (1, .int v1), (2, .int v2), (3, .int v3), (4, .int v4), (5, .int v5)] [] := by
  unfold fX12_blocks_100 at hf
  obtain ⟨t_1, et_1, hf⟩ := bnE hf
  refine g_iinc hC (i := 5) (v := t_1) [(5, .int t_1), (0, .ref (b0 + 74)), (1, .int v1), (2, .int v2), (3, .int v3), (4, .int v4)] dX12_blocks_100 (q := 5) rfl ((congrArg (HAdd.hAdd v5) ic_1).trans et_1.symm) (by decide) rfl ?_
  refine g_goto hC 29 dX12_blocks_103 (by decide) ?_
  exact g_sub [1, 2, 3, 4, 5, 0] rfl (hk29 v1 v2 v3 v4 t_1 hf)

def fX12_blocks_90   (x74 : Nat → Int32) (x75 : Nat → Int32) (x76 : Nat → Int32) (x78 : Nat → Int32) (x79 : Nat → Int32)  (k29 : Int32 → Int32 → Int32 → Int32 → Int32 → Option (Int32)) (v1 : Int32) (v2 : Int32) (v3 : Int32) (v5 : Int32) (v6 : Int32) (s0 : Int32) : Option (Int32) := bn (v3 ||| v6) fun t_1 => (bn (v2 + 1) fun t_2 => (fX12_blocks_100 x74 x75 x76 x78 x79 k29 v1 t_2 t_1 s0 v5))
set_option maxHeartbeats 4000000 in
set_option maxRecDepth 100000 in
theorem wX12_blocks_90 {l : Launch} {b0 : Nat} {D : GD} {K : KT} {n : Nat} {κ : QT} {X0 : XT} {Y0 : YT} {Z : ZT} (hL : LY n κ) (hN : ([74, 75, 76, 78, 79] : List Nat).Nodup) (hM : ([] : List Nat).Nodup) (hC : gC l b0 D K RX12 cX12_blocks (some FieldType.int) 7 2 48 0 0) {x74 : Nat → Int32} {x75 : Nat → Int32} {x76 : Nat → Int32} {x78 : Nat → Int32} {x79 : Nat → Int32} {r : Int32} (hret : ∀ pc loc, narrow .int (.int r) = .int r → decode cX12_blocks pc = .ok (.ireturn, 1) → gV l b0 D K (n, κ, ov X0 [74, 75, 76, 78, 79] [x74, x75, x76, x78, x79], ov Y0 [] [], Z, 0, 0) pc loc [.int r]) {k29 : Int32 → Int32 → Int32 → Int32 → Int32 → Option (Int32)} (hk29 : ∀ (v1 : Int32) (v2 : Int32) (v3 : Int32) (v4 : Int32) (v5 : Int32), k29 v1 v2 v3 v4 v5 = some r → gV l b0 D K (n, κ, ov X0 [74, 75, 76, 78, 79] [x74, x75, x76, x78, x79], ov Y0 [] [], Z, 0, 0) 29 [(0, .ref (b0 + 74)), (1, .int v1), (2, .int v2), (3, .int v3), (4, .int v4), (5, .int v5)] []) {v1 : Int32} {v2 : Int32} {v3 : Int32} {v5 : Int32} {v6 : Int32} {s0 : Int32} (hf : fX12_blocks_90 x74 x75 x76 x78 x79 k29 v1 v2 v3 v5 v6 s0 = some r) : gV l b0 D K (n, κ, ov X0 [74, 75, 76, 78, 79] [x74, x75, x76, x78, x79], ov Y0 [] [], Z, 0, 0) 90 [(0, .ref (b0 + 74)), (1, .int v1), (2, .int v2), (3, .int v3), (5, .int v5), (6, .int v6)] [.int s0] := by
  unfold fX12_blocks_90 at hf
  refine g_istore hC (i := 4) [(4, .int s0), (0, .ref (b0 + 74)), (1, .int v1), (2, .int v2), (3, .int v3), (5, .int v5), (6, .int v6)] dX12_blocks_90 (by decide) rfl ?_
  refine g_iload_n hC 4 dX12_blocks_92 rfl rfl ?_
  refine g_iload hC 6 dX12_blocks_93 rfl ?_
  refine g_ior hC dX12_blocks_95 ?_
  obtain ⟨t_1, et_1, hf⟩ := bnE hf
  refine g_topi et_1 ?_
  refine g_istore_n hC (i := 3) [(3, .int t_1), (4, .int s0), (0, .ref (b0 + 74)), (1, .int v1), (2, .int v2), (5, .int v5), (6, .int v6)] rfl dX12_blocks_96 (by decide) rfl ?_
  obtain ⟨t_2, et_2, hf⟩ := bnE hf
  refine g_iinc hC (i := 2) (v := t_2) [(2, .int t_2), (3, .int t_1), (4, .int s0), (0, .ref (b0 + 74)), (1, .int v1), (5, .int v5), (6, .int v6)] dX12_blocks_97 (q := 4) rfl ((congrArg (HAdd.hAdd v2) ic_1).trans et_2.symm) (by decide) rfl ?_
  exact g_sub [3, 4, 0, 1, 2, 5] rfl (wX12_blocks_100 hL hN hM hC  hret hk29 hf)

def fX12_blocks_29b   (x74 : Nat → Int32) (x75 : Nat → Int32) (x76 : Nat → Int32) (x78 : Nat → Int32) (x79 : Nat → Int32)  (k29 : Int32 → Int32 → Int32 → Int32 → Int32 → Option (Int32)) (v1 : Int32) (v2 : Int32) (v3 : Int32) (v4 : Int32) (v5 : Int32) : Option (Int32) := gd (inb 4 11) (if (x75 (4 : Int32).toNatClampNeg) ≤ v5 then (if v1 = 0 then (some v2) else (some v4)) else (bd1 (fX12_isInRiver x75 x76 v5) fun r_2 => (if r_2 = 0 then (bd1 (fX12_has v3 v5) fun r_4 => (if r_4 = 0 then (bd1 (fX12_heat x74 x75 x79) fun r_6 => (bd1 (fX12_blockOf x75 x78 v5 r_6) fun r_8 => (bd1 (fX12_bits r_8) fun r_10 => (bd1 (fX12_bits v4) fun r_12 => (if r_10 ≤ r_12 then (fX12_blocks_90 x74 x75 x76 x78 x79 k29 v1 v2 v3 v5 r_8 v4) else (fX12_blocks_90 x74 x75 x76 x78 x79 k29 v1 v2 v3 v5 r_8 r_8)))))) else (fX12_blocks_100 x74 x75 x76 x78 x79 k29 v1 v2 v3 v4 v5))) else (fX12_blocks_100 x74 x75 x76 x78 x79 k29 v1 v2 v3 v4 v5))))
def fX12_blocks_29   (x74 : Nat → Int32) (x75 : Nat → Int32) (x76 : Nat → Int32) (x78 : Nat → Int32) (x79 : Nat → Int32)  : Int32 → Int32 → Int32 → Int32 → Int32 → Option (Int32) := lq5 (fX12_blocks_29b x74 x75 x76 x78 x79 ) 5000
set_option maxHeartbeats 4000000 in
set_option maxRecDepth 100000 in
theorem wX12_blocks_29 {l : Launch} {b0 : Nat} {D : GD} {K : KT} {n : Nat} {κ : QT} {X0 : XT} {Y0 : YT} {Z : ZT} (hL : LY n κ) (hN : ([74, 75, 76, 78, 79] : List Nat).Nodup) (hM : ([] : List Nat).Nodup) (hC : gC l b0 D K RX12 cX12_blocks (some FieldType.int) 7 2 48 0 0) {x74 : Nat → Int32} {x75 : Nat → Int32} {x76 : Nat → Int32} {x78 : Nat → Int32} {x79 : Nat → Int32} {r : Int32} (hret : ∀ pc loc, narrow .int (.int r) = .int r → decode cX12_blocks pc = .ok (.ireturn, 1) → gV l b0 D K (n, κ, ov X0 [74, 75, 76, 78, 79] [x74, x75, x76, x78, x79], ov Y0 [] [], Z, 0, 0) pc loc [.int r]) : ∀ (j : Nat) (v1 : Int32) (v2 : Int32) (v3 : Int32) (v4 : Int32) (v5 : Int32), lq5 (fX12_blocks_29b x74 x75 x76 x78 x79 ) j v1 v2 v3 v4 v5 = some r → gV l b0 D K (n, κ, ov X0 [74, 75, 76, 78, 79] [x74, x75, x76, x78, x79], ov Y0 [] [], Z, 0, 0) 29 [(0, .ref (b0 + 74)), (1, .int v1), (2, .int v2), (3, .int v3), (4, .int v4), (5, .int v5)] [] := by
  intro j
  induction j with
  | zero => intro v1 v2 v3 v4 v5 hf; cases hf
  | succ j hk29 =>
    intro v1 v2 v3 v4 v5 hf
    replace hf : fX12_blocks_29b x74 x75 x76 x78 x79  (lq5 (fX12_blocks_29b x74 x75 x76 x78 x79 ) j) v1 v2 v3 v4 v5 = some r := hf
    unfold fX12_blocks_29b at hf
    refine g_iload hC 5 dX12_blocks_29 rfl ?_
    refine g_aload_n hC 0 dX12_blocks_31 rfl rfl ?_
    refine gt_X12_9 hC (a := 74) (kk_74 hL) (kn_74 hL) dX12_blocks_32 ?_
    refine g_ref (b := 75) rfl ?_
    refine g_iconst hC (v := 4) dX12_blocks_35 ic_4 ?_
    obtain ⟨h_1, hf⟩ := gdE hf
    refine g_iald hC (x := x75) (kk_75 hL) (kn_75 hL) (ov_get hN 1 rfl rfl) (inb_in h_1) dX12_blocks_36 ?_
    refine g_icmp_ge hC 106 dX12_blocks_37 (by decide) (fun hc => ?_) (fun hc => ?_)
    · replace hf := ifT hf hc
      refine g_iload_n hC 1 dX12_blocks_106 rfl rfl ?_
      refine g_if_ne hC 114 dX12_blocks_107 (by decide) (fun hc => ?_) (fun hc => ?_)
      · replace hf := ifF hf hc
        refine g_iload hC 4 dX12_blocks_114 rfl ?_
        obtain rfl := sm1E hf
        exact hret _ _ rfl dX12_blocks_116
      · replace hf := ifT hf hc
        refine g_iload_n hC 2 dX12_blocks_110 rfl rfl ?_
        refine g_goto hC 116 dX12_blocks_111 (by decide) ?_
        obtain rfl := sm1E hf
        exact hret _ _ rfl dX12_blocks_116
    · replace hf := ifF hf hc
      refine g_aload_n hC 0 dX12_blocks_40 rfl rfl ?_
      refine g_iload hC 5 dX12_blocks_41 rfl ?_
      obtain ⟨r_2, q_3, hf⟩ := bd1E hf
      refine g_callV_i (a := 74) hC (X' := ov X0 [74, 75, 76, 78, 79] [x74, x75, x76, x78, x79]) (Y' := ov Y0 [] []) (As := [.int v5]) (gMi_eq (c_X12_isInRiver l hL (ov_map hN [1, 2] (by rfl) (by rfl)) (ov_map hM [] (by rfl) (by rfl)) q_3) (ov_ovE hN (by rfl) [1, 2] [0, 3, 4] (by rfl) (by rfl) [x74, x78, x79] (by rfl) (by rfl) (by rfl) 5 (by rfl) (by decide)) (ov_ovE hM (by rfl) [] [] (by rfl) (by rfl) [] (by rfl) (by rfl) (by rfl) 0 (by rfl) (by decide))) tw_1638 tw_1635 tw_127 tw_1637 tw_94 (ci := 12) rfl (by decide) (kk_74 hL) (kn_74 hL) pd_X12_isInRiver (by decide) (by decide) rfl rfl (Nat.le_of_ble_eq_true rfl) rfl dX12_blocks_43 ?_
      refine g_if_ne hC 100 dX12_blocks_46 (by decide) (fun hc => ?_) (fun hc => ?_)
      · replace hf := ifF hf hc
        exact g_sub [0, 1, 2, 3, 4, 5] rfl (wX12_blocks_100 hL hN hM hC  hret hk29 hf)
      · replace hf := ifT hf hc
        refine g_iload_n hC 3 dX12_blocks_49 rfl rfl ?_
        refine g_iload hC 5 dX12_blocks_50 rfl ?_
        obtain ⟨r_4, q_5, hf⟩ := bd1E hf
        refine g_callS_i hC (X' := ov X0 [74, 75, 76, 78, 79] [x74, x75, x76, x78, x79]) (Y' := ov Y0 [] []) (As := [.int v3, .int v5]) (gMi_eq (c_X12_has l hL (ov_map hN [] (by rfl) (by rfl)) (ov_map hM [] (by rfl) (by rfl)) q_5) (ov_ovE hN (by rfl) [] [0, 1, 2, 3, 4] (by rfl) (by rfl) [x74, x75, x76, x78, x79] (by rfl) (by rfl) (by rfl) 5 (by rfl) (by decide)) (ov_ovE hM (by rfl) [] [] (by rfl) (by rfl) [] (by rfl) (by rfl) (by rfl) 0 (by rfl) (by decide))) tw_1549 tw_1547 tw_127 tw_1548 pd_X12_has (by decide) (by decide) rfl rfl (Nat.le_of_ble_eq_true rfl) rfl dX12_blocks_52 ?_
        refine g_if_ne hC 100 dX12_blocks_55 (by decide) (fun hc => ?_) (fun hc => ?_)
        · replace hf := ifF hf hc
          exact g_sub [0, 1, 2, 3, 4, 5] rfl (wX12_blocks_100 hL hN hM hC  hret hk29 hf)
        · replace hf := ifT hf hc
          refine g_aload_n hC 0 dX12_blocks_58 rfl rfl ?_
          refine g_iload hC 5 dX12_blocks_59 rfl ?_
          refine g_aload_n hC 0 dX12_blocks_61 rfl rfl ?_
          obtain ⟨r_6, q_7, hf⟩ := bd1E hf
          refine g_callV_i (a := 74) hC (X' := ov X0 [74, 75, 76, 78, 79] [x74, x75, x76, x78, x79]) (Y' := ov Y0 [] []) (As := []) (gMi_eq (c_X12_heat l hL (ov_map hN [0, 1, 4] (by rfl) (by rfl)) (ov_map hM [] (by rfl) (by rfl)) q_7) (ov_ovE hN (by rfl) [0, 1, 4] [2, 3] (by rfl) (by rfl) [x76, x78] (by rfl) (by rfl) (by rfl) 5 (by rfl) (by decide)) (ov_ovE hM (by rfl) [] [] (by rfl) (by rfl) [] (by rfl) (by rfl) (by rfl) 0 (by rfl) (by decide))) tw_1538 tw_1535 tw_127 tw_1537 tw_76 (ci := 12) rfl (by decide) (kk_74 hL) (kn_74 hL) pd_X12_heat (by decide) (by decide) rfl rfl (Nat.le_of_ble_eq_true rfl) rfl dX12_blocks_62 ?_
          obtain ⟨r_8, q_9, hf⟩ := bd1E hf
          refine g_callV_i (a := 74) hC (X' := ov X0 [74, 75, 76, 78, 79] [x74, x75, x76, x78, x79]) (Y' := ov Y0 [] []) (As := [.int v5, .int r_6]) (gMi_eq (c_X12_blockOf l hL (ov_map hN [1, 3] (by rfl) (by rfl)) (ov_map hM [] (by rfl) (by rfl)) q_9) (ov_ovE hN (by rfl) [1, 3] [0, 2, 4] (by rfl) (by rfl) [x74, x76, x79] (by rfl) (by rfl) (by rfl) 5 (by rfl) (by decide)) (ov_ovE hM (by rfl) [] [] (by rfl) (by rfl) [] (by rfl) (by rfl) (by rfl) 0 (by rfl) (by decide))) tw_1546 tw_1543 tw_127 tw_1545 tw_78 (ci := 12) rfl (by decide) (kk_74 hL) (kn_74 hL) pd_X12_blockOf (by decide) (by decide) rfl rfl (Nat.le_of_ble_eq_true rfl) rfl dX12_blocks_65 ?_
          refine g_istore hC (i := 6) [(6, .int r_8), (0, .ref (b0 + 74)), (1, .int v1), (2, .int v2), (3, .int v3), (4, .int v4), (5, .int v5)] dX12_blocks_68 (by decide) rfl ?_
          refine g_iload hC 0 dX12_blocks_70 rfl ?_
          obtain ⟨r_10, q_11, hf⟩ := bd1E hf
          refine g_callS_i hC (X' := ov X0 [74, 75, 76, 78, 79] [x74, x75, x76, x78, x79]) (Y' := ov Y0 [] []) (As := [.int r_8]) (gMi_eq (c_X12_bits l hL (ov_map hN [] (by rfl) (by rfl)) (ov_map hM [] (by rfl) (by rfl)) q_11) (ov_ovE hN (by rfl) [] [0, 1, 2, 3, 4] (by rfl) (by rfl) [x74, x75, x76, x78, x79] (by rfl) (by rfl) (by rfl) 5 (by rfl) (by decide)) (ov_ovE hM (by rfl) [] [] (by rfl) (by rfl) [] (by rfl) (by rfl) (by rfl) 0 (by rfl) (by decide))) tw_1634 tw_1632 tw_127 tw_1633 pd_X12_bits (by decide) (by decide) rfl rfl (Nat.le_of_ble_eq_true rfl) rfl dX12_blocks_72 ?_
          refine g_iload hC 5 dX12_blocks_75 rfl ?_
          obtain ⟨r_12, q_13, hf⟩ := bd1E hf
          refine g_callS_i hC (X' := ov X0 [74, 75, 76, 78, 79] [x74, x75, x76, x78, x79]) (Y' := ov Y0 [] []) (As := [.int v4]) (gMi_eq (c_X12_bits l hL (ov_map hN [] (by rfl) (by rfl)) (ov_map hM [] (by rfl) (by rfl)) q_13) (ov_ovE hN (by rfl) [] [0, 1, 2, 3, 4] (by rfl) (by rfl) [x74, x75, x76, x78, x79] (by rfl) (by rfl) (by rfl) 5 (by rfl) (by decide)) (ov_ovE hM (by rfl) [] [] (by rfl) (by rfl) [] (by rfl) (by rfl) (by rfl) 0 (by rfl) (by decide))) tw_1634 tw_1632 tw_127 tw_1633 pd_X12_bits (by decide) (by decide) rfl rfl (Nat.le_of_ble_eq_true rfl) rfl dX12_blocks_77 ?_
          refine g_icmp_le hC 88 dX12_blocks_80 (by decide) (fun hc => ?_) (fun hc => ?_)
          · replace hf := ifT hf hc
            refine g_iload hC 5 dX12_blocks_88 rfl ?_
            exact g_sub [1, 2, 3, 4, 6, 0] rfl (wX12_blocks_90 hL hN hM hC  hret hk29 hf)
          · replace hf := ifF hf hc
            refine g_iload hC 0 dX12_blocks_83 rfl ?_
            refine g_goto hC 90 dX12_blocks_85 (by decide) ?_
            exact g_sub [1, 2, 3, 4, 6, 0] rfl (wX12_blocks_90 hL hN hM hC  hret hk29 hf)

def fX12_blocks_0   (x74 : Nat → Int32) (x75 : Nat → Int32) (x76 : Nat → Int32) (x78 : Nat → Int32) (x79 : Nat → Int32)  (v1 : Int32) : Option (Int32) := bd1 (fX12_isTown x75) fun r_1 => (if r_1 = 0 then (some (-1)) else (bd1 (fX12_in v1.toInt64 0 1) fun r_3 => (if r_3 = 0 then (some (-1)) else (fX12_blocks_29 x74 x75 x76 x78 x79  v1 0 0 0 0))))
set_option maxHeartbeats 4000000 in
set_option maxRecDepth 100000 in
theorem wX12_blocks_0 {l : Launch} {b0 : Nat} {D : GD} {K : KT} {n : Nat} {κ : QT} {X0 : XT} {Y0 : YT} {Z : ZT} (hL : LY n κ) (hN : ([74, 75, 76, 78, 79] : List Nat).Nodup) (hM : ([] : List Nat).Nodup) (hC : gC l b0 D K RX12 cX12_blocks (some FieldType.int) 7 2 48 0 0) {x74 : Nat → Int32} {x75 : Nat → Int32} {x76 : Nat → Int32} {x78 : Nat → Int32} {x79 : Nat → Int32} {r : Int32} (hret : ∀ pc loc, narrow .int (.int r) = .int r → decode cX12_blocks pc = .ok (.ireturn, 1) → gV l b0 D K (n, κ, ov X0 [74, 75, 76, 78, 79] [x74, x75, x76, x78, x79], ov Y0 [] [], Z, 0, 0) pc loc [.int r]) {v1 : Int32} (hf : fX12_blocks_0 x74 x75 x76 x78 x79  v1 = some r) : gV l b0 D K (n, κ, ov X0 [74, 75, 76, 78, 79] [x74, x75, x76, x78, x79], ov Y0 [] [], Z, 0, 0) 0 [(0, .ref (b0 + 74)), (1, .int v1)] [] := by
  unfold fX12_blocks_0 at hf
  refine g_aload_n hC 0 dX12_blocks_0 rfl rfl ?_
  obtain ⟨r_1, q_2, hf⟩ := bd1E hf
  refine g_callV_i (a := 74) hC (X' := ov X0 [74, 75, 76, 78, 79] [x74, x75, x76, x78, x79]) (Y' := ov Y0 [] []) (As := []) (gMi_eq (c_X12_isTown l hL (ov_map hN [1] (by rfl) (by rfl)) (ov_map hM [] (by rfl) (by rfl)) q_2) (ov_ovE hN (by rfl) [1] [0, 2, 3, 4] (by rfl) (by rfl) [x74, x76, x78, x79] (by rfl) (by rfl) (by rfl) 5 (by rfl) (by decide)) (ov_ovE hM (by rfl) [] [] (by rfl) (by rfl) [] (by rfl) (by rfl) (by rfl) 0 (by rfl) (by decide))) tw_1585 tw_1582 tw_127 tw_1584 tw_84 (ci := 12) rfl (by decide) (kk_74 hL) (kn_74 hL) pd_X12_isTown (by decide) (by decide) rfl rfl (Nat.le_of_ble_eq_true rfl) rfl dX12_blocks_1 ?_
  refine g_if_eq hC 17 dX12_blocks_4 (by decide) (fun hc => ?_) (fun hc => ?_)
  · replace hf := ifT hf hc
    refine g_iconst hC (v := (-1)) dX12_blocks_17 ic_m1 ?_
    obtain rfl := sm1E hf
    exact hret _ _ rfl dX12_blocks_18
  · replace hf := ifF hf hc
    refine g_iload_n hC 1 dX12_blocks_7 rfl rfl ?_
    refine g_i2l hC dX12_blocks_8 ?_
    refine g_lconst hC (v := 0) dX12_blocks_9 rfl ?_
    refine g_lconst hC (v := 1) dX12_blocks_10 rfl ?_
    obtain ⟨r_3, q_4, hf⟩ := bd1E hf
    refine g_callS_i hC (X' := ov X0 [74, 75, 76, 78, 79] [x74, x75, x76, x78, x79]) (Y' := ov Y0 [] []) (As := [.long v1.toInt64, .long 0, .long 1]) (gMi_eq (c_X12_in l hL (ov_map hN [] (by rfl) (by rfl)) (ov_map hM [] (by rfl) (by rfl)) q_4) (ov_ovE hN (by rfl) [] [0, 1, 2, 3, 4] (by rfl) (by rfl) [x74, x75, x76, x78, x79] (by rfl) (by rfl) (by rfl) 5 (by rfl) (by decide)) (ov_ovE hM (by rfl) [] [] (by rfl) (by rfl) [] (by rfl) (by rfl) (by rfl) 0 (by rfl) (by decide))) tw_1428 tw_1426 tw_127 tw_1427 pd_X12_in (by decide) (by decide) rfl rfl (Nat.le_of_ble_eq_true rfl) rfl dX12_blocks_11 ?_
    refine g_if_ne hC 19 dX12_blocks_14 (by decide) (fun hc => ?_) (fun hc => ?_)
    · replace hf := ifF hf hc
      refine g_iconst hC (v := 0) dX12_blocks_19 ic_0 ?_
      refine g_istore_n hC (i := 2) [(2, .int 0), (0, .ref (b0 + 74)), (1, .int v1)] rfl dX12_blocks_20 (by decide) rfl ?_
      refine g_iconst hC (v := 0) dX12_blocks_21 ic_0 ?_
      refine g_istore_n hC (i := 3) [(3, .int 0), (2, .int 0), (0, .ref (b0 + 74)), (1, .int v1)] rfl dX12_blocks_22 (by decide) rfl ?_
      refine g_iconst hC (v := 0) dX12_blocks_23 ic_0 ?_
      refine g_istore hC (i := 4) [(4, .int 0), (3, .int 0), (2, .int 0), (0, .ref (b0 + 74)), (1, .int v1)] dX12_blocks_24 (by decide) rfl ?_
      refine g_iconst hC (v := 0) dX12_blocks_26 ic_0 ?_
      refine g_istore hC (i := 5) [(5, .int 0), (4, .int 0), (3, .int 0), (2, .int 0), (0, .ref (b0 + 74)), (1, .int v1)] dX12_blocks_27 (by decide) rfl ?_
      exact g_sub [4, 5, 3, 2, 1, 0] rfl (wX12_blocks_29 hL hN hM hC  hret  5000 v1 0 0 0 0 hf)
    · replace hf := ifT hf hc
      refine g_iconst hC (v := (-1)) dX12_blocks_17 ic_m1 ?_
      obtain rfl := sm1E hf
      exact hret _ _ rfl dX12_blocks_18

def fX12_blocks   (x74 : Nat → Int32) (x75 : Nat → Int32) (x76 : Nat → Int32) (x78 : Nat → Int32) (x79 : Nat → Int32)  (v1 : Int32)   : Option (Int32) := fX12_blocks_0 x74 x75 x76 x78 x79 v1

set_option maxHeartbeats 4000000 in
set_option maxRecDepth 100000 in
theorem c_X12_blocks (l : Launch) {b0 : Nat} {D : GD} {n : Nat} {κ : QT} {X0 : XT} {Y0 : YT} {Z : ZT} (hL : LY n κ) {x74 : Nat → Int32} {x75 : Nat → Int32} {x76 : Nat → Int32} {x78 : Nat → Int32} {x79 : Nat → Int32} (hx : ([74, 75, 76, 78, 79] : List Nat).map X0 = [x74, x75, x76, x78, x79]) (hy : ([] : List Nat).map Y0 = []) {v1 : Int32} {r : Int32} (hf : fX12_blocks x74 x75 x76 x78 x79 v1 = some r) : gMi l yX12_blocks cX12_blocks 7 (some FieldType.int) 2 48 0 0 b0 D [.ref (b0 + 74), .int v1] (n, κ, X0, Y0, Z) (n, κ, ov X0 [74, 75, 76, 78, 79] [x74, x75, x76, x78, x79], ov Y0 [] [], Z) r := by
  have hN : ([74, 75, 76, 78, 79] : List Nat).Nodup := by decide
  have hM : ([] : List Nat).Nodup := by decide
  refine g_meti (own := RX12) (by decide) rfl rfl (Nat.le_of_ble_eq_true rfl) ?_
  intro K hC hret
  have e := wX12_blocks_0 hL hN hM hC  hret hf
  rw [ov_id' hx, ov_id' hy] at e
  exact g_sub [0, 1] rfl e

-- X12_stay
def fX12_stay_79   (x79 : Nat → Int32) (x92 : Nat → Int32) (x93 : Nat → Int32) (x94 : Nat → Int32) (x95 : Nat → Int32) (x96 : Nat → Int32) (x97 : Nat → Int32)  (k40 : Int32 → Int32 → Int32 → Int32 → Int32 → (Nat → Int32) → (Nat → Int32) → (Nat → Int32) → (Nat → Int32) → (Nat → Int32) → (Nat → Int32) → (Nat → Int32) → (Nat → Int64) → (Nat → Int64) → Option (Int32 × (Nat → Int32) × (Nat → Int32) × (Nat → Int32) × (Nat → Int32) × (Nat → Int32) × (Nat → Int32) × (Nat → Int32) × (Nat → Int64) × (Nat → Int64))) (v1 : Int32) (v2 : Int32) (v3 : Int32) (v5 : Int32) (s0 : Int32) (x74 : (Nat → Int32)) (x75 : (Nat → Int32)) (x76 : (Nat → Int32)) (x77 : (Nat → Int32)) (x78 : (Nat → Int32)) (x101 : (Nat → Int32)) (x112 : (Nat → Int32)) (y99 : (Nat → Int64)) (y100 : (Nat → Int64)) : Option (Int32 × (Nat → Int32) × (Nat → Int32) × (Nat → Int32) × (Nat → Int32) × (Nat → Int32) × (Nat → Int32) × (Nat → Int32) × (Nat → Int64) × (Nat → Int64)) := bn (v5 + 1) fun t_1 => (k40 v1 v2 v3 s0 t_1 x74 x75 x76 x77 x78 x101 x112 y99 y100)
set_option maxHeartbeats 4000000 in
set_option maxRecDepth 100000 in
theorem wX12_stay_79 {l : Launch} {b0 : Nat} {D : GD} {K : KT} {n : Nat} {κ : QT} {X0 : XT} {Y0 : YT} {Z : ZT} (hL : LY n κ) (hN : ([74, 75, 76, 77, 78, 79, 92, 93, 94, 95, 96, 97, 101, 112] : List Nat).Nodup) (hM : ([99, 100] : List Nat).Nodup) (hC : gC l b0 D K RX12 cX12_stay (some FieldType.int) 6 9 211 0 0) {x79 : Nat → Int32} {x92 : Nat → Int32} {x93 : Nat → Int32} {x94 : Nat → Int32} {x95 : Nat → Int32} {x96 : Nat → Int32} {x97 : Nat → Int32} {r : Int32} {rx74 : (Nat → Int32)} {rx75 : (Nat → Int32)} {rx76 : (Nat → Int32)} {rx77 : (Nat → Int32)} {rx78 : (Nat → Int32)} {rx101 : (Nat → Int32)} {rx112 : (Nat → Int32)} {ry99 : (Nat → Int64)} {ry100 : (Nat → Int64)} (hret : ∀ pc loc, narrow .int (.int r) = .int r → decode cX12_stay pc = .ok (.ireturn, 1) → gV l b0 D K (n, κ, ov X0 [74, 75, 76, 77, 78, 79, 92, 93, 94, 95, 96, 97, 101, 112] [rx74, rx75, rx76, rx77, rx78, x79, x92, x93, x94, x95, x96, x97, rx101, rx112], ov Y0 [99, 100] [ry99, ry100], Z, 0, 0) pc loc [.int r]) {k40 : Int32 → Int32 → Int32 → Int32 → Int32 → (Nat → Int32) → (Nat → Int32) → (Nat → Int32) → (Nat → Int32) → (Nat → Int32) → (Nat → Int32) → (Nat → Int32) → (Nat → Int64) → (Nat → Int64) → Option (Int32 × (Nat → Int32) × (Nat → Int32) × (Nat → Int32) × (Nat → Int32) × (Nat → Int32) × (Nat → Int32) × (Nat → Int32) × (Nat → Int64) × (Nat → Int64))} (hk40 : ∀ (v1 : Int32) (v2 : Int32) (v3 : Int32) (v4 : Int32) (v5 : Int32) (x74 : (Nat → Int32)) (x75 : (Nat → Int32)) (x76 : (Nat → Int32)) (x77 : (Nat → Int32)) (x78 : (Nat → Int32)) (x101 : (Nat → Int32)) (x112 : (Nat → Int32)) (y99 : (Nat → Int64)) (y100 : (Nat → Int64)), k40 v1 v2 v3 v4 v5 x74 x75 x76 x77 x78 x101 x112 y99 y100 = some (r, rx74, rx75, rx76, rx77, rx78, rx101, rx112, ry99, ry100) → gV l b0 D K (n, κ, ov X0 [74, 75, 76, 77, 78, 79, 92, 93, 94, 95, 96, 97, 101, 112] [x74, x75, x76, x77, x78, x79, x92, x93, x94, x95, x96, x97, x101, x112], ov Y0 [99, 100] [y99, y100], Z, 0, 0) 40 [(0, .ref (b0 + 74)), (1, .int v1), (2, .int v2), (3, .int v3), (4, .int v4), (5, .int v5)] []) {v1 : Int32} {v2 : Int32} {v3 : Int32} {v5 : Int32} {s0 : Int32} {x74 : (Nat → Int32)} {x75 : (Nat → Int32)} {x76 : (Nat → Int32)} {x77 : (Nat → Int32)} {x78 : (Nat → Int32)} {x101 : (Nat → Int32)} {x112 : (Nat → Int32)} {y99 : (Nat → Int64)} {y100 : (Nat → Int64)} (hf : fX12_stay_79 x79 x92 x93 x94 x95 x96 x97 k40 v1 v2 v3 v5 s0 x74 x75 x76 x77 x78 x101 x112 y99 y100 = some (r, rx74, rx75, rx76, rx77, rx78, rx101, rx112, ry99, ry100)) : gV l b0 D K (n, κ, ov X0 [74, 75, 76, 77, 78, 79, 92, 93, 94, 95, 96, 97, 101, 112] [x74, x75, x76, x77, x78, x79, x92, x93, x94, x95, x96, x97, x101, x112], ov Y0 [99, 100] [y99, y100], Z, 0, 0) 79 [(0, .ref (b0 + 74)), (1, .int v1), (2, .int v2), (3, .int v3), (5, .int v5)] [.int s0] := by
  unfold fX12_stay_79 at hf
  refine g_istore hC (i := 4) [(4, .int s0), (0, .ref (b0 + 74)), (1, .int v1), (2, .int v2), (3, .int v3), (5, .int v5)] dX12_stay_79 (by decide) rfl ?_
  obtain ⟨t_1, et_1, hf⟩ := bnE hf
  refine g_iinc hC (i := 5) (v := t_1) [(5, .int t_1), (4, .int s0), (0, .ref (b0 + 74)), (1, .int v1), (2, .int v2), (3, .int v3)] dX12_stay_81 (q := 5) rfl ((congrArg (HAdd.hAdd v5) ic_1).trans et_1.symm) (by decide) rfl ?_
  refine g_goto hC 40 dX12_stay_84 (by decide) ?_
  exact g_sub [2, 3, 4, 5, 1, 0] rfl (hk40 v1 v2 v3 s0 t_1 x74 x75 x76 x77 x78 x101 x112 y99 y100 hf)

def fX12_stay_40b   (x79 : Nat → Int32) (x92 : Nat → Int32) (x93 : Nat → Int32) (x94 : Nat → Int32) (x95 : Nat → Int32) (x96 : Nat → Int32) (x97 : Nat → Int32)  (k40 : Int32 → Int32 → Int32 → Int32 → Int32 → (Nat → Int32) → (Nat → Int32) → (Nat → Int32) → (Nat → Int32) → (Nat → Int32) → (Nat → Int32) → (Nat → Int32) → (Nat → Int64) → (Nat → Int64) → Option (Int32 × (Nat → Int32) × (Nat → Int32) × (Nat → Int32) × (Nat → Int32) × (Nat → Int32) × (Nat → Int32) × (Nat → Int32) × (Nat → Int64) × (Nat → Int64))) (v1 : Int32) (v2 : Int32) (v3 : Int32) (v4 : Int32) (v5 : Int32) (x74 : (Nat → Int32)) (x75 : (Nat → Int32)) (x76 : (Nat → Int32)) (x77 : (Nat → Int32)) (x78 : (Nat → Int32)) (x101 : (Nat → Int32)) (x112 : (Nat → Int32)) (y99 : (Nat → Int64)) (y100 : (Nat → Int64)) : Option (Int32 × (Nat → Int32) × (Nat → Int32) × (Nat → Int32) × (Nat → Int32) × (Nat → Int32) × (Nat → Int32) × (Nat → Int32) × (Nat → Int64) × (Nat → Int64)) := if 9 < v5 then (some (v4, x74, x75, x76, x77, x78, x101, x112, y99, y100)) else (if v4 = (-2) then (gd (inb v1 6) (bd10 (fX12_placeIn x79 x92 x93 x94 x95 x96 x97 v1 v2 x74 x75 x76 (upd x77 v1.toNatClampNeg v5) x78 x101 x112 y99 y100) fun r_2 x74_3 x75_4 x76_5 x77_6 x78_7 x101_8 x112_9 y99_10 y100_11 => (if r_2 = v3 then (fX12_stay_79 x79 x92 x93 x94 x95 x96 x97 k40 v1 v2 v3 v5 v5 x74_3 x75_4 x76_5 x77_6 x78_7 x101_8 x112_9 y99_10 y100_11) else (fX12_stay_79 x79 x92 x93 x94 x95 x96 x97 k40 v1 v2 v3 v5 (-2) x74_3 x75_4 x76_5 x77_6 x78_7 x101_8 x112_9 y99_10 y100_11)))) else (some (v4, x74, x75, x76, x77, x78, x101, x112, y99, y100)))
def fX12_stay_40   (x79 : Nat → Int32) (x92 : Nat → Int32) (x93 : Nat → Int32) (x94 : Nat → Int32) (x95 : Nat → Int32) (x96 : Nat → Int32) (x97 : Nat → Int32)  : Int32 → Int32 → Int32 → Int32 → Int32 → (Nat → Int32) → (Nat → Int32) → (Nat → Int32) → (Nat → Int32) → (Nat → Int32) → (Nat → Int32) → (Nat → Int32) → (Nat → Int64) → (Nat → Int64) → Option (Int32 × (Nat → Int32) × (Nat → Int32) × (Nat → Int32) × (Nat → Int32) × (Nat → Int32) × (Nat → Int32) × (Nat → Int32) × (Nat → Int64) × (Nat → Int64)) := lq14 (fX12_stay_40b x79 x92 x93 x94 x95 x96 x97 ) 5000
set_option maxHeartbeats 4000000 in
set_option maxRecDepth 100000 in
theorem wX12_stay_40 {l : Launch} {b0 : Nat} {D : GD} {K : KT} {n : Nat} {κ : QT} {X0 : XT} {Y0 : YT} {Z : ZT} (hL : LY n κ) (hN : ([74, 75, 76, 77, 78, 79, 92, 93, 94, 95, 96, 97, 101, 112] : List Nat).Nodup) (hM : ([99, 100] : List Nat).Nodup) (hC : gC l b0 D K RX12 cX12_stay (some FieldType.int) 6 9 211 0 0) {x79 : Nat → Int32} {x92 : Nat → Int32} {x93 : Nat → Int32} {x94 : Nat → Int32} {x95 : Nat → Int32} {x96 : Nat → Int32} {x97 : Nat → Int32} {r : Int32} {rx74 : (Nat → Int32)} {rx75 : (Nat → Int32)} {rx76 : (Nat → Int32)} {rx77 : (Nat → Int32)} {rx78 : (Nat → Int32)} {rx101 : (Nat → Int32)} {rx112 : (Nat → Int32)} {ry99 : (Nat → Int64)} {ry100 : (Nat → Int64)} (hret : ∀ pc loc, narrow .int (.int r) = .int r → decode cX12_stay pc = .ok (.ireturn, 1) → gV l b0 D K (n, κ, ov X0 [74, 75, 76, 77, 78, 79, 92, 93, 94, 95, 96, 97, 101, 112] [rx74, rx75, rx76, rx77, rx78, x79, x92, x93, x94, x95, x96, x97, rx101, rx112], ov Y0 [99, 100] [ry99, ry100], Z, 0, 0) pc loc [.int r]) : ∀ (j : Nat) (v1 : Int32) (v2 : Int32) (v3 : Int32) (v4 : Int32) (v5 : Int32) (x74 : (Nat → Int32)) (x75 : (Nat → Int32)) (x76 : (Nat → Int32)) (x77 : (Nat → Int32)) (x78 : (Nat → Int32)) (x101 : (Nat → Int32)) (x112 : (Nat → Int32)) (y99 : (Nat → Int64)) (y100 : (Nat → Int64)), lq14 (fX12_stay_40b x79 x92 x93 x94 x95 x96 x97 ) j v1 v2 v3 v4 v5 x74 x75 x76 x77 x78 x101 x112 y99 y100 = some (r, rx74, rx75, rx76, rx77, rx78, rx101, rx112, ry99, ry100) → gV l b0 D K (n, κ, ov X0 [74, 75, 76, 77, 78, 79, 92, 93, 94, 95, 96, 97, 101, 112] [x74, x75, x76, x77, x78, x79, x92, x93, x94, x95, x96, x97, x101, x112], ov Y0 [99, 100] [y99, y100], Z, 0, 0) 40 [(0, .ref (b0 + 74)), (1, .int v1), (2, .int v2), (3, .int v3), (4, .int v4), (5, .int v5)] [] := by
  intro j
  induction j with
  | zero => intro v1 v2 v3 v4 v5 x74 x75 x76 x77 x78 x101 x112 y99 y100 hf; cases hf
  | succ j hk40 =>
    intro v1 v2 v3 v4 v5 x74 x75 x76 x77 x78 x101 x112 y99 y100 hf
    replace hf : fX12_stay_40b x79 x92 x93 x94 x95 x96 x97  (lq14 (fX12_stay_40b x79 x92 x93 x94 x95 x96 x97 ) j) v1 v2 v3 v4 v5 x74 x75 x76 x77 x78 x101 x112 y99 y100 = some (r, rx74, rx75, rx76, rx77, rx78, rx101, rx112, ry99, ry100) := hf
    unfold fX12_stay_40b at hf
    refine g_iload hC 5 dX12_stay_40 rfl ?_
    refine g_bipush hC (v := 9) dX12_stay_42 bp_9 ?_
    refine g_icmp_gt hC 87 dX12_stay_44 (by decide) (fun hc => ?_) (fun hc => ?_)
    · replace hf := ifT hf hc
      refine g_iload hC 4 dX12_stay_87 rfl ?_
      obtain ⟨rfl, rfl, rfl, rfl, rfl, rfl, rfl, rfl, rfl, rfl⟩ := sm10E hf
      exact hret _ _ rfl dX12_stay_89
    · replace hf := ifF hf hc
      refine g_iload hC 4 dX12_stay_47 rfl ?_
      refine g_bipush hC (v := (-2)) dX12_stay_49 bp_m2 ?_
      refine g_icmp_ne hC 87 dX12_stay_51 (by decide) (fun hc => ?_) (fun hc => ?_)
      · replace hf := ifF hf hc
        refine g_iload hC 4 dX12_stay_87 rfl ?_
        obtain ⟨rfl, rfl, rfl, rfl, rfl, rfl, rfl, rfl, rfl, rfl⟩ := sm10E hf
        exact hret _ _ rfl dX12_stay_89
      · replace hf := ifT hf hc
        refine g_aload_n hC 0 dX12_stay_54 rfl rfl ?_
        refine gt_X12_16 hC (a := 74) (kk_74 hL) (kn_74 hL) dX12_stay_55 ?_
        refine g_ref (b := 77) rfl ?_
        refine g_iload_n hC 1 dX12_stay_58 rfl rfl ?_
        refine g_iload hC 5 dX12_stay_59 rfl ?_
        obtain ⟨h_1, hf⟩ := gdE hf
        refine g_iast hC (x := x77) (kk_77 hL) (kn_77 hL) (ov_get hN 3 rfl rfl) (inb_in h_1) (ov_set hN (by rfl) 3 (by rfl)) dX12_stay_61 ?_
        show gV l b0 D K (n, κ, ov X0 [74, 75, 76, 77, 78, 79, 92, 93, 94, 95, 96, 97, 101, 112] [x74, x75, x76, (upd x77 v1.toNatClampNeg v5), x78, x79, x92, x93, x94, x95, x96, x97, x101, x112], ov Y0 [99, 100] [y99, y100], Z, 0, 0) 62 [(0, .ref (b0 + 74)), (1, .int v1), (2, .int v2), (3, .int v3), (4, .int v4), (5, .int v5)] []
        refine g_aload_n hC 0 dX12_stay_62 rfl rfl ?_
        refine g_iload_n hC 1 dX12_stay_63 rfl rfl ?_
        refine g_iload_n hC 2 dX12_stay_64 rfl rfl ?_
        obtain ⟨r_2, x74_3, x75_4, x76_5, x77_6, x78_7, x101_8, x112_9, y99_10, y100_11, q_12, hf⟩ := bd10E hf
        refine g_callV_i (a := 74) hC (X' := ov X0 [74, 75, 76, 77, 78, 79, 92, 93, 94, 95, 96, 97, 101, 112] [x74_3, x75_4, x76_5, x77_6, x78_7, x79, x92, x93, x94, x95, x96, x97, x101_8, x112_9]) (Y' := ov Y0 [99, 100] [y99_10, y100_11]) (As := [.int v1, .int v2]) (gMi_eq (c_X12_placeIn l hL (ov_map hN [0, 1, 2, 3, 4, 5, 6, 7, 8, 9, 10, 11, 12, 13] (by rfl) (by rfl)) (ov_map hM [0, 1] (by rfl) (by rfl)) q_12) (ov_ovE hN (by rfl) [0, 1, 2, 3, 4, 5, 6, 7, 8, 9, 10, 11, 12, 13] [] (by rfl) (by rfl) [] (by rfl) (by rfl) (by rfl) 14 (by rfl) (by decide)) (ov_ovE hM (by rfl) [0, 1] [] (by rfl) (by rfl) [] (by rfl) (by rfl) (by rfl) 2 (by rfl) (by decide))) tw_1723 tw_1720 tw_127 tw_1722 tw_105 (ci := 12) rfl (by decide) (kk_74 hL) (kn_74 hL) pd_X12_placeIn (by decide) (by decide) rfl rfl (Nat.le_of_ble_eq_true rfl) rfl dX12_stay_65 ?_
        refine g_iload_n hC 3 dX12_stay_68 rfl rfl ?_
        refine g_icmp_ne hC 77 dX12_stay_69 (by decide) (fun hc => ?_) (fun hc => ?_)
        · replace hf := ifF hf hc
          refine g_bipush hC (v := (-2)) dX12_stay_77 bp_m2 ?_
          exact g_sub [0, 1, 2, 3, 5] rfl (wX12_stay_79 hL hN hM hC  hret hk40 hf)
        · replace hf := ifT hf hc
          refine g_iload hC 5 dX12_stay_72 rfl ?_
          refine g_goto hC 79 dX12_stay_74 (by decide) ?_
          exact g_sub [0, 1, 2, 3, 5] rfl (wX12_stay_79 hL hN hM hC  hret hk40 hf)

def fX12_stay_0   (x79 : Nat → Int32) (x92 : Nat → Int32) (x93 : Nat → Int32) (x94 : Nat → Int32) (x95 : Nat → Int32) (x96 : Nat → Int32) (x97 : Nat → Int32)  (v1 : Int32) (v2 : Int32) (x74 : (Nat → Int32)) (x75 : (Nat → Int32)) (x76 : (Nat → Int32)) (x77 : (Nat → Int32)) (x78 : (Nat → Int32)) (x101 : (Nat → Int32)) (x112 : (Nat → Int32)) (y99 : (Nat → Int64)) (y100 : (Nat → Int64)) : Option (Int32 × (Nat → Int32) × (Nat → Int32) × (Nat → Int32) × (Nat → Int32) × (Nat → Int32) × (Nat → Int32) × (Nat → Int32) × (Nat → Int64) × (Nat → Int64)) := bd1 (fX12_isHouse x75 v1) fun r_1 => (if r_1 = 0 then (some ((-1), x74, x75, x76, x77, x78, x101, x112, y99, y100)) else (bd1 (fX12_in v2.toInt64 1 60) fun r_3 => (if r_3 = 0 then (some ((-1), x74, x75, x76, x77, x78, x101, x112, y99, y100)) else (gd (inb v1 6) (bn (x76 v1.toNatClampNeg) fun t_6 => (bd6 (fX12_keepsAll x74 x75 x76 x77 x78 x112) fun x74_7 x75_8 x76_9 x77_10 x78_11 x112_12 => (fX12_stay_40 x79 x92 x93 x94 x95 x96 x97  v1 v2 t_6 (-2) 0 x74_7 x75_8 x76_9 x77_10 x78_11 x101 x112_12 y99 y100)))))))
set_option maxHeartbeats 4000000 in
set_option maxRecDepth 100000 in
theorem wX12_stay_0 {l : Launch} {b0 : Nat} {D : GD} {K : KT} {n : Nat} {κ : QT} {X0 : XT} {Y0 : YT} {Z : ZT} (hL : LY n κ) (hN : ([74, 75, 76, 77, 78, 79, 92, 93, 94, 95, 96, 97, 101, 112] : List Nat).Nodup) (hM : ([99, 100] : List Nat).Nodup) (hC : gC l b0 D K RX12 cX12_stay (some FieldType.int) 6 9 211 0 0) {x79 : Nat → Int32} {x92 : Nat → Int32} {x93 : Nat → Int32} {x94 : Nat → Int32} {x95 : Nat → Int32} {x96 : Nat → Int32} {x97 : Nat → Int32} {r : Int32} {rx74 : (Nat → Int32)} {rx75 : (Nat → Int32)} {rx76 : (Nat → Int32)} {rx77 : (Nat → Int32)} {rx78 : (Nat → Int32)} {rx101 : (Nat → Int32)} {rx112 : (Nat → Int32)} {ry99 : (Nat → Int64)} {ry100 : (Nat → Int64)} (hret : ∀ pc loc, narrow .int (.int r) = .int r → decode cX12_stay pc = .ok (.ireturn, 1) → gV l b0 D K (n, κ, ov X0 [74, 75, 76, 77, 78, 79, 92, 93, 94, 95, 96, 97, 101, 112] [rx74, rx75, rx76, rx77, rx78, x79, x92, x93, x94, x95, x96, x97, rx101, rx112], ov Y0 [99, 100] [ry99, ry100], Z, 0, 0) pc loc [.int r]) {v1 : Int32} {v2 : Int32} {x74 : (Nat → Int32)} {x75 : (Nat → Int32)} {x76 : (Nat → Int32)} {x77 : (Nat → Int32)} {x78 : (Nat → Int32)} {x101 : (Nat → Int32)} {x112 : (Nat → Int32)} {y99 : (Nat → Int64)} {y100 : (Nat → Int64)} (hf : fX12_stay_0 x79 x92 x93 x94 x95 x96 x97  v1 v2 x74 x75 x76 x77 x78 x101 x112 y99 y100 = some (r, rx74, rx75, rx76, rx77, rx78, rx101, rx112, ry99, ry100)) : gV l b0 D K (n, κ, ov X0 [74, 75, 76, 77, 78, 79, 92, 93, 94, 95, 96, 97, 101, 112] [x74, x75, x76, x77, x78, x79, x92, x93, x94, x95, x96, x97, x101, x112], ov Y0 [99, 100] [y99, y100], Z, 0, 0) 0 [(0, .ref (b0 + 74)), (1, .int v1), (2, .int v2)] [] := by
  unfold fX12_stay_0 at hf
  refine g_aload_n hC 0 dX12_stay_0 rfl rfl ?_
  refine g_iload_n hC 1 dX12_stay_1 rfl rfl ?_
  obtain ⟨r_1, q_2, hf⟩ := bd1E hf
  refine g_callV_i (a := 74) hC (X' := ov X0 [74, 75, 76, 77, 78, 79, 92, 93, 94, 95, 96, 97, 101, 112] [x74, x75, x76, x77, x78, x79, x92, x93, x94, x95, x96, x97, x101, x112]) (Y' := ov Y0 [99, 100] [y99, y100]) (As := [.int v1]) (gMi_eq (c_X12_isHouse l hL (ov_map hN [1] (by rfl) (by rfl)) (ov_map hM [] (by rfl) (by rfl)) q_2) (ov_ovE hN (by rfl) [1] [0, 2, 3, 4, 5, 6, 7, 8, 9, 10, 11, 12, 13] (by rfl) (by rfl) [x74, x76, x77, x78, x79, x92, x93, x94, x95, x96, x97, x101, x112] (by rfl) (by rfl) (by rfl) 14 (by rfl) (by decide)) (ov_ovE hM (by rfl) [] [0, 1] (by rfl) (by rfl) [y99, y100] (by rfl) (by rfl) (by rfl) 2 (by rfl) (by decide))) tw_1530 tw_1527 tw_127 tw_1529 tw_74 (ci := 12) rfl (by decide) (kk_74 hL) (kn_74 hL) pd_X12_isHouse (by decide) (by decide) rfl rfl (Nat.le_of_ble_eq_true rfl) rfl dX12_stay_2 ?_
  refine g_if_eq hC 20 dX12_stay_5 (by decide) (fun hc => ?_) (fun hc => ?_)
  · replace hf := ifT hf hc
    refine g_iconst hC (v := (-1)) dX12_stay_20 ic_m1 ?_
    obtain ⟨rfl, rfl, rfl, rfl, rfl, rfl, rfl, rfl, rfl, rfl⟩ := sm10E hf
    exact hret _ _ rfl dX12_stay_21
  · replace hf := ifF hf hc
    refine g_iload_n hC 2 dX12_stay_8 rfl rfl ?_
    refine g_i2l hC dX12_stay_9 ?_
    refine g_lconst hC (v := 1) dX12_stay_10 rfl ?_
    refine g_ldc2_w hC (v := 60) tw_1719 dX12_stay_11 ?_
    obtain ⟨r_3, q_4, hf⟩ := bd1E hf
    refine g_callS_i hC (X' := ov X0 [74, 75, 76, 77, 78, 79, 92, 93, 94, 95, 96, 97, 101, 112] [x74, x75, x76, x77, x78, x79, x92, x93, x94, x95, x96, x97, x101, x112]) (Y' := ov Y0 [99, 100] [y99, y100]) (As := [.long v2.toInt64, .long 1, .long 60]) (gMi_eq (c_X12_in l hL (ov_map hN [] (by rfl) (by rfl)) (ov_map hM [] (by rfl) (by rfl)) q_4) (ov_ovE hN (by rfl) [] [0, 1, 2, 3, 4, 5, 6, 7, 8, 9, 10, 11, 12, 13] (by rfl) (by rfl) [x74, x75, x76, x77, x78, x79, x92, x93, x94, x95, x96, x97, x101, x112] (by rfl) (by rfl) (by rfl) 14 (by rfl) (by decide)) (ov_ovE hM (by rfl) [] [0, 1] (by rfl) (by rfl) [y99, y100] (by rfl) (by rfl) (by rfl) 2 (by rfl) (by decide))) tw_1428 tw_1426 tw_127 tw_1427 pd_X12_in (by decide) (by decide) rfl rfl (Nat.le_of_ble_eq_true rfl) rfl dX12_stay_14 ?_
    refine g_if_ne hC 22 dX12_stay_17 (by decide) (fun hc => ?_) (fun hc => ?_)
    · replace hf := ifF hf hc
      refine g_aload_n hC 0 dX12_stay_22 rfl rfl ?_
      refine gt_X12_13 hC (a := 74) (kk_74 hL) (kn_74 hL) dX12_stay_23 ?_
      refine g_ref (b := 76) rfl ?_
      refine g_iload_n hC 1 dX12_stay_26 rfl rfl ?_
      obtain ⟨h_5, hf⟩ := gdE hf
      refine g_iald hC (x := x76) (kk_76 hL) (kn_76 hL) (ov_get hN 2 rfl rfl) (inb_in h_5) dX12_stay_27 ?_
      obtain ⟨t_6, et_6, hf⟩ := bnE hf
      refine g_topi et_6 ?_
      refine g_istore_n hC (i := 3) [(3, .int t_6), (0, .ref (b0 + 74)), (1, .int v1), (2, .int v2)] rfl dX12_stay_28 (by decide) rfl ?_
      refine g_bipush hC (v := (-2)) dX12_stay_29 bp_m2 ?_
      refine g_istore hC (i := 4) [(4, .int (-2)), (3, .int t_6), (0, .ref (b0 + 74)), (1, .int v1), (2, .int v2)] dX12_stay_31 (by decide) rfl ?_
      refine g_aload_n hC 2 dX12_stay_33 rfl rfl ?_
      obtain ⟨x74_7, x75_8, x76_9, x77_10, x78_11, x112_12, q_13, hf⟩ := bd6E hf
      refine g_callV_v (a := 74) hC (X' := ov X0 [74, 75, 76, 77, 78, 79, 92, 93, 94, 95, 96, 97, 101, 112] [x74_7, x75_8, x76_9, x77_10, x78_11, x79, x92, x93, x94, x95, x96, x97, x101, x112_12]) (Y' := ov Y0 [99, 100] [y99, y100]) (As := []) (gMv_eq (c_X12_keepsAll l hL (ov_map hN [0, 1, 2, 3, 4, 13] (by rfl) (by rfl)) (ov_map hM [] (by rfl) (by rfl)) q_13) (ov_ovE hN (by rfl) [0, 1, 2, 3, 4, 13] [5, 6, 7, 8, 9, 10, 11, 12] (by rfl) (by rfl) [x79, x92, x93, x94, x95, x96, x97, x101] (by rfl) (by rfl) (by rfl) 14 (by rfl) (by decide)) (ov_ovE hM (by rfl) [] [0, 1] (by rfl) (by rfl) [y99, y100] (by rfl) (by rfl) (by rfl) 2 (by rfl) (by decide))) tw_1673 tw_1670 tw_127 tw_1672 tw_97 (ci := 12) rfl (by decide) (kk_74 hL) (kn_74 hL) pd_X12_keepsAll (by decide) (by decide) rfl rfl (Nat.le_of_ble_eq_true rfl) rfl dX12_stay_34 ?_
      refine g_iconst hC (v := 0) dX12_stay_37 ic_0 ?_
      refine g_istore hC (i := 5) [(5, .int 0), (4, .int (-2)), (3, .int t_6), (0, .ref (b0 + 74)), (1, .int v1), (2, .int v2)] dX12_stay_38 (by decide) rfl ?_
      exact g_sub [3, 4, 5, 2, 1, 0] rfl (wX12_stay_40 hL hN hM hC  hret  5000 v1 v2 t_6 (-2) 0 x74_7 x75_8 x76_9 x77_10 x78_11 x101 x112_12 y99 y100 hf)
    · replace hf := ifT hf hc
      refine g_iconst hC (v := (-1)) dX12_stay_20 ic_m1 ?_
      obtain ⟨rfl, rfl, rfl, rfl, rfl, rfl, rfl, rfl, rfl, rfl⟩ := sm10E hf
      exact hret _ _ rfl dX12_stay_21

def fX12_stay   (x79 : Nat → Int32) (x92 : Nat → Int32) (x93 : Nat → Int32) (x94 : Nat → Int32) (x95 : Nat → Int32) (x96 : Nat → Int32) (x97 : Nat → Int32)  (v1 : Int32) (v2 : Int32) (x74 : Nat → Int32) (x75 : Nat → Int32) (x76 : Nat → Int32) (x77 : Nat → Int32) (x78 : Nat → Int32) (x101 : Nat → Int32) (x112 : Nat → Int32) (y99 : Nat → Int64) (y100 : Nat → Int64) : Option (Int32 × (Nat → Int32) × (Nat → Int32) × (Nat → Int32) × (Nat → Int32) × (Nat → Int32) × (Nat → Int32) × (Nat → Int32) × (Nat → Int64) × (Nat → Int64)) := fX12_stay_0 x79 x92 x93 x94 x95 x96 x97 v1 v2 x74 x75 x76 x77 x78 x101 x112 y99 y100

set_option maxHeartbeats 4000000 in
set_option maxRecDepth 100000 in
theorem c_X12_stay (l : Launch) {b0 : Nat} {D : GD} {n : Nat} {κ : QT} {X0 : XT} {Y0 : YT} {Z : ZT} (hL : LY n κ) {x74 : Nat → Int32} {x75 : Nat → Int32} {x76 : Nat → Int32} {x77 : Nat → Int32} {x78 : Nat → Int32} {x79 : Nat → Int32} {x92 : Nat → Int32} {x93 : Nat → Int32} {x94 : Nat → Int32} {x95 : Nat → Int32} {x96 : Nat → Int32} {x97 : Nat → Int32} {x101 : Nat → Int32} {x112 : Nat → Int32} {y99 : Nat → Int64} {y100 : Nat → Int64} (hx : ([74, 75, 76, 77, 78, 79, 92, 93, 94, 95, 96, 97, 101, 112] : List Nat).map X0 = [x74, x75, x76, x77, x78, x79, x92, x93, x94, x95, x96, x97, x101, x112]) (hy : ([99, 100] : List Nat).map Y0 = [y99, y100]) {v1 : Int32} {v2 : Int32} {r : Int32} {rx74 : (Nat → Int32)} {rx75 : (Nat → Int32)} {rx76 : (Nat → Int32)} {rx77 : (Nat → Int32)} {rx78 : (Nat → Int32)} {rx101 : (Nat → Int32)} {rx112 : (Nat → Int32)} {ry99 : (Nat → Int64)} {ry100 : (Nat → Int64)} (hf : fX12_stay x79 x92 x93 x94 x95 x96 x97 v1 v2 x74 x75 x76 x77 x78 x101 x112 y99 y100 = some (r, rx74, rx75, rx76, rx77, rx78, rx101, rx112, ry99, ry100)) : gMi l yX12_stay cX12_stay 6 (some FieldType.int) 9 211 0 0 b0 D [.ref (b0 + 74), .int v1, .int v2] (n, κ, X0, Y0, Z) (n, κ, ov X0 [74, 75, 76, 77, 78, 79, 92, 93, 94, 95, 96, 97, 101, 112] [rx74, rx75, rx76, rx77, rx78, x79, x92, x93, x94, x95, x96, x97, rx101, rx112], ov Y0 [99, 100] [ry99, ry100], Z) r := by
  have hN : ([74, 75, 76, 77, 78, 79, 92, 93, 94, 95, 96, 97, 101, 112] : List Nat).Nodup := by decide
  have hM : ([99, 100] : List Nat).Nodup := by decide
  refine g_meti (own := RX12) (by decide) rfl rfl (Nat.le_of_ble_eq_true rfl) ?_
  intro K hC hret
  have e := wX12_stay_0 hL hN hM hC  hret hf
  rw [ov_id' hx, ov_id' hy] at e
  exact g_sub [0, 1, 2] rfl e

-- X12_iced
def fX12_iced_78   (x79 : Nat → Int32) (x92 : Nat → Int32) (x93 : Nat → Int32) (x94 : Nat → Int32) (x95 : Nat → Int32) (x96 : Nat → Int32) (x97 : Nat → Int32)  (k36 : Int32 → Int32 → Int32 → Int32 → (Nat → Int32) → (Nat → Int32) → (Nat → Int32) → (Nat → Int32) → (Nat → Int32) → (Nat → Int32) → (Nat → Int32) → (Nat → Int64) → (Nat → Int64) → Option (Int32 × (Nat → Int32) × (Nat → Int32) × (Nat → Int32) × (Nat → Int32) × (Nat → Int32) × (Nat → Int32) × (Nat → Int32) × (Nat → Int64) × (Nat → Int64))) (v1 : Int32) (v2 : Int32) (v4 : Int32) (s0 : Int32) (x74 : (Nat → Int32)) (x75 : (Nat → Int32)) (x76 : (Nat → Int32)) (x77 : (Nat → Int32)) (x78 : (Nat → Int32)) (x101 : (Nat → Int32)) (x112 : (Nat → Int32)) (y99 : (Nat → Int64)) (y100 : (Nat → Int64)) : Option (Int32 × (Nat → Int32) × (Nat → Int32) × (Nat → Int32) × (Nat → Int32) × (Nat → Int32) × (Nat → Int32) × (Nat → Int32) × (Nat → Int64) × (Nat → Int64)) := bd6 (fX12_laysBack x74 x75 x76 x77 x78 x112) fun x74_1 x75_2 x76_3 x77_4 x78_5 x112_6 => (bn (v4 + 1) fun t_8 => (k36 v1 v2 s0 t_8 x74_1 x75_2 x76_3 x77_4 x78_5 x101 x112_6 y99 y100))
set_option maxHeartbeats 4000000 in
set_option maxRecDepth 100000 in
theorem wX12_iced_78 {l : Launch} {b0 : Nat} {D : GD} {K : KT} {n : Nat} {κ : QT} {X0 : XT} {Y0 : YT} {Z : ZT} (hL : LY n κ) (hN : ([74, 75, 76, 77, 78, 79, 92, 93, 94, 95, 96, 97, 101, 112] : List Nat).Nodup) (hM : ([99, 100] : List Nat).Nodup) (hC : gC l b0 D K RX12 cX12_iced (some FieldType.int) 5 8 188 0 0) {x79 : Nat → Int32} {x92 : Nat → Int32} {x93 : Nat → Int32} {x94 : Nat → Int32} {x95 : Nat → Int32} {x96 : Nat → Int32} {x97 : Nat → Int32} {r : Int32} {rx74 : (Nat → Int32)} {rx75 : (Nat → Int32)} {rx76 : (Nat → Int32)} {rx77 : (Nat → Int32)} {rx78 : (Nat → Int32)} {rx101 : (Nat → Int32)} {rx112 : (Nat → Int32)} {ry99 : (Nat → Int64)} {ry100 : (Nat → Int64)} (hret : ∀ pc loc, narrow .int (.int r) = .int r → decode cX12_iced pc = .ok (.ireturn, 1) → gV l b0 D K (n, κ, ov X0 [74, 75, 76, 77, 78, 79, 92, 93, 94, 95, 96, 97, 101, 112] [rx74, rx75, rx76, rx77, rx78, x79, x92, x93, x94, x95, x96, x97, rx101, rx112], ov Y0 [99, 100] [ry99, ry100], Z, 0, 0) pc loc [.int r]) {k36 : Int32 → Int32 → Int32 → Int32 → (Nat → Int32) → (Nat → Int32) → (Nat → Int32) → (Nat → Int32) → (Nat → Int32) → (Nat → Int32) → (Nat → Int32) → (Nat → Int64) → (Nat → Int64) → Option (Int32 × (Nat → Int32) × (Nat → Int32) × (Nat → Int32) × (Nat → Int32) × (Nat → Int32) × (Nat → Int32) × (Nat → Int32) × (Nat → Int64) × (Nat → Int64))} (hk36 : ∀ (v1 : Int32) (v2 : Int32) (v3 : Int32) (v4 : Int32) (x74 : (Nat → Int32)) (x75 : (Nat → Int32)) (x76 : (Nat → Int32)) (x77 : (Nat → Int32)) (x78 : (Nat → Int32)) (x101 : (Nat → Int32)) (x112 : (Nat → Int32)) (y99 : (Nat → Int64)) (y100 : (Nat → Int64)), k36 v1 v2 v3 v4 x74 x75 x76 x77 x78 x101 x112 y99 y100 = some (r, rx74, rx75, rx76, rx77, rx78, rx101, rx112, ry99, ry100) → gV l b0 D K (n, κ, ov X0 [74, 75, 76, 77, 78, 79, 92, 93, 94, 95, 96, 97, 101, 112] [x74, x75, x76, x77, x78, x79, x92, x93, x94, x95, x96, x97, x101, x112], ov Y0 [99, 100] [y99, y100], Z, 0, 0) 36 [(0, .ref (b0 + 74)), (1, .int v1), (2, .int v2), (3, .int v3), (4, .int v4)] []) {v1 : Int32} {v2 : Int32} {v4 : Int32} {s0 : Int32} {x74 : (Nat → Int32)} {x75 : (Nat → Int32)} {x76 : (Nat → Int32)} {x77 : (Nat → Int32)} {x78 : (Nat → Int32)} {x101 : (Nat → Int32)} {x112 : (Nat → Int32)} {y99 : (Nat → Int64)} {y100 : (Nat → Int64)} (hf : fX12_iced_78 x79 x92 x93 x94 x95 x96 x97 k36 v1 v2 v4 s0 x74 x75 x76 x77 x78 x101 x112 y99 y100 = some (r, rx74, rx75, rx76, rx77, rx78, rx101, rx112, ry99, ry100)) : gV l b0 D K (n, κ, ov X0 [74, 75, 76, 77, 78, 79, 92, 93, 94, 95, 96, 97, 101, 112] [x74, x75, x76, x77, x78, x79, x92, x93, x94, x95, x96, x97, x101, x112], ov Y0 [99, 100] [y99, y100], Z, 0, 0) 78 [(0, .ref (b0 + 74)), (1, .int v1), (2, .int v2), (4, .int v4)] [.int s0] := by
  unfold fX12_iced_78 at hf
  refine g_istore_n hC (i := 3) [(3, .int s0), (0, .ref (b0 + 74)), (1, .int v1), (2, .int v2), (4, .int v4)] rfl dX12_iced_78 (by decide) rfl ?_
  refine g_aload_n hC 1 dX12_iced_79 rfl rfl ?_
  obtain ⟨x74_1, x75_2, x76_3, x77_4, x78_5, x112_6, q_7, hf⟩ := bd6E hf
  refine g_callV_v (a := 74) hC (X' := ov X0 [74, 75, 76, 77, 78, 79, 92, 93, 94, 95, 96, 97, 101, 112] [x74_1, x75_2, x76_3, x77_4, x78_5, x79, x92, x93, x94, x95, x96, x97, x101, x112_6]) (Y' := ov Y0 [99, 100] [y99, y100]) (As := []) (gMv_eq (c_X12_laysBack l hL (ov_map hN [0, 1, 2, 3, 4, 13] (by rfl) (by rfl)) (ov_map hM [] (by rfl) (by rfl)) q_7) (ov_ovE hN (by rfl) [0, 1, 2, 3, 4, 13] [5, 6, 7, 8, 9, 10, 11, 12] (by rfl) (by rfl) [x79, x92, x93, x94, x95, x96, x97, x101] (by rfl) (by rfl) (by rfl) 14 (by rfl) (by decide)) (ov_ovE hM (by rfl) [] [0, 1] (by rfl) (by rfl) [y99, y100] (by rfl) (by rfl) (by rfl) 2 (by rfl) (by decide))) tw_1693 tw_1690 tw_127 tw_1692 tw_102 (ci := 12) rfl (by decide) (kk_74 hL) (kn_74 hL) pd_X12_laysBack (by decide) (by decide) rfl rfl (Nat.le_of_ble_eq_true rfl) rfl dX12_iced_80 ?_
  obtain ⟨t_8, et_8, hf⟩ := bnE hf
  refine g_iinc hC (i := 4) (v := t_8) [(4, .int t_8), (3, .int s0), (0, .ref (b0 + 74)), (1, .int v1), (2, .int v2)] dX12_iced_83 (q := 4) rfl ((congrArg (HAdd.hAdd v4) ic_1).trans et_8.symm) (by decide) rfl ?_
  refine g_goto hC 36 dX12_iced_86 (by decide) ?_
  exact g_sub [2, 3, 4, 1, 0] rfl (hk36 v1 v2 s0 t_8 x74_1 x75_2 x76_3 x77_4 x78_5 x101 x112_6 y99 y100 hf)

def fX12_iced_36b   (x79 : Nat → Int32) (x92 : Nat → Int32) (x93 : Nat → Int32) (x94 : Nat → Int32) (x95 : Nat → Int32) (x96 : Nat → Int32) (x97 : Nat → Int32)  (k36 : Int32 → Int32 → Int32 → Int32 → (Nat → Int32) → (Nat → Int32) → (Nat → Int32) → (Nat → Int32) → (Nat → Int32) → (Nat → Int32) → (Nat → Int32) → (Nat → Int64) → (Nat → Int64) → Option (Int32 × (Nat → Int32) × (Nat → Int32) × (Nat → Int32) × (Nat → Int32) × (Nat → Int32) × (Nat → Int32) × (Nat → Int32) × (Nat → Int64) × (Nat → Int64))) (v1 : Int32) (v2 : Int32) (v3 : Int32) (v4 : Int32) (x74 : (Nat → Int32)) (x75 : (Nat → Int32)) (x76 : (Nat → Int32)) (x77 : (Nat → Int32)) (x78 : (Nat → Int32)) (x101 : (Nat → Int32)) (x112 : (Nat → Int32)) (y99 : (Nat → Int64)) (y100 : (Nat → Int64)) : Option (Int32 × (Nat → Int32) × (Nat → Int32) × (Nat → Int32) × (Nat → Int32) × (Nat → Int32) × (Nat → Int32) × (Nat → Int32) × (Nat → Int64) × (Nat → Int64)) := if 9 < v4 then (some (v3, x74, x75, x76, x77, x78, x101, x112, y99, y100)) else (if v3 = (-2) then (gd (inb 7 11) (bd8 (fX12_goFor x79 x92 x93 x94 x95 x96 x97 v1 x74 (upd x75 (7 : Int32).toNatClampNeg v4) x76 x77 x78 x101 y99 y100) fun x74_2 x75_3 x76_4 x77_5 x78_6 x101_7 y99_8 y100_9 => (bd1 (fX12_inRiver x75_3 x76_4) fun r_11 => (if r_11 = v2 then (fX12_iced_78 x79 x92 x93 x94 x95 x96 x97 k36 v1 v2 v4 v4 x74_2 x75_3 x76_4 x77_5 x78_6 x101_7 x112 y99_8 y100_9) else (fX12_iced_78 x79 x92 x93 x94 x95 x96 x97 k36 v1 v2 v4 (-2) x74_2 x75_3 x76_4 x77_5 x78_6 x101_7 x112 y99_8 y100_9))))) else (some (v3, x74, x75, x76, x77, x78, x101, x112, y99, y100)))
def fX12_iced_36   (x79 : Nat → Int32) (x92 : Nat → Int32) (x93 : Nat → Int32) (x94 : Nat → Int32) (x95 : Nat → Int32) (x96 : Nat → Int32) (x97 : Nat → Int32)  : Int32 → Int32 → Int32 → Int32 → (Nat → Int32) → (Nat → Int32) → (Nat → Int32) → (Nat → Int32) → (Nat → Int32) → (Nat → Int32) → (Nat → Int32) → (Nat → Int64) → (Nat → Int64) → Option (Int32 × (Nat → Int32) × (Nat → Int32) × (Nat → Int32) × (Nat → Int32) × (Nat → Int32) × (Nat → Int32) × (Nat → Int32) × (Nat → Int64) × (Nat → Int64)) := lq13 (fX12_iced_36b x79 x92 x93 x94 x95 x96 x97 ) 5000
set_option maxHeartbeats 4000000 in
set_option maxRecDepth 100000 in
theorem wX12_iced_36 {l : Launch} {b0 : Nat} {D : GD} {K : KT} {n : Nat} {κ : QT} {X0 : XT} {Y0 : YT} {Z : ZT} (hL : LY n κ) (hN : ([74, 75, 76, 77, 78, 79, 92, 93, 94, 95, 96, 97, 101, 112] : List Nat).Nodup) (hM : ([99, 100] : List Nat).Nodup) (hC : gC l b0 D K RX12 cX12_iced (some FieldType.int) 5 8 188 0 0) {x79 : Nat → Int32} {x92 : Nat → Int32} {x93 : Nat → Int32} {x94 : Nat → Int32} {x95 : Nat → Int32} {x96 : Nat → Int32} {x97 : Nat → Int32} {r : Int32} {rx74 : (Nat → Int32)} {rx75 : (Nat → Int32)} {rx76 : (Nat → Int32)} {rx77 : (Nat → Int32)} {rx78 : (Nat → Int32)} {rx101 : (Nat → Int32)} {rx112 : (Nat → Int32)} {ry99 : (Nat → Int64)} {ry100 : (Nat → Int64)} (hret : ∀ pc loc, narrow .int (.int r) = .int r → decode cX12_iced pc = .ok (.ireturn, 1) → gV l b0 D K (n, κ, ov X0 [74, 75, 76, 77, 78, 79, 92, 93, 94, 95, 96, 97, 101, 112] [rx74, rx75, rx76, rx77, rx78, x79, x92, x93, x94, x95, x96, x97, rx101, rx112], ov Y0 [99, 100] [ry99, ry100], Z, 0, 0) pc loc [.int r]) : ∀ (j : Nat) (v1 : Int32) (v2 : Int32) (v3 : Int32) (v4 : Int32) (x74 : (Nat → Int32)) (x75 : (Nat → Int32)) (x76 : (Nat → Int32)) (x77 : (Nat → Int32)) (x78 : (Nat → Int32)) (x101 : (Nat → Int32)) (x112 : (Nat → Int32)) (y99 : (Nat → Int64)) (y100 : (Nat → Int64)), lq13 (fX12_iced_36b x79 x92 x93 x94 x95 x96 x97 ) j v1 v2 v3 v4 x74 x75 x76 x77 x78 x101 x112 y99 y100 = some (r, rx74, rx75, rx76, rx77, rx78, rx101, rx112, ry99, ry100) → gV l b0 D K (n, κ, ov X0 [74, 75, 76, 77, 78, 79, 92, 93, 94, 95, 96, 97, 101, 112] [x74, x75, x76, x77, x78, x79, x92, x93, x94, x95, x96, x97, x101, x112], ov Y0 [99, 100] [y99, y100], Z, 0, 0) 36 [(0, .ref (b0 + 74)), (1, .int v1), (2, .int v2), (3, .int v3), (4, .int v4)] [] := by
  intro j
  induction j with
  | zero => intro v1 v2 v3 v4 x74 x75 x76 x77 x78 x101 x112 y99 y100 hf; cases hf
  | succ j hk36 =>
    intro v1 v2 v3 v4 x74 x75 x76 x77 x78 x101 x112 y99 y100 hf
    replace hf : fX12_iced_36b x79 x92 x93 x94 x95 x96 x97  (lq13 (fX12_iced_36b x79 x92 x93 x94 x95 x96 x97 ) j) v1 v2 v3 v4 x74 x75 x76 x77 x78 x101 x112 y99 y100 = some (r, rx74, rx75, rx76, rx77, rx78, rx101, rx112, ry99, ry100) := hf
    unfold fX12_iced_36b at hf
    refine g_iload hC 4 dX12_iced_36 rfl ?_
    refine g_bipush hC (v := 9) dX12_iced_38 bp_9 ?_
    refine g_icmp_gt hC 89 dX12_iced_40 (by decide) (fun hc => ?_) (fun hc => ?_)
    · replace hf := ifT hf hc
      refine g_iload_n hC 3 dX12_iced_89 rfl rfl ?_
      obtain ⟨rfl, rfl, rfl, rfl, rfl, rfl, rfl, rfl, rfl, rfl⟩ := sm10E hf
      exact hret _ _ rfl dX12_iced_90
    · replace hf := ifF hf hc
      refine g_iload_n hC 3 dX12_iced_43 rfl rfl ?_
      refine g_bipush hC (v := (-2)) dX12_iced_44 bp_m2 ?_
      refine g_icmp_ne hC 89 dX12_iced_46 (by decide) (fun hc => ?_) (fun hc => ?_)
      · replace hf := ifF hf hc
        refine g_iload_n hC 3 dX12_iced_89 rfl rfl ?_
        obtain ⟨rfl, rfl, rfl, rfl, rfl, rfl, rfl, rfl, rfl, rfl⟩ := sm10E hf
        exact hret _ _ rfl dX12_iced_90
      · replace hf := ifT hf hc
        refine g_aload_n hC 0 dX12_iced_49 rfl rfl ?_
        refine gt_X12_9 hC (a := 74) (kk_74 hL) (kn_74 hL) dX12_iced_50 ?_
        refine g_ref (b := 75) rfl ?_
        refine g_bipush hC (v := 7) dX12_iced_53 bp_7 ?_
        refine g_iload hC 4 dX12_iced_55 rfl ?_
        obtain ⟨h_1, hf⟩ := gdE hf
        refine g_iast hC (x := x75) (kk_75 hL) (kn_75 hL) (ov_get hN 1 rfl rfl) (inb_in h_1) (ov_set hN (by rfl) 1 (by rfl)) dX12_iced_57 ?_
        show gV l b0 D K (n, κ, ov X0 [74, 75, 76, 77, 78, 79, 92, 93, 94, 95, 96, 97, 101, 112] [x74, (upd x75 (7 : Int32).toNatClampNeg v4), x76, x77, x78, x79, x92, x93, x94, x95, x96, x97, x101, x112], ov Y0 [99, 100] [y99, y100], Z, 0, 0) 58 [(0, .ref (b0 + 74)), (1, .int v1), (2, .int v2), (3, .int v3), (4, .int v4)] []
        refine g_aload_n hC 0 dX12_iced_58 rfl rfl ?_
        refine g_iload_n hC 1 dX12_iced_59 rfl rfl ?_
        obtain ⟨x74_2, x75_3, x76_4, x77_5, x78_6, x101_7, y99_8, y100_9, q_10, hf⟩ := bd8E hf
        refine g_callV_v (a := 74) hC (X' := ov X0 [74, 75, 76, 77, 78, 79, 92, 93, 94, 95, 96, 97, 101, 112] [x74_2, x75_3, x76_4, x77_5, x78_6, x79, x92, x93, x94, x95, x96, x97, x101_7, x112]) (Y' := ov Y0 [99, 100] [y99_8, y100_9]) (As := [.int v1]) (gMv_eq (c_X12_goFor l hL (ov_map hN [0, 1, 2, 3, 4, 5, 6, 7, 8, 9, 10, 11, 12] (by rfl) (by rfl)) (ov_map hM [0, 1] (by rfl) (by rfl)) q_10) (ov_ovE hN (by rfl) [0, 1, 2, 3, 4, 5, 6, 7, 8, 9, 10, 11, 12] [13] (by rfl) (by rfl) [x112] (by rfl) (by rfl) (by rfl) 14 (by rfl) (by decide)) (ov_ovE hM (by rfl) [0, 1] [] (by rfl) (by rfl) [] (by rfl) (by rfl) (by rfl) 2 (by rfl) (by decide))) tw_1685 tw_1682 tw_127 tw_1684 tw_100 (ci := 12) rfl (by decide) (kk_74 hL) (kn_74 hL) pd_X12_goFor (by decide) (by decide) rfl rfl (Nat.le_of_ble_eq_true rfl) rfl dX12_iced_60 ?_
        refine g_aload_n hC 0 dX12_iced_63 rfl rfl ?_
        obtain ⟨r_11, q_12, hf⟩ := bd1E hf
        refine g_callV_i (a := 74) hC (X' := ov X0 [74, 75, 76, 77, 78, 79, 92, 93, 94, 95, 96, 97, 101, 112] [x74_2, x75_3, x76_4, x77_5, x78_6, x79, x92, x93, x94, x95, x96, x97, x101_7, x112]) (Y' := ov Y0 [99, 100] [y99_8, y100_9]) (As := []) (gMi_eq (c_X12_inRiver l hL (ov_map hN [1, 2] (by rfl) (by rfl)) (ov_map hM [] (by rfl) (by rfl)) q_12) (ov_ovE hN (by rfl) [1, 2] [0, 3, 4, 5, 6, 7, 8, 9, 10, 11, 12, 13] (by rfl) (by rfl) [x74_2, x77_5, x78_6, x79, x92, x93, x94, x95, x96, x97, x101_7, x112] (by rfl) (by rfl) (by rfl) 14 (by rfl) (by decide)) (ov_ovE hM (by rfl) [] [0, 1] (by rfl) (by rfl) [y99_8, y100_9] (by rfl) (by rfl) (by rfl) 2 (by rfl) (by decide))) tw_1689 tw_1686 tw_127 tw_1688 tw_101 (ci := 12) rfl (by decide) (kk_74 hL) (kn_74 hL) pd_X12_inRiver (by decide) (by decide) rfl rfl (Nat.le_of_ble_eq_true rfl) rfl dX12_iced_64 ?_
        refine g_iload_n hC 2 dX12_iced_67 rfl rfl ?_
        refine g_icmp_ne hC 76 dX12_iced_68 (by decide) (fun hc => ?_) (fun hc => ?_)
        · replace hf := ifF hf hc
          refine g_bipush hC (v := (-2)) dX12_iced_76 bp_m2 ?_
          exact g_sub [0, 1, 2, 4] rfl (wX12_iced_78 hL hN hM hC  hret hk36 hf)
        · replace hf := ifT hf hc
          refine g_iload hC 4 dX12_iced_71 rfl ?_
          refine g_goto hC 78 dX12_iced_73 (by decide) ?_
          exact g_sub [0, 1, 2, 4] rfl (wX12_iced_78 hL hN hM hC  hret hk36 hf)

def fX12_iced_0   (x79 : Nat → Int32) (x92 : Nat → Int32) (x93 : Nat → Int32) (x94 : Nat → Int32) (x95 : Nat → Int32) (x96 : Nat → Int32) (x97 : Nat → Int32)  (v1 : Int32) (x74 : (Nat → Int32)) (x75 : (Nat → Int32)) (x76 : (Nat → Int32)) (x77 : (Nat → Int32)) (x78 : (Nat → Int32)) (x101 : (Nat → Int32)) (x112 : (Nat → Int32)) (y99 : (Nat → Int64)) (y100 : (Nat → Int64)) : Option (Int32 × (Nat → Int32) × (Nat → Int32) × (Nat → Int32) × (Nat → Int32) × (Nat → Int32) × (Nat → Int32) × (Nat → Int32) × (Nat → Int64) × (Nat → Int64)) := bd1 (fX12_isTown x75) fun r_1 => (if r_1 = 0 then (some ((-1), x74, x75, x76, x77, x78, x101, x112, y99, y100)) else (bd1 (fX12_in v1.toInt64 1 60) fun r_3 => (if r_3 = 0 then (some ((-1), x74, x75, x76, x77, x78, x101, x112, y99, y100)) else (bd1 (fX12_inRiver x75 x76) fun r_5 => (bd6 (fX12_keepsAll x74 x75 x76 x77 x78 x112) fun x74_7 x75_8 x76_9 x77_10 x78_11 x112_12 => (fX12_iced_36 x79 x92 x93 x94 x95 x96 x97  v1 r_5 (-2) 0 x74_7 x75_8 x76_9 x77_10 x78_11 x101 x112_12 y99 y100))))))
set_option maxHeartbeats 4000000 in
set_option maxRecDepth 100000 in
theorem wX12_iced_0 {l : Launch} {b0 : Nat} {D : GD} {K : KT} {n : Nat} {κ : QT} {X0 : XT} {Y0 : YT} {Z : ZT} (hL : LY n κ) (hN : ([74, 75, 76, 77, 78, 79, 92, 93, 94, 95, 96, 97, 101, 112] : List Nat).Nodup) (hM : ([99, 100] : List Nat).Nodup) (hC : gC l b0 D K RX12 cX12_iced (some FieldType.int) 5 8 188 0 0) {x79 : Nat → Int32} {x92 : Nat → Int32} {x93 : Nat → Int32} {x94 : Nat → Int32} {x95 : Nat → Int32} {x96 : Nat → Int32} {x97 : Nat → Int32} {r : Int32} {rx74 : (Nat → Int32)} {rx75 : (Nat → Int32)} {rx76 : (Nat → Int32)} {rx77 : (Nat → Int32)} {rx78 : (Nat → Int32)} {rx101 : (Nat → Int32)} {rx112 : (Nat → Int32)} {ry99 : (Nat → Int64)} {ry100 : (Nat → Int64)} (hret : ∀ pc loc, narrow .int (.int r) = .int r → decode cX12_iced pc = .ok (.ireturn, 1) → gV l b0 D K (n, κ, ov X0 [74, 75, 76, 77, 78, 79, 92, 93, 94, 95, 96, 97, 101, 112] [rx74, rx75, rx76, rx77, rx78, x79, x92, x93, x94, x95, x96, x97, rx101, rx112], ov Y0 [99, 100] [ry99, ry100], Z, 0, 0) pc loc [.int r]) {v1 : Int32} {x74 : (Nat → Int32)} {x75 : (Nat → Int32)} {x76 : (Nat → Int32)} {x77 : (Nat → Int32)} {x78 : (Nat → Int32)} {x101 : (Nat → Int32)} {x112 : (Nat → Int32)} {y99 : (Nat → Int64)} {y100 : (Nat → Int64)} (hf : fX12_iced_0 x79 x92 x93 x94 x95 x96 x97  v1 x74 x75 x76 x77 x78 x101 x112 y99 y100 = some (r, rx74, rx75, rx76, rx77, rx78, rx101, rx112, ry99, ry100)) : gV l b0 D K (n, κ, ov X0 [74, 75, 76, 77, 78, 79, 92, 93, 94, 95, 96, 97, 101, 112] [x74, x75, x76, x77, x78, x79, x92, x93, x94, x95, x96, x97, x101, x112], ov Y0 [99, 100] [y99, y100], Z, 0, 0) 0 [(0, .ref (b0 + 74)), (1, .int v1)] [] := by
  unfold fX12_iced_0 at hf
  refine g_aload_n hC 0 dX12_iced_0 rfl rfl ?_
  obtain ⟨r_1, q_2, hf⟩ := bd1E hf
  refine g_callV_i (a := 74) hC (X' := ov X0 [74, 75, 76, 77, 78, 79, 92, 93, 94, 95, 96, 97, 101, 112] [x74, x75, x76, x77, x78, x79, x92, x93, x94, x95, x96, x97, x101, x112]) (Y' := ov Y0 [99, 100] [y99, y100]) (As := []) (gMi_eq (c_X12_isTown l hL (ov_map hN [1] (by rfl) (by rfl)) (ov_map hM [] (by rfl) (by rfl)) q_2) (ov_ovE hN (by rfl) [1] [0, 2, 3, 4, 5, 6, 7, 8, 9, 10, 11, 12, 13] (by rfl) (by rfl) [x74, x76, x77, x78, x79, x92, x93, x94, x95, x96, x97, x101, x112] (by rfl) (by rfl) (by rfl) 14 (by rfl) (by decide)) (ov_ovE hM (by rfl) [] [0, 1] (by rfl) (by rfl) [y99, y100] (by rfl) (by rfl) (by rfl) 2 (by rfl) (by decide))) tw_1585 tw_1582 tw_127 tw_1584 tw_84 (ci := 12) rfl (by decide) (kk_74 hL) (kn_74 hL) pd_X12_isTown (by decide) (by decide) rfl rfl (Nat.le_of_ble_eq_true rfl) rfl dX12_iced_1 ?_
  refine g_if_eq hC 19 dX12_iced_4 (by decide) (fun hc => ?_) (fun hc => ?_)
  · replace hf := ifT hf hc
    refine g_iconst hC (v := (-1)) dX12_iced_19 ic_m1 ?_
    obtain ⟨rfl, rfl, rfl, rfl, rfl, rfl, rfl, rfl, rfl, rfl⟩ := sm10E hf
    exact hret _ _ rfl dX12_iced_20
  · replace hf := ifF hf hc
    refine g_iload_n hC 1 dX12_iced_7 rfl rfl ?_
    refine g_i2l hC dX12_iced_8 ?_
    refine g_lconst hC (v := 1) dX12_iced_9 rfl ?_
    refine g_ldc2_w hC (v := 60) tw_1719 dX12_iced_10 ?_
    obtain ⟨r_3, q_4, hf⟩ := bd1E hf
    refine g_callS_i hC (X' := ov X0 [74, 75, 76, 77, 78, 79, 92, 93, 94, 95, 96, 97, 101, 112] [x74, x75, x76, x77, x78, x79, x92, x93, x94, x95, x96, x97, x101, x112]) (Y' := ov Y0 [99, 100] [y99, y100]) (As := [.long v1.toInt64, .long 1, .long 60]) (gMi_eq (c_X12_in l hL (ov_map hN [] (by rfl) (by rfl)) (ov_map hM [] (by rfl) (by rfl)) q_4) (ov_ovE hN (by rfl) [] [0, 1, 2, 3, 4, 5, 6, 7, 8, 9, 10, 11, 12, 13] (by rfl) (by rfl) [x74, x75, x76, x77, x78, x79, x92, x93, x94, x95, x96, x97, x101, x112] (by rfl) (by rfl) (by rfl) 14 (by rfl) (by decide)) (ov_ovE hM (by rfl) [] [0, 1] (by rfl) (by rfl) [y99, y100] (by rfl) (by rfl) (by rfl) 2 (by rfl) (by decide))) tw_1428 tw_1426 tw_127 tw_1427 pd_X12_in (by decide) (by decide) rfl rfl (Nat.le_of_ble_eq_true rfl) rfl dX12_iced_13 ?_
    refine g_if_ne hC 21 dX12_iced_16 (by decide) (fun hc => ?_) (fun hc => ?_)
    · replace hf := ifF hf hc
      refine g_aload_n hC 0 dX12_iced_21 rfl rfl ?_
      obtain ⟨r_5, q_6, hf⟩ := bd1E hf
      refine g_callV_i (a := 74) hC (X' := ov X0 [74, 75, 76, 77, 78, 79, 92, 93, 94, 95, 96, 97, 101, 112] [x74, x75, x76, x77, x78, x79, x92, x93, x94, x95, x96, x97, x101, x112]) (Y' := ov Y0 [99, 100] [y99, y100]) (As := []) (gMi_eq (c_X12_inRiver l hL (ov_map hN [1, 2] (by rfl) (by rfl)) (ov_map hM [] (by rfl) (by rfl)) q_6) (ov_ovE hN (by rfl) [1, 2] [0, 3, 4, 5, 6, 7, 8, 9, 10, 11, 12, 13] (by rfl) (by rfl) [x74, x77, x78, x79, x92, x93, x94, x95, x96, x97, x101, x112] (by rfl) (by rfl) (by rfl) 14 (by rfl) (by decide)) (ov_ovE hM (by rfl) [] [0, 1] (by rfl) (by rfl) [y99, y100] (by rfl) (by rfl) (by rfl) 2 (by rfl) (by decide))) tw_1689 tw_1686 tw_127 tw_1688 tw_101 (ci := 12) rfl (by decide) (kk_74 hL) (kn_74 hL) pd_X12_inRiver (by decide) (by decide) rfl rfl (Nat.le_of_ble_eq_true rfl) rfl dX12_iced_22 ?_
      refine g_istore_n hC (i := 2) [(2, .int r_5), (0, .ref (b0 + 74)), (1, .int v1)] rfl dX12_iced_25 (by decide) rfl ?_
      refine g_bipush hC (v := (-2)) dX12_iced_26 bp_m2 ?_
      refine g_istore_n hC (i := 3) [(3, .int (-2)), (2, .int r_5), (0, .ref (b0 + 74)), (1, .int v1)] rfl dX12_iced_28 (by decide) rfl ?_
      refine g_aload_n hC 2 dX12_iced_29 rfl rfl ?_
      obtain ⟨x74_7, x75_8, x76_9, x77_10, x78_11, x112_12, q_13, hf⟩ := bd6E hf
      refine g_callV_v (a := 74) hC (X' := ov X0 [74, 75, 76, 77, 78, 79, 92, 93, 94, 95, 96, 97, 101, 112] [x74_7, x75_8, x76_9, x77_10, x78_11, x79, x92, x93, x94, x95, x96, x97, x101, x112_12]) (Y' := ov Y0 [99, 100] [y99, y100]) (As := []) (gMv_eq (c_X12_keepsAll l hL (ov_map hN [0, 1, 2, 3, 4, 13] (by rfl) (by rfl)) (ov_map hM [] (by rfl) (by rfl)) q_13) (ov_ovE hN (by rfl) [0, 1, 2, 3, 4, 13] [5, 6, 7, 8, 9, 10, 11, 12] (by rfl) (by rfl) [x79, x92, x93, x94, x95, x96, x97, x101] (by rfl) (by rfl) (by rfl) 14 (by rfl) (by decide)) (ov_ovE hM (by rfl) [] [0, 1] (by rfl) (by rfl) [y99, y100] (by rfl) (by rfl) (by rfl) 2 (by rfl) (by decide))) tw_1673 tw_1670 tw_127 tw_1672 tw_97 (ci := 12) rfl (by decide) (kk_74 hL) (kn_74 hL) pd_X12_keepsAll (by decide) (by decide) rfl rfl (Nat.le_of_ble_eq_true rfl) rfl dX12_iced_30 ?_
      refine g_iconst hC (v := 0) dX12_iced_33 ic_0 ?_
      refine g_istore hC (i := 4) [(4, .int 0), (3, .int (-2)), (2, .int r_5), (0, .ref (b0 + 74)), (1, .int v1)] dX12_iced_34 (by decide) rfl ?_
      exact g_sub [3, 4, 2, 1, 0] rfl (wX12_iced_36 hL hN hM hC  hret  5000 v1 r_5 (-2) 0 x74_7 x75_8 x76_9 x77_10 x78_11 x101 x112_12 y99 y100 hf)
    · replace hf := ifT hf hc
      refine g_iconst hC (v := (-1)) dX12_iced_19 ic_m1 ?_
      obtain ⟨rfl, rfl, rfl, rfl, rfl, rfl, rfl, rfl, rfl, rfl⟩ := sm10E hf
      exact hret _ _ rfl dX12_iced_20

def fX12_iced   (x79 : Nat → Int32) (x92 : Nat → Int32) (x93 : Nat → Int32) (x94 : Nat → Int32) (x95 : Nat → Int32) (x96 : Nat → Int32) (x97 : Nat → Int32)  (v1 : Int32) (x74 : Nat → Int32) (x75 : Nat → Int32) (x76 : Nat → Int32) (x77 : Nat → Int32) (x78 : Nat → Int32) (x101 : Nat → Int32) (x112 : Nat → Int32) (y99 : Nat → Int64) (y100 : Nat → Int64) : Option (Int32 × (Nat → Int32) × (Nat → Int32) × (Nat → Int32) × (Nat → Int32) × (Nat → Int32) × (Nat → Int32) × (Nat → Int32) × (Nat → Int64) × (Nat → Int64)) := fX12_iced_0 x79 x92 x93 x94 x95 x96 x97 v1 x74 x75 x76 x77 x78 x101 x112 y99 y100

set_option maxHeartbeats 4000000 in
set_option maxRecDepth 100000 in
theorem c_X12_iced (l : Launch) {b0 : Nat} {D : GD} {n : Nat} {κ : QT} {X0 : XT} {Y0 : YT} {Z : ZT} (hL : LY n κ) {x74 : Nat → Int32} {x75 : Nat → Int32} {x76 : Nat → Int32} {x77 : Nat → Int32} {x78 : Nat → Int32} {x79 : Nat → Int32} {x92 : Nat → Int32} {x93 : Nat → Int32} {x94 : Nat → Int32} {x95 : Nat → Int32} {x96 : Nat → Int32} {x97 : Nat → Int32} {x101 : Nat → Int32} {x112 : Nat → Int32} {y99 : Nat → Int64} {y100 : Nat → Int64} (hx : ([74, 75, 76, 77, 78, 79, 92, 93, 94, 95, 96, 97, 101, 112] : List Nat).map X0 = [x74, x75, x76, x77, x78, x79, x92, x93, x94, x95, x96, x97, x101, x112]) (hy : ([99, 100] : List Nat).map Y0 = [y99, y100]) {v1 : Int32} {r : Int32} {rx74 : (Nat → Int32)} {rx75 : (Nat → Int32)} {rx76 : (Nat → Int32)} {rx77 : (Nat → Int32)} {rx78 : (Nat → Int32)} {rx101 : (Nat → Int32)} {rx112 : (Nat → Int32)} {ry99 : (Nat → Int64)} {ry100 : (Nat → Int64)} (hf : fX12_iced x79 x92 x93 x94 x95 x96 x97 v1 x74 x75 x76 x77 x78 x101 x112 y99 y100 = some (r, rx74, rx75, rx76, rx77, rx78, rx101, rx112, ry99, ry100)) : gMi l yX12_iced cX12_iced 5 (some FieldType.int) 8 188 0 0 b0 D [.ref (b0 + 74), .int v1] (n, κ, X0, Y0, Z) (n, κ, ov X0 [74, 75, 76, 77, 78, 79, 92, 93, 94, 95, 96, 97, 101, 112] [rx74, rx75, rx76, rx77, rx78, x79, x92, x93, x94, x95, x96, x97, rx101, rx112], ov Y0 [99, 100] [ry99, ry100], Z) r := by
  have hN : ([74, 75, 76, 77, 78, 79, 92, 93, 94, 95, 96, 97, 101, 112] : List Nat).Nodup := by decide
  have hM : ([99, 100] : List Nat).Nodup := by decide
  refine g_meti (own := RX12) (by decide) rfl rfl (Nat.le_of_ble_eq_true rfl) ?_
  intro K hC hret
  have e := wX12_iced_0 hL hN hM hC  hret hf
  rw [ov_id' hx, ov_id' hy] at e
  exact g_sub [0, 1] rfl e

-- X12_stood
def fX12_stood_109   (x79 : Nat → Int32) (x92 : Nat → Int32) (x93 : Nat → Int32) (x94 : Nat → Int32) (x95 : Nat → Int32) (x96 : Nat → Int32) (x97 : Nat → Int32)  (k63 : Int32 → Int32 → Int32 → Int32 → Int32 → Int32 → Int32 → (Nat → Int32) → (Nat → Int32) → (Nat → Int32) → (Nat → Int32) → (Nat → Int32) → (Nat → Int32) → (Nat → Int32) → (Nat → Int64) → (Nat → Int64) → Option (Int32 × (Nat → Int32) × (Nat → Int32) × (Nat → Int32) × (Nat → Int32) × (Nat → Int32) × (Nat → Int32) × (Nat → Int32) × (Nat → Int64) × (Nat → Int64))) (v1 : Int32) (v2 : Int32) (v3 : Int32) (v4 : Int32) (v5 : Int32) (v6 : Int32) (v7 : Int32) (x74 : (Nat → Int32)) (x75 : (Nat → Int32)) (x76 : (Nat → Int32)) (x77 : (Nat → Int32)) (x78 : (Nat → Int32)) (x101 : (Nat → Int32)) (x112 : (Nat → Int32)) (y99 : (Nat → Int64)) (y100 : (Nat → Int64)) : Option (Int32 × (Nat → Int32) × (Nat → Int32) × (Nat → Int32) × (Nat → Int32) × (Nat → Int32) × (Nat → Int32) × (Nat → Int32) × (Nat → Int64) × (Nat → Int64)) := bn (v7 + 1) fun t_1 => (k63 v1 v2 v3 v4 v5 v6 t_1 x74 x75 x76 x77 x78 x101 x112 y99 y100)
set_option maxHeartbeats 4000000 in
set_option maxRecDepth 100000 in
theorem wX12_stood_109 {l : Launch} {b0 : Nat} {D : GD} {K : KT} {n : Nat} {κ : QT} {X0 : XT} {Y0 : YT} {Z : ZT} (hL : LY n κ) (hN : ([74, 75, 76, 77, 78, 79, 92, 93, 94, 95, 96, 97, 101, 112] : List Nat).Nodup) (hM : ([99, 100] : List Nat).Nodup) (hC : gC l b0 D K RX12 cX12_stood (some FieldType.int) 8 9 211 0 0) {x79 : Nat → Int32} {x92 : Nat → Int32} {x93 : Nat → Int32} {x94 : Nat → Int32} {x95 : Nat → Int32} {x96 : Nat → Int32} {x97 : Nat → Int32} {r : Int32} {rx74 : (Nat → Int32)} {rx75 : (Nat → Int32)} {rx76 : (Nat → Int32)} {rx77 : (Nat → Int32)} {rx78 : (Nat → Int32)} {rx101 : (Nat → Int32)} {rx112 : (Nat → Int32)} {ry99 : (Nat → Int64)} {ry100 : (Nat → Int64)} (hret : ∀ pc loc, narrow .int (.int r) = .int r → decode cX12_stood pc = .ok (.ireturn, 1) → gV l b0 D K (n, κ, ov X0 [74, 75, 76, 77, 78, 79, 92, 93, 94, 95, 96, 97, 101, 112] [rx74, rx75, rx76, rx77, rx78, x79, x92, x93, x94, x95, x96, x97, rx101, rx112], ov Y0 [99, 100] [ry99, ry100], Z, 0, 0) pc loc [.int r]) {k63 : Int32 → Int32 → Int32 → Int32 → Int32 → Int32 → Int32 → (Nat → Int32) → (Nat → Int32) → (Nat → Int32) → (Nat → Int32) → (Nat → Int32) → (Nat → Int32) → (Nat → Int32) → (Nat → Int64) → (Nat → Int64) → Option (Int32 × (Nat → Int32) × (Nat → Int32) × (Nat → Int32) × (Nat → Int32) × (Nat → Int32) × (Nat → Int32) × (Nat → Int32) × (Nat → Int64) × (Nat → Int64))} (hk63 : ∀ (v1 : Int32) (v2 : Int32) (v3 : Int32) (v4 : Int32) (v5 : Int32) (v6 : Int32) (v7 : Int32) (x74 : (Nat → Int32)) (x75 : (Nat → Int32)) (x76 : (Nat → Int32)) (x77 : (Nat → Int32)) (x78 : (Nat → Int32)) (x101 : (Nat → Int32)) (x112 : (Nat → Int32)) (y99 : (Nat → Int64)) (y100 : (Nat → Int64)), k63 v1 v2 v3 v4 v5 v6 v7 x74 x75 x76 x77 x78 x101 x112 y99 y100 = some (r, rx74, rx75, rx76, rx77, rx78, rx101, rx112, ry99, ry100) → gV l b0 D K (n, κ, ov X0 [74, 75, 76, 77, 78, 79, 92, 93, 94, 95, 96, 97, 101, 112] [x74, x75, x76, x77, x78, x79, x92, x93, x94, x95, x96, x97, x101, x112], ov Y0 [99, 100] [y99, y100], Z, 0, 0) 63 [(0, .ref (b0 + 74)), (1, .int v1), (2, .int v2), (3, .int v3), (4, .int v4), (5, .int v5), (6, .int v6), (7, .int v7)] []) {v1 : Int32} {v2 : Int32} {v3 : Int32} {v4 : Int32} {v5 : Int32} {v6 : Int32} {v7 : Int32} {x74 : (Nat → Int32)} {x75 : (Nat → Int32)} {x76 : (Nat → Int32)} {x77 : (Nat → Int32)} {x78 : (Nat → Int32)} {x101 : (Nat → Int32)} {x112 : (Nat → Int32)} {y99 : (Nat → Int64)} {y100 : (Nat → Int64)} (hf : fX12_stood_109 x79 x92 x93 x94 x95 x96 x97 k63 v1 v2 v3 v4 v5 v6 v7 x74 x75 x76 x77 x78 x101 x112 y99 y100 = some (r, rx74, rx75, rx76, rx77, rx78, rx101, rx112, ry99, ry100)) : gV l b0 D K (n, κ, ov X0 [74, 75, 76, 77, 78, 79, 92, 93, 94, 95, 96, 97, 101, 112] [x74, x75, x76, x77, x78, x79, x92, x93, x94, x95, x96, x97, x101, x112], ov Y0 [99, 100] [y99, y100], Z, 0, 0) 109 [(0, .ref (b0 + 74)), (1, .int v1), (2, .int v2), (3, .int v3), (4, .int v4), (5, .int v5), (6, .int v6), (7, .int v7)] [] := by
  unfold fX12_stood_109 at hf
  obtain ⟨t_1, et_1, hf⟩ := bnE hf
  refine g_iinc hC (i := 7) (v := t_1) [(7, .int t_1), (0, .ref (b0 + 74)), (1, .int v1), (2, .int v2), (3, .int v3), (4, .int v4), (5, .int v5), (6, .int v6)] dX12_stood_109 (q := 7) rfl ((congrArg (HAdd.hAdd v7) ic_1).trans et_1.symm) (by decide) rfl ?_
  refine g_goto hC 63 dX12_stood_112 (by decide) ?_
  exact g_sub [1, 2, 3, 4, 5, 6, 7, 0] rfl (hk63 v1 v2 v3 v4 v5 v6 t_1 x74 x75 x76 x77 x78 x101 x112 y99 y100 hf)

def fX12_stood_104   (x79 : Nat → Int32) (x92 : Nat → Int32) (x93 : Nat → Int32) (x94 : Nat → Int32) (x95 : Nat → Int32) (x96 : Nat → Int32) (x97 : Nat → Int32)  (k63 : Int32 → Int32 → Int32 → Int32 → Int32 → Int32 → Int32 → (Nat → Int32) → (Nat → Int32) → (Nat → Int32) → (Nat → Int32) → (Nat → Int32) → (Nat → Int32) → (Nat → Int32) → (Nat → Int64) → (Nat → Int64) → Option (Int32 × (Nat → Int32) × (Nat → Int32) × (Nat → Int32) × (Nat → Int32) × (Nat → Int32) × (Nat → Int32) × (Nat → Int32) × (Nat → Int64) × (Nat → Int64))) (v1 : Int32) (v2 : Int32) (v3 : Int32) (v4 : Int32) (v5 : Int32) (v7 : Int32) (s0 : Int32) (x74 : (Nat → Int32)) (x75 : (Nat → Int32)) (x76 : (Nat → Int32)) (x77 : (Nat → Int32)) (x78 : (Nat → Int32)) (x101 : (Nat → Int32)) (x112 : (Nat → Int32)) (y99 : (Nat → Int64)) (y100 : (Nat → Int64)) : Option (Int32 × (Nat → Int32) × (Nat → Int32) × (Nat → Int32) × (Nat → Int32) × (Nat → Int32) × (Nat → Int32) × (Nat → Int32) × (Nat → Int64) × (Nat → Int64)) := bn (v5 + 1) fun t_1 => (fX12_stood_109 x79 x92 x93 x94 x95 x96 x97 k63 v1 v2 v3 v4 t_1 s0 v7 x74 x75 x76 x77 x78 x101 x112 y99 y100)
set_option maxHeartbeats 4000000 in
set_option maxRecDepth 100000 in
theorem wX12_stood_104 {l : Launch} {b0 : Nat} {D : GD} {K : KT} {n : Nat} {κ : QT} {X0 : XT} {Y0 : YT} {Z : ZT} (hL : LY n κ) (hN : ([74, 75, 76, 77, 78, 79, 92, 93, 94, 95, 96, 97, 101, 112] : List Nat).Nodup) (hM : ([99, 100] : List Nat).Nodup) (hC : gC l b0 D K RX12 cX12_stood (some FieldType.int) 8 9 211 0 0) {x79 : Nat → Int32} {x92 : Nat → Int32} {x93 : Nat → Int32} {x94 : Nat → Int32} {x95 : Nat → Int32} {x96 : Nat → Int32} {x97 : Nat → Int32} {r : Int32} {rx74 : (Nat → Int32)} {rx75 : (Nat → Int32)} {rx76 : (Nat → Int32)} {rx77 : (Nat → Int32)} {rx78 : (Nat → Int32)} {rx101 : (Nat → Int32)} {rx112 : (Nat → Int32)} {ry99 : (Nat → Int64)} {ry100 : (Nat → Int64)} (hret : ∀ pc loc, narrow .int (.int r) = .int r → decode cX12_stood pc = .ok (.ireturn, 1) → gV l b0 D K (n, κ, ov X0 [74, 75, 76, 77, 78, 79, 92, 93, 94, 95, 96, 97, 101, 112] [rx74, rx75, rx76, rx77, rx78, x79, x92, x93, x94, x95, x96, x97, rx101, rx112], ov Y0 [99, 100] [ry99, ry100], Z, 0, 0) pc loc [.int r]) {k63 : Int32 → Int32 → Int32 → Int32 → Int32 → Int32 → Int32 → (Nat → Int32) → (Nat → Int32) → (Nat → Int32) → (Nat → Int32) → (Nat → Int32) → (Nat → Int32) → (Nat → Int32) → (Nat → Int64) → (Nat → Int64) → Option (Int32 × (Nat → Int32) × (Nat → Int32) × (Nat → Int32) × (Nat → Int32) × (Nat → Int32) × (Nat → Int32) × (Nat → Int32) × (Nat → Int64) × (Nat → Int64))} (hk63 : ∀ (v1 : Int32) (v2 : Int32) (v3 : Int32) (v4 : Int32) (v5 : Int32) (v6 : Int32) (v7 : Int32) (x74 : (Nat → Int32)) (x75 : (Nat → Int32)) (x76 : (Nat → Int32)) (x77 : (Nat → Int32)) (x78 : (Nat → Int32)) (x101 : (Nat → Int32)) (x112 : (Nat → Int32)) (y99 : (Nat → Int64)) (y100 : (Nat → Int64)), k63 v1 v2 v3 v4 v5 v6 v7 x74 x75 x76 x77 x78 x101 x112 y99 y100 = some (r, rx74, rx75, rx76, rx77, rx78, rx101, rx112, ry99, ry100) → gV l b0 D K (n, κ, ov X0 [74, 75, 76, 77, 78, 79, 92, 93, 94, 95, 96, 97, 101, 112] [x74, x75, x76, x77, x78, x79, x92, x93, x94, x95, x96, x97, x101, x112], ov Y0 [99, 100] [y99, y100], Z, 0, 0) 63 [(0, .ref (b0 + 74)), (1, .int v1), (2, .int v2), (3, .int v3), (4, .int v4), (5, .int v5), (6, .int v6), (7, .int v7)] []) {v1 : Int32} {v2 : Int32} {v3 : Int32} {v4 : Int32} {v5 : Int32} {v7 : Int32} {s0 : Int32} {x74 : (Nat → Int32)} {x75 : (Nat → Int32)} {x76 : (Nat → Int32)} {x77 : (Nat → Int32)} {x78 : (Nat → Int32)} {x101 : (Nat → Int32)} {x112 : (Nat → Int32)} {y99 : (Nat → Int64)} {y100 : (Nat → Int64)} (hf : fX12_stood_104 x79 x92 x93 x94 x95 x96 x97 k63 v1 v2 v3 v4 v5 v7 s0 x74 x75 x76 x77 x78 x101 x112 y99 y100 = some (r, rx74, rx75, rx76, rx77, rx78, rx101, rx112, ry99, ry100)) : gV l b0 D K (n, κ, ov X0 [74, 75, 76, 77, 78, 79, 92, 93, 94, 95, 96, 97, 101, 112] [x74, x75, x76, x77, x78, x79, x92, x93, x94, x95, x96, x97, x101, x112], ov Y0 [99, 100] [y99, y100], Z, 0, 0) 104 [(0, .ref (b0 + 74)), (1, .int v1), (2, .int v2), (3, .int v3), (4, .int v4), (5, .int v5), (7, .int v7)] [.int s0] := by
  unfold fX12_stood_104 at hf
  refine g_istore hC (i := 6) [(6, .int s0), (0, .ref (b0 + 74)), (1, .int v1), (2, .int v2), (3, .int v3), (4, .int v4), (5, .int v5), (7, .int v7)] dX12_stood_104 (by decide) rfl ?_
  obtain ⟨t_1, et_1, hf⟩ := bnE hf
  refine g_iinc hC (i := 5) (v := t_1) [(5, .int t_1), (6, .int s0), (0, .ref (b0 + 74)), (1, .int v1), (2, .int v2), (3, .int v3), (4, .int v4), (7, .int v7)] dX12_stood_106 (q := 6) rfl ((congrArg (HAdd.hAdd v5) ic_1).trans et_1.symm) (by decide) rfl ?_
  exact g_sub [2, 3, 4, 5, 6, 0, 1, 7] rfl (wX12_stood_109 hL hN hM hC  hret hk63 hf)

def fX12_stood_63b   (x79 : Nat → Int32) (x92 : Nat → Int32) (x93 : Nat → Int32) (x94 : Nat → Int32) (x95 : Nat → Int32) (x96 : Nat → Int32) (x97 : Nat → Int32)  (k63 : Int32 → Int32 → Int32 → Int32 → Int32 → Int32 → Int32 → (Nat → Int32) → (Nat → Int32) → (Nat → Int32) → (Nat → Int32) → (Nat → Int32) → (Nat → Int32) → (Nat → Int32) → (Nat → Int64) → (Nat → Int64) → Option (Int32 × (Nat → Int32) × (Nat → Int32) × (Nat → Int32) × (Nat → Int32) × (Nat → Int32) × (Nat → Int32) × (Nat → Int32) × (Nat → Int64) × (Nat → Int64))) (v1 : Int32) (v2 : Int32) (v3 : Int32) (v4 : Int32) (v5 : Int32) (v6 : Int32) (v7 : Int32) (x74 : (Nat → Int32)) (x75 : (Nat → Int32)) (x76 : (Nat → Int32)) (x77 : (Nat → Int32)) (x78 : (Nat → Int32)) (x101 : (Nat → Int32)) (x112 : (Nat → Int32)) (y99 : (Nat → Int64)) (y100 : (Nat → Int64)) : Option (Int32 × (Nat → Int32) × (Nat → Int32) × (Nat → Int32) × (Nat → Int32) × (Nat → Int32) × (Nat → Int32) × (Nat → Int32) × (Nat → Int64) × (Nat → Int64)) := gd (inb 0 11) (if (x75 (0 : Int32).toNatClampNeg) ≤ v7 then (if v4 = 0 then (some (v5, x74, x75, x76, x77, x78, x101, x112, y99, y100)) else (some (v6, x74, x75, x76, x77, x78, x101, x112, y99, y100))) else (gd (inb v1 6) (bd10 (fX12_placeIn x79 x92 x93 x94 x95 x96 x97 v1 v3 x74 x75 (upd x76 v1.toNatClampNeg v7) x77 x78 x101 x112 y99 y100) fun r_3 x74_4 x75_5 x76_6 x77_7 x78_8 x101_9 x112_10 y99_11 y100_12 => (if r_3 = v2 then (if v5 = 0 then (fX12_stood_104 x79 x92 x93 x94 x95 x96 x97 k63 v1 v2 v3 v4 v5 v7 v7 x74_4 x75_5 x76_6 x77_7 x78_8 x101_9 x112_10 y99_11 y100_12) else (fX12_stood_104 x79 x92 x93 x94 x95 x96 x97 k63 v1 v2 v3 v4 v5 v7 v6 x74_4 x75_5 x76_6 x77_7 x78_8 x101_9 x112_10 y99_11 y100_12)) else (fX12_stood_109 x79 x92 x93 x94 x95 x96 x97 k63 v1 v2 v3 v4 v5 v6 v7 x74_4 x75_5 x76_6 x77_7 x78_8 x101_9 x112_10 y99_11 y100_12)))))
def fX12_stood_63   (x79 : Nat → Int32) (x92 : Nat → Int32) (x93 : Nat → Int32) (x94 : Nat → Int32) (x95 : Nat → Int32) (x96 : Nat → Int32) (x97 : Nat → Int32)  : Int32 → Int32 → Int32 → Int32 → Int32 → Int32 → Int32 → (Nat → Int32) → (Nat → Int32) → (Nat → Int32) → (Nat → Int32) → (Nat → Int32) → (Nat → Int32) → (Nat → Int32) → (Nat → Int64) → (Nat → Int64) → Option (Int32 × (Nat → Int32) × (Nat → Int32) × (Nat → Int32) × (Nat → Int32) × (Nat → Int32) × (Nat → Int32) × (Nat → Int32) × (Nat → Int64) × (Nat → Int64)) := lq16 (fX12_stood_63b x79 x92 x93 x94 x95 x96 x97 ) 5000
set_option maxHeartbeats 4000000 in
set_option maxRecDepth 100000 in
theorem wX12_stood_63 {l : Launch} {b0 : Nat} {D : GD} {K : KT} {n : Nat} {κ : QT} {X0 : XT} {Y0 : YT} {Z : ZT} (hL : LY n κ) (hN : ([74, 75, 76, 77, 78, 79, 92, 93, 94, 95, 96, 97, 101, 112] : List Nat).Nodup) (hM : ([99, 100] : List Nat).Nodup) (hC : gC l b0 D K RX12 cX12_stood (some FieldType.int) 8 9 211 0 0) {x79 : Nat → Int32} {x92 : Nat → Int32} {x93 : Nat → Int32} {x94 : Nat → Int32} {x95 : Nat → Int32} {x96 : Nat → Int32} {x97 : Nat → Int32} {r : Int32} {rx74 : (Nat → Int32)} {rx75 : (Nat → Int32)} {rx76 : (Nat → Int32)} {rx77 : (Nat → Int32)} {rx78 : (Nat → Int32)} {rx101 : (Nat → Int32)} {rx112 : (Nat → Int32)} {ry99 : (Nat → Int64)} {ry100 : (Nat → Int64)} (hret : ∀ pc loc, narrow .int (.int r) = .int r → decode cX12_stood pc = .ok (.ireturn, 1) → gV l b0 D K (n, κ, ov X0 [74, 75, 76, 77, 78, 79, 92, 93, 94, 95, 96, 97, 101, 112] [rx74, rx75, rx76, rx77, rx78, x79, x92, x93, x94, x95, x96, x97, rx101, rx112], ov Y0 [99, 100] [ry99, ry100], Z, 0, 0) pc loc [.int r]) : ∀ (j : Nat) (v1 : Int32) (v2 : Int32) (v3 : Int32) (v4 : Int32) (v5 : Int32) (v6 : Int32) (v7 : Int32) (x74 : (Nat → Int32)) (x75 : (Nat → Int32)) (x76 : (Nat → Int32)) (x77 : (Nat → Int32)) (x78 : (Nat → Int32)) (x101 : (Nat → Int32)) (x112 : (Nat → Int32)) (y99 : (Nat → Int64)) (y100 : (Nat → Int64)), lq16 (fX12_stood_63b x79 x92 x93 x94 x95 x96 x97 ) j v1 v2 v3 v4 v5 v6 v7 x74 x75 x76 x77 x78 x101 x112 y99 y100 = some (r, rx74, rx75, rx76, rx77, rx78, rx101, rx112, ry99, ry100) → gV l b0 D K (n, κ, ov X0 [74, 75, 76, 77, 78, 79, 92, 93, 94, 95, 96, 97, 101, 112] [x74, x75, x76, x77, x78, x79, x92, x93, x94, x95, x96, x97, x101, x112], ov Y0 [99, 100] [y99, y100], Z, 0, 0) 63 [(0, .ref (b0 + 74)), (1, .int v1), (2, .int v2), (3, .int v3), (4, .int v4), (5, .int v5), (6, .int v6), (7, .int v7)] [] := by
  intro j
  induction j with
  | zero => intro v1 v2 v3 v4 v5 v6 v7 x74 x75 x76 x77 x78 x101 x112 y99 y100 hf; cases hf
  | succ j hk63 =>
    intro v1 v2 v3 v4 v5 v6 v7 x74 x75 x76 x77 x78 x101 x112 y99 y100 hf
    replace hf : fX12_stood_63b x79 x92 x93 x94 x95 x96 x97  (lq16 (fX12_stood_63b x79 x92 x93 x94 x95 x96 x97 ) j) v1 v2 v3 v4 v5 v6 v7 x74 x75 x76 x77 x78 x101 x112 y99 y100 = some (r, rx74, rx75, rx76, rx77, rx78, rx101, rx112, ry99, ry100) := hf
    unfold fX12_stood_63b at hf
    refine g_iload hC 7 dX12_stood_63 rfl ?_
    refine g_aload_n hC 0 dX12_stood_65 rfl rfl ?_
    refine gt_X12_9 hC (a := 74) (kk_74 hL) (kn_74 hL) dX12_stood_66 ?_
    refine g_ref (b := 75) rfl ?_
    refine g_iconst hC (v := 0) dX12_stood_69 ic_0 ?_
    obtain ⟨h_1, hf⟩ := gdE hf
    refine g_iald hC (x := x75) (kk_75 hL) (kn_75 hL) (ov_get hN 1 rfl rfl) (inb_in h_1) dX12_stood_70 ?_
    refine g_icmp_ge hC 115 dX12_stood_71 (by decide) (fun hc => ?_) (fun hc => ?_)
    · replace hf := ifT hf hc
      refine g_iload hC 4 dX12_stood_115 rfl ?_
      refine g_if_ne hC 125 dX12_stood_117 (by decide) (fun hc => ?_) (fun hc => ?_)
      · replace hf := ifF hf hc
        refine g_iload hC 6 dX12_stood_125 rfl ?_
        obtain ⟨rfl, rfl, rfl, rfl, rfl, rfl, rfl, rfl, rfl, rfl⟩ := sm10E hf
        exact hret _ _ rfl dX12_stood_127
      · replace hf := ifT hf hc
        refine g_iload hC 5 dX12_stood_120 rfl ?_
        refine g_goto hC 127 dX12_stood_122 (by decide) ?_
        obtain ⟨rfl, rfl, rfl, rfl, rfl, rfl, rfl, rfl, rfl, rfl⟩ := sm10E hf
        exact hret _ _ rfl dX12_stood_127
    · replace hf := ifF hf hc
      refine g_aload_n hC 0 dX12_stood_74 rfl rfl ?_
      refine gt_X12_13 hC (a := 74) (kk_74 hL) (kn_74 hL) dX12_stood_75 ?_
      refine g_ref (b := 76) rfl ?_
      refine g_iload_n hC 1 dX12_stood_78 rfl rfl ?_
      refine g_iload hC 7 dX12_stood_79 rfl ?_
      obtain ⟨h_2, hf⟩ := gdE hf
      refine g_iast hC (x := x76) (kk_76 hL) (kn_76 hL) (ov_get hN 2 rfl rfl) (inb_in h_2) (ov_set hN (by rfl) 2 (by rfl)) dX12_stood_81 ?_
      show gV l b0 D K (n, κ, ov X0 [74, 75, 76, 77, 78, 79, 92, 93, 94, 95, 96, 97, 101, 112] [x74, x75, (upd x76 v1.toNatClampNeg v7), x77, x78, x79, x92, x93, x94, x95, x96, x97, x101, x112], ov Y0 [99, 100] [y99, y100], Z, 0, 0) 82 [(0, .ref (b0 + 74)), (1, .int v1), (2, .int v2), (3, .int v3), (4, .int v4), (5, .int v5), (6, .int v6), (7, .int v7)] []
      refine g_aload_n hC 0 dX12_stood_82 rfl rfl ?_
      refine g_iload_n hC 1 dX12_stood_83 rfl rfl ?_
      refine g_iload_n hC 3 dX12_stood_84 rfl rfl ?_
      obtain ⟨r_3, x74_4, x75_5, x76_6, x77_7, x78_8, x101_9, x112_10, y99_11, y100_12, q_13, hf⟩ := bd10E hf
      refine g_callV_i (a := 74) hC (X' := ov X0 [74, 75, 76, 77, 78, 79, 92, 93, 94, 95, 96, 97, 101, 112] [x74_4, x75_5, x76_6, x77_7, x78_8, x79, x92, x93, x94, x95, x96, x97, x101_9, x112_10]) (Y' := ov Y0 [99, 100] [y99_11, y100_12]) (As := [.int v1, .int v3]) (gMi_eq (c_X12_placeIn l hL (ov_map hN [0, 1, 2, 3, 4, 5, 6, 7, 8, 9, 10, 11, 12, 13] (by rfl) (by rfl)) (ov_map hM [0, 1] (by rfl) (by rfl)) q_13) (ov_ovE hN (by rfl) [0, 1, 2, 3, 4, 5, 6, 7, 8, 9, 10, 11, 12, 13] [] (by rfl) (by rfl) [] (by rfl) (by rfl) (by rfl) 14 (by rfl) (by decide)) (ov_ovE hM (by rfl) [0, 1] [] (by rfl) (by rfl) [] (by rfl) (by rfl) (by rfl) 2 (by rfl) (by decide))) tw_1723 tw_1720 tw_127 tw_1722 tw_105 (ci := 12) rfl (by decide) (kk_74 hL) (kn_74 hL) pd_X12_placeIn (by decide) (by decide) rfl rfl (Nat.le_of_ble_eq_true rfl) rfl dX12_stood_85 ?_
      refine g_iload_n hC 2 dX12_stood_88 rfl rfl ?_
      refine g_icmp_ne hC 109 dX12_stood_89 (by decide) (fun hc => ?_) (fun hc => ?_)
      · replace hf := ifF hf hc
        exact g_sub [0, 1, 2, 3, 4, 5, 6, 7] rfl (wX12_stood_109 hL hN hM hC  hret hk63 hf)
      · replace hf := ifT hf hc
        refine g_iload hC 5 dX12_stood_92 rfl ?_
        refine g_if_ne hC 102 dX12_stood_94 (by decide) (fun hc => ?_) (fun hc => ?_)
        · replace hf := ifF hf hc
          refine g_iload hC 6 dX12_stood_102 rfl ?_
          exact g_sub [0, 1, 2, 3, 4, 5, 7] rfl (wX12_stood_104 hL hN hM hC  hret hk63 hf)
        · replace hf := ifT hf hc
          refine g_iload hC 7 dX12_stood_97 rfl ?_
          refine g_goto hC 104 dX12_stood_99 (by decide) ?_
          exact g_sub [0, 1, 2, 3, 4, 5, 7] rfl (wX12_stood_104 hL hN hM hC  hret hk63 hf)

def fX12_stood_0   (x79 : Nat → Int32) (x92 : Nat → Int32) (x93 : Nat → Int32) (x94 : Nat → Int32) (x95 : Nat → Int32) (x96 : Nat → Int32) (x97 : Nat → Int32)  (v1 : Int32) (v2 : Int32) (v3 : Int32) (v4 : Int32) (x74 : (Nat → Int32)) (x75 : (Nat → Int32)) (x76 : (Nat → Int32)) (x77 : (Nat → Int32)) (x78 : (Nat → Int32)) (x101 : (Nat → Int32)) (x112 : (Nat → Int32)) (y99 : (Nat → Int64)) (y100 : (Nat → Int64)) : Option (Int32 × (Nat → Int32) × (Nat → Int32) × (Nat → Int32) × (Nat → Int32) × (Nat → Int32) × (Nat → Int32) × (Nat → Int32) × (Nat → Int64) × (Nat → Int64)) := bd1 (fX12_isHouse x75 v1) fun r_1 => (if r_1 = 0 then (some ((-1), x74, x75, x76, x77, x78, x101, x112, y99, y100)) else (gd (inb 0 11) (bd1 (fX12_in v2.toInt64 0 ((x75 (0 : Int32).toNatClampNeg).toInt64)) fun r_4 => (if r_4 = 0 then (some ((-1), x74, x75, x76, x77, x78, x101, x112, y99, y100)) else (bd1 (fX12_in v3.toInt64 1 30) fun r_6 => (if r_6 = 0 then (some ((-1), x74, x75, x76, x77, x78, x101, x112, y99, y100)) else (bd1 (fX12_in v4.toInt64 0 1) fun r_8 => (if r_8 = 0 then (some ((-1), x74, x75, x76, x77, x78, x101, x112, y99, y100)) else (bd6 (fX12_keepsAll x74 x75 x76 x77 x78 x112) fun x74_10 x75_11 x76_12 x77_13 x78_14 x112_15 => (fX12_stood_63 x79 x92 x93 x94 x95 x96 x97  v1 v2 v3 v4 0 (-2) 0 x74_10 x75_11 x76_12 x77_13 x78_14 x101 x112_15 y99 y100))))))))))
set_option maxHeartbeats 4000000 in
set_option maxRecDepth 100000 in
theorem wX12_stood_0 {l : Launch} {b0 : Nat} {D : GD} {K : KT} {n : Nat} {κ : QT} {X0 : XT} {Y0 : YT} {Z : ZT} (hL : LY n κ) (hN : ([74, 75, 76, 77, 78, 79, 92, 93, 94, 95, 96, 97, 101, 112] : List Nat).Nodup) (hM : ([99, 100] : List Nat).Nodup) (hC : gC l b0 D K RX12 cX12_stood (some FieldType.int) 8 9 211 0 0) {x79 : Nat → Int32} {x92 : Nat → Int32} {x93 : Nat → Int32} {x94 : Nat → Int32} {x95 : Nat → Int32} {x96 : Nat → Int32} {x97 : Nat → Int32} {r : Int32} {rx74 : (Nat → Int32)} {rx75 : (Nat → Int32)} {rx76 : (Nat → Int32)} {rx77 : (Nat → Int32)} {rx78 : (Nat → Int32)} {rx101 : (Nat → Int32)} {rx112 : (Nat → Int32)} {ry99 : (Nat → Int64)} {ry100 : (Nat → Int64)} (hret : ∀ pc loc, narrow .int (.int r) = .int r → decode cX12_stood pc = .ok (.ireturn, 1) → gV l b0 D K (n, κ, ov X0 [74, 75, 76, 77, 78, 79, 92, 93, 94, 95, 96, 97, 101, 112] [rx74, rx75, rx76, rx77, rx78, x79, x92, x93, x94, x95, x96, x97, rx101, rx112], ov Y0 [99, 100] [ry99, ry100], Z, 0, 0) pc loc [.int r]) {v1 : Int32} {v2 : Int32} {v3 : Int32} {v4 : Int32} {x74 : (Nat → Int32)} {x75 : (Nat → Int32)} {x76 : (Nat → Int32)} {x77 : (Nat → Int32)} {x78 : (Nat → Int32)} {x101 : (Nat → Int32)} {x112 : (Nat → Int32)} {y99 : (Nat → Int64)} {y100 : (Nat → Int64)} (hf : fX12_stood_0 x79 x92 x93 x94 x95 x96 x97  v1 v2 v3 v4 x74 x75 x76 x77 x78 x101 x112 y99 y100 = some (r, rx74, rx75, rx76, rx77, rx78, rx101, rx112, ry99, ry100)) : gV l b0 D K (n, κ, ov X0 [74, 75, 76, 77, 78, 79, 92, 93, 94, 95, 96, 97, 101, 112] [x74, x75, x76, x77, x78, x79, x92, x93, x94, x95, x96, x97, x101, x112], ov Y0 [99, 100] [y99, y100], Z, 0, 0) 0 [(0, .ref (b0 + 74)), (1, .int v1), (2, .int v2), (3, .int v3), (4, .int v4)] [] := by
  unfold fX12_stood_0 at hf
  refine g_aload_n hC 0 dX12_stood_0 rfl rfl ?_
  refine g_iload_n hC 1 dX12_stood_1 rfl rfl ?_
  obtain ⟨r_1, q_2, hf⟩ := bd1E hf
  refine g_callV_i (a := 74) hC (X' := ov X0 [74, 75, 76, 77, 78, 79, 92, 93, 94, 95, 96, 97, 101, 112] [x74, x75, x76, x77, x78, x79, x92, x93, x94, x95, x96, x97, x101, x112]) (Y' := ov Y0 [99, 100] [y99, y100]) (As := [.int v1]) (gMi_eq (c_X12_isHouse l hL (ov_map hN [1] (by rfl) (by rfl)) (ov_map hM [] (by rfl) (by rfl)) q_2) (ov_ovE hN (by rfl) [1] [0, 2, 3, 4, 5, 6, 7, 8, 9, 10, 11, 12, 13] (by rfl) (by rfl) [x74, x76, x77, x78, x79, x92, x93, x94, x95, x96, x97, x101, x112] (by rfl) (by rfl) (by rfl) 14 (by rfl) (by decide)) (ov_ovE hM (by rfl) [] [0, 1] (by rfl) (by rfl) [y99, y100] (by rfl) (by rfl) (by rfl) 2 (by rfl) (by decide))) tw_1530 tw_1527 tw_127 tw_1529 tw_74 (ci := 12) rfl (by decide) (kk_74 hL) (kn_74 hL) pd_X12_isHouse (by decide) (by decide) rfl rfl (Nat.le_of_ble_eq_true rfl) rfl dX12_stood_2 ?_
  refine g_if_eq hC 47 dX12_stood_5 (by decide) (fun hc => ?_) (fun hc => ?_)
  · replace hf := ifT hf hc
    refine g_iconst hC (v := (-1)) dX12_stood_47 ic_m1 ?_
    obtain ⟨rfl, rfl, rfl, rfl, rfl, rfl, rfl, rfl, rfl, rfl⟩ := sm10E hf
    exact hret _ _ rfl dX12_stood_48
  · replace hf := ifF hf hc
    refine g_iload_n hC 2 dX12_stood_8 rfl rfl ?_
    refine g_i2l hC dX12_stood_9 ?_
    refine g_lconst hC (v := 0) dX12_stood_10 rfl ?_
    refine g_aload_n hC 0 dX12_stood_11 rfl rfl ?_
    refine gt_X12_9 hC (a := 74) (kk_74 hL) (kn_74 hL) dX12_stood_12 ?_
    refine g_ref (b := 75) rfl ?_
    refine g_iconst hC (v := 0) dX12_stood_15 ic_0 ?_
    obtain ⟨h_3, hf⟩ := gdE hf
    refine g_iald hC (x := x75) (kk_75 hL) (kn_75 hL) (ov_get hN 1 rfl rfl) (inb_in h_3) dX12_stood_16 ?_
    refine g_i2l hC dX12_stood_17 ?_
    obtain ⟨r_4, q_5, hf⟩ := bd1E hf
    refine g_callS_i hC (X' := ov X0 [74, 75, 76, 77, 78, 79, 92, 93, 94, 95, 96, 97, 101, 112] [x74, x75, x76, x77, x78, x79, x92, x93, x94, x95, x96, x97, x101, x112]) (Y' := ov Y0 [99, 100] [y99, y100]) (As := [.long v2.toInt64, .long 0, .long ((x75 (0 : Int32).toNatClampNeg).toInt64)]) (gMi_eq (c_X12_in l hL (ov_map hN [] (by rfl) (by rfl)) (ov_map hM [] (by rfl) (by rfl)) q_5) (ov_ovE hN (by rfl) [] [0, 1, 2, 3, 4, 5, 6, 7, 8, 9, 10, 11, 12, 13] (by rfl) (by rfl) [x74, x75, x76, x77, x78, x79, x92, x93, x94, x95, x96, x97, x101, x112] (by rfl) (by rfl) (by rfl) 14 (by rfl) (by decide)) (ov_ovE hM (by rfl) [] [0, 1] (by rfl) (by rfl) [y99, y100] (by rfl) (by rfl) (by rfl) 2 (by rfl) (by decide))) tw_1428 tw_1426 tw_127 tw_1427 pd_X12_in (by decide) (by decide) rfl rfl (Nat.le_of_ble_eq_true rfl) rfl dX12_stood_18 ?_
    refine g_if_eq hC 47 dX12_stood_21 (by decide) (fun hc => ?_) (fun hc => ?_)
    · replace hf := ifT hf hc
      refine g_iconst hC (v := (-1)) dX12_stood_47 ic_m1 ?_
      obtain ⟨rfl, rfl, rfl, rfl, rfl, rfl, rfl, rfl, rfl, rfl⟩ := sm10E hf
      exact hret _ _ rfl dX12_stood_48
    · replace hf := ifF hf hc
      refine g_iload_n hC 3 dX12_stood_24 rfl rfl ?_
      refine g_i2l hC dX12_stood_25 ?_
      refine g_lconst hC (v := 1) dX12_stood_26 rfl ?_
      refine g_ldc2_w hC (v := 30) tw_1732 dX12_stood_27 ?_
      obtain ⟨r_6, q_7, hf⟩ := bd1E hf
      refine g_callS_i hC (X' := ov X0 [74, 75, 76, 77, 78, 79, 92, 93, 94, 95, 96, 97, 101, 112] [x74, x75, x76, x77, x78, x79, x92, x93, x94, x95, x96, x97, x101, x112]) (Y' := ov Y0 [99, 100] [y99, y100]) (As := [.long v3.toInt64, .long 1, .long 30]) (gMi_eq (c_X12_in l hL (ov_map hN [] (by rfl) (by rfl)) (ov_map hM [] (by rfl) (by rfl)) q_7) (ov_ovE hN (by rfl) [] [0, 1, 2, 3, 4, 5, 6, 7, 8, 9, 10, 11, 12, 13] (by rfl) (by rfl) [x74, x75, x76, x77, x78, x79, x92, x93, x94, x95, x96, x97, x101, x112] (by rfl) (by rfl) (by rfl) 14 (by rfl) (by decide)) (ov_ovE hM (by rfl) [] [0, 1] (by rfl) (by rfl) [y99, y100] (by rfl) (by rfl) (by rfl) 2 (by rfl) (by decide))) tw_1428 tw_1426 tw_127 tw_1427 pd_X12_in (by decide) (by decide) rfl rfl (Nat.le_of_ble_eq_true rfl) rfl dX12_stood_30 ?_
      refine g_if_eq hC 47 dX12_stood_33 (by decide) (fun hc => ?_) (fun hc => ?_)
      · replace hf := ifT hf hc
        refine g_iconst hC (v := (-1)) dX12_stood_47 ic_m1 ?_
        obtain ⟨rfl, rfl, rfl, rfl, rfl, rfl, rfl, rfl, rfl, rfl⟩ := sm10E hf
        exact hret _ _ rfl dX12_stood_48
      · replace hf := ifF hf hc
        refine g_iload hC 4 dX12_stood_36 rfl ?_
        refine g_i2l hC dX12_stood_38 ?_
        refine g_lconst hC (v := 0) dX12_stood_39 rfl ?_
        refine g_lconst hC (v := 1) dX12_stood_40 rfl ?_
        obtain ⟨r_8, q_9, hf⟩ := bd1E hf
        refine g_callS_i hC (X' := ov X0 [74, 75, 76, 77, 78, 79, 92, 93, 94, 95, 96, 97, 101, 112] [x74, x75, x76, x77, x78, x79, x92, x93, x94, x95, x96, x97, x101, x112]) (Y' := ov Y0 [99, 100] [y99, y100]) (As := [.long v4.toInt64, .long 0, .long 1]) (gMi_eq (c_X12_in l hL (ov_map hN [] (by rfl) (by rfl)) (ov_map hM [] (by rfl) (by rfl)) q_9) (ov_ovE hN (by rfl) [] [0, 1, 2, 3, 4, 5, 6, 7, 8, 9, 10, 11, 12, 13] (by rfl) (by rfl) [x74, x75, x76, x77, x78, x79, x92, x93, x94, x95, x96, x97, x101, x112] (by rfl) (by rfl) (by rfl) 14 (by rfl) (by decide)) (ov_ovE hM (by rfl) [] [0, 1] (by rfl) (by rfl) [y99, y100] (by rfl) (by rfl) (by rfl) 2 (by rfl) (by decide))) tw_1428 tw_1426 tw_127 tw_1427 pd_X12_in (by decide) (by decide) rfl rfl (Nat.le_of_ble_eq_true rfl) rfl dX12_stood_41 ?_
        refine g_if_ne hC 49 dX12_stood_44 (by decide) (fun hc => ?_) (fun hc => ?_)
        · replace hf := ifF hf hc
          refine g_iconst hC (v := 0) dX12_stood_49 ic_0 ?_
          refine g_istore hC (i := 5) [(5, .int 0), (0, .ref (b0 + 74)), (1, .int v1), (2, .int v2), (3, .int v3), (4, .int v4)] dX12_stood_50 (by decide) rfl ?_
          refine g_bipush hC (v := (-2)) dX12_stood_52 bp_m2 ?_
          refine g_istore hC (i := 6) [(6, .int (-2)), (5, .int 0), (0, .ref (b0 + 74)), (1, .int v1), (2, .int v2), (3, .int v3), (4, .int v4)] dX12_stood_54 (by decide) rfl ?_
          refine g_aload_n hC 2 dX12_stood_56 rfl rfl ?_
          obtain ⟨x74_10, x75_11, x76_12, x77_13, x78_14, x112_15, q_16, hf⟩ := bd6E hf
          refine g_callV_v (a := 74) hC (X' := ov X0 [74, 75, 76, 77, 78, 79, 92, 93, 94, 95, 96, 97, 101, 112] [x74_10, x75_11, x76_12, x77_13, x78_14, x79, x92, x93, x94, x95, x96, x97, x101, x112_15]) (Y' := ov Y0 [99, 100] [y99, y100]) (As := []) (gMv_eq (c_X12_keepsAll l hL (ov_map hN [0, 1, 2, 3, 4, 13] (by rfl) (by rfl)) (ov_map hM [] (by rfl) (by rfl)) q_16) (ov_ovE hN (by rfl) [0, 1, 2, 3, 4, 13] [5, 6, 7, 8, 9, 10, 11, 12] (by rfl) (by rfl) [x79, x92, x93, x94, x95, x96, x97, x101] (by rfl) (by rfl) (by rfl) 14 (by rfl) (by decide)) (ov_ovE hM (by rfl) [] [0, 1] (by rfl) (by rfl) [y99, y100] (by rfl) (by rfl) (by rfl) 2 (by rfl) (by decide))) tw_1673 tw_1670 tw_127 tw_1672 tw_97 (ci := 12) rfl (by decide) (kk_74 hL) (kn_74 hL) pd_X12_keepsAll (by decide) (by decide) rfl rfl (Nat.le_of_ble_eq_true rfl) rfl dX12_stood_57 ?_
          refine g_iconst hC (v := 0) dX12_stood_60 ic_0 ?_
          refine g_istore hC (i := 7) [(7, .int 0), (6, .int (-2)), (5, .int 0), (0, .ref (b0 + 74)), (1, .int v1), (2, .int v2), (3, .int v3), (4, .int v4)] dX12_stood_61 (by decide) rfl ?_
          exact g_sub [3, 4, 5, 6, 7, 2, 1, 0] rfl (wX12_stood_63 hL hN hM hC  hret  5000 v1 v2 v3 v4 0 (-2) 0 x74_10 x75_11 x76_12 x77_13 x78_14 x101 x112_15 y99 y100 hf)
        · replace hf := ifT hf hc
          refine g_iconst hC (v := (-1)) dX12_stood_47 ic_m1 ?_
          obtain ⟨rfl, rfl, rfl, rfl, rfl, rfl, rfl, rfl, rfl, rfl⟩ := sm10E hf
          exact hret _ _ rfl dX12_stood_48

def fX12_stood   (x79 : Nat → Int32) (x92 : Nat → Int32) (x93 : Nat → Int32) (x94 : Nat → Int32) (x95 : Nat → Int32) (x96 : Nat → Int32) (x97 : Nat → Int32)  (v1 : Int32) (v2 : Int32) (v3 : Int32) (v4 : Int32) (x74 : Nat → Int32) (x75 : Nat → Int32) (x76 : Nat → Int32) (x77 : Nat → Int32) (x78 : Nat → Int32) (x101 : Nat → Int32) (x112 : Nat → Int32) (y99 : Nat → Int64) (y100 : Nat → Int64) : Option (Int32 × (Nat → Int32) × (Nat → Int32) × (Nat → Int32) × (Nat → Int32) × (Nat → Int32) × (Nat → Int32) × (Nat → Int32) × (Nat → Int64) × (Nat → Int64)) := fX12_stood_0 x79 x92 x93 x94 x95 x96 x97 v1 v2 v3 v4 x74 x75 x76 x77 x78 x101 x112 y99 y100

set_option maxHeartbeats 4000000 in
set_option maxRecDepth 100000 in
theorem c_X12_stood (l : Launch) {b0 : Nat} {D : GD} {n : Nat} {κ : QT} {X0 : XT} {Y0 : YT} {Z : ZT} (hL : LY n κ) {x74 : Nat → Int32} {x75 : Nat → Int32} {x76 : Nat → Int32} {x77 : Nat → Int32} {x78 : Nat → Int32} {x79 : Nat → Int32} {x92 : Nat → Int32} {x93 : Nat → Int32} {x94 : Nat → Int32} {x95 : Nat → Int32} {x96 : Nat → Int32} {x97 : Nat → Int32} {x101 : Nat → Int32} {x112 : Nat → Int32} {y99 : Nat → Int64} {y100 : Nat → Int64} (hx : ([74, 75, 76, 77, 78, 79, 92, 93, 94, 95, 96, 97, 101, 112] : List Nat).map X0 = [x74, x75, x76, x77, x78, x79, x92, x93, x94, x95, x96, x97, x101, x112]) (hy : ([99, 100] : List Nat).map Y0 = [y99, y100]) {v1 : Int32} {v2 : Int32} {v3 : Int32} {v4 : Int32} {r : Int32} {rx74 : (Nat → Int32)} {rx75 : (Nat → Int32)} {rx76 : (Nat → Int32)} {rx77 : (Nat → Int32)} {rx78 : (Nat → Int32)} {rx101 : (Nat → Int32)} {rx112 : (Nat → Int32)} {ry99 : (Nat → Int64)} {ry100 : (Nat → Int64)} (hf : fX12_stood x79 x92 x93 x94 x95 x96 x97 v1 v2 v3 v4 x74 x75 x76 x77 x78 x101 x112 y99 y100 = some (r, rx74, rx75, rx76, rx77, rx78, rx101, rx112, ry99, ry100)) : gMi l yX12_stood cX12_stood 8 (some FieldType.int) 9 211 0 0 b0 D [.ref (b0 + 74), .int v1, .int v2, .int v3, .int v4] (n, κ, X0, Y0, Z) (n, κ, ov X0 [74, 75, 76, 77, 78, 79, 92, 93, 94, 95, 96, 97, 101, 112] [rx74, rx75, rx76, rx77, rx78, x79, x92, x93, x94, x95, x96, x97, rx101, rx112], ov Y0 [99, 100] [ry99, ry100], Z) r := by
  have hN : ([74, 75, 76, 77, 78, 79, 92, 93, 94, 95, 96, 97, 101, 112] : List Nat).Nodup := by decide
  have hM : ([99, 100] : List Nat).Nodup := by decide
  refine g_meti (own := RX12) (by decide) rfl rfl (Nat.le_of_ble_eq_true rfl) ?_
  intro K hC hret
  have e := wX12_stood_0 hL hN hM hC  hret hf
  rw [ov_id' hx, ov_id' hy] at e
  exact g_sub [0, 1, 2, 3, 4] rfl e

-- X12_laysTwos
def fX12_laysTwos_18b   (x75 : Nat → Int32)  (k4 : Int32 → Int32 → (Nat → Int32) → Option (Int32 × (Nat → Int32))) (k18 : Int32 → Int32 → Int32 → (Nat → Int32) → Option (Int32 × (Nat → Int32))) (v1 : Int32) (v2 : Int32) (v3 : Int32) (x105 : (Nat → Int32)) : Option (Int32 × (Nat → Int32)) := gd (inb 4 11) (if (x75 (4 : Int32).toNatClampNeg) ≤ v3 then (bn (v2 + 1) fun t_2 => (k4 v1 t_2 x105)) else (gd (inb v1 36) (bn (v1 + 1) fun t_4 => (bn (v3 + 1) fun t_5 => (k18 t_4 v2 t_5 (upd x105 v1.toNatClampNeg ((8 * v2) + v3)))))))
def fX12_laysTwos_18   (x75 : Nat → Int32)  (k4 : Int32 → Int32 → (Nat → Int32) → Option (Int32 × (Nat → Int32))) : Int32 → Int32 → Int32 → (Nat → Int32) → Option (Int32 × (Nat → Int32)) := lq4 (fX12_laysTwos_18b x75 k4) 5000
set_option maxHeartbeats 4000000 in
set_option maxRecDepth 100000 in
theorem wX12_laysTwos_18 {l : Launch} {b0 : Nat} {D : GD} {K : KT} {n : Nat} {κ : QT} {X0 : XT} {Y0 : YT} {Z : ZT} (hL : LY n κ) (hN : ([75, 105] : List Nat).Nodup) (hM : ([] : List Nat).Nodup) (hC : gC l b0 D K RX12 cX12_laysTwos (some FieldType.int) 4 0 0 0 0) {x75 : Nat → Int32} {r : Int32} {rx105 : (Nat → Int32)} (hret : ∀ pc loc, narrow .int (.int r) = .int r → decode cX12_laysTwos pc = .ok (.ireturn, 1) → gV l b0 D K (n, κ, ov X0 [75, 105] [x75, rx105], ov Y0 [] [], Z, 0, 0) pc loc [.int r]) {k4 : Int32 → Int32 → (Nat → Int32) → Option (Int32 × (Nat → Int32))} (hk4 : ∀ (v1 : Int32) (v2 : Int32) (x105 : (Nat → Int32)), k4 v1 v2 x105 = some (r, rx105) → gV l b0 D K (n, κ, ov X0 [75, 105] [x75, x105], ov Y0 [] [], Z, 0, 0) 4 [(0, .ref (b0 + 74)), (1, .int v1), (2, .int v2)] []) : ∀ (j : Nat) (v1 : Int32) (v2 : Int32) (v3 : Int32) (x105 : (Nat → Int32)), lq4 (fX12_laysTwos_18b x75 k4) j v1 v2 v3 x105 = some (r, rx105) → gV l b0 D K (n, κ, ov X0 [75, 105] [x75, x105], ov Y0 [] [], Z, 0, 0) 18 [(0, .ref (b0 + 74)), (1, .int v1), (2, .int v2), (3, .int v3)] [] := by
  intro j
  induction j with
  | zero => intro v1 v2 v3 x105 hf; cases hf
  | succ j hk18 =>
    intro v1 v2 v3 x105 hf
    replace hf : fX12_laysTwos_18b x75 k4 (lq4 (fX12_laysTwos_18b x75 k4) j) v1 v2 v3 x105 = some (r, rx105) := hf
    unfold fX12_laysTwos_18b at hf
    refine g_iload_n hC 3 dX12_laysTwos_18 rfl rfl ?_
    refine g_aload_n hC 0 dX12_laysTwos_19 rfl rfl ?_
    refine gt_X12_9 hC (a := 74) (kk_74 hL) (kn_74 hL) dX12_laysTwos_20 ?_
    refine g_ref (b := 75) rfl ?_
    refine g_iconst hC (v := 4) dX12_laysTwos_23 ic_4 ?_
    obtain ⟨h_1, hf⟩ := gdE hf
    refine g_iald hC (x := x75) (kk_75 hL) (kn_75 hL) (ov_get hN 0 rfl rfl) (inb_in h_1) dX12_laysTwos_24 ?_
    refine g_icmp_ge hC 49 dX12_laysTwos_25 (by decide) (fun hc => ?_) (fun hc => ?_)
    · replace hf := ifT hf hc
      obtain ⟨t_2, et_2, hf⟩ := bnE hf
      refine g_iinc hC (i := 2) (v := t_2) [(2, .int t_2), (0, .ref (b0 + 74)), (1, .int v1), (3, .int v3)] dX12_laysTwos_49 (q := 2) rfl ((congrArg (HAdd.hAdd v2) ic_1).trans et_2.symm) (by decide) rfl ?_
      refine g_goto hC 4 dX12_laysTwos_52 (by decide) ?_
      exact g_sub [1, 2, 0] rfl (hk4 v1 t_2 x105 hf)
    · replace hf := ifF hf hc
      refine g_aload_n hC 0 dX12_laysTwos_28 rfl rfl ?_
      refine gt_X12_112 hC (a := 74) (kk_74 hL) (kn_74 hL) dX12_laysTwos_29 ?_
      refine g_ref (b := 105) rfl ?_
      refine g_iload_n hC 1 dX12_laysTwos_32 rfl rfl ?_
      refine g_bipush hC (v := 8) dX12_laysTwos_33 bp_8 ?_
      refine g_iload_n hC 2 dX12_laysTwos_35 rfl rfl ?_
      refine g_imul hC dX12_laysTwos_36 ?_
      refine g_iload_n hC 3 dX12_laysTwos_37 rfl rfl ?_
      refine g_iadd hC dX12_laysTwos_38 ?_
      obtain ⟨h_3, hf⟩ := gdE hf
      refine g_iast hC (x := x105) (kk_105 hL) (kn_105 hL) (ov_get hN 1 rfl rfl) (inb_in h_3) (ov_set hN (by rfl) 1 (by rfl)) dX12_laysTwos_39 ?_
      show gV l b0 D K (n, κ, ov X0 [75, 105] [x75, (upd x105 v1.toNatClampNeg ((8 * v2) + v3))], ov Y0 [] [], Z, 0, 0) 40 [(0, .ref (b0 + 74)), (1, .int v1), (2, .int v2), (3, .int v3)] []
      obtain ⟨t_4, et_4, hf⟩ := bnE hf
      refine g_iinc hC (i := 1) (v := t_4) [(1, .int t_4), (0, .ref (b0 + 74)), (2, .int v2), (3, .int v3)] dX12_laysTwos_40 (q := 1) rfl ((congrArg (HAdd.hAdd v1) ic_1).trans et_4.symm) (by decide) rfl ?_
      obtain ⟨t_5, et_5, hf⟩ := bnE hf
      refine g_iinc hC (i := 3) (v := t_5) [(3, .int t_5), (1, .int t_4), (0, .ref (b0 + 74)), (2, .int v2)] dX12_laysTwos_43 (q := 3) rfl ((congrArg (HAdd.hAdd v3) ic_1).trans et_5.symm) (by decide) rfl ?_
      refine g_goto hC 18 dX12_laysTwos_46 (by decide) ?_
      exact g_sub [2, 1, 3, 0] rfl (hk18 t_4 v2 t_5 (upd x105 v1.toNatClampNeg ((8 * v2) + v3)) hf)

def fX12_laysTwos_4b   (x75 : Nat → Int32)  (k4 : Int32 → Int32 → (Nat → Int32) → Option (Int32 × (Nat → Int32))) (v1 : Int32) (v2 : Int32) (x105 : (Nat → Int32)) : Option (Int32 × (Nat → Int32)) := gd (inb 4 11) (if (x75 (4 : Int32).toNatClampNeg) ≤ v2 then (some (v1, x105)) else (bn (v2 + 1) fun t_2 => (fX12_laysTwos_18 x75 k4 v1 v2 t_2 x105)))
def fX12_laysTwos_4   (x75 : Nat → Int32)  : Int32 → Int32 → (Nat → Int32) → Option (Int32 × (Nat → Int32)) := lq3 (fX12_laysTwos_4b x75 ) 5000
set_option maxHeartbeats 4000000 in
set_option maxRecDepth 100000 in
theorem wX12_laysTwos_4 {l : Launch} {b0 : Nat} {D : GD} {K : KT} {n : Nat} {κ : QT} {X0 : XT} {Y0 : YT} {Z : ZT} (hL : LY n κ) (hN : ([75, 105] : List Nat).Nodup) (hM : ([] : List Nat).Nodup) (hC : gC l b0 D K RX12 cX12_laysTwos (some FieldType.int) 4 0 0 0 0) {x75 : Nat → Int32} {r : Int32} {rx105 : (Nat → Int32)} (hret : ∀ pc loc, narrow .int (.int r) = .int r → decode cX12_laysTwos pc = .ok (.ireturn, 1) → gV l b0 D K (n, κ, ov X0 [75, 105] [x75, rx105], ov Y0 [] [], Z, 0, 0) pc loc [.int r]) : ∀ (j : Nat) (v1 : Int32) (v2 : Int32) (x105 : (Nat → Int32)), lq3 (fX12_laysTwos_4b x75 ) j v1 v2 x105 = some (r, rx105) → gV l b0 D K (n, κ, ov X0 [75, 105] [x75, x105], ov Y0 [] [], Z, 0, 0) 4 [(0, .ref (b0 + 74)), (1, .int v1), (2, .int v2)] [] := by
  intro j
  induction j with
  | zero => intro v1 v2 x105 hf; cases hf
  | succ j hk4 =>
    intro v1 v2 x105 hf
    replace hf : fX12_laysTwos_4b x75  (lq3 (fX12_laysTwos_4b x75 ) j) v1 v2 x105 = some (r, rx105) := hf
    unfold fX12_laysTwos_4b at hf
    refine g_iload_n hC 2 dX12_laysTwos_4 rfl rfl ?_
    refine g_aload_n hC 0 dX12_laysTwos_5 rfl rfl ?_
    refine gt_X12_9 hC (a := 74) (kk_74 hL) (kn_74 hL) dX12_laysTwos_6 ?_
    refine g_ref (b := 75) rfl ?_
    refine g_iconst hC (v := 4) dX12_laysTwos_9 ic_4 ?_
    obtain ⟨h_1, hf⟩ := gdE hf
    refine g_iald hC (x := x75) (kk_75 hL) (kn_75 hL) (ov_get hN 0 rfl rfl) (inb_in h_1) dX12_laysTwos_10 ?_
    refine g_icmp_ge hC 55 dX12_laysTwos_11 (by decide) (fun hc => ?_) (fun hc => ?_)
    · replace hf := ifT hf hc
      refine g_iload_n hC 1 dX12_laysTwos_55 rfl rfl ?_
      obtain ⟨rfl, rfl⟩ := sm2E hf
      exact hret _ _ rfl dX12_laysTwos_56
    · replace hf := ifF hf hc
      refine g_iload_n hC 2 dX12_laysTwos_14 rfl rfl ?_
      refine g_iconst hC (v := 1) dX12_laysTwos_15 ic_1 ?_
      refine g_iadd hC dX12_laysTwos_16 ?_
      obtain ⟨t_2, et_2, hf⟩ := bnE hf
      refine g_topi et_2 ?_
      refine g_istore_n hC (i := 3) [(3, .int t_2), (0, .ref (b0 + 74)), (1, .int v1), (2, .int v2)] rfl dX12_laysTwos_17 (by decide) rfl ?_
      exact g_sub [1, 2, 3, 0] rfl (wX12_laysTwos_18 hL hN hM hC  hret hk4 5000 v1 v2 t_2 x105 hf)

def fX12_laysTwos_0   (x75 : Nat → Int32)  (x105 : (Nat → Int32)) : Option (Int32 × (Nat → Int32)) := fX12_laysTwos_4 x75  0 0 x105
set_option maxHeartbeats 4000000 in
set_option maxRecDepth 100000 in
theorem wX12_laysTwos_0 {l : Launch} {b0 : Nat} {D : GD} {K : KT} {n : Nat} {κ : QT} {X0 : XT} {Y0 : YT} {Z : ZT} (hL : LY n κ) (hN : ([75, 105] : List Nat).Nodup) (hM : ([] : List Nat).Nodup) (hC : gC l b0 D K RX12 cX12_laysTwos (some FieldType.int) 4 0 0 0 0) {x75 : Nat → Int32} {r : Int32} {rx105 : (Nat → Int32)} (hret : ∀ pc loc, narrow .int (.int r) = .int r → decode cX12_laysTwos pc = .ok (.ireturn, 1) → gV l b0 D K (n, κ, ov X0 [75, 105] [x75, rx105], ov Y0 [] [], Z, 0, 0) pc loc [.int r]) {x105 : (Nat → Int32)} (hf : fX12_laysTwos_0 x75  x105 = some (r, rx105)) : gV l b0 D K (n, κ, ov X0 [75, 105] [x75, x105], ov Y0 [] [], Z, 0, 0) 0 [(0, .ref (b0 + 74))] [] := by
  unfold fX12_laysTwos_0 at hf
  refine g_iconst hC (v := 0) dX12_laysTwos_0 ic_0 ?_
  refine g_istore_n hC (i := 1) [(1, .int 0), (0, .ref (b0 + 74))] rfl dX12_laysTwos_1 (by decide) rfl ?_
  refine g_iconst hC (v := 0) dX12_laysTwos_2 ic_0 ?_
  refine g_istore_n hC (i := 2) [(2, .int 0), (1, .int 0), (0, .ref (b0 + 74))] rfl dX12_laysTwos_3 (by decide) rfl ?_
  exact g_sub [2, 1, 0] rfl (wX12_laysTwos_4 hL hN hM hC  hret  5000 0 0 x105 hf)

def fX12_laysTwos   (x75 : Nat → Int32)   (x105 : Nat → Int32)  : Option (Int32 × (Nat → Int32)) := fX12_laysTwos_0 x75 x105

set_option maxHeartbeats 4000000 in
set_option maxRecDepth 100000 in
theorem c_X12_laysTwos (l : Launch) {b0 : Nat} {D : GD} {n : Nat} {κ : QT} {X0 : XT} {Y0 : YT} {Z : ZT} (hL : LY n κ) {x75 : Nat → Int32} {x105 : Nat → Int32} (hx : ([75, 105] : List Nat).map X0 = [x75, x105]) (hy : ([] : List Nat).map Y0 = []) {r : Int32} {rx105 : (Nat → Int32)} (hf : fX12_laysTwos x75 x105 = some (r, rx105)) : gMi l yX12_laysTwos cX12_laysTwos 4 (some FieldType.int) 0 0 0 0 b0 D [.ref (b0 + 74)] (n, κ, X0, Y0, Z) (n, κ, ov X0 [75, 105] [x75, rx105], ov Y0 [] [], Z) r := by
  have hN : ([75, 105] : List Nat).Nodup := by decide
  have hM : ([] : List Nat).Nodup := by decide
  refine g_meti (own := RX12) (by decide) rfl rfl (Nat.le_of_ble_eq_true rfl) ?_
  intro K hC hret
  have e := wX12_laysTwos_0 hL hN hM hC  hret hf
  rw [ov_id' hx, ov_id' hy] at e
  exact g_sub [0] rfl e

-- X12_placesByRow
def fX12_placesByRow_104   (x79 : Nat → Int32) (x92 : Nat → Int32) (x93 : Nat → Int32) (x94 : Nat → Int32) (x95 : Nat → Int32) (x96 : Nat → Int32) (x97 : Nat → Int32) (x105 : Nat → Int32)  (s0 : Int32) (x74 : (Nat → Int32)) (x75 : (Nat → Int32)) (x76 : (Nat → Int32)) (x77 : (Nat → Int32)) (x78 : (Nat → Int32)) (x101 : (Nat → Int32)) (x106 : (Nat → Int32)) (x112 : (Nat → Int32)) (y99 : (Nat → Int64)) (y100 : (Nat → Int64)) : Option (Int32 × (Nat → Int32) × (Nat → Int32) × (Nat → Int32) × (Nat → Int32) × (Nat → Int32) × (Nat → Int32) × (Nat → Int32) × (Nat → Int32) × (Nat → Int64) × (Nat → Int64)) := bd6 (fX12_laysBack x74 x75 x76 x77 x78 x112) fun x74_1 x75_2 x76_3 x77_4 x78_5 x112_6 => (some (s0, x74_1, x75_2, x76_3, x77_4, x78_5, x101, x106, x112_6, y99, y100))
set_option maxHeartbeats 4000000 in
set_option maxRecDepth 100000 in
theorem wX12_placesByRow_104 {l : Launch} {b0 : Nat} {D : GD} {K : KT} {n : Nat} {κ : QT} {X0 : XT} {Y0 : YT} {Z : ZT} (hL : LY n κ) (hN : ([74, 75, 76, 77, 78, 79, 92, 93, 94, 95, 96, 97, 101, 105, 106, 112] : List Nat).Nodup) (hM : ([99, 100] : List Nat).Nodup) (hC : gC l b0 D K RX12 cX12_placesByRow (some FieldType.int) 8 7 166 0 0) {x79 : Nat → Int32} {x92 : Nat → Int32} {x93 : Nat → Int32} {x94 : Nat → Int32} {x95 : Nat → Int32} {x96 : Nat → Int32} {x97 : Nat → Int32} {x105 : Nat → Int32} {r : Int32} {rx74 : (Nat → Int32)} {rx75 : (Nat → Int32)} {rx76 : (Nat → Int32)} {rx77 : (Nat → Int32)} {rx78 : (Nat → Int32)} {rx101 : (Nat → Int32)} {rx106 : (Nat → Int32)} {rx112 : (Nat → Int32)} {ry99 : (Nat → Int64)} {ry100 : (Nat → Int64)} (hret : ∀ pc loc, narrow .int (.int r) = .int r → decode cX12_placesByRow pc = .ok (.ireturn, 1) → gV l b0 D K (n, κ, ov X0 [74, 75, 76, 77, 78, 79, 92, 93, 94, 95, 96, 97, 101, 105, 106, 112] [rx74, rx75, rx76, rx77, rx78, x79, x92, x93, x94, x95, x96, x97, rx101, x105, rx106, rx112], ov Y0 [99, 100] [ry99, ry100], Z, 0, 0) pc loc [.int r]) {s0 : Int32} {x74 : (Nat → Int32)} {x75 : (Nat → Int32)} {x76 : (Nat → Int32)} {x77 : (Nat → Int32)} {x78 : (Nat → Int32)} {x101 : (Nat → Int32)} {x106 : (Nat → Int32)} {x112 : (Nat → Int32)} {y99 : (Nat → Int64)} {y100 : (Nat → Int64)} (hf : fX12_placesByRow_104 x79 x92 x93 x94 x95 x96 x97 x105  s0 x74 x75 x76 x77 x78 x101 x106 x112 y99 y100 = some (r, rx74, rx75, rx76, rx77, rx78, rx101, rx106, rx112, ry99, ry100)) : gV l b0 D K (n, κ, ov X0 [74, 75, 76, 77, 78, 79, 92, 93, 94, 95, 96, 97, 101, 105, 106, 112] [x74, x75, x76, x77, x78, x79, x92, x93, x94, x95, x96, x97, x101, x105, x106, x112], ov Y0 [99, 100] [y99, y100], Z, 0, 0) 104 [(0, .ref (b0 + 74))] [.int s0] := by
  unfold fX12_placesByRow_104 at hf
  refine g_istore hC (i := 6) [(6, .int s0), (0, .ref (b0 + 74))] dX12_placesByRow_104 (by decide) rfl ?_
  refine g_aload_n hC 1 dX12_placesByRow_106 rfl rfl ?_
  obtain ⟨x74_1, x75_2, x76_3, x77_4, x78_5, x112_6, q_7, hf⟩ := bd6E hf
  refine g_callV_v (a := 74) hC (X' := ov X0 [74, 75, 76, 77, 78, 79, 92, 93, 94, 95, 96, 97, 101, 105, 106, 112] [x74_1, x75_2, x76_3, x77_4, x78_5, x79, x92, x93, x94, x95, x96, x97, x101, x105, x106, x112_6]) (Y' := ov Y0 [99, 100] [y99, y100]) (As := []) (gMv_eq (c_X12_laysBack l hL (ov_map hN [0, 1, 2, 3, 4, 15] (by rfl) (by rfl)) (ov_map hM [] (by rfl) (by rfl)) q_7) (ov_ovE hN (by rfl) [0, 1, 2, 3, 4, 15] [5, 6, 7, 8, 9, 10, 11, 12, 13, 14] (by rfl) (by rfl) [x79, x92, x93, x94, x95, x96, x97, x101, x105, x106] (by rfl) (by rfl) (by rfl) 16 (by rfl) (by decide)) (ov_ovE hM (by rfl) [] [0, 1] (by rfl) (by rfl) [y99, y100] (by rfl) (by rfl) (by rfl) 2 (by rfl) (by decide))) tw_1693 tw_1690 tw_127 tw_1692 tw_102 (ci := 12) rfl (by decide) (kk_74 hL) (kn_74 hL) pd_X12_laysBack (by decide) (by decide) rfl rfl (Nat.le_of_ble_eq_true rfl) rfl dX12_placesByRow_107 ?_
  refine g_iload hC 0 dX12_placesByRow_110 rfl ?_
  obtain ⟨rfl, rfl, rfl, rfl, rfl, rfl, rfl, rfl, rfl, rfl, rfl⟩ := sm11E hf
  exact hret _ _ rfl dX12_placesByRow_112

def fX12_placesByRow_56   (x79 : Nat → Int32) (x92 : Nat → Int32) (x93 : Nat → Int32) (x94 : Nat → Int32) (x95 : Nat → Int32) (x96 : Nat → Int32) (x97 : Nat → Int32) (x105 : Nat → Int32)  (k11 : Int32 → Int32 → Int32 → Int32 → Int32 → (Nat → Int32) → (Nat → Int32) → (Nat → Int32) → (Nat → Int32) → (Nat → Int32) → (Nat → Int32) → (Nat → Int32) → (Nat → Int32) → (Nat → Int64) → (Nat → Int64) → Option (Int32 × (Nat → Int32) × (Nat → Int32) × (Nat → Int32) × (Nat → Int32) × (Nat → Int32) × (Nat → Int32) × (Nat → Int32) × (Nat → Int32) × (Nat → Int64) × (Nat → Int64))) (v1 : Int32) (v2 : Int32) (v4 : Int32) (v5 : Int32) (v6 : Int32) (s0 : Int32) (x74 : (Nat → Int32)) (x75 : (Nat → Int32)) (x76 : (Nat → Int32)) (x77 : (Nat → Int32)) (x78 : (Nat → Int32)) (x101 : (Nat → Int32)) (x106 : (Nat → Int32)) (x112 : (Nat → Int32)) (y99 : (Nat → Int64)) (y100 : (Nat → Int64)) : Option (Int32 × (Nat → Int32) × (Nat → Int32) × (Nat → Int32) × (Nat → Int32) × (Nat → Int32) × (Nat → Int32) × (Nat → Int32) × (Nat → Int32) × (Nat → Int64) × (Nat → Int64)) := gd (inb v6 3) (bd9 (fX12_goes x79 x92 x93 x94 x95 x96 x97 (upd x74 38 s0) x75 x76 x77 x78 x101 y99 y100) fun r_2 x74_3 x75_4 x76_5 x77_6 x78_7 x101_8 y99_9 y100_10 => (bn (v6 + 1) fun t_12 => (k11 v1 v2 v4 v5 t_12 x74_3 x75_4 x76_5 x77_6 x78_7 x101_8 (upd x106 v6.toNatClampNeg ((upd x74 38 s0) 38)) x112 y99_9 y100_10)))
set_option maxHeartbeats 4000000 in
set_option maxRecDepth 100000 in
theorem wX12_placesByRow_56 {l : Launch} {b0 : Nat} {D : GD} {K : KT} {n : Nat} {κ : QT} {X0 : XT} {Y0 : YT} {Z : ZT} (hL : LY n κ) (hN : ([74, 75, 76, 77, 78, 79, 92, 93, 94, 95, 96, 97, 101, 105, 106, 112] : List Nat).Nodup) (hM : ([99, 100] : List Nat).Nodup) (hC : gC l b0 D K RX12 cX12_placesByRow (some FieldType.int) 8 7 166 0 0) {x79 : Nat → Int32} {x92 : Nat → Int32} {x93 : Nat → Int32} {x94 : Nat → Int32} {x95 : Nat → Int32} {x96 : Nat → Int32} {x97 : Nat → Int32} {x105 : Nat → Int32} {r : Int32} {rx74 : (Nat → Int32)} {rx75 : (Nat → Int32)} {rx76 : (Nat → Int32)} {rx77 : (Nat → Int32)} {rx78 : (Nat → Int32)} {rx101 : (Nat → Int32)} {rx106 : (Nat → Int32)} {rx112 : (Nat → Int32)} {ry99 : (Nat → Int64)} {ry100 : (Nat → Int64)} (hret : ∀ pc loc, narrow .int (.int r) = .int r → decode cX12_placesByRow pc = .ok (.ireturn, 1) → gV l b0 D K (n, κ, ov X0 [74, 75, 76, 77, 78, 79, 92, 93, 94, 95, 96, 97, 101, 105, 106, 112] [rx74, rx75, rx76, rx77, rx78, x79, x92, x93, x94, x95, x96, x97, rx101, x105, rx106, rx112], ov Y0 [99, 100] [ry99, ry100], Z, 0, 0) pc loc [.int r]) {k11 : Int32 → Int32 → Int32 → Int32 → Int32 → (Nat → Int32) → (Nat → Int32) → (Nat → Int32) → (Nat → Int32) → (Nat → Int32) → (Nat → Int32) → (Nat → Int32) → (Nat → Int32) → (Nat → Int64) → (Nat → Int64) → Option (Int32 × (Nat → Int32) × (Nat → Int32) × (Nat → Int32) × (Nat → Int32) × (Nat → Int32) × (Nat → Int32) × (Nat → Int32) × (Nat → Int32) × (Nat → Int64) × (Nat → Int64))} (hk11 : ∀ (v1 : Int32) (v2 : Int32) (v4 : Int32) (v5 : Int32) (v6 : Int32) (x74 : (Nat → Int32)) (x75 : (Nat → Int32)) (x76 : (Nat → Int32)) (x77 : (Nat → Int32)) (x78 : (Nat → Int32)) (x101 : (Nat → Int32)) (x106 : (Nat → Int32)) (x112 : (Nat → Int32)) (y99 : (Nat → Int64)) (y100 : (Nat → Int64)), k11 v1 v2 v4 v5 v6 x74 x75 x76 x77 x78 x101 x106 x112 y99 y100 = some (r, rx74, rx75, rx76, rx77, rx78, rx101, rx106, rx112, ry99, ry100) → gV l b0 D K (n, κ, ov X0 [74, 75, 76, 77, 78, 79, 92, 93, 94, 95, 96, 97, 101, 105, 106, 112] [x74, x75, x76, x77, x78, x79, x92, x93, x94, x95, x96, x97, x101, x105, x106, x112], ov Y0 [99, 100] [y99, y100], Z, 0, 0) 11 [(0, .ref (b0 + 74)), (1, .int v1), (2, .int v2), (4, .int v4), (5, .int v5), (6, .int v6)] []) {v1 : Int32} {v2 : Int32} {v4 : Int32} {v5 : Int32} {v6 : Int32} {s0 : Int32} {x74 : (Nat → Int32)} {x75 : (Nat → Int32)} {x76 : (Nat → Int32)} {x77 : (Nat → Int32)} {x78 : (Nat → Int32)} {x101 : (Nat → Int32)} {x106 : (Nat → Int32)} {x112 : (Nat → Int32)} {y99 : (Nat → Int64)} {y100 : (Nat → Int64)} (hf : fX12_placesByRow_56 x79 x92 x93 x94 x95 x96 x97 x105 k11 v1 v2 v4 v5 v6 s0 x74 x75 x76 x77 x78 x101 x106 x112 y99 y100 = some (r, rx74, rx75, rx76, rx77, rx78, rx101, rx106, rx112, ry99, ry100)) : gV l b0 D K (n, κ, ov X0 [74, 75, 76, 77, 78, 79, 92, 93, 94, 95, 96, 97, 101, 105, 106, 112] [x74, x75, x76, x77, x78, x79, x92, x93, x94, x95, x96, x97, x101, x105, x106, x112], ov Y0 [99, 100] [y99, y100], Z, 0, 0) 56 [(0, .ref (b0 + 74)), (1, .int v1), (2, .int v2), (4, .int v4), (5, .int v5), (6, .int v6)] [.int s0, .ref (b0 + 74)] := by
  unfold fX12_placesByRow_56 at hf
  refine pt_X12_97 hC (x := x74) (kk_74 hL) (kn_74 hL) (ov_get hN 0 rfl rfl) (ov_set hN (by rfl) 0 (by rfl)) dX12_placesByRow_56 ?_
  show gV l b0 D K (n, κ, ov X0 [74, 75, 76, 77, 78, 79, 92, 93, 94, 95, 96, 97, 101, 105, 106, 112] [(upd x74 38 s0), x75, x76, x77, x78, x79, x92, x93, x94, x95, x96, x97, x101, x105, x106, x112], ov Y0 [99, 100] [y99, y100], Z, 0, 0) 59 [(0, .ref (b0 + 74)), (1, .int v1), (2, .int v2), (4, .int v4), (5, .int v5), (6, .int v6)] []
  refine g_aload_n hC 0 dX12_placesByRow_59 rfl rfl ?_
  refine gt_X12_115 hC (a := 74) (kk_74 hL) (kn_74 hL) dX12_placesByRow_60 ?_
  refine g_ref (b := 106) rfl ?_
  refine g_iload hC 5 dX12_placesByRow_63 rfl ?_
  refine g_aload_n hC 0 dX12_placesByRow_65 rfl rfl ?_
  refine gt_X12_97 hC (x := (upd x74 38 s0)) (kk_74 hL) (kn_74 hL) (ov_get hN 0 rfl rfl) dX12_placesByRow_66 ?_
  obtain ⟨h_1, hf⟩ := gdE hf
  refine g_iast hC (x := x106) (kk_106 hL) (kn_106 hL) (ov_get hN 14 rfl rfl) (inb_in h_1) (ov_set hN (by rfl) 14 (by rfl)) dX12_placesByRow_69 ?_
  show gV l b0 D K (n, κ, ov X0 [74, 75, 76, 77, 78, 79, 92, 93, 94, 95, 96, 97, 101, 105, 106, 112] [(upd x74 38 s0), x75, x76, x77, x78, x79, x92, x93, x94, x95, x96, x97, x101, x105, (upd x106 v6.toNatClampNeg ((upd x74 38 s0) 38)), x112], ov Y0 [99, 100] [y99, y100], Z, 0, 0) 70 [(0, .ref (b0 + 74)), (1, .int v1), (2, .int v2), (4, .int v4), (5, .int v5), (6, .int v6)] []
  refine g_aload_n hC 0 dX12_placesByRow_70 rfl rfl ?_
  obtain ⟨r_2, x74_3, x75_4, x76_5, x77_6, x78_7, x101_8, y99_9, y100_10, q_11, hf⟩ := bd9E hf
  refine g_callV_i (a := 74) hC (X' := ov X0 [74, 75, 76, 77, 78, 79, 92, 93, 94, 95, 96, 97, 101, 105, 106, 112] [x74_3, x75_4, x76_5, x77_6, x78_7, x79, x92, x93, x94, x95, x96, x97, x101_8, x105, (upd x106 v6.toNatClampNeg ((upd x74 38 s0) 38)), x112]) (Y' := ov Y0 [99, 100] [y99_9, y100_10]) (As := []) (gMi_eq (c_X12_goes l hL (ov_map hN [0, 1, 2, 3, 4, 5, 6, 7, 8, 9, 10, 11, 12] (by rfl) (by rfl)) (ov_map hM [0, 1] (by rfl) (by rfl)) q_11) (ov_ovE hN (by rfl) [0, 1, 2, 3, 4, 5, 6, 7, 8, 9, 10, 11, 12] [13, 14, 15] (by rfl) (by rfl) [x105, (upd x106 v6.toNatClampNeg ((upd x74 38 s0) 38)), x112] (by rfl) (by rfl) (by rfl) 16 (by rfl) (by decide)) (ov_ovE hM (by rfl) [0, 1] [] (by rfl) (by rfl) [] (by rfl) (by rfl) (by rfl) 2 (by rfl) (by decide))) tw_1593 tw_1590 tw_127 tw_1592 tw_86 (ci := 12) rfl (by decide) (kk_74 hL) (kn_74 hL) pd_X12_goes (by decide) (by decide) rfl rfl (Nat.le_of_ble_eq_true rfl) rfl dX12_placesByRow_71 ?_
  refine g_pop hC dX12_placesByRow_74 rfl ?_
  obtain ⟨t_12, et_12, hf⟩ := bnE hf
  refine g_iinc hC (i := 6) (v := t_12) [(6, .int t_12), (0, .ref (b0 + 74)), (1, .int v1), (2, .int v2), (4, .int v4), (5, .int v5)] dX12_placesByRow_75 (q := 5) rfl ((congrArg (HAdd.hAdd v6) ic_1).trans et_12.symm) (by decide) rfl ?_
  refine g_goto hC 11 dX12_placesByRow_78 (by decide) ?_
  exact g_sub [1, 2, 3, 4, 5, 0] rfl (hk11 v1 v2 v4 v5 t_12 x74_3 x75_4 x76_5 x77_6 x78_7 x101_8 (upd x106 v6.toNatClampNeg ((upd x74 38 s0) 38)) x112 y99_9 y100_10 hf)

def fX12_placesByRow_11b   (x79 : Nat → Int32) (x92 : Nat → Int32) (x93 : Nat → Int32) (x94 : Nat → Int32) (x95 : Nat → Int32) (x96 : Nat → Int32) (x97 : Nat → Int32) (x105 : Nat → Int32)  (k11 : Int32 → Int32 → Int32 → Int32 → Int32 → (Nat → Int32) → (Nat → Int32) → (Nat → Int32) → (Nat → Int32) → (Nat → Int32) → (Nat → Int32) → (Nat → Int32) → (Nat → Int32) → (Nat → Int64) → (Nat → Int64) → Option (Int32 × (Nat → Int32) × (Nat → Int32) × (Nat → Int32) × (Nat → Int32) × (Nat → Int32) × (Nat → Int32) × (Nat → Int32) × (Nat → Int32) × (Nat → Int64) × (Nat → Int64))) (v1 : Int32) (v2 : Int32) (v4 : Int32) (v5 : Int32) (v6 : Int32) (x74 : (Nat → Int32)) (x75 : (Nat → Int32)) (x76 : (Nat → Int32)) (x77 : (Nat → Int32)) (x78 : (Nat → Int32)) (x101 : (Nat → Int32)) (x106 : (Nat → Int32)) (x112 : (Nat → Int32)) (y99 : (Nat → Int64)) (y100 : (Nat → Int64)) : Option (Int32 × (Nat → Int32) × (Nat → Int32) × (Nat → Int32) × (Nat → Int32) × (Nat → Int32) × (Nat → Int32) × (Nat → Int32) × (Nat → Int32) × (Nat → Int64) × (Nat → Int64)) := if v1 ≤ v6 then (if ((upd x74 38 (-5)) 39) = 0 then (fX12_placesByRow_104 x79 x92 x93 x94 x95 x96 x97 x105  100000 (upd x74 38 (-5)) x75 x76 x77 x78 x101 x106 x112 y99 y100) else (bd1 (fX12_allPlaces x75 x76) fun r_1 => (fX12_placesByRow_104 x79 x92 x93 x94 x95 x96 x97 x105  r_1 (upd x74 38 (-5)) x75 x76 x77 x78 x101 x106 x112 y99 y100))) else (gd (nz (v4 + 1)) (bn (v5 / (v4 + 1)) fun t_4 => (gd (nz t_4) (gd (nz (v4 + 1)) (bn ((v2 / t_4) - (v2 / t_4) / (v4 + 1) * (v4 + 1)) fun t_7 => (if t_7 = 0 then (fX12_placesByRow_56 x79 x92 x93 x94 x95 x96 x97 x105 k11 v1 v2 v4 t_4 v6 (-1) x74 x75 x76 x77 x78 x101 x106 x112 y99 y100) else (gd (inb (t_7 - 1) 36) (fX12_placesByRow_56 x79 x92 x93 x94 x95 x96 x97 x105 k11 v1 v2 v4 t_4 v6 (x105 (t_7 - 1).toNatClampNeg) x74 x75 x76 x77 x78 x101 x106 x112 y99 y100))))))))
def fX12_placesByRow_11   (x79 : Nat → Int32) (x92 : Nat → Int32) (x93 : Nat → Int32) (x94 : Nat → Int32) (x95 : Nat → Int32) (x96 : Nat → Int32) (x97 : Nat → Int32) (x105 : Nat → Int32)  : Int32 → Int32 → Int32 → Int32 → Int32 → (Nat → Int32) → (Nat → Int32) → (Nat → Int32) → (Nat → Int32) → (Nat → Int32) → (Nat → Int32) → (Nat → Int32) → (Nat → Int32) → (Nat → Int64) → (Nat → Int64) → Option (Int32 × (Nat → Int32) × (Nat → Int32) × (Nat → Int32) × (Nat → Int32) × (Nat → Int32) × (Nat → Int32) × (Nat → Int32) × (Nat → Int32) × (Nat → Int64) × (Nat → Int64)) := lq15 (fX12_placesByRow_11b x79 x92 x93 x94 x95 x96 x97 x105 ) 5000
set_option maxHeartbeats 4000000 in
set_option maxRecDepth 100000 in
theorem wX12_placesByRow_11 {l : Launch} {b0 : Nat} {D : GD} {K : KT} {n : Nat} {κ : QT} {X0 : XT} {Y0 : YT} {Z : ZT} (hL : LY n κ) (hN : ([74, 75, 76, 77, 78, 79, 92, 93, 94, 95, 96, 97, 101, 105, 106, 112] : List Nat).Nodup) (hM : ([99, 100] : List Nat).Nodup) (hC : gC l b0 D K RX12 cX12_placesByRow (some FieldType.int) 8 7 166 0 0) {x79 : Nat → Int32} {x92 : Nat → Int32} {x93 : Nat → Int32} {x94 : Nat → Int32} {x95 : Nat → Int32} {x96 : Nat → Int32} {x97 : Nat → Int32} {x105 : Nat → Int32} {r : Int32} {rx74 : (Nat → Int32)} {rx75 : (Nat → Int32)} {rx76 : (Nat → Int32)} {rx77 : (Nat → Int32)} {rx78 : (Nat → Int32)} {rx101 : (Nat → Int32)} {rx106 : (Nat → Int32)} {rx112 : (Nat → Int32)} {ry99 : (Nat → Int64)} {ry100 : (Nat → Int64)} (hret : ∀ pc loc, narrow .int (.int r) = .int r → decode cX12_placesByRow pc = .ok (.ireturn, 1) → gV l b0 D K (n, κ, ov X0 [74, 75, 76, 77, 78, 79, 92, 93, 94, 95, 96, 97, 101, 105, 106, 112] [rx74, rx75, rx76, rx77, rx78, x79, x92, x93, x94, x95, x96, x97, rx101, x105, rx106, rx112], ov Y0 [99, 100] [ry99, ry100], Z, 0, 0) pc loc [.int r]) : ∀ (j : Nat) (v1 : Int32) (v2 : Int32) (v4 : Int32) (v5 : Int32) (v6 : Int32) (x74 : (Nat → Int32)) (x75 : (Nat → Int32)) (x76 : (Nat → Int32)) (x77 : (Nat → Int32)) (x78 : (Nat → Int32)) (x101 : (Nat → Int32)) (x106 : (Nat → Int32)) (x112 : (Nat → Int32)) (y99 : (Nat → Int64)) (y100 : (Nat → Int64)), lq15 (fX12_placesByRow_11b x79 x92 x93 x94 x95 x96 x97 x105 ) j v1 v2 v4 v5 v6 x74 x75 x76 x77 x78 x101 x106 x112 y99 y100 = some (r, rx74, rx75, rx76, rx77, rx78, rx101, rx106, rx112, ry99, ry100) → gV l b0 D K (n, κ, ov X0 [74, 75, 76, 77, 78, 79, 92, 93, 94, 95, 96, 97, 101, 105, 106, 112] [x74, x75, x76, x77, x78, x79, x92, x93, x94, x95, x96, x97, x101, x105, x106, x112], ov Y0 [99, 100] [y99, y100], Z, 0, 0) 11 [(0, .ref (b0 + 74)), (1, .int v1), (2, .int v2), (4, .int v4), (5, .int v5), (6, .int v6)] [] := by
  intro j
  induction j with
  | zero => intro v1 v2 v4 v5 v6 x74 x75 x76 x77 x78 x101 x106 x112 y99 y100 hf; cases hf
  | succ j hk11 =>
    intro v1 v2 v4 v5 v6 x74 x75 x76 x77 x78 x101 x106 x112 y99 y100 hf
    replace hf : fX12_placesByRow_11b x79 x92 x93 x94 x95 x96 x97 x105  (lq15 (fX12_placesByRow_11b x79 x92 x93 x94 x95 x96 x97 x105 ) j) v1 v2 v4 v5 v6 x74 x75 x76 x77 x78 x101 x106 x112 y99 y100 = some (r, rx74, rx75, rx76, rx77, rx78, rx101, rx106, rx112, ry99, ry100) := hf
    unfold fX12_placesByRow_11b at hf
    refine g_iload hC 5 dX12_placesByRow_11 rfl ?_
    refine g_iload_n hC 1 dX12_placesByRow_13 rfl rfl ?_
    refine g_icmp_ge hC 81 dX12_placesByRow_14 (by decide) (fun hc => ?_) (fun hc => ?_)
    · replace hf := ifT hf hc
      refine g_aload_n hC 0 dX12_placesByRow_81 rfl rfl ?_
      refine g_bipush hC (v := (-5)) dX12_placesByRow_82 bp_m5 ?_
      refine pt_X12_97 hC (x := x74) (kk_74 hL) (kn_74 hL) (ov_get hN 0 rfl rfl) (ov_set hN (by rfl) 0 (by rfl)) dX12_placesByRow_84 ?_
      show gV l b0 D K (n, κ, ov X0 [74, 75, 76, 77, 78, 79, 92, 93, 94, 95, 96, 97, 101, 105, 106, 112] [(upd x74 38 (-5)), x75, x76, x77, x78, x79, x92, x93, x94, x95, x96, x97, x101, x105, x106, x112], ov Y0 [99, 100] [y99, y100], Z, 0, 0) 87 [(0, .ref (b0 + 74)), (1, .int v1), (2, .int v2), (4, .int v4), (5, .int v5), (6, .int v6)] []
      refine g_aload_n hC 0 dX12_placesByRow_87 rfl rfl ?_
      refine gt_X12_382 hC (x := (upd x74 38 (-5))) (kk_74 hL) (kn_74 hL) (ov_get hN 0 rfl rfl) dX12_placesByRow_88 ?_
      refine g_if_eq hC 101 dX12_placesByRow_91 (by decide) (fun hc => ?_) (fun hc => ?_)
      · replace hf := ifT hf hc
        refine g_ldc_w hC (v := 100000) tw_1706 dX12_placesByRow_101 ?_
        exact g_sub [0] rfl (wX12_placesByRow_104 hL hN hM hC  hret  hf)
      · replace hf := ifF hf hc
        refine g_aload_n hC 0 dX12_placesByRow_94 rfl rfl ?_
        obtain ⟨r_1, q_2, hf⟩ := bd1E hf
        refine g_callV_i (a := 74) hC (X' := ov X0 [74, 75, 76, 77, 78, 79, 92, 93, 94, 95, 96, 97, 101, 105, 106, 112] [(upd x74 38 (-5)), x75, x76, x77, x78, x79, x92, x93, x94, x95, x96, x97, x101, x105, x106, x112]) (Y' := ov Y0 [99, 100] [y99, y100]) (As := []) (gMi_eq (c_X12_allPlaces l hL (ov_map hN [1, 2] (by rfl) (by rfl)) (ov_map hM [] (by rfl) (by rfl)) q_2) (ov_ovE hN (by rfl) [1, 2] [0, 3, 4, 5, 6, 7, 8, 9, 10, 11, 12, 13, 14, 15] (by rfl) (by rfl) [(upd x74 38 (-5)), x77, x78, x79, x92, x93, x94, x95, x96, x97, x101, x105, x106, x112] (by rfl) (by rfl) (by rfl) 16 (by rfl) (by decide)) (ov_ovE hM (by rfl) [] [0, 1] (by rfl) (by rfl) [y99, y100] (by rfl) (by rfl) (by rfl) 2 (by rfl) (by decide))) tw_1749 tw_1746 tw_127 tw_1748 tw_108 (ci := 12) rfl (by decide) (kk_74 hL) (kn_74 hL) pd_X12_allPlaces (by decide) (by decide) rfl rfl (Nat.le_of_ble_eq_true rfl) rfl dX12_placesByRow_95 ?_
        refine g_goto hC 104 dX12_placesByRow_98 (by decide) ?_
        exact g_sub [0] rfl (wX12_placesByRow_104 hL hN hM hC  hret  hf)
    · replace hf := ifF hf hc
      refine g_iload hC 4 dX12_placesByRow_17 rfl ?_
      refine g_iload hC 3 dX12_placesByRow_19 rfl ?_
      refine g_iconst hC (v := 1) dX12_placesByRow_21 ic_1 ?_
      refine g_iadd hC dX12_placesByRow_22 ?_
      obtain ⟨h_3, hf⟩ := gdE hf
      refine g_idiv hC dX12_placesByRow_23 (nzE h_3) ?_
      obtain ⟨t_4, et_4, hf⟩ := bnE hf
      refine g_topi et_4 ?_
      refine g_istore hC (i := 5) [(5, .int t_4), (0, .ref (b0 + 74)), (1, .int v1), (2, .int v2), (4, .int v4), (6, .int v6)] dX12_placesByRow_24 (by decide) rfl ?_
      refine g_iload_n hC 3 dX12_placesByRow_26 rfl rfl ?_
      refine g_iload hC 0 dX12_placesByRow_27 rfl ?_
      obtain ⟨h_5, hf⟩ := gdE hf
      refine g_idiv hC dX12_placesByRow_29 (nzE h_5) ?_
      refine g_iload hC 4 dX12_placesByRow_30 rfl ?_
      refine g_iconst hC (v := 1) dX12_placesByRow_32 ic_1 ?_
      refine g_iadd hC dX12_placesByRow_33 ?_
      obtain ⟨h_6, hf⟩ := gdE hf
      refine g_irem hC dX12_placesByRow_34 (nzE h_6) ?_
      obtain ⟨t_7, et_7, hf⟩ := bnE hf
      refine g_topi et_7 ?_
      refine g_istore hC (i := 7) [(7, .int t_7), (5, .int t_4), (0, .ref (b0 + 74)), (1, .int v1), (2, .int v2), (4, .int v4), (6, .int v6)] dX12_placesByRow_35 (by decide) rfl ?_
      refine g_aload_n hC 2 dX12_placesByRow_37 rfl rfl ?_
      refine g_iload hC 0 dX12_placesByRow_38 rfl ?_
      refine g_if_ne hC 47 dX12_placesByRow_40 (by decide) (fun hc => ?_) (fun hc => ?_)
      · replace hf := ifF hf hc
        refine g_aload_n hC 2 dX12_placesByRow_47 rfl rfl ?_
        refine gt_X12_112 hC (a := 74) (kk_74 hL) (kn_74 hL) dX12_placesByRow_48 ?_
        refine g_ref (b := 105) rfl ?_
        refine g_iload hC 0 dX12_placesByRow_51 rfl ?_
        refine g_iconst hC (v := 1) dX12_placesByRow_53 ic_1 ?_
        refine g_isub hC dX12_placesByRow_54 ?_
        obtain ⟨h_8, hf⟩ := gdE hf
        refine g_iald hC (x := x105) (kk_105 hL) (kn_105 hL) (ov_get hN 13 rfl rfl) (inb_in h_8) dX12_placesByRow_55 ?_
        exact g_sub [2, 3, 4, 5, 1, 6] rfl (wX12_placesByRow_56 hL hN hM hC  hret hk11 hf)
      · replace hf := ifT hf hc
        refine g_iconst hC (v := (-1)) dX12_placesByRow_43 ic_m1 ?_
        refine g_goto hC 56 dX12_placesByRow_44 (by decide) ?_
        exact g_sub [2, 3, 4, 5, 1, 6] rfl (wX12_placesByRow_56 hL hN hM hC  hret hk11 hf)

def fX12_placesByRow_0   (x79 : Nat → Int32) (x92 : Nat → Int32) (x93 : Nat → Int32) (x94 : Nat → Int32) (x95 : Nat → Int32) (x96 : Nat → Int32) (x97 : Nat → Int32) (x105 : Nat → Int32)  (v1 : Int32) (v2 : Int32) (v3 : Int32) (v4 : Int32) (x74 : (Nat → Int32)) (x75 : (Nat → Int32)) (x76 : (Nat → Int32)) (x77 : (Nat → Int32)) (x78 : (Nat → Int32)) (x101 : (Nat → Int32)) (x106 : (Nat → Int32)) (x112 : (Nat → Int32)) (y99 : (Nat → Int64)) (y100 : (Nat → Int64)) : Option (Int32 × (Nat → Int32) × (Nat → Int32) × (Nat → Int32) × (Nat → Int32) × (Nat → Int32) × (Nat → Int32) × (Nat → Int32) × (Nat → Int32) × (Nat → Int64) × (Nat → Int64)) := fX12_placesByRow_11 x79 x92 x93 x94 x95 x96 x97 x105  v1 v2 v4 v3 0 (upd x74 39 1) x75 x76 x77 x78 x101 x106 x112 y99 y100
set_option maxHeartbeats 4000000 in
set_option maxRecDepth 100000 in
theorem wX12_placesByRow_0 {l : Launch} {b0 : Nat} {D : GD} {K : KT} {n : Nat} {κ : QT} {X0 : XT} {Y0 : YT} {Z : ZT} (hL : LY n κ) (hN : ([74, 75, 76, 77, 78, 79, 92, 93, 94, 95, 96, 97, 101, 105, 106, 112] : List Nat).Nodup) (hM : ([99, 100] : List Nat).Nodup) (hC : gC l b0 D K RX12 cX12_placesByRow (some FieldType.int) 8 7 166 0 0) {x79 : Nat → Int32} {x92 : Nat → Int32} {x93 : Nat → Int32} {x94 : Nat → Int32} {x95 : Nat → Int32} {x96 : Nat → Int32} {x97 : Nat → Int32} {x105 : Nat → Int32} {r : Int32} {rx74 : (Nat → Int32)} {rx75 : (Nat → Int32)} {rx76 : (Nat → Int32)} {rx77 : (Nat → Int32)} {rx78 : (Nat → Int32)} {rx101 : (Nat → Int32)} {rx106 : (Nat → Int32)} {rx112 : (Nat → Int32)} {ry99 : (Nat → Int64)} {ry100 : (Nat → Int64)} (hret : ∀ pc loc, narrow .int (.int r) = .int r → decode cX12_placesByRow pc = .ok (.ireturn, 1) → gV l b0 D K (n, κ, ov X0 [74, 75, 76, 77, 78, 79, 92, 93, 94, 95, 96, 97, 101, 105, 106, 112] [rx74, rx75, rx76, rx77, rx78, x79, x92, x93, x94, x95, x96, x97, rx101, x105, rx106, rx112], ov Y0 [99, 100] [ry99, ry100], Z, 0, 0) pc loc [.int r]) {v1 : Int32} {v2 : Int32} {v3 : Int32} {v4 : Int32} {x74 : (Nat → Int32)} {x75 : (Nat → Int32)} {x76 : (Nat → Int32)} {x77 : (Nat → Int32)} {x78 : (Nat → Int32)} {x101 : (Nat → Int32)} {x106 : (Nat → Int32)} {x112 : (Nat → Int32)} {y99 : (Nat → Int64)} {y100 : (Nat → Int64)} (hf : fX12_placesByRow_0 x79 x92 x93 x94 x95 x96 x97 x105  v1 v2 v3 v4 x74 x75 x76 x77 x78 x101 x106 x112 y99 y100 = some (r, rx74, rx75, rx76, rx77, rx78, rx101, rx106, rx112, ry99, ry100)) : gV l b0 D K (n, κ, ov X0 [74, 75, 76, 77, 78, 79, 92, 93, 94, 95, 96, 97, 101, 105, 106, 112] [x74, x75, x76, x77, x78, x79, x92, x93, x94, x95, x96, x97, x101, x105, x106, x112], ov Y0 [99, 100] [y99, y100], Z, 0, 0) 0 [(0, .ref (b0 + 74)), (1, .int v1), (2, .int v2), (3, .int v3), (4, .int v4)] [] := by
  unfold fX12_placesByRow_0 at hf
  refine g_iload_n hC 3 dX12_placesByRow_0 rfl rfl ?_
  refine g_istore hC (i := 5) [(5, .int v3), (0, .ref (b0 + 74)), (1, .int v1), (2, .int v2), (3, .int v3), (4, .int v4)] dX12_placesByRow_1 (by decide) rfl ?_
  refine g_aload_n hC 1 dX12_placesByRow_3 rfl rfl ?_
  refine g_iconst hC (v := 1) dX12_placesByRow_4 ic_1 ?_
  refine pt_X12_382 hC (x := x74) rfl (kk_74 hL) (kn_74 hL) (ov_get hN 0 rfl rfl) (ov_set hN (by rfl) 0 (by rfl)) dX12_placesByRow_5 ?_
  show gV l b0 D K (n, κ, ov X0 [74, 75, 76, 77, 78, 79, 92, 93, 94, 95, 96, 97, 101, 105, 106, 112] [(upd x74 39 1), x75, x76, x77, x78, x79, x92, x93, x94, x95, x96, x97, x101, x105, x106, x112], ov Y0 [99, 100] [y99, y100], Z, 0, 0) 8 [(5, .int v3), (0, .ref (b0 + 74)), (1, .int v1), (2, .int v2), (3, .int v3), (4, .int v4)] []
  refine g_iconst hC (v := 0) dX12_placesByRow_8 ic_0 ?_
  refine g_istore hC (i := 6) [(6, .int 0), (5, .int v3), (0, .ref (b0 + 74)), (1, .int v1), (2, .int v2), (3, .int v3), (4, .int v4)] dX12_placesByRow_9 (by decide) rfl ?_
  exact g_sub [2, 3, 4, 6, 1, 0] rfl (wX12_placesByRow_11 hL hN hM hC  hret  5000 v1 v2 v4 v3 0 (upd x74 39 1) x75 x76 x77 x78 x101 x106 x112 y99 y100 hf)

def fX12_placesByRow   (x79 : Nat → Int32) (x92 : Nat → Int32) (x93 : Nat → Int32) (x94 : Nat → Int32) (x95 : Nat → Int32) (x96 : Nat → Int32) (x97 : Nat → Int32) (x105 : Nat → Int32)  (v1 : Int32) (v2 : Int32) (v3 : Int32) (v4 : Int32) (x74 : Nat → Int32) (x75 : Nat → Int32) (x76 : Nat → Int32) (x77 : Nat → Int32) (x78 : Nat → Int32) (x101 : Nat → Int32) (x106 : Nat → Int32) (x112 : Nat → Int32) (y99 : Nat → Int64) (y100 : Nat → Int64) : Option (Int32 × (Nat → Int32) × (Nat → Int32) × (Nat → Int32) × (Nat → Int32) × (Nat → Int32) × (Nat → Int32) × (Nat → Int32) × (Nat → Int32) × (Nat → Int64) × (Nat → Int64)) := fX12_placesByRow_0 x79 x92 x93 x94 x95 x96 x97 x105 v1 v2 v3 v4 x74 x75 x76 x77 x78 x101 x106 x112 y99 y100

set_option maxHeartbeats 4000000 in
set_option maxRecDepth 100000 in
theorem c_X12_placesByRow (l : Launch) {b0 : Nat} {D : GD} {n : Nat} {κ : QT} {X0 : XT} {Y0 : YT} {Z : ZT} (hL : LY n κ) {x74 : Nat → Int32} {x75 : Nat → Int32} {x76 : Nat → Int32} {x77 : Nat → Int32} {x78 : Nat → Int32} {x79 : Nat → Int32} {x92 : Nat → Int32} {x93 : Nat → Int32} {x94 : Nat → Int32} {x95 : Nat → Int32} {x96 : Nat → Int32} {x97 : Nat → Int32} {x101 : Nat → Int32} {x105 : Nat → Int32} {x106 : Nat → Int32} {x112 : Nat → Int32} {y99 : Nat → Int64} {y100 : Nat → Int64} (hx : ([74, 75, 76, 77, 78, 79, 92, 93, 94, 95, 96, 97, 101, 105, 106, 112] : List Nat).map X0 = [x74, x75, x76, x77, x78, x79, x92, x93, x94, x95, x96, x97, x101, x105, x106, x112]) (hy : ([99, 100] : List Nat).map Y0 = [y99, y100]) {v1 : Int32} {v2 : Int32} {v3 : Int32} {v4 : Int32} {r : Int32} {rx74 : (Nat → Int32)} {rx75 : (Nat → Int32)} {rx76 : (Nat → Int32)} {rx77 : (Nat → Int32)} {rx78 : (Nat → Int32)} {rx101 : (Nat → Int32)} {rx106 : (Nat → Int32)} {rx112 : (Nat → Int32)} {ry99 : (Nat → Int64)} {ry100 : (Nat → Int64)} (hf : fX12_placesByRow x79 x92 x93 x94 x95 x96 x97 x105 v1 v2 v3 v4 x74 x75 x76 x77 x78 x101 x106 x112 y99 y100 = some (r, rx74, rx75, rx76, rx77, rx78, rx101, rx106, rx112, ry99, ry100)) : gMi l yX12_placesByRow cX12_placesByRow 8 (some FieldType.int) 7 166 0 0 b0 D [.ref (b0 + 74), .int v1, .int v2, .int v3, .int v4] (n, κ, X0, Y0, Z) (n, κ, ov X0 [74, 75, 76, 77, 78, 79, 92, 93, 94, 95, 96, 97, 101, 105, 106, 112] [rx74, rx75, rx76, rx77, rx78, x79, x92, x93, x94, x95, x96, x97, rx101, x105, rx106, rx112], ov Y0 [99, 100] [ry99, ry100], Z) r := by
  have hN : ([74, 75, 76, 77, 78, 79, 92, 93, 94, 95, 96, 97, 101, 105, 106, 112] : List Nat).Nodup := by decide
  have hM : ([99, 100] : List Nat).Nodup := by decide
  refine g_meti (own := RX12) (by decide) rfl rfl (Nat.le_of_ble_eq_true rfl) ?_
  intro K hC hret
  have e := wX12_placesByRow_0 hL hN hM hC  hret hf
  rw [ov_id' hx, ov_id' hy] at e
  exact g_sub [0, 1, 2, 3, 4] rfl e

-- X12_row
def fX12_row_118   (x79 : Nat → Int32) (x92 : Nat → Int32) (x93 : Nat → Int32) (x94 : Nat → Int32) (x95 : Nat → Int32) (x96 : Nat → Int32) (x97 : Nat → Int32)  (k77 : Int32 → Int32 → Int32 → Int32 → Int32 → Int32 → (Nat → Int32) → (Nat → Int32) → (Nat → Int32) → (Nat → Int32) → (Nat → Int32) → (Nat → Int32) → (Nat → Int32) → (Nat → Int32) → (Nat → Int32) → (Nat → Int32) → (Nat → Int64) → (Nat → Int64) → Option (Int32 × (Nat → Int32) × (Nat → Int32) × (Nat → Int32) × (Nat → Int32) × (Nat → Int32) × (Nat → Int32) × (Nat → Int32) × (Nat → Int32) × (Nat → Int32) × (Nat → Int32) × (Nat → Int64) × (Nat → Int64))) (v1 : Int32) (v2 : Int32) (v3 : Int32) (v4 : Int32) (v5 : Int32) (v6 : Int32) (x74 : (Nat → Int32)) (x75 : (Nat → Int32)) (x76 : (Nat → Int32)) (x77 : (Nat → Int32)) (x78 : (Nat → Int32)) (x101 : (Nat → Int32)) (x105 : (Nat → Int32)) (x106 : (Nat → Int32)) (x107 : (Nat → Int32)) (x112 : (Nat → Int32)) (y99 : (Nat → Int64)) (y100 : (Nat → Int64)) : Option (Int32 × (Nat → Int32) × (Nat → Int32) × (Nat → Int32) × (Nat → Int32) × (Nat → Int32) × (Nat → Int32) × (Nat → Int32) × (Nat → Int32) × (Nat → Int32) × (Nat → Int32) × (Nat → Int64) × (Nat → Int64)) := bn (v6 + 1) fun t_1 => (k77 v1 v2 v3 v4 v5 t_1 x74 x75 x76 x77 x78 x101 x105 x106 x107 x112 y99 y100)
set_option maxHeartbeats 4000000 in
set_option maxRecDepth 100000 in
theorem wX12_row_118 {l : Launch} {b0 : Nat} {D : GD} {K : KT} {n : Nat} {κ : QT} {X0 : XT} {Y0 : YT} {Z : ZT} (hL : LY n κ) (hN : ([74, 75, 76, 77, 78, 79, 92, 93, 94, 95, 96, 97, 101, 105, 106, 107, 112] : List Nat).Nodup) (hM : ([99, 100] : List Nat).Nodup) (hC : gC l b0 D K RX12 cX12_row (some FieldType.int) 8 8 193 0 0) {x79 : Nat → Int32} {x92 : Nat → Int32} {x93 : Nat → Int32} {x94 : Nat → Int32} {x95 : Nat → Int32} {x96 : Nat → Int32} {x97 : Nat → Int32} {r : Int32} {rx74 : (Nat → Int32)} {rx75 : (Nat → Int32)} {rx76 : (Nat → Int32)} {rx77 : (Nat → Int32)} {rx78 : (Nat → Int32)} {rx101 : (Nat → Int32)} {rx105 : (Nat → Int32)} {rx106 : (Nat → Int32)} {rx107 : (Nat → Int32)} {rx112 : (Nat → Int32)} {ry99 : (Nat → Int64)} {ry100 : (Nat → Int64)} (hret : ∀ pc loc, narrow .int (.int r) = .int r → decode cX12_row pc = .ok (.ireturn, 1) → gV l b0 D K (n, κ, ov X0 [74, 75, 76, 77, 78, 79, 92, 93, 94, 95, 96, 97, 101, 105, 106, 107, 112] [rx74, rx75, rx76, rx77, rx78, x79, x92, x93, x94, x95, x96, x97, rx101, rx105, rx106, rx107, rx112], ov Y0 [99, 100] [ry99, ry100], Z, 0, 0) pc loc [.int r]) {k77 : Int32 → Int32 → Int32 → Int32 → Int32 → Int32 → (Nat → Int32) → (Nat → Int32) → (Nat → Int32) → (Nat → Int32) → (Nat → Int32) → (Nat → Int32) → (Nat → Int32) → (Nat → Int32) → (Nat → Int32) → (Nat → Int32) → (Nat → Int64) → (Nat → Int64) → Option (Int32 × (Nat → Int32) × (Nat → Int32) × (Nat → Int32) × (Nat → Int32) × (Nat → Int32) × (Nat → Int32) × (Nat → Int32) × (Nat → Int32) × (Nat → Int32) × (Nat → Int32) × (Nat → Int64) × (Nat → Int64))} (hk77 : ∀ (v1 : Int32) (v2 : Int32) (v3 : Int32) (v4 : Int32) (v5 : Int32) (v6 : Int32) (x74 : (Nat → Int32)) (x75 : (Nat → Int32)) (x76 : (Nat → Int32)) (x77 : (Nat → Int32)) (x78 : (Nat → Int32)) (x101 : (Nat → Int32)) (x105 : (Nat → Int32)) (x106 : (Nat → Int32)) (x107 : (Nat → Int32)) (x112 : (Nat → Int32)) (y99 : (Nat → Int64)) (y100 : (Nat → Int64)), k77 v1 v2 v3 v4 v5 v6 x74 x75 x76 x77 x78 x101 x105 x106 x107 x112 y99 y100 = some (r, rx74, rx75, rx76, rx77, rx78, rx101, rx105, rx106, rx107, rx112, ry99, ry100) → gV l b0 D K (n, κ, ov X0 [74, 75, 76, 77, 78, 79, 92, 93, 94, 95, 96, 97, 101, 105, 106, 107, 112] [x74, x75, x76, x77, x78, x79, x92, x93, x94, x95, x96, x97, x101, x105, x106, x107, x112], ov Y0 [99, 100] [y99, y100], Z, 0, 0) 77 [(0, .ref (b0 + 74)), (1, .int v1), (2, .int v2), (3, .int v3), (4, .int v4), (5, .int v5), (6, .int v6)] []) {v1 : Int32} {v2 : Int32} {v3 : Int32} {v4 : Int32} {v5 : Int32} {v6 : Int32} {x74 : (Nat → Int32)} {x75 : (Nat → Int32)} {x76 : (Nat → Int32)} {x77 : (Nat → Int32)} {x78 : (Nat → Int32)} {x101 : (Nat → Int32)} {x105 : (Nat → Int32)} {x106 : (Nat → Int32)} {x107 : (Nat → Int32)} {x112 : (Nat → Int32)} {y99 : (Nat → Int64)} {y100 : (Nat → Int64)} (hf : fX12_row_118 x79 x92 x93 x94 x95 x96 x97 k77 v1 v2 v3 v4 v5 v6 x74 x75 x76 x77 x78 x101 x105 x106 x107 x112 y99 y100 = some (r, rx74, rx75, rx76, rx77, rx78, rx101, rx105, rx106, rx107, rx112, ry99, ry100)) : gV l b0 D K (n, κ, ov X0 [74, 75, 76, 77, 78, 79, 92, 93, 94, 95, 96, 97, 101, 105, 106, 107, 112] [x74, x75, x76, x77, x78, x79, x92, x93, x94, x95, x96, x97, x101, x105, x106, x107, x112], ov Y0 [99, 100] [y99, y100], Z, 0, 0) 118 [(0, .ref (b0 + 74)), (1, .int v1), (2, .int v2), (3, .int v3), (4, .int v4), (5, .int v5), (6, .int v6)] [] := by
  unfold fX12_row_118 at hf
  obtain ⟨t_1, et_1, hf⟩ := bnE hf
  refine g_iinc hC (i := 6) (v := t_1) [(6, .int t_1), (0, .ref (b0 + 74)), (1, .int v1), (2, .int v2), (3, .int v3), (4, .int v4), (5, .int v5)] dX12_row_118 (q := 6) rfl ((congrArg (HAdd.hAdd v6) ic_1).trans et_1.symm) (by decide) rfl ?_
  refine g_goto hC 77 dX12_row_121 (by decide) ?_
  exact g_sub [1, 2, 3, 4, 5, 6, 0] rfl (hk77 v1 v2 v3 v4 v5 t_1 x74 x75 x76 x77 x78 x101 x105 x106 x107 x112 y99 y100 hf)

def fX12_row_77b   (x79 : Nat → Int32) (x92 : Nat → Int32) (x93 : Nat → Int32) (x94 : Nat → Int32) (x95 : Nat → Int32) (x96 : Nat → Int32) (x97 : Nat → Int32)  (k77 : Int32 → Int32 → Int32 → Int32 → Int32 → Int32 → (Nat → Int32) → (Nat → Int32) → (Nat → Int32) → (Nat → Int32) → (Nat → Int32) → (Nat → Int32) → (Nat → Int32) → (Nat → Int32) → (Nat → Int32) → (Nat → Int32) → (Nat → Int64) → (Nat → Int64) → Option (Int32 × (Nat → Int32) × (Nat → Int32) × (Nat → Int32) × (Nat → Int32) × (Nat → Int32) × (Nat → Int32) × (Nat → Int32) × (Nat → Int32) × (Nat → Int32) × (Nat → Int32) × (Nat → Int64) × (Nat → Int64))) (v1 : Int32) (v2 : Int32) (v3 : Int32) (v4 : Int32) (v5 : Int32) (v6 : Int32) (x74 : (Nat → Int32)) (x75 : (Nat → Int32)) (x76 : (Nat → Int32)) (x77 : (Nat → Int32)) (x78 : (Nat → Int32)) (x101 : (Nat → Int32)) (x105 : (Nat → Int32)) (x106 : (Nat → Int32)) (x107 : (Nat → Int32)) (x112 : (Nat → Int32)) (y99 : (Nat → Int64)) (y100 : (Nat → Int64)) : Option (Int32 × (Nat → Int32) × (Nat → Int32) × (Nat → Int32) × (Nat → Int32) × (Nat → Int32) × (Nat → Int32) × (Nat → Int32) × (Nat → Int32) × (Nat → Int32) × (Nat → Int32) × (Nat → Int64) × (Nat → Int64)) := if v4 ≤ v6 then (if v2 = 0 then (some (v5, x74, x75, x76, x77, x78, x101, x105, x106, x107, x112, y99, y100)) else (if v1 < v2 then (some ((-2), x74, x75, x76, x77, x78, x101, x105, x106, x107, x112, y99, y100)) else (gd (inb (v2 - 1) 3) (some (x107 (v2 - 1).toNatClampNeg, x74, x75, x76, x77, x78, x101, x105, x106, x107, x112, y99, y100))))) else (bd11 (fX12_placesByRow x79 x92 x93 x94 x95 x96 x97 x105 v1 v6 v4 v3 x74 x75 x76 x77 x78 x101 x106 x112 y99 y100) fun r_2 x74_3 x75_4 x76_5 x77_6 x78_7 x101_8 x106_9 x112_10 y99_11 y100_12 => (if v5 ≤ r_2 then (fX12_row_118 x79 x92 x93 x94 x95 x96 x97 k77 v1 v2 v3 v4 v5 v6 x74_3 x75_4 x76_5 x77_6 x78_7 x101_8 x105 x106_9 x107 x112_10 y99_11 y100_12) else (bd1 (fX12_copies 3 3 x106_9 x107) fun x107_14 => (fX12_row_118 x79 x92 x93 x94 x95 x96 x97 k77 v1 v2 v3 v4 r_2 v6 x74_3 x75_4 x76_5 x77_6 x78_7 x101_8 x105 x106_9 x107_14 x112_10 y99_11 y100_12))))
def fX12_row_77   (x79 : Nat → Int32) (x92 : Nat → Int32) (x93 : Nat → Int32) (x94 : Nat → Int32) (x95 : Nat → Int32) (x96 : Nat → Int32) (x97 : Nat → Int32)  : Int32 → Int32 → Int32 → Int32 → Int32 → Int32 → (Nat → Int32) → (Nat → Int32) → (Nat → Int32) → (Nat → Int32) → (Nat → Int32) → (Nat → Int32) → (Nat → Int32) → (Nat → Int32) → (Nat → Int32) → (Nat → Int32) → (Nat → Int64) → (Nat → Int64) → Option (Int32 × (Nat → Int32) × (Nat → Int32) × (Nat → Int32) × (Nat → Int32) × (Nat → Int32) × (Nat → Int32) × (Nat → Int32) × (Nat → Int32) × (Nat → Int32) × (Nat → Int32) × (Nat → Int64) × (Nat → Int64)) := lq18 (fX12_row_77b x79 x92 x93 x94 x95 x96 x97 ) 5000
set_option maxHeartbeats 4000000 in
set_option maxRecDepth 100000 in
theorem wX12_row_77 {l : Launch} {b0 : Nat} {D : GD} {K : KT} {n : Nat} {κ : QT} {X0 : XT} {Y0 : YT} {Z : ZT} (hL : LY n κ) (hN : ([74, 75, 76, 77, 78, 79, 92, 93, 94, 95, 96, 97, 101, 105, 106, 107, 112] : List Nat).Nodup) (hM : ([99, 100] : List Nat).Nodup) (hC : gC l b0 D K RX12 cX12_row (some FieldType.int) 8 8 193 0 0) {x79 : Nat → Int32} {x92 : Nat → Int32} {x93 : Nat → Int32} {x94 : Nat → Int32} {x95 : Nat → Int32} {x96 : Nat → Int32} {x97 : Nat → Int32} {r : Int32} {rx74 : (Nat → Int32)} {rx75 : (Nat → Int32)} {rx76 : (Nat → Int32)} {rx77 : (Nat → Int32)} {rx78 : (Nat → Int32)} {rx101 : (Nat → Int32)} {rx105 : (Nat → Int32)} {rx106 : (Nat → Int32)} {rx107 : (Nat → Int32)} {rx112 : (Nat → Int32)} {ry99 : (Nat → Int64)} {ry100 : (Nat → Int64)} (hret : ∀ pc loc, narrow .int (.int r) = .int r → decode cX12_row pc = .ok (.ireturn, 1) → gV l b0 D K (n, κ, ov X0 [74, 75, 76, 77, 78, 79, 92, 93, 94, 95, 96, 97, 101, 105, 106, 107, 112] [rx74, rx75, rx76, rx77, rx78, x79, x92, x93, x94, x95, x96, x97, rx101, rx105, rx106, rx107, rx112], ov Y0 [99, 100] [ry99, ry100], Z, 0, 0) pc loc [.int r]) : ∀ (j : Nat) (v1 : Int32) (v2 : Int32) (v3 : Int32) (v4 : Int32) (v5 : Int32) (v6 : Int32) (x74 : (Nat → Int32)) (x75 : (Nat → Int32)) (x76 : (Nat → Int32)) (x77 : (Nat → Int32)) (x78 : (Nat → Int32)) (x101 : (Nat → Int32)) (x105 : (Nat → Int32)) (x106 : (Nat → Int32)) (x107 : (Nat → Int32)) (x112 : (Nat → Int32)) (y99 : (Nat → Int64)) (y100 : (Nat → Int64)), lq18 (fX12_row_77b x79 x92 x93 x94 x95 x96 x97 ) j v1 v2 v3 v4 v5 v6 x74 x75 x76 x77 x78 x101 x105 x106 x107 x112 y99 y100 = some (r, rx74, rx75, rx76, rx77, rx78, rx101, rx105, rx106, rx107, rx112, ry99, ry100) → gV l b0 D K (n, κ, ov X0 [74, 75, 76, 77, 78, 79, 92, 93, 94, 95, 96, 97, 101, 105, 106, 107, 112] [x74, x75, x76, x77, x78, x79, x92, x93, x94, x95, x96, x97, x101, x105, x106, x107, x112], ov Y0 [99, 100] [y99, y100], Z, 0, 0) 77 [(0, .ref (b0 + 74)), (1, .int v1), (2, .int v2), (3, .int v3), (4, .int v4), (5, .int v5), (6, .int v6)] [] := by
  intro j
  induction j with
  | zero => intro v1 v2 v3 v4 v5 v6 x74 x75 x76 x77 x78 x101 x105 x106 x107 x112 y99 y100 hf; cases hf
  | succ j hk77 =>
    intro v1 v2 v3 v4 v5 v6 x74 x75 x76 x77 x78 x101 x105 x106 x107 x112 y99 y100 hf
    replace hf : fX12_row_77b x79 x92 x93 x94 x95 x96 x97  (lq18 (fX12_row_77b x79 x92 x93 x94 x95 x96 x97 ) j) v1 v2 v3 v4 v5 v6 x74 x75 x76 x77 x78 x101 x105 x106 x107 x112 y99 y100 = some (r, rx74, rx75, rx76, rx77, rx78, rx101, rx105, rx106, rx107, rx112, ry99, ry100) := hf
    unfold fX12_row_77b at hf
    refine g_iload hC 6 dX12_row_77 rfl ?_
    refine g_iload hC 4 dX12_row_79 rfl ?_
    refine g_icmp_ge hC 124 dX12_row_81 (by decide) (fun hc => ?_) (fun hc => ?_)
    · replace hf := ifT hf hc
      refine g_iload_n hC 2 dX12_row_124 rfl rfl ?_
      refine g_if_ne hC 133 dX12_row_125 (by decide) (fun hc => ?_) (fun hc => ?_)
      · replace hf := ifF hf hc
        refine g_iload_n hC 2 dX12_row_133 rfl rfl ?_
        refine g_iload_n hC 1 dX12_row_134 rfl rfl ?_
        refine g_icmp_gt hC 149 dX12_row_135 (by decide) (fun hc => ?_) (fun hc => ?_)
        · replace hf := ifT hf hc
          refine g_bipush hC (v := (-2)) dX12_row_149 bp_m2 ?_
          obtain ⟨rfl, rfl, rfl, rfl, rfl, rfl, rfl, rfl, rfl, rfl, rfl, rfl, rfl⟩ := sm13E hf
          exact hret _ _ rfl dX12_row_151
        · replace hf := ifF hf hc
          refine g_aload_n hC 0 dX12_row_138 rfl rfl ?_
          refine gt_X12_118 hC (a := 74) (kk_74 hL) (kn_74 hL) dX12_row_139 ?_
          refine g_ref (b := 107) rfl ?_
          refine g_iload_n hC 2 dX12_row_142 rfl rfl ?_
          refine g_iconst hC (v := 1) dX12_row_143 ic_1 ?_
          refine g_isub hC dX12_row_144 ?_
          obtain ⟨h_1, hf⟩ := gdE hf
          refine g_iald hC (x := x107) (kk_107 hL) (kn_107 hL) (ov_get hN 15 rfl rfl) (inb_in h_1) dX12_row_145 ?_
          refine g_goto hC 151 dX12_row_146 (by decide) ?_
          obtain ⟨rfl, rfl, rfl, rfl, rfl, rfl, rfl, rfl, rfl, rfl, rfl, rfl, rfl⟩ := sm13E hf
          exact hret _ _ rfl dX12_row_151
      · replace hf := ifT hf hc
        refine g_iload hC 5 dX12_row_128 rfl ?_
        refine g_goto hC 151 dX12_row_130 (by decide) ?_
        obtain ⟨rfl, rfl, rfl, rfl, rfl, rfl, rfl, rfl, rfl, rfl, rfl, rfl, rfl⟩ := sm13E hf
        exact hret _ _ rfl dX12_row_151
    · replace hf := ifF hf hc
      refine g_aload_n hC 0 dX12_row_84 rfl rfl ?_
      refine g_iload_n hC 1 dX12_row_85 rfl rfl ?_
      refine g_iload hC 6 dX12_row_86 rfl ?_
      refine g_iload hC 4 dX12_row_88 rfl ?_
      refine g_iload_n hC 3 dX12_row_90 rfl rfl ?_
      obtain ⟨r_2, x74_3, x75_4, x76_5, x77_6, x78_7, x101_8, x106_9, x112_10, y99_11, y100_12, q_13, hf⟩ := bd11E hf
      refine g_callV_i (a := 74) hC (X' := ov X0 [74, 75, 76, 77, 78, 79, 92, 93, 94, 95, 96, 97, 101, 105, 106, 107, 112] [x74_3, x75_4, x76_5, x77_6, x78_7, x79, x92, x93, x94, x95, x96, x97, x101_8, x105, x106_9, x107, x112_10]) (Y' := ov Y0 [99, 100] [y99_11, y100_12]) (As := [.int v1, .int v6, .int v4, .int v3]) (gMi_eq (c_X12_placesByRow l hL (ov_map hN [0, 1, 2, 3, 4, 5, 6, 7, 8, 9, 10, 11, 12, 13, 14, 16] (by rfl) (by rfl)) (ov_map hM [0, 1] (by rfl) (by rfl)) q_13) (ov_ovE hN (by rfl) [0, 1, 2, 3, 4, 5, 6, 7, 8, 9, 10, 11, 12, 13, 14, 16] [15] (by rfl) (by rfl) [x107] (by rfl) (by rfl) (by rfl) 17 (by rfl) (by decide)) (ov_ovE hM (by rfl) [0, 1] [] (by rfl) (by rfl) [] (by rfl) (by rfl) (by rfl) 2 (by rfl) (by decide))) tw_1745 tw_1742 tw_127 tw_1744 tw_107 (ci := 12) rfl (by decide) (kk_74 hL) (kn_74 hL) pd_X12_placesByRow (by decide) (by decide) rfl rfl (Nat.le_of_ble_eq_true rfl) rfl dX12_row_91 ?_
      refine g_istore hC (i := 7) [(7, .int r_2), (0, .ref (b0 + 74)), (1, .int v1), (2, .int v2), (3, .int v3), (4, .int v4), (5, .int v5), (6, .int v6)] dX12_row_94 (by decide) rfl ?_
      refine g_iload hC 0 dX12_row_96 rfl ?_
      refine g_iload hC 6 dX12_row_98 rfl ?_
      refine g_icmp_ge hC 118 dX12_row_100 (by decide) (fun hc => ?_) (fun hc => ?_)
      · replace hf := ifT hf hc
        exact g_sub [1, 2, 3, 4, 5, 6, 7] rfl (wX12_row_118 hL hN hM hC  hret hk77 hf)
      · replace hf := ifF hf hc
        refine g_iload hC 0 dX12_row_103 rfl ?_
        refine g_istore hC (i := 5) [(5, .int r_2), (7, .int r_2), (0, .ref (b0 + 74)), (1, .int v1), (2, .int v2), (3, .int v3), (4, .int v4), (6, .int v6)] dX12_row_105 (by decide) rfl ?_
        refine g_aload_n hC 2 dX12_row_107 rfl rfl ?_
        refine gt_X12_115 hC (a := 74) (kk_74 hL) (kn_74 hL) dX12_row_108 ?_
        refine g_ref (b := 106) rfl ?_
        refine g_aload_n hC 2 dX12_row_111 rfl rfl ?_
        refine gt_X12_118 hC (a := 74) (kk_74 hL) (kn_74 hL) dX12_row_112 ?_
        refine g_ref (b := 107) rfl ?_
        obtain ⟨x107_14, q_15, hf⟩ := bd1E hf
        refine g_callS_v hC (X' := ov X0 [74, 75, 76, 77, 78, 79, 92, 93, 94, 95, 96, 97, 101, 105, 106, 107, 112] [x74_3, x75_4, x76_5, x77_6, x78_7, x79, x92, x93, x94, x95, x96, x97, x101_8, x105, x106_9, x107_14, x112_10]) (Y' := ov Y0 [99, 100] [y99_11, y100_12]) (As := [.ref (b0 + 106), .ref (b0 + 107)]) (gMv_eq (c_X12_copies l hL (kk_106 hL) (kn_106 hL) (kk_107 hL) (kn_107 hL) (nd_sub hN [14, 15] (by decide) (by rfl)) (nd_sub hM [] (by decide) (by rfl)) (ov_map hN [14, 15] (by rfl) (by rfl)) (ov_map hM [] (by rfl) (by rfl)) q_15) (ov_ovE hN (by rfl) [14, 15] [0, 1, 2, 3, 4, 5, 6, 7, 8, 9, 10, 11, 12, 13, 16] (by rfl) (by rfl) [x74_3, x75_4, x76_5, x77_6, x78_7, x79, x92, x93, x94, x95, x96, x97, x101_8, x105, x112_10] (by rfl) (by rfl) (by rfl) 17 (by rfl) (by decide)) (ov_ovE hM (by rfl) [] [0, 1] (by rfl) (by rfl) [y99_11, y100_12] (by rfl) (by rfl) (by rfl) 2 (by rfl) (by decide))) tw_1439 tw_1437 tw_127 tw_1438 pd_X12_copies (by decide) (by decide) rfl rfl (Nat.le_of_ble_eq_true rfl) rfl dX12_row_115 ?_
        exact g_sub [2, 3, 4, 5, 6, 0, 7] rfl (wX12_row_118 hL hN hM hC  hret hk77 hf)

def fX12_row_45b   (x79 : Nat → Int32) (x92 : Nat → Int32) (x93 : Nat → Int32) (x94 : Nat → Int32) (x95 : Nat → Int32) (x96 : Nat → Int32) (x97 : Nat → Int32)  (k45 : Int32 → Int32 → Int32 → Int32 → Int32 → (Nat → Int32) → (Nat → Int32) → (Nat → Int32) → (Nat → Int32) → (Nat → Int32) → (Nat → Int32) → (Nat → Int32) → (Nat → Int32) → (Nat → Int32) → (Nat → Int32) → (Nat → Int64) → (Nat → Int64) → Option (Int32 × (Nat → Int32) × (Nat → Int32) × (Nat → Int32) × (Nat → Int32) × (Nat → Int32) × (Nat → Int32) × (Nat → Int32) × (Nat → Int32) × (Nat → Int32) × (Nat → Int32) × (Nat → Int64) × (Nat → Int64))) (v1 : Int32) (v2 : Int32) (v3 : Int32) (v4 : Int32) (v5 : Int32) (x74 : (Nat → Int32)) (x75 : (Nat → Int32)) (x76 : (Nat → Int32)) (x77 : (Nat → Int32)) (x78 : (Nat → Int32)) (x101 : (Nat → Int32)) (x105 : (Nat → Int32)) (x106 : (Nat → Int32)) (x107 : (Nat → Int32)) (x112 : (Nat → Int32)) (y99 : (Nat → Int64)) (y100 : (Nat → Int64)) : Option (Int32 × (Nat → Int32) × (Nat → Int32) × (Nat → Int32) × (Nat → Int32) × (Nat → Int32) × (Nat → Int32) × (Nat → Int32) × (Nat → Int32) × (Nat → Int32) × (Nat → Int32) × (Nat → Int64) × (Nat → Int64)) := if v1 ≤ v5 then (bd6 (fX12_keepsAll x74 x75 x76 x77 x78 x112) fun x74_1 x75_2 x76_3 x77_4 x78_5 x112_6 => (fX12_row_77 x79 x92 x93 x94 x95 x96 x97  v1 v2 v3 v4 100000 0 x74_1 x75_2 x76_3 x77_4 x78_5 x101 x105 x106 x107 x112_6 y99 y100)) else (bn (v4 * (v3 + 1)) fun t_8 => (bn (v5 + 1) fun t_9 => (k45 v1 v2 v3 t_8 t_9 x74 x75 x76 x77 x78 x101 x105 x106 x107 x112 y99 y100)))
def fX12_row_45   (x79 : Nat → Int32) (x92 : Nat → Int32) (x93 : Nat → Int32) (x94 : Nat → Int32) (x95 : Nat → Int32) (x96 : Nat → Int32) (x97 : Nat → Int32)  : Int32 → Int32 → Int32 → Int32 → Int32 → (Nat → Int32) → (Nat → Int32) → (Nat → Int32) → (Nat → Int32) → (Nat → Int32) → (Nat → Int32) → (Nat → Int32) → (Nat → Int32) → (Nat → Int32) → (Nat → Int32) → (Nat → Int64) → (Nat → Int64) → Option (Int32 × (Nat → Int32) × (Nat → Int32) × (Nat → Int32) × (Nat → Int32) × (Nat → Int32) × (Nat → Int32) × (Nat → Int32) × (Nat → Int32) × (Nat → Int32) × (Nat → Int32) × (Nat → Int64) × (Nat → Int64)) := lq17 (fX12_row_45b x79 x92 x93 x94 x95 x96 x97 ) 5000
set_option maxHeartbeats 4000000 in
set_option maxRecDepth 100000 in
theorem wX12_row_45 {l : Launch} {b0 : Nat} {D : GD} {K : KT} {n : Nat} {κ : QT} {X0 : XT} {Y0 : YT} {Z : ZT} (hL : LY n κ) (hN : ([74, 75, 76, 77, 78, 79, 92, 93, 94, 95, 96, 97, 101, 105, 106, 107, 112] : List Nat).Nodup) (hM : ([99, 100] : List Nat).Nodup) (hC : gC l b0 D K RX12 cX12_row (some FieldType.int) 8 8 193 0 0) {x79 : Nat → Int32} {x92 : Nat → Int32} {x93 : Nat → Int32} {x94 : Nat → Int32} {x95 : Nat → Int32} {x96 : Nat → Int32} {x97 : Nat → Int32} {r : Int32} {rx74 : (Nat → Int32)} {rx75 : (Nat → Int32)} {rx76 : (Nat → Int32)} {rx77 : (Nat → Int32)} {rx78 : (Nat → Int32)} {rx101 : (Nat → Int32)} {rx105 : (Nat → Int32)} {rx106 : (Nat → Int32)} {rx107 : (Nat → Int32)} {rx112 : (Nat → Int32)} {ry99 : (Nat → Int64)} {ry100 : (Nat → Int64)} (hret : ∀ pc loc, narrow .int (.int r) = .int r → decode cX12_row pc = .ok (.ireturn, 1) → gV l b0 D K (n, κ, ov X0 [74, 75, 76, 77, 78, 79, 92, 93, 94, 95, 96, 97, 101, 105, 106, 107, 112] [rx74, rx75, rx76, rx77, rx78, x79, x92, x93, x94, x95, x96, x97, rx101, rx105, rx106, rx107, rx112], ov Y0 [99, 100] [ry99, ry100], Z, 0, 0) pc loc [.int r]) : ∀ (j : Nat) (v1 : Int32) (v2 : Int32) (v3 : Int32) (v4 : Int32) (v5 : Int32) (x74 : (Nat → Int32)) (x75 : (Nat → Int32)) (x76 : (Nat → Int32)) (x77 : (Nat → Int32)) (x78 : (Nat → Int32)) (x101 : (Nat → Int32)) (x105 : (Nat → Int32)) (x106 : (Nat → Int32)) (x107 : (Nat → Int32)) (x112 : (Nat → Int32)) (y99 : (Nat → Int64)) (y100 : (Nat → Int64)), lq17 (fX12_row_45b x79 x92 x93 x94 x95 x96 x97 ) j v1 v2 v3 v4 v5 x74 x75 x76 x77 x78 x101 x105 x106 x107 x112 y99 y100 = some (r, rx74, rx75, rx76, rx77, rx78, rx101, rx105, rx106, rx107, rx112, ry99, ry100) → gV l b0 D K (n, κ, ov X0 [74, 75, 76, 77, 78, 79, 92, 93, 94, 95, 96, 97, 101, 105, 106, 107, 112] [x74, x75, x76, x77, x78, x79, x92, x93, x94, x95, x96, x97, x101, x105, x106, x107, x112], ov Y0 [99, 100] [y99, y100], Z, 0, 0) 45 [(0, .ref (b0 + 74)), (1, .int v1), (2, .int v2), (3, .int v3), (4, .int v4), (5, .int v5)] [] := by
  intro j
  induction j with
  | zero => intro v1 v2 v3 v4 v5 x74 x75 x76 x77 x78 x101 x105 x106 x107 x112 y99 y100 hf; cases hf
  | succ j hk45 =>
    intro v1 v2 v3 v4 v5 x74 x75 x76 x77 x78 x101 x105 x106 x107 x112 y99 y100 hf
    replace hf : fX12_row_45b x79 x92 x93 x94 x95 x96 x97  (lq17 (fX12_row_45b x79 x92 x93 x94 x95 x96 x97 ) j) v1 v2 v3 v4 v5 x74 x75 x76 x77 x78 x101 x105 x106 x107 x112 y99 y100 = some (r, rx74, rx75, rx76, rx77, rx78, rx101, rx105, rx106, rx107, rx112, ry99, ry100) := hf
    unfold fX12_row_45b at hf
    refine g_iload hC 5 dX12_row_45 rfl ?_
    refine g_iload_n hC 1 dX12_row_47 rfl rfl ?_
    refine g_icmp_ge hC 65 dX12_row_48 (by decide) (fun hc => ?_) (fun hc => ?_)
    · replace hf := ifT hf hc
      refine g_ldc_w hC (v := 100000) tw_1706 dX12_row_65 ?_
      refine g_istore hC (i := 5) [(5, .int 100000), (0, .ref (b0 + 74)), (1, .int v1), (2, .int v2), (3, .int v3), (4, .int v4)] dX12_row_68 (by decide) rfl ?_
      refine g_aload_n hC 1 dX12_row_70 rfl rfl ?_
      obtain ⟨x74_1, x75_2, x76_3, x77_4, x78_5, x112_6, q_7, hf⟩ := bd6E hf
      refine g_callV_v (a := 74) hC (X' := ov X0 [74, 75, 76, 77, 78, 79, 92, 93, 94, 95, 96, 97, 101, 105, 106, 107, 112] [x74_1, x75_2, x76_3, x77_4, x78_5, x79, x92, x93, x94, x95, x96, x97, x101, x105, x106, x107, x112_6]) (Y' := ov Y0 [99, 100] [y99, y100]) (As := []) (gMv_eq (c_X12_keepsAll l hL (ov_map hN [0, 1, 2, 3, 4, 16] (by rfl) (by rfl)) (ov_map hM [] (by rfl) (by rfl)) q_7) (ov_ovE hN (by rfl) [0, 1, 2, 3, 4, 16] [5, 6, 7, 8, 9, 10, 11, 12, 13, 14, 15] (by rfl) (by rfl) [x79, x92, x93, x94, x95, x96, x97, x101, x105, x106, x107] (by rfl) (by rfl) (by rfl) 17 (by rfl) (by decide)) (ov_ovE hM (by rfl) [] [0, 1] (by rfl) (by rfl) [y99, y100] (by rfl) (by rfl) (by rfl) 2 (by rfl) (by decide))) tw_1673 tw_1670 tw_127 tw_1672 tw_97 (ci := 12) rfl (by decide) (kk_74 hL) (kn_74 hL) pd_X12_keepsAll (by decide) (by decide) rfl rfl (Nat.le_of_ble_eq_true rfl) rfl dX12_row_71 ?_
      refine g_iconst hC (v := 0) dX12_row_74 ic_0 ?_
      refine g_istore hC (i := 6) [(6, .int 0), (5, .int 100000), (0, .ref (b0 + 74)), (1, .int v1), (2, .int v2), (3, .int v3), (4, .int v4)] dX12_row_75 (by decide) rfl ?_
      exact g_sub [2, 3, 4, 5, 6, 1, 0] rfl (wX12_row_77 hL hN hM hC  hret  5000 v1 v2 v3 v4 100000 0 x74_1 x75_2 x76_3 x77_4 x78_5 x101 x105 x106 x107 x112_6 y99 y100 hf)
    · replace hf := ifF hf hc
      refine g_iload hC 4 dX12_row_51 rfl ?_
      refine g_iload_n hC 3 dX12_row_53 rfl rfl ?_
      refine g_iconst hC (v := 1) dX12_row_54 ic_1 ?_
      refine g_iadd hC dX12_row_55 ?_
      refine g_imul hC dX12_row_56 ?_
      obtain ⟨t_8, et_8, hf⟩ := bnE hf
      refine g_topi et_8 ?_
      refine g_istore hC (i := 4) [(4, .int t_8), (0, .ref (b0 + 74)), (1, .int v1), (2, .int v2), (3, .int v3), (5, .int v5)] dX12_row_57 (by decide) rfl ?_
      obtain ⟨t_9, et_9, hf⟩ := bnE hf
      refine g_iinc hC (i := 5) (v := t_9) [(5, .int t_9), (4, .int t_8), (0, .ref (b0 + 74)), (1, .int v1), (2, .int v2), (3, .int v3)] dX12_row_59 (q := 5) rfl ((congrArg (HAdd.hAdd v5) ic_1).trans et_9.symm) (by decide) rfl ?_
      refine g_goto hC 45 dX12_row_62 (by decide) ?_
      exact g_sub [2, 3, 4, 5, 1, 0] rfl (hk45 v1 v2 v3 t_8 t_9 x74 x75 x76 x77 x78 x101 x105 x106 x107 x112 y99 y100 hf)

def fX12_row_0   (x79 : Nat → Int32) (x92 : Nat → Int32) (x93 : Nat → Int32) (x94 : Nat → Int32) (x95 : Nat → Int32) (x96 : Nat → Int32) (x97 : Nat → Int32)  (v1 : Int32) (v2 : Int32) (x74 : (Nat → Int32)) (x75 : (Nat → Int32)) (x76 : (Nat → Int32)) (x77 : (Nat → Int32)) (x78 : (Nat → Int32)) (x101 : (Nat → Int32)) (x105 : (Nat → Int32)) (x106 : (Nat → Int32)) (x107 : (Nat → Int32)) (x112 : (Nat → Int32)) (y99 : (Nat → Int64)) (y100 : (Nat → Int64)) : Option (Int32 × (Nat → Int32) × (Nat → Int32) × (Nat → Int32) × (Nat → Int32) × (Nat → Int32) × (Nat → Int32) × (Nat → Int32) × (Nat → Int32) × (Nat → Int32) × (Nat → Int32) × (Nat → Int64) × (Nat → Int64)) := bd1 (fX12_isTown x75) fun r_1 => (if r_1 = 0 then (some ((-3), x74, x75, x76, x77, x78, x101, x105, x106, x107, x112, y99, y100)) else (bd1 (fX12_in v1.toInt64 1 3) fun r_3 => (if r_3 = 0 then (some ((-3), x74, x75, x76, x77, x78, x101, x105, x106, x107, x112, y99, y100)) else (bd1 (fX12_in v2.toInt64 0 3) fun r_5 => (if r_5 = 0 then (some ((-3), x74, x75, x76, x77, x78, x101, x105, x106, x107, x112, y99, y100)) else (bd2 (fX12_laysTwos x75 x105) fun r_7 x105_8 => (fX12_row_45 x79 x92 x93 x94 x95 x96 x97  v1 v2 r_7 1 0 x74 x75 x76 x77 x78 x101 x105_8 x106 x107 x112 y99 y100)))))))
set_option maxHeartbeats 4000000 in
set_option maxRecDepth 100000 in
theorem wX12_row_0 {l : Launch} {b0 : Nat} {D : GD} {K : KT} {n : Nat} {κ : QT} {X0 : XT} {Y0 : YT} {Z : ZT} (hL : LY n κ) (hN : ([74, 75, 76, 77, 78, 79, 92, 93, 94, 95, 96, 97, 101, 105, 106, 107, 112] : List Nat).Nodup) (hM : ([99, 100] : List Nat).Nodup) (hC : gC l b0 D K RX12 cX12_row (some FieldType.int) 8 8 193 0 0) {x79 : Nat → Int32} {x92 : Nat → Int32} {x93 : Nat → Int32} {x94 : Nat → Int32} {x95 : Nat → Int32} {x96 : Nat → Int32} {x97 : Nat → Int32} {r : Int32} {rx74 : (Nat → Int32)} {rx75 : (Nat → Int32)} {rx76 : (Nat → Int32)} {rx77 : (Nat → Int32)} {rx78 : (Nat → Int32)} {rx101 : (Nat → Int32)} {rx105 : (Nat → Int32)} {rx106 : (Nat → Int32)} {rx107 : (Nat → Int32)} {rx112 : (Nat → Int32)} {ry99 : (Nat → Int64)} {ry100 : (Nat → Int64)} (hret : ∀ pc loc, narrow .int (.int r) = .int r → decode cX12_row pc = .ok (.ireturn, 1) → gV l b0 D K (n, κ, ov X0 [74, 75, 76, 77, 78, 79, 92, 93, 94, 95, 96, 97, 101, 105, 106, 107, 112] [rx74, rx75, rx76, rx77, rx78, x79, x92, x93, x94, x95, x96, x97, rx101, rx105, rx106, rx107, rx112], ov Y0 [99, 100] [ry99, ry100], Z, 0, 0) pc loc [.int r]) {v1 : Int32} {v2 : Int32} {x74 : (Nat → Int32)} {x75 : (Nat → Int32)} {x76 : (Nat → Int32)} {x77 : (Nat → Int32)} {x78 : (Nat → Int32)} {x101 : (Nat → Int32)} {x105 : (Nat → Int32)} {x106 : (Nat → Int32)} {x107 : (Nat → Int32)} {x112 : (Nat → Int32)} {y99 : (Nat → Int64)} {y100 : (Nat → Int64)} (hf : fX12_row_0 x79 x92 x93 x94 x95 x96 x97  v1 v2 x74 x75 x76 x77 x78 x101 x105 x106 x107 x112 y99 y100 = some (r, rx74, rx75, rx76, rx77, rx78, rx101, rx105, rx106, rx107, rx112, ry99, ry100)) : gV l b0 D K (n, κ, ov X0 [74, 75, 76, 77, 78, 79, 92, 93, 94, 95, 96, 97, 101, 105, 106, 107, 112] [x74, x75, x76, x77, x78, x79, x92, x93, x94, x95, x96, x97, x101, x105, x106, x107, x112], ov Y0 [99, 100] [y99, y100], Z, 0, 0) 0 [(0, .ref (b0 + 74)), (1, .int v1), (2, .int v2)] [] := by
  unfold fX12_row_0 at hf
  refine g_aload_n hC 0 dX12_row_0 rfl rfl ?_
  obtain ⟨r_1, q_2, hf⟩ := bd1E hf
  refine g_callV_i (a := 74) hC (X' := ov X0 [74, 75, 76, 77, 78, 79, 92, 93, 94, 95, 96, 97, 101, 105, 106, 107, 112] [x74, x75, x76, x77, x78, x79, x92, x93, x94, x95, x96, x97, x101, x105, x106, x107, x112]) (Y' := ov Y0 [99, 100] [y99, y100]) (As := []) (gMi_eq (c_X12_isTown l hL (ov_map hN [1] (by rfl) (by rfl)) (ov_map hM [] (by rfl) (by rfl)) q_2) (ov_ovE hN (by rfl) [1] [0, 2, 3, 4, 5, 6, 7, 8, 9, 10, 11, 12, 13, 14, 15, 16] (by rfl) (by rfl) [x74, x76, x77, x78, x79, x92, x93, x94, x95, x96, x97, x101, x105, x106, x107, x112] (by rfl) (by rfl) (by rfl) 17 (by rfl) (by decide)) (ov_ovE hM (by rfl) [] [0, 1] (by rfl) (by rfl) [y99, y100] (by rfl) (by rfl) (by rfl) 2 (by rfl) (by decide))) tw_1585 tw_1582 tw_127 tw_1584 tw_84 (ci := 12) rfl (by decide) (kk_74 hL) (kn_74 hL) pd_X12_isTown (by decide) (by decide) rfl rfl (Nat.le_of_ble_eq_true rfl) rfl dX12_row_1 ?_
  refine g_if_eq hC 31 dX12_row_4 (by decide) (fun hc => ?_) (fun hc => ?_)
  · replace hf := ifT hf hc
    refine g_bipush hC (v := (-3)) dX12_row_31 bp_m3 ?_
    obtain ⟨rfl, rfl, rfl, rfl, rfl, rfl, rfl, rfl, rfl, rfl, rfl, rfl, rfl⟩ := sm13E hf
    exact hret _ _ rfl dX12_row_33
  · replace hf := ifF hf hc
    refine g_iload_n hC 1 dX12_row_7 rfl rfl ?_
    refine g_i2l hC dX12_row_8 ?_
    refine g_lconst hC (v := 1) dX12_row_9 rfl ?_
    refine g_ldc2_w hC (v := 3) tw_1737 dX12_row_10 ?_
    obtain ⟨r_3, q_4, hf⟩ := bd1E hf
    refine g_callS_i hC (X' := ov X0 [74, 75, 76, 77, 78, 79, 92, 93, 94, 95, 96, 97, 101, 105, 106, 107, 112] [x74, x75, x76, x77, x78, x79, x92, x93, x94, x95, x96, x97, x101, x105, x106, x107, x112]) (Y' := ov Y0 [99, 100] [y99, y100]) (As := [.long v1.toInt64, .long 1, .long 3]) (gMi_eq (c_X12_in l hL (ov_map hN [] (by rfl) (by rfl)) (ov_map hM [] (by rfl) (by rfl)) q_4) (ov_ovE hN (by rfl) [] [0, 1, 2, 3, 4, 5, 6, 7, 8, 9, 10, 11, 12, 13, 14, 15, 16] (by rfl) (by rfl) [x74, x75, x76, x77, x78, x79, x92, x93, x94, x95, x96, x97, x101, x105, x106, x107, x112] (by rfl) (by rfl) (by rfl) 17 (by rfl) (by decide)) (ov_ovE hM (by rfl) [] [0, 1] (by rfl) (by rfl) [y99, y100] (by rfl) (by rfl) (by rfl) 2 (by rfl) (by decide))) tw_1428 tw_1426 tw_127 tw_1427 pd_X12_in (by decide) (by decide) rfl rfl (Nat.le_of_ble_eq_true rfl) rfl dX12_row_13 ?_
    refine g_if_eq hC 31 dX12_row_16 (by decide) (fun hc => ?_) (fun hc => ?_)
    · replace hf := ifT hf hc
      refine g_bipush hC (v := (-3)) dX12_row_31 bp_m3 ?_
      obtain ⟨rfl, rfl, rfl, rfl, rfl, rfl, rfl, rfl, rfl, rfl, rfl, rfl, rfl⟩ := sm13E hf
      exact hret _ _ rfl dX12_row_33
    · replace hf := ifF hf hc
      refine g_iload_n hC 2 dX12_row_19 rfl rfl ?_
      refine g_i2l hC dX12_row_20 ?_
      refine g_lconst hC (v := 0) dX12_row_21 rfl ?_
      refine g_ldc2_w hC (v := 3) tw_1737 dX12_row_22 ?_
      obtain ⟨r_5, q_6, hf⟩ := bd1E hf
      refine g_callS_i hC (X' := ov X0 [74, 75, 76, 77, 78, 79, 92, 93, 94, 95, 96, 97, 101, 105, 106, 107, 112] [x74, x75, x76, x77, x78, x79, x92, x93, x94, x95, x96, x97, x101, x105, x106, x107, x112]) (Y' := ov Y0 [99, 100] [y99, y100]) (As := [.long v2.toInt64, .long 0, .long 3]) (gMi_eq (c_X12_in l hL (ov_map hN [] (by rfl) (by rfl)) (ov_map hM [] (by rfl) (by rfl)) q_6) (ov_ovE hN (by rfl) [] [0, 1, 2, 3, 4, 5, 6, 7, 8, 9, 10, 11, 12, 13, 14, 15, 16] (by rfl) (by rfl) [x74, x75, x76, x77, x78, x79, x92, x93, x94, x95, x96, x97, x101, x105, x106, x107, x112] (by rfl) (by rfl) (by rfl) 17 (by rfl) (by decide)) (ov_ovE hM (by rfl) [] [0, 1] (by rfl) (by rfl) [y99, y100] (by rfl) (by rfl) (by rfl) 2 (by rfl) (by decide))) tw_1428 tw_1426 tw_127 tw_1427 pd_X12_in (by decide) (by decide) rfl rfl (Nat.le_of_ble_eq_true rfl) rfl dX12_row_25 ?_
      refine g_if_ne hC 34 dX12_row_28 (by decide) (fun hc => ?_) (fun hc => ?_)
      · replace hf := ifF hf hc
        refine g_aload_n hC 0 dX12_row_34 rfl rfl ?_
        obtain ⟨r_7, x105_8, q_9, hf⟩ := bd2E hf
        refine g_callV_i (a := 74) hC (X' := ov X0 [74, 75, 76, 77, 78, 79, 92, 93, 94, 95, 96, 97, 101, 105, 106, 107, 112] [x74, x75, x76, x77, x78, x79, x92, x93, x94, x95, x96, x97, x101, x105_8, x106, x107, x112]) (Y' := ov Y0 [99, 100] [y99, y100]) (As := []) (gMi_eq (c_X12_laysTwos l hL (ov_map hN [1, 13] (by rfl) (by rfl)) (ov_map hM [] (by rfl) (by rfl)) q_9) (ov_ovE hN (by rfl) [1, 13] [0, 2, 3, 4, 5, 6, 7, 8, 9, 10, 11, 12, 14, 15, 16] (by rfl) (by rfl) [x74, x76, x77, x78, x79, x92, x93, x94, x95, x96, x97, x101, x106, x107, x112] (by rfl) (by rfl) (by rfl) 17 (by rfl) (by decide)) (ov_ovE hM (by rfl) [] [0, 1] (by rfl) (by rfl) [y99, y100] (by rfl) (by rfl) (by rfl) 2 (by rfl) (by decide))) tw_1741 tw_1738 tw_127 tw_1740 tw_106 (ci := 12) rfl (by decide) (kk_74 hL) (kn_74 hL) pd_X12_laysTwos (by decide) (by decide) rfl rfl (Nat.le_of_ble_eq_true rfl) rfl dX12_row_35 ?_
        refine g_istore_n hC (i := 3) [(3, .int r_7), (0, .ref (b0 + 74)), (1, .int v1), (2, .int v2)] rfl dX12_row_38 (by decide) rfl ?_
        refine g_iconst hC (v := 1) dX12_row_39 ic_1 ?_
        refine g_istore hC (i := 4) [(4, .int 1), (3, .int r_7), (0, .ref (b0 + 74)), (1, .int v1), (2, .int v2)] dX12_row_40 (by decide) rfl ?_
        refine g_iconst hC (v := 0) dX12_row_42 ic_0 ?_
        refine g_istore hC (i := 5) [(5, .int 0), (4, .int 1), (3, .int r_7), (0, .ref (b0 + 74)), (1, .int v1), (2, .int v2)] dX12_row_43 (by decide) rfl ?_
        exact g_sub [3, 4, 5, 2, 1, 0] rfl (wX12_row_45 hL hN hM hC  hret  5000 v1 v2 r_7 1 0 x74 x75 x76 x77 x78 x101 x105_8 x106 x107 x112 y99 y100 hf)
      · replace hf := ifT hf hc
        refine g_bipush hC (v := (-3)) dX12_row_31 bp_m3 ?_
        obtain ⟨rfl, rfl, rfl, rfl, rfl, rfl, rfl, rfl, rfl, rfl, rfl, rfl, rfl⟩ := sm13E hf
        exact hret _ _ rfl dX12_row_33

def fX12_row   (x79 : Nat → Int32) (x92 : Nat → Int32) (x93 : Nat → Int32) (x94 : Nat → Int32) (x95 : Nat → Int32) (x96 : Nat → Int32) (x97 : Nat → Int32)  (v1 : Int32) (v2 : Int32) (x74 : Nat → Int32) (x75 : Nat → Int32) (x76 : Nat → Int32) (x77 : Nat → Int32) (x78 : Nat → Int32) (x101 : Nat → Int32) (x105 : Nat → Int32) (x106 : Nat → Int32) (x107 : Nat → Int32) (x112 : Nat → Int32) (y99 : Nat → Int64) (y100 : Nat → Int64) : Option (Int32 × (Nat → Int32) × (Nat → Int32) × (Nat → Int32) × (Nat → Int32) × (Nat → Int32) × (Nat → Int32) × (Nat → Int32) × (Nat → Int32) × (Nat → Int32) × (Nat → Int32) × (Nat → Int64) × (Nat → Int64)) := fX12_row_0 x79 x92 x93 x94 x95 x96 x97 v1 v2 x74 x75 x76 x77 x78 x101 x105 x106 x107 x112 y99 y100

set_option maxHeartbeats 4000000 in
set_option maxRecDepth 100000 in
theorem c_X12_row (l : Launch) {b0 : Nat} {D : GD} {n : Nat} {κ : QT} {X0 : XT} {Y0 : YT} {Z : ZT} (hL : LY n κ) {x74 : Nat → Int32} {x75 : Nat → Int32} {x76 : Nat → Int32} {x77 : Nat → Int32} {x78 : Nat → Int32} {x79 : Nat → Int32} {x92 : Nat → Int32} {x93 : Nat → Int32} {x94 : Nat → Int32} {x95 : Nat → Int32} {x96 : Nat → Int32} {x97 : Nat → Int32} {x101 : Nat → Int32} {x105 : Nat → Int32} {x106 : Nat → Int32} {x107 : Nat → Int32} {x112 : Nat → Int32} {y99 : Nat → Int64} {y100 : Nat → Int64} (hx : ([74, 75, 76, 77, 78, 79, 92, 93, 94, 95, 96, 97, 101, 105, 106, 107, 112] : List Nat).map X0 = [x74, x75, x76, x77, x78, x79, x92, x93, x94, x95, x96, x97, x101, x105, x106, x107, x112]) (hy : ([99, 100] : List Nat).map Y0 = [y99, y100]) {v1 : Int32} {v2 : Int32} {r : Int32} {rx74 : (Nat → Int32)} {rx75 : (Nat → Int32)} {rx76 : (Nat → Int32)} {rx77 : (Nat → Int32)} {rx78 : (Nat → Int32)} {rx101 : (Nat → Int32)} {rx105 : (Nat → Int32)} {rx106 : (Nat → Int32)} {rx107 : (Nat → Int32)} {rx112 : (Nat → Int32)} {ry99 : (Nat → Int64)} {ry100 : (Nat → Int64)} (hf : fX12_row x79 x92 x93 x94 x95 x96 x97 v1 v2 x74 x75 x76 x77 x78 x101 x105 x106 x107 x112 y99 y100 = some (r, rx74, rx75, rx76, rx77, rx78, rx101, rx105, rx106, rx107, rx112, ry99, ry100)) : gMi l yX12_row cX12_row 8 (some FieldType.int) 8 193 0 0 b0 D [.ref (b0 + 74), .int v1, .int v2] (n, κ, X0, Y0, Z) (n, κ, ov X0 [74, 75, 76, 77, 78, 79, 92, 93, 94, 95, 96, 97, 101, 105, 106, 107, 112] [rx74, rx75, rx76, rx77, rx78, x79, x92, x93, x94, x95, x96, x97, rx101, rx105, rx106, rx107, rx112], ov Y0 [99, 100] [ry99, ry100], Z) r := by
  have hN : ([74, 75, 76, 77, 78, 79, 92, 93, 94, 95, 96, 97, 101, 105, 106, 107, 112] : List Nat).Nodup := by decide
  have hM : ([99, 100] : List Nat).Nodup := by decide
  refine g_meti (own := RX12) (by decide) rfl rfl (Nat.le_of_ble_eq_true rfl) ?_
  intro K hC hret
  have e := wX12_row_0 hL hN hM hC  hret hf
  rw [ov_id' hx, ov_id' hy] at e
  exact g_sub [0, 1, 2] rfl e

-- X12_order
def fX12_order_105   (x79 : Nat → Int32) (x92 : Nat → Int32) (x93 : Nat → Int32) (x94 : Nat → Int32) (x95 : Nat → Int32) (x96 : Nat → Int32) (x97 : Nat → Int32)  (k43 : Int32 → Int32 → Int32 → Int32 → (Nat → Int32) → (Nat → Int32) → (Nat → Int32) → (Nat → Int32) → (Nat → Int32) → (Nat → Int32) → (Nat → Int32) → (Nat → Int32) → (Nat → Int64) → (Nat → Int64) → Option (Int32 × (Nat → Int32) × (Nat → Int32) × (Nat → Int32) × (Nat → Int32) × (Nat → Int32) × (Nat → Int32) × (Nat → Int32) × (Nat → Int32) × (Nat → Int64) × (Nat → Int64))) (v1 : Int32) (v2 : Int32) (v4 : Int32) (s0 : Int32) (s1 : Int32) (x74 : (Nat → Int32)) (x75 : (Nat → Int32)) (x76 : (Nat → Int32)) (x77 : (Nat → Int32)) (x78 : (Nat → Int32)) (x101 : (Nat → Int32)) (x104 : (Nat → Int32)) (x112 : (Nat → Int32)) (y99 : (Nat → Int64)) (y100 : (Nat → Int64)) : Option (Int32 × (Nat → Int32) × (Nat → Int32) × (Nat → Int32) × (Nat → Int32) × (Nat → Int32) × (Nat → Int32) × (Nat → Int32) × (Nat → Int32) × (Nat → Int64) × (Nat → Int64)) := bn (s1 + s0) fun t_1 => (bn (v4 + 1) fun t_2 => (k43 v1 v2 t_1 t_2 x74 x75 x76 x77 x78 x101 x104 x112 y99 y100))
set_option maxHeartbeats 4000000 in
set_option maxRecDepth 100000 in
theorem wX12_order_105 {l : Launch} {b0 : Nat} {D : GD} {K : KT} {n : Nat} {κ : QT} {X0 : XT} {Y0 : YT} {Z : ZT} (hL : LY n κ) (hN : ([74, 75, 76, 77, 78, 79, 92, 93, 94, 95, 96, 97, 101, 104, 112] : List Nat).Nodup) (hM : ([99, 100] : List Nat).Nodup) (hC : gC l b0 D K RX12 cX12_order (some FieldType.int) 6 8 188 0 0) {x79 : Nat → Int32} {x92 : Nat → Int32} {x93 : Nat → Int32} {x94 : Nat → Int32} {x95 : Nat → Int32} {x96 : Nat → Int32} {x97 : Nat → Int32} {r : Int32} {rx74 : (Nat → Int32)} {rx75 : (Nat → Int32)} {rx76 : (Nat → Int32)} {rx77 : (Nat → Int32)} {rx78 : (Nat → Int32)} {rx101 : (Nat → Int32)} {rx104 : (Nat → Int32)} {rx112 : (Nat → Int32)} {ry99 : (Nat → Int64)} {ry100 : (Nat → Int64)} (hret : ∀ pc loc, narrow .int (.int r) = .int r → decode cX12_order pc = .ok (.ireturn, 1) → gV l b0 D K (n, κ, ov X0 [74, 75, 76, 77, 78, 79, 92, 93, 94, 95, 96, 97, 101, 104, 112] [rx74, rx75, rx76, rx77, rx78, x79, x92, x93, x94, x95, x96, x97, rx101, rx104, rx112], ov Y0 [99, 100] [ry99, ry100], Z, 0, 0) pc loc [.int r]) {k43 : Int32 → Int32 → Int32 → Int32 → (Nat → Int32) → (Nat → Int32) → (Nat → Int32) → (Nat → Int32) → (Nat → Int32) → (Nat → Int32) → (Nat → Int32) → (Nat → Int32) → (Nat → Int64) → (Nat → Int64) → Option (Int32 × (Nat → Int32) × (Nat → Int32) × (Nat → Int32) × (Nat → Int32) × (Nat → Int32) × (Nat → Int32) × (Nat → Int32) × (Nat → Int32) × (Nat → Int64) × (Nat → Int64))} (hk43 : ∀ (v1 : Int32) (v2 : Int32) (v3 : Int32) (v4 : Int32) (x74 : (Nat → Int32)) (x75 : (Nat → Int32)) (x76 : (Nat → Int32)) (x77 : (Nat → Int32)) (x78 : (Nat → Int32)) (x101 : (Nat → Int32)) (x104 : (Nat → Int32)) (x112 : (Nat → Int32)) (y99 : (Nat → Int64)) (y100 : (Nat → Int64)), k43 v1 v2 v3 v4 x74 x75 x76 x77 x78 x101 x104 x112 y99 y100 = some (r, rx74, rx75, rx76, rx77, rx78, rx101, rx104, rx112, ry99, ry100) → gV l b0 D K (n, κ, ov X0 [74, 75, 76, 77, 78, 79, 92, 93, 94, 95, 96, 97, 101, 104, 112] [x74, x75, x76, x77, x78, x79, x92, x93, x94, x95, x96, x97, x101, x104, x112], ov Y0 [99, 100] [y99, y100], Z, 0, 0) 43 [(0, .ref (b0 + 74)), (1, .int v1), (2, .int v2), (3, .int v3), (4, .int v4)] []) {v1 : Int32} {v2 : Int32} {v4 : Int32} {s0 : Int32} {s1 : Int32} {x74 : (Nat → Int32)} {x75 : (Nat → Int32)} {x76 : (Nat → Int32)} {x77 : (Nat → Int32)} {x78 : (Nat → Int32)} {x101 : (Nat → Int32)} {x104 : (Nat → Int32)} {x112 : (Nat → Int32)} {y99 : (Nat → Int64)} {y100 : (Nat → Int64)} (hf : fX12_order_105 x79 x92 x93 x94 x95 x96 x97 k43 v1 v2 v4 s0 s1 x74 x75 x76 x77 x78 x101 x104 x112 y99 y100 = some (r, rx74, rx75, rx76, rx77, rx78, rx101, rx104, rx112, ry99, ry100)) : gV l b0 D K (n, κ, ov X0 [74, 75, 76, 77, 78, 79, 92, 93, 94, 95, 96, 97, 101, 104, 112] [x74, x75, x76, x77, x78, x79, x92, x93, x94, x95, x96, x97, x101, x104, x112], ov Y0 [99, 100] [y99, y100], Z, 0, 0) 105 [(0, .ref (b0 + 74)), (1, .int v1), (2, .int v2), (4, .int v4)] [.int s0, .int s1] := by
  unfold fX12_order_105 at hf
  refine g_iadd hC dX12_order_105 ?_
  obtain ⟨t_1, et_1, hf⟩ := bnE hf
  refine g_topi et_1 ?_
  refine g_istore_n hC (i := 3) [(3, .int t_1), (0, .ref (b0 + 74)), (1, .int v1), (2, .int v2), (4, .int v4)] rfl dX12_order_106 (by decide) rfl ?_
  obtain ⟨t_2, et_2, hf⟩ := bnE hf
  refine g_iinc hC (i := 4) (v := t_2) [(4, .int t_2), (3, .int t_1), (0, .ref (b0 + 74)), (1, .int v1), (2, .int v2)] dX12_order_107 (q := 4) rfl ((congrArg (HAdd.hAdd v4) ic_1).trans et_2.symm) (by decide) rfl ?_
  refine g_goto hC 43 dX12_order_110 (by decide) ?_
  exact g_sub [2, 3, 4, 1, 0] rfl (hk43 v1 v2 t_1 t_2 x74 x75 x76 x77 x78 x101 x104 x112 y99 y100 hf)

def fX12_order_104   (x79 : Nat → Int32) (x92 : Nat → Int32) (x93 : Nat → Int32) (x94 : Nat → Int32) (x95 : Nat → Int32) (x96 : Nat → Int32) (x97 : Nat → Int32)  (k43 : Int32 → Int32 → Int32 → Int32 → (Nat → Int32) → (Nat → Int32) → (Nat → Int32) → (Nat → Int32) → (Nat → Int32) → (Nat → Int32) → (Nat → Int32) → (Nat → Int32) → (Nat → Int64) → (Nat → Int64) → Option (Int32 × (Nat → Int32) × (Nat → Int32) × (Nat → Int32) × (Nat → Int32) × (Nat → Int32) × (Nat → Int32) × (Nat → Int32) × (Nat → Int32) × (Nat → Int64) × (Nat → Int64))) (v1 : Int32) (v2 : Int32) (v4 : Int32) (s0 : Int32) (x74 : (Nat → Int32)) (x75 : (Nat → Int32)) (x76 : (Nat → Int32)) (x77 : (Nat → Int32)) (x78 : (Nat → Int32)) (x101 : (Nat → Int32)) (x104 : (Nat → Int32)) (x112 : (Nat → Int32)) (y99 : (Nat → Int64)) (y100 : (Nat → Int64)) : Option (Int32 × (Nat → Int32) × (Nat → Int32) × (Nat → Int32) × (Nat → Int32) × (Nat → Int32) × (Nat → Int32) × (Nat → Int32) × (Nat → Int32) × (Nat → Int64) × (Nat → Int64)) := fX12_order_105 x79 x92 x93 x94 x95 x96 x97 k43 v1 v2 v4 0 s0 x74 x75 x76 x77 x78 x101 x104 x112 y99 y100
set_option maxHeartbeats 4000000 in
set_option maxRecDepth 100000 in
theorem wX12_order_104 {l : Launch} {b0 : Nat} {D : GD} {K : KT} {n : Nat} {κ : QT} {X0 : XT} {Y0 : YT} {Z : ZT} (hL : LY n κ) (hN : ([74, 75, 76, 77, 78, 79, 92, 93, 94, 95, 96, 97, 101, 104, 112] : List Nat).Nodup) (hM : ([99, 100] : List Nat).Nodup) (hC : gC l b0 D K RX12 cX12_order (some FieldType.int) 6 8 188 0 0) {x79 : Nat → Int32} {x92 : Nat → Int32} {x93 : Nat → Int32} {x94 : Nat → Int32} {x95 : Nat → Int32} {x96 : Nat → Int32} {x97 : Nat → Int32} {r : Int32} {rx74 : (Nat → Int32)} {rx75 : (Nat → Int32)} {rx76 : (Nat → Int32)} {rx77 : (Nat → Int32)} {rx78 : (Nat → Int32)} {rx101 : (Nat → Int32)} {rx104 : (Nat → Int32)} {rx112 : (Nat → Int32)} {ry99 : (Nat → Int64)} {ry100 : (Nat → Int64)} (hret : ∀ pc loc, narrow .int (.int r) = .int r → decode cX12_order pc = .ok (.ireturn, 1) → gV l b0 D K (n, κ, ov X0 [74, 75, 76, 77, 78, 79, 92, 93, 94, 95, 96, 97, 101, 104, 112] [rx74, rx75, rx76, rx77, rx78, x79, x92, x93, x94, x95, x96, x97, rx101, rx104, rx112], ov Y0 [99, 100] [ry99, ry100], Z, 0, 0) pc loc [.int r]) {k43 : Int32 → Int32 → Int32 → Int32 → (Nat → Int32) → (Nat → Int32) → (Nat → Int32) → (Nat → Int32) → (Nat → Int32) → (Nat → Int32) → (Nat → Int32) → (Nat → Int32) → (Nat → Int64) → (Nat → Int64) → Option (Int32 × (Nat → Int32) × (Nat → Int32) × (Nat → Int32) × (Nat → Int32) × (Nat → Int32) × (Nat → Int32) × (Nat → Int32) × (Nat → Int32) × (Nat → Int64) × (Nat → Int64))} (hk43 : ∀ (v1 : Int32) (v2 : Int32) (v3 : Int32) (v4 : Int32) (x74 : (Nat → Int32)) (x75 : (Nat → Int32)) (x76 : (Nat → Int32)) (x77 : (Nat → Int32)) (x78 : (Nat → Int32)) (x101 : (Nat → Int32)) (x104 : (Nat → Int32)) (x112 : (Nat → Int32)) (y99 : (Nat → Int64)) (y100 : (Nat → Int64)), k43 v1 v2 v3 v4 x74 x75 x76 x77 x78 x101 x104 x112 y99 y100 = some (r, rx74, rx75, rx76, rx77, rx78, rx101, rx104, rx112, ry99, ry100) → gV l b0 D K (n, κ, ov X0 [74, 75, 76, 77, 78, 79, 92, 93, 94, 95, 96, 97, 101, 104, 112] [x74, x75, x76, x77, x78, x79, x92, x93, x94, x95, x96, x97, x101, x104, x112], ov Y0 [99, 100] [y99, y100], Z, 0, 0) 43 [(0, .ref (b0 + 74)), (1, .int v1), (2, .int v2), (3, .int v3), (4, .int v4)] []) {v1 : Int32} {v2 : Int32} {v4 : Int32} {s0 : Int32} {x74 : (Nat → Int32)} {x75 : (Nat → Int32)} {x76 : (Nat → Int32)} {x77 : (Nat → Int32)} {x78 : (Nat → Int32)} {x101 : (Nat → Int32)} {x104 : (Nat → Int32)} {x112 : (Nat → Int32)} {y99 : (Nat → Int64)} {y100 : (Nat → Int64)} (hf : fX12_order_104 x79 x92 x93 x94 x95 x96 x97 k43 v1 v2 v4 s0 x74 x75 x76 x77 x78 x101 x104 x112 y99 y100 = some (r, rx74, rx75, rx76, rx77, rx78, rx101, rx104, rx112, ry99, ry100)) : gV l b0 D K (n, κ, ov X0 [74, 75, 76, 77, 78, 79, 92, 93, 94, 95, 96, 97, 101, 104, 112] [x74, x75, x76, x77, x78, x79, x92, x93, x94, x95, x96, x97, x101, x104, x112], ov Y0 [99, 100] [y99, y100], Z, 0, 0) 104 [(0, .ref (b0 + 74)), (1, .int v1), (2, .int v2), (4, .int v4)] [.int s0] := by
  unfold fX12_order_104 at hf
  refine g_iconst hC (v := 0) dX12_order_104 ic_0 ?_
  exact g_sub [0, 1, 2, 3] rfl (wX12_order_105 hL hN hM hC  hret hk43 hf)

def fX12_order_100   (x79 : Nat → Int32) (x92 : Nat → Int32) (x93 : Nat → Int32) (x94 : Nat → Int32) (x95 : Nat → Int32) (x96 : Nat → Int32) (x97 : Nat → Int32)  (k43 : Int32 → Int32 → Int32 → Int32 → (Nat → Int32) → (Nat → Int32) → (Nat → Int32) → (Nat → Int32) → (Nat → Int32) → (Nat → Int32) → (Nat → Int32) → (Nat → Int32) → (Nat → Int64) → (Nat → Int64) → Option (Int32 × (Nat → Int32) × (Nat → Int32) × (Nat → Int32) × (Nat → Int32) × (Nat → Int32) × (Nat → Int32) × (Nat → Int32) × (Nat → Int32) × (Nat → Int64) × (Nat → Int64))) (v1 : Int32) (v2 : Int32) (v4 : Int32) (s0 : Int32) (x74 : (Nat → Int32)) (x75 : (Nat → Int32)) (x76 : (Nat → Int32)) (x77 : (Nat → Int32)) (x78 : (Nat → Int32)) (x101 : (Nat → Int32)) (x104 : (Nat → Int32)) (x112 : (Nat → Int32)) (y99 : (Nat → Int64)) (y100 : (Nat → Int64)) : Option (Int32 × (Nat → Int32) × (Nat → Int32) × (Nat → Int32) × (Nat → Int32) × (Nat → Int32) × (Nat → Int32) × (Nat → Int32) × (Nat → Int32) × (Nat → Int64) × (Nat → Int64)) := fX12_order_105 x79 x92 x93 x94 x95 x96 x97 k43 v1 v2 v4 1 s0 x74 x75 x76 x77 x78 x101 x104 x112 y99 y100
set_option maxHeartbeats 4000000 in
set_option maxRecDepth 100000 in
theorem wX12_order_100 {l : Launch} {b0 : Nat} {D : GD} {K : KT} {n : Nat} {κ : QT} {X0 : XT} {Y0 : YT} {Z : ZT} (hL : LY n κ) (hN : ([74, 75, 76, 77, 78, 79, 92, 93, 94, 95, 96, 97, 101, 104, 112] : List Nat).Nodup) (hM : ([99, 100] : List Nat).Nodup) (hC : gC l b0 D K RX12 cX12_order (some FieldType.int) 6 8 188 0 0) {x79 : Nat → Int32} {x92 : Nat → Int32} {x93 : Nat → Int32} {x94 : Nat → Int32} {x95 : Nat → Int32} {x96 : Nat → Int32} {x97 : Nat → Int32} {r : Int32} {rx74 : (Nat → Int32)} {rx75 : (Nat → Int32)} {rx76 : (Nat → Int32)} {rx77 : (Nat → Int32)} {rx78 : (Nat → Int32)} {rx101 : (Nat → Int32)} {rx104 : (Nat → Int32)} {rx112 : (Nat → Int32)} {ry99 : (Nat → Int64)} {ry100 : (Nat → Int64)} (hret : ∀ pc loc, narrow .int (.int r) = .int r → decode cX12_order pc = .ok (.ireturn, 1) → gV l b0 D K (n, κ, ov X0 [74, 75, 76, 77, 78, 79, 92, 93, 94, 95, 96, 97, 101, 104, 112] [rx74, rx75, rx76, rx77, rx78, x79, x92, x93, x94, x95, x96, x97, rx101, rx104, rx112], ov Y0 [99, 100] [ry99, ry100], Z, 0, 0) pc loc [.int r]) {k43 : Int32 → Int32 → Int32 → Int32 → (Nat → Int32) → (Nat → Int32) → (Nat → Int32) → (Nat → Int32) → (Nat → Int32) → (Nat → Int32) → (Nat → Int32) → (Nat → Int32) → (Nat → Int64) → (Nat → Int64) → Option (Int32 × (Nat → Int32) × (Nat → Int32) × (Nat → Int32) × (Nat → Int32) × (Nat → Int32) × (Nat → Int32) × (Nat → Int32) × (Nat → Int32) × (Nat → Int64) × (Nat → Int64))} (hk43 : ∀ (v1 : Int32) (v2 : Int32) (v3 : Int32) (v4 : Int32) (x74 : (Nat → Int32)) (x75 : (Nat → Int32)) (x76 : (Nat → Int32)) (x77 : (Nat → Int32)) (x78 : (Nat → Int32)) (x101 : (Nat → Int32)) (x104 : (Nat → Int32)) (x112 : (Nat → Int32)) (y99 : (Nat → Int64)) (y100 : (Nat → Int64)), k43 v1 v2 v3 v4 x74 x75 x76 x77 x78 x101 x104 x112 y99 y100 = some (r, rx74, rx75, rx76, rx77, rx78, rx101, rx104, rx112, ry99, ry100) → gV l b0 D K (n, κ, ov X0 [74, 75, 76, 77, 78, 79, 92, 93, 94, 95, 96, 97, 101, 104, 112] [x74, x75, x76, x77, x78, x79, x92, x93, x94, x95, x96, x97, x101, x104, x112], ov Y0 [99, 100] [y99, y100], Z, 0, 0) 43 [(0, .ref (b0 + 74)), (1, .int v1), (2, .int v2), (3, .int v3), (4, .int v4)] []) {v1 : Int32} {v2 : Int32} {v4 : Int32} {s0 : Int32} {x74 : (Nat → Int32)} {x75 : (Nat → Int32)} {x76 : (Nat → Int32)} {x77 : (Nat → Int32)} {x78 : (Nat → Int32)} {x101 : (Nat → Int32)} {x104 : (Nat → Int32)} {x112 : (Nat → Int32)} {y99 : (Nat → Int64)} {y100 : (Nat → Int64)} (hf : fX12_order_100 x79 x92 x93 x94 x95 x96 x97 k43 v1 v2 v4 s0 x74 x75 x76 x77 x78 x101 x104 x112 y99 y100 = some (r, rx74, rx75, rx76, rx77, rx78, rx101, rx104, rx112, ry99, ry100)) : gV l b0 D K (n, κ, ov X0 [74, 75, 76, 77, 78, 79, 92, 93, 94, 95, 96, 97, 101, 104, 112] [x74, x75, x76, x77, x78, x79, x92, x93, x94, x95, x96, x97, x101, x104, x112], ov Y0 [99, 100] [y99, y100], Z, 0, 0) 100 [(0, .ref (b0 + 74)), (1, .int v1), (2, .int v2), (4, .int v4)] [.int s0] := by
  unfold fX12_order_100 at hf
  refine g_iconst hC (v := 1) dX12_order_100 ic_1 ?_
  refine g_goto hC 105 dX12_order_101 (by decide) ?_
  exact g_sub [0, 1, 2, 3] rfl (wX12_order_105 hL hN hM hC  hret hk43 hf)

def fX12_order_79   (x79 : Nat → Int32) (x92 : Nat → Int32) (x93 : Nat → Int32) (x94 : Nat → Int32) (x95 : Nat → Int32) (x96 : Nat → Int32) (x97 : Nat → Int32)  (k43 : Int32 → Int32 → Int32 → Int32 → (Nat → Int32) → (Nat → Int32) → (Nat → Int32) → (Nat → Int32) → (Nat → Int32) → (Nat → Int32) → (Nat → Int32) → (Nat → Int32) → (Nat → Int64) → (Nat → Int64) → Option (Int32 × (Nat → Int32) × (Nat → Int32) × (Nat → Int32) × (Nat → Int32) × (Nat → Int32) × (Nat → Int32) × (Nat → Int32) × (Nat → Int32) × (Nat → Int64) × (Nat → Int64))) (v1 : Int32) (v2 : Int32) (v3 : Int32) (v4 : Int32) (s0 : Int32) (x74 : (Nat → Int32)) (x75 : (Nat → Int32)) (x76 : (Nat → Int32)) (x77 : (Nat → Int32)) (x78 : (Nat → Int32)) (x101 : (Nat → Int32)) (x104 : (Nat → Int32)) (x112 : (Nat → Int32)) (y99 : (Nat → Int64)) (y100 : (Nat → Int64)) : Option (Int32 × (Nat → Int32) × (Nat → Int32) × (Nat → Int32) × (Nat → Int32) × (Nat → Int32) × (Nat → Int32) × (Nat → Int32) × (Nat → Int32) × (Nat → Int64) × (Nat → Int64)) := if s0 < v2 then (fX12_order_100 x79 x92 x93 x94 x95 x96 x97 k43 v1 v2 v4 v3 x74 x75 x76 x77 x78 x101 x104 x112 y99 y100) else (if s0 = v2 then (if v1 ≤ v4 then (fX12_order_104 x79 x92 x93 x94 x95 x96 x97 k43 v1 v2 v4 v3 x74 x75 x76 x77 x78 x101 x104 x112 y99 y100) else (fX12_order_100 x79 x92 x93 x94 x95 x96 x97 k43 v1 v2 v4 v3 x74 x75 x76 x77 x78 x101 x104 x112 y99 y100)) else (fX12_order_104 x79 x92 x93 x94 x95 x96 x97 k43 v1 v2 v4 v3 x74 x75 x76 x77 x78 x101 x104 x112 y99 y100))
set_option maxHeartbeats 4000000 in
set_option maxRecDepth 100000 in
theorem wX12_order_79 {l : Launch} {b0 : Nat} {D : GD} {K : KT} {n : Nat} {κ : QT} {X0 : XT} {Y0 : YT} {Z : ZT} (hL : LY n κ) (hN : ([74, 75, 76, 77, 78, 79, 92, 93, 94, 95, 96, 97, 101, 104, 112] : List Nat).Nodup) (hM : ([99, 100] : List Nat).Nodup) (hC : gC l b0 D K RX12 cX12_order (some FieldType.int) 6 8 188 0 0) {x79 : Nat → Int32} {x92 : Nat → Int32} {x93 : Nat → Int32} {x94 : Nat → Int32} {x95 : Nat → Int32} {x96 : Nat → Int32} {x97 : Nat → Int32} {r : Int32} {rx74 : (Nat → Int32)} {rx75 : (Nat → Int32)} {rx76 : (Nat → Int32)} {rx77 : (Nat → Int32)} {rx78 : (Nat → Int32)} {rx101 : (Nat → Int32)} {rx104 : (Nat → Int32)} {rx112 : (Nat → Int32)} {ry99 : (Nat → Int64)} {ry100 : (Nat → Int64)} (hret : ∀ pc loc, narrow .int (.int r) = .int r → decode cX12_order pc = .ok (.ireturn, 1) → gV l b0 D K (n, κ, ov X0 [74, 75, 76, 77, 78, 79, 92, 93, 94, 95, 96, 97, 101, 104, 112] [rx74, rx75, rx76, rx77, rx78, x79, x92, x93, x94, x95, x96, x97, rx101, rx104, rx112], ov Y0 [99, 100] [ry99, ry100], Z, 0, 0) pc loc [.int r]) {k43 : Int32 → Int32 → Int32 → Int32 → (Nat → Int32) → (Nat → Int32) → (Nat → Int32) → (Nat → Int32) → (Nat → Int32) → (Nat → Int32) → (Nat → Int32) → (Nat → Int32) → (Nat → Int64) → (Nat → Int64) → Option (Int32 × (Nat → Int32) × (Nat → Int32) × (Nat → Int32) × (Nat → Int32) × (Nat → Int32) × (Nat → Int32) × (Nat → Int32) × (Nat → Int32) × (Nat → Int64) × (Nat → Int64))} (hk43 : ∀ (v1 : Int32) (v2 : Int32) (v3 : Int32) (v4 : Int32) (x74 : (Nat → Int32)) (x75 : (Nat → Int32)) (x76 : (Nat → Int32)) (x77 : (Nat → Int32)) (x78 : (Nat → Int32)) (x101 : (Nat → Int32)) (x104 : (Nat → Int32)) (x112 : (Nat → Int32)) (y99 : (Nat → Int64)) (y100 : (Nat → Int64)), k43 v1 v2 v3 v4 x74 x75 x76 x77 x78 x101 x104 x112 y99 y100 = some (r, rx74, rx75, rx76, rx77, rx78, rx101, rx104, rx112, ry99, ry100) → gV l b0 D K (n, κ, ov X0 [74, 75, 76, 77, 78, 79, 92, 93, 94, 95, 96, 97, 101, 104, 112] [x74, x75, x76, x77, x78, x79, x92, x93, x94, x95, x96, x97, x101, x104, x112], ov Y0 [99, 100] [y99, y100], Z, 0, 0) 43 [(0, .ref (b0 + 74)), (1, .int v1), (2, .int v2), (3, .int v3), (4, .int v4)] []) {v1 : Int32} {v2 : Int32} {v3 : Int32} {v4 : Int32} {s0 : Int32} {x74 : (Nat → Int32)} {x75 : (Nat → Int32)} {x76 : (Nat → Int32)} {x77 : (Nat → Int32)} {x78 : (Nat → Int32)} {x101 : (Nat → Int32)} {x104 : (Nat → Int32)} {x112 : (Nat → Int32)} {y99 : (Nat → Int64)} {y100 : (Nat → Int64)} (hf : fX12_order_79 x79 x92 x93 x94 x95 x96 x97 k43 v1 v2 v3 v4 s0 x74 x75 x76 x77 x78 x101 x104 x112 y99 y100 = some (r, rx74, rx75, rx76, rx77, rx78, rx101, rx104, rx112, ry99, ry100)) : gV l b0 D K (n, κ, ov X0 [74, 75, 76, 77, 78, 79, 92, 93, 94, 95, 96, 97, 101, 104, 112] [x74, x75, x76, x77, x78, x79, x92, x93, x94, x95, x96, x97, x101, x104, x112], ov Y0 [99, 100] [y99, y100], Z, 0, 0) 79 [(0, .ref (b0 + 74)), (1, .int v1), (2, .int v2), (3, .int v3), (4, .int v4)] [.int s0] := by
  unfold fX12_order_79 at hf
  refine g_istore hC (i := 5) [(5, .int s0), (0, .ref (b0 + 74)), (1, .int v1), (2, .int v2), (3, .int v3), (4, .int v4)] dX12_order_79 (by decide) rfl ?_
  refine g_iload_n hC 4 dX12_order_81 rfl rfl ?_
  refine g_iload hC 0 dX12_order_82 rfl ?_
  refine g_iload_n hC 3 dX12_order_84 rfl rfl ?_
  refine g_icmp_lt hC 100 dX12_order_85 (by decide) (fun hc => ?_) (fun hc => ?_)
  · replace hf := ifT hf hc
    exact g_sub [1, 2, 3, 5] rfl (wX12_order_100 hL hN hM hC  hret hk43 hf)
  · replace hf := ifF hf hc
    refine g_iload hC 0 dX12_order_88 rfl ?_
    refine g_iload_n hC 3 dX12_order_90 rfl rfl ?_
    refine g_icmp_ne hC 104 dX12_order_91 (by decide) (fun hc => ?_) (fun hc => ?_)
    · replace hf := ifF hf hc
      exact g_sub [1, 2, 3, 5] rfl (wX12_order_104 hL hN hM hC  hret hk43 hf)
    · replace hf := ifT hf hc
      refine g_iload hC 5 dX12_order_94 rfl ?_
      refine g_iload_n hC 2 dX12_order_96 rfl rfl ?_
      refine g_icmp_ge hC 104 dX12_order_97 (by decide) (fun hc => ?_) (fun hc => ?_)
      · replace hf := ifT hf hc
        exact g_sub [1, 2, 3, 5] rfl (wX12_order_104 hL hN hM hC  hret hk43 hf)
      · replace hf := ifF hf hc
        exact g_sub [1, 2, 3, 5] rfl (wX12_order_100 hL hN hM hC  hret hk43 hf)

def fX12_order_43b   (x79 : Nat → Int32) (x92 : Nat → Int32) (x93 : Nat → Int32) (x94 : Nat → Int32) (x95 : Nat → Int32) (x96 : Nat → Int32) (x97 : Nat → Int32)  (k43 : Int32 → Int32 → Int32 → Int32 → (Nat → Int32) → (Nat → Int32) → (Nat → Int32) → (Nat → Int32) → (Nat → Int32) → (Nat → Int32) → (Nat → Int32) → (Nat → Int32) → (Nat → Int64) → (Nat → Int64) → Option (Int32 × (Nat → Int32) × (Nat → Int32) × (Nat → Int32) × (Nat → Int32) × (Nat → Int32) × (Nat → Int32) × (Nat → Int32) × (Nat → Int32) × (Nat → Int64) × (Nat → Int64))) (v1 : Int32) (v2 : Int32) (v3 : Int32) (v4 : Int32) (x74 : (Nat → Int32)) (x75 : (Nat → Int32)) (x76 : (Nat → Int32)) (x77 : (Nat → Int32)) (x78 : (Nat → Int32)) (x101 : (Nat → Int32)) (x104 : (Nat → Int32)) (x112 : (Nat → Int32)) (y99 : (Nat → Int64)) (y100 : (Nat → Int64)) : Option (Int32 × (Nat → Int32) × (Nat → Int32) × (Nat → Int32) × (Nat → Int32) × (Nat → Int32) × (Nat → Int32) × (Nat → Int32) × (Nat → Int32) × (Nat → Int64) × (Nat → Int64)) := gd (inb 4 11) (if (x75 (4 : Int32).toNatClampNeg) ≤ v4 then (some (v3, x74, x75, x76, x77, x78, x101, x104, x112, y99, y100)) else (gd (inb v4 6) (if (x104 v4.toNatClampNeg) = (-2) then (fX12_order_79 x79 x92 x93 x94 x95 x96 x97 k43 v1 v2 v3 v4 100000 x74 x75 x76 x77 x78 x101 x104 x112 y99 y100) else (gd (inb v4 6) (fX12_order_79 x79 x92 x93 x94 x95 x96 x97 k43 v1 v2 v3 v4 (x104 v4.toNatClampNeg) x74 x75 x76 x77 x78 x101 x104 x112 y99 y100)))))
def fX12_order_43   (x79 : Nat → Int32) (x92 : Nat → Int32) (x93 : Nat → Int32) (x94 : Nat → Int32) (x95 : Nat → Int32) (x96 : Nat → Int32) (x97 : Nat → Int32)  : Int32 → Int32 → Int32 → Int32 → (Nat → Int32) → (Nat → Int32) → (Nat → Int32) → (Nat → Int32) → (Nat → Int32) → (Nat → Int32) → (Nat → Int32) → (Nat → Int32) → (Nat → Int64) → (Nat → Int64) → Option (Int32 × (Nat → Int32) × (Nat → Int32) × (Nat → Int32) × (Nat → Int32) × (Nat → Int32) × (Nat → Int32) × (Nat → Int32) × (Nat → Int32) × (Nat → Int64) × (Nat → Int64)) := lq14 (fX12_order_43b x79 x92 x93 x94 x95 x96 x97 ) 5000
set_option maxHeartbeats 4000000 in
set_option maxRecDepth 100000 in
theorem wX12_order_43 {l : Launch} {b0 : Nat} {D : GD} {K : KT} {n : Nat} {κ : QT} {X0 : XT} {Y0 : YT} {Z : ZT} (hL : LY n κ) (hN : ([74, 75, 76, 77, 78, 79, 92, 93, 94, 95, 96, 97, 101, 104, 112] : List Nat).Nodup) (hM : ([99, 100] : List Nat).Nodup) (hC : gC l b0 D K RX12 cX12_order (some FieldType.int) 6 8 188 0 0) {x79 : Nat → Int32} {x92 : Nat → Int32} {x93 : Nat → Int32} {x94 : Nat → Int32} {x95 : Nat → Int32} {x96 : Nat → Int32} {x97 : Nat → Int32} {r : Int32} {rx74 : (Nat → Int32)} {rx75 : (Nat → Int32)} {rx76 : (Nat → Int32)} {rx77 : (Nat → Int32)} {rx78 : (Nat → Int32)} {rx101 : (Nat → Int32)} {rx104 : (Nat → Int32)} {rx112 : (Nat → Int32)} {ry99 : (Nat → Int64)} {ry100 : (Nat → Int64)} (hret : ∀ pc loc, narrow .int (.int r) = .int r → decode cX12_order pc = .ok (.ireturn, 1) → gV l b0 D K (n, κ, ov X0 [74, 75, 76, 77, 78, 79, 92, 93, 94, 95, 96, 97, 101, 104, 112] [rx74, rx75, rx76, rx77, rx78, x79, x92, x93, x94, x95, x96, x97, rx101, rx104, rx112], ov Y0 [99, 100] [ry99, ry100], Z, 0, 0) pc loc [.int r]) : ∀ (j : Nat) (v1 : Int32) (v2 : Int32) (v3 : Int32) (v4 : Int32) (x74 : (Nat → Int32)) (x75 : (Nat → Int32)) (x76 : (Nat → Int32)) (x77 : (Nat → Int32)) (x78 : (Nat → Int32)) (x101 : (Nat → Int32)) (x104 : (Nat → Int32)) (x112 : (Nat → Int32)) (y99 : (Nat → Int64)) (y100 : (Nat → Int64)), lq14 (fX12_order_43b x79 x92 x93 x94 x95 x96 x97 ) j v1 v2 v3 v4 x74 x75 x76 x77 x78 x101 x104 x112 y99 y100 = some (r, rx74, rx75, rx76, rx77, rx78, rx101, rx104, rx112, ry99, ry100) → gV l b0 D K (n, κ, ov X0 [74, 75, 76, 77, 78, 79, 92, 93, 94, 95, 96, 97, 101, 104, 112] [x74, x75, x76, x77, x78, x79, x92, x93, x94, x95, x96, x97, x101, x104, x112], ov Y0 [99, 100] [y99, y100], Z, 0, 0) 43 [(0, .ref (b0 + 74)), (1, .int v1), (2, .int v2), (3, .int v3), (4, .int v4)] [] := by
  intro j
  induction j with
  | zero => intro v1 v2 v3 v4 x74 x75 x76 x77 x78 x101 x104 x112 y99 y100 hf; cases hf
  | succ j hk43 =>
    intro v1 v2 v3 v4 x74 x75 x76 x77 x78 x101 x104 x112 y99 y100 hf
    replace hf : fX12_order_43b x79 x92 x93 x94 x95 x96 x97  (lq14 (fX12_order_43b x79 x92 x93 x94 x95 x96 x97 ) j) v1 v2 v3 v4 x74 x75 x76 x77 x78 x101 x104 x112 y99 y100 = some (r, rx74, rx75, rx76, rx77, rx78, rx101, rx104, rx112, ry99, ry100) := hf
    unfold fX12_order_43b at hf
    refine g_iload hC 4 dX12_order_43 rfl ?_
    refine g_aload_n hC 0 dX12_order_45 rfl rfl ?_
    refine gt_X12_9 hC (a := 74) (kk_74 hL) (kn_74 hL) dX12_order_46 ?_
    refine g_ref (b := 75) rfl ?_
    refine g_iconst hC (v := 4) dX12_order_49 ic_4 ?_
    obtain ⟨h_1, hf⟩ := gdE hf
    refine g_iald hC (x := x75) (kk_75 hL) (kn_75 hL) (ov_get hN 1 rfl rfl) (inb_in h_1) dX12_order_50 ?_
    refine g_icmp_ge hC 113 dX12_order_51 (by decide) (fun hc => ?_) (fun hc => ?_)
    · replace hf := ifT hf hc
      refine g_iload_n hC 3 dX12_order_113 rfl rfl ?_
      obtain ⟨rfl, rfl, rfl, rfl, rfl, rfl, rfl, rfl, rfl, rfl, rfl⟩ := sm11E hf
      exact hret _ _ rfl dX12_order_114
    · replace hf := ifF hf hc
      refine g_aload_n hC 0 dX12_order_54 rfl rfl ?_
      refine gt_X12_109 hC (a := 74) (kk_74 hL) (kn_74 hL) dX12_order_55 ?_
      refine g_ref (b := 104) rfl ?_
      refine g_iload hC 4 dX12_order_58 rfl ?_
      obtain ⟨h_2, hf⟩ := gdE hf
      refine g_iald hC (x := x104) (kk_104 hL) (kn_104 hL) (ov_get hN 13 rfl rfl) (inb_in h_2) dX12_order_60 ?_
      refine g_bipush hC (v := (-2)) dX12_order_61 bp_m2 ?_
      refine g_icmp_ne hC 72 dX12_order_63 (by decide) (fun hc => ?_) (fun hc => ?_)
      · replace hf := ifF hf hc
        refine g_aload_n hC 0 dX12_order_72 rfl rfl ?_
        refine gt_X12_109 hC (a := 74) (kk_74 hL) (kn_74 hL) dX12_order_73 ?_
        refine g_ref (b := 104) rfl ?_
        refine g_iload hC 4 dX12_order_76 rfl ?_
        obtain ⟨h_3, hf⟩ := gdE hf
        refine g_iald hC (x := x104) (kk_104 hL) (kn_104 hL) (ov_get hN 13 rfl rfl) (inb_in h_3) dX12_order_78 ?_
        exact g_sub [0, 1, 2, 3, 4] rfl (wX12_order_79 hL hN hM hC  hret hk43 hf)
      · replace hf := ifT hf hc
        refine g_ldc_w hC (v := 100000) tw_1706 dX12_order_66 ?_
        refine g_goto hC 79 dX12_order_69 (by decide) ?_
        exact g_sub [0, 1, 2, 3, 4] rfl (wX12_order_79 hL hN hM hC  hret hk43 hf)

def fX12_order_37   (x79 : Nat → Int32) (x92 : Nat → Int32) (x93 : Nat → Int32) (x94 : Nat → Int32) (x95 : Nat → Int32) (x96 : Nat → Int32) (x97 : Nat → Int32)  (v1 : Int32) (s0 : Int32) (x74 : (Nat → Int32)) (x75 : (Nat → Int32)) (x76 : (Nat → Int32)) (x77 : (Nat → Int32)) (x78 : (Nat → Int32)) (x101 : (Nat → Int32)) (x104 : (Nat → Int32)) (x112 : (Nat → Int32)) (y99 : (Nat → Int64)) (y100 : (Nat → Int64)) : Option (Int32 × (Nat → Int32) × (Nat → Int32) × (Nat → Int32) × (Nat → Int32) × (Nat → Int32) × (Nat → Int32) × (Nat → Int32) × (Nat → Int32) × (Nat → Int64) × (Nat → Int64)) := fX12_order_43 x79 x92 x93 x94 x95 x96 x97  v1 s0 0 0 x74 x75 x76 x77 x78 x101 x104 x112 y99 y100
set_option maxHeartbeats 4000000 in
set_option maxRecDepth 100000 in
theorem wX12_order_37 {l : Launch} {b0 : Nat} {D : GD} {K : KT} {n : Nat} {κ : QT} {X0 : XT} {Y0 : YT} {Z : ZT} (hL : LY n κ) (hN : ([74, 75, 76, 77, 78, 79, 92, 93, 94, 95, 96, 97, 101, 104, 112] : List Nat).Nodup) (hM : ([99, 100] : List Nat).Nodup) (hC : gC l b0 D K RX12 cX12_order (some FieldType.int) 6 8 188 0 0) {x79 : Nat → Int32} {x92 : Nat → Int32} {x93 : Nat → Int32} {x94 : Nat → Int32} {x95 : Nat → Int32} {x96 : Nat → Int32} {x97 : Nat → Int32} {r : Int32} {rx74 : (Nat → Int32)} {rx75 : (Nat → Int32)} {rx76 : (Nat → Int32)} {rx77 : (Nat → Int32)} {rx78 : (Nat → Int32)} {rx101 : (Nat → Int32)} {rx104 : (Nat → Int32)} {rx112 : (Nat → Int32)} {ry99 : (Nat → Int64)} {ry100 : (Nat → Int64)} (hret : ∀ pc loc, narrow .int (.int r) = .int r → decode cX12_order pc = .ok (.ireturn, 1) → gV l b0 D K (n, κ, ov X0 [74, 75, 76, 77, 78, 79, 92, 93, 94, 95, 96, 97, 101, 104, 112] [rx74, rx75, rx76, rx77, rx78, x79, x92, x93, x94, x95, x96, x97, rx101, rx104, rx112], ov Y0 [99, 100] [ry99, ry100], Z, 0, 0) pc loc [.int r]) {v1 : Int32} {s0 : Int32} {x74 : (Nat → Int32)} {x75 : (Nat → Int32)} {x76 : (Nat → Int32)} {x77 : (Nat → Int32)} {x78 : (Nat → Int32)} {x101 : (Nat → Int32)} {x104 : (Nat → Int32)} {x112 : (Nat → Int32)} {y99 : (Nat → Int64)} {y100 : (Nat → Int64)} (hf : fX12_order_37 x79 x92 x93 x94 x95 x96 x97  v1 s0 x74 x75 x76 x77 x78 x101 x104 x112 y99 y100 = some (r, rx74, rx75, rx76, rx77, rx78, rx101, rx104, rx112, ry99, ry100)) : gV l b0 D K (n, κ, ov X0 [74, 75, 76, 77, 78, 79, 92, 93, 94, 95, 96, 97, 101, 104, 112] [x74, x75, x76, x77, x78, x79, x92, x93, x94, x95, x96, x97, x101, x104, x112], ov Y0 [99, 100] [y99, y100], Z, 0, 0) 37 [(0, .ref (b0 + 74)), (1, .int v1)] [.int s0] := by
  unfold fX12_order_37 at hf
  refine g_istore_n hC (i := 2) [(2, .int s0), (0, .ref (b0 + 74)), (1, .int v1)] rfl dX12_order_37 (by decide) rfl ?_
  refine g_iconst hC (v := 0) dX12_order_38 ic_0 ?_
  refine g_istore_n hC (i := 3) [(3, .int 0), (2, .int s0), (0, .ref (b0 + 74)), (1, .int v1)] rfl dX12_order_39 (by decide) rfl ?_
  refine g_iconst hC (v := 0) dX12_order_40 ic_0 ?_
  refine g_istore hC (i := 4) [(4, .int 0), (3, .int 0), (2, .int s0), (0, .ref (b0 + 74)), (1, .int v1)] dX12_order_41 (by decide) rfl ?_
  exact g_sub [3, 4, 2, 1, 0] rfl (wX12_order_43 hL hN hM hC  hret  5000 v1 s0 0 0 x74 x75 x76 x77 x78 x101 x104 x112 y99 y100 hf)

def fX12_order_0   (x79 : Nat → Int32) (x92 : Nat → Int32) (x93 : Nat → Int32) (x94 : Nat → Int32) (x95 : Nat → Int32) (x96 : Nat → Int32) (x97 : Nat → Int32)  (v1 : Int32) (x74 : (Nat → Int32)) (x75 : (Nat → Int32)) (x76 : (Nat → Int32)) (x77 : (Nat → Int32)) (x78 : (Nat → Int32)) (x101 : (Nat → Int32)) (x104 : (Nat → Int32)) (x112 : (Nat → Int32)) (y99 : (Nat → Int64)) (y100 : (Nat → Int64)) : Option (Int32 × (Nat → Int32) × (Nat → Int32) × (Nat → Int32) × (Nat → Int32) × (Nat → Int32) × (Nat → Int32) × (Nat → Int32) × (Nat → Int32) × (Nat → Int64) × (Nat → Int64)) := bd1 (fX12_isHouse x75 v1) fun r_1 => (if r_1 = 0 then (some ((-1), x74, x75, x76, x77, x78, x101, x104, x112, y99, y100)) else (bd10 (fX12_laysDown x79 x92 x93 x94 x95 x96 x97 x74 x75 x76 x77 x78 x101 x104 x112 y99 y100) fun x74_3 x75_4 x76_5 x77_6 x78_7 x101_8 x104_9 x112_10 y99_11 y100_12 => (gd (inb v1 6) (if (x104_9 v1.toNatClampNeg) = (-2) then (fX12_order_37 x79 x92 x93 x94 x95 x96 x97  v1 100000 x74_3 x75_4 x76_5 x77_6 x78_7 x101_8 x104_9 x112_10 y99_11 y100_12) else (gd (inb v1 6) (fX12_order_37 x79 x92 x93 x94 x95 x96 x97  v1 (x104_9 v1.toNatClampNeg) x74_3 x75_4 x76_5 x77_6 x78_7 x101_8 x104_9 x112_10 y99_11 y100_12))))))
set_option maxHeartbeats 4000000 in
set_option maxRecDepth 100000 in
theorem wX12_order_0 {l : Launch} {b0 : Nat} {D : GD} {K : KT} {n : Nat} {κ : QT} {X0 : XT} {Y0 : YT} {Z : ZT} (hL : LY n κ) (hN : ([74, 75, 76, 77, 78, 79, 92, 93, 94, 95, 96, 97, 101, 104, 112] : List Nat).Nodup) (hM : ([99, 100] : List Nat).Nodup) (hC : gC l b0 D K RX12 cX12_order (some FieldType.int) 6 8 188 0 0) {x79 : Nat → Int32} {x92 : Nat → Int32} {x93 : Nat → Int32} {x94 : Nat → Int32} {x95 : Nat → Int32} {x96 : Nat → Int32} {x97 : Nat → Int32} {r : Int32} {rx74 : (Nat → Int32)} {rx75 : (Nat → Int32)} {rx76 : (Nat → Int32)} {rx77 : (Nat → Int32)} {rx78 : (Nat → Int32)} {rx101 : (Nat → Int32)} {rx104 : (Nat → Int32)} {rx112 : (Nat → Int32)} {ry99 : (Nat → Int64)} {ry100 : (Nat → Int64)} (hret : ∀ pc loc, narrow .int (.int r) = .int r → decode cX12_order pc = .ok (.ireturn, 1) → gV l b0 D K (n, κ, ov X0 [74, 75, 76, 77, 78, 79, 92, 93, 94, 95, 96, 97, 101, 104, 112] [rx74, rx75, rx76, rx77, rx78, x79, x92, x93, x94, x95, x96, x97, rx101, rx104, rx112], ov Y0 [99, 100] [ry99, ry100], Z, 0, 0) pc loc [.int r]) {v1 : Int32} {x74 : (Nat → Int32)} {x75 : (Nat → Int32)} {x76 : (Nat → Int32)} {x77 : (Nat → Int32)} {x78 : (Nat → Int32)} {x101 : (Nat → Int32)} {x104 : (Nat → Int32)} {x112 : (Nat → Int32)} {y99 : (Nat → Int64)} {y100 : (Nat → Int64)} (hf : fX12_order_0 x79 x92 x93 x94 x95 x96 x97  v1 x74 x75 x76 x77 x78 x101 x104 x112 y99 y100 = some (r, rx74, rx75, rx76, rx77, rx78, rx101, rx104, rx112, ry99, ry100)) : gV l b0 D K (n, κ, ov X0 [74, 75, 76, 77, 78, 79, 92, 93, 94, 95, 96, 97, 101, 104, 112] [x74, x75, x76, x77, x78, x79, x92, x93, x94, x95, x96, x97, x101, x104, x112], ov Y0 [99, 100] [y99, y100], Z, 0, 0) 0 [(0, .ref (b0 + 74)), (1, .int v1)] [] := by
  unfold fX12_order_0 at hf
  refine g_aload_n hC 0 dX12_order_0 rfl rfl ?_
  refine g_iload_n hC 1 dX12_order_1 rfl rfl ?_
  obtain ⟨r_1, q_2, hf⟩ := bd1E hf
  refine g_callV_i (a := 74) hC (X' := ov X0 [74, 75, 76, 77, 78, 79, 92, 93, 94, 95, 96, 97, 101, 104, 112] [x74, x75, x76, x77, x78, x79, x92, x93, x94, x95, x96, x97, x101, x104, x112]) (Y' := ov Y0 [99, 100] [y99, y100]) (As := [.int v1]) (gMi_eq (c_X12_isHouse l hL (ov_map hN [1] (by rfl) (by rfl)) (ov_map hM [] (by rfl) (by rfl)) q_2) (ov_ovE hN (by rfl) [1] [0, 2, 3, 4, 5, 6, 7, 8, 9, 10, 11, 12, 13, 14] (by rfl) (by rfl) [x74, x76, x77, x78, x79, x92, x93, x94, x95, x96, x97, x101, x104, x112] (by rfl) (by rfl) (by rfl) 15 (by rfl) (by decide)) (ov_ovE hM (by rfl) [] [0, 1] (by rfl) (by rfl) [y99, y100] (by rfl) (by rfl) (by rfl) 2 (by rfl) (by decide))) tw_1530 tw_1527 tw_127 tw_1529 tw_74 (ci := 12) rfl (by decide) (kk_74 hL) (kn_74 hL) pd_X12_isHouse (by decide) (by decide) rfl rfl (Nat.le_of_ble_eq_true rfl) rfl dX12_order_2 ?_
  refine g_if_ne hC 10 dX12_order_5 (by decide) (fun hc => ?_) (fun hc => ?_)
  · replace hf := ifF hf hc
    refine g_aload_n hC 0 dX12_order_10 rfl rfl ?_
    obtain ⟨x74_3, x75_4, x76_5, x77_6, x78_7, x101_8, x104_9, x112_10, y99_11, y100_12, q_13, hf⟩ := bd10E hf
    refine g_callV_v (a := 74) hC (X' := ov X0 [74, 75, 76, 77, 78, 79, 92, 93, 94, 95, 96, 97, 101, 104, 112] [x74_3, x75_4, x76_5, x77_6, x78_7, x79, x92, x93, x94, x95, x96, x97, x101_8, x104_9, x112_10]) (Y' := ov Y0 [99, 100] [y99_11, y100_12]) (As := []) (gMv_eq (c_X12_laysDown l hL (ov_map hN [0, 1, 2, 3, 4, 5, 6, 7, 8, 9, 10, 11, 12, 13, 14] (by rfl) (by rfl)) (ov_map hM [0, 1] (by rfl) (by rfl)) q_13) (ov_ovE hN (by rfl) [0, 1, 2, 3, 4, 5, 6, 7, 8, 9, 10, 11, 12, 13, 14] [] (by rfl) (by rfl) [] (by rfl) (by rfl) (by rfl) 15 (by rfl) (by decide)) (ov_ovE hM (by rfl) [0, 1] [] (by rfl) (by rfl) [] (by rfl) (by rfl) (by rfl) 2 (by rfl) (by decide))) tw_1701 tw_1698 tw_127 tw_1700 tw_103 (ci := 12) rfl (by decide) (kk_74 hL) (kn_74 hL) pd_X12_laysDown (by decide) (by decide) rfl rfl (Nat.le_of_ble_eq_true rfl) rfl dX12_order_11 ?_
    refine g_aload_n hC 0 dX12_order_14 rfl rfl ?_
    refine gt_X12_109 hC (a := 74) (kk_74 hL) (kn_74 hL) dX12_order_15 ?_
    refine g_ref (b := 104) rfl ?_
    refine g_iload_n hC 1 dX12_order_18 rfl rfl ?_
    obtain ⟨h_14, hf⟩ := gdE hf
    refine g_iald hC (x := x104_9) (kk_104 hL) (kn_104 hL) (ov_get hN 13 rfl rfl) (inb_in h_14) dX12_order_19 ?_
    refine g_bipush hC (v := (-2)) dX12_order_20 bp_m2 ?_
    refine g_icmp_ne hC 31 dX12_order_22 (by decide) (fun hc => ?_) (fun hc => ?_)
    · replace hf := ifF hf hc
      refine g_aload_n hC 0 dX12_order_31 rfl rfl ?_
      refine gt_X12_109 hC (a := 74) (kk_74 hL) (kn_74 hL) dX12_order_32 ?_
      refine g_ref (b := 104) rfl ?_
      refine g_iload_n hC 1 dX12_order_35 rfl rfl ?_
      obtain ⟨h_15, hf⟩ := gdE hf
      refine g_iald hC (x := x104_9) (kk_104 hL) (kn_104 hL) (ov_get hN 13 rfl rfl) (inb_in h_15) dX12_order_36 ?_
      exact g_sub [0, 1] rfl (wX12_order_37 hL hN hM hC  hret  hf)
    · replace hf := ifT hf hc
      refine g_ldc_w hC (v := 100000) tw_1706 dX12_order_25 ?_
      refine g_goto hC 37 dX12_order_28 (by decide) ?_
      exact g_sub [0, 1] rfl (wX12_order_37 hL hN hM hC  hret  hf)
  · replace hf := ifT hf hc
    refine g_iconst hC (v := (-1)) dX12_order_8 ic_m1 ?_
    obtain ⟨rfl, rfl, rfl, rfl, rfl, rfl, rfl, rfl, rfl, rfl, rfl⟩ := sm11E hf
    exact hret _ _ rfl dX12_order_9

def fX12_order   (x79 : Nat → Int32) (x92 : Nat → Int32) (x93 : Nat → Int32) (x94 : Nat → Int32) (x95 : Nat → Int32) (x96 : Nat → Int32) (x97 : Nat → Int32)  (v1 : Int32) (x74 : Nat → Int32) (x75 : Nat → Int32) (x76 : Nat → Int32) (x77 : Nat → Int32) (x78 : Nat → Int32) (x101 : Nat → Int32) (x104 : Nat → Int32) (x112 : Nat → Int32) (y99 : Nat → Int64) (y100 : Nat → Int64) : Option (Int32 × (Nat → Int32) × (Nat → Int32) × (Nat → Int32) × (Nat → Int32) × (Nat → Int32) × (Nat → Int32) × (Nat → Int32) × (Nat → Int32) × (Nat → Int64) × (Nat → Int64)) := fX12_order_0 x79 x92 x93 x94 x95 x96 x97 v1 x74 x75 x76 x77 x78 x101 x104 x112 y99 y100

set_option maxHeartbeats 4000000 in
set_option maxRecDepth 100000 in
theorem c_X12_order (l : Launch) {b0 : Nat} {D : GD} {n : Nat} {κ : QT} {X0 : XT} {Y0 : YT} {Z : ZT} (hL : LY n κ) {x74 : Nat → Int32} {x75 : Nat → Int32} {x76 : Nat → Int32} {x77 : Nat → Int32} {x78 : Nat → Int32} {x79 : Nat → Int32} {x92 : Nat → Int32} {x93 : Nat → Int32} {x94 : Nat → Int32} {x95 : Nat → Int32} {x96 : Nat → Int32} {x97 : Nat → Int32} {x101 : Nat → Int32} {x104 : Nat → Int32} {x112 : Nat → Int32} {y99 : Nat → Int64} {y100 : Nat → Int64} (hx : ([74, 75, 76, 77, 78, 79, 92, 93, 94, 95, 96, 97, 101, 104, 112] : List Nat).map X0 = [x74, x75, x76, x77, x78, x79, x92, x93, x94, x95, x96, x97, x101, x104, x112]) (hy : ([99, 100] : List Nat).map Y0 = [y99, y100]) {v1 : Int32} {r : Int32} {rx74 : (Nat → Int32)} {rx75 : (Nat → Int32)} {rx76 : (Nat → Int32)} {rx77 : (Nat → Int32)} {rx78 : (Nat → Int32)} {rx101 : (Nat → Int32)} {rx104 : (Nat → Int32)} {rx112 : (Nat → Int32)} {ry99 : (Nat → Int64)} {ry100 : (Nat → Int64)} (hf : fX12_order x79 x92 x93 x94 x95 x96 x97 v1 x74 x75 x76 x77 x78 x101 x104 x112 y99 y100 = some (r, rx74, rx75, rx76, rx77, rx78, rx101, rx104, rx112, ry99, ry100)) : gMi l yX12_order cX12_order 6 (some FieldType.int) 8 188 0 0 b0 D [.ref (b0 + 74), .int v1] (n, κ, X0, Y0, Z) (n, κ, ov X0 [74, 75, 76, 77, 78, 79, 92, 93, 94, 95, 96, 97, 101, 104, 112] [rx74, rx75, rx76, rx77, rx78, x79, x92, x93, x94, x95, x96, x97, rx101, rx104, rx112], ov Y0 [99, 100] [ry99, ry100], Z) r := by
  have hN : ([74, 75, 76, 77, 78, 79, 92, 93, 94, 95, 96, 97, 101, 104, 112] : List Nat).Nodup := by decide
  have hM : ([99, 100] : List Nat).Nodup := by decide
  refine g_meti (own := RX12) (by decide) rfl rfl (Nat.le_of_ble_eq_true rfl) ?_
  intro K hC hret
  have e := wX12_order_0 hL hN hM hC  hret hf
  rw [ov_id' hx, ov_id' hy] at e
  exact g_sub [0, 1] rfl e

-- X12_laysRocks
def fX12_laysRocks_7b   (x79 : Nat → Int32) (x92 : Nat → Int32) (x93 : Nat → Int32) (x94 : Nat → Int32) (x95 : Nat → Int32) (x96 : Nat → Int32) (x97 : Nat → Int32)  (k7 : Int32 → Int32 → Int32 → Int32 → (Nat → Int32) → (Nat → Int32) → (Nat → Int32) → (Nat → Int32) → (Nat → Int32) → (Nat → Int32) → (Nat → Int32) → (Nat → Int32) → (Nat → Int32) → (Nat → Int64) → (Nat → Int64) → Option ((Nat → Int32) × (Nat → Int32) × (Nat → Int32) × (Nat → Int32) × (Nat → Int32) × (Nat → Int32) × (Nat → Int32) × (Nat → Int32) × (Nat → Int32) × (Nat → Int64) × (Nat → Int64))) (v1 : Int32) (v2 : Int32) (v3 : Int32) (v4 : Int32) (x74 : (Nat → Int32)) (x75 : (Nat → Int32)) (x76 : (Nat → Int32)) (x77 : (Nat → Int32)) (x78 : (Nat → Int32)) (x101 : (Nat → Int32)) (x108 : (Nat → Int32)) (x109 : (Nat → Int32)) (x112 : (Nat → Int32)) (y99 : (Nat → Int64)) (y100 : (Nat → Int64)) : Option ((Nat → Int32) × (Nat → Int32) × (Nat → Int32) × (Nat → Int32) × (Nat → Int32) × (Nat → Int32) × (Nat → Int32) × (Nat → Int32) × (Nat → Int32) × (Nat → Int64) × (Nat → Int64)) := if 25 ≤ v4 then (some (x74, x75, x76, x77, x78, x101, x108, x109, x112, y99, y100)) else (gd (inb v1 6) (gd (inb v2 6) (bd8 (fX12_goFor x79 x92 x93 x94 x95 x96 x97 v3 x74 x75 x76 (upd (upd x77 v1.toNatClampNeg (2 * (v4 / 5))) v2.toNatClampNeg (2 * (v4 - v4 / 5 * 5))) x78 x101 y99 y100) fun x74_3 x75_4 x76_5 x77_6 x78_7 x101_8 y99_9 y100_10 => (gd (inb v1 6) (gd (inb v4 25) (gd (inb v2 6) (gd (inb v4 25) (bd6 (fX12_laysBack x74_3 x75_4 x76_5 x77_6 x78_7 x112) fun x74_16 x75_17 x76_18 x77_19 x78_20 x112_21 => (bn (v4 + 1) fun t_23 => (k7 v1 v2 v3 t_23 x74_16 x75_17 x76_18 x77_19 x78_20 x101_8 (upd x108 v4.toNatClampNeg ((x76_5 v1.toNatClampNeg) + (v4 / 5))) (upd x109 v4.toNatClampNeg ((x76_5 v2.toNatClampNeg) + (v4 - v4 / 5 * 5))) x112_21 y99_9 y100_10))))))))))
def fX12_laysRocks_7   (x79 : Nat → Int32) (x92 : Nat → Int32) (x93 : Nat → Int32) (x94 : Nat → Int32) (x95 : Nat → Int32) (x96 : Nat → Int32) (x97 : Nat → Int32)  : Int32 → Int32 → Int32 → Int32 → (Nat → Int32) → (Nat → Int32) → (Nat → Int32) → (Nat → Int32) → (Nat → Int32) → (Nat → Int32) → (Nat → Int32) → (Nat → Int32) → (Nat → Int32) → (Nat → Int64) → (Nat → Int64) → Option ((Nat → Int32) × (Nat → Int32) × (Nat → Int32) × (Nat → Int32) × (Nat → Int32) × (Nat → Int32) × (Nat → Int32) × (Nat → Int32) × (Nat → Int32) × (Nat → Int64) × (Nat → Int64)) := lq15 (fX12_laysRocks_7b x79 x92 x93 x94 x95 x96 x97 ) 5000
set_option maxHeartbeats 4000000 in
set_option maxRecDepth 100000 in
theorem wX12_laysRocks_7 {l : Launch} {b0 : Nat} {D : GD} {K : KT} {n : Nat} {κ : QT} {X0 : XT} {Y0 : YT} {Z : ZT} (hL : LY n κ) (hN : ([74, 75, 76, 77, 78, 79, 92, 93, 94, 95, 96, 97, 101, 108, 109, 112] : List Nat).Nodup) (hM : ([99, 100] : List Nat).Nodup) (hC : gC l b0 D K RX12 cX12_laysRocks none 5 8 188 0 0) {x79 : Nat → Int32} {x92 : Nat → Int32} {x93 : Nat → Int32} {x94 : Nat → Int32} {x95 : Nat → Int32} {x96 : Nat → Int32} {x97 : Nat → Int32} {rx74 : (Nat → Int32)} {rx75 : (Nat → Int32)} {rx76 : (Nat → Int32)} {rx77 : (Nat → Int32)} {rx78 : (Nat → Int32)} {rx101 : (Nat → Int32)} {rx108 : (Nat → Int32)} {rx109 : (Nat → Int32)} {rx112 : (Nat → Int32)} {ry99 : (Nat → Int64)} {ry100 : (Nat → Int64)} (hret : ∀ pc loc, decode cX12_laysRocks pc = .ok (.return_, 1) → gV l b0 D K (n, κ, ov X0 [74, 75, 76, 77, 78, 79, 92, 93, 94, 95, 96, 97, 101, 108, 109, 112] [rx74, rx75, rx76, rx77, rx78, x79, x92, x93, x94, x95, x96, x97, rx101, rx108, rx109, rx112], ov Y0 [99, 100] [ry99, ry100], Z, 0, 0) pc loc []) : ∀ (j : Nat) (v1 : Int32) (v2 : Int32) (v3 : Int32) (v4 : Int32) (x74 : (Nat → Int32)) (x75 : (Nat → Int32)) (x76 : (Nat → Int32)) (x77 : (Nat → Int32)) (x78 : (Nat → Int32)) (x101 : (Nat → Int32)) (x108 : (Nat → Int32)) (x109 : (Nat → Int32)) (x112 : (Nat → Int32)) (y99 : (Nat → Int64)) (y100 : (Nat → Int64)), lq15 (fX12_laysRocks_7b x79 x92 x93 x94 x95 x96 x97 ) j v1 v2 v3 v4 x74 x75 x76 x77 x78 x101 x108 x109 x112 y99 y100 = some (rx74, rx75, rx76, rx77, rx78, rx101, rx108, rx109, rx112, ry99, ry100) → gV l b0 D K (n, κ, ov X0 [74, 75, 76, 77, 78, 79, 92, 93, 94, 95, 96, 97, 101, 108, 109, 112] [x74, x75, x76, x77, x78, x79, x92, x93, x94, x95, x96, x97, x101, x108, x109, x112], ov Y0 [99, 100] [y99, y100], Z, 0, 0) 7 [(0, .ref (b0 + 74)), (1, .int v1), (2, .int v2), (3, .int v3), (4, .int v4)] [] := by
  intro j
  induction j with
  | zero => intro v1 v2 v3 v4 x74 x75 x76 x77 x78 x101 x108 x109 x112 y99 y100 hf; cases hf
  | succ j hk7 =>
    intro v1 v2 v3 v4 x74 x75 x76 x77 x78 x101 x108 x109 x112 y99 y100 hf
    replace hf : fX12_laysRocks_7b x79 x92 x93 x94 x95 x96 x97  (lq15 (fX12_laysRocks_7b x79 x92 x93 x94 x95 x96 x97 ) j) v1 v2 v3 v4 x74 x75 x76 x77 x78 x101 x108 x109 x112 y99 y100 = some (rx74, rx75, rx76, rx77, rx78, rx101, rx108, rx109, rx112, ry99, ry100) := hf
    unfold fX12_laysRocks_7b at hf
    refine g_iload hC 4 dX12_laysRocks_7 rfl ?_
    refine g_bipush hC (v := 25) dX12_laysRocks_9 bp_25 ?_
    refine g_icmp_ge hC 89 dX12_laysRocks_11 (by decide) (fun hc => ?_) (fun hc => ?_)
    · replace hf := ifT hf hc
      obtain ⟨rfl, rfl, rfl, rfl, rfl, rfl, rfl, rfl, rfl, rfl, rfl⟩ := sm11E hf
      exact hret _ _ dX12_laysRocks_89
    · replace hf := ifF hf hc
      refine g_aload_n hC 0 dX12_laysRocks_14 rfl rfl ?_
      refine gt_X12_16 hC (a := 74) (kk_74 hL) (kn_74 hL) dX12_laysRocks_15 ?_
      refine g_ref (b := 77) rfl ?_
      refine g_iload_n hC 1 dX12_laysRocks_18 rfl rfl ?_
      refine g_iconst hC (v := 2) dX12_laysRocks_19 ic_2 ?_
      refine g_iload hC 4 dX12_laysRocks_20 rfl ?_
      refine g_iconst hC (v := 5) dX12_laysRocks_22 ic_5 ?_
      refine g_idiv hC dX12_laysRocks_23 (by decide) ?_
      refine g_imul hC dX12_laysRocks_24 ?_
      obtain ⟨h_1, hf⟩ := gdE hf
      refine g_iast hC (x := x77) (kk_77 hL) (kn_77 hL) (ov_get hN 3 rfl rfl) (inb_in h_1) (ov_set hN (by rfl) 3 (by rfl)) dX12_laysRocks_25 ?_
      show gV l b0 D K (n, κ, ov X0 [74, 75, 76, 77, 78, 79, 92, 93, 94, 95, 96, 97, 101, 108, 109, 112] [x74, x75, x76, (upd x77 v1.toNatClampNeg (2 * (v4 / 5))), x78, x79, x92, x93, x94, x95, x96, x97, x101, x108, x109, x112], ov Y0 [99, 100] [y99, y100], Z, 0, 0) 26 [(0, .ref (b0 + 74)), (1, .int v1), (2, .int v2), (3, .int v3), (4, .int v4)] []
      refine g_aload_n hC 0 dX12_laysRocks_26 rfl rfl ?_
      refine gt_X12_16 hC (a := 74) (kk_74 hL) (kn_74 hL) dX12_laysRocks_27 ?_
      refine g_ref (b := 77) rfl ?_
      refine g_iload_n hC 2 dX12_laysRocks_30 rfl rfl ?_
      refine g_iconst hC (v := 2) dX12_laysRocks_31 ic_2 ?_
      refine g_iload hC 4 dX12_laysRocks_32 rfl ?_
      refine g_iconst hC (v := 5) dX12_laysRocks_34 ic_5 ?_
      refine g_irem hC dX12_laysRocks_35 (by decide) ?_
      refine g_imul hC dX12_laysRocks_36 ?_
      obtain ⟨h_2, hf⟩ := gdE hf
      refine g_iast hC (x := (upd x77 v1.toNatClampNeg (2 * (v4 / 5)))) (kk_77 hL) (kn_77 hL) (ov_get hN 3 rfl rfl) (inb_in h_2) (ov_set hN (by rfl) 3 (by rfl)) dX12_laysRocks_37 ?_
      show gV l b0 D K (n, κ, ov X0 [74, 75, 76, 77, 78, 79, 92, 93, 94, 95, 96, 97, 101, 108, 109, 112] [x74, x75, x76, (upd (upd x77 v1.toNatClampNeg (2 * (v4 / 5))) v2.toNatClampNeg (2 * (v4 - v4 / 5 * 5))), x78, x79, x92, x93, x94, x95, x96, x97, x101, x108, x109, x112], ov Y0 [99, 100] [y99, y100], Z, 0, 0) 38 [(0, .ref (b0 + 74)), (1, .int v1), (2, .int v2), (3, .int v3), (4, .int v4)] []
      refine g_aload_n hC 0 dX12_laysRocks_38 rfl rfl ?_
      refine g_iload_n hC 3 dX12_laysRocks_39 rfl rfl ?_
      obtain ⟨x74_3, x75_4, x76_5, x77_6, x78_7, x101_8, y99_9, y100_10, q_11, hf⟩ := bd8E hf
      refine g_callV_v (a := 74) hC (X' := ov X0 [74, 75, 76, 77, 78, 79, 92, 93, 94, 95, 96, 97, 101, 108, 109, 112] [x74_3, x75_4, x76_5, x77_6, x78_7, x79, x92, x93, x94, x95, x96, x97, x101_8, x108, x109, x112]) (Y' := ov Y0 [99, 100] [y99_9, y100_10]) (As := [.int v3]) (gMv_eq (c_X12_goFor l hL (ov_map hN [0, 1, 2, 3, 4, 5, 6, 7, 8, 9, 10, 11, 12] (by rfl) (by rfl)) (ov_map hM [0, 1] (by rfl) (by rfl)) q_11) (ov_ovE hN (by rfl) [0, 1, 2, 3, 4, 5, 6, 7, 8, 9, 10, 11, 12] [13, 14, 15] (by rfl) (by rfl) [x108, x109, x112] (by rfl) (by rfl) (by rfl) 16 (by rfl) (by decide)) (ov_ovE hM (by rfl) [0, 1] [] (by rfl) (by rfl) [] (by rfl) (by rfl) (by rfl) 2 (by rfl) (by decide))) tw_1685 tw_1682 tw_127 tw_1684 tw_100 (ci := 12) rfl (by decide) (kk_74 hL) (kn_74 hL) pd_X12_goFor (by decide) (by decide) rfl rfl (Nat.le_of_ble_eq_true rfl) rfl dX12_laysRocks_40 ?_
      refine g_aload_n hC 0 dX12_laysRocks_43 rfl rfl ?_
      refine gt_X12_121 hC (a := 74) (kk_74 hL) (kn_74 hL) dX12_laysRocks_44 ?_
      refine g_ref (b := 108) rfl ?_
      refine g_iload hC 4 dX12_laysRocks_47 rfl ?_
      refine g_aload_n hC 0 dX12_laysRocks_49 rfl rfl ?_
      refine gt_X12_13 hC (a := 74) (kk_74 hL) (kn_74 hL) dX12_laysRocks_50 ?_
      refine g_ref (b := 76) rfl ?_
      refine g_iload_n hC 1 dX12_laysRocks_53 rfl rfl ?_
      obtain ⟨h_12, hf⟩ := gdE hf
      refine g_iald hC (x := x76_5) (kk_76 hL) (kn_76 hL) (ov_get hN 2 rfl rfl) (inb_in h_12) dX12_laysRocks_54 ?_
      refine g_iload hC 4 dX12_laysRocks_55 rfl ?_
      refine g_iconst hC (v := 5) dX12_laysRocks_57 ic_5 ?_
      refine g_idiv hC dX12_laysRocks_58 (by decide) ?_
      refine g_iadd hC dX12_laysRocks_59 ?_
      obtain ⟨h_13, hf⟩ := gdE hf
      refine g_iast hC (x := x108) (kk_108 hL) (kn_108 hL) (ov_get hN 13 rfl rfl) (inb_in h_13) (ov_set hN (by rfl) 13 (by rfl)) dX12_laysRocks_60 ?_
      show gV l b0 D K (n, κ, ov X0 [74, 75, 76, 77, 78, 79, 92, 93, 94, 95, 96, 97, 101, 108, 109, 112] [x74_3, x75_4, x76_5, x77_6, x78_7, x79, x92, x93, x94, x95, x96, x97, x101_8, (upd x108 v4.toNatClampNeg ((x76_5 v1.toNatClampNeg) + (v4 / 5))), x109, x112], ov Y0 [99, 100] [y99_9, y100_10], Z, 0, 0) 61 [(0, .ref (b0 + 74)), (1, .int v1), (2, .int v2), (3, .int v3), (4, .int v4)] []
      refine g_aload_n hC 0 dX12_laysRocks_61 rfl rfl ?_
      refine gt_X12_124 hC (a := 74) (kk_74 hL) (kn_74 hL) dX12_laysRocks_62 ?_
      refine g_ref (b := 109) rfl ?_
      refine g_iload hC 4 dX12_laysRocks_65 rfl ?_
      refine g_aload_n hC 0 dX12_laysRocks_67 rfl rfl ?_
      refine gt_X12_13 hC (a := 74) (kk_74 hL) (kn_74 hL) dX12_laysRocks_68 ?_
      refine g_ref (b := 76) rfl ?_
      refine g_iload_n hC 2 dX12_laysRocks_71 rfl rfl ?_
      obtain ⟨h_14, hf⟩ := gdE hf
      refine g_iald hC (x := x76_5) (kk_76 hL) (kn_76 hL) (ov_get hN 2 rfl rfl) (inb_in h_14) dX12_laysRocks_72 ?_
      refine g_iload hC 4 dX12_laysRocks_73 rfl ?_
      refine g_iconst hC (v := 5) dX12_laysRocks_75 ic_5 ?_
      refine g_irem hC dX12_laysRocks_76 (by decide) ?_
      refine g_iadd hC dX12_laysRocks_77 ?_
      obtain ⟨h_15, hf⟩ := gdE hf
      refine g_iast hC (x := x109) (kk_109 hL) (kn_109 hL) (ov_get hN 14 rfl rfl) (inb_in h_15) (ov_set hN (by rfl) 14 (by rfl)) dX12_laysRocks_78 ?_
      show gV l b0 D K (n, κ, ov X0 [74, 75, 76, 77, 78, 79, 92, 93, 94, 95, 96, 97, 101, 108, 109, 112] [x74_3, x75_4, x76_5, x77_6, x78_7, x79, x92, x93, x94, x95, x96, x97, x101_8, (upd x108 v4.toNatClampNeg ((x76_5 v1.toNatClampNeg) + (v4 / 5))), (upd x109 v4.toNatClampNeg ((x76_5 v2.toNatClampNeg) + (v4 - v4 / 5 * 5))), x112], ov Y0 [99, 100] [y99_9, y100_10], Z, 0, 0) 79 [(0, .ref (b0 + 74)), (1, .int v1), (2, .int v2), (3, .int v3), (4, .int v4)] []
      refine g_aload_n hC 0 dX12_laysRocks_79 rfl rfl ?_
      obtain ⟨x74_16, x75_17, x76_18, x77_19, x78_20, x112_21, q_22, hf⟩ := bd6E hf
      refine g_callV_v (a := 74) hC (X' := ov X0 [74, 75, 76, 77, 78, 79, 92, 93, 94, 95, 96, 97, 101, 108, 109, 112] [x74_16, x75_17, x76_18, x77_19, x78_20, x79, x92, x93, x94, x95, x96, x97, x101_8, (upd x108 v4.toNatClampNeg ((x76_5 v1.toNatClampNeg) + (v4 / 5))), (upd x109 v4.toNatClampNeg ((x76_5 v2.toNatClampNeg) + (v4 - v4 / 5 * 5))), x112_21]) (Y' := ov Y0 [99, 100] [y99_9, y100_10]) (As := []) (gMv_eq (c_X12_laysBack l hL (ov_map hN [0, 1, 2, 3, 4, 15] (by rfl) (by rfl)) (ov_map hM [] (by rfl) (by rfl)) q_22) (ov_ovE hN (by rfl) [0, 1, 2, 3, 4, 15] [5, 6, 7, 8, 9, 10, 11, 12, 13, 14] (by rfl) (by rfl) [x79, x92, x93, x94, x95, x96, x97, x101_8, (upd x108 v4.toNatClampNeg ((x76_5 v1.toNatClampNeg) + (v4 / 5))), (upd x109 v4.toNatClampNeg ((x76_5 v2.toNatClampNeg) + (v4 - v4 / 5 * 5)))] (by rfl) (by rfl) (by rfl) 16 (by rfl) (by decide)) (ov_ovE hM (by rfl) [] [0, 1] (by rfl) (by rfl) [y99_9, y100_10] (by rfl) (by rfl) (by rfl) 2 (by rfl) (by decide))) tw_1693 tw_1690 tw_127 tw_1692 tw_102 (ci := 12) rfl (by decide) (kk_74 hL) (kn_74 hL) pd_X12_laysBack (by decide) (by decide) rfl rfl (Nat.le_of_ble_eq_true rfl) rfl dX12_laysRocks_80 ?_
      obtain ⟨t_23, et_23, hf⟩ := bnE hf
      refine g_iinc hC (i := 4) (v := t_23) [(4, .int t_23), (0, .ref (b0 + 74)), (1, .int v1), (2, .int v2), (3, .int v3)] dX12_laysRocks_83 (q := 4) rfl ((congrArg (HAdd.hAdd v4) ic_1).trans et_23.symm) (by decide) rfl ?_
      refine g_goto hC 7 dX12_laysRocks_86 (by decide) ?_
      exact g_sub [1, 2, 3, 4, 0] rfl (hk7 v1 v2 v3 t_23 x74_16 x75_17 x76_18 x77_19 x78_20 x101_8 (upd x108 v4.toNatClampNeg ((x76_5 v1.toNatClampNeg) + (v4 / 5))) (upd x109 v4.toNatClampNeg ((x76_5 v2.toNatClampNeg) + (v4 - v4 / 5 * 5))) x112_21 y99_9 y100_10 hf)

def fX12_laysRocks_0   (x79 : Nat → Int32) (x92 : Nat → Int32) (x93 : Nat → Int32) (x94 : Nat → Int32) (x95 : Nat → Int32) (x96 : Nat → Int32) (x97 : Nat → Int32)  (v1 : Int32) (v2 : Int32) (v3 : Int32) (x74 : (Nat → Int32)) (x75 : (Nat → Int32)) (x76 : (Nat → Int32)) (x77 : (Nat → Int32)) (x78 : (Nat → Int32)) (x101 : (Nat → Int32)) (x108 : (Nat → Int32)) (x109 : (Nat → Int32)) (x112 : (Nat → Int32)) (y99 : (Nat → Int64)) (y100 : (Nat → Int64)) : Option ((Nat → Int32) × (Nat → Int32) × (Nat → Int32) × (Nat → Int32) × (Nat → Int32) × (Nat → Int32) × (Nat → Int32) × (Nat → Int32) × (Nat → Int32) × (Nat → Int64) × (Nat → Int64)) := bd6 (fX12_keepsAll x74 x75 x76 x77 x78 x112) fun x74_1 x75_2 x76_3 x77_4 x78_5 x112_6 => (fX12_laysRocks_7 x79 x92 x93 x94 x95 x96 x97  v1 v2 v3 0 x74_1 x75_2 x76_3 x77_4 x78_5 x101 x108 x109 x112_6 y99 y100)
set_option maxHeartbeats 4000000 in
set_option maxRecDepth 100000 in
theorem wX12_laysRocks_0 {l : Launch} {b0 : Nat} {D : GD} {K : KT} {n : Nat} {κ : QT} {X0 : XT} {Y0 : YT} {Z : ZT} (hL : LY n κ) (hN : ([74, 75, 76, 77, 78, 79, 92, 93, 94, 95, 96, 97, 101, 108, 109, 112] : List Nat).Nodup) (hM : ([99, 100] : List Nat).Nodup) (hC : gC l b0 D K RX12 cX12_laysRocks none 5 8 188 0 0) {x79 : Nat → Int32} {x92 : Nat → Int32} {x93 : Nat → Int32} {x94 : Nat → Int32} {x95 : Nat → Int32} {x96 : Nat → Int32} {x97 : Nat → Int32} {rx74 : (Nat → Int32)} {rx75 : (Nat → Int32)} {rx76 : (Nat → Int32)} {rx77 : (Nat → Int32)} {rx78 : (Nat → Int32)} {rx101 : (Nat → Int32)} {rx108 : (Nat → Int32)} {rx109 : (Nat → Int32)} {rx112 : (Nat → Int32)} {ry99 : (Nat → Int64)} {ry100 : (Nat → Int64)} (hret : ∀ pc loc, decode cX12_laysRocks pc = .ok (.return_, 1) → gV l b0 D K (n, κ, ov X0 [74, 75, 76, 77, 78, 79, 92, 93, 94, 95, 96, 97, 101, 108, 109, 112] [rx74, rx75, rx76, rx77, rx78, x79, x92, x93, x94, x95, x96, x97, rx101, rx108, rx109, rx112], ov Y0 [99, 100] [ry99, ry100], Z, 0, 0) pc loc []) {v1 : Int32} {v2 : Int32} {v3 : Int32} {x74 : (Nat → Int32)} {x75 : (Nat → Int32)} {x76 : (Nat → Int32)} {x77 : (Nat → Int32)} {x78 : (Nat → Int32)} {x101 : (Nat → Int32)} {x108 : (Nat → Int32)} {x109 : (Nat → Int32)} {x112 : (Nat → Int32)} {y99 : (Nat → Int64)} {y100 : (Nat → Int64)} (hf : fX12_laysRocks_0 x79 x92 x93 x94 x95 x96 x97  v1 v2 v3 x74 x75 x76 x77 x78 x101 x108 x109 x112 y99 y100 = some (rx74, rx75, rx76, rx77, rx78, rx101, rx108, rx109, rx112, ry99, ry100)) : gV l b0 D K (n, κ, ov X0 [74, 75, 76, 77, 78, 79, 92, 93, 94, 95, 96, 97, 101, 108, 109, 112] [x74, x75, x76, x77, x78, x79, x92, x93, x94, x95, x96, x97, x101, x108, x109, x112], ov Y0 [99, 100] [y99, y100], Z, 0, 0) 0 [(0, .ref (b0 + 74)), (1, .int v1), (2, .int v2), (3, .int v3)] [] := by
  unfold fX12_laysRocks_0 at hf
  refine g_aload_n hC 0 dX12_laysRocks_0 rfl rfl ?_
  obtain ⟨x74_1, x75_2, x76_3, x77_4, x78_5, x112_6, q_7, hf⟩ := bd6E hf
  refine g_callV_v (a := 74) hC (X' := ov X0 [74, 75, 76, 77, 78, 79, 92, 93, 94, 95, 96, 97, 101, 108, 109, 112] [x74_1, x75_2, x76_3, x77_4, x78_5, x79, x92, x93, x94, x95, x96, x97, x101, x108, x109, x112_6]) (Y' := ov Y0 [99, 100] [y99, y100]) (As := []) (gMv_eq (c_X12_keepsAll l hL (ov_map hN [0, 1, 2, 3, 4, 15] (by rfl) (by rfl)) (ov_map hM [] (by rfl) (by rfl)) q_7) (ov_ovE hN (by rfl) [0, 1, 2, 3, 4, 15] [5, 6, 7, 8, 9, 10, 11, 12, 13, 14] (by rfl) (by rfl) [x79, x92, x93, x94, x95, x96, x97, x101, x108, x109] (by rfl) (by rfl) (by rfl) 16 (by rfl) (by decide)) (ov_ovE hM (by rfl) [] [0, 1] (by rfl) (by rfl) [y99, y100] (by rfl) (by rfl) (by rfl) 2 (by rfl) (by decide))) tw_1673 tw_1670 tw_127 tw_1672 tw_97 (ci := 12) rfl (by decide) (kk_74 hL) (kn_74 hL) pd_X12_keepsAll (by decide) (by decide) rfl rfl (Nat.le_of_ble_eq_true rfl) rfl dX12_laysRocks_1 ?_
  refine g_iconst hC (v := 0) dX12_laysRocks_4 ic_0 ?_
  refine g_istore hC (i := 4) [(4, .int 0), (0, .ref (b0 + 74)), (1, .int v1), (2, .int v2), (3, .int v3)] dX12_laysRocks_5 (by decide) rfl ?_
  exact g_sub [1, 2, 3, 4, 0] rfl (wX12_laysRocks_7 hL hN hM hC  hret  5000 v1 v2 v3 0 x74_1 x75_2 x76_3 x77_4 x78_5 x101 x108 x109 x112_6 y99 y100 hf)

def fX12_laysRocks   (x79 : Nat → Int32) (x92 : Nat → Int32) (x93 : Nat → Int32) (x94 : Nat → Int32) (x95 : Nat → Int32) (x96 : Nat → Int32) (x97 : Nat → Int32)  (v1 : Int32) (v2 : Int32) (v3 : Int32) (x74 : Nat → Int32) (x75 : Nat → Int32) (x76 : Nat → Int32) (x77 : Nat → Int32) (x78 : Nat → Int32) (x101 : Nat → Int32) (x108 : Nat → Int32) (x109 : Nat → Int32) (x112 : Nat → Int32) (y99 : Nat → Int64) (y100 : Nat → Int64) : Option ((Nat → Int32) × (Nat → Int32) × (Nat → Int32) × (Nat → Int32) × (Nat → Int32) × (Nat → Int32) × (Nat → Int32) × (Nat → Int32) × (Nat → Int32) × (Nat → Int64) × (Nat → Int64)) := fX12_laysRocks_0 x79 x92 x93 x94 x95 x96 x97 v1 v2 v3 x74 x75 x76 x77 x78 x101 x108 x109 x112 y99 y100

set_option maxHeartbeats 4000000 in
set_option maxRecDepth 100000 in
theorem c_X12_laysRocks (l : Launch) {b0 : Nat} {D : GD} {n : Nat} {κ : QT} {X0 : XT} {Y0 : YT} {Z : ZT} (hL : LY n κ) {x74 : Nat → Int32} {x75 : Nat → Int32} {x76 : Nat → Int32} {x77 : Nat → Int32} {x78 : Nat → Int32} {x79 : Nat → Int32} {x92 : Nat → Int32} {x93 : Nat → Int32} {x94 : Nat → Int32} {x95 : Nat → Int32} {x96 : Nat → Int32} {x97 : Nat → Int32} {x101 : Nat → Int32} {x108 : Nat → Int32} {x109 : Nat → Int32} {x112 : Nat → Int32} {y99 : Nat → Int64} {y100 : Nat → Int64} (hx : ([74, 75, 76, 77, 78, 79, 92, 93, 94, 95, 96, 97, 101, 108, 109, 112] : List Nat).map X0 = [x74, x75, x76, x77, x78, x79, x92, x93, x94, x95, x96, x97, x101, x108, x109, x112]) (hy : ([99, 100] : List Nat).map Y0 = [y99, y100]) {v1 : Int32} {v2 : Int32} {v3 : Int32} {rx74 : (Nat → Int32)} {rx75 : (Nat → Int32)} {rx76 : (Nat → Int32)} {rx77 : (Nat → Int32)} {rx78 : (Nat → Int32)} {rx101 : (Nat → Int32)} {rx108 : (Nat → Int32)} {rx109 : (Nat → Int32)} {rx112 : (Nat → Int32)} {ry99 : (Nat → Int64)} {ry100 : (Nat → Int64)} (hf : fX12_laysRocks x79 x92 x93 x94 x95 x96 x97 v1 v2 v3 x74 x75 x76 x77 x78 x101 x108 x109 x112 y99 y100 = some (rx74, rx75, rx76, rx77, rx78, rx101, rx108, rx109, rx112, ry99, ry100)) : gMv l yX12_laysRocks cX12_laysRocks 5 none 8 188 0 0 b0 D [.ref (b0 + 74), .int v1, .int v2, .int v3] (n, κ, X0, Y0, Z) (n, κ, ov X0 [74, 75, 76, 77, 78, 79, 92, 93, 94, 95, 96, 97, 101, 108, 109, 112] [rx74, rx75, rx76, rx77, rx78, x79, x92, x93, x94, x95, x96, x97, rx101, rx108, rx109, rx112], ov Y0 [99, 100] [ry99, ry100], Z) := by
  have hN : ([74, 75, 76, 77, 78, 79, 92, 93, 94, 95, 96, 97, 101, 108, 109, 112] : List Nat).Nodup := by decide
  have hM : ([99, 100] : List Nat).Nodup := by decide
  refine g_metv (own := RX12) (by decide) rfl rfl (Nat.le_of_ble_eq_true rfl) ?_
  intro K hC hret
  have e := wX12_laysRocks_0 hL hN hM hC  hret hf
  rw [ov_id' hx, ov_id' hy] at e
  exact g_sub [0, 1, 2, 3] rfl e

-- X12_isRest
def fX12_isRest_2b   (x108 : Nat → Int32) (x109 : Nat → Int32)  (k2 : Int32 → Int32 → Option (Int32)) (v1 : Int32) (v2 : Int32) : Option (Int32) := if 5 ≤ v2 then (some 1) else (gd (inb ((5 * v2) + (v1 - v1 / 5 * 5)) 25) (gd (inb v1 25) (if (x108 ((5 * v2) + (v1 - v1 / 5 * 5)).toNatClampNeg) < (x108 v1.toNatClampNeg) then (some 0) else (gd (inb ((v1 - (v1 - v1 / 5 * 5)) + v2) 25) (gd (inb v1 25) (if (x109 v1.toNatClampNeg) ≤ (x109 ((v1 - (v1 - v1 / 5 * 5)) + v2).toNatClampNeg) then (bn (v2 + 1) fun t_5 => (k2 v1 t_5)) else (some 0)))))))
def fX12_isRest_2   (x108 : Nat → Int32) (x109 : Nat → Int32)  : Int32 → Int32 → Option (Int32) := lq2 (fX12_isRest_2b x108 x109 ) 5000
set_option maxHeartbeats 4000000 in
set_option maxRecDepth 100000 in
theorem wX12_isRest_2 {l : Launch} {b0 : Nat} {D : GD} {K : KT} {n : Nat} {κ : QT} {X0 : XT} {Y0 : YT} {Z : ZT} (hL : LY n κ) (hN : ([108, 109] : List Nat).Nodup) (hM : ([] : List Nat).Nodup) (hC : gC l b0 D K RX12 cX12_isRest (some FieldType.boolean) 3 0 0 0 0) {x108 : Nat → Int32} {x109 : Nat → Int32} {r : Int32} (hret : ∀ pc loc, narrow .boolean (.int r) = .int r → decode cX12_isRest pc = .ok (.ireturn, 1) → gV l b0 D K (n, κ, ov X0 [108, 109] [x108, x109], ov Y0 [] [], Z, 0, 0) pc loc [.int r]) : ∀ (j : Nat) (v1 : Int32) (v2 : Int32), lq2 (fX12_isRest_2b x108 x109 ) j v1 v2 = some r → gV l b0 D K (n, κ, ov X0 [108, 109] [x108, x109], ov Y0 [] [], Z, 0, 0) 2 [(0, .ref (b0 + 74)), (1, .int v1), (2, .int v2)] [] := by
  intro j
  induction j with
  | zero => intro v1 v2 hf; cases hf
  | succ j hk2 =>
    intro v1 v2 hf
    replace hf : fX12_isRest_2b x108 x109  (lq2 (fX12_isRest_2b x108 x109 ) j) v1 v2 = some r := hf
    unfold fX12_isRest_2b at hf
    refine g_iload_n hC 2 dX12_isRest_2 rfl rfl ?_
    refine g_iconst hC (v := 5) dX12_isRest_3 ic_5 ?_
    refine g_icmp_ge hC 57 dX12_isRest_4 (by decide) (fun hc => ?_) (fun hc => ?_)
    · replace hf := ifT hf hc
      refine g_iconst hC (v := 1) dX12_isRest_57 ic_1 ?_
      obtain rfl := sm1E hf
      exact hret _ _ rfl dX12_isRest_58
    · replace hf := ifF hf hc
      refine g_aload_n hC 0 dX12_isRest_7 rfl rfl ?_
      refine gt_X12_121 hC (a := 74) (kk_74 hL) (kn_74 hL) dX12_isRest_8 ?_
      refine g_ref (b := 108) rfl ?_
      refine g_iconst hC (v := 5) dX12_isRest_11 ic_5 ?_
      refine g_iload_n hC 2 dX12_isRest_12 rfl rfl ?_
      refine g_imul hC dX12_isRest_13 ?_
      refine g_iload_n hC 1 dX12_isRest_14 rfl rfl ?_
      refine g_iconst hC (v := 5) dX12_isRest_15 ic_5 ?_
      refine g_irem hC dX12_isRest_16 (by decide) ?_
      refine g_iadd hC dX12_isRest_17 ?_
      obtain ⟨h_1, hf⟩ := gdE hf
      refine g_iald hC (x := x108) (kk_108 hL) (kn_108 hL) (ov_get hN 0 rfl rfl) (inb_in h_1) dX12_isRest_18 ?_
      refine g_aload_n hC 0 dX12_isRest_19 rfl rfl ?_
      refine gt_X12_121 hC (a := 74) (kk_74 hL) (kn_74 hL) dX12_isRest_20 ?_
      refine g_ref (b := 108) rfl ?_
      refine g_iload_n hC 1 dX12_isRest_23 rfl rfl ?_
      obtain ⟨h_2, hf⟩ := gdE hf
      refine g_iald hC (x := x108) (kk_108 hL) (kn_108 hL) (ov_get hN 0 rfl rfl) (inb_in h_2) dX12_isRest_24 ?_
      refine g_icmp_lt hC 49 dX12_isRest_25 (by decide) (fun hc => ?_) (fun hc => ?_)
      · replace hf := ifT hf hc
        refine g_iconst hC (v := 0) dX12_isRest_49 ic_0 ?_
        obtain rfl := sm1E hf
        exact hret _ _ rfl dX12_isRest_50
      · replace hf := ifF hf hc
        refine g_aload_n hC 0 dX12_isRest_28 rfl rfl ?_
        refine gt_X12_124 hC (a := 74) (kk_74 hL) (kn_74 hL) dX12_isRest_29 ?_
        refine g_ref (b := 109) rfl ?_
        refine g_iload_n hC 1 dX12_isRest_32 rfl rfl ?_
        refine g_iload_n hC 1 dX12_isRest_33 rfl rfl ?_
        refine g_iconst hC (v := 5) dX12_isRest_34 ic_5 ?_
        refine g_irem hC dX12_isRest_35 (by decide) ?_
        refine g_isub hC dX12_isRest_36 ?_
        refine g_iload_n hC 2 dX12_isRest_37 rfl rfl ?_
        refine g_iadd hC dX12_isRest_38 ?_
        obtain ⟨h_3, hf⟩ := gdE hf
        refine g_iald hC (x := x109) (kk_109 hL) (kn_109 hL) (ov_get hN 1 rfl rfl) (inb_in h_3) dX12_isRest_39 ?_
        refine g_aload_n hC 0 dX12_isRest_40 rfl rfl ?_
        refine gt_X12_124 hC (a := 74) (kk_74 hL) (kn_74 hL) dX12_isRest_41 ?_
        refine g_ref (b := 109) rfl ?_
        refine g_iload_n hC 1 dX12_isRest_44 rfl rfl ?_
        obtain ⟨h_4, hf⟩ := gdE hf
        refine g_iald hC (x := x109) (kk_109 hL) (kn_109 hL) (ov_get hN 1 rfl rfl) (inb_in h_4) dX12_isRest_45 ?_
        refine g_icmp_ge hC 51 dX12_isRest_46 (by decide) (fun hc => ?_) (fun hc => ?_)
        · replace hf := ifT hf hc
          obtain ⟨t_5, et_5, hf⟩ := bnE hf
          refine g_iinc hC (i := 2) (v := t_5) [(2, .int t_5), (0, .ref (b0 + 74)), (1, .int v1)] dX12_isRest_51 (q := 2) rfl ((congrArg (HAdd.hAdd v2) ic_1).trans et_5.symm) (by decide) rfl ?_
          refine g_goto hC 2 dX12_isRest_54 (by decide) ?_
          exact g_sub [1, 2, 0] rfl (hk2 v1 t_5 hf)
        · replace hf := ifF hf hc
          refine g_iconst hC (v := 0) dX12_isRest_49 ic_0 ?_
          obtain rfl := sm1E hf
          exact hret _ _ rfl dX12_isRest_50

def fX12_isRest_0   (x108 : Nat → Int32) (x109 : Nat → Int32)  (v1 : Int32) : Option (Int32) := fX12_isRest_2 x108 x109  v1 0
set_option maxHeartbeats 4000000 in
set_option maxRecDepth 100000 in
theorem wX12_isRest_0 {l : Launch} {b0 : Nat} {D : GD} {K : KT} {n : Nat} {κ : QT} {X0 : XT} {Y0 : YT} {Z : ZT} (hL : LY n κ) (hN : ([108, 109] : List Nat).Nodup) (hM : ([] : List Nat).Nodup) (hC : gC l b0 D K RX12 cX12_isRest (some FieldType.boolean) 3 0 0 0 0) {x108 : Nat → Int32} {x109 : Nat → Int32} {r : Int32} (hret : ∀ pc loc, narrow .boolean (.int r) = .int r → decode cX12_isRest pc = .ok (.ireturn, 1) → gV l b0 D K (n, κ, ov X0 [108, 109] [x108, x109], ov Y0 [] [], Z, 0, 0) pc loc [.int r]) {v1 : Int32} (hf : fX12_isRest_0 x108 x109  v1 = some r) : gV l b0 D K (n, κ, ov X0 [108, 109] [x108, x109], ov Y0 [] [], Z, 0, 0) 0 [(0, .ref (b0 + 74)), (1, .int v1)] [] := by
  unfold fX12_isRest_0 at hf
  refine g_iconst hC (v := 0) dX12_isRest_0 ic_0 ?_
  refine g_istore_n hC (i := 2) [(2, .int 0), (0, .ref (b0 + 74)), (1, .int v1)] rfl dX12_isRest_1 (by decide) rfl ?_
  exact g_sub [1, 2, 0] rfl (wX12_isRest_2 hL hN hM hC  hret  5000 v1 0 hf)

def fX12_isRest   (x108 : Nat → Int32) (x109 : Nat → Int32)  (v1 : Int32)   : Option (Int32) := fX12_isRest_0 x108 x109 v1

set_option maxHeartbeats 4000000 in
set_option maxRecDepth 100000 in
theorem c_X12_isRest (l : Launch) {b0 : Nat} {D : GD} {n : Nat} {κ : QT} {X0 : XT} {Y0 : YT} {Z : ZT} (hL : LY n κ) {x108 : Nat → Int32} {x109 : Nat → Int32} (hx : ([108, 109] : List Nat).map X0 = [x108, x109]) (hy : ([] : List Nat).map Y0 = []) {v1 : Int32} {r : Int32} (hf : fX12_isRest x108 x109 v1 = some r) : gMi l yX12_isRest cX12_isRest 3 (some FieldType.boolean) 0 0 0 0 b0 D [.ref (b0 + 74), .int v1] (n, κ, X0, Y0, Z) (n, κ, ov X0 [108, 109] [x108, x109], ov Y0 [] [], Z) r := by
  have hN : ([108, 109] : List Nat).Nodup := by decide
  have hM : ([] : List Nat).Nodup := by decide
  refine g_meti (own := RX12) (by decide) rfl rfl (Nat.le_of_ble_eq_true rfl) ?_
  intro K hC hret
  have e := wX12_isRest_0 hL hN hM hC  hret hf
  rw [ov_id' hx, ov_id' hy] at e
  exact g_sub [0, 1] rfl e


-- X12_wordOf
def fX12_wordOf_0     (v0 : Int32) : Option (Nat) := if v0.toInt = 0 then (some 0) else (if v0.toInt = 1 then (some 1) else (if v0.toInt = 2 then (some 2) else (if v0.toInt = 3 then (some 3) else (if v0.toInt = 4 then (some 4) else (if v0.toInt = 5 then (some 5) else (if v0.toInt = 6 then (some 6) else (if v0.toInt = 7 then (some 7) else (if v0.toInt = 8 then (some 8) else (if v0.toInt = 9 then (some 9) else (if v0.toInt = 10 then (some 10) else (some 11)))))))))))
set_option maxHeartbeats 4000000 in
set_option maxRecDepth 100000 in
theorem wX12_wordOf_0 {l : Launch} {b0 : Nat} {D : GD} {K : KT} {n : Nat} {κ : QT} {X0 : XT} {Y0 : YT} {Z : ZT} (hL : LY n κ) (hN : ([] : List Nat).Nodup) (hM : ([] : List Nat).Nodup) (hC : gC l b0 D K RX12 cX12_wordOf (some (FieldType.object "java/lang/String")) 1 0 0 0 0) {r : Nat} (hret : ∀ pc loc, decode cX12_wordOf pc = .ok (.areturn, 1) → gV l b0 D K (n, κ, ov X0 [] [], ov Y0 [] [], Z, 0, 0) pc loc [.ref (D.2 (100 + r))]) {v0 : Int32} (hf : fX12_wordOf_0   v0 = some r) : gV l b0 D K (n, κ, ov X0 [] [], ov Y0 [] [], Z, 0, 0) 0 [(0, .int v0)] [] := by
  unfold fX12_wordOf_0 at hf
  refine g_iload_n hC 0 dX12_wordOf_0 rfl rfl ?_
  by_cases c_1 : v0.toInt = 0
  · replace hf := ifT hf c_1
    refine g_tabIn hC 60 dX12_wordOf_1 (by omega) (by omega) (by rw [c_1]; rfl) (by decide) ?_
    refine g_ldcS hC (i := 0) (List.mem_of_getElem? (i := 26) rfl) dX12_wordOf_60 ?_
    obtain rfl := sm1E hf
    exact hret _ _ dX12_wordOf_62
  replace hf := ifF hf c_1
  by_cases c_2 : v0.toInt = 1
  · replace hf := ifT hf c_2
    refine g_tabIn hC 63 dX12_wordOf_1 (by omega) (by omega) (by rw [c_2]; rfl) (by decide) ?_
    refine g_ldcS hC (i := 1) (List.mem_of_getElem? (i := 27) rfl) dX12_wordOf_63 ?_
    obtain rfl := sm1E hf
    exact hret _ _ dX12_wordOf_65
  replace hf := ifF hf c_2
  by_cases c_3 : v0.toInt = 2
  · replace hf := ifT hf c_3
    refine g_tabIn hC 66 dX12_wordOf_1 (by omega) (by omega) (by rw [c_3]; rfl) (by decide) ?_
    refine g_ldcS hC (i := 2) (List.mem_of_getElem? (i := 28) rfl) dX12_wordOf_66 ?_
    obtain rfl := sm1E hf
    exact hret _ _ dX12_wordOf_68
  replace hf := ifF hf c_3
  by_cases c_4 : v0.toInt = 3
  · replace hf := ifT hf c_4
    refine g_tabIn hC 69 dX12_wordOf_1 (by omega) (by omega) (by rw [c_4]; rfl) (by decide) ?_
    refine g_ldcS hC (i := 3) (List.mem_of_getElem? (i := 29) rfl) dX12_wordOf_69 ?_
    obtain rfl := sm1E hf
    exact hret _ _ dX12_wordOf_71
  replace hf := ifF hf c_4
  by_cases c_5 : v0.toInt = 4
  · replace hf := ifT hf c_5
    refine g_tabIn hC 72 dX12_wordOf_1 (by omega) (by omega) (by rw [c_5]; rfl) (by decide) ?_
    refine g_ldcS hC (i := 4) (List.mem_of_getElem? (i := 30) rfl) dX12_wordOf_72 ?_
    obtain rfl := sm1E hf
    exact hret _ _ dX12_wordOf_74
  replace hf := ifF hf c_5
  by_cases c_6 : v0.toInt = 5
  · replace hf := ifT hf c_6
    refine g_tabIn hC 75 dX12_wordOf_1 (by omega) (by omega) (by rw [c_6]; rfl) (by decide) ?_
    refine g_ldcS hC (i := 5) (List.mem_of_getElem? (i := 31) rfl) dX12_wordOf_75 ?_
    obtain rfl := sm1E hf
    exact hret _ _ dX12_wordOf_77
  replace hf := ifF hf c_6
  by_cases c_7 : v0.toInt = 6
  · replace hf := ifT hf c_7
    refine g_tabIn hC 78 dX12_wordOf_1 (by omega) (by omega) (by rw [c_7]; rfl) (by decide) ?_
    refine g_ldcS hC (i := 6) (List.mem_of_getElem? (i := 24) rfl) dX12_wordOf_78 ?_
    obtain rfl := sm1E hf
    exact hret _ _ dX12_wordOf_80
  replace hf := ifF hf c_7
  by_cases c_8 : v0.toInt = 7
  · replace hf := ifT hf c_8
    refine g_tabIn hC 81 dX12_wordOf_1 (by omega) (by omega) (by rw [c_8]; rfl) (by decide) ?_
    refine g_ldcS hC (i := 7) (List.mem_of_getElem? (i := 32) rfl) dX12_wordOf_81 ?_
    obtain rfl := sm1E hf
    exact hret _ _ dX12_wordOf_83
  replace hf := ifF hf c_8
  by_cases c_9 : v0.toInt = 8
  · replace hf := ifT hf c_9
    refine g_tabIn hC 84 dX12_wordOf_1 (by omega) (by omega) (by rw [c_9]; rfl) (by decide) ?_
    refine g_ldcS hC (i := 8) (List.mem_of_getElem? (i := 21) rfl) dX12_wordOf_84 ?_
    obtain rfl := sm1E hf
    exact hret _ _ dX12_wordOf_86
  replace hf := ifF hf c_9
  by_cases c_10 : v0.toInt = 9
  · replace hf := ifT hf c_10
    refine g_tabIn hC 87 dX12_wordOf_1 (by omega) (by omega) (by rw [c_10]; rfl) (by decide) ?_
    refine g_ldcS hC (i := 9) (List.mem_of_getElem? (i := 33) rfl) dX12_wordOf_87 ?_
    obtain rfl := sm1E hf
    exact hret _ _ dX12_wordOf_89
  replace hf := ifF hf c_10
  by_cases c_11 : v0.toInt = 10
  · replace hf := ifT hf c_11
    refine g_tabIn hC 90 dX12_wordOf_1 (by omega) (by omega) (by rw [c_11]; rfl) (by decide) ?_
    refine g_ldcS hC (i := 10) (List.mem_of_getElem? (i := 34) rfl) dX12_wordOf_90 ?_
    obtain rfl := sm1E hf
    exact hret _ _ dX12_wordOf_92
  replace hf := ifF hf c_11
  refine g_tabOut hC 93 dX12_wordOf_1 (by omega) (by decide) ?_
  refine g_ldcS hC (i := 11) (List.mem_of_getElem? (i := 35) rfl) dX12_wordOf_93 ?_
  obtain rfl := sm1E hf
  exact hret _ _ dX12_wordOf_95

def fX12_wordOf     (v0 : Int32)   : Option (Nat) := fX12_wordOf_0  v0

set_option maxHeartbeats 4000000 in
set_option maxRecDepth 100000 in
theorem c_X12_wordOf (l : Launch) {b0 : Nat} {D : GD} {n : Nat} {κ : QT} {X0 : XT} {Y0 : YT} {Z : ZT} (hL : LY n κ) (hx : ([] : List Nat).map X0 = []) (hy : ([] : List Nat).map Y0 = []) {v0 : Int32} {r : Nat} (hf : fX12_wordOf  v0 = some r) : gMs l yX12_wordOf cX12_wordOf 1 (some (FieldType.object "java/lang/String")) 0 0 0 0 b0 D [.int v0] (n, κ, X0, Y0, Z) (n, κ, ov X0 [] [], ov Y0 [] [], Z) r := by
  have hN : ([] : List Nat).Nodup := by decide
  have hM : ([] : List Nat).Nodup := by decide
  refine g_mets (own := RX12) (by decide) rfl rfl (Nat.le_of_ble_eq_true rfl) ?_
  intro K hC hret
  have e := wX12_wordOf_0 hL hN hM hC  hret hf
  rw [ov_id' hx, ov_id' hy] at e
  exact g_sub [0] rfl e

-- X12_isWordAt
def fX12_isWordAt_102  (w1 : Nat) (x74 : Nat → Int32) (x91 : Nat → Int32)  (k63 : Int32 → Int32 → Option (Int32)) (v4 : Int32) (s0 : Int32) : Option (Int32) := bn (v4 + 1) fun t_1 => (k63 s0 t_1)
set_option maxHeartbeats 4000000 in
set_option maxRecDepth 100000 in
theorem wX12_isWordAt_102 {l : Launch} {b0 : Nat} {D : GD} {K : KT} {n : Nat} {κ : QT} {X0 : XT} {Y0 : YT} {Z : ZT} {w1 : Nat} (hL : LY n κ) (hs_w1 : w1 < nStr) (hN : ([74, 91] : List Nat).Nodup) (hM : ([] : List Nat).Nodup) (hC : gC l b0 D K RX12 cX12_isWordAt (some FieldType.boolean) 5 4 85 0 0) {x74 : Nat → Int32} {x91 : Nat → Int32} {r : Int32} (hret : ∀ pc loc, narrow .boolean (.int r) = .int r → decode cX12_isWordAt pc = .ok (.ireturn, 1) → gV l b0 D K (n, κ, ov X0 [74, 91] [x74, x91], ov Y0 [] [], Z, 0, 0) pc loc [.int r]) {k63 : Int32 → Int32 → Option (Int32)} (hk63 : ∀ (v3 : Int32) (v4 : Int32), k63 v3 v4 = some r → gV l b0 D K (n, κ, ov X0 [74, 91] [x74, x91], ov Y0 [] [], Z, 0, 0) 63 [(0, .ref (b0 + 74)), (1, .ref (D.2 (100 + w1))), (3, .int v3), (4, .int v4)] []) {v4 : Int32} {s0 : Int32} (hf : fX12_isWordAt_102 w1 x74 x91 k63 v4 s0 = some r) : gV l b0 D K (n, κ, ov X0 [74, 91] [x74, x91], ov Y0 [] [], Z, 0, 0) 102 [(0, .ref (b0 + 74)), (1, .ref (D.2 (100 + w1))), (4, .int v4)] [.int s0] := by
  unfold fX12_isWordAt_102 at hf
  refine g_istore_n hC (i := 3) [(3, .int s0), (0, .ref (b0 + 74)), (1, .ref (D.2 (100 + w1))), (4, .int v4)] rfl dX12_isWordAt_102 (by decide) rfl ?_
  obtain ⟨t_1, et_1, hf⟩ := bnE hf
  refine g_iinc hC (i := 4) (v := t_1) [(4, .int t_1), (3, .int s0), (0, .ref (b0 + 74)), (1, .ref (D.2 (100 + w1)))] dX12_isWordAt_103 (q := 3) rfl ((congrArg (HAdd.hAdd v4) ic_1).trans et_1.symm) (by decide) rfl ?_
  refine g_goto hC 63 dX12_isWordAt_106 (by decide) ?_
  exact g_sub [2, 3, 1, 0] rfl (hk63 s0 t_1 hf)

def fX12_isWordAt_63b  (w1 : Nat) (x74 : Nat → Int32) (x91 : Nat → Int32)  (k63 : Int32 → Int32 → Option (Int32)) (v3 : Int32) (v4 : Int32) : Option (Int32) := if (slen w1) ≤ v4 then (gd (bz v3) (some v3)) else (if v3 = 0 then (gd (bz v3) (some v3)) else (gd (inb ((x74 18) + v4) 400) (gd (inb v4 (lenS.getD w1 0)) (if (x91 ((x74 18) + v4).toNatClampNeg) = (sch w1 v4) then (fX12_isWordAt_102 w1 x74 x91 k63 v4 1) else (fX12_isWordAt_102 w1 x74 x91 k63 v4 0)))))
def fX12_isWordAt_63  (w1 : Nat) (x74 : Nat → Int32) (x91 : Nat → Int32)  : Int32 → Int32 → Option (Int32) := lq2 (fX12_isWordAt_63b w1 x74 x91 ) 5000
set_option maxHeartbeats 4000000 in
set_option maxRecDepth 100000 in
theorem wX12_isWordAt_63 {l : Launch} {b0 : Nat} {D : GD} {K : KT} {n : Nat} {κ : QT} {X0 : XT} {Y0 : YT} {Z : ZT} {w1 : Nat} (hL : LY n κ) (hs_w1 : w1 < nStr) (hN : ([74, 91] : List Nat).Nodup) (hM : ([] : List Nat).Nodup) (hC : gC l b0 D K RX12 cX12_isWordAt (some FieldType.boolean) 5 4 85 0 0) {x74 : Nat → Int32} {x91 : Nat → Int32} {r : Int32} (hret : ∀ pc loc, narrow .boolean (.int r) = .int r → decode cX12_isWordAt pc = .ok (.ireturn, 1) → gV l b0 D K (n, κ, ov X0 [74, 91] [x74, x91], ov Y0 [] [], Z, 0, 0) pc loc [.int r]) : ∀ (j : Nat) (v3 : Int32) (v4 : Int32), lq2 (fX12_isWordAt_63b w1 x74 x91 ) j v3 v4 = some r → gV l b0 D K (n, κ, ov X0 [74, 91] [x74, x91], ov Y0 [] [], Z, 0, 0) 63 [(0, .ref (b0 + 74)), (1, .ref (D.2 (100 + w1))), (3, .int v3), (4, .int v4)] [] := by
  intro j
  induction j with
  | zero => intro v3 v4 hf; cases hf
  | succ j hk63 =>
    intro v3 v4 hf
    replace hf : fX12_isWordAt_63b w1 x74 x91  (lq2 (fX12_isWordAt_63b w1 x74 x91 ) j) v3 v4 = some r := hf
    unfold fX12_isWordAt_63b at hf
    refine g_iload hC 3 dX12_isWordAt_63 rfl ?_
    refine g_aload_n hC 1 dX12_isWordAt_65 rfl rfl ?_
    refine g_callT_i hC hs_w1 (c_strlen l hs_w1) tw_583 tw_1397 tw_129 tw_581 tw_582 pd_J0_length_8abf5 (by decide) (by decide) (Nat.le_of_ble_eq_true rfl) rfl dX12_isWordAt_66 ?_
    refine g_icmp_ge hC 109 dX12_isWordAt_69 (by decide) (fun hc => ?_) (fun hc => ?_)
    · replace hf := ifT hf hc
      refine g_iload_n hC 2 dX12_isWordAt_109 rfl rfl ?_
      obtain ⟨h_1, hf⟩ := gdE hf
      obtain rfl := sm1E hf
      exact hret _ _ (bz_nar h_1) dX12_isWordAt_110
    · replace hf := ifF hf hc
      refine g_iload_n hC 2 dX12_isWordAt_72 rfl rfl ?_
      refine g_if_eq hC 109 dX12_isWordAt_73 (by decide) (fun hc => ?_) (fun hc => ?_)
      · replace hf := ifT hf hc
        refine g_iload_n hC 2 dX12_isWordAt_109 rfl rfl ?_
        obtain ⟨h_2, hf⟩ := gdE hf
        obtain rfl := sm1E hf
        exact hret _ _ (bz_nar h_2) dX12_isWordAt_110
      · replace hf := ifF hf hc
        refine g_aload_n hC 0 dX12_isWordAt_76 rfl rfl ?_
        refine gt_X12_62 hC (a := 74) (kk_74 hL) (kn_74 hL) dX12_isWordAt_77 ?_
        refine g_ref (b := 91) rfl ?_
        refine g_aload_n hC 0 dX12_isWordAt_80 rfl rfl ?_
        refine gt_X12_183 hC (x := x74) (kk_74 hL) (kn_74 hL) (ov_get hN 0 rfl rfl) dX12_isWordAt_81 ?_
        refine g_iload hC 3 dX12_isWordAt_84 rfl ?_
        refine g_iadd hC dX12_isWordAt_86 ?_
        obtain ⟨h_3, hf⟩ := gdE hf
        refine g_bald hC (x := x91) (kk_91 hL) (kn_91 hL) (ov_get hN 1 rfl rfl) (inb_in h_3) dX12_isWordAt_87 ?_
        refine g_aload_n hC 1 dX12_isWordAt_88 rfl rfl ?_
        refine g_iload hC 3 dX12_isWordAt_89 rfl ?_
        obtain ⟨h_4, hf⟩ := gdE hf
        refine g_callT_i hC hs_w1 (As := [.int v4]) (c_strchr l hs_w1 (inb_0 h_4) (inb_s hs_w1 h_4) (inb_in h_4)) tw_593 tw_1398 tw_129 tw_591 tw_592 pd_J0_charAt_5068e (by decide) (by decide) (Nat.le_of_ble_eq_true rfl) rfl dX12_isWordAt_91 ?_
        refine g_icmp_ne hC 101 dX12_isWordAt_94 (by decide) (fun hc => ?_) (fun hc => ?_)
        · replace hf := ifF hf hc
          refine g_iconst hC (v := 0) dX12_isWordAt_101 ic_0 ?_
          exact g_sub [0, 1, 3] rfl (wX12_isWordAt_102 hL hs_w1 hN hM hC  hret hk63 hf)
        · replace hf := ifT hf hc
          refine g_iconst hC (v := 1) dX12_isWordAt_97 ic_1 ?_
          refine g_goto hC 102 dX12_isWordAt_98 (by decide) ?_
          exact g_sub [0, 1, 3] rfl (wX12_isWordAt_102 hL hs_w1 hN hM hC  hret hk63 hf)

def fX12_isWordAt_59  (w1 : Nat) (x74 : Nat → Int32) (x91 : Nat → Int32)  (s0 : Int32) : Option (Int32) := fX12_isWordAt_63 w1 x74 x91  s0 0
set_option maxHeartbeats 4000000 in
set_option maxRecDepth 100000 in
theorem wX12_isWordAt_59 {l : Launch} {b0 : Nat} {D : GD} {K : KT} {n : Nat} {κ : QT} {X0 : XT} {Y0 : YT} {Z : ZT} {w1 : Nat} (hL : LY n κ) (hs_w1 : w1 < nStr) (hN : ([74, 91] : List Nat).Nodup) (hM : ([] : List Nat).Nodup) (hC : gC l b0 D K RX12 cX12_isWordAt (some FieldType.boolean) 5 4 85 0 0) {x74 : Nat → Int32} {x91 : Nat → Int32} {r : Int32} (hret : ∀ pc loc, narrow .boolean (.int r) = .int r → decode cX12_isWordAt pc = .ok (.ireturn, 1) → gV l b0 D K (n, κ, ov X0 [74, 91] [x74, x91], ov Y0 [] [], Z, 0, 0) pc loc [.int r]) {s0 : Int32} (hf : fX12_isWordAt_59 w1 x74 x91  s0 = some r) : gV l b0 D K (n, κ, ov X0 [74, 91] [x74, x91], ov Y0 [] [], Z, 0, 0) 59 [(0, .ref (b0 + 74)), (1, .ref (D.2 (100 + w1)))] [.int s0] := by
  unfold fX12_isWordAt_59 at hf
  refine g_istore_n hC (i := 3) [(3, .int s0), (0, .ref (b0 + 74)), (1, .ref (D.2 (100 + w1)))] rfl dX12_isWordAt_59 (by decide) rfl ?_
  refine g_iconst hC (v := 0) dX12_isWordAt_60 ic_0 ?_
  refine g_istore hC (i := 4) [(4, .int 0), (3, .int s0), (0, .ref (b0 + 74)), (1, .ref (D.2 (100 + w1)))] dX12_isWordAt_61 (by decide) rfl ?_
  exact g_sub [2, 3, 1, 0] rfl (wX12_isWordAt_63 hL hs_w1 hN hM hC  hret  5000 s0 0 hf)

def fX12_isWordAt_41  (w1 : Nat) (x74 : Nat → Int32) (x91 : Nat → Int32)  (v2 : Int32) : Option (Int32) := if (v2 - (x74 18)) = (slen w1) then (fX12_isWordAt_59 w1 x74 x91  1) else (fX12_isWordAt_59 w1 x74 x91  0)
set_option maxHeartbeats 4000000 in
set_option maxRecDepth 100000 in
theorem wX12_isWordAt_41 {l : Launch} {b0 : Nat} {D : GD} {K : KT} {n : Nat} {κ : QT} {X0 : XT} {Y0 : YT} {Z : ZT} {w1 : Nat} (hL : LY n κ) (hs_w1 : w1 < nStr) (hN : ([74, 91] : List Nat).Nodup) (hM : ([] : List Nat).Nodup) (hC : gC l b0 D K RX12 cX12_isWordAt (some FieldType.boolean) 5 4 85 0 0) {x74 : Nat → Int32} {x91 : Nat → Int32} {r : Int32} (hret : ∀ pc loc, narrow .boolean (.int r) = .int r → decode cX12_isWordAt pc = .ok (.ireturn, 1) → gV l b0 D K (n, κ, ov X0 [74, 91] [x74, x91], ov Y0 [] [], Z, 0, 0) pc loc [.int r]) {v2 : Int32} (hf : fX12_isWordAt_41 w1 x74 x91  v2 = some r) : gV l b0 D K (n, κ, ov X0 [74, 91] [x74, x91], ov Y0 [] [], Z, 0, 0) 41 [(0, .ref (b0 + 74)), (1, .ref (D.2 (100 + w1))), (2, .int v2)] [] := by
  unfold fX12_isWordAt_41 at hf
  refine g_iload_n hC 2 dX12_isWordAt_41 rfl rfl ?_
  refine g_aload_n hC 0 dX12_isWordAt_42 rfl rfl ?_
  refine gt_X12_183 hC (x := x74) (kk_74 hL) (kn_74 hL) (ov_get hN 0 rfl rfl) dX12_isWordAt_43 ?_
  refine g_isub hC dX12_isWordAt_46 ?_
  refine g_aload_n hC 1 dX12_isWordAt_47 rfl rfl ?_
  refine g_callT_i hC hs_w1 (c_strlen l hs_w1) tw_583 tw_1397 tw_129 tw_581 tw_582 pd_J0_length_8abf5 (by decide) (by decide) (Nat.le_of_ble_eq_true rfl) rfl dX12_isWordAt_48 ?_
  refine g_icmp_ne hC 58 dX12_isWordAt_51 (by decide) (fun hc => ?_) (fun hc => ?_)
  · replace hf := ifF hf hc
    refine g_iconst hC (v := 0) dX12_isWordAt_58 ic_0 ?_
    exact g_sub [0, 1] rfl (wX12_isWordAt_59 hL hs_w1 hN hM hC  hret  hf)
  · replace hf := ifT hf hc
    refine g_iconst hC (v := 1) dX12_isWordAt_54 ic_1 ?_
    refine g_goto hC 59 dX12_isWordAt_55 (by decide) ?_
    exact g_sub [0, 1] rfl (wX12_isWordAt_59 hL hs_w1 hN hM hC  hret  hf)

def fX12_isWordAt_5b  (w1 : Nat) (x74 : Nat → Int32) (x91 : Nat → Int32)  (k5 : Int32 → Option (Int32)) (v2 : Int32) : Option (Int32) := if (x74 17) ≤ v2 then (fX12_isWordAt_41 w1 x74 x91  v2) else (gd (inb v2 400) (if (x91 v2.toNatClampNeg) < 97 then (fX12_isWordAt_41 w1 x74 x91  v2) else (gd (inb v2 400) (if 122 < (x91 v2.toNatClampNeg) then (fX12_isWordAt_41 w1 x74 x91  v2) else (bn (v2 + 1) fun t_3 => (k5 t_3))))))
def fX12_isWordAt_5  (w1 : Nat) (x74 : Nat → Int32) (x91 : Nat → Int32)  : Int32 → Option (Int32) := lq1 (fX12_isWordAt_5b w1 x74 x91 ) 5000
set_option maxHeartbeats 4000000 in
set_option maxRecDepth 100000 in
theorem wX12_isWordAt_5 {l : Launch} {b0 : Nat} {D : GD} {K : KT} {n : Nat} {κ : QT} {X0 : XT} {Y0 : YT} {Z : ZT} {w1 : Nat} (hL : LY n κ) (hs_w1 : w1 < nStr) (hN : ([74, 91] : List Nat).Nodup) (hM : ([] : List Nat).Nodup) (hC : gC l b0 D K RX12 cX12_isWordAt (some FieldType.boolean) 5 4 85 0 0) {x74 : Nat → Int32} {x91 : Nat → Int32} {r : Int32} (hret : ∀ pc loc, narrow .boolean (.int r) = .int r → decode cX12_isWordAt pc = .ok (.ireturn, 1) → gV l b0 D K (n, κ, ov X0 [74, 91] [x74, x91], ov Y0 [] [], Z, 0, 0) pc loc [.int r]) : ∀ (j : Nat) (v2 : Int32), lq1 (fX12_isWordAt_5b w1 x74 x91 ) j v2 = some r → gV l b0 D K (n, κ, ov X0 [74, 91] [x74, x91], ov Y0 [] [], Z, 0, 0) 5 [(0, .ref (b0 + 74)), (1, .ref (D.2 (100 + w1))), (2, .int v2)] [] := by
  intro j
  induction j with
  | zero => intro v2 hf; cases hf
  | succ j hk5 =>
    intro v2 hf
    replace hf : fX12_isWordAt_5b w1 x74 x91  (lq1 (fX12_isWordAt_5b w1 x74 x91 ) j) v2 = some r := hf
    unfold fX12_isWordAt_5b at hf
    refine g_iload_n hC 2 dX12_isWordAt_5 rfl rfl ?_
    refine g_aload_n hC 0 dX12_isWordAt_6 rfl rfl ?_
    refine gt_X12_151 hC (x := x74) (kk_74 hL) (kn_74 hL) (ov_get hN 0 rfl rfl) dX12_isWordAt_7 ?_
    refine g_icmp_ge hC 41 dX12_isWordAt_10 (by decide) (fun hc => ?_) (fun hc => ?_)
    · replace hf := ifT hf hc
      exact g_sub [0, 1, 2] rfl (wX12_isWordAt_41 hL hs_w1 hN hM hC  hret  hf)
    · replace hf := ifF hf hc
      refine g_aload_n hC 0 dX12_isWordAt_13 rfl rfl ?_
      refine gt_X12_62 hC (a := 74) (kk_74 hL) (kn_74 hL) dX12_isWordAt_14 ?_
      refine g_ref (b := 91) rfl ?_
      refine g_iload_n hC 2 dX12_isWordAt_17 rfl rfl ?_
      obtain ⟨h_1, hf⟩ := gdE hf
      refine g_bald hC (x := x91) (kk_91 hL) (kn_91 hL) (ov_get hN 1 rfl rfl) (inb_in h_1) dX12_isWordAt_18 ?_
      refine g_bipush hC (v := 97) dX12_isWordAt_19 bp_97 ?_
      refine g_icmp_lt hC 41 dX12_isWordAt_21 (by decide) (fun hc => ?_) (fun hc => ?_)
      · replace hf := ifT hf hc
        exact g_sub [0, 1, 2] rfl (wX12_isWordAt_41 hL hs_w1 hN hM hC  hret  hf)
      · replace hf := ifF hf hc
        refine g_aload_n hC 0 dX12_isWordAt_24 rfl rfl ?_
        refine gt_X12_62 hC (a := 74) (kk_74 hL) (kn_74 hL) dX12_isWordAt_25 ?_
        refine g_ref (b := 91) rfl ?_
        refine g_iload_n hC 2 dX12_isWordAt_28 rfl rfl ?_
        obtain ⟨h_2, hf⟩ := gdE hf
        refine g_bald hC (x := x91) (kk_91 hL) (kn_91 hL) (ov_get hN 1 rfl rfl) (inb_in h_2) dX12_isWordAt_29 ?_
        refine g_bipush hC (v := 122) dX12_isWordAt_30 bp_122 ?_
        refine g_icmp_gt hC 41 dX12_isWordAt_32 (by decide) (fun hc => ?_) (fun hc => ?_)
        · replace hf := ifT hf hc
          exact g_sub [0, 1, 2] rfl (wX12_isWordAt_41 hL hs_w1 hN hM hC  hret  hf)
        · replace hf := ifF hf hc
          obtain ⟨t_3, et_3, hf⟩ := bnE hf
          refine g_iinc hC (i := 2) (v := t_3) [(2, .int t_3), (0, .ref (b0 + 74)), (1, .ref (D.2 (100 + w1)))] dX12_isWordAt_35 (q := 2) rfl ((congrArg (HAdd.hAdd v2) ic_1).trans et_3.symm) (by decide) rfl ?_
          refine g_goto hC 5 dX12_isWordAt_38 (by decide) ?_
          exact g_sub [1, 2, 0] rfl (hk5 t_3 hf)

def fX12_isWordAt_0  (w1 : Nat) (x74 : Nat → Int32) (x91 : Nat → Int32)   : Option (Int32) := bn (x74 18) fun t_1 => (fX12_isWordAt_5 w1 x74 x91  t_1)
set_option maxHeartbeats 4000000 in
set_option maxRecDepth 100000 in
theorem wX12_isWordAt_0 {l : Launch} {b0 : Nat} {D : GD} {K : KT} {n : Nat} {κ : QT} {X0 : XT} {Y0 : YT} {Z : ZT} {w1 : Nat} (hL : LY n κ) (hs_w1 : w1 < nStr) (hN : ([74, 91] : List Nat).Nodup) (hM : ([] : List Nat).Nodup) (hC : gC l b0 D K RX12 cX12_isWordAt (some FieldType.boolean) 5 4 85 0 0) {x74 : Nat → Int32} {x91 : Nat → Int32} {r : Int32} (hret : ∀ pc loc, narrow .boolean (.int r) = .int r → decode cX12_isWordAt pc = .ok (.ireturn, 1) → gV l b0 D K (n, κ, ov X0 [74, 91] [x74, x91], ov Y0 [] [], Z, 0, 0) pc loc [.int r])  (hf : fX12_isWordAt_0 w1 x74 x91   = some r) : gV l b0 D K (n, κ, ov X0 [74, 91] [x74, x91], ov Y0 [] [], Z, 0, 0) 0 [(0, .ref (b0 + 74)), (1, .ref (D.2 (100 + w1)))] [] := by
  unfold fX12_isWordAt_0 at hf
  refine g_aload_n hC 0 dX12_isWordAt_0 rfl rfl ?_
  refine gt_X12_183 hC (x := x74) (kk_74 hL) (kn_74 hL) (ov_get hN 0 rfl rfl) dX12_isWordAt_1 ?_
  obtain ⟨t_1, et_1, hf⟩ := bnE hf
  refine g_topi et_1 ?_
  refine g_istore_n hC (i := 2) [(2, .int t_1), (0, .ref (b0 + 74)), (1, .ref (D.2 (100 + w1)))] rfl dX12_isWordAt_4 (by decide) rfl ?_
  exact g_sub [1, 2, 0] rfl (wX12_isWordAt_5 hL hs_w1 hN hM hC  hret  5000 t_1 hf)

def fX12_isWordAt  (w1 : Nat) (x74 : Nat → Int32) (x91 : Nat → Int32)     : Option (Int32) := fX12_isWordAt_0 w1 x74 x91 

set_option maxHeartbeats 4000000 in
set_option maxRecDepth 100000 in
theorem c_X12_isWordAt (l : Launch) {b0 : Nat} {D : GD} {n : Nat} {κ : QT} {X0 : XT} {Y0 : YT} {Z : ZT} {w1 : Nat} (hL : LY n κ) (hs_w1 : w1 < nStr) {x74 : Nat → Int32} {x91 : Nat → Int32} (hx : ([74, 91] : List Nat).map X0 = [x74, x91]) (hy : ([] : List Nat).map Y0 = []) {r : Int32} (hf : fX12_isWordAt w1 x74 x91  = some r) : gMi l yX12_isWordAt cX12_isWordAt 5 (some FieldType.boolean) 4 85 0 0 b0 D [.ref (b0 + 74), .ref (D.2 (100 + w1))] (n, κ, X0, Y0, Z) (n, κ, ov X0 [74, 91] [x74, x91], ov Y0 [] [], Z) r := by
  have hN : ([74, 91] : List Nat).Nodup := by decide
  have hM : ([] : List Nat).Nodup := by decide
  refine g_meti (own := RX12) (by decide) rfl rfl (Nat.le_of_ble_eq_true rfl) ?_
  intro K hC hret
  have e := wX12_isWordAt_0 hL hs_w1 hN hM hC  hret hf
  rw [ov_id' hx, ov_id' hy] at e
  exact g_sub [0, 1] rfl e

-- X12_takes
def fX12_takes_27  (w1 : Nat) (x91 : Nat → Int32)  (v2 : Int32) (s0 : Int32) (s1 : Int32) (x74 : (Nat → Int32)) : Option (Int32 × (Nat → Int32)) := gd (bz v2) (some (v2, (upd x74 18 (s1 + s0))))
set_option maxHeartbeats 4000000 in
set_option maxRecDepth 100000 in
theorem wX12_takes_27 {l : Launch} {b0 : Nat} {D : GD} {K : KT} {n : Nat} {κ : QT} {X0 : XT} {Y0 : YT} {Z : ZT} {w1 : Nat} (hL : LY n κ) (hs_w1 : w1 < nStr) (hN : ([74, 91] : List Nat).Nodup) (hM : ([] : List Nat).Nodup) (hC : gC l b0 D K RX12 cX12_takes (some FieldType.boolean) 3 5 109 0 0) {x91 : Nat → Int32} {r : Int32} {rx74 : (Nat → Int32)} (hret : ∀ pc loc, narrow .boolean (.int r) = .int r → decode cX12_takes pc = .ok (.ireturn, 1) → gV l b0 D K (n, κ, ov X0 [74, 91] [rx74, x91], ov Y0 [] [], Z, 0, 0) pc loc [.int r]) {v2 : Int32} {s0 : Int32} {s1 : Int32} {x74 : (Nat → Int32)} (hf : fX12_takes_27 w1 x91  v2 s0 s1 x74 = some (r, rx74)) : gV l b0 D K (n, κ, ov X0 [74, 91] [x74, x91], ov Y0 [] [], Z, 0, 0) 27 [(2, .int v2)] [.int s0, .int s1, .ref (b0 + 74)] := by
  unfold fX12_takes_27 at hf
  refine g_iadd hC dX12_takes_27 ?_
  refine pt_X12_183 hC (x := x74) (kk_74 hL) (kn_74 hL) (ov_get hN 0 rfl rfl) (ov_set hN (by rfl) 0 (by rfl)) dX12_takes_28 ?_
  show gV l b0 D K (n, κ, ov X0 [74, 91] [(upd x74 18 (s1 + s0)), x91], ov Y0 [] [], Z, 0, 0) 31 [(2, .int v2)] []
  refine g_iload_n hC 0 dX12_takes_31 rfl rfl ?_
  obtain ⟨h_1, hf⟩ := gdE hf
  obtain ⟨rfl, rfl⟩ := sm2E hf
  exact hret _ _ (bz_nar h_1) dX12_takes_32

def fX12_takes_0  (w1 : Nat) (x91 : Nat → Int32)  (x74 : (Nat → Int32)) : Option (Int32 × (Nat → Int32)) := bd1 (fX12_blanks x91 x74) fun x74_1 => (bd1 (fX12_isWordAt w1 x74_1 x91) fun r_3 => (if r_3 = 0 then (fX12_takes_27 w1 x91  r_3 0 (x74_1 18) x74_1) else (fX12_takes_27 w1 x91  r_3 (slen w1) (x74_1 18) x74_1)))
set_option maxHeartbeats 4000000 in
set_option maxRecDepth 100000 in
theorem wX12_takes_0 {l : Launch} {b0 : Nat} {D : GD} {K : KT} {n : Nat} {κ : QT} {X0 : XT} {Y0 : YT} {Z : ZT} {w1 : Nat} (hL : LY n κ) (hs_w1 : w1 < nStr) (hN : ([74, 91] : List Nat).Nodup) (hM : ([] : List Nat).Nodup) (hC : gC l b0 D K RX12 cX12_takes (some FieldType.boolean) 3 5 109 0 0) {x91 : Nat → Int32} {r : Int32} {rx74 : (Nat → Int32)} (hret : ∀ pc loc, narrow .boolean (.int r) = .int r → decode cX12_takes pc = .ok (.ireturn, 1) → gV l b0 D K (n, κ, ov X0 [74, 91] [rx74, x91], ov Y0 [] [], Z, 0, 0) pc loc [.int r]) {x74 : (Nat → Int32)} (hf : fX12_takes_0 w1 x91  x74 = some (r, rx74)) : gV l b0 D K (n, κ, ov X0 [74, 91] [x74, x91], ov Y0 [] [], Z, 0, 0) 0 [(0, .ref (b0 + 74)), (1, .ref (D.2 (100 + w1)))] [] := by
  unfold fX12_takes_0 at hf
  refine g_aload_n hC 0 dX12_takes_0 rfl rfl ?_
  obtain ⟨x74_1, q_2, hf⟩ := bd1E hf
  refine g_callV_v (a := 74) hC (X' := ov X0 [74, 91] [x74_1, x91]) (Y' := ov Y0 [] []) (As := []) (gMv_eq (c_X12_blanks l hL (ov_map hN [0, 1] (by rfl) (by rfl)) (ov_map hM [] (by rfl) (by rfl)) q_2) (ov_ovE hN (by rfl) [0, 1] [] (by rfl) (by rfl) [] (by rfl) (by rfl) (by rfl) 2 (by rfl) (by decide)) (ov_ovE hM (by rfl) [] [] (by rfl) (by rfl) [] (by rfl) (by rfl) (by rfl) 0 (by rfl) (by decide))) tw_1380 tw_1377 tw_127 tw_1379 tw_49 (ci := 12) rfl (by decide) (kk_74 hL) (kn_74 hL) pd_X12_blanks (by decide) (by decide) rfl rfl (Nat.le_of_ble_eq_true rfl) rfl dX12_takes_1 ?_
  refine g_aload_n hC 0 dX12_takes_4 rfl rfl ?_
  refine g_aload_n hC 1 dX12_takes_5 rfl rfl ?_
  obtain ⟨r_3, q_4, hf⟩ := bd1E hf
  refine g_callV_i (a := 74) hC (X' := ov X0 [74, 91] [x74_1, x91]) (Y' := ov Y0 [] []) (As := [.ref (D.2 (100 + w1))]) (gMi_eq (c_X12_isWordAt l hL hs_w1 (ov_map hN [0, 1] (by rfl) (by rfl)) (ov_map hM [] (by rfl) (by rfl)) q_4) (ov_ovE hN (by rfl) [0, 1] [] (by rfl) (by rfl) [] (by rfl) (by rfl) (by rfl) 2 (by rfl) (by decide)) (ov_ovE hM (by rfl) [] [] (by rfl) (by rfl) [] (by rfl) (by rfl) (by rfl) 0 (by rfl) (by decide))) tw_1396 tw_1393 tw_127 tw_1395 tw_51 (ci := 12) rfl (by decide) (kk_74 hL) (kn_74 hL) pd_X12_isWordAt (by decide) (by decide) rfl rfl (Nat.le_of_ble_eq_true rfl) rfl dX12_takes_6 ?_
  refine g_istore_n hC (i := 2) [(2, .int r_3), (0, .ref (b0 + 74)), (1, .ref (D.2 (100 + w1)))] rfl dX12_takes_9 (by decide) rfl ?_
  refine g_aload_n hC 1 dX12_takes_10 rfl rfl ?_
  refine g_dup hC dX12_takes_11 rfl ?_
  refine gt_X12_183 hC (x := x74_1) (kk_74 hL) (kn_74 hL) (ov_get hN 0 rfl rfl) dX12_takes_12 ?_
  refine g_iload_n hC 0 dX12_takes_15 rfl rfl ?_
  refine g_if_eq hC 26 dX12_takes_16 (by decide) (fun hc => ?_) (fun hc => ?_)
  · replace hf := ifT hf hc
    refine g_iconst hC (v := 0) dX12_takes_26 ic_0 ?_
    exact g_sub [0] rfl (wX12_takes_27 hL hs_w1 hN hM hC  hret  hf)
  · replace hf := ifF hf hc
    refine g_aload_n hC 2 dX12_takes_19 rfl rfl ?_
    refine g_callT_i hC hs_w1 (c_strlen l hs_w1) tw_583 tw_1397 tw_129 tw_581 tw_582 pd_J0_length_8abf5 (by decide) (by decide) (Nat.le_of_ble_eq_true rfl) rfl dX12_takes_20 ?_
    refine g_goto hC 27 dX12_takes_23 (by decide) ?_
    exact g_sub [0] rfl (wX12_takes_27 hL hs_w1 hN hM hC  hret  hf)

def fX12_takes  (w1 : Nat) (x91 : Nat → Int32)   (x74 : Nat → Int32)  : Option (Int32 × (Nat → Int32)) := fX12_takes_0 w1 x91 x74

set_option maxHeartbeats 4000000 in
set_option maxRecDepth 100000 in
theorem c_X12_takes (l : Launch) {b0 : Nat} {D : GD} {n : Nat} {κ : QT} {X0 : XT} {Y0 : YT} {Z : ZT} {w1 : Nat} (hL : LY n κ) (hs_w1 : w1 < nStr) {x74 : Nat → Int32} {x91 : Nat → Int32} (hx : ([74, 91] : List Nat).map X0 = [x74, x91]) (hy : ([] : List Nat).map Y0 = []) {r : Int32} {rx74 : (Nat → Int32)} (hf : fX12_takes w1 x91 x74 = some (r, rx74)) : gMi l yX12_takes cX12_takes 3 (some FieldType.boolean) 5 109 0 0 b0 D [.ref (b0 + 74), .ref (D.2 (100 + w1))] (n, κ, X0, Y0, Z) (n, κ, ov X0 [74, 91] [rx74, x91], ov Y0 [] [], Z) r := by
  have hN : ([74, 91] : List Nat).Nodup := by decide
  have hM : ([] : List Nat).Nodup := by decide
  refine g_meti (own := RX12) (by decide) rfl rfl (Nat.le_of_ble_eq_true rfl) ?_
  intro K hC hret
  have e := wX12_takes_0 hL hs_w1 hN hM hC  hret hf
  rw [ov_id' hx, ov_id' hy] at e
  exact g_sub [0, 1] rfl e

-- X12_value
def fX12_value_62   (x91 : Nat → Int32)  (v1 : Int32) (v2 : Int32) (x74 : (Nat → Int32)) (x92 : (Nat → Int32)) (x93 : (Nat → Int32)) : Option ((Nat → Int32) × (Nat → Int32) × (Nat → Int32)) := if v2 = (x74 26) then (bd1 (fX12_fails 0 v1 x74) fun x74_10 => (some (x74_10, x92, x93))) else (bd1 (fX12_isCounted v1 x74) fun x74_1 => (bd1 (fX12_wordOf v2) fun r_3 => (gd (decide (r_3 < nStr)) (bd3 (fX12_entry 1 v2 (upd x74_1 18 ((x74_1 18) + (slen r_3))) x92 x93) fun x74_6 x92_7 x93_8 => (some (x74_6, x92_7, x93_8))))))
set_option maxHeartbeats 4000000 in
set_option maxRecDepth 100000 in
theorem wX12_value_62 {l : Launch} {b0 : Nat} {D : GD} {K : KT} {n : Nat} {κ : QT} {X0 : XT} {Y0 : YT} {Z : ZT} (hL : LY n κ) (hN : ([74, 91, 92, 93] : List Nat).Nodup) (hM : ([] : List Nat).Nodup) (hC : gC l b0 D K RX12 cX12_value none 3 5 109 0 0) {x91 : Nat → Int32} {rx74 : (Nat → Int32)} {rx92 : (Nat → Int32)} {rx93 : (Nat → Int32)} (hret : ∀ pc loc, decode cX12_value pc = .ok (.return_, 1) → gV l b0 D K (n, κ, ov X0 [74, 91, 92, 93] [rx74, x91, rx92, rx93], ov Y0 [] [], Z, 0, 0) pc loc []) {v1 : Int32} {v2 : Int32} {x74 : (Nat → Int32)} {x92 : (Nat → Int32)} {x93 : (Nat → Int32)} (hf : fX12_value_62 x91  v1 v2 x74 x92 x93 = some (rx74, rx92, rx93)) : gV l b0 D K (n, κ, ov X0 [74, 91, 92, 93] [x74, x91, x92, x93], ov Y0 [] [], Z, 0, 0) 62 [(0, .ref (b0 + 74)), (1, .int v1), (2, .int v2)] [] := by
  unfold fX12_value_62 at hf
  refine g_iload_n hC 2 dX12_value_62 rfl rfl ?_
  refine g_aload_n hC 0 dX12_value_63 rfl rfl ?_
  refine gt_X12_58 hC (x := x74) (kk_74 hL) (kn_74 hL) (ov_get hN 0 rfl rfl) dX12_value_64 ?_
  refine g_icmp_ne hC 77 dX12_value_67 (by decide) (fun hc => ?_) (fun hc => ?_)
  · replace hf := ifF hf hc
    refine g_aload_n hC 0 dX12_value_77 rfl rfl ?_
    refine g_iload_n hC 1 dX12_value_78 rfl rfl ?_
    obtain ⟨x74_1, q_2, hf⟩ := bd1E hf
    refine g_callV_v (a := 74) hC (X' := ov X0 [74, 91, 92, 93] [x74_1, x91, x92, x93]) (Y' := ov Y0 [] []) (As := [.int v1]) (gMv_eq (c_X12_isCounted l hL (ov_map hN [0] (by rfl) (by rfl)) (ov_map hM [] (by rfl) (by rfl)) q_2) (ov_ovE hN (by rfl) [0] [1, 2, 3] (by rfl) (by rfl) [x91, x92, x93] (by rfl) (by rfl) (by rfl) 4 (by rfl) (by decide)) (ov_ovE hM (by rfl) [] [] (by rfl) (by rfl) [] (by rfl) (by rfl) (by rfl) 0 (by rfl) (by decide))) tw_1468 tw_1465 tw_127 tw_1467 tw_65 (ci := 12) rfl (by decide) (kk_74 hL) (kn_74 hL) pd_X12_isCounted (by decide) (by decide) rfl rfl (Nat.le_of_ble_eq_true rfl) rfl dX12_value_79 ?_
    refine g_aload_n hC 0 dX12_value_82 rfl rfl ?_
    refine g_dup hC dX12_value_83 rfl ?_
    refine gt_X12_183 hC (x := x74_1) (kk_74 hL) (kn_74 hL) (ov_get hN 0 rfl rfl) dX12_value_84 ?_
    refine g_iload_n hC 2 dX12_value_87 rfl rfl ?_
    obtain ⟨r_3, q_4, hf⟩ := bd1E hf
    refine g_callS_s hC (X' := ov X0 [74, 91, 92, 93] [x74_1, x91, x92, x93]) (Y' := ov Y0 [] []) (As := [.int v2]) (gMs_eq (c_X12_wordOf l hL (ov_map hN [] (by rfl) (by rfl)) (ov_map hM [] (by rfl) (by rfl)) q_4) (ov_ovE hN (by rfl) [] [0, 1, 2, 3] (by rfl) (by rfl) [x74_1, x91, x92, x93] (by rfl) (by rfl) (by rfl) 4 (by rfl) (by decide)) (ov_ovE hM (by rfl) [] [] (by rfl) (by rfl) [] (by rfl) (by rfl) (by rfl) 0 (by rfl) (by decide))) tw_1475 tw_1473 tw_127 tw_1474 pd_X12_wordOf (by decide) (by decide) rfl rfl (Nat.le_of_ble_eq_true rfl) rfl dX12_value_88 ?_
    obtain ⟨h_5, hf⟩ := gdE hf
    refine g_callT_i hC (of_decide_eq_true h_5) (c_strlen l (of_decide_eq_true h_5)) tw_583 tw_1397 tw_129 tw_581 tw_582 pd_J0_length_8abf5 (by decide) (by decide) (Nat.le_of_ble_eq_true rfl) rfl dX12_value_91 ?_
    refine g_iadd hC dX12_value_94 ?_
    refine pt_X12_183 hC (x := x74_1) (kk_74 hL) (kn_74 hL) (ov_get hN 0 rfl rfl) (ov_set hN (by rfl) 0 (by rfl)) dX12_value_95 ?_
    show gV l b0 D K (n, κ, ov X0 [74, 91, 92, 93] [(upd x74_1 18 ((x74_1 18) + (slen r_3))), x91, x92, x93], ov Y0 [] [], Z, 0, 0) 98 [(0, .ref (b0 + 74)), (1, .int v1), (2, .int v2)] []
    refine g_aload_n hC 0 dX12_value_98 rfl rfl ?_
    refine g_iconst hC (v := 1) dX12_value_99 ic_1 ?_
    refine g_iload_n hC 2 dX12_value_100 rfl rfl ?_
    obtain ⟨x74_6, x92_7, x93_8, q_9, hf⟩ := bd3E hf
    refine g_callV_v (a := 74) hC (X' := ov X0 [74, 91, 92, 93] [x74_6, x91, x92_7, x93_8]) (Y' := ov Y0 [] []) (As := [.int 1, .int v2]) (gMv_eq (c_X12_entry l hL (ov_map hN [0, 2, 3] (by rfl) (by rfl)) (ov_map hM [] (by rfl) (by rfl)) q_9) (ov_ovE hN (by rfl) [0, 2, 3] [1] (by rfl) (by rfl) [x91] (by rfl) (by rfl) (by rfl) 4 (by rfl) (by decide)) (ov_ovE hM (by rfl) [] [] (by rfl) (by rfl) [] (by rfl) (by rfl) (by rfl) 0 (by rfl) (by decide))) tw_1472 tw_1469 tw_127 tw_1471 tw_66 (ci := 12) rfl (by decide) (kk_74 hL) (kn_74 hL) pd_X12_entry (by decide) (by decide) rfl rfl (Nat.le_of_ble_eq_true rfl) rfl dX12_value_101 ?_
    obtain ⟨rfl, rfl, rfl⟩ := sm3E hf
    exact hret _ _ dX12_value_104
  · replace hf := ifT hf hc
    refine g_aload_n hC 0 dX12_value_70 rfl rfl ?_
    refine g_iconst hC (v := 0) dX12_value_71 ic_0 ?_
    refine g_iload_n hC 1 dX12_value_72 rfl rfl ?_
    obtain ⟨x74_10, q_11, hf⟩ := bd1E hf
    refine g_callV_v (a := 74) hC (X' := ov X0 [74, 91, 92, 93] [x74_10, x91, x92, x93]) (Y' := ov Y0 [] []) (As := [.int 0, .int v1]) (gMv_eq (c_X12_fails l hL (ov_map hN [0] (by rfl) (by rfl)) (ov_map hM [] (by rfl) (by rfl)) q_11) (ov_ovE hN (by rfl) [0] [1, 2, 3] (by rfl) (by rfl) [x91, x92, x93] (by rfl) (by rfl) (by rfl) 4 (by rfl) (by decide)) (ov_ovE hM (by rfl) [] [] (by rfl) (by rfl) [] (by rfl) (by rfl) (by rfl) 0 (by rfl) (by decide))) tw_1402 tw_1399 tw_127 tw_1401 tw_52 (ci := 12) rfl (by decide) (kk_74 hL) (kn_74 hL) pd_X12_fails (by decide) (by decide) rfl rfl (Nat.le_of_ble_eq_true rfl) rfl dX12_value_73 ?_
    obtain ⟨rfl, rfl, rfl⟩ := sm3E hf
    exact hret _ _ dX12_value_76

def fX12_value_37b   (x91 : Nat → Int32)  (k37 : Int32 → Int32 → (Nat → Int32) → (Nat → Int32) → (Nat → Int32) → Option ((Nat → Int32) × (Nat → Int32) × (Nat → Int32))) (v1 : Int32) (v2 : Int32) (x74 : (Nat → Int32)) (x92 : (Nat → Int32)) (x93 : (Nat → Int32)) : Option ((Nat → Int32) × (Nat → Int32) × (Nat → Int32)) := if (x74 26) ≤ v2 then (fX12_value_62 x91  v1 v2 x74 x92 x93) else (bd1 (fX12_wordOf v2) fun r_1 => (gd (decide (r_1 < nStr)) (bd1 (fX12_isWordAt r_1 x74 x91) fun r_4 => (if r_4 = 0 then (bn (v2 + 1) fun t_6 => (k37 v1 t_6 x74 x92 x93)) else (fX12_value_62 x91  v1 v2 x74 x92 x93)))))
def fX12_value_37   (x91 : Nat → Int32)  : Int32 → Int32 → (Nat → Int32) → (Nat → Int32) → (Nat → Int32) → Option ((Nat → Int32) × (Nat → Int32) × (Nat → Int32)) := lq5 (fX12_value_37b x91 ) 5000
set_option maxHeartbeats 4000000 in
set_option maxRecDepth 100000 in
theorem wX12_value_37 {l : Launch} {b0 : Nat} {D : GD} {K : KT} {n : Nat} {κ : QT} {X0 : XT} {Y0 : YT} {Z : ZT} (hL : LY n κ) (hN : ([74, 91, 92, 93] : List Nat).Nodup) (hM : ([] : List Nat).Nodup) (hC : gC l b0 D K RX12 cX12_value none 3 5 109 0 0) {x91 : Nat → Int32} {rx74 : (Nat → Int32)} {rx92 : (Nat → Int32)} {rx93 : (Nat → Int32)} (hret : ∀ pc loc, decode cX12_value pc = .ok (.return_, 1) → gV l b0 D K (n, κ, ov X0 [74, 91, 92, 93] [rx74, x91, rx92, rx93], ov Y0 [] [], Z, 0, 0) pc loc []) : ∀ (j : Nat) (v1 : Int32) (v2 : Int32) (x74 : (Nat → Int32)) (x92 : (Nat → Int32)) (x93 : (Nat → Int32)), lq5 (fX12_value_37b x91 ) j v1 v2 x74 x92 x93 = some (rx74, rx92, rx93) → gV l b0 D K (n, κ, ov X0 [74, 91, 92, 93] [x74, x91, x92, x93], ov Y0 [] [], Z, 0, 0) 37 [(0, .ref (b0 + 74)), (1, .int v1), (2, .int v2)] [] := by
  intro j
  induction j with
  | zero => intro v1 v2 x74 x92 x93 hf; cases hf
  | succ j hk37 =>
    intro v1 v2 x74 x92 x93 hf
    replace hf : fX12_value_37b x91  (lq5 (fX12_value_37b x91 ) j) v1 v2 x74 x92 x93 = some (rx74, rx92, rx93) := hf
    unfold fX12_value_37b at hf
    refine g_iload_n hC 2 dX12_value_37 rfl rfl ?_
    refine g_aload_n hC 0 dX12_value_38 rfl rfl ?_
    refine gt_X12_58 hC (x := x74) (kk_74 hL) (kn_74 hL) (ov_get hN 0 rfl rfl) dX12_value_39 ?_
    refine g_icmp_ge hC 62 dX12_value_42 (by decide) (fun hc => ?_) (fun hc => ?_)
    · replace hf := ifT hf hc
      exact g_sub [0, 1, 2] rfl (wX12_value_62 hL hN hM hC  hret  hf)
    · replace hf := ifF hf hc
      refine g_aload_n hC 0 dX12_value_45 rfl rfl ?_
      refine g_iload_n hC 2 dX12_value_46 rfl rfl ?_
      obtain ⟨r_1, q_2, hf⟩ := bd1E hf
      refine g_callS_s hC (X' := ov X0 [74, 91, 92, 93] [x74, x91, x92, x93]) (Y' := ov Y0 [] []) (As := [.int v2]) (gMs_eq (c_X12_wordOf l hL (ov_map hN [] (by rfl) (by rfl)) (ov_map hM [] (by rfl) (by rfl)) q_2) (ov_ovE hN (by rfl) [] [0, 1, 2, 3] (by rfl) (by rfl) [x74, x91, x92, x93] (by rfl) (by rfl) (by rfl) 4 (by rfl) (by decide)) (ov_ovE hM (by rfl) [] [] (by rfl) (by rfl) [] (by rfl) (by rfl) (by rfl) 0 (by rfl) (by decide))) tw_1475 tw_1473 tw_127 tw_1474 pd_X12_wordOf (by decide) (by decide) rfl rfl (Nat.le_of_ble_eq_true rfl) rfl dX12_value_47 ?_
      obtain ⟨h_3, hf⟩ := gdE hf
      obtain ⟨r_4, q_5, hf⟩ := bd1E hf
      refine g_callV_i (a := 74) hC (X' := ov X0 [74, 91, 92, 93] [x74, x91, x92, x93]) (Y' := ov Y0 [] []) (As := [.ref (D.2 (100 + r_1))]) (gMi_eq (c_X12_isWordAt l hL (of_decide_eq_true h_3) (ov_map hN [0, 1] (by rfl) (by rfl)) (ov_map hM [] (by rfl) (by rfl)) q_5) (ov_ovE hN (by rfl) [0, 1] [2, 3] (by rfl) (by rfl) [x92, x93] (by rfl) (by rfl) (by rfl) 4 (by rfl) (by decide)) (ov_ovE hM (by rfl) [] [] (by rfl) (by rfl) [] (by rfl) (by rfl) (by rfl) 0 (by rfl) (by decide))) tw_1396 tw_1393 tw_127 tw_1395 tw_51 (ci := 12) rfl (by decide) (kk_74 hL) (kn_74 hL) pd_X12_isWordAt (by decide) (by decide) rfl rfl (Nat.le_of_ble_eq_true rfl) rfl dX12_value_50 ?_
      refine g_if_ne hC 62 dX12_value_53 (by decide) (fun hc => ?_) (fun hc => ?_)
      · replace hf := ifF hf hc
        exact g_sub [0, 1, 2] rfl (wX12_value_62 hL hN hM hC  hret  hf)
      · replace hf := ifT hf hc
        obtain ⟨t_6, et_6, hf⟩ := bnE hf
        refine g_iinc hC (i := 2) (v := t_6) [(2, .int t_6), (0, .ref (b0 + 74)), (1, .int v1)] dX12_value_56 (q := 2) rfl ((congrArg (HAdd.hAdd v2) ic_1).trans et_6.symm) (by decide) rfl ?_
        refine g_goto hC 37 dX12_value_59 (by decide) ?_
        exact g_sub [1, 2, 0] rfl (hk37 v1 t_6 x74 x92 x93 hf)

def fX12_value_0   (x91 : Nat → Int32)  (x74 : (Nat → Int32)) (x92 : (Nat → Int32)) (x93 : (Nat → Int32)) : Option ((Nat → Int32) × (Nat → Int32) × (Nat → Int32)) := bd1 (fX12_blanks x91 x74) fun x74_1 => (bn (x74_1 18) fun t_3 => (bd1 (fX12_isDigit x74_1 x91) fun r_4 => (if r_4 = 0 then (fX12_value_37 x91  t_3 0 x74_1 x92 x93) else (bd2 (fX12_digits x91 99999 x74_1) fun r_6 x74_7 => (bd1 (fX12_isCounted t_3 x74_7) fun x74_9 => (bd3 (fX12_entry 0 r_6 x74_9 x92 x93) fun x74_11 x92_12 x93_13 => (some (x74_11, x92_12, x93_13))))))))
set_option maxHeartbeats 4000000 in
set_option maxRecDepth 100000 in
theorem wX12_value_0 {l : Launch} {b0 : Nat} {D : GD} {K : KT} {n : Nat} {κ : QT} {X0 : XT} {Y0 : YT} {Z : ZT} (hL : LY n κ) (hN : ([74, 91, 92, 93] : List Nat).Nodup) (hM : ([] : List Nat).Nodup) (hC : gC l b0 D K RX12 cX12_value none 3 5 109 0 0) {x91 : Nat → Int32} {rx74 : (Nat → Int32)} {rx92 : (Nat → Int32)} {rx93 : (Nat → Int32)} (hret : ∀ pc loc, decode cX12_value pc = .ok (.return_, 1) → gV l b0 D K (n, κ, ov X0 [74, 91, 92, 93] [rx74, x91, rx92, rx93], ov Y0 [] [], Z, 0, 0) pc loc []) {x74 : (Nat → Int32)} {x92 : (Nat → Int32)} {x93 : (Nat → Int32)} (hf : fX12_value_0 x91  x74 x92 x93 = some (rx74, rx92, rx93)) : gV l b0 D K (n, κ, ov X0 [74, 91, 92, 93] [x74, x91, x92, x93], ov Y0 [] [], Z, 0, 0) 0 [(0, .ref (b0 + 74))] [] := by
  unfold fX12_value_0 at hf
  refine g_aload_n hC 0 dX12_value_0 rfl rfl ?_
  obtain ⟨x74_1, q_2, hf⟩ := bd1E hf
  refine g_callV_v (a := 74) hC (X' := ov X0 [74, 91, 92, 93] [x74_1, x91, x92, x93]) (Y' := ov Y0 [] []) (As := []) (gMv_eq (c_X12_blanks l hL (ov_map hN [0, 1] (by rfl) (by rfl)) (ov_map hM [] (by rfl) (by rfl)) q_2) (ov_ovE hN (by rfl) [0, 1] [2, 3] (by rfl) (by rfl) [x92, x93] (by rfl) (by rfl) (by rfl) 4 (by rfl) (by decide)) (ov_ovE hM (by rfl) [] [] (by rfl) (by rfl) [] (by rfl) (by rfl) (by rfl) 0 (by rfl) (by decide))) tw_1380 tw_1377 tw_127 tw_1379 tw_49 (ci := 12) rfl (by decide) (kk_74 hL) (kn_74 hL) pd_X12_blanks (by decide) (by decide) rfl rfl (Nat.le_of_ble_eq_true rfl) rfl dX12_value_1 ?_
  refine g_aload_n hC 0 dX12_value_4 rfl rfl ?_
  refine gt_X12_183 hC (x := x74_1) (kk_74 hL) (kn_74 hL) (ov_get hN 0 rfl rfl) dX12_value_5 ?_
  obtain ⟨t_3, et_3, hf⟩ := bnE hf
  refine g_topi et_3 ?_
  refine g_istore_n hC (i := 1) [(1, .int t_3), (0, .ref (b0 + 74))] rfl dX12_value_8 (by decide) rfl ?_
  refine g_aload_n hC 1 dX12_value_9 rfl rfl ?_
  obtain ⟨r_4, q_5, hf⟩ := bd1E hf
  refine g_callV_i (a := 74) hC (X' := ov X0 [74, 91, 92, 93] [x74_1, x91, x92, x93]) (Y' := ov Y0 [] []) (As := []) (gMi_eq (c_X12_isDigit l hL (ov_map hN [0, 1] (by rfl) (by rfl)) (ov_map hM [] (by rfl) (by rfl)) q_5) (ov_ovE hN (by rfl) [0, 1] [2, 3] (by rfl) (by rfl) [x92, x93] (by rfl) (by rfl) (by rfl) 4 (by rfl) (by decide)) (ov_ovE hM (by rfl) [] [] (by rfl) (by rfl) [] (by rfl) (by rfl) (by rfl) 0 (by rfl) (by decide))) tw_1423 tw_1420 tw_127 tw_1422 tw_57 (ci := 12) rfl (by decide) (kk_74 hL) (kn_74 hL) pd_X12_isDigit (by decide) (by decide) rfl rfl (Nat.le_of_ble_eq_true rfl) rfl dX12_value_10 ?_
  refine g_if_eq hC 35 dX12_value_13 (by decide) (fun hc => ?_) (fun hc => ?_)
  · replace hf := ifT hf hc
    refine g_iconst hC (v := 0) dX12_value_35 ic_0 ?_
    refine g_istore_n hC (i := 2) [(2, .int 0), (1, .int t_3), (0, .ref (b0 + 74))] rfl dX12_value_36 (by decide) rfl ?_
    exact g_sub [2, 1, 0] rfl (wX12_value_37 hL hN hM hC  hret  5000 t_3 0 x74_1 x92 x93 hf)
  · replace hf := ifF hf hc
    refine g_aload_n hC 1 dX12_value_16 rfl rfl ?_
    refine g_ldc hC (v := 99999) tw_1415 dX12_value_17 ?_
    obtain ⟨r_6, x74_7, q_8, hf⟩ := bd2E hf
    refine g_callV_i (a := 74) hC (X' := ov X0 [74, 91, 92, 93] [x74_7, x91, x92, x93]) (Y' := ov Y0 [] []) (As := [.int 99999]) (gMi_eq (c_X12_digits l hL (ov_map hN [0, 1] (by rfl) (by rfl)) (ov_map hM [] (by rfl) (by rfl)) q_8) (ov_ovE hN (by rfl) [0, 1] [2, 3] (by rfl) (by rfl) [x92, x93] (by rfl) (by rfl) (by rfl) 4 (by rfl) (by decide)) (ov_ovE hM (by rfl) [] [] (by rfl) (by rfl) [] (by rfl) (by rfl) (by rfl) 0 (by rfl) (by decide))) tw_1419 tw_1416 tw_127 tw_1418 tw_56 (ci := 12) rfl (by decide) (kk_74 hL) (kn_74 hL) pd_X12_digits (by decide) (by decide) rfl rfl (Nat.le_of_ble_eq_true rfl) rfl dX12_value_19 ?_
    refine g_istore_n hC (i := 2) [(2, .int r_6), (1, .int t_3), (0, .ref (b0 + 74))] rfl dX12_value_22 (by decide) rfl ?_
    refine g_aload_n hC 2 dX12_value_23 rfl rfl ?_
    refine g_iload_n hC 1 dX12_value_24 rfl rfl ?_
    obtain ⟨x74_9, q_10, hf⟩ := bd1E hf
    refine g_callV_v (a := 74) hC (X' := ov X0 [74, 91, 92, 93] [x74_9, x91, x92, x93]) (Y' := ov Y0 [] []) (As := [.int t_3]) (gMv_eq (c_X12_isCounted l hL (ov_map hN [0] (by rfl) (by rfl)) (ov_map hM [] (by rfl) (by rfl)) q_10) (ov_ovE hN (by rfl) [0] [1, 2, 3] (by rfl) (by rfl) [x91, x92, x93] (by rfl) (by rfl) (by rfl) 4 (by rfl) (by decide)) (ov_ovE hM (by rfl) [] [] (by rfl) (by rfl) [] (by rfl) (by rfl) (by rfl) 0 (by rfl) (by decide))) tw_1468 tw_1465 tw_127 tw_1467 tw_65 (ci := 12) rfl (by decide) (kk_74 hL) (kn_74 hL) pd_X12_isCounted (by decide) (by decide) rfl rfl (Nat.le_of_ble_eq_true rfl) rfl dX12_value_25 ?_
    refine g_aload_n hC 2 dX12_value_28 rfl rfl ?_
    refine g_iconst hC (v := 0) dX12_value_29 ic_0 ?_
    refine g_iload_n hC 0 dX12_value_30 rfl rfl ?_
    obtain ⟨x74_11, x92_12, x93_13, q_14, hf⟩ := bd3E hf
    refine g_callV_v (a := 74) hC (X' := ov X0 [74, 91, 92, 93] [x74_11, x91, x92_12, x93_13]) (Y' := ov Y0 [] []) (As := [.int 0, .int r_6]) (gMv_eq (c_X12_entry l hL (ov_map hN [0, 2, 3] (by rfl) (by rfl)) (ov_map hM [] (by rfl) (by rfl)) q_14) (ov_ovE hN (by rfl) [0, 2, 3] [1] (by rfl) (by rfl) [x91] (by rfl) (by rfl) (by rfl) 4 (by rfl) (by decide)) (ov_ovE hM (by rfl) [] [] (by rfl) (by rfl) [] (by rfl) (by rfl) (by rfl) 0 (by rfl) (by decide))) tw_1472 tw_1469 tw_127 tw_1471 tw_66 (ci := 12) rfl (by decide) (kk_74 hL) (kn_74 hL) pd_X12_entry (by decide) (by decide) rfl rfl (Nat.le_of_ble_eq_true rfl) rfl dX12_value_31 ?_
    obtain ⟨rfl, rfl, rfl⟩ := sm3E hf
    exact hret _ _ dX12_value_34

def fX12_value   (x91 : Nat → Int32)   (x74 : Nat → Int32) (x92 : Nat → Int32) (x93 : Nat → Int32)  : Option ((Nat → Int32) × (Nat → Int32) × (Nat → Int32)) := fX12_value_0 x91 x74 x92 x93

set_option maxHeartbeats 4000000 in
set_option maxRecDepth 100000 in
theorem c_X12_value (l : Launch) {b0 : Nat} {D : GD} {n : Nat} {κ : QT} {X0 : XT} {Y0 : YT} {Z : ZT} (hL : LY n κ) {x74 : Nat → Int32} {x91 : Nat → Int32} {x92 : Nat → Int32} {x93 : Nat → Int32} (hx : ([74, 91, 92, 93] : List Nat).map X0 = [x74, x91, x92, x93]) (hy : ([] : List Nat).map Y0 = []) {rx74 : (Nat → Int32)} {rx92 : (Nat → Int32)} {rx93 : (Nat → Int32)} (hf : fX12_value x91 x74 x92 x93 = some (rx74, rx92, rx93)) : gMv l yX12_value cX12_value 3 none 5 109 0 0 b0 D [.ref (b0 + 74)] (n, κ, X0, Y0, Z) (n, κ, ov X0 [74, 91, 92, 93] [rx74, x91, rx92, rx93], ov Y0 [] [], Z) := by
  have hN : ([74, 91, 92, 93] : List Nat).Nodup := by decide
  have hM : ([] : List Nat).Nodup := by decide
  refine g_metv (own := RX12) (by decide) rfl rfl (Nat.le_of_ble_eq_true rfl) ?_
  intro K hC hret
  have e := wX12_value_0 hL hN hM hC  hret hf
  rw [ov_id' hx, ov_id' hy] at e
  exact g_sub [0] rfl e

-- X12_term
def fX12_term_72   (x91 : Nat → Int32)  (k8 : (Nat → Int32) → (Nat → Int32) → (Nat → Int32) → Option ((Nat → Int32) × (Nat → Int32) × (Nat → Int32))) (s0 : Int32) (x74 : (Nat → Int32)) (x92 : (Nat → Int32)) (x93 : (Nat → Int32)) : Option ((Nat → Int32) × (Nat → Int32) × (Nat → Int32)) := bd3 (fX12_value x91 (upd x74 18 ((x74 18) + 1)) x92 x93) fun x74_1 x92_2 x93_3 => (bd3 (fX12_entry s0 0 x74_1 x92_2 x93_3) fun x74_5 x92_6 x93_7 => (bd1 (fX12_blanks x91 x74_5) fun x74_9 => (k8 x74_9 x92_6 x93_7)))
set_option maxHeartbeats 4000000 in
set_option maxRecDepth 100000 in
theorem wX12_term_72 {l : Launch} {b0 : Nat} {D : GD} {K : KT} {n : Nat} {κ : QT} {X0 : XT} {Y0 : YT} {Z : ZT} (hL : LY n κ) (hN : ([74, 91, 92, 93] : List Nat).Nodup) (hM : ([] : List Nat).Nodup) (hC : gC l b0 D K RX12 cX12_term none 2 6 131 0 0) {x91 : Nat → Int32} {rx74 : (Nat → Int32)} {rx92 : (Nat → Int32)} {rx93 : (Nat → Int32)} (hret : ∀ pc loc, decode cX12_term pc = .ok (.return_, 1) → gV l b0 D K (n, κ, ov X0 [74, 91, 92, 93] [rx74, x91, rx92, rx93], ov Y0 [] [], Z, 0, 0) pc loc []) {k8 : (Nat → Int32) → (Nat → Int32) → (Nat → Int32) → Option ((Nat → Int32) × (Nat → Int32) × (Nat → Int32))} (hk8 : ∀ (x74 : (Nat → Int32)) (x92 : (Nat → Int32)) (x93 : (Nat → Int32)), k8 x74 x92 x93 = some (rx74, rx92, rx93) → gV l b0 D K (n, κ, ov X0 [74, 91, 92, 93] [x74, x91, x92, x93], ov Y0 [] [], Z, 0, 0) 8 [(0, .ref (b0 + 74))] []) {s0 : Int32} {x74 : (Nat → Int32)} {x92 : (Nat → Int32)} {x93 : (Nat → Int32)} (hf : fX12_term_72 x91 k8 s0 x74 x92 x93 = some (rx74, rx92, rx93)) : gV l b0 D K (n, κ, ov X0 [74, 91, 92, 93] [x74, x91, x92, x93], ov Y0 [] [], Z, 0, 0) 72 [(0, .ref (b0 + 74))] [.int s0] := by
  unfold fX12_term_72 at hf
  refine g_istore_n hC (i := 1) [(1, .int s0), (0, .ref (b0 + 74))] rfl dX12_term_72 (by decide) rfl ?_
  refine g_aload_n hC 1 dX12_term_73 rfl rfl ?_
  refine g_dup hC dX12_term_74 rfl ?_
  refine gt_X12_183 hC (x := x74) (kk_74 hL) (kn_74 hL) (ov_get hN 0 rfl rfl) dX12_term_75 ?_
  refine g_iconst hC (v := 1) dX12_term_78 ic_1 ?_
  refine g_iadd hC dX12_term_79 ?_
  refine pt_X12_183 hC (x := x74) (kk_74 hL) (kn_74 hL) (ov_get hN 0 rfl rfl) (ov_set hN (by rfl) 0 (by rfl)) dX12_term_80 ?_
  show gV l b0 D K (n, κ, ov X0 [74, 91, 92, 93] [(upd x74 18 ((x74 18) + 1)), x91, x92, x93], ov Y0 [] [], Z, 0, 0) 83 [(1, .int s0), (0, .ref (b0 + 74))] []
  refine g_aload_n hC 1 dX12_term_83 rfl rfl ?_
  obtain ⟨x74_1, x92_2, x93_3, q_4, hf⟩ := bd3E hf
  refine g_callV_v (a := 74) hC (X' := ov X0 [74, 91, 92, 93] [x74_1, x91, x92_2, x93_3]) (Y' := ov Y0 [] []) (As := []) (gMv_eq (c_X12_value l hL (ov_map hN [0, 1, 2, 3] (by rfl) (by rfl)) (ov_map hM [] (by rfl) (by rfl)) q_4) (ov_ovE hN (by rfl) [0, 1, 2, 3] [] (by rfl) (by rfl) [] (by rfl) (by rfl) (by rfl) 4 (by rfl) (by decide)) (ov_ovE hM (by rfl) [] [] (by rfl) (by rfl) [] (by rfl) (by rfl) (by rfl) 0 (by rfl) (by decide))) tw_1464 tw_1461 tw_127 tw_1463 tw_64 (ci := 12) rfl (by decide) (kk_74 hL) (kn_74 hL) pd_X12_value (by decide) (by decide) rfl rfl (Nat.le_of_ble_eq_true rfl) rfl dX12_term_84 ?_
  refine g_aload_n hC 1 dX12_term_87 rfl rfl ?_
  refine g_iload_n hC 0 dX12_term_88 rfl rfl ?_
  refine g_iconst hC (v := 0) dX12_term_89 ic_0 ?_
  obtain ⟨x74_5, x92_6, x93_7, q_8, hf⟩ := bd3E hf
  refine g_callV_v (a := 74) hC (X' := ov X0 [74, 91, 92, 93] [x74_5, x91, x92_6, x93_7]) (Y' := ov Y0 [] []) (As := [.int s0, .int 0]) (gMv_eq (c_X12_entry l hL (ov_map hN [0, 2, 3] (by rfl) (by rfl)) (ov_map hM [] (by rfl) (by rfl)) q_8) (ov_ovE hN (by rfl) [0, 2, 3] [1] (by rfl) (by rfl) [x91] (by rfl) (by rfl) (by rfl) 4 (by rfl) (by decide)) (ov_ovE hM (by rfl) [] [] (by rfl) (by rfl) [] (by rfl) (by rfl) (by rfl) 0 (by rfl) (by decide))) tw_1472 tw_1469 tw_127 tw_1471 tw_66 (ci := 12) rfl (by decide) (kk_74 hL) (kn_74 hL) pd_X12_entry (by decide) (by decide) rfl rfl (Nat.le_of_ble_eq_true rfl) rfl dX12_term_90 ?_
  refine g_aload_n hC 1 dX12_term_93 rfl rfl ?_
  obtain ⟨x74_9, q_10, hf⟩ := bd1E hf
  refine g_callV_v (a := 74) hC (X' := ov X0 [74, 91, 92, 93] [x74_9, x91, x92_6, x93_7]) (Y' := ov Y0 [] []) (As := []) (gMv_eq (c_X12_blanks l hL (ov_map hN [0, 1] (by rfl) (by rfl)) (ov_map hM [] (by rfl) (by rfl)) q_10) (ov_ovE hN (by rfl) [0, 1] [2, 3] (by rfl) (by rfl) [x92_6, x93_7] (by rfl) (by rfl) (by rfl) 4 (by rfl) (by decide)) (ov_ovE hM (by rfl) [] [] (by rfl) (by rfl) [] (by rfl) (by rfl) (by rfl) 0 (by rfl) (by decide))) tw_1380 tw_1377 tw_127 tw_1379 tw_49 (ci := 12) rfl (by decide) (kk_74 hL) (kn_74 hL) pd_X12_blanks (by decide) (by decide) rfl rfl (Nat.le_of_ble_eq_true rfl) rfl dX12_term_94 ?_
  refine g_goto hC 8 dX12_term_97 (by decide) ?_
  exact g_sub [1] rfl (hk8 x74_9 x92_6 x93_7 hf)

def fX12_term_42   (x91 : Nat → Int32)  (k8 : (Nat → Int32) → (Nat → Int32) → (Nat → Int32) → Option ((Nat → Int32) × (Nat → Int32) × (Nat → Int32))) (x74 : (Nat → Int32)) (x92 : (Nat → Int32)) (x93 : (Nat → Int32)) : Option ((Nat → Int32) × (Nat → Int32) × (Nat → Int32)) := bd1 (fX12_sign x74 x91) fun r_1 => (if r_1 = 42 then (fX12_term_72 x91 k8 13 x74 x92 x93) else (bd1 (fX12_sign x74 x91) fun r_3 => (if r_3 = 47 then (fX12_term_72 x91 k8 14 x74 x92 x93) else (fX12_term_72 x91 k8 15 x74 x92 x93))))
set_option maxHeartbeats 4000000 in
set_option maxRecDepth 100000 in
theorem wX12_term_42 {l : Launch} {b0 : Nat} {D : GD} {K : KT} {n : Nat} {κ : QT} {X0 : XT} {Y0 : YT} {Z : ZT} (hL : LY n κ) (hN : ([74, 91, 92, 93] : List Nat).Nodup) (hM : ([] : List Nat).Nodup) (hC : gC l b0 D K RX12 cX12_term none 2 6 131 0 0) {x91 : Nat → Int32} {rx74 : (Nat → Int32)} {rx92 : (Nat → Int32)} {rx93 : (Nat → Int32)} (hret : ∀ pc loc, decode cX12_term pc = .ok (.return_, 1) → gV l b0 D K (n, κ, ov X0 [74, 91, 92, 93] [rx74, x91, rx92, rx93], ov Y0 [] [], Z, 0, 0) pc loc []) {k8 : (Nat → Int32) → (Nat → Int32) → (Nat → Int32) → Option ((Nat → Int32) × (Nat → Int32) × (Nat → Int32))} (hk8 : ∀ (x74 : (Nat → Int32)) (x92 : (Nat → Int32)) (x93 : (Nat → Int32)), k8 x74 x92 x93 = some (rx74, rx92, rx93) → gV l b0 D K (n, κ, ov X0 [74, 91, 92, 93] [x74, x91, x92, x93], ov Y0 [] [], Z, 0, 0) 8 [(0, .ref (b0 + 74))] []) {x74 : (Nat → Int32)} {x92 : (Nat → Int32)} {x93 : (Nat → Int32)} (hf : fX12_term_42 x91 k8 x74 x92 x93 = some (rx74, rx92, rx93)) : gV l b0 D K (n, κ, ov X0 [74, 91, 92, 93] [x74, x91, x92, x93], ov Y0 [] [], Z, 0, 0) 42 [(0, .ref (b0 + 74))] [] := by
  unfold fX12_term_42 at hf
  refine g_aload_n hC 0 dX12_term_42 rfl rfl ?_
  obtain ⟨r_1, q_2, hf⟩ := bd1E hf
  refine g_callV_i (a := 74) hC (X' := ov X0 [74, 91, 92, 93] [x74, x91, x92, x93]) (Y' := ov Y0 [] []) (As := []) (gMi_eq (c_X12_sign l hL (ov_map hN [0, 1] (by rfl) (by rfl)) (ov_map hM [] (by rfl) (by rfl)) q_2) (ov_ovE hN (by rfl) [0, 1] [2, 3] (by rfl) (by rfl) [x92, x93] (by rfl) (by rfl) (by rfl) 4 (by rfl) (by decide)) (ov_ovE hM (by rfl) [] [] (by rfl) (by rfl) [] (by rfl) (by rfl) (by rfl) 0 (by rfl) (by decide))) tw_1384 tw_1381 tw_127 tw_1383 tw_50 (ci := 12) rfl (by decide) (kk_74 hL) (kn_74 hL) pd_X12_sign (by decide) (by decide) rfl rfl (Nat.le_of_ble_eq_true rfl) rfl dX12_term_43 ?_
  refine g_bipush hC (v := 42) dX12_term_46 bp_42 ?_
  refine g_icmp_ne hC 56 dX12_term_48 (by decide) (fun hc => ?_) (fun hc => ?_)
  · replace hf := ifF hf hc
    refine g_aload_n hC 0 dX12_term_56 rfl rfl ?_
    obtain ⟨r_3, q_4, hf⟩ := bd1E hf
    refine g_callV_i (a := 74) hC (X' := ov X0 [74, 91, 92, 93] [x74, x91, x92, x93]) (Y' := ov Y0 [] []) (As := []) (gMi_eq (c_X12_sign l hL (ov_map hN [0, 1] (by rfl) (by rfl)) (ov_map hM [] (by rfl) (by rfl)) q_4) (ov_ovE hN (by rfl) [0, 1] [2, 3] (by rfl) (by rfl) [x92, x93] (by rfl) (by rfl) (by rfl) 4 (by rfl) (by decide)) (ov_ovE hM (by rfl) [] [] (by rfl) (by rfl) [] (by rfl) (by rfl) (by rfl) 0 (by rfl) (by decide))) tw_1384 tw_1381 tw_127 tw_1383 tw_50 (ci := 12) rfl (by decide) (kk_74 hL) (kn_74 hL) pd_X12_sign (by decide) (by decide) rfl rfl (Nat.le_of_ble_eq_true rfl) rfl dX12_term_57 ?_
    refine g_bipush hC (v := 47) dX12_term_60 bp_47 ?_
    refine g_icmp_ne hC 70 dX12_term_62 (by decide) (fun hc => ?_) (fun hc => ?_)
    · replace hf := ifF hf hc
      refine g_bipush hC (v := 15) dX12_term_70 bp_15 ?_
      exact g_sub [0] rfl (wX12_term_72 hL hN hM hC  hret hk8 hf)
    · replace hf := ifT hf hc
      refine g_bipush hC (v := 14) dX12_term_65 bp_14 ?_
      refine g_goto hC 72 dX12_term_67 (by decide) ?_
      exact g_sub [0] rfl (wX12_term_72 hL hN hM hC  hret hk8 hf)
  · replace hf := ifT hf hc
    refine g_bipush hC (v := 13) dX12_term_51 bp_13 ?_
    refine g_goto hC 72 dX12_term_53 (by decide) ?_
    exact g_sub [0] rfl (wX12_term_72 hL hN hM hC  hret hk8 hf)

def fX12_term_8b   (x91 : Nat → Int32)  (k8 : (Nat → Int32) → (Nat → Int32) → (Nat → Int32) → Option ((Nat → Int32) × (Nat → Int32) × (Nat → Int32))) (x74 : (Nat → Int32)) (x92 : (Nat → Int32)) (x93 : (Nat → Int32)) : Option ((Nat → Int32) × (Nat → Int32) × (Nat → Int32)) := if (x74 19) = 0 then (bd1 (fX12_sign x74 x91) fun r_1 => (if r_1 = 42 then (fX12_term_42 x91 k8 x74 x92 x93) else (bd1 (fX12_sign x74 x91) fun r_3 => (if r_3 = 47 then (fX12_term_42 x91 k8 x74 x92 x93) else (bd1 (fX12_sign x74 x91) fun r_5 => (if r_5 = 37 then (fX12_term_42 x91 k8 x74 x92 x93) else (some (x74, x92, x93)))))))) else (some (x74, x92, x93))
def fX12_term_8   (x91 : Nat → Int32)  : (Nat → Int32) → (Nat → Int32) → (Nat → Int32) → Option ((Nat → Int32) × (Nat → Int32) × (Nat → Int32)) := lq3 (fX12_term_8b x91 ) 5000
set_option maxHeartbeats 4000000 in
set_option maxRecDepth 100000 in
theorem wX12_term_8 {l : Launch} {b0 : Nat} {D : GD} {K : KT} {n : Nat} {κ : QT} {X0 : XT} {Y0 : YT} {Z : ZT} (hL : LY n κ) (hN : ([74, 91, 92, 93] : List Nat).Nodup) (hM : ([] : List Nat).Nodup) (hC : gC l b0 D K RX12 cX12_term none 2 6 131 0 0) {x91 : Nat → Int32} {rx74 : (Nat → Int32)} {rx92 : (Nat → Int32)} {rx93 : (Nat → Int32)} (hret : ∀ pc loc, decode cX12_term pc = .ok (.return_, 1) → gV l b0 D K (n, κ, ov X0 [74, 91, 92, 93] [rx74, x91, rx92, rx93], ov Y0 [] [], Z, 0, 0) pc loc []) : ∀ (j : Nat) (x74 : (Nat → Int32)) (x92 : (Nat → Int32)) (x93 : (Nat → Int32)), lq3 (fX12_term_8b x91 ) j x74 x92 x93 = some (rx74, rx92, rx93) → gV l b0 D K (n, κ, ov X0 [74, 91, 92, 93] [x74, x91, x92, x93], ov Y0 [] [], Z, 0, 0) 8 [(0, .ref (b0 + 74))] [] := by
  intro j
  induction j with
  | zero => intro x74 x92 x93 hf; cases hf
  | succ j hk8 =>
    intro x74 x92 x93 hf
    replace hf : fX12_term_8b x91  (lq3 (fX12_term_8b x91 ) j) x74 x92 x93 = some (rx74, rx92, rx93) := hf
    unfold fX12_term_8b at hf
    refine g_aload_n hC 0 dX12_term_8 rfl rfl ?_
    refine gt_X12_180 hC (x := x74) (kk_74 hL) (kn_74 hL) (ov_get hN 0 rfl rfl) dX12_term_9 ?_
    refine g_if_ne hC 100 dX12_term_12 (by decide) (fun hc => ?_) (fun hc => ?_)
    · replace hf := ifF hf hc
      obtain ⟨rfl, rfl, rfl⟩ := sm3E hf
      exact hret _ _ dX12_term_100
    · replace hf := ifT hf hc
      refine g_aload_n hC 0 dX12_term_15 rfl rfl ?_
      obtain ⟨r_1, q_2, hf⟩ := bd1E hf
      refine g_callV_i (a := 74) hC (X' := ov X0 [74, 91, 92, 93] [x74, x91, x92, x93]) (Y' := ov Y0 [] []) (As := []) (gMi_eq (c_X12_sign l hL (ov_map hN [0, 1] (by rfl) (by rfl)) (ov_map hM [] (by rfl) (by rfl)) q_2) (ov_ovE hN (by rfl) [0, 1] [2, 3] (by rfl) (by rfl) [x92, x93] (by rfl) (by rfl) (by rfl) 4 (by rfl) (by decide)) (ov_ovE hM (by rfl) [] [] (by rfl) (by rfl) [] (by rfl) (by rfl) (by rfl) 0 (by rfl) (by decide))) tw_1384 tw_1381 tw_127 tw_1383 tw_50 (ci := 12) rfl (by decide) (kk_74 hL) (kn_74 hL) pd_X12_sign (by decide) (by decide) rfl rfl (Nat.le_of_ble_eq_true rfl) rfl dX12_term_16 ?_
      refine g_bipush hC (v := 42) dX12_term_19 bp_42 ?_
      refine g_icmp_eq hC 42 dX12_term_21 (by decide) (fun hc => ?_) (fun hc => ?_)
      · replace hf := ifT hf hc
        exact g_sub [0] rfl (wX12_term_42 hL hN hM hC  hret hk8 hf)
      · replace hf := ifF hf hc
        refine g_aload_n hC 0 dX12_term_24 rfl rfl ?_
        obtain ⟨r_3, q_4, hf⟩ := bd1E hf
        refine g_callV_i (a := 74) hC (X' := ov X0 [74, 91, 92, 93] [x74, x91, x92, x93]) (Y' := ov Y0 [] []) (As := []) (gMi_eq (c_X12_sign l hL (ov_map hN [0, 1] (by rfl) (by rfl)) (ov_map hM [] (by rfl) (by rfl)) q_4) (ov_ovE hN (by rfl) [0, 1] [2, 3] (by rfl) (by rfl) [x92, x93] (by rfl) (by rfl) (by rfl) 4 (by rfl) (by decide)) (ov_ovE hM (by rfl) [] [] (by rfl) (by rfl) [] (by rfl) (by rfl) (by rfl) 0 (by rfl) (by decide))) tw_1384 tw_1381 tw_127 tw_1383 tw_50 (ci := 12) rfl (by decide) (kk_74 hL) (kn_74 hL) pd_X12_sign (by decide) (by decide) rfl rfl (Nat.le_of_ble_eq_true rfl) rfl dX12_term_25 ?_
        refine g_bipush hC (v := 47) dX12_term_28 bp_47 ?_
        refine g_icmp_eq hC 42 dX12_term_30 (by decide) (fun hc => ?_) (fun hc => ?_)
        · replace hf := ifT hf hc
          exact g_sub [0] rfl (wX12_term_42 hL hN hM hC  hret hk8 hf)
        · replace hf := ifF hf hc
          refine g_aload_n hC 0 dX12_term_33 rfl rfl ?_
          obtain ⟨r_5, q_6, hf⟩ := bd1E hf
          refine g_callV_i (a := 74) hC (X' := ov X0 [74, 91, 92, 93] [x74, x91, x92, x93]) (Y' := ov Y0 [] []) (As := []) (gMi_eq (c_X12_sign l hL (ov_map hN [0, 1] (by rfl) (by rfl)) (ov_map hM [] (by rfl) (by rfl)) q_6) (ov_ovE hN (by rfl) [0, 1] [2, 3] (by rfl) (by rfl) [x92, x93] (by rfl) (by rfl) (by rfl) 4 (by rfl) (by decide)) (ov_ovE hM (by rfl) [] [] (by rfl) (by rfl) [] (by rfl) (by rfl) (by rfl) 0 (by rfl) (by decide))) tw_1384 tw_1381 tw_127 tw_1383 tw_50 (ci := 12) rfl (by decide) (kk_74 hL) (kn_74 hL) pd_X12_sign (by decide) (by decide) rfl rfl (Nat.le_of_ble_eq_true rfl) rfl dX12_term_34 ?_
          refine g_bipush hC (v := 37) dX12_term_37 bp_37 ?_
          refine g_icmp_ne hC 100 dX12_term_39 (by decide) (fun hc => ?_) (fun hc => ?_)
          · replace hf := ifF hf hc
            obtain ⟨rfl, rfl, rfl⟩ := sm3E hf
            exact hret _ _ dX12_term_100
          · replace hf := ifT hf hc
            exact g_sub [0] rfl (wX12_term_42 hL hN hM hC  hret hk8 hf)

def fX12_term_0   (x91 : Nat → Int32)  (x74 : (Nat → Int32)) (x92 : (Nat → Int32)) (x93 : (Nat → Int32)) : Option ((Nat → Int32) × (Nat → Int32) × (Nat → Int32)) := bd3 (fX12_value x91 x74 x92 x93) fun x74_1 x92_2 x93_3 => (bd1 (fX12_blanks x91 x74_1) fun x74_5 => (fX12_term_8 x91  x74_5 x92_2 x93_3))
set_option maxHeartbeats 4000000 in
set_option maxRecDepth 100000 in
theorem wX12_term_0 {l : Launch} {b0 : Nat} {D : GD} {K : KT} {n : Nat} {κ : QT} {X0 : XT} {Y0 : YT} {Z : ZT} (hL : LY n κ) (hN : ([74, 91, 92, 93] : List Nat).Nodup) (hM : ([] : List Nat).Nodup) (hC : gC l b0 D K RX12 cX12_term none 2 6 131 0 0) {x91 : Nat → Int32} {rx74 : (Nat → Int32)} {rx92 : (Nat → Int32)} {rx93 : (Nat → Int32)} (hret : ∀ pc loc, decode cX12_term pc = .ok (.return_, 1) → gV l b0 D K (n, κ, ov X0 [74, 91, 92, 93] [rx74, x91, rx92, rx93], ov Y0 [] [], Z, 0, 0) pc loc []) {x74 : (Nat → Int32)} {x92 : (Nat → Int32)} {x93 : (Nat → Int32)} (hf : fX12_term_0 x91  x74 x92 x93 = some (rx74, rx92, rx93)) : gV l b0 D K (n, κ, ov X0 [74, 91, 92, 93] [x74, x91, x92, x93], ov Y0 [] [], Z, 0, 0) 0 [(0, .ref (b0 + 74))] [] := by
  unfold fX12_term_0 at hf
  refine g_aload_n hC 0 dX12_term_0 rfl rfl ?_
  obtain ⟨x74_1, x92_2, x93_3, q_4, hf⟩ := bd3E hf
  refine g_callV_v (a := 74) hC (X' := ov X0 [74, 91, 92, 93] [x74_1, x91, x92_2, x93_3]) (Y' := ov Y0 [] []) (As := []) (gMv_eq (c_X12_value l hL (ov_map hN [0, 1, 2, 3] (by rfl) (by rfl)) (ov_map hM [] (by rfl) (by rfl)) q_4) (ov_ovE hN (by rfl) [0, 1, 2, 3] [] (by rfl) (by rfl) [] (by rfl) (by rfl) (by rfl) 4 (by rfl) (by decide)) (ov_ovE hM (by rfl) [] [] (by rfl) (by rfl) [] (by rfl) (by rfl) (by rfl) 0 (by rfl) (by decide))) tw_1464 tw_1461 tw_127 tw_1463 tw_64 (ci := 12) rfl (by decide) (kk_74 hL) (kn_74 hL) pd_X12_value (by decide) (by decide) rfl rfl (Nat.le_of_ble_eq_true rfl) rfl dX12_term_1 ?_
  refine g_aload_n hC 0 dX12_term_4 rfl rfl ?_
  obtain ⟨x74_5, q_6, hf⟩ := bd1E hf
  refine g_callV_v (a := 74) hC (X' := ov X0 [74, 91, 92, 93] [x74_5, x91, x92_2, x93_3]) (Y' := ov Y0 [] []) (As := []) (gMv_eq (c_X12_blanks l hL (ov_map hN [0, 1] (by rfl) (by rfl)) (ov_map hM [] (by rfl) (by rfl)) q_6) (ov_ovE hN (by rfl) [0, 1] [2, 3] (by rfl) (by rfl) [x92_2, x93_3] (by rfl) (by rfl) (by rfl) 4 (by rfl) (by decide)) (ov_ovE hM (by rfl) [] [] (by rfl) (by rfl) [] (by rfl) (by rfl) (by rfl) 0 (by rfl) (by decide))) tw_1380 tw_1377 tw_127 tw_1379 tw_49 (ci := 12) rfl (by decide) (kk_74 hL) (kn_74 hL) pd_X12_blanks (by decide) (by decide) rfl rfl (Nat.le_of_ble_eq_true rfl) rfl dX12_term_5 ?_
  exact g_sub [0] rfl (wX12_term_8 hL hN hM hC  hret  5000 x74_5 x92_2 x93_3 hf)

def fX12_term   (x91 : Nat → Int32)   (x74 : Nat → Int32) (x92 : Nat → Int32) (x93 : Nat → Int32)  : Option ((Nat → Int32) × (Nat → Int32) × (Nat → Int32)) := fX12_term_0 x91 x74 x92 x93

set_option maxHeartbeats 4000000 in
set_option maxRecDepth 100000 in
theorem c_X12_term (l : Launch) {b0 : Nat} {D : GD} {n : Nat} {κ : QT} {X0 : XT} {Y0 : YT} {Z : ZT} (hL : LY n κ) {x74 : Nat → Int32} {x91 : Nat → Int32} {x92 : Nat → Int32} {x93 : Nat → Int32} (hx : ([74, 91, 92, 93] : List Nat).map X0 = [x74, x91, x92, x93]) (hy : ([] : List Nat).map Y0 = []) {rx74 : (Nat → Int32)} {rx92 : (Nat → Int32)} {rx93 : (Nat → Int32)} (hf : fX12_term x91 x74 x92 x93 = some (rx74, rx92, rx93)) : gMv l yX12_term cX12_term 2 none 6 131 0 0 b0 D [.ref (b0 + 74)] (n, κ, X0, Y0, Z) (n, κ, ov X0 [74, 91, 92, 93] [rx74, x91, rx92, rx93], ov Y0 [] [], Z) := by
  have hN : ([74, 91, 92, 93] : List Nat).Nodup := by decide
  have hM : ([] : List Nat).Nodup := by decide
  refine g_metv (own := RX12) (by decide) rfl rfl (Nat.le_of_ble_eq_true rfl) ?_
  intro K hC hret
  have e := wX12_term_0 hL hN hM hC  hret hf
  rw [ov_id' hx, ov_id' hy] at e
  exact g_sub [0] rfl e

-- X12_sum
def fX12_sum_43   (x91 : Nat → Int32)  (k4 : (Nat → Int32) → (Nat → Int32) → (Nat → Int32) → Option ((Nat → Int32) × (Nat → Int32) × (Nat → Int32))) (s0 : Int32) (x74 : (Nat → Int32)) (x92 : (Nat → Int32)) (x93 : (Nat → Int32)) : Option ((Nat → Int32) × (Nat → Int32) × (Nat → Int32)) := bd3 (fX12_term x91 (upd x74 18 ((x74 18) + 1)) x92 x93) fun x74_1 x92_2 x93_3 => (bd3 (fX12_entry s0 0 x74_1 x92_2 x93_3) fun x74_5 x92_6 x93_7 => (k4 x74_5 x92_6 x93_7))
set_option maxHeartbeats 4000000 in
set_option maxRecDepth 100000 in
theorem wX12_sum_43 {l : Launch} {b0 : Nat} {D : GD} {K : KT} {n : Nat} {κ : QT} {X0 : XT} {Y0 : YT} {Z : ZT} (hL : LY n κ) (hN : ([74, 91, 92, 93] : List Nat).Nodup) (hM : ([] : List Nat).Nodup) (hC : gC l b0 D K RX12 cX12_sum none 2 7 152 0 0) {x91 : Nat → Int32} {rx74 : (Nat → Int32)} {rx92 : (Nat → Int32)} {rx93 : (Nat → Int32)} (hret : ∀ pc loc, decode cX12_sum pc = .ok (.return_, 1) → gV l b0 D K (n, κ, ov X0 [74, 91, 92, 93] [rx74, x91, rx92, rx93], ov Y0 [] [], Z, 0, 0) pc loc []) {k4 : (Nat → Int32) → (Nat → Int32) → (Nat → Int32) → Option ((Nat → Int32) × (Nat → Int32) × (Nat → Int32))} (hk4 : ∀ (x74 : (Nat → Int32)) (x92 : (Nat → Int32)) (x93 : (Nat → Int32)), k4 x74 x92 x93 = some (rx74, rx92, rx93) → gV l b0 D K (n, κ, ov X0 [74, 91, 92, 93] [x74, x91, x92, x93], ov Y0 [] [], Z, 0, 0) 4 [(0, .ref (b0 + 74))] []) {s0 : Int32} {x74 : (Nat → Int32)} {x92 : (Nat → Int32)} {x93 : (Nat → Int32)} (hf : fX12_sum_43 x91 k4 s0 x74 x92 x93 = some (rx74, rx92, rx93)) : gV l b0 D K (n, κ, ov X0 [74, 91, 92, 93] [x74, x91, x92, x93], ov Y0 [] [], Z, 0, 0) 43 [(0, .ref (b0 + 74))] [.int s0] := by
  unfold fX12_sum_43 at hf
  refine g_istore_n hC (i := 1) [(1, .int s0), (0, .ref (b0 + 74))] rfl dX12_sum_43 (by decide) rfl ?_
  refine g_aload_n hC 1 dX12_sum_44 rfl rfl ?_
  refine g_dup hC dX12_sum_45 rfl ?_
  refine gt_X12_183 hC (x := x74) (kk_74 hL) (kn_74 hL) (ov_get hN 0 rfl rfl) dX12_sum_46 ?_
  refine g_iconst hC (v := 1) dX12_sum_49 ic_1 ?_
  refine g_iadd hC dX12_sum_50 ?_
  refine pt_X12_183 hC (x := x74) (kk_74 hL) (kn_74 hL) (ov_get hN 0 rfl rfl) (ov_set hN (by rfl) 0 (by rfl)) dX12_sum_51 ?_
  show gV l b0 D K (n, κ, ov X0 [74, 91, 92, 93] [(upd x74 18 ((x74 18) + 1)), x91, x92, x93], ov Y0 [] [], Z, 0, 0) 54 [(1, .int s0), (0, .ref (b0 + 74))] []
  refine g_aload_n hC 1 dX12_sum_54 rfl rfl ?_
  obtain ⟨x74_1, x92_2, x93_3, q_4, hf⟩ := bd3E hf
  refine g_callV_v (a := 74) hC (X' := ov X0 [74, 91, 92, 93] [x74_1, x91, x92_2, x93_3]) (Y' := ov Y0 [] []) (As := []) (gMv_eq (c_X12_term l hL (ov_map hN [0, 1, 2, 3] (by rfl) (by rfl)) (ov_map hM [] (by rfl) (by rfl)) q_4) (ov_ovE hN (by rfl) [0, 1, 2, 3] [] (by rfl) (by rfl) [] (by rfl) (by rfl) (by rfl) 4 (by rfl) (by decide)) (ov_ovE hM (by rfl) [] [] (by rfl) (by rfl) [] (by rfl) (by rfl) (by rfl) 0 (by rfl) (by decide))) tw_1460 tw_1457 tw_127 tw_1459 tw_63 (ci := 12) rfl (by decide) (kk_74 hL) (kn_74 hL) pd_X12_term (by decide) (by decide) rfl rfl (Nat.le_of_ble_eq_true rfl) rfl dX12_sum_55 ?_
  refine g_aload_n hC 1 dX12_sum_58 rfl rfl ?_
  refine g_iload_n hC 0 dX12_sum_59 rfl rfl ?_
  refine g_iconst hC (v := 0) dX12_sum_60 ic_0 ?_
  obtain ⟨x74_5, x92_6, x93_7, q_8, hf⟩ := bd3E hf
  refine g_callV_v (a := 74) hC (X' := ov X0 [74, 91, 92, 93] [x74_5, x91, x92_6, x93_7]) (Y' := ov Y0 [] []) (As := [.int s0, .int 0]) (gMv_eq (c_X12_entry l hL (ov_map hN [0, 2, 3] (by rfl) (by rfl)) (ov_map hM [] (by rfl) (by rfl)) q_8) (ov_ovE hN (by rfl) [0, 2, 3] [1] (by rfl) (by rfl) [x91] (by rfl) (by rfl) (by rfl) 4 (by rfl) (by decide)) (ov_ovE hM (by rfl) [] [] (by rfl) (by rfl) [] (by rfl) (by rfl) (by rfl) 0 (by rfl) (by decide))) tw_1472 tw_1469 tw_127 tw_1471 tw_66 (ci := 12) rfl (by decide) (kk_74 hL) (kn_74 hL) pd_X12_entry (by decide) (by decide) rfl rfl (Nat.le_of_ble_eq_true rfl) rfl dX12_sum_61 ?_
  refine g_goto hC 4 dX12_sum_64 (by decide) ?_
  exact g_sub [1] rfl (hk4 x74_5 x92_6 x93_7 hf)

def fX12_sum_29   (x91 : Nat → Int32)  (k4 : (Nat → Int32) → (Nat → Int32) → (Nat → Int32) → Option ((Nat → Int32) × (Nat → Int32) × (Nat → Int32))) (x74 : (Nat → Int32)) (x92 : (Nat → Int32)) (x93 : (Nat → Int32)) : Option ((Nat → Int32) × (Nat → Int32) × (Nat → Int32)) := bd1 (fX12_sign x74 x91) fun r_1 => (if r_1 = 43 then (fX12_sum_43 x91 k4 2 x74 x92 x93) else (fX12_sum_43 x91 k4 3 x74 x92 x93))
set_option maxHeartbeats 4000000 in
set_option maxRecDepth 100000 in
theorem wX12_sum_29 {l : Launch} {b0 : Nat} {D : GD} {K : KT} {n : Nat} {κ : QT} {X0 : XT} {Y0 : YT} {Z : ZT} (hL : LY n κ) (hN : ([74, 91, 92, 93] : List Nat).Nodup) (hM : ([] : List Nat).Nodup) (hC : gC l b0 D K RX12 cX12_sum none 2 7 152 0 0) {x91 : Nat → Int32} {rx74 : (Nat → Int32)} {rx92 : (Nat → Int32)} {rx93 : (Nat → Int32)} (hret : ∀ pc loc, decode cX12_sum pc = .ok (.return_, 1) → gV l b0 D K (n, κ, ov X0 [74, 91, 92, 93] [rx74, x91, rx92, rx93], ov Y0 [] [], Z, 0, 0) pc loc []) {k4 : (Nat → Int32) → (Nat → Int32) → (Nat → Int32) → Option ((Nat → Int32) × (Nat → Int32) × (Nat → Int32))} (hk4 : ∀ (x74 : (Nat → Int32)) (x92 : (Nat → Int32)) (x93 : (Nat → Int32)), k4 x74 x92 x93 = some (rx74, rx92, rx93) → gV l b0 D K (n, κ, ov X0 [74, 91, 92, 93] [x74, x91, x92, x93], ov Y0 [] [], Z, 0, 0) 4 [(0, .ref (b0 + 74))] []) {x74 : (Nat → Int32)} {x92 : (Nat → Int32)} {x93 : (Nat → Int32)} (hf : fX12_sum_29 x91 k4 x74 x92 x93 = some (rx74, rx92, rx93)) : gV l b0 D K (n, κ, ov X0 [74, 91, 92, 93] [x74, x91, x92, x93], ov Y0 [] [], Z, 0, 0) 29 [(0, .ref (b0 + 74))] [] := by
  unfold fX12_sum_29 at hf
  refine g_aload_n hC 0 dX12_sum_29 rfl rfl ?_
  obtain ⟨r_1, q_2, hf⟩ := bd1E hf
  refine g_callV_i (a := 74) hC (X' := ov X0 [74, 91, 92, 93] [x74, x91, x92, x93]) (Y' := ov Y0 [] []) (As := []) (gMi_eq (c_X12_sign l hL (ov_map hN [0, 1] (by rfl) (by rfl)) (ov_map hM [] (by rfl) (by rfl)) q_2) (ov_ovE hN (by rfl) [0, 1] [2, 3] (by rfl) (by rfl) [x92, x93] (by rfl) (by rfl) (by rfl) 4 (by rfl) (by decide)) (ov_ovE hM (by rfl) [] [] (by rfl) (by rfl) [] (by rfl) (by rfl) (by rfl) 0 (by rfl) (by decide))) tw_1384 tw_1381 tw_127 tw_1383 tw_50 (ci := 12) rfl (by decide) (kk_74 hL) (kn_74 hL) pd_X12_sign (by decide) (by decide) rfl rfl (Nat.le_of_ble_eq_true rfl) rfl dX12_sum_30 ?_
  refine g_bipush hC (v := 43) dX12_sum_33 bp_43 ?_
  refine g_icmp_ne hC 42 dX12_sum_35 (by decide) (fun hc => ?_) (fun hc => ?_)
  · replace hf := ifF hf hc
    refine g_iconst hC (v := 3) dX12_sum_42 ic_3 ?_
    exact g_sub [0] rfl (wX12_sum_43 hL hN hM hC  hret hk4 hf)
  · replace hf := ifT hf hc
    refine g_iconst hC (v := 2) dX12_sum_38 ic_2 ?_
    refine g_goto hC 43 dX12_sum_39 (by decide) ?_
    exact g_sub [0] rfl (wX12_sum_43 hL hN hM hC  hret hk4 hf)

def fX12_sum_4b   (x91 : Nat → Int32)  (k4 : (Nat → Int32) → (Nat → Int32) → (Nat → Int32) → Option ((Nat → Int32) × (Nat → Int32) × (Nat → Int32))) (x74 : (Nat → Int32)) (x92 : (Nat → Int32)) (x93 : (Nat → Int32)) : Option ((Nat → Int32) × (Nat → Int32) × (Nat → Int32)) := if (x74 19) = 0 then (bd1 (fX12_sign x74 x91) fun r_1 => (if r_1 = 43 then (fX12_sum_29 x91 k4 x74 x92 x93) else (bd1 (fX12_sign x74 x91) fun r_3 => (if r_3 = 45 then (fX12_sum_29 x91 k4 x74 x92 x93) else (some (x74, x92, x93)))))) else (some (x74, x92, x93))
def fX12_sum_4   (x91 : Nat → Int32)  : (Nat → Int32) → (Nat → Int32) → (Nat → Int32) → Option ((Nat → Int32) × (Nat → Int32) × (Nat → Int32)) := lq3 (fX12_sum_4b x91 ) 5000
set_option maxHeartbeats 4000000 in
set_option maxRecDepth 100000 in
theorem wX12_sum_4 {l : Launch} {b0 : Nat} {D : GD} {K : KT} {n : Nat} {κ : QT} {X0 : XT} {Y0 : YT} {Z : ZT} (hL : LY n κ) (hN : ([74, 91, 92, 93] : List Nat).Nodup) (hM : ([] : List Nat).Nodup) (hC : gC l b0 D K RX12 cX12_sum none 2 7 152 0 0) {x91 : Nat → Int32} {rx74 : (Nat → Int32)} {rx92 : (Nat → Int32)} {rx93 : (Nat → Int32)} (hret : ∀ pc loc, decode cX12_sum pc = .ok (.return_, 1) → gV l b0 D K (n, κ, ov X0 [74, 91, 92, 93] [rx74, x91, rx92, rx93], ov Y0 [] [], Z, 0, 0) pc loc []) : ∀ (j : Nat) (x74 : (Nat → Int32)) (x92 : (Nat → Int32)) (x93 : (Nat → Int32)), lq3 (fX12_sum_4b x91 ) j x74 x92 x93 = some (rx74, rx92, rx93) → gV l b0 D K (n, κ, ov X0 [74, 91, 92, 93] [x74, x91, x92, x93], ov Y0 [] [], Z, 0, 0) 4 [(0, .ref (b0 + 74))] [] := by
  intro j
  induction j with
  | zero => intro x74 x92 x93 hf; cases hf
  | succ j hk4 =>
    intro x74 x92 x93 hf
    replace hf : fX12_sum_4b x91  (lq3 (fX12_sum_4b x91 ) j) x74 x92 x93 = some (rx74, rx92, rx93) := hf
    unfold fX12_sum_4b at hf
    refine g_aload_n hC 0 dX12_sum_4 rfl rfl ?_
    refine gt_X12_180 hC (x := x74) (kk_74 hL) (kn_74 hL) (ov_get hN 0 rfl rfl) dX12_sum_5 ?_
    refine g_if_ne hC 67 dX12_sum_8 (by decide) (fun hc => ?_) (fun hc => ?_)
    · replace hf := ifF hf hc
      obtain ⟨rfl, rfl, rfl⟩ := sm3E hf
      exact hret _ _ dX12_sum_67
    · replace hf := ifT hf hc
      refine g_aload_n hC 0 dX12_sum_11 rfl rfl ?_
      obtain ⟨r_1, q_2, hf⟩ := bd1E hf
      refine g_callV_i (a := 74) hC (X' := ov X0 [74, 91, 92, 93] [x74, x91, x92, x93]) (Y' := ov Y0 [] []) (As := []) (gMi_eq (c_X12_sign l hL (ov_map hN [0, 1] (by rfl) (by rfl)) (ov_map hM [] (by rfl) (by rfl)) q_2) (ov_ovE hN (by rfl) [0, 1] [2, 3] (by rfl) (by rfl) [x92, x93] (by rfl) (by rfl) (by rfl) 4 (by rfl) (by decide)) (ov_ovE hM (by rfl) [] [] (by rfl) (by rfl) [] (by rfl) (by rfl) (by rfl) 0 (by rfl) (by decide))) tw_1384 tw_1381 tw_127 tw_1383 tw_50 (ci := 12) rfl (by decide) (kk_74 hL) (kn_74 hL) pd_X12_sign (by decide) (by decide) rfl rfl (Nat.le_of_ble_eq_true rfl) rfl dX12_sum_12 ?_
      refine g_bipush hC (v := 43) dX12_sum_15 bp_43 ?_
      refine g_icmp_eq hC 29 dX12_sum_17 (by decide) (fun hc => ?_) (fun hc => ?_)
      · replace hf := ifT hf hc
        exact g_sub [0] rfl (wX12_sum_29 hL hN hM hC  hret hk4 hf)
      · replace hf := ifF hf hc
        refine g_aload_n hC 0 dX12_sum_20 rfl rfl ?_
        obtain ⟨r_3, q_4, hf⟩ := bd1E hf
        refine g_callV_i (a := 74) hC (X' := ov X0 [74, 91, 92, 93] [x74, x91, x92, x93]) (Y' := ov Y0 [] []) (As := []) (gMi_eq (c_X12_sign l hL (ov_map hN [0, 1] (by rfl) (by rfl)) (ov_map hM [] (by rfl) (by rfl)) q_4) (ov_ovE hN (by rfl) [0, 1] [2, 3] (by rfl) (by rfl) [x92, x93] (by rfl) (by rfl) (by rfl) 4 (by rfl) (by decide)) (ov_ovE hM (by rfl) [] [] (by rfl) (by rfl) [] (by rfl) (by rfl) (by rfl) 0 (by rfl) (by decide))) tw_1384 tw_1381 tw_127 tw_1383 tw_50 (ci := 12) rfl (by decide) (kk_74 hL) (kn_74 hL) pd_X12_sign (by decide) (by decide) rfl rfl (Nat.le_of_ble_eq_true rfl) rfl dX12_sum_21 ?_
        refine g_bipush hC (v := 45) dX12_sum_24 bp_45 ?_
        refine g_icmp_ne hC 67 dX12_sum_26 (by decide) (fun hc => ?_) (fun hc => ?_)
        · replace hf := ifF hf hc
          obtain ⟨rfl, rfl, rfl⟩ := sm3E hf
          exact hret _ _ dX12_sum_67
        · replace hf := ifT hf hc
          exact g_sub [0] rfl (wX12_sum_29 hL hN hM hC  hret hk4 hf)

def fX12_sum_0   (x91 : Nat → Int32)  (x74 : (Nat → Int32)) (x92 : (Nat → Int32)) (x93 : (Nat → Int32)) : Option ((Nat → Int32) × (Nat → Int32) × (Nat → Int32)) := bd3 (fX12_term x91 x74 x92 x93) fun x74_1 x92_2 x93_3 => (fX12_sum_4 x91  x74_1 x92_2 x93_3)
set_option maxHeartbeats 4000000 in
set_option maxRecDepth 100000 in
theorem wX12_sum_0 {l : Launch} {b0 : Nat} {D : GD} {K : KT} {n : Nat} {κ : QT} {X0 : XT} {Y0 : YT} {Z : ZT} (hL : LY n κ) (hN : ([74, 91, 92, 93] : List Nat).Nodup) (hM : ([] : List Nat).Nodup) (hC : gC l b0 D K RX12 cX12_sum none 2 7 152 0 0) {x91 : Nat → Int32} {rx74 : (Nat → Int32)} {rx92 : (Nat → Int32)} {rx93 : (Nat → Int32)} (hret : ∀ pc loc, decode cX12_sum pc = .ok (.return_, 1) → gV l b0 D K (n, κ, ov X0 [74, 91, 92, 93] [rx74, x91, rx92, rx93], ov Y0 [] [], Z, 0, 0) pc loc []) {x74 : (Nat → Int32)} {x92 : (Nat → Int32)} {x93 : (Nat → Int32)} (hf : fX12_sum_0 x91  x74 x92 x93 = some (rx74, rx92, rx93)) : gV l b0 D K (n, κ, ov X0 [74, 91, 92, 93] [x74, x91, x92, x93], ov Y0 [] [], Z, 0, 0) 0 [(0, .ref (b0 + 74))] [] := by
  unfold fX12_sum_0 at hf
  refine g_aload_n hC 0 dX12_sum_0 rfl rfl ?_
  obtain ⟨x74_1, x92_2, x93_3, q_4, hf⟩ := bd3E hf
  refine g_callV_v (a := 74) hC (X' := ov X0 [74, 91, 92, 93] [x74_1, x91, x92_2, x93_3]) (Y' := ov Y0 [] []) (As := []) (gMv_eq (c_X12_term l hL (ov_map hN [0, 1, 2, 3] (by rfl) (by rfl)) (ov_map hM [] (by rfl) (by rfl)) q_4) (ov_ovE hN (by rfl) [0, 1, 2, 3] [] (by rfl) (by rfl) [] (by rfl) (by rfl) (by rfl) 4 (by rfl) (by decide)) (ov_ovE hM (by rfl) [] [] (by rfl) (by rfl) [] (by rfl) (by rfl) (by rfl) 0 (by rfl) (by decide))) tw_1460 tw_1457 tw_127 tw_1459 tw_63 (ci := 12) rfl (by decide) (kk_74 hL) (kn_74 hL) pd_X12_term (by decide) (by decide) rfl rfl (Nat.le_of_ble_eq_true rfl) rfl dX12_sum_1 ?_
  exact g_sub [0] rfl (wX12_sum_4 hL hN hM hC  hret  5000 x74_1 x92_2 x93_3 hf)

def fX12_sum   (x91 : Nat → Int32)   (x74 : Nat → Int32) (x92 : Nat → Int32) (x93 : Nat → Int32)  : Option ((Nat → Int32) × (Nat → Int32) × (Nat → Int32)) := fX12_sum_0 x91 x74 x92 x93

set_option maxHeartbeats 4000000 in
set_option maxRecDepth 100000 in
theorem c_X12_sum (l : Launch) {b0 : Nat} {D : GD} {n : Nat} {κ : QT} {X0 : XT} {Y0 : YT} {Z : ZT} (hL : LY n κ) {x74 : Nat → Int32} {x91 : Nat → Int32} {x92 : Nat → Int32} {x93 : Nat → Int32} (hx : ([74, 91, 92, 93] : List Nat).map X0 = [x74, x91, x92, x93]) (hy : ([] : List Nat).map Y0 = []) {rx74 : (Nat → Int32)} {rx92 : (Nat → Int32)} {rx93 : (Nat → Int32)} (hf : fX12_sum x91 x74 x92 x93 = some (rx74, rx92, rx93)) : gMv l yX12_sum cX12_sum 2 none 7 152 0 0 b0 D [.ref (b0 + 74)] (n, κ, X0, Y0, Z) (n, κ, ov X0 [74, 91, 92, 93] [rx74, x91, rx92, rx93], ov Y0 [] [], Z) := by
  have hN : ([74, 91, 92, 93] : List Nat).Nodup := by decide
  have hM : ([] : List Nat).Nodup := by decide
  refine g_metv (own := RX12) (by decide) rfl rfl (Nat.le_of_ble_eq_true rfl) ?_
  intro K hC hret
  have e := wX12_sum_0 hL hN hM hC  hret hf
  rw [ov_id' hx, ov_id' hy] at e
  exact g_sub [0] rfl e

-- X12_compared
def fX12_compared_139   (x91 : Nat → Int32)  (s0 : Int32) (x74 : (Nat → Int32)) (x92 : (Nat → Int32)) (x93 : (Nat → Int32)) : Option ((Nat → Int32) × (Nat → Int32) × (Nat → Int32)) := bd3 (fX12_entry s0 0 x74 x92 x93) fun x74_1 x92_2 x93_3 => (some (x74_1, x92_2, x93_3))
set_option maxHeartbeats 4000000 in
set_option maxRecDepth 100000 in
theorem wX12_compared_139 {l : Launch} {b0 : Nat} {D : GD} {K : KT} {n : Nat} {κ : QT} {X0 : XT} {Y0 : YT} {Z : ZT} (hL : LY n κ) (hN : ([74, 91, 92, 93] : List Nat).Nodup) (hM : ([] : List Nat).Nodup) (hC : gC l b0 D K RX12 cX12_compared none 3 8 173 0 0) {x91 : Nat → Int32} {rx74 : (Nat → Int32)} {rx92 : (Nat → Int32)} {rx93 : (Nat → Int32)} (hret : ∀ pc loc, decode cX12_compared pc = .ok (.return_, 1) → gV l b0 D K (n, κ, ov X0 [74, 91, 92, 93] [rx74, x91, rx92, rx93], ov Y0 [] [], Z, 0, 0) pc loc []) {s0 : Int32} {x74 : (Nat → Int32)} {x92 : (Nat → Int32)} {x93 : (Nat → Int32)} (hf : fX12_compared_139 x91  s0 x74 x92 x93 = some (rx74, rx92, rx93)) : gV l b0 D K (n, κ, ov X0 [74, 91, 92, 93] [x74, x91, x92, x93], ov Y0 [] [], Z, 0, 0) 139 [] [.int s0, .ref (b0 + 74)] := by
  unfold fX12_compared_139 at hf
  refine g_iconst hC (v := 0) dX12_compared_139 ic_0 ?_
  obtain ⟨x74_1, x92_2, x93_3, q_4, hf⟩ := bd3E hf
  refine g_callV_v (a := 74) hC (X' := ov X0 [74, 91, 92, 93] [x74_1, x91, x92_2, x93_3]) (Y' := ov Y0 [] []) (As := [.int s0, .int 0]) (gMv_eq (c_X12_entry l hL (ov_map hN [0, 2, 3] (by rfl) (by rfl)) (ov_map hM [] (by rfl) (by rfl)) q_4) (ov_ovE hN (by rfl) [0, 2, 3] [1] (by rfl) (by rfl) [x91] (by rfl) (by rfl) (by rfl) 4 (by rfl) (by decide)) (ov_ovE hM (by rfl) [] [] (by rfl) (by rfl) [] (by rfl) (by rfl) (by rfl) 0 (by rfl) (by decide))) tw_1472 tw_1469 tw_127 tw_1471 tw_66 (ci := 12) rfl (by decide) (kk_74 hL) (kn_74 hL) pd_X12_entry (by decide) (by decide) rfl rfl (Nat.le_of_ble_eq_true rfl) rfl dX12_compared_140 ?_
  obtain ⟨rfl, rfl, rfl⟩ := sm3E hf
  exact hret _ _ dX12_compared_143

def fX12_compared_90   (x91 : Nat → Int32)  (v1 : Int32) (v2 : Int32) (s0 : Int32) (s1 : Int32) (x74 : (Nat → Int32)) (x92 : (Nat → Int32)) (x93 : (Nat → Int32)) : Option ((Nat → Int32) × (Nat → Int32) × (Nat → Int32)) := bd3 (fX12_sum x91 (upd x74 18 (s1 + s0)) x92 x93) fun x74_1 x92_2 x93_3 => (if v1 = 61 then (fX12_compared_139 x91  6 x74_1 x92_2 x93_3) else (if v1 = 60 then (if v2 = 0 then (fX12_compared_139 x91  4 x74_1 x92_2 x93_3) else (fX12_compared_139 x91  5 x74_1 x92_2 x93_3)) else (if v2 = 0 then (fX12_compared_139 x91  8 x74_1 x92_2 x93_3) else (fX12_compared_139 x91  7 x74_1 x92_2 x93_3))))
set_option maxHeartbeats 4000000 in
set_option maxRecDepth 100000 in
theorem wX12_compared_90 {l : Launch} {b0 : Nat} {D : GD} {K : KT} {n : Nat} {κ : QT} {X0 : XT} {Y0 : YT} {Z : ZT} (hL : LY n κ) (hN : ([74, 91, 92, 93] : List Nat).Nodup) (hM : ([] : List Nat).Nodup) (hC : gC l b0 D K RX12 cX12_compared none 3 8 173 0 0) {x91 : Nat → Int32} {rx74 : (Nat → Int32)} {rx92 : (Nat → Int32)} {rx93 : (Nat → Int32)} (hret : ∀ pc loc, decode cX12_compared pc = .ok (.return_, 1) → gV l b0 D K (n, κ, ov X0 [74, 91, 92, 93] [rx74, x91, rx92, rx93], ov Y0 [] [], Z, 0, 0) pc loc []) {v1 : Int32} {v2 : Int32} {s0 : Int32} {s1 : Int32} {x74 : (Nat → Int32)} {x92 : (Nat → Int32)} {x93 : (Nat → Int32)} (hf : fX12_compared_90 x91  v1 v2 s0 s1 x74 x92 x93 = some (rx74, rx92, rx93)) : gV l b0 D K (n, κ, ov X0 [74, 91, 92, 93] [x74, x91, x92, x93], ov Y0 [] [], Z, 0, 0) 90 [(0, .ref (b0 + 74)), (1, .int v1), (2, .int v2)] [.int s0, .int s1, .ref (b0 + 74)] := by
  unfold fX12_compared_90 at hf
  refine g_iadd hC dX12_compared_90 ?_
  refine pt_X12_183 hC (x := x74) (kk_74 hL) (kn_74 hL) (ov_get hN 0 rfl rfl) (ov_set hN (by rfl) 0 (by rfl)) dX12_compared_91 ?_
  show gV l b0 D K (n, κ, ov X0 [74, 91, 92, 93] [(upd x74 18 (s1 + s0)), x91, x92, x93], ov Y0 [] [], Z, 0, 0) 94 [(0, .ref (b0 + 74)), (1, .int v1), (2, .int v2)] []
  refine g_aload_n hC 0 dX12_compared_94 rfl rfl ?_
  obtain ⟨x74_1, x92_2, x93_3, q_4, hf⟩ := bd3E hf
  refine g_callV_v (a := 74) hC (X' := ov X0 [74, 91, 92, 93] [x74_1, x91, x92_2, x93_3]) (Y' := ov Y0 [] []) (As := []) (gMv_eq (c_X12_sum l hL (ov_map hN [0, 1, 2, 3] (by rfl) (by rfl)) (ov_map hM [] (by rfl) (by rfl)) q_4) (ov_ovE hN (by rfl) [0, 1, 2, 3] [] (by rfl) (by rfl) [] (by rfl) (by rfl) (by rfl) 4 (by rfl) (by decide)) (ov_ovE hM (by rfl) [] [] (by rfl) (by rfl) [] (by rfl) (by rfl) (by rfl) 0 (by rfl) (by decide))) tw_1456 tw_1453 tw_127 tw_1455 tw_62 (ci := 12) rfl (by decide) (kk_74 hL) (kn_74 hL) pd_X12_sum (by decide) (by decide) rfl rfl (Nat.le_of_ble_eq_true rfl) rfl dX12_compared_95 ?_
  refine g_aload_n hC 0 dX12_compared_98 rfl rfl ?_
  refine g_iload_n hC 1 dX12_compared_99 rfl rfl ?_
  refine g_bipush hC (v := 61) dX12_compared_100 bp_61 ?_
  refine g_icmp_ne hC 110 dX12_compared_102 (by decide) (fun hc => ?_) (fun hc => ?_)
  · replace hf := ifF hf hc
    refine g_iload_n hC 1 dX12_compared_110 rfl rfl ?_
    refine g_bipush hC (v := 60) dX12_compared_111 bp_60 ?_
    refine g_icmp_ne hC 128 dX12_compared_113 (by decide) (fun hc => ?_) (fun hc => ?_)
    · replace hf := ifF hf hc
      refine g_iload_n hC 2 dX12_compared_128 rfl rfl ?_
      refine g_if_eq hC 137 dX12_compared_129 (by decide) (fun hc => ?_) (fun hc => ?_)
      · replace hf := ifT hf hc
        refine g_bipush hC (v := 8) dX12_compared_137 bp_8 ?_
        exact g_sub [] rfl (wX12_compared_139 hL hN hM hC  hret  hf)
      · replace hf := ifF hf hc
        refine g_bipush hC (v := 7) dX12_compared_132 bp_7 ?_
        refine g_goto hC 139 dX12_compared_134 (by decide) ?_
        exact g_sub [] rfl (wX12_compared_139 hL hN hM hC  hret  hf)
    · replace hf := ifT hf hc
      refine g_iload_n hC 2 dX12_compared_116 rfl rfl ?_
      refine g_if_eq hC 124 dX12_compared_117 (by decide) (fun hc => ?_) (fun hc => ?_)
      · replace hf := ifT hf hc
        refine g_iconst hC (v := 4) dX12_compared_124 ic_4 ?_
        refine g_goto hC 139 dX12_compared_125 (by decide) ?_
        exact g_sub [] rfl (wX12_compared_139 hL hN hM hC  hret  hf)
      · replace hf := ifF hf hc
        refine g_iconst hC (v := 5) dX12_compared_120 ic_5 ?_
        refine g_goto hC 139 dX12_compared_121 (by decide) ?_
        exact g_sub [] rfl (wX12_compared_139 hL hN hM hC  hret  hf)
  · replace hf := ifT hf hc
    refine g_bipush hC (v := 6) dX12_compared_105 bp_6 ?_
    refine g_goto hC 139 dX12_compared_107 (by decide) ?_
    exact g_sub [] rfl (wX12_compared_139 hL hN hM hC  hret  hf)

def fX12_compared_75   (x91 : Nat → Int32)  (v1 : Int32) (s0 : Int32) (x74 : (Nat → Int32)) (x92 : (Nat → Int32)) (x93 : (Nat → Int32)) : Option ((Nat → Int32) × (Nat → Int32) × (Nat → Int32)) := if s0 = 0 then (fX12_compared_90 x91  v1 s0 0 (x74 18) x74 x92 x93) else (fX12_compared_90 x91  v1 s0 1 (x74 18) x74 x92 x93)
set_option maxHeartbeats 4000000 in
set_option maxRecDepth 100000 in
theorem wX12_compared_75 {l : Launch} {b0 : Nat} {D : GD} {K : KT} {n : Nat} {κ : QT} {X0 : XT} {Y0 : YT} {Z : ZT} (hL : LY n κ) (hN : ([74, 91, 92, 93] : List Nat).Nodup) (hM : ([] : List Nat).Nodup) (hC : gC l b0 D K RX12 cX12_compared none 3 8 173 0 0) {x91 : Nat → Int32} {rx74 : (Nat → Int32)} {rx92 : (Nat → Int32)} {rx93 : (Nat → Int32)} (hret : ∀ pc loc, decode cX12_compared pc = .ok (.return_, 1) → gV l b0 D K (n, κ, ov X0 [74, 91, 92, 93] [rx74, x91, rx92, rx93], ov Y0 [] [], Z, 0, 0) pc loc []) {v1 : Int32} {s0 : Int32} {x74 : (Nat → Int32)} {x92 : (Nat → Int32)} {x93 : (Nat → Int32)} (hf : fX12_compared_75 x91  v1 s0 x74 x92 x93 = some (rx74, rx92, rx93)) : gV l b0 D K (n, κ, ov X0 [74, 91, 92, 93] [x74, x91, x92, x93], ov Y0 [] [], Z, 0, 0) 75 [(0, .ref (b0 + 74)), (1, .int v1)] [.int s0] := by
  unfold fX12_compared_75 at hf
  refine g_istore_n hC (i := 2) [(2, .int s0), (0, .ref (b0 + 74)), (1, .int v1)] rfl dX12_compared_75 (by decide) rfl ?_
  refine g_aload_n hC 1 dX12_compared_76 rfl rfl ?_
  refine g_dup hC dX12_compared_77 rfl ?_
  refine gt_X12_183 hC (x := x74) (kk_74 hL) (kn_74 hL) (ov_get hN 0 rfl rfl) dX12_compared_78 ?_
  refine g_iload_n hC 0 dX12_compared_81 rfl rfl ?_
  refine g_if_eq hC 89 dX12_compared_82 (by decide) (fun hc => ?_) (fun hc => ?_)
  · replace hf := ifT hf hc
    refine g_iconst hC (v := 0) dX12_compared_89 ic_0 ?_
    exact g_sub [1, 2, 0] rfl (wX12_compared_90 hL hN hM hC  hret  hf)
  · replace hf := ifF hf hc
    refine g_iconst hC (v := 1) dX12_compared_85 ic_1 ?_
    refine g_goto hC 90 dX12_compared_86 (by decide) ?_
    exact g_sub [1, 2, 0] rfl (wX12_compared_90 hL hN hM hC  hret  hf)

def fX12_compared_74   (x91 : Nat → Int32)  (v1 : Int32) (x74 : (Nat → Int32)) (x92 : (Nat → Int32)) (x93 : (Nat → Int32)) : Option ((Nat → Int32) × (Nat → Int32) × (Nat → Int32)) := fX12_compared_75 x91  v1 0 x74 x92 x93
set_option maxHeartbeats 4000000 in
set_option maxRecDepth 100000 in
theorem wX12_compared_74 {l : Launch} {b0 : Nat} {D : GD} {K : KT} {n : Nat} {κ : QT} {X0 : XT} {Y0 : YT} {Z : ZT} (hL : LY n κ) (hN : ([74, 91, 92, 93] : List Nat).Nodup) (hM : ([] : List Nat).Nodup) (hC : gC l b0 D K RX12 cX12_compared none 3 8 173 0 0) {x91 : Nat → Int32} {rx74 : (Nat → Int32)} {rx92 : (Nat → Int32)} {rx93 : (Nat → Int32)} (hret : ∀ pc loc, decode cX12_compared pc = .ok (.return_, 1) → gV l b0 D K (n, κ, ov X0 [74, 91, 92, 93] [rx74, x91, rx92, rx93], ov Y0 [] [], Z, 0, 0) pc loc []) {v1 : Int32} {x74 : (Nat → Int32)} {x92 : (Nat → Int32)} {x93 : (Nat → Int32)} (hf : fX12_compared_74 x91  v1 x74 x92 x93 = some (rx74, rx92, rx93)) : gV l b0 D K (n, κ, ov X0 [74, 91, 92, 93] [x74, x91, x92, x93], ov Y0 [] [], Z, 0, 0) 74 [(0, .ref (b0 + 74)), (1, .int v1)] [] := by
  unfold fX12_compared_74 at hf
  refine g_iconst hC (v := 0) dX12_compared_74 ic_0 ?_
  exact g_sub [0, 1] rfl (wX12_compared_75 hL hN hM hC  hret  hf)

def fX12_compared_37   (x91 : Nat → Int32)  (v1 : Int32) (x74 : (Nat → Int32)) (x92 : (Nat → Int32)) (x93 : (Nat → Int32)) : Option ((Nat → Int32) × (Nat → Int32) × (Nat → Int32)) := bd1 (fX12_isCounted (x74 18) x74) fun x74_1 => (if v1 = 61 then (fX12_compared_74 x91  v1 (upd x74_1 18 ((x74_1 18) + 1)) x92 x93) else (bd1 (fX12_sign (upd x74_1 18 ((x74_1 18) + 1)) x91) fun r_3 => (if r_3 = 61 then (fX12_compared_75 x91  v1 1 (upd x74_1 18 ((x74_1 18) + 1)) x92 x93) else (fX12_compared_74 x91  v1 (upd x74_1 18 ((x74_1 18) + 1)) x92 x93))))
set_option maxHeartbeats 4000000 in
set_option maxRecDepth 100000 in
theorem wX12_compared_37 {l : Launch} {b0 : Nat} {D : GD} {K : KT} {n : Nat} {κ : QT} {X0 : XT} {Y0 : YT} {Z : ZT} (hL : LY n κ) (hN : ([74, 91, 92, 93] : List Nat).Nodup) (hM : ([] : List Nat).Nodup) (hC : gC l b0 D K RX12 cX12_compared none 3 8 173 0 0) {x91 : Nat → Int32} {rx74 : (Nat → Int32)} {rx92 : (Nat → Int32)} {rx93 : (Nat → Int32)} (hret : ∀ pc loc, decode cX12_compared pc = .ok (.return_, 1) → gV l b0 D K (n, κ, ov X0 [74, 91, 92, 93] [rx74, x91, rx92, rx93], ov Y0 [] [], Z, 0, 0) pc loc []) {v1 : Int32} {x74 : (Nat → Int32)} {x92 : (Nat → Int32)} {x93 : (Nat → Int32)} (hf : fX12_compared_37 x91  v1 x74 x92 x93 = some (rx74, rx92, rx93)) : gV l b0 D K (n, κ, ov X0 [74, 91, 92, 93] [x74, x91, x92, x93], ov Y0 [] [], Z, 0, 0) 37 [(0, .ref (b0 + 74)), (1, .int v1)] [] := by
  unfold fX12_compared_37 at hf
  refine g_aload_n hC 0 dX12_compared_37 rfl rfl ?_
  refine g_aload_n hC 0 dX12_compared_38 rfl rfl ?_
  refine gt_X12_183 hC (x := x74) (kk_74 hL) (kn_74 hL) (ov_get hN 0 rfl rfl) dX12_compared_39 ?_
  obtain ⟨x74_1, q_2, hf⟩ := bd1E hf
  refine g_callV_v (a := 74) hC (X' := ov X0 [74, 91, 92, 93] [x74_1, x91, x92, x93]) (Y' := ov Y0 [] []) (As := [.int (x74 18)]) (gMv_eq (c_X12_isCounted l hL (ov_map hN [0] (by rfl) (by rfl)) (ov_map hM [] (by rfl) (by rfl)) q_2) (ov_ovE hN (by rfl) [0] [1, 2, 3] (by rfl) (by rfl) [x91, x92, x93] (by rfl) (by rfl) (by rfl) 4 (by rfl) (by decide)) (ov_ovE hM (by rfl) [] [] (by rfl) (by rfl) [] (by rfl) (by rfl) (by rfl) 0 (by rfl) (by decide))) tw_1468 tw_1465 tw_127 tw_1467 tw_65 (ci := 12) rfl (by decide) (kk_74 hL) (kn_74 hL) pd_X12_isCounted (by decide) (by decide) rfl rfl (Nat.le_of_ble_eq_true rfl) rfl dX12_compared_42 ?_
  refine g_aload_n hC 0 dX12_compared_45 rfl rfl ?_
  refine g_dup hC dX12_compared_46 rfl ?_
  refine gt_X12_183 hC (x := x74_1) (kk_74 hL) (kn_74 hL) (ov_get hN 0 rfl rfl) dX12_compared_47 ?_
  refine g_iconst hC (v := 1) dX12_compared_50 ic_1 ?_
  refine g_iadd hC dX12_compared_51 ?_
  refine pt_X12_183 hC (x := x74_1) (kk_74 hL) (kn_74 hL) (ov_get hN 0 rfl rfl) (ov_set hN (by rfl) 0 (by rfl)) dX12_compared_52 ?_
  show gV l b0 D K (n, κ, ov X0 [74, 91, 92, 93] [(upd x74_1 18 ((x74_1 18) + 1)), x91, x92, x93], ov Y0 [] [], Z, 0, 0) 55 [(0, .ref (b0 + 74)), (1, .int v1)] []
  refine g_iload_n hC 1 dX12_compared_55 rfl rfl ?_
  refine g_bipush hC (v := 61) dX12_compared_56 bp_61 ?_
  refine g_icmp_eq hC 74 dX12_compared_58 (by decide) (fun hc => ?_) (fun hc => ?_)
  · replace hf := ifT hf hc
    exact g_sub [0, 1] rfl (wX12_compared_74 hL hN hM hC  hret  hf)
  · replace hf := ifF hf hc
    refine g_aload_n hC 0 dX12_compared_61 rfl rfl ?_
    obtain ⟨r_3, q_4, hf⟩ := bd1E hf
    refine g_callV_i (a := 74) hC (X' := ov X0 [74, 91, 92, 93] [(upd x74_1 18 ((x74_1 18) + 1)), x91, x92, x93]) (Y' := ov Y0 [] []) (As := []) (gMi_eq (c_X12_sign l hL (ov_map hN [0, 1] (by rfl) (by rfl)) (ov_map hM [] (by rfl) (by rfl)) q_4) (ov_ovE hN (by rfl) [0, 1] [2, 3] (by rfl) (by rfl) [x92, x93] (by rfl) (by rfl) (by rfl) 4 (by rfl) (by decide)) (ov_ovE hM (by rfl) [] [] (by rfl) (by rfl) [] (by rfl) (by rfl) (by rfl) 0 (by rfl) (by decide))) tw_1384 tw_1381 tw_127 tw_1383 tw_50 (ci := 12) rfl (by decide) (kk_74 hL) (kn_74 hL) pd_X12_sign (by decide) (by decide) rfl rfl (Nat.le_of_ble_eq_true rfl) rfl dX12_compared_62 ?_
    refine g_bipush hC (v := 61) dX12_compared_65 bp_61 ?_
    refine g_icmp_ne hC 74 dX12_compared_67 (by decide) (fun hc => ?_) (fun hc => ?_)
    · replace hf := ifF hf hc
      exact g_sub [0, 1] rfl (wX12_compared_74 hL hN hM hC  hret  hf)
    · replace hf := ifT hf hc
      refine g_iconst hC (v := 1) dX12_compared_70 ic_1 ?_
      refine g_goto hC 75 dX12_compared_71 (by decide) ?_
      exact g_sub [0, 1] rfl (wX12_compared_75 hL hN hM hC  hret  hf)

def fX12_compared_0   (x91 : Nat → Int32)  (x74 : (Nat → Int32)) (x92 : (Nat → Int32)) (x93 : (Nat → Int32)) : Option ((Nat → Int32) × (Nat → Int32) × (Nat → Int32)) := bd3 (fX12_sum x91 x74 x92 x93) fun x74_1 x92_2 x93_3 => (bd1 (fX12_sign x74_1 x91) fun r_5 => (if r_5 = 60 then (fX12_compared_37 x91  r_5 x74_1 x92_2 x93_3) else (if r_5 = 61 then (fX12_compared_37 x91  r_5 x74_1 x92_2 x93_3) else (if r_5 = 62 then (fX12_compared_37 x91  r_5 x74_1 x92_2 x93_3) else (bd1 (fX12_fails 0 (x74_1 18) x74_1) fun x74_7 => (some (x74_7, x92_2, x93_3)))))))
set_option maxHeartbeats 4000000 in
set_option maxRecDepth 100000 in
theorem wX12_compared_0 {l : Launch} {b0 : Nat} {D : GD} {K : KT} {n : Nat} {κ : QT} {X0 : XT} {Y0 : YT} {Z : ZT} (hL : LY n κ) (hN : ([74, 91, 92, 93] : List Nat).Nodup) (hM : ([] : List Nat).Nodup) (hC : gC l b0 D K RX12 cX12_compared none 3 8 173 0 0) {x91 : Nat → Int32} {rx74 : (Nat → Int32)} {rx92 : (Nat → Int32)} {rx93 : (Nat → Int32)} (hret : ∀ pc loc, decode cX12_compared pc = .ok (.return_, 1) → gV l b0 D K (n, κ, ov X0 [74, 91, 92, 93] [rx74, x91, rx92, rx93], ov Y0 [] [], Z, 0, 0) pc loc []) {x74 : (Nat → Int32)} {x92 : (Nat → Int32)} {x93 : (Nat → Int32)} (hf : fX12_compared_0 x91  x74 x92 x93 = some (rx74, rx92, rx93)) : gV l b0 D K (n, κ, ov X0 [74, 91, 92, 93] [x74, x91, x92, x93], ov Y0 [] [], Z, 0, 0) 0 [(0, .ref (b0 + 74))] [] := by
  unfold fX12_compared_0 at hf
  refine g_aload_n hC 0 dX12_compared_0 rfl rfl ?_
  obtain ⟨x74_1, x92_2, x93_3, q_4, hf⟩ := bd3E hf
  refine g_callV_v (a := 74) hC (X' := ov X0 [74, 91, 92, 93] [x74_1, x91, x92_2, x93_3]) (Y' := ov Y0 [] []) (As := []) (gMv_eq (c_X12_sum l hL (ov_map hN [0, 1, 2, 3] (by rfl) (by rfl)) (ov_map hM [] (by rfl) (by rfl)) q_4) (ov_ovE hN (by rfl) [0, 1, 2, 3] [] (by rfl) (by rfl) [] (by rfl) (by rfl) (by rfl) 4 (by rfl) (by decide)) (ov_ovE hM (by rfl) [] [] (by rfl) (by rfl) [] (by rfl) (by rfl) (by rfl) 0 (by rfl) (by decide))) tw_1456 tw_1453 tw_127 tw_1455 tw_62 (ci := 12) rfl (by decide) (kk_74 hL) (kn_74 hL) pd_X12_sum (by decide) (by decide) rfl rfl (Nat.le_of_ble_eq_true rfl) rfl dX12_compared_1 ?_
  refine g_aload_n hC 0 dX12_compared_4 rfl rfl ?_
  obtain ⟨r_5, q_6, hf⟩ := bd1E hf
  refine g_callV_i (a := 74) hC (X' := ov X0 [74, 91, 92, 93] [x74_1, x91, x92_2, x93_3]) (Y' := ov Y0 [] []) (As := []) (gMi_eq (c_X12_sign l hL (ov_map hN [0, 1] (by rfl) (by rfl)) (ov_map hM [] (by rfl) (by rfl)) q_6) (ov_ovE hN (by rfl) [0, 1] [2, 3] (by rfl) (by rfl) [x92_2, x93_3] (by rfl) (by rfl) (by rfl) 4 (by rfl) (by decide)) (ov_ovE hM (by rfl) [] [] (by rfl) (by rfl) [] (by rfl) (by rfl) (by rfl) 0 (by rfl) (by decide))) tw_1384 tw_1381 tw_127 tw_1383 tw_50 (ci := 12) rfl (by decide) (kk_74 hL) (kn_74 hL) pd_X12_sign (by decide) (by decide) rfl rfl (Nat.le_of_ble_eq_true rfl) rfl dX12_compared_5 ?_
  refine g_istore_n hC (i := 1) [(1, .int r_5), (0, .ref (b0 + 74))] rfl dX12_compared_8 (by decide) rfl ?_
  refine g_iload_n hC 0 dX12_compared_9 rfl rfl ?_
  refine g_bipush hC (v := 60) dX12_compared_10 bp_60 ?_
  refine g_icmp_eq hC 37 dX12_compared_12 (by decide) (fun hc => ?_) (fun hc => ?_)
  · replace hf := ifT hf hc
    exact g_sub [1, 0] rfl (wX12_compared_37 hL hN hM hC  hret  hf)
  · replace hf := ifF hf hc
    refine g_iload_n hC 0 dX12_compared_15 rfl rfl ?_
    refine g_bipush hC (v := 61) dX12_compared_16 bp_61 ?_
    refine g_icmp_eq hC 37 dX12_compared_18 (by decide) (fun hc => ?_) (fun hc => ?_)
    · replace hf := ifT hf hc
      exact g_sub [1, 0] rfl (wX12_compared_37 hL hN hM hC  hret  hf)
    · replace hf := ifF hf hc
      refine g_iload_n hC 0 dX12_compared_21 rfl rfl ?_
      refine g_bipush hC (v := 62) dX12_compared_22 bp_62 ?_
      refine g_icmp_eq hC 37 dX12_compared_24 (by decide) (fun hc => ?_) (fun hc => ?_)
      · replace hf := ifT hf hc
        exact g_sub [1, 0] rfl (wX12_compared_37 hL hN hM hC  hret  hf)
      · replace hf := ifF hf hc
        refine g_aload_n hC 1 dX12_compared_27 rfl rfl ?_
        refine g_iconst hC (v := 0) dX12_compared_28 ic_0 ?_
        refine g_aload_n hC 1 dX12_compared_29 rfl rfl ?_
        refine gt_X12_183 hC (x := x74_1) (kk_74 hL) (kn_74 hL) (ov_get hN 0 rfl rfl) dX12_compared_30 ?_
        obtain ⟨x74_7, q_8, hf⟩ := bd1E hf
        refine g_callV_v (a := 74) hC (X' := ov X0 [74, 91, 92, 93] [x74_7, x91, x92_2, x93_3]) (Y' := ov Y0 [] []) (As := [.int 0, .int (x74_1 18)]) (gMv_eq (c_X12_fails l hL (ov_map hN [0] (by rfl) (by rfl)) (ov_map hM [] (by rfl) (by rfl)) q_8) (ov_ovE hN (by rfl) [0] [1, 2, 3] (by rfl) (by rfl) [x91, x92_2, x93_3] (by rfl) (by rfl) (by rfl) 4 (by rfl) (by decide)) (ov_ovE hM (by rfl) [] [] (by rfl) (by rfl) [] (by rfl) (by rfl) (by rfl) 0 (by rfl) (by decide))) tw_1402 tw_1399 tw_127 tw_1401 tw_52 (ci := 12) rfl (by decide) (kk_74 hL) (kn_74 hL) pd_X12_fails (by decide) (by decide) rfl rfl (Nat.le_of_ble_eq_true rfl) rfl dX12_compared_33 ?_
        obtain ⟨rfl, rfl, rfl⟩ := sm3E hf
        exact hret _ _ dX12_compared_36

def fX12_compared   (x91 : Nat → Int32)   (x74 : Nat → Int32) (x92 : Nat → Int32) (x93 : Nat → Int32)  : Option ((Nat → Int32) × (Nat → Int32) × (Nat → Int32)) := fX12_compared_0 x91 x74 x92 x93

set_option maxHeartbeats 4000000 in
set_option maxRecDepth 100000 in
theorem c_X12_compared (l : Launch) {b0 : Nat} {D : GD} {n : Nat} {κ : QT} {X0 : XT} {Y0 : YT} {Z : ZT} (hL : LY n κ) {x74 : Nat → Int32} {x91 : Nat → Int32} {x92 : Nat → Int32} {x93 : Nat → Int32} (hx : ([74, 91, 92, 93] : List Nat).map X0 = [x74, x91, x92, x93]) (hy : ([] : List Nat).map Y0 = []) {rx74 : (Nat → Int32)} {rx92 : (Nat → Int32)} {rx93 : (Nat → Int32)} (hf : fX12_compared x91 x74 x92 x93 = some (rx74, rx92, rx93)) : gMv l yX12_compared cX12_compared 3 none 8 173 0 0 b0 D [.ref (b0 + 74)] (n, κ, X0, Y0, Z) (n, κ, ov X0 [74, 91, 92, 93] [rx74, x91, rx92, rx93], ov Y0 [] [], Z) := by
  have hN : ([74, 91, 92, 93] : List Nat).Nodup := by decide
  have hM : ([] : List Nat).Nodup := by decide
  refine g_metv (own := RX12) (by decide) rfl rfl (Nat.le_of_ble_eq_true rfl) ?_
  intro K hC hret
  have e := wX12_compared_0 hL hN hM hC  hret hf
  rw [ov_id' hx, ov_id' hy] at e
  exact g_sub [0] rfl e

-- X12_fact
def fX12_fact_0   (x91 : Nat → Int32)  (x74 : (Nat → Int32)) (x92 : (Nat → Int32)) (x93 : (Nat → Int32)) (x98 : (Nat → Int32)) : Option (Int32 × (Nat → Int32) × (Nat → Int32) × (Nat → Int32) × (Nat → Int32)) := bd1 (fX12_blanks x91 x74) fun x74_1 => (bd1 (fX12_isWordAt 19 x74_1 x91) fun r_3 => (if r_3 = 0 then (bd1 (fX12_sign x74_1 x91) fun r_5 => (if r_5 = 91 then (bd2 (fX12_opens 12 x74_1 x98) fun x74_11 x98_12 => (some (0, (upd x74_11 18 ((x74_11 18) + 1)), x92, x93, x98_12))) else (bd3 (fX12_compared x91 x74_1 x92 x93) fun x74_7 x92_8 x93_9 => (some (1, x74_7, x92_8, x93_9, x98))))) else (bd2 (fX12_opens 9 x74_1 x98) fun x74_14 x98_15 => (some (0, (upd x74_14 18 ((x74_14 18) + 3)), x92, x93, x98_15)))))
set_option maxHeartbeats 4000000 in
set_option maxRecDepth 100000 in
theorem wX12_fact_0 {l : Launch} {b0 : Nat} {D : GD} {K : KT} {n : Nat} {κ : QT} {X0 : XT} {Y0 : YT} {Z : ZT} (hL : LY n κ) (hN : ([74, 91, 92, 93, 98] : List Nat).Nodup) (hM : ([] : List Nat).Nodup) (hC : gC l b0 D K RX12 cX12_fact (some FieldType.boolean) 1 9 195 0 0) {x91 : Nat → Int32} {r : Int32} {rx74 : (Nat → Int32)} {rx92 : (Nat → Int32)} {rx93 : (Nat → Int32)} {rx98 : (Nat → Int32)} (hret : ∀ pc loc, narrow .boolean (.int r) = .int r → decode cX12_fact pc = .ok (.ireturn, 1) → gV l b0 D K (n, κ, ov X0 [74, 91, 92, 93, 98] [rx74, x91, rx92, rx93, rx98], ov Y0 [] [], Z, 0, 0) pc loc [.int r]) {x74 : (Nat → Int32)} {x92 : (Nat → Int32)} {x93 : (Nat → Int32)} {x98 : (Nat → Int32)} (hf : fX12_fact_0 x91  x74 x92 x93 x98 = some (r, rx74, rx92, rx93, rx98)) : gV l b0 D K (n, κ, ov X0 [74, 91, 92, 93, 98] [x74, x91, x92, x93, x98], ov Y0 [] [], Z, 0, 0) 0 [(0, .ref (b0 + 74))] [] := by
  unfold fX12_fact_0 at hf
  refine g_aload_n hC 0 dX12_fact_0 rfl rfl ?_
  obtain ⟨x74_1, q_2, hf⟩ := bd1E hf
  refine g_callV_v (a := 74) hC (X' := ov X0 [74, 91, 92, 93, 98] [x74_1, x91, x92, x93, x98]) (Y' := ov Y0 [] []) (As := []) (gMv_eq (c_X12_blanks l hL (ov_map hN [0, 1] (by rfl) (by rfl)) (ov_map hM [] (by rfl) (by rfl)) q_2) (ov_ovE hN (by rfl) [0, 1] [2, 3, 4] (by rfl) (by rfl) [x92, x93, x98] (by rfl) (by rfl) (by rfl) 5 (by rfl) (by decide)) (ov_ovE hM (by rfl) [] [] (by rfl) (by rfl) [] (by rfl) (by rfl) (by rfl) 0 (by rfl) (by decide))) tw_1380 tw_1377 tw_127 tw_1379 tw_49 (ci := 12) rfl (by decide) (kk_74 hL) (kn_74 hL) pd_X12_blanks (by decide) (by decide) rfl rfl (Nat.le_of_ble_eq_true rfl) rfl dX12_fact_1 ?_
  refine g_aload_n hC 0 dX12_fact_4 rfl rfl ?_
  refine g_ldcWS hC (i := 19) (List.mem_of_getElem? (i := 37) rfl) dX12_fact_5 ?_
  obtain ⟨r_3, q_4, hf⟩ := bd1E hf
  refine g_callV_i (a := 74) hC (X' := ov X0 [74, 91, 92, 93, 98] [x74_1, x91, x92, x93, x98]) (Y' := ov Y0 [] []) (As := [.ref (D.2 (100 + 19))]) (gMi_eq (c_X12_isWordAt l hL (by decide) (ov_map hN [0, 1] (by rfl) (by rfl)) (ov_map hM [] (by rfl) (by rfl)) q_4) (ov_ovE hN (by rfl) [0, 1] [2, 3, 4] (by rfl) (by rfl) [x92, x93, x98] (by rfl) (by rfl) (by rfl) 5 (by rfl) (by decide)) (ov_ovE hM (by rfl) [] [] (by rfl) (by rfl) [] (by rfl) (by rfl) (by rfl) 0 (by rfl) (by decide))) tw_1396 tw_1393 tw_127 tw_1395 tw_51 (ci := 12) rfl (by decide) (kk_74 hL) (kn_74 hL) pd_X12_isWordAt (by decide) (by decide) rfl rfl (Nat.le_of_ble_eq_true rfl) rfl dX12_fact_8 ?_
  refine g_if_eq hC 32 dX12_fact_11 (by decide) (fun hc => ?_) (fun hc => ?_)
  · replace hf := ifT hf hc
    refine g_aload_n hC 0 dX12_fact_32 rfl rfl ?_
    obtain ⟨r_5, q_6, hf⟩ := bd1E hf
    refine g_callV_i (a := 74) hC (X' := ov X0 [74, 91, 92, 93, 98] [x74_1, x91, x92, x93, x98]) (Y' := ov Y0 [] []) (As := []) (gMi_eq (c_X12_sign l hL (ov_map hN [0, 1] (by rfl) (by rfl)) (ov_map hM [] (by rfl) (by rfl)) q_6) (ov_ovE hN (by rfl) [0, 1] [2, 3, 4] (by rfl) (by rfl) [x92, x93, x98] (by rfl) (by rfl) (by rfl) 5 (by rfl) (by decide)) (ov_ovE hM (by rfl) [] [] (by rfl) (by rfl) [] (by rfl) (by rfl) (by rfl) 0 (by rfl) (by decide))) tw_1384 tw_1381 tw_127 tw_1383 tw_50 (ci := 12) rfl (by decide) (kk_74 hL) (kn_74 hL) pd_X12_sign (by decide) (by decide) rfl rfl (Nat.le_of_ble_eq_true rfl) rfl dX12_fact_33 ?_
    refine g_bipush hC (v := 91) dX12_fact_36 bp_91 ?_
    refine g_icmp_ne hC 59 dX12_fact_38 (by decide) (fun hc => ?_) (fun hc => ?_)
    · replace hf := ifF hf hc
      refine g_aload_n hC 0 dX12_fact_59 rfl rfl ?_
      obtain ⟨x74_7, x92_8, x93_9, q_10, hf⟩ := bd3E hf
      refine g_callV_v (a := 74) hC (X' := ov X0 [74, 91, 92, 93, 98] [x74_7, x91, x92_8, x93_9, x98]) (Y' := ov Y0 [] []) (As := []) (gMv_eq (c_X12_compared l hL (ov_map hN [0, 1, 2, 3] (by rfl) (by rfl)) (ov_map hM [] (by rfl) (by rfl)) q_10) (ov_ovE hN (by rfl) [0, 1, 2, 3] [4] (by rfl) (by rfl) [x98] (by rfl) (by rfl) (by rfl) 5 (by rfl) (by decide)) (ov_ovE hM (by rfl) [] [] (by rfl) (by rfl) [] (by rfl) (by rfl) (by rfl) 0 (by rfl) (by decide))) tw_1507 tw_1504 tw_127 tw_1506 tw_71 (ci := 12) rfl (by decide) (kk_74 hL) (kn_74 hL) pd_X12_compared (by decide) (by decide) rfl rfl (Nat.le_of_ble_eq_true rfl) rfl dX12_fact_60 ?_
      refine g_iconst hC (v := 1) dX12_fact_63 ic_1 ?_
      obtain ⟨rfl, rfl, rfl, rfl, rfl⟩ := sm5E hf
      exact hret _ _ rfl dX12_fact_64
    · replace hf := ifT hf hc
      refine g_aload_n hC 0 dX12_fact_41 rfl rfl ?_
      refine g_bipush hC (v := 12) dX12_fact_42 bp_12 ?_
      obtain ⟨x74_11, x98_12, q_13, hf⟩ := bd2E hf
      refine g_callV_v (a := 74) hC (X' := ov X0 [74, 91, 92, 93, 98] [x74_11, x91, x92, x93, x98_12]) (Y' := ov Y0 [] []) (As := [.int 12]) (gMv_eq (c_X12_opens l hL (ov_map hN [0, 4] (by rfl) (by rfl)) (ov_map hM [] (by rfl) (by rfl)) q_13) (ov_ovE hN (by rfl) [0, 4] [1, 2, 3] (by rfl) (by rfl) [x91, x92, x93] (by rfl) (by rfl) (by rfl) 5 (by rfl) (by decide)) (ov_ovE hM (by rfl) [] [] (by rfl) (by rfl) [] (by rfl) (by rfl) (by rfl) 0 (by rfl) (by decide))) tw_1503 tw_1500 tw_127 tw_1502 tw_70 (ci := 12) rfl (by decide) (kk_74 hL) (kn_74 hL) pd_X12_opens (by decide) (by decide) rfl rfl (Nat.le_of_ble_eq_true rfl) rfl dX12_fact_44 ?_
      refine g_aload_n hC 0 dX12_fact_47 rfl rfl ?_
      refine g_dup hC dX12_fact_48 rfl ?_
      refine gt_X12_183 hC (x := x74_11) (kk_74 hL) (kn_74 hL) (ov_get hN 0 rfl rfl) dX12_fact_49 ?_
      refine g_iconst hC (v := 1) dX12_fact_52 ic_1 ?_
      refine g_iadd hC dX12_fact_53 ?_
      refine pt_X12_183 hC (x := x74_11) (kk_74 hL) (kn_74 hL) (ov_get hN 0 rfl rfl) (ov_set hN (by rfl) 0 (by rfl)) dX12_fact_54 ?_
      show gV l b0 D K (n, κ, ov X0 [74, 91, 92, 93, 98] [(upd x74_11 18 ((x74_11 18) + 1)), x91, x92, x93, x98_12], ov Y0 [] [], Z, 0, 0) 57 [(0, .ref (b0 + 74))] []
      refine g_iconst hC (v := 0) dX12_fact_57 ic_0 ?_
      obtain ⟨rfl, rfl, rfl, rfl, rfl⟩ := sm5E hf
      exact hret _ _ rfl dX12_fact_58
  · replace hf := ifF hf hc
    refine g_aload_n hC 0 dX12_fact_14 rfl rfl ?_
    refine g_bipush hC (v := 9) dX12_fact_15 bp_9 ?_
    obtain ⟨x74_14, x98_15, q_16, hf⟩ := bd2E hf
    refine g_callV_v (a := 74) hC (X' := ov X0 [74, 91, 92, 93, 98] [x74_14, x91, x92, x93, x98_15]) (Y' := ov Y0 [] []) (As := [.int 9]) (gMv_eq (c_X12_opens l hL (ov_map hN [0, 4] (by rfl) (by rfl)) (ov_map hM [] (by rfl) (by rfl)) q_16) (ov_ovE hN (by rfl) [0, 4] [1, 2, 3] (by rfl) (by rfl) [x91, x92, x93] (by rfl) (by rfl) (by rfl) 5 (by rfl) (by decide)) (ov_ovE hM (by rfl) [] [] (by rfl) (by rfl) [] (by rfl) (by rfl) (by rfl) 0 (by rfl) (by decide))) tw_1503 tw_1500 tw_127 tw_1502 tw_70 (ci := 12) rfl (by decide) (kk_74 hL) (kn_74 hL) pd_X12_opens (by decide) (by decide) rfl rfl (Nat.le_of_ble_eq_true rfl) rfl dX12_fact_17 ?_
    refine g_aload_n hC 0 dX12_fact_20 rfl rfl ?_
    refine g_dup hC dX12_fact_21 rfl ?_
    refine gt_X12_183 hC (x := x74_14) (kk_74 hL) (kn_74 hL) (ov_get hN 0 rfl rfl) dX12_fact_22 ?_
    refine g_iconst hC (v := 3) dX12_fact_25 ic_3 ?_
    refine g_iadd hC dX12_fact_26 ?_
    refine pt_X12_183 hC (x := x74_14) (kk_74 hL) (kn_74 hL) (ov_get hN 0 rfl rfl) (ov_set hN (by rfl) 0 (by rfl)) dX12_fact_27 ?_
    show gV l b0 D K (n, κ, ov X0 [74, 91, 92, 93, 98] [(upd x74_14 18 ((x74_14 18) + 3)), x91, x92, x93, x98_15], ov Y0 [] [], Z, 0, 0) 30 [(0, .ref (b0 + 74))] []
    refine g_iconst hC (v := 0) dX12_fact_30 ic_0 ?_
    obtain ⟨rfl, rfl, rfl, rfl, rfl⟩ := sm5E hf
    exact hret _ _ rfl dX12_fact_31

def fX12_fact   (x91 : Nat → Int32)   (x74 : Nat → Int32) (x92 : Nat → Int32) (x93 : Nat → Int32) (x98 : Nat → Int32)  : Option (Int32 × (Nat → Int32) × (Nat → Int32) × (Nat → Int32) × (Nat → Int32)) := fX12_fact_0 x91 x74 x92 x93 x98

set_option maxHeartbeats 4000000 in
set_option maxRecDepth 100000 in
theorem c_X12_fact (l : Launch) {b0 : Nat} {D : GD} {n : Nat} {κ : QT} {X0 : XT} {Y0 : YT} {Z : ZT} (hL : LY n κ) {x74 : Nat → Int32} {x91 : Nat → Int32} {x92 : Nat → Int32} {x93 : Nat → Int32} {x98 : Nat → Int32} (hx : ([74, 91, 92, 93, 98] : List Nat).map X0 = [x74, x91, x92, x93, x98]) (hy : ([] : List Nat).map Y0 = []) {r : Int32} {rx74 : (Nat → Int32)} {rx92 : (Nat → Int32)} {rx93 : (Nat → Int32)} {rx98 : (Nat → Int32)} (hf : fX12_fact x91 x74 x92 x93 x98 = some (r, rx74, rx92, rx93, rx98)) : gMi l yX12_fact cX12_fact 1 (some FieldType.boolean) 9 195 0 0 b0 D [.ref (b0 + 74)] (n, κ, X0, Y0, Z) (n, κ, ov X0 [74, 91, 92, 93, 98] [rx74, x91, rx92, rx93, rx98], ov Y0 [] [], Z) r := by
  have hN : ([74, 91, 92, 93, 98] : List Nat).Nodup := by decide
  have hM : ([] : List Nat).Nodup := by decide
  refine g_meti (own := RX12) (by decide) rfl rfl (Nat.le_of_ble_eq_true rfl) ?_
  intro K hC hret
  have e := wX12_fact_0 hL hN hM hC  hret hf
  rw [ov_id' hx, ov_id' hy] at e
  exact g_sub [0] rfl e

-- X12_test
def fX12_test_199   (x91 : Nat → Int32)  (k9 : Int32 → Int32 → (Nat → Int32) → (Nat → Int32) → (Nat → Int32) → (Nat → Int32) → Option ((Nat → Int32) × (Nat → Int32) × (Nat → Int32) × (Nat → Int32))) (v1 : Int32) (v2 : Int32) (x74 : (Nat → Int32)) (x92 : (Nat → Int32)) (x93 : (Nat → Int32)) (x98 : (Nat → Int32)) : Option ((Nat → Int32) × (Nat → Int32) × (Nat → Int32) × (Nat → Int32)) := k9 v1 v2 x74 x92 x93 x98
set_option maxHeartbeats 4000000 in
set_option maxRecDepth 100000 in
theorem wX12_test_199 {l : Launch} {b0 : Nat} {D : GD} {K : KT} {n : Nat} {κ : QT} {X0 : XT} {Y0 : YT} {Z : ZT} (hL : LY n κ) (hN : ([74, 91, 92, 93, 98] : List Nat).Nodup) (hM : ([] : List Nat).Nodup) (hC : gC l b0 D K RX12 cX12_test none 5 10 215 0 0) {x91 : Nat → Int32} {rx74 : (Nat → Int32)} {rx92 : (Nat → Int32)} {rx93 : (Nat → Int32)} {rx98 : (Nat → Int32)} (hret : ∀ pc loc, decode cX12_test pc = .ok (.return_, 1) → gV l b0 D K (n, κ, ov X0 [74, 91, 92, 93, 98] [rx74, x91, rx92, rx93, rx98], ov Y0 [] [], Z, 0, 0) pc loc []) {k9 : Int32 → Int32 → (Nat → Int32) → (Nat → Int32) → (Nat → Int32) → (Nat → Int32) → Option ((Nat → Int32) × (Nat → Int32) × (Nat → Int32) × (Nat → Int32))} (hk9 : ∀ (v1 : Int32) (v2 : Int32) (x74 : (Nat → Int32)) (x92 : (Nat → Int32)) (x93 : (Nat → Int32)) (x98 : (Nat → Int32)), k9 v1 v2 x74 x92 x93 x98 = some (rx74, rx92, rx93, rx98) → gV l b0 D K (n, κ, ov X0 [74, 91, 92, 93, 98] [x74, x91, x92, x93, x98], ov Y0 [] [], Z, 0, 0) 9 [(0, .ref (b0 + 74)), (1, .int v1), (2, .int v2)] []) {v1 : Int32} {v2 : Int32} {x74 : (Nat → Int32)} {x92 : (Nat → Int32)} {x93 : (Nat → Int32)} {x98 : (Nat → Int32)} (hf : fX12_test_199 x91 k9 v1 v2 x74 x92 x93 x98 = some (rx74, rx92, rx93, rx98)) : gV l b0 D K (n, κ, ov X0 [74, 91, 92, 93, 98] [x74, x91, x92, x93, x98], ov Y0 [] [], Z, 0, 0) 199 [(0, .ref (b0 + 74)), (1, .int v1), (2, .int v2)] [] := by
  unfold fX12_test_199 at hf
  refine g_goto hC 9 dX12_test_199 (by decide) ?_
  exact g_sub [0, 1, 2] rfl (hk9 v1 v2 x74 x92 x93 x98 hf)

def fX12_test_164   (x91 : Nat → Int32)  (k9 : Int32 → Int32 → (Nat → Int32) → (Nat → Int32) → (Nat → Int32) → (Nat → Int32) → Option ((Nat → Int32) × (Nat → Int32) × (Nat → Int32) × (Nat → Int32))) (v1 : Int32) (v2 : Int32) (x74 : (Nat → Int32)) (x92 : (Nat → Int32)) (x93 : (Nat → Int32)) (x98 : (Nat → Int32)) : Option ((Nat → Int32) × (Nat → Int32) × (Nat → Int32) × (Nat → Int32)) := fX12_test_199 x91 k9 v1 v2 (upd (upd (upd x74 18 ((x74 18) + 1)) 25 (((upd x74 18 ((x74 18) + 1)) 25) - 1)) 23 (((upd (upd x74 18 ((x74 18) + 1)) 25 (((upd x74 18 ((x74 18) + 1)) 25) - 1)) 23) - 1)) x92 x93 x98
set_option maxHeartbeats 4000000 in
set_option maxRecDepth 100000 in
theorem wX12_test_164 {l : Launch} {b0 : Nat} {D : GD} {K : KT} {n : Nat} {κ : QT} {X0 : XT} {Y0 : YT} {Z : ZT} (hL : LY n κ) (hN : ([74, 91, 92, 93, 98] : List Nat).Nodup) (hM : ([] : List Nat).Nodup) (hC : gC l b0 D K RX12 cX12_test none 5 10 215 0 0) {x91 : Nat → Int32} {rx74 : (Nat → Int32)} {rx92 : (Nat → Int32)} {rx93 : (Nat → Int32)} {rx98 : (Nat → Int32)} (hret : ∀ pc loc, decode cX12_test pc = .ok (.return_, 1) → gV l b0 D K (n, κ, ov X0 [74, 91, 92, 93, 98] [rx74, x91, rx92, rx93, rx98], ov Y0 [] [], Z, 0, 0) pc loc []) {k9 : Int32 → Int32 → (Nat → Int32) → (Nat → Int32) → (Nat → Int32) → (Nat → Int32) → Option ((Nat → Int32) × (Nat → Int32) × (Nat → Int32) × (Nat → Int32))} (hk9 : ∀ (v1 : Int32) (v2 : Int32) (x74 : (Nat → Int32)) (x92 : (Nat → Int32)) (x93 : (Nat → Int32)) (x98 : (Nat → Int32)), k9 v1 v2 x74 x92 x93 x98 = some (rx74, rx92, rx93, rx98) → gV l b0 D K (n, κ, ov X0 [74, 91, 92, 93, 98] [x74, x91, x92, x93, x98], ov Y0 [] [], Z, 0, 0) 9 [(0, .ref (b0 + 74)), (1, .int v1), (2, .int v2)] []) {v1 : Int32} {v2 : Int32} {x74 : (Nat → Int32)} {x92 : (Nat → Int32)} {x93 : (Nat → Int32)} {x98 : (Nat → Int32)} (hf : fX12_test_164 x91 k9 v1 v2 x74 x92 x93 x98 = some (rx74, rx92, rx93, rx98)) : gV l b0 D K (n, κ, ov X0 [74, 91, 92, 93, 98] [x74, x91, x92, x93, x98], ov Y0 [] [], Z, 0, 0) 164 [(0, .ref (b0 + 74)), (1, .int v1), (2, .int v2)] [] := by
  unfold fX12_test_164 at hf
  refine g_aload_n hC 0 dX12_test_164 rfl rfl ?_
  refine g_dup hC dX12_test_165 rfl ?_
  refine gt_X12_183 hC (x := x74) (kk_74 hL) (kn_74 hL) (ov_get hN 0 rfl rfl) dX12_test_166 ?_
  refine g_iconst hC (v := 1) dX12_test_169 ic_1 ?_
  refine g_iadd hC dX12_test_170 ?_
  refine pt_X12_183 hC (x := x74) (kk_74 hL) (kn_74 hL) (ov_get hN 0 rfl rfl) (ov_set hN (by rfl) 0 (by rfl)) dX12_test_171 ?_
  show gV l b0 D K (n, κ, ov X0 [74, 91, 92, 93, 98] [(upd x74 18 ((x74 18) + 1)), x91, x92, x93, x98], ov Y0 [] [], Z, 0, 0) 174 [(0, .ref (b0 + 74)), (1, .int v1), (2, .int v2)] []
  refine g_aload_n hC 0 dX12_test_174 rfl rfl ?_
  refine g_dup hC dX12_test_175 rfl ?_
  refine gt_X12_251 hC (x := (upd x74 18 ((x74 18) + 1))) (kk_74 hL) (kn_74 hL) (ov_get hN 0 rfl rfl) dX12_test_176 ?_
  refine g_iconst hC (v := 1) dX12_test_179 ic_1 ?_
  refine g_isub hC dX12_test_180 ?_
  refine pt_X12_251 hC (x := (upd x74 18 ((x74 18) + 1))) (kk_74 hL) (kn_74 hL) (ov_get hN 0 rfl rfl) (ov_set hN (by rfl) 0 (by rfl)) dX12_test_181 ?_
  show gV l b0 D K (n, κ, ov X0 [74, 91, 92, 93, 98] [(upd (upd x74 18 ((x74 18) + 1)) 25 (((upd x74 18 ((x74 18) + 1)) 25) - 1)), x91, x92, x93, x98], ov Y0 [] [], Z, 0, 0) 184 [(0, .ref (b0 + 74)), (1, .int v1), (2, .int v2)] []
  refine g_aload_n hC 0 dX12_test_184 rfl rfl ?_
  refine g_dup hC dX12_test_185 rfl ?_
  refine gt_X12_254 hC (x := (upd (upd x74 18 ((x74 18) + 1)) 25 (((upd x74 18 ((x74 18) + 1)) 25) - 1))) (kk_74 hL) (kn_74 hL) (ov_get hN 0 rfl rfl) dX12_test_186 ?_
  refine g_iconst hC (v := 1) dX12_test_189 ic_1 ?_
  refine g_isub hC dX12_test_190 ?_
  refine pt_X12_254 hC (x := (upd (upd x74 18 ((x74 18) + 1)) 25 (((upd x74 18 ((x74 18) + 1)) 25) - 1))) (kk_74 hL) (kn_74 hL) (ov_get hN 0 rfl rfl) (ov_set hN (by rfl) 0 (by rfl)) dX12_test_191 ?_
  show gV l b0 D K (n, κ, ov X0 [74, 91, 92, 93, 98] [(upd (upd (upd x74 18 ((x74 18) + 1)) 25 (((upd x74 18 ((x74 18) + 1)) 25) - 1)) 23 (((upd (upd x74 18 ((x74 18) + 1)) 25 (((upd x74 18 ((x74 18) + 1)) 25) - 1)) 23) - 1)), x91, x92, x93, x98], ov Y0 [] [], Z, 0, 0) 194 [(0, .ref (b0 + 74)), (1, .int v1), (2, .int v2)] []
  refine g_goto hC 199 dX12_test_194 (by decide) ?_
  exact g_sub [0, 1, 2] rfl (wX12_test_199 hL hN hM hC  hret hk9 hf)

def fX12_test_122   (x91 : Nat → Int32)  (k9 : Int32 → Int32 → (Nat → Int32) → (Nat → Int32) → (Nat → Int32) → (Nat → Int32) → Option ((Nat → Int32) × (Nat → Int32) × (Nat → Int32) × (Nat → Int32))) (v2 : Int32) (s0 : Int32) (s1 : Int32) (x74 : (Nat → Int32)) (x92 : (Nat → Int32)) (x93 : (Nat → Int32)) (x98 : (Nat → Int32)) : Option ((Nat → Int32) × (Nat → Int32) × (Nat → Int32) × (Nat → Int32)) := fX12_test_199 x91 k9 1 v2 (upd x74 18 (s1 + s0)) x92 x93 x98
set_option maxHeartbeats 4000000 in
set_option maxRecDepth 100000 in
theorem wX12_test_122 {l : Launch} {b0 : Nat} {D : GD} {K : KT} {n : Nat} {κ : QT} {X0 : XT} {Y0 : YT} {Z : ZT} (hL : LY n κ) (hN : ([74, 91, 92, 93, 98] : List Nat).Nodup) (hM : ([] : List Nat).Nodup) (hC : gC l b0 D K RX12 cX12_test none 5 10 215 0 0) {x91 : Nat → Int32} {rx74 : (Nat → Int32)} {rx92 : (Nat → Int32)} {rx93 : (Nat → Int32)} {rx98 : (Nat → Int32)} (hret : ∀ pc loc, decode cX12_test pc = .ok (.return_, 1) → gV l b0 D K (n, κ, ov X0 [74, 91, 92, 93, 98] [rx74, x91, rx92, rx93, rx98], ov Y0 [] [], Z, 0, 0) pc loc []) {k9 : Int32 → Int32 → (Nat → Int32) → (Nat → Int32) → (Nat → Int32) → (Nat → Int32) → Option ((Nat → Int32) × (Nat → Int32) × (Nat → Int32) × (Nat → Int32))} (hk9 : ∀ (v1 : Int32) (v2 : Int32) (x74 : (Nat → Int32)) (x92 : (Nat → Int32)) (x93 : (Nat → Int32)) (x98 : (Nat → Int32)), k9 v1 v2 x74 x92 x93 x98 = some (rx74, rx92, rx93, rx98) → gV l b0 D K (n, κ, ov X0 [74, 91, 92, 93, 98] [x74, x91, x92, x93, x98], ov Y0 [] [], Z, 0, 0) 9 [(0, .ref (b0 + 74)), (1, .int v1), (2, .int v2)] []) {v2 : Int32} {s0 : Int32} {s1 : Int32} {x74 : (Nat → Int32)} {x92 : (Nat → Int32)} {x93 : (Nat → Int32)} {x98 : (Nat → Int32)} (hf : fX12_test_122 x91 k9 v2 s0 s1 x74 x92 x93 x98 = some (rx74, rx92, rx93, rx98)) : gV l b0 D K (n, κ, ov X0 [74, 91, 92, 93, 98] [x74, x91, x92, x93, x98], ov Y0 [] [], Z, 0, 0) 122 [(0, .ref (b0 + 74)), (2, .int v2)] [.int s0, .int s1, .ref (b0 + 74)] := by
  unfold fX12_test_122 at hf
  refine g_iadd hC dX12_test_122 ?_
  refine pt_X12_183 hC (x := x74) (kk_74 hL) (kn_74 hL) (ov_get hN 0 rfl rfl) (ov_set hN (by rfl) 0 (by rfl)) dX12_test_123 ?_
  show gV l b0 D K (n, κ, ov X0 [74, 91, 92, 93, 98] [(upd x74 18 (s1 + s0)), x91, x92, x93, x98], ov Y0 [] [], Z, 0, 0) 126 [(0, .ref (b0 + 74)), (2, .int v2)] []
  refine g_iconst hC (v := 1) dX12_test_126 ic_1 ?_
  refine g_istore_n hC (i := 1) [(1, .int 1), (0, .ref (b0 + 74)), (2, .int v2)] rfl dX12_test_127 (by decide) rfl ?_
  refine g_goto hC 199 dX12_test_128 (by decide) ?_
  exact g_sub [1, 0, 2] rfl (wX12_test_199 hL hN hM hC  hret hk9 hf)

def fX12_test_105   (x91 : Nat → Int32)  (k9 : Int32 → Int32 → (Nat → Int32) → (Nat → Int32) → (Nat → Int32) → (Nat → Int32) → Option ((Nat → Int32) × (Nat → Int32) × (Nat → Int32) × (Nat → Int32))) (v2 : Int32) (v3 : Int32) (s0 : Int32) (x74 : (Nat → Int32)) (x92 : (Nat → Int32)) (x93 : (Nat → Int32)) (x98 : (Nat → Int32)) : Option ((Nat → Int32) × (Nat → Int32) × (Nat → Int32) × (Nat → Int32)) := bd2 (fX12_opens s0 x74 x98) fun x74_1 x98_2 => (if v3 = 0 then (fX12_test_122 x91 k9 v2 2 (x74_1 18) x74_1 x92 x93 x98_2) else (fX12_test_122 x91 k9 v2 3 (x74_1 18) x74_1 x92 x93 x98_2))
set_option maxHeartbeats 4000000 in
set_option maxRecDepth 100000 in
theorem wX12_test_105 {l : Launch} {b0 : Nat} {D : GD} {K : KT} {n : Nat} {κ : QT} {X0 : XT} {Y0 : YT} {Z : ZT} (hL : LY n κ) (hN : ([74, 91, 92, 93, 98] : List Nat).Nodup) (hM : ([] : List Nat).Nodup) (hC : gC l b0 D K RX12 cX12_test none 5 10 215 0 0) {x91 : Nat → Int32} {rx74 : (Nat → Int32)} {rx92 : (Nat → Int32)} {rx93 : (Nat → Int32)} {rx98 : (Nat → Int32)} (hret : ∀ pc loc, decode cX12_test pc = .ok (.return_, 1) → gV l b0 D K (n, κ, ov X0 [74, 91, 92, 93, 98] [rx74, x91, rx92, rx93, rx98], ov Y0 [] [], Z, 0, 0) pc loc []) {k9 : Int32 → Int32 → (Nat → Int32) → (Nat → Int32) → (Nat → Int32) → (Nat → Int32) → Option ((Nat → Int32) × (Nat → Int32) × (Nat → Int32) × (Nat → Int32))} (hk9 : ∀ (v1 : Int32) (v2 : Int32) (x74 : (Nat → Int32)) (x92 : (Nat → Int32)) (x93 : (Nat → Int32)) (x98 : (Nat → Int32)), k9 v1 v2 x74 x92 x93 x98 = some (rx74, rx92, rx93, rx98) → gV l b0 D K (n, κ, ov X0 [74, 91, 92, 93, 98] [x74, x91, x92, x93, x98], ov Y0 [] [], Z, 0, 0) 9 [(0, .ref (b0 + 74)), (1, .int v1), (2, .int v2)] []) {v2 : Int32} {v3 : Int32} {s0 : Int32} {x74 : (Nat → Int32)} {x92 : (Nat → Int32)} {x93 : (Nat → Int32)} {x98 : (Nat → Int32)} (hf : fX12_test_105 x91 k9 v2 v3 s0 x74 x92 x93 x98 = some (rx74, rx92, rx93, rx98)) : gV l b0 D K (n, κ, ov X0 [74, 91, 92, 93, 98] [x74, x91, x92, x93, x98], ov Y0 [] [], Z, 0, 0) 105 [(0, .ref (b0 + 74)), (2, .int v2), (3, .int v3)] [.int s0, .ref (b0 + 74)] := by
  unfold fX12_test_105 at hf
  obtain ⟨x74_1, x98_2, q_3, hf⟩ := bd2E hf
  refine g_callV_v (a := 74) hC (X' := ov X0 [74, 91, 92, 93, 98] [x74_1, x91, x92, x93, x98_2]) (Y' := ov Y0 [] []) (As := [.int s0]) (gMv_eq (c_X12_opens l hL (ov_map hN [0, 4] (by rfl) (by rfl)) (ov_map hM [] (by rfl) (by rfl)) q_3) (ov_ovE hN (by rfl) [0, 4] [1, 2, 3] (by rfl) (by rfl) [x91, x92, x93] (by rfl) (by rfl) (by rfl) 5 (by rfl) (by decide)) (ov_ovE hM (by rfl) [] [] (by rfl) (by rfl) [] (by rfl) (by rfl) (by rfl) 0 (by rfl) (by decide))) tw_1503 tw_1500 tw_127 tw_1502 tw_70 (ci := 12) rfl (by decide) (kk_74 hL) (kn_74 hL) pd_X12_opens (by decide) (by decide) rfl rfl (Nat.le_of_ble_eq_true rfl) rfl dX12_test_105 ?_
  refine g_aload_n hC 0 dX12_test_108 rfl rfl ?_
  refine g_dup hC dX12_test_109 rfl ?_
  refine gt_X12_183 hC (x := x74_1) (kk_74 hL) (kn_74 hL) (ov_get hN 0 rfl rfl) dX12_test_110 ?_
  refine g_iload_n hC 2 dX12_test_113 rfl rfl ?_
  refine g_if_eq hC 121 dX12_test_114 (by decide) (fun hc => ?_) (fun hc => ?_)
  · replace hf := ifT hf hc
    refine g_iconst hC (v := 2) dX12_test_121 ic_2 ?_
    exact g_sub [0, 1] rfl (wX12_test_122 hL hN hM hC  hret hk9 hf)
  · replace hf := ifF hf hc
    refine g_iconst hC (v := 3) dX12_test_117 ic_3 ?_
    refine g_goto hC 122 dX12_test_118 (by decide) ?_
    exact g_sub [0, 1] rfl (wX12_test_122 hL hN hM hC  hret hk9 hf)

def fX12_test_93   (x91 : Nat → Int32)  (k9 : Int32 → Int32 → (Nat → Int32) → (Nat → Int32) → (Nat → Int32) → (Nat → Int32) → Option ((Nat → Int32) × (Nat → Int32) × (Nat → Int32) × (Nat → Int32))) (v2 : Int32) (v3 : Int32) (x74 : (Nat → Int32)) (x92 : (Nat → Int32)) (x93 : (Nat → Int32)) (x98 : (Nat → Int32)) : Option ((Nat → Int32) × (Nat → Int32) × (Nat → Int32) × (Nat → Int32)) := if v3 = 0 then (fX12_test_105 x91 k9 v2 v3 11 x74 x92 x93 x98) else (fX12_test_105 x91 k9 v2 v3 10 x74 x92 x93 x98)
set_option maxHeartbeats 4000000 in
set_option maxRecDepth 100000 in
theorem wX12_test_93 {l : Launch} {b0 : Nat} {D : GD} {K : KT} {n : Nat} {κ : QT} {X0 : XT} {Y0 : YT} {Z : ZT} (hL : LY n κ) (hN : ([74, 91, 92, 93, 98] : List Nat).Nodup) (hM : ([] : List Nat).Nodup) (hC : gC l b0 D K RX12 cX12_test none 5 10 215 0 0) {x91 : Nat → Int32} {rx74 : (Nat → Int32)} {rx92 : (Nat → Int32)} {rx93 : (Nat → Int32)} {rx98 : (Nat → Int32)} (hret : ∀ pc loc, decode cX12_test pc = .ok (.return_, 1) → gV l b0 D K (n, κ, ov X0 [74, 91, 92, 93, 98] [rx74, x91, rx92, rx93, rx98], ov Y0 [] [], Z, 0, 0) pc loc []) {k9 : Int32 → Int32 → (Nat → Int32) → (Nat → Int32) → (Nat → Int32) → (Nat → Int32) → Option ((Nat → Int32) × (Nat → Int32) × (Nat → Int32) × (Nat → Int32))} (hk9 : ∀ (v1 : Int32) (v2 : Int32) (x74 : (Nat → Int32)) (x92 : (Nat → Int32)) (x93 : (Nat → Int32)) (x98 : (Nat → Int32)), k9 v1 v2 x74 x92 x93 x98 = some (rx74, rx92, rx93, rx98) → gV l b0 D K (n, κ, ov X0 [74, 91, 92, 93, 98] [x74, x91, x92, x93, x98], ov Y0 [] [], Z, 0, 0) 9 [(0, .ref (b0 + 74)), (1, .int v1), (2, .int v2)] []) {v2 : Int32} {v3 : Int32} {x74 : (Nat → Int32)} {x92 : (Nat → Int32)} {x93 : (Nat → Int32)} {x98 : (Nat → Int32)} (hf : fX12_test_93 x91 k9 v2 v3 x74 x92 x93 x98 = some (rx74, rx92, rx93, rx98)) : gV l b0 D K (n, κ, ov X0 [74, 91, 92, 93, 98] [x74, x91, x92, x93, x98], ov Y0 [] [], Z, 0, 0) 93 [(0, .ref (b0 + 74)), (2, .int v2), (3, .int v3)] [] := by
  unfold fX12_test_93 at hf
  refine g_aload_n hC 0 dX12_test_93 rfl rfl ?_
  refine g_iload_n hC 2 dX12_test_94 rfl rfl ?_
  refine g_if_eq hC 103 dX12_test_95 (by decide) (fun hc => ?_) (fun hc => ?_)
  · replace hf := ifT hf hc
    refine g_bipush hC (v := 11) dX12_test_103 bp_11 ?_
    exact g_sub [0, 1, 2] rfl (wX12_test_105 hL hN hM hC  hret hk9 hf)
  · replace hf := ifF hf hc
    refine g_bipush hC (v := 10) dX12_test_98 bp_10 ?_
    refine g_goto hC 105 dX12_test_100 (by decide) ?_
    exact g_sub [0, 1, 2] rfl (wX12_test_105 hL hN hM hC  hret hk9 hf)

def fX12_test_82   (x91 : Nat → Int32)  (k9 : Int32 → Int32 → (Nat → Int32) → (Nat → Int32) → (Nat → Int32) → (Nat → Int32) → Option ((Nat → Int32) × (Nat → Int32) × (Nat → Int32) × (Nat → Int32))) (v2 : Int32) (v3 : Int32) (v4 : Int32) (x74 : (Nat → Int32)) (x92 : (Nat → Int32)) (x93 : (Nat → Int32)) (x98 : (Nat → Int32)) : Option ((Nat → Int32) × (Nat → Int32) × (Nat → Int32) × (Nat → Int32)) := if v4 = 0 then (fX12_test_93 x91 k9 v2 v3 x74 x92 x93 x98) else (bd3 (fX12_answers x98 11 x74 x92 x93) fun x74_1 x92_2 x93_3 => (fX12_test_93 x91 k9 v2 v3 x74_1 x92_2 x93_3 x98))
set_option maxHeartbeats 4000000 in
set_option maxRecDepth 100000 in
theorem wX12_test_82 {l : Launch} {b0 : Nat} {D : GD} {K : KT} {n : Nat} {κ : QT} {X0 : XT} {Y0 : YT} {Z : ZT} (hL : LY n κ) (hN : ([74, 91, 92, 93, 98] : List Nat).Nodup) (hM : ([] : List Nat).Nodup) (hC : gC l b0 D K RX12 cX12_test none 5 10 215 0 0) {x91 : Nat → Int32} {rx74 : (Nat → Int32)} {rx92 : (Nat → Int32)} {rx93 : (Nat → Int32)} {rx98 : (Nat → Int32)} (hret : ∀ pc loc, decode cX12_test pc = .ok (.return_, 1) → gV l b0 D K (n, κ, ov X0 [74, 91, 92, 93, 98] [rx74, x91, rx92, rx93, rx98], ov Y0 [] [], Z, 0, 0) pc loc []) {k9 : Int32 → Int32 → (Nat → Int32) → (Nat → Int32) → (Nat → Int32) → (Nat → Int32) → Option ((Nat → Int32) × (Nat → Int32) × (Nat → Int32) × (Nat → Int32))} (hk9 : ∀ (v1 : Int32) (v2 : Int32) (x74 : (Nat → Int32)) (x92 : (Nat → Int32)) (x93 : (Nat → Int32)) (x98 : (Nat → Int32)), k9 v1 v2 x74 x92 x93 x98 = some (rx74, rx92, rx93, rx98) → gV l b0 D K (n, κ, ov X0 [74, 91, 92, 93, 98] [x74, x91, x92, x93, x98], ov Y0 [] [], Z, 0, 0) 9 [(0, .ref (b0 + 74)), (1, .int v1), (2, .int v2)] []) {v2 : Int32} {v3 : Int32} {v4 : Int32} {x74 : (Nat → Int32)} {x92 : (Nat → Int32)} {x93 : (Nat → Int32)} {x98 : (Nat → Int32)} (hf : fX12_test_82 x91 k9 v2 v3 v4 x74 x92 x93 x98 = some (rx74, rx92, rx93, rx98)) : gV l b0 D K (n, κ, ov X0 [74, 91, 92, 93, 98] [x74, x91, x92, x93, x98], ov Y0 [] [], Z, 0, 0) 82 [(0, .ref (b0 + 74)), (2, .int v2), (3, .int v3), (4, .int v4)] [] := by
  unfold fX12_test_82 at hf
  refine g_iload hC 3 dX12_test_82 rfl ?_
  refine g_if_eq hC 93 dX12_test_84 (by decide) (fun hc => ?_) (fun hc => ?_)
  · replace hf := ifT hf hc
    exact g_sub [0, 1, 2] rfl (wX12_test_93 hL hN hM hC  hret hk9 hf)
  · replace hf := ifF hf hc
    refine g_aload_n hC 0 dX12_test_87 rfl rfl ?_
    refine g_bipush hC (v := 11) dX12_test_88 bp_11 ?_
    obtain ⟨x74_1, x92_2, x93_3, q_4, hf⟩ := bd3E hf
    refine g_callV_v (a := 74) hC (X' := ov X0 [74, 91, 92, 93, 98] [x74_1, x91, x92_2, x93_3, x98]) (Y' := ov Y0 [] []) (As := [.int 11]) (gMv_eq (c_X12_answers l hL (ov_map hN [0, 2, 3, 4] (by rfl) (by rfl)) (ov_map hM [] (by rfl) (by rfl)) q_4) (ov_ovE hN (by rfl) [0, 2, 3, 4] [1] (by rfl) (by rfl) [x91] (by rfl) (by rfl) (by rfl) 5 (by rfl) (by decide)) (ov_ovE hM (by rfl) [] [] (by rfl) (by rfl) [] (by rfl) (by rfl) (by rfl) 0 (by rfl) (by decide))) tw_1511 tw_1508 tw_127 tw_1510 tw_72 (ci := 12) rfl (by decide) (kk_74 hL) (kn_74 hL) pd_X12_answers (by decide) (by decide) rfl rfl (Nat.le_of_ble_eq_true rfl) rfl dX12_test_90 ?_
    exact g_sub [0, 1, 2] rfl (wX12_test_93 hL hN hM hC  hret hk9 hf)

def fX12_test_36   (x91 : Nat → Int32)  (k9 : Int32 → Int32 → (Nat → Int32) → (Nat → Int32) → (Nat → Int32) → (Nat → Int32) → Option ((Nat → Int32) × (Nat → Int32) × (Nat → Int32) × (Nat → Int32))) (v2 : Int32) (s0 : Int32) (x74 : (Nat → Int32)) (x92 : (Nat → Int32)) (x93 : (Nat → Int32)) (x98 : (Nat → Int32)) : Option ((Nat → Int32) × (Nat → Int32) × (Nat → Int32) × (Nat → Int32)) := k9 s0 v2 x74 x92 x93 x98
set_option maxHeartbeats 4000000 in
set_option maxRecDepth 100000 in
theorem wX12_test_36 {l : Launch} {b0 : Nat} {D : GD} {K : KT} {n : Nat} {κ : QT} {X0 : XT} {Y0 : YT} {Z : ZT} (hL : LY n κ) (hN : ([74, 91, 92, 93, 98] : List Nat).Nodup) (hM : ([] : List Nat).Nodup) (hC : gC l b0 D K RX12 cX12_test none 5 10 215 0 0) {x91 : Nat → Int32} {rx74 : (Nat → Int32)} {rx92 : (Nat → Int32)} {rx93 : (Nat → Int32)} {rx98 : (Nat → Int32)} (hret : ∀ pc loc, decode cX12_test pc = .ok (.return_, 1) → gV l b0 D K (n, κ, ov X0 [74, 91, 92, 93, 98] [rx74, x91, rx92, rx93, rx98], ov Y0 [] [], Z, 0, 0) pc loc []) {k9 : Int32 → Int32 → (Nat → Int32) → (Nat → Int32) → (Nat → Int32) → (Nat → Int32) → Option ((Nat → Int32) × (Nat → Int32) × (Nat → Int32) × (Nat → Int32))} (hk9 : ∀ (v1 : Int32) (v2 : Int32) (x74 : (Nat → Int32)) (x92 : (Nat → Int32)) (x93 : (Nat → Int32)) (x98 : (Nat → Int32)), k9 v1 v2 x74 x92 x93 x98 = some (rx74, rx92, rx93, rx98) → gV l b0 D K (n, κ, ov X0 [74, 91, 92, 93, 98] [x74, x91, x92, x93, x98], ov Y0 [] [], Z, 0, 0) 9 [(0, .ref (b0 + 74)), (1, .int v1), (2, .int v2)] []) {v2 : Int32} {s0 : Int32} {x74 : (Nat → Int32)} {x92 : (Nat → Int32)} {x93 : (Nat → Int32)} {x98 : (Nat → Int32)} (hf : fX12_test_36 x91 k9 v2 s0 x74 x92 x93 x98 = some (rx74, rx92, rx93, rx98)) : gV l b0 D K (n, κ, ov X0 [74, 91, 92, 93, 98] [x74, x91, x92, x93, x98], ov Y0 [] [], Z, 0, 0) 36 [(0, .ref (b0 + 74)), (2, .int v2)] [.int s0] := by
  unfold fX12_test_36 at hf
  refine g_istore_n hC (i := 1) [(1, .int s0), (0, .ref (b0 + 74)), (2, .int v2)] rfl dX12_test_36 (by decide) rfl ?_
  refine g_goto hC 9 dX12_test_37 (by decide) ?_
  exact g_sub [1, 0, 2] rfl (hk9 s0 v2 x74 x92 x93 x98 hf)

def fX12_test_9b   (x91 : Nat → Int32)  (k9 : Int32 → Int32 → (Nat → Int32) → (Nat → Int32) → (Nat → Int32) → (Nat → Int32) → Option ((Nat → Int32) × (Nat → Int32) × (Nat → Int32) × (Nat → Int32))) (v1 : Int32) (v2 : Int32) (x74 : (Nat → Int32)) (x92 : (Nat → Int32)) (x93 : (Nat → Int32)) (x98 : (Nat → Int32)) : Option ((Nat → Int32) × (Nat → Int32) × (Nat → Int32) × (Nat → Int32)) := if v2 = 0 then (some (x74, x92, x93, x98)) else (if (x74 19) = 0 then (if v1 = 0 then (bd3 (fX12_answers x98 9 x74 x92 x93) fun x74_1 x92_2 x93_3 => (bd1 (fX12_blanks x91 x74_1) fun x74_5 => (bd1 (fX12_isWordAt 18 x74_5 x91) fun r_7 => (bd1 (fX12_isWordAt 17 x74_5 x91) fun r_9 => (bd3 (fX12_answers x98 10 x74_5 x92_2 x93_3) fun x74_11 x92_12 x93_13 => (if r_7 = 0 then (if r_9 = 0 then (bd3 (fX12_answers x98 11 x74_11 x92_12 x93_13) fun x74_15 x92_16 x93_17 => (bd1 (fX12_top x74_15 x98) fun r_19 => (if r_19 = 12 then (bd1 (fX12_sign x74_15 x91) fun r_21 => (if r_21 = 93 then (fX12_test_164 x91 k9 v1 v2 x74_15 x92_16 x93_17 x98) else (bd1 (fX12_fails 0 (x74_15 18) x74_15) fun x74_23 => (fX12_test_164 x91 k9 v1 v2 x74_23 x92_16 x93_17 x98)))) else (fX12_test_199 x91 k9 v1 0 x74_15 x92_16 x93_17 x98)))) else (fX12_test_82 x91 k9 v2 r_7 r_9 x74_11 x92_12 x93_13 x98)) else (fX12_test_82 x91 k9 v2 r_7 r_9 x74_11 x92_12 x93_13 x98))))))) else (bd5 (fX12_fact x91 x74 x92 x93 x98) fun r_25 x74_26 x92_27 x93_28 x98_29 => (if r_25 = 0 then (fX12_test_36 x91 k9 v2 1 x74_26 x92_27 x93_28 x98_29) else (fX12_test_36 x91 k9 v2 0 x74_26 x92_27 x93_28 x98_29)))) else (some (x74, x92, x93, x98)))
def fX12_test_9   (x91 : Nat → Int32)  : Int32 → Int32 → (Nat → Int32) → (Nat → Int32) → (Nat → Int32) → (Nat → Int32) → Option ((Nat → Int32) × (Nat → Int32) × (Nat → Int32) × (Nat → Int32)) := lq6 (fX12_test_9b x91 ) 5000
set_option maxHeartbeats 4000000 in
set_option maxRecDepth 100000 in
theorem wX12_test_9 {l : Launch} {b0 : Nat} {D : GD} {K : KT} {n : Nat} {κ : QT} {X0 : XT} {Y0 : YT} {Z : ZT} (hL : LY n κ) (hN : ([74, 91, 92, 93, 98] : List Nat).Nodup) (hM : ([] : List Nat).Nodup) (hC : gC l b0 D K RX12 cX12_test none 5 10 215 0 0) {x91 : Nat → Int32} {rx74 : (Nat → Int32)} {rx92 : (Nat → Int32)} {rx93 : (Nat → Int32)} {rx98 : (Nat → Int32)} (hret : ∀ pc loc, decode cX12_test pc = .ok (.return_, 1) → gV l b0 D K (n, κ, ov X0 [74, 91, 92, 93, 98] [rx74, x91, rx92, rx93, rx98], ov Y0 [] [], Z, 0, 0) pc loc []) : ∀ (j : Nat) (v1 : Int32) (v2 : Int32) (x74 : (Nat → Int32)) (x92 : (Nat → Int32)) (x93 : (Nat → Int32)) (x98 : (Nat → Int32)), lq6 (fX12_test_9b x91 ) j v1 v2 x74 x92 x93 x98 = some (rx74, rx92, rx93, rx98) → gV l b0 D K (n, κ, ov X0 [74, 91, 92, 93, 98] [x74, x91, x92, x93, x98], ov Y0 [] [], Z, 0, 0) 9 [(0, .ref (b0 + 74)), (1, .int v1), (2, .int v2)] [] := by
  intro j
  induction j with
  | zero => intro v1 v2 x74 x92 x93 x98 hf; cases hf
  | succ j hk9 =>
    intro v1 v2 x74 x92 x93 x98 hf
    replace hf : fX12_test_9b x91  (lq6 (fX12_test_9b x91 ) j) v1 v2 x74 x92 x93 x98 = some (rx74, rx92, rx93, rx98) := hf
    unfold fX12_test_9b at hf
    refine g_iload_n hC 2 dX12_test_9 rfl rfl ?_
    refine g_if_eq hC 202 dX12_test_10 (by decide) (fun hc => ?_) (fun hc => ?_)
    · replace hf := ifT hf hc
      obtain ⟨rfl, rfl, rfl, rfl⟩ := sm4E hf
      exact hret _ _ dX12_test_202
    · replace hf := ifF hf hc
      refine g_aload_n hC 0 dX12_test_13 rfl rfl ?_
      refine gt_X12_180 hC (x := x74) (kk_74 hL) (kn_74 hL) (ov_get hN 0 rfl rfl) dX12_test_14 ?_
      refine g_if_ne hC 202 dX12_test_17 (by decide) (fun hc => ?_) (fun hc => ?_)
      · replace hf := ifF hf hc
        obtain ⟨rfl, rfl, rfl, rfl⟩ := sm4E hf
        exact hret _ _ dX12_test_202
      · replace hf := ifT hf hc
        refine g_iload_n hC 1 dX12_test_20 rfl rfl ?_
        refine g_if_eq hC 40 dX12_test_21 (by decide) (fun hc => ?_) (fun hc => ?_)
        · replace hf := ifT hf hc
          refine g_aload_n hC 0 dX12_test_40 rfl rfl ?_
          refine g_bipush hC (v := 9) dX12_test_41 bp_9 ?_
          obtain ⟨x74_1, x92_2, x93_3, q_4, hf⟩ := bd3E hf
          refine g_callV_v (a := 74) hC (X' := ov X0 [74, 91, 92, 93, 98] [x74_1, x91, x92_2, x93_3, x98]) (Y' := ov Y0 [] []) (As := [.int 9]) (gMv_eq (c_X12_answers l hL (ov_map hN [0, 2, 3, 4] (by rfl) (by rfl)) (ov_map hM [] (by rfl) (by rfl)) q_4) (ov_ovE hN (by rfl) [0, 2, 3, 4] [1] (by rfl) (by rfl) [x91] (by rfl) (by rfl) (by rfl) 5 (by rfl) (by decide)) (ov_ovE hM (by rfl) [] [] (by rfl) (by rfl) [] (by rfl) (by rfl) (by rfl) 0 (by rfl) (by decide))) tw_1511 tw_1508 tw_127 tw_1510 tw_72 (ci := 12) rfl (by decide) (kk_74 hL) (kn_74 hL) pd_X12_answers (by decide) (by decide) rfl rfl (Nat.le_of_ble_eq_true rfl) rfl dX12_test_43 ?_
          refine g_aload_n hC 0 dX12_test_46 rfl rfl ?_
          obtain ⟨x74_5, q_6, hf⟩ := bd1E hf
          refine g_callV_v (a := 74) hC (X' := ov X0 [74, 91, 92, 93, 98] [x74_5, x91, x92_2, x93_3, x98]) (Y' := ov Y0 [] []) (As := []) (gMv_eq (c_X12_blanks l hL (ov_map hN [0, 1] (by rfl) (by rfl)) (ov_map hM [] (by rfl) (by rfl)) q_6) (ov_ovE hN (by rfl) [0, 1] [2, 3, 4] (by rfl) (by rfl) [x92_2, x93_3, x98] (by rfl) (by rfl) (by rfl) 5 (by rfl) (by decide)) (ov_ovE hM (by rfl) [] [] (by rfl) (by rfl) [] (by rfl) (by rfl) (by rfl) 0 (by rfl) (by decide))) tw_1380 tw_1377 tw_127 tw_1379 tw_49 (ci := 12) rfl (by decide) (kk_74 hL) (kn_74 hL) pd_X12_blanks (by decide) (by decide) rfl rfl (Nat.le_of_ble_eq_true rfl) rfl dX12_test_47 ?_
          refine g_aload_n hC 0 dX12_test_50 rfl rfl ?_
          refine g_ldcWS hC (i := 18) (List.mem_of_getElem? (i := 38) rfl) dX12_test_51 ?_
          obtain ⟨r_7, q_8, hf⟩ := bd1E hf
          refine g_callV_i (a := 74) hC (X' := ov X0 [74, 91, 92, 93, 98] [x74_5, x91, x92_2, x93_3, x98]) (Y' := ov Y0 [] []) (As := [.ref (D.2 (100 + 18))]) (gMi_eq (c_X12_isWordAt l hL (by decide) (ov_map hN [0, 1] (by rfl) (by rfl)) (ov_map hM [] (by rfl) (by rfl)) q_8) (ov_ovE hN (by rfl) [0, 1] [2, 3, 4] (by rfl) (by rfl) [x92_2, x93_3, x98] (by rfl) (by rfl) (by rfl) 5 (by rfl) (by decide)) (ov_ovE hM (by rfl) [] [] (by rfl) (by rfl) [] (by rfl) (by rfl) (by rfl) 0 (by rfl) (by decide))) tw_1396 tw_1393 tw_127 tw_1395 tw_51 (ci := 12) rfl (by decide) (kk_74 hL) (kn_74 hL) pd_X12_isWordAt (by decide) (by decide) rfl rfl (Nat.le_of_ble_eq_true rfl) rfl dX12_test_54 ?_
          refine g_istore_n hC (i := 3) [(3, .int r_7), (0, .ref (b0 + 74)), (1, .int v1), (2, .int v2)] rfl dX12_test_57 (by decide) rfl ?_
          refine g_aload_n hC 1 dX12_test_58 rfl rfl ?_
          refine g_ldcWS hC (i := 17) (List.mem_of_getElem? (i := 39) rfl) dX12_test_59 ?_
          obtain ⟨r_9, q_10, hf⟩ := bd1E hf
          refine g_callV_i (a := 74) hC (X' := ov X0 [74, 91, 92, 93, 98] [x74_5, x91, x92_2, x93_3, x98]) (Y' := ov Y0 [] []) (As := [.ref (D.2 (100 + 17))]) (gMi_eq (c_X12_isWordAt l hL (by decide) (ov_map hN [0, 1] (by rfl) (by rfl)) (ov_map hM [] (by rfl) (by rfl)) q_10) (ov_ovE hN (by rfl) [0, 1] [2, 3, 4] (by rfl) (by rfl) [x92_2, x93_3, x98] (by rfl) (by rfl) (by rfl) 5 (by rfl) (by decide)) (ov_ovE hM (by rfl) [] [] (by rfl) (by rfl) [] (by rfl) (by rfl) (by rfl) 0 (by rfl) (by decide))) tw_1396 tw_1393 tw_127 tw_1395 tw_51 (ci := 12) rfl (by decide) (kk_74 hL) (kn_74 hL) pd_X12_isWordAt (by decide) (by decide) rfl rfl (Nat.le_of_ble_eq_true rfl) rfl dX12_test_62 ?_
          refine g_istore hC (i := 4) [(4, .int r_9), (3, .int r_7), (0, .ref (b0 + 74)), (1, .int v1), (2, .int v2)] dX12_test_65 (by decide) rfl ?_
          refine g_aload_n hC 2 dX12_test_67 rfl rfl ?_
          refine g_bipush hC (v := 10) dX12_test_68 bp_10 ?_
          obtain ⟨x74_11, x92_12, x93_13, q_14, hf⟩ := bd3E hf
          refine g_callV_v (a := 74) hC (X' := ov X0 [74, 91, 92, 93, 98] [x74_11, x91, x92_12, x93_13, x98]) (Y' := ov Y0 [] []) (As := [.int 10]) (gMv_eq (c_X12_answers l hL (ov_map hN [0, 2, 3, 4] (by rfl) (by rfl)) (ov_map hM [] (by rfl) (by rfl)) q_14) (ov_ovE hN (by rfl) [0, 2, 3, 4] [1] (by rfl) (by rfl) [x91] (by rfl) (by rfl) (by rfl) 5 (by rfl) (by decide)) (ov_ovE hM (by rfl) [] [] (by rfl) (by rfl) [] (by rfl) (by rfl) (by rfl) 0 (by rfl) (by decide))) tw_1511 tw_1508 tw_127 tw_1510 tw_72 (ci := 12) rfl (by decide) (kk_74 hL) (kn_74 hL) pd_X12_answers (by decide) (by decide) rfl rfl (Nat.le_of_ble_eq_true rfl) rfl dX12_test_70 ?_
          refine g_iload_n hC 1 dX12_test_73 rfl rfl ?_
          refine g_if_ne hC 82 dX12_test_74 (by decide) (fun hc => ?_) (fun hc => ?_)
          · replace hf := ifF hf hc
            exact g_sub [2, 4, 1, 0] rfl (wX12_test_82 hL hN hM hC  hret hk9 hf)
          · replace hf := ifT hf hc
            refine g_iload hC 0 dX12_test_77 rfl ?_
            refine g_if_eq hC 131 dX12_test_79 (by decide) (fun hc => ?_) (fun hc => ?_)
            · replace hf := ifT hf hc
              refine g_aload_n hC 2 dX12_test_131 rfl rfl ?_
              refine g_bipush hC (v := 11) dX12_test_132 bp_11 ?_
              obtain ⟨x74_15, x92_16, x93_17, q_18, hf⟩ := bd3E hf
              refine g_callV_v (a := 74) hC (X' := ov X0 [74, 91, 92, 93, 98] [x74_15, x91, x92_16, x93_17, x98]) (Y' := ov Y0 [] []) (As := [.int 11]) (gMv_eq (c_X12_answers l hL (ov_map hN [0, 2, 3, 4] (by rfl) (by rfl)) (ov_map hM [] (by rfl) (by rfl)) q_18) (ov_ovE hN (by rfl) [0, 2, 3, 4] [1] (by rfl) (by rfl) [x91] (by rfl) (by rfl) (by rfl) 5 (by rfl) (by decide)) (ov_ovE hM (by rfl) [] [] (by rfl) (by rfl) [] (by rfl) (by rfl) (by rfl) 0 (by rfl) (by decide))) tw_1511 tw_1508 tw_127 tw_1510 tw_72 (ci := 12) rfl (by decide) (kk_74 hL) (kn_74 hL) pd_X12_answers (by decide) (by decide) rfl rfl (Nat.le_of_ble_eq_true rfl) rfl dX12_test_134 ?_
              refine g_aload_n hC 2 dX12_test_137 rfl rfl ?_
              obtain ⟨r_19, q_20, hf⟩ := bd1E hf
              refine g_callV_i (a := 74) hC (X' := ov X0 [74, 91, 92, 93, 98] [x74_15, x91, x92_16, x93_17, x98]) (Y' := ov Y0 [] []) (As := []) (gMi_eq (c_X12_top l hL (ov_map hN [0, 4] (by rfl) (by rfl)) (ov_map hM [] (by rfl) (by rfl)) q_20) (ov_ovE hN (by rfl) [0, 4] [1, 2, 3] (by rfl) (by rfl) [x91, x92_16, x93_17] (by rfl) (by rfl) (by rfl) 5 (by rfl) (by decide)) (ov_ovE hM (by rfl) [] [] (by rfl) (by rfl) [] (by rfl) (by rfl) (by rfl) 0 (by rfl) (by decide))) tw_1515 tw_1512 tw_127 tw_1514 tw_73 (ci := 12) rfl (by decide) (kk_74 hL) (kn_74 hL) pd_X12_top (by decide) (by decide) rfl rfl (Nat.le_of_ble_eq_true rfl) rfl dX12_test_138 ?_
              refine g_bipush hC (v := 12) dX12_test_141 bp_12 ?_
              refine g_icmp_ne hC 197 dX12_test_143 (by decide) (fun hc => ?_) (fun hc => ?_)
              · replace hf := ifF hf hc
                refine g_iconst hC (v := 0) dX12_test_197 ic_0 ?_
                refine g_istore_n hC (i := 2) [(2, .int 0), (4, .int r_9), (3, .int r_7), (0, .ref (b0 + 74)), (1, .int v1)] rfl dX12_test_198 (by decide) rfl ?_
                exact g_sub [3, 4, 0] rfl (wX12_test_199 hL hN hM hC  hret hk9 hf)
              · replace hf := ifT hf hc
                refine g_aload_n hC 2 dX12_test_146 rfl rfl ?_
                obtain ⟨r_21, q_22, hf⟩ := bd1E hf
                refine g_callV_i (a := 74) hC (X' := ov X0 [74, 91, 92, 93, 98] [x74_15, x91, x92_16, x93_17, x98]) (Y' := ov Y0 [] []) (As := []) (gMi_eq (c_X12_sign l hL (ov_map hN [0, 1] (by rfl) (by rfl)) (ov_map hM [] (by rfl) (by rfl)) q_22) (ov_ovE hN (by rfl) [0, 1] [2, 3, 4] (by rfl) (by rfl) [x92_16, x93_17, x98] (by rfl) (by rfl) (by rfl) 5 (by rfl) (by decide)) (ov_ovE hM (by rfl) [] [] (by rfl) (by rfl) [] (by rfl) (by rfl) (by rfl) 0 (by rfl) (by decide))) tw_1384 tw_1381 tw_127 tw_1383 tw_50 (ci := 12) rfl (by decide) (kk_74 hL) (kn_74 hL) pd_X12_sign (by decide) (by decide) rfl rfl (Nat.le_of_ble_eq_true rfl) rfl dX12_test_147 ?_
                refine g_bipush hC (v := 93) dX12_test_150 bp_93 ?_
                refine g_icmp_eq hC 164 dX12_test_152 (by decide) (fun hc => ?_) (fun hc => ?_)
                · replace hf := ifT hf hc
                  exact g_sub [2, 3, 4] rfl (wX12_test_164 hL hN hM hC  hret hk9 hf)
                · replace hf := ifF hf hc
                  refine g_aload_n hC 2 dX12_test_155 rfl rfl ?_
                  refine g_iconst hC (v := 0) dX12_test_156 ic_0 ?_
                  refine g_aload_n hC 2 dX12_test_157 rfl rfl ?_
                  refine gt_X12_183 hC (x := x74_15) (kk_74 hL) (kn_74 hL) (ov_get hN 0 rfl rfl) dX12_test_158 ?_
                  obtain ⟨x74_23, q_24, hf⟩ := bd1E hf
                  refine g_callV_v (a := 74) hC (X' := ov X0 [74, 91, 92, 93, 98] [x74_23, x91, x92_16, x93_17, x98]) (Y' := ov Y0 [] []) (As := [.int 0, .int (x74_15 18)]) (gMv_eq (c_X12_fails l hL (ov_map hN [0] (by rfl) (by rfl)) (ov_map hM [] (by rfl) (by rfl)) q_24) (ov_ovE hN (by rfl) [0] [1, 2, 3, 4] (by rfl) (by rfl) [x91, x92_16, x93_17, x98] (by rfl) (by rfl) (by rfl) 5 (by rfl) (by decide)) (ov_ovE hM (by rfl) [] [] (by rfl) (by rfl) [] (by rfl) (by rfl) (by rfl) 0 (by rfl) (by decide))) tw_1402 tw_1399 tw_127 tw_1401 tw_52 (ci := 12) rfl (by decide) (kk_74 hL) (kn_74 hL) pd_X12_fails (by decide) (by decide) rfl rfl (Nat.le_of_ble_eq_true rfl) rfl dX12_test_161 ?_
                  exact g_sub [2, 3, 4] rfl (wX12_test_164 hL hN hM hC  hret hk9 hf)
            · replace hf := ifF hf hc
              exact g_sub [2, 4, 1, 0] rfl (wX12_test_82 hL hN hM hC  hret hk9 hf)
        · replace hf := ifF hf hc
          refine g_aload_n hC 0 dX12_test_24 rfl rfl ?_
          obtain ⟨r_25, x74_26, x92_27, x93_28, x98_29, q_30, hf⟩ := bd5E hf
          refine g_callV_i (a := 74) hC (X' := ov X0 [74, 91, 92, 93, 98] [x74_26, x91, x92_27, x93_28, x98_29]) (Y' := ov Y0 [] []) (As := []) (gMi_eq (c_X12_fact l hL (ov_map hN [0, 1, 2, 3, 4] (by rfl) (by rfl)) (ov_map hM [] (by rfl) (by rfl)) q_30) (ov_ovE hN (by rfl) [0, 1, 2, 3, 4] [] (by rfl) (by rfl) [] (by rfl) (by rfl) (by rfl) 5 (by rfl) (by decide)) (ov_ovE hM (by rfl) [] [] (by rfl) (by rfl) [] (by rfl) (by rfl) (by rfl) 0 (by rfl) (by decide))) tw_1498 tw_1495 tw_127 tw_1497 tw_69 (ci := 12) rfl (by decide) (kk_74 hL) (kn_74 hL) pd_X12_fact (by decide) (by decide) rfl rfl (Nat.le_of_ble_eq_true rfl) rfl dX12_test_25 ?_
          refine g_if_ne hC 35 dX12_test_28 (by decide) (fun hc => ?_) (fun hc => ?_)
          · replace hf := ifF hf hc
            refine g_iconst hC (v := 0) dX12_test_35 ic_0 ?_
            exact g_sub [0, 2] rfl (wX12_test_36 hL hN hM hC  hret hk9 hf)
          · replace hf := ifT hf hc
            refine g_iconst hC (v := 1) dX12_test_31 ic_1 ?_
            refine g_goto hC 36 dX12_test_32 (by decide) ?_
            exact g_sub [0, 2] rfl (wX12_test_36 hL hN hM hC  hret hk9 hf)

def fX12_test_0   (x91 : Nat → Int32)  (x74 : (Nat → Int32)) (x92 : (Nat → Int32)) (x93 : (Nat → Int32)) (x98 : (Nat → Int32)) : Option ((Nat → Int32) × (Nat → Int32) × (Nat → Int32) × (Nat → Int32)) := fX12_test_9 x91  1 1 (upd x74 25 0) x92 x93 x98
set_option maxHeartbeats 4000000 in
set_option maxRecDepth 100000 in
theorem wX12_test_0 {l : Launch} {b0 : Nat} {D : GD} {K : KT} {n : Nat} {κ : QT} {X0 : XT} {Y0 : YT} {Z : ZT} (hL : LY n κ) (hN : ([74, 91, 92, 93, 98] : List Nat).Nodup) (hM : ([] : List Nat).Nodup) (hC : gC l b0 D K RX12 cX12_test none 5 10 215 0 0) {x91 : Nat → Int32} {rx74 : (Nat → Int32)} {rx92 : (Nat → Int32)} {rx93 : (Nat → Int32)} {rx98 : (Nat → Int32)} (hret : ∀ pc loc, decode cX12_test pc = .ok (.return_, 1) → gV l b0 D K (n, κ, ov X0 [74, 91, 92, 93, 98] [rx74, x91, rx92, rx93, rx98], ov Y0 [] [], Z, 0, 0) pc loc []) {x74 : (Nat → Int32)} {x92 : (Nat → Int32)} {x93 : (Nat → Int32)} {x98 : (Nat → Int32)} (hf : fX12_test_0 x91  x74 x92 x93 x98 = some (rx74, rx92, rx93, rx98)) : gV l b0 D K (n, κ, ov X0 [74, 91, 92, 93, 98] [x74, x91, x92, x93, x98], ov Y0 [] [], Z, 0, 0) 0 [(0, .ref (b0 + 74))] [] := by
  unfold fX12_test_0 at hf
  refine g_aload_n hC 0 dX12_test_0 rfl rfl ?_
  refine g_iconst hC (v := 0) dX12_test_1 ic_0 ?_
  refine pt_X12_251 hC (x := x74) (kk_74 hL) (kn_74 hL) (ov_get hN 0 rfl rfl) (ov_set hN (by rfl) 0 (by rfl)) dX12_test_2 ?_
  show gV l b0 D K (n, κ, ov X0 [74, 91, 92, 93, 98] [(upd x74 25 0), x91, x92, x93, x98], ov Y0 [] [], Z, 0, 0) 5 [(0, .ref (b0 + 74))] []
  refine g_iconst hC (v := 1) dX12_test_5 ic_1 ?_
  refine g_istore_n hC (i := 1) [(1, .int 1), (0, .ref (b0 + 74))] rfl dX12_test_6 (by decide) rfl ?_
  refine g_iconst hC (v := 1) dX12_test_7 ic_1 ?_
  refine g_istore_n hC (i := 2) [(2, .int 1), (1, .int 1), (0, .ref (b0 + 74))] rfl dX12_test_8 (by decide) rfl ?_
  exact g_sub [2, 1, 0] rfl (wX12_test_9 hL hN hM hC  hret  5000 1 1 (upd x74 25 0) x92 x93 x98 hf)

def fX12_test   (x91 : Nat → Int32)   (x74 : Nat → Int32) (x92 : Nat → Int32) (x93 : Nat → Int32) (x98 : Nat → Int32)  : Option ((Nat → Int32) × (Nat → Int32) × (Nat → Int32) × (Nat → Int32)) := fX12_test_0 x91 x74 x92 x93 x98

set_option maxHeartbeats 4000000 in
set_option maxRecDepth 100000 in
theorem c_X12_test (l : Launch) {b0 : Nat} {D : GD} {n : Nat} {κ : QT} {X0 : XT} {Y0 : YT} {Z : ZT} (hL : LY n κ) {x74 : Nat → Int32} {x91 : Nat → Int32} {x92 : Nat → Int32} {x93 : Nat → Int32} {x98 : Nat → Int32} (hx : ([74, 91, 92, 93, 98] : List Nat).map X0 = [x74, x91, x92, x93, x98]) (hy : ([] : List Nat).map Y0 = []) {rx74 : (Nat → Int32)} {rx92 : (Nat → Int32)} {rx93 : (Nat → Int32)} {rx98 : (Nat → Int32)} (hf : fX12_test x91 x74 x92 x93 x98 = some (rx74, rx92, rx93, rx98)) : gMv l yX12_test cX12_test 5 none 10 215 0 0 b0 D [.ref (b0 + 74)] (n, κ, X0, Y0, Z) (n, κ, ov X0 [74, 91, 92, 93, 98] [rx74, x91, rx92, rx93, rx98], ov Y0 [] [], Z) := by
  have hN : ([74, 91, 92, 93, 98] : List Nat).Nodup := by decide
  have hM : ([] : List Nat).Nodup := by decide
  refine g_metv (own := RX12) (by decide) rfl rfl (Nat.le_of_ble_eq_true rfl) ?_
  intro K hC hret
  have e := wX12_test_0 hL hN hM hC  hret hf
  rw [ov_id' hx, ov_id' hy] at e
  exact g_sub [0] rfl e

-- X12_townWord
def fX12_townWord_0     (v0 : Int32) : Option (Nat) := if v0.toInt = 0 then (some 12) else (if v0.toInt = 1 then (some 8) else (if v0.toInt = 2 then (some 13) else (if v0.toInt = 3 then (some 14) else (some 6))))
set_option maxHeartbeats 4000000 in
set_option maxRecDepth 100000 in
theorem wX12_townWord_0 {l : Launch} {b0 : Nat} {D : GD} {K : KT} {n : Nat} {κ : QT} {X0 : XT} {Y0 : YT} {Z : ZT} (hL : LY n κ) (hN : ([] : List Nat).Nodup) (hM : ([] : List Nat).Nodup) (hC : gC l b0 D K RX12 cX12_townWord (some (FieldType.object "java/lang/String")) 1 0 0 0 0) {r : Nat} (hret : ∀ pc loc, decode cX12_townWord pc = .ok (.areturn, 1) → gV l b0 D K (n, κ, ov X0 [] [], ov Y0 [] [], Z, 0, 0) pc loc [.ref (D.2 (100 + r))]) {v0 : Int32} (hf : fX12_townWord_0   v0 = some r) : gV l b0 D K (n, κ, ov X0 [] [], ov Y0 [] [], Z, 0, 0) 0 [(0, .int v0)] [] := by
  unfold fX12_townWord_0 at hf
  refine g_iload_n hC 0 dX12_townWord_0 rfl rfl ?_
  by_cases c_1 : v0.toInt = 0
  · replace hf := ifT hf c_1
    refine g_tabIn hC 32 dX12_townWord_1 (by omega) (by omega) (by rw [c_1]; rfl) (by decide) ?_
    refine g_ldcWS hC (i := 12) (List.mem_of_getElem? (i := 20) rfl) dX12_townWord_32 ?_
    obtain rfl := sm1E hf
    exact hret _ _ dX12_townWord_35
  replace hf := ifF hf c_1
  by_cases c_2 : v0.toInt = 1
  · replace hf := ifT hf c_2
    refine g_tabIn hC 36 dX12_townWord_1 (by omega) (by omega) (by rw [c_2]; rfl) (by decide) ?_
    refine g_ldcS hC (i := 8) (List.mem_of_getElem? (i := 21) rfl) dX12_townWord_36 ?_
    obtain rfl := sm1E hf
    exact hret _ _ dX12_townWord_38
  replace hf := ifF hf c_2
  by_cases c_3 : v0.toInt = 2
  · replace hf := ifT hf c_3
    refine g_tabIn hC 39 dX12_townWord_1 (by omega) (by omega) (by rw [c_3]; rfl) (by decide) ?_
    refine g_ldcWS hC (i := 13) (List.mem_of_getElem? (i := 22) rfl) dX12_townWord_39 ?_
    obtain rfl := sm1E hf
    exact hret _ _ dX12_townWord_42
  replace hf := ifF hf c_3
  by_cases c_4 : v0.toInt = 3
  · replace hf := ifT hf c_4
    refine g_tabIn hC 43 dX12_townWord_1 (by omega) (by omega) (by rw [c_4]; rfl) (by decide) ?_
    refine g_ldcWS hC (i := 14) (List.mem_of_getElem? (i := 23) rfl) dX12_townWord_43 ?_
    obtain rfl := sm1E hf
    exact hret _ _ dX12_townWord_46
  replace hf := ifF hf c_4
  refine g_tabOut hC 47 dX12_townWord_1 (by omega) (by decide) ?_
  refine g_ldcS hC (i := 6) (List.mem_of_getElem? (i := 24) rfl) dX12_townWord_47 ?_
  obtain rfl := sm1E hf
  exact hret _ _ dX12_townWord_49

def fX12_townWord     (v0 : Int32)   : Option (Nat) := fX12_townWord_0  v0

set_option maxHeartbeats 4000000 in
set_option maxRecDepth 100000 in
theorem c_X12_townWord (l : Launch) {b0 : Nat} {D : GD} {n : Nat} {κ : QT} {X0 : XT} {Y0 : YT} {Z : ZT} (hL : LY n κ) (hx : ([] : List Nat).map X0 = []) (hy : ([] : List Nat).map Y0 = []) {v0 : Int32} {r : Nat} (hf : fX12_townWord  v0 = some r) : gMs l yX12_townWord cX12_townWord 1 (some (FieldType.object "java/lang/String")) 0 0 0 0 b0 D [.int v0] (n, κ, X0, Y0, Z) (n, κ, ov X0 [] [], ov Y0 [] [], Z) r := by
  have hN : ([] : List Nat).Nodup := by decide
  have hM : ([] : List Nat).Nodup := by decide
  refine g_mets (own := RX12) (by decide) rfl rfl (Nat.le_of_ble_eq_true rfl) ?_
  intro K hC hret
  have e := wX12_townWord_0 hL hN hM hC  hret hf
  rw [ov_id' hx, ov_id' hy] at e
  exact g_sub [0] rfl e

-- X12_townClause
def fX12_townClause_33   (x91 : Nat → Int32)  (v1 : Int32) (v2 : Int32) (v3 : Int32) (x74 : (Nat → Int32)) (x86 : (Nat → Int32)) (x87 : (Nat → Int32)) (x88 : (Nat → Int32)) (x89 : (Nat → Int32)) (x90 : (Nat → Int32)) : Option ((Nat → Int32) × (Nat → Int32) × (Nat → Int32) × (Nat → Int32) × (Nat → Int32) × (Nat → Int32)) := if v3 = 5 then (bd1 (fX12_fails 0 v2 x74) fun x74_15 => (some (x74_15, x86, x87, x88, x89, x90))) else (bd1 (fX12_isFull x86 v3 v1) fun r_1 => (if r_1 = 0 then (bd1 (fX12_townWord v3) fun r_3 => (gd (decide (r_3 < nStr)) (bd6 (fX12_townPart x91 v3 (upd x74 18 ((x74 18) + (slen r_3))) x86 x87 x88 x89 x90) fun x74_6 x86_7 x87_8 x88_9 x89_10 x90_11 => (some (x74_6, x86_7, x87_8, x88_9, x89_10, x90_11))))) else (bd1 (fX12_fails 4 v2 x74) fun x74_13 => (some (x74_13, x86, x87, x88, x89, x90)))))
set_option maxHeartbeats 4000000 in
set_option maxRecDepth 100000 in
theorem wX12_townClause_33 {l : Launch} {b0 : Nat} {D : GD} {K : KT} {n : Nat} {κ : QT} {X0 : XT} {Y0 : YT} {Z : ZT} (hL : LY n κ) (hN : ([74, 86, 87, 88, 89, 90, 91] : List Nat).Nodup) (hM : ([] : List Nat).Nodup) (hC : gC l b0 D K RX12 cX12_townClause none 4 6 139 0 0) {x91 : Nat → Int32} {rx74 : (Nat → Int32)} {rx86 : (Nat → Int32)} {rx87 : (Nat → Int32)} {rx88 : (Nat → Int32)} {rx89 : (Nat → Int32)} {rx90 : (Nat → Int32)} (hret : ∀ pc loc, decode cX12_townClause pc = .ok (.return_, 1) → gV l b0 D K (n, κ, ov X0 [74, 86, 87, 88, 89, 90, 91] [rx74, rx86, rx87, rx88, rx89, rx90, x91], ov Y0 [] [], Z, 0, 0) pc loc []) {v1 : Int32} {v2 : Int32} {v3 : Int32} {x74 : (Nat → Int32)} {x86 : (Nat → Int32)} {x87 : (Nat → Int32)} {x88 : (Nat → Int32)} {x89 : (Nat → Int32)} {x90 : (Nat → Int32)} (hf : fX12_townClause_33 x91  v1 v2 v3 x74 x86 x87 x88 x89 x90 = some (rx74, rx86, rx87, rx88, rx89, rx90)) : gV l b0 D K (n, κ, ov X0 [74, 86, 87, 88, 89, 90, 91] [x74, x86, x87, x88, x89, x90, x91], ov Y0 [] [], Z, 0, 0) 33 [(0, .ref (b0 + 74)), (1, .int v1), (2, .int v2), (3, .int v3)] [] := by
  unfold fX12_townClause_33 at hf
  refine g_iload_n hC 3 dX12_townClause_33 rfl rfl ?_
  refine g_iconst hC (v := 5) dX12_townClause_34 ic_5 ?_
  refine g_icmp_ne hC 45 dX12_townClause_35 (by decide) (fun hc => ?_) (fun hc => ?_)
  · replace hf := ifF hf hc
    refine g_aload_n hC 0 dX12_townClause_45 rfl rfl ?_
    refine g_iload_n hC 3 dX12_townClause_46 rfl rfl ?_
    refine g_iload_n hC 1 dX12_townClause_47 rfl rfl ?_
    obtain ⟨r_1, q_2, hf⟩ := bd1E hf
    refine g_callV_i (a := 74) hC (X' := ov X0 [74, 86, 87, 88, 89, 90, 91] [x74, x86, x87, x88, x89, x90, x91]) (Y' := ov Y0 [] []) (As := [.int v3, .int v1]) (gMi_eq (c_X12_isFull l hL (ov_map hN [1] (by rfl) (by rfl)) (ov_map hM [] (by rfl) (by rfl)) q_2) (ov_ovE hN (by rfl) [1] [0, 2, 3, 4, 5, 6] (by rfl) (by rfl) [x74, x87, x88, x89, x90, x91] (by rfl) (by rfl) (by rfl) 7 (by rfl) (by decide)) (ov_ovE hM (by rfl) [] [] (by rfl) (by rfl) [] (by rfl) (by rfl) (by rfl) 0 (by rfl) (by decide))) tw_1406 tw_1403 tw_127 tw_1405 tw_53 (ci := 12) rfl (by decide) (kk_74 hL) (kn_74 hL) pd_X12_isFull (by decide) (by decide) rfl rfl (Nat.le_of_ble_eq_true rfl) rfl dX12_townClause_48 ?_
    refine g_if_eq hC 61 dX12_townClause_51 (by decide) (fun hc => ?_) (fun hc => ?_)
    · replace hf := ifT hf hc
      refine g_aload_n hC 0 dX12_townClause_61 rfl rfl ?_
      refine g_dup hC dX12_townClause_62 rfl ?_
      refine gt_X12_183 hC (x := x74) (kk_74 hL) (kn_74 hL) (ov_get hN 0 rfl rfl) dX12_townClause_63 ?_
      refine g_iload_n hC 3 dX12_townClause_66 rfl rfl ?_
      obtain ⟨r_3, q_4, hf⟩ := bd1E hf
      refine g_callS_s hC (X' := ov X0 [74, 86, 87, 88, 89, 90, 91] [x74, x86, x87, x88, x89, x90, x91]) (Y' := ov Y0 [] []) (As := [.int v3]) (gMs_eq (c_X12_townWord l hL (ov_map hN [] (by rfl) (by rfl)) (ov_map hM [] (by rfl) (by rfl)) q_4) (ov_ovE hN (by rfl) [] [0, 1, 2, 3, 4, 5, 6] (by rfl) (by rfl) [x74, x86, x87, x88, x89, x90, x91] (by rfl) (by rfl) (by rfl) 7 (by rfl) (by decide)) (ov_ovE hM (by rfl) [] [] (by rfl) (by rfl) [] (by rfl) (by rfl) (by rfl) 0 (by rfl) (by decide))) tw_1387 tw_1385 tw_127 tw_1386 pd_X12_townWord (by decide) (by decide) rfl rfl (Nat.le_of_ble_eq_true rfl) rfl dX12_townClause_67 ?_
      obtain ⟨h_5, hf⟩ := gdE hf
      refine g_callT_i hC (of_decide_eq_true h_5) (c_strlen l (of_decide_eq_true h_5)) tw_583 tw_1397 tw_129 tw_581 tw_582 pd_J0_length_8abf5 (by decide) (by decide) (Nat.le_of_ble_eq_true rfl) rfl dX12_townClause_70 ?_
      refine g_iadd hC dX12_townClause_73 ?_
      refine pt_X12_183 hC (x := x74) (kk_74 hL) (kn_74 hL) (ov_get hN 0 rfl rfl) (ov_set hN (by rfl) 0 (by rfl)) dX12_townClause_74 ?_
      show gV l b0 D K (n, κ, ov X0 [74, 86, 87, 88, 89, 90, 91] [(upd x74 18 ((x74 18) + (slen r_3))), x86, x87, x88, x89, x90, x91], ov Y0 [] [], Z, 0, 0) 77 [(0, .ref (b0 + 74)), (1, .int v1), (2, .int v2), (3, .int v3)] []
      refine g_aload_n hC 0 dX12_townClause_77 rfl rfl ?_
      refine g_iload_n hC 3 dX12_townClause_78 rfl rfl ?_
      obtain ⟨x74_6, x86_7, x87_8, x88_9, x89_10, x90_11, q_12, hf⟩ := bd6E hf
      refine g_callV_v (a := 74) hC (X' := ov X0 [74, 86, 87, 88, 89, 90, 91] [x74_6, x86_7, x87_8, x88_9, x89_10, x90_11, x91]) (Y' := ov Y0 [] []) (As := [.int v3]) (gMv_eq (c_X12_townPart l hL (ov_map hN [0, 1, 2, 3, 4, 5, 6] (by rfl) (by rfl)) (ov_map hM [] (by rfl) (by rfl)) q_12) (ov_ovE hN (by rfl) [0, 1, 2, 3, 4, 5, 6] [] (by rfl) (by rfl) [] (by rfl) (by rfl) (by rfl) 7 (by rfl) (by decide)) (ov_ovE hM (by rfl) [] [] (by rfl) (by rfl) [] (by rfl) (by rfl) (by rfl) 0 (by rfl) (by decide))) tw_1410 tw_1407 tw_127 tw_1409 tw_54 (ci := 12) rfl (by decide) (kk_74 hL) (kn_74 hL) pd_X12_townPart (by decide) (by decide) rfl rfl (Nat.le_of_ble_eq_true rfl) rfl dX12_townClause_79 ?_
      obtain ⟨rfl, rfl, rfl, rfl, rfl, rfl⟩ := sm6E hf
      exact hret _ _ dX12_townClause_82
    · replace hf := ifF hf hc
      refine g_aload_n hC 0 dX12_townClause_54 rfl rfl ?_
      refine g_iconst hC (v := 4) dX12_townClause_55 ic_4 ?_
      refine g_iload_n hC 2 dX12_townClause_56 rfl rfl ?_
      obtain ⟨x74_13, q_14, hf⟩ := bd1E hf
      refine g_callV_v (a := 74) hC (X' := ov X0 [74, 86, 87, 88, 89, 90, 91] [x74_13, x86, x87, x88, x89, x90, x91]) (Y' := ov Y0 [] []) (As := [.int 4, .int v2]) (gMv_eq (c_X12_fails l hL (ov_map hN [0] (by rfl) (by rfl)) (ov_map hM [] (by rfl) (by rfl)) q_14) (ov_ovE hN (by rfl) [0] [1, 2, 3, 4, 5, 6] (by rfl) (by rfl) [x86, x87, x88, x89, x90, x91] (by rfl) (by rfl) (by rfl) 7 (by rfl) (by decide)) (ov_ovE hM (by rfl) [] [] (by rfl) (by rfl) [] (by rfl) (by rfl) (by rfl) 0 (by rfl) (by decide))) tw_1402 tw_1399 tw_127 tw_1401 tw_52 (ci := 12) rfl (by decide) (kk_74 hL) (kn_74 hL) pd_X12_fails (by decide) (by decide) rfl rfl (Nat.le_of_ble_eq_true rfl) rfl dX12_townClause_57 ?_
      obtain ⟨rfl, rfl, rfl, rfl, rfl, rfl⟩ := sm6E hf
      exact hret _ _ dX12_townClause_60
  · replace hf := ifT hf hc
    refine g_aload_n hC 0 dX12_townClause_38 rfl rfl ?_
    refine g_iconst hC (v := 0) dX12_townClause_39 ic_0 ?_
    refine g_iload_n hC 2 dX12_townClause_40 rfl rfl ?_
    obtain ⟨x74_15, q_16, hf⟩ := bd1E hf
    refine g_callV_v (a := 74) hC (X' := ov X0 [74, 86, 87, 88, 89, 90, 91] [x74_15, x86, x87, x88, x89, x90, x91]) (Y' := ov Y0 [] []) (As := [.int 0, .int v2]) (gMv_eq (c_X12_fails l hL (ov_map hN [0] (by rfl) (by rfl)) (ov_map hM [] (by rfl) (by rfl)) q_16) (ov_ovE hN (by rfl) [0] [1, 2, 3, 4, 5, 6] (by rfl) (by rfl) [x86, x87, x88, x89, x90, x91] (by rfl) (by rfl) (by rfl) 7 (by rfl) (by decide)) (ov_ovE hM (by rfl) [] [] (by rfl) (by rfl) [] (by rfl) (by rfl) (by rfl) 0 (by rfl) (by decide))) tw_1402 tw_1399 tw_127 tw_1401 tw_52 (ci := 12) rfl (by decide) (kk_74 hL) (kn_74 hL) pd_X12_fails (by decide) (by decide) rfl rfl (Nat.le_of_ble_eq_true rfl) rfl dX12_townClause_41 ?_
    obtain ⟨rfl, rfl, rfl, rfl, rfl, rfl⟩ := sm6E hf
    exact hret _ _ dX12_townClause_44

def fX12_townClause_11b   (x91 : Nat → Int32)  (k11 : Int32 → Int32 → Int32 → (Nat → Int32) → (Nat → Int32) → (Nat → Int32) → (Nat → Int32) → (Nat → Int32) → (Nat → Int32) → Option ((Nat → Int32) × (Nat → Int32) × (Nat → Int32) × (Nat → Int32) × (Nat → Int32) × (Nat → Int32))) (v1 : Int32) (v2 : Int32) (v3 : Int32) (x74 : (Nat → Int32)) (x86 : (Nat → Int32)) (x87 : (Nat → Int32)) (x88 : (Nat → Int32)) (x89 : (Nat → Int32)) (x90 : (Nat → Int32)) : Option ((Nat → Int32) × (Nat → Int32) × (Nat → Int32) × (Nat → Int32) × (Nat → Int32) × (Nat → Int32)) := if 5 ≤ v3 then (fX12_townClause_33 x91  v1 v2 v3 x74 x86 x87 x88 x89 x90) else (bd1 (fX12_townWord v3) fun r_1 => (gd (decide (r_1 < nStr)) (bd1 (fX12_isWordAt r_1 x74 x91) fun r_4 => (if r_4 = 0 then (bn (v3 + 1) fun t_6 => (k11 v1 v2 t_6 x74 x86 x87 x88 x89 x90)) else (fX12_townClause_33 x91  v1 v2 v3 x74 x86 x87 x88 x89 x90)))))
def fX12_townClause_11   (x91 : Nat → Int32)  : Int32 → Int32 → Int32 → (Nat → Int32) → (Nat → Int32) → (Nat → Int32) → (Nat → Int32) → (Nat → Int32) → (Nat → Int32) → Option ((Nat → Int32) × (Nat → Int32) × (Nat → Int32) × (Nat → Int32) × (Nat → Int32) × (Nat → Int32)) := lq9 (fX12_townClause_11b x91 ) 5000
set_option maxHeartbeats 4000000 in
set_option maxRecDepth 100000 in
theorem wX12_townClause_11 {l : Launch} {b0 : Nat} {D : GD} {K : KT} {n : Nat} {κ : QT} {X0 : XT} {Y0 : YT} {Z : ZT} (hL : LY n κ) (hN : ([74, 86, 87, 88, 89, 90, 91] : List Nat).Nodup) (hM : ([] : List Nat).Nodup) (hC : gC l b0 D K RX12 cX12_townClause none 4 6 139 0 0) {x91 : Nat → Int32} {rx74 : (Nat → Int32)} {rx86 : (Nat → Int32)} {rx87 : (Nat → Int32)} {rx88 : (Nat → Int32)} {rx89 : (Nat → Int32)} {rx90 : (Nat → Int32)} (hret : ∀ pc loc, decode cX12_townClause pc = .ok (.return_, 1) → gV l b0 D K (n, κ, ov X0 [74, 86, 87, 88, 89, 90, 91] [rx74, rx86, rx87, rx88, rx89, rx90, x91], ov Y0 [] [], Z, 0, 0) pc loc []) : ∀ (j : Nat) (v1 : Int32) (v2 : Int32) (v3 : Int32) (x74 : (Nat → Int32)) (x86 : (Nat → Int32)) (x87 : (Nat → Int32)) (x88 : (Nat → Int32)) (x89 : (Nat → Int32)) (x90 : (Nat → Int32)), lq9 (fX12_townClause_11b x91 ) j v1 v2 v3 x74 x86 x87 x88 x89 x90 = some (rx74, rx86, rx87, rx88, rx89, rx90) → gV l b0 D K (n, κ, ov X0 [74, 86, 87, 88, 89, 90, 91] [x74, x86, x87, x88, x89, x90, x91], ov Y0 [] [], Z, 0, 0) 11 [(0, .ref (b0 + 74)), (1, .int v1), (2, .int v2), (3, .int v3)] [] := by
  intro j
  induction j with
  | zero => intro v1 v2 v3 x74 x86 x87 x88 x89 x90 hf; cases hf
  | succ j hk11 =>
    intro v1 v2 v3 x74 x86 x87 x88 x89 x90 hf
    replace hf : fX12_townClause_11b x91  (lq9 (fX12_townClause_11b x91 ) j) v1 v2 v3 x74 x86 x87 x88 x89 x90 = some (rx74, rx86, rx87, rx88, rx89, rx90) := hf
    unfold fX12_townClause_11b at hf
    refine g_iload_n hC 3 dX12_townClause_11 rfl rfl ?_
    refine g_iconst hC (v := 5) dX12_townClause_12 ic_5 ?_
    refine g_icmp_ge hC 33 dX12_townClause_13 (by decide) (fun hc => ?_) (fun hc => ?_)
    · replace hf := ifT hf hc
      exact g_sub [0, 1, 2, 3] rfl (wX12_townClause_33 hL hN hM hC  hret  hf)
    · replace hf := ifF hf hc
      refine g_aload_n hC 0 dX12_townClause_16 rfl rfl ?_
      refine g_iload_n hC 3 dX12_townClause_17 rfl rfl ?_
      obtain ⟨r_1, q_2, hf⟩ := bd1E hf
      refine g_callS_s hC (X' := ov X0 [74, 86, 87, 88, 89, 90, 91] [x74, x86, x87, x88, x89, x90, x91]) (Y' := ov Y0 [] []) (As := [.int v3]) (gMs_eq (c_X12_townWord l hL (ov_map hN [] (by rfl) (by rfl)) (ov_map hM [] (by rfl) (by rfl)) q_2) (ov_ovE hN (by rfl) [] [0, 1, 2, 3, 4, 5, 6] (by rfl) (by rfl) [x74, x86, x87, x88, x89, x90, x91] (by rfl) (by rfl) (by rfl) 7 (by rfl) (by decide)) (ov_ovE hM (by rfl) [] [] (by rfl) (by rfl) [] (by rfl) (by rfl) (by rfl) 0 (by rfl) (by decide))) tw_1387 tw_1385 tw_127 tw_1386 pd_X12_townWord (by decide) (by decide) rfl rfl (Nat.le_of_ble_eq_true rfl) rfl dX12_townClause_18 ?_
      obtain ⟨h_3, hf⟩ := gdE hf
      obtain ⟨r_4, q_5, hf⟩ := bd1E hf
      refine g_callV_i (a := 74) hC (X' := ov X0 [74, 86, 87, 88, 89, 90, 91] [x74, x86, x87, x88, x89, x90, x91]) (Y' := ov Y0 [] []) (As := [.ref (D.2 (100 + r_1))]) (gMi_eq (c_X12_isWordAt l hL (of_decide_eq_true h_3) (ov_map hN [0, 6] (by rfl) (by rfl)) (ov_map hM [] (by rfl) (by rfl)) q_5) (ov_ovE hN (by rfl) [0, 6] [1, 2, 3, 4, 5] (by rfl) (by rfl) [x86, x87, x88, x89, x90] (by rfl) (by rfl) (by rfl) 7 (by rfl) (by decide)) (ov_ovE hM (by rfl) [] [] (by rfl) (by rfl) [] (by rfl) (by rfl) (by rfl) 0 (by rfl) (by decide))) tw_1396 tw_1393 tw_127 tw_1395 tw_51 (ci := 12) rfl (by decide) (kk_74 hL) (kn_74 hL) pd_X12_isWordAt (by decide) (by decide) rfl rfl (Nat.le_of_ble_eq_true rfl) rfl dX12_townClause_21 ?_
      refine g_if_ne hC 33 dX12_townClause_24 (by decide) (fun hc => ?_) (fun hc => ?_)
      · replace hf := ifF hf hc
        exact g_sub [0, 1, 2, 3] rfl (wX12_townClause_33 hL hN hM hC  hret  hf)
      · replace hf := ifT hf hc
        obtain ⟨t_6, et_6, hf⟩ := bnE hf
        refine g_iinc hC (i := 3) (v := t_6) [(3, .int t_6), (0, .ref (b0 + 74)), (1, .int v1), (2, .int v2)] dX12_townClause_27 (q := 3) rfl ((congrArg (HAdd.hAdd v3) ic_1).trans et_6.symm) (by decide) rfl ?_
        refine g_goto hC 11 dX12_townClause_30 (by decide) ?_
        exact g_sub [1, 2, 3, 0] rfl (hk11 v1 v2 t_6 x74 x86 x87 x88 x89 x90 hf)

def fX12_townClause_0   (x91 : Nat → Int32)  (v1 : Int32) (x74 : (Nat → Int32)) (x86 : (Nat → Int32)) (x87 : (Nat → Int32)) (x88 : (Nat → Int32)) (x89 : (Nat → Int32)) (x90 : (Nat → Int32)) : Option ((Nat → Int32) × (Nat → Int32) × (Nat → Int32) × (Nat → Int32) × (Nat → Int32) × (Nat → Int32)) := bd1 (fX12_blanks x91 x74) fun x74_1 => (bn (x74_1 18) fun t_3 => (fX12_townClause_11 x91  v1 t_3 0 x74_1 x86 x87 x88 x89 x90))
set_option maxHeartbeats 4000000 in
set_option maxRecDepth 100000 in
theorem wX12_townClause_0 {l : Launch} {b0 : Nat} {D : GD} {K : KT} {n : Nat} {κ : QT} {X0 : XT} {Y0 : YT} {Z : ZT} (hL : LY n κ) (hN : ([74, 86, 87, 88, 89, 90, 91] : List Nat).Nodup) (hM : ([] : List Nat).Nodup) (hC : gC l b0 D K RX12 cX12_townClause none 4 6 139 0 0) {x91 : Nat → Int32} {rx74 : (Nat → Int32)} {rx86 : (Nat → Int32)} {rx87 : (Nat → Int32)} {rx88 : (Nat → Int32)} {rx89 : (Nat → Int32)} {rx90 : (Nat → Int32)} (hret : ∀ pc loc, decode cX12_townClause pc = .ok (.return_, 1) → gV l b0 D K (n, κ, ov X0 [74, 86, 87, 88, 89, 90, 91] [rx74, rx86, rx87, rx88, rx89, rx90, x91], ov Y0 [] [], Z, 0, 0) pc loc []) {v1 : Int32} {x74 : (Nat → Int32)} {x86 : (Nat → Int32)} {x87 : (Nat → Int32)} {x88 : (Nat → Int32)} {x89 : (Nat → Int32)} {x90 : (Nat → Int32)} (hf : fX12_townClause_0 x91  v1 x74 x86 x87 x88 x89 x90 = some (rx74, rx86, rx87, rx88, rx89, rx90)) : gV l b0 D K (n, κ, ov X0 [74, 86, 87, 88, 89, 90, 91] [x74, x86, x87, x88, x89, x90, x91], ov Y0 [] [], Z, 0, 0) 0 [(0, .ref (b0 + 74)), (1, .int v1)] [] := by
  unfold fX12_townClause_0 at hf
  refine g_aload_n hC 0 dX12_townClause_0 rfl rfl ?_
  obtain ⟨x74_1, q_2, hf⟩ := bd1E hf
  refine g_callV_v (a := 74) hC (X' := ov X0 [74, 86, 87, 88, 89, 90, 91] [x74_1, x86, x87, x88, x89, x90, x91]) (Y' := ov Y0 [] []) (As := []) (gMv_eq (c_X12_blanks l hL (ov_map hN [0, 6] (by rfl) (by rfl)) (ov_map hM [] (by rfl) (by rfl)) q_2) (ov_ovE hN (by rfl) [0, 6] [1, 2, 3, 4, 5] (by rfl) (by rfl) [x86, x87, x88, x89, x90] (by rfl) (by rfl) (by rfl) 7 (by rfl) (by decide)) (ov_ovE hM (by rfl) [] [] (by rfl) (by rfl) [] (by rfl) (by rfl) (by rfl) 0 (by rfl) (by decide))) tw_1380 tw_1377 tw_127 tw_1379 tw_49 (ci := 12) rfl (by decide) (kk_74 hL) (kn_74 hL) pd_X12_blanks (by decide) (by decide) rfl rfl (Nat.le_of_ble_eq_true rfl) rfl dX12_townClause_1 ?_
  refine g_aload_n hC 0 dX12_townClause_4 rfl rfl ?_
  refine gt_X12_183 hC (x := x74_1) (kk_74 hL) (kn_74 hL) (ov_get hN 0 rfl rfl) dX12_townClause_5 ?_
  obtain ⟨t_3, et_3, hf⟩ := bnE hf
  refine g_topi et_3 ?_
  refine g_istore_n hC (i := 2) [(2, .int t_3), (0, .ref (b0 + 74)), (1, .int v1)] rfl dX12_townClause_8 (by decide) rfl ?_
  refine g_iconst hC (v := 0) dX12_townClause_9 ic_0 ?_
  refine g_istore_n hC (i := 3) [(3, .int 0), (2, .int t_3), (0, .ref (b0 + 74)), (1, .int v1)] rfl dX12_townClause_10 (by decide) rfl ?_
  exact g_sub [2, 3, 1, 0] rfl (wX12_townClause_11 hL hN hM hC  hret  5000 v1 t_3 0 x74_1 x86 x87 x88 x89 x90 hf)

def fX12_townClause   (x91 : Nat → Int32)  (v1 : Int32) (x74 : Nat → Int32) (x86 : Nat → Int32) (x87 : Nat → Int32) (x88 : Nat → Int32) (x89 : Nat → Int32) (x90 : Nat → Int32)  : Option ((Nat → Int32) × (Nat → Int32) × (Nat → Int32) × (Nat → Int32) × (Nat → Int32) × (Nat → Int32)) := fX12_townClause_0 x91 v1 x74 x86 x87 x88 x89 x90

set_option maxHeartbeats 4000000 in
set_option maxRecDepth 100000 in
theorem c_X12_townClause (l : Launch) {b0 : Nat} {D : GD} {n : Nat} {κ : QT} {X0 : XT} {Y0 : YT} {Z : ZT} (hL : LY n κ) {x74 : Nat → Int32} {x86 : Nat → Int32} {x87 : Nat → Int32} {x88 : Nat → Int32} {x89 : Nat → Int32} {x90 : Nat → Int32} {x91 : Nat → Int32} (hx : ([74, 86, 87, 88, 89, 90, 91] : List Nat).map X0 = [x74, x86, x87, x88, x89, x90, x91]) (hy : ([] : List Nat).map Y0 = []) {v1 : Int32} {rx74 : (Nat → Int32)} {rx86 : (Nat → Int32)} {rx87 : (Nat → Int32)} {rx88 : (Nat → Int32)} {rx89 : (Nat → Int32)} {rx90 : (Nat → Int32)} (hf : fX12_townClause x91 v1 x74 x86 x87 x88 x89 x90 = some (rx74, rx86, rx87, rx88, rx89, rx90)) : gMv l yX12_townClause cX12_townClause 4 none 6 139 0 0 b0 D [.ref (b0 + 74), .int v1] (n, κ, X0, Y0, Z) (n, κ, ov X0 [74, 86, 87, 88, 89, 90, 91] [rx74, rx86, rx87, rx88, rx89, rx90, x91], ov Y0 [] [], Z) := by
  have hN : ([74, 86, 87, 88, 89, 90, 91] : List Nat).Nodup := by decide
  have hM : ([] : List Nat).Nodup := by decide
  refine g_metv (own := RX12) (by decide) rfl rfl (Nat.le_of_ble_eq_true rfl) ?_
  intro K hC hret
  have e := wX12_townClause_0 hL hN hM hC  hret hf
  rw [ov_id' hx, ov_id' hy] at e
  exact g_sub [0, 1] rfl e

-- X12_readsAll
def fX12_readsAll_80b   (x91 : Nat → Int32)  (k80 : Int32 → Int32 → (Nat → Int32) → (Nat → Int32) → (Nat → Int32) → (Nat → Int32) → (Nat → Int32) → (Nat → Int32) → Option ((Nat → Int32) × (Nat → Int32) × (Nat → Int32) × (Nat → Int32) × (Nat → Int32) × (Nat → Int32))) (v1 : Int32) (v2 : Int32) (x74 : (Nat → Int32)) (x86 : (Nat → Int32)) (x87 : (Nat → Int32)) (x88 : (Nat → Int32)) (x89 : (Nat → Int32)) (x90 : (Nat → Int32)) : Option ((Nat → Int32) × (Nat → Int32) × (Nat → Int32) × (Nat → Int32) × (Nat → Int32) × (Nat → Int32)) := if v2 = 0 then (some ((upd x74 17 0), x86, x87, x88, x89, x90)) else (bd6 (fX12_townClause x91 v1 x74 x86 x87 x88 x89 x90) fun x74_1 x86_2 x87_3 x88_4 x89_5 x90_6 => (bn (v1 + 1) fun t_8 => (bd2 (fX12_goesOn x91 x74_1) fun r_9 x74_10 => (k80 t_8 r_9 x74_10 x86_2 x87_3 x88_4 x89_5 x90_6))))
def fX12_readsAll_80   (x91 : Nat → Int32)  : Int32 → Int32 → (Nat → Int32) → (Nat → Int32) → (Nat → Int32) → (Nat → Int32) → (Nat → Int32) → (Nat → Int32) → Option ((Nat → Int32) × (Nat → Int32) × (Nat → Int32) × (Nat → Int32) × (Nat → Int32) × (Nat → Int32)) := lq8 (fX12_readsAll_80b x91 ) 5000
set_option maxHeartbeats 4000000 in
set_option maxRecDepth 100000 in
theorem wX12_readsAll_80 {l : Launch} {b0 : Nat} {D : GD} {K : KT} {n : Nat} {κ : QT} {X0 : XT} {Y0 : YT} {Z : ZT} (hL : LY n κ) (hN : ([74, 86, 87, 88, 89, 90, 91] : List Nat).Nodup) (hM : ([] : List Nat).Nodup) (hC : gC l b0 D K RX12 cX12_readsAll none 3 7 162 0 0) {x91 : Nat → Int32} {rx74 : (Nat → Int32)} {rx86 : (Nat → Int32)} {rx87 : (Nat → Int32)} {rx88 : (Nat → Int32)} {rx89 : (Nat → Int32)} {rx90 : (Nat → Int32)} (hret : ∀ pc loc, decode cX12_readsAll pc = .ok (.return_, 1) → gV l b0 D K (n, κ, ov X0 [74, 86, 87, 88, 89, 90, 91] [rx74, rx86, rx87, rx88, rx89, rx90, x91], ov Y0 [] [], Z, 0, 0) pc loc []) : ∀ (j : Nat) (v1 : Int32) (v2 : Int32) (x74 : (Nat → Int32)) (x86 : (Nat → Int32)) (x87 : (Nat → Int32)) (x88 : (Nat → Int32)) (x89 : (Nat → Int32)) (x90 : (Nat → Int32)), lq8 (fX12_readsAll_80b x91 ) j v1 v2 x74 x86 x87 x88 x89 x90 = some (rx74, rx86, rx87, rx88, rx89, rx90) → gV l b0 D K (n, κ, ov X0 [74, 86, 87, 88, 89, 90, 91] [x74, x86, x87, x88, x89, x90, x91], ov Y0 [] [], Z, 0, 0) 80 [(0, .ref (b0 + 74)), (1, .int v1), (2, .int v2)] [] := by
  intro j
  induction j with
  | zero => intro v1 v2 x74 x86 x87 x88 x89 x90 hf; cases hf
  | succ j hk80 =>
    intro v1 v2 x74 x86 x87 x88 x89 x90 hf
    replace hf : fX12_readsAll_80b x91  (lq8 (fX12_readsAll_80b x91 ) j) v1 v2 x74 x86 x87 x88 x89 x90 = some (rx74, rx86, rx87, rx88, rx89, rx90) := hf
    unfold fX12_readsAll_80b at hf
    refine g_iload_n hC 2 dX12_readsAll_80 rfl rfl ?_
    refine g_if_eq hC 100 dX12_readsAll_81 (by decide) (fun hc => ?_) (fun hc => ?_)
    · replace hf := ifT hf hc
      refine g_aload_n hC 0 dX12_readsAll_100 rfl rfl ?_
      refine g_iconst hC (v := 0) dX12_readsAll_101 ic_0 ?_
      refine pt_X12_151 hC (x := x74) (kk_74 hL) (kn_74 hL) (ov_get hN 0 rfl rfl) (ov_set hN (by rfl) 0 (by rfl)) dX12_readsAll_102 ?_
      show gV l b0 D K (n, κ, ov X0 [74, 86, 87, 88, 89, 90, 91] [(upd x74 17 0), x86, x87, x88, x89, x90, x91], ov Y0 [] [], Z, 0, 0) 105 [(0, .ref (b0 + 74)), (1, .int v1), (2, .int v2)] []
      obtain ⟨rfl, rfl, rfl, rfl, rfl, rfl⟩ := sm6E hf
      exact hret _ _ dX12_readsAll_105
    · replace hf := ifF hf hc
      refine g_aload_n hC 0 dX12_readsAll_84 rfl rfl ?_
      refine g_iload_n hC 1 dX12_readsAll_85 rfl rfl ?_
      obtain ⟨x74_1, x86_2, x87_3, x88_4, x89_5, x90_6, q_7, hf⟩ := bd6E hf
      refine g_callV_v (a := 74) hC (X' := ov X0 [74, 86, 87, 88, 89, 90, 91] [x74_1, x86_2, x87_3, x88_4, x89_5, x90_6, x91]) (Y' := ov Y0 [] []) (As := [.int v1]) (gMv_eq (c_X12_townClause l hL (ov_map hN [0, 1, 2, 3, 4, 5, 6] (by rfl) (by rfl)) (ov_map hM [] (by rfl) (by rfl)) q_7) (ov_ovE hN (by rfl) [0, 1, 2, 3, 4, 5, 6] [] (by rfl) (by rfl) [] (by rfl) (by rfl) (by rfl) 7 (by rfl) (by decide)) (ov_ovE hM (by rfl) [] [] (by rfl) (by rfl) [] (by rfl) (by rfl) (by rfl) 0 (by rfl) (by decide))) tw_1376 tw_1373 tw_127 tw_1375 tw_48 (ci := 12) rfl (by decide) (kk_74 hL) (kn_74 hL) pd_X12_townClause (by decide) (by decide) rfl rfl (Nat.le_of_ble_eq_true rfl) rfl dX12_readsAll_86 ?_
      obtain ⟨t_8, et_8, hf⟩ := bnE hf
      refine g_iinc hC (i := 1) (v := t_8) [(1, .int t_8), (0, .ref (b0 + 74)), (2, .int v2)] dX12_readsAll_89 (q := 1) rfl ((congrArg (HAdd.hAdd v1) ic_1).trans et_8.symm) (by decide) rfl ?_
      refine g_aload_n hC 1 dX12_readsAll_92 rfl rfl ?_
      obtain ⟨r_9, x74_10, q_11, hf⟩ := bd2E hf
      refine g_callV_i (a := 74) hC (X' := ov X0 [74, 86, 87, 88, 89, 90, 91] [x74_10, x86_2, x87_3, x88_4, x89_5, x90_6, x91]) (Y' := ov Y0 [] []) (As := []) (gMi_eq (c_X12_goesOn l hL (ov_map hN [0, 6] (by rfl) (by rfl)) (ov_map hM [] (by rfl) (by rfl)) q_11) (ov_ovE hN (by rfl) [0, 6] [1, 2, 3, 4, 5] (by rfl) (by rfl) [x86_2, x87_3, x88_4, x89_5, x90_6] (by rfl) (by rfl) (by rfl) 7 (by rfl) (by decide)) (ov_ovE hM (by rfl) [] [] (by rfl) (by rfl) [] (by rfl) (by rfl) (by rfl) 0 (by rfl) (by decide))) tw_1436 tw_1433 tw_127 tw_1435 tw_59 (ci := 12) rfl (by decide) (kk_74 hL) (kn_74 hL) pd_X12_goesOn (by decide) (by decide) rfl rfl (Nat.le_of_ble_eq_true rfl) rfl dX12_readsAll_93 ?_
      refine g_istore_n hC (i := 2) [(2, .int r_9), (1, .int t_8), (0, .ref (b0 + 74))] rfl dX12_readsAll_96 (by decide) rfl ?_
      refine g_goto hC 80 dX12_readsAll_97 (by decide) ?_
      exact g_sub [2, 1, 0] rfl (hk80 t_8 r_9 x74_10 x86_2 x87_3 x88_4 x89_5 x90_6 hf)

def fX12_readsAll_50b   (x91 : Nat → Int32)  (k50 : Int32 → (Nat → Int32) → (Nat → Int32) → (Nat → Int32) → (Nat → Int32) → (Nat → Int32) → (Nat → Int32) → Option ((Nat → Int32) × (Nat → Int32) × (Nat → Int32) × (Nat → Int32) × (Nat → Int32) × (Nat → Int32))) (v1 : Int32) (x74 : (Nat → Int32)) (x86 : (Nat → Int32)) (x87 : (Nat → Int32)) (x88 : (Nat → Int32)) (x89 : (Nat → Int32)) (x90 : (Nat → Int32)) : Option ((Nat → Int32) × (Nat → Int32) × (Nat → Int32) × (Nat → Int32) × (Nat → Int32) × (Nat → Int32)) := if 6 ≤ v1 then (fX12_readsAll_80 x91  0 1 x74 x86 x87 x88 x89 x90) else (gd (inb v1 6) (gd (inb v1 6) (bn (v1 + 1) fun t_3 => (k50 t_3 x74 x86 (upd x87 v1.toNatClampNeg 0) (upd x88 v1.toNatClampNeg 0) x89 x90))))
def fX12_readsAll_50   (x91 : Nat → Int32)  : Int32 → (Nat → Int32) → (Nat → Int32) → (Nat → Int32) → (Nat → Int32) → (Nat → Int32) → (Nat → Int32) → Option ((Nat → Int32) × (Nat → Int32) × (Nat → Int32) × (Nat → Int32) × (Nat → Int32) × (Nat → Int32)) := lq7 (fX12_readsAll_50b x91 ) 5000
set_option maxHeartbeats 4000000 in
set_option maxRecDepth 100000 in
theorem wX12_readsAll_50 {l : Launch} {b0 : Nat} {D : GD} {K : KT} {n : Nat} {κ : QT} {X0 : XT} {Y0 : YT} {Z : ZT} (hL : LY n κ) (hN : ([74, 86, 87, 88, 89, 90, 91] : List Nat).Nodup) (hM : ([] : List Nat).Nodup) (hC : gC l b0 D K RX12 cX12_readsAll none 3 7 162 0 0) {x91 : Nat → Int32} {rx74 : (Nat → Int32)} {rx86 : (Nat → Int32)} {rx87 : (Nat → Int32)} {rx88 : (Nat → Int32)} {rx89 : (Nat → Int32)} {rx90 : (Nat → Int32)} (hret : ∀ pc loc, decode cX12_readsAll pc = .ok (.return_, 1) → gV l b0 D K (n, κ, ov X0 [74, 86, 87, 88, 89, 90, 91] [rx74, rx86, rx87, rx88, rx89, rx90, x91], ov Y0 [] [], Z, 0, 0) pc loc []) : ∀ (j : Nat) (v1 : Int32) (x74 : (Nat → Int32)) (x86 : (Nat → Int32)) (x87 : (Nat → Int32)) (x88 : (Nat → Int32)) (x89 : (Nat → Int32)) (x90 : (Nat → Int32)), lq7 (fX12_readsAll_50b x91 ) j v1 x74 x86 x87 x88 x89 x90 = some (rx74, rx86, rx87, rx88, rx89, rx90) → gV l b0 D K (n, κ, ov X0 [74, 86, 87, 88, 89, 90, 91] [x74, x86, x87, x88, x89, x90, x91], ov Y0 [] [], Z, 0, 0) 50 [(0, .ref (b0 + 74)), (1, .int v1)] [] := by
  intro j
  induction j with
  | zero => intro v1 x74 x86 x87 x88 x89 x90 hf; cases hf
  | succ j hk50 =>
    intro v1 x74 x86 x87 x88 x89 x90 hf
    replace hf : fX12_readsAll_50b x91  (lq7 (fX12_readsAll_50b x91 ) j) v1 x74 x86 x87 x88 x89 x90 = some (rx74, rx86, rx87, rx88, rx89, rx90) := hf
    unfold fX12_readsAll_50b at hf
    refine g_iload_n hC 1 dX12_readsAll_50 rfl rfl ?_
    refine g_bipush hC (v := 6) dX12_readsAll_51 bp_6 ?_
    refine g_icmp_ge hC 76 dX12_readsAll_53 (by decide) (fun hc => ?_) (fun hc => ?_)
    · replace hf := ifT hf hc
      refine g_iconst hC (v := 0) dX12_readsAll_76 ic_0 ?_
      refine g_istore_n hC (i := 1) [(1, .int 0), (0, .ref (b0 + 74))] rfl dX12_readsAll_77 (by decide) rfl ?_
      refine g_iconst hC (v := 1) dX12_readsAll_78 ic_1 ?_
      refine g_istore_n hC (i := 2) [(2, .int 1), (1, .int 0), (0, .ref (b0 + 74))] rfl dX12_readsAll_79 (by decide) rfl ?_
      exact g_sub [2, 1, 0] rfl (wX12_readsAll_80 hL hN hM hC  hret  5000 0 1 x74 x86 x87 x88 x89 x90 hf)
    · replace hf := ifF hf hc
      refine g_aload_n hC 0 dX12_readsAll_56 rfl rfl ?_
      refine gt_X12_46 hC (a := 74) (kk_74 hL) (kn_74 hL) dX12_readsAll_57 ?_
      refine g_ref (b := 87) rfl ?_
      refine g_iload_n hC 1 dX12_readsAll_60 rfl rfl ?_
      refine g_iconst hC (v := 0) dX12_readsAll_61 ic_0 ?_
      obtain ⟨h_1, hf⟩ := gdE hf
      refine g_iast hC (x := x87) (kk_87 hL) (kn_87 hL) (ov_get hN 2 rfl rfl) (inb_in h_1) (ov_set hN (by rfl) 2 (by rfl)) dX12_readsAll_62 ?_
      show gV l b0 D K (n, κ, ov X0 [74, 86, 87, 88, 89, 90, 91] [x74, x86, (upd x87 v1.toNatClampNeg 0), x88, x89, x90, x91], ov Y0 [] [], Z, 0, 0) 63 [(0, .ref (b0 + 74)), (1, .int v1)] []
      refine g_aload_n hC 0 dX12_readsAll_63 rfl rfl ?_
      refine gt_X12_49 hC (a := 74) (kk_74 hL) (kn_74 hL) dX12_readsAll_64 ?_
      refine g_ref (b := 88) rfl ?_
      refine g_iload_n hC 1 dX12_readsAll_67 rfl rfl ?_
      refine g_iconst hC (v := 0) dX12_readsAll_68 ic_0 ?_
      obtain ⟨h_2, hf⟩ := gdE hf
      refine g_iast hC (x := x88) (kk_88 hL) (kn_88 hL) (ov_get hN 3 rfl rfl) (inb_in h_2) (ov_set hN (by rfl) 3 (by rfl)) dX12_readsAll_69 ?_
      show gV l b0 D K (n, κ, ov X0 [74, 86, 87, 88, 89, 90, 91] [x74, x86, (upd x87 v1.toNatClampNeg 0), (upd x88 v1.toNatClampNeg 0), x89, x90, x91], ov Y0 [] [], Z, 0, 0) 70 [(0, .ref (b0 + 74)), (1, .int v1)] []
      obtain ⟨t_3, et_3, hf⟩ := bnE hf
      refine g_iinc hC (i := 1) (v := t_3) [(1, .int t_3), (0, .ref (b0 + 74))] dX12_readsAll_70 (q := 1) rfl ((congrArg (HAdd.hAdd v1) ic_1).trans et_3.symm) (by decide) rfl ?_
      refine g_goto hC 50 dX12_readsAll_73 (by decide) ?_
      exact g_sub [1, 0] rfl (hk50 t_3 x74 x86 (upd x87 v1.toNatClampNeg 0) (upd x88 v1.toNatClampNeg 0) x89 x90 hf)

def fX12_readsAll_26b   (x91 : Nat → Int32)  (k26 : Int32 → (Nat → Int32) → (Nat → Int32) → (Nat → Int32) → (Nat → Int32) → (Nat → Int32) → (Nat → Int32) → Option ((Nat → Int32) × (Nat → Int32) × (Nat → Int32) × (Nat → Int32) × (Nat → Int32) × (Nat → Int32))) (v1 : Int32) (x74 : (Nat → Int32)) (x86 : (Nat → Int32)) (x87 : (Nat → Int32)) (x88 : (Nat → Int32)) (x89 : (Nat → Int32)) (x90 : (Nat → Int32)) : Option ((Nat → Int32) × (Nat → Int32) × (Nat → Int32) × (Nat → Int32) × (Nat → Int32) × (Nat → Int32)) := if (Int32.ofNat 36) ≤ v1 then (fX12_readsAll_50 x91  0 x74 x86 x87 x88 x89 x90) else (gd (inb v1 36) (bn (v1 + 1) fun t_2 => (k26 t_2 x74 x86 x87 x88 (upd x89 v1.toNatClampNeg 0) x90)))
def fX12_readsAll_26   (x91 : Nat → Int32)  : Int32 → (Nat → Int32) → (Nat → Int32) → (Nat → Int32) → (Nat → Int32) → (Nat → Int32) → (Nat → Int32) → Option ((Nat → Int32) × (Nat → Int32) × (Nat → Int32) × (Nat → Int32) × (Nat → Int32) × (Nat → Int32)) := lq7 (fX12_readsAll_26b x91 ) 5000
set_option maxHeartbeats 4000000 in
set_option maxRecDepth 100000 in
theorem wX12_readsAll_26 {l : Launch} {b0 : Nat} {D : GD} {K : KT} {n : Nat} {κ : QT} {X0 : XT} {Y0 : YT} {Z : ZT} (hL : LY n κ) (hN : ([74, 86, 87, 88, 89, 90, 91] : List Nat).Nodup) (hM : ([] : List Nat).Nodup) (hC : gC l b0 D K RX12 cX12_readsAll none 3 7 162 0 0) {x91 : Nat → Int32} {rx74 : (Nat → Int32)} {rx86 : (Nat → Int32)} {rx87 : (Nat → Int32)} {rx88 : (Nat → Int32)} {rx89 : (Nat → Int32)} {rx90 : (Nat → Int32)} (hret : ∀ pc loc, decode cX12_readsAll pc = .ok (.return_, 1) → gV l b0 D K (n, κ, ov X0 [74, 86, 87, 88, 89, 90, 91] [rx74, rx86, rx87, rx88, rx89, rx90, x91], ov Y0 [] [], Z, 0, 0) pc loc []) : ∀ (j : Nat) (v1 : Int32) (x74 : (Nat → Int32)) (x86 : (Nat → Int32)) (x87 : (Nat → Int32)) (x88 : (Nat → Int32)) (x89 : (Nat → Int32)) (x90 : (Nat → Int32)), lq7 (fX12_readsAll_26b x91 ) j v1 x74 x86 x87 x88 x89 x90 = some (rx74, rx86, rx87, rx88, rx89, rx90) → gV l b0 D K (n, κ, ov X0 [74, 86, 87, 88, 89, 90, 91] [x74, x86, x87, x88, x89, x90, x91], ov Y0 [] [], Z, 0, 0) 26 [(0, .ref (b0 + 74)), (1, .int v1)] [] := by
  intro j
  induction j with
  | zero => intro v1 x74 x86 x87 x88 x89 x90 hf; cases hf
  | succ j hk26 =>
    intro v1 x74 x86 x87 x88 x89 x90 hf
    replace hf : fX12_readsAll_26b x91  (lq7 (fX12_readsAll_26b x91 ) j) v1 x74 x86 x87 x88 x89 x90 = some (rx74, rx86, rx87, rx88, rx89, rx90) := hf
    unfold fX12_readsAll_26b at hf
    refine g_iload_n hC 1 dX12_readsAll_26 rfl rfl ?_
    refine g_aload_n hC 0 dX12_readsAll_27 rfl rfl ?_
    refine gt_X12_52 hC (a := 74) (kk_74 hL) (kn_74 hL) dX12_readsAll_28 ?_
    refine g_ref (b := 89) rfl ?_
    refine g_alen_i hC (L := 36) (kk_89 hL) (kn_89 hL) dX12_readsAll_31 ?_
    refine g_icmp_ge hC 48 dX12_readsAll_32 (by decide) (fun hc => ?_) (fun hc => ?_)
    · replace hf := ifT hf hc
      refine g_iconst hC (v := 0) dX12_readsAll_48 ic_0 ?_
      refine g_istore_n hC (i := 1) [(1, .int 0), (0, .ref (b0 + 74))] rfl dX12_readsAll_49 (by decide) rfl ?_
      exact g_sub [1, 0] rfl (wX12_readsAll_50 hL hN hM hC  hret  5000 0 x74 x86 x87 x88 x89 x90 hf)
    · replace hf := ifF hf hc
      refine g_aload_n hC 0 dX12_readsAll_35 rfl rfl ?_
      refine gt_X12_52 hC (a := 74) (kk_74 hL) (kn_74 hL) dX12_readsAll_36 ?_
      refine g_ref (b := 89) rfl ?_
      refine g_iload_n hC 1 dX12_readsAll_39 rfl rfl ?_
      refine g_iconst hC (v := 0) dX12_readsAll_40 ic_0 ?_
      obtain ⟨h_1, hf⟩ := gdE hf
      refine g_iast hC (x := x89) (kk_89 hL) (kn_89 hL) (ov_get hN 4 rfl rfl) (inb_in h_1) (ov_set hN (by rfl) 4 (by rfl)) dX12_readsAll_41 ?_
      show gV l b0 D K (n, κ, ov X0 [74, 86, 87, 88, 89, 90, 91] [x74, x86, x87, x88, (upd x89 v1.toNatClampNeg 0), x90, x91], ov Y0 [] [], Z, 0, 0) 42 [(0, .ref (b0 + 74)), (1, .int v1)] []
      obtain ⟨t_2, et_2, hf⟩ := bnE hf
      refine g_iinc hC (i := 1) (v := t_2) [(1, .int t_2), (0, .ref (b0 + 74))] dX12_readsAll_42 (q := 1) rfl ((congrArg (HAdd.hAdd v1) ic_1).trans et_2.symm) (by decide) rfl ?_
      refine g_goto hC 26 dX12_readsAll_45 (by decide) ?_
      exact g_sub [1, 0] rfl (hk26 t_2 x74 x86 x87 x88 (upd x89 v1.toNatClampNeg 0) x90 hf)

def fX12_readsAll_6b   (x91 : Nat → Int32)  (k6 : Int32 → (Nat → Int32) → (Nat → Int32) → (Nat → Int32) → (Nat → Int32) → (Nat → Int32) → (Nat → Int32) → Option ((Nat → Int32) × (Nat → Int32) × (Nat → Int32) × (Nat → Int32) × (Nat → Int32) × (Nat → Int32))) (v1 : Int32) (x74 : (Nat → Int32)) (x86 : (Nat → Int32)) (x87 : (Nat → Int32)) (x88 : (Nat → Int32)) (x89 : (Nat → Int32)) (x90 : (Nat → Int32)) : Option ((Nat → Int32) × (Nat → Int32) × (Nat → Int32) × (Nat → Int32) × (Nat → Int32) × (Nat → Int32)) := if 5 ≤ v1 then (fX12_readsAll_26 x91  0 x74 x86 x87 x88 x89 x90) else (gd (inb v1 5) (bn (v1 + 1) fun t_2 => (k6 t_2 x74 (upd x86 v1.toNatClampNeg 0) x87 x88 x89 x90)))
def fX12_readsAll_6   (x91 : Nat → Int32)  : Int32 → (Nat → Int32) → (Nat → Int32) → (Nat → Int32) → (Nat → Int32) → (Nat → Int32) → (Nat → Int32) → Option ((Nat → Int32) × (Nat → Int32) × (Nat → Int32) × (Nat → Int32) × (Nat → Int32) × (Nat → Int32)) := lq7 (fX12_readsAll_6b x91 ) 5000
set_option maxHeartbeats 4000000 in
set_option maxRecDepth 100000 in
theorem wX12_readsAll_6 {l : Launch} {b0 : Nat} {D : GD} {K : KT} {n : Nat} {κ : QT} {X0 : XT} {Y0 : YT} {Z : ZT} (hL : LY n κ) (hN : ([74, 86, 87, 88, 89, 90, 91] : List Nat).Nodup) (hM : ([] : List Nat).Nodup) (hC : gC l b0 D K RX12 cX12_readsAll none 3 7 162 0 0) {x91 : Nat → Int32} {rx74 : (Nat → Int32)} {rx86 : (Nat → Int32)} {rx87 : (Nat → Int32)} {rx88 : (Nat → Int32)} {rx89 : (Nat → Int32)} {rx90 : (Nat → Int32)} (hret : ∀ pc loc, decode cX12_readsAll pc = .ok (.return_, 1) → gV l b0 D K (n, κ, ov X0 [74, 86, 87, 88, 89, 90, 91] [rx74, rx86, rx87, rx88, rx89, rx90, x91], ov Y0 [] [], Z, 0, 0) pc loc []) : ∀ (j : Nat) (v1 : Int32) (x74 : (Nat → Int32)) (x86 : (Nat → Int32)) (x87 : (Nat → Int32)) (x88 : (Nat → Int32)) (x89 : (Nat → Int32)) (x90 : (Nat → Int32)), lq7 (fX12_readsAll_6b x91 ) j v1 x74 x86 x87 x88 x89 x90 = some (rx74, rx86, rx87, rx88, rx89, rx90) → gV l b0 D K (n, κ, ov X0 [74, 86, 87, 88, 89, 90, 91] [x74, x86, x87, x88, x89, x90, x91], ov Y0 [] [], Z, 0, 0) 6 [(0, .ref (b0 + 74)), (1, .int v1)] [] := by
  intro j
  induction j with
  | zero => intro v1 x74 x86 x87 x88 x89 x90 hf; cases hf
  | succ j hk6 =>
    intro v1 x74 x86 x87 x88 x89 x90 hf
    replace hf : fX12_readsAll_6b x91  (lq7 (fX12_readsAll_6b x91 ) j) v1 x74 x86 x87 x88 x89 x90 = some (rx74, rx86, rx87, rx88, rx89, rx90) := hf
    unfold fX12_readsAll_6b at hf
    refine g_iload_n hC 1 dX12_readsAll_6 rfl rfl ?_
    refine g_iconst hC (v := 5) dX12_readsAll_7 ic_5 ?_
    refine g_icmp_ge hC 24 dX12_readsAll_8 (by decide) (fun hc => ?_) (fun hc => ?_)
    · replace hf := ifT hf hc
      refine g_iconst hC (v := 0) dX12_readsAll_24 ic_0 ?_
      refine g_istore_n hC (i := 1) [(1, .int 0), (0, .ref (b0 + 74))] rfl dX12_readsAll_25 (by decide) rfl ?_
      exact g_sub [1, 0] rfl (wX12_readsAll_26 hL hN hM hC  hret  5000 0 x74 x86 x87 x88 x89 x90 hf)
    · replace hf := ifF hf hc
      refine g_aload_n hC 0 dX12_readsAll_11 rfl rfl ?_
      refine gt_X12_43 hC (a := 74) (kk_74 hL) (kn_74 hL) dX12_readsAll_12 ?_
      refine g_ref (b := 86) rfl ?_
      refine g_iload_n hC 1 dX12_readsAll_15 rfl rfl ?_
      refine g_iconst hC (v := 0) dX12_readsAll_16 ic_0 ?_
      obtain ⟨h_1, hf⟩ := gdE hf
      refine g_iast hC (x := x86) (kk_86 hL) (kn_86 hL) (ov_get hN 1 rfl rfl) (inb_in h_1) (ov_set hN (by rfl) 1 (by rfl)) dX12_readsAll_17 ?_
      show gV l b0 D K (n, κ, ov X0 [74, 86, 87, 88, 89, 90, 91] [x74, (upd x86 v1.toNatClampNeg 0), x87, x88, x89, x90, x91], ov Y0 [] [], Z, 0, 0) 18 [(0, .ref (b0 + 74)), (1, .int v1)] []
      obtain ⟨t_2, et_2, hf⟩ := bnE hf
      refine g_iinc hC (i := 1) (v := t_2) [(1, .int t_2), (0, .ref (b0 + 74))] dX12_readsAll_18 (q := 1) rfl ((congrArg (HAdd.hAdd v1) ic_1).trans et_2.symm) (by decide) rfl ?_
      refine g_goto hC 6 dX12_readsAll_21 (by decide) ?_
      exact g_sub [1, 0] rfl (hk6 t_2 x74 (upd x86 v1.toNatClampNeg 0) x87 x88 x89 x90 hf)

def fX12_readsAll_0   (x91 : Nat → Int32)  (x74 : (Nat → Int32)) (x86 : (Nat → Int32)) (x87 : (Nat → Int32)) (x88 : (Nat → Int32)) (x89 : (Nat → Int32)) (x90 : (Nat → Int32)) : Option ((Nat → Int32) × (Nat → Int32) × (Nat → Int32) × (Nat → Int32) × (Nat → Int32) × (Nat → Int32)) := bd1 (fX12_starts x74) fun x74_1 => (fX12_readsAll_6 x91  0 x74_1 x86 x87 x88 x89 x90)
set_option maxHeartbeats 4000000 in
set_option maxRecDepth 100000 in
theorem wX12_readsAll_0 {l : Launch} {b0 : Nat} {D : GD} {K : KT} {n : Nat} {κ : QT} {X0 : XT} {Y0 : YT} {Z : ZT} (hL : LY n κ) (hN : ([74, 86, 87, 88, 89, 90, 91] : List Nat).Nodup) (hM : ([] : List Nat).Nodup) (hC : gC l b0 D K RX12 cX12_readsAll none 3 7 162 0 0) {x91 : Nat → Int32} {rx74 : (Nat → Int32)} {rx86 : (Nat → Int32)} {rx87 : (Nat → Int32)} {rx88 : (Nat → Int32)} {rx89 : (Nat → Int32)} {rx90 : (Nat → Int32)} (hret : ∀ pc loc, decode cX12_readsAll pc = .ok (.return_, 1) → gV l b0 D K (n, κ, ov X0 [74, 86, 87, 88, 89, 90, 91] [rx74, rx86, rx87, rx88, rx89, rx90, x91], ov Y0 [] [], Z, 0, 0) pc loc []) {x74 : (Nat → Int32)} {x86 : (Nat → Int32)} {x87 : (Nat → Int32)} {x88 : (Nat → Int32)} {x89 : (Nat → Int32)} {x90 : (Nat → Int32)} (hf : fX12_readsAll_0 x91  x74 x86 x87 x88 x89 x90 = some (rx74, rx86, rx87, rx88, rx89, rx90)) : gV l b0 D K (n, κ, ov X0 [74, 86, 87, 88, 89, 90, 91] [x74, x86, x87, x88, x89, x90, x91], ov Y0 [] [], Z, 0, 0) 0 [(0, .ref (b0 + 74))] [] := by
  unfold fX12_readsAll_0 at hf
  refine g_aload_n hC 0 dX12_readsAll_0 rfl rfl ?_
  obtain ⟨x74_1, q_2, hf⟩ := bd1E hf
  refine g_callV_v (a := 74) hC (X' := ov X0 [74, 86, 87, 88, 89, 90, 91] [x74_1, x86, x87, x88, x89, x90, x91]) (Y' := ov Y0 [] []) (As := []) (gMv_eq (c_X12_starts l hL (ov_map hN [0] (by rfl) (by rfl)) (ov_map hM [] (by rfl) (by rfl)) q_2) (ov_ovE hN (by rfl) [0] [1, 2, 3, 4, 5, 6] (by rfl) (by rfl) [x86, x87, x88, x89, x90, x91] (by rfl) (by rfl) (by rfl) 7 (by rfl) (by decide)) (ov_ovE hM (by rfl) [] [] (by rfl) (by rfl) [] (by rfl) (by rfl) (by rfl) 0 (by rfl) (by decide))) tw_1372 tw_1369 tw_127 tw_1371 tw_47 (ci := 12) rfl (by decide) (kk_74 hL) (kn_74 hL) pd_X12_starts (by decide) (by decide) rfl rfl (Nat.le_of_ble_eq_true rfl) rfl dX12_readsAll_1 ?_
  refine g_iconst hC (v := 0) dX12_readsAll_4 ic_0 ?_
  refine g_istore_n hC (i := 1) [(1, .int 0), (0, .ref (b0 + 74))] rfl dX12_readsAll_5 (by decide) rfl ?_
  exact g_sub [1, 0] rfl (wX12_readsAll_6 hL hN hM hC  hret  5000 0 x74_1 x86 x87 x88 x89 x90 hf)

def fX12_readsAll   (x91 : Nat → Int32)   (x74 : Nat → Int32) (x86 : Nat → Int32) (x87 : Nat → Int32) (x88 : Nat → Int32) (x89 : Nat → Int32) (x90 : Nat → Int32)  : Option ((Nat → Int32) × (Nat → Int32) × (Nat → Int32) × (Nat → Int32) × (Nat → Int32) × (Nat → Int32)) := fX12_readsAll_0 x91 x74 x86 x87 x88 x89 x90

set_option maxHeartbeats 4000000 in
set_option maxRecDepth 100000 in
theorem c_X12_readsAll (l : Launch) {b0 : Nat} {D : GD} {n : Nat} {κ : QT} {X0 : XT} {Y0 : YT} {Z : ZT} (hL : LY n κ) {x74 : Nat → Int32} {x86 : Nat → Int32} {x87 : Nat → Int32} {x88 : Nat → Int32} {x89 : Nat → Int32} {x90 : Nat → Int32} {x91 : Nat → Int32} (hx : ([74, 86, 87, 88, 89, 90, 91] : List Nat).map X0 = [x74, x86, x87, x88, x89, x90, x91]) (hy : ([] : List Nat).map Y0 = []) {rx74 : (Nat → Int32)} {rx86 : (Nat → Int32)} {rx87 : (Nat → Int32)} {rx88 : (Nat → Int32)} {rx89 : (Nat → Int32)} {rx90 : (Nat → Int32)} (hf : fX12_readsAll x91 x74 x86 x87 x88 x89 x90 = some (rx74, rx86, rx87, rx88, rx89, rx90)) : gMv l yX12_readsAll cX12_readsAll 3 none 7 162 0 0 b0 D [.ref (b0 + 74)] (n, κ, X0, Y0, Z) (n, κ, ov X0 [74, 86, 87, 88, 89, 90, 91] [rx74, rx86, rx87, rx88, rx89, rx90, x91], ov Y0 [] [], Z) := by
  have hN : ([74, 86, 87, 88, 89, 90, 91] : List Nat).Nodup := by decide
  have hM : ([] : List Nat).Nodup := by decide
  refine g_metv (own := RX12) (by decide) rfl rfl (Nat.le_of_ble_eq_true rfl) ?_
  intro K hC hret
  have e := wX12_readsAll_0 hL hN hM hC  hret hf
  rw [ov_id' hx, ov_id' hy] at e
  exact g_sub [0] rfl e

-- X12_town
def fX12_town_21b   (x91 : Nat → Int32)  (k21 : Int32 → (Nat → Int32) → (Nat → Int32) → (Nat → Int32) → (Nat → Int32) → (Nat → Int32) → (Nat → Int32) → (Nat → Int32) → (Nat → Int32) → (Nat → Int32) → (Nat → Int32) → (Nat → Int32) → (Nat → Int32) → (Nat → Int32) → (Nat → Int32) → Option (Int32 × (Nat → Int32) × (Nat → Int32) × (Nat → Int32) × (Nat → Int32) × (Nat → Int32) × (Nat → Int32) × (Nat → Int32) × (Nat → Int32) × (Nat → Int32) × (Nat → Int32) × (Nat → Int32) × (Nat → Int32) × (Nat → Int32) × (Nat → Int32))) (v1 : Int32) (x74 : (Nat → Int32)) (x75 : (Nat → Int32)) (x76 : (Nat → Int32)) (x77 : (Nat → Int32)) (x78 : (Nat → Int32)) (x79 : (Nat → Int32)) (x83 : (Nat → Int32)) (x84 : (Nat → Int32)) (x85 : (Nat → Int32)) (x86 : (Nat → Int32)) (x87 : (Nat → Int32)) (x88 : (Nat → Int32)) (x89 : (Nat → Int32)) (x90 : (Nat → Int32)) : Option (Int32 × (Nat → Int32) × (Nat → Int32) × (Nat → Int32) × (Nat → Int32) × (Nat → Int32) × (Nat → Int32) × (Nat → Int32) × (Nat → Int32) × (Nat → Int32) × (Nat → Int32) × (Nat → Int32) × (Nat → Int32) × (Nat → Int32) × (Nat → Int32)) := if 5 ≤ v1 then (gd (inb 8 11) (bd1 (fX12_copies 6 6 x87 x83) fun x83_2 => (bd1 (fX12_copies 6 6 x88 x84) fun x84_4 => (bd1 (fX12_copies 36 36 x89 x85) fun x85_6 => (bd1 (fX12_copies 12 12 x90 x79) fun x79_8 => (bd4 (fX12_begins x83_2 x84_4 x85_6 (upd x75 (8 : Int32).toNatClampNeg 0) x76 x77 x78) fun x75_10 x76_11 x77_12 x78_13 => (gd (inb 4 11) (some (x75_10 (4 : Int32).toNatClampNeg, (upd x74 43 0), x75_10, x76_11, x77_12, x78_13, x79_8, x83_2, x84_4, x85_6, x86, x87, x88, x89, x90))))))))) else (gd (inb v1 5) (gd (inb v1 11) (bn (v1 + 1) fun t_18 => (k21 t_18 x74 (upd x75 v1.toNatClampNeg (x86 v1.toNatClampNeg)) x76 x77 x78 x79 x83 x84 x85 x86 x87 x88 x89 x90))))
def fX12_town_21   (x91 : Nat → Int32)  : Int32 → (Nat → Int32) → (Nat → Int32) → (Nat → Int32) → (Nat → Int32) → (Nat → Int32) → (Nat → Int32) → (Nat → Int32) → (Nat → Int32) → (Nat → Int32) → (Nat → Int32) → (Nat → Int32) → (Nat → Int32) → (Nat → Int32) → (Nat → Int32) → Option (Int32 × (Nat → Int32) × (Nat → Int32) × (Nat → Int32) × (Nat → Int32) × (Nat → Int32) × (Nat → Int32) × (Nat → Int32) × (Nat → Int32) × (Nat → Int32) × (Nat → Int32) × (Nat → Int32) × (Nat → Int32) × (Nat → Int32) × (Nat → Int32)) := lq15 (fX12_town_21b x91 ) 5000
set_option maxHeartbeats 4000000 in
set_option maxRecDepth 100000 in
theorem wX12_town_21 {l : Launch} {b0 : Nat} {D : GD} {K : KT} {n : Nat} {κ : QT} {X0 : XT} {Y0 : YT} {Z : ZT} (hL : LY n κ) (hN : ([74, 75, 76, 77, 78, 79, 83, 84, 85, 86, 87, 88, 89, 90, 91] : List Nat).Nodup) (hM : ([] : List Nat).Nodup) (hC : gC l b0 D K RX12 cX12_town (some FieldType.int) 2 8 184 0 0) {x91 : Nat → Int32} {r : Int32} {rx74 : (Nat → Int32)} {rx75 : (Nat → Int32)} {rx76 : (Nat → Int32)} {rx77 : (Nat → Int32)} {rx78 : (Nat → Int32)} {rx79 : (Nat → Int32)} {rx83 : (Nat → Int32)} {rx84 : (Nat → Int32)} {rx85 : (Nat → Int32)} {rx86 : (Nat → Int32)} {rx87 : (Nat → Int32)} {rx88 : (Nat → Int32)} {rx89 : (Nat → Int32)} {rx90 : (Nat → Int32)} (hret : ∀ pc loc, narrow .int (.int r) = .int r → decode cX12_town pc = .ok (.ireturn, 1) → gV l b0 D K (n, κ, ov X0 [74, 75, 76, 77, 78, 79, 83, 84, 85, 86, 87, 88, 89, 90, 91] [rx74, rx75, rx76, rx77, rx78, rx79, rx83, rx84, rx85, rx86, rx87, rx88, rx89, rx90, x91], ov Y0 [] [], Z, 0, 0) pc loc [.int r]) : ∀ (j : Nat) (v1 : Int32) (x74 : (Nat → Int32)) (x75 : (Nat → Int32)) (x76 : (Nat → Int32)) (x77 : (Nat → Int32)) (x78 : (Nat → Int32)) (x79 : (Nat → Int32)) (x83 : (Nat → Int32)) (x84 : (Nat → Int32)) (x85 : (Nat → Int32)) (x86 : (Nat → Int32)) (x87 : (Nat → Int32)) (x88 : (Nat → Int32)) (x89 : (Nat → Int32)) (x90 : (Nat → Int32)), lq15 (fX12_town_21b x91 ) j v1 x74 x75 x76 x77 x78 x79 x83 x84 x85 x86 x87 x88 x89 x90 = some (r, rx74, rx75, rx76, rx77, rx78, rx79, rx83, rx84, rx85, rx86, rx87, rx88, rx89, rx90) → gV l b0 D K (n, κ, ov X0 [74, 75, 76, 77, 78, 79, 83, 84, 85, 86, 87, 88, 89, 90, 91] [x74, x75, x76, x77, x78, x79, x83, x84, x85, x86, x87, x88, x89, x90, x91], ov Y0 [] [], Z, 0, 0) 21 [(0, .ref (b0 + 74)), (1, .int v1)] [] := by
  intro j
  induction j with
  | zero => intro v1 x74 x75 x76 x77 x78 x79 x83 x84 x85 x86 x87 x88 x89 x90 hf; cases hf
  | succ j hk21 =>
    intro v1 x74 x75 x76 x77 x78 x79 x83 x84 x85 x86 x87 x88 x89 x90 hf
    replace hf : fX12_town_21b x91  (lq15 (fX12_town_21b x91 ) j) v1 x74 x75 x76 x77 x78 x79 x83 x84 x85 x86 x87 x88 x89 x90 = some (r, rx74, rx75, rx76, rx77, rx78, rx79, rx83, rx84, rx85, rx86, rx87, rx88, rx89, rx90) := hf
    unfold fX12_town_21b at hf
    refine g_iload_n hC 1 dX12_town_21 rfl rfl ?_
    refine g_iconst hC (v := 5) dX12_town_22 ic_5 ?_
    refine g_icmp_ge hC 44 dX12_town_23 (by decide) (fun hc => ?_) (fun hc => ?_)
    · replace hf := ifT hf hc
      refine g_aload_n hC 0 dX12_town_44 rfl rfl ?_
      refine gt_X12_9 hC (a := 74) (kk_74 hL) (kn_74 hL) dX12_town_45 ?_
      refine g_ref (b := 75) rfl ?_
      refine g_bipush hC (v := 8) dX12_town_48 bp_8 ?_
      refine g_iconst hC (v := 0) dX12_town_50 ic_0 ?_
      obtain ⟨h_1, hf⟩ := gdE hf
      refine g_iast hC (x := x75) (kk_75 hL) (kn_75 hL) (ov_get hN 1 rfl rfl) (inb_in h_1) (ov_set hN (by rfl) 1 (by rfl)) dX12_town_51 ?_
      show gV l b0 D K (n, κ, ov X0 [74, 75, 76, 77, 78, 79, 83, 84, 85, 86, 87, 88, 89, 90, 91] [x74, (upd x75 (8 : Int32).toNatClampNeg 0), x76, x77, x78, x79, x83, x84, x85, x86, x87, x88, x89, x90, x91], ov Y0 [] [], Z, 0, 0) 52 [(0, .ref (b0 + 74)), (1, .int v1)] []
      refine g_aload_n hC 0 dX12_town_52 rfl rfl ?_
      refine gt_X12_46 hC (a := 74) (kk_74 hL) (kn_74 hL) dX12_town_53 ?_
      refine g_ref (b := 87) rfl ?_
      refine g_aload_n hC 0 dX12_town_56 rfl rfl ?_
      refine gt_X12_34 hC (a := 74) (kk_74 hL) (kn_74 hL) dX12_town_57 ?_
      refine g_ref (b := 83) rfl ?_
      obtain ⟨x83_2, q_3, hf⟩ := bd1E hf
      refine g_callS_v hC (X' := ov X0 [74, 75, 76, 77, 78, 79, 83, 84, 85, 86, 87, 88, 89, 90, 91] [x74, (upd x75 (8 : Int32).toNatClampNeg 0), x76, x77, x78, x79, x83_2, x84, x85, x86, x87, x88, x89, x90, x91]) (Y' := ov Y0 [] []) (As := [.ref (b0 + 87), .ref (b0 + 83)]) (gMv_eq (c_X12_copies l hL (kk_87 hL) (kn_87 hL) (kk_83 hL) (kn_83 hL) (nd_sub hN [10, 6] (by decide) (by rfl)) (nd_sub hM [] (by decide) (by rfl)) (ov_map hN [10, 6] (by rfl) (by rfl)) (ov_map hM [] (by rfl) (by rfl)) q_3) (ov_ovE hN (by rfl) [10, 6] [0, 1, 2, 3, 4, 5, 7, 8, 9, 11, 12, 13, 14] (by rfl) (by rfl) [x74, (upd x75 (8 : Int32).toNatClampNeg 0), x76, x77, x78, x79, x84, x85, x86, x88, x89, x90, x91] (by rfl) (by rfl) (by rfl) 15 (by rfl) (by decide)) (ov_ovE hM (by rfl) [] [] (by rfl) (by rfl) [] (by rfl) (by rfl) (by rfl) 0 (by rfl) (by decide))) tw_1439 tw_1437 tw_127 tw_1438 pd_X12_copies (by decide) (by decide) rfl rfl (Nat.le_of_ble_eq_true rfl) rfl dX12_town_60 ?_
      refine g_aload_n hC 0 dX12_town_63 rfl rfl ?_
      refine gt_X12_49 hC (a := 74) (kk_74 hL) (kn_74 hL) dX12_town_64 ?_
      refine g_ref (b := 88) rfl ?_
      refine g_aload_n hC 0 dX12_town_67 rfl rfl ?_
      refine gt_X12_37 hC (a := 74) (kk_74 hL) (kn_74 hL) dX12_town_68 ?_
      refine g_ref (b := 84) rfl ?_
      obtain ⟨x84_4, q_5, hf⟩ := bd1E hf
      refine g_callS_v hC (X' := ov X0 [74, 75, 76, 77, 78, 79, 83, 84, 85, 86, 87, 88, 89, 90, 91] [x74, (upd x75 (8 : Int32).toNatClampNeg 0), x76, x77, x78, x79, x83_2, x84_4, x85, x86, x87, x88, x89, x90, x91]) (Y' := ov Y0 [] []) (As := [.ref (b0 + 88), .ref (b0 + 84)]) (gMv_eq (c_X12_copies l hL (kk_88 hL) (kn_88 hL) (kk_84 hL) (kn_84 hL) (nd_sub hN [11, 7] (by decide) (by rfl)) (nd_sub hM [] (by decide) (by rfl)) (ov_map hN [11, 7] (by rfl) (by rfl)) (ov_map hM [] (by rfl) (by rfl)) q_5) (ov_ovE hN (by rfl) [11, 7] [0, 1, 2, 3, 4, 5, 6, 8, 9, 10, 12, 13, 14] (by rfl) (by rfl) [x74, (upd x75 (8 : Int32).toNatClampNeg 0), x76, x77, x78, x79, x83_2, x85, x86, x87, x89, x90, x91] (by rfl) (by rfl) (by rfl) 15 (by rfl) (by decide)) (ov_ovE hM (by rfl) [] [] (by rfl) (by rfl) [] (by rfl) (by rfl) (by rfl) 0 (by rfl) (by decide))) tw_1439 tw_1437 tw_127 tw_1438 pd_X12_copies (by decide) (by decide) rfl rfl (Nat.le_of_ble_eq_true rfl) rfl dX12_town_71 ?_
      refine g_aload_n hC 0 dX12_town_74 rfl rfl ?_
      refine gt_X12_52 hC (a := 74) (kk_74 hL) (kn_74 hL) dX12_town_75 ?_
      refine g_ref (b := 89) rfl ?_
      refine g_aload_n hC 0 dX12_town_78 rfl rfl ?_
      refine gt_X12_40 hC (a := 74) (kk_74 hL) (kn_74 hL) dX12_town_79 ?_
      refine g_ref (b := 85) rfl ?_
      obtain ⟨x85_6, q_7, hf⟩ := bd1E hf
      refine g_callS_v hC (X' := ov X0 [74, 75, 76, 77, 78, 79, 83, 84, 85, 86, 87, 88, 89, 90, 91] [x74, (upd x75 (8 : Int32).toNatClampNeg 0), x76, x77, x78, x79, x83_2, x84_4, x85_6, x86, x87, x88, x89, x90, x91]) (Y' := ov Y0 [] []) (As := [.ref (b0 + 89), .ref (b0 + 85)]) (gMv_eq (c_X12_copies l hL (kk_89 hL) (kn_89 hL) (kk_85 hL) (kn_85 hL) (nd_sub hN [12, 8] (by decide) (by rfl)) (nd_sub hM [] (by decide) (by rfl)) (ov_map hN [12, 8] (by rfl) (by rfl)) (ov_map hM [] (by rfl) (by rfl)) q_7) (ov_ovE hN (by rfl) [12, 8] [0, 1, 2, 3, 4, 5, 6, 7, 9, 10, 11, 13, 14] (by rfl) (by rfl) [x74, (upd x75 (8 : Int32).toNatClampNeg 0), x76, x77, x78, x79, x83_2, x84_4, x86, x87, x88, x90, x91] (by rfl) (by rfl) (by rfl) 15 (by rfl) (by decide)) (ov_ovE hM (by rfl) [] [] (by rfl) (by rfl) [] (by rfl) (by rfl) (by rfl) 0 (by rfl) (by decide))) tw_1439 tw_1437 tw_127 tw_1438 pd_X12_copies (by decide) (by decide) rfl rfl (Nat.le_of_ble_eq_true rfl) rfl dX12_town_82 ?_
      refine g_aload_n hC 0 dX12_town_85 rfl rfl ?_
      refine gt_X12_55 hC (a := 74) (kk_74 hL) (kn_74 hL) dX12_town_86 ?_
      refine g_ref (b := 90) rfl ?_
      refine g_aload_n hC 0 dX12_town_89 rfl rfl ?_
      refine gt_X12_22 hC (a := 74) (kk_74 hL) (kn_74 hL) dX12_town_90 ?_
      refine g_ref (b := 79) rfl ?_
      obtain ⟨x79_8, q_9, hf⟩ := bd1E hf
      refine g_callS_v hC (X' := ov X0 [74, 75, 76, 77, 78, 79, 83, 84, 85, 86, 87, 88, 89, 90, 91] [x74, (upd x75 (8 : Int32).toNatClampNeg 0), x76, x77, x78, x79_8, x83_2, x84_4, x85_6, x86, x87, x88, x89, x90, x91]) (Y' := ov Y0 [] []) (As := [.ref (b0 + 90), .ref (b0 + 79)]) (gMv_eq (c_X12_copies l hL (kk_90 hL) (kn_90 hL) (kk_79 hL) (kn_79 hL) (nd_sub hN [13, 5] (by decide) (by rfl)) (nd_sub hM [] (by decide) (by rfl)) (ov_map hN [13, 5] (by rfl) (by rfl)) (ov_map hM [] (by rfl) (by rfl)) q_9) (ov_ovE hN (by rfl) [13, 5] [0, 1, 2, 3, 4, 6, 7, 8, 9, 10, 11, 12, 14] (by rfl) (by rfl) [x74, (upd x75 (8 : Int32).toNatClampNeg 0), x76, x77, x78, x83_2, x84_4, x85_6, x86, x87, x88, x89, x91] (by rfl) (by rfl) (by rfl) 15 (by rfl) (by decide)) (ov_ovE hM (by rfl) [] [] (by rfl) (by rfl) [] (by rfl) (by rfl) (by rfl) 0 (by rfl) (by decide))) tw_1439 tw_1437 tw_127 tw_1438 pd_X12_copies (by decide) (by decide) rfl rfl (Nat.le_of_ble_eq_true rfl) rfl dX12_town_93 ?_
      refine g_aload_n hC 0 dX12_town_96 rfl rfl ?_
      obtain ⟨x75_10, x76_11, x77_12, x78_13, q_14, hf⟩ := bd4E hf
      refine g_callV_v (a := 74) hC (X' := ov X0 [74, 75, 76, 77, 78, 79, 83, 84, 85, 86, 87, 88, 89, 90, 91] [x74, x75_10, x76_11, x77_12, x78_13, x79_8, x83_2, x84_4, x85_6, x86, x87, x88, x89, x90, x91]) (Y' := ov Y0 [] []) (As := []) (gMv_eq (c_X12_begins l hL (ov_map hN [1, 2, 3, 4, 6, 7, 8] (by rfl) (by rfl)) (ov_map hM [] (by rfl) (by rfl)) q_14) (ov_ovE hN (by rfl) [1, 2, 3, 4, 6, 7, 8] [0, 5, 9, 10, 11, 12, 13, 14] (by rfl) (by rfl) [x74, x79_8, x86, x87, x88, x89, x90, x91] (by rfl) (by rfl) (by rfl) 15 (by rfl) (by decide)) (ov_ovE hM (by rfl) [] [] (by rfl) (by rfl) [] (by rfl) (by rfl) (by rfl) 0 (by rfl) (by decide))) tw_1443 tw_1440 tw_127 tw_1442 tw_60 (ci := 12) rfl (by decide) (kk_74 hL) (kn_74 hL) pd_X12_begins (by decide) (by decide) rfl rfl (Nat.le_of_ble_eq_true rfl) rfl dX12_town_97 ?_
      refine g_aload_n hC 0 dX12_town_100 rfl rfl ?_
      refine g_iconst hC (v := 0) dX12_town_101 ic_0 ?_
      refine pt_X12_320 hC (x := x74) (kk_74 hL) (kn_74 hL) (ov_get hN 0 rfl rfl) (ov_set hN (by rfl) 0 (by rfl)) dX12_town_102 ?_
      show gV l b0 D K (n, κ, ov X0 [74, 75, 76, 77, 78, 79, 83, 84, 85, 86, 87, 88, 89, 90, 91] [(upd x74 43 0), x75_10, x76_11, x77_12, x78_13, x79_8, x83_2, x84_4, x85_6, x86, x87, x88, x89, x90, x91], ov Y0 [] [], Z, 0, 0) 105 [(0, .ref (b0 + 74)), (1, .int v1)] []
      refine g_aload_n hC 0 dX12_town_105 rfl rfl ?_
      refine gt_X12_9 hC (a := 74) (kk_74 hL) (kn_74 hL) dX12_town_106 ?_
      refine g_ref (b := 75) rfl ?_
      refine g_iconst hC (v := 4) dX12_town_109 ic_4 ?_
      obtain ⟨h_15, hf⟩ := gdE hf
      refine g_iald hC (x := x75_10) (kk_75 hL) (kn_75 hL) (ov_get hN 1 rfl rfl) (inb_in h_15) dX12_town_110 ?_
      obtain ⟨rfl, rfl, rfl, rfl, rfl, rfl, rfl, rfl, rfl, rfl, rfl, rfl, rfl, rfl, rfl⟩ := sm15E hf
      exact hret _ _ rfl dX12_town_111
    · replace hf := ifF hf hc
      refine g_aload_n hC 0 dX12_town_26 rfl rfl ?_
      refine gt_X12_9 hC (a := 74) (kk_74 hL) (kn_74 hL) dX12_town_27 ?_
      refine g_ref (b := 75) rfl ?_
      refine g_iload_n hC 1 dX12_town_30 rfl rfl ?_
      refine g_aload_n hC 0 dX12_town_31 rfl rfl ?_
      refine gt_X12_43 hC (a := 74) (kk_74 hL) (kn_74 hL) dX12_town_32 ?_
      refine g_ref (b := 86) rfl ?_
      refine g_iload_n hC 1 dX12_town_35 rfl rfl ?_
      obtain ⟨h_16, hf⟩ := gdE hf
      refine g_iald hC (x := x86) (kk_86 hL) (kn_86 hL) (ov_get hN 9 rfl rfl) (inb_in h_16) dX12_town_36 ?_
      obtain ⟨h_17, hf⟩ := gdE hf
      refine g_iast hC (x := x75) (kk_75 hL) (kn_75 hL) (ov_get hN 1 rfl rfl) (inb_in h_17) (ov_set hN (by rfl) 1 (by rfl)) dX12_town_37 ?_
      show gV l b0 D K (n, κ, ov X0 [74, 75, 76, 77, 78, 79, 83, 84, 85, 86, 87, 88, 89, 90, 91] [x74, (upd x75 v1.toNatClampNeg (x86 v1.toNatClampNeg)), x76, x77, x78, x79, x83, x84, x85, x86, x87, x88, x89, x90, x91], ov Y0 [] [], Z, 0, 0) 38 [(0, .ref (b0 + 74)), (1, .int v1)] []
      obtain ⟨t_18, et_18, hf⟩ := bnE hf
      refine g_iinc hC (i := 1) (v := t_18) [(1, .int t_18), (0, .ref (b0 + 74))] dX12_town_38 (q := 1) rfl ((congrArg (HAdd.hAdd v1) ic_1).trans et_18.symm) (by decide) rfl ?_
      refine g_goto hC 21 dX12_town_41 (by decide) ?_
      exact g_sub [1, 0] rfl (hk21 t_18 x74 (upd x75 v1.toNatClampNeg (x86 v1.toNatClampNeg)) x76 x77 x78 x79 x83 x84 x85 x86 x87 x88 x89 x90 hf)

def fX12_town_0   (x91 : Nat → Int32)  (x74 : (Nat → Int32)) (x75 : (Nat → Int32)) (x76 : (Nat → Int32)) (x77 : (Nat → Int32)) (x78 : (Nat → Int32)) (x79 : (Nat → Int32)) (x83 : (Nat → Int32)) (x84 : (Nat → Int32)) (x85 : (Nat → Int32)) (x86 : (Nat → Int32)) (x87 : (Nat → Int32)) (x88 : (Nat → Int32)) (x89 : (Nat → Int32)) (x90 : (Nat → Int32)) : Option (Int32 × (Nat → Int32) × (Nat → Int32) × (Nat → Int32) × (Nat → Int32) × (Nat → Int32) × (Nat → Int32) × (Nat → Int32) × (Nat → Int32) × (Nat → Int32) × (Nat → Int32) × (Nat → Int32) × (Nat → Int32) × (Nat → Int32) × (Nat → Int32)) := bd6 (fX12_readsAll x91 x74 x86 x87 x88 x89 x90) fun x74_1 x86_2 x87_3 x88_4 x89_5 x90_6 => (if (x74_1 19) ≤ 0 then (fX12_town_21 x91  0 x74_1 x75 x76 x77 x78 x79 x83 x84 x85 x86_2 x87_3 x88_4 x89_5 x90_6) else (some ((-2) - (x74_1 19), x74_1, x75, x76, x77, x78, x79, x83, x84, x85, x86_2, x87_3, x88_4, x89_5, x90_6)))
set_option maxHeartbeats 4000000 in
set_option maxRecDepth 100000 in
theorem wX12_town_0 {l : Launch} {b0 : Nat} {D : GD} {K : KT} {n : Nat} {κ : QT} {X0 : XT} {Y0 : YT} {Z : ZT} (hL : LY n κ) (hN : ([74, 75, 76, 77, 78, 79, 83, 84, 85, 86, 87, 88, 89, 90, 91] : List Nat).Nodup) (hM : ([] : List Nat).Nodup) (hC : gC l b0 D K RX12 cX12_town (some FieldType.int) 2 8 184 0 0) {x91 : Nat → Int32} {r : Int32} {rx74 : (Nat → Int32)} {rx75 : (Nat → Int32)} {rx76 : (Nat → Int32)} {rx77 : (Nat → Int32)} {rx78 : (Nat → Int32)} {rx79 : (Nat → Int32)} {rx83 : (Nat → Int32)} {rx84 : (Nat → Int32)} {rx85 : (Nat → Int32)} {rx86 : (Nat → Int32)} {rx87 : (Nat → Int32)} {rx88 : (Nat → Int32)} {rx89 : (Nat → Int32)} {rx90 : (Nat → Int32)} (hret : ∀ pc loc, narrow .int (.int r) = .int r → decode cX12_town pc = .ok (.ireturn, 1) → gV l b0 D K (n, κ, ov X0 [74, 75, 76, 77, 78, 79, 83, 84, 85, 86, 87, 88, 89, 90, 91] [rx74, rx75, rx76, rx77, rx78, rx79, rx83, rx84, rx85, rx86, rx87, rx88, rx89, rx90, x91], ov Y0 [] [], Z, 0, 0) pc loc [.int r]) {x74 : (Nat → Int32)} {x75 : (Nat → Int32)} {x76 : (Nat → Int32)} {x77 : (Nat → Int32)} {x78 : (Nat → Int32)} {x79 : (Nat → Int32)} {x83 : (Nat → Int32)} {x84 : (Nat → Int32)} {x85 : (Nat → Int32)} {x86 : (Nat → Int32)} {x87 : (Nat → Int32)} {x88 : (Nat → Int32)} {x89 : (Nat → Int32)} {x90 : (Nat → Int32)} (hf : fX12_town_0 x91  x74 x75 x76 x77 x78 x79 x83 x84 x85 x86 x87 x88 x89 x90 = some (r, rx74, rx75, rx76, rx77, rx78, rx79, rx83, rx84, rx85, rx86, rx87, rx88, rx89, rx90)) : gV l b0 D K (n, κ, ov X0 [74, 75, 76, 77, 78, 79, 83, 84, 85, 86, 87, 88, 89, 90, 91] [x74, x75, x76, x77, x78, x79, x83, x84, x85, x86, x87, x88, x89, x90, x91], ov Y0 [] [], Z, 0, 0) 0 [(0, .ref (b0 + 74))] [] := by
  unfold fX12_town_0 at hf
  refine g_aload_n hC 0 dX12_town_0 rfl rfl ?_
  obtain ⟨x74_1, x86_2, x87_3, x88_4, x89_5, x90_6, q_7, hf⟩ := bd6E hf
  refine g_callV_v (a := 74) hC (X' := ov X0 [74, 75, 76, 77, 78, 79, 83, 84, 85, 86, 87, 88, 89, 90, 91] [x74_1, x75, x76, x77, x78, x79, x83, x84, x85, x86_2, x87_3, x88_4, x89_5, x90_6, x91]) (Y' := ov Y0 [] []) (As := []) (gMv_eq (c_X12_readsAll l hL (ov_map hN [0, 9, 10, 11, 12, 13, 14] (by rfl) (by rfl)) (ov_map hM [] (by rfl) (by rfl)) q_7) (ov_ovE hN (by rfl) [0, 9, 10, 11, 12, 13, 14] [1, 2, 3, 4, 5, 6, 7, 8] (by rfl) (by rfl) [x75, x76, x77, x78, x79, x83, x84, x85] (by rfl) (by rfl) (by rfl) 15 (by rfl) (by decide)) (ov_ovE hM (by rfl) [] [] (by rfl) (by rfl) [] (by rfl) (by rfl) (by rfl) 0 (by rfl) (by decide))) tw_1368 tw_1365 tw_127 tw_1367 tw_46 (ci := 12) rfl (by decide) (kk_74 hL) (kn_74 hL) pd_X12_readsAll (by decide) (by decide) rfl rfl (Nat.le_of_ble_eq_true rfl) rfl dX12_town_1 ?_
  refine g_aload_n hC 0 dX12_town_4 rfl rfl ?_
  refine gt_X12_180 hC (x := x74_1) (kk_74 hL) (kn_74 hL) (ov_get hN 0 rfl rfl) dX12_town_5 ?_
  refine g_if_le hC 19 dX12_town_8 (by decide) (fun hc => ?_) (fun hc => ?_)
  · replace hf := ifT hf hc
    refine g_iconst hC (v := 0) dX12_town_19 ic_0 ?_
    refine g_istore_n hC (i := 1) [(1, .int 0), (0, .ref (b0 + 74))] rfl dX12_town_20 (by decide) rfl ?_
    exact g_sub [1, 0] rfl (wX12_town_21 hL hN hM hC  hret  5000 0 x74_1 x75 x76 x77 x78 x79 x83 x84 x85 x86_2 x87_3 x88_4 x89_5 x90_6 hf)
  · replace hf := ifF hf hc
    refine g_bipush hC (v := (-2)) dX12_town_11 bp_m2 ?_
    refine g_aload_n hC 0 dX12_town_13 rfl rfl ?_
    refine gt_X12_180 hC (x := x74_1) (kk_74 hL) (kn_74 hL) (ov_get hN 0 rfl rfl) dX12_town_14 ?_
    refine g_isub hC dX12_town_17 ?_
    obtain ⟨rfl, rfl, rfl, rfl, rfl, rfl, rfl, rfl, rfl, rfl, rfl, rfl, rfl, rfl, rfl⟩ := sm15E hf
    exact hret _ _ rfl dX12_town_18

def fX12_town   (x91 : Nat → Int32)   (x74 : Nat → Int32) (x75 : Nat → Int32) (x76 : Nat → Int32) (x77 : Nat → Int32) (x78 : Nat → Int32) (x79 : Nat → Int32) (x83 : Nat → Int32) (x84 : Nat → Int32) (x85 : Nat → Int32) (x86 : Nat → Int32) (x87 : Nat → Int32) (x88 : Nat → Int32) (x89 : Nat → Int32) (x90 : Nat → Int32)  : Option (Int32 × (Nat → Int32) × (Nat → Int32) × (Nat → Int32) × (Nat → Int32) × (Nat → Int32) × (Nat → Int32) × (Nat → Int32) × (Nat → Int32) × (Nat → Int32) × (Nat → Int32) × (Nat → Int32) × (Nat → Int32) × (Nat → Int32) × (Nat → Int32)) := fX12_town_0 x91 x74 x75 x76 x77 x78 x79 x83 x84 x85 x86 x87 x88 x89 x90

set_option maxHeartbeats 4000000 in
set_option maxRecDepth 100000 in
theorem c_X12_town (l : Launch) {b0 : Nat} {D : GD} {n : Nat} {κ : QT} {X0 : XT} {Y0 : YT} {Z : ZT} (hL : LY n κ) {x74 : Nat → Int32} {x75 : Nat → Int32} {x76 : Nat → Int32} {x77 : Nat → Int32} {x78 : Nat → Int32} {x79 : Nat → Int32} {x83 : Nat → Int32} {x84 : Nat → Int32} {x85 : Nat → Int32} {x86 : Nat → Int32} {x87 : Nat → Int32} {x88 : Nat → Int32} {x89 : Nat → Int32} {x90 : Nat → Int32} {x91 : Nat → Int32} (hx : ([74, 75, 76, 77, 78, 79, 83, 84, 85, 86, 87, 88, 89, 90, 91] : List Nat).map X0 = [x74, x75, x76, x77, x78, x79, x83, x84, x85, x86, x87, x88, x89, x90, x91]) (hy : ([] : List Nat).map Y0 = []) {r : Int32} {rx74 : (Nat → Int32)} {rx75 : (Nat → Int32)} {rx76 : (Nat → Int32)} {rx77 : (Nat → Int32)} {rx78 : (Nat → Int32)} {rx79 : (Nat → Int32)} {rx83 : (Nat → Int32)} {rx84 : (Nat → Int32)} {rx85 : (Nat → Int32)} {rx86 : (Nat → Int32)} {rx87 : (Nat → Int32)} {rx88 : (Nat → Int32)} {rx89 : (Nat → Int32)} {rx90 : (Nat → Int32)} (hf : fX12_town x91 x74 x75 x76 x77 x78 x79 x83 x84 x85 x86 x87 x88 x89 x90 = some (r, rx74, rx75, rx76, rx77, rx78, rx79, rx83, rx84, rx85, rx86, rx87, rx88, rx89, rx90)) : gMi l yX12_town cX12_town 2 (some FieldType.int) 8 184 0 0 b0 D [.ref (b0 + 74)] (n, κ, X0, Y0, Z) (n, κ, ov X0 [74, 75, 76, 77, 78, 79, 83, 84, 85, 86, 87, 88, 89, 90, 91] [rx74, rx75, rx76, rx77, rx78, rx79, rx83, rx84, rx85, rx86, rx87, rx88, rx89, rx90, x91], ov Y0 [] [], Z) r := by
  have hN : ([74, 75, 76, 77, 78, 79, 83, 84, 85, 86, 87, 88, 89, 90, 91] : List Nat).Nodup := by decide
  have hM : ([] : List Nat).Nodup := by decide
  refine g_meti (own := RX12) (by decide) rfl rfl (Nat.le_of_ble_eq_true rfl) ?_
  intro K hC hret
  have e := wX12_town_0 hL hN hM hC  hret hf
  rw [ov_id' hx, ov_id' hy] at e
  exact g_sub [0] rfl e

-- X12_ruleClause
def fX12_ruleClause_104   (x91 : Nat → Int32)  (v3 : Int32) (x74 : (Nat → Int32)) (x92 : (Nat → Int32)) (x93 : (Nat → Int32)) (x95 : (Nat → Int32)) (x96 : (Nat → Int32)) (x97 : (Nat → Int32)) (x98 : (Nat → Int32)) : Option ((Nat → Int32) × (Nat → Int32) × (Nat → Int32) × (Nat → Int32) × (Nat → Int32) × (Nat → Int32) × (Nat → Int32)) := gd (inb v3 72) (some (x74, x92, x93, x95, x96, (upd x97 v3.toNatClampNeg (x74 22)), x98))
set_option maxHeartbeats 4000000 in
set_option maxRecDepth 100000 in
theorem wX12_ruleClause_104 {l : Launch} {b0 : Nat} {D : GD} {K : KT} {n : Nat} {κ : QT} {X0 : XT} {Y0 : YT} {Z : ZT} (hL : LY n κ) (hN : ([74, 91, 92, 93, 95, 96, 97, 98] : List Nat).Nodup) (hM : ([] : List Nat).Nodup) (hC : gC l b0 D K RX12 cX12_ruleClause none 4 11 239 0 0) {x91 : Nat → Int32} {rx74 : (Nat → Int32)} {rx92 : (Nat → Int32)} {rx93 : (Nat → Int32)} {rx95 : (Nat → Int32)} {rx96 : (Nat → Int32)} {rx97 : (Nat → Int32)} {rx98 : (Nat → Int32)} (hret : ∀ pc loc, decode cX12_ruleClause pc = .ok (.return_, 1) → gV l b0 D K (n, κ, ov X0 [74, 91, 92, 93, 95, 96, 97, 98] [rx74, x91, rx92, rx93, rx95, rx96, rx97, rx98], ov Y0 [] [], Z, 0, 0) pc loc []) {v3 : Int32} {x74 : (Nat → Int32)} {x92 : (Nat → Int32)} {x93 : (Nat → Int32)} {x95 : (Nat → Int32)} {x96 : (Nat → Int32)} {x97 : (Nat → Int32)} {x98 : (Nat → Int32)} (hf : fX12_ruleClause_104 x91  v3 x74 x92 x93 x95 x96 x97 x98 = some (rx74, rx92, rx93, rx95, rx96, rx97, rx98)) : gV l b0 D K (n, κ, ov X0 [74, 91, 92, 93, 95, 96, 97, 98] [x74, x91, x92, x93, x95, x96, x97, x98], ov Y0 [] [], Z, 0, 0) 104 [(0, .ref (b0 + 74)), (3, .int v3)] [] := by
  unfold fX12_ruleClause_104 at hf
  refine g_aload_n hC 0 dX12_ruleClause_104 rfl rfl ?_
  refine gt_X12_81 hC (a := 74) (kk_74 hL) (kn_74 hL) dX12_ruleClause_105 ?_
  refine g_ref (b := 97) rfl ?_
  refine g_iload_n hC 1 dX12_ruleClause_108 rfl rfl ?_
  refine g_aload_n hC 0 dX12_ruleClause_109 rfl rfl ?_
  refine gt_X12_213 hC (x := x74) (kk_74 hL) (kn_74 hL) (ov_get hN 0 rfl rfl) dX12_ruleClause_110 ?_
  obtain ⟨h_1, hf⟩ := gdE hf
  refine g_iast hC (x := x97) (kk_97 hL) (kn_97 hL) (ov_get hN 6 rfl rfl) (inb_in h_1) (ov_set hN (by rfl) 6 (by rfl)) dX12_ruleClause_113 ?_
  show gV l b0 D K (n, κ, ov X0 [74, 91, 92, 93, 95, 96, 97, 98] [x74, x91, x92, x93, x95, x96, (upd x97 v3.toNatClampNeg (x74 22)), x98], ov Y0 [] [], Z, 0, 0) 114 [(0, .ref (b0 + 74)), (3, .int v3)] []
  obtain ⟨rfl, rfl, rfl, rfl, rfl, rfl, rfl⟩ := sm7E hf
  exact hret _ _ dX12_ruleClause_114

def fX12_ruleClause_0   (x91 : Nat → Int32)  (v1 : Int32) (x74 : (Nat → Int32)) (x92 : (Nat → Int32)) (x93 : (Nat → Int32)) (x95 : (Nat → Int32)) (x96 : (Nat → Int32)) (x97 : (Nat → Int32)) (x98 : (Nat → Int32)) : Option ((Nat → Int32) × (Nat → Int32) × (Nat → Int32) × (Nat → Int32) × (Nat → Int32) × (Nat → Int32) × (Nat → Int32)) := bd1 (fX12_blanks x91 x74) fun x74_1 => (bn (x74_1 18) fun t_3 => (bd1 (fX12_isWordAt 15 x74_1 x91) fun r_4 => (if r_4 = 0 then (bd1 (fX12_fails 0 t_3 x74_1) fun x74_23 => (some (x74_23, x92, x93, x95, x96, x97, x98))) else (if v1 = 12 then (bd1 (fX12_fails 4 t_3 x74_1) fun x74_21 => (some (x74_21, x92, x93, x95, x96, x97, x98))) else (bn ((12 * ((upd x74_1 18 ((x74_1 18) + 4)) 20)) + v1) fun t_6 => (gd (inb t_6 72) (bd3 (fX12_sum x91 (upd x74_1 18 ((x74_1 18) + 4)) x92 x93) fun x74_8 x92_9 x93_10 => (gd (inb t_6 72) (if (x74_8 19) = 0 then (bd2 (fX12_takes 16 x91 x74_8) fun r_13 x74_14 => (if r_13 = 0 then (fX12_ruleClause_104 x91  t_6 x74_14 x92_9 x93_10 (upd x95 t_6.toNatClampNeg ((upd x74_1 18 ((x74_1 18) + 4)) 22)) (upd x96 t_6.toNatClampNeg (x74_8 22)) x97 x98) else (bd4 (fX12_test x91 x74_14 x92_9 x93_10 x98) fun x74_16 x92_17 x93_18 x98_19 => (fX12_ruleClause_104 x91  t_6 x74_16 x92_17 x93_18 (upd x95 t_6.toNatClampNeg ((upd x74_1 18 ((x74_1 18) + 4)) 22)) (upd x96 t_6.toNatClampNeg (x74_8 22)) x97 x98_19)))) else (fX12_ruleClause_104 x91  t_6 x74_8 x92_9 x93_10 (upd x95 t_6.toNatClampNeg ((upd x74_1 18 ((x74_1 18) + 4)) 22)) (upd x96 t_6.toNatClampNeg (x74_8 22)) x97 x98))))))))))
set_option maxHeartbeats 4000000 in
set_option maxRecDepth 100000 in
theorem wX12_ruleClause_0 {l : Launch} {b0 : Nat} {D : GD} {K : KT} {n : Nat} {κ : QT} {X0 : XT} {Y0 : YT} {Z : ZT} (hL : LY n κ) (hN : ([74, 91, 92, 93, 95, 96, 97, 98] : List Nat).Nodup) (hM : ([] : List Nat).Nodup) (hC : gC l b0 D K RX12 cX12_ruleClause none 4 11 239 0 0) {x91 : Nat → Int32} {rx74 : (Nat → Int32)} {rx92 : (Nat → Int32)} {rx93 : (Nat → Int32)} {rx95 : (Nat → Int32)} {rx96 : (Nat → Int32)} {rx97 : (Nat → Int32)} {rx98 : (Nat → Int32)} (hret : ∀ pc loc, decode cX12_ruleClause pc = .ok (.return_, 1) → gV l b0 D K (n, κ, ov X0 [74, 91, 92, 93, 95, 96, 97, 98] [rx74, x91, rx92, rx93, rx95, rx96, rx97, rx98], ov Y0 [] [], Z, 0, 0) pc loc []) {v1 : Int32} {x74 : (Nat → Int32)} {x92 : (Nat → Int32)} {x93 : (Nat → Int32)} {x95 : (Nat → Int32)} {x96 : (Nat → Int32)} {x97 : (Nat → Int32)} {x98 : (Nat → Int32)} (hf : fX12_ruleClause_0 x91  v1 x74 x92 x93 x95 x96 x97 x98 = some (rx74, rx92, rx93, rx95, rx96, rx97, rx98)) : gV l b0 D K (n, κ, ov X0 [74, 91, 92, 93, 95, 96, 97, 98] [x74, x91, x92, x93, x95, x96, x97, x98], ov Y0 [] [], Z, 0, 0) 0 [(0, .ref (b0 + 74)), (1, .int v1)] [] := by
  unfold fX12_ruleClause_0 at hf
  refine g_aload_n hC 0 dX12_ruleClause_0 rfl rfl ?_
  obtain ⟨x74_1, q_2, hf⟩ := bd1E hf
  refine g_callV_v (a := 74) hC (X' := ov X0 [74, 91, 92, 93, 95, 96, 97, 98] [x74_1, x91, x92, x93, x95, x96, x97, x98]) (Y' := ov Y0 [] []) (As := []) (gMv_eq (c_X12_blanks l hL (ov_map hN [0, 1] (by rfl) (by rfl)) (ov_map hM [] (by rfl) (by rfl)) q_2) (ov_ovE hN (by rfl) [0, 1] [2, 3, 4, 5, 6, 7] (by rfl) (by rfl) [x92, x93, x95, x96, x97, x98] (by rfl) (by rfl) (by rfl) 8 (by rfl) (by decide)) (ov_ovE hM (by rfl) [] [] (by rfl) (by rfl) [] (by rfl) (by rfl) (by rfl) 0 (by rfl) (by decide))) tw_1380 tw_1377 tw_127 tw_1379 tw_49 (ci := 12) rfl (by decide) (kk_74 hL) (kn_74 hL) pd_X12_blanks (by decide) (by decide) rfl rfl (Nat.le_of_ble_eq_true rfl) rfl dX12_ruleClause_1 ?_
  refine g_aload_n hC 0 dX12_ruleClause_4 rfl rfl ?_
  refine gt_X12_183 hC (x := x74_1) (kk_74 hL) (kn_74 hL) (ov_get hN 0 rfl rfl) dX12_ruleClause_5 ?_
  obtain ⟨t_3, et_3, hf⟩ := bnE hf
  refine g_topi et_3 ?_
  refine g_istore_n hC (i := 2) [(2, .int t_3), (0, .ref (b0 + 74)), (1, .int v1)] rfl dX12_ruleClause_8 (by decide) rfl ?_
  refine g_aload_n hC 1 dX12_ruleClause_9 rfl rfl ?_
  refine g_ldcWS hC (i := 15) (List.mem_of_getElem? (i := 25) rfl) dX12_ruleClause_10 ?_
  obtain ⟨r_4, q_5, hf⟩ := bd1E hf
  refine g_callV_i (a := 74) hC (X' := ov X0 [74, 91, 92, 93, 95, 96, 97, 98] [x74_1, x91, x92, x93, x95, x96, x97, x98]) (Y' := ov Y0 [] []) (As := [.ref (D.2 (100 + 15))]) (gMi_eq (c_X12_isWordAt l hL (by decide) (ov_map hN [0, 1] (by rfl) (by rfl)) (ov_map hM [] (by rfl) (by rfl)) q_5) (ov_ovE hN (by rfl) [0, 1] [2, 3, 4, 5, 6, 7] (by rfl) (by rfl) [x92, x93, x95, x96, x97, x98] (by rfl) (by rfl) (by rfl) 8 (by rfl) (by decide)) (ov_ovE hM (by rfl) [] [] (by rfl) (by rfl) [] (by rfl) (by rfl) (by rfl) 0 (by rfl) (by decide))) tw_1396 tw_1393 tw_127 tw_1395 tw_51 (ci := 12) rfl (by decide) (kk_74 hL) (kn_74 hL) pd_X12_isWordAt (by decide) (by decide) rfl rfl (Nat.le_of_ble_eq_true rfl) rfl dX12_ruleClause_13 ?_
  refine g_if_ne hC 26 dX12_ruleClause_16 (by decide) (fun hc => ?_) (fun hc => ?_)
  · replace hf := ifF hf hc
    refine g_iload_n hC 2 dX12_ruleClause_26 rfl rfl ?_
    refine g_bipush hC (v := 12) dX12_ruleClause_27 bp_12 ?_
    refine g_icmp_ne hC 39 dX12_ruleClause_29 (by decide) (fun hc => ?_) (fun hc => ?_)
    · replace hf := ifF hf hc
      refine g_aload_n hC 1 dX12_ruleClause_39 rfl rfl ?_
      refine g_dup hC dX12_ruleClause_40 rfl ?_
      refine gt_X12_183 hC (x := x74_1) (kk_74 hL) (kn_74 hL) (ov_get hN 0 rfl rfl) dX12_ruleClause_41 ?_
      refine g_iconst hC (v := 4) dX12_ruleClause_44 ic_4 ?_
      refine g_iadd hC dX12_ruleClause_45 ?_
      refine pt_X12_183 hC (x := x74_1) (kk_74 hL) (kn_74 hL) (ov_get hN 0 rfl rfl) (ov_set hN (by rfl) 0 (by rfl)) dX12_ruleClause_46 ?_
      show gV l b0 D K (n, κ, ov X0 [74, 91, 92, 93, 95, 96, 97, 98] [(upd x74_1 18 ((x74_1 18) + 4)), x91, x92, x93, x95, x96, x97, x98], ov Y0 [] [], Z, 0, 0) 49 [(2, .int t_3), (0, .ref (b0 + 74)), (1, .int v1)] []
      refine g_bipush hC (v := 12) dX12_ruleClause_49 bp_12 ?_
      refine g_aload_n hC 1 dX12_ruleClause_51 rfl rfl ?_
      refine gt_X12_210 hC (x := (upd x74_1 18 ((x74_1 18) + 4))) (kk_74 hL) (kn_74 hL) (ov_get hN 0 rfl rfl) dX12_ruleClause_52 ?_
      refine g_imul hC dX12_ruleClause_55 ?_
      refine g_iload_n hC 2 dX12_ruleClause_56 rfl rfl ?_
      refine g_iadd hC dX12_ruleClause_57 ?_
      obtain ⟨t_6, et_6, hf⟩ := bnE hf
      refine g_topi et_6 ?_
      refine g_istore_n hC (i := 3) [(3, .int t_6), (2, .int t_3), (0, .ref (b0 + 74)), (1, .int v1)] rfl dX12_ruleClause_58 (by decide) rfl ?_
      refine g_aload_n hC 2 dX12_ruleClause_59 rfl rfl ?_
      refine gt_X12_75 hC (a := 74) (kk_74 hL) (kn_74 hL) dX12_ruleClause_60 ?_
      refine g_ref (b := 95) rfl ?_
      refine g_iload_n hC 0 dX12_ruleClause_63 rfl rfl ?_
      refine g_aload_n hC 2 dX12_ruleClause_64 rfl rfl ?_
      refine gt_X12_213 hC (x := (upd x74_1 18 ((x74_1 18) + 4))) (kk_74 hL) (kn_74 hL) (ov_get hN 0 rfl rfl) dX12_ruleClause_65 ?_
      obtain ⟨h_7, hf⟩ := gdE hf
      refine g_iast hC (x := x95) (kk_95 hL) (kn_95 hL) (ov_get hN 4 rfl rfl) (inb_in h_7) (ov_set hN (by rfl) 4 (by rfl)) dX12_ruleClause_68 ?_
      show gV l b0 D K (n, κ, ov X0 [74, 91, 92, 93, 95, 96, 97, 98] [(upd x74_1 18 ((x74_1 18) + 4)), x91, x92, x93, (upd x95 t_6.toNatClampNeg ((upd x74_1 18 ((x74_1 18) + 4)) 22)), x96, x97, x98], ov Y0 [] [], Z, 0, 0) 69 [(3, .int t_6), (2, .int t_3), (0, .ref (b0 + 74)), (1, .int v1)] []
      refine g_aload_n hC 2 dX12_ruleClause_69 rfl rfl ?_
      obtain ⟨x74_8, x92_9, x93_10, q_11, hf⟩ := bd3E hf
      refine g_callV_v (a := 74) hC (X' := ov X0 [74, 91, 92, 93, 95, 96, 97, 98] [x74_8, x91, x92_9, x93_10, (upd x95 t_6.toNatClampNeg ((upd x74_1 18 ((x74_1 18) + 4)) 22)), x96, x97, x98]) (Y' := ov Y0 [] []) (As := []) (gMv_eq (c_X12_sum l hL (ov_map hN [0, 1, 2, 3] (by rfl) (by rfl)) (ov_map hM [] (by rfl) (by rfl)) q_11) (ov_ovE hN (by rfl) [0, 1, 2, 3] [4, 5, 6, 7] (by rfl) (by rfl) [(upd x95 t_6.toNatClampNeg ((upd x74_1 18 ((x74_1 18) + 4)) 22)), x96, x97, x98] (by rfl) (by rfl) (by rfl) 8 (by rfl) (by decide)) (ov_ovE hM (by rfl) [] [] (by rfl) (by rfl) [] (by rfl) (by rfl) (by rfl) 0 (by rfl) (by decide))) tw_1456 tw_1453 tw_127 tw_1455 tw_62 (ci := 12) rfl (by decide) (kk_74 hL) (kn_74 hL) pd_X12_sum (by decide) (by decide) rfl rfl (Nat.le_of_ble_eq_true rfl) rfl dX12_ruleClause_70 ?_
      refine g_aload_n hC 2 dX12_ruleClause_73 rfl rfl ?_
      refine gt_X12_78 hC (a := 74) (kk_74 hL) (kn_74 hL) dX12_ruleClause_74 ?_
      refine g_ref (b := 96) rfl ?_
      refine g_iload_n hC 0 dX12_ruleClause_77 rfl rfl ?_
      refine g_aload_n hC 2 dX12_ruleClause_78 rfl rfl ?_
      refine gt_X12_213 hC (x := x74_8) (kk_74 hL) (kn_74 hL) (ov_get hN 0 rfl rfl) dX12_ruleClause_79 ?_
      obtain ⟨h_12, hf⟩ := gdE hf
      refine g_iast hC (x := x96) (kk_96 hL) (kn_96 hL) (ov_get hN 5 rfl rfl) (inb_in h_12) (ov_set hN (by rfl) 5 (by rfl)) dX12_ruleClause_82 ?_
      show gV l b0 D K (n, κ, ov X0 [74, 91, 92, 93, 95, 96, 97, 98] [x74_8, x91, x92_9, x93_10, (upd x95 t_6.toNatClampNeg ((upd x74_1 18 ((x74_1 18) + 4)) 22)), (upd x96 t_6.toNatClampNeg (x74_8 22)), x97, x98], ov Y0 [] [], Z, 0, 0) 83 [(3, .int t_6), (2, .int t_3), (0, .ref (b0 + 74)), (1, .int v1)] []
      refine g_aload_n hC 2 dX12_ruleClause_83 rfl rfl ?_
      refine gt_X12_180 hC (x := x74_8) (kk_74 hL) (kn_74 hL) (ov_get hN 0 rfl rfl) dX12_ruleClause_84 ?_
      refine g_if_ne hC 104 dX12_ruleClause_87 (by decide) (fun hc => ?_) (fun hc => ?_)
      · replace hf := ifF hf hc
        exact g_sub [2, 0] rfl (wX12_ruleClause_104 hL hN hM hC  hret  hf)
      · replace hf := ifT hf hc
        refine g_aload_n hC 2 dX12_ruleClause_90 rfl rfl ?_
        refine g_ldcWS hC (i := 16) (List.mem_of_getElem? (i := 36) rfl) dX12_ruleClause_91 ?_
        obtain ⟨r_13, x74_14, q_15, hf⟩ := bd2E hf
        refine g_callV_i (a := 74) hC (X' := ov X0 [74, 91, 92, 93, 95, 96, 97, 98] [x74_14, x91, x92_9, x93_10, (upd x95 t_6.toNatClampNeg ((upd x74_1 18 ((x74_1 18) + 4)) 22)), (upd x96 t_6.toNatClampNeg (x74_8 22)), x97, x98]) (Y' := ov Y0 [] []) (As := [.ref (D.2 (100 + 16))]) (gMi_eq (c_X12_takes l hL (by decide) (ov_map hN [0, 1] (by rfl) (by rfl)) (ov_map hM [] (by rfl) (by rfl)) q_15) (ov_ovE hN (by rfl) [0, 1] [2, 3, 4, 5, 6, 7] (by rfl) (by rfl) [x92_9, x93_10, (upd x95 t_6.toNatClampNeg ((upd x74_1 18 ((x74_1 18) + 4)) 22)), (upd x96 t_6.toNatClampNeg (x74_8 22)), x97, x98] (by rfl) (by rfl) (by rfl) 8 (by rfl) (by decide)) (ov_ovE hM (by rfl) [] [] (by rfl) (by rfl) [] (by rfl) (by rfl) (by rfl) 0 (by rfl) (by decide))) tw_1490 tw_1487 tw_127 tw_1489 tw_67 (ci := 12) rfl (by decide) (kk_74 hL) (kn_74 hL) pd_X12_takes (by decide) (by decide) rfl rfl (Nat.le_of_ble_eq_true rfl) rfl dX12_ruleClause_94 ?_
        refine g_if_eq hC 104 dX12_ruleClause_97 (by decide) (fun hc => ?_) (fun hc => ?_)
        · replace hf := ifT hf hc
          exact g_sub [2, 0] rfl (wX12_ruleClause_104 hL hN hM hC  hret  hf)
        · replace hf := ifF hf hc
          refine g_aload_n hC 2 dX12_ruleClause_100 rfl rfl ?_
          obtain ⟨x74_16, x92_17, x93_18, x98_19, q_20, hf⟩ := bd4E hf
          refine g_callV_v (a := 74) hC (X' := ov X0 [74, 91, 92, 93, 95, 96, 97, 98] [x74_16, x91, x92_17, x93_18, (upd x95 t_6.toNatClampNeg ((upd x74_1 18 ((x74_1 18) + 4)) 22)), (upd x96 t_6.toNatClampNeg (x74_8 22)), x97, x98_19]) (Y' := ov Y0 [] []) (As := []) (gMv_eq (c_X12_test l hL (ov_map hN [0, 1, 2, 3, 7] (by rfl) (by rfl)) (ov_map hM [] (by rfl) (by rfl)) q_20) (ov_ovE hN (by rfl) [0, 1, 2, 3, 7] [4, 5, 6] (by rfl) (by rfl) [(upd x95 t_6.toNatClampNeg ((upd x74_1 18 ((x74_1 18) + 4)) 22)), (upd x96 t_6.toNatClampNeg (x74_8 22)), x97] (by rfl) (by rfl) (by rfl) 8 (by rfl) (by decide)) (ov_ovE hM (by rfl) [] [] (by rfl) (by rfl) [] (by rfl) (by rfl) (by rfl) 0 (by rfl) (by decide))) tw_1494 tw_1491 tw_127 tw_1493 tw_68 (ci := 12) rfl (by decide) (kk_74 hL) (kn_74 hL) pd_X12_test (by decide) (by decide) rfl rfl (Nat.le_of_ble_eq_true rfl) rfl dX12_ruleClause_101 ?_
          exact g_sub [2, 0] rfl (wX12_ruleClause_104 hL hN hM hC  hret  hf)
    · replace hf := ifT hf hc
      refine g_aload_n hC 1 dX12_ruleClause_32 rfl rfl ?_
      refine g_iconst hC (v := 4) dX12_ruleClause_33 ic_4 ?_
      refine g_iload_n hC 0 dX12_ruleClause_34 rfl rfl ?_
      obtain ⟨x74_21, q_22, hf⟩ := bd1E hf
      refine g_callV_v (a := 74) hC (X' := ov X0 [74, 91, 92, 93, 95, 96, 97, 98] [x74_21, x91, x92, x93, x95, x96, x97, x98]) (Y' := ov Y0 [] []) (As := [.int 4, .int t_3]) (gMv_eq (c_X12_fails l hL (ov_map hN [0] (by rfl) (by rfl)) (ov_map hM [] (by rfl) (by rfl)) q_22) (ov_ovE hN (by rfl) [0] [1, 2, 3, 4, 5, 6, 7] (by rfl) (by rfl) [x91, x92, x93, x95, x96, x97, x98] (by rfl) (by rfl) (by rfl) 8 (by rfl) (by decide)) (ov_ovE hM (by rfl) [] [] (by rfl) (by rfl) [] (by rfl) (by rfl) (by rfl) 0 (by rfl) (by decide))) tw_1402 tw_1399 tw_127 tw_1401 tw_52 (ci := 12) rfl (by decide) (kk_74 hL) (kn_74 hL) pd_X12_fails (by decide) (by decide) rfl rfl (Nat.le_of_ble_eq_true rfl) rfl dX12_ruleClause_35 ?_
      obtain ⟨rfl, rfl, rfl, rfl, rfl, rfl, rfl⟩ := sm7E hf
      exact hret _ _ dX12_ruleClause_38
  · replace hf := ifT hf hc
    refine g_aload_n hC 1 dX12_ruleClause_19 rfl rfl ?_
    refine g_iconst hC (v := 0) dX12_ruleClause_20 ic_0 ?_
    refine g_iload_n hC 0 dX12_ruleClause_21 rfl rfl ?_
    obtain ⟨x74_23, q_24, hf⟩ := bd1E hf
    refine g_callV_v (a := 74) hC (X' := ov X0 [74, 91, 92, 93, 95, 96, 97, 98] [x74_23, x91, x92, x93, x95, x96, x97, x98]) (Y' := ov Y0 [] []) (As := [.int 0, .int t_3]) (gMv_eq (c_X12_fails l hL (ov_map hN [0] (by rfl) (by rfl)) (ov_map hM [] (by rfl) (by rfl)) q_24) (ov_ovE hN (by rfl) [0] [1, 2, 3, 4, 5, 6, 7] (by rfl) (by rfl) [x91, x92, x93, x95, x96, x97, x98] (by rfl) (by rfl) (by rfl) 8 (by rfl) (by decide)) (ov_ovE hM (by rfl) [] [] (by rfl) (by rfl) [] (by rfl) (by rfl) (by rfl) 0 (by rfl) (by decide))) tw_1402 tw_1399 tw_127 tw_1401 tw_52 (ci := 12) rfl (by decide) (kk_74 hL) (kn_74 hL) pd_X12_fails (by decide) (by decide) rfl rfl (Nat.le_of_ble_eq_true rfl) rfl dX12_ruleClause_22 ?_
    obtain ⟨rfl, rfl, rfl, rfl, rfl, rfl, rfl⟩ := sm7E hf
    exact hret _ _ dX12_ruleClause_25

def fX12_ruleClause   (x91 : Nat → Int32)  (v1 : Int32) (x74 : Nat → Int32) (x92 : Nat → Int32) (x93 : Nat → Int32) (x95 : Nat → Int32) (x96 : Nat → Int32) (x97 : Nat → Int32) (x98 : Nat → Int32)  : Option ((Nat → Int32) × (Nat → Int32) × (Nat → Int32) × (Nat → Int32) × (Nat → Int32) × (Nat → Int32) × (Nat → Int32)) := fX12_ruleClause_0 x91 v1 x74 x92 x93 x95 x96 x97 x98

set_option maxHeartbeats 4000000 in
set_option maxRecDepth 100000 in
theorem c_X12_ruleClause (l : Launch) {b0 : Nat} {D : GD} {n : Nat} {κ : QT} {X0 : XT} {Y0 : YT} {Z : ZT} (hL : LY n κ) {x74 : Nat → Int32} {x91 : Nat → Int32} {x92 : Nat → Int32} {x93 : Nat → Int32} {x95 : Nat → Int32} {x96 : Nat → Int32} {x97 : Nat → Int32} {x98 : Nat → Int32} (hx : ([74, 91, 92, 93, 95, 96, 97, 98] : List Nat).map X0 = [x74, x91, x92, x93, x95, x96, x97, x98]) (hy : ([] : List Nat).map Y0 = []) {v1 : Int32} {rx74 : (Nat → Int32)} {rx92 : (Nat → Int32)} {rx93 : (Nat → Int32)} {rx95 : (Nat → Int32)} {rx96 : (Nat → Int32)} {rx97 : (Nat → Int32)} {rx98 : (Nat → Int32)} (hf : fX12_ruleClause x91 v1 x74 x92 x93 x95 x96 x97 x98 = some (rx74, rx92, rx93, rx95, rx96, rx97, rx98)) : gMv l yX12_ruleClause cX12_ruleClause 4 none 11 239 0 0 b0 D [.ref (b0 + 74), .int v1] (n, κ, X0, Y0, Z) (n, κ, ov X0 [74, 91, 92, 93, 95, 96, 97, 98] [rx74, x91, rx92, rx93, rx95, rx96, rx97, rx98], ov Y0 [] [], Z) := by
  have hN : ([74, 91, 92, 93, 95, 96, 97, 98] : List Nat).Nodup := by decide
  have hM : ([] : List Nat).Nodup := by decide
  refine g_metv (own := RX12) (by decide) rfl rfl (Nat.le_of_ble_eq_true rfl) ?_
  intro K hC hret
  have e := wX12_ruleClause_0 hL hN hM hC  hret hf
  rw [ov_id' hx, ov_id' hy] at e
  exact g_sub [0, 1] rfl e

-- X12_rule
def fX12_rule_79   (x91 : Nat → Int32)  (s0 : Int32) (s1 : Int32) (x74 : (Nat → Int32)) (x92 : (Nat → Int32)) (x93 : (Nat → Int32)) (x94 : (Nat → Int32)) (x95 : (Nat → Int32)) (x96 : (Nat → Int32)) (x97 : (Nat → Int32)) (x98 : (Nat → Int32)) : Option (Int32 × (Nat → Int32) × (Nat → Int32) × (Nat → Int32) × (Nat → Int32) × (Nat → Int32) × (Nat → Int32) × (Nat → Int32) × (Nat → Int32)) := if ((upd x74 21 (s1 + s0)) 19) ≤ 0 then (some (((upd x74 21 (s1 + s0)) 21) - 1, (upd x74 21 (s1 + s0)), x92, x93, x94, x95, x96, x97, x98)) else (some ((-2) - ((upd x74 21 (s1 + s0)) 19), (upd x74 21 (s1 + s0)), x92, x93, x94, x95, x96, x97, x98))
set_option maxHeartbeats 4000000 in
set_option maxRecDepth 100000 in
theorem wX12_rule_79 {l : Launch} {b0 : Nat} {D : GD} {K : KT} {n : Nat} {κ : QT} {X0 : XT} {Y0 : YT} {Z : ZT} (hL : LY n κ) (hN : ([74, 91, 92, 93, 94, 95, 96, 97, 98] : List Nat).Nodup) (hM : ([] : List Nat).Nodup) (hC : gC l b0 D K RX12 cX12_rule (some FieldType.int) 3 12 262 0 0) {x91 : Nat → Int32} {r : Int32} {rx74 : (Nat → Int32)} {rx92 : (Nat → Int32)} {rx93 : (Nat → Int32)} {rx94 : (Nat → Int32)} {rx95 : (Nat → Int32)} {rx96 : (Nat → Int32)} {rx97 : (Nat → Int32)} {rx98 : (Nat → Int32)} (hret : ∀ pc loc, narrow .int (.int r) = .int r → decode cX12_rule pc = .ok (.ireturn, 1) → gV l b0 D K (n, κ, ov X0 [74, 91, 92, 93, 94, 95, 96, 97, 98] [rx74, x91, rx92, rx93, rx94, rx95, rx96, rx97, rx98], ov Y0 [] [], Z, 0, 0) pc loc [.int r]) {s0 : Int32} {s1 : Int32} {x74 : (Nat → Int32)} {x92 : (Nat → Int32)} {x93 : (Nat → Int32)} {x94 : (Nat → Int32)} {x95 : (Nat → Int32)} {x96 : (Nat → Int32)} {x97 : (Nat → Int32)} {x98 : (Nat → Int32)} (hf : fX12_rule_79 x91  s0 s1 x74 x92 x93 x94 x95 x96 x97 x98 = some (r, rx74, rx92, rx93, rx94, rx95, rx96, rx97, rx98)) : gV l b0 D K (n, κ, ov X0 [74, 91, 92, 93, 94, 95, 96, 97, 98] [x74, x91, x92, x93, x94, x95, x96, x97, x98], ov Y0 [] [], Z, 0, 0) 79 [(0, .ref (b0 + 74))] [.int s0, .int s1, .ref (b0 + 74)] := by
  unfold fX12_rule_79 at hf
  refine g_iadd hC dX12_rule_79 ?_
  refine pt_X12_333 hC (x := x74) (kk_74 hL) (kn_74 hL) (ov_get hN 0 rfl rfl) (ov_set hN (by rfl) 0 (by rfl)) dX12_rule_80 ?_
  show gV l b0 D K (n, κ, ov X0 [74, 91, 92, 93, 94, 95, 96, 97, 98] [(upd x74 21 (s1 + s0)), x91, x92, x93, x94, x95, x96, x97, x98], ov Y0 [] [], Z, 0, 0) 83 [(0, .ref (b0 + 74))] []
  refine g_aload_n hC 0 dX12_rule_83 rfl rfl ?_
  refine gt_X12_180 hC (x := (upd x74 21 (s1 + s0))) (kk_74 hL) (kn_74 hL) (ov_get hN 0 rfl rfl) dX12_rule_84 ?_
  refine g_if_le hC 100 dX12_rule_87 (by decide) (fun hc => ?_) (fun hc => ?_)
  · replace hf := ifT hf hc
    refine g_aload_n hC 0 dX12_rule_100 rfl rfl ?_
    refine gt_X12_333 hC (x := (upd x74 21 (s1 + s0))) (kk_74 hL) (kn_74 hL) (ov_get hN 0 rfl rfl) dX12_rule_101 ?_
    refine g_iconst hC (v := 1) dX12_rule_104 ic_1 ?_
    refine g_isub hC dX12_rule_105 ?_
    obtain ⟨rfl, rfl, rfl, rfl, rfl, rfl, rfl, rfl, rfl⟩ := sm9E hf
    exact hret _ _ rfl dX12_rule_106
  · replace hf := ifF hf hc
    refine g_bipush hC (v := (-2)) dX12_rule_90 bp_m2 ?_
    refine g_aload_n hC 0 dX12_rule_92 rfl rfl ?_
    refine gt_X12_180 hC (x := (upd x74 21 (s1 + s0))) (kk_74 hL) (kn_74 hL) (ov_get hN 0 rfl rfl) dX12_rule_93 ?_
    refine g_isub hC dX12_rule_96 ?_
    refine g_goto hC 106 dX12_rule_97 (by decide) ?_
    obtain ⟨rfl, rfl, rfl, rfl, rfl, rfl, rfl, rfl, rfl⟩ := sm9E hf
    exact hret _ _ rfl dX12_rule_106

def fX12_rule_27b   (x91 : Nat → Int32)  (k27 : Int32 → Int32 → (Nat → Int32) → (Nat → Int32) → (Nat → Int32) → (Nat → Int32) → (Nat → Int32) → (Nat → Int32) → (Nat → Int32) → (Nat → Int32) → Option (Int32 × (Nat → Int32) × (Nat → Int32) × (Nat → Int32) × (Nat → Int32) × (Nat → Int32) × (Nat → Int32) × (Nat → Int32) × (Nat → Int32))) (v1 : Int32) (v2 : Int32) (x74 : (Nat → Int32)) (x92 : (Nat → Int32)) (x93 : (Nat → Int32)) (x94 : (Nat → Int32)) (x95 : (Nat → Int32)) (x96 : (Nat → Int32)) (x97 : (Nat → Int32)) (x98 : (Nat → Int32)) : Option (Int32 × (Nat → Int32) × (Nat → Int32) × (Nat → Int32) × (Nat → Int32) × (Nat → Int32) × (Nat → Int32) × (Nat → Int32) × (Nat → Int32)) := if v2 = 0 then (gd (inb ((upd x74 17 0) 20) 6) (if ((upd x74 17 0) 19) = 0 then (fX12_rule_79 x91  1 ((upd x74 17 0) 21) (upd x74 17 0) x92 x93 (upd x94 ((upd x74 17 0) 20).toNatClampNeg v1) x95 x96 x97 x98) else (fX12_rule_79 x91  0 ((upd x74 17 0) 21) (upd x74 17 0) x92 x93 (upd x94 ((upd x74 17 0) 20).toNatClampNeg v1) x95 x96 x97 x98))) else (bd7 (fX12_ruleClause x91 v1 x74 x92 x93 x95 x96 x97 x98) fun x74_2 x92_3 x93_4 x95_5 x96_6 x97_7 x98_8 => (bn (v1 + 1) fun t_10 => (bd2 (fX12_goesOn x91 x74_2) fun r_11 x74_12 => (k27 t_10 r_11 x74_12 x92_3 x93_4 x94 x95_5 x96_6 x97_7 x98_8))))
def fX12_rule_27   (x91 : Nat → Int32)  : Int32 → Int32 → (Nat → Int32) → (Nat → Int32) → (Nat → Int32) → (Nat → Int32) → (Nat → Int32) → (Nat → Int32) → (Nat → Int32) → (Nat → Int32) → Option (Int32 × (Nat → Int32) × (Nat → Int32) × (Nat → Int32) × (Nat → Int32) × (Nat → Int32) × (Nat → Int32) × (Nat → Int32) × (Nat → Int32)) := lq10 (fX12_rule_27b x91 ) 5000
set_option maxHeartbeats 4000000 in
set_option maxRecDepth 100000 in
theorem wX12_rule_27 {l : Launch} {b0 : Nat} {D : GD} {K : KT} {n : Nat} {κ : QT} {X0 : XT} {Y0 : YT} {Z : ZT} (hL : LY n κ) (hN : ([74, 91, 92, 93, 94, 95, 96, 97, 98] : List Nat).Nodup) (hM : ([] : List Nat).Nodup) (hC : gC l b0 D K RX12 cX12_rule (some FieldType.int) 3 12 262 0 0) {x91 : Nat → Int32} {r : Int32} {rx74 : (Nat → Int32)} {rx92 : (Nat → Int32)} {rx93 : (Nat → Int32)} {rx94 : (Nat → Int32)} {rx95 : (Nat → Int32)} {rx96 : (Nat → Int32)} {rx97 : (Nat → Int32)} {rx98 : (Nat → Int32)} (hret : ∀ pc loc, narrow .int (.int r) = .int r → decode cX12_rule pc = .ok (.ireturn, 1) → gV l b0 D K (n, κ, ov X0 [74, 91, 92, 93, 94, 95, 96, 97, 98] [rx74, x91, rx92, rx93, rx94, rx95, rx96, rx97, rx98], ov Y0 [] [], Z, 0, 0) pc loc [.int r]) : ∀ (j : Nat) (v1 : Int32) (v2 : Int32) (x74 : (Nat → Int32)) (x92 : (Nat → Int32)) (x93 : (Nat → Int32)) (x94 : (Nat → Int32)) (x95 : (Nat → Int32)) (x96 : (Nat → Int32)) (x97 : (Nat → Int32)) (x98 : (Nat → Int32)), lq10 (fX12_rule_27b x91 ) j v1 v2 x74 x92 x93 x94 x95 x96 x97 x98 = some (r, rx74, rx92, rx93, rx94, rx95, rx96, rx97, rx98) → gV l b0 D K (n, κ, ov X0 [74, 91, 92, 93, 94, 95, 96, 97, 98] [x74, x91, x92, x93, x94, x95, x96, x97, x98], ov Y0 [] [], Z, 0, 0) 27 [(0, .ref (b0 + 74)), (1, .int v1), (2, .int v2)] [] := by
  intro j
  induction j with
  | zero => intro v1 v2 x74 x92 x93 x94 x95 x96 x97 x98 hf; cases hf
  | succ j hk27 =>
    intro v1 v2 x74 x92 x93 x94 x95 x96 x97 x98 hf
    replace hf : fX12_rule_27b x91  (lq10 (fX12_rule_27b x91 ) j) v1 v2 x74 x92 x93 x94 x95 x96 x97 x98 = some (r, rx74, rx92, rx93, rx94, rx95, rx96, rx97, rx98) := hf
    unfold fX12_rule_27b at hf
    refine g_iload_n hC 2 dX12_rule_27 rfl rfl ?_
    refine g_if_eq hC 47 dX12_rule_28 (by decide) (fun hc => ?_) (fun hc => ?_)
    · replace hf := ifT hf hc
      refine g_aload_n hC 0 dX12_rule_47 rfl rfl ?_
      refine g_iconst hC (v := 0) dX12_rule_48 ic_0 ?_
      refine pt_X12_151 hC (x := x74) (kk_74 hL) (kn_74 hL) (ov_get hN 0 rfl rfl) (ov_set hN (by rfl) 0 (by rfl)) dX12_rule_49 ?_
      show gV l b0 D K (n, κ, ov X0 [74, 91, 92, 93, 94, 95, 96, 97, 98] [(upd x74 17 0), x91, x92, x93, x94, x95, x96, x97, x98], ov Y0 [] [], Z, 0, 0) 52 [(0, .ref (b0 + 74)), (1, .int v1), (2, .int v2)] []
      refine g_aload_n hC 0 dX12_rule_52 rfl rfl ?_
      refine gt_X12_72 hC (a := 74) (kk_74 hL) (kn_74 hL) dX12_rule_53 ?_
      refine g_ref (b := 94) rfl ?_
      refine g_aload_n hC 0 dX12_rule_56 rfl rfl ?_
      refine gt_X12_210 hC (x := (upd x74 17 0)) (kk_74 hL) (kn_74 hL) (ov_get hN 0 rfl rfl) dX12_rule_57 ?_
      refine g_iload_n hC 1 dX12_rule_60 rfl rfl ?_
      obtain ⟨h_1, hf⟩ := gdE hf
      refine g_iast hC (x := x94) (kk_94 hL) (kn_94 hL) (ov_get hN 4 rfl rfl) (inb_in h_1) (ov_set hN (by rfl) 4 (by rfl)) dX12_rule_61 ?_
      show gV l b0 D K (n, κ, ov X0 [74, 91, 92, 93, 94, 95, 96, 97, 98] [(upd x74 17 0), x91, x92, x93, (upd x94 ((upd x74 17 0) 20).toNatClampNeg v1), x95, x96, x97, x98], ov Y0 [] [], Z, 0, 0) 62 [(0, .ref (b0 + 74)), (1, .int v1), (2, .int v2)] []
      refine g_aload_n hC 0 dX12_rule_62 rfl rfl ?_
      refine g_dup hC dX12_rule_63 rfl ?_
      refine gt_X12_333 hC (x := (upd x74 17 0)) (kk_74 hL) (kn_74 hL) (ov_get hN 0 rfl rfl) dX12_rule_64 ?_
      refine g_aload_n hC 0 dX12_rule_67 rfl rfl ?_
      refine gt_X12_180 hC (x := (upd x74 17 0)) (kk_74 hL) (kn_74 hL) (ov_get hN 0 rfl rfl) dX12_rule_68 ?_
      refine g_if_ne hC 78 dX12_rule_71 (by decide) (fun hc => ?_) (fun hc => ?_)
      · replace hf := ifF hf hc
        refine g_iconst hC (v := 0) dX12_rule_78 ic_0 ?_
        exact g_sub [0] rfl (wX12_rule_79 hL hN hM hC  hret  hf)
      · replace hf := ifT hf hc
        refine g_iconst hC (v := 1) dX12_rule_74 ic_1 ?_
        refine g_goto hC 79 dX12_rule_75 (by decide) ?_
        exact g_sub [0] rfl (wX12_rule_79 hL hN hM hC  hret  hf)
    · replace hf := ifF hf hc
      refine g_aload_n hC 0 dX12_rule_31 rfl rfl ?_
      refine g_iload_n hC 1 dX12_rule_32 rfl rfl ?_
      obtain ⟨x74_2, x92_3, x93_4, x95_5, x96_6, x97_7, x98_8, q_9, hf⟩ := bd7E hf
      refine g_callV_v (a := 74) hC (X' := ov X0 [74, 91, 92, 93, 94, 95, 96, 97, 98] [x74_2, x91, x92_3, x93_4, x94, x95_5, x96_6, x97_7, x98_8]) (Y' := ov Y0 [] []) (As := [.int v1]) (gMv_eq (c_X12_ruleClause l hL (ov_map hN [0, 1, 2, 3, 5, 6, 7, 8] (by rfl) (by rfl)) (ov_map hM [] (by rfl) (by rfl)) q_9) (ov_ovE hN (by rfl) [0, 1, 2, 3, 5, 6, 7, 8] [4] (by rfl) (by rfl) [x94] (by rfl) (by rfl) (by rfl) 9 (by rfl) (by decide)) (ov_ovE hM (by rfl) [] [] (by rfl) (by rfl) [] (by rfl) (by rfl) (by rfl) 0 (by rfl) (by decide))) tw_1451 tw_1448 tw_127 tw_1450 tw_61 (ci := 12) rfl (by decide) (kk_74 hL) (kn_74 hL) pd_X12_ruleClause (by decide) (by decide) rfl rfl (Nat.le_of_ble_eq_true rfl) rfl dX12_rule_33 ?_
      obtain ⟨t_10, et_10, hf⟩ := bnE hf
      refine g_iinc hC (i := 1) (v := t_10) [(1, .int t_10), (0, .ref (b0 + 74)), (2, .int v2)] dX12_rule_36 (q := 1) rfl ((congrArg (HAdd.hAdd v1) ic_1).trans et_10.symm) (by decide) rfl ?_
      refine g_aload_n hC 1 dX12_rule_39 rfl rfl ?_
      obtain ⟨r_11, x74_12, q_13, hf⟩ := bd2E hf
      refine g_callV_i (a := 74) hC (X' := ov X0 [74, 91, 92, 93, 94, 95, 96, 97, 98] [x74_12, x91, x92_3, x93_4, x94, x95_5, x96_6, x97_7, x98_8]) (Y' := ov Y0 [] []) (As := []) (gMi_eq (c_X12_goesOn l hL (ov_map hN [0, 1] (by rfl) (by rfl)) (ov_map hM [] (by rfl) (by rfl)) q_13) (ov_ovE hN (by rfl) [0, 1] [2, 3, 4, 5, 6, 7, 8] (by rfl) (by rfl) [x92_3, x93_4, x94, x95_5, x96_6, x97_7, x98_8] (by rfl) (by rfl) (by rfl) 9 (by rfl) (by decide)) (ov_ovE hM (by rfl) [] [] (by rfl) (by rfl) [] (by rfl) (by rfl) (by rfl) 0 (by rfl) (by decide))) tw_1436 tw_1433 tw_127 tw_1435 tw_59 (ci := 12) rfl (by decide) (kk_74 hL) (kn_74 hL) pd_X12_goesOn (by decide) (by decide) rfl rfl (Nat.le_of_ble_eq_true rfl) rfl dX12_rule_40 ?_
      refine g_istore_n hC (i := 2) [(2, .int r_11), (1, .int t_10), (0, .ref (b0 + 74))] rfl dX12_rule_43 (by decide) rfl ?_
      refine g_goto hC 27 dX12_rule_44 (by decide) ?_
      exact g_sub [2, 1, 0] rfl (hk27 t_10 r_11 x74_12 x92_3 x93_4 x94 x95_5 x96_6 x97_7 x98_8 hf)

def fX12_rule_0   (x91 : Nat → Int32)  (x74 : (Nat → Int32)) (x92 : (Nat → Int32)) (x93 : (Nat → Int32)) (x94 : (Nat → Int32)) (x95 : (Nat → Int32)) (x96 : (Nat → Int32)) (x97 : (Nat → Int32)) (x98 : (Nat → Int32)) : Option (Int32 × (Nat → Int32) × (Nat → Int32) × (Nat → Int32) × (Nat → Int32) × (Nat → Int32) × (Nat → Int32) × (Nat → Int32) × (Nat → Int32)) := if (x74 21) = 6 then (some ((-1), x74, x92, x93, x94, x95, x96, x97, x98)) else (bd1 (fX12_starts (upd x74 20 (x74 21))) fun x74_1 => (fX12_rule_27 x91  0 1 x74_1 x92 x93 x94 x95 x96 x97 x98))
set_option maxHeartbeats 4000000 in
set_option maxRecDepth 100000 in
theorem wX12_rule_0 {l : Launch} {b0 : Nat} {D : GD} {K : KT} {n : Nat} {κ : QT} {X0 : XT} {Y0 : YT} {Z : ZT} (hL : LY n κ) (hN : ([74, 91, 92, 93, 94, 95, 96, 97, 98] : List Nat).Nodup) (hM : ([] : List Nat).Nodup) (hC : gC l b0 D K RX12 cX12_rule (some FieldType.int) 3 12 262 0 0) {x91 : Nat → Int32} {r : Int32} {rx74 : (Nat → Int32)} {rx92 : (Nat → Int32)} {rx93 : (Nat → Int32)} {rx94 : (Nat → Int32)} {rx95 : (Nat → Int32)} {rx96 : (Nat → Int32)} {rx97 : (Nat → Int32)} {rx98 : (Nat → Int32)} (hret : ∀ pc loc, narrow .int (.int r) = .int r → decode cX12_rule pc = .ok (.ireturn, 1) → gV l b0 D K (n, κ, ov X0 [74, 91, 92, 93, 94, 95, 96, 97, 98] [rx74, x91, rx92, rx93, rx94, rx95, rx96, rx97, rx98], ov Y0 [] [], Z, 0, 0) pc loc [.int r]) {x74 : (Nat → Int32)} {x92 : (Nat → Int32)} {x93 : (Nat → Int32)} {x94 : (Nat → Int32)} {x95 : (Nat → Int32)} {x96 : (Nat → Int32)} {x97 : (Nat → Int32)} {x98 : (Nat → Int32)} (hf : fX12_rule_0 x91  x74 x92 x93 x94 x95 x96 x97 x98 = some (r, rx74, rx92, rx93, rx94, rx95, rx96, rx97, rx98)) : gV l b0 D K (n, κ, ov X0 [74, 91, 92, 93, 94, 95, 96, 97, 98] [x74, x91, x92, x93, x94, x95, x96, x97, x98], ov Y0 [] [], Z, 0, 0) 0 [(0, .ref (b0 + 74))] [] := by
  unfold fX12_rule_0 at hf
  refine g_aload_n hC 0 dX12_rule_0 rfl rfl ?_
  refine gt_X12_333 hC (x := x74) (kk_74 hL) (kn_74 hL) (ov_get hN 0 rfl rfl) dX12_rule_1 ?_
  refine g_bipush hC (v := 6) dX12_rule_4 bp_6 ?_
  refine g_icmp_ne hC 11 dX12_rule_6 (by decide) (fun hc => ?_) (fun hc => ?_)
  · replace hf := ifF hf hc
    refine g_aload_n hC 0 dX12_rule_11 rfl rfl ?_
    refine g_aload_n hC 0 dX12_rule_12 rfl rfl ?_
    refine gt_X12_333 hC (x := x74) (kk_74 hL) (kn_74 hL) (ov_get hN 0 rfl rfl) dX12_rule_13 ?_
    refine pt_X12_210 hC (x := x74) (kk_74 hL) (kn_74 hL) (ov_get hN 0 rfl rfl) (ov_set hN (by rfl) 0 (by rfl)) dX12_rule_16 ?_
    show gV l b0 D K (n, κ, ov X0 [74, 91, 92, 93, 94, 95, 96, 97, 98] [(upd x74 20 (x74 21)), x91, x92, x93, x94, x95, x96, x97, x98], ov Y0 [] [], Z, 0, 0) 19 [(0, .ref (b0 + 74))] []
    refine g_aload_n hC 0 dX12_rule_19 rfl rfl ?_
    obtain ⟨x74_1, q_2, hf⟩ := bd1E hf
    refine g_callV_v (a := 74) hC (X' := ov X0 [74, 91, 92, 93, 94, 95, 96, 97, 98] [x74_1, x91, x92, x93, x94, x95, x96, x97, x98]) (Y' := ov Y0 [] []) (As := []) (gMv_eq (c_X12_starts l hL (ov_map hN [0] (by rfl) (by rfl)) (ov_map hM [] (by rfl) (by rfl)) q_2) (ov_ovE hN (by rfl) [0] [1, 2, 3, 4, 5, 6, 7, 8] (by rfl) (by rfl) [x91, x92, x93, x94, x95, x96, x97, x98] (by rfl) (by rfl) (by rfl) 9 (by rfl) (by decide)) (ov_ovE hM (by rfl) [] [] (by rfl) (by rfl) [] (by rfl) (by rfl) (by rfl) 0 (by rfl) (by decide))) tw_1372 tw_1369 tw_127 tw_1371 tw_47 (ci := 12) rfl (by decide) (kk_74 hL) (kn_74 hL) pd_X12_starts (by decide) (by decide) rfl rfl (Nat.le_of_ble_eq_true rfl) rfl dX12_rule_20 ?_
    refine g_iconst hC (v := 0) dX12_rule_23 ic_0 ?_
    refine g_istore_n hC (i := 1) [(1, .int 0), (0, .ref (b0 + 74))] rfl dX12_rule_24 (by decide) rfl ?_
    refine g_iconst hC (v := 1) dX12_rule_25 ic_1 ?_
    refine g_istore_n hC (i := 2) [(2, .int 1), (1, .int 0), (0, .ref (b0 + 74))] rfl dX12_rule_26 (by decide) rfl ?_
    exact g_sub [2, 1, 0] rfl (wX12_rule_27 hL hN hM hC  hret  5000 0 1 x74_1 x92 x93 x94 x95 x96 x97 x98 hf)
  · replace hf := ifT hf hc
    refine g_iconst hC (v := (-1)) dX12_rule_9 ic_m1 ?_
    obtain ⟨rfl, rfl, rfl, rfl, rfl, rfl, rfl, rfl, rfl⟩ := sm9E hf
    exact hret _ _ rfl dX12_rule_10

def fX12_rule   (x91 : Nat → Int32)   (x74 : Nat → Int32) (x92 : Nat → Int32) (x93 : Nat → Int32) (x94 : Nat → Int32) (x95 : Nat → Int32) (x96 : Nat → Int32) (x97 : Nat → Int32) (x98 : Nat → Int32)  : Option (Int32 × (Nat → Int32) × (Nat → Int32) × (Nat → Int32) × (Nat → Int32) × (Nat → Int32) × (Nat → Int32) × (Nat → Int32) × (Nat → Int32)) := fX12_rule_0 x91 x74 x92 x93 x94 x95 x96 x97 x98

set_option maxHeartbeats 4000000 in
set_option maxRecDepth 100000 in
theorem c_X12_rule (l : Launch) {b0 : Nat} {D : GD} {n : Nat} {κ : QT} {X0 : XT} {Y0 : YT} {Z : ZT} (hL : LY n κ) {x74 : Nat → Int32} {x91 : Nat → Int32} {x92 : Nat → Int32} {x93 : Nat → Int32} {x94 : Nat → Int32} {x95 : Nat → Int32} {x96 : Nat → Int32} {x97 : Nat → Int32} {x98 : Nat → Int32} (hx : ([74, 91, 92, 93, 94, 95, 96, 97, 98] : List Nat).map X0 = [x74, x91, x92, x93, x94, x95, x96, x97, x98]) (hy : ([] : List Nat).map Y0 = []) {r : Int32} {rx74 : (Nat → Int32)} {rx92 : (Nat → Int32)} {rx93 : (Nat → Int32)} {rx94 : (Nat → Int32)} {rx95 : (Nat → Int32)} {rx96 : (Nat → Int32)} {rx97 : (Nat → Int32)} {rx98 : (Nat → Int32)} (hf : fX12_rule x91 x74 x92 x93 x94 x95 x96 x97 x98 = some (r, rx74, rx92, rx93, rx94, rx95, rx96, rx97, rx98)) : gMi l yX12_rule cX12_rule 3 (some FieldType.int) 12 262 0 0 b0 D [.ref (b0 + 74)] (n, κ, X0, Y0, Z) (n, κ, ov X0 [74, 91, 92, 93, 94, 95, 96, 97, 98] [rx74, x91, rx92, rx93, rx94, rx95, rx96, rx97, rx98], ov Y0 [] [], Z) r := by
  have hN : ([74, 91, 92, 93, 94, 95, 96, 97, 98] : List Nat).Nodup := by decide
  have hM : ([] : List Nat).Nodup := by decide
  refine g_meti (own := RX12) (by decide) rfl rfl (Nat.le_of_ble_eq_true rfl) ?_
  intro K hC hret
  have e := wX12_rule_0 hL hN hM hC  hret hf
  rw [ov_id' hx, ov_id' hy] at e
  exact g_sub [0] rfl e


-- J6_bitCount
def fJ6_bitCount_0f7a4_0     (v0 : Int32) : Option (Int32) := bn (v0 - (((v0.toUInt32 >>> ((1 : Int32).toUInt32 &&& Int32.toUInt32 31)).toInt32) &&& 1431655765)) fun t_1 => (bn ((t_1 &&& 858993459) + (((t_1.toUInt32 >>> ((2 : Int32).toUInt32 &&& Int32.toUInt32 31)).toInt32) &&& 858993459)) fun t_2 => (bn ((t_2 + ((t_2.toUInt32 >>> ((4 : Int32).toUInt32 &&& Int32.toUInt32 31)).toInt32)) &&& 252645135) fun t_3 => (bn (t_3 + ((t_3.toUInt32 >>> ((8 : Int32).toUInt32 &&& Int32.toUInt32 31)).toInt32)) fun t_4 => (bn (t_4 + ((t_4.toUInt32 >>> ((16 : Int32).toUInt32 &&& Int32.toUInt32 31)).toInt32)) fun t_5 => (some (t_5 &&& 63))))))
set_option maxHeartbeats 4000000 in
set_option maxRecDepth 100000 in
theorem wJ6_bitCount_0f7a4_0 {l : Launch} {b0 : Nat} {D : GD} {K : KT} {n : Nat} {κ : QT} {X0 : XT} {Y0 : YT} {Z : ZT} (hL : LY n κ) (hN : ([] : List Nat).Nodup) (hM : ([] : List Nat).Nodup) (hC : gC l b0 D K RJ6 cJ6_bitCount_0f7a4 (some FieldType.int) 1 0 0 0 0) {r : Int32} (hret : ∀ pc loc, narrow .int (.int r) = .int r → decode cJ6_bitCount_0f7a4 pc = .ok (.ireturn, 1) → gV l b0 D K (n, κ, ov X0 [] [], ov Y0 [] [], Z, 0, 0) pc loc [.int r]) {v0 : Int32} (hf : fJ6_bitCount_0f7a4_0   v0 = some r) : gV l b0 D K (n, κ, ov X0 [] [], ov Y0 [] [], Z, 0, 0) 0 [(0, .int v0)] [] := by
  unfold fJ6_bitCount_0f7a4_0 at hf
  refine g_iload_n hC 0 dJ6_bitCount_0f7a4_0 rfl rfl ?_
  refine g_iload_n hC 0 dJ6_bitCount_0f7a4_1 rfl rfl ?_
  refine g_iconst hC (v := 1) dJ6_bitCount_0f7a4_2 ic_1 ?_
  refine g_iushr hC dJ6_bitCount_0f7a4_3 ?_
  refine g_ldc_w hC (v := 1431655765) tw_923 dJ6_bitCount_0f7a4_4 ?_
  refine g_iand hC dJ6_bitCount_0f7a4_7 ?_
  refine g_isub hC dJ6_bitCount_0f7a4_8 ?_
  obtain ⟨t_1, et_1, hf⟩ := bnE hf
  refine g_topi et_1 ?_
  refine g_istore_n hC (i := 0) [(0, .int t_1)] rfl dJ6_bitCount_0f7a4_9 (by decide) rfl ?_
  refine g_iload_n hC 0 dJ6_bitCount_0f7a4_10 rfl rfl ?_
  refine g_ldc_w hC (v := 858993459) tw_924 dJ6_bitCount_0f7a4_11 ?_
  refine g_iand hC dJ6_bitCount_0f7a4_14 ?_
  refine g_iload_n hC 0 dJ6_bitCount_0f7a4_15 rfl rfl ?_
  refine g_iconst hC (v := 2) dJ6_bitCount_0f7a4_16 ic_2 ?_
  refine g_iushr hC dJ6_bitCount_0f7a4_17 ?_
  refine g_ldc_w hC (v := 858993459) tw_924 dJ6_bitCount_0f7a4_18 ?_
  refine g_iand hC dJ6_bitCount_0f7a4_21 ?_
  refine g_iadd hC dJ6_bitCount_0f7a4_22 ?_
  obtain ⟨t_2, et_2, hf⟩ := bnE hf
  refine g_topi et_2 ?_
  refine g_istore_n hC (i := 0) [(0, .int t_2)] rfl dJ6_bitCount_0f7a4_23 (by decide) rfl ?_
  refine g_iload_n hC 0 dJ6_bitCount_0f7a4_24 rfl rfl ?_
  refine g_iload_n hC 0 dJ6_bitCount_0f7a4_25 rfl rfl ?_
  refine g_iconst hC (v := 4) dJ6_bitCount_0f7a4_26 ic_4 ?_
  refine g_iushr hC dJ6_bitCount_0f7a4_27 ?_
  refine g_iadd hC dJ6_bitCount_0f7a4_28 ?_
  refine g_ldc_w hC (v := 252645135) tw_925 dJ6_bitCount_0f7a4_29 ?_
  refine g_iand hC dJ6_bitCount_0f7a4_32 ?_
  obtain ⟨t_3, et_3, hf⟩ := bnE hf
  refine g_topi et_3 ?_
  refine g_istore_n hC (i := 0) [(0, .int t_3)] rfl dJ6_bitCount_0f7a4_33 (by decide) rfl ?_
  refine g_iload_n hC 0 dJ6_bitCount_0f7a4_34 rfl rfl ?_
  refine g_iload_n hC 0 dJ6_bitCount_0f7a4_35 rfl rfl ?_
  refine g_bipush hC (v := 8) dJ6_bitCount_0f7a4_36 bp_8 ?_
  refine g_iushr hC dJ6_bitCount_0f7a4_38 ?_
  refine g_iadd hC dJ6_bitCount_0f7a4_39 ?_
  obtain ⟨t_4, et_4, hf⟩ := bnE hf
  refine g_topi et_4 ?_
  refine g_istore_n hC (i := 0) [(0, .int t_4)] rfl dJ6_bitCount_0f7a4_40 (by decide) rfl ?_
  refine g_iload_n hC 0 dJ6_bitCount_0f7a4_41 rfl rfl ?_
  refine g_iload_n hC 0 dJ6_bitCount_0f7a4_42 rfl rfl ?_
  refine g_bipush hC (v := 16) dJ6_bitCount_0f7a4_43 bp_16 ?_
  refine g_iushr hC dJ6_bitCount_0f7a4_45 ?_
  refine g_iadd hC dJ6_bitCount_0f7a4_46 ?_
  obtain ⟨t_5, et_5, hf⟩ := bnE hf
  refine g_topi et_5 ?_
  refine g_istore_n hC (i := 0) [(0, .int t_5)] rfl dJ6_bitCount_0f7a4_47 (by decide) rfl ?_
  refine g_iload_n hC 0 dJ6_bitCount_0f7a4_48 rfl rfl ?_
  refine g_bipush hC (v := 63) dJ6_bitCount_0f7a4_49 bp_63 ?_
  refine g_iand hC dJ6_bitCount_0f7a4_51 ?_
  obtain rfl := sm1E hf
  exact hret _ _ rfl dJ6_bitCount_0f7a4_52

def fJ6_bitCount_0f7a4     (v0 : Int32)   : Option (Int32) := fJ6_bitCount_0f7a4_0  v0

set_option maxHeartbeats 4000000 in
set_option maxRecDepth 100000 in
theorem c_J6_bitCount_0f7a4 (l : Launch) {b0 : Nat} {D : GD} {n : Nat} {κ : QT} {X0 : XT} {Y0 : YT} {Z : ZT} (hL : LY n κ) (hx : ([] : List Nat).map X0 = []) (hy : ([] : List Nat).map Y0 = []) {v0 : Int32} {r : Int32} (hf : fJ6_bitCount_0f7a4  v0 = some r) : gMi l yJ6_bitCount_0f7a4 cJ6_bitCount_0f7a4 1 (some FieldType.int) 0 0 0 0 b0 D [.int v0] (n, κ, X0, Y0, Z) (n, κ, ov X0 [] [], ov Y0 [] [], Z) r := by
  have hN : ([] : List Nat).Nodup := by decide
  have hM : ([] : List Nat).Nodup := by decide
  refine g_meti (own := RJ6) (by decide) rfl rfl (Nat.le_of_ble_eq_true rfl) ?_
  intro K hC hret
  have e := wJ6_bitCount_0f7a4_0 hL hN hM hC  hret hf
  rw [ov_id' hx, ov_id' hy] at e
  exact g_sub [0] rfl e

-- J7_fill
def fJ7_fill_53178_5b  (L : Nat)   (k5 : Int32 → Int32 → Int32 → (Nat → Int32) → Option ((Nat → Int32))) (v1 : Int32) (v2 : Int32) (v3 : Int32) (xa : (Nat → Int32)) : Option ((Nat → Int32)) := if v3 ≤ v2 then (some xa) else (gd (inb v2 L) (bn (v2 + 1) fun t_2 => (k5 v1 t_2 v3 (upd xa v2.toNatClampNeg v1))))
def fJ7_fill_53178_5  (L : Nat)   : Int32 → Int32 → Int32 → (Nat → Int32) → Option ((Nat → Int32)) := lq4 (fJ7_fill_53178_5b L ) 5000
set_option maxHeartbeats 4000000 in
set_option maxRecDepth 100000 in
theorem wJ7_fill_53178_5 {l : Launch} {b0 : Nat} {D : GD} {K : KT} {n : Nat} {κ : QT} {X0 : XT} {Y0 : YT} {Z : ZT} {a : Nat} {L : Nat} (hL : LY n κ) (hk_a : κ a = (14, L)) (hn_a : a < n) (hN : ([a] : List Nat).Nodup) (hM : ([] : List Nat).Nodup) (hC : gC l b0 D K RJ7 cJ7_fill_53178 none 4 0 0 0 0) {rxa : (Nat → Int32)} (hret : ∀ pc loc, decode cJ7_fill_53178 pc = .ok (.return_, 1) → gV l b0 D K (n, κ, ov X0 [a] [rxa], ov Y0 [] [], Z, 0, 0) pc loc []) : ∀ (j : Nat) (v1 : Int32) (v2 : Int32) (v3 : Int32) (xa : (Nat → Int32)), lq4 (fJ7_fill_53178_5b L ) j v1 v2 v3 xa = some rxa → gV l b0 D K (n, κ, ov X0 [a] [xa], ov Y0 [] [], Z, 0, 0) 5 [(0, .ref (b0 + a)), (1, .int v1), (2, .int v2), (3, .int v3)] [] := by
  intro j
  induction j with
  | zero => intro v1 v2 v3 xa hf; cases hf
  | succ j hk5 =>
    intro v1 v2 v3 xa hf
    replace hf : fJ7_fill_53178_5b L  (lq4 (fJ7_fill_53178_5b L ) j) v1 v2 v3 xa = some rxa := hf
    unfold fJ7_fill_53178_5b at hf
    refine g_iload_n hC 2 dJ7_fill_53178_5 rfl rfl ?_
    refine g_iload_n hC 3 dJ7_fill_53178_6 rfl rfl ?_
    refine g_icmp_ge hC 20 dJ7_fill_53178_7 (by decide) (fun hc => ?_) (fun hc => ?_)
    · replace hf := ifT hf hc
      obtain rfl := sm1E hf
      exact hret _ _ dJ7_fill_53178_20
    · replace hf := ifF hf hc
      refine g_aload_n hC 0 dJ7_fill_53178_10 rfl rfl ?_
      refine g_iload_n hC 2 dJ7_fill_53178_11 rfl rfl ?_
      refine g_iload_n hC 1 dJ7_fill_53178_12 rfl rfl ?_
      obtain ⟨h_1, hf⟩ := gdE hf
      refine g_iast hC (x := xa) hk_a hn_a (ov_get hN 0 rfl rfl) (inb_in h_1) (ov_set hN (by rfl) 0 (by rfl)) dJ7_fill_53178_13 ?_
      show gV l b0 D K (n, κ, ov X0 [a] [(upd xa v2.toNatClampNeg v1)], ov Y0 [] [], Z, 0, 0) 14 [(0, .ref (b0 + a)), (1, .int v1), (2, .int v2), (3, .int v3)] []
      obtain ⟨t_2, et_2, hf⟩ := bnE hf
      refine g_iinc hC (i := 2) (v := t_2) [(2, .int t_2), (0, .ref (b0 + a)), (1, .int v1), (3, .int v3)] dJ7_fill_53178_14 (q := 2) rfl ((congrArg (HAdd.hAdd v2) ic_1).trans et_2.symm) (by decide) rfl ?_
      refine g_goto hC 5 dJ7_fill_53178_17 (by decide) ?_
      exact g_sub [1, 2, 0, 3] rfl (hk5 v1 t_2 v3 (upd xa v2.toNatClampNeg v1) hf)

def fJ7_fill_53178_0  (L : Nat)   (v1 : Int32) (xa : (Nat → Int32)) : Option ((Nat → Int32)) := bn (Int32.ofNat L) fun t_1 => (fJ7_fill_53178_5 L  v1 0 t_1 xa)
set_option maxHeartbeats 4000000 in
set_option maxRecDepth 100000 in
theorem wJ7_fill_53178_0 {l : Launch} {b0 : Nat} {D : GD} {K : KT} {n : Nat} {κ : QT} {X0 : XT} {Y0 : YT} {Z : ZT} {a : Nat} {L : Nat} (hL : LY n κ) (hk_a : κ a = (14, L)) (hn_a : a < n) (hN : ([a] : List Nat).Nodup) (hM : ([] : List Nat).Nodup) (hC : gC l b0 D K RJ7 cJ7_fill_53178 none 4 0 0 0 0) {rxa : (Nat → Int32)} (hret : ∀ pc loc, decode cJ7_fill_53178 pc = .ok (.return_, 1) → gV l b0 D K (n, κ, ov X0 [a] [rxa], ov Y0 [] [], Z, 0, 0) pc loc []) {v1 : Int32} {xa : (Nat → Int32)} (hf : fJ7_fill_53178_0 L  v1 xa = some rxa) : gV l b0 D K (n, κ, ov X0 [a] [xa], ov Y0 [] [], Z, 0, 0) 0 [(0, .ref (b0 + a)), (1, .int v1)] [] := by
  unfold fJ7_fill_53178_0 at hf
  refine g_iconst hC (v := 0) dJ7_fill_53178_0 ic_0 ?_
  refine g_istore_n hC (i := 2) [(2, .int 0), (0, .ref (b0 + a)), (1, .int v1)] rfl dJ7_fill_53178_1 (by decide) rfl ?_
  refine g_aload_n hC 1 dJ7_fill_53178_2 rfl rfl ?_
  refine g_alen_i hC (L := L) hk_a hn_a dJ7_fill_53178_3 ?_
  obtain ⟨t_1, et_1, hf⟩ := bnE hf
  refine g_topi et_1 ?_
  refine g_istore_n hC (i := 3) [(3, .int t_1), (2, .int 0), (0, .ref (b0 + a)), (1, .int v1)] rfl dJ7_fill_53178_4 (by decide) rfl ?_
  exact g_sub [2, 3, 1, 0] rfl (wJ7_fill_53178_5 hL hk_a hn_a hN hM hC  hret  5000 v1 0 t_1 xa hf)

def fJ7_fill_53178  (L : Nat)   (v1 : Int32) (xa : Nat → Int32)  : Option ((Nat → Int32)) := fJ7_fill_53178_0 L v1 xa

set_option maxHeartbeats 4000000 in
set_option maxRecDepth 100000 in
theorem c_J7_fill_53178 (l : Launch) {b0 : Nat} {D : GD} {n : Nat} {κ : QT} {X0 : XT} {Y0 : YT} {Z : ZT} {a : Nat} {L : Nat} (hL : LY n κ) (hk_a : κ a = (14, L)) (hn_a : a < n) (hN : ([a] : List Nat).Nodup) (hM : ([] : List Nat).Nodup) {xa : Nat → Int32} (hx : ([a] : List Nat).map X0 = [xa]) (hy : ([] : List Nat).map Y0 = []) {v1 : Int32} {rxa : (Nat → Int32)} (hf : fJ7_fill_53178 L v1 xa = some rxa) : gMv l yJ7_fill_53178 cJ7_fill_53178 4 none 0 0 0 0 b0 D [.ref (b0 + a), .int v1] (n, κ, X0, Y0, Z) (n, κ, ov X0 [a] [rxa], ov Y0 [] [], Z) := by
  refine g_metv (own := RJ7) (by decide) rfl rfl (Nat.le_of_ble_eq_true rfl) ?_
  intro K hC hret
  have e := wJ7_fill_53178_0 hL hk_a hn_a hN hM hC  hret hf
  rw [ov_id' hx, ov_id' hy] at e
  exact g_sub [0, 1] rfl e


-- X12_carryRow
def fX12_carryRow_42  (L : Nat)   (k2 : Int32 → (Nat → Int32) → (Nat → Int32) → (Nat → Int32) → Option ((Nat → Int32) × (Nat → Int32) × (Nat → Int32))) (v2 : Int32) (xa : (Nat → Int32)) (x74 : (Nat → Int32)) (x112 : (Nat → Int32)) : Option ((Nat → Int32) × (Nat → Int32) × (Nat → Int32)) := bn (v2 + 1) fun t_1 => (k2 t_1 xa (upd x74 56 ((x74 56) + 1)) x112)
set_option maxHeartbeats 4000000 in
set_option maxRecDepth 100000 in
theorem wX12_carryRow_42 {l : Launch} {b0 : Nat} {D : GD} {K : KT} {n : Nat} {κ : QT} {X0 : XT} {Y0 : YT} {Z : ZT} {a : Nat} {L : Nat} (hL : LY n κ) (hk_a : κ a = (14, L)) (hn_a : a < n) (hN : ([a, 74, 112] : List Nat).Nodup) (hM : ([] : List Nat).Nodup) (hC : gC l b0 D K RX12 cX12_carryRow none 3 0 0 0 0) {rxa : (Nat → Int32)} {rx74 : (Nat → Int32)} {rx112 : (Nat → Int32)} (hret : ∀ pc loc, decode cX12_carryRow pc = .ok (.return_, 1) → gV l b0 D K (n, κ, ov X0 [a, 74, 112] [rxa, rx74, rx112], ov Y0 [] [], Z, 0, 0) pc loc []) {k2 : Int32 → (Nat → Int32) → (Nat → Int32) → (Nat → Int32) → Option ((Nat → Int32) × (Nat → Int32) × (Nat → Int32))} (hk2 : ∀ (v2 : Int32) (xa : (Nat → Int32)) (x74 : (Nat → Int32)) (x112 : (Nat → Int32)), k2 v2 xa x74 x112 = some (rxa, rx74, rx112) → gV l b0 D K (n, κ, ov X0 [a, 74, 112] [xa, x74, x112], ov Y0 [] [], Z, 0, 0) 2 [(0, .ref (b0 + 74)), (1, .ref (b0 + a)), (2, .int v2)] []) {v2 : Int32} {xa : (Nat → Int32)} {x74 : (Nat → Int32)} {x112 : (Nat → Int32)} (hf : fX12_carryRow_42 L k2 v2 xa x74 x112 = some (rxa, rx74, rx112)) : gV l b0 D K (n, κ, ov X0 [a, 74, 112] [xa, x74, x112], ov Y0 [] [], Z, 0, 0) 42 [(0, .ref (b0 + 74)), (1, .ref (b0 + a)), (2, .int v2)] [] := by
  unfold fX12_carryRow_42 at hf
  refine g_aload_n hC 0 dX12_carryRow_42 rfl rfl ?_
  refine g_dup hC dX12_carryRow_43 rfl ?_
  refine gt_X12_522 hC (x := x74) (kk_74 hL) (kn_74 hL) (ov_get hN 1 rfl rfl) dX12_carryRow_44 ?_
  refine g_iconst hC (v := 1) dX12_carryRow_47 ic_1 ?_
  refine g_iadd hC dX12_carryRow_48 ?_
  refine pt_X12_522 hC (x := x74) (kk_74 hL) (kn_74 hL) (ov_get hN 1 rfl rfl) (ov_set hN (by rfl) 1 (by rfl)) dX12_carryRow_49 ?_
  show gV l b0 D K (n, κ, ov X0 [a, 74, 112] [xa, (upd x74 56 ((x74 56) + 1)), x112], ov Y0 [] [], Z, 0, 0) 52 [(0, .ref (b0 + 74)), (1, .ref (b0 + a)), (2, .int v2)] []
  obtain ⟨t_1, et_1, hf⟩ := bnE hf
  refine g_iinc hC (i := 2) (v := t_1) [(2, .int t_1), (0, .ref (b0 + 74)), (1, .ref (b0 + a))] dX12_carryRow_52 (q := 2) rfl ((congrArg (HAdd.hAdd v2) ic_1).trans et_1.symm) (by decide) rfl ?_
  refine g_goto hC 2 dX12_carryRow_55 (by decide) ?_
  exact g_sub [1, 2, 0] rfl (hk2 t_1 xa (upd x74 56 ((x74 56) + 1)) x112 hf)

def fX12_carryRow_2b  (L : Nat)   (k2 : Int32 → (Nat → Int32) → (Nat → Int32) → (Nat → Int32) → Option ((Nat → Int32) × (Nat → Int32) × (Nat → Int32))) (v2 : Int32) (xa : (Nat → Int32)) (x74 : (Nat → Int32)) (x112 : (Nat → Int32)) : Option ((Nat → Int32) × (Nat → Int32) × (Nat → Int32)) := if (Int32.ofNat L) ≤ v2 then (some (xa, x74, x112)) else (if (x74 57) = 0 then (gd (inb v2 L) (gd (inb (x74 56) 6500) (fX12_carryRow_42 L k2 v2 xa x74 (upd x112 (x74 56).toNatClampNeg (xa v2.toNatClampNeg))))) else (gd (inb (x74 56) 6500) (gd (inb v2 L) (fX12_carryRow_42 L k2 v2 (upd xa v2.toNatClampNeg (x112 (x74 56).toNatClampNeg)) x74 x112))))
def fX12_carryRow_2  (L : Nat)   : Int32 → (Nat → Int32) → (Nat → Int32) → (Nat → Int32) → Option ((Nat → Int32) × (Nat → Int32) × (Nat → Int32)) := lq4 (fX12_carryRow_2b L ) 5000
set_option maxHeartbeats 4000000 in
set_option maxRecDepth 100000 in
theorem wX12_carryRow_2 {l : Launch} {b0 : Nat} {D : GD} {K : KT} {n : Nat} {κ : QT} {X0 : XT} {Y0 : YT} {Z : ZT} {a : Nat} {L : Nat} (hL : LY n κ) (hk_a : κ a = (14, L)) (hn_a : a < n) (hN : ([a, 74, 112] : List Nat).Nodup) (hM : ([] : List Nat).Nodup) (hC : gC l b0 D K RX12 cX12_carryRow none 3 0 0 0 0) {rxa : (Nat → Int32)} {rx74 : (Nat → Int32)} {rx112 : (Nat → Int32)} (hret : ∀ pc loc, decode cX12_carryRow pc = .ok (.return_, 1) → gV l b0 D K (n, κ, ov X0 [a, 74, 112] [rxa, rx74, rx112], ov Y0 [] [], Z, 0, 0) pc loc []) : ∀ (j : Nat) (v2 : Int32) (xa : (Nat → Int32)) (x74 : (Nat → Int32)) (x112 : (Nat → Int32)), lq4 (fX12_carryRow_2b L ) j v2 xa x74 x112 = some (rxa, rx74, rx112) → gV l b0 D K (n, κ, ov X0 [a, 74, 112] [xa, x74, x112], ov Y0 [] [], Z, 0, 0) 2 [(0, .ref (b0 + 74)), (1, .ref (b0 + a)), (2, .int v2)] [] := by
  intro j
  induction j with
  | zero => intro v2 xa x74 x112 hf; cases hf
  | succ j hk2 =>
    intro v2 xa x74 x112 hf
    replace hf : fX12_carryRow_2b L  (lq4 (fX12_carryRow_2b L ) j) v2 xa x74 x112 = some (rxa, rx74, rx112) := hf
    unfold fX12_carryRow_2b at hf
    refine g_iload_n hC 2 dX12_carryRow_2 rfl rfl ?_
    refine g_aload_n hC 1 dX12_carryRow_3 rfl rfl ?_
    refine g_alen_i hC (L := L) hk_a hn_a dX12_carryRow_4 ?_
    refine g_icmp_ge hC 58 dX12_carryRow_5 (by decide) (fun hc => ?_) (fun hc => ?_)
    · replace hf := ifT hf hc
      obtain ⟨rfl, rfl, rfl⟩ := sm3E hf
      exact hret _ _ dX12_carryRow_58
    · replace hf := ifF hf hc
      refine g_aload_n hC 0 dX12_carryRow_8 rfl rfl ?_
      refine gt_X12_519 hC (x := x74) (kk_74 hL) (kn_74 hL) (ov_get hN 1 rfl rfl) dX12_carryRow_9 ?_
      refine g_if_eq hC 30 dX12_carryRow_12 (by decide) (fun hc => ?_) (fun hc => ?_)
      · replace hf := ifT hf hc
        refine g_aload_n hC 0 dX12_carryRow_30 rfl rfl ?_
        refine gt_X12_133 hC (a := 74) (kk_74 hL) (kn_74 hL) dX12_carryRow_31 ?_
        refine g_ref (b := 112) rfl ?_
        refine g_aload_n hC 0 dX12_carryRow_34 rfl rfl ?_
        refine gt_X12_522 hC (x := x74) (kk_74 hL) (kn_74 hL) (ov_get hN 1 rfl rfl) dX12_carryRow_35 ?_
        refine g_aload_n hC 1 dX12_carryRow_38 rfl rfl ?_
        refine g_iload_n hC 2 dX12_carryRow_39 rfl rfl ?_
        obtain ⟨h_1, hf⟩ := gdE hf
        refine g_iald hC (x := xa) hk_a hn_a (ov_get hN 0 rfl rfl) (inb_in h_1) dX12_carryRow_40 ?_
        obtain ⟨h_2, hf⟩ := gdE hf
        refine g_iast hC (x := x112) (kk_112 hL) (kn_112 hL) (ov_get hN 2 rfl rfl) (inb_in h_2) (ov_set hN (by rfl) 2 (by rfl)) dX12_carryRow_41 ?_
        show gV l b0 D K (n, κ, ov X0 [a, 74, 112] [xa, x74, (upd x112 (x74 56).toNatClampNeg (xa v2.toNatClampNeg))], ov Y0 [] [], Z, 0, 0) 42 [(0, .ref (b0 + 74)), (1, .ref (b0 + a)), (2, .int v2)] []
        exact g_sub [0, 1, 2] rfl (wX12_carryRow_42 hL hk_a hn_a hN hM hC  hret hk2 hf)
      · replace hf := ifF hf hc
        refine g_aload_n hC 1 dX12_carryRow_15 rfl rfl ?_
        refine g_iload_n hC 2 dX12_carryRow_16 rfl rfl ?_
        refine g_aload_n hC 0 dX12_carryRow_17 rfl rfl ?_
        refine gt_X12_133 hC (a := 74) (kk_74 hL) (kn_74 hL) dX12_carryRow_18 ?_
        refine g_ref (b := 112) rfl ?_
        refine g_aload_n hC 0 dX12_carryRow_21 rfl rfl ?_
        refine gt_X12_522 hC (x := x74) (kk_74 hL) (kn_74 hL) (ov_get hN 1 rfl rfl) dX12_carryRow_22 ?_
        obtain ⟨h_3, hf⟩ := gdE hf
        refine g_iald hC (x := x112) (kk_112 hL) (kn_112 hL) (ov_get hN 2 rfl rfl) (inb_in h_3) dX12_carryRow_25 ?_
        obtain ⟨h_4, hf⟩ := gdE hf
        refine g_iast hC (x := xa) hk_a hn_a (ov_get hN 0 rfl rfl) (inb_in h_4) (ov_set hN (by rfl) 0 (by rfl)) dX12_carryRow_26 ?_
        show gV l b0 D K (n, κ, ov X0 [a, 74, 112] [(upd xa v2.toNatClampNeg (x112 (x74 56).toNatClampNeg)), x74, x112], ov Y0 [] [], Z, 0, 0) 27 [(0, .ref (b0 + 74)), (1, .ref (b0 + a)), (2, .int v2)] []
        refine g_goto hC 42 dX12_carryRow_27 (by decide) ?_
        exact g_sub [0, 1, 2] rfl (wX12_carryRow_42 hL hk_a hn_a hN hM hC  hret hk2 hf)

def fX12_carryRow_0  (L : Nat)   (xa : (Nat → Int32)) (x74 : (Nat → Int32)) (x112 : (Nat → Int32)) : Option ((Nat → Int32) × (Nat → Int32) × (Nat → Int32)) := fX12_carryRow_2 L  0 xa x74 x112
set_option maxHeartbeats 4000000 in
set_option maxRecDepth 100000 in
theorem wX12_carryRow_0 {l : Launch} {b0 : Nat} {D : GD} {K : KT} {n : Nat} {κ : QT} {X0 : XT} {Y0 : YT} {Z : ZT} {a : Nat} {L : Nat} (hL : LY n κ) (hk_a : κ a = (14, L)) (hn_a : a < n) (hN : ([a, 74, 112] : List Nat).Nodup) (hM : ([] : List Nat).Nodup) (hC : gC l b0 D K RX12 cX12_carryRow none 3 0 0 0 0) {rxa : (Nat → Int32)} {rx74 : (Nat → Int32)} {rx112 : (Nat → Int32)} (hret : ∀ pc loc, decode cX12_carryRow pc = .ok (.return_, 1) → gV l b0 D K (n, κ, ov X0 [a, 74, 112] [rxa, rx74, rx112], ov Y0 [] [], Z, 0, 0) pc loc []) {xa : (Nat → Int32)} {x74 : (Nat → Int32)} {x112 : (Nat → Int32)} (hf : fX12_carryRow_0 L  xa x74 x112 = some (rxa, rx74, rx112)) : gV l b0 D K (n, κ, ov X0 [a, 74, 112] [xa, x74, x112], ov Y0 [] [], Z, 0, 0) 0 [(0, .ref (b0 + 74)), (1, .ref (b0 + a))] [] := by
  unfold fX12_carryRow_0 at hf
  refine g_iconst hC (v := 0) dX12_carryRow_0 ic_0 ?_
  refine g_istore_n hC (i := 2) [(2, .int 0), (0, .ref (b0 + 74)), (1, .ref (b0 + a))] rfl dX12_carryRow_1 (by decide) rfl ?_
  exact g_sub [1, 2, 0] rfl (wX12_carryRow_2 hL hk_a hn_a hN hM hC  hret  5000 0 xa x74 x112 hf)

def fX12_carryRow  (L : Nat)    (xa : Nat → Int32) (x74 : Nat → Int32) (x112 : Nat → Int32)  : Option ((Nat → Int32) × (Nat → Int32) × (Nat → Int32)) := fX12_carryRow_0 L xa x74 x112

set_option maxHeartbeats 4000000 in
set_option maxRecDepth 100000 in
theorem c_X12_carryRow (l : Launch) {b0 : Nat} {D : GD} {n : Nat} {κ : QT} {X0 : XT} {Y0 : YT} {Z : ZT} {a : Nat} {L : Nat} (hL : LY n κ) (hk_a : κ a = (14, L)) (hn_a : a < n) (hN : ([a, 74, 112] : List Nat).Nodup) (hM : ([] : List Nat).Nodup) {xa : Nat → Int32} {x74 : Nat → Int32} {x112 : Nat → Int32} (hx : ([a, 74, 112] : List Nat).map X0 = [xa, x74, x112]) (hy : ([] : List Nat).map Y0 = []) {rxa : (Nat → Int32)} {rx74 : (Nat → Int32)} {rx112 : (Nat → Int32)} (hf : fX12_carryRow L xa x74 x112 = some (rxa, rx74, rx112)) : gMv l yX12_carryRow cX12_carryRow 3 none 0 0 0 0 b0 D [.ref (b0 + 74), .ref (b0 + a)] (n, κ, X0, Y0, Z) (n, κ, ov X0 [a, 74, 112] [rxa, rx74, rx112], ov Y0 [] [], Z) := by
  refine g_metv (own := RX12) (by decide) rfl rfl (Nat.le_of_ble_eq_true rfl) ?_
  intro K hC hret
  have e := wX12_carryRow_0 hL hk_a hn_a hN hM hC  hret hf
  rw [ov_id' hx, ov_id' hy] at e
  exact g_sub [0, 1] rfl e

-- X12_carriesAll
def fX12_carriesAll_0     (v1 : Int32) (v2 : Int32) (x74 : (Nat → Int32)) (x75 : (Nat → Int32)) (x76 : (Nat → Int32)) (x77 : (Nat → Int32)) (x78 : (Nat → Int32)) (x79 : (Nat → Int32)) (x80 : (Nat → Int32)) (x81 : (Nat → Int32)) (x82 : (Nat → Int32)) (x83 : (Nat → Int32)) (x84 : (Nat → Int32)) (x85 : (Nat → Int32)) (x102 : (Nat → Int32)) (x103 : (Nat → Int32)) (x112 : (Nat → Int32)) : Option ((Nat → Int32) × (Nat → Int32) × (Nat → Int32) × (Nat → Int32) × (Nat → Int32) × (Nat → Int32) × (Nat → Int32) × (Nat → Int32) × (Nat → Int32) × (Nat → Int32) × (Nat → Int32) × (Nat → Int32) × (Nat → Int32) × (Nat → Int32) × (Nat → Int32)) := gd (bz v2) (bd3 (fX12_carryRow 11 x75 (upd (upd x74 56 (1300 * v1)) 57 v2) x112) fun x75_2 x74_3 x112_4 => (bd3 (fX12_carryRow 6 x76 x74_3 x112_4) fun x76_6 x74_7 x112_8 => (bd3 (fX12_carryRow 6 x77 x74_7 x112_8) fun x77_10 x74_11 x112_12 => (bd3 (fX12_carryRow 36 x78 x74_11 x112_12) fun x78_14 x74_15 x112_16 => (if v1 = 4 then (some (x74_15, x75_2, x76_6, x77_10, x78_14, x79, x80, x81, x82, x83, x84, x85, x102, x103, x112_16)) else (gd (inb 0 1) (bd3 (fX12_carryRow 1 (upd x103 (0 : Int32).toNatClampNeg (x74_15 43)) x74_15 x112_16) fun x103_19 x74_20 x112_21 => (gd (inb 0 1) (bd3 (fX12_carryRow 12 x79 (upd x74_20 43 (x103_19 (0 : Int32).toNatClampNeg)) x112_21) fun x79_24 x74_25 x112_26 => (bd3 (fX12_carryRow 10 x80 x74_25 x112_26) fun x80_28 x74_29 x112_30 => (bd3 (fX12_carryRow 10 x81 x74_29 x112_30) fun x81_32 x74_33 x112_34 => (bd3 (fX12_carryRow 10 x82 x74_33 x112_34) fun x82_36 x74_37 x112_38 => (bd3 (fX12_carryRow 6 x83 x74_37 x112_38) fun x83_40 x74_41 x112_42 => (bd3 (fX12_carryRow 6 x84 x74_41 x112_42) fun x84_44 x74_45 x112_46 => (bd3 (fX12_carryRow 36 x85 x74_45 x112_46) fun x85_48 x74_49 x112_50 => (bd3 (fX12_carryRow 1020 x102 x74_49 x112_50) fun x102_52 x74_53 x112_54 => (some (x74_53, x75_2, x76_6, x77_10, x78_14, x79_24, x80_28, x81_32, x82_36, x83_40, x84_44, x85_48, x102_52, x103_19, x112_54))))))))))))))))))
set_option maxHeartbeats 4000000 in
set_option maxRecDepth 100000 in
theorem wX12_carriesAll_0 {l : Launch} {b0 : Nat} {D : GD} {K : KT} {n : Nat} {κ : QT} {X0 : XT} {Y0 : YT} {Z : ZT} (hL : LY n κ) (hN : ([74, 75, 76, 77, 78, 79, 80, 81, 82, 83, 84, 85, 102, 103, 112] : List Nat).Nodup) (hM : ([] : List Nat).Nodup) (hC : gC l b0 D K RX12 cX12_carriesAll none 3 1 22 0 0) {rx74 : (Nat → Int32)} {rx75 : (Nat → Int32)} {rx76 : (Nat → Int32)} {rx77 : (Nat → Int32)} {rx78 : (Nat → Int32)} {rx79 : (Nat → Int32)} {rx80 : (Nat → Int32)} {rx81 : (Nat → Int32)} {rx82 : (Nat → Int32)} {rx83 : (Nat → Int32)} {rx84 : (Nat → Int32)} {rx85 : (Nat → Int32)} {rx102 : (Nat → Int32)} {rx103 : (Nat → Int32)} {rx112 : (Nat → Int32)} (hret : ∀ pc loc, decode cX12_carriesAll pc = .ok (.return_, 1) → gV l b0 D K (n, κ, ov X0 [74, 75, 76, 77, 78, 79, 80, 81, 82, 83, 84, 85, 102, 103, 112] [rx74, rx75, rx76, rx77, rx78, rx79, rx80, rx81, rx82, rx83, rx84, rx85, rx102, rx103, rx112], ov Y0 [] [], Z, 0, 0) pc loc []) {v1 : Int32} {v2 : Int32} {x74 : (Nat → Int32)} {x75 : (Nat → Int32)} {x76 : (Nat → Int32)} {x77 : (Nat → Int32)} {x78 : (Nat → Int32)} {x79 : (Nat → Int32)} {x80 : (Nat → Int32)} {x81 : (Nat → Int32)} {x82 : (Nat → Int32)} {x83 : (Nat → Int32)} {x84 : (Nat → Int32)} {x85 : (Nat → Int32)} {x102 : (Nat → Int32)} {x103 : (Nat → Int32)} {x112 : (Nat → Int32)} (hf : fX12_carriesAll_0   v1 v2 x74 x75 x76 x77 x78 x79 x80 x81 x82 x83 x84 x85 x102 x103 x112 = some (rx74, rx75, rx76, rx77, rx78, rx79, rx80, rx81, rx82, rx83, rx84, rx85, rx102, rx103, rx112)) : gV l b0 D K (n, κ, ov X0 [74, 75, 76, 77, 78, 79, 80, 81, 82, 83, 84, 85, 102, 103, 112] [x74, x75, x76, x77, x78, x79, x80, x81, x82, x83, x84, x85, x102, x103, x112], ov Y0 [] [], Z, 0, 0) 0 [(0, .ref (b0 + 74)), (1, .int v1), (2, .int v2)] [] := by
  unfold fX12_carriesAll_0 at hf
  refine g_aload_n hC 0 dX12_carriesAll_0 rfl rfl ?_
  refine g_sipush hC (v := 1300) dX12_carriesAll_1 sp_1300 ?_
  refine g_iload_n hC 1 dX12_carriesAll_4 rfl rfl ?_
  refine g_imul hC dX12_carriesAll_5 ?_
  refine pt_X12_522 hC (x := x74) (kk_74 hL) (kn_74 hL) (ov_get hN 0 rfl rfl) (ov_set hN (by rfl) 0 (by rfl)) dX12_carriesAll_6 ?_
  show gV l b0 D K (n, κ, ov X0 [74, 75, 76, 77, 78, 79, 80, 81, 82, 83, 84, 85, 102, 103, 112] [(upd x74 56 (1300 * v1)), x75, x76, x77, x78, x79, x80, x81, x82, x83, x84, x85, x102, x103, x112], ov Y0 [] [], Z, 0, 0) 9 [(0, .ref (b0 + 74)), (1, .int v1), (2, .int v2)] []
  refine g_aload_n hC 0 dX12_carriesAll_9 rfl rfl ?_
  refine g_iload_n hC 2 dX12_carriesAll_10 rfl rfl ?_
  obtain ⟨h_1, hf⟩ := gdE hf
  refine pt_X12_519 hC (x := (upd x74 56 (1300 * v1))) h_1 (kk_74 hL) (kn_74 hL) (ov_get hN 0 rfl rfl) (ov_set hN (by rfl) 0 (by rfl)) dX12_carriesAll_11 ?_
  show gV l b0 D K (n, κ, ov X0 [74, 75, 76, 77, 78, 79, 80, 81, 82, 83, 84, 85, 102, 103, 112] [(upd (upd x74 56 (1300 * v1)) 57 v2), x75, x76, x77, x78, x79, x80, x81, x82, x83, x84, x85, x102, x103, x112], ov Y0 [] [], Z, 0, 0) 14 [(0, .ref (b0 + 74)), (1, .int v1), (2, .int v2)] []
  refine g_aload_n hC 0 dX12_carriesAll_14 rfl rfl ?_
  refine g_aload_n hC 0 dX12_carriesAll_15 rfl rfl ?_
  refine gt_X12_9 hC (a := 74) (kk_74 hL) (kn_74 hL) dX12_carriesAll_16 ?_
  refine g_ref (b := 75) rfl ?_
  obtain ⟨x75_2, x74_3, x112_4, q_5, hf⟩ := bd3E hf
  refine g_callV_v (a := 74) hC (X' := ov X0 [74, 75, 76, 77, 78, 79, 80, 81, 82, 83, 84, 85, 102, 103, 112] [x74_3, x75_2, x76, x77, x78, x79, x80, x81, x82, x83, x84, x85, x102, x103, x112_4]) (Y' := ov Y0 [] []) (As := [.ref (b0 + 75)]) (gMv_eq (c_X12_carryRow l hL (kk_75 hL) (kn_75 hL) (nd_sub hN [1, 0, 14] (by decide) (by rfl)) (nd_sub hM [] (by decide) (by rfl)) (ov_map hN [1, 0, 14] (by rfl) (by rfl)) (ov_map hM [] (by rfl) (by rfl)) q_5) (ov_ovE hN (by rfl) [1, 0, 14] [2, 3, 4, 5, 6, 7, 8, 9, 10, 11, 12, 13] (by rfl) (by rfl) [x76, x77, x78, x79, x80, x81, x82, x83, x84, x85, x102, x103] (by rfl) (by rfl) (by rfl) 15 (by rfl) (by decide)) (ov_ovE hM (by rfl) [] [] (by rfl) (by rfl) [] (by rfl) (by rfl) (by rfl) 0 (by rfl) (by decide))) tw_1681 tw_1678 tw_127 tw_1680 tw_99 (ci := 12) rfl (by decide) (kk_74 hL) (kn_74 hL) pd_X12_carryRow (by decide) (by decide) rfl rfl (Nat.le_of_ble_eq_true rfl) rfl dX12_carriesAll_19 ?_
  refine g_aload_n hC 0 dX12_carriesAll_22 rfl rfl ?_
  refine g_aload_n hC 0 dX12_carriesAll_23 rfl rfl ?_
  refine gt_X12_13 hC (a := 74) (kk_74 hL) (kn_74 hL) dX12_carriesAll_24 ?_
  refine g_ref (b := 76) rfl ?_
  obtain ⟨x76_6, x74_7, x112_8, q_9, hf⟩ := bd3E hf
  refine g_callV_v (a := 74) hC (X' := ov X0 [74, 75, 76, 77, 78, 79, 80, 81, 82, 83, 84, 85, 102, 103, 112] [x74_7, x75_2, x76_6, x77, x78, x79, x80, x81, x82, x83, x84, x85, x102, x103, x112_8]) (Y' := ov Y0 [] []) (As := [.ref (b0 + 76)]) (gMv_eq (c_X12_carryRow l hL (kk_76 hL) (kn_76 hL) (nd_sub hN [2, 0, 14] (by decide) (by rfl)) (nd_sub hM [] (by decide) (by rfl)) (ov_map hN [2, 0, 14] (by rfl) (by rfl)) (ov_map hM [] (by rfl) (by rfl)) q_9) (ov_ovE hN (by rfl) [2, 0, 14] [1, 3, 4, 5, 6, 7, 8, 9, 10, 11, 12, 13] (by rfl) (by rfl) [x75_2, x77, x78, x79, x80, x81, x82, x83, x84, x85, x102, x103] (by rfl) (by rfl) (by rfl) 15 (by rfl) (by decide)) (ov_ovE hM (by rfl) [] [] (by rfl) (by rfl) [] (by rfl) (by rfl) (by rfl) 0 (by rfl) (by decide))) tw_1681 tw_1678 tw_127 tw_1680 tw_99 (ci := 12) rfl (by decide) (kk_74 hL) (kn_74 hL) pd_X12_carryRow (by decide) (by decide) rfl rfl (Nat.le_of_ble_eq_true rfl) rfl dX12_carriesAll_27 ?_
  refine g_aload_n hC 0 dX12_carriesAll_30 rfl rfl ?_
  refine g_aload_n hC 0 dX12_carriesAll_31 rfl rfl ?_
  refine gt_X12_16 hC (a := 74) (kk_74 hL) (kn_74 hL) dX12_carriesAll_32 ?_
  refine g_ref (b := 77) rfl ?_
  obtain ⟨x77_10, x74_11, x112_12, q_13, hf⟩ := bd3E hf
  refine g_callV_v (a := 74) hC (X' := ov X0 [74, 75, 76, 77, 78, 79, 80, 81, 82, 83, 84, 85, 102, 103, 112] [x74_11, x75_2, x76_6, x77_10, x78, x79, x80, x81, x82, x83, x84, x85, x102, x103, x112_12]) (Y' := ov Y0 [] []) (As := [.ref (b0 + 77)]) (gMv_eq (c_X12_carryRow l hL (kk_77 hL) (kn_77 hL) (nd_sub hN [3, 0, 14] (by decide) (by rfl)) (nd_sub hM [] (by decide) (by rfl)) (ov_map hN [3, 0, 14] (by rfl) (by rfl)) (ov_map hM [] (by rfl) (by rfl)) q_13) (ov_ovE hN (by rfl) [3, 0, 14] [1, 2, 4, 5, 6, 7, 8, 9, 10, 11, 12, 13] (by rfl) (by rfl) [x75_2, x76_6, x78, x79, x80, x81, x82, x83, x84, x85, x102, x103] (by rfl) (by rfl) (by rfl) 15 (by rfl) (by decide)) (ov_ovE hM (by rfl) [] [] (by rfl) (by rfl) [] (by rfl) (by rfl) (by rfl) 0 (by rfl) (by decide))) tw_1681 tw_1678 tw_127 tw_1680 tw_99 (ci := 12) rfl (by decide) (kk_74 hL) (kn_74 hL) pd_X12_carryRow (by decide) (by decide) rfl rfl (Nat.le_of_ble_eq_true rfl) rfl dX12_carriesAll_35 ?_
  refine g_aload_n hC 0 dX12_carriesAll_38 rfl rfl ?_
  refine g_aload_n hC 0 dX12_carriesAll_39 rfl rfl ?_
  refine gt_X12_19 hC (a := 74) (kk_74 hL) (kn_74 hL) dX12_carriesAll_40 ?_
  refine g_ref (b := 78) rfl ?_
  obtain ⟨x78_14, x74_15, x112_16, q_17, hf⟩ := bd3E hf
  refine g_callV_v (a := 74) hC (X' := ov X0 [74, 75, 76, 77, 78, 79, 80, 81, 82, 83, 84, 85, 102, 103, 112] [x74_15, x75_2, x76_6, x77_10, x78_14, x79, x80, x81, x82, x83, x84, x85, x102, x103, x112_16]) (Y' := ov Y0 [] []) (As := [.ref (b0 + 78)]) (gMv_eq (c_X12_carryRow l hL (kk_78 hL) (kn_78 hL) (nd_sub hN [4, 0, 14] (by decide) (by rfl)) (nd_sub hM [] (by decide) (by rfl)) (ov_map hN [4, 0, 14] (by rfl) (by rfl)) (ov_map hM [] (by rfl) (by rfl)) q_17) (ov_ovE hN (by rfl) [4, 0, 14] [1, 2, 3, 5, 6, 7, 8, 9, 10, 11, 12, 13] (by rfl) (by rfl) [x75_2, x76_6, x77_10, x79, x80, x81, x82, x83, x84, x85, x102, x103] (by rfl) (by rfl) (by rfl) 15 (by rfl) (by decide)) (ov_ovE hM (by rfl) [] [] (by rfl) (by rfl) [] (by rfl) (by rfl) (by rfl) 0 (by rfl) (by decide))) tw_1681 tw_1678 tw_127 tw_1680 tw_99 (ci := 12) rfl (by decide) (kk_74 hL) (kn_74 hL) pd_X12_carryRow (by decide) (by decide) rfl rfl (Nat.le_of_ble_eq_true rfl) rfl dX12_carriesAll_43 ?_
  refine g_iload_n hC 1 dX12_carriesAll_46 rfl rfl ?_
  refine g_iconst hC (v := 4) dX12_carriesAll_47 ic_4 ?_
  refine g_icmp_ne hC 52 dX12_carriesAll_48 (by decide) (fun hc => ?_) (fun hc => ?_)
  · replace hf := ifF hf hc
    refine g_aload_n hC 0 dX12_carriesAll_52 rfl rfl ?_
    refine gt_X12_106 hC (a := 74) (kk_74 hL) (kn_74 hL) dX12_carriesAll_53 ?_
    refine g_ref (b := 103) rfl ?_
    refine g_iconst hC (v := 0) dX12_carriesAll_56 ic_0 ?_
    refine g_aload_n hC 0 dX12_carriesAll_57 rfl rfl ?_
    refine gt_X12_320 hC (x := x74_15) (kk_74 hL) (kn_74 hL) (ov_get hN 0 rfl rfl) dX12_carriesAll_58 ?_
    obtain ⟨h_18, hf⟩ := gdE hf
    refine g_iast hC (x := x103) (kk_103 hL) (kn_103 hL) (ov_get hN 13 rfl rfl) (inb_in h_18) (ov_set hN (by rfl) 13 (by rfl)) dX12_carriesAll_61 ?_
    show gV l b0 D K (n, κ, ov X0 [74, 75, 76, 77, 78, 79, 80, 81, 82, 83, 84, 85, 102, 103, 112] [x74_15, x75_2, x76_6, x77_10, x78_14, x79, x80, x81, x82, x83, x84, x85, x102, (upd x103 (0 : Int32).toNatClampNeg (x74_15 43)), x112_16], ov Y0 [] [], Z, 0, 0) 62 [(0, .ref (b0 + 74)), (1, .int v1), (2, .int v2)] []
    refine g_aload_n hC 0 dX12_carriesAll_62 rfl rfl ?_
    refine g_aload_n hC 0 dX12_carriesAll_63 rfl rfl ?_
    refine gt_X12_106 hC (a := 74) (kk_74 hL) (kn_74 hL) dX12_carriesAll_64 ?_
    refine g_ref (b := 103) rfl ?_
    obtain ⟨x103_19, x74_20, x112_21, q_22, hf⟩ := bd3E hf
    refine g_callV_v (a := 74) hC (X' := ov X0 [74, 75, 76, 77, 78, 79, 80, 81, 82, 83, 84, 85, 102, 103, 112] [x74_20, x75_2, x76_6, x77_10, x78_14, x79, x80, x81, x82, x83, x84, x85, x102, x103_19, x112_21]) (Y' := ov Y0 [] []) (As := [.ref (b0 + 103)]) (gMv_eq (c_X12_carryRow l hL (kk_103 hL) (kn_103 hL) (nd_sub hN [13, 0, 14] (by decide) (by rfl)) (nd_sub hM [] (by decide) (by rfl)) (ov_map hN [13, 0, 14] (by rfl) (by rfl)) (ov_map hM [] (by rfl) (by rfl)) q_22) (ov_ovE hN (by rfl) [13, 0, 14] [1, 2, 3, 4, 5, 6, 7, 8, 9, 10, 11, 12] (by rfl) (by rfl) [x75_2, x76_6, x77_10, x78_14, x79, x80, x81, x82, x83, x84, x85, x102] (by rfl) (by rfl) (by rfl) 15 (by rfl) (by decide)) (ov_ovE hM (by rfl) [] [] (by rfl) (by rfl) [] (by rfl) (by rfl) (by rfl) 0 (by rfl) (by decide))) tw_1681 tw_1678 tw_127 tw_1680 tw_99 (ci := 12) rfl (by decide) (kk_74 hL) (kn_74 hL) pd_X12_carryRow (by decide) (by decide) rfl rfl (Nat.le_of_ble_eq_true rfl) rfl dX12_carriesAll_67 ?_
    refine g_aload_n hC 0 dX12_carriesAll_70 rfl rfl ?_
    refine g_aload_n hC 0 dX12_carriesAll_71 rfl rfl ?_
    refine gt_X12_106 hC (a := 74) (kk_74 hL) (kn_74 hL) dX12_carriesAll_72 ?_
    refine g_ref (b := 103) rfl ?_
    refine g_iconst hC (v := 0) dX12_carriesAll_75 ic_0 ?_
    obtain ⟨h_23, hf⟩ := gdE hf
    refine g_iald hC (x := x103_19) (kk_103 hL) (kn_103 hL) (ov_get hN 13 rfl rfl) (inb_in h_23) dX12_carriesAll_76 ?_
    refine pt_X12_320 hC (x := x74_20) (kk_74 hL) (kn_74 hL) (ov_get hN 0 rfl rfl) (ov_set hN (by rfl) 0 (by rfl)) dX12_carriesAll_77 ?_
    show gV l b0 D K (n, κ, ov X0 [74, 75, 76, 77, 78, 79, 80, 81, 82, 83, 84, 85, 102, 103, 112] [(upd x74_20 43 (x103_19 (0 : Int32).toNatClampNeg)), x75_2, x76_6, x77_10, x78_14, x79, x80, x81, x82, x83, x84, x85, x102, x103_19, x112_21], ov Y0 [] [], Z, 0, 0) 80 [(0, .ref (b0 + 74)), (1, .int v1), (2, .int v2)] []
    refine g_aload_n hC 0 dX12_carriesAll_80 rfl rfl ?_
    refine g_aload_n hC 0 dX12_carriesAll_81 rfl rfl ?_
    refine gt_X12_22 hC (a := 74) (kk_74 hL) (kn_74 hL) dX12_carriesAll_82 ?_
    refine g_ref (b := 79) rfl ?_
    obtain ⟨x79_24, x74_25, x112_26, q_27, hf⟩ := bd3E hf
    refine g_callV_v (a := 74) hC (X' := ov X0 [74, 75, 76, 77, 78, 79, 80, 81, 82, 83, 84, 85, 102, 103, 112] [x74_25, x75_2, x76_6, x77_10, x78_14, x79_24, x80, x81, x82, x83, x84, x85, x102, x103_19, x112_26]) (Y' := ov Y0 [] []) (As := [.ref (b0 + 79)]) (gMv_eq (c_X12_carryRow l hL (kk_79 hL) (kn_79 hL) (nd_sub hN [5, 0, 14] (by decide) (by rfl)) (nd_sub hM [] (by decide) (by rfl)) (ov_map hN [5, 0, 14] (by rfl) (by rfl)) (ov_map hM [] (by rfl) (by rfl)) q_27) (ov_ovE hN (by rfl) [5, 0, 14] [1, 2, 3, 4, 6, 7, 8, 9, 10, 11, 12, 13] (by rfl) (by rfl) [x75_2, x76_6, x77_10, x78_14, x80, x81, x82, x83, x84, x85, x102, x103_19] (by rfl) (by rfl) (by rfl) 15 (by rfl) (by decide)) (ov_ovE hM (by rfl) [] [] (by rfl) (by rfl) [] (by rfl) (by rfl) (by rfl) 0 (by rfl) (by decide))) tw_1681 tw_1678 tw_127 tw_1680 tw_99 (ci := 12) rfl (by decide) (kk_74 hL) (kn_74 hL) pd_X12_carryRow (by decide) (by decide) rfl rfl (Nat.le_of_ble_eq_true rfl) rfl dX12_carriesAll_85 ?_
    refine g_aload_n hC 0 dX12_carriesAll_88 rfl rfl ?_
    refine g_aload_n hC 0 dX12_carriesAll_89 rfl rfl ?_
    refine gt_X12_25 hC (a := 74) (kk_74 hL) (kn_74 hL) dX12_carriesAll_90 ?_
    refine g_ref (b := 80) rfl ?_
    obtain ⟨x80_28, x74_29, x112_30, q_31, hf⟩ := bd3E hf
    refine g_callV_v (a := 74) hC (X' := ov X0 [74, 75, 76, 77, 78, 79, 80, 81, 82, 83, 84, 85, 102, 103, 112] [x74_29, x75_2, x76_6, x77_10, x78_14, x79_24, x80_28, x81, x82, x83, x84, x85, x102, x103_19, x112_30]) (Y' := ov Y0 [] []) (As := [.ref (b0 + 80)]) (gMv_eq (c_X12_carryRow l hL (kk_80 hL) (kn_80 hL) (nd_sub hN [6, 0, 14] (by decide) (by rfl)) (nd_sub hM [] (by decide) (by rfl)) (ov_map hN [6, 0, 14] (by rfl) (by rfl)) (ov_map hM [] (by rfl) (by rfl)) q_31) (ov_ovE hN (by rfl) [6, 0, 14] [1, 2, 3, 4, 5, 7, 8, 9, 10, 11, 12, 13] (by rfl) (by rfl) [x75_2, x76_6, x77_10, x78_14, x79_24, x81, x82, x83, x84, x85, x102, x103_19] (by rfl) (by rfl) (by rfl) 15 (by rfl) (by decide)) (ov_ovE hM (by rfl) [] [] (by rfl) (by rfl) [] (by rfl) (by rfl) (by rfl) 0 (by rfl) (by decide))) tw_1681 tw_1678 tw_127 tw_1680 tw_99 (ci := 12) rfl (by decide) (kk_74 hL) (kn_74 hL) pd_X12_carryRow (by decide) (by decide) rfl rfl (Nat.le_of_ble_eq_true rfl) rfl dX12_carriesAll_93 ?_
    refine g_aload_n hC 0 dX12_carriesAll_96 rfl rfl ?_
    refine g_aload_n hC 0 dX12_carriesAll_97 rfl rfl ?_
    refine gt_X12_28 hC (a := 74) (kk_74 hL) (kn_74 hL) dX12_carriesAll_98 ?_
    refine g_ref (b := 81) rfl ?_
    obtain ⟨x81_32, x74_33, x112_34, q_35, hf⟩ := bd3E hf
    refine g_callV_v (a := 74) hC (X' := ov X0 [74, 75, 76, 77, 78, 79, 80, 81, 82, 83, 84, 85, 102, 103, 112] [x74_33, x75_2, x76_6, x77_10, x78_14, x79_24, x80_28, x81_32, x82, x83, x84, x85, x102, x103_19, x112_34]) (Y' := ov Y0 [] []) (As := [.ref (b0 + 81)]) (gMv_eq (c_X12_carryRow l hL (kk_81 hL) (kn_81 hL) (nd_sub hN [7, 0, 14] (by decide) (by rfl)) (nd_sub hM [] (by decide) (by rfl)) (ov_map hN [7, 0, 14] (by rfl) (by rfl)) (ov_map hM [] (by rfl) (by rfl)) q_35) (ov_ovE hN (by rfl) [7, 0, 14] [1, 2, 3, 4, 5, 6, 8, 9, 10, 11, 12, 13] (by rfl) (by rfl) [x75_2, x76_6, x77_10, x78_14, x79_24, x80_28, x82, x83, x84, x85, x102, x103_19] (by rfl) (by rfl) (by rfl) 15 (by rfl) (by decide)) (ov_ovE hM (by rfl) [] [] (by rfl) (by rfl) [] (by rfl) (by rfl) (by rfl) 0 (by rfl) (by decide))) tw_1681 tw_1678 tw_127 tw_1680 tw_99 (ci := 12) rfl (by decide) (kk_74 hL) (kn_74 hL) pd_X12_carryRow (by decide) (by decide) rfl rfl (Nat.le_of_ble_eq_true rfl) rfl dX12_carriesAll_101 ?_
    refine g_aload_n hC 0 dX12_carriesAll_104 rfl rfl ?_
    refine g_aload_n hC 0 dX12_carriesAll_105 rfl rfl ?_
    refine gt_X12_31 hC (a := 74) (kk_74 hL) (kn_74 hL) dX12_carriesAll_106 ?_
    refine g_ref (b := 82) rfl ?_
    obtain ⟨x82_36, x74_37, x112_38, q_39, hf⟩ := bd3E hf
    refine g_callV_v (a := 74) hC (X' := ov X0 [74, 75, 76, 77, 78, 79, 80, 81, 82, 83, 84, 85, 102, 103, 112] [x74_37, x75_2, x76_6, x77_10, x78_14, x79_24, x80_28, x81_32, x82_36, x83, x84, x85, x102, x103_19, x112_38]) (Y' := ov Y0 [] []) (As := [.ref (b0 + 82)]) (gMv_eq (c_X12_carryRow l hL (kk_82 hL) (kn_82 hL) (nd_sub hN [8, 0, 14] (by decide) (by rfl)) (nd_sub hM [] (by decide) (by rfl)) (ov_map hN [8, 0, 14] (by rfl) (by rfl)) (ov_map hM [] (by rfl) (by rfl)) q_39) (ov_ovE hN (by rfl) [8, 0, 14] [1, 2, 3, 4, 5, 6, 7, 9, 10, 11, 12, 13] (by rfl) (by rfl) [x75_2, x76_6, x77_10, x78_14, x79_24, x80_28, x81_32, x83, x84, x85, x102, x103_19] (by rfl) (by rfl) (by rfl) 15 (by rfl) (by decide)) (ov_ovE hM (by rfl) [] [] (by rfl) (by rfl) [] (by rfl) (by rfl) (by rfl) 0 (by rfl) (by decide))) tw_1681 tw_1678 tw_127 tw_1680 tw_99 (ci := 12) rfl (by decide) (kk_74 hL) (kn_74 hL) pd_X12_carryRow (by decide) (by decide) rfl rfl (Nat.le_of_ble_eq_true rfl) rfl dX12_carriesAll_109 ?_
    refine g_aload_n hC 0 dX12_carriesAll_112 rfl rfl ?_
    refine g_aload_n hC 0 dX12_carriesAll_113 rfl rfl ?_
    refine gt_X12_34 hC (a := 74) (kk_74 hL) (kn_74 hL) dX12_carriesAll_114 ?_
    refine g_ref (b := 83) rfl ?_
    obtain ⟨x83_40, x74_41, x112_42, q_43, hf⟩ := bd3E hf
    refine g_callV_v (a := 74) hC (X' := ov X0 [74, 75, 76, 77, 78, 79, 80, 81, 82, 83, 84, 85, 102, 103, 112] [x74_41, x75_2, x76_6, x77_10, x78_14, x79_24, x80_28, x81_32, x82_36, x83_40, x84, x85, x102, x103_19, x112_42]) (Y' := ov Y0 [] []) (As := [.ref (b0 + 83)]) (gMv_eq (c_X12_carryRow l hL (kk_83 hL) (kn_83 hL) (nd_sub hN [9, 0, 14] (by decide) (by rfl)) (nd_sub hM [] (by decide) (by rfl)) (ov_map hN [9, 0, 14] (by rfl) (by rfl)) (ov_map hM [] (by rfl) (by rfl)) q_43) (ov_ovE hN (by rfl) [9, 0, 14] [1, 2, 3, 4, 5, 6, 7, 8, 10, 11, 12, 13] (by rfl) (by rfl) [x75_2, x76_6, x77_10, x78_14, x79_24, x80_28, x81_32, x82_36, x84, x85, x102, x103_19] (by rfl) (by rfl) (by rfl) 15 (by rfl) (by decide)) (ov_ovE hM (by rfl) [] [] (by rfl) (by rfl) [] (by rfl) (by rfl) (by rfl) 0 (by rfl) (by decide))) tw_1681 tw_1678 tw_127 tw_1680 tw_99 (ci := 12) rfl (by decide) (kk_74 hL) (kn_74 hL) pd_X12_carryRow (by decide) (by decide) rfl rfl (Nat.le_of_ble_eq_true rfl) rfl dX12_carriesAll_117 ?_
    refine g_aload_n hC 0 dX12_carriesAll_120 rfl rfl ?_
    refine g_aload_n hC 0 dX12_carriesAll_121 rfl rfl ?_
    refine gt_X12_37 hC (a := 74) (kk_74 hL) (kn_74 hL) dX12_carriesAll_122 ?_
    refine g_ref (b := 84) rfl ?_
    obtain ⟨x84_44, x74_45, x112_46, q_47, hf⟩ := bd3E hf
    refine g_callV_v (a := 74) hC (X' := ov X0 [74, 75, 76, 77, 78, 79, 80, 81, 82, 83, 84, 85, 102, 103, 112] [x74_45, x75_2, x76_6, x77_10, x78_14, x79_24, x80_28, x81_32, x82_36, x83_40, x84_44, x85, x102, x103_19, x112_46]) (Y' := ov Y0 [] []) (As := [.ref (b0 + 84)]) (gMv_eq (c_X12_carryRow l hL (kk_84 hL) (kn_84 hL) (nd_sub hN [10, 0, 14] (by decide) (by rfl)) (nd_sub hM [] (by decide) (by rfl)) (ov_map hN [10, 0, 14] (by rfl) (by rfl)) (ov_map hM [] (by rfl) (by rfl)) q_47) (ov_ovE hN (by rfl) [10, 0, 14] [1, 2, 3, 4, 5, 6, 7, 8, 9, 11, 12, 13] (by rfl) (by rfl) [x75_2, x76_6, x77_10, x78_14, x79_24, x80_28, x81_32, x82_36, x83_40, x85, x102, x103_19] (by rfl) (by rfl) (by rfl) 15 (by rfl) (by decide)) (ov_ovE hM (by rfl) [] [] (by rfl) (by rfl) [] (by rfl) (by rfl) (by rfl) 0 (by rfl) (by decide))) tw_1681 tw_1678 tw_127 tw_1680 tw_99 (ci := 12) rfl (by decide) (kk_74 hL) (kn_74 hL) pd_X12_carryRow (by decide) (by decide) rfl rfl (Nat.le_of_ble_eq_true rfl) rfl dX12_carriesAll_125 ?_
    refine g_aload_n hC 0 dX12_carriesAll_128 rfl rfl ?_
    refine g_aload_n hC 0 dX12_carriesAll_129 rfl rfl ?_
    refine gt_X12_40 hC (a := 74) (kk_74 hL) (kn_74 hL) dX12_carriesAll_130 ?_
    refine g_ref (b := 85) rfl ?_
    obtain ⟨x85_48, x74_49, x112_50, q_51, hf⟩ := bd3E hf
    refine g_callV_v (a := 74) hC (X' := ov X0 [74, 75, 76, 77, 78, 79, 80, 81, 82, 83, 84, 85, 102, 103, 112] [x74_49, x75_2, x76_6, x77_10, x78_14, x79_24, x80_28, x81_32, x82_36, x83_40, x84_44, x85_48, x102, x103_19, x112_50]) (Y' := ov Y0 [] []) (As := [.ref (b0 + 85)]) (gMv_eq (c_X12_carryRow l hL (kk_85 hL) (kn_85 hL) (nd_sub hN [11, 0, 14] (by decide) (by rfl)) (nd_sub hM [] (by decide) (by rfl)) (ov_map hN [11, 0, 14] (by rfl) (by rfl)) (ov_map hM [] (by rfl) (by rfl)) q_51) (ov_ovE hN (by rfl) [11, 0, 14] [1, 2, 3, 4, 5, 6, 7, 8, 9, 10, 12, 13] (by rfl) (by rfl) [x75_2, x76_6, x77_10, x78_14, x79_24, x80_28, x81_32, x82_36, x83_40, x84_44, x102, x103_19] (by rfl) (by rfl) (by rfl) 15 (by rfl) (by decide)) (ov_ovE hM (by rfl) [] [] (by rfl) (by rfl) [] (by rfl) (by rfl) (by rfl) 0 (by rfl) (by decide))) tw_1681 tw_1678 tw_127 tw_1680 tw_99 (ci := 12) rfl (by decide) (kk_74 hL) (kn_74 hL) pd_X12_carryRow (by decide) (by decide) rfl rfl (Nat.le_of_ble_eq_true rfl) rfl dX12_carriesAll_133 ?_
    refine g_aload_n hC 0 dX12_carriesAll_136 rfl rfl ?_
    refine g_aload_n hC 0 dX12_carriesAll_137 rfl rfl ?_
    refine gt_X12_103 hC (a := 74) (kk_74 hL) (kn_74 hL) dX12_carriesAll_138 ?_
    refine g_ref (b := 102) rfl ?_
    obtain ⟨x102_52, x74_53, x112_54, q_55, hf⟩ := bd3E hf
    refine g_callV_v (a := 74) hC (X' := ov X0 [74, 75, 76, 77, 78, 79, 80, 81, 82, 83, 84, 85, 102, 103, 112] [x74_53, x75_2, x76_6, x77_10, x78_14, x79_24, x80_28, x81_32, x82_36, x83_40, x84_44, x85_48, x102_52, x103_19, x112_54]) (Y' := ov Y0 [] []) (As := [.ref (b0 + 102)]) (gMv_eq (c_X12_carryRow l hL (kk_102 hL) (kn_102 hL) (nd_sub hN [12, 0, 14] (by decide) (by rfl)) (nd_sub hM [] (by decide) (by rfl)) (ov_map hN [12, 0, 14] (by rfl) (by rfl)) (ov_map hM [] (by rfl) (by rfl)) q_55) (ov_ovE hN (by rfl) [12, 0, 14] [1, 2, 3, 4, 5, 6, 7, 8, 9, 10, 11, 13] (by rfl) (by rfl) [x75_2, x76_6, x77_10, x78_14, x79_24, x80_28, x81_32, x82_36, x83_40, x84_44, x85_48, x103_19] (by rfl) (by rfl) (by rfl) 15 (by rfl) (by decide)) (ov_ovE hM (by rfl) [] [] (by rfl) (by rfl) [] (by rfl) (by rfl) (by rfl) 0 (by rfl) (by decide))) tw_1681 tw_1678 tw_127 tw_1680 tw_99 (ci := 12) rfl (by decide) (kk_74 hL) (kn_74 hL) pd_X12_carryRow (by decide) (by decide) rfl rfl (Nat.le_of_ble_eq_true rfl) rfl dX12_carriesAll_141 ?_
    obtain ⟨rfl, rfl, rfl, rfl, rfl, rfl, rfl, rfl, rfl, rfl, rfl, rfl, rfl, rfl, rfl⟩ := sm15E hf
    exact hret _ _ dX12_carriesAll_144
  · replace hf := ifT hf hc
    obtain ⟨rfl, rfl, rfl, rfl, rfl, rfl, rfl, rfl, rfl, rfl, rfl, rfl, rfl, rfl, rfl⟩ := sm15E hf
    exact hret _ _ dX12_carriesAll_51

def fX12_carriesAll     (v1 : Int32) (v2 : Int32) (x74 : Nat → Int32) (x75 : Nat → Int32) (x76 : Nat → Int32) (x77 : Nat → Int32) (x78 : Nat → Int32) (x79 : Nat → Int32) (x80 : Nat → Int32) (x81 : Nat → Int32) (x82 : Nat → Int32) (x83 : Nat → Int32) (x84 : Nat → Int32) (x85 : Nat → Int32) (x102 : Nat → Int32) (x103 : Nat → Int32) (x112 : Nat → Int32)  : Option ((Nat → Int32) × (Nat → Int32) × (Nat → Int32) × (Nat → Int32) × (Nat → Int32) × (Nat → Int32) × (Nat → Int32) × (Nat → Int32) × (Nat → Int32) × (Nat → Int32) × (Nat → Int32) × (Nat → Int32) × (Nat → Int32) × (Nat → Int32) × (Nat → Int32)) := fX12_carriesAll_0  v1 v2 x74 x75 x76 x77 x78 x79 x80 x81 x82 x83 x84 x85 x102 x103 x112

set_option maxHeartbeats 4000000 in
set_option maxRecDepth 100000 in
theorem c_X12_carriesAll (l : Launch) {b0 : Nat} {D : GD} {n : Nat} {κ : QT} {X0 : XT} {Y0 : YT} {Z : ZT} (hL : LY n κ) {x74 : Nat → Int32} {x75 : Nat → Int32} {x76 : Nat → Int32} {x77 : Nat → Int32} {x78 : Nat → Int32} {x79 : Nat → Int32} {x80 : Nat → Int32} {x81 : Nat → Int32} {x82 : Nat → Int32} {x83 : Nat → Int32} {x84 : Nat → Int32} {x85 : Nat → Int32} {x102 : Nat → Int32} {x103 : Nat → Int32} {x112 : Nat → Int32} (hx : ([74, 75, 76, 77, 78, 79, 80, 81, 82, 83, 84, 85, 102, 103, 112] : List Nat).map X0 = [x74, x75, x76, x77, x78, x79, x80, x81, x82, x83, x84, x85, x102, x103, x112]) (hy : ([] : List Nat).map Y0 = []) {v1 : Int32} {v2 : Int32} {rx74 : (Nat → Int32)} {rx75 : (Nat → Int32)} {rx76 : (Nat → Int32)} {rx77 : (Nat → Int32)} {rx78 : (Nat → Int32)} {rx79 : (Nat → Int32)} {rx80 : (Nat → Int32)} {rx81 : (Nat → Int32)} {rx82 : (Nat → Int32)} {rx83 : (Nat → Int32)} {rx84 : (Nat → Int32)} {rx85 : (Nat → Int32)} {rx102 : (Nat → Int32)} {rx103 : (Nat → Int32)} {rx112 : (Nat → Int32)} (hf : fX12_carriesAll  v1 v2 x74 x75 x76 x77 x78 x79 x80 x81 x82 x83 x84 x85 x102 x103 x112 = some (rx74, rx75, rx76, rx77, rx78, rx79, rx80, rx81, rx82, rx83, rx84, rx85, rx102, rx103, rx112)) : gMv l yX12_carriesAll cX12_carriesAll 3 none 1 22 0 0 b0 D [.ref (b0 + 74), .int v1, .int v2] (n, κ, X0, Y0, Z) (n, κ, ov X0 [74, 75, 76, 77, 78, 79, 80, 81, 82, 83, 84, 85, 102, 103, 112] [rx74, rx75, rx76, rx77, rx78, rx79, rx80, rx81, rx82, rx83, rx84, rx85, rx102, rx103, rx112], ov Y0 [] [], Z) := by
  have hN : ([74, 75, 76, 77, 78, 79, 80, 81, 82, 83, 84, 85, 102, 103, 112] : List Nat).Nodup := by decide
  have hM : ([] : List Nat).Nodup := by decide
  refine g_metv (own := RX12) (by decide) rfl rfl (Nat.le_of_ble_eq_true rfl) ?_
  intro K hC hret
  have e := wX12_carriesAll_0 hL hN hM hC  hret hf
  rw [ov_id' hx, ov_id' hy] at e
  exact g_sub [0, 1, 2] rfl e

-- X12_carriesAll
def fX12_carriesAllK_0     (x74 : (Nat → Int32)) (x75 : (Nat → Int32)) (x76 : (Nat → Int32)) (x77 : (Nat → Int32)) (x78 : (Nat → Int32)) (x112 : (Nat → Int32)) : Option ((Nat → Int32) × (Nat → Int32) × (Nat → Int32) × (Nat → Int32) × (Nat → Int32) × (Nat → Int32)) := bd3 (fX12_carryRow 11 x75 (upd (upd x74 56 (1300 * 4)) 57 0) x112) fun x75_1 x74_2 x112_3 => (bd3 (fX12_carryRow 6 x76 x74_2 x112_3) fun x76_5 x74_6 x112_7 => (bd3 (fX12_carryRow 6 x77 x74_6 x112_7) fun x77_9 x74_10 x112_11 => (bd3 (fX12_carryRow 36 x78 x74_10 x112_11) fun x78_13 x74_14 x112_15 => (some (x74_14, x75_1, x76_5, x77_9, x78_13, x112_15)))))
set_option maxHeartbeats 4000000 in
set_option maxRecDepth 100000 in
theorem wX12_carriesAllK_0 {l : Launch} {b0 : Nat} {D : GD} {K : KT} {n : Nat} {κ : QT} {X0 : XT} {Y0 : YT} {Z : ZT} (hL : LY n κ) (hN : ([74, 75, 76, 77, 78, 112] : List Nat).Nodup) (hM : ([] : List Nat).Nodup) (hC : gC l b0 D K RX12 cX12_carriesAll none 3 1 22 0 0) {rx74 : (Nat → Int32)} {rx75 : (Nat → Int32)} {rx76 : (Nat → Int32)} {rx77 : (Nat → Int32)} {rx78 : (Nat → Int32)} {rx112 : (Nat → Int32)} (hret : ∀ pc loc, decode cX12_carriesAll pc = .ok (.return_, 1) → gV l b0 D K (n, κ, ov X0 [74, 75, 76, 77, 78, 112] [rx74, rx75, rx76, rx77, rx78, rx112], ov Y0 [] [], Z, 0, 0) pc loc []) {x74 : (Nat → Int32)} {x75 : (Nat → Int32)} {x76 : (Nat → Int32)} {x77 : (Nat → Int32)} {x78 : (Nat → Int32)} {x112 : (Nat → Int32)} (hf : fX12_carriesAllK_0   x74 x75 x76 x77 x78 x112 = some (rx74, rx75, rx76, rx77, rx78, rx112)) : gV l b0 D K (n, κ, ov X0 [74, 75, 76, 77, 78, 112] [x74, x75, x76, x77, x78, x112], ov Y0 [] [], Z, 0, 0) 0 [(0, .ref (b0 + 74)), (1, .int 4), (2, .int 0)] [] := by
  unfold fX12_carriesAllK_0 at hf
  refine g_aload_n hC 0 dX12_carriesAll_0 rfl rfl ?_
  refine g_sipush hC (v := 1300) dX12_carriesAll_1 sp_1300 ?_
  refine g_iload_n hC 1 dX12_carriesAll_4 rfl rfl ?_
  refine g_imul hC dX12_carriesAll_5 ?_
  refine pt_X12_522 hC (x := x74) (kk_74 hL) (kn_74 hL) (ov_get hN 0 rfl rfl) (ov_set hN (by rfl) 0 (by rfl)) dX12_carriesAll_6 ?_
  show gV l b0 D K (n, κ, ov X0 [74, 75, 76, 77, 78, 112] [(upd x74 56 (1300 * 4)), x75, x76, x77, x78, x112], ov Y0 [] [], Z, 0, 0) 9 [(0, .ref (b0 + 74)), (1, .int 4), (2, .int 0)] []
  refine g_aload_n hC 0 dX12_carriesAll_9 rfl rfl ?_
  refine g_iload_n hC 2 dX12_carriesAll_10 rfl rfl ?_
  refine pt_X12_519 hC (x := (upd x74 56 (1300 * 4))) rfl (kk_74 hL) (kn_74 hL) (ov_get hN 0 rfl rfl) (ov_set hN (by rfl) 0 (by rfl)) dX12_carriesAll_11 ?_
  show gV l b0 D K (n, κ, ov X0 [74, 75, 76, 77, 78, 112] [(upd (upd x74 56 (1300 * 4)) 57 0), x75, x76, x77, x78, x112], ov Y0 [] [], Z, 0, 0) 14 [(0, .ref (b0 + 74)), (1, .int 4), (2, .int 0)] []
  refine g_aload_n hC 0 dX12_carriesAll_14 rfl rfl ?_
  refine g_aload_n hC 0 dX12_carriesAll_15 rfl rfl ?_
  refine gt_X12_9 hC (a := 74) (kk_74 hL) (kn_74 hL) dX12_carriesAll_16 ?_
  refine g_ref (b := 75) rfl ?_
  obtain ⟨x75_1, x74_2, x112_3, q_4, hf⟩ := bd3E hf
  refine g_callV_v (a := 74) hC (X' := ov X0 [74, 75, 76, 77, 78, 112] [x74_2, x75_1, x76, x77, x78, x112_3]) (Y' := ov Y0 [] []) (As := [.ref (b0 + 75)]) (gMv_eq (c_X12_carryRow l hL (kk_75 hL) (kn_75 hL) (nd_sub hN [1, 0, 5] (by decide) (by rfl)) (nd_sub hM [] (by decide) (by rfl)) (ov_map hN [1, 0, 5] (by rfl) (by rfl)) (ov_map hM [] (by rfl) (by rfl)) q_4) (ov_ovE hN (by rfl) [1, 0, 5] [2, 3, 4] (by rfl) (by rfl) [x76, x77, x78] (by rfl) (by rfl) (by rfl) 6 (by rfl) (by decide)) (ov_ovE hM (by rfl) [] [] (by rfl) (by rfl) [] (by rfl) (by rfl) (by rfl) 0 (by rfl) (by decide))) tw_1681 tw_1678 tw_127 tw_1680 tw_99 (ci := 12) rfl (by decide) (kk_74 hL) (kn_74 hL) pd_X12_carryRow (by decide) (by decide) rfl rfl (Nat.le_of_ble_eq_true rfl) rfl dX12_carriesAll_19 ?_
  refine g_aload_n hC 0 dX12_carriesAll_22 rfl rfl ?_
  refine g_aload_n hC 0 dX12_carriesAll_23 rfl rfl ?_
  refine gt_X12_13 hC (a := 74) (kk_74 hL) (kn_74 hL) dX12_carriesAll_24 ?_
  refine g_ref (b := 76) rfl ?_
  obtain ⟨x76_5, x74_6, x112_7, q_8, hf⟩ := bd3E hf
  refine g_callV_v (a := 74) hC (X' := ov X0 [74, 75, 76, 77, 78, 112] [x74_6, x75_1, x76_5, x77, x78, x112_7]) (Y' := ov Y0 [] []) (As := [.ref (b0 + 76)]) (gMv_eq (c_X12_carryRow l hL (kk_76 hL) (kn_76 hL) (nd_sub hN [2, 0, 5] (by decide) (by rfl)) (nd_sub hM [] (by decide) (by rfl)) (ov_map hN [2, 0, 5] (by rfl) (by rfl)) (ov_map hM [] (by rfl) (by rfl)) q_8) (ov_ovE hN (by rfl) [2, 0, 5] [1, 3, 4] (by rfl) (by rfl) [x75_1, x77, x78] (by rfl) (by rfl) (by rfl) 6 (by rfl) (by decide)) (ov_ovE hM (by rfl) [] [] (by rfl) (by rfl) [] (by rfl) (by rfl) (by rfl) 0 (by rfl) (by decide))) tw_1681 tw_1678 tw_127 tw_1680 tw_99 (ci := 12) rfl (by decide) (kk_74 hL) (kn_74 hL) pd_X12_carryRow (by decide) (by decide) rfl rfl (Nat.le_of_ble_eq_true rfl) rfl dX12_carriesAll_27 ?_
  refine g_aload_n hC 0 dX12_carriesAll_30 rfl rfl ?_
  refine g_aload_n hC 0 dX12_carriesAll_31 rfl rfl ?_
  refine gt_X12_16 hC (a := 74) (kk_74 hL) (kn_74 hL) dX12_carriesAll_32 ?_
  refine g_ref (b := 77) rfl ?_
  obtain ⟨x77_9, x74_10, x112_11, q_12, hf⟩ := bd3E hf
  refine g_callV_v (a := 74) hC (X' := ov X0 [74, 75, 76, 77, 78, 112] [x74_10, x75_1, x76_5, x77_9, x78, x112_11]) (Y' := ov Y0 [] []) (As := [.ref (b0 + 77)]) (gMv_eq (c_X12_carryRow l hL (kk_77 hL) (kn_77 hL) (nd_sub hN [3, 0, 5] (by decide) (by rfl)) (nd_sub hM [] (by decide) (by rfl)) (ov_map hN [3, 0, 5] (by rfl) (by rfl)) (ov_map hM [] (by rfl) (by rfl)) q_12) (ov_ovE hN (by rfl) [3, 0, 5] [1, 2, 4] (by rfl) (by rfl) [x75_1, x76_5, x78] (by rfl) (by rfl) (by rfl) 6 (by rfl) (by decide)) (ov_ovE hM (by rfl) [] [] (by rfl) (by rfl) [] (by rfl) (by rfl) (by rfl) 0 (by rfl) (by decide))) tw_1681 tw_1678 tw_127 tw_1680 tw_99 (ci := 12) rfl (by decide) (kk_74 hL) (kn_74 hL) pd_X12_carryRow (by decide) (by decide) rfl rfl (Nat.le_of_ble_eq_true rfl) rfl dX12_carriesAll_35 ?_
  refine g_aload_n hC 0 dX12_carriesAll_38 rfl rfl ?_
  refine g_aload_n hC 0 dX12_carriesAll_39 rfl rfl ?_
  refine gt_X12_19 hC (a := 74) (kk_74 hL) (kn_74 hL) dX12_carriesAll_40 ?_
  refine g_ref (b := 78) rfl ?_
  obtain ⟨x78_13, x74_14, x112_15, q_16, hf⟩ := bd3E hf
  refine g_callV_v (a := 74) hC (X' := ov X0 [74, 75, 76, 77, 78, 112] [x74_14, x75_1, x76_5, x77_9, x78_13, x112_15]) (Y' := ov Y0 [] []) (As := [.ref (b0 + 78)]) (gMv_eq (c_X12_carryRow l hL (kk_78 hL) (kn_78 hL) (nd_sub hN [4, 0, 5] (by decide) (by rfl)) (nd_sub hM [] (by decide) (by rfl)) (ov_map hN [4, 0, 5] (by rfl) (by rfl)) (ov_map hM [] (by rfl) (by rfl)) q_16) (ov_ovE hN (by rfl) [4, 0, 5] [1, 2, 3] (by rfl) (by rfl) [x75_1, x76_5, x77_9] (by rfl) (by rfl) (by rfl) 6 (by rfl) (by decide)) (ov_ovE hM (by rfl) [] [] (by rfl) (by rfl) [] (by rfl) (by rfl) (by rfl) 0 (by rfl) (by decide))) tw_1681 tw_1678 tw_127 tw_1680 tw_99 (ci := 12) rfl (by decide) (kk_74 hL) (kn_74 hL) pd_X12_carryRow (by decide) (by decide) rfl rfl (Nat.le_of_ble_eq_true rfl) rfl dX12_carriesAll_43 ?_
  refine g_iload_n hC 1 dX12_carriesAll_46 rfl rfl ?_
  refine g_iconst hC (v := 4) dX12_carriesAll_47 ic_4 ?_
  refine g_icmp_ne hC 52 dX12_carriesAll_48 (by decide) (fun hc => absurd hc (by decide)) (fun _ => ?_)
  obtain ⟨rfl, rfl, rfl, rfl, rfl, rfl⟩ := sm6E hf
  exact hret _ _ dX12_carriesAll_51

def fX12_carriesAllK      (x74 : Nat → Int32) (x75 : Nat → Int32) (x76 : Nat → Int32) (x77 : Nat → Int32) (x78 : Nat → Int32) (x112 : Nat → Int32)  : Option ((Nat → Int32) × (Nat → Int32) × (Nat → Int32) × (Nat → Int32) × (Nat → Int32) × (Nat → Int32)) := fX12_carriesAllK_0  x74 x75 x76 x77 x78 x112

set_option maxHeartbeats 4000000 in
set_option maxRecDepth 100000 in
theorem c_X12_carriesAllK (l : Launch) {b0 : Nat} {D : GD} {n : Nat} {κ : QT} {X0 : XT} {Y0 : YT} {Z : ZT} (hL : LY n κ) {x74 : Nat → Int32} {x75 : Nat → Int32} {x76 : Nat → Int32} {x77 : Nat → Int32} {x78 : Nat → Int32} {x112 : Nat → Int32} (hx : ([74, 75, 76, 77, 78, 112] : List Nat).map X0 = [x74, x75, x76, x77, x78, x112]) (hy : ([] : List Nat).map Y0 = []) {rx74 : (Nat → Int32)} {rx75 : (Nat → Int32)} {rx76 : (Nat → Int32)} {rx77 : (Nat → Int32)} {rx78 : (Nat → Int32)} {rx112 : (Nat → Int32)} (hf : fX12_carriesAllK  x74 x75 x76 x77 x78 x112 = some (rx74, rx75, rx76, rx77, rx78, rx112)) : gMv l yX12_carriesAll cX12_carriesAll 3 none 1 22 0 0 b0 D [.ref (b0 + 74), .int 4, .int 0] (n, κ, X0, Y0, Z) (n, κ, ov X0 [74, 75, 76, 77, 78, 112] [rx74, rx75, rx76, rx77, rx78, rx112], ov Y0 [] [], Z) := by
  have hN : ([74, 75, 76, 77, 78, 112] : List Nat).Nodup := by decide
  have hM : ([] : List Nat).Nodup := by decide
  refine g_metv (own := RX12) (by decide) rfl rfl (Nat.le_of_ble_eq_true rfl) ?_
  intro K hC hret
  have e := wX12_carriesAllK_0 hL hN hM hC  hret hf
  rw [ov_id' hx, ov_id' hy] at e
  exact g_sub [0, 1, 2] rfl e

-- X12_carriesAll
def fX12_carriesAllL_0     (x74 : (Nat → Int32)) (x75 : (Nat → Int32)) (x76 : (Nat → Int32)) (x77 : (Nat → Int32)) (x78 : (Nat → Int32)) (x112 : (Nat → Int32)) : Option ((Nat → Int32) × (Nat → Int32) × (Nat → Int32) × (Nat → Int32) × (Nat → Int32) × (Nat → Int32)) := bd3 (fX12_carryRow 11 x75 (upd (upd x74 56 (1300 * 4)) 57 1) x112) fun x75_1 x74_2 x112_3 => (bd3 (fX12_carryRow 6 x76 x74_2 x112_3) fun x76_5 x74_6 x112_7 => (bd3 (fX12_carryRow 6 x77 x74_6 x112_7) fun x77_9 x74_10 x112_11 => (bd3 (fX12_carryRow 36 x78 x74_10 x112_11) fun x78_13 x74_14 x112_15 => (some (x74_14, x75_1, x76_5, x77_9, x78_13, x112_15)))))
set_option maxHeartbeats 4000000 in
set_option maxRecDepth 100000 in
theorem wX12_carriesAllL_0 {l : Launch} {b0 : Nat} {D : GD} {K : KT} {n : Nat} {κ : QT} {X0 : XT} {Y0 : YT} {Z : ZT} (hL : LY n κ) (hN : ([74, 75, 76, 77, 78, 112] : List Nat).Nodup) (hM : ([] : List Nat).Nodup) (hC : gC l b0 D K RX12 cX12_carriesAll none 3 1 22 0 0) {rx74 : (Nat → Int32)} {rx75 : (Nat → Int32)} {rx76 : (Nat → Int32)} {rx77 : (Nat → Int32)} {rx78 : (Nat → Int32)} {rx112 : (Nat → Int32)} (hret : ∀ pc loc, decode cX12_carriesAll pc = .ok (.return_, 1) → gV l b0 D K (n, κ, ov X0 [74, 75, 76, 77, 78, 112] [rx74, rx75, rx76, rx77, rx78, rx112], ov Y0 [] [], Z, 0, 0) pc loc []) {x74 : (Nat → Int32)} {x75 : (Nat → Int32)} {x76 : (Nat → Int32)} {x77 : (Nat → Int32)} {x78 : (Nat → Int32)} {x112 : (Nat → Int32)} (hf : fX12_carriesAllL_0   x74 x75 x76 x77 x78 x112 = some (rx74, rx75, rx76, rx77, rx78, rx112)) : gV l b0 D K (n, κ, ov X0 [74, 75, 76, 77, 78, 112] [x74, x75, x76, x77, x78, x112], ov Y0 [] [], Z, 0, 0) 0 [(0, .ref (b0 + 74)), (1, .int 4), (2, .int 1)] [] := by
  unfold fX12_carriesAllL_0 at hf
  refine g_aload_n hC 0 dX12_carriesAll_0 rfl rfl ?_
  refine g_sipush hC (v := 1300) dX12_carriesAll_1 sp_1300 ?_
  refine g_iload_n hC 1 dX12_carriesAll_4 rfl rfl ?_
  refine g_imul hC dX12_carriesAll_5 ?_
  refine pt_X12_522 hC (x := x74) (kk_74 hL) (kn_74 hL) (ov_get hN 0 rfl rfl) (ov_set hN (by rfl) 0 (by rfl)) dX12_carriesAll_6 ?_
  show gV l b0 D K (n, κ, ov X0 [74, 75, 76, 77, 78, 112] [(upd x74 56 (1300 * 4)), x75, x76, x77, x78, x112], ov Y0 [] [], Z, 0, 0) 9 [(0, .ref (b0 + 74)), (1, .int 4), (2, .int 1)] []
  refine g_aload_n hC 0 dX12_carriesAll_9 rfl rfl ?_
  refine g_iload_n hC 2 dX12_carriesAll_10 rfl rfl ?_
  refine pt_X12_519 hC (x := (upd x74 56 (1300 * 4))) rfl (kk_74 hL) (kn_74 hL) (ov_get hN 0 rfl rfl) (ov_set hN (by rfl) 0 (by rfl)) dX12_carriesAll_11 ?_
  show gV l b0 D K (n, κ, ov X0 [74, 75, 76, 77, 78, 112] [(upd (upd x74 56 (1300 * 4)) 57 1), x75, x76, x77, x78, x112], ov Y0 [] [], Z, 0, 0) 14 [(0, .ref (b0 + 74)), (1, .int 4), (2, .int 1)] []
  refine g_aload_n hC 0 dX12_carriesAll_14 rfl rfl ?_
  refine g_aload_n hC 0 dX12_carriesAll_15 rfl rfl ?_
  refine gt_X12_9 hC (a := 74) (kk_74 hL) (kn_74 hL) dX12_carriesAll_16 ?_
  refine g_ref (b := 75) rfl ?_
  obtain ⟨x75_1, x74_2, x112_3, q_4, hf⟩ := bd3E hf
  refine g_callV_v (a := 74) hC (X' := ov X0 [74, 75, 76, 77, 78, 112] [x74_2, x75_1, x76, x77, x78, x112_3]) (Y' := ov Y0 [] []) (As := [.ref (b0 + 75)]) (gMv_eq (c_X12_carryRow l hL (kk_75 hL) (kn_75 hL) (nd_sub hN [1, 0, 5] (by decide) (by rfl)) (nd_sub hM [] (by decide) (by rfl)) (ov_map hN [1, 0, 5] (by rfl) (by rfl)) (ov_map hM [] (by rfl) (by rfl)) q_4) (ov_ovE hN (by rfl) [1, 0, 5] [2, 3, 4] (by rfl) (by rfl) [x76, x77, x78] (by rfl) (by rfl) (by rfl) 6 (by rfl) (by decide)) (ov_ovE hM (by rfl) [] [] (by rfl) (by rfl) [] (by rfl) (by rfl) (by rfl) 0 (by rfl) (by decide))) tw_1681 tw_1678 tw_127 tw_1680 tw_99 (ci := 12) rfl (by decide) (kk_74 hL) (kn_74 hL) pd_X12_carryRow (by decide) (by decide) rfl rfl (Nat.le_of_ble_eq_true rfl) rfl dX12_carriesAll_19 ?_
  refine g_aload_n hC 0 dX12_carriesAll_22 rfl rfl ?_
  refine g_aload_n hC 0 dX12_carriesAll_23 rfl rfl ?_
  refine gt_X12_13 hC (a := 74) (kk_74 hL) (kn_74 hL) dX12_carriesAll_24 ?_
  refine g_ref (b := 76) rfl ?_
  obtain ⟨x76_5, x74_6, x112_7, q_8, hf⟩ := bd3E hf
  refine g_callV_v (a := 74) hC (X' := ov X0 [74, 75, 76, 77, 78, 112] [x74_6, x75_1, x76_5, x77, x78, x112_7]) (Y' := ov Y0 [] []) (As := [.ref (b0 + 76)]) (gMv_eq (c_X12_carryRow l hL (kk_76 hL) (kn_76 hL) (nd_sub hN [2, 0, 5] (by decide) (by rfl)) (nd_sub hM [] (by decide) (by rfl)) (ov_map hN [2, 0, 5] (by rfl) (by rfl)) (ov_map hM [] (by rfl) (by rfl)) q_8) (ov_ovE hN (by rfl) [2, 0, 5] [1, 3, 4] (by rfl) (by rfl) [x75_1, x77, x78] (by rfl) (by rfl) (by rfl) 6 (by rfl) (by decide)) (ov_ovE hM (by rfl) [] [] (by rfl) (by rfl) [] (by rfl) (by rfl) (by rfl) 0 (by rfl) (by decide))) tw_1681 tw_1678 tw_127 tw_1680 tw_99 (ci := 12) rfl (by decide) (kk_74 hL) (kn_74 hL) pd_X12_carryRow (by decide) (by decide) rfl rfl (Nat.le_of_ble_eq_true rfl) rfl dX12_carriesAll_27 ?_
  refine g_aload_n hC 0 dX12_carriesAll_30 rfl rfl ?_
  refine g_aload_n hC 0 dX12_carriesAll_31 rfl rfl ?_
  refine gt_X12_16 hC (a := 74) (kk_74 hL) (kn_74 hL) dX12_carriesAll_32 ?_
  refine g_ref (b := 77) rfl ?_
  obtain ⟨x77_9, x74_10, x112_11, q_12, hf⟩ := bd3E hf
  refine g_callV_v (a := 74) hC (X' := ov X0 [74, 75, 76, 77, 78, 112] [x74_10, x75_1, x76_5, x77_9, x78, x112_11]) (Y' := ov Y0 [] []) (As := [.ref (b0 + 77)]) (gMv_eq (c_X12_carryRow l hL (kk_77 hL) (kn_77 hL) (nd_sub hN [3, 0, 5] (by decide) (by rfl)) (nd_sub hM [] (by decide) (by rfl)) (ov_map hN [3, 0, 5] (by rfl) (by rfl)) (ov_map hM [] (by rfl) (by rfl)) q_12) (ov_ovE hN (by rfl) [3, 0, 5] [1, 2, 4] (by rfl) (by rfl) [x75_1, x76_5, x78] (by rfl) (by rfl) (by rfl) 6 (by rfl) (by decide)) (ov_ovE hM (by rfl) [] [] (by rfl) (by rfl) [] (by rfl) (by rfl) (by rfl) 0 (by rfl) (by decide))) tw_1681 tw_1678 tw_127 tw_1680 tw_99 (ci := 12) rfl (by decide) (kk_74 hL) (kn_74 hL) pd_X12_carryRow (by decide) (by decide) rfl rfl (Nat.le_of_ble_eq_true rfl) rfl dX12_carriesAll_35 ?_
  refine g_aload_n hC 0 dX12_carriesAll_38 rfl rfl ?_
  refine g_aload_n hC 0 dX12_carriesAll_39 rfl rfl ?_
  refine gt_X12_19 hC (a := 74) (kk_74 hL) (kn_74 hL) dX12_carriesAll_40 ?_
  refine g_ref (b := 78) rfl ?_
  obtain ⟨x78_13, x74_14, x112_15, q_16, hf⟩ := bd3E hf
  refine g_callV_v (a := 74) hC (X' := ov X0 [74, 75, 76, 77, 78, 112] [x74_14, x75_1, x76_5, x77_9, x78_13, x112_15]) (Y' := ov Y0 [] []) (As := [.ref (b0 + 78)]) (gMv_eq (c_X12_carryRow l hL (kk_78 hL) (kn_78 hL) (nd_sub hN [4, 0, 5] (by decide) (by rfl)) (nd_sub hM [] (by decide) (by rfl)) (ov_map hN [4, 0, 5] (by rfl) (by rfl)) (ov_map hM [] (by rfl) (by rfl)) q_16) (ov_ovE hN (by rfl) [4, 0, 5] [1, 2, 3] (by rfl) (by rfl) [x75_1, x76_5, x77_9] (by rfl) (by rfl) (by rfl) 6 (by rfl) (by decide)) (ov_ovE hM (by rfl) [] [] (by rfl) (by rfl) [] (by rfl) (by rfl) (by rfl) 0 (by rfl) (by decide))) tw_1681 tw_1678 tw_127 tw_1680 tw_99 (ci := 12) rfl (by decide) (kk_74 hL) (kn_74 hL) pd_X12_carryRow (by decide) (by decide) rfl rfl (Nat.le_of_ble_eq_true rfl) rfl dX12_carriesAll_43 ?_
  refine g_iload_n hC 1 dX12_carriesAll_46 rfl rfl ?_
  refine g_iconst hC (v := 4) dX12_carriesAll_47 ic_4 ?_
  refine g_icmp_ne hC 52 dX12_carriesAll_48 (by decide) (fun hc => absurd hc (by decide)) (fun _ => ?_)
  obtain ⟨rfl, rfl, rfl, rfl, rfl, rfl⟩ := sm6E hf
  exact hret _ _ dX12_carriesAll_51

def fX12_carriesAllL      (x74 : Nat → Int32) (x75 : Nat → Int32) (x76 : Nat → Int32) (x77 : Nat → Int32) (x78 : Nat → Int32) (x112 : Nat → Int32)  : Option ((Nat → Int32) × (Nat → Int32) × (Nat → Int32) × (Nat → Int32) × (Nat → Int32) × (Nat → Int32)) := fX12_carriesAllL_0  x74 x75 x76 x77 x78 x112

set_option maxHeartbeats 4000000 in
set_option maxRecDepth 100000 in
theorem c_X12_carriesAllL (l : Launch) {b0 : Nat} {D : GD} {n : Nat} {κ : QT} {X0 : XT} {Y0 : YT} {Z : ZT} (hL : LY n κ) {x74 : Nat → Int32} {x75 : Nat → Int32} {x76 : Nat → Int32} {x77 : Nat → Int32} {x78 : Nat → Int32} {x112 : Nat → Int32} (hx : ([74, 75, 76, 77, 78, 112] : List Nat).map X0 = [x74, x75, x76, x77, x78, x112]) (hy : ([] : List Nat).map Y0 = []) {rx74 : (Nat → Int32)} {rx75 : (Nat → Int32)} {rx76 : (Nat → Int32)} {rx77 : (Nat → Int32)} {rx78 : (Nat → Int32)} {rx112 : (Nat → Int32)} (hf : fX12_carriesAllL  x74 x75 x76 x77 x78 x112 = some (rx74, rx75, rx76, rx77, rx78, rx112)) : gMv l yX12_carriesAll cX12_carriesAll 3 none 1 22 0 0 b0 D [.ref (b0 + 74), .int 4, .int 1] (n, κ, X0, Y0, Z) (n, κ, ov X0 [74, 75, 76, 77, 78, 112] [rx74, rx75, rx76, rx77, rx78, rx112], ov Y0 [] [], Z) := by
  have hN : ([74, 75, 76, 77, 78, 112] : List Nat).Nodup := by decide
  have hM : ([] : List Nat).Nodup := by decide
  refine g_metv (own := RX12) (by decide) rfl rfl (Nat.le_of_ble_eq_true rfl) ?_
  intro K hC hret
  have e := wX12_carriesAllL_0 hL hN hM hC  hret hf
  rw [ov_id' hx, ov_id' hy] at e
  exact g_sub [0, 1, 2] rfl e

-- X12_keepsAll
def fX12_keepsAll_0     (x74 : (Nat → Int32)) (x75 : (Nat → Int32)) (x76 : (Nat → Int32)) (x77 : (Nat → Int32)) (x78 : (Nat → Int32)) (x112 : (Nat → Int32)) : Option ((Nat → Int32) × (Nat → Int32) × (Nat → Int32) × (Nat → Int32) × (Nat → Int32) × (Nat → Int32)) := bd6 (fX12_carriesAllK x74 x75 x76 x77 x78 x112) fun x74_1 x75_2 x76_3 x77_4 x78_5 x112_6 => (some (x74_1, x75_2, x76_3, x77_4, x78_5, x112_6))
set_option maxHeartbeats 4000000 in
set_option maxRecDepth 100000 in
theorem wX12_keepsAll_0 {l : Launch} {b0 : Nat} {D : GD} {K : KT} {n : Nat} {κ : QT} {X0 : XT} {Y0 : YT} {Z : ZT} (hL : LY n κ) (hN : ([74, 75, 76, 77, 78, 112] : List Nat).Nodup) (hM : ([] : List Nat).Nodup) (hC : gC l b0 D K RX12 cX12_keepsAll none 1 2 44 0 0) {rx74 : (Nat → Int32)} {rx75 : (Nat → Int32)} {rx76 : (Nat → Int32)} {rx77 : (Nat → Int32)} {rx78 : (Nat → Int32)} {rx112 : (Nat → Int32)} (hret : ∀ pc loc, decode cX12_keepsAll pc = .ok (.return_, 1) → gV l b0 D K (n, κ, ov X0 [74, 75, 76, 77, 78, 112] [rx74, rx75, rx76, rx77, rx78, rx112], ov Y0 [] [], Z, 0, 0) pc loc []) {x74 : (Nat → Int32)} {x75 : (Nat → Int32)} {x76 : (Nat → Int32)} {x77 : (Nat → Int32)} {x78 : (Nat → Int32)} {x112 : (Nat → Int32)} (hf : fX12_keepsAll_0   x74 x75 x76 x77 x78 x112 = some (rx74, rx75, rx76, rx77, rx78, rx112)) : gV l b0 D K (n, κ, ov X0 [74, 75, 76, 77, 78, 112] [x74, x75, x76, x77, x78, x112], ov Y0 [] [], Z, 0, 0) 0 [(0, .ref (b0 + 74))] [] := by
  unfold fX12_keepsAll_0 at hf
  refine g_aload_n hC 0 dX12_keepsAll_0 rfl rfl ?_
  refine g_iconst hC (v := 4) dX12_keepsAll_1 ic_4 ?_
  refine g_iconst hC (v := 0) dX12_keepsAll_2 ic_0 ?_
  obtain ⟨x74_1, x75_2, x76_3, x77_4, x78_5, x112_6, q_7, hf⟩ := bd6E hf
  refine g_callV_v (a := 74) hC (X' := ov X0 [74, 75, 76, 77, 78, 112] [x74_1, x75_2, x76_3, x77_4, x78_5, x112_6]) (Y' := ov Y0 [] []) (As := [.int 4, .int 0]) (gMv_eq (c_X12_carriesAllK l hL (ov_map hN [0, 1, 2, 3, 4, 5] (by rfl) (by rfl)) (ov_map hM [] (by rfl) (by rfl)) q_7) (ov_ovE hN (by rfl) [0, 1, 2, 3, 4, 5] [] (by rfl) (by rfl) [] (by rfl) (by rfl) (by rfl) 6 (by rfl) (by decide)) (ov_ovE hM (by rfl) [] [] (by rfl) (by rfl) [] (by rfl) (by rfl) (by rfl) 0 (by rfl) (by decide))) tw_1677 tw_1674 tw_127 tw_1676 tw_98 (ci := 12) rfl (by decide) (kk_74 hL) (kn_74 hL) pd_X12_carriesAll (by decide) (by decide) rfl rfl (Nat.le_of_ble_eq_true rfl) rfl dX12_keepsAll_3 ?_
  obtain ⟨rfl, rfl, rfl, rfl, rfl, rfl⟩ := sm6E hf
  exact hret _ _ dX12_keepsAll_6

def fX12_keepsAll      (x74 : Nat → Int32) (x75 : Nat → Int32) (x76 : Nat → Int32) (x77 : Nat → Int32) (x78 : Nat → Int32) (x112 : Nat → Int32)  : Option ((Nat → Int32) × (Nat → Int32) × (Nat → Int32) × (Nat → Int32) × (Nat → Int32) × (Nat → Int32)) := fX12_keepsAll_0  x74 x75 x76 x77 x78 x112

set_option maxHeartbeats 4000000 in
set_option maxRecDepth 100000 in
theorem c_X12_keepsAll (l : Launch) {b0 : Nat} {D : GD} {n : Nat} {κ : QT} {X0 : XT} {Y0 : YT} {Z : ZT} (hL : LY n κ) {x74 : Nat → Int32} {x75 : Nat → Int32} {x76 : Nat → Int32} {x77 : Nat → Int32} {x78 : Nat → Int32} {x112 : Nat → Int32} (hx : ([74, 75, 76, 77, 78, 112] : List Nat).map X0 = [x74, x75, x76, x77, x78, x112]) (hy : ([] : List Nat).map Y0 = []) {rx74 : (Nat → Int32)} {rx75 : (Nat → Int32)} {rx76 : (Nat → Int32)} {rx77 : (Nat → Int32)} {rx78 : (Nat → Int32)} {rx112 : (Nat → Int32)} (hf : fX12_keepsAll  x74 x75 x76 x77 x78 x112 = some (rx74, rx75, rx76, rx77, rx78, rx112)) : gMv l yX12_keepsAll cX12_keepsAll 1 none 2 44 0 0 b0 D [.ref (b0 + 74)] (n, κ, X0, Y0, Z) (n, κ, ov X0 [74, 75, 76, 77, 78, 112] [rx74, rx75, rx76, rx77, rx78, rx112], ov Y0 [] [], Z) := by
  have hN : ([74, 75, 76, 77, 78, 112] : List Nat).Nodup := by decide
  have hM : ([] : List Nat).Nodup := by decide
  refine g_metv (own := RX12) (by decide) rfl rfl (Nat.le_of_ble_eq_true rfl) ?_
  intro K hC hret
  have e := wX12_keepsAll_0 hL hN hM hC  hret hf
  rw [ov_id' hx, ov_id' hy] at e
  exact g_sub [0] rfl e

-- X12_laysBack
def fX12_laysBack_0     (x74 : (Nat → Int32)) (x75 : (Nat → Int32)) (x76 : (Nat → Int32)) (x77 : (Nat → Int32)) (x78 : (Nat → Int32)) (x112 : (Nat → Int32)) : Option ((Nat → Int32) × (Nat → Int32) × (Nat → Int32) × (Nat → Int32) × (Nat → Int32) × (Nat → Int32)) := bd6 (fX12_carriesAllL x74 x75 x76 x77 x78 x112) fun x74_1 x75_2 x76_3 x77_4 x78_5 x112_6 => (some (x74_1, x75_2, x76_3, x77_4, x78_5, x112_6))
set_option maxHeartbeats 4000000 in
set_option maxRecDepth 100000 in
theorem wX12_laysBack_0 {l : Launch} {b0 : Nat} {D : GD} {K : KT} {n : Nat} {κ : QT} {X0 : XT} {Y0 : YT} {Z : ZT} (hL : LY n κ) (hN : ([74, 75, 76, 77, 78, 112] : List Nat).Nodup) (hM : ([] : List Nat).Nodup) (hC : gC l b0 D K RX12 cX12_laysBack none 1 2 44 0 0) {rx74 : (Nat → Int32)} {rx75 : (Nat → Int32)} {rx76 : (Nat → Int32)} {rx77 : (Nat → Int32)} {rx78 : (Nat → Int32)} {rx112 : (Nat → Int32)} (hret : ∀ pc loc, decode cX12_laysBack pc = .ok (.return_, 1) → gV l b0 D K (n, κ, ov X0 [74, 75, 76, 77, 78, 112] [rx74, rx75, rx76, rx77, rx78, rx112], ov Y0 [] [], Z, 0, 0) pc loc []) {x74 : (Nat → Int32)} {x75 : (Nat → Int32)} {x76 : (Nat → Int32)} {x77 : (Nat → Int32)} {x78 : (Nat → Int32)} {x112 : (Nat → Int32)} (hf : fX12_laysBack_0   x74 x75 x76 x77 x78 x112 = some (rx74, rx75, rx76, rx77, rx78, rx112)) : gV l b0 D K (n, κ, ov X0 [74, 75, 76, 77, 78, 112] [x74, x75, x76, x77, x78, x112], ov Y0 [] [], Z, 0, 0) 0 [(0, .ref (b0 + 74))] [] := by
  unfold fX12_laysBack_0 at hf
  refine g_aload_n hC 0 dX12_laysBack_0 rfl rfl ?_
  refine g_iconst hC (v := 4) dX12_laysBack_1 ic_4 ?_
  refine g_iconst hC (v := 1) dX12_laysBack_2 ic_1 ?_
  obtain ⟨x74_1, x75_2, x76_3, x77_4, x78_5, x112_6, q_7, hf⟩ := bd6E hf
  refine g_callV_v (a := 74) hC (X' := ov X0 [74, 75, 76, 77, 78, 112] [x74_1, x75_2, x76_3, x77_4, x78_5, x112_6]) (Y' := ov Y0 [] []) (As := [.int 4, .int 1]) (gMv_eq (c_X12_carriesAllL l hL (ov_map hN [0, 1, 2, 3, 4, 5] (by rfl) (by rfl)) (ov_map hM [] (by rfl) (by rfl)) q_7) (ov_ovE hN (by rfl) [0, 1, 2, 3, 4, 5] [] (by rfl) (by rfl) [] (by rfl) (by rfl) (by rfl) 6 (by rfl) (by decide)) (ov_ovE hM (by rfl) [] [] (by rfl) (by rfl) [] (by rfl) (by rfl) (by rfl) 0 (by rfl) (by decide))) tw_1677 tw_1674 tw_127 tw_1676 tw_98 (ci := 12) rfl (by decide) (kk_74 hL) (kn_74 hL) pd_X12_carriesAll (by decide) (by decide) rfl rfl (Nat.le_of_ble_eq_true rfl) rfl dX12_laysBack_3 ?_
  obtain ⟨rfl, rfl, rfl, rfl, rfl, rfl⟩ := sm6E hf
  exact hret _ _ dX12_laysBack_6

def fX12_laysBack      (x74 : Nat → Int32) (x75 : Nat → Int32) (x76 : Nat → Int32) (x77 : Nat → Int32) (x78 : Nat → Int32) (x112 : Nat → Int32)  : Option ((Nat → Int32) × (Nat → Int32) × (Nat → Int32) × (Nat → Int32) × (Nat → Int32) × (Nat → Int32)) := fX12_laysBack_0  x74 x75 x76 x77 x78 x112

set_option maxHeartbeats 4000000 in
set_option maxRecDepth 100000 in
theorem c_X12_laysBack (l : Launch) {b0 : Nat} {D : GD} {n : Nat} {κ : QT} {X0 : XT} {Y0 : YT} {Z : ZT} (hL : LY n κ) {x74 : Nat → Int32} {x75 : Nat → Int32} {x76 : Nat → Int32} {x77 : Nat → Int32} {x78 : Nat → Int32} {x112 : Nat → Int32} (hx : ([74, 75, 76, 77, 78, 112] : List Nat).map X0 = [x74, x75, x76, x77, x78, x112]) (hy : ([] : List Nat).map Y0 = []) {rx74 : (Nat → Int32)} {rx75 : (Nat → Int32)} {rx76 : (Nat → Int32)} {rx77 : (Nat → Int32)} {rx78 : (Nat → Int32)} {rx112 : (Nat → Int32)} (hf : fX12_laysBack  x74 x75 x76 x77 x78 x112 = some (rx74, rx75, rx76, rx77, rx78, rx112)) : gMv l yX12_laysBack cX12_laysBack 1 none 2 44 0 0 b0 D [.ref (b0 + 74)] (n, κ, X0, Y0, Z) (n, κ, ov X0 [74, 75, 76, 77, 78, 112] [rx74, rx75, rx76, rx77, rx78, rx112], ov Y0 [] [], Z) := by
  have hN : ([74, 75, 76, 77, 78, 112] : List Nat).Nodup := by decide
  have hM : ([] : List Nat).Nodup := by decide
  refine g_metv (own := RX12) (by decide) rfl rfl (Nat.le_of_ble_eq_true rfl) ?_
  intro K hC hret
  have e := wX12_laysBack_0 hL hN hM hC  hret hf
  rw [ov_id' hx, ov_id' hy] at e
  exact g_sub [0] rfl e

-- X12_inRiver
def fX12_inRiver_30   (x75 : Nat → Int32) (x76 : Nat → Int32)  (k4 : Int32 → Int32 → Option (Int32)) (v2 : Int32) (s0 : Int32) (s1 : Int32) : Option (Int32) := bn (s1 ||| s0) fun t_1 => (bn (v2 + 1) fun t_2 => (k4 t_1 t_2))
set_option maxHeartbeats 4000000 in
set_option maxRecDepth 100000 in
theorem wX12_inRiver_30 {l : Launch} {b0 : Nat} {D : GD} {K : KT} {n : Nat} {κ : QT} {X0 : XT} {Y0 : YT} {Z : ZT} (hL : LY n κ) (hN : ([75, 76] : List Nat).Nodup) (hM : ([] : List Nat).Nodup) (hC : gC l b0 D K RX12 cX12_inRiver (some FieldType.int) 3 1 21 0 0) {x75 : Nat → Int32} {x76 : Nat → Int32} {r : Int32} (hret : ∀ pc loc, narrow .int (.int r) = .int r → decode cX12_inRiver pc = .ok (.ireturn, 1) → gV l b0 D K (n, κ, ov X0 [75, 76] [x75, x76], ov Y0 [] [], Z, 0, 0) pc loc [.int r]) {k4 : Int32 → Int32 → Option (Int32)} (hk4 : ∀ (v1 : Int32) (v2 : Int32), k4 v1 v2 = some r → gV l b0 D K (n, κ, ov X0 [75, 76] [x75, x76], ov Y0 [] [], Z, 0, 0) 4 [(0, .ref (b0 + 74)), (1, .int v1), (2, .int v2)] []) {v2 : Int32} {s0 : Int32} {s1 : Int32} (hf : fX12_inRiver_30 x75 x76 k4 v2 s0 s1 = some r) : gV l b0 D K (n, κ, ov X0 [75, 76] [x75, x76], ov Y0 [] [], Z, 0, 0) 30 [(0, .ref (b0 + 74)), (2, .int v2)] [.int s0, .int s1] := by
  unfold fX12_inRiver_30 at hf
  refine g_ior hC dX12_inRiver_30 ?_
  obtain ⟨t_1, et_1, hf⟩ := bnE hf
  refine g_topi et_1 ?_
  refine g_istore_n hC (i := 1) [(1, .int t_1), (0, .ref (b0 + 74)), (2, .int v2)] rfl dX12_inRiver_31 (by decide) rfl ?_
  obtain ⟨t_2, et_2, hf⟩ := bnE hf
  refine g_iinc hC (i := 2) (v := t_2) [(2, .int t_2), (1, .int t_1), (0, .ref (b0 + 74))] dX12_inRiver_32 (q := 2) rfl ((congrArg (HAdd.hAdd v2) ic_1).trans et_2.symm) (by decide) rfl ?_
  refine g_goto hC 4 dX12_inRiver_35 (by decide) ?_
  exact g_sub [2, 1, 0] rfl (hk4 t_1 t_2 hf)

def fX12_inRiver_4b   (x75 : Nat → Int32) (x76 : Nat → Int32)  (k4 : Int32 → Int32 → Option (Int32)) (v1 : Int32) (v2 : Int32) : Option (Int32) := gd (inb 4 11) (if (x75 (4 : Int32).toNatClampNeg) ≤ v2 then (some v1) else (bd1 (fX12_isInRiver x75 x76 v2) fun r_2 => (if r_2 = 0 then (fX12_inRiver_30 x75 x76 k4 v2 0 v1) else (fX12_inRiver_30 x75 x76 k4 v2 (1 <<< (v2 &&& 31)) v1))))
def fX12_inRiver_4   (x75 : Nat → Int32) (x76 : Nat → Int32)  : Int32 → Int32 → Option (Int32) := lq2 (fX12_inRiver_4b x75 x76 ) 5000
set_option maxHeartbeats 4000000 in
set_option maxRecDepth 100000 in
theorem wX12_inRiver_4 {l : Launch} {b0 : Nat} {D : GD} {K : KT} {n : Nat} {κ : QT} {X0 : XT} {Y0 : YT} {Z : ZT} (hL : LY n κ) (hN : ([75, 76] : List Nat).Nodup) (hM : ([] : List Nat).Nodup) (hC : gC l b0 D K RX12 cX12_inRiver (some FieldType.int) 3 1 21 0 0) {x75 : Nat → Int32} {x76 : Nat → Int32} {r : Int32} (hret : ∀ pc loc, narrow .int (.int r) = .int r → decode cX12_inRiver pc = .ok (.ireturn, 1) → gV l b0 D K (n, κ, ov X0 [75, 76] [x75, x76], ov Y0 [] [], Z, 0, 0) pc loc [.int r]) : ∀ (j : Nat) (v1 : Int32) (v2 : Int32), lq2 (fX12_inRiver_4b x75 x76 ) j v1 v2 = some r → gV l b0 D K (n, κ, ov X0 [75, 76] [x75, x76], ov Y0 [] [], Z, 0, 0) 4 [(0, .ref (b0 + 74)), (1, .int v1), (2, .int v2)] [] := by
  intro j
  induction j with
  | zero => intro v1 v2 hf; cases hf
  | succ j hk4 =>
    intro v1 v2 hf
    replace hf : fX12_inRiver_4b x75 x76  (lq2 (fX12_inRiver_4b x75 x76 ) j) v1 v2 = some r := hf
    unfold fX12_inRiver_4b at hf
    refine g_iload_n hC 2 dX12_inRiver_4 rfl rfl ?_
    refine g_aload_n hC 0 dX12_inRiver_5 rfl rfl ?_
    refine gt_X12_9 hC (a := 74) (kk_74 hL) (kn_74 hL) dX12_inRiver_6 ?_
    refine g_ref (b := 75) rfl ?_
    refine g_iconst hC (v := 4) dX12_inRiver_9 ic_4 ?_
    obtain ⟨h_1, hf⟩ := gdE hf
    refine g_iald hC (x := x75) (kk_75 hL) (kn_75 hL) (ov_get hN 0 rfl rfl) (inb_in h_1) dX12_inRiver_10 ?_
    refine g_icmp_ge hC 38 dX12_inRiver_11 (by decide) (fun hc => ?_) (fun hc => ?_)
    · replace hf := ifT hf hc
      refine g_iload_n hC 1 dX12_inRiver_38 rfl rfl ?_
      obtain rfl := sm1E hf
      exact hret _ _ rfl dX12_inRiver_39
    · replace hf := ifF hf hc
      refine g_iload_n hC 1 dX12_inRiver_14 rfl rfl ?_
      refine g_aload_n hC 0 dX12_inRiver_15 rfl rfl ?_
      refine g_iload_n hC 2 dX12_inRiver_16 rfl rfl ?_
      obtain ⟨r_2, q_3, hf⟩ := bd1E hf
      refine g_callV_i (a := 74) hC (X' := ov X0 [75, 76] [x75, x76]) (Y' := ov Y0 [] []) (As := [.int v2]) (gMi_eq (c_X12_isInRiver l hL (ov_map hN [0, 1] (by rfl) (by rfl)) (ov_map hM [] (by rfl) (by rfl)) q_3) (ov_ovE hN (by rfl) [0, 1] [] (by rfl) (by rfl) [] (by rfl) (by rfl) (by rfl) 2 (by rfl) (by decide)) (ov_ovE hM (by rfl) [] [] (by rfl) (by rfl) [] (by rfl) (by rfl) (by rfl) 0 (by rfl) (by decide))) tw_1638 tw_1635 tw_127 tw_1637 tw_94 (ci := 12) rfl (by decide) (kk_74 hL) (kn_74 hL) pd_X12_isInRiver (by decide) (by decide) rfl rfl (Nat.le_of_ble_eq_true rfl) rfl dX12_inRiver_17 ?_
      refine g_if_eq hC 29 dX12_inRiver_20 (by decide) (fun hc => ?_) (fun hc => ?_)
      · replace hf := ifT hf hc
        refine g_iconst hC (v := 0) dX12_inRiver_29 ic_0 ?_
        exact g_sub [0, 2] rfl (wX12_inRiver_30 hL hN hM hC  hret hk4 hf)
      · replace hf := ifF hf hc
        refine g_iconst hC (v := 1) dX12_inRiver_23 ic_1 ?_
        refine g_iload_n hC 2 dX12_inRiver_24 rfl rfl ?_
        refine g_ishl hC dX12_inRiver_25 ?_
        refine g_goto hC 30 dX12_inRiver_26 (by decide) ?_
        exact g_sub [0, 2] rfl (wX12_inRiver_30 hL hN hM hC  hret hk4 hf)

def fX12_inRiver_0   (x75 : Nat → Int32) (x76 : Nat → Int32)   : Option (Int32) := fX12_inRiver_4 x75 x76  0 0
set_option maxHeartbeats 4000000 in
set_option maxRecDepth 100000 in
theorem wX12_inRiver_0 {l : Launch} {b0 : Nat} {D : GD} {K : KT} {n : Nat} {κ : QT} {X0 : XT} {Y0 : YT} {Z : ZT} (hL : LY n κ) (hN : ([75, 76] : List Nat).Nodup) (hM : ([] : List Nat).Nodup) (hC : gC l b0 D K RX12 cX12_inRiver (some FieldType.int) 3 1 21 0 0) {x75 : Nat → Int32} {x76 : Nat → Int32} {r : Int32} (hret : ∀ pc loc, narrow .int (.int r) = .int r → decode cX12_inRiver pc = .ok (.ireturn, 1) → gV l b0 D K (n, κ, ov X0 [75, 76] [x75, x76], ov Y0 [] [], Z, 0, 0) pc loc [.int r])  (hf : fX12_inRiver_0 x75 x76   = some r) : gV l b0 D K (n, κ, ov X0 [75, 76] [x75, x76], ov Y0 [] [], Z, 0, 0) 0 [(0, .ref (b0 + 74))] [] := by
  unfold fX12_inRiver_0 at hf
  refine g_iconst hC (v := 0) dX12_inRiver_0 ic_0 ?_
  refine g_istore_n hC (i := 1) [(1, .int 0), (0, .ref (b0 + 74))] rfl dX12_inRiver_1 (by decide) rfl ?_
  refine g_iconst hC (v := 0) dX12_inRiver_2 ic_0 ?_
  refine g_istore_n hC (i := 2) [(2, .int 0), (1, .int 0), (0, .ref (b0 + 74))] rfl dX12_inRiver_3 (by decide) rfl ?_
  exact g_sub [2, 1, 0] rfl (wX12_inRiver_4 hL hN hM hC  hret  5000 0 0 hf)

def fX12_inRiver   (x75 : Nat → Int32) (x76 : Nat → Int32)     : Option (Int32) := fX12_inRiver_0 x75 x76 

set_option maxHeartbeats 4000000 in
set_option maxRecDepth 100000 in
theorem c_X12_inRiver (l : Launch) {b0 : Nat} {D : GD} {n : Nat} {κ : QT} {X0 : XT} {Y0 : YT} {Z : ZT} (hL : LY n κ) {x75 : Nat → Int32} {x76 : Nat → Int32} (hx : ([75, 76] : List Nat).map X0 = [x75, x76]) (hy : ([] : List Nat).map Y0 = []) {r : Int32} (hf : fX12_inRiver x75 x76  = some r) : gMi l yX12_inRiver cX12_inRiver 3 (some FieldType.int) 1 21 0 0 b0 D [.ref (b0 + 74)] (n, κ, X0, Y0, Z) (n, κ, ov X0 [75, 76] [x75, x76], ov Y0 [] [], Z) r := by
  have hN : ([75, 76] : List Nat).Nodup := by decide
  have hM : ([] : List Nat).Nodup := by decide
  refine g_meti (own := RX12) (by decide) rfl rfl (Nat.le_of_ble_eq_true rfl) ?_
  intro K hC hret
  have e := wX12_inRiver_0 hL hN hM hC  hret hf
  rw [ov_id' hx, ov_id' hy] at e
  exact g_sub [0] rfl e

-- X12_allPlaces
def fX12_allPlaces_4b   (x75 : Nat → Int32) (x76 : Nat → Int32)  (k4 : Int32 → Int32 → Option (Int32)) (v1 : Int32) (v2 : Int32) : Option (Int32) := gd (inb 4 11) (if (x75 (4 : Int32).toNatClampNeg) ≤ v2 then (some v1) else (gd (inb v2 6) (bn (v1 + (x76 v2.toNatClampNeg)) fun t_3 => (bn (v2 + 1) fun t_4 => (k4 t_3 t_4)))))
def fX12_allPlaces_4   (x75 : Nat → Int32) (x76 : Nat → Int32)  : Int32 → Int32 → Option (Int32) := lq2 (fX12_allPlaces_4b x75 x76 ) 5000
set_option maxHeartbeats 4000000 in
set_option maxRecDepth 100000 in
theorem wX12_allPlaces_4 {l : Launch} {b0 : Nat} {D : GD} {K : KT} {n : Nat} {κ : QT} {X0 : XT} {Y0 : YT} {Z : ZT} (hL : LY n κ) (hN : ([75, 76] : List Nat).Nodup) (hM : ([] : List Nat).Nodup) (hC : gC l b0 D K RX12 cX12_allPlaces (some FieldType.int) 3 0 0 0 0) {x75 : Nat → Int32} {x76 : Nat → Int32} {r : Int32} (hret : ∀ pc loc, narrow .int (.int r) = .int r → decode cX12_allPlaces pc = .ok (.ireturn, 1) → gV l b0 D K (n, κ, ov X0 [75, 76] [x75, x76], ov Y0 [] [], Z, 0, 0) pc loc [.int r]) : ∀ (j : Nat) (v1 : Int32) (v2 : Int32), lq2 (fX12_allPlaces_4b x75 x76 ) j v1 v2 = some r → gV l b0 D K (n, κ, ov X0 [75, 76] [x75, x76], ov Y0 [] [], Z, 0, 0) 4 [(0, .ref (b0 + 74)), (1, .int v1), (2, .int v2)] [] := by
  intro j
  induction j with
  | zero => intro v1 v2 hf; cases hf
  | succ j hk4 =>
    intro v1 v2 hf
    replace hf : fX12_allPlaces_4b x75 x76  (lq2 (fX12_allPlaces_4b x75 x76 ) j) v1 v2 = some r := hf
    unfold fX12_allPlaces_4b at hf
    refine g_iload_n hC 2 dX12_allPlaces_4 rfl rfl ?_
    refine g_aload_n hC 0 dX12_allPlaces_5 rfl rfl ?_
    refine gt_X12_9 hC (a := 74) (kk_74 hL) (kn_74 hL) dX12_allPlaces_6 ?_
    refine g_ref (b := 75) rfl ?_
    refine g_iconst hC (v := 4) dX12_allPlaces_9 ic_4 ?_
    obtain ⟨h_1, hf⟩ := gdE hf
    refine g_iald hC (x := x75) (kk_75 hL) (kn_75 hL) (ov_get hN 0 rfl rfl) (inb_in h_1) dX12_allPlaces_10 ?_
    refine g_icmp_ge hC 29 dX12_allPlaces_11 (by decide) (fun hc => ?_) (fun hc => ?_)
    · replace hf := ifT hf hc
      refine g_iload_n hC 1 dX12_allPlaces_29 rfl rfl ?_
      obtain rfl := sm1E hf
      exact hret _ _ rfl dX12_allPlaces_30
    · replace hf := ifF hf hc
      refine g_iload_n hC 1 dX12_allPlaces_14 rfl rfl ?_
      refine g_aload_n hC 0 dX12_allPlaces_15 rfl rfl ?_
      refine gt_X12_13 hC (a := 74) (kk_74 hL) (kn_74 hL) dX12_allPlaces_16 ?_
      refine g_ref (b := 76) rfl ?_
      refine g_iload_n hC 2 dX12_allPlaces_19 rfl rfl ?_
      obtain ⟨h_2, hf⟩ := gdE hf
      refine g_iald hC (x := x76) (kk_76 hL) (kn_76 hL) (ov_get hN 1 rfl rfl) (inb_in h_2) dX12_allPlaces_20 ?_
      refine g_iadd hC dX12_allPlaces_21 ?_
      obtain ⟨t_3, et_3, hf⟩ := bnE hf
      refine g_topi et_3 ?_
      refine g_istore_n hC (i := 1) [(1, .int t_3), (0, .ref (b0 + 74)), (2, .int v2)] rfl dX12_allPlaces_22 (by decide) rfl ?_
      obtain ⟨t_4, et_4, hf⟩ := bnE hf
      refine g_iinc hC (i := 2) (v := t_4) [(2, .int t_4), (1, .int t_3), (0, .ref (b0 + 74))] dX12_allPlaces_23 (q := 2) rfl ((congrArg (HAdd.hAdd v2) ic_1).trans et_4.symm) (by decide) rfl ?_
      refine g_goto hC 4 dX12_allPlaces_26 (by decide) ?_
      exact g_sub [2, 1, 0] rfl (hk4 t_3 t_4 hf)

def fX12_allPlaces_0   (x75 : Nat → Int32) (x76 : Nat → Int32)   : Option (Int32) := fX12_allPlaces_4 x75 x76  0 0
set_option maxHeartbeats 4000000 in
set_option maxRecDepth 100000 in
theorem wX12_allPlaces_0 {l : Launch} {b0 : Nat} {D : GD} {K : KT} {n : Nat} {κ : QT} {X0 : XT} {Y0 : YT} {Z : ZT} (hL : LY n κ) (hN : ([75, 76] : List Nat).Nodup) (hM : ([] : List Nat).Nodup) (hC : gC l b0 D K RX12 cX12_allPlaces (some FieldType.int) 3 0 0 0 0) {x75 : Nat → Int32} {x76 : Nat → Int32} {r : Int32} (hret : ∀ pc loc, narrow .int (.int r) = .int r → decode cX12_allPlaces pc = .ok (.ireturn, 1) → gV l b0 D K (n, κ, ov X0 [75, 76] [x75, x76], ov Y0 [] [], Z, 0, 0) pc loc [.int r])  (hf : fX12_allPlaces_0 x75 x76   = some r) : gV l b0 D K (n, κ, ov X0 [75, 76] [x75, x76], ov Y0 [] [], Z, 0, 0) 0 [(0, .ref (b0 + 74))] [] := by
  unfold fX12_allPlaces_0 at hf
  refine g_iconst hC (v := 0) dX12_allPlaces_0 ic_0 ?_
  refine g_istore_n hC (i := 1) [(1, .int 0), (0, .ref (b0 + 74))] rfl dX12_allPlaces_1 (by decide) rfl ?_
  refine g_iconst hC (v := 0) dX12_allPlaces_2 ic_0 ?_
  refine g_istore_n hC (i := 2) [(2, .int 0), (1, .int 0), (0, .ref (b0 + 74))] rfl dX12_allPlaces_3 (by decide) rfl ?_
  exact g_sub [2, 1, 0] rfl (wX12_allPlaces_4 hL hN hM hC  hret  5000 0 0 hf)

def fX12_allPlaces   (x75 : Nat → Int32) (x76 : Nat → Int32)     : Option (Int32) := fX12_allPlaces_0 x75 x76 

set_option maxHeartbeats 4000000 in
set_option maxRecDepth 100000 in
theorem c_X12_allPlaces (l : Launch) {b0 : Nat} {D : GD} {n : Nat} {κ : QT} {X0 : XT} {Y0 : YT} {Z : ZT} (hL : LY n κ) {x75 : Nat → Int32} {x76 : Nat → Int32} (hx : ([75, 76] : List Nat).map X0 = [x75, x76]) (hy : ([] : List Nat).map Y0 = []) {r : Int32} (hf : fX12_allPlaces x75 x76  = some r) : gMi l yX12_allPlaces cX12_allPlaces 3 (some FieldType.int) 0 0 0 0 b0 D [.ref (b0 + 74)] (n, κ, X0, Y0, Z) (n, κ, ov X0 [75, 76] [x75, x76], ov Y0 [] [], Z) r := by
  have hN : ([75, 76] : List Nat).Nodup := by decide
  have hM : ([] : List Nat).Nodup := by decide
  refine g_meti (own := RX12) (by decide) rfl rfl (Nat.le_of_ble_eq_true rfl) ?_
  intro K hC hret
  have e := wX12_allPlaces_0 hL hN hM hC  hret hf
  rw [ov_id' hx, ov_id' hy] at e
  exact g_sub [0] rfl e

-- X12_placeIn
def fX12_placeIn_0   (x79 : Nat → Int32) (x92 : Nat → Int32) (x93 : Nat → Int32) (x94 : Nat → Int32) (x95 : Nat → Int32) (x96 : Nat → Int32) (x97 : Nat → Int32)  (v1 : Int32) (v2 : Int32) (x74 : (Nat → Int32)) (x75 : (Nat → Int32)) (x76 : (Nat → Int32)) (x77 : (Nat → Int32)) (x78 : (Nat → Int32)) (x101 : (Nat → Int32)) (x112 : (Nat → Int32)) (y99 : (Nat → Int64)) (y100 : (Nat → Int64)) : Option (Int32 × (Nat → Int32) × (Nat → Int32) × (Nat → Int32) × (Nat → Int32) × (Nat → Int32) × (Nat → Int32) × (Nat → Int32) × (Nat → Int64) × (Nat → Int64)) := bd8 (fX12_goFor x79 x92 x93 x94 x95 x96 x97 v2 x74 x75 x76 x77 x78 x101 y99 y100) fun x74_1 x75_2 x76_3 x77_4 x78_5 x101_6 y99_7 y100_8 => (gd (inb v1 6) (bn (x76_3 v1.toNatClampNeg) fun t_11 => (bd6 (fX12_laysBack x74_1 x75_2 x76_3 x77_4 x78_5 x112) fun x74_12 x75_13 x76_14 x77_15 x78_16 x112_17 => (some (t_11, x74_12, x75_13, x76_14, x77_15, x78_16, x101_6, x112_17, y99_7, y100_8)))))
set_option maxHeartbeats 4000000 in
set_option maxRecDepth 100000 in
theorem wX12_placeIn_0 {l : Launch} {b0 : Nat} {D : GD} {K : KT} {n : Nat} {κ : QT} {X0 : XT} {Y0 : YT} {Z : ZT} (hL : LY n κ) (hN : ([74, 75, 76, 77, 78, 79, 92, 93, 94, 95, 96, 97, 101, 112] : List Nat).Nodup) (hM : ([99, 100] : List Nat).Nodup) (hC : gC l b0 D K RX12 cX12_placeIn (some FieldType.int) 4 8 188 0 0) {x79 : Nat → Int32} {x92 : Nat → Int32} {x93 : Nat → Int32} {x94 : Nat → Int32} {x95 : Nat → Int32} {x96 : Nat → Int32} {x97 : Nat → Int32} {r : Int32} {rx74 : (Nat → Int32)} {rx75 : (Nat → Int32)} {rx76 : (Nat → Int32)} {rx77 : (Nat → Int32)} {rx78 : (Nat → Int32)} {rx101 : (Nat → Int32)} {rx112 : (Nat → Int32)} {ry99 : (Nat → Int64)} {ry100 : (Nat → Int64)} (hret : ∀ pc loc, narrow .int (.int r) = .int r → decode cX12_placeIn pc = .ok (.ireturn, 1) → gV l b0 D K (n, κ, ov X0 [74, 75, 76, 77, 78, 79, 92, 93, 94, 95, 96, 97, 101, 112] [rx74, rx75, rx76, rx77, rx78, x79, x92, x93, x94, x95, x96, x97, rx101, rx112], ov Y0 [99, 100] [ry99, ry100], Z, 0, 0) pc loc [.int r]) {v1 : Int32} {v2 : Int32} {x74 : (Nat → Int32)} {x75 : (Nat → Int32)} {x76 : (Nat → Int32)} {x77 : (Nat → Int32)} {x78 : (Nat → Int32)} {x101 : (Nat → Int32)} {x112 : (Nat → Int32)} {y99 : (Nat → Int64)} {y100 : (Nat → Int64)} (hf : fX12_placeIn_0 x79 x92 x93 x94 x95 x96 x97  v1 v2 x74 x75 x76 x77 x78 x101 x112 y99 y100 = some (r, rx74, rx75, rx76, rx77, rx78, rx101, rx112, ry99, ry100)) : gV l b0 D K (n, κ, ov X0 [74, 75, 76, 77, 78, 79, 92, 93, 94, 95, 96, 97, 101, 112] [x74, x75, x76, x77, x78, x79, x92, x93, x94, x95, x96, x97, x101, x112], ov Y0 [99, 100] [y99, y100], Z, 0, 0) 0 [(0, .ref (b0 + 74)), (1, .int v1), (2, .int v2)] [] := by
  unfold fX12_placeIn_0 at hf
  refine g_aload_n hC 0 dX12_placeIn_0 rfl rfl ?_
  refine g_iload_n hC 2 dX12_placeIn_1 rfl rfl ?_
  obtain ⟨x74_1, x75_2, x76_3, x77_4, x78_5, x101_6, y99_7, y100_8, q_9, hf⟩ := bd8E hf
  refine g_callV_v (a := 74) hC (X' := ov X0 [74, 75, 76, 77, 78, 79, 92, 93, 94, 95, 96, 97, 101, 112] [x74_1, x75_2, x76_3, x77_4, x78_5, x79, x92, x93, x94, x95, x96, x97, x101_6, x112]) (Y' := ov Y0 [99, 100] [y99_7, y100_8]) (As := [.int v2]) (gMv_eq (c_X12_goFor l hL (ov_map hN [0, 1, 2, 3, 4, 5, 6, 7, 8, 9, 10, 11, 12] (by rfl) (by rfl)) (ov_map hM [0, 1] (by rfl) (by rfl)) q_9) (ov_ovE hN (by rfl) [0, 1, 2, 3, 4, 5, 6, 7, 8, 9, 10, 11, 12] [13] (by rfl) (by rfl) [x112] (by rfl) (by rfl) (by rfl) 14 (by rfl) (by decide)) (ov_ovE hM (by rfl) [0, 1] [] (by rfl) (by rfl) [] (by rfl) (by rfl) (by rfl) 2 (by rfl) (by decide))) tw_1685 tw_1682 tw_127 tw_1684 tw_100 (ci := 12) rfl (by decide) (kk_74 hL) (kn_74 hL) pd_X12_goFor (by decide) (by decide) rfl rfl (Nat.le_of_ble_eq_true rfl) rfl dX12_placeIn_2 ?_
  refine g_aload_n hC 0 dX12_placeIn_5 rfl rfl ?_
  refine gt_X12_13 hC (a := 74) (kk_74 hL) (kn_74 hL) dX12_placeIn_6 ?_
  refine g_ref (b := 76) rfl ?_
  refine g_iload_n hC 1 dX12_placeIn_9 rfl rfl ?_
  obtain ⟨h_10, hf⟩ := gdE hf
  refine g_iald hC (x := x76_3) (kk_76 hL) (kn_76 hL) (ov_get hN 2 rfl rfl) (inb_in h_10) dX12_placeIn_10 ?_
  obtain ⟨t_11, et_11, hf⟩ := bnE hf
  refine g_topi et_11 ?_
  refine g_istore_n hC (i := 3) [(3, .int t_11), (0, .ref (b0 + 74)), (1, .int v1), (2, .int v2)] rfl dX12_placeIn_11 (by decide) rfl ?_
  refine g_aload_n hC 1 dX12_placeIn_12 rfl rfl ?_
  obtain ⟨x74_12, x75_13, x76_14, x77_15, x78_16, x112_17, q_18, hf⟩ := bd6E hf
  refine g_callV_v (a := 74) hC (X' := ov X0 [74, 75, 76, 77, 78, 79, 92, 93, 94, 95, 96, 97, 101, 112] [x74_12, x75_13, x76_14, x77_15, x78_16, x79, x92, x93, x94, x95, x96, x97, x101_6, x112_17]) (Y' := ov Y0 [99, 100] [y99_7, y100_8]) (As := []) (gMv_eq (c_X12_laysBack l hL (ov_map hN [0, 1, 2, 3, 4, 13] (by rfl) (by rfl)) (ov_map hM [] (by rfl) (by rfl)) q_18) (ov_ovE hN (by rfl) [0, 1, 2, 3, 4, 13] [5, 6, 7, 8, 9, 10, 11, 12] (by rfl) (by rfl) [x79, x92, x93, x94, x95, x96, x97, x101_6] (by rfl) (by rfl) (by rfl) 14 (by rfl) (by decide)) (ov_ovE hM (by rfl) [] [0, 1] (by rfl) (by rfl) [y99_7, y100_8] (by rfl) (by rfl) (by rfl) 2 (by rfl) (by decide))) tw_1693 tw_1690 tw_127 tw_1692 tw_102 (ci := 12) rfl (by decide) (kk_74 hL) (kn_74 hL) pd_X12_laysBack (by decide) (by decide) rfl rfl (Nat.le_of_ble_eq_true rfl) rfl dX12_placeIn_13 ?_
  refine g_iload_n hC 0 dX12_placeIn_16 rfl rfl ?_
  obtain ⟨rfl, rfl, rfl, rfl, rfl, rfl, rfl, rfl, rfl, rfl⟩ := sm10E hf
  exact hret _ _ rfl dX12_placeIn_17

def fX12_placeIn   (x79 : Nat → Int32) (x92 : Nat → Int32) (x93 : Nat → Int32) (x94 : Nat → Int32) (x95 : Nat → Int32) (x96 : Nat → Int32) (x97 : Nat → Int32)  (v1 : Int32) (v2 : Int32) (x74 : Nat → Int32) (x75 : Nat → Int32) (x76 : Nat → Int32) (x77 : Nat → Int32) (x78 : Nat → Int32) (x101 : Nat → Int32) (x112 : Nat → Int32) (y99 : Nat → Int64) (y100 : Nat → Int64) : Option (Int32 × (Nat → Int32) × (Nat → Int32) × (Nat → Int32) × (Nat → Int32) × (Nat → Int32) × (Nat → Int32) × (Nat → Int32) × (Nat → Int64) × (Nat → Int64)) := fX12_placeIn_0 x79 x92 x93 x94 x95 x96 x97 v1 v2 x74 x75 x76 x77 x78 x101 x112 y99 y100

set_option maxHeartbeats 4000000 in
set_option maxRecDepth 100000 in
theorem c_X12_placeIn (l : Launch) {b0 : Nat} {D : GD} {n : Nat} {κ : QT} {X0 : XT} {Y0 : YT} {Z : ZT} (hL : LY n κ) {x74 : Nat → Int32} {x75 : Nat → Int32} {x76 : Nat → Int32} {x77 : Nat → Int32} {x78 : Nat → Int32} {x79 : Nat → Int32} {x92 : Nat → Int32} {x93 : Nat → Int32} {x94 : Nat → Int32} {x95 : Nat → Int32} {x96 : Nat → Int32} {x97 : Nat → Int32} {x101 : Nat → Int32} {x112 : Nat → Int32} {y99 : Nat → Int64} {y100 : Nat → Int64} (hx : ([74, 75, 76, 77, 78, 79, 92, 93, 94, 95, 96, 97, 101, 112] : List Nat).map X0 = [x74, x75, x76, x77, x78, x79, x92, x93, x94, x95, x96, x97, x101, x112]) (hy : ([99, 100] : List Nat).map Y0 = [y99, y100]) {v1 : Int32} {v2 : Int32} {r : Int32} {rx74 : (Nat → Int32)} {rx75 : (Nat → Int32)} {rx76 : (Nat → Int32)} {rx77 : (Nat → Int32)} {rx78 : (Nat → Int32)} {rx101 : (Nat → Int32)} {rx112 : (Nat → Int32)} {ry99 : (Nat → Int64)} {ry100 : (Nat → Int64)} (hf : fX12_placeIn x79 x92 x93 x94 x95 x96 x97 v1 v2 x74 x75 x76 x77 x78 x101 x112 y99 y100 = some (r, rx74, rx75, rx76, rx77, rx78, rx101, rx112, ry99, ry100)) : gMi l yX12_placeIn cX12_placeIn 4 (some FieldType.int) 8 188 0 0 b0 D [.ref (b0 + 74), .int v1, .int v2] (n, κ, X0, Y0, Z) (n, κ, ov X0 [74, 75, 76, 77, 78, 79, 92, 93, 94, 95, 96, 97, 101, 112] [rx74, rx75, rx76, rx77, rx78, x79, x92, x93, x94, x95, x96, x97, rx101, rx112], ov Y0 [99, 100] [ry99, ry100], Z) r := by
  have hN : ([74, 75, 76, 77, 78, 79, 92, 93, 94, 95, 96, 97, 101, 112] : List Nat).Nodup := by decide
  have hM : ([99, 100] : List Nat).Nodup := by decide
  refine g_meti (own := RX12) (by decide) rfl rfl (Nat.le_of_ble_eq_true rfl) ?_
  intro K hC hret
  have e := wX12_placeIn_0 hL hN hM hC  hret hf
  rw [ov_id' hx, ov_id' hy] at e
  exact g_sub [0, 1, 2] rfl e

-- X12_ahead
def fX12_ahead_89   (x79 : Nat → Int32) (x92 : Nat → Int32) (x93 : Nat → Int32) (x94 : Nat → Int32) (x95 : Nat → Int32) (x96 : Nat → Int32) (x97 : Nat → Int32)  (s0 : Int32) (x74 : (Nat → Int32)) (x75 : (Nat → Int32)) (x76 : (Nat → Int32)) (x77 : (Nat → Int32)) (x78 : (Nat → Int32)) (x101 : (Nat → Int32)) (x112 : (Nat → Int32)) (y99 : (Nat → Int64)) (y100 : (Nat → Int64)) : Option (Int32 × (Nat → Int32) × (Nat → Int32) × (Nat → Int32) × (Nat → Int32) × (Nat → Int32) × (Nat → Int32) × (Nat → Int32) × (Nat → Int64) × (Nat → Int64)) := bd6 (fX12_laysBack x74 x75 x76 x77 x78 x112) fun x74_1 x75_2 x76_3 x77_4 x78_5 x112_6 => (some (s0, x74_1, x75_2, x76_3, x77_4, x78_5, x101, x112_6, y99, y100))
set_option maxHeartbeats 4000000 in
set_option maxRecDepth 100000 in
theorem wX12_ahead_89 {l : Launch} {b0 : Nat} {D : GD} {K : KT} {n : Nat} {κ : QT} {X0 : XT} {Y0 : YT} {Z : ZT} (hL : LY n κ) (hN : ([74, 75, 76, 77, 78, 79, 92, 93, 94, 95, 96, 97, 101, 112] : List Nat).Nodup) (hM : ([99, 100] : List Nat).Nodup) (hC : gC l b0 D K RX12 cX12_ahead (some FieldType.int) 5 8 188 0 0) {x79 : Nat → Int32} {x92 : Nat → Int32} {x93 : Nat → Int32} {x94 : Nat → Int32} {x95 : Nat → Int32} {x96 : Nat → Int32} {x97 : Nat → Int32} {r : Int32} {rx74 : (Nat → Int32)} {rx75 : (Nat → Int32)} {rx76 : (Nat → Int32)} {rx77 : (Nat → Int32)} {rx78 : (Nat → Int32)} {rx101 : (Nat → Int32)} {rx112 : (Nat → Int32)} {ry99 : (Nat → Int64)} {ry100 : (Nat → Int64)} (hret : ∀ pc loc, narrow .int (.int r) = .int r → decode cX12_ahead pc = .ok (.ireturn, 1) → gV l b0 D K (n, κ, ov X0 [74, 75, 76, 77, 78, 79, 92, 93, 94, 95, 96, 97, 101, 112] [rx74, rx75, rx76, rx77, rx78, x79, x92, x93, x94, x95, x96, x97, rx101, rx112], ov Y0 [99, 100] [ry99, ry100], Z, 0, 0) pc loc [.int r]) {s0 : Int32} {x74 : (Nat → Int32)} {x75 : (Nat → Int32)} {x76 : (Nat → Int32)} {x77 : (Nat → Int32)} {x78 : (Nat → Int32)} {x101 : (Nat → Int32)} {x112 : (Nat → Int32)} {y99 : (Nat → Int64)} {y100 : (Nat → Int64)} (hf : fX12_ahead_89 x79 x92 x93 x94 x95 x96 x97  s0 x74 x75 x76 x77 x78 x101 x112 y99 y100 = some (r, rx74, rx75, rx76, rx77, rx78, rx101, rx112, ry99, ry100)) : gV l b0 D K (n, κ, ov X0 [74, 75, 76, 77, 78, 79, 92, 93, 94, 95, 96, 97, 101, 112] [x74, x75, x76, x77, x78, x79, x92, x93, x94, x95, x96, x97, x101, x112], ov Y0 [99, 100] [y99, y100], Z, 0, 0) 89 [(0, .ref (b0 + 74))] [.int s0] := by
  unfold fX12_ahead_89 at hf
  refine g_istore hC (i := 4) [(4, .int s0), (0, .ref (b0 + 74))] dX12_ahead_89 (by decide) rfl ?_
  refine g_aload_n hC 1 dX12_ahead_91 rfl rfl ?_
  obtain ⟨x74_1, x75_2, x76_3, x77_4, x78_5, x112_6, q_7, hf⟩ := bd6E hf
  refine g_callV_v (a := 74) hC (X' := ov X0 [74, 75, 76, 77, 78, 79, 92, 93, 94, 95, 96, 97, 101, 112] [x74_1, x75_2, x76_3, x77_4, x78_5, x79, x92, x93, x94, x95, x96, x97, x101, x112_6]) (Y' := ov Y0 [99, 100] [y99, y100]) (As := []) (gMv_eq (c_X12_laysBack l hL (ov_map hN [0, 1, 2, 3, 4, 13] (by rfl) (by rfl)) (ov_map hM [] (by rfl) (by rfl)) q_7) (ov_ovE hN (by rfl) [0, 1, 2, 3, 4, 13] [5, 6, 7, 8, 9, 10, 11, 12] (by rfl) (by rfl) [x79, x92, x93, x94, x95, x96, x97, x101] (by rfl) (by rfl) (by rfl) 14 (by rfl) (by decide)) (ov_ovE hM (by rfl) [] [0, 1] (by rfl) (by rfl) [y99, y100] (by rfl) (by rfl) (by rfl) 2 (by rfl) (by decide))) tw_1693 tw_1690 tw_127 tw_1692 tw_102 (ci := 12) rfl (by decide) (kk_74 hL) (kn_74 hL) pd_X12_laysBack (by decide) (by decide) rfl rfl (Nat.le_of_ble_eq_true rfl) rfl dX12_ahead_92 ?_
  refine g_iload hC 0 dX12_ahead_95 rfl ?_
  obtain ⟨rfl, rfl, rfl, rfl, rfl, rfl, rfl, rfl, rfl, rfl⟩ := sm10E hf
  exact hret _ _ rfl dX12_ahead_97

def fX12_ahead_31   (x79 : Nat → Int32) (x92 : Nat → Int32) (x93 : Nat → Int32) (x94 : Nat → Int32) (x95 : Nat → Int32) (x96 : Nat → Int32) (x97 : Nat → Int32)  (v1 : Int32) (v2 : Int32) (v3 : Int32) (x74 : (Nat → Int32)) (x75 : (Nat → Int32)) (x76 : (Nat → Int32)) (x77 : (Nat → Int32)) (x78 : (Nat → Int32)) (x101 : (Nat → Int32)) (x112 : (Nat → Int32)) (y99 : (Nat → Int64)) (y100 : (Nat → Int64)) : Option (Int32 × (Nat → Int32) × (Nat → Int32) × (Nat → Int32) × (Nat → Int32) × (Nat → Int32) × (Nat → Int32) × (Nat → Int32) × (Nat → Int64) × (Nat → Int64)) := bd1 (fX12_in v2.toInt64 0 100) fun r_1 => (if r_1 = 0 then (some ((-1), x74, x75, x76, x77, x78, x101, x112, y99, y100)) else (bd6 (fX12_keepsAll x74 x75 x76 x77 x78 x112) fun x74_3 x75_4 x76_5 x77_6 x78_7 x112_8 => (bd8 (fX12_goFor x79 x92 x93 x94 x95 x96 x97 v2 x74_3 x75_4 x76_5 x77_6 x78_7 x101 y99 y100) fun x74_10 x75_11 x76_12 x77_13 x78_14 x101_15 y99_16 y100_17 => (if v3 = 0 then (gd (inb v1 6) (fX12_ahead_89 x79 x92 x93 x94 x95 x96 x97  (x76_12 v1.toNatClampNeg) x74_10 x75_11 x76_12 x77_13 x78_14 x101_15 x112_8 y99_16 y100_17)) else (if v3 = 1 then (bd1 (fX12_inRiver x75_11 x76_12) fun r_20 => (bd1 (fX12_bits r_20) fun r_22 => (fX12_ahead_89 x79 x92 x93 x94 x95 x96 x97  r_22 x74_10 x75_11 x76_12 x77_13 x78_14 x101_15 x112_8 y99_16 y100_17))) else (gd (inb 6 11) (fX12_ahead_89 x79 x92 x93 x94 x95 x96 x97  (x75_11 (6 : Int32).toNatClampNeg) x74_10 x75_11 x76_12 x77_13 x78_14 x101_15 x112_8 y99_16 y100_17)))))))
set_option maxHeartbeats 4000000 in
set_option maxRecDepth 100000 in
theorem wX12_ahead_31 {l : Launch} {b0 : Nat} {D : GD} {K : KT} {n : Nat} {κ : QT} {X0 : XT} {Y0 : YT} {Z : ZT} (hL : LY n κ) (hN : ([74, 75, 76, 77, 78, 79, 92, 93, 94, 95, 96, 97, 101, 112] : List Nat).Nodup) (hM : ([99, 100] : List Nat).Nodup) (hC : gC l b0 D K RX12 cX12_ahead (some FieldType.int) 5 8 188 0 0) {x79 : Nat → Int32} {x92 : Nat → Int32} {x93 : Nat → Int32} {x94 : Nat → Int32} {x95 : Nat → Int32} {x96 : Nat → Int32} {x97 : Nat → Int32} {r : Int32} {rx74 : (Nat → Int32)} {rx75 : (Nat → Int32)} {rx76 : (Nat → Int32)} {rx77 : (Nat → Int32)} {rx78 : (Nat → Int32)} {rx101 : (Nat → Int32)} {rx112 : (Nat → Int32)} {ry99 : (Nat → Int64)} {ry100 : (Nat → Int64)} (hret : ∀ pc loc, narrow .int (.int r) = .int r → decode cX12_ahead pc = .ok (.ireturn, 1) → gV l b0 D K (n, κ, ov X0 [74, 75, 76, 77, 78, 79, 92, 93, 94, 95, 96, 97, 101, 112] [rx74, rx75, rx76, rx77, rx78, x79, x92, x93, x94, x95, x96, x97, rx101, rx112], ov Y0 [99, 100] [ry99, ry100], Z, 0, 0) pc loc [.int r]) {v1 : Int32} {v2 : Int32} {v3 : Int32} {x74 : (Nat → Int32)} {x75 : (Nat → Int32)} {x76 : (Nat → Int32)} {x77 : (Nat → Int32)} {x78 : (Nat → Int32)} {x101 : (Nat → Int32)} {x112 : (Nat → Int32)} {y99 : (Nat → Int64)} {y100 : (Nat → Int64)} (hf : fX12_ahead_31 x79 x92 x93 x94 x95 x96 x97  v1 v2 v3 x74 x75 x76 x77 x78 x101 x112 y99 y100 = some (r, rx74, rx75, rx76, rx77, rx78, rx101, rx112, ry99, ry100)) : gV l b0 D K (n, κ, ov X0 [74, 75, 76, 77, 78, 79, 92, 93, 94, 95, 96, 97, 101, 112] [x74, x75, x76, x77, x78, x79, x92, x93, x94, x95, x96, x97, x101, x112], ov Y0 [99, 100] [y99, y100], Z, 0, 0) 31 [(0, .ref (b0 + 74)), (1, .int v1), (2, .int v2), (3, .int v3)] [] := by
  unfold fX12_ahead_31 at hf
  refine g_iload_n hC 2 dX12_ahead_31 rfl rfl ?_
  refine g_i2l hC dX12_ahead_32 ?_
  refine g_lconst hC (v := 0) dX12_ahead_33 rfl ?_
  refine g_ldc2_w hC (v := 100) tw_1669 dX12_ahead_34 ?_
  obtain ⟨r_1, q_2, hf⟩ := bd1E hf
  refine g_callS_i hC (X' := ov X0 [74, 75, 76, 77, 78, 79, 92, 93, 94, 95, 96, 97, 101, 112] [x74, x75, x76, x77, x78, x79, x92, x93, x94, x95, x96, x97, x101, x112]) (Y' := ov Y0 [99, 100] [y99, y100]) (As := [.long v2.toInt64, .long 0, .long 100]) (gMi_eq (c_X12_in l hL (ov_map hN [] (by rfl) (by rfl)) (ov_map hM [] (by rfl) (by rfl)) q_2) (ov_ovE hN (by rfl) [] [0, 1, 2, 3, 4, 5, 6, 7, 8, 9, 10, 11, 12, 13] (by rfl) (by rfl) [x74, x75, x76, x77, x78, x79, x92, x93, x94, x95, x96, x97, x101, x112] (by rfl) (by rfl) (by rfl) 14 (by rfl) (by decide)) (ov_ovE hM (by rfl) [] [0, 1] (by rfl) (by rfl) [y99, y100] (by rfl) (by rfl) (by rfl) 2 (by rfl) (by decide))) tw_1428 tw_1426 tw_127 tw_1427 pd_X12_in (by decide) (by decide) rfl rfl (Nat.le_of_ble_eq_true rfl) rfl dX12_ahead_37 ?_
  refine g_if_ne hC 45 dX12_ahead_40 (by decide) (fun hc => ?_) (fun hc => ?_)
  · replace hf := ifF hf hc
    refine g_aload_n hC 0 dX12_ahead_45 rfl rfl ?_
    obtain ⟨x74_3, x75_4, x76_5, x77_6, x78_7, x112_8, q_9, hf⟩ := bd6E hf
    refine g_callV_v (a := 74) hC (X' := ov X0 [74, 75, 76, 77, 78, 79, 92, 93, 94, 95, 96, 97, 101, 112] [x74_3, x75_4, x76_5, x77_6, x78_7, x79, x92, x93, x94, x95, x96, x97, x101, x112_8]) (Y' := ov Y0 [99, 100] [y99, y100]) (As := []) (gMv_eq (c_X12_keepsAll l hL (ov_map hN [0, 1, 2, 3, 4, 13] (by rfl) (by rfl)) (ov_map hM [] (by rfl) (by rfl)) q_9) (ov_ovE hN (by rfl) [0, 1, 2, 3, 4, 13] [5, 6, 7, 8, 9, 10, 11, 12] (by rfl) (by rfl) [x79, x92, x93, x94, x95, x96, x97, x101] (by rfl) (by rfl) (by rfl) 14 (by rfl) (by decide)) (ov_ovE hM (by rfl) [] [0, 1] (by rfl) (by rfl) [y99, y100] (by rfl) (by rfl) (by rfl) 2 (by rfl) (by decide))) tw_1673 tw_1670 tw_127 tw_1672 tw_97 (ci := 12) rfl (by decide) (kk_74 hL) (kn_74 hL) pd_X12_keepsAll (by decide) (by decide) rfl rfl (Nat.le_of_ble_eq_true rfl) rfl dX12_ahead_46 ?_
    refine g_aload_n hC 0 dX12_ahead_49 rfl rfl ?_
    refine g_iload_n hC 2 dX12_ahead_50 rfl rfl ?_
    obtain ⟨x74_10, x75_11, x76_12, x77_13, x78_14, x101_15, y99_16, y100_17, q_18, hf⟩ := bd8E hf
    refine g_callV_v (a := 74) hC (X' := ov X0 [74, 75, 76, 77, 78, 79, 92, 93, 94, 95, 96, 97, 101, 112] [x74_10, x75_11, x76_12, x77_13, x78_14, x79, x92, x93, x94, x95, x96, x97, x101_15, x112_8]) (Y' := ov Y0 [99, 100] [y99_16, y100_17]) (As := [.int v2]) (gMv_eq (c_X12_goFor l hL (ov_map hN [0, 1, 2, 3, 4, 5, 6, 7, 8, 9, 10, 11, 12] (by rfl) (by rfl)) (ov_map hM [0, 1] (by rfl) (by rfl)) q_18) (ov_ovE hN (by rfl) [0, 1, 2, 3, 4, 5, 6, 7, 8, 9, 10, 11, 12] [13] (by rfl) (by rfl) [x112_8] (by rfl) (by rfl) (by rfl) 14 (by rfl) (by decide)) (ov_ovE hM (by rfl) [0, 1] [] (by rfl) (by rfl) [] (by rfl) (by rfl) (by rfl) 2 (by rfl) (by decide))) tw_1685 tw_1682 tw_127 tw_1684 tw_100 (ci := 12) rfl (by decide) (kk_74 hL) (kn_74 hL) pd_X12_goFor (by decide) (by decide) rfl rfl (Nat.le_of_ble_eq_true rfl) rfl dX12_ahead_51 ?_
    refine g_iload_n hC 3 dX12_ahead_54 rfl rfl ?_
    refine g_if_ne hC 67 dX12_ahead_55 (by decide) (fun hc => ?_) (fun hc => ?_)
    · replace hf := ifF hf hc
      refine g_iload_n hC 3 dX12_ahead_67 rfl rfl ?_
      refine g_iconst hC (v := 1) dX12_ahead_68 ic_1 ?_
      refine g_icmp_ne hC 82 dX12_ahead_69 (by decide) (fun hc => ?_) (fun hc => ?_)
      · replace hf := ifF hf hc
        refine g_aload_n hC 0 dX12_ahead_82 rfl rfl ?_
        refine gt_X12_9 hC (a := 74) (kk_74 hL) (kn_74 hL) dX12_ahead_83 ?_
        refine g_ref (b := 75) rfl ?_
        refine g_bipush hC (v := 6) dX12_ahead_86 bp_6 ?_
        obtain ⟨h_19, hf⟩ := gdE hf
        refine g_iald hC (x := x75_11) (kk_75 hL) (kn_75 hL) (ov_get hN 1 rfl rfl) (inb_in h_19) dX12_ahead_88 ?_
        exact g_sub [0] rfl (wX12_ahead_89 hL hN hM hC  hret  hf)
      · replace hf := ifT hf hc
        refine g_aload_n hC 0 dX12_ahead_72 rfl rfl ?_
        obtain ⟨r_20, q_21, hf⟩ := bd1E hf
        refine g_callV_i (a := 74) hC (X' := ov X0 [74, 75, 76, 77, 78, 79, 92, 93, 94, 95, 96, 97, 101, 112] [x74_10, x75_11, x76_12, x77_13, x78_14, x79, x92, x93, x94, x95, x96, x97, x101_15, x112_8]) (Y' := ov Y0 [99, 100] [y99_16, y100_17]) (As := []) (gMi_eq (c_X12_inRiver l hL (ov_map hN [1, 2] (by rfl) (by rfl)) (ov_map hM [] (by rfl) (by rfl)) q_21) (ov_ovE hN (by rfl) [1, 2] [0, 3, 4, 5, 6, 7, 8, 9, 10, 11, 12, 13] (by rfl) (by rfl) [x74_10, x77_13, x78_14, x79, x92, x93, x94, x95, x96, x97, x101_15, x112_8] (by rfl) (by rfl) (by rfl) 14 (by rfl) (by decide)) (ov_ovE hM (by rfl) [] [0, 1] (by rfl) (by rfl) [y99_16, y100_17] (by rfl) (by rfl) (by rfl) 2 (by rfl) (by decide))) tw_1689 tw_1686 tw_127 tw_1688 tw_101 (ci := 12) rfl (by decide) (kk_74 hL) (kn_74 hL) pd_X12_inRiver (by decide) (by decide) rfl rfl (Nat.le_of_ble_eq_true rfl) rfl dX12_ahead_73 ?_
        obtain ⟨r_22, q_23, hf⟩ := bd1E hf
        refine g_callS_i hC (X' := ov X0 [74, 75, 76, 77, 78, 79, 92, 93, 94, 95, 96, 97, 101, 112] [x74_10, x75_11, x76_12, x77_13, x78_14, x79, x92, x93, x94, x95, x96, x97, x101_15, x112_8]) (Y' := ov Y0 [99, 100] [y99_16, y100_17]) (As := [.int r_20]) (gMi_eq (c_X12_bits l hL (ov_map hN [] (by rfl) (by rfl)) (ov_map hM [] (by rfl) (by rfl)) q_23) (ov_ovE hN (by rfl) [] [0, 1, 2, 3, 4, 5, 6, 7, 8, 9, 10, 11, 12, 13] (by rfl) (by rfl) [x74_10, x75_11, x76_12, x77_13, x78_14, x79, x92, x93, x94, x95, x96, x97, x101_15, x112_8] (by rfl) (by rfl) (by rfl) 14 (by rfl) (by decide)) (ov_ovE hM (by rfl) [] [0, 1] (by rfl) (by rfl) [y99_16, y100_17] (by rfl) (by rfl) (by rfl) 2 (by rfl) (by decide))) tw_1634 tw_1632 tw_127 tw_1633 pd_X12_bits (by decide) (by decide) rfl rfl (Nat.le_of_ble_eq_true rfl) rfl dX12_ahead_76 ?_
        refine g_goto hC 89 dX12_ahead_79 (by decide) ?_
        exact g_sub [0] rfl (wX12_ahead_89 hL hN hM hC  hret  hf)
    · replace hf := ifT hf hc
      refine g_aload_n hC 0 dX12_ahead_58 rfl rfl ?_
      refine gt_X12_13 hC (a := 74) (kk_74 hL) (kn_74 hL) dX12_ahead_59 ?_
      refine g_ref (b := 76) rfl ?_
      refine g_iload_n hC 1 dX12_ahead_62 rfl rfl ?_
      obtain ⟨h_24, hf⟩ := gdE hf
      refine g_iald hC (x := x76_12) (kk_76 hL) (kn_76 hL) (ov_get hN 2 rfl rfl) (inb_in h_24) dX12_ahead_63 ?_
      refine g_goto hC 89 dX12_ahead_64 (by decide) ?_
      exact g_sub [0] rfl (wX12_ahead_89 hL hN hM hC  hret  hf)
  · replace hf := ifT hf hc
    refine g_iconst hC (v := (-1)) dX12_ahead_43 ic_m1 ?_
    obtain ⟨rfl, rfl, rfl, rfl, rfl, rfl, rfl, rfl, rfl, rfl⟩ := sm10E hf
    exact hret _ _ rfl dX12_ahead_44

def fX12_ahead_0   (x79 : Nat → Int32) (x92 : Nat → Int32) (x93 : Nat → Int32) (x94 : Nat → Int32) (x95 : Nat → Int32) (x96 : Nat → Int32) (x97 : Nat → Int32)  (v1 : Int32) (v2 : Int32) (v3 : Int32) (x74 : (Nat → Int32)) (x75 : (Nat → Int32)) (x76 : (Nat → Int32)) (x77 : (Nat → Int32)) (x78 : (Nat → Int32)) (x101 : (Nat → Int32)) (x112 : (Nat → Int32)) (y99 : (Nat → Int64)) (y100 : (Nat → Int64)) : Option (Int32 × (Nat → Int32) × (Nat → Int32) × (Nat → Int32) × (Nat → Int32) × (Nat → Int32) × (Nat → Int32) × (Nat → Int32) × (Nat → Int64) × (Nat → Int64)) := bd1 (fX12_isTown x75) fun r_1 => (if r_1 = 0 then (some ((-1), x74, x75, x76, x77, x78, x101, x112, y99, y100)) else (bd1 (fX12_in v3.toInt64 0 2) fun r_3 => (if r_3 = 0 then (some ((-1), x74, x75, x76, x77, x78, x101, x112, y99, y100)) else (if v3 = 0 then (bd1 (fX12_isHouse x75 v1) fun r_5 => (if r_5 = 0 then (some ((-1), x74, x75, x76, x77, x78, x101, x112, y99, y100)) else (fX12_ahead_31 x79 x92 x93 x94 x95 x96 x97  v1 v2 v3 x74 x75 x76 x77 x78 x101 x112 y99 y100))) else (fX12_ahead_31 x79 x92 x93 x94 x95 x96 x97  v1 v2 v3 x74 x75 x76 x77 x78 x101 x112 y99 y100)))))
set_option maxHeartbeats 4000000 in
set_option maxRecDepth 100000 in
theorem wX12_ahead_0 {l : Launch} {b0 : Nat} {D : GD} {K : KT} {n : Nat} {κ : QT} {X0 : XT} {Y0 : YT} {Z : ZT} (hL : LY n κ) (hN : ([74, 75, 76, 77, 78, 79, 92, 93, 94, 95, 96, 97, 101, 112] : List Nat).Nodup) (hM : ([99, 100] : List Nat).Nodup) (hC : gC l b0 D K RX12 cX12_ahead (some FieldType.int) 5 8 188 0 0) {x79 : Nat → Int32} {x92 : Nat → Int32} {x93 : Nat → Int32} {x94 : Nat → Int32} {x95 : Nat → Int32} {x96 : Nat → Int32} {x97 : Nat → Int32} {r : Int32} {rx74 : (Nat → Int32)} {rx75 : (Nat → Int32)} {rx76 : (Nat → Int32)} {rx77 : (Nat → Int32)} {rx78 : (Nat → Int32)} {rx101 : (Nat → Int32)} {rx112 : (Nat → Int32)} {ry99 : (Nat → Int64)} {ry100 : (Nat → Int64)} (hret : ∀ pc loc, narrow .int (.int r) = .int r → decode cX12_ahead pc = .ok (.ireturn, 1) → gV l b0 D K (n, κ, ov X0 [74, 75, 76, 77, 78, 79, 92, 93, 94, 95, 96, 97, 101, 112] [rx74, rx75, rx76, rx77, rx78, x79, x92, x93, x94, x95, x96, x97, rx101, rx112], ov Y0 [99, 100] [ry99, ry100], Z, 0, 0) pc loc [.int r]) {v1 : Int32} {v2 : Int32} {v3 : Int32} {x74 : (Nat → Int32)} {x75 : (Nat → Int32)} {x76 : (Nat → Int32)} {x77 : (Nat → Int32)} {x78 : (Nat → Int32)} {x101 : (Nat → Int32)} {x112 : (Nat → Int32)} {y99 : (Nat → Int64)} {y100 : (Nat → Int64)} (hf : fX12_ahead_0 x79 x92 x93 x94 x95 x96 x97  v1 v2 v3 x74 x75 x76 x77 x78 x101 x112 y99 y100 = some (r, rx74, rx75, rx76, rx77, rx78, rx101, rx112, ry99, ry100)) : gV l b0 D K (n, κ, ov X0 [74, 75, 76, 77, 78, 79, 92, 93, 94, 95, 96, 97, 101, 112] [x74, x75, x76, x77, x78, x79, x92, x93, x94, x95, x96, x97, x101, x112], ov Y0 [99, 100] [y99, y100], Z, 0, 0) 0 [(0, .ref (b0 + 74)), (1, .int v1), (2, .int v2), (3, .int v3)] [] := by
  unfold fX12_ahead_0 at hf
  refine g_aload_n hC 0 dX12_ahead_0 rfl rfl ?_
  obtain ⟨r_1, q_2, hf⟩ := bd1E hf
  refine g_callV_i (a := 74) hC (X' := ov X0 [74, 75, 76, 77, 78, 79, 92, 93, 94, 95, 96, 97, 101, 112] [x74, x75, x76, x77, x78, x79, x92, x93, x94, x95, x96, x97, x101, x112]) (Y' := ov Y0 [99, 100] [y99, y100]) (As := []) (gMi_eq (c_X12_isTown l hL (ov_map hN [1] (by rfl) (by rfl)) (ov_map hM [] (by rfl) (by rfl)) q_2) (ov_ovE hN (by rfl) [1] [0, 2, 3, 4, 5, 6, 7, 8, 9, 10, 11, 12, 13] (by rfl) (by rfl) [x74, x76, x77, x78, x79, x92, x93, x94, x95, x96, x97, x101, x112] (by rfl) (by rfl) (by rfl) 14 (by rfl) (by decide)) (ov_ovE hM (by rfl) [] [0, 1] (by rfl) (by rfl) [y99, y100] (by rfl) (by rfl) (by rfl) 2 (by rfl) (by decide))) tw_1585 tw_1582 tw_127 tw_1584 tw_84 (ci := 12) rfl (by decide) (kk_74 hL) (kn_74 hL) pd_X12_isTown (by decide) (by decide) rfl rfl (Nat.le_of_ble_eq_true rfl) rfl dX12_ahead_1 ?_
  refine g_if_eq hC 43 dX12_ahead_4 (by decide) (fun hc => ?_) (fun hc => ?_)
  · replace hf := ifT hf hc
    refine g_iconst hC (v := (-1)) dX12_ahead_43 ic_m1 ?_
    obtain ⟨rfl, rfl, rfl, rfl, rfl, rfl, rfl, rfl, rfl, rfl⟩ := sm10E hf
    exact hret _ _ rfl dX12_ahead_44
  · replace hf := ifF hf hc
    refine g_iload_n hC 3 dX12_ahead_7 rfl rfl ?_
    refine g_i2l hC dX12_ahead_8 ?_
    refine g_lconst hC (v := 0) dX12_ahead_9 rfl ?_
    refine g_ldc2_w hC (v := 2) tw_1668 dX12_ahead_10 ?_
    obtain ⟨r_3, q_4, hf⟩ := bd1E hf
    refine g_callS_i hC (X' := ov X0 [74, 75, 76, 77, 78, 79, 92, 93, 94, 95, 96, 97, 101, 112] [x74, x75, x76, x77, x78, x79, x92, x93, x94, x95, x96, x97, x101, x112]) (Y' := ov Y0 [99, 100] [y99, y100]) (As := [.long v3.toInt64, .long 0, .long 2]) (gMi_eq (c_X12_in l hL (ov_map hN [] (by rfl) (by rfl)) (ov_map hM [] (by rfl) (by rfl)) q_4) (ov_ovE hN (by rfl) [] [0, 1, 2, 3, 4, 5, 6, 7, 8, 9, 10, 11, 12, 13] (by rfl) (by rfl) [x74, x75, x76, x77, x78, x79, x92, x93, x94, x95, x96, x97, x101, x112] (by rfl) (by rfl) (by rfl) 14 (by rfl) (by decide)) (ov_ovE hM (by rfl) [] [0, 1] (by rfl) (by rfl) [y99, y100] (by rfl) (by rfl) (by rfl) 2 (by rfl) (by decide))) tw_1428 tw_1426 tw_127 tw_1427 pd_X12_in (by decide) (by decide) rfl rfl (Nat.le_of_ble_eq_true rfl) rfl dX12_ahead_13 ?_
    refine g_if_eq hC 43 dX12_ahead_16 (by decide) (fun hc => ?_) (fun hc => ?_)
    · replace hf := ifT hf hc
      refine g_iconst hC (v := (-1)) dX12_ahead_43 ic_m1 ?_
      obtain ⟨rfl, rfl, rfl, rfl, rfl, rfl, rfl, rfl, rfl, rfl⟩ := sm10E hf
      exact hret _ _ rfl dX12_ahead_44
    · replace hf := ifF hf hc
      refine g_iload_n hC 3 dX12_ahead_19 rfl rfl ?_
      refine g_if_ne hC 31 dX12_ahead_20 (by decide) (fun hc => ?_) (fun hc => ?_)
      · replace hf := ifF hf hc
        exact g_sub [0, 1, 2, 3] rfl (wX12_ahead_31 hL hN hM hC  hret  hf)
      · replace hf := ifT hf hc
        refine g_aload_n hC 0 dX12_ahead_23 rfl rfl ?_
        refine g_iload_n hC 1 dX12_ahead_24 rfl rfl ?_
        obtain ⟨r_5, q_6, hf⟩ := bd1E hf
        refine g_callV_i (a := 74) hC (X' := ov X0 [74, 75, 76, 77, 78, 79, 92, 93, 94, 95, 96, 97, 101, 112] [x74, x75, x76, x77, x78, x79, x92, x93, x94, x95, x96, x97, x101, x112]) (Y' := ov Y0 [99, 100] [y99, y100]) (As := [.int v1]) (gMi_eq (c_X12_isHouse l hL (ov_map hN [1] (by rfl) (by rfl)) (ov_map hM [] (by rfl) (by rfl)) q_6) (ov_ovE hN (by rfl) [1] [0, 2, 3, 4, 5, 6, 7, 8, 9, 10, 11, 12, 13] (by rfl) (by rfl) [x74, x76, x77, x78, x79, x92, x93, x94, x95, x96, x97, x101, x112] (by rfl) (by rfl) (by rfl) 14 (by rfl) (by decide)) (ov_ovE hM (by rfl) [] [0, 1] (by rfl) (by rfl) [y99, y100] (by rfl) (by rfl) (by rfl) 2 (by rfl) (by decide))) tw_1530 tw_1527 tw_127 tw_1529 tw_74 (ci := 12) rfl (by decide) (kk_74 hL) (kn_74 hL) pd_X12_isHouse (by decide) (by decide) rfl rfl (Nat.le_of_ble_eq_true rfl) rfl dX12_ahead_25 ?_
        refine g_if_eq hC 43 dX12_ahead_28 (by decide) (fun hc => ?_) (fun hc => ?_)
        · replace hf := ifT hf hc
          refine g_iconst hC (v := (-1)) dX12_ahead_43 ic_m1 ?_
          obtain ⟨rfl, rfl, rfl, rfl, rfl, rfl, rfl, rfl, rfl, rfl⟩ := sm10E hf
          exact hret _ _ rfl dX12_ahead_44
        · replace hf := ifF hf hc
          exact g_sub [0, 1, 2, 3] rfl (wX12_ahead_31 hL hN hM hC  hret  hf)

def fX12_ahead   (x79 : Nat → Int32) (x92 : Nat → Int32) (x93 : Nat → Int32) (x94 : Nat → Int32) (x95 : Nat → Int32) (x96 : Nat → Int32) (x97 : Nat → Int32)  (v1 : Int32) (v2 : Int32) (v3 : Int32) (x74 : Nat → Int32) (x75 : Nat → Int32) (x76 : Nat → Int32) (x77 : Nat → Int32) (x78 : Nat → Int32) (x101 : Nat → Int32) (x112 : Nat → Int32) (y99 : Nat → Int64) (y100 : Nat → Int64) : Option (Int32 × (Nat → Int32) × (Nat → Int32) × (Nat → Int32) × (Nat → Int32) × (Nat → Int32) × (Nat → Int32) × (Nat → Int32) × (Nat → Int64) × (Nat → Int64)) := fX12_ahead_0 x79 x92 x93 x94 x95 x96 x97 v1 v2 v3 x74 x75 x76 x77 x78 x101 x112 y99 y100

set_option maxHeartbeats 4000000 in
set_option maxRecDepth 100000 in
theorem c_X12_ahead (l : Launch) {b0 : Nat} {D : GD} {n : Nat} {κ : QT} {X0 : XT} {Y0 : YT} {Z : ZT} (hL : LY n κ) {x74 : Nat → Int32} {x75 : Nat → Int32} {x76 : Nat → Int32} {x77 : Nat → Int32} {x78 : Nat → Int32} {x79 : Nat → Int32} {x92 : Nat → Int32} {x93 : Nat → Int32} {x94 : Nat → Int32} {x95 : Nat → Int32} {x96 : Nat → Int32} {x97 : Nat → Int32} {x101 : Nat → Int32} {x112 : Nat → Int32} {y99 : Nat → Int64} {y100 : Nat → Int64} (hx : ([74, 75, 76, 77, 78, 79, 92, 93, 94, 95, 96, 97, 101, 112] : List Nat).map X0 = [x74, x75, x76, x77, x78, x79, x92, x93, x94, x95, x96, x97, x101, x112]) (hy : ([99, 100] : List Nat).map Y0 = [y99, y100]) {v1 : Int32} {v2 : Int32} {v3 : Int32} {r : Int32} {rx74 : (Nat → Int32)} {rx75 : (Nat → Int32)} {rx76 : (Nat → Int32)} {rx77 : (Nat → Int32)} {rx78 : (Nat → Int32)} {rx101 : (Nat → Int32)} {rx112 : (Nat → Int32)} {ry99 : (Nat → Int64)} {ry100 : (Nat → Int64)} (hf : fX12_ahead x79 x92 x93 x94 x95 x96 x97 v1 v2 v3 x74 x75 x76 x77 x78 x101 x112 y99 y100 = some (r, rx74, rx75, rx76, rx77, rx78, rx101, rx112, ry99, ry100)) : gMi l yX12_ahead cX12_ahead 5 (some FieldType.int) 8 188 0 0 b0 D [.ref (b0 + 74), .int v1, .int v2, .int v3] (n, κ, X0, Y0, Z) (n, κ, ov X0 [74, 75, 76, 77, 78, 79, 92, 93, 94, 95, 96, 97, 101, 112] [rx74, rx75, rx76, rx77, rx78, x79, x92, x93, x94, x95, x96, x97, rx101, rx112], ov Y0 [99, 100] [ry99, ry100], Z) r := by
  have hN : ([74, 75, 76, 77, 78, 79, 92, 93, 94, 95, 96, 97, 101, 112] : List Nat).Nodup := by decide
  have hM : ([99, 100] : List Nat).Nodup := by decide
  refine g_meti (own := RX12) (by decide) rfl rfl (Nat.le_of_ble_eq_true rfl) ?_
  intro K hC hret
  have e := wX12_ahead_0 hL hN hM hC  hret hf
  rw [ov_id' hx, ov_id' hy] at e
  exact g_sub [0, 1, 2, 3] rfl e

-- X12_laysDown
def fX12_laysDown_85   (x79 : Nat → Int32) (x92 : Nat → Int32) (x93 : Nat → Int32) (x94 : Nat → Int32) (x95 : Nat → Int32) (x96 : Nat → Int32) (x97 : Nat → Int32)  (k28 : Int32 → (Nat → Int32) → (Nat → Int32) → (Nat → Int32) → (Nat → Int32) → (Nat → Int32) → (Nat → Int32) → (Nat → Int32) → (Nat → Int32) → (Nat → Int64) → (Nat → Int64) → Option ((Nat → Int32) × (Nat → Int32) × (Nat → Int32) × (Nat → Int32) × (Nat → Int32) × (Nat → Int32) × (Nat → Int32) × (Nat → Int32) × (Nat → Int64) × (Nat → Int64))) (k36 : Int32 → Int32 → (Nat → Int32) → (Nat → Int32) → (Nat → Int32) → (Nat → Int32) → (Nat → Int32) → (Nat → Int32) → (Nat → Int32) → (Nat → Int32) → (Nat → Int64) → (Nat → Int64) → Option ((Nat → Int32) × (Nat → Int32) × (Nat → Int32) × (Nat → Int32) × (Nat → Int32) × (Nat → Int32) × (Nat → Int32) × (Nat → Int32) × (Nat → Int64) × (Nat → Int64))) (v1 : Int32) (v2 : Int32) (s0 : Int32) (s1 : Int32) (x74 : (Nat → Int32)) (x75 : (Nat → Int32)) (x76 : (Nat → Int32)) (x77 : (Nat → Int32)) (x78 : (Nat → Int32)) (x101 : (Nat → Int32)) (x104 : (Nat → Int32)) (x112 : (Nat → Int32)) (y99 : (Nat → Int64)) (y100 : (Nat → Int64)) : Option ((Nat → Int32) × (Nat → Int32) × (Nat → Int32) × (Nat → Int32) × (Nat → Int32) × (Nat → Int32) × (Nat → Int32) × (Nat → Int32) × (Nat → Int64) × (Nat → Int64)) := gd (inb s1 6) (bn (v2 + 1) fun t_2 => (k36 v1 t_2 x74 x75 x76 x77 x78 x101 (upd x104 s1.toNatClampNeg s0) x112 y99 y100))
set_option maxHeartbeats 4000000 in
set_option maxRecDepth 100000 in
theorem wX12_laysDown_85 {l : Launch} {b0 : Nat} {D : GD} {K : KT} {n : Nat} {κ : QT} {X0 : XT} {Y0 : YT} {Z : ZT} (hL : LY n κ) (hN : ([74, 75, 76, 77, 78, 79, 92, 93, 94, 95, 96, 97, 101, 104, 112] : List Nat).Nodup) (hM : ([99, 100] : List Nat).Nodup) (hC : gC l b0 D K RX12 cX12_laysDown none 3 7 166 0 0) {x79 : Nat → Int32} {x92 : Nat → Int32} {x93 : Nat → Int32} {x94 : Nat → Int32} {x95 : Nat → Int32} {x96 : Nat → Int32} {x97 : Nat → Int32} {rx74 : (Nat → Int32)} {rx75 : (Nat → Int32)} {rx76 : (Nat → Int32)} {rx77 : (Nat → Int32)} {rx78 : (Nat → Int32)} {rx101 : (Nat → Int32)} {rx104 : (Nat → Int32)} {rx112 : (Nat → Int32)} {ry99 : (Nat → Int64)} {ry100 : (Nat → Int64)} (hret : ∀ pc loc, decode cX12_laysDown pc = .ok (.return_, 1) → gV l b0 D K (n, κ, ov X0 [74, 75, 76, 77, 78, 79, 92, 93, 94, 95, 96, 97, 101, 104, 112] [rx74, rx75, rx76, rx77, rx78, x79, x92, x93, x94, x95, x96, x97, rx101, rx104, rx112], ov Y0 [99, 100] [ry99, ry100], Z, 0, 0) pc loc []) {k28 : Int32 → (Nat → Int32) → (Nat → Int32) → (Nat → Int32) → (Nat → Int32) → (Nat → Int32) → (Nat → Int32) → (Nat → Int32) → (Nat → Int32) → (Nat → Int64) → (Nat → Int64) → Option ((Nat → Int32) × (Nat → Int32) × (Nat → Int32) × (Nat → Int32) × (Nat → Int32) × (Nat → Int32) × (Nat → Int32) × (Nat → Int32) × (Nat → Int64) × (Nat → Int64))} (hk28 : ∀ (v1 : Int32) (x74 : (Nat → Int32)) (x75 : (Nat → Int32)) (x76 : (Nat → Int32)) (x77 : (Nat → Int32)) (x78 : (Nat → Int32)) (x101 : (Nat → Int32)) (x104 : (Nat → Int32)) (x112 : (Nat → Int32)) (y99 : (Nat → Int64)) (y100 : (Nat → Int64)), k28 v1 x74 x75 x76 x77 x78 x101 x104 x112 y99 y100 = some (rx74, rx75, rx76, rx77, rx78, rx101, rx104, rx112, ry99, ry100) → gV l b0 D K (n, κ, ov X0 [74, 75, 76, 77, 78, 79, 92, 93, 94, 95, 96, 97, 101, 104, 112] [x74, x75, x76, x77, x78, x79, x92, x93, x94, x95, x96, x97, x101, x104, x112], ov Y0 [99, 100] [y99, y100], Z, 0, 0) 28 [(0, .ref (b0 + 74)), (1, .int v1)] []) {k36 : Int32 → Int32 → (Nat → Int32) → (Nat → Int32) → (Nat → Int32) → (Nat → Int32) → (Nat → Int32) → (Nat → Int32) → (Nat → Int32) → (Nat → Int32) → (Nat → Int64) → (Nat → Int64) → Option ((Nat → Int32) × (Nat → Int32) × (Nat → Int32) × (Nat → Int32) × (Nat → Int32) × (Nat → Int32) × (Nat → Int32) × (Nat → Int32) × (Nat → Int64) × (Nat → Int64))} (hk36 : ∀ (v1 : Int32) (v2 : Int32) (x74 : (Nat → Int32)) (x75 : (Nat → Int32)) (x76 : (Nat → Int32)) (x77 : (Nat → Int32)) (x78 : (Nat → Int32)) (x101 : (Nat → Int32)) (x104 : (Nat → Int32)) (x112 : (Nat → Int32)) (y99 : (Nat → Int64)) (y100 : (Nat → Int64)), k36 v1 v2 x74 x75 x76 x77 x78 x101 x104 x112 y99 y100 = some (rx74, rx75, rx76, rx77, rx78, rx101, rx104, rx112, ry99, ry100) → gV l b0 D K (n, κ, ov X0 [74, 75, 76, 77, 78, 79, 92, 93, 94, 95, 96, 97, 101, 104, 112] [x74, x75, x76, x77, x78, x79, x92, x93, x94, x95, x96, x97, x101, x104, x112], ov Y0 [99, 100] [y99, y100], Z, 0, 0) 36 [(0, .ref (b0 + 74)), (1, .int v1), (2, .int v2)] []) {v1 : Int32} {v2 : Int32} {s0 : Int32} {s1 : Int32} {x74 : (Nat → Int32)} {x75 : (Nat → Int32)} {x76 : (Nat → Int32)} {x77 : (Nat → Int32)} {x78 : (Nat → Int32)} {x101 : (Nat → Int32)} {x104 : (Nat → Int32)} {x112 : (Nat → Int32)} {y99 : (Nat → Int64)} {y100 : (Nat → Int64)} (hf : fX12_laysDown_85 x79 x92 x93 x94 x95 x96 x97 k28 k36 v1 v2 s0 s1 x74 x75 x76 x77 x78 x101 x104 x112 y99 y100 = some (rx74, rx75, rx76, rx77, rx78, rx101, rx104, rx112, ry99, ry100)) : gV l b0 D K (n, κ, ov X0 [74, 75, 76, 77, 78, 79, 92, 93, 94, 95, 96, 97, 101, 104, 112] [x74, x75, x76, x77, x78, x79, x92, x93, x94, x95, x96, x97, x101, x104, x112], ov Y0 [99, 100] [y99, y100], Z, 0, 0) 85 [(0, .ref (b0 + 74)), (1, .int v1), (2, .int v2)] [.int s0, .int s1, .ref (b0 + 104)] := by
  unfold fX12_laysDown_85 at hf
  obtain ⟨h_1, hf⟩ := gdE hf
  refine g_iast hC (x := x104) (kk_104 hL) (kn_104 hL) (ov_get hN 13 rfl rfl) (inb_in h_1) (ov_set hN (by rfl) 13 (by rfl)) dX12_laysDown_85 ?_
  show gV l b0 D K (n, κ, ov X0 [74, 75, 76, 77, 78, 79, 92, 93, 94, 95, 96, 97, 101, 104, 112] [x74, x75, x76, x77, x78, x79, x92, x93, x94, x95, x96, x97, x101, (upd x104 s1.toNatClampNeg s0), x112], ov Y0 [99, 100] [y99, y100], Z, 0, 0) 86 [(0, .ref (b0 + 74)), (1, .int v1), (2, .int v2)] []
  obtain ⟨t_2, et_2, hf⟩ := bnE hf
  refine g_iinc hC (i := 2) (v := t_2) [(2, .int t_2), (0, .ref (b0 + 74)), (1, .int v1)] dX12_laysDown_86 (q := 2) rfl ((congrArg (HAdd.hAdd v2) ic_1).trans et_2.symm) (by decide) rfl ?_
  refine g_goto hC 36 dX12_laysDown_89 (by decide) ?_
  exact g_sub [1, 2, 0] rfl (hk36 v1 t_2 x74 x75 x76 x77 x78 x101 (upd x104 s1.toNatClampNeg s0) x112 y99 y100 hf)

def fX12_laysDown_79   (x79 : Nat → Int32) (x92 : Nat → Int32) (x93 : Nat → Int32) (x94 : Nat → Int32) (x95 : Nat → Int32) (x96 : Nat → Int32) (x97 : Nat → Int32)  (k28 : Int32 → (Nat → Int32) → (Nat → Int32) → (Nat → Int32) → (Nat → Int32) → (Nat → Int32) → (Nat → Int32) → (Nat → Int32) → (Nat → Int32) → (Nat → Int64) → (Nat → Int64) → Option ((Nat → Int32) × (Nat → Int32) × (Nat → Int32) × (Nat → Int32) × (Nat → Int32) × (Nat → Int32) × (Nat → Int32) × (Nat → Int32) × (Nat → Int64) × (Nat → Int64))) (k36 : Int32 → Int32 → (Nat → Int32) → (Nat → Int32) → (Nat → Int32) → (Nat → Int32) → (Nat → Int32) → (Nat → Int32) → (Nat → Int32) → (Nat → Int32) → (Nat → Int64) → (Nat → Int64) → Option ((Nat → Int32) × (Nat → Int32) × (Nat → Int32) × (Nat → Int32) × (Nat → Int32) × (Nat → Int32) × (Nat → Int32) × (Nat → Int32) × (Nat → Int64) × (Nat → Int64))) (v1 : Int32) (v2 : Int32) (s0 : Int32) (x74 : (Nat → Int32)) (x75 : (Nat → Int32)) (x76 : (Nat → Int32)) (x77 : (Nat → Int32)) (x78 : (Nat → Int32)) (x101 : (Nat → Int32)) (x104 : (Nat → Int32)) (x112 : (Nat → Int32)) (y99 : (Nat → Int64)) (y100 : (Nat → Int64)) : Option ((Nat → Int32) × (Nat → Int32) × (Nat → Int32) × (Nat → Int32) × (Nat → Int32) × (Nat → Int32) × (Nat → Int32) × (Nat → Int32) × (Nat → Int64) × (Nat → Int64)) := gd (inb v2 6) (fX12_laysDown_85 x79 x92 x93 x94 x95 x96 x97 k28 k36 v1 v2 (x104 v2.toNatClampNeg) s0 x74 x75 x76 x77 x78 x101 x104 x112 y99 y100)
set_option maxHeartbeats 4000000 in
set_option maxRecDepth 100000 in
theorem wX12_laysDown_79 {l : Launch} {b0 : Nat} {D : GD} {K : KT} {n : Nat} {κ : QT} {X0 : XT} {Y0 : YT} {Z : ZT} (hL : LY n κ) (hN : ([74, 75, 76, 77, 78, 79, 92, 93, 94, 95, 96, 97, 101, 104, 112] : List Nat).Nodup) (hM : ([99, 100] : List Nat).Nodup) (hC : gC l b0 D K RX12 cX12_laysDown none 3 7 166 0 0) {x79 : Nat → Int32} {x92 : Nat → Int32} {x93 : Nat → Int32} {x94 : Nat → Int32} {x95 : Nat → Int32} {x96 : Nat → Int32} {x97 : Nat → Int32} {rx74 : (Nat → Int32)} {rx75 : (Nat → Int32)} {rx76 : (Nat → Int32)} {rx77 : (Nat → Int32)} {rx78 : (Nat → Int32)} {rx101 : (Nat → Int32)} {rx104 : (Nat → Int32)} {rx112 : (Nat → Int32)} {ry99 : (Nat → Int64)} {ry100 : (Nat → Int64)} (hret : ∀ pc loc, decode cX12_laysDown pc = .ok (.return_, 1) → gV l b0 D K (n, κ, ov X0 [74, 75, 76, 77, 78, 79, 92, 93, 94, 95, 96, 97, 101, 104, 112] [rx74, rx75, rx76, rx77, rx78, x79, x92, x93, x94, x95, x96, x97, rx101, rx104, rx112], ov Y0 [99, 100] [ry99, ry100], Z, 0, 0) pc loc []) {k28 : Int32 → (Nat → Int32) → (Nat → Int32) → (Nat → Int32) → (Nat → Int32) → (Nat → Int32) → (Nat → Int32) → (Nat → Int32) → (Nat → Int32) → (Nat → Int64) → (Nat → Int64) → Option ((Nat → Int32) × (Nat → Int32) × (Nat → Int32) × (Nat → Int32) × (Nat → Int32) × (Nat → Int32) × (Nat → Int32) × (Nat → Int32) × (Nat → Int64) × (Nat → Int64))} (hk28 : ∀ (v1 : Int32) (x74 : (Nat → Int32)) (x75 : (Nat → Int32)) (x76 : (Nat → Int32)) (x77 : (Nat → Int32)) (x78 : (Nat → Int32)) (x101 : (Nat → Int32)) (x104 : (Nat → Int32)) (x112 : (Nat → Int32)) (y99 : (Nat → Int64)) (y100 : (Nat → Int64)), k28 v1 x74 x75 x76 x77 x78 x101 x104 x112 y99 y100 = some (rx74, rx75, rx76, rx77, rx78, rx101, rx104, rx112, ry99, ry100) → gV l b0 D K (n, κ, ov X0 [74, 75, 76, 77, 78, 79, 92, 93, 94, 95, 96, 97, 101, 104, 112] [x74, x75, x76, x77, x78, x79, x92, x93, x94, x95, x96, x97, x101, x104, x112], ov Y0 [99, 100] [y99, y100], Z, 0, 0) 28 [(0, .ref (b0 + 74)), (1, .int v1)] []) {k36 : Int32 → Int32 → (Nat → Int32) → (Nat → Int32) → (Nat → Int32) → (Nat → Int32) → (Nat → Int32) → (Nat → Int32) → (Nat → Int32) → (Nat → Int32) → (Nat → Int64) → (Nat → Int64) → Option ((Nat → Int32) × (Nat → Int32) × (Nat → Int32) × (Nat → Int32) × (Nat → Int32) × (Nat → Int32) × (Nat → Int32) × (Nat → Int32) × (Nat → Int64) × (Nat → Int64))} (hk36 : ∀ (v1 : Int32) (v2 : Int32) (x74 : (Nat → Int32)) (x75 : (Nat → Int32)) (x76 : (Nat → Int32)) (x77 : (Nat → Int32)) (x78 : (Nat → Int32)) (x101 : (Nat → Int32)) (x104 : (Nat → Int32)) (x112 : (Nat → Int32)) (y99 : (Nat → Int64)) (y100 : (Nat → Int64)), k36 v1 v2 x74 x75 x76 x77 x78 x101 x104 x112 y99 y100 = some (rx74, rx75, rx76, rx77, rx78, rx101, rx104, rx112, ry99, ry100) → gV l b0 D K (n, κ, ov X0 [74, 75, 76, 77, 78, 79, 92, 93, 94, 95, 96, 97, 101, 104, 112] [x74, x75, x76, x77, x78, x79, x92, x93, x94, x95, x96, x97, x101, x104, x112], ov Y0 [99, 100] [y99, y100], Z, 0, 0) 36 [(0, .ref (b0 + 74)), (1, .int v1), (2, .int v2)] []) {v1 : Int32} {v2 : Int32} {s0 : Int32} {x74 : (Nat → Int32)} {x75 : (Nat → Int32)} {x76 : (Nat → Int32)} {x77 : (Nat → Int32)} {x78 : (Nat → Int32)} {x101 : (Nat → Int32)} {x104 : (Nat → Int32)} {x112 : (Nat → Int32)} {y99 : (Nat → Int64)} {y100 : (Nat → Int64)} (hf : fX12_laysDown_79 x79 x92 x93 x94 x95 x96 x97 k28 k36 v1 v2 s0 x74 x75 x76 x77 x78 x101 x104 x112 y99 y100 = some (rx74, rx75, rx76, rx77, rx78, rx101, rx104, rx112, ry99, ry100)) : gV l b0 D K (n, κ, ov X0 [74, 75, 76, 77, 78, 79, 92, 93, 94, 95, 96, 97, 101, 104, 112] [x74, x75, x76, x77, x78, x79, x92, x93, x94, x95, x96, x97, x101, x104, x112], ov Y0 [99, 100] [y99, y100], Z, 0, 0) 79 [(0, .ref (b0 + 74)), (1, .int v1), (2, .int v2)] [.int s0, .ref (b0 + 104)] := by
  unfold fX12_laysDown_79 at hf
  refine g_aload_n hC 0 dX12_laysDown_79 rfl rfl ?_
  refine gt_X12_109 hC (a := 74) (kk_74 hL) (kn_74 hL) dX12_laysDown_80 ?_
  refine g_ref (b := 104) rfl ?_
  refine g_iload_n hC 2 dX12_laysDown_83 rfl rfl ?_
  obtain ⟨h_1, hf⟩ := gdE hf
  refine g_iald hC (x := x104) (kk_104 hL) (kn_104 hL) (ov_get hN 13 rfl rfl) (inb_in h_1) dX12_laysDown_84 ?_
  exact g_sub [0, 1, 2] rfl (wX12_laysDown_85 hL hN hM hC  hret hk28 hk36 hf)

def fX12_laysDown_36b   (x79 : Nat → Int32) (x92 : Nat → Int32) (x93 : Nat → Int32) (x94 : Nat → Int32) (x95 : Nat → Int32) (x96 : Nat → Int32) (x97 : Nat → Int32)  (k28 : Int32 → (Nat → Int32) → (Nat → Int32) → (Nat → Int32) → (Nat → Int32) → (Nat → Int32) → (Nat → Int32) → (Nat → Int32) → (Nat → Int32) → (Nat → Int64) → (Nat → Int64) → Option ((Nat → Int32) × (Nat → Int32) × (Nat → Int32) × (Nat → Int32) × (Nat → Int32) × (Nat → Int32) × (Nat → Int32) × (Nat → Int32) × (Nat → Int64) × (Nat → Int64))) (k36 : Int32 → Int32 → (Nat → Int32) → (Nat → Int32) → (Nat → Int32) → (Nat → Int32) → (Nat → Int32) → (Nat → Int32) → (Nat → Int32) → (Nat → Int32) → (Nat → Int64) → (Nat → Int64) → Option ((Nat → Int32) × (Nat → Int32) × (Nat → Int32) × (Nat → Int32) × (Nat → Int32) × (Nat → Int32) × (Nat → Int32) × (Nat → Int32) × (Nat → Int64) × (Nat → Int64))) (v1 : Int32) (v2 : Int32) (x74 : (Nat → Int32)) (x75 : (Nat → Int32)) (x76 : (Nat → Int32)) (x77 : (Nat → Int32)) (x78 : (Nat → Int32)) (x101 : (Nat → Int32)) (x104 : (Nat → Int32)) (x112 : (Nat → Int32)) (y99 : (Nat → Int64)) (y100 : (Nat → Int64)) : Option ((Nat → Int32) × (Nat → Int32) × (Nat → Int32) × (Nat → Int32) × (Nat → Int32) × (Nat → Int32) × (Nat → Int32) × (Nat → Int32) × (Nat → Int64) × (Nat → Int64)) := gd (inb 4 11) (if (x75 (4 : Int32).toNatClampNeg) ≤ v2 then (bd9 (fX12_goes x79 x92 x93 x94 x95 x96 x97 x74 x75 x76 x77 x78 x101 y99 y100) fun r_2 x74_3 x75_4 x76_5 x77_6 x78_7 x101_8 y99_9 y100_10 => (bn (v1 + 1) fun t_12 => (k28 t_12 x74_3 x75_4 x76_5 x77_6 x78_7 x101_8 x104 x112 y99_9 y100_10))) else (gd (inb v2 6) (if (x104 v2.toNatClampNeg) = (-2) then (bd1 (fX12_isInRiver x75 x76 v2) fun r_14 => (if r_14 = 0 then (fX12_laysDown_79 x79 x92 x93 x94 x95 x96 x97 k28 k36 v1 v2 v2 x74 x75 x76 x77 x78 x101 x104 x112 y99 y100) else (gd (inb 5 11) (fX12_laysDown_85 x79 x92 x93 x94 x95 x96 x97 k28 k36 v1 v2 (x75 (5 : Int32).toNatClampNeg) v2 x74 x75 x76 x77 x78 x101 x104 x112 y99 y100)))) else (fX12_laysDown_79 x79 x92 x93 x94 x95 x96 x97 k28 k36 v1 v2 v2 x74 x75 x76 x77 x78 x101 x104 x112 y99 y100))))
def fX12_laysDown_36   (x79 : Nat → Int32) (x92 : Nat → Int32) (x93 : Nat → Int32) (x94 : Nat → Int32) (x95 : Nat → Int32) (x96 : Nat → Int32) (x97 : Nat → Int32)  (k28 : Int32 → (Nat → Int32) → (Nat → Int32) → (Nat → Int32) → (Nat → Int32) → (Nat → Int32) → (Nat → Int32) → (Nat → Int32) → (Nat → Int32) → (Nat → Int64) → (Nat → Int64) → Option ((Nat → Int32) × (Nat → Int32) × (Nat → Int32) × (Nat → Int32) × (Nat → Int32) × (Nat → Int32) × (Nat → Int32) × (Nat → Int32) × (Nat → Int64) × (Nat → Int64))) : Int32 → Int32 → (Nat → Int32) → (Nat → Int32) → (Nat → Int32) → (Nat → Int32) → (Nat → Int32) → (Nat → Int32) → (Nat → Int32) → (Nat → Int32) → (Nat → Int64) → (Nat → Int64) → Option ((Nat → Int32) × (Nat → Int32) × (Nat → Int32) × (Nat → Int32) × (Nat → Int32) × (Nat → Int32) × (Nat → Int32) × (Nat → Int32) × (Nat → Int64) × (Nat → Int64)) := lq12 (fX12_laysDown_36b x79 x92 x93 x94 x95 x96 x97 k28) 5000
set_option maxHeartbeats 4000000 in
set_option maxRecDepth 100000 in
theorem wX12_laysDown_36 {l : Launch} {b0 : Nat} {D : GD} {K : KT} {n : Nat} {κ : QT} {X0 : XT} {Y0 : YT} {Z : ZT} (hL : LY n κ) (hN : ([74, 75, 76, 77, 78, 79, 92, 93, 94, 95, 96, 97, 101, 104, 112] : List Nat).Nodup) (hM : ([99, 100] : List Nat).Nodup) (hC : gC l b0 D K RX12 cX12_laysDown none 3 7 166 0 0) {x79 : Nat → Int32} {x92 : Nat → Int32} {x93 : Nat → Int32} {x94 : Nat → Int32} {x95 : Nat → Int32} {x96 : Nat → Int32} {x97 : Nat → Int32} {rx74 : (Nat → Int32)} {rx75 : (Nat → Int32)} {rx76 : (Nat → Int32)} {rx77 : (Nat → Int32)} {rx78 : (Nat → Int32)} {rx101 : (Nat → Int32)} {rx104 : (Nat → Int32)} {rx112 : (Nat → Int32)} {ry99 : (Nat → Int64)} {ry100 : (Nat → Int64)} (hret : ∀ pc loc, decode cX12_laysDown pc = .ok (.return_, 1) → gV l b0 D K (n, κ, ov X0 [74, 75, 76, 77, 78, 79, 92, 93, 94, 95, 96, 97, 101, 104, 112] [rx74, rx75, rx76, rx77, rx78, x79, x92, x93, x94, x95, x96, x97, rx101, rx104, rx112], ov Y0 [99, 100] [ry99, ry100], Z, 0, 0) pc loc []) {k28 : Int32 → (Nat → Int32) → (Nat → Int32) → (Nat → Int32) → (Nat → Int32) → (Nat → Int32) → (Nat → Int32) → (Nat → Int32) → (Nat → Int32) → (Nat → Int64) → (Nat → Int64) → Option ((Nat → Int32) × (Nat → Int32) × (Nat → Int32) × (Nat → Int32) × (Nat → Int32) × (Nat → Int32) × (Nat → Int32) × (Nat → Int32) × (Nat → Int64) × (Nat → Int64))} (hk28 : ∀ (v1 : Int32) (x74 : (Nat → Int32)) (x75 : (Nat → Int32)) (x76 : (Nat → Int32)) (x77 : (Nat → Int32)) (x78 : (Nat → Int32)) (x101 : (Nat → Int32)) (x104 : (Nat → Int32)) (x112 : (Nat → Int32)) (y99 : (Nat → Int64)) (y100 : (Nat → Int64)), k28 v1 x74 x75 x76 x77 x78 x101 x104 x112 y99 y100 = some (rx74, rx75, rx76, rx77, rx78, rx101, rx104, rx112, ry99, ry100) → gV l b0 D K (n, κ, ov X0 [74, 75, 76, 77, 78, 79, 92, 93, 94, 95, 96, 97, 101, 104, 112] [x74, x75, x76, x77, x78, x79, x92, x93, x94, x95, x96, x97, x101, x104, x112], ov Y0 [99, 100] [y99, y100], Z, 0, 0) 28 [(0, .ref (b0 + 74)), (1, .int v1)] []) : ∀ (j : Nat) (v1 : Int32) (v2 : Int32) (x74 : (Nat → Int32)) (x75 : (Nat → Int32)) (x76 : (Nat → Int32)) (x77 : (Nat → Int32)) (x78 : (Nat → Int32)) (x101 : (Nat → Int32)) (x104 : (Nat → Int32)) (x112 : (Nat → Int32)) (y99 : (Nat → Int64)) (y100 : (Nat → Int64)), lq12 (fX12_laysDown_36b x79 x92 x93 x94 x95 x96 x97 k28) j v1 v2 x74 x75 x76 x77 x78 x101 x104 x112 y99 y100 = some (rx74, rx75, rx76, rx77, rx78, rx101, rx104, rx112, ry99, ry100) → gV l b0 D K (n, κ, ov X0 [74, 75, 76, 77, 78, 79, 92, 93, 94, 95, 96, 97, 101, 104, 112] [x74, x75, x76, x77, x78, x79, x92, x93, x94, x95, x96, x97, x101, x104, x112], ov Y0 [99, 100] [y99, y100], Z, 0, 0) 36 [(0, .ref (b0 + 74)), (1, .int v1), (2, .int v2)] [] := by
  intro j
  induction j with
  | zero => intro v1 v2 x74 x75 x76 x77 x78 x101 x104 x112 y99 y100 hf; cases hf
  | succ j hk36 =>
    intro v1 v2 x74 x75 x76 x77 x78 x101 x104 x112 y99 y100 hf
    replace hf : fX12_laysDown_36b x79 x92 x93 x94 x95 x96 x97 k28 (lq12 (fX12_laysDown_36b x79 x92 x93 x94 x95 x96 x97 k28) j) v1 v2 x74 x75 x76 x77 x78 x101 x104 x112 y99 y100 = some (rx74, rx75, rx76, rx77, rx78, rx101, rx104, rx112, ry99, ry100) := hf
    unfold fX12_laysDown_36b at hf
    refine g_iload_n hC 2 dX12_laysDown_36 rfl rfl ?_
    refine g_aload_n hC 0 dX12_laysDown_37 rfl rfl ?_
    refine gt_X12_9 hC (a := 74) (kk_74 hL) (kn_74 hL) dX12_laysDown_38 ?_
    refine g_ref (b := 75) rfl ?_
    refine g_iconst hC (v := 4) dX12_laysDown_41 ic_4 ?_
    obtain ⟨h_1, hf⟩ := gdE hf
    refine g_iald hC (x := x75) (kk_75 hL) (kn_75 hL) (ov_get hN 1 rfl rfl) (inb_in h_1) dX12_laysDown_42 ?_
    refine g_icmp_ge hC 92 dX12_laysDown_43 (by decide) (fun hc => ?_) (fun hc => ?_)
    · replace hf := ifT hf hc
      refine g_aload_n hC 0 dX12_laysDown_92 rfl rfl ?_
      obtain ⟨r_2, x74_3, x75_4, x76_5, x77_6, x78_7, x101_8, y99_9, y100_10, q_11, hf⟩ := bd9E hf
      refine g_callV_i (a := 74) hC (X' := ov X0 [74, 75, 76, 77, 78, 79, 92, 93, 94, 95, 96, 97, 101, 104, 112] [x74_3, x75_4, x76_5, x77_6, x78_7, x79, x92, x93, x94, x95, x96, x97, x101_8, x104, x112]) (Y' := ov Y0 [99, 100] [y99_9, y100_10]) (As := []) (gMi_eq (c_X12_goes l hL (ov_map hN [0, 1, 2, 3, 4, 5, 6, 7, 8, 9, 10, 11, 12] (by rfl) (by rfl)) (ov_map hM [0, 1] (by rfl) (by rfl)) q_11) (ov_ovE hN (by rfl) [0, 1, 2, 3, 4, 5, 6, 7, 8, 9, 10, 11, 12] [13, 14] (by rfl) (by rfl) [x104, x112] (by rfl) (by rfl) (by rfl) 15 (by rfl) (by decide)) (ov_ovE hM (by rfl) [0, 1] [] (by rfl) (by rfl) [] (by rfl) (by rfl) (by rfl) 2 (by rfl) (by decide))) tw_1593 tw_1590 tw_127 tw_1592 tw_86 (ci := 12) rfl (by decide) (kk_74 hL) (kn_74 hL) pd_X12_goes (by decide) (by decide) rfl rfl (Nat.le_of_ble_eq_true rfl) rfl dX12_laysDown_93 ?_
      refine g_pop hC dX12_laysDown_96 rfl ?_
      obtain ⟨t_12, et_12, hf⟩ := bnE hf
      refine g_iinc hC (i := 1) (v := t_12) [(1, .int t_12), (0, .ref (b0 + 74)), (2, .int v2)] dX12_laysDown_97 (q := 1) rfl ((congrArg (HAdd.hAdd v1) ic_1).trans et_12.symm) (by decide) rfl ?_
      refine g_goto hC 28 dX12_laysDown_100 (by decide) ?_
      exact g_sub [1, 0] rfl (hk28 t_12 x74_3 x75_4 x76_5 x77_6 x78_7 x101_8 x104 x112 y99_9 y100_10 hf)
    · replace hf := ifF hf hc
      refine g_aload_n hC 0 dX12_laysDown_46 rfl rfl ?_
      refine gt_X12_109 hC (a := 74) (kk_74 hL) (kn_74 hL) dX12_laysDown_47 ?_
      refine g_ref (b := 104) rfl ?_
      refine g_iload_n hC 2 dX12_laysDown_50 rfl rfl ?_
      refine g_aload_n hC 0 dX12_laysDown_51 rfl rfl ?_
      refine gt_X12_109 hC (a := 74) (kk_74 hL) (kn_74 hL) dX12_laysDown_52 ?_
      refine g_ref (b := 104) rfl ?_
      refine g_iload_n hC 2 dX12_laysDown_55 rfl rfl ?_
      obtain ⟨h_13, hf⟩ := gdE hf
      refine g_iald hC (x := x104) (kk_104 hL) (kn_104 hL) (ov_get hN 13 rfl rfl) (inb_in h_13) dX12_laysDown_56 ?_
      refine g_bipush hC (v := (-2)) dX12_laysDown_57 bp_m2 ?_
      refine g_icmp_ne hC 79 dX12_laysDown_59 (by decide) (fun hc => ?_) (fun hc => ?_)
      · replace hf := ifF hf hc
        exact g_sub [0, 1, 2] rfl (wX12_laysDown_79 hL hN hM hC  hret hk28 hk36 hf)
      · replace hf := ifT hf hc
        refine g_aload_n hC 0 dX12_laysDown_62 rfl rfl ?_
        refine g_iload_n hC 2 dX12_laysDown_63 rfl rfl ?_
        obtain ⟨r_14, q_15, hf⟩ := bd1E hf
        refine g_callV_i (a := 74) hC (X' := ov X0 [74, 75, 76, 77, 78, 79, 92, 93, 94, 95, 96, 97, 101, 104, 112] [x74, x75, x76, x77, x78, x79, x92, x93, x94, x95, x96, x97, x101, x104, x112]) (Y' := ov Y0 [99, 100] [y99, y100]) (As := [.int v2]) (gMi_eq (c_X12_isInRiver l hL (ov_map hN [1, 2] (by rfl) (by rfl)) (ov_map hM [] (by rfl) (by rfl)) q_15) (ov_ovE hN (by rfl) [1, 2] [0, 3, 4, 5, 6, 7, 8, 9, 10, 11, 12, 13, 14] (by rfl) (by rfl) [x74, x77, x78, x79, x92, x93, x94, x95, x96, x97, x101, x104, x112] (by rfl) (by rfl) (by rfl) 15 (by rfl) (by decide)) (ov_ovE hM (by rfl) [] [0, 1] (by rfl) (by rfl) [y99, y100] (by rfl) (by rfl) (by rfl) 2 (by rfl) (by decide))) tw_1638 tw_1635 tw_127 tw_1637 tw_94 (ci := 12) rfl (by decide) (kk_74 hL) (kn_74 hL) pd_X12_isInRiver (by decide) (by decide) rfl rfl (Nat.le_of_ble_eq_true rfl) rfl dX12_laysDown_64 ?_
        refine g_if_eq hC 79 dX12_laysDown_67 (by decide) (fun hc => ?_) (fun hc => ?_)
        · replace hf := ifT hf hc
          exact g_sub [0, 1, 2] rfl (wX12_laysDown_79 hL hN hM hC  hret hk28 hk36 hf)
        · replace hf := ifF hf hc
          refine g_aload_n hC 0 dX12_laysDown_70 rfl rfl ?_
          refine gt_X12_9 hC (a := 74) (kk_74 hL) (kn_74 hL) dX12_laysDown_71 ?_
          refine g_ref (b := 75) rfl ?_
          refine g_iconst hC (v := 5) dX12_laysDown_74 ic_5 ?_
          obtain ⟨h_16, hf⟩ := gdE hf
          refine g_iald hC (x := x75) (kk_75 hL) (kn_75 hL) (ov_get hN 1 rfl rfl) (inb_in h_16) dX12_laysDown_75 ?_
          refine g_goto hC 85 dX12_laysDown_76 (by decide) ?_
          exact g_sub [0, 1, 2] rfl (wX12_laysDown_85 hL hN hM hC  hret hk28 hk36 hf)

def fX12_laysDown_28b   (x79 : Nat → Int32) (x92 : Nat → Int32) (x93 : Nat → Int32) (x94 : Nat → Int32) (x95 : Nat → Int32) (x96 : Nat → Int32) (x97 : Nat → Int32)  (k28 : Int32 → (Nat → Int32) → (Nat → Int32) → (Nat → Int32) → (Nat → Int32) → (Nat → Int32) → (Nat → Int32) → (Nat → Int32) → (Nat → Int32) → (Nat → Int64) → (Nat → Int64) → Option ((Nat → Int32) × (Nat → Int32) × (Nat → Int32) × (Nat → Int32) × (Nat → Int32) × (Nat → Int32) × (Nat → Int32) × (Nat → Int32) × (Nat → Int64) × (Nat → Int64))) (v1 : Int32) (x74 : (Nat → Int32)) (x75 : (Nat → Int32)) (x76 : (Nat → Int32)) (x77 : (Nat → Int32)) (x78 : (Nat → Int32)) (x101 : (Nat → Int32)) (x104 : (Nat → Int32)) (x112 : (Nat → Int32)) (y99 : (Nat → Int64)) (y100 : (Nat → Int64)) : Option ((Nat → Int32) × (Nat → Int32) × (Nat → Int32) × (Nat → Int32) × (Nat → Int32) × (Nat → Int32) × (Nat → Int32) × (Nat → Int32) × (Nat → Int64) × (Nat → Int64)) := if 100 ≤ v1 then (bd6 (fX12_laysBack x74 x75 x76 x77 x78 x112) fun x74_1 x75_2 x76_3 x77_4 x78_5 x112_6 => (some (x74_1, x75_2, x76_3, x77_4, x78_5, x101, x104, x112_6, y99, y100))) else (fX12_laysDown_36 x79 x92 x93 x94 x95 x96 x97 k28 v1 0 x74 x75 x76 x77 x78 x101 x104 x112 y99 y100)
def fX12_laysDown_28   (x79 : Nat → Int32) (x92 : Nat → Int32) (x93 : Nat → Int32) (x94 : Nat → Int32) (x95 : Nat → Int32) (x96 : Nat → Int32) (x97 : Nat → Int32)  : Int32 → (Nat → Int32) → (Nat → Int32) → (Nat → Int32) → (Nat → Int32) → (Nat → Int32) → (Nat → Int32) → (Nat → Int32) → (Nat → Int32) → (Nat → Int64) → (Nat → Int64) → Option ((Nat → Int32) × (Nat → Int32) × (Nat → Int32) × (Nat → Int32) × (Nat → Int32) × (Nat → Int32) × (Nat → Int32) × (Nat → Int32) × (Nat → Int64) × (Nat → Int64)) := lq11 (fX12_laysDown_28b x79 x92 x93 x94 x95 x96 x97 ) 5000
set_option maxHeartbeats 4000000 in
set_option maxRecDepth 100000 in
theorem wX12_laysDown_28 {l : Launch} {b0 : Nat} {D : GD} {K : KT} {n : Nat} {κ : QT} {X0 : XT} {Y0 : YT} {Z : ZT} (hL : LY n κ) (hN : ([74, 75, 76, 77, 78, 79, 92, 93, 94, 95, 96, 97, 101, 104, 112] : List Nat).Nodup) (hM : ([99, 100] : List Nat).Nodup) (hC : gC l b0 D K RX12 cX12_laysDown none 3 7 166 0 0) {x79 : Nat → Int32} {x92 : Nat → Int32} {x93 : Nat → Int32} {x94 : Nat → Int32} {x95 : Nat → Int32} {x96 : Nat → Int32} {x97 : Nat → Int32} {rx74 : (Nat → Int32)} {rx75 : (Nat → Int32)} {rx76 : (Nat → Int32)} {rx77 : (Nat → Int32)} {rx78 : (Nat → Int32)} {rx101 : (Nat → Int32)} {rx104 : (Nat → Int32)} {rx112 : (Nat → Int32)} {ry99 : (Nat → Int64)} {ry100 : (Nat → Int64)} (hret : ∀ pc loc, decode cX12_laysDown pc = .ok (.return_, 1) → gV l b0 D K (n, κ, ov X0 [74, 75, 76, 77, 78, 79, 92, 93, 94, 95, 96, 97, 101, 104, 112] [rx74, rx75, rx76, rx77, rx78, x79, x92, x93, x94, x95, x96, x97, rx101, rx104, rx112], ov Y0 [99, 100] [ry99, ry100], Z, 0, 0) pc loc []) : ∀ (j : Nat) (v1 : Int32) (x74 : (Nat → Int32)) (x75 : (Nat → Int32)) (x76 : (Nat → Int32)) (x77 : (Nat → Int32)) (x78 : (Nat → Int32)) (x101 : (Nat → Int32)) (x104 : (Nat → Int32)) (x112 : (Nat → Int32)) (y99 : (Nat → Int64)) (y100 : (Nat → Int64)), lq11 (fX12_laysDown_28b x79 x92 x93 x94 x95 x96 x97 ) j v1 x74 x75 x76 x77 x78 x101 x104 x112 y99 y100 = some (rx74, rx75, rx76, rx77, rx78, rx101, rx104, rx112, ry99, ry100) → gV l b0 D K (n, κ, ov X0 [74, 75, 76, 77, 78, 79, 92, 93, 94, 95, 96, 97, 101, 104, 112] [x74, x75, x76, x77, x78, x79, x92, x93, x94, x95, x96, x97, x101, x104, x112], ov Y0 [99, 100] [y99, y100], Z, 0, 0) 28 [(0, .ref (b0 + 74)), (1, .int v1)] [] := by
  intro j
  induction j with
  | zero => intro v1 x74 x75 x76 x77 x78 x101 x104 x112 y99 y100 hf; cases hf
  | succ j hk28 =>
    intro v1 x74 x75 x76 x77 x78 x101 x104 x112 y99 y100 hf
    replace hf : fX12_laysDown_28b x79 x92 x93 x94 x95 x96 x97  (lq11 (fX12_laysDown_28b x79 x92 x93 x94 x95 x96 x97 ) j) v1 x74 x75 x76 x77 x78 x101 x104 x112 y99 y100 = some (rx74, rx75, rx76, rx77, rx78, rx101, rx104, rx112, ry99, ry100) := hf
    unfold fX12_laysDown_28b at hf
    refine g_iload_n hC 1 dX12_laysDown_28 rfl rfl ?_
    refine g_bipush hC (v := 100) dX12_laysDown_29 bp_100 ?_
    refine g_icmp_ge hC 103 dX12_laysDown_31 (by decide) (fun hc => ?_) (fun hc => ?_)
    · replace hf := ifT hf hc
      refine g_aload_n hC 0 dX12_laysDown_103 rfl rfl ?_
      obtain ⟨x74_1, x75_2, x76_3, x77_4, x78_5, x112_6, q_7, hf⟩ := bd6E hf
      refine g_callV_v (a := 74) hC (X' := ov X0 [74, 75, 76, 77, 78, 79, 92, 93, 94, 95, 96, 97, 101, 104, 112] [x74_1, x75_2, x76_3, x77_4, x78_5, x79, x92, x93, x94, x95, x96, x97, x101, x104, x112_6]) (Y' := ov Y0 [99, 100] [y99, y100]) (As := []) (gMv_eq (c_X12_laysBack l hL (ov_map hN [0, 1, 2, 3, 4, 14] (by rfl) (by rfl)) (ov_map hM [] (by rfl) (by rfl)) q_7) (ov_ovE hN (by rfl) [0, 1, 2, 3, 4, 14] [5, 6, 7, 8, 9, 10, 11, 12, 13] (by rfl) (by rfl) [x79, x92, x93, x94, x95, x96, x97, x101, x104] (by rfl) (by rfl) (by rfl) 15 (by rfl) (by decide)) (ov_ovE hM (by rfl) [] [0, 1] (by rfl) (by rfl) [y99, y100] (by rfl) (by rfl) (by rfl) 2 (by rfl) (by decide))) tw_1693 tw_1690 tw_127 tw_1692 tw_102 (ci := 12) rfl (by decide) (kk_74 hL) (kn_74 hL) pd_X12_laysBack (by decide) (by decide) rfl rfl (Nat.le_of_ble_eq_true rfl) rfl dX12_laysDown_104 ?_
      obtain ⟨rfl, rfl, rfl, rfl, rfl, rfl, rfl, rfl, rfl, rfl⟩ := sm10E hf
      exact hret _ _ dX12_laysDown_107
    · replace hf := ifF hf hc
      refine g_iconst hC (v := 0) dX12_laysDown_34 ic_0 ?_
      refine g_istore_n hC (i := 2) [(2, .int 0), (0, .ref (b0 + 74)), (1, .int v1)] rfl dX12_laysDown_35 (by decide) rfl ?_
      exact g_sub [1, 2, 0] rfl (wX12_laysDown_36 hL hN hM hC  hret hk28 5000 v1 0 x74 x75 x76 x77 x78 x101 x104 x112 y99 y100 hf)

def fX12_laysDown_2b   (x79 : Nat → Int32) (x92 : Nat → Int32) (x93 : Nat → Int32) (x94 : Nat → Int32) (x95 : Nat → Int32) (x96 : Nat → Int32) (x97 : Nat → Int32)  (k2 : Int32 → (Nat → Int32) → (Nat → Int32) → (Nat → Int32) → (Nat → Int32) → (Nat → Int32) → (Nat → Int32) → (Nat → Int32) → (Nat → Int32) → (Nat → Int64) → (Nat → Int64) → Option ((Nat → Int32) × (Nat → Int32) × (Nat → Int32) × (Nat → Int32) × (Nat → Int32) × (Nat → Int32) × (Nat → Int32) × (Nat → Int32) × (Nat → Int64) × (Nat → Int64))) (v1 : Int32) (x74 : (Nat → Int32)) (x75 : (Nat → Int32)) (x76 : (Nat → Int32)) (x77 : (Nat → Int32)) (x78 : (Nat → Int32)) (x101 : (Nat → Int32)) (x104 : (Nat → Int32)) (x112 : (Nat → Int32)) (y99 : (Nat → Int64)) (y100 : (Nat → Int64)) : Option ((Nat → Int32) × (Nat → Int32) × (Nat → Int32) × (Nat → Int32) × (Nat → Int32) × (Nat → Int32) × (Nat → Int32) × (Nat → Int32) × (Nat → Int64) × (Nat → Int64)) := if 6 ≤ v1 then (bd6 (fX12_keepsAll x74 x75 x76 x77 x78 x112) fun x74_1 x75_2 x76_3 x77_4 x78_5 x112_6 => (fX12_laysDown_28 x79 x92 x93 x94 x95 x96 x97  0 x74_1 x75_2 x76_3 x77_4 x78_5 x101 x104 x112_6 y99 y100)) else (gd (inb v1 6) (bn (v1 + 1) fun t_9 => (k2 t_9 x74 x75 x76 x77 x78 x101 (upd x104 v1.toNatClampNeg (-2)) x112 y99 y100)))
def fX12_laysDown_2   (x79 : Nat → Int32) (x92 : Nat → Int32) (x93 : Nat → Int32) (x94 : Nat → Int32) (x95 : Nat → Int32) (x96 : Nat → Int32) (x97 : Nat → Int32)  : Int32 → (Nat → Int32) → (Nat → Int32) → (Nat → Int32) → (Nat → Int32) → (Nat → Int32) → (Nat → Int32) → (Nat → Int32) → (Nat → Int32) → (Nat → Int64) → (Nat → Int64) → Option ((Nat → Int32) × (Nat → Int32) × (Nat → Int32) × (Nat → Int32) × (Nat → Int32) × (Nat → Int32) × (Nat → Int32) × (Nat → Int32) × (Nat → Int64) × (Nat → Int64)) := lq11 (fX12_laysDown_2b x79 x92 x93 x94 x95 x96 x97 ) 5000
set_option maxHeartbeats 4000000 in
set_option maxRecDepth 100000 in
theorem wX12_laysDown_2 {l : Launch} {b0 : Nat} {D : GD} {K : KT} {n : Nat} {κ : QT} {X0 : XT} {Y0 : YT} {Z : ZT} (hL : LY n κ) (hN : ([74, 75, 76, 77, 78, 79, 92, 93, 94, 95, 96, 97, 101, 104, 112] : List Nat).Nodup) (hM : ([99, 100] : List Nat).Nodup) (hC : gC l b0 D K RX12 cX12_laysDown none 3 7 166 0 0) {x79 : Nat → Int32} {x92 : Nat → Int32} {x93 : Nat → Int32} {x94 : Nat → Int32} {x95 : Nat → Int32} {x96 : Nat → Int32} {x97 : Nat → Int32} {rx74 : (Nat → Int32)} {rx75 : (Nat → Int32)} {rx76 : (Nat → Int32)} {rx77 : (Nat → Int32)} {rx78 : (Nat → Int32)} {rx101 : (Nat → Int32)} {rx104 : (Nat → Int32)} {rx112 : (Nat → Int32)} {ry99 : (Nat → Int64)} {ry100 : (Nat → Int64)} (hret : ∀ pc loc, decode cX12_laysDown pc = .ok (.return_, 1) → gV l b0 D K (n, κ, ov X0 [74, 75, 76, 77, 78, 79, 92, 93, 94, 95, 96, 97, 101, 104, 112] [rx74, rx75, rx76, rx77, rx78, x79, x92, x93, x94, x95, x96, x97, rx101, rx104, rx112], ov Y0 [99, 100] [ry99, ry100], Z, 0, 0) pc loc []) : ∀ (j : Nat) (v1 : Int32) (x74 : (Nat → Int32)) (x75 : (Nat → Int32)) (x76 : (Nat → Int32)) (x77 : (Nat → Int32)) (x78 : (Nat → Int32)) (x101 : (Nat → Int32)) (x104 : (Nat → Int32)) (x112 : (Nat → Int32)) (y99 : (Nat → Int64)) (y100 : (Nat → Int64)), lq11 (fX12_laysDown_2b x79 x92 x93 x94 x95 x96 x97 ) j v1 x74 x75 x76 x77 x78 x101 x104 x112 y99 y100 = some (rx74, rx75, rx76, rx77, rx78, rx101, rx104, rx112, ry99, ry100) → gV l b0 D K (n, κ, ov X0 [74, 75, 76, 77, 78, 79, 92, 93, 94, 95, 96, 97, 101, 104, 112] [x74, x75, x76, x77, x78, x79, x92, x93, x94, x95, x96, x97, x101, x104, x112], ov Y0 [99, 100] [y99, y100], Z, 0, 0) 2 [(0, .ref (b0 + 74)), (1, .int v1)] [] := by
  intro j
  induction j with
  | zero => intro v1 x74 x75 x76 x77 x78 x101 x104 x112 y99 y100 hf; cases hf
  | succ j hk2 =>
    intro v1 x74 x75 x76 x77 x78 x101 x104 x112 y99 y100 hf
    replace hf : fX12_laysDown_2b x79 x92 x93 x94 x95 x96 x97  (lq11 (fX12_laysDown_2b x79 x92 x93 x94 x95 x96 x97 ) j) v1 x74 x75 x76 x77 x78 x101 x104 x112 y99 y100 = some (rx74, rx75, rx76, rx77, rx78, rx101, rx104, rx112, ry99, ry100) := hf
    unfold fX12_laysDown_2b at hf
    refine g_iload_n hC 1 dX12_laysDown_2 rfl rfl ?_
    refine g_bipush hC (v := 6) dX12_laysDown_3 bp_6 ?_
    refine g_icmp_ge hC 22 dX12_laysDown_5 (by decide) (fun hc => ?_) (fun hc => ?_)
    · replace hf := ifT hf hc
      refine g_aload_n hC 0 dX12_laysDown_22 rfl rfl ?_
      obtain ⟨x74_1, x75_2, x76_3, x77_4, x78_5, x112_6, q_7, hf⟩ := bd6E hf
      refine g_callV_v (a := 74) hC (X' := ov X0 [74, 75, 76, 77, 78, 79, 92, 93, 94, 95, 96, 97, 101, 104, 112] [x74_1, x75_2, x76_3, x77_4, x78_5, x79, x92, x93, x94, x95, x96, x97, x101, x104, x112_6]) (Y' := ov Y0 [99, 100] [y99, y100]) (As := []) (gMv_eq (c_X12_keepsAll l hL (ov_map hN [0, 1, 2, 3, 4, 14] (by rfl) (by rfl)) (ov_map hM [] (by rfl) (by rfl)) q_7) (ov_ovE hN (by rfl) [0, 1, 2, 3, 4, 14] [5, 6, 7, 8, 9, 10, 11, 12, 13] (by rfl) (by rfl) [x79, x92, x93, x94, x95, x96, x97, x101, x104] (by rfl) (by rfl) (by rfl) 15 (by rfl) (by decide)) (ov_ovE hM (by rfl) [] [0, 1] (by rfl) (by rfl) [y99, y100] (by rfl) (by rfl) (by rfl) 2 (by rfl) (by decide))) tw_1673 tw_1670 tw_127 tw_1672 tw_97 (ci := 12) rfl (by decide) (kk_74 hL) (kn_74 hL) pd_X12_keepsAll (by decide) (by decide) rfl rfl (Nat.le_of_ble_eq_true rfl) rfl dX12_laysDown_23 ?_
      refine g_iconst hC (v := 0) dX12_laysDown_26 ic_0 ?_
      refine g_istore_n hC (i := 1) [(1, .int 0), (0, .ref (b0 + 74))] rfl dX12_laysDown_27 (by decide) rfl ?_
      exact g_sub [1, 0] rfl (wX12_laysDown_28 hL hN hM hC  hret  5000 0 x74_1 x75_2 x76_3 x77_4 x78_5 x101 x104 x112_6 y99 y100 hf)
    · replace hf := ifF hf hc
      refine g_aload_n hC 0 dX12_laysDown_8 rfl rfl ?_
      refine gt_X12_109 hC (a := 74) (kk_74 hL) (kn_74 hL) dX12_laysDown_9 ?_
      refine g_ref (b := 104) rfl ?_
      refine g_iload_n hC 1 dX12_laysDown_12 rfl rfl ?_
      refine g_bipush hC (v := (-2)) dX12_laysDown_13 bp_m2 ?_
      obtain ⟨h_8, hf⟩ := gdE hf
      refine g_iast hC (x := x104) (kk_104 hL) (kn_104 hL) (ov_get hN 13 rfl rfl) (inb_in h_8) (ov_set hN (by rfl) 13 (by rfl)) dX12_laysDown_15 ?_
      show gV l b0 D K (n, κ, ov X0 [74, 75, 76, 77, 78, 79, 92, 93, 94, 95, 96, 97, 101, 104, 112] [x74, x75, x76, x77, x78, x79, x92, x93, x94, x95, x96, x97, x101, (upd x104 v1.toNatClampNeg (-2)), x112], ov Y0 [99, 100] [y99, y100], Z, 0, 0) 16 [(0, .ref (b0 + 74)), (1, .int v1)] []
      obtain ⟨t_9, et_9, hf⟩ := bnE hf
      refine g_iinc hC (i := 1) (v := t_9) [(1, .int t_9), (0, .ref (b0 + 74))] dX12_laysDown_16 (q := 1) rfl ((congrArg (HAdd.hAdd v1) ic_1).trans et_9.symm) (by decide) rfl ?_
      refine g_goto hC 2 dX12_laysDown_19 (by decide) ?_
      exact g_sub [1, 0] rfl (hk2 t_9 x74 x75 x76 x77 x78 x101 (upd x104 v1.toNatClampNeg (-2)) x112 y99 y100 hf)

def fX12_laysDown_0   (x79 : Nat → Int32) (x92 : Nat → Int32) (x93 : Nat → Int32) (x94 : Nat → Int32) (x95 : Nat → Int32) (x96 : Nat → Int32) (x97 : Nat → Int32)  (x74 : (Nat → Int32)) (x75 : (Nat → Int32)) (x76 : (Nat → Int32)) (x77 : (Nat → Int32)) (x78 : (Nat → Int32)) (x101 : (Nat → Int32)) (x104 : (Nat → Int32)) (x112 : (Nat → Int32)) (y99 : (Nat → Int64)) (y100 : (Nat → Int64)) : Option ((Nat → Int32) × (Nat → Int32) × (Nat → Int32) × (Nat → Int32) × (Nat → Int32) × (Nat → Int32) × (Nat → Int32) × (Nat → Int32) × (Nat → Int64) × (Nat → Int64)) := fX12_laysDown_2 x79 x92 x93 x94 x95 x96 x97  0 x74 x75 x76 x77 x78 x101 x104 x112 y99 y100
set_option maxHeartbeats 4000000 in
set_option maxRecDepth 100000 in
theorem wX12_laysDown_0 {l : Launch} {b0 : Nat} {D : GD} {K : KT} {n : Nat} {κ : QT} {X0 : XT} {Y0 : YT} {Z : ZT} (hL : LY n κ) (hN : ([74, 75, 76, 77, 78, 79, 92, 93, 94, 95, 96, 97, 101, 104, 112] : List Nat).Nodup) (hM : ([99, 100] : List Nat).Nodup) (hC : gC l b0 D K RX12 cX12_laysDown none 3 7 166 0 0) {x79 : Nat → Int32} {x92 : Nat → Int32} {x93 : Nat → Int32} {x94 : Nat → Int32} {x95 : Nat → Int32} {x96 : Nat → Int32} {x97 : Nat → Int32} {rx74 : (Nat → Int32)} {rx75 : (Nat → Int32)} {rx76 : (Nat → Int32)} {rx77 : (Nat → Int32)} {rx78 : (Nat → Int32)} {rx101 : (Nat → Int32)} {rx104 : (Nat → Int32)} {rx112 : (Nat → Int32)} {ry99 : (Nat → Int64)} {ry100 : (Nat → Int64)} (hret : ∀ pc loc, decode cX12_laysDown pc = .ok (.return_, 1) → gV l b0 D K (n, κ, ov X0 [74, 75, 76, 77, 78, 79, 92, 93, 94, 95, 96, 97, 101, 104, 112] [rx74, rx75, rx76, rx77, rx78, x79, x92, x93, x94, x95, x96, x97, rx101, rx104, rx112], ov Y0 [99, 100] [ry99, ry100], Z, 0, 0) pc loc []) {x74 : (Nat → Int32)} {x75 : (Nat → Int32)} {x76 : (Nat → Int32)} {x77 : (Nat → Int32)} {x78 : (Nat → Int32)} {x101 : (Nat → Int32)} {x104 : (Nat → Int32)} {x112 : (Nat → Int32)} {y99 : (Nat → Int64)} {y100 : (Nat → Int64)} (hf : fX12_laysDown_0 x79 x92 x93 x94 x95 x96 x97  x74 x75 x76 x77 x78 x101 x104 x112 y99 y100 = some (rx74, rx75, rx76, rx77, rx78, rx101, rx104, rx112, ry99, ry100)) : gV l b0 D K (n, κ, ov X0 [74, 75, 76, 77, 78, 79, 92, 93, 94, 95, 96, 97, 101, 104, 112] [x74, x75, x76, x77, x78, x79, x92, x93, x94, x95, x96, x97, x101, x104, x112], ov Y0 [99, 100] [y99, y100], Z, 0, 0) 0 [(0, .ref (b0 + 74))] [] := by
  unfold fX12_laysDown_0 at hf
  refine g_iconst hC (v := 0) dX12_laysDown_0 ic_0 ?_
  refine g_istore_n hC (i := 1) [(1, .int 0), (0, .ref (b0 + 74))] rfl dX12_laysDown_1 (by decide) rfl ?_
  exact g_sub [1, 0] rfl (wX12_laysDown_2 hL hN hM hC  hret  5000 0 x74 x75 x76 x77 x78 x101 x104 x112 y99 y100 hf)

def fX12_laysDown   (x79 : Nat → Int32) (x92 : Nat → Int32) (x93 : Nat → Int32) (x94 : Nat → Int32) (x95 : Nat → Int32) (x96 : Nat → Int32) (x97 : Nat → Int32)   (x74 : Nat → Int32) (x75 : Nat → Int32) (x76 : Nat → Int32) (x77 : Nat → Int32) (x78 : Nat → Int32) (x101 : Nat → Int32) (x104 : Nat → Int32) (x112 : Nat → Int32) (y99 : Nat → Int64) (y100 : Nat → Int64) : Option ((Nat → Int32) × (Nat → Int32) × (Nat → Int32) × (Nat → Int32) × (Nat → Int32) × (Nat → Int32) × (Nat → Int32) × (Nat → Int32) × (Nat → Int64) × (Nat → Int64)) := fX12_laysDown_0 x79 x92 x93 x94 x95 x96 x97 x74 x75 x76 x77 x78 x101 x104 x112 y99 y100

set_option maxHeartbeats 4000000 in
set_option maxRecDepth 100000 in
theorem c_X12_laysDown (l : Launch) {b0 : Nat} {D : GD} {n : Nat} {κ : QT} {X0 : XT} {Y0 : YT} {Z : ZT} (hL : LY n κ) {x74 : Nat → Int32} {x75 : Nat → Int32} {x76 : Nat → Int32} {x77 : Nat → Int32} {x78 : Nat → Int32} {x79 : Nat → Int32} {x92 : Nat → Int32} {x93 : Nat → Int32} {x94 : Nat → Int32} {x95 : Nat → Int32} {x96 : Nat → Int32} {x97 : Nat → Int32} {x101 : Nat → Int32} {x104 : Nat → Int32} {x112 : Nat → Int32} {y99 : Nat → Int64} {y100 : Nat → Int64} (hx : ([74, 75, 76, 77, 78, 79, 92, 93, 94, 95, 96, 97, 101, 104, 112] : List Nat).map X0 = [x74, x75, x76, x77, x78, x79, x92, x93, x94, x95, x96, x97, x101, x104, x112]) (hy : ([99, 100] : List Nat).map Y0 = [y99, y100]) {rx74 : (Nat → Int32)} {rx75 : (Nat → Int32)} {rx76 : (Nat → Int32)} {rx77 : (Nat → Int32)} {rx78 : (Nat → Int32)} {rx101 : (Nat → Int32)} {rx104 : (Nat → Int32)} {rx112 : (Nat → Int32)} {ry99 : (Nat → Int64)} {ry100 : (Nat → Int64)} (hf : fX12_laysDown x79 x92 x93 x94 x95 x96 x97 x74 x75 x76 x77 x78 x101 x104 x112 y99 y100 = some (rx74, rx75, rx76, rx77, rx78, rx101, rx104, rx112, ry99, ry100)) : gMv l yX12_laysDown cX12_laysDown 3 none 7 166 0 0 b0 D [.ref (b0 + 74)] (n, κ, X0, Y0, Z) (n, κ, ov X0 [74, 75, 76, 77, 78, 79, 92, 93, 94, 95, 96, 97, 101, 104, 112] [rx74, rx75, rx76, rx77, rx78, x79, x92, x93, x94, x95, x96, x97, rx101, rx104, rx112], ov Y0 [99, 100] [ry99, ry100], Z) := by
  have hN : ([74, 75, 76, 77, 78, 79, 92, 93, 94, 95, 96, 97, 101, 104, 112] : List Nat).Nodup := by decide
  have hM : ([99, 100] : List Nat).Nodup := by decide
  refine g_metv (own := RX12) (by decide) rfl rfl (Nat.le_of_ble_eq_true rfl) ?_
  intro K hC hret
  have e := wX12_laysDown_0 hL hN hM hC  hret hf
  rw [ov_id' hx, ov_id' hy] at e
  exact g_sub [0] rfl e

-- X12_down
def fX12_down_0   (x79 : Nat → Int32) (x92 : Nat → Int32) (x93 : Nat → Int32) (x94 : Nat → Int32) (x95 : Nat → Int32) (x96 : Nat → Int32) (x97 : Nat → Int32)  (v1 : Int32) (x74 : (Nat → Int32)) (x75 : (Nat → Int32)) (x76 : (Nat → Int32)) (x77 : (Nat → Int32)) (x78 : (Nat → Int32)) (x101 : (Nat → Int32)) (x104 : (Nat → Int32)) (x112 : (Nat → Int32)) (y99 : (Nat → Int64)) (y100 : (Nat → Int64)) : Option (Int32 × (Nat → Int32) × (Nat → Int32) × (Nat → Int32) × (Nat → Int32) × (Nat → Int32) × (Nat → Int32) × (Nat → Int32) × (Nat → Int32) × (Nat → Int64) × (Nat → Int64)) := bd1 (fX12_isHouse x75 v1) fun r_1 => (if r_1 = 0 then (some ((-1), x74, x75, x76, x77, x78, x101, x104, x112, y99, y100)) else (bd10 (fX12_laysDown x79 x92 x93 x94 x95 x96 x97 x74 x75 x76 x77 x78 x101 x104 x112 y99 y100) fun x74_3 x75_4 x76_5 x77_6 x78_7 x101_8 x104_9 x112_10 y99_11 y100_12 => (gd (inb v1 6) (some (x104_9 v1.toNatClampNeg, x74_3, x75_4, x76_5, x77_6, x78_7, x101_8, x104_9, x112_10, y99_11, y100_12)))))
set_option maxHeartbeats 4000000 in
set_option maxRecDepth 100000 in
theorem wX12_down_0 {l : Launch} {b0 : Nat} {D : GD} {K : KT} {n : Nat} {κ : QT} {X0 : XT} {Y0 : YT} {Z : ZT} (hL : LY n κ) (hN : ([74, 75, 76, 77, 78, 79, 92, 93, 94, 95, 96, 97, 101, 104, 112] : List Nat).Nodup) (hM : ([99, 100] : List Nat).Nodup) (hC : gC l b0 D K RX12 cX12_down (some FieldType.int) 2 8 188 0 0) {x79 : Nat → Int32} {x92 : Nat → Int32} {x93 : Nat → Int32} {x94 : Nat → Int32} {x95 : Nat → Int32} {x96 : Nat → Int32} {x97 : Nat → Int32} {r : Int32} {rx74 : (Nat → Int32)} {rx75 : (Nat → Int32)} {rx76 : (Nat → Int32)} {rx77 : (Nat → Int32)} {rx78 : (Nat → Int32)} {rx101 : (Nat → Int32)} {rx104 : (Nat → Int32)} {rx112 : (Nat → Int32)} {ry99 : (Nat → Int64)} {ry100 : (Nat → Int64)} (hret : ∀ pc loc, narrow .int (.int r) = .int r → decode cX12_down pc = .ok (.ireturn, 1) → gV l b0 D K (n, κ, ov X0 [74, 75, 76, 77, 78, 79, 92, 93, 94, 95, 96, 97, 101, 104, 112] [rx74, rx75, rx76, rx77, rx78, x79, x92, x93, x94, x95, x96, x97, rx101, rx104, rx112], ov Y0 [99, 100] [ry99, ry100], Z, 0, 0) pc loc [.int r]) {v1 : Int32} {x74 : (Nat → Int32)} {x75 : (Nat → Int32)} {x76 : (Nat → Int32)} {x77 : (Nat → Int32)} {x78 : (Nat → Int32)} {x101 : (Nat → Int32)} {x104 : (Nat → Int32)} {x112 : (Nat → Int32)} {y99 : (Nat → Int64)} {y100 : (Nat → Int64)} (hf : fX12_down_0 x79 x92 x93 x94 x95 x96 x97  v1 x74 x75 x76 x77 x78 x101 x104 x112 y99 y100 = some (r, rx74, rx75, rx76, rx77, rx78, rx101, rx104, rx112, ry99, ry100)) : gV l b0 D K (n, κ, ov X0 [74, 75, 76, 77, 78, 79, 92, 93, 94, 95, 96, 97, 101, 104, 112] [x74, x75, x76, x77, x78, x79, x92, x93, x94, x95, x96, x97, x101, x104, x112], ov Y0 [99, 100] [y99, y100], Z, 0, 0) 0 [(0, .ref (b0 + 74)), (1, .int v1)] [] := by
  unfold fX12_down_0 at hf
  refine g_aload_n hC 0 dX12_down_0 rfl rfl ?_
  refine g_iload_n hC 1 dX12_down_1 rfl rfl ?_
  obtain ⟨r_1, q_2, hf⟩ := bd1E hf
  refine g_callV_i (a := 74) hC (X' := ov X0 [74, 75, 76, 77, 78, 79, 92, 93, 94, 95, 96, 97, 101, 104, 112] [x74, x75, x76, x77, x78, x79, x92, x93, x94, x95, x96, x97, x101, x104, x112]) (Y' := ov Y0 [99, 100] [y99, y100]) (As := [.int v1]) (gMi_eq (c_X12_isHouse l hL (ov_map hN [1] (by rfl) (by rfl)) (ov_map hM [] (by rfl) (by rfl)) q_2) (ov_ovE hN (by rfl) [1] [0, 2, 3, 4, 5, 6, 7, 8, 9, 10, 11, 12, 13, 14] (by rfl) (by rfl) [x74, x76, x77, x78, x79, x92, x93, x94, x95, x96, x97, x101, x104, x112] (by rfl) (by rfl) (by rfl) 15 (by rfl) (by decide)) (ov_ovE hM (by rfl) [] [0, 1] (by rfl) (by rfl) [y99, y100] (by rfl) (by rfl) (by rfl) 2 (by rfl) (by decide))) tw_1530 tw_1527 tw_127 tw_1529 tw_74 (ci := 12) rfl (by decide) (kk_74 hL) (kn_74 hL) pd_X12_isHouse (by decide) (by decide) rfl rfl (Nat.le_of_ble_eq_true rfl) rfl dX12_down_2 ?_
  refine g_if_ne hC 10 dX12_down_5 (by decide) (fun hc => ?_) (fun hc => ?_)
  · replace hf := ifF hf hc
    refine g_aload_n hC 0 dX12_down_10 rfl rfl ?_
    obtain ⟨x74_3, x75_4, x76_5, x77_6, x78_7, x101_8, x104_9, x112_10, y99_11, y100_12, q_13, hf⟩ := bd10E hf
    refine g_callV_v (a := 74) hC (X' := ov X0 [74, 75, 76, 77, 78, 79, 92, 93, 94, 95, 96, 97, 101, 104, 112] [x74_3, x75_4, x76_5, x77_6, x78_7, x79, x92, x93, x94, x95, x96, x97, x101_8, x104_9, x112_10]) (Y' := ov Y0 [99, 100] [y99_11, y100_12]) (As := []) (gMv_eq (c_X12_laysDown l hL (ov_map hN [0, 1, 2, 3, 4, 5, 6, 7, 8, 9, 10, 11, 12, 13, 14] (by rfl) (by rfl)) (ov_map hM [0, 1] (by rfl) (by rfl)) q_13) (ov_ovE hN (by rfl) [0, 1, 2, 3, 4, 5, 6, 7, 8, 9, 10, 11, 12, 13, 14] [] (by rfl) (by rfl) [] (by rfl) (by rfl) (by rfl) 15 (by rfl) (by decide)) (ov_ovE hM (by rfl) [0, 1] [] (by rfl) (by rfl) [] (by rfl) (by rfl) (by rfl) 2 (by rfl) (by decide))) tw_1701 tw_1698 tw_127 tw_1700 tw_103 (ci := 12) rfl (by decide) (kk_74 hL) (kn_74 hL) pd_X12_laysDown (by decide) (by decide) rfl rfl (Nat.le_of_ble_eq_true rfl) rfl dX12_down_11 ?_
    refine g_aload_n hC 0 dX12_down_14 rfl rfl ?_
    refine gt_X12_109 hC (a := 74) (kk_74 hL) (kn_74 hL) dX12_down_15 ?_
    refine g_ref (b := 104) rfl ?_
    refine g_iload_n hC 1 dX12_down_18 rfl rfl ?_
    obtain ⟨h_14, hf⟩ := gdE hf
    refine g_iald hC (x := x104_9) (kk_104 hL) (kn_104 hL) (ov_get hN 13 rfl rfl) (inb_in h_14) dX12_down_19 ?_
    obtain ⟨rfl, rfl, rfl, rfl, rfl, rfl, rfl, rfl, rfl, rfl, rfl⟩ := sm11E hf
    exact hret _ _ rfl dX12_down_20
  · replace hf := ifT hf hc
    refine g_iconst hC (v := (-1)) dX12_down_8 ic_m1 ?_
    obtain ⟨rfl, rfl, rfl, rfl, rfl, rfl, rfl, rfl, rfl, rfl, rfl⟩ := sm11E hf
    exact hret _ _ rfl dX12_down_9

def fX12_down   (x79 : Nat → Int32) (x92 : Nat → Int32) (x93 : Nat → Int32) (x94 : Nat → Int32) (x95 : Nat → Int32) (x96 : Nat → Int32) (x97 : Nat → Int32)  (v1 : Int32) (x74 : Nat → Int32) (x75 : Nat → Int32) (x76 : Nat → Int32) (x77 : Nat → Int32) (x78 : Nat → Int32) (x101 : Nat → Int32) (x104 : Nat → Int32) (x112 : Nat → Int32) (y99 : Nat → Int64) (y100 : Nat → Int64) : Option (Int32 × (Nat → Int32) × (Nat → Int32) × (Nat → Int32) × (Nat → Int32) × (Nat → Int32) × (Nat → Int32) × (Nat → Int32) × (Nat → Int32) × (Nat → Int64) × (Nat → Int64)) := fX12_down_0 x79 x92 x93 x94 x95 x96 x97 v1 x74 x75 x76 x77 x78 x101 x104 x112 y99 y100

set_option maxHeartbeats 4000000 in
set_option maxRecDepth 100000 in
theorem c_X12_down (l : Launch) {b0 : Nat} {D : GD} {n : Nat} {κ : QT} {X0 : XT} {Y0 : YT} {Z : ZT} (hL : LY n κ) {x74 : Nat → Int32} {x75 : Nat → Int32} {x76 : Nat → Int32} {x77 : Nat → Int32} {x78 : Nat → Int32} {x79 : Nat → Int32} {x92 : Nat → Int32} {x93 : Nat → Int32} {x94 : Nat → Int32} {x95 : Nat → Int32} {x96 : Nat → Int32} {x97 : Nat → Int32} {x101 : Nat → Int32} {x104 : Nat → Int32} {x112 : Nat → Int32} {y99 : Nat → Int64} {y100 : Nat → Int64} (hx : ([74, 75, 76, 77, 78, 79, 92, 93, 94, 95, 96, 97, 101, 104, 112] : List Nat).map X0 = [x74, x75, x76, x77, x78, x79, x92, x93, x94, x95, x96, x97, x101, x104, x112]) (hy : ([99, 100] : List Nat).map Y0 = [y99, y100]) {v1 : Int32} {r : Int32} {rx74 : (Nat → Int32)} {rx75 : (Nat → Int32)} {rx76 : (Nat → Int32)} {rx77 : (Nat → Int32)} {rx78 : (Nat → Int32)} {rx101 : (Nat → Int32)} {rx104 : (Nat → Int32)} {rx112 : (Nat → Int32)} {ry99 : (Nat → Int64)} {ry100 : (Nat → Int64)} (hf : fX12_down x79 x92 x93 x94 x95 x96 x97 v1 x74 x75 x76 x77 x78 x101 x104 x112 y99 y100 = some (r, rx74, rx75, rx76, rx77, rx78, rx101, rx104, rx112, ry99, ry100)) : gMi l yX12_down cX12_down 2 (some FieldType.int) 8 188 0 0 b0 D [.ref (b0 + 74), .int v1] (n, κ, X0, Y0, Z) (n, κ, ov X0 [74, 75, 76, 77, 78, 79, 92, 93, 94, 95, 96, 97, 101, 104, 112] [rx74, rx75, rx76, rx77, rx78, x79, x92, x93, x94, x95, x96, x97, rx101, rx104, rx112], ov Y0 [99, 100] [ry99, ry100], Z) r := by
  have hN : ([74, 75, 76, 77, 78, 79, 92, 93, 94, 95, 96, 97, 101, 104, 112] : List Nat).Nodup := by decide
  have hM : ([99, 100] : List Nat).Nodup := by decide
  refine g_meti (own := RX12) (by decide) rfl rfl (Nat.le_of_ble_eq_true rfl) ?_
  intro K hC hret
  have e := wX12_down_0 hL hN hM hC  hret hf
  rw [ov_id' hx, ov_id' hy] at e
  exact g_sub [0, 1] rfl e


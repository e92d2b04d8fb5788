def FStep (l : Launch) (b0 : Nat) (D : GD) (n : Nat) (κ : QT) (Z : ZT) (lk r : Int32) (X : XT) (Y : YT) (res : Int32) (X1 : XT) (Y1 : YT) : Prop := (r < 0 ∧ gMi l yX0_isSo cX0_isSo 6 (some FieldType.boolean) 5 138 0 0 b0 D [.ref (b0 + 67), .ref (b0 + 16), .null, .int lk] (n, κ, X, Y, Z) (n, κ, X1, Y1, Z) res) ∨ (0 ≤ r ∧ ∃ ru, inb r 6 = true ∧ Z 15 r.toNatClampNeg = some ru ∧ gMi l yX0_isSo cX0_isSo 6 (some FieldType.boolean) 5 138 0 0 b0 D [.ref (b0 + 67), .ref (b0 + 16), .ref (b0 + ru), .int lk] (n, κ, X, Y, Z) (n, κ, X1, Y1, Z) res)
def fRec (X : XT) (r : Int32) : XT := va_up (va_up X 72 (upd (X 72) (X 67 3).toNatClampNeg r)) 67 (upd (va_up X 72 (upd (X 72) (X 67 3).toNatClampNeg r) 67) 3 (va_up X 72 (upd (X 72) (X 67 3).toNatClampNeg r) 67 3 + 1))
def FRun (l : Launch) (b0 : Nat) (D : GD) (n : Nat) (κ : QT) (Z : ZT) (lk rc : Int32) : Nat → Int32 → XT → YT → XT → YT → Prop
  | 0, r, X, Y, X', Y' => (rc ≤ r ∨ (¬ rc ≤ r ∧ Int32.ofNat 7 ≤ X 67 3)) ∧ X' = X ∧ Y' = Y
  | m + 1, r, X, Y, X', Y' => ¬ rc ≤ r ∧ ¬ Int32.ofNat 7 ≤ X 67 3 ∧ ∃ res X1 Y1, FStep l b0 D n κ Z lk r X Y res X1 Y1 ∧ ((res = 0 ∧ FRun l b0 D n κ Z lk rc m (r + 1) X1 Y1 X' Y') ∨ (¬ res = 0 ∧ inb (X1 67 3) 7 = true ∧ FRun l b0 D n κ Z lk rc m (r + 1) (fRec X1 r) Y1 X' Y'))
section FIND
variable {l : Launch} {b0 : Nat} {D : GD} {K : KT} {n : Nat} {κ : QT} {Z : ZT} {rc lk : Int32} {mc ms : Nat}
set_option maxHeartbeats 4000000 in
set_option maxRecDepth 100000 in
theorem find_loop (hL : LY n κ) (hC : gC l b0 D K RX0 cX0_find none 6 6 163 mc ms) {X' : XT} {Y' : YT} (hend : ∀ r, gV l b0 D K (n, κ, X', Y', Z, 0, 0) 76 [(5, .int r), (0, .ref (b0 + 67)), (1, .ref (b0 + 16)), (2, .ref (b0 + 15)), (3, .int rc), (4, .int lk)] []) : ∀ m r X Y, FRun l b0 D n κ Z lk rc m r X Y X' Y' → gV l b0 D K (n, κ, X, Y, Z, 0, 0) 8 [(5, .int r), (0, .ref (b0 + 67)), (1, .ref (b0 + 16)), (2, .ref (b0 + 15)), (3, .int rc), (4, .int lk)] []
  | 0, r, X, Y, h => by
    obtain ⟨h1, rfl, rfl⟩ := h
    rcases h1 with h1 | ⟨h1, h2⟩
    · refine g_iload hC 0 dX0_find_8 rfl ?_
      refine g_iload_n hC 4 dX0_find_10 rfl rfl ?_
      refine g_icmp_ge hC 76 dX0_find_11 (by decide) (fun _ => ?_) (fun hq_ => absurd h1 hq_)
      exact hend r
    · refine g_iload hC 0 dX0_find_8 rfl ?_
      refine g_iload_n hC 4 dX0_find_10 rfl rfl ?_
      refine g_icmp_ge hC 76 dX0_find_11 (by decide) (fun hq_ => absurd hq_ h1) (fun _ => ?_)
      refine g_aload_n hC 1 dX0_find_14 rfl rfl ?_
      refine gt_X0_29 hC (x := (X') 67) (kk_67 hL) (kn_67 hL) rfl dX0_find_15 ?_
      refine g_aload_n hC 1 dX0_find_18 rfl rfl ?_
      refine gt_X0_18 hC (a := 67) (kk_67 hL) (kn_67 hL) dX0_find_19 ?_
      refine g_ref (b := 72) rfl ?_
      refine g_alen_i hC (L := 7) (kk_72 hL) (kn_72 hL) dX0_find_22 ?_
      refine g_icmp_ge hC 76 dX0_find_23 (by decide) (fun _ => ?_) (fun hq_ => absurd h2 hq_)
      exact hend r
  | m + 1, r, X, Y, h => by
    obtain ⟨h1, h2, res, X1, Y1, hS, hR⟩ := h
    refine g_iload hC 0 dX0_find_8 rfl ?_
    refine g_iload_n hC 4 dX0_find_10 rfl rfl ?_
    refine g_icmp_ge hC 76 dX0_find_11 (by decide) (fun hq_ => absurd hq_ h1) (fun _ => ?_)
    refine g_aload_n hC 1 dX0_find_14 rfl rfl ?_
    refine gt_X0_29 hC (x := X 67) (kk_67 hL) (kn_67 hL) rfl dX0_find_15 ?_
    refine g_aload_n hC 1 dX0_find_18 rfl rfl ?_
    refine gt_X0_18 hC (a := 67) (kk_67 hL) (kn_67 hL) dX0_find_19 ?_
    refine g_ref (b := 72) rfl ?_
    refine g_alen_i hC (L := 7) (kk_72 hL) (kn_72 hL) dX0_find_22 ?_
    refine g_icmp_ge hC 76 dX0_find_23 (by decide) (fun hq_ => absurd hq_ h2) (fun _ => ?_)
    refine g_aload_n hC 1 dX0_find_26 rfl rfl ?_
    refine g_aload_n hC 2 dX0_find_27 rfl rfl ?_
    refine g_iload hC 0 dX0_find_28 rfl ?_
    have behind : ∀ v, gMi l yX0_isSo cX0_isSo 6 (some FieldType.boolean) 5 138 0 0 b0 D [.ref (b0 + 67), .ref (b0 + 16), v, .int lk] (n, κ, X, Y, Z) (n, κ, X1, Y1, Z) res → v.category = 1 → gV l b0 D K (n, κ, X, Y, Z, 0, 0) 41 [(5, .int r), (0, .ref (b0 + 67)), (1, .ref (b0 + 16)), (2, .ref (b0 + 15)), (3, .int rc), (4, .int lk)] [v, .ref (b0 + 16), .ref (b0 + 67)] := by
      intro v hM hcat
      refine g_iload hC 5 dX0_find_41 rfl ?_
      refine g_callV_i (a := 67) hC (n' := n) (κ' := κ) (X' := X1) (Y' := Y1) (Z' := Z) (As := [.ref (b0 + 16), v, .int lk]) hM tw_1100 tw_1097 tw_126 tw_1099 tw_41 (ci := 0) rfl (by decide) (kk_67 hL) (kn_67 hL) pd_X0_isSo (by decide) ⟨Nat.zero_le _, Nat.zero_le _⟩ rfl rfl (Nat.le_of_ble_eq_true rfl) rfl dX0_find_43 ?_
      show gV l b0 D K (n, κ, X1, Y1, Z, 0, 0) 46 [(5, .int r), (0, .ref (b0 + 67)), (1, .ref (b0 + 16)), (2, .ref (b0 + 15)), (3, .int rc), (4, .int lk)] [.int res]
      rcases hR with ⟨g1, g2⟩ | ⟨g1, g2, g3⟩
      · refine g_if_eq hC 70 dX0_find_46 (by decide) (fun _ => ?_) (fun hq_ => absurd g1 hq_)
        obtain ⟨t, ht⟩ : ∃ t, r + 1 = t := ⟨_, rfl⟩
        refine g_iinc hC (i := 5) (v := t) [(5, .int t), (0, .ref (b0 + 67)), (1, .ref (b0 + 16)), (2, .ref (b0 + 15)), (3, .int rc), (4, .int lk)] dX0_find_70 (q := 0) rfl ((congrArg (HAdd.hAdd r) ic_1).trans ht) (by decide) rfl ?_
        refine g_goto hC 8 dX0_find_73 (by decide) ?_
        exact find_loop hL hC hend m t X1 Y1 (by rw [← ht]; exact g2)
      · refine g_if_eq hC 70 dX0_find_46 (by decide) (fun hq_ => absurd hq_ g1) (fun _ => ?_)
        refine g_aload_n hC 1 dX0_find_49 rfl rfl ?_
        refine gt_X0_18 hC (a := 67) (kk_67 hL) (kn_67 hL) dX0_find_50 ?_
        refine g_ref (b := 72) rfl ?_
        refine g_aload_n hC 1 dX0_find_53 rfl rfl ?_
        refine gt_X0_29 hC (x := X1 67) (kk_67 hL) (kn_67 hL) rfl dX0_find_54 ?_
        refine g_iload hC 0 dX0_find_57 rfl ?_
        refine g_iast hC (x := X1 72) (v := r) (kk_72 hL) (kn_72 hL) rfl (inb_in g2) rfl dX0_find_59 ?_
        refine g_aload_n hC 1 dX0_find_60 rfl rfl ?_
        refine g_dup hC dX0_find_61 rfl ?_
        refine gt_X0_29 hC (x := ((va_up X1 72 (upd (X1 72) ((X1 67) 3).toNatClampNeg r))) 67) (kk_67 hL) (kn_67 hL) rfl dX0_find_62 ?_
        refine g_iconst hC (v := 1) dX0_find_65 ic_1 ?_
        refine g_iadd hC dX0_find_66 ?_
        refine pt_X0_29 hC (v := ((((va_up X1 72 (upd (X1 72) ((X1 67) 3).toNatClampNeg r))) 67) 3) + 1) (x := ((va_up X1 72 (upd (X1 72) ((X1 67) 3).toNatClampNeg r))) 67) (kk_67 hL) (kn_67 hL) rfl rfl dX0_find_67 ?_
        refine g_eqX (show _ = fRec X1 r from rfl) ?_
        obtain ⟨t, ht⟩ : ∃ t, r + 1 = t := ⟨_, rfl⟩
        refine g_iinc hC (i := 5) (v := t) [(5, .int t), (0, .ref (b0 + 67)), (1, .ref (b0 + 16)), (2, .ref (b0 + 15)), (3, .int rc), (4, .int lk)] dX0_find_70 (q := 0) rfl ((congrArg (HAdd.hAdd r) ic_1).trans ht) (by decide) rfl ?_
        refine g_goto hC 8 dX0_find_73 (by decide) ?_
        exact find_loop hL hC hend m t (fRec X1 r) Y1 (by rw [← ht]; exact g3)
    rcases hS with ⟨s1, s2⟩ | ⟨s1, ru, s2, s3, s4⟩
    · refine g_if_ge hC 37 dX0_find_30 (by decide) (fun hq_ => absurd hq_ (Int32.not_le.mpr s1)) (fun _ => ?_)
      refine g_aconst_null hC dX0_find_33 ?_
      refine g_goto hC 41 dX0_find_34 (by decide) ?_
      exact behind .null s2 rfl
    · refine g_if_ge hC 37 dX0_find_30 (by decide) (fun _ => ?_) (fun hq_ => absurd s1 hq_)
      refine g_aload_n hC 3 dX0_find_37 rfl rfl ?_
      refine g_iload hC 0 dX0_find_38 rfl ?_
      refine g_aald17 hC (L := 6) (a := 15) (kk_15 hL) (kn_15 hL) (inb_in s2) (r := some ru) s3 dX0_find_40 ?_
      show gV l b0 D K (n, κ, X, Y, Z, 0, 0) 41 [(5, .int r), (0, .ref (b0 + 67)), (1, .ref (b0 + 16)), (2, .ref (b0 + 15)), (3, .int rc), (4, .int lk)] [.ref (b0 + ru), .ref (b0 + 16), .ref (b0 + 67)]
      exact behind (.ref (b0 + ru)) s4 rfl
end FIND
set_option maxHeartbeats 4000000 in
set_option maxRecDepth 100000 in
theorem c_find (l : Launch) {b0 : Nat} {D : GD} {n : Nat} {κ : QT} {X : XT} {Y : YT} {Z : ZT} (hL : LY n κ) {rc lk : Int32} {m : Nat} {X' : XT} {Y' : YT} (h : FRun l b0 D n κ Z lk rc m (-1) (va_up X 67 (upd (X 67) 3 0)) Y X' Y') : gMv l yX0_find cX0_find 6 none 6 163 0 0 b0 D [.ref (b0 + 67), .ref (b0 + 16), .ref (b0 + 15), .int rc, .int lk] (n, κ, X, Y, Z) (n, κ, X', Y', Z) := by
  refine g_metv (own := RX0) (by decide) rfl rfl (Nat.le_of_ble_eq_true rfl) ?_
  intro K hC hret
  refine g_aload_n hC 0 dX0_find_0 rfl rfl ?_
  refine g_iconst hC (v := 0) dX0_find_1 ic_0 ?_
  refine pt_X0_29 hC (v := 0) (x := X 67) (kk_67 hL) (kn_67 hL) rfl rfl dX0_find_2 ?_
  refine g_iconst hC (v := (-1)) dX0_find_5 ic_m1 ?_
  refine g_istore hC (i := 5) [(5, .int ((-1))), (0, .ref (b0 + 67)), (1, .ref (b0 + 16)), (2, .ref (b0 + 15)), (3, .int rc), (4, .int lk)] dX0_find_6 (by decide) rfl ?_
  exact find_loop hL hC (fun r => hret _ _ dX0_find_76) m (-1) _ _ h
set_option maxHeartbeats 4000000 in
set_option maxRecDepth 100000 in
theorem c_ruledA (l : Launch) {b0 : Nat} {D : GD} {n : Nat} {κ : QT} {X : XT} {Y : YT} {Z : ZT} (hL : LY n κ) {v1 : Int32} (h1 : fX11_isTold (X 17) = some 0)  : gMi l yX11_ruled cX11_ruled 2 (some FieldType.int) 1 20 0 0 b0 D [.ref (b0 + 0), .int v1] (n, κ, X, Y, Z) (n, κ, X, Y, Z) (-3) := by
  refine g_meti (own := RX11) (by decide) rfl rfl (Nat.le_of_ble_eq_true rfl) ?_
  intro K hC hret
  refine g_aload_n hC 0 dX11_ruled_0 rfl rfl ?_
  refine g_callV_i (a := 0) hC (n' := n) (κ' := κ) (X' := X) (Y' := Y) (Z' := Z) (As := []) (gMi_eq (c_X11_isTold l hL (X0 := X) rfl rfl h1) (ov_id _ [17]) rfl) tw_853 tw_850 tw_116 tw_852 tw_25 (ci := 11) rfl (by decide) (kk_0 hL) (kn_0 hL) pd_X11_isTold (by decide) (by decide) rfl rfl (Nat.le_of_ble_eq_true rfl) rfl dX11_ruled_1 ?_
  show gV l b0 D K (n, κ, X, Y, Z, 0, 0) 4 [(0, .ref (b0 + 0)), (1, .int v1)] [.int 0]
  refine g_if_eq hC 16 dX11_ruled_4 (by decide) (fun _ => ?_) (fun hq_ => absurd rfl hq_)
  refine g_bipush hC (v := (-3)) dX11_ruled_16 bp_m3 ?_
  exact hret _ _ rfl dX11_ruled_18
set_option maxHeartbeats 4000000 in
set_option maxRecDepth 100000 in
theorem c_ruledB (l : Launch) {b0 : Nat} {D : GD} {n : Nat} {κ : QT} {X : XT} {Y : YT} {Z : ZT} (hL : LY n κ) {v1 : Int32} (h1 : fX11_isTold (X 17) = some 1) (h2 : fX11_isWithin v1 0 1 = some 0)  : gMi l yX11_ruled cX11_ruled 2 (some FieldType.int) 1 22 0 0 b0 D [.ref (b0 + 0), .int v1] (n, κ, X, Y, Z) (n, κ, X, Y, Z) (-3) := by
  refine g_meti (own := RX11) (by decide) rfl rfl (Nat.le_of_ble_eq_true rfl) ?_
  intro K hC hret
  refine g_aload_n hC 0 dX11_ruled_0 rfl rfl ?_
  refine g_callV_i (a := 0) hC (n' := n) (κ' := κ) (X' := X) (Y' := Y) (Z' := Z) (As := []) (gMi_eq (c_X11_isTold l hL (X0 := X) rfl rfl h1) (ov_id _ [17]) rfl) tw_853 tw_850 tw_116 tw_852 tw_25 (ci := 11) rfl (by decide) (kk_0 hL) (kn_0 hL) pd_X11_isTold (by decide) (by decide) rfl rfl (Nat.le_of_ble_eq_true rfl) rfl dX11_ruled_1 ?_
  show gV l b0 D K (n, κ, X, Y, Z, 0, 0) 4 [(0, .ref (b0 + 0)), (1, .int v1)] [.int 1]
  refine g_if_eq hC 16 dX11_ruled_4 (by decide) (fun hq_ => absurd hq_ (by decide)) (fun _ => ?_)
  refine g_iload_n hC 1 dX11_ruled_7 rfl rfl ?_
  refine g_iconst hC (v := 0) dX11_ruled_8 ic_0 ?_
  refine g_iconst hC (v := 1) dX11_ruled_9 ic_1 ?_
  refine g_callS_i hC (n' := n) (κ' := κ) (X' := X) (Y' := Y) (Z' := Z) (As := [.int v1, .int 0, .int 1]) (gMi_eq (c_X11_isWithin l hL (X0 := X) rfl rfl h2) (ov_id _ []) rfl) tw_666 tw_870 tw_116 tw_665 pd_X11_isWithin (by decide) (by decide) rfl rfl (Nat.le_of_ble_eq_true rfl) rfl dX11_ruled_10 ?_
  show gV l b0 D K (n, κ, X, Y, Z, 0, 0) 13 [(0, .ref (b0 + 0)), (1, .int v1)] [.int 0]
  refine g_if_ne hC 19 dX11_ruled_13 (by decide) (fun hq_ => absurd rfl hq_) (fun _ => ?_)
  refine g_bipush hC (v := (-3)) dX11_ruled_16 bp_m3 ?_
  exact hret _ _ rfl dX11_ruled_18
set_option maxHeartbeats 4000000 in
set_option maxRecDepth 100000 in
theorem c_ruledC (l : Launch) {b0 : Nat} {D : GD} {n : Nat} {κ : QT} {X : XT} {Y : YT} {Z : ZT} (hL : LY n κ) {v1 : Int32} (h1 : fX11_isTold (X 17) = some 1) (h2 : fX11_isWithin v1 0 1 = some 1) {X1 : XT} {Y1 : YT} (hM : gMv l yX0_find cX0_find 6 none 6 163 0 0 b0 D [.ref (b0 + 67), .ref (b0 + 16), .ref (b0 + 15), .int (X 0 4), .int 0] (n, κ, X, Y, Z) (n, κ, X1, Y1, Z)) (h3 : v1 = 0) : gMi l yX11_ruled cX11_ruled 2 (some FieldType.int) 7 188 0 0 b0 D [.ref (b0 + 0), .int v1] (n, κ, X, Y, Z) (n, κ, X1, Y1, Z) (X1 67 3) := by
  refine g_meti (own := RX11) (by decide) rfl rfl (Nat.le_of_ble_eq_true rfl) ?_
  intro K hC hret
  refine g_aload_n hC 0 dX11_ruled_0 rfl rfl ?_
  refine g_callV_i (a := 0) hC (n' := n) (κ' := κ) (X' := X) (Y' := Y) (Z' := Z) (As := []) (gMi_eq (c_X11_isTold l hL (X0 := X) rfl rfl h1) (ov_id _ [17]) rfl) tw_853 tw_850 tw_116 tw_852 tw_25 (ci := 11) rfl (by decide) (kk_0 hL) (kn_0 hL) pd_X11_isTold (by decide) (by decide) rfl rfl (Nat.le_of_ble_eq_true rfl) rfl dX11_ruled_1 ?_
  show gV l b0 D K (n, κ, X, Y, Z, 0, 0) 4 [(0, .ref (b0 + 0)), (1, .int v1)] [.int 1]
  refine g_if_eq hC 16 dX11_ruled_4 (by decide) (fun hq_ => absurd hq_ (by decide)) (fun _ => ?_)
  refine g_iload_n hC 1 dX11_ruled_7 rfl rfl ?_
  refine g_iconst hC (v := 0) dX11_ruled_8 ic_0 ?_
  refine g_iconst hC (v := 1) dX11_ruled_9 ic_1 ?_
  refine g_callS_i hC (n' := n) (κ' := κ) (X' := X) (Y' := Y) (Z' := Z) (As := [.int v1, .int 0, .int 1]) (gMi_eq (c_X11_isWithin l hL (X0 := X) rfl rfl h2) (ov_id _ []) rfl) tw_666 tw_870 tw_116 tw_665 pd_X11_isWithin (by decide) (by decide) rfl rfl (Nat.le_of_ble_eq_true rfl) rfl dX11_ruled_10 ?_
  show gV l b0 D K (n, κ, X, Y, Z, 0, 0) 13 [(0, .ref (b0 + 0)), (1, .int v1)] [.int 1]
  refine g_if_ne hC 19 dX11_ruled_13 (by decide) (fun _ => ?_) (fun hq_ => absurd hq_ (by decide))
  refine g_aload_n hC 0 dX11_ruled_19 rfl rfl ?_
  refine gt_X11_92 hC (a := 0) (kk_0 hL) (kn_0 hL) dX11_ruled_20 ?_
  refine g_ref (b := 67) rfl ?_
  refine g_aload_n hC 0 dX11_ruled_23 rfl rfl ?_
  refine gt_X11_41 hC (a := 0) (kk_0 hL) (kn_0 hL) dX11_ruled_24 ?_
  refine g_ref (b := 16) rfl ?_
  refine g_aload_n hC 0 dX11_ruled_27 rfl rfl ?_
  refine gt_X11_34 hC (a := 0) (kk_0 hL) (kn_0 hL) dX11_ruled_28 ?_
  refine g_ref (b := 15) rfl ?_
  refine g_aload_n hC 0 dX11_ruled_31 rfl rfl ?_
  refine gt_X11_122 hC (x := X 0) (kk_0 hL) (kn_0 hL) rfl dX11_ruled_32 ?_
  refine g_iconst hC (v := 0) dX11_ruled_35 ic_0 ?_
  refine g_callV_v (a := 67) hC (n' := n) (κ' := κ) (X' := X1) (Y' := Y1) (Z' := Z) (As := [.ref (b0 + 16), .ref (b0 + 15), .int ((X 0) 4), .int 0]) hM tw_1096 tw_1093 tw_126 tw_1094 tw_1095 (ci := 0) rfl (by decide) (kk_67 hL) (kn_67 hL) pd_X0_find (by decide) (by decide) rfl rfl (Nat.le_of_ble_eq_true rfl) rfl dX11_ruled_36 ?_
  show gV l b0 D K (n, κ, X1, Y1, Z, 0, 0) 39 [(0, .ref (b0 + 0)), (1, .int v1)] []
  refine g_iload_n hC 1 dX11_ruled_39 rfl rfl ?_
  refine g_if_ne hC 51 dX11_ruled_40 (by decide) (fun hq_ => absurd h3 hq_) (fun _ => ?_)
  refine g_aload_n hC 0 dX11_ruled_43 rfl rfl ?_
  refine gt_X11_92 hC (a := 0) (kk_0 hL) (kn_0 hL) dX11_ruled_44 ?_
  refine g_ref (b := 67) rfl ?_
  refine gt_X11_283 hC (x := X1 67) (kk_67 hL) (kn_67 hL) rfl dX11_ruled_47 ?_
  exact hret _ _ rfl dX11_ruled_50
set_option maxHeartbeats 4000000 in
set_option maxRecDepth 100000 in
theorem c_ruledD (l : Launch) {b0 : Nat} {D : GD} {n : Nat} {κ : QT} {X : XT} {Y : YT} {Z : ZT} (hL : LY n κ) {v1 : Int32} (h1 : fX11_isTold (X 17) = some 1) (h2 : fX11_isWithin v1 0 1 = some 1) {X1 : XT} {Y1 : YT} (hM : gMv l yX0_find cX0_find 6 none 6 163 0 0 b0 D [.ref (b0 + 67), .ref (b0 + 16), .ref (b0 + 15), .int (X 0 4), .int 0] (n, κ, X, Y, Z) (n, κ, X1, Y1, Z)) (h3 : ¬ v1 = 0) (h4 : ¬ X1 67 3 ≤ 0) : gMi l yX11_ruled cX11_ruled 2 (some FieldType.int) 7 188 0 0 b0 D [.ref (b0 + 0), .int v1] (n, κ, X, Y, Z) (n, κ, X1, Y1, Z) (X1 72 0) := by
  refine g_meti (own := RX11) (by decide) rfl rfl (Nat.le_of_ble_eq_true rfl) ?_
  intro K hC hret
  refine g_aload_n hC 0 dX11_ruled_0 rfl rfl ?_
  refine g_callV_i (a := 0) hC (n' := n) (κ' := κ) (X' := X) (Y' := Y) (Z' := Z) (As := []) (gMi_eq (c_X11_isTold l hL (X0 := X) rfl rfl h1) (ov_id _ [17]) rfl) tw_853 tw_850 tw_116 tw_852 tw_25 (ci := 11) rfl (by decide) (kk_0 hL) (kn_0 hL) pd_X11_isTold (by decide) (by decide) rfl rfl (Nat.le_of_ble_eq_true rfl) rfl dX11_ruled_1 ?_
  show gV l b0 D K (n, κ, X, Y, Z, 0, 0) 4 [(0, .ref (b0 + 0)), (1, .int v1)] [.int 1]
  refine g_if_eq hC 16 dX11_ruled_4 (by decide) (fun hq_ => absurd hq_ (by decide)) (fun _ => ?_)
  refine g_iload_n hC 1 dX11_ruled_7 rfl rfl ?_
  refine g_iconst hC (v := 0) dX11_ruled_8 ic_0 ?_
  refine g_iconst hC (v := 1) dX11_ruled_9 ic_1 ?_
  refine g_callS_i hC (n' := n) (κ' := κ) (X' := X) (Y' := Y) (Z' := Z) (As := [.int v1, .int 0, .int 1]) (gMi_eq (c_X11_isWithin l hL (X0 := X) rfl rfl h2) (ov_id _ []) rfl) tw_666 tw_870 tw_116 tw_665 pd_X11_isWithin (by decide) (by decide) rfl rfl (Nat.le_of_ble_eq_true rfl) rfl dX11_ruled_10 ?_
  show gV l b0 D K (n, κ, X, Y, Z, 0, 0) 13 [(0, .ref (b0 + 0)), (1, .int v1)] [.int 1]
  refine g_if_ne hC 19 dX11_ruled_13 (by decide) (fun _ => ?_) (fun hq_ => absurd hq_ (by decide))
  refine g_aload_n hC 0 dX11_ruled_19 rfl rfl ?_
  refine gt_X11_92 hC (a := 0) (kk_0 hL) (kn_0 hL) dX11_ruled_20 ?_
  refine g_ref (b := 67) rfl ?_
  refine g_aload_n hC 0 dX11_ruled_23 rfl rfl ?_
  refine gt_X11_41 hC (a := 0) (kk_0 hL) (kn_0 hL) dX11_ruled_24 ?_
  refine g_ref (b := 16) rfl ?_
  refine g_aload_n hC 0 dX11_ruled_27 rfl rfl ?_
  refine gt_X11_34 hC (a := 0) (kk_0 hL) (kn_0 hL) dX11_ruled_28 ?_
  refine g_ref (b := 15) rfl ?_
  refine g_aload_n hC 0 dX11_ruled_31 rfl rfl ?_
  refine gt_X11_122 hC (x := X 0) (kk_0 hL) (kn_0 hL) rfl dX11_ruled_32 ?_
  refine g_iconst hC (v := 0) dX11_ruled_35 ic_0 ?_
  refine g_callV_v (a := 67) hC (n' := n) (κ' := κ) (X' := X1) (Y' := Y1) (Z' := Z) (As := [.ref (b0 + 16), .ref (b0 + 15), .int ((X 0) 4), .int 0]) hM tw_1096 tw_1093 tw_126 tw_1094 tw_1095 (ci := 0) rfl (by decide) (kk_67 hL) (kn_67 hL) pd_X0_find (by decide) (by decide) rfl rfl (Nat.le_of_ble_eq_true rfl) rfl dX11_ruled_36 ?_
  show gV l b0 D K (n, κ, X1, Y1, Z, 0, 0) 39 [(0, .ref (b0 + 0)), (1, .int v1)] []
  refine g_iload_n hC 1 dX11_ruled_39 rfl rfl ?_
  refine g_if_ne hC 51 dX11_ruled_40 (by decide) (fun _ => ?_) (fun hq_ => absurd hq_ h3)
  refine g_aload_n hC 0 dX11_ruled_51 rfl rfl ?_
  refine gt_X11_92 hC (a := 0) (kk_0 hL) (kn_0 hL) dX11_ruled_52 ?_
  refine g_ref (b := 67) rfl ?_
  refine gt_X11_283 hC (x := X1 67) (kk_67 hL) (kn_67 hL) rfl dX11_ruled_55 ?_
  refine g_if_le hC 73 dX11_ruled_58 (by decide) (fun hq_ => absurd hq_ h4) (fun _ => ?_)
  refine g_aload_n hC 0 dX11_ruled_61 rfl rfl ?_
  refine gt_X11_92 hC (a := 0) (kk_0 hL) (kn_0 hL) dX11_ruled_62 ?_
  refine g_ref (b := 67) rfl ?_
  refine gt_X11_284 hC (a := 67) (kk_67 hL) (kn_67 hL) dX11_ruled_65 ?_
  refine g_ref (b := 72) rfl ?_
  refine g_iconst hC (v := 0) dX11_ruled_68 ic_0 ?_
  refine g_iald hC (x := X1 72) (kk_72 hL) (kn_72 hL) rfl (inb_in (by decide)) dX11_ruled_69 ?_
  refine g_goto hC 75 dX11_ruled_70 (by decide) ?_
  exact hret _ _ rfl dX11_ruled_75
set_option maxHeartbeats 4000000 in
set_option maxRecDepth 100000 in
theorem c_ruledE (l : Launch) {b0 : Nat} {D : GD} {n : Nat} {κ : QT} {X : XT} {Y : YT} {Z : ZT} (hL : LY n κ) {v1 : Int32} (h1 : fX11_isTold (X 17) = some 1) (h2 : fX11_isWithin v1 0 1 = some 1) {X1 : XT} {Y1 : YT} (hM : gMv l yX0_find cX0_find 6 none 6 163 0 0 b0 D [.ref (b0 + 67), .ref (b0 + 16), .ref (b0 + 15), .int (X 0 4), .int 0] (n, κ, X, Y, Z) (n, κ, X1, Y1, Z)) (h3 : ¬ v1 = 0) (h4 : X1 67 3 ≤ 0) : gMi l yX11_ruled cX11_ruled 2 (some FieldType.int) 7 188 0 0 b0 D [.ref (b0 + 0), .int v1] (n, κ, X, Y, Z) (n, κ, X1, Y1, Z) (-2) := by
  refine g_meti (own := RX11) (by decide) rfl rfl (Nat.le_of_ble_eq_true rfl) ?_
  intro K hC hret
  refine g_aload_n hC 0 dX11_ruled_0 rfl rfl ?_
  refine g_callV_i (a := 0) hC (n' := n) (κ' := κ) (X' := X) (Y' := Y) (Z' := Z) (As := []) (gMi_eq (c_X11_isTold l hL (X0 := X) rfl rfl h1) (ov_id _ [17]) rfl) tw_853 tw_850 tw_116 tw_852 tw_25 (ci := 11) rfl (by decide) (kk_0 hL) (kn_0 hL) pd_X11_isTold (by decide) (by decide) rfl rfl (Nat.le_of_ble_eq_true rfl) rfl dX11_ruled_1 ?_
  show gV l b0 D K (n, κ, X, Y, Z, 0, 0) 4 [(0, .ref (b0 + 0)), (1, .int v1)] [.int 1]
  refine g_if_eq hC 16 dX11_ruled_4 (by decide) (fun hq_ => absurd hq_ (by decide)) (fun _ => ?_)
  refine g_iload_n hC 1 dX11_ruled_7 rfl rfl ?_
  refine g_iconst hC (v := 0) dX11_ruled_8 ic_0 ?_
  refine g_iconst hC (v := 1) dX11_ruled_9 ic_1 ?_
  refine g_callS_i hC (n' := n) (κ' := κ) (X' := X) (Y' := Y) (Z' := Z) (As := [.int v1, .int 0, .int 1]) (gMi_eq (c_X11_isWithin l hL (X0 := X) rfl rfl h2) (ov_id _ []) rfl) tw_666 tw_870 tw_116 tw_665 pd_X11_isWithin (by decide) (by decide) rfl rfl (Nat.le_of_ble_eq_true rfl) rfl dX11_ruled_10 ?_
  show gV l b0 D K (n, κ, X, Y, Z, 0, 0) 13 [(0, .ref (b0 + 0)), (1, .int v1)] [.int 1]
  refine g_if_ne hC 19 dX11_ruled_13 (by decide) (fun _ => ?_) (fun hq_ => absurd hq_ (by decide))
  refine g_aload_n hC 0 dX11_ruled_19 rfl rfl ?_
  refine gt_X11_92 hC (a := 0) (kk_0 hL) (kn_0 hL) dX11_ruled_20 ?_
  refine g_ref (b := 67) rfl ?_
  refine g_aload_n hC 0 dX11_ruled_23 rfl rfl ?_
  refine gt_X11_41 hC (a := 0) (kk_0 hL) (kn_0 hL) dX11_ruled_24 ?_
  refine g_ref (b := 16) rfl ?_
  refine g_aload_n hC 0 dX11_ruled_27 rfl rfl ?_
  refine gt_X11_34 hC (a := 0) (kk_0 hL) (kn_0 hL) dX11_ruled_28 ?_
  refine g_ref (b := 15) rfl ?_
  refine g_aload_n hC 0 dX11_ruled_31 rfl rfl ?_
  refine gt_X11_122 hC (x := X 0) (kk_0 hL) (kn_0 hL) rfl dX11_ruled_32 ?_
  refine g_iconst hC (v := 0) dX11_ruled_35 ic_0 ?_
  refine g_callV_v (a := 67) hC (n' := n) (κ' := κ) (X' := X1) (Y' := Y1) (Z' := Z) (As := [.ref (b0 + 16), .ref (b0 + 15), .int ((X 0) 4), .int 0]) hM tw_1096 tw_1093 tw_126 tw_1094 tw_1095 (ci := 0) rfl (by decide) (kk_67 hL) (kn_67 hL) pd_X0_find (by decide) (by decide) rfl rfl (Nat.le_of_ble_eq_true rfl) rfl dX11_ruled_36 ?_
  show gV l b0 D K (n, κ, X1, Y1, Z, 0, 0) 39 [(0, .ref (b0 + 0)), (1, .int v1)] []
  refine g_iload_n hC 1 dX11_ruled_39 rfl rfl ?_
  refine g_if_ne hC 51 dX11_ruled_40 (by decide) (fun _ => ?_) (fun hq_ => absurd hq_ h3)
  refine g_aload_n hC 0 dX11_ruled_51 rfl rfl ?_
  refine gt_X11_92 hC (a := 0) (kk_0 hL) (kn_0 hL) dX11_ruled_52 ?_
  refine g_ref (b := 67) rfl ?_
  refine gt_X11_283 hC (x := X1 67) (kk_67 hL) (kn_67 hL) rfl dX11_ruled_55 ?_
  refine g_if_le hC 73 dX11_ruled_58 (by decide) (fun _ => ?_) (fun hq_ => absurd h4 hq_)
  refine g_bipush hC (v := (-2)) dX11_ruled_73 bp_m2 ?_
  exact hret _ _ rfl dX11_ruled_75
def lkL (hc : Int32) (x67 x73 : Nat → Int32) : Nat → Int32 → Int32 → Option Int32
  | 0, _, _ => none
  | m + 1, h, b => if hc ≤ h then some b else bd1 (fX0_mostAlike x67 x73 h) fun a => bd1 (fX0_mostAlike x67 x73 b) fun c => if c ≤ a then lkL hc x67 x73 m (h + 1) b else lkL hc x67 x73 m (h + 1) h
section LOOK
variable {l : Launch} {b0 : Nat} {D : GD} {K : KT} {n : Nat} {κ : QT} {X : XT} {Y : YT} {Z : ZT} {v1 v2 : Int32} {mc ms : Nat}
set_option maxHeartbeats 4000000 in
set_option maxRecDepth 100000 in
theorem look_loop (hL : LY n κ) (hC : gC l b0 D K RX11 cX11_look (some FieldType.int) 5 7 188 mc ms) {q : Int32} (hend : ∀ h, gV l b0 D K (n, κ, X, Y, Z, 0, 0) 123 [(4, .int h), (3, .int q), (0, .ref (b0 + 0)), (1, .int v1), (2, .int v2)] []) : ∀ m h b, lkL (X 17 4) (X 67) (X 73) m h b = some q → gV l b0 D K (n, κ, X, Y, Z, 0, 0) 79 [(4, .int h), (3, .int b), (0, .ref (b0 + 0)), (1, .int v1), (2, .int v2)] []
  | 0, h, b, e => by cases e
  | m + 1, h, b, e => by
    by_cases h1 : X 17 4 ≤ h
    · obtain rfl : b = q := Option.some.inj ((if_pos h1).symm.trans e)
      refine g_iload hC 0 dX11_look_79 rfl ?_
      refine g_aload_n hC 2 dX11_look_81 rfl rfl ?_
      refine gt_X11_41 hC (a := 0) (kk_0 hL) (kn_0 hL) dX11_look_82 ?_
      refine g_ref (b := 16) rfl ?_
      refine gt_X11_51 hC (a := 16) (kk_16 hL) (kn_16 hL) dX11_look_85 ?_
      refine g_ref (b := 17) rfl ?_
      refine gt_X11_117 hC (x := X 17) (kk_17 hL) (kn_17 hL) rfl dX11_look_88 ?_
      refine g_icmp_ge hC 123 dX11_look_91 (by decide) (fun _ => ?_) (fun hq_ => absurd h1 hq_)
      exact hend h
    · replace e := (if_neg h1).symm.trans e
      obtain ⟨a, ea, e⟩ := bd1E e
      obtain ⟨c, ec, e⟩ := bd1E e
      refine g_iload hC 0 dX11_look_79 rfl ?_
      refine g_aload_n hC 2 dX11_look_81 rfl rfl ?_
      refine gt_X11_41 hC (a := 0) (kk_0 hL) (kn_0 hL) dX11_look_82 ?_
      refine g_ref (b := 16) rfl ?_
      refine gt_X11_51 hC (a := 16) (kk_16 hL) (kn_16 hL) dX11_look_85 ?_
      refine g_ref (b := 17) rfl ?_
      refine gt_X11_117 hC (x := X 17) (kk_17 hL) (kn_17 hL) rfl dX11_look_88 ?_
      refine g_icmp_ge hC 123 dX11_look_91 (by decide) (fun hq_ => absurd hq_ h1) (fun _ => ?_)
      refine g_aload_n hC 2 dX11_look_94 rfl rfl ?_
      refine gt_X11_92 hC (a := 0) (kk_0 hL) (kn_0 hL) dX11_look_95 ?_
      refine g_ref (b := 67) rfl ?_
      refine g_iload hC 0 dX11_look_98 rfl ?_
      refine g_callV_i (a := 67) hC (n' := n) (κ' := κ) (X' := X) (Y' := Y) (Z' := Z) (As := [.int h]) (gMi_eq (c_X0_mostAlike l hL (X0 := X) rfl rfl ea) (ov_id _ [67, 73]) rfl) tw_1122 tw_1119 tw_126 tw_1120 tw_1121 (ci := 0) rfl (by decide) (kk_67 hL) (kn_67 hL) pd_X0_mostAlike (by decide) ⟨Nat.zero_le _, Nat.zero_le _⟩ rfl rfl (Nat.le_of_ble_eq_true rfl) rfl dX11_look_100 ?_
      show gV l b0 D K (n, κ, X, Y, Z, 0, 0) 103 [(4, .int h), (3, .int b), (0, .ref (b0 + 0)), (1, .int v1), (2, .int v2)] [.int a]
      refine g_aload_n hC 2 dX11_look_103 rfl rfl ?_
      refine gt_X11_92 hC (a := 0) (kk_0 hL) (kn_0 hL) dX11_look_104 ?_
      refine g_ref (b := 67) rfl ?_
      refine g_iload_n hC 1 dX11_look_107 rfl rfl ?_
      refine g_callV_i (a := 67) hC (n' := n) (κ' := κ) (X' := X) (Y' := Y) (Z' := Z) (As := [.int b]) (gMi_eq (c_X0_mostAlike l hL (X0 := X) rfl rfl ec) (ov_id _ [67, 73]) rfl) tw_1122 tw_1119 tw_126 tw_1120 tw_1121 (ci := 0) rfl (by decide) (kk_67 hL) (kn_67 hL) pd_X0_mostAlike (by decide) ⟨Nat.zero_le _, Nat.zero_le _⟩ rfl rfl (Nat.le_of_ble_eq_true rfl) rfl dX11_look_108 ?_
      show gV l b0 D K (n, κ, X, Y, Z, 0, 0) 111 [(4, .int h), (3, .int b), (0, .ref (b0 + 0)), (1, .int v1), (2, .int v2)] [.int c, .int a]
      obtain ⟨t, ht⟩ : ∃ t, h + 1 = t := ⟨_, rfl⟩
      by_cases h2 : c ≤ a
      · refine g_icmp_ge hC 117 dX11_look_111 (by decide) (fun _ => ?_) (fun hq_ => absurd h2 hq_)
        refine g_iinc hC (i := 4) (v := t) [(4, .int t), (3, .int b), (0, .ref (b0 + 0)), (1, .int v1), (2, .int v2)] dX11_look_117 (q := 0) rfl ((congrArg (HAdd.hAdd h) ic_1).trans ht) (by decide) rfl ?_
        refine g_goto hC 79 dX11_look_120 (by decide) ?_
        exact look_loop hL hC hend m t b (by rw [← ht]; exact (if_pos h2).symm.trans e)
      · refine g_icmp_ge hC 117 dX11_look_111 (by decide) (fun hq_ => absurd hq_ h2) (fun _ => ?_)
        refine g_iload hC 0 dX11_look_114 rfl ?_
        refine g_istore_n hC (i := 3) [(3, .int h), (4, .int h), (0, .ref (b0 + 0)), (1, .int v1), (2, .int v2)] rfl dX11_look_116 (by decide) rfl ?_
        refine g_iinc hC (i := 4) (v := t) [(4, .int t), (3, .int h), (0, .ref (b0 + 0)), (1, .int v1), (2, .int v2)] dX11_look_117 (q := 1) rfl ((congrArg (HAdd.hAdd h) ic_1).trans ht) (by decide) rfl ?_
        refine g_goto hC 79 dX11_look_120 (by decide) ?_
        exact look_loop hL hC hend m t h (by rw [← ht]; exact (if_neg h2).symm.trans e)
end LOOK
set_option maxHeartbeats 4000000 in
set_option maxRecDepth 100000 in
theorem c_lookA (l : Launch) {b0 : Nat} {D : GD} {n : Nat} {κ : QT} {X : XT} {Y : YT} {Z : ZT} (hL : LY n κ) {v1 : Int32} {v2 : Int32} (h1 : fX11_isTold (X 17) = some 0)  : gMi l yX11_look cX11_look 5 (some FieldType.int) 7 188 0 0 b0 D [.ref (b0 + 0), .int v1, .int v2] (n, κ, X, Y, Z) (n, κ, X, Y, Z) (-1) := by
  refine g_meti (own := RX11) (by decide) rfl rfl (Nat.le_of_ble_eq_true rfl) ?_
  intro K hC hret
  refine g_aload_n hC 0 dX11_look_0 rfl rfl ?_
  refine g_callV_i (a := 0) hC (n' := n) (κ' := κ) (X' := X) (Y' := Y) (Z' := Z) (As := []) (gMi_eq (c_X11_isTold l hL (X0 := X) rfl rfl h1) (ov_id _ [17]) rfl) tw_853 tw_850 tw_116 tw_852 tw_25 (ci := 11) rfl (by decide) (kk_0 hL) (kn_0 hL) pd_X11_isTold (by decide) (by decide) rfl rfl (Nat.le_of_ble_eq_true rfl) rfl dX11_look_1 ?_
  show gV l b0 D K (n, κ, X, Y, Z, 0, 0) 4 [(0, .ref (b0 + 0)), (1, .int v1), (2, .int v2)] [.int 0]
  refine g_if_eq hC 26 dX11_look_4 (by decide) (fun _ => ?_) (fun hq_ => absurd rfl hq_)
  refine g_iconst hC (v := (-1)) dX11_look_26 ic_m1 ?_
  exact hret _ _ rfl dX11_look_27
set_option maxHeartbeats 4000000 in
set_option maxRecDepth 100000 in
theorem c_lookB (l : Launch) {b0 : Nat} {D : GD} {n : Nat} {κ : QT} {X : XT} {Y : YT} {Z : ZT} (hL : LY n κ) {v1 : Int32} {v2 : Int32} (h1 : fX11_isTold (X 17) = some 1) (h2 : fX11_isWithin v1 0 60 = some 0)  : gMi l yX11_look cX11_look 5 (some FieldType.int) 7 188 0 0 b0 D [.ref (b0 + 0), .int v1, .int v2] (n, κ, X, Y, Z) (n, κ, X, Y, Z) (-1) := by
  refine g_meti (own := RX11) (by decide) rfl rfl (Nat.le_of_ble_eq_true rfl) ?_
  intro K hC hret
  refine g_aload_n hC 0 dX11_look_0 rfl rfl ?_
  refine g_callV_i (a := 0) hC (n' := n) (κ' := κ) (X' := X) (Y' := Y) (Z' := Z) (As := []) (gMi_eq (c_X11_isTold l hL (X0 := X) rfl rfl h1) (ov_id _ [17]) rfl) tw_853 tw_850 tw_116 tw_852 tw_25 (ci := 11) rfl (by decide) (kk_0 hL) (kn_0 hL) pd_X11_isTold (by decide) (by decide) rfl rfl (Nat.le_of_ble_eq_true rfl) rfl dX11_look_1 ?_
  show gV l b0 D K (n, κ, X, Y, Z, 0, 0) 4 [(0, .ref (b0 + 0)), (1, .int v1), (2, .int v2)] [.int 1]
  refine g_if_eq hC 26 dX11_look_4 (by decide) (fun hq_ => absurd hq_ (by decide)) (fun _ => ?_)
  refine g_iload_n hC 1 dX11_look_7 rfl rfl ?_
  refine g_iconst hC (v := 0) dX11_look_8 ic_0 ?_
  refine g_bipush hC (v := 60) dX11_look_9 bp_60 ?_
  refine g_callS_i hC (n' := n) (κ' := κ) (X' := X) (Y' := Y) (Z' := Z) (As := [.int v1, .int 0, .int 60]) (gMi_eq (c_X11_isWithin l hL (X0 := X) rfl rfl h2) (ov_id _ []) rfl) tw_666 tw_870 tw_116 tw_665 pd_X11_isWithin (by decide) (by decide) rfl rfl (Nat.le_of_ble_eq_true rfl) rfl dX11_look_11 ?_
  show gV l b0 D K (n, κ, X, Y, Z, 0, 0) 14 [(0, .ref (b0 + 0)), (1, .int v1), (2, .int v2)] [.int 0]
  refine g_if_eq hC 26 dX11_look_14 (by decide) (fun _ => ?_) (fun hq_ => absurd rfl hq_)
  refine g_iconst hC (v := (-1)) dX11_look_26 ic_m1 ?_
  exact hret _ _ rfl dX11_look_27
set_option maxHeartbeats 4000000 in
set_option maxRecDepth 100000 in
theorem c_lookC (l : Launch) {b0 : Nat} {D : GD} {n : Nat} {κ : QT} {X : XT} {Y : YT} {Z : ZT} (hL : LY n κ) {v1 : Int32} {v2 : Int32} (h1 : fX11_isTold (X 17) = some 1) (h2 : fX11_isWithin v1 0 60 = some 1) (h3 : fX11_isWithin v2 0 1 = some 0)  : gMi l yX11_look cX11_look 5 (some FieldType.int) 7 188 0 0 b0 D [.ref (b0 + 0), .int v1, .int v2] (n, κ, X, Y, Z) (n, κ, X, Y, Z) (-1) := by
  refine g_meti (own := RX11) (by decide) rfl rfl (Nat.le_of_ble_eq_true rfl) ?_
  intro K hC hret
  refine g_aload_n hC 0 dX11_look_0 rfl rfl ?_
  refine g_callV_i (a := 0) hC (n' := n) (κ' := κ) (X' := X) (Y' := Y) (Z' := Z) (As := []) (gMi_eq (c_X11_isTold l hL (X0 := X) rfl rfl h1) (ov_id _ [17]) rfl) tw_853 tw_850 tw_116 tw_852 tw_25 (ci := 11) rfl (by decide) (kk_0 hL) (kn_0 hL) pd_X11_isTold (by decide) (by decide) rfl rfl (Nat.le_of_ble_eq_true rfl) rfl dX11_look_1 ?_
  show gV l b0 D K (n, κ, X, Y, Z, 0, 0) 4 [(0, .ref (b0 + 0)), (1, .int v1), (2, .int v2)] [.int 1]
  refine g_if_eq hC 26 dX11_look_4 (by decide) (fun hq_ => absurd hq_ (by decide)) (fun _ => ?_)
  refine g_iload_n hC 1 dX11_look_7 rfl rfl ?_
  refine g_iconst hC (v := 0) dX11_look_8 ic_0 ?_
  refine g_bipush hC (v := 60) dX11_look_9 bp_60 ?_
  refine g_callS_i hC (n' := n) (κ' := κ) (X' := X) (Y' := Y) (Z' := Z) (As := [.int v1, .int 0, .int 60]) (gMi_eq (c_X11_isWithin l hL (X0 := X) rfl rfl h2) (ov_id _ []) rfl) tw_666 tw_870 tw_116 tw_665 pd_X11_isWithin (by decide) (by decide) rfl rfl (Nat.le_of_ble_eq_true rfl) rfl dX11_look_11 ?_
  show gV l b0 D K (n, κ, X, Y, Z, 0, 0) 14 [(0, .ref (b0 + 0)), (1, .int v1), (2, .int v2)] [.int 1]
  refine g_if_eq hC 26 dX11_look_14 (by decide) (fun hq_ => absurd hq_ (by decide)) (fun _ => ?_)
  refine g_iload_n hC 2 dX11_look_17 rfl rfl ?_
  refine g_iconst hC (v := 0) dX11_look_18 ic_0 ?_
  refine g_iconst hC (v := 1) dX11_look_19 ic_1 ?_
  refine g_callS_i hC (n' := n) (κ' := κ) (X' := X) (Y' := Y) (Z' := Z) (As := [.int v2, .int 0, .int 1]) (gMi_eq (c_X11_isWithin l hL (X0 := X) rfl rfl h3) (ov_id _ []) rfl) tw_666 tw_870 tw_116 tw_665 pd_X11_isWithin (by decide) (by decide) rfl rfl (Nat.le_of_ble_eq_true rfl) rfl dX11_look_20 ?_
  show gV l b0 D K (n, κ, X, Y, Z, 0, 0) 23 [(0, .ref (b0 + 0)), (1, .int v1), (2, .int v2)] [.int 0]
  refine g_if_ne hC 28 dX11_look_23 (by decide) (fun hq_ => absurd rfl hq_) (fun _ => ?_)
  refine g_iconst hC (v := (-1)) dX11_look_26 ic_m1 ?_
  exact hret _ _ rfl dX11_look_27
set_option maxHeartbeats 4000000 in
set_option maxRecDepth 100000 in
theorem c_lookD (l : Launch) {b0 : Nat} {D : GD} {n : Nat} {κ : QT} {X : XT} {Y : YT} {Z : ZT} (hL : LY n κ) {v1 : Int32} {v2 : Int32} (h1 : fX11_isTold (X 17) = some 1) (h2 : fX11_isWithin v1 0 60 = some 1) (h3 : fX11_isWithin v2 0 1 = some 1) {X1 : XT} {Y1 : YT} (hM : gMv l yX0_find cX0_find 6 none 6 163 0 0 b0 D [.ref (b0 + 67), .ref (b0 + 16), .ref (b0 + 15), .int (X 0 4), .int v1] (n, κ, X, Y, Z) (n, κ, X1, Y1, Z)) (h4 : X1 67 3 = 0) : gMi l yX11_look cX11_look 5 (some FieldType.int) 7 188 0 0 b0 D [.ref (b0 + 0), .int v1, .int v2] (n, κ, X, Y, Z) (n, κ, X1, Y1, Z) (-2) := by
  refine g_meti (own := RX11) (by decide) rfl rfl (Nat.le_of_ble_eq_true rfl) ?_
  intro K hC hret
  refine g_aload_n hC 0 dX11_look_0 rfl rfl ?_
  refine g_callV_i (a := 0) hC (n' := n) (κ' := κ) (X' := X) (Y' := Y) (Z' := Z) (As := []) (gMi_eq (c_X11_isTold l hL (X0 := X) rfl rfl h1) (ov_id _ [17]) rfl) tw_853 tw_850 tw_116 tw_852 tw_25 (ci := 11) rfl (by decide) (kk_0 hL) (kn_0 hL) pd_X11_isTold (by decide) (by decide) rfl rfl (Nat.le_of_ble_eq_true rfl) rfl dX11_look_1 ?_
  show gV l b0 D K (n, κ, X, Y, Z, 0, 0) 4 [(0, .ref (b0 + 0)), (1, .int v1), (2, .int v2)] [.int 1]
  refine g_if_eq hC 26 dX11_look_4 (by decide) (fun hq_ => absurd hq_ (by decide)) (fun _ => ?_)
  refine g_iload_n hC 1 dX11_look_7 rfl rfl ?_
  refine g_iconst hC (v := 0) dX11_look_8 ic_0 ?_
  refine g_bipush hC (v := 60) dX11_look_9 bp_60 ?_
  refine g_callS_i hC (n' := n) (κ' := κ) (X' := X) (Y' := Y) (Z' := Z) (As := [.int v1, .int 0, .int 60]) (gMi_eq (c_X11_isWithin l hL (X0 := X) rfl rfl h2) (ov_id _ []) rfl) tw_666 tw_870 tw_116 tw_665 pd_X11_isWithin (by decide) (by decide) rfl rfl (Nat.le_of_ble_eq_true rfl) rfl dX11_look_11 ?_
  show gV l b0 D K (n, κ, X, Y, Z, 0, 0) 14 [(0, .ref (b0 + 0)), (1, .int v1), (2, .int v2)] [.int 1]
  refine g_if_eq hC 26 dX11_look_14 (by decide) (fun hq_ => absurd hq_ (by decide)) (fun _ => ?_)
  refine g_iload_n hC 2 dX11_look_17 rfl rfl ?_
  refine g_iconst hC (v := 0) dX11_look_18 ic_0 ?_
  refine g_iconst hC (v := 1) dX11_look_19 ic_1 ?_
  refine g_callS_i hC (n' := n) (κ' := κ) (X' := X) (Y' := Y) (Z' := Z) (As := [.int v2, .int 0, .int 1]) (gMi_eq (c_X11_isWithin l hL (X0 := X) rfl rfl h3) (ov_id _ []) rfl) tw_666 tw_870 tw_116 tw_665 pd_X11_isWithin (by decide) (by decide) rfl rfl (Nat.le_of_ble_eq_true rfl) rfl dX11_look_20 ?_
  show gV l b0 D K (n, κ, X, Y, Z, 0, 0) 23 [(0, .ref (b0 + 0)), (1, .int v1), (2, .int v2)] [.int 1]
  refine g_if_ne hC 28 dX11_look_23 (by decide) (fun _ => ?_) (fun hq_ => absurd hq_ (by decide))
  refine g_aload_n hC 0 dX11_look_28 rfl rfl ?_
  refine gt_X11_92 hC (a := 0) (kk_0 hL) (kn_0 hL) dX11_look_29 ?_
  refine g_ref (b := 67) rfl ?_
  refine g_aload_n hC 0 dX11_look_32 rfl rfl ?_
  refine gt_X11_41 hC (a := 0) (kk_0 hL) (kn_0 hL) dX11_look_33 ?_
  refine g_ref (b := 16) rfl ?_
  refine g_aload_n hC 0 dX11_look_36 rfl rfl ?_
  refine gt_X11_34 hC (a := 0) (kk_0 hL) (kn_0 hL) dX11_look_37 ?_
  refine g_ref (b := 15) rfl ?_
  refine g_aload_n hC 0 dX11_look_40 rfl rfl ?_
  refine gt_X11_122 hC (x := X 0) (kk_0 hL) (kn_0 hL) rfl dX11_look_41 ?_
  refine g_iload_n hC 1 dX11_look_44 rfl rfl ?_
  refine g_callV_v (a := 67) hC (n' := n) (κ' := κ) (X' := X1) (Y' := Y1) (Z' := Z) (As := [.ref (b0 + 16), .ref (b0 + 15), .int ((X 0) 4), .int v1]) hM tw_1096 tw_1093 tw_126 tw_1094 tw_1095 (ci := 0) rfl (by decide) (kk_67 hL) (kn_67 hL) pd_X0_find (by decide) (by decide) rfl rfl (Nat.le_of_ble_eq_true rfl) rfl dX11_look_45 ?_
  show gV l b0 D K (n, κ, X1, Y1, Z, 0, 0) 48 [(0, .ref (b0 + 0)), (1, .int v1), (2, .int v2)] []
  refine g_aload_n hC 0 dX11_look_48 rfl rfl ?_
  refine gt_X11_92 hC (a := 0) (kk_0 hL) (kn_0 hL) dX11_look_49 ?_
  refine g_ref (b := 67) rfl ?_
  refine gt_X11_283 hC (x := X1 67) (kk_67 hL) (kn_67 hL) rfl dX11_look_52 ?_
  refine g_if_eq hC 71 dX11_look_55 (by decide) (fun _ => ?_) (fun hq_ => absurd h4 hq_)
  refine g_bipush hC (v := (-2)) dX11_look_71 bp_m2 ?_
  exact hret _ _ rfl dX11_look_73
set_option maxHeartbeats 4000000 in
set_option maxRecDepth 100000 in
theorem c_lookE (l : Launch) {b0 : Nat} {D : GD} {n : Nat} {κ : QT} {X : XT} {Y : YT} {Z : ZT} (hL : LY n κ) {v1 : Int32} {v2 : Int32} (h1 : fX11_isTold (X 17) = some 1) (h2 : fX11_isWithin v1 0 60 = some 1) (h3 : fX11_isWithin v2 0 1 = some 1) {X1 : XT} {Y1 : YT} (hM : gMv l yX0_find cX0_find 6 none 6 163 0 0 b0 D [.ref (b0 + 67), .ref (b0 + 16), .ref (b0 + 15), .int (X 0 4), .int v1] (n, κ, X, Y, Z) (n, κ, X1, Y1, Z)) (h4 : ¬ X1 67 3 = 0) (h5 : X1 17 4 = 0) : gMi l yX11_look cX11_look 5 (some FieldType.int) 7 188 0 0 b0 D [.ref (b0 + 0), .int v1, .int v2] (n, κ, X, Y, Z) (n, κ, X1, Y1, Z) (-2) := by
  refine g_meti (own := RX11) (by decide) rfl rfl (Nat.le_of_ble_eq_true rfl) ?_
  intro K hC hret
  refine g_aload_n hC 0 dX11_look_0 rfl rfl ?_
  refine g_callV_i (a := 0) hC (n' := n) (κ' := κ) (X' := X) (Y' := Y) (Z' := Z) (As := []) (gMi_eq (c_X11_isTold l hL (X0 := X) rfl rfl h1) (ov_id _ [17]) rfl) tw_853 tw_850 tw_116 tw_852 tw_25 (ci := 11) rfl (by decide) (kk_0 hL) (kn_0 hL) pd_X11_isTold (by decide) (by decide) rfl rfl (Nat.le_of_ble_eq_true rfl) rfl dX11_look_1 ?_
  show gV l b0 D K (n, κ, X, Y, Z, 0, 0) 4 [(0, .ref (b0 + 0)), (1, .int v1), (2, .int v2)] [.int 1]
  refine g_if_eq hC 26 dX11_look_4 (by decide) (fun hq_ => absurd hq_ (by decide)) (fun _ => ?_)
  refine g_iload_n hC 1 dX11_look_7 rfl rfl ?_
  refine g_iconst hC (v := 0) dX11_look_8 ic_0 ?_
  refine g_bipush hC (v := 60) dX11_look_9 bp_60 ?_
  refine g_callS_i hC (n' := n) (κ' := κ) (X' := X) (Y' := Y) (Z' := Z) (As := [.int v1, .int 0, .int 60]) (gMi_eq (c_X11_isWithin l hL (X0 := X) rfl rfl h2) (ov_id _ []) rfl) tw_666 tw_870 tw_116 tw_665 pd_X11_isWithin (by decide) (by decide) rfl rfl (Nat.le_of_ble_eq_true rfl) rfl dX11_look_11 ?_
  show gV l b0 D K (n, κ, X, Y, Z, 0, 0) 14 [(0, .ref (b0 + 0)), (1, .int v1), (2, .int v2)] [.int 1]
  refine g_if_eq hC 26 dX11_look_14 (by decide) (fun hq_ => absurd hq_ (by decide)) (fun _ => ?_)
  refine g_iload_n hC 2 dX11_look_17 rfl rfl ?_
  refine g_iconst hC (v := 0) dX11_look_18 ic_0 ?_
  refine g_iconst hC (v := 1) dX11_look_19 ic_1 ?_
  refine g_callS_i hC (n' := n) (κ' := κ) (X' := X) (Y' := Y) (Z' := Z) (As := [.int v2, .int 0, .int 1]) (gMi_eq (c_X11_isWithin l hL (X0 := X) rfl rfl h3) (ov_id _ []) rfl) tw_666 tw_870 tw_116 tw_665 pd_X11_isWithin (by decide) (by decide) rfl rfl (Nat.le_of_ble_eq_true rfl) rfl dX11_look_20 ?_
  show gV l b0 D K (n, κ, X, Y, Z, 0, 0) 23 [(0, .ref (b0 + 0)), (1, .int v1), (2, .int v2)] [.int 1]
  refine g_if_ne hC 28 dX11_look_23 (by decide) (fun _ => ?_) (fun hq_ => absurd hq_ (by decide))
  refine g_aload_n hC 0 dX11_look_28 rfl rfl ?_
  refine gt_X11_92 hC (a := 0) (kk_0 hL) (kn_0 hL) dX11_look_29 ?_
  refine g_ref (b := 67) rfl ?_
  refine g_aload_n hC 0 dX11_look_32 rfl rfl ?_
  refine gt_X11_41 hC (a := 0) (kk_0 hL) (kn_0 hL) dX11_look_33 ?_
  refine g_ref (b := 16) rfl ?_
  refine g_aload_n hC 0 dX11_look_36 rfl rfl ?_
  refine gt_X11_34 hC (a := 0) (kk_0 hL) (kn_0 hL) dX11_look_37 ?_
  refine g_ref (b := 15) rfl ?_
  refine g_aload_n hC 0 dX11_look_40 rfl rfl ?_
  refine gt_X11_122 hC (x := X 0) (kk_0 hL) (kn_0 hL) rfl dX11_look_41 ?_
  refine g_iload_n hC 1 dX11_look_44 rfl rfl ?_
  refine g_callV_v (a := 67) hC (n' := n) (κ' := κ) (X' := X1) (Y' := Y1) (Z' := Z) (As := [.ref (b0 + 16), .ref (b0 + 15), .int ((X 0) 4), .int v1]) hM tw_1096 tw_1093 tw_126 tw_1094 tw_1095 (ci := 0) rfl (by decide) (kk_67 hL) (kn_67 hL) pd_X0_find (by decide) (by decide) rfl rfl (Nat.le_of_ble_eq_true rfl) rfl dX11_look_45 ?_
  show gV l b0 D K (n, κ, X1, Y1, Z, 0, 0) 48 [(0, .ref (b0 + 0)), (1, .int v1), (2, .int v2)] []
  refine g_aload_n hC 0 dX11_look_48 rfl rfl ?_
  refine gt_X11_92 hC (a := 0) (kk_0 hL) (kn_0 hL) dX11_look_49 ?_
  refine g_ref (b := 67) rfl ?_
  refine gt_X11_283 hC (x := X1 67) (kk_67 hL) (kn_67 hL) rfl dX11_look_52 ?_
  refine g_if_eq hC 71 dX11_look_55 (by decide) (fun hq_ => absurd hq_ h4) (fun _ => ?_)
  refine g_aload_n hC 0 dX11_look_58 rfl rfl ?_
  refine gt_X11_41 hC (a := 0) (kk_0 hL) (kn_0 hL) dX11_look_59 ?_
  refine g_ref (b := 16) rfl ?_
  refine gt_X11_51 hC (a := 16) (kk_16 hL) (kn_16 hL) dX11_look_62 ?_
  refine g_ref (b := 17) rfl ?_
  refine gt_X11_117 hC (x := X1 17) (kk_17 hL) (kn_17 hL) rfl dX11_look_65 ?_
  refine g_if_ne hC 74 dX11_look_68 (by decide) (fun hq_ => absurd h5 hq_) (fun _ => ?_)
  refine g_bipush hC (v := (-2)) dX11_look_71 bp_m2 ?_
  exact hret _ _ rfl dX11_look_73
set_option maxHeartbeats 4000000 in
set_option maxRecDepth 100000 in
theorem c_lookF (l : Launch) {b0 : Nat} {D : GD} {n : Nat} {κ : QT} {X : XT} {Y : YT} {Z : ZT} (hL : LY n κ) {v1 : Int32} {v2 : Int32} (h1 : fX11_isTold (X 17) = some 1) (h2 : fX11_isWithin v1 0 60 = some 1) (h3 : fX11_isWithin v2 0 1 = some 1) {X1 : XT} {Y1 : YT} (hM : gMv l yX0_find cX0_find 6 none 6 163 0 0 b0 D [.ref (b0 + 67), .ref (b0 + 16), .ref (b0 + 15), .int (X 0 4), .int v1] (n, κ, X, Y, Z) (n, κ, X1, Y1, Z)) (h4 : ¬ X1 67 3 = 0) (h5 : ¬ X1 17 4 = 0) {m : Nat} {q : Int32} (hq : lkL (X1 17 4) (X1 67) (X1 73) m 1 0 = some q) (h6 : v2 = 0) : gMi l yX11_look cX11_look 5 (some FieldType.int) 7 188 0 0 b0 D [.ref (b0 + 0), .int v1, .int v2] (n, κ, X, Y, Z) (n, κ, X1, Y1, Z) q := by
  refine g_meti (own := RX11) (by decide) rfl rfl (Nat.le_of_ble_eq_true rfl) ?_
  intro K hC hret
  refine g_aload_n hC 0 dX11_look_0 rfl rfl ?_
  refine g_callV_i (a := 0) hC (n' := n) (κ' := κ) (X' := X) (Y' := Y) (Z' := Z) (As := []) (gMi_eq (c_X11_isTold l hL (X0 := X) rfl rfl h1) (ov_id _ [17]) rfl) tw_853 tw_850 tw_116 tw_852 tw_25 (ci := 11) rfl (by decide) (kk_0 hL) (kn_0 hL) pd_X11_isTold (by decide) (by decide) rfl rfl (Nat.le_of_ble_eq_true rfl) rfl dX11_look_1 ?_
  show gV l b0 D K (n, κ, X, Y, Z, 0, 0) 4 [(0, .ref (b0 + 0)), (1, .int v1), (2, .int v2)] [.int 1]
  refine g_if_eq hC 26 dX11_look_4 (by decide) (fun hq_ => absurd hq_ (by decide)) (fun _ => ?_)
  refine g_iload_n hC 1 dX11_look_7 rfl rfl ?_
  refine g_iconst hC (v := 0) dX11_look_8 ic_0 ?_
  refine g_bipush hC (v := 60) dX11_look_9 bp_60 ?_
  refine g_callS_i hC (n' := n) (κ' := κ) (X' := X) (Y' := Y) (Z' := Z) (As := [.int v1, .int 0, .int 60]) (gMi_eq (c_X11_isWithin l hL (X0 := X) rfl rfl h2) (ov_id _ []) rfl) tw_666 tw_870 tw_116 tw_665 pd_X11_isWithin (by decide) (by decide) rfl rfl (Nat.le_of_ble_eq_true rfl) rfl dX11_look_11 ?_
  show gV l b0 D K (n, κ, X, Y, Z, 0, 0) 14 [(0, .ref (b0 + 0)), (1, .int v1), (2, .int v2)] [.int 1]
  refine g_if_eq hC 26 dX11_look_14 (by decide) (fun hq_ => absurd hq_ (by decide)) (fun _ => ?_)
  refine g_iload_n hC 2 dX11_look_17 rfl rfl ?_
  refine g_iconst hC (v := 0) dX11_look_18 ic_0 ?_
  refine g_iconst hC (v := 1) dX11_look_19 ic_1 ?_
  refine g_callS_i hC (n' := n) (κ' := κ) (X' := X) (Y' := Y) (Z' := Z) (As := [.int v2, .int 0, .int 1]) (gMi_eq (c_X11_isWithin l hL (X0 := X) rfl rfl h3) (ov_id _ []) rfl) tw_666 tw_870 tw_116 tw_665 pd_X11_isWithin (by decide) (by decide) rfl rfl (Nat.le_of_ble_eq_true rfl) rfl dX11_look_20 ?_
  show gV l b0 D K (n, κ, X, Y, Z, 0, 0) 23 [(0, .ref (b0 + 0)), (1, .int v1), (2, .int v2)] [.int 1]
  refine g_if_ne hC 28 dX11_look_23 (by decide) (fun _ => ?_) (fun hq_ => absurd hq_ (by decide))
  refine g_aload_n hC 0 dX11_look_28 rfl rfl ?_
  refine gt_X11_92 hC (a := 0) (kk_0 hL) (kn_0 hL) dX11_look_29 ?_
  refine g_ref (b := 67) rfl ?_
  refine g_aload_n hC 0 dX11_look_32 rfl rfl ?_
  refine gt_X11_41 hC (a := 0) (kk_0 hL) (kn_0 hL) dX11_look_33 ?_
  refine g_ref (b := 16) rfl ?_
  refine g_aload_n hC 0 dX11_look_36 rfl rfl ?_
  refine gt_X11_34 hC (a := 0) (kk_0 hL) (kn_0 hL) dX11_look_37 ?_
  refine g_ref (b := 15) rfl ?_
  refine g_aload_n hC 0 dX11_look_40 rfl rfl ?_
  refine gt_X11_122 hC (x := X 0) (kk_0 hL) (kn_0 hL) rfl dX11_look_41 ?_
  refine g_iload_n hC 1 dX11_look_44 rfl rfl ?_
  refine g_callV_v (a := 67) hC (n' := n) (κ' := κ) (X' := X1) (Y' := Y1) (Z' := Z) (As := [.ref (b0 + 16), .ref (b0 + 15), .int ((X 0) 4), .int v1]) hM tw_1096 tw_1093 tw_126 tw_1094 tw_1095 (ci := 0) rfl (by decide) (kk_67 hL) (kn_67 hL) pd_X0_find (by decide) (by decide) rfl rfl (Nat.le_of_ble_eq_true rfl) rfl dX11_look_45 ?_
  show gV l b0 D K (n, κ, X1, Y1, Z, 0, 0) 48 [(0, .ref (b0 + 0)), (1, .int v1), (2, .int v2)] []
  refine g_aload_n hC 0 dX11_look_48 rfl rfl ?_
  refine gt_X11_92 hC (a := 0) (kk_0 hL) (kn_0 hL) dX11_look_49 ?_
  refine g_ref (b := 67) rfl ?_
  refine gt_X11_283 hC (x := X1 67) (kk_67 hL) (kn_67 hL) rfl dX11_look_52 ?_
  refine g_if_eq hC 71 dX11_look_55 (by decide) (fun hq_ => absurd hq_ h4) (fun _ => ?_)
  refine g_aload_n hC 0 dX11_look_58 rfl rfl ?_
  refine gt_X11_41 hC (a := 0) (kk_0 hL) (kn_0 hL) dX11_look_59 ?_
  refine g_ref (b := 16) rfl ?_
  refine gt_X11_51 hC (a := 16) (kk_16 hL) (kn_16 hL) dX11_look_62 ?_
  refine g_ref (b := 17) rfl ?_
  refine gt_X11_117 hC (x := X1 17) (kk_17 hL) (kn_17 hL) rfl dX11_look_65 ?_
  refine g_if_ne hC 74 dX11_look_68 (by decide) (fun _ => ?_) (fun hq_ => absurd hq_ h5)
  refine g_iconst hC (v := 0) dX11_look_74 ic_0 ?_
  refine g_istore_n hC (i := 3) [(3, .int 0), (0, .ref (b0 + 0)), (1, .int v1), (2, .int v2)] rfl dX11_look_75 (by decide) rfl ?_
  refine g_iconst hC (v := 1) dX11_look_76 ic_1 ?_
  refine g_istore hC (i := 4) [(4, .int 1), (3, .int 0), (0, .ref (b0 + 0)), (1, .int v1), (2, .int v2)] dX11_look_77 (by decide) rfl ?_
  refine look_loop hL hC (fun h => ?_) m 1 0 hq
  refine g_iload_n hC 4 dX11_look_123 rfl rfl ?_
  refine g_if_ne hC 131 dX11_look_124 (by decide) (fun hq_ => absurd h6 hq_) (fun _ => ?_)
  refine g_iload_n hC 1 dX11_look_127 rfl rfl ?_
  refine g_goto hC 139 dX11_look_128 (by decide) ?_
  exact hret _ _ rfl dX11_look_139
set_option maxHeartbeats 4000000 in
set_option maxRecDepth 100000 in
theorem c_lookG (l : Launch) {b0 : Nat} {D : GD} {n : Nat} {κ : QT} {X : XT} {Y : YT} {Z : ZT} (hL : LY n κ) {v1 : Int32} {v2 : Int32} (h1 : fX11_isTold (X 17) = some 1) (h2 : fX11_isWithin v1 0 60 = some 1) (h3 : fX11_isWithin v2 0 1 = some 1) {X1 : XT} {Y1 : YT} (hM : gMv l yX0_find cX0_find 6 none 6 163 0 0 b0 D [.ref (b0 + 67), .ref (b0 + 16), .ref (b0 + 15), .int (X 0 4), .int v1] (n, κ, X, Y, Z) (n, κ, X1, Y1, Z)) (h4 : ¬ X1 67 3 = 0) (h5 : ¬ X1 17 4 = 0) {m : Nat} {q : Int32} (hq : lkL (X1 17 4) (X1 67) (X1 73) m 1 0 = some q) (h6 : ¬ v2 = 0) {r : Int32} (hr : fX0_mostAlike (X1 67) (X1 73) q = some r) : gMi l yX11_look cX11_look 5 (some FieldType.int) 7 188 0 0 b0 D [.ref (b0 + 0), .int v1, .int v2] (n, κ, X, Y, Z) (n, κ, X1, Y1, Z) r := by
  refine g_meti (own := RX11) (by decide) rfl rfl (Nat.le_of_ble_eq_true rfl) ?_
  intro K hC hret
  refine g_aload_n hC 0 dX11_look_0 rfl rfl ?_
  refine g_callV_i (a := 0) hC (n' := n) (κ' := κ) (X' := X) (Y' := Y) (Z' := Z) (As := []) (gMi_eq (c_X11_isTold l hL (X0 := X) rfl rfl h1) (ov_id _ [17]) rfl) tw_853 tw_850 tw_116 tw_852 tw_25 (ci := 11) rfl (by decide) (kk_0 hL) (kn_0 hL) pd_X11_isTold (by decide) (by decide) rfl rfl (Nat.le_of_ble_eq_true rfl) rfl dX11_look_1 ?_
  show gV l b0 D K (n, κ, X, Y, Z, 0, 0) 4 [(0, .ref (b0 + 0)), (1, .int v1), (2, .int v2)] [.int 1]
  refine g_if_eq hC 26 dX11_look_4 (by decide) (fun hq_ => absurd hq_ (by decide)) (fun _ => ?_)
  refine g_iload_n hC 1 dX11_look_7 rfl rfl ?_
  refine g_iconst hC (v := 0) dX11_look_8 ic_0 ?_
  refine g_bipush hC (v := 60) dX11_look_9 bp_60 ?_
  refine g_callS_i hC (n' := n) (κ' := κ) (X' := X) (Y' := Y) (Z' := Z) (As := [.int v1, .int 0, .int 60]) (gMi_eq (c_X11_isWithin l hL (X0 := X) rfl rfl h2) (ov_id _ []) rfl) tw_666 tw_870 tw_116 tw_665 pd_X11_isWithin (by decide) (by decide) rfl rfl (Nat.le_of_ble_eq_true rfl) rfl dX11_look_11 ?_
  show gV l b0 D K (n, κ, X, Y, Z, 0, 0) 14 [(0, .ref (b0 + 0)), (1, .int v1), (2, .int v2)] [.int 1]
  refine g_if_eq hC 26 dX11_look_14 (by decide) (fun hq_ => absurd hq_ (by decide)) (fun _ => ?_)
  refine g_iload_n hC 2 dX11_look_17 rfl rfl ?_
  refine g_iconst hC (v := 0) dX11_look_18 ic_0 ?_
  refine g_iconst hC (v := 1) dX11_look_19 ic_1 ?_
  refine g_callS_i hC (n' := n) (κ' := κ) (X' := X) (Y' := Y) (Z' := Z) (As := [.int v2, .int 0, .int 1]) (gMi_eq (c_X11_isWithin l hL (X0 := X) rfl rfl h3) (ov_id _ []) rfl) tw_666 tw_870 tw_116 tw_665 pd_X11_isWithin (by decide) (by decide) rfl rfl (Nat.le_of_ble_eq_true rfl) rfl dX11_look_20 ?_
  show gV l b0 D K (n, κ, X, Y, Z, 0, 0) 23 [(0, .ref (b0 + 0)), (1, .int v1), (2, .int v2)] [.int 1]
  refine g_if_ne hC 28 dX11_look_23 (by decide) (fun _ => ?_) (fun hq_ => absurd hq_ (by decide))
  refine g_aload_n hC 0 dX11_look_28 rfl rfl ?_
  refine gt_X11_92 hC (a := 0) (kk_0 hL) (kn_0 hL) dX11_look_29 ?_
  refine g_ref (b := 67) rfl ?_
  refine g_aload_n hC 0 dX11_look_32 rfl rfl ?_
  refine gt_X11_41 hC (a := 0) (kk_0 hL) (kn_0 hL) dX11_look_33 ?_
  refine g_ref (b := 16) rfl ?_
  refine g_aload_n hC 0 dX11_look_36 rfl rfl ?_
  refine gt_X11_34 hC (a := 0) (kk_0 hL) (kn_0 hL) dX11_look_37 ?_
  refine g_ref (b := 15) rfl ?_
  refine g_aload_n hC 0 dX11_look_40 rfl rfl ?_
  refine gt_X11_122 hC (x := X 0) (kk_0 hL) (kn_0 hL) rfl dX11_look_41 ?_
  refine g_iload_n hC 1 dX11_look_44 rfl rfl ?_
  refine g_callV_v (a := 67) hC (n' := n) (κ' := κ) (X' := X1) (Y' := Y1) (Z' := Z) (As := [.ref (b0 + 16), .ref (b0 + 15), .int ((X 0) 4), .int v1]) hM tw_1096 tw_1093 tw_126 tw_1094 tw_1095 (ci := 0) rfl (by decide) (kk_67 hL) (kn_67 hL) pd_X0_find (by decide) (by decide) rfl rfl (Nat.le_of_ble_eq_true rfl) rfl dX11_look_45 ?_
  show gV l b0 D K (n, κ, X1, Y1, Z, 0, 0) 48 [(0, .ref (b0 + 0)), (1, .int v1), (2, .int v2)] []
  refine g_aload_n hC 0 dX11_look_48 rfl rfl ?_
  refine gt_X11_92 hC (a := 0) (kk_0 hL) (kn_0 hL) dX11_look_49 ?_
  refine g_ref (b := 67) rfl ?_
  refine gt_X11_283 hC (x := X1 67) (kk_67 hL) (kn_67 hL) rfl dX11_look_52 ?_
  refine g_if_eq hC 71 dX11_look_55 (by decide) (fun hq_ => absurd hq_ h4) (fun _ => ?_)
  refine g_aload_n hC 0 dX11_look_58 rfl rfl ?_
  refine gt_X11_41 hC (a := 0) (kk_0 hL) (kn_0 hL) dX11_look_59 ?_
  refine g_ref (b := 16) rfl ?_
  refine gt_X11_51 hC (a := 16) (kk_16 hL) (kn_16 hL) dX11_look_62 ?_
  refine g_ref (b := 17) rfl ?_
  refine gt_X11_117 hC (x := X1 17) (kk_17 hL) (kn_17 hL) rfl dX11_look_65 ?_
  refine g_if_ne hC 74 dX11_look_68 (by decide) (fun _ => ?_) (fun hq_ => absurd hq_ h5)
  refine g_iconst hC (v := 0) dX11_look_74 ic_0 ?_
  refine g_istore_n hC (i := 3) [(3, .int 0), (0, .ref (b0 + 0)), (1, .int v1), (2, .int v2)] rfl dX11_look_75 (by decide) rfl ?_
  refine g_iconst hC (v := 1) dX11_look_76 ic_1 ?_
  refine g_istore hC (i := 4) [(4, .int 1), (3, .int 0), (0, .ref (b0 + 0)), (1, .int v1), (2, .int v2)] dX11_look_77 (by decide) rfl ?_
  refine look_loop hL hC (fun h => ?_) m 1 0 hq
  refine g_iload_n hC 4 dX11_look_123 rfl rfl ?_
  refine g_if_ne hC 131 dX11_look_124 (by decide) (fun _ => ?_) (fun hq_ => absurd hq_ h6)
  refine g_aload_n hC 2 dX11_look_131 rfl rfl ?_
  refine gt_X11_92 hC (a := 0) (kk_0 hL) (kn_0 hL) dX11_look_132 ?_
  refine g_ref (b := 67) rfl ?_
  refine g_iload_n hC 1 dX11_look_135 rfl rfl ?_
  refine g_callV_i (a := 67) hC (n' := n) (κ' := κ) (X' := X1) (Y' := Y1) (Z' := Z) (As := [.int q]) (gMi_eq (c_X0_mostAlike l hL (X0 := X1) rfl rfl hr) (ov_id _ [67, 73]) rfl) tw_1122 tw_1119 tw_126 tw_1120 tw_1121 (ci := 0) rfl (by decide) (kk_67 hL) (kn_67 hL) pd_X0_mostAlike (by decide) ⟨Nat.zero_le _, Nat.zero_le _⟩ rfl rfl (Nat.le_of_ble_eq_true rfl) rfl dX11_look_136 ?_
  show gV l b0 D K (n, κ, X1, Y1, Z, 0, 0) 139 [(4, .int h), (3, .int q), (0, .ref (b0 + 0)), (1, .int v1), (2, .int v2)] [.int r]
  exact hret _ _ rfl dX11_look_139

theorem bp_19 : (Int8.ofInt 19).toInt32 = 19 := by decide
theorem ov_app {α : Type} {X : Nat → α} {ks2 : List Nat} {ys : List α} : ∀ {ks : List Nat} {xs : List α}, ks.length = xs.length → ov X (ks ++ ks2) (xs ++ ys) = ov (ov X ks2 ys) ks xs
  | [], [], _ => rfl
  | k :: ks, x :: xs, h => by
    funext a
    show (if a = k then x else ov X (ks ++ ks2) (xs ++ ys) a) = (if a = k then x else ov (ov X ks2 ys) ks xs a)
    rw [ov_app (by simpa using h)]
  | [], _ :: _, h => by simp at h
  | _ :: _, [], h => by simp at h
/-- the standing at p as that at q -/
def cpS (X : XT) (p q : Nat) : XT := ov X [p, p + 1, p + 2, p + 3] [upd (upd (upd (X p) 0 (X q 0)) 1 (X q 1)) 2 (X q 2), va_cpy (X (q + 1)) (X (p + 1)) (0 : Int32).toNatClampNeg (0 : Int32).toNatClampNeg (6 : Int32).toNatClampNeg, va_cpy (X (q + 2)) (X (p + 2)) (0 : Int32).toNatClampNeg (0 : Int32).toNatClampNeg (6 : Int32).toNatClampNeg, va_cpy (X (q + 3)) (X (p + 3)) (0 : Int32).toNatClampNeg (0 : Int32).toNatClampNeg (36 : Int32).toNatClampNeg]
theorem cpS_ov (X : XT) (p q : Nat) : ov X [p, p + 1, p + 2, p + 3, q, q + 1, q + 2, q + 3] [upd (upd (upd (X p) 0 (X q 0)) 1 (X q 1)) 2 (X q 2), va_cpy (X (q + 1)) (X (p + 1)) (0 : Int32).toNatClampNeg (0 : Int32).toNatClampNeg (6 : Int32).toNatClampNeg, va_cpy (X (q + 2)) (X (p + 2)) (0 : Int32).toNatClampNeg (0 : Int32).toNatClampNeg (6 : Int32).toNatClampNeg, va_cpy (X (q + 3)) (X (p + 3)) (0 : Int32).toNatClampNeg (0 : Int32).toNatClampNeg (36 : Int32).toNatClampNeg, X q, X (q + 1), X (q + 2), X (q + 3)] = cpS X p q := by
  have e := ov_app (X := X) (ks2 := [q, q + 1, q + 2, q + 3]) (ys := [X q, X (q + 1), X (q + 2), X (q + 3)]) (ks := [p, p + 1, p + 2, p + 3]) (xs := [upd (upd (upd (X p) 0 (X q 0)) 1 (X q 1)) 2 (X q 2), va_cpy (X (q + 1)) (X (p + 1)) (0 : Int32).toNatClampNeg (0 : Int32).toNatClampNeg (6 : Int32).toNatClampNeg, va_cpy (X (q + 2)) (X (p + 2)) (0 : Int32).toNatClampNeg (0 : Int32).toNatClampNeg (6 : Int32).toNatClampNeg, va_cpy (X (q + 3)) (X (p + 3)) (0 : Int32).toNatClampNeg (0 : Int32).toNatClampNeg (36 : Int32).toNatClampNeg]) rfl
  rw [show ov X [q, q + 1, q + 2, q + 3] [X q, X (q + 1), X (q + 2), X (q + 3)] = X from ov_id X [q, q + 1, q + 2, q + 3]] at e
  exact e
theorem c_cpS (l : Launch) {b0 : Nat} {D : GD} {n : Nat} {κ : QT} {X : XT} {Y : YT} {Z : ZT} (hL : LY n κ) {p q : Nat} (hp : κ p = (7, 0)) (hpn : p < n) (hq : κ q = (7, 0)) (hqn : q < n) (hd : p + 3 < q ∨ q + 3 < p) : gMv l yX7_copy cX7_copy 2 none 1 40 0 0 b0 D [.ref (b0 + p), .ref (b0 + q)] (n, κ, X, Y, Z) (n, κ, cpS X p q, Y, Z) := by
  have e := c_X7_copy l (b0 := b0) (D := D) (X0 := X) (Y0 := Y) (Z := Z) hL hp hpn hq hqn (by simp; omega) (by simp) rfl rfl (show fX7_copy (X q) (X (q + 1)) (X (q + 2)) (X (q + 3)) (X p) (X (p + 1)) (X (p + 2)) (X (p + 3)) = _ from rfl)
  rw [cpS_ov] at e
  exact e
theorem blk_nil {κ : QT} {o : Nat} : κ = blk κ o [] := by funext i; simp [blk]
theorem blz_nil {X : XT} {o : Nat} : X = blz X o 0 := by
  funext i
  by_cases h : i < o <;> simp [blz, h]
def nStd : List (Nat × Nat) := [(7, 0), (14, 6), (14, 6), (14, 36)]
set_option maxHeartbeats 4000000 in
set_option maxRecDepth 100000 in
theorem c_pastS (l : Launch) {b0 : Nat} {D : GD} {n : Nat} {κ : QT} {X : XT} {Y : YT} {Z : ZT} (hL : LY n κ) {o : Nat} (hk : κ o = (6, 0)) (ho : o < n) {v : Int32} (hv : inb v 20 = true) {a : Nat} (hz : Z (o + 11) v.toNatClampNeg = some a) : gMq l yX6_pastAt cX6_pastAt 2 (some (FieldType.object "ToffeeTown$Standing")) 2 34 4 54 b0 D [.ref (b0 + o), .int v] (n, κ, X, Y, Z) (n, κ, X, Y, Z) (some a) := by
  refine g_metq (own := RX6) (C := RX7) (by decide) rfl rfl (Nat.le_of_ble_eq_true rfl) ?_
  intro K hC hret
  refine g_aload_n hC 0 dX6_pastAt_0 rfl rfl ?_
  refine gt_X6_25 hC (a := o) hk ho dX6_pastAt_1 ?_
  refine g_ref (b := (o + 11)) rfl ?_
  refine g_iload_n hC 1 dX6_pastAt_4 rfl rfl ?_
  refine g_aald19 hC (L := 20) (a := o + 11) (LC11 hL hk ho) (LCn11 hL hk ho) (inb_in hv) (r := some a) hz dX6_pastAt_5 ?_
  show gV l b0 D K (n, κ, X, Y, Z, 0, 0) 6 [(0, .ref (b0 + o)), (1, .int v)] [.ref (b0 + a)]
  refine g_ifnonnull hC 22 dX6_pastAt_6 (by decide) ?_
  refine g_aload_n hC 0 dX6_pastAt_22 rfl rfl ?_
  refine gt_X6_25 hC (a := o) hk ho dX6_pastAt_23 ?_
  refine g_ref (b := (o + 11)) rfl ?_
  refine g_iload_n hC 1 dX6_pastAt_26 rfl rfl ?_
  refine g_aald19 hC (L := 20) (a := o + 11) (LC11 hL hk ho) (LCn11 hL hk ho) (inb_in hv) (r := some a) hz dX6_pastAt_27 ?_
  show gV l b0 D K (n, κ, X, Y, Z, 0, 0) 28 [(0, .ref (b0 + o)), (1, .int v)] [.ref (b0 + a)]
  refine g_widen (cs' := 4) (ss' := 54) (by decide) (by decide) ?_
  exact hret _ _ dX6_pastAt_28
set_option maxHeartbeats 4000000 in
set_option maxRecDepth 100000 in
theorem c_pastN (l : Launch) {b0 : Nat} {D : GD} {n : Nat} {κ : QT} {X : XT} {Y : YT} {Z : ZT} (hL : LY n κ) {o : Nat} (hk : κ o = (6, 0)) (ho : o < n) {v : Int32} (hv : inb v 20 = true) (hz : Z (o + 11) v.toNatClampNeg = none) : gMq l yX6_pastAt cX6_pastAt 2 (some (FieldType.object "ToffeeTown$Standing")) 2 34 4 54 b0 D [.ref (b0 + o), .int v] (n, κ, X, Y, Z) (n + 4, blk κ n nStd, blz X n 4, Y, va_up Z (o + 11) (va_up (Z (o + 11)) v.toNatClampNeg (some n))) (some n) := by
  refine g_metq (own := RX6) (C := RX7) (by decide) rfl rfl (Nat.le_of_ble_eq_true rfl) ?_
  intro K hC hret
  refine g_aload_n hC 0 dX6_pastAt_0 rfl rfl ?_
  refine gt_X6_25 hC (a := o) hk ho dX6_pastAt_1 ?_
  refine g_ref (b := (o + 11)) rfl ?_
  refine g_iload_n hC 1 dX6_pastAt_4 rfl rfl ?_
  refine g_aald19 hC (L := 20) (a := o + 11) (LC11 hL hk ho) (LCn11 hL hk ho) (inb_in hv) (r := none) hz dX6_pastAt_5 ?_
  show gV l b0 D K (n, κ, X, Y, Z, 0, 0) 6 [(0, .ref (b0 + o)), (1, .int v)] [.null]
  refine g_ifnonnullN hC dX6_pastAt_6 ?_
  refine g_aload_n hC 0 dX6_pastAt_9 rfl rfl ?_
  refine gt_X6_25 hC (a := o) hk ho dX6_pastAt_10 ?_
  refine g_ref (b := (o + 11)) rfl ?_
  refine g_iload_n hC 1 dX6_pastAt_13 rfl rfl ?_
  refine g_eqs (blk_nil (o := n)) (blz_nil (o := n)) ?_
  refine h_newo7 hC (L := []) (o := n) rfl tw_311 (by decide) dX6_pastAt_14 ?_
  show gV l b0 D K (n + 1, blk κ n [(7 + 20, 0)], blz X n 1, Y, va_up Z n (fun _ => none), 1, 6) 17 [(0, .ref (b0 + o)), (1, .int v)] [.ref (b0 + n), .int v, .ref (b0 + (o + 11))]
  refine g_dup hC dX6_pastAt_17 rfl ?_
  refine g_callIN_v hC (a := n) (As := []) (gMv_eqs (c_X7_init l (o := n) (Z2 := Z) rfl (blk_at 0 rfl rfl) (blz_at 0 rfl (by simp)) up_eq (fun i hi => (up_ne hi).symm)) (n2 := n + 4) rfl (blk_blk (L := []) (by decide)) (blz_blz (m := 0))) tw_196 (List.mem_of_getElem? (i := 5) rfl) tw_120 tw_195 rfl pd_X7_init (by decide) (by decide) rfl rfl (Nat.le_of_ble_eq_true rfl) rfl dX6_pastAt_18 ?_
  show gV l b0 D K (n + 4, blk κ n nStd, blz X n 4, Y, Z, 4, 54) 21 [(0, .ref (b0 + o)), (1, .int v)] [.ref (b0 + n), .int v, .ref (b0 + (o + 11))]
  refine g_aast19 hC (L := 20) (a := o + 11) (v := n) (i := v) ((blk_lt (LCn11 hL hk ho)).trans (LC11 hL hk ho)) (by have := LCn11 hL hk ho; omega) (blk_at 0 rfl rfl) (by omega) (inb_in hv) (Z' := va_up Z (o + 11) (va_up (Z (o + 11)) v.toNatClampNeg (some n))) rfl dX6_pastAt_21 ?_
  show gV l b0 D K (n + 4, blk κ n nStd, blz X n 4, Y, va_up Z (o + 11) (va_up (Z (o + 11)) v.toNatClampNeg (some n)), 4, 54) 22 [(0, .ref (b0 + o)), (1, .int v)] []
  refine g_aload_n hC 0 dX6_pastAt_22 rfl rfl ?_
  refine gt_X6_25 hC (a := o) ((blk_lt ho).trans hk) (by omega) dX6_pastAt_23 ?_
  refine g_ref (b := (o + 11)) rfl ?_
  refine g_iload_n hC 1 dX6_pastAt_26 rfl rfl ?_
  refine g_aald19 hC (L := 20) (a := o + 11) ((blk_lt (LCn11 hL hk ho)).trans (LC11 hL hk ho)) (by have := LCn11 hL hk ho; omega) (inb_in hv) (r := some n) (by rw [up_eq, up_eq]) dX6_pastAt_27 ?_
  show gV l b0 D K (n + 4, blk κ n nStd, blz X n 4, Y, va_up Z (o + 11) (va_up (Z (o + 11)) v.toNatClampNeg (some n)), 4, 54) 28 [(0, .ref (b0 + o)), (1, .int v)] [.ref (b0 + n)]
  exact hret _ _ dX6_pastAt_28
theorem LY_blk {n : Nat} {κ : QT} (hL : LY n κ) (L : List (Nat × Nat))
    (h7 : ∀ j, j < L.length → L[j]? = some (7, 0) → L[j + 1]? = some (14, 6) ∧ L[j + 2]? = some (14, 6) ∧ L[j + 3]? = some (14, 36))
    (h9 : ∀ j, j < L.length → L[j]? = some (9, 0) → L[j + 1]? = some (14, 12) ∧ L[j + 2]? = some (7, 0) ∧ L[j + 5]? = some (14, 36))
    (h6 : ∀ j, j < L.length → L[j]? = some (6, 0) → L[j + 1]? = some (9, 0) ∧ L[j + 7]? = some (7, 0) ∧ L[j + 11]? = some (19, 20) ∧ L[j + 12]? = some (14, 10) ∧ L[j + 13]? = some (14, 10) ∧ L[j + 14]? = some (14, 10))
    (h4 : ∀ j, j < L.length → L[j]? = some (4, 0) → (∃ M, L[j + 1]? = some (14, M)) ∧ L[j + 2]? = some (15, 40)) : LY (n + L.length) (blk κ n L) := by
  have at' : ∀ j k, L[j]? = some k → blk κ n L (n + j) = k := fun j k h => blk_at j rfl h
  have lt' : ∀ j k, L[j]? = some k → j < L.length := fun j k h => by
    have := List.getElem?_eq_some_iff.mp h
    exact this.1
  have split : ∀ o, o < n + L.length → ∀ k, blk κ n L o = k → (o < n ∧ κ o = k) ∨ ∃ j, o = n + j ∧ j < L.length ∧ L[j]? = some k := by
    intro o ho k hk
    by_cases h : o < n
    · exact Or.inl ⟨h, (blk_lt h).symm.trans hk⟩
    · refine Or.inr ⟨o - n, by omega, by omega, ?_⟩
      have hj : o - n < L.length := by omega
      have e : L[o - n]? = some L[o - n] := List.getElem?_eq_getElem hj
      rw [e]
      rw [← hk, blk_at (o - n) (by omega) e]
  obtain ⟨q1, q2, q3, q4, q5, q6⟩ := hL
  refine ⟨by omega, fun i hi => (blk_lt (by omega)).trans (q2 i hi), fun o ho hk => ?_, fun o ho hk => ?_, fun o ho hk => ?_, fun o ho hk => ?_⟩
  · rcases split o ho _ hk with ⟨h, e⟩ | ⟨j, rfl, hj, e⟩
    · obtain ⟨a, b, c, d⟩ := q3 o h e
      exact ⟨by omega, (blk_lt (by omega)).trans b, (blk_lt (by omega)).trans c, (blk_lt a).trans d⟩
    · obtain ⟨b, c, d⟩ := h7 j hj e
      have := lt' _ _ d
      exact ⟨by omega, at' (j + 1) _ b, at' (j + 2) _ c, at' (j + 3) _ d⟩
  · rcases split o ho _ hk with ⟨h, e⟩ | ⟨j, rfl, hj, e⟩
    · obtain ⟨a, b, c⟩ := q4 o h e
      exact ⟨by omega, (blk_lt (by omega)).trans b, (blk_lt (by omega)).trans c⟩
    · obtain ⟨b, c, d⟩ := h9 j hj e
      have := lt' _ _ d
      exact ⟨by omega, at' (j + 1) _ b, at' (j + 2) _ c⟩
  · rcases split o ho _ hk with ⟨h, e⟩ | ⟨j, rfl, hj, e⟩
    · obtain ⟨a, b, c, d, f, g, i⟩ := q5 o h e
      exact ⟨by omega, (blk_lt (by omega)).trans b, (blk_lt (by omega)).trans c, (blk_lt (by omega)).trans d, (blk_lt (by omega)).trans f, (blk_lt (by omega)).trans g, (blk_lt a).trans i⟩
    · obtain ⟨b, c, d, f, g, i⟩ := h6 j hj e
      have := lt' _ _ i
      exact ⟨by omega, at' (j + 1) _ b, at' (j + 7) _ c, at' (j + 11) _ d, at' (j + 12) _ f, at' (j + 13) _ g, at' (j + 14) _ i⟩
  · rcases split o ho _ hk with ⟨h, e⟩ | ⟨j, rfl, hj, e⟩
    · obtain ⟨a, ⟨M, b⟩, c⟩ := q6 o h e
      exact ⟨by omega, ⟨M, (blk_lt (by omega)).trans b⟩, (blk_lt a).trans c⟩
    · obtain ⟨⟨M, b⟩, c⟩ := h4 j hj e
      have := lt' _ _ c
      exact ⟨by omega, ⟨M, at' (j + 1) _ b⟩, at' (j + 2) _ c⟩
theorem LY_std {n : Nat} {κ : QT} (hL : LY n κ) : LY (n + 4) (blk κ n nStd) := LY_blk hL nStd (by decide) (by decide) (fun j hj e => absurd e (by revert j; decide)) (fun j hj e => absurd e (by revert j; decide))
def nScn : List (Nat × Nat) := [(6, 0), (9, 0), (14, 12), (7, 0), (14, 6), (14, 6), (14, 36), (7, 0), (14, 6), (14, 6), (14, 36), (19, 20), (14, 10), (14, 10), (14, 10)]
set_option maxRecDepth 10000 in
theorem LY_scn {n : Nat} {κ : QT} (hL : LY n κ) : LY (n + 15) (blk κ n nScn) := LY_blk hL nScn (by decide) (by decide) (fun j hj e => by obtain rfl : j = 0 := (by revert j; decide); exact ⟨rfl, rfl, rfl, rfl, rfl, rfl⟩) (fun j hj e => absurd e (by revert j; decide))
def rotZ (z : Nat → Option Nat) (k : Nat) : Nat → Option Nat := fun j => if j + 1 < k then z (j + 1) else z j
theorem rotZ_1 (z : Nat → Option Nat) : rotZ z 1 = z := by funext j; simp [rotZ]
theorem rotZ_s (z : Nat → Option Nat) (k : Nat) (hk : 1 ≤ k) : va_up (rotZ z k) (k - 1) (z k) = rotZ z (k + 1) := by
  funext j
  by_cases h : j = k - 1
  · subst h
    rw [up_eq]
    have : k - 1 + 1 < k + 1 := by omega
    have e : k - 1 + 1 = k := by omega
    simp only [rotZ, if_pos this]
    rw [e]
  · rw [up_ne h]
    by_cases h2 : j + 1 < k
    · have : j + 1 < k + 1 := by omega
      simp only [rotZ, if_pos this, if_pos h2]
    · have : ¬ j + 1 < k + 1 := by omega
      simp only [rotZ, if_neg this, if_neg h2]
theorem tb20 : ∀ k, k < 20 → 1 ≤ k → (¬ (20 : Int32) ≤ nI k) ∧ inb (nI k - 1) 20 = true ∧ (nI k - 1).toNatClampNeg = k - 1 ∧ inb (nI k) 20 = true ∧ (nI k).toNatClampNeg = k ∧ nI k + 1 = nI (k + 1) := by decide
theorem up_id {α : Type} {f : Nat → α} {a : Nat} {v : α} (h : f a = v) : f = va_up f a v := by
  funext i
  by_cases hi : i = a
  · subst hi; rw [up_eq]; exact h
  · rw [up_ne hi]
section FG
variable {l : Launch} {b0 : Nat} {D : GD} {K : KT} {n : Nat} {κ : QT} {X : XT} {Y : YT} {Z : ZT} {fr lo mc ms : Nat}
set_option maxHeartbeats 4000000 in
set_option maxRecDepth 100000 in
theorem fg_loop (hL : LY n κ) (hC : gC l b0 D K RX6 cX6_forgetFirst none 3 fr lo mc ms) {a0 : Nat} (hall : ∀ j, j < 20 → ∃ a, Z 27 j = some a ∧ κ a = (7, 0) ∧ a < n) (hend : gV l b0 D K (n, κ, X, Y, va_up Z 27 (rotZ (Z 27) 20), 0, 0) 35 [(2, .int (nI 20)), (1, .ref (b0 + a0)), (0, .ref (b0 + 16))] []) : ∀ m k, k + m = 20 → 1 ≤ k → gV l b0 D K (n, κ, X, Y, va_up Z 27 (rotZ (Z 27) k), 0, 0) 9 [(2, .int (nI k)), (1, .ref (b0 + a0)), (0, .ref (b0 + 16))] []
  | 0, k, hm, h1 => by
    obtain rfl : k = 20 := by omega
    refine g_iload_n hC 0 dX6_forgetFirst_9 rfl rfl ?_
    refine g_bipush hC (v := 20) dX6_forgetFirst_10 bp_20 ?_
    refine g_icmp_ge hC 35 dX6_forgetFirst_12 (by decide) (fun _ => ?_) (fun hq_ => absurd (by decide) hq_)
    exact hend
  | m + 1, k, hm, h1 => by
    obtain ⟨t1, t2, t3, t4, t5, t6⟩ := tb20 k (by omega) h1
    obtain ⟨a, za, ka, na⟩ := hall k (by omega)
    refine g_iload_n hC 0 dX6_forgetFirst_9 rfl rfl ?_
    refine g_bipush hC (v := 20) dX6_forgetFirst_10 bp_20 ?_
    refine g_icmp_ge hC 35 dX6_forgetFirst_12 (by decide) (fun hq_ => absurd hq_ t1) (fun _ => ?_)
    refine g_aload_n hC 2 dX6_forgetFirst_15 rfl rfl ?_
    refine gt_X6_25 hC (a := 16) (kk_16 hL) (kn_16 hL) dX6_forgetFirst_16 ?_
    refine g_ref (b := 27) rfl ?_
    refine g_iload_n hC 0 dX6_forgetFirst_19 rfl rfl ?_
    refine g_iconst hC (v := 1) dX6_forgetFirst_20 ic_1 ?_
    refine g_isub hC dX6_forgetFirst_21 ?_
    refine g_aload_n hC 2 dX6_forgetFirst_22 rfl rfl ?_
    refine gt_X6_25 hC (a := 16) (kk_16 hL) (kn_16 hL) dX6_forgetFirst_23 ?_
    refine g_ref (b := 27) rfl ?_
    refine g_iload_n hC 0 dX6_forgetFirst_26 rfl rfl ?_
    refine g_aald19 hC (L := 20) (a := 27) (kk_27 hL) (kn_27 hL) (inb_in t4) (r := some a) (by rw [t5, up_eq]; exact (if_neg (by omega)).trans za) dX6_forgetFirst_27 ?_
    show gV l b0 D K (n, κ, X, Y, va_up Z 27 (rotZ (Z 27) k), 0, 0) 28 [(2, .int (nI k)), (1, .ref (b0 + a0)), (0, .ref (b0 + 16))] [.ref (b0 + a), .int ((nI k) - 1), .ref (b0 + 27)]
    refine g_aast19 hC (L := 20) (a := 27) (v := a) (i := (nI k) - 1) (kk_27 hL) (kn_27 hL) ka na (inb_in t2) (Z' := va_up Z 27 (rotZ (Z 27) (k + 1))) (by rw [t3, up_eq, up_up, ← za, rotZ_s _ _ h1]) dX6_forgetFirst_28 ?_
    show gV l b0 D K (n, κ, X, Y, va_up Z 27 (rotZ (Z 27) (k + 1)), 0, 0) 29 [(2, .int (nI k)), (1, .ref (b0 + a0)), (0, .ref (b0 + 16))] []
    refine g_iinc hC (i := 2) (v := nI (k + 1)) [(2, .int (nI (k + 1))), (1, .ref (b0 + a0)), (0, .ref (b0 + 16))] dX6_forgetFirst_29 (q := 0) rfl t6 (by decide) rfl ?_
    refine g_goto hC 9 dX6_forgetFirst_32 (by decide) ?_
    exact fg_loop hL hC hall hend m (k + 1) (by omega) (by omega)
end FG
set_option maxHeartbeats 4000000 in
set_option maxRecDepth 100000 in
theorem c_forget (l : Launch) {b0 : Nat} {D : GD} {n : Nat} {κ : QT} {X : XT} {Y : YT} {Z : ZT} (hL : LY n κ) (hall : ∀ j, j < 20 → ∃ a, Z 27 j = some a ∧ κ a = (7, 0) ∧ a < n) {a0 : Nat} (h0 : Z 27 0 = some a0) : gMv l yX6_forgetFirst cX6_forgetFirst 3 none 0 0 0 0 b0 D [.ref (b0 + 16)] (n, κ, X, Y, Z) (n, κ, va_up X 16 (upd (X 16) 3 (X 16 3 - 1)), Y, va_up Z 27 (va_up (rotZ (Z 27) 20) 19 (some a0))) := by
  refine g_metv (own := RX6) (by decide) rfl rfl (Nat.le_of_ble_eq_true rfl) ?_
  intro K hC hret
  obtain ⟨a, za, ka, na⟩ := hall 0 (by decide)
  obtain rfl : a = a0 := Option.some.inj (za.symm.trans h0)
  refine g_aload_n hC 0 dX6_forgetFirst_0 rfl rfl ?_
  refine gt_X6_25 hC (a := 16) (kk_16 hL) (kn_16 hL) dX6_forgetFirst_1 ?_
  refine g_ref (b := 27) rfl ?_
  refine g_iconst hC (v := 0) dX6_forgetFirst_4 ic_0 ?_
  refine g_aald19 hC (L := 20) (a := 27) (kk_27 hL) (kn_27 hL) (inb_in (by decide)) (r := some a) h0 dX6_forgetFirst_5 ?_
  show gV l b0 D K (n, κ, X, Y, Z, 0, 0) 6 [(0, .ref (b0 + 16))] [.ref (b0 + a)]
  refine g_astore_n hC (i := 1) [(1, .ref (b0 + a)), (0, .ref (b0 + 16))] rfl dX6_forgetFirst_6 (by decide) rfl ?_
  refine g_iconst hC (v := 1) dX6_forgetFirst_7 ic_1 ?_
  refine g_istore_n hC (i := 2) [(2, .int 1), (1, .ref (b0 + a)), (0, .ref (b0 + 16))] rfl dX6_forgetFirst_8 (by decide) rfl ?_
  refine g_eqZ (up_id (a := 27) (rotZ_1 (Z 27)).symm) ?_
  refine fg_loop hL hC hall ?_ 19 1 rfl (by decide)
  refine g_aload_n hC 2 dX6_forgetFirst_35 rfl rfl ?_
  refine gt_X6_25 hC (a := 16) (kk_16 hL) (kn_16 hL) dX6_forgetFirst_36 ?_
  refine g_ref (b := 27) rfl ?_
  refine g_bipush hC (v := 19) dX6_forgetFirst_39 bp_19 ?_
  refine g_aload_n hC 1 dX6_forgetFirst_41 rfl rfl ?_
  refine g_aast19 hC (L := 20) (a := 27) (v := a) (i := 19) (kk_27 hL) (kn_27 hL) ka na (inb_in (by decide)) (Z' := va_up Z 27 (va_up (rotZ (Z 27) 20) 19 (some a))) (by rw [up_eq, up_up]; rfl) dX6_forgetFirst_42 ?_
  show gV l b0 D K (n, κ, X, Y, va_up Z 27 (va_up (rotZ (Z 27) 20) 19 (some a)), 0, 0) 43 [(2, .int (nI 20)), (1, .ref (b0 + a)), (0, .ref (b0 + 16))] []
  refine g_aload_n hC 2 dX6_forgetFirst_43 rfl rfl ?_
  refine g_dup hC dX6_forgetFirst_44 rfl ?_
  refine gt_X6_53 hC (x := X 16) (kk_16 hL) (kn_16 hL) rfl dX6_forgetFirst_45 ?_
  refine g_iconst hC (v := 1) dX6_forgetFirst_48 ic_1 ?_
  refine g_isub hC dX6_forgetFirst_49 ?_
  refine pt_X6_53 hC (v := ((X 16) 3) - 1) (x := X 16) (kk_16 hL) (kn_16 hL) rfl rfl dX6_forgetFirst_50 ?_
  exact hret _ _ dX6_forgetFirst_53
def remX (X : XT) (a : Nat) : XT := va_up (cpS X a 23) 16 (upd (cpS X a 23 16) 3 (cpS X a 23 16 3 + 1))
set_option maxHeartbeats 4000000 in
set_option maxRecDepth 100000 in
theorem c_remS (l : Launch) {b0 : Nat} {D : GD} {n : Nat} {κ : QT} {X : XT} {Y : YT} {Z : ZT} (hL : LY n κ) (hc : ¬ X 16 3 = 20) (hv : inb (X 16 3) 20 = true) {a : Nat} (hz : Z 27 (X 16 3).toNatClampNeg = some a) (ka : κ a = (7, 0)) (na : a < n) (ha : 27 ≤ a) : gMv l yX6_remember cX6_remember 1 none 3 61 4 54 b0 D [.ref (b0 + 16)] (n, κ, X, Y, Z) (n, κ, remX X a, Y, Z) := by
  refine g_metv (own := RX6) (by decide) rfl rfl (Nat.le_of_ble_eq_true rfl) ?_
  intro K hC hret
  refine g_aload_n hC 0 dX6_remember_0 rfl rfl ?_
  refine gt_X6_53 hC (x := X 16) (kk_16 hL) (kn_16 hL) rfl dX6_remember_1 ?_
  refine g_bipush hC (v := 20) dX6_remember_4 bp_20 ?_
  refine g_icmp_ne hC 13 dX6_remember_6 (by decide) (fun _ => ?_) (fun hq_ => absurd hq_ hc)
  refine g_aload_n hC 0 dX6_remember_13 rfl rfl ?_
  refine g_aload_n hC 0 dX6_remember_14 rfl rfl ?_
  refine gt_X6_53 hC (x := X 16) (kk_16 hL) (kn_16 hL) rfl dX6_remember_15 ?_
  refine g_callV_q (a := 16) hC (n' := n) (κ' := κ) (X' := X) (Y' := Y) (Z' := Z) (As := [.int ((X 16) 3)]) (c_pastS l hL (kk_16 hL) (kn_16 hL) hv hz) tw_865 tw_862 tw_122 tw_864 tw_27 (ci := 6) rfl (by decide) (kk_16 hL) (kn_16 hL) pd_X6_pastAt (by decide) (by decide) rfl rfl (Nat.le_of_ble_eq_true rfl) rfl dX6_remember_18 ?_
  show gV l b0 D K (n, κ, X, Y, Z, 4, 54) 21 [(0, .ref (b0 + 16))] [.ref (b0 + a)]
  refine g_aload_n hC 0 dX6_remember_21 rfl rfl ?_
  refine gt_X6_21 hC (a := 16) (kk_16 hL) (kn_16 hL) dX6_remember_22 ?_
  refine g_ref (b := 23) rfl ?_
  refine g_callV_v (a := a) hC (n' := n) (κ' := κ) (X' := cpS X a 23) (Y' := Y) (Z' := Z) (As := [.ref (b0 + 23)]) (c_cpS l hL ka na (kk_23 hL) (kn_23 hL) (Or.inr (by omega))) tw_707 tw_709 tw_120 tw_705 tw_706 (ci := 7) rfl (by decide) ka na pd_X7_copy (by decide) (by decide) rfl rfl (Nat.le_of_ble_eq_true rfl) rfl dX6_remember_25 ?_
  show gV l b0 D K (n, κ, cpS X a 23, Y, Z, 4, 54) 28 [(0, .ref (b0 + 16))] []
  refine g_aload_n hC 0 dX6_remember_28 rfl rfl ?_
  refine g_dup hC dX6_remember_29 rfl ?_
  refine gt_X6_53 hC (x := (cpS X a 23) 16) (kk_16 hL) (kn_16 hL) rfl dX6_remember_30 ?_
  refine g_iconst hC (v := 1) dX6_remember_33 ic_1 ?_
  refine g_iadd hC dX6_remember_34 ?_
  refine pt_X6_53 hC (v := (((cpS X a 23) 16) 3) + 1) (x := (cpS X a 23) 16) (kk_16 hL) (kn_16 hL) rfl rfl dX6_remember_35 ?_
  exact hret _ _ dX6_remember_38
set_option maxHeartbeats 4000000 in
set_option maxRecDepth 100000 in
theorem c_remN (l : Launch) {b0 : Nat} {D : GD} {n : Nat} {κ : QT} {X : XT} {Y : YT} {Z : ZT} (hL : LY n κ) (hc : ¬ X 16 3 = 20) (hv : inb (X 16 3) 20 = true) (hz : Z 27 (X 16 3).toNatClampNeg = none) : gMv l yX6_remember cX6_remember 1 none 3 61 4 54 b0 D [.ref (b0 + 16)] (n, κ, X, Y, Z) (n + 4, blk κ n nStd, remX (blz X n 4) n, Y, va_up Z 27 (va_up (Z 27) (X 16 3).toNatClampNeg (some n))) := by
  refine g_metv (own := RX6) (by decide) rfl rfl (Nat.le_of_ble_eq_true rfl) ?_
  intro K hC hret
  have h114 : 114 ≤ n := hL.1
  have hL2 := LY_std hL
  refine g_aload_n hC 0 dX6_remember_0 rfl rfl ?_
  refine gt_X6_53 hC (x := X 16) (kk_16 hL) (kn_16 hL) rfl dX6_remember_1 ?_
  refine g_bipush hC (v := 20) dX6_remember_4 bp_20 ?_
  refine g_icmp_ne hC 13 dX6_remember_6 (by decide) (fun _ => ?_) (fun hq_ => absurd hq_ hc)
  refine g_aload_n hC 0 dX6_remember_13 rfl rfl ?_
  refine g_aload_n hC 0 dX6_remember_14 rfl rfl ?_
  refine gt_X6_53 hC (x := X 16) (kk_16 hL) (kn_16 hL) rfl dX6_remember_15 ?_
  refine g_callV_q (a := 16) hC (n' := n + 4) (κ' := blk κ n nStd) (X' := blz X n 4) (Y' := Y) (Z' := va_up Z 27 (va_up (Z 27) (X 16 3).toNatClampNeg (some n))) (As := [.int ((X 16) 3)]) (c_pastN l hL (kk_16 hL) (kn_16 hL) hv hz) tw_865 tw_862 tw_122 tw_864 tw_27 (ci := 6) rfl (by decide) (kk_16 hL) (kn_16 hL) pd_X6_pastAt (by decide) (by decide) rfl rfl (Nat.le_of_ble_eq_true rfl) rfl dX6_remember_18 ?_
  show gV l b0 D K (n + 4, blk κ n nStd, blz X n 4, Y, va_up Z 27 (va_up (Z 27) (X 16 3).toNatClampNeg (some n)), 4, 54) 21 [(0, .ref (b0 + 16))] [.ref (b0 + n)]
  refine g_aload_n hC 0 dX6_remember_21 rfl rfl ?_
  refine gt_X6_21 hC (a := 16) (kk_16 hL2) (kn_16 hL2) dX6_remember_22 ?_
  refine g_ref (b := 23) rfl ?_
  refine g_callV_v (a := n) hC (n' := n + 4) (κ' := blk κ n nStd) (X' := cpS (blz X n 4) n 23) (Y' := Y) (Z' := va_up Z 27 (va_up (Z 27) (X 16 3).toNatClampNeg (some n))) (As := [.ref (b0 + 23)]) (c_cpS l hL2 (blk_at 0 rfl rfl) (by omega) (kk_23 hL2) (kn_23 hL2) (Or.inr (by omega))) tw_707 tw_709 tw_120 tw_705 tw_706 (ci := 7) rfl (by decide) (blk_at 0 rfl rfl) (by omega) pd_X7_copy (by decide) (by decide) rfl rfl (Nat.le_of_ble_eq_true rfl) rfl dX6_remember_25 ?_
  show gV l b0 D K (n + 4, blk κ n nStd, cpS (blz X n 4) n 23, Y, va_up Z 27 (va_up (Z 27) (X 16 3).toNatClampNeg (some n)), 4, 54) 28 [(0, .ref (b0 + 16))] []
  refine g_aload_n hC 0 dX6_remember_28 rfl rfl ?_
  refine g_dup hC dX6_remember_29 rfl ?_
  refine gt_X6_53 hC (x := (cpS (blz X n 4) n 23) 16) (kk_16 hL2) (kn_16 hL2) rfl dX6_remember_30 ?_
  refine g_iconst hC (v := 1) dX6_remember_33 ic_1 ?_
  refine g_iadd hC dX6_remember_34 ?_
  refine pt_X6_53 hC (v := (((cpS (blz X n 4) n 23) 16) 3) + 1) (x := (cpS (blz X n 4) n 23) 16) (kk_16 hL2) (kn_16 hL2) rfl rfl dX6_remember_35 ?_
  exact hret _ _ dX6_remember_38
set_option maxHeartbeats 4000000 in
set_option maxRecDepth 100000 in
theorem c_remF (l : Launch) {b0 : Nat} {D : GD} {n : Nat} {κ : QT} {X : XT} {Y : YT} {Z : ZT} (hL : LY n κ) (hc : X 16 3 = 20) (hall : ∀ j, j < 20 → ∃ a, Z 27 j = some a ∧ κ a = (7, 0) ∧ a < n) {a : Nat} (hz : Z 27 0 = some a) (ka : κ a = (7, 0)) (na : a < n) (ha : 27 ≤ a) : gMv l yX6_remember cX6_remember 1 none 3 61 4 54 b0 D [.ref (b0 + 16)] (n, κ, X, Y, Z) (n, κ, remX (va_up X 16 (upd (X 16) 3 (X 16 3 - 1))) a, Y, va_up Z 27 (va_up (rotZ (Z 27) 20) 19 (some a))) := by
  refine g_metv (own := RX6) (by decide) rfl rfl (Nat.le_of_ble_eq_true rfl) ?_
  intro K hC hret
  have e19 : (va_up X 16 (upd (X 16) 3 (X 16 3 - 1))) 16 3 = 19 := by rw [up_eq]; show X 16 3 - 1 = 19; rw [hc]; decide
  refine g_aload_n hC 0 dX6_remember_0 rfl rfl ?_
  refine gt_X6_53 hC (x := X 16) (kk_16 hL) (kn_16 hL) rfl dX6_remember_1 ?_
  refine g_bipush hC (v := 20) dX6_remember_4 bp_20 ?_
  refine g_icmp_ne hC 13 dX6_remember_6 (by decide) (fun hq_ => absurd hc hq_) (fun _ => ?_)
  refine g_aload_n hC 0 dX6_remember_9 rfl rfl ?_
  refine g_callV_v (a := 16) hC (n' := n) (κ' := κ) (X' := va_up X 16 (upd (X 16) 3 (X 16 3 - 1))) (Y' := Y) (Z' := va_up Z 27 (va_up (rotZ (Z 27) 20) 19 (some a))) (As := []) (c_forget l hL hall hz) tw_861 tw_858 tw_122 tw_860 tw_26 (ci := 6) rfl (by decide) (kk_16 hL) (kn_16 hL) pd_X6_forgetFirst (by decide) (by decide) rfl rfl (Nat.le_of_ble_eq_true rfl) rfl dX6_remember_10 ?_
  show gV l b0 D K (n, κ, va_up X 16 (upd (X 16) 3 (X 16 3 - 1)), Y, va_up Z 27 (va_up (rotZ (Z 27) 20) 19 (some a)), 0, 0) 13 [(0, .ref (b0 + 16))] []
  refine g_aload_n hC 0 dX6_remember_13 rfl rfl ?_
  refine g_aload_n hC 0 dX6_remember_14 rfl rfl ?_
  refine gt_X6_53 hC (x := (va_up X 16 (upd (X 16) 3 (X 16 3 - 1))) 16) (kk_16 hL) (kn_16 hL) rfl dX6_remember_15 ?_
  refine g_callV_q (a := 16) hC (n' := n) (κ' := κ) (X' := va_up X 16 (upd (X 16) 3 (X 16 3 - 1))) (Y' := Y) (Z' := va_up Z 27 (va_up (rotZ (Z 27) 20) 19 (some a))) (As := [.int (((va_up X 16 (upd (X 16) 3 (X 16 3 - 1))) 16) 3)]) (c_pastS l hL (kk_16 hL) (kn_16 hL) (by rw [e19]; decide) (a := a) (by rw [e19, up_eq]; exact up_eq)) tw_865 tw_862 tw_122 tw_864 tw_27 (ci := 6) rfl (by decide) (kk_16 hL) (kn_16 hL) pd_X6_pastAt (by decide) (by decide) rfl rfl (Nat.le_of_ble_eq_true rfl) rfl dX6_remember_18 ?_
  show gV l b0 D K (n, κ, va_up X 16 (upd (X 16) 3 (X 16 3 - 1)), Y, va_up Z 27 (va_up (rotZ (Z 27) 20) 19 (some a)), 4, 54) 21 [(0, .ref (b0 + 16))] [.ref (b0 + a)]
  refine g_aload_n hC 0 dX6_remember_21 rfl rfl ?_
  refine gt_X6_21 hC (a := 16) (kk_16 hL) (kn_16 hL) dX6_remember_22 ?_
  refine g_ref (b := 23) rfl ?_
  refine g_callV_v (a := a) hC (n' := n) (κ' := κ) (X' := cpS (va_up X 16 (upd (X 16) 3 (X 16 3 - 1))) a 23) (Y' := Y) (Z' := va_up Z 27 (va_up (rotZ (Z 27) 20) 19 (some a))) (As := [.ref (b0 + 23)]) (c_cpS l hL ka na (kk_23 hL) (kn_23 hL) (Or.inr (by omega))) tw_707 tw_709 tw_120 tw_705 tw_706 (ci := 7) rfl (by decide) ka na pd_X7_copy (by decide) (by decide) rfl rfl (Nat.le_of_ble_eq_true rfl) rfl dX6_remember_25 ?_
  show gV l b0 D K (n, κ, cpS (va_up X 16 (upd (X 16) 3 (X 16 3 - 1))) a 23, Y, va_up Z 27 (va_up (rotZ (Z 27) 20) 19 (some a)), 4, 54) 28 [(0, .ref (b0 + 16))] []
  refine g_aload_n hC 0 dX6_remember_28 rfl rfl ?_
  refine g_dup hC dX6_remember_29 rfl ?_
  refine gt_X6_53 hC (x := (cpS (va_up X 16 (upd (X 16) 3 (X 16 3 - 1))) a 23) 16) (kk_16 hL) (kn_16 hL) rfl dX6_remember_30 ?_
  refine g_iconst hC (v := 1) dX6_remember_33 ic_1 ?_
  refine g_iadd hC dX6_remember_34 ?_
  refine pt_X6_53 hC (v := (((cpS (va_up X 16 (upd (X 16) 3 (X 16 3 - 1))) a 23) 16) 3) + 1) (x := (cpS (va_up X 16 (upd (X 16) 3 (X 16 3 - 1))) a 23) 16) (kk_16 hL) (kn_16 hL) rfl rfl dX6_remember_35 ?_
  exact hret _ _ dX6_remember_38
set_option maxHeartbeats 4000000 in
set_option maxRecDepth 100000 in
theorem c_gb0 (l : Launch) {b0 : Nat} {D : GD} {n : Nat} {κ : QT} {X : XT} {Y : YT} {Z : ZT} (hL : LY n κ) (hc : X 16 3 = 0) : gMi l yX6_goBackAnAct cX6_goBackAnAct 1 (some FieldType.boolean) 3 61 4 54 b0 D [.ref (b0 + 16)] (n, κ, X, Y, Z) (n, κ, X, Y, Z) 0 := by
  refine g_meti (own := RX6) (by decide) rfl rfl (Nat.le_of_ble_eq_true rfl) ?_
  intro K hC hret
  refine g_aload_n hC 0 dX6_goBackAnAct_0 rfl rfl ?_
  refine gt_X6_53 hC (x := X 16) (kk_16 hL) (kn_16 hL) rfl dX6_goBackAnAct_1 ?_
  refine g_if_ne hC 9 dX6_goBackAnAct_4 (by decide) (fun hq_ => absurd hc hq_) (fun _ => ?_)
  refine g_iconst hC (v := 0) dX6_goBackAnAct_7 ic_0 ?_
  refine g_widen (cs' := 4) (ss' := 54) (by decide) (by decide) ?_
  exact hret _ _ rfl dX6_goBackAnAct_8
set_option maxHeartbeats 4000000 in
set_option maxRecDepth 100000 in
theorem c_gb1 (l : Launch) {b0 : Nat} {D : GD} {n : Nat} {κ : QT} {X : XT} {Y : YT} {Z : ZT} (hL : LY n κ) (hc : ¬ X 16 3 = 0) (hv : inb (X 16 3 - 1) 20 = true) {a : Nat} (hz : Z 27 (X 16 3 - 1).toNatClampNeg = some a) (ka : κ a = (7, 0)) (na : a < n) (ha : 27 ≤ a) : gMi l yX6_goBackAnAct cX6_goBackAnAct 1 (some FieldType.boolean) 3 61 4 54 b0 D [.ref (b0 + 16)] (n, κ, X, Y, Z) (n, κ, cpS (va_up X 16 (upd (X 16) 3 (X 16 3 - 1))) 23 a, Y, Z) 1 := by
  refine g_meti (own := RX6) (by decide) rfl rfl (Nat.le_of_ble_eq_true rfl) ?_
  intro K hC hret
  have e19 : (va_up X 16 (upd (X 16) 3 (X 16 3 - 1))) 16 3 = X 16 3 - 1 := by rw [up_eq]; rfl
  refine g_aload_n hC 0 dX6_goBackAnAct_0 rfl rfl ?_
  refine gt_X6_53 hC (x := X 16) (kk_16 hL) (kn_16 hL) rfl dX6_goBackAnAct_1 ?_
  refine g_if_ne hC 9 dX6_goBackAnAct_4 (by decide) (fun _ => ?_) (fun hq_ => absurd hq_ hc)
  refine g_aload_n hC 0 dX6_goBackAnAct_9 rfl rfl ?_
  refine g_dup hC dX6_goBackAnAct_10 rfl ?_
  refine gt_X6_53 hC (x := X 16) (kk_16 hL) (kn_16 hL) rfl dX6_goBackAnAct_11 ?_
  refine g_iconst hC (v := 1) dX6_goBackAnAct_14 ic_1 ?_
  refine g_isub hC dX6_goBackAnAct_15 ?_
  refine pt_X6_53 hC (v := ((X 16) 3) - 1) (x := X 16) (kk_16 hL) (kn_16 hL) rfl rfl dX6_goBackAnAct_16 ?_
  refine g_aload_n hC 0 dX6_goBackAnAct_19 rfl rfl ?_
  refine gt_X6_21 hC (a := 16) (kk_16 hL) (kn_16 hL) dX6_goBackAnAct_20 ?_
  refine g_ref (b := 23) rfl ?_
  refine g_aload_n hC 0 dX6_goBackAnAct_23 rfl rfl ?_
  refine g_aload_n hC 0 dX6_goBackAnAct_24 rfl rfl ?_
  refine gt_X6_53 hC (x := ((va_up X 16 (upd (X 16) 3 (((X 16) 3) - 1)))) 16) (kk_16 hL) (kn_16 hL) rfl dX6_goBackAnAct_25 ?_
  refine g_callV_q (a := 16) hC (n' := n) (κ' := κ) (X' := (va_up X 16 (upd (X 16) 3 (((X 16) 3) - 1)))) (Y' := Y) (Z' := Z) (As := [.int ((((va_up X 16 (upd (X 16) 3 (((X 16) 3) - 1)))) 16) 3)]) (c_pastS l hL (kk_16 hL) (kn_16 hL) (by rw [e19]; exact hv) (a := a) (by rw [e19]; exact hz)) tw_865 tw_862 tw_122 tw_864 tw_27 (ci := 6) rfl (by decide) (kk_16 hL) (kn_16 hL) pd_X6_pastAt (by decide) (by decide) rfl rfl (Nat.le_of_ble_eq_true rfl) rfl dX6_goBackAnAct_28 ?_
  show gV l b0 D K (n, κ, (va_up X 16 (upd (X 16) 3 (((X 16) 3) - 1))), Y, Z, 4, 54) 31 [(0, .ref (b0 + 16))] [.ref (b0 + a), .ref (b0 + 23)]
  refine g_callV_v (a := 23) hC (n' := n) (κ' := κ) (X' := cpS (va_up X 16 (upd (X 16) 3 (X 16 3 - 1))) 23 a) (Y' := Y) (Z' := Z) (As := [.ref (b0 + a)]) (c_cpS l hL (kk_23 hL) (kn_23 hL) ka na (Or.inl (by omega))) tw_707 tw_709 tw_120 tw_705 tw_706 (ci := 7) rfl (by decide) (kk_23 hL) (kn_23 hL) pd_X7_copy (by decide) (by decide) rfl rfl (Nat.le_of_ble_eq_true rfl) rfl dX6_goBackAnAct_31 ?_
  show gV l b0 D K (n, κ, cpS (va_up X 16 (upd (X 16) 3 (X 16 3 - 1))) 23 a, Y, Z, 4, 54) 34 [(0, .ref (b0 + 16))] []
  refine g_iconst hC (v := 1) dX6_goBackAnAct_34 ic_1 ?_
  exact hret _ _ rfl dX6_goBackAnAct_35

theorem bp_72 : (Int8.ofInt 72).toInt32 = 72 := by decide
theorem sp_401 : (Int16.ofInt 401).toInt32 = 401 := by decide
theorem sp_412 : (Int16.ofInt 412).toInt32 = 412 := by decide
theorem sp_1800 : (Int16.ofInt 1800).toInt32 = 1800 := by decide
theorem sp_402 : (Int16.ofInt 402).toInt32 = 402 := by decide
theorem sp_366 : (Int16.ofInt 366).toInt32 = 366 := by decide
theorem sp_6500 : (Int16.ofInt 6500).toInt32 = 6500 := by decide
theorem blk_self {κ : QT} {o : Nat} {k : Nat × Nat} (h : κ o = k) : κ = blk κ o [k] := by
  funext i
  by_cases h2 : i < o
  · rw [blk_lt h2]
  · by_cases h3 : i = o
    · subst h3
      exact h.trans (blk_at 0 rfl rfl).symm
    · have h4 : i - o ≠ 0 := by omega
      obtain ⟨j, hj⟩ : ∃ j, i - o = j + 1 := ⟨i - o - 1, by omega⟩
      simp [blk, h2, List.getD, hj]
theorem blz_self {X : XT} {o : Nat} (h : X o = fun _ => 0) : X = blz X o 1 := by
  funext i
  by_cases h2 : i < o
  · rw [blz_lt h2]
  · by_cases h3 : i = o
    · subst h3
      exact h.trans (blz_at 0 rfl (by omega)).symm
    · have h4 : ¬ i < o + 1 := by omega
      simp [blz, h2, h4]
theorem blk_ne0 {κ : QT} {o i : Nat} {k k' : Nat × Nat} {T : List (Nat × Nat)} (h : i ≠ o) : blk κ o (k :: T) i = blk κ o (k' :: T) i := by
  by_cases h2 : i < o
  · rw [blk_lt h2, blk_lt h2]
  · obtain ⟨j, hj⟩ : ∃ j, i - o = j + 1 := ⟨i - o - 1, by omega⟩
    simp [blk, h2, List.getD, hj]
def blx (X : XT) (o : Nat) (M : List (Nat → Int32)) : XT := fun i => if i < o then X i else M.getD (i - o) (X i)
theorem blx_lt {X : XT} {o i : Nat} {L : List (Nat → Int32)} (h : i < o) : blx X o L i = X i := by simp [blx, h]
theorem blx_at {X : XT} {o i : Nat} {L : List (Nat → Int32)} {k : Nat → Int32} (j : Nat) (hi : i = o + j) (h : L[j]? = some k) : blx X o L i = k := by
  subst hi
  have hn : ¬ o + j < o := by omega
  simp [blx, hn, List.getD, h]
theorem blx_push {X : XT} {o : Nat} {L : List (Nat → Int32)} {k : Nat → Int32} : va_up (blx X o L) (o + L.length) k = blx X o (L ++ [k]) := by
  funext i
  by_cases h : i = o + L.length
  · subst h
    rw [up_eq]
    exact (blx_at L.length rfl (by simp)).symm
  · rw [up_ne h]
    by_cases h2 : i < o
    · rw [blx_lt h2, blx_lt h2]
    · have h3 : ¬ i < o := h2
      simp only [blx, if_neg h3, List.getD]
      by_cases h4 : i - o < L.length
      · rw [List.getElem?_append_left h4]
      · have h5 : L.length < i - o := by omega
        rw [List.getElem?_eq_none (by omega), List.getElem?_eq_none (by simp; omega)]
theorem blx_set {X : XT} {o j : Nat} {L : List (Nat → Int32)} {k : Nat → Int32} (hj : j < L.length) : va_up (blx X o L) (o + j) k = blx X o (L.set j k) := by
  funext i
  by_cases h : i = o + j
  · subst h
    rw [up_eq]
    exact (blx_at j rfl (by simp [hj])).symm
  · rw [up_ne h]
    by_cases h2 : i < o
    · rw [blx_lt h2, blx_lt h2]
    · have h3 : ¬ i < o := h2
      simp only [blx, if_neg h3, List.getD]
      rw [List.getElem?_set_ne (by omega)]
theorem blx_blz {X : XT} {o k : Nat} {L : List (Nat → Int32)} {x : Nat → Int32} : blz (blx X o (L ++ [x])) (o + L.length) (k + 1) = blx X o (L ++ List.replicate (k + 1) (fun _ => 0)) := by
  funext i
  by_cases h2 : i < o
  · rw [blz_lt (by omega), blx_lt h2, blx_lt h2]
  · by_cases h3 : i < o + L.length
    · rw [blz_lt h3]
      simp only [blx, if_neg h2, List.getD]
      rw [List.getElem?_append_left (by omega), List.getElem?_append_left (by omega)]
    · simp only [blx, blz, if_neg h2, if_neg h3, List.getD]
      rw [List.getElem?_append_right (l₁ := L) (l₂ := List.replicate (k + 1) (fun _ => 0)) (i := i - o) (by omega)]
      by_cases h4 : i < o + L.length + (k + 1)
      · rw [if_pos h4, List.getElem?_replicate, if_pos (by omega)]
        rfl
      · rw [if_neg h4, List.getElem?_eq_none (by simp; omega), List.getElem?_eq_none (by simp; omega)]
theorem blz_blx {X : XT} {o m : Nat} : blz X o m = blx X o (List.replicate m (fun _ => 0)) := by
  funext i
  by_cases h2 : i < o
  · rw [blz_lt h2, blx_lt h2]
  · simp only [blx, blz, if_neg h2, List.getD]
    by_cases h4 : i < o + m
    · rw [if_pos h4, List.getElem?_replicate, if_pos (by omega)]; rfl
    · rw [if_neg h4, List.getElem?_eq_none (by simp; omega)]; rfl
theorem upd_same {x : Nat → Int32} {i : Nat} {v : Int32} (h : x i = v) : upd x i v = x := by
  funext j
  by_cases hj : j = i
  · subst hj; simp [upd, h]
  · simp [upd, hj]
theorem up_up {α : Type} {f : Nat → α} {a : Nat} {v w : α} : va_up (va_up f a v) a w = va_up f a w := by
  funext i
  by_cases h : i = a
  · subst h; rw [up_eq, up_eq]
  · rw [up_ne h, up_ne h, up_ne h]
section CT
variable {l : Launch} {b0 : Nat} {D : GD} {K : KT} {own : String} {cc : ByteArray} {ret : Option FieldType} {nL fr lo mc ms : Nat} {pc : Nat} {loc : List (Nat × Value)} {st : List Value} {n n2 : Nat} {κ κ2 : QT} {X X2 : XT} {Y Y2 : YT} {Z Z2 : ZT} {cs ss a : Nat}
theorem g_eqs (h1 : κ = κ2) (h2 : X = X2) (k : gV l b0 D K (n, κ2, X2, Y, Z, cs, ss) pc loc st) : gV l b0 D K (n, κ, X, Y, Z, cs, ss) pc loc st := by rw [h1, h2]; exact k
theorem g_eqZ (h1 : Z = Z2) (k : gV l b0 D K (n, κ, X, Y, Z2, cs, ss) pc loc st) : gV l b0 D K (n, κ, X, Y, Z, cs, ss) pc loc st := by rw [h1]; exact k
theorem g_eqX (h1 : X = X2) (k : gV l b0 D K (n, κ, X2, Y, Z, cs, ss) pc loc st) : gV l b0 D K (n, κ, X, Y, Z, cs, ss) pc loc st := by rw [h1]; exact k
theorem hx_new_int (hC : gC l b0 D K own cc ret nL fr lo mc ms) {o : Nat} {L : List (Nat × Nat)} {M : List (Nat → Int32)} {len : Nat} {v : Int32} (hn : n = o + L.length) (hM : L.length = M.length) (hv : ¬ v < 0) (hL0 : v.toNatClampNeg = len) (hby : len * componentBytes (newarray.typeOf .int) ≤ 536870912) (hrm : cs + 1 ≤ mc ∧ ss + len ≤ ms) (hd : decode cc pc = .ok (.newarray .int, 2)) (kk : gV l b0 D K (n + 1, blk κ o (L ++ [(14, len)]), blx X o (M ++ [fun _ => 0]), Y, Z, cs + 1, ss + len) (pc + 2) loc (.ref (b0 + n) :: st)) : gV l b0 D K (n, blk κ o L, blx X o M, Y, Z, cs, ss) pc loc (.int v :: st) := by
  subst hn
  refine g_new_int hC hv hL0 hby hrm hd ?_
  rw [blk_push, hM, blx_push, ← hM]
  exact kk
theorem hx_new_byte (hC : gC l b0 D K own cc ret nL fr lo mc ms) {o : Nat} {L : List (Nat × Nat)} {M : List (Nat → Int32)} {len : Nat} {v : Int32} (hn : n = o + L.length) (hM : L.length = M.length) (hv : ¬ v < 0) (hL0 : v.toNatClampNeg = len) (hby : len * componentBytes (newarray.typeOf .byte) ≤ 536870912) (hrm : cs + 1 ≤ mc ∧ ss + len ≤ ms) (hd : decode cc pc = .ok (.newarray .byte, 2)) (kk : gV l b0 D K (n + 1, blk κ o (L ++ [(13, len)]), blx X o (M ++ [fun _ => 0]), Y, Z, cs + 1, ss + len) (pc + 2) loc (.ref (b0 + n) :: st)) : gV l b0 D K (n, blk κ o L, blx X o M, Y, Z, cs, ss) pc loc (.int v :: st) := by
  subst hn
  refine g_new_byte hC hv hL0 hby hrm hd ?_
  rw [blk_push, hM, blx_push, ← hM]
  exact kk
theorem hx_new_boolean (hC : gC l b0 D K own cc ret nL fr lo mc ms) {o : Nat} {L : List (Nat × Nat)} {M : List (Nat → Int32)} {len : Nat} {v : Int32} (hn : n = o + L.length) (hM : L.length = M.length) (hv : ¬ v < 0) (hL0 : v.toNatClampNeg = len) (hby : len * componentBytes (newarray.typeOf .boolean) ≤ 536870912) (hrm : cs + 1 ≤ mc ∧ ss + len ≤ ms) (hd : decode cc pc = .ok (.newarray .boolean, 2)) (kk : gV l b0 D K (n + 1, blk κ o (L ++ [(16, len)]), blx X o (M ++ [fun _ => 0]), Y, Z, cs + 1, ss + len) (pc + 2) loc (.ref (b0 + n) :: st)) : gV l b0 D K (n, blk κ o L, blx X o M, Y, Z, cs, ss) pc loc (.int v :: st) := by
  subst hn
  refine g_new_boolean hC hv hL0 hby hrm hd ?_
  rw [blk_push, hM, blx_push, ← hM]
  exact kk
theorem hx_new_long (hC : gC l b0 D K own cc ret nL fr lo mc ms) {o : Nat} {L : List (Nat × Nat)} {M : List (Nat → Int32)} {len : Nat} {v : Int32} (hn : n = o + L.length) (hM : L.length = M.length) (hv : ¬ v < 0) (hL0 : v.toNatClampNeg = len) (hby : len * componentBytes (newarray.typeOf .long) ≤ 536870912) (hrm : cs + 1 ≤ mc ∧ ss + len ≤ ms) (hd : decode cc pc = .ok (.newarray .long, 2)) (kk : gV l b0 D K (n + 1, blk κ o (L ++ [(15, len)]), blx X o (M ++ [fun _ => 0]), va_up Y n (fun _ => 0), Z, cs + 1, ss + len) (pc + 2) loc (.ref (b0 + n) :: st)) : gV l b0 D K (n, blk κ o L, blx X o M, Y, Z, cs, ss) pc loc (.int v :: st) := by
  subst hn
  refine g_new_long hC hv hL0 hby hrm hd ?_
  rw [blk_push]
  refine g_conv (fun i hi => ?_) kk
  by_cases h : i = o + L.length
  · subst h
    rw [blk_at (k := (15, len)) L.length rfl (by simp), gCell_j, gCell_j]
  · rw [← blx_push, ← hM, up_ne h]
theorem gMv_eqs {y : MethodName} {cc' : ByteArray} {nL' fr' lo' mc' ms' : Nat} {ret' : Option FieldType} {av : List Value} {h : HS} (hM : gMv l y cc' nL' ret' fr' lo' mc' ms' b0 D av h (n, κ, X, Y, Z)) (h0 : n = n2) (h1 : κ = κ2) (h2 : X = X2) : gMv l y cc' nL' ret' fr' lo' mc' ms' b0 D av h (n2, κ2, X2, Y, Z) := by subst h0; subst h1; subst h2; exact hM
theorem pf_X0_12 (hC : gC l b0 D K RX0 cc ret nL fr lo mc ms) (hI : gI K) {x : Nat → Int32} {z : Nat → Option Nat} {v : Nat} (hk : κ a = (0 + 20, 0)) (ha : a < n) (hxa : X a = x) (hza : Z a = z) (hd : decode cc pc = .ok (.putfield 12, 3)) (kk : gV l b0 D K (n, κ, X, Y, va_up Z a (va_up z 1 (some v)), cs, ss) (pc + 3) loc st) : gV l b0 D K (n, κ, X, Y, Z, cs, ss) pc loc (.ref (b0 + v) :: .ref (b0 + a) :: st) := g_putF hC hI (ci := 0) (k := 1) rfl iX0 tyX0_ok nmX0 (by decide) tw_441 rfl rfl rfl (ty := tyX0 1) rfl rfl rfl (Nat.le_of_ble_eq_true rfl) rfl hk ha hxa hza hd kk
theorem pf_X0_18 (hC : gC l b0 D K RX0 cc ret nL fr lo mc ms) (hI : gI K) {x : Nat → Int32} {z : Nat → Option Nat} {v : Nat} (hk : κ a = (0 + 20, 0)) (ha : a < n) (hxa : X a = x) (hza : Z a = z) (hd : decode cc pc = .ok (.putfield 18, 3)) (kk : gV l b0 D K (n, κ, X, Y, va_up Z a (va_up z 2 (some v)), cs, ss) (pc + 3) loc st) : gV l b0 D K (n, κ, X, Y, Z, cs, ss) pc loc (.ref (b0 + v) :: .ref (b0 + a) :: st) := g_putF hC hI (ci := 0) (k := 2) rfl iX0 tyX0_ok nmX0 (by decide) tw_442 rfl rfl rfl (ty := tyX0 2) rfl rfl rfl (Nat.le_of_ble_eq_true rfl) rfl hk ha hxa hza hd kk
theorem pf_X0_22 (hC : gC l b0 D K RX0 cc ret nL fr lo mc ms) (hI : gI K) {x : Nat → Int32} {z : Nat → Option Nat} {v : Nat} (hk : κ a = (0 + 20, 0)) (ha : a < n) (hxa : X a = x) (hza : Z a = z) (hd : decode cc pc = .ok (.putfield 22, 3)) (kk : gV l b0 D K (n, κ, X, Y, va_up Z a (va_up z 4 (some v)), cs, ss) (pc + 3) loc st) : gV l b0 D K (n, κ, X, Y, Z, cs, ss) pc loc (.ref (b0 + v) :: .ref (b0 + a) :: st) := g_putF hC hI (ci := 0) (k := 4) rfl iX0 tyX0_ok nmX0 (by decide) tw_446 rfl rfl rfl (ty := tyX0 4) rfl rfl rfl (Nat.le_of_ble_eq_true rfl) rfl hk ha hxa hza hd kk
theorem pf_X0_25 (hC : gC l b0 D K RX0 cc ret nL fr lo mc ms) (hI : gI K) {x : Nat → Int32} {z : Nat → Option Nat} {v : Nat} (hk : κ a = (0 + 20, 0)) (ha : a < n) (hxa : X a = x) (hza : Z a = z) (hd : decode cc pc = .ok (.putfield 25, 3)) (kk : gV l b0 D K (n, κ, X, Y, va_up Z a (va_up z 0 (some v)), cs, ss) (pc + 3) loc st) : gV l b0 D K (n, κ, X, Y, Z, cs, ss) pc loc (.ref (b0 + v) :: .ref (b0 + a) :: st) := g_putF hC hI (ci := 0) (k := 0) rfl iX0 tyX0_ok nmX0 (by decide) tw_440 rfl rfl rfl (ty := tyX0 0) rfl rfl rfl (Nat.le_of_ble_eq_true rfl) rfl hk ha hxa hza hd kk
theorem pf_X1_9 (hC : gC l b0 D K RX1 cc ret nL fr lo mc ms) (hI : gI K) {x : Nat → Int32} {z : Nat → Option Nat} {v : Nat} (hk : κ a = (1 + 20, 0)) (ha : a < n) (hxa : X a = x) (hza : Z a = z) (hd : decode cc pc = .ok (.putfield 9, 3)) (kk : gV l b0 D K (n, κ, X, Y, va_up Z a (va_up z 1 (some v)), cs, ss) (pc + 3) loc st) : gV l b0 D K (n, κ, X, Y, Z, cs, ss) pc loc (.ref (b0 + v) :: .ref (b0 + a) :: st) := g_putF hC hI (ci := 1) (k := 1) rfl iX1 tyX1_ok nmX1 (by decide) tw_361 rfl rfl rfl (ty := tyX1 1) rfl rfl rfl (Nat.le_of_ble_eq_true rfl) rfl hk ha hxa hza hd kk
theorem pf_X1_15 (hC : gC l b0 D K RX1 cc ret nL fr lo mc ms) (hI : gI K) {x : Nat → Int32} {z : Nat → Option Nat} {v : Nat} (hk : κ a = (1 + 20, 0)) (ha : a < n) (hxa : X a = x) (hza : Z a = z) (hd : decode cc pc = .ok (.putfield 15, 3)) (kk : gV l b0 D K (n, κ, X, Y, va_up Z a (va_up z 2 (some v)), cs, ss) (pc + 3) loc st) : gV l b0 D K (n, κ, X, Y, Z, cs, ss) pc loc (.ref (b0 + v) :: .ref (b0 + a) :: st) := g_putF hC hI (ci := 1) (k := 2) rfl iX1 tyX1_ok nmX1 (by decide) tw_362 rfl rfl rfl (ty := tyX1 2) rfl rfl rfl (Nat.le_of_ble_eq_true rfl) rfl hk ha hxa hza hd kk
theorem pf_X1_19 (hC : gC l b0 D K RX1 cc ret nL fr lo mc ms) (hI : gI K) {x : Nat → Int32} {z : Nat → Option Nat} {v : Nat} (hk : κ a = (1 + 20, 0)) (ha : a < n) (hxa : X a = x) (hza : Z a = z) (hd : decode cc pc = .ok (.putfield 19, 3)) (kk : gV l b0 D K (n, κ, X, Y, va_up Z a (va_up z 0 (some v)), cs, ss) (pc + 3) loc st) : gV l b0 D K (n, κ, X, Y, Z, cs, ss) pc loc (.ref (b0 + v) :: .ref (b0 + a) :: st) := g_putF hC hI (ci := 1) (k := 0) rfl iX1 tyX1_ok nmX1 (by decide) tw_358 rfl rfl rfl (ty := tyX1 0) rfl rfl rfl (Nat.le_of_ble_eq_true rfl) rfl hk ha hxa hza hd kk
theorem pf_X2_10 (hC : gC l b0 D K RX2 cc ret nL fr lo mc ms) (hI : gI K) {x : Nat → Int32} {z : Nat → Option Nat} {v : Nat} (hk : κ a = (2 + 20, 0)) (ha : a < n) (hxa : X a = x) (hza : Z a = z) (hd : decode cc pc = .ok (.putfield 10, 3)) (kk : gV l b0 D K (n, κ, X, Y, va_up Z a (va_up z 1 (some v)), cs, ss) (pc + 3) loc st) : gV l b0 D K (n, κ, X, Y, Z, cs, ss) pc loc (.ref (b0 + v) :: .ref (b0 + a) :: st) := g_putF hC hI (ci := 2) (k := 1) rfl iX2 tyX2_ok nmX2 (by decide) tw_408 rfl rfl rfl (ty := tyX2 1) rfl rfl rfl (Nat.le_of_ble_eq_true rfl) rfl hk ha hxa hza hd kk
theorem pf_X2_16 (hC : gC l b0 D K RX2 cc ret nL fr lo mc ms) (hI : gI K) {x : Nat → Int32} {z : Nat → Option Nat} {v : Nat} (hk : κ a = (2 + 20, 0)) (ha : a < n) (hxa : X a = x) (hza : Z a = z) (hd : decode cc pc = .ok (.putfield 16, 3)) (kk : gV l b0 D K (n, κ, X, Y, va_up Z a (va_up z 2 (some v)), cs, ss) (pc + 3) loc st) : gV l b0 D K (n, κ, X, Y, Z, cs, ss) pc loc (.ref (b0 + v) :: .ref (b0 + a) :: st) := g_putF hC hI (ci := 2) (k := 2) rfl iX2 tyX2_ok nmX2 (by decide) tw_409 rfl rfl rfl (ty := tyX2 2) rfl rfl rfl (Nat.le_of_ble_eq_true rfl) rfl hk ha hxa hza hd kk
theorem pf_X2_20 (hC : gC l b0 D K RX2 cc ret nL fr lo mc ms) (hI : gI K) {x : Nat → Int32} {z : Nat → Option Nat} {v : Nat} (hk : κ a = (2 + 20, 0)) (ha : a < n) (hxa : X a = x) (hza : Z a = z) (hd : decode cc pc = .ok (.putfield 20, 3)) (kk : gV l b0 D K (n, κ, X, Y, va_up Z a (va_up z 3 (some v)), cs, ss) (pc + 3) loc st) : gV l b0 D K (n, κ, X, Y, Z, cs, ss) pc loc (.ref (b0 + v) :: .ref (b0 + a) :: st) := g_putF hC hI (ci := 2) (k := 3) rfl iX2 tyX2_ok nmX2 (by decide) tw_410 rfl rfl rfl (ty := tyX2 3) rfl rfl rfl (Nat.le_of_ble_eq_true rfl) rfl hk ha hxa hza hd kk
theorem pf_X2_23 (hC : gC l b0 D K RX2 cc ret nL fr lo mc ms) (hI : gI K) {x : Nat → Int32} {z : Nat → Option Nat} {v : Nat} (hk : κ a = (2 + 20, 0)) (ha : a < n) (hxa : X a = x) (hza : Z a = z) (hd : decode cc pc = .ok (.putfield 23, 3)) (kk : gV l b0 D K (n, κ, X, Y, va_up Z a (va_up z 0 (some v)), cs, ss) (pc + 3) loc st) : gV l b0 D K (n, κ, X, Y, Z, cs, ss) pc loc (.ref (b0 + v) :: .ref (b0 + a) :: st) := g_putF hC hI (ci := 2) (k := 0) rfl iX2 tyX2_ok nmX2 (by decide) tw_407 rfl rfl rfl (ty := tyX2 0) rfl rfl rfl (Nat.le_of_ble_eq_true rfl) rfl hk ha hxa hza hd kk
theorem pf_X3_12 (hC : gC l b0 D K RX3 cc ret nL fr lo mc ms) (hI : gI K) {x : Nat → Int32} {z : Nat → Option Nat} {v : Nat} (hk : κ a = (3 + 20, 0)) (ha : a < n) (hxa : X a = x) (hza : Z a = z) (hd : decode cc pc = .ok (.putfield 12, 3)) (kk : gV l b0 D K (n, κ, X, Y, va_up Z a (va_up z 1 (some v)), cs, ss) (pc + 3) loc st) : gV l b0 D K (n, κ, X, Y, Z, cs, ss) pc loc (.ref (b0 + v) :: .ref (b0 + a) :: st) := g_putF hC hI (ci := 3) (k := 1) rfl iX3 tyX3_ok nmX3 (by decide) tw_382 rfl rfl rfl (ty := tyX3 1) rfl rfl rfl (Nat.le_of_ble_eq_true rfl) rfl hk ha hxa hza hd kk
theorem pf_X3_18 (hC : gC l b0 D K RX3 cc ret nL fr lo mc ms) (hI : gI K) {x : Nat → Int32} {z : Nat → Option Nat} {v : Nat} (hk : κ a = (3 + 20, 0)) (ha : a < n) (hxa : X a = x) (hza : Z a = z) (hd : decode cc pc = .ok (.putfield 18, 3)) (kk : gV l b0 D K (n, κ, X, Y, va_up Z a (va_up z 2 (some v)), cs, ss) (pc + 3) loc st) : gV l b0 D K (n, κ, X, Y, Z, cs, ss) pc loc (.ref (b0 + v) :: .ref (b0 + a) :: st) := g_putF hC hI (ci := 3) (k := 2) rfl iX3 tyX3_ok nmX3 (by decide) tw_383 rfl rfl rfl (ty := tyX3 2) rfl rfl rfl (Nat.le_of_ble_eq_true rfl) rfl hk ha hxa hza hd kk
theorem pf_X3_22 (hC : gC l b0 D K RX3 cc ret nL fr lo mc ms) (hI : gI K) {x : Nat → Int32} {z : Nat → Option Nat} {v : Nat} (hk : κ a = (3 + 20, 0)) (ha : a < n) (hxa : X a = x) (hza : Z a = z) (hd : decode cc pc = .ok (.putfield 22, 3)) (kk : gV l b0 D K (n, κ, X, Y, va_up Z a (va_up z 3 (some v)), cs, ss) (pc + 3) loc st) : gV l b0 D K (n, κ, X, Y, Z, cs, ss) pc loc (.ref (b0 + v) :: .ref (b0 + a) :: st) := g_putF hC hI (ci := 3) (k := 3) rfl iX3 tyX3_ok nmX3 (by decide) tw_384 rfl rfl rfl (ty := tyX3 3) rfl rfl rfl (Nat.le_of_ble_eq_true rfl) rfl hk ha hxa hza hd kk
theorem pf_X3_25 (hC : gC l b0 D K RX3 cc ret nL fr lo mc ms) (hI : gI K) {x : Nat → Int32} {z : Nat → Option Nat} {v : Nat} (hk : κ a = (3 + 20, 0)) (ha : a < n) (hxa : X a = x) (hza : Z a = z) (hd : decode cc pc = .ok (.putfield 25, 3)) (kk : gV l b0 D K (n, κ, X, Y, va_up Z a (va_up z 0 (some v)), cs, ss) (pc + 3) loc st) : gV l b0 D K (n, κ, X, Y, Z, cs, ss) pc loc (.ref (b0 + v) :: .ref (b0 + a) :: st) := g_putF hC hI (ci := 3) (k := 0) rfl iX3 tyX3_ok nmX3 (by decide) tw_381 rfl rfl rfl (ty := tyX3 0) rfl rfl rfl (Nat.le_of_ble_eq_true rfl) rfl hk ha hxa hza hd kk
theorem pf_X4_11 (hC : gC l b0 D K RX4 cc ret nL fr lo mc ms) (hI : gI K) {x : Nat → Int32} {z : Nat → Option Nat} {v : Nat} (hk : κ a = (4 + 20, 0)) (ha : a < n) (hxa : X a = x) (hza : Z a = z) (hd : decode cc pc = .ok (.putfield 11, 3)) (kk : gV l b0 D K (n, κ, X, Y, va_up Z a (va_up z 1 (some v)), cs, ss) (pc + 3) loc st) : gV l b0 D K (n, κ, X, Y, Z, cs, ss) pc loc (.ref (b0 + v) :: .ref (b0 + a) :: st) := g_putF hC hI (ci := 4) (k := 1) rfl iX4 tyX4_ok nmX4 (by decide) tw_773 rfl rfl rfl (ty := tyX4 1) rfl rfl rfl (Nat.le_of_ble_eq_true rfl) rfl hk ha hxa hza hd kk
theorem pf_X4_15 (hC : gC l b0 D K RX4 cc ret nL fr lo mc ms) (hI : gI K) {x : Nat → Int32} {z : Nat → Option Nat} {v : Nat} (hk : κ a = (4 + 20, 0)) (ha : a < n) (hxa : X a = x) (hza : Z a = z) (hd : decode cc pc = .ok (.putfield 15, 3)) (kk : gV l b0 D K (n, κ, X, Y, va_up Z a (va_up z 0 (some v)), cs, ss) (pc + 3) loc st) : gV l b0 D K (n, κ, X, Y, Z, cs, ss) pc loc (.ref (b0 + v) :: .ref (b0 + a) :: st) := g_putF hC hI (ci := 4) (k := 0) rfl iX4 tyX4_ok nmX4 (by decide) tw_772 rfl rfl rfl (ty := tyX4 0) rfl rfl rfl (Nat.le_of_ble_eq_true rfl) rfl hk ha hxa hza hd kk
theorem pf_X5_9 (hC : gC l b0 D K RX5 cc ret nL fr lo mc ms) (hI : gI K) {x : Nat → Int32} {z : Nat → Option Nat} {v : Nat} (hk : κ a = (5 + 20, 0)) (ha : a < n) (hxa : X a = x) (hza : Z a = z) (hd : decode cc pc = .ok (.putfield 9, 3)) (kk : gV l b0 D K (n, κ, X, Y, va_up Z a (va_up z 1 (some v)), cs, ss) (pc + 3) loc st) : gV l b0 D K (n, κ, X, Y, Z, cs, ss) pc loc (.ref (b0 + v) :: .ref (b0 + a) :: st) := g_putF hC hI (ci := 5) (k := 1) rfl iX5 tyX5_ok nmX5 (by decide) tw_289 rfl rfl rfl (ty := tyX5 1) rfl rfl rfl (Nat.le_of_ble_eq_true rfl) rfl hk ha hxa hza hd kk
theorem pf_X5_15 (hC : gC l b0 D K RX5 cc ret nL fr lo mc ms) (hI : gI K) {x : Nat → Int32} {z : Nat → Option Nat} {v : Nat} (hk : κ a = (5 + 20, 0)) (ha : a < n) (hxa : X a = x) (hza : Z a = z) (hd : decode cc pc = .ok (.putfield 15, 3)) (kk : gV l b0 D K (n, κ, X, Y, va_up Z a (va_up z 0 (some v)), cs, ss) (pc + 3) loc st) : gV l b0 D K (n, κ, X, Y, Z, cs, ss) pc loc (.ref (b0 + v) :: .ref (b0 + a) :: st) := g_putF hC hI (ci := 5) (k := 0) rfl iX5 tyX5_ok nmX5 (by decide) tw_288 rfl rfl rfl (ty := tyX5 0) rfl rfl rfl (Nat.le_of_ble_eq_true rfl) rfl hk ha hxa hza hd kk
theorem pf_X6_12 (hC : gC l b0 D K RX6 cc ret nL fr lo mc ms) (hI : gI K) {x : Nat → Int32} {z : Nat → Option Nat} {v : Nat} (hk : κ a = (6 + 20, 0)) (ha : a < n) (hxa : X a = x) (hza : Z a = z) (hd : decode cc pc = .ok (.putfield 12, 3)) (kk : gV l b0 D K (n, κ, X, Y, va_up Z a (va_up z 0 (some v)), cs, ss) (pc + 3) loc st) : gV l b0 D K (n, κ, X, Y, Z, cs, ss) pc loc (.ref (b0 + v) :: .ref (b0 + a) :: st) := g_putF hC hI (ci := 6) (k := 0) rfl iX6 tyX6_ok nmX6 (by decide) tw_314 rfl rfl rfl (ty := tyX6 0) rfl rfl rfl (Nat.le_of_ble_eq_true rfl) rfl hk ha hxa hza hd kk
theorem pf_X6_21 (hC : gC l b0 D K RX6 cc ret nL fr lo mc ms) (hI : gI K) {x : Nat → Int32} {z : Nat → Option Nat} {v : Nat} (hk : κ a = (6 + 20, 0)) (ha : a < n) (hxa : X a = x) (hza : Z a = z) (hd : decode cc pc = .ok (.putfield 21, 3)) (kk : gV l b0 D K (n, κ, X, Y, va_up Z a (va_up z 1 (some v)), cs, ss) (pc + 3) loc st) : gV l b0 D K (n, κ, X, Y, Z, cs, ss) pc loc (.ref (b0 + v) :: .ref (b0 + a) :: st) := g_putF hC hI (ci := 6) (k := 1) rfl iX6 tyX6_ok nmX6 (by decide) tw_316 rfl rfl rfl (ty := tyX6 1) rfl rfl rfl (Nat.le_of_ble_eq_true rfl) rfl hk ha hxa hza hd kk
theorem pf_X6_25 (hC : gC l b0 D K RX6 cc ret nL fr lo mc ms) (hI : gI K) {x : Nat → Int32} {z : Nat → Option Nat} {v : Nat} (hk : κ a = (6 + 20, 0)) (ha : a < n) (hxa : X a = x) (hza : Z a = z) (hd : decode cc pc = .ok (.putfield 25, 3)) (kk : gV l b0 D K (n, κ, X, Y, va_up Z a (va_up z 2 (some v)), cs, ss) (pc + 3) loc st) : gV l b0 D K (n, κ, X, Y, Z, cs, ss) pc loc (.ref (b0 + v) :: .ref (b0 + a) :: st) := g_putF hC hI (ci := 6) (k := 2) rfl iX6 tyX6_ok nmX6 (by decide) tw_318 rfl rfl rfl (ty := tyX6 2) rfl rfl rfl (Nat.le_of_ble_eq_true rfl) rfl hk ha hxa hza hd kk
theorem pf_X6_29 (hC : gC l b0 D K RX6 cc ret nL fr lo mc ms) (hI : gI K) {x : Nat → Int32} {z : Nat → Option Nat} {v : Nat} (hk : κ a = (6 + 20, 0)) (ha : a < n) (hxa : X a = x) (hza : Z a = z) (hd : decode cc pc = .ok (.putfield 29, 3)) (kk : gV l b0 D K (n, κ, X, Y, va_up Z a (va_up z 4 (some v)), cs, ss) (pc + 3) loc st) : gV l b0 D K (n, κ, X, Y, Z, cs, ss) pc loc (.ref (b0 + v) :: .ref (b0 + a) :: st) := g_putF hC hI (ci := 6) (k := 4) rfl iX6 tyX6_ok nmX6 (by decide) tw_321 rfl rfl rfl (ty := tyX6 4) rfl rfl rfl (Nat.le_of_ble_eq_true rfl) rfl hk ha hxa hza hd kk
theorem pf_X6_33 (hC : gC l b0 D K RX6 cc ret nL fr lo mc ms) (hI : gI K) {x : Nat → Int32} {z : Nat → Option Nat} {v : Nat} (hk : κ a = (6 + 20, 0)) (ha : a < n) (hxa : X a = x) (hza : Z a = z) (hd : decode cc pc = .ok (.putfield 33, 3)) (kk : gV l b0 D K (n, κ, X, Y, va_up Z a (va_up z 5 (some v)), cs, ss) (pc + 3) loc st) : gV l b0 D K (n, κ, X, Y, Z, cs, ss) pc loc (.ref (b0 + v) :: .ref (b0 + a) :: st) := g_putF hC hI (ci := 6) (k := 5) rfl iX6 tyX6_ok nmX6 (by decide) tw_322 rfl rfl rfl (ty := tyX6 5) rfl rfl rfl (Nat.le_of_ble_eq_true rfl) rfl hk ha hxa hza hd kk
theorem pf_X6_36 (hC : gC l b0 D K RX6 cc ret nL fr lo mc ms) (hI : gI K) {x : Nat → Int32} {z : Nat → Option Nat} {v : Nat} (hk : κ a = (6 + 20, 0)) (ha : a < n) (hxa : X a = x) (hza : Z a = z) (hd : decode cc pc = .ok (.putfield 36, 3)) (kk : gV l b0 D K (n, κ, X, Y, va_up Z a (va_up z 6 (some v)), cs, ss) (pc + 3) loc st) : gV l b0 D K (n, κ, X, Y, Z, cs, ss) pc loc (.ref (b0 + v) :: .ref (b0 + a) :: st) := g_putF hC hI (ci := 6) (k := 6) rfl iX6 tyX6_ok nmX6 (by decide) tw_323 rfl rfl rfl (ty := tyX6 6) rfl rfl rfl (Nat.le_of_ble_eq_true rfl) rfl hk ha hxa hza hd kk
theorem pf_X6_39 (hC : gC l b0 D K RX6 cc ret nL fr lo mc ms) {x : Nat → Int32} {z : Nat → Option Nat} {v : Int32} (hk : κ a = (6 + 20, 0)) (ha : a < n) (hxa : X a = x) (hza : Z a = z) (hd : decode cc pc = .ok (.putfield 39, 3)) (kk : gV l b0 D K (n, κ, va_up X a (upd x 8 v), Y, Z, cs, ss) (pc + 3) loc st) : gV l b0 D K (n, κ, X, Y, Z, cs, ss) pc loc (.int v :: .ref (b0 + a) :: st) := g_putI hC (ci := 6) (k := 8) rfl iX6 tyX6_ok nmX6 (by decide) tw_326 rfl rfl (ty := .int) rfl rfl rfl (Nat.le_of_ble_eq_true rfl) rfl hk ha hxa hza hd kk
theorem pf_X7_9 (hC : gC l b0 D K RX7 cc ret nL fr lo mc ms) (hI : gI K) {x : Nat → Int32} {z : Nat → Option Nat} {v : Nat} (hk : κ a = (7 + 20, 0)) (ha : a < n) (hxa : X a = x) (hza : Z a = z) (hd : decode cc pc = .ok (.putfield 9, 3)) (kk : gV l b0 D K (n, κ, X, Y, va_up Z a (va_up z 3 (some v)), cs, ss) (pc + 3) loc st) : gV l b0 D K (n, κ, X, Y, Z, cs, ss) pc loc (.ref (b0 + v) :: .ref (b0 + a) :: st) := g_putF hC hI (ci := 7) (k := 3) rfl iX7 tyX7_ok nmX7 (by decide) tw_212 rfl rfl rfl (ty := tyX7 3) rfl rfl rfl (Nat.le_of_ble_eq_true rfl) rfl hk ha hxa hza hd kk
theorem pf_X7_15 (hC : gC l b0 D K RX7 cc ret nL fr lo mc ms) (hI : gI K) {x : Nat → Int32} {z : Nat → Option Nat} {v : Nat} (hk : κ a = (7 + 20, 0)) (ha : a < n) (hxa : X a = x) (hza : Z a = z) (hd : decode cc pc = .ok (.putfield 15, 3)) (kk : gV l b0 D K (n, κ, X, Y, va_up Z a (va_up z 4 (some v)), cs, ss) (pc + 3) loc st) : gV l b0 D K (n, κ, X, Y, Z, cs, ss) pc loc (.ref (b0 + v) :: .ref (b0 + a) :: st) := g_putF hC hI (ci := 7) (k := 4) rfl iX7 tyX7_ok nmX7 (by decide) tw_220 rfl rfl rfl (ty := tyX7 4) rfl rfl rfl (Nat.le_of_ble_eq_true rfl) rfl hk ha hxa hza hd kk
theorem pf_X7_18 (hC : gC l b0 D K RX7 cc ret nL fr lo mc ms) (hI : gI K) {x : Nat → Int32} {z : Nat → Option Nat} {v : Nat} (hk : κ a = (7 + 20, 0)) (ha : a < n) (hxa : X a = x) (hza : Z a = z) (hd : decode cc pc = .ok (.putfield 18, 3)) (kk : gV l b0 D K (n, κ, X, Y, va_up Z a (va_up z 5 (some v)), cs, ss) (pc + 3) loc st) : gV l b0 D K (n, κ, X, Y, Z, cs, ss) pc loc (.ref (b0 + v) :: .ref (b0 + a) :: st) := g_putF hC hI (ci := 7) (k := 5) rfl iX7 tyX7_ok nmX7 (by decide) tw_225 rfl rfl rfl (ty := tyX7 5) rfl rfl rfl (Nat.le_of_ble_eq_true rfl) rfl hk ha hxa hza hd kk
theorem pf_X8_9 (hC : gC l b0 D K RX8 cc ret nL fr lo mc ms) (hI : gI K) {x : Nat → Int32} {z : Nat → Option Nat} {v : Nat} (hk : κ a = (8 + 20, 0)) (ha : a < n) (hxa : X a = x) (hza : Z a = z) (hd : decode cc pc = .ok (.putfield 9, 3)) (kk : gV l b0 D K (n, κ, X, Y, va_up Z a (va_up z 0 (some v)), cs, ss) (pc + 3) loc st) : gV l b0 D K (n, κ, X, Y, Z, cs, ss) pc loc (.ref (b0 + v) :: .ref (b0 + a) :: st) := g_putF hC hI (ci := 8) (k := 0) rfl iX8 tyX8_ok nmX8 (by decide) tw_151 rfl rfl rfl (ty := tyX8 0) rfl rfl rfl (Nat.le_of_ble_eq_true rfl) rfl hk ha hxa hza hd kk
theorem pf_X8_15 (hC : gC l b0 D K RX8 cc ret nL fr lo mc ms) (hI : gI K) {x : Nat → Int32} {z : Nat → Option Nat} {v : Nat} (hk : κ a = (8 + 20, 0)) (ha : a < n) (hxa : X a = x) (hza : Z a = z) (hd : decode cc pc = .ok (.putfield 15, 3)) (kk : gV l b0 D K (n, κ, X, Y, va_up Z a (va_up z 2 (some v)), cs, ss) (pc + 3) loc st) : gV l b0 D K (n, κ, X, Y, Z, cs, ss) pc loc (.ref (b0 + v) :: .ref (b0 + a) :: st) := g_putF hC hI (ci := 8) (k := 2) rfl iX8 tyX8_ok nmX8 (by decide) tw_154 rfl rfl rfl (ty := tyX8 2) rfl rfl rfl (Nat.le_of_ble_eq_true rfl) rfl hk ha hxa hza hd kk
theorem pf_X8_19 (hC : gC l b0 D K RX8 cc ret nL fr lo mc ms) (hI : gI K) {x : Nat → Int32} {z : Nat → Option Nat} {v : Nat} (hk : κ a = (8 + 20, 0)) (ha : a < n) (hxa : X a = x) (hza : Z a = z) (hd : decode cc pc = .ok (.putfield 19, 3)) (kk : gV l b0 D K (n, κ, X, Y, va_up Z a (va_up z 3 (some v)), cs, ss) (pc + 3) loc st) : gV l b0 D K (n, κ, X, Y, Z, cs, ss) pc loc (.ref (b0 + v) :: .ref (b0 + a) :: st) := g_putF hC hI (ci := 8) (k := 3) rfl iX8 tyX8_ok nmX8 (by decide) tw_155 rfl rfl rfl (ty := tyX8 3) rfl rfl rfl (Nat.le_of_ble_eq_true rfl) rfl hk ha hxa hza hd kk
theorem pf_X8_22 (hC : gC l b0 D K RX8 cc ret nL fr lo mc ms) (hI : gI K) {x : Nat → Int32} {z : Nat → Option Nat} {v : Nat} (hk : κ a = (8 + 20, 0)) (ha : a < n) (hxa : X a = x) (hza : Z a = z) (hd : decode cc pc = .ok (.putfield 22, 3)) (kk : gV l b0 D K (n, κ, X, Y, va_up Z a (va_up z 4 (some v)), cs, ss) (pc + 3) loc st) : gV l b0 D K (n, κ, X, Y, Z, cs, ss) pc loc (.ref (b0 + v) :: .ref (b0 + a) :: st) := g_putF hC hI (ci := 8) (k := 4) rfl iX8 tyX8_ok nmX8 (by decide) tw_156 rfl rfl rfl (ty := tyX8 4) rfl rfl rfl (Nat.le_of_ble_eq_true rfl) rfl hk ha hxa hza hd kk
theorem pf_X9_9 (hC : gC l b0 D K RX9 cc ret nL fr lo mc ms) (hI : gI K) {x : Nat → Int32} {z : Nat → Option Nat} {v : Nat} (hk : κ a = (9 + 20, 0)) (ha : a < n) (hxa : X a = x) (hza : Z a = z) (hd : decode cc pc = .ok (.putfield 9, 3)) (kk : gV l b0 D K (n, κ, X, Y, va_up Z a (va_up z 2 (some v)), cs, ss) (pc + 3) loc st) : gV l b0 D K (n, κ, X, Y, Z, cs, ss) pc loc (.ref (b0 + v) :: .ref (b0 + a) :: st) := g_putF hC hI (ci := 9) (k := 2) rfl iX9 tyX9_ok nmX9 (by decide) tw_247 rfl rfl rfl (ty := tyX9 2) rfl rfl rfl (Nat.le_of_ble_eq_true rfl) rfl hk ha hxa hza hd kk
theorem pf_X9_18 (hC : gC l b0 D K RX9 cc ret nL fr lo mc ms) (hI : gI K) {x : Nat → Int32} {z : Nat → Option Nat} {v : Nat} (hk : κ a = (9 + 20, 0)) (ha : a < n) (hxa : X a = x) (hza : Z a = z) (hd : decode cc pc = .ok (.putfield 18, 3)) (kk : gV l b0 D K (n, κ, X, Y, va_up Z a (va_up z 5 (some v)), cs, ss) (pc + 3) loc st) : gV l b0 D K (n, κ, X, Y, Z, cs, ss) pc loc (.ref (b0 + v) :: .ref (b0 + a) :: st) := g_putF hC hI (ci := 9) (k := 5) rfl iX9 tyX9_ok nmX9 (by decide) tw_257 rfl rfl rfl (ty := tyX9 5) rfl rfl rfl (Nat.le_of_ble_eq_true rfl) rfl hk ha hxa hza hd kk
theorem pf_X10_12 (hC : gC l b0 D K RX10 cc ret nL fr lo mc ms) (hI : gI K) {x : Nat → Int32} {z : Nat → Option Nat} {v : Nat} (hk : κ a = (10 + 20, 0)) (ha : a < n) (hxa : X a = x) (hza : Z a = z) (hd : decode cc pc = .ok (.putfield 12, 3)) (kk : gV l b0 D K (n, κ, X, Y, va_up Z a (va_up z 1 (some v)), cs, ss) (pc + 3) loc st) : gV l b0 D K (n, κ, X, Y, Z, cs, ss) pc loc (.ref (b0 + v) :: .ref (b0 + a) :: st) := g_putF hC hI (ci := 10) (k := 1) rfl iX10 tyX10_ok nmX10 (by decide) tw_275 rfl rfl rfl (ty := tyX10 1) rfl rfl rfl (Nat.le_of_ble_eq_true rfl) rfl hk ha hxa hza hd kk
theorem pf_X10_18 (hC : gC l b0 D K RX10 cc ret nL fr lo mc ms) (hI : gI K) {x : Nat → Int32} {z : Nat → Option Nat} {v : Nat} (hk : κ a = (10 + 20, 0)) (ha : a < n) (hxa : X a = x) (hza : Z a = z) (hd : decode cc pc = .ok (.putfield 18, 3)) (kk : gV l b0 D K (n, κ, X, Y, va_up Z a (va_up z 0 (some v)), cs, ss) (pc + 3) loc st) : gV l b0 D K (n, κ, X, Y, Z, cs, ss) pc loc (.ref (b0 + v) :: .ref (b0 + a) :: st) := g_putF hC hI (ci := 10) (k := 0) rfl iX10 tyX10_ok nmX10 (by decide) tw_274 rfl rfl rfl (ty := tyX10 0) rfl rfl rfl (Nat.le_of_ble_eq_true rfl) rfl hk ha hxa hza hd kk
theorem pf_X11_12 (hC : gC l b0 D K RX11 cc ret nL fr lo mc ms) (hI : gI K) {x : Nat → Int32} {z : Nat → Option Nat} {v : Nat} (hk : κ a = (11 + 20, 0)) (ha : a < n) (hxa : X a = x) (hza : Z a = z) (hd : decode cc pc = .ok (.putfield 12, 3)) (kk : gV l b0 D K (n, κ, X, Y, va_up Z a (va_up z 0 (some v)), cs, ss) (pc + 3) loc st) : gV l b0 D K (n, κ, X, Y, Z, cs, ss) pc loc (.ref (b0 + v) :: .ref (b0 + a) :: st) := g_putF hC hI (ci := 11) (k := 0) rfl iX11 tyX11_ok nmX11 (by decide) tw_458 rfl rfl rfl (ty := tyX11 0) rfl rfl rfl (Nat.le_of_ble_eq_true rfl) rfl hk ha hxa hza hd kk
theorem gr_X11_12 (hC : gC l b0 D K RX11 cc ret nL fr lo mc ms) {x : Nat → Int32} {z : Nat → Option Nat} {v : Nat} (hk : κ a = (11 + 20, 0)) (ha : a < n) (hxa : X a = x) (hza : Z a = z) (hzv : z 0 = some v) (hd : decode cc pc = .ok (.getfield 12, 3)) (kk : gV l b0 D K (n, κ, X, Y, Z, cs, ss) (pc + 3) loc (.ref (b0 + v) :: st)) : gV l b0 D K (n, κ, X, Y, Z, cs, ss) pc loc (.ref (b0 + a) :: st) := g_getRaw hC (ci := 11) (k := 0) rfl iX11 (by decide) tw_458 rfl (by show _ = some (Value.ref (b0 + v)); have e : va_rf ((z 0).map (b0 + ·)) = .ref (b0 + v) := (by rw [hzv]; rfl); rw [← e]; rfl) hk ha hxa hza hd kk
theorem pf_X11_21 (hC : gC l b0 D K RX11 cc ret nL fr lo mc ms) (hI : gI K) {x : Nat → Int32} {z : Nat → Option Nat} {v : Nat} (hk : κ a = (11 + 20, 0)) (ha : a < n) (hxa : X a = x) (hza : Z a = z) (hd : decode cc pc = .ok (.putfield 21, 3)) (kk : gV l b0 D K (n, κ, X, Y, va_up Z a (va_up z 1 (some v)), cs, ss) (pc + 3) loc st) : gV l b0 D K (n, κ, X, Y, Z, cs, ss) pc loc (.ref (b0 + v) :: .ref (b0 + a) :: st) := g_putF hC hI (ci := 11) (k := 1) rfl iX11 tyX11_ok nmX11 (by decide) tw_459 rfl rfl rfl (ty := tyX11 1) rfl rfl rfl (Nat.le_of_ble_eq_true rfl) rfl hk ha hxa hza hd kk
theorem pf_X11_28 (hC : gC l b0 D K RX11 cc ret nL fr lo mc ms) (hI : gI K) {x : Nat → Int32} {z : Nat → Option Nat} {v : Nat} (hk : κ a = (11 + 20, 0)) (ha : a < n) (hxa : X a = x) (hza : Z a = z) (hd : decode cc pc = .ok (.putfield 28, 3)) (kk : gV l b0 D K (n, κ, X, Y, va_up Z a (va_up z 2 (some v)), cs, ss) (pc + 3) loc st) : gV l b0 D K (n, κ, X, Y, Z, cs, ss) pc loc (.ref (b0 + v) :: .ref (b0 + a) :: st) := g_putF hC hI (ci := 11) (k := 2) rfl iX11 tyX11_ok nmX11 (by decide) tw_460 rfl rfl rfl (ty := tyX11 2) rfl rfl rfl (Nat.le_of_ble_eq_true rfl) rfl hk ha hxa hza hd kk
theorem pf_X11_34 (hC : gC l b0 D K RX11 cc ret nL fr lo mc ms) (hI : gI K) {x : Nat → Int32} {z : Nat → Option Nat} {v : Nat} (hk : κ a = (11 + 20, 0)) (ha : a < n) (hxa : X a = x) (hza : Z a = z) (hd : decode cc pc = .ok (.putfield 34, 3)) (kk : gV l b0 D K (n, κ, X, Y, va_up Z a (va_up z 3 (some v)), cs, ss) (pc + 3) loc st) : gV l b0 D K (n, κ, X, Y, Z, cs, ss) pc loc (.ref (b0 + v) :: .ref (b0 + a) :: st) := g_putF hC hI (ci := 11) (k := 3) rfl iX11 tyX11_ok nmX11 (by decide) tw_461 rfl rfl rfl (ty := tyX11 3) rfl rfl rfl (Nat.le_of_ble_eq_true rfl) rfl hk ha hxa hza hd kk
theorem pf_X11_41 (hC : gC l b0 D K RX11 cc ret nL fr lo mc ms) (hI : gI K) {x : Nat → Int32} {z : Nat → Option Nat} {v : Nat} (hk : κ a = (11 + 20, 0)) (ha : a < n) (hxa : X a = x) (hza : Z a = z) (hd : decode cc pc = .ok (.putfield 41, 3)) (kk : gV l b0 D K (n, κ, X, Y, va_up Z a (va_up z 5 (some v)), cs, ss) (pc + 3) loc st) : gV l b0 D K (n, κ, X, Y, Z, cs, ss) pc loc (.ref (b0 + v) :: .ref (b0 + a) :: st) := g_putF hC hI (ci := 11) (k := 5) rfl iX11 tyX11_ok nmX11 (by decide) tw_463 rfl rfl rfl (ty := tyX11 5) rfl rfl rfl (Nat.le_of_ble_eq_true rfl) rfl hk ha hxa hza hd kk
theorem pf_X11_45 (hC : gC l b0 D K RX11 cc ret nL fr lo mc ms) (hI : gI K) {x : Nat → Int32} {z : Nat → Option Nat} {v : Nat} (hk : κ a = (11 + 20, 0)) (ha : a < n) (hxa : X a = x) (hza : Z a = z) (hd : decode cc pc = .ok (.putfield 45, 3)) (kk : gV l b0 D K (n, κ, X, Y, va_up Z a (va_up z 6 (some v)), cs, ss) (pc + 3) loc st) : gV l b0 D K (n, κ, X, Y, Z, cs, ss) pc loc (.ref (b0 + v) :: .ref (b0 + a) :: st) := g_putF hC hI (ci := 11) (k := 6) rfl iX11 tyX11_ok nmX11 (by decide) tw_464 rfl rfl rfl (ty := tyX11 6) rfl rfl rfl (Nat.le_of_ble_eq_true rfl) rfl hk ha hxa hza hd kk
theorem gr_X11_41 (hC : gC l b0 D K RX11 cc ret nL fr lo mc ms) {x : Nat → Int32} {z : Nat → Option Nat} {v : Nat} (hk : κ a = (11 + 20, 0)) (ha : a < n) (hxa : X a = x) (hza : Z a = z) (hzv : z 5 = some v) (hd : decode cc pc = .ok (.getfield 41, 3)) (kk : gV l b0 D K (n, κ, X, Y, Z, cs, ss) (pc + 3) loc (.ref (b0 + v) :: st)) : gV l b0 D K (n, κ, X, Y, Z, cs, ss) pc loc (.ref (b0 + a) :: st) := g_getRaw hC (ci := 11) (k := 5) rfl iX11 (by decide) tw_463 rfl (by show _ = some (Value.ref (b0 + v)); have e : va_rf ((z 5).map (b0 + ·)) = .ref (b0 + v) := (by rw [hzv]; rfl); rw [← e]; rfl) hk ha hxa hza hd kk
theorem pf_X11_58 (hC : gC l b0 D K RX11 cc ret nL fr lo mc ms) (hI : gI K) {x : Nat → Int32} {z : Nat → Option Nat} {v : Nat} (hk : κ a = (11 + 20, 0)) (ha : a < n) (hxa : X a = x) (hza : Z a = z) (hd : decode cc pc = .ok (.putfield 58, 3)) (kk : gV l b0 D K (n, κ, X, Y, va_up Z a (va_up z 7 (some v)), cs, ss) (pc + 3) loc st) : gV l b0 D K (n, κ, X, Y, Z, cs, ss) pc loc (.ref (b0 + v) :: .ref (b0 + a) :: st) := g_putF hC hI (ci := 11) (k := 7) rfl iX11 tyX11_ok nmX11 (by decide) tw_465 rfl rfl rfl (ty := tyX11 7) rfl rfl rfl (Nat.le_of_ble_eq_true rfl) rfl hk ha hxa hza hd kk
theorem pf_X11_65 (hC : gC l b0 D K RX11 cc ret nL fr lo mc ms) (hI : gI K) {x : Nat → Int32} {z : Nat → Option Nat} {v : Nat} (hk : κ a = (11 + 20, 0)) (ha : a < n) (hxa : X a = x) (hza : Z a = z) (hd : decode cc pc = .ok (.putfield 65, 3)) (kk : gV l b0 D K (n, κ, X, Y, va_up Z a (va_up z 8 (some v)), cs, ss) (pc + 3) loc st) : gV l b0 D K (n, κ, X, Y, Z, cs, ss) pc loc (.ref (b0 + v) :: .ref (b0 + a) :: st) := g_putF hC hI (ci := 11) (k := 8) rfl iX11 tyX11_ok nmX11 (by decide) tw_466 rfl rfl rfl (ty := tyX11 8) rfl rfl rfl (Nat.le_of_ble_eq_true rfl) rfl hk ha hxa hza hd kk
theorem pf_X11_69 (hC : gC l b0 D K RX11 cc ret nL fr lo mc ms) (hI : gI K) {x : Nat → Int32} {z : Nat → Option Nat} {v : Nat} (hk : κ a = (11 + 20, 0)) (ha : a < n) (hxa : X a = x) (hza : Z a = z) (hd : decode cc pc = .ok (.putfield 69, 3)) (kk : gV l b0 D K (n, κ, X, Y, va_up Z a (va_up z 9 (some v)), cs, ss) (pc + 3) loc st) : gV l b0 D K (n, κ, X, Y, Z, cs, ss) pc loc (.ref (b0 + v) :: .ref (b0 + a) :: st) := g_putF hC hI (ci := 11) (k := 9) rfl iX11 tyX11_ok nmX11 (by decide) tw_467 rfl rfl rfl (ty := tyX11 9) rfl rfl rfl (Nat.le_of_ble_eq_true rfl) rfl hk ha hxa hza hd kk
theorem gr_X11_58 (hC : gC l b0 D K RX11 cc ret nL fr lo mc ms) {x : Nat → Int32} {z : Nat → Option Nat} {v : Nat} (hk : κ a = (11 + 20, 0)) (ha : a < n) (hxa : X a = x) (hza : Z a = z) (hzv : z 7 = some v) (hd : decode cc pc = .ok (.getfield 58, 3)) (kk : gV l b0 D K (n, κ, X, Y, Z, cs, ss) (pc + 3) loc (.ref (b0 + v) :: st)) : gV l b0 D K (n, κ, X, Y, Z, cs, ss) pc loc (.ref (b0 + a) :: st) := g_getRaw hC (ci := 11) (k := 7) rfl iX11 (by decide) tw_465 rfl (by show _ = some (Value.ref (b0 + v)); have e : va_rf ((z 7).map (b0 + ·)) = .ref (b0 + v) := (by rw [hzv]; rfl); rw [← e]; rfl) hk ha hxa hza hd kk
theorem pf_X11_78 (hC : gC l b0 D K RX11 cc ret nL fr lo mc ms) (hI : gI K) {x : Nat → Int32} {z : Nat → Option Nat} {v : Nat} (hk : κ a = (11 + 20, 0)) (ha : a < n) (hxa : X a = x) (hza : Z a = z) (hd : decode cc pc = .ok (.putfield 78, 3)) (kk : gV l b0 D K (n, κ, X, Y, va_up Z a (va_up z 10 (some v)), cs, ss) (pc + 3) loc st) : gV l b0 D K (n, κ, X, Y, Z, cs, ss) pc loc (.ref (b0 + v) :: .ref (b0 + a) :: st) := g_putF hC hI (ci := 11) (k := 10) rfl iX11 tyX11_ok nmX11 (by decide) tw_468 rfl rfl rfl (ty := tyX11 10) rfl rfl rfl (Nat.le_of_ble_eq_true rfl) rfl hk ha hxa hza hd kk
theorem pf_X11_85 (hC : gC l b0 D K RX11 cc ret nL fr lo mc ms) (hI : gI K) {x : Nat → Int32} {z : Nat → Option Nat} {v : Nat} (hk : κ a = (11 + 20, 0)) (ha : a < n) (hxa : X a = x) (hza : Z a = z) (hd : decode cc pc = .ok (.putfield 85, 3)) (kk : gV l b0 D K (n, κ, X, Y, va_up Z a (va_up z 11 (some v)), cs, ss) (pc + 3) loc st) : gV l b0 D K (n, κ, X, Y, Z, cs, ss) pc loc (.ref (b0 + v) :: .ref (b0 + a) :: st) := g_putF hC hI (ci := 11) (k := 11) rfl iX11 tyX11_ok nmX11 (by decide) tw_469 rfl rfl rfl (ty := tyX11 11) rfl rfl rfl (Nat.le_of_ble_eq_true rfl) rfl hk ha hxa hza hd kk
theorem pf_X11_92 (hC : gC l b0 D K RX11 cc ret nL fr lo mc ms) (hI : gI K) {x : Nat → Int32} {z : Nat → Option Nat} {v : Nat} (hk : κ a = (11 + 20, 0)) (ha : a < n) (hxa : X a = x) (hza : Z a = z) (hd : decode cc pc = .ok (.putfield 92, 3)) (kk : gV l b0 D K (n, κ, X, Y, va_up Z a (va_up z 12 (some v)), cs, ss) (pc + 3) loc st) : gV l b0 D K (n, κ, X, Y, Z, cs, ss) pc loc (.ref (b0 + v) :: .ref (b0 + a) :: st) := g_putF hC hI (ci := 11) (k := 12) rfl iX11 tyX11_ok nmX11 (by decide) tw_470 rfl rfl rfl (ty := tyX11 12) rfl rfl rfl (Nat.le_of_ble_eq_true rfl) rfl hk ha hxa hza hd kk
theorem pf_X12_9 (hC : gC l b0 D K RX12 cc ret nL fr lo mc ms) (hI : gI K) {x : Nat → Int32} {z : Nat → Option Nat} {v : Nat} (hk : κ a = (12 + 20, 0)) (ha : a < n) (hxa : X a = x) (hza : Z a = z) (hd : decode cc pc = .ok (.putfield 9, 3)) (kk : gV l b0 D K (n, κ, X, Y, va_up Z a (va_up z 1 (some v)), cs, ss) (pc + 3) loc st) : gV l b0 D K (n, κ, X, Y, Z, cs, ss) pc loc (.ref (b0 + v) :: .ref (b0 + a) :: st) := g_putF hC hI (ci := 12) (k := 1) rfl iX12 tyX12_ok nmX12 (by decide) tw_1174 rfl rfl rfl (ty := tyX12 1) rfl rfl rfl (Nat.le_of_ble_eq_true rfl) rfl hk ha hxa hza hd kk
theorem pf_X12_13 (hC : gC l b0 D K RX12 cc ret nL fr lo mc ms) (hI : gI K) {x : Nat → Int32} {z : Nat → Option Nat} {v : Nat} (hk : κ a = (12 + 20, 0)) (ha : a < n) (hxa : X a = x) (hza : Z a = z) (hd : decode cc pc = .ok (.putfield 13, 3)) (kk : gV l b0 D K (n, κ, X, Y, va_up Z a (va_up z 2 (some v)), cs, ss) (pc + 3) loc st) : gV l b0 D K (n, κ, X, Y, Z, cs, ss) pc loc (.ref (b0 + v) :: .ref (b0 + a) :: st) := g_putF hC hI (ci := 12) (k := 2) rfl iX12 tyX12_ok nmX12 (by decide) tw_1175 rfl rfl rfl (ty := tyX12 2) rfl rfl rfl (Nat.le_of_ble_eq_true rfl) rfl hk ha hxa hza hd kk
theorem pf_X12_16 (hC : gC l b0 D K RX12 cc ret nL fr lo mc ms) (hI : gI K) {x : Nat → Int32} {z : Nat → Option Nat} {v : Nat} (hk : κ a = (12 + 20, 0)) (ha : a < n) (hxa : X a = x) (hza : Z a = z) (hd : decode cc pc = .ok (.putfield 16, 3)) (kk : gV l b0 D K (n, κ, X, Y, va_up Z a (va_up z 3 (some v)), cs, ss) (pc + 3) loc st) : gV l b0 D K (n, κ, X, Y, Z, cs, ss) pc loc (.ref (b0 + v) :: .ref (b0 + a) :: st) := g_putF hC hI (ci := 12) (k := 3) rfl iX12 tyX12_ok nmX12 (by decide) tw_1176 rfl rfl rfl (ty := tyX12 3) rfl rfl rfl (Nat.le_of_ble_eq_true rfl) rfl hk ha hxa hza hd kk
theorem pf_X12_19 (hC : gC l b0 D K RX12 cc ret nL fr lo mc ms) (hI : gI K) {x : Nat → Int32} {z : Nat → Option Nat} {v : Nat} (hk : κ a = (12 + 20, 0)) (ha : a < n) (hxa : X a = x) (hza : Z a = z) (hd : decode cc pc = .ok (.putfield 19, 3)) (kk : gV l b0 D K (n, κ, X, Y, va_up Z a (va_up z 4 (some v)), cs, ss) (pc + 3) loc st) : gV l b0 D K (n, κ, X, Y, Z, cs, ss) pc loc (.ref (b0 + v) :: .ref (b0 + a) :: st) := g_putF hC hI (ci := 12) (k := 4) rfl iX12 tyX12_ok nmX12 (by decide) tw_1177 rfl rfl rfl (ty := tyX12 4) rfl rfl rfl (Nat.le_of_ble_eq_true rfl) rfl hk ha hxa hza hd kk
theorem pf_X12_22 (hC : gC l b0 D K RX12 cc ret nL fr lo mc ms) (hI : gI K) {x : Nat → Int32} {z : Nat → Option Nat} {v : Nat} (hk : κ a = (12 + 20, 0)) (ha : a < n) (hxa : X a = x) (hza : Z a = z) (hd : decode cc pc = .ok (.putfield 22, 3)) (kk : gV l b0 D K (n, κ, X, Y, va_up Z a (va_up z 5 (some v)), cs, ss) (pc + 3) loc st) : gV l b0 D K (n, κ, X, Y, Z, cs, ss) pc loc (.ref (b0 + v) :: .ref (b0 + a) :: st) := g_putF hC hI (ci := 12) (k := 5) rfl iX12 tyX12_ok nmX12 (by decide) tw_1178 rfl rfl rfl (ty := tyX12 5) rfl rfl rfl (Nat.le_of_ble_eq_true rfl) rfl hk ha hxa hza hd kk
theorem pf_X12_25 (hC : gC l b0 D K RX12 cc ret nL fr lo mc ms) (hI : gI K) {x : Nat → Int32} {z : Nat → Option Nat} {v : Nat} (hk : κ a = (12 + 20, 0)) (ha : a < n) (hxa : X a = x) (hza : Z a = z) (hd : decode cc pc = .ok (.putfield 25, 3)) (kk : gV l b0 D K (n, κ, X, Y, va_up Z a (va_up z 6 (some v)), cs, ss) (pc + 3) loc st) : gV l b0 D K (n, κ, X, Y, Z, cs, ss) pc loc (.ref (b0 + v) :: .ref (b0 + a) :: st) := g_putF hC hI (ci := 12) (k := 6) rfl iX12 tyX12_ok nmX12 (by decide) tw_1179 rfl rfl rfl (ty := tyX12 6) rfl rfl rfl (Nat.le_of_ble_eq_true rfl) rfl hk ha hxa hza hd kk
theorem pf_X12_28 (hC : gC l b0 D K RX12 cc ret nL fr lo mc ms) (hI : gI K) {x : Nat → Int32} {z : Nat → Option Nat} {v : Nat} (hk : κ a = (12 + 20, 0)) (ha : a < n) (hxa : X a = x) (hza : Z a = z) (hd : decode cc pc = .ok (.putfield 28, 3)) (kk : gV l b0 D K (n, κ, X, Y, va_up Z a (va_up z 7 (some v)), cs, ss) (pc + 3) loc st) : gV l b0 D K (n, κ, X, Y, Z, cs, ss) pc loc (.ref (b0 + v) :: .ref (b0 + a) :: st) := g_putF hC hI (ci := 12) (k := 7) rfl iX12 tyX12_ok nmX12 (by decide) tw_1180 rfl rfl rfl (ty := tyX12 7) rfl rfl rfl (Nat.le_of_ble_eq_true rfl) rfl hk ha hxa hza hd kk
theorem pf_X12_31 (hC : gC l b0 D K RX12 cc ret nL fr lo mc ms) (hI : gI K) {x : Nat → Int32} {z : Nat → Option Nat} {v : Nat} (hk : κ a = (12 + 20, 0)) (ha : a < n) (hxa : X a = x) (hza : Z a = z) (hd : decode cc pc = .ok (.putfield 31, 3)) (kk : gV l b0 D K (n, κ, X, Y, va_up Z a (va_up z 8 (some v)), cs, ss) (pc + 3) loc st) : gV l b0 D K (n, κ, X, Y, Z, cs, ss) pc loc (.ref (b0 + v) :: .ref (b0 + a) :: st) := g_putF hC hI (ci := 12) (k := 8) rfl iX12 tyX12_ok nmX12 (by decide) tw_1181 rfl rfl rfl (ty := tyX12 8) rfl rfl rfl (Nat.le_of_ble_eq_true rfl) rfl hk ha hxa hza hd kk
theorem pf_X12_34 (hC : gC l b0 D K RX12 cc ret nL fr lo mc ms) (hI : gI K) {x : Nat → Int32} {z : Nat → Option Nat} {v : Nat} (hk : κ a = (12 + 20, 0)) (ha : a < n) (hxa : X a = x) (hza : Z a = z) (hd : decode cc pc = .ok (.putfield 34, 3)) (kk : gV l b0 D K (n, κ, X, Y, va_up Z a (va_up z 9 (some v)), cs, ss) (pc + 3) loc st) : gV l b0 D K (n, κ, X, Y, Z, cs, ss) pc loc (.ref (b0 + v) :: .ref (b0 + a) :: st) := g_putF hC hI (ci := 12) (k := 9) rfl iX12 tyX12_ok nmX12 (by decide) tw_1182 rfl rfl rfl (ty := tyX12 9) rfl rfl rfl (Nat.le_of_ble_eq_true rfl) rfl hk ha hxa hza hd kk
theorem pf_X12_37 (hC : gC l b0 D K RX12 cc ret nL fr lo mc ms) (hI : gI K) {x : Nat → Int32} {z : Nat → Option Nat} {v : Nat} (hk : κ a = (12 + 20, 0)) (ha : a < n) (hxa : X a = x) (hza : Z a = z) (hd : decode cc pc = .ok (.putfield 37, 3)) (kk : gV l b0 D K (n, κ, X, Y, va_up Z a (va_up z 10 (some v)), cs, ss) (pc + 3) loc st) : gV l b0 D K (n, κ, X, Y, Z, cs, ss) pc loc (.ref (b0 + v) :: .ref (b0 + a) :: st) := g_putF hC hI (ci := 12) (k := 10) rfl iX12 tyX12_ok nmX12 (by decide) tw_1183 rfl rfl rfl (ty := tyX12 10) rfl rfl rfl (Nat.le_of_ble_eq_true rfl) rfl hk ha hxa hza hd kk
theorem pf_X12_40 (hC : gC l b0 D K RX12 cc ret nL fr lo mc ms) (hI : gI K) {x : Nat → Int32} {z : Nat → Option Nat} {v : Nat} (hk : κ a = (12 + 20, 0)) (ha : a < n) (hxa : X a = x) (hza : Z a = z) (hd : decode cc pc = .ok (.putfield 40, 3)) (kk : gV l b0 D K (n, κ, X, Y, va_up Z a (va_up z 11 (some v)), cs, ss) (pc + 3) loc st) : gV l b0 D K (n, κ, X, Y, Z, cs, ss) pc loc (.ref (b0 + v) :: .ref (b0 + a) :: st) := g_putF hC hI (ci := 12) (k := 11) rfl iX12 tyX12_ok nmX12 (by decide) tw_1184 rfl rfl rfl (ty := tyX12 11) rfl rfl rfl (Nat.le_of_ble_eq_true rfl) rfl hk ha hxa hza hd kk
theorem pf_X12_43 (hC : gC l b0 D K RX12 cc ret nL fr lo mc ms) (hI : gI K) {x : Nat → Int32} {z : Nat → Option Nat} {v : Nat} (hk : κ a = (12 + 20, 0)) (ha : a < n) (hxa : X a = x) (hza : Z a = z) (hd : decode cc pc = .ok (.putfield 43, 3)) (kk : gV l b0 D K (n, κ, X, Y, va_up Z a (va_up z 12 (some v)), cs, ss) (pc + 3) loc st) : gV l b0 D K (n, κ, X, Y, Z, cs, ss) pc loc (.ref (b0 + v) :: .ref (b0 + a) :: st) := g_putF hC hI (ci := 12) (k := 12) rfl iX12 tyX12_ok nmX12 (by decide) tw_1185 rfl rfl rfl (ty := tyX12 12) rfl rfl rfl (Nat.le_of_ble_eq_true rfl) rfl hk ha hxa hza hd kk
theorem pf_X12_46 (hC : gC l b0 D K RX12 cc ret nL fr lo mc ms) (hI : gI K) {x : Nat → Int32} {z : Nat → Option Nat} {v : Nat} (hk : κ a = (12 + 20, 0)) (ha : a < n) (hxa : X a = x) (hza : Z a = z) (hd : decode cc pc = .ok (.putfield 46, 3)) (kk : gV l b0 D K (n, κ, X, Y, va_up Z a (va_up z 13 (some v)), cs, ss) (pc + 3) loc st) : gV l b0 D K (n, κ, X, Y, Z, cs, ss) pc loc (.ref (b0 + v) :: .ref (b0 + a) :: st) := g_putF hC hI (ci := 12) (k := 13) rfl iX12 tyX12_ok nmX12 (by decide) tw_1186 rfl rfl rfl (ty := tyX12 13) rfl rfl rfl (Nat.le_of_ble_eq_true rfl) rfl hk ha hxa hza hd kk
theorem pf_X12_49 (hC : gC l b0 D K RX12 cc ret nL fr lo mc ms) (hI : gI K) {x : Nat → Int32} {z : Nat → Option Nat} {v : Nat} (hk : κ a = (12 + 20, 0)) (ha : a < n) (hxa : X a = x) (hza : Z a = z) (hd : decode cc pc = .ok (.putfield 49, 3)) (kk : gV l b0 D K (n, κ, X, Y, va_up Z a (va_up z 14 (some v)), cs, ss) (pc + 3) loc st) : gV l b0 D K (n, κ, X, Y, Z, cs, ss) pc loc (.ref (b0 + v) :: .ref (b0 + a) :: st) := g_putF hC hI (ci := 12) (k := 14) rfl iX12 tyX12_ok nmX12 (by decide) tw_1187 rfl rfl rfl (ty := tyX12 14) rfl rfl rfl (Nat.le_of_ble_eq_true rfl) rfl hk ha hxa hza hd kk
theorem pf_X12_52 (hC : gC l b0 D K RX12 cc ret nL fr lo mc ms) (hI : gI K) {x : Nat → Int32} {z : Nat → Option Nat} {v : Nat} (hk : κ a = (12 + 20, 0)) (ha : a < n) (hxa : X a = x) (hza : Z a = z) (hd : decode cc pc = .ok (.putfield 52, 3)) (kk : gV l b0 D K (n, κ, X, Y, va_up Z a (va_up z 15 (some v)), cs, ss) (pc + 3) loc st) : gV l b0 D K (n, κ, X, Y, Z, cs, ss) pc loc (.ref (b0 + v) :: .ref (b0 + a) :: st) := g_putF hC hI (ci := 12) (k := 15) rfl iX12 tyX12_ok nmX12 (by decide) tw_1188 rfl rfl rfl (ty := tyX12 15) rfl rfl rfl (Nat.le_of_ble_eq_true rfl) rfl hk ha hxa hza hd kk
theorem pf_X12_55 (hC : gC l b0 D K RX12 cc ret nL fr lo mc ms) (hI : gI K) {x : Nat → Int32} {z : Nat → Option Nat} {v : Nat} (hk : κ a = (12 + 20, 0)) (ha : a < n) (hxa : X a = x) (hza : Z a = z) (hd : decode cc pc = .ok (.putfield 55, 3)) (kk : gV l b0 D K (n, κ, X, Y, va_up Z a (va_up z 16 (some v)), cs, ss) (pc + 3) loc st) : gV l b0 D K (n, κ, X, Y, Z, cs, ss) pc loc (.ref (b0 + v) :: .ref (b0 + a) :: st) := g_putF hC hI (ci := 12) (k := 16) rfl iX12 tyX12_ok nmX12 (by decide) tw_1189 rfl rfl rfl (ty := tyX12 16) rfl rfl rfl (Nat.le_of_ble_eq_true rfl) rfl hk ha hxa hza hd kk
theorem pf_X12_58 (hC : gC l b0 D K RX12 cc ret nL fr lo mc ms) {x : Nat → Int32} {z : Nat → Option Nat} {v : Int32} (hk : κ a = (12 + 20, 0)) (ha : a < n) (hxa : X a = x) (hza : Z a = z) (hd : decode cc pc = .ok (.putfield 58, 3)) (kk : gV l b0 D K (n, κ, va_up X a (upd x 26 v), Y, Z, cs, ss) (pc + 3) loc st) : gV l b0 D K (n, κ, X, Y, Z, cs, ss) pc loc (.int v :: .ref (b0 + a) :: st) := g_putI hC (ci := 12) (k := 26) rfl iX12 tyX12_ok nmX12 (by decide) tw_1199 rfl rfl (ty := .int) rfl rfl rfl (Nat.le_of_ble_eq_true rfl) rfl hk ha hxa hza hd kk
theorem pf_X12_62 (hC : gC l b0 D K RX12 cc ret nL fr lo mc ms) (hI : gI K) {x : Nat → Int32} {z : Nat → Option Nat} {v : Nat} (hk : κ a = (12 + 20, 0)) (ha : a < n) (hxa : X a = x) (hza : Z a = z) (hd : decode cc pc = .ok (.putfield 62, 3)) (kk : gV l b0 D K (n, κ, X, Y, va_up Z a (va_up z 27 (some v)), cs, ss) (pc + 3) loc st) : gV l b0 D K (n, κ, X, Y, Z, cs, ss) pc loc (.ref (b0 + v) :: .ref (b0 + a) :: st) := g_putF hC hI (ci := 12) (k := 27) rfl iX12 tyX12_ok nmX12 (by decide) tw_1200 rfl rfl rfl (ty := tyX12 27) rfl rfl rfl (Nat.le_of_ble_eq_true rfl) rfl hk ha hxa hza hd kk
theorem pf_X12_66 (hC : gC l b0 D K RX12 cc ret nL fr lo mc ms) (hI : gI K) {x : Nat → Int32} {z : Nat → Option Nat} {v : Nat} (hk : κ a = (12 + 20, 0)) (ha : a < n) (hxa : X a = x) (hza : Z a = z) (hd : decode cc pc = .ok (.putfield 66, 3)) (kk : gV l b0 D K (n, κ, X, Y, va_up Z a (va_up z 28 (some v)), cs, ss) (pc + 3) loc st) : gV l b0 D K (n, κ, X, Y, Z, cs, ss) pc loc (.ref (b0 + v) :: .ref (b0 + a) :: st) := g_putF hC hI (ci := 12) (k := 28) rfl iX12 tyX12_ok nmX12 (by decide) tw_1201 rfl rfl rfl (ty := tyX12 28) rfl rfl rfl (Nat.le_of_ble_eq_true rfl) rfl hk ha hxa hza hd kk
theorem pf_X12_69 (hC : gC l b0 D K RX12 cc ret nL fr lo mc ms) (hI : gI K) {x : Nat → Int32} {z : Nat → Option Nat} {v : Nat} (hk : κ a = (12 + 20, 0)) (ha : a < n) (hxa : X a = x) (hza : Z a = z) (hd : decode cc pc = .ok (.putfield 69, 3)) (kk : gV l b0 D K (n, κ, X, Y, va_up Z a (va_up z 29 (some v)), cs, ss) (pc + 3) loc st) : gV l b0 D K (n, κ, X, Y, Z, cs, ss) pc loc (.ref (b0 + v) :: .ref (b0 + a) :: st) := g_putF hC hI (ci := 12) (k := 29) rfl iX12 tyX12_ok nmX12 (by decide) tw_1202 rfl rfl rfl (ty := tyX12 29) rfl rfl rfl (Nat.le_of_ble_eq_true rfl) rfl hk ha hxa hza hd kk
theorem pf_X12_72 (hC : gC l b0 D K RX12 cc ret nL fr lo mc ms) (hI : gI K) {x : Nat → Int32} {z : Nat → Option Nat} {v : Nat} (hk : κ a = (12 + 20, 0)) (ha : a < n) (hxa : X a = x) (hza : Z a = z) (hd : decode cc pc = .ok (.putfield 72, 3)) (kk : gV l b0 D K (n, κ, X, Y, va_up Z a (va_up z 30 (some v)), cs, ss) (pc + 3) loc st) : gV l b0 D K (n, κ, X, Y, Z, cs, ss) pc loc (.ref (b0 + v) :: .ref (b0 + a) :: st) := g_putF hC hI (ci := 12) (k := 30) rfl iX12 tyX12_ok nmX12 (by decide) tw_1203 rfl rfl rfl (ty := tyX12 30) rfl rfl rfl (Nat.le_of_ble_eq_true rfl) rfl hk ha hxa hza hd kk
theorem pf_X12_75 (hC : gC l b0 D K RX12 cc ret nL fr lo mc ms) (hI : gI K) {x : Nat → Int32} {z : Nat → Option Nat} {v : Nat} (hk : κ a = (12 + 20, 0)) (ha : a < n) (hxa : X a = x) (hza : Z a = z) (hd : decode cc pc = .ok (.putfield 75, 3)) (kk : gV l b0 D K (n, κ, X, Y, va_up Z a (va_up z 31 (some v)), cs, ss) (pc + 3) loc st) : gV l b0 D K (n, κ, X, Y, Z, cs, ss) pc loc (.ref (b0 + v) :: .ref (b0 + a) :: st) := g_putF hC hI (ci := 12) (k := 31) rfl iX12 tyX12_ok nmX12 (by decide) tw_1204 rfl rfl rfl (ty := tyX12 31) rfl rfl rfl (Nat.le_of_ble_eq_true rfl) rfl hk ha hxa hza hd kk
theorem pf_X12_78 (hC : gC l b0 D K RX12 cc ret nL fr lo mc ms) (hI : gI K) {x : Nat → Int32} {z : Nat → Option Nat} {v : Nat} (hk : κ a = (12 + 20, 0)) (ha : a < n) (hxa : X a = x) (hza : Z a = z) (hd : decode cc pc = .ok (.putfield 78, 3)) (kk : gV l b0 D K (n, κ, X, Y, va_up Z a (va_up z 32 (some v)), cs, ss) (pc + 3) loc st) : gV l b0 D K (n, κ, X, Y, Z, cs, ss) pc loc (.ref (b0 + v) :: .ref (b0 + a) :: st) := g_putF hC hI (ci := 12) (k := 32) rfl iX12 tyX12_ok nmX12 (by decide) tw_1205 rfl rfl rfl (ty := tyX12 32) rfl rfl rfl (Nat.le_of_ble_eq_true rfl) rfl hk ha hxa hza hd kk
theorem pf_X12_81 (hC : gC l b0 D K RX12 cc ret nL fr lo mc ms) (hI : gI K) {x : Nat → Int32} {z : Nat → Option Nat} {v : Nat} (hk : κ a = (12 + 20, 0)) (ha : a < n) (hxa : X a = x) (hza : Z a = z) (hd : decode cc pc = .ok (.putfield 81, 3)) (kk : gV l b0 D K (n, κ, X, Y, va_up Z a (va_up z 33 (some v)), cs, ss) (pc + 3) loc st) : gV l b0 D K (n, κ, X, Y, Z, cs, ss) pc loc (.ref (b0 + v) :: .ref (b0 + a) :: st) := g_putF hC hI (ci := 12) (k := 33) rfl iX12 tyX12_ok nmX12 (by decide) tw_1206 rfl rfl rfl (ty := tyX12 33) rfl rfl rfl (Nat.le_of_ble_eq_true rfl) rfl hk ha hxa hza hd kk
theorem pf_X12_84 (hC : gC l b0 D K RX12 cc ret nL fr lo mc ms) (hI : gI K) {x : Nat → Int32} {z : Nat → Option Nat} {v : Nat} (hk : κ a = (12 + 20, 0)) (ha : a < n) (hxa : X a = x) (hza : Z a = z) (hd : decode cc pc = .ok (.putfield 84, 3)) (kk : gV l b0 D K (n, κ, X, Y, va_up Z a (va_up z 34 (some v)), cs, ss) (pc + 3) loc st) : gV l b0 D K (n, κ, X, Y, Z, cs, ss) pc loc (.ref (b0 + v) :: .ref (b0 + a) :: st) := g_putF hC hI (ci := 12) (k := 34) rfl iX12 tyX12_ok nmX12 (by decide) tw_1207 rfl rfl rfl (ty := tyX12 34) rfl rfl rfl (Nat.le_of_ble_eq_true rfl) rfl hk ha hxa hza hd kk
theorem pf_X12_87 (hC : gC l b0 D K RX12 cc ret nL fr lo mc ms) (hI : gI K) {x : Nat → Int32} {z : Nat → Option Nat} {v : Nat} (hk : κ a = (12 + 20, 0)) (ha : a < n) (hxa : X a = x) (hza : Z a = z) (hd : decode cc pc = .ok (.putfield 87, 3)) (kk : gV l b0 D K (n, κ, X, Y, va_up Z a (va_up z 35 (some v)), cs, ss) (pc + 3) loc st) : gV l b0 D K (n, κ, X, Y, Z, cs, ss) pc loc (.ref (b0 + v) :: .ref (b0 + a) :: st) := g_putF hC hI (ci := 12) (k := 35) rfl iX12 tyX12_ok nmX12 (by decide) tw_1208 rfl rfl rfl (ty := tyX12 35) rfl rfl rfl (Nat.le_of_ble_eq_true rfl) rfl hk ha hxa hza hd kk
theorem pf_X12_91 (hC : gC l b0 D K RX12 cc ret nL fr lo mc ms) (hI : gI K) {x : Nat → Int32} {z : Nat → Option Nat} {v : Nat} (hk : κ a = (12 + 20, 0)) (ha : a < n) (hxa : X a = x) (hza : Z a = z) (hd : decode cc pc = .ok (.putfield 91, 3)) (kk : gV l b0 D K (n, κ, X, Y, va_up Z a (va_up z 36 (some v)), cs, ss) (pc + 3) loc st) : gV l b0 D K (n, κ, X, Y, Z, cs, ss) pc loc (.ref (b0 + v) :: .ref (b0 + a) :: st) := g_putF hC hI (ci := 12) (k := 36) rfl iX12 tyX12_ok nmX12 (by decide) tw_1209 rfl rfl rfl (ty := tyX12 36) rfl rfl rfl (Nat.le_of_ble_eq_true rfl) rfl hk ha hxa hza hd kk
theorem pf_X12_94 (hC : gC l b0 D K RX12 cc ret nL fr lo mc ms) {x : Nat → Int32} {z : Nat → Option Nat} {v : Int32} (hk : κ a = (12 + 20, 0)) (ha : a < n) (hxa : X a = x) (hza : Z a = z) (hd : decode cc pc = .ok (.putfield 94, 3)) (kk : gV l b0 D K (n, κ, va_up X a (upd x 37 v), Y, Z, cs, ss) (pc + 3) loc st) : gV l b0 D K (n, κ, X, Y, Z, cs, ss) pc loc (.int v :: .ref (b0 + a) :: st) := g_putI hC (ci := 12) (k := 37) rfl iX12 tyX12_ok nmX12 (by decide) tw_1210 rfl rfl (ty := .int) rfl rfl rfl (Nat.le_of_ble_eq_true rfl) rfl hk ha hxa hza hd kk
theorem pf_X12_97 (hC : gC l b0 D K RX12 cc ret nL fr lo mc ms) {x : Nat → Int32} {z : Nat → Option Nat} {v : Int32} (hk : κ a = (12 + 20, 0)) (ha : a < n) (hxa : X a = x) (hza : Z a = z) (hd : decode cc pc = .ok (.putfield 97, 3)) (kk : gV l b0 D K (n, κ, va_up X a (upd x 38 v), Y, Z, cs, ss) (pc + 3) loc st) : gV l b0 D K (n, κ, X, Y, Z, cs, ss) pc loc (.int v :: .ref (b0 + a) :: st) := g_putI hC (ci := 12) (k := 38) rfl iX12 tyX12_ok nmX12 (by decide) tw_1211 rfl rfl (ty := .int) rfl rfl rfl (Nat.le_of_ble_eq_true rfl) rfl hk ha hxa hza hd kk
theorem pf_X12_100 (hC : gC l b0 D K RX12 cc ret nL fr lo mc ms) (hI : gI K) {x : Nat → Int32} {z : Nat → Option Nat} {v : Nat} (hk : κ a = (12 + 20, 0)) (ha : a < n) (hxa : X a = x) (hza : Z a = z) (hd : decode cc pc = .ok (.putfield 100, 3)) (kk : gV l b0 D K (n, κ, X, Y, va_up Z a (va_up z 40 (some v)), cs, ss) (pc + 3) loc st) : gV l b0 D K (n, κ, X, Y, Z, cs, ss) pc loc (.ref (b0 + v) :: .ref (b0 + a) :: st) := g_putF hC hI (ci := 12) (k := 40) rfl iX12 tyX12_ok nmX12 (by decide) tw_1213 rfl rfl rfl (ty := tyX12 40) rfl rfl rfl (Nat.le_of_ble_eq_true rfl) rfl hk ha hxa hza hd kk
theorem pf_X12_103 (hC : gC l b0 D K RX12 cc ret nL fr lo mc ms) (hI : gI K) {x : Nat → Int32} {z : Nat → Option Nat} {v : Nat} (hk : κ a = (12 + 20, 0)) (ha : a < n) (hxa : X a = x) (hza : Z a = z) (hd : decode cc pc = .ok (.putfield 103, 3)) (kk : gV l b0 D K (n, κ, X, Y, va_up Z a (va_up z 41 (some v)), cs, ss) (pc + 3) loc st) : gV l b0 D K (n, κ, X, Y, Z, cs, ss) pc loc (.ref (b0 + v) :: .ref (b0 + a) :: st) := g_putF hC hI (ci := 12) (k := 41) rfl iX12 tyX12_ok nmX12 (by decide) tw_1214 rfl rfl rfl (ty := tyX12 41) rfl rfl rfl (Nat.le_of_ble_eq_true rfl) rfl hk ha hxa hza hd kk
theorem pf_X12_106 (hC : gC l b0 D K RX12 cc ret nL fr lo mc ms) (hI : gI K) {x : Nat → Int32} {z : Nat → Option Nat} {v : Nat} (hk : κ a = (12 + 20, 0)) (ha : a < n) (hxa : X a = x) (hza : Z a = z) (hd : decode cc pc = .ok (.putfield 106, 3)) (kk : gV l b0 D K (n, κ, X, Y, va_up Z a (va_up z 42 (some v)), cs, ss) (pc + 3) loc st) : gV l b0 D K (n, κ, X, Y, Z, cs, ss) pc loc (.ref (b0 + v) :: .ref (b0 + a) :: st) := g_putF hC hI (ci := 12) (k := 42) rfl iX12 tyX12_ok nmX12 (by decide) tw_1215 rfl rfl rfl (ty := tyX12 42) rfl rfl rfl (Nat.le_of_ble_eq_true rfl) rfl hk ha hxa hza hd kk
theorem pf_X12_109 (hC : gC l b0 D K RX12 cc ret nL fr lo mc ms) (hI : gI K) {x : Nat → Int32} {z : Nat → Option Nat} {v : Nat} (hk : κ a = (12 + 20, 0)) (ha : a < n) (hxa : X a = x) (hza : Z a = z) (hd : decode cc pc = .ok (.putfield 109, 3)) (kk : gV l b0 D K (n, κ, X, Y, va_up Z a (va_up z 46 (some v)), cs, ss) (pc + 3) loc st) : gV l b0 D K (n, κ, X, Y, Z, cs, ss) pc loc (.ref (b0 + v) :: .ref (b0 + a) :: st) := g_putF hC hI (ci := 12) (k := 46) rfl iX12 tyX12_ok nmX12 (by decide) tw_1219 rfl rfl rfl (ty := tyX12 46) rfl rfl rfl (Nat.le_of_ble_eq_true rfl) rfl hk ha hxa hza hd kk
theorem pf_X12_112 (hC : gC l b0 D K RX12 cc ret nL fr lo mc ms) (hI : gI K) {x : Nat → Int32} {z : Nat → Option Nat} {v : Nat} (hk : κ a = (12 + 20, 0)) (ha : a < n) (hxa : X a = x) (hza : Z a = z) (hd : decode cc pc = .ok (.putfield 112, 3)) (kk : gV l b0 D K (n, κ, X, Y, va_up Z a (va_up z 47 (some v)), cs, ss) (pc + 3) loc st) : gV l b0 D K (n, κ, X, Y, Z, cs, ss) pc loc (.ref (b0 + v) :: .ref (b0 + a) :: st) := g_putF hC hI (ci := 12) (k := 47) rfl iX12 tyX12_ok nmX12 (by decide) tw_1220 rfl rfl rfl (ty := tyX12 47) rfl rfl rfl (Nat.le_of_ble_eq_true rfl) rfl hk ha hxa hza hd kk
theorem pf_X12_115 (hC : gC l b0 D K RX12 cc ret nL fr lo mc ms) (hI : gI K) {x : Nat → Int32} {z : Nat → Option Nat} {v : Nat} (hk : κ a = (12 + 20, 0)) (ha : a < n) (hxa : X a = x) (hza : Z a = z) (hd : decode cc pc = .ok (.putfield 115, 3)) (kk : gV l b0 D K (n, κ, X, Y, va_up Z a (va_up z 48 (some v)), cs, ss) (pc + 3) loc st) : gV l b0 D K (n, κ, X, Y, Z, cs, ss) pc loc (.ref (b0 + v) :: .ref (b0 + a) :: st) := g_putF hC hI (ci := 12) (k := 48) rfl iX12 tyX12_ok nmX12 (by decide) tw_1221 rfl rfl rfl (ty := tyX12 48) rfl rfl rfl (Nat.le_of_ble_eq_true rfl) rfl hk ha hxa hza hd kk
theorem pf_X12_118 (hC : gC l b0 D K RX12 cc ret nL fr lo mc ms) (hI : gI K) {x : Nat → Int32} {z : Nat → Option Nat} {v : Nat} (hk : κ a = (12 + 20, 0)) (ha : a < n) (hxa : X a = x) (hza : Z a = z) (hd : decode cc pc = .ok (.putfield 118, 3)) (kk : gV l b0 D K (n, κ, X, Y, va_up Z a (va_up z 49 (some v)), cs, ss) (pc + 3) loc st) : gV l b0 D K (n, κ, X, Y, Z, cs, ss) pc loc (.ref (b0 + v) :: .ref (b0 + a) :: st) := g_putF hC hI (ci := 12) (k := 49) rfl iX12 tyX12_ok nmX12 (by decide) tw_1222 rfl rfl rfl (ty := tyX12 49) rfl rfl rfl (Nat.le_of_ble_eq_true rfl) rfl hk ha hxa hza hd kk
theorem pf_X12_121 (hC : gC l b0 D K RX12 cc ret nL fr lo mc ms) (hI : gI K) {x : Nat → Int32} {z : Nat → Option Nat} {v : Nat} (hk : κ a = (12 + 20, 0)) (ha : a < n) (hxa : X a = x) (hza : Z a = z) (hd : decode cc pc = .ok (.putfield 121, 3)) (kk : gV l b0 D K (n, κ, X, Y, va_up Z a (va_up z 50 (some v)), cs, ss) (pc + 3) loc st) : gV l b0 D K (n, κ, X, Y, Z, cs, ss) pc loc (.ref (b0 + v) :: .ref (b0 + a) :: st) := g_putF hC hI (ci := 12) (k := 50) rfl iX12 tyX12_ok nmX12 (by decide) tw_1223 rfl rfl rfl (ty := tyX12 50) rfl rfl rfl (Nat.le_of_ble_eq_true rfl) rfl hk ha hxa hza hd kk
theorem pf_X12_124 (hC : gC l b0 D K RX12 cc ret nL fr lo mc ms) (hI : gI K) {x : Nat → Int32} {z : Nat → Option Nat} {v : Nat} (hk : κ a = (12 + 20, 0)) (ha : a < n) (hxa : X a = x) (hza : Z a = z) (hd : decode cc pc = .ok (.putfield 124, 3)) (kk : gV l b0 D K (n, κ, X, Y, va_up Z a (va_up z 51 (some v)), cs, ss) (pc + 3) loc st) : gV l b0 D K (n, κ, X, Y, Z, cs, ss) pc loc (.ref (b0 + v) :: .ref (b0 + a) :: st) := g_putF hC hI (ci := 12) (k := 51) rfl iX12 tyX12_ok nmX12 (by decide) tw_1224 rfl rfl rfl (ty := tyX12 51) rfl rfl rfl (Nat.le_of_ble_eq_true rfl) rfl hk ha hxa hza hd kk
theorem pf_X12_127 (hC : gC l b0 D K RX12 cc ret nL fr lo mc ms) (hI : gI K) {x : Nat → Int32} {z : Nat → Option Nat} {v : Nat} (hk : κ a = (12 + 20, 0)) (ha : a < n) (hxa : X a = x) (hza : Z a = z) (hd : decode cc pc = .ok (.putfield 127, 3)) (kk : gV l b0 D K (n, κ, X, Y, va_up Z a (va_up z 52 (some v)), cs, ss) (pc + 3) loc st) : gV l b0 D K (n, κ, X, Y, Z, cs, ss) pc loc (.ref (b0 + v) :: .ref (b0 + a) :: st) := g_putF hC hI (ci := 12) (k := 52) rfl iX12 tyX12_ok nmX12 (by decide) tw_1225 rfl rfl rfl (ty := tyX12 52) rfl rfl rfl (Nat.le_of_ble_eq_true rfl) rfl hk ha hxa hza hd kk
theorem pf_X12_130 (hC : gC l b0 D K RX12 cc ret nL fr lo mc ms) (hI : gI K) {x : Nat → Int32} {z : Nat → Option Nat} {v : Nat} (hk : κ a = (12 + 20, 0)) (ha : a < n) (hxa : X a = x) (hza : Z a = z) (hd : decode cc pc = .ok (.putfield 130, 3)) (kk : gV l b0 D K (n, κ, X, Y, va_up Z a (va_up z 53 (some v)), cs, ss) (pc + 3) loc st) : gV l b0 D K (n, κ, X, Y, Z, cs, ss) pc loc (.ref (b0 + v) :: .ref (b0 + a) :: st) := g_putF hC hI (ci := 12) (k := 53) rfl iX12 tyX12_ok nmX12 (by decide) tw_1226 rfl rfl rfl (ty := tyX12 53) rfl rfl rfl (Nat.le_of_ble_eq_true rfl) rfl hk ha hxa hza hd kk
theorem pf_X12_133 (hC : gC l b0 D K RX12 cc ret nL fr lo mc ms) (hI : gI K) {x : Nat → Int32} {z : Nat → Option Nat} {v : Nat} (hk : κ a = (12 + 20, 0)) (ha : a < n) (hxa : X a = x) (hza : Z a = z) (hd : decode cc pc = .ok (.putfield 133, 3)) (kk : gV l b0 D K (n, κ, X, Y, va_up Z a (va_up z 54 (some v)), cs, ss) (pc + 3) loc st) : gV l b0 D K (n, κ, X, Y, Z, cs, ss) pc loc (.ref (b0 + v) :: .ref (b0 + a) :: st) := g_putF hC hI (ci := 12) (k := 54) rfl iX12 tyX12_ok nmX12 (by decide) tw_1227 rfl rfl rfl (ty := tyX12 54) rfl rfl rfl (Nat.le_of_ble_eq_true rfl) rfl hk ha hxa hza hd kk
theorem pf_X12_136 (hC : gC l b0 D K RX12 cc ret nL fr lo mc ms) (hI : gI K) {x : Nat → Int32} {z : Nat → Option Nat} {v : Nat} (hk : κ a = (12 + 20, 0)) (ha : a < n) (hxa : X a = x) (hza : Z a = z) (hd : decode cc pc = .ok (.putfield 136, 3)) (kk : gV l b0 D K (n, κ, X, Y, va_up Z a (va_up z 55 (some v)), cs, ss) (pc + 3) loc st) : gV l b0 D K (n, κ, X, Y, Z, cs, ss) pc loc (.ref (b0 + v) :: .ref (b0 + a) :: st) := g_putF hC hI (ci := 12) (k := 55) rfl iX12 tyX12_ok nmX12 (by decide) tw_1228 rfl rfl rfl (ty := tyX12 55) rfl rfl rfl (Nat.le_of_ble_eq_true rfl) rfl hk ha hxa hza hd kk
theorem hx_anew17 (hC : gC l b0 D K own cc ret nL fr lo mc ms) {o : Nat} {L : List (Nat × Nat)} {M : List (Nat → Int32)} {idx len : Nat} {v : Int32} (hn : n = o + L.length) (hM : L.length = M.length) (hw : Cond.classLink own idx RX4 ∈ gtbl) (hv : ¬ v < 0) (hL0 : v.toNatClampNeg = len) (hby : len * 4 ≤ 536870912) (hrm : cs + 1 ≤ mc ∧ ss + len ≤ ms) (hd : decode cc pc = .ok (.anewarray idx, 3)) (kk : gV l b0 D K (n + 1, blk κ o (L ++ [(17, len)]), blx X o (M ++ [fun _ => 0]), Y, va_up Z n (fun _ => none), cs + 1, ss + len) (pc + 3) loc (.ref (b0 + n) :: st)) : gV l b0 D K (n, blk κ o L, blx X o M, Y, Z, cs, ss) pc loc (.int v :: st) := by
  subst hn
  refine g_anew17 hC hw hv hL0 hby hrm hd ?_
  rw [blk_push]
  refine g_conv (fun i hi => ?_) kk
  by_cases h : i = o + L.length
  · subst h
    rw [blk_at (k := (17, len)) L.length rfl (by simp), gCell_r17, gCell_r17]
  · rw [← blx_push, ← hM, up_ne h]
theorem hx_anew18 (hC : gC l b0 D K own cc ret nL fr lo mc ms) {o : Nat} {L : List (Nat × Nat)} {M : List (Nat → Int32)} {idx len : Nat} {v : Int32} (hn : n = o + L.length) (hM : L.length = M.length) (hw : Cond.classLink own idx RX6 ∈ gtbl) (hv : ¬ v < 0) (hL0 : v.toNatClampNeg = len) (hby : len * 4 ≤ 536870912) (hrm : cs + 1 ≤ mc ∧ ss + len ≤ ms) (hd : decode cc pc = .ok (.anewarray idx, 3)) (kk : gV l b0 D K (n + 1, blk κ o (L ++ [(18, len)]), blx X o (M ++ [fun _ => 0]), Y, va_up Z n (fun _ => none), cs + 1, ss + len) (pc + 3) loc (.ref (b0 + n) :: st)) : gV l b0 D K (n, blk κ o L, blx X o M, Y, Z, cs, ss) pc loc (.int v :: st) := by
  subst hn
  refine g_anew18 hC hw hv hL0 hby hrm hd ?_
  rw [blk_push]
  refine g_conv (fun i hi => ?_) kk
  by_cases h : i = o + L.length
  · subst h
    rw [blk_at (k := (18, len)) L.length rfl (by simp), gCell_r18, gCell_r18]
  · rw [← blx_push, ← hM, up_ne h]
theorem hx_anew19 (hC : gC l b0 D K own cc ret nL fr lo mc ms) {o : Nat} {L : List (Nat × Nat)} {M : List (Nat → Int32)} {idx len : Nat} {v : Int32} (hn : n = o + L.length) (hM : L.length = M.length) (hw : Cond.classLink own idx RX7 ∈ gtbl) (hv : ¬ v < 0) (hL0 : v.toNatClampNeg = len) (hby : len * 4 ≤ 536870912) (hrm : cs + 1 ≤ mc ∧ ss + len ≤ ms) (hd : decode cc pc = .ok (.anewarray idx, 3)) (kk : gV l b0 D K (n + 1, blk κ o (L ++ [(19, len)]), blx X o (M ++ [fun _ => 0]), Y, va_up Z n (fun _ => none), cs + 1, ss + len) (pc + 3) loc (.ref (b0 + n) :: st)) : gV l b0 D K (n, blk κ o L, blx X o M, Y, Z, cs, ss) pc loc (.int v :: st) := by
  subst hn
  refine g_anew19 hC hw hv hL0 hby hrm hd ?_
  rw [blk_push]
  refine g_conv (fun i hi => ?_) kk
  by_cases h : i = o + L.length
  · subst h
    rw [blk_at (k := (19, len)) L.length rfl (by simp), gCell_r19, gCell_r19]
  · rw [← blx_push, ← hM, up_ne h]
theorem hx_newo0 (hC : gC l b0 D K own cc ret nL fr lo mc ms) {o : Nat} {L : List (Nat × Nat)} {M : List (Nat → Int32)} {idx : Nat} (hn : n = o + L.length) (hM : L.length = M.length) (hw : Cond.classLink own idx RX0 ∈ gtbl) (hrm : cs + 1 ≤ mc ∧ ss + 5 ≤ ms) (hd : decode cc pc = .ok (.new idx, 3)) (kk : gV l b0 D K (n + 1, blk κ o (L ++ [(0 + 20, 0)]), blx X o (M ++ [fun _ => 0]), Y, va_up Z n (fun _ => none), cs + 1, ss + 5) (pc + 3) loc (.ref (b0 + n) :: st)) : gV l b0 D K (n, blk κ o L, blx X o M, Y, Z, cs, ss) pc loc st := by
  subst hn
  refine g_newo0 hC hw hrm hd ?_
  rw [blk_push, hM, blx_push, ← hM]
  exact kk
theorem hx_newo1 (hC : gC l b0 D K own cc ret nL fr lo mc ms) {o : Nat} {L : List (Nat × Nat)} {M : List (Nat → Int32)} {idx : Nat} (hn : n = o + L.length) (hM : L.length = M.length) (hw : Cond.classLink own idx RX1 ∈ gtbl) (hrm : cs + 1 ≤ mc ∧ ss + 3 ≤ ms) (hd : decode cc pc = .ok (.new idx, 3)) (kk : gV l b0 D K (n + 1, blk κ o (L ++ [(1 + 20, 0)]), blx X o (M ++ [fun _ => 0]), Y, va_up Z n (fun _ => none), cs + 1, ss + 3) (pc + 3) loc (.ref (b0 + n) :: st)) : gV l b0 D K (n, blk κ o L, blx X o M, Y, Z, cs, ss) pc loc st := by
  subst hn
  refine g_newo1 hC hw hrm hd ?_
  rw [blk_push, hM, blx_push, ← hM]
  exact kk
theorem hx_newo2 (hC : gC l b0 D K own cc ret nL fr lo mc ms) {o : Nat} {L : List (Nat × Nat)} {M : List (Nat → Int32)} {idx : Nat} (hn : n = o + L.length) (hM : L.length = M.length) (hw : Cond.classLink own idx RX2 ∈ gtbl) (hrm : cs + 1 ≤ mc ∧ ss + 7 ≤ ms) (hd : decode cc pc = .ok (.new idx, 3)) (kk : gV l b0 D K (n + 1, blk κ o (L ++ [(2 + 20, 0)]), blx X o (M ++ [fun _ => 0]), Y, va_up Z n (fun _ => none), cs + 1, ss + 7) (pc + 3) loc (.ref (b0 + n) :: st)) : gV l b0 D K (n, blk κ o L, blx X o M, Y, Z, cs, ss) pc loc st := by
  subst hn
  refine g_newo2 hC hw hrm hd ?_
  rw [blk_push, hM, blx_push, ← hM]
  exact kk
theorem hx_newo3 (hC : gC l b0 D K own cc ret nL fr lo mc ms) {o : Nat} {L : List (Nat × Nat)} {M : List (Nat → Int32)} {idx : Nat} (hn : n = o + L.length) (hM : L.length = M.length) (hw : Cond.classLink own idx RX3 ∈ gtbl) (hrm : cs + 1 ≤ mc ∧ ss + 5 ≤ ms) (hd : decode cc pc = .ok (.new idx, 3)) (kk : gV l b0 D K (n + 1, blk κ o (L ++ [(3 + 20, 0)]), blx X o (M ++ [fun _ => 0]), Y, va_up Z n (fun _ => none), cs + 1, ss + 5) (pc + 3) loc (.ref (b0 + n) :: st)) : gV l b0 D K (n, blk κ o L, blx X o M, Y, Z, cs, ss) pc loc st := by
  subst hn
  refine g_newo3 hC hw hrm hd ?_
  rw [blk_push, hM, blx_push, ← hM]
  exact kk
theorem hx_newo5 (hC : gC l b0 D K own cc ret nL fr lo mc ms) {o : Nat} {L : List (Nat × Nat)} {M : List (Nat → Int32)} {idx : Nat} (hn : n = o + L.length) (hM : L.length = M.length) (hw : Cond.classLink own idx RX5 ∈ gtbl) (hrm : cs + 1 ≤ mc ∧ ss + 4 ≤ ms) (hd : decode cc pc = .ok (.new idx, 3)) (kk : gV l b0 D K (n + 1, blk κ o (L ++ [(5 + 20, 0)]), blx X o (M ++ [fun _ => 0]), Y, va_up Z n (fun _ => none), cs + 1, ss + 4) (pc + 3) loc (.ref (b0 + n) :: st)) : gV l b0 D K (n, blk κ o L, blx X o M, Y, Z, cs, ss) pc loc st := by
  subst hn
  refine g_newo5 hC hw hrm hd ?_
  rw [blk_push, hM, blx_push, ← hM]
  exact kk
theorem hx_newo6 (hC : gC l b0 D K own cc ret nL fr lo mc ms) {o : Nat} {L : List (Nat × Nat)} {M : List (Nat → Int32)} {idx : Nat} (hn : n = o + L.length) (hM : L.length = M.length) (hw : Cond.classLink own idx RX6 ∈ gtbl) (hrm : cs + 1 ≤ mc ∧ ss + 10 ≤ ms) (hd : decode cc pc = .ok (.new idx, 3)) (kk : gV l b0 D K (n + 1, blk κ o (L ++ [(6 + 20, 0)]), blx X o (M ++ [fun _ => 0]), Y, va_up Z n (fun _ => none), cs + 1, ss + 10) (pc + 3) loc (.ref (b0 + n) :: st)) : gV l b0 D K (n, blk κ o L, blx X o M, Y, Z, cs, ss) pc loc st := by
  subst hn
  refine g_newo6 hC hw hrm hd ?_
  rw [blk_push, hM, blx_push, ← hM]
  exact kk
theorem hx_newo7 (hC : gC l b0 D K own cc ret nL fr lo mc ms) {o : Nat} {L : List (Nat × Nat)} {M : List (Nat → Int32)} {idx : Nat} (hn : n = o + L.length) (hM : L.length = M.length) (hw : Cond.classLink own idx RX7 ∈ gtbl) (hrm : cs + 1 ≤ mc ∧ ss + 6 ≤ ms) (hd : decode cc pc = .ok (.new idx, 3)) (kk : gV l b0 D K (n + 1, blk κ o (L ++ [(7 + 20, 0)]), blx X o (M ++ [fun _ => 0]), Y, va_up Z n (fun _ => none), cs + 1, ss + 6) (pc + 3) loc (.ref (b0 + n) :: st)) : gV l b0 D K (n, blk κ o L, blx X o M, Y, Z, cs, ss) pc loc st := by
  subst hn
  refine g_newo7 hC hw hrm hd ?_
  rw [blk_push, hM, blx_push, ← hM]
  exact kk
theorem hx_newo8 (hC : gC l b0 D K own cc ret nL fr lo mc ms) {o : Nat} {L : List (Nat × Nat)} {M : List (Nat → Int32)} {idx : Nat} (hn : n = o + L.length) (hM : L.length = M.length) (hw : Cond.classLink own idx RX8 ∈ gtbl) (hrm : cs + 1 ≤ mc ∧ ss + 8 ≤ ms) (hd : decode cc pc = .ok (.new idx, 3)) (kk : gV l b0 D K (n + 1, blk κ o (L ++ [(8 + 20, 0)]), blx X o (M ++ [fun _ => 0]), Y, va_up Z n (fun _ => none), cs + 1, ss + 8) (pc + 3) loc (.ref (b0 + n) :: st)) : gV l b0 D K (n, blk κ o L, blx X o M, Y, Z, cs, ss) pc loc st := by
  subst hn
  refine g_newo8 hC hw hrm hd ?_
  rw [blk_push, hM, blx_push, ← hM]
  exact kk
theorem hx_newo10 (hC : gC l b0 D K own cc ret nL fr lo mc ms) {o : Nat} {L : List (Nat × Nat)} {M : List (Nat → Int32)} {idx : Nat} (hn : n = o + L.length) (hM : L.length = M.length) (hw : Cond.classLink own idx RX10 ∈ gtbl) (hrm : cs + 1 ≤ mc ∧ ss + 2 ≤ ms) (hd : decode cc pc = .ok (.new idx, 3)) (kk : gV l b0 D K (n + 1, blk κ o (L ++ [(10 + 20, 0)]), blx X o (M ++ [fun _ => 0]), Y, va_up Z n (fun _ => none), cs + 1, ss + 2) (pc + 3) loc (.ref (b0 + n) :: st)) : gV l b0 D K (n, blk κ o L, blx X o M, Y, Z, cs, ss) pc loc st := by
  subst hn
  refine g_newo10 hC hw hrm hd ?_
  rw [blk_push, hM, blx_push, ← hM]
  exact kk
end CT
set_option maxHeartbeats 4000000 in
set_option maxRecDepth 100000 in
theorem c_X7_init (l : Launch) {b0 : Nat} {D : GD} {n o : Nat} {κ : QT} {X : XT} {Y : YT} {Z Z2 : ZT} (hn : n = o + 1) (hk : κ o = (7 + 20, 0)) (hx : X o = fun _ => 0) (hz : Z o = fun _ => none) (hZ2 : ∀ i, i ≠ o → Z2 i = Z i) : gMv l yX7_init cX7_init 1 none 1 14 3 48 b0 D [.ref (b0 + o)] (n, κ, X, Y, Z) (o + 4, blk κ o [(7, 0), (14, 6), (14, 6), (14, 36)], blz X o 4, Y, Z2) := by
  subst hn
  refine g_metc (own := RX7) (by decide) rfl rfl (Nat.le_of_ble_eq_true rfl) ?_
  intro K hC hI hret
  refine g_eqs (blk_self hk) (blz_self hx) ?_
  show gV l b0 D K (o + 1, blk κ o [(7 + 20, 0)], blz X o 1, Y, Z, 0, 0) 0 [(0, .ref (b0 + o))] []
  refine g_aload_n hC 0 dX7_init_0 rfl rfl ?_
  refine g_objInit hC tw_197 (by decide) (Nat.le_of_ble_eq_true rfl) dX7_init_1 ?_
  refine g_aload_n hC 0 dX7_init_4 rfl rfl ?_
  refine g_bipush hC (v := 6) dX7_init_5 bp_6 ?_
  refine h_new_int hC (L := [(7 + 20, 0)]) (len := 6) rfl (by decide) (by decide) (by decide) (by omega) dX7_init_7 ?_
  show gV l b0 D K (o + 2, blk κ o [(7 + 20, 0), (14, 6)], blz X o 2, Y, Z, 1, 6) 9 [(0, .ref (b0 + o))] [.ref (b0 + (o + 1)), .ref (b0 + o)]
  refine pf_X7_9 hC hI (z := (fun _ => none)) (blk_at 0 rfl rfl) (by omega) (blz_at 0 rfl (by decide)) hz dX7_init_9 ?_
  refine g_aload_n hC 0 dX7_init_12 rfl rfl ?_
  refine g_bipush hC (v := 6) dX7_init_13 bp_6 ?_
  refine h_new_int hC (L := [(7 + 20, 0), (14, 6)]) (len := 6) rfl (by decide) (by decide) (by decide) (by omega) dX7_init_15 ?_
  show gV l b0 D K (o + 3, blk κ o [(7 + 20, 0), (14, 6), (14, 6)], blz X o 3, Y, (va_up Z o (va_up (fun _ => none) 3 (some (o + 1)))), 2, 12) 17 [(0, .ref (b0 + o))] [.ref (b0 + (o + 2)), .ref (b0 + o)]
  refine pf_X7_15 hC hI (z := (va_up (fun _ => none) 3 (some (o + 1)))) (blk_at 0 rfl rfl) (by omega) (blz_at 0 rfl (by decide)) up_eq dX7_init_17 ?_
  refine g_eqZ up_up ?_
  refine g_aload_n hC 0 dX7_init_20 rfl rfl ?_
  refine g_bipush hC (v := 36) dX7_init_21 bp_36 ?_
  refine h_new_int hC (L := [(7 + 20, 0), (14, 6), (14, 6)]) (len := 36) rfl (by decide) (by decide) (by decide) (by omega) dX7_init_23 ?_
  show gV l b0 D K (o + 4, blk κ o [(7 + 20, 0), (14, 6), (14, 6), (14, 36)], blz X o 4, Y, (va_up Z o (va_up (va_up (fun _ => none) 3 (some (o + 1))) 4 (some (o + 2)))), 3, 48) 25 [(0, .ref (b0 + o))] [.ref (b0 + (o + 3)), .ref (b0 + o)]
  refine pf_X7_18 hC hI (z := (va_up (va_up (fun _ => none) 3 (some (o + 1))) 4 (some (o + 2)))) (blk_at 0 rfl rfl) (by omega) (blz_at 0 rfl (by decide)) up_eq dX7_init_25 ?_
  refine g_eqZ up_up ?_
  refine g_conv (κ' := blk κ o [(7, 0), (14, 6), (14, 6), (14, 36)]) (X' := blz X o 4) (Y' := Y) (Z' := Z2) (fun i hi => ?_) (hret _ _ dX7_init_28)
  by_cases h : i = o
  · subst h
    have e1 : blk κ i [(7, 0), (14, 6), (14, 6), (14, 36)] i = (7, 0) := blk_at 0 rfl rfl
    have e2 : blk κ i [(7 + 20, 0), (14, 6), (14, 6), (14, 36)] i = (7 + 20, 0) := blk_at 0 rfl rfl
    have e3 : (va_up Z i (va_up (va_up (va_up (fun _ => none) 3 (some (i + 1))) 4 (some (i + 2))) 5 (some (i + 3)))) i = (va_up (va_up (va_up (fun _ => none) 3 (some (i + 1))) 4 (some (i + 2))) 5 (some (i + 3))) := up_eq
    have e4 : blz X i 4 i = fun _ => 0 := blz_at 0 rfl (by decide)
    rw [e1, e2, gCell_o (by decide), gCell_w, e3, e4]
    rfl
  · rw [hZ2 i h, blk_ne0 (k := (7, 0)) (k' := (7 + 20, 0)) h]
    congr 1
    simp [va_up, h]
set_option maxHeartbeats 4000000 in
set_option maxRecDepth 100000 in
theorem c_X9_init (l : Launch) {b0 : Nat} {D : GD} {n o : Nat} {κ : QT} {X : XT} {Y : YT} {Z Z2 : ZT} (hn : n = o + 1) (hk : κ o = (9 + 20, 0)) (hx : X o = fun _ => 0) (hz : Z o = fun _ => none) (hZ2 : ∀ i, i ≠ o → Z2 i = Z i) : gMv l yX9_init cX9_init 1 none 2 34 5 66 b0 D [.ref (b0 + o)] (n, κ, X, Y, Z) (o + 6, blk κ o [(9, 0), (14, 12), (7, 0), (14, 6), (14, 6), (14, 36)], blz X o 6, Y, Z2) := by
  subst hn
  refine g_metc (own := RX9) (by decide) rfl rfl (Nat.le_of_ble_eq_true rfl) ?_
  intro K hC hI hret
  refine g_eqs (blk_self hk) (blz_self hx) ?_
  show gV l b0 D K (o + 1, blk κ o [(9 + 20, 0)], blz X o 1, Y, Z, 0, 0) 0 [(0, .ref (b0 + o))] []
  refine g_aload_n hC 0 dX9_init_0 rfl rfl ?_
  refine g_objInit hC tw_191 (by decide) (Nat.le_of_ble_eq_true rfl) dX9_init_1 ?_
  refine g_aload_n hC 0 dX9_init_4 rfl rfl ?_
  refine g_bipush hC (v := 12) dX9_init_5 bp_12 ?_
  refine h_new_int hC (L := [(9 + 20, 0)]) (len := 12) rfl (by decide) (by decide) (by decide) (by omega) dX9_init_7 ?_
  show gV l b0 D K (o + 2, blk κ o [(9 + 20, 0), (14, 12)], blz X o 2, Y, Z, 1, 12) 9 [(0, .ref (b0 + o))] [.ref (b0 + (o + 1)), .ref (b0 + o)]
  refine pf_X9_9 hC hI (z := (fun _ => none)) (blk_at 0 rfl rfl) (by omega) (blz_at 0 rfl (by decide)) hz dX9_init_9 ?_
  refine g_aload_n hC 0 dX9_init_12 rfl rfl ?_
  refine h_newo7 hC (L := [(9 + 20, 0), (14, 12)]) rfl tw_192 (by omega) dX9_init_13 ?_
  show gV l b0 D K (o + 3, blk κ o [(9 + 20, 0), (14, 12), (7 + 20, 0)], blz X o 3, Y, (va_up (va_up Z o (va_up (fun _ => none) 2 (some (o + 1)))) (o + 2) (fun _ => none)), 2, 18) 16 [(0, .ref (b0 + o))] [.ref (b0 + (o + 2)), .ref (b0 + o)]
  refine g_dup hC dX9_init_16 rfl ?_
  refine g_callIN_v hC (a := o + 2) (As := []) (gMv_eqs (c_X7_init l (o := o + 2) (Z2 := (va_up Z o (va_up (fun _ => none) 2 (some (o + 1))))) rfl (blk_at 2 rfl rfl) (blz_at 2 rfl (by simp)) up_eq (fun i hi => (up_ne hi).symm)) (n2 := o + 6) rfl (blk_blk (L := [(9 + 20, 0), (14, 12)]) (by decide)) blz_blz) tw_196 (List.mem_of_getElem? (i := 2) rfl) tw_120 tw_195 rfl pd_X7_init (by decide) (by omega) rfl rfl (Nat.le_of_ble_eq_true rfl) rfl dX9_init_17 ?_
  show gV l b0 D K (o + 6, blk κ o [(9 + 20, 0), (14, 12), (7, 0), (14, 6), (14, 6), (14, 36)], blz X o 6, Y, (va_up Z o (va_up (fun _ => none) 2 (some (o + 1)))), 5, 66) 20 [(0, .ref (b0 + o))] [.ref (b0 + (o + 2)), .ref (b0 + o)]
  refine pf_X9_18 hC hI (z := (va_up (fun _ => none) 2 (some (o + 1)))) (blk_at 0 rfl rfl) (by omega) (blz_at 0 rfl (by decide)) up_eq dX9_init_20 ?_
  refine g_eqZ up_up ?_
  refine g_conv (κ' := blk κ o [(9, 0), (14, 12), (7, 0), (14, 6), (14, 6), (14, 36)]) (X' := blz X o 6) (Y' := Y) (Z' := Z2) (fun i hi => ?_) (hret _ _ dX9_init_23)
  by_cases h : i = o
  · subst h
    have e1 : blk κ i [(9, 0), (14, 12), (7, 0), (14, 6), (14, 6), (14, 36)] i = (9, 0) := blk_at 0 rfl rfl
    have e2 : blk κ i [(9 + 20, 0), (14, 12), (7, 0), (14, 6), (14, 6), (14, 36)] i = (9 + 20, 0) := blk_at 0 rfl rfl
    have e3 : (va_up Z i (va_up (va_up (fun _ => none) 2 (some (i + 1))) 5 (some (i + 2)))) i = (va_up (va_up (fun _ => none) 2 (some (i + 1))) 5 (some (i + 2))) := up_eq
    have e4 : blz X i 6 i = fun _ => 0 := blz_at 0 rfl (by decide)
    rw [e1, e2, gCell_o (by decide), gCell_w, e3, e4]
    rfl
  · rw [hZ2 i h, blk_ne0 (k := (9, 0)) (k' := (9 + 20, 0)) h]
    congr 1
    simp [va_up, h]
set_option maxHeartbeats 4000000 in
set_option maxRecDepth 100000 in
theorem c_X6_init (l : Launch) {b0 : Nat} {D : GD} {n o : Nat} {κ : QT} {X : XT} {Y : YT} {Z Z2 : ZT} (hn : n = o + 1) (hk : κ o = (6 + 20, 0)) (hx : X o = fun _ => 0) (hz : Z o = fun _ => none) (hZ2 : ∀ i, i ≠ o → Z2 i = (va_up Z (o + 11) (fun _ => none)) i) : gMv l yX6_init cX6_init 1 none 3 54 14 176 b0 D [.ref (b0 + o)] (n, κ, X, Y, Z) (o + 15, blk κ o [(6, 0), (9, 0), (14, 12), (7, 0), (14, 6), (14, 6), (14, 36), (7, 0), (14, 6), (14, 6), (14, 36), (19, 20), (14, 10), (14, 10), (14, 10)], (va_up (blz X o 15) o (upd (fun _ => 0) 8 (-1))), Y, Z2) := by
  subst hn
  refine g_metc (own := RX6) (by decide) rfl rfl (Nat.le_of_ble_eq_true rfl) ?_
  intro K hC hI hret
  refine g_eqs (blk_self hk) (blz_self hx) ?_
  show gV l b0 D K (o + 1, blk κ o [(6 + 20, 0)], blz X o 1, Y, Z, 0, 0) 0 [(0, .ref (b0 + o))] []
  refine g_aload_n hC 0 dX6_init_0 rfl rfl ?_
  refine g_objInit hC tw_308 (by decide) (Nat.le_of_ble_eq_true rfl) dX6_init_1 ?_
  refine g_aload_n hC 0 dX6_init_4 rfl rfl ?_
  refine h_newo9 hC (L := [(6 + 20, 0)]) rfl tw_309 (by omega) dX6_init_5 ?_
  show gV l b0 D K (o + 2, blk κ o [(6 + 20, 0), (9 + 20, 0)], blz X o 2, Y, (va_up Z (o + 1) (fun _ => none)), 1, 6) 8 [(0, .ref (b0 + o))] [.ref (b0 + (o + 1)), .ref (b0 + o)]
  refine g_dup hC dX6_init_8 rfl ?_
  refine g_callIN_v hC (a := o + 1) (As := []) (gMv_eqs (c_X9_init l (o := o + 1) (Z2 := Z) rfl (blk_at 1 rfl rfl) (blz_at 1 rfl (by simp)) up_eq (fun i hi => (up_ne hi).symm)) (n2 := o + 7) rfl (blk_blk (L := [(6 + 20, 0)]) (by decide)) blz_blz) tw_190 (List.mem_of_getElem? (i := 4) rfl) tw_119 tw_189 rfl pd_X9_init (by decide) (by omega) rfl rfl (Nat.le_of_ble_eq_true rfl) rfl dX6_init_9 ?_
  show gV l b0 D K (o + 7, blk κ o [(6 + 20, 0), (9, 0), (14, 12), (7, 0), (14, 6), (14, 6), (14, 36)], blz X o 7, Y, Z, 6, 72) 12 [(0, .ref (b0 + o))] [.ref (b0 + (o + 1)), .ref (b0 + o)]
  refine pf_X6_12 hC hI (z := (fun _ => none)) (blk_at 0 rfl rfl) (by omega) (blz_at 0 rfl (by decide)) hz dX6_init_12 ?_
  refine g_aload_n hC 0 dX6_init_15 rfl rfl ?_
  refine h_newo7 hC (L := [(6 + 20, 0), (9, 0), (14, 12), (7, 0), (14, 6), (14, 6), (14, 36)]) rfl tw_311 (by omega) dX6_init_16 ?_
  show gV l b0 D K (o + 8, blk κ o [(6 + 20, 0), (9, 0), (14, 12), (7, 0), (14, 6), (14, 6), (14, 36), (7 + 20, 0)], blz X o 8, Y, (va_up (va_up Z o (va_up (fun _ => none) 0 (some (o + 1)))) (o + 7) (fun _ => none)), 7, 78) 19 [(0, .ref (b0 + o))] [.ref (b0 + (o + 7)), .ref (b0 + o)]
  refine g_dup hC dX6_init_19 rfl ?_
  refine g_callIN_v hC (a := o + 7) (As := []) (gMv_eqs (c_X7_init l (o := o + 7) (Z2 := (va_up Z o (va_up (fun _ => none) 0 (some (o + 1))))) rfl (blk_at 7 rfl rfl) (blz_at 7 rfl (by simp)) up_eq (fun i hi => (up_ne hi).symm)) (n2 := o + 11) rfl (blk_blk (L := [(6 + 20, 0), (9, 0), (14, 12), (7, 0), (14, 6), (14, 6), (14, 36)]) (by decide)) blz_blz) tw_196 (List.mem_of_getElem? (i := 5) rfl) tw_120 tw_195 rfl pd_X7_init (by decide) (by omega) rfl rfl (Nat.le_of_ble_eq_true rfl) rfl dX6_init_20 ?_
  show gV l b0 D K (o + 11, blk κ o [(6 + 20, 0), (9, 0), (14, 12), (7, 0), (14, 6), (14, 6), (14, 36), (7, 0), (14, 6), (14, 6), (14, 36)], blz X o 11, Y, (va_up Z o (va_up (fun _ => none) 0 (some (o + 1)))), 10, 126) 23 [(0, .ref (b0 + o))] [.ref (b0 + (o + 7)), .ref (b0 + o)]
  refine pf_X6_21 hC hI (z := (va_up (fun _ => none) 0 (some (o + 1)))) (blk_at 0 rfl rfl) (by omega) (blz_at 0 rfl (by decide)) up_eq dX6_init_23 ?_
  refine g_eqZ up_up ?_
  refine g_aload_n hC 0 dX6_init_26 rfl rfl ?_
  refine g_bipush hC (v := 20) dX6_init_27 bp_20 ?_
  refine h_anew19 hC (L := [(6 + 20, 0), (9, 0), (14, 12), (7, 0), (14, 6), (14, 6), (14, 36), (7, 0), (14, 6), (14, 6), (14, 36)]) (len := 20) rfl tw_311 (by decide) (by decide) (by decide) (by omega) dX6_init_29 ?_
  show gV l b0 D K (o + 12, blk κ o [(6 + 20, 0), (9, 0), (14, 12), (7, 0), (14, 6), (14, 6), (14, 36), (7, 0), (14, 6), (14, 6), (14, 36), (19, 20)], blz X o 12, Y, (va_up (va_up Z o (va_up (va_up (fun _ => none) 0 (some (o + 1))) 1 (some (o + 7)))) (o + 11) (fun _ => none)), 11, 146) 32 [(0, .ref (b0 + o))] [.ref (b0 + (o + 11)), .ref (b0 + o)]
  refine pf_X6_25 hC hI (z := (va_up (va_up (fun _ => none) 0 (some (o + 1))) 1 (some (o + 7)))) (blk_at 0 rfl rfl) (by omega) (blz_at 0 rfl (by decide)) (by simp [va_up, hz]) dX6_init_32 ?_
  refine g_aload_n hC 0 dX6_init_35 rfl rfl ?_
  refine g_bipush hC (v := 10) dX6_init_36 bp_10 ?_
  refine h_new_int hC (L := [(6 + 20, 0), (9, 0), (14, 12), (7, 0), (14, 6), (14, 6), (14, 36), (7, 0), (14, 6), (14, 6), (14, 36), (19, 20)]) (len := 10) rfl (by decide) (by decide) (by decide) (by omega) dX6_init_38 ?_
  show gV l b0 D K (o + 13, blk κ o [(6 + 20, 0), (9, 0), (14, 12), (7, 0), (14, 6), (14, 6), (14, 36), (7, 0), (14, 6), (14, 6), (14, 36), (19, 20), (14, 10)], blz X o 13, Y, (va_up (va_up (va_up Z o (va_up (va_up (fun _ => none) 0 (some (o + 1))) 1 (some (o + 7)))) (o + 11) (fun _ => none)) o (va_up (va_up (va_up (fun _ => none) 0 (some (o + 1))) 1 (some (o + 7))) 2 (some (o + 11)))), 12, 156) 40 [(0, .ref (b0 + o))] [.ref (b0 + (o + 12)), .ref (b0 + o)]
  refine pf_X6_29 hC hI (z := (va_up (va_up (va_up (fun _ => none) 0 (some (o + 1))) 1 (some (o + 7))) 2 (some (o + 11)))) (blk_at 0 rfl rfl) (by omega) (blz_at 0 rfl (by decide)) up_eq dX6_init_40 ?_
  refine g_eqZ up_up ?_
  refine g_aload_n hC 0 dX6_init_43 rfl rfl ?_
  refine g_bipush hC (v := 10) dX6_init_44 bp_10 ?_
  refine h_new_int hC (L := [(6 + 20, 0), (9, 0), (14, 12), (7, 0), (14, 6), (14, 6), (14, 36), (7, 0), (14, 6), (14, 6), (14, 36), (19, 20), (14, 10)]) (len := 10) rfl (by decide) (by decide) (by decide) (by omega) dX6_init_46 ?_
  show gV l b0 D K (o + 14, blk κ o [(6 + 20, 0), (9, 0), (14, 12), (7, 0), (14, 6), (14, 6), (14, 36), (7, 0), (14, 6), (14, 6), (14, 36), (19, 20), (14, 10), (14, 10)], blz X o 14, Y, (va_up (va_up (va_up Z o (va_up (va_up (fun _ => none) 0 (some (o + 1))) 1 (some (o + 7)))) (o + 11) (fun _ => none)) o (va_up (va_up (va_up (va_up (fun _ => none) 0 (some (o + 1))) 1 (some (o + 7))) 2 (some (o + 11))) 4 (some (o + 12)))), 13, 166) 48 [(0, .ref (b0 + o))] [.ref (b0 + (o + 13)), .ref (b0 + o)]
  refine pf_X6_33 hC hI (z := (va_up (va_up (va_up (va_up (fun _ => none) 0 (some (o + 1))) 1 (some (o + 7))) 2 (some (o + 11))) 4 (some (o + 12)))) (blk_at 0 rfl rfl) (by omega) (blz_at 0 rfl (by decide)) up_eq dX6_init_48 ?_
  refine g_eqZ up_up ?_
  refine g_aload_n hC 0 dX6_init_51 rfl rfl ?_
  refine g_bipush hC (v := 10) dX6_init_52 bp_10 ?_
  refine h_new_int hC (L := [(6 + 20, 0), (9, 0), (14, 12), (7, 0), (14, 6), (14, 6), (14, 36), (7, 0), (14, 6), (14, 6), (14, 36), (19, 20), (14, 10), (14, 10)]) (len := 10) rfl (by decide) (by decide) (by decide) (by omega) dX6_init_54 ?_
  show gV l b0 D K (o + 15, blk κ o [(6 + 20, 0), (9, 0), (14, 12), (7, 0), (14, 6), (14, 6), (14, 36), (7, 0), (14, 6), (14, 6), (14, 36), (19, 20), (14, 10), (14, 10), (14, 10)], blz X o 15, Y, (va_up (va_up (va_up Z o (va_up (va_up (fun _ => none) 0 (some (o + 1))) 1 (some (o + 7)))) (o + 11) (fun _ => none)) o (va_up (va_up (va_up (va_up (va_up (fun _ => none) 0 (some (o + 1))) 1 (some (o + 7))) 2 (some (o + 11))) 4 (some (o + 12))) 5 (some (o + 13)))), 14, 176) 56 [(0, .ref (b0 + o))] [.ref (b0 + (o + 14)), .ref (b0 + o)]
  refine pf_X6_36 hC hI (z := (va_up (va_up (va_up (va_up (va_up (fun _ => none) 0 (some (o + 1))) 1 (some (o + 7))) 2 (some (o + 11))) 4 (some (o + 12))) 5 (some (o + 13)))) (blk_at 0 rfl rfl) (by omega) (blz_at 0 rfl (by decide)) up_eq dX6_init_56 ?_
  refine g_eqZ up_up ?_
  refine g_aload_n hC 0 dX6_init_59 rfl rfl ?_
  refine g_iconst hC (v := (-1)) dX6_init_60 ic_m1 ?_
  refine pf_X6_39 hC (x := (fun _ => 0)) (z := (va_up (va_up (va_up (va_up (va_up (va_up (fun _ => none) 0 (some (o + 1))) 1 (some (o + 7))) 2 (some (o + 11))) 4 (some (o + 12))) 5 (some (o + 13))) 6 (some (o + 14)))) (blk_at 0 rfl rfl) (by omega) (blz_at 0 rfl (by decide)) up_eq dX6_init_61 ?_
  refine g_conv (κ' := blk κ o [(6, 0), (9, 0), (14, 12), (7, 0), (14, 6), (14, 6), (14, 36), (7, 0), (14, 6), (14, 6), (14, 36), (19, 20), (14, 10), (14, 10), (14, 10)]) (X' := (va_up (blz X o 15) o (upd (fun _ => 0) 8 (-1)))) (Y' := Y) (Z' := Z2) (fun i hi => ?_) (hret _ _ dX6_init_64)
  by_cases h : i = o
  · subst h
    have e1 : blk κ i [(6, 0), (9, 0), (14, 12), (7, 0), (14, 6), (14, 6), (14, 36), (7, 0), (14, 6), (14, 6), (14, 36), (19, 20), (14, 10), (14, 10), (14, 10)] i = (6, 0) := blk_at 0 rfl rfl
    have e2 : blk κ i [(6 + 20, 0), (9, 0), (14, 12), (7, 0), (14, 6), (14, 6), (14, 36), (7, 0), (14, 6), (14, 6), (14, 36), (19, 20), (14, 10), (14, 10), (14, 10)] i = (6 + 20, 0) := blk_at 0 rfl rfl
    have e3 : (va_up (va_up (va_up Z i (va_up (va_up (fun _ => none) 0 (some (i + 1))) 1 (some (i + 7)))) (i + 11) (fun _ => none)) i (va_up (va_up (va_up (va_up (va_up (va_up (fun _ => none) 0 (some (i + 1))) 1 (some (i + 7))) 2 (some (i + 11))) 4 (some (i + 12))) 5 (some (i + 13))) 6 (some (i + 14)))) i = (va_up (va_up (va_up (va_up (va_up (va_up (fun _ => none) 0 (some (i + 1))) 1 (some (i + 7))) 2 (some (i + 11))) 4 (some (i + 12))) 5 (some (i + 13))) 6 (some (i + 14))) := up_eq
    rw [e1, e2, gCell_o (by decide), gCell_w, e3, up_eq]
    rfl
  · rw [hZ2 i h, blk_ne0 (k := (6, 0)) (k' := (6 + 20, 0)) h]
    congr 1
    simp [va_up, h]
set_option maxHeartbeats 4000000 in
set_option maxRecDepth 100000 in
theorem c_X8_init (l : Launch) {b0 : Nat} {D : GD} {n o : Nat} {κ : QT} {X : XT} {Y : YT} {Z Z2 : ZT} (hn : n = o + 1) (hk : κ o = (8 + 20, 0)) (hx : X o = fun _ => 0) (hz : Z o = fun _ => none) (hZ2 : ∀ i, i ≠ o → Z2 i = Z i) : gMv l yX8_init cX8_init 1 none 1 14 4 1603 b0 D [.ref (b0 + o)] (n, κ, X, Y, Z) (o + 5, blk κ o [(8, 0), (13, 400), (14, 401), (14, 401), (14, 401)], blz X o 5, Y, Z2) := by
  subst hn
  refine g_metc (own := RX8) (by decide) rfl rfl (Nat.le_of_ble_eq_true rfl) ?_
  intro K hC hI hret
  refine g_eqs (blk_self hk) (blz_self hx) ?_
  show gV l b0 D K (o + 1, blk κ o [(8 + 20, 0)], blz X o 1, Y, Z, 0, 0) 0 [(0, .ref (b0 + o))] []
  refine g_aload_n hC 0 dX8_init_0 rfl rfl ?_
  refine g_objInit hC tw_150 (by decide) (Nat.le_of_ble_eq_true rfl) dX8_init_1 ?_
  refine g_aload_n hC 0 dX8_init_4 rfl rfl ?_
  refine g_sipush hC (v := 400) dX8_init_5 sp_400 ?_
  refine h_new_byte hC (L := [(8 + 20, 0)]) (len := 400) rfl (by decide) (by decide) (by decide) (by omega) dX8_init_8 ?_
  show gV l b0 D K (o + 2, blk κ o [(8 + 20, 0), (13, 400)], blz X o 2, Y, Z, 1, 400) 10 [(0, .ref (b0 + o))] [.ref (b0 + (o + 1)), .ref (b0 + o)]
  refine pf_X8_9 hC hI (z := (fun _ => none)) (blk_at 0 rfl rfl) (by omega) (blz_at 0 rfl (by decide)) hz dX8_init_10 ?_
  refine g_aload_n hC 0 dX8_init_13 rfl rfl ?_
  refine g_sipush hC (v := 401) dX8_init_14 sp_401 ?_
  refine h_new_int hC (L := [(8 + 20, 0), (13, 400)]) (len := 401) rfl (by decide) (by decide) (by decide) (by omega) dX8_init_17 ?_
  show gV l b0 D K (o + 3, blk κ o [(8 + 20, 0), (13, 400), (14, 401)], blz X o 3, Y, (va_up Z o (va_up (fun _ => none) 0 (some (o + 1)))), 2, 801) 19 [(0, .ref (b0 + o))] [.ref (b0 + (o + 2)), .ref (b0 + o)]
  refine pf_X8_15 hC hI (z := (va_up (fun _ => none) 0 (some (o + 1)))) (blk_at 0 rfl rfl) (by omega) (blz_at 0 rfl (by decide)) up_eq dX8_init_19 ?_
  refine g_eqZ up_up ?_
  refine g_aload_n hC 0 dX8_init_22 rfl rfl ?_
  refine g_sipush hC (v := 401) dX8_init_23 sp_401 ?_
  refine h_new_int hC (L := [(8 + 20, 0), (13, 400), (14, 401)]) (len := 401) rfl (by decide) (by decide) (by decide) (by omega) dX8_init_26 ?_
  show gV l b0 D K (o + 4, blk κ o [(8 + 20, 0), (13, 400), (14, 401), (14, 401)], blz X o 4, Y, (va_up Z o (va_up (va_up (fun _ => none) 0 (some (o + 1))) 2 (some (o + 2)))), 3, 1202) 28 [(0, .ref (b0 + o))] [.ref (b0 + (o + 3)), .ref (b0 + o)]
  refine pf_X8_19 hC hI (z := (va_up (va_up (fun _ => none) 0 (some (o + 1))) 2 (some (o + 2)))) (blk_at 0 rfl rfl) (by omega) (blz_at 0 rfl (by decide)) up_eq dX8_init_28 ?_
  refine g_eqZ up_up ?_
  refine g_aload_n hC 0 dX8_init_31 rfl rfl ?_
  refine g_sipush hC (v := 401) dX8_init_32 sp_401 ?_
  refine h_new_int hC (L := [(8 + 20, 0), (13, 400), (14, 401), (14, 401)]) (len := 401) rfl (by decide) (by decide) (by decide) (by omega) dX8_init_35 ?_
  show gV l b0 D K (o + 5, blk κ o [(8 + 20, 0), (13, 400), (14, 401), (14, 401), (14, 401)], blz X o 5, Y, (va_up Z o (va_up (va_up (va_up (fun _ => none) 0 (some (o + 1))) 2 (some (o + 2))) 3 (some (o + 3)))), 4, 1603) 37 [(0, .ref (b0 + o))] [.ref (b0 + (o + 4)), .ref (b0 + o)]
  refine pf_X8_22 hC hI (z := (va_up (va_up (va_up (fun _ => none) 0 (some (o + 1))) 2 (some (o + 2))) 3 (some (o + 3)))) (blk_at 0 rfl rfl) (by omega) (blz_at 0 rfl (by decide)) up_eq dX8_init_37 ?_
  refine g_eqZ up_up ?_
  refine g_conv (κ' := blk κ o [(8, 0), (13, 400), (14, 401), (14, 401), (14, 401)]) (X' := blz X o 5) (Y' := Y) (Z' := Z2) (fun i hi => ?_) (hret _ _ dX8_init_40)
  by_cases h : i = o
  · subst h
    have e1 : blk κ i [(8, 0), (13, 400), (14, 401), (14, 401), (14, 401)] i = (8, 0) := blk_at 0 rfl rfl
    have e2 : blk κ i [(8 + 20, 0), (13, 400), (14, 401), (14, 401), (14, 401)] i = (8 + 20, 0) := blk_at 0 rfl rfl
    have e3 : (va_up Z i (va_up (va_up (va_up (va_up (fun _ => none) 0 (some (i + 1))) 2 (some (i + 2))) 3 (some (i + 3))) 4 (some (i + 4)))) i = (va_up (va_up (va_up (va_up (fun _ => none) 0 (some (i + 1))) 2 (some (i + 2))) 3 (some (i + 3))) 4 (some (i + 4))) := up_eq
    have e4 : blz X i 5 i = fun _ => 0 := blz_at 0 rfl (by decide)
    rw [e1, e2, gCell_o (by decide), gCell_w, e3, e4]
    rfl
  · rw [hZ2 i h, blk_ne0 (k := (8, 0)) (k' := (8 + 20, 0)) h]
    congr 1
    simp [va_up, h]
set_option maxHeartbeats 4000000 in
set_option maxRecDepth 100000 in
theorem c_X10_init (l : Launch) {b0 : Nat} {D : GD} {n o : Nat} {κ : QT} {X : XT} {Y : YT} {Z Z2 : ZT} (hn : n = o + 1) (hk : κ o = (10 + 20, 0)) (hx : X o = fun _ => 0) (hz : Z o = fun _ => none) (hZ2 : ∀ i, i ≠ o → Z2 i = Z i) : gMv l yX10_init cX10_init 2 none 3 54 6 72 b0 D [.ref (b0 + o), .ref (b0 + 1)] (n, κ, X, Y, Z) (o + 7, blk κ o [(10, 0), (9, 0), (14, 12), (7, 0), (14, 6), (14, 6), (14, 36)], blz X o 7, Y, Z2) := by
  subst hn
  refine g_metc (own := RX10) (by decide) rfl rfl (Nat.le_of_ble_eq_true rfl) ?_
  intro K hC hI hret
  refine g_eqs (blk_self hk) (blz_self hx) ?_
  show gV l b0 D K (o + 1, blk κ o [(10 + 20, 0)], blz X o 1, Y, Z, 0, 0) 0 [(0, .ref (b0 + o)), (1, .ref (b0 + 1))] []
  refine g_aload_n hC 0 dX10_init_0 rfl rfl ?_
  refine g_objInit hC tw_185 (by decide) (Nat.le_of_ble_eq_true rfl) dX10_init_1 ?_
  refine g_aload_n hC 0 dX10_init_4 rfl rfl ?_
  refine h_newo9 hC (L := [(10 + 20, 0)]) rfl tw_186 (by omega) dX10_init_5 ?_
  show gV l b0 D K (o + 2, blk κ o [(10 + 20, 0), (9 + 20, 0)], blz X o 2, Y, (va_up Z (o + 1) (fun _ => none)), 1, 6) 8 [(0, .ref (b0 + o)), (1, .ref (b0 + 1))] [.ref (b0 + (o + 1)), .ref (b0 + o)]
  refine g_dup hC dX10_init_8 rfl ?_
  refine g_callIN_v hC (a := o + 1) (As := []) (gMv_eqs (c_X9_init l (o := o + 1) (Z2 := Z) rfl (blk_at 1 rfl rfl) (blz_at 1 rfl (by simp)) up_eq (fun i hi => (up_ne hi).symm)) (n2 := o + 7) rfl (blk_blk (L := [(10 + 20, 0)]) (by decide)) blz_blz) tw_190 (List.mem_of_getElem? (i := 1) rfl) tw_119 tw_189 rfl pd_X9_init (by decide) (by omega) rfl rfl (Nat.le_of_ble_eq_true rfl) rfl dX10_init_9 ?_
  show gV l b0 D K (o + 7, blk κ o [(10 + 20, 0), (9, 0), (14, 12), (7, 0), (14, 6), (14, 6), (14, 36)], blz X o 7, Y, Z, 6, 72) 12 [(0, .ref (b0 + o)), (1, .ref (b0 + 1))] [.ref (b0 + (o + 1)), .ref (b0 + o)]
  refine pf_X10_12 hC hI (z := (fun _ => none)) (blk_at 0 rfl rfl) (by omega) (blz_at 0 rfl (by decide)) hz dX10_init_12 ?_
  refine g_aload_n hC 0 dX10_init_15 rfl rfl ?_
  refine g_aload_n hC 1 dX10_init_16 rfl rfl ?_
  refine pf_X10_18 hC hI (z := (va_up (fun _ => none) 1 (some (o + 1)))) (blk_at 0 rfl rfl) (by omega) (blz_at 0 rfl (by decide)) up_eq dX10_init_17 ?_
  refine g_eqZ up_up ?_
  refine g_conv (κ' := blk κ o [(10, 0), (9, 0), (14, 12), (7, 0), (14, 6), (14, 6), (14, 36)]) (X' := blz X o 7) (Y' := Y) (Z' := Z2) (fun i hi => ?_) (hret _ _ dX10_init_20)
  by_cases h : i = o
  · subst h
    have e1 : blk κ i [(10, 0), (9, 0), (14, 12), (7, 0), (14, 6), (14, 6), (14, 36)] i = (10, 0) := blk_at 0 rfl rfl
    have e2 : blk κ i [(10 + 20, 0), (9, 0), (14, 12), (7, 0), (14, 6), (14, 6), (14, 36)] i = (10 + 20, 0) := blk_at 0 rfl rfl
    have e3 : (va_up Z i (va_up (va_up (fun _ => none) 1 (some (i + 1))) 0 (some 1))) i = (va_up (va_up (fun _ => none) 1 (some (i + 1))) 0 (some 1)) := up_eq
    have e4 : blz X i 7 i = fun _ => 0 := blz_at 0 rfl (by decide)
    rw [e1, e2, gCell_o (by decide), gCell_w, e3, e4]
    rfl
  · rw [hZ2 i h, blk_ne0 (k := (10, 0)) (k' := (10 + 20, 0)) h]
    congr 1
    simp [va_up, h]
set_option maxHeartbeats 4000000 in
set_option maxRecDepth 100000 in
theorem c_X5_init (l : Launch) {b0 : Nat} {D : GD} {n o : Nat} {κ : QT} {X : XT} {Y : YT} {Z Z2 : ZT} (hn : n = o + 1) (hk : κ o = (5 + 20, 0)) (hx : X o = fun _ => 0) (hz : Z o = fun _ => none) (hZ2 : ∀ i, i ≠ o → Z2 i = Z i) : gMv l yX5_init cX5_init 2 none 1 14 1 412 b0 D [.ref (b0 + o), .ref (b0 + 1)] (n, κ, X, Y, Z) (o + 2, blk κ o [(5, 0), (14, 412)], blz X o 2, Y, Z2) := by
  subst hn
  refine g_metc (own := RX5) (by decide) rfl rfl (Nat.le_of_ble_eq_true rfl) ?_
  intro K hC hI hret
  refine g_eqs (blk_self hk) (blz_self hx) ?_
  show gV l b0 D K (o + 1, blk κ o [(5 + 20, 0)], blz X o 1, Y, Z, 0, 0) 0 [(0, .ref (b0 + o)), (1, .ref (b0 + 1))] []
  refine g_aload_n hC 0 dX5_init_0 rfl rfl ?_
  refine g_objInit hC tw_287 (by decide) (Nat.le_of_ble_eq_true rfl) dX5_init_1 ?_
  refine g_aload_n hC 0 dX5_init_4 rfl rfl ?_
  refine g_sipush hC (v := 412) dX5_init_5 sp_412 ?_
  refine h_new_int hC (L := [(5 + 20, 0)]) (len := 412) rfl (by decide) (by decide) (by decide) (by omega) dX5_init_8 ?_
  show gV l b0 D K (o + 2, blk κ o [(5 + 20, 0), (14, 412)], blz X o 2, Y, Z, 1, 412) 10 [(0, .ref (b0 + o)), (1, .ref (b0 + 1))] [.ref (b0 + (o + 1)), .ref (b0 + o)]
  refine pf_X5_9 hC hI (z := (fun _ => none)) (blk_at 0 rfl rfl) (by omega) (blz_at 0 rfl (by decide)) hz dX5_init_10 ?_
  refine g_aload_n hC 0 dX5_init_13 rfl rfl ?_
  refine g_aload_n hC 1 dX5_init_14 rfl rfl ?_
  refine pf_X5_15 hC hI (z := (va_up (fun _ => none) 1 (some (o + 1)))) (blk_at 0 rfl rfl) (by omega) (blz_at 0 rfl (by decide)) up_eq dX5_init_15 ?_
  refine g_eqZ up_up ?_
  refine g_conv (κ' := blk κ o [(5, 0), (14, 412)]) (X' := blz X o 2) (Y' := Y) (Z' := Z2) (fun i hi => ?_) (hret _ _ dX5_init_18)
  by_cases h : i = o
  · subst h
    have e1 : blk κ i [(5, 0), (14, 412)] i = (5, 0) := blk_at 0 rfl rfl
    have e2 : blk κ i [(5 + 20, 0), (14, 412)] i = (5 + 20, 0) := blk_at 0 rfl rfl
    have e3 : (va_up Z i (va_up (va_up (fun _ => none) 1 (some (i + 1))) 0 (some 1))) i = (va_up (va_up (fun _ => none) 1 (some (i + 1))) 0 (some 1)) := up_eq
    have e4 : blz X i 2 i = fun _ => 0 := blz_at 0 rfl (by decide)
    rw [e1, e2, gCell_o (by decide), gCell_w, e3, e4]
    rfl
  · rw [hZ2 i h, blk_ne0 (k := (5, 0)) (k' := (5 + 20, 0)) h]
    congr 1
    simp [va_up, h]
set_option maxHeartbeats 4000000 in
set_option maxRecDepth 100000 in
theorem c_X1_init (l : Launch) {b0 : Nat} {D : GD} {n o : Nat} {κ : QT} {X : XT} {Y : YT} {Z Z2 : ZT} (hn : n = o + 1) (hk : κ o = (1 + 20, 0)) (hx : X o = fun _ => 0) (hz : Z o = fun _ => none) (hZ2 : ∀ i, i ≠ o → Z2 i = Z i) : gMv l yX1_init cX1_init 2 none 1 14 2 18 b0 D [.ref (b0 + o), .ref (b0 + 17)] (n, κ, X, Y, Z) (o + 3, blk κ o [(1, 0), (14, 6), (15, 12)], blz X o 3, (va_up Y (o + 2) (fun _ => 0)), Z2) := by
  subst hn
  refine g_metc (own := RX1) (by decide) rfl rfl (Nat.le_of_ble_eq_true rfl) ?_
  intro K hC hI hret
  refine g_eqs (blk_self hk) (blz_self hx) ?_
  show gV l b0 D K (o + 1, blk κ o [(1 + 20, 0)], blz X o 1, Y, Z, 0, 0) 0 [(0, .ref (b0 + o)), (1, .ref (b0 + 17))] []
  refine g_aload_n hC 0 dX1_init_0 rfl rfl ?_
  refine g_objInit hC tw_357 (by decide) (Nat.le_of_ble_eq_true rfl) dX1_init_1 ?_
  refine g_aload_n hC 0 dX1_init_4 rfl rfl ?_
  refine g_bipush hC (v := 6) dX1_init_5 bp_6 ?_
  refine h_new_int hC (L := [(1 + 20, 0)]) (len := 6) rfl (by decide) (by decide) (by decide) (by omega) dX1_init_7 ?_
  show gV l b0 D K (o + 2, blk κ o [(1 + 20, 0), (14, 6)], blz X o 2, Y, Z, 1, 6) 9 [(0, .ref (b0 + o)), (1, .ref (b0 + 17))] [.ref (b0 + (o + 1)), .ref (b0 + o)]
  refine pf_X1_9 hC hI (z := (fun _ => none)) (blk_at 0 rfl rfl) (by omega) (blz_at 0 rfl (by decide)) hz dX1_init_9 ?_
  refine g_aload_n hC 0 dX1_init_12 rfl rfl ?_
  refine g_bipush hC (v := 12) dX1_init_13 bp_12 ?_
  refine h_new_long hC (L := [(1 + 20, 0), (14, 6)]) (len := 12) rfl (by decide) (by decide) (by decide) (by omega) dX1_init_15 ?_
  show gV l b0 D K (o + 3, blk κ o [(1 + 20, 0), (14, 6), (15, 12)], blz X o 3, (va_up Y (o + 2) (fun _ => 0)), (va_up Z o (va_up (fun _ => none) 1 (some (o + 1)))), 2, 18) 17 [(0, .ref (b0 + o)), (1, .ref (b0 + 17))] [.ref (b0 + (o + 2)), .ref (b0 + o)]
  refine pf_X1_15 hC hI (z := (va_up (fun _ => none) 1 (some (o + 1)))) (blk_at 0 rfl rfl) (by omega) (blz_at 0 rfl (by decide)) up_eq dX1_init_17 ?_
  refine g_eqZ up_up ?_
  refine g_aload_n hC 0 dX1_init_20 rfl rfl ?_
  refine g_aload_n hC 1 dX1_init_21 rfl rfl ?_
  refine pf_X1_19 hC hI (z := (va_up (va_up (fun _ => none) 1 (some (o + 1))) 2 (some (o + 2)))) (blk_at 0 rfl rfl) (by omega) (blz_at 0 rfl (by decide)) up_eq dX1_init_22 ?_
  refine g_eqZ up_up ?_
  refine g_conv (κ' := blk κ o [(1, 0), (14, 6), (15, 12)]) (X' := blz X o 3) (Y' := (va_up Y (o + 2) (fun _ => 0))) (Z' := Z2) (fun i hi => ?_) (hret _ _ dX1_init_25)
  by_cases h : i = o
  · subst h
    have e1 : blk κ i [(1, 0), (14, 6), (15, 12)] i = (1, 0) := blk_at 0 rfl rfl
    have e2 : blk κ i [(1 + 20, 0), (14, 6), (15, 12)] i = (1 + 20, 0) := blk_at 0 rfl rfl
    have e3 : (va_up Z i (va_up (va_up (va_up (fun _ => none) 1 (some (i + 1))) 2 (some (i + 2))) 0 (some 17))) i = (va_up (va_up (va_up (fun _ => none) 1 (some (i + 1))) 2 (some (i + 2))) 0 (some 17)) := up_eq
    have e4 : blz X i 3 i = fun _ => 0 := blz_at 0 rfl (by decide)
    rw [e1, e2, gCell_o (by decide), gCell_w, e3, e4]
    rfl
  · rw [hZ2 i h, blk_ne0 (k := (1, 0)) (k' := (1 + 20, 0)) h]
    congr 1
    simp [va_up, h]
set_option maxHeartbeats 4000000 in
set_option maxRecDepth 100000 in
theorem c_X3_init (l : Launch) {b0 : Nat} {D : GD} {n o : Nat} {κ : QT} {X : XT} {Y : YT} {Z Z2 : ZT} (hn : n = o + 1) (hk : κ o = (3 + 20, 0)) (hx : X o = fun _ => 0) (hz : Z o = fun _ => none) (hZ2 : ∀ i, i ≠ o → Z2 i = (va_up Z (o + 1) (va_up (va_up (va_up (va_up (fun _ => none) 0 (some (o + 2))) 1 (some (o + 6))) 2 (some (o + 10))) 3 (some (o + 14)))) i) : gMv l yX3_init cX3_init 2 none 2 34 19 226 b0 D [.ref (b0 + o), .ref (b0 + 32)] (n, κ, X, Y, Z) (o + 20, blk κ o [(3, 0), (19, 4), (7, 0), (14, 6), (14, 6), (14, 36), (7, 0), (14, 6), (14, 6), (14, 36), (7, 0), (14, 6), (14, 6), (14, 36), (7, 0), (14, 6), (14, 6), (14, 36), (14, 3), (14, 3)], blz X o 20, Y, Z2) := by
  subst hn
  refine g_metc (own := RX3) (by decide) rfl rfl (Nat.le_of_ble_eq_true rfl) ?_
  intro K hC hI hret
  refine g_eqs (blk_self hk) (blz_self hx) ?_
  show gV l b0 D K (o + 1, blk κ o [(3 + 20, 0)], blz X o 1, Y, Z, 0, 0) 0 [(0, .ref (b0 + o)), (1, .ref (b0 + 32))] []
  refine g_aload_n hC 0 dX3_init_0 rfl rfl ?_
  refine g_objInit hC tw_378 (by decide) (Nat.le_of_ble_eq_true rfl) dX3_init_1 ?_
  refine g_aload_n hC 0 dX3_init_4 rfl rfl ?_
  refine g_iconst hC (v := 4) dX3_init_5 ic_4 ?_
  refine h_anew19 hC (L := [(3 + 20, 0)]) (len := 4) rfl tw_379 (by decide) (by decide) (by decide) (by omega) dX3_init_6 ?_
  show gV l b0 D K (o + 2, blk κ o [(3 + 20, 0), (19, 4)], blz X o 2, Y, (va_up Z (o + 1) (fun _ => none)), 1, 4) 9 [(0, .ref (b0 + o)), (1, .ref (b0 + 32))] [.ref (b0 + (o + 1)), .ref (b0 + o)]
  refine g_dup hC dX3_init_9 rfl ?_
  refine g_iconst hC (v := 0) dX3_init_10 ic_0 ?_
  refine h_newo7 hC (L := [(3 + 20, 0), (19, 4)]) rfl tw_379 (by omega) dX3_init_11 ?_
  show gV l b0 D K (o + 3, blk κ o [(3 + 20, 0), (19, 4), (7 + 20, 0)], blz X o 3, Y, (va_up (va_up Z (o + 1) (fun _ => none)) (o + 2) (fun _ => none)), 2, 10) 14 [(0, .ref (b0 + o)), (1, .ref (b0 + 32))] [.ref (b0 + (o + 2)), .int 0, .ref (b0 + (o + 1)), .ref (b0 + (o + 1)), .ref (b0 + o)]
  refine g_dup hC dX3_init_14 rfl ?_
  refine g_callIN_v hC (a := o + 2) (As := []) (gMv_eqs (c_X7_init l (o := o + 2) (Z2 := (va_up Z (o + 1) (fun _ => none))) rfl (blk_at 2 rfl rfl) (blz_at 2 rfl (by simp)) up_eq (fun i hi => (up_ne hi).symm)) (n2 := o + 6) rfl (blk_blk (L := [(3 + 20, 0), (19, 4)]) (by decide)) blz_blz) tw_196 (List.mem_of_getElem? (i := 7) rfl) tw_120 tw_195 rfl pd_X7_init (by decide) (by omega) rfl rfl (Nat.le_of_ble_eq_true rfl) rfl dX3_init_15 ?_
  show gV l b0 D K (o + 6, blk κ o [(3 + 20, 0), (19, 4), (7, 0), (14, 6), (14, 6), (14, 36)], blz X o 6, Y, (va_up Z (o + 1) (fun _ => none)), 5, 58) 18 [(0, .ref (b0 + o)), (1, .ref (b0 + 32))] [.ref (b0 + (o + 2)), .int 0, .ref (b0 + (o + 1)), .ref (b0 + (o + 1)), .ref (b0 + o)]
  refine g_aast19 hC (L := 4) (a := o + 1) (v := o + 2) (i := 0) (blk_at 1 rfl rfl) (by omega) (blk_at 2 rfl rfl) (by omega) (inb_in (by decide)) (Z' := (va_up Z (o + 1) (va_up (fun _ => none) 0 (some (o + 2))))) (by rw [up_eq, up_up]; rfl) dX3_init_18 ?_
  show gV l b0 D K (o + 6, blk κ o [(3 + 20, 0), (19, 4), (7, 0), (14, 6), (14, 6), (14, 36)], blz X o 6, Y, (va_up Z (o + 1) (va_up (fun _ => none) 0 (some (o + 2)))), 5, 58) 19 [(0, .ref (b0 + o)), (1, .ref (b0 + 32))] [.ref (b0 + (o + 1)), .ref (b0 + o)]
  refine g_dup hC dX3_init_19 rfl ?_
  refine g_iconst hC (v := 1) dX3_init_20 ic_1 ?_
  refine h_newo7 hC (L := [(3 + 20, 0), (19, 4), (7, 0), (14, 6), (14, 6), (14, 36)]) rfl tw_379 (by omega) dX3_init_21 ?_
  show gV l b0 D K (o + 7, blk κ o [(3 + 20, 0), (19, 4), (7, 0), (14, 6), (14, 6), (14, 36), (7 + 20, 0)], blz X o 7, Y, (va_up (va_up Z (o + 1) (va_up (fun _ => none) 0 (some (o + 2)))) (o + 6) (fun _ => none)), 6, 64) 24 [(0, .ref (b0 + o)), (1, .ref (b0 + 32))] [.ref (b0 + (o + 6)), .int 1, .ref (b0 + (o + 1)), .ref (b0 + (o + 1)), .ref (b0 + o)]
  refine g_dup hC dX3_init_24 rfl ?_
  refine g_callIN_v hC (a := o + 6) (As := []) (gMv_eqs (c_X7_init l (o := o + 6) (Z2 := (va_up Z (o + 1) (va_up (fun _ => none) 0 (some (o + 2))))) rfl (blk_at 6 rfl rfl) (blz_at 6 rfl (by simp)) up_eq (fun i hi => (up_ne hi).symm)) (n2 := o + 10) rfl (blk_blk (L := [(3 + 20, 0), (19, 4), (7, 0), (14, 6), (14, 6), (14, 36)]) (by decide)) blz_blz) tw_196 (List.mem_of_getElem? (i := 7) rfl) tw_120 tw_195 rfl pd_X7_init (by decide) (by omega) rfl rfl (Nat.le_of_ble_eq_true rfl) rfl dX3_init_25 ?_
  show gV l b0 D K (o + 10, blk κ o [(3 + 20, 0), (19, 4), (7, 0), (14, 6), (14, 6), (14, 36), (7, 0), (14, 6), (14, 6), (14, 36)], blz X o 10, Y, (va_up Z (o + 1) (va_up (fun _ => none) 0 (some (o + 2)))), 9, 112) 28 [(0, .ref (b0 + o)), (1, .ref (b0 + 32))] [.ref (b0 + (o + 6)), .int 1, .ref (b0 + (o + 1)), .ref (b0 + (o + 1)), .ref (b0 + o)]
  refine g_aast19 hC (L := 4) (a := o + 1) (v := o + 6) (i := 1) (blk_at 1 rfl rfl) (by omega) (blk_at 6 rfl rfl) (by omega) (inb_in (by decide)) (Z' := (va_up Z (o + 1) (va_up (va_up (fun _ => none) 0 (some (o + 2))) 1 (some (o + 6))))) (by rw [up_eq, up_up]; rfl) dX3_init_28 ?_
  show gV l b0 D K (o + 10, blk κ o [(3 + 20, 0), (19, 4), (7, 0), (14, 6), (14, 6), (14, 36), (7, 0), (14, 6), (14, 6), (14, 36)], blz X o 10, Y, (va_up Z (o + 1) (va_up (va_up (fun _ => none) 0 (some (o + 2))) 1 (some (o + 6)))), 9, 112) 29 [(0, .ref (b0 + o)), (1, .ref (b0 + 32))] [.ref (b0 + (o + 1)), .ref (b0 + o)]
  refine g_dup hC dX3_init_29 rfl ?_
  refine g_iconst hC (v := 2) dX3_init_30 ic_2 ?_
  refine h_newo7 hC (L := [(3 + 20, 0), (19, 4), (7, 0), (14, 6), (14, 6), (14, 36), (7, 0), (14, 6), (14, 6), (14, 36)]) rfl tw_379 (by omega) dX3_init_31 ?_
  show gV l b0 D K (o + 11, blk κ o [(3 + 20, 0), (19, 4), (7, 0), (14, 6), (14, 6), (14, 36), (7, 0), (14, 6), (14, 6), (14, 36), (7 + 20, 0)], blz X o 11, Y, (va_up (va_up Z (o + 1) (va_up (va_up (fun _ => none) 0 (some (o + 2))) 1 (some (o + 6)))) (o + 10) (fun _ => none)), 10, 118) 34 [(0, .ref (b0 + o)), (1, .ref (b0 + 32))] [.ref (b0 + (o + 10)), .int 2, .ref (b0 + (o + 1)), .ref (b0 + (o + 1)), .ref (b0 + o)]
  refine g_dup hC dX3_init_34 rfl ?_
  refine g_callIN_v hC (a := o + 10) (As := []) (gMv_eqs (c_X7_init l (o := o + 10) (Z2 := (va_up Z (o + 1) (va_up (va_up (fun _ => none) 0 (some (o + 2))) 1 (some (o + 6))))) rfl (blk_at 10 rfl rfl) (blz_at 10 rfl (by simp)) up_eq (fun i hi => (up_ne hi).symm)) (n2 := o + 14) rfl (blk_blk (L := [(3 + 20, 0), (19, 4), (7, 0), (14, 6), (14, 6), (14, 36), (7, 0), (14, 6), (14, 6), (14, 36)]) (by decide)) blz_blz) tw_196 (List.mem_of_getElem? (i := 7) rfl) tw_120 tw_195 rfl pd_X7_init (by decide) (by omega) rfl rfl (Nat.le_of_ble_eq_true rfl) rfl dX3_init_35 ?_
  show gV l b0 D K (o + 14, blk κ o [(3 + 20, 0), (19, 4), (7, 0), (14, 6), (14, 6), (14, 36), (7, 0), (14, 6), (14, 6), (14, 36), (7, 0), (14, 6), (14, 6), (14, 36)], blz X o 14, Y, (va_up Z (o + 1) (va_up (va_up (fun _ => none) 0 (some (o + 2))) 1 (some (o + 6)))), 13, 166) 38 [(0, .ref (b0 + o)), (1, .ref (b0 + 32))] [.ref (b0 + (o + 10)), .int 2, .ref (b0 + (o + 1)), .ref (b0 + (o + 1)), .ref (b0 + o)]
  refine g_aast19 hC (L := 4) (a := o + 1) (v := o + 10) (i := 2) (blk_at 1 rfl rfl) (by omega) (blk_at 10 rfl rfl) (by omega) (inb_in (by decide)) (Z' := (va_up Z (o + 1) (va_up (va_up (va_up (fun _ => none) 0 (some (o + 2))) 1 (some (o + 6))) 2 (some (o + 10))))) (by rw [up_eq, up_up]; rfl) dX3_init_38 ?_
  show gV l b0 D K (o + 14, blk κ o [(3 + 20, 0), (19, 4), (7, 0), (14, 6), (14, 6), (14, 36), (7, 0), (14, 6), (14, 6), (14, 36), (7, 0), (14, 6), (14, 6), (14, 36)], blz X o 14, Y, (va_up Z (o + 1) (va_up (va_up (va_up (fun _ => none) 0 (some (o + 2))) 1 (some (o + 6))) 2 (some (o + 10)))), 13, 166) 39 [(0, .ref (b0 + o)), (1, .ref (b0 + 32))] [.ref (b0 + (o + 1)), .ref (b0 + o)]
  refine g_dup hC dX3_init_39 rfl ?_
  refine g_iconst hC (v := 3) dX3_init_40 ic_3 ?_
  refine h_newo7 hC (L := [(3 + 20, 0), (19, 4), (7, 0), (14, 6), (14, 6), (14, 36), (7, 0), (14, 6), (14, 6), (14, 36), (7, 0), (14, 6), (14, 6), (14, 36)]) rfl tw_379 (by omega) dX3_init_41 ?_
  show gV l b0 D K (o + 15, blk κ o [(3 + 20, 0), (19, 4), (7, 0), (14, 6), (14, 6), (14, 36), (7, 0), (14, 6), (14, 6), (14, 36), (7, 0), (14, 6), (14, 6), (14, 36), (7 + 20, 0)], blz X o 15, Y, (va_up (va_up Z (o + 1) (va_up (va_up (va_up (fun _ => none) 0 (some (o + 2))) 1 (some (o + 6))) 2 (some (o + 10)))) (o + 14) (fun _ => none)), 14, 172) 44 [(0, .ref (b0 + o)), (1, .ref (b0 + 32))] [.ref (b0 + (o + 14)), .int 3, .ref (b0 + (o + 1)), .ref (b0 + (o + 1)), .ref (b0 + o)]
  refine g_dup hC dX3_init_44 rfl ?_
  refine g_callIN_v hC (a := o + 14) (As := []) (gMv_eqs (c_X7_init l (o := o + 14) (Z2 := (va_up Z (o + 1) (va_up (va_up (va_up (fun _ => none) 0 (some (o + 2))) 1 (some (o + 6))) 2 (some (o + 10))))) rfl (blk_at 14 rfl rfl) (blz_at 14 rfl (by simp)) up_eq (fun i hi => (up_ne hi).symm)) (n2 := o + 18) rfl (blk_blk (L := [(3 + 20, 0), (19, 4), (7, 0), (14, 6), (14, 6), (14, 36), (7, 0), (14, 6), (14, 6), (14, 36), (7, 0), (14, 6), (14, 6), (14, 36)]) (by decide)) blz_blz) tw_196 (List.mem_of_getElem? (i := 7) rfl) tw_120 tw_195 rfl pd_X7_init (by decide) (by omega) rfl rfl (Nat.le_of_ble_eq_true rfl) rfl dX3_init_45 ?_
  show gV l b0 D K (o + 18, blk κ o [(3 + 20, 0), (19, 4), (7, 0), (14, 6), (14, 6), (14, 36), (7, 0), (14, 6), (14, 6), (14, 36), (7, 0), (14, 6), (14, 6), (14, 36), (7, 0), (14, 6), (14, 6), (14, 36)], blz X o 18, Y, (va_up Z (o + 1) (va_up (va_up (va_up (fun _ => none) 0 (some (o + 2))) 1 (some (o + 6))) 2 (some (o + 10)))), 17, 220) 48 [(0, .ref (b0 + o)), (1, .ref (b0 + 32))] [.ref (b0 + (o + 14)), .int 3, .ref (b0 + (o + 1)), .ref (b0 + (o + 1)), .ref (b0 + o)]
  refine g_aast19 hC (L := 4) (a := o + 1) (v := o + 14) (i := 3) (blk_at 1 rfl rfl) (by omega) (blk_at 14 rfl rfl) (by omega) (inb_in (by decide)) (Z' := (va_up Z (o + 1) (va_up (va_up (va_up (va_up (fun _ => none) 0 (some (o + 2))) 1 (some (o + 6))) 2 (some (o + 10))) 3 (some (o + 14))))) (by rw [up_eq, up_up]; rfl) dX3_init_48 ?_
  show gV l b0 D K (o + 18, blk κ o [(3 + 20, 0), (19, 4), (7, 0), (14, 6), (14, 6), (14, 36), (7, 0), (14, 6), (14, 6), (14, 36), (7, 0), (14, 6), (14, 6), (14, 36), (7, 0), (14, 6), (14, 6), (14, 36)], blz X o 18, Y, (va_up Z (o + 1) (va_up (va_up (va_up (va_up (fun _ => none) 0 (some (o + 2))) 1 (some (o + 6))) 2 (some (o + 10))) 3 (some (o + 14)))), 17, 220) 49 [(0, .ref (b0 + o)), (1, .ref (b0 + 32))] [.ref (b0 + (o + 1)), .ref (b0 + o)]
  refine pf_X3_12 hC hI (z := (fun _ => none)) (blk_at 0 rfl rfl) (by omega) (blz_at 0 rfl (by decide)) (by simp [va_up, hz]) dX3_init_49 ?_
  refine g_aload_n hC 0 dX3_init_52 rfl rfl ?_
  refine g_iconst hC (v := 3) dX3_init_53 ic_3 ?_
  refine h_new_int hC (L := [(3 + 20, 0), (19, 4), (7, 0), (14, 6), (14, 6), (14, 36), (7, 0), (14, 6), (14, 6), (14, 36), (7, 0), (14, 6), (14, 6), (14, 36), (7, 0), (14, 6), (14, 6), (14, 36)]) (len := 3) rfl (by decide) (by decide) (by decide) (by omega) dX3_init_54 ?_
  show gV l b0 D K (o + 19, blk κ o [(3 + 20, 0), (19, 4), (7, 0), (14, 6), (14, 6), (14, 36), (7, 0), (14, 6), (14, 6), (14, 36), (7, 0), (14, 6), (14, 6), (14, 36), (7, 0), (14, 6), (14, 6), (14, 36), (14, 3)], blz X o 19, Y, (va_up (va_up Z (o + 1) (va_up (va_up (va_up (va_up (fun _ => none) 0 (some (o + 2))) 1 (some (o + 6))) 2 (some (o + 10))) 3 (some (o + 14)))) o (va_up (fun _ => none) 1 (some (o + 1)))), 18, 223) 56 [(0, .ref (b0 + o)), (1, .ref (b0 + 32))] [.ref (b0 + (o + 18)), .ref (b0 + o)]
  refine pf_X3_18 hC hI (z := (va_up (fun _ => none) 1 (some (o + 1)))) (blk_at 0 rfl rfl) (by omega) (blz_at 0 rfl (by decide)) up_eq dX3_init_56 ?_
  refine g_eqZ up_up ?_
  refine g_aload_n hC 0 dX3_init_59 rfl rfl ?_
  refine g_iconst hC (v := 3) dX3_init_60 ic_3 ?_
  refine h_new_int hC (L := [(3 + 20, 0), (19, 4), (7, 0), (14, 6), (14, 6), (14, 36), (7, 0), (14, 6), (14, 6), (14, 36), (7, 0), (14, 6), (14, 6), (14, 36), (7, 0), (14, 6), (14, 6), (14, 36), (14, 3)]) (len := 3) rfl (by decide) (by decide) (by decide) (by omega) dX3_init_61 ?_
  show gV l b0 D K (o + 20, blk κ o [(3 + 20, 0), (19, 4), (7, 0), (14, 6), (14, 6), (14, 36), (7, 0), (14, 6), (14, 6), (14, 36), (7, 0), (14, 6), (14, 6), (14, 36), (7, 0), (14, 6), (14, 6), (14, 36), (14, 3), (14, 3)], blz X o 20, Y, (va_up (va_up Z (o + 1) (va_up (va_up (va_up (va_up (fun _ => none) 0 (some (o + 2))) 1 (some (o + 6))) 2 (some (o + 10))) 3 (some (o + 14)))) o (va_up (va_up (fun _ => none) 1 (some (o + 1))) 2 (some (o + 18)))), 19, 226) 63 [(0, .ref (b0 + o)), (1, .ref (b0 + 32))] [.ref (b0 + (o + 19)), .ref (b0 + o)]
  refine pf_X3_22 hC hI (z := (va_up (va_up (fun _ => none) 1 (some (o + 1))) 2 (some (o + 18)))) (blk_at 0 rfl rfl) (by omega) (blz_at 0 rfl (by decide)) up_eq dX3_init_63 ?_
  refine g_eqZ up_up ?_
  refine g_aload_n hC 0 dX3_init_66 rfl rfl ?_
  refine g_aload_n hC 1 dX3_init_67 rfl rfl ?_
  refine pf_X3_25 hC hI (z := (va_up (va_up (va_up (fun _ => none) 1 (some (o + 1))) 2 (some (o + 18))) 3 (some (o + 19)))) (blk_at 0 rfl rfl) (by omega) (blz_at 0 rfl (by decide)) up_eq dX3_init_68 ?_
  refine g_eqZ up_up ?_
  refine g_conv (κ' := blk κ o [(3, 0), (19, 4), (7, 0), (14, 6), (14, 6), (14, 36), (7, 0), (14, 6), (14, 6), (14, 36), (7, 0), (14, 6), (14, 6), (14, 36), (7, 0), (14, 6), (14, 6), (14, 36), (14, 3), (14, 3)]) (X' := blz X o 20) (Y' := Y) (Z' := Z2) (fun i hi => ?_) (hret _ _ dX3_init_71)
  by_cases h : i = o
  · subst h
    have e1 : blk κ i [(3, 0), (19, 4), (7, 0), (14, 6), (14, 6), (14, 36), (7, 0), (14, 6), (14, 6), (14, 36), (7, 0), (14, 6), (14, 6), (14, 36), (7, 0), (14, 6), (14, 6), (14, 36), (14, 3), (14, 3)] i = (3, 0) := blk_at 0 rfl rfl
    have e2 : blk κ i [(3 + 20, 0), (19, 4), (7, 0), (14, 6), (14, 6), (14, 36), (7, 0), (14, 6), (14, 6), (14, 36), (7, 0), (14, 6), (14, 6), (14, 36), (7, 0), (14, 6), (14, 6), (14, 36), (14, 3), (14, 3)] i = (3 + 20, 0) := blk_at 0 rfl rfl
    have e3 : (va_up (va_up Z (i + 1) (va_up (va_up (va_up (va_up (fun _ => none) 0 (some (i + 2))) 1 (some (i + 6))) 2 (some (i + 10))) 3 (some (i + 14)))) i (va_up (va_up (va_up (va_up (fun _ => none) 1 (some (i + 1))) 2 (some (i + 18))) 3 (some (i + 19))) 0 (some 32))) i = (va_up (va_up (va_up (va_up (fun _ => none) 1 (some (i + 1))) 2 (some (i + 18))) 3 (some (i + 19))) 0 (some 32)) := up_eq
    have e4 : blz X i 20 i = fun _ => 0 := blz_at 0 rfl (by decide)
    rw [e1, e2, gCell_o (by decide), gCell_w, e3, e4]
    rfl
  · rw [hZ2 i h, blk_ne0 (k := (3, 0)) (k' := (3 + 20, 0)) h]
    congr 1
    simp [va_up, h]
set_option maxHeartbeats 4000000 in
set_option maxRecDepth 100000 in
theorem c_X2_init (l : Launch) {b0 : Nat} {D : GD} {n o : Nat} {κ : QT} {X : XT} {Y : YT} {Z Z2 : ZT} (hn : n = o + 1) (hk : κ o = (2 + 20, 0)) (hx : X o = fun _ => 0) (hz : Z o = fun _ => none) (hZ2 : ∀ i, i ≠ o → Z2 i = Z i) : gMv l yX2_init cX2_init 2 none 2 34 6 104 b0 D [.ref (b0 + o), .ref (b0 + 32)] (n, κ, X, Y, Z) (o + 7, blk κ o [(2, 0), (7, 0), (14, 6), (14, 6), (14, 36), (14, 25), (14, 25)], blz X o 7, Y, Z2) := by
  subst hn
  refine g_metc (own := RX2) (by decide) rfl rfl (Nat.le_of_ble_eq_true rfl) ?_
  intro K hC hI hret
  refine g_eqs (blk_self hk) (blz_self hx) ?_
  show gV l b0 D K (o + 1, blk κ o [(2 + 20, 0)], blz X o 1, Y, Z, 0, 0) 0 [(0, .ref (b0 + o)), (1, .ref (b0 + 32))] []
  refine g_aload_n hC 0 dX2_init_0 rfl rfl ?_
  refine g_objInit hC tw_404 (by decide) (Nat.le_of_ble_eq_true rfl) dX2_init_1 ?_
  refine g_aload_n hC 0 dX2_init_4 rfl rfl ?_
  refine h_newo7 hC (L := [(2 + 20, 0)]) rfl tw_405 (by omega) dX2_init_5 ?_
  show gV l b0 D K (o + 2, blk κ o [(2 + 20, 0), (7 + 20, 0)], blz X o 2, Y, (va_up Z (o + 1) (fun _ => none)), 1, 6) 8 [(0, .ref (b0 + o)), (1, .ref (b0 + 32))] [.ref (b0 + (o + 1)), .ref (b0 + o)]
  refine g_dup hC dX2_init_8 rfl ?_
  refine g_callIN_v hC (a := o + 1) (As := []) (gMv_eqs (c_X7_init l (o := o + 1) (Z2 := Z) rfl (blk_at 1 rfl rfl) (blz_at 1 rfl (by simp)) up_eq (fun i hi => (up_ne hi).symm)) (n2 := o + 5) rfl (blk_blk (L := [(2 + 20, 0)]) (by decide)) blz_blz) tw_196 (List.mem_of_getElem? (i := 8) rfl) tw_120 tw_195 rfl pd_X7_init (by decide) (by omega) rfl rfl (Nat.le_of_ble_eq_true rfl) rfl dX2_init_9 ?_
  show gV l b0 D K (o + 5, blk κ o [(2 + 20, 0), (7, 0), (14, 6), (14, 6), (14, 36)], blz X o 5, Y, Z, 4, 54) 12 [(0, .ref (b0 + o)), (1, .ref (b0 + 32))] [.ref (b0 + (o + 1)), .ref (b0 + o)]
  refine pf_X2_10 hC hI (z := (fun _ => none)) (blk_at 0 rfl rfl) (by omega) (blz_at 0 rfl (by decide)) hz dX2_init_12 ?_
  refine g_aload_n hC 0 dX2_init_15 rfl rfl ?_
  refine g_bipush hC (v := 25) dX2_init_16 bp_25 ?_
  refine h_new_int hC (L := [(2 + 20, 0), (7, 0), (14, 6), (14, 6), (14, 36)]) (len := 25) rfl (by decide) (by decide) (by decide) (by omega) dX2_init_18 ?_
  show gV l b0 D K (o + 6, blk κ o [(2 + 20, 0), (7, 0), (14, 6), (14, 6), (14, 36), (14, 25)], blz X o 6, Y, (va_up Z o (va_up (fun _ => none) 1 (some (o + 1)))), 5, 79) 20 [(0, .ref (b0 + o)), (1, .ref (b0 + 32))] [.ref (b0 + (o + 5)), .ref (b0 + o)]
  refine pf_X2_16 hC hI (z := (va_up (fun _ => none) 1 (some (o + 1)))) (blk_at 0 rfl rfl) (by omega) (blz_at 0 rfl (by decide)) up_eq dX2_init_20 ?_
  refine g_eqZ up_up ?_
  refine g_aload_n hC 0 dX2_init_23 rfl rfl ?_
  refine g_bipush hC (v := 25) dX2_init_24 bp_25 ?_
  refine h_new_int hC (L := [(2 + 20, 0), (7, 0), (14, 6), (14, 6), (14, 36), (14, 25)]) (len := 25) rfl (by decide) (by decide) (by decide) (by omega) dX2_init_26 ?_
  show gV l b0 D K (o + 7, blk κ o [(2 + 20, 0), (7, 0), (14, 6), (14, 6), (14, 36), (14, 25), (14, 25)], blz X o 7, Y, (va_up Z o (va_up (va_up (fun _ => none) 1 (some (o + 1))) 2 (some (o + 5)))), 6, 104) 28 [(0, .ref (b0 + o)), (1, .ref (b0 + 32))] [.ref (b0 + (o + 6)), .ref (b0 + o)]
  refine pf_X2_20 hC hI (z := (va_up (va_up (fun _ => none) 1 (some (o + 1))) 2 (some (o + 5)))) (blk_at 0 rfl rfl) (by omega) (blz_at 0 rfl (by decide)) up_eq dX2_init_28 ?_
  refine g_eqZ up_up ?_
  refine g_aload_n hC 0 dX2_init_31 rfl rfl ?_
  refine g_aload_n hC 1 dX2_init_32 rfl rfl ?_
  refine pf_X2_23 hC hI (z := (va_up (va_up (va_up (fun _ => none) 1 (some (o + 1))) 2 (some (o + 5))) 3 (some (o + 6)))) (blk_at 0 rfl rfl) (by omega) (blz_at 0 rfl (by decide)) up_eq dX2_init_33 ?_
  refine g_eqZ up_up ?_
  refine g_conv (κ' := blk κ o [(2, 0), (7, 0), (14, 6), (14, 6), (14, 36), (14, 25), (14, 25)]) (X' := blz X o 7) (Y' := Y) (Z' := Z2) (fun i hi => ?_) (hret _ _ dX2_init_36)
  by_cases h : i = o
  · subst h
    have e1 : blk κ i [(2, 0), (7, 0), (14, 6), (14, 6), (14, 36), (14, 25), (14, 25)] i = (2, 0) := blk_at 0 rfl rfl
    have e2 : blk κ i [(2 + 20, 0), (7, 0), (14, 6), (14, 6), (14, 36), (14, 25), (14, 25)] i = (2 + 20, 0) := blk_at 0 rfl rfl
    have e3 : (va_up Z i (va_up (va_up (va_up (va_up (fun _ => none) 1 (some (i + 1))) 2 (some (i + 5))) 3 (some (i + 6))) 0 (some 32))) i = (va_up (va_up (va_up (va_up (fun _ => none) 1 (some (i + 1))) 2 (some (i + 5))) 3 (some (i + 6))) 0 (some 32)) := up_eq
    have e4 : blz X i 7 i = fun _ => 0 := blz_at 0 rfl (by decide)
    rw [e1, e2, gCell_o (by decide), gCell_w, e3, e4]
    rfl
  · rw [hZ2 i h, blk_ne0 (k := (2, 0)) (k' := (2 + 20, 0)) h]
    congr 1
    simp [va_up, h]
set_option maxHeartbeats 4000000 in
set_option maxRecDepth 100000 in
theorem c_X0_init (l : Launch) {b0 : Nat} {D : GD} {n o : Nat} {κ : QT} {X : XT} {Y : YT} {Z Z2 : ZT} (hn : n = o + 1) (hk : κ o = (0 + 20, 0)) (hx : X o = fun _ => 0) (hz : Z o = fun _ => none) (hZ2 : ∀ i, i ≠ o → Z2 i = Z i) : gMv l yX0_init cX0_init 2 none 2 34 6 103 b0 D [.ref (b0 + o), .ref (b0 + 32)] (n, κ, X, Y, Z) (o + 7, blk κ o [(0, 0), (7, 0), (14, 6), (14, 6), (14, 36), (14, 7), (14, 42)], blz X o 7, Y, Z2) := by
  subst hn
  refine g_metc (own := RX0) (by decide) rfl rfl (Nat.le_of_ble_eq_true rfl) ?_
  intro K hC hI hret
  refine g_eqs (blk_self hk) (blz_self hx) ?_
  show gV l b0 D K (o + 1, blk κ o [(0 + 20, 0)], blz X o 1, Y, Z, 0, 0) 0 [(0, .ref (b0 + o)), (1, .ref (b0 + 32))] []
  refine g_aload_n hC 0 dX0_init_0 rfl rfl ?_
  refine g_objInit hC tw_437 (by decide) (Nat.le_of_ble_eq_true rfl) dX0_init_1 ?_
  refine g_aload_n hC 0 dX0_init_4 rfl rfl ?_
  refine h_newo7 hC (L := [(0 + 20, 0)]) rfl tw_438 (by omega) dX0_init_5 ?_
  show gV l b0 D K (o + 2, blk κ o [(0 + 20, 0), (7 + 20, 0)], blz X o 2, Y, (va_up Z (o + 1) (fun _ => none)), 1, 6) 8 [(0, .ref (b0 + o)), (1, .ref (b0 + 32))] [.ref (b0 + (o + 1)), .ref (b0 + o)]
  refine g_dup hC dX0_init_8 rfl ?_
  refine g_callIN_v hC (a := o + 1) (As := []) (gMv_eqs (c_X7_init l (o := o + 1) (Z2 := Z) rfl (blk_at 1 rfl rfl) (blz_at 1 rfl (by simp)) up_eq (fun i hi => (up_ne hi).symm)) (n2 := o + 5) rfl (blk_blk (L := [(0 + 20, 0)]) (by decide)) blz_blz) tw_196 (List.mem_of_getElem? (i := 9) rfl) tw_120 tw_195 rfl pd_X7_init (by decide) (by omega) rfl rfl (Nat.le_of_ble_eq_true rfl) rfl dX0_init_9 ?_
  show gV l b0 D K (o + 5, blk κ o [(0 + 20, 0), (7, 0), (14, 6), (14, 6), (14, 36)], blz X o 5, Y, Z, 4, 54) 12 [(0, .ref (b0 + o)), (1, .ref (b0 + 32))] [.ref (b0 + (o + 1)), .ref (b0 + o)]
  refine pf_X0_12 hC hI (z := (fun _ => none)) (blk_at 0 rfl rfl) (by omega) (blz_at 0 rfl (by decide)) hz dX0_init_12 ?_
  refine g_aload_n hC 0 dX0_init_15 rfl rfl ?_
  refine g_bipush hC (v := 7) dX0_init_16 bp_7 ?_
  refine h_new_int hC (L := [(0 + 20, 0), (7, 0), (14, 6), (14, 6), (14, 36)]) (len := 7) rfl (by decide) (by decide) (by decide) (by omega) dX0_init_18 ?_
  show gV l b0 D K (o + 6, blk κ o [(0 + 20, 0), (7, 0), (14, 6), (14, 6), (14, 36), (14, 7)], blz X o 6, Y, (va_up Z o (va_up (fun _ => none) 1 (some (o + 1)))), 5, 61) 20 [(0, .ref (b0 + o)), (1, .ref (b0 + 32))] [.ref (b0 + (o + 5)), .ref (b0 + o)]
  refine pf_X0_18 hC hI (z := (va_up (fun _ => none) 1 (some (o + 1)))) (blk_at 0 rfl rfl) (by omega) (blz_at 0 rfl (by decide)) up_eq dX0_init_20 ?_
  refine g_eqZ up_up ?_
  refine g_aload_n hC 0 dX0_init_23 rfl rfl ?_
  refine g_bipush hC (v := 42) dX0_init_24 bp_42 ?_
  refine h_new_int hC (L := [(0 + 20, 0), (7, 0), (14, 6), (14, 6), (14, 36), (14, 7)]) (len := 42) rfl (by decide) (by decide) (by decide) (by omega) dX0_init_26 ?_
  show gV l b0 D K (o + 7, blk κ o [(0 + 20, 0), (7, 0), (14, 6), (14, 6), (14, 36), (14, 7), (14, 42)], blz X o 7, Y, (va_up Z o (va_up (va_up (fun _ => none) 1 (some (o + 1))) 2 (some (o + 5)))), 6, 103) 28 [(0, .ref (b0 + o)), (1, .ref (b0 + 32))] [.ref (b0 + (o + 6)), .ref (b0 + o)]
  refine pf_X0_22 hC hI (z := (va_up (va_up (fun _ => none) 1 (some (o + 1))) 2 (some (o + 5)))) (blk_at 0 rfl rfl) (by omega) (blz_at 0 rfl (by decide)) up_eq dX0_init_28 ?_
  refine g_eqZ up_up ?_
  refine g_aload_n hC 0 dX0_init_31 rfl rfl ?_
  refine g_aload_n hC 1 dX0_init_32 rfl rfl ?_
  refine pf_X0_25 hC hI (z := (va_up (va_up (va_up (fun _ => none) 1 (some (o + 1))) 2 (some (o + 5))) 4 (some (o + 6)))) (blk_at 0 rfl rfl) (by omega) (blz_at 0 rfl (by decide)) up_eq dX0_init_33 ?_
  refine g_eqZ up_up ?_
  refine g_conv (κ' := blk κ o [(0, 0), (7, 0), (14, 6), (14, 6), (14, 36), (14, 7), (14, 42)]) (X' := blz X o 7) (Y' := Y) (Z' := Z2) (fun i hi => ?_) (hret _ _ dX0_init_36)
  by_cases h : i = o
  · subst h
    have e1 : blk κ i [(0, 0), (7, 0), (14, 6), (14, 6), (14, 36), (14, 7), (14, 42)] i = (0, 0) := blk_at 0 rfl rfl
    have e2 : blk κ i [(0 + 20, 0), (7, 0), (14, 6), (14, 6), (14, 36), (14, 7), (14, 42)] i = (0 + 20, 0) := blk_at 0 rfl rfl
    have e3 : (va_up Z i (va_up (va_up (va_up (va_up (fun _ => none) 1 (some (i + 1))) 2 (some (i + 5))) 4 (some (i + 6))) 0 (some 32))) i = (va_up (va_up (va_up (va_up (fun _ => none) 1 (some (i + 1))) 2 (some (i + 5))) 4 (some (i + 6))) 0 (some 32)) := up_eq
    have e4 : blz X i 7 i = fun _ => 0 := blz_at 0 rfl (by decide)
    rw [e1, e2, gCell_o (by decide), gCell_w, e3, e4]
    rfl
  · rw [hZ2 i h, blk_ne0 (k := (0, 0)) (k' := (0 + 20, 0)) h]
    congr 1
    simp [va_up, h]

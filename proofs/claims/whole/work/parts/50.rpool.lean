/-- a block of new cells at o, by their kinds -/
def blk (κ : QT) (o : Nat) (L : List (Nat × Nat)) : QT := fun i => if i < o then κ i else L.getD (i - o) (κ i)
def blz (X : XT) (o m : Nat) : XT := fun i => if i < o then X i else if i < o + m then (fun _ => 0) else X i
theorem blk_lt {κ : QT} {o i : Nat} {L : List (Nat × Nat)} (h : i < o) : blk κ o L i = κ i := by simp [blk, h]
theorem blk_at {κ : QT} {o i : Nat} {L : List (Nat × Nat)} {k : Nat × Nat} (j : Nat) (hi : i = o + j) (h : L[j]? = some k) : blk κ o L i = k := by
  subst hi
  have hn : ¬ o + j < o := by omega
  simp [blk, hn, List.getD, h]
theorem blz_lt {X : XT} {o m i : Nat} (h : i < o) : blz X o m i = X i := by simp [blz, h]
theorem blz_at {X : XT} {o m i : Nat} (j : Nat) (hi : i = o + j) (h : j < m) : blz X o m i = fun _ => 0 := by
  subst hi
  have hn : ¬ o + j < o := by omega
  have hm : o + j < o + m := by omega
  simp [blz, hn, hm]
theorem blk_push {κ : QT} {o : Nat} {L : List (Nat × Nat)} {k : Nat × Nat} : va_up (blk κ o L) (o + L.length) k = blk κ o (L ++ [k]) := by
  funext i
  by_cases h : i = o + L.length
  · subst h
    rw [up_eq]
    exact (blk_at L.length rfl (by simp)).symm
  · rw [up_ne h]
    by_cases h2 : i < o
    · rw [blk_lt h2, blk_lt h2]
    · have h3 : ¬ i < o := h2
      simp only [blk, if_neg h3, List.getD]
      by_cases h4 : i - o < L.length
      · rw [List.getElem?_append_left h4]
      · have h5 : L.length < i - o := by omega
        rw [List.getElem?_eq_none (by omega), List.getElem?_eq_none (by simp; omega)]
theorem blz_push {X : XT} {o m : Nat} : va_up (blz X o m) (o + m) (fun _ => 0) = blz X o (m + 1) := by
  funext i
  by_cases h : i = o + m
  · subst h
    rw [up_eq]
    exact (blz_at m rfl (by omega)).symm
  · rw [up_ne h]
    by_cases h2 : i < o
    · rw [blz_lt h2, blz_lt h2]
    · by_cases h3 : i < o + m
      · have h4 : i < o + (m + 1) := by omega
        simp [blz, h2, h3, h4]
      · have h4 : ¬ i < o + (m + 1) := by omega
        simp [blz, h2, h3, h4]
theorem blk_blk {κ : QT} {o : Nat} {L T : List (Nat × Nat)} {k : Nat × Nat} (hT : 1 ≤ T.length) : blk (blk κ o (L ++ [k])) (o + L.length) T = blk κ o (L ++ T) := by
  funext i
  by_cases h2 : i < o
  · rw [blk_lt h2, blk_lt (by omega), blk_lt h2]
  · by_cases h3 : i < o + L.length
    · rw [blk_lt h3]
      simp only [blk, if_neg h2, List.getD]
      rw [List.getElem?_append_left (by omega), List.getElem?_append_left (by omega)]
    · have e : i - (o + L.length) = i - o - L.length := by omega
      simp only [blk, if_neg h2, if_neg h3, List.getD, e]
      rw [List.getElem?_append_right (l₁ := L) (l₂ := T) (i := i - o) (by omega)]
      by_cases h4 : i - o - L.length < T.length
      · rw [List.getElem?_eq_getElem h4]
        rfl
      · rw [List.getElem?_eq_none (by omega), List.getElem?_eq_none (by simp; omega)]
        rfl
theorem blz_blz {X : XT} {o m k : Nat} : blz (blz X o (m + 1)) (o + m) (k + 1) = blz X o (m + (k + 1)) := by
  funext i
  by_cases h2 : i < o
  · rw [blz_lt (by omega), blz_lt h2, blz_lt h2]
  · by_cases h3 : i < o + m
    · rw [blz_lt h3]
      have h4 : i < o + (m + 1) := by omega
      have h5 : i < o + (m + (k + 1)) := by omega
      simp [blz, h2, h4, h5]
    · by_cases h4 : i < o + m + (k + 1)
      · have h5 : i < o + (m + (k + 1)) := by omega
        simp [blz, h2, h3, h4, h5]
      · have h5 : ¬ i < o + (m + (k + 1)) := by omega
        have h6 : ¬ i < o + (m + 1) := by omega
        simp [blz, h2, h3, h4, h5, h6]
def gI (K : KT) : Prop := match K with
  | (p, e, R, s, m, args, below, meth, c, nL0, Q) => meth.name = "<init>"
section RAW
variable {l : Launch} {b0 : Nat} {D : GD} {K : KT} {own : String} {cc : ByteArray} {ret : Option FieldType} {nL fr lo mc ms : Nat} {pc : Nat} {loc : List (Nat × Value)} {st : List Value} {n o : Nat} {κ : QT} {X : XT} {Y : YT} {Z Z2 : ZT} {cs ss a : Nat} {L : List (Nat × Nat)}
theorem h_new_int (hC : gC l b0 D K own cc ret nL fr lo mc ms) {len : Nat} {v : Int32} (hn : n = o + L.length) (hv : ¬ v < 0) (hL0 : v.toNatClampNeg = len) (hby : len * componentBytes (newarray.typeOf .int) ≤ 536870912) (hrm : cs + 1 ≤ mc ∧ ss + len ≤ ms) (hd : decode cc pc = .ok (.newarray .int, 2)) (kk : gV l b0 D K (n + 1, blk κ o (L ++ [(14, len)]), blz X o (L.length + 1), Y, Z, cs + 1, ss + len) (pc + 2) loc (.ref (b0 + n) :: st)) : gV l b0 D K (n, blk κ o L, blz X o L.length, Y, Z, cs, ss) pc loc (.int v :: st) := by
  subst hn
  refine g_new_int hC hv hL0 hby hrm hd ?_
  rw [blk_push, blz_push]
  exact kk
theorem h_new_byte (hC : gC l b0 D K own cc ret nL fr lo mc ms) {len : Nat} {v : Int32} (hn : n = o + L.length) (hv : ¬ v < 0) (hL0 : v.toNatClampNeg = len) (hby : len * componentBytes (newarray.typeOf .byte) ≤ 536870912) (hrm : cs + 1 ≤ mc ∧ ss + len ≤ ms) (hd : decode cc pc = .ok (.newarray .byte, 2)) (kk : gV l b0 D K (n + 1, blk κ o (L ++ [(13, len)]), blz X o (L.length + 1), Y, Z, cs + 1, ss + len) (pc + 2) loc (.ref (b0 + n) :: st)) : gV l b0 D K (n, blk κ o L, blz X o L.length, Y, Z, cs, ss) pc loc (.int v :: st) := by
  subst hn
  refine g_new_byte hC hv hL0 hby hrm hd ?_
  rw [blk_push, blz_push]
  exact kk
theorem h_new_boolean (hC : gC l b0 D K own cc ret nL fr lo mc ms) {len : Nat} {v : Int32} (hn : n = o + L.length) (hv : ¬ v < 0) (hL0 : v.toNatClampNeg = len) (hby : len * componentBytes (newarray.typeOf .boolean) ≤ 536870912) (hrm : cs + 1 ≤ mc ∧ ss + len ≤ ms) (hd : decode cc pc = .ok (.newarray .boolean, 2)) (kk : gV l b0 D K (n + 1, blk κ o (L ++ [(16, len)]), blz X o (L.length + 1), Y, Z, cs + 1, ss + len) (pc + 2) loc (.ref (b0 + n) :: st)) : gV l b0 D K (n, blk κ o L, blz X o L.length, Y, Z, cs, ss) pc loc (.int v :: st) := by
  subst hn
  refine g_new_boolean hC hv hL0 hby hrm hd ?_
  rw [blk_push, blz_push]
  exact kk
theorem h_new_long (hC : gC l b0 D K own cc ret nL fr lo mc ms) {len : Nat} {v : Int32} (hn : n = o + L.length) (hv : ¬ v < 0) (hL0 : v.toNatClampNeg = len) (hby : len * componentBytes (newarray.typeOf .long) ≤ 536870912) (hrm : cs + 1 ≤ mc ∧ ss + len ≤ ms) (hd : decode cc pc = .ok (.newarray .long, 2)) (kk : gV l b0 D K (n + 1, blk κ o (L ++ [(15, len)]), blz X o (L.length + 1), va_up Y n (fun _ => 0), Z, cs + 1, ss + len) (pc + 2) loc (.ref (b0 + n) :: st)) : gV l b0 D K (n, blk κ o L, blz X o L.length, Y, Z, cs, ss) pc loc (.int v :: st) := by
  subst hn
  refine g_new_long hC hv hL0 hby hrm hd ?_
  rw [blk_push]
  refine g_conv (fun i hi => ?_) kk
  by_cases h : i = o + L.length
  · subst h
    rw [blk_at (k := (15, len)) L.length rfl (by simp), gCell_j, gCell_j]
  · rw [← blz_push, up_ne h]
theorem h_anew17 (hC : gC l b0 D K own cc ret nL fr lo mc ms) {idx len : Nat} {v : Int32} (hn : n = o + L.length) (hw : Cond.classLink own idx RX4 ∈ gtbl) (hv : ¬ v < 0) (hL0 : v.toNatClampNeg = len) (hby : len * 4 ≤ 536870912) (hrm : cs + 1 ≤ mc ∧ ss + len ≤ ms) (hd : decode cc pc = .ok (.anewarray idx, 3)) (kk : gV l b0 D K (n + 1, blk κ o (L ++ [(17, len)]), blz X o (L.length + 1), Y, va_up Z n (fun _ => none), cs + 1, ss + len) (pc + 3) loc (.ref (b0 + n) :: st)) : gV l b0 D K (n, blk κ o L, blz X o L.length, Y, Z, cs, ss) pc loc (.int v :: st) := by
  subst hn
  refine g_anew17 hC hw hv hL0 hby hrm hd ?_
  rw [blk_push]
  refine g_conv (fun i hi => ?_) kk
  by_cases h : i = o + L.length
  · subst h
    rw [blk_at (k := (17, len)) L.length rfl (by simp), gCell_r17, gCell_r17]
  · rw [← blz_push, up_ne h]
theorem h_anew18 (hC : gC l b0 D K own cc ret nL fr lo mc ms) {idx len : Nat} {v : Int32} (hn : n = o + L.length) (hw : Cond.classLink own idx RX6 ∈ gtbl) (hv : ¬ v < 0) (hL0 : v.toNatClampNeg = len) (hby : len * 4 ≤ 536870912) (hrm : cs + 1 ≤ mc ∧ ss + len ≤ ms) (hd : decode cc pc = .ok (.anewarray idx, 3)) (kk : gV l b0 D K (n + 1, blk κ o (L ++ [(18, len)]), blz X o (L.length + 1), Y, va_up Z n (fun _ => none), cs + 1, ss + len) (pc + 3) loc (.ref (b0 + n) :: st)) : gV l b0 D K (n, blk κ o L, blz X o L.length, Y, Z, cs, ss) pc loc (.int v :: st) := by
  subst hn
  refine g_anew18 hC hw hv hL0 hby hrm hd ?_
  rw [blk_push]
  refine g_conv (fun i hi => ?_) kk
  by_cases h : i = o + L.length
  · subst h
    rw [blk_at (k := (18, len)) L.length rfl (by simp), gCell_r18, gCell_r18]
  · rw [← blz_push, up_ne h]
theorem h_anew19 (hC : gC l b0 D K own cc ret nL fr lo mc ms) {idx len : Nat} {v : Int32} (hn : n = o + L.length) (hw : Cond.classLink own idx RX7 ∈ gtbl) (hv : ¬ v < 0) (hL0 : v.toNatClampNeg = len) (hby : len * 4 ≤ 536870912) (hrm : cs + 1 ≤ mc ∧ ss + len ≤ ms) (hd : decode cc pc = .ok (.anewarray idx, 3)) (kk : gV l b0 D K (n + 1, blk κ o (L ++ [(19, len)]), blz X o (L.length + 1), Y, va_up Z n (fun _ => none), cs + 1, ss + len) (pc + 3) loc (.ref (b0 + n) :: st)) : gV l b0 D K (n, blk κ o L, blz X o L.length, Y, Z, cs, ss) pc loc (.int v :: st) := by
  subst hn
  refine g_anew19 hC hw hv hL0 hby hrm hd ?_
  rw [blk_push]
  refine g_conv (fun i hi => ?_) kk
  by_cases h : i = o + L.length
  · subst h
    rw [blk_at (k := (19, len)) L.length rfl (by simp), gCell_r19, gCell_r19]
  · rw [← blz_push, up_ne h]
theorem h_newo0 (hC : gC l b0 D K own cc ret nL fr lo mc ms) {idx : Nat} (hn : n = o + L.length) (hw : Cond.classLink own idx RX0 ∈ gtbl) (hrm : cs + 1 ≤ mc ∧ ss + 5 ≤ ms) (hd : decode cc pc = .ok (.new idx, 3)) (kk : gV l b0 D K (n + 1, blk κ o (L ++ [(0 + 20, 0)]), blz X o (L.length + 1), Y, va_up Z n (fun _ => none), cs + 1, ss + 5) (pc + 3) loc (.ref (b0 + n) :: st)) : gV l b0 D K (n, blk κ o L, blz X o L.length, Y, Z, cs, ss) pc loc st := by
  subst hn
  refine g_newo0 hC hw hrm hd ?_
  rw [blk_push, blz_push]
  exact kk
theorem h_newo1 (hC : gC l b0 D K own cc ret nL fr lo mc ms) {idx : Nat} (hn : n = o + L.length) (hw : Cond.classLink own idx RX1 ∈ gtbl) (hrm : cs + 1 ≤ mc ∧ ss + 3 ≤ ms) (hd : decode cc pc = .ok (.new idx, 3)) (kk : gV l b0 D K (n + 1, blk κ o (L ++ [(1 + 20, 0)]), blz X o (L.length + 1), Y, va_up Z n (fun _ => none), cs + 1, ss + 3) (pc + 3) loc (.ref (b0 + n) :: st)) : gV l b0 D K (n, blk κ o L, blz X o L.length, Y, Z, cs, ss) pc loc st := by
  subst hn
  refine g_newo1 hC hw hrm hd ?_
  rw [blk_push, blz_push]
  exact kk
theorem h_newo2 (hC : gC l b0 D K own cc ret nL fr lo mc ms) {idx : Nat} (hn : n = o + L.length) (hw : Cond.classLink own idx RX2 ∈ gtbl) (hrm : cs + 1 ≤ mc ∧ ss + 7 ≤ ms) (hd : decode cc pc = .ok (.new idx, 3)) (kk : gV l b0 D K (n + 1, blk κ o (L ++ [(2 + 20, 0)]), blz X o (L.length + 1), Y, va_up Z n (fun _ => none), cs + 1, ss + 7) (pc + 3) loc (.ref (b0 + n) :: st)) : gV l b0 D K (n, blk κ o L, blz X o L.length, Y, Z, cs, ss) pc loc st := by
  subst hn
  refine g_newo2 hC hw hrm hd ?_
  rw [blk_push, blz_push]
  exact kk
theorem h_newo3 (hC : gC l b0 D K own cc ret nL fr lo mc ms) {idx : Nat} (hn : n = o + L.length) (hw : Cond.classLink own idx RX3 ∈ gtbl) (hrm : cs + 1 ≤ mc ∧ ss + 5 ≤ ms) (hd : decode cc pc = .ok (.new idx, 3)) (kk : gV l b0 D K (n + 1, blk κ o (L ++ [(3 + 20, 0)]), blz X o (L.length + 1), Y, va_up Z n (fun _ => none), cs + 1, ss + 5) (pc + 3) loc (.ref (b0 + n) :: st)) : gV l b0 D K (n, blk κ o L, blz X o L.length, Y, Z, cs, ss) pc loc st := by
  subst hn
  refine g_newo3 hC hw hrm hd ?_
  rw [blk_push, blz_push]
  exact kk
theorem h_newo4 (hC : gC l b0 D K own cc ret nL fr lo mc ms) {idx : Nat} (hn : n = o + L.length) (hw : Cond.classLink own idx RX4 ∈ gtbl) (hrm : cs + 1 ≤ mc ∧ ss + 2 ≤ ms) (hd : decode cc pc = .ok (.new idx, 3)) (kk : gV l b0 D K (n + 1, blk κ o (L ++ [(4 + 20, 0)]), blz X o (L.length + 1), Y, va_up Z n (fun _ => none), cs + 1, ss + 2) (pc + 3) loc (.ref (b0 + n) :: st)) : gV l b0 D K (n, blk κ o L, blz X o L.length, Y, Z, cs, ss) pc loc st := by
  subst hn
  refine g_newo4 hC hw hrm hd ?_
  rw [blk_push, blz_push]
  exact kk
theorem h_newo5 (hC : gC l b0 D K own cc ret nL fr lo mc ms) {idx : Nat} (hn : n = o + L.length) (hw : Cond.classLink own idx RX5 ∈ gtbl) (hrm : cs + 1 ≤ mc ∧ ss + 4 ≤ ms) (hd : decode cc pc = .ok (.new idx, 3)) (kk : gV l b0 D K (n + 1, blk κ o (L ++ [(5 + 20, 0)]), blz X o (L.length + 1), Y, va_up Z n (fun _ => none), cs + 1, ss + 4) (pc + 3) loc (.ref (b0 + n) :: st)) : gV l b0 D K (n, blk κ o L, blz X o L.length, Y, Z, cs, ss) pc loc st := by
  subst hn
  refine g_newo5 hC hw hrm hd ?_
  rw [blk_push, blz_push]
  exact kk
theorem h_newo6 (hC : gC l b0 D K own cc ret nL fr lo mc ms) {idx : Nat} (hn : n = o + L.length) (hw : Cond.classLink own idx RX6 ∈ gtbl) (hrm : cs + 1 ≤ mc ∧ ss + 10 ≤ ms) (hd : decode cc pc = .ok (.new idx, 3)) (kk : gV l b0 D K (n + 1, blk κ o (L ++ [(6 + 20, 0)]), blz X o (L.length + 1), Y, va_up Z n (fun _ => none), cs + 1, ss + 10) (pc + 3) loc (.ref (b0 + n) :: st)) : gV l b0 D K (n, blk κ o L, blz X o L.length, Y, Z, cs, ss) pc loc st := by
  subst hn
  refine g_newo6 hC hw hrm hd ?_
  rw [blk_push, blz_push]
  exact kk
theorem h_newo7 (hC : gC l b0 D K own cc ret nL fr lo mc ms) {idx : Nat} (hn : n = o + L.length) (hw : Cond.classLink own idx RX7 ∈ gtbl) (hrm : cs + 1 ≤ mc ∧ ss + 6 ≤ ms) (hd : decode cc pc = .ok (.new idx, 3)) (kk : gV l b0 D K (n + 1, blk κ o (L ++ [(7 + 20, 0)]), blz X o (L.length + 1), Y, va_up Z n (fun _ => none), cs + 1, ss + 6) (pc + 3) loc (.ref (b0 + n) :: st)) : gV l b0 D K (n, blk κ o L, blz X o L.length, Y, Z, cs, ss) pc loc st := by
  subst hn
  refine g_newo7 hC hw hrm hd ?_
  rw [blk_push, blz_push]
  exact kk
theorem h_newo8 (hC : gC l b0 D K own cc ret nL fr lo mc ms) {idx : Nat} (hn : n = o + L.length) (hw : Cond.classLink own idx RX8 ∈ gtbl) (hrm : cs + 1 ≤ mc ∧ ss + 8 ≤ ms) (hd : decode cc pc = .ok (.new idx, 3)) (kk : gV l b0 D K (n + 1, blk κ o (L ++ [(8 + 20, 0)]), blz X o (L.length + 1), Y, va_up Z n (fun _ => none), cs + 1, ss + 8) (pc + 3) loc (.ref (b0 + n) :: st)) : gV l b0 D K (n, blk κ o L, blz X o L.length, Y, Z, cs, ss) pc loc st := by
  subst hn
  refine g_newo8 hC hw hrm hd ?_
  rw [blk_push, blz_push]
  exact kk
theorem h_newo9 (hC : gC l b0 D K own cc ret nL fr lo mc ms) {idx : Nat} (hn : n = o + L.length) (hw : Cond.classLink own idx RX9 ∈ gtbl) (hrm : cs + 1 ≤ mc ∧ ss + 6 ≤ ms) (hd : decode cc pc = .ok (.new idx, 3)) (kk : gV l b0 D K (n + 1, blk κ o (L ++ [(9 + 20, 0)]), blz X o (L.length + 1), Y, va_up Z n (fun _ => none), cs + 1, ss + 6) (pc + 3) loc (.ref (b0 + n) :: st)) : gV l b0 D K (n, blk κ o L, blz X o L.length, Y, Z, cs, ss) pc loc st := by
  subst hn
  refine g_newo9 hC hw hrm hd ?_
  rw [blk_push, blz_push]
  exact kk
theorem h_newo10 (hC : gC l b0 D K own cc ret nL fr lo mc ms) {idx : Nat} (hn : n = o + L.length) (hw : Cond.classLink own idx RX10 ∈ gtbl) (hrm : cs + 1 ≤ mc ∧ ss + 2 ≤ ms) (hd : decode cc pc = .ok (.new idx, 3)) (kk : gV l b0 D K (n + 1, blk κ o (L ++ [(10 + 20, 0)]), blz X o (L.length + 1), Y, va_up Z n (fun _ => none), cs + 1, ss + 2) (pc + 3) loc (.ref (b0 + n) :: st)) : gV l b0 D K (n, blk κ o L, blz X o L.length, Y, Z, cs, ss) pc loc st := by
  subst hn
  refine g_newo10 hC hw hrm hd ?_
  rw [blk_push, blz_push]
  exact kk
theorem h_newo11 (hC : gC l b0 D K own cc ret nL fr lo mc ms) {idx : Nat} (hn : n = o + L.length) (hw : Cond.classLink own idx RX11 ∈ gtbl) (hrm : cs + 1 ≤ mc ∧ ss + 13 ≤ ms) (hd : decode cc pc = .ok (.new idx, 3)) (kk : gV l b0 D K (n + 1, blk κ o (L ++ [(11 + 20, 0)]), blz X o (L.length + 1), Y, va_up Z n (fun _ => none), cs + 1, ss + 13) (pc + 3) loc (.ref (b0 + n) :: st)) : gV l b0 D K (n, blk κ o L, blz X o L.length, Y, Z, cs, ss) pc loc st := by
  subst hn
  refine g_newo11 hC hw hrm hd ?_
  rw [blk_push, blz_push]
  exact kk
theorem h_newo12 (hC : gC l b0 D K own cc ret nL fr lo mc ms) {idx : Nat} (hn : n = o + L.length) (hw : Cond.classLink own idx RX12 ∈ gtbl) (hrm : cs + 1 ≤ mc ∧ ss + 58 ≤ ms) (hd : decode cc pc = .ok (.new idx, 3)) (kk : gV l b0 D K (n + 1, blk κ o (L ++ [(12 + 20, 0)]), blz X o (L.length + 1), Y, va_up Z n (fun _ => none), cs + 1, ss + 58) (pc + 3) loc (.ref (b0 + n) :: st)) : gV l b0 D K (n, blk κ o L, blz X o L.length, Y, Z, cs, ss) pc loc st := by
  subst hn
  refine g_newo12 hC hw hrm hd ?_
  rw [blk_push, blz_push]
  exact kk
theorem g_putF (hC : gC l b0 D K own cc ret nL fr lo mc ms) (hI : gI K) {ci k idx N : Nat} {C : String} {T : u_T} {ty0 : Nat → FieldType} (hc : vwCl[ci]? = some (C, T, N)) (hin : ∀ w ∈ u_ws C T N, w ∈ gtbl) (hty : ∀ k, k < N → parseFieldDescriptor (T k).2.2.1 = some (ty0 k)) (hnm : ∀ a, a < N → ∀ b, b < N → a ≠ b → (T a).2.1 ≠ (T b).2.1) (hkN : k < N) (hlk0 : Cond.fieldLink own idx C (T k).2.1 (T k).2.2.1 ∈ gtbl) (hT : (T k).1 = C) (hTo : (T k).1 = own) (hfin : (T k).2.2.2 = true) {ty : FieldType} {v : Value} (hdc : parseFieldDescriptor (T k).2.2.1 = some ty) (hn : narrow ty v = v) (hfit : fits ty v = true) {x : Nat → Int32} {z z' : Nat → Option Nat} (hl0 : k < (gFr b0 x z ci).length) (hz' : (gFr b0 x z ci).set k v = gFr b0 x z' ci) (hk : κ a = (ci + 20, 0)) (ha : a < n) (hxa : X a = x) (hza : Z a = z) (hd : decode cc pc = .ok (.putfield idx, 3)) (kk : gV l b0 D K (n, κ, X, Y, va_up Z a z', cs, ss) (pc + 3) loc st) : gV l b0 D K (n, κ, X, Y, Z, cs, ss) pc loc (v :: .ref (b0 + a) :: st) := by
  obtain ⟨p, e, R, s, m, args, below, meth, c, nL0, Q⟩ := K
  obtain ⟨hx, hb, hr, hml, rfl, hown, hts, hlk, hK, hNw, hb0, rfl⟩ := hC
  intro H locs ls hR hS hl
  have hcell := hR.2 a ha
  rw [hk, gCell_w, hxa, hza] at hcell
  have hap := va_apart (own := own) hts hin ty0 hty hnm hK hc
  obtain ⟨r, h1, cell, q1, q2, q3, q4⟩ := hcell
  have hr' : r = (C, T, N) := Option.some.inj (h1.symm.trans hc)
  subst hr'
  obtain ⟨hS1, hfc, kC, hkC, hkind⟩ := hK.1 ci _ hc
  obtain ⟨cf, kf, fi, f, hi, hsl⟩ := hS1 k hkN
  have hlay := hts _ (hin _ (u_in_lay hkN))
  unfold u_lay at hlay
  rw [if_pos hfin] at hlay
  have hst := (u_facts hfc hkC (u_lays hts hin hkN) hi).1
  have hcf : m.cls = cf := by
    obtain ⟨_, _, c', _, _, _, -, -, hf', -, -, -, hown2, -⟩ := Cond.laysFinal_spec hlay
    have e1 : c' = cf := by have := hi.symm.trans hf'; simp at this; exact this.1.symm
    rw [hTo] at hown2
    rw [← e1]; exact Option.some.inj (hown.symm.trans hown2)
  have h6 := u_fits hfc hkC hkind (Or.inr hlay) hi hdc hn hfit
  have hi2 : s.fieldFound? C (T k).2.1 (T k).2.2.1 = some (cf, kf, fi, f) := by rw [← hT]; exact hi
  refine W.putFinK hx hb hown (hts _ hlk0) hi2 hst hcf hI (by rw [q2]; exact h6) q1 q3 (by rw [hsl]; exact k2_hasslot (q4 k hkN)) rfl rfl hd fun H' e1 e2 e3 => ?_
  rw [hsl] at e1 ⊢
  refine kk H' _ ls (gR_putZ hR e2 e3 ?_) (gS_put hb0 hS e2 e3) hl
  rw [hk, gCell_w, hxa, ← hz']
  exact ⟨_, hc, t_OB.to (V := updV (vp_V (gFr b0 x z ci)) k v) ⟨_, e1, q2, q3, t_set q4 hap hkN v⟩ (fun j _ => vp_updV_set hl0 v j)⟩
theorem g_putI (hC : gC l b0 D K own cc ret nL fr lo mc ms) {ci k idx N : Nat} {C : String} {T : u_T} {ty0 : Nat → FieldType} (hc : vwCl[ci]? = some (C, T, N)) (hin : ∀ w ∈ u_ws C T N, w ∈ gtbl) (hty : ∀ k, k < N → parseFieldDescriptor (T k).2.2.1 = some (ty0 k)) (hnm : ∀ a, a < N → ∀ b, b < N → a ≠ b → (T a).2.1 ≠ (T b).2.1) (hkN : k < N) (hlk0 : Cond.fieldLink own idx C (T k).2.1 (T k).2.2.1 ∈ gtbl) (hT : (T k).1 = C) (hfin : (T k).2.2.2 = false) {ty : FieldType} {v : Value} (hdc : parseFieldDescriptor (T k).2.2.1 = some ty) (hn : narrow ty v = v) (hfit : fits ty v = true) {x x' : Nat → Int32} {z : Nat → Option Nat} (hl0 : k < (gFr b0 x z ci).length) (hx' : (gFr b0 x z ci).set k v = gFr b0 x' z ci) (hk : κ a = (ci + 20, 0)) (ha : a < n) (hxa : X a = x) (hza : Z a = z) (hd : decode cc pc = .ok (.putfield idx, 3)) (kk : gV l b0 D K (n, κ, va_up X a x', Y, Z, cs, ss) (pc + 3) loc st) : gV l b0 D K (n, κ, X, Y, Z, cs, ss) pc loc (v :: .ref (b0 + a) :: st) := by
  obtain ⟨p, e, R, s, m, args, below, meth, c, nL0, Q⟩ := K
  obtain ⟨hx, hb, hr, hml, rfl, hown, hts, hlk, hK, hNw, hb0, rfl⟩ := hC
  intro H locs ls hR hS hl
  have hcell := hR.2 a ha
  rw [hk, gCell_w, hxa, hza] at hcell
  have hap := va_apart (own := own) hts hin ty0 hty hnm hK hc
  obtain ⟨r, h1, cell, q1, q2, q3, q4⟩ := hcell
  have hr' : r = (C, T, N) := Option.some.inj (h1.symm.trans hc)
  subst hr'
  obtain ⟨hS1, hfc, kC, hkC, hkind⟩ := hK.1 ci _ hc
  obtain ⟨cf, kf, fi, f, hi, hsl⟩ := hS1 k hkN
  have hlay := hts _ (hin _ (u_in_lay hkN))
  unfold u_lay at hlay
  rw [if_neg (by rw [hfin]; decide)] at hlay
  have hst := (u_facts hfc hkC (u_lays hts hin hkN) hi).1
  have h6 := u_store hfc hkC hkind hlay hi hdc hn hfit
  have hi2 : s.fieldFound? C (T k).2.1 (T k).2.2.1 = some (cf, kf, fi, f) := by rw [← hT]; exact hi
  refine W.putK hx hb (f := f) ⟨hown, hts _ hlk0, ⟨_, _, _, hi2⟩, hst⟩ (by rw [q2]; exact h6) q1 q3 (by rw [hsl]; exact k2_hasslot (q4 k hkN)) rfl rfl hd fun H' e1 e2 e3 => ?_
  rw [hsl] at e1 ⊢
  refine kk H' _ ls (gR_putX hR e2 e3 ?_) (gS_put hb0 hS e2 e3) hl
  rw [hk, gCell_w, hza, ← hx']
  exact ⟨_, hc, t_OB.to (V := updV (vp_V (gFr b0 x z ci)) k v) ⟨_, e1, q2, q3, t_set q4 hap hkN v⟩ (fun j _ => vp_updV_set hl0 v j)⟩
theorem g_getRaw (hC : gC l b0 D K own cc ret nL fr lo mc ms) {ci k idx N : Nat} {C : String} {T : u_T} (hc : vwCl[ci]? = some (C, T, N)) (hin : ∀ w ∈ u_ws C T N, w ∈ gtbl) (hkN : k < N) (hlk0 : Cond.fieldLink own idx C (T k).2.1 (T k).2.2.1 ∈ gtbl) (hT : (T k).1 = C) {x : Nat → Int32} {z : Nat → Option Nat} {v : Value} (hv : (gFr b0 x z ci)[k]? = some v) (hk : κ a = (ci + 20, 0)) (ha : a < n) (hxa : X a = x) (hza : Z a = z) (hd : decode cc pc = .ok (.getfield idx, 3)) (kk : gV l b0 D K (n, κ, X, Y, Z, cs, ss) (pc + 3) loc (v :: st)) : gV l b0 D K (n, κ, X, Y, Z, cs, ss) pc loc (.ref (b0 + a) :: st) := by
  obtain ⟨p, e, R, s, m, args, below, meth, c, nL0, Q⟩ := K
  obtain ⟨hx, hb, hr, hml, rfl, hown, hts, hlk, hK, hNw, hb0, rfl⟩ := hC
  intro H locs ls hR hS hl
  have hcell := hR.2 a ha
  rw [hk, gCell_w, hxa, hza] at hcell
  exact va_get (D := D.1) (ci := ci) hx hb hts hin hown hK (va_P1 hcell) 0 rfl hc k hkN (hts _ hlk0) (fun _ h => by rw [hT] at h; exact h) hv hd (kk H locs ls hR hS hl)
end RAW
section METC
variable {l : Launch} {y : MethodName} {cc : ByteArray} {nL : Nat} {fr lo mc ms b0 : Nat} {D : GD} {av : List Value} {n n' : Nat} {κ κ' : QT} {X X' : XT} {Y Y' : YT} {Z Z' : ZT} {own : String}
theorem g_metc (hy : plainName y.cls = true) (hyo : y.cls = own) (hyn : y.name = "<init>") (hlen : (lg_sl av).length ≤ nL)
    (body : ∀ K, gC l b0 D K own cc none nL fr lo mc ms → gI K → (∀ pc loc, decode cc pc = .ok (.return_, 1) → gV l b0 D K (n', κ', X', Y', Z', mc, ms) pc loc []) → gV l b0 D K (n, κ, X, Y, Z, 0, 0) 0 (lv_args 0 av) []) : gMv l y cc nL none fr lo mc ms b0 D av (n, κ, X, Y, Z) (n', κ', X', Y', Z') := by
  refine Met.ofW (cc := cc) (maxL := nL) (ret := none) hy rfl ?_
  intro p e s m args below meth c s₁ B hml hv
  obtain ⟨rfl, hR, hK, hNw⟩ := hv
  have hts0 := atoms_spec (ws := gWd y cc nL none) B.pre
  have hts : ∀ w ∈ gtbl, w.before av.toArray s = true := fun w h => hts0 w (List.mem_cons_of_mem _ h)
  have hown : s.vm.findClass own = some m.cls := by rw [← hyo]; exact findClass_of_methodNamed B.named
  have hlocks := B.notSynchronized
  have hb0 : b0 ≤ s.heap.size := by rw [hR.1]; exact Nat.le_add_right _ _
  have hl := lv_entry av (n := nL) hlen
  have hin : meth.name = "<init>" := (name_of_methodNamed B.named B.method).1.trans hyn
  rw [lg_entry_eq]
  generalize (lg_sl av ++ List.replicate (nL - (lg_sl av).length) Slot.unset).toArray = ls at hl ⊢
  refine body (p, e, gRm fr lo mc ms, s, m, av.toArray, below, meth, c, nL, MQ below (gQv b0 D (n', κ', X', Y', Z')) av.toArray s mc ms (gA b0)) ⟨B.exec, B.bytes, B.returns, hml, rfl, hown, hts, hlocks, hK, hNw, hb0, rfl⟩ hin ?_ s.heap [] ls hR va_S.rf hl
  intro pc loc hd H locs ls hR' hS' hl'
  exact W.vret B.exec B.bytes (by rw [B.returns]) (fun t ht hW => ⟨⟨(), rfl, trivial, by rw [ht]; exact hR', va_K.moved hW.alike hK, gNW_at hNw hW hS' ht⟩, hS'.F ht⟩) hS'.2.2 hd
end METC

section ALLOC
variable {l : Launch} {b0 : Nat} {D : GD} {K : KT} {own : String} {cc : ByteArray} {ret : Option FieldType} {nL fr lo mc ms : Nat} {σ : SG} {pc : Nat} {loc : List (Nat × Value)} {st : List Value} {n : Nat} {κ κ' : QT} {X X' : XT} {Y Y' : YT} {Z Z' : ZT} {cs ss a : Nat}
theorem gR_push {H H1 : Heap} (hR : gR b0 D n κ X Y Z H) (z : H1.size = b0 + n + 1) (oq : ∀ q, q < b0 + n → H1[q]? = H[q]?) (h : ∀ i, i < n → gCell b0 D i (κ' i) (X' i) (Y' i) (Z' i) = gCell b0 D i (κ i) (X i) (Y i) (Z i)) (hat : va_at D.1 vwCl (b0 + n, gCell b0 D n (κ' n) (X' n) (Y' n) (Z' n)) H1) : gR b0 D (n + 1) κ' X' Y' Z' H1 := ⟨by rw [z]; rfl, fun i hi => by
  by_cases e : i = n
  · subst e; exact hat
  · have hlt : i < n := by omega
    rw [h i hlt]
    exact (hR.2 i hlt).kept (oq _ (by show b0 + i < b0 + n; omega))⟩
theorem gS_push {H0 H H1 : Heap} {locs : List Loc} (hS : va_S (gA b0) H0 H locs) (z : H1.size = H.size + 1) (oq : ∀ q, q < H.size → H1[q]? = H[q]?) : va_S (gA b0) H0 H1 locs := ⟨by rw [z]; exact Nat.le_succ_of_le hS.1, fun q h1 h2 => by rw [oq q (Nat.lt_of_lt_of_le h1 hS.1)]; exact hS.2.1 q h1 h2, hS.2.2⟩
theorem up_ne {α : Type} {f : Nat → α} {a i : Nat} {v : α} (h : i ≠ a) : va_up f a v i = f i := by simp [va_up, h]
theorem up_eq {α : Type} {f : Nat → α} {a : Nat} {v : α} : va_up f a v a = v := by simp [va_up]
/-- the same cells under other names -/
theorem g_conv (h : ∀ i, i < n → gCell b0 D i (κ' i) (X' i) (Y' i) (Z' i) = gCell b0 D i (κ i) (X i) (Y i) (Z i)) (k : gV l b0 D K (n, κ', X', Y', Z', cs, ss) pc loc st) : gV l b0 D K (n, κ, X, Y, Z, cs, ss) pc loc st := by
  obtain ⟨p, e, R, s, m, args, below, meth, c, nL0, Q⟩ := K
  intro H locs ls hR hS hl
  exact k H locs ls ⟨hR.1, fun i hi => by rw [h i hi]; exact hR.2 i hi⟩ hS hl
/-- more cells, more slots -/
theorem g_widen {cs' ss' : Nat} (h1 : cs ≤ cs') (h2 : ss ≤ ss') (k : gV l b0 D K (n, κ, X, Y, Z, cs', ss') pc loc st) : gV l b0 D K (n, κ, X, Y, Z, cs, ss) pc loc st := by
  obtain ⟨p, e, R, s, m, args, below, meth, c, nL0, Q⟩ := K
  intro H locs ls hR hS hl
  exact W.widen h1 h2 (k H locs ls hR hS hl)
theorem gCell_w {i c : Nat} {x : Nat → Int32} {y : Nat → Int64} {z : Nat → Option Nat} : gCell b0 D i (c + 20, 0) x y z = .inr (c, gFr b0 x z c) := by
  unfold gCell
  simp only [if_neg (show ¬ c + 20 = 14 by omega), if_neg (show ¬ c + 20 < 13 by omega), if_neg (show ¬ c + 20 = 13 by omega), if_neg (show ¬ c + 20 = 15 by omega), if_neg (show ¬ c + 20 = 16 by omega), if_neg (show ¬ c + 20 = 17 by omega), if_neg (show ¬ c + 20 = 18 by omega), if_neg (show ¬ c + 20 = 19 by omega), Nat.add_sub_cancel]
theorem g_new_int (hC : gC l b0 D K own cc ret nL fr lo mc ms) {L : Nat} {v : Int32} (hv : ¬ v < 0) (hL0 : v.toNatClampNeg = L) (hby : L * componentBytes (newarray.typeOf .int) ≤ 536870912) (hrm : cs + 1 ≤ mc ∧ ss + L ≤ ms) (hd : decode cc pc = .ok (.newarray .int, 2)) (kk : gV l b0 D K (n + 1, (va_up κ n (14, L)), (va_up X n (fun _ => 0)), Y, Z, cs + 1, ss + L) (pc + 2) loc (.ref (b0 + n) :: st)) : gV l b0 D K (n, κ, X, Y, Z, cs, ss) pc loc (.int v :: st) := by
  obtain ⟨p, e, R, s, m, args, below, meth, c, nL0, Q⟩ := K
  obtain ⟨hx, hb, hr, hml, rfl, hown, hts, hlk, hK, hNw, hb0, rfl⟩ := hC
  intro H locs ls hR hS hl
  refine va_newaK hx hb (atype := .int) (hts _ tw_179) rfl hd rfl hv hL0 hby hrm.1 hrm.2 hR.1 fun H1 cA e1 z1 o1 hAr hNm => ?_
  have hcA : cA = D.2 1 := Option.some.inj (hNm.symm.trans (hK.2 1 _ rfl).2)
  subst hcA
  refine kk H1 _ ls (gR_push hR z1 o1 (fun i hi => ?_) ?_) (gS_push hS (by rw [z1, hR.1]) (fun q hq => o1 q (by rw [← hR.1]; exact hq))) hl
  · have hne : i ≠ n := Nat.ne_of_lt hi
    simp only [up_ne hne]
  · simp only [up_eq]
    rw [gCell_i]
    exact e1
theorem g_new_byte (hC : gC l b0 D K own cc ret nL fr lo mc ms) {L : Nat} {v : Int32} (hv : ¬ v < 0) (hL0 : v.toNatClampNeg = L) (hby : L * componentBytes (newarray.typeOf .byte) ≤ 536870912) (hrm : cs + 1 ≤ mc ∧ ss + L ≤ ms) (hd : decode cc pc = .ok (.newarray .byte, 2)) (kk : gV l b0 D K (n + 1, (va_up κ n (13, L)), (va_up X n (fun _ => 0)), Y, Z, cs + 1, ss + L) (pc + 2) loc (.ref (b0 + n) :: st)) : gV l b0 D K (n, κ, X, Y, Z, cs, ss) pc loc (.int v :: st) := by
  obtain ⟨p, e, R, s, m, args, below, meth, c, nL0, Q⟩ := K
  obtain ⟨hx, hb, hr, hml, rfl, hown, hts, hlk, hK, hNw, hb0, rfl⟩ := hC
  intro H locs ls hR hS hl
  refine va_newaK hx hb (atype := .byte) (hts _ tw_178) rfl hd rfl hv hL0 hby hrm.1 hrm.2 hR.1 fun H1 cA e1 z1 o1 hAr hNm => ?_
  have hcA : cA = D.2 0 := Option.some.inj (hNm.symm.trans (hK.2 0 _ rfl).2)
  subst hcA
  refine kk H1 _ ls (gR_push hR z1 o1 (fun i hi => ?_) ?_) (gS_push hS (by rw [z1, hR.1]) (fun q hq => o1 q (by rw [← hR.1]; exact hq))) hl
  · have hne : i ≠ n := Nat.ne_of_lt hi
    simp only [up_ne hne]
  · simp only [up_eq]
    rw [gCell_b]
    exact e1
theorem g_new_boolean (hC : gC l b0 D K own cc ret nL fr lo mc ms) {L : Nat} {v : Int32} (hv : ¬ v < 0) (hL0 : v.toNatClampNeg = L) (hby : L * componentBytes (newarray.typeOf .boolean) ≤ 536870912) (hrm : cs + 1 ≤ mc ∧ ss + L ≤ ms) (hd : decode cc pc = .ok (.newarray .boolean, 2)) (kk : gV l b0 D K (n + 1, (va_up κ n (16, L)), (va_up X n (fun _ => 0)), Y, Z, cs + 1, ss + L) (pc + 2) loc (.ref (b0 + n) :: st)) : gV l b0 D K (n, κ, X, Y, Z, cs, ss) pc loc (.int v :: st) := by
  obtain ⟨p, e, R, s, m, args, below, meth, c, nL0, Q⟩ := K
  obtain ⟨hx, hb, hr, hml, rfl, hown, hts, hlk, hK, hNw, hb0, rfl⟩ := hC
  intro H locs ls hR hS hl
  refine va_newaK hx hb (atype := .boolean) (hts _ tw_1348) rfl hd rfl hv hL0 hby hrm.1 hrm.2 hR.1 fun H1 cA e1 z1 o1 hAr hNm => ?_
  have hcA : cA = D.2 3 := Option.some.inj (hNm.symm.trans (hK.2 3 _ rfl).2)
  subst hcA
  refine kk H1 _ ls (gR_push hR z1 o1 (fun i hi => ?_) ?_) (gS_push hS (by rw [z1, hR.1]) (fun q hq => o1 q (by rw [← hR.1]; exact hq))) hl
  · have hne : i ≠ n := Nat.ne_of_lt hi
    simp only [up_ne hne]
  · simp only [up_eq]
    rw [gCell_z]
    exact e1
theorem g_new_long (hC : gC l b0 D K own cc ret nL fr lo mc ms) {L : Nat} {v : Int32} (hv : ¬ v < 0) (hL0 : v.toNatClampNeg = L) (hby : L * componentBytes (newarray.typeOf .long) ≤ 536870912) (hrm : cs + 1 ≤ mc ∧ ss + L ≤ ms) (hd : decode cc pc = .ok (.newarray .long, 2)) (kk : gV l b0 D K (n + 1, (va_up κ n (15, L)), X, (va_up Y n (fun _ => 0)), Z, cs + 1, ss + L) (pc + 2) loc (.ref (b0 + n) :: st)) : gV l b0 D K (n, κ, X, Y, Z, cs, ss) pc loc (.int v :: st) := by
  obtain ⟨p, e, R, s, m, args, below, meth, c, nL0, Q⟩ := K
  obtain ⟨hx, hb, hr, hml, rfl, hown, hts, hlk, hK, hNw, hb0, rfl⟩ := hC
  intro H locs ls hR hS hl
  refine va_newaK hx hb (atype := .long) (hts _ tw_370) rfl hd rfl hv hL0 hby hrm.1 hrm.2 hR.1 fun H1 cA e1 z1 o1 hAr hNm => ?_
  have hcA : cA = D.2 2 := Option.some.inj (hNm.symm.trans (hK.2 2 _ rfl).2)
  subst hcA
  refine kk H1 _ ls (gR_push hR z1 o1 (fun i hi => ?_) ?_) (gS_push hS (by rw [z1, hR.1]) (fun q hq => o1 q (by rw [← hR.1]; exact hq))) hl
  · have hne : i ≠ n := Nat.ne_of_lt hi
    simp only [up_ne hne]
  · simp only [up_eq]
    rw [gCell_j]
    exact e1
theorem g_anew17 (hC : gC l b0 D K own cc ret nL fr lo mc ms) {idx L : Nat} {v : Int32} (hw : Cond.classLink own idx RX4 ∈ gtbl) (hv : ¬ v < 0) (hL0 : v.toNatClampNeg = L) (hby : L * 4 ≤ 536870912) (hrm : cs + 1 ≤ mc ∧ ss + L ≤ ms) (hd : decode cc pc = .ok (.anewarray idx, 3)) (kk : gV l b0 D K (n + 1, (va_up κ n (17, L)), X, Y, (va_up Z n (fun _ => none)), cs + 1, ss + L) (pc + 3) loc (.ref (b0 + n) :: st)) : gV l b0 D K (n, κ, X, Y, Z, cs, ss) pc loc (.int v :: st) := by
  obtain ⟨p, e, R, s, m, args, below, meth, c, nL0, Q⟩ := K
  obtain ⟨hx, hb, hr, hml, rfl, hown, hts, hlk, hK, hNw, hb0, rfl⟩ := hC
  intro H locs ls hR hS hl
  subst hL0
  refine W.anew hx hb hown (hts _ hw) (va_AO.use hNw.2.2.1.1) rfl hd rfl hv hby hrm.1 hrm.2 fun cA kA comp f1 f2 f3 f4 => ?_
  have hcA : cA = D.2 4 := by
    obtain ⟨kA2, comp2, k1, k2, k3, k4⟩ := (hK.2 4 _ rfl).2
    exact Option.some.inj (f1.symm.trans k4)
  subst hcA
  generalize hH1 : H.push ({ cls := D.2 4, slots := Array.replicate v.toNatClampNeg .null, vm := .none } : Cell) = H1
  have z1 : H1.size = H.size + 1 := by rw [← hH1, Array.size_push]
  have e1 : H1[H.size]? = some (arrV (D.2 4) v.toNatClampNeg (fun _ => .null)) := by rw [← hH1, Array.getElem?_push_size, ← arrV_new]
  have o1 : ∀ q : Nat, q < H.size → H1[q]? = H[q]? := fun q hq => by rw [← hH1, Array.getElem?_push, if_neg (Nat.ne_of_lt hq)]
  rw [hR.1] at e1 ⊢
  refine kk H1 _ ls (gR_push hR (by rw [z1, hR.1]) (fun q hq => o1 q (by rw [hR.1]; exact hq)) (fun i hi => ?_) ?_) (gS_push hS z1 o1) hl
  · have hne : i ≠ n := Nat.ne_of_lt hi
    simp only [up_ne hne]
  · simp only [up_eq]
    rw [gCell_r17]
    exact e1
theorem g_anew18 (hC : gC l b0 D K own cc ret nL fr lo mc ms) {idx L : Nat} {v : Int32} (hw : Cond.classLink own idx RX6 ∈ gtbl) (hv : ¬ v < 0) (hL0 : v.toNatClampNeg = L) (hby : L * 4 ≤ 536870912) (hrm : cs + 1 ≤ mc ∧ ss + L ≤ ms) (hd : decode cc pc = .ok (.anewarray idx, 3)) (kk : gV l b0 D K (n + 1, (va_up κ n (18, L)), X, Y, (va_up Z n (fun _ => none)), cs + 1, ss + L) (pc + 3) loc (.ref (b0 + n) :: st)) : gV l b0 D K (n, κ, X, Y, Z, cs, ss) pc loc (.int v :: st) := by
  obtain ⟨p, e, R, s, m, args, below, meth, c, nL0, Q⟩ := K
  obtain ⟨hx, hb, hr, hml, rfl, hown, hts, hlk, hK, hNw, hb0, rfl⟩ := hC
  intro H locs ls hR hS hl
  subst hL0
  refine W.anew hx hb hown (hts _ hw) (va_AO.use hNw.2.2.1.2.1) rfl hd rfl hv hby hrm.1 hrm.2 fun cA kA comp f1 f2 f3 f4 => ?_
  have hcA : cA = D.2 5 := by
    obtain ⟨kA2, comp2, k1, k2, k3, k4⟩ := (hK.2 5 _ rfl).2
    exact Option.some.inj (f1.symm.trans k4)
  subst hcA
  generalize hH1 : H.push ({ cls := D.2 5, slots := Array.replicate v.toNatClampNeg .null, vm := .none } : Cell) = H1
  have z1 : H1.size = H.size + 1 := by rw [← hH1, Array.size_push]
  have e1 : H1[H.size]? = some (arrV (D.2 5) v.toNatClampNeg (fun _ => .null)) := by rw [← hH1, Array.getElem?_push_size, ← arrV_new]
  have o1 : ∀ q : Nat, q < H.size → H1[q]? = H[q]? := fun q hq => by rw [← hH1, Array.getElem?_push, if_neg (Nat.ne_of_lt hq)]
  rw [hR.1] at e1 ⊢
  refine kk H1 _ ls (gR_push hR (by rw [z1, hR.1]) (fun q hq => o1 q (by rw [hR.1]; exact hq)) (fun i hi => ?_) ?_) (gS_push hS z1 o1) hl
  · have hne : i ≠ n := Nat.ne_of_lt hi
    simp only [up_ne hne]
  · simp only [up_eq]
    rw [gCell_r18]
    exact e1
theorem g_anew19 (hC : gC l b0 D K own cc ret nL fr lo mc ms) {idx L : Nat} {v : Int32} (hw : Cond.classLink own idx RX7 ∈ gtbl) (hv : ¬ v < 0) (hL0 : v.toNatClampNeg = L) (hby : L * 4 ≤ 536870912) (hrm : cs + 1 ≤ mc ∧ ss + L ≤ ms) (hd : decode cc pc = .ok (.anewarray idx, 3)) (kk : gV l b0 D K (n + 1, (va_up κ n (19, L)), X, Y, (va_up Z n (fun _ => none)), cs + 1, ss + L) (pc + 3) loc (.ref (b0 + n) :: st)) : gV l b0 D K (n, κ, X, Y, Z, cs, ss) pc loc (.int v :: st) := by
  obtain ⟨p, e, R, s, m, args, below, meth, c, nL0, Q⟩ := K
  obtain ⟨hx, hb, hr, hml, rfl, hown, hts, hlk, hK, hNw, hb0, rfl⟩ := hC
  intro H locs ls hR hS hl
  subst hL0
  refine W.anew hx hb hown (hts _ hw) (va_AO.use hNw.2.2.1.2.2) rfl hd rfl hv hby hrm.1 hrm.2 fun cA kA comp f1 f2 f3 f4 => ?_
  have hcA : cA = D.2 6 := by
    obtain ⟨kA2, comp2, k1, k2, k3, k4⟩ := (hK.2 6 _ rfl).2
    exact Option.some.inj (f1.symm.trans k4)
  subst hcA
  generalize hH1 : H.push ({ cls := D.2 6, slots := Array.replicate v.toNatClampNeg .null, vm := .none } : Cell) = H1
  have z1 : H1.size = H.size + 1 := by rw [← hH1, Array.size_push]
  have e1 : H1[H.size]? = some (arrV (D.2 6) v.toNatClampNeg (fun _ => .null)) := by rw [← hH1, Array.getElem?_push_size, ← arrV_new]
  have o1 : ∀ q : Nat, q < H.size → H1[q]? = H[q]? := fun q hq => by rw [← hH1, Array.getElem?_push, if_neg (Nat.ne_of_lt hq)]
  rw [hR.1] at e1 ⊢
  refine kk H1 _ ls (gR_push hR (by rw [z1, hR.1]) (fun q hq => o1 q (by rw [hR.1]; exact hq)) (fun i hi => ?_) ?_) (gS_push hS z1 o1) hl
  · have hne : i ≠ n := Nat.ne_of_lt hi
    simp only [up_ne hne]
  · simp only [up_eq]
    rw [gCell_r19]
    exact e1
theorem g_newo0 (hC : gC l b0 D K own cc ret nL fr lo mc ms) {idx : Nat} (hw : Cond.classLink own idx RX0 ∈ gtbl) (hrm : cs + 1 ≤ mc ∧ ss + 5 ≤ ms) (hd : decode cc pc = .ok (.new idx, 3)) (kk : gV l b0 D K (n + 1, (va_up κ n (0 + 20, 0)), (va_up X n (fun _ => 0)), Y, (va_up Z n (fun _ => none)), cs + 1, ss + 5) (pc + 3) loc (.ref (b0 + n) :: st)) : gV l b0 D K (n, κ, X, Y, Z, cs, ss) pc loc st := by
  obtain ⟨p, e, R, s, m, args, below, meth, c, nL0, Q⟩ := K
  obtain ⟨hx, hb, hr, hml, rfl, hown, hts, hlk, hK, hNw, hb0, rfl⟩ := hC
  intro H locs ls hR hS hl
  have hKn := hK.1 0 _ rfl
  refine W.newcK hx hb hown (hts _ hw) (hts _ tw_433) (hts _ tw_126) rfl hd hrm.1 hrm.2 hKn.2.1 hR.1 fun H1 kC hkC e1 z1 o1 => ?_
  refine kk H1 _ ls (gR_push hR z1 o1 (fun i hi => ?_) ?_) (gS_push hS (by rw [z1, hR.1]) (fun q hq => o1 q (by rw [← hR.1]; exact hq))) hl
  · have hne : i ≠ n := Nat.ne_of_lt hi
    simp only [up_ne hne]
  · simp only [up_eq]
    rw [gCell_w]
    refine ⟨_, rfl, (u_born tyX0 hts iX0 hKn hkC e1 tyX0_ok).to (fun j hj => ?_)⟩
    have hj : j < 5 := hj
    match j, hj with
    | 0, _ => rfl
    | 1, _ => rfl
    | 2, _ => rfl
    | 3, _ => rfl
    | 4, _ => rfl
theorem g_newo1 (hC : gC l b0 D K own cc ret nL fr lo mc ms) {idx : Nat} (hw : Cond.classLink own idx RX1 ∈ gtbl) (hrm : cs + 1 ≤ mc ∧ ss + 3 ≤ ms) (hd : decode cc pc = .ok (.new idx, 3)) (kk : gV l b0 D K (n + 1, (va_up κ n (1 + 20, 0)), (va_up X n (fun _ => 0)), Y, (va_up Z n (fun _ => none)), cs + 1, ss + 3) (pc + 3) loc (.ref (b0 + n) :: st)) : gV l b0 D K (n, κ, X, Y, Z, cs, ss) pc loc st := by
  obtain ⟨p, e, R, s, m, args, below, meth, c, nL0, Q⟩ := K
  obtain ⟨hx, hb, hr, hml, rfl, hown, hts, hlk, hK, hNw, hb0, rfl⟩ := hC
  intro H locs ls hR hS hl
  have hKn := hK.1 1 _ rfl
  refine W.newcK hx hb hown (hts _ hw) (hts _ tw_353) (hts _ tw_123) rfl hd hrm.1 hrm.2 hKn.2.1 hR.1 fun H1 kC hkC e1 z1 o1 => ?_
  refine kk H1 _ ls (gR_push hR z1 o1 (fun i hi => ?_) ?_) (gS_push hS (by rw [z1, hR.1]) (fun q hq => o1 q (by rw [← hR.1]; exact hq))) hl
  · have hne : i ≠ n := Nat.ne_of_lt hi
    simp only [up_ne hne]
  · simp only [up_eq]
    rw [gCell_w]
    refine ⟨_, rfl, (u_born tyX1 hts iX1 hKn hkC e1 tyX1_ok).to (fun j hj => ?_)⟩
    have hj : j < 3 := hj
    match j, hj with
    | 0, _ => rfl
    | 1, _ => rfl
    | 2, _ => rfl
theorem g_newo2 (hC : gC l b0 D K own cc ret nL fr lo mc ms) {idx : Nat} (hw : Cond.classLink own idx RX2 ∈ gtbl) (hrm : cs + 1 ≤ mc ∧ ss + 7 ≤ ms) (hd : decode cc pc = .ok (.new idx, 3)) (kk : gV l b0 D K (n + 1, (va_up κ n (2 + 20, 0)), (va_up X n (fun _ => 0)), Y, (va_up Z n (fun _ => none)), cs + 1, ss + 7) (pc + 3) loc (.ref (b0 + n) :: st)) : gV l b0 D K (n, κ, X, Y, Z, cs, ss) pc loc st := by
  obtain ⟨p, e, R, s, m, args, below, meth, c, nL0, Q⟩ := K
  obtain ⟨hx, hb, hr, hml, rfl, hown, hts, hlk, hK, hNw, hb0, rfl⟩ := hC
  intro H locs ls hR hS hl
  have hKn := hK.1 2 _ rfl
  refine W.newcK hx hb hown (hts _ hw) (hts _ tw_400) (hts _ tw_125) rfl hd hrm.1 hrm.2 hKn.2.1 hR.1 fun H1 kC hkC e1 z1 o1 => ?_
  refine kk H1 _ ls (gR_push hR z1 o1 (fun i hi => ?_) ?_) (gS_push hS (by rw [z1, hR.1]) (fun q hq => o1 q (by rw [← hR.1]; exact hq))) hl
  · have hne : i ≠ n := Nat.ne_of_lt hi
    simp only [up_ne hne]
  · simp only [up_eq]
    rw [gCell_w]
    refine ⟨_, rfl, (u_born tyX2 hts iX2 hKn hkC e1 tyX2_ok).to (fun j hj => ?_)⟩
    have hj : j < 7 := hj
    match j, hj with
    | 0, _ => rfl
    | 1, _ => rfl
    | 2, _ => rfl
    | 3, _ => rfl
    | 4, _ => rfl
    | 5, _ => rfl
    | 6, _ => rfl
theorem g_newo3 (hC : gC l b0 D K own cc ret nL fr lo mc ms) {idx : Nat} (hw : Cond.classLink own idx RX3 ∈ gtbl) (hrm : cs + 1 ≤ mc ∧ ss + 5 ≤ ms) (hd : decode cc pc = .ok (.new idx, 3)) (kk : gV l b0 D K (n + 1, (va_up κ n (3 + 20, 0)), (va_up X n (fun _ => 0)), Y, (va_up Z n (fun _ => none)), cs + 1, ss + 5) (pc + 3) loc (.ref (b0 + n) :: st)) : gV l b0 D K (n, κ, X, Y, Z, cs, ss) pc loc st := by
  obtain ⟨p, e, R, s, m, args, below, meth, c, nL0, Q⟩ := K
  obtain ⟨hx, hb, hr, hml, rfl, hown, hts, hlk, hK, hNw, hb0, rfl⟩ := hC
  intro H locs ls hR hS hl
  have hKn := hK.1 3 _ rfl
  refine W.newcK hx hb hown (hts _ hw) (hts _ tw_374) (hts _ tw_124) rfl hd hrm.1 hrm.2 hKn.2.1 hR.1 fun H1 kC hkC e1 z1 o1 => ?_
  refine kk H1 _ ls (gR_push hR z1 o1 (fun i hi => ?_) ?_) (gS_push hS (by rw [z1, hR.1]) (fun q hq => o1 q (by rw [← hR.1]; exact hq))) hl
  · have hne : i ≠ n := Nat.ne_of_lt hi
    simp only [up_ne hne]
  · simp only [up_eq]
    rw [gCell_w]
    refine ⟨_, rfl, (u_born tyX3 hts iX3 hKn hkC e1 tyX3_ok).to (fun j hj => ?_)⟩
    have hj : j < 5 := hj
    match j, hj with
    | 0, _ => rfl
    | 1, _ => rfl
    | 2, _ => rfl
    | 3, _ => rfl
    | 4, _ => rfl
theorem g_newo4 (hC : gC l b0 D K own cc ret nL fr lo mc ms) {idx : Nat} (hw : Cond.classLink own idx RX4 ∈ gtbl) (hrm : cs + 1 ≤ mc ∧ ss + 2 ≤ ms) (hd : decode cc pc = .ok (.new idx, 3)) (kk : gV l b0 D K (n + 1, (va_up κ n (4 + 20, 0)), (va_up X n (fun _ => 0)), Y, (va_up Z n (fun _ => none)), cs + 1, ss + 2) (pc + 3) loc (.ref (b0 + n) :: st)) : gV l b0 D K (n, κ, X, Y, Z, cs, ss) pc loc st := by
  obtain ⟨p, e, R, s, m, args, below, meth, c, nL0, Q⟩ := K
  obtain ⟨hx, hb, hr, hml, rfl, hown, hts, hlk, hK, hNw, hb0, rfl⟩ := hC
  intro H locs ls hR hS hl
  have hKn := hK.1 4 _ rfl
  refine W.newcK hx hb hown (hts _ hw) (hts _ tw_749) (hts _ tw_134) rfl hd hrm.1 hrm.2 hKn.2.1 hR.1 fun H1 kC hkC e1 z1 o1 => ?_
  refine kk H1 _ ls (gR_push hR z1 o1 (fun i hi => ?_) ?_) (gS_push hS (by rw [z1, hR.1]) (fun q hq => o1 q (by rw [← hR.1]; exact hq))) hl
  · have hne : i ≠ n := Nat.ne_of_lt hi
    simp only [up_ne hne]
  · simp only [up_eq]
    rw [gCell_w]
    refine ⟨_, rfl, (u_born tyX4 hts iX4 hKn hkC e1 tyX4_ok).to (fun j hj => ?_)⟩
    have hj : j < 2 := hj
    match j, hj with
    | 0, _ => rfl
    | 1, _ => rfl
theorem g_newo5 (hC : gC l b0 D K own cc ret nL fr lo mc ms) {idx : Nat} (hw : Cond.classLink own idx RX5 ∈ gtbl) (hrm : cs + 1 ≤ mc ∧ ss + 4 ≤ ms) (hd : decode cc pc = .ok (.new idx, 3)) (kk : gV l b0 D K (n + 1, (va_up κ n (5 + 20, 0)), (va_up X n (fun _ => 0)), Y, (va_up Z n (fun _ => none)), cs + 1, ss + 4) (pc + 3) loc (.ref (b0 + n) :: st)) : gV l b0 D K (n, κ, X, Y, Z, cs, ss) pc loc st := by
  obtain ⟨p, e, R, s, m, args, below, meth, c, nL0, Q⟩ := K
  obtain ⟨hx, hb, hr, hml, rfl, hown, hts, hlk, hK, hNw, hb0, rfl⟩ := hC
  intro H locs ls hR hS hl
  have hKn := hK.1 5 _ rfl
  refine W.newcK hx hb hown (hts _ hw) (hts _ tw_283) (hts _ tw_121) rfl hd hrm.1 hrm.2 hKn.2.1 hR.1 fun H1 kC hkC e1 z1 o1 => ?_
  refine kk H1 _ ls (gR_push hR z1 o1 (fun i hi => ?_) ?_) (gS_push hS (by rw [z1, hR.1]) (fun q hq => o1 q (by rw [← hR.1]; exact hq))) hl
  · have hne : i ≠ n := Nat.ne_of_lt hi
    simp only [up_ne hne]
  · simp only [up_eq]
    rw [gCell_w]
    refine ⟨_, rfl, (u_born tyX5 hts iX5 hKn hkC e1 tyX5_ok).to (fun j hj => ?_)⟩
    have hj : j < 4 := hj
    match j, hj with
    | 0, _ => rfl
    | 1, _ => rfl
    | 2, _ => rfl
    | 3, _ => rfl
theorem g_newo6 (hC : gC l b0 D K own cc ret nL fr lo mc ms) {idx : Nat} (hw : Cond.classLink own idx RX6 ∈ gtbl) (hrm : cs + 1 ≤ mc ∧ ss + 10 ≤ ms) (hd : decode cc pc = .ok (.new idx, 3)) (kk : gV l b0 D K (n + 1, (va_up κ n (6 + 20, 0)), (va_up X n (fun _ => 0)), Y, (va_up Z n (fun _ => none)), cs + 1, ss + 10) (pc + 3) loc (.ref (b0 + n) :: st)) : gV l b0 D K (n, κ, X, Y, Z, cs, ss) pc loc st := by
  obtain ⟨p, e, R, s, m, args, below, meth, c, nL0, Q⟩ := K
  obtain ⟨hx, hb, hr, hml, rfl, hown, hts, hlk, hK, hNw, hb0, rfl⟩ := hC
  intro H locs ls hR hS hl
  have hKn := hK.1 6 _ rfl
  refine W.newcK hx hb hown (hts _ hw) (hts _ tw_304) (hts _ tw_122) rfl hd hrm.1 hrm.2 hKn.2.1 hR.1 fun H1 kC hkC e1 z1 o1 => ?_
  refine kk H1 _ ls (gR_push hR z1 o1 (fun i hi => ?_) ?_) (gS_push hS (by rw [z1, hR.1]) (fun q hq => o1 q (by rw [← hR.1]; exact hq))) hl
  · have hne : i ≠ n := Nat.ne_of_lt hi
    simp only [up_ne hne]
  · simp only [up_eq]
    rw [gCell_w]
    refine ⟨_, rfl, (u_born tyX6 hts iX6 hKn hkC e1 tyX6_ok).to (fun j hj => ?_)⟩
    have hj : j < 10 := hj
    match j, hj with
    | 0, _ => rfl
    | 1, _ => rfl
    | 2, _ => rfl
    | 3, _ => rfl
    | 4, _ => rfl
    | 5, _ => rfl
    | 6, _ => rfl
    | 7, _ => rfl
    | 8, _ => rfl
    | 9, _ => rfl
theorem g_newo7 (hC : gC l b0 D K own cc ret nL fr lo mc ms) {idx : Nat} (hw : Cond.classLink own idx RX7 ∈ gtbl) (hrm : cs + 1 ≤ mc ∧ ss + 6 ≤ ms) (hd : decode cc pc = .ok (.new idx, 3)) (kk : gV l b0 D K (n + 1, (va_up κ n (7 + 20, 0)), (va_up X n (fun _ => 0)), Y, (va_up Z n (fun _ => none)), cs + 1, ss + 6) (pc + 3) loc (.ref (b0 + n) :: st)) : gV l b0 D K (n, κ, X, Y, Z, cs, ss) pc loc st := by
  obtain ⟨p, e, R, s, m, args, below, meth, c, nL0, Q⟩ := K
  obtain ⟨hx, hb, hr, hml, rfl, hown, hts, hlk, hK, hNw, hb0, rfl⟩ := hC
  intro H locs ls hR hS hl
  have hKn := hK.1 7 _ rfl
  refine W.newcK hx hb hown (hts _ hw) (hts _ tw_193) (hts _ tw_120) rfl hd hrm.1 hrm.2 hKn.2.1 hR.1 fun H1 kC hkC e1 z1 o1 => ?_
  refine kk H1 _ ls (gR_push hR z1 o1 (fun i hi => ?_) ?_) (gS_push hS (by rw [z1, hR.1]) (fun q hq => o1 q (by rw [← hR.1]; exact hq))) hl
  · have hne : i ≠ n := Nat.ne_of_lt hi
    simp only [up_ne hne]
  · simp only [up_eq]
    rw [gCell_w]
    refine ⟨_, rfl, (u_born tyX7 hts iX7 hKn hkC e1 tyX7_ok).to (fun j hj => ?_)⟩
    have hj : j < 6 := hj
    match j, hj with
    | 0, _ => rfl
    | 1, _ => rfl
    | 2, _ => rfl
    | 3, _ => rfl
    | 4, _ => rfl
    | 5, _ => rfl
theorem g_newo8 (hC : gC l b0 D K own cc ret nL fr lo mc ms) {idx : Nat} (hw : Cond.classLink own idx RX8 ∈ gtbl) (hrm : cs + 1 ≤ mc ∧ ss + 8 ≤ ms) (hd : decode cc pc = .ok (.new idx, 3)) (kk : gV l b0 D K (n + 1, (va_up κ n (8 + 20, 0)), (va_up X n (fun _ => 0)), Y, (va_up Z n (fun _ => none)), cs + 1, ss + 8) (pc + 3) loc (.ref (b0 + n) :: st)) : gV l b0 D K (n, κ, X, Y, Z, cs, ss) pc loc st := by
  obtain ⟨p, e, R, s, m, args, below, meth, c, nL0, Q⟩ := K
  obtain ⟨hx, hb, hr, hml, rfl, hown, hts, hlk, hK, hNw, hb0, rfl⟩ := hC
  intro H locs ls hR hS hl
  have hKn := hK.1 8 _ rfl
  refine W.newcK hx hb hown (hts _ hw) (hts _ tw_146) (hts _ tw_117) rfl hd hrm.1 hrm.2 hKn.2.1 hR.1 fun H1 kC hkC e1 z1 o1 => ?_
  refine kk H1 _ ls (gR_push hR z1 o1 (fun i hi => ?_) ?_) (gS_push hS (by rw [z1, hR.1]) (fun q hq => o1 q (by rw [← hR.1]; exact hq))) hl
  · have hne : i ≠ n := Nat.ne_of_lt hi
    simp only [up_ne hne]
  · simp only [up_eq]
    rw [gCell_w]
    refine ⟨_, rfl, (u_born tyX8 hts iX8 hKn hkC e1 tyX8_ok).to (fun j hj => ?_)⟩
    have hj : j < 8 := hj
    match j, hj with
    | 0, _ => rfl
    | 1, _ => rfl
    | 2, _ => rfl
    | 3, _ => rfl
    | 4, _ => rfl
    | 5, _ => rfl
    | 6, _ => rfl
    | 7, _ => rfl
theorem g_newo9 (hC : gC l b0 D K own cc ret nL fr lo mc ms) {idx : Nat} (hw : Cond.classLink own idx RX9 ∈ gtbl) (hrm : cs + 1 ≤ mc ∧ ss + 6 ≤ ms) (hd : decode cc pc = .ok (.new idx, 3)) (kk : gV l b0 D K (n + 1, (va_up κ n (9 + 20, 0)), (va_up X n (fun _ => 0)), Y, (va_up Z n (fun _ => none)), cs + 1, ss + 6) (pc + 3) loc (.ref (b0 + n) :: st)) : gV l b0 D K (n, κ, X, Y, Z, cs, ss) pc loc st := by
  obtain ⟨p, e, R, s, m, args, below, meth, c, nL0, Q⟩ := K
  obtain ⟨hx, hb, hr, hml, rfl, hown, hts, hlk, hK, hNw, hb0, rfl⟩ := hC
  intro H locs ls hR hS hl
  have hKn := hK.1 9 _ rfl
  refine W.newcK hx hb hown (hts _ hw) (hts _ tw_187) (hts _ tw_119) rfl hd hrm.1 hrm.2 hKn.2.1 hR.1 fun H1 kC hkC e1 z1 o1 => ?_
  refine kk H1 _ ls (gR_push hR z1 o1 (fun i hi => ?_) ?_) (gS_push hS (by rw [z1, hR.1]) (fun q hq => o1 q (by rw [← hR.1]; exact hq))) hl
  · have hne : i ≠ n := Nat.ne_of_lt hi
    simp only [up_ne hne]
  · simp only [up_eq]
    rw [gCell_w]
    refine ⟨_, rfl, (u_born tyX9 hts iX9 hKn hkC e1 tyX9_ok).to (fun j hj => ?_)⟩
    have hj : j < 6 := hj
    match j, hj with
    | 0, _ => rfl
    | 1, _ => rfl
    | 2, _ => rfl
    | 3, _ => rfl
    | 4, _ => rfl
    | 5, _ => rfl
theorem g_newo10 (hC : gC l b0 D K own cc ret nL fr lo mc ms) {idx : Nat} (hw : Cond.classLink own idx RX10 ∈ gtbl) (hrm : cs + 1 ≤ mc ∧ ss + 2 ≤ ms) (hd : decode cc pc = .ok (.new idx, 3)) (kk : gV l b0 D K (n + 1, (va_up κ n (10 + 20, 0)), (va_up X n (fun _ => 0)), Y, (va_up Z n (fun _ => none)), cs + 1, ss + 2) (pc + 3) loc (.ref (b0 + n) :: st)) : gV l b0 D K (n, κ, X, Y, Z, cs, ss) pc loc st := by
  obtain ⟨p, e, R, s, m, args, below, meth, c, nL0, Q⟩ := K
  obtain ⟨hx, hb, hr, hml, rfl, hown, hts, hlk, hK, hNw, hb0, rfl⟩ := hC
  intro H locs ls hR hS hl
  have hKn := hK.1 10 _ rfl
  refine W.newcK hx hb hown (hts _ hw) (hts _ tw_181) (hts _ tw_118) rfl hd hrm.1 hrm.2 hKn.2.1 hR.1 fun H1 kC hkC e1 z1 o1 => ?_
  refine kk H1 _ ls (gR_push hR z1 o1 (fun i hi => ?_) ?_) (gS_push hS (by rw [z1, hR.1]) (fun q hq => o1 q (by rw [← hR.1]; exact hq))) hl
  · have hne : i ≠ n := Nat.ne_of_lt hi
    simp only [up_ne hne]
  · simp only [up_eq]
    rw [gCell_w]
    refine ⟨_, rfl, (u_born tyX10 hts iX10 hKn hkC e1 tyX10_ok).to (fun j hj => ?_)⟩
    have hj : j < 2 := hj
    match j, hj with
    | 0, _ => rfl
    | 1, _ => rfl
theorem g_newo11 (hC : gC l b0 D K own cc ret nL fr lo mc ms) {idx : Nat} (hw : Cond.classLink own idx RX11 ∈ gtbl) (hrm : cs + 1 ≤ mc ∧ ss + 13 ≤ ms) (hd : decode cc pc = .ok (.new idx, 3)) (kk : gV l b0 D K (n + 1, (va_up κ n (11 + 20, 0)), (va_up X n (fun _ => 0)), Y, (va_up Z n (fun _ => none)), cs + 1, ss + 13) (pc + 3) loc (.ref (b0 + n) :: st)) : gV l b0 D K (n, κ, X, Y, Z, cs, ss) pc loc st := by
  obtain ⟨p, e, R, s, m, args, below, meth, c, nL0, Q⟩ := K
  obtain ⟨hx, hb, hr, hml, rfl, hown, hts, hlk, hK, hNw, hb0, rfl⟩ := hC
  intro H locs ls hR hS hl
  have hKn := hK.1 11 _ rfl
  refine W.newcK hx hb hown (hts _ hw) (hts _ tw_138) (hts _ tw_116) rfl hd hrm.1 hrm.2 hKn.2.1 hR.1 fun H1 kC hkC e1 z1 o1 => ?_
  refine kk H1 _ ls (gR_push hR z1 o1 (fun i hi => ?_) ?_) (gS_push hS (by rw [z1, hR.1]) (fun q hq => o1 q (by rw [← hR.1]; exact hq))) hl
  · have hne : i ≠ n := Nat.ne_of_lt hi
    simp only [up_ne hne]
  · simp only [up_eq]
    rw [gCell_w]
    refine ⟨_, rfl, (u_born tyX11 hts iX11 hKn hkC e1 tyX11_ok).to (fun j hj => ?_)⟩
    have hj : j < 13 := hj
    match j, hj with
    | 0, _ => rfl
    | 1, _ => rfl
    | 2, _ => rfl
    | 3, _ => rfl
    | 4, _ => rfl
    | 5, _ => rfl
    | 6, _ => rfl
    | 7, _ => rfl
    | 8, _ => rfl
    | 9, _ => rfl
    | 10, _ => rfl
    | 11, _ => rfl
    | 12, _ => rfl
theorem g_newo12 (hC : gC l b0 D K own cc ret nL fr lo mc ms) {idx : Nat} (hw : Cond.classLink own idx RX12 ∈ gtbl) (hrm : cs + 1 ≤ mc ∧ ss + 58 ≤ ms) (hd : decode cc pc = .ok (.new idx, 3)) (kk : gV l b0 D K (n + 1, (va_up κ n (12 + 20, 0)), (va_up X n (fun _ => 0)), Y, (va_up Z n (fun _ => none)), cs + 1, ss + 58) (pc + 3) loc (.ref (b0 + n) :: st)) : gV l b0 D K (n, κ, X, Y, Z, cs, ss) pc loc st := by
  obtain ⟨p, e, R, s, m, args, below, meth, c, nL0, Q⟩ := K
  obtain ⟨hx, hb, hr, hml, rfl, hown, hts, hlk, hK, hNw, hb0, rfl⟩ := hC
  intro H locs ls hR hS hl
  have hKn := hK.1 12 _ rfl
  refine W.newcK hx hb hown (hts _ hw) (hts _ tw_1169) (hts _ tw_127) rfl hd hrm.1 hrm.2 hKn.2.1 hR.1 fun H1 kC hkC e1 z1 o1 => ?_
  refine kk H1 _ ls (gR_push hR z1 o1 (fun i hi => ?_) ?_) (gS_push hS (by rw [z1, hR.1]) (fun q hq => o1 q (by rw [← hR.1]; exact hq))) hl
  · have hne : i ≠ n := Nat.ne_of_lt hi
    simp only [up_ne hne]
  · simp only [up_eq]
    rw [gCell_w]
    refine ⟨_, rfl, (u_born tyX12 hts iX12 hKn hkC e1 tyX12_ok).to (fun j hj => ?_)⟩
    have hj : j < 58 := hj
    match j, hj with
    | 0, _ => rfl
    | 1, _ => rfl
    | 2, _ => rfl
    | 3, _ => rfl
    | 4, _ => rfl
    | 5, _ => rfl
    | 6, _ => rfl
    | 7, _ => rfl
    | 8, _ => rfl
    | 9, _ => rfl
    | 10, _ => rfl
    | 11, _ => rfl
    | 12, _ => rfl
    | 13, _ => rfl
    | 14, _ => rfl
    | 15, _ => rfl
    | 16, _ => rfl
    | 17, _ => rfl
    | 18, _ => rfl
    | 19, _ => rfl
    | 20, _ => rfl
    | 21, _ => rfl
    | 22, _ => rfl
    | 23, _ => rfl
    | 24, _ => rfl
    | 25, _ => rfl
    | 26, _ => rfl
    | 27, _ => rfl
    | 28, _ => rfl
    | 29, _ => rfl
    | 30, _ => rfl
    | 31, _ => rfl
    | 32, _ => rfl
    | 33, _ => rfl
    | 34, _ => rfl
    | 35, _ => rfl
    | 36, _ => rfl
    | 37, _ => rfl
    | 38, _ => rfl
    | 39, _ => rfl
    | 40, _ => rfl
    | 41, _ => rfl
    | 42, _ => rfl
    | 43, _ => rfl
    | 44, _ => rfl
    | 45, _ => rfl
    | 46, _ => rfl
    | 47, _ => rfl
    | 48, _ => rfl
    | 49, _ => rfl
    | 50, _ => rfl
    | 51, _ => rfl
    | 52, _ => rfl
    | 53, _ => rfl
    | 54, _ => rfl
    | 55, _ => rfl
    | 56, _ => rfl
    | 57, _ => rfl
    | j + 58, h => exact absurd h (by omega)
theorem g_objInit (hC : gC l b0 D K own cc ret nL fr lo mc ms) {idx : Nat} (hw : Cond.methodLink own idx objectInit ∈ gtbl) (hfr : 1 ≤ fr) (hlo : (st.map fun v => v.category).sum + 12 ≤ lo) {q : Nat} (hd : decode cc pc = .ok (.invokespecial idx, 3)) (k : gV l b0 D K σ (pc + 3) loc st) : gV l b0 D K σ pc loc (.ref q :: st) := by
  obtain ⟨p, e, R, s, m, args, below, meth, c, nL0, Q⟩ := K
  obtain ⟨n, κ, X, Y, Z, cs, ss⟩ := σ
  obtain ⟨hx, hb, hr, hml, rfl, hown, hts, hlk, hK, hNw, hb0, rfl⟩ := hC
  intro H locs ls hR hS hl
  exact W.objInit hx hb hown (hts _ hw) (hts _ tw_143) (hts _ tw_144) rfl (by rw [hml]; exact hl.1) rfl hd hfr (by show 2 * 0 + _ + 12 ≤ lo; omega) (k H locs ls hR hS hl)
end ALLOC

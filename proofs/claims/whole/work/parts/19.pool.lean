section POOL
variable {l : Launch} {b0 : Nat} {D : GD} {K : KT} {own : String} {cc : ByteArray} {ret : Option FieldType} {nL fr lo mc ms : Nat} {σ : SG} {pc : Nat} {loc : List (Nat × Value)} {st : List Value} {n : Nat} {κ : QT} {X : XT} {Y : YT} {Z : ZT} {cs ss a : Nat}
theorem gCell_r17 {i L : Nat} {x : Nat → Int32} {y : Nat → Int64} {z : Nat → Option Nat} : gCell b0 D i (17, L) x y z = .inl (D.2 4, L, .inr (.inr (.inr (.inr (fun j => (z j).map (b0 + ·)))))) := rfl
theorem gCell_r18 {i L : Nat} {x : Nat → Int32} {y : Nat → Int64} {z : Nat → Option Nat} : gCell b0 D i (18, L) x y z = .inl (D.2 5, L, .inr (.inr (.inr (.inr (fun j => (z j).map (b0 + ·)))))) := rfl
theorem gCell_r19 {i L : Nat} {x : Nat → Int32} {y : Nat → Int64} {z : Nat → Option Nat} : gCell b0 D i (19, L) x y z = .inl (D.2 6, L, .inr (.inr (.inr (.inr (fun j => (z j).map (b0 + ·)))))) := rfl
theorem gR_putZ {n a : Nat} {κ : QT} {X : XT} {Y : YT} {Z : ZT} {H H1 : Heap} {y : Nat → Option Nat} (hR : gR b0 D n κ X Y Z H) (z : H1.size = H.size) (oq : ∀ q, q ≠ b0 + a → H1[q]? = H[q]?) (hat : va_at D.1 vwCl (b0 + a, gCell b0 D a (κ a) (X a) (Y a) y) H1) : gR b0 D n κ X Y (va_up Z a y) H1 := ⟨by rw [z]; exact hR.1, fun i hi => by
  by_cases h : i = a
  · subst h
    have e : va_up Z i y i = y := by simp [va_up]
    rw [e]; exact hat
  · have e : va_up Z a y i = Z i := by simp [va_up, h]
    rw [e]; exact (hR.2 i hi).kept (oq _ (by show b0 + i ≠ b0 + a; omega))⟩
theorem g_aald17 (hC : gC l b0 D K own cc ret nL fr lo mc ms) {L : Nat} {i : Int32} (hk : κ a = (17, L)) (ha : a < n) (hin : vp_in i L) {r : Option Nat} (hz : Z a i.toNatClampNeg = r) (hd : decode cc pc = .ok (.aaload, 1)) (kk : gV l b0 D K (n, κ, X, Y, Z, cs, ss) (pc + 1) loc (va_rf (r.map (b0 + ·)) :: st)) : gV l b0 D K (n, κ, X, Y, Z, cs, ss) pc loc (.int i :: .ref (b0 + a) :: st) := by
  obtain ⟨p, e, R, s, m, args, below, meth, c, nL0, Q⟩ := K
  obtain ⟨hx, hb, hr, hml, rfl, hown, hts, hlk, hK, hNw, hb0, rfl⟩ := hC
  intro H locs ls hR hS hl
  have hcell := hR.2 a ha
  subst hz
  rw [hk, gCell_r17] at hcell
  exact va_aldq (D := D.1) hx hb hK (va_P1 hcell) 0 4 rfl rfl hin hd (kk H locs ls hR hS hl)
theorem g_aast17 (hC : gC l b0 D K own cc ret nL fr lo mc ms) {L v : Nat} {i : Int32} (hk : κ a = (17, L)) (ha : a < n) (hkv : κ v = (4, 0)) (hav : v < n) (hin : vp_in i L) {Z' : ZT} (hZ' : va_up Z a (va_up (Z a) i.toNatClampNeg (some v)) = Z') (hd : decode cc pc = .ok (.aastore, 1)) (kk : gV l b0 D K (n, κ, X, Y, Z', cs, ss) (pc + 1) loc st) : gV l b0 D K (n, κ, X, Y, Z, cs, ss) pc loc (.ref (b0 + v) :: .int i :: .ref (b0 + a) :: st) := by
  obtain ⟨p, e, R, s, m, args, below, meth, c, nL0, Q⟩ := K
  obtain ⟨hx, hb, hr, hml, rfl, hown, hts, hlk, hK, hNw, hb0, rfl⟩ := hC
  intro H locs ls hR hS hl
  have hcell := hR.2 a ha
  have hcv := hR.2 v hav
  rw [hk, gCell_r17] at hcell
  rw [hkv, gCell_o (by decide)] at hcv
  have hlt : i.toNatClampNeg < L := Nat.not_le.mp fun q => hin (Or.inr q)
  have h0 : ¬ i < 0 := fun q => hin (Or.inl q)
  obtain ⟨r', hr', cellV, g1, g2, g3, -⟩ := hcv
  have hcls := (hK.1 4 _ rfl).2
  obtain ⟨kA, comp, k1, k2, k3, -⟩ := (hK.2 4 _ rfl).2
  have hcomp : comp = D.1.1 4 := Option.some.inj (k3.symm.trans hcls.1)
  subst hcomp
  obtain ⟨kC, hkC, -⟩ := hcls.2
  refine W.aast hx hb hcell (fun q h => by cases h) (fun h => by cases h) k1 k2 rfl hkC ⟨h0, by show _ < (arrV _ _ _).slots.size; rw [arrV_size]; exact hlt⟩ g1 (fun q h => by rw [g3] at h; cases h) (by rw [g2]; exact hkC) (by rw [g2]; exact va_assign hcls) rfl rfl hd fun H1 e1 z oq => ?_
  subst hZ'
  refine kk H1 _ ls (gR_putZ hR z oq ?_) (gS_put hb0 hS z oq) hl
  rw [hk, gCell_r17]
  show H1[b0 + a]? = some (vp_cell _ _)
  rw [e1, vp_cell_q, vp_cell_q, arrV_store]
  congr 2
  funext q
  by_cases hq : q = i.toNatClampNeg
  · subst hq
    simp [updV, va_up, va_rf]
  · simp [updV, va_up, hq]
theorem g_aald18 (hC : gC l b0 D K own cc ret nL fr lo mc ms) {L : Nat} {i : Int32} (hk : κ a = (18, L)) (ha : a < n) (hin : vp_in i L) {r : Option Nat} (hz : Z a i.toNatClampNeg = r) (hd : decode cc pc = .ok (.aaload, 1)) (kk : gV l b0 D K (n, κ, X, Y, Z, cs, ss) (pc + 1) loc (va_rf (r.map (b0 + ·)) :: st)) : gV l b0 D K (n, κ, X, Y, Z, cs, ss) pc loc (.int i :: .ref (b0 + a) :: st) := by
  obtain ⟨p, e, R, s, m, args, below, meth, c, nL0, Q⟩ := K
  obtain ⟨hx, hb, hr, hml, rfl, hown, hts, hlk, hK, hNw, hb0, rfl⟩ := hC
  intro H locs ls hR hS hl
  have hcell := hR.2 a ha
  subst hz
  rw [hk, gCell_r18] at hcell
  exact va_aldq (D := D.1) hx hb hK (va_P1 hcell) 0 5 rfl rfl hin hd (kk H locs ls hR hS hl)
theorem g_aast18 (hC : gC l b0 D K own cc ret nL fr lo mc ms) {L v : Nat} {i : Int32} (hk : κ a = (18, L)) (ha : a < n) (hkv : κ v = (6, 0)) (hav : v < n) (hin : vp_in i L) {Z' : ZT} (hZ' : va_up Z a (va_up (Z a) i.toNatClampNeg (some v)) = Z') (hd : decode cc pc = .ok (.aastore, 1)) (kk : gV l b0 D K (n, κ, X, Y, Z', cs, ss) (pc + 1) loc st) : gV l b0 D K (n, κ, X, Y, Z, cs, ss) pc loc (.ref (b0 + v) :: .int i :: .ref (b0 + a) :: st) := by
  obtain ⟨p, e, R, s, m, args, below, meth, c, nL0, Q⟩ := K
  obtain ⟨hx, hb, hr, hml, rfl, hown, hts, hlk, hK, hNw, hb0, rfl⟩ := hC
  intro H locs ls hR hS hl
  have hcell := hR.2 a ha
  have hcv := hR.2 v hav
  rw [hk, gCell_r18] at hcell
  rw [hkv, gCell_o (by decide)] at hcv
  have hlt : i.toNatClampNeg < L := Nat.not_le.mp fun q => hin (Or.inr q)
  have h0 : ¬ i < 0 := fun q => hin (Or.inl q)
  obtain ⟨r', hr', cellV, g1, g2, g3, -⟩ := hcv
  have hcls := (hK.1 6 _ rfl).2
  obtain ⟨kA, comp, k1, k2, k3, -⟩ := (hK.2 5 _ rfl).2
  have hcomp : comp = D.1.1 6 := Option.some.inj (k3.symm.trans hcls.1)
  subst hcomp
  obtain ⟨kC, hkC, -⟩ := hcls.2
  refine W.aast hx hb hcell (fun q h => by cases h) (fun h => by cases h) k1 k2 rfl hkC ⟨h0, by show _ < (arrV _ _ _).slots.size; rw [arrV_size]; exact hlt⟩ g1 (fun q h => by rw [g3] at h; cases h) (by rw [g2]; exact hkC) (by rw [g2]; exact va_assign hcls) rfl rfl hd fun H1 e1 z oq => ?_
  subst hZ'
  refine kk H1 _ ls (gR_putZ hR z oq ?_) (gS_put hb0 hS z oq) hl
  rw [hk, gCell_r18]
  show H1[b0 + a]? = some (vp_cell _ _)
  rw [e1, vp_cell_q, vp_cell_q, arrV_store]
  congr 2
  funext q
  by_cases hq : q = i.toNatClampNeg
  · subst hq
    simp [updV, va_up, va_rf]
  · simp [updV, va_up, hq]
theorem g_aald19 (hC : gC l b0 D K own cc ret nL fr lo mc ms) {L : Nat} {i : Int32} (hk : κ a = (19, L)) (ha : a < n) (hin : vp_in i L) {r : Option Nat} (hz : Z a i.toNatClampNeg = r) (hd : decode cc pc = .ok (.aaload, 1)) (kk : gV l b0 D K (n, κ, X, Y, Z, cs, ss) (pc + 1) loc (va_rf (r.map (b0 + ·)) :: st)) : gV l b0 D K (n, κ, X, Y, Z, cs, ss) pc loc (.int i :: .ref (b0 + a) :: st) := by
  obtain ⟨p, e, R, s, m, args, below, meth, c, nL0, Q⟩ := K
  obtain ⟨hx, hb, hr, hml, rfl, hown, hts, hlk, hK, hNw, hb0, rfl⟩ := hC
  intro H locs ls hR hS hl
  have hcell := hR.2 a ha
  subst hz
  rw [hk, gCell_r19] at hcell
  exact va_aldq (D := D.1) hx hb hK (va_P1 hcell) 0 6 rfl rfl hin hd (kk H locs ls hR hS hl)
theorem g_aast19 (hC : gC l b0 D K own cc ret nL fr lo mc ms) {L v : Nat} {i : Int32} (hk : κ a = (19, L)) (ha : a < n) (hkv : κ v = (7, 0)) (hav : v < n) (hin : vp_in i L) {Z' : ZT} (hZ' : va_up Z a (va_up (Z a) i.toNatClampNeg (some v)) = Z') (hd : decode cc pc = .ok (.aastore, 1)) (kk : gV l b0 D K (n, κ, X, Y, Z', cs, ss) (pc + 1) loc st) : gV l b0 D K (n, κ, X, Y, Z, cs, ss) pc loc (.ref (b0 + v) :: .int i :: .ref (b0 + a) :: st) := by
  obtain ⟨p, e, R, s, m, args, below, meth, c, nL0, Q⟩ := K
  obtain ⟨hx, hb, hr, hml, rfl, hown, hts, hlk, hK, hNw, hb0, rfl⟩ := hC
  intro H locs ls hR hS hl
  have hcell := hR.2 a ha
  have hcv := hR.2 v hav
  rw [hk, gCell_r19] at hcell
  rw [hkv, gCell_o (by decide)] at hcv
  have hlt : i.toNatClampNeg < L := Nat.not_le.mp fun q => hin (Or.inr q)
  have h0 : ¬ i < 0 := fun q => hin (Or.inl q)
  obtain ⟨r', hr', cellV, g1, g2, g3, -⟩ := hcv
  have hcls := (hK.1 7 _ rfl).2
  obtain ⟨kA, comp, k1, k2, k3, -⟩ := (hK.2 6 _ rfl).2
  have hcomp : comp = D.1.1 7 := Option.some.inj (k3.symm.trans hcls.1)
  subst hcomp
  obtain ⟨kC, hkC, -⟩ := hcls.2
  refine W.aast hx hb hcell (fun q h => by cases h) (fun h => by cases h) k1 k2 rfl hkC ⟨h0, by show _ < (arrV _ _ _).slots.size; rw [arrV_size]; exact hlt⟩ g1 (fun q h => by rw [g3] at h; cases h) (by rw [g2]; exact hkC) (by rw [g2]; exact va_assign hcls) rfl rfl hd fun H1 e1 z oq => ?_
  subst hZ'
  refine kk H1 _ ls (gR_putZ hR z oq ?_) (gS_put hb0 hS z oq) hl
  rw [hk, gCell_r19]
  show H1[b0 + a]? = some (vp_cell _ _)
  rw [e1, vp_cell_q, vp_cell_q, arrV_store]
  congr 2
  funext q
  by_cases hq : q = i.toNatClampNeg
  · subst hq
    simp [updV, va_up, va_rf]
  · simp [updV, va_up, hq]
end POOL
section METQ
variable {l : Launch} {y : MethodName} {cc : ByteArray} {nL : Nat} {ret : Option FieldType} {fr lo mc ms b0 : Nat} {D : GD} {av : List Value} {n n' : Nat} {κ κ' : QT} {X X' : XT} {Y Y' : YT} {Z Z' : ZT} {own : String}
theorem g_metq {r : Option Nat} {C : String} (hy : plainName y.cls = true) (hyo : y.cls = own) (hret : ret = some (.object C)) (hlen : (lg_sl av).length ≤ nL)
    (body : ∀ K, gC l b0 D K own cc ret nL fr lo mc ms → (∀ pc loc, decode cc pc = .ok (.areturn, 1) → gV l b0 D K (n', κ', X', Y', Z', mc, ms) pc loc [va_rf (r.map (b0 + ·))]) → gV l b0 D K (n, κ, X, Y, Z, 0, 0) 0 (lv_args 0 av) []) : gMq l y cc nL ret fr lo mc ms b0 D av (n, κ, X, Y, Z) (n', κ', X', Y', Z') r := by
  refine Met.ofW (cc := cc) (maxL := nL) (ret := ret) hy rfl ?_
  intro p e s m args below meth c s₁ B hml hv
  obtain ⟨rfl, hR, hK, hNw⟩ := hv
  have hts0 := atoms_spec (ws := gWd y cc nL ret) B.pre
  have hts : ∀ w ∈ gtbl, w.before av.toArray s = true := fun w h => hts0 w (List.mem_cons_of_mem _ h)
  have hown : s.vm.findClass own = some m.cls := by rw [← hyo]; exact findClass_of_methodNamed B.named
  have hlocks := B.notSynchronized
  have hb0 : b0 ≤ s.heap.size := by rw [hR.1]; exact Nat.le_add_right _ _
  have hl := lv_entry av (n := nL) hlen
  rw [lg_entry_eq]
  generalize (lg_sl av ++ List.replicate (nL - (lg_sl av).length) Slot.unset).toArray = ls at hl ⊢
  refine body (p, e, gRm fr lo mc ms, s, m, av.toArray, below, meth, c, nL, MQ below (gQq b0 D (n', κ', X', Y', Z') r) av.toArray s mc ms (gA b0)) ⟨B.exec, B.bytes, B.returns, hml, rfl, hown, hts, hlocks, hK, hNw, hb0, rfl⟩ ?_ s.heap [] ls hR va_S.rf hl
  intro pc loc hd H locs ls hR' hS' hl'
  exact W.aret B.exec B.bytes (by rw [B.returns]; exact hret) (Or.inl ⟨_, rfl⟩) (by cases r with | none => exact Or.inl rfl | some a => exact Or.inr ⟨_, rfl⟩) (fun t ht hW => ⟨⟨r.map (b0 + ·), (), rfl, rfl, by rw [ht]; exact hR', va_K.moved hW.alike hK, gNW_at hNw hW hS' ht⟩, hS'.F ht⟩) hS'.2.2 hd
end METQ

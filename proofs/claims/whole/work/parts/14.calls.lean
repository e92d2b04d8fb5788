section CALLS
variable {l : Launch} {b0 : Nat} {D : GD} {K : KT} {own : String} {cc : ByteArray} {ret : Option FieldType} {nL fr lo mc ms : Nat} {pc : Nat} {loc : List (Nat × Value)} {st rest : List Value}
variable {n n' : Nat} {κ κ' : QT} {X X' : XT} {Y Y' : YT} {Z Z' : ZT} {cs ss : Nat} {y : MethodName} {cc' : ByteArray} {nL' fr' lo' mc' ms' idx : Nat} {ret' : Option FieldType} {As : List Value}
theorem g_callV_i (hC : gC l b0 D K own cc ret nL fr lo mc ms) {r : Int32} {a : Nat} (hM : gMi l y cc' nL' ret' fr' lo' mc' ms' b0 D (.ref (b0 + a) :: As) (n, κ, X, Y, Z) (n', κ', X', Y', Z') r) (hcd : Cond.code y cc' nL' ret' ∈ gtbl) (hlk0 : Cond.methodLink own idx y ∈ gtbl) (hini : Cond.initialized y.cls ∈ gtbl) {C : String} {ci N : Nat} {T : u_T} (hin : Cond.instanceMethod y ∈ gtbl) (hsel : Cond.selects C y y ∈ gtbl) (hc : vwCl[ci]? = some (C, T, N)) (hci : ci < 13) (hk : κ a = (ci, 0)) (ha : a < n) (hdd : y.cls ≠ "java/lang/invoke/MethodHandle" ∧ y.cls ≠ "java/lang/invoke/VarHandle" ∧ (parseMethodDescriptor y.desc).map (fun d => d.parameters.length) = some As.length) (hfr : fr' + 1 ≤ fr ∧ 8 + (nL' + 11) + lo' ≤ lo) (hrm : cs + mc' ≤ mc ∧ ss + ms' ≤ ms) (hst : (rest.map fun v => v.category).sum ≤ 8) (hstk : st = As.reverse ++ .ref (b0 + a) :: rest) (hd : decode cc pc = .ok (.invokevirtual idx, 3)) (kk : gV l b0 D K (n', κ', X', Y', Z', cs + mc', ss + ms') (pc + 3) loc (.int r :: rest)) : gV l b0 D K (n, κ, X, Y, Z, cs, ss) pc loc st := by
  obtain ⟨p, e, R, s, m, args, below, meth, c, nL0, Q⟩ := K
  obtain ⟨hx, hb, hr, hml, rfl, hown, hts, hlk, hK, hNw, hb0, rfl⟩ := hC
  intro H locs ls hR hS hl
  subst hstk
  have hcell := hR.2 a ha
  rw [hk, gCell_o hci] at hcell
  refine va_calli (va_runV (As := As) (rest := rest) ⟨hx, hb, hml, hown, hts⟩ hM (⟨callB_of _ hts (gGood hcd) rfl rfl rfl (hts _ hini) (hts _ hlk0) hdd hfr, hts _ hin, hts _ hsel⟩) ⟨gPc_blind, va_recv hK (va_P1 hcell) hc (q0 := 0) rfl, fun U hU hW => ⟨rfl, by rw [hU]; exact hR, va_K.moved hW.alike hK, gNw_warm hW hNw⟩⟩ rfl rfl hl.1 rfl (lv_room hst) hd hrm) hS (fun q _ h => h) (fun q h => h) (fun r2 u t H1 locs1 ht hvm hw hB hz1 hk1 hS1 => ?_)
  subst hw
  exact kk H1 locs1 ls (by rw [← ht]; exact hB.1) hS1 hl
theorem g_callV_l (hC : gC l b0 D K own cc ret nL fr lo mc ms) {r : Int64} {a : Nat} (hM : gMl l y cc' nL' ret' fr' lo' mc' ms' b0 D (.ref (b0 + a) :: As) (n, κ, X, Y, Z) (n', κ', X', Y', Z') r) (hcd : Cond.code y cc' nL' ret' ∈ gtbl) (hlk0 : Cond.methodLink own idx y ∈ gtbl) (hini : Cond.initialized y.cls ∈ gtbl) {C : String} {ci N : Nat} {T : u_T} (hin : Cond.instanceMethod y ∈ gtbl) (hsel : Cond.selects C y y ∈ gtbl) (hc : vwCl[ci]? = some (C, T, N)) (hci : ci < 13) (hk : κ a = (ci, 0)) (ha : a < n) (hdd : y.cls ≠ "java/lang/invoke/MethodHandle" ∧ y.cls ≠ "java/lang/invoke/VarHandle" ∧ (parseMethodDescriptor y.desc).map (fun d => d.parameters.length) = some As.length) (hfr : fr' + 1 ≤ fr ∧ 8 + (nL' + 11) + lo' ≤ lo) (hrm : cs + mc' ≤ mc ∧ ss + ms' ≤ ms) (hst : (rest.map fun v => v.category).sum ≤ 8) (hstk : st = As.reverse ++ .ref (b0 + a) :: rest) (hd : decode cc pc = .ok (.invokevirtual idx, 3)) (kk : gV l b0 D K (n', κ', X', Y', Z', cs + mc', ss + ms') (pc + 3) loc (.long r :: rest)) : gV l b0 D K (n, κ, X, Y, Z, cs, ss) pc loc st := by
  obtain ⟨p, e, R, s, m, args, below, meth, c, nL0, Q⟩ := K
  obtain ⟨hx, hb, hr, hml, rfl, hown, hts, hlk, hK, hNw, hb0, rfl⟩ := hC
  intro H locs ls hR hS hl
  subst hstk
  have hcell := hR.2 a ha
  rw [hk, gCell_o hci] at hcell
  refine va_calll (va_runV (As := As) (rest := rest) ⟨hx, hb, hml, hown, hts⟩ hM (⟨callB_of _ hts (gGood hcd) rfl rfl rfl (hts _ hini) (hts _ hlk0) hdd hfr, hts _ hin, hts _ hsel⟩) ⟨gPc_blind, va_recv hK (va_P1 hcell) hc (q0 := 0) rfl, fun U hU hW => ⟨rfl, by rw [hU]; exact hR, va_K.moved hW.alike hK, gNw_warm hW hNw⟩⟩ rfl rfl hl.1 rfl (lv_room hst) hd hrm) hS (fun q _ h => h) (fun q h => h) (fun r2 u t H1 locs1 ht hvm hw hB hz1 hk1 hS1 => ?_)
  subst hw
  exact kk H1 locs1 ls (by rw [← ht]; exact hB.1) hS1 hl
theorem g_callV_v (hC : gC l b0 D K own cc ret nL fr lo mc ms)  {a : Nat} (hM : gMv l y cc' nL' ret' fr' lo' mc' ms' b0 D (.ref (b0 + a) :: As) (n, κ, X, Y, Z) (n', κ', X', Y', Z')) (hcd : Cond.code y cc' nL' ret' ∈ gtbl) (hlk0 : Cond.methodLink own idx y ∈ gtbl) (hini : Cond.initialized y.cls ∈ gtbl) {C : String} {ci N : Nat} {T : u_T} (hin : Cond.instanceMethod y ∈ gtbl) (hsel : Cond.selects C y y ∈ gtbl) (hc : vwCl[ci]? = some (C, T, N)) (hci : ci < 13) (hk : κ a = (ci, 0)) (ha : a < n) (hdd : y.cls ≠ "java/lang/invoke/MethodHandle" ∧ y.cls ≠ "java/lang/invoke/VarHandle" ∧ (parseMethodDescriptor y.desc).map (fun d => d.parameters.length) = some As.length) (hfr : fr' + 1 ≤ fr ∧ 8 + (nL' + 11) + lo' ≤ lo) (hrm : cs + mc' ≤ mc ∧ ss + ms' ≤ ms) (hst : (rest.map fun v => v.category).sum ≤ 8) (hstk : st = As.reverse ++ .ref (b0 + a) :: rest) (hd : decode cc pc = .ok (.invokevirtual idx, 3)) (kk : gV l b0 D K (n', κ', X', Y', Z', cs + mc', ss + ms') (pc + 3) loc (rest)) : gV l b0 D K (n, κ, X, Y, Z, cs, ss) pc loc st := by
  obtain ⟨p, e, R, s, m, args, below, meth, c, nL0, Q⟩ := K
  obtain ⟨hx, hb, hr, hml, rfl, hown, hts, hlk, hK, hNw, hb0, rfl⟩ := hC
  intro H locs ls hR hS hl
  subst hstk
  have hcell := hR.2 a ha
  rw [hk, gCell_o hci] at hcell
  refine va_callv (va_runV (As := As) (rest := rest) ⟨hx, hb, hml, hown, hts⟩ hM (⟨callB_of _ hts (gGood hcd) rfl rfl rfl (hts _ hini) (hts _ hlk0) hdd hfr, hts _ hin, hts _ hsel⟩) ⟨gPc_blind, va_recv hK (va_P1 hcell) hc (q0 := 0) rfl, fun U hU hW => ⟨rfl, by rw [hU]; exact hR, va_K.moved hW.alike hK, gNw_warm hW hNw⟩⟩ rfl rfl hl.1 rfl (lv_room hst) hd hrm) hS (fun q _ h => h) (fun q h => h) (fun u t H1 locs1 ht hvm hw hB hz1 hk1 hS1 => ?_)
  exact kk H1 locs1 ls (by rw [← ht]; exact hB.1) hS1 hl
theorem g_callV_q (hC : gC l b0 D K own cc ret nL fr lo mc ms) {r : Option Nat} {a : Nat} (hM : gMq l y cc' nL' ret' fr' lo' mc' ms' b0 D (.ref (b0 + a) :: As) (n, κ, X, Y, Z) (n', κ', X', Y', Z') r) (hcd : Cond.code y cc' nL' ret' ∈ gtbl) (hlk0 : Cond.methodLink own idx y ∈ gtbl) (hini : Cond.initialized y.cls ∈ gtbl) {C : String} {ci N : Nat} {T : u_T} (hin : Cond.instanceMethod y ∈ gtbl) (hsel : Cond.selects C y y ∈ gtbl) (hc : vwCl[ci]? = some (C, T, N)) (hci : ci < 13) (hk : κ a = (ci, 0)) (ha : a < n) (hdd : y.cls ≠ "java/lang/invoke/MethodHandle" ∧ y.cls ≠ "java/lang/invoke/VarHandle" ∧ (parseMethodDescriptor y.desc).map (fun d => d.parameters.length) = some As.length) (hfr : fr' + 1 ≤ fr ∧ 8 + (nL' + 11) + lo' ≤ lo) (hrm : cs + mc' ≤ mc ∧ ss + ms' ≤ ms) (hst : (rest.map fun v => v.category).sum ≤ 8) (hstk : st = As.reverse ++ .ref (b0 + a) :: rest) (hd : decode cc pc = .ok (.invokevirtual idx, 3)) (kk : gV l b0 D K (n', κ', X', Y', Z', cs + mc', ss + ms') (pc + 3) loc (va_rf (r.map (b0 + ·)) :: rest)) : gV l b0 D K (n, κ, X, Y, Z, cs, ss) pc loc st := by
  obtain ⟨p, e, R, s, m, args, below, meth, c, nL0, Q⟩ := K
  obtain ⟨hx, hb, hr, hml, rfl, hown, hts, hlk, hK, hNw, hb0, rfl⟩ := hC
  intro H locs ls hR hS hl
  subst hstk
  have hcell := hR.2 a ha
  rw [hk, gCell_o hci] at hcell
  refine va_callq (va_runV (As := As) (rest := rest) ⟨hx, hb, hml, hown, hts⟩ hM (⟨callB_of _ hts (gGood hcd) rfl rfl rfl (hts _ hini) (hts _ hlk0) hdd hfr, hts _ hin, hts _ hsel⟩) ⟨gPc_blind, va_recv hK (va_P1 hcell) hc (q0 := 0) rfl, fun U hU hW => ⟨rfl, by rw [hU]; exact hR, va_K.moved hW.alike hK, gNw_warm hW hNw⟩⟩ rfl rfl hl.1 rfl (lv_room hst) hd hrm) hS (fun q _ h => h) (fun q h => h) (fun r2 u t H1 locs1 ht hvm hw hB hz1 hk1 hS1 => ?_)
  subst hw
  exact kk H1 locs1 ls (by rw [← ht]; exact hB.1) hS1 hl
theorem g_callS_i (hC : gC l b0 D K own cc ret nL fr lo mc ms) {r : Int32} (hM : gMi l y cc' nL' ret' fr' lo' mc' ms' b0 D As (n, κ, X, Y, Z) (n', κ', X', Y', Z') r) (hcd : Cond.code y cc' nL' ret' ∈ gtbl) (hlk0 : Cond.methodLink own idx y ∈ gtbl) (hini : Cond.initialized y.cls ∈ gtbl) (hin : Cond.static y ∈ gtbl) (hdd : y.cls ≠ "java/lang/invoke/MethodHandle" ∧ y.cls ≠ "java/lang/invoke/VarHandle" ∧ (parseMethodDescriptor y.desc).map (fun d => d.parameters.length) = some As.length) (hfr : fr' + 1 ≤ fr ∧ 8 + (nL' + 11) + lo' ≤ lo) (hrm : cs + mc' ≤ mc ∧ ss + ms' ≤ ms) (hst : (rest.map fun v => v.category).sum ≤ 8) (hstk : st = As.reverse ++ rest) (hd : decode cc pc = .ok (.invokestatic idx, 3)) (kk : gV l b0 D K (n', κ', X', Y', Z', cs + mc', ss + ms') (pc + 3) loc (.int r :: rest)) : gV l b0 D K (n, κ, X, Y, Z, cs, ss) pc loc st := by
  obtain ⟨p, e, R, s, m, args, below, meth, c, nL0, Q⟩ := K
  obtain ⟨hx, hb, hr, hml, rfl, hown, hts, hlk, hK, hNw, hb0, rfl⟩ := hC
  intro H locs ls hR hS hl
  subst hstk
  refine va_calli (va_runS (As := As) (rest := rest) ⟨hx, hb, hml, hown, hts⟩ hM (⟨callB_of _ hts (gGood hcd) rfl rfl rfl (hts _ hini) (hts _ hlk0) hdd hfr, hts _ hin⟩) ⟨gPc_blind, fun U hU hW => ⟨rfl, by rw [hU]; exact hR, va_K.moved hW.alike hK, gNw_warm hW hNw⟩⟩ rfl rfl hl.1 rfl (lv_room hst) hd hrm) hS (fun q _ h => h) (fun q h => h) (fun r2 u t H1 locs1 ht hvm hw hB hz1 hk1 hS1 => ?_)
  subst hw
  exact kk H1 locs1 ls (by rw [← ht]; exact hB.1) hS1 hl
theorem g_callS_l (hC : gC l b0 D K own cc ret nL fr lo mc ms) {r : Int64} (hM : gMl l y cc' nL' ret' fr' lo' mc' ms' b0 D As (n, κ, X, Y, Z) (n', κ', X', Y', Z') r) (hcd : Cond.code y cc' nL' ret' ∈ gtbl) (hlk0 : Cond.methodLink own idx y ∈ gtbl) (hini : Cond.initialized y.cls ∈ gtbl) (hin : Cond.static y ∈ gtbl) (hdd : y.cls ≠ "java/lang/invoke/MethodHandle" ∧ y.cls ≠ "java/lang/invoke/VarHandle" ∧ (parseMethodDescriptor y.desc).map (fun d => d.parameters.length) = some As.length) (hfr : fr' + 1 ≤ fr ∧ 8 + (nL' + 11) + lo' ≤ lo) (hrm : cs + mc' ≤ mc ∧ ss + ms' ≤ ms) (hst : (rest.map fun v => v.category).sum ≤ 8) (hstk : st = As.reverse ++ rest) (hd : decode cc pc = .ok (.invokestatic idx, 3)) (kk : gV l b0 D K (n', κ', X', Y', Z', cs + mc', ss + ms') (pc + 3) loc (.long r :: rest)) : gV l b0 D K (n, κ, X, Y, Z, cs, ss) pc loc st := by
  obtain ⟨p, e, R, s, m, args, below, meth, c, nL0, Q⟩ := K
  obtain ⟨hx, hb, hr, hml, rfl, hown, hts, hlk, hK, hNw, hb0, rfl⟩ := hC
  intro H locs ls hR hS hl
  subst hstk
  refine va_calll (va_runS (As := As) (rest := rest) ⟨hx, hb, hml, hown, hts⟩ hM (⟨callB_of _ hts (gGood hcd) rfl rfl rfl (hts _ hini) (hts _ hlk0) hdd hfr, hts _ hin⟩) ⟨gPc_blind, fun U hU hW => ⟨rfl, by rw [hU]; exact hR, va_K.moved hW.alike hK, gNw_warm hW hNw⟩⟩ rfl rfl hl.1 rfl (lv_room hst) hd hrm) hS (fun q _ h => h) (fun q h => h) (fun r2 u t H1 locs1 ht hvm hw hB hz1 hk1 hS1 => ?_)
  subst hw
  exact kk H1 locs1 ls (by rw [← ht]; exact hB.1) hS1 hl
theorem g_callS_v (hC : gC l b0 D K own cc ret nL fr lo mc ms)  (hM : gMv l y cc' nL' ret' fr' lo' mc' ms' b0 D As (n, κ, X, Y, Z) (n', κ', X', Y', Z')) (hcd : Cond.code y cc' nL' ret' ∈ gtbl) (hlk0 : Cond.methodLink own idx y ∈ gtbl) (hini : Cond.initialized y.cls ∈ gtbl) (hin : Cond.static y ∈ gtbl) (hdd : y.cls ≠ "java/lang/invoke/MethodHandle" ∧ y.cls ≠ "java/lang/invoke/VarHandle" ∧ (parseMethodDescriptor y.desc).map (fun d => d.parameters.length) = some As.length) (hfr : fr' + 1 ≤ fr ∧ 8 + (nL' + 11) + lo' ≤ lo) (hrm : cs + mc' ≤ mc ∧ ss + ms' ≤ ms) (hst : (rest.map fun v => v.category).sum ≤ 8) (hstk : st = As.reverse ++ rest) (hd : decode cc pc = .ok (.invokestatic idx, 3)) (kk : gV l b0 D K (n', κ', X', Y', Z', cs + mc', ss + ms') (pc + 3) loc (rest)) : gV l b0 D K (n, κ, X, Y, Z, cs, ss) pc loc st := by
  obtain ⟨p, e, R, s, m, args, below, meth, c, nL0, Q⟩ := K
  obtain ⟨hx, hb, hr, hml, rfl, hown, hts, hlk, hK, hNw, hb0, rfl⟩ := hC
  intro H locs ls hR hS hl
  subst hstk
  refine va_callv (va_runS (As := As) (rest := rest) ⟨hx, hb, hml, hown, hts⟩ hM (⟨callB_of _ hts (gGood hcd) rfl rfl rfl (hts _ hini) (hts _ hlk0) hdd hfr, hts _ hin⟩) ⟨gPc_blind, fun U hU hW => ⟨rfl, by rw [hU]; exact hR, va_K.moved hW.alike hK, gNw_warm hW hNw⟩⟩ rfl rfl hl.1 rfl (lv_room hst) hd hrm) hS (fun q _ h => h) (fun q h => h) (fun u t H1 locs1 ht hvm hw hB hz1 hk1 hS1 => ?_)
  exact kk H1 locs1 ls (by rw [← ht]; exact hB.1) hS1 hl
theorem g_callS_q (hC : gC l b0 D K own cc ret nL fr lo mc ms) {r : Option Nat} (hM : gMq l y cc' nL' ret' fr' lo' mc' ms' b0 D As (n, κ, X, Y, Z) (n', κ', X', Y', Z') r) (hcd : Cond.code y cc' nL' ret' ∈ gtbl) (hlk0 : Cond.methodLink own idx y ∈ gtbl) (hini : Cond.initialized y.cls ∈ gtbl) (hin : Cond.static y ∈ gtbl) (hdd : y.cls ≠ "java/lang/invoke/MethodHandle" ∧ y.cls ≠ "java/lang/invoke/VarHandle" ∧ (parseMethodDescriptor y.desc).map (fun d => d.parameters.length) = some As.length) (hfr : fr' + 1 ≤ fr ∧ 8 + (nL' + 11) + lo' ≤ lo) (hrm : cs + mc' ≤ mc ∧ ss + ms' ≤ ms) (hst : (rest.map fun v => v.category).sum ≤ 8) (hstk : st = As.reverse ++ rest) (hd : decode cc pc = .ok (.invokestatic idx, 3)) (kk : gV l b0 D K (n', κ', X', Y', Z', cs + mc', ss + ms') (pc + 3) loc (va_rf (r.map (b0 + ·)) :: rest)) : gV l b0 D K (n, κ, X, Y, Z, cs, ss) pc loc st := by
  obtain ⟨p, e, R, s, m, args, below, meth, c, nL0, Q⟩ := K
  obtain ⟨hx, hb, hr, hml, rfl, hown, hts, hlk, hK, hNw, hb0, rfl⟩ := hC
  intro H locs ls hR hS hl
  subst hstk
  refine va_callq (va_runS (As := As) (rest := rest) ⟨hx, hb, hml, hown, hts⟩ hM (⟨callB_of _ hts (gGood hcd) rfl rfl rfl (hts _ hini) (hts _ hlk0) hdd hfr, hts _ hin⟩) ⟨gPc_blind, fun U hU hW => ⟨rfl, by rw [hU]; exact hR, va_K.moved hW.alike hK, gNw_warm hW hNw⟩⟩ rfl rfl hl.1 rfl (lv_room hst) hd hrm) hS (fun q _ h => h) (fun q h => h) (fun r2 u t H1 locs1 ht hvm hw hB hz1 hk1 hS1 => ?_)
  subst hw
  exact kk H1 locs1 ls (by rw [← ht]; exact hB.1) hS1 hl
theorem g_callSN_i (hC : gC l b0 D K own cc ret nL fr lo mc ms) {r : Int32} (hM : gMi l y cc' nL' ret' fr' lo' mc' ms' b0 D As (n, κ, X, Y, Z) (n', κ', X', Y', Z') r) (hcd : Cond.code y cc' nL' ret' ∈ gtbl) {host : String} (hlk0 : Cond.methodLinkNest own idx y host ∈ gN) (hini : Cond.initialized y.cls ∈ gtbl) (hin : Cond.static y ∈ gtbl) (hdd : y.cls ≠ "java/lang/invoke/MethodHandle" ∧ y.cls ≠ "java/lang/invoke/VarHandle" ∧ (parseMethodDescriptor y.desc).map (fun d => d.parameters.length) = some As.length) (hfr : fr' + 1 ≤ fr ∧ 8 + (nL' + 11) + lo' ≤ lo) (hrm : cs + mc' ≤ mc ∧ ss + ms' ≤ ms) (hst : (rest.map fun v => v.category).sum ≤ 8) (hstk : st = As.reverse ++ rest) (hd : decode cc pc = .ok (.invokestatic idx, 3)) (kk : gV l b0 D K (n', κ', X', Y', Z', cs + mc', ss + ms') (pc + 3) loc (.int r :: rest)) : gV l b0 D K (n, κ, X, Y, Z, cs, ss) pc loc st := by
  obtain ⟨p, e, R, s, m, args, below, meth, c, nL0, Q⟩ := K
  obtain ⟨hx, hb, hr, hml, rfl, hown, hts, hlk, hK, hNw, hb0, rfl⟩ := hC
  intro H locs ls hR hS hl
  subst hstk
  refine va_calli (va_runSN (As := As) (rest := rest) ⟨hx, hb, hml, hown, hts⟩ hM (⟨va_cnB _ hts (gGood hcd) rfl rfl rfl (hNw _ hlk0) (hts _ hini) hdd hfr, hts _ hin, trivial⟩) ⟨gPc_blind, fun U hU hW => ⟨rfl, by rw [hU]; exact hR, va_K.moved hW.alike hK, gNw_warm hW hNw⟩⟩ rfl rfl hl.1 rfl (lv_room hst) hd hrm) hS (fun q _ h => h) (fun q h => h) (fun r2 u t H1 locs1 ht hvm hw hB hz1 hk1 hS1 => ?_)
  subst hw
  exact kk H1 locs1 ls (by rw [← ht]; exact hB.1) hS1 hl
theorem g_callSN_l (hC : gC l b0 D K own cc ret nL fr lo mc ms) {r : Int64} (hM : gMl l y cc' nL' ret' fr' lo' mc' ms' b0 D As (n, κ, X, Y, Z) (n', κ', X', Y', Z') r) (hcd : Cond.code y cc' nL' ret' ∈ gtbl) {host : String} (hlk0 : Cond.methodLinkNest own idx y host ∈ gN) (hini : Cond.initialized y.cls ∈ gtbl) (hin : Cond.static y ∈ gtbl) (hdd : y.cls ≠ "java/lang/invoke/MethodHandle" ∧ y.cls ≠ "java/lang/invoke/VarHandle" ∧ (parseMethodDescriptor y.desc).map (fun d => d.parameters.length) = some As.length) (hfr : fr' + 1 ≤ fr ∧ 8 + (nL' + 11) + lo' ≤ lo) (hrm : cs + mc' ≤ mc ∧ ss + ms' ≤ ms) (hst : (rest.map fun v => v.category).sum ≤ 8) (hstk : st = As.reverse ++ rest) (hd : decode cc pc = .ok (.invokestatic idx, 3)) (kk : gV l b0 D K (n', κ', X', Y', Z', cs + mc', ss + ms') (pc + 3) loc (.long r :: rest)) : gV l b0 D K (n, κ, X, Y, Z, cs, ss) pc loc st := by
  obtain ⟨p, e, R, s, m, args, below, meth, c, nL0, Q⟩ := K
  obtain ⟨hx, hb, hr, hml, rfl, hown, hts, hlk, hK, hNw, hb0, rfl⟩ := hC
  intro H locs ls hR hS hl
  subst hstk
  refine va_calll (va_runSN (As := As) (rest := rest) ⟨hx, hb, hml, hown, hts⟩ hM (⟨va_cnB _ hts (gGood hcd) rfl rfl rfl (hNw _ hlk0) (hts _ hini) hdd hfr, hts _ hin, trivial⟩) ⟨gPc_blind, fun U hU hW => ⟨rfl, by rw [hU]; exact hR, va_K.moved hW.alike hK, gNw_warm hW hNw⟩⟩ rfl rfl hl.1 rfl (lv_room hst) hd hrm) hS (fun q _ h => h) (fun q h => h) (fun r2 u t H1 locs1 ht hvm hw hB hz1 hk1 hS1 => ?_)
  subst hw
  exact kk H1 locs1 ls (by rw [← ht]; exact hB.1) hS1 hl
theorem g_callSN_v (hC : gC l b0 D K own cc ret nL fr lo mc ms)  (hM : gMv l y cc' nL' ret' fr' lo' mc' ms' b0 D As (n, κ, X, Y, Z) (n', κ', X', Y', Z')) (hcd : Cond.code y cc' nL' ret' ∈ gtbl) {host : String} (hlk0 : Cond.methodLinkNest own idx y host ∈ gN) (hini : Cond.initialized y.cls ∈ gtbl) (hin : Cond.static y ∈ gtbl) (hdd : y.cls ≠ "java/lang/invoke/MethodHandle" ∧ y.cls ≠ "java/lang/invoke/VarHandle" ∧ (parseMethodDescriptor y.desc).map (fun d => d.parameters.length) = some As.length) (hfr : fr' + 1 ≤ fr ∧ 8 + (nL' + 11) + lo' ≤ lo) (hrm : cs + mc' ≤ mc ∧ ss + ms' ≤ ms) (hst : (rest.map fun v => v.category).sum ≤ 8) (hstk : st = As.reverse ++ rest) (hd : decode cc pc = .ok (.invokestatic idx, 3)) (kk : gV l b0 D K (n', κ', X', Y', Z', cs + mc', ss + ms') (pc + 3) loc (rest)) : gV l b0 D K (n, κ, X, Y, Z, cs, ss) pc loc st := by
  obtain ⟨p, e, R, s, m, args, below, meth, c, nL0, Q⟩ := K
  obtain ⟨hx, hb, hr, hml, rfl, hown, hts, hlk, hK, hNw, hb0, rfl⟩ := hC
  intro H locs ls hR hS hl
  subst hstk
  refine va_callv (va_runSN (As := As) (rest := rest) ⟨hx, hb, hml, hown, hts⟩ hM (⟨va_cnB _ hts (gGood hcd) rfl rfl rfl (hNw _ hlk0) (hts _ hini) hdd hfr, hts _ hin, trivial⟩) ⟨gPc_blind, fun U hU hW => ⟨rfl, by rw [hU]; exact hR, va_K.moved hW.alike hK, gNw_warm hW hNw⟩⟩ rfl rfl hl.1 rfl (lv_room hst) hd hrm) hS (fun q _ h => h) (fun q h => h) (fun u t H1 locs1 ht hvm hw hB hz1 hk1 hS1 => ?_)
  exact kk H1 locs1 ls (by rw [← ht]; exact hB.1) hS1 hl
theorem g_callSN_q (hC : gC l b0 D K own cc ret nL fr lo mc ms) {r : Option Nat} (hM : gMq l y cc' nL' ret' fr' lo' mc' ms' b0 D As (n, κ, X, Y, Z) (n', κ', X', Y', Z') r) (hcd : Cond.code y cc' nL' ret' ∈ gtbl) {host : String} (hlk0 : Cond.methodLinkNest own idx y host ∈ gN) (hini : Cond.initialized y.cls ∈ gtbl) (hin : Cond.static y ∈ gtbl) (hdd : y.cls ≠ "java/lang/invoke/MethodHandle" ∧ y.cls ≠ "java/lang/invoke/VarHandle" ∧ (parseMethodDescriptor y.desc).map (fun d => d.parameters.length) = some As.length) (hfr : fr' + 1 ≤ fr ∧ 8 + (nL' + 11) + lo' ≤ lo) (hrm : cs + mc' ≤ mc ∧ ss + ms' ≤ ms) (hst : (rest.map fun v => v.category).sum ≤ 8) (hstk : st = As.reverse ++ rest) (hd : decode cc pc = .ok (.invokestatic idx, 3)) (kk : gV l b0 D K (n', κ', X', Y', Z', cs + mc', ss + ms') (pc + 3) loc (va_rf (r.map (b0 + ·)) :: rest)) : gV l b0 D K (n, κ, X, Y, Z, cs, ss) pc loc st := by
  obtain ⟨p, e, R, s, m, args, below, meth, c, nL0, Q⟩ := K
  obtain ⟨hx, hb, hr, hml, rfl, hown, hts, hlk, hK, hNw, hb0, rfl⟩ := hC
  intro H locs ls hR hS hl
  subst hstk
  refine va_callq (va_runSN (As := As) (rest := rest) ⟨hx, hb, hml, hown, hts⟩ hM (⟨va_cnB _ hts (gGood hcd) rfl rfl rfl (hNw _ hlk0) (hts _ hini) hdd hfr, hts _ hin, trivial⟩) ⟨gPc_blind, fun U hU hW => ⟨rfl, by rw [hU]; exact hR, va_K.moved hW.alike hK, gNw_warm hW hNw⟩⟩ rfl rfl hl.1 rfl (lv_room hst) hd hrm) hS (fun q _ h => h) (fun q h => h) (fun r2 u t H1 locs1 ht hvm hw hB hz1 hk1 hS1 => ?_)
  subst hw
  exact kk H1 locs1 ls (by rw [← ht]; exact hB.1) hS1 hl
theorem g_callI_v (hC : gC l b0 D K own cc ret nL fr lo mc ms)  {a : Nat} (hM : gMv l y cc' nL' none fr' lo' mc' ms' b0 D (.ref (b0 + a) :: As) (n, κ, X, Y, Z) (n', κ', X', Y', Z')) (hcd : Cond.code y cc' nL' none ∈ gtbl) (hlk0 : Cond.methodLink own idx y ∈ gtbl) (hini : Cond.initialized y.cls ∈ gtbl) (hin : Cond.instanceMethod y ∈ gtbl) (hnm : y.name = "<init>") (hdd : y.cls ≠ "java/lang/invoke/MethodHandle" ∧ y.cls ≠ "java/lang/invoke/VarHandle" ∧ (parseMethodDescriptor y.desc).map (fun d => d.parameters.length) = some As.length) (hfr : fr' + 1 ≤ fr ∧ 8 + (nL' + 11) + lo' ≤ lo) (hrm : cs + mc' ≤ mc ∧ ss + ms' ≤ ms) (hst : (rest.map fun v => v.category).sum ≤ 8) (hstk : st = As.reverse ++ .ref (b0 + a) :: rest) (hd : decode cc pc = .ok (.invokespecial idx, 3)) (kk : gV l b0 D K (n', κ', X', Y', Z', cs + mc', ss + ms') (pc + 3) loc (rest)) : gV l b0 D K (n, κ, X, Y, Z, cs, ss) pc loc st := by
  obtain ⟨p, e, R, s, m, args, below, meth, c, nL0, Q⟩ := K
  obtain ⟨hx, hb, hr, hml, rfl, hown, hts, hlk, hK, hNw, hb0, rfl⟩ := hC
  intro H locs ls hR hS hl
  subst hstk
  refine va_callv (va_runI (As := As) (rest := rest) ⟨hx, hb, hml, hown, hts⟩ hM (⟨callB_of _ hts (gGood hcd) rfl rfl rfl (hts _ hini) (hts _ hlk0) hdd hfr, hnm, hts _ hin⟩) ⟨gPc_blind, fun U hU hW => ⟨rfl, by rw [hU]; exact hR, va_K.moved hW.alike hK, gNw_warm hW hNw⟩⟩ rfl rfl hl.1 rfl (lv_room hst) hd hrm) hS (fun q _ h => h) (fun q h => h) (fun u t H1 locs1 ht hvm hw hB hz1 hk1 hS1 => ?_)
  exact kk H1 locs1 ls (by rw [← ht]; exact hB.1) hS1 hl
theorem g_callIN_v (hC : gC l b0 D K own cc ret nL fr lo mc ms)  {a : Nat} (hM : gMv l y cc' nL' none fr' lo' mc' ms' b0 D (.ref (b0 + a) :: As) (n, κ, X, Y, Z) (n', κ', X', Y', Z')) (hcd : Cond.code y cc' nL' none ∈ gtbl) {host : String} (hlk0 : Cond.methodLinkNest own idx y host ∈ gN) (hini : Cond.initialized y.cls ∈ gtbl) (hin : Cond.instanceMethod y ∈ gtbl) (hnm : y.name = "<init>") (hdd : y.cls ≠ "java/lang/invoke/MethodHandle" ∧ y.cls ≠ "java/lang/invoke/VarHandle" ∧ (parseMethodDescriptor y.desc).map (fun d => d.parameters.length) = some As.length) (hfr : fr' + 1 ≤ fr ∧ 8 + (nL' + 11) + lo' ≤ lo) (hrm : cs + mc' ≤ mc ∧ ss + ms' ≤ ms) (hst : (rest.map fun v => v.category).sum ≤ 8) (hstk : st = As.reverse ++ .ref (b0 + a) :: rest) (hd : decode cc pc = .ok (.invokespecial idx, 3)) (kk : gV l b0 D K (n', κ', X', Y', Z', cs + mc', ss + ms') (pc + 3) loc (rest)) : gV l b0 D K (n, κ, X, Y, Z, cs, ss) pc loc st := by
  obtain ⟨p, e, R, s, m, args, below, meth, c, nL0, Q⟩ := K
  obtain ⟨hx, hb, hr, hml, rfl, hown, hts, hlk, hK, hNw, hb0, rfl⟩ := hC
  intro H locs ls hR hS hl
  subst hstk
  refine va_callv (va_runIN (As := As) (rest := rest) ⟨hx, hb, hml, hown, hts⟩ hM (⟨va_cnB _ hts (gGood hcd) rfl rfl rfl (hNw _ hlk0) (hts _ hini) hdd hfr, hnm, hts _ hin⟩) ⟨gPc_blind, fun U hU hW => ⟨rfl, by rw [hU]; exact hR, va_K.moved hW.alike hK, gNw_warm hW hNw⟩⟩ rfl rfl hl.1 rfl (lv_room hst) hd hrm) hS (fun q _ h => h) (fun q h => h) (fun u t H1 locs1 ht hvm hw hB hz1 hk1 hS1 => ?_)
  exact kk H1 locs1 ls (by rw [← ht]; exact hB.1) hS1 hl
end CALLS

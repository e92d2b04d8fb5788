section RU
variable {l : Launch} {b0 : Nat} {D : GD} {K : KT} {own : String} {cc : ByteArray} {ret : Option FieldType} {nL fr lo mc ms : Nat} {pc : Nat} {loc : List (Nat × Value)} {st : List Value} {n n' : Nat} {κ κ' : QT} {X X' : XT} {Y Y' : YT} {Z Z' : ZT} {cs ss a : Nat} {y : MethodName} {av : List Value}
theorem g_mminC (hC : gC l b0 D K own cc ret nL fr lo mc ms) {x y : Int32} {idx : Nat} (hw : Cond.methodLink own idx yJ9_min_7cf53 ∈ gtbl) (hfr : 1 ≤ fr) (hlo : (st.map fun v => v.category).sum + 13 ≤ lo) (hc1 : cs ≤ mc) (hc2 : ss ≤ ms) (hd : decode cc pc = .ok (.invokestatic idx, 3)) (k : gV l b0 D K (n, κ, X, Y, Z, cs, ss) (pc + 3) loc (.int (if y < x then y else x) :: st)) : gV l b0 D K (n, κ, X, Y, Z, cs, ss) pc loc (.int y :: .int x :: st) := by
  obtain ⟨p, e, R, s, m, args, below, meth, c, nL0, Q⟩ := K
  obtain ⟨hx, hb, hr, hml, rfl, hown, hts, hlk, hK, hNw, hb0, rfl⟩ := hC
  intro H locs ls hR hS hl
  exact va_mmin hx hb (by rw [hml]; exact hl.1.symm) hown (hts _ hw) (hts _ tw_765) (hts _ tw_135) (hts _ tw_766) hfr hlo hc1 hc2 hd (k H locs ls hR hS hl)
theorem g_meta {r : Option Nat} {C : FieldType} (hy : plainName y.cls = true) (hyo : y.cls = own) (hret : ret = some (.array C)) (hlen : (lg_sl av).length ≤ nL)
    (body : ∀ K, gC l b0 D K own cc ret nL fr lo mc ms → (∀ pc loc, decode cc pc = .ok (.areturn, 1) → gV l b0 D K (n', κ', X', Y', Z', mc, ms) pc loc [va_rf (r.map (b0 + ·))]) → gV l b0 D K (n, κ, X, Y, Z, 0, 0) 0 (lv_args 0 av) []) : gMq l y cc nL ret fr lo mc ms b0 D av (n, κ, X, Y, Z) (n', κ', X', Y', Z') r := by
  refine Met.ofW (cc := cc) (maxL := nL) (ret := ret) hy rfl ?_
  intro p e s m args below meth c s₁ B hml hv
  obtain ⟨rfl, hR, hK, hNw⟩ := hv
  have hts0 := atoms_spec (ws := gWd y cc nL ret) B.pre
  have hts : ∀ w ∈ gtbl, w.before av.toArray s = true := fun w h => hts0 w (List.mem_cons_of_mem _ h)
  have hown : s.vm.findClass own = some m.cls := by rw [← hyo]; exact findClass_of_methodNamed B.named
  have hlocks := B.notSynchronized
  have hb0 : b0 ≤ s.heap.size := by rw [hR.1]; exact Nat.le_add_right _ _
  have hl := lv_entry av (n := nL) hlen
  rw [lg_entry_eq]
  generalize (lg_sl av ++ List.replicate (nL - (lg_sl av).length) Slot.unset).toArray = ls at hl ⊢
  refine body (p, e, gRm fr lo mc ms, s, m, av.toArray, below, meth, c, nL, MQ below (gQq b0 D (n', κ', X', Y', Z') r) av.toArray s mc ms (gA b0)) ⟨B.exec, B.bytes, B.returns, hml, rfl, hown, hts, hlocks, hK, hNw, hb0, rfl⟩ ?_ s.heap [] ls hR va_S.rf hl
  intro pc loc hd H locs ls hR' hS' hl'
  exact W.aret B.exec B.bytes (by rw [B.returns]; exact hret) (Or.inr ⟨_, rfl⟩) (by cases r with | none => exact Or.inl rfl | some a => exact Or.inr ⟨_, rfl⟩) (fun t ht hW => ⟨⟨r.map (b0 + ·), (), rfl, rfl, by rw [ht]; exact hR', va_K.moved hW.alike hK, gNW_at hNw hW hS' ht⟩, hS'.F ht⟩) hS'.2.2 hd
end RU
set_option maxHeartbeats 4000000 in
set_option maxRecDepth 100000 in
theorem c_copyOf (l : Launch) {b0 : Nat} {D : GD} {n : Nat} {κ : QT} {X : XT} {Y : YT} {Z : ZT} (hL : LY n κ) {v : Int32} {m : Nat} (hm : v.toNatClampNeg = m) (hv0 : ¬ v < 0) (hne : ¬ v = Int32.ofNat 412) (hlt : v < Int32.ofNat 412) (hm4 : m ≤ 412) : gMq l yJ7_copyOf_59c91 cJ7_copyOf_59c91 3 (some (FieldType.array FieldType.int)) 1 40 1 412 b0 D [.ref (b0 + 14), .int v] (n, κ, X, Y, Z) (n + 1, va_up κ n (14, m), va_up (va_up X n (fun _ => 0)) n (va_cpy (X 14) (fun _ => 0) 0 0 m), Y, Z) (some n) := by
  have h114 : 114 ≤ n := hL.1
  refine g_meta (own := "java/util/Arrays") (C := .int) (by decide) rfl rfl (Nat.le_of_ble_eq_true rfl) ?_
  intro K hC hret
  refine g_iload_n hC 1 dJ7_copyOf_59c91_0 rfl rfl ?_
  refine g_aload_n hC 0 dJ7_copyOf_59c91_1 rfl rfl ?_
  refine g_alen_i hC (L := 412) (kk_14 hL) (kn_14 hL) dJ7_copyOf_59c91_2 ?_
  refine g_icmp_ne hC 14 dJ7_copyOf_59c91_3 (by decide) (fun _ => ?_) (fun hq_ => absurd hq_ hne)
  refine g_iload_n hC 1 dJ7_copyOf_59c91_14 rfl rfl ?_
  refine g_new_int hC hv0 hm (show m * 4 ≤ 536870912 by omega) ⟨by decide, by omega⟩ dJ7_copyOf_59c91_15 ?_
  show gV l b0 D K (n + 1, va_up κ n (14, m), va_up X n (fun _ => 0), Y, Z, 0 + 1, 0 + m) 17 [(0, .ref (b0 + 14)), (1, .int v)] [.ref (b0 + n)]
  refine g_astore_n hC (i := 2) [(2, .ref (b0 + n)), (0, .ref (b0 + 14)), (1, .int v)] rfl dJ7_copyOf_59c91_17 (by decide) rfl ?_
  refine g_aload_n hC 1 dJ7_copyOf_59c91_18 rfl rfl ?_
  refine g_iconst hC (v := 0) dJ7_copyOf_59c91_19 ic_0 ?_
  refine g_aload_n hC 0 dJ7_copyOf_59c91_20 rfl rfl ?_
  refine g_iconst hC (v := 0) dJ7_copyOf_59c91_21 ic_0 ?_
  refine g_aload_n hC 1 dJ7_copyOf_59c91_22 rfl rfl ?_
  refine g_alen_i hC (L := 412) ((up_ne (by omega)).trans (kk_14 hL)) (by omega) dJ7_copyOf_59c91_23 ?_
  refine g_iload_n hC 2 dJ7_copyOf_59c91_24 rfl rfl ?_
  refine g_mminC hC tw_764 (by decide) (Nat.le_of_ble_eq_true rfl) (by decide) (by omega) dJ7_copyOf_59c91_25 ?_
  rw [if_pos hlt]
  refine g_copy hC (f := X 14) (g := fun _ => 0) tw_767 ((up_ne (by omega)).trans (kk_14 hL)) (by omega) up_eq (by omega) (up_ne (by omega)) up_eq (by simp [cpok, hv0, hm, hm4]) (by rw [hm]) (by decide) (by decide) dJ7_copyOf_59c91_28 ?_
  show gV l b0 D K (n + 1, va_up κ n (14, m), va_up (va_up X n (fun _ => 0)) n (va_cpy (X 14) (fun _ => 0) 0 0 m), Y, Z, 0 + 1, 0 + m) 31 [(2, .ref (b0 + n)), (0, .ref (b0 + 14)), (1, .int v)] []
  refine g_aload_n hC 0 dJ7_copyOf_59c91_31 rfl rfl ?_
  refine g_widen (cs' := 1) (ss' := 412) (by decide) (by omega) ?_
  exact hret _ _ dJ7_copyOf_59c91_32
set_option maxHeartbeats 4000000 in
set_option maxRecDepth 100000 in
theorem c_written (l : Launch) {b0 : Nat} {D : GD} {n : Nat} {κ : QT} {X : XT} {Y : YT} {Z : ZT} (hL : LY n κ) {m : Nat} (hm : (X 13 2).toNatClampNeg = m) (hv0 : ¬ X 13 2 < 0) (hne : ¬ X 13 2 = Int32.ofNat 412) (hlt : X 13 2 < Int32.ofNat 412) (hm4 : m ≤ 412) : gMq l yX5_writtenSteps cX5_writtenSteps 1 (some (FieldType.array FieldType.int)) 2 62 1 412 b0 D [.ref (b0 + 13)] (n, κ, X, Y, Z) (n + 1, va_up κ n (14, m), va_up (va_up X n (fun _ => 0)) n (va_cpy (X 14) (fun _ => 0) 0 0 m), Y, Z) (some n) := by
  refine g_meta (own := RX5) (C := .int) (by decide) rfl rfl (Nat.le_of_ble_eq_true rfl) ?_
  intro K hC hret
  refine g_aload_n hC 0 dX5_writtenSteps_0 rfl rfl ?_
  refine gt_X5_9 hC (a := 13) (kk_13 hL) (kn_13 hL) dX5_writtenSteps_1 ?_
  refine g_ref (b := 14) rfl ?_
  refine g_aload_n hC 0 dX5_writtenSteps_4 rfl rfl ?_
  refine gt_X5_19 hC (x := X 13) (kk_13 hL) (kn_13 hL) rfl dX5_writtenSteps_5 ?_
  refine g_callS_q hC (n' := n + 1) (κ' := va_up κ n (14, m)) (X' := va_up (va_up X n (fun _ => 0)) n (va_cpy (X 14) (fun _ => 0) 0 0 m)) (Y' := Y) (Z' := Z) (As := [.ref (b0 + 14), .int ((X 13) 2)]) (c_copyOf l hL hm hv0 hne hlt hm4) tw_756 tw_754 tw_128 tw_755 pd_J7_copyOf_59c91 (by decide) (by decide) rfl rfl (Nat.le_of_ble_eq_true rfl) rfl dX5_writtenSteps_8 ?_
  show gV l b0 D K (n + 1, va_up κ n (14, m), va_up (va_up X n (fun _ => 0)) n (va_cpy (X 14) (fun _ => 0) 0 0 m), Y, Z, 1, 412) 11 [(0, .ref (b0 + 13))] [.ref (b0 + n)]
  exact hret _ _ dX5_writtenSteps_11
set_option maxHeartbeats 4000000 in
set_option maxRecDepth 100000 in
theorem c_X4_init (l : Launch) {b0 : Nat} {D : GD} {n o : Nat} {κ : QT} {X : XT} {Y : YT} {Z Z2 : ZT} (hn : n = o + 2) (hk : κ o = (4 + 20, 0)) (hZ2 : ∀ i, i ≠ o → Z2 i = Z i) : gMv l yX4_init cX4_init 2 none 1 14 1 40 b0 D [.ref (b0 + o), .ref (b0 + (o + 1))] (n, κ, X, Y, Z) (o + 3, va_up (va_up κ (o + 2) (15, 40)) o (4, 0), X, va_up Y (o + 2) (fun _ => 0), Z2) := by
  subst hn
  refine g_metc (own := RX4) (by decide) rfl rfl (Nat.le_of_ble_eq_true rfl) ?_
  intro K hC hI hret
  refine g_aload_n hC 0 dX4_init_0 rfl rfl ?_
  refine g_objInit hC tw_771 (by decide) (Nat.le_of_ble_eq_true rfl) dX4_init_1 ?_
  refine g_aload_n hC 0 dX4_init_4 rfl rfl ?_
  refine g_bipush hC (v := 40) dX4_init_5 bp_40 ?_
  refine g_new_long hC (L := 40) (by decide) (by decide) (by decide) (by decide) dX4_init_7 ?_
  show gV l b0 D K (o + 3, va_up κ (o + 2) (15, 40), X, va_up Y (o + 2) (fun _ => 0), Z, 1, 40) 9 [(0, .ref (b0 + o)), (1, .ref (b0 + (o + 1)))] [.ref (b0 + (o + 2)), .ref (b0 + o)]
  refine pf_X4_11 hC hI (z := Z o) ((up_ne (by omega)).trans hk) (by omega) rfl rfl dX4_init_9 ?_
  refine g_aload_n hC 0 dX4_init_12 rfl rfl ?_
  refine g_aload_n hC 1 dX4_init_13 rfl rfl ?_
  refine pf_X4_15 hC hI (z := va_up (Z o) 1 (some (o + 2))) ((up_ne (by omega)).trans hk) (by omega) rfl up_eq dX4_init_14 ?_
  refine g_conv (κ' := va_up (va_up κ (o + 2) (15, 40)) o (4, 0)) (X' := X) (Y' := va_up Y (o + 2) (fun _ => 0)) (Z' := Z2) (fun i hi => ?_) (hret _ _ dX4_init_17)
  by_cases h : i = o
  · subst h
    have e2 : (va_up κ (i + 2) (15, 40)) i = (4 + 20, 0) := (up_ne (by omega)).trans hk
    rw [up_eq, e2, gCell_o (by decide), gCell_w, up_eq]
    rfl
  · rw [up_ne h, hZ2 i h, up_ne h, up_ne h]
set_option maxHeartbeats 4000000 in
set_option maxRecDepth 100000 in
theorem c_ruleA (l : Launch) {b0 : Nat} {D : GD} {n : Nat} {κ : QT} {X : XT} {Y : YT} {Z : ZT} (hL : LY n κ) (h1 : ¬ X 0 4 < 6) : gMi l yX11_rule cX11_rule 2 (some FieldType.int) 1 20 0 0 b0 D [.ref (b0 + 0)] (n, κ, X, Y, Z) (n, κ, X, Y, Z) (-1) := by
  refine g_meti (own := RX11) (by decide) rfl rfl (Nat.le_of_ble_eq_true rfl) ?_
  intro K hC hret
  refine g_aload_n hC 0 dX11_rule_0 rfl rfl ?_
  refine gt_X11_122 hC (x := X 0) (kk_0 hL) (kn_0 hL) rfl dX11_rule_1 ?_
  refine g_bipush hC (v := 6) dX11_rule_4 bp_6 ?_
  refine g_icmp_lt hC 11 dX11_rule_6 (by decide) (fun hq_ => absurd hq_ h1) (fun _ => ?_)
  refine g_iconst hC (v := (-1)) dX11_rule_9 ic_m1 ?_
  exact hret _ _ rfl dX11_rule_10
set_option maxHeartbeats 4000000 in
set_option maxRecDepth 100000 in
theorem c_ruleB (l : Launch) {b0 : Nat} {D : GD} {n : Nat} {κ : QT} {X : XT} {Y : YT} {Z : ZT} (hL : LY n κ) (h1 : X 0 4 < 6) {q1 q3 q4 q5 q13 q14 : Nat → Int32} (hf : fX5_readText (X 2) (X 1) (X 3) (X 4) (X 5) (X 13) (X 14) = some (0, q1, q3, q4, q5, q13, q14))  : gMi l yX11_rule cX11_rule 2 (some FieldType.int) 203 10066 0 0 b0 D [.ref (b0 + 0)] (n, κ, X, Y, Z) (n, κ, va_up (ov X [1, 2, 3, 4, 5, 13, 14] [q1, X 2, q3, q4, q5, q13, q14]) 1 (upd q1 1 0), Y, Z) (-2 - q1 7) := by
  refine g_meti (own := RX11) (by decide) rfl rfl (Nat.le_of_ble_eq_true rfl) ?_
  intro K hC hret
  refine g_aload_n hC 0 dX11_rule_0 rfl rfl ?_
  refine gt_X11_122 hC (x := X 0) (kk_0 hL) (kn_0 hL) rfl dX11_rule_1 ?_
  refine g_bipush hC (v := 6) dX11_rule_4 bp_6 ?_
  refine g_icmp_lt hC 11 dX11_rule_6 (by decide) (fun _ => ?_) (fun hq_ => absurd h1 hq_)
  refine g_aload_n hC 0 dX11_rule_11 rfl rfl ?_
  refine gt_X11_28 hC (a := 0) (kk_0 hL) (kn_0 hL) dX11_rule_12 ?_
  refine g_ref (b := 13) rfl ?_
  refine g_callV_i (a := 13) hC (n' := n) (κ' := κ) (X' := ov X [1, 2, 3, 4, 5, 13, 14] [q1, X 2, q3, q4, q5, q13, q14]) (Y' := Y) (Z' := Z) (As := []) (c_X5_readText l hL rfl rfl hf) tw_717 tw_714 tw_121 tw_715 tw_716 (ci := 5) rfl (by decide) (kk_13 hL) (kn_13 hL) pd_X5_readText (by decide) (by decide) rfl rfl (Nat.le_of_ble_eq_true rfl) rfl dX11_rule_15 ?_
  show gV l b0 D K (n, κ, ov X [1, 2, 3, 4, 5, 13, 14] [q1, X 2, q3, q4, q5, q13, q14], Y, Z, 0, 0) 18 [(0, .ref (b0 + 0))] [.int 0]
  refine g_istore_n hC (i := 1) [(1, .int 0), (0, .ref (b0 + 0))] rfl dX11_rule_18 (by decide) rfl ?_
  refine g_aload_n hC 1 dX11_rule_19 rfl rfl ?_
  refine gt_X11_12 hC (a := 0) (kk_0 hL) (kn_0 hL) dX11_rule_20 ?_
  refine g_ref (b := 1) rfl ?_
  refine g_iconst hC (v := 0) dX11_rule_23 ic_0 ?_
  have hq1 : (ov X [1, 2, 3, 4, 5, 13, 14] [q1, X 2, q3, q4, q5, q13, q14]) 1 = q1 := rfl
  refine pt_X11_96 hC (v := 0) (x := q1) (kk_1 hL) (kn_1 hL) rfl rfl dX11_rule_24 ?_
  refine g_eqX (show _ = va_up (ov X [1, 2, 3, 4, 5, 13, 14] [q1, X 2, q3, q4, q5, q13, q14]) 1 (upd q1 1 0) from rfl) ?_
  refine g_iload_n hC 0 dX11_rule_27 rfl rfl ?_
  refine g_if_ne hC 42 dX11_rule_28 (by decide) (fun hq_ => absurd rfl hq_) (fun _ => ?_)
  refine g_bipush hC (v := (-2)) dX11_rule_31 bp_m2 ?_
  refine g_aload_n hC 1 dX11_rule_33 rfl rfl ?_
  refine gt_X11_12 hC (a := 0) (kk_0 hL) (kn_0 hL) dX11_rule_34 ?_
  refine g_ref (b := 1) rfl ?_
  refine gt_X11_108 hC (x := (va_up (ov X [1, 2, 3, 4, 5, 13, 14] [q1, X 2, q3, q4, q5, q13, q14]) 1 (upd q1 1 0)) 1) (kk_1 hL) (kn_1 hL) rfl dX11_rule_37 ?_
  refine g_isub hC dX11_rule_40 ?_
  exact hret _ _ rfl dX11_rule_41
set_option maxHeartbeats 4000000 in
set_option maxRecDepth 100000 in
theorem c_ruleC (l : Launch) {b0 : Nat} {D : GD} {n : Nat} {κ : QT} {X : XT} {Y : YT} {Z : ZT} (hL : LY n κ) (h1 : X 0 4 < 6) {q1 q3 q4 q5 q13 q14 : Nat → Int32} (hf : fX5_readText (X 2) (X 1) (X 3) (X 4) (X 5) (X 13) (X 14) = some (1, q1, q3, q4, q5, q13, q14)) {m : Nat} (hm : (q13 2).toNatClampNeg = m) (hv0 : ¬ q13 2 < 0) (hne : ¬ q13 2 = Int32.ofNat 412) (hlt : q13 2 < Int32.ofNat 412) (hm4 : m ≤ 412) (hi : inb (X 0 4) 6 = true) : gMi l yX11_rule cX11_rule 2 (some FieldType.int) 203 10066 3 454 b0 D [.ref (b0 + 0)] (n, κ, X, Y, Z) (n + 3, blk κ n [(4, 0), (14, m), (15, 40)], (va_up (va_up (va_up (va_up (va_up (ov X [1, 2, 3, 4, 5, 13, 14] [q1, X 2, q3, q4, q5, q13, q14]) 1 (upd q1 1 0)) n (fun _ => 0)) (n + 1) (fun _ => 0)) (n + 1) (va_cpy ((va_up (va_up (ov X [1, 2, 3, 4, 5, 13, 14] [q1, X 2, q3, q4, q5, q13, q14]) 1 (upd q1 1 0)) n (fun _ => 0)) 14) (fun _ => 0) 0 0 m)) 0 (upd ((va_up (va_up (va_up (va_up (ov X [1, 2, 3, 4, 5, 13, 14] [q1, X 2, q3, q4, q5, q13, q14]) 1 (upd q1 1 0)) n (fun _ => 0)) (n + 1) (fun _ => 0)) (n + 1) (va_cpy ((va_up (va_up (ov X [1, 2, 3, 4, 5, 13, 14] [q1, X 2, q3, q4, q5, q13, q14]) 1 (upd q1 1 0)) n (fun _ => 0)) 14) (fun _ => 0) 0 0 m)) 0) 4 ((((va_up (va_up (va_up (va_up (ov X [1, 2, 3, 4, 5, 13, 14] [q1, X 2, q3, q4, q5, q13, q14]) 1 (upd q1 1 0)) n (fun _ => 0)) (n + 1) (fun _ => 0)) (n + 1) (va_cpy ((va_up (va_up (ov X [1, 2, 3, 4, 5, 13, 14] [q1, X 2, q3, q4, q5, q13, q14]) 1 (upd q1 1 0)) n (fun _ => 0)) 14) (fun _ => 0) 0 0 m)) 0) 4) + 1))), va_up Y (n + 2) (fun _ => 0), va_up Z 15 (va_up (Z 15) (X 0 4).toNatClampNeg (some n))) (((((va_up (va_up (va_up (va_up (va_up (ov X [1, 2, 3, 4, 5, 13, 14] [q1, X 2, q3, q4, q5, q13, q14]) 1 (upd q1 1 0)) n (fun _ => 0)) (n + 1) (fun _ => 0)) (n + 1) (va_cpy ((va_up (va_up (ov X [1, 2, 3, 4, 5, 13, 14] [q1, X 2, q3, q4, q5, q13, q14]) 1 (upd q1 1 0)) n (fun _ => 0)) 14) (fun _ => 0) 0 0 m)) 0 (upd ((va_up (va_up (va_up (va_up (ov X [1, 2, 3, 4, 5, 13, 14] [q1, X 2, q3, q4, q5, q13, q14]) 1 (upd q1 1 0)) n (fun _ => 0)) (n + 1) (fun _ => 0)) (n + 1) (va_cpy ((va_up (va_up (ov X [1, 2, 3, 4, 5, 13, 14] [q1, X 2, q3, q4, q5, q13, q14]) 1 (upd q1 1 0)) n (fun _ => 0)) 14) (fun _ => 0) 0 0 m)) 0) 4 ((((va_up (va_up (va_up (va_up (ov X [1, 2, 3, 4, 5, 13, 14] [q1, X 2, q3, q4, q5, q13, q14]) 1 (upd q1 1 0)) n (fun _ => 0)) (n + 1) (fun _ => 0)) (n + 1) (va_cpy ((va_up (va_up (ov X [1, 2, 3, 4, 5, 13, 14] [q1, X 2, q3, q4, q5, q13, q14]) 1 (upd q1 1 0)) n (fun _ => 0)) 14) (fun _ => 0) 0 0 m)) 0) 4) + 1)))) 0) 4) - 1) := by
  refine g_meti (own := RX11) (by decide) rfl rfl (Nat.le_of_ble_eq_true rfl) ?_
  intro K hC hret
  refine g_aload_n hC 0 dX11_rule_0 rfl rfl ?_
  refine gt_X11_122 hC (x := X 0) (kk_0 hL) (kn_0 hL) rfl dX11_rule_1 ?_
  refine g_bipush hC (v := 6) dX11_rule_4 bp_6 ?_
  refine g_icmp_lt hC 11 dX11_rule_6 (by decide) (fun _ => ?_) (fun hq_ => absurd h1 hq_)
  refine g_aload_n hC 0 dX11_rule_11 rfl rfl ?_
  refine gt_X11_28 hC (a := 0) (kk_0 hL) (kn_0 hL) dX11_rule_12 ?_
  refine g_ref (b := 13) rfl ?_
  refine g_callV_i (a := 13) hC (n' := n) (κ' := κ) (X' := ov X [1, 2, 3, 4, 5, 13, 14] [q1, X 2, q3, q4, q5, q13, q14]) (Y' := Y) (Z' := Z) (As := []) (c_X5_readText l hL rfl rfl hf) tw_717 tw_714 tw_121 tw_715 tw_716 (ci := 5) rfl (by decide) (kk_13 hL) (kn_13 hL) pd_X5_readText (by decide) (by decide) rfl rfl (Nat.le_of_ble_eq_true rfl) rfl dX11_rule_15 ?_
  show gV l b0 D K (n, κ, ov X [1, 2, 3, 4, 5, 13, 14] [q1, X 2, q3, q4, q5, q13, q14], Y, Z, 0, 0) 18 [(0, .ref (b0 + 0))] [.int 1]
  refine g_istore_n hC (i := 1) [(1, .int 1), (0, .ref (b0 + 0))] rfl dX11_rule_18 (by decide) rfl ?_
  refine g_aload_n hC 1 dX11_rule_19 rfl rfl ?_
  refine gt_X11_12 hC (a := 0) (kk_0 hL) (kn_0 hL) dX11_rule_20 ?_
  refine g_ref (b := 1) rfl ?_
  refine g_iconst hC (v := 0) dX11_rule_23 ic_0 ?_
  have hq1 : (ov X [1, 2, 3, 4, 5, 13, 14] [q1, X 2, q3, q4, q5, q13, q14]) 1 = q1 := rfl
  refine pt_X11_96 hC (v := 0) (x := q1) (kk_1 hL) (kn_1 hL) rfl rfl dX11_rule_24 ?_
  refine g_eqX (show _ = va_up (ov X [1, 2, 3, 4, 5, 13, 14] [q1, X 2, q3, q4, q5, q13, q14]) 1 (upd q1 1 0) from rfl) ?_
  refine g_iload_n hC 0 dX11_rule_27 rfl rfl ?_
  refine g_if_ne hC 42 dX11_rule_28 (by decide) (fun _ => ?_) (fun hq_ => absurd hq_ (by decide))
  refine g_aload_n hC 1 dX11_rule_42 rfl rfl ?_
  refine gt_X11_34 hC (a := 0) (kk_0 hL) (kn_0 hL) dX11_rule_43 ?_
  refine g_ref (b := 15) rfl ?_
  refine g_aload_n hC 1 dX11_rule_46 rfl rfl ?_
  refine gt_X11_122 hC (x := (va_up (ov X [1, 2, 3, 4, 5, 13, 14] [q1, X 2, q3, q4, q5, q13, q14]) 1 (upd q1 1 0)) 0) (kk_0 hL) (kn_0 hL) rfl dX11_rule_47 ?_
  have h114 : 114 ≤ n := hL.1
  generalize hXR : va_up (ov X [1, 2, 3, 4, 5, 13, 14] [q1, X 2, q3, q4, q5, q13, q14]) 1 (upd q1 1 0) = XR at *
  have eX0 : XR 0 = X 0 := by rw [← hXR]; rfl
  refine g_newo4 hC tw_301 (by decide) dX11_rule_50 ?_
  have hL2 : LY (n + 1) (va_up κ n (4 + 20, 0)) := by
    have e := LY_blk hL [(4 + 20, 0)] (by decide) (by decide) (fun j hj e => absurd e (by revert j; decide)) (fun j hj e => absurd e (by revert j; decide))
    rw [← show blk κ n ([] ++ [(4 + 20, 0)]) = blk κ n [(4 + 20, 0)] from rfl, ← blk_push (L := []), ← blk_nil] at e
    exact e
  show gV l b0 D K (n + 1, va_up κ n (4 + 20, 0), va_up XR n (fun _ => 0), Y, va_up Z n (fun _ => none), 0 + 1, 0 + 2) 53 [(1, .int 1), (0, .ref (b0 + 0))] [.ref (b0 + n), .int ((XR 0) 4), .ref (b0 + 15)]
  refine g_dup hC dX11_rule_53 rfl ?_
  refine g_aload_n hC 1 dX11_rule_54 rfl rfl ?_
  refine gt_X11_28 hC (a := 0) (kk_0 hL2) (kn_0 hL2) dX11_rule_55 ?_
  refine g_ref (b := 13) rfl ?_
  have e13 : (va_up XR n (fun _ => 0)) 13 = q13 := by rw [up_ne (by omega), ← hXR]; rfl
  refine g_callV_q (a := 13) hC (n' := n + 2) (κ' := va_up (va_up κ n (4 + 20, 0)) (n + 1) (14, m)) (X' := va_up (va_up (va_up XR n (fun _ => 0)) (n + 1) (fun _ => 0)) (n + 1) (va_cpy ((va_up XR n (fun _ => 0)) 14) (fun _ => 0) 0 0 m)) (Y' := Y) (Z' := va_up Z n (fun _ => none)) (As := []) (c_written l hL2 (by rw [e13]; exact hm) (by rw [e13]; exact hv0) (by rw [e13]; exact hne) (by rw [e13]; exact hlt) hm4) tw_753 tw_750 tw_121 tw_751 tw_752 (ci := 5) rfl (by decide) (kk_13 hL2) (kn_13 hL2) pd_X5_writtenSteps (by decide) (by decide) rfl rfl (Nat.le_of_ble_eq_true rfl) rfl dX11_rule_58 ?_
  show gV l b0 D K (n + 2, va_up (va_up κ n (4 + 20, 0)) (n + 1) (14, m), va_up (va_up (va_up XR n (fun _ => 0)) (n + 1) (fun _ => 0)) (n + 1) (va_cpy ((va_up XR n (fun _ => 0)) 14) (fun _ => 0) 0 0 m), Y, va_up Z n (fun _ => none), 0 + 1 + 1, 0 + 2 + 412) 61 [(1, .int 1), (0, .ref (b0 + 0))] [.ref (b0 + (n + 1)), .ref (b0 + n), .ref (b0 + n), .int ((XR 0) 4), .ref (b0 + 15)]
  refine g_callI_v hC (a := n) (As := [.ref (b0 + (n + 1))]) (c_X4_init l (o := n) (Z2 := Z) rfl ((up_ne (by omega)).trans up_eq) (fun i hi => (up_ne hi).symm)) tw_770 tw_768 tw_134 tw_769 rfl pd_X4_init (by decide) (by decide) rfl rfl (Nat.le_of_ble_eq_true rfl) rfl dX11_rule_61 ?_
  have hk4 : va_up (va_up (va_up (va_up κ n (4 + 20, 0)) (n + 1) (14, m)) (n + 2) (15, 40)) n (4, 0) = blk κ n [(4, 0), (14, m), (15, 40)] := by
    funext i
    by_cases c0 : i = n
    · subst c0; exact up_eq.trans (blk_at 0 rfl rfl).symm
    · rw [up_ne c0]
      by_cases c2 : i = n + 2
      · subst c2; exact up_eq.trans (blk_at 2 rfl rfl).symm
      · rw [up_ne c2]
        by_cases c1 : i = n + 1
        · subst c1; exact up_eq.trans (blk_at 1 rfl rfl).symm
        · rw [up_ne c1, up_ne c0]
          by_cases c : i < n
          · rw [blk_lt c]
          · have e : i - n = (i - n - 3) + 3 := by omega
            simp only [blk, if_neg c]
            rw [e]
            rfl
  have hL4 : LY (n + 3) (blk κ n [(4, 0), (14, m), (15, 40)]) := LY_blk hL [(4, 0), (14, m), (15, 40)] (fun j hj e => absurd e (by match j with | 0 => simp | 1 => simp | 2 => simp | j + 3 => simp)) (fun j hj e => absurd e (by match j with | 0 => simp | 1 => simp | 2 => simp | j + 3 => simp)) (fun j hj e => absurd e (by match j with | 0 => simp | 1 => simp | 2 => simp | j + 3 => simp)) (fun j hj e => by match j, e with | 0, _ => exact ⟨⟨m, rfl⟩, rfl⟩ | 1, e => simp at e | 2, e => simp at e | j + 3, e => simp at e)
  rw [hk4]
  show gV l b0 D K (n + 3, blk κ n [(4, 0), (14, m), (15, 40)], va_up (va_up (va_up XR n (fun _ => 0)) (n + 1) (fun _ => 0)) (n + 1) (va_cpy ((va_up XR n (fun _ => 0)) 14) (fun _ => 0) 0 0 m), va_up Y (n + 2) (fun _ => 0), Z, 0 + 1 + 1 + 1, 0 + 2 + 412 + 40) 64 [(1, .int 1), (0, .ref (b0 + 0))] [.ref (b0 + n), .int ((XR 0) 4), .ref (b0 + 15)]
  have e0 : (va_up (va_up (va_up XR n (fun _ => 0)) (n + 1) (fun _ => 0)) (n + 1) (va_cpy ((va_up XR n (fun _ => 0)) 14) (fun _ => 0) 0 0 m)) 0 = X 0 := by rw [up_ne (by omega), up_ne (by omega), up_ne (by omega), ← hXR]; rfl
  refine g_aast17 hC (L := 6) (a := 15) (v := n) (i := (XR 0) 4) (kk_15 hL4) (kn_15 hL4) (blk_at 0 rfl rfl) (by omega) (inb_in (by rw [eX0]; exact hi)) (Z' := va_up Z 15 (va_up (Z 15) (X 0 4).toNatClampNeg (some n))) (by rw [eX0]) dX11_rule_64 ?_
  show gV l b0 D K (n + 3, blk κ n [(4, 0), (14, m), (15, 40)], va_up (va_up (va_up XR n (fun _ => 0)) (n + 1) (fun _ => 0)) (n + 1) (va_cpy ((va_up XR n (fun _ => 0)) 14) (fun _ => 0) 0 0 m), va_up Y (n + 2) (fun _ => 0), va_up Z 15 (va_up (Z 15) (X 0 4).toNatClampNeg (some n)), 0 + 1 + 1 + 1, 0 + 2 + 412 + 40) 65 [(1, .int 1), (0, .ref (b0 + 0))] []
  refine g_aload_n hC 1 dX11_rule_65 rfl rfl ?_
  refine g_dup hC dX11_rule_66 rfl ?_
  refine gt_X11_122 hC (x := (va_up (va_up (va_up XR n (fun _ => 0)) (n + 1) (fun _ => 0)) (n + 1) (va_cpy ((va_up XR n (fun _ => 0)) 14) (fun _ => 0) 0 0 m)) 0) (kk_0 hL4) (kn_0 hL4) rfl dX11_rule_67 ?_
  refine g_iconst hC (v := 1) dX11_rule_70 ic_1 ?_
  refine g_iadd hC dX11_rule_71 ?_
  refine pt_X11_122 hC (v := (((va_up (va_up (va_up XR n (fun _ => 0)) (n + 1) (fun _ => 0)) (n + 1) (va_cpy ((va_up XR n (fun _ => 0)) 14) (fun _ => 0) 0 0 m)) 0) 4) + 1) (x := (va_up (va_up (va_up XR n (fun _ => 0)) (n + 1) (fun _ => 0)) (n + 1) (va_cpy ((va_up XR n (fun _ => 0)) 14) (fun _ => 0) 0 0 m)) 0) (kk_0 hL4) (kn_0 hL4) rfl rfl dX11_rule_72 ?_
  refine g_aload_n hC 1 dX11_rule_75 rfl rfl ?_
  refine gt_X11_122 hC (x := ((va_up (va_up (va_up (va_up XR n (fun _ => 0)) (n + 1) (fun _ => 0)) (n + 1) (va_cpy ((va_up XR n (fun _ => 0)) 14) (fun _ => 0) 0 0 m)) 0 (upd ((va_up (va_up (va_up XR n (fun _ => 0)) (n + 1) (fun _ => 0)) (n + 1) (va_cpy ((va_up XR n (fun _ => 0)) 14) (fun _ => 0) 0 0 m)) 0) 4 ((((va_up (va_up (va_up XR n (fun _ => 0)) (n + 1) (fun _ => 0)) (n + 1) (va_cpy ((va_up XR n (fun _ => 0)) 14) (fun _ => 0) 0 0 m)) 0) 4) + 1)))) 0) (kk_0 hL4) (kn_0 hL4) rfl dX11_rule_76 ?_
  refine g_iconst hC (v := 1) dX11_rule_79 ic_1 ?_
  refine g_isub hC dX11_rule_80 ?_
  exact hret _ _ rfl dX11_rule_81

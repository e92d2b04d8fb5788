def gQs (b0 : Nat) (D : GD) (h : HS) (r : Nat) : Array Value → State → Outcome → State → Prop := va_Qr (fun (_ : Unit) => True) (fun _ a t => a = D.2 (100 + r) ∧ gB b0 D h t) (gA b0)
def gMs (l : Launch) (y : MethodName) (cc : ByteArray) (nL : Nat) (ret : Option FieldType) (fr lo mc ms b0 : Nat) (D : GD) (av : List Value) (h h' : HS) (r : Nat) : Prop := Met l y (gWd y cc nL ret) (gRm fr lo mc ms) (gPc b0 D av h) (gQs b0 D h' r) mc ms (gA b0)
section METS2
variable {l : Launch} {y : MethodName} {cc : ByteArray} {nL : Nat} {ret : Option FieldType} {fr lo mc ms b0 : Nat} {D : GD} {av : List Value} {n n' : Nat} {κ κ' : QT} {X X' : XT} {Y Y' : YT} {Z Z' : ZT} {own : String}
theorem g_mets {r : Nat} (hy : plainName y.cls = true) (hyo : y.cls = own) (hret : ret = some (.object "java/lang/String")) (hlen : (lg_sl av).length ≤ nL)
    (body : ∀ K, gC l b0 D K own cc ret nL fr lo mc ms → (∀ pc loc, decode cc pc = .ok (.areturn, 1) → gV l b0 D K (n', κ', X', Y', Z', mc, ms) pc loc [.ref (D.2 (100 + r))]) → gV l b0 D K (n, κ, X, Y, Z, 0, 0) 0 (lv_args 0 av) []) : gMs l y cc nL ret fr lo mc ms b0 D av (n, κ, X, Y, Z) (n', κ', X', Y', Z') r := by
  refine Met.ofW (cc := cc) (maxL := nL) (ret := ret) hy rfl ?_
  intro p e s m args below meth c s₁ B hml hv
  obtain ⟨rfl, hR, hK, hNw⟩ := hv
  have hts0 := atoms_spec (ws := gWd y cc nL ret) B.pre
  have hts : ∀ w ∈ gtbl, w.before av.toArray s = true := fun w h => hts0 w (List.mem_cons_of_mem _ h)
  have hown : s.vm.findClass own = some m.cls := by rw [← hyo]; exact findClass_of_methodNamed B.named
  have hlocks := B.notSynchronized
  have hb0 : b0 ≤ s.heap.size := by rw [hR.1]; exact Nat.le_add_right _ _
  have hl := lv_entry av (n := nL) hlen
  rw [lg_entry_eq]
  generalize (lg_sl av ++ List.replicate (nL - (lg_sl av).length) Slot.unset).toArray = ls at hl ⊢
  refine body (p, e, gRm fr lo mc ms, s, m, av.toArray, below, meth, c, nL, MQ below (gQs b0 D (n', κ', X', Y', Z') r) av.toArray s mc ms (gA b0)) ⟨B.exec, B.bytes, B.returns, hml, rfl, hown, hts, hlocks, hK, hNw, hb0, rfl⟩ ?_ s.heap [] ls hR va_S.rf hl
  intro pc loc hd H locs ls hR' hS' hl'
  exact W.aret B.exec B.bytes (by rw [B.returns]; exact hret) (Or.inl ⟨_, rfl⟩) (Or.inr ⟨_, rfl⟩) (fun t ht hW => ⟨⟨(), _, rfl, trivial, rfl, by rw [ht]; exact hR', va_K.moved hW.alike hK, gNW_at hNw hW hS' ht⟩, hS'.F ht⟩) hS'.2.2 hd
end METS2
section CALLS2
variable {l : Launch} {b0 : Nat} {D : GD} {K : KT} {own : String} {cc : ByteArray} {ret : Option FieldType} {nL fr lo mc ms : Nat} {pc : Nat} {loc : List (Nat × Value)} {st rest : List Value}
variable {n n' : Nat} {κ κ' : QT} {X X' : XT} {Y Y' : YT} {Z Z' : ZT} {cs ss : Nat} {y : MethodName} {cc' : ByteArray} {nL' fr' lo' mc' ms' idx : Nat} {ret' : Option FieldType} {As : List Value}
theorem g_callS_s (hC : gC l b0 D K own cc ret nL fr lo mc ms) {r : Nat} (hM : gMs l y cc' nL' ret' fr' lo' mc' ms' b0 D As (n, κ, X, Y, Z) (n', κ', X', Y', Z') r) (hcd : Cond.code y cc' nL' ret' ∈ gtbl) (hlk0 : Cond.methodLink own idx y ∈ gtbl) (hini : Cond.initialized y.cls ∈ gtbl) (hin : Cond.static y ∈ gtbl) (hdd : y.cls ≠ "java/lang/invoke/MethodHandle" ∧ y.cls ≠ "java/lang/invoke/VarHandle" ∧ (parseMethodDescriptor y.desc).map (fun d => d.parameters.length) = some As.length) (hfr : fr' + 1 ≤ fr ∧ 8 + (nL' + 11) + lo' ≤ lo) (hrm : cs + mc' ≤ mc ∧ ss + ms' ≤ ms) {cs' ss' : Nat} (hcs : cs + mc' = cs') (hss : ss + ms' = ss') (hst : (rest.map fun v => v.category).sum ≤ 8) (hstk : st = As.reverse ++ rest) (hd : decode cc pc = .ok (.invokestatic idx, 3)) (kk : gV l b0 D K (n', κ', X', Y', Z', cs', ss') (pc + 3) loc (.ref (D.2 (100 + r)) :: rest)) : gV l b0 D K (n, κ, X, Y, Z, cs, ss) pc loc st := by
  obtain ⟨p, e, R, s, m, args, below, meth, c, nL0, Q⟩ := K
  obtain ⟨hx, hb, hr, hml, rfl, hown, hts, hlk, hK, hNw, hb0, rfl⟩ := hC
  intro H locs ls hR hS hl
  subst hstk; subst hcs; subst hss
  refine va_callr (va_runS (As := As) (rest := rest) ⟨hx, hb, hml, hown, hts⟩ hM (⟨callB_of _ hts (gGood hcd) rfl rfl rfl (hts _ hini) (hts _ hlk0) hdd hfr, hts _ hin⟩) ⟨gPc_blind, fun U hU hW => ⟨rfl, by rw [hU]; exact hR, va_K.moved hW.alike hK, gNW_at hNw hW hS hU⟩⟩ rfl rfl hl.1 rfl (lv_room hst) hd hrm) hS (fun q _ h => h) (fun q h => h) (fun u ra t H1 locs1 ht hvm hw hB hz1 hk1 hS1 => ?_)
  obtain ⟨rfl, hB⟩ := hB
  exact kk H1 locs1 ls (by rw [← ht]; exact hB.1) hS1 hl
theorem gMs_eq {av : List Value} {h : HS} {r : Nat} {X2 : XT} {Y2 : YT} (hM : gMs l y cc' nL' ret' fr' lo' mc' ms' b0 D av h (n', κ', X', Y', Z') r) (h1 : X' = X2) (h2 : Y' = Y2) : gMs l y cc' nL' ret' fr' lo' mc' ms' b0 D av h (n', κ', X2, Y2, Z') r := by subst h1; subst h2; exact hM
end CALLS2
theorem lenS_small : ∀ i, i < nStr → lenS.getD i 0 < 100 := by decide
theorem inb_0 {j : Int32} {L : Nat} (h : inb j L = true) : ¬ j < 0 := by
  simp only [inb, Bool.and_eq_true, decide_eq_true_eq] at h
  exact h.1
theorem inb_s {j : Int32} {i : Nat} (hi : i < nStr) (h : inb j (lenS.getD i 0) = true) : j < Int32.ofNat (lenS.getD i 0) := by
  have hs := lenS_small i hi
  simp only [inb, Bool.and_eq_true, decide_eq_true_eq] at h
  obtain ⟨k, hk, rfl⟩ := nI_of h.1
  rw [nI_clamp hk] at h
  exact nI_lt h.2 (by omega)

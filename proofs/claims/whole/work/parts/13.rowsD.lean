theorem gNw_warm {s U : State} (hW : s.WarmedH U.vm) (h : ∀ w ∈ gN, va_Nw w s) : ∀ w ∈ gN, va_Nw w U := fun w hw => by
  have hz := h w hw
  simp only [gN, List.mem_cons, List.not_mem_nil, or_false] at hw
  rcases hw with rfl | rfl | rfl | rfl | rfl | rfl | rfl | rfl | rfl | rfl | rfl | rfl | rfl | rfl <;> exact va_Nw.warmM hW hz
theorem gNw_same {s U : State} (hv : s.vm = U.vm) (h : ∀ w ∈ gN, va_Nw w s) : ∀ w ∈ gN, va_Nw w U := fun w hw => by
  have hz := h w hw
  simp only [gN, List.mem_cons, List.not_mem_nil, or_false] at hw
  rcases hw with rfl | rfl | rfl | rfl | rfl | rfl | rfl | rfl | rfl | rfl | rfl | rfl | rfl | rfl <;> exact va_Nw.same rfl hv hz
theorem gNW_at {b0 : Nat} {D : GD} {s U : State} {H : Heap} {locs : List Loc} (h : gNW b0 D s) (hW : s.WarmedH U.vm) (hS : va_S (gA b0) s.heap H locs) (hU : U.heap = H) : gNW b0 D U := by
  obtain ⟨h1, h2, ⟨h3, h4, h5⟩, h6, h7, h8⟩ := h
  have hq : ∀ a : Nat, a < s.heap.size → ¬ gA b0 a → U.heap[a]? = s.heap[a]? := fun a ha hA => by rw [hU]; exact hS.2.1 a ha hA
  exact ⟨gNw_warm hW h1, fun q hq => vk_R.warm hW (h2 q hq), ⟨va_AO.moved hW.alike h3, va_AO.moved hW.alike h4, va_AO.moved hW.alike h5⟩, (h6.kept hq).moved hW.alike, va_Z.moved hW.alike (va_Z.kept h7 hq), va_Zq.moved hW.alike (va_Zq.kept h8 hq)⟩
theorem gNW_calling {b0 : Nat} {D : GD} {U : State} {g : JFrame} {mk : MethodId} {a : Array Value} (h : gNW b0 D U) : gNW b0 D (U.calling g mk a) := by
  obtain ⟨h1, h2, ⟨h3, h4, h5⟩, h6, h7, h8⟩ := h
  have hv : U.vm.Alike (U.calling g mk a).vm := Vm.Alike.refl U.vm
  exact ⟨gNw_same (s := U) rfl h1, fun q hq => vk_R.same (u := U) rfl (h2 q hq), ⟨va_AO.moved hv h3, va_AO.moved hv h4, va_AO.moved hv h5⟩, vk_S.moved hv h6, va_Z.moved hv h7, va_Zq.moved hv h8⟩
def gB (b0 : Nat) (D : GD) (h : HS) (t : State) : Prop := match h with
  | (n, κ, X, Y, Z) => gR b0 D n κ X Y Z t.heap ∧ va_K D.1 vwCl (gT D) t ∧ gNW b0 D t
def gPc (b0 : Nat) (D : GD) (av : List Value) (h : HS) : Array Value → State → Prop := va_Pc av (gB b0 D h)
theorem gPc_blind {b0 : Nat} {D : GD} {av : List Value} {h : HS} : FrameBlind (gPc b0 D av h) := fun a U g mk q => by
  obtain ⟨n, κ, X, Y, Z⟩ := h
  obtain ⟨q0, q1, q2, q3⟩ := q
  exact ⟨q0, q1, va_K.moved (u := U) (U := U.calling g mk a) (Vm.Alike.refl U.vm) q2, gNW_calling q3⟩
def gQi (b0 : Nat) (D : GD) (h : HS) (r : Int32) : Array Value → State → Outcome → State → Prop := va_Qi (fun (r' : Int32) (_ : Unit) => r' = r) (fun _ t => gB b0 D h t) (gA b0)
def gQl (b0 : Nat) (D : GD) (h : HS) (r : Int64) : Array Value → State → Outcome → State → Prop := va_Ql (fun (r' : Int64) (_ : Unit) => r' = r) (fun _ t => gB b0 D h t) (gA b0)
def gQv (b0 : Nat) (D : GD) (h : HS) : Array Value → State → Outcome → State → Prop := va_Qv (fun (_ : Unit) => True) (fun _ t => gB b0 D h t) (gA b0)
def gQq (b0 : Nat) (D : GD) (h : HS) (r : Option Nat) : Array Value → State → Outcome → State → Prop := va_Qq (fun (r' : Option Nat) (_ : Unit) => r' = r.map (b0 + ·)) (fun _ t => gB b0 D h t) (gA b0)
abbrev gWd (y : MethodName) (cc : ByteArray) (nL : Nat) (ret : Option FieldType) : List Cond := Cond.code y cc nL ret :: gtbl
abbrev gRm (fr lo mc ms : Nat) : Room := { frames := fr, cells := mc, slots := ms, locals := lo }
def gMi (l : Launch) (y : MethodName) (cc : ByteArray) (nL : Nat) (ret : Option FieldType) (fr lo mc ms b0 : Nat) (D : GD) (av : List Value) (h h' : HS) (r : Int32) : Prop := Met l y (gWd y cc nL ret) (gRm fr lo mc ms) (gPc b0 D av h) (gQi b0 D h' r) mc ms (gA b0)
def gMl (l : Launch) (y : MethodName) (cc : ByteArray) (nL : Nat) (ret : Option FieldType) (fr lo mc ms b0 : Nat) (D : GD) (av : List Value) (h h' : HS) (r : Int64) : Prop := Met l y (gWd y cc nL ret) (gRm fr lo mc ms) (gPc b0 D av h) (gQl b0 D h' r) mc ms (gA b0)
def gMv (l : Launch) (y : MethodName) (cc : ByteArray) (nL : Nat) (ret : Option FieldType) (fr lo mc ms b0 : Nat) (D : GD) (av : List Value) (h h' : HS) : Prop := Met l y (gWd y cc nL ret) (gRm fr lo mc ms) (gPc b0 D av h) (gQv b0 D h') mc ms (gA b0)
def gMq (l : Launch) (y : MethodName) (cc : ByteArray) (nL : Nat) (ret : Option FieldType) (fr lo mc ms b0 : Nat) (D : GD) (av : List Value) (h h' : HS) (r : Option Nat) : Prop := Met l y (gWd y cc nL ret) (gRm fr lo mc ms) (gPc b0 D av h) (gQq b0 D h' r) mc ms (gA b0)
section METS
variable {l : Launch} {y : MethodName} {cc : ByteArray} {nL : Nat} {ret : Option FieldType} {fr lo mc ms b0 : Nat} {D : GD} {av : List Value} {n n' : Nat} {κ κ' : QT} {X X' : XT} {Y Y' : YT} {Z Z' : ZT} {own : String}
theorem g_meti {r : Int32} {ty : FieldType} (hy : plainName y.cls = true) (hyo : y.cls = own) (hret : ret = some ty) (hlen : (lg_sl av).length ≤ nL)
    (body : ∀ K, gC l b0 D K own cc ret nL fr lo mc ms → (∀ pc loc, narrow ty (.int r) = .int r → decode cc pc = .ok (.ireturn, 1) → gV l b0 D K (n', κ', X', Y', Z', mc, ms) pc loc [.int r]) → gV l b0 D K (n, κ, X, Y, Z, 0, 0) 0 (lv_args 0 av) []) : gMi l y cc nL ret fr lo mc ms b0 D av (n, κ, X, Y, Z) (n', κ', X', Y', Z') r := by
  refine Met.ofW (cc := cc) (maxL := nL) (ret := ret) hy rfl ?_
  intro p e s m args below meth c s₁ B hml hv
  obtain ⟨rfl, hR, hK, hNw⟩ := hv
  have hts0 := atoms_spec (ws := gWd y cc nL ret) B.pre
  have hts : ∀ w ∈ gtbl, w.before av.toArray s = true := fun w h => hts0 w (List.mem_cons_of_mem _ h)
  have hown : s.vm.findClass own = some m.cls := by rw [← hyo]; exact findClass_of_methodNamed B.named
  have hlocks := B.notSynchronized
  have hb0 : b0 ≤ s.heap.size := by rw [hR.1]; exact Nat.le_add_right _ _
  have hl := lv_entry av (n := nL) hlen
  rw [lg_entry_eq]
  generalize (lg_sl av ++ List.replicate (nL - (lg_sl av).length) Slot.unset).toArray = ls at hl ⊢
  refine body (p, e, gRm fr lo mc ms, s, m, av.toArray, below, meth, c, nL, MQ below (gQi b0 D (n', κ', X', Y', Z') r) av.toArray s mc ms (gA b0)) ⟨B.exec, B.bytes, B.returns, hml, rfl, hown, hts, hlocks, hK, hNw, hb0, rfl⟩ ?_ s.heap [] ls hR va_S.rf hl
  intro pc loc hnar hd H locs ls hR' hS' hl'
  exact W.zret B.exec B.bytes (by rw [B.returns]; exact hret) hnar (fun t ht hW => ⟨⟨r, (), rfl, rfl, by rw [ht]; exact hR', va_K.moved hW.alike hK, gNW_at hNw hW hS' ht⟩, hS'.F ht⟩) hS'.2.2 hd
theorem g_metl {r : Int64} (hy : plainName y.cls = true) (hyo : y.cls = own) (hret : ret = some .long) (hlen : (lg_sl av).length ≤ nL)
    (body : ∀ K, gC l b0 D K own cc ret nL fr lo mc ms → (∀ pc loc, decode cc pc = .ok (.lreturn, 1) → gV l b0 D K (n', κ', X', Y', Z', mc, ms) pc loc [.long r]) → gV l b0 D K (n, κ, X, Y, Z, 0, 0) 0 (lv_args 0 av) []) : gMl l y cc nL ret fr lo mc ms b0 D av (n, κ, X, Y, Z) (n', κ', X', Y', Z') r := by
  refine Met.ofW (cc := cc) (maxL := nL) (ret := ret) hy rfl ?_
  intro p e s m args below meth c s₁ B hml hv
  obtain ⟨rfl, hR, hK, hNw⟩ := hv
  have hts0 := atoms_spec (ws := gWd y cc nL ret) B.pre
  have hts : ∀ w ∈ gtbl, w.before av.toArray s = true := fun w h => hts0 w (List.mem_cons_of_mem _ h)
  have hown : s.vm.findClass own = some m.cls := by rw [← hyo]; exact findClass_of_methodNamed B.named
  have hlocks := B.notSynchronized
  have hb0 : b0 ≤ s.heap.size := by rw [hR.1]; exact Nat.le_add_right _ _
  have hl := lv_entry av (n := nL) hlen
  rw [lg_entry_eq]
  generalize (lg_sl av ++ List.replicate (nL - (lg_sl av).length) Slot.unset).toArray = ls at hl ⊢
  refine body (p, e, gRm fr lo mc ms, s, m, av.toArray, below, meth, c, nL, MQ below (gQl b0 D (n', κ', X', Y', Z') r) av.toArray s mc ms (gA b0)) ⟨B.exec, B.bytes, B.returns, hml, rfl, hown, hts, hlocks, hK, hNw, hb0, rfl⟩ ?_ s.heap [] ls hR va_S.rf hl
  intro pc loc hd H locs ls hR' hS' hl'
  exact W.lret B.exec B.bytes (by rw [B.returns]; exact hret) (fun t ht hW => ⟨⟨r, (), rfl, rfl, by rw [ht]; exact hR', va_K.moved hW.alike hK, gNW_at hNw hW hS' ht⟩, hS'.F ht⟩) hS'.2.2 hd
theorem g_metv (hy : plainName y.cls = true) (hyo : y.cls = own) (hret : ret = none) (hlen : (lg_sl av).length ≤ nL)
    (body : ∀ K, gC l b0 D K own cc ret nL fr lo mc ms → (∀ pc loc, decode cc pc = .ok (.return_, 1) → gV l b0 D K (n', κ', X', Y', Z', mc, ms) pc loc []) → gV l b0 D K (n, κ, X, Y, Z, 0, 0) 0 (lv_args 0 av) []) : gMv l y cc nL ret fr lo mc ms b0 D av (n, κ, X, Y, Z) (n', κ', X', Y', Z') := by
  refine Met.ofW (cc := cc) (maxL := nL) (ret := ret) hy rfl ?_
  intro p e s m args below meth c s₁ B hml hv
  obtain ⟨rfl, hR, hK, hNw⟩ := hv
  have hts0 := atoms_spec (ws := gWd y cc nL ret) B.pre
  have hts : ∀ w ∈ gtbl, w.before av.toArray s = true := fun w h => hts0 w (List.mem_cons_of_mem _ h)
  have hown : s.vm.findClass own = some m.cls := by rw [← hyo]; exact findClass_of_methodNamed B.named
  have hlocks := B.notSynchronized
  have hb0 : b0 ≤ s.heap.size := by rw [hR.1]; exact Nat.le_add_right _ _
  have hl := lv_entry av (n := nL) hlen
  rw [lg_entry_eq]
  generalize (lg_sl av ++ List.replicate (nL - (lg_sl av).length) Slot.unset).toArray = ls at hl ⊢
  refine body (p, e, gRm fr lo mc ms, s, m, av.toArray, below, meth, c, nL, MQ below (gQv b0 D (n', κ', X', Y', Z')) av.toArray s mc ms (gA b0)) ⟨B.exec, B.bytes, B.returns, hml, rfl, hown, hts, hlocks, hK, hNw, hb0, rfl⟩ ?_ s.heap [] ls hR va_S.rf hl
  intro pc loc hd H locs ls hR' hS' hl'
  exact W.vret B.exec B.bytes (by rw [B.returns]; exact hret) (fun t ht hW => ⟨⟨(), rfl, trivial, by rw [ht]; exact hR', va_K.moved hW.alike hK, gNW_at hNw hW hS' ht⟩, hS'.F ht⟩) hS'.2.2 hd
end METS
theorem gGood {y : MethodName} {cc : ByteArray} {nL : Nat} {ret : Option FieldType} (h : Cond.code y cc nL ret ∈ gtbl) : GoodIn gtbl (gWd y cc nL ret) := fun w hw => by
  rcases List.mem_cons.mp hw with rfl | hw
  · exact ⟨h, gtbl_good _ h⟩
  · exact ⟨hw, gtbl_good _ hw⟩

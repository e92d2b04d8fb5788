abbrev GD : Type := va_G × (Nat → ClassId)
abbrev KT : Type := Program × Env × Room × State × MethodId × Array Value × List Frame × Method × Code × Nat × (State → Prop)
abbrev XT : Type := Nat → Nat → Int32
abbrev YT : Type := Nat → Nat → Int64
abbrev ZT : Type := Nat → Nat → Option Nat
abbrev QT : Type := Nat → Nat × Nat
abbrev HS : Type := Nat × QT × XT × YT × ZT
abbrev SG : Type := Nat × QT × XT × YT × ZT × Nat × Nat
def gA (b0 : Nat) : Nat → Prop := fun q => b0 ≤ q
def nStr : Nat := 20
def lenS : List Nat := [3, 5, 4, 5, 6, 5, 4, 5, 4, 4, 5, 3, 4, 5, 4, 4, 2, 2, 3, 3]
def bytS : List (List Int32) := [[111, 110, 101], [111, 116, 104, 101, 114], [104, 97, 114, 100], [112, 108, 97, 99, 101], [112, 108, 97, 99, 101, 111], [97, 112, 97, 114, 116], [114, 111, 99, 107], [114, 111, 99, 107, 111], [104, 101, 97, 116], [110, 101, 120, 116], [115, 117, 103, 97, 114], [100, 97, 121], [116, 111, 119, 110], [104, 111, 117, 115, 101], [106, 111, 105, 110], [112, 111, 117, 114], [105, 102], [111, 114], [97, 110, 100], [110, 111, 116]]
def srT : List (String × Nat × String × Nat) := [("ToffeeTown$Text", 85, "one", 0), ("ToffeeTown$Text", 87, "other", 1), ("ToffeeTown$Text", 89, "hard", 2), ("ToffeeTown$Text", 91, "place", 3), ("ToffeeTown$Text", 93, "placeo", 4), ("ToffeeTown$Text", 95, "apart", 5), ("ToffeeTown$Text", 97, "rock", 6), ("ToffeeTown$Text", 99, "rocko", 7), ("ToffeeTown$Text", 101, "heat", 8), ("ToffeeTown$Text", 103, "next", 9), ("ToffeeTown$Text", 105, "sugar", 10), ("ToffeeTown$Text", 107, "day", 11), ("ToffeeTown$Text", 109, "town", 12), ("ToffeeTown$Text", 111, "house", 13), ("ToffeeTown$Text", 113, "join", 14), ("ToffeeTown$Text", 115, "pour", 15), ("ToffeeTown$Text", 117, "if", 16), ("ToffeeTown$Text", 119, "or", 17), ("ToffeeTown$Text", 121, "and", 18), ("ToffeeTown$Text", 123, "not", 19), ("ToffeeTownModel", 278, "town", 12), ("ToffeeTownModel", 172, "heat", 8), ("ToffeeTownModel", 280, "house", 13), ("ToffeeTownModel", 282, "join", 14), ("ToffeeTownModel", 168, "rock", 6), ("ToffeeTownModel", 323, "pour", 15), ("ToffeeTownModel", 158, "one", 0), ("ToffeeTownModel", 160, "other", 1), ("ToffeeTownModel", 162, "hard", 2), ("ToffeeTownModel", 163, "place", 3), ("ToffeeTownModel", 164, "placeo", 4), ("ToffeeTownModel", 166, "apart", 5), ("ToffeeTownModel", 170, "rocko", 7), ("ToffeeTownModel", 174, "next", 9), ("ToffeeTownModel", 176, "sugar", 10), ("ToffeeTownModel", 178, "day", 11), ("ToffeeTownModel", 325, "if", 16), ("ToffeeTownModel", 260, "not", 19), ("ToffeeTownModel", 274, "and", 18), ("ToffeeTownModel", 276, "or", 17)]
def gStr (b0 : Nat) (D : GD) (U : State) (H : Heap) : Prop := vk_S nStr lenS bytS (fun i => D.2 (100 + i)) (fun i => D.2 (200 + i)) (gA b0) U H ∧ va_Z "java/lang/String" "COMPACT_STRINGS" "Z" (.int 1) (gA b0) U H ∧ va_Zq "jdk/internal/util/Preconditions" "SIOOBE_FORMATTER" "Ljava/util/function/BiFunction;" (gA b0) U H
def gNW (b0 : Nat) (D : GD) (U : State) : Prop := (∀ w ∈ gN, va_Nw w U) ∧ (∀ q ∈ srT, vk_R q.1 q.2.1 q.2.2.1 (D.2 (100 + q.2.2.2)) U) ∧ (va_AO RX4 U ∧ va_AO RX6 U ∧ va_AO RX7 U) ∧ gStr b0 D U U.heap
/-- what an object of a class holds, by the layout -/
def gF (b0 i : Nat) (x : Nat → Int32) : Nat → List Value
  | 0 => [.ref (b0 + 32), .ref (b0 + (i + 1)), .ref (b0 + (i + 5)), .int (x 3), .ref (b0 + (i + 6))]
  | 1 => [.ref (b0 + 17), .ref (b0 + (i + 1)), .ref (b0 + (i + 2))]
  | 2 => [.ref (b0 + 32), .ref (b0 + (i + 1)), .ref (b0 + (i + 5)), .ref (b0 + (i + 6)), .int (x 4), .int (x 5), .int (x 6)]
  | 3 => [.ref (b0 + 32), .ref (b0 + (i + 1)), .ref (b0 + (i + 18)), .ref (b0 + (i + 19)), .int (x 4)]
  | 4 => [.ref (b0 + (i + 1)), .ref (b0 + (i + 2))]
  | 5 => [.ref (b0 + 1), .ref (b0 + (i + 1)), .int (x 2), .int (x 3)]
  | 6 => [.ref (b0 + (i + 1)), .ref (b0 + (i + 7)), .ref (b0 + (i + 11)), .int (x 3), .ref (b0 + (i + 12)), .ref (b0 + (i + 13)), .ref (b0 + (i + 14)), .int (x 7), .int (x 8), .int (x 9)]
  | 7 => [.int (x 0), .int (x 1), .int (x 2), .ref (b0 + (i + 1)), .ref (b0 + (i + 2)), .ref (b0 + (i + 3))]
  | 8 => [.ref (b0 + (i + 1)), .int (x 1), .ref (b0 + (i + 2)), .ref (b0 + (i + 3)), .ref (b0 + (i + 4)), .int (x 5), .int (x 6), .int (x 7)]
  | 9 => [.int (x 0), .int (x 1), .ref (b0 + (i + 1)), .int (x 3), .int (x 4), .ref (b0 + (i + 2))]
  | 10 => [.ref (b0 + 1), .ref (b0 + (i + 1))]
  | 11 => [.ref (b0 + (i + 1)), .ref (b0 + (i + 6)), .ref (b0 + (i + 13)), .ref (b0 + (i + 15)), .int (x 4), .ref (b0 + (i + 16)), .ref (b0 + (i + 31)), .ref (b0 + (i + 32)), .ref (b0 + (i + 35)), .ref (b0 + (i + 39)), .ref (b0 + (i + 40)), .ref (b0 + (i + 60)), .ref (b0 + (i + 67))]
  | _ => [.int (x 0), .ref (b0 + (i + 1)), .ref (b0 + (i + 2)), .ref (b0 + (i + 3)), .ref (b0 + (i + 4)), .ref (b0 + (i + 5)), .ref (b0 + (i + 6)), .ref (b0 + (i + 7)), .ref (b0 + (i + 8)), .ref (b0 + (i + 9)), .ref (b0 + (i + 10)), .ref (b0 + (i + 11)), .ref (b0 + (i + 12)), .ref (b0 + (i + 13)), .ref (b0 + (i + 14)), .ref (b0 + (i + 15)), .ref (b0 + (i + 16)), .int (x 17), .int (x 18), .int (x 19), .int (x 20), .int (x 21), .int (x 22), .int (x 23), .int (x 24), .int (x 25), .int (x 26), .ref (b0 + (i + 17)), .ref (b0 + (i + 18)), .ref (b0 + (i + 19)), .ref (b0 + (i + 20)), .ref (b0 + (i + 21)), .ref (b0 + (i + 22)), .ref (b0 + (i + 23)), .ref (b0 + (i + 24)), .ref (b0 + (i + 25)), .ref (b0 + (i + 26)), .int (x 37), .int (x 38), .int (x 39), .ref (b0 + (i + 27)), .ref (b0 + (i + 28)), .ref (b0 + (i + 29)), .int (x 43), .int (x 44), .int (x 45), .ref (b0 + (i + 30)), .ref (b0 + (i + 31)), .ref (b0 + (i + 32)), .ref (b0 + (i + 33)), .ref (b0 + (i + 34)), .ref (b0 + (i + 35)), .ref (b0 + (i + 36)), .ref (b0 + (i + 37)), .ref (b0 + (i + 38)), .ref (b0 + (i + 39)), .int (x 56), .int (x 57)]
/-- the same while it is being made: references by Z -/
def gFr (b0 : Nat) (x : Nat → Int32) (z : Nat → Option Nat) : Nat → List Value
  | 0 => [va_rf ((z 0).map (b0 + ·)), va_rf ((z 1).map (b0 + ·)), va_rf ((z 2).map (b0 + ·)), .int (x 3), va_rf ((z 4).map (b0 + ·))]
  | 1 => [va_rf ((z 0).map (b0 + ·)), va_rf ((z 1).map (b0 + ·)), va_rf ((z 2).map (b0 + ·))]
  | 2 => [va_rf ((z 0).map (b0 + ·)), va_rf ((z 1).map (b0 + ·)), va_rf ((z 2).map (b0 + ·)), va_rf ((z 3).map (b0 + ·)), .int (x 4), .int (x 5), .int (x 6)]
  | 3 => [va_rf ((z 0).map (b0 + ·)), va_rf ((z 1).map (b0 + ·)), va_rf ((z 2).map (b0 + ·)), va_rf ((z 3).map (b0 + ·)), .int (x 4)]
  | 4 => [va_rf ((z 0).map (b0 + ·)), va_rf ((z 1).map (b0 + ·))]
  | 5 => [va_rf ((z 0).map (b0 + ·)), va_rf ((z 1).map (b0 + ·)), .int (x 2), .int (x 3)]
  | 6 => [va_rf ((z 0).map (b0 + ·)), va_rf ((z 1).map (b0 + ·)), va_rf ((z 2).map (b0 + ·)), .int (x 3), va_rf ((z 4).map (b0 + ·)), va_rf ((z 5).map (b0 + ·)), va_rf ((z 6).map (b0 + ·)), .int (x 7), .int (x 8), .int (x 9)]
  | 7 => [.int (x 0), .int (x 1), .int (x 2), va_rf ((z 3).map (b0 + ·)), va_rf ((z 4).map (b0 + ·)), va_rf ((z 5).map (b0 + ·))]
  | 8 => [va_rf ((z 0).map (b0 + ·)), .int (x 1), va_rf ((z 2).map (b0 + ·)), va_rf ((z 3).map (b0 + ·)), va_rf ((z 4).map (b0 + ·)), .int (x 5), .int (x 6), .int (x 7)]
  | 9 => [.int (x 0), .int (x 1), va_rf ((z 2).map (b0 + ·)), .int (x 3), .int (x 4), va_rf ((z 5).map (b0 + ·))]
  | 10 => [va_rf ((z 0).map (b0 + ·)), va_rf ((z 1).map (b0 + ·))]
  | 11 => [va_rf ((z 0).map (b0 + ·)), va_rf ((z 1).map (b0 + ·)), va_rf ((z 2).map (b0 + ·)), va_rf ((z 3).map (b0 + ·)), .int (x 4), va_rf ((z 5).map (b0 + ·)), va_rf ((z 6).map (b0 + ·)), va_rf ((z 7).map (b0 + ·)), va_rf ((z 8).map (b0 + ·)), va_rf ((z 9).map (b0 + ·)), va_rf ((z 10).map (b0 + ·)), va_rf ((z 11).map (b0 + ·)), va_rf ((z 12).map (b0 + ·))]
  | _ => [.int (x 0), va_rf ((z 1).map (b0 + ·)), va_rf ((z 2).map (b0 + ·)), va_rf ((z 3).map (b0 + ·)), va_rf ((z 4).map (b0 + ·)), va_rf ((z 5).map (b0 + ·)), va_rf ((z 6).map (b0 + ·)), va_rf ((z 7).map (b0 + ·)), va_rf ((z 8).map (b0 + ·)), va_rf ((z 9).map (b0 + ·)), va_rf ((z 10).map (b0 + ·)), va_rf ((z 11).map (b0 + ·)), va_rf ((z 12).map (b0 + ·)), va_rf ((z 13).map (b0 + ·)), va_rf ((z 14).map (b0 + ·)), va_rf ((z 15).map (b0 + ·)), va_rf ((z 16).map (b0 + ·)), .int (x 17), .int (x 18), .int (x 19), .int (x 20), .int (x 21), .int (x 22), .int (x 23), .int (x 24), .int (x 25), .int (x 26), va_rf ((z 27).map (b0 + ·)), va_rf ((z 28).map (b0 + ·)), va_rf ((z 29).map (b0 + ·)), va_rf ((z 30).map (b0 + ·)), va_rf ((z 31).map (b0 + ·)), va_rf ((z 32).map (b0 + ·)), va_rf ((z 33).map (b0 + ·)), va_rf ((z 34).map (b0 + ·)), va_rf ((z 35).map (b0 + ·)), va_rf ((z 36).map (b0 + ·)), .int (x 37), .int (x 38), .int (x 39), va_rf ((z 40).map (b0 + ·)), va_rf ((z 41).map (b0 + ·)), va_rf ((z 42).map (b0 + ·)), .int (x 43), .int (x 44), .int (x 45), va_rf ((z 46).map (b0 + ·)), va_rf ((z 47).map (b0 + ·)), va_rf ((z 48).map (b0 + ·)), va_rf ((z 49).map (b0 + ·)), va_rf ((z 50).map (b0 + ·)), va_rf ((z 51).map (b0 + ·)), va_rf ((z 52).map (b0 + ·)), va_rf ((z 53).map (b0 + ·)), va_rf ((z 54).map (b0 + ·)), va_rf ((z 55).map (b0 + ·)), .int (x 56), .int (x 57)]
def gCell (b0 : Nat) (D : GD) (i : Nat) (k : Nat × Nat) (x : Nat → Int32) (y : Nat → Int64) (z : Nat → Option Nat) : va_E :=
  if k.1 = 14 then .inl (D.2 1, k.2, .inl x)
  else if k.1 < 13 then .inr (k.1, gF b0 i x k.1)
  else if k.1 = 13 then .inl (D.2 0, k.2, .inl x)
  else if k.1 = 15 then .inl (D.2 2, k.2, .inr (.inl y))
  else if k.1 = 16 then .inl (D.2 3, k.2, .inl x)
  else if k.1 = 17 then .inl (D.2 4, k.2, .inr (.inr (.inr (.inr (fun j => (z j).map (b0 + ·))))))
  else if k.1 = 18 then .inl (D.2 5, k.2, .inr (.inr (.inr (.inr (fun j => (z j).map (b0 + ·))))))
  else if k.1 = 19 then .inl (D.2 6, k.2, .inr (.inr (.inr (.inr (fun j => (z j).map (b0 + ·))))))
  else .inr (k.1 - 20, gFr b0 x z (k.1 - 20))
def gT (D : GD) : List (ClassId × FieldType) := [(D.2 0, .byte), (D.2 1, .int), (D.2 2, .long), (D.2 3, .boolean), (D.2 4, .object RX4), (D.2 5, .object RX6), (D.2 6, .object RX7)]
def gR (b0 : Nat) (D : GD) (n : Nat) (κ : QT) (X : XT) (Y : YT) (Z : ZT) (H : Heap) : Prop := H.size = b0 + n ∧ ∀ i, i < n → va_at D.1 vwCl (b0 + i, gCell b0 D i (κ i) (X i) (Y i) (Z i)) H
/-- the fixed things of a walk: the machine, the method's code, the tables, the room -/
def gC (l : Launch) (b0 : Nat) (D : GD) (K : KT) (own : String) (cc : ByteArray) (ret : Option FieldType) (nL fr lo mc ms : Nat) : Prop := match K with
  | (p, e, R, s, m, args, below, meth, c, nL0, Q) => p.tables.exec = Jvm.exec ∧ c.code = cc ∧ meth.sig.returnType = ret ∧ c.maxLocals = nL ∧ nL0 = nL ∧ s.vm.findClass own = some m.cls ∧ (∀ w ∈ gtbl, w.before args s = true) ∧ meth.locks = false ∧ va_K D.1 vwCl (gT D) s ∧ gNW b0 D s ∧ b0 ≤ s.heap.size ∧ R = ({ frames := fr, cells := mc, slots := ms, locals := lo } : Room)
/-- the machine at pc, with these locals, this stack, the heap by its picture, comes to the method's end -/
def gV (l : Launch) (b0 : Nat) (D : GD) (K : KT) (σ : SG) (pc : Nat) (loc : List (Nat × Value)) (st : List Value) : Prop := match K, σ with
  | (p, e, R, s, m, args, below, meth, c, nL, Q), (n, κ, X, Y, Z, cs, ss) => ∀ (H : Heap) (locs : List Loc) (ls : Array Slot), gR b0 D n κ X Y Z H → va_S (gA b0) s.heap H locs → lv_has ls nL loc → W p l e R s m args below meth c H locs cs ss Q (F0 m pc ls st)
theorem va_P1 {D : va_G} {cl : List vw_C} {q : Nat × va_E} {H : Heap} (h : va_at D cl q H) : va_P D cl [q] H := fun k q' hk => by
  cases k with
  | zero => cases hk; exact h
  | succ k => simp at hk
section ROWS
variable {l : Launch} {b0 : Nat} {D : GD} {K : KT} {own : String} {cc : ByteArray} {ret : Option FieldType} {nL fr lo mc ms : Nat} {σ : SG} {pc : Nat} {loc loc' : List (Nat × Value)} {st : List Value}
theorem g_iadd (hC : gC l b0 D K own cc ret nL fr lo mc ms) {x y : Int32} (hd : decode cc pc = .ok (.iadd, 1))  (k : gV l b0 D K σ (pc + 1) loc (.int (x + y) :: st)) : gV l b0 D K σ pc loc (.int y :: .int x :: st) := by
  obtain ⟨p, e, R, s, m, args, below, meth, c, nL0, Q⟩ := K
  obtain ⟨n, κ, X, Y, Z, cs, ss⟩ := σ
  obtain ⟨hx, hb, hr, hml, rfl, hown, hts, hlk, hK, hNw, hb0, rfl⟩ := hC
  intro H locs ls hR hS hl
  exact lv_iadd hx hb hd (k H locs ls hR hS hl)
theorem g_isub (hC : gC l b0 D K own cc ret nL fr lo mc ms) {x y : Int32} (hd : decode cc pc = .ok (.isub, 1))  (k : gV l b0 D K σ (pc + 1) loc (.int (x - y) :: st)) : gV l b0 D K σ pc loc (.int y :: .int x :: st) := by
  obtain ⟨p, e, R, s, m, args, below, meth, c, nL0, Q⟩ := K
  obtain ⟨n, κ, X, Y, Z, cs, ss⟩ := σ
  obtain ⟨hx, hb, hr, hml, rfl, hown, hts, hlk, hK, hNw, hb0, rfl⟩ := hC
  intro H locs ls hR hS hl
  exact lv_isub hx hb hd (k H locs ls hR hS hl)
theorem g_imul (hC : gC l b0 D K own cc ret nL fr lo mc ms) {x y : Int32} (hd : decode cc pc = .ok (.imul, 1))  (k : gV l b0 D K σ (pc + 1) loc (.int (x * y) :: st)) : gV l b0 D K σ pc loc (.int y :: .int x :: st) := by
  obtain ⟨p, e, R, s, m, args, below, meth, c, nL0, Q⟩ := K
  obtain ⟨n, κ, X, Y, Z, cs, ss⟩ := σ
  obtain ⟨hx, hb, hr, hml, rfl, hown, hts, hlk, hK, hNw, hb0, rfl⟩ := hC
  intro H locs ls hR hS hl
  exact lv_imul hx hb hd (k H locs ls hR hS hl)
theorem g_iand (hC : gC l b0 D K own cc ret nL fr lo mc ms) {x y : Int32} (hd : decode cc pc = .ok (.iand, 1))  (k : gV l b0 D K σ (pc + 1) loc (.int (x &&& y) :: st)) : gV l b0 D K σ pc loc (.int y :: .int x :: st) := by
  obtain ⟨p, e, R, s, m, args, below, meth, c, nL0, Q⟩ := K
  obtain ⟨n, κ, X, Y, Z, cs, ss⟩ := σ
  obtain ⟨hx, hb, hr, hml, rfl, hown, hts, hlk, hK, hNw, hb0, rfl⟩ := hC
  intro H locs ls hR hS hl
  exact lv_iand hx hb hd (k H locs ls hR hS hl)
theorem g_ior (hC : gC l b0 D K own cc ret nL fr lo mc ms) {x y : Int32} (hd : decode cc pc = .ok (.ior, 1))  (k : gV l b0 D K σ (pc + 1) loc (.int (x ||| y) :: st)) : gV l b0 D K σ pc loc (.int y :: .int x :: st) := by
  obtain ⟨p, e, R, s, m, args, below, meth, c, nL0, Q⟩ := K
  obtain ⟨n, κ, X, Y, Z, cs, ss⟩ := σ
  obtain ⟨hx, hb, hr, hml, rfl, hown, hts, hlk, hK, hNw, hb0, rfl⟩ := hC
  intro H locs ls hR hS hl
  exact lv_ior hx hb hd (k H locs ls hR hS hl)
theorem g_ixor (hC : gC l b0 D K own cc ret nL fr lo mc ms) {x y : Int32} (hd : decode cc pc = .ok (.ixor, 1))  (k : gV l b0 D K σ (pc + 1) loc (.int (x ^^^ y) :: st)) : gV l b0 D K σ pc loc (.int y :: .int x :: st) := by
  obtain ⟨p, e, R, s, m, args, below, meth, c, nL0, Q⟩ := K
  obtain ⟨n, κ, X, Y, Z, cs, ss⟩ := σ
  obtain ⟨hx, hb, hr, hml, rfl, hown, hts, hlk, hK, hNw, hb0, rfl⟩ := hC
  intro H locs ls hR hS hl
  exact lv_ixor hx hb hd (k H locs ls hR hS hl)
theorem g_ladd (hC : gC l b0 D K own cc ret nL fr lo mc ms) {x y : Int64} (hd : decode cc pc = .ok (.ladd, 1))  (k : gV l b0 D K σ (pc + 1) loc (.long (x + y) :: st)) : gV l b0 D K σ pc loc (.long y :: .long x :: st) := by
  obtain ⟨p, e, R, s, m, args, below, meth, c, nL0, Q⟩ := K
  obtain ⟨n, κ, X, Y, Z, cs, ss⟩ := σ
  obtain ⟨hx, hb, hr, hml, rfl, hown, hts, hlk, hK, hNw, hb0, rfl⟩ := hC
  intro H locs ls hR hS hl
  exact lv_ladd hx hb hd (k H locs ls hR hS hl)
theorem g_lsub (hC : gC l b0 D K own cc ret nL fr lo mc ms) {x y : Int64} (hd : decode cc pc = .ok (.lsub, 1))  (k : gV l b0 D K σ (pc + 1) loc (.long (x - y) :: st)) : gV l b0 D K σ pc loc (.long y :: .long x :: st) := by
  obtain ⟨p, e, R, s, m, args, below, meth, c, nL0, Q⟩ := K
  obtain ⟨n, κ, X, Y, Z, cs, ss⟩ := σ
  obtain ⟨hx, hb, hr, hml, rfl, hown, hts, hlk, hK, hNw, hb0, rfl⟩ := hC
  intro H locs ls hR hS hl
  exact lv_lsub hx hb hd (k H locs ls hR hS hl)
theorem g_lmul (hC : gC l b0 D K own cc ret nL fr lo mc ms) {x y : Int64} (hd : decode cc pc = .ok (.lmul, 1))  (k : gV l b0 D K σ (pc + 1) loc (.long (x * y) :: st)) : gV l b0 D K σ pc loc (.long y :: .long x :: st) := by
  obtain ⟨p, e, R, s, m, args, below, meth, c, nL0, Q⟩ := K
  obtain ⟨n, κ, X, Y, Z, cs, ss⟩ := σ
  obtain ⟨hx, hb, hr, hml, rfl, hown, hts, hlk, hK, hNw, hb0, rfl⟩ := hC
  intro H locs ls hR hS hl
  exact lv_lmul hx hb hd (k H locs ls hR hS hl)
theorem g_land (hC : gC l b0 D K own cc ret nL fr lo mc ms) {x y : Int64} (hd : decode cc pc = .ok (.land, 1))  (k : gV l b0 D K σ (pc + 1) loc (.long (x &&& y) :: st)) : gV l b0 D K σ pc loc (.long y :: .long x :: st) := by
  obtain ⟨p, e, R, s, m, args, below, meth, c, nL0, Q⟩ := K
  obtain ⟨n, κ, X, Y, Z, cs, ss⟩ := σ
  obtain ⟨hx, hb, hr, hml, rfl, hown, hts, hlk, hK, hNw, hb0, rfl⟩ := hC
  intro H locs ls hR hS hl
  exact lv_land hx hb hd (k H locs ls hR hS hl)
theorem g_lor (hC : gC l b0 D K own cc ret nL fr lo mc ms) {x y : Int64} (hd : decode cc pc = .ok (.lor, 1))  (k : gV l b0 D K σ (pc + 1) loc (.long (x ||| y) :: st)) : gV l b0 D K σ pc loc (.long y :: .long x :: st) := by
  obtain ⟨p, e, R, s, m, args, below, meth, c, nL0, Q⟩ := K
  obtain ⟨n, κ, X, Y, Z, cs, ss⟩ := σ
  obtain ⟨hx, hb, hr, hml, rfl, hown, hts, hlk, hK, hNw, hb0, rfl⟩ := hC
  intro H locs ls hR hS hl
  exact lv_lor hx hb hd (k H locs ls hR hS hl)
theorem g_idiv (hC : gC l b0 D K own cc ret nL fr lo mc ms) {x y : Int32} (hd : decode cc pc = .ok (.idiv, 1)) (hne : ¬ y = 0) (k : gV l b0 D K σ (pc + 1) loc (.int (x / y) :: st)) : gV l b0 D K σ pc loc (.int y :: .int x :: st) := by
  obtain ⟨p, e, R, s, m, args, below, meth, c, nL0, Q⟩ := K
  obtain ⟨n, κ, X, Y, Z, cs, ss⟩ := σ
  obtain ⟨hx, hb, hr, hml, rfl, hown, hts, hlk, hK, hNw, hb0, rfl⟩ := hC
  intro H locs ls hR hS hl
  exact lv_idiv hx hb hd hne (k H locs ls hR hS hl)
theorem g_irem (hC : gC l b0 D K own cc ret nL fr lo mc ms) {x y : Int32} (hd : decode cc pc = .ok (.irem, 1)) (hne : ¬ y = 0) (k : gV l b0 D K σ (pc + 1) loc (.int (x - x / y * y) :: st)) : gV l b0 D K σ pc loc (.int y :: .int x :: st) := by
  obtain ⟨p, e, R, s, m, args, below, meth, c, nL0, Q⟩ := K
  obtain ⟨n, κ, X, Y, Z, cs, ss⟩ := σ
  obtain ⟨hx, hb, hr, hml, rfl, hown, hts, hlk, hK, hNw, hb0, rfl⟩ := hC
  intro H locs ls hR hS hl
  exact lv_irem hx hb hd hne (k H locs ls hR hS hl)
theorem g_ldiv (hC : gC l b0 D K own cc ret nL fr lo mc ms) {x y : Int64} (hd : decode cc pc = .ok (.ldiv, 1)) (hne : ¬ y = 0) (k : gV l b0 D K σ (pc + 1) loc (.long (x / y) :: st)) : gV l b0 D K σ pc loc (.long y :: .long x :: st) := by
  obtain ⟨p, e, R, s, m, args, below, meth, c, nL0, Q⟩ := K
  obtain ⟨n, κ, X, Y, Z, cs, ss⟩ := σ
  obtain ⟨hx, hb, hr, hml, rfl, hown, hts, hlk, hK, hNw, hb0, rfl⟩ := hC
  intro H locs ls hR hS hl
  exact lv_ldiv hx hb hd hne (k H locs ls hR hS hl)
theorem g_lrem (hC : gC l b0 D K own cc ret nL fr lo mc ms) {x y : Int64} (hd : decode cc pc = .ok (.lrem, 1)) (hne : ¬ y = 0) (k : gV l b0 D K σ (pc + 1) loc (.long (x - x / y * y) :: st)) : gV l b0 D K σ pc loc (.long y :: .long x :: st) := by
  obtain ⟨p, e, R, s, m, args, below, meth, c, nL0, Q⟩ := K
  obtain ⟨n, κ, X, Y, Z, cs, ss⟩ := σ
  obtain ⟨hx, hb, hr, hml, rfl, hown, hts, hlk, hK, hNw, hb0, rfl⟩ := hC
  intro H locs ls hR hS hl
  exact lv_lrem hx hb hd hne (k H locs ls hR hS hl)
theorem g_iconst (hC : gC l b0 D K own cc ret nL fr lo mc ms) {n : Int} {v : Int32} (hd : decode cc pc = .ok (.iconst n, 1)) (hv : Int32.ofInt n = v) (k : gV l b0 D K σ (pc + 1) loc (.int v :: st)) : gV l b0 D K σ pc loc (st) := by
  obtain ⟨p, e, R, s, m, args, below, meth, c, nL0, Q⟩ := K
  obtain ⟨n, κ, X, Y, Z, cs, ss⟩ := σ
  obtain ⟨hx, hb, hr, hml, rfl, hown, hts, hlk, hK, hNw, hb0, rfl⟩ := hC
  intro H locs ls hR hS hl
  exact lv_iconst hx hb hd hv (k H locs ls hR hS hl)
theorem g_bipush (hC : gC l b0 D K own cc ret nL fr lo mc ms) {n : Int} {v : Int32} (hd : decode cc pc = .ok (.bipush n, 2)) (hv : (Int8.ofInt n).toInt32 = v) (k : gV l b0 D K σ (pc + 2) loc (.int v :: st)) : gV l b0 D K σ pc loc (st) := by
  obtain ⟨p, e, R, s, m, args, below, meth, c, nL0, Q⟩ := K
  obtain ⟨n, κ, X, Y, Z, cs, ss⟩ := σ
  obtain ⟨hx, hb, hr, hml, rfl, hown, hts, hlk, hK, hNw, hb0, rfl⟩ := hC
  intro H locs ls hR hS hl
  exact lv_bipush hx hb hd hv (k H locs ls hR hS hl)
theorem g_sipush (hC : gC l b0 D K own cc ret nL fr lo mc ms) {n : Int} {v : Int32} (hd : decode cc pc = .ok (.sipush n, 3)) (hv : (Int16.ofInt n).toInt32 = v) (k : gV l b0 D K σ (pc + 3) loc (.int v :: st)) : gV l b0 D K σ pc loc (st) := by
  obtain ⟨p, e, R, s, m, args, below, meth, c, nL0, Q⟩ := K
  obtain ⟨n, κ, X, Y, Z, cs, ss⟩ := σ
  obtain ⟨hx, hb, hr, hml, rfl, hown, hts, hlk, hK, hNw, hb0, rfl⟩ := hC
  intro H locs ls hR hS hl
  exact lv_sipush hx hb hd hv (k H locs ls hR hS hl)
theorem g_lconst (hC : gC l b0 D K own cc ret nL fr lo mc ms) {n : Fin 2} {v : Int64} (hd : decode cc pc = .ok (.lconst n, 1)) (hv : Int64.ofNat (n : Nat) = v) (k : gV l b0 D K σ (pc + 1) loc (.long v :: st)) : gV l b0 D K σ pc loc (st) := by
  obtain ⟨p, e, R, s, m, args, below, meth, c, nL0, Q⟩ := K
  obtain ⟨n, κ, X, Y, Z, cs, ss⟩ := σ
  obtain ⟨hx, hb, hr, hml, rfl, hown, hts, hlk, hK, hNw, hb0, rfl⟩ := hC
  intro H locs ls hR hS hl
  exact lv_lconst hx hb hd hv (k H locs ls hR hS hl)
theorem g_iload_n (hC : gC l b0 D K own cc ret nL fr lo mc ms) (q : Nat) {k : Fin 4} {i : Nat} {x : Int32} (hd : decode cc pc = .ok (.iload_n k, 1)) (hi : (k : Nat) = i) (hq : loc[q]? = some (i, .int x)) (k : gV l b0 D K σ (pc + 1) loc (.int x :: st)) : gV l b0 D K σ pc loc (st) := by
  obtain ⟨p, e, R, s, m, args, below, meth, c, nL0, Q⟩ := K
  obtain ⟨n, κ, X, Y, Z, cs, ss⟩ := σ
  obtain ⟨hx, hb, hr, hml, rfl, hown, hts, hlk, hK, hNw, hb0, rfl⟩ := hC
  intro H locs ls hR hS hl
  exact lv_iload_n hx hb hd hi (lv_at hl q hq) (k H locs ls hR hS hl)
theorem g_iload (hC : gC l b0 D K own cc ret nL fr lo mc ms) (q : Nat) {i : Nat} {x : Int32} (hd : decode cc pc = .ok (.iload i, 2)) (hq : loc[q]? = some (i, .int x)) (k : gV l b0 D K σ (pc + 2) loc (.int x :: st)) : gV l b0 D K σ pc loc (st) := by
  obtain ⟨p, e, R, s, m, args, below, meth, c, nL0, Q⟩ := K
  obtain ⟨n, κ, X, Y, Z, cs, ss⟩ := σ
  obtain ⟨hx, hb, hr, hml, rfl, hown, hts, hlk, hK, hNw, hb0, rfl⟩ := hC
  intro H locs ls hR hS hl
  exact lv_iload hx hb hd (lv_at hl q hq) (k H locs ls hR hS hl)
theorem g_istore_n (hC : gC l b0 D K own cc ret nL fr lo mc ms) {i : Nat} {x : Int32} (loc' : List (Nat × Value)) {k : Fin 4} (hi : (k : Nat) = i) (hd : decode cc pc = .ok (.istore_n k, 1)) (hn : i < nL) (hlc : (i, Value.int x) :: loc.filter (fun q => !(q.1 == i) && !(q.1 + 1 == i && q.2.category == 2)) = loc') (k : gV l b0 D K σ (pc + 1) loc' st) : gV l b0 D K σ pc loc (.int x :: st) := by
  obtain ⟨p, e, R, s, m, args, below, meth, c, nL0, Q⟩ := K
  obtain ⟨n, κ, X, Y, Z, cs, ss⟩ := σ
  obtain ⟨hx, hb, hr, hml, rfl, hown, hts, hlk, hK, hNw, hb0, rfl⟩ := hC
  intro H locs ls hR hS hl
  exact lv_istore_n hx hb hd hi hl hn hlc (fun ls2 hl2 => k H locs ls2 hR hS hl2)
theorem g_istore (hC : gC l b0 D K own cc ret nL fr lo mc ms) {i : Nat} {x : Int32} (loc' : List (Nat × Value))  (hd : decode cc pc = .ok (.istore i, 2)) (hn : i < nL) (hlc : (i, Value.int x) :: loc.filter (fun q => !(q.1 == i) && !(q.1 + 1 == i && q.2.category == 2)) = loc') (k : gV l b0 D K σ (pc + 2) loc' st) : gV l b0 D K σ pc loc (.int x :: st) := by
  obtain ⟨p, e, R, s, m, args, below, meth, c, nL0, Q⟩ := K
  obtain ⟨n, κ, X, Y, Z, cs, ss⟩ := σ
  obtain ⟨hx, hb, hr, hml, rfl, hown, hts, hlk, hK, hNw, hb0, rfl⟩ := hC
  intro H locs ls hR hS hl
  exact lv_istore hx hb hd hl hn hlc (fun ls2 hl2 => k H locs ls2 hR hS hl2)
theorem g_lload_n (hC : gC l b0 D K own cc ret nL fr lo mc ms) (q : Nat) {k : Fin 4} {i : Nat} {x : Int64} (hd : decode cc pc = .ok (.lload_n k, 1)) (hi : (k : Nat) = i) (hq : loc[q]? = some (i, .long x)) (k : gV l b0 D K σ (pc + 1) loc (.long x :: st)) : gV l b0 D K σ pc loc (st) := by
  obtain ⟨p, e, R, s, m, args, below, meth, c, nL0, Q⟩ := K
  obtain ⟨n, κ, X, Y, Z, cs, ss⟩ := σ
  obtain ⟨hx, hb, hr, hml, rfl, hown, hts, hlk, hK, hNw, hb0, rfl⟩ := hC
  intro H locs ls hR hS hl
  exact lv_lload_n hx hb hd hi (lv_at hl q hq) (k H locs ls hR hS hl)
theorem g_lload (hC : gC l b0 D K own cc ret nL fr lo mc ms) (q : Nat) {i : Nat} {x : Int64} (hd : decode cc pc = .ok (.lload i, 2)) (hq : loc[q]? = some (i, .long x)) (k : gV l b0 D K σ (pc + 2) loc (.long x :: st)) : gV l b0 D K σ pc loc (st) := by
  obtain ⟨p, e, R, s, m, args, below, meth, c, nL0, Q⟩ := K
  obtain ⟨n, κ, X, Y, Z, cs, ss⟩ := σ
  obtain ⟨hx, hb, hr, hml, rfl, hown, hts, hlk, hK, hNw, hb0, rfl⟩ := hC
  intro H locs ls hR hS hl
  exact lv_lload hx hb hd (lv_at hl q hq) (k H locs ls hR hS hl)
theorem g_lstore_n (hC : gC l b0 D K own cc ret nL fr lo mc ms) {i : Nat} {x : Int64} (loc' : List (Nat × Value)) {k : Fin 4} (hi : (k : Nat) = i) (hd : decode cc pc = .ok (.lstore_n k, 1)) (hn : i + 1 < nL) (hlc : (i, Value.long x) :: loc.filter (fun q => !(q.1 == i) && (!(q.1 == i + 1) && !(q.1 + 1 == i && q.2.category == 2))) = loc') (k : gV l b0 D K σ (pc + 1) loc' st) : gV l b0 D K σ pc loc (.long x :: st) := by
  obtain ⟨p, e, R, s, m, args, below, meth, c, nL0, Q⟩ := K
  obtain ⟨n, κ, X, Y, Z, cs, ss⟩ := σ
  obtain ⟨hx, hb, hr, hml, rfl, hown, hts, hlk, hK, hNw, hb0, rfl⟩ := hC
  intro H locs ls hR hS hl
  exact lv_lstore_n hx hb hd hi hl hn hlc (fun ls2 hl2 => k H locs ls2 hR hS hl2)
theorem g_lstore (hC : gC l b0 D K own cc ret nL fr lo mc ms) {i : Nat} {x : Int64} (loc' : List (Nat × Value))  (hd : decode cc pc = .ok (.lstore i, 2)) (hn : i + 1 < nL) (hlc : (i, Value.long x) :: loc.filter (fun q => !(q.1 == i) && (!(q.1 == i + 1) && !(q.1 + 1 == i && q.2.category == 2))) = loc') (k : gV l b0 D K σ (pc + 2) loc' st) : gV l b0 D K σ pc loc (.long x :: st) := by
  obtain ⟨p, e, R, s, m, args, below, meth, c, nL0, Q⟩ := K
  obtain ⟨n, κ, X, Y, Z, cs, ss⟩ := σ
  obtain ⟨hx, hb, hr, hml, rfl, hown, hts, hlk, hK, hNw, hb0, rfl⟩ := hC
  intro H locs ls hR hS hl
  exact lv_lstore hx hb hd hl hn hlc (fun ls2 hl2 => k H locs ls2 hR hS hl2)
theorem g_aload_n (hC : gC l b0 D K own cc ret nL fr lo mc ms) (q : Nat) {k : Fin 4} {i : Nat} {x : Nat} (hd : decode cc pc = .ok (.aload_n k, 1)) (hi : (k : Nat) = i) (hq : loc[q]? = some (i, .ref x)) (k : gV l b0 D K σ (pc + 1) loc (.ref x :: st)) : gV l b0 D K σ pc loc (st) := by
  obtain ⟨p, e, R, s, m, args, below, meth, c, nL0, Q⟩ := K
  obtain ⟨n, κ, X, Y, Z, cs, ss⟩ := σ
  obtain ⟨hx, hb, hr, hml, rfl, hown, hts, hlk, hK, hNw, hb0, rfl⟩ := hC
  intro H locs ls hR hS hl
  exact lv_aload_n hx hb hd hi (lv_at hl q hq) (k H locs ls hR hS hl)
theorem g_aload (hC : gC l b0 D K own cc ret nL fr lo mc ms) (q : Nat) {i : Nat} {x : Nat} (hd : decode cc pc = .ok (.aload i, 2)) (hq : loc[q]? = some (i, .ref x)) (k : gV l b0 D K σ (pc + 2) loc (.ref x :: st)) : gV l b0 D K σ pc loc (st) := by
  obtain ⟨p, e, R, s, m, args, below, meth, c, nL0, Q⟩ := K
  obtain ⟨n, κ, X, Y, Z, cs, ss⟩ := σ
  obtain ⟨hx, hb, hr, hml, rfl, hown, hts, hlk, hK, hNw, hb0, rfl⟩ := hC
  intro H locs ls hR hS hl
  exact lv_aload hx hb hd (lv_at hl q hq) (k H locs ls hR hS hl)
theorem g_astore_n (hC : gC l b0 D K own cc ret nL fr lo mc ms) {i : Nat} {x : Nat} (loc' : List (Nat × Value)) {k : Fin 4} (hi : (k : Nat) = i) (hd : decode cc pc = .ok (.astore_n k, 1)) (hn : i < nL) (hlc : (i, Value.ref x) :: loc.filter (fun q => !(q.1 == i) && !(q.1 + 1 == i && q.2.category == 2)) = loc') (k : gV l b0 D K σ (pc + 1) loc' st) : gV l b0 D K σ pc loc (.ref x :: st) := by
  obtain ⟨p, e, R, s, m, args, below, meth, c, nL0, Q⟩ := K
  obtain ⟨n, κ, X, Y, Z, cs, ss⟩ := σ
  obtain ⟨hx, hb, hr, hml, rfl, hown, hts, hlk, hK, hNw, hb0, rfl⟩ := hC
  intro H locs ls hR hS hl
  exact lv_astore_n hx hb hd hi hl hn hlc (fun ls2 hl2 => k H locs ls2 hR hS hl2)
theorem g_astore (hC : gC l b0 D K own cc ret nL fr lo mc ms) {i : Nat} {x : Nat} (loc' : List (Nat × Value))  (hd : decode cc pc = .ok (.astore i, 2)) (hn : i < nL) (hlc : (i, Value.ref x) :: loc.filter (fun q => !(q.1 == i) && !(q.1 + 1 == i && q.2.category == 2)) = loc') (k : gV l b0 D K σ (pc + 2) loc' st) : gV l b0 D K σ pc loc (.ref x :: st) := by
  obtain ⟨p, e, R, s, m, args, below, meth, c, nL0, Q⟩ := K
  obtain ⟨n, κ, X, Y, Z, cs, ss⟩ := σ
  obtain ⟨hx, hb, hr, hml, rfl, hown, hts, hlk, hK, hNw, hb0, rfl⟩ := hC
  intro H locs ls hR hS hl
  exact lv_astore hx hb hd hl hn hlc (fun ls2 hl2 => k H locs ls2 hR hS hl2)
theorem g_iinc (hC : gC l b0 D K own cc ret nL fr lo mc ms) {i q : Nat} {n : Int} {x v : Int32} (loc' : List (Nat × Value)) (hd : decode cc pc = .ok (.iinc i n, 3)) (hq : loc[q]? = some (i, .int x)) (hv : x + Int32.ofInt n = v) (hn : i < nL) (hlc : (i, Value.int v) :: loc.filter (fun q => !(q.1 == i) && !(q.1 + 1 == i && q.2.category == 2)) = loc') (k : gV l b0 D K σ (pc + 3) loc' st) : gV l b0 D K σ pc loc st := by
  obtain ⟨p, e, R, s, m, args, below, meth, c, nL0, Q⟩ := K
  obtain ⟨n, κ, X, Y, Z, cs, ss⟩ := σ
  obtain ⟨hx, hb, hr, hml, rfl, hown, hts, hlk, hK, hNw, hb0, rfl⟩ := hC
  intro H locs ls hR hS hl
  exact lv_iinc hx hb hd hl hq hv hn hlc (fun ls2 hl2 => k H locs ls2 hR hS hl2)
end ROWS

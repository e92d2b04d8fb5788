/-- readFact, by how deep it may go -/
def fFact (x3 x4 x5 : Nat → Int32) : Nat → Int32 → (Nat → Int32) → (Nat → Int32) → (Nat → Int32) → Option (Int32 × (Nat → Int32) × (Nat → Int32) × (Nat → Int32))
  | 0 => fun _ _ _ _ => none
  | j + 1 => fX5_readFactO (fFact x3 x4 x5 j) (fX5_readTestO (fFact x3 x4 x5 j) x3 x4 x5) x3 x4 x5
def fTest (x3 x4 x5 : Nat → Int32) (v1 : Int32) (x1 x13 x14 : Nat → Int32) : Option (Int32 × (Nat → Int32) × (Nat → Int32) × (Nat → Int32)) := fX5_readTestO (fFact x3 x4 x5 12) x3 x4 x5 v1 x1 x13 x14
set_option maxHeartbeats 4000000 in
theorem c_fact (l : Launch) {b0 : Nat} {D : GD} {n : Nat} {κ : QT} {Z : ZT} (hL : LY n κ) {x3 x4 x5 : Nat → Int32} : ∀ (j : Nat) {X0 : XT} {Y0 : YT} {x1 x13 x14 : Nat → Int32} (_ : ([1, 3, 4, 5, 13, 14] : List Nat).map X0 = [x1, x3, x4, x5, x13, x14]) (_ : ([] : List Nat).map Y0 = []) {v1 : Int32} {r : Int32} {rx1 rx13 rx14 : Nat → Int32}, fFact x3 x4 x5 j v1 x1 x13 x14 = some (r, rx1, rx13, rx14) → gMi l yX5_readFact cX5_readFact 4 (some FieldType.boolean) (16 * j) (800 * j) 0 0 b0 D [.ref (b0 + 13), .int v1] (n, κ, X0, Y0, Z) (n, κ, ov X0 [1, 3, 4, 5, 13, 14] [rx1, x3, x4, x5, rx13, rx14], ov Y0 [] [], Z) r := by
  intro j
  induction j with
  | zero => intro X0 Y0 x1 x13 x14 _ _ v1 r rx1 rx13 rx14 hf; cases hf
  | succ j ih =>
    intro X0 Y0 x1 x13 x14 hx hy v1 r rx1 rx13 rx14 hf
    exact c_X5_readFactO l hL (frF := 16 * j) (loF := 800 * j) ih (by intro X1 Y1 a1 a2 a3 hx1 hy1 v2 r2 b1 b2 b3 hf1; exact c_X5_readTestO l hL (frF := 16 * j) (loF := 800 * j) ih hx1 hy1 hf1) hx hy hf
set_option maxHeartbeats 4000000 in
theorem c_test (l : Launch) {b0 : Nat} {D : GD} {n : Nat} {κ : QT} {X0 : XT} {Y0 : YT} {Z : ZT} (hL : LY n κ) {x1 x3 x4 x5 x13 x14 : Nat → Int32} (hx : ([1, 3, 4, 5, 13, 14] : List Nat).map X0 = [x1, x3, x4, x5, x13, x14]) (hy : ([] : List Nat).map Y0 = []) {v1 : Int32} {r : Int32} {rx1 rx13 rx14 : Nat → Int32} (hf : fTest x3 x4 x5 v1 x1 x13 x14 = some (r, rx1, rx13, rx14)) : gMi l yX5_readTest cX5_readTest 5 (some FieldType.boolean) 200 10000 0 0 b0 D [.ref (b0 + 13), .int v1] (n, κ, X0, Y0, Z) (n, κ, ov X0 [1, 3, 4, 5, 13, 14] [rx1, x3, x4, x5, rx13, rx14], ov Y0 [] [], Z) r :=
  c_X5_readTestO l hL (frF := 16 * 12) (loF := 800 * 12) (by intro X1 Y1 a1 a2 a3 hx1 hy1 v2 r2 b1 b2 b3 hf1; exact c_fact l hL 12 hx1 hy1 hf1) hx hy hf

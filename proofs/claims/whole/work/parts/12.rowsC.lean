/-- an overlay: the cells ks hold xs, all else as X -/
def ov {α : Type} (X : Nat → α) : List Nat → List α → Nat → α
  | k :: ks, x :: xs => fun a => if a = k then x else ov X ks xs a
  | _, _ => X
def stM {α : Type} (xs : List α) : List Nat → List α → List α
  | p :: ps, y :: ys => (stM xs ps ys).set p y
  | _, _ => xs
theorem ov_cons {α : Type} (X : Nat → α) (k : Nat) (ks : List Nat) (x : α) (xs : List α) : ov X (k :: ks) (x :: xs) = va_up (ov X ks xs) k x := rfl
theorem ov_id {α : Type} (X : Nat → α) : ∀ ks : List Nat, ov X ks (ks.map X) = X
  | [] => rfl
  | k :: ks => by
    funext a
    show (if a = k then X k else ov X ks (ks.map X) a) = X a
    by_cases h : a = k
    · rw [if_pos h, h]
    · rw [if_neg h, ov_id X ks]
theorem ov_id' {α : Type} {X : Nat → α} {ks : List Nat} {xs : List α} (h : ks.map X = xs) : ov X ks xs = X := by rw [← h]; exact ov_id X ks
theorem ov_get {α : Type} {X : Nat → α} : ∀ {ks : List Nat} {xs : List α} (_ : ks.Nodup) (j : Nat) {c : Nat} {x : α} (_ : ks[j]? = some c) (_ : xs[j]? = some x), ov X ks xs c = x
  | [], _, _, j, c, x, h, _ => by simp at h
  | k :: ks, [], _, j, c, x, _, h => by simp at h
  | k :: ks, y :: xs, hN, 0, c, x, h1, h2 => by
    simp at h1 h2
    subst h1; subst h2
    exact if_pos rfl
  | k :: ks, y :: xs, hN, j + 1, c, x, h1, h2 => by
    simp at h1 h2
    have hm : c ∈ ks := List.mem_of_getElem? h1
    have hne : c ≠ k := fun e => (List.nodup_cons.mp hN).1 (e ▸ hm)
    show (if c = k then y else ov X ks xs c) = x
    rw [if_neg hne]
    exact ov_get (List.nodup_cons.mp hN).2 j h1 h2
theorem ov_set {α : Type} {X : Nat → α} : ∀ {ks : List Nat} {xs : List α} (_ : ks.Nodup) (_ : xs.length = ks.length) (j : Nat) {c : Nat} {y : α} (_ : ks[j]? = some c), va_up (ov X ks xs) c y = ov X ks (xs.set j y)
  | [], _, _, _, j, c, y, h => by simp at h
  | k :: ks, [], _, hl, j, c, y, _ => by simp at hl
  | k :: ks, x :: xs, hN, hl, 0, c, y, h1 => by
    simp at h1
    subst h1
    funext a
    show (if a = k then y else if a = k then x else ov X ks xs a) = (if a = k then y else ov X ks xs a)
    by_cases h : a = k <;> simp [h]
  | k :: ks, x :: xs, hN, hl, j + 1, c, y, h1 => by
    simp at h1
    have hm : c ∈ ks := List.mem_of_getElem? h1
    have hne : c ≠ k := fun e => (List.nodup_cons.mp hN).1 (e ▸ hm)
    have ih := ov_set (X := X) (xs := xs) (List.nodup_cons.mp hN).2 (by simpa using hl) j (y := y) h1
    funext a
    show (if a = c then y else if a = k then x else ov X ks xs a) = (if a = k then x else ov X ks (xs.set j y) a)
    rw [← ih]
    show _ = (if a = k then x else if a = c then y else ov X ks xs a)
    by_cases h : a = c
    · subst h; simp [hne]
    · simp [h]
theorem stM_length {α : Type} (xs : List α) : ∀ (ps : List Nat) (ys : List α), (stM xs ps ys).length = xs.length
  | [], ys => by cases ys <;> rfl
  | p :: ps, [] => rfl
  | p :: ps, y :: ys => by
    show ((stM xs ps ys).set p y).length = _
    rw [List.length_set]; exact stM_length xs ps ys
/-- behind a call: the callee's cells, by their places among the caller's -/
theorem ov_ov {α : Type} {X : Nat → α} {ks : List Nat} {xs : List α} (hN : ks.Nodup) (hl : xs.length = ks.length) : ∀ (ps : List Nat) {ks' : List Nat} {ys : List α} (_ : ps.map (fun p => ks[p]?) = ks'.map some), ov (ov X ks xs) ks' ys = ov X ks (stM xs ps ys)
  | [], ks', ys, h => by
    cases ks' with
    | nil => cases ys <;> rfl
    | cons a b => simp at h
  | p :: ps, ks', ys, h => by
    cases ks' with
    | nil => simp at h
    | cons k ks' =>
      cases ys with
      | nil => rfl
      | cons y ys =>
        simp only [List.map_cons, List.cons.injEq] at h
        rw [ov_cons, ov_ov hN hl ps h.2, ov_set hN (by rw [stM_length]; exact hl) p h.1]
        rfl
theorem ov_map {α : Type} {X : Nat → α} {ks : List Nat} {xs : List α} (hN : ks.Nodup) : ∀ (ps : List Nat) {ks' : List Nat} {ys : List α} (_ : ps.map (fun p => ks[p]?) = ks'.map some) (_ : ps.map (fun p => xs[p]?) = ys.map some), ks'.map (ov X ks xs) = ys
  | [], ks', ys, h, h2 => by
    cases ks' with
    | nil => cases ys with
      | nil => rfl
      | cons _ _ => simp at h2
    | cons a b => simp at h
  | p :: ps, ks', ys, h, h2 => by
    cases ks' with
    | nil => simp at h
    | cons k ks' =>
      cases ys with
      | nil => simp at h2
      | cons y ys =>
        simp only [List.map_cons, List.cons.injEq] at h h2
        rw [List.map_cons, ov_map hN ps h.2 h2.2, ov_get hN p h.1 h2.1]
theorem nd_inj : ∀ {ks : List Nat} (_ : ks.Nodup) {i j c : Nat} (_ : ks[i]? = some c) (_ : ks[j]? = some c), i = j
  | [], _, i, j, c, h, _ => by simp at h
  | k :: ks, hN, 0, 0, c, _, _ => rfl
  | k :: ks, hN, 0, j + 1, c, h1, h2 => by
    simp at h1 h2
    subst h1
    exact absurd (List.mem_of_getElem? h2) (List.nodup_cons.mp hN).1
  | k :: ks, hN, i + 1, 0, c, h1, h2 => by
    simp at h1 h2
    subst h2
    exact absurd (List.mem_of_getElem? h1) (List.nodup_cons.mp hN).1
  | k :: ks, hN, i + 1, j + 1, c, h1, h2 => by
    simp at h1 h2
    rw [nd_inj (List.nodup_cons.mp hN).2 h1 h2]
theorem nd_sub {ks : List Nat} (hN : ks.Nodup) : ∀ (ps : List Nat) {ks' : List Nat} (_ : ps.Nodup) (_ : ps.map (fun p => ks[p]?) = ks'.map some), ks'.Nodup
  | [], ks', _, h => by
    cases ks' with
    | nil => exact List.nodup_nil
    | cons a b => simp at h
  | p :: ps, ks', hp, h => by
    cases ks' with
    | nil => simp at h
    | cons k ks' =>
      simp only [List.map_cons, List.cons.injEq] at h
      refine List.nodup_cons.mpr ⟨fun hm => ?_, nd_sub hN ps (List.nodup_cons.mp hp).2 h.2⟩
      obtain ⟨j, hj⟩ := List.getElem?_of_mem hm
      have h3 : (ps.map (fun p => ks[p]?))[j]? = some (some k) := by rw [h.2, List.getElem?_map, hj]; rfl
      rw [List.getElem?_map] at h3
      cases hq : ps[j]? with
      | none => rw [hq] at h3; cases h3
      | some q =>
        rw [hq] at h3
        have h4 : ks[q]? = some k := Option.some.inj h3
        have : p = q := nd_inj hN h.1 h4
        subst this
        exact (List.nodup_cons.mp hp).1 (List.mem_of_getElem? hq)
/-- guards, bindings -/
def inb (i : Int32) (L : Nat) : Bool := decide (¬ i < 0) && decide (i.toNatClampNeg < L)
theorem inb_in {i : Int32} {L : Nat} (h : inb i L = true) : vp_in i L := by
  simp only [inb, Bool.and_eq_true, decide_eq_true_eq] at h
  intro q
  rcases q with q | q
  · exact h.1 q
  · omega
def gd {R : Type} (c : Bool) (o : Option R) : Option R := match c with
  | true => o
  | false => none
theorem gdE {R : Type} {c : Bool} {o : Option R} {r : R} (h : gd c o = some r) : c = true ∧ o = some r := by
  cases c with
  | true => exact ⟨rfl, h⟩
  | false => cases h
def bz (v : Int32) : Bool := decide (v = 0) || decide (v = 1)
theorem bz_nar {v : Int32} (h : bz v = true) : narrow .boolean (.int v) = .int v := by
  simp only [bz, Bool.or_eq_true, decide_eq_true_eq] at h
  rcases h with h | h <;> subst h <;> rfl
theorem bz_vn {v : Int32} (h : bz v = true) : vp_nar .boolean v = v := by
  simp only [bz, Bool.or_eq_true, decide_eq_true_eq] at h
  rcases h with h | h <;> subst h <;> rfl
def nz (v : Int32) : Bool := decide (¬ v = 0)
theorem nzE {v : Int32} (h : nz v = true) : ¬ v = 0 := by simpa [nz] using h
def nzL (v : Int64) : Bool := decide (¬ v = 0)
theorem nzLE {v : Int64} (h : nzL v = true) : ¬ v = 0 := by simpa [nzL] using h
def bn {A R : Type} (a : A) (k : A → Option R) : Option R := k a
theorem bnE {A R : Type} {a : A} {k : A → Option R} {r : R} (h : bn a k = some r) : ∃ v, v = a ∧ k v = some r := ⟨a, rfl, h⟩
theorem noE {R : Type} {r : R} {P : Prop} (h : (none : Option R) = some r) : P := by cases h
theorem ifT {R : Type} {c : Prop} {_ : Decidable c} {a b : Option R} {r : R} (hf : (if c then a else b) = some r) (h : c) : a = some r := (if_pos h).symm.trans hf
theorem ifF {R : Type} {c : Prop} {_ : Decidable c} {a b : Option R} {r : R} (hf : (if c then a else b) = some r) (h : ¬ c) : b = some r := (if_neg h).symm.trans hf
def bd1 {A Z9 : Type} (o : Option (A)) (k : A → Option Z9) : Option Z9 := match o with
  | some (a1) => k a1
  | none => none
theorem bd1E {A Z9 : Type} {o : Option (A)} {k : A → Option Z9} {r : Z9} (h : bd1 o k = some r) : ∃ a1, o = some (a1) ∧ k a1 = some r := by
  cases o with
  | none => cases h
  | some q => exact ⟨q, rfl, h⟩
def bd2 {A B Z9 : Type} (o : Option (A × B)) (k : A → B → Option Z9) : Option Z9 := match o with
  | some (a1, b1) => k a1 b1
  | none => none
theorem bd2E {A B Z9 : Type} {o : Option (A × B)} {k : A → B → Option Z9} {r : Z9} (h : bd2 o k = some r) : ∃ a1 b1, o = some (a1, b1) ∧ k a1 b1 = some r := by
  cases o with
  | none => cases h
  | some q => exact ⟨q.1, q.2, rfl, h⟩
def bd3 {A B C Z9 : Type} (o : Option (A × B × C)) (k : A → B → C → Option Z9) : Option Z9 := match o with
  | some (a1, b1, c1) => k a1 b1 c1
  | none => none
theorem bd3E {A B C Z9 : Type} {o : Option (A × B × C)} {k : A → B → C → Option Z9} {r : Z9} (h : bd3 o k = some r) : ∃ a1 b1 c1, o = some (a1, b1, c1) ∧ k a1 b1 c1 = some r := by
  cases o with
  | none => cases h
  | some q => exact ⟨q.1, q.2.1, q.2.2, rfl, h⟩
def bd4 {A B C D Z9 : Type} (o : Option (A × B × C × D)) (k : A → B → C → D → Option Z9) : Option Z9 := match o with
  | some (a1, b1, c1, d1) => k a1 b1 c1 d1
  | none => none
theorem bd4E {A B C D Z9 : Type} {o : Option (A × B × C × D)} {k : A → B → C → D → Option Z9} {r : Z9} (h : bd4 o k = some r) : ∃ a1 b1 c1 d1, o = some (a1, b1, c1, d1) ∧ k a1 b1 c1 d1 = some r := by
  cases o with
  | none => cases h
  | some q => exact ⟨q.1, q.2.1, q.2.2.1, q.2.2.2, rfl, h⟩
def bd5 {A B C D E Z9 : Type} (o : Option (A × B × C × D × E)) (k : A → B → C → D → E → Option Z9) : Option Z9 := match o with
  | some (a1, b1, c1, d1, e1) => k a1 b1 c1 d1 e1
  | none => none
theorem bd5E {A B C D E Z9 : Type} {o : Option (A × B × C × D × E)} {k : A → B → C → D → E → Option Z9} {r : Z9} (h : bd5 o k = some r) : ∃ a1 b1 c1 d1 e1, o = some (a1, b1, c1, d1, e1) ∧ k a1 b1 c1 d1 e1 = some r := by
  cases o with
  | none => cases h
  | some q => exact ⟨q.1, q.2.1, q.2.2.1, q.2.2.2.1, q.2.2.2.2, rfl, h⟩
def bd6 {A B C D E F Z9 : Type} (o : Option (A × B × C × D × E × F)) (k : A → B → C → D → E → F → Option Z9) : Option Z9 := match o with
  | some (a1, b1, c1, d1, e1, f1) => k a1 b1 c1 d1 e1 f1
  | none => none
theorem bd6E {A B C D E F Z9 : Type} {o : Option (A × B × C × D × E × F)} {k : A → B → C → D → E → F → Option Z9} {r : Z9} (h : bd6 o k = some r) : ∃ a1 b1 c1 d1 e1 f1, o = some (a1, b1, c1, d1, e1, f1) ∧ k a1 b1 c1 d1 e1 f1 = some r := by
  cases o with
  | none => cases h
  | some q => exact ⟨q.1, q.2.1, q.2.2.1, q.2.2.2.1, q.2.2.2.2.1, q.2.2.2.2.2, rfl, h⟩
def bd7 {A B C D E F G Z9 : Type} (o : Option (A × B × C × D × E × F × G)) (k : A → B → C → D → E → F → G → Option Z9) : Option Z9 := match o with
  | some (a1, b1, c1, d1, e1, f1, g1) => k a1 b1 c1 d1 e1 f1 g1
  | none => none
theorem bd7E {A B C D E F G Z9 : Type} {o : Option (A × B × C × D × E × F × G)} {k : A → B → C → D → E → F → G → Option Z9} {r : Z9} (h : bd7 o k = some r) : ∃ a1 b1 c1 d1 e1 f1 g1, o = some (a1, b1, c1, d1, e1, f1, g1) ∧ k a1 b1 c1 d1 e1 f1 g1 = some r := by
  cases o with
  | none => cases h
  | some q => exact ⟨q.1, q.2.1, q.2.2.1, q.2.2.2.1, q.2.2.2.2.1, q.2.2.2.2.2.1, q.2.2.2.2.2.2, rfl, h⟩
def bd8 {A B C D E F G H Z9 : Type} (o : Option (A × B × C × D × E × F × G × H)) (k : A → B → C → D → E → F → G → H → Option Z9) : Option Z9 := match o with
  | some (a1, b1, c1, d1, e1, f1, g1, h1) => k a1 b1 c1 d1 e1 f1 g1 h1
  | none => none
theorem bd8E {A B C D E F G H Z9 : Type} {o : Option (A × B × C × D × E × F × G × H)} {k : A → B → C → D → E → F → G → H → Option Z9} {r : Z9} (h : bd8 o k = some r) : ∃ a1 b1 c1 d1 e1 f1 g1 h1, o = some (a1, b1, c1, d1, e1, f1, g1, h1) ∧ k a1 b1 c1 d1 e1 f1 g1 h1 = some r := by
  cases o with
  | none => cases h
  | some q => exact ⟨q.1, q.2.1, q.2.2.1, q.2.2.2.1, q.2.2.2.2.1, q.2.2.2.2.2.1, q.2.2.2.2.2.2.1, q.2.2.2.2.2.2.2, rfl, h⟩
def bd9 {A B C D E F G H I Z9 : Type} (o : Option (A × B × C × D × E × F × G × H × I)) (k : A → B → C → D → E → F → G → H → I → Option Z9) : Option Z9 := match o with
  | some (a1, b1, c1, d1, e1, f1, g1, h1, i1) => k a1 b1 c1 d1 e1 f1 g1 h1 i1
  | none => none
theorem bd9E {A B C D E F G H I Z9 : Type} {o : Option (A × B × C × D × E × F × G × H × I)} {k : A → B → C → D → E → F → G → H → I → Option Z9} {r : Z9} (h : bd9 o k = some r) : ∃ a1 b1 c1 d1 e1 f1 g1 h1 i1, o = some (a1, b1, c1, d1, e1, f1, g1, h1, i1) ∧ k a1 b1 c1 d1 e1 f1 g1 h1 i1 = some r := by
  cases o with
  | none => cases h
  | some q => exact ⟨q.1, q.2.1, q.2.2.1, q.2.2.2.1, q.2.2.2.2.1, q.2.2.2.2.2.1, q.2.2.2.2.2.2.1, q.2.2.2.2.2.2.2.1, q.2.2.2.2.2.2.2.2, rfl, h⟩
def bd10 {A B C D E F G H I J Z9 : Type} (o : Option (A × B × C × D × E × F × G × H × I × J)) (k : A → B → C → D → E → F → G → H → I → J → Option Z9) : Option Z9 := match o with
  | some (a1, b1, c1, d1, e1, f1, g1, h1, i1, j1) => k a1 b1 c1 d1 e1 f1 g1 h1 i1 j1
  | none => none
theorem bd10E {A B C D E F G H I J Z9 : Type} {o : Option (A × B × C × D × E × F × G × H × I × J)} {k : A → B → C → D → E → F → G → H → I → J → Option Z9} {r : Z9} (h : bd10 o k = some r) : ∃ a1 b1 c1 d1 e1 f1 g1 h1 i1 j1, o = some (a1, b1, c1, d1, e1, f1, g1, h1, i1, j1) ∧ k a1 b1 c1 d1 e1 f1 g1 h1 i1 j1 = some r := by
  cases o with
  | none => cases h
  | some q => exact ⟨q.1, q.2.1, q.2.2.1, q.2.2.2.1, q.2.2.2.2.1, q.2.2.2.2.2.1, q.2.2.2.2.2.2.1, q.2.2.2.2.2.2.2.1, q.2.2.2.2.2.2.2.2.1, q.2.2.2.2.2.2.2.2.2, rfl, h⟩
def bd11 {A B C D E F G H I J K Z9 : Type} (o : Option (A × B × C × D × E × F × G × H × I × J × K)) (k : A → B → C → D → E → F → G → H → I → J → K → Option Z9) : Option Z9 := match o with
  | some (a1, b1, c1, d1, e1, f1, g1, h1, i1, j1, k1) => k a1 b1 c1 d1 e1 f1 g1 h1 i1 j1 k1
  | none => none
theorem bd11E {A B C D E F G H I J K Z9 : Type} {o : Option (A × B × C × D × E × F × G × H × I × J × K)} {k : A → B → C → D → E → F → G → H → I → J → K → Option Z9} {r : Z9} (h : bd11 o k = some r) : ∃ a1 b1 c1 d1 e1 f1 g1 h1 i1 j1 k1, o = some (a1, b1, c1, d1, e1, f1, g1, h1, i1, j1, k1) ∧ k a1 b1 c1 d1 e1 f1 g1 h1 i1 j1 k1 = some r := by
  cases o with
  | none => cases h
  | some q => exact ⟨q.1, q.2.1, q.2.2.1, q.2.2.2.1, q.2.2.2.2.1, q.2.2.2.2.2.1, q.2.2.2.2.2.2.1, q.2.2.2.2.2.2.2.1, q.2.2.2.2.2.2.2.2.1, q.2.2.2.2.2.2.2.2.2.1, q.2.2.2.2.2.2.2.2.2.2, rfl, h⟩
def bd12 {A B C D E F G H I J K L Z9 : Type} (o : Option (A × B × C × D × E × F × G × H × I × J × K × L)) (k : A → B → C → D → E → F → G → H → I → J → K → L → Option Z9) : Option Z9 := match o with
  | some (a1, b1, c1, d1, e1, f1, g1, h1, i1, j1, k1, l1) => k a1 b1 c1 d1 e1 f1 g1 h1 i1 j1 k1 l1
  | none => none
theorem bd12E {A B C D E F G H I J K L Z9 : Type} {o : Option (A × B × C × D × E × F × G × H × I × J × K × L)} {k : A → B → C → D → E → F → G → H → I → J → K → L → Option Z9} {r : Z9} (h : bd12 o k = some r) : ∃ a1 b1 c1 d1 e1 f1 g1 h1 i1 j1 k1 l1, o = some (a1, b1, c1, d1, e1, f1, g1, h1, i1, j1, k1, l1) ∧ k a1 b1 c1 d1 e1 f1 g1 h1 i1 j1 k1 l1 = some r := by
  cases o with
  | none => cases h
  | some q => exact ⟨q.1, q.2.1, q.2.2.1, q.2.2.2.1, q.2.2.2.2.1, q.2.2.2.2.2.1, q.2.2.2.2.2.2.1, q.2.2.2.2.2.2.2.1, q.2.2.2.2.2.2.2.2.1, q.2.2.2.2.2.2.2.2.2.1, q.2.2.2.2.2.2.2.2.2.2.1, q.2.2.2.2.2.2.2.2.2.2.2, rfl, h⟩
def bd13 {A B C D E F G H I J K L M Z9 : Type} (o : Option (A × B × C × D × E × F × G × H × I × J × K × L × M)) (k : A → B → C → D → E → F → G → H → I → J → K → L → M → Option Z9) : Option Z9 := match o with
  | some (a1, b1, c1, d1, e1, f1, g1, h1, i1, j1, k1, l1, m1) => k a1 b1 c1 d1 e1 f1 g1 h1 i1 j1 k1 l1 m1
  | none => none
theorem bd13E {A B C D E F G H I J K L M Z9 : Type} {o : Option (A × B × C × D × E × F × G × H × I × J × K × L × M)} {k : A → B → C → D → E → F → G → H → I → J → K → L → M → Option Z9} {r : Z9} (h : bd13 o k = some r) : ∃ a1 b1 c1 d1 e1 f1 g1 h1 i1 j1 k1 l1 m1, o = some (a1, b1, c1, d1, e1, f1, g1, h1, i1, j1, k1, l1, m1) ∧ k a1 b1 c1 d1 e1 f1 g1 h1 i1 j1 k1 l1 m1 = some r := by
  cases o with
  | none => cases h
  | some q => exact ⟨q.1, q.2.1, q.2.2.1, q.2.2.2.1, q.2.2.2.2.1, q.2.2.2.2.2.1, q.2.2.2.2.2.2.1, q.2.2.2.2.2.2.2.1, q.2.2.2.2.2.2.2.2.1, q.2.2.2.2.2.2.2.2.2.1, q.2.2.2.2.2.2.2.2.2.2.1, q.2.2.2.2.2.2.2.2.2.2.2.1, q.2.2.2.2.2.2.2.2.2.2.2.2, rfl, h⟩
def bd14 {A B C D E F G H I J K L M N Z9 : Type} (o : Option (A × B × C × D × E × F × G × H × I × J × K × L × M × N)) (k : A → B → C → D → E → F → G → H → I → J → K → L → M → N → Option Z9) : Option Z9 := match o with
  | some (a1, b1, c1, d1, e1, f1, g1, h1, i1, j1, k1, l1, m1, n1) => k a1 b1 c1 d1 e1 f1 g1 h1 i1 j1 k1 l1 m1 n1
  | none => none
theorem bd14E {A B C D E F G H I J K L M N Z9 : Type} {o : Option (A × B × C × D × E × F × G × H × I × J × K × L × M × N)} {k : A → B → C → D → E → F → G → H → I → J → K → L → M → N → Option Z9} {r : Z9} (h : bd14 o k = some r) : ∃ a1 b1 c1 d1 e1 f1 g1 h1 i1 j1 k1 l1 m1 n1, o = some (a1, b1, c1, d1, e1, f1, g1, h1, i1, j1, k1, l1, m1, n1) ∧ k a1 b1 c1 d1 e1 f1 g1 h1 i1 j1 k1 l1 m1 n1 = some r := by
  cases o with
  | none => cases h
  | some q => exact ⟨q.1, q.2.1, q.2.2.1, q.2.2.2.1, q.2.2.2.2.1, q.2.2.2.2.2.1, q.2.2.2.2.2.2.1, q.2.2.2.2.2.2.2.1, q.2.2.2.2.2.2.2.2.1, q.2.2.2.2.2.2.2.2.2.1, q.2.2.2.2.2.2.2.2.2.2.1, q.2.2.2.2.2.2.2.2.2.2.2.1, q.2.2.2.2.2.2.2.2.2.2.2.2.1, q.2.2.2.2.2.2.2.2.2.2.2.2.2, rfl, h⟩
def bd15 {A B C D E F G H I J K L M N O Z9 : Type} (o : Option (A × B × C × D × E × F × G × H × I × J × K × L × M × N × O)) (k : A → B → C → D → E → F → G → H → I → J → K → L → M → N → O → Option Z9) : Option Z9 := match o with
  | some (a1, b1, c1, d1, e1, f1, g1, h1, i1, j1, k1, l1, m1, n1, o1) => k a1 b1 c1 d1 e1 f1 g1 h1 i1 j1 k1 l1 m1 n1 o1
  | none => none
theorem bd15E {A B C D E F G H I J K L M N O Z9 : Type} {o : Option (A × B × C × D × E × F × G × H × I × J × K × L × M × N × O)} {k : A → B → C → D → E → F → G → H → I → J → K → L → M → N → O → Option Z9} {r : Z9} (h : bd15 o k = some r) : ∃ a1 b1 c1 d1 e1 f1 g1 h1 i1 j1 k1 l1 m1 n1 o1, o = some (a1, b1, c1, d1, e1, f1, g1, h1, i1, j1, k1, l1, m1, n1, o1) ∧ k a1 b1 c1 d1 e1 f1 g1 h1 i1 j1 k1 l1 m1 n1 o1 = some r := by
  cases o with
  | none => cases h
  | some q => exact ⟨q.1, q.2.1, q.2.2.1, q.2.2.2.1, q.2.2.2.2.1, q.2.2.2.2.2.1, q.2.2.2.2.2.2.1, q.2.2.2.2.2.2.2.1, q.2.2.2.2.2.2.2.2.1, q.2.2.2.2.2.2.2.2.2.1, q.2.2.2.2.2.2.2.2.2.2.1, q.2.2.2.2.2.2.2.2.2.2.2.1, q.2.2.2.2.2.2.2.2.2.2.2.2.1, q.2.2.2.2.2.2.2.2.2.2.2.2.2.1, q.2.2.2.2.2.2.2.2.2.2.2.2.2.2, rfl, h⟩
def bd16 {A B C D E F G H I J K L M N O P Z9 : Type} (o : Option (A × B × C × D × E × F × G × H × I × J × K × L × M × N × O × P)) (k : A → B → C → D → E → F → G → H → I → J → K → L → M → N → O → P → Option Z9) : Option Z9 := match o with
  | some (a1, b1, c1, d1, e1, f1, g1, h1, i1, j1, k1, l1, m1, n1, o1, p1) => k a1 b1 c1 d1 e1 f1 g1 h1 i1 j1 k1 l1 m1 n1 o1 p1
  | none => none
theorem bd16E {A B C D E F G H I J K L M N O P Z9 : Type} {o : Option (A × B × C × D × E × F × G × H × I × J × K × L × M × N × O × P)} {k : A → B → C → D → E → F → G → H → I → J → K → L → M → N → O → P → Option Z9} {r : Z9} (h : bd16 o k = some r) : ∃ a1 b1 c1 d1 e1 f1 g1 h1 i1 j1 k1 l1 m1 n1 o1 p1, o = some (a1, b1, c1, d1, e1, f1, g1, h1, i1, j1, k1, l1, m1, n1, o1, p1) ∧ k a1 b1 c1 d1 e1 f1 g1 h1 i1 j1 k1 l1 m1 n1 o1 p1 = some r := by
  cases o with
  | none => cases h
  | some q => exact ⟨q.1, q.2.1, q.2.2.1, q.2.2.2.1, q.2.2.2.2.1, q.2.2.2.2.2.1, q.2.2.2.2.2.2.1, q.2.2.2.2.2.2.2.1, q.2.2.2.2.2.2.2.2.1, q.2.2.2.2.2.2.2.2.2.1, q.2.2.2.2.2.2.2.2.2.2.1, q.2.2.2.2.2.2.2.2.2.2.2.1, q.2.2.2.2.2.2.2.2.2.2.2.2.1, q.2.2.2.2.2.2.2.2.2.2.2.2.2.1, q.2.2.2.2.2.2.2.2.2.2.2.2.2.2.1, q.2.2.2.2.2.2.2.2.2.2.2.2.2.2.2, rfl, h⟩
def lq1 {A Z9 : Type} (f : (A → Option Z9) → A → Option Z9) : Nat → A → Option Z9
  | 0 => fun _ => none
  | j + 1 => f (lq1 f j)
def lq2 {A B Z9 : Type} (f : (A → B → Option Z9) → A → B → Option Z9) : Nat → A → B → Option Z9
  | 0 => fun _ _ => none
  | j + 1 => f (lq2 f j)
def lq3 {A B C Z9 : Type} (f : (A → B → C → Option Z9) → A → B → C → Option Z9) : Nat → A → B → C → Option Z9
  | 0 => fun _ _ _ => none
  | j + 1 => f (lq3 f j)
def lq4 {A B C D Z9 : Type} (f : (A → B → C → D → Option Z9) → A → B → C → D → Option Z9) : Nat → A → B → C → D → Option Z9
  | 0 => fun _ _ _ _ => none
  | j + 1 => f (lq4 f j)
def lq5 {A B C D E Z9 : Type} (f : (A → B → C → D → E → Option Z9) → A → B → C → D → E → Option Z9) : Nat → A → B → C → D → E → Option Z9
  | 0 => fun _ _ _ _ _ => none
  | j + 1 => f (lq5 f j)
def lq6 {A B C D E F Z9 : Type} (f : (A → B → C → D → E → F → Option Z9) → A → B → C → D → E → F → Option Z9) : Nat → A → B → C → D → E → F → Option Z9
  | 0 => fun _ _ _ _ _ _ => none
  | j + 1 => f (lq6 f j)
def lq7 {A B C D E F G Z9 : Type} (f : (A → B → C → D → E → F → G → Option Z9) → A → B → C → D → E → F → G → Option Z9) : Nat → A → B → C → D → E → F → G → Option Z9
  | 0 => fun _ _ _ _ _ _ _ => none
  | j + 1 => f (lq7 f j)
def lq8 {A B C D E F G H Z9 : Type} (f : (A → B → C → D → E → F → G → H → Option Z9) → A → B → C → D → E → F → G → H → Option Z9) : Nat → A → B → C → D → E → F → G → H → Option Z9
  | 0 => fun _ _ _ _ _ _ _ _ => none
  | j + 1 => f (lq8 f j)
def lq9 {A B C D E F G H I Z9 : Type} (f : (A → B → C → D → E → F → G → H → I → Option Z9) → A → B → C → D → E → F → G → H → I → Option Z9) : Nat → A → B → C → D → E → F → G → H → I → Option Z9
  | 0 => fun _ _ _ _ _ _ _ _ _ => none
  | j + 1 => f (lq9 f j)
def lq10 {A B C D E F G H I J Z9 : Type} (f : (A → B → C → D → E → F → G → H → I → J → Option Z9) → A → B → C → D → E → F → G → H → I → J → Option Z9) : Nat → A → B → C → D → E → F → G → H → I → J → Option Z9
  | 0 => fun _ _ _ _ _ _ _ _ _ _ => none
  | j + 1 => f (lq10 f j)
def lq11 {A B C D E F G H I J K Z9 : Type} (f : (A → B → C → D → E → F → G → H → I → J → K → Option Z9) → A → B → C → D → E → F → G → H → I → J → K → Option Z9) : Nat → A → B → C → D → E → F → G → H → I → J → K → Option Z9
  | 0 => fun _ _ _ _ _ _ _ _ _ _ _ => none
  | j + 1 => f (lq11 f j)
def lq12 {A B C D E F G H I J K L Z9 : Type} (f : (A → B → C → D → E → F → G → H → I → J → K → L → Option Z9) → A → B → C → D → E → F → G → H → I → J → K → L → Option Z9) : Nat → A → B → C → D → E → F → G → H → I → J → K → L → Option Z9
  | 0 => fun _ _ _ _ _ _ _ _ _ _ _ _ => none
  | j + 1 => f (lq12 f j)
def lq13 {A B C D E F G H I J K L M Z9 : Type} (f : (A → B → C → D → E → F → G → H → I → J → K → L → M → Option Z9) → A → B → C → D → E → F → G → H → I → J → K → L → M → Option Z9) : Nat → A → B → C → D → E → F → G → H → I → J → K → L → M → Option Z9
  | 0 => fun _ _ _ _ _ _ _ _ _ _ _ _ _ => none
  | j + 1 => f (lq13 f j)
def lq14 {A B C D E F G H I J K L M N Z9 : Type} (f : (A → B → C → D → E → F → G → H → I → J → K → L → M → N → Option Z9) → A → B → C → D → E → F → G → H → I → J → K → L → M → N → Option Z9) : Nat → A → B → C → D → E → F → G → H → I → J → K → L → M → N → Option Z9
  | 0 => fun _ _ _ _ _ _ _ _ _ _ _ _ _ _ => none
  | j + 1 => f (lq14 f j)
def lq15 {A B C D E F G H I J K L M N O Z9 : Type} (f : (A → B → C → D → E → F → G → H → I → J → K → L → M → N → O → Option Z9) → A → B → C → D → E → F → G → H → I → J → K → L → M → N → O → Option Z9) : Nat → A → B → C → D → E → F → G → H → I → J → K → L → M → N → O → Option Z9
  | 0 => fun _ _ _ _ _ _ _ _ _ _ _ _ _ _ _ => none
  | j + 1 => f (lq15 f j)
def lq16 {A B C D E F G H I J K L M N O P Z9 : Type} (f : (A → B → C → D → E → F → G → H → I → J → K → L → M → N → O → P → Option Z9) → A → B → C → D → E → F → G → H → I → J → K → L → M → N → O → P → Option Z9) : Nat → A → B → C → D → E → F → G → H → I → J → K → L → M → N → O → P → Option Z9
  | 0 => fun _ _ _ _ _ _ _ _ _ _ _ _ _ _ _ _ => none
  | j + 1 => f (lq16 f j)
def lq17 {A B C D E F G H I J K L M N O P Q Z9 : Type} (f : (A → B → C → D → E → F → G → H → I → J → K → L → M → N → O → P → Q → Option Z9) → A → B → C → D → E → F → G → H → I → J → K → L → M → N → O → P → Q → Option Z9) : Nat → A → B → C → D → E → F → G → H → I → J → K → L → M → N → O → P → Q → Option Z9
  | 0 => fun _ _ _ _ _ _ _ _ _ _ _ _ _ _ _ _ _ => none
  | j + 1 => f (lq17 f j)
def lq18 {A B C D E F G H I J K L M N O P Q S Z9 : Type} (f : (A → B → C → D → E → F → G → H → I → J → K → L → M → N → O → P → Q → S → Option Z9) → A → B → C → D → E → F → G → H → I → J → K → L → M → N → O → P → Q → S → Option Z9) : Nat → A → B → C → D → E → F → G → H → I → J → K → L → M → N → O → P → Q → S → Option Z9
  | 0 => fun _ _ _ _ _ _ _ _ _ _ _ _ _ _ _ _ _ _ => none
  | j + 1 => f (lq18 f j)
def lq19 {A B C D E F G H I J K L M N O P Q S T Z9 : Type} (f : (A → B → C → D → E → F → G → H → I → J → K → L → M → N → O → P → Q → S → T → Option Z9) → A → B → C → D → E → F → G → H → I → J → K → L → M → N → O → P → Q → S → T → Option Z9) : Nat → A → B → C → D → E → F → G → H → I → J → K → L → M → N → O → P → Q → S → T → Option Z9
  | 0 => fun _ _ _ _ _ _ _ _ _ _ _ _ _ _ _ _ _ _ _ => none
  | j + 1 => f (lq19 f j)
def lq20 {A B C D E F G H I J K L M N O P Q S T U Z9 : Type} (f : (A → B → C → D → E → F → G → H → I → J → K → L → M → N → O → P → Q → S → T → U → Option Z9) → A → B → C → D → E → F → G → H → I → J → K → L → M → N → O → P → Q → S → T → U → Option Z9) : Nat → A → B → C → D → E → F → G → H → I → J → K → L → M → N → O → P → Q → S → T → U → Option Z9
  | 0 => fun _ _ _ _ _ _ _ _ _ _ _ _ _ _ _ _ _ _ _ _ => none
  | j + 1 => f (lq20 f j)
def lq21 {A B C D E F G H I J K L M N O P Q S T U V Z9 : Type} (f : (A → B → C → D → E → F → G → H → I → J → K → L → M → N → O → P → Q → S → T → U → V → Option Z9) → A → B → C → D → E → F → G → H → I → J → K → L → M → N → O → P → Q → S → T → U → V → Option Z9) : Nat → A → B → C → D → E → F → G → H → I → J → K → L → M → N → O → P → Q → S → T → U → V → Option Z9
  | 0 => fun _ _ _ _ _ _ _ _ _ _ _ _ _ _ _ _ _ _ _ _ _ => none
  | j + 1 => f (lq21 f j)
def lq22 {A B C D E F G H I J K L M N O P Q S T U V W Z9 : Type} (f : (A → B → C → D → E → F → G → H → I → J → K → L → M → N → O → P → Q → S → T → U → V → W → Option Z9) → A → B → C → D → E → F → G → H → I → J → K → L → M → N → O → P → Q → S → T → U → V → W → Option Z9) : Nat → A → B → C → D → E → F → G → H → I → J → K → L → M → N → O → P → Q → S → T → U → V → W → Option Z9
  | 0 => fun _ _ _ _ _ _ _ _ _ _ _ _ _ _ _ _ _ _ _ _ _ _ => none
  | j + 1 => f (lq22 f j)
def bd0 {Z9 : Type} (o : Option Unit) (k : Option Z9) : Option Z9 := match o with
  | some _ => k
  | none => none
theorem bd0E {Z9 : Type} {o : Option Unit} {k : Option Z9} {r : Z9} (h : bd0 o k = some r) : o = some () ∧ k = some r := by
  cases o with
  | none => cases h
  | some q => exact ⟨rfl, h⟩

/-- the town at t as that at u -/
def cpT (X : XT) (t u : Nat) : XT := ov X [t, t + 1, t + 2, t + 3, t + 4, t + 5] [upd (upd (upd (upd (X t) 0 (X u 0)) 1 (X u 1)) 3 (X u 3)) 4 (X u 4), va_cpy (X (u + 1)) (X (t + 1)) (0 : Int32).toNatClampNeg (0 : Int32).toNatClampNeg (12 : Int32).toNatClampNeg, upd (upd (upd (X (t + 2)) 0 (X (u + 2) 0)) 1 (X (u + 2) 1)) 2 (X (u + 2) 2), va_cpy (X (u + 3)) (X (t + 3)) (0 : Int32).toNatClampNeg (0 : Int32).toNatClampNeg (6 : Int32).toNatClampNeg, va_cpy (X (u + 4)) (X (t + 4)) (0 : Int32).toNatClampNeg (0 : Int32).toNatClampNeg (6 : Int32).toNatClampNeg, va_cpy (X (u + 5)) (X (t + 5)) (0 : Int32).toNatClampNeg (0 : Int32).toNatClampNeg (36 : Int32).toNatClampNeg]
theorem cpT_ov (X : XT) (t u : Nat) : ov X [t, t + 1, t + 2, t + 3, t + 4, t + 5, u, u + 1, u + 2, u + 3, u + 4, u + 5] [upd (upd (upd (upd (X t) 0 (X u 0)) 1 (X u 1)) 3 (X u 3)) 4 (X u 4), va_cpy (X (u + 1)) (X (t + 1)) (0 : Int32).toNatClampNeg (0 : Int32).toNatClampNeg (12 : Int32).toNatClampNeg, upd (upd (upd (X (t + 2)) 0 (X (u + 2) 0)) 1 (X (u + 2) 1)) 2 (X (u + 2) 2), va_cpy (X (u + 3)) (X (t + 3)) (0 : Int32).toNatClampNeg (0 : Int32).toNatClampNeg (6 : Int32).toNatClampNeg, va_cpy (X (u + 4)) (X (t + 4)) (0 : Int32).toNatClampNeg (0 : Int32).toNatClampNeg (6 : Int32).toNatClampNeg, va_cpy (X (u + 5)) (X (t + 5)) (0 : Int32).toNatClampNeg (0 : Int32).toNatClampNeg (36 : Int32).toNatClampNeg, X u, X (u + 1), X (u + 2), X (u + 3), X (u + 4), X (u + 5)] = cpT X t u := by
  have e := ov_app (X := X) (ks2 := [u, u + 1, u + 2, u + 3, u + 4, u + 5]) (ys := [X u, X (u + 1), X (u + 2), X (u + 3), X (u + 4), X (u + 5)]) (ks := [t, t + 1, t + 2, t + 3, t + 4, t + 5]) (xs := [upd (upd (upd (upd (X t) 0 (X u 0)) 1 (X u 1)) 3 (X u 3)) 4 (X u 4), va_cpy (X (u + 1)) (X (t + 1)) (0 : Int32).toNatClampNeg (0 : Int32).toNatClampNeg (12 : Int32).toNatClampNeg, upd (upd (upd (X (t + 2)) 0 (X (u + 2) 0)) 1 (X (u + 2) 1)) 2 (X (u + 2) 2), va_cpy (X (u + 3)) (X (t + 3)) (0 : Int32).toNatClampNeg (0 : Int32).toNatClampNeg (6 : Int32).toNatClampNeg, va_cpy (X (u + 4)) (X (t + 4)) (0 : Int32).toNatClampNeg (0 : Int32).toNatClampNeg (6 : Int32).toNatClampNeg, va_cpy (X (u + 5)) (X (t + 5)) (0 : Int32).toNatClampNeg (0 : Int32).toNatClampNeg (36 : Int32).toNatClampNeg]) rfl
  rw [show ov X [u, u + 1, u + 2, u + 3, u + 4, u + 5] [X u, X (u + 1), X (u + 2), X (u + 3), X (u + 4), X (u + 5)] = X from ov_id X [u, u + 1, u + 2, u + 3, u + 4, u + 5]] at e
  exact e
theorem c_cpT (l : Launch) {b0 : Nat} {D : GD} {n : Nat} {κ : QT} {X : XT} {Y : YT} {Z : ZT} (hL : LY n κ) {t u : Nat} (hp : κ t = (9, 0)) (hpn : t < n) (hq : κ u = (9, 0)) (hqn : u < n) (hd : t + 5 < u ∨ u + 5 < t) : gMv l yX9_copy cX9_copy 2 none 2 61 0 0 b0 D [.ref (b0 + t), .ref (b0 + u)] (n, κ, X, Y, Z) (n, κ, cpT X t u, Y, Z) := by
  have e := c_X9_copy l (b0 := b0) (D := D) (X0 := X) (Y0 := Y) (Z := Z) hL hp hpn hq hqn (by simp; omega) (by simp) rfl rfl (show fX9_copy (X u) (X (u + 1)) (X (u + 2)) (X (u + 3)) (X (u + 4)) (X (u + 5)) (X t) (X (t + 1)) (X (t + 2)) (X (t + 3)) (X (t + 4)) (X (t + 5)) = _ from rfl)
  rw [cpT_ov] at e
  exact e
/-- a standing's numbers in a row -/
def sv (X : XT) (a : Nat) : Nat → Int32 := fun j => if j < 3 then X a j else if j < 9 then X (a + 1) (j - 3) else if j < 15 then X (a + 2) (j - 9) else if j < 51 then X (a + 3) (j - 15) else 0
theorem sv_ext {X X' : XT} {a a' : Nat} (h0 : ∀ j, j < 3 → X a j = X' a' j) (h1 : ∀ j, j < 6 → X (a + 1) j = X' (a' + 1) j) (h2 : ∀ j, j < 6 → X (a + 2) j = X' (a' + 2) j) (h3 : ∀ j, j < 36 → X (a + 3) j = X' (a' + 3) j) : sv X a = sv X' a' := by
  funext j
  unfold sv
  by_cases c0 : j < 3
  · rw [if_pos c0, if_pos c0, h0 j c0]
  · rw [if_neg c0, if_neg c0]
    by_cases c1 : j < 9
    · rw [if_pos c1, if_pos c1, h1 _ (by omega)]
    · rw [if_neg c1, if_neg c1]
      by_cases c2 : j < 15
      · rw [if_pos c2, if_pos c2, h2 _ (by omega)]
      · rw [if_neg c2, if_neg c2]
        by_cases c3 : j < 51
        · rw [if_pos c3, if_pos c3, h3 _ (by omega)]
        · rw [if_neg c3, if_neg c3]
theorem sv_congr {X X' : XT} {a : Nat} (h : ∀ k, k ≤ 3 → X (a + k) = X' (a + k)) : sv X a = sv X' a := by
  have e0 : X a = X' a := h 0 (by omega)
  exact sv_ext (fun j _ => by rw [e0]) (fun j _ => by rw [h 1 (by omega)]) (fun j _ => by rw [h 2 (by omega)]) (fun j _ => by rw [h 3 (by omega)])
theorem cpS_out {X : XT} {p q a : Nat} (h : a < p ∨ p + 3 < a) : cpS X p q a = X a := by
  have e0 : a ≠ p := by omega
  have e1 : a ≠ p + 1 := by omega
  have e2 : a ≠ p + 2 := by omega
  have e3 : a ≠ p + 3 := by omega
  simp [cpS, ov, e0, e1, e2, e3]
theorem cpS_0 {X : XT} {p q : Nat} : cpS X p q p = upd (upd (upd (X p) 0 (X q 0)) 1 (X q 1)) 2 (X q 2) := by simp [cpS, ov]
theorem cpS_1 {X : XT} {p q : Nat} : cpS X p q (p + 1) = va_cpy (X (q + 1)) (X (p + 1)) 0 0 6 := by simp [cpS, ov]
theorem cpS_2 {X : XT} {p q : Nat} : cpS X p q (p + 2) = va_cpy (X (q + 2)) (X (p + 2)) 0 0 6 := by simp [cpS, ov]
theorem cpS_3 {X : XT} {p q : Nat} : cpS X p q (p + 3) = va_cpy (X (q + 3)) (X (p + 3)) 0 0 36 := by simp [cpS, ov]
theorem cpy_at {f g : Nat → Int32} {m j : Nat} (h : j < m) : va_cpy f g 0 0 m j = f j := by simp [va_cpy, h]
theorem sv_cpS {X : XT} {p q : Nat} : sv (cpS X p q) p = sv X q := by
  refine sv_ext (fun j hj => ?_) (fun j hj => ?_) (fun j hj => ?_) (fun j hj => ?_)
  · rw [cpS_0]
    rcases (by omega : j = 0 ∨ j = 1 ∨ j = 2) with rfl | rfl | rfl <;> simp [upd]
  · rw [cpS_1, cpy_at hj]
  · rw [cpS_2, cpy_at hj]
  · rw [cpS_3, cpy_at hj]
theorem sv_cpS_out {X : XT} {p q a : Nat} (h : a + 3 < p ∨ p + 3 < a) : sv (cpS X p q) a = sv X a := sv_congr fun k hk => cpS_out (by omega)
theorem hd77 {n : Nat} {κ : QT} (hL : LY n κ) {a b : Nat} (ka : κ a = (7, 0)) (na : a < n) (kb : κ b = (7, 0)) (nb : b < n) (h : a ≠ b) : a + 3 < b ∨ b + 3 < a := by
  obtain ⟨-, a1, a2, a3⟩ := hL.2.2.1 a na ka
  obtain ⟨-, b1, b2, b3⟩ := hL.2.2.1 b nb kb
  have n1 : b ≠ a + 1 := fun e => by rw [e, a1] at kb; cases kb
  have n2 : b ≠ a + 2 := fun e => by rw [e, a2] at kb; cases kb
  have n3 : b ≠ a + 3 := fun e => by rw [e, a3] at kb; cases kb
  have m1 : a ≠ b + 1 := fun e => by rw [e, b1] at ka; cases ka
  have m2 : a ≠ b + 2 := fun e => by rw [e, b2] at ka; cases ka
  have m3 : a ≠ b + 3 := fun e => by rw [e, b3] at ka; cases ka
  omega
theorem hd76 {n : Nat} {κ : QT} (hL : LY n κ) {a s : Nat} (ka : κ a = (7, 0)) (na : a < n) (ks : κ s = (6, 0)) (ns : s < n) (h3 : a ≠ s + 3) (h7 : a ≠ s + 7) : a + 3 < s ∨ s + 14 < a := by
  obtain ⟨-, a1, a2, a3⟩ := hL.2.2.1 a na ka
  have n1 : s ≠ a + 1 := fun e => by rw [e, a1] at ks; cases ks
  have n2 : s ≠ a + 2 := fun e => by rw [e, a2] at ks; cases ks
  have n3 : s ≠ a + 3 := fun e => by rw [e, a3] at ks; cases ks
  have m0 : a ≠ s := fun e => by rw [e, ks] at ka; cases ka
  have m1 : a ≠ s + 1 := fun e => by rw [e, LC1 hL ks ns] at ka; cases ka
  have m2 : a ≠ s + 2 := fun e => by rw [e, LC2 hL ks ns] at ka; cases ka
  have m4 : a ≠ s + 4 := fun e => by rw [e, LC4 hL ks ns] at ka; cases ka
  have m5 : a ≠ s + 5 := fun e => by rw [e, LC5 hL ks ns] at ka; cases ka
  have m6 : a ≠ s + 6 := fun e => by rw [e, LC6 hL ks ns] at ka; cases ka
  have m8 : a ≠ s + 8 := fun e => by rw [e, LC8 hL ks ns] at ka; cases ka
  have m9 : a ≠ s + 9 := fun e => by rw [e, LC9 hL ks ns] at ka; cases ka
  have m10 : a ≠ s + 10 := fun e => by rw [e, LC10 hL ks ns] at ka; cases ka
  have m11 : a ≠ s + 11 := fun e => by rw [e, LC11 hL ks ns] at ka; cases ka
  have m12 : a ≠ s + 12 := fun e => by rw [e, LC12 hL ks ns] at ka; cases ka
  have m13 : a ≠ s + 13 := fun e => by rw [e, LC13 hL ks ns] at ka; cases ka
  have m14 : a ≠ s + 14 := fun e => by rw [e, LC14 hL ks ns] at ka; cases ka
  omega
theorem hd66 {n : Nat} {κ : QT} (hL : LY n κ) {r s : Nat} (kr : κ r = (6, 0)) (nr : r < n) (ks : κ s = (6, 0)) (ns : s < n) (h : r ≠ s) : r + 14 < s ∨ s + 14 < r := by
  have m1 : r ≠ s + 1 := fun e => by rw [e, LC1 hL ks ns] at kr; cases kr
  have n1 : s ≠ r + 1 := fun e => by rw [e, LC1 hL kr nr] at ks; cases ks
  have m2 : r ≠ s + 2 := fun e => by rw [e, LC2 hL ks ns] at kr; cases kr
  have n2 : s ≠ r + 2 := fun e => by rw [e, LC2 hL kr nr] at ks; cases ks
  have m3 : r ≠ s + 3 := fun e => by rw [e, LC3 hL ks ns] at kr; cases kr
  have n3 : s ≠ r + 3 := fun e => by rw [e, LC3 hL kr nr] at ks; cases ks
  have m4 : r ≠ s + 4 := fun e => by rw [e, LC4 hL ks ns] at kr; cases kr
  have n4 : s ≠ r + 4 := fun e => by rw [e, LC4 hL kr nr] at ks; cases ks
  have m5 : r ≠ s + 5 := fun e => by rw [e, LC5 hL ks ns] at kr; cases kr
  have n5 : s ≠ r + 5 := fun e => by rw [e, LC5 hL kr nr] at ks; cases ks
  have m6 : r ≠ s + 6 := fun e => by rw [e, LC6 hL ks ns] at kr; cases kr
  have n6 : s ≠ r + 6 := fun e => by rw [e, LC6 hL kr nr] at ks; cases ks
  have m7 : r ≠ s + 7 := fun e => by rw [e, LC7 hL ks ns] at kr; cases kr
  have n7 : s ≠ r + 7 := fun e => by rw [e, LC7 hL kr nr] at ks; cases ks
  have m8 : r ≠ s + 8 := fun e => by rw [e, LC8 hL ks ns] at kr; cases kr
  have n8 : s ≠ r + 8 := fun e => by rw [e, LC8 hL kr nr] at ks; cases ks
  have m9 : r ≠ s + 9 := fun e => by rw [e, LC9 hL ks ns] at kr; cases kr
  have n9 : s ≠ r + 9 := fun e => by rw [e, LC9 hL kr nr] at ks; cases ks
  have m10 : r ≠ s + 10 := fun e => by rw [e, LC10 hL ks ns] at kr; cases kr
  have n10 : s ≠ r + 10 := fun e => by rw [e, LC10 hL kr nr] at ks; cases ks
  have m11 : r ≠ s + 11 := fun e => by rw [e, LC11 hL ks ns] at kr; cases kr
  have n11 : s ≠ r + 11 := fun e => by rw [e, LC11 hL kr nr] at ks; cases ks
  have m12 : r ≠ s + 12 := fun e => by rw [e, LC12 hL ks ns] at kr; cases kr
  have n12 : s ≠ r + 12 := fun e => by rw [e, LC12 hL kr nr] at ks; cases ks
  have m13 : r ≠ s + 13 := fun e => by rw [e, LC13 hL ks ns] at kr; cases kr
  have n13 : s ≠ r + 13 := fun e => by rw [e, LC13 hL kr nr] at ks; cases ks
  have m14 : r ≠ s + 14 := fun e => by rw [e, LC14 hL ks ns] at kr; cases kr
  have n14 : s ≠ r + 14 := fun e => by rw [e, LC14 hL kr nr] at ks; cases ks
  omega
/-- how the loop of a scene's copy stands at act i -/
def LJ (n0 : Nat) (κ0 : QT) (X0 : XT) (Z0 : ZT) (p q i : Nat) (n : Nat) (κ : QT) (X : XT) (Z : ZT) : Prop := LY n κ ∧ n0 ≤ n ∧ (∀ a, a < n0 → κ a = κ0 a) ∧ (∀ a, a ≠ p + 11 → Z a = Z0 a) ∧ (∀ j b, Z0 (p + 11) j = some b → Z (p + 11) j = some b) ∧
  (∀ j b, Z (p + 11) j = some b → Z0 (p + 11) j = some b ∨ (n0 ≤ b ∧ κ b = (7, 0) ∧ b < n ∧ j < i)) ∧
  (∀ j j' b, j < 20 → j' < 20 → Z (p + 11) j = some b → Z (p + 11) j' = some b → j = j') ∧
  (∀ a, a < n0 → (∀ j b, j < 20 → Z0 (p + 11) j = some b → a < b ∨ b + 3 < a) → X a = X0 a) ∧
  (∀ j, j < i → ∃ b a, Z (p + 11) j = some b ∧ Z0 (q + 11) j = some a ∧ sv X b = sv X0 a)
theorem tc20 : ∀ i, i < 20 → inb (nI i) 20 = true ∧ (nI i).toNatClampNeg = i ∧ nI i + 1 = nI (i + 1) := by decide
theorem tlt20 : ∀ c, c < 21 → ∀ i, i < c → ¬ nI c ≤ nI i := by decide
def cpStep (p q i : Nat) (h : HS) : HS := match h.2.2.2.2 (p + 11) i with
  | some b => (h.1, h.2.1, cpS h.2.2.1 b ((h.2.2.2.2 (q + 11) i).getD 0), h.2.2.2.1, h.2.2.2.2)
  | none => (h.1 + 4, blk h.2.1 h.1 nStd, cpS (blz h.2.2.1 h.1 4) h.1 ((h.2.2.2.2 (q + 11) i).getD 0), h.2.2.2.1, va_up h.2.2.2.2 (p + 11) (va_up (h.2.2.2.2 (p + 11)) i (some h.1)))
def cpRun (p q : Nat) : Nat → Nat → HS → HS
  | 0, _, h => h
  | m + 1, i, h => cpRun p q m (i + 1) (cpStep p q i h)
theorem cpStep_S {p q i b a n : Nat} {κ : QT} {X : XT} {Y : YT} {Z : ZT} (hb : Z (p + 11) i = some b) (ha : Z (q + 11) i = some a) : cpStep p q i (n, κ, X, Y, Z) = (n, κ, cpS X b a, Y, Z) := by simp [cpStep, hb, ha]
theorem cpStep_N {p q i a n : Nat} {κ : QT} {X : XT} {Y : YT} {Z : ZT} (hb : Z (p + 11) i = none) (ha : Z (q + 11) i = some a) : cpStep p q i (n, κ, X, Y, Z) = (n + 4, blk κ n nStd, cpS (blz X n 4) n a, Y, va_up Z (p + 11) (va_up (Z (p + 11)) i (some n))) := by simp [cpStep, hb, ha]
theorem LJ_S {n0 : Nat} {κ0 : QT} {X0 : XT} {Z0 : ZT} {p q c i n : Nat} {κ : QT} {X : XT} {Z : ZT} (hL0 : LY n0 κ0) (kp : κ0 p = (6, 0)) (np : p < n0) (kq : κ0 q = (6, 0)) (nq : q < n0) (hpq : p ≠ q) (hc : c < 21) (A2 : ∀ j b, j < 20 → Z0 (p + 11) j = some b → κ0 b = (7, 0) ∧ b < n0 ∧ b ≠ p + 3 ∧ b ≠ p + 7 ∧ b ≠ q + 3 ∧ b ≠ q + 7) (A4 : ∀ j, j < c → ∃ a, Z0 (q + 11) j = some a ∧ κ0 a = (7, 0) ∧ a < n0 ∧ ∀ j' b, j' < 20 → Z0 (p + 11) j' = some b → b ≠ a) {b a : Nat} (hJ : LJ n0 κ0 X0 Z0 p q i n κ X Z) (hi : i < c) (hb : Z (p + 11) i = some b) (za : Z0 (q + 11) i = some a) : LJ n0 κ0 X0 Z0 p q (i + 1) n κ (cpS X b a) Z := by
  obtain ⟨hL, hn, hκ, hZ, hZp, hZn, hI, hX, hS⟩ := hJ
  obtain ⟨ka, na, da⟩ : κ0 a = (7, 0) ∧ a < n0 ∧ ∀ j' b, j' < 20 → Z0 (p + 11) j' = some b → b ≠ a := by
    obtain ⟨x, e, r⟩ := A4 i hi
    rw [za] at e
    cases e
    exact r
  have ka' : κ a = (7, 0) := (hκ a na).trans ka
  have Xa : sv X a = sv X0 a := sv_congr fun k hk => hX (a + k) (by have := (hL0.2.2.1 a na ka).1; omega) fun j b hj e => by
    obtain ⟨k1, k2, -⟩ := A2 j b hj e
    have := hd77 hL0 k1 k2 ka na (da j b hj e)
    omega
  obtain ⟨kb, nb, ob⟩ : κ b = (7, 0) ∧ b < n ∧ (b < n0 → Z0 (p + 11) i = some b) := by
    rcases hZn i b hb with h | ⟨h1, h2, h3, h4⟩
    · obtain ⟨k1, k2, -⟩ := A2 i b (by omega) h
      exact ⟨(hκ b k2).trans k1, by omega, fun _ => h⟩
    · omega
  have dab : b ≠ a := fun e => by
    have hb0 := ob (by omega)
    exact da i b (by omega) hb0 e
  refine ⟨hL, hn, hκ, hZ, hZp, fun j b' h => ?_, hI, fun x hx' hd => ?_, fun j hj => ?_⟩
  · rcases hZn j b' h with h | ⟨h1, h2, h3, h4⟩
    · exact Or.inl h
    · exact Or.inr ⟨h1, h2, h3, by omega⟩
  · by_cases hbn : b < n0
    · have := hd i b (by omega) (ob hbn)
      rw [cpS_out this]
      exact hX x hx' hd
    · rw [cpS_out (Or.inl (by omega))]
      exact hX x hx' hd
  · by_cases hji : j = i
    · subst hji
      exact ⟨b, a, hb, za, by rw [sv_cpS]; exact Xa⟩
    · obtain ⟨b', a', h1, h2, h3⟩ := hS j (by omega)
      refine ⟨b', a', h1, h2, ?_⟩
      have hne : b' ≠ b := fun e => hji (hI j i b (by omega) (by omega) (e ▸ h1) hb)
      obtain ⟨kb', nb'⟩ : κ b' = (7, 0) ∧ b' < n := by
        rcases hZn j b' h1 with h | ⟨g1, g2, g3, g4⟩
        · obtain ⟨k1, k2, -⟩ := A2 j b' (by omega) h
          exact ⟨(hκ b' k2).trans k1, by omega⟩
        · exact ⟨g2, g3⟩
      rw [sv_cpS_out (hd77 hL kb' nb' kb nb hne)]
      exact h3
theorem LJ_N {n0 : Nat} {κ0 : QT} {X0 : XT} {Z0 : ZT} {p q c i n : Nat} {κ : QT} {X : XT} {Z : ZT} (hL0 : LY n0 κ0) (kp : κ0 p = (6, 0)) (np : p < n0) (kq : κ0 q = (6, 0)) (nq : q < n0) (hpq : p ≠ q) (hc : c < 21) (A2 : ∀ j b, j < 20 → Z0 (p + 11) j = some b → κ0 b = (7, 0) ∧ b < n0 ∧ b ≠ p + 3 ∧ b ≠ p + 7 ∧ b ≠ q + 3 ∧ b ≠ q + 7) (A4 : ∀ j, j < c → ∃ a, Z0 (q + 11) j = some a ∧ κ0 a = (7, 0) ∧ a < n0 ∧ ∀ j' b, j' < 20 → Z0 (p + 11) j' = some b → b ≠ a) {a : Nat} (hJ : LJ n0 κ0 X0 Z0 p q i n κ X Z) (hi : i < c) (hb : Z (p + 11) i = none) (za : Z0 (q + 11) i = some a) : LJ n0 κ0 X0 Z0 p q (i + 1) (n + 4) (blk κ n nStd) (cpS (blz X n 4) n a) (va_up Z (p + 11) (va_up (Z (p + 11)) i (some n))) := by
  obtain ⟨hL, hn, hκ, hZ, hZp, hZn, hI, hX, hS⟩ := hJ
  obtain ⟨ka, na, da⟩ : κ0 a = (7, 0) ∧ a < n0 ∧ ∀ j' b, j' < 20 → Z0 (p + 11) j' = some b → b ≠ a := by
    obtain ⟨x, e, r⟩ := A4 i hi
    rw [za] at e
    cases e
    exact r
  have ka' : κ a = (7, 0) := (hκ a na).trans ka
  have Xa : sv X a = sv X0 a := sv_congr fun k hk => hX (a + k) (by have := (hL0.2.2.1 a na ka).1; omega) fun j b hj e => by
    obtain ⟨k1, k2, -⟩ := A2 j b hj e
    have := hd77 hL0 k1 k2 ka na (da j b hj e)
    omega
  have hL2 := LY_std hL
  have hlt : ∀ x, x < n → blk κ n nStd x = κ x := fun x h => blk_lt h
  have hzp : (va_up Z (p + 11) (va_up (Z (p + 11)) i (some n))) (p + 11) = va_up (Z (p + 11)) i (some n) := up_eq
  have hz0 : Z0 (p + 11) i = none := by
    cases h : Z0 (p + 11) i with
    | none => rfl
    | some b => rw [hZp i b h] at hb; cases hb
  have old : ∀ j b, Z (p + 11) j = some b → j < 20 → b < n := by
    intro j b h hj
    rcases hZn j b h with h | ⟨g1, g2, g3, g4⟩
    · obtain ⟨k1, k2, -⟩ := A2 j b hj h
      omega
    · exact g3
  refine ⟨hL2, by omega, fun x hx' => (hlt x (by omega)).trans (hκ x hx'), fun x hx' => (up_ne hx').trans (hZ x hx'), fun j b h => ?_, fun j b h => ?_, fun j j' b hj hj' h h' => ?_, fun x hx' hd => ?_, fun j hj => ?_⟩
  · rw [hzp]
    by_cases hji : j = i
    · subst hji; rw [hz0] at h; cases h
    · rw [up_ne hji]; exact hZp j b h
  · rw [hzp] at h
    by_cases hji : j = i
    · subst hji
      rw [up_eq] at h
      cases h
      exact Or.inr ⟨hn, blk_at 0 rfl rfl, by omega, by omega⟩
    · rw [up_ne hji] at h
      rcases hZn j b h with h | ⟨h1, h2, h3, h4⟩
      · exact Or.inl h
      · exact Or.inr ⟨h1, (hlt b h3).trans h2, by omega, by omega⟩
  · rw [hzp] at h h'
    by_cases hji : j = i
    · subst hji
      by_cases hji' : j' = j
      · exact hji'.symm
      · rw [up_eq] at h
        rw [up_ne hji'] at h'
        cases h
        have := old j' _ h' hj'
        omega
    · rw [up_ne hji] at h
      by_cases hji' : j' = i
      · subst hji'
        rw [up_eq] at h'
        cases h'
        have := old j _ h hj
        omega
      · rw [up_ne hji'] at h'
        exact hI j j' b hj hj' h h'
  · rw [cpS_out (Or.inl (by omega)), blz_lt (by omega)]
    exact hX x hx' hd
  · have sz : ∀ x, x + 3 < n → sv (cpS (blz X n 4) n a) x = sv X x := fun x h => by
      rw [sv_cpS_out (Or.inl h)]
      exact sv_congr fun k hk => blz_lt (by omega)
    have a3 := (hL0.2.2.1 a na ka).1
    by_cases hji : j = i
    · subst hji
      refine ⟨n, a, ?_, za, ?_⟩
      · rw [hzp]; exact up_eq
      · rw [sv_cpS, sv_congr (X' := X) fun k hk => blz_lt (by omega)]; exact Xa
    · obtain ⟨b', a', h1, h2, h3⟩ := hS j (by omega)
      refine ⟨b', a', ?_, h2, ?_⟩
      · rw [hzp, up_ne hji]; exact h1
      · have kb' : κ b' = (7, 0) := by
          rcases hZn j b' h1 with h | ⟨g1, g2, g3, g4⟩
          · obtain ⟨k1, k2, -⟩ := A2 j b' (by omega) h
            exact (hκ b' k2).trans k1
          · exact g2
        rw [sz b' (hL.2.2.1 b' (old j b' h1 (by omega)) kb').1]
        exact h3
section CPL
variable {l : Launch} {b0 : Nat} {D : GD} {K : KT} {Y : YT} {n0 : Nat} {κ0 : QT} {X0 : XT} {Z0 : ZT} {p q c : Nat}
set_option maxHeartbeats 4000000 in
set_option maxRecDepth 100000 in
theorem cp_loop (hL0 : LY n0 κ0) (kp : κ0 p = (6, 0)) (np : p < n0) (kq : κ0 q = (6, 0)) (nq : q < n0) (hpq : p ≠ q) (hc : c < 21) (A2 : ∀ j b, j < 20 → Z0 (p + 11) j = some b → κ0 b = (7, 0) ∧ b < n0 ∧ b ≠ p + 3 ∧ b ≠ p + 7 ∧ b ≠ q + 3 ∧ b ≠ q + 7) (A4 : ∀ j, j < c → ∃ a, Z0 (q + 11) j = some a ∧ κ0 a = (7, 0) ∧ a < n0 ∧ ∀ j' b, j' < 20 → Z0 (p + 11) j' = some b → b ≠ a) (hx : X0 p 3 = nI c) (hC : gC l b0 D K RX6 cX6_copy none 3 3 82 160 2160) {F : HS} (hend : ∀ n κ X Z, LJ n0 κ0 X0 Z0 p q c n κ X Z → (n, κ, X, Y, Z) = F → gV l b0 D K (n, κ, X, Y, Z, 8 * c, 108 * c) 59 [(2, .int (nI c)), (0, .ref (b0 + p)), (1, .ref (b0 + q))] []) : ∀ m i, i + m = c → ∀ n κ X Z, LJ n0 κ0 X0 Z0 p q i n κ X Z → cpRun p q m i (n, κ, X, Y, Z) = F → gV l b0 D K (n, κ, X, Y, Z, 8 * i, 108 * i) 32 [(2, .int (nI i)), (0, .ref (b0 + p)), (1, .ref (b0 + q))] []
  | 0, i, hm, n, κ, X, Z, hJ, hF => by
    obtain rfl : i = c := by omega
    have hJ0 := hJ
    obtain ⟨hL, hn, hκ, hZ, hZp, hZn, hI, hX, hS⟩ := hJ
    have Xp : X p = X0 p := hX p np fun j b hj e => by
      obtain ⟨k1, k2, k3, k4, -, -⟩ := A2 j b hj e
      have := hd76 hL0 k1 k2 kp np k3 k4
      omega
    have xp : X p 3 = nI i := by rw [Xp]; exact hx
    have kp' : κ p = (6, 0) := (hκ p np).trans kp
    have kq' : κ q = (6, 0) := (hκ q nq).trans kq
    have np' : p < n := by omega
    have nq' : q < n := by omega
    refine g_iload_n hC 0 dX6_copy_32 rfl rfl ?_
    refine g_aload_n hC 1 dX6_copy_33 rfl rfl ?_
    refine gt_X6_53 hC (x := X p) kp' np' rfl dX6_copy_34 ?_
    refine g_icmp_ge hC 59 dX6_copy_37 (by decide) (fun _ => ?_) (fun hq_ => absurd (by rw [xp]; exact Int32.le_refl _) hq_)
    exact hend n κ X Z hJ0 hF
  | m + 1, i, hm, n, κ, X, Z, hJ, hF => by
    have hJ0 := hJ
    obtain ⟨hL, hn, hκ, hZ, hZp, hZn, hI, hX, hS⟩ := hJ
    have Xp : X p = X0 p := hX p np fun j b hj e => by
      obtain ⟨k1, k2, k3, k4, -, -⟩ := A2 j b hj e
      have := hd76 hL0 k1 k2 kp np k3 k4
      omega
    have xp : X p 3 = nI c := by rw [Xp]; exact hx
    have kp' : κ p = (6, 0) := (hκ p np).trans kp
    have kq' : κ q = (6, 0) := (hκ q nq).trans kq
    have np' : p < n := by omega
    have nq' : q < n := by omega
    obtain ⟨t1, t2, t3⟩ := tc20 i (by omega)
    obtain ⟨a, za, ka, na, da⟩ := A4 i (by omega)
    have ka' : κ a = (7, 0) := (hκ a na).trans ka
    have za' : Z (q + 11) i = some a := by rw [hZ _ (by omega)]; exact za
    have Xa : sv X a = sv X0 a := sv_congr fun k hk => hX (a + k) (by have := (hL0.2.2.1 a na ka).1; omega) fun j b hj e => by
      obtain ⟨k1, k2, -⟩ := A2 j b hj e
      have := hd77 hL0 k1 k2 ka na (da j b hj e)
      omega
    refine g_iload_n hC 0 dX6_copy_32 rfl rfl ?_
    refine g_aload_n hC 1 dX6_copy_33 rfl rfl ?_
    refine gt_X6_53 hC (x := X p) kp' np' rfl dX6_copy_34 ?_
    refine g_icmp_ge hC 59 dX6_copy_37 (by decide) (fun hq_ => absurd hq_ (by rw [xp]; exact tlt20 c hc i (by omega))) (fun _ => ?_)
    refine g_aload_n hC 1 dX6_copy_40 rfl rfl ?_
    refine g_iload_n hC 0 dX6_copy_41 rfl rfl ?_
    cases hb : Z (p + 11) i with
    | some b =>
      obtain ⟨kb, nb, ob⟩ : κ b = (7, 0) ∧ b < n ∧ (b < n0 → Z0 (p + 11) i = some b) := by
        rcases hZn i b hb with h | ⟨h1, h2, h3, h4⟩
        · obtain ⟨k1, k2, -⟩ := A2 i b (by omega) h
          exact ⟨(hκ b k2).trans k1, by omega, fun _ => h⟩
        · omega
      have dab : b ≠ a := fun e => by
        have hb0 := ob (by omega)
        exact da i b (by omega) hb0 e
      have sep := hd77 hL kb nb ka' (by omega) dab
      refine g_callV_q (a := p) hC (n' := n) (κ' := κ) (X' := X) (Y' := Y) (Z' := Z) (As := [.int (nI i)]) (c_pastS l hL kp' np' t1 (by rw [t2]; exact hb)) tw_865 tw_862 tw_122 tw_864 tw_27 (ci := 6) rfl (by decide) kp' np' pd_X6_pastAt (by decide) ⟨by omega, by omega⟩ rfl rfl (Nat.le_of_ble_eq_true rfl) rfl dX6_copy_42 ?_
      show gV l b0 D K (n, κ, X, Y, Z, 8 * i + 4, 108 * i + 54) 45 [(2, .int (nI i)), (0, .ref (b0 + p)), (1, .ref (b0 + q))] [.ref (b0 + b)]
      refine g_aload_n hC 2 dX6_copy_45 rfl rfl ?_
      refine g_iload_n hC 0 dX6_copy_46 rfl rfl ?_
      refine g_callV_q (a := q) hC (n' := n) (κ' := κ) (X' := X) (Y' := Y) (Z' := Z) (As := [.int (nI i)]) (c_pastS l hL kq' nq' t1 (by rw [t2]; exact za')) tw_865 tw_862 tw_122 tw_864 tw_27 (ci := 6) rfl (by decide) kq' nq' pd_X6_pastAt (by decide) ⟨by omega, by omega⟩ rfl rfl (Nat.le_of_ble_eq_true rfl) rfl dX6_copy_47 ?_
      show gV l b0 D K (n, κ, X, Y, Z, 8 * i + 4 + 4, 108 * i + 54 + 54) 50 [(2, .int (nI i)), (0, .ref (b0 + p)), (1, .ref (b0 + q))] [.ref (b0 + a), .ref (b0 + b)]
      refine g_callV_v (a := b) hC (n' := n) (κ' := κ) (X' := cpS X b a) (Y' := Y) (Z' := Z) (As := [.ref (b0 + a)]) (c_cpS l hL kb nb ka' (by omega) sep) tw_707 tw_709 tw_120 tw_705 tw_706 (ci := 7) rfl (by decide) kb nb pd_X7_copy (by decide) ⟨by omega, by omega⟩ rfl rfl (Nat.le_of_ble_eq_true rfl) rfl dX6_copy_50 ?_
      show gV l b0 D K (n, κ, cpS X b a, Y, Z, 8 * i + 4 + 4, 108 * i + 54 + 54) 53 [(2, .int (nI i)), (0, .ref (b0 + p)), (1, .ref (b0 + q))] []
      refine g_iinc hC (i := 2) (v := nI (i + 1)) [(2, .int (nI (i + 1))), (0, .ref (b0 + p)), (1, .ref (b0 + q))] dX6_copy_53 (q := 0) rfl t3 (by decide) rfl ?_
      refine g_goto hC 32 dX6_copy_56 (by decide) ?_
      refine g_widen (cs' := 8 * (i + 1)) (ss' := 108 * (i + 1)) (by omega) (by omega) ?_
      exact cp_loop hL0 kp np kq nq hpq hc A2 A4 hx hC hend m (i + 1) (by omega) n κ (cpS X b a) Z (LJ_S hL0 kp np kq nq hpq hc A2 A4 hJ0 (by omega) hb za) (by rw [← cpStep_S hb za']; exact hF)
    | none =>
      have h114 : 114 ≤ n := hL.1
      have hL2 := LY_std hL
      have hlt : ∀ x, x < n → blk κ n nStd x = κ x := fun x h => blk_lt h
      refine g_callV_q (a := p) hC (n' := n + 4) (κ' := blk κ n nStd) (X' := blz X n 4) (Y' := Y) (Z' := va_up Z (p + 11) (va_up (Z (p + 11)) i (some n))) (As := [.int (nI i)]) (by have e := c_pastN l (b0 := b0) (D := D) (X := X) (Y := Y) hL kp' np' t1 (by rw [t2]; exact hb); rw [t2] at e; exact e) tw_865 tw_862 tw_122 tw_864 tw_27 (ci := 6) rfl (by decide) kp' np' pd_X6_pastAt (by decide) ⟨by omega, by omega⟩ rfl rfl (Nat.le_of_ble_eq_true rfl) rfl dX6_copy_42 ?_
      show gV l b0 D K (n + 4, blk κ n nStd, blz X n 4, Y, va_up Z (p + 11) (va_up (Z (p + 11)) i (some n)), 8 * i + 4, 108 * i + 54) 45 [(2, .int (nI i)), (0, .ref (b0 + p)), (1, .ref (b0 + q))] [.ref (b0 + n)]
      refine g_aload_n hC 2 dX6_copy_45 rfl rfl ?_
      refine g_iload_n hC 0 dX6_copy_46 rfl rfl ?_
      refine g_callV_q (a := q) hC (n' := n + 4) (κ' := blk κ n nStd) (X' := blz X n 4) (Y' := Y) (Z' := va_up Z (p + 11) (va_up (Z (p + 11)) i (some n))) (As := [.int (nI i)]) (c_pastS l hL2 ((hlt q nq').trans kq') (by omega) t1 (a := a) (by rw [t2, up_ne (by omega)]; exact za')) tw_865 tw_862 tw_122 tw_864 tw_27 (ci := 6) rfl (by decide) ((hlt q nq').trans kq') (by omega) pd_X6_pastAt (by decide) ⟨by omega, by omega⟩ rfl rfl (Nat.le_of_ble_eq_true rfl) rfl dX6_copy_47 ?_
      show gV l b0 D K (n + 4, blk κ n nStd, blz X n 4, Y, va_up Z (p + 11) (va_up (Z (p + 11)) i (some n)), 8 * i + 4 + 4, 108 * i + 54 + 54) 50 [(2, .int (nI i)), (0, .ref (b0 + p)), (1, .ref (b0 + q))] [.ref (b0 + a), .ref (b0 + n)]
      refine g_callV_v (a := n) hC (n' := n + 4) (κ' := blk κ n nStd) (X' := cpS (blz X n 4) n a) (Y' := Y) (Z' := va_up Z (p + 11) (va_up (Z (p + 11)) i (some n))) (As := [.ref (b0 + a)]) (c_cpS l hL2 (blk_at 0 rfl rfl) (by omega) ((hlt a (by omega)).trans ka') (by omega) (Or.inr (by have := (hL0.2.2.1 a na ka).1; omega))) tw_707 tw_709 tw_120 tw_705 tw_706 (ci := 7) rfl (by decide) (blk_at 0 rfl rfl) (by omega) pd_X7_copy (by decide) ⟨by omega, by omega⟩ rfl rfl (Nat.le_of_ble_eq_true rfl) rfl dX6_copy_50 ?_
      show gV l b0 D K (n + 4, blk κ n nStd, cpS (blz X n 4) n a, Y, va_up Z (p + 11) (va_up (Z (p + 11)) i (some n)), 8 * i + 4 + 4, 108 * i + 54 + 54) 53 [(2, .int (nI i)), (0, .ref (b0 + p)), (1, .ref (b0 + q))] []
      refine g_iinc hC (i := 2) (v := nI (i + 1)) [(2, .int (nI (i + 1))), (0, .ref (b0 + p)), (1, .ref (b0 + q))] dX6_copy_53 (q := 0) rfl t3 (by decide) rfl ?_
      refine g_goto hC 32 dX6_copy_56 (by decide) ?_
      refine g_widen (cs' := 8 * (i + 1)) (ss' := 108 * (i + 1)) (by omega) (by omega) ?_
      exact cp_loop hL0 kp np kq nq hpq hc A2 A4 hx hC hend m (i + 1) (by omega) (n + 4) (blk κ n nStd) (cpS (blz X n 4) n a) (va_up Z (p + 11) (va_up (Z (p + 11)) i (some n))) (LJ_N hL0 kp np kq nq hpq hc A2 A4 hJ0 (by omega) hb za) (by rw [← cpStep_N hb za']; exact hF)
end CPL
def cpA (X : XT) (p q : Nat) : XT := va_up (cpS (cpT X (p + 1) (q + 1)) (p + 7) (q + 7)) p (upd ((cpS (cpT X (p + 1) (q + 1)) (p + 7) (q + 7)) p) 3 ((cpS (cpT X (p + 1) (q + 1)) (p + 7) (q + 7)) q 3))
def cpB0 (X3 : XT) (p q : Nat) : XT := (va_up X3 p (upd (X3 p) 7 ((X3 q) 7)))
def cpB1 (X3 : XT) (p q : Nat) : XT := (va_up (cpB0 X3 p q) (p + 12) (va_cpy ((cpB0 X3 p q) (q + 12)) ((cpB0 X3 p q) (p + 12)) (0 : Int32).toNatClampNeg (0 : Int32).toNatClampNeg (10 : Int32).toNatClampNeg))
def cpB2 (X3 : XT) (p q : Nat) : XT := (va_up (cpB1 X3 p q) (p + 13) (va_cpy ((cpB1 X3 p q) (q + 13)) ((cpB1 X3 p q) (p + 13)) (0 : Int32).toNatClampNeg (0 : Int32).toNatClampNeg (10 : Int32).toNatClampNeg))
def cpB3 (X3 : XT) (p q : Nat) : XT := (va_up (cpB2 X3 p q) (p + 14) (va_cpy ((cpB2 X3 p q) (q + 14)) ((cpB2 X3 p q) (p + 14)) (0 : Int32).toNatClampNeg (0 : Int32).toNatClampNeg (10 : Int32).toNatClampNeg))
def cpB4 (X3 : XT) (p q : Nat) : XT := (va_up (cpB3 X3 p q) p (upd ((cpB3 X3 p q) p) 8 (((cpB3 X3 p q) q) 8)))
def cpB (X3 : XT) (p q : Nat) : XT := (va_up (cpB4 X3 p q) p (upd ((cpB4 X3 p q) p) 9 (((cpB4 X3 p q) q) 9)))
theorem LJ_run {n0 : Nat} {κ0 : QT} {X0 : XT} {Z0 : ZT} {p q c : Nat} {Y : YT} (hL0 : LY n0 κ0) (kp : κ0 p = (6, 0)) (np : p < n0) (kq : κ0 q = (6, 0)) (nq : q < n0) (hpq : p ≠ q) (hc : c < 21) (A2 : ∀ j b, j < 20 → Z0 (p + 11) j = some b → κ0 b = (7, 0) ∧ b < n0 ∧ b ≠ p + 3 ∧ b ≠ p + 7 ∧ b ≠ q + 3 ∧ b ≠ q + 7) (A4 : ∀ j, j < c → ∃ a, Z0 (q + 11) j = some a ∧ κ0 a = (7, 0) ∧ a < n0 ∧ ∀ j' b, j' < 20 → Z0 (p + 11) j' = some b → b ≠ a) : ∀ m i, i + m = c → ∀ n κ X Z, LJ n0 κ0 X0 Z0 p q i n κ X Z → ∃ n3 κ3 X3 Z3, cpRun p q m i (n, κ, X, Y, Z) = (n3, κ3, X3, Y, Z3) ∧ LJ n0 κ0 X0 Z0 p q c n3 κ3 X3 Z3
  | 0, i, hm, n, κ, X, Z, hJ => by
    obtain rfl : i = c := by omega
    exact ⟨n, κ, X, Z, rfl, hJ⟩
  | m + 1, i, hm, n, κ, X, Z, hJ => by
    obtain ⟨a, za, -⟩ := A4 i (by omega)
    have za' : Z (q + 11) i = some a := by rw [hJ.2.2.2.1 _ (by omega)]; exact za
    cases hb : Z (p + 11) i with
    | some b =>
      obtain ⟨n3, κ3, X3, Z3, e, h⟩ := LJ_run hL0 kp np kq nq hpq hc A2 A4 (Y := Y) m (i + 1) (by omega) n κ (cpS X b a) Z (LJ_S hL0 kp np kq nq hpq hc A2 A4 hJ (by omega) hb za)
      exact ⟨n3, κ3, X3, Z3, by rw [← e, ← cpStep_S hb za']; rfl, h⟩
    | none =>
      obtain ⟨n3, κ3, X3, Z3, e, h⟩ := LJ_run hL0 kp np kq nq hpq hc A2 A4 (Y := Y) m (i + 1) (by omega) _ _ _ _ (LJ_N hL0 kp np kq nq hpq hc A2 A4 hJ (by omega) hb za)
      exact ⟨n3, κ3, X3, Z3, by rw [← e, ← cpStep_N hb za']; rfl, h⟩
theorem LJ_0 {n0 : Nat} {κ0 : QT} {X0 : XT} {Z0 : ZT} {p q : Nat} (hL0 : LY n0 κ0) (A3 : ∀ j j' b, j < 20 → j' < 20 → Z0 (p + 11) j = some b → Z0 (p + 11) j' = some b → j = j') : LJ n0 κ0 X0 Z0 p q 0 n0 κ0 X0 Z0 := ⟨hL0, Nat.le_refl _, fun _ _ => rfl, fun _ _ => rfl, fun _ _ h => h, fun _ _ h => Or.inl h, A3, fun _ _ _ => rfl, fun j hj => absurd hj (by omega)⟩
set_option maxHeartbeats 4000000 in
set_option maxRecDepth 100000 in
theorem c_copyE (l : Launch) {b0 : Nat} {D : GD} {n : Nat} {κ : QT} {X : XT} {Y : YT} {Z : ZT} (hL : LY n κ) {p q c : Nat} (kp : κ p = (6, 0)) (np : p < n) (kq : κ q = (6, 0)) (nq : q < n) (hpq : p ≠ q) (hc : c < 21) (hx : cpA X p q p 3 = nI c) (A2 : ∀ j b, j < 20 → Z (p + 11) j = some b → κ b = (7, 0) ∧ b < n ∧ b ≠ p + 3 ∧ b ≠ p + 7 ∧ b ≠ q + 3 ∧ b ≠ q + 7) (A3 : ∀ j j' b, j < 20 → j' < 20 → Z (p + 11) j = some b → Z (p + 11) j' = some b → j = j') (A4 : ∀ j, j < c → ∃ a, Z (q + 11) j = some a ∧ κ a = (7, 0) ∧ a < n ∧ ∀ j' b, j' < 20 → Z (p + 11) j' = some b → b ≠ a) :
    ∃ n3 κ3 X3 Z3, LJ n κ (cpA X p q) Z p q c n3 κ3 X3 Z3 ∧ gMv l yX6_copy cX6_copy 3 none 3 82 160 2160 b0 D [.ref (b0 + p), .ref (b0 + q)] (n, κ, X, Y, Z) (n3, κ3, cpB X3 p q, Y, Z3) := by
  obtain ⟨n3, κ3, X3, Z3, eF, hJ3⟩ := LJ_run hL kp np kq nq hpq hc A2 A4 (Y := Y) c 0 (by omega) n κ (cpA X p q) Z (LJ_0 hL A3)
  refine ⟨n3, κ3, X3, Z3, hJ3, ?_⟩
  have sep := hd66 hL kp np kq nq hpq
  refine g_metv (own := RX6) (by decide) rfl rfl (Nat.le_of_ble_eq_true rfl) ?_
  intro K hC hret
  refine g_aload_n hC 0 dX6_copy_0 rfl rfl ?_
  refine gt_X6_12 hC (a := p) kp np dX6_copy_1 ?_
  refine g_ref (b := (p + 1)) rfl ?_
  refine g_aload_n hC 1 dX6_copy_4 rfl rfl ?_
  refine gt_X6_12 hC (a := q) kq nq dX6_copy_5 ?_
  refine g_ref (b := (q + 1)) rfl ?_
  refine g_callV_v (a := p + 1) hC (n' := n) (κ' := κ) (X' := cpT X (p + 1) (q + 1)) (Y' := Y) (Z' := Z) (As := [.ref (b0 + (q + 1))]) (c_cpT l hL (LC1 hL kp np) (LCn1 hL kp np) (LC1 hL kq nq) (LCn1 hL kq nq) (by omega)) tw_700 tw_697 tw_119 tw_698 tw_699 (ci := 9) rfl (by decide) (LC1 hL kp np) (LCn1 hL kp np) pd_X9_copy (by decide) (by decide) rfl rfl (Nat.le_of_ble_eq_true rfl) rfl dX6_copy_8 ?_
  show gV l b0 D K (n, κ, cpT X (p + 1) (q + 1), Y, Z, 0, 0) 11 [(0, .ref (b0 + p)), (1, .ref (b0 + q))] []
  refine g_aload_n hC 0 dX6_copy_11 rfl rfl ?_
  refine gt_X6_21 hC (a := p) kp np dX6_copy_12 ?_
  refine g_ref (b := (p + 7)) rfl ?_
  refine g_aload_n hC 1 dX6_copy_15 rfl rfl ?_
  refine gt_X6_21 hC (a := q) kq nq dX6_copy_16 ?_
  refine g_ref (b := (q + 7)) rfl ?_
  refine g_callV_v (a := p + 7) hC (n' := n) (κ' := κ) (X' := cpS (cpT X (p + 1) (q + 1)) (p + 7) (q + 7)) (Y' := Y) (Z' := Z) (As := [.ref (b0 + (q + 7))]) (c_cpS l hL (LC7 hL kp np) (LCn7 hL kp np) (LC7 hL kq nq) (LCn7 hL kq nq) (by omega)) tw_707 tw_709 tw_120 tw_705 tw_706 (ci := 7) rfl (by decide) (LC7 hL kp np) (LCn7 hL kp np) pd_X7_copy (by decide) (by decide) rfl rfl (Nat.le_of_ble_eq_true rfl) rfl dX6_copy_19 ?_
  show gV l b0 D K (n, κ, cpS (cpT X (p + 1) (q + 1)) (p + 7) (q + 7), Y, Z, 0, 0) 22 [(0, .ref (b0 + p)), (1, .ref (b0 + q))] []
  refine g_aload_n hC 0 dX6_copy_22 rfl rfl ?_
  refine g_aload_n hC 1 dX6_copy_23 rfl rfl ?_
  refine gt_X6_53 hC (x := (cpS (cpT X (p + 1) (q + 1)) (p + 7) (q + 7)) q) kq nq rfl dX6_copy_24 ?_
  refine pt_X6_53 hC (v := ((cpS (cpT X (p + 1) (q + 1)) (p + 7) (q + 7)) q) 3) (x := (cpS (cpT X (p + 1) (q + 1)) (p + 7) (q + 7)) p) kp np rfl rfl dX6_copy_27 ?_
  refine g_iconst hC (v := 0) dX6_copy_30 ic_0 ?_
  refine g_istore_n hC (i := 2) [(2, .int 0), (0, .ref (b0 + p)), (1, .ref (b0 + q))] rfl dX6_copy_31 (by decide) rfl ?_
  refine g_eqX (show _ = cpA X p q from rfl) ?_
  refine cp_loop hL kp np kq nq hpq hc A2 A4 hx hC (F := (n3, κ3, X3, Y, Z3)) (fun n' κ' X' Z' hJ' eq' => ?_) c 0 (by omega) n κ (cpA X p q) Z (LJ_0 hL A3) eF
  have e1 : n' = n3 := congrArg (·.1) eq'
  have e2 : κ' = κ3 := congrArg (·.2.1) eq'
  have e3 : X' = X3 := congrArg (·.2.2.1) eq'
  have e5 : Z' = Z3 := congrArg (·.2.2.2.2) eq'
  subst e1 e2 e3 e5
  obtain ⟨hL3, hn3, hκ3, -⟩ := hJ'
  have kp3 := (hκ3 p np).trans kp
  have kq3 := (hκ3 q nq).trans kq
  have np3 : p < n' := by omega
  have nq3 : q < n' := by omega
  refine g_aload_n hC 1 dX6_copy_59 rfl rfl ?_
  refine g_aload_n hC 2 dX6_copy_60 rfl rfl ?_
  refine gt_X6_56 hC (x := X' q) kq3 nq3 rfl dX6_copy_61 ?_
  refine pt_X6_56 hC (v := (X' q) 7) (x := X' p) kp3 np3 rfl rfl dX6_copy_64 ?_
  refine g_eqX (show _ = cpB0 X' p q from rfl) ?_
  refine g_aload_n hC 2 dX6_copy_67 rfl rfl ?_
  refine gt_X6_29 hC (a := q) kq3 nq3 dX6_copy_68 ?_
  refine g_ref (b := (q + 12)) rfl ?_
  refine g_iconst hC (v := 0) dX6_copy_71 ic_0 ?_
  refine g_aload_n hC 1 dX6_copy_72 rfl rfl ?_
  refine gt_X6_29 hC (a := p) kp3 np3 dX6_copy_73 ?_
  refine g_ref (b := (p + 12)) rfl ?_
  refine g_iconst hC (v := 0) dX6_copy_76 ic_0 ?_
  refine g_bipush hC (v := 10) dX6_copy_77 bp_10 ?_
  refine g_copy hC (f := (cpB0 X' p q) (q + 12)) (g := (cpB0 X' p q) (p + 12)) tw_1163 (LC12 hL3 kq3 nq3) (LCn12 hL3 kq3 nq3) (LC12 hL3 kp3 np3) (LCn12 hL3 kp3 np3) rfl rfl (by decide) rfl (by decide) (by decide) dX6_copy_79 ?_
  refine g_eqX (show _ = cpB1 X' p q from rfl) ?_
  refine g_aload_n hC 2 dX6_copy_82 rfl rfl ?_
  refine gt_X6_33 hC (a := q) kq3 nq3 dX6_copy_83 ?_
  refine g_ref (b := (q + 13)) rfl ?_
  refine g_iconst hC (v := 0) dX6_copy_86 ic_0 ?_
  refine g_aload_n hC 1 dX6_copy_87 rfl rfl ?_
  refine gt_X6_33 hC (a := p) kp3 np3 dX6_copy_88 ?_
  refine g_ref (b := (p + 13)) rfl ?_
  refine g_iconst hC (v := 0) dX6_copy_91 ic_0 ?_
  refine g_bipush hC (v := 10) dX6_copy_92 bp_10 ?_
  refine g_copy hC (f := (cpB1 X' p q) (q + 13)) (g := (cpB1 X' p q) (p + 13)) tw_1163 (LC13 hL3 kq3 nq3) (LCn13 hL3 kq3 nq3) (LC13 hL3 kp3 np3) (LCn13 hL3 kp3 np3) rfl rfl (by decide) rfl (by decide) (by decide) dX6_copy_94 ?_
  refine g_eqX (show _ = cpB2 X' p q from rfl) ?_
  refine g_aload_n hC 2 dX6_copy_97 rfl rfl ?_
  refine gt_X6_36 hC (a := q) kq3 nq3 dX6_copy_98 ?_
  refine g_ref (b := (q + 14)) rfl ?_
  refine g_iconst hC (v := 0) dX6_copy_101 ic_0 ?_
  refine g_aload_n hC 1 dX6_copy_102 rfl rfl ?_
  refine gt_X6_36 hC (a := p) kp3 np3 dX6_copy_103 ?_
  refine g_ref (b := (p + 14)) rfl ?_
  refine g_iconst hC (v := 0) dX6_copy_106 ic_0 ?_
  refine g_bipush hC (v := 10) dX6_copy_107 bp_10 ?_
  refine g_copy hC (f := (cpB2 X' p q) (q + 14)) (g := (cpB2 X' p q) (p + 14)) tw_1163 (LC14 hL3 kq3 nq3) (LCn14 hL3 kq3 nq3) (LC14 hL3 kp3 np3) (LCn14 hL3 kp3 np3) rfl rfl (by decide) rfl (by decide) (by decide) dX6_copy_109 ?_
  refine g_eqX (show _ = cpB3 X' p q from rfl) ?_
  refine g_aload_n hC 1 dX6_copy_112 rfl rfl ?_
  refine g_aload_n hC 2 dX6_copy_113 rfl rfl ?_
  refine gt_X6_39 hC (x := (cpB3 X' p q) q) kq3 nq3 rfl dX6_copy_114 ?_
  refine pt_X6_39 hC (v := ((cpB3 X' p q) q) 8) (x := (cpB3 X' p q) p) kp3 np3 rfl rfl dX6_copy_117 ?_
  refine g_eqX (show _ = cpB4 X' p q from rfl) ?_
  refine g_aload_n hC 1 dX6_copy_120 rfl rfl ?_
  refine g_aload_n hC 2 dX6_copy_121 rfl rfl ?_
  refine gt_X6_69 hC (x := (cpB4 X' p q) q) kq3 nq3 rfl dX6_copy_122 ?_
  refine pt_X6_69 hC (v := ((cpB4 X' p q) q) 9) (x := (cpB4 X' p q) p) kp3 np3 rfl rfl dX6_copy_125 ?_
  refine g_eqX (show _ = cpB X' p q from rfl) ?_
  refine g_widen (cs' := 160) (ss' := 2160) (by omega) (by omega) ?_
  exact hret _ _ dX6_copy_128

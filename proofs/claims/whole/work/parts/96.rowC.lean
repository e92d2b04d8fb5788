section ROWC
variable {H M K N B : Nat} {q : Nat → Nat} {S : SN}
theorem rv_snoc {os : Nat → OP} : ∀ m k S ok, rv H M K N q os (m + 1) k S ok = (stR H M K N q (rv H M K N q os m k S ok).1 (if ((rv H M K N q os m k S ok).2 && feas (rv H M K N q os m k S ok).1 (os (k + m))) = true then os (k + m) else none), (rv H M K N q os m k S ok).2 && feas (rv H M K N q os m k S ok).1 (os (k + m)))
  | 0, k, S, ok => rfl
  | m + 1, k, S, ok => by
    have h := rv_snoc (os := os) m (k + 1) (stR H M K N q S (if (ok && feas S (os k)) = true then os k else none)) (ok && feas S (os k))
    rw [show k + 1 + m = k + (m + 1) by omega] at h
    exact h
theorem rv_congr {os os' : Nat → OP} : ∀ m k S ok, (∀ j, k ≤ j → j < k + m → os j = os' j) → rv H M K N q os m k S ok = rv H M K N q os' m k S ok
  | 0, _, _, _, _ => rfl
  | m + 1, k, S, ok, h => by
    show rv H M K N q os m (k + 1) _ _ = rv H M K N q os' m (k + 1) _ _
    rw [h k (Nat.le_refl _) (by omega)]
    exact rv_congr m (k + 1) _ _ fun j h1 h2 => h j (by omega) (by omega)
theorem rv_false {os : Nat → OP} : ∀ m k S, (rv H M K N q os m k S false).2 = false
  | 0, _, _ => rfl
  | m + 1, k, S => rv_false m (k + 1) _
theorem rv_app {os : Nat → OP} : ∀ m m' k S ok, rv H M K N q os (m + m') k S ok = rv H M K N q os m' (k + m) (rv H M K N q os m k S ok).1 (rv H M K N q os m k S ok).2
  | 0, m', k, S, ok => by rw [Nat.zero_add]; rfl
  | m + 1, m', k, S, ok => by
    have h := rv_app (os := os) m m' (k + 1) (stR H M K N q S (if (ok && feas S (os k)) = true then os k else none)) (ok && feas S (os k))
    rw [show m + 1 + m' = (m + m') + 1 by omega, show k + (m + 1) = k + 1 + m by omega]
    exact h
/-- a number's first digits -/
theorem dgt_pre {bs n d p r k : Nat} (hd : d ≤ n) (hk : k < d) (hr : r < bs ^ (n - d)) : dgt bs n (p * bs ^ (n - d) + r) k = dgt bs d p k := by
  unfold dgt
  rw [show n - 1 - k = (n - d) + (d - 1 - k) by omega, Nat.pow_add, ← Nat.div_div_eq_div_mul, Nat.mul_comm p, Nat.mul_add_div (by omega), Nat.div_eq_of_lt hr, Nat.add_zero]
theorem dgt_last {bs d p k : Nat} (hk : k < bs) : dgt bs (d + 1) (p * bs + k) d = k := by
  unfold dgt
  rw [show d + 1 - 1 - d = 0 by omega, Nat.pow_zero, Nat.div_one, Nat.mul_comm, Nat.mul_add_mod, Nat.mod_eq_of_lt hk]
theorem dgt_up {bs d p k j : Nat} (hk : k < bs) (hj : j < d) : dgt bs (d + 1) (p * bs + k) j = dgt bs d p j := by
  have := dgt_pre (bs := bs) (n := d + 1) (d := d) (p := p) (r := k) (k := j) (by omega) hj (by rw [show d + 1 - d = 1 by omega, Nat.pow_one]; exact hk)
  rw [show d + 1 - d = 1 by omega, Nat.pow_one] at this
  exact this
/-- a row one day longer -/
theorem rw2_up {d bs p k : Nat} (hk : k < bs) : rw2 H M K N q S (d + 1) bs (p * bs + k) = (stR H M K N q (rw2 H M K N q S d bs p).1 (if ((rw2 H M K N q S d bs p).2 && feas (rw2 H M K N q S d bs p).1 (opt M k)) = true then opt M k else none), (rw2 H M K N q S d bs p).2 && feas (rw2 H M K N q S d bs p).1 (opt M k)) := by
  have e0 : rv H M K N q (ops M bs (d + 1) (p * bs + k)) d 0 S true = rw2 H M K N q S d bs p := rv_congr d 0 S true fun j _ hj => by
    unfold ops
    rw [dgt_up hk (by omega)]
  have e1 : ops M bs (d + 1) (p * bs + k) (0 + d) = opt M k := by
    unfold ops
    rw [Nat.zero_add, dgt_last hk]
  show rv H M K N q (ops M bs (d + 1) (p * bs + k)) (d + 1) 0 S true = _
  rw [rv_snoc, e0, e1]
/-- rows that can't be gone change nothing -/
theorem rb_skip {n d bs p : Nat} (hd : d ≤ n) (hb : 0 < bs) (hf : (rw2 H M K N q S d bs p).2 = false) : ∀ r, r ≤ bs ^ (n - d) → rb H M K N q S n bs (p * bs ^ (n - d) + r) = rb H M K N q S n bs (p * bs ^ (n - d))
  | 0, _ => rfl
  | r + 1, h => by
    have e0 : rv H M K N q (ops M bs n (p * bs ^ (n - d) + r)) d 0 S true = rw2 H M K N q S d bs p := rv_congr d 0 S true fun j _ hj => by
      unfold ops
      rw [dgt_pre hd (by omega) (by omega)]
    have e1 : (rw2 H M K N q S n bs (p * bs ^ (n - d) + r)).2 = false := by
      show (rv H M K N q (ops M bs n (p * bs ^ (n - d) + r)) n 0 S true).2 = false
      have : n = d + (n - d) := by omega
      have e2 := rv_app (H := H) (M := M) (K := K) (N := N) (q := q) (os := ops M bs n (p * bs ^ (n - d) + r)) d (n - d) 0 S true
      rw [← this] at e2
      rw [e2, e0, hf]
      exact rv_false _ _ _
    rw [show p * bs ^ (n - d) + (r + 1) = p * bs ^ (n - d) + r + 1 by omega, rb_s, if_neg (fun hh => by rw [e1] at hh; exact Bool.false_ne_true hh.1)]
    exact rb_skip hd hb hf r (by omega)
theorem rb_skip' {n d bs p : Nat} (hd : d ≤ n) (hb : 0 < bs) (hf : (rw2 H M K N q S d bs p).2 = false) : rb H M K N q S n bs ((p + 1) * bs ^ (n - d)) = rb H M K N q S n bs (p * bs ^ (n - d)) := by
  rw [Nat.add_mul, Nat.one_mul]
  exact rb_skip hd hb hf _ (Nat.le_refl _)
/-- the class's best so far -/
def lsB (o : Option (Nat × Nat)) : Int32 := match o with
  | none => 1000000
  | some x => nI x.1
def LSt (H M K N : Nat) (q : Nat → Nat) (S : SN) (n bs c : Nat) (x40 x59 : Nat → Int32) : Prop := x40 4 = lsB (rb H M K N q S n bs c) ∧ ∀ x, rb H M K N q S n bs c = some x → ∀ j, j < n → x59 j = oc (ops M bs n x.2 j)
theorem keep_ls {n bs c : Nat} {x17 x40 x47 x58 x59 : Nat → Int32} {T : SN} (hn : n ≤ 3) (hV : VD H M B S) (hK : K ≤ 9) (h4 : x17 4 = nI M) (hT : T = (rw2 H M K N q S n bs c).1) (hok : (rw2 H M K N q S n bs c).2 = true) (hx : RP x47 (sPl T)) (h58 : ∀ j, j < n → x58 j = oc (ops M bs n c j)) (hl : LSt H M K N q S n bs c x40 x59) : ∃ y40 y59, (bd1 (fX9_placesOf x47 x17) fun r => if x40 4 ≤ r then some (x40, x59) else gd (cpok 0 0 3 3 3) (some (upd x40 4 r, va_cpy x58 x59 (0 : Int32).toNatClampNeg (0 : Int32).toNatClampNeg (3 : Int32).toNatClampNeg))) = some (y40, y59) ∧ LSt H M K N q S n bs (c + 1) y40 y59 := by
  have hM := hV.1.1
  have p := plc_360 (rw2_V (N := N) (q := q) (n := n) (bs := bs) (c := c) hK hM hV)
  rw [← hT] at p
  rw [p_placesC hM h4 hx, bd1_s, hl.1]
  have hcase : (lsB (rb H M K N q S n bs c) ≤ nI (plc (sPl T) M)) ↔ ¬ plc (sPl T) M < rbB (rb H M K N q S n bs c) := by
    cases e : rb H M K N q S n bs c with
    | none =>
      constructor
      · intro h; exact absurd h (show ¬ (1000000 : Int32) ≤ _ from nI_ge (b := 1000000) (by omega) (by omega))
      · intro h; exact absurd (show plc (sPl T) M < 100000 by omega) h
    | some x =>
      have c0 : 0 < c := Nat.pos_of_ne_zero fun h => by subst h; cases e
      obtain ⟨x', h1, h2, _⟩ := rb_some (N := N) (q := q) (n := n) (bs := bs) hK hV c c0
      rw [e] at h1
      cases h1
      show (nI x.1 ≤ nI _) ↔ ¬ _ < x.1
      rw [nI_leI (by omega) (by omega)]
      omega
  by_cases c2 : plc (sPl T) M < rbB (rb H M K N q S n bs c)
  · rw [if_neg (fun h => hcase.mp h c2), gd_t (by decide)]
    have e : rb H M K N q S n bs (c + 1) = some (plc (sPl T) M, c) := by rw [rb_s, if_pos ⟨hok, by rw [← hT]; exact c2⟩, ← hT]
    refine ⟨_, _, rfl, ?_, fun x hx j hj => ?_⟩
    · rw [e]; rfl
    · rw [e] at hx
      cases hx
      show va_cpy x58 x59 0 0 3 j = _
      rw [pk_cpy_in (by omega) (by omega), show 0 + (j - 0) = j by omega]
      exact h58 j hj
  · rw [if_pos (hcase.mpr c2)]
    have e : rb H M K N q S n bs (c + 1) = rb H M K N q S n bs c := by rw [rb_s, if_neg (fun h => c2 (by rw [hT]; exact h.2))]
    exact ⟨_, _, rfl, by rw [e]; exact hl.1, by rw [e]; exact hl.2⟩
end ROWC

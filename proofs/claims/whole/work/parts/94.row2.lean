section ROW2
variable {H M K N B : Nat} {q : Nat → Nat} {S : SN} {x74 x75 x76 x77 x78 x79 x92 x93 x94 x95 x96 x97 x101 x105 x106 x107 x112 : Nat → Int32} {y99 y100 : Nat → Int64}
/-- the pairs in their order -/
def prw (a : Nat) : Nat → Nat → List (Nat × Nat)
  | 0, _ => []
  | m + 1, b => (a, b) :: prw a m (b + 1)
def pls (M : Nat) : Nat → Nat → List (Nat × Nat)
  | 0, _ => []
  | m + 1, a => prw a (M - (a + 1)) (a + 1) ++ pls M m (a + 1)
theorem pls_V : ∀ M, M < 7 → ∀ p, p ∈ pls M M 0 → p.1 < p.2 ∧ p.2 < M := by decide +kernel
theorem pls_n : ∀ M, M < 7 → (pls M M 0).length ≤ 15 := by decide
def LX (l : List (Nat × Nat)) (x : Nat → Int32) : Prop := ∀ k, k < l.length → x k = oc l[k]?
theorem LX_add {l : List (Nat × Nat)} {x : Nat → Int32} {p : Nat × Nat} (h : LX l x) : LX (l ++ [p]) (upd x l.length (oc (some p))) := by
  intro k hk
  rw [List.length_append] at hk
  by_cases e : k = l.length
  · subst e
    rw [pk_us, List.getElem?_append_right (Nat.le_refl _), Nat.sub_self]
    rfl
  · have hk' : k < l.length := by
      have : k < l.length + 1 := hk
      omega
    rw [pk_un e, h k hk', List.getElem?_append_left hk']
theorem p_twosIn {a : Nat} {l tot : List (Nat × Nat)} (hM : M ≤ 6) (ha : a < M) (h4 : x75 4 = nI M) (hl : LX l x105) (ht : tot = l ++ prw a (M - (a + 1)) (a + 1)) (h15 : tot.length ≤ 36) (k4 : Int32 → Int32 → (Nat → Int32) → Option (Int32 × (Nat → Int32))) : ∃ z, fX12_laysTwos_18 x75 k4 (nI l.length) (nI a) (nI (a + 1)) x105 = k4 (nI tot.length) (nI (a + 1)) z ∧ LX tot z := by
  unfold fX12_laysTwos_18
  refine loop4 (fX12_laysTwos_18b x75 k4) (fun m v1 v2 v3 z => ∃ b l', b + m = M ∧ v1 = nI l'.length ∧ v2 = nI a ∧ v3 = nI b ∧ LX l' z ∧ tot = l' ++ prw a m b) (fun o => ∃ z, o = k4 (nI tot.length) (nI (a + 1)) z ∧ LX tot z) ?_ ?_ (M - (a + 1)) 5000 _ _ _ _ (by omega) ⟨a + 1, l, by omega, rfl, rfl, rfl, hl, ht⟩
  · rintro k m _ _ _ z ⟨b, l', hb, rfl, rfl, rfl, hz, e⟩
    have hlen : l'.length < 36 := by
      rw [e, List.length_append] at h15
      show l'.length < 36
      have : (prw a (m + 1) b).length = (prw a m (b + 1)).length + 1 := rfl
      omega
    refine Or.inl ⟨nI (l' ++ [(a, b)]).length, nI a, nI (b + 1), upd z l'.length (oc (some (a, b))), ⟨b + 1, l' ++ [(a, b)], by omega, rfl, rfl, rfl, LX_add hz, by rw [e, List.append_assoc]; rfl⟩, ?_⟩
    unfold fX12_laysTwos_18b
    rw [gd_t i4, n4', h4, if_neg (nI_ge (show b < M by omega) (by omega)), gd_t (inbN hlen (by decide)), bn_s, bn_s, nI_1, nI_1, clN (by omega), zI8, pk_mul, nI_add, List.length_append]
    rfl
  · rintro k _ _ _ z ⟨b, l', hb, rfl, rfl, rfl, hz, e⟩
    have e' : tot = l' := by rw [e]; exact List.append_nil _
    refine ⟨z, ?_, by rw [e']; exact hz⟩
    unfold fX12_laysTwos_18b
    rw [gd_t i4, n4', h4, if_pos (nI_le (by omega) (by omega)), bn_s, nI_1, e']
theorem p_twos (hM : M ≤ 6) (h4 : x75 4 = nI M) : ∃ z, fX12_laysTwos x75 x105 = some (nI (pls M M 0).length, z) ∧ LX (pls M M 0) z := by
  have h15 := pls_n M (by omega)
  unfold fX12_laysTwos fX12_laysTwos_0 fX12_laysTwos_4
  refine loop3 (fX12_laysTwos_4b x75) (fun m v1 v2 z => ∃ a l, a + m = M ∧ v1 = nI l.length ∧ v2 = nI a ∧ LX l z ∧ pls M M 0 = l ++ pls M m a) (fun o => ∃ z, o = some (nI (pls M M 0).length, z) ∧ LX (pls M M 0) z) ?_ ?_ M 5000 _ _ _ (by omega) ⟨0, [], by omega, rfl, rfl, fun k hk => absurd hk (Nat.not_lt_zero _), rfl⟩
  · rintro k m _ _ z ⟨a, l, ha, rfl, rfl, hz, e⟩
    have e2 : pls M M 0 = (l ++ prw a (M - (a + 1)) (a + 1)) ++ pls M m (a + 1) := by rw [e, List.append_assoc]; rfl
    have hlen : (l ++ prw a (M - (a + 1)) (a + 1)).length ≤ 36 := by
      rw [e2, List.length_append] at h15
      omega
    obtain ⟨w, ew, hw⟩ := p_twosIn (x75 := x75) hM (show a < M by omega) h4 hz rfl hlen k
    refine Or.inl ⟨_, _, w, ⟨a + 1, l ++ prw a (M - (a + 1)) (a + 1), by omega, rfl, rfl, hw, e2⟩, Eq.trans ?_ ew⟩
    unfold fX12_laysTwos_4b
    rw [gd_t i4, n4', h4, if_neg (nI_ge (show a < M by omega) (by omega)), bn_s, nI_1]
  · rintro k _ _ z ⟨a, l, ha, rfl, rfl, hz, e⟩
    have e' : pls M M 0 = l := by rw [e]; exact List.append_nil _
    refine ⟨z, ?_, by rw [e']; exact hz⟩
    unfold fX12_laysTwos_4b
    rw [gd_t i4, n4', h4, if_pos (nI_le (by omega) (by omega)), e']
/-- what a digit stands for -/
def opt (M d : Nat) : OP := if d = 0 then none else (pls M M 0)[d - 1]?
theorem opt_V {d : Nat} (hM : M ≤ 6) : opV M (opt M d) := by
  unfold opt
  by_cases c : d = 0
  · rw [if_pos c]; exact trivial
  · rw [if_neg c]
    cases e : (pls M M 0)[d - 1]? with
    | none => exact trivial
    | some p => exact pls_V M (by omega) p (List.mem_of_getElem? e)
def dgt (bs n code k : Nat) : Nat := code / bs ^ (n - 1 - k) % bs
def ops (M bs n code k : Nat) : OP := opt M (dgt bs n code k)
/-- a row by its number: how far down all are, if it can be gone -/
def rw2 (H M K N : Nat) (q : Nat → Nat) (S : SN) (n bs code : Nat) : SN × Bool := rv H M K N q (ops M bs n code) n 0 S true
def rbB (o : Option (Nat × Nat)) : Nat := match o with
  | none => 100000
  | some x => x.1
def rb (H M K N : Nat) (q : Nat → Nat) (S : SN) (n bs : Nat) : Nat → Option (Nat × Nat)
  | 0 => none
  | c + 1 => if (rw2 H M K N q S n bs c).2 = true ∧ plc (sPl (rw2 H M K N q S n bs c).1) M < rbB (rb H M K N q S n bs c) then some (plc (sPl (rw2 H M K N q S n bs c).1) M, c) else rb H M K N q S n bs c
theorem rb_s {n bs c : Nat} : rb H M K N q S n bs (c + 1) = if (rw2 H M K N q S n bs c).2 = true ∧ plc (sPl (rw2 H M K N q S n bs c).1) M < rbB (rb H M K N q S n bs c) then some (plc (sPl (rw2 H M K N q S n bs c).1) M, c) else rb H M K N q S n bs c := rfl
def ansW (M n bs w : Nat) (o : Option (Nat × Nat)) : Int32 := if w = 0 then nI (rbB o) else if n < w then -2 else match o with
  | none => 0
  | some x => oc (ops M bs n x.2 (w - 1))
end ROW2

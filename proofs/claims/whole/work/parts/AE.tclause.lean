/-- a town being read, on both sides -/
def DX (H su K N M : Nat) (q g r : Nat → Nat) (f : Nat → Nat → Nat) (x7 x8 x9 x10 x11 x12 x86 x87 x88 x89 x90 : Nat → Int32) : Prop :=
  (x7 0 = nI H ∧ x7 1 = nI K ∧ x7 3 = nI N ∧ x7 4 = nI M ∧ x9 0 = 0 ∧ x9 1 = nI su ∧ x9 2 = 0) ∧ (RP x10 g ∧ RP x11 r ∧ RH x12 f) ∧
  (x86 0 = nI H ∧ x86 1 = nI su ∧ x86 2 = nI K ∧ x86 3 = nI N ∧ x86 4 = nI M) ∧ (RP x87 g ∧ RP x88 r ∧ RH x89 f) ∧
  (∀ j, j < N → x8 j = nI (q j) ∧ x90 j = nI (q j) ∧ q j ≤ 9) ∧ (H ≤ 60 ∧ su ≤ 99 ∧ K ≤ 9 ∧ N ≤ 12 ∧ M ≤ 6) ∧
  (∀ h, h < 6 → (h < M → g h < H) ∧ (M ≤ h → g h = 0) ∧ r h ≤ 9 ∧ (M ≤ h → r h = 0)) ∧
  (∀ a b, a < 6 → b < 6 → f a b ≤ 9 ∧ f a b = f b a ∧ (M ≤ a → f a b = 0)) ∧ ∀ a, a < 6 → f a a = 0
def DR (n : Nat) (x7 x8 x9 x10 x11 x12 x86 x87 x88 x89 x90 : Nat → Int32) : Prop := ∃ H su K N M q g r f, DX H su K N M q g r f x7 x8 x9 x10 x11 x12 x86 x87 x88 x89 x90 ∧ (n = 0 → N = 0 ∧ M = 0) ∧ (0 < n → 5 ≤ H)
abbrev FI : Type := Nat → Int32
/-- what reading a clause comes to, on both sides -/
def TO (t : Nat → Int32) (sz c n : Nat) (x3 x4 x5 x74 x91 : Nat → Int32) (oc : Option (Int32 × FI × FI × FI × FI × FI × FI × FI)) (or : Option (FI × FI × FI × FI × FI × FI)) : Prop :=
  (n < 40 ∧ ∃ i p y1 y7 y8 y9 y10 y11 y12 z74 z86 z87 z88 z89 z90, oc = some (1, y1, y7, y8, y9, y10, y11, y12) ∧ or = some (z74, z86, z87, z88, z89, z90) ∧ (∀ j, j ≠ 18 → j ≠ 19 → z74 j = x74 j) ∧ BP t sz c i p y1 x3 x4 x5 z74 x91 ∧ DR (n + 1) y7 y8 y9 y10 y11 y12 z86 z87 z88 z89 z90) ∨
  ∃ F y1 y7 y8 y9 y10 y11 y12 z74 z86 z87 z88 z89 z90, 0 < F ∧ F < 5000 ∧ oc = some (0, y1, y7, y8, y9, y10, y11, y12) ∧ y1 7 = nI F ∧ or = some (z74, z86, z87, z88, z89, z90) ∧ (∀ j, j ≠ 18 → j ≠ 19 → z74 j = x74 j) ∧ z74 19 = nI F ∧ ∃ pq, z74 18 = nI pq ∧ pq ≤ sz
section TCL
variable {x1 x3 x4 x5 x7 x8 x9 x10 x11 x12 x74 x86 x87 x88 x89 x90 x91 t : Nat → Int32} {sz c i p n k N M H : Nat}
/-- no clause of that kind can stand here -/
def full (k n N M : Nat) : Prop := n = 40 ∨ ¬ (k = 0 ↔ n = 0) ∨ (k = 1 ∧ N = 12) ∨ (k = 2 ∧ M = 6)
theorem p_fullR (hn : n ≤ 40) (hk : k < 5) (hN : N ≤ 12) (hM : M ≤ 6) (r3 : x86 3 = nI N) (r4 : x86 4 = nI M) : (full k n N M ∧ fX12_isFull x86 (nI k) (nI n) = some (nI 1)) ∨ (¬ full k n N M ∧ fX12_isFull x86 (nI k) (nI n) = some (nI 0)) := by
  have r3' : x86 (3 : Int32).toNatClampNeg = nI N := r3
  have r4' : x86 (4 : Int32).toNatClampNeg = nI M := r4
  have eq : ∀ a b : Nat, a < 1000 → b < 1000 → (nI a = nI b ↔ a = b) := fun a b ha hb => nI_eq (by omega) (by omega)
  unfold fX12_isFull fX12_isFull_0 fX12_isFull_15 fX12_isFull_24 fX12_isFull_45 fX12_isFull_61 fX12_isFull_65 full
  rw [gd_t (by decide), gd_t (by decide), r3', r4', show (40 : Int32) = nI 40 from rfl, show (12 : Int32) = nI 12 from rfl, show (6 : Int32) = nI 6 from rfl, show (2 : Int32) = nI 2 from rfl, show (1 : Int32) = nI 1 from rfl, show (0 : Int32) = nI 0 from rfl]
  simp only [eq n 40 (by omega) (by omega), eq k 0 (by omega) (by omega), eq n 0 (by omega) (by omega), eq k 1 (by omega) (by omega), eq k 2 (by omega) (by omega), eq N 12 (by omega) (by omega), eq M 6 (by omega) (by omega), eq 1 0 (by omega) (by omega), eq 0 1 (by omega) (by omega)]
  by_cases a1 : n = 40
  · rw [if_pos a1]; exact Or.inl ⟨Or.inl a1, rfl⟩
  rw [if_neg a1]
  by_cases a2 : k = 0 <;> by_cases a3 : n = 0 <;> by_cases a4 : k = 1 <;> by_cases a5 : k = 2 <;> by_cases a6 : N = 12 <;> by_cases a7 : M = 6 <;> simp [a1, a2, a3, a4, a5, a6, a7] <;> omega
theorem p_fullC (hn : n ≤ 40) (hk : k < 5) (hN : N ≤ 12) (hM : M ≤ 6) (h3 : x7 3 = nI N) (h4 : x7 4 = nI M) : (full k n N M ∧ fX10_readClause_47 x3 x4 x5 (nI n) (nI (17 + tw k)) x1 x7 x8 x9 x10 x11 x12 = fX10_readClause_84 x3 x4 x5 x1 x7 x8 x9 x10 x11 x12) ∨ (¬ full k n N M ∧ fX10_readClause_47 x3 x4 x5 (nI n) (nI (17 + tw k)) x1 x7 x8 x9 x10 x11 x12 = bd1 (fX8_skip x1) fun x1_3 => if k = 1 then (bd4 (fX10_readHeat x3 x4 x5 x1_3 x7 x8) fun r_6 x1_7 x7_8 x8_9 => (gd (bz r_6) (some (r_6, x1_7, x7_8, x8_9, x9, x10, x11, x12)))) else if k = 0 then (bd4 (fX10_readHill x3 x4 x5 x1_3 x7 x9) fun r_13 x1_14 x7_15 x9_16 => (gd (bz r_13) (some (r_13, x1_14, x7_15, x8, x9_16, x10, x11, x12)))) else if k = 2 then (bd4 (fX10_readHouse x3 x4 x5 x1_3 x7 x10) fun r_20 x1_21 x7_22 x10_23 => (gd (bz r_20) (some (r_20, x1_21, x7_22, x8, x9, x10_23, x11, x12)))) else if k = 3 then (bd3 (fX10_readJoin x3 x4 x5 x7 x1_3 x12) fun r_27 x1_28 x12_29 => (gd (bz r_27) (some (r_27, x1_28, x7, x8, x9, x10, x11, x12_29)))) else (fX10_readClause_164 x3 x4 x5 x1_3 x7 x8 x9 x10 x11 x12)) := by
  unfold fX10_readClause_47 fX10_readClause_64 fX10_readClause_73 full
  by_cases a1 : n = 40
  · rw [if_pos (show (40 : Int32) ≤ nI n by rw [a1]; decide)]; exact Or.inl ⟨Or.inl a1, rfl⟩
  rw [if_neg (show ¬ (40 : Int32) ≤ nI n from nI_ge (b := 40) (by omega) (by omega))]
  have n0 : (nI n = 0 ↔ n = 0) := nI_eq (b := 0) (by omega) (by omega)
  have full0 : ∀ c : Int32, c ≠ 25 → c ≠ 30 → fX10_isFull x7 c = some 0 := fun c c1 c2 => by
    unfold fX10_isFull fX10_isFull_0 fX10_isFull_18 fX10_isFull_40
    rw [if_neg c1, if_neg c2]
  have full1 : fX10_isFull x7 25 = some (if N = 12 then 1 else 0) := by
    unfold fX10_isFull fX10_isFull_0 fX10_isFull_18 fX10_isFull_40 fX10_isFull_36
    rw [if_pos rfl, h3]
    by_cases e : N = 12
    · rw [if_pos e, if_pos (by rw [e]; decide)]
    · rw [if_neg e, if_neg (show ¬ (12 : Int32) ≤ nI N from nI_ge (b := 12) (by omega) (by omega)), if_neg (show ¬ (25 : Int32) = 30 by decide)]
  have full2 : fX10_isFull x7 30 = some (if M = 6 then 1 else 0) := by
    unfold fX10_isFull fX10_isFull_0 fX10_isFull_18 fX10_isFull_40 fX10_isFull_36
    rw [if_neg (by decide), if_pos rfl, h4]
    by_cases e : M = 6
    · rw [if_pos e, if_neg (by rw [e]; decide)]
    · rw [if_neg e, if_pos (show nI M < (6 : Int32) from nI_lt (b := 6) (by omega) (by omega))]
  have hk' : k = 0 ∨ k = 1 ∨ k = 2 ∨ k = 3 ∨ k = 4 := by omega
  by_cases a3 : n = 0
  · rw [if_pos (n0.mpr a3), if_pos (n0.mpr a3)]
    rcases hk' with rfl | rfl | rfl | rfl | rfl
    · refine Or.inr ⟨by omega, ?_⟩
      rw [if_pos (by decide), if_pos rfl, full0 _ (by decide) (by decide), bd1_s, if_pos rfl]
      rfl
    all_goals
      refine Or.inl ⟨by omega, ?_⟩
      rw [if_neg (by decide), if_neg (by decide)]
  · rw [if_neg (fun h => a3 (n0.mp h)), if_neg (fun h => a3 (n0.mp h))]
    rcases hk' with rfl | rfl | rfl | rfl | rfl
    · refine Or.inl ⟨by omega, ?_⟩
      rw [if_pos (by decide), if_neg (by decide)]
    · rw [if_neg (by decide), if_pos rfl, show nI (17 + tw 1) = 25 from rfl, full1, bd1_s]
      by_cases e : N = 12
      · refine Or.inl ⟨by omega, ?_⟩
        rw [if_pos e, if_neg one_ne]
      · refine Or.inr ⟨by omega, ?_⟩
        rw [if_neg e, if_pos rfl]
        rfl
    · rw [if_neg (by decide), if_pos rfl, show nI (17 + tw 2) = 30 from rfl, full2, bd1_s]
      by_cases e : M = 6
      · refine Or.inl ⟨by omega, ?_⟩
        rw [if_pos e, if_neg one_ne]
      · refine Or.inr ⟨by omega, ?_⟩
        rw [if_neg e, if_pos rfl]
        rfl
    · refine Or.inr ⟨by omega, ?_⟩
      rw [if_neg (by decide), if_pos rfl, full0 _ (by decide) (by decide), bd1_s, if_pos rfl]
      rfl
    · refine Or.inr ⟨by omega, ?_⟩
      rw [if_neg (by decide), if_pos rfl, full0 _ (by decide) (by decide), bd1_s, if_pos rfl]
      rfl
theorem kOf_tw {c : Nat} : (kOf c = 5 ∧ c ≠ 29 ∧ c ≠ 25 ∧ c ≠ 30 ∧ c ≠ 31 ∧ c ≠ 23) ∨ (kOf c < 5 ∧ c = 17 + tw (kOf c)) := by
  unfold kOf
  by_cases a : c = 29
  · rw [if_pos a]; exact Or.inr ⟨by omega, a⟩
  rw [if_neg a]
  by_cases b : c = 25
  · rw [if_pos b]; exact Or.inr ⟨by omega, b⟩
  rw [if_neg b]
  by_cases d : c = 30
  · rw [if_pos d]; exact Or.inr ⟨by omega, d⟩
  rw [if_neg d]
  by_cases e : c = 31
  · rw [if_pos e]; exact Or.inr ⟨by omega, e⟩
  rw [if_neg e]
  by_cases g : c = 23
  · rw [if_pos g]; exact Or.inr ⟨by omega, g⟩
  rw [if_neg g]
  exact Or.inl ⟨rfl, a, b, d, e, g⟩
theorem p_clause0 (hT : TP t sz c i x1 x3 x4 x5) : fX10_readClause x3 x4 x5 (nI n) x1 x7 x8 x9 x10 x11 x12 = if kOf (tc t sz (ts t sz i)) = 5 then some (0, upd x1 7 (nI (flt (ts t sz i) 0)), x7, x8, x9, x10, x11, x12) else fX10_readClause_47 x3 x4 x5 (nI n) (nI (tc t sz (ts t sz i))) x1 x7 x8 x9 x10 x11 x12 := by
  have tl := tc_lt (t := t) (s := ts t sz i) hT.1
  have eq : ∀ b : Nat, b < 1000 → (nI (tc t sz (ts t sz i)) = nI b ↔ tc t sz (ts t sz i) = b) := fun b hb => nI_eq (by omega) (by omega)
  unfold fX10_readClause fX10_readClause_0
  rw [p_code hT, bd1_s]
  rcases kOf_tw (c := tc t sz (ts t sz i)) with ⟨e5, n1, n2, n3, n4, n5⟩ | ⟨l5, e⟩
  · rw [if_pos e5, if_neg (show ¬ nI (tc t sz (ts t sz i)) = (29 : Int32) from fun h => n1 ((eq 29 (by omega)).mp h)), if_neg (show ¬ nI (tc t sz (ts t sz i)) = (25 : Int32) from fun h => n2 ((eq 25 (by omega)).mp h)), if_neg (show ¬ nI (tc t sz (ts t sz i)) = (30 : Int32) from fun h => n3 ((eq 30 (by omega)).mp h)), if_neg (show ¬ nI (tc t sz (ts t sz i)) = (31 : Int32) from fun h => n4 ((eq 31 (by omega)).mp h)), if_neg (show ¬ nI (tc t sz (ts t sz i)) = (23 : Int32) from fun h => n5 ((eq 23 (by omega)).mp h)), show (0 : Int32) = nI 0 from rfl, p_fail hT, bd2_s, gd_t (by decide)]
    rfl
  · rw [if_neg (show ¬ kOf (tc t sz (ts t sz i)) = 5 by omega)]
    generalize kOf (tc t sz (ts t sz i)) = k at l5 e
    rw [e]
    have hk' : k = 0 ∨ k = 1 ∨ k = 2 ∨ k = 3 ∨ k = 4 := by omega
    rcases hk' with rfl | rfl | rfl | rfl | rfl <;> rfl
end TCL

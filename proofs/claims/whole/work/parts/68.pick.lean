/-- the heat told of a day, and the heat with ice -/
def tld (N : Nat) (q : Nat → Nat) (d : Nat) : Nat := if N = 0 then 0 else q (d % N)
def hot (N : Nat) (q : Nat → Nat) (d ic : Nat) : Nat := if 0 < ic then tld N q d - 3 else tld N q d
def VQ (N : Nat) (q : Nat → Nat) : Prop := N ≤ 12 ∧ ∀ j, j < N → q j ≤ 9
theorem tld_9 {N d : Nat} {q : Nat → Nat} (h : VQ N q) : tld N q d ≤ 9 := by
  unfold tld
  split
  · omega
  · exact h.2 _ (Nat.mod_lt _ (by omega))
theorem hot_9 {N d ic : Nat} {q : Nat → Nat} (h : VQ N q) : hot N q d ic ≤ 9 := by
  have := tld_9 (d := d) h
  unfold hot
  split <;> omega
theorem nz_t {n : Nat} (h : n ≠ 0) (h2 : n < 2147483648) : nz (nI n) = true := by
  unfold nz
  have : ¬ nI n = 0 := fun e => h ((nI_eq (a := n) (b := 0) h2 (by omega)).mp e)
  simp [this]
theorem le0 {n : Nat} (h : n ≤ 0) : nI n ≤ (0 : Int32) := nI_le (b := 0) h (by omega)
theorem nle0 {n : Nat} (h : 0 < n) (hn : n < 2147483648) : ¬ nI n ≤ (0 : Int32) := nI_ge (a := 0) h hn
theorem ne0 {n : Nat} (h : n ≠ 0) (hn : n < 2147483648) : ¬ nI n = (0 : Int32) := fun e => h ((nI_eq (a := n) (b := 0) hn (by omega)).mp e)
theorem ge0 {n : Nat} (hn : n < 2147483648) : (0 : Int32) ≤ nI n := nI_le (a := 0) (Nat.zero_le _) hn
theorem p_told {x17 x18 : Nat → Int32} {N d : Nat} {q : Nat → Nat} (h : VQ N q) (h3 : x17 3 = nI N) (hq : ∀ j, j < N → x18 j = nI (q j)) (hd : d < 2147483648) : fX9_toldHeat x17 x18 (nI d) = some (nI (tld N q d)) := by
  have hN := h.1
  unfold fX9_toldHeat fX9_toldHeat_0 tld
  by_cases c : N = 0
  · subst c
    rw [h3, if_pos (by decide)]
    rfl
  · have hm := Nat.mod_lt d (show N > 0 by omega)
    rw [h3, if_neg (nle0 (show 0 < N by omega) (by omega)), if_neg (nI_pos hd), gd_t (nz_t c (by omega)), pk_rem hd (by omega) (by omega), gd_t (inbN (by omega) (by decide)), clN (by omega), hq _ hm, if_neg c]
theorem p_toldR {x75 x79 : Nat → Int32} {N d : Nat} {q : Nat → Nat} (h : VQ N q) (h3 : x75 3 = nI N) (hq : ∀ j, j < N → x79 j = nI (q j)) (hd : d < 2147483648) : fX12_toldHeat x75 x79 (nI d) = some (nI (tld N q d)) := by
  have hN := h.1
  unfold fX12_toldHeat fX12_toldHeat_0 tld
  by_cases c : N = 0
  · subst c
    rw [gd_t i3, n3', h3, if_pos (show nI 0 = (0 : Int32) from rfl), if_pos rfl]
    rfl
  · have hm := Nat.mod_lt d (show N > 0 by omega)
    rw [gd_t i3, n3', h3, if_neg (ne0 c (by omega)), gd_t i3, gd_t (nz_t c (by omega)), pk_rem hd (by omega) (by omega), gd_t (inbN (by omega) (by decide)), clN (by omega), hq _ hm, if_neg c]
theorem p_heatOf {xo x17 x18 : Nat → Int32} {N d ic : Nat} {q : Nat → Nat} (h : VQ N q) (h3 : x17 3 = nI N) (hq : ∀ j, j < N → x18 j = nI (q j)) (hd : d < 2147483648) (h0 : xo 0 = nI d) (h2 : xo 2 = nI ic) (hi : ic ≤ 9) : fX9_heatOf xo x17 x18 = some (nI (hot N q d ic)) := by
  have t9 := tld_9 (d := d) h
  unfold fX9_heatOf fX9_heatOf_0 hot
  rw [h0, p_told h h3 hq hd, bd1_s, h2]
  by_cases c : ic ≤ 0
  · rw [if_pos (le0 c), if_neg (by omega)]
  · rw [if_neg (nle0 (show 0 < ic by omega) (by omega)), if_pos (show 0 < ic by omega)]
    congr 1
    revert t9
    generalize tld N q d = n
    intro hn
    revert n
    decide +kernel
theorem p_heatR {x74 x75 x79 : Nat → Int32} {N d ic : Nat} {q : Nat → Nat} (h : VQ N q) (hN : x74 37 = -1) (h3 : x75 3 = nI N) (hq : ∀ j, j < N → x79 j = nI (q j)) (hd : d < 2147483648) (h0 : x75 5 = nI d) (h2 : x75 7 = nI ic) (hi : ic ≤ 9) : fX12_heat x74 x75 x79 = some (nI (hot N q d ic)) := by
  have t9 := tld_9 (d := d) h
  unfold fX12_heat fX12_heat_0 hot
  rw [if_pos hN, gd_t i5, n5', h0, p_toldR h h3 hq hd, bd1_s, gd_t i7, n7', h2]
  unfold fX12_heat_38
  by_cases c : ic ≤ 0
  · rw [if_pos (le0 c), if_neg (show ¬ 0 < ic by omega), bn_s, show nI (tld N q d) - 0 = nI (tld N q d) from nsub (b := 0) (by omega), if_pos (ge0 (by omega))]
  · rw [if_neg (nle0 (show 0 < ic by omega) (by omega)), if_pos (show 0 < ic by omega), bn_s]
    revert t9
    generalize tld N q d = n
    intro hn
    revert n
    decide +kernel
theorem p_heatD {x74 x75 x79 : Nat → Int32} {t : Nat} (h : x74 37 = nI t) (ht : t ≤ 9) : fX12_heat x74 x75 x79 = some (nI t) := by
  unfold fX12_heat fX12_heat_0
  rw [h, if_neg (by revert ht; generalize t = n; revert n; decide +kernel)]
/-- what may be hardened -/
abbrev can (f : Nat → Nat → Nat) (a b : Nat) : Prop := 0 < f a b ∧ f a b < 9
theorem p_can {x3 : Nat → Int32} {f : Nat → Nat → Nat} (hx : RH x3 f) (h9 : ∀ a b, a < 6 → b < 6 → f a b ≤ 9) {a b : Nat} (ha : a < 6) (hb : b < 6) : (can f a b ∧ fX7_canHarden x3 (nI a) (nI b) = some (nI 1) ∧ fX12_canHarden x3 (nI a) (nI b) = some (nI 1)) ∨ (¬ can f a b ∧ fX7_canHarden x3 (nI a) (nI b) = some (nI 0) ∧ fX12_canHarden x3 (nI a) (nI b) = some (nI 0)) := by
  have q := hx a b ha hb
  have e := p_hardOf hx ha hb
  have h9' := h9 a b ha hb
  unfold can fX7_canHarden fX7_canHarden_0 fX7_canHarden_24 fX12_canHarden fX12_canHarden_0
  rw [ixR, e, gd_t (inbH ha hb), clH ha hb, q, bd1_s]
  clear e q
  revert h9'
  generalize f a b = n
  intro hn
  revert n
  decide +kernel
/-- twelve words -/
def wrd (f : Nat → Nat → Nat) (g r : Nat → Nat) (t nx su d a b : Nat) (j : Nat) : Int64 := lN (match j with
  | 0 => a
  | 1 => b
  | 2 => f a b
  | 3 => g a
  | 4 => g b
  | 5 => (g a - g b) + (g b - g a)
  | 6 => r a
  | 7 => r b
  | 8 => t
  | 9 => nx
  | 10 => su
  | _ => d)
abbrev PK : Type := Int64 × Option (Nat × Nat)
def pk1 (W : (Nat → Int64) → Int64) (w : Nat → Nat → Nat → Int64) (f : Nat → Nat → Nat) (a b : Nat) (s : PK) : PK := if can f a b then (if W (w a b) ≤ s.1 then s else (W (w a b), some (a, b))) else s
def pkIn (st : Nat → Nat → PK → PK) (a : Nat) : Nat → Nat → PK → PK
  | 0, _, s => s
  | m + 1, b, s => pkIn st a m (b + 1) (st a b s)
def pkOut (st : Nat → Nat → PK → PK) (M : Nat) : Nat → Nat → PK → PK
  | 0, _, s => s
  | m + 1, a, s => pkOut st M m (a + 1) (pkIn st a (M - (a + 1)) (a + 1) s)
def pA (s : PK) : Int32 := match s.2 with
  | none => -1
  | some (a, _) => nI a
def pB (s : PK) : Int32 := match s.2 with
  | none => -1
  | some (_, b) => nI b
def pC (s : PK) : Int32 := match s.2 with
  | none => -1
  | some (a, b) => nI (8 * a + b)
/-- what was picked can be hardened -/
def pG (M : Nat) (f : Nat → Nat → Nat) (s : PK) : Prop := ∀ a b, s.2 = some (a, b) → a < b ∧ b < M ∧ can f a b
theorem pk1_G {M a b : Nat} {f : Nat → Nat → Nat} {W : (Nat → Int64) → Int64} {w : Nat → Nat → Nat → Int64} {s : PK} (h : pG M f s) (hab : a < b) (hb : b < M) : pG M f (pk1 W w f a b s) := by
  unfold pk1
  by_cases c : can f a b
  · rw [if_pos c]
    split
    · exact h
    · intro a' b' e
      cases e
      exact ⟨hab, hb, c⟩
  · rw [if_neg c]; exact h
theorem pkIn_G {M a : Nat} {f : Nat → Nat → Nat} {W : (Nat → Int64) → Int64} {w : Nat → Nat → Nat → Int64} : ∀ m b s, pG M f s → a < b → b + m = M → pG M f (pkIn (pk1 W w f) a m b s)
  | 0, _, _, h, _, _ => h
  | m + 1, b, s, h, hab, hb => pkIn_G m (b + 1) _ (pk1_G h hab (by omega)) (by omega) (by omega)
theorem pkOut_G {M : Nat} {f : Nat → Nat → Nat} {W : (Nat → Int64) → Int64} {w : Nat → Nat → Nat → Int64} : ∀ m a s, pG M f s → a + m = M → pG M f (pkOut (pk1 W w f) M m a s)
  | 0, _, _, h, _ => h
  | m + 1, a, s, h, ha => pkOut_G m (a + 1) _ (pkIn_G _ _ _ h (by omega) (by omega)) (by omega)
theorem absC : ∀ x, x < 61 → ∀ y, y < 61 → (if (0 : Int32) ≤ nI x - nI y then nI x - nI y else 0 - (nI x - nI y)) = nI ((x - y) + (y - x)) ∧ fX12_differ (nI x) (nI y) = some (nI ((x - y) + (y - x))) := by decide +kernel
section PICK
variable {H M K N t d su : Nat} {g r q : Nat → Nat} {f : Nat → Nat → Nat}
theorem p_fill {xo x1 x2 x3 x17 x18 : Nat → Int32} {y : Nat → Int64} {a b : Nat} (hQ : VQ N q) (h3 : x17 3 = nI N) (hq : ∀ j, j < N → x18 j = nI (q j)) (hd : d < 1000000) (hsu : su ≤ 99) (h0 : xo 0 = nI d) (h1 : xo 1 = nI su) (hx1 : RP x1 g) (hx2 : RP x2 r) (hx3 : RH x3 f) (hg : ∀ h, h < 6 → g h ≤ 60 ∧ r h ≤ 9) (h9 : ∀ a b, a < 6 → b < 6 → f a b ≤ 9) (ht : t < 10) (ha : a < 6) (hb : b < 6) : ∃ y', fX1_fillWords xo x1 x2 x3 x17 x18 (nI a) (nI b) (nI t) y = some y' ∧ ∀ j, j < 12 → y' j = wrd f g r t (tld N q (d + 1)) su d a b j := by
  have ga := hg a ha
  have gb := hg b hb
  have fab := h9 a b ha hb
  have t9 := tld_9 (d := d + 1) hQ
  have ab := (absC (g a) (by omega) (g b) (by omega)).1
  refine ⟨?ww, ?ee, ?pp⟩
  case ee =>
    unfold fX1_fillWords fX1_fillWords_0
    rw [gd_t (by decide), gd_t (by decide), p_hardOf hx3 ha hb, bd1_s, gd_t (by decide), gd_t (in6 ha), gd_t (by decide), gd_t (in6 hb), gd_t (by decide), gd_t (in6 ha), gd_t (in6 hb), gd_t (by decide), gd_t (in6 ha), gd_t (by decide), gd_t (in6 hb), gd_t (by decide), gd_t (by decide), h0, nI_1, p_told hQ h3 hq (by omega), bd1_s, gd_t (by decide), gd_t (by decide), gd_t (by decide), cl6 ha, cl6 hb, hx1 a ha, hx1 b hb, hx2 a ha, hx2 b hb, h1, ab]
  case pp =>
    intro j hj
    match j, hj with
    | 0, _ => exact nI_l (by omega)
    | 1, _ => exact nI_l (by omega)
    | 2, _ => exact nI_l (by omega)
    | 3, _ => exact nI_l (by omega)
    | 4, _ => exact nI_l (by omega)
    | 5, _ => exact nI_l (by omega)
    | 6, _ => exact nI_l (by omega)
    | 7, _ => exact nI_l (by omega)
    | 8, _ => exact nI_l (by omega)
    | 9, _ => exact nI_l (by omega)
    | 10, _ => exact nI_l (by omega)
    | 11, _ => exact nI_l (by omega)
    | j + 12, hj => omega
theorem p_sumOf {x74 x75 x76 x77 x78 x79 x92 x93 x94 x95 x96 x97 : Nat → Int32} {y99 y100 : Nat → Int64} {a b : Nat} {W : (Nat → Int64) → Int64} (hW : ∀ w y z, (∀ j, j < 12 → y j = w j) → ∃ z', fX12_wanted x75 x92 x93 x94 x95 x96 x97 y z = some (W w, z')) (hheat : fX12_heat x74 x75 x79 = some (nI t)) (hQ : VQ N q) (h3 : x75 3 = nI N) (hq : ∀ j, j < N → x79 j = nI (q j)) (hd : d < 1000000) (hsu : su ≤ 99) (h0 : x75 5 = nI d) (h1 : x75 6 = nI su) (hx1 : RP x76 g) (hx2 : RP x77 r) (hx3 : RH x78 f) (hg : ∀ h, h < 6 → g h ≤ 60 ∧ r h ≤ 9) (h9 : ∀ a b, a < 6 → b < 6 → f a b ≤ 9) (ht : t < 10) (ha : a < 6) (hb : b < 6) : ∃ y' z', fX12_sumOf x74 x75 x76 x77 x78 x79 x92 x93 x94 x95 x96 x97 (nI a) (nI b) y99 y100 = some (W (wrd f g r t (tld N q (d + 1)) su d a b), y', z') := by
  have ga := hg a ha
  have gb := hg b hb
  have fab := h9 a b ha hb
  have t9 := tld_9 (d := d + 1) hQ
  have ab := (absC (g a) (by omega) (g b) (by omega)).2
  have key : ∃ y', (∀ j, j < 12 → y' j = wrd f g r t (tld N q (d + 1)) su d a b j) ∧ fX12_sumOf x74 x75 x76 x77 x78 x79 x92 x93 x94 x95 x96 x97 (nI a) (nI b) y99 y100 = bd2 (fX12_wanted x75 x92 x93 x94 x95 x96 x97 y' y100) fun u z => some (u, y', z) := by
    refine ⟨?ww, ?pp, ?ee⟩
    case ee =>
      unfold fX12_sumOf fX12_sumOf_0
      rw [gd_t (by decide), gd_t (by decide), ixR, gd_t (inbH ha hb), gd_t (by decide), gd_t (in6 ha), gd_t (by decide), gd_t (in6 hb), gd_t (by decide), gd_t (in6 ha), gd_t (in6 hb), cl6 ha, cl6 hb, hx1 a ha, hx1 b hb, ab, bd1_s, gd_t (by decide), gd_t (in6 ha), gd_t (by decide), gd_t (in6 hb), gd_t (by decide), hheat, bd1_s, gd_t (by decide), gd_t (by decide), n5', h0, nI_1, p_toldR hQ h3 hq (by omega), bd1_s, gd_t (by decide), gd_t (by decide), gd_t (by decide), gd_t (by decide), gd_t (by decide), clH ha hb, hx3 a b ha hb, hx2 a ha, hx2 b hb, n6', h1]
    case pp =>
      intro j hj
      match j, hj with
      | 0, _ => exact nI_l (by omega)
      | 1, _ => exact nI_l (by omega)
      | 2, _ => exact nI_l (by omega)
      | 3, _ => exact nI_l (by omega)
      | 4, _ => exact nI_l (by omega)
      | 5, _ => exact nI_l (by omega)
      | 6, _ => exact nI_l (by omega)
      | 7, _ => exact nI_l (by omega)
      | 8, _ => exact nI_l (by omega)
      | 9, _ => exact nI_l (by omega)
      | 10, _ => exact nI_l (by omega)
      | 11, _ => exact nI_l (by omega)
      | j + 12, hj => omega
  obtain ⟨y', hy, e⟩ := key
  obtain ⟨z', ez⟩ := hW _ y' y100 hy
  exact ⟨y', z', by rw [e, ez, bd2_s]⟩
end PICK

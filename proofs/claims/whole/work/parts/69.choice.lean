theorem z00 : nI 0 = (0 : Int32) := rfl
section CHO
variable {H M K N t d su : Nat} {g r q : Nat → Nat} {f : Nat → Nat → Nat}
/-- what is hardened by a rule -/
def pick (W : (Nat → Int64) → Int64) (M : Nat) (f : Nat → Nat → Nat) (g r : Nat → Nat) (t nx su d : Nat) : PK := pkOut (pk1 W (wrd f g r t nx su d) f) M M 0 (0, none)
def hdF (f : Nat → Nat → Nat) (P : Option (Nat × Nat)) : Nat → Nat → Nat := match P with
  | none => f
  | some (a, b) => setF f a b (f a b + 1)
def hdS (su : Nat) (P : Option (Nat × Nat)) : Nat := match P with
  | none => su
  | some _ => su - 1
theorem pick_G {W : (Nat → Int64) → Int64} {nx : Nat} : pG M f (pick W M f g r t nx su d) := pkOut_G M 0 _ (fun a b e => by cases e) (by omega)
theorem p_hbIn {Lru : Nat} {xo x1 x2 x3 x17 x18 xr : Nat → Int32} {W : (Nat → Int64) → Int64} (hW : ∀ w y z, (∀ j, j < 12 → y j = w j) → ∃ z', fX4_worth Lru xr y z = some (W w, z')) (hM : M ≤ 6) (h4 : x17 4 = nI M) (hQ : VQ N q) (h3 : x17 3 = nI N) (hq : ∀ j, j < N → x18 j = nI (q j)) (hd : d < 1000000) (hsu : su ≤ 99) (h0 : xo 0 = nI d) (h1 : xo 1 = nI su) (hx1 : RP x1 g) (hx2 : RP x2 r) (hx3 : RH x3 f) (hg : ∀ h, h < 6 → g h ≤ 60 ∧ r h ≤ 9) (h9 : ∀ a b, a < 6 → b < 6 → f a b ≤ 9) (ht : t < 10) {a : Nat} (ha : a < M) {s s' : PK} (hs : pkIn (pk1 W (wrd f g r t (tld N q (d + 1)) su d) f) a (M - (a + 1)) (a + 1) s = s') {z y : Nat → Int64} (k12 : Int32 → Int64 → Int32 → Int32 → Int32 → (Nat → Int32) → (Nat → Int32) → (Nat → Int64) → (Nat → Int64) → Option ((Nat → Int32) × (Nat → Int32) × (Nat → Int64) × (Nat → Int64))) : ∃ z' y', fX1_hardenBy_30 Lru x1 x2 xr x17 x18 k12 (nI t) s.1 (pA s) (pB s) (nI a) (nI (a + 1)) xo x3 z y = k12 (nI t) s'.1 (pA s') (pB s') (nI (a + 1)) xo x3 z' y' := by
  refine loop10 (fX1_hardenBy_30b Lru x1 x2 xr x17 x18 k12) (fun m v3 v4 v6 v7 v8 v9 zo z3 _ _ => ∃ b u, b + m = M ∧ a < b ∧ v3 = nI t ∧ v4 = u.1 ∧ v6 = pA u ∧ v7 = pB u ∧ v8 = nI a ∧ v9 = nI b ∧ xo = zo ∧ x3 = z3 ∧ pkIn (pk1 W (wrd f g r t (tld N q (d + 1)) su d) f) a m b u = s') (fun o => ∃ z' y', o = k12 (nI t) s'.1 (pA s') (pB s') (nI (a + 1)) xo x3 z' y') ?_ ?_ (M - (a + 1)) 5000 _ _ _ _ _ _ _ _ _ _ (by omega) ⟨a + 1, s, by omega, by omega, rfl, rfl, rfl, rfl, rfl, rfl, rfl, rfl, hs⟩
  · rintro k m _ _ _ _ _ _ _ _ z y ⟨b, u, hb, hab, rfl, rfl, rfl, rfl, rfl, rfl, rfl, rfl, hu⟩
    have ha6 : a < 6 := by omega
    have hb6 : b < 6 := by omega
    have c2 : ¬ M ≤ b := by omega
    rcases p_can hx3 h9 ha6 hb6 with ⟨c, e, _⟩ | ⟨c, e, _⟩
    · obtain ⟨y', ey, hy⟩ := p_fill (y := y) hQ h3 hq hd hsu h0 h1 hx1 hx2 hx3 hg h9 ht ha6 hb6
      obtain ⟨z', ez⟩ := hW _ y' z hy
      by_cases c3 : W (wrd f g r t (tld N q (d + 1)) su d a b) ≤ u.1
      · refine Or.inl ⟨_, _, _, _, _, _, _, _, z', y', ⟨b + 1, u, by omega, by omega, rfl, rfl, rfl, rfl, rfl, rfl, rfl, rfl, ?_⟩, ?_⟩
        · rw [← hu]
          show _ = pkIn _ a m (b + 1) (pk1 _ _ f a b u)
          rw [show pk1 W (wrd f g r t (tld N q (d + 1)) su d) f a b u = u by unfold pk1; rw [if_pos c, if_pos c3]]
        · unfold fX1_hardenBy_30b fX1_hardenBy_93
          rw [h4, if_neg (nI_ge (show b < M by omega) (by omega)), e, bd1_s, if_neg (by decide), ey, bd1_s, ez, bd2_s, if_pos ((lg_cmp_le _ _).mpr c3), bn_s, nI_1]
      · refine Or.inl ⟨_, _, _, _, _, _, _, _, z', y', ⟨b + 1, (W (wrd f g r t (tld N q (d + 1)) su d a b), some (a, b)), by omega, by omega, rfl, rfl, rfl, rfl, rfl, rfl, rfl, rfl, ?_⟩, ?_⟩
        · rw [← hu]
          show _ = pkIn _ a m (b + 1) (pk1 _ _ f a b u)
          rw [show pk1 W (wrd f g r t (tld N q (d + 1)) su d) f a b u = (W (wrd f g r t (tld N q (d + 1)) su d a b), some (a, b)) by unfold pk1; rw [if_pos c, if_neg c3]]
        · unfold fX1_hardenBy_30b fX1_hardenBy_93
          rw [h4, if_neg (nI_ge (show b < M by omega) (by omega)), e, bd1_s, if_neg (by decide), ey, bd1_s, ez, bd2_s, if_neg (fun h => c3 ((lg_cmp_le _ _).mp h)), bn_s, nI_1]
          rfl
    · refine Or.inl ⟨_, _, _, _, _, _, _, _, z, y, ⟨b + 1, u, by omega, by omega, rfl, rfl, rfl, rfl, rfl, rfl, rfl, rfl, ?_⟩, ?_⟩
      · rw [← hu]
        show _ = pkIn _ a m (b + 1) (pk1 _ _ f a b u)
        rw [show pk1 W (wrd f g r t (tld N q (d + 1)) su d) f a b u = u by unfold pk1; rw [if_neg c]]
      · unfold fX1_hardenBy_30b fX1_hardenBy_93
        rw [h4, if_neg (nI_ge (show b < M by omega) (by omega)), e, bd1_s, if_pos z00, bn_s, nI_1]
  · rintro k _ _ _ _ _ _ _ _ z y ⟨b, u, hb, hab, rfl, rfl, rfl, rfl, rfl, rfl, rfl, rfl, hu⟩
    have eb : b = M := by omega
    subst eb
    refine ⟨z, y, ?_⟩
    unfold fX1_hardenBy_30b
    rw [h4, if_pos (nI_le (Nat.le_refl _) (by omega)), bn_s, nI_1, ← hu]
    rfl
theorem p_hardenBy {Lru : Nat} {xo x1 x2 x3 x17 x18 xr : Nat → Int32} {W : (Nat → Int64) → Int64} (hW : ∀ w y z, (∀ j, j < 12 → y j = w j) → ∃ z', fX4_worth Lru xr y z = some (W w, z')) (hM : M ≤ 6) (h4 : x17 4 = nI M) (hQ : VQ N q) (h3 : x17 3 = nI N) (hq : ∀ j, j < N → x18 j = nI (q j)) (hd : d < 1000000) (hsu : su ≤ 99) (hs0 : 0 < su) (h0 : xo 0 = nI d) (h1 : xo 1 = nI su) (hx1 : RP x1 g) (hx2 : RP x2 r) (hx3 : RH x3 f) (hg : ∀ h, h < 6 → g h ≤ 60 ∧ r h ≤ 9) (h9 : ∀ a b, a < 6 → b < 6 → f a b ≤ 9) (ht : t < 10) {z y : Nat → Int64} : ∃ xo' x3' z' y', fX1_hardenBy Lru x1 x2 xr x17 x18 (nI t) xo x3 z y = some (xo', x3', z', y') ∧ xo' 0 = xo 0 ∧ xo' 1 = nI (hdS su (pick W M f g r t (tld N q (d + 1)) su d).2) ∧ xo' 2 = xo 2 ∧ RH x3' (hdF f (pick W M f g r t (tld N q (d + 1)) su d).2) := by
  refine loop9 (fX1_hardenBy_12b Lru x1 x2 xr x17 x18) (fun m v3 v4 v6 v7 v8 zo z3 _ _ => ∃ a u, a + m = M ∧ v3 = nI t ∧ v4 = u.1 ∧ v6 = pA u ∧ v7 = pB u ∧ v8 = nI a ∧ xo = zo ∧ x3 = z3 ∧ pkOut (pk1 W (wrd f g r t (tld N q (d + 1)) su d) f) M m a u = pick W M f g r t (tld N q (d + 1)) su d) (fun o => ∃ xo' x3' z' y', o = some (xo', x3', z', y') ∧ xo' 0 = xo 0 ∧ xo' 1 = nI (hdS su (pick W M f g r t (tld N q (d + 1)) su d).2) ∧ xo' 2 = xo 2 ∧ RH x3' (hdF f (pick W M f g r t (tld N q (d + 1)) su d).2)) ?_ ?_ M 5000 _ _ _ _ _ _ _ _ _ (by omega) ⟨0, (0, none), by omega, rfl, rfl, rfl, rfl, rfl, rfl, rfl, rfl⟩
  · rintro k m _ _ _ _ _ _ _ z y ⟨a, u, ha, rfl, rfl, rfl, rfl, rfl, rfl, rfl, hu⟩
    obtain ⟨z', y', e⟩ := p_hbIn (s := u) (z := z) (y := y) hW hM h4 hQ h3 hq hd hsu h0 h1 hx1 hx2 hx3 hg h9 ht (show a < M by omega) rfl k
    refine Or.inl ⟨_, _, _, _, _, _, _, z', y', ⟨a + 1, _, by omega, rfl, rfl, rfl, rfl, rfl, rfl, rfl, hu⟩, ?_⟩
    rw [← e]
    unfold fX1_hardenBy_12b
    rw [h4, if_neg (nI_ge (show a < M by omega) (by omega)), bn_s, nI_1]
  · rintro k _ _ _ _ _ _ _ z y ⟨a, u, ha, rfl, rfl, rfl, rfl, rfl, rfl, rfl, hu⟩
    have eb : a = M := by omega
    subst eb
    have hG := pick_G (M := a) (f := f) (g := g) (r := r) (t := t) (su := su) (d := d) (W := W) (nx := tld N q (d + 1))
    rw [← hu] at hG ⊢
    unfold fX1_hardenBy_12b
    rw [h4, if_pos (nI_le (Nat.le_refl _) (by omega))]
    show ∃ (xo' x3' : Nat → Int32) (z' y' : Nat → Int64), _ ∧ _ ∧ xo' 1 = nI (hdS su u.2) ∧ _ ∧ RH x3' (hdF f u.2)
    have hG' : pG a f u := hG
    unfold pA pB
    cases hu2 : u.2 with
    | none =>
      rw [if_pos (by decide)]
      exact ⟨xo, x3, z, y, rfl, rfl, h1, rfl, hx3⟩
    | some ab =>
      obtain ⟨i, j⟩ := ab
      obtain ⟨hij, hj, c⟩ := hG' i j hu2
      have hi6 : i < 6 := by omega
      have hj6 : j < 6 := by omega
      obtain ⟨x', ex, hx'⟩ := p_setHard hx3 hi6 hj6 (f i j + 1)
      simp only
      rw [if_neg (nI_pos (by omega))]
      unfold fX7_harden fX7_harden_0
      rw [p_hardOf hx3 hi6 hj6, bd1_s, nI_1, ex, bd1_s, bd2_s]
      refine ⟨_, _, _, _, rfl, rfl, ?_, rfl, hx'⟩
      show xo 1 - 1 = nI (su - 1)
      rw [h1, zI1, nsub (by omega)]
section
variable {x74 x75 x76 x77 x78 x79 x92 x93 x94 x95 x96 x97 x101 : Nat → Int32} {y99 y100 : Nat → Int64}
theorem p_choIn {W : (Nat → Int64) → Int64} (hW : ∀ w y z, (∀ j, j < 12 → y j = w j) → ∃ z', fX12_wanted x75 x92 x93 x94 x95 x96 x97 y z = some (W w, z')) (hheat : fX12_heat x74 x75 x79 = some (nI t)) (hM : M ≤ 6) (h4 : x75 4 = nI M) (hQ : VQ N q) (h3 : x75 3 = nI N) (hq : ∀ j, j < N → x79 j = nI (q j)) (hd : d < 1000000) (hsu : su ≤ 99) (h0 : x75 5 = nI d) (h1 : x75 6 = nI su) (hx1 : RP x76 g) (hx2 : RP x77 r) (hx3 : RH x78 f) (hg : ∀ h, h < 6 → g h ≤ 60 ∧ r h ≤ 9) (h9 : ∀ a b, a < 6 → b < 6 → f a b ≤ 9) (ht : t < 10) {a : Nat} (ha : a < M) {s s' : PK} (hs : pkIn (pk1 W (wrd f g r t (tld N q (d + 1)) su d) f) a (M - (a + 1)) (a + 1) s = s') {z y : Nat → Int64} (k12 : Int32 → Int64 → Int32 → (Nat → Int32) → (Nat → Int64) → (Nat → Int64) → Option (Int32 × (Nat → Int32) × (Nat → Int64) × (Nat → Int64))) : ∃ y' z', fX12_choice_127 x75 x76 x77 x78 x79 x92 x93 x94 x95 x96 x97 k12 (pC s) s.1 (nI a) (nI (a + 1)) x74 y z = k12 (pC s') s'.1 (nI (a + 1)) x74 y' z' := by
  refine loop7 (fX12_choice_127b x75 x76 x77 x78 x79 x92 x93 x94 x95 x96 x97 k12) (fun m v1 v2 v4 v5 zo _ _ => ∃ b u, b + m = M ∧ a < b ∧ v1 = pC u ∧ v2 = u.1 ∧ v4 = nI a ∧ v5 = nI b ∧ x74 = zo ∧ pkIn (pk1 W (wrd f g r t (tld N q (d + 1)) su d) f) a m b u = s') (fun o => ∃ y' z', o = k12 (pC s') s'.1 (nI (a + 1)) x74 y' z') ?_ ?_ (M - (a + 1)) 5000 _ _ _ _ _ _ _ (by omega) ⟨a + 1, s, by omega, by omega, rfl, rfl, rfl, rfl, rfl, hs⟩
  · rintro k m _ _ _ _ _ y z ⟨b, u, hb, hab, rfl, rfl, rfl, rfl, rfl, hu⟩
    have ha6 : a < 6 := by omega
    have hb6 : b < 6 := by omega
    have c2 : ¬ M ≤ b := by omega
    rcases p_can hx3 h9 ha6 hb6 with ⟨c, _, e⟩ | ⟨c, _, e⟩
    · obtain ⟨y', z', ey⟩ := p_sumOf (y99 := y) (y100 := z) hW hheat hQ h3 hq hd hsu h0 h1 hx1 hx2 hx3 hg h9 ht ha6 hb6
      by_cases c3 : W (wrd f g r t (tld N q (d + 1)) su d a b) ≤ u.1
      · refine Or.inl ⟨_, _, _, _, _, y', z', ⟨b + 1, u, by omega, by omega, rfl, rfl, rfl, rfl, rfl, ?_⟩, ?_⟩
        · rw [← hu]
          show _ = pkIn _ a m (b + 1) (pk1 _ _ f a b u)
          rw [show pk1 W (wrd f g r t (tld N q (d + 1)) su d) f a b u = u by unfold pk1; rw [if_pos c, if_pos c3]]
        · unfold fX12_choice_127b fX12_choice_178
          rw [gd_t i4, n4', h4, if_neg (nI_ge (show b < M by omega) (by omega)), e, bd1_s, if_neg (by decide), ey, bd3_s, if_pos ((lg_cmp_le _ _).mpr c3), bn_s, nI_1]
      · refine Or.inl ⟨_, _, _, _, _, y', z', ⟨b + 1, (W (wrd f g r t (tld N q (d + 1)) su d a b), some (a, b)), by omega, by omega, rfl, rfl, rfl, rfl, rfl, ?_⟩, ?_⟩
        · rw [← hu]
          show _ = pkIn _ a m (b + 1) (pk1 _ _ f a b u)
          rw [show pk1 W (wrd f g r t (tld N q (d + 1)) su d) f a b u = (W (wrd f g r t (tld N q (d + 1)) su d a b), some (a, b)) by unfold pk1; rw [if_pos c, if_neg c3]]
        · unfold fX12_choice_127b fX12_choice_178
          rw [gd_t i4, n4', h4, if_neg (nI_ge (show b < M by omega) (by omega)), e, bd1_s, if_neg (by decide), ey, bd3_s, if_neg (fun h => c3 ((lg_cmp_le _ _).mp h)), bn_s, bn_s, nI_1, zI8, pk_mul, nI_add]
          rfl
    · refine Or.inl ⟨_, _, _, _, _, y, z, ⟨b + 1, u, by omega, by omega, rfl, rfl, rfl, rfl, rfl, ?_⟩, ?_⟩
      · rw [← hu]
        show _ = pkIn _ a m (b + 1) (pk1 _ _ f a b u)
        rw [show pk1 W (wrd f g r t (tld N q (d + 1)) su d) f a b u = u by unfold pk1; rw [if_neg c]]
      · unfold fX12_choice_127b fX12_choice_178
        rw [gd_t i4, n4', h4, if_neg (nI_ge (show b < M by omega) (by omega)), e, bd1_s, if_pos z00, bn_s, nI_1]
  · rintro k _ _ _ _ _ y z ⟨b, u, hb, hab, rfl, rfl, rfl, rfl, rfl, hu⟩
    have eb : b = M := by omega
    subst eb
    refine ⟨y, z, ?_⟩
    unfold fX12_choice_127b
    rw [gd_t i4, n4', h4, if_pos (nI_le (Nat.le_refl _) (by omega)), bn_s, nI_1, ← hu]
    rfl
theorem p_choice {W : (Nat → Int64) → Int64} (hW : ∀ w y z, (∀ j, j < 12 → y j = w j) → ∃ z', fX12_wanted x75 x92 x93 x94 x95 x96 x97 y z = some (W w, z')) (hfree : x74 38 = -5) (h10 : x75 10 ≠ -1) (hs0 : 0 < su) (hheat : fX12_heat x74 x75 x79 = some (nI t)) (hM : M ≤ 6) (h4 : x75 4 = nI M) (hQ : VQ N q) (h3 : x75 3 = nI N) (hq : ∀ j, j < N → x79 j = nI (q j)) (hd : d < 1000000) (hsu : su ≤ 99) (h0 : x75 5 = nI d) (h1 : x75 6 = nI su) (hx1 : RP x76 g) (hx2 : RP x77 r) (hx3 : RH x78 f) (hg : ∀ h, h < 6 → g h ≤ 60 ∧ r h ≤ 9) (h9 : ∀ a b, a < 6 → b < 6 → f a b ≤ 9) (ht : t < 10) : ∃ y' z', fX12_choice x75 x76 x77 x78 x79 x92 x93 x94 x95 x96 x97 x74 y99 y100 = some (pC (pick W M f g r t (tld N q (d + 1)) su d), x74, y', z') := by
  unfold fX12_choice fX12_choice_0
  rw [if_pos hfree, gd_t i6, n6', h1, if_neg (ne0 (show su ≠ 0 by omega) (by omega)), gd_t i10, n10', if_neg h10]
  refine loop6 (fX12_choice_110b x75 x76 x77 x78 x79 x92 x93 x94 x95 x96 x97) (fun m v1 v2 v4 zo _ _ => ∃ a u, a + m = M ∧ v1 = pC u ∧ v2 = u.1 ∧ v4 = nI a ∧ x74 = zo ∧ pkOut (pk1 W (wrd f g r t (tld N q (d + 1)) su d) f) M m a u = pick W M f g r t (tld N q (d + 1)) su d) (fun o => ∃ y' z', o = some (pC (pick W M f g r t (tld N q (d + 1)) su d), x74, y', z')) ?_ ?_ M 5000 _ _ _ _ _ _ (by omega) ⟨0, (0, none), by omega, rfl, rfl, rfl, rfl, rfl⟩
  · rintro k m _ _ _ _ y z ⟨a, u, ha, rfl, rfl, rfl, rfl, hu⟩
    obtain ⟨y', z', e⟩ := p_choIn (s := u) (z := z) (y := y) hW hheat hM h4 hQ h3 hq hd hsu h0 h1 hx1 hx2 hx3 hg h9 ht (show a < M by omega) rfl k
    refine Or.inl ⟨_, _, _, _, y', z', ⟨a + 1, _, by omega, rfl, rfl, rfl, rfl, hu⟩, ?_⟩
    rw [← e]
    unfold fX12_choice_110b
    rw [gd_t i4, n4', h4, if_neg (nI_ge (show a < M by omega) (by omega)), bn_s, nI_1]
  · rintro k _ _ _ _ y z ⟨a, u, ha, rfl, rfl, rfl, rfl, hu⟩
    have eb : a = M := by omega
    subst eb
    refine ⟨y, z, ?_⟩
    unfold fX12_choice_110b
    rw [gd_t i4, n4', h4, if_pos (nI_le (Nat.le_refl _) (by omega)), ← hu]
    rfl
theorem p_choice0 (hfree : x74 38 = -5) (h : x75 10 = -1 ∨ x75 6 = 0) : fX12_choice x75 x76 x77 x78 x79 x92 x93 x94 x95 x96 x97 x74 y99 y100 = some (-1, x74, y99, y100) := by
  unfold fX12_choice fX12_choice_0
  rw [if_pos hfree, gd_t i6, n6']
  by_cases c : x75 6 = 0
  · rw [if_pos c]
  · rw [if_neg c, gd_t i10, n10', if_pos (h.resolve_right c)]
end
end CHO

/-- the town in the class's cells, and in the reference's -/
def TC (H M K N : Nat) (q : Nat → Nat) (x17 x18 : Nat → Int32) : Prop := VQ N q ∧ K ≤ 9 ∧ x17 0 = nI H ∧ x17 1 = nI K ∧ x17 3 = nI N ∧ x17 4 = nI M ∧ ∀ j, j < N → x18 j = nI (q j)
def TR (H M K N : Nat) (q : Nat → Nat) (x75 x79 : Nat → Int32) : Prop := VQ N q ∧ K ≤ 9 ∧ x75 0 = nI H ∧ x75 2 = nI K ∧ x75 3 = nI N ∧ x75 4 = nI M ∧ ∀ j, j < N → x79 j = nI (q j)
abbrev RR (S : SN) (x75 x76 x77 x78 : Nat → Int32) : Prop := RC S (fun j => x75 (5 + j)) x76 x77 x78
abbrev WW : Type := Option ((Nat → Int64) → Int64)
def CW (Lru : Nat) (xr : Nat → Int32) (W : (Nat → Int64) → Int64) : Prop := ∀ w y z, (∀ j, j < 12 → y j = w j) → ∃ z', fX4_worth Lru xr y z = some (W w, z')
def RW (c : Int32) (x92 x93 x94 x95 x96 x97 : Nat → Int32) (W : WW) : Prop := match W with
  | none => c = -1
  | some W => c ≠ -1 ∧ ∀ x75 : Nat → Int32, x75 10 = c → ∀ w y z, (∀ j, j < 12 → y j = w j) → ∃ z', fX12_wanted x75 x92 x93 x94 x95 x96 x97 y z = some (W w, z')
section PASS
variable {H M K N B t : Nat} {q : Nat → Nat} {S : SN} {W : WW}
/-- a day at a heat, a day by what was told, days -/
def stp (H M K N : Nat) (q : Nat → Nat) (W : WW) (t : Nat) (S : SN) : SN := stepS H M K (tld N q (S 0 + 1)) t (pkS W M (tld N q (S 0 + 1)) t S).2 S
def gon (H M N : Nat) (q : Nat → Nat) (W : WW) (t : Nat) (S : SN) : Nat := gone H M t (pkS W M (tld N q (S 0 + 1)) t S).2 S
def hS (N : Nat) (q : Nat → Nat) (S : SN) : Nat := hot N q (S 0) (S 2)
def run (H M K N : Nat) (q : Nat → Nat) (W : WW) : Nat → SN → SN
  | 0, S => S
  | n + 1, S => run H M K N q W n (stp H M K N q W (hS N q S) S)
theorem VD_stp (hK : K ≤ 9) (hV : VD H M B S) : VD H M (B + 1) (stp H M K N q W t S) := VD_step hK hV pkS_G
theorem p_meltS {x17 xo x1 x2 x3 x33 : Nat → Int32} {P : PK} {d su ic : Nat} {g r : Nat → Nat} {f : Nat → Nat → Nat} (hV : VG H M g r (hdF f P.2)) (ht : t < 10) (h0 : x17 0 = nI H) (h1 : x17 1 = nI K) (h4 : x17 4 = nI M) (hd : xo 0 = nI d) (hsu : xo 1 = nI su) (hic : xo 2 = nI ic) (hi9 : ic ≤ 9) (hx1 : RP x1 g) (hx2 : RP x2 r) (hx3 : RH x3 (hdF f P.2)) : ∃ xo' y1 y2 y3 z, fX1_melt x17 (nI t) xo x1 x2 x3 x33 = some (nI (pcnt (dwn (sk H M t g r (hdF f P.2)))), xo', y1, y2, y3, z) ∧ RC (mkS (d + 1) su (ic - 1) (g2 H M t g r (hdF f P.2)) (r2 M H (g2 H M t g r (hdF f P.2)) r) (f3 M H K (g2 H M t g r (hdF f P.2)) (sk H M t g r (hdF f P.2)) (f2 M H (g2 H M t g r (hdF f P.2)) (hdF f P.2)))) xo' y1 y2 y3 := by
  obtain ⟨xo', y1, y2, y3, z, e, a0, a1, a2, b1, b2, b3⟩ := p_melt (x33 := x33) hV ht h0 h1 h4 hd hic hi9 hx1 hx2 hx3
  exact ⟨xo', y1, y2, y3, z, e, RC_mk a0 (a1.trans hsu) a2 b1 b2 b3⟩
theorem bd6_s {A B C D E F R : Type} (a : A) (b : B) (c : C) (d : D) (e : E) (f : F) (k : A → B → C → D → E → F → Option R) : bd6 (some (a, b, c, d, e, f)) k = k a b c d e f := rfl
theorem bd8_s {A B C D E F G I R : Type} (a : A) (b : B) (c : C) (d : D) (e : E) (f : F) (g : G) (i : I) (k : A → B → C → D → E → F → G → I → Option R) : bd8 (some (a, b, c, d, e, f, g, i)) k = k a b c d e f g i := rfl
theorem bd9_s {A B C D E F G I J R : Type} (a : A) (b : B) (c : C) (d : D) (e : E) (f : F) (g : G) (i : I) (j : J) (k : A → B → C → D → E → F → G → I → J → Option R) : bd9 (some (a, b, c, d, e, f, g, i, j)) k = k a b c d e f g i j := rfl
theorem p_passN {x17 x18 xo x1 x2 x3 x33 : Nat → Int32} (hV : VD H M B S) (hT : TC H M K N q x17 x18) (ht : t < 10) (hR : RC S xo x1 x2 x3) : ∃ xo' y1 y2 y3 z, fX1_passN x17 (nI t) xo x1 x2 x3 x33 = some (nI (gon H M N q none t S), xo', y1, y2, y3, z) ∧ RC (stp H M K N q none t S) xo' y1 y2 y3 := by
  obtain ⟨hQ, hK, h0, h1, h3, h4, hq⟩ := hT
  obtain ⟨v, v1, v2, v3, v4, v5⟩ := hV
  obtain ⟨xo', y1, y2, y3, z, e, hr⟩ := p_meltS (P := (0, none)) (x33 := x33) v ht h0 h1 h4 (hR.1 0 (by omega)) (hR.1 1 (by omega)) (hR.1 2 (by omega)) v5 (RC_p hR) (RC_r hR) (RC_h hR)
  refine ⟨xo', y1, y2, y3, z, ?_, hr⟩
  unfold fX1_passN fX1_passN_0
  rw [e, bd6_s]
  rfl
theorem p_passR {Lru : Nat} {x17 x18 xo x1 x2 x3 x33 xr : Nat → Int32} {W : (Nat → Int64) → Int64} {z y : Nat → Int64} (hW : CW Lru xr W) (hV : VD H M B S) (hB : B < 999999) (hT : TC H M K N q x17 x18) (ht : t < 10) (hR : RC S xo x1 x2 x3) : ∃ xo' y1 y2 y3 z33 z' y', fX1_passR Lru xr x17 x18 (nI t) xo x1 x2 x3 x33 z y = some (nI (gon H M N q (some W) t S), xo', y1, y2, y3, z33, z', y') ∧ RC (stp H M K N q (some W) t S) xo' y1 y2 y3 := by
  obtain ⟨hQ, hK, h0, h1, h3, h4, hq⟩ := hT
  obtain ⟨v, v1, v2, v3, v4, v5⟩ := id hV
  obtain ⟨hM, hH5, hH, hgr, hr0, hf9, hf0, hfr⟩ := id v
  have r0 := hR.1 0 (by omega)
  have r1 := hR.1 1 (by omega)
  have r2' := hR.1 2 (by omega)
  unfold fX1_passR fX1_passR_0 stp gon
  by_cases c : S 1 = 0
  · obtain ⟨xo', y1, y2, y3, z33, e, hr⟩ := p_meltS (P := (0, none)) (x33 := x33) v ht h0 h1 h4 r0 r1 r2' v5 (RC_p hR) (RC_r hR) (RC_h hR)
    have ep : pkS (some W) M (tld N q (S 0 + 1)) t S = (0, none) := by
      unfold pkS
      simp only [if_pos c]
    refine ⟨xo', y1, y2, y3, z33, z, y, ?_, by rw [ep]; exact hr⟩
    rw [r1, c, if_pos (le0 (Nat.le_refl 0)), ep]
    unfold fX1_passR_18
    rw [e, bd6_s]
    rfl
  · have ep : pkS (some W) M (tld N q (S 0 + 1)) t S = pick W M (sHd S) (sPl S) (sRk S) t (tld N q (S 0 + 1)) (S 1) (S 0) := by
      unfold pkS
      simp only [if_neg c]
    obtain ⟨zo, u3, z', y', e1, a0, a1, a2, a3⟩ := p_hardenBy (z := z) (y := y) hW hM h4 hQ h3 hq (show S 0 < 1000000 by omega) v4 (by omega) r0 r1 (RC_p hR) (RC_r hR) (RC_h hR) (fun h hh => by have := hgr h hh; omega) (fun a b ha hb => (hf9 a b ha hb).1) ht
    rw [← ep] at a1 a3
    obtain ⟨xo', y1, y2, y3, z33, e, hr⟩ := p_meltS (P := pkS (some W) M (tld N q (S 0 + 1)) t S) (x33 := x33) (VG_hd v pkS_G) ht h0 h1 h4 (a0.trans r0) a1 (a2.trans r2') v5 (RC_p hR) (RC_r hR) a3
    refine ⟨xo', y1, y2, y3, z33, z', y', ?_, hr⟩
    rw [r1, if_neg (nle0 (by omega) (by omega)), e1, bd4_s]
    unfold fX1_passR_18
    rw [e, bd6_s]
    rfl
section
variable {x74 x75 x76 x77 x78 x79 x92 x93 x94 x95 x96 x97 x101 : Nat → Int32} {y99 y100 : Nat → Int64}
/-- which heat the reference goes by -/
def HT (N : Nat) (q : Nat → Nat) (x74 : Nat → Int32) (S : SN) (t : Nat) : Prop := (x74 37 = nI t ∧ t ≤ 9) ∨ (x74 37 = -1 ∧ t = hS N q S)
theorem p_heatH {d ic : Nat} (hT : TR H M K N q x75 x79) (hH : HT N q x74 S t) (h5 : x75 5 = nI (S 0)) (h7 : x75 7 = nI (S 2)) (hd : S 0 < 1000000) (hi : S 2 ≤ 9) : fX12_heat x74 x75 x79 = some (nI t) ∧ t ≤ 9 := by
  obtain ⟨hQ, hK, h0, h2, h3, h4, hq⟩ := hT
  rcases hH with ⟨a, b⟩ | ⟨a, rfl⟩
  · exact ⟨p_heatD a b, b⟩
  · exact ⟨p_heatR hQ a h3 hq (by omega) h5 h7 hi, hot_9 hQ⟩
theorem p_goesP {P : PK} (hV : VD H M B S) (hB : B < 999999) (hT : TR H M K N q x75 x79) (hH : HT N q x74 S t) (hR : RR S x75 x76 x77 x78) (hP : pG M (sHd S) P) (hs : P.2 ≠ none → 0 < S 1) {y99' y100' : Nat → Int64} {x74' : Nat → Int32} (h74 : x74' 37 = x74 37) (hch : fX12_choice x75 x76 x77 x78 x79 x92 x93 x94 x95 x96 x97 x74 y99 y100 = some (pC P, x74', y99', y100')) : ∃ z75 z76 z77 z78 z101, fX12_goes x79 x92 x93 x94 x95 x96 x97 x74 x75 x76 x77 x78 x101 y99 y100 = some (nI (gone H M t P.2 S), x74', z75, z76, z77, z78, z101, y99', y100') ∧ RR (stepS H M K (tld N q (S 0 + 1)) t P.2 S) z75 z76 z77 z78 ∧ ∀ j, j < 5 ∨ 8 ≤ j → z75 j = x75 j := by
  obtain ⟨hQ, hK, h0, h2, h3, h4, hq⟩ := id hT
  obtain ⟨v, v1, v2, v3, v4, v5⟩ := id hV
  obtain ⟨hM, hH5, hH', hgr, hr0, hf9, hf0, hfr⟩ := id v
  have r0 : x75 5 = nI (S 0) := hR.1 0 (by omega)
  have r1 : x75 6 = nI (S 1) := hR.1 1 (by omega)
  have r2' : x75 7 = nI (S 2) := hR.1 2 (by omega)
  have vh := VG_hd v hP
  have hH2 : HT N q x74' S t := by unfold HT; rw [h74]; exact hH
  unfold fX12_goes fX12_goes_0
  rw [hch, bd4_s]
  cases hu : P.2 with
  | none =>
    rw [hu] at vh
    obtain ⟨e, t9⟩ := p_heatH (d := 0) (ic := 0) hT hH2 r0 r2' (by omega) v5
    obtain ⟨z1, z2, z3, z, eg, b1, b2, b3⟩ := p_go52 (x92 := x92) (x93 := x93) (x94 := x94) (x95 := x95) (x96 := x96) (x97 := x97) (x101 := x101) (y99 := y99') (y100 := y100') vh (by omega) e h0 h2 h4 r0 r2' v5 (RC_p hR) (RC_r hR) (RC_h hR)
    have ec : pC P = -1 := by unfold pC; rw [hu]
    rw [ec, if_pos rfl]
    refine ⟨_, z1, z2, z3, z, eg, RC_mk rfl r1 rfl b1 b2 b3, fun j hj => ?_⟩
    rw [pk_un (by omega), pk_un (by omega)]
  | some ab =>
    obtain ⟨a, b⟩ := ab
    obtain ⟨hab, hb, c⟩ := hP a b hu
    rw [hu] at vh
    have s0 := hs (by rw [hu]; intro h; cases h)
    have ec : pC P = nI (8 * a + b) := by unfold pC; rw [hu]
    have ha6 : a < 6 := by omega
    have hb6 : b < 6 := by omega
    obtain ⟨u, eu, hu3⟩ := p_joins (RC_h hR) ha6 hb6 (sHd S a b + 1)
    have n1 : ¬ nI (8 * a + b) = -1 := by
      have : ∀ a, a < 6 → ∀ b, b < 6 → ¬ nI (8 * a + b) = -1 := by decide +kernel
      exact this a ha6 b hb6
    have e5 : upd x75 6 (nI (S 1 - 1)) 5 = nI (S 0) := r0
    have e7 : upd x75 6 (nI (S 1 - 1)) 7 = nI (S 2) := r2'
    have hT2 : TR H M K N q (upd x75 6 (nI (S 1 - 1))) x79 := ⟨hQ, hK, h0, h2, h3, h4, hq⟩
    obtain ⟨e, t9⟩ := p_heatH (d := 0) (ic := 0) hT2 hH2 e5 e7 (by omega) v5
    obtain ⟨z1, z2, z3, z, eg, b1, b2, b3⟩ := p_go52 (x75 := upd x75 6 (nI (S 1 - 1))) (x92 := x92) (x93 := x93) (x94 := x94) (x95 := x95) (x96 := x96) (x97 := x97) (x101 := x101) (y99 := y99') (y100 := y100') vh (by omega) e h0 h2 h4 e5 e7 v5 (RC_p hR) (RC_r hR) hu3
    refine ⟨upd (upd (upd x75 6 (nI (S 1 - 1))) 7 (nI (S 2 - 1))) 5 (nI (S 0 + 1)), z1, z2, z3, z, ?_, RC_mk rfl rfl rfl b1 b2 b3, fun j hj => ?_⟩
    rotate_left
    · rw [pk_un (by omega), pk_un (by omega), pk_un (by omega)]
    · rw [ec, if_neg n1, zI8, pk_rem (by omega) (by omega) (by omega), pk_div (by omega) (by omega) (by omega), show (8 * a + b) / 8 = a by omega, show (8 * a + b) % 8 = b by omega, ixR, gd_t (inbH ha6 hb6), clH ha6 hb6, RC_h hR a b ha6 hb6, nI_1, eu, bd1_s, gd_t i6, gd_t i6, n6', r1, zI1, nsub (by omega), eg]
      rfl
theorem p_goes (hV : VD H M B S) (hB : B < 999999) (hT : TR H M K N q x75 x79) (hfree : x74 38 = -5) (hH : HT N q x74 S t) (hR : RR S x75 x76 x77 x78) (hW : RW (x75 10) x92 x93 x94 x95 x96 x97 W) : ∃ z75 z76 z77 z78 z101 y99' y100', fX12_goes x79 x92 x93 x94 x95 x96 x97 x74 x75 x76 x77 x78 x101 y99 y100 = some (nI (gon H M N q W t S), x74, z75, z76, z77, z78, z101, y99', y100') ∧ RR (stp H M K N q W t S) z75 z76 z77 z78 ∧ ∀ j, j < 5 ∨ 8 ≤ j → z75 j = x75 j := by
  obtain ⟨hQ, hK, h0, h2, h3, h4, hq⟩ := id hT
  obtain ⟨v, v1, v2, v3, v4, v5⟩ := id hV
  obtain ⟨hM, hH5, hH', hgr, hr0, hf9, hf0, hfr⟩ := id v
  have r0 : x75 5 = nI (S 0) := hR.1 0 (by omega)
  have r1 : x75 6 = nI (S 1) := hR.1 1 (by omega)
  have r2' : x75 7 = nI (S 2) := hR.1 2 (by omega)
  have e0 : ∀ Q : PK, Q.2 = none → pC Q = -1 := fun Q h => by unfold pC; rw [h]
  have key : ∃ y99' y100', fX12_choice x75 x76 x77 x78 x79 x92 x93 x94 x95 x96 x97 x74 y99 y100 = some (pC (pkS W M (tld N q (S 0 + 1)) t S), x74, y99', y100') ∧ ((pkS W M (tld N q (S 0 + 1)) t S).2 ≠ none → 0 < S 1) := by
    cases W with
    | none => exact ⟨_, _, p_choice0 hfree (Or.inl hW), fun h => absurd rfl h⟩
    | some W =>
      unfold pkS
      by_cases c : S 1 = 0
      · simp only [if_pos c]
        exact ⟨_, _, p_choice0 hfree (Or.inr (by rw [r1, c]; rfl)), fun h => absurd rfl h⟩
      · simp only [if_neg c]
        obtain ⟨e, t9⟩ := p_heatH (d := 0) (ic := 0) hT hH r0 r2' (by omega) v5
        obtain ⟨y', z', ec⟩ := p_choice (x92 := x92) (x93 := x93) (x94 := x94) (x95 := x95) (x96 := x96) (x97 := x97) (y99 := y99) (y100 := y100) (hW.2 x75 rfl) hfree hW.1 (show 0 < S 1 by omega) e hM h4 hQ h3 hq (show S 0 < 1000000 by omega) v4 r0 r1 (RC_p hR) (RC_r hR) (RC_h hR) (fun h hh => by have := hgr h hh; omega) (fun a b ha hb => (hf9 a b ha hb).1) (show t < 10 by omega)
        exact ⟨y', z', ec, fun _ => by omega⟩
  obtain ⟨y', z', ec, hs⟩ := key
  obtain ⟨z75, z76, z77, z78, z101, e, hr, hf⟩ := p_goesP (x101 := x101) hV hB hT hH hR pkS_G hs rfl ec
  exact ⟨z75, z76, z77, z78, z101, y', z', e, hr, hf⟩
theorem TR_fr {z75 : Nat → Int32} (hT : TR H M K N q x75 x79) (h : ∀ j, j < 5 ∨ 8 ≤ j → z75 j = x75 j) : TR H M K N q z75 x79 := by
  obtain ⟨hQ, hK, h0, h2, h3, h4, hq⟩ := hT
  exact ⟨hQ, hK, (h 0 (by omega)).trans h0, (h 2 (by omega)).trans h2, (h 3 (by omega)).trans h3, (h 4 (by omega)).trans h4, hq⟩
theorem p_goFor {n : Nat} (hn : n ≤ 1000) (hV : VD H M B S) (hB : B + n < 999999) (hT : TR H M K N q x75 x79) (hfree : x74 38 = -5) (hdr : x74 37 = -1) (hR : RR S x75 x76 x77 x78) (hW : RW (x75 10) x92 x93 x94 x95 x96 x97 W) : ∃ z75 z76 z77 z78 z101 y99' y100', fX12_goFor x79 x92 x93 x94 x95 x96 x97 (nI n) x74 x75 x76 x77 x78 x101 y99 y100 = some (x74, z75, z76, z77, z78, z101, y99', y100') ∧ RR (run H M K N q W n S) z75 z76 z77 z78 ∧ ∀ j, j < 5 ∨ 8 ≤ j → z75 j = x75 j := by
  refine loop10 (fX12_goFor_2b x79 x92 x93 x94 x95 x96 x97) (fun m v1 v2 z74 z75 z76 z77 z78 _ _ _ => ∃ i S', i + m = n ∧ v1 = nI n ∧ v2 = nI i ∧ x74 = z74 ∧ VD H M (B + i) S' ∧ RR S' z75 z76 z77 z78 ∧ (∀ j, j < 5 ∨ 8 ≤ j → z75 j = x75 j) ∧ run H M K N q W m S' = run H M K N q W n S) (fun o => ∃ z75 z76 z77 z78 z101 y99' y100', o = some (x74, z75, z76, z77, z78, z101, y99', y100') ∧ RR (run H M K N q W n S) z75 z76 z77 z78 ∧ ∀ j, j < 5 ∨ 8 ≤ j → z75 j = x75 j) ?_ ?_ n 5000 _ _ _ _ _ _ _ _ _ _ (by omega) ⟨0, S, by omega, rfl, rfl, rfl, hV, hR, fun _ _ => rfl, rfl⟩
  · rintro k m _ _ _ z75 z76 z77 z78 z101 y99 y100 ⟨i, S', hi, rfl, rfl, rfl, hV', hR', hf, hu⟩
    obtain ⟨w75, w76, w77, w78, w101, w99, w100, e, hr, hfr⟩ := p_goes (x101 := z101) (y99 := y99) (y100 := y100) hV' (by omega) (TR_fr hT hf) hfree (Or.inr ⟨hdr, rfl⟩) hR' (by rw [hf 10 (by omega)]; exact hW)
    refine Or.inl ⟨_, _, _, w75, w76, w77, w78, w101, w99, w100, ⟨i + 1, _, by omega, rfl, rfl, rfl, VD_stp hT.2.1 hV', hr, fun j hj => (hfr j hj).trans (hf j hj), hu⟩, ?_⟩
    unfold fX12_goFor_2b
    rw [if_neg (nI_ge (show i < n by omega) (by omega)), e, bd9_s, bn_s, nI_1]
  · rintro k _ _ _ z75 z76 z77 z78 z101 y99 y100 ⟨i, S', hi, rfl, rfl, rfl, hV', hR', hf, hu⟩
    have ei : i = n := by omega
    subst ei
    refine ⟨z75, z76, z77, z78, z101, y99, y100, ?_, by rw [← hu]; exact hR', hf⟩
    unfold fX12_goFor_2b
    rw [if_pos (nI_le (Nat.le_refl _) (by omega))]
end
theorem p_passAllN {n : Nat} {x17 x18 xo x1 x2 x3 x33 : Nat → Int32} (hn : n ≤ 1000) (hV : VD H M B S) (hB : B + n < 999999) (hT : TC H M K N q x17 x18) (hR : RC S xo x1 x2 x3) : ∃ xo' y1 y2 y3 z, fX1_passAllN x17 x18 (nI n) xo x1 x2 x3 x33 = some (xo', y1, y2, y3, z) ∧ RC (run H M K N q none n S) xo' y1 y2 y3 := by
  refine loop7 (fX1_passAllN_3b x17 x18) (fun m v3 v4 zo z1 z2 z3 _ => ∃ i S', i + m = n ∧ v3 = nI n ∧ v4 = nI i ∧ VD H M (B + i) S' ∧ RC S' zo z1 z2 z3 ∧ run H M K N q none m S' = run H M K N q none n S) (fun o => ∃ xo' y1 y2 y3 z, o = some (xo', y1, y2, y3, z) ∧ RC (run H M K N q none n S) xo' y1 y2 y3) ?_ ?_ n 5000 _ _ _ _ _ _ _ (by omega) ⟨0, S, by omega, rfl, rfl, hV, hR, rfl⟩
  · rintro k m _ _ zo z1 z2 z3 z33 ⟨i, S', hi, rfl, rfl, hV', hR', hu⟩
    obtain ⟨hQ, hK, h0, h1, h3, h4, hq⟩ := id hT
    have hd : S' 0 ≤ B + i := hV'.2.2.2.1
    have hh := p_heatOf hQ h3 hq (show S' 0 < 2147483648 by omega) (hR'.1 0 (by omega)) (hR'.1 2 (by omega)) hV'.2.2.2.2.2
    have h9 := hot_9 (d := S' 0) (ic := S' 2) hQ
    obtain ⟨w0, w1, w2, w3, w33, e, hr⟩ := p_passN (t := hot N q (S' 0) (S' 2)) (x33 := z33) hV' hT (by omega) hR'
    refine Or.inl ⟨_, _, w0, w1, w2, w3, w33, ⟨i + 1, _, by omega, rfl, rfl, VD_stp hK hV', hr, hu⟩, ?_⟩
    unfold fX1_passAllN_3b
    rw [if_neg (nI_ge (show i < n by omega) (by omega)), hh, bd1_s, e, bd6_s, bn_s, nI_1]
  · rintro k _ _ zo z1 z2 z3 z33 ⟨i, S', hi, rfl, rfl, hV', hR', hu⟩
    have ei : i = n := by omega
    subst ei
    refine ⟨zo, z1, z2, z3, z33, ?_, by rw [← hu]; exact hR'⟩
    unfold fX1_passAllN_3b
    rw [if_pos (nI_le (Nat.le_refl _) (by omega))]
theorem p_passAllR {n Lru : Nat} {x17 x18 xo x1 x2 x3 x33 xr : Nat → Int32} {W : (Nat → Int64) → Int64} {z y : Nat → Int64} (hn : n ≤ 1000) (hW : CW Lru xr W) (hV : VD H M B S) (hB : B + n < 999999) (hT : TC H M K N q x17 x18) (hR : RC S xo x1 x2 x3) : ∃ xo' y1 y2 y3 z33 z' y', fX1_passAllR Lru xr x17 x18 (nI n) xo x1 x2 x3 x33 z y = some (xo', y1, y2, y3, z33, z', y') ∧ RC (run H M K N q (some W) n S) xo' y1 y2 y3 := by
  refine loop9 (fX1_passAllR_3b Lru xr x17 x18) (fun m v3 v4 zo z1 z2 z3 _ _ _ => ∃ i S', i + m = n ∧ v3 = nI n ∧ v4 = nI i ∧ VD H M (B + i) S' ∧ RC S' zo z1 z2 z3 ∧ run H M K N q (some W) m S' = run H M K N q (some W) n S) (fun o => ∃ xo' y1 y2 y3 z33 z' y', o = some (xo', y1, y2, y3, z33, z', y') ∧ RC (run H M K N q (some W) n S) xo' y1 y2 y3) ?_ ?_ n 5000 _ _ _ _ _ _ _ _ _ (by omega) ⟨0, S, by omega, rfl, rfl, hV, hR, rfl⟩
  · rintro k m _ _ zo z1 z2 z3 z33 zz yy ⟨i, S', hi, rfl, rfl, hV', hR', hu⟩
    obtain ⟨hQ, hK, h0, h1, h3, h4, hq⟩ := id hT
    have hd : S' 0 ≤ B + i := hV'.2.2.2.1
    have hh := p_heatOf hQ h3 hq (show S' 0 < 2147483648 by omega) (hR'.1 0 (by omega)) (hR'.1 2 (by omega)) hV'.2.2.2.2.2
    have h9 := hot_9 (d := S' 0) (ic := S' 2) hQ
    obtain ⟨w0, w1, w2, w3, w33, wz, wy, e, hr⟩ := p_passR (t := hot N q (S' 0) (S' 2)) (x33 := z33) (z := zz) (y := yy) hW hV' (by omega) hT (by omega) hR'
    refine Or.inl ⟨_, _, w0, w1, w2, w3, w33, wz, wy, ⟨i + 1, _, by omega, rfl, rfl, VD_stp hK hV', hr, hu⟩, ?_⟩
    unfold fX1_passAllR_3b
    rw [if_neg (nI_ge (show i < n by omega) (by omega)), hh, bd1_s, e, bd8_s, bn_s, nI_1]
  · rintro k _ _ zo z1 z2 z3 z33 zz yy ⟨i, S', hi, rfl, rfl, hV', hR', hu⟩
    have ei : i = n := by omega
    subst ei
    refine ⟨zo, z1, z2, z3, z33, zz, yy, ?_, by rw [← hu]; exact hR'⟩
    unfold fX1_passAllR_3b
    rw [if_pos (nI_le (Nat.le_refl _) (by omega))]
end PASS

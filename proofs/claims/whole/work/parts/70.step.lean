/-- a standing of its parts -/
def mkS (d su ic : Nat) (g r : Nat → Nat) (f : Nat → Nat → Nat) : SN := fun j => if j = 0 then d else if j = 1 then su else if j = 2 then ic else if j < 9 then g (j - 3) else if j < 15 then r (j - 9) else f ((j - 15) / 6) ((j - 15) % 6)
section STEP
variable {d su ic : Nat} {g r : Nat → Nat} {f : Nat → Nat → Nat} {S : SN}
theorem mk_d : mkS d su ic g r f 0 = d := rfl
theorem mk_s : mkS d su ic g r f 1 = su := rfl
theorem mk_i : mkS d su ic g r f 2 = ic := rfl
theorem mk_p {h : Nat} (hh : h < 6) : sPl (mkS d su ic g r f) h = g h := by
  unfold sPl mkS
  rw [if_neg (by omega), if_neg (by omega), if_neg (by omega), if_pos (by omega), show 3 + h - 3 = h by omega]
theorem mk_r {h : Nat} (hh : h < 6) : sRk (mkS d su ic g r f) h = r h := by
  unfold sRk mkS
  rw [if_neg (by omega), if_neg (by omega), if_neg (by omega), if_neg (by omega), if_pos (by omega), show 9 + h - 9 = h by omega]
theorem mk_h {a b : Nat} (hb : b < 6) : sHd (mkS d su ic g r f) a b = f a b := by
  unfold sHd mkS
  rw [if_neg (by omega), if_neg (by omega), if_neg (by omega), if_neg (by omega), if_neg (by omega), show (15 + 6 * a + b - 15) / 6 = a by omega, show (15 + 6 * a + b - 15) % 6 = b by omega]
theorem RC_mk {x0 x1 x2 x3 : Nat → Int32} (h0 : x0 0 = nI d) (h1 : x0 1 = nI su) (h2 : x0 2 = nI ic) (hg : RP x1 g) (hr : RP x2 r) (hf : RH x3 f) : RC (mkS d su ic g r f) x0 x1 x2 x3 := by
  refine ⟨fun j hj => ?_, fun j hj => ?_, fun j hj => ?_, fun j hj => ?_⟩
  · match j, hj with
    | 0, _ => exact h0
    | 1, _ => exact h1
    | 2, _ => exact h2
    | j + 3, hj => omega
  · exact (hg j hj).trans (by rw [← mk_p (d := d) (su := su) (ic := ic) (g := g) (r := r) (f := f) hj]; rfl)
  · exact (hr j hj).trans (by rw [← mk_r (d := d) (su := su) (ic := ic) (g := g) (r := r) (f := f) hj]; rfl)
  · have e := hf (j / 6) (j % 6) (by omega) (by omega)
    rw [show 6 * (j / 6) + j % 6 = j by omega] at e
    rw [e, ← mk_h (d := d) (su := su) (ic := ic) (g := g) (r := r) (f := f) (a := j / 6) (b := j % 6) (by omega)]
    unfold sHd
    rw [show 15 + 6 * (j / 6) + j % 6 = 15 + j by omega]
theorem RC_p {x0 x1 x2 x3 : Nat → Int32} (h : RC S x0 x1 x2 x3) : RP x1 (sPl S) := fun j hj => h.2.1 j hj
theorem RC_r {x0 x1 x2 x3 : Nat → Int32} (h : RC S x0 x1 x2 x3) : RP x2 (sRk S) := fun j hj => h.2.2.1 j hj
theorem RC_h {x0 x1 x2 x3 : Nat → Int32} (h : RC S x0 x1 x2 x3) : RH x3 (sHd S) := fun a b ha hb => by
  rw [h.2.2.2 (6 * a + b) (by omega)]
  unfold sHd
  rw [show 15 + 6 * a + b = 15 + (6 * a + b) by omega]
/-- a standing as it should be -/
def VD (H M B : Nat) (S : SN) : Prop := VG H M (sPl S) (sRk S) (sHd S) ∧ (∀ h, h < 6 → M ≤ h → sPl S h = 0) ∧ (∀ a, a < 6 → sHd S a a = 0) ∧ S 0 ≤ B ∧ S 1 ≤ 99 ∧ S 2 ≤ 9
theorem VG_hd {H M : Nat} {P : PK} (hV : VG H M g r f) (hP : pG M f P) : VG H M g r (hdF f P.2) := by
  obtain ⟨hM, hH5, hH, hgr, hr0, hf9, hf0, hfr⟩ := hV
  unfold hdF
  cases hu : P.2 with
  | none => exact ⟨hM, hH5, hH, hgr, hr0, hf9, hf0, hfr⟩
  | some ab =>
    obtain ⟨a, b⟩ := ab
    obtain ⟨hab, hb, c⟩ := hP a b hu
    have c2 := c.2
    have ga : g a ≠ H := fun e => by
      have := hfr a b (by omega) (by omega) e
      have := c.1
      omega
    have gb : g b ≠ H := fun e => by
      have := hfr b a (by omega) (by omega) e
      have := (hf9 a b (by omega) (by omega)).2
      have := c.1
      omega
    refine ⟨hM, hH5, hH, hgr, hr0, fun x y hx hy => ?_, fun x y hx hy q => ?_, fun x y hx hy q => ?_⟩
    · have := hf9 x y hx hy
      simp only [setF]
      (repeat' split) <;> omega
    · have := hf0 x y hx hy q
      simp only [setF]
      split
      · omega
      · exact this
    · have := hfr x y hx hy q
      simp only [setF]
      split
      · rename_i e
        rcases e with e | e
        · rw [e.1] at q; exact absurd q ga
        · rw [e.1] at q; exact absurd q gb
      · exact this
theorem VG_melt {H M K t : Nat} (hK : K ≤ 9) (hV : VG H M g r f) : VG H M (g2 H M t g r f) (r2 M H (g2 H M t g r f) r) (f3 M H K (g2 H M t g r f) (sk H M t g r f) (f2 M H (g2 H M t g r f) f)) := by
  obtain ⟨hM, hH5, hH, hgr, hr0, hf9, hf0, hfr⟩ := id hV
  have hp : ∀ h, h < 6 → g2 H M t g r f h ≤ H := fun h hh => by
    have := (hgr h hh).1
    unfold g2 sk
    (repeat' split) <;> omega
  generalize g2 H M t g r f = p at hp ⊢
  generalize sk H M t g r f = s
  refine ⟨hM, hH5, hH, fun h hh => ⟨hp h hh, ?_⟩, fun h hh q => ?_, fun a b ha hb => ?_, fun a b ha hb q => ?_, fun a b ha hb q => ?_⟩
  · have := (hgr h hh).2
    unfold r2
    split <;> omega
  · have := hr0 h hh q
    unfold r2
    split <;> omega
  · have := hf9 a b ha hb
    have := hf9 b a hb ha
    unfold f3 f2
    constructor
    · (repeat' split) <;> omega
    · (repeat' split) <;> omega
  · have := hf0 a b ha hb q
    unfold f3 f2
    (repeat' split) <;> omega
  · have := hp a (by omega)
    unfold f3 f2
    (repeat' split) <;> omega
/-- a day, by a rule (or by none), at a heat -/
def stepS (H M K nx t : Nat) (P : Option (Nat × Nat)) (S : SN) : SN := mkS (S 0 + 1) (hdS (S 1) P) (S 2 - 1) (g2 H M t (sPl S) (sRk S) (hdF (sHd S) P)) (r2 M H (g2 H M t (sPl S) (sRk S) (hdF (sHd S) P)) (sRk S)) (f3 M H K (g2 H M t (sPl S) (sRk S) (hdF (sHd S) P)) (sk H M t (sPl S) (sRk S) (hdF (sHd S) P)) (f2 M H (g2 H M t (sPl S) (sRk S) (hdF (sHd S) P)) (hdF (sHd S) P)))
def gone (H M t : Nat) (P : Option (Nat × Nat)) (S : SN) : Nat := pcnt (dwn (sk H M t (sPl S) (sRk S) (hdF (sHd S) P)))
/-- what the rule (if one is in force) hardens in a standing -/
def pkS (W : Option ((Nat → Int64) → Int64)) (M nx t : Nat) (S : SN) : PK := match W with
  | none => (0, none)
  | some W => if S 1 = 0 then (0, none) else pick W M (sHd S) (sPl S) (sRk S) t nx (S 1) (S 0)
theorem pkS_G {W : Option ((Nat → Int64) → Int64)} {M nx t : Nat} : pG M (sHd S) (pkS W M nx t S) := by
  unfold pkS
  cases W with
  | none => exact fun a b e => by cases e
  | some W =>
    simp only
    split
    · exact fun a b e => by cases e
    · exact pick_G
theorem VD_step {H M K B nx t : Nat} {P : PK} (hK : K ≤ 9) (hV : VD H M B S) (hP : pG M (sHd S) P) : VD H M (B + 1) (stepS H M K nx t P.2 S) := by
  obtain ⟨v, v1, v2, v3, v4, v5⟩ := hV
  have w := VG_melt (K := K) (t := t) hK (VG_hd v hP)
  have hM := v.1
  have hs : ∀ h, h < 6 → M ≤ h → sk H M t (sPl S) (sRk S) (hdF (sHd S) P.2) h = 0 := fun h _ hh => by
    unfold sk
    rw [if_neg (by omega)]
  have hdd : ∀ a, a < 6 → hdF (sHd S) P.2 a a = 0 := fun a ha => by
    have := v2 a ha
    unfold hdF
    cases hu : P.2 with
    | none => exact this
    | some xy =>
      obtain ⟨x, y⟩ := xy
      have := (hP x y hu).1
      simp only [setF]
      split <;> omega
  refine ⟨?_, fun h hh q => ?_, fun a ha => ?_, ?_, ?_, ?_⟩
  · obtain ⟨w1, w2, w3, w4, w5, w6, w7, w8⟩ := w
    refine ⟨w1, w2, w3, fun h hh => ?_, fun h hh q => ?_, fun a b ha hb => ?_, fun a b ha hb q => ?_, fun a b ha hb q => ?_⟩
    · unfold stepS; rw [mk_p hh, mk_r hh]; exact w4 h hh
    · unfold stepS; rw [mk_r hh]; exact w5 h hh q
    · unfold stepS; rw [mk_h hb, mk_h ha]; exact w6 a b ha hb
    · unfold stepS; rw [mk_h hb]; exact w7 a b ha hb q
    · unfold stepS at q ⊢
      rw [mk_p (by omega)] at q
      rw [mk_h hb]; exact w8 a b ha hb q
  · unfold stepS; rw [mk_p hh]; unfold g2; rw [hs h hh q, v1 h hh q]
  · unfold stepS; rw [mk_h ha]
    have := hdd a ha
    unfold f3 f2
    (repeat' split) <;> omega
  · show S 0 + 1 ≤ B + 1
    omega
  · show hdS (S 1) P.2 ≤ 99
    unfold hdS
    split <;> omega
  · show S 2 - 1 ≤ 9
    omega
end STEP

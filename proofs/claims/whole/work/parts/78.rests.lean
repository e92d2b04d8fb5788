/-- how many, and the first as a number -/
def cg (P : Nat → Bool) : Nat → Nat × Nat
  | 0 => (0, 0)
  | i + 1 => if P i = true then ((cg P i).1 + 1, if (cg P i).1 = 0 then i else (cg P i).2) else cg P i
theorem cg_le (P : Nat → Bool) : ∀ i, (cg P i).1 ≤ i ∧ (cg P i).2 ≤ i
  | 0 => ⟨Nat.le_refl _, Nat.le_refl _⟩
  | i + 1 => by
    have := cg_le P i
    unfold cg
    split
    · refine ⟨?_, ?_⟩
      · show _ + 1 ≤ _
        omega
      · show (if _ then _ else _) ≤ _
        split <;> omega
    · omega
theorem cg_y {P : Nat → Bool} {i : Nat} (h : P i = true) : cg P (i + 1) = ((cg P i).1 + 1, if (cg P i).1 = 0 then i else (cg P i).2) := if_pos h
theorem cg_n {P : Nat → Bool} {i : Nat} (h : ¬ P i = true) : cg P (i + 1) = cg P i := if_neg h
theorem bd11_s {A B C D E F G I J L O R : Type} (a : A) (b : B) (c : C) (d : D) (e : E) (f : F) (g : G) (i : I) (j : J) (l : L) (o : O) (k : A → B → C → D → E → F → G → I → J → L → O → Option R) : bd11 (some (a, b, c, d, e, f, g, i, j, l, o)) k = k a b c d e f g i j l o := rfl
section QE
variable {H M K N B : Nat} {q : Nat → Nat} {S : SN} {W : WW} {x0 x16 x17 x18 x23 x24 x25 x26 x33 x60 x61 x62 x63 x64 x65 x66 x74 x75 x76 x77 x78 x79 x92 x93 x94 x95 x96 x97 x101 x108 x109 x112 : Nat → Int32} {y99 y100 : Nat → Int64}
def rsS (S : SN) (a b k : Nat) : SN := sU (sU S (9 + a) (2 * (k / 5))) (9 + b) (2 * (k % 5))
def l1 (H M K N : Nat) (q : Nat → Nat) (W : WW) (S : SN) (a b n k : Nat) : Nat := sPl (run H M K N q W n (rsS S a b k)) a + k / 5
def l2 (H M K N : Nat) (q : Nat → Nat) (W : WW) (S : SN) (a b n k : Nat) : Nat := sPl (run H M K N q W n (rsS S a b k)) b + k % 5
def rst (L1 L2 : Nat → Nat) (k : Nat) : Bool := (List.range 5).all fun c => decide (L1 k ≤ L1 (5 * c + k % 5) ∧ L2 k ≤ L2 (5 * (k / 5) + c))
theorem rst_iff {L1 L2 : Nat → Nat} {k : Nat} : rst L1 L2 k = true ↔ ∀ c, c < 5 → L1 k ≤ L1 (5 * c + k % 5) ∧ L2 k ≤ L2 (5 * (k / 5) + c) := by
  unfold rst
  rw [List.all_eq_true]
  exact ⟨fun h c hc => of_decide_eq_true (h c (List.mem_range.mpr hc)), fun h c hc => decide_eq_true (h c (List.mem_range.mp hc))⟩
theorem ix5 (a b : Nat) : nI a * 5 + nI b = nI (5 * a + b) := by
  rw [zI5, pk_mul, nI_add, Nat.mul_comm]
theorem ix5' (a b : Nat) : 5 * nI a + nI b = nI (5 * a + b) := by
  rw [zI5, pk_mul, nI_add]
theorem in25 {a : Nat} (h : a < 25) : inb (nI a) 25 = true := inbN h (by decide)
theorem c_isRest {L1 L2 : Nat → Nat} {k : Nat} (hk : k < 25) (h1 : ∀ j, j < 25 → x65 j = nI (L1 j) ∧ L1 j < 1000) (h2 : ∀ j, j < 25 → x66 j = nI (L2 j) ∧ L2 j < 1000) : fX2_isRest x65 x66 (nI (k / 5)) (nI (k % 5)) = some (if rst L1 L2 k = true then nI 1 else nI 0) := by
  unfold fX2_isRest fX2_isRest_0
  rw [ix5, show 5 * (k / 5) + k % 5 = k by omega, bn_s]
  refine loop4 (fX2_isRest_9b x65 x66) (fun m v1 v2 v3 v4 => ∃ i, i + m = 5 ∧ v1 = nI (k / 5) ∧ v2 = nI (k % 5) ∧ v3 = nI k ∧ v4 = nI i ∧ ∀ c, c < i → L1 k ≤ L1 (5 * c + k % 5) ∧ L2 k ≤ L2 (5 * (k / 5) + c)) (fun o => o = some (if rst L1 L2 k = true then nI 1 else nI 0)) ?_ ?_ 5 5000 _ _ _ _ (by omega) ⟨0, rfl, rfl, rfl, rfl, rfl, fun c hc => absurd hc (by omega)⟩
  · rintro kk m _ _ _ _ ⟨i, hi, rfl, rfl, rfl, rfl, hc⟩
    have a1 := h1 (5 * i + k % 5) (by omega)
    have a2 := h1 k hk
    have b1 := h2 (5 * (k / 5) + i) (by omega)
    have b2 := h2 k hk
    have no : ¬ (L1 k ≤ L1 (5 * i + k % 5) ∧ L2 k ≤ L2 (5 * (k / 5) + i)) → some (0 : Int32) = some (if rst L1 L2 k = true then nI 1 else nI 0) := fun hn => by
      rw [if_neg]
      · rfl
      · exact fun h => hn (rst_iff.mp h i (by omega))
    unfold fX2_isRest_9b
    rw [if_neg (show ¬ (5 : Int32) ≤ nI i from nI_ge (b := 5) (by omega) (by omega)), ix5, ix5, gd_t (in25 (by omega)), gd_t (in25 hk), clN (by omega), clN (by omega), clN (by omega), a1.1, a2.1, b1.1, b2.1]
    by_cases c1 : L1 (5 * i + k % 5) < L1 k
    · rw [if_pos (nI_lt c1 (by omega))]
      exact Or.inr (no (by omega))
    · rw [if_neg (nI_nlt (by omega) (by omega)), gd_t (in25 (by omega)), gd_t (in25 hk)]
      by_cases c2 : L2 k ≤ L2 (5 * (k / 5) + i)
      · rw [if_pos (nI_le c2 (by omega))]
        refine Or.inl ⟨_, _, _, _, ⟨i + 1, by omega, rfl, rfl, rfl, rfl, fun c hc' => ?_⟩, by rw [bn_s, nI_1]⟩
        by_cases e : c = i
        · subst e; exact ⟨by omega, c2⟩
        · exact hc c (by omega)
      · rw [if_neg (nI_ge (by omega) (by omega))]
        exact Or.inr (no (by omega))
  · rintro kk _ _ _ _ ⟨i, hi, rfl, rfl, rfl, rfl, hc⟩
    have ei : i = 5 := by omega
    subst ei
    unfold fX2_isRest_9b
    rw [if_pos (by decide), if_pos (show rst L1 L2 k = true from rst_iff.mpr hc)]
    rfl
theorem r_isRest {L1 L2 : Nat → Nat} {k : Nat} (hk : k < 25) (h1 : ∀ j, j < 25 → x108 j = nI (L1 j) ∧ L1 j < 1000) (h2 : ∀ j, j < 25 → x109 j = nI (L2 j) ∧ L2 j < 1000) : fX12_isRest x108 x109 (nI k) = some (if rst L1 L2 k = true then nI 1 else nI 0) := by
  refine loop2 (fX12_isRest_2b x108 x109) (fun m v1 v4 => ∃ i, i + m = 5 ∧ v1 = nI k ∧ v4 = nI i ∧ ∀ c, c < i → L1 k ≤ L1 (5 * c + k % 5) ∧ L2 k ≤ L2 (5 * (k / 5) + c)) (fun o => o = some (if rst L1 L2 k = true then nI 1 else nI 0)) ?_ ?_ 5 5000 _ _ (by omega) ⟨0, rfl, rfl, rfl, fun c hc => absurd hc (by omega)⟩
  · rintro kk m _ _ ⟨i, hi, rfl, rfl, hc⟩
    have a1 := h1 (5 * i + k % 5) (by omega)
    have a2 := h1 k hk
    have b1 := h2 (5 * (k / 5) + i) (by omega)
    have b2 := h2 k hk
    have no : ¬ (L1 k ≤ L1 (5 * i + k % 5) ∧ L2 k ≤ L2 (5 * (k / 5) + i)) → some (0 : Int32) = some (if rst L1 L2 k = true then nI 1 else nI 0) := fun hn => by
      rw [if_neg]
      · rfl
      · exact fun h => hn (rst_iff.mp h i (by omega))
    have e5 : nI k - nI k / 5 * 5 = nI (k % 5) := by rw [zI5, pk_rem (by omega) (by omega) (by omega)]
    have e6 : nI k - nI (k % 5) + nI i = nI (5 * (k / 5) + i) := by rw [nsub (by omega), nI_add, show k - k % 5 + i = 5 * (k / 5) + i by omega]
    unfold fX12_isRest_2b
    rw [if_neg (show ¬ (5 : Int32) ≤ nI i from nI_ge (b := 5) (by omega) (by omega)), e5, ix5', e6, gd_t (in25 (by omega)), gd_t (in25 hk), clN (by omega), clN (by omega), clN (by omega), a1.1, a2.1, b1.1, b2.1]
    by_cases c1 : L1 (5 * i + k % 5) < L1 k
    · rw [if_pos (nI_lt c1 (by omega))]
      exact Or.inr (no (by omega))
    · rw [if_neg (nI_nlt (by omega) (by omega)), gd_t (in25 (by omega)), gd_t (in25 hk)]
      by_cases c2 : L2 k ≤ L2 (5 * (k / 5) + i)
      · rw [if_pos (nI_le c2 (by omega))]
        refine Or.inl ⟨_, _, ⟨i + 1, by omega, rfl, rfl, fun c hc' => ?_⟩, by rw [bn_s, nI_1]⟩
        by_cases e : c = i
        · subst e; exact ⟨by omega, c2⟩
        · exact hc c (by omega)
      · rw [if_neg (nI_ge (by omega) (by omega))]
        exact Or.inr (no (by omega))
  · rintro kk _ _ ⟨i, hi, rfl, rfl, hc⟩
    have ei : i = 5 := by omega
    subst ei
    unfold fX12_isRest_2b
    rw [if_pos (by decide), if_pos (show rst L1 L2 k = true from rst_iff.mpr hc)]
    rfl
def ff1 (p : Nat × Nat) : Int32 := if p.1 = 0 then -2 else nI (2 * (p.2 / 5))
def ff2 (p : Nat × Nat) : Int32 := if p.1 = 0 then -2 else nI (2 * (p.2 % 5))
theorem c_restFind {L1 L2 : Nat → Nat} (h1 : ∀ j, j < 25 → x65 j = nI (L1 j) ∧ L1 j < 1000) (h2 : ∀ j, j < 25 → x66 j = nI (L2 j) ∧ L2 j < 1000) : ∃ y, fX2_find x65 x66 x60 = some y ∧ y 4 = nI (cg (rst L1 L2) 25).1 ∧ y 5 = ff1 (cg (rst L1 L2) 25) ∧ y 6 = ff2 (cg (rst L1 L2) 25) := by
  refine loop2 (fX2_find_19b x65 x66) (fun m v1 y => ∃ i, i + m = 25 ∧ v1 = nI i ∧ y 4 = nI (cg (rst L1 L2) i).1 ∧ y 5 = ff1 (cg (rst L1 L2) i) ∧ y 6 = ff2 (cg (rst L1 L2) i)) (fun o => ∃ y, o = some y ∧ y 4 = nI (cg (rst L1 L2) 25).1 ∧ y 5 = ff1 (cg (rst L1 L2) 25) ∧ y 6 = ff2 (cg (rst L1 L2) 25)) ?_ ?_ 25 5000 _ _ (by omega) ⟨0, rfl, rfl, rfl, rfl, rfl⟩
  · rintro kk m _ y ⟨i, hi, rfl, y4, y5, y6⟩
    have er := c_isRest (k := i) (by omega) h1 h2
    have cl := cg_le (rst L1 L2) i
    have e5 : nI i - nI i / 5 * 5 = nI (i % 5) := by rw [zI5, pk_rem (by omega) (by omega) (by omega)]
    have e6 : nI i / 5 = nI (i / 5) := by rw [zI5, pk_div (by omega) (by omega) (by omega)]
    by_cases c : rst L1 L2 i = true
    · rw [if_pos c] at er
      have e1 := cg_y c
      by_cases c0 : (cg (rst L1 L2) i).1 = 0
      · refine Or.inl ⟨nI (i + 1), upd (upd (upd y 5 (nI (2 * (i / 5)))) 6 (nI (2 * (i % 5)))) 4 (nI ((cg (rst L1 L2) i).1 + 1)), ⟨i + 1, by omega, rfl, by rw [e1]; rfl, ?_, ?_⟩, ?_⟩
        · rw [e1, if_pos c0]; rfl
        · rw [e1, if_pos c0]; rfl
        · unfold fX2_find_19b fX2_find_63 fX2_find_73
          rw [if_neg (show ¬ (25 : Int32) ≤ nI i from nI_ge (b := 25) (by omega) (by omega)), e5, e6, er, bd1_s, if_neg (show ¬ nI 1 = (0 : Int32) from one_ne), y4, if_pos (by rw [c0]; rfl), bn_s, nI_1, pk_un (by omega), pk_un (by omega), y4, nI_1, zI2, pk_mul, pk_mul, Nat.mul_comm, Nat.mul_comm (i % 5)]
      · refine Or.inl ⟨nI (i + 1), upd y 4 (nI ((cg (rst L1 L2) i).1 + 1)), ⟨i + 1, by omega, rfl, by rw [e1]; rfl, ?_, ?_⟩, ?_⟩
        · rw [pk_un (by omega), y5, e1, if_neg c0]; unfold ff1; rw [if_neg c0, if_neg (by show ¬ _ + 1 = 0; omega)]
        · rw [pk_un (by omega), y6, e1, if_neg c0]; unfold ff2; rw [if_neg c0, if_neg (by show ¬ _ + 1 = 0; omega)]
        · unfold fX2_find_19b fX2_find_63 fX2_find_73
          rw [if_neg (show ¬ (25 : Int32) ≤ nI i from nI_ge (b := 25) (by omega) (by omega)), e5, e6, er, bd1_s, if_neg (show ¬ nI 1 = (0 : Int32) from one_ne), y4, if_neg (ne0 c0 (by omega)), bn_s, nI_1, nI_1]
    · rw [if_neg c] at er
      refine Or.inl ⟨nI (i + 1), y, ⟨i + 1, by omega, rfl, by rw [cg_n c]; exact y4, by rw [cg_n c]; exact y5, by rw [cg_n c]; exact y6⟩, ?_⟩
      unfold fX2_find_19b fX2_find_73
      rw [if_neg (show ¬ (25 : Int32) ≤ nI i from nI_ge (b := 25) (by omega) (by omega)), e5, e6, er, bd1_s, if_pos z00, bn_s, nI_1]
  · rintro kk _ y ⟨i, hi, rfl, hy⟩
    have ei : i = 25 := by omega
    subst ei
    refine ⟨y, ?_, hy⟩
    unfold fX2_find_19b
    rw [if_pos (by decide)]
theorem VD_rs {a b k : Nat} (hV : VD H M B S) (ha : a < M) (hb : b < M) (hk : k < 25) : VD H M B (rsS S a b k) := VD_sR (VD_sR hV ha (by omega)) hb (by omega)
theorem c_playN {a b n : Nat} (ha : a < M) (hb : b < M) (hn : n ≤ 20) (hV : VD H M B S) (hB : B ≤ 999) (hT : TC H M K N q x17 x18) (hR : RC S x23 x24 x25 x26) : ∃ c33 c61 c62 c63 c64 c65 c66, fX2_playN x17 x18 x23 x24 x25 x26 (nI a) (nI b) (nI n) x33 x61 x62 x63 x64 x65 x66 = some (c33, c61, c62, c63, c64, c65, c66) ∧ (∀ j, j < 25 → c65 j = nI (l1 H M K N q none S a b n j) ∧ l1 H M K N q none S a b n j < 1000) ∧ ∀ j, j < 25 → c66 j = nI (l2 H M K N q none S a b n j) ∧ l2 H M K N q none S a b n j < 1000 := by
  have hM := hV.1.1
  have hH := hV.1.2.2.1
  refine loop11 (fX2_playN_3b x17 x18 x23 x24 x25 x26) (fun m v3 v4 v5 v6 _ _ _ _ _ z65 z66 => ∃ i, i + m = 25 ∧ v3 = nI a ∧ v4 = nI b ∧ v5 = nI n ∧ v6 = nI i ∧ (∀ j, j < i → z65 j = nI (l1 H M K N q none S a b n j) ∧ l1 H M K N q none S a b n j < 1000) ∧ ∀ j, j < i → z66 j = nI (l2 H M K N q none S a b n j) ∧ l2 H M K N q none S a b n j < 1000) (fun o => ∃ c33 c61 c62 c63 c64 c65 c66, o = some (c33, c61, c62, c63, c64, c65, c66) ∧ (∀ j, j < 25 → c65 j = nI (l1 H M K N q none S a b n j) ∧ l1 H M K N q none S a b n j < 1000) ∧ ∀ j, j < 25 → c66 j = nI (l2 H M K N q none S a b n j) ∧ l2 H M K N q none S a b n j < 1000) ?_ ?_ 25 5000 _ _ _ _ _ _ _ _ _ _ _ (by omega) ⟨0, rfl, rfl, rfl, rfl, rfl, fun j hj => absurd hj (by omega), fun j hj => absurd hj (by omega)⟩
  · rintro k m _ _ _ _ z33 z61 z62 z63 z64 z65 z66 ⟨i, hi, rfl, rfl, rfl, rfl, h1, h2⟩
    have ha6 : a < 6 := by omega
    have hb6 : b < 6 := by omega
    have e5 : nI i - nI i / 5 * 5 = nI (i % 5) := by rw [zI5, pk_rem (by omega) (by omega) (by omega)]
    have e6 : nI i / 5 = nI (i / 5) := by rw [zI5, pk_div (by omega) (by omega) (by omega)]
    obtain ⟨c61, c62, c63, c64, ec, hcp⟩ := p_copy (y0 := z61) (y1 := z62) (y2 := z63) (y3 := z64) hR
    have hV' := VD_rs (k := i) hV ha hb (by omega)
    obtain ⟨d61, d62, d63, d64, d33, ed, hd⟩ := p_passAllN (n := n) (x33 := z33) (show n ≤ 1000 by omega) hV' (by omega) hT (RC_sR (k := 2 * (i % 5)) (RC_sR (k := 2 * (i / 5)) hcp ha6) hb6)
    have vb := VD_run (W := none) (q := q) (N := N) (n := n) hT.2.1 hV'
    have p1 := (vb.1.2.2.2.1 a ha6).1
    have p2 := (vb.1.2.2.2.1 b hb6).1
    refine Or.inl ⟨nI a, nI b, nI n, nI (i + 1), d33, d61, d62, d63, d64, upd z65 i (nI (l1 H M K N q none S a b n i)), upd z66 i (nI (l2 H M K N q none S a b n i)), ⟨i + 1, by omega, rfl, rfl, rfl, rfl, fun j hj => ?_, fun j hj => ?_⟩, ?_⟩
    · by_cases e : j = i
      · subst e; rw [pk_us]; exact ⟨rfl, by unfold l1; omega⟩
      · rw [pk_un e]; exact h1 j (by omega)
    · by_cases e : j = i
      · subst e; rw [pk_us]; exact ⟨rfl, by unfold l2; omega⟩
      · rw [pk_un e]; exact h2 j (by omega)
    · unfold fX2_playN_3b
      rw [if_neg (show ¬ (25 : Int32) ≤ nI i from nI_ge (b := 25) (by omega) (by omega)), e5, e6, bn_s, bn_s, ec, bd4_s, gd_t (in6 ha6), gd_t (in6 hb6), cl6 ha6, cl6 hb6, zI2, pk_mul, pk_mul, ed, bd5_s, gd_t (in6 ha6), gd_t (in25 (by omega)), gd_t (in6 hb6), gd_t (in25 (by omega)), bn_s, nI_1, clN (by omega), RC_p hd a ha6, RC_p hd b hb6, nI_add, nI_add]
      rfl
  · rintro k _ _ _ _ z33 z61 z62 z63 z64 z65 z66 ⟨i, hi, rfl, rfl, rfl, rfl, h1, h2⟩
    have ei : i = 25 := by omega
    subst ei
    refine ⟨z33, z61, z62, z63, z64, z65, z66, ?_, h1, h2⟩
    unfold fX2_playN_3b
    rw [if_pos (by decide)]
theorem c_playR {Lru : Nat} {xr : Nat → Int32} {W : (Nat → Int64) → Int64} {z y : Nat → Int64} (hC : CW Lru xr W) {a b n : Nat} (ha : a < M) (hb : b < M) (hn : n ≤ 20) (hV : VD H M B S) (hB : B ≤ 999) (hT : TC H M K N q x17 x18) (hR : RC S x23 x24 x25 x26) : ∃ c33 c61 c62 c63 c64 c65 c66 z1 y1, fX2_playR Lru xr x17 x18 x23 x24 x25 x26 (nI a) (nI b) (nI n) x33 x61 x62 x63 x64 x65 x66 z y = some (c33, c61, c62, c63, c64, c65, c66, z1, y1) ∧ (∀ j, j < 25 → c65 j = nI (l1 H M K N q (some W) S a b n j) ∧ l1 H M K N q (some W) S a b n j < 1000) ∧ ∀ j, j < 25 → c66 j = nI (l2 H M K N q (some W) S a b n j) ∧ l2 H M K N q (some W) S a b n j < 1000 := by
  have hM := hV.1.1
  have hH := hV.1.2.2.1
  refine loop13 (fX2_playR_3b Lru xr x17 x18 x23 x24 x25 x26) (fun m v3 v4 v5 v6 _ _ _ _ _ z65 z66 _ _ => ∃ i, i + m = 25 ∧ v3 = nI a ∧ v4 = nI b ∧ v5 = nI n ∧ v6 = nI i ∧ (∀ j, j < i → z65 j = nI (l1 H M K N q (some W) S a b n j) ∧ l1 H M K N q (some W) S a b n j < 1000) ∧ ∀ j, j < i → z66 j = nI (l2 H M K N q (some W) S a b n j) ∧ l2 H M K N q (some W) S a b n j < 1000) (fun o => ∃ c33 c61 c62 c63 c64 c65 c66 z1 y1, o = some (c33, c61, c62, c63, c64, c65, c66, z1, y1) ∧ (∀ j, j < 25 → c65 j = nI (l1 H M K N q (some W) S a b n j) ∧ l1 H M K N q (some W) S a b n j < 1000) ∧ ∀ j, j < 25 → c66 j = nI (l2 H M K N q (some W) S a b n j) ∧ l2 H M K N q (some W) S a b n j < 1000) ?_ ?_ 25 5000 _ _ _ _ _ _ _ _ _ _ _ _ _ (by omega) ⟨0, rfl, rfl, rfl, rfl, rfl, fun j hj => absurd hj (by omega), fun j hj => absurd hj (by omega)⟩
  · rintro k m _ _ _ _ z33 z61 z62 z63 z64 z65 z66 zz yy ⟨i, hi, rfl, rfl, rfl, rfl, h1, h2⟩
    have ha6 : a < 6 := by omega
    have hb6 : b < 6 := by omega
    have e5 : nI i - nI i / 5 * 5 = nI (i % 5) := by rw [zI5, pk_rem (by omega) (by omega) (by omega)]
    have e6 : nI i / 5 = nI (i / 5) := by rw [zI5, pk_div (by omega) (by omega) (by omega)]
    obtain ⟨c61, c62, c63, c64, ec, hcp⟩ := p_copy (y0 := z61) (y1 := z62) (y2 := z63) (y3 := z64) hR
    have hV' := VD_rs (k := i) hV ha hb (by omega)
    obtain ⟨d61, d62, d63, d64, d33, zz1, yy1, ed, hd⟩ := p_passAllR (n := n) (x33 := z33) (z := zz) (y := yy) (show n ≤ 1000 by omega) hC hV' (by omega) hT (RC_sR (k := 2 * (i % 5)) (RC_sR (k := 2 * (i / 5)) hcp ha6) hb6)
    have vb := VD_run (W := (some W)) (q := q) (N := N) (n := n) hT.2.1 hV'
    have p1 := (vb.1.2.2.2.1 a ha6).1
    have p2 := (vb.1.2.2.2.1 b hb6).1
    refine Or.inl ⟨nI a, nI b, nI n, nI (i + 1), d33, d61, d62, d63, d64, upd z65 i (nI (l1 H M K N q (some W) S a b n i)), upd z66 i (nI (l2 H M K N q (some W) S a b n i)), zz1, yy1, ⟨i + 1, by omega, rfl, rfl, rfl, rfl, fun j hj => ?_, fun j hj => ?_⟩, ?_⟩
    · by_cases e : j = i
      · subst e; rw [pk_us]; exact ⟨rfl, by unfold l1; omega⟩
      · rw [pk_un e]; exact h1 j (by omega)
    · by_cases e : j = i
      · subst e; rw [pk_us]; exact ⟨rfl, by unfold l2; omega⟩
      · rw [pk_un e]; exact h2 j (by omega)
    · unfold fX2_playR_3b
      rw [if_neg (show ¬ (25 : Int32) ≤ nI i from nI_ge (b := 25) (by omega) (by omega)), e5, e6, bn_s, bn_s, ec, bd4_s, gd_t (in6 ha6), gd_t (in6 hb6), cl6 ha6, cl6 hb6, zI2, pk_mul, pk_mul, ed, bd7_s, gd_t (in6 ha6), gd_t (in25 (by omega)), gd_t (in6 hb6), gd_t (in25 (by omega)), bn_s, nI_1, clN (by omega), RC_p hd a ha6, RC_p hd b hb6, nI_add, nI_add]
      rfl
  · rintro k _ _ _ _ z33 z61 z62 z63 z64 z65 z66 zz yy ⟨i, hi, rfl, rfl, rfl, rfl, h1, h2⟩
    have ei : i = 25 := by omega
    subst ei
    refine ⟨z33, z61, z62, z63, z64, z65, z66, zz, yy, ?_, h1, h2⟩
    unfold fX2_playR_3b
    rw [if_pos (by decide)]
abbrev T11 : Type := (Nat → Int32) × (Nat → Int32) × (Nat → Int32) × (Nat → Int32) × (Nat → Int32) × (Nat → Int32) × (Nat → Int32) × (Nat → Int32) × (Nat → Int32) × (Nat → Int64) × (Nat → Int64)
def FE (x74 x75 x76 x77 x78 x112 : Nat → Int32) (z : T11) : Prop := Fr x74 x75 x76 x77 x78 x112 z.1 z.2.1 z.2.2.1 z.2.2.2.1 z.2.2.2.2.1 z.2.2.2.2.2.2.2.2.1
def LRq (H M K N : Nat) (q : Nat → Nat) (W : WW) (S : SN) (a b n : Nat) (x74 x75 x76 x77 x78 x112 : Nat → Int32) (o : Option T11) : Prop := ∃ z74 z75 z76 z77 z78 z101 z108 z109 z112 z99 z100, o = some (z74, z75, z76, z77, z78, z101, z108, z109, z112, z99, z100) ∧ Fr x74 x75 x76 x77 x78 x112 z74 z75 z76 z77 z78 z112 ∧ (∀ j, j < 25 → z108 j = nI (l1 H M K N q W S a b n j) ∧ l1 H M K N q W S a b n j < 1000) ∧ ∀ j, j < 25 → z109 j = nI (l2 H M K N q W S a b n j) ∧ l2 H M K N q W S a b n j < 1000
theorem r_laysRocks {a b n : Nat} (ha : a < M) (hb : b < M) (hn : n ≤ 20) (hV : VD H M B S) (hB : B ≤ 999) (hT : TR H M K N q x75 x79) (hR : RR S x75 x76 x77 x78) (hW : RW (x75 10) x92 x93 x94 x95 x96 x97 W) (hfree : x74 38 = -5) (hdr : x74 37 = -1) : LRq H M K N q W S a b n x74 x75 x76 x77 x78 x112 (fX12_laysRocks x79 x92 x93 x94 x95 x96 x97 (nI a) (nI b) (nI n) x74 x75 x76 x77 x78 x101 x108 x109 x112 y99 y100) := by
  have hM := hV.1.1
  have hH := hV.1.2.2.1
  obtain ⟨a74, a112, ea, ka⟩ := p_keepsKd (x74 := x74) (x75 := x75) (x76 := x76) (x77 := x77) (x78 := x78) (x112 := x112)
  unfold fX12_laysRocks fX12_laysRocks_0
  rw [ea, bd6_s]
  unfold fX12_laysRocks_7
  refine loop15 (fX12_laysRocks_7b x79 x92 x93 x94 x95 x96 x97) (fun m v1 v2 v3 v4 z74 z75 z76 z77 z78 _ z108 z109 z112 _ _ => ∃ i, i + m = 25 ∧ v1 = nI a ∧ v2 = nI b ∧ v3 = nI n ∧ v4 = nI i ∧ Kd x74 x75 x76 x77 x78 x112 z74 z75 z76 z77 z78 z112 ∧ (∀ j, j < i → z108 j = nI (l1 H M K N q W S a b n j) ∧ l1 H M K N q W S a b n j < 1000) ∧ ∀ j, j < i → z109 j = nI (l2 H M K N q W S a b n j) ∧ l2 H M K N q W S a b n j < 1000) (LRq H M K N q W S a b n x74 x75 x76 x77 x78 x112) ?_ ?_ 25 5000 _ _ _ _ _ _ _ _ _ _ _ _ _ _ _ (by omega) ⟨0, rfl, rfl, rfl, rfl, rfl, ka, fun j hj => absurd hj (by omega), fun j hj => absurd hj (by omega)⟩
  · rintro k m _ _ _ _ z74 z75 z76 z77 z78 z101 z108 z109 z112 z99 z100 ⟨i, hi, rfl, rfl, rfl, rfl, hk, h1, h2⟩
    have ha6 : a < 6 := by omega
    have hb6 : b < 6 := by omega
    have e5 : nI i - nI i / 5 * 5 = nI (i % 5) := by rw [zI5, pk_rem (by omega) (by omega) (by omega)]
    have e6 : nI i / 5 = nI (i / 5) := by rw [zI5, pk_div (by omega) (by omega) (by omega)]
    have hRz := RR_same hR hk.1.2.1 hk.1.2.2.1 hk.1.2.2.2.1 hk.1.2.2.2.2.1
    have hV' := VD_rs (k := i) hV ha hb (by omega)
    obtain ⟨b75, b76, b77, b78, b101, b99, b100, eb, hbr, tb, vb⟩ := p_trial (x74 := z74) (x101 := z101) (y99 := z99) (y100 := z100) (show n ≤ 100 by omega) hV' (by omega) (TR_same hT hk.1.2.1) (RC_sR (k := 2 * (i % 5)) (RC_sR (k := 2 * (i / 5)) hRz ha6) hb6) (by rw [hk.1.2.1 10 (by omega)]; exact hW) ((hk.1.1 38 (by omega) (by omega)).trans hfree) ((hk.1.1 37 (by omega) (by omega)).trans hdr)
    obtain ⟨u74, u75, u76, u77, u78, eu, hu⟩ := p_backKd (w75 := b75) (w76 := b76) (w77 := b77) (w78 := b78) hk (fun _ _ _ => rfl)
    have p1 := (vb.1.2.2.2.1 a ha6).1
    have p2 := (vb.1.2.2.2.1 b hb6).1
    refine Or.inl ⟨nI a, nI b, nI n, nI (i + 1), u74, u75, u76, u77, u78, b101, upd z108 i (nI (l1 H M K N q W S a b n i)), upd z109 i (nI (l2 H M K N q W S a b n i)), z112, b99, b100, ⟨i + 1, by omega, rfl, rfl, rfl, rfl, hu, fun j hj => ?_, fun j hj => ?_⟩, ?_⟩
    · by_cases e : j = i
      · subst e; rw [pk_us]; exact ⟨rfl, by unfold l1; omega⟩
      · rw [pk_un e]; exact h1 j (by omega)
    · by_cases e : j = i
      · subst e; rw [pk_us]; exact ⟨rfl, by unfold l2; omega⟩
      · rw [pk_un e]; exact h2 j (by omega)
    · unfold fX12_laysRocks_7b
      rw [if_neg (show ¬ (25 : Int32) ≤ nI i from nI_ge (b := 25) (by omega) (by omega)), e5, e6, gd_t (in6 ha6), gd_t (in6 hb6), cl6 ha6, cl6 hb6, zI2, pk_mul, pk_mul, eb, bd8_s, gd_t (in6 ha6), gd_t (in25 (by omega)), gd_t (in6 hb6), gd_t (in25 (by omega)), eu, bd6_s, bn_s, nI_1, clN (by omega), RC_p hbr a ha6, RC_p hbr b hb6, nI_add, nI_add]
      rfl
  · rintro k _ _ _ _ z74 z75 z76 z77 z78 z101 z108 z109 z112 z99 z100 ⟨i, hi, rfl, rfl, rfl, rfl, hk, h1, h2⟩
    have ei : i = 25 := by omega
    subst ei
    refine ⟨z74, z75, z76, z77, z78, z101, z108, z109, z112, z99, z100, ?_, hk.1, h1, h2⟩
    unfold fX12_laysRocks_7b
    rw [if_pos (by decide)]
def ansR (w : Nat) (p : Nat × Nat) : Int32 := if w = 0 then nI p.1 else if w = 1 then ff1 p else ff2 p
theorem nn1 {n : Nat} (h : n < 2000000) : ¬ nI n = -1 := fun e => by
  have := congrArg Int32.toInt e
  rw [nI_toInt (by omega)] at this
  rw [show (-1 : Int32).toInt = -1 from rfl] at this
  omega
theorem r_rests {L1 L2 : Nat → Nat} {w : Nat} (hw : w ≤ 2) (h1 : ∀ j, j < 25 → x108 j = nI (L1 j) ∧ L1 j < 1000) (h2 : ∀ j, j < 25 → x109 j = nI (L2 j) ∧ L2 j < 1000) : fX12_rests_52 x79 x92 x93 x94 x95 x96 x97 (nI w) 0 (-1) 0 x74 x75 x76 x77 x78 x101 x108 x109 x112 y99 y100 = some (ansR w (cg (rst L1 L2) 25), x74, x75, x76, x77, x78, x101, x108, x109, x112, y99, y100) := by
  unfold fX12_rests_52
  refine loop15 (fX12_rests_52b x79 x92 x93 x94 x95 x96 x97) (fun m v4 v5 v6 v7 z74 z75 z76 z77 z78 z101 z108 z109 z112 z99 z100 => ∃ i, i + m = 25 ∧ v4 = nI w ∧ v5 = nI (cg (rst L1 L2) i).1 ∧ v6 = (if (cg (rst L1 L2) i).1 = 0 then -1 else nI (cg (rst L1 L2) i).2) ∧ v7 = nI i ∧ x74 = z74 ∧ x75 = z75 ∧ x76 = z76 ∧ x77 = z77 ∧ x78 = z78 ∧ x101 = z101 ∧ x108 = z108 ∧ x109 = z109 ∧ x112 = z112 ∧ y99 = z99 ∧ y100 = z100) (fun o => o = some (ansR w (cg (rst L1 L2) 25), x74, x75, x76, x77, x78, x101, x108, x109, x112, y99, y100)) ?_ ?_ 25 5000 _ _ _ _ _ _ _ _ _ _ _ _ _ _ _ (by omega) ⟨0, rfl, rfl, rfl, rfl, rfl, rfl, rfl, rfl, rfl, rfl, rfl, rfl, rfl, rfl, rfl, rfl⟩
  · rintro k m _ _ _ _ _ _ _ _ _ _ _ _ _ _ _ ⟨i, hi, rfl, rfl, rfl, rfl, rfl, rfl, rfl, rfl, rfl, rfl, rfl, rfl, rfl, rfl, rfl⟩
    have er := r_isRest (k := i) (by omega) h1 h2
    have cl := cg_le (rst L1 L2) i
    refine Or.inl ⟨nI w, nI (cg (rst L1 L2) (i + 1)).1, (if (cg (rst L1 L2) (i + 1)).1 = 0 then -1 else nI (cg (rst L1 L2) (i + 1)).2), nI (i + 1), x74, x75, x76, x77, x78, x101, x108, x109, x112, y99, y100, ⟨i + 1, by omega, rfl, rfl, rfl, rfl, rfl, rfl, rfl, rfl, rfl, rfl, rfl, rfl, rfl, rfl, rfl⟩, ?_⟩
    unfold fX12_rests_52b
    rw [if_neg (show ¬ (25 : Int32) ≤ nI i from nI_ge (b := 25) (by omega) (by omega)), er, bd1_s]
    by_cases c : rst L1 L2 i = true
    · rw [if_pos c, if_neg (show ¬ nI 1 = (0 : Int32) from one_ne), cg_y c]
      unfold fX12_rests_80 fX12_rests_85
      by_cases c0 : (cg (rst L1 L2) i).1 = 0
      · rw [if_pos (show nI _ = (0 : Int32) by rw [c0]; rfl), bn_s, bn_s, nI_1, nI_1, if_pos c0, if_neg (show ¬ (cg (rst L1 L2) i).1 + 1 = 0 by omega)]
      · rw [if_neg (ne0 c0 (by omega)), bn_s, bn_s, nI_1, nI_1, if_neg c0, if_neg c0, if_neg (show ¬ (cg (rst L1 L2) i).1 + 1 = 0 by omega)]
    · rw [if_neg c, if_pos z00, cg_n c]
      unfold fX12_rests_85
      rw [bn_s, nI_1]
  · rintro k _ _ _ _ _ _ _ _ _ _ _ _ _ _ _ ⟨i, hi, rfl, rfl, rfl, rfl, rfl, rfl, rfl, rfl, rfl, rfl, rfl, rfl, rfl, rfl, rfl⟩
    have ei : i = 25 := by omega
    subst ei
    have cl := cg_le (rst L1 L2) 25
    unfold fX12_rests_52b fX12_rests_128 ansR ff1 ff2
    rw [if_pos (by decide)]
    by_cases w0 : w = 0
    · rw [if_pos (by rw [w0]; rfl), if_pos w0]
    · rw [if_neg (ne0 w0 (by omega)), if_neg w0]
      by_cases c0 : (cg (rst L1 L2) 25).1 = 0
      · rw [if_pos c0, if_pos rfl, if_pos c0, if_pos c0, ite_self]
      · rw [if_neg c0, if_neg (nn1 (by omega)), if_neg c0, if_neg c0, zI5, pk_rem (by omega) (by omega) (by omega), pk_div (by omega) (by omega) (by omega), zI2, pk_mul, pk_mul]
        by_cases w1 : w = 1
        · rw [if_pos (by rw [w1]; rfl), if_pos w1]
        · rw [if_neg (fun e : nI w = (1 : Int32) => w1 ((nI_eq (b := 1) (by omega) (by omega)).mp e)), if_neg w1]
theorem e_restsN (hQ : QQ H M K N B q S none x17 x18 x23 x24 x25 x26 x74 x75 x76 x77 x78 x79 x92 x93 x94 x95 x96 x97) (v1 v2 v3 v4 : Int32) : ∃ r, (∃ c, fX11_restsN x0 x16 x17 x18 x23 x24 x25 x26 v1 v2 v3 v4 x33 x60 x61 x62 x63 x64 x65 x66 = some (r, c)) ∧ ∃ z, fX12_rests x79 x92 x93 x94 x95 x96 x97 v1 v2 v3 v4 x74 x75 x76 x77 x78 x101 x108 x109 x112 y99 y100 = some (r, z) ∧ FE x74 x75 x76 x77 x78 x112 z := by
  obtain ⟨hV, hB, hT, hTR, hR, hRR, hW, hfree, hdr⟩ := hQ
  obtain ⟨hM, hH5, hH, hgr, _⟩ := id hV.1
  unfold fX11_restsN fX11_restsN_0 fX12_rests fX12_rests_0
  rcases p_two hM hT.2.2.2.2.2.1 hTR.2.2.2.2.2.1 v1 v2 with ⟨a, b, ha, hb, hab, rfl, rfl, u1, u2⟩ | ⟨u1, u2⟩
  · rw [u1, u2, bd1_s, bd1_s, if_neg (show ¬ nI 1 = (0 : Int32) from one_ne), if_neg (show ¬ nI 1 = (0 : Int32) from one_ne)]
    rcases p_within (lo := 1) (hi := 20) (by omega) (by omega) v3 with ⟨n, n1, n2, rfl, c3, d3⟩ | ⟨c3, d3⟩
    · rw [show fX11_isWithin (nI n) 1 20 = _ from c3, bd1_s, if_neg (show ¬ nI 1 = (0 : Int32) from one_ne), show fX12_in (nI n).toInt64 1 20 = _ from d3, bd1_s, if_neg (show ¬ nI 1 = (0 : Int32) from one_ne)]
      rcases p_within (lo := 0) (hi := 2) (by omega) (by omega) v4 with ⟨w, w1, w2, rfl, c4, d4⟩ | ⟨c4, d4⟩
      · rw [show fX11_isWithin (nI w) 0 2 = _ from c4, bd1_s, if_neg (show ¬ nI 1 = (0 : Int32) from one_ne), show fX12_in (nI w).toInt64 0 2 = _ from d4, bd1_s, if_neg (show ¬ nI 1 = (0 : Int32) from one_ne)]
        obtain ⟨d33, d61, d62, d63, d64, d65, d66, ec, g1, g2⟩ := c_playN (x33 := x33) (x61 := x61) (x62 := x62) (x63 := x63) (x64 := x64) (x65 := x65) (x66 := x66) ha hb n2 hV hB hT hR
        obtain ⟨y60, ef, y4, y5, y6⟩ := c_restFind (x60 := x60) g1 g2
        obtain ⟨z74, z75, z76, z77, z78, z101, z108, z109, z112, z99, z100, er, hf, k1, k2⟩ := r_laysRocks (x101 := x101) (x108 := x108) (x109 := x109) (x112 := x112) (y99 := y99) (y100 := y100) ha hb n2 hV hB hTR hRR hW hfree hdr
        refine ⟨ansR w (cg (rst (l1 H M K N q none S a b n) (l2 H M K N q none S a b n)) 25), ?_, ⟨(z74, z75, z76, z77, z78, z101, z108, z109, z112, z99, z100), by rw [er, bd11_s, r_rests w2 k1 k2], hf⟩⟩
        rw [ec, bd7_s, ef, bd1_s, y4, y5, y6]
        unfold ansR
        by_cases w0 : w = 0
        · rw [if_pos (by rw [w0]; rfl), if_pos w0]; exact ⟨_, rfl⟩
        · rw [if_neg (ne0 w0 (by omega)), if_neg w0]
          by_cases w1 : w = 1
          · rw [if_pos (by rw [w1]; rfl), if_pos w1]; exact ⟨_, rfl⟩
          · rw [if_neg (fun e : nI w = (1 : Int32) => w1 ((nI_eq (b := 1) (by omega) (by omega)).mp e)), if_neg w1]; exact ⟨_, rfl⟩
      · rw [show fX11_isWithin v4 0 2 = _ from c4, bd1_s, if_pos z00, show fX12_in v4.toInt64 0 2 = _ from d4, bd1_s, if_pos z00]
        exact ⟨_, ⟨_, rfl⟩, ⟨_, rfl, Fr_refl⟩⟩
    · rw [show fX11_isWithin v3 1 20 = _ from c3, bd1_s, if_pos z00, show fX12_in v3.toInt64 1 20 = _ from d3, bd1_s, if_pos z00]
      exact ⟨_, ⟨_, rfl⟩, ⟨_, rfl, Fr_refl⟩⟩
  · rw [u1, u2, bd1_s, bd1_s, if_pos z00, if_pos z00]
    exact ⟨_, ⟨_, rfl⟩, ⟨_, rfl, Fr_refl⟩⟩
theorem e_restsR {Lru : Nat} {xr : Nat → Int32} {W : (Nat → Int64) → Int64} {z y : Nat → Int64} (hC : CW Lru xr W) (hQ : QQ H M K N B q S (some W) x17 x18 x23 x24 x25 x26 x74 x75 x76 x77 x78 x79 x92 x93 x94 x95 x96 x97) (v1 v2 v3 v4 : Int32) : ∃ r, (∃ c, fX11_restsR Lru xr x0 x16 x17 x18 x23 x24 x25 x26 v1 v2 v3 v4 x33 x60 x61 x62 x63 x64 x65 x66 z y = some (r, c)) ∧ ∃ z, fX12_rests x79 x92 x93 x94 x95 x96 x97 v1 v2 v3 v4 x74 x75 x76 x77 x78 x101 x108 x109 x112 y99 y100 = some (r, z) ∧ FE x74 x75 x76 x77 x78 x112 z := by
  obtain ⟨hV, hB, hT, hTR, hR, hRR, hW, hfree, hdr⟩ := hQ
  obtain ⟨hM, hH5, hH, hgr, _⟩ := id hV.1
  unfold fX11_restsR fX11_restsR_0 fX12_rests fX12_rests_0
  rcases p_two hM hT.2.2.2.2.2.1 hTR.2.2.2.2.2.1 v1 v2 with ⟨a, b, ha, hb, hab, rfl, rfl, u1, u2⟩ | ⟨u1, u2⟩
  · rw [u1, u2, bd1_s, bd1_s, if_neg (show ¬ nI 1 = (0 : Int32) from one_ne), if_neg (show ¬ nI 1 = (0 : Int32) from one_ne)]
    rcases p_within (lo := 1) (hi := 20) (by omega) (by omega) v3 with ⟨n, n1, n2, rfl, c3, d3⟩ | ⟨c3, d3⟩
    · rw [show fX11_isWithin (nI n) 1 20 = _ from c3, bd1_s, if_neg (show ¬ nI 1 = (0 : Int32) from one_ne), show fX12_in (nI n).toInt64 1 20 = _ from d3, bd1_s, if_neg (show ¬ nI 1 = (0 : Int32) from one_ne)]
      rcases p_within (lo := 0) (hi := 2) (by omega) (by omega) v4 with ⟨w, w1, w2, rfl, c4, d4⟩ | ⟨c4, d4⟩
      · rw [show fX11_isWithin (nI w) 0 2 = _ from c4, bd1_s, if_neg (show ¬ nI 1 = (0 : Int32) from one_ne), show fX12_in (nI w).toInt64 0 2 = _ from d4, bd1_s, if_neg (show ¬ nI 1 = (0 : Int32) from one_ne)]
        obtain ⟨d33, d61, d62, d63, d64, d65, d66, zz1, yy1, ec, g1, g2⟩ := c_playR (x33 := x33) (x61 := x61) (x62 := x62) (x63 := x63) (x64 := x64) (x65 := x65) (x66 := x66) (z := z) (y := y) hC ha hb n2 hV hB hT hR
        obtain ⟨y60, ef, y4, y5, y6⟩ := c_restFind (x60 := x60) g1 g2
        obtain ⟨z74, z75, z76, z77, z78, z101, z108, z109, z112, z99, z100, er, hf, k1, k2⟩ := r_laysRocks (x101 := x101) (x108 := x108) (x109 := x109) (x112 := x112) (y99 := y99) (y100 := y100) ha hb n2 hV hB hTR hRR hW hfree hdr
        refine ⟨ansR w (cg (rst (l1 H M K N q (some W) S a b n) (l2 H M K N q (some W) S a b n)) 25), ?_, ⟨(z74, z75, z76, z77, z78, z101, z108, z109, z112, z99, z100), by rw [er, bd11_s, r_rests w2 k1 k2], hf⟩⟩
        rw [ec, bd9_s, ef, bd1_s, y4, y5, y6]
        unfold ansR
        by_cases w0 : w = 0
        · rw [if_pos (by rw [w0]; rfl), if_pos w0]; exact ⟨_, rfl⟩
        · rw [if_neg (ne0 w0 (by omega)), if_neg w0]
          by_cases w1 : w = 1
          · rw [if_pos (by rw [w1]; rfl), if_pos w1]; exact ⟨_, rfl⟩
          · rw [if_neg (fun e : nI w = (1 : Int32) => w1 ((nI_eq (b := 1) (by omega) (by omega)).mp e)), if_neg w1]; exact ⟨_, rfl⟩
      · rw [show fX11_isWithin v4 0 2 = _ from c4, bd1_s, if_pos z00, show fX12_in v4.toInt64 0 2 = _ from d4, bd1_s, if_pos z00]
        exact ⟨_, ⟨_, rfl⟩, ⟨_, rfl, Fr_refl⟩⟩
    · rw [show fX11_isWithin v3 1 20 = _ from c3, bd1_s, if_pos z00, show fX12_in v3.toInt64 1 20 = _ from d3, bd1_s, if_pos z00]
      exact ⟨_, ⟨_, rfl⟩, ⟨_, rfl, Fr_refl⟩⟩
  · rw [u1, u2, bd1_s, bd1_s, if_pos z00, if_pos z00]
    exact ⟨_, ⟨_, rfl⟩, ⟨_, rfl, Fr_refl⟩⟩
end QE

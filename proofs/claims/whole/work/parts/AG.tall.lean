/-- the fields of the reference that reading a text doesn't touch -/
def fx74 (x z : Nat → Int32) : Prop := ∀ j, j ≠ 17 → j ≠ 18 → j ≠ 19 → z j = x j
def TE (x74 : Nat → Int32) (oc : Option (Int32 × FI × FI × FI × FI × FI × FI × FI × FI × FI × FI)) (or : Option (FI × FI × FI × FI × FI × FI)) : Prop :=
  (∃ y1 y3 y4 y5 y7 y8 y9 y10 y11 y12 z74 z86 z87 z88 z89 z90, oc = some (1, y1, y3, y4, y5, y7, y8, y9, y10, y11, y12) ∧ or = some (z74, z86, z87, z88, z89, z90) ∧ fx74 x74 z74 ∧ z74 17 = 0 ∧ z74 19 = 0 ∧ DR 1 y7 y8 y9 y10 y11 y12 z86 z87 z88 z89 z90) ∨
  ∃ F y1 y3 y4 y5 y7 y8 y9 y10 y11 y12 z74 z86 z87 z88 z89 z90, 0 < F ∧ F < 5000 ∧ oc = some (0, y1, y3, y4, y5, y7, y8, y9, y10, y11, y12) ∧ y1 7 = nI F ∧ or = some (z74, z86, z87, z88, z89, z90) ∧ fx74 x74 z74 ∧ z74 17 = 0 ∧ z74 19 = nI F
section TALL
variable {x1 x2 x3 x4 x5 x7 x8 x9 x10 x11 x12 x74 x86 x87 x88 x89 x90 x91 t : Nat → Int32} {sz c i p n : Nat}
theorem DR_1 (hn : 0 < n) (h : DR n x7 x8 x9 x10 x11 x12 x86 x87 x88 x89 x90) : DR 1 x7 x8 x9 x10 x11 x12 x86 x87 x88 x89 x90 := by
  obtain ⟨H, su, K, N, M, q, g, r, f, hX, _, h1⟩ := h
  exact ⟨H, su, K, N, M, q, g, r, f, hX, fun hh => absurd hh (by omega), fun _ => h1 hn⟩
theorem p_goesOnF {z74 : Nat → Int32} {F pq : Nat} (h : RPp t sz p x74 x91) (h17 : z74 17 = x74 17) (h18 : z74 18 = nI pq) (hq : pq ≤ sz) (hF : 0 < F ∧ F < 5000) (h19 : z74 19 = nI F) : ∃ u74, fX12_goesOn x91 z74 = some (0, u74) ∧ (∀ j, j ≠ 18 → u74 j = z74 j) := by
  obtain ⟨hz, a17, _, _, h91, hb⟩ := h
  obtain ⟨w74, ew, w18, wf⟩ := p_blanks (x74 := z74) hz (h17.trans a17) h18 (by omega) h91 hb
  have wn : ¬ w74 19 = 0 := by rw [wf 19 (by omega), h19]; exact ne0 (by omega) (by omega)
  refine ⟨upd w74 18 (w74 18 + 1), ?_, fun j a => by rw [pk_un a]; exact wf j a⟩
  unfold fX12_goesOn fX12_goesOn_0 fX12_goesOn_40 fX12_goesOn_62 fX12_goesOn_63
  rw [ew, bd1_s, if_neg wn, if_neg wn, gd_t (by decide)]
abbrev K11 : Type := Int32 → FI → FI → FI → FI → FI → FI → FI → FI → FI → FI → Option (Int32 × FI × FI × FI × FI × FI × FI × FI × FI × FI × FI)
abbrev K8 : Type := Int32 → Int32 → FI → FI → FI → FI → FI → FI → Option (FI × FI × FI × FI × FI × FI)
theorem t_step (h : BP t sz c i p x1 x3 x4 x5 x74 x91) (hD : DR n x7 x8 x9 x10 x11 x12 x86 x87 x88 x89 x90) (hn : n ≤ 40) (KC : K11) (KR : K8) (hKR : ∀ a b d e f g k, KR a 0 b d e f g k = some (upd b 17 0, d, e, f, g, k)) :
    (n < 40 ∧ ∃ i p y1 y7 y8 y9 y10 y11 y12 z74 z86 z87 z88 z89 z90, fX10_readText_16b x2 KC (nI n) x1 x3 x4 x5 x7 x8 x9 x10 x11 x12 = KC (nI (n + 1)) y1 x3 x4 x5 y7 y8 y9 y10 y11 y12 ∧ fX12_readsAll_80b x91 KR (nI n) 1 x74 x86 x87 x88 x89 x90 = KR (nI (n + 1)) 1 z74 z86 z87 z88 z89 z90 ∧ (∀ j, j ≠ 18 → j ≠ 19 → z74 j = x74 j) ∧ BP t sz c i p y1 x3 x4 x5 z74 x91 ∧ DR (n + 1) y7 y8 y9 y10 y11 y12 z86 z87 z88 z89 z90) ∨
    TE x74 (fX10_readText_16b x2 KC (nI n) x1 x3 x4 x5 x7 x8 x9 x10 x11 x12) (fX12_readsAll_80b x91 KR (nI n) 1 x74 x86 x87 x88 x89 x90) := by
  have hz := h.1.1
  have hc := h.1.2.1
  unfold fX10_readText_16b fX12_readsAll_80b
  rw [if_neg (show ¬ (40 : Int32) < nI n from nI_nlt (a := 40) hn (by omega)), if_neg one_ne]
  rcases t_clause h hD hn with ⟨n40, i', p', y1, y7, y8, y9, y10, y11, y12, z74, z86, z87, z88, z89, z90, ec, er, zf, b2, d2⟩ | ⟨F, y1, y7, y8, y9, y10, y11, y12, z74, z86, z87, z88, z89, z90, F0, F1, ec, y17, er, zf, z19, pq, z18, hq⟩
  · have tl := tc_lt (t := t) (s := ts t sz i') hz
    have hi' := b2.2.2.2.2
    rw [ec, bd8_s, if_neg one_ne, er, bd6_s, bn_s, p_code b2.1, bd1_s, nI_1]
    rcases r_goesOn b2 with ⟨t4, u74, eu, uf, hR, hlt⟩ | ⟨t0, u74, eu, uf, u19⟩ | ⟨n4, n0, u74, eu, uf, u19⟩
    · refine Or.inl ⟨n40, i' + 1, nx t sz (ts t sz i'), upd y1 6 (nI (i' + 1)), y7, y8, y9, y10, y11, y12, u74, z86, z87, z88, z89, z90, ?_, ?_, fun j a b => (uf j a b).trans (zf j a b), ?_, d2⟩
      · rw [if_pos (by rw [t4]; rfl), (p_skip b2.1 (by omega)).1, bd1_s, bn_s]
      · rw [eu, bd2_s]
      · exact BP_next b2 hlt (uf 17 (by omega) (by omega)) (by rw [hR.2.2.2.1, b2.2.1.2.2.2.1]) hR.2.2.1
    · refine Or.inr (Or.inl ?_)
      rw [if_neg (by rw [t0]; decide), eu, bd2_s, hKR]
      rcases p_take (cd := 0) b2.1 (by omega) (by omega) with ⟨_, et⟩ | ⟨nt, _⟩
      · rw [show (0 : Int32) = nI 0 from rfl, et, bd2_s, gd_t (by decide)]
        exact ⟨_, x3, x4, x5, y7, y8, y9, y10, y11, y12, _, z86, z87, z88, z89, z90, rfl, rfl, fun j a b d => by rw [pk_un a, uf j b d, zf j b d], rfl, (pk_un (by omega)).trans u19, DR_1 (by omega) d2⟩
      · exact absurd t0 nt
    · refine Or.inr (Or.inr ?_)
      have fl := flt_lt (s := ts t sz i') (k := 0) (by have := ts_le (t := t) (sz := sz) i'; omega) (by omega)
      rw [if_neg (show ¬ nI (tc t sz (ts t sz i')) = (4 : Int32) from fun e => n4 ((nI_eq (b := 4) (by omega) (by omega)).mp e)), eu, bd2_s, hKR]
      rcases p_take (cd := 0) b2.1 (by omega) (by omega) with ⟨t0, _⟩ | ⟨_, et⟩
      · exact absurd t0 n0
      · rw [show (0 : Int32) = nI 0 from rfl, et, bd2_s, gd_t (by decide)]
        exact ⟨_, _, x3, x4, x5, y7, y8, y9, y10, y11, y12, _, z86, z87, z88, z89, z90, fl.1, fl.2, rfl, pk_us, rfl, fun j a b d => by rw [pk_un a, uf j b d, zf j b d], rfl, (pk_un (by omega)).trans u19⟩
  · obtain ⟨u74, eu, uf⟩ := p_goesOnF (z74 := z74) (F := F) h.2.1 (zf 17 (by omega) (by omega)) z18 hq ⟨F0, F1⟩ z19
    refine Or.inr (Or.inr ?_)
    rw [ec, bd8_s, if_pos rfl, er, bd6_s, bn_s, eu, bd2_s, hKR]
    exact ⟨F, y1, x3, x4, x5, y7, y8, y9, y10, y11, y12, _, z86, z87, z88, z89, z90, F0, F1, rfl, y17, rfl, fun j a b d => by rw [pk_un a, uf j b, zf j b d], rfl, by rw [pk_un (by omega), uf 19 (by omega)]; exact z19⟩
theorem TE_fr {z74 : Nat → Int32} {oc : Option (Int32 × FI × FI × FI × FI × FI × FI × FI × FI × FI × FI)} {or : Option (FI × FI × FI × FI × FI × FI)} (hf : ∀ j, j ≠ 17 → j ≠ 18 → j ≠ 19 → z74 j = x74 j) (h : TE z74 oc or) : TE x74 oc or := by
  rcases h with ⟨y1, y3, y4, y5, y7, y8, y9, y10, y11, y12, z, z86, z87, z88, z89, z90, a, b, d, e⟩ | ⟨F, y1, y3, y4, y5, y7, y8, y9, y10, y11, y12, z, z86, z87, z88, z89, z90, a1, a2, a, b, b', d, e⟩
  · exact Or.inl ⟨y1, y3, y4, y5, y7, y8, y9, y10, y11, y12, z, z86, z87, z88, z89, z90, a, b, fun j j1 j2 j3 => (d j j1 j2 j3).trans (hf j j1 j2 j3), e⟩
  · exact Or.inr ⟨F, y1, y3, y4, y5, y7, y8, y9, y10, y11, y12, z, z86, z87, z88, z89, z90, a1, a2, a, b, b', fun j j1 j2 j3 => (d j j1 j2 j3).trans (hf j j1 j2 j3), e⟩
theorem t_loop : ∀ (m n kc kr i p : Nat) (x1 x7 x8 x9 x10 x11 x12 x74 x86 x87 x88 x89 x90 : Nat → Int32), n + m = 40 → m < kc → m + 1 < kr → BP t sz c i p x1 x3 x4 x5 x74 x91 → DR n x7 x8 x9 x10 x11 x12 x86 x87 x88 x89 x90 → TE x74 (lq11 (fX10_readText_16b x2) kc (nI n) x1 x3 x4 x5 x7 x8 x9 x10 x11 x12) (lq8 (fX12_readsAll_80b x91) kr (nI n) 1 x74 x86 x87 x88 x89 x90)
  | m, n, kc + 1, kr + 2, i, p, x1, x7, x8, x9, x10, x11, x12, x74, x86, x87, x88, x89, x90, hn, hc, hr, hB, hD => by
    have hk : ∀ a b d e f g k, lq8 (fX12_readsAll_80b x91) (kr + 1) a 0 b d e f g k = some (upd b 17 0, d, e, f, g, k) := fun a b d e f g k => by
      show fX12_readsAll_80b x91 (lq8 (fX12_readsAll_80b x91) kr) a 0 b d e f g k = _
      unfold fX12_readsAll_80b
      rw [if_pos rfl]
    rcases t_step (x2 := x2) hB hD (by omega) (lq11 (fX10_readText_16b x2) kc) (lq8 (fX12_readsAll_80b x91) (kr + 1)) hk with ⟨n40, i', p', y1, y7, y8, y9, y10, y11, y12, z74, z86, z87, z88, z89, z90, ec, er, zf, b2, d2⟩ | hT
    · match m, hn, hc, hr with
      | 0, hn, hc, hr => omega
      | m + 1, hn, hc, hr =>
        have ih := t_loop m (n + 1) kc (kr + 1) i' p' y1 y7 y8 y9 y10 y11 y12 z74 z86 z87 z88 z89 z90 (by omega) (by omega) (by omega) b2 d2
        show TE x74 (fX10_readText_16b x2 (lq11 (fX10_readText_16b x2) kc) (nI n) x1 x3 x4 x5 x7 x8 x9 x10 x11 x12) (fX12_readsAll_80b x91 (lq8 (fX12_readsAll_80b x91) (kr + 1)) (nI n) 1 x74 x86 x87 x88 x89 x90)
        rw [ec, er]
        exact TE_fr (fun j _ a b => zf j a b) ih
    · exact hT
end TALL

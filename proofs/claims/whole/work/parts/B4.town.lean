section TOWNC
variable {n : Nat} {κ : QT} {X : XT} {Y : YT} {Z : ZT} {b0 : Nat} {D : GD}
theorem VD_mono {H M B B' : Nat} {S : SN} (h : VD H M B S) (hb : B ≤ B') : VD H M B' S := by
  obtain ⟨a, b, c, d, e⟩ := h
  exact ⟨a, b, c, by omega, e⟩
theorem nf {a : Nat} {b : Nat} (h : fix a) (hb : a ≠ b) : ¬ (scrC a = true ∨ a = b) := fun hh => hh.elim (scrC_n (scrC_f h)) hb
theorem nf2 {a : Nat} {b : Nat} (h : fix a) (hb : a ≠ b) : ¬ (scr a = true ∨ a = b) := fun hh => hh.elim (fun e => by rw [h.1] at e; cases e) hb
theorem k_town (l : Launch) (h : INV n κ X Z) : CALL l b0 D yX11_town cX11_town 2 yX12_town cX12_town 2 [] n κ X Y Z := by
  obtain ⟨hP, ⟨sz, hT⟩, ⟨h26, h37, h38⟩, rc, hrc, h04, h21, hRL, ⟨H, M, K, N, q, S0, S, nn, nd, nh, np, c, P, fo, x, hV, hC, hR⟩, hI⟩ := id h
  rcases e_town (x3 := X 3) (x4 := X 4) (x5 := X 5) (x7 := X 7) (x8 := X 8) (x9 := X 9) (x10 := X 10) (x11 := X 11) (x12 := X 12) (x16 := X 16) (x17 := X 17) (x18 := X 18) (x19 := X 19) (x20 := X 20) (x21 := X 21) (x22 := X 22) (x23 := X 23) (x24 := X 24) (x25 := X 25) (x26 := X 26) (x75 := X 75) (x76 := X 76) (x77 := X 77) (x78 := X 78) (x79 := X 79) (x83 := X 83) (x84 := X 84) (x85 := X 85) (x86 := X 86) (x87 := X 87) (x88 := X 88) (x89 := X 89) (x90 := X 90) hT with ⟨r, y1, y3, y4, y5, y7, y8, y9, y10, y11, y12, z74, z86, z87, z88, z89, z90, ec, er, hT', f74, f43⟩ | ⟨r, y1, y3, y4, y5, y7, y8, y9, y10, y11, y12, z74, z86, z87, z88, z89, z90, H', M', K', N', q', S0', y17, y18, y19, y20, y21, y22, y23, y24, y25, y26, z75, z76, z77, z78, z79, z83, z84, z85, ec, er, hT', f74, f43, hBT, f8, f9, f10⟩
  · have mC := c_X11_town l (X0 := X) (Y0 := Y) (Z := Z) hP.1 (b0 := b0) (D := D) rfl rfl ec
    have g1 := ov_ok (f := fun a => scrC a = true ∨ a = 1) (X := X) (ks := [1, 2, 3, 4, 5, 7, 8, 9, 10, 11, 12, 16, 17, 18, 19, 20, 21, 22, 23, 24, 25, 26]) (xs := [y1, X 2, y3, y4, y5, y7, y8, y9, y10, y11, y12, X 16, X 17, X 18, X 19, X 20, X 21, X 22, X 23, X 24, X 25, X 26]) (by refine ⟨?_, ?_, ?_, ?_, ?_, ?_, ?_, ?_, ?_, ?_, ?_, ?_, ?_, ?_, ?_, ?_, ?_, ?_, ?_, ?_, ?_, ?_, ?_⟩ <;> first | exact Or.inr rfl | exact Or.inl (by decide) | trivial)
    have e1 : ov X [1, 2, 3, 4, 5, 7, 8, 9, 10, 11, 12, 16, 17, 18, 19, 20, 21, 22, 23, 24, 25, 26] [y1, X 2, y3, y4, y5, y7, y8, y9, y10, y11, y12, X 16, X 17, X 18, X 19, X 20, X 21, X 22, X 23, X 24, X 25, X 26] 1 = y1 := rfl
    generalize ov X [1, 2, 3, 4, 5, 7, 8, 9, 10, 11, 12, 16, 17, 18, 19, 20, 21, 22, 23, 24, 25, 26] [y1, X 2, y3, y4, y5, y7, y8, y9, y10, y11, y12, X 16, X 17, X 18, X 19, X 20, X 21, X 22, X 23, X 24, X 25, X 26] = X1 at mC g1 e1
    have hg : ∀ a, scrC a = false → a ≠ 1 → X1 a = X a := fun a h1 h2 => g1 a fun hh => hh.elim (scrC_n h1) h2
    have er1 : fX12_town (X1 91) (X1 74) (X1 75) (X1 76) (X1 77) (X1 78) (X1 79) (X1 83) (X1 84) (X1 85) (X1 86) (X1 87) (X1 88) (X1 89) (X1 90) = some (r, z74, X1 75, X1 76, X1 77, X1 78, X1 79, X1 83, X1 84, X1 85, z86, z87, z88, z89, z90) := by
      rw [hg 91 (by decide) (by decide), hg 74 (by decide) (by decide), hg 75 (by decide) (by decide), hg 76 (by decide) (by decide), hg 77 (by decide) (by decide), hg 78 (by decide) (by decide), hg 79 (by decide) (by decide), hg 83 (by decide) (by decide), hg 84 (by decide) (by decide), hg 85 (by decide) (by decide), hg 86 (by decide) (by decide), hg 87 (by decide) (by decide), hg 88 (by decide) (by decide), hg 89 (by decide) (by decide), hg 90 (by decide) (by decide)]
      exact er
    have mR := c_X12_town l (X0 := X1) (Y0 := ov Y [] []) (Z := Z) hP.1 (b0 := b0) (D := D) rfl rfl er1
    refine ⟨r, _, _, _, _, _, _, _, _, _, _, CL_mk mC (by omega) (by omega) (by omega) (by omega), CLR_mk hP.1 mR (by omega) (by omega) (by omega) (by omega), ?_⟩
    have g2 := ov_ok (f := fun a => scr a = true ∨ a = 74) (X := X1) (ks := [74, 75, 76, 77, 78, 79, 83, 84, 85, 86, 87, 88, 89, 90, 91]) (xs := [z74, X1 75, X1 76, X1 77, X1 78, X1 79, X1 83, X1 84, X1 85, z86, z87, z88, z89, z90, X1 91]) (by refine ⟨?_, ?_, ?_, ?_, ?_, ?_, ?_, ?_, ?_, ?_, ?_, ?_, ?_, ?_, ?_, ?_⟩ <;> first | exact Or.inr rfl | exact Or.inl (by decide) | trivial)
    have e74 : ov X1 [74, 75, 76, 77, 78, 79, 83, 84, 85, 86, 87, 88, 89, 90, 91] [z74, X1 75, X1 76, X1 77, X1 78, X1 79, X1 83, X1 84, X1 85, z86, z87, z88, z89, z90, X1 91] 74 = z74 := rfl
    generalize ov X1 [74, 75, 76, 77, 78, 79, 83, 84, 85, 86, 87, 88, 89, 90, 91] [z74, X1 75, X1 76, X1 77, X1 78, X1 79, X1 83, X1 84, X1 85, z86, z87, z88, z89, z90, X1 91] = X2 at g2 e74
    have g : ∀ a, scr a = false → a ≠ 74 → a ≠ 1 → X2 a = X a := fun a h1 h2 h3 => (g2 a fun hh => hh.elim (fun e => by rw [h1] at e; cases e) h2).trans (hg a (by
      unfold scr at h1; unfold scrC
      cases hh : ((decide (3 ≤ a) && decide (a ≤ 14)) || (decide (32 ≤ a) && decide (a ≤ 73))) with
      | false => rfl
      | true => rw [hh] at h1; simp at h1) h3)
    have hi : ∀ a, 114 ≤ a → X2 a = X a := fun a ha => g a (fix_ge ha).1 (by omega) (by omega)
    refine INV_lo h hi ⟨g 92 (by decide) (by decide) (by decide), g 93 (by decide) (by decide) (by decide), g 94 (by decide) (by decide) (by decide), g 95 (by decide) (by decide) (by decide), g 96 (by decide) (by decide) (by decide), g 97 (by decide) (by decide) (by decide)⟩ (g 113 (by decide) (by decide) (by decide)) (fun j _ => by rw [g 112 (by decide) (by decide) (by decide)]) (by rw [g 0 (by decide) (by decide) (by decide)]) ?_ ?_ ⟨0, ?_⟩ fun rc _ _ hl => LIV_same hP hi (fun i h => g _ (fix_16 h).1 (by omega) (by omega)) (g 75 (by decide) (by decide) (by decide)) (g 76 (by decide) (by decide) (by decide)) (g 77 (by decide) (by decide) (by decide)) (g 78 (by decide) (by decide) (by decide)) (g 79 (by decide) (by decide) (by decide)) (g 80 (by decide) (by decide) (by decide)) (g 81 (by decide) (by decide) (by decide)) (g 82 (by decide) (by decide) (by decide)) (g 83 (by decide) (by decide) (by decide)) (g 84 (by decide) (by decide) (by decide)) (g 85 (by decide) (by decide) (by decide)) (g 102 (by decide) (by decide) (by decide)) (by rw [e74, f43]) hl
    · rw [e74]; exact f74 21 (by omega) (by omega) (by omega) (by omega) (by omega) (by omega) (by omega)
    · rw [e74]; exact ⟨f74 26 (by omega) (by omega) (by omega) (by omega) (by omega) (by omega) (by omega), f74 37 (by omega) (by omega) (by omega) (by omega) (by omega) (by omega) (by omega), f74 38 (by omega) (by omega) (by omega) (by omega) (by omega) (by omega) (by omega)⟩
    · rw [e74, (g2 1 (by decide)).trans e1, g 2 (by decide) (by decide) (by decide), g 91 (by decide) (by decide) (by decide)]; exact hT'
  · have mC := c_X11_town l (X0 := X) (Y0 := Y) (Z := Z) hP.1 (b0 := b0) (D := D) rfl rfl ec
    have hi1 : ∀ a, 114 ≤ a → ov X [1, 2, 3, 4, 5, 7, 8, 9, 10, 11, 12, 16, 17, 18, 19, 20, 21, 22, 23, 24, 25, 26] [y1, X 2, y3, y4, y5, y7, y8, y9, y10, y11, y12, upd (upd (X 16) 3 0) 7 0, y17, y18, y19, y20, y21, y22, y23, y24, y25, y26] a = X a := fun a ha => ov_hi ha (by decide)
    have mR := c_X12_town l (X0 := ov X [1, 2, 3, 4, 5, 7, 8, 9, 10, 11, 12, 16, 17, 18, 19, 20, 21, 22, 23, 24, 25, 26] [y1, X 2, y3, y4, y5, y7, y8, y9, y10, y11, y12, upd (upd (X 16) 3 0) 7 0, y17, y18, y19, y20, y21, y22, y23, y24, y25, y26]) (Y0 := ov Y [] []) (Z := Z) hP.1 (b0 := b0) (D := D) rfl rfl er
    refine ⟨r, _, _, _, _, _, _, _, _, _, _, CL_mk mC (by omega) (by omega) (by omega) (by omega), CLR_mk hP.1 mR (by omega) (by omega) (by omega) (by omega), ?_⟩
    refine INV_lo h (fun a ha => (ov_hi ha (by decide)).trans (hi1 a ha)) ⟨rfl, rfl, rfl, rfl, rfl, rfl⟩ rfl (fun _ _ => rfl) rfl (f74 21 (by omega) (by omega) (by omega) (by omega) (by omega) (by omega) (by omega)) ⟨f74 26 (by omega) (by omega) (by omega) (by omega) (by omega) (by omega) (by omega), f74 37 (by omega) (by omega) (by omega) (by omega) (by omega) (by omega) (by omega), f74 38 (by omega) (by omega) (by omega) (by omega) (by omega) (by omega) (by omega)⟩ ⟨0, hT'⟩ fun rc' hrc' h04' _ => ?_
    have erc : rc' = rc := (nI_eq (by omega) (by omega)).mp (h04'.symm.trans h04)
    subst erc
    obtain ⟨a1, a2, a3, a4, a5, a6, a7⟩ := hV
    obtain ⟨⟨b1, b2, b3, b4⟩, _⟩ := hC
    obtain ⟨⟨r0, r1, r2, r3, r4, r8, r9, r10⟩, _⟩ := hR
    obtain ⟨hVD, ⟨tQ, tK, t0, t1, t3, t4, tq⟩, ⟨_, _, q0, q2, q3, q4, qq⟩, hRC0, hRC, hRR, g0, g2, g1, g3, g9, g15⟩ := hBT
    exact ⟨H', M', K', N', q', S0', S0', 0, fun _ => 0, fun _ => 0, fun _ => 0, 0, fun _ => S0', fo, x, ⟨tK, tQ, a3, by omega, by omega, a6, g0, g2, Or.inr ⟨VD_mono hVD (by omega), hVD, fun j hj => absurd hj (by omega), fun j hj => absurd hj (by omega)⟩⟩, ⟨⟨rfl, rfl, b3, b4⟩, ⟨t0, t1, t3, t4, tq⟩, hRC0, hRC, fun j hj => absurd hj (by omega), fun j hj => absurd hj (by omega)⟩, ⟨q0, g1, q2, q3, q4, f8, f9.trans r9, f10.trans r10⟩, qq, hRR, fun j hj => absurd hj (by omega), ⟨g3, g9, g15⟩, fun k hk => absurd hk (by omega), f43⟩
end TOWNC

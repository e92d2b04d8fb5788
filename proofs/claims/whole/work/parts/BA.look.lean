section LOOKC
variable {n rc : Nat} {κ : QT} {X X1 : XT} {Y : YT} {Z : ZT} {b0 : Nat} {D : GD} {H M K N : Nat} {q : Nat → Nat} {S0 S : SN} {nn : Nat} {nd nh np : Nat → Nat} {c : Nat} {P : Nat → SN} {fo : Int32} {x : Nat}
theorem liv_fnd (hP : POOL n κ Z) (hrc : rc ≤ 6) (hV : VSc rc H M K N q S0 S nn nd nh np c P fo x) (hto : VD H M 0 S0 ∧ (∀ j, j < nn → nd j ≤ 60 ∧ nh j < M ∧ np j ≤ H)) (hC : CS X Z 16 H M K N q S0 S nn nd nh np c P fo x) (hR : RSc H M K N q S0 S nn nd nh np c P fo x (X 75) (X 76) (X 77) (X 78) (X 79) (X 80) (X 81) (X 82) (X 83) (X 84) (X 85) (X 102) (X 74 43)) {WS : Nat → WW} (hW : RWS rc n κ X Z WS) {lk : Nat} (hlk : lk ≤ 60) : FND n rc lk κ X Z WS H M K N q S0 nn nd nh np ∧ TR H M K N q (X 75) (X 79) ∧ BG S0 (X 75 1) (X 83) (X 84) (X 85) := by
  obtain ⟨⟨b1, b2, b3, b4⟩, ⟨t0, t1, t3, t4, tq⟩, c3, c4, c5, _⟩ := hC
  obtain ⟨⟨r0, r1, r2, r3, r4, r8, r9, r10⟩, s2, s3, s4, s5, s6, s7⟩ := hR
  obtain ⟨a1, a2, a3, a4, a5, a6, a7, a8, _⟩ := hV
  exact ⟨⟨hP.1, hrc, hlk, hto.1, ⟨a2, a1, t0, t1, t3, t4, tq⟩, c3, ⟨a5, fun j hj => ⟨hto.2 j hj, c5 j hj, s4 j hj⟩⟩, b2, hW⟩, ⟨a2, a1, r0, r2, r3, r4, s2⟩, a7, a8, r1, s5⟩
theorem r_ruledN {x79 x80 x81 x82 x83 x84 x85 x92 x93 x94 x95 x96 x97 x74 x75 x76 x77 x78 x101 x110 x112 : FI} {y99 y100 : Nat → Int64} {v1 : Int32} (h : fX12_isTown x75 = some (nI 0) ∨ (fX12_isTown x75 = some (nI 1) ∧ fX12_in v1.toInt64 0 1 = some (nI 0))) : fX12_ruled x79 x80 x81 x82 x83 x84 x85 x92 x93 x94 x95 x96 x97 v1 x74 x75 x76 x77 x78 x101 x110 x112 y99 y100 = some (-3, x74, x75, x76, x77, x78, x101, x110, x112, y99, y100) := by
  unfold fX12_ruled fX12_ruled_0
  rcases h with h | ⟨h, h2⟩
  · rw [h, bd1_s, if_pos z00]
  · rw [h, bd1_s, if_neg (show ¬ nI 1 = (0 : Int32) from one_ne), h2, bd1_s, if_pos z00]
theorem r_lookN {x79 x80 x81 x82 x83 x84 x85 x92 x93 x94 x95 x96 x97 x74 x75 x76 x77 x78 x101 x110 x111 x112 : FI} {y99 y100 : Nat → Int64} {v1 v2 : Int32} (h : fX12_isTown x75 = some (nI 0) ∨ (fX12_isTown x75 = some (nI 1) ∧ (fX12_in v1.toInt64 0 60 = some (nI 0) ∨ (fX12_in v1.toInt64 0 60 = some (nI 1) ∧ fX12_in v2.toInt64 0 1 = some (nI 0))))) : fX12_look x79 x80 x81 x82 x83 x84 x85 x92 x93 x94 x95 x96 x97 v1 v2 x74 x75 x76 x77 x78 x101 x110 x111 x112 y99 y100 = some (-1, x74, x75, x76, x77, x78, x101, x110, x111, x112, y99, y100) := by
  unfold fX12_look fX12_look_0
  rcases h with h | ⟨h, h2 | ⟨h2, h3⟩⟩
  · rw [h, bd1_s, if_pos z00]
  · rw [h, bd1_s, if_neg (show ¬ nI 1 = (0 : Int32) from one_ne), h2, bd1_s, if_pos z00]
  · rw [h, bd1_s, if_neg (show ¬ nI 1 = (0 : Int32) from one_ne), h2, bd1_s, if_neg (show ¬ nI 1 = (0 : Int32) from one_ne), h3, bd1_s, if_pos z00]
theorem k_ruled (l : Launch) (h : INV n κ X Z) (v1 : Int32) : CALL l b0 D yX11_ruled cX11_ruled 2 yX12_ruled cX12_ruled 5 [.int v1] n κ X Y Z := by
  obtain ⟨hP, hT, ⟨h26, h37, h38⟩, rc, hrc, h04, h21, hRL, ⟨H, M, K, N, q, S0, S, nn, nd, nh, np, c, P, fo, x, hV, hC, hR⟩, hI⟩ := id h
  have t0 : X 17 0 = nI H := hC.2.1.1
  have r0 : X 75 0 = nI H := hR.1.1
  have no : CL l b0 D yX11_ruled cX11_ruled 2 (.ref (b0 + 0) :: [.int v1]) (n, κ, X, Y, Z) (n, κ, X, Y, Z) (-3) → fX12_ruled (X 79) (X 80) (X 81) (X 82) (X 83) (X 84) (X 85) (X 92) (X 93) (X 94) (X 95) (X 96) (X 97) v1 (X 74) (X 75) (X 76) (X 77) (X 78) (X 101) (X 110) (X 112) (Y 99) (Y 100) = some (-3, X 74, X 75, X 76, X 77, X 78, X 101, X 110, X 112, Y 99, Y 100) → CALL l b0 D yX11_ruled cX11_ruled 2 yX12_ruled cX12_ruled 5 [.int v1] n κ X Y Z := fun hc er => by
    have mR := c_X12_ruled l (X0 := X) (Y0 := Y) (Z := Z) hP.1 (b0 := b0) (D := D) rfl rfl er
    refine ⟨-3, _, _, _, _, _, _, _, _, _, _, hc, CLR_mk hP.1 mR (by omega) (by omega) (by omega) (by omega), ?_⟩
    rw [show ov X [74, 75, 76, 77, 78, 79, 80, 81, 82, 83, 84, 85, 92, 93, 94, 95, 96, 97, 101, 110, 112] [X 74, X 75, X 76, X 77, X 78, X 79, X 80, X 81, X 82, X 83, X 84, X 85, X 92, X 93, X 94, X 95, X 96, X 97, X 101, X 110, X 112] = X from ov_id' rfl]
    exact h
  obtain ⟨m6, mt⟩ := M6 hV
  rcases mt with ⟨rfl, rfl⟩ | ⟨hDS, hto⟩
  · exact no (CL_mk (c_ruledA l hP.1 (u_told t0)) (by omega) (by omega) (by omega) (by omega)) (r_ruledN (Or.inl (u_town r0)))
  have h5 := hDS.1.2.1
  have e1 := p_told1 t0 (by omega) hDS.1.2.2.1
  have e2 := p_town1 r0 (by omega) hDS.1.2.2.1
  rcases p_within (lo := 0) (hi := 1) (by omega) (by omega) v1 with ⟨w, _, w1, rfl, d1, d2⟩ | ⟨d1, d2⟩
  · obtain ⟨WS, hW⟩ := RWS_mk hrc hRL
    obtain ⟨hF, hTR, hBG⟩ := liv_fnd hP hrc hV ⟨hto.1, hto.2.1⟩ hC hR hW (show 0 ≤ 60 by omega)
    obtain ⟨X1, Y1, hM, g1, i2, i3, _, i5⟩ := f_find (Y := Y) (b0 := b0) (D := D) l hF
    obtain ⟨⟨z74, z75, z76, z77, z78, z101, z110, z112, z99, z100⟩, er, hFD⟩ := r_ruled (x76 := X 76) (x77 := X 77) (x78 := X 78) (x101 := X 101) (x110 := X 110) (x112 := X 112) (y99 := Y1 99) (y100 := Y1 100) hrc w1 hto.1 hTR hBG hW.1 h38 h37 h21 hF.2.2.2.2.2.2.1 hR.1.2.2.2.2.2.1
    have mC : CL l b0 D yX11_ruled cX11_ruled 2 (.ref (b0 + 0) :: [.int (nI w)]) (n, κ, X, Y, Z) (n, κ, X1, Y1, Z) (ansU w (cg (okB H M K N q WS nn nd nh np S0) (rc + 1))) := by
      rw [← h04] at hM
      unfold ansU
      by_cases w0 : w = 0
      · subst w0
        have := c_ruledC l hP.1 e1 d1 hM rfl
        rw [i2, i3] at this
        rw [if_pos rfl]
        exact CL_mk this (by omega) (by omega) (by omega) (by omega)
      · rw [if_neg w0]
        have w0' : ¬ nI w = 0 := fun e => w0 ((nI_eq (b := 0) (by omega) (by omega)).mp e)
        have hle := (cg_le (okB H M K N q WS nn nd nh np S0) (rc + 1)).1
        by_cases c0 : (cg (okB H M K N q WS nn nd nh np S0) (rc + 1)).1 = 0
        · rw [if_pos c0]
          exact CL_mk (c_ruledE l hP.1 e1 d1 hM w0' (by rw [i2, i3, c0]; decide)) (by omega) (by omega) (by omega) (by omega)
        · rw [if_neg c0]
          have := c_ruledD l hP.1 e1 d1 hM w0' (by rw [i2, i3]; exact nle0 (by omega) (by omega))
          rw [i5 (by rw [i3]; exact c0)] at this
          exact CL_mk this (by omega) (by omega) (by omega) (by omega)
    rw [← g1 74 (by decide), ← g1 75 (by decide), ← g1 76 (by decide), ← g1 77 (by decide), ← g1 78 (by decide), ← g1 79 (by decide), ← g1 80 (by decide), ← g1 81 (by decide), ← g1 82 (by decide), ← g1 83 (by decide), ← g1 84 (by decide), ← g1 85 (by decide), ← g1 92 (by decide), ← g1 93 (by decide), ← g1 94 (by decide), ← g1 95 (by decide), ← g1 96 (by decide), ← g1 97 (by decide), ← g1 101 (by decide), ← g1 110 (by decide), ← g1 112 (by decide)] at er
    have mR := c_X12_ruled l (X0 := X1) (Y0 := Y1) (Z := Z) hP.1 (b0 := b0) (D := D) rfl rfl er
    refine ⟨_, _, _, _, _, _, _, _, _, _, _, mC, CLR_mk hP.1 mR (by omega) (by omega) (by omega) (by omega), INV_ag ?_ h⟩
    exact AG_Fr (X1 := X1) g1 (fun a ha => ov_ok (f := fun a => scr a = true ∨ mid a = true) (X := X1) (by refine ⟨?_, ?_, ?_, ?_, ?_, ?_, ?_, ?_, ?_, ?_, ?_, ?_, ?_, ?_, ?_, ?_, ?_, ?_, ?_, ?_, ?_, ?_⟩ <;> first | exact Or.inr rfl | exact Or.inl (by decide) | trivial) a (fix_n ha)) hFD
  · exact no (CL_mk (c_ruledB l hP.1 e1 d1) (by omega) (by omega) (by omega) (by omega)) (r_ruledN (Or.inr ⟨e2, d2⟩))
theorem k_look (l : Launch) (h : INV n κ X Z) (v1 v2 : Int32) : CALL l b0 D yX11_look cX11_look 5 yX12_look cX12_look 6 [.int v1, .int v2] n κ X Y Z := by
  obtain ⟨hP, hT, ⟨h26, h37, h38⟩, rc, hrc, h04, h21, hRL, ⟨H, M, K, N, q, S0, S, nn, nd, nh, np, c, P, fo, x, hV, hC, hR⟩, hI⟩ := id h
  have t0 : X 17 0 = nI H := hC.2.1.1
  have r0 : X 75 0 = nI H := hR.1.1
  have no : CL l b0 D yX11_look cX11_look 5 (.ref (b0 + 0) :: [.int v1, .int v2]) (n, κ, X, Y, Z) (n, κ, X, Y, Z) (-1) → fX12_look (X 79) (X 80) (X 81) (X 82) (X 83) (X 84) (X 85) (X 92) (X 93) (X 94) (X 95) (X 96) (X 97) v1 v2 (X 74) (X 75) (X 76) (X 77) (X 78) (X 101) (X 110) (X 111) (X 112) (Y 99) (Y 100) = some (-1, X 74, X 75, X 76, X 77, X 78, X 101, X 110, X 111, X 112, Y 99, Y 100) → CALL l b0 D yX11_look cX11_look 5 yX12_look cX12_look 6 [.int v1, .int v2] n κ X Y Z := fun hc er => by
    have mR := c_X12_look l (X0 := X) (Y0 := Y) (Z := Z) hP.1 (b0 := b0) (D := D) rfl rfl er
    refine ⟨-1, _, _, _, _, _, _, _, _, _, _, hc, CLR_mk hP.1 mR (by omega) (by omega) (by omega) (by omega), ?_⟩
    rw [show ov X [74, 75, 76, 77, 78, 79, 80, 81, 82, 83, 84, 85, 92, 93, 94, 95, 96, 97, 101, 110, 111, 112] [X 74, X 75, X 76, X 77, X 78, X 79, X 80, X 81, X 82, X 83, X 84, X 85, X 92, X 93, X 94, X 95, X 96, X 97, X 101, X 110, X 111, X 112] = X from ov_id' rfl]
    exact h
  obtain ⟨m6, mt⟩ := M6 hV
  rcases mt with ⟨rfl, rfl⟩ | ⟨hDS, hto⟩
  · exact no (CL_mk (c_lookA l hP.1 (u_told t0)) (by omega) (by omega) (by omega) (by omega)) (r_lookN (Or.inl (u_town r0)))
  have h5 := hDS.1.2.1
  have e1 := p_told1 t0 (by omega) hDS.1.2.2.1
  have e2 := p_town1 r0 (by omega) hDS.1.2.2.1
  rcases p_within (lo := 0) (hi := 60) (by omega) (by omega) v1 with ⟨lk, _, k1, rfl, f1, f2⟩ | ⟨f1, f2⟩
  · rcases p_within (lo := 0) (hi := 1) (by omega) (by omega) v2 with ⟨w, _, w1, rfl, d1, d2⟩ | ⟨d1, d2⟩
    · obtain ⟨WS, hW⟩ := RWS_mk hrc hRL
      obtain ⟨hF, hTR, hBG⟩ := liv_fnd hP hrc hV ⟨hto.1, hto.2.1⟩ hC hR hW k1
      obtain ⟨X1, Y1, hM, g1, i2, _, i4, _⟩ := f_find (Y := Y) (b0 := b0) (D := D) l hF
      obtain ⟨⟨z74, z75, z76, z77, z78, z101, z110, z111, z112, z99, z100⟩, er, hFE⟩ := r_look (x76 := X 76) (x77 := X 77) (x78 := X 78) (x101 := X 101) (x110 := X 110) (x111 := X 111) (x112 := X 112) (y99 := Y1 99) (y100 := Y1 100) hrc k1 w1 hto.1 hTR hBG hW.1 h38 h37 h21 hF.2.2.2.2.2.2.1 hR.1.2.2.2.2.2.1 f2 d2
      have g60 : ∀ i h, h < 6 → sPl (run H M K N q (WS i) lk S0) h ≤ 60 := fun i h hh => by
        have := ((VD_run (W := WS i) (q := q) (N := N) (n := lk) hV.1 hto.1).1.2.2.2.1 h hh).1
        have := hDS.1.2.2.1
        omega
      have hle := gs_le (okB H M K N q WS nn nd nh np S0) (fun i h => sPl (run H M K N q (WS i) lk S0) h) (rc + 1)
      have h60 := gs_60 (ok := okB H M K N q WS nn nd nh np S0) (g := fun i h => sPl (run H M K N q (WS i) lk S0) h) g60 (rc + 1)
      have e174 : X1 17 4 = nI M := by rw [g1 17 (by decide)]; exact hC.2.1.2.2.2.1
      have mC : CL l b0 D yX11_look cX11_look 5 (.ref (b0 + 0) :: [.int (nI lk), .int (nI w)]) (n, κ, X, Y, Z) (n, κ, X1, Y1, Z) (ansL M w (gs (okB H M K N q WS nn nd nh np S0) (fun i h => sPl (run H M K N q (WS i) lk S0) h) (rc + 1))) := by
        rw [← h04] at hM
        generalize gs (okB H M K N q WS nn nd nh np S0) (fun i h => sPl (run H M K N q (WS i) lk S0) h) (rc + 1) = G at *
        obtain ⟨cN, R⟩ := G
        unfold ansL
        have i2' : X1 67 3 = nI cN := i2
        have hle' : cN ≤ rc + 1 := hle
        by_cases c0 : cN = 0
        · rw [if_pos (Or.inl c0)]
          exact CL_mk (c_lookD l hP.1 e1 f1 d1 hM (by rw [i2', c0]; rfl)) (by omega) (by omega) (by omega) (by omega)
        have c0' : ¬ X1 67 3 = 0 := by rw [i2']; exact fun e => c0 ((nI_eq (b := 0) (by omega) (by omega)).mp e)
        by_cases m0 : M = 0
        · rw [if_pos (Or.inr m0)]
          exact CL_mk (c_lookE l hP.1 e1 f1 d1 hM c0' (by rw [e174, m0]; rfl)) (by omega) (by omega) (by omega) (by omega)
        have m0' : ¬ X1 17 4 = 0 := by rw [e174]; exact fun e => m0 ((nI_eq (b := 0) (by omega) (by omega)).mp e)
        rw [if_neg (fun hh => hh.elim c0 m0)]
        have hq := p_lkL (x67 := X1 67) (x73 := X1 73) (R := R) (c := cN) m6 (by omega) (by omega) i2' i4 h60 (M - 1) 0 (by omega)
        have hq' : lkL (X1 17 4) (X1 67) (X1 73) (M - 1 + 1) 1 0 = some (nI (bst R cN (M - 1))) := by rw [e174]; exact hq
        have bl := bst_le R cN (M - 1)
        by_cases w0 : w = 0
        · subst w0
          rw [if_pos rfl]
          exact CL_mk (c_lookF l hP.1 e1 f1 d1 hM c0' m0' hq' rfl) (by omega) (by omega) (by omega) (by omega)
        · rw [if_neg w0]
          have w0' : ¬ nI w = 0 := fun e => w0 ((nI_eq (b := 0) (by omega) (by omega)).mp e)
          exact CL_mk (c_lookG l hP.1 e1 f1 d1 hM c0' m0' hq' w0' (p_alikeC (by omega) (by omega) i2' i4 h60)) (by omega) (by omega) (by omega) (by omega)
      rw [← g1 74 (by decide), ← g1 75 (by decide), ← g1 76 (by decide), ← g1 77 (by decide), ← g1 78 (by decide), ← g1 79 (by decide), ← g1 80 (by decide), ← g1 81 (by decide), ← g1 82 (by decide), ← g1 83 (by decide), ← g1 84 (by decide), ← g1 85 (by decide), ← g1 92 (by decide), ← g1 93 (by decide), ← g1 94 (by decide), ← g1 95 (by decide), ← g1 96 (by decide), ← g1 97 (by decide), ← g1 101 (by decide), ← g1 110 (by decide), ← g1 111 (by decide), ← g1 112 (by decide)] at er
      have mR := c_X12_look l (X0 := X1) (Y0 := Y1) (Z := Z) hP.1 (b0 := b0) (D := D) rfl rfl er
      refine ⟨_, _, _, _, _, _, _, _, _, _, _, mC, CLR_mk hP.1 mR (by omega) (by omega) (by omega) (by omega), INV_ag ?_ h⟩
      exact AG_Fr (X1 := X1) g1 (fun a ha => ov_ok (f := fun a => scr a = true ∨ mid a = true) (X := X1) (by refine ⟨?_, ?_, ?_, ?_, ?_, ?_, ?_, ?_, ?_, ?_, ?_, ?_, ?_, ?_, ?_, ?_, ?_, ?_, ?_, ?_, ?_, ?_, ?_⟩ <;> first | exact Or.inr rfl | exact Or.inl (by decide) | trivial) a (fix_n ha)) hFE
    · exact no (CL_mk (c_lookC l hP.1 e1 f1 d1) (by omega) (by omega) (by omega) (by omega)) (r_lookN (Or.inr ⟨e2, Or.inr ⟨f2, d2⟩⟩))
  · exact no (CL_mk (c_lookB l hP.1 e1 f1) (by omega) (by omega) (by omega) (by omega)) (r_lookN (Or.inr ⟨e2, Or.inl f2⟩))
end LOOKC

section DAYC
variable {n rc : Nat} {κ : QT} {X X1 : XT} {Y : YT} {Z : ZT} {b0 : Nat} {D : GD} {H M K N : Nat} {q : Nat → Nat} {S0 S : SN} {nn : Nat} {nd nh np : Nat → Nat} {c : Nat} {P : Nat → SN} {fo : Int32} {x : Nat}
theorem ov_dayR {zs : List FI} {a : Nat} (h0 : a ≠ 79) (h9 : a < 92 ∨ 97 < a) (h01 : a ≠ 101) (h1 : a < 74 ∨ 78 < a) (h2 : a ≠ 102) : ov X [74, 75, 76, 77, 78, 79, 92, 93, 94, 95, 96, 97, 101, 102] zs a = X a := ov_nm fun k hk => by
  simp only [List.mem_cons, List.not_mem_nil, or_false] at hk
  omega
theorem day_g {z74 z75 z76 z77 z78 z101 z102 : FI} {a : Nat} (h1 : scr a = false) (h3 : a < 74 ∨ 78 < a) (h4 : a ≠ 102) : ov X [74, 75, 76, 77, 78, 79, 92, 93, 94, 95, 96, 97, 101, 102] [z74, z75, z76, z77, z78, X 79, X 92, X 93, X 94, X 95, X 96, X 97, z101, z102] a = X a := by
  refine ov_ok (f := fun a => (74 ≤ a ∧ a ≤ 78) ∨ a = 101 ∨ a = 102) ?_ a ?_
  · refine ⟨?_, ?_, ?_, ?_, ?_, ?_, ?_, ?_, ?_, ?_, ?_, ?_, ?_, ?_, ?_⟩ <;> first | exact Or.inr rfl | exact Or.inl (by decide) | trivial
  · intro hh
    have : a ≠ 101 := fun e => by subst e; revert h1; decide
    omega
theorem k_day (l : Launch) (h : INV n κ X Z) : CALL l b0 D yX11_day cX11_day 1 yX12_day cX12_day 1 [] n κ X Y Z := by
  obtain ⟨hP, hT, ⟨h26, h37, h38⟩, rc, hrc, h04, h21, hRL, ⟨H, M, K, N, q, S0, S, nn, nd, nh, np, c, P, fo, x, hV, hC, hR⟩, hI⟩ := id h
  obtain ⟨⟨b1, b2, b3, b4⟩, ⟨t0, t1, t3, t4, tq⟩, _, c4, _⟩ := id hC
  obtain ⟨⟨r0, r1, r2, r3, r4, r8, r9, r10⟩, s2, s3, s4, s5, s6, s7⟩ := id hR
  have no : CL l b0 D yX11_day cX11_day 1 (.ref (b0 + 0) :: []) (n, κ, X, Y, Z) (n, κ, X, Y, Z) (-1) → fX12_day (X 79) (X 92) (X 93) (X 94) (X 95) (X 96) (X 97) (X 74) (X 75) (X 76) (X 77) (X 78) (X 101) (X 102) (Y 99) (Y 100) = some (-1, X 74, X 75, X 76, X 77, X 78, X 101, X 102, Y 99, Y 100) → CALL l b0 D yX11_day cX11_day 1 yX12_day cX12_day 1 [] n κ X Y Z := fun hc er => by
    have mR := c_X12_day l (X0 := X) (Y0 := Y) (Z := Z) hP.1 (b0 := b0) (D := D) rfl rfl er
    refine ⟨-1, _, _, _, _, _, _, _, _, _, _, hc, CLR_mk hP.1 mR (by omega) (by omega) (by omega) (by omega), ?_⟩
    rw [show ov X [74, 75, 76, 77, 78, 79, 92, 93, 94, 95, 96, 97, 101, 102] [X 74, X 75, X 76, X 77, X 78, X 79, X 92, X 93, X 94, X 95, X 96, X 97, X 101, X 102] = X from ov_id' rfl]
    exact h
  obtain ⟨m6, mt⟩ := M6 hV
  rcases mt with ⟨rfl, rfl⟩ | ⟨hDS, hto⟩
  · exact no (CL_mk (c_dayA l hP.1 (u_told t0)) (by omega) (by omega) (by omega) (by omega)) (r_dayN (Or.inl (u_town r0)))
  have h5 := hDS.1.2.1
  have e1 := p_told1 t0 (by omega) hDS.1.2.2.1
  have e2 := p_town1 r0 (by omega) hDS.1.2.2.1
  have d999 : S 0 ≤ 999 := hDS.2.2.2.1
  have e230 : X 23 0 = nI (S 0) := c4.1 0 (by omega)
  have e755 : X 75 5 = nI (S 0) := s3.1 0 (by omega)
  by_cases h9 : S 0 = 999
  · exact no (CL_mk (c_dayB l hP.1 e1 (by rw [e230, h9]; decide)) (by omega) (by omega) (by omega) (by omega)) (r_dayN (Or.inr ⟨e2, by rw [e755, h9]; rfl⟩))
  have hlt : X 23 0 < 999 := by rw [e230]; exact nI_lt (b := 999) (by omega) (by omega)
  obtain ⟨n1, κ1, X1, Z1, hM, hq⟩ := rem l (Y := Y) (b0 := b0) (D := D) hP hV.2.2.2.1 hC
  obtain ⟨⟨q1, q2, q3, q4⟩, ⟨u0, u1, u3, u4, uq⟩, _, c41, _⟩ := hq.2.2.2.2.1
  have hlo := hq.2.2.2.2.2.1
  have hTR : TR H M K N q (X 75) (X 79) := ⟨hV.2.1, hV.1, r0, r2, r3, r4, s2⟩
  have hTC : TC H M K N q (X1 17) (X1 18) := ⟨hV.2.1, hV.1, u0, u1, u3, u4, uq⟩
  have hD8 : VD H M 998 S := ⟨hDS.1, hDS.2.1, hDS.2.2.1, by omega, hDS.2.2.2.2⟩
  have hh : fX9_heatOf (X1 23) (X1 17) (X1 18) = some (nI (hS N q S)) := p_heatOf hV.2.1 u3 uq (show S 0 < 2147483648 by omega) (c41.1 0 (by omega)) (c41.1 2 (by omega)) hDS.2.2.2.2.2
  have ht : hS N q S < 10 := by
    have := (p_heatH (x74 := X 74) (t := hS N q S) (d := 0) (ic := 0) hTR (Or.inr ⟨h37, rfl⟩) e755 (s3.1 2 (by omega)) (by omega) hDS.2.2.2.2.2).2
    omega
  rcases liv_fo hrc h04 hRL hV hC hR with ⟨f1, hW⟩ | ⟨ru, Lru, W, ⟨f1, f2, f3⟩, k1, k2, k3, k4, hCW, hW⟩
  · obtain ⟨xo', y1, y2, y3, z33, ep, hRC⟩ := p_passN (x33 := X1 33) hD8 hTC ht c41
    have mC := c_dayN l hP.1 e1 hlt hM hq.1.1 (by rw [hlo 0 (by omega) (by omega), q3, ← b3]; exact f1) hh ep
    obtain ⟨z74, z75, z76, z77, z78, z101, z102, z99, z100, er, hA⟩ := r_dayY (x101 := X 101) (y99 := Y 99) (y100 := Y 100) hV.2.2.2.1 e2 hDS (by omega) hTR h38 h37 s3 hW s7 s6
    rw [← hlo 74 (by omega) (by omega), ← hlo 75 (by omega) (by omega), ← hlo 76 (by omega) (by omega), ← hlo 77 (by omega) (by omega), ← hlo 78 (by omega) (by omega), ← hlo 79 (by omega) (by omega), ← hlo 92 (by omega) (by omega), ← hlo 93 (by omega) (by omega), ← hlo 94 (by omega) (by omega), ← hlo 95 (by omega) (by omega), ← hlo 96 (by omega) (by omega), ← hlo 97 (by omega) (by omega), ← hlo 101 (by omega) (by omega), ← hlo 102 (by omega) (by omega)] at er
    have mR := c_X12_day l (X0 := ov X1 [23, 24, 25, 26, 17, 33] [xo', y1, y2, y3, X1 17, z33]) (Y0 := Y) (Z := Z1) hq.1.1 (b0 := b0) (D := D) rfl rfl er
    refine ⟨_, _, _, _, _, _, _, _, _, _, _, CL_mk mC (by omega) (by omega) (by omega) (by omega), CLR_mk hq.1.1 mR (by omega) (by omega) (by omega) (by omega), ?_⟩
    refine INV_act h hrc h04 hV hto hDS hR hq (VD_stp hV.1 hD8) hA hRC fun a h1 h2 h3 h4 => (day_g h1 h3 h4).trans ?_
    refine ov_ok (f := fun a => (23 ≤ a ∧ a ≤ 26) ∨ a = 33) ?_ a ?_
    · refine ⟨?_, ?_, ?_, ?_, ?_, ?_, ?_⟩ <;> first | exact Or.inr rfl | exact Or.inl (by decide) | trivial
    · intro hh
      have : a ≠ 33 := fun e => by subst e; revert h1; decide
      omega
  · have eru := hq.2.2.2.2.2.2.2 ru k1 k2 k4
    have hru2 := (hP.1.2.2.2.2.2 ru k2 k1).1
    have hκ := hq.2.2.1
    have hn := hq.2.1
    obtain ⟨xo', y1, y2, y3, z33, zz, yy, ep, hRC⟩ := p_passR (x33 := X1 33) (z := Y (ru + 2)) (y := Y 34) hCW hD8 (by omega) hTC ht c41
    rw [← eru] at ep
    have mC := c_dayR l hP.1 e1 hlt hM hq.1.1 (ru := ru) (Lru := Lru) (by rw [hlo 0 (by omega) (by omega), q3, ← b3, hq.2.2.2.1 15 (by omega)]; exact ⟨f1, f2, f3⟩) ((hκ _ k2).trans k1) (by omega) ((hκ _ (by omega)).trans k3) k4 hh ep
    generalize hY : ov Y [ru + 2, 34] [zz, yy] = Y1 at mC
    obtain ⟨z74, z75, z76, z77, z78, z101, z102, z99, z100, er, hA⟩ := r_dayY (x101 := X 101) (y99 := Y1 99) (y100 := Y1 100) hV.2.2.2.1 e2 hDS (by omega) hTR h38 h37 s3 hW s7 s6
    have gC := ov_ok (f := fun a => (23 ≤ a ∧ a ≤ 26) ∨ a = 33) (X := X1) (ks := [23, 24, 25, 26, ru + 1, 17, 18, 33]) (xs := [xo', y1, y2, y3, X1 (ru + 1), X1 17, X1 18, z33]) (by refine ⟨?_, ?_, ?_, ?_, ?_, ?_, ?_, ?_, ?_⟩ <;> first | exact Or.inr rfl | exact Or.inl (by decide) | trivial)
    have g23 : ov X1 [23, 24, 25, 26, ru + 1, 17, 18, 33] [xo', y1, y2, y3, X1 (ru + 1), X1 17, X1 18, z33] 23 = xo' := rfl
    have g24 : ov X1 [23, 24, 25, 26, ru + 1, 17, 18, 33] [xo', y1, y2, y3, X1 (ru + 1), X1 17, X1 18, z33] 24 = y1 := rfl
    have g25 : ov X1 [23, 24, 25, 26, ru + 1, 17, 18, 33] [xo', y1, y2, y3, X1 (ru + 1), X1 17, X1 18, z33] 25 = y2 := rfl
    have g26 : ov X1 [23, 24, 25, 26, ru + 1, 17, 18, 33] [xo', y1, y2, y3, X1 (ru + 1), X1 17, X1 18, z33] 26 = y3 := rfl
    generalize ov X1 [23, 24, 25, 26, ru + 1, 17, 18, 33] [xo', y1, y2, y3, X1 (ru + 1), X1 17, X1 18, z33] = Xc at mC gC g23 g24 g25 g26
    have hc : ∀ a, a < 114 → a ≠ 16 → (a < 23 ∨ 26 < a) → a ≠ 33 → Xc a = X a := fun a h1 h2 h3 h4 => (gC a (by omega)).trans (hlo a h1 h2)
    rw [← hc 74 (by omega) (by omega) (by omega) (by omega), ← hc 75 (by omega) (by omega) (by omega) (by omega), ← hc 76 (by omega) (by omega) (by omega) (by omega), ← hc 77 (by omega) (by omega) (by omega) (by omega), ← hc 78 (by omega) (by omega) (by omega) (by omega), ← hc 79 (by omega) (by omega) (by omega) (by omega), ← hc 92 (by omega) (by omega) (by omega) (by omega), ← hc 93 (by omega) (by omega) (by omega) (by omega), ← hc 94 (by omega) (by omega) (by omega) (by omega), ← hc 95 (by omega) (by omega) (by omega) (by omega), ← hc 96 (by omega) (by omega) (by omega) (by omega), ← hc 97 (by omega) (by omega) (by omega) (by omega), ← hc 101 (by omega) (by omega) (by omega) (by omega), ← hc 102 (by omega) (by omega) (by omega) (by omega)] at er
    have mR := c_X12_day l (X0 := Xc) (Y0 := Y1) (Z := Z1) hq.1.1 (b0 := b0) (D := D) rfl rfl er
    refine ⟨_, _, _, _, _, _, _, _, _, _, _, CL_mk mC (by omega) (by omega) (by omega) (by omega), CLR_mk hq.1.1 mR (by omega) (by omega) (by omega) (by omega), ?_⟩
    refine INV_act h hrc h04 hV hto hDS hR hq (VD_stp hV.1 hD8) hA ?_ fun a h1 h2 h3 h4 => (day_g h1 h3 h4).trans (gC a fun hh => ?_)
    · show RC _ (Xc 23) (Xc 24) (Xc 25) (Xc 26)
      rw [g23, g24, g25, g26]; exact hRC
    · have : a ≠ 33 := fun e => by subst e; revert h1; decide
      omega
theorem k_undo (l : Launch) (h : INV n κ X Z) : CALL l b0 D yX11_undo cX11_undo 1 yX12_undo cX12_undo 1 [] n κ X Y Z := by
  obtain ⟨hP, hT, ⟨h26, h37, h38⟩, rc, hrc, h04, h21, hRL, ⟨H, M, K, N, q, S0, S, nn, nd, nh, np, c, P, fo, x, hV, hC, hR⟩, hI⟩ := id h
  obtain ⟨a1, a2, a3, a4, a5, a6, a7, a8, a9⟩ := id hV
  obtain ⟨⟨b1, b2, b3, b4⟩, t, c3, c4, c5, c6⟩ := id hC
  obtain ⟨⟨r0, r1, r2, r3, r4, r8, r9, r10⟩, s2, s3, s4, s5, s6, s7⟩ := id hR
  rcases p_undoR (x75 := X 75) (x76 := X 76) (x77 := X 77) (x78 := X 78) a4 s7 s6 with ⟨rfl, er⟩ | ⟨h0, z74, z75, z76, z77, z78, z102, er, f74, f43, fRR, f75, fPR⟩
  · have mR := c_X12_undo l (X0 := X) (Y0 := Y) (Z := Z) hP.1 (b0 := b0) (D := D) rfl rfl er
    refine ⟨-2, _, _, _, _, _, _, _, _, _, _, CL_mk (c_undoA l hP.1 b1) (by omega) (by omega) (by omega) (by omega), CLR_mk hP.1 mR (by omega) (by omega) (by omega) (by omega), ?_⟩
    rw [show ov X [74, 75, 76, 77, 78, 102] [X 74, X 75, X 76, X 77, X 78, X 102] = X from ov_id' rfl]
    exact h
  · obtain ⟨a, ea, ha⟩ := c6 (c - 1) (by omega)
    obtain ⟨p1, p2, p3, _⟩ := hP.2.2.2.1 16 (c - 1) a (Or.inl rfl) (by omega) ea
    have em : X 16 3 - 1 = nI (c - 1) := by rw [b1, show (1 : Int32) = nI 1 from rfl, nsub (by omega)]
    have mC := c_undoB l (X := X) (Y := Y) (Z := Z) (b0 := b0) (D := D) hP.1 (by rw [b1]; exact fun e => by have := (nI_eq (b := 0) (by omega) (by omega)).mp e; omega) (by rw [em]; exact inbN (by omega) (by decide)) (a := a) (by rw [em, clN (by omega)]; exact ea) p1 p2 (by omega)
    rw [em, show cpS (va_up X 16 (upd (X 16) 3 (nI (c - 1)))) 23 a 16 = upd (X 16) 3 (nI (c - 1)) from (cpS_out (by omega)).trans up_eq, pk_us] at mC
    have gX : ∀ i, (i < 23 ∨ 26 < i) → i ≠ 16 → cpS (va_up X 16 (upd (X 16) 3 (nI (c - 1)))) 23 a i = X i := fun i h1 h2 => (cpS_out (by omega)).trans (up_ne h2)
    have g16 : cpS (va_up X 16 (upd (X 16) 3 (nI (c - 1)))) 23 a 16 = upd (X 16) 3 (nI (c - 1)) := (cpS_out (by omega)).trans up_eq
    have hRC : RC (P (c - 1)) (cpS (va_up X 16 (upd (X 16) 3 (nI (c - 1)))) 23 a 23) (cpS (va_up X 16 (upd (X 16) 3 (nI (c - 1)))) 23 a (23 + 1)) (cpS (va_up X 16 (upd (X 16) 3 (nI (c - 1)))) 23 a (23 + 2)) (cpS (va_up X 16 (upd (X 16) 3 (nI (c - 1)))) 23 a (23 + 3)) := RC_cp (by rw [up_ne (by omega), up_ne (by omega), up_ne (by omega), up_ne (by omega)]; exact ha)
    generalize cpS (va_up X 16 (upd (X 16) 3 (nI (c - 1)))) 23 a = X1 at mC gX g16 hRC
    rw [← gX 74 (by omega) (by omega), ← gX 75 (by omega) (by omega), ← gX 76 (by omega) (by omega), ← gX 77 (by omega) (by omega), ← gX 78 (by omega) (by omega), ← gX 102 (by omega) (by omega)] at er
    have mR := c_X12_undo l (X0 := X1) (Y0 := Y) (Z := Z) hP.1 (b0 := b0) (D := D) rfl rfl er
    refine ⟨_, _, _, _, _, _, _, _, _, _, _, CL_mk mC (by omega) (by omega) (by omega) (by omega), CLR_mk hP.1 mR (by omega) (by omega) (by omega) (by omega), ?_⟩
    have e2 : ∀ X2, ov X1 [74, 75, 76, 77, 78, 102] [z74, z75, z76, z77, z78, z102] = X2 → X2 74 = z74 ∧ X2 75 = z75 ∧ X2 76 = z76 ∧ X2 77 = z77 ∧ X2 78 = z78 ∧ X2 102 = z102 := fun X2 e => by subst e; exact ⟨rfl, rfl, rfl, rfl, rfl, rfl⟩
    have gb : ∀ a, (a < 74 ∨ 78 < a) → a ≠ 102 → ov X1 [74, 75, 76, 77, 78, 102] [z74, z75, z76, z77, z78, z102] a = X1 a := fun a h1 h2 => ov_act h1 h2
    generalize hX2 : ov X1 [74, 75, 76, 77, 78, 102] [z74, z75, z76, z77, z78, z102] = X2 at gb
    obtain ⟨e74, e75, e76, e77, e78, e102⟩ := e2 X2 hX2
    have g : ∀ a, (a < 74 ∨ 78 < a) → a ≠ 102 → (a < 23 ∨ 26 < a) → a ≠ 16 → X2 a = X a := fun a h1 h2 h3 h4 => (gb a h1 h2).trans (gX a h3 h4)
    have hi : ∀ a, 114 ≤ a → X2 a = X a := fun a ha => g a (by omega) (by omega) (by omega) (by omega)
    have gd : ∀ a, ((a < 74 ∨ 78 < a) ∧ a ≠ 102 ∧ (a < 23 ∨ 26 < a) ∧ a ≠ 16) → X2 a = X a := fun a h => g a h.1 h.2.1 h.2.2.1 h.2.2.2
    have k74 : ∀ j, j ≠ 43 → j ≠ 44 → j ≠ 45 → X2 74 j = X 74 j := fun j h1 h2 h3 => by rw [e74]; exact f74 j h1 h2 h3
    refine INV_lo h hi ⟨gd 92 (by decide), gd 93 (by decide), gd 94 (by decide), gd 95 (by decide), gd 96 (by decide), gd 97 (by decide)⟩ (gd 113 (by decide)) (fun j _ => by rw [gd 112 (by decide)]) (by rw [gd 0 (by decide)]) (k74 21 (by omega) (by omega) (by omega)) ⟨k74 26 (by omega) (by omega) (by omega), k74 37 (by omega) (by omega) (by omega), k74 38 (by omega) (by omega) (by omega)⟩ ?_ fun rc' hrc' h04' _ => ?_
    · obtain ⟨sz, hT⟩ := hT
      refine ⟨sz, ?_⟩
      rw [gd 1 (by decide), gd 2 (by decide), gd 91 (by decide)]
      exact ⟨hT.1, hT.2.1, (k74 17 (by omega) (by omega) (by omega)).trans hT.2.2.1, hT.2.2.2⟩
    have erc : rc' = rc := (nI_eq (by omega) (by omega)).mp (h04'.symm.trans h04)
    subst erc
    have ev : VD H M 999 (P (c - 1)) ∧ VD H M 0 S0 ∧ (∀ j, j < nn → nd j ≤ 60 ∧ nh j < M ∧ np j ≤ H) ∧ ∀ j, j < c - 1 → VD H M 999 (P j) := by
      rcases a9 with ⟨_, _, _, _, e, _⟩ | ⟨_, v2, v3, v4⟩
      · omega
      · exact ⟨v4 _ (by omega), v2, v3, fun j hj => v4 j (by omega)⟩
    have k : ∀ i, i ≤ 14 → 1 ≤ i → (i < 7 ∨ 10 < i) → X2 (16 + i) = X (16 + i) := fun i hi h1 h2 => g _ (by omega) (by omega) (by omega) (by omega)
    have k16 : X2 16 = upd (X 16) 3 (nI (c - 1)) := (gb 16 (by omega) (by omega)).trans g16
    refine ⟨H, M, K, N, q, S0, P (c - 1), nn, nd, nh, np, c - 1, P, fo, x, ⟨a1, a2, a3, by omega, a5, a6, a7, a8, Or.inr ev⟩, ⟨by rw [k16, pk_us, pk_un (by omega), pk_un (by omega), pk_un (by omega)]; exact ⟨rfl, b2, b3, b4⟩, by rw [k 1 (by omega) (by omega) (by omega), k 2 (by omega) (by omega) (by omega)]; exact t, by rw [k 3 (by omega) (by omega) (by omega), k 4 (by omega) (by omega) (by omega), k 5 (by omega) (by omega) (by omega), k 6 (by omega) (by omega) (by omega)]; exact c3, ?_, by rw [k 12 (by omega) (by omega) (by omega), k 13 (by omega) (by omega) (by omega), k 14 (by omega) (by omega) (by omega)]; exact c5, fun j hj => ?_⟩, ?_⟩
    · rw [gb (16 + 7) (by omega) (by omega), gb (16 + 8) (by omega) (by omega), gb (16 + 9) (by omega) (by omega), gb (16 + 10) (by omega) (by omega)]
      exact hRC
    · obtain ⟨a, ea, ha⟩ := c6 j (by omega)
      have := pool_16 hP j a (by omega) ea
      exact ⟨a, ea, by rw [hi a (by omega), hi (a + 1) (by omega), hi (a + 2) (by omega), hi (a + 3) (by omega)]; exact ha⟩
    · rw [gd 79 (by decide), gd 80 (by decide), gd 81 (by decide), gd 82 (by decide), gd 83 (by decide), gd 84 (by decide), gd 85 (by decide), e74, e75, e76, e77, e78, e102]
      exact ⟨⟨(f75 0 (by omega)).trans r0, (f75 1 (by omega)).trans r1, (f75 2 (by omega)).trans r2, (f75 3 (by omega)).trans r3, (f75 4 (by omega)).trans r4, (f75 8 (by omega)).trans r8, (f75 9 (by omega)).trans r9, (f75 10 (by omega)).trans r10⟩, s2, fRR, s4, s5, fPR, f43⟩
end DAYC

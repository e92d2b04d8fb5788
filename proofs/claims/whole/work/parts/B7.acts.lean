section ACTS
variable {n n1 rc : Nat} {κ κ1 : QT} {X X1 X2 : XT} {Y : YT} {Z Z1 : ZT} {b0 : Nat} {D : GD} {H M K N : Nat} {q : Nat → Nat} {S0 S : SN} {nn : Nat} {nd nh np : Nat → Nat} {c : Nat} {P : Nat → SN} {fo : Int32} {x : Nat}
/-- an act: the class has remembered and changed the standing, the reference too -/
theorem INV_act (h : INV n κ X Z) (hrc : rc ≤ 6) (h04 : X 0 4 = nI rc) (hV : VSc rc H M K N q S0 S nn nd nh np c P fo x) (hto : VD H M 0 S0 ∧ (∀ j, j < nn → nd j ≤ 60 ∧ nh j < M ∧ np j ≤ H) ∧ ∀ j, j < c → VD H M 999 (P j)) (hDS : VD H M 999 S) (hR : RSc H M K N q S0 S nn nd nh np c P fo x (X 75) (X 76) (X 77) (X 78) (X 79) (X 80) (X 81) (X 82) (X 83) (X 84) (X 85) (X 102) (X 74 43)) (hq : REMq n κ X Z H M K N q S0 S nn nd nh np c P fo x n1 κ1 X1 Z1) {S' : SN} (hD : VD H M 999 S') (hA : AO (pP P c S) c S' (X 74) (X 75) (X2 74) (X2 75) (X2 76) (X2 77) (X2 78) (X2 102)) (hC' : RC S' (X2 23) (X2 24) (X2 25) (X2 26)) (hg : ∀ a, scr a = false → (a < 23 ∨ 26 < a) → (a < 74 ∨ 78 < a) → a ≠ 102 → X2 a = X1 a) : INV n1 κ1 X2 Z1 := by
  obtain ⟨hP, ⟨sz, hT⟩, ⟨h26, h37, h38⟩, rc', hrc', h04', h21, hRL, _, hI⟩ := h
  have erc : rc' = rc := (nI_eq (by omega) (by omega)).mp (h04'.symm.trans h04)
  subst erc
  obtain ⟨hP1, hn, hκ, hz, hC1, hlo, him, hru⟩ := hq
  obtain ⟨f74, f43, fRR, f75, fPR⟩ := hA
  obtain ⟨a1, a2, a3, a4, a5, a6, a7, a8, _⟩ := hV
  obtain ⟨⟨r0, r1, r2, r3, r4, r8, r9, r10⟩, s2, s3, s4, s5, s6, s7⟩ := hR
  have g : ∀ a, scr a = false → (a < 23 ∨ 26 < a) → (a < 74 ∨ 78 < a) → a ≠ 102 → a < 114 → a ≠ 16 → X2 a = X a := fun a b1 b2 b3 b4 b5 b6 => (hg a b1 b2 b3 b4).trans (hlo a b5 b6)
  have gh : ∀ a, 114 ≤ a → X2 a = X1 a := fun a ha => hg a (fix_ge ha).1 (by omega) (by omega) (by omega)
  have gd : ∀ a, (scr a = false ∧ (a < 23 ∨ 26 < a) ∧ (a < 74 ∨ 78 < a) ∧ a ≠ 102 ∧ a < 114 ∧ a ≠ 16) → X2 a = X a := fun a b => g a b.1 b.2.1 b.2.2.1 b.2.2.2.1 b.2.2.2.2.1 b.2.2.2.2.2
  have hpN : pN c ≤ 20 := by unfold pN; split <;> omega
  refine ⟨hP1, ⟨sz, ?_⟩, ⟨(f74 26 (by omega) (by omega) (by omega)).trans h26, (f74 37 (by omega) (by omega) (by omega)).trans h37, (f74 38 (by omega) (by omega) (by omega)).trans h38⟩, rc', hrc', by rw [gd 0 (by decide)]; exact h04', (f74 21 (by omega) (by omega) (by omega)).trans h21, RLS_gen hn hκ hP.1 (hz 15 (by omega)) ⟨gd 92 (by decide), gd 93 (by decide), gd 94 (by decide), gd 95 (by decide), gd 96 (by decide), gd 97 (by decide)⟩ (fun ru k1 k2 k3 => (gh _ (by omega)).trans (hru ru k1 k2 k3)) hRL, ⟨H, M, K, N, q, S0, S', nn, nd, nh, np, pN c, pP P c S, fo, x, ?_, ?_, ?_⟩, fun k hk => IMG_gen hk (Nat.le_refl _) (by rw [hz 31 (by omega)]) (by rw [gd 113 (by decide)]) (fun j _ _ => by rw [gd 112 (by decide)]) (fun w hw => ?_) (hI k hk)⟩
  · rw [gd 1 (by decide), gd 2 (by decide), gd 91 (by decide)]
    exact ⟨hT.1, hT.2.1, (f74 17 (by omega) (by omega) (by omega)).trans hT.2.2.1, hT.2.2.2⟩
  · refine ⟨a1, a2, a3, hpN, a5, a6, a7, a8, Or.inr ⟨hD, hto.1, hto.2.1, fun j hj => ?_⟩⟩
    unfold pP
    unfold pN at hj
    by_cases e20 : c = 20
    · rw [if_pos e20] at hj ⊢
      by_cases e : j = 19
      · simp only [e, if_true]; exact hDS
      · simp only [e, if_false]; exact hto.2.2 _ (by omega)
    · rw [if_neg e20] at hj ⊢
      by_cases e : j = c
      · simp only [e, if_true]; exact hDS
      · simp only [e, if_false]; exact hto.2.2 _ (by omega)
  · obtain ⟨b, t, c3, c4, c5, c6⟩ := hC1
    have k : ∀ i, i ≤ 14 → (i < 7 ∨ 10 < i) → X2 (16 + i) = X1 (16 + i) := fun i hi h2 => hg _ (fix_16 hi).1 (by omega) (by omega) (by omega)
    have k0 : X2 16 = X1 16 := k 0 (by omega) (by omega)
    refine ⟨by rw [k0]; exact b, by rw [k 1 (by omega) (by omega), k 2 (by omega) (by omega)]; exact t, by rw [k 3 (by omega) (by omega), k 4 (by omega) (by omega), k 5 (by omega) (by omega), k 6 (by omega) (by omega)]; exact c3, hC', by rw [k 12 (by omega) (by omega), k 13 (by omega) (by omega), k 14 (by omega) (by omega)]; exact c5, fun j hj => ?_⟩
    obtain ⟨a, ea, ha⟩ := c6 j hj
    have := pool_16 hP1 j a (by omega) ea
    exact ⟨a, ea, by rw [gh a (by omega), gh (a + 1) (by omega), gh (a + 2) (by omega), gh (a + 3) (by omega)]; exact ha⟩
  · rw [gd 79 (by decide), gd 80 (by decide), gd 81 (by decide), gd 82 (by decide), gd 83 (by decide), gd 84 (by decide), gd 85 (by decide)]
    exact ⟨⟨(f75 0 (by omega)).trans r0, (f75 1 (by omega)).trans r1, (f75 2 (by omega)).trans r2, (f75 3 (by omega)).trans r3, (f75 4 (by omega)).trans r4, (f75 8 (by omega)).trans r8, (f75 9 (by omega)).trans r9, (f75 10 (by omega)).trans r10⟩, s2, fRR, s4, s5, fPR, f43⟩
  · obtain ⟨i1, i2⟩ := him k w hk hw
    have w4 := (hP.2.1 k w hk hw).2.2
    refine ⟨fun i hi => (gh _ (by omega)).trans (i1 i hi), hz _ (by omega), fun j a hj ea => ?_⟩
    have := pool_w hP hk hw j a hj ea
    obtain ⟨j0, j1, j2, j3⟩ := i2 j a hj ea
    exact ⟨(gh _ (by omega)).trans j0, (gh _ (by omega)).trans j1, (gh _ (by omega)).trans j2, (gh _ (by omega)).trans j3⟩
theorem ov_act {zs : List FI} {a : Nat} (h1 : a < 74 ∨ 78 < a) (h2 : a ≠ 102) : ov X [74, 75, 76, 77, 78, 102] zs a = X a := ov_nm fun k hk => by
  simp only [List.mem_cons, List.not_mem_nil, or_false] at hk
  omega
theorem M6 (hV : VSc rc H M K N q S0 S nn nd nh np c P fo x) : M ≤ 6 ∧ ((M = 0 ∧ H = 0) ∨ (VD H M 999 S ∧ VD H M 0 S0 ∧ (∀ j, j < nn → nd j ≤ 60 ∧ nh j < M ∧ np j ≤ H) ∧ ∀ j, j < c → VD H M 999 (P j))) := by
  rcases hV.2.2.2.2.2.2.2.2 with ⟨e1, e2, _⟩ | ht
  · exact ⟨by omega, Or.inl ⟨e2, e1⟩⟩
  · exact ⟨ht.1.1.1, Or.inr ht⟩
theorem k_crack (l : Launch) (h : INV n κ X Z) (v1 v2 : Int32) : CALL l b0 D yX11_crack cX11_crack 4 yX12_crack cX12_crack 4 [.int v1, .int v2] n κ X Y Z := by
  obtain ⟨hP, hT, ⟨h26, h37, h38⟩, rc, hrc, h04, h21, hRL, ⟨H, M, K, N, q, S0, S, nn, nd, nh, np, c, P, fo, x, hV, hC, hR⟩, hI⟩ := id h
  obtain ⟨_, ⟨t0, t1, t3, t4, tq⟩, _, c4, _⟩ := id hC
  obtain ⟨⟨r0, r1, r2, r3, r4, r8, r9, r10⟩, s2, s3, s4, s5, s6, s7⟩ := id hR
  have no : CL l b0 D yX11_crack cX11_crack 4 (.ref (b0 + 0) :: [.int v1, .int v2]) (n, κ, X, Y, Z) (n, κ, X, Y, Z) (-1) → fX12_crack v1 v2 (X 74) (X 75) (X 76) (X 77) (X 78) (X 102) = some (-1, X 74, X 75, X 76, X 77, X 78, X 102) → CALL l b0 D yX11_crack cX11_crack 4 yX12_crack cX12_crack 4 [.int v1, .int v2] n κ X Y Z := fun hc er => by
    have mR := c_X12_crack l (X0 := X) (Y0 := Y) (Z := Z) hP.1 (b0 := b0) (D := D) rfl rfl er
    refine ⟨-1, _, _, _, _, _, _, _, _, _, _, hc, CLR_mk hP.1 mR (by omega) (by omega) (by omega) (by omega), ?_⟩
    rw [show ov X [74, 75, 76, 77, 78, 102] [X 74, X 75, X 76, X 77, X 78, X 102] = X from ov_id' rfl]
    exact h
  obtain ⟨m6, mt⟩ := M6 hV
  rcases p_two m6 t4 r4 v1 v2 with ⟨a, b, ha, hb, hab, rfl, rfl, e1, e2⟩ | ⟨e1, e2⟩
  · rcases mt with ⟨rfl, _⟩ | ⟨hDS, hto⟩
    · omega
    have h9 : sHd S a b ≤ 9 := (hDS.1.2.2.2.2.2.1 a b (by omega) (by omega)).1
    have ho := p_hardOf (RC_h c4) (show a < 6 by omega) (show b < 6 by omega)
    by_cases h0 : sHd S a b = 0
    · rw [h0] at ho
      exact no (CL_mk (c_crackB l hP.1 e1 ho) (by omega) (by omega) (by omega) (by omega)) (r_crackZ (by omega) (by omega) e2 s3 h0)
    · obtain ⟨n1, κ1, X1, Z1, hM, hq⟩ := rem l (Y := Y) (b0 := b0) (D := D) hP hV.2.2.2.1 hC
      have c41 := hq.2.2.2.2.1.2.2.2.1
      have hlo := hq.2.2.2.2.2.1
      obtain ⟨r26, es, hs⟩ := p_setHard (RC_h c41) (show a < 6 by omega) (show b < 6 by omega) 0
      have mC := c_crackC l hP.1 e1 ho (fun e => h0 ((nI_eq (b := 0) (by omega) (by omega)).mp e)) hM hq.1.1 es
      obtain ⟨z74, z75, z76, z77, z78, z102, er, hA⟩ := r_crackY (show a < 6 by omega) (show b < 6 by omega) hV.2.2.2.1 e2 s7 s3 s6 h9 h0
      rw [← hlo 74 (by omega) (by omega), ← hlo 75 (by omega) (by omega), ← hlo 76 (by omega) (by omega), ← hlo 77 (by omega) (by omega), ← hlo 78 (by omega) (by omega), ← hlo 102 (by omega) (by omega)] at er
      have mR := c_X12_crack l (X0 := ov X1 [26] [r26]) (Y0 := Y) (Z := Z1) hq.1.1 (b0 := b0) (D := D) rfl rfl er
      refine ⟨_, _, _, _, _, _, _, _, _, _, _, CL_mk mC (by omega) (by omega) (by omega) (by omega), CLR_mk hq.1.1 mR (by omega) (by omega) (by omega) (by omega), ?_⟩
      refine INV_act h hrc h04 hV hto hDS hR hq (VD_sJ hDS ha hb hab (by omega) (Or.inl rfl)) hA (RC_sJ c41 (by omega) (by omega) hs) fun a h1 h2 h3 h4 => (ov_act h3 h4).trans (ov_nm fun k hk => ?_)
      rw [List.mem_singleton] at hk
      omega
  · exact no (CL_mk (c_crackA l hP.1 e1) (by omega) (by omega) (by omega) (by omega)) (r_crackN e2)
theorem k_ice (l : Launch) (h : INV n κ X Z) (v1 : Int32) : CALL l b0 D yX11_ice cX11_ice 3 yX12_ice cX12_ice 3 [.int v1] n κ X Y Z := by
  obtain ⟨hP, hT, ⟨h26, h37, h38⟩, rc, hrc, h04, h21, hRL, ⟨H, M, K, N, q, S0, S, nn, nd, nh, np, c, P, fo, x, hV, hC, hR⟩, hI⟩ := id h
  obtain ⟨_, ⟨t0, t1, t3, t4, tq⟩, _, c4, _⟩ := id hC
  obtain ⟨⟨r0, r1, r2, r3, r4, r8, r9, r10⟩, s2, s3, s4, s5, s6, s7⟩ := id hR
  have no : CL l b0 D yX11_ice cX11_ice 3 (.ref (b0 + 0) :: [.int v1]) (n, κ, X, Y, Z) (n, κ, X, Y, Z) (-1) → fX12_ice v1 (X 74) (X 75) (X 76) (X 77) (X 78) (X 102) = some (-1, X 74, X 75, X 76, X 77, X 78, X 102) → CALL l b0 D yX11_ice cX11_ice 3 yX12_ice cX12_ice 3 [.int v1] n κ X Y Z := fun hc er => by
    have mR := c_X12_ice l (X0 := X) (Y0 := Y) (Z := Z) hP.1 (b0 := b0) (D := D) rfl rfl er
    refine ⟨-1, _, _, _, _, _, _, _, _, _, _, hc, CLR_mk hP.1 mR (by omega) (by omega) (by omega) (by omega), ?_⟩
    rw [show ov X [74, 75, 76, 77, 78, 102] [X 74, X 75, X 76, X 77, X 78, X 102] = X from ov_id' rfl]
    exact h
  obtain ⟨m6, mt⟩ := M6 hV
  rcases mt with ⟨rfl, rfl⟩ | ⟨hDS, hto⟩
  · exact no (CL_mk (c_iceA l hP.1 (u_told t0)) (by omega) (by omega) (by omega) (by omega)) (r_iceN (Or.inl (u_town r0)))
  have h5 := hDS.1.2.1
  have e1 := p_told1 t0 (by omega) hDS.1.2.2.1
  have e2 := p_town1 r0 (by omega) hDS.1.2.2.1
  rcases p_within (lo := 1) (hi := 9) (by omega) (by omega) v1 with ⟨m, m1, m9, rfl, w1, w2⟩ | ⟨w1, w2⟩
  · obtain ⟨n1, κ1, X1, Z1, hM, hq⟩ := rem l (Y := Y) (b0 := b0) (D := D) hP hV.2.2.2.1 hC
    have c41 := hq.2.2.2.2.1.2.2.2.1
    have hlo := hq.2.2.2.2.2.1
    have mC := c_iceC l hP.1 e1 w1 hM hq.1.1
    rw [show X 23 2 = nI (S 2) from c4.1 2 (by omega)] at mC
    obtain ⟨z74, z75, z76, z77, z78, z102, er, hA⟩ := r_iceY hV.2.2.2.1 e2 w2 s7 s3 s6
    rw [← hlo 74 (by omega) (by omega), ← hlo 75 (by omega) (by omega), ← hlo 76 (by omega) (by omega), ← hlo 77 (by omega) (by omega), ← hlo 78 (by omega) (by omega), ← hlo 102 (by omega) (by omega)] at er
    have mR := c_X12_ice l (X0 := va_up X1 23 (upd (X1 23) 2 (nI m))) (Y0 := Y) (Z := Z1) hq.1.1 (b0 := b0) (D := D) rfl rfl er
    refine ⟨_, _, _, _, _, _, _, _, _, _, _, CL_mk mC (by omega) (by omega) (by omega) (by omega), CLR_mk hq.1.1 mR (by omega) (by omega) (by omega) (by omega), ?_⟩
    exact INV_act h hrc h04 hV hto hDS hR hq (VD_sI hDS m9) hA (RC_sI c41) fun a h1 h2 h3 h4 => (ov_act h3 h4).trans (up_ne (by omega))
  · exact no (CL_mk (c_iceB l hP.1 e1 w1) (by omega) (by omega) (by omega) (by omega)) (r_iceN (Or.inr ⟨e2, w2⟩))
theorem k_pour (l : Launch) (h : INV n κ X Z) (v1 v2 v3 : Int32) : CALL l b0 D yX11_pour cX11_pour 4 yX12_pour cX12_pour 4 [.int v1, .int v2, .int v3] n κ X Y Z := by
  obtain ⟨hP, hT, ⟨h26, h37, h38⟩, rc, hrc, h04, h21, hRL, ⟨H, M, K, N, q, S0, S, nn, nd, nh, np, c, P, fo, x, hV, hC, hR⟩, hI⟩ := id h
  obtain ⟨_, ⟨t0, t1, t3, t4, tq⟩, _, c4, _⟩ := id hC
  obtain ⟨⟨r0, r1, r2, r3, r4, r8, r9, r10⟩, s2, s3, s4, s5, s6, s7⟩ := id hR
  have no : CL l b0 D yX11_pour cX11_pour 4 (.ref (b0 + 0) :: [.int v1, .int v2, .int v3]) (n, κ, X, Y, Z) (n, κ, X, Y, Z) (-1) → fX12_pour v1 v2 v3 (X 74) (X 75) (X 76) (X 77) (X 78) (X 102) = some (-1, X 74, X 75, X 76, X 77, X 78, X 102) → CALL l b0 D yX11_pour cX11_pour 4 yX12_pour cX12_pour 4 [.int v1, .int v2, .int v3] n κ X Y Z := fun hc er => by
    have mR := c_X12_pour l (X0 := X) (Y0 := Y) (Z := Z) hP.1 (b0 := b0) (D := D) rfl rfl er
    refine ⟨-1, _, _, _, _, _, _, _, _, _, _, hc, CLR_mk hP.1 mR (by omega) (by omega) (by omega) (by omega), ?_⟩
    rw [show ov X [74, 75, 76, 77, 78, 102] [X 74, X 75, X 76, X 77, X 78, X 102] = X from ov_id' rfl]
    exact h
  obtain ⟨m6, mt⟩ := M6 hV
  rcases p_two m6 t4 r4 v1 v2 with ⟨a, b, ha, hb, hab, rfl, rfl, e1, e2⟩ | ⟨e1, e2⟩
  · rcases mt with ⟨rfl, _⟩ | ⟨hDS, hto⟩
    · omega
    have s99 : S 1 ≤ 99 := hDS.2.2.2.2.1
    rcases p_within (lo := 1) (hi := 9) (by omega) (by omega) v3 with ⟨m, m1, m9, rfl, w1, w2⟩ | ⟨w1, w2⟩
    · rcases p_canPour hDS (show a < 6 by omega) (show b < 6 by omega) t0 r0 c4 s3 with ⟨hcp, w3, w4⟩ | ⟨_, w3, w4⟩
      · have e231 : X 23 1 = nI (S 1) := c4.1 1 (by omega)
        have e756 : X 75 6 = nI (S 1) := s3.1 1 (by omega)
        by_cases hle : m ≤ S 1
        · obtain ⟨n1, κ1, X1, Z1, hM, hq⟩ := rem l (Y := Y) (b0 := b0) (D := D) hP hV.2.2.2.1 hC
          have c41 := hq.2.2.2.2.1.2.2.2.1
          have hlo := hq.2.2.2.2.2.1
          obtain ⟨r26, es, hs⟩ := p_setHard (RC_h c41) (show a < 6 by omega) (show b < 6 by omega) m
          have mC := c_pourE l hP.1 e1 w1 w3 (by rw [e231, nle (by omega) (by omega)]; exact hle) hM hq.1.1 es
          rw [show ov X1 [26] [r26] 23 = X1 23 from rfl, show X1 23 1 = nI (S 1) from c41.1 1 (by omega), nsub hle, up_eq, pk_us] at mC
          obtain ⟨z74, z75, z76, z77, z78, z102, er, hA⟩ := r_pourY (show a < 6 by omega) (show b < 6 by omega) hV.2.2.2.1 hle e2 w2 w4 s99 s7 s3 s6
          rw [← hlo 74 (by omega) (by omega), ← hlo 75 (by omega) (by omega), ← hlo 76 (by omega) (by omega), ← hlo 77 (by omega) (by omega), ← hlo 78 (by omega) (by omega), ← hlo 102 (by omega) (by omega)] at er
          have mR := c_X12_pour l (X0 := va_up (ov X1 [26] [r26]) 23 (upd (X1 23) 1 (nI (S 1 - m)))) (Y0 := Y) (Z := Z1) hq.1.1 (b0 := b0) (D := D) rfl rfl er
          refine ⟨_, _, _, _, _, _, _, _, _, _, _, CL_mk mC (by omega) (by omega) (by omega) (by omega), CLR_mk hq.1.1 mR (by omega) (by omega) (by omega) (by omega), ?_⟩
          refine INV_act h hrc h04 hV hto hDS hR hq (VD_sS (VD_sJ hDS ha hb hab m9 (Or.inr ⟨hcp.2.1, hcp.2.2.1⟩)) (by omega)) hA (RC_sS (RC_sJ c41 (by omega) (by omega) hs)) fun a h1 h2 h3 h4 => (ov_act h3 h4).trans ((up_ne (by omega)).trans (ov_nm fun k hk => ?_))
          rw [List.mem_singleton] at hk
          omega
        · exact no (CL_mk (c_pourD l hP.1 e1 w1 w3 (by rw [e231, nle (by omega) (by omega)]; exact hle)) (by omega) (by omega) (by omega) (by omega)) (r_pourN (Or.inr ⟨e2, Or.inr ⟨w2, Or.inr ⟨w4, by rw [e756, nle (by omega) (by omega)]; exact hle⟩⟩⟩))
      · exact no (CL_mk (c_pourC l hP.1 e1 w1 w3) (by omega) (by omega) (by omega) (by omega)) (r_pourN (Or.inr ⟨e2, Or.inr ⟨w2, Or.inl w4⟩⟩))
    · exact no (CL_mk (c_pourB l hP.1 e1 w1) (by omega) (by omega) (by omega) (by omega)) (r_pourN (Or.inr ⟨e2, Or.inl w2⟩))
  · exact no (CL_mk (c_pourA l hP.1 e1) (by omega) (by omega) (by omega) (by omega)) (r_pourN (Or.inl e2))
theorem k_rock (l : Launch) (h : INV n κ X Z) (v1 v2 : Int32) : CALL l b0 D yX11_rock cX11_rock 4 yX12_rock cX12_rock 3 [.int v1, .int v2] n κ X Y Z := by
  obtain ⟨hP, hT, ⟨h26, h37, h38⟩, rc, hrc, h04, h21, hRL, ⟨H, M, K, N, q, S0, S, nn, nd, nh, np, c, P, fo, x, hV, hC, hR⟩, hI⟩ := id h
  obtain ⟨_, ⟨t0, t1, t3, t4, tq⟩, _, c4, _⟩ := id hC
  obtain ⟨⟨r0, r1, r2, r3, r4, r8, r9, r10⟩, s2, s3, s4, s5, s6, s7⟩ := id hR
  have no : CL l b0 D yX11_rock cX11_rock 4 (.ref (b0 + 0) :: [.int v1, .int v2]) (n, κ, X, Y, Z) (n, κ, X, Y, Z) (-1) → fX12_rock v1 v2 (X 74) (X 75) (X 76) (X 77) (X 78) (X 102) = some (-1, X 74, X 75, X 76, X 77, X 78, X 102) → CALL l b0 D yX11_rock cX11_rock 4 yX12_rock cX12_rock 3 [.int v1, .int v2] n κ X Y Z := fun hc er => by
    have mR := c_X12_rock l (X0 := X) (Y0 := Y) (Z := Z) hP.1 (b0 := b0) (D := D) rfl rfl er
    refine ⟨-1, _, _, _, _, _, _, _, _, _, _, hc, CLR_mk hP.1 mR (by omega) (by omega) (by omega) (by omega), ?_⟩
    rw [show ov X [74, 75, 76, 77, 78, 102] [X 74, X 75, X 76, X 77, X 78, X 102] = X from ov_id' rfl]
    exact h
  obtain ⟨m6, mt⟩ := M6 hV
  rcases p_house m6 t4 r4 v1 with ⟨a, ha, rfl, e1, e2⟩ | ⟨e1, e2⟩
  · rcases mt with ⟨rfl, _⟩ | ⟨hDS, hto⟩
    · omega
    have s99 : S 1 ≤ 99 := hDS.2.2.2.2.1
    have hi : inb (nI a) 6 = true := inbN (by omega) (by decide)
    have ecl : (nI a).toNatClampNeg = a := clN (by omega)
    have e25 : X 25 a = nI (sRk S a) := RC_r c4 a (by omega)
    rcases e_rock1 (x74 := X 74) (x102 := X 102) hDS (show a < 6 by omega) t0 r0 e2 c4 s3 v2 with ⟨w1, er⟩ | ⟨w1, w2, er⟩ | ⟨w1, v, rfl, w2, w3, w4, w5, ⟨w6, er⟩ | ⟨w6, w7, hy⟩⟩
    · exact no (CL_mk (c_rockB l hP.1 e1 hi (by rw [ecl]; exact w1)) (by omega) (by omega) (by omega) (by omega)) er
    · exact no (CL_mk (c_rockC l hP.1 e1 hi (by rw [ecl]; exact w1) (by rw [ecl]; exact w2)) (by omega) (by omega) (by omega) (by omega)) er
    · exact no (CL_mk (c_rockD l hP.1 e1 hi (by rw [ecl]; exact w1) (by rw [ecl]; exact w5) (by rw [ecl]; exact w6)) (by omega) (by omega) (by omega) (by omega)) er
    · obtain ⟨n1, κ1, X1, Z1, hM, hq⟩ := rem l (Y := Y) (b0 := b0) (D := D) hP hV.2.2.2.1 hC
      have c41 := hq.2.2.2.2.1.2.2.2.1
      have hlo := hq.2.2.2.2.2.1
      have mC := c_rockE l hP.1 e1 hi (by rw [ecl]; exact w1) (by rw [ecl]; exact w5) (by rw [ecl]; exact w6) hM hq.1.1
      rw [ecl, e25, show va_up X1 25 (upd (X1 25) a (nI v)) 23 = X1 23 from rfl, show X1 23 1 = nI (S 1) from c41.1 1 (by omega), nsub (show sRk S a ≤ v by omega), nsub w7, up_eq, pk_us] at mC
      obtain ⟨z74, z75, z76, z77, z78, z102, er, hA⟩ := hy hV.2.2.2.1 s7 s6
      rw [← hlo 74 (by omega) (by omega), ← hlo 75 (by omega) (by omega), ← hlo 76 (by omega) (by omega), ← hlo 77 (by omega) (by omega), ← hlo 78 (by omega) (by omega), ← hlo 102 (by omega) (by omega)] at er
      have mR := c_X12_rock l (X0 := va_up (va_up X1 25 (upd (X1 25) a (nI v))) 23 (upd (X1 23) 1 (nI (S 1 - (v - sRk S a))))) (Y0 := Y) (Z := Z1) hq.1.1 (b0 := b0) (D := D) rfl rfl er
      refine ⟨_, _, _, _, _, _, _, _, _, _, _, CL_mk mC (by omega) (by omega) (by omega) (by omega), CLR_mk hq.1.1 mR (by omega) (by omega) (by omega) (by omega), ?_⟩
      exact INV_act h hrc h04 hV hto hDS hR hq (VD_sS (VD_sR hDS ha w3) (by omega)) hA (RC_sS (RC_sR c41 (by omega))) fun a h1 h2 h3 h4 => (ov_act h3 h4).trans ((up_ne (by omega)).trans (up_ne (by omega)))
  · exact no (CL_mk (c_rockA l hP.1 e1) (by omega) (by omega) (by omega) (by omega)) (r_rockN e2)
end ACTS

section IMGC
variable {n rc : Nat} {κ : QT} {X : XT} {Y : YT} {Z : ZT} {b0 : Nat} {D : GD} {H M K N : Nat} {q : Nat → Nat} {S0 S : SN} {nn : Nat} {nd nh np : Nat → Nat} {c : Nat} {P : Nat → SN} {fo : Int32} {x : Nat} {w k : Nat}
theorem ov_img {zs : List FI} {X : XT} {a : Nat} (h1 : a < 74 ∨ 85 < a) (h2 : a < 102 ∨ 103 < a) (h3 : a < 112 ∨ 113 < a) : ov X [74, 75, 76, 77, 78, 79, 80, 81, 82, 83, 84, 85, 102, 103, 112, 113] zs a = X a := ov_nm fun k hk => by
  simp only [List.mem_cons, List.not_mem_nil, or_false] at hk
  omega
/-- an image is laid into a scene that stands in the row of images -/
theorem img_fin (l : Launch) (hP : POOL n κ Z) {sz : Nat} (hT : TX sz (X 1) (X 2) (X 74) (X 91)) (h26 : X 74 26 = 12) (h37 : X 74 37 = -1) (h38 : X 74 38 = -5) (hrc : rc ≤ 6) (h04 : X 0 4 = nI rc) (h21 : X 74 21 = nI rc) (hRL : RLS rc n κ X Z) (hV : VSc rc H M K N q S0 S nn nd nh np c P fo x) (hC : CS X Z 16 H M K N q S0 S nn nd nh np c P fo x) (hR : RSc H M K N q S0 S nn nd nh np c P fo x (X 75) (X 76) (X 77) (X 78) (X 79) (X 80) (X 81) (X 82) (X 83) (X 84) (X 85) (X 102) (X 74 43)) (hI : ∀ k', k' < 4 → k' ≠ k → IMG rc k' X Z) (hk : k < 4) (hw : Z 31 k = some w) : ∃ n3 κ3 X3 Z3, gMv l yX6_copy cX6_copy 3 none 3 82 160 2160 b0 D [.ref (b0 + w), .ref (b0 + 16)] (n, κ, X, Y, Z) (n3, κ3, X3, Y, Z3) ∧ LY n3 κ3 ∧ X3 23 0 = nI (S 0) ∧ (∀ a, a < 114 → X3 a = X a) ∧ ∀ z74 z103 z112, fr74 (X 74) z74 → IM k z112 (X 74 43) (X 75) (X 76) (X 77) (X 78) (X 79) (X 80) (X 81) (X 82) (X 83) (X 84) (X 85) (X 102) → (∀ j, j < 1300 * k ∨ 1300 * k + 1170 ≤ j → z112 j = X 112 j) → INV n3 κ3 (ov X3 [74, 75, 76, 77, 78, 79, 80, 81, 82, 83, 84, 85, 102, 103, 112, 113] [z74, X 75, X 76, X 77, X 78, X 79, X 80, X 81, X 82, X 83, X 84, X 85, X 102, z103, z112, upd (X 113) k (vp_nar .boolean 1)]) Z3 := by
  have hsw : isSc Z w := Or.inr ⟨k, hk, hw⟩
  have w114 := (hP.2.1 k w hk hw).2.2
  obtain ⟨n3, κ3, X3, Z3, mC, hP3, hn, hκ, hz, hCw, hsc, hru, hlo⟩ := copyS l (Y := Y) (b0 := b0) (D := D) (t := w) (u := 16) hP hsw (Or.inl rfl) (by omega) hV.2.1.1 hV.2.2.2.2.1 hV.2.2.2.1 hC
  have lo : ∀ a, a < 114 → X3 a = X a := fun a ha => hlo a ha (by omega)
  refine ⟨n3, κ3, X3, Z3, mC, hP3.1, by rw [lo 23 (by omega)]; exact hC.2.2.2.1.1 0 (by omega), lo, fun z74 z103 z112 f74 hIM f112 => ?_⟩
  have e2 : ∀ X2, ov X3 [74, 75, 76, 77, 78, 79, 80, 81, 82, 83, 84, 85, 102, 103, 112, 113] [z74, X 75, X 76, X 77, X 78, X 79, X 80, X 81, X 82, X 83, X 84, X 85, X 102, z103, z112, upd (X 113) k (vp_nar .boolean 1)] = X2 → X2 74 = z74 ∧ X2 75 = X 75 ∧ X2 76 = X 76 ∧ X2 77 = X 77 ∧ X2 78 = X 78 ∧ X2 79 = X 79 ∧ X2 80 = X 80 ∧ X2 81 = X 81 ∧ X2 82 = X 82 ∧ X2 83 = X 83 ∧ X2 84 = X 84 ∧ X2 85 = X 85 ∧ X2 102 = X 102 ∧ X2 112 = z112 ∧ X2 113 = upd (X 113) k (vp_nar .boolean 1) := fun X2 e => by subst e; exact ⟨rfl, rfl, rfl, rfl, rfl, rfl, rfl, rfl, rfl, rfl, rfl, rfl, rfl, rfl, rfl⟩
  have gb : ∀ a, (a < 74 ∨ 85 < a) → (a < 102 ∨ 103 < a) → (a < 112 ∨ 113 < a) → ov X3 [74, 75, 76, 77, 78, 79, 80, 81, 82, 83, 84, 85, 102, 103, 112, 113] [z74, X 75, X 76, X 77, X 78, X 79, X 80, X 81, X 82, X 83, X 84, X 85, X 102, z103, z112, upd (X 113) k (vp_nar .boolean 1)] a = X3 a := fun a h1 h2 h3 => ov_img h1 h2 h3
  generalize hX2 : ov X3 [74, 75, 76, 77, 78, 79, 80, 81, 82, 83, 84, 85, 102, 103, 112, 113] [z74, X 75, X 76, X 77, X 78, X 79, X 80, X 81, X 82, X 83, X 84, X 85, X 102, z103, z112, upd (X 113) k (vp_nar .boolean 1)] = X2 at gb
  obtain ⟨e74, e75, e76, e77, e78, e79, e80, e81, e82, e83, e84, e85, e102, e112, e113⟩ := e2 X2 hX2
  have gh : ∀ a, 114 ≤ a → X2 a = X3 a := fun a ha => gb a (by omega) (by omega) (by omega)
  have gl : ∀ a, (a < 74 ∨ (85 < a ∧ a < 102) ∨ (103 < a ∧ a < 112)) → X2 a = X a := fun a ha => (gb a (by omega) (by omega) (by omega)).trans (lo a (by omega))
  have k74 : ∀ j, j ≠ 56 → j ≠ 57 → X2 74 j = X 74 j := fun j h1 h2 => by rw [e74]; exact f74 j h1 h2
  have z31 : Z3 31 = Z 31 := hz 31 (by omega)
  have CSw : CS X2 Z3 w H M K N q S0 S nn nd nh np c P fo x := by
    refine CS_gen (fun i hi => gh _ (by omega)) rfl hV.2.2.2.1 (fun j a hj ea => ?_) hCw
    have := (hP3.2.2.2.1 w j a (Or.inr ⟨k, hk, by rw [z31]; exact hw⟩) hj ea).2.2.1
    exact ⟨gh _ (by omega), gh _ (by omega), gh _ (by omega), gh _ (by omega)⟩
  refine ⟨hP3, ⟨sz, ?_⟩, ⟨(k74 26 (by omega) (by omega)).trans h26, (k74 37 (by omega) (by omega)).trans h37, (k74 38 (by omega) (by omega)).trans h38⟩, rc, hrc, by rw [gl 0 (by omega)]; exact h04, (k74 21 (by omega) (by omega)).trans h21, RLS_gen hn hκ hP.1 (hz 15 (by omega)) ⟨gl 92 (by omega), gl 93 (by omega), gl 94 (by omega), gl 95 (by omega), gl 96 (by omega), gl 97 (by omega)⟩ (fun ru k1 k2 k3 => (gh _ (by omega)).trans (hru ru k1 k2 k3)) hRL, ⟨H, M, K, N, q, S0, S, nn, nd, nh, np, c, P, fo, x, hV, ?_, ?_⟩, fun k' hk' => ?_⟩
  · rw [gl 1 (by omega), gl 2 (by omega), gl 91 (by omega)]
    exact ⟨hT.1, hT.2.1, (k74 17 (by omega) (by omega)).trans hT.2.2.1, hT.2.2.2⟩
  · obtain ⟨s1, s2⟩ := hsc 16 (Or.inl rfl) (by omega)
    refine CS_gen (fun i hi => gl _ (by omega)) (hz _ (by omega)) hV.2.2.2.1 (fun j a hj ea => ?_) hC
    have := pool_16 hP j a hj ea
    obtain ⟨q0, q1, q2, q3⟩ := s2 j a hj ea
    exact ⟨(gh _ (by omega)).trans q0, (gh _ (by omega)).trans q1, (gh _ (by omega)).trans q2, (gh _ (by omega)).trans q3⟩
  · rw [k74 43 (by omega) (by omega), e75, e76, e77, e78, e79, e80, e81, e82, e83, e84, e85, e102]
    exact hR
  · by_cases ek : k' = k
    · subst ek
      refine Or.inr ⟨w, by rw [z31]; exact hw, by rw [e113, pk_us]; decide, X 74 43, X 75, X 76, X 77, X 78, X 79, X 80, X 81, X 82, X 83, X 84, X 85, X 102, H, M, K, N, q, S0, S, nn, nd, nh, np, c, P, fo, x, by rw [e112]; exact hIM, hV, CSw, hR⟩
    · refine IMG_gen hk' (Nat.le_refl _) (by rw [z31]) (by rw [e113, pk_un ek]) (fun j h1 h2 => by rw [e112]; exact f112 j (by omega)) (fun w' hw' => ?_) (hI k' hk' ek)
      have hsw' : isSc Z w' := Or.inr ⟨k', hk', hw'⟩
      have w4 := (hP.2.1 k' w' hk' hw').2.2
      have hne : w' ≠ w := fun e => by subst e; exact ek (hP.2.2.1 k' k w' hk' hk hw' hw)
      obtain ⟨s1, s2⟩ := hsc w' hsw' hne
      refine ⟨fun i hi => (gh _ (by omega)).trans (s1 i hi), hz _ (by omega), fun j a hj ea => ?_⟩
      have := pool_w hP hk' hw' j a hj ea
      obtain ⟨q0, q1, q2, q3⟩ := s2 j a hj ea
      exact ⟨(gh _ (by omega)).trans q0, (gh _ (by omega)).trans q1, (gh _ (by omega)).trans q2, (gh _ (by omega)).trans q3⟩
/-- a new scene for an image -/
theorem POOL_new (hP : POOL n κ Z) (hk : k < 4) (hz : Z 31 k = none) : POOL (n + 15) (blk κ n nScn) (va_up (va_up Z (n + 11) (fun _ => none)) 31 (va_up (Z 31) k (some n))) := by
  obtain ⟨hL, p1, p2, p3, p4, p5⟩ := id hP
  have n114 := hL.1
  have e31 : ∀ j, va_up (va_up Z (n + 11) (fun _ => none)) 31 (va_up (Z 31) k (some n)) 31 j = if j = k then some n else Z 31 j := fun j => by
    rw [up_eq]
    by_cases e : j = k
    · subst e; rw [up_eq, if_pos rfl]
    · rw [up_ne e, if_neg e]
  have eo : ∀ a, a ≠ 31 → a ≠ n + 11 → va_up (va_up Z (n + 11) (fun _ => none)) 31 (va_up (Z 31) k (some n)) a = Z a := fun a h1 h2 => by rw [up_ne h1, up_ne h2]
  have en : va_up (va_up Z (n + 11) (fun _ => none)) 31 (va_up (Z 31) k (some n)) (n + 11) = fun _ => none := by rw [up_ne (by omega), up_eq]
  generalize va_up (va_up Z (n + 11) (fun _ => none)) 31 (va_up (Z 31) k (some n)) = Z1 at *
  have hs : ∀ s, isSc Z1 s → isSc Z s ∨ s = n := fun s h => by
    rcases h with e | ⟨k', hk', e⟩
    · exact Or.inl (Or.inl e)
    · rw [e31] at e
      by_cases ek : k' = k
      · rw [if_pos ek] at e
        exact Or.inr (Option.some.inj e).symm
      · rw [if_neg ek] at e
        exact Or.inl (Or.inr ⟨k', hk', e⟩)
  have row : ∀ s j a, isSc Z1 s → Z1 (s + 11) j = some a → isSc Z s ∧ Z (s + 11) j = some a := fun s j a h e => by
    rcases hs s h with g | rfl
    · obtain ⟨sk, sn, sn', s16⟩ := sc_k hP g
      rw [eo _ (by omega) (by omega)] at e
      exact ⟨g, e⟩
    · rw [en] at e; cases e
  refine ⟨LY_scn hL, fun k' s hk' e => ?_, fun k1 k2 s h1 h2 e1 e2 => ?_, fun s j a hsc hj e => ?_, fun s s' j j' a hsc hsc' hj hj' e e' => ?_, by rw [eo 41 (by omega) (by omega)]; exact p5⟩
  · rw [e31] at e
    by_cases ek : k' = k
    · rw [if_pos ek] at e
      cases e
      exact ⟨blk_at 0 rfl rfl, by omega, n114⟩
    · rw [if_neg ek] at e
      obtain ⟨a1, a2, a3⟩ := p1 k' s hk' e
      exact ⟨(blk_lt a2).trans a1, by omega, a3⟩
  · rw [e31] at e1 e2
    by_cases ek1 : k1 = k <;> by_cases ek2 : k2 = k
    · rw [ek1, ek2]
    · rw [if_pos ek1] at e1
      rw [if_neg ek2] at e2
      cases e1
      have := (p1 k2 n h2 e2).2.1
      omega
    · rw [if_neg ek1] at e1
      rw [if_pos ek2] at e2
      cases e2
      have := (p1 k1 n h1 e1).2.1
      omega
    · rw [if_neg ek1] at e1
      rw [if_neg ek2] at e2
      exact p2 k1 k2 s h1 h2 e1 e2
  · obtain ⟨g, e1⟩ := row s j a hsc e
    obtain ⟨a1, a2, a3, a4⟩ := p3 s j a g hj e1
    refine ⟨(blk_lt a2).trans a1, by omega, a3, fun s' hs' => ?_⟩
    rcases hs s' hs' with g' | rfl
    · exact a4 s' g'
    · omega
  · obtain ⟨g, e1⟩ := row s j a hsc e
    obtain ⟨g', e1'⟩ := row s' j' a hsc' e'
    exact p4 s s' j j' a g g' hj hj' e1 e1'
theorem k_image (l : Launch) (h : INV n κ X Z) (v1 : Int32) : CALL l b0 D yX11_image cX11_image 2 yX12_image cX12_image 2 [.int v1] n κ X Y Z := by
  obtain ⟨hP, ⟨sz, hT⟩, ⟨h26, h37, h38⟩, rc, hrc, h04, h21, hRL, ⟨H, M, K, N, q, S0, S, nn, nd, nh, np, c, P, fo, x, hV, hC, hR⟩, hI⟩ := id h
  have e5 : X 75 (5 : Int32).toNatClampNeg = nI (S 0) := hR.2.2.1.1 0 (by omega)
  rcases p_within (lo := 0) (hi := 3) (by omega) (by omega) v1 with ⟨k, _, k3, rfl, d1, d2⟩ | ⟨d1, d2⟩
  · have hk : k < 4 := by omega
    have hi : inb (nI k) 4 = true := inbN hk (by decide)
    have ecl : (nI k).toNatClampNeg = k := clN (by omega)
    obtain ⟨z74, z103, z112, ei, f74, hIM, f112⟩ := p_imgS (x74 := X 74) (x75 := X 75) (x76 := X 76) (x77 := X 77) (x78 := X 78) (x79 := X 79) (x80 := X 80) (x81 := X 81) (x82 := X 82) (x83 := X 83) (x84 := X 84) (x85 := X 85) (x102 := X 102) (x103 := X 103) (x112 := X 112) hk
    have er : fX12_image (nI k) (X 74) (X 75) (X 76) (X 77) (X 78) (X 79) (X 80) (X 81) (X 82) (X 83) (X 84) (X 85) (X 102) (X 103) (X 112) (X 113) = some (nI (S 0), z74, X 75, X 76, X 77, X 78, X 79, X 80, X 81, X 82, X 83, X 84, X 85, X 102, z103, z112, upd (X 113) k (vp_nar .boolean 1)) := by
      unfold fX12_image fX12_image_0
      rw [show fX12_in (nI k).toInt64 0 3 = some (nI 1) from d2, bd1_s, if_neg (show ¬ nI 1 = (0 : Int32) from one_ne), gd_t hi, ei, bd15_s, gd_t (by decide), e5, ecl]
    have fin : ∀ n3 κ3 X3 Z3, LY n3 κ3 → X3 23 0 = nI (S 0) → (∀ a, 74 ≤ a → a < 114 → X3 a = X a) → INV n3 κ3 (ov X3 [74, 75, 76, 77, 78, 79, 80, 81, 82, 83, 84, 85, 102, 103, 112, 113] [z74, X 75, X 76, X 77, X 78, X 79, X 80, X 81, X 82, X 83, X 84, X 85, X 102, z103, z112, upd (X 113) k (vp_nar .boolean 1)]) Z3 → gMi l yX11_image cX11_image 2 (some FieldType.int) 4 104 175 2346 b0 D [.ref (b0 + 0), .int (nI k)] (n, κ, X, Y, Z) (n3, κ3, X3, Y, Z3) (X3 23 0) → CALL l b0 D yX11_image cX11_image 2 yX12_image cX12_image 2 [.int (nI k)] n κ X Y Z := fun n3 κ3 X3 Z3 hL3 e23 lo hIN mC => by
      rw [e23] at mC
      have er1 : fX12_image (nI k) (X3 74) (X3 75) (X3 76) (X3 77) (X3 78) (X3 79) (X3 80) (X3 81) (X3 82) (X3 83) (X3 84) (X3 85) (X3 102) (X3 103) (X3 112) (X3 113) = some (nI (S 0), z74, X 75, X 76, X 77, X 78, X 79, X 80, X 81, X 82, X 83, X 84, X 85, X 102, z103, z112, upd (X 113) k (vp_nar .boolean 1)) := by
        rw [lo 74 (by omega) (by omega), lo 75 (by omega) (by omega), lo 76 (by omega) (by omega), lo 77 (by omega) (by omega), lo 78 (by omega) (by omega), lo 79 (by omega) (by omega), lo 80 (by omega) (by omega), lo 81 (by omega) (by omega), lo 82 (by omega) (by omega), lo 83 (by omega) (by omega), lo 84 (by omega) (by omega), lo 85 (by omega) (by omega), lo 102 (by omega) (by omega), lo 103 (by omega) (by omega), lo 112 (by omega) (by omega), lo 113 (by omega) (by omega)]
        exact er
      have mR := c_X12_image l (X0 := X3) (Y0 := Y) (Z := Z3) hL3 (b0 := b0) (D := D) rfl rfl er1
      exact ⟨_, _, _, _, _, _, _, _, _, _, _, CL_mk mC (by omega) (by omega) (by omega) (by omega), CLR_mk hL3 mR (by omega) (by omega) (by omega) (by omega), hIN⟩
    cases hz : Z 31 k with
    | some w =>
      obtain ⟨n3, κ3, X3, Z3, mK, hL3, e23, lo, hIN⟩ := img_fin l (Y := Y) (b0 := b0) (D := D) hP hT h26 h37 h38 hrc h04 h21 hRL hV hC hR (fun k' hk' _ => hI k' hk') hk hz
      obtain ⟨w1, w2, w3⟩ := hP.2.1 k w hk hz
      exact fin n3 κ3 X3 Z3 hL3 e23 (fun a _ ha => lo a ha) (hIN z74 z103 z112 f74 hIM f112) (c_imageB l hP.1 d1 hi (by rw [ecl]; exact hz) w1 w2 mK hL3)
    | none =>
      have n114 := hP.1.1
      have hP1 := POOL_new hP hk hz
      have gx : ∀ a, a < n → va_up (blz X n 15) n (upd (fun _ => 0) 8 (-1)) a = X a := fun a ha => by rw [up_ne (by omega), blz_lt ha]
      have zo : ∀ a, a ≠ 31 → a ≠ n + 11 → va_up (va_up Z (n + 11) (fun _ => none)) 31 (va_up (Z 31) k (some n)) a = Z a := fun a h1 h2 => by rw [up_ne h1, up_ne h2]
      have zk : va_up (va_up Z (n + 11) (fun _ => none)) 31 (va_up (Z 31) k (some n)) 31 k = some n := by rw [up_eq, up_eq]
      have zk' : ∀ k', k' ≠ k → va_up (va_up Z (n + 11) (fun _ => none)) 31 (va_up (Z 31) k (some n)) 31 k' = Z 31 k' := fun k' hk' => by rw [up_eq, up_ne hk']
      have mI := fun n1 κ1 X1 Z1 => c_imageC (n1 := n1) (κ1 := κ1) (X1 := X1) (Z1 := Z1) (X := X) (Y := Y) (b0 := b0) (D := D) l hP.1 d1 hi (by rw [ecl]; exact hz)
      rw [ecl] at mI
      generalize va_up (va_up Z (n + 11) (fun _ => none)) 31 (va_up (Z 31) k (some n)) = Z1 at *
      generalize va_up (blz X n 15) n (upd (fun _ => 0) 8 (-1)) = X1 at *
      have hL2 : ∀ a, a < n → blk κ n nScn a = κ a := fun a ha => blk_lt ha
      obtain ⟨n3, κ3, X3, Z3, mK, hL3, e23, lo, hIN⟩ := img_fin l (X := X1) (Y := Y) (b0 := b0) (D := D) (sz := sz) hP1 (by rw [gx 1 (by omega), gx 2 (by omega), gx 74 (by omega), gx 91 (by omega)]; exact hT) (by rw [gx 74 (by omega)]; exact h26) (by rw [gx 74 (by omega)]; exact h37) (by rw [gx 74 (by omega)]; exact h38) hrc (by rw [gx 0 (by omega)]; exact h04) (by rw [gx 74 (by omega)]; exact h21) (RLS_gen (by omega) hL2 hP.1 (zo 15 (by omega) (by omega)) ⟨gx 92 (by omega), gx 93 (by omega), gx 94 (by omega), gx 95 (by omega), gx 96 (by omega), gx 97 (by omega)⟩ (fun ru k1 k2 _ => gx _ (by have := (hP.1.2.2.2.2.2 ru k2 k1).1; omega)) hRL) hV (CS_gen (fun i hi => gx _ (by omega)) (zo _ (by omega) (by omega)) hV.2.2.2.1 (fun j a hj ea => by
          obtain ⟨p1, p2, p3, p4⟩ := hP.2.2.2.1 16 j a (Or.inl rfl) hj ea
          have := (hP.1.2.2.1 a p2 p1).1
          exact ⟨gx _ (by omega), gx _ (by omega), gx _ (by omega), gx _ (by omega)⟩) hC) (by
          rw [gx 74 (by omega), gx 75 (by omega), gx 76 (by omega), gx 77 (by omega), gx 78 (by omega), gx 79 (by omega), gx 80 (by omega), gx 81 (by omega), gx 82 (by omega), gx 83 (by omega), gx 84 (by omega), gx 85 (by omega), gx 102 (by omega)]
          exact hR) (k := k) (w := n) (fun k' hk' hne => IMG_gen hk' (Nat.le_refl _) (zk' k' hne) (by rw [gx 113 (by omega)]) (fun j _ _ => by rw [gx 112 (by omega)]) (fun w hw => by
          obtain ⟨w1, w2, w3⟩ := hP.2.1 k' w hk' hw
          have wl := (hP.1.2.2.2.2.1 w w2 w1).1
          refine ⟨fun i hi' => gx _ (by omega), zo _ (by omega) (by omega), fun j a hj ea => ?_⟩
          obtain ⟨p1, p2, p3, p4⟩ := hP.2.2.2.1 w j a (Or.inr ⟨k', hk', hw⟩) hj ea
          have := (hP.1.2.2.1 a p2 p1).1
          exact ⟨gx _ (by omega), gx _ (by omega), gx _ (by omega), gx _ (by omega)⟩) (hI k' hk')) hk zk
      have hIN' := hIN z74 z103 z112 (by rw [gx 74 (by omega)]; exact f74) (by rw [gx 74 (by omega), gx 75 (by omega), gx 76 (by omega), gx 77 (by omega), gx 78 (by omega), gx 79 (by omega), gx 80 (by omega), gx 81 (by omega), gx 82 (by omega), gx 83 (by omega), gx 84 (by omega), gx 85 (by omega), gx 102 (by omega)]; exact hIM) (fun j hj => by rw [gx 112 (by omega)]; exact f112 j hj)
      rw [gx 75 (by omega), gx 76 (by omega), gx 77 (by omega), gx 78 (by omega), gx 79 (by omega), gx 80 (by omega), gx 81 (by omega), gx 82 (by omega), gx 83 (by omega), gx 84 (by omega), gx 85 (by omega), gx 102 (by omega), gx 113 (by omega)] at hIN'
      exact fin n3 κ3 X3 Z3 hL3 e23 (fun a _ ha => (lo a ha).trans (gx a (by omega))) hIN' (mI n3 κ3 X3 Z3 mK hL3)
  · have er : fX12_image v1 (X 74) (X 75) (X 76) (X 77) (X 78) (X 79) (X 80) (X 81) (X 82) (X 83) (X 84) (X 85) (X 102) (X 103) (X 112) (X 113) = some (-1, X 74, X 75, X 76, X 77, X 78, X 79, X 80, X 81, X 82, X 83, X 84, X 85, X 102, X 103, X 112, X 113) := by
      unfold fX12_image fX12_image_0
      rw [show fX12_in v1.toInt64 0 3 = some (nI 0) from d2, bd1_s, if_pos z00]
    have mR := c_X12_image l (X0 := X) (Y0 := Y) (Z := Z) hP.1 (b0 := b0) (D := D) rfl rfl er
    refine ⟨-1, _, _, _, _, _, _, _, _, _, _, CL_mk (c_imageA l hP.1 d1) (by omega) (by omega) (by omega) (by omega), CLR_mk hP.1 mR (by omega) (by omega) (by omega) (by omega), ?_⟩
    rw [show ov X [74, 75, 76, 77, 78, 79, 80, 81, 82, 83, 84, 85, 102, 103, 112, 113] [X 74, X 75, X 76, X 77, X 78, X 79, X 80, X 81, X 82, X 83, X 84, X 85, X 102, X 103, X 112, X 113] = X from ov_id' rfl]
    exact h
theorem k_back (l : Launch) (h : INV n κ X Z) (v1 : Int32) : CALL l b0 D yX11_back cX11_back 2 yX12_back cX12_back 2 [.int v1] n κ X Y Z := by
  obtain ⟨hP, ⟨sz, hT⟩, ⟨h26, h37, h38⟩, rc, hrc, h04, h21, hRL, hLv, hI⟩ := id h
  have no : CL l b0 D yX11_back cX11_back 2 (.ref (b0 + 0) :: [.int v1]) (n, κ, X, Y, Z) (n, κ, X, Y, Z) (-1) → fX12_back (X 113) v1 (X 74) (X 75) (X 76) (X 77) (X 78) (X 79) (X 80) (X 81) (X 82) (X 83) (X 84) (X 85) (X 102) (X 103) (X 112) = some (-1, X 74, X 75, X 76, X 77, X 78, X 79, X 80, X 81, X 82, X 83, X 84, X 85, X 102, X 103, X 112) → CALL l b0 D yX11_back cX11_back 2 yX12_back cX12_back 2 [.int v1] n κ X Y Z := fun hc er => by
    have mR := c_X12_back l (X0 := X) (Y0 := Y) (Z := Z) hP.1 (b0 := b0) (D := D) rfl rfl er
    refine ⟨-1, _, _, _, _, _, _, _, _, _, _, hc, CLR_mk hP.1 mR (by omega) (by omega) (by omega) (by omega), ?_⟩
    rw [show ov X [74, 75, 76, 77, 78, 79, 80, 81, 82, 83, 84, 85, 102, 103, 112, 113] [X 74, X 75, X 76, X 77, X 78, X 79, X 80, X 81, X 82, X 83, X 84, X 85, X 102, X 103, X 112, X 113] = X from ov_id' rfl]
    exact h
  rcases p_within (lo := 0) (hi := 3) (by omega) (by omega) v1 with ⟨k, _, k3, rfl, d1, d2⟩ | ⟨d1, d2⟩
  · have hk : k < 4 := by omega
    have hi : inb (nI k) 4 = true := inbN hk (by decide)
    have ecl : (nI k).toNatClampNeg = k := clN (by omega)
    rcases hI k hk with ⟨hz, h0⟩ | ⟨w, hz, h0, cc, o75, o76, o77, o78, o79, o80, o81, o82, o83, o84, o85, o102, H, M, K, N, q, S0, S, nn, nd, nh, np, c, P, fo, x, hIM, hV, hC, hR⟩
    · refine no (CL_mk (c_backB l hP.1 d1 hi (by rw [ecl]; exact hz)) (by omega) (by omega) (by omega) (by omega)) ?_
      unfold fX12_back fX12_back_0
      rw [show fX12_in (nI k).toInt64 0 3 = some (nI 1) from d2, bd1_s, if_neg (show ¬ nI 1 = (0 : Int32) from one_ne), gd_t hi, ecl, if_pos h0]
    · obtain ⟨z74, z75, z76, z77, z78, z79, z80, z81, z82, z83, z84, z85, z102, z103, ei, f74, f43, f75, f76, f77, f78, f79, f80, f81, f82, f83, f84, f85, f102⟩ := p_imgL (x74 := X 74) (x75 := X 75) (x76 := X 76) (x77 := X 77) (x78 := X 78) (x79 := X 79) (x80 := X 80) (x81 := X 81) (x82 := X 82) (x83 := X 83) (x84 := X 84) (x85 := X 85) (x102 := X 102) (x103 := X 103) hk hIM
      have hRz : RSc H M K N q S0 S nn nd nh np c P fo x z75 z76 z77 z78 z79 z80 z81 z82 z83 z84 z85 z102 cc := by
        obtain ⟨⟨r0, r1, r2, r3, r4, r8, r9, r10⟩, s2, s3, s4, ⟨s5, s5', s5''⟩, s6, s7⟩ := hR
        obtain ⟨a1, a2, a3, a4, a5, _⟩ := hV
        exact ⟨⟨(f75 0 (by omega)).trans r0, (f75 1 (by omega)).trans r1, (f75 2 (by omega)).trans r2, (f75 3 (by omega)).trans r3, (f75 4 (by omega)).trans r4, (f75 8 (by omega)).trans r8, (f75 9 (by omega)).trans r9, (f75 10 (by omega)).trans r10⟩, fun j hj => (f79 j (by have := a2.1; omega)).trans (s2 j hj), RR_same s3 f75 f76 f77 f78, fun j hj => ⟨(f80 j (by omega)).trans (s4 j hj).1, (f81 j (by omega)).trans (s4 j hj).2.1, (f82 j (by omega)).trans (s4 j hj).2.2⟩, ⟨fun j hj => (f83 j hj).trans (s5 j hj), fun j hj => (f84 j hj).trans (s5' j hj), fun j hj => (f85 j hj).trans (s5'' j hj)⟩, fun k hk j hj => (f102 _ (by omega)).trans (s6 k hk j hj), s7⟩
      have e5 : z75 (5 : Int32).toNatClampNeg = nI (S 0) := hRz.2.2.1.1 0 (by omega)
      have er : fX12_back (X 113) (nI k) (X 74) (X 75) (X 76) (X 77) (X 78) (X 79) (X 80) (X 81) (X 82) (X 83) (X 84) (X 85) (X 102) (X 103) (X 112) = some (nI (S 0), z74, z75, z76, z77, z78, z79, z80, z81, z82, z83, z84, z85, z102, z103, X 112) := by
        unfold fX12_back fX12_back_0
        rw [show fX12_in (nI k).toInt64 0 3 = some (nI 1) from d2, bd1_s, if_neg (show ¬ nI 1 = (0 : Int32) from one_ne), gd_t hi, ecl, if_neg h0, ei, bd15_s, gd_t (by decide), e5]
      have hsw : isSc Z w := Or.inr ⟨k, hk, hz⟩
      have w114 := (hP.2.1 k w hk hz).2.2
      obtain ⟨n3, κ3, X3, Z3, mK, hP3, hn, hκ, hzz, hCw, hsc, hru, hlo⟩ := copyS l (Y := Y) (b0 := b0) (D := D) (t := 16) (u := w) hP (Or.inl rfl) hsw (by omega) hV.2.1.1 hV.2.2.2.2.1 hV.2.2.2.1 hC
      have mC := c_backC l hP.1 d1 hi (by rw [ecl]; exact hz) mK hP3.1
      rw [show X3 23 0 = nI (S 0) from hCw.2.2.2.1.1 0 (by omega)] at mC
      have lo : ∀ a, a < 114 → (a < 16 ∨ 30 < a) → X3 a = X a := fun a h1 h2 => hlo a h1 (by omega)
      have er1 : fX12_back (X3 113) (nI k) (X3 74) (X3 75) (X3 76) (X3 77) (X3 78) (X3 79) (X3 80) (X3 81) (X3 82) (X3 83) (X3 84) (X3 85) (X3 102) (X3 103) (X3 112) = some (nI (S 0), z74, z75, z76, z77, z78, z79, z80, z81, z82, z83, z84, z85, z102, z103, X 112) := by
        rw [lo 74 (by omega) (by omega), lo 75 (by omega) (by omega), lo 76 (by omega) (by omega), lo 77 (by omega) (by omega), lo 78 (by omega) (by omega), lo 79 (by omega) (by omega), lo 80 (by omega) (by omega), lo 81 (by omega) (by omega), lo 82 (by omega) (by omega), lo 83 (by omega) (by omega), lo 84 (by omega) (by omega), lo 85 (by omega) (by omega), lo 102 (by omega) (by omega), lo 103 (by omega) (by omega), lo 112 (by omega) (by omega), lo 113 (by omega) (by omega)]
        exact er
      have mR := c_X12_back l (X0 := X3) (Y0 := Y) (Z := Z3) hP3.1 (b0 := b0) (D := D) rfl rfl er1
      refine ⟨_, _, _, _, _, _, _, _, _, _, _, CL_mk mC (by omega) (by omega) (by omega) (by omega), CLR_mk hP3.1 mR (by omega) (by omega) (by omega) (by omega), ?_⟩
      have e2 : ∀ X2, ov X3 [74, 75, 76, 77, 78, 79, 80, 81, 82, 83, 84, 85, 102, 103, 112, 113] [z74, z75, z76, z77, z78, z79, z80, z81, z82, z83, z84, z85, z102, z103, X 112, X3 113] = X2 → X2 74 = z74 ∧ X2 75 = z75 ∧ X2 76 = z76 ∧ X2 77 = z77 ∧ X2 78 = z78 ∧ X2 79 = z79 ∧ X2 80 = z80 ∧ X2 81 = z81 ∧ X2 82 = z82 ∧ X2 83 = z83 ∧ X2 84 = z84 ∧ X2 85 = z85 ∧ X2 102 = z102 ∧ X2 112 = X 112 ∧ X2 113 = X3 113 := fun X2 e => by subst e; exact ⟨rfl, rfl, rfl, rfl, rfl, rfl, rfl, rfl, rfl, rfl, rfl, rfl, rfl, rfl, rfl⟩
      have gb : ∀ a, (a < 74 ∨ 85 < a) → (a < 102 ∨ 103 < a) → (a < 112 ∨ 113 < a) → ov X3 [74, 75, 76, 77, 78, 79, 80, 81, 82, 83, 84, 85, 102, 103, 112, 113] [z74, z75, z76, z77, z78, z79, z80, z81, z82, z83, z84, z85, z102, z103, X 112, X3 113] a = X3 a := fun a h1 h2 h3 => ov_img h1 h2 h3
      generalize hX2 : ov X3 [74, 75, 76, 77, 78, 79, 80, 81, 82, 83, 84, 85, 102, 103, 112, 113] [z74, z75, z76, z77, z78, z79, z80, z81, z82, z83, z84, z85, z102, z103, X 112, X3 113] = X2 at gb
      obtain ⟨e74, e75, e76, e77, e78, e79, e80, e81, e82, e83, e84, e85, e102, e112, e113⟩ := e2 X2 hX2
      have gh : ∀ a, 114 ≤ a → X2 a = X3 a := fun a ha => gb a (by omega) (by omega) (by omega)
      have gl : ∀ a, (a < 16 ∨ (30 < a ∧ a < 74) ∨ (85 < a ∧ a < 102) ∨ (103 < a ∧ a < 112)) → X2 a = X a := fun a ha => (gb a (by omega) (by omega) (by omega)).trans (lo a (by omega) (by omega))
      have k74 : ∀ j, j ≠ 43 → j ≠ 56 → j ≠ 57 → X2 74 j = X 74 j := fun j h1 h2 h3 => by rw [e74]; exact f74 j h1 h2 h3
      refine ⟨hP3, ⟨sz, ?_⟩, ⟨(k74 26 (by omega) (by omega) (by omega)).trans h26, (k74 37 (by omega) (by omega) (by omega)).trans h37, (k74 38 (by omega) (by omega) (by omega)).trans h38⟩, rc, hrc, by rw [gl 0 (by omega)]; exact h04, (k74 21 (by omega) (by omega) (by omega)).trans h21, RLS_gen hn hκ hP.1 (hzz 15 (by omega)) ⟨gl 92 (by omega), gl 93 (by omega), gl 94 (by omega), gl 95 (by omega), gl 96 (by omega), gl 97 (by omega)⟩ (fun ru k1 k2 k3 => (gh _ (by omega)).trans (hru ru k1 k2 k3)) hRL, ⟨H, M, K, N, q, S0, S, nn, nd, nh, np, c, P, fo, x, hV, ?_, ?_⟩, fun k' hk' => ?_⟩
      · rw [gl 1 (by omega), gl 2 (by omega), gl 91 (by omega)]
        exact ⟨hT.1, hT.2.1, (k74 17 (by omega) (by omega) (by omega)).trans hT.2.2.1, hT.2.2.2⟩
      · refine CS_gen (fun i hi => gb _ (by omega) (by omega) (by omega)) rfl hV.2.2.2.1 (fun j a hj ea => ?_) hCw
        have := pool_16 hP3 j a hj ea
        exact ⟨gh _ (by omega), gh _ (by omega), gh _ (by omega), gh _ (by omega)⟩
      · rw [e74, f43, e75, e76, e77, e78, e79, e80, e81, e82, e83, e84, e85, e102]
        exact hRz
      · refine IMG_gen hk' (Nat.le_refl _) (by rw [hzz 31 (by omega)]) (by rw [e113, lo 113 (by omega) (by omega)]) (fun j _ _ => by rw [e112]) (fun w' hw' => ?_) (hI k' hk')
        have w4 := (hP.2.1 k' w' hk' hw').2.2
        obtain ⟨s1, s2⟩ := hsc w' (Or.inr ⟨k', hk', hw'⟩) (by omega)
        refine ⟨fun i hi => (gh _ (by omega)).trans (s1 i hi), hzz _ (by omega), fun j a hj ea => ?_⟩
        have := pool_w hP hk' hw' j a hj ea
        obtain ⟨q0, q1, q2, q3⟩ := s2 j a hj ea
        exact ⟨(gh _ (by omega)).trans q0, (gh _ (by omega)).trans q1, (gh _ (by omega)).trans q2, (gh _ (by omega)).trans q3⟩
  · refine no (CL_mk (c_backA l hP.1 d1) (by omega) (by omega) (by omega) (by omega)) ?_
    unfold fX12_back fX12_back_0
    rw [show fX12_in v1.toInt64 0 3 = some (nI 0) from d2, bd1_s, if_pos z00]
end IMGC

section RULC
variable {n : Nat} {κ : QT} {X : XT} {Y : YT} {Z : ZT} {b0 : Nat} {D : GD}
theorem scrC_of {a : Nat} (h1 : scr a = false) : scrC a = false := by
  unfold scr at h1; unfold scrC
  cases hh : ((decide (3 ≤ a) && decide (a ≤ 14)) || (decide (32 ≤ a) && decide (a ≤ 73))) with
  | false => rfl
  | true => rw [hh] at h1; simp at h1
theorem LY_rul {m : Nat} (hL : LY n κ) : LY (n + 3) (blk κ n [(4, 0), (14, m), (15, 40)]) := by
  refine LY_blk hL [(4, 0), (14, m), (15, 40)] (fun j hj e => ?_) (fun j hj e => ?_) (fun j hj e => ?_) (fun j hj e => ?_)
  · exfalso
    match j, hj with
    | 0, _ => cases e
    | 1, _ => cases e
    | 2, _ => cases e
  · exfalso
    match j, hj with
    | 0, _ => cases e
    | 1, _ => cases e
    | 2, _ => cases e
  · exfalso
    match j, hj with
    | 0, _ => cases e
    | 1, _ => cases e
    | 2, _ => cases e
  · match j, hj with
    | 0, _ => exact ⟨⟨m, rfl⟩, rfl⟩
    | 1, _ => cases e
    | 2, _ => cases e
/-- more cells, the pool's rows as they were -/
theorem POOL_grow {n' : Nat} {κ' : QT} {Z' : ZT} (h : POOL n κ Z) (hL : LY n' κ') (hn : n ≤ n') (hκ : ∀ a, a < n → κ' a = κ a) (hz : ∀ a, a ≠ 15 → Z' a = Z a) : POOL n' κ' Z' := by
  obtain ⟨_, p1, p2, p3, p4, p5⟩ := h
  have e31 : Z' 31 = Z 31 := hz 31 (by omega)
  have hs : ∀ s, isSc Z' s ↔ isSc Z s := fun s => by unfold isSc; rw [e31]
  have h11 : ∀ s, isSc Z s → Z' (s + 11) = Z (s + 11) := fun s hsc => hz _ (by
    rcases hsc with rfl | ⟨k, hk, e⟩
    · omega
    · have := (p1 k s hk e).2.2
      omega)
  refine ⟨hL, fun k s hk e => ?_, fun k k' s hk hk' e e' => ?_, fun s j a hsc hj e => ?_, fun s s' j j' a hsc hsc' hj hj' e e' => ?_, by rw [hz 41 (by omega)]; exact p5⟩
  · rw [e31] at e
    obtain ⟨a1, a2, a3⟩ := p1 k s hk e
    exact ⟨(hκ s a2).trans a1, by omega, a3⟩
  · rw [e31] at e e'
    exact p2 k k' s hk hk' e e'
  · have hsc2 := (hs s).mp hsc
    rw [h11 s hsc2] at e
    obtain ⟨a1, a2, a3, a4⟩ := p3 s j a hsc2 hj e
    exact ⟨(hκ a a2).trans a1, by omega, a3, fun s' hs' => a4 s' ((hs s').mp hs')⟩
  · have h1 := (hs s).mp hsc
    have h2 := (hs s').mp hsc'
    rw [h11 s h1] at e
    rw [h11 s' h2] at e'
    exact p4 s s' j j' a h1 h2 hj hj' e e'
theorem TX_0 {sz : Nat} {x1 x2 x74 x91 y1 z74 : FI} (h : TX sz x1 x2 x74 x91) (e1 : y1 1 = 0) (e2 : z74 17 = 0) : TX 0 y1 x2 z74 x91 := ⟨by omega, e1, e2, h.2.2.2⟩
theorem k_rule (l : Launch) (h : INV n κ X Z) : CALL l b0 D yX11_rule cX11_rule 2 yX12_rule cX12_rule 3 [] n κ X Y Z := by
  obtain ⟨hP, ⟨sz, hT⟩, ⟨h26, h37, h38⟩, rc, hrc, h04, h21, hRL, hLv, hI⟩ := id h
  by_cases h6 : rc = 6
  · have mC := c_ruleA l (X := X) (Y := Y) (Z := Z) (b0 := b0) (D := D) hP.1 (show ¬ X 0 4 < 6 by rw [h04, h6]; decide)
    have er : fX12_rule (X 91) (X 74) (X 92) (X 93) (X 94) (X 95) (X 96) (X 97) (X 98) = some (-1, X 74, X 92, X 93, X 94, X 95, X 96, X 97, X 98) := by
      unfold fX12_rule fX12_rule_0
      rw [if_pos (show X 74 21 = (6 : Int32) by rw [h21, h6]; rfl)]
    have mR := c_X12_rule l (X0 := X) (Y0 := Y) (Z := Z) hP.1 (b0 := b0) (D := D) rfl rfl er
    refine ⟨_, _, _, _, _, _, _, _, _, _, _, CL_mk mC (by omega) (by omega) (by omega) (by omega), CLR_mk hP.1 mR (by omega) (by omega) (by omega) (by omega), ?_⟩
    have e2 : ov X [74, 91, 92, 93, 94, 95, 96, 97, 98] [X 74, X 91, X 92, X 93, X 94, X 95, X 96, X 97, X 98] = X := ov_id' rfl
    rw [e2]
    exact h
  · have hlt : X 0 4 < 6 := by rw [h04]; exact nI_lt (b := 6) (by omega) (by omega)
    rcases e_rule (x3 := X 3) (x4 := X 4) (x5 := X 5) (x13 := X 13) (x14 := X 14) (x92 := X 92) (x93 := X 93) (x94 := X 94) (x95 := X 95) (x96 := X 96) (x97 := X 97) (x98 := X 98) (slot := rc) hT (by omega) h21 h26 with ⟨Cs, y1, y3, y4, y5, y13, y14, z74, z92, z93, z94, z95, z96, z97, z98, ec, er, hU, h132, z21, z17, fz, hF⟩ | ⟨F, y1, y3, y4, y5, y13, y14, z74, z92, z93, z94, z95, z96, z97, z98, ec, y17, er, z21, z17, fz, hF⟩
    · have l400 := hU.2.2.1
      have hcl : (y13 2).toNatClampNeg = (flC Cs).length := by rw [h132, clN (by omega)]
      have mC := c_ruleC l (X := X) (Y := Y) (Z := Z) (b0 := b0) (D := D) hP.1 hlt ec hcl (by rw [h132]; exact nI_pos (by omega)) (by rw [h132]; exact fun e => by have := (nI_eq (a := (flC Cs).length) (b := 412) (by omega) (by omega)).mp e; omega) (by rw [h132]; exact nI_lt (b := 412) (by omega) (by omega)) (by omega) (by rw [h04]; exact inbN (by omega) (by decide))
      have hB1 := ov_ok (f := fun a => scrC a = true ∨ a = 1) (X := X) (ks := [1, 2, 3, 4, 5, 13, 14]) (xs := [y1, X 2, y3, y4, y5, y13, y14]) (by refine ⟨?_, ?_, ?_, ?_, ?_, ?_, ?_, ?_⟩ <;> first | exact Or.inr rfl | exact Or.inl (by decide) | trivial)
      have hB14 : va_up (ov X [1, 2, 3, 4, 5, 13, 14] [y1, X 2, y3, y4, y5, y13, y14]) 1 (upd y1 1 0) 14 = y14 := rfl
      have hBB : ∀ a, scrC a = false → a ≠ 1 → va_up (ov X [1, 2, 3, 4, 5, 13, 14] [y1, X 2, y3, y4, y5, y13, y14]) 1 (upd y1 1 0) a = X a := fun a h1 h2 => by rw [up_ne h2]; exact hB1 a fun hh => hh.elim (scrC_n h1) h2
      have hB1' : va_up (ov X [1, 2, 3, 4, 5, 13, 14] [y1, X 2, y3, y4, y5, y13, y14]) 1 (upd y1 1 0) 1 = upd y1 1 0 := up_eq
      generalize va_up (ov X [1, 2, 3, 4, 5, 13, 14] [y1, X 2, y3, y4, y5, y13, y14]) 1 (upd y1 1 0) = B at mC hB14 hBB hB1'
      have n114 := hP.1.1
      have c0 : va_up (va_up (va_up B n fun _ => 0) (n + 1) fun _ => 0) (n + 1) (va_cpy (va_up B n (fun _ => 0) 14) (fun _ => 0) 0 0 (flC Cs).length) 0 = X 0 := by
        rw [up_ne (by omega), up_ne (by omega), up_ne (by omega)]; exact hBB 0 (by decide) (by decide)
      rw [c0] at mC
      generalize hX1 : va_up (va_up (va_up (va_up B n fun _ => 0) (n + 1) fun _ => 0) (n + 1) (va_cpy (va_up B n (fun _ => 0) 14) (fun _ => 0) 0 0 (flC Cs).length)) 0 (upd (X 0) 4 (X 0 4 + 1)) = X1 at mC
      have gA : ∀ a, scrC a = false → a ≠ 0 → a ≠ 1 → a < n → X1 a = X a := fun a h1 h0 h2 hn => by rw [← hX1, up_ne h0, up_ne (by omega), up_ne (by omega), up_ne (by omega)]; exact hBB a h1 h2
      have g0 : X1 0 = upd (X 0) 4 (X 0 4 + 1) := by rw [← hX1, up_eq]
      have g1 : X1 1 = upd y1 1 0 := by rw [← hX1, up_ne (by omega), up_ne (by omega), up_ne (by omega), up_ne (by omega)]; exact hB1'
      have gn : ∀ j, j < (flC Cs).length → X1 (n + 1) j = y14 j := fun j hj => by
        rw [← hX1, up_ne (by omega), up_eq, cpy_at hj, up_ne (by omega), hB14]
      have ans : X1 0 4 - 1 = nI rc := by
        rw [g0, pk_us, h04, nI_1, show (1 : Int32) = nI 1 from rfl, nsub (by omega), show rc + 1 - 1 = rc by omega]
      rw [ans] at mC
      have er1 : fX12_rule (X1 91) (X1 74) (X1 92) (X1 93) (X1 94) (X1 95) (X1 96) (X1 97) (X1 98) = some (nI rc, z74, z92, z93, z94, z95, z96, z97, z98) := by
        rw [gA 91 (by decide) (by decide) (by decide) (by omega), gA 74 (by decide) (by decide) (by decide) (by omega), gA 92 (by decide) (by decide) (by decide) (by omega), gA 93 (by decide) (by decide) (by decide) (by omega), gA 94 (by decide) (by decide) (by decide) (by omega), gA 95 (by decide) (by decide) (by decide) (by omega), gA 96 (by decide) (by decide) (by decide) (by omega), gA 97 (by decide) (by decide) (by decide) (by omega), gA 98 (by decide) (by decide) (by decide) (by omega)]
        exact er
      have hL3 := LY_rul (m := (flC Cs).length) hP.1
      have mR := c_X12_rule l (X0 := X1) (Y0 := va_up Y (n + 2) fun _ => 0) (Z := va_up Z 15 (va_up (Z 15) (X 0 4).toNatClampNeg (some n))) hL3 (b0 := b0) (D := D) rfl rfl er1
      refine ⟨nI rc, _, _, _, _, _, _, _, _, _, _, CL_mk mC (by omega) (by omega) (by omega) (by omega), CLR_mk hL3 mR (by omega) (by omega) (by omega) (by omega), ?_⟩
      have e92 : ∀ X2, ov X1 [74, 91, 92, 93, 94, 95, 96, 97, 98] [z74, X1 91, z92, z93, z94, z95, z96, z97, z98] = X2 → X2 74 = z74 ∧ X2 91 = X1 91 ∧ X2 92 = z92 ∧ X2 93 = z93 ∧ X2 94 = z94 ∧ X2 95 = z95 ∧ X2 96 = z96 ∧ X2 97 = z97 := fun X2 e => by subst e; exact ⟨rfl, rfl, rfl, rfl, rfl, rfl, rfl, rfl⟩
      have g2' : ∀ a, (a < 74 ∨ 98 < a ∨ (74 < a ∧ a < 91)) → ov X1 [74, 91, 92, 93, 94, 95, 96, 97, 98] [z74, X1 91, z92, z93, z94, z95, z96, z97, z98] a = X1 a := fun a ha => ov_nm fun k hk => by
        simp only [List.mem_cons, List.not_mem_nil, or_false] at hk
        omega
      generalize hX2 : ov X1 [74, 91, 92, 93, 94, 95, 96, 97, 98] [z74, X1 91, z92, z93, z94, z95, z96, z97, z98] = X2 at g2'
      obtain ⟨e74, e91, e92, e93, e94, e95, e96, e97⟩ := e92 X2 hX2
      have gB : ∀ a, scrC a = false → a ≠ 0 → a ≠ 1 → a < n → (a < 74 ∨ 98 < a ∨ (74 < a ∧ a < 91)) → X2 a = X a := fun a h1 h0 h2 hn h3 => (g2' a h3).trans (gA a h1 h0 h2 hn)
      have hi : ∀ a, 114 ≤ a → a < n → X2 a = X a := fun a ha hn => gB a (scrC_f (fix_ge ha)) (by omega) (by omega) hn (by omega)
      have fz' : ∀ j, j = 26 ∨ j = 37 ∨ j = 38 ∨ j = 43 → z74 j = X 74 j := fun j hj => fz j (by omega) (by omega) (by omega) (by omega) (by omega) (by omega) (by omega) (by omega) (by omega)
      have ecl : (X 0 4).toNatClampNeg = rc := by rw [h04, clN (by omega)]
      rw [ecl]
      have hPP : POOL (n + 3) (blk κ n [(4, 0), (14, (flC Cs).length), (15, 40)]) (va_up Z 15 (va_up (Z 15) rc (some n))) := POOL_grow hP hL3 (by omega) (fun a ha => blk_lt ha) (fun a ha => up_ne ha)
      refine ⟨hPP, ⟨0, ?_⟩, ⟨by rw [e74, fz' 26 (by omega)]; exact h26, by rw [e74, fz' 37 (by omega)]; exact h37, by rw [e74, fz' 38 (by omega)]; exact h38⟩, rc + 1, by omega, ?_, by rw [e74]; exact z21, fun k hk => ?_, ?_, fun k hk => ?_⟩
      · rw [e74, e91, gA 91 (by decide) (by decide) (by decide) (by omega), g2' 1 (by omega), g1, g2' 2 (by omega), gA 2 (by decide) (by decide) (by decide) (by omega)]
        exact TX_0 hT pk_us z17
      · rw [g2' 0 (by omega), g0, pk_us, h04, nI_1]
      · rw [e92, e93, e94, e95, e96, e97]
        by_cases ek : k = rc
        · subst ek
          refine ⟨n, (flC Cs).length, Cs, by rw [up_eq, up_eq], blk_at 0 rfl rfl, by omega, n114, blk_at 1 rfl rfl, RUL_CW hU fun j hj => ?_, ⟨hU.1, hU.2.1, hU.2.2.2.1, hU.2.2.2.2.2.1, hU.2.2.2.2.2.2.1, hU.2.2.2.2.2.2.2⟩⟩
          rw [g2' (n + 1) (by omega)]; exact gn j hj
        · obtain ⟨ru, Lru, Cs', a1, a2, a3, a4, a5, a6, a7⟩ := hRL k (by omega)
          have hL4 := (hP.1.2.2.2.2.2 ru a3 a2).1
          exact ⟨ru, Lru, Cs', by rw [up_eq, up_ne ek]; exact a1, (blk_lt a3).trans a2, by omega, a4, (blk_lt (by omega)).trans a5, by rw [hi _ (by omega) (by omega)]; exact a6, RU_fr (by omega) hF a7⟩
      · obtain ⟨H, M, K, N, q, S0, S, nn, nd, nh, np, c, P, fo, x, hV, hC, hR⟩ := hLv
        refine ⟨H, M, K, N, q, S0, S, nn, nd, nh, np, c, P, fo, x, VSc_rc (by omega) hV, CS_gen (fun i h => gB _ (scrC_f (fix_16 h)) (by omega) (by omega) (by omega) (by omega)) (by rw [up_ne (by omega)]) hV.2.2.2.1 (fun j a hj ea => ?_) hC, ?_⟩
        · obtain ⟨p1, p2, p3, p4⟩ := hP.2.2.2.1 16 j a (Or.inl rfl) hj ea
          have := (hP.1.2.2.1 a p2 p1).1
          exact ⟨hi _ (by omega) (by omega), hi _ (by omega) (by omega), hi _ (by omega) (by omega), hi _ (by omega) (by omega)⟩
        · rw [e74, fz' 43 (by omega), gB 75 (by decide) (by decide) (by decide) (by omega) (by omega), gB 76 (by decide) (by decide) (by decide) (by omega) (by omega), gB 77 (by decide) (by decide) (by decide) (by omega) (by omega), gB 78 (by decide) (by decide) (by decide) (by omega) (by omega), gB 79 (by decide) (by decide) (by decide) (by omega) (by omega), gB 80 (by decide) (by decide) (by decide) (by omega) (by omega), gB 81 (by decide) (by decide) (by decide) (by omega) (by omega), gB 82 (by decide) (by decide) (by decide) (by omega) (by omega), gB 83 (by decide) (by decide) (by decide) (by omega) (by omega), gB 84 (by decide) (by decide) (by decide) (by omega) (by omega), gB 85 (by decide) (by decide) (by decide) (by omega) (by omega), gB 102 (by decide) (by decide) (by decide) (by omega) (by omega)]
          exact hR
      · refine IMG_gen hk (by omega) (by rw [up_ne (by omega)]) (by rw [gB 113 (by decide) (by decide) (by decide) (by omega) (by omega)]) (fun j _ _ => by rw [gB 112 (by decide) (by decide) (by decide) (by omega) (by omega)]) (fun w hw => ?_) (hI k hk)
        obtain ⟨w1, w2, w3⟩ := hP.2.1 k w hk hw
        have wl := (hP.1.2.2.2.2.1 w w2 w1).1
        refine ⟨fun i hi' => hi _ (by omega) (by omega), by rw [up_ne (by omega)], fun j a hj ea => ?_⟩
        obtain ⟨p1, p2, p3, p4⟩ := hP.2.2.2.1 w j a (Or.inr ⟨k, hk, hw⟩) hj ea
        have := (hP.1.2.2.1 a p2 p1).1
        exact ⟨hi _ (by omega) (by omega), hi _ (by omega) (by omega), hi _ (by omega) (by omega), hi _ (by omega) (by omega)⟩
    · have mC := c_ruleB l (X := X) (Y := Y) (Z := Z) (b0 := b0) (D := D) hP.1 hlt ec
      have hB1 := ov_ok (f := fun a => scrC a = true ∨ a = 1) (X := X) (ks := [1, 2, 3, 4, 5, 13, 14]) (xs := [y1, X 2, y3, y4, y5, y13, y14]) (by refine ⟨?_, ?_, ?_, ?_, ?_, ?_, ?_, ?_⟩ <;> first | exact Or.inr rfl | exact Or.inl (by decide) | trivial)
      have hBB : ∀ a, scrC a = false → a ≠ 1 → va_up (ov X [1, 2, 3, 4, 5, 13, 14] [y1, X 2, y3, y4, y5, y13, y14]) 1 (upd y1 1 0) a = X a := fun a h1 h2 => by rw [up_ne h2]; exact hB1 a fun hh => hh.elim (scrC_n h1) h2
      have hB1' : va_up (ov X [1, 2, 3, 4, 5, 13, 14] [y1, X 2, y3, y4, y5, y13, y14]) 1 (upd y1 1 0) 1 = upd y1 1 0 := up_eq
      generalize va_up (ov X [1, 2, 3, 4, 5, 13, 14] [y1, X 2, y3, y4, y5, y13, y14]) 1 (upd y1 1 0) = X1 at mC hBB hB1'
      rw [y17] at mC
      have er1 : fX12_rule (X1 91) (X1 74) (X1 92) (X1 93) (X1 94) (X1 95) (X1 96) (X1 97) (X1 98) = some (-2 - nI F, z74, z92, z93, z94, z95, z96, z97, z98) := by
        rw [hBB 91 (by decide) (by decide), hBB 74 (by decide) (by decide), hBB 92 (by decide) (by decide), hBB 93 (by decide) (by decide), hBB 94 (by decide) (by decide), hBB 95 (by decide) (by decide), hBB 96 (by decide) (by decide), hBB 97 (by decide) (by decide), hBB 98 (by decide) (by decide)]
        exact er
      have mR := c_X12_rule l (X0 := X1) (Y0 := Y) (Z := Z) hP.1 (b0 := b0) (D := D) rfl rfl er1
      refine ⟨_, _, _, _, _, _, _, _, _, _, _, CL_mk mC (by omega) (by omega) (by omega) (by omega), CLR_mk hP.1 mR (by omega) (by omega) (by omega) (by omega), ?_⟩
      have e92 : ∀ X2, ov X1 [74, 91, 92, 93, 94, 95, 96, 97, 98] [z74, X1 91, z92, z93, z94, z95, z96, z97, z98] = X2 → X2 74 = z74 ∧ X2 91 = X1 91 ∧ X2 92 = z92 ∧ X2 93 = z93 ∧ X2 94 = z94 ∧ X2 95 = z95 ∧ X2 96 = z96 ∧ X2 97 = z97 := fun X2 e => by subst e; exact ⟨rfl, rfl, rfl, rfl, rfl, rfl, rfl, rfl⟩
      have g2' : ∀ a, (a < 74 ∨ 98 < a ∨ (74 < a ∧ a < 91)) → ov X1 [74, 91, 92, 93, 94, 95, 96, 97, 98] [z74, X1 91, z92, z93, z94, z95, z96, z97, z98] a = X1 a := fun a ha => ov_nm fun k hk => by
        simp only [List.mem_cons, List.not_mem_nil, or_false] at hk
        omega
      generalize hX2 : ov X1 [74, 91, 92, 93, 94, 95, 96, 97, 98] [z74, X1 91, z92, z93, z94, z95, z96, z97, z98] = X2 at g2'
      obtain ⟨e74, e91, e92, e93, e94, e95, e96, e97⟩ := e92 X2 hX2
      have gB : ∀ a, scrC a = false → a ≠ 1 → (a < 74 ∨ 98 < a ∨ (74 < a ∧ a < 91)) → X2 a = X a := fun a h1 h2 h3 => (g2' a h3).trans (hBB a h1 h2)
      have hi : ∀ a, 114 ≤ a → X2 a = X a := fun a ha => gB a (scrC_f (fix_ge ha)) (by omega) (by omega)
      have fz' : ∀ j, j = 26 ∨ j = 37 ∨ j = 38 ∨ j = 43 → z74 j = X 74 j := fun j hj => fz j (by omega) (by omega) (by omega) (by omega) (by omega) (by omega) (by omega) (by omega) (by omega)
      refine ⟨hP, ⟨0, ?_⟩, ⟨by rw [e74, fz' 26 (by omega)]; exact h26, by rw [e74, fz' 37 (by omega)]; exact h37, by rw [e74, fz' 38 (by omega)]; exact h38⟩, rc, hrc, by rw [gB 0 (by decide) (by decide) (by omega)]; exact h04, by rw [e74]; exact z21, fun k hk => ?_, LIV_same hP hi (fun i h => gB _ (scrC_f (fix_16 h)) (by omega) (by omega)) (gB 75 (by decide) (by decide) (by omega)) (gB 76 (by decide) (by decide) (by omega)) (gB 77 (by decide) (by decide) (by omega)) (gB 78 (by decide) (by decide) (by omega)) (gB 79 (by decide) (by decide) (by omega)) (gB 80 (by decide) (by decide) (by omega)) (gB 81 (by decide) (by decide) (by omega)) (gB 82 (by decide) (by decide) (by omega)) (gB 83 (by decide) (by decide) (by omega)) (gB 84 (by decide) (by decide) (by omega)) (gB 85 (by decide) (by decide) (by omega)) (gB 102 (by decide) (by decide) (by omega)) (by rw [e74]; exact fz' 43 (by omega)) hLv, fun k hk => ?_⟩
      · rw [e74, e91, hBB 91 (by decide) (by decide), g2' 1 (by omega), hB1', g2' 2 (by omega), hBB 2 (by decide) (by decide)]
        exact TX_0 hT pk_us z17
      · rw [e92, e93, e94, e95, e96, e97]
        obtain ⟨ru, Lru, Cs', a1, a2, a3, a4, a5, a6, a7⟩ := hRL k hk
        exact ⟨ru, Lru, Cs', a1, a2, a3, a4, a5, by rw [hi _ (by omega)]; exact a6, RU_fr (by omega) hF a7⟩
      · refine IMG_gen hk (Nat.le_refl _) rfl (by rw [gB 113 (by decide) (by decide) (by omega)]) (fun j _ _ => by rw [gB 112 (by decide) (by decide) (by omega)]) (fun w hw => ?_) (hI k hk)
        have w3 := (hP.2.1 k w hk hw).2.2
        refine ⟨fun i hi' => hi _ (by omega), rfl, fun j a hj ea => ?_⟩
        have := pool_w hP hk hw j a hj ea
        exact ⟨hi _ (by omega), hi _ (by omega), hi _ (by omega), hi _ (by omega)⟩
end RULC

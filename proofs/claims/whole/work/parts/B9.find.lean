section FINDC
variable {n rc lk : Nat} {κ : QT} {X : XT} {Y : YT} {Z : ZT} {b0 : Nat} {D : GD} {H M K N : Nat} {q : Nat → Nat} {S0 S : SN} {nn : Nat} {nd nh np : Nat → Nat} {c : Nat} {P : Nat → SN} {fo : Int32} {x : Nat} {WS : Nat → WW} {l : Launch}
/-- the rules as they are weighed: none first, then each -/
def RWS (rc n : Nat) (κ : QT) (X : XT) (Z : ZT) (WS : Nat → WW) : Prop := (∀ i, i ≤ rc → RW (vv i) (X 92) (X 93) (X 94) (X 95) (X 96) (X 97) (WS i)) ∧ WS 0 = none ∧ ∀ k, k < rc → ∃ ru Lru W, WS (k + 1) = some W ∧ Z 15 k = some ru ∧ κ ru = (4, 0) ∧ ru < n ∧ 114 ≤ ru ∧ κ (ru + 1) = (14, Lru) ∧ CW Lru (X (ru + 1)) W
theorem RWS_mk (hrc : rc ≤ 6) (h : RLS rc n κ X Z) : ∃ WS, RWS rc n κ X Z WS := by
  have h1 : ∀ k, ∃ W : (Nat → Int64) → Int64, k < rc → (RW (nI k) (X 92) (X 93) (X 94) (X 95) (X 96) (X 97) (some W) ∧ ∃ ru Lru, Z 15 k = some ru ∧ κ ru = (4, 0) ∧ ru < n ∧ 114 ≤ ru ∧ κ (ru + 1) = (14, Lru) ∧ CW Lru (X (ru + 1)) W) := fun k => by
    by_cases hk : k < rc
    · obtain ⟨ru, Lru, Cs, a1, a2, a3, a4, a5, a6, a7⟩ := h k hk
      exact ⟨wF Cs, fun _ => ⟨RU_RW (by omega) a7, ru, Lru, a1, a2, a3, a4, a5, a6⟩⟩
    · exact ⟨fun _ => 0, fun hh => absurd hh hk⟩
  obtain ⟨Ws, hWs⟩ := Classical.axiomOfChoice h1
  refine ⟨fun i => match i with | 0 => none | k + 1 => some (Ws k), fun i hi => ?_, rfl, fun k hk => ?_⟩
  · match i, hi with
    | 0, _ => exact rfl
    | k + 1, hi => exact (hWs k (by omega)).1
  · obtain ⟨_, ru, Lru, a⟩ := hWs k hk
    exact ⟨ru, Lru, Ws k, rfl, a⟩
/-- what finding the rules that could be needs -/
def FND (n rc lk : Nat) (κ : QT) (X : XT) (Z : ZT) (WS : Nat → WW) (H M K N : Nat) (q : Nat → Nat) (S0 : SN) (nn : Nat) (nd nh np : Nat → Nat) : Prop := LY n κ ∧ rc ≤ 6 ∧ lk ≤ 60 ∧ VD H M 0 S0 ∧ TC H M K N q (X 17) (X 18) ∧ RC S0 (X 19) (X 20) (X 21) (X 22) ∧ NT H M nn nd nh np (X 28) (X 29) (X 30) (X 80) (X 81) (X 82) ∧ X 16 7 = nI nn ∧ RWS rc n κ X Z WS
theorem f_step {i mn : Nat} {X' : XT} {Y' : YT} (h : FND n rc lk κ X Z WS H M K N q S0 nn nd nh np) (hi : i ≤ rc) (hmn : mn < 7) (hX : ∀ a, scrC a = false → X' a = X a) (h67 : X' 67 3 = nI mn) : ∃ res X1 Y1, FStep l b0 D n κ Z (nI lk) (vv i) X' Y' res X1 Y1 ∧ (∀ a, scrC a = false → X1 a = X' a) ∧ X1 67 = X' 67 ∧ X1 72 = X' 72 ∧ (∀ j, j < 6 * mn → X1 73 j = X' 73 j) ∧ ((res = nI 0 ∧ ¬ okA H M K N q (WS i) nn nd nh np S0) ∨ (res = nI 1 ∧ okA H M K N q (WS i) nn nd nh np S0 ∧ ∀ h, h < 6 → X1 73 (6 * mn + h) = nI (sPl (run H M K N q (WS i) lk S0) h))) := by
  obtain ⟨hL, hrc, hlk, hV, hT, hR0, hN, h7, hW, hW0, hWk⟩ := h
  rw [← hX 17 (by decide), ← hX 18 (by decide)] at hT
  rw [← hX 19 (by decide), ← hX 20 (by decide), ← hX 21 (by decide), ← hX 22 (by decide)] at hR0
  rw [← hX 28 (by decide), ← hX 29 (by decide), ← hX 30 (by decide)] at hN
  rw [← hX 16 (by decide)] at h7
  match i, hi with
  | 0, _ =>
    rw [hW0]
    obtain ⟨r, c33, c68, c69, c70, c71, c73, ec, e73, hr⟩ := c_isSoN (x33 := X' 33) (x68 := X' 68) (x69 := X' 69) (x70 := X' 70) (x71 := X' 71) (x73 := X' 73) hlk hmn hV hT hR0 hN h7 h67
    have mC := c_X0_isSoN l (X0 := X') (Y0 := Y') (Z := Z) hL (b0 := b0) (D := D) rfl rfl ec
    refine ⟨r, _, _, Or.inl ⟨by decide, mC⟩, fun a ha => ?_, rfl, rfl, e73, hr⟩
    exact ov_ok (f := fun a => scrC a = true) (by refine ⟨?_, ?_, ?_, ?_, ?_, ?_, ?_, ?_, ?_, ?_, ?_, ?_, ?_, ?_, ?_, ?_, ?_, ?_⟩ <;> first | exact Or.inr rfl | exact Or.inl (by decide) | trivial) a (scrC_n ha)
  | k + 1, hi =>
    obtain ⟨ru, Lru, W, w1, a1, a2, a3, a4, a5, a6⟩ := hWk k (by omega)
    rw [w1]
    rw [← hX (ru + 1) (scrC_f (fix_ge (by omega)))] at a6
    obtain ⟨r, c33, c68, c69, c70, c71, c73, zz, yy, ec, e73, hr⟩ := c_isSoR (x33 := X' 33) (x68 := X' 68) (x69 := X' 69) (x70 := X' 70) (x71 := X' 71) (x73 := X' 73) (z := Y' (ru + 2)) (y := Y' 34) a6 hlk hmn hV hT hR0 hN h7 h67
    have mC := c_X0_isSoR l (X0 := X') (Y0 := Y') (Z := Z) hL a2 a3 a5 (nd_r a4 (by decide)) (nd_y a4) (b0 := b0) (D := D) rfl rfl ec
    have ev : vv (k + 1) = nI k := by unfold vv; rw [if_neg (by omega), Nat.add_sub_cancel]
    have g := ov_ok (f := fun a => a = 33 ∨ (68 ≤ a ∧ a ≤ 71) ∨ a = 73) (X := X') (ks := [ru + 1, 16, 17, 18, 19, 20, 21, 22, 28, 29, 30, 33, 67, 68, 69, 70, 71, 73]) (xs := [X' (ru + 1), X' 16, X' 17, X' 18, X' 19, X' 20, X' 21, X' 22, X' 28, X' 29, X' 30, c33, X' 67, c68, c69, c70, c71, c73]) (by refine ⟨?_, ?_, ?_, ?_, ?_, ?_, ?_, ?_, ?_, ?_, ?_, ?_, ?_, ?_, ?_, ?_, ?_, ?_, ?_⟩ <;> first | exact Or.inr rfl | exact Or.inl (by decide) | trivial)
    have g73 : ov X' [ru + 1, 16, 17, 18, 19, 20, 21, 22, 28, 29, 30, 33, 67, 68, 69, 70, 71, 73] [X' (ru + 1), X' 16, X' 17, X' 18, X' 19, X' 20, X' 21, X' 22, X' 28, X' 29, X' 30, c33, X' 67, c68, c69, c70, c71, c73] 73 = c73 := by rw [ov_cons, up_ne (by omega)]; rfl
    refine ⟨r, _, _, Or.inr ⟨by rw [ev]; exact nI_le (a := 0) (by omega) (by omega), ru, by rw [ev]; exact inbN (by omega) (by decide), by rw [ev, clN (by omega)]; exact a1, mC⟩, fun a ha => ?_, g 67 (by omega), g 72 (by omega), by rw [g73]; exact e73, by rw [g73]; exact hr⟩
    refine g a fun hh => ?_
    rcases hh with e | e | e
    · subst e; revert ha; decide
    · have : scrC a = true := by
        unfold scrC
        rw [decide_eq_true (show 32 ≤ a by omega), decide_eq_true (show a ≤ 73 by omega)]
        simp
      rw [this] at ha; cases ha
    · subst e; revert ha; decide
/-- what has been found behind so many rules -/
def FIi (ok : Nat → Bool) (g : Nat → Nat → Nat) (X : XT) (i : Nat) (X' : XT) : Prop := (∀ a, scrC a = false → X' a = X a) ∧ X' 67 3 = nI (gs ok g i).1 ∧ (gs ok g i).1 = (cg ok i).1 ∧ (∀ c, c < (gs ok g i).1 → ∀ h, h < 6 → X' 73 (6 * c + h) = nI ((gs ok g i).2 c h)) ∧ ((gs ok g i).1 ≠ 0 → X' 72 0 = vv (cg ok i).2)
theorem f_run (h : FND n rc lk κ X Z WS H M K N q S0 nn nd nh np) : ∀ m i X' Y', i + m = rc + 1 → FIi (okB H M K N q WS nn nd nh np S0) (fun i h => sPl (run H M K N q (WS i) lk S0) h) X i X' → ∃ X2 Y2, FRun l b0 D n κ Z (nI lk) (nI rc) m (vv i) X' Y' X2 Y2 ∧ FIi (okB H M K N q WS nn nd nh np S0) (fun i h => sPl (run H M K N q (WS i) lk S0) h) X (rc + 1) X2
  | 0, i, X', Y', hm, hI => by
    have ei : i = rc + 1 := by omega
    subst ei
    exact ⟨X', Y', ⟨Or.inl ((vv_ge h.2.1 (by have := h.2.1; omega)).mpr (by omega)), rfl, rfl⟩, hI⟩
  | m + 1, i, X', Y', hm, hI => by
    have hrc := h.2.1
    obtain ⟨i1, i2, i3, i4, i5⟩ := hI
    have hle := gs_le (okB H M K N q WS nn nd nh np S0) (fun i h => sPl (run H M K N q (WS i) lk S0) h) i
    obtain ⟨res, X1, Y1, fs, g1, g67, g72, g73, hr⟩ := f_step (l := l) (b0 := b0) (D := D) (Y' := Y') h (show i ≤ rc by omega) (mn := (gs (okB H M K N q WS nn nd nh np S0) (fun i h => sPl (run H M K N q (WS i) lk S0) h) i).1) (by omega) i1 i2
    generalize ok_ : okB H M K N q WS nn nd nh np S0 = ok at *
    have n1 : ¬ nI rc ≤ vv i := fun e => by have := (vv_ge hrc (by omega)).mp e; omega
    have n7 : ¬ Int32.ofNat 7 ≤ X' 67 3 := by rw [i2]; exact nI_ge (b := 7) (by omega) (by omega)
    rcases hr with ⟨e0, nok⟩ | ⟨e1, yok, hsee⟩
    · have hn : ¬ ok i = true := by rw [← ok_]; exact okB_f nok
      have hJ : FIi ok (fun i h => sPl (run H M K N q (WS i) lk S0) h) X (i + 1) X1 := by
        unfold FIi
        rw [gs_n hn, cg_n hn]
        exact ⟨fun a ha => (g1 a ha).trans (i1 a ha), by rw [g67]; exact i2, i3, fun c hc h hh => (g73 _ (by omega)).trans (i4 c hc h hh), fun hne => by rw [g72]; exact i5 hne⟩
      have IH := f_run h m (i + 1) X1 Y1 (by omega) (by rw [ok_]; exact hJ)
      rw [ok_] at IH
      obtain ⟨X2, Y2, hf, hI2⟩ := IH
      rw [← vv_s] at hf
      exact ⟨X2, Y2, ⟨n1, n7, res, X1, Y1, fs, Or.inl ⟨by rw [e0]; rfl, hf⟩⟩, hI2⟩
    · have hy : ok i = true := by rw [← ok_]; exact okB_t yok
      have e673 : X1 67 3 = nI (gs ok (fun i h => sPl (run H M K N q (WS i) lk S0) h) i).1 := by rw [g67]; exact i2
      have ecl : (X1 67 3).toNatClampNeg = (gs ok (fun i h => sPl (run H M K N q (WS i) lk S0) h) i).1 := by rw [e673, clN (by omega)]
      have hJ : FIi ok (fun i h => sPl (run H M K N q (WS i) lk S0) h) X (i + 1) (fRec X1 (vv i)) := by
        have f67 : fRec X1 (vv i) 67 = upd (X1 67) 3 (X1 67 3 + 1) := by
          unfold fRec; rw [up_eq, up_ne (by omega)]
        have f72 : fRec X1 (vv i) 72 = upd (X1 72) (X1 67 3).toNatClampNeg (vv i) := by
          unfold fRec; rw [up_ne (by omega), up_eq]
        have fo : ∀ a, a ≠ 67 → a ≠ 72 → fRec X1 (vv i) a = X1 a := fun a ha hb => by
          unfold fRec; rw [up_ne ha, up_ne hb]
        unfold FIi
        rw [gs_y hy, cg_y hy]
        refine ⟨fun a ha => ?_, by rw [f67, pk_us, e673, nI_1], by rw [i3], fun c hc h hh => ?_, fun _ => ?_⟩
        · have ne1 : a ≠ 67 := fun e => by subst e; revert ha; decide
          have ne2 : a ≠ 72 := fun e => by subst e; revert ha; decide
          rw [fo a ne1 ne2]
          exact (g1 a ha).trans (i1 a ha)
        · rw [fo 73 (by omega) (by omega)]
          by_cases ec : c = (gs ok (fun i h => sPl (run H M K N q (WS i) lk S0) h) i).1
          · simp only [ec, if_true]
            exact hsee h hh
          · simp only [ec, if_false]
            have hc' : c < (gs ok (fun i h => sPl (run H M K N q (WS i) lk S0) h) i).1 + 1 := hc
            exact (g73 _ (by omega)).trans (i4 c (by omega) h hh)
        · rw [f72, ecl, ← i3]
          by_cases e : (gs ok (fun i h => sPl (run H M K N q (WS i) lk S0) h) i).1 = 0
          · rw [if_pos e, e, pk_us]
          · rw [if_neg e, pk_un (by omega), g72]
            exact i5 e
      have IH := f_run h m (i + 1) (fRec X1 (vv i)) Y1 (by omega) (by rw [ok_]; exact hJ)
      rw [ok_] at IH
      obtain ⟨X2, Y2, hf, hI2⟩ := IH
      rw [← vv_s] at hf
      exact ⟨X2, Y2, ⟨n1, n7, res, X1, Y1, fs, Or.inr ⟨by rw [e1]; exact one_ne, by rw [e673]; exact inbN (by omega) (by decide), hf⟩⟩, hI2⟩
/-- find, from a scene -/
theorem f_find (l : Launch) (h : FND n rc lk κ X Z WS H M K N q S0 nn nd nh np) : ∃ X1 Y1, gMv l yX0_find cX0_find 6 none 6 163 0 0 b0 D [.ref (b0 + 67), .ref (b0 + 16), .ref (b0 + 15), .int (nI rc), .int (nI lk)] (n, κ, X, Y, Z) (n, κ, X1, Y1, Z) ∧ FIi (okB H M K N q WS nn nd nh np S0) (fun i h => sPl (run H M K N q (WS i) lk S0) h) X (rc + 1) X1 := by
  have h0 : FIi (okB H M K N q WS nn nd nh np S0) (fun i h => sPl (run H M K N q (WS i) lk S0) h) X 0 (va_up X 67 (upd (X 67) 3 0)) := by
    refine ⟨fun a ha => up_ne fun e => by subst e; revert ha; decide, ?_, rfl, fun c hc => absurd hc (Nat.not_lt_zero _), fun hne => absurd rfl hne⟩
    rw [up_eq, pk_us]; rfl
  obtain ⟨X2, Y2, hf, hI⟩ := f_run (l := l) (b0 := b0) (D := D) h (rc + 1) 0 _ Y (by omega) h0
  exact ⟨X2, Y2, c_find l h.1 hf, hI⟩
end FINDC

abbrev R4 : Type := Option (FI × FI × FI × FI)
abbrev rep (n q : Nat) : List StO := List.replicate n (q, 0)
def FL4 (sz slot : Nat) (x74 x92 x93 : FI) (oc : C4) (or : R4) : Prop := ∃ F y1 y13 y14 z74 z92 z93 z98, oc = some (0, y1, y13, y14) ∧ y1 7 = nI F ∧ or = some (z74, z92, z93, z98) ∧ RF sz slot F x74 x92 x93 z74 z92 z93
/-- how high a fact's stack goes -/
def hgt (D : Nat) : Nat := 4 + 2 * (10 - D)
def FO (t : FI) (sz c slot d e i D o : Nat) (S E : List StO) (x3 x4 x5 x74 x91 x92 x93 x98 : FI) (oc : C4) (or : R4) : Prop :=
  (∃ fuel nn i' p' k' L V y1 y13 y14 z74 z92 z93 z98, i < i' ∧ Sem (L ++ rep nn 36) (hgt D) V ∧ oc = some (1, y1, y13, y14) ∧ or = lq6 (fX12_test_9b x91) fuel 0 1 z74 z92 z93 z98 ∧ RS t sz c slot d (e + 3 + 3 * nn) i' p' (S ++ (L ++ rep nn 36)) (E ++ L) k' y1 x3 x4 x5 y13 y14 z74 x91 z92 z93 ∧ z74 25 = nI (o + nn) ∧ z74 23 = nI (D + nn) ∧ (∀ j, j < nn → z98 (o + j) = nI 9) ∧ (∀ j, j < o → z98 j = x98 j) ∧ fu74 x74 z74 ∧ fr92 slot x92 x93 z92 z93 ∧ o + nn ≤ i' ∧ c + 4 ≤ fuel + i') ∨ FL4 sz slot x74 x92 x93 oc or
def FSpec (t x3 x4 x5 x91 : FI) (sz c slot j D : Nat) : Prop := ∀ (d e i p k o fuel : Nat) (S E : List StO) (x1 x13 x14 x74 x92 x93 x98 : FI), RS t sz c slot d e i p S E k x1 x3 x4 x5 x13 x14 x74 x91 x92 x93 → x74 25 = nI o → x74 23 = nI D → o ≤ i → c + 4 ≤ fuel + i → FO t sz c slot d e i D o S E x3 x4 x5 x74 x91 x92 x93 x98 (fFact x3 x4 x5 j (nI D) x1 x13 x14) (lq6 (fX12_test_9b x91) fuel 1 1 x74 x92 x93 x98)
abbrev K6 : Type := Int32 → Int32 → FI → FI → FI → FI → R4
/-- where a test ends, in the reference -/
def TEnd (x91 : FI) (k9 : K6) (z74 z92 z93 z98 : FI) : R4 := bd1 (fX12_top z74 z98) fun r_19 => (if r_19 = 12 then (bd1 (fX12_sign z74 x91) fun r_21 => (if r_21 = 93 then (fX12_test_164 x91 k9 0 1 z74 z92 z93 z98) else (bd1 (fX12_fails 0 (z74 18) z74) fun x74_23 => (fX12_test_164 x91 k9 0 1 x74_23 z92 z93 z98)))) else (fX12_test_199 x91 k9 0 0 z74 z92 z93 z98))
def TO2 (t : FI) (sz c slot d e i0 D o : Nat) (S E : List StO) (x3 x4 x5 x74 x91 x92 x93 x98 : FI) (oc : C4) (or : R4) : Prop :=
  (∃ fuel i k L V y1 y13 y14 z74 z92 z93 z98, i0 < i ∧ Sem L (hgt D + 2) V ∧ oc = some (1, y1, y13, y14) ∧ or = TEnd x91 (lq6 (fX12_test_9b x91) fuel) z74 z92 z93 z98 ∧ RS t sz c slot d (e + 3) i (ts t sz i) (S ++ L) (E ++ L) k y1 x3 x4 x5 y13 y14 z74 x91 z92 z93 ∧ z74 25 = nI o ∧ z74 23 = nI D ∧ (∀ j, j < o → z98 j = x98 j) ∧ fu74 x74 z74 ∧ fr92 slot x92 x93 z92 z93 ∧ c + 3 ≤ fuel + i) ∨ FL4 sz slot x74 x92 x93 oc or
section TEST
variable {x1 x3 x4 x5 x13 x14 x74 x91 x92 x93 x98 t : Nat → Int32} {sz c slot d e i p k n o D j : Nat} {S E L : List StO}
theorem FL4_fr {y74 y92 y93 : FI} {oc : C4} {or : R4} (h : fu74 x74 y74) (h2 : fr92 slot x92 x93 y92 y93) (hF : FL4 sz slot y74 y92 y93 oc or) : FL4 sz slot x74 x92 x93 oc or := by
  obtain ⟨F, y1, y13, y14, z74, z92, z93, z98, a, b, c', d'⟩ := hF
  exact ⟨F, y1, y13, y14, z74, z92, z93, z98, a, b, c', RF_fu h h2 d'⟩
theorem TO2_fr {i0 : Nat} {y74 y92 y93 y98 : FI} {oc : C4} {or : R4} (h : fu74 x74 y74) (h2 : fr92 slot x92 x93 y92 y93) (h3 : ∀ j, j < o → y98 j = x98 j) (hT : TO2 t sz c slot d e i0 D o S E x3 x4 x5 y74 x91 y92 y93 y98 oc or) : TO2 t sz c slot d e i0 D o S E x3 x4 x5 x74 x91 x92 x93 x98 oc or := by
  rcases hT with ⟨fuel, i, k, L, V, y1, y13, y14, z74, z92, z93, z98, a1, a2, a3, a4, a5, a6, a7, a8, a9, a10, a11⟩ | hF
  · exact Or.inl ⟨fuel, i, k, L, V, y1, y13, y14, z74, z92, z93, z98, a1, a2, a3, a4, a5, a6, a7, fun j hj => (a8 j hj).trans (h3 j hj), fu_trans h a9, fr_trans h2 a10, a11⟩
  · exact Or.inr (FL4_fr h h2 hF)
theorem wrq {q A : Nat} (hA : A ≤ 1) (hq : q < 64) (h : RS t sz c slot (d + A) e i p S E k x1 x3 x4 x5 x13 x14 x74 x91 x92 x93) : ∃ y13 y14, (∀ K : FI → FI → C4, (if nI A = 0 then K x13 x14 else bd3 (fX5_write (nI q) 0 x13 x14) fun _ a b => K a b) = K y13 y14) ∧ RS t sz c slot d (e + 3 * A) i p (S ++ rep A q) E k x1 x3 x4 x5 y13 y14 x74 x91 x92 x93 := by
  have hA' : A = 0 ∨ A = 1 := by omega
  rcases hA' with rfl | rfl
  · exact ⟨x13, x14, fun K => if_pos rfl, by rw [show S ++ rep 0 q = S from List.append_nil S]; exact h⟩
  · obtain ⟨ew, hR⟩ := RS_opC h hq
    exact ⟨_, _, fun K => by rw [if_neg (show ¬ nI 1 = (0 : Int32) from one_ne), ew, bd3_s], hR⟩
theorem joinL {q A h h' : Nat} {LA Lf : List StO} {Vf : (Nat → Int64) → Int64} (hq : isBin q) (hA : (A = 0 ∧ LA = []) ∨ (A = 1 ∧ ∃ V, Sem LA h V)) (hf : Sem Lf h' Vf) (hh : h' + 1 ≤ h) : ∃ V, Sem (LA ++ Lf ++ rep A q) h V := by
  rcases hA with ⟨rfl, rfl⟩ | ⟨rfl, V, hV⟩
  · refine ⟨Vf, ?_⟩
    rw [show [] ++ Lf ++ rep 0 q = Lf by simp]
    exact Sem_mono hf (by omega)
  · exact ⟨_, Sem_bin hq hV hf (Nat.le_refl _) hh⟩
theorem p_opens1 {q : Nat} (h25 : x74 25 = nI o) (ho : o < 402) (hq : q = 10 ∨ q = 11) : fX12_opens (nI q) x74 x98 = some (upd x74 25 (nI (o + 1)), upd x98 o (nI q)) := by
  unfold fX12_opens fX12_opens_0 fX12_opens_40
  rw [if_neg (show ¬ nI q = (9 : Int32) by rcases hq with rfl | rfl <;> decide), if_neg (show ¬ nI q = (12 : Int32) by rcases hq with rfl | rfl <;> decide), h25, gd_t (inbN ho (by decide)), nI_1, clN (by omega)]
/-- the reference's step when no fact is wanted, up to the open ands -/
theorem want0 {A O nn : Nat} (k9 : K6) (hA : A ≤ 1) (hO : O ≤ 1) (hD : D ≤ 10) (hR : RS t sz c slot d (e + 3 * A + 3 * nn) i p S E k x1 x3 x4 x5 x13 x14 x74 x91 x92 x93) (h25 : x74 25 = nI (o + O + A + nn)) (h23 : x74 23 = nI (D + nn)) (hnn : ∀ j, j < nn → x98 (o + O + A + j) = nI 9) (hxA : A = 1 → x98 (o + O) = nI 10) (hxO : O = 1 → x98 o = nI 11) (hx : o = 0 ∨ x98 (o - 1) = nI 12) (hl : o + O + A + nn ≤ i) : ∃ z74 z92 z93, RS t sz c slot d e i (ts t sz i) S (E ++ rep nn 36 ++ rep A 35) k x1 x3 x4 x5 x13 x14 z74 x91 z92 z93 ∧ z74 25 = nI (o + O) ∧ z74 23 = nI D ∧ fu74 x74 z74 ∧ fr92 slot x92 x93 z92 z93 ∧ fX12_test_9b x91 k9 0 1 x74 x92 x93 x98 = (if tc t sz (ts t sz i) = 35 then fX12_test_82 x91 k9 1 (nI 1) (nI 0) z74 z92 z93 x98 else if tc t sz (ts t sz i) = 34 then fX12_test_82 x91 k9 1 (nI 0) (nI 1) z74 z92 z93 x98 else bd3 (fX12_answers x98 11 z74 z92 z93) fun a b c => TEnd x91 k9 a b c x98) := by
  obtain ⟨hz, hc, hic, _⟩ := RS_lim hR
  have h19 : x74 19 = 0 := hR.1.2.1.2.2.2.1
  have tsl := ts_le (t := t) (sz := sz) i
  obtain ⟨a74, a92, a93, ea, hRa, a25, a23, af, a18, a9⟩ := ans (q := 36) (o := o + O + A) (D := D) (x98 := x98) (Or.inr rfl) (by decide) nn 5000 E x74 x92 x93 (by omega) hR h25 (by rw [if_pos rfl]; exact h23) (by omega) hnn (by
    by_cases kA : A = 1
    · refine Or.inr ?_
      rw [show o + O + A - 1 = o + O by omega, hxA kA]; decide
    · by_cases kO : O = 1
      · refine Or.inr ?_
        rw [show o + O + A - 1 = o by omega, hxO kO]; decide
      · rcases hx with h0 | h0
        · exact Or.inl (by omega)
        · refine Or.inr ?_
          rw [show o + O + A - 1 = o - 1 by omega, h0]; decide) (by omega)
  obtain ⟨w74, ew, w18, hRw, fw, wf⟩ := RS_blank hRa
  obtain ⟨b74, b92, b93, eb, hRb, b25, b23, bf, b18, b9⟩ := ans (q := 35) (o := o + O) (D := D) (x98 := x98) (Or.inl (by unfold isBin; omega)) (by decide) A 5000 _ w74 a92 a93 (by omega) hRw (by rw [wf 25 (by omega)]; exact a25) (by rw [if_neg (by omega), wf 23 (by omega)]; exact a23) (by omega) (fun j hj => by rw [show j = 0 by omega]; exact hxA (by omega)) (by
    by_cases kO : O = 1
    · refine Or.inr ?_
      rw [show o + O - 1 = o by omega, hxO kO]; decide
    · rcases hx with h0 | h0
      · exact Or.inl (by omega)
      · refine Or.inr ?_
        rw [show o + O - 1 = o - 1 by omega, h0]; decide) (by omega)
  have w17 : w74 17 = nI sz := hRw.1.2.1.2.1
  have h91 := hRw.1.2.1.2.2.2.2.1
  have ea' : fX12_answers x98 9 x74 x92 x93 = some (a74, a92, a93) := ea
  have eb' : fX12_answers x98 10 w74 a92 a93 = some (b74, b92, b93) := eb
  refine ⟨b74, b92, b93, hRb, b25, b23, fu_trans (fu_trans af fun j j1 _ _ _ _ _ => wf j j1) bf, fr_trans a9 b9, ?_⟩
  unfold TEnd fX12_test_9b
  rw [if_neg one_ne, if_pos h19, if_pos rfl, ea', bd3_s, ew, bd1_s]
  rcases p_isWordAt (w := 18) (x74 := w74) (x91 := x91) (t := t) (by omega) hz w17 w18 (by omega) h91 with ⟨ok, e1⟩ | ⟨no, e1⟩
  · have k35 : tc t sz (ts t sz i) = 35 := (tc_word hz tsl (w := 18) (by omega)).mpr ok
    rcases p_isWordAt (w := 17) (x74 := w74) (x91 := x91) (t := t) (by omega) hz w17 w18 (by omega) h91 with ⟨ok2, e2⟩ | ⟨no2, e2⟩
    · have : tc t sz (ts t sz i) = 34 := (tc_word hz tsl (w := 17) (by omega)).mpr ok2
      omega
    · rw [e1, bd1_s, e2, bd1_s, eb', bd3_s, if_neg (show ¬ nI 1 = (0 : Int32) from one_ne), if_pos k35]
  · have k35 : ¬ tc t sz (ts t sz i) = 35 := fun h => no ((tc_word hz tsl (w := 18) (by omega)).mp h)
    rcases p_isWordAt (w := 17) (x74 := w74) (x91 := x91) (t := t) (by omega) hz w17 w18 (by omega) h91 with ⟨ok2, e2⟩ | ⟨no2, e2⟩
    · have k34 : tc t sz (ts t sz i) = 34 := (tc_word hz tsl (w := 17) (by omega)).mpr ok2
      rw [e1, bd1_s, e2, bd1_s, eb', bd3_s, if_pos z00, if_neg (show ¬ nI 1 = (0 : Int32) from one_ne), if_neg k35, if_pos k34]
    · have k34 : ¬ tc t sz (ts t sz i) = 34 := fun h => no2 ((tc_word hz tsl (w := 17) (by omega)).mp h)
      rw [e1, bd1_s, e2, bd1_s, eb', bd3_s, if_pos z00, if_pos z00, if_neg k35, if_neg k34]
end TEST

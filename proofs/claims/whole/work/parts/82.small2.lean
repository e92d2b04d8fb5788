section QH
variable {H M K N B : Nat} {q : Nat → Nat} {S : SN} {W : WW} {x0 x1 x16 x17 x18 x23 x24 x25 x26 x28 x29 x30 x33 x74 x75 x76 x77 x78 x79 x80 x81 x82 x92 x93 x94 x95 x96 x97 : Nat → Int32}
/-- the notes, the same on both sides -/
def NT (H M n : Nat) (nd nh np : Nat → Nat) (x28 x29 x30 x80 x81 x82 : Nat → Int32) : Prop := n ≤ 10 ∧ ∀ j, j < n → (nd j ≤ 60 ∧ nh j < M ∧ np j ≤ H) ∧ (x28 j = nI (nd j) ∧ x29 j = nI (nh j) ∧ x30 j = nI (np j)) ∧ x80 j = nI (nd j) ∧ x81 j = nI (nh j) ∧ x82 j = nI (np j)
theorem NT_add {n : Nat} {nd nh np : Nat → Nat} {a b c : Nat} (h : NT H M n nd nh np x28 x29 x30 x80 x81 x82) (hn : n < 10) (ha : a ≤ 60) (hb : b < M) (hc : c ≤ H) : NT H M (n + 1) (fun j => if j = n then a else nd j) (fun j => if j = n then b else nh j) (fun j => if j = n then c else np j) (upd x28 n (nI a)) (upd x29 n (nI b)) (upd x30 n (nI c)) (upd x80 n (nI a)) (upd x81 n (nI b)) (upd x82 n (nI c)) := by
  refine ⟨by omega, fun j hj => ?_⟩
  by_cases e : j = n
  · subst e
    simp only [if_true, pk_us]
    exact ⟨⟨ha, hb, hc⟩, ⟨trivial, trivial, trivial⟩, trivial, trivial, trivial⟩
  · simp only [e, if_false, pk_un e]
    exact h.2 j (by omega)
theorem e_note {n : Nat} {nd nh np : Nat → Nat} (hM : M ≤ 6) (hH : H ≤ 60) (h0 : x17 0 = nI H) (h4 : x17 4 = nI M) (r0 : x75 0 = nI H) (r4 : x75 4 = nI M) (hN : NT H M n nd nh np x28 x29 x30 x80 x81 x82) (h7 : x16 7 = nI n) (r8 : x75 8 = nI n) (v1 v2 v3 : Int32) : ∃ r n' nd' nh' np' c28 c29 c30 c80 c81 c82, fX11_note x17 v1 v2 v3 x16 x28 x29 x30 = some (r, upd x16 7 (nI n'), c28, c29, c30) ∧ fX12_note v1 v2 v3 x75 x80 x81 x82 = some (r, upd x75 8 (nI n'), c80, c81, c82) ∧ NT H M n' nd' nh' np' c28 c29 c30 c80 c81 c82 := by
  have e7 : upd x16 7 (nI n) = x16 := funext fun j => by
    by_cases e : j = 7
    · subst e; rw [pk_us, h7]
    · rw [pk_un e]
  have e8 : upd x75 8 (nI n) = x75 := funext fun j => by
    by_cases e : j = 8
    · subst e; rw [pk_us, r8]
    · rw [pk_un e]
  have hn := hN.1
  have no : fX11_note x17 v1 v2 v3 x16 x28 x29 x30 = some (-2, x16, x28, x29, x30) → fX12_note v1 v2 v3 x75 x80 x81 x82 = some (-2, x75, x80, x81, x82) → ∃ r n' nd' nh' np' c28 c29 c30 c80 c81 c82, fX11_note x17 v1 v2 v3 x16 x28 x29 x30 = some (r, upd x16 7 (nI n'), c28, c29, c30) ∧ fX12_note v1 v2 v3 x75 x80 x81 x82 = some (r, upd x75 8 (nI n'), c80, c81, c82) ∧ NT H M n' nd' nh' np' c28 c29 c30 c80 c81 c82 := fun h1 h2 => ⟨-2, n, nd, nh, np, x28, x29, x30, x80, x81, x82, by rw [e7]; exact h1, by rw [e8]; exact h2, hN⟩
  have i8 : inb 8 11 = true := by decide
  by_cases c0 : v1 = -1
  · refine ⟨0, 0, nd, nh, np, x28, x29, x30, x80, x81, x82, ?_, ?_, by omega, fun j hj => absurd hj (by omega)⟩
    · unfold fX11_note fX11_note_0
      rw [if_pos c0]; rfl
    · unfold fX12_note fX12_note_0
      rw [if_pos c0, gd_t i8]; rfl
  have f1 : fX11_note x17 v1 v2 v3 x16 x28 x29 x30 = fX11_note_0 x17 v1 v2 v3 x16 x28 x29 x30 := rfl
  have f2 : fX12_note v1 v2 v3 x75 x80 x81 x82 = fX12_note_0 v1 v2 v3 x75 x80 x81 x82 := rfl
  rw [f1, f2] at no ⊢
  unfold fX11_note_0 fX12_note_0 at no ⊢
  rw [if_neg c0, if_neg c0, gd_t i8, bn_s] at no ⊢
  rcases p_within (lo := 0) (hi := 60) (by omega) (by omega) v1 with ⟨a, a1, a2, rfl, c1, d1⟩ | ⟨c1, d1⟩
  · rw [show fX11_isWithin (nI a) 0 60 = _ from c1, bd1_s, if_neg (show ¬ nI 1 = (0 : Int32) from one_ne), show fX12_in (nI a).toInt64 0 60 = _ from d1, bd1_s, if_neg (show ¬ nI 1 = (0 : Int32) from one_ne)] at no ⊢
    rcases p_house hM h4 r4 v2 with ⟨b, hb, rfl, u1, u2⟩ | ⟨u1, u2⟩
    · rw [u1, u2, bd1_s, bd1_s, if_neg (show ¬ nI 1 = (0 : Int32) from one_ne), if_neg (show ¬ nI 1 = (0 : Int32) from one_ne), gd_t i0, n0', h0, r0, nI_l (show H < 2147483648 by omega)] at no ⊢
      rcases p_within (lo := 0) (hi := H) (by omega) (by omega) v3 with ⟨c, cc, cH, rfl, c3, d3⟩ | ⟨c3, d3⟩
      · rw [show fX11_isWithin (nI c) 0 (nI H) = _ from c3, bd1_s, if_neg (show ¬ nI 1 = (0 : Int32) from one_ne), show fX12_in (nI c).toInt64 0 (lN H) = _ from d3, bd1_s, if_neg (show ¬ nI 1 = (0 : Int32) from one_ne)] at no ⊢
        have n8 : x75 (8 : Int32).toNatClampNeg = nI n := r8
        rw [n8, h7] at no ⊢
        by_cases k : n = 10
        · refine no ?_ ?_
          · rw [if_neg (show ¬ nI n < (10 : Int32) from nI_nlt (b := 10) (by omega) (by omega))]
          · rw [if_pos (by rw [k]; rfl)]
        · refine ⟨nI (n + 1), n + 1, _, _, _, _, _, _, _, _, _, ?_, ?_, NT_add hN (by omega) a2 hb cH⟩
          · rw [if_pos (show nI n < (10 : Int32) from nI_lt (b := 10) (by omega) (by omega))]
            unfold fX6_addNote fX6_addNote_0
            rw [h7, if_neg (show ¬ (10 : Int32) ≤ nI n from nI_ge (b := 10) (by omega) (by omega)), gd_t (inbN (by omega) (by decide)), gd_t (inbN (by omega) (by decide)), gd_t (inbN (by omega) (by decide)), bd4_s, clN (by omega), nI_1]
            rfl
          · rw [if_neg (fun e : nI n = (10 : Int32) => k ((nI_eq (b := 10) (by omega) (by omega)).mp e)), gd_t (inbN (by omega) (by decide)), gd_t (inbN (by omega) (by decide)), gd_t (inbN (by omega) (by decide)), gd_t i8, gd_t i8, clN (by omega), nI_1]
            rfl
      · rw [show fX11_isWithin v3 0 (nI H) = _ from c3, bd1_s, if_pos z00, show fX12_in v3.toInt64 0 (lN H) = _ from d3, bd1_s, if_pos z00] at no ⊢
        exact no rfl rfl
    · rw [u1, u2, bd1_s, bd1_s, if_pos z00, if_pos z00] at no ⊢
      exact no rfl rfl
  · rw [show fX11_isWithin v1 0 60 = _ from c1, bd1_s, if_pos z00, show fX12_in v1.toInt64 0 60 = _ from d1, bd1_s, if_pos z00] at no ⊢
    exact no rfl rfl
theorem e_seed {x : Nat} (hx : x < 2147483648) (h9 : x16 9 = nI x) (r9 : x75 9 = nI x) (v1 : Int32) : ∃ r x', x' < 2147483648 ∧ fX11_seed v1 x16 = some (r, upd x16 9 (nI x')) ∧ fX12_seed v1 x75 = some (r, upd x75 9 (nI x')) := by
  have n9 : x75 (9 : Int32).toNatClampNeg = nI x := r9
  unfold fX11_seed fX11_seed_0 fX12_seed fX12_seed_0
  by_cases c : (0 : Int32) ≤ v1
  · obtain ⟨j, hj, rfl⟩ : ∃ j, j < 2147483648 ∧ v1 = nI j := by
      refine ⟨v1.toInt.toNat, ?_, ?_⟩
      · have := Int32.toInt_lt v1
        omega
      · have h0 := Int32.le_iff_toInt_le.mp c
        rw [show (0 : Int32).toInt = 0 from rfl] at h0
        rw [← Int32.toInt_inj, nI_toInt (by have := Int32.toInt_lt v1; omega)]
        omega
    refine ⟨nI x, j, hj, ?_, ?_⟩
    · rw [if_pos c, bn_s, h9]
    · rw [if_pos c, gd_t (by decide), bn_s, gd_t (by decide), n9]
      rfl
  · refine ⟨-1, x, hx, ?_, ?_⟩
    · rw [if_neg c]
      have e7 : upd x16 9 (nI x) = x16 := funext fun j => by
        by_cases e : j = 9
        · subst e; rw [pk_us, h9]
        · rw [pk_un e]
      rw [e7]
    · rw [if_neg c]
      have e7 : upd x75 9 (nI x) = x75 := funext fun j => by
        by_cases e : j = 9
        · subst e; rw [pk_us, r9]
        · rw [pk_un e]
      rw [e7]
theorem e_force {rc : Nat} (hc : rc ≤ 6) (h4 : x0 4 = nI rc) (r21 : x74 21 = nI rc) (h8 : x16 8 = x75 10) (v1 : Int32) : ∃ r, (fX11_force x0 v1 x16 = some (r, x16) ∧ fX12_force x74 v1 x75 = some (r, x75)) ∨ ((v1 = -1 ∨ ∃ k, k < rc ∧ v1 = nI k) ∧ fX11_force x0 v1 x16 = some (r, upd x16 8 v1) ∧ fX12_force x74 v1 x75 = some (r, upd x75 10 v1)) := by
  have n10 : x75 (10 : Int32).toNatClampNeg = x75 10 := rfl
  unfold fX11_force fX11_force_0 fX12_force fX12_force_0
  rw [h4, r21]
  have er : ((nI rc - 1).toInt64).toInt = (rc : Int) - 1 := by
    rw [Int32.toInt_toInt64, zI1, pk_sub_toInt (by omega) (by omega)]
    omega
  have e1 : (v1.toInt64).toInt = v1.toInt := Int32.toInt_toInt64 v1
  have em : (-1 : Int64).toInt = -1 := rfl
  have em2 : (-1 : Int32).toInt = -1 := rfl
  have en : (nI rc).toInt = (rc : Int) := nI_toInt (by omega)
  have hin : fX12_in v1.toInt64 (-1) ((nI rc - 1).toInt64) = some (if v1.toInt < -1 then nI 0 else if (rc : Int) ≤ v1.toInt then nI 0 else nI 1) := by
    unfold fX12_in fX12_in_0 fX12_in_17
    by_cases c1 : v1.toInt < -1
    · rw [if_pos ((lg_cmp_lt _ _).mpr (Int64.lt_iff_toInt_lt.mpr (by rw [e1, em]; exact c1))), if_pos c1]; rfl
    · rw [if_neg (fun h => c1 (by have := Int64.lt_iff_toInt_lt.mp ((lg_cmp_lt _ _).mp h); rw [e1, em] at this; exact this)), if_neg c1]
      by_cases c2 : (rc : Int) ≤ v1.toInt
      · rw [if_pos ((lg_cmp_gt _ _).mpr (Int64.lt_iff_toInt_lt.mpr (by rw [e1, er]; omega))), if_pos c2]; rfl
      · rw [if_neg (fun h => c2 (by have := Int64.lt_iff_toInt_lt.mp ((lg_cmp_gt _ _).mp h); rw [e1, er] at this; omega)), if_neg c2]; rfl
  rw [hin, bd1_s]
  by_cases c1 : v1.toInt < -1
  · rw [if_pos c1, if_pos (show v1 < -1 from Int32.lt_iff_toInt_lt.mpr (by rw [em2]; exact c1)), if_pos z00]
    exact ⟨_, Or.inl ⟨rfl, rfl⟩⟩
  · rw [if_neg c1, if_neg (show ¬ v1 < -1 from fun h => c1 (by have := Int32.lt_iff_toInt_lt.mp h; rw [em2] at this; exact this))]
    by_cases c2 : (rc : Int) ≤ v1.toInt
    · rw [if_pos c2, if_pos z00, if_neg (show ¬ v1 < nI rc from fun h => by have := Int32.lt_iff_toInt_lt.mp h; rw [en] at this; omega)]
      exact ⟨_, Or.inl ⟨rfl, rfl⟩⟩
    · rw [if_neg c2, if_neg (show ¬ nI 1 = (0 : Int32) from one_ne), if_pos (show v1 < nI rc from Int32.lt_iff_toInt_lt.mpr (by rw [en]; omega)), bn_s, gd_t i10, bn_s, gd_t i10, n10', h8]
      refine ⟨_, Or.inr ⟨?_, rfl, rfl⟩⟩
      by_cases c3 : v1.toInt = -1
      · exact Or.inl (Int32.toInt_inj.mp (by rw [c3, em2]))
      · exact Or.inr ⟨v1.toInt.toNat, by omega, Int32.toInt_inj.mp (by rw [nI_toInt (by omega)]; omega)⟩
theorem e_count {rc ts : Nat} {t rb pl : Int32} (hh : fX9_heatOf x23 x17 x18 = some t) (hh' : fX12_heat x74 x75 x79 = some t) (hr : fX9_riverBits x24 x17 = some rb) (hr' : fX12_inRiver x75 x76 = some rb) (hp : fX9_placesOf x24 x17 = some pl) (hp' : fX12_allPlaces x75 x76 = some pl) (a0 : x17 0 = x75 0) (a1 : x17 1 = x75 2) (a2 : x17 3 = x75 3) (a3 : x17 4 = x75 4) (a4 : x0 4 = x74 21) (a5 : x16 8 = x75 10) (a6 : x23 0 = x75 5) (a8 : x23 1 = x75 6) (a9 : x23 2 = x75 7) (a12 : x16 7 = x75 8) (a13 : x16 3 = x74 43) (a14 : x16 9 = x75 9) (a15 : x1 1 = x74 17) (v : Int32) : ∃ r, fX11_count x0 x1 x16 x17 x18 x23 x24 v = some r ∧ fX12_count x74 x75 x76 x79 v = some r := by
  unfold fX11_count fX11_count_0 fX12_count fX12_count_0 fX11_countTold fX11_countTold_0 fX11_countNow fX11_countNow_0
  have w5 := p_isWithin v 0 5
  have w15 := p_isWithin v 6 15
  rw [w5, w15, bd1_s, bd1_s, hh, hr, hp, hh', hr', hp']
  simp only [bd1_s]
  have k0 : (v < 0) = (v.toInt < 0) := propext Int32.lt_iff_toInt_lt
  have k5 : ((5 : Int32) < v) = (5 < v.toInt) := propext Int32.lt_iff_toInt_lt
  have k6 : (v < 6) = (v.toInt < 6) := propext Int32.lt_iff_toInt_lt
  have k15 : ((15 : Int32) < v) = (15 < v.toInt) := propext Int32.lt_iff_toInt_lt
  simp only [k0, k5, k6, k15]
  generalize v.toInt = i
  have cs : i < 0 ∨ 15 < i ∨ i = 0 ∨ i = 1 ∨ i = 2 ∨ i = 3 ∨ i = 4 ∨ i = 5 ∨ i = 6 ∨ i = 7 ∨ i = 8 ∨ i = 9 ∨ i = 10 ∨ i = 11 ∨ i = 12 ∨ i = 13 ∨ i = 14 ∨ i = 15 := by omega
  rcases cs with h | h | h | h | h | h | h | h | h | h | h | h | h | h | h | h | h | h
  · refine ⟨-1, ?_, ?_⟩
    · simp only [eq_true h, eq_true (show i < 6 by omega), if_true, bd1_s]
    · repeat rw [if_neg (by omega)]
  · refine ⟨-1, ?_, ?_⟩
    · simp only [eq_false (show ¬ i < 0 by omega), eq_true (show 5 < i by omega), eq_false (show ¬ i < 6 by omega), eq_true h, if_true, if_false, bd1_s]
    · repeat rw [if_neg (by omega)]
  all_goals subst h
  · exact ⟨_, rfl, by rw [a0]; rfl⟩
  · exact ⟨_, rfl, by rw [a1]; rfl⟩
  · exact ⟨_, rfl, by rw [a2]; rfl⟩
  · exact ⟨_, rfl, by rw [a3]; rfl⟩
  · exact ⟨_, rfl, by rw [a4]; rfl⟩
  · exact ⟨_, rfl, by rw [a5]; rfl⟩
  · exact ⟨_, rfl, by rw [a6]; rfl⟩
  · exact ⟨_, rfl, rfl⟩
  · exact ⟨_, rfl, by rw [a8]; rfl⟩
  · exact ⟨_, rfl, by rw [a9]; rfl⟩
  · exact ⟨_, rfl, rfl⟩
  · exact ⟨_, rfl, rfl⟩
  · exact ⟨_, rfl, by rw [a12]; rfl⟩
  · exact ⟨_, rfl, by rw [a13]; rfl⟩
  · exact ⟨_, rfl, by rw [a14]; rfl⟩
  · exact ⟨_, rfl, by rw [a15]; rfl⟩
end QH

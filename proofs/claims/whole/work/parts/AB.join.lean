section JOIN
variable {x1 x3 x4 x5 x7 x12 x74 x86 x87 x88 x89 x90 x91 t : Nat → Int32} {sz c i p M : Nat}
theorem bk_bk {s : Nat} (h : s ≤ sz) : bk t sz (bk t sz s) = bk t sz s := by
  have b := bk_le (t := t) h
  by_cases k : bk t sz s < sz
  · refine bk_not k ?_
    rcases rn_end (P := fun j => decide (t j = 32)) (sz - s) s with e | e
    · have : bk t sz s = s + (sz - s) := e
      omega
    · exact of_decide_eq_false e
  · exact bk_end (by omega)
theorem BP_blank (h : BP t sz c i p x1 x3 x4 x5 x74 x91) : ∃ w74, fX12_blanks x91 x74 = some w74 ∧ w74 18 = nI (ts t sz i) ∧ (∀ j, j ≠ 18 → w74 j = x74 j) ∧ BP t sz c i (ts t sz i) x1 x3 x4 x5 w74 x91 := by
  obtain ⟨hT, ⟨hz, h17, h18, h19, h91, hb⟩, hp, hbk, hic⟩ := h
  obtain ⟨w74, ew, w18, wf⟩ := p_blanks hz h17 h18 (by omega) h91 hb
  rw [hbk] at w18
  refine ⟨w74, ew, w18, wf, hT, ⟨hz, (wf 17 (by omega)).trans h17, w18, (wf 19 (by omega)).trans h19, h91, hb⟩, ts_le i, ?_, hic⟩
  rw [← hbk]; exact bk_bk hp
theorem t_join (h : BP t sz c i p x1 x3 x4 x5 x74 x91) {f : Nat → Nat → Nat} (hM : M ≤ 6) (h4 : x7 4 = nI M) (r4 : x86 4 = nI M) (hf : RH x12 f) (hf' : RH x89 f) : (∃ v u w p' y1 y12 z74 z89, v < M ∧ u < M ∧ u ≠ v ∧ w ≤ 9 ∧ 1 ≤ w ∧ fX10_readJoin x3 x4 x5 x7 x1 x12 = some (1, y1, y12) ∧ RH y12 (setF f v u w) ∧ fX12_joinPart x86 x91 x74 x89 = some (z74, z89) ∧ RH z89 (setF f v u w) ∧ (∀ j, j ≠ 18 → j ≠ 19 → z74 j = x74 j) ∧ BP t sz c (i + 3) p' y1 x3 x4 x5 z74 x91) ∨ ∃ F y1 z74, 0 < F ∧ F < 5000 ∧ fX10_readJoin x3 x4 x5 x7 x1 x12 = some (0, y1, x12) ∧ y1 7 = nI F ∧ fX12_joinPart x86 x91 x74 x89 = some (z74, x89) ∧ (∀ j, j ≠ 18 → j ≠ 19 → z74 j = x74 j) ∧ z74 19 = nI F ∧ ∃ pq, z74 18 = nI pq ∧ pq ≤ sz := by
  have r4' : x86 (4 : Int32).toNatClampNeg = nI M := r4
  have hz := h.1.1
  have hc := h.1.2.1
  have flt0 : ∀ {F : Nat} {z : Nat → Int32}, 0 < F ∧ F < 5000 → z 19 = nI F → ¬ z 19 = 0 := fun hF e => by rw [e]; exact ne0 (by omega) (by omega)
  unfold fX10_readJoin fX10_readJoin_0 fX12_joinPart fX12_joinPart_0
  rw [gd_t (by decide), h4, r4']
  rcases am2 (lo := 0) (hi := nI M - 1) h with ⟨v, p1, a74, v9, _, l2, _, _, e1, f1, af, b1⟩ | ⟨F, v, a74, F0, F1, e1, f1, af, a19, pq, a18, hq⟩
  · have hv := vltM hM v9 l2
    obtain ⟨w74, ew, w18, wf, bw⟩ := BP_blank b1
    have tl := tc_lt (t := t) (s := ts t sz (i + 1)) hz
    rw [e1, bd2_s, f1, bd2_s, if_pos (ge0 (by omega)), p_code b1.1, bd1_s, ew, bd1_s, bn_s, w18, gd_t (by decide)]
    have fin : ∀ {b74 : Nat → Int32} {u : Int32} {F pq : Nat}, 0 < F ∧ F < 5000 → b74 19 = nI F → b74 18 = nI pq → pq ≤ sz → (∀ j, j ≠ 18 → j ≠ 19 → b74 j = w74 j) → ∃ z74, fX12_joinPart_55 x86 x91 (nI v) u b74 x89 = some (z74, x89) ∧ (∀ j, j ≠ 18 → j ≠ 19 → z74 j = x74 j) ∧ z74 19 = nI F ∧ ∃ pq, z74 18 = nI pq ∧ pq ≤ sz := by
      intro b74 u F pq hF b19 b18 hq bf
      obtain ⟨pq1, c74, ec, cf', c18, cq, c19⟩ := p_aF (lo := 1) (hi := 9) (F := F) bw.2.1 bf b18 hq hF b19
      refine ⟨c74, ?_, fun j a b => by rw [cf' j a b, wf j a, af j a b], c19, _, c18, cq⟩
      unfold fX12_joinPart_55
      rw [ec, bd2_s, if_neg (flt0 hF c19)]
    rcases am2 (lo := 0) (hi := nI M - 1) bw with ⟨u, p2, b74, u9, l3, l4, t1, tu, e2, f2, bf, b2⟩ | ⟨F, u, b74, F0, F1, e2, f2, bf, b19, pq, b18, hq⟩
    · have hu := vltM hM u9 l4
      have b0 : b74 19 = 0 := b2.2.1.2.2.2.1
      rw [f2, bd2_s, if_pos b0, if_pos (show nI (tc t sz (ts t sz (i + 1))) = (1 : Int32) by rw [t1]; rfl), p_number b1.1, bd1_s, ← tu]
      by_cases k : u = v
      · subst k
        have fl := flt_lt (s := ts t sz (i + 1)) (k := 1) (by have := ts_le (t := t) (sz := sz) (i + 1); omega) (by omega)
        rw [if_pos rfl, if_pos rfl, zI1, p_fail b1.1, bd2_s, gd_t (by decide), (p_fails (x74 := b74)).1 b0, bd1_s]
        obtain ⟨z74, ez, zf, z19, zq⟩ := fin (b74 := upd b74 19 (nI (flt (ts t sz (i + 1)) 1))) (u := nI u) fl pk_us ((pk_un (by omega)).trans b2.2.1.2.2.1) b2.2.2.1 (fun j a b => by rw [pk_un b]; exact bf j a b)
        exact Or.inr ⟨_, _, z74, fl.1, fl.2, rfl, pk_us, ez, zf, z19, zq⟩
      · have ne : ¬ nI u = nI v := fun e => k ((nI_eq (by omega) (by omega)).mp e)
        have ne' : ¬ nI v = nI u := fun e => ne e.symm
        rw [if_neg ne, if_neg ne']
        unfold fX10_readJoin_52 fX10_readJoin_82 fX12_joinPart_55
        rw [h4, e2, bd2_s, if_pos (ge0 (by omega))]
        rcases am2 (lo := 1) (hi := 9) b2 with ⟨w, p3, c74, _, l5, l6, _, _, e3, f3, cf', b3⟩ | ⟨F, w, c74, F0, F1, e3, f3, cf', c19, hpq⟩
        · have hw1 : 1 ≤ w := nlo (lo := 1) l5 (by omega)
          have hw9 : w ≤ 9 := nhi (hi := 9) l6 (by omega)
          have c0 : c74 19 = 0 := b3.2.1.2.2.2.1
          obtain ⟨y, ey, hy⟩ := p_setHard hf (show v < 6 by omega) (show u < 6 by omega) w
          rw [e3, bd2_s, if_pos (ge0 (by omega)), ey, bd1_s, f3, bd2_s, if_pos c0, ixR, ixR, gd_t (inbH (by omega) (by omega)), gd_t (inbH (by omega) (by omega)), clH (by omega) (by omega), clH (by omega) (by omega)]
          exact Or.inl ⟨v, u, w, p3, _, y, c74, _, hv, hu, k, hw9, hw1, rfl, hy, rfl, RH_set hf' (by omega) (by omega) w, fun j a b => by rw [cf' j a b, bf j a b, wf j a, af j a b], b3⟩
        · rw [e3, bd2_s, if_neg neg1, f3, bd2_s, if_neg (flt0 ⟨F0, F1⟩ c19)]
          exact Or.inr ⟨F, _, c74, F0, F1, rfl, pk_us, rfl, fun j a b => by rw [cf' j a b, bf j a b, wf j a, af j a b], c19, hpq⟩
    · obtain ⟨z74, ez, zf, z19, zq⟩ := fin (u := u) ⟨F0, F1⟩ b19 b18 hq bf
      have cls : fX10_readJoin_52 x3 x4 x5 x7 (nI v) (upd x1 6 (nI (i + 1))) x12 = some (0, upd (upd x1 6 (nI (i + 1))) 7 (nI F), x12) := by
        unfold fX10_readJoin_52 fX10_readJoin_82
        rw [h4, e2, bd2_s, if_neg neg1, if_neg neg1]
      rw [f2, bd2_s, if_neg (flt0 ⟨F0, F1⟩ b19), ez]
      have done : ∀ o, o = some ((0 : Int32), upd (upd x1 6 (nI (i + 1))) 7 (nI F), x12) → ∃ F' y1 z74', 0 < F' ∧ F' < 5000 ∧ o = some (0, y1, x12) ∧ y1 7 = nI F' ∧ some (z74, x89) = some (z74', x89) ∧ (∀ j, j ≠ 18 → j ≠ 19 → z74' j = x74 j) ∧ z74' 19 = nI F' ∧ ∃ pq, z74' 18 = nI pq ∧ pq ≤ sz := fun o ho => ⟨F, _, z74, F0, F1, ho, pk_us, rfl, zf, z19, zq⟩
      refine Or.inr (done _ ?_)
      by_cases k1 : nI (tc t sz (ts t sz (i + 1))) = (1 : Int32)
      · rw [if_pos k1, p_number b1.1, bd1_s]
        by_cases k2 : nI (tn t sz (ts t sz (i + 1))) = nI v
        · exfalso
          have t1 : tc t sz (ts t sz (i + 1)) = 1 := (nI_eq (b := 1) (by omega) (by omega)).mp k1
          rcases p_readNumber (lo := 0) (hi := nI M - 1) bw.1 (show i + 1 < 999 by have := b1.2.2.2.2; omega) with ⟨_, er⟩ | ⟨kd, _, kk, _⟩
          · rw [er] at e2
            have e3 := congrArg Prod.fst (Option.some.inj e2)
            exact nn1 (show v < 2000000 by omega) (k2.symm.trans e3)
          · unfold nk at kk
            rw [if_pos t1, k2, if_neg (fun hh => hh.elim (nI_pos (by omega)) l2)] at kk
            cases kk
        · rw [if_neg k2]; exact cls
      · rw [if_neg k1]; exact cls
  · obtain ⟨w74, ew, w18, wf⟩ := p_blanks (x74 := a74) hz ((af 17 (by omega) (by omega)).trans h.2.1.2.1) a18 (by omega) h.2.1.2.2.2.2.1 h.2.1.2.2.2.2.2
    have bq := (bk_le (t := t) hq).2
    obtain ⟨pq1, b74, eb, bf, b18, bq2, b19⟩ := p_aF (lo := 0) (hi := nI M - 1) (F := F) h.2.1 (fun j a b => (wf j a).trans (af j a b)) w18 bq ⟨F0, F1⟩ ((wf 19 (by omega)).trans a19)
    obtain ⟨pq2, c74, ec, cf', c18, cq, c19⟩ := p_aF (lo := 1) (hi := 9) (F := F) h.2.1 bf b18 bq2 ⟨F0, F1⟩ b19
    unfold fX12_joinPart_55
    rw [e1, bd2_s, f1, bd2_s, if_neg neg1, ew, bd1_s, bn_s, gd_t (by decide), eb, bd2_s, if_neg (flt0 ⟨F0, F1⟩ b19), ec, bd2_s, if_neg (flt0 ⟨F0, F1⟩ c19)]
    exact Or.inr ⟨F, _, c74, F0, F1, rfl, pk_us, rfl, cf', c19, _, c18, cq⟩
end JOIN

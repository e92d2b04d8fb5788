section TRD
variable {x1 x3 x4 x5 x7 x8 x9 x10 x11 x12 x74 x86 x87 x88 x89 x90 x91 t : Nat → Int32} {sz c i p n : Nat}
theorem t_clause (h : BP t sz c i p x1 x3 x4 x5 x74 x91) (hD : DR n x7 x8 x9 x10 x11 x12 x86 x87 x88 x89 x90) (hn : n ≤ 40) : TO t sz c n x3 x4 x5 x74 x91 (fX10_readClause x3 x4 x5 (nI n) x1 x7 x8 x9 x10 x11 x12) (fX12_townClause x91 (nI n) x74 x86 x87 x88 x89 x90) := by
  have hz := h.1.1
  obtain ⟨w74, ew, w18, wf, bw⟩ := BP_blank h
  obtain ⟨_, ⟨_, w17, _, w19, h91, hb⟩, _, _, hic⟩ := id bw
  have tl := ts_le (t := t) (sz := sz) i
  have hc := h.1.2.1
  unfold fX12_townClause fX12_townClause_0
  rw [ew, bd1_s, bn_s, w18, tw_all (t := t) (s := ts t sz i) hz tl w17 w18 h91, p_clause0 h.1]
  have flf : ∀ kd, kd < 10 → 0 < flt (ts t sz i) kd ∧ flt (ts t sz i) kd < 5000 := fun kd hk => flt_lt (by omega) hk
  have bad : ∀ kd, kd < 10 → TO t sz c n x3 x4 x5 x74 x91 (some (0, upd x1 7 (nI (flt (ts t sz i) kd)), x7, x8, x9, x10, x11, x12)) (bd1 (fX12_fails (nI kd) (nI (ts t sz i)) w74) fun z => some (z, x86, x87, x88, x89, x90)) := by
    intro kd hk
    rw [(p_fails (x74 := w74)).1 w19, bd1_s]
    exact Or.inr ⟨_, _, _, _, _, _, _, _, _, _, _, _, _, _, (flf kd hk).1, (flf kd hk).2, rfl, pk_us, rfl, fun j a b => by rw [pk_un b]; exact wf j a, pk_us, _, (pk_un (by omega)).trans w18, tl⟩
  rcases kOf_tw (c := tc t sz (ts t sz i)) with ⟨e5, _⟩ | ⟨l5, e⟩
  · rw [if_pos e5, e5]
    unfold fX12_townClause_33
    rw [if_pos (show nI 5 = (5 : Int32) from rfl)]
    exact bad 0 (by omega)
  · rw [if_neg (show ¬ kOf (tc t sz (ts t sz i)) = 5 by omega)]
    generalize kOf (tc t sz (ts t sz i)) = k at l5 e
    obtain ⟨H, su, K, N, M, q, g, r, f, hX, hn0, hn1⟩ := hD
    obtain ⟨⟨h0, h1, h3, h4, s0, s1, s2⟩, ⟨hg, hr, hf⟩, ⟨r0, r1, r2, r3, r4⟩, ⟨hg', hr', hf'⟩, hq, ⟨bH, bs, bK, bN, bM⟩, hgr, hff, hd⟩ := hX
    obtain ⟨tw1, tw2, tw3⟩ := tw_t k l5
    unfold fX12_townClause_33
    rw [if_neg (show ¬ nI k = (5 : Int32) from fun hh => by have := (nI_eq (b := 5) (by omega) (by omega)).mp hh; omega), e]
    rcases p_fullR (x86 := x86) hn l5 bN bM r3 r4 with ⟨fu, er⟩ | ⟨nf, er⟩
    · rcases p_fullC (x1 := x1) (x3 := x3) (x4 := x4) (x5 := x5) (x7 := x7) (x8 := x8) (x9 := x9) (x10 := x10) (x11 := x11) (x12 := x12) hn l5 bN bM h3 h4 with ⟨_, ec⟩ | ⟨nf, _⟩
      · rw [er, bd1_s, if_neg (show ¬ nI 1 = (0 : Int32) from one_ne), ec]
        unfold fX10_readClause_84
        rw [show (4 : Int32) = nI 4 from rfl, p_fail h.1, bd2_s, gd_t (by decide)]
        exact bad 4 (by omega)
      · exact absurd fu nf
    · rcases p_fullC (x1 := x1) (x3 := x3) (x4 := x4) (x5 := x5) (x7 := x7) (x8 := x8) (x9 := x9) (x10 := x10) (x11 := x11) (x12 := x12) hn l5 bN bM h3 h4 with ⟨fu, _⟩ | ⟨_, ec⟩
      · exact absurd fu nf
      · have b1 := BP_word bw tw3 e
        have n40 : n < 40 := by unfold full at nf; omega
        rw [er, bd1_s, if_pos z00, tw1, bd1_s, gd_t (decide_eq_true tw2), ec, (p_skip h.1 (by omega)).1, bd1_s]
        generalize hw : upd w74 18 (w74 18 + slen (tw k)) = u74 at b1
        have uf : ∀ j, j ≠ 18 → j ≠ 19 → u74 j = x74 j := fun j a b => by rw [← hw, pk_un a]; exact wf j a
        have hk' : k = 0 ∨ k = 1 ∨ k = 2 ∨ k = 3 ∨ k = 4 := by omega
        rcases hk' with rfl | rfl | rfl | rfl | rfl
        · rw [if_neg (by omega), if_pos rfl]
          have en : n = 0 := by unfold full at nf; omega
          obtain ⟨eN, eM⟩ := hn0 en
          subst eN
          subst eM
          rcases t_hill (x7 := x7) (x9 := x9) (x86 := x86) (x87 := x87) (x88 := x88) (x89 := x89) (x90 := x90) b1 with ⟨H', su', K', p', y1, z74, a1, a2, a3, a4, e1, e2, zf, b2⟩ | ⟨F, y1, y7, y9, z74, z86, F0, F1, e1, y17, e2, zf, z19, zq⟩
          · have e2' : fX12_townPart x91 (nI 0) u74 x86 x87 x88 x89 x90 = _ := e2
            rw [e1, bd4_s, gd_t (by decide), e2', bd6_s]
            exact Or.inl ⟨n40, _, p', y1, _, x8, _, x10, x11, x12, z74, _, x87, x88, x89, x90, rfl, rfl, fun j a b => (zf j a b).trans (uf j a b), b2, H', su', K', 0, 0, q, g, r, f, ⟨⟨rfl, rfl, h3, h4, s0, rfl, s2⟩, ⟨hg, hr, hf⟩, ⟨rfl, rfl, rfl, r3, r4⟩, ⟨hg', hr', hf'⟩, hq, ⟨a2, a3, a4, bN, bM⟩, fun h hh => ⟨fun hm => absurd hm (by omega), (hgr h hh).2⟩, hff, hd⟩, fun hh => absurd hh (by omega), fun _ => a1⟩
          · have e2' : fX12_townPart x91 (nI 0) u74 x86 x87 x88 x89 x90 = _ := e2
            rw [e1, bd4_s, gd_t (by decide), e2', bd6_s]
            exact Or.inr ⟨F, y1, y7, x8, y9, x10, x11, x12, z74, z86, x87, x88, x89, x90, F0, F1, rfl, y17, rfl, fun j a b => (zf j a b).trans (uf j a b), z19, zq⟩
        · rw [if_pos rfl]
          have N12 : N < 12 := by unfold full at nf; omega
          have n0 : 0 < n := by unfold full at nf; omega
          rcases t_heat (x7 := x7) (x8 := x8) (x86 := x86) (x87 := x87) (x88 := x88) (x89 := x89) (x90 := x90) b1 N12 h3 r3 with ⟨v, p', y1, z74, v9, e1, e2, zf, b2⟩ | ⟨F, y1, z74, z86, z90, F0, F1, e1, y17, e2, zf, z19, zq⟩
          · have e2' : fX12_townPart x91 (nI 1) u74 x86 x87 x88 x89 x90 = _ := e2
            rw [e1, bd4_s, gd_t (by decide), e2', bd6_s]
            refine Or.inl ⟨n40, _, p', y1, _, _, x9, x10, x11, x12, z74, _, x87, x88, x89, _, rfl, rfl, fun j a b => (zf j a b).trans (uf j a b), b2, H, su, K, N + 1, M, fun j => if j = N then v else q j, g, r, f, ⟨⟨h0, h1, rfl, h4, s0, s1, s2⟩, ⟨hg, hr, hf⟩, ⟨r0, r1, r2, rfl, r4⟩, ⟨hg', hr', hf'⟩, fun j hj => ?_, ⟨bH, bs, bK, by omega, bM⟩, hgr, hff, hd⟩, fun hh => absurd hh (by omega), fun _ => hn1 n0⟩
            by_cases ej : j = N
            · subst ej
              simp only [if_true, pk_us]
              exact ⟨trivial, trivial, v9⟩
            · simp only [ej, if_false, pk_un ej]
              exact hq j (by omega)
          · have e2' : fX12_townPart x91 (nI 1) u74 x86 x87 x88 x89 x90 = _ := e2
            rw [e1, bd4_s, gd_t (by decide), e2', bd6_s]
            exact Or.inr ⟨F, y1, x7, x8, x9, x10, x11, x12, z74, z86, x87, x88, x89, z90, F0, F1, rfl, y17, rfl, fun j a b => (zf j a b).trans (uf j a b), z19, zq⟩
        · rw [if_neg (by omega), if_neg (by omega), if_pos rfl]
          have M6 : M < 6 := by unfold full at nf; omega
          have n0 : 0 < n := by unfold full at nf; omega
          have H5 := hn1 n0
          rcases t_house (x7 := x7) (x10 := x10) (x86 := x86) (x87 := x87) (x88 := x88) (x89 := x89) (x90 := x90) b1 M6 (by omega) bH h0 r0 h4 r4 with ⟨v, p', y1, z74, vH, e1, e2, zf, b2⟩ | ⟨F, y1, z74, z86, z87, F0, F1, e1, y17, e2, zf, z19, zq⟩
          · have e2' : fX12_townPart x91 (nI 2) u74 x86 x87 x88 x89 x90 = _ := e2
            rw [e1, bd4_s, gd_t (by decide), e2', bd6_s]
            refine Or.inl ⟨n40, _, p', y1, _, x8, x9, _, x11, x12, z74, _, _, x88, x89, x90, rfl, rfl, fun j a b => (zf j a b).trans (uf j a b), b2, H, su, K, N, M + 1, q, fun j => if j = M then v else g j, r, f, ⟨⟨h0, h1, h3, rfl, s0, s1, s2⟩, ⟨RP_set hg v, hr, hf⟩, ⟨r0, r1, r2, r3, rfl⟩, ⟨RP_set hg' v, hr', hf'⟩, hq, ⟨bH, bs, bK, bN, by omega⟩, fun h hh => ?_, fun a b ha hb => ⟨(hff a b ha hb).1, (hff a b ha hb).2.1, fun hm => (hff a b ha hb).2.2 (by omega)⟩, hd⟩, fun hh => absurd hh (by omega), fun _ => H5⟩
            obtain ⟨g1, g2, g3, g4⟩ := hgr h hh
            refine ⟨fun hm => ?_, fun hm => ?_, g3, fun hm => g4 (by omega)⟩
            · show (if h = M then v else g h) < H
              by_cases eh : h = M
              · rw [if_pos eh]; exact vH
              · rw [if_neg eh]; exact g1 (by omega)
            · show (if h = M then v else g h) = 0
              rw [if_neg (by omega)]; exact g2 (by omega)
          · have e2' : fX12_townPart x91 (nI 2) u74 x86 x87 x88 x89 x90 = _ := e2
            rw [e1, bd4_s, gd_t (by decide), e2', bd6_s]
            exact Or.inr ⟨F, y1, x7, x8, x9, x10, x11, x12, z74, z86, z87, x88, x89, x90, F0, F1, rfl, y17, rfl, fun j a b => (zf j a b).trans (uf j a b), z19, zq⟩
        · rw [if_neg (by omega), if_neg (by omega), if_neg (by omega), if_pos rfl]
          have n0 : 0 < n := by unfold full at nf; omega
          have tp : fX12_townPart x91 (nI 3) u74 x86 x87 x88 x89 x90 = bd2 (fX12_joinPart x86 x91 u74 x89) fun a b => some (a, x86, x87, x88, b, x90) := by
            unfold fX12_townPart fX12_townPart_0
            rw [if_neg (by decide), if_neg (by decide), if_neg (by decide), if_pos (by decide)]
          rw [tp]
          rcases t_join (x7 := x7) (x12 := x12) (x86 := x86) (x89 := x89) b1 bM h4 r4 hf hf' with ⟨v, u, w, p', y1, y12, z74, z89, vM, uM, uv, w9, w1, e1, hy, e2, hz', zf, b2⟩ | ⟨F, y1, z74, F0, F1, e1, y17, e2, zf, z19, zq⟩
          · rw [e1, bd3_s, gd_t (by decide), e2, bd2_s, bd6_s]
            refine Or.inl ⟨n40, _, p', y1, x7, x8, x9, x10, x11, y12, z74, x86, x87, x88, z89, x90, rfl, rfl, fun j a b => (zf j a b).trans (uf j a b), b2, H, su, K, N, M, q, g, r, setF f v u w, ⟨⟨h0, h1, h3, h4, s0, s1, s2⟩, ⟨hg, hr, hy⟩, ⟨r0, r1, r2, r3, r4⟩, ⟨hg', hr', hz'⟩, hq, ⟨bH, bs, bK, bN, bM⟩, hgr, fun a b ha hb => ?_, fun a ha => ?_⟩, fun hh => absurd hh (by omega), fun _ => hn1 n0⟩
            · obtain ⟨f1, f2, f3⟩ := hff a b ha hb
              simp only [setF]
              refine ⟨?_, ?_, fun hm => ?_⟩
              · split <;> omega
              · (repeat' split) <;> omega
              · rw [if_neg (by omega)]; exact f3 hm
            · have := hd a ha
              simp only [setF]
              split <;> omega
          · rw [e1, bd3_s, gd_t (by decide), e2, bd2_s, bd6_s]
            exact Or.inr ⟨F, y1, x7, x8, x9, x10, x11, x12, z74, x86, x87, x88, x89, x90, F0, F1, rfl, y17, rfl, fun j a b => (zf j a b).trans (uf j a b), z19, zq⟩
        · rw [if_neg (by omega), if_neg (by omega), if_neg (by omega), if_neg (by omega)]
          have n0 : 0 < n := by unfold full at nf; omega
          unfold fX10_readClause_164
          rcases t_rock (x7 := x7) (x11 := x11) (x86 := x86) (x87 := x87) (x88 := x88) (x89 := x89) (x90 := x90) b1 bM h4 r4 with ⟨v, w, p', y1, z74, vM, w9, w1, e1, e2, zf, b2⟩ | ⟨F, y1, z74, F0, F1, e1, y17, e2, zf, z19, zq⟩
          · have e2' : fX12_townPart x91 (nI 4) u74 x86 x87 x88 x89 x90 = _ := e2
            rw [e1, bd3_s, gd_t (by decide), e2', bd6_s]
            refine Or.inl ⟨n40, _, p', y1, x7, x8, x9, x10, _, x12, z74, x86, x87, _, x89, x90, rfl, rfl, fun j a b => (zf j a b).trans (uf j a b), b2, H, su, K, N, M, q, g, fun j => if j = v then w else r j, f, ⟨⟨h0, h1, h3, h4, s0, s1, s2⟩, ⟨hg, RP_set hr w, hf⟩, ⟨r0, r1, r2, r3, r4⟩, ⟨hg', RP_set hr' w, hf'⟩, hq, ⟨bH, bs, bK, bN, bM⟩, fun h hh => ?_, hff, hd⟩, fun hh => absurd hh (by omega), fun _ => hn1 n0⟩
            obtain ⟨g1, g2, g3, g4⟩ := hgr h hh
            refine ⟨g1, g2, ?_, fun hm => ?_⟩
            · show (if h = v then w else r h) ≤ 9
              split <;> omega
            · show (if h = v then w else r h) = 0
              rw [if_neg (by omega)]; exact g4 hm
          · have e2' : fX12_townPart x91 (nI 4) u74 x86 x87 x88 x89 x90 = _ := e2
            rw [e1, bd3_s, gd_t (by decide), e2', bd6_s]
            exact Or.inr ⟨F, y1, x7, x8, x9, x10, x11, x12, z74, x86, x87, x88, x89, x90, F0, F1, rfl, y17, rfl, fun j a b => (zf j a b).trans (uf j a b), z19, zq⟩
end TRD

section TEST2
variable {x1 x3 x4 x5 x13 x14 x74 x91 x92 x93 x98 t : Nat → Int32} {sz c slot d e i p k n o D j : Nat} {S E L : List StO}
/-- reading on behind an and, an or -/
theorem go_on {q w : Nat} (k9 : K6) (hR : RS t sz c slot d (e + 3) i (ts t sz i) S E k x1 x3 x4 x5 x13 x14 x74 x91 x92 x93) (h25 : x74 25 = nI o) (ho : o ≤ i) (hτ : tc t sz (ts t sz i) = 17 + w) (hw : w < 20) (hq : q = 10 ∨ q = 11) {len : Int32} (hlen : slen w = len) : ∃ z74, (bd2 (fX12_opens (nI q) x74 x98) fun x74_1 x98_2 => fX12_test_122 x91 k9 1 len (x74_1 18) x74_1 x92 x93 x98_2) = k9 1 1 z74 x92 x93 (upd x98 o (nI q)) ∧ fX8_skip x1 = some (upd x1 6 (nI (i + 1))) ∧ RS t sz c slot (d + 1) e (i + 1) (nx t sz (ts t sz i)) S E k (upd x1 6 (nI (i + 1))) x3 x4 x5 x13 x14 z74 x91 x92 x93 ∧ z74 25 = nI (o + 1) ∧ z74 23 = x74 23 ∧ fu74 x74 z74 := by
  obtain ⟨hz, hc, hic, _⟩ := RS_lim hR
  obtain ⟨hlt, enx⟩ := nx_word (t := t) hz (ts_le i) hw hτ
  have tm := ts_mono (t := t) (i := i) hlt
  have sl := (slen_w w hw).1
  obtain ⟨esk, hR1⟩ := RS_tok (d' := d + 1) (e' := e) (z74 := upd (upd x74 25 (nI (o + 1))) 18 (nI (nx t sz (ts t sz i)))) hR hlt pk_us (fun j j1 _ j3 => by rw [pk_un j1, pk_un j3]) (by omega) (by omega)
  refine ⟨_, ?_, esk, hR1, by rw [pk_un (by omega), pk_us], by rw [pk_un (by omega), pk_un (by omega)], fun j j1 j2 j3 j4 j5 j6 => by rw [pk_un j1, pk_un j6]⟩
  rw [p_opens1 (o := o) h25 (by omega) hq, bd2_s]
  unfold fX12_test_122 fX12_test_199
  rw [pk_un (by omega), RS_p hR, ← hlen, sl, nI_add, ← enx]
theorem t_test (hF : FSpec t x3 x4 x5 x91 sz c slot j D) (hD : D ≤ 10) {i0 : Nat} : ∀ (m fc fuel n i p k A O : Nat) (LO LA : List StO) (x1 x13 x14 x74 x92 x93 x98 : FI), c ≤ i + m → c + 2 ≤ fc + i → c + 4 ≤ fuel + i → 2 * n ≤ i → A ≤ 1 → O ≤ 1 → i0 ≤ i → RS t sz c slot (d + O + A) e i p (S ++ (LO ++ LA)) (E ++ (LO ++ LA)) k x1 x3 x4 x5 x13 x14 x74 x91 x92 x93 → x74 25 = nI (o + O + A) → x74 23 = nI D → (A = 1 → x98 (o + O) = nI 10) → (O = 1 → x98 o = nI 11) → (o = 0 ∨ x98 (o - 1) = nI 12) → o + O + A ≤ i → ((O = 0 ∧ LO = []) ∨ (O = 1 ∧ ∃ V, Sem LO (hgt D + 2) V)) → ((A = 0 ∧ LA = []) ∨ (A = 1 ∧ ∃ V, Sem LA (hgt D + 1) V)) → TO2 t sz c slot d e i0 D o S E x3 x4 x5 x74 x91 x92 x93 x98 (lq7 (fX5_readTestO_7b (fFact x3 x4 x5 j) x3 x4 x5) fc (nI D) (nI A) (nI O) (nI n) x1 x13 x14) (lq6 (fX12_test_9b x91) fuel 1 1 x74 x92 x93 x98)
  | m, 0, fuel, n, i, p, k, A, O, LO, LA, x1, x13, x14, x74, x92, x93, x98, hm, hfc, hfu, hn, hA, hO, hi0, hR, h25, h23, hxA, hxO, hx, hl, hLO, hLA => by
    have := (RS_lim hR).2.2.1
    omega
  | m, fc + 1, fuel, n, i, p, k, A, O, LO, LA, x1, x13, x14, x74, x92, x93, x98, hm, hfc, hfu, hn, hA, hO, hi0, hR, h25, h23, hxA, hxO, hx, hl, hLO, hLA => by
    obtain ⟨hz, hc, hic, _⟩ := RS_lim hR
    show TO2 t sz c slot d e i0 D o S E x3 x4 x5 x74 x91 x92 x93 x98 (fX5_readTestO_7b (fFact x3 x4 x5 j) x3 x4 x5 (lq7 (fX5_readTestO_7b (fFact x3 x4 x5 j) x3 x4 x5) fc) (nI D) (nI A) (nI O) (nI n) x1 x13 x14) _
    generalize hK : lq7 (fX5_readTestO_7b (fFact x3 x4 x5 j) x3 x4 x5) fc = KC
    unfold fX5_readTestO_7b
    rw [if_neg (show ¬ (400 : Int32) ≤ nI n from nI_ge (b := 400) (by omega) (by omega))]
    rcases hF _ _ _ _ _ _ fuel _ _ _ _ _ _ _ _ x98 hR h25 h23 hl hfu with ⟨fuel', nn, i', p', k', Lf, Vf, y1, y13, y14, z74, z92, z93, z98, hii, hsf, ec, er, hR1, z25, z23, hnn, hz98, fz, f92, hl1, hfu1⟩ | ⟨F, y1, y13, y14, z74, z92, z93, z98, ec, y17, er, hRF⟩
    · obtain ⟨_, _, hic1, _⟩ := RS_lim hR1
      have tl := tc_lt (t := t) (s := ts t sz i') hz
      obtain ⟨fuel'', rfl⟩ : ∃ f, fuel' = f + 1 := ⟨fuel' - 1, by omega⟩
      obtain ⟨u13, u14, eu, hR2⟩ := wrq (q := 35) (A := A) (d := d + O) hA (by omega) hR1
      have hR2' : RS t sz c slot (d + O) (e + 3 + 3 * A + 3 * nn) i' p' (S ++ (LO ++ (LA ++ (Lf ++ rep nn 36) ++ rep A 35))) (E ++ (LO ++ LA) ++ Lf) k' y1 x3 x4 x5 u13 u14 z74 x91 z92 z93 := by
        have := RS_weak (d' := d + O) (e' := e + 3 + 3 * A + 3 * nn) hR2 (Nat.le_refl _) (by omega)
        rw [show S ++ (LO ++ LA) ++ (Lf ++ rep nn 36) ++ rep A 35 = S ++ (LO ++ (LA ++ (Lf ++ rep nn 36) ++ rep A 35)) by simp only [List.append_assoc]] at this
        exact this
      obtain ⟨w74, w92, w93, hR3, w25, w23, fw, f92w, ew⟩ := want0 (o := o) (D := D) (x98 := z98) (lq6 (fX12_test_9b x91) fuel'') hA hO hD hR2' (by rw [z25]) z23 hnn (fun h => by rw [hz98 _ (by omega)]; exact hxA h) (fun h => by rw [hz98 _ (by omega)]; exact hxO h) (by
        rcases hx with h0 | h0
        · exact Or.inl h0
        · by_cases k0 : o = 0
          · exact Or.inl k0
          · exact Or.inr (by rw [hz98 _ (by omega)]; exact h0)) (by omega)
      rw [show E ++ (LO ++ LA) ++ Lf ++ rep nn 36 ++ rep A 35 = E ++ (LO ++ (LA ++ (Lf ++ rep nn 36) ++ rep A 35)) by simp only [List.append_assoc]] at hR3
      obtain ⟨VA, hVA⟩ := joinL (q := 35) (A := A) (by unfold isBin; omega) hLA hsf (Nat.le_refl _)
      generalize LA ++ (Lf ++ rep nn 36) ++ rep A 35 = LA' at hR3 hVA
      have hxb : ∀ y98 : FI, (∀ j, j < o → y98 j = x98 j) → (o = 0 ∨ y98 (o - 1) = nI 12) := fun y98 hy => by
        rcases hx with h0 | h0
        · exact Or.inl h0
        · by_cases k0 : o = 0
          · exact Or.inl k0
          · exact Or.inr (by rw [hy _ (by omega)]; exact h0)
      have hzo : ∀ j, j < o → z98 j = x98 j := fun j hj => hz98 j (by omega)
      have fzw : fu74 x74 w74 := fu_trans fz fw
      have er' : lq6 (fX12_test_9b x91) (fuel'' + 1) 0 1 z74 z92 z93 z98 = fX12_test_9b x91 (lq6 (fX12_test_9b x91) fuel'') 0 1 z74 z92 z93 z98 := rfl
      have eA := eu (fun a b => fX5_readTestO_37 (fFact x3 x4 x5 j) x3 x4 x5 KC (nI D) (nI O) (nI n) y1 a b)
      rw [ec, bd4_s, if_neg one_ne, show (35 : Int32) = nI 35 from rfl, eA, er, er', ew]
      unfold fX5_readTestO_37
      rw [RS_code hR3, bd1_s]
      by_cases k35 : tc t sz (ts t sz i') = 35
      · obtain ⟨v74, ev, esk, hR4, v25, v23, fv⟩ := go_on (q := 10) (w := 18) (x98 := z98) (lq6 (fX12_test_9b x91) fuel'') hR3 w25 (by omega) k35 (by omega) (Or.inl rfl) (len := 3) (by decide)
        rw [if_pos k35, if_pos (show nI (tc t sz (ts t sz i')) = (35 : Int32) by rw [k35]; rfl)]
        unfold fX5_readTestO_54 fX5_readTestO_95 fX12_test_82 fX12_test_93 fX12_test_105
        rw [if_neg one_ne, esk, bd1_s, bn_s, nI_1, if_pos z00, if_neg (show ¬ nI 1 = (0 : Int32) from one_ne)]
        simp only [if_neg (show ¬ nI 1 = (0 : Int32) from one_ne)]
        rw [show (10 : Int32) = nI 10 from rfl, ev, ← hK]
        match m, hm with
        | 0, hm => omega
        | m + 1, hm =>
          have ih := t_test hF hD (i0 := i0) m fc fuel'' (n + 1) (i' + 1) _ k' 1 O LO LA' (upd y1 6 (nI (i' + 1))) u13 u14 v74 w92 w93 (upd z98 (o + O) (nI 10)) (by omega) (by omega) (by omega) (by omega) (by omega) hO (by omega) hR4 v25 (v23.trans w23) (fun _ => pk_us) (fun h => by rw [pk_un (by omega), hz98 _ (by omega)]; exact hxO h) (hxb _ fun j hj => by rw [pk_un (by omega)]; exact hzo j hj) (by omega) hLO (Or.inr ⟨rfl, VA, hVA⟩)
          exact TO2_fr (fu_trans fzw fv) (fr_trans f92 f92w) (fun j hj => by rw [pk_un (by omega)]; exact hzo j hj) ih
      · rw [if_neg k35, if_neg (show ¬ nI (tc t sz (ts t sz i')) = (35 : Int32) from fun h => k35 ((nI_eq (b := 35) (by omega) (by omega)).mp h))]
        unfold fX5_readTestO_54
        rw [if_pos rfl]
        obtain ⟨v13, v14, ev, hR4⟩ := wrq (q := 34) (A := O) (d := d) hO (by omega) hR3
        obtain ⟨a74, a92, a93, ea, hRa, a25, a23, af, a18, a9⟩ := ans (q := 34) (o := o) (D := D) (x98 := z98) (Or.inl (by unfold isBin; omega)) (by decide) O 5000 _ w74 w92 w93 (by omega) (RS_weak (d' := d) (e' := e + 3 + 3 * O) hR4 (Nat.le_refl _) (Nat.le_refl _)) w25 (by rw [if_neg (by omega)]; exact w23) (by omega) (fun j hj => by rw [show o + j = o by omega, hz98 _ (by omega)]; exact hxO (by omega)) (by
          rcases hxb z98 hzo with h0 | h0
          · exact Or.inl h0
          · exact Or.inr (by rw [h0]; decide)) (by omega)
        rw [show S ++ (LO ++ LA') ++ rep O 34 = S ++ (LO ++ LA' ++ rep O 34) by simp only [List.append_assoc], show E ++ (LO ++ LA') ++ List.replicate O (34, 0) = E ++ (LO ++ LA' ++ rep O 34) by simp only [List.append_assoc]] at hRa
        obtain ⟨VO', hVO⟩ := joinL (q := 34) (A := O) (by unfold isBin; omega) hLO hVA (Nat.le_refl _)
        generalize LO ++ LA' ++ rep O 34 = LO' at hRa hVO
        have ea' : fX12_answers z98 11 w74 w92 w93 = some (a74, a92, a93) := ea
        have eO := ev (fun a b => fX5_readTestO_71 (fFact x3 x4 x5 j) x3 x4 x5 KC (nI D) 0 (nI n) y1 a b)
        rw [show (34 : Int32) = nI 34 from rfl, eO]
        unfold fX5_readTestO_71
        rw [RS_code hRa, bd1_s]
        by_cases k34 : tc t sz (ts t sz i') = 34
        · obtain ⟨v74, ev, esk, hR5, v25, v23, fv⟩ := go_on (q := 11) (w := 17) (x98 := z98) (lq6 (fX12_test_9b x91) fuel'') hRa a25 (by omega) k34 (by omega) (Or.inr rfl) (len := 2) (by decide)
          rw [if_pos k34, if_pos (show nI (tc t sz (ts t sz i')) = (34 : Int32) by rw [k34]; rfl)]
          unfold fX5_readTestO_88 fX5_readTestO_95 fX12_test_82 fX12_test_93 fX12_test_105
          rw [if_neg one_ne, esk, bd1_s, bn_s, nI_1, if_neg (show ¬ nI 1 = (0 : Int32) from one_ne), ea', bd3_s, if_pos z00]
          simp only [z00, if_true]
          rw [show (11 : Int32) = nI 11 from rfl, ev, ← hK]
          match m, hm with
          | 0, hm => omega
          | m + 1, hm =>
            have ih := t_test hF hD (i0 := i0) m fc fuel'' (n + 1) (i' + 1) _ k' 0 1 LO' [] (upd y1 6 (nI (i' + 1))) v13 v14 v74 a92 a93 (upd z98 o (nI 11)) (by omega) (by omega) (by omega) (by omega) (by omega) (by omega) (by omega) (by rw [List.append_nil]; exact hR5) v25 ((v23.trans a23)) (fun h => absurd h (by omega)) (fun _ => pk_us) (hxb _ fun j hj => by rw [pk_un (by omega)]; exact hzo j hj) (by omega) (Or.inr ⟨rfl, VO', hVO⟩) (Or.inl ⟨rfl, rfl⟩)
            exact TO2_fr (fu_trans (fu_trans fzw af) fv) (fr_trans (fr_trans f92 f92w) a9) (fun j hj => by rw [pk_un (by omega)]; exact hzo j hj) ih
        · rw [if_neg k34, if_neg (show ¬ nI (tc t sz (ts t sz i')) = (34 : Int32) from fun h => k34 ((nI_eq (b := 34) (by omega) (by omega)).mp h)), ea', bd3_s]
          unfold fX5_readTestO_88
          rw [if_pos rfl]
          exact Or.inl ⟨fuel'', i', k', LO', VO', y1, v13, v14, a74, a92, a93, z98, by omega, hVO, rfl, rfl, hRa, a25, a23, hzo, fu_trans fzw af, fr_trans (fr_trans f92 f92w) a9, by omega⟩
    · rw [ec, bd4_s, if_pos rfl]
      exact Or.inr ⟨F, y1, y13, y14, z74, z92, z93, z98, rfl, y17, er, hRF⟩
end TEST2

section ROWD
variable {H M K N B : Nat} {q : Nat → Nat} {S : SN}
theorem LS_eq {n bs c c' : Nat} {x40 x59 : Nat → Int32} (h : rb H M K N q S n bs c = rb H M K N q S n bs c') (hl : LSt H M K N q S n bs c x40 x59) : LSt H M K N q S n bs c' x40 x59 := by
  unfold LSt at hl ⊢
  rw [← h]; exact hl
theorem bd12_s {A0 A1 A2 A3 A4 A5 A6 A7 A8 A9 A10 A11 R : Type} (a0 : A0) (a1 : A1) (a2 : A2) (a3 : A3) (a4 : A4) (a5 : A5) (a6 : A6) (a7 : A7) (a8 : A8) (a9 : A9) (a10 : A10) (a11 : A11) (k : A0 → A1 → A2 → A3 → A4 → A5 → A6 → A7 → A8 → A9 → A10 → A11 → Option R) : bd12 (some (a0, a1, a2, a3, a4, a5, a6, a7, a8, a9, a10, a11)) k = k a0 a1 a2 a3 a4 a5 a6 a7 a8 a9 a10 a11 := rfl
theorem bd16_s {A0 A1 A2 A3 A4 A5 A6 A7 A8 A9 A10 A11 A12 A13 A14 A15 R : Type} (a0 : A0) (a1 : A1) (a2 : A2) (a3 : A3) (a4 : A4) (a5 : A5) (a6 : A6) (a7 : A7) (a8 : A8) (a9 : A9) (a10 : A10) (a11 : A11) (a12 : A12) (a13 : A13) (a14 : A14) (a15 : A15) (k : A0 → A1 → A2 → A3 → A4 → A5 → A6 → A7 → A8 → A9 → A10 → A11 → A12 → A13 → A14 → A15 → Option R) : bd16 (some (a0, a1, a2, a3, a4, a5, a6, a7, a8, a9, a10, a11, a12, a13, a14, a15)) k = k a0 a1 a2 a3 a4 a5 a6 a7 a8 a9 a10 a11 a12 a13 a14 a15 := rfl
theorem rowN {T : SN} {x17 x18 x0 x1 x2 x3 x33 : Nat → Int32} (hV : VD H M B T) (hB : B < 999999) (hT : TC H M K N q x17 x18) (hR : RC T x0 x1 x2 x3) : ∃ r z0 z1 z2 z3 z33, (bd1 (fX9_heatOf x0 x17 x18) fun h => fX1_melt x17 h x0 x1 x2 x3 x33) = some (r, z0, z1, z2, z3, z33) ∧ RC (stR H M K N q T none) z0 z1 z2 z3 ∧ ∃ ht, fX9_heatOf x0 x17 x18 = some ht := by
  obtain ⟨hQ, hK, h0, h1, h3, h4, hq⟩ := id hT
  have hd : T 0 ≤ B := hV.2.2.2.1
  have hh := p_heatOf hQ h3 hq (show T 0 < 2147483648 by omega) (hR.1 0 (by omega)) (hR.1 2 (by omega)) hV.2.2.2.2.2
  have h9 := hot_9 (d := T 0) (ic := T 2) hQ
  obtain ⟨z0, z1, z2, z3, z33, e, hr⟩ := p_meltS (P := (0, none)) (t := hot N q (T 0) (T 2)) (x33 := x33) hV.1 (by omega) h0 h1 h4 (hR.1 0 (by omega)) (hR.1 1 (by omega)) (hR.1 2 (by omega)) hV.2.2.2.2.2 (RC_p hR) (RC_r hR) (RC_h hR)
  exact ⟨_, z0, z1, z2, z3, z33, by rw [hh, bd1_s]; exact e, hr, _, hh⟩
theorem rowP {T : SN} {a b : Nat} {x17 x18 x0 x1 x2 x3 x33 : Nat → Int32} (hV : VD H M B T) (hB : B < 999999) (hT : TC H M K N q x17 x18) (hR : RC T x0 x1 x2 x3) (hf : feas T (some (a, b)) = true) (ho : opV M (some (a, b))) : ∃ v0 v3, fX7_harden (nI a) (nI b) x0 x3 = some (v0, v3) ∧ ∃ r z0 z1 z2 z3 z33, (bd1 (fX9_heatOf v0 x17 x18) fun h => fX1_melt x17 h v0 x1 x2 v3 x33) = some (r, z0, z1, z2, z3, z33) ∧ RC (stR H M K N q T (some (a, b))) z0 z1 z2 z3 ∧ ∃ ht, fX9_heatOf v0 x17 x18 = some ht := by
  obtain ⟨hQ, hK, h0, h1, h3, h4, hq⟩ := id hT
  obtain ⟨hM, _⟩ := id hV.1
  have hab : a < b ∧ b < M := ho
  have hG := feas_G ho hf
  have hd : T 0 ≤ B := hV.2.2.2.1
  have s0 : 0 < T 1 := by unfold feas at hf; simp only [Bool.and_eq_true, decide_eq_true_eq] at hf; exact hf.1
  obtain ⟨y, ey, hy⟩ := p_setHard (RC_h hR) (show a < 6 by omega) (show b < 6 by omega) (sHd T a b + 1)
  have r0 := hR.1 0 (by omega)
  have r1 := hR.1 1 (by omega)
  have r2' := hR.1 2 (by omega)
  have hh := p_heatOf (xo := upd x0 1 (nI (T 1 - 1))) hQ h3 hq (show T 0 < 2147483648 by omega) r0 r2' hV.2.2.2.2.2
  have h9 := hot_9 (d := T 0) (ic := T 2) hQ
  obtain ⟨z0, z1, z2, z3, z33, e, hr⟩ := p_meltS (P := (0, some (a, b))) (t := hot N q (T 0) (T 2)) (x33 := x33) (xo := upd x0 1 (nI (T 1 - 1))) (VG_hd hV.1 hG) (by omega) h0 h1 h4 r0 pk_us r2' hV.2.2.2.2.2 (RC_p hR) (RC_r hR) hy
  refine ⟨upd x0 1 (nI (T 1 - 1)), y, ?_, _, z0, z1, z2, z3, z33, by rw [hh, bd1_s]; exact e, hr, _, hh⟩
  unfold fX7_harden fX7_harden_0
  rw [p_hardOf (RC_h hR) (by omega) (by omega), bd1_s, nI_1, ey, bd1_s, r1, zI1, nsub (by omega)]
theorem s_3 {n bs p : Nat} {T : SN} {x17 x40 x55 x58 x59 : Nat → Int32} (hn : n = 3) (hV : VD H M B S) (hK : K ≤ 9) (h4 : x17 4 = nI M) (hT : T = (rw2 H M K N q S 3 bs p).1) (hok : (rw2 H M K N q S 3 bs p).2 = true) (hx : RP x55 (sPl T)) (h58 : ∀ j, j < 3 → x58 j = oc (ops M bs 3 p j)) (hl : LSt H M K N q S n bs (p * bs ^ (n - 3)) x40 x59) : ∃ y40 y59, fX3_search_3 x17 x55 x58 (nI n) x40 x59 = some (y40, y59) ∧ LSt H M K N q S n bs ((p + 1) * bs ^ (n - 3)) y40 y59 := by
  subst hn
  rw [show 3 - 3 = 0 from rfl, Nat.pow_zero, Nat.mul_one] at hl
  rw [show 3 - 3 = 0 from rfl, Nat.pow_zero, Nat.mul_one]
  obtain ⟨y40, y59, e, h⟩ := keep_ls (x47 := x55) (Nat.le_refl 3) hV hK h4 hT hok hx h58 hl
  refine ⟨y40, y59, ?_, h⟩
  unfold fX3_search_3 fX3_search_3_0 fX3_search_3_10 fX3_keepIfBetter_3 fX3_keepIfBetter_3_0
  rw [ite_self, e, bd2_s]

theorem goN_2 {n bs p k : Nat} {T : SN} {x17 x18 x33 x40 x50 x51 x52 x53 x54 x55 x56 x57 x58 x59 : Nat → Int32} (hk0 : opt M k = none) (hkb : k < bs) (hn : 2 < n) (hn3 : n ≤ 3) (hbs : bs = (pls M M 0).length + 1) (hV : VD H M B S) (hB : B ≤ 999) (hT : TC H M K N q x17 x18) (eT : T = (rw2 H M K N q S 2 bs p).1) (hok : (rw2 H M K N q S 2 bs p).2 = true) (hR : RC T x50 x51 x52 x53) (h58 : ∀ j, j < 2 → x58 j = oc (ops M bs 2 p j)) (hl : LSt H M K N q S n bs ((p * bs + k) * bs ^ (n - 3)) x40 x59) : ∃ o33 o40 o54 o55 o56 o57 o58 o59, fX3_goOn_2 x17 x18 x50 x51 x52 x53 (nI n) (-1) (-1) x33 x40 x54 x55 x56 x57 x58 x59 = some (o33, o40, o54, o55, o56, o57, o58, o59) ∧ LSt H M K N q S n bs ((p * bs + k + 1) * bs ^ (n - 3)) o40 o59 ∧ ∀ j, j < 2 → o58 j = x58 j := by
  have hM := hV.1.1
  have hVT : VD H M (B + 2) T := by rw [eT]; exact rw2_V hT.2.1 hM hV
  obtain ⟨c0, c1, c2, c3, ec, hc⟩ := p_copy (y0 := x54) (y1 := x55) (y2 := x56) (y3 := x57) hR
  obtain ⟨r, z0, z1, z2, z3, z33, em, hz, ht, eh⟩ := rowN (x33 := x33) hVT (by omega) hT hc
  rw [eh, bd1_s] at em
  have up := rw2_up (H := H) (M := M) (K := K) (N := N) (q := q) (S := S) (d := 2) (p := p) hkb
  rw [hk0, hok, ← eT, Bool.true_and, show feas T none = true from rfl, if_pos rfl] at up
  have h58n : ∀ j, j < 3 → (upd x58 2 (-1)) j = oc (ops M bs 3 (p * bs + k) j) := fun j hj => by
    by_cases e : j = 2
    · rw [e, pk_us]
      unfold ops
      rw [dgt_last hkb, hk0]
      rfl
    · rw [pk_un e, h58 j (by omega)]
      unfold ops
      rw [dgt_up hkb (by omega)]
  obtain ⟨o40, o59, es, hs⟩ := s_3 (x55 := z1) (x58 := upd x58 2 (-1)) (p := p * bs + k) (show n = 3 by omega) hV hT.2.1 hT.2.2.2.2.2.1 (by rw [up]) (by rw [up]) (RC_p hz) h58n hl
  refine ⟨z33, o40, z0, z1, z2, z3, upd x58 2 (-1), o59, ?_, hs, fun j hj => by rw [pk_un (by omega)]⟩
  unfold fX3_goOn_2 fX3_goOn_2_0 fX3_goOn_2_53
  rw [ec, bd4_s, gd_t (by decide), if_pos (by decide), eh, bd1_s, em, bd6_s, n2', es, bd2_s]
theorem goP_2 {n bs p k : Nat} {T : SN} {x17 x18 x33 x40 x50 x51 x52 x53 x54 x55 x56 x57 x58 x59 : Nat → Int32} {a b : Nat} (hk0 : opt M k = some (a, b)) (hf : feas T (some (a, b)) = true) (hkb : k < bs) (hn : 2 < n) (hn3 : n ≤ 3) (hbs : bs = (pls M M 0).length + 1) (hV : VD H M B S) (hB : B ≤ 999) (hT : TC H M K N q x17 x18) (eT : T = (rw2 H M K N q S 2 bs p).1) (hok : (rw2 H M K N q S 2 bs p).2 = true) (hR : RC T x50 x51 x52 x53) (h58 : ∀ j, j < 2 → x58 j = oc (ops M bs 2 p j)) (hl : LSt H M K N q S n bs ((p * bs + k) * bs ^ (n - 3)) x40 x59) : ∃ o33 o40 o54 o55 o56 o57 o58 o59, fX3_goOn_2 x17 x18 x50 x51 x52 x53 (nI n) (nI a) (nI b) x33 x40 x54 x55 x56 x57 x58 x59 = some (o33, o40, o54, o55, o56, o57, o58, o59) ∧ LSt H M K N q S n bs ((p * bs + k + 1) * bs ^ (n - 3)) o40 o59 ∧ ∀ j, j < 2 → o58 j = x58 j := by
  have hM := hV.1.1
  have hVT : VD H M (B + 2) T := by rw [eT]; exact rw2_V hT.2.1 hM hV
  obtain ⟨c0, c1, c2, c3, ec, hc⟩ := p_copy (y0 := x54) (y1 := x55) (y2 := x56) (y3 := x57) hR
  have ho : opV M (some (a, b)) := by rw [← hk0]; exact opt_V hM
  obtain ⟨v0, v3, ev, r, z0, z1, z2, z3, z33, em, hz, ht, eh⟩ := rowP (x33 := x33) hVT (by omega) hT hc hf ho
  rw [eh, bd1_s] at em
  have up := rw2_up (H := H) (M := M) (K := K) (N := N) (q := q) (S := S) (d := 2) (p := p) hkb
  rw [hk0, hok, ← eT, Bool.true_and, show feas T (some (a, b)) = true from hf, if_pos rfl] at up
  have h58n : ∀ j, j < 3 → (upd (upd x58 2 (-1)) 2 (nI (8 * a + b))) j = oc (ops M bs 3 (p * bs + k) j) := fun j hj => by
    by_cases e : j = 2
    · rw [e, pk_us]
      unfold ops
      rw [dgt_last hkb, hk0]
      rfl
    · rw [pk_un e, pk_un e, h58 j (by omega)]
      unfold ops
      rw [dgt_up hkb (by omega)]
  obtain ⟨o40, o59, es, hs⟩ := s_3 (x55 := z1) (x58 := upd (upd x58 2 (-1)) 2 (nI (8 * a + b))) (p := p * bs + k) (show n = 3 by omega) hV hT.2.1 hT.2.2.2.2.2.1 (by rw [up]) (by rw [up]) (RC_p hz) h58n hl
  refine ⟨z33, o40, z0, z1, z2, z3, upd (upd x58 2 (-1)) 2 (nI (8 * a + b)), o59, ?_, hs, fun j hj => by rw [pk_un (by omega), pk_un (by omega)]⟩
  unfold fX3_goOn_2 fX3_goOn_2_0 fX3_goOn_2_53
  rw [ec, bd4_s, gd_t (by decide), if_neg (nI_pos (by have : a < b ∧ b < M := ho; omega)), ev, bd2_s, gd_t (by decide), eh, bd1_s, em, bd6_s, n2', zI8, pk_mul, nI_add, es, bd2_s]
theorem in_2 {n bs p a : Nat} {T : SN} {l tot rest : List (Nat × Nat)} {x17 x18 x33 x40 x50 x51 x52 x53 x54 x55 x56 x57 x58 x59 : Nat → Int32} (hn : 2 < n) (hn3 : n ≤ 3) (hbs : bs = (pls M M 0).length + 1) (hV : VD H M B S) (hB : B ≤ 999) (hT : TC H M K N q x17 x18) (eT : T = (rw2 H M K N q S 2 bs p).1) (hok : (rw2 H M K N q S 2 bs p).2 = true) (hR : RC T x50 x51 x52 x53) (hs0 : 0 < T 1) (ha : a < M) (htot : tot = l ++ prw a (M - (a + 1)) (a + 1)) (hpl : pls M M 0 = tot ++ rest) (h58 : ∀ j, j < 2 → x58 j = oc (ops M bs 2 p j)) (hl : LSt H M K N q S n bs ((p * bs + 1 + l.length) * bs ^ (n - 3)) x40 x59) (k39 : Int32 → Int32 → (Nat → Int32) → (Nat → Int32) → (Nat → Int32) → (Nat → Int32) → (Nat → Int32) → (Nat → Int32) → (Nat → Int32) → (Nat → Int32) → Option ((Nat → Int32) × (Nat → Int32) × (Nat → Int32) × (Nat → Int32) × (Nat → Int32) × (Nat → Int32) × (Nat → Int32) × (Nat → Int32))) : ∃ o33 o40 o54 o55 o56 o57 o58 o59, fX3_search_2_58 x17 x18 x50 x51 x52 x53 k39 (nI n) (nI a) (nI (a + 1)) x33 x40 x54 x55 x56 x57 x58 x59 = k39 (nI n) (nI (a + 1)) o33 o40 o54 o55 o56 o57 o58 o59 ∧ LSt H M K N q S n bs ((p * bs + 1 + tot.length) * bs ^ (n - 3)) o40 o59 ∧ ∀ j, j < 2 → o58 j = oc (ops M bs 2 p j) := by
  obtain ⟨hM, hH5, hH, hgr, hr0, hf9, hf0, hfr⟩ := id hV.1
  have hVT : VD H M (B + 2) T := by rw [eT]; exact rw2_V hT.2.1 hM hV
  have h4 := hT.2.2.2.2.2.1
  have h9 := fun a b ha hb => (hVT.1.2.2.2.2.2.1 a b ha hb).1
  have hb0 : 0 < bs := by omega
  unfold fX3_search_2_58
  refine loop11 (fX3_search_2_58b x17 x18 x50 x51 x52 x53 k39) (fun m v2 v3 v4 _ w40 _ _ _ _ w58 w59 => ∃ b l', b + m = M ∧ a < b ∧ v2 = nI n ∧ v3 = nI a ∧ v4 = nI b ∧ tot = l' ++ prw a m b ∧ (∀ j, j < 2 → w58 j = oc (ops M bs 2 p j)) ∧ LSt H M K N q S n bs ((p * bs + 1 + l'.length) * bs ^ (n - 3)) w40 w59) (fun o => ∃ o33 o40 o54 o55 o56 o57 o58 o59, o = k39 (nI n) (nI (a + 1)) o33 o40 o54 o55 o56 o57 o58 o59 ∧ LSt H M K N q S n bs ((p * bs + 1 + tot.length) * bs ^ (n - 3)) o40 o59 ∧ ∀ j, j < 2 → o58 j = oc (ops M bs 2 p j)) ?_ ?_ (M - (a + 1)) 5000 _ _ _ _ _ _ _ _ _ _ _ (by omega) ⟨a + 1, l, by omega, by omega, rfl, rfl, rfl, htot, h58, hl⟩
  · rintro k m _ _ _ w33 w40 w54 w55 w56 w57 w58 w59 ⟨b, l', hb, hab, rfl, rfl, rfl, e, h58', hl'⟩
    have ha6 : a < 6 := by omega
    have hb6 : b < 6 := by omega
    have ek : pls M M 0 = (l' ++ [(a, b)]) ++ (prw a m (b + 1) ++ rest) := by rw [hpl, e, List.append_assoc, List.append_assoc]; rfl
    have hlen : l'.length + 1 < bs := by
      have := congrArg List.length ek
      rw [List.length_append, List.length_append] at this
      have h1 : [(a, b)].length = 1 := rfl
      omega
    have hopt : opt M (l'.length + 1) = some (a, b) := by
      unfold opt
      rw [if_neg (by omega), show l'.length + 1 - 1 = l'.length by omega, ek, List.getElem?_append_left (by rw [List.length_append]; exact Nat.lt_succ_self _), List.getElem?_append_right (Nat.le_refl _), Nat.sub_self]
      rfl
    have e2 : tot = (l' ++ [(a, b)]) ++ prw a m (b + 1) := by rw [e, List.append_assoc]; rfl
    have hl2 : LSt H M K N q S n bs ((p * bs + (l'.length + 1)) * bs ^ (n - 3)) w40 w59 := by rw [show p * bs + (l'.length + 1) = p * bs + 1 + l'.length by omega]; exact hl'
    rcases p_can (RC_h hR) h9 ha6 hb6 with ⟨c, e3, _⟩ | ⟨c, e3, _⟩
    · obtain ⟨u33, u40, u54, u55, u56, u57, u58, u59, eg, hg, h58g⟩ := goP_2 (x33 := w33) (x54 := w54) (x55 := w55) (x56 := w56) (x57 := w57) (x58 := w58) hopt (by unfold feas; simp; exact ⟨hs0, c.1, c.2⟩) hlen hn hn3 hbs hV hB hT eT hok hR h58' hl2
      refine Or.inl ⟨nI n, nI a, nI (b + 1), u33, u40, u54, u55, u56, u57, u58, u59, ⟨b + 1, l' ++ [(a, b)], by omega, by omega, rfl, rfl, rfl, e2, fun j hj => (h58g j hj).trans (h58' j hj), ?_⟩, ?_⟩
      · rw [List.length_append, show p * bs + 1 + (l'.length + [(a, b)].length) = p * bs + (l'.length + 1) + 1 from by have h1 : [(a, b)].length = 1 := rfl; omega]; exact hg
      · unfold fX3_search_2_58b fX3_search_2_97
        rw [h4, if_neg (nI_ge (show b < M by omega) (by omega)), e3, bd1_s, if_neg (show ¬ nI 1 = (0 : Int32) from one_ne), eg, bd8_s, bn_s, nI_1]
    · have hff : feas T (some (a, b)) = false := by
        unfold feas
        rw [Bool.and_eq_false_iff]
        right
        rw [Bool.and_eq_false_iff]
        by_cases c1 : 0 < sHd T a b
        · right; exact decide_eq_false fun c2 => c ⟨c1, c2⟩
        · left; exact decide_eq_false c1
      have up := rw2_up (H := H) (M := M) (K := K) (N := N) (q := q) (S := S) (d := 2) (p := p) hlen
      rw [hopt, ← eT, hff, Bool.and_false] at up
      have sk := rb_skip' (n := n) (d := 3) (H := H) (M := M) (K := K) (N := N) (q := q) (S := S) (by omega) hb0 (by rw [up])
      refine Or.inl ⟨nI n, nI a, nI (b + 1), w33, w40, w54, w55, w56, w57, w58, w59, ⟨b + 1, l' ++ [(a, b)], by omega, by omega, rfl, rfl, rfl, e2, h58', ?_⟩, ?_⟩
      · rw [List.length_append, show p * bs + 1 + (l'.length + [(a, b)].length) = p * bs + (l'.length + 1) + 1 from by have h1 : [(a, b)].length = 1 := rfl; omega]; exact LS_eq sk.symm hl2
      · unfold fX3_search_2_58b fX3_search_2_97
        rw [h4, if_neg (nI_ge (show b < M by omega) (by omega)), e3, bd1_s, if_pos z00, bn_s, nI_1]
  · rintro k _ _ _ w33 w40 w54 w55 w56 w57 w58 w59 ⟨b, l', hb, hab, rfl, rfl, rfl, e, h58', hl'⟩
    have e' : tot = l' := by rw [e]; exact List.append_nil _
    refine ⟨w33, w40, w54, w55, w56, w57, w58, w59, ?_, by rw [e']; exact hl', h58'⟩
    unfold fX3_search_2_58b
    rw [h4, if_pos (nI_le (by omega) (by omega)), bn_s, nI_1]
theorem s_2 {n bs p : Nat} {T : SN} {x17 x18 x33 x40 x50 x51 x52 x53 x54 x55 x56 x57 x58 x59 : Nat → Int32} (hn : 2 ≤ n) (hn3 : n ≤ 3) (hbs : bs = (pls M M 0).length + 1) (hV : VD H M B S) (hB : B ≤ 999) (hT : TC H M K N q x17 x18) (eT : T = (rw2 H M K N q S 2 bs p).1) (hok : (rw2 H M K N q S 2 bs p).2 = true) (hR : RC T x50 x51 x52 x53) (h58 : ∀ j, j < 2 → x58 j = oc (ops M bs 2 p j)) (hl : LSt H M K N q S n bs (p * bs ^ (n - 2)) x40 x59) : ∃ o33 o40 o54 o55 o56 o57 o58 o59, fX3_search_2 x17 x18 x50 x51 x52 x53 (nI n) x33 x40 x54 x55 x56 x57 x58 x59 = some (o33, o40, o54, o55, o56, o57, o58, o59) ∧ LSt H M K N q S n bs ((p + 1) * bs ^ (n - 2)) o40 o59 ∧ ∀ j, j < 2 → o58 j = x58 j := by
  have hM := hV.1.1
  have h4 := hT.2.2.2.2.2.1
  have hb0 : 0 < bs := by omega
  unfold fX3_search_2 fX3_search_2_0
  by_cases hd : n = 2
  · subst hd
    rw [Nat.sub_self, Nat.pow_zero, Nat.mul_one] at hl
    rw [Nat.sub_self, Nat.pow_zero, Nat.mul_one]
    obtain ⟨y40, y59, e, h⟩ := keep_ls (x47 := x51) hn3 hV hT.2.1 h4 eT hok (RC_p hR) h58 hl
    refine ⟨x33, y40, x54, x55, x56, x57, x58, y59, ?_, h, fun _ _ => rfl⟩
    unfold fX3_keepIfBetter_2 fX3_keepIfBetter_2_0
    rw [if_pos (by decide), e, bd2_s]
  · have hdn : 2 < n := by omega
    have pw : bs ^ (n - 2) = bs * bs ^ (n - 3) := by rw [show n - 2 = n - 3 + 1 by omega, Nat.pow_succ, Nat.mul_comm]
    rw [pw, ← Nat.mul_assoc] at hl
    rw [pw, ← Nat.mul_assoc, show (p + 1) * bs = p * bs + bs by rw [Nat.add_mul, Nat.one_mul]]
    obtain ⟨o33, o40, o54, o55, o56, o57, o58, o59, eg, hg, h58g⟩ := goN_2 (x33 := x33) (x54 := x54) (x55 := x55) (x56 := x56) (x57 := x57) (k := 0) rfl hb0 hdn hn3 hbs hV hB hT eT hok hR h58 (by rw [Nat.add_zero]; exact hl)
    rw [Nat.add_zero] at hg
    have hno : ¬ nI n ≤ (2 : Int32) := nI_ge (a := 2) hdn (by omega)
    have s1 : x50 1 = nI (T 1) := hR.1 1 (by omega)
    have hVT : VD H M (B + 2) T := by rw [eT]; exact rw2_V hT.2.1 hM hV
    have s99 : T 1 ≤ 99 := hVT.2.2.2.2.1
    rw [if_neg hno, eg, bd8_s, s1]
    by_cases s0 : 0 < T 1
    · rw [if_pos (show (0 : Int32) < nI (T 1) from nI_lt (a := 0) s0 (by omega))]
      unfold fX3_search_2_39
      refine loop10 (fX3_search_2_39b x17 x18 x50 x51 x52 x53) (fun m v2 v3 _ w40 _ _ _ _ w58 w59 => ∃ a l, a + m = M ∧ v2 = nI n ∧ v3 = nI a ∧ pls M M 0 = l ++ pls M m a ∧ (∀ j, j < 2 → w58 j = oc (ops M bs 2 p j)) ∧ LSt H M K N q S n bs ((p * bs + 1 + l.length) * bs ^ (n - 3)) w40 w59) (fun o => ∃ o33 o40 o54 o55 o56 o57 o58 o59, o = some (o33, o40, o54, o55, o56, o57, o58, o59) ∧ LSt H M K N q S n bs ((p * bs + bs) * bs ^ (n - 3)) o40 o59 ∧ ∀ j, j < 2 → o58 j = x58 j) ?_ ?_ M 5000 _ _ _ _ _ _ _ _ _ _ (by omega) ⟨0, [], by omega, rfl, rfl, rfl, fun j hj => (h58g j hj).trans (h58 j hj), hg⟩
      · rintro k m _ _ w33 w40 w54 w55 w56 w57 w58 w59 ⟨a, l, ha, rfl, rfl, e, h58', hl'⟩
        have e2 : pls M M 0 = (l ++ prw a (M - (a + 1)) (a + 1)) ++ pls M m (a + 1) := by rw [e, List.append_assoc]; rfl
        obtain ⟨u33, u40, u54, u55, u56, u57, u58, u59, ei, hi, h58i⟩ := in_2 (x33 := w33) (x54 := w54) (x55 := w55) (x56 := w56) (x57 := w57) (x58 := w58) hdn hn3 hbs hV hB hT eT hok hR s0 (show a < M by omega) rfl e2 h58' hl' k
        refine Or.inl ⟨nI n, nI (a + 1), u33, u40, u54, u55, u56, u57, u58, u59, ⟨a + 1, l ++ prw a (M - (a + 1)) (a + 1), by omega, rfl, rfl, e2, h58i, hi⟩, Eq.trans ?_ ei⟩
        unfold fX3_search_2_39b
        rw [h4, if_neg (nI_ge (show a < M by omega) (by omega)), bn_s, nI_1]
      · rintro k _ _ w33 w40 w54 w55 w56 w57 w58 w59 ⟨a, l, ha, rfl, rfl, e, h58', hl'⟩
        have e' : pls M M 0 = l := by rw [e]; exact List.append_nil _
        refine ⟨w33, w40, w54, w55, w56, w57, w58, w59, ?_, by rw [← e', show p * bs + 1 + (pls M M 0).length = p * bs + bs by omega] at hl'; exact hl', fun j hj => (h58' j hj).trans (h58 j hj).symm⟩
        unfold fX3_search_2_39b
        rw [h4, if_pos (nI_le (by omega) (by omega))]
    · rw [if_neg (show ¬ (0 : Int32) < nI (T 1) from nI_nlt (a := 0) (by omega) (by omega))]
      have all : ∀ k, k < bs → rb H M K N q S n bs ((p * bs + 1 + k) * bs ^ (n - 3)) = rb H M K N q S n bs ((p * bs + 1) * bs ^ (n - 3)) := by
        intro k
        induction k with
        | zero => intro _; rw [Nat.add_zero]
        | succ k ih =>
          intro hk
          rw [← ih (by omega)]
          have hff : feas T (opt M (k + 1)) = false := by
            unfold opt
            rw [if_neg (by omega), show k + 1 - 1 = k by omega, List.getElem?_eq_getElem (show k < (pls M M 0).length by omega)]
            unfold feas
            simp only [decide_eq_false s0, Bool.false_and]
          have up := rw2_up (H := H) (M := M) (K := K) (N := N) (q := q) (S := S) (d := 2) (p := p) hk
          rw [← eT, hff, Bool.and_false] at up
          have sk := rb_skip' (n := n) (d := 3) (H := H) (M := M) (K := K) (N := N) (q := q) (S := S) (by omega) hb0 (show (rw2 H M K N q S 3 bs (p * bs + (k + 1))).2 = false by rw [up])
          rw [show p * bs + 1 + (k + 1) = p * bs + (k + 1) + 1 by omega, sk, show p * bs + 1 + k = p * bs + (k + 1) by omega]
      have h2 := LS_eq (all (bs - 1) (by omega)).symm hg
      rw [show p * bs + 1 + (bs - 1) = p * bs + bs by omega] at h2
      exact ⟨o33, o40, o54, o55, o56, o57, o58, o59, rfl, h2, h58g⟩
theorem goN_1 {n bs p k : Nat} {T : SN} {x17 x18 x33 x40 x46 x47 x48 x49 x50 x51 x52 x53 x54 x55 x56 x57 x58 x59 : Nat → Int32} (hk0 : opt M k = none) (hkb : k < bs) (hn : 1 < n) (hn3 : n ≤ 3) (hbs : bs = (pls M M 0).length + 1) (hV : VD H M B S) (hB : B ≤ 999) (hT : TC H M K N q x17 x18) (eT : T = (rw2 H M K N q S 1 bs p).1) (hok : (rw2 H M K N q S 1 bs p).2 = true) (hR : RC T x46 x47 x48 x49) (h58 : ∀ j, j < 1 → x58 j = oc (ops M bs 1 p j)) (hl : LSt H M K N q S n bs ((p * bs + k) * bs ^ (n - 2)) x40 x59) : ∃ o33 o40 o50 o51 o52 o53 o54 o55 o56 o57 o58 o59, fX3_goOn_1 x17 x18 x46 x47 x48 x49 (nI n) (-1) (-1) x33 x40 x50 x51 x52 x53 x54 x55 x56 x57 x58 x59 = some (o33, o40, o50, o51, o52, o53, o54, o55, o56, o57, o58, o59) ∧ LSt H M K N q S n bs ((p * bs + k + 1) * bs ^ (n - 2)) o40 o59 ∧ ∀ j, j < 1 → o58 j = x58 j := by
  have hM := hV.1.1
  have hVT : VD H M (B + 1) T := by rw [eT]; exact rw2_V hT.2.1 hM hV
  obtain ⟨c0, c1, c2, c3, ec, hc⟩ := p_copy (y0 := x50) (y1 := x51) (y2 := x52) (y3 := x53) hR
  obtain ⟨r, z0, z1, z2, z3, z33, em, hz, ht, eh⟩ := rowN (x33 := x33) hVT (by omega) hT hc
  rw [eh, bd1_s] at em
  have up := rw2_up (H := H) (M := M) (K := K) (N := N) (q := q) (S := S) (d := 1) (p := p) hkb
  rw [hk0, hok, ← eT, Bool.true_and, show feas T none = true from rfl, if_pos rfl] at up
  have h58n : ∀ j, j < 2 → (upd x58 1 (-1)) j = oc (ops M bs 2 (p * bs + k) j) := fun j hj => by
    by_cases e : j = 1
    · rw [e, pk_us]
      unfold ops
      rw [dgt_last hkb, hk0]
      rfl
    · rw [pk_un e, h58 j (by omega)]
      unfold ops
      rw [dgt_up hkb (by omega)]
  obtain ⟨o33, o40, o54, o55, o56, o57, o58, o59, es, hs, h58s⟩ := s_2 (x50 := z0) (x51 := z1) (x52 := z2) (x53 := z3) (x54 := x54) (x55 := x55) (x56 := x56) (x57 := x57) (x33 := z33) (x58 := upd x58 1 (-1)) (p := p * bs + k) (show 2 ≤ n by omega) hn3 hbs hV hB hT (by rw [up]) (by rw [up]) hz h58n hl
  refine ⟨o33, o40, z0, z1, z2, z3, o54, o55, o56, o57, o58, o59, ?_, hs, fun j hj => by rw [h58s j (by omega), pk_un (by omega)]⟩
  unfold fX3_goOn_1 fX3_goOn_1_0 fX3_goOn_1_53
  rw [ec, bd4_s, gd_t (by decide), if_pos (by decide), eh, bd1_s, em, bd6_s, n1', es, bd8_s]
theorem goP_1 {n bs p k : Nat} {T : SN} {x17 x18 x33 x40 x46 x47 x48 x49 x50 x51 x52 x53 x54 x55 x56 x57 x58 x59 : Nat → Int32} {a b : Nat} (hk0 : opt M k = some (a, b)) (hf : feas T (some (a, b)) = true) (hkb : k < bs) (hn : 1 < n) (hn3 : n ≤ 3) (hbs : bs = (pls M M 0).length + 1) (hV : VD H M B S) (hB : B ≤ 999) (hT : TC H M K N q x17 x18) (eT : T = (rw2 H M K N q S 1 bs p).1) (hok : (rw2 H M K N q S 1 bs p).2 = true) (hR : RC T x46 x47 x48 x49) (h58 : ∀ j, j < 1 → x58 j = oc (ops M bs 1 p j)) (hl : LSt H M K N q S n bs ((p * bs + k) * bs ^ (n - 2)) x40 x59) : ∃ o33 o40 o50 o51 o52 o53 o54 o55 o56 o57 o58 o59, fX3_goOn_1 x17 x18 x46 x47 x48 x49 (nI n) (nI a) (nI b) x33 x40 x50 x51 x52 x53 x54 x55 x56 x57 x58 x59 = some (o33, o40, o50, o51, o52, o53, o54, o55, o56, o57, o58, o59) ∧ LSt H M K N q S n bs ((p * bs + k + 1) * bs ^ (n - 2)) o40 o59 ∧ ∀ j, j < 1 → o58 j = x58 j := by
  have hM := hV.1.1
  have hVT : VD H M (B + 1) T := by rw [eT]; exact rw2_V hT.2.1 hM hV
  obtain ⟨c0, c1, c2, c3, ec, hc⟩ := p_copy (y0 := x50) (y1 := x51) (y2 := x52) (y3 := x53) hR
  have ho : opV M (some (a, b)) := by rw [← hk0]; exact opt_V hM
  obtain ⟨v0, v3, ev, r, z0, z1, z2, z3, z33, em, hz, ht, eh⟩ := rowP (x33 := x33) hVT (by omega) hT hc hf ho
  rw [eh, bd1_s] at em
  have up := rw2_up (H := H) (M := M) (K := K) (N := N) (q := q) (S := S) (d := 1) (p := p) hkb
  rw [hk0, hok, ← eT, Bool.true_and, show feas T (some (a, b)) = true from hf, if_pos rfl] at up
  have h58n : ∀ j, j < 2 → (upd (upd x58 1 (-1)) 1 (nI (8 * a + b))) j = oc (ops M bs 2 (p * bs + k) j) := fun j hj => by
    by_cases e : j = 1
    · rw [e, pk_us]
      unfold ops
      rw [dgt_last hkb, hk0]
      rfl
    · rw [pk_un e, pk_un e, h58 j (by omega)]
      unfold ops
      rw [dgt_up hkb (by omega)]
  obtain ⟨o33, o40, o54, o55, o56, o57, o58, o59, es, hs, h58s⟩ := s_2 (x50 := z0) (x51 := z1) (x52 := z2) (x53 := z3) (x54 := x54) (x55 := x55) (x56 := x56) (x57 := x57) (x33 := z33) (x58 := upd (upd x58 1 (-1)) 1 (nI (8 * a + b))) (p := p * bs + k) (show 2 ≤ n by omega) hn3 hbs hV hB hT (by rw [up]) (by rw [up]) hz h58n hl
  refine ⟨o33, o40, z0, z1, z2, z3, o54, o55, o56, o57, o58, o59, ?_, hs, fun j hj => by rw [h58s j (by omega), pk_un (by omega), pk_un (by omega)]⟩
  unfold fX3_goOn_1 fX3_goOn_1_0 fX3_goOn_1_53
  rw [ec, bd4_s, gd_t (by decide), if_neg (nI_pos (by have : a < b ∧ b < M := ho; omega)), ev, bd2_s, gd_t (by decide), eh, bd1_s, em, bd6_s, n1', zI8, pk_mul, nI_add, es, bd8_s]
theorem in_1 {n bs p a : Nat} {T : SN} {l tot rest : List (Nat × Nat)} {x17 x18 x33 x40 x46 x47 x48 x49 x50 x51 x52 x53 x54 x55 x56 x57 x58 x59 : Nat → Int32} (hn : 1 < n) (hn3 : n ≤ 3) (hbs : bs = (pls M M 0).length + 1) (hV : VD H M B S) (hB : B ≤ 999) (hT : TC H M K N q x17 x18) (eT : T = (rw2 H M K N q S 1 bs p).1) (hok : (rw2 H M K N q S 1 bs p).2 = true) (hR : RC T x46 x47 x48 x49) (hs0 : 0 < T 1) (ha : a < M) (htot : tot = l ++ prw a (M - (a + 1)) (a + 1)) (hpl : pls M M 0 = tot ++ rest) (h58 : ∀ j, j < 1 → x58 j = oc (ops M bs 1 p j)) (hl : LSt H M K N q S n bs ((p * bs + 1 + l.length) * bs ^ (n - 2)) x40 x59) (k39 : Int32 → Int32 → (Nat → Int32) → (Nat → Int32) → (Nat → Int32) → (Nat → Int32) → (Nat → Int32) → (Nat → Int32) → (Nat → Int32) → (Nat → Int32) → (Nat → Int32) → (Nat → Int32) → (Nat → Int32) → (Nat → Int32) → Option ((Nat → Int32) × (Nat → Int32) × (Nat → Int32) × (Nat → Int32) × (Nat → Int32) × (Nat → Int32) × (Nat → Int32) × (Nat → Int32) × (Nat → Int32) × (Nat → Int32) × (Nat → Int32) × (Nat → Int32))) : ∃ o33 o40 o50 o51 o52 o53 o54 o55 o56 o57 o58 o59, fX3_search_1_58 x17 x18 x46 x47 x48 x49 k39 (nI n) (nI a) (nI (a + 1)) x33 x40 x50 x51 x52 x53 x54 x55 x56 x57 x58 x59 = k39 (nI n) (nI (a + 1)) o33 o40 o50 o51 o52 o53 o54 o55 o56 o57 o58 o59 ∧ LSt H M K N q S n bs ((p * bs + 1 + tot.length) * bs ^ (n - 2)) o40 o59 ∧ ∀ j, j < 1 → o58 j = oc (ops M bs 1 p j) := by
  obtain ⟨hM, hH5, hH, hgr, hr0, hf9, hf0, hfr⟩ := id hV.1
  have hVT : VD H M (B + 1) T := by rw [eT]; exact rw2_V hT.2.1 hM hV
  have h4 := hT.2.2.2.2.2.1
  have h9 := fun a b ha hb => (hVT.1.2.2.2.2.2.1 a b ha hb).1
  have hb0 : 0 < bs := by omega
  unfold fX3_search_1_58
  refine loop15 (fX3_search_1_58b x17 x18 x46 x47 x48 x49 k39) (fun m v2 v3 v4 _ w40 _ _ _ _ _ _ _ _ w58 w59 => ∃ b l', b + m = M ∧ a < b ∧ v2 = nI n ∧ v3 = nI a ∧ v4 = nI b ∧ tot = l' ++ prw a m b ∧ (∀ j, j < 1 → w58 j = oc (ops M bs 1 p j)) ∧ LSt H M K N q S n bs ((p * bs + 1 + l'.length) * bs ^ (n - 2)) w40 w59) (fun o => ∃ o33 o40 o50 o51 o52 o53 o54 o55 o56 o57 o58 o59, o = k39 (nI n) (nI (a + 1)) o33 o40 o50 o51 o52 o53 o54 o55 o56 o57 o58 o59 ∧ LSt H M K N q S n bs ((p * bs + 1 + tot.length) * bs ^ (n - 2)) o40 o59 ∧ ∀ j, j < 1 → o58 j = oc (ops M bs 1 p j)) ?_ ?_ (M - (a + 1)) 5000 _ _ _ _ _ _ _ _ _ _ _ _ _ _ _ (by omega) ⟨a + 1, l, by omega, by omega, rfl, rfl, rfl, htot, h58, hl⟩
  · rintro k m _ _ _ w33 w40 w50 w51 w52 w53 w54 w55 w56 w57 w58 w59 ⟨b, l', hb, hab, rfl, rfl, rfl, e, h58', hl'⟩
    have ha6 : a < 6 := by omega
    have hb6 : b < 6 := by omega
    have ek : pls M M 0 = (l' ++ [(a, b)]) ++ (prw a m (b + 1) ++ rest) := by rw [hpl, e, List.append_assoc, List.append_assoc]; rfl
    have hlen : l'.length + 1 < bs := by
      have := congrArg List.length ek
      rw [List.length_append, List.length_append] at this
      have h1 : [(a, b)].length = 1 := rfl
      omega
    have hopt : opt M (l'.length + 1) = some (a, b) := by
      unfold opt
      rw [if_neg (by omega), show l'.length + 1 - 1 = l'.length by omega, ek, List.getElem?_append_left (by rw [List.length_append]; exact Nat.lt_succ_self _), List.getElem?_append_right (Nat.le_refl _), Nat.sub_self]
      rfl
    have e2 : tot = (l' ++ [(a, b)]) ++ prw a m (b + 1) := by rw [e, List.append_assoc]; rfl
    have hl2 : LSt H M K N q S n bs ((p * bs + (l'.length + 1)) * bs ^ (n - 2)) w40 w59 := by rw [show p * bs + (l'.length + 1) = p * bs + 1 + l'.length by omega]; exact hl'
    rcases p_can (RC_h hR) h9 ha6 hb6 with ⟨c, e3, _⟩ | ⟨c, e3, _⟩
    · obtain ⟨u33, u40, u50, u51, u52, u53, u54, u55, u56, u57, u58, u59, eg, hg, h58g⟩ := goP_1 (x33 := w33) (x50 := w50) (x51 := w51) (x52 := w52) (x53 := w53) (x54 := w54) (x55 := w55) (x56 := w56) (x57 := w57) (x58 := w58) hopt (by unfold feas; simp; exact ⟨hs0, c.1, c.2⟩) hlen hn hn3 hbs hV hB hT eT hok hR h58' hl2
      refine Or.inl ⟨nI n, nI a, nI (b + 1), u33, u40, u50, u51, u52, u53, u54, u55, u56, u57, u58, u59, ⟨b + 1, l' ++ [(a, b)], by omega, by omega, rfl, rfl, rfl, e2, fun j hj => (h58g j hj).trans (h58' j hj), ?_⟩, ?_⟩
      · rw [List.length_append, show p * bs + 1 + (l'.length + [(a, b)].length) = p * bs + (l'.length + 1) + 1 from by have h1 : [(a, b)].length = 1 := rfl; omega]; exact hg
      · unfold fX3_search_1_58b fX3_search_1_97
        rw [h4, if_neg (nI_ge (show b < M by omega) (by omega)), e3, bd1_s, if_neg (show ¬ nI 1 = (0 : Int32) from one_ne), eg, bd12_s, bn_s, nI_1]
    · have hff : feas T (some (a, b)) = false := by
        unfold feas
        rw [Bool.and_eq_false_iff]
        right
        rw [Bool.and_eq_false_iff]
        by_cases c1 : 0 < sHd T a b
        · right; exact decide_eq_false fun c2 => c ⟨c1, c2⟩
        · left; exact decide_eq_false c1
      have up := rw2_up (H := H) (M := M) (K := K) (N := N) (q := q) (S := S) (d := 1) (p := p) hlen
      rw [hopt, ← eT, hff, Bool.and_false] at up
      have sk := rb_skip' (n := n) (d := 2) (H := H) (M := M) (K := K) (N := N) (q := q) (S := S) (by omega) hb0 (by rw [up])
      refine Or.inl ⟨nI n, nI a, nI (b + 1), w33, w40, w50, w51, w52, w53, w54, w55, w56, w57, w58, w59, ⟨b + 1, l' ++ [(a, b)], by omega, by omega, rfl, rfl, rfl, e2, h58', ?_⟩, ?_⟩
      · rw [List.length_append, show p * bs + 1 + (l'.length + [(a, b)].length) = p * bs + (l'.length + 1) + 1 from by have h1 : [(a, b)].length = 1 := rfl; omega]; exact LS_eq sk.symm hl2
      · unfold fX3_search_1_58b fX3_search_1_97
        rw [h4, if_neg (nI_ge (show b < M by omega) (by omega)), e3, bd1_s, if_pos z00, bn_s, nI_1]
  · rintro k _ _ _ w33 w40 w50 w51 w52 w53 w54 w55 w56 w57 w58 w59 ⟨b, l', hb, hab, rfl, rfl, rfl, e, h58', hl'⟩
    have e' : tot = l' := by rw [e]; exact List.append_nil _
    refine ⟨w33, w40, w50, w51, w52, w53, w54, w55, w56, w57, w58, w59, ?_, by rw [e']; exact hl', h58'⟩
    unfold fX3_search_1_58b
    rw [h4, if_pos (nI_le (by omega) (by omega)), bn_s, nI_1]
theorem s_1 {n bs p : Nat} {T : SN} {x17 x18 x33 x40 x46 x47 x48 x49 x50 x51 x52 x53 x54 x55 x56 x57 x58 x59 : Nat → Int32} (hn : 1 ≤ n) (hn3 : n ≤ 3) (hbs : bs = (pls M M 0).length + 1) (hV : VD H M B S) (hB : B ≤ 999) (hT : TC H M K N q x17 x18) (eT : T = (rw2 H M K N q S 1 bs p).1) (hok : (rw2 H M K N q S 1 bs p).2 = true) (hR : RC T x46 x47 x48 x49) (h58 : ∀ j, j < 1 → x58 j = oc (ops M bs 1 p j)) (hl : LSt H M K N q S n bs (p * bs ^ (n - 1)) x40 x59) : ∃ o33 o40 o50 o51 o52 o53 o54 o55 o56 o57 o58 o59, fX3_search_1 x17 x18 x46 x47 x48 x49 (nI n) x33 x40 x50 x51 x52 x53 x54 x55 x56 x57 x58 x59 = some (o33, o40, o50, o51, o52, o53, o54, o55, o56, o57, o58, o59) ∧ LSt H M K N q S n bs ((p + 1) * bs ^ (n - 1)) o40 o59 ∧ ∀ j, j < 1 → o58 j = x58 j := by
  have hM := hV.1.1
  have h4 := hT.2.2.2.2.2.1
  have hb0 : 0 < bs := by omega
  unfold fX3_search_1 fX3_search_1_0
  by_cases hd : n = 1
  · subst hd
    rw [Nat.sub_self, Nat.pow_zero, Nat.mul_one] at hl
    rw [Nat.sub_self, Nat.pow_zero, Nat.mul_one]
    obtain ⟨y40, y59, e, h⟩ := keep_ls (x47 := x47) hn3 hV hT.2.1 h4 eT hok (RC_p hR) h58 hl
    refine ⟨x33, y40, x50, x51, x52, x53, x54, x55, x56, x57, x58, y59, ?_, h, fun _ _ => rfl⟩
    unfold fX3_keepIfBetter_1 fX3_keepIfBetter_1_0
    rw [if_pos (by decide), e, bd2_s]
  · have hdn : 1 < n := by omega
    have pw : bs ^ (n - 1) = bs * bs ^ (n - 2) := by rw [show n - 1 = n - 2 + 1 by omega, Nat.pow_succ, Nat.mul_comm]
    rw [pw, ← Nat.mul_assoc] at hl
    rw [pw, ← Nat.mul_assoc, show (p + 1) * bs = p * bs + bs by rw [Nat.add_mul, Nat.one_mul]]
    obtain ⟨o33, o40, o50, o51, o52, o53, o54, o55, o56, o57, o58, o59, eg, hg, h58g⟩ := goN_1 (x33 := x33) (x50 := x50) (x51 := x51) (x52 := x52) (x53 := x53) (x54 := x54) (x55 := x55) (x56 := x56) (x57 := x57) (k := 0) rfl hb0 hdn hn3 hbs hV hB hT eT hok hR h58 (by rw [Nat.add_zero]; exact hl)
    rw [Nat.add_zero] at hg
    have hno : ¬ nI n ≤ (1 : Int32) := nI_ge (a := 1) hdn (by omega)
    have s1 : x46 1 = nI (T 1) := hR.1 1 (by omega)
    have hVT : VD H M (B + 1) T := by rw [eT]; exact rw2_V hT.2.1 hM hV
    have s99 : T 1 ≤ 99 := hVT.2.2.2.2.1
    rw [if_neg hno, eg, bd12_s, s1]
    by_cases s0 : 0 < T 1
    · rw [if_pos (show (0 : Int32) < nI (T 1) from nI_lt (a := 0) s0 (by omega))]
      unfold fX3_search_1_39
      refine loop14 (fX3_search_1_39b x17 x18 x46 x47 x48 x49) (fun m v2 v3 _ w40 _ _ _ _ _ _ _ _ w58 w59 => ∃ a l, a + m = M ∧ v2 = nI n ∧ v3 = nI a ∧ pls M M 0 = l ++ pls M m a ∧ (∀ j, j < 1 → w58 j = oc (ops M bs 1 p j)) ∧ LSt H M K N q S n bs ((p * bs + 1 + l.length) * bs ^ (n - 2)) w40 w59) (fun o => ∃ o33 o40 o50 o51 o52 o53 o54 o55 o56 o57 o58 o59, o = some (o33, o40, o50, o51, o52, o53, o54, o55, o56, o57, o58, o59) ∧ LSt H M K N q S n bs ((p * bs + bs) * bs ^ (n - 2)) o40 o59 ∧ ∀ j, j < 1 → o58 j = x58 j) ?_ ?_ M 5000 _ _ _ _ _ _ _ _ _ _ _ _ _ _ (by omega) ⟨0, [], by omega, rfl, rfl, rfl, fun j hj => (h58g j hj).trans (h58 j hj), hg⟩
      · rintro k m _ _ w33 w40 w50 w51 w52 w53 w54 w55 w56 w57 w58 w59 ⟨a, l, ha, rfl, rfl, e, h58', hl'⟩
        have e2 : pls M M 0 = (l ++ prw a (M - (a + 1)) (a + 1)) ++ pls M m (a + 1) := by rw [e, List.append_assoc]; rfl
        obtain ⟨u33, u40, u50, u51, u52, u53, u54, u55, u56, u57, u58, u59, ei, hi, h58i⟩ := in_1 (x33 := w33) (x50 := w50) (x51 := w51) (x52 := w52) (x53 := w53) (x54 := w54) (x55 := w55) (x56 := w56) (x57 := w57) (x58 := w58) hdn hn3 hbs hV hB hT eT hok hR s0 (show a < M by omega) rfl e2 h58' hl' k
        refine Or.inl ⟨nI n, nI (a + 1), u33, u40, u50, u51, u52, u53, u54, u55, u56, u57, u58, u59, ⟨a + 1, l ++ prw a (M - (a + 1)) (a + 1), by omega, rfl, rfl, e2, h58i, hi⟩, Eq.trans ?_ ei⟩
        unfold fX3_search_1_39b
        rw [h4, if_neg (nI_ge (show a < M by omega) (by omega)), bn_s, nI_1]
      · rintro k _ _ w33 w40 w50 w51 w52 w53 w54 w55 w56 w57 w58 w59 ⟨a, l, ha, rfl, rfl, e, h58', hl'⟩
        have e' : pls M M 0 = l := by rw [e]; exact List.append_nil _
        refine ⟨w33, w40, w50, w51, w52, w53, w54, w55, w56, w57, w58, w59, ?_, by rw [← e', show p * bs + 1 + (pls M M 0).length = p * bs + bs by omega] at hl'; exact hl', fun j hj => (h58' j hj).trans (h58 j hj).symm⟩
        unfold fX3_search_1_39b
        rw [h4, if_pos (nI_le (by omega) (by omega))]
    · rw [if_neg (show ¬ (0 : Int32) < nI (T 1) from nI_nlt (a := 0) (by omega) (by omega))]
      have all : ∀ k, k < bs → rb H M K N q S n bs ((p * bs + 1 + k) * bs ^ (n - 2)) = rb H M K N q S n bs ((p * bs + 1) * bs ^ (n - 2)) := by
        intro k
        induction k with
        | zero => intro _; rw [Nat.add_zero]
        | succ k ih =>
          intro hk
          rw [← ih (by omega)]
          have hff : feas T (opt M (k + 1)) = false := by
            unfold opt
            rw [if_neg (by omega), show k + 1 - 1 = k by omega, List.getElem?_eq_getElem (show k < (pls M M 0).length by omega)]
            unfold feas
            simp only [decide_eq_false s0, Bool.false_and]
          have up := rw2_up (H := H) (M := M) (K := K) (N := N) (q := q) (S := S) (d := 1) (p := p) hk
          rw [← eT, hff, Bool.and_false] at up
          have sk := rb_skip' (n := n) (d := 2) (H := H) (M := M) (K := K) (N := N) (q := q) (S := S) (by omega) hb0 (show (rw2 H M K N q S 2 bs (p * bs + (k + 1))).2 = false by rw [up])
          rw [show p * bs + 1 + (k + 1) = p * bs + (k + 1) + 1 by omega, sk, show p * bs + 1 + k = p * bs + (k + 1) by omega]
      have h2 := LS_eq (all (bs - 1) (by omega)).symm hg
      rw [show p * bs + 1 + (bs - 1) = p * bs + bs by omega] at h2
      exact ⟨o33, o40, o50, o51, o52, o53, o54, o55, o56, o57, o58, o59, rfl, h2, h58g⟩
theorem goN_0 {n bs p k : Nat} {T : SN} {x17 x18 x33 x40 x42 x43 x44 x45 x46 x47 x48 x49 x50 x51 x52 x53 x54 x55 x56 x57 x58 x59 : Nat → Int32} (hk0 : opt M k = none) (hkb : k < bs) (hn : 0 < n) (hn3 : n ≤ 3) (hbs : bs = (pls M M 0).length + 1) (hV : VD H M B S) (hB : B ≤ 999) (hT : TC H M K N q x17 x18) (eT : T = (rw2 H M K N q S 0 bs p).1) (hok : (rw2 H M K N q S 0 bs p).2 = true) (hR : RC T x42 x43 x44 x45) (h58 : ∀ j, j < 0 → x58 j = oc (ops M bs 0 p j)) (hl : LSt H M K N q S n bs ((p * bs + k) * bs ^ (n - 1)) x40 x59) : ∃ o33 o40 o46 o47 o48 o49 o50 o51 o52 o53 o54 o55 o56 o57 o58 o59, fX3_goOn_0 x17 x18 x42 x43 x44 x45 (nI n) (-1) (-1) x33 x40 x46 x47 x48 x49 x50 x51 x52 x53 x54 x55 x56 x57 x58 x59 = some (o33, o40, o46, o47, o48, o49, o50, o51, o52, o53, o54, o55, o56, o57, o58, o59) ∧ LSt H M K N q S n bs ((p * bs + k + 1) * bs ^ (n - 1)) o40 o59 ∧ ∀ j, j < 0 → o58 j = x58 j := by
  have hM := hV.1.1
  have hVT : VD H M (B + 0) T := by rw [eT]; exact rw2_V hT.2.1 hM hV
  obtain ⟨c0, c1, c2, c3, ec, hc⟩ := p_copy (y0 := x46) (y1 := x47) (y2 := x48) (y3 := x49) hR
  obtain ⟨r, z0, z1, z2, z3, z33, em, hz, ht, eh⟩ := rowN (x33 := x33) hVT (by omega) hT hc
  rw [eh, bd1_s] at em
  have up := rw2_up (H := H) (M := M) (K := K) (N := N) (q := q) (S := S) (d := 0) (p := p) hkb
  rw [hk0, hok, ← eT, Bool.true_and, show feas T none = true from rfl, if_pos rfl] at up
  have h58n : ∀ j, j < 1 → (upd x58 0 (-1)) j = oc (ops M bs 1 (p * bs + k) j) := fun j hj => by
    by_cases e : j = 0
    · rw [e, pk_us]
      unfold ops
      rw [dgt_last hkb, hk0]
      rfl
    · rw [pk_un e, h58 j (by omega)]
      unfold ops
      rw [dgt_up hkb (by omega)]
  obtain ⟨o33, o40, o50, o51, o52, o53, o54, o55, o56, o57, o58, o59, es, hs, h58s⟩ := s_1 (x46 := z0) (x47 := z1) (x48 := z2) (x49 := z3) (x50 := x50) (x51 := x51) (x52 := x52) (x53 := x53) (x54 := x54) (x55 := x55) (x56 := x56) (x57 := x57) (x33 := z33) (x58 := upd x58 0 (-1)) (p := p * bs + k) (show 1 ≤ n by omega) hn3 hbs hV hB hT (by rw [up]) (by rw [up]) hz h58n hl
  refine ⟨o33, o40, z0, z1, z2, z3, o50, o51, o52, o53, o54, o55, o56, o57, o58, o59, ?_, hs, fun j hj => by rw [h58s j (by omega), pk_un (by omega)]⟩
  unfold fX3_goOn_0 fX3_goOn_0_0 fX3_goOn_0_53
  rw [ec, bd4_s, gd_t (by decide), if_pos (by decide), eh, bd1_s, em, bd6_s, n0', es, bd12_s]
theorem goP_0 {n bs p k : Nat} {T : SN} {x17 x18 x33 x40 x42 x43 x44 x45 x46 x47 x48 x49 x50 x51 x52 x53 x54 x55 x56 x57 x58 x59 : Nat → Int32} {a b : Nat} (hk0 : opt M k = some (a, b)) (hf : feas T (some (a, b)) = true) (hkb : k < bs) (hn : 0 < n) (hn3 : n ≤ 3) (hbs : bs = (pls M M 0).length + 1) (hV : VD H M B S) (hB : B ≤ 999) (hT : TC H M K N q x17 x18) (eT : T = (rw2 H M K N q S 0 bs p).1) (hok : (rw2 H M K N q S 0 bs p).2 = true) (hR : RC T x42 x43 x44 x45) (h58 : ∀ j, j < 0 → x58 j = oc (ops M bs 0 p j)) (hl : LSt H M K N q S n bs ((p * bs + k) * bs ^ (n - 1)) x40 x59) : ∃ o33 o40 o46 o47 o48 o49 o50 o51 o52 o53 o54 o55 o56 o57 o58 o59, fX3_goOn_0 x17 x18 x42 x43 x44 x45 (nI n) (nI a) (nI b) x33 x40 x46 x47 x48 x49 x50 x51 x52 x53 x54 x55 x56 x57 x58 x59 = some (o33, o40, o46, o47, o48, o49, o50, o51, o52, o53, o54, o55, o56, o57, o58, o59) ∧ LSt H M K N q S n bs ((p * bs + k + 1) * bs ^ (n - 1)) o40 o59 ∧ ∀ j, j < 0 → o58 j = x58 j := by
  have hM := hV.1.1
  have hVT : VD H M (B + 0) T := by rw [eT]; exact rw2_V hT.2.1 hM hV
  obtain ⟨c0, c1, c2, c3, ec, hc⟩ := p_copy (y0 := x46) (y1 := x47) (y2 := x48) (y3 := x49) hR
  have ho : opV M (some (a, b)) := by rw [← hk0]; exact opt_V hM
  obtain ⟨v0, v3, ev, r, z0, z1, z2, z3, z33, em, hz, ht, eh⟩ := rowP (x33 := x33) hVT (by omega) hT hc hf ho
  rw [eh, bd1_s] at em
  have up := rw2_up (H := H) (M := M) (K := K) (N := N) (q := q) (S := S) (d := 0) (p := p) hkb
  rw [hk0, hok, ← eT, Bool.true_and, show feas T (some (a, b)) = true from hf, if_pos rfl] at up
  have h58n : ∀ j, j < 1 → (upd (upd x58 0 (-1)) 0 (nI (8 * a + b))) j = oc (ops M bs 1 (p * bs + k) j) := fun j hj => by
    by_cases e : j = 0
    · rw [e, pk_us]
      unfold ops
      rw [dgt_last hkb, hk0]
      rfl
    · rw [pk_un e, pk_un e, h58 j (by omega)]
      unfold ops
      rw [dgt_up hkb (by omega)]
  obtain ⟨o33, o40, o50, o51, o52, o53, o54, o55, o56, o57, o58, o59, es, hs, h58s⟩ := s_1 (x46 := z0) (x47 := z1) (x48 := z2) (x49 := z3) (x50 := x50) (x51 := x51) (x52 := x52) (x53 := x53) (x54 := x54) (x55 := x55) (x56 := x56) (x57 := x57) (x33 := z33) (x58 := upd (upd x58 0 (-1)) 0 (nI (8 * a + b))) (p := p * bs + k) (show 1 ≤ n by omega) hn3 hbs hV hB hT (by rw [up]) (by rw [up]) hz h58n hl
  refine ⟨o33, o40, z0, z1, z2, z3, o50, o51, o52, o53, o54, o55, o56, o57, o58, o59, ?_, hs, fun j hj => by rw [h58s j (by omega), pk_un (by omega), pk_un (by omega)]⟩
  unfold fX3_goOn_0 fX3_goOn_0_0 fX3_goOn_0_53
  rw [ec, bd4_s, gd_t (by decide), if_neg (nI_pos (by have : a < b ∧ b < M := ho; omega)), ev, bd2_s, gd_t (by decide), eh, bd1_s, em, bd6_s, n0', zI8, pk_mul, nI_add, es, bd12_s]
theorem in_0 {n bs p a : Nat} {T : SN} {l tot rest : List (Nat × Nat)} {x17 x18 x33 x40 x42 x43 x44 x45 x46 x47 x48 x49 x50 x51 x52 x53 x54 x55 x56 x57 x58 x59 : Nat → Int32} (hn : 0 < n) (hn3 : n ≤ 3) (hbs : bs = (pls M M 0).length + 1) (hV : VD H M B S) (hB : B ≤ 999) (hT : TC H M K N q x17 x18) (eT : T = (rw2 H M K N q S 0 bs p).1) (hok : (rw2 H M K N q S 0 bs p).2 = true) (hR : RC T x42 x43 x44 x45) (hs0 : 0 < T 1) (ha : a < M) (htot : tot = l ++ prw a (M - (a + 1)) (a + 1)) (hpl : pls M M 0 = tot ++ rest) (h58 : ∀ j, j < 0 → x58 j = oc (ops M bs 0 p j)) (hl : LSt H M K N q S n bs ((p * bs + 1 + l.length) * bs ^ (n - 1)) x40 x59) (k39 : Int32 → Int32 → (Nat → Int32) → (Nat → Int32) → (Nat → Int32) → (Nat → Int32) → (Nat → Int32) → (Nat → Int32) → (Nat → Int32) → (Nat → Int32) → (Nat → Int32) → (Nat → Int32) → (Nat → Int32) → (Nat → Int32) → (Nat → Int32) → (Nat → Int32) → (Nat → Int32) → (Nat → Int32) → Option ((Nat → Int32) × (Nat → Int32) × (Nat → Int32) × (Nat → Int32) × (Nat → Int32) × (Nat → Int32) × (Nat → Int32) × (Nat → Int32) × (Nat → Int32) × (Nat → Int32) × (Nat → Int32) × (Nat → Int32) × (Nat → Int32) × (Nat → Int32) × (Nat → Int32) × (Nat → Int32))) : ∃ o33 o40 o46 o47 o48 o49 o50 o51 o52 o53 o54 o55 o56 o57 o58 o59, fX3_search_0_58 x17 x18 x42 x43 x44 x45 k39 (nI n) (nI a) (nI (a + 1)) x33 x40 x46 x47 x48 x49 x50 x51 x52 x53 x54 x55 x56 x57 x58 x59 = k39 (nI n) (nI (a + 1)) o33 o40 o46 o47 o48 o49 o50 o51 o52 o53 o54 o55 o56 o57 o58 o59 ∧ LSt H M K N q S n bs ((p * bs + 1 + tot.length) * bs ^ (n - 1)) o40 o59 ∧ ∀ j, j < 0 → o58 j = oc (ops M bs 0 p j) := by
  obtain ⟨hM, hH5, hH, hgr, hr0, hf9, hf0, hfr⟩ := id hV.1
  have hVT : VD H M (B + 0) T := by rw [eT]; exact rw2_V hT.2.1 hM hV
  have h4 := hT.2.2.2.2.2.1
  have h9 := fun a b ha hb => (hVT.1.2.2.2.2.2.1 a b ha hb).1
  have hb0 : 0 < bs := by omega
  unfold fX3_search_0_58
  refine loop19 (fX3_search_0_58b x17 x18 x42 x43 x44 x45 k39) (fun m v2 v3 v4 _ w40 _ _ _ _ _ _ _ _ _ _ _ _ w58 w59 => ∃ b l', b + m = M ∧ a < b ∧ v2 = nI n ∧ v3 = nI a ∧ v4 = nI b ∧ tot = l' ++ prw a m b ∧ (∀ j, j < 0 → w58 j = oc (ops M bs 0 p j)) ∧ LSt H M K N q S n bs ((p * bs + 1 + l'.length) * bs ^ (n - 1)) w40 w59) (fun o => ∃ o33 o40 o46 o47 o48 o49 o50 o51 o52 o53 o54 o55 o56 o57 o58 o59, o = k39 (nI n) (nI (a + 1)) o33 o40 o46 o47 o48 o49 o50 o51 o52 o53 o54 o55 o56 o57 o58 o59 ∧ LSt H M K N q S n bs ((p * bs + 1 + tot.length) * bs ^ (n - 1)) o40 o59 ∧ ∀ j, j < 0 → o58 j = oc (ops M bs 0 p j)) ?_ ?_ (M - (a + 1)) 5000 _ _ _ _ _ _ _ _ _ _ _ _ _ _ _ _ _ _ _ (by omega) ⟨a + 1, l, by omega, by omega, rfl, rfl, rfl, htot, h58, hl⟩
  · rintro k m _ _ _ w33 w40 w46 w47 w48 w49 w50 w51 w52 w53 w54 w55 w56 w57 w58 w59 ⟨b, l', hb, hab, rfl, rfl, rfl, e, h58', hl'⟩
    have ha6 : a < 6 := by omega
    have hb6 : b < 6 := by omega
    have ek : pls M M 0 = (l' ++ [(a, b)]) ++ (prw a m (b + 1) ++ rest) := by rw [hpl, e, List.append_assoc, List.append_assoc]; rfl
    have hlen : l'.length + 1 < bs := by
      have := congrArg List.length ek
      rw [List.length_append, List.length_append] at this
      have h1 : [(a, b)].length = 1 := rfl
      omega
    have hopt : opt M (l'.length + 1) = some (a, b) := by
      unfold opt
      rw [if_neg (by omega), show l'.length + 1 - 1 = l'.length by omega, ek, List.getElem?_append_left (by rw [List.length_append]; exact Nat.lt_succ_self _), List.getElem?_append_right (Nat.le_refl _), Nat.sub_self]
      rfl
    have e2 : tot = (l' ++ [(a, b)]) ++ prw a m (b + 1) := by rw [e, List.append_assoc]; rfl
    have hl2 : LSt H M K N q S n bs ((p * bs + (l'.length + 1)) * bs ^ (n - 1)) w40 w59 := by rw [show p * bs + (l'.length + 1) = p * bs + 1 + l'.length by omega]; exact hl'
    rcases p_can (RC_h hR) h9 ha6 hb6 with ⟨c, e3, _⟩ | ⟨c, e3, _⟩
    · obtain ⟨u33, u40, u46, u47, u48, u49, u50, u51, u52, u53, u54, u55, u56, u57, u58, u59, eg, hg, h58g⟩ := goP_0 (x33 := w33) (x46 := w46) (x47 := w47) (x48 := w48) (x49 := w49) (x50 := w50) (x51 := w51) (x52 := w52) (x53 := w53) (x54 := w54) (x55 := w55) (x56 := w56) (x57 := w57) (x58 := w58) hopt (by unfold feas; simp; exact ⟨hs0, c.1, c.2⟩) hlen hn hn3 hbs hV hB hT eT hok hR h58' hl2
      refine Or.inl ⟨nI n, nI a, nI (b + 1), u33, u40, u46, u47, u48, u49, u50, u51, u52, u53, u54, u55, u56, u57, u58, u59, ⟨b + 1, l' ++ [(a, b)], by omega, by omega, rfl, rfl, rfl, e2, fun j hj => (h58g j hj).trans (h58' j hj), ?_⟩, ?_⟩
      · rw [List.length_append, show p * bs + 1 + (l'.length + [(a, b)].length) = p * bs + (l'.length + 1) + 1 from by have h1 : [(a, b)].length = 1 := rfl; omega]; exact hg
      · unfold fX3_search_0_58b fX3_search_0_97
        rw [h4, if_neg (nI_ge (show b < M by omega) (by omega)), e3, bd1_s, if_neg (show ¬ nI 1 = (0 : Int32) from one_ne), eg, bd16_s, bn_s, nI_1]
    · have hff : feas T (some (a, b)) = false := by
        unfold feas
        rw [Bool.and_eq_false_iff]
        right
        rw [Bool.and_eq_false_iff]
        by_cases c1 : 0 < sHd T a b
        · right; exact decide_eq_false fun c2 => c ⟨c1, c2⟩
        · left; exact decide_eq_false c1
      have up := rw2_up (H := H) (M := M) (K := K) (N := N) (q := q) (S := S) (d := 0) (p := p) hlen
      rw [hopt, ← eT, hff, Bool.and_false] at up
      have sk := rb_skip' (n := n) (d := 1) (H := H) (M := M) (K := K) (N := N) (q := q) (S := S) (by omega) hb0 (by rw [up])
      refine Or.inl ⟨nI n, nI a, nI (b + 1), w33, w40, w46, w47, w48, w49, w50, w51, w52, w53, w54, w55, w56, w57, w58, w59, ⟨b + 1, l' ++ [(a, b)], by omega, by omega, rfl, rfl, rfl, e2, h58', ?_⟩, ?_⟩
      · rw [List.length_append, show p * bs + 1 + (l'.length + [(a, b)].length) = p * bs + (l'.length + 1) + 1 from by have h1 : [(a, b)].length = 1 := rfl; omega]; exact LS_eq sk.symm hl2
      · unfold fX3_search_0_58b fX3_search_0_97
        rw [h4, if_neg (nI_ge (show b < M by omega) (by omega)), e3, bd1_s, if_pos z00, bn_s, nI_1]
  · rintro k _ _ _ w33 w40 w46 w47 w48 w49 w50 w51 w52 w53 w54 w55 w56 w57 w58 w59 ⟨b, l', hb, hab, rfl, rfl, rfl, e, h58', hl'⟩
    have e' : tot = l' := by rw [e]; exact List.append_nil _
    refine ⟨w33, w40, w46, w47, w48, w49, w50, w51, w52, w53, w54, w55, w56, w57, w58, w59, ?_, by rw [e']; exact hl', h58'⟩
    unfold fX3_search_0_58b
    rw [h4, if_pos (nI_le (by omega) (by omega)), bn_s, nI_1]
theorem s_0 {n bs p : Nat} {T : SN} {x17 x18 x33 x40 x42 x43 x44 x45 x46 x47 x48 x49 x50 x51 x52 x53 x54 x55 x56 x57 x58 x59 : Nat → Int32} (hn : 0 ≤ n) (hn3 : n ≤ 3) (hbs : bs = (pls M M 0).length + 1) (hV : VD H M B S) (hB : B ≤ 999) (hT : TC H M K N q x17 x18) (eT : T = (rw2 H M K N q S 0 bs p).1) (hok : (rw2 H M K N q S 0 bs p).2 = true) (hR : RC T x42 x43 x44 x45) (h58 : ∀ j, j < 0 → x58 j = oc (ops M bs 0 p j)) (hl : LSt H M K N q S n bs (p * bs ^ (n - 0)) x40 x59) : ∃ o33 o40 o46 o47 o48 o49 o50 o51 o52 o53 o54 o55 o56 o57 o58 o59, fX3_search_0 x17 x18 x42 x43 x44 x45 (nI n) x33 x40 x46 x47 x48 x49 x50 x51 x52 x53 x54 x55 x56 x57 x58 x59 = some (o33, o40, o46, o47, o48, o49, o50, o51, o52, o53, o54, o55, o56, o57, o58, o59) ∧ LSt H M K N q S n bs ((p + 1) * bs ^ (n - 0)) o40 o59 ∧ ∀ j, j < 0 → o58 j = x58 j := by
  have hM := hV.1.1
  have h4 := hT.2.2.2.2.2.1
  have hb0 : 0 < bs := by omega
  unfold fX3_search_0 fX3_search_0_0
  by_cases hd : n = 0
  · subst hd
    rw [Nat.sub_self, Nat.pow_zero, Nat.mul_one] at hl
    rw [Nat.sub_self, Nat.pow_zero, Nat.mul_one]
    obtain ⟨y40, y59, e, h⟩ := keep_ls (x47 := x43) hn3 hV hT.2.1 h4 eT hok (RC_p hR) h58 hl
    refine ⟨x33, y40, x46, x47, x48, x49, x50, x51, x52, x53, x54, x55, x56, x57, x58, y59, ?_, h, fun _ _ => rfl⟩
    unfold fX3_keepIfBetter_0 fX3_keepIfBetter_0_0
    rw [if_pos (by decide), e, bd2_s]
  · have hdn : 0 < n := by omega
    have pw : bs ^ (n - 0) = bs * bs ^ (n - 1) := by rw [show n - 0 = n - 1 + 1 by omega, Nat.pow_succ, Nat.mul_comm]
    rw [pw, ← Nat.mul_assoc] at hl
    rw [pw, ← Nat.mul_assoc, show (p + 1) * bs = p * bs + bs by rw [Nat.add_mul, Nat.one_mul]]
    obtain ⟨o33, o40, o46, o47, o48, o49, o50, o51, o52, o53, o54, o55, o56, o57, o58, o59, eg, hg, h58g⟩ := goN_0 (x33 := x33) (x46 := x46) (x47 := x47) (x48 := x48) (x49 := x49) (x50 := x50) (x51 := x51) (x52 := x52) (x53 := x53) (x54 := x54) (x55 := x55) (x56 := x56) (x57 := x57) (k := 0) rfl hb0 hdn hn3 hbs hV hB hT eT hok hR h58 (by rw [Nat.add_zero]; exact hl)
    rw [Nat.add_zero] at hg
    have hno : ¬ nI n ≤ (0 : Int32) := nI_ge (a := 0) hdn (by omega)
    have s1 : x42 1 = nI (T 1) := hR.1 1 (by omega)
    have hVT : VD H M (B + 0) T := by rw [eT]; exact rw2_V hT.2.1 hM hV
    have s99 : T 1 ≤ 99 := hVT.2.2.2.2.1
    rw [if_neg hno, eg, bd16_s, s1]
    by_cases s0 : 0 < T 1
    · rw [if_pos (show (0 : Int32) < nI (T 1) from nI_lt (a := 0) s0 (by omega))]
      unfold fX3_search_0_39
      refine loop18 (fX3_search_0_39b x17 x18 x42 x43 x44 x45) (fun m v2 v3 _ w40 _ _ _ _ _ _ _ _ _ _ _ _ w58 w59 => ∃ a l, a + m = M ∧ v2 = nI n ∧ v3 = nI a ∧ pls M M 0 = l ++ pls M m a ∧ (∀ j, j < 0 → w58 j = oc (ops M bs 0 p j)) ∧ LSt H M K N q S n bs ((p * bs + 1 + l.length) * bs ^ (n - 1)) w40 w59) (fun o => ∃ o33 o40 o46 o47 o48 o49 o50 o51 o52 o53 o54 o55 o56 o57 o58 o59, o = some (o33, o40, o46, o47, o48, o49, o50, o51, o52, o53, o54, o55, o56, o57, o58, o59) ∧ LSt H M K N q S n bs ((p * bs + bs) * bs ^ (n - 1)) o40 o59 ∧ ∀ j, j < 0 → o58 j = x58 j) ?_ ?_ M 5000 _ _ _ _ _ _ _ _ _ _ _ _ _ _ _ _ _ _ (by omega) ⟨0, [], by omega, rfl, rfl, rfl, fun j hj => (h58g j hj).trans (h58 j hj), hg⟩
      · rintro k m _ _ w33 w40 w46 w47 w48 w49 w50 w51 w52 w53 w54 w55 w56 w57 w58 w59 ⟨a, l, ha, rfl, rfl, e, h58', hl'⟩
        have e2 : pls M M 0 = (l ++ prw a (M - (a + 1)) (a + 1)) ++ pls M m (a + 1) := by rw [e, List.append_assoc]; rfl
        obtain ⟨u33, u40, u46, u47, u48, u49, u50, u51, u52, u53, u54, u55, u56, u57, u58, u59, ei, hi, h58i⟩ := in_0 (x33 := w33) (x46 := w46) (x47 := w47) (x48 := w48) (x49 := w49) (x50 := w50) (x51 := w51) (x52 := w52) (x53 := w53) (x54 := w54) (x55 := w55) (x56 := w56) (x57 := w57) (x58 := w58) hdn hn3 hbs hV hB hT eT hok hR s0 (show a < M by omega) rfl e2 h58' hl' k
        refine Or.inl ⟨nI n, nI (a + 1), u33, u40, u46, u47, u48, u49, u50, u51, u52, u53, u54, u55, u56, u57, u58, u59, ⟨a + 1, l ++ prw a (M - (a + 1)) (a + 1), by omega, rfl, rfl, e2, h58i, hi⟩, Eq.trans ?_ ei⟩
        unfold fX3_search_0_39b
        rw [h4, if_neg (nI_ge (show a < M by omega) (by omega)), bn_s, nI_1]
      · rintro k _ _ w33 w40 w46 w47 w48 w49 w50 w51 w52 w53 w54 w55 w56 w57 w58 w59 ⟨a, l, ha, rfl, rfl, e, h58', hl'⟩
        have e' : pls M M 0 = l := by rw [e]; exact List.append_nil _
        refine ⟨w33, w40, w46, w47, w48, w49, w50, w51, w52, w53, w54, w55, w56, w57, w58, w59, ?_, by rw [← e', show p * bs + 1 + (pls M M 0).length = p * bs + bs by omega] at hl'; exact hl', fun j hj => (h58' j hj).trans (h58 j hj).symm⟩
        unfold fX3_search_0_39b
        rw [h4, if_pos (nI_le (by omega) (by omega))]
    · rw [if_neg (show ¬ (0 : Int32) < nI (T 1) from nI_nlt (a := 0) (by omega) (by omega))]
      have all : ∀ k, k < bs → rb H M K N q S n bs ((p * bs + 1 + k) * bs ^ (n - 1)) = rb H M K N q S n bs ((p * bs + 1) * bs ^ (n - 1)) := by
        intro k
        induction k with
        | zero => intro _; rw [Nat.add_zero]
        | succ k ih =>
          intro hk
          rw [← ih (by omega)]
          have hff : feas T (opt M (k + 1)) = false := by
            unfold opt
            rw [if_neg (by omega), show k + 1 - 1 = k by omega, List.getElem?_eq_getElem (show k < (pls M M 0).length by omega)]
            unfold feas
            simp only [decide_eq_false s0, Bool.false_and]
          have up := rw2_up (H := H) (M := M) (K := K) (N := N) (q := q) (S := S) (d := 0) (p := p) hk
          rw [← eT, hff, Bool.and_false] at up
          have sk := rb_skip' (n := n) (d := 1) (H := H) (M := M) (K := K) (N := N) (q := q) (S := S) (by omega) hb0 (show (rw2 H M K N q S 1 bs (p * bs + (k + 1))).2 = false by rw [up])
          rw [show p * bs + 1 + (k + 1) = p * bs + (k + 1) + 1 by omega, sk, show p * bs + 1 + k = p * bs + (k + 1) by omega]
      have h2 := LS_eq (all (bs - 1) (by omega)).symm hg
      rw [show p * bs + 1 + (bs - 1) = p * bs + bs by omega] at h2
      exact ⟨o33, o40, o46, o47, o48, o49, o50, o51, o52, o53, o54, o55, o56, o57, o58, o59, rfl, h2, h58g⟩
end ROWD

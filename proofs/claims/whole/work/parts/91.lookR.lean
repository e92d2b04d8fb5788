section LOOKR
variable {H M K N B : Nat} {q : Nat → Nat} {S S0 : SN} {n : Nat} {nd nh np : Nat → Nat} {x28 x29 x30 x74 x75 x76 x77 x78 x79 x80 x81 x82 x83 x84 x85 x92 x93 x94 x95 x96 x97 x101 x110 x111 x112 : Nat → Int32} {y99 y100 : Nat → Int64}
/-- what the rules that could be show on a day -/
def gs (ok : Nat → Bool) (g : Nat → Nat → Nat) : Nat → Nat × (Nat → Nat → Nat)
  | 0 => (0, fun _ _ => 0)
  | i + 1 => if ok i = true then ((gs ok g i).1 + 1, fun c h => if c = (gs ok g i).1 then g i h else (gs ok g i).2 c h) else gs ok g i
theorem gs_y {ok : Nat → Bool} {g : Nat → Nat → Nat} {i : Nat} (h : ok i = true) : gs ok g (i + 1) = ((gs ok g i).1 + 1, fun c h => if c = (gs ok g i).1 then g i h else (gs ok g i).2 c h) := if_pos h
theorem gs_n {ok : Nat → Bool} {g : Nat → Nat → Nat} {i : Nat} (h : ¬ ok i = true) : gs ok g (i + 1) = gs ok g i := if_neg h
theorem gs_le (ok : Nat → Bool) (g : Nat → Nat → Nat) : ∀ i, (gs ok g i).1 ≤ i
  | 0 => Nat.le_refl _
  | i + 1 => by
    have := gs_le ok g i
    by_cases c : ok i = true
    · rw [gs_y c]; show _ + 1 ≤ _; omega
    · rw [gs_n c]; omega
theorem gs_60 {ok : Nat → Bool} {g : Nat → Nat → Nat} (hg : ∀ i h, h < 6 → g i h ≤ 60) : ∀ i c, c < (gs ok g i).1 → ∀ h, h < 6 → (gs ok g i).2 c h ≤ 60
  | 0, c, hc, _, _ => absurd hc (Nat.not_lt_zero _)
  | i + 1, c, hc, h, hh => by
    by_cases k : ok i = true
    · rw [gs_y k] at hc ⊢
      show (if c = (gs ok g i).1 then g i h else (gs ok g i).2 c h) ≤ 60
      have hc' : c < (gs ok g i).1 + 1 := hc
      split
      · exact hg i h hh
      · exact gs_60 hg i c (by omega) h hh
    · rw [gs_n k] at hc ⊢
      exact gs_60 hg i c hc h hh
abbrev K12 : Type := Int32 → Int32 → Int32 → Int32 → (Nat → Int32) → (Nat → Int32) → (Nat → Int32) → (Nat → Int32) → (Nat → Int32) → (Nat → Int32) → (Nat → Int32) → (Nat → Int32) → (Nat → Int32) → (Nat → Int64) → (Nat → Int64) → Option (Int32 × T11)
theorem r_shows {lk c : Nat} {v2 v4 : Int32} {g : Nat → Nat} {z74 z75 z76 z77 z78 z101 z110 z111 z112 : Nat → Int32} {z99 z100 : Nat → Int64} (hlk : lk ≤ 60) (hc : c < 7) (h110 : ∀ h, h < 6 → z110 (6 * lk + h) = nI (g h)) (k40 : K12) : ∃ u111, fX12_look_61 x79 x80 x81 x82 x83 x84 x85 x92 x93 x94 x95 x96 x97 k40 (nI lk) v2 (nI c) v4 0 z74 z75 z76 z77 z78 z101 z110 z111 z112 z99 z100 = k40 (nI lk) v2 (nI (c + 1)) (v4 + 1) z74 z75 z76 z77 z78 z101 z110 u111 z112 z99 z100 ∧ (∀ j, j < 6 * c → u111 j = z111 j) ∧ ∀ h, h < 6 → u111 (6 * c + h) = nI (g h) := by
  unfold fX12_look_61
  refine loop16 (fX12_look_61b x79 x80 x81 x82 x83 x84 x85 x92 x93 x94 x95 x96 x97 k40) (fun m v1 w2 v3 w4 v5 w74 w75 w76 w77 w78 w101 w110 w111 w112 w99 w100 => ∃ i, i + m = 6 ∧ v1 = nI lk ∧ v2 = w2 ∧ v3 = nI c ∧ v4 = w4 ∧ v5 = nI i ∧ z74 = w74 ∧ z75 = w75 ∧ z76 = w76 ∧ z77 = w77 ∧ z78 = w78 ∧ z101 = w101 ∧ z110 = w110 ∧ z112 = w112 ∧ z99 = w99 ∧ z100 = w100 ∧ (∀ j, j < 6 * c → w111 j = z111 j) ∧ ∀ h, h < i → w111 (6 * c + h) = nI (g h)) (fun o => ∃ u111, o = k40 (nI lk) v2 (nI (c + 1)) (v4 + 1) z74 z75 z76 z77 z78 z101 z110 u111 z112 z99 z100 ∧ (∀ j, j < 6 * c → u111 j = z111 j) ∧ ∀ h, h < 6 → u111 (6 * c + h) = nI (g h)) ?_ ?_ 6 5000 _ _ _ _ _ _ _ _ _ _ _ _ _ _ _ _ (by omega) ⟨0, rfl, rfl, rfl, rfl, rfl, rfl, rfl, rfl, rfl, rfl, rfl, rfl, rfl, rfl, rfl, rfl, fun _ _ => rfl, fun h hh => absurd hh (by omega)⟩
  · rintro k m _ _ _ _ _ _ _ _ _ _ _ _ w111 _ _ _ ⟨i, hi, rfl, rfl, rfl, rfl, rfl, rfl, rfl, rfl, rfl, rfl, rfl, rfl, rfl, rfl, rfl, h1, h2⟩
    refine Or.inl ⟨nI lk, v2, nI c, v4, nI (i + 1), z74, z75, z76, z77, z78, z101, z110, upd w111 (6 * c + i) (nI (g i)), z112, z99, z100, ⟨i + 1, by omega, rfl, rfl, rfl, rfl, rfl, rfl, rfl, rfl, rfl, rfl, rfl, rfl, rfl, rfl, rfl, fun j hj => by rw [pk_un (by omega)]; exact h1 j hj, fun h hh => ?_⟩, ?_⟩
    · by_cases e : h = i
      · subst e; rw [pk_us]
      · rw [pk_un (by omega)]; exact h2 h (by omega)
    · unfold fX12_look_61b
      rw [if_neg (le6 (by omega)), ixR, ixR, gd_t (inbN (by omega) (by decide)), gd_t (inbN (by omega) (by decide)), bn_s, nI_1, clN (by omega), clN (by omega), h110 i (by omega)]
  · rintro k _ _ _ _ _ _ _ _ _ _ _ _ w111 _ _ _ ⟨i, hi, rfl, rfl, rfl, rfl, rfl, rfl, rfl, rfl, rfl, rfl, rfl, rfl, rfl, rfl, rfl, h1, h2⟩
    have ei : i = 6 := by omega
    subst ei
    refine ⟨w111, ?_, h1, h2⟩
    unfold fX12_look_61b fX12_look_101
    rw [if_pos ge6, bn_s, bn_s, nI_1]
def ansL (M w : Nat) (p : Nat × (Nat → Nat → Nat)) : Int32 := if p.1 = 0 ∨ M = 0 then -2 else if w = 0 then nI (bst p.2 p.1 (M - 1)) else nI (mak p.2 (bst p.2 p.1 (M - 1)) p.1 p.1)
theorem r_look129 {w c : Nat} {R : Nat → Nat → Nat} {z74 z75 z76 z77 z78 z101 z110 z111 z112 : Nat → Int32} {z99 z100 : Nat → Int64} (hw : w ≤ 1) (hM : M ≤ 6) (hM0 : 0 < M) (hc : c ≤ 7) (h4 : z75 4 = nI M) (hx : ∀ i, i < c → ∀ h, h < 6 → z111 (6 * i + h) = nI (R i h)) (hR : ∀ i, i < c → ∀ h, h < 6 → R i h ≤ 60) : fX12_look_129 x79 x80 x81 x82 x83 x84 x85 x92 x93 x94 x95 x96 x97 (nI w) (nI c) 0 1 z74 z75 z76 z77 z78 z101 z110 z111 z112 z99 z100 = some (if w = 0 then nI (bst R c (M - 1)) else nI (mak R (bst R c (M - 1)) c c), z74, z75, z76, z77, z78, z101, z110, z111, z112, z99, z100) := by
  have h4' : z75 (4 : Int32).toNatClampNeg = nI M := h4
  unfold fX12_look_129
  refine loop15 (fX12_look_129b x79 x80 x81 x82 x83 x84 x85 x92 x93 x94 x95 x96 x97) (fun m v2 v3 v4 v5 w74 w75 w76 w77 w78 w101 w110 w111 w112 w99 w100 => ∃ i, i + 1 + m = M ∧ v2 = nI w ∧ v3 = nI c ∧ v4 = nI (bst R c i) ∧ v5 = nI (i + 1) ∧ z74 = w74 ∧ z75 = w75 ∧ z76 = w76 ∧ z77 = w77 ∧ z78 = w78 ∧ z101 = w101 ∧ z110 = w110 ∧ z111 = w111 ∧ z112 = w112 ∧ z99 = w99 ∧ z100 = w100) (fun o => o = some (if w = 0 then nI (bst R c (M - 1)) else nI (mak R (bst R c (M - 1)) c c), z74, z75, z76, z77, z78, z101, z110, z111, z112, z99, z100)) ?_ ?_ (M - 1) 5000 _ _ _ _ _ _ _ _ _ _ _ _ _ _ _ (by omega) ⟨0, by omega, rfl, rfl, rfl, rfl, rfl, rfl, rfl, rfl, rfl, rfl, rfl, rfl, rfl, rfl, rfl⟩
  · rintro k m _ _ _ _ _ _ _ _ _ _ _ _ _ _ _ ⟨i, hi, rfl, rfl, rfl, rfl, rfl, rfl, rfl, rfl, rfl, rfl, rfl, rfl, rfl, rfl, rfl⟩
    have b1 := bst_le R c i
    have l1 := mak_le R (i + 1) c c
    have l2 := mak_le R (bst R c i) c c
    refine Or.inl ⟨nI w, nI c, nI (bst R c (i + 1)), nI (i + 1 + 1), z74, z75, z76, z77, z78, z101, z110, z111, z112, z99, z100, ⟨i + 1, by omega, rfl, rfl, rfl, rfl, rfl, rfl, rfl, rfl, rfl, rfl, rfl, rfl, rfl, rfl, rfl⟩, ?_⟩
    have e : bst R c (i + 1) = if mak R (i + 1) c c < mak R (bst R c i) c c then i + 1 else bst R c i := rfl
    rw [e]
    unfold fX12_look_129b fX12_look_164
    rw [gd_t i4, h4', if_neg (nI_ge (by omega) (by omega)), p_alikeR (by omega) hc hx hR, bd1_s, p_alikeR (by omega) hc hx hR, bd1_s]
    by_cases k0 : mak R (i + 1) c c < mak R (bst R c i) c c
    · rw [if_pos k0, if_neg (nI_ge k0 (by omega)), bn_s, nI_1]
    · rw [if_neg k0, if_pos (nI_le (by omega) (by omega)), bn_s, nI_1]
  · rintro k _ _ _ _ _ _ _ _ _ _ _ _ _ _ _ ⟨i, hi, rfl, rfl, rfl, rfl, rfl, rfl, rfl, rfl, rfl, rfl, rfl, rfl, rfl, rfl, rfl⟩
    have b1 := bst_le R c i
    unfold fX12_look_129b
    rw [gd_t i4, h4', if_pos (nI_le (by omega) (by omega)), show M - 1 = i by omega]
    by_cases w0 : w = 0
    · rw [if_pos (by rw [w0]; rfl), if_pos w0]
    · rw [if_neg (ne0 w0 (by omega)), if_neg w0, p_alikeR (by omega) hc hx hR, bd1_s]
theorem r_look {WS : Nat → WW} {rc w lk : Nat} (hc : rc ≤ 6) (hlk : lk ≤ 60) (hw : w ≤ 1) (hV : VD H M 0 S0) (hT : TR H M K N q x75 x79) (hb : BG S0 (x75 1) x83 x84 x85) (hW : ∀ i, i ≤ rc → RW (vv i) x92 x93 x94 x95 x96 x97 (WS i)) (hfree : x74 38 = -5) (hdr : x74 37 = -1) (h21 : x74 21 = nI rc) (hN : NT H M n nd nh np x28 x29 x30 x80 x81 x82) (h8 : x75 8 = nI n) (dl : fX12_in (nI lk).toInt64 0 60 = some (nI 1)) (din : fX12_in (nI w).toInt64 0 1 = some (nI 1)) : ∃ z : T11, fX12_look x79 x80 x81 x82 x83 x84 x85 x92 x93 x94 x95 x96 x97 (nI lk) (nI w) x74 x75 x76 x77 x78 x101 x110 x111 x112 y99 y100 = some (ansL M w (gs (okB H M K N q WS n nd nh np S0) (fun i h => sPl (run H M K N q (WS i) lk S0) h) (rc + 1)), z) ∧ FE x74 x75 x76 x77 x78 x112 z := by
  obtain ⟨hM, hH5, hH, hgr, _⟩ := id hV.1
  have tw := p_town1 hT.2.2.1 (by omega) hH
  have g60 : ∀ i h, h < 6 → sPl (run H M K N q (WS i) lk S0) h ≤ 60 := fun i h hh => by
    have := ((VD_run (W := WS i) (q := q) (N := N) (n := lk) hT.2.1 hV).1.2.2.2.1 h hh).1
    omega
  obtain ⟨a74, a112, ea, ka⟩ := p_keepsKd (x74 := x74) (x75 := x75) (x76 := x76) (x77 := x77) (x78 := x78) (x112 := x112)
  unfold fX12_look fX12_look_0
  rw [tw, bd1_s, if_neg (show ¬ nI 1 = (0 : Int32) from one_ne), dl, bd1_s, if_neg (show ¬ nI 1 = (0 : Int32) from one_ne), din, bd1_s, if_neg (show ¬ nI 1 = (0 : Int32) from one_ne), ea, bd6_s]
  generalize hgs : (fun i h => sPl (run H M K N q (WS i) lk S0) h) = g at g60 ⊢
  have hge : ∀ i h, sPl (run H M K N q (WS i) lk S0) h = g i h := fun i h => by rw [← hgs]
  unfold fX12_look_40
  refine loop15 (fX12_look_40b x79 x80 x81 x82 x83 x84 x85 x92 x93 x94 x95 x96 x97) (fun m v1 v2 v3 v4 z74 z75 z76 z77 z78 _ _ z111 z112 _ _ => ∃ i, i + m = rc + 1 ∧ v1 = nI lk ∧ v2 = nI w ∧ v3 = nI (gs (okB H M K N q WS n nd nh np S0) g i).1 ∧ v4 = vv i ∧ Kd x74 x75 x76 x77 x78 x112 z74 z75 z76 z77 z78 z112 ∧ ∀ c, c < (gs (okB H M K N q WS n nd nh np S0) g i).1 → ∀ h, h < 6 → z111 (6 * c + h) = nI ((gs (okB H M K N q WS n nd nh np S0) g i).2 c h)) (fun o => ∃ z : T11, o = some (ansL M w (gs (okB H M K N q WS n nd nh np S0) g (rc + 1)), z) ∧ FE x74 x75 x76 x77 x78 x112 z) ?_ ?_ (rc + 1) 5000 _ _ _ _ _ _ _ _ _ _ _ _ _ _ _ (by omega) ⟨0, by omega, rfl, rfl, rfl, rfl, ka, fun c hc => absurd hc (Nat.not_lt_zero _)⟩
  · rintro k m _ _ _ _ z74 z75 z76 z77 z78 z101 z110 z111 z112 z99 z100 ⟨i, hi, rfl, rfl, rfl, rfl, hk, hs⟩
    obtain ⟨r, u74, u75, u76, u77, u78, u101, u110, u112, u99, u100, e, hu, hl, hr⟩ := r_could (z101 := z101) (z110 := z110) (z99 := z99) (z100 := z100) hV hT hb (hW i (by omega)) hfree hdr hN h8 hk
    have h21' : z74 21 = nI rc := (hk.1.1 21 (by omega) (by omega)).trans h21
    have cl := gs_le (okB H M K N q WS n nd nh np S0) g i
    have nge : ¬ nI rc ≤ vv i := fun h => by have := (vv_ge hc (show i ≤ 7 by omega)).mp h; omega
    rcases hr with ⟨rfl, ok⟩ | ⟨rfl, nok⟩
    · obtain ⟨u111, es, s1, s2⟩ := r_shows (x79 := x79) (x80 := x80) (x81 := x81) (x82 := x82) (x83 := x83) (x84 := x84) (x85 := x85) (x92 := x92) (x93 := x93) (x94 := x94) (x95 := x95) (x96 := x96) (x97 := x97) (c := (gs (okB H M K N q WS n nd nh np S0) g i).1) (v2 := nI w) (v4 := vv i) (g := g i) (z74 := u74) (z75 := u75) (z76 := u76) (z77 := u77) (z78 := u78) (z101 := u101) (z110 := u110) (z111 := z111) (z112 := u112) (z99 := u99) (z100 := u100) hlk (by omega) (fun h hh => by rw [hl lk (by omega) h hh, hge]) k
      refine Or.inl ⟨nI lk, nI w, nI ((gs (okB H M K N q WS n nd nh np S0) g i).1 + 1), vv (i + 1), u74, u75, u76, u77, u78, u101, u110, u111, u112, u99, u100, ⟨i + 1, by omega, rfl, rfl, by rw [gs_y (okB_t ok)], rfl, hu, fun c hc' h hh => ?_⟩, ?_⟩
      · rw [gs_y (okB_t ok)] at hc' ⊢
        have hc2 : c < (gs (okB H M K N q WS n nd nh np S0) g i).1 + 1 := hc'
        show u111 (6 * c + h) = nI (if c = (gs (okB H M K N q WS n nd nh np S0) g i).1 then g i h else (gs (okB H M K N q WS n nd nh np S0) g i).2 c h)
        by_cases ec : c = (gs (okB H M K N q WS n nd nh np S0) g i).1
        · rw [if_pos ec, ec]; exact s2 h hh
        · rw [if_neg ec, s1 _ (by omega)]; exact hs c (by omega) h hh
      · rw [← vv_s, ← es]
        unfold fX12_look_40b
        rw [h21', if_neg nge, e, bd11_s, if_neg (show ¬ nI 1 = (0 : Int32) from one_ne)]
    · refine Or.inl ⟨nI lk, nI w, nI (gs (okB H M K N q WS n nd nh np S0) g i).1, vv (i + 1), u74, u75, u76, u77, u78, u101, u110, z111, u112, u99, u100, ⟨i + 1, by omega, rfl, rfl, by rw [gs_n (okB_f nok)], rfl, hu, by rw [gs_n (okB_f nok)]; exact hs⟩, ?_⟩
      unfold fX12_look_40b fX12_look_101
      rw [h21', if_neg nge, e, bd11_s, if_pos z00, bn_s, vv_s]
  · rintro k _ _ _ _ z74 z75 z76 z77 z78 z101 z110 z111 z112 z99 z100 ⟨i, hi, rfl, rfl, rfl, rfl, hk, hs⟩
    have ei : i = rc + 1 := by omega
    subst ei
    have h21' : z74 21 = nI rc := (hk.1.1 21 (by omega) (by omega)).trans h21
    have h4' : z75 4 = nI M := (hk.1.2.1 4 (by omega)).trans hT.2.2.2.2.2.1
    have cl := gs_le (okB H M K N q WS n nd nh np S0) g (rc + 1)
    refine ⟨(z74, z75, z76, z77, z78, z101, z110, z111, z112, z99, z100), ?_, hk.1⟩
    unfold fX12_look_40b ansL
    rw [h21', if_pos ((vv_ge hc (by omega)).mpr (by omega))]
    by_cases c0 : (gs (okB H M K N q WS n nd nh np S0) g (rc + 1)).1 = 0
    · rw [if_pos (by rw [c0]; rfl), if_pos (Or.inl c0)]
    · rw [if_neg (ne0 c0 (by omega)), gd_t i4, n4', h4']
      by_cases m0 : M = 0
      · rw [if_pos (by rw [m0]; rfl), if_pos (Or.inr m0)]
      · rw [if_neg (ne0 m0 (by omega)), if_neg (fun h => h.elim c0 m0)]
        exact r_look129 hw hM (by omega) (by omega) h4' hs (gs_60 (fun i h hh => by rw [← hge]; exact g60 i h hh) (rc + 1))
end LOOKR

section LOOKS
variable {H M K N B : Nat} {q : Nat → Nat} {S S0 : SN} {n : Nat} {nd nh np : Nat → Nat} {x28 x29 x30 x67 x73 x74 x75 x76 x77 x78 x79 x80 x81 x82 x83 x84 x85 x92 x93 x94 x95 x96 x97 x101 x110 x111 x112 : Nat → Int32} {y99 y100 : Nat → Int64}
def alk (R : Nat → Nat → Nat) (h i : Nat) : Nat → Nat
  | 0 => 0
  | j + 1 => alk R h i j + (if R i h = R j h then 1 else 0)
theorem alk_le (R : Nat → Nat → Nat) (h i : Nat) : ∀ j, alk R h i j ≤ j
  | 0 => Nat.le_refl _
  | j + 1 => by
    have := alk_le R h i j
    unfold alk
    split <;> omega
def mak (R : Nat → Nat → Nat) (h c : Nat) : Nat → Nat
  | 0 => 0
  | i + 1 => if mak R h c i < alk R h i c then alk R h i c else mak R h c i
theorem mak_le (R : Nat → Nat → Nat) (h c : Nat) : ∀ i, mak R h c i ≤ c
  | 0 => Nat.zero_le _
  | i + 1 => by
    have := mak_le R h c i
    have := alk_le R h i c
    unfold mak
    split <;> omega
theorem p_alikeC {R : Nat → Nat → Nat} {h c : Nat} (hh : h < 6) (hc : c ≤ 7) (h67 : x67 3 = nI c) (hx : ∀ i, i < c → ∀ h, h < 6 → x73 (6 * i + h) = nI (R i h)) (hR : ∀ i, i < c → ∀ h, h < 6 → R i h ≤ 60) : fX0_mostAlike x67 x73 (nI h) = some (nI (mak R h c c)) := by
  unfold fX0_mostAlike fX0_mostAlike_0 fX0_mostAlike_4
  refine loop3 (fX0_mostAlike_4b x67 x73) (fun m v1 v2 v3 => ∃ i, i + m = c ∧ v1 = nI h ∧ v2 = nI (mak R h c i) ∧ v3 = nI i) (fun o => o = some (nI (mak R h c c))) ?_ ?_ c 5000 _ _ _ (by omega) ⟨0, by omega, rfl, rfl, rfl⟩
  · rintro k m _ _ _ ⟨i, hi, rfl, rfl, rfl⟩
    refine Or.inl ⟨nI h, nI (mak R h c (i + 1)), nI (i + 1), ⟨i + 1, by omega, rfl, rfl, rfl⟩, ?_⟩
    unfold fX0_mostAlike_4b
    rw [h67, if_neg (nI_ge (show i < c by omega) (by omega))]
    unfold fX0_mostAlike_18
    refine loop5 (fX0_mostAlike_18b x67 x73 k) (fun m v1 v2 v3 v4 v5 => ∃ j, j + m = c ∧ v1 = nI h ∧ v2 = nI (mak R h c i) ∧ v3 = nI i ∧ v4 = nI (alk R h i j) ∧ v5 = nI j) (fun o => o = k (nI h) (nI (mak R h c (i + 1))) (nI (i + 1))) ?_ ?_ c 5000 _ _ _ _ _ (by omega) ⟨0, by omega, rfl, rfl, rfl, rfl, rfl⟩
    · rintro kk mm _ _ _ _ _ ⟨j, hj, rfl, rfl, rfl, rfl, rfl⟩
      have xi := hx i (by omega) h hh
      have xj := hx j (by omega) h hh
      have r1 := hR i (by omega) h hh
      have r2 := hR j (by omega) h hh
      refine Or.inl ⟨nI h, nI (mak R h c i), nI i, nI (alk R h i (j + 1)), nI (j + 1), ⟨j + 1, by omega, rfl, rfl, rfl, rfl, rfl⟩, ?_⟩
      unfold fX0_mostAlike_18b fX0_mostAlike_56
      rw [h67, if_neg (nI_ge (show j < c by omega) (by omega)), ixC, ixC, gd_t (inbN (by omega) (by decide)), gd_t (inbN (by omega) (by decide)), clN (by omega), clN (by omega), xi, xj]
      show _ = kk _ _ _ (nI (alk R h i j + (if R i h = R j h then 1 else 0))) _
      by_cases e : R i h = R j h
      · rw [if_pos e, if_pos (by rw [e]), bn_s, bn_s, nI_1, nI_1]
      · rw [if_neg e, if_neg (fun h => e ((nI_eq (by omega) (by omega)).mp h)), bn_s, nI_1]; rfl
    · rintro kk _ _ _ _ _ ⟨j, hj, rfl, rfl, rfl, rfl, rfl⟩
      have ej : j = c := by omega
      subst ej
      have l1 := alk_le R h i j
      have l2 := mak_le R h j i
      unfold fX0_mostAlike_18b
      rw [h67, if_pos (nI_le (Nat.le_refl _) (by omega)), bn_s, bn_s, nI_1]
      show _ = k _ (nI (if mak R h j i < alk R h i j then alk R h i j else mak R h j i)) _
      by_cases e : mak R h j i < alk R h i j
      · rw [if_pos e, if_pos (nI_lt e (by omega))]
      · rw [if_neg e, if_neg (nI_nlt (by omega) (by omega))]
  · rintro k _ _ _ ⟨i, hi, rfl, rfl, rfl⟩
    have ei : i = c := by omega
    subst ei
    unfold fX0_mostAlike_4b
    rw [h67, if_pos (nI_le (Nat.le_refl _) (by omega))]
theorem p_alikeR {R : Nat → Nat → Nat} {h c : Nat} (hh : h < 6) (hc : c ≤ 7) (hx : ∀ i, i < c → ∀ h, h < 6 → x111 (6 * i + h) = nI (R i h)) (hR : ∀ i, i < c → ∀ h, h < 6 → R i h ≤ 60) : fX12_mostAlike x111 (nI h) (nI c) = some (nI (mak R h c c)) := by
  unfold fX12_mostAlike fX12_mostAlike_0 fX12_mostAlike_5
  refine loop4 (fX12_mostAlike_5b x111) (fun m v1 v2 v3 v4 => ∃ i, i + m = c ∧ v1 = nI h ∧ v2 = nI c ∧ v3 = nI (mak R h c i) ∧ v4 = nI i) (fun o => o = some (nI (mak R h c c))) ?_ ?_ c 5000 _ _ _ _ (by omega) ⟨0, by omega, rfl, rfl, rfl, rfl⟩
  · rintro k m _ _ _ _ ⟨i, hi, rfl, rfl, rfl, rfl⟩
    refine Or.inl ⟨nI h, nI c, nI (mak R h c (i + 1)), nI (i + 1), ⟨i + 1, by omega, rfl, rfl, rfl, rfl⟩, ?_⟩
    unfold fX12_mostAlike_5b
    rw [if_neg (nI_ge (show i < c by omega) (by omega))]
    unfold fX12_mostAlike_17
    refine loop6 (fX12_mostAlike_17b x111 k) (fun m v1 v2 v3 v4 v5 v6 => ∃ j, j + m = c ∧ v1 = nI h ∧ v2 = nI c ∧ v3 = nI (mak R h c i) ∧ v4 = nI i ∧ v5 = nI (alk R h i j) ∧ v6 = nI j) (fun o => o = k (nI h) (nI c) (nI (mak R h c (i + 1))) (nI (i + 1))) ?_ ?_ c 5000 _ _ _ _ _ _ (by omega) ⟨0, by omega, rfl, rfl, rfl, rfl, rfl, rfl⟩
    · rintro kk mm _ _ _ _ _ _ ⟨j, hj, rfl, rfl, rfl, rfl, rfl, rfl⟩
      have xi := hx i (by omega) h hh
      have xj := hx j (by omega) h hh
      have r1 := hR i (by omega) h hh
      have r2 := hR j (by omega) h hh
      refine Or.inl ⟨nI h, nI c, nI (mak R h c i), nI i, nI (alk R h i (j + 1)), nI (j + 1), ⟨j + 1, by omega, rfl, rfl, rfl, rfl, rfl, rfl⟩, ?_⟩
      unfold fX12_mostAlike_17b fX12_mostAlike_57
      rw [if_neg (nI_ge (show j < c by omega) (by omega)), ixR, ixR, gd_t (inbN (by omega) (by decide)), gd_t (inbN (by omega) (by decide)), clN (by omega), clN (by omega), xi, xj]
      show _ = kk _ _ _ _ (nI (alk R h i j + (if R i h = R j h then 1 else 0))) _
      by_cases e : R i h = R j h
      · rw [if_pos e, if_pos (by rw [e]), bn_s, bn_s, zI1, nI_add, nI_add]
      · rw [if_neg e, if_neg (fun h => e ((nI_eq (by omega) (by omega)).mp h).symm), bn_s, bn_s, zI0, nI_add, nI_1]
    · rintro kk _ _ _ _ _ _ ⟨j, hj, rfl, rfl, rfl, rfl, rfl, rfl⟩
      have ej : j = c := by omega
      subst ej
      have l1 := alk_le R h i j
      have l2 := mak_le R h j i
      unfold fX12_mostAlike_17b fX12_mostAlike_78
      rw [if_pos (nI_le (Nat.le_refl _) (by omega))]
      show _ = k _ _ (nI (if mak R h j i < alk R h i j then alk R h i j else mak R h j i)) _
      by_cases e : mak R h j i < alk R h i j
      · rw [if_pos e, if_neg (nI_ge e (by omega)), bn_s, nI_1]
      · rw [if_neg e, if_pos (nI_le (by omega) (by omega)), bn_s, nI_1]
  · rintro k _ _ _ _ ⟨i, hi, rfl, rfl, rfl, rfl⟩
    have ei : i = c := by omega
    subst ei
    unfold fX12_mostAlike_5b
    rw [if_pos (nI_le (Nat.le_refl _) (by omega))]
/-- where to look -/
def bst (R : Nat → Nat → Nat) (c : Nat) : Nat → Nat
  | 0 => 0
  | i + 1 => if mak R (i + 1) c c < mak R (bst R c i) c c then i + 1 else bst R c i
theorem bst_le (R : Nat → Nat → Nat) (c : Nat) : ∀ i, bst R c i ≤ i
  | 0 => Nat.le_refl _
  | i + 1 => by
    have := bst_le R c i
    unfold bst
    split <;> omega
theorem p_lkL {R : Nat → Nat → Nat} {c : Nat} (hM : M ≤ 6) (hM0 : 0 < M) (hc : c ≤ 7) (h67 : x67 3 = nI c) (hx : ∀ i, i < c → ∀ h, h < 6 → x73 (6 * i + h) = nI (R i h)) (hR : ∀ i, i < c → ∀ h, h < 6 → R i h ≤ 60) : ∀ m i, i + 1 + m = M → lkL (nI M) x67 x73 (m + 1) (nI (i + 1)) (nI (bst R c i)) = some (nI (bst R c (M - 1)))
  | 0, i, h => by
    unfold lkL
    rw [if_pos (nI_le (by omega) (by omega)), show M - 1 = i by omega]
  | m + 1, i, h => by
    have b1 := bst_le R c i
    have l1 := mak_le R (i + 1) c c
    have l2 := mak_le R (bst R c i) c c
    unfold lkL
    rw [if_neg (nI_ge (by omega) (by omega)), p_alikeC (by omega) hc h67 hx hR, bd1_s, p_alikeC (by omega) hc h67 hx hR, bd1_s, nI_1]
    have ih := p_lkL hM hM0 hc h67 hx hR m (i + 1) (by omega)
    have e : bst R c (i + 1) = if mak R (i + 1) c c < mak R (bst R c i) c c then i + 1 else bst R c i := rfl
    by_cases k : mak R (i + 1) c c < mak R (bst R c i) c c
    · rw [if_pos k] at e
      rw [if_neg (nI_ge k (by omega))]
      rw [e] at ih; exact ih
    · rw [if_neg k] at e
      rw [if_pos (nI_le (by omega) (by omega))]
      rw [e] at ih; exact ih
/-- the rules, none ahead of them -/
def vv (i : Nat) : Int32 := if i = 0 then -1 else nI (i - 1)
theorem vv_s (i : Nat) : vv i + 1 = vv (i + 1) := by
  unfold vv
  rw [if_neg (show ¬ i + 1 = 0 by omega), show i + 1 - 1 = i by omega]
  by_cases c : i = 0
  · subst c; rfl
  · rw [if_neg c, nI_1, show i - 1 + 1 = i by omega]
theorem vv_ge {rc i : Nat} (hc : rc ≤ 6) (hi : i ≤ 7) : (nI rc ≤ vv i) ↔ rc < i := by
  have h : ∀ rc, rc < 7 → ∀ i, i < 8 → ((nI rc ≤ vv i) ↔ rc < i) := by decide
  exact h rc (by omega) i (by omega)
/-- by which rules all notes are so -/
noncomputable def okB (H M K N : Nat) (q : Nat → Nat) (WS : Nat → WW) (n : Nat) (nd nh np : Nat → Nat) (S0 : SN) (i : Nat) : Bool := @decide (okA H M K N q (WS i) n nd nh np S0) (Classical.propDecidable _)
theorem okB_t {WS : Nat → WW} {i : Nat} (h : okA H M K N q (WS i) n nd nh np S0) : okB H M K N q WS n nd nh np S0 i = true := @decide_eq_true _ (Classical.propDecidable _) h
theorem okB_f {WS : Nat → WW} {i : Nat} (h : ¬ okA H M K N q (WS i) n nd nh np S0) : ¬ okB H M K N q WS n nd nh np S0 i = true := fun e => h (@of_decide_eq_true _ (Classical.propDecidable _) e)
def ansU (w : Nat) (p : Nat × Nat) : Int32 := if w = 0 then nI p.1 else if p.1 = 0 then -2 else vv p.2
theorem r_ruled {WS : Nat → WW} {rc w : Nat} (hc : rc ≤ 6) (hw : w ≤ 1) (hV : VD H M 0 S0) (hT : TR H M K N q x75 x79) (hb : BG S0 (x75 1) x83 x84 x85) (hW : ∀ i, i ≤ rc → RW (vv i) x92 x93 x94 x95 x96 x97 (WS i)) (hfree : x74 38 = -5) (hdr : x74 37 = -1) (h21 : x74 21 = nI rc) (hN : NT H M n nd nh np x28 x29 x30 x80 x81 x82) (h8 : x75 8 = nI n) : ∃ z : T10, fX12_ruled x79 x80 x81 x82 x83 x84 x85 x92 x93 x94 x95 x96 x97 (nI w) x74 x75 x76 x77 x78 x101 x110 x112 y99 y100 = some (ansU w (cg (okB H M K N q WS n nd nh np S0) (rc + 1)), z) ∧ FD x74 x75 x76 x77 x78 x112 z := by
  obtain ⟨hM, hH5, hH, hgr, _⟩ := id hV.1
  have tw := p_town1 hT.2.2.1 (by omega) hH
  have din : fX12_in (nI w).toInt64 0 1 = some (nI 1) := by
    rcases p_within (lo := 0) (hi := 1) (by omega) (by omega) (nI w) with ⟨w', _, _, _, _, d⟩ | ⟨c, _⟩
    · exact d
    · rw [p_isWithin, if_neg (nI_nlt (a := w) (b := 0) (by omega) (by omega)), if_neg (nI_nlt (a := 1) (b := w) (by omega) (by omega))] at c
      cases c
  obtain ⟨a74, a112, ea, ka⟩ := p_keepsKd (x74 := x74) (x75 := x75) (x76 := x76) (x77 := x77) (x78 := x78) (x112 := x112)
  unfold fX12_ruled fX12_ruled_0
  rw [tw, bd1_s, if_neg (show ¬ nI 1 = (0 : Int32) from one_ne), din, bd1_s, if_neg (show ¬ nI 1 = (0 : Int32) from one_ne), ea, bd6_s]
  unfold fX12_ruled_32
  refine loop14 (fX12_ruled_32b x79 x80 x81 x82 x83 x84 x85 x92 x93 x94 x95 x96 x97) (fun m v1 v2 v3 v4 z74 z75 z76 z77 z78 _ _ z112 _ _ => ∃ i, i + m = rc + 1 ∧ v1 = nI w ∧ v2 = nI (cg (okB H M K N q WS n nd nh np S0) i).1 ∧ v3 = (if (cg (okB H M K N q WS n nd nh np S0) i).1 = 0 then -2 else vv (cg (okB H M K N q WS n nd nh np S0) i).2) ∧ v4 = vv i ∧ Kd x74 x75 x76 x77 x78 x112 z74 z75 z76 z77 z78 z112) (fun o => ∃ z : T10, o = some (ansU w (cg (okB H M K N q WS n nd nh np S0) (rc + 1)), z) ∧ FD x74 x75 x76 x77 x78 x112 z) ?_ ?_ (rc + 1) 5000 _ _ _ _ _ _ _ _ _ _ _ _ _ _ (by omega) ⟨0, by omega, rfl, rfl, rfl, rfl, ka⟩
  · rintro k m _ _ _ _ z74 z75 z76 z77 z78 z101 z110 z112 z99 z100 ⟨i, hi, rfl, rfl, rfl, rfl, hk⟩
    obtain ⟨r, u74, u75, u76, u77, u78, u101, u110, u112, u99, u100, e, hu, hl, hr⟩ := r_could (z101 := z101) (z110 := z110) (z99 := z99) (z100 := z100) hV hT hb (hW i (by omega)) hfree hdr hN h8 hk
    have h21' : z74 21 = nI rc := (hk.1.1 21 (by omega) (by omega)).trans h21
    have cl := cg_le (okB H M K N q WS n nd nh np S0) i
    refine Or.inl ⟨nI w, nI (cg (okB H M K N q WS n nd nh np S0) (i + 1)).1, (if (cg (okB H M K N q WS n nd nh np S0) (i + 1)).1 = 0 then -2 else vv (cg (okB H M K N q WS n nd nh np S0) (i + 1)).2), vv (i + 1), u74, u75, u76, u77, u78, u101, u110, u112, u99, u100, ⟨i + 1, by omega, rfl, rfl, rfl, rfl, hu⟩, ?_⟩
    unfold fX12_ruled_32b fX12_ruled_60 fX12_ruled_64
    rw [h21', if_neg (fun h => by have := (vv_ge hc (show i ≤ 7 by omega)).mp h; omega), e, bd11_s]
    rcases hr with ⟨rfl, ok⟩ | ⟨rfl, nok⟩
    · rw [if_neg (show ¬ nI 1 = (0 : Int32) from one_ne), cg_y (okB_t ok)]
      by_cases c0 : (cg (okB H M K N q WS n nd nh np S0) i).1 = 0
      · rw [if_pos (show nI _ = (0 : Int32) by rw [c0]; rfl), bn_s, bn_s, vv_s, nI_1, if_pos c0, if_neg (show ¬ (cg (okB H M K N q WS n nd nh np S0) i).1 + 1 = 0 by omega)]
      · rw [if_neg (ne0 c0 (by omega)), bn_s, bn_s, vv_s, nI_1, if_neg c0, if_neg c0, if_neg (show ¬ (cg (okB H M K N q WS n nd nh np S0) i).1 + 1 = 0 by omega)]
    · rw [if_pos z00, cg_n (okB_f nok), bn_s, vv_s]
  · rintro k _ _ _ _ z74 z75 z76 z77 z78 z101 z110 z112 z99 z100 ⟨i, hi, rfl, rfl, rfl, rfl, hk⟩
    have ei : i = rc + 1 := by omega
    subst ei
    have h21' : z74 21 = nI rc := (hk.1.1 21 (by omega) (by omega)).trans h21
    refine ⟨(z74, z75, z76, z77, z78, z101, z110, z112, z99, z100), ?_, hk.1⟩
    unfold fX12_ruled_32b ansU
    rw [h21', if_pos ((vv_ge hc (by omega)).mpr (by omega))]
    by_cases w0 : w = 0
    · rw [if_pos (by rw [w0]; rfl), if_pos w0]
    · rw [if_neg (ne0 w0 (by omega)), if_neg w0]
end LOOKS

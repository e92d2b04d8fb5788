/-- a rule in the reference's rows -/
def RU (k : Nat) (Cs : List CLs) (x92 x93 x94 x95 x96 x97 : FI) : Prop := (∀ cl, cl ∈ Cs → okC cl) ∧ Cs.length ≤ 12 ∧ (flE Cs).length < 300 ∧ ER k x92 x93 (flE Cs) ∧ CRr k x95 x96 x97 0 0 Cs ∧ x94 k = nI Cs.length
theorem RU_RW {k : Nat} {Cs : List CLs} {x92 x93 x94 x95 x96 x97 : FI} (hk : k < 6) (h : RU k Cs x92 x93 x94 x95 x96 x97) : RW (nI k) x92 x93 x94 x95 x96 x97 (some (wF Cs)) := by
  obtain ⟨hok, h12, h300, hER, hCR, h94⟩ := h
  refine ⟨fun e => nn1 (show k < 2000000 by omega) e, fun x75 h10 w y z hy => ?_⟩
  obtain ⟨z', e⟩ := wanted_R (x75 := x75) (x92 := x92) (x93 := x93) (x95 := x95) (x96 := x96) (x97 := x97) hk hy h12 h94 Cs 0 0 5000 z hok (Nat.zero_add _) (by omega) hCR (fun j o hj => by rw [Nat.zero_add]; exact hER j o hj) (by omega)
  refine ⟨z', ?_⟩
  have h10' : x75 (10 : Int32).toNatClampNeg = nI k := h10
  unfold fX12_wanted fX12_wanted_0
  rw [gd_t (by decide), bn_s, h10', bn_s, show (12 : Int32) = nI 12 from rfl, pk_mul]
  exact e
theorem get_lt {L : List StO} {j : Nat} {o : StO} (h : L[j]? = some o) : j < L.length := by
  refine Nat.not_le.mp fun hh => ?_
  rw [List.getElem?_eq_none hh] at h
  cases h
theorem RU_fr {k slot : Nat} {Cs : List CLs} {x92 x93 x94 x95 x96 x97 z92 z93 z94 z95 z96 z97 : FI} (hk : k < slot) (hF : FRR slot x92 x93 x94 x95 x96 x97 z92 z93 z94 z95 z96 z97) (h : RU k Cs x92 x93 x94 x95 x96 x97) : RU k Cs z92 z93 z94 z95 z96 z97 := by
  obtain ⟨hok, h12, h300, hER, hCR, h94⟩ := h
  refine ⟨hok, h12, h300, fun j o hj => ?_, CRr_fr Cs 0 0 (fun j hj => hF.2.1 j (by omega)) hCR, (hF.2.2 k hk).trans h94⟩
  have := get_lt hj
  obtain ⟨a, b⟩ := hER j o hj
  exact ⟨(hF.1 _ (by omega)).1.trans a, (hF.1 _ (by omega)).2.trans b⟩
/-- a scene, in the class's cells -/
def CS (X : XT) (Z : ZT) (o : Nat) (H M K N : Nat) (q : Nat → Nat) (S0 S : SN) (nn : Nat) (nd nh np : Nat → Nat) (c : Nat) (P : Nat → SN) (fo : Int32) (x : Nat) : Prop :=
  (X o 3 = nI c ∧ X o 7 = nI nn ∧ X o 8 = fo ∧ X o 9 = nI x) ∧
  (X (o + 1) 0 = nI H ∧ X (o + 1) 1 = nI K ∧ X (o + 1) 3 = nI N ∧ X (o + 1) 4 = nI M ∧ ∀ j, j < N → X (o + 2) j = nI (q j)) ∧
  RC S0 (X (o + 3)) (X (o + 4)) (X (o + 5)) (X (o + 6)) ∧ RC S (X (o + 7)) (X (o + 8)) (X (o + 9)) (X (o + 10)) ∧
  (∀ j, j < nn → X (o + 12) j = nI (nd j) ∧ X (o + 13) j = nI (nh j) ∧ X (o + 14) j = nI (np j)) ∧
  ∀ j, j < c → ∃ a, Z (o + 11) j = some a ∧ RC (P j) (X a) (X (a + 1)) (X (a + 2)) (X (a + 3))
/-- the same, in the reference's rows -/
def RSc (H M K N : Nat) (q : Nat → Nat) (S0 S : SN) (nn : Nat) (nd nh np : Nat → Nat) (c : Nat) (P : Nat → SN) (fo : Int32) (x : Nat) (x75 x76 x77 x78 x79 x80 x81 x82 x83 x84 x85 x102 : FI) (cc : Int32) : Prop :=
  (x75 0 = nI H ∧ x75 1 = nI (S0 1) ∧ x75 2 = nI K ∧ x75 3 = nI N ∧ x75 4 = nI M ∧ x75 8 = nI nn ∧ x75 9 = nI x ∧ x75 10 = fo) ∧ (∀ j, j < N → x79 j = nI (q j)) ∧ RR S x75 x76 x77 x78 ∧
  (∀ j, j < nn → x80 j = nI (nd j) ∧ x81 j = nI (nh j) ∧ x82 j = nI (np j)) ∧
  ((∀ j, j < 6 → x83 j = nI (S0 (3 + j))) ∧ (∀ j, j < 6 → x84 j = nI (S0 (9 + j))) ∧ ∀ j, j < 36 → x85 j = nI (S0 (15 + j))) ∧ PR P c x102 ∧ cc = nI c
/-- a scene as it can be: no town, or a town -/
def VSc (rc : Nat) (H M K N : Nat) (q : Nat → Nat) (S0 S : SN) (nn : Nat) (nd nh np : Nat → Nat) (c : Nat) (P : Nat → SN) (fo : Int32) (x : Nat) : Prop := K ≤ 9 ∧ VQ N q ∧ x < 2147483648 ∧ c ≤ 20 ∧ nn ≤ 10 ∧ (fo = -1 ∨ ∃ k, k < rc ∧ fo = nI k) ∧ S0 0 = 0 ∧ S0 2 = 0 ∧
  ((H = 0 ∧ M = 0 ∧ N = 0 ∧ nn = 0 ∧ c = 0 ∧ ∀ j, S j = 0) ∨ (VD H M 999 S ∧ VD H M 0 S0 ∧ (∀ j, j < nn → nd j ≤ 60 ∧ nh j < M ∧ np j ≤ H) ∧ ∀ j, j < c → VD H M 999 (P j)))
/-- the scenes that there are -/
def isSc (Z : ZT) (s : Nat) : Prop := s = 16 ∨ ∃ k, k < 4 ∧ Z 31 k = some s
def POOL (n : Nat) (κ : QT) (Z : ZT) : Prop := LY n κ ∧
  (∀ k s, k < 4 → Z 31 k = some s → κ s = (6, 0) ∧ s < n ∧ 114 ≤ s) ∧
  (∀ k k' s, k < 4 → k' < 4 → Z 31 k = some s → Z 31 k' = some s → k = k') ∧
  (∀ s j a, isSc Z s → j < 20 → Z (s + 11) j = some a → κ a = (7, 0) ∧ a < n ∧ 114 ≤ a ∧ ∀ s', isSc Z s' → a ≠ s' + 3 ∧ a ≠ s' + 7) ∧
  (∀ s s' j j' a, isSc Z s → isSc Z s' → j < 20 → j' < 20 → Z (s + 11) j = some a → Z (s' + 11) j' = some a → s = s' ∧ j = j') ∧
  (Z 41 0 = some 42 ∧ Z 41 1 = some 46 ∧ Z 41 2 = some 50 ∧ Z 41 3 = some 54)
def RLS (rc n : Nat) (κ : QT) (X : XT) (Z : ZT) : Prop := ∀ k, k < rc → ∃ ru Lru Cs, Z 15 k = some ru ∧ κ ru = (4, 0) ∧ ru < n ∧ 114 ≤ ru ∧ κ (ru + 1) = (14, Lru) ∧ CW Lru (X (ru + 1)) (wF Cs) ∧ RU k Cs (X 92) (X 93) (X 94) (X 95) (X 96) (X 97)
def IMG (rc k : Nat) (X : XT) (Z : ZT) : Prop := (Z 31 k = none ∧ X 113 k = 0) ∨ ∃ w, Z 31 k = some w ∧ X 113 k ≠ 0 ∧ ∃ cc, ∃ o75 o76 o77 o78 o79 o80 o81 o82 o83 o84 o85 o102 : FI, ∃ H M K N q S0 S nn nd nh np c P fo x, IM k (X 112) cc o75 o76 o77 o78 o79 o80 o81 o82 o83 o84 o85 o102 ∧ VSc rc H M K N q S0 S nn nd nh np c P fo x ∧ CS X Z w H M K N q S0 S nn nd nh np c P fo x ∧ RSc H M K N q S0 S nn nd nh np c P fo x o75 o76 o77 o78 o79 o80 o81 o82 o83 o84 o85 o102 cc
def LIV (rc : Nat) (X : XT) (Z : ZT) : Prop := ∃ H M K N q S0 S nn nd nh np c P fo x, VSc rc H M K N q S0 S nn nd nh np c P fo x ∧ CS X Z 16 H M K N q S0 S nn nd nh np c P fo x ∧ RSc H M K N q S0 S nn nd nh np c P fo x (X 75) (X 76) (X 77) (X 78) (X 79) (X 80) (X 81) (X 82) (X 83) (X 84) (X 85) (X 102) (X 74 43)
/-- what holds between two calls -/
def INV (n : Nat) (κ : QT) (X : XT) (Z : ZT) : Prop := POOL n κ Z ∧ (∃ sz, TX sz (X 1) (X 2) (X 74) (X 91)) ∧ (X 74 26 = 12 ∧ X 74 37 = -1 ∧ X 74 38 = -5) ∧ ∃ rc, rc ≤ 6 ∧ X 0 4 = nI rc ∧ X 74 21 = nI rc ∧ RLS rc n κ X Z ∧ LIV rc X Z ∧ ∀ k, k < 4 → IMG rc k X Z
/-- cells that hold nothing over a call; cells of which a part does -/
def scrC (a : Nat) : Bool := (decide (3 ≤ a) && decide (a ≤ 14)) || (decide (32 ≤ a) && decide (a ≤ 73))
def scr (a : Nat) : Bool := (decide (3 ≤ a) && decide (a ≤ 14)) || (decide (32 ≤ a) && decide (a ≤ 73)) || (decide (86 ≤ a) && decide (a ≤ 90)) || decide (a = 98) || decide (a = 99) || decide (a = 100) || decide (a = 101) || (decide (103 ≤ a) && decide (a ≤ 111))
def mid (a : Nat) : Bool := (decide (74 ≤ a) && decide (a ≤ 78)) || decide (a = 112)
def fix (a : Nat) : Prop := scr a = false ∧ mid a = false
theorem fix_ge {a : Nat} (h : 114 ≤ a) : fix a := by
  constructor
  · unfold scr
    rw [decide_eq_false (show ¬ a ≤ 14 by omega), decide_eq_false (show ¬ a ≤ 73 by omega), decide_eq_false (show ¬ a ≤ 90 by omega), decide_eq_false (show ¬ a = 98 by omega), decide_eq_false (show ¬ a = 99 by omega), decide_eq_false (show ¬ a = 100 by omega), decide_eq_false (show ¬ a = 101 by omega), decide_eq_false (show ¬ a ≤ 111 by omega)]
    simp
  · unfold mid
    rw [decide_eq_false (show ¬ a ≤ 78 by omega), decide_eq_false (show ¬ a = 112 by omega)]
    simp
theorem fix_16 {i : Nat} (h : i ≤ 14) : fix (16 + i) := by
  revert i; unfold fix; decide
def AG (X X' : XT) : Prop := (∀ a, fix a → X' a = X a) ∧ (∀ j, j ≠ 39 → j ≠ 56 → j ≠ 57 → X' 74 j = X 74 j) ∧ (∀ j, j < 11 → X' 75 j = X 75 j) ∧ (∀ j, j < 6 → X' 76 j = X 76 j) ∧ (∀ j, j < 6 → X' 77 j = X 77 j) ∧ (∀ j, j < 36 → X' 78 j = X 78 j) ∧ ∀ j, j < 5200 → X' 112 j = X 112 j
section INV
variable {n rc o k : Nat} {κ : QT} {X X' : XT} {Z Z' : ZT} {H M K N : Nat} {q : Nat → Nat} {S0 S : SN} {nn : Nat} {nd nh np : Nat → Nat} {c : Nat} {P : Nat → SN} {fo : Int32} {x : Nat}
theorem AG_refl : AG X X := ⟨fun _ _ => rfl, fun _ _ _ _ => rfl, fun _ _ => rfl, fun _ _ => rfl, fun _ _ => rfl, fun _ _ => rfl, fun _ _ => rfl⟩
theorem AG_trans {X'' : XT} (h : AG X X') (h2 : AG X' X'') : AG X X'' := ⟨fun a ha => (h2.1 a ha).trans (h.1 a ha), fun j a b d => (h2.2.1 j a b d).trans (h.2.1 j a b d), fun j hj => (h2.2.2.1 j hj).trans (h.2.2.1 j hj), fun j hj => (h2.2.2.2.1 j hj).trans (h.2.2.2.1 j hj), fun j hj => (h2.2.2.2.2.1 j hj).trans (h.2.2.2.2.1 j hj), fun j hj => (h2.2.2.2.2.2.1 j hj).trans (h.2.2.2.2.2.1 j hj), fun j hj => (h2.2.2.2.2.2.2 j hj).trans (h.2.2.2.2.2.2 j hj)⟩
theorem CS_fr (hX : ∀ i, i ≤ 14 → X' (o + i) = X (o + i)) (hp : ∀ j a, j < c → Z (o + 11) j = some a → X' a = X a ∧ X' (a + 1) = X (a + 1) ∧ X' (a + 2) = X (a + 2) ∧ X' (a + 3) = X (a + 3)) (h : CS X Z o H M K N q S0 S nn nd nh np c P fo x) : CS X' Z o H M K N q S0 S nn nd nh np c P fo x := by
  obtain ⟨h1, h2, h3, h4, h5, h6⟩ := h
  have e0 : X' o = X o := hX 0 (by omega)
  refine ⟨by rw [e0]; exact h1, by rw [hX 1 (by omega), hX 2 (by omega)]; exact h2, by rw [hX 3 (by omega), hX 4 (by omega), hX 5 (by omega), hX 6 (by omega)]; exact h3, by rw [hX 7 (by omega), hX 8 (by omega), hX 9 (by omega), hX 10 (by omega)]; exact h4, by rw [hX 12 (by omega), hX 13 (by omega), hX 14 (by omega)]; exact h5, fun j hj => ?_⟩
  obtain ⟨a, ea, ha⟩ := h6 j hj
  obtain ⟨e0, e1, e2, e3⟩ := hp j a hj ea
  exact ⟨a, ea, by rw [e0, e1, e2, e3]; exact ha⟩
theorem CS_ag (hX : ∀ a, fix a → X' a = X a) (ho : o = 16 ∨ 114 ≤ o) (hp : ∀ j a, j < 20 → Z (o + 11) j = some a → 114 ≤ a) (hc : c ≤ 20) (h : CS X Z o H M K N q S0 S nn nd nh np c P fo x) : CS X' Z o H M K N q S0 S nn nd nh np c P fo x := by
  refine CS_fr (fun i hi => hX _ ?_) (fun j a hj ea => ?_) h
  · rcases ho with rfl | ho
    · exact fix_16 hi
    · exact fix_ge (by omega)
  · have := hp j a (by omega) ea
    exact ⟨hX _ (fix_ge (by omega)), hX _ (fix_ge (by omega)), hX _ (fix_ge (by omega)), hX _ (fix_ge (by omega))⟩
theorem RSc_fr {x75 x76 x77 x78 x79 x80 x81 x82 x83 x84 x85 x102 : FI} {z75 z76 z77 z78 : FI} {cc : Int32} (h5 : ∀ j, j < 11 → z75 j = x75 j) (h6 : ∀ j, j < 6 → z76 j = x76 j) (h7 : ∀ j, j < 6 → z77 j = x77 j) (h8 : ∀ j, j < 36 → z78 j = x78 j) (h : RSc H M K N q S0 S nn nd nh np c P fo x x75 x76 x77 x78 x79 x80 x81 x82 x83 x84 x85 x102 cc) : RSc H M K N q S0 S nn nd nh np c P fo x z75 z76 z77 z78 x79 x80 x81 x82 x83 x84 x85 x102 cc := by
  obtain ⟨⟨a0, a1, a2, a3, a4, a8, a9, a10⟩, b, d, e⟩ := h
  exact ⟨⟨(h5 0 (by omega)).trans a0, (h5 1 (by omega)).trans a1, (h5 2 (by omega)).trans a2, (h5 3 (by omega)).trans a3, (h5 4 (by omega)).trans a4, (h5 8 (by omega)).trans a8, (h5 9 (by omega)).trans a9, (h5 10 (by omega)).trans a10⟩, b, RR_same d h5 h6 h7 h8, e⟩
theorem pool_16 (hP : POOL n κ Z) : ∀ j a, j < 20 → Z (16 + 11) j = some a → 114 ≤ a := fun j a hj ea => (hP.2.2.2.1 16 j a (Or.inl rfl) hj ea).2.2.1
theorem pool_w (hP : POOL n κ Z) {w : Nat} (hk : k < 4) (hw : Z 31 k = some w) : ∀ j a, j < 20 → Z (w + 11) j = some a → 114 ≤ a := fun j a hj ea => (hP.2.2.2.1 w j a (Or.inr ⟨k, hk, hw⟩) hj ea).2.2.1
theorem LIV_ag (hP : POOL n κ Z) (hA : AG X X') (h : LIV rc X Z) : LIV rc X' Z := by
  obtain ⟨H, M, K, N, q, S0, S, nn, nd, nh, np, c, P, fo, x, hV, hC, hR⟩ := h
  obtain ⟨g, g74, g75, g76, g77, g78, g112⟩ := hA
  refine ⟨H, M, K, N, q, S0, S, nn, nd, nh, np, c, P, fo, x, hV, CS_ag g (Or.inl rfl) (pool_16 hP) hV.2.2.2.1 hC, ?_⟩
  rw [g 79 (by unfold fix; decide), g 80 (by unfold fix; decide), g 81 (by unfold fix; decide), g 82 (by unfold fix; decide), g 83 (by unfold fix; decide), g 84 (by unfold fix; decide), g 85 (by unfold fix; decide), g 102 (by unfold fix; decide), g74 43 (by omega) (by omega) (by omega)]
  exact RSc_fr g75 g76 g77 g78 hR
theorem IM_fr {cc : Int32} {o75 o76 o77 o78 o79 o80 o81 o82 o83 o84 o85 o102 : FI} {x112 z112 : FI} (hk : k < 4) (hz : ∀ j, j < 5200 → z112 j = x112 j) (h : IM k x112 cc o75 o76 o77 o78 o79 o80 o81 o82 o83 o84 o85 o102) : IM k z112 cc o75 o76 o77 o78 o79 o80 o81 o82 o83 o84 o85 o102 := by
  obtain ⟨a1, a2, a3, a4, a5, a6, a7, a8, a9, a10, a11, a12, a13⟩ := h
  exact ⟨fun j hj => (hz _ (by omega)).trans (a1 j hj), fun j hj => (hz _ (by omega)).trans (a2 j hj), fun j hj => (hz _ (by omega)).trans (a3 j hj), fun j hj => (hz _ (by omega)).trans (a4 j hj), (hz _ (by omega)).trans a5, fun j hj => (hz _ (by omega)).trans (a6 j hj), fun j hj => (hz _ (by omega)).trans (a7 j hj), fun j hj => (hz _ (by omega)).trans (a8 j hj), fun j hj => (hz _ (by omega)).trans (a9 j hj), fun j hj => (hz _ (by omega)).trans (a10 j hj), fun j hj => (hz _ (by omega)).trans (a11 j hj), fun j hj => (hz _ (by omega)).trans (a12 j hj), fun j hj => (hz _ (by omega)).trans (a13 j hj)⟩
theorem IMG_ag (hP : POOL n κ Z) (hk : k < 4) (hf : ∀ a, fix a → X' a = X a) (g112 : ∀ j, j < 5200 → X' 112 j = X 112 j) (h : IMG rc k X Z) : IMG rc k X' Z := by
  have e113 : X' 113 = X 113 := hf 113 (by unfold fix; decide)
  rcases h with ⟨a, b⟩ | ⟨w, a, b, cc, o75, o76, o77, o78, o79, o80, o81, o82, o83, o84, o85, o102, H, M, K, N, q, S0, S, nn, nd, nh, np, c, P, fo, x, hI, hV, hC, hR⟩
  · exact Or.inl ⟨a, by rw [e113]; exact b⟩
  · exact Or.inr ⟨w, a, by rw [e113]; exact b, cc, o75, o76, o77, o78, o79, o80, o81, o82, o83, o84, o85, o102, H, M, K, N, q, S0, S, nn, nd, nh, np, c, P, fo, x, IM_fr hk g112 hI, hV, CS_ag hf (Or.inr (hP.2.1 k w hk a).2.2) (pool_w hP hk a) hV.2.2.2.1 hC, hR⟩
theorem RLS_ag (hf : ∀ a, fix a → X' a = X a) (h : RLS rc n κ X Z) : RLS rc n κ X' Z := fun k hk => by
  obtain ⟨ru, Lru, W, a1, a2, a3, a4, a5, a6, a7⟩ := h k hk
  refine ⟨ru, Lru, W, a1, a2, a3, a4, a5, by rw [hf _ (fix_ge (by omega))]; exact a6, ?_⟩
  rw [hf 92 (by unfold fix; decide), hf 93 (by unfold fix; decide), hf 94 (by unfold fix; decide), hf 95 (by unfold fix; decide), hf 96 (by unfold fix; decide), hf 97 (by unfold fix; decide)]
  exact a7
theorem INV_ag (hA : AG X X') (h : INV n κ X Z) : INV n κ X' Z := by
  obtain ⟨hP, ⟨sz, hT⟩, ⟨h26, h37, h38⟩, rc, hrc, h04, h21, hR, hL, hI⟩ := h
  have f0 : fix 0 := by unfold fix; decide
  have f1 : fix 1 := by unfold fix; decide
  have f2 : fix 2 := by unfold fix; decide
  have f91 : fix 91 := by unfold fix; decide
  refine ⟨hP, ⟨sz, ?_⟩, ⟨(hA.2.1 26 (by omega) (by omega) (by omega)).trans h26, (hA.2.1 37 (by omega) (by omega) (by omega)).trans h37, (hA.2.1 38 (by omega) (by omega) (by omega)).trans h38⟩, rc, hrc, by rw [hA.1 0 f0]; exact h04, (hA.2.1 21 (by omega) (by omega) (by omega)).trans h21, RLS_ag hA.1 hR, LIV_ag hP hA hL, fun k hk => IMG_ag hP hk hA.1 hA.2.2.2.2.2.2 (hI k hk)⟩
  rw [hA.1 1 f1, hA.1 2 f2, hA.1 91 f91]
  exact ⟨hT.1, hT.2.1, (hA.2.1 17 (by omega) (by omega) (by omega)).trans hT.2.2.1, hT.2.2.2⟩
/-- an overlay that changes nothing but what it may -/
def ovOK {α : Type} (f : Nat → Prop) (X : Nat → α) : List Nat → List α → Prop
  | k :: ks, x :: xs => (f k ∨ x = X k) ∧ ovOK f X ks xs
  | _, _ => True
theorem ov_ok {α : Type} {f : Nat → Prop} {X : Nat → α} : ∀ {ks : List Nat} {xs : List α}, ovOK f X ks xs → ∀ a, ¬ f a → ov X ks xs a = X a
  | [], _, _, _, _ => by unfold ov; rfl
  | _ :: _, [], _, _, _ => by unfold ov; rfl
  | k :: ks, x :: xs, h, a, ha => by
    rw [ov_cons]
    by_cases e : a = k
    · subst e; rw [up_eq]; exact h.1.resolve_left ha
    · rw [up_ne e]; exact ov_ok h.2 a ha
theorem scrC_f {a : Nat} (h : fix a) : scrC a = false := by
  have h1 := h.1
  unfold scr at h1
  unfold scrC
  cases hh : ((decide (3 ≤ a) && decide (a ≤ 14)) || (decide (32 ≤ a) && decide (a ≤ 73))) with
  | false => rfl
  | true => rw [hh] at h1; simp at h1
theorem AG_C (g : ∀ a, scrC a = false → X' a = X a) : AG X X' := ⟨fun a ha => g a (scrC_f ha), fun j _ _ _ => by rw [g 74 (by decide)], fun j _ => by rw [g 75 (by decide)], fun j _ => by rw [g 76 (by decide)], fun j _ => by rw [g 77 (by decide)], fun j _ => by rw [g 78 (by decide)], fun j _ => by rw [g 112 (by decide)]⟩
theorem AG_Fr {X1 : XT} (g : ∀ a, scrC a = false → X1 a = X a) (hf : ∀ a, fix a → X' a = X1 a) (hF : Fr (X 74) (X 75) (X 76) (X 77) (X 78) (X 112) (X' 74) (X' 75) (X' 76) (X' 77) (X' 78) (X' 112)) : AG X X' := ⟨fun a ha => (hf a ha).trans (g a (scrC_f ha)), fun j _ a b => hF.1 j a b, hF.2.1, hF.2.2.1, hF.2.2.2.1, hF.2.2.2.2.1, hF.2.2.2.2.2⟩
theorem fix_n {a : Nat} (h : fix a) : ¬ (scr a = true ∨ mid a = true) := fun hh => by
  rcases hh with hh | hh
  · rw [h.1] at hh; cases hh
  · rw [h.2] at hh; cases hh
theorem scrC_n {a : Nat} (h : scrC a = false) : ¬ scrC a = true := fun hh => by rw [h] at hh; cases hh
/-- no town is told; one is -/
def UT (X : XT) : Prop := X 17 0 = nI 0 ∧ X 17 4 = nI 0 ∧ X 75 0 = nI 0 ∧ X 75 4 = nI 0
def TT' (X : XT) : Prop := ∀ W, RW (X 75 10) (X 92) (X 93) (X 94) (X 95) (X 96) (X 97) W → ∃ H M K N q S, QQ H M K N 999 q S W (X 17) (X 18) (X 23) (X 24) (X 25) (X 26) (X 74) (X 75) (X 76) (X 77) (X 78) (X 79) (X 92) (X 93) (X 94) (X 95) (X 96) (X 97)
theorem liv_tell (h37 : X 74 37 = -1) (h38 : X 74 38 = -5) (hV : VSc rc H M K N q S0 S nn nd nh np c P fo x) (hC : CS X Z 16 H M K N q S0 S nn nd nh np c P fo x) (hR : RSc H M K N q S0 S nn nd nh np c P fo x (X 75) (X 76) (X 77) (X 78) (X 79) (X 80) (X 81) (X 82) (X 83) (X 84) (X 85) (X 102) (X 74 43)) : UT X ∨ TT' X := by
  obtain ⟨k9, hQ, hx, hc, hn, hfo, s0, s2, ht⟩ := hV
  obtain ⟨_, ⟨a0, a1, a3, a4, aq⟩, _, hRC, _⟩ := hC
  obtain ⟨⟨r0, r1, r2, r3, r4, r8, r9, r10⟩, rq, hRR, _⟩ := hR
  rcases ht with ⟨rfl, rfl, rfl, rfl, rfl, hS⟩ | ⟨hD, _⟩
  · exact Or.inl ⟨a0, a4, r0, r4⟩
  · exact Or.inr fun W hW => ⟨H, M, K, N, q, S, hD, Nat.le_refl _, ⟨hQ, k9, a0, a1, a3, a4, aq⟩, ⟨hQ, k9, r0, r2, r3, r4, rq⟩, hRC, hRR, hW, h38, h37⟩
/-- which rule is in force -/
def FON (X : XT) : Prop := fX11_isWithin (X 16 8) 0 (X 0 4 - 1) = some 0 ∧ RW (X 75 10) (X 92) (X 93) (X 94) (X 95) (X 96) (X 97) none
def FOR (n : Nat) (κ : QT) (X : XT) (Z : ZT) (ru Lru : Nat) (W : (Nat → Int64) → Int64) : Prop := (fX11_isWithin (X 16 8) 0 (X 0 4 - 1) = some 1 ∧ inb (X 16 8) 6 = true ∧ Z 15 (X 16 8).toNatClampNeg = some ru) ∧ κ ru = (4, 0) ∧ ru < n ∧ κ (ru + 1) = (14, Lru) ∧ 114 ≤ ru ∧ CW Lru (X (ru + 1)) W ∧ RW (X 75 10) (X 92) (X 93) (X 94) (X 95) (X 96) (X 97) (some W)
theorem liv_fo (hrc : rc ≤ 6) (h04 : X 0 4 = nI rc) (hRL : RLS rc n κ X Z) (hV : VSc rc H M K N q S0 S nn nd nh np c P fo x) (hC : CS X Z 16 H M K N q S0 S nn nd nh np c P fo x) (hR : RSc H M K N q S0 S nn nd nh np c P fo x (X 75) (X 76) (X 77) (X 78) (X 79) (X 80) (X 81) (X 82) (X 83) (X 84) (X 85) (X 102) (X 74 43)) : FON X ∨ ∃ ru Lru W, FOR n κ X Z ru Lru W := by
  obtain ⟨k9, hQ, hx, hc, hn, hfo, _⟩ := hV
  obtain ⟨⟨_, _, a8, _⟩, _⟩ := hC
  obtain ⟨⟨r0, r1, r2, r3, r4, r8, r9, r10⟩, _⟩ := hR
  unfold FON FOR
  rw [a8, r10, h04]
  rcases hfo with rfl | ⟨k, hk, rfl⟩
  · refine Or.inl ⟨?_, rfl⟩
    rw [p_isWithin, if_pos (by decide)]
  · obtain ⟨ru, Lru, Cs, b1, b2, b3, b4, b5, b6, b7⟩ := hRL k hk
    refine Or.inr ⟨ru, Lru, wF Cs, ⟨?_, inbN (by omega) (by decide), by rw [clN (by omega)]; exact b1⟩, b2, b3, b5, b4, b6, RU_RW (by omega) b7⟩
    rw [p_isWithin, if_neg (nI_pos (by omega)), if_neg]
    rw [show (1 : Int32) = nI 1 from rfl, nsub (by omega)]
    exact nI_nlt (by omega) (by omega)
/-- a call of a method -/
def CL (l : Launch) (b0 : Nat) (D : GD) (y : MethodName) (cc : ByteArray) (nL : Nat) (av : List Value) (h h' : HS) (r : Int32) : Prop := ∃ fr lo mc ms, fr ≤ 203 ∧ lo ≤ 10066 ∧ mc ≤ 175 ∧ ms ≤ 2346 ∧ gMi l y cc nL (some FieldType.int) fr lo mc ms b0 D av h h' r
theorem CL_mk {l : Launch} {b0 : Nat} {D : GD} {y : MethodName} {cc : ByteArray} {nL fr lo mc ms : Nat} {av : List Value} {h h' : HS} {r : Int32} (hM : gMi l y cc nL (some FieldType.int) fr lo mc ms b0 D av h h' r) (h1 : fr ≤ 203) (h2 : lo ≤ 10066) (h3 : mc ≤ 175) (h4 : ms ≤ 2346) : CL l b0 D y cc nL av h h' r := ⟨fr, lo, mc, ms, h1, h2, h3, h4, hM⟩
theorem CLR_mk {l : Launch} {b0 : Nat} {D : GD} {y : MethodName} {cc : ByteArray} {nL fr lo mc ms : Nat} {av : List Value} {n : Nat} {κ : QT} {X : XT} {Y : YT} {Z : ZT} {h' : HS} {r : Int32} (hL : LY n κ) (hM : gMi l y cc nL (some FieldType.int) fr lo mc ms b0 D av (n, κ, X, Y, Z) h' r) (h1 : fr ≤ 203) (h2 : lo ≤ 10066) (h3 : mc ≤ 175) (h4 : ms ≤ 2346) : LY n κ ∧ CL l b0 D y cc nL av (n, κ, X, Y, Z) h' r := ⟨hL, CL_mk hM h1 h2 h3 h4⟩
def CALL (l : Launch) (b0 : Nat) (D : GD) (yc : MethodName) (cc : ByteArray) (nc : Nat) (yr : MethodName) (cr : ByteArray) (nr : Nat) (av : List Value) (n : Nat) (κ : QT) (X : XT) (Y : YT) (Z : ZT) : Prop := ∃ r n1 κ1 X1 Y1 Z1 n2 κ2 X2 Y2 Z2, CL l b0 D yc cc nc (.ref (b0 + 0) :: av) (n, κ, X, Y, Z) (n1, κ1, X1, Y1, Z1) r ∧ (LY n1 κ1 ∧ CL l b0 D yr cr nr (.ref (b0 + 74) :: av) (n1, κ1, X1, Y1, Z1) (n2, κ2, X2, Y2, Z2) r) ∧ INV n2 κ2 X2 Z2
theorem u_told {x : FI} (h : x 0 = nI 0) : fX11_isTold x = some (nI 0) := by
  unfold fX11_isTold fX11_isTold_0
  rw [h, if_pos (by decide)]
  first | rfl | (rw [gd_t (by decide)]; rfl)
theorem u_town {x : FI} (h : x 0 = nI 0) : fX12_isTown x = some (nI 0) := by
  have h' : x (0 : Int32).toNatClampNeg = nI 0 := h
  unfold fX12_isTown fX12_isTown_0
  rw [gd_t (by decide), h', if_pos (by decide)]
  first | rfl | (rw [gd_t (by decide)]; rfl)
theorem u_house {x y : FI} (h : x 4 = nI 0) (h2 : y 4 = nI 0) (v : Int32) : fX11_isHouse x v = some (nI 0) ∧ fX12_isHouse y v = some (nI 0) := by
  rcases p_house (M := 0) (by omega) h h2 v with ⟨a, ha, _⟩ | e
  · omega
  · exact e
theorem u_two {x y : FI} (h : x 4 = nI 0) (h2 : y 4 = nI 0) (v w : Int32) : fX11_areTwo x v w = some (nI 0) ∧ fX12_areTwo y v w = some (nI 0) := by
  rcases p_two (M := 0) (by omega) h h2 v w with ⟨a, b, ha, _⟩ | e
  · omega
  · exact e
end INV

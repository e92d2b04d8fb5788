section CPYC
variable {n : Nat} {κ : QT} {X : XT} {Y : YT} {Z : ZT} {b0 : Nat} {D : GD} {H M K N : Nat} {q : Nat → Nat} {S0 S : SN} {nn : Nat} {nd nh np : Nat → Nat} {c : Nat} {P : Nat → SN} {fo : Int32} {x : Nat} {t u : Nat}
theorem cpT_out {X : XT} {t u a : Nat} (h : a < t ∨ t + 5 < a) : cpT X t u a = X a := by
  have e0 : a ≠ t := by omega
  have e1 : a ≠ t + 1 := by omega
  have e2 : a ≠ t + 2 := by omega
  have e3 : a ≠ t + 3 := by omega
  have e4 : a ≠ t + 4 := by omega
  have e5 : a ≠ t + 5 := by omega
  simp [cpT, ov, e0, e1, e2, e3, e4, e5]
theorem cpT_0 {X : XT} {t u : Nat} : cpT X t u t = upd (upd (upd (upd (X t) 0 (X u 0)) 1 (X u 1)) 3 (X u 3)) 4 (X u 4) := by simp [cpT, ov]
theorem cpT_1 {X : XT} {t u : Nat} : cpT X t u (t + 1) = va_cpy (X (u + 1)) (X (t + 1)) 0 0 12 := by simp [cpT, ov]
theorem cpT_2 {X : XT} {t u : Nat} : cpT X t u (t + 2) = upd (upd (upd (X (t + 2)) 0 (X (u + 2) 0)) 1 (X (u + 2) 1)) 2 (X (u + 2) 2) := by simp [cpT, ov]
theorem cpT_3 {X : XT} {t u : Nat} : cpT X t u (t + 3) = va_cpy (X (u + 3)) (X (t + 3)) 0 0 6 := by simp [cpT, ov]
theorem cpT_4 {X : XT} {t u : Nat} : cpT X t u (t + 4) = va_cpy (X (u + 4)) (X (t + 4)) 0 0 6 := by simp [cpT, ov]
theorem cpT_5 {X : XT} {t u : Nat} : cpT X t u (t + 5) = va_cpy (X (u + 5)) (X (t + 5)) 0 0 36 := by simp [cpT, ov]
theorem RC_mkc {S : SN} {x0 x1 x2 x3 y0 y1 y2 y3 : FI} (h : RC S x0 x1 x2 x3) : RC S (upd (upd (upd y0 0 (x0 0)) 1 (x0 1)) 2 (x0 2)) (va_cpy x1 y1 0 0 6) (va_cpy x2 y2 0 0 6) (va_cpy x3 y3 0 0 36) := by
  refine ⟨fun j hj => ?_, fun j hj => (cpy_at hj).trans (h.2.1 j hj), fun j hj => (cpy_at hj).trans (h.2.2.1 j hj), fun j hj => (cpy_at hj).trans (h.2.2.2 j hj)⟩
  match j, hj with
  | 0, _ => exact h.1 0 (by omega)
  | 1, _ => exact h.1 1 (by omega)
  | 2, _ => exact h.1 2 (by omega)
  | j + 3, hj => omega
theorem RC_sv {S : SN} {X : XT} {a : Nat} : RC S (X a) (X (a + 1)) (X (a + 2)) (X (a + 3)) ↔ ∀ j, j < 51 → sv X a j = nI (S j) := by
  constructor
  · intro h j hj
    unfold sv
    by_cases c0 : j < 3
    · rw [if_pos c0]; exact h.1 j c0
    rw [if_neg c0]
    by_cases c1 : j < 9
    · rw [if_pos c1, h.2.1 (j - 3) (by omega), show 3 + (j - 3) = j by omega]
    rw [if_neg c1]
    by_cases c2 : j < 15
    · rw [if_pos c2, h.2.2.1 (j - 9) (by omega), show 9 + (j - 9) = j by omega]
    rw [if_neg c2, if_pos hj, h.2.2.2 (j - 15) (by omega), show 15 + (j - 15) = j by omega]
  · intro h
    refine ⟨fun j hj => ?_, fun j hj => ?_, fun j hj => ?_, fun j hj => ?_⟩
    · have e := h j (by omega)
      unfold sv at e
      rw [if_pos hj] at e
      exact e
    · have e := h (3 + j) (by omega)
      unfold sv at e
      rw [if_neg (by omega), if_pos (by omega), show 3 + j - 3 = j by omega] at e
      exact e
    · have e := h (9 + j) (by omega)
      unfold sv at e
      rw [if_neg (by omega), if_neg (by omega), if_pos (by omega), show 9 + j - 9 = j by omega] at e
      exact e
    · have e := h (15 + j) (by omega)
      unfold sv at e
      rw [if_neg (by omega), if_neg (by omega), if_neg (by omega), if_pos (by omega), show 15 + j - 15 = j by omega] at e
      exact e
theorem cpB_out {X : XT} {a : Nat} (h0 : a ≠ t) (h2 : a < t + 12 ∨ t + 14 < a) : cpB X t u a = X a := by
  unfold cpB cpB4 cpB3 cpB2 cpB1 cpB0
  rw [up_ne h0, up_ne h0, up_ne (by omega), up_ne (by omega), up_ne (by omega), up_ne h0]
theorem cpB_t {X : XT} (h : t + 14 < u ∨ u + 14 < t) : cpB X t u t = upd (upd (upd (X t) 7 (X u 7)) 8 (X u 8)) 9 (X u 9) := by
  have o4 : cpB4 X t u u = X u := by
    unfold cpB4 cpB3 cpB2 cpB1 cpB0
    rw [up_ne (by omega), up_ne (by omega), up_ne (by omega), up_ne (by omega), up_ne (by omega)]
  have o3 : cpB3 X t u u = X u := by
    unfold cpB3 cpB2 cpB1 cpB0
    rw [up_ne (by omega), up_ne (by omega), up_ne (by omega), up_ne (by omega)]
  have p3 : cpB3 X t u t = upd (X t) 7 (X u 7) := by
    unfold cpB3 cpB2 cpB1 cpB0
    rw [up_ne (by omega), up_ne (by omega), up_ne (by omega), up_eq]
  unfold cpB
  rw [up_eq, o4]
  unfold cpB4
  rw [up_eq, o3, p3]
theorem cpB_12 {X : XT} (h : t + 14 < u ∨ u + 14 < t) : cpB X t u (t + 12) = va_cpy (X (u + 12)) (X (t + 12)) 0 0 10 := by
  unfold cpB cpB4 cpB3 cpB2
  rw [up_ne (by omega), up_ne (by omega), up_ne (by omega), up_ne (by omega)]
  unfold cpB1
  rw [up_eq]
  unfold cpB0
  rw [up_ne (by omega), up_ne (by omega)]
  rfl
theorem cpB_13 {X : XT} (h : t + 14 < u ∨ u + 14 < t) : cpB X t u (t + 13) = va_cpy (X (u + 13)) (X (t + 13)) 0 0 10 := by
  unfold cpB cpB4 cpB3
  rw [up_ne (by omega), up_ne (by omega), up_ne (by omega)]
  unfold cpB2
  rw [up_eq]
  unfold cpB1 cpB0
  rw [up_ne (by omega), up_ne (by omega), up_ne (by omega), up_ne (by omega)]
  rfl
theorem cpB_14 {X : XT} (h : t + 14 < u ∨ u + 14 < t) : cpB X t u (t + 14) = va_cpy (X (u + 14)) (X (t + 14)) 0 0 10 := by
  unfold cpB cpB4
  rw [up_ne (by omega), up_ne (by omega)]
  unfold cpB3
  rw [up_eq]
  unfold cpB2 cpB1 cpB0
  rw [up_ne (by omega), up_ne (by omega), up_ne (by omega), up_ne (by omega), up_ne (by omega), up_ne (by omega)]
  rfl
theorem cpA_out {X : XT} {a : Nat} (h : a < t ∨ t + 10 < a) : cpA X t u a = X a := by
  unfold cpA
  rw [up_ne (by omega), cpS_out (by omega), cpT_out (by omega)]
theorem cpA_t {X : XT} (h : t + 14 < u ∨ u + 14 < t) : cpA X t u t = upd (X t) 3 (X u 3) := by
  unfold cpA
  rw [up_eq, cpS_out (by omega), cpS_out (by omega), cpT_out (by omega), cpT_out (by omega)]
theorem cpA_lo {X : XT} {i : Nat} (h1 : 1 ≤ i) (h : i ≤ 6) : cpA X t u (t + i) = cpT X (t + 1) (u + 1) (t + i) := by
  unfold cpA
  rw [up_ne (by omega), cpS_out (by omega)]
theorem cpA_hi {X : XT} {i : Nat} (h1 : 7 ≤ i) : cpA X t u (t + i) = cpS (cpT X (t + 1) (u + 1)) (t + 7) (u + 7) (t + i) := by
  unfold cpA
  rw [up_ne (by omega)]
/-- a rule's steps lie beside a scene -/
theorem hd64 (hL : LY n κ) {s ru : Nat} (ks : κ s = (6, 0)) (ns : s < n) (kr : κ ru = (4, 0)) (nr : ru < n) : ru + 1 < s ∨ s + 14 < ru + 1 := by
  obtain ⟨_, ⟨L, r1⟩, r2⟩ := hL.2.2.2.2.2 ru nr kr
  have n0 : s ≠ ru + 1 := fun e => by rw [e, r1] at ks; cases ks
  have m0 : ru ≠ s := fun e => by rw [e, ks] at kr; cases kr
  have m1 : ru ≠ s + 1 := fun e => by rw [e, LC1 hL ks ns] at kr; cases kr
  have m2 : ru ≠ s + 2 := fun e => by rw [e, LC2 hL ks ns] at kr; cases kr
  have m3 : ru ≠ s + 3 := fun e => by rw [e, LC3 hL ks ns] at kr; cases kr
  have m4 : ru ≠ s + 4 := fun e => by rw [e, LC4 hL ks ns] at kr; cases kr
  have m5 : ru ≠ s + 5 := fun e => by rw [e, LC5 hL ks ns] at kr; cases kr
  have m6 : ru ≠ s + 6 := fun e => by rw [e, LC6 hL ks ns] at kr; cases kr
  have m7 : ru ≠ s + 7 := fun e => by rw [e, LC7 hL ks ns] at kr; cases kr
  have m8 : ru ≠ s + 8 := fun e => by rw [e, LC8 hL ks ns] at kr; cases kr
  have m9 : ru ≠ s + 9 := fun e => by rw [e, LC9 hL ks ns] at kr; cases kr
  have m10 : ru ≠ s + 10 := fun e => by rw [e, LC10 hL ks ns] at kr; cases kr
  have m11 : ru ≠ s + 11 := fun e => by rw [e, LC11 hL ks ns] at kr; cases kr
  have m12 : ru ≠ s + 12 := fun e => by rw [e, LC12 hL ks ns] at kr; cases kr
  have m13 : ru ≠ s + 13 := fun e => by rw [e, LC13 hL ks ns] at kr; cases kr
  omega
theorem sc_k (hP : POOL n κ Z) {s : Nat} (h : isSc Z s) : κ s = (6, 0) ∧ s < n ∧ s + 14 < n ∧ (s = 16 ∨ 114 ≤ s) := by
  rcases h with rfl | ⟨k, hk, e⟩
  · exact ⟨kk_16 hP.1, kn_16 hP.1, by have := hP.1.1; omega, Or.inl rfl⟩
  · obtain ⟨a1, a2, a3⟩ := hP.2.1 k s hk e
    exact ⟨a1, a2, (hP.1.2.2.2.2.1 s a2 a1).1, Or.inr a3⟩
/-- what the copy of a scene leaves -/
def CPQ (n : Nat) (κ : QT) (X : XT) (Z : ZT) (t : Nat) (H M K N : Nat) (q : Nat → Nat) (S0 S : SN) (nn : Nat) (nd nh np : Nat → Nat) (c : Nat) (P : Nat → SN) (fo : Int32) (x : Nat) (n3 : Nat) (κ3 : QT) (X' : XT) (Z3 : ZT) : Prop := POOL n3 κ3 Z3 ∧ n ≤ n3 ∧ (∀ a, a < n → κ3 a = κ a) ∧ (∀ a, a ≠ t + 11 → Z3 a = Z a) ∧ CS X' Z3 t H M K N q S0 S nn nd nh np c P fo x ∧ (∀ s, isSc Z s → s ≠ t → (∀ i, i ≤ 14 → X' (s + i) = X (s + i)) ∧ ∀ j a, j < 20 → Z (s + 11) j = some a → X' a = X a ∧ X' (a + 1) = X (a + 1) ∧ X' (a + 2) = X (a + 2) ∧ X' (a + 3) = X (a + 3)) ∧ (∀ ru, κ ru = (4, 0) → ru < n → 114 ≤ ru → X' (ru + 1) = X (ru + 1)) ∧ ∀ a, a < 114 → (a < t ∨ t + 14 < a) → X' a = X a
theorem POOL_cp {n3 c : Nat} {κ3 : QT} {X0 X3 : XT} {Z3 : ZT} (hP : POOL n κ Z) (ht : isSc Z t) (hJ : LJ n κ X0 Z t u c n3 κ3 X3 Z3) : POOL n3 κ3 Z3 := by
  obtain ⟨hL, p1, p2, p3, p4, p5⟩ := id hP
  obtain ⟨j1, j2, j3, j4, j5, j6, j7, _⟩ := hJ
  obtain ⟨tk, tn, tn', t16⟩ := sc_k hP ht
  have e31 : Z3 31 = Z 31 := j4 31 (by omega)
  have hs : ∀ s, isSc Z3 s ↔ isSc Z s := fun s => by unfold isSc; rw [e31]
  have cs : ∀ s j a, isSc Z s → j < 20 → Z3 (s + 11) j = some a → Z (s + 11) j = some a ∨ (s = t ∧ n ≤ a ∧ κ3 a = (7, 0) ∧ a < n3) := fun s j a hsc hj e => by
    by_cases es : s = t
    · subst es
      rcases j6 j a e with h | ⟨a1, a2, a3, _⟩
      · exact Or.inl h
      · exact Or.inr ⟨rfl, a1, a2, a3⟩
    · rw [j4 _ (by omega)] at e
      exact Or.inl e
  refine ⟨j1, fun k s hk e => ?_, fun k k' s hk hk' e e' => ?_, fun s j a hsc hj e => ?_, fun s s' j j' a hsc hsc' hj hj' e e' => ?_, by rw [j4 41 (by omega)]; exact p5⟩
  · rw [e31] at e
    obtain ⟨a1, a2, a3⟩ := p1 k s hk e
    exact ⟨(j3 s a2).trans a1, by omega, a3⟩
  · rw [e31] at e e'
    exact p2 k k' s hk hk' e e'
  · have g := (hs s).mp hsc
    rcases cs s j a g hj e with e1 | ⟨_, a1, a2, a3⟩
    · obtain ⟨a1, a2, a3, a4⟩ := p3 s j a g hj e1
      exact ⟨(j3 a a2).trans a1, by omega, a3, fun s' hs' => a4 s' ((hs s').mp hs')⟩
    · refine ⟨a2, a3, by have := hL.1; omega, fun s' hs' => ?_⟩
      have := (sc_k hP ((hs s').mp hs')).2.2.1
      omega
  · have g := (hs s).mp hsc
    have g' := (hs s').mp hsc'
    rcases cs s j a g hj e with e1 | ⟨es, a1, _⟩
    · rcases cs s' j' a g' hj' e' with e2 | ⟨es', a1', _⟩
      · exact p4 s s' j j' a g g' hj hj' e1 e2
      · have := (p3 s j a g hj e1).2.1
        omega
    · rcases cs s' j' a g' hj' e' with e2 | ⟨es', a1', _⟩
      · have := (p3 s' j' a g' hj' e2).2.1
        omega
      · subst es; subst es'
        exact ⟨rfl, j7 j j' a hj hj' e e'⟩
theorem copyS (l : Launch) (hP : POOL n κ Z) (ht : isSc Z t) (hu : isSc Z u) (htu : t ≠ u) (hN : N ≤ 12) (hnn : nn ≤ 10) (hc : c ≤ 20) (hC : CS X Z u H M K N q S0 S nn nd nh np c P fo x) : ∃ n3 κ3 X' Z3, gMv l yX6_copy cX6_copy 3 none 3 82 160 2160 b0 D [.ref (b0 + t), .ref (b0 + u)] (n, κ, X, Y, Z) (n3, κ3, X', Y, Z3) ∧ CPQ n κ X Z t H M K N q S0 S nn nd nh np c P fo x n3 κ3 X' Z3 := by
  obtain ⟨hL, p1, p2, p3, p4, p5⟩ := id hP
  obtain ⟨tk, tn, tn', t16⟩ := sc_k hP ht
  obtain ⟨uk, un, un', u16⟩ := sc_k hP hu
  have sep := hd66 hL tk tn uk un htu
  obtain ⟨⟨b1, b2, b3, b4⟩, ⟨t0, t1, t3, t4, tq⟩, c3, c4, c5, c6⟩ := hC
  have A2 : ∀ j b, j < 20 → Z (t + 11) j = some b → κ b = (7, 0) ∧ b < n ∧ b ≠ t + 3 ∧ b ≠ t + 7 ∧ b ≠ u + 3 ∧ b ≠ u + 7 := fun j b hj e => by
    obtain ⟨a1, a2, a3, a4⟩ := p3 t j b ht hj e
    exact ⟨a1, a2, (a4 t ht).1, (a4 t ht).2, (a4 u hu).1, (a4 u hu).2⟩
  have A4 : ∀ j, j < c → ∃ a, Z (u + 11) j = some a ∧ κ a = (7, 0) ∧ a < n ∧ ∀ j' b, j' < 20 → Z (t + 11) j' = some b → b ≠ a := fun j hj => by
    obtain ⟨a, ea, _⟩ := c6 j hj
    obtain ⟨a1, a2, a3, a4⟩ := p3 u j a hu (by omega) ea
    refine ⟨a, ea, a1, a2, fun j' b hj' e eb => ?_⟩
    subst eb
    exact htu (p4 t u j' j b ht hu hj' (by omega) e ea).1
  obtain ⟨n3, κ3, X3, Z3, hJ, mC⟩ := c_copyE l (X := X) (Y := Y) (Z := Z) (b0 := b0) (D := D) hL tk tn uk un htu (show c < 21 by omega) (by rw [cpA_t sep, pk_us]; exact b1) A2 (fun j j' b hj hj' e e' => (p4 t t j j' b ht ht hj hj' e e').2) A4
  have hP3 := POOL_cp hP ht hJ
  obtain ⟨j1, j2, j3, j4, j5, j6, j7, j8, j9⟩ := hJ
  -- cells beside the scene and its past
  have cell : ∀ a, a < n → (∀ j b, j < 20 → Z (t + 11) j = some b → a < b ∨ b + 3 < a) → X3 a = cpA X t u a := j8
  have inS : ∀ s i, isSc Z s → i ≤ 14 → X3 (s + i) = cpA X t u (s + i) := fun s i hs hi => by
    obtain ⟨sk, sn, sn', _⟩ := sc_k hP hs
    refine cell _ (by omega) fun j b hj e => ?_
    obtain ⟨a1, a2, a3, a4⟩ := p3 t j b ht hj e
    have := hd76 hL a1 a2 sk sn (a4 s hs).1 (a4 s hs).2
    omega
  have xT : ∀ i, i ≤ 14 → X3 (t + i) = cpA X t u (t + i) := fun i hi => inS t i ht hi
  have xU : ∀ i, i ≤ 14 → X3 (u + i) = X (u + i) := fun i hi => (inS u i hu hi).trans (cpA_out (by omega))
  have out : ∀ a, a < n → (a < t ∨ t + 14 < a) → (∀ j b, j < 20 → Z (t + 11) j = some b → a < b ∨ b + 3 < a) → cpB X3 t u a = X a := fun a h1 h2 h3 => by
    rw [cpB_out (by omega) (by omega), cell a h1 h3, cpA_out (by omega)]
  have tout : ∀ i, cpT X (t + 1) (u + 1) (u + i) = if i ≤ 14 then X (u + i) else cpT X (t + 1) (u + 1) (u + i) := fun i => by
    split
    · exact cpT_out (by omega)
    · rfl
  have tt : ∀ i, 7 ≤ i → cpT X (t + 1) (u + 1) (t + i) = X (t + i) := fun i hi => cpT_out (by omega)
  have E0 : cpB X3 t u t = upd (upd (upd (upd (X t) 3 (X u 3)) 7 (X u 7)) 8 (X u 8)) 9 (X u 9) := by
    rw [cpB_t sep, show X3 t = cpA X t u t from xT 0 (by omega), show X3 u = X u from xU 0 (by omega), cpA_t sep]
  have lo : ∀ i, 1 ≤ i → i ≤ 6 → cpB X3 t u (t + i) = cpT X (t + 1) (u + 1) (t + i) := fun i h1 h2 => by
    rw [cpB_out (by omega) (by omega), xT i (by omega), cpA_lo h1 h2]
  have hi : ∀ i, 7 ≤ i → i ≤ 10 → cpB X3 t u (t + i) = cpS (cpT X (t + 1) (u + 1)) (t + 7) (u + 7) (t + i) := fun i h1 h2 => by
    rw [cpB_out (by omega) (by omega), xT i (by omega), cpA_hi h1]
  refine ⟨n3, κ3, cpB X3 t u, Z3, mC, hP3, j2, j3, j4, ⟨?_, ?_, ?_, ?_, fun j hj => ?_, fun j hj => ?_⟩, fun s hs hst => ?_, fun ru kr nr hr => ?_, fun a ha hta => ?_⟩
  · rw [E0, pk_un (by omega), pk_un (by omega), pk_un (by omega), pk_us, pk_un (by omega), pk_un (by omega), pk_us, pk_un (by omega), pk_us, pk_us]
    exact ⟨b1, b2, b3, b4⟩
  · rw [lo 1 (by omega) (by omega), lo 2 (by omega) (by omega), cpT_0, show t + 2 = t + 1 + 1 from rfl, cpT_1, pk_un (by omega), pk_un (by omega), pk_un (by omega), pk_us, pk_un (by omega), pk_un (by omega), pk_us, pk_un (by omega), pk_us, pk_us]
    exact ⟨t0, t1, t3, t4, fun j hj => (cpy_at (by omega)).trans (tq j hj)⟩
  · rw [lo 3 (by omega) (by omega), lo 4 (by omega) (by omega), lo 5 (by omega) (by omega), lo 6 (by omega) (by omega), show t + 3 = t + 1 + 2 from rfl, show t + 4 = t + 1 + 3 from rfl, show t + 5 = t + 1 + 4 from rfl, show t + 6 = t + 1 + 5 from rfl, cpT_2, cpT_3, cpT_4, cpT_5]
    exact RC_mkc c3
  · rw [hi 7 (by omega) (by omega), hi 8 (by omega) (by omega), hi 9 (by omega) (by omega), hi 10 (by omega) (by omega), cpS_0, show t + 8 = t + 7 + 1 from rfl, show t + 9 = t + 7 + 2 from rfl, show t + 10 = t + 7 + 3 from rfl, cpS_1, cpS_2, cpS_3]
    refine RC_mkc ?_
    rw [cpT_out (show u + 7 < t + 1 ∨ t + 1 + 5 < u + 7 by omega), cpT_out (show u + 7 + 1 < t + 1 ∨ t + 1 + 5 < u + 7 + 1 by omega), cpT_out (show u + 7 + 2 < t + 1 ∨ t + 1 + 5 < u + 7 + 2 by omega), cpT_out (show u + 7 + 3 < t + 1 ∨ t + 1 + 5 < u + 7 + 3 by omega)]
    exact c4
  · rw [cpB_12 sep, cpB_13 sep, cpB_14 sep, cpy_at (by omega), cpy_at (by omega), cpy_at (by omega), xU 12 (by omega), xU 13 (by omega), xU 14 (by omega)]
    exact c5 j hj
  · obtain ⟨b, a, zb, za, esv⟩ := j9 j hj
    obtain ⟨a', ea', hRC⟩ := c6 j hj
    rw [za] at ea'
    cases ea'
    refine ⟨b, zb, RC_sv.mpr ?_⟩
    have e1 : sv (cpB X3 t u) b = sv X3 b := sv_congr fun k hk => cpB_out (by
      rcases j6 j b zb with h | ⟨h1, _⟩
      · obtain ⟨a1, a2, a3, a4⟩ := p3 t j b ht (by omega) h
        have := hd76 hL a1 a2 tk tn (a4 t ht).1 (a4 t ht).2
        omega
      · omega) (by
      rcases j6 j b zb with h | ⟨h1, _⟩
      · obtain ⟨a1, a2, a3, a4⟩ := p3 t j b ht (by omega) h
        have := hd76 hL a1 a2 tk tn (a4 t ht).1 (a4 t ht).2
        omega
      · omega)
    have e2 : sv (cpA X t u) a = sv X a := sv_congr fun k hk => cpA_out (by
      obtain ⟨a1, a2, a3, a4⟩ := p3 u j a hu (by omega) za
      have := hd76 hL a1 a2 tk tn (a4 t ht).1 (a4 t ht).2
      omega)
    rw [e1, esv, e2]
    exact RC_sv.mp hRC
  · obtain ⟨sk, sn, sn', _⟩ := sc_k hP hs
    have ss := hd66 hL tk tn sk sn (fun e => hst e.symm)
    refine ⟨fun i hi' => out _ (by omega) (by omega) fun j b hj e => ?_, fun j a hj ea => ?_⟩
    · obtain ⟨a1, a2, a3, a4⟩ := p3 t j b ht hj e
      have := hd76 hL a1 a2 sk sn (a4 s hs).1 (a4 s hs).2
      omega
    · obtain ⟨a1, a2, a3, a4⟩ := p3 s j a hs hj ea
      have f1 := hd76 hL a1 a2 tk tn (a4 t ht).1 (a4 t ht).2
      have f2 := (hL.2.2.1 a a2 a1).1
      have f3 : ∀ j' b, j' < 20 → Z (t + 11) j' = some b → a + 3 < b ∨ b + 3 < a := fun j' b hj' e => by
        obtain ⟨d1, d2, _⟩ := p3 t j' b ht hj' e
        refine hd77 hL a1 a2 d1 d2 fun eb => ?_
        subst eb
        exact hst (p4 s t j j' a hs ht hj hj' ea e).1
      exact ⟨out _ (by omega) (by omega) fun j b hj e => by have := f3 j b hj e; omega, out _ (by omega) (by omega) fun j b hj e => by have := f3 j b hj e; omega, out _ (by omega) (by omega) fun j b hj e => by have := f3 j b hj e; omega, out _ (by omega) (by omega) fun j b hj e => by have := f3 j b hj e; omega⟩
  · have f1 := hd64 hL tk tn kr nr
    have f2 := (hL.2.2.2.2.2 ru nr kr).1
    refine out _ (by omega) (by omega) fun j b hj e => ?_
    obtain ⟨d1, d2, _⟩ := p3 t j b ht hj e
    have := hd74 hL d1 d2 kr nr
    omega
  · refine out _ (by have := hL.1; omega) hta fun j b hj e => ?_
    have := (p3 t j b ht hj e).2.2.1
    omega
end CPYC

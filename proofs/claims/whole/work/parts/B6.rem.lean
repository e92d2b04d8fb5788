section REM
variable {n n1 : Nat} {κ κ1 : QT} {X : XT} {Y : YT} {Z Z1 : ZT} {b0 : Nat} {D : GD} {H M K N : Nat} {q : Nat → Nat} {S0 S : SN} {nn : Nat} {nd nh np : Nat → Nat} {c : Nat} {P : Nat → SN} {fo : Int32} {x : Nat}
theorem POOL_27 {j0 : Nat} (h : POOL n κ Z) (hL : LY n1 κ1) (hn : n ≤ n1) (hκ : ∀ a, a < n → κ1 a = κ a) (hz : ∀ a, a ≠ 27 → Z1 a = Z a) (σ : Nat → Nat) (h1 : ∀ j a, j < 20 → Z1 27 j = some a → (σ j < 20 ∧ Z 27 (σ j) = some a) ∨ (a = n ∧ κ1 n = (7, 0) ∧ n < n1 ∧ j = j0)) (hσ : ∀ j j', j < 20 → j' < 20 → σ j = σ j' → j = j') : POOL n1 κ1 Z1 := by
  obtain ⟨hL0, p1, p2, p3, p4, p5⟩ := h
  have e31 : Z1 31 = Z 31 := hz 31 (by omega)
  have hs : ∀ s, isSc Z1 s ↔ isSc Z s := fun s => by unfold isSc; rw [e31]
  have h11 : ∀ s, isSc Z s → s ≠ 16 → Z1 (s + 11) = Z (s + 11) := fun s _ hne => hz _ (by omega)
  have hsn : ∀ s, isSc Z s → s + 14 < n := fun s hsc => by
    rcases hsc with rfl | ⟨k, hk, e⟩
    · have := hL0.1; omega
    · obtain ⟨a1, a2, a3⟩ := p1 k s hk e
      exact (hL0.2.2.2.2.1 s a2 a1).1
  refine ⟨hL, fun k s hk e => ?_, fun k k' s hk hk' e e' => ?_, fun s j a hsc hj e => ?_, fun s s' j j' a hsc hsc' hj hj' e e' => ?_, by rw [hz 41 (by omega)]; exact p5⟩
  · rw [e31] at e
    obtain ⟨a1, a2, a3⟩ := p1 k s hk e
    exact ⟨(hκ s a2).trans a1, by omega, a3⟩
  · rw [e31] at e e'
    exact p2 k k' s hk hk' e e'
  · have hsc2 := (hs s).mp hsc
    have old : ∀ jj, jj < 20 → Z (s + 11) jj = some a → κ1 a = (7, 0) ∧ a < n1 ∧ 114 ≤ a ∧ ∀ s', isSc Z1 s' → a ≠ s' + 3 ∧ a ≠ s' + 7 := fun jj hjj e => by
      obtain ⟨a1, a2, a3, a4⟩ := p3 s jj a hsc2 hjj e
      exact ⟨(hκ a a2).trans a1, by omega, a3, fun s' hs' => a4 s' ((hs s').mp hs')⟩
    by_cases e16 : s = 16
    · subst e16
      rcases h1 j a hj e with ⟨l, e2⟩ | ⟨rfl, k7, ln, _⟩
      · exact old _ l e2
      · refine ⟨k7, ln, hL0.1, fun s' hs' => ?_⟩
        have := hsn s' ((hs s').mp hs')
        omega
    · rw [h11 s hsc2 e16] at e
      exact old j hj e
  · have g1 := (hs s).mp hsc
    have g2 := (hs s').mp hsc'
    have cases' : ∀ s j, isSc Z s → j < 20 → Z1 (s + 11) j = some a → (∃ jj, jj < 20 ∧ Z (s + 11) jj = some a ∧ (s = 16 → σ j = jj) ∧ (s ≠ 16 → j = jj)) ∨ (s = 16 ∧ a = n ∧ j = j0) := fun s j hsc hj e => by
      by_cases e16 : s = 16
      · subst e16
        rcases h1 j a hj e with ⟨l, e2⟩ | ⟨ea, _, _, ej⟩
        · exact Or.inl ⟨_, l, e2, fun _ => rfl, fun hh => absurd rfl hh⟩
        · exact Or.inr ⟨rfl, ea, ej⟩
      · rw [h11 s hsc e16] at e
        exact Or.inl ⟨j, hj, e, fun hh => absurd hh e16, fun _ => rfl⟩
    have an : ∀ s jj, isSc Z s → jj < 20 → Z (s + 11) jj = some a → a < n := fun s jj hsc hjj e => (p3 s jj a hsc hjj e).2.1
    rcases cases' s j g1 hj e with ⟨jj, l1, q1, r1, t1⟩ | ⟨e1, e2, e3⟩
    · rcases cases' s' j' g2 hj' e' with ⟨jj', l2, q2, r2, t2⟩ | ⟨e4, e5, e6⟩
      · obtain ⟨es, ej⟩ := p4 s s' jj jj' a g1 g2 l1 l2 q1 q2
        refine ⟨es, ?_⟩
        by_cases e16 : s = 16
        · exact hσ j j' hj hj' (by rw [r1 e16, r2 (es ▸ e16), ej])
        · rw [t1 e16, t2 (es ▸ e16), ej]
      · have := an s jj g1 l1 q1
        omega
    · rcases cases' s' j' g2 hj' e' with ⟨jj', l2, q2, r2, t2⟩ | ⟨e4, e5, e6⟩
      · have := an s' jj' g2 l2 q2
        omega
      · exact ⟨e1.trans e4.symm, e3.trans e6.symm⟩
theorem rem_out {b a : Nat} (h16 : a ≠ 16) (h : a < b ∨ b + 3 < a) : remX X b a = X a := by
  unfold remX
  rw [up_ne h16]
  exact cpS_out h
theorem rem_16 {b : Nat} (h : 16 < b) : remX X b 16 = upd (X 16) 3 (X 16 3 + 1) := by
  unfold remX
  rw [up_eq, cpS_out (by omega)]
theorem RC_cp {S : SN} {p p' : Nat} (h : RC S (X p') (X (p' + 1)) (X (p' + 2)) (X (p' + 3))) : RC S (cpS X p p' p) (cpS X p p' (p + 1)) (cpS X p p' (p + 2)) (cpS X p p' (p + 3)) := by
  rw [cpS_0, cpS_1, cpS_2, cpS_3]
  refine ⟨fun j hj => ?_, fun j hj => (cpy_at hj).trans (h.2.1 j hj), fun j hj => (cpy_at hj).trans (h.2.2.1 j hj), fun j hj => (cpy_at hj).trans (h.2.2.2 j hj)⟩
  match j, hj with
  | 0, _ => exact h.1 0 (by omega)
  | 1, _ => exact h.1 1 (by omega)
  | 2, _ => exact h.1 2 (by omega)
  | j + 3, hj => omega
theorem rem_RC {S : SN} {b : Nat} (hb : 16 < b) (h : RC S (X 23) (X 24) (X 25) (X 26)) : RC S (remX X b b) (remX X b (b + 1)) (remX X b (b + 2)) (remX X b (b + 3)) := by
  unfold remX
  rw [up_ne (by omega), up_ne (by omega), up_ne (by omega), up_ne (by omega)]
  exact RC_cp (p' := 23) h
/-- what remembering leaves -/
def REMq (n : Nat) (κ : QT) (X : XT) (Z : ZT) (H M K N : Nat) (q : Nat → Nat) (S0 S : SN) (nn : Nat) (nd nh np : Nat → Nat) (c : Nat) (P : Nat → SN) (fo : Int32) (x : Nat) (n1 : Nat) (κ1 : QT) (X1 : XT) (Z1 : ZT) : Prop := POOL n1 κ1 Z1 ∧ n ≤ n1 ∧ (∀ a, a < n → κ1 a = κ a) ∧ (∀ a, a ≠ 27 → Z1 a = Z a) ∧ CS X1 Z1 16 H M K N q S0 S nn nd nh np (pN c) (pP P c S) fo x ∧ (∀ a, a < 114 → a ≠ 16 → X1 a = X a) ∧ (∀ k w, k < 4 → Z 31 k = some w → (∀ i, i ≤ 14 → X1 (w + i) = X (w + i)) ∧ ∀ j a, j < 20 → Z (w + 11) j = some a → X1 a = X a ∧ X1 (a + 1) = X (a + 1) ∧ X1 (a + 2) = X (a + 2) ∧ X1 (a + 3) = X (a + 3)) ∧ ∀ ru, κ ru = (4, 0) → ru < n → 114 ≤ ru → X1 (ru + 1) = X (ru + 1)
theorem hd74 (hL : LY n κ) {a ru : Nat} (ka : κ a = (7, 0)) (na : a < n) (kr : κ ru = (4, 0)) (nr : ru < n) : ru + 1 < a ∨ a + 3 < ru + 1 := by
  obtain ⟨_, k1, k2, k3⟩ := hL.2.2.1 a na ka
  obtain ⟨_, ⟨L, r1⟩, r2⟩ := hL.2.2.2.2.2 ru nr kr
  by_cases e0 : ru + 1 = a
  · rw [e0, ka] at r1; cases r1
  by_cases e1 : ru = a
  · rw [e1, ka] at kr; cases kr
  by_cases e2 : ru = a + 1
  · rw [e2, k1] at kr; cases kr
  by_cases e3 : ru = a + 2
  · rw [e3, k2] at kr; cases kr
  omega
/-- the old cells but a block of the live scene's past -/
theorem rem_old (h : POOL n κ Z) {X1 : XT} {b : Nat} (hb : 114 ≤ b) (kb : κ b = (7, 0)) (nb : b < n) {jb : Nat} (hjb : jb < 20) (eb : Z 27 jb = some b) (hX : ∀ a, a ≠ 16 → (a < b ∨ b + 3 < a) → X1 a = X a) : (∀ a, a < 114 → a ≠ 16 → X1 a = X a) ∧ (∀ k w, k < 4 → Z 31 k = some w → (∀ i, i ≤ 14 → X1 (w + i) = X (w + i)) ∧ ∀ j a, j < 20 → Z (w + 11) j = some a → X1 a = X a ∧ X1 (a + 1) = X (a + 1) ∧ X1 (a + 2) = X (a + 2) ∧ X1 (a + 3) = X (a + 3)) ∧ (∀ ru, κ ru = (4, 0) → ru < n → 114 ≤ ru → X1 (ru + 1) = X (ru + 1)) ∧ ∀ j a, j < 20 → j ≠ jb → Z 27 j = some a → X1 a = X a ∧ X1 (a + 1) = X (a + 1) ∧ X1 (a + 2) = X (a + 2) ∧ X1 (a + 3) = X (a + 3) := by
  obtain ⟨hL, p1, p2, p3, p4, p5⟩ := h
  have blk4 : ∀ a, κ a = (7, 0) → a < n → 114 ≤ a → a ≠ b → X1 a = X a ∧ X1 (a + 1) = X (a + 1) ∧ X1 (a + 2) = X (a + 2) ∧ X1 (a + 3) = X (a + 3) := fun a ka na ha hne => by
    have := hd77 hL ka na kb nb hne
    exact ⟨hX _ (by omega) (by omega), hX _ (by omega) (by omega), hX _ (by omega) (by omega), hX _ (by omega) (by omega)⟩
  refine ⟨fun a ha h16 => hX a h16 (by omega), fun k w hk hw => ?_, fun ru kr nr hr => hX _ (by omega) (by have := hd74 hL kb nb kr nr; omega), fun j a hj hne ea => ?_⟩
  · obtain ⟨w1, w2, w3⟩ := p1 k w hk hw
    have hsc : isSc Z w := Or.inr ⟨k, hk, hw⟩
    obtain ⟨n3, n7⟩ := (p3 16 jb b (Or.inl rfl) hjb eb).2.2.2 w hsc
    have := hd76 hL kb nb w1 w2 n3 n7
    refine ⟨fun i hi => hX _ (by omega) (by omega), fun j a hj ea => ?_⟩
    obtain ⟨a1, a2, a3, _⟩ := p3 w j a hsc hj ea
    refine blk4 a a1 a2 a3 fun e => ?_
    subst e
    have := (p4 w 16 j jb a hsc (Or.inl rfl) hj hjb ea eb).1
    omega
  · obtain ⟨a1, a2, a3, _⟩ := p3 16 j a (Or.inl rfl) hj ea
    refine blk4 a a1 a2 a3 fun e => ?_
    subst e
    exact hne (p4 16 16 j jb a (Or.inl rfl) (Or.inl rfl) hj hjb ea eb).2
theorem rem (l : Launch) (h : POOL n κ Z) (hc : c ≤ 20) (hC : CS X Z 16 H M K N q S0 S nn nd nh np c P fo x) : ∃ n1 κ1 X1 Z1, gMv l yX6_remember cX6_remember 1 none 3 61 4 54 b0 D [.ref (b0 + 16)] (n, κ, X, Y, Z) (n1, κ1, X1, Y, Z1) ∧ REMq n κ X Z H M K N q S0 S nn nd nh np c P fo x n1 κ1 X1 Z1 := by
  obtain ⟨hL, p1, p2, p3, p4, p5⟩ := id h
  obtain ⟨⟨b1, b2, b3, b4⟩, t, c3, c4, c5, c6⟩ := hC
  have n114 := hL.1
  -- the scene behind it, by its past
  have mk : ∀ (n1 : Nat) (κ1 : QT) (X1 : XT) (Z1 : ZT), POOL n1 κ1 Z1 → n ≤ n1 → (∀ a, a < n → κ1 a = κ a) → (∀ a, a ≠ 27 → Z1 a = Z a) → X1 16 3 = nI (pN c) → (∀ j, j ≠ 3 → X1 16 j = X 16 j) → (∀ a, a < 114 → a ≠ 16 → X1 a = X a) → (∀ k w, k < 4 → Z 31 k = some w → (∀ i, i ≤ 14 → X1 (w + i) = X (w + i)) ∧ ∀ j a, j < 20 → Z (w + 11) j = some a → X1 a = X a ∧ X1 (a + 1) = X (a + 1) ∧ X1 (a + 2) = X (a + 2) ∧ X1 (a + 3) = X (a + 3)) → (∀ ru, κ ru = (4, 0) → ru < n → 114 ≤ ru → X1 (ru + 1) = X (ru + 1)) → (∀ j, j < pN c → ∃ a, Z1 27 j = some a ∧ RC (pP P c S j) (X1 a) (X1 (a + 1)) (X1 (a + 2)) (X1 (a + 3))) → REMq n κ X Z H M K N q S0 S nn nd nh np c P fo x n1 κ1 X1 Z1 := by
    intro n1 κ1 X1 Z1 hP' hn hκ hz e3 ej hlo him hru hpast
    have g : ∀ i, 1 ≤ i → i ≤ 14 → X1 (16 + i) = X (16 + i) := fun i h1 h2 => hlo _ (by omega) (by omega)
    refine ⟨hP', hn, hκ, hz, ⟨⟨e3, (ej 7 (by omega)).trans b2, (ej 8 (by omega)).trans b3, (ej 9 (by omega)).trans b4⟩, by rw [g 1 (by omega) (by omega), g 2 (by omega) (by omega)]; exact t, by rw [g 3 (by omega) (by omega), g 4 (by omega) (by omega), g 5 (by omega) (by omega), g 6 (by omega) (by omega)]; exact c3, by rw [g 7 (by omega) (by omega), g 8 (by omega) (by omega), g 9 (by omega) (by omega), g 10 (by omega) (by omega)]; exact c4, by rw [g 12 (by omega) (by omega), g 13 (by omega) (by omega), g 14 (by omega) (by omega)]; exact c5, hpast⟩, hlo, him, hru⟩
  by_cases k20 : c = 20
  · subst k20
    obtain ⟨a0, ea0, _⟩ := c6 0 (by omega)
    obtain ⟨k0, l0, g0, _⟩ := p3 16 0 a0 (Or.inl rfl) (by omega) ea0
    have eN : pN 20 = 20 := by unfold pN; rw [if_pos rfl]
    have hall : ∀ j, j < 20 → ∃ a, Z 27 j = some a ∧ κ a = (7, 0) ∧ a < n := fun j hj => by
      obtain ⟨a, ea, _⟩ := c6 j hj
      obtain ⟨q1, q2, _⟩ := p3 16 j a (Or.inl rfl) hj ea
      exact ⟨a, ea, q1, q2⟩
    have mC := c_remF l (X := X) (Y := Y) (Z := Z) (b0 := b0) (D := D) hL (by rw [b1]; rfl) hall ea0 k0 l0 (by omega)
    have hX : ∀ a, a ≠ 16 → (a < a0 ∨ a0 + 3 < a) → remX (va_up X 16 (upd (X 16) 3 (X 16 3 - 1))) a0 a = X a := fun a h16 ha => by rw [rem_out h16 ha, up_ne h16]
    obtain ⟨o1, o2, o3, o4⟩ := rem_old h g0 k0 l0 (by omega) ea0 hX
    have zr : ∀ j, j < 20 → va_up Z 27 (va_up (rotZ (Z 27) 20) 19 (some a0)) 27 j = if j = 19 then some a0 else Z 27 (j + 1) := fun j hj => by
      rw [up_eq]
      by_cases e : j = 19
      · subst e; rw [up_eq, if_pos rfl]
      · rw [up_ne e, if_neg e]
        unfold rotZ
        rw [if_pos (by omega)]
    refine ⟨_, _, _, _, mC, mk _ _ _ _ (POOL_27 (j0 := 0) h hL (Nat.le_refl _) (fun _ _ => rfl) (fun a ha => up_ne ha) (fun j => if j = 19 then 0 else j + 1) (fun j a hj e => Or.inl ?_) (fun j j' hj hj' e => ?_)) (Nat.le_refl _) (fun _ _ => rfl) (fun a ha => up_ne ha) ?_ (fun j hj => ?_) o1 o2 o3 (fun j hj => ?_)⟩
    · rw [zr j hj] at e
      by_cases e19 : j = 19
      · rw [if_pos e19] at e
        simp only [e19, if_true]
        exact ⟨by omega, by rw [← e]; exact ea0⟩
      · rw [if_neg e19] at e
        simp only [e19, if_false]
        exact ⟨by omega, e⟩
    · by_cases e1 : j = 19 <;> by_cases e2 : j' = 19 <;> simp only [e1, e2, if_true, if_false] at e <;> omega
    · rw [rem_16 (by omega), up_eq, pk_us, pk_us, b1, eN, show (1 : Int32) = nI 1 from rfl, nsub (by omega), nI_add]
    · rw [rem_16 (by omega), up_eq, pk_un hj, pk_un hj]
    · rw [eN] at hj
      rw [zr j hj]
      unfold pP
      rw [if_pos rfl]
      by_cases e19 : j = 19
      · rw [if_pos e19]
        refine ⟨a0, rfl, ?_⟩
        simp only [e19, if_true]
        exact rem_RC (by omega) c4
      · rw [if_neg e19]
        simp only [e19, if_false]
        obtain ⟨a, ea, ha⟩ := c6 (j + 1) (by omega)
        obtain ⟨r0, r1, r2, r3⟩ := o4 (j + 1) a (by omega) (by omega) ea
        exact ⟨a, ea, by rw [r0, r1, r2, r3]; exact ha⟩
  · have eN : pN c = c + 1 := by unfold pN; rw [if_neg k20]
    have hne : ¬ X 16 3 = 20 := by rw [b1]; exact fun e => k20 ((nI_eq (b := 20) (by omega) (by omega)).mp e)
    have hin : inb (X 16 3) 20 = true := by rw [b1]; exact inbN (by omega) (by decide)
    have ecl : (X 16 3).toNatClampNeg = c := by rw [b1, clN (by omega)]
    cases ez : Z 27 c with
    | some b =>
      obtain ⟨kb, lb, gb, _⟩ := p3 16 c b (Or.inl rfl) (by omega) ez
      have mC := c_remS l (X := X) (Y := Y) (Z := Z) (b0 := b0) (D := D) hL hne hin (a := b) (by rw [ecl]; exact ez) kb lb (by omega)
      obtain ⟨o1, o2, o3, o4⟩ := rem_old h gb kb lb (show c < 20 by omega) ez (X1 := remX X b) (fun a h16 ha => rem_out h16 ha)
      refine ⟨_, _, _, _, mC, mk _ _ _ _ h (Nat.le_refl _) (fun _ _ => rfl) (fun _ _ => rfl) ?_ (fun j hj => ?_) o1 o2 o3 (fun j hj => ?_)⟩
      · rw [rem_16 (by omega), pk_us, b1, eN, nI_1]
      · rw [rem_16 (by omega), pk_un hj]
      · rw [eN] at hj
        unfold pP
        rw [if_neg k20]
        by_cases ej : j = c
        · simp only [ej, if_true]
          exact ⟨b, ez, rem_RC (by omega) c4⟩
        · simp only [ej, if_false]
          obtain ⟨a, ea, ha⟩ := c6 j (by omega)
          obtain ⟨r0, r1, r2, r3⟩ := o4 j a (by omega) ej ea
          exact ⟨a, ea, by rw [r0, r1, r2, r3]; exact ha⟩
    | none =>
      have mC := c_remN l (X := X) (Y := Y) (Z := Z) (b0 := b0) (D := D) hL hne hin (by rw [ecl]; exact ez)
      rw [ecl] at mC
      have hold : ∀ a, a ≠ 16 → a < n → remX (blz X n 4) n a = X a := fun a h16 ha => by rw [rem_out h16 (Or.inl ha), blz_lt ha]
      have z1 : ∀ j, va_up Z 27 (va_up (Z 27) c (some n)) 27 j = if j = c then some n else Z 27 j := fun j => by
        rw [up_eq]
        by_cases e : j = c
        · subst e; rw [up_eq, if_pos rfl]
        · rw [up_ne e, if_neg e]
      refine ⟨_, _, _, _, mC, mk _ _ _ _ (POOL_27 (j0 := c) h (LY_std hL) (by omega) (fun a ha => blk_lt ha) (fun a ha => up_ne ha) (fun j => j) (fun j a hj e => ?_) (fun j j' _ _ e => e)) (by omega) (fun a ha => blk_lt ha) (fun a ha => up_ne ha) ?_ (fun j hj => ?_) (fun a ha h16 => hold a h16 (by omega)) (fun k w hk hw => ?_) (fun ru kr nr hr => ?_) (fun j hj => ?_)⟩
      · rw [z1 j] at e
        by_cases ej : j = c
        · rw [if_pos ej] at e
          exact Or.inr ⟨(Option.some.inj e).symm, blk_at 0 rfl rfl, by omega, ej⟩
        · rw [if_neg ej] at e
          exact Or.inl ⟨hj, e⟩
      · rw [rem_16 (by omega), pk_us, blz_lt (by omega), b1, eN, nI_1]
      · rw [rem_16 (by omega), pk_un hj, blz_lt (by omega)]
      · obtain ⟨w1, w2, w3⟩ := p1 k w hk hw
        have wl := (hL.2.2.2.2.1 w w2 w1).1
        refine ⟨fun i hi => hold _ (by omega) (by omega), fun j a hj ea => ?_⟩
        obtain ⟨a1, a2, a3, _⟩ := p3 w j a (Or.inr ⟨k, hk, hw⟩) hj ea
        have al := (hL.2.2.1 a a2 a1).1
        exact ⟨hold _ (by omega) (by omega), hold _ (by omega) (by omega), hold _ (by omega) (by omega), hold _ (by omega) (by omega)⟩
      · have := (hL.2.2.2.2.2 ru nr kr).1
        exact hold _ (by omega) (by omega)
      · rw [eN] at hj
        unfold pP
        rw [if_neg k20, z1 j]
        by_cases ej : j = c
        · rw [if_pos ej]
          simp only [ej, if_true]
          refine ⟨n, rfl, rem_RC (by omega) ?_⟩
          rw [blz_lt (by omega), blz_lt (by omega), blz_lt (by omega), blz_lt (by omega)]
          exact c4
        · rw [if_neg ej]
          simp only [ej, if_false]
          obtain ⟨a, ea, ha⟩ := c6 j (by omega)
          obtain ⟨a1, a2, a3, _⟩ := p3 16 j a (Or.inl rfl) (by omega) ea
          have al := (hL.2.2.1 a a2 a1).1
          exact ⟨a, ea, by rw [hold _ (by omega) (by omega), hold _ (by omega) (by omega), hold _ (by omega) (by omega), hold _ (by omega) (by omega)]; exact ha⟩
end REM

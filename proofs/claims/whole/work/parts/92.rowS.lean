abbrev OP : Type := Option (Nat × Nat)
def oc (o : OP) : Int32 := match o with
  | none => -1
  | some (a, b) => nI (8 * a + b)
def feas (S : SN) (o : OP) : Bool := match o with
  | none => true
  | some (a, b) => decide (0 < S 1) && (decide (0 < sHd S a b) && decide (sHd S a b < 9))
def opV (M : Nat) (o : OP) : Prop := match o with
  | none => True
  | some (a, b) => a < b ∧ b < M
section ROWS
variable {H M K N B : Nat} {q : Nat → Nat} {S : SN} {x74 x75 x76 x77 x78 x79 x92 x93 x94 x95 x96 x97 x101 x105 x106 x107 x112 : Nat → Int32} {y99 y100 : Nat → Int64}
/-- a day of a row -/
def stR (H M K N : Nat) (q : Nat → Nat) (S : SN) (o : OP) : SN := stepS H M K (tld N q (S 0 + 1)) (hS N q S) o S
theorem feas_G {o : OP} (ho : opV M o) (hf : feas S o = true) : pG M (sHd S) (0, o) := by
  intro a b e
  cases e
  unfold feas at hf
  simp only [Bool.and_eq_true, decide_eq_true_eq] at hf
  exact ⟨ho.1, ho.2, hf.2.1, hf.2.2⟩
theorem none_G {f : Nat → Nat → Nat} : pG M f (0, none) := fun a b e => by cases e
theorem oc_nf : ∀ a, a < 6 → ∀ b, b < 6 → ¬ nI (8 * a + b) = -5 ∧ ¬ nI (8 * a + b) = -1 := by decide +kernel
theorem r_goesRow {o : OP} {ok : Bool} (hV : VD H M B S) (hB : B < 999999) (hT : TR H M K N q x75 x79) (hR : RR S x75 x76 x77 x78) (hdr : x74 37 = -1) (ho : opV M o) (h38 : x74 38 = oc o) (h39 : x74 39 = if ok = true then nI 1 else nI 0) : ∃ r z75 z76 z77 z78 z101, fX12_goes x79 x92 x93 x94 x95 x96 x97 x74 x75 x76 x77 x78 x101 y99 y100 = some (r, upd x74 39 (if (ok && feas S o) = true then nI 1 else nI 0), z75, z76, z77, z78, z101, y99, y100) ∧ RR (stR H M K N q S (if (ok && feas S o) = true then o else none)) z75 z76 z77 z78 ∧ ∀ j, j < 5 ∨ 8 ≤ j → z75 j = x75 j := by
  obtain ⟨hM, hH5, hH, hgr, hr0, hf9, hf0, hfr⟩ := id hV.1
  have r1 : x75 6 = nI (S 1) := hR.1 1 (by omega)
  have s99 : S 1 ≤ 99 := hV.2.2.2.2.1
  have n5 : ¬ x74 38 = -5 := by
    rw [h38]
    unfold oc
    cases o with
    | none => decide
    | some ab => exact (oc_nf ab.1 (by have := ho; unfold opV at this; omega) ab.2 (by have := ho; unfold opV at this; omega)).1
  have key : fX12_choice x75 x76 x77 x78 x79 x92 x93 x94 x95 x96 x97 x74 y99 y100 = some (pC (0, if (ok && feas S o) = true then o else none), upd x74 39 (if (ok && feas S o) = true then nI 1 else nI 0), y99, y100) := by
    have c60 : fX12_choice_60 x75 x76 x77 x78 x79 x92 x93 x94 x95 x96 x97 x74 y99 y100 = some (pC (0, none), upd x74 39 (nI 0), y99, y100) := by
      unfold fX12_choice_60 fX12_choice_61
      rw [gd_t (by decide), if_pos (show upd x74 39 0 39 = 0 from rfl)]
      rfl
    have c56 : fX12_choice_56 x75 x76 x77 x78 x79 x92 x93 x94 x95 x96 x97 x74 y99 y100 = some (pC (0, o), upd x74 39 (nI 1), y99, y100) := by
      unfold fX12_choice_56 fX12_choice_61
      rw [gd_t (by decide), if_neg (show ¬ upd x74 39 1 39 = 0 from one_ne), show upd x74 39 1 38 = x74 38 from rfl, h38]
      rfl
    unfold fX12_choice fX12_choice_0
    rw [if_neg n5]
    cases ok with
    | false =>
      rw [if_neg Bool.false_ne_true] at h39
      rw [if_pos (by rw [h39]; rfl), c60]
      rfl
    | true =>
      rw [if_pos rfl] at h39
      rw [if_neg (by rw [h39]; exact one_ne), Bool.true_and]
      cases o with
      | none =>
        rw [if_pos (show x74 38 = -1 from h38), c56]
        rfl
      | some ab =>
        obtain ⟨a, b⟩ := ab
        have hab : a < b ∧ b < M := ho
        have ha6 : a < 6 := by omega
        have hb6 : b < 6 := by omega
        have h38' : x74 38 = nI (8 * a + b) := h38
        rw [if_neg (by rw [h38']; exact (oc_nf a ha6 b hb6).2), gd_t i6, n6', r1]
        by_cases s0 : S 1 ≤ 0
        · rw [if_pos (le0 s0), c60, if_neg (by unfold feas; simp; omega), if_neg (by unfold feas; simp; omega)]
        · rw [if_neg (nle0 (by omega) (by omega)), h38', zI8, pk_rem (by omega) (by omega) (by omega), pk_div (by omega) (by omega) (by omega), show (8 * a + b) / 8 = a by omega, show (8 * a + b) % 8 = b by omega]
          rcases p_can (RC_h hR) (fun a b ha hb => (hf9 a b ha hb).1) ha6 hb6 with ⟨c, _, e⟩ | ⟨c, _, e⟩
          · have hf : feas S (some (a, b)) = true := by unfold feas; simp; exact ⟨by omega, c.1, c.2⟩
            rw [e, bd1_s, if_neg (show ¬ nI 1 = (0 : Int32) from one_ne), c56, if_pos hf, if_pos hf]
          · have hf : ¬ feas S (some (a, b)) = true := by
              unfold feas
              simp only [Bool.and_eq_true, decide_eq_true_eq]
              exact fun h => c ⟨h.2.1, h.2.2⟩
            rw [e, bd1_s, if_pos z00, c60, if_neg hf, if_neg hf]
  have hP : pG M (sHd S) (0, if (ok && feas S o) = true then o else none) := by
    by_cases c : (ok && feas S o) = true
    · rw [if_pos c]
      exact feas_G ho (by rw [Bool.and_eq_true] at c; exact c.2)
    · rw [if_neg c]; exact none_G
  have hs : (if (ok && feas S o) = true then o else none) ≠ none → 0 < S 1 := fun h => by
    by_cases c : (ok && feas S o) = true
    · rw [if_pos c] at h
      rw [Bool.and_eq_true] at c
      cases o with
      | none => exact absurd rfl h
      | some ab =>
        have := c.2
        unfold feas at this
        simp only [Bool.and_eq_true, decide_eq_true_eq] at this
        exact this.1
    · rw [if_neg c] at h; exact absurd rfl h
  obtain ⟨z75, z76, z77, z78, z101, e, hr, hf⟩ := p_goesP (t := hS N q S) (x101 := x101) (P := (0, if (ok && feas S o) = true then o else none)) hV hB hT (Or.inr ⟨hdr, rfl⟩) hR hP hs (by rw [pk_un (by omega)]) key
  exact ⟨_, z75, z76, z77, z78, z101, e, hr, hf⟩
/-- a row gone, and whether it can be -/
def rEv (H M K N : Nat) (q : Nat → Nat) : List OP → SN → Bool → SN × Bool
  | [], S, ok => (S, ok)
  | o :: os, S, ok => rEv H M K N q os (stR H M K N q S (if (ok && feas S o) = true then o else none)) (ok && feas S o)
theorem VD_stR {o : OP} {ok : Bool} (hK : K ≤ 9) (hV : VD H M B S) (ho : opV M o) : VD H M (B + 1) (stR H M K N q S (if (ok && feas S o) = true then o else none)) := by
  by_cases c : (ok && feas S o) = true
  · rw [if_pos c]
    exact VD_step (P := (0, o)) hK hV (feas_G ho (by rw [Bool.and_eq_true] at c; exact c.2))
  · rw [if_neg c]
    exact VD_step (P := (0, none)) hK hV none_G
end ROWS

/-- a stack as cells hold it, its top first -/
def SR (z : Nat → Int64) : List Int64 → Prop
  | [] => True
  | v :: st => z st.length = v ∧ SR z st
section EVAL
variable {xr x92 x93 x94 x95 x96 x97 : FI} {w y z : Nat → Int64} {Lru slot a n : Nat} {L : List StO} {st st' : List Int64} {o : StO}
theorem upL_s {f : Nat → Int64} {k : Nat} {v : Int64} : vp_updL f k v k = v := if_pos rfl
theorem upL_n {f : Nat → Int64} {k j : Nat} {v : Int64} (h : j ≠ k) : vp_updL f k v j = f j := if_neg h
theorem SR_up {m : Nat} {v : Int64} : ∀ {st : List Int64}, SR z st → st.length ≤ m → SR (vp_updL z m v) st
  | [], _, _ => trivial
  | u :: st, h, hm => ⟨by
      rw [List.length_cons] at hm
      rw [upL_n (by omega)]; exact h.1, SR_up h.2 (by rw [List.length_cons] at hm; omega)⟩
/-- what a step leaves -/
theorem ex1_cases {b : Nat} (hv : VO o) (h : ex1 w b o st = some st') : (o.1 = 1 ∧ st.length < b ∧ st' = (nI o.2).toInt64 :: st) ∨ (17 ≤ o.1 ∧ o.1 ≤ 28 ∧ st.length < b ∧ st' = w (o.1 - 17) :: st) ∨ (o.1 = 36 ∧ ∃ v r, st = v :: r ∧ st' = (1 - v) :: r) ∨ (isBin o.1 ∧ ∃ v u r, st = v :: u :: r ∧ st' = jn o.1 u v :: r) := by
  unfold ex1 at h
  by_cases c1 : o.1 = 1
  · rw [if_pos c1] at h
    by_cases l : st.length < b
    · rw [if_pos l] at h; exact Or.inl ⟨c1, l, (Option.some.inj h).symm⟩
    · rw [if_neg l] at h; cases h
  rw [if_neg c1] at h
  by_cases c2 : 17 ≤ o.1 ∧ o.1 ≤ 28
  · rw [if_pos c2] at h
    by_cases l : st.length < b
    · rw [if_pos l] at h; exact Or.inr (Or.inl ⟨c2.1, c2.2, l, (Option.some.inj h).symm⟩)
    · rw [if_neg l] at h; cases h
  rw [if_neg c2] at h
  by_cases c3 : o.1 = 36
  · rw [if_pos c3] at h
    cases st with
    | nil => cases h
    | cons v r => exact Or.inr (Or.inr (Or.inl ⟨c3, v, r, rfl, (Option.some.inj h).symm⟩))
  rw [if_neg c3] at h
  have hb : isBin o.1 := by
    unfold VO at hv
    rcases hv with h | h | h | h
    · exact absurd h.1 c1
    · exact absurd ⟨h.1, h.2.1⟩ c2
    · exact absurd h.1 c3
    · exact h.1
  cases st with
  | nil => cases h
  | cons v r =>
    cases r with
    | nil => cases h
    | cons u r => exact Or.inr (Or.inr (Or.inr ⟨hb, v, u, r, rfl, (Option.some.inj h).symm⟩))
abbrev K3 : Type := Int32 → Int32 → (Nat → Int64) → Option (Int64 × (Nat → Int64))
theorem step_C (K : K3) (hv : VO o) (hL : Lru ≤ 400) (ha : a < Lru) (hx : xr a = nI (64 * o.2 + o.1)) (hy : ∀ j, j < 12 → y j = w j) (hs : SR z st) (hl : st.length ≤ 40) (h : ex1 w 40 o st = some st') : ∃ z', fX4_worth_4b Lru xr y K (nI st.length) (nI a) z = K (nI st'.length) (nI (a + 1)) z' ∧ SR z' st' ∧ st'.length ≤ 40 := by
  have vl := VO_lt hv
  have g1 : inb (nI a) Lru = true := inbN ha (by omega)
  unfold fX4_worth_4b
  rw [if_neg (show ¬ Int32.ofNat Lru ≤ nI a from nI_ge (a := a) (b := Lru) ha (by omega)), gd_t g1, bn_s, clN (by omega), hx, enc_c (by omega)]
  rcases ex1_cases hv h with ⟨c1, l, rfl⟩ | ⟨c1, c2, l, rfl⟩ | ⟨c1, v, r, rfl, rfl⟩ | ⟨hb, v, u, r, rfl, rfl⟩
  · refine ⟨vp_updL z st.length ((nI o.2).toInt64), ?_, ⟨upL_s, SR_up hs (Nat.le_refl _)⟩, by rw [List.length_cons]; omega⟩
    rw [if_pos (show nI o.1 = (1 : Int32) by rw [c1]; rfl)]
    unfold fX4_worth_42 fX4_worth_81 fX4_worth_216
    rw [if_pos (show nI st.length < (40 : Int32) from nI_lt (b := 40) l (by omega)), if_pos (show nI o.1 = (1 : Int32) by rw [c1]; rfl), gd_t g1, clN (show a < 2147483648 by omega), hx, enc_n (by omega) vl.2, gd_t (inbN l (by decide)), bn_s, bn_s, nI_1, nI_1, clN (by omega), List.length_cons]
  · have w1 : fX11_isWithin (nI o.1) 17 28 = some 1 := by
      have := p_within' (a := o.1) (lo := 17) (hi := 28) (by omega) (by omega) (by omega)
      rw [if_pos ⟨c1, c2⟩] at this
      exact this
    refine ⟨vp_updL z st.length (w (o.1 - 17)), ?_, ⟨upL_s, SR_up hs (Nat.le_refl _)⟩, by rw [List.length_cons]; omega⟩
    rw [if_neg (show ¬ nI o.1 = (1 : Int32) from fun hh => by have := (nI_eq (b := 1) (by omega) (by omega)).mp hh; omega), w1, bd1_s, if_neg one_ne]
    unfold fX4_worth_42 fX4_worth_81 fX4_worth_216
    rw [if_pos (show nI st.length < (40 : Int32) from nI_lt (b := 40) l (by omega)), if_neg (show ¬ nI o.1 = (1 : Int32) from fun hh => by have := (nI_eq (b := 1) (by omega) (by omega)).mp hh; omega), show (17 : Int32) = nI 17 from rfl, nsub (by omega), gd_t (inbN (by omega) (by decide)), clN (show o.1 - 17 < 2147483648 by omega), hy _ (by omega), gd_t (inbN l (by decide)), bn_s, bn_s, nI_1, nI_1, clN (by omega), List.length_cons]
  · have w0 : fX11_isWithin (nI o.1) 17 28 = some 0 := by
      have := p_within' (a := o.1) (lo := 17) (hi := 28) (by omega) (by omega) (by omega)
      rw [if_neg (by omega)] at this
      exact this
    have el : (v :: r).length = r.length + 1 := rfl
    refine ⟨vp_updL z r.length (1 - v), ?_, ⟨upL_s, SR_up hs.2 (Nat.le_refl _)⟩, by rw [List.length_cons] at hl ⊢; omega⟩
    rw [el] at hl ⊢
    rw [if_neg (show ¬ nI o.1 = (1 : Int32) from fun hh => by have := (nI_eq (b := 1) (by omega) (by omega)).mp hh; omega), w0, bd1_s, if_pos rfl, if_neg (show ¬ nI (r.length + 1) < (1 : Int32) from nI_nlt (b := 1) (by omega) (by omega)), if_pos (show nI o.1 = (36 : Int32) by rw [c1]; rfl), show (1 : Int32) = nI 1 from rfl, nsub (by omega), show r.length + 1 - 1 = r.length by omega, gd_t (inbN (by omega) (by decide)), gd_t (inbN (by omega) (by decide)), clN (by omega), hs.1]
    unfold fX4_worth_216
    rw [bn_s, nI_1, List.length_cons]
  · have w0 : fX11_isWithin (nI o.1) 17 28 = some 0 := by
      have := p_within' (a := o.1) (lo := 17) (hi := 28) (by omega) (by omega) (by omega)
      rw [if_neg (by unfold isBin at hb; omega)] at this
      exact this
    have el : (v :: u :: r).length = r.length + 2 := rfl
    refine ⟨vp_updL z r.length (jn o.1 u v), ?_, ⟨upL_s, SR_up hs.2.2 (Nat.le_refl _)⟩, by rw [List.length_cons, List.length_cons] at hl; rw [List.length_cons]; omega⟩
    have z1 : z (r.length + 1) = v := hs.1
    have z0 : z r.length = u := hs.2.1
    have ne : ∀ b : Nat, b < 1000 → ¬ isBin b → ¬ nI o.1 = nI b := fun b hb' hn hh => hn (by have := (nI_eq (by omega) (by omega)).mp hh; rw [← this]; exact hb)
    have n1 : ¬ isBin 1 := by unfold isBin; omega
    have n36 : ¬ isBin 36 := by unfold isBin; omega
    have n37 : ¬ isBin 37 := by unfold isBin; omega
    have n38 : ¬ isBin 38 := by unfold isBin; omega
    rw [el] at hl ⊢
    rw [if_neg (show ¬ nI o.1 = (1 : Int32) from ne 1 (by omega) n1), w0, bd1_s, if_pos rfl, if_neg (show ¬ nI (r.length + 2) < (1 : Int32) from nI_nlt (b := 1) (by omega) (by omega)), if_neg (show ¬ nI o.1 = (36 : Int32) from ne 36 (by omega) n36)]
    unfold fX4_worth_121 fX4_worth_142 fX4_worth_216
    rw [if_neg (show ¬ nI (r.length + 2) < (1 : Int32) from nI_nlt (b := 1) (by omega) (by omega)), if_neg (show ¬ nI o.1 = (37 : Int32) from ne 37 (by omega) n37), if_pos (show (2 : Int32) ≤ nI (r.length + 2) from nI_le (a := 2) (by omega) (by omega)), if_neg (show ¬ nI o.1 = (38 : Int32) from ne 38 (by omega) n38), show (2 : Int32) = nI 2 from rfl, nsub (by omega), show (1 : Int32) = nI 1 from rfl, nsub (by omega), show r.length + 2 - 2 = r.length by omega, show r.length + 2 - 1 = r.length + 1 by omega, gd_t (inbN (by omega) (by decide)), gd_t (inbN (by omega) (by decide)), clN (by omega), clN (by omega), z1, z0, jn_C, bd1_s, gd_t (inbN (by omega) (by decide)), bn_s, bn_s, nI_add]
    have em : nI (r.length + 2) + -nI 1 = nI (r.length + 1) := by
      rw [← Int32.sub_eq_add_neg, nsub (by omega), show r.length + 2 - 1 = r.length + 1 by omega]
    rw [em, List.length_cons]
theorem seg_C (hL : Lru ≤ 400) (hy : ∀ j, j < 12 → y j = w j) : ∀ (L : List StO) (a fuel : Nat) (st st' : List Int64) (z : Nat → Int64), (∀ o, o ∈ L → VO o) → a + L.length ≤ Lru → (∀ j o, L[j]? = some o → xr (a + j) = nI (64 * o.2 + o.1)) → SR z st → st.length ≤ 40 → exB w 40 L st = some st' → ∃ z', lq3 (fX4_worth_4b Lru xr y) (fuel + L.length) (nI st.length) (nI a) z = lq3 (fX4_worth_4b Lru xr y) fuel (nI st'.length) (nI (a + L.length)) z' ∧ SR z' st' ∧ st'.length ≤ 40
  | [], a, fuel, st, st', z, hv, ha, hx, hs, hl, h => by
    have e : st = st' := Option.some.inj h
    subst e
    exact ⟨z, rfl, hs, hl⟩
  | o :: L, a, fuel, st, st', z, hv, ha, hx, hs, hl, h => by
    rw [List.length_cons] at ha
    have h' : (ex1 w 40 o st).bind (exB w 40 L) = some st' := h
    cases e1 : ex1 w 40 o st with
    | none => rw [e1] at h'; cases h'
    | some s1 =>
      rw [e1] at h'
      obtain ⟨z1, ez1, hs1, hl1⟩ := step_C (lq3 (fX4_worth_4b Lru xr y) (fuel + L.length)) (hv o List.mem_cons_self) hL (by omega) (show xr a = _ from hx 0 o rfl) hy hs hl e1
      obtain ⟨z2, ez2, hs2, hl2⟩ := seg_C hL hy L (a + 1) fuel s1 st' z1 (fun o' ho => hv o' (List.mem_cons_of_mem _ ho)) (by omega) (fun j o' hj => by rw [show a + 1 + j = a + (j + 1) by omega]; exact hx (j + 1) o' hj) hs1 hl1 h'
      refine ⟨z2, ?_, hs2, hl2⟩
      rw [List.length_cons, ← Nat.add_assoc]
      show fX4_worth_4b Lru xr y (lq3 (fX4_worth_4b Lru xr y) (fuel + L.length)) (nI st.length) (nI a) z = _
      rw [ez1, ez2, show a + 1 + L.length = a + (L.length + 1) by omega]
/-- the number that steps come to -/
def vl (L : List StO) (w : Nat → Int64) : Int64 := ((exB w 100 L []).getD []).headD 0
theorem vl_Sem {h : Nat} {V : (Nat → Int64) → Int64} (hs : Sem L h V) (hh : h ≤ 100) : vl L w = V w := by
  unfold vl
  rw [hs.2 w 100 [] (by show 0 + h ≤ 100; omega)]
  rfl
theorem Sem_vl {h : Nat} {V : (Nat → Int64) → Int64} (hs : Sem L h V) (hh : h ≤ 100) : Sem L h (vl L) := ⟨hs.1, fun w b st hb => by rw [vl_Sem hs hh]; exact hs.2 w b st hb⟩
/-- what a rule says -/
def wF : List CLs → (Nat → Int64) → Int64
  | [], _ => 0
  | (A, B) :: Cs, w => if B = [] ∨ vl B w = 1 then vl A w else wF Cs w
theorem getL {A B : List StO} {j : Nat} {o : StO} (h : B[j]? = some o) : (A ++ B)[A.length + j]? = some o := by
  rw [List.getElem?_append_right (by omega), show A.length + j - A.length = j by omega]; exact h
theorem getL0 {A B : List StO} {j : Nat} {o : StO} (h : A[j]? = some o) : (A ++ B)[j]? = some o := by
  have : j < A.length := by
    refine Nat.not_le.mp fun hh => ?_
    rw [List.getElem?_eq_none hh] at h
    cases h
  rw [List.getElem?_append_left this]; exact h
theorem worth_C (hL : Lru ≤ 400) (hy : ∀ j, j < 12 → y j = w j) : ∀ (Cs : List CLs) (a fuel : Nat) (z : Nat → Int64), (∀ cl, cl ∈ Cs → okC cl) → a + (flC Cs).length = Lru → (∀ j o, (flC Cs)[j]? = some o → xr (a + j) = nI (64 * o.2 + o.1)) → (flC Cs).length < fuel → ∃ z', lq3 (fX4_worth_4b Lru xr y) fuel (nI 0) (nI a) z = some (wF Cs w, z')
  | [], a, fuel, z, hok, ha, hx, hf => by
    obtain ⟨f, rfl⟩ : ∃ f, fuel = f + 1 := ⟨fuel - 1, by omega⟩
    have ha' : a = Lru := ha
    refine ⟨z, ?_⟩
    show fX4_worth_4b Lru xr y (lq3 (fX4_worth_4b Lru xr y) f) (nI 0) (nI a) z = _
    generalize lq3 (fX4_worth_4b Lru xr y) f = K
    unfold fX4_worth_4b
    rw [if_pos (show Int32.ofNat Lru ≤ nI a from nI_le (a := Lru) (b := a) (by omega) (by omega))]
    rfl
  | (A, B) :: Cs, a, fuel, z, hok, ha, hx, hf => by
    obtain ⟨⟨VA, hA⟩, hB⟩ := hok (A, B) List.mem_cons_self
    have hA' : Sem A 3 (vl A) := Sem_vl hA (by omega)
    have el : (flC ((A, B) :: Cs)).length = A.length + B.length + 1 + (flC Cs).length := by
      show (A ++ B ++ [(gv B, 0)] ++ flC Cs).length = _
      rw [List.length_append, List.length_append, List.length_append]
      rfl
    have efl : flC ((A, B) :: Cs) = A ++ (B ++ ([(gv B, 0)] ++ flC Cs)) := by
      show A ++ B ++ [(gv B, 0)] ++ flC Cs = _
      simp only [List.append_assoc]
    rw [el] at ha hf
    rw [efl] at hx
    have hxg : xr (a + A.length + B.length) = nI (gv B) := by
      have := hx (A.length + (B.length + 0)) (gv B, 0) (getL (getL rfl))
      rw [show a + (A.length + (B.length + 0)) = a + A.length + B.length by omega, show 64 * 0 + gv B = gv B by omega] at this
      exact this
    have hgv : gv B < 64 := by unfold gv; split <;> omega
    have eA : exB w 40 A [] = some [vl A w] := hA'.2 w 40 [] (by decide)
    obtain ⟨f1, rfl⟩ : ∃ f, fuel = f + A.length := ⟨fuel - A.length, by omega⟩
    obtain ⟨z1, ez1, hs1, hl1⟩ := seg_C (xr := xr) hL hy A a f1 [] [vl A w] z hA.1 (by omega) (fun j o hj => hx j o (getL0 hj)) trivial (by decide) eA
    have ez1' : lq3 (fX4_worth_4b Lru xr y) (f1 + A.length) (nI 0) (nI a) z = lq3 (fX4_worth_4b Lru xr y) f1 (nI 1) (nI (a + A.length)) z1 := ez1
    rw [ez1']
    have z10 : z1 0 = vl A w := hs1.1
    by_cases hBn : B = []
    · subst hBn
      obtain ⟨f2, rfl⟩ : ∃ f, f1 = f + 1 := ⟨f1 - 1, by have : ([] : List StO).length = 0 := rfl; omega⟩
      have eg : gv [] = 37 := rfl
      rw [eg] at hxg
      refine ⟨z1, ?_⟩
      show fX4_worth_4b Lru xr y (lq3 (fX4_worth_4b Lru xr y) f2) (nI 1) (nI (a + A.length)) z1 = some (if ([] : List StO) = [] ∨ vl [] w = 1 then vl A w else wF Cs w, z1)
      rw [if_pos (Or.inl rfl)]
      generalize lq3 (fX4_worth_4b Lru xr y) f2 = K
      have hxg' : xr (a + A.length) = nI 37 := hxg
      have l0 : ([] : List StO).length = 0 := rfl
      unfold fX4_worth_4b
      rw [if_neg (show ¬ Int32.ofNat Lru ≤ nI (a + A.length) from nI_ge (b := Lru) (by omega) (by omega)), gd_t (inbN (by omega) (by omega)), bn_s, clN (by omega), hxg', show nI 37 &&& 63 = nI 37 from by decide, if_neg (show ¬ nI 37 = (1 : Int32) by decide), show fX11_isWithin (nI 37) 17 28 = some 0 from by decide, bd1_s, if_pos rfl, if_neg (show ¬ nI 1 < (1 : Int32) by decide), if_neg (show ¬ nI 37 = (36 : Int32) by decide)]
      unfold fX4_worth_121
      rw [if_neg (show ¬ nI 1 < (1 : Int32) by decide), if_pos (show nI 37 = (37 : Int32) from rfl), show nI 1 - 1 = nI 0 from rfl, gd_t (by decide), clN (by omega), z10]
    · obtain ⟨VB, hB'⟩ := hB.resolve_left hBn
      have hBs : Sem B 26 (vl B) := Sem_vl hB' (by omega)
      have eg : gv B = 38 := by unfold gv; rw [if_neg hBn]
      rw [eg] at hxg
      have eB : exB w 40 B [vl A w] = some [vl B w, vl A w] := hBs.2 w 40 [vl A w] (by show 1 + 26 ≤ 40; omega)
      obtain ⟨f2, rfl⟩ : ∃ f, f1 = f + B.length := ⟨f1 - B.length, by omega⟩
      obtain ⟨z2, ez2, hs2, hl2⟩ := seg_C (xr := xr) hL hy B (a + A.length) f2 [vl A w] [vl B w, vl A w] z1 hB'.1 (by omega) (fun j o hj => by rw [show a + A.length + j = a + (A.length + j) by omega]; exact hx _ o (getL (getL0 hj))) hs1 (by show 1 ≤ 40; omega) eB
      have ez2' : lq3 (fX4_worth_4b Lru xr y) (f2 + B.length) (nI 1) (nI (a + A.length)) z1 = lq3 (fX4_worth_4b Lru xr y) f2 (nI 2) (nI (a + A.length + B.length)) z2 := ez2
      rw [ez2']
      obtain ⟨f3, rfl⟩ : ∃ f, f2 = f + 1 := ⟨f2 - 1, by omega⟩
      have z21 : z2 1 = vl B w := hs2.1
      have z20 : z2 0 = vl A w := hs2.2.1
      show ∃ z', fX4_worth_4b Lru xr y (lq3 (fX4_worth_4b Lru xr y) f3) (nI 2) (nI (a + A.length + B.length)) z2 = some (if B = [] ∨ vl B w = 1 then vl A w else wF Cs w, z')
      have head : ∀ K : K3, fX4_worth_4b Lru xr y K (nI 2) (nI (a + A.length + B.length)) z2 = if vl B w = 1 then some (vl A w, z2) else K (nI 0) (nI (a + A.length + B.length + 1)) z2 := by
        intro K
        unfold fX4_worth_4b
        rw [if_neg (show ¬ Int32.ofNat Lru ≤ nI (a + A.length + B.length) from nI_ge (b := Lru) (by omega) (by omega)), gd_t (inbN (by omega) (by omega)), bn_s, clN (by omega), hxg, show nI 38 &&& 63 = nI 38 from by decide, if_neg (show ¬ nI 38 = (1 : Int32) by decide), show fX11_isWithin (nI 38) 17 28 = some 0 from by decide, bd1_s, if_pos rfl, if_neg (show ¬ nI 2 < (1 : Int32) by decide), if_neg (show ¬ nI 38 = (36 : Int32) by decide)]
        unfold fX4_worth_121 fX4_worth_142 fX4_worth_216
        rw [if_neg (show ¬ nI 2 < (1 : Int32) by decide), if_neg (show ¬ nI 38 = (37 : Int32) by decide), if_pos (show (2 : Int32) ≤ nI 2 by decide), if_pos (show nI 38 = (38 : Int32) from rfl), show nI 2 - 1 = nI 1 from rfl, show nI 2 - 2 = nI 0 from rfl, show nI 2 + -2 = nI 0 from by decide, gd_t (by decide), gd_t (by decide), clN (by omega), clN (by omega), z21, z20, bn_s, bn_s, nI_1]
        by_cases k : vl B w = 1
        · rw [if_pos k, if_pos ((lg_cmp_eq _ _).mpr k)]
        · rw [if_neg k, if_neg (fun hh => k ((lg_cmp_eq _ _).mp hh))]
      rw [head]
      by_cases k : vl B w = 1
      · rw [if_pos k, if_pos (Or.inr k)]; exact ⟨z2, rfl⟩
      · rw [if_neg k, if_neg (fun hh => hh.elim hBn k)]
        refine worth_C hL hy Cs (a + A.length + B.length + 1) f3 z2 (fun cl hcl => hok cl (List.mem_cons_of_mem _ hcl)) (by omega) (fun j o hj => ?_) (by omega)
        have := hx (A.length + (B.length + (1 + j))) o (getL (getL (getL (A := [(gv B, 0)]) hj)))
        rw [show a + (A.length + (B.length + (1 + j))) = a + A.length + B.length + 1 + j by omega] at this
        exact this
end EVAL

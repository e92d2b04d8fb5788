section EVALR
variable {xr x75 x92 x93 x94 x95 x96 x97 : FI} {w y z : Nat → Int64} {Lru slot a n u : Nat} {L : List StO} {st st' : List Int64} {o : StO}
abbrev K5' : Type := Int32 → Int32 → Int32 → Int32 → (Nat → Int64) → Option (Int64 × (Nat → Int64))
theorem step_R (K : K5') (hv : VO o) (hs6 : slot < 6) (ha : a < 300) (hu : a < u) (hu3 : u ≤ 300) (hx : x92 (300 * slot + a) = nI (srt o.1)) (hx3 : x93 (300 * slot + a) = nI (rnm o)) (hy : ∀ j, j < 12 → y j = w j) (hs : SR z st) (hl : st.length ≤ 300) (h : ex1 w 300 o st = some st') : ∃ z', fX12_answer_6b x92 x93 y K (nI slot) (nI u) (nI st.length) (nI a) z = K (nI slot) (nI u) (nI st'.length) (nI (a + 1)) z' ∧ SR z' st' ∧ st'.length ≤ 300 := by
  have vl := VO_lt hv
  have ei : (300 : Int32) * nI slot + nI a = nI (300 * slot + a) := by rw [show (300 : Int32) = nI 300 from rfl, pk_mul, nI_add]
  have g1 : inb (nI (300 * slot + a)) 1800 = true := inbN (by omega) (by decide)
  unfold fX12_answer_6b
  rw [if_neg (show ¬ nI u ≤ nI a from nI_ge hu (by omega)), ei, gd_t g1, bn_s, gd_t g1, bn_s, clN (show 300 * slot + a < 2147483648 by omega), hx, hx3]
  rcases ex1_cases hv h with ⟨c1, l, rfl⟩ | ⟨c1, c2, l, rfl⟩ | ⟨c1, v, r, rfl, rfl⟩ | ⟨hb, v, q, r, rfl, rfl⟩
  · have es : srt o.1 = 0 := by rw [c1]; rfl
    have en : rnm o = o.2 := by unfold rnm; rw [if_neg (by omega)]
    refine ⟨vp_updL z st.length ((nI o.2).toInt64), ?_, ⟨upL_s, SR_up hs (Nat.le_refl _)⟩, by rw [List.length_cons]; omega⟩
    rw [es, en, if_pos z00]
    unfold fX12_answer_53 fX12_answer_77 fX12_answer_147
    rw [if_pos z00, gd_t (inbN l (by decide)), bn_s, bn_s, nI_1, nI_1, clN (by omega), List.length_cons]
  · have es : srt o.1 = 1 := by
      unfold srt
      rw [if_neg (by omega), if_neg (by omega), if_neg (by omega), if_neg (by omega), if_neg (by omega), if_neg (by omega), if_neg (by omega), if_neg (by omega), if_neg (by omega), if_neg (by omega), if_neg (by omega), if_neg (by omega), if_pos (by omega)]
    have en : rnm o = o.1 - 17 := by unfold rnm; rw [if_pos ⟨c1, c2⟩]
    refine ⟨vp_updL z st.length (w (o.1 - 17)), ?_, ⟨upL_s, SR_up hs (Nat.le_refl _)⟩, by rw [List.length_cons]; omega⟩
    rw [es, en, if_neg (show ¬ nI 1 = (0 : Int32) from one_ne), if_pos (show nI 1 = (1 : Int32) from rfl)]
    unfold fX12_answer_53 fX12_answer_77 fX12_answer_147
    rw [if_neg (show ¬ nI 1 = (0 : Int32) from one_ne), gd_t (inbN (show o.1 - 17 < 12 by omega) (by decide)), clN (show o.1 - 17 < 2147483648 by omega), hy _ (by omega), gd_t (inbN l (by decide)), bn_s, bn_s, nI_1, nI_1, clN (by omega), List.length_cons]
  · have es : srt o.1 = 9 := by rw [c1]; rfl
    have el : (v :: r).length = r.length + 1 := rfl
    refine ⟨vp_updL z r.length (1 - v), ?_, ⟨upL_s, SR_up hs.2 (Nat.le_refl _)⟩, by rw [List.length_cons] at hl ⊢; omega⟩
    rw [el] at hl ⊢
    rw [es, if_neg (show ¬ nI 9 = (0 : Int32) by decide), if_neg (show ¬ nI 9 = (1 : Int32) by decide), if_pos (show nI 9 = (9 : Int32) from rfl), show (1 : Int32) = nI 1 from rfl, nsub (by omega), show r.length + 1 - 1 = r.length by omega, gd_t (inbN (by omega) (by decide)), gd_t (inbN (by omega) (by decide)), clN (by omega), hs.1]
    unfold fX12_answer_147
    rw [bn_s, nI_1, List.length_cons]
  · obtain ⟨s0, s1, s9, s16⟩ := srt_bin hb
    have el : (v :: q :: r).length = r.length + 2 := rfl
    refine ⟨vp_updL z r.length (jn o.1 q v), ?_, ⟨upL_s, SR_up hs.2.2 (Nat.le_refl _)⟩, by rw [List.length_cons, List.length_cons] at hl; rw [List.length_cons]; omega⟩
    have z1 : z (r.length + 1) = v := hs.1
    have z0 : z r.length = q := hs.2.1
    rw [el] at hl ⊢
    have em : nI (r.length + 2) + -1 = nI (r.length + 1) := by
      rw [show (-1 : Int32) = - nI 1 from rfl, ← Int32.sub_eq_add_neg, nsub (by omega), show r.length + 2 - 1 = r.length + 1 by omega]
    rw [if_neg (ne0 s0 (by omega)), if_neg (show ¬ nI (srt o.1) = (1 : Int32) from fun hh => s1 ((nI_eq (b := 1) (by omega) (by omega)).mp hh)), if_neg (show ¬ nI (srt o.1) = (9 : Int32) from fun hh => s9 ((nI_eq (b := 9) (by omega) (by omega)).mp hh)), em, bn_s, show nI (r.length + 1) - 1 = nI r.length from by rw [show (1 : Int32) = nI 1 from rfl, nsub (by omega), show r.length + 1 - 1 = r.length by omega], gd_t (inbN (by omega) (by decide)), gd_t (inbN (by omega) (by decide)), clN (by omega), clN (by omega), z1, z0, jn_R hb, bd1_s, gd_t (inbN (by omega) (by decide))]
    unfold fX12_answer_147
    rw [bn_s, nI_1, List.length_cons]
theorem seg_R (hs6 : slot < 6) (hu3 : u ≤ 300) (hy : ∀ j, j < 12 → y j = w j) : ∀ (L : List StO) (a fuel : Nat) (st st' : List Int64) (z : Nat → Int64), (∀ o, o ∈ L → VO o) → a + L.length ≤ u → (∀ j o, L[j]? = some o → x92 (300 * slot + (a + j)) = nI (srt o.1) ∧ x93 (300 * slot + (a + j)) = nI (rnm o)) → SR z st → st.length ≤ 300 → exB w 300 L st = some st' → ∃ z', lq5 (fX12_answer_6b x92 x93 y) (fuel + L.length) (nI slot) (nI u) (nI st.length) (nI a) z = lq5 (fX12_answer_6b x92 x93 y) fuel (nI slot) (nI u) (nI st'.length) (nI (a + L.length)) z' ∧ SR z' st' ∧ st'.length ≤ 300
  | [], a, fuel, st, st', z, hv, ha, hx, hs, hl, h => by
    have e : st = st' := Option.some.inj h
    subst e
    exact ⟨z, rfl, hs, hl⟩
  | o :: L, a, fuel, st, st', z, hv, ha, hx, hs, hl, h => by
    rw [List.length_cons] at ha
    have h' : (ex1 w 300 o st).bind (exB w 300 L) = some st' := h
    cases e1 : ex1 w 300 o st with
    | none => rw [e1] at h'; cases h'
    | some s1 =>
      rw [e1] at h'
      have hx0 := hx 0 o rfl
      obtain ⟨z1, ez1, hs1, hl1⟩ := step_R (lq5 (fX12_answer_6b x92 x93 y) (fuel + L.length)) (hv o List.mem_cons_self) hs6 (by omega) (show a < u by omega) hu3 (show x92 (300 * slot + a) = _ from hx0.1) hx0.2 hy hs hl e1
      obtain ⟨z2, ez2, hs2, hl2⟩ := seg_R hs6 hu3 hy L (a + 1) fuel s1 st' z1 (fun o' ho => hv o' (List.mem_cons_of_mem _ ho)) (by omega) (fun j o' hj => by rw [show a + 1 + j = a + (j + 1) by omega]; exact hx (j + 1) o' hj) hs1 hl1 h'
      refine ⟨z2, ?_, hs2, hl2⟩
      rw [List.length_cons, ← Nat.add_assoc]
      show fX12_answer_6b x92 x93 y (lq5 (fX12_answer_6b x92 x93 y) (fuel + L.length)) (nI slot) (nI u) (nI st.length) (nI a) z = _
      rw [ez1, ez2, show a + 1 + L.length = a + (L.length + 1) by omega]
theorem ans_R {h : Nat} {V : (Nat → Int64) → Int64} (hS : Sem L h V) (hh : h ≤ 100) (hs6 : slot < 6) (hy : ∀ j, j < 12 → y j = w j) (hx : ∀ j o, L[j]? = some o → x92 (300 * slot + (a + j)) = nI (srt o.1) ∧ x93 (300 * slot + (a + j)) = nI (rnm o)) (ha : a + L.length < 300) : ∃ z', fX12_answer x92 x93 y (nI slot) (nI a) (nI (a + L.length)) z = some (vl L w, z') := by
  have eL : exB w 300 L [] = some [vl L w] := (Sem_vl hS hh).2 w 300 [] (by show 0 + h ≤ 300; omega)
  obtain ⟨z1, ez, hs1, _⟩ := seg_R (x92 := x92) (x93 := x93) (u := a + L.length) hs6 (by omega) hy L a (5000 - L.length) [] [vl L w] z hS.1 (Nat.le_refl _) hx trivial (by show 0 ≤ 300; omega) eL
  rw [show 5000 - L.length + L.length = 5000 by omega] at ez
  refine ⟨z1, ?_⟩
  have e1 : fX12_answer x92 x93 y (nI slot) (nI a) (nI (a + L.length)) z = lq5 (fX12_answer_6b x92 x93 y) 5000 (nI slot) (nI (a + L.length)) (nI ([] : List Int64).length) (nI a) z := rfl
  rw [e1, ez]
  obtain ⟨f, hf⟩ : ∃ f, 5000 - L.length = f + 1 := ⟨5000 - L.length - 1, by omega⟩
  rw [hf]
  show fX12_answer_6b x92 x93 y (lq5 (fX12_answer_6b x92 x93 y) f) _ _ _ _ z1 = _
  generalize lq5 (fX12_answer_6b x92 x93 y) f = K
  have z0 : z1 (0 : Int32).toNatClampNeg = vl L w := hs1.1
  unfold fX12_answer_6b
  rw [if_pos (nI_le (Nat.le_refl _) (by omega)), gd_t (by decide), z0]
theorem wanted_R (hs6 : slot < 6) (hy : ∀ j, j < 12 → y j = w j) {nc : Nat} (hnc : nc ≤ 12) (h94 : x94 slot = nI nc) : ∀ (Cs : List CLs) (m off fuel : Nat) (z : Nat → Int64), (∀ cl, cl ∈ Cs → okC cl) → m + Cs.length = nc → off + (flE Cs).length < 300 → CRr slot x95 x96 x97 m off Cs → (∀ j o, (flE Cs)[j]? = some o → x92 (300 * slot + (off + j)) = nI (srt o.1) ∧ x93 (300 * slot + (off + j)) = nI (rnm o)) → Cs.length < fuel → ∃ z', lq3 (fX12_wanted_13b x75 x92 x93 x94 x95 x96 x97 y) fuel (nI slot) (nI (12 * slot + m)) z = some (wF Cs w, z')
  | [], m, off, fuel, z, hok, hm, hl, hC, hx, hf => by
    have hm' : m = nc := hm
    obtain ⟨f, rfl⟩ : ∃ f, fuel = f + 1 := ⟨fuel - 1, by omega⟩
    refine ⟨z, ?_⟩
    show fX12_wanted_13b x75 x92 x93 x94 x95 x96 x97 y (lq3 (fX12_wanted_13b x75 x92 x93 x94 x95 x96 x97 y) f) (nI slot) (nI (12 * slot + m)) z = _
    generalize lq3 (fX12_wanted_13b x75 x92 x93 x94 x95 x96 x97 y) f = K
    unfold fX12_wanted_13b
    rw [gd_t (inbN hs6 (by decide)), clN (show slot < 2147483648 by omega), h94, show (12 : Int32) = nI 12 from rfl, pk_mul, nI_add, if_pos (nI_le (by omega) (by omega))]
    rfl
  | (A, B) :: Cs, m, off, fuel, z, hok, hm, hl, hC, hx, hf => by
    rw [List.length_cons] at hm hf
    obtain ⟨f, rfl⟩ : ∃ f, fuel = f + 1 := ⟨fuel - 1, by omega⟩
    obtain ⟨⟨VA, hA⟩, hB⟩ := hok (A, B) List.mem_cons_self
    have hA : Sem A 3 VA := hA
    have hB : B = [] ∨ ∃ V, Sem B 26 V := hB
    obtain ⟨c1, c2, c3, c4⟩ := hC
    have el : (flE ((A, B) :: Cs)).length = A.length + B.length + (flE Cs).length := by
      show (A ++ B ++ flE Cs).length = _
      rw [List.length_append, List.length_append]
    have efl : flE ((A, B) :: Cs) = A ++ (B ++ flE Cs) := by
      show A ++ B ++ flE Cs = _
      rw [List.append_assoc]
    rw [el] at hl
    rw [efl] at hx
    have g72 : inb (nI (12 * slot + m)) 72 = true := inbN (by omega) (by decide)
    obtain ⟨f', hf'⟩ : ∃ K, lq3 (fX12_wanted_13b x75 x92 x93 x94 x95 x96 x97 y) f = K := ⟨_, rfl⟩
    have ih := fun z => wanted_R hs6 hy hnc h94 Cs (m + 1) (off + A.length + B.length) f z (fun cl hcl => hok cl (List.mem_cons_of_mem _ hcl)) (by omega) (by omega) c4 (fun j o hj => by
      have := hx (A.length + (B.length + j)) o (getL (getL hj))
      rw [show off + (A.length + (B.length + j)) = off + A.length + B.length + j by omega] at this
      exact this) (by omega)
    show ∃ z', fX12_wanted_13b x75 x92 x93 x94 x95 x96 x97 y (lq3 (fX12_wanted_13b x75 x92 x93 x94 x95 x96 x97 y) f) (nI slot) (nI (12 * slot + m)) z = some (if B = [] ∨ vl B w = 1 then vl A w else wF Cs w, z')
    rw [hf'] at ih ⊢
    have give : ∀ z, ∃ z', fX12_wanted_65 x75 x92 x93 x94 x95 x96 x97 y (nI slot) (nI (12 * slot + m)) z = some (vl A w, z') := fun z => by
      obtain ⟨z1, e1⟩ := ans_R (x92 := x92) (x93 := x93) (a := off) (z := z) hA (by omega) hs6 hy (fun j o hj => hx j o (getL0 hj)) (by omega)
      refine ⟨z1, ?_⟩
      unfold fX12_wanted_65
      rw [gd_t g72, gd_t g72, clN (show 12 * slot + m < 2147483648 by omega), c1, c2, e1, bd2_s]
    unfold fX12_wanted_13b
    rw [gd_t (inbN hs6 (by decide)), clN (show slot < 2147483648 by omega), h94, show (12 : Int32) = nI 12 from rfl, pk_mul, nI_add, if_neg (nI_ge (by omega) (by omega)), gd_t g72, gd_t g72, clN (show 12 * slot + m < 2147483648 by omega), c2, c3]
    by_cases hBn : B = []
    · subst hBn
      rw [if_pos (show nI (off + A.length) = nI (off + A.length + ([] : List StO).length) from rfl), if_pos (Or.inl rfl)]
      exact give z
    · obtain ⟨VB, hB'⟩ := hB.resolve_left hBn
      have hBl : 0 < B.length := List.length_pos_iff.mpr hBn
      obtain ⟨z1, e1⟩ := ans_R (x92 := x92) (x93 := x93) (a := off + A.length) (z := z) hB' (by omega) hs6 hy (fun j o hj => by
        have := hx (A.length + j) o (getL (getL0 hj))
        rw [show off + (A.length + j) = off + A.length + j by omega] at this
        exact this) (by omega)
      rw [if_neg (show ¬ nI (off + A.length) = nI (off + A.length + B.length) from fun hh => by have := (nI_eq (by omega) (by omega)).mp hh; omega), gd_t g72, gd_t g72, e1, bd2_s]
      by_cases k : vl B w = 1
      · rw [if_pos ((lg_cmp_eq _ _).mpr k), if_pos (Or.inr k)]
        exact give z1
      · rw [if_neg (fun hh => k ((lg_cmp_eq _ _).mp hh)), if_neg (fun hh => hh.elim hBn k), bn_s, nI_1]
        exact ih z1
/-- a rule held by both: its worth is one number -/
theorem RUL_CW {Cs : List CLs} {y14 z92 z93 z94 z95 z96 z97 xr : FI} (h : RUL slot Cs y14 z92 z93 z94 z95 z96 z97) (hxr : ∀ j, j < (flC Cs).length → xr j = y14 j) : CW (flC Cs).length xr (wF Cs) := by
  obtain ⟨hok, h12, h400, h300, hES, hER, hCR, h94⟩ := h
  intro w y z hy
  obtain ⟨z', e⟩ := worth_C (Lru := (flC Cs).length) (xr := xr) h400 hy Cs 0 5000 z hok (Nat.zero_add _) (fun j o hj => by
    have hj' : j < (flC Cs).length := by
      refine Nat.not_le.mp fun hh => ?_
      rw [List.getElem?_eq_none hh] at hj
      cases hj
    rw [Nat.zero_add, hxr j hj']; exact hES j o hj) (by omega)
  exact ⟨z', e⟩
theorem RUL_RW {Cs : List CLs} {y14 z92 z93 z94 z95 z96 z97 : FI} (hs6 : slot < 6) (h : RUL slot Cs y14 z92 z93 z94 z95 z96 z97) : RW (nI slot) z92 z93 z94 z95 z96 z97 (some (wF Cs)) := by
  obtain ⟨hok, h12, h400, h300, hES, hER, hCR, h94⟩ := h
  refine ⟨fun e => nn1 (show slot < 2000000 by omega) e, fun x75 h10 w y z hy => ?_⟩
  obtain ⟨z', e⟩ := wanted_R (x75 := x75) (x92 := z92) (x93 := z93) (x95 := z95) (x96 := z96) (x97 := z97) hs6 hy h12 h94 Cs 0 0 5000 z hok (Nat.zero_add _) (by omega) hCR (fun j o hj => by rw [Nat.zero_add]; exact hER j o hj) (by omega)
  refine ⟨z', ?_⟩
  have h10' : x75 (10 : Int32).toNatClampNeg = nI slot := h10
  unfold fX12_wanted fX12_wanted_0
  rw [gd_t (by decide), bn_s, h10', bn_s, show (12 : Int32) = nI 12 from rfl, pk_mul]
  exact e
end EVALR

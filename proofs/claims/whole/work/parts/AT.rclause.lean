abbrev CLs : Type := List StO × List StO
def gv (B : List StO) : Nat := if B = [] then 37 else 38
def flC : List CLs → List StO
  | [] => []
  | (A, B) :: Cs => A ++ B ++ [(gv B, 0)] ++ flC Cs
def flE : List CLs → List StO
  | [] => []
  | (A, B) :: Cs => A ++ B ++ flE Cs
theorem flC_app {A B : List StO} : ∀ Cs : List CLs, flC (Cs ++ [(A, B)]) = flC Cs ++ (A ++ B ++ [(gv B, 0)])
  | [] => by show A ++ B ++ [(gv B, 0)] ++ [] = [] ++ _; rw [List.append_nil, List.nil_append]
  | (A', B') :: Cs => by
    show A' ++ B' ++ [(gv B', 0)] ++ flC (Cs ++ [(A, B)]) = A' ++ B' ++ [(gv B', 0)] ++ flC Cs ++ _
    rw [flC_app Cs, List.append_assoc (A' ++ B' ++ [(gv B', 0)])]
theorem flE_app {A B : List StO} : ∀ Cs : List CLs, flE (Cs ++ [(A, B)]) = flE Cs ++ (A ++ B)
  | [] => by show A ++ B ++ [] = [] ++ _; rw [List.append_nil, List.nil_append]
  | (A', B') :: Cs => by
    show A' ++ B' ++ flE (Cs ++ [(A, B)]) = A' ++ B' ++ flE Cs ++ _
    rw [flE_app Cs, List.append_assoc (A' ++ B')]
/-- where the reference's clauses stand -/
def CRr (slot : Nat) (x95 x96 x97 : FI) : Nat → Nat → List CLs → Prop
  | _, _, [] => True
  | m, off, (A, B) :: Cs => x95 (12 * slot + m) = nI off ∧ x96 (12 * slot + m) = nI (off + A.length) ∧ x97 (12 * slot + m) = nI (off + A.length + B.length) ∧ CRr slot x95 x96 x97 (m + 1) (off + A.length + B.length) Cs
theorem CRr_fr {slot : Nat} {x95 x96 x97 z95 z96 z97 : FI} : ∀ (Cs : List CLs) (m off : Nat), (∀ j, j < 12 * slot + m + Cs.length → z95 j = x95 j ∧ z96 j = x96 j ∧ z97 j = x97 j) → CRr slot x95 x96 x97 m off Cs → CRr slot z95 z96 z97 m off Cs
  | [], _, _, _, _ => trivial
  | (A, B) :: Cs, m, off, hf, h => by
    have f := hf (12 * slot + m) (by rw [List.length_cons]; omega)
    exact ⟨f.1.trans h.1, f.2.1.trans h.2.1, f.2.2.trans h.2.2.1, CRr_fr Cs (m + 1) _ (fun j hj => hf j (by rw [List.length_cons]; omega)) h.2.2.2⟩
theorem CRr_add {slot : Nat} {x95 x96 x97 : FI} {A B : List StO} : ∀ (Cs : List CLs) (m off : Nat), CRr slot x95 x96 x97 m off Cs → x95 (12 * slot + (m + Cs.length)) = nI (off + (flE Cs).length) → x96 (12 * slot + (m + Cs.length)) = nI (off + (flE Cs).length + A.length) → x97 (12 * slot + (m + Cs.length)) = nI (off + (flE Cs).length + A.length + B.length) → CRr slot x95 x96 x97 m off (Cs ++ [(A, B)])
  | [], m, off, _, h1, h2, h3 => ⟨h1, h2, h3, trivial⟩
  | (A', B') :: Cs, m, off, h, h1, h2, h3 => by
    have el : (flE ((A', B') :: Cs)).length = A'.length + B'.length + (flE Cs).length := by
      show (A' ++ B' ++ flE Cs).length = _
      rw [List.length_append, List.length_append]
    rw [List.length_cons, show m + (Cs.length + 1) = m + 1 + Cs.length by omega, el] at h1 h2 h3
    refine ⟨h.1, h.2.1, h.2.2.1, CRr_add Cs (m + 1) _ h.2.2.2 ?_ ?_ ?_⟩
    · rw [h1]; congr 1; omega
    · rw [h2]; congr 1; omega
    · rw [h3]; congr 1; omega
def okC (cl : CLs) : Prop := (∃ V, Sem cl.1 3 V) ∧ (cl.2 = [] ∨ ∃ V, Sem cl.2 26 V)
abbrev R7' : Type := Option (FI × FI × FI × FI × FI × FI × FI)
def fr95 (slot : Nat) (x95 x96 x97 z95 z96 z97 : FI) : Prop := ∀ j, j < 12 * slot → z95 j = x95 j ∧ z96 j = x96 j ∧ z97 j = x97 j
def RCO (t : FI) (sz c slot n : Nat) (S E : List StO) (x3 x4 x5 x74 x91 x92 x93 x95 x96 x97 : FI) (oc : C4) (or : R7') : Prop :=
  (n < 12 ∧ ∃ i p k A B y1 y13 y14 z74 z92 z93 z98, okC (A, B) ∧ oc = some (1, y1, y13, y14) ∧ or = some (z74, z92, z93, upd x95 (12 * slot + n) (nI E.length), upd x96 (12 * slot + n) (nI (E.length + A.length)), upd x97 (12 * slot + n) (nI (E.length + A.length + B.length)), z98) ∧ RS t sz c slot 0 0 i p (S ++ (A ++ B ++ [(gv B, 0)])) (E ++ (A ++ B)) k y1 x3 x4 x5 y13 y14 z74 x91 z92 z93 ∧ fu74 x74 z74 ∧ fr92 slot x92 x93 z92 z93 ∧ z74 23 = nI 0) ∨
  ∃ F y1 y13 y14 z74 z92 z93 z95 z96 z97 z98, oc = some (0, y1, y13, y14) ∧ y1 7 = nI F ∧ or = some (z74, z92, z93, z95, z96, z97, z98) ∧ RF sz slot F x74 x92 x93 z74 z92 z93 ∧ fr95 slot x95 x96 x97 z95 z96 z97
section RCL
variable {x1 x3 x4 x5 x13 x14 x74 x91 x92 x93 x95 x96 x97 x98 t : Nat → Int32} {sz c slot d e i p k n o D j : Nat} {S E L : List StO}
theorem Sem_ne {L : List StO} {h : Nat} {V : (Nat → Int64) → Int64} (hs : Sem L h V) : L ≠ [] := by
  intro e
  subst e
  have := hs.2 (fun _ => 0) h [] (by simp)
  cases this
theorem r_clause (hR : RS t sz c slot 0 0 i p S E k x1 x3 x4 x5 x13 x14 x74 x91 x92 x93) (h23 : x74 23 = nI 0) (hn : n ≤ 12) : RCO t sz c slot n S E x3 x4 x5 x74 x91 x92 x93 x95 x96 x97 (fX5_readClause x3 x4 x5 (nI n) x1 x13 x14) (fX12_ruleClause x91 (nI n) x74 x92 x93 x95 x96 x97 x98) := by
  obtain ⟨hz, hc, hic, _⟩ := RS_lim hR
  have tsl := ts_le (t := t) (sz := sz) i
  have tl := tc_lt (t := t) (s := ts t sz i) hz
  obtain ⟨w74, ew, w18, hRw, fw, wf⟩ := RS_blank hR
  have w19 : w74 19 = 0 := hRw.1.2.1.2.2.2.1
  have w17 : w74 17 = nI sz := hRw.1.2.1.2.1
  have w20 : w74 20 = nI slot := hRw.2.2.1.1
  have w22 : w74 22 = nI E.length := hRw.2.2.1.2.1
  have hsl := hRw.2.2.2.1
  have h91 := hRw.1.2.1.2.2.2.2.1
  have bad : ∀ kd, kd < 10 → RCO t sz c slot n S E x3 x4 x5 x74 x91 x92 x93 x95 x96 x97 (some (0, upd x1 7 (nI (flt (ts t sz i) kd)), x13, x14)) (bd1 (fX12_fails (nI kd) (nI (ts t sz i)) w74) fun z => some (z, x92, x93, x95, x96, x97, x98)) := by
    intro kd hk
    have fl := flt_lt (s := ts t sz i) (k := kd) (by omega) hk
    rw [(p_fails (x74 := w74)).1 w19, bd1_s]
    exact Or.inr ⟨_, _, x13, x14, _, x92, x93, x95, x96, x97, x98, rfl, pk_us, rfl, RF_mk (q := ts t sz i) fl pk_us ((pk_un (by omega)).trans w18) (by omega) (fun j j1 j2 _ _ _ _ => by rw [pk_un j2]; exact wf j j1), fun _ _ => ⟨rfl, rfl, rfl⟩⟩
  unfold fX5_readClause fX5_readClause_0 fX12_ruleClause fX12_ruleClause_0
  rw [RS_code hR, bd1_s, ew, bd1_s, bn_s, w18]
  rcases p_isWordAt (w := 15) (x74 := w74) (x91 := x91) (t := t) (by omega) hz w17 w18 (by omega) h91 with ⟨ok, e1⟩ | ⟨no, e1⟩
  · have k32 : tc t sz (ts t sz i) = 32 := (tc_word hz tsl (w := 15) (by omega)).mpr ok
    rw [e1, bd1_s, if_neg (show ¬ nI 1 = (0 : Int32) from one_ne), if_pos (show nI (tc t sz (ts t sz i)) = (32 : Int32) by rw [k32]; rfl)]
    by_cases n12 : n = 12
    · rw [if_neg (show ¬ nI n < (12 : Int32) by rw [n12]; decide), if_pos (show nI n = (12 : Int32) by rw [n12]; rfl), show (4 : Int32) = nI 4 from rfl, p_fail hR.1.1, bd2_s, gd_t (by decide)]
      exact bad 4 (by omega)
    · obtain ⟨hlt, enx⟩ := nx_word (t := t) (w := 15) hz tsl (by omega) k32
      have en4 : wlen 15 = 4 := by decide
      have tm := ts_mono (t := t) (i := i) hlt
      obtain ⟨esk, hR1⟩ := RS_tok (d' := 1) (e' := 0) (z74 := upd w74 18 (nI (nx t sz (ts t sz i)))) hRw hlt pk_us (fun j j1 _ _ => pk_un j1) (by omega) (by omega)
      have e18 : w74 18 + 4 = nI (nx t sz (ts t sz i)) := by rw [w18, show (4 : Int32) = nI 4 from rfl, nI_add, enx, en4]
      have ehere : (12 : Int32) * nI slot + nI n = nI (12 * slot + n) := by rw [show (12 : Int32) = nI 12 from rfl, pk_mul, nI_add]
      rw [← w18, e18, if_pos (show nI n < (12 : Int32) from nI_lt (b := 12) (by omega) (by omega)), if_neg (show ¬ nI n = (12 : Int32) from fun hh => n12 ((nI_eq (b := 12) (by omega) (by omega)).mp hh)), esk, bd1_s, bn_s, pk_un (show 20 ≠ 18 by omega), w20, ehere, gd_t (inbN (by omega) (by decide)), clN (by omega), pk_un (show 22 ≠ 18 by omega), w22]
      have fr1 : fq74 x74 (upd w74 18 (nI (nx t sz (ts t sz i)))) := fun j j1 _ _ _ => by rw [pk_un j1]; exact wf j j1
      have hin : inb (nI (12 * slot + n)) 72 = true := inbN (by omega) (by decide)
      rcases e_sum hR1 with ⟨i1, k1, A, VA, y1, y13, y14, z74, z92, z93, hi1, hs1, ec, er, hR2, fz, f92⟩ | ⟨F, y1, y13, y14, z74, z92, z93, ec, y17, er, hRF⟩
      · obtain ⟨_, _, hic1, _⟩ := RS_lim hR2
        have tsl1 := ts_le (t := t) (sz := sz) i1
        have tl1 := tc_lt (t := t) (s := ts t sz i1) hz
        have z19 : z74 19 = 0 := hR2.1.2.1.2.2.2.1
        have z22 : z74 22 = nI (E ++ A).length := hR2.2.2.1.2.1
        obtain ⟨u74, eu, u18, hRu, fu, uf⟩ := RS_blank hR2
        have u17 : u74 17 = nI sz := hRu.1.2.1.2.1
        have h91u := hRu.1.2.1.2.2.2.2.1
        have ezl : nI (E ++ A).length = nI (E.length + A.length) := by rw [List.length_append]
        rw [ec, bd4_s, if_neg one_ne, RS_code hR2, bd1_s, er, bd3_s, gd_t hin, if_pos z19]
        unfold fX12_takes fX12_takes_0 fX12_takes_27
        rw [eu, bd1_s]
        rcases p_isWordAt (w := 16) (x74 := u74) (x91 := x91) (t := t) (by omega) hz u17 u18 (by omega) h91u with ⟨ok2, e2⟩ | ⟨no2, e2⟩
        · have k33 : tc t sz (ts t sz i1) = 33 := (tc_word hz tsl1 (w := 16) (by omega)).mpr ok2
          obtain ⟨hlt1, enx1⟩ := nx_word (t := t) (w := 16) hz tsl1 (by omega) k33
          have tm1 := ts_mono (t := t) (i := i1) hlt1
          obtain ⟨esk1, hR3⟩ := RS_tok (d' := 1) (e' := 3) (z74 := upd (upd u74 18 (nI (nx t sz (ts t sz i1)))) 25 (nI 0)) hRu hlt1 (by rw [pk_un (by omega), pk_us]) (fun j j1 _ j3 => by rw [pk_un j3, pk_un j1]) (by omega) (by omega)
          have e18' : u74 18 + slen 16 = nI (nx t sz (ts t sz i1)) := by rw [u18, (slen_w 16 (by omega)).1, nI_add, enx1]
          rw [e2, bd1_s, if_neg (show ¬ nI 1 = (0 : Int32) from one_ne), e18', gd_t bz_1, bd2_s, if_neg (show ¬ nI 1 = (0 : Int32) from one_ne), if_pos (show nI (tc t sz (ts t sz i1)) = (33 : Int32) by rw [k33]; rfl), esk1, bd1_s]
          have hT := t_test (fact_all (t := t) (x3 := x3) (x4 := x4) (x5 := x5) (x91 := x91) (sz := sz) (c := c) (slot := slot) 12 0 (by omega) (by omega)) (by omega) (i0 := i1 + 1) (d := 1) (e := 3) (o := 0) (S := S ++ A) (E := E ++ A) c 5000 5000 0 (i1 + 1) _ k1 0 0 [] [] _ _ _ _ _ _ x98 (by omega) (by omega) (by omega) (by omega) (by omega) (by omega) (Nat.le_refl _) (by rw [List.append_nil, List.append_nil, List.append_nil]; exact hR3) pk_us (by rw [pk_un (by omega), pk_un (by omega), uf 23 (by omega), fz 23 (by omega) (by omega) (by omega) (by omega), fr1 23 (by omega) (by omega) (by omega) (by omega)]; exact h23) (fun h => absurd h (by omega)) (fun h => absurd h (by omega)) (Or.inl rfl) (by omega) (Or.inl ⟨rfl, rfl⟩) (Or.inl ⟨rfl, rfl⟩)
          have ecT : fTest x3 x4 x5 0 (upd y1 6 (nI (i1 + 1))) y13 y14 = lq7 (fX5_readTestO_7b (fFact x3 x4 x5 12) x3 x4 x5) 5000 (nI 0) (nI 0) (nI 0) (nI 0) (upd y1 6 (nI (i1 + 1))) y13 y14 := rfl
          have erT : fX12_test x91 (upd u74 18 (nI (nx t sz (ts t sz i1)))) z92 z93 x98 = lq6 (fX12_test_9b x91) 5000 1 1 (upd (upd u74 18 (nI (nx t sz (ts t sz i1)))) 25 (nI 0)) z92 z93 x98 := rfl
          rw [ecT, erT]
          have fr2 : fu74 x74 (upd (upd u74 18 (nI (nx t sz (ts t sz i1)))) 25 (nI 0)) := fun j j1 j2 j3 j4 j5 j6 => by rw [pk_un j6, pk_un j1, uf j j1, fz j j1 j2 j3 j5, fr1 j j1 j2 j3 j5]
          rcases hT with ⟨fuel', i2, k2, B, VB, v1, v13, v14, v74, v92, v93, v98, hii, hsB, ec2, er2, hR4, v25, v23, hv98, fv, f92v, hfu1⟩ | ⟨F, v1, v13, v14, v74, v92, v93, v98, ec2, v17, er2, hRF⟩
          · obtain ⟨ow, hR5⟩ := RS_opC (q := 38) hR4 (by omega)
            obtain ⟨fuel'', rfl⟩ : ∃ f, fuel' = f + 1 := ⟨fuel' - 1, by have := (RS_lim hR4).2.2.1; omega⟩
            have top : fX12_top v74 v98 = some (-1) := by
              unfold fX12_top fX12_top_0
              rw [v25, if_pos z00]
            have eT : TEnd x91 (lq6 (fX12_test_9b x91) (fuel'' + 1)) v74 v92 v93 v98 = some (v74, v92, v93, v98) := by
              unfold TEnd
              rw [top, bd1_s, if_neg (by decide)]
              unfold fX12_test_199
              show fX12_test_9b x91 (lq6 (fX12_test_9b x91) fuel'') 0 0 v74 v92 v93 v98 = _
              generalize lq6 (fX12_test_9b x91) fuel'' = K
              unfold fX12_test_9b
              rw [if_pos rfl]
            have hB : B ≠ [] := Sem_ne hsB
            have egv : gv B = 38 := by unfold gv; rw [if_neg hB]
            have v22 : v74 22 = nI (E.length + A.length + B.length) := by rw [hR4.2.2.1.2.1, List.length_append, List.length_append]
            rw [ec2, bd4_s, if_neg one_ne, show (38 : Int32) = nI 38 from rfl, ow, bd3_s, if_neg one_ne, er2, eT, bd4_s]
            unfold fX12_ruleClause_104
            rw [gd_t hin, clN (by omega), v22, z22, ezl]
            have hR6 := RS_weak (d' := 0) (e' := 0) hR5 (Nat.le_refl _) (by omega)
            rw [show S ++ A ++ B ++ [(38, 0)] = S ++ (A ++ B ++ [(gv B, 0)]) by rw [egv]; simp only [List.append_assoc], List.append_assoc E] at hR6
            exact Or.inl ⟨by omega, i2, _, k2, A, B, v1, _, _, v74, v92, v93, v98, ⟨⟨VA, hs1⟩, Or.inr ⟨VB, hsB⟩⟩, rfl, rfl, hR6, fu_trans fr2 fv, fr_trans f92 f92v, v23⟩
          · rw [ec2, bd4_s, if_pos rfl, er2, bd4_s]
            unfold fX12_ruleClause_104 fX5_readClause_101
            rw [gd_t hin, clN (by omega)]
            exact Or.inr ⟨F, v1, v13, v14, v74, v92, v93, _, _, _, v98, rfl, v17, rfl, RF_fu fr2 f92 hRF, fun j hj => ⟨pk_un (by omega), pk_un (by omega), pk_un (by omega)⟩⟩
        · have k33 : ¬ tc t sz (ts t sz i1) = 33 := fun hh => no2 ((tc_word hz tsl1 (w := 16) (by omega)).mp hh)
          obtain ⟨ow, hR5⟩ := RS_opC (q := 37) hR2 (by omega)
          have hR5u : RS t sz c slot 0 0 i1 (ts t sz i1) (S ++ (A ++ [] ++ [(gv [], 0)])) (E ++ (A ++ [])) k1 y1 x3 x4 x5 (upd y13 2 (nI ((S ++ A).length + 1))) (upd y14 (S ++ A).length (nI (64 * 0 + 37))) (upd u74 18 (u74 18 + 0)) x91 z92 z93 := by
            have h0 : upd u74 18 (u74 18 + 0) = u74 := by
              funext j
              by_cases e : j = 18
              · subst e; rw [pk_us, u18]; exact nI_add _ 0
              · exact pk_un e
            obtain ⟨_, hRuu⟩ := RS_opC (q := 37) hRu (by omega)
            have hw := RS_weak (d' := 0) (e' := 0) hRuu (Nat.le_refl _) (by omega)
            rw [h0, List.append_nil]
            rw [show S ++ A ++ [(37, 0)] = S ++ (A ++ [(gv [], 0)]) by rw [List.append_assoc]; rfl] at hw
            exact hw
          rw [e2, bd1_s, if_pos z00, gd_t bz_0, bd2_s, if_pos z00, if_neg (show ¬ nI (tc t sz (ts t sz i1)) = (33 : Int32) from fun hh => k33 ((nI_eq (b := 33) (by omega) (by omega)).mp hh)), show (37 : Int32) = nI 37 from rfl, ow, bd3_s, gd_t (by decide)]
          unfold fX12_ruleClause_104
          have u22 : upd u74 18 (u74 18 + 0) 22 = nI (E.length + A.length + ([] : List StO).length) := by rw [pk_un (by omega), uf 22 (by omega), z22, List.length_append]; rfl
          rw [gd_t hin, clN (by omega), u22, z22, ezl]
          exact Or.inl ⟨by omega, i1, _, k1, A, [], y1, _, _, _, z92, z93, x98, ⟨⟨VA, hs1⟩, Or.inl rfl⟩, rfl, rfl, hR5u, fun j j1 j2 j3 j4 j5 j6 => by rw [pk_un j1, uf j j1, fz j j1 j2 j3 j5, fr1 j j1 j2 j3 j5], f92, by rw [pk_un (by omega), uf 23 (by omega), fz 23 (by omega) (by omega) (by omega) (by omega), fr1 23 (by omega) (by omega) (by omega) (by omega)]; exact h23⟩
      · have r19 : ¬ z74 19 = 0 := by rw [hRF.2.2.1]; exact ne0 (by have := hRF.1; omega) (by have := hRF.2.1; omega)
        rw [ec, bd4_s, if_pos rfl, er, bd3_s, gd_t hin, if_neg r19]
        unfold fX12_ruleClause_104
        rw [gd_t hin, clN (by omega)]
        exact Or.inr ⟨F, y1, y13, y14, z74, z92, z93, _, _, _, x98, rfl, y17, rfl, RF_fr fr1 fr_refl hRF, fun j hj => ⟨pk_un (by omega), pk_un (by omega), pk_un (by omega)⟩⟩
  · have k32 : ¬ tc t sz (ts t sz i) = 32 := fun hh => no ((tc_word hz tsl (w := 15) (by omega)).mp hh)
    rw [e1, bd1_s, if_pos z00, if_neg (show ¬ nI (tc t sz (ts t sz i)) = (32 : Int32) from fun hh => k32 ((nI_eq (b := 32) (by omega) (by omega)).mp hh)), show (0 : Int32) = nI 0 from rfl, p_fail hR.1.1, bd2_s, gd_t (by decide)]
    exact bad 0 (by omega)
end RCL

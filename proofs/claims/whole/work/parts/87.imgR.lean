section IMGR
variable {x74 x75 x76 x77 x78 x79 x80 x81 x82 x83 x84 x85 x102 x103 x112 x113 : Nat → Int32}
/-- an image holds these rows -/
def IM (k : Nat) (x112 : Nat → Int32) (cc : Int32) (x75 x76 x77 x78 x79 x80 x81 x82 x83 x84 x85 x102 : Nat → Int32) : Prop := (∀ j, j < 11 → x112 (1300 * k + 0 + j) = x75 j) ∧ (∀ j, j < 6 → x112 (1300 * k + 11 + j) = x76 j) ∧ (∀ j, j < 6 → x112 (1300 * k + 17 + j) = x77 j) ∧ (∀ j, j < 36 → x112 (1300 * k + 23 + j) = x78 j) ∧ x112 (1300 * k + 59) = cc ∧ (∀ j, j < 12 → x112 (1300 * k + 60 + j) = x79 j) ∧ (∀ j, j < 10 → x112 (1300 * k + 72 + j) = x80 j) ∧ (∀ j, j < 10 → x112 (1300 * k + 82 + j) = x81 j) ∧ (∀ j, j < 10 → x112 (1300 * k + 92 + j) = x82 j) ∧ (∀ j, j < 6 → x112 (1300 * k + 102 + j) = x83 j) ∧ (∀ j, j < 6 → x112 (1300 * k + 108 + j) = x84 j) ∧ (∀ j, j < 36 → x112 (1300 * k + 114 + j) = x85 j) ∧ (∀ j, j < 1020 → x112 (1300 * k + 150 + j) = x102 j)
theorem bd15_s {A B C D E F G I J L O P Q S T R : Type} (a : A) (b : B) (c : C) (d : D) (e : E) (f : F) (g : G) (i : I) (j : J) (l : L) (o : O) (p : P) (q : Q) (s : S) (t : T) (k : A → B → C → D → E → F → G → I → J → L → O → P → Q → S → T → Option R) : bd15 (some (a, b, c, d, e, f, g, i, j, l, o, p, q, s, t)) k = k a b c d e f g i j l o p q s t := rfl
theorem e1300 (k : Nat) : (1300 : Int32) * nI k = nI (1300 * k) := by rw [show (1300 : Int32) = nI 1300 from rfl, pk_mul]
theorem p_imgS {k : Nat} (hk : k < 4) : ∃ z74 z103 z112, fX12_carriesAll (nI k) 0 x74 x75 x76 x77 x78 x79 x80 x81 x82 x83 x84 x85 x102 x103 x112 = some (z74, x75, x76, x77, x78, x79, x80, x81, x82, x83, x84, x85, x102, z103, z112) ∧ fr74 x74 z74 ∧ IM k z112 (x74 43) x75 x76 x77 x78 x79 x80 x81 x82 x83 x84 x85 x102 ∧ ∀ j, j < 1300 * k ∨ 1300 * k + 1170 ≤ j → z112 j = x112 j := by
  obtain ⟨a0, b0, e0, p0, f0, h0⟩ := p_carryS (L := 11) (p := 1300 * k) (xa := x75) (x74 := upd (upd x74 56 (nI (1300 * k))) 57 0) (x112 := x112) (by omega) (by omega) (rfl) (rfl)
  have zz1 : a0 57 = 0 := by rw [f0 57 (by omega)]; exact rfl
  obtain ⟨a1, b1, e1, p1, f1, h1⟩ := p_carryS (L := 6) (p := 1300 * k + 11) (xa := x76) (x74 := a0) (x112 := b0) (by omega) (by omega) (zz1) (p0)
  have zz2 : a1 57 = 0 := by rw [f1 57 (by omega)]; exact zz1
  obtain ⟨a2, b2, e2, p2, f2, h2⟩ := p_carryS (L := 6) (p := 1300 * k + 17) (xa := x77) (x74 := a1) (x112 := b1) (by omega) (by omega) (zz2) (p1)
  have zz3 : a2 57 = 0 := by rw [f2 57 (by omega)]; exact zz2
  obtain ⟨a3, b3, e3, p3, f3, h3⟩ := p_carryS (L := 36) (p := 1300 * k + 23) (xa := x78) (x74 := a2) (x112 := b2) (by omega) (by omega) (zz3) (p2)
  have zz4 : a3 57 = 0 := by rw [f3 57 (by omega)]; exact zz3
  obtain ⟨a4, b4, e4, p4, f4, h4⟩ := p_carryS (L := 1) (p := 1300 * k + 59) (xa := upd x103 0 (a3 43)) (x74 := a3) (x112 := b3) (by omega) (by omega) (zz4) (p3)
  have zz5 : (upd a4 43 (upd x103 0 (a3 43) 0)) 57 = 0 := by rw [pk_un (by omega), f4 57 (by omega)]; exact zz4
  obtain ⟨a5, b5, e5, p5, f5, h5⟩ := p_carryS (L := 12) (p := 1300 * k + 60) (xa := x79) (x74 := upd a4 43 (upd x103 0 (a3 43) 0)) (x112 := b4) (by omega) (by omega) (zz5) (by rw [pk_un (by omega)]; exact p4)
  have zz6 : a5 57 = 0 := by rw [f5 57 (by omega)]; exact zz5
  obtain ⟨a6, b6, e6, p6, f6, h6⟩ := p_carryS (L := 10) (p := 1300 * k + 72) (xa := x80) (x74 := a5) (x112 := b5) (by omega) (by omega) (zz6) (p5)
  have zz7 : a6 57 = 0 := by rw [f6 57 (by omega)]; exact zz6
  obtain ⟨a7, b7, e7, p7, f7, h7⟩ := p_carryS (L := 10) (p := 1300 * k + 82) (xa := x81) (x74 := a6) (x112 := b6) (by omega) (by omega) (zz7) (p6)
  have zz8 : a7 57 = 0 := by rw [f7 57 (by omega)]; exact zz7
  obtain ⟨a8, b8, e8, p8, f8, h8⟩ := p_carryS (L := 10) (p := 1300 * k + 92) (xa := x82) (x74 := a7) (x112 := b7) (by omega) (by omega) (zz8) (p7)
  have zz9 : a8 57 = 0 := by rw [f8 57 (by omega)]; exact zz8
  obtain ⟨a9, b9, e9, p9, f9, h9⟩ := p_carryS (L := 6) (p := 1300 * k + 102) (xa := x83) (x74 := a8) (x112 := b8) (by omega) (by omega) (zz9) (p8)
  have zz10 : a9 57 = 0 := by rw [f9 57 (by omega)]; exact zz9
  obtain ⟨a10, b10, e10, p10, f10, h10⟩ := p_carryS (L := 6) (p := 1300 * k + 108) (xa := x84) (x74 := a9) (x112 := b9) (by omega) (by omega) (zz10) (p9)
  have zz11 : a10 57 = 0 := by rw [f10 57 (by omega)]; exact zz10
  obtain ⟨a11, b11, e11, p11, f11, h11⟩ := p_carryS (L := 36) (p := 1300 * k + 114) (xa := x85) (x74 := a10) (x112 := b10) (by omega) (by omega) (zz11) (p10)
  have zz12 : a11 57 = 0 := by rw [f11 57 (by omega)]; exact zz11
  obtain ⟨a12, b12, e12, p12, f12, h12⟩ := p_carryS (L := 1020) (p := 1300 * k + 150) (xa := x102) (x74 := a11) (x112 := b11) (by omega) (by omega) (zz12) (p11)
  have c43 : upd x103 0 (a3 43) 0 = x74 43 := by rw [pk_us, f3 43 (by omega), f2 43 (by omega), f1 43 (by omega), f0 43 (by omega)]; rfl
  refine ⟨a12, upd x103 0 (a3 43), b12, ?_, fun j h6 h7 => ?_, ?_, fun j hj => ?_⟩
  · unfold fX12_carriesAll fX12_carriesAll_0
    rw [gd_t (by decide), e1300, e0, bd3_s, e1, bd3_s, e2, bd3_s, e3, bd3_s, if_neg (show ¬ nI k = (4 : Int32) from fun e => by have := (nI_eq (a := k) (b := 4) (by omega) (by omega)).mp e; omega), gd_t (by decide), n0', e4, bd3_s, gd_t (by decide), e5, bd3_s, e6, bd3_s, e7, bd3_s, e8, bd3_s, e9, bd3_s, e10, bd3_s, e11, bd3_s, e12, bd3_s]
  · by_cases c : j = 43
    · subst c
      rw [f12 43 (by omega), f11 43 (by omega), f10 43 (by omega), f9 43 (by omega), f8 43 (by omega), f7 43 (by omega), f6 43 (by omega), f5 43 (by omega), pk_us, c43]
    · rw [f12 j h6, f11 j h6, f10 j h6, f9 j h6, f8 j h6, f7 j h6, f6 j h6, f5 j h6, pk_un c, f4 j h6, f3 j h6, f2 j h6, f1 j h6, f0 j h6, pk_un h7, pk_un h6]
  · exact ⟨fun j hj => by rw [h12, if_neg (by omega), h11, if_neg (by omega), h10, if_neg (by omega), h9, if_neg (by omega), h8, if_neg (by omega), h7, if_neg (by omega), h6, if_neg (by omega), h5, if_neg (by omega), h4, if_neg (by omega), h3, if_neg (by omega), h2, if_neg (by omega), h1, if_neg (by omega), h0, if_pos (by omega), show 1300 * k + 0 + j - (1300 * k) = j by omega], fun j hj => by rw [h12, if_neg (by omega), h11, if_neg (by omega), h10, if_neg (by omega), h9, if_neg (by omega), h8, if_neg (by omega), h7, if_neg (by omega), h6, if_neg (by omega), h5, if_neg (by omega), h4, if_neg (by omega), h3, if_neg (by omega), h2, if_neg (by omega), h1, if_pos (by omega), show 1300 * k + 11 + j - (1300 * k + 11) = j by omega], fun j hj => by rw [h12, if_neg (by omega), h11, if_neg (by omega), h10, if_neg (by omega), h9, if_neg (by omega), h8, if_neg (by omega), h7, if_neg (by omega), h6, if_neg (by omega), h5, if_neg (by omega), h4, if_neg (by omega), h3, if_neg (by omega), h2, if_pos (by omega), show 1300 * k + 17 + j - (1300 * k + 17) = j by omega], fun j hj => by rw [h12, if_neg (by omega), h11, if_neg (by omega), h10, if_neg (by omega), h9, if_neg (by omega), h8, if_neg (by omega), h7, if_neg (by omega), h6, if_neg (by omega), h5, if_neg (by omega), h4, if_neg (by omega), h3, if_pos (by omega), show 1300 * k + 23 + j - (1300 * k + 23) = j by omega], by rw [h12, if_neg (by omega), h11, if_neg (by omega), h10, if_neg (by omega), h9, if_neg (by omega), h8, if_neg (by omega), h7, if_neg (by omega), h6, if_neg (by omega), h5, if_neg (by omega), h4, if_pos (by omega), show 1300 * k + 59 - (1300 * k + 59) = 0 by omega]; exact c43, fun j hj => by rw [h12, if_neg (by omega), h11, if_neg (by omega), h10, if_neg (by omega), h9, if_neg (by omega), h8, if_neg (by omega), h7, if_neg (by omega), h6, if_neg (by omega), h5, if_pos (by omega), show 1300 * k + 60 + j - (1300 * k + 60) = j by omega], fun j hj => by rw [h12, if_neg (by omega), h11, if_neg (by omega), h10, if_neg (by omega), h9, if_neg (by omega), h8, if_neg (by omega), h7, if_neg (by omega), h6, if_pos (by omega), show 1300 * k + 72 + j - (1300 * k + 72) = j by omega], fun j hj => by rw [h12, if_neg (by omega), h11, if_neg (by omega), h10, if_neg (by omega), h9, if_neg (by omega), h8, if_neg (by omega), h7, if_pos (by omega), show 1300 * k + 82 + j - (1300 * k + 82) = j by omega], fun j hj => by rw [h12, if_neg (by omega), h11, if_neg (by omega), h10, if_neg (by omega), h9, if_neg (by omega), h8, if_pos (by omega), show 1300 * k + 92 + j - (1300 * k + 92) = j by omega], fun j hj => by rw [h12, if_neg (by omega), h11, if_neg (by omega), h10, if_neg (by omega), h9, if_pos (by omega), show 1300 * k + 102 + j - (1300 * k + 102) = j by omega], fun j hj => by rw [h12, if_neg (by omega), h11, if_neg (by omega), h10, if_pos (by omega), show 1300 * k + 108 + j - (1300 * k + 108) = j by omega], fun j hj => by rw [h12, if_neg (by omega), h11, if_pos (by omega), show 1300 * k + 114 + j - (1300 * k + 114) = j by omega], fun j hj => by rw [h12, if_pos (by omega), show 1300 * k + 150 + j - (1300 * k + 150) = j by omega]⟩
  · rw [h12, if_neg (by omega), h11, if_neg (by omega), h10, if_neg (by omega), h9, if_neg (by omega), h8, if_neg (by omega), h7, if_neg (by omega), h6, if_neg (by omega), h5, if_neg (by omega), h4, if_neg (by omega), h3, if_neg (by omega), h2, if_neg (by omega), h1, if_neg (by omega), h0, if_neg (by omega)]
theorem p_imgL {k : Nat} {cc : Int32} {o75 o76 o77 o78 o79 o80 o81 o82 o83 o84 o85 o102 : Nat → Int32} (hk : k < 4) (hI : IM k x112 cc o75 o76 o77 o78 o79 o80 o81 o82 o83 o84 o85 o102) : ∃ z74 z75 z76 z77 z78 z79 z80 z81 z82 z83 z84 z85 z102 z103, fX12_carriesAll (nI k) 1 x74 x75 x76 x77 x78 x79 x80 x81 x82 x83 x84 x85 x102 x103 x112 = some (z74, z75, z76, z77, z78, z79, z80, z81, z82, z83, z84, z85, z102, z103, x112) ∧ (∀ j, j ≠ 43 → j ≠ 56 → j ≠ 57 → z74 j = x74 j) ∧ z74 43 = cc ∧ (∀ j, j < 11 → z75 j = o75 j) ∧ (∀ j, j < 6 → z76 j = o76 j) ∧ (∀ j, j < 6 → z77 j = o77 j) ∧ (∀ j, j < 36 → z78 j = o78 j) ∧ (∀ j, j < 12 → z79 j = o79 j) ∧ (∀ j, j < 10 → z80 j = o80 j) ∧ (∀ j, j < 10 → z81 j = o81 j) ∧ (∀ j, j < 10 → z82 j = o82 j) ∧ (∀ j, j < 6 → z83 j = o83 j) ∧ (∀ j, j < 6 → z84 j = o84 j) ∧ (∀ j, j < 36 → z85 j = o85 j) ∧ (∀ j, j < 1020 → z102 j = o102 j) := by
  obtain ⟨q0, q1, q2, q3, q4, q5, q6, q7, q8, q9, q10, q11, q12⟩ := hI
  obtain ⟨y0, a0, e0, p0, f0, h0, _⟩ := p_carryL (L := 11) (p := 1300 * k) (xa := x75) (x74 := upd (upd x74 56 (nI (1300 * k))) 57 1) (x112 := x112) (by omega) (by omega) (one_ne) (rfl)
  have zz1 : a0 57 ≠ 0 := by rw [f0 57 (by omega)]; exact one_ne
  obtain ⟨y1, a1, e1, p1, f1, h1, _⟩ := p_carryL (L := 6) (p := 1300 * k + 11) (xa := x76) (x74 := a0) (x112 := x112) (by omega) (by omega) (zz1) (p0)
  have zz2 : a1 57 ≠ 0 := by rw [f1 57 (by omega)]; exact zz1
  obtain ⟨y2, a2, e2, p2, f2, h2, _⟩ := p_carryL (L := 6) (p := 1300 * k + 17) (xa := x77) (x74 := a1) (x112 := x112) (by omega) (by omega) (zz2) (p1)
  have zz3 : a2 57 ≠ 0 := by rw [f2 57 (by omega)]; exact zz2
  obtain ⟨y3, a3, e3, p3, f3, h3, _⟩ := p_carryL (L := 36) (p := 1300 * k + 23) (xa := x78) (x74 := a2) (x112 := x112) (by omega) (by omega) (zz3) (p2)
  have zz4 : a3 57 ≠ 0 := by rw [f3 57 (by omega)]; exact zz3
  obtain ⟨y4, a4, e4, p4, f4, h4, _⟩ := p_carryL (L := 1) (p := 1300 * k + 59) (xa := upd x103 0 (a3 43)) (x74 := a3) (x112 := x112) (by omega) (by omega) (zz4) (p3)
  have zz5 : (upd a4 43 (y4 0)) 57 ≠ 0 := by rw [pk_un (by omega), f4 57 (by omega)]; exact zz4
  obtain ⟨y5, a5, e5, p5, f5, h5, _⟩ := p_carryL (L := 12) (p := 1300 * k + 60) (xa := x79) (x74 := upd a4 43 (y4 0)) (x112 := x112) (by omega) (by omega) (zz5) (by rw [pk_un (by omega)]; exact p4)
  have zz6 : a5 57 ≠ 0 := by rw [f5 57 (by omega)]; exact zz5
  obtain ⟨y6, a6, e6, p6, f6, h6, _⟩ := p_carryL (L := 10) (p := 1300 * k + 72) (xa := x80) (x74 := a5) (x112 := x112) (by omega) (by omega) (zz6) (p5)
  have zz7 : a6 57 ≠ 0 := by rw [f6 57 (by omega)]; exact zz6
  obtain ⟨y7, a7, e7, p7, f7, h7, _⟩ := p_carryL (L := 10) (p := 1300 * k + 82) (xa := x81) (x74 := a6) (x112 := x112) (by omega) (by omega) (zz7) (p6)
  have zz8 : a7 57 ≠ 0 := by rw [f7 57 (by omega)]; exact zz7
  obtain ⟨y8, a8, e8, p8, f8, h8, _⟩ := p_carryL (L := 10) (p := 1300 * k + 92) (xa := x82) (x74 := a7) (x112 := x112) (by omega) (by omega) (zz8) (p7)
  have zz9 : a8 57 ≠ 0 := by rw [f8 57 (by omega)]; exact zz8
  obtain ⟨y9, a9, e9, p9, f9, h9, _⟩ := p_carryL (L := 6) (p := 1300 * k + 102) (xa := x83) (x74 := a8) (x112 := x112) (by omega) (by omega) (zz9) (p8)
  have zz10 : a9 57 ≠ 0 := by rw [f9 57 (by omega)]; exact zz9
  obtain ⟨y10, a10, e10, p10, f10, h10, _⟩ := p_carryL (L := 6) (p := 1300 * k + 108) (xa := x84) (x74 := a9) (x112 := x112) (by omega) (by omega) (zz10) (p9)
  have zz11 : a10 57 ≠ 0 := by rw [f10 57 (by omega)]; exact zz10
  obtain ⟨y11, a11, e11, p11, f11, h11, _⟩ := p_carryL (L := 36) (p := 1300 * k + 114) (xa := x85) (x74 := a10) (x112 := x112) (by omega) (by omega) (zz11) (p10)
  have zz12 : a11 57 ≠ 0 := by rw [f11 57 (by omega)]; exact zz11
  obtain ⟨y12, a12, e12, p12, f12, h12, _⟩ := p_carryL (L := 1020) (p := 1300 * k + 150) (xa := x102) (x74 := a11) (x112 := x112) (by omega) (by omega) (zz12) (p11)
  have c43 : y4 0 = cc := by rw [h4 0 (by omega)]; exact q4
  refine ⟨a12, y0, y1, y2, y3, y5, y6, y7, y8, y9, y10, y11, y12, y4, ?_, fun j h3 h6 h7 => ?_, ?_, fun j hj => (h0 j hj).trans (q0 j hj), fun j hj => (h1 j hj).trans (q1 j hj), fun j hj => (h2 j hj).trans (q2 j hj), fun j hj => (h3 j hj).trans (q3 j hj), fun j hj => (h5 j hj).trans (q5 j hj), fun j hj => (h6 j hj).trans (q6 j hj), fun j hj => (h7 j hj).trans (q7 j hj), fun j hj => (h8 j hj).trans (q8 j hj), fun j hj => (h9 j hj).trans (q9 j hj), fun j hj => (h10 j hj).trans (q10 j hj), fun j hj => (h11 j hj).trans (q11 j hj), fun j hj => (h12 j hj).trans (q12 j hj)⟩
  · unfold fX12_carriesAll fX12_carriesAll_0
    rw [gd_t (by decide), e1300, e0, bd3_s, e1, bd3_s, e2, bd3_s, e3, bd3_s, if_neg (show ¬ nI k = (4 : Int32) from fun e => by have := (nI_eq (a := k) (b := 4) (by omega) (by omega)).mp e; omega), gd_t (by decide), n0', e4, bd3_s, gd_t (by decide), e5, bd3_s, e6, bd3_s, e7, bd3_s, e8, bd3_s, e9, bd3_s, e10, bd3_s, e11, bd3_s, e12, bd3_s]
  · rw [f12 j h6, f11 j h6, f10 j h6, f9 j h6, f8 j h6, f7 j h6, f6 j h6, f5 j h6, pk_un h3, f4 j h6, f3 j h6, f2 j h6, f1 j h6, f0 j h6, pk_un h7, pk_un h6]
  · rw [f12 43 (by omega), f11 43 (by omega), f10 43 (by omega), f9 43 (by omega), f8 43 (by omega), f7 43 (by omega), f6 43 (by omega), f5 43 (by omega), pk_us, c43]
end IMGR

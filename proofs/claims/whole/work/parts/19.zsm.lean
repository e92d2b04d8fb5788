theorem sm1E {A0 : Type} {a0 b0 : A0} (h : some a0 = some b0) : a0 = b0 := Option.some.inj h
theorem sm2E {A0 A1 : Type} {a0 b0 : A0} {a1 b1 : A1} (h : some (a0, a1) = some (b0, b1)) : a0 = b0 ∧ a1 = b1 := by
  have h := Option.some.inj h
  simp only [Prod.mk.injEq] at h
  exact h
theorem sm3E {A0 A1 A2 : Type} {a0 b0 : A0} {a1 b1 : A1} {a2 b2 : A2} (h : some (a0, a1, a2) = some (b0, b1, b2)) : a0 = b0 ∧ a1 = b1 ∧ a2 = b2 := by
  have h := Option.some.inj h
  simp only [Prod.mk.injEq] at h
  exact h
theorem sm4E {A0 A1 A2 A3 : Type} {a0 b0 : A0} {a1 b1 : A1} {a2 b2 : A2} {a3 b3 : A3} (h : some (a0, a1, a2, a3) = some (b0, b1, b2, b3)) : a0 = b0 ∧ a1 = b1 ∧ a2 = b2 ∧ a3 = b3 := by
  have h := Option.some.inj h
  simp only [Prod.mk.injEq] at h
  exact h
theorem sm5E {A0 A1 A2 A3 A4 : Type} {a0 b0 : A0} {a1 b1 : A1} {a2 b2 : A2} {a3 b3 : A3} {a4 b4 : A4} (h : some (a0, a1, a2, a3, a4) = some (b0, b1, b2, b3, b4)) : a0 = b0 ∧ a1 = b1 ∧ a2 = b2 ∧ a3 = b3 ∧ a4 = b4 := by
  have h := Option.some.inj h
  simp only [Prod.mk.injEq] at h
  exact h
theorem sm6E {A0 A1 A2 A3 A4 A5 : Type} {a0 b0 : A0} {a1 b1 : A1} {a2 b2 : A2} {a3 b3 : A3} {a4 b4 : A4} {a5 b5 : A5} (h : some (a0, a1, a2, a3, a4, a5) = some (b0, b1, b2, b3, b4, b5)) : a0 = b0 ∧ a1 = b1 ∧ a2 = b2 ∧ a3 = b3 ∧ a4 = b4 ∧ a5 = b5 := by
  have h := Option.some.inj h
  simp only [Prod.mk.injEq] at h
  exact h
theorem sm7E {A0 A1 A2 A3 A4 A5 A6 : Type} {a0 b0 : A0} {a1 b1 : A1} {a2 b2 : A2} {a3 b3 : A3} {a4 b4 : A4} {a5 b5 : A5} {a6 b6 : A6} (h : some (a0, a1, a2, a3, a4, a5, a6) = some (b0, b1, b2, b3, b4, b5, b6)) : a0 = b0 ∧ a1 = b1 ∧ a2 = b2 ∧ a3 = b3 ∧ a4 = b4 ∧ a5 = b5 ∧ a6 = b6 := by
  have h := Option.some.inj h
  simp only [Prod.mk.injEq] at h
  exact h
theorem sm8E {A0 A1 A2 A3 A4 A5 A6 A7 : Type} {a0 b0 : A0} {a1 b1 : A1} {a2 b2 : A2} {a3 b3 : A3} {a4 b4 : A4} {a5 b5 : A5} {a6 b6 : A6} {a7 b7 : A7} (h : some (a0, a1, a2, a3, a4, a5, a6, a7) = some (b0, b1, b2, b3, b4, b5, b6, b7)) : a0 = b0 ∧ a1 = b1 ∧ a2 = b2 ∧ a3 = b3 ∧ a4 = b4 ∧ a5 = b5 ∧ a6 = b6 ∧ a7 = b7 := by
  have h := Option.some.inj h
  simp only [Prod.mk.injEq] at h
  exact h
theorem sm9E {A0 A1 A2 A3 A4 A5 A6 A7 A8 : Type} {a0 b0 : A0} {a1 b1 : A1} {a2 b2 : A2} {a3 b3 : A3} {a4 b4 : A4} {a5 b5 : A5} {a6 b6 : A6} {a7 b7 : A7} {a8 b8 : A8} (h : some (a0, a1, a2, a3, a4, a5, a6, a7, a8) = some (b0, b1, b2, b3, b4, b5, b6, b7, b8)) : a0 = b0 ∧ a1 = b1 ∧ a2 = b2 ∧ a3 = b3 ∧ a4 = b4 ∧ a5 = b5 ∧ a6 = b6 ∧ a7 = b7 ∧ a8 = b8 := by
  have h := Option.some.inj h
  simp only [Prod.mk.injEq] at h
  exact h
theorem sm10E {A0 A1 A2 A3 A4 A5 A6 A7 A8 A9 : Type} {a0 b0 : A0} {a1 b1 : A1} {a2 b2 : A2} {a3 b3 : A3} {a4 b4 : A4} {a5 b5 : A5} {a6 b6 : A6} {a7 b7 : A7} {a8 b8 : A8} {a9 b9 : A9} (h : some (a0, a1, a2, a3, a4, a5, a6, a7, a8, a9) = some (b0, b1, b2, b3, b4, b5, b6, b7, b8, b9)) : a0 = b0 ∧ a1 = b1 ∧ a2 = b2 ∧ a3 = b3 ∧ a4 = b4 ∧ a5 = b5 ∧ a6 = b6 ∧ a7 = b7 ∧ a8 = b8 ∧ a9 = b9 := by
  have h := Option.some.inj h
  simp only [Prod.mk.injEq] at h
  exact h
theorem sm11E {A0 A1 A2 A3 A4 A5 A6 A7 A8 A9 A10 : Type} {a0 b0 : A0} {a1 b1 : A1} {a2 b2 : A2} {a3 b3 : A3} {a4 b4 : A4} {a5 b5 : A5} {a6 b6 : A6} {a7 b7 : A7} {a8 b8 : A8} {a9 b9 : A9} {a10 b10 : A10} (h : some (a0, a1, a2, a3, a4, a5, a6, a7, a8, a9, a10) = some (b0, b1, b2, b3, b4, b5, b6, b7, b8, b9, b10)) : a0 = b0 ∧ a1 = b1 ∧ a2 = b2 ∧ a3 = b3 ∧ a4 = b4 ∧ a5 = b5 ∧ a6 = b6 ∧ a7 = b7 ∧ a8 = b8 ∧ a9 = b9 ∧ a10 = b10 := by
  have h := Option.some.inj h
  simp only [Prod.mk.injEq] at h
  exact h
theorem sm12E {A0 A1 A2 A3 A4 A5 A6 A7 A8 A9 A10 A11 : Type} {a0 b0 : A0} {a1 b1 : A1} {a2 b2 : A2} {a3 b3 : A3} {a4 b4 : A4} {a5 b5 : A5} {a6 b6 : A6} {a7 b7 : A7} {a8 b8 : A8} {a9 b9 : A9} {a10 b10 : A10} {a11 b11 : A11} (h : some (a0, a1, a2, a3, a4, a5, a6, a7, a8, a9, a10, a11) = some (b0, b1, b2, b3, b4, b5, b6, b7, b8, b9, b10, b11)) : a0 = b0 ∧ a1 = b1 ∧ a2 = b2 ∧ a3 = b3 ∧ a4 = b4 ∧ a5 = b5 ∧ a6 = b6 ∧ a7 = b7 ∧ a8 = b8 ∧ a9 = b9 ∧ a10 = b10 ∧ a11 = b11 := by
  have h := Option.some.inj h
  simp only [Prod.mk.injEq] at h
  exact h
theorem sm13E {A0 A1 A2 A3 A4 A5 A6 A7 A8 A9 A10 A11 A12 : Type} {a0 b0 : A0} {a1 b1 : A1} {a2 b2 : A2} {a3 b3 : A3} {a4 b4 : A4} {a5 b5 : A5} {a6 b6 : A6} {a7 b7 : A7} {a8 b8 : A8} {a9 b9 : A9} {a10 b10 : A10} {a11 b11 : A11} {a12 b12 : A12} (h : some (a0, a1, a2, a3, a4, a5, a6, a7, a8, a9, a10, a11, a12) = some (b0, b1, b2, b3, b4, b5, b6, b7, b8, b9, b10, b11, b12)) : a0 = b0 ∧ a1 = b1 ∧ a2 = b2 ∧ a3 = b3 ∧ a4 = b4 ∧ a5 = b5 ∧ a6 = b6 ∧ a7 = b7 ∧ a8 = b8 ∧ a9 = b9 ∧ a10 = b10 ∧ a11 = b11 ∧ a12 = b12 := by
  have h := Option.some.inj h
  simp only [Prod.mk.injEq] at h
  exact h
theorem sm14E {A0 A1 A2 A3 A4 A5 A6 A7 A8 A9 A10 A11 A12 A13 : Type} {a0 b0 : A0} {a1 b1 : A1} {a2 b2 : A2} {a3 b3 : A3} {a4 b4 : A4} {a5 b5 : A5} {a6 b6 : A6} {a7 b7 : A7} {a8 b8 : A8} {a9 b9 : A9} {a10 b10 : A10} {a11 b11 : A11} {a12 b12 : A12} {a13 b13 : A13} (h : some (a0, a1, a2, a3, a4, a5, a6, a7, a8, a9, a10, a11, a12, a13) = some (b0, b1, b2, b3, b4, b5, b6, b7, b8, b9, b10, b11, b12, b13)) : a0 = b0 ∧ a1 = b1 ∧ a2 = b2 ∧ a3 = b3 ∧ a4 = b4 ∧ a5 = b5 ∧ a6 = b6 ∧ a7 = b7 ∧ a8 = b8 ∧ a9 = b9 ∧ a10 = b10 ∧ a11 = b11 ∧ a12 = b12 ∧ a13 = b13 := by
  have h := Option.some.inj h
  simp only [Prod.mk.injEq] at h
  exact h
theorem sm15E {A0 A1 A2 A3 A4 A5 A6 A7 A8 A9 A10 A11 A12 A13 A14 : Type} {a0 b0 : A0} {a1 b1 : A1} {a2 b2 : A2} {a3 b3 : A3} {a4 b4 : A4} {a5 b5 : A5} {a6 b6 : A6} {a7 b7 : A7} {a8 b8 : A8} {a9 b9 : A9} {a10 b10 : A10} {a11 b11 : A11} {a12 b12 : A12} {a13 b13 : A13} {a14 b14 : A14} (h : some (a0, a1, a2, a3, a4, a5, a6, a7, a8, a9, a10, a11, a12, a13, a14) = some (b0, b1, b2, b3, b4, b5, b6, b7, b8, b9, b10, b11, b12, b13, b14)) : a0 = b0 ∧ a1 = b1 ∧ a2 = b2 ∧ a3 = b3 ∧ a4 = b4 ∧ a5 = b5 ∧ a6 = b6 ∧ a7 = b7 ∧ a8 = b8 ∧ a9 = b9 ∧ a10 = b10 ∧ a11 = b11 ∧ a12 = b12 ∧ a13 = b13 ∧ a14 = b14 := by
  have h := Option.some.inj h
  simp only [Prod.mk.injEq] at h
  exact h
theorem sm16E {A0 A1 A2 A3 A4 A5 A6 A7 A8 A9 A10 A11 A12 A13 A14 A15 : Type} {a0 b0 : A0} {a1 b1 : A1} {a2 b2 : A2} {a3 b3 : A3} {a4 b4 : A4} {a5 b5 : A5} {a6 b6 : A6} {a7 b7 : A7} {a8 b8 : A8} {a9 b9 : A9} {a10 b10 : A10} {a11 b11 : A11} {a12 b12 : A12} {a13 b13 : A13} {a14 b14 : A14} {a15 b15 : A15} (h : some (a0, a1, a2, a3, a4, a5, a6, a7, a8, a9, a10, a11, a12, a13, a14, a15) = some (b0, b1, b2, b3, b4, b5, b6, b7, b8, b9, b10, b11, b12, b13, b14, b15)) : a0 = b0 ∧ a1 = b1 ∧ a2 = b2 ∧ a3 = b3 ∧ a4 = b4 ∧ a5 = b5 ∧ a6 = b6 ∧ a7 = b7 ∧ a8 = b8 ∧ a9 = b9 ∧ a10 = b10 ∧ a11 = b11 ∧ a12 = b12 ∧ a13 = b13 ∧ a14 = b14 ∧ a15 = b15 := by
  have h := Option.some.inj h
  simp only [Prod.mk.injEq] at h
  exact h
theorem sm17E {A0 A1 A2 A3 A4 A5 A6 A7 A8 A9 A10 A11 A12 A13 A14 A15 A16 : Type} {a0 b0 : A0} {a1 b1 : A1} {a2 b2 : A2} {a3 b3 : A3} {a4 b4 : A4} {a5 b5 : A5} {a6 b6 : A6} {a7 b7 : A7} {a8 b8 : A8} {a9 b9 : A9} {a10 b10 : A10} {a11 b11 : A11} {a12 b12 : A12} {a13 b13 : A13} {a14 b14 : A14} {a15 b15 : A15} {a16 b16 : A16} (h : some (a0, a1, a2, a3, a4, a5, a6, a7, a8, a9, a10, a11, a12, a13, a14, a15, a16) = some (b0, b1, b2, b3, b4, b5, b6, b7, b8, b9, b10, b11, b12, b13, b14, b15, b16)) : a0 = b0 ∧ a1 = b1 ∧ a2 = b2 ∧ a3 = b3 ∧ a4 = b4 ∧ a5 = b5 ∧ a6 = b6 ∧ a7 = b7 ∧ a8 = b8 ∧ a9 = b9 ∧ a10 = b10 ∧ a11 = b11 ∧ a12 = b12 ∧ a13 = b13 ∧ a14 = b14 ∧ a15 = b15 ∧ a16 = b16 := by
  have h := Option.some.inj h
  simp only [Prod.mk.injEq] at h
  exact h
theorem sm18E {A0 A1 A2 A3 A4 A5 A6 A7 A8 A9 A10 A11 A12 A13 A14 A15 A16 A17 : Type} {a0 b0 : A0} {a1 b1 : A1} {a2 b2 : A2} {a3 b3 : A3} {a4 b4 : A4} {a5 b5 : A5} {a6 b6 : A6} {a7 b7 : A7} {a8 b8 : A8} {a9 b9 : A9} {a10 b10 : A10} {a11 b11 : A11} {a12 b12 : A12} {a13 b13 : A13} {a14 b14 : A14} {a15 b15 : A15} {a16 b16 : A16} {a17 b17 : A17} (h : some (a0, a1, a2, a3, a4, a5, a6, a7, a8, a9, a10, a11, a12, a13, a14, a15, a16, a17) = some (b0, b1, b2, b3, b4, b5, b6, b7, b8, b9, b10, b11, b12, b13, b14, b15, b16, b17)) : a0 = b0 ∧ a1 = b1 ∧ a2 = b2 ∧ a3 = b3 ∧ a4 = b4 ∧ a5 = b5 ∧ a6 = b6 ∧ a7 = b7 ∧ a8 = b8 ∧ a9 = b9 ∧ a10 = b10 ∧ a11 = b11 ∧ a12 = b12 ∧ a13 = b13 ∧ a14 = b14 ∧ a15 = b15 ∧ a16 = b16 ∧ a17 = b17 := by
  have h := Option.some.inj h
  simp only [Prod.mk.injEq] at h
  exact h
theorem sm19E {A0 A1 A2 A3 A4 A5 A6 A7 A8 A9 A10 A11 A12 A13 A14 A15 A16 A17 A18 : Type} {a0 b0 : A0} {a1 b1 : A1} {a2 b2 : A2} {a3 b3 : A3} {a4 b4 : A4} {a5 b5 : A5} {a6 b6 : A6} {a7 b7 : A7} {a8 b8 : A8} {a9 b9 : A9} {a10 b10 : A10} {a11 b11 : A11} {a12 b12 : A12} {a13 b13 : A13} {a14 b14 : A14} {a15 b15 : A15} {a16 b16 : A16} {a17 b17 : A17} {a18 b18 : A18} (h : some (a0, a1, a2, a3, a4, a5, a6, a7, a8, a9, a10, a11, a12, a13, a14, a15, a16, a17, a18) = some (b0, b1, b2, b3, b4, b5, b6, b7, b8, b9, b10, b11, b12, b13, b14, b15, b16, b17, b18)) : a0 = b0 ∧ a1 = b1 ∧ a2 = b2 ∧ a3 = b3 ∧ a4 = b4 ∧ a5 = b5 ∧ a6 = b6 ∧ a7 = b7 ∧ a8 = b8 ∧ a9 = b9 ∧ a10 = b10 ∧ a11 = b11 ∧ a12 = b12 ∧ a13 = b13 ∧ a14 = b14 ∧ a15 = b15 ∧ a16 = b16 ∧ a17 = b17 ∧ a18 = b18 := by
  have h := Option.some.inj h
  simp only [Prod.mk.injEq] at h
  exact h
theorem sm20E {A0 A1 A2 A3 A4 A5 A6 A7 A8 A9 A10 A11 A12 A13 A14 A15 A16 A17 A18 A19 : Type} {a0 b0 : A0} {a1 b1 : A1} {a2 b2 : A2} {a3 b3 : A3} {a4 b4 : A4} {a5 b5 : A5} {a6 b6 : A6} {a7 b7 : A7} {a8 b8 : A8} {a9 b9 : A9} {a10 b10 : A10} {a11 b11 : A11} {a12 b12 : A12} {a13 b13 : A13} {a14 b14 : A14} {a15 b15 : A15} {a16 b16 : A16} {a17 b17 : A17} {a18 b18 : A18} {a19 b19 : A19} (h : some (a0, a1, a2, a3, a4, a5, a6, a7, a8, a9, a10, a11, a12, a13, a14, a15, a16, a17, a18, a19) = some (b0, b1, b2, b3, b4, b5, b6, b7, b8, b9, b10, b11, b12, b13, b14, b15, b16, b17, b18, b19)) : a0 = b0 ∧ a1 = b1 ∧ a2 = b2 ∧ a3 = b3 ∧ a4 = b4 ∧ a5 = b5 ∧ a6 = b6 ∧ a7 = b7 ∧ a8 = b8 ∧ a9 = b9 ∧ a10 = b10 ∧ a11 = b11 ∧ a12 = b12 ∧ a13 = b13 ∧ a14 = b14 ∧ a15 = b15 ∧ a16 = b16 ∧ a17 = b17 ∧ a18 = b18 ∧ a19 = b19 := by
  have h := Option.some.inj h
  simp only [Prod.mk.injEq] at h
  exact h
theorem sm21E {A0 A1 A2 A3 A4 A5 A6 A7 A8 A9 A10 A11 A12 A13 A14 A15 A16 A17 A18 A19 A20 : Type} {a0 b0 : A0} {a1 b1 : A1} {a2 b2 : A2} {a3 b3 : A3} {a4 b4 : A4} {a5 b5 : A5} {a6 b6 : A6} {a7 b7 : A7} {a8 b8 : A8} {a9 b9 : A9} {a10 b10 : A10} {a11 b11 : A11} {a12 b12 : A12} {a13 b13 : A13} {a14 b14 : A14} {a15 b15 : A15} {a16 b16 : A16} {a17 b17 : A17} {a18 b18 : A18} {a19 b19 : A19} {a20 b20 : A20} (h : some (a0, a1, a2, a3, a4, a5, a6, a7, a8, a9, a10, a11, a12, a13, a14, a15, a16, a17, a18, a19, a20) = some (b0, b1, b2, b3, b4, b5, b6, b7, b8, b9, b10, b11, b12, b13, b14, b15, b16, b17, b18, b19, b20)) : a0 = b0 ∧ a1 = b1 ∧ a2 = b2 ∧ a3 = b3 ∧ a4 = b4 ∧ a5 = b5 ∧ a6 = b6 ∧ a7 = b7 ∧ a8 = b8 ∧ a9 = b9 ∧ a10 = b10 ∧ a11 = b11 ∧ a12 = b12 ∧ a13 = b13 ∧ a14 = b14 ∧ a15 = b15 ∧ a16 = b16 ∧ a17 = b17 ∧ a18 = b18 ∧ a19 = b19 ∧ a20 = b20 := by
  have h := Option.some.inj h
  simp only [Prod.mk.injEq] at h
  exact h
theorem sm22E {A0 A1 A2 A3 A4 A5 A6 A7 A8 A9 A10 A11 A12 A13 A14 A15 A16 A17 A18 A19 A20 A21 : Type} {a0 b0 : A0} {a1 b1 : A1} {a2 b2 : A2} {a3 b3 : A3} {a4 b4 : A4} {a5 b5 : A5} {a6 b6 : A6} {a7 b7 : A7} {a8 b8 : A8} {a9 b9 : A9} {a10 b10 : A10} {a11 b11 : A11} {a12 b12 : A12} {a13 b13 : A13} {a14 b14 : A14} {a15 b15 : A15} {a16 b16 : A16} {a17 b17 : A17} {a18 b18 : A18} {a19 b19 : A19} {a20 b20 : A20} {a21 b21 : A21} (h : some (a0, a1, a2, a3, a4, a5, a6, a7, a8, a9, a10, a11, a12, a13, a14, a15, a16, a17, a18, a19, a20, a21) = some (b0, b1, b2, b3, b4, b5, b6, b7, b8, b9, b10, b11, b12, b13, b14, b15, b16, b17, b18, b19, b20, b21)) : a0 = b0 ∧ a1 = b1 ∧ a2 = b2 ∧ a3 = b3 ∧ a4 = b4 ∧ a5 = b5 ∧ a6 = b6 ∧ a7 = b7 ∧ a8 = b8 ∧ a9 = b9 ∧ a10 = b10 ∧ a11 = b11 ∧ a12 = b12 ∧ a13 = b13 ∧ a14 = b14 ∧ a15 = b15 ∧ a16 = b16 ∧ a17 = b17 ∧ a18 = b18 ∧ a19 = b19 ∧ a20 = b20 ∧ a21 = b21 := by
  have h := Option.some.inj h
  simp only [Prod.mk.injEq] at h
  exact h
theorem sm23E {A0 A1 A2 A3 A4 A5 A6 A7 A8 A9 A10 A11 A12 A13 A14 A15 A16 A17 A18 A19 A20 A21 A22 : Type} {a0 b0 : A0} {a1 b1 : A1} {a2 b2 : A2} {a3 b3 : A3} {a4 b4 : A4} {a5 b5 : A5} {a6 b6 : A6} {a7 b7 : A7} {a8 b8 : A8} {a9 b9 : A9} {a10 b10 : A10} {a11 b11 : A11} {a12 b12 : A12} {a13 b13 : A13} {a14 b14 : A14} {a15 b15 : A15} {a16 b16 : A16} {a17 b17 : A17} {a18 b18 : A18} {a19 b19 : A19} {a20 b20 : A20} {a21 b21 : A21} {a22 b22 : A22} (h : some (a0, a1, a2, a3, a4, a5, a6, a7, a8, a9, a10, a11, a12, a13, a14, a15, a16, a17, a18, a19, a20, a21, a22) = some (b0, b1, b2, b3, b4, b5, b6, b7, b8, b9, b10, b11, b12, b13, b14, b15, b16, b17, b18, b19, b20, b21, b22)) : a0 = b0 ∧ a1 = b1 ∧ a2 = b2 ∧ a3 = b3 ∧ a4 = b4 ∧ a5 = b5 ∧ a6 = b6 ∧ a7 = b7 ∧ a8 = b8 ∧ a9 = b9 ∧ a10 = b10 ∧ a11 = b11 ∧ a12 = b12 ∧ a13 = b13 ∧ a14 = b14 ∧ a15 = b15 ∧ a16 = b16 ∧ a17 = b17 ∧ a18 = b18 ∧ a19 = b19 ∧ a20 = b20 ∧ a21 = b21 ∧ a22 = b22 := by
  have h := Option.some.inj h
  simp only [Prod.mk.injEq] at h
  exact h
theorem sm24E {A0 A1 A2 A3 A4 A5 A6 A7 A8 A9 A10 A11 A12 A13 A14 A15 A16 A17 A18 A19 A20 A21 A22 A23 : Type} {a0 b0 : A0} {a1 b1 : A1} {a2 b2 : A2} {a3 b3 : A3} {a4 b4 : A4} {a5 b5 : A5} {a6 b6 : A6} {a7 b7 : A7} {a8 b8 : A8} {a9 b9 : A9} {a10 b10 : A10} {a11 b11 : A11} {a12 b12 : A12} {a13 b13 : A13} {a14 b14 : A14} {a15 b15 : A15} {a16 b16 : A16} {a17 b17 : A17} {a18 b18 : A18} {a19 b19 : A19} {a20 b20 : A20} {a21 b21 : A21} {a22 b22 : A22} {a23 b23 : A23} (h : some (a0, a1, a2, a3, a4, a5, a6, a7, a8, a9, a10, a11, a12, a13, a14, a15, a16, a17, a18, a19, a20, a21, a22, a23) = some (b0, b1, b2, b3, b4, b5, b6, b7, b8, b9, b10, b11, b12, b13, b14, b15, b16, b17, b18, b19, b20, b21, b22, b23)) : a0 = b0 ∧ a1 = b1 ∧ a2 = b2 ∧ a3 = b3 ∧ a4 = b4 ∧ a5 = b5 ∧ a6 = b6 ∧ a7 = b7 ∧ a8 = b8 ∧ a9 = b9 ∧ a10 = b10 ∧ a11 = b11 ∧ a12 = b12 ∧ a13 = b13 ∧ a14 = b14 ∧ a15 = b15 ∧ a16 = b16 ∧ a17 = b17 ∧ a18 = b18 ∧ a19 = b19 ∧ a20 = b20 ∧ a21 = b21 ∧ a22 = b22 ∧ a23 = b23 := by
  have h := Option.some.inj h
  simp only [Prod.mk.injEq] at h
  exact h
theorem sm25E {A0 A1 A2 A3 A4 A5 A6 A7 A8 A9 A10 A11 A12 A13 A14 A15 A16 A17 A18 A19 A20 A21 A22 A23 A24 : Type} {a0 b0 : A0} {a1 b1 : A1} {a2 b2 : A2} {a3 b3 : A3} {a4 b4 : A4} {a5 b5 : A5} {a6 b6 : A6} {a7 b7 : A7} {a8 b8 : A8} {a9 b9 : A9} {a10 b10 : A10} {a11 b11 : A11} {a12 b12 : A12} {a13 b13 : A13} {a14 b14 : A14} {a15 b15 : A15} {a16 b16 : A16} {a17 b17 : A17} {a18 b18 : A18} {a19 b19 : A19} {a20 b20 : A20} {a21 b21 : A21} {a22 b22 : A22} {a23 b23 : A23} {a24 b24 : A24} (h : some (a0, a1, a2, a3, a4, a5, a6, a7, a8, a9, a10, a11, a12, a13, a14, a15, a16, a17, a18, a19, a20, a21, a22, a23, a24) = some (b0, b1, b2, b3, b4, b5, b6, b7, b8, b9, b10, b11, b12, b13, b14, b15, b16, b17, b18, b19, b20, b21, b22, b23, b24)) : a0 = b0 ∧ a1 = b1 ∧ a2 = b2 ∧ a3 = b3 ∧ a4 = b4 ∧ a5 = b5 ∧ a6 = b6 ∧ a7 = b7 ∧ a8 = b8 ∧ a9 = b9 ∧ a10 = b10 ∧ a11 = b11 ∧ a12 = b12 ∧ a13 = b13 ∧ a14 = b14 ∧ a15 = b15 ∧ a16 = b16 ∧ a17 = b17 ∧ a18 = b18 ∧ a19 = b19 ∧ a20 = b20 ∧ a21 = b21 ∧ a22 = b22 ∧ a23 = b23 ∧ a24 = b24 := by
  have h := Option.some.inj h
  simp only [Prod.mk.injEq] at h
  exact h
theorem sm26E {A0 A1 A2 A3 A4 A5 A6 A7 A8 A9 A10 A11 A12 A13 A14 A15 A16 A17 A18 A19 A20 A21 A22 A23 A24 A25 : Type} {a0 b0 : A0} {a1 b1 : A1} {a2 b2 : A2} {a3 b3 : A3} {a4 b4 : A4} {a5 b5 : A5} {a6 b6 : A6} {a7 b7 : A7} {a8 b8 : A8} {a9 b9 : A9} {a10 b10 : A10} {a11 b11 : A11} {a12 b12 : A12} {a13 b13 : A13} {a14 b14 : A14} {a15 b15 : A15} {a16 b16 : A16} {a17 b17 : A17} {a18 b18 : A18} {a19 b19 : A19} {a20 b20 : A20} {a21 b21 : A21} {a22 b22 : A22} {a23 b23 : A23} {a24 b24 : A24} {a25 b25 : A25} (h : some (a0, a1, a2, a3, a4, a5, a6, a7, a8, a9, a10, a11, a12, a13, a14, a15, a16, a17, a18, a19, a20, a21, a22, a23, a24, a25) = some (b0, b1, b2, b3, b4, b5, b6, b7, b8, b9, b10, b11, b12, b13, b14, b15, b16, b17, b18, b19, b20, b21, b22, b23, b24, b25)) : a0 = b0 ∧ a1 = b1 ∧ a2 = b2 ∧ a3 = b3 ∧ a4 = b4 ∧ a5 = b5 ∧ a6 = b6 ∧ a7 = b7 ∧ a8 = b8 ∧ a9 = b9 ∧ a10 = b10 ∧ a11 = b11 ∧ a12 = b12 ∧ a13 = b13 ∧ a14 = b14 ∧ a15 = b15 ∧ a16 = b16 ∧ a17 = b17 ∧ a18 = b18 ∧ a19 = b19 ∧ a20 = b20 ∧ a21 = b21 ∧ a22 = b22 ∧ a23 = b23 ∧ a24 = b24 ∧ a25 = b25 := by
  have h := Option.some.inj h
  simp only [Prod.mk.injEq] at h
  exact h
theorem sm27E {A0 A1 A2 A3 A4 A5 A6 A7 A8 A9 A10 A11 A12 A13 A14 A15 A16 A17 A18 A19 A20 A21 A22 A23 A24 A25 A26 : Type} {a0 b0 : A0} {a1 b1 : A1} {a2 b2 : A2} {a3 b3 : A3} {a4 b4 : A4} {a5 b5 : A5} {a6 b6 : A6} {a7 b7 : A7} {a8 b8 : A8} {a9 b9 : A9} {a10 b10 : A10} {a11 b11 : A11} {a12 b12 : A12} {a13 b13 : A13} {a14 b14 : A14} {a15 b15 : A15} {a16 b16 : A16} {a17 b17 : A17} {a18 b18 : A18} {a19 b19 : A19} {a20 b20 : A20} {a21 b21 : A21} {a22 b22 : A22} {a23 b23 : A23} {a24 b24 : A24} {a25 b25 : A25} {a26 b26 : A26} (h : some (a0, a1, a2, a3, a4, a5, a6, a7, a8, a9, a10, a11, a12, a13, a14, a15, a16, a17, a18, a19, a20, a21, a22, a23, a24, a25, a26) = some (b0, b1, b2, b3, b4, b5, b6, b7, b8, b9, b10, b11, b12, b13, b14, b15, b16, b17, b18, b19, b20, b21, b22, b23, b24, b25, b26)) : a0 = b0 ∧ a1 = b1 ∧ a2 = b2 ∧ a3 = b3 ∧ a4 = b4 ∧ a5 = b5 ∧ a6 = b6 ∧ a7 = b7 ∧ a8 = b8 ∧ a9 = b9 ∧ a10 = b10 ∧ a11 = b11 ∧ a12 = b12 ∧ a13 = b13 ∧ a14 = b14 ∧ a15 = b15 ∧ a16 = b16 ∧ a17 = b17 ∧ a18 = b18 ∧ a19 = b19 ∧ a20 = b20 ∧ a21 = b21 ∧ a22 = b22 ∧ a23 = b23 ∧ a24 = b24 ∧ a25 = b25 ∧ a26 = b26 := by
  have h := Option.some.inj h
  simp only [Prod.mk.injEq] at h
  exact h
theorem sm28E {A0 A1 A2 A3 A4 A5 A6 A7 A8 A9 A10 A11 A12 A13 A14 A15 A16 A17 A18 A19 A20 A21 A22 A23 A24 A25 A26 A27 : Type} {a0 b0 : A0} {a1 b1 : A1} {a2 b2 : A2} {a3 b3 : A3} {a4 b4 : A4} {a5 b5 : A5} {a6 b6 : A6} {a7 b7 : A7} {a8 b8 : A8} {a9 b9 : A9} {a10 b10 : A10} {a11 b11 : A11} {a12 b12 : A12} {a13 b13 : A13} {a14 b14 : A14} {a15 b15 : A15} {a16 b16 : A16} {a17 b17 : A17} {a18 b18 : A18} {a19 b19 : A19} {a20 b20 : A20} {a21 b21 : A21} {a22 b22 : A22} {a23 b23 : A23} {a24 b24 : A24} {a25 b25 : A25} {a26 b26 : A26} {a27 b27 : A27} (h : some (a0, a1, a2, a3, a4, a5, a6, a7, a8, a9, a10, a11, a12, a13, a14, a15, a16, a17, a18, a19, a20, a21, a22, a23, a24, a25, a26, a27) = some (b0, b1, b2, b3, b4, b5, b6, b7, b8, b9, b10, b11, b12, b13, b14, b15, b16, b17, b18, b19, b20, b21, b22, b23, b24, b25, b26, b27)) : a0 = b0 ∧ a1 = b1 ∧ a2 = b2 ∧ a3 = b3 ∧ a4 = b4 ∧ a5 = b5 ∧ a6 = b6 ∧ a7 = b7 ∧ a8 = b8 ∧ a9 = b9 ∧ a10 = b10 ∧ a11 = b11 ∧ a12 = b12 ∧ a13 = b13 ∧ a14 = b14 ∧ a15 = b15 ∧ a16 = b16 ∧ a17 = b17 ∧ a18 = b18 ∧ a19 = b19 ∧ a20 = b20 ∧ a21 = b21 ∧ a22 = b22 ∧ a23 = b23 ∧ a24 = b24 ∧ a25 = b25 ∧ a26 = b26 ∧ a27 = b27 := by
  have h := Option.some.inj h
  simp only [Prod.mk.injEq] at h
  exact h
theorem sm29E {A0 A1 A2 A3 A4 A5 A6 A7 A8 A9 A10 A11 A12 A13 A14 A15 A16 A17 A18 A19 A20 A21 A22 A23 A24 A25 A26 A27 A28 : Type} {a0 b0 : A0} {a1 b1 : A1} {a2 b2 : A2} {a3 b3 : A3} {a4 b4 : A4} {a5 b5 : A5} {a6 b6 : A6} {a7 b7 : A7} {a8 b8 : A8} {a9 b9 : A9} {a10 b10 : A10} {a11 b11 : A11} {a12 b12 : A12} {a13 b13 : A13} {a14 b14 : A14} {a15 b15 : A15} {a16 b16 : A16} {a17 b17 : A17} {a18 b18 : A18} {a19 b19 : A19} {a20 b20 : A20} {a21 b21 : A21} {a22 b22 : A22} {a23 b23 : A23} {a24 b24 : A24} {a25 b25 : A25} {a26 b26 : A26} {a27 b27 : A27} {a28 b28 : A28} (h : some (a0, a1, a2, a3, a4, a5, a6, a7, a8, a9, a10, a11, a12, a13, a14, a15, a16, a17, a18, a19, a20, a21, a22, a23, a24, a25, a26, a27, a28) = some (b0, b1, b2, b3, b4, b5, b6, b7, b8, b9, b10, b11, b12, b13, b14, b15, b16, b17, b18, b19, b20, b21, b22, b23, b24, b25, b26, b27, b28)) : a0 = b0 ∧ a1 = b1 ∧ a2 = b2 ∧ a3 = b3 ∧ a4 = b4 ∧ a5 = b5 ∧ a6 = b6 ∧ a7 = b7 ∧ a8 = b8 ∧ a9 = b9 ∧ a10 = b10 ∧ a11 = b11 ∧ a12 = b12 ∧ a13 = b13 ∧ a14 = b14 ∧ a15 = b15 ∧ a16 = b16 ∧ a17 = b17 ∧ a18 = b18 ∧ a19 = b19 ∧ a20 = b20 ∧ a21 = b21 ∧ a22 = b22 ∧ a23 = b23 ∧ a24 = b24 ∧ a25 = b25 ∧ a26 = b26 ∧ a27 = b27 ∧ a28 = b28 := by
  have h := Option.some.inj h
  simp only [Prod.mk.injEq] at h
  exact h
theorem sm30E {A0 A1 A2 A3 A4 A5 A6 A7 A8 A9 A10 A11 A12 A13 A14 A15 A16 A17 A18 A19 A20 A21 A22 A23 A24 A25 A26 A27 A28 A29 : Type} {a0 b0 : A0} {a1 b1 : A1} {a2 b2 : A2} {a3 b3 : A3} {a4 b4 : A4} {a5 b5 : A5} {a6 b6 : A6} {a7 b7 : A7} {a8 b8 : A8} {a9 b9 : A9} {a10 b10 : A10} {a11 b11 : A11} {a12 b12 : A12} {a13 b13 : A13} {a14 b14 : A14} {a15 b15 : A15} {a16 b16 : A16} {a17 b17 : A17} {a18 b18 : A18} {a19 b19 : A19} {a20 b20 : A20} {a21 b21 : A21} {a22 b22 : A22} {a23 b23 : A23} {a24 b24 : A24} {a25 b25 : A25} {a26 b26 : A26} {a27 b27 : A27} {a28 b28 : A28} {a29 b29 : A29} (h : some (a0, a1, a2, a3, a4, a5, a6, a7, a8, a9, a10, a11, a12, a13, a14, a15, a16, a17, a18, a19, a20, a21, a22, a23, a24, a25, a26, a27, a28, a29) = some (b0, b1, b2, b3, b4, b5, b6, b7, b8, b9, b10, b11, b12, b13, b14, b15, b16, b17, b18, b19, b20, b21, b22, b23, b24, b25, b26, b27, b28, b29)) : a0 = b0 ∧ a1 = b1 ∧ a2 = b2 ∧ a3 = b3 ∧ a4 = b4 ∧ a5 = b5 ∧ a6 = b6 ∧ a7 = b7 ∧ a8 = b8 ∧ a9 = b9 ∧ a10 = b10 ∧ a11 = b11 ∧ a12 = b12 ∧ a13 = b13 ∧ a14 = b14 ∧ a15 = b15 ∧ a16 = b16 ∧ a17 = b17 ∧ a18 = b18 ∧ a19 = b19 ∧ a20 = b20 ∧ a21 = b21 ∧ a22 = b22 ∧ a23 = b23 ∧ a24 = b24 ∧ a25 = b25 ∧ a26 = b26 ∧ a27 = b27 ∧ a28 = b28 ∧ a29 = b29 := by
  have h := Option.some.inj h
  simp only [Prod.mk.injEq] at h
  exact h
theorem sm31E {A0 A1 A2 A3 A4 A5 A6 A7 A8 A9 A10 A11 A12 A13 A14 A15 A16 A17 A18 A19 A20 A21 A22 A23 A24 A25 A26 A27 A28 A29 A30 : Type} {a0 b0 : A0} {a1 b1 : A1} {a2 b2 : A2} {a3 b3 : A3} {a4 b4 : A4} {a5 b5 : A5} {a6 b6 : A6} {a7 b7 : A7} {a8 b8 : A8} {a9 b9 : A9} {a10 b10 : A10} {a11 b11 : A11} {a12 b12 : A12} {a13 b13 : A13} {a14 b14 : A14} {a15 b15 : A15} {a16 b16 : A16} {a17 b17 : A17} {a18 b18 : A18} {a19 b19 : A19} {a20 b20 : A20} {a21 b21 : A21} {a22 b22 : A22} {a23 b23 : A23} {a24 b24 : A24} {a25 b25 : A25} {a26 b26 : A26} {a27 b27 : A27} {a28 b28 : A28} {a29 b29 : A29} {a30 b30 : A30} (h : some (a0, a1, a2, a3, a4, a5, a6, a7, a8, a9, a10, a11, a12, a13, a14, a15, a16, a17, a18, a19, a20, a21, a22, a23, a24, a25, a26, a27, a28, a29, a30) = some (b0, b1, b2, b3, b4, b5, b6, b7, b8, b9, b10, b11, b12, b13, b14, b15, b16, b17, b18, b19, b20, b21, b22, b23, b24, b25, b26, b27, b28, b29, b30)) : a0 = b0 ∧ a1 = b1 ∧ a2 = b2 ∧ a3 = b3 ∧ a4 = b4 ∧ a5 = b5 ∧ a6 = b6 ∧ a7 = b7 ∧ a8 = b8 ∧ a9 = b9 ∧ a10 = b10 ∧ a11 = b11 ∧ a12 = b12 ∧ a13 = b13 ∧ a14 = b14 ∧ a15 = b15 ∧ a16 = b16 ∧ a17 = b17 ∧ a18 = b18 ∧ a19 = b19 ∧ a20 = b20 ∧ a21 = b21 ∧ a22 = b22 ∧ a23 = b23 ∧ a24 = b24 ∧ a25 = b25 ∧ a26 = b26 ∧ a27 = b27 ∧ a28 = b28 ∧ a29 = b29 ∧ a30 = b30 := by
  have h := Option.some.inj h
  simp only [Prod.mk.injEq] at h
  exact h
theorem sm32E {A0 A1 A2 A3 A4 A5 A6 A7 A8 A9 A10 A11 A12 A13 A14 A15 A16 A17 A18 A19 A20 A21 A22 A23 A24 A25 A26 A27 A28 A29 A30 A31 : Type} {a0 b0 : A0} {a1 b1 : A1} {a2 b2 : A2} {a3 b3 : A3} {a4 b4 : A4} {a5 b5 : A5} {a6 b6 : A6} {a7 b7 : A7} {a8 b8 : A8} {a9 b9 : A9} {a10 b10 : A10} {a11 b11 : A11} {a12 b12 : A12} {a13 b13 : A13} {a14 b14 : A14} {a15 b15 : A15} {a16 b16 : A16} {a17 b17 : A17} {a18 b18 : A18} {a19 b19 : A19} {a20 b20 : A20} {a21 b21 : A21} {a22 b22 : A22} {a23 b23 : A23} {a24 b24 : A24} {a25 b25 : A25} {a26 b26 : A26} {a27 b27 : A27} {a28 b28 : A28} {a29 b29 : A29} {a30 b30 : A30} {a31 b31 : A31} (h : some (a0, a1, a2, a3, a4, a5, a6, a7, a8, a9, a10, a11, a12, a13, a14, a15, a16, a17, a18, a19, a20, a21, a22, a23, a24, a25, a26, a27, a28, a29, a30, a31) = some (b0, b1, b2, b3, b4, b5, b6, b7, b8, b9, b10, b11, b12, b13, b14, b15, b16, b17, b18, b19, b20, b21, b22, b23, b24, b25, b26, b27, b28, b29, b30, b31)) : a0 = b0 ∧ a1 = b1 ∧ a2 = b2 ∧ a3 = b3 ∧ a4 = b4 ∧ a5 = b5 ∧ a6 = b6 ∧ a7 = b7 ∧ a8 = b8 ∧ a9 = b9 ∧ a10 = b10 ∧ a11 = b11 ∧ a12 = b12 ∧ a13 = b13 ∧ a14 = b14 ∧ a15 = b15 ∧ a16 = b16 ∧ a17 = b17 ∧ a18 = b18 ∧ a19 = b19 ∧ a20 = b20 ∧ a21 = b21 ∧ a22 = b22 ∧ a23 = b23 ∧ a24 = b24 ∧ a25 = b25 ∧ a26 = b26 ∧ a27 = b27 ∧ a28 = b28 ∧ a29 = b29 ∧ a30 = b30 ∧ a31 = b31 := by
  have h := Option.some.inj h
  simp only [Prod.mk.injEq] at h
  exact h

section INIT
def kA : QT := va_up (fun _ => (0, 0)) 0 (11 + 20, 0)
def xA : XT := va_up (fun _ _ => 0) 0 (fun _ => 0)
def zA : ZT := va_up (fun _ _ => none) 0 (fun _ => none)
def kB : QT := blk kA 0 [(11, 0), (8, 0), (13, 400), (14, 401), (14, 401), (14, 401), (10, 0), (9, 0), (14, 12), (7, 0), (14, 6), (14, 6), (14, 36), (5, 0), (14, 412), (17, 6), (6, 0), (9, 0), (14, 12), (7, 0), (14, 6), (14, 6), (14, 36), (7, 0), (14, 6), (14, 6), (14, 36), (19, 20), (14, 10), (14, 10), (14, 10), (18, 4), (1, 0), (14, 6), (15, 12), (7, 0), (14, 6), (14, 6), (14, 36), (14, 6), (3, 0), (19, 4), (7, 0), (14, 6), (14, 6), (14, 36), (7, 0), (14, 6), (14, 6), (14, 36), (7, 0), (14, 6), (14, 6), (14, 36), (7, 0), (14, 6), (14, 6), (14, 36), (14, 3), (14, 3), (2, 0), (7, 0), (14, 6), (14, 6), (14, 36), (14, 25), (14, 25), (0, 0), (7, 0), (14, 6), (14, 6), (14, 36), (14, 7), (14, 42)]
def xB : XT := blx xA 0 [(fun _ => 0), (fun _ => 0), (fun _ => 0), (fun _ => 0), (fun _ => 0), (fun _ => 0), (fun _ => 0), (fun _ => 0), (fun _ => 0), (fun _ => 0), (fun _ => 0), (fun _ => 0), (fun _ => 0), (fun _ => 0), (fun _ => 0), (fun _ => 0), (upd (fun _ => 0) 8 (-1)), (fun _ => 0), (fun _ => 0), (fun _ => 0), (fun _ => 0), (fun _ => 0), (fun _ => 0), (fun _ => 0), (fun _ => 0), (fun _ => 0), (fun _ => 0), (fun _ => 0), (fun _ => 0), (fun _ => 0), (fun _ => 0), (fun _ => 0), (fun _ => 0), (fun _ => 0), (fun _ => 0), (fun _ => 0), (fun _ => 0), (fun _ => 0), (fun _ => 0), (fun _ => 0), (fun _ => 0), (fun _ => 0), (fun _ => 0), (fun _ => 0), (fun _ => 0), (fun _ => 0), (fun _ => 0), (fun _ => 0), (fun _ => 0), (fun _ => 0), (fun _ => 0), (fun _ => 0), (fun _ => 0), (fun _ => 0), (fun _ => 0), (fun _ => 0), (fun _ => 0), (fun _ => 0), (fun _ => 0), (fun _ => 0), (fun _ => 0), (fun _ => 0), (fun _ => 0), (fun _ => 0), (fun _ => 0), (fun _ => 0), (fun _ => 0), (fun _ => 0), (fun _ => 0), (fun _ => 0), (fun _ => 0), (fun _ => 0), (fun _ => 0), (fun _ => 0)]
def yB : YT := va_up (fun _ _ => 0) 34 (fun _ => 0)
def zB : ZT := va_up (va_up (va_up (va_up zA 15 (fun _ => none)) 27 (fun _ => none)) 31 (fun _ => none)) 41 (va_up (va_up (va_up (va_up (fun _ => none) 0 (some (40 + 2))) 1 (some (40 + 6))) 2 (some (40 + 10))) 3 (some (40 + 14)))
def kC : QT := va_up kB 74 (12 + 20, 0)
def xC : XT := va_up xB 74 (fun _ => 0)
def zC : ZT := va_up zB 74 (fun _ => none)
def kD : QT := blk kC 74 [(12, 0), (14, 11), (14, 6), (14, 6), (14, 36), (14, 12), (14, 10), (14, 10), (14, 10), (14, 6), (14, 6), (14, 36), (14, 5), (14, 6), (14, 6), (14, 36), (14, 12), (13, 400), (14, 1800), (14, 1800), (14, 6), (14, 72), (14, 72), (14, 72), (14, 402), (15, 12), (15, 300), (14, 6), (14, 1020), (14, 1), (14, 6), (14, 36), (14, 3), (14, 3), (14, 25), (14, 25), (14, 366), (14, 42), (14, 6500), (16, 4)]
def xD : XT := blx xC 74 [(upd (upd (upd (fun _ => 0) 26 12) 37 (-1)) 38 (-5)), (upd (fun _ => 0) 10 (-1)), (fun _ => 0), (fun _ => 0), (fun _ => 0), (fun _ => 0), (fun _ => 0), (fun _ => 0), (fun _ => 0), (fun _ => 0), (fun _ => 0), (fun _ => 0), (fun _ => 0), (fun _ => 0), (fun _ => 0), (fun _ => 0), (fun _ => 0), (fun _ => 0), (fun _ => 0), (fun _ => 0), (fun _ => 0), (fun _ => 0), (fun _ => 0), (fun _ => 0), (fun _ => 0), (fun _ => 0), (fun _ => 0), (fun _ => 0), (fun _ => 0), (fun _ => 0), (fun _ => 0), (fun _ => 0), (fun _ => 0), (fun _ => 0), (fun _ => 0), (fun _ => 0), (fun _ => 0), (fun _ => 0), (fun _ => 0), (fun _ => 0)]
def yD : YT := va_up (va_up yB 99 (fun _ => 0)) 100 (fun _ => 0)
theorem i_X11 (l : Launch) {b0 : Nat} {D : GD} : gMv l yX11_init cX11_init 1 none 4 75 73 2828 b0 D [.ref (b0 + 0)] (1, kA, xA, fun _ _ => 0, zA) (74, kB, xB, yB, zB) := c_X11_init l rfl rfl rfl rfl (fun _ _ => rfl)
theorem i_X12 (l : Launch) {b0 : Nat} {D : GD} : gMv l yX12_init cX12_init 1 none 1 14 39 13187 b0 D [.ref (b0 + 74)] (75, kC, xC, yB, zC) (114, kD, xD, yD, zC) := c_X12_init l rfl rfl rfl rfl (fun _ _ => rfl)
theorem kD_s : ∀ i, i < 114 → kD i = skind i := by decide +kernel
theorem kD_7 : ∀ o, o < 114 → kD o = (7, 0) → o + 3 < 114 ∧ kD (o + 1) = (14, 6) ∧ kD (o + 2) = (14, 6) ∧ kD (o + 3) = (14, 36) := by decide +kernel
theorem kD_9 : ∀ o, o < 114 → kD o = (9, 0) → o + 5 < 114 ∧ kD (o + 1) = (14, 12) ∧ kD (o + 2) = (7, 0) := by decide +kernel
theorem kD_6 : ∀ o, o < 114 → kD o = (6, 0) → o + 14 < 114 ∧ kD (o + 1) = (9, 0) ∧ kD (o + 7) = (7, 0) ∧ kD (o + 11) = (19, 20) ∧ kD (o + 12) = (14, 10) ∧ kD (o + 13) = (14, 10) ∧ kD (o + 14) = (14, 10) := by decide +kernel
theorem kD_4 : ∀ o, o < 114 → ¬ kD o = (4, 0) := by decide +kernel
theorem LY_D : LY 114 kD := ⟨Nat.le_refl _, kD_s, kD_7, kD_9, kD_6, fun o ho h => absurd h (kD_4 o ho)⟩
theorem isSc_D {s : Nat} (h : isSc zC s) : s = 16 := by
  rcases h with h | ⟨k, _, e⟩
  · exact h
  · have e' : (none : Option Nat) = some s := e
    cases e'
theorem POOL_D : POOL 114 kD zC := by
  refine ⟨LY_D, fun k s hk e => ?_, fun k k' s hk hk' e _ => ?_, fun s j a hsc hj e => ?_, fun s s' j j' a hsc hsc' hj hj' e e' => ?_, rfl, rfl, rfl, rfl⟩
  · have e' : (none : Option Nat) = some s := e
    cases e'
  · have e1 : (none : Option Nat) = some s := e
    cases e1
  · have es := isSc_D hsc
    subst es
    have e' : (none : Option Nat) = some a := e
    cases e'
  · have es := isSc_D hsc
    subst es
    have e1 : (none : Option Nat) = some a := e
    cases e1
theorem RC_0 {x0 x1 x2 x3 : FI} (h0 : x0 = fun _ => 0) (h1 : x1 = fun _ => 0) (h2 : x2 = fun _ => 0) (h3 : x3 = fun _ => 0) : RC (fun _ => 0) x0 x1 x2 x3 := by
  subst h0 h1 h2 h3
  exact ⟨fun _ _ => rfl, fun _ _ => rfl, fun _ _ => rfl, fun _ _ => rfl⟩
theorem INV_D : INV 114 kD xD zC := by
  refine ⟨POOL_D, ⟨0, by omega, rfl, rfl, fun j _ => ⟨rfl, by show bR 0; unfold bR; decide⟩⟩, ⟨rfl, rfl, rfl⟩, 0, by omega, rfl, rfl, fun k hk => absurd hk (by omega), ?_, fun k hk => Or.inl ⟨rfl, rfl⟩⟩
  refine ⟨0, 0, 0, 0, fun _ => 0, fun _ => 0, fun _ => 0, 0, fun _ => 0, fun _ => 0, fun _ => 0, 0, fun _ _ => 0, -1, 0, ?_, ?_, ?_⟩
  · exact ⟨by omega, ⟨by omega, fun j hj => absurd hj (by omega)⟩, by omega, by omega, by omega, Or.inl rfl, rfl, rfl, Or.inl ⟨rfl, rfl, rfl, rfl, rfl, fun _ => rfl⟩⟩
  · exact ⟨⟨rfl, rfl, rfl, rfl⟩, ⟨rfl, rfl, rfl, rfl, fun j hj => absurd hj (by omega)⟩, RC_0 rfl rfl rfl rfl, RC_0 rfl rfl rfl rfl, fun j hj => absurd hj (by omega), fun j hj => absurd hj (by omega)⟩
  · exact ⟨⟨rfl, rfl, rfl, rfl, rfl, rfl, rfl, rfl⟩, fun j hj => absurd hj (by omega), ⟨fun j hj => by
      match j, hj with
      | 0, _ => rfl
      | 1, _ => rfl
      | 2, _ => rfl
      | j + 3, hj => omega, fun _ _ => rfl, fun _ _ => rfl, fun _ _ => rfl⟩, fun j hj => absurd hj (by omega), ⟨fun _ _ => rfl, fun _ _ => rfl, fun _ _ => rfl⟩, fun k hk => absurd hk (by omega), rfl⟩
end INIT

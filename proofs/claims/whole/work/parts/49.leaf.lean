def pcnt (b : Nat) : Nat := (if b.testBit 0 then 1 else 0) + (if b.testBit 1 then 1 else 0) + (if b.testBit 2 then 1 else 0) + (if b.testBit 3 then 1 else 0) + (if b.testBit 4 then 1 else 0) + (if b.testBit 5 then 1 else 0)
theorem p_isWithin (a b c : Int32) : fX11_isWithin a b c = some (if a < b then 0 else if c < a then 0 else 1) := by
  unfold fX11_isWithin fX11_isWithin_0 fX11_isWithin_14
  split
  · rfl
  · split <;> rfl
set_option maxRecDepth 100000 in
theorem p_hasBit : ∀ b, b < 64 → ∀ h, h < 6 → fX11_hasBit (nI b) (nI h) = some (if Nat.testBit b h then 1 else 0) := by decide +kernel
set_option maxRecDepth 100000 in
theorem p_has : ∀ b, b < 64 → ∀ h, h < 6 → fX12_has (nI b) (nI h) = some (if Nat.testBit b h then 1 else 0) := by decide +kernel
set_option maxRecDepth 100000 in
theorem p_bitCount : ∀ b, b < 64 → fJ6_bitCount_0f7a4 (nI b) = some (nI (pcnt b)) := by decide +kernel
set_option maxRecDepth 100000 in
theorem p_bits : ∀ b, b < 64 → fX12_bits (nI b) = some (nI (pcnt b)) := by decide +kernel

section TEXT
variable {x1 x2 x74 x91 : Nat → Int32} {sz : Nat}
/-- a byte's worth -/
def bR (x : Int32) : Prop := -128 ≤ x.toInt ∧ x.toInt ≤ 127
/-- the tape, the same on both sides -/
def TX (sz : Nat) (x1 x2 x74 x91 : Nat → Int32) : Prop := sz ≤ 400 ∧ x1 1 = nI sz ∧ x74 17 = nI sz ∧ ∀ j, j < 400 → x2 j = x91 j ∧ bR (x91 j)
def shv (i : Nat) : Int32 := match i with
  | 0 => 24
  | 1 => 16
  | 2 => 8
  | 3 => 0
  | _ => -8
theorem shv_s : ∀ i, i < 4 → shv i + (-8) = shv (i + 1) := by decide
theorem shv_p : ∀ i, i < 4 → ¬ shv i < 0 := by decide
def byt (v : Int32) (i : Nat) : Int32 := vp_nar .byte ((v >>> (shv i &&& 31)).toInt8.toInt32)
theorem byt_R (v : Int32) (i : Nat) : bR (byt v i) := by
  unfold byt bR
  rw [pk_vb, Int8.toInt_toInt32]
  have h1 := Int8.toInt_lt (v >>> (shv i &&& 31)).toInt8
  have h2 := Int8.le_toInt (v >>> (shv i &&& 31)).toInt8
  omega
theorem p_append {v : Int32} (h : sz + 4 ≤ 400) (h1 : x1 1 = nI sz) : ∃ z1 z2, fX8_append v x1 x2 = some (z1, z2) ∧ z1 1 = nI (sz + 4) ∧ (∀ j, j ≠ 1 → z1 j = x1 j) ∧ ∀ j, z2 j = if sz ≤ j ∧ j < sz + 4 then byt v (j - sz) else x2 j := by
  unfold fX8_append fX8_append_0 fX8_append_3
  refine loop4 fX8_append_3b (fun m v1 v2 z1 z2 => ∃ i, i + m = 4 ∧ v = v1 ∧ v2 = shv i ∧ z1 1 = nI (sz + i) ∧ (∀ j, j ≠ 1 → z1 j = x1 j) ∧ ∀ j, z2 j = if sz ≤ j ∧ j < sz + i then byt v (j - sz) else x2 j) (fun o => ∃ z1 z2, o = some (z1, z2) ∧ z1 1 = nI (sz + 4) ∧ (∀ j, j ≠ 1 → z1 j = x1 j) ∧ ∀ j, z2 j = if sz ≤ j ∧ j < sz + 4 then byt v (j - sz) else x2 j) ?_ ?_ 4 5000 _ _ _ _ (by omega) ⟨0, rfl, rfl, rfl, h1, fun _ _ => rfl, fun j => by rw [if_neg (by omega)]⟩
  · rintro k m _ _ z1 z2 ⟨i, hi, rfl, rfl, a1, a2, a3⟩
    refine Or.inl ⟨v, shv (i + 1), upd z1 1 (nI (sz + (i + 1))), upd z2 (sz + i) (byt v i), ⟨i + 1, by omega, rfl, rfl, rfl, fun j hj => by rw [pk_un hj]; exact a2 j hj, fun j => ?_⟩, ?_⟩
    · by_cases e : j = sz + i
      · subst e; rw [pk_us, if_pos (by omega), show sz + i - sz = i by omega]
      · rw [pk_un e, a3 j]
        (repeat' split) <;> first | rfl | omega
    · unfold fX8_append_3b
      rw [if_neg (shv_p i (by omega)), a1, if_neg (show ¬ (400 : Int32) ≤ nI (sz + i) from nI_ge (b := 400) (by omega) (by omega)), gd_t (inbN (by omega) (by decide)), bn_s, shv_s i (by omega), nI_1, clN (by omega)]
      rfl
  · rintro k _ _ z1 z2 ⟨i, hi, rfl, rfl, a1, a2, a3⟩
    have ei : i = 4 := by omega
    subst ei
    refine ⟨z1, z2, ?_, a1, a2, a3⟩
    unfold fX8_append_3b
    rw [if_pos (by decide)]
theorem p_put {v : Int32} (h : sz + 4 ≤ 400) (h1 : x74 17 = nI sz) : ∃ z1 z2, fX12_put v x74 x91 = some (z1, z2) ∧ z1 17 = nI (sz + 4) ∧ (∀ j, j ≠ 17 → z1 j = x74 j) ∧ ∀ j, z2 j = if sz ≤ j ∧ j < sz + 4 then byt v (j - sz) else x91 j := by
  unfold fX12_put fX12_put_0 fX12_put_3
  refine loop4 fX12_put_3b (fun m v1 v2 z1 z2 => ∃ i, i + m = 4 ∧ v = v1 ∧ v2 = shv i ∧ z1 17 = nI (sz + i) ∧ (∀ j, j ≠ 17 → z1 j = x74 j) ∧ ∀ j, z2 j = if sz ≤ j ∧ j < sz + i then byt v (j - sz) else x91 j) (fun o => ∃ z1 z2, o = some (z1, z2) ∧ z1 17 = nI (sz + 4) ∧ (∀ j, j ≠ 17 → z1 j = x74 j) ∧ ∀ j, z2 j = if sz ≤ j ∧ j < sz + 4 then byt v (j - sz) else x91 j) ?_ ?_ 4 5000 _ _ _ _ (by omega) ⟨0, rfl, rfl, rfl, h1, fun _ _ => rfl, fun j => by rw [if_neg (by omega)]⟩
  · rintro k m _ _ z1 z2 ⟨i, hi, rfl, rfl, a1, a2, a3⟩
    refine Or.inl ⟨v, shv (i + 1), upd z1 17 (nI (sz + (i + 1))), upd z2 (sz + i) (byt v i), ⟨i + 1, by omega, rfl, rfl, rfl, fun j hj => by rw [pk_un hj]; exact a2 j hj, fun j => ?_⟩, ?_⟩
    · by_cases e : j = sz + i
      · subst e; rw [pk_us, if_pos (by omega), show sz + i - sz = i by omega]
      · rw [pk_un e, a3 j]
        (repeat' split) <;> first | rfl | omega
    · unfold fX12_put_3b
      rw [if_neg (shv_p i (by omega)), a1, gd_t (inbN (by omega) (by decide)), bn_s, shv_s i (by omega), nI_1, clN (by omega)]
      rfl
  · rintro k _ _ z1 z2 ⟨i, hi, rfl, rfl, a1, a2, a3⟩
    have ei : i = 4 := by omega
    subst ei
    refine ⟨z1, z2, ?_, a1, a2, a3⟩
    unfold fX12_put_3b
    rw [if_pos (by decide)]
theorem TX_4 {v : Int32} (hx : TX sz x1 x2 x74 x91) (h : sz + 4 ≤ 400) : ∃ z1 z2 z74 z91, fX8_append v x1 x2 = some (z1, z2) ∧ fX12_put v x74 x91 = some (z74, z91) ∧ TX (sz + 4) z1 z2 z74 z91 ∧ (∀ j, j ≠ 1 → z1 j = x1 j) ∧ ∀ j, j ≠ 17 → z74 j = x74 j := by
  obtain ⟨hs, h1, h17, hb⟩ := hx
  obtain ⟨z1, z2, e1, a1, a2, a3⟩ := p_append (x2 := x2) (v := v) h h1
  obtain ⟨z74, z91, e2, b1, b2, b3⟩ := p_put (x91 := x91) (v := v) h h17
  refine ⟨z1, z2, z74, z91, e1, e2, ⟨h, a1, b1, fun j hj => ?_⟩, a2, b2⟩
  rw [a3 j, b3 j]
  by_cases c : sz ≤ j ∧ j < sz + 4
  · rw [if_pos c, if_pos c]; exact ⟨rfl, byt_R _ _⟩
  · rw [if_neg c, if_neg c]; exact hb j hj
theorem e_feed (hx : TX sz x1 x2 x74 x91) (v1 v2 v3 v4 v5 : Int32) : ∃ r sz' z1 z2 z74 z91, fX11_feed v1 v2 v3 v4 v5 x1 x2 = some (r, z1, z2) ∧ fX12_feed v1 v2 v3 v4 v5 x74 x91 = some (r, z74, z91) ∧ TX sz' z1 z2 z74 z91 ∧ (∀ j, j ≠ 1 → z1 j = x1 j) ∧ ∀ j, j ≠ 17 → z74 j = x74 j := by
  obtain ⟨hs, h1, h17, hb⟩ := id hx
  unfold fX11_feed fX11_feed_0 fX12_feed fX12_feed_0
  have e20 : nI sz + 20 = nI (sz + 20) := nI_add sz 20
  rw [h1, h17, e20]
  by_cases c : sz + 20 ≤ 400
  · obtain ⟨a1, a2, a74, a91, ea, fa, ta, ga, ha⟩ := TX_4 (v := v1) hx (by omega)
    obtain ⟨b1, b2, b74, b91, eb, fb, tb, gb, hb'⟩ := TX_4 (v := v2) ta (by omega)
    obtain ⟨c1, c2, c74, c91, ec, fc, tc, gc, hc⟩ := TX_4 (v := v3) tb (by omega)
    obtain ⟨d1, d2, d74, d91, ed, fd, td, gd', hd⟩ := TX_4 (v := v4) tc (by omega)
    obtain ⟨k1, k2, k74, k91, ek, fk, tk, gk, hk⟩ := TX_4 (v := v5) td (by omega)
    refine ⟨nI (sz + 4 + 4 + 4 + 4 + 4), _, k1, k2, k74, k91, ?_, ?_, tk, fun j hj => by rw [gk j hj, gd' j hj, gc j hj, gb j hj, ga j hj], fun j hj => by rw [hk j hj, hd j hj, hc j hj, hb' j hj, ha j hj]⟩
    · rw [if_pos (show nI (sz + 20) ≤ (400 : Int32) from nI_le (b := 400) c (by omega)), ea, bd2_s, eb, bd2_s, ec, bd2_s, ed, bd2_s, ek, bd2_s, tk.2.1]
    · rw [if_pos (show nI (sz + 20) ≤ (400 : Int32) from nI_le (b := 400) c (by omega)), fa, bd2_s, fb, bd2_s, fc, bd2_s, fd, bd2_s, fk, bd2_s, tk.2.2.1]
  · refine ⟨-1, sz, x1, x2, x74, x91, ?_, ?_, hx, fun _ _ => rfl, fun _ _ => rfl⟩
    · rw [if_neg (show ¬ nI (sz + 20) ≤ (400 : Int32) from nI_ge (a := 400) (by omega) (by omega))]
    · rw [if_neg (show ¬ nI (sz + 20) ≤ (400 : Int32) from nI_ge (a := 400) (by omega) (by omega))]
theorem e_end (hx : TX sz x1 x2 x74 x91) (v1 : Int32) : ∃ r sz' z1 z74, fX11_end v1 x1 = some (r, z1) ∧ fX12_end v1 x74 = some (r, z74) ∧ TX sz' z1 x2 z74 x91 ∧ (∀ j, j ≠ 1 → z1 j = x1 j) ∧ ∀ j, j ≠ 17 → z74 j = x74 j := by
  obtain ⟨hs, h1, h17, hb⟩ := id hx
  unfold fX11_end fX11_end_0 fX12_end fX12_end_0
  rw [h1, h17]
  by_cases c : v1 < 0
  · rw [if_pos c, if_pos c]
    exact ⟨_, sz, x1, x74, rfl, rfl, hx, fun _ _ => rfl, fun _ _ => rfl⟩
  · rw [if_neg c, if_neg c]
    by_cases c2 : v1 ≤ nI sz
    · rw [if_pos c2, if_pos c2]
      obtain ⟨j, hj, rfl⟩ := nI_of2 (M := nI sz) (n := sz) (nI_toInt (by omega)) c c2
      exact ⟨_, j, _, _, rfl, rfl, ⟨by omega, rfl, rfl, hb⟩, fun j hj => pk_un hj, fun j hj => pk_un hj⟩
    · rw [if_neg c2, if_neg c2]
      exact ⟨_, sz, x1, x74, rfl, rfl, hx, fun _ _ => rfl, fun _ _ => rfl⟩
end TEXT

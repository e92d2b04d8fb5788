section CALLT
variable {l : Launch} {b0 : Nat} {D : GD} {K : KT} {own : String} {cc : ByteArray} {ret : Option FieldType} {nL fr lo mc ms : Nat} {pc : Nat} {loc : List (Nat × Value)} {st rest : List Value} {n : Nat} {κ : QT} {X : XT} {Y : YT} {Z : ZT} {cs ss : Nat} {y : MethodName} {cc' : ByteArray} {nL' fr' lo' idx : Nat} {ret' : Option FieldType} {As : List Value}
/-- a call of a String constant's method: nothing changes -/
theorem g_callT_i (hC : gC l b0 D K own cc ret nL fr lo mc ms) {r : Int32} {i : Nat} (hi : i < nStr) (hM : gMi l y cc' nL' ret' fr' lo' 0 0 b0 D (.ref (D.2 (100 + i)) :: As) (n, κ, X, Y, Z) (n, κ, X, Y, Z) r) (hcd : Cond.code y cc' nL' ret' ∈ gtbl) (hlk0 : Cond.methodLink own idx y ∈ gtbl) (hini : Cond.initialized y.cls ∈ gtbl) (hin : Cond.instanceMethod y ∈ gtbl) (hsel : Cond.selects "java/lang/String" y y ∈ gtbl) (hdd : y.cls ≠ "java/lang/invoke/MethodHandle" ∧ y.cls ≠ "java/lang/invoke/VarHandle" ∧ (parseMethodDescriptor y.desc).map (fun d => d.parameters.length) = some As.length) (hfr : fr' + 1 ≤ fr ∧ 8 + (nL' + 11) + lo' ≤ lo) (hrm : cs + 0 ≤ mc ∧ ss + 0 ≤ ms) (hst : (rest.map fun v => v.category).sum ≤ 8) (hstk : st = As.reverse ++ .ref (D.2 (100 + i)) :: rest) (hd : decode cc pc = .ok (.invokevirtual idx, 3)) (kk : gV l b0 D K (n, κ, X, Y, Z, cs, ss) (pc + 3) loc (.int r :: rest)) : gV l b0 D K (n, κ, X, Y, Z, cs, ss) pc loc st := by
  obtain ⟨p, e, R, s, m, args, below, meth, c, nL0, Q⟩ := K
  obtain ⟨hx, hb, hr, hml, rfl, hown, hts, hlk, hK, hNw, hb0, rfl⟩ := hC
  intro H locs ls hR hS hl
  subst hstk
  refine va_calli (va_runV (As := As) (rest := rest) (C := "java/lang/String") ⟨hx, hb, hml, hown, hts⟩ hM ⟨callB_of _ hts (gGood hcd) rfl rfl rfl (hts _ hini) (hts _ hlk0) hdd hfr, hts _ hin, hts _ hsel⟩ ⟨gPc_blind, vk_recv hNw.2.2.2.1 hi hS, fun U hU hW => ⟨rfl, by rw [hU]; exact hR, va_K.moved hW.alike hK, gNW_at hNw hW hS hU⟩⟩ rfl rfl hl.1 rfl (lv_room hst) hd hrm) hS (fun q _ h => h) (fun q h => h) (fun r2 u t H1 locs1 ht hvm hw hB hz1 hk1 hS1 => ?_)
  subst hw
  exact kk H1 locs1 ls (by rw [← ht]; exact hB.1) hS1 hl
end CALLT
def slen (i : Nat) : Int32 := Int32.ofNat (lenS.getD i 0) >>> ((0 : Int32) &&& 31)
def sch (i : Nat) (j : Int32) : Int32 := ((((bytS.getD i []).getD j.toNatClampNeg 0) &&& 255).toUInt32 % 65536).toInt32
set_option maxRecDepth 100000 in
theorem c_coder (l : Launch) {b0 : Nat} {D : GD} {n : Nat} {κ : QT} {X : XT} {Y : YT} {Z : ZT} {i : Nat} (hi : i < nStr) : gMi l yJ0_coder_7d493 cJ0_coder_7d493 1 (some FieldType.byte) 0 0 0 0 b0 D [.ref (D.2 (100 + i))] (n, κ, X, Y, Z) (n, κ, X, Y, Z) 0 := by
  refine g_meti (own := RJ0) (by decide) rfl rfl (Nat.le_of_ble_eq_true rfl) ?_
  intro K hC hret
  refine g_scmp hC tw_588 dJ0_coder_7d493_0 ?_
  refine g_if_eq hC 13 dJ0_coder_7d493_3 (by decide) (fun hc => absurd hc (by decide)) (fun _ => ?_)
  refine g_aload_n hC 0 dJ0_coder_7d493_6 rfl rfl ?_
  refine g_scod hC hi tw_1826 dJ0_coder_7d493_7 ?_
  refine g_goto hC 14 dJ0_coder_7d493_10 (by decide) ?_
  exact hret _ _ rfl dJ0_coder_7d493_14
set_option maxRecDepth 100000 in
theorem c_isLat (l : Launch) {b0 : Nat} {D : GD} {n : Nat} {κ : QT} {X : XT} {Y : YT} {Z : ZT} {i : Nat} (hi : i < nStr) : gMi l yJ0_isLatin1_aae02 cJ0_isLatin1_aae02 1 (some FieldType.boolean) 0 0 0 0 b0 D [.ref (D.2 (100 + i))] (n, κ, X, Y, Z) (n, κ, X, Y, Z) 1 := by
  refine g_meti (own := RJ0) (by decide) rfl rfl (Nat.le_of_ble_eq_true rfl) ?_
  intro K hC hret
  refine g_scmp hC tw_588 dJ0_isLatin1_aae02_0 ?_
  refine g_if_eq hC 17 dJ0_isLatin1_aae02_3 (by decide) (fun hc => absurd hc (by decide)) (fun _ => ?_)
  refine g_aload_n hC 0 dJ0_isLatin1_aae02_6 rfl rfl ?_
  refine g_scod hC hi tw_1826 dJ0_isLatin1_aae02_7 ?_
  refine g_if_ne hC 17 dJ0_isLatin1_aae02_10 (by decide) (fun hc => absurd rfl hc) (fun _ => ?_)
  refine g_iconst hC (v := 1) dJ0_isLatin1_aae02_13 (by decide) ?_
  refine g_goto hC 18 dJ0_isLatin1_aae02_14 (by decide) ?_
  exact hret _ _ rfl dJ0_isLatin1_aae02_18
set_option maxRecDepth 100000 in
theorem c_strlen (l : Launch) {b0 : Nat} {D : GD} {n : Nat} {κ : QT} {X : XT} {Y : YT} {Z : ZT} {i : Nat} (hi : i < nStr) : gMi l yJ0_length_8abf5 cJ0_length_8abf5 1 (some FieldType.int) 1 20 0 0 b0 D [.ref (D.2 (100 + i))] (n, κ, X, Y, Z) (n, κ, X, Y, Z) (slen i) := by
  refine g_meti (own := RJ0) (by decide) rfl rfl (Nat.le_of_ble_eq_true rfl) ?_
  intro K hC hret
  refine g_aload_n hC 0 dJ0_length_8abf5_0 rfl rfl ?_
  refine g_sval hC hi tw_1825 dJ0_length_8abf5_1 ?_
  refine g_slen hC hi dJ0_length_8abf5_4 ?_
  refine g_aload_n hC 0 dJ0_length_8abf5_5 rfl rfl ?_
  refine g_callT_i hC hi (c_coder l hi) tw_587 tw_584 tw_129 tw_585 tw_586 pd_J0_coder_7d493 (by decide) (by decide) (Nat.le_of_ble_eq_true rfl) rfl dJ0_length_8abf5_6 ?_
  refine g_ishr hC dJ0_length_8abf5_9 ?_
  exact hret _ _ rfl dJ0_length_8abf5_10
set_option maxRecDepth 100000 in
theorem c_preN (l : Launch) {b0 : Nat} {D : GD} {n : Nat} {κ : QT} {X : XT} {Y : YT} {Z : ZT} {j k : Int32}  (h0 : ¬ j < 0) (h1 : j < k) : gMi l yJ3_checkIndex_8e157 cJ3_checkIndex_8e157 3 (some FieldType.int) 0 0 0 0 b0 D [.int j, .int k, .null] (n, κ, X, Y, Z) (n, κ, X, Y, Z) j := by
  refine g_meti (own := RJ3) (by decide) rfl rfl (Nat.le_of_ble_eq_true rfl) ?_
  intro K hC hret
  refine g_iload_n hC 0 dJ3_checkIndex_8e157_0 rfl rfl ?_
  refine g_if_lt hC 9 dJ3_checkIndex_8e157_1 (by decide) (fun hc => absurd hc h0) (fun _ => ?_)
  refine g_iload_n hC 0 dJ3_checkIndex_8e157_4 rfl rfl ?_
  refine g_iload_n hC 1 dJ3_checkIndex_8e157_5 rfl rfl ?_
  refine g_icmp_lt hC 16 dJ3_checkIndex_8e157_6 (by decide) (fun _ => ?_) (fun hc => absurd h1 hc)
  refine g_iload_n hC 0 dJ3_checkIndex_8e157_16 rfl rfl ?_
  exact hret _ _ rfl dJ3_checkIndex_8e157_17
set_option maxRecDepth 100000 in
theorem c_preR (l : Launch) {b0 : Nat} {D : GD} {n : Nat} {κ : QT} {X : XT} {Y : YT} {Z : ZT} {j k : Int32} {t : Nat} (h0 : ¬ j < 0) (h1 : j < k) : gMi l yJ3_checkIndex_8e157 cJ3_checkIndex_8e157 3 (some FieldType.int) 0 0 0 0 b0 D [.int j, .int k, .ref t] (n, κ, X, Y, Z) (n, κ, X, Y, Z) j := by
  refine g_meti (own := RJ3) (by decide) rfl rfl (Nat.le_of_ble_eq_true rfl) ?_
  intro K hC hret
  refine g_iload_n hC 0 dJ3_checkIndex_8e157_0 rfl rfl ?_
  refine g_if_lt hC 9 dJ3_checkIndex_8e157_1 (by decide) (fun hc => absurd hc h0) (fun _ => ?_)
  refine g_iload_n hC 0 dJ3_checkIndex_8e157_4 rfl rfl ?_
  refine g_iload_n hC 1 dJ3_checkIndex_8e157_5 rfl rfl ?_
  refine g_icmp_lt hC 16 dJ3_checkIndex_8e157_6 (by decide) (fun _ => ?_) (fun hc => absurd h1 hc)
  refine g_iload_n hC 0 dJ3_checkIndex_8e157_16 rfl rfl ?_
  exact hret _ _ rfl dJ3_checkIndex_8e157_17
set_option maxRecDepth 100000 in
theorem c_chk (l : Launch) {b0 : Nat} {D : GD} {n : Nat} {κ : QT} {X : XT} {Y : YT} {Z : ZT} {j k : Int32} (h0 : ¬ j < 0) (h1 : j < k) : gMv l yJ0_checkIndex_df160 cJ0_checkIndex_df160 2 none 1 22 0 0 b0 D [.int j, .int k] (n, κ, X, Y, Z) (n, κ, X, Y, Z) := by
  refine g_metv (own := RJ0) (by decide) rfl rfl (Nat.le_of_ble_eq_true rfl) ?_
  intro K hC hret
  refine g_iload_n hC 0 dJ0_checkIndex_df160_0 rfl rfl ?_
  refine g_iload_n hC 1 dJ0_checkIndex_df160_1 rfl rfl ?_
  refine g_sfmt hC tw_604 dJ0_checkIndex_df160_2 (fun v hv => ?_)
  rcases hv with rfl | ⟨t, rfl⟩
  · refine g_callS_i hC (As := [.int j, .int k, .null]) (c_preN l h0 h1) tw_608 tw_606 tw_131 tw_607 pd_J3_checkIndex_8e157 (by decide) (by decide) rfl rfl (Nat.le_of_ble_eq_true rfl) rfl dJ0_checkIndex_df160_5 ?_
    refine g_pop hC dJ0_checkIndex_df160_8 rfl ?_
    exact hret _ _ dJ0_checkIndex_df160_9
  · refine g_callS_i hC (As := [.int j, .int k, .ref t]) (c_preR l h0 h1) tw_608 tw_606 tw_131 tw_607 pd_J3_checkIndex_8e157 (by decide) (by decide) rfl rfl (Nat.le_of_ble_eq_true rfl) rfl dJ0_checkIndex_df160_5 ?_
    refine g_pop hC dJ0_checkIndex_df160_8 rfl ?_
    exact hret _ _ dJ0_checkIndex_df160_9
set_option maxRecDepth 100000 in
theorem c_lat (l : Launch) {b0 : Nat} {D : GD} {n : Nat} {κ : QT} {X : XT} {Y : YT} {Z : ZT} {i : Nat} (hi : i < nStr) {j : Int32} (h0 : ¬ j < 0) (h1 : j < Int32.ofNat (lenS.getD i 0)) (h2 : vp_in j (lenS.getD i 0)) : gMi l yJ1_charAt_3b067 cJ1_charAt_3b067 2 (some FieldType.char) 2 43 0 0 b0 D [.ref (D.2 (200 + i)), .int j] (n, κ, X, Y, Z) (n, κ, X, Y, Z) (sch i j) := by
  refine g_meti (own := RJ1) (by decide) rfl rfl (Nat.le_of_ble_eq_true rfl) ?_
  intro K hC hret
  refine g_iload_n hC 1 dJ1_charAt_3b067_0 rfl rfl ?_
  refine g_aload_n hC 0 dJ1_charAt_3b067_1 rfl rfl ?_
  refine g_slen hC hi dJ1_charAt_3b067_2 ?_
  refine g_callS_v hC (As := [.int j, .int (Int32.ofNat (lenS.getD i 0))]) (c_chk l h0 h1) tw_603 tw_601 tw_129 tw_602 pd_J0_checkIndex_df160 (by decide) (by decide) rfl rfl (Nat.le_of_ble_eq_true rfl) rfl dJ1_charAt_3b067_3 ?_
  refine g_aload_n hC 0 dJ1_charAt_3b067_6 rfl rfl ?_
  refine g_iload_n hC 1 dJ1_charAt_3b067_7 rfl rfl ?_
  refine g_sbyt hC hi h2 dJ1_charAt_3b067_8 ?_
  refine g_sipush hC (v := 255) dJ1_charAt_3b067_9 (by decide) ?_
  refine g_iand hC dJ1_charAt_3b067_12 ?_
  refine g_i2c hC dJ1_charAt_3b067_13 ?_
  exact hret _ _ (pk_nc _) dJ1_charAt_3b067_14
set_option maxRecDepth 100000 in
theorem c_strchr (l : Launch) {b0 : Nat} {D : GD} {n : Nat} {κ : QT} {X : XT} {Y : YT} {Z : ZT} {i : Nat} (hi : i < nStr) {j : Int32} (h0 : ¬ j < 0) (h1 : j < Int32.ofNat (lenS.getD i 0)) (h2 : vp_in j (lenS.getD i 0)) : gMi l yJ0_charAt_5068e cJ0_charAt_5068e 2 (some FieldType.char) 3 64 0 0 b0 D [.ref (D.2 (100 + i)), .int j] (n, κ, X, Y, Z) (n, κ, X, Y, Z) (sch i j) := by
  refine g_meti (own := RJ0) (by decide) rfl rfl (Nat.le_of_ble_eq_true rfl) ?_
  intro K hC hret
  refine g_aload_n hC 0 dJ0_charAt_5068e_0 rfl rfl ?_
  refine g_callT_i hC hi (c_isLat l hi) tw_597 tw_594 tw_129 tw_595 tw_596 pd_J0_isLatin1_aae02 (by decide) (by decide) (Nat.le_of_ble_eq_true rfl) rfl dJ0_charAt_5068e_1 ?_
  refine g_if_eq hC 16 dJ0_charAt_5068e_4 (by decide) (fun hc => absurd hc (by decide)) (fun _ => ?_)
  refine g_aload_n hC 0 dJ0_charAt_5068e_7 rfl rfl ?_
  refine g_sval hC hi tw_1825 dJ0_charAt_5068e_8 ?_
  refine g_iload_n hC 1 dJ0_charAt_5068e_11 rfl rfl ?_
  refine g_callS_i hC (As := [.ref (D.2 (200 + i)), .int j]) (c_lat l hi h0 h1 h2) tw_600 tw_598 tw_130 tw_599 pd_J1_charAt_3b067 (by decide) (by decide) rfl rfl (Nat.le_of_ble_eq_true rfl) rfl dJ0_charAt_5068e_12 ?_
  exact hret _ _ (pk_nc _) dJ0_charAt_5068e_15

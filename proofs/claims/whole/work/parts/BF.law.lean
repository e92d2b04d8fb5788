/-- the script that the law reads -/
def gSc (b0 : Nat) (K : KT) (b L : Nat) (xs : Nat → Int32) : Prop := match K with
  | (_, _, _, s, _, _, _, _, _, _, _) => va_X b L xs s s.heap ∧ b < s.heap.size ∧ b < b0
section LAW
variable {l : Launch} {b0 : Nat} {D : GD} {K : KT} {own : String} {cc : ByteArray} {ret : Option FieldType} {nL fr lo mc ms : Nat} {σ : SG} {pc : Nat} {loc : List (Nat × Value)} {st : List Value} {b L : Nat} {xs : Nat → Int32} {n : Nat} {κ : QT} {X : XT} {Y : YT} {Z : ZT}
theorem g_sld (hC : gC l b0 D K own cc ret nL fr lo mc ms) (hS : gSc b0 K b L xs) {i : Int32} (hin : vp_in i L) (hd : decode cc pc = .ok (.iaload, 1)) (k : gV l b0 D K σ (pc + 1) loc (.int (xs i.toNatClampNeg) :: st)) : gV l b0 D K σ pc loc (.int i :: .ref b :: st) := by
  obtain ⟨p, e, R, s, m, args, below, meth, c, nL0, Q⟩ := K
  obtain ⟨n, κ, X, Y, Z, cs, ss⟩ := σ
  obtain ⟨hx, hb, hr, hml, rfl, hown, hts, hlk, hK, hNw, hb0, rfl⟩ := hC
  intro H locs ls hR hS' hl
  exact va_sld hx hb hS.1 hS.2.1 (fun hA => absurd hA (Nat.not_le.mpr hS.2.2)) hS' hin hd (k H locs ls hR hS' hl)
theorem g_sclen (hC : gC l b0 D K own cc ret nL fr lo mc ms) (hS : gSc b0 K b L xs) (hd : decode cc pc = .ok (.arraylength, 1)) (k : gV l b0 D K σ (pc + 1) loc (.int (nI L) :: st)) : gV l b0 D K σ pc loc (.ref b :: st) := by
  obtain ⟨p, e, R, s, m, args, below, meth, c, nL0, Q⟩ := K
  obtain ⟨n, κ, X, Y, Z, cs, ss⟩ := σ
  obtain ⟨hx, hb, hr, hml, rfl, hown, hts, hlk, hK, hNw, hb0, rfl⟩ := hC
  intro H locs ls hR hS' hl
  exact va_slen hx hb hS.1 hS.2.1 (fun hA => absurd hA (Nat.not_le.mpr hS.2.2)) hS' hd (k H locs ls hR hS' hl)
theorem law_arg (hC : gC l b0 D K RL cL_law ret 4 2048 84000 600000 7302250) (hS : gSc b0 K b L xs) {i j : Nat} {J : Int} (hi : i + 6 ≤ L) (hL : L ≤ 3072) (hJ : Int32.ofInt J = nI j) (hj : j < 6) (d0 : decode cL_law pc = .ok (.aload_n 0, 1)) (d1 : decode cL_law (pc + 1) = .ok (.iload_n 3, 1)) (d2 : decode cL_law (pc + 1 + 1) = .ok (.iconst J, 1)) (d3 : decode cL_law (pc + 1 + 1 + 1) = .ok (.iadd, 1)) (d4 : decode cL_law (pc + 1 + 1 + 1 + 1) = .ok (.iaload, 1)) (k : gV l b0 D K σ (pc + 1 + 1 + 1 + 1 + 1) [(3, .int (nI i)), (2, .ref (b0 + 74)), (1, .ref (b0 + 0)), (0, .ref b)] (.int (xs (i + j)) :: st)) : gV l b0 D K σ pc [(3, .int (nI i)), (2, .ref (b0 + 74)), (1, .ref (b0 + 0)), (0, .ref b)] st := by
  refine g_aload_n hC 3 d0 rfl rfl ?_
  refine g_iload_n hC 0 d1 rfl rfl ?_
  refine g_iconst hC d2 hJ ?_
  refine g_iadd hC d3 ?_
  rw [nI_add]
  refine g_sld hC hS (inb_in (inbN (by omega) (by omega))) d4 ?_
  rw [clN (by omega)]
  exact k
theorem and31 (x : Int32) : ∃ k, k < 32 ∧ x &&& 31 = nI k := by
  refine ⟨(x &&& 31).toBitVec.toNat, ?_, ?_⟩
  · have : (x &&& 31).toBitVec.toNat ≤ 31 := by
      rw [Int32.toBitVec_and, BitVec.toNat_and]
      exact Nat.and_le_right
    omega
  · apply Int32.toBitVec_inj.mp
    show _ = BitVec.ofNat 32 _
    rw [BitVec.ofNat_toNat, BitVec.setWidth_eq]
theorem law_0 (hC : gC l b0 D K RL cL_law ret 4 2048 84000 600000 7302250) (hS : gSc b0 K b L xs) {i cs ss : Nat} (hi : i + 6 ≤ L) (hL : L ≤ 3072) (hcs : cs + 350 ≤ 600000) (hss : ss + 4692 ≤ 7302250) (hI : INV n κ X Z) (k : ∀ n κ X Y Z, INV n κ X Z → gV l b0 D K (n, κ, X, Y, Z, cs + 350, ss + 4692) 1162 [(3, .int (nI i)), (2, .ref (b0 + 74)), (1, .ref (b0 + 0)), (0, .ref b)] []) : gV l b0 D K (n, κ, X, Y, Z, cs, ss) 176 [(3, .int (nI i)), (2, .ref (b0 + 74)), (1, .ref (b0 + 0)), (0, .ref b)] [] := by
  obtain ⟨r, n1, κ1, X1, Y1, Z1, n2, κ2, X2, Y2, Z2, ⟨fr, lo, mc, ms, f1, f2, f3, f4, mC⟩, ⟨hL1, fr2, lo2, mc2, ms2, g1, g2, g3, g4, mR⟩, hI2⟩ := k_feed (Y := Y) (b0 := b0) (D := D) l hI (xs (i + 1)) (xs (i + 2)) (xs (i + 3)) (xs (i + 4)) (xs (i + 5))
  refine g_aload_n hC 2 dL_law_176 rfl rfl ?_
  refine law_arg hC hS (j := 1) hi hL ic_1 (by omega) dL_law_177 dL_law_178 dL_law_179 dL_law_180 dL_law_181 ?_
  refine law_arg hC hS (j := 2) hi hL ic_2 (by omega) dL_law_182 dL_law_183 dL_law_184 dL_law_185 dL_law_186 ?_
  refine law_arg hC hS (j := 3) hi hL ic_3 (by omega) dL_law_187 dL_law_188 dL_law_189 dL_law_190 dL_law_191 ?_
  refine law_arg hC hS (j := 4) hi hL ic_4 (by omega) dL_law_192 dL_law_193 dL_law_194 dL_law_195 dL_law_196 ?_
  refine law_arg hC hS (j := 5) hi hL ic_5 (by omega) dL_law_197 dL_law_198 dL_law_199 dL_law_200 dL_law_201 ?_
  refine g_callV_i (a := 0) hC (n' := n1) (κ' := κ1) (X' := X1) (Y' := Y1) (Z' := Z1) (As := [.int (xs (i + 1)), .int (xs (i + 2)), .int (xs (i + 3)), .int (xs (i + 4)), .int (xs (i + 5))]) (rest := []) mC tw_501 tw_498 tw_116 tw_499 tw_500 (ci := 11) rfl (by decide) (kk_0 hI.1.1) (kn_0 hI.1.1) pd_X11_feed ⟨by omega, by omega⟩ ⟨by omega, by omega⟩ rfl rfl (Nat.le_of_ble_eq_true rfl) rfl dL_law_202 ?_
  refine g_aload_n hC 1 dL_law_205 rfl rfl ?_
  refine law_arg hC hS (j := 1) hi hL ic_1 (by omega) dL_law_206 dL_law_207 dL_law_208 dL_law_209 dL_law_210 ?_
  refine law_arg hC hS (j := 2) hi hL ic_2 (by omega) dL_law_211 dL_law_212 dL_law_213 dL_law_214 dL_law_215 ?_
  refine law_arg hC hS (j := 3) hi hL ic_3 (by omega) dL_law_216 dL_law_217 dL_law_218 dL_law_219 dL_law_220 ?_
  refine law_arg hC hS (j := 4) hi hL ic_4 (by omega) dL_law_221 dL_law_222 dL_law_223 dL_law_224 dL_law_225 ?_
  refine law_arg hC hS (j := 5) hi hL ic_5 (by omega) dL_law_226 dL_law_227 dL_law_228 dL_law_229 dL_law_230 ?_
  refine g_callV_i (a := 74) hC (n' := n2) (κ' := κ2) (X' := X2) (Y' := Y2) (Z' := Z2) (As := [.int (xs (i + 1)), .int (xs (i + 2)), .int (xs (i + 3)), .int (xs (i + 4)), .int (xs (i + 5))]) (rest := [.int r]) mR tw_1352 tw_1349 tw_127 tw_1350 tw_1351 (ci := 12) rfl (by decide) (kk_74 hL1) (kn_74 hL1) pd_X12_feed ⟨by omega, by omega⟩ ⟨by omega, by omega⟩ rfl rfl (Nat.le_of_ble_eq_true rfl) rfl dL_law_231 ?_
  refine g_icmp_eq hC 1162 dL_law_234 (by decide) (fun _ => ?_) (fun hne => absurd rfl hne)
  exact g_widen (by omega) (by omega) (k n2 κ2 X2 Y2 Z2 hI2)
theorem law_1 (hC : gC l b0 D K RL cL_law ret 4 2048 84000 600000 7302250) (hS : gSc b0 K b L xs) {i cs ss : Nat} (hi : i + 6 ≤ L) (hL : L ≤ 3072) (hcs : cs + 350 ≤ 600000) (hss : ss + 4692 ≤ 7302250) (hI : INV n κ X Z) (k : ∀ n κ X Y Z, INV n κ X Z → gV l b0 D K (n, κ, X, Y, Z, cs + 350, ss + 4692) 1162 [(3, .int (nI i)), (2, .ref (b0 + 74)), (1, .ref (b0 + 0)), (0, .ref b)] []) : gV l b0 D K (n, κ, X, Y, Z, cs, ss) 239 [(3, .int (nI i)), (2, .ref (b0 + 74)), (1, .ref (b0 + 0)), (0, .ref b)] [] := by
  obtain ⟨r, n1, κ1, X1, Y1, Z1, n2, κ2, X2, Y2, Z2, ⟨fr, lo, mc, ms, f1, f2, f3, f4, mC⟩, ⟨hL1, fr2, lo2, mc2, ms2, g1, g2, g3, g4, mR⟩, hI2⟩ := k_end (Y := Y) (b0 := b0) (D := D) l hI (xs (i + 1))
  refine g_aload_n hC 2 dL_law_239 rfl rfl ?_
  refine law_arg hC hS (j := 1) hi hL ic_1 (by omega) dL_law_240 dL_law_241 dL_law_242 dL_law_243 dL_law_244 ?_
  refine g_callV_i (a := 0) hC (n' := n1) (κ' := κ1) (X' := X1) (Y' := Y1) (Z' := Z1) (As := [.int (xs (i + 1))]) (rest := []) mC tw_509 tw_506 tw_116 tw_507 tw_508 (ci := 11) rfl (by decide) (kk_0 hI.1.1) (kn_0 hI.1.1) pd_X11_end ⟨by omega, by omega⟩ ⟨by omega, by omega⟩ rfl rfl (Nat.le_of_ble_eq_true rfl) rfl dL_law_245 ?_
  refine g_aload_n hC 1 dL_law_248 rfl rfl ?_
  refine law_arg hC hS (j := 1) hi hL ic_1 (by omega) dL_law_249 dL_law_250 dL_law_251 dL_law_252 dL_law_253 ?_
  refine g_callV_i (a := 74) hC (n' := n2) (κ' := κ2) (X' := X2) (Y' := Y2) (Z' := Z2) (As := [.int (xs (i + 1))]) (rest := [.int r]) mR tw_1360 tw_1357 tw_127 tw_1358 tw_1359 (ci := 12) rfl (by decide) (kk_74 hL1) (kn_74 hL1) pd_X12_end ⟨by omega, by omega⟩ ⟨by omega, by omega⟩ rfl rfl (Nat.le_of_ble_eq_true rfl) rfl dL_law_254 ?_
  refine g_icmp_eq hC 1162 dL_law_257 (by decide) (fun _ => ?_) (fun hne => absurd rfl hne)
  exact g_widen (by omega) (by omega) (k n2 κ2 X2 Y2 Z2 hI2)
theorem law_2 (hC : gC l b0 D K RL cL_law ret 4 2048 84000 600000 7302250) (hS : gSc b0 K b L xs) {i cs ss : Nat} (hi : i + 6 ≤ L) (hL : L ≤ 3072) (hcs : cs + 350 ≤ 600000) (hss : ss + 4692 ≤ 7302250) (hI : INV n κ X Z) (k : ∀ n κ X Y Z, INV n κ X Z → gV l b0 D K (n, κ, X, Y, Z, cs + 350, ss + 4692) 1162 [(3, .int (nI i)), (2, .ref (b0 + 74)), (1, .ref (b0 + 0)), (0, .ref b)] []) : gV l b0 D K (n, κ, X, Y, Z, cs, ss) 262 [(3, .int (nI i)), (2, .ref (b0 + 74)), (1, .ref (b0 + 0)), (0, .ref b)] [] := by
  obtain ⟨r, n1, κ1, X1, Y1, Z1, n2, κ2, X2, Y2, Z2, ⟨fr, lo, mc, ms, f1, f2, f3, f4, mC⟩, ⟨hL1, fr2, lo2, mc2, ms2, g1, g2, g3, g4, mR⟩, hI2⟩ := k_town (Y := Y) (b0 := b0) (D := D) l hI 
  refine g_aload_n hC 2 dL_law_262 rfl rfl ?_
  refine g_callV_i (a := 0) hC (n' := n1) (κ' := κ1) (X' := X1) (Y' := Y1) (Z' := Z1) (As := []) (rest := []) mC tw_513 tw_510 tw_116 tw_511 tw_512 (ci := 11) rfl (by decide) (kk_0 hI.1.1) (kn_0 hI.1.1) pd_X11_town ⟨by omega, by omega⟩ ⟨by omega, by omega⟩ rfl rfl (Nat.le_of_ble_eq_true rfl) rfl dL_law_263 ?_
  refine g_aload_n hC 1 dL_law_266 rfl rfl ?_
  refine g_callV_i (a := 74) hC (n' := n2) (κ' := κ2) (X' := X2) (Y' := Y2) (Z' := Z2) (As := []) (rest := [.int r]) mR tw_1364 tw_1361 tw_127 tw_1362 tw_1363 (ci := 12) rfl (by decide) (kk_74 hL1) (kn_74 hL1) pd_X12_town ⟨by omega, by omega⟩ ⟨by omega, by omega⟩ rfl rfl (Nat.le_of_ble_eq_true rfl) rfl dL_law_267 ?_
  refine g_icmp_eq hC 1162 dL_law_270 (by decide) (fun _ => ?_) (fun hne => absurd rfl hne)
  exact g_widen (by omega) (by omega) (k n2 κ2 X2 Y2 Z2 hI2)
theorem law_3 (hC : gC l b0 D K RL cL_law ret 4 2048 84000 600000 7302250) (hS : gSc b0 K b L xs) {i cs ss : Nat} (hi : i + 6 ≤ L) (hL : L ≤ 3072) (hcs : cs + 350 ≤ 600000) (hss : ss + 4692 ≤ 7302250) (hI : INV n κ X Z) (k : ∀ n κ X Y Z, INV n κ X Z → gV l b0 D K (n, κ, X, Y, Z, cs + 350, ss + 4692) 1162 [(3, .int (nI i)), (2, .ref (b0 + 74)), (1, .ref (b0 + 0)), (0, .ref b)] []) : gV l b0 D K (n, κ, X, Y, Z, cs, ss) 275 [(3, .int (nI i)), (2, .ref (b0 + 74)), (1, .ref (b0 + 0)), (0, .ref b)] [] := by
  obtain ⟨r, n1, κ1, X1, Y1, Z1, n2, κ2, X2, Y2, Z2, ⟨fr, lo, mc, ms, f1, f2, f3, f4, mC⟩, ⟨hL1, fr2, lo2, mc2, ms2, g1, g2, g3, g4, mR⟩, hI2⟩ := k_rule (Y := Y) (b0 := b0) (D := D) l hI 
  refine g_aload_n hC 2 dL_law_275 rfl rfl ?_
  refine g_callV_i (a := 0) hC (n' := n1) (κ' := κ1) (X' := X1) (Y' := Y1) (Z' := Z1) (As := []) (rest := []) mC tw_713 tw_710 tw_116 tw_711 tw_712 (ci := 11) rfl (by decide) (kk_0 hI.1.1) (kn_0 hI.1.1) pd_X11_rule ⟨by omega, by omega⟩ ⟨by omega, by omega⟩ rfl rfl (Nat.le_of_ble_eq_true rfl) rfl dL_law_276 ?_
  refine g_aload_n hC 1 dL_law_279 rfl rfl ?_
  refine g_callV_i (a := 74) hC (n' := n2) (κ' := κ2) (X' := X2) (Y' := Y2) (Z' := Z2) (As := []) (rest := [.int r]) mR tw_1447 tw_1444 tw_127 tw_1445 tw_1446 (ci := 12) rfl (by decide) (kk_74 hL1) (kn_74 hL1) pd_X12_rule ⟨by omega, by omega⟩ ⟨by omega, by omega⟩ rfl rfl (Nat.le_of_ble_eq_true rfl) rfl dL_law_280 ?_
  refine g_icmp_eq hC 1162 dL_law_283 (by decide) (fun _ => ?_) (fun hne => absurd rfl hne)
  exact g_widen (by omega) (by omega) (k n2 κ2 X2 Y2 Z2 hI2)
theorem law_4 (hC : gC l b0 D K RL cL_law ret 4 2048 84000 600000 7302250) (hS : gSc b0 K b L xs) {i cs ss : Nat} (hi : i + 6 ≤ L) (hL : L ≤ 3072) (hcs : cs + 350 ≤ 600000) (hss : ss + 4692 ≤ 7302250) (hI : INV n κ X Z) (k : ∀ n κ X Y Z, INV n κ X Z → gV l b0 D K (n, κ, X, Y, Z, cs + 350, ss + 4692) 1162 [(3, .int (nI i)), (2, .ref (b0 + 74)), (1, .ref (b0 + 0)), (0, .ref b)] []) : gV l b0 D K (n, κ, X, Y, Z, cs, ss) 288 [(3, .int (nI i)), (2, .ref (b0 + 74)), (1, .ref (b0 + 0)), (0, .ref b)] [] := by
  obtain ⟨r, n1, κ1, X1, Y1, Z1, n2, κ2, X2, Y2, Z2, ⟨fr, lo, mc, ms, f1, f2, f3, f4, mC⟩, ⟨hL1, fr2, lo2, mc2, ms2, g1, g2, g3, g4, mR⟩, hI2⟩ := k_force (Y := Y) (b0 := b0) (D := D) l hI (xs (i + 1))
  refine g_aload_n hC 2 dL_law_288 rfl rfl ?_
  refine law_arg hC hS (j := 1) hi hL ic_1 (by omega) dL_law_289 dL_law_290 dL_law_291 dL_law_292 dL_law_293 ?_
  refine g_callV_i (a := 0) hC (n' := n1) (κ' := κ1) (X' := X1) (Y' := Y1) (Z' := Z1) (As := [.int (xs (i + 1))]) (rest := []) mC tw_782 tw_779 tw_116 tw_780 tw_781 (ci := 11) rfl (by decide) (kk_0 hI.1.1) (kn_0 hI.1.1) pd_X11_force ⟨by omega, by omega⟩ ⟨by omega, by omega⟩ rfl rfl (Nat.le_of_ble_eq_true rfl) rfl dL_law_294 ?_
  refine g_aload_n hC 1 dL_law_297 rfl rfl ?_
  refine law_arg hC hS (j := 1) hi hL ic_1 (by omega) dL_law_298 dL_law_299 dL_law_300 dL_law_301 dL_law_302 ?_
  refine g_callV_i (a := 74) hC (n' := n2) (κ' := κ2) (X' := X2) (Y' := Y2) (Z' := Z2) (As := [.int (xs (i + 1))]) (rest := [.int r]) mR tw_1521 tw_1518 tw_127 tw_1519 tw_1520 (ci := 12) rfl (by decide) (kk_74 hL1) (kn_74 hL1) pd_X12_force ⟨by omega, by omega⟩ ⟨by omega, by omega⟩ rfl rfl (Nat.le_of_ble_eq_true rfl) rfl dL_law_303 ?_
  refine g_icmp_eq hC 1162 dL_law_306 (by decide) (fun _ => ?_) (fun hne => absurd rfl hne)
  exact g_widen (by omega) (by omega) (k n2 κ2 X2 Y2 Z2 hI2)
theorem law_5 (hC : gC l b0 D K RL cL_law ret 4 2048 84000 600000 7302250) (hS : gSc b0 K b L xs) {i cs ss : Nat} (hi : i + 6 ≤ L) (hL : L ≤ 3072) (hcs : cs + 350 ≤ 600000) (hss : ss + 4692 ≤ 7302250) (hI : INV n κ X Z) (k : ∀ n κ X Y Z, INV n κ X Z → gV l b0 D K (n, κ, X, Y, Z, cs + 350, ss + 4692) 1162 [(3, .int (nI i)), (2, .ref (b0 + 74)), (1, .ref (b0 + 0)), (0, .ref b)] []) : gV l b0 D K (n, κ, X, Y, Z, cs, ss) 311 [(3, .int (nI i)), (2, .ref (b0 + 74)), (1, .ref (b0 + 0)), (0, .ref b)] [] := by
  obtain ⟨r, n1, κ1, X1, Y1, Z1, n2, κ2, X2, Y2, Z2, ⟨fr, lo, mc, ms, f1, f2, f3, f4, mC⟩, ⟨hL1, fr2, lo2, mc2, ms2, g1, g2, g3, g4, mR⟩, hI2⟩ := k_house (Y := Y) (b0 := b0) (D := D) l hI (xs (i + 1)) (xs (i + 2))
  refine g_aload_n hC 2 dL_law_311 rfl rfl ?_
  refine law_arg hC hS (j := 1) hi hL ic_1 (by omega) dL_law_312 dL_law_313 dL_law_314 dL_law_315 dL_law_316 ?_
  refine law_arg hC hS (j := 2) hi hL ic_2 (by omega) dL_law_317 dL_law_318 dL_law_319 dL_law_320 dL_law_321 ?_
  refine g_callV_i (a := 0) hC (n' := n1) (κ' := κ1) (X' := X1) (Y' := Y1) (Z' := Z1) (As := [.int (xs (i + 1)), .int (xs (i + 2))]) (rest := []) mC tw_786 tw_783 tw_116 tw_784 tw_785 (ci := 11) rfl (by decide) (kk_0 hI.1.1) (kn_0 hI.1.1) pd_X11_house ⟨by omega, by omega⟩ ⟨by omega, by omega⟩ rfl rfl (Nat.le_of_ble_eq_true rfl) rfl dL_law_322 ?_
  refine g_aload_n hC 1 dL_law_325 rfl rfl ?_
  refine law_arg hC hS (j := 1) hi hL ic_1 (by omega) dL_law_326 dL_law_327 dL_law_328 dL_law_329 dL_law_330 ?_
  refine law_arg hC hS (j := 2) hi hL ic_2 (by omega) dL_law_331 dL_law_332 dL_law_333 dL_law_334 dL_law_335 ?_
  refine g_callV_i (a := 74) hC (n' := n2) (κ' := κ2) (X' := X2) (Y' := Y2) (Z' := Z2) (As := [.int (xs (i + 1)), .int (xs (i + 2))]) (rest := [.int r]) mR tw_1526 tw_1523 tw_127 tw_1524 tw_1525 (ci := 12) rfl (by decide) (kk_74 hL1) (kn_74 hL1) pd_X12_house ⟨by omega, by omega⟩ ⟨by omega, by omega⟩ rfl rfl (Nat.le_of_ble_eq_true rfl) rfl dL_law_336 ?_
  refine g_icmp_eq hC 1162 dL_law_339 (by decide) (fun _ => ?_) (fun hne => absurd rfl hne)
  exact g_widen (by omega) (by omega) (k n2 κ2 X2 Y2 Z2 hI2)
theorem law_6 (hC : gC l b0 D K RL cL_law ret 4 2048 84000 600000 7302250) (hS : gSc b0 K b L xs) {i cs ss : Nat} (hi : i + 6 ≤ L) (hL : L ≤ 3072) (hcs : cs + 350 ≤ 600000) (hss : ss + 4692 ≤ 7302250) (hI : INV n κ X Z) (k : ∀ n κ X Y Z, INV n κ X Z → gV l b0 D K (n, κ, X, Y, Z, cs + 350, ss + 4692) 1162 [(3, .int (nI i)), (2, .ref (b0 + 74)), (1, .ref (b0 + 0)), (0, .ref b)] []) : gV l b0 D K (n, κ, X, Y, Z, cs, ss) 344 [(3, .int (nI i)), (2, .ref (b0 + 74)), (1, .ref (b0 + 0)), (0, .ref b)] [] := by
  obtain ⟨r, n1, κ1, X1, Y1, Z1, n2, κ2, X2, Y2, Z2, ⟨fr, lo, mc, ms, f1, f2, f3, f4, mC⟩, ⟨hL1, fr2, lo2, mc2, ms2, g1, g2, g3, g4, mR⟩, hI2⟩ := k_pourOf (Y := Y) (b0 := b0) (D := D) l hI (xs (i + 1)) (xs (i + 2))
  refine g_aload_n hC 2 dL_law_344 rfl rfl ?_
  refine law_arg hC hS (j := 1) hi hL ic_1 (by omega) dL_law_345 dL_law_346 dL_law_347 dL_law_348 dL_law_349 ?_
  refine law_arg hC hS (j := 2) hi hL ic_2 (by omega) dL_law_350 dL_law_351 dL_law_352 dL_law_353 dL_law_354 ?_
  refine g_callV_i (a := 0) hC (n' := n1) (κ' := κ1) (X' := X1) (Y' := Y1) (Z' := Z1) (As := [.int (xs (i + 1)), .int (xs (i + 2))]) (rest := []) mC tw_837 tw_834 tw_116 tw_835 tw_836 (ci := 11) rfl (by decide) (kk_0 hI.1.1) (kn_0 hI.1.1) pd_X11_pourOf ⟨by omega, by omega⟩ ⟨by omega, by omega⟩ rfl rfl (Nat.le_of_ble_eq_true rfl) rfl dL_law_355 ?_
  refine g_aload_n hC 1 dL_law_358 rfl rfl ?_
  refine law_arg hC hS (j := 1) hi hL ic_1 (by omega) dL_law_359 dL_law_360 dL_law_361 dL_law_362 dL_law_363 ?_
  refine law_arg hC hS (j := 2) hi hL ic_2 (by omega) dL_law_364 dL_law_365 dL_law_366 dL_law_367 dL_law_368 ?_
  refine g_callV_i (a := 74) hC (n' := n2) (κ' := κ2) (X' := X2) (Y' := Y2) (Z' := Z2) (As := [.int (xs (i + 1)), .int (xs (i + 2))]) (rest := [.int r]) mR tw_1557 tw_1554 tw_127 tw_1555 tw_1556 (ci := 12) rfl (by decide) (kk_74 hL1) (kn_74 hL1) pd_X12_pourOf ⟨by omega, by omega⟩ ⟨by omega, by omega⟩ rfl rfl (Nat.le_of_ble_eq_true rfl) rfl dL_law_369 ?_
  refine g_icmp_eq hC 1162 dL_law_372 (by decide) (fun _ => ?_) (fun hne => absurd rfl hne)
  exact g_widen (by omega) (by omega) (k n2 κ2 X2 Y2 Z2 hI2)
theorem law_7 (hC : gC l b0 D K RL cL_law ret 4 2048 84000 600000 7302250) (hS : gSc b0 K b L xs) {i cs ss : Nat} (hi : i + 6 ≤ L) (hL : L ≤ 3072) (hcs : cs + 350 ≤ 600000) (hss : ss + 4692 ≤ 7302250) (hI : INV n κ X Z) (k : ∀ n κ X Y Z, INV n κ X Z → gV l b0 D K (n, κ, X, Y, Z, cs + 350, ss + 4692) 1162 [(3, .int (nI i)), (2, .ref (b0 + 74)), (1, .ref (b0 + 0)), (0, .ref b)] []) : gV l b0 D K (n, κ, X, Y, Z, cs, ss) 377 [(3, .int (nI i)), (2, .ref (b0 + 74)), (1, .ref (b0 + 0)), (0, .ref b)] [] := by
  obtain ⟨r, n1, κ1, X1, Y1, Z1, n2, κ2, X2, Y2, Z2, ⟨fr, lo, mc, ms, f1, f2, f3, f4, mC⟩, ⟨hL1, fr2, lo2, mc2, ms2, g1, g2, g3, g4, mR⟩, hI2⟩ := k_day (Y := Y) (b0 := b0) (D := D) l hI 
  refine g_aload_n hC 2 dL_law_377 rfl rfl ?_
  refine g_callV_i (a := 0) hC (n' := n1) (κ' := κ1) (X' := X1) (Y' := Y1) (Z' := Z1) (As := []) (rest := []) mC tw_849 tw_846 tw_116 tw_847 tw_848 (ci := 11) rfl (by decide) (kk_0 hI.1.1) (kn_0 hI.1.1) pd_X11_day ⟨by omega, by omega⟩ ⟨by omega, by omega⟩ rfl rfl (Nat.le_of_ble_eq_true rfl) rfl dL_law_378 ?_
  refine g_aload_n hC 1 dL_law_381 rfl rfl ?_
  refine g_callV_i (a := 74) hC (n' := n2) (κ' := κ2) (X' := X2) (Y' := Y2) (Z' := Z2) (As := []) (rest := [.int r]) mR tw_1581 tw_1578 tw_127 tw_1579 tw_1580 (ci := 12) rfl (by decide) (kk_74 hL1) (kn_74 hL1) pd_X12_day ⟨by omega, by omega⟩ ⟨by omega, by omega⟩ rfl rfl (Nat.le_of_ble_eq_true rfl) rfl dL_law_382 ?_
  refine g_icmp_eq hC 1162 dL_law_385 (by decide) (fun _ => ?_) (fun hne => absurd rfl hne)
  exact g_widen (by omega) (by omega) (k n2 κ2 X2 Y2 Z2 hI2)
theorem law_8 (hC : gC l b0 D K RL cL_law ret 4 2048 84000 600000 7302250) (hS : gSc b0 K b L xs) {i cs ss : Nat} (hi : i + 6 ≤ L) (hL : L ≤ 3072) (hcs : cs + 350 ≤ 600000) (hss : ss + 4692 ≤ 7302250) (hI : INV n κ X Z) (k : ∀ n κ X Y Z, INV n κ X Z → gV l b0 D K (n, κ, X, Y, Z, cs + 350, ss + 4692) 1162 [(3, .int (nI i)), (2, .ref (b0 + 74)), (1, .ref (b0 + 0)), (0, .ref b)] []) : gV l b0 D K (n, κ, X, Y, Z, cs, ss) 390 [(3, .int (nI i)), (2, .ref (b0 + 74)), (1, .ref (b0 + 0)), (0, .ref b)] [] := by
  obtain ⟨r, n1, κ1, X1, Y1, Z1, n2, κ2, X2, Y2, Z2, ⟨fr, lo, mc, ms, f1, f2, f3, f4, mC⟩, ⟨hL1, fr2, lo2, mc2, ms2, g1, g2, g3, g4, mR⟩, hI2⟩ := k_crack (Y := Y) (b0 := b0) (D := D) l hI (xs (i + 1)) (xs (i + 2))
  refine g_aload_n hC 2 dL_law_390 rfl rfl ?_
  refine law_arg hC hS (j := 1) hi hL ic_1 (by omega) dL_law_391 dL_law_392 dL_law_393 dL_law_394 dL_law_395 ?_
  refine law_arg hC hS (j := 2) hi hL ic_2 (by omega) dL_law_396 dL_law_397 dL_law_398 dL_law_399 dL_law_400 ?_
  refine g_callV_i (a := 0) hC (n' := n1) (κ' := κ1) (X' := X1) (Y' := Y1) (Z' := Z1) (As := [.int (xs (i + 1)), .int (xs (i + 2))]) (rest := []) mC tw_945 tw_942 tw_116 tw_943 tw_944 (ci := 11) rfl (by decide) (kk_0 hI.1.1) (kn_0 hI.1.1) pd_X11_crack ⟨by omega, by omega⟩ ⟨by omega, by omega⟩ rfl rfl (Nat.le_of_ble_eq_true rfl) rfl dL_law_401 ?_
  refine g_aload_n hC 1 dL_law_404 rfl rfl ?_
  refine law_arg hC hS (j := 1) hi hL ic_1 (by omega) dL_law_405 dL_law_406 dL_law_407 dL_law_408 dL_law_409 ?_
  refine law_arg hC hS (j := 2) hi hL ic_2 (by omega) dL_law_410 dL_law_411 dL_law_412 dL_law_413 dL_law_414 ?_
  refine g_callV_i (a := 74) hC (n' := n2) (κ' := κ2) (X' := X2) (Y' := Y2) (Z' := Z2) (As := [.int (xs (i + 1)), .int (xs (i + 2))]) (rest := [.int r]) mR tw_1646 tw_1643 tw_127 tw_1644 tw_1645 (ci := 12) rfl (by decide) (kk_74 hL1) (kn_74 hL1) pd_X12_crack ⟨by omega, by omega⟩ ⟨by omega, by omega⟩ rfl rfl (Nat.le_of_ble_eq_true rfl) rfl dL_law_415 ?_
  refine g_icmp_eq hC 1162 dL_law_418 (by decide) (fun _ => ?_) (fun hne => absurd rfl hne)
  exact g_widen (by omega) (by omega) (k n2 κ2 X2 Y2 Z2 hI2)
theorem law_9 (hC : gC l b0 D K RL cL_law ret 4 2048 84000 600000 7302250) (hS : gSc b0 K b L xs) {i cs ss : Nat} (hi : i + 6 ≤ L) (hL : L ≤ 3072) (hcs : cs + 350 ≤ 600000) (hss : ss + 4692 ≤ 7302250) (hI : INV n κ X Z) (k : ∀ n κ X Y Z, INV n κ X Z → gV l b0 D K (n, κ, X, Y, Z, cs + 350, ss + 4692) 1162 [(3, .int (nI i)), (2, .ref (b0 + 74)), (1, .ref (b0 + 0)), (0, .ref b)] []) : gV l b0 D K (n, κ, X, Y, Z, cs, ss) 423 [(3, .int (nI i)), (2, .ref (b0 + 74)), (1, .ref (b0 + 0)), (0, .ref b)] [] := by
  obtain ⟨r, n1, κ1, X1, Y1, Z1, n2, κ2, X2, Y2, Z2, ⟨fr, lo, mc, ms, f1, f2, f3, f4, mC⟩, ⟨hL1, fr2, lo2, mc2, ms2, g1, g2, g3, g4, mR⟩, hI2⟩ := k_pour (Y := Y) (b0 := b0) (D := D) l hI (xs (i + 1)) (xs (i + 2)) (xs (i + 3))
  refine g_aload_n hC 2 dL_law_423 rfl rfl ?_
  refine law_arg hC hS (j := 1) hi hL ic_1 (by omega) dL_law_424 dL_law_425 dL_law_426 dL_law_427 dL_law_428 ?_
  refine law_arg hC hS (j := 2) hi hL ic_2 (by omega) dL_law_429 dL_law_430 dL_law_431 dL_law_432 dL_law_433 ?_
  refine law_arg hC hS (j := 3) hi hL ic_3 (by omega) dL_law_434 dL_law_435 dL_law_436 dL_law_437 dL_law_438 ?_
  refine g_callV_i (a := 0) hC (n' := n1) (κ' := κ1) (X' := X1) (Y' := Y1) (Z' := Z1) (As := [.int (xs (i + 1)), .int (xs (i + 2)), .int (xs (i + 3))]) (rest := []) mC tw_950 tw_947 tw_116 tw_948 tw_949 (ci := 11) rfl (by decide) (kk_0 hI.1.1) (kn_0 hI.1.1) pd_X11_pour ⟨by omega, by omega⟩ ⟨by omega, by omega⟩ rfl rfl (Nat.le_of_ble_eq_true rfl) rfl dL_law_439 ?_
  refine g_aload_n hC 1 dL_law_442 rfl rfl ?_
  refine law_arg hC hS (j := 1) hi hL ic_1 (by omega) dL_law_443 dL_law_444 dL_law_445 dL_law_446 dL_law_447 ?_
  refine law_arg hC hS (j := 2) hi hL ic_2 (by omega) dL_law_448 dL_law_449 dL_law_450 dL_law_451 dL_law_452 ?_
  refine law_arg hC hS (j := 3) hi hL ic_3 (by omega) dL_law_453 dL_law_454 dL_law_455 dL_law_456 dL_law_457 ?_
  refine g_callV_i (a := 74) hC (n' := n2) (κ' := κ2) (X' := X2) (Y' := Y2) (Z' := Z2) (As := [.int (xs (i + 1)), .int (xs (i + 2)), .int (xs (i + 3))]) (rest := [.int r]) mR tw_1650 tw_1647 tw_127 tw_1648 tw_1649 (ci := 12) rfl (by decide) (kk_74 hL1) (kn_74 hL1) pd_X12_pour ⟨by omega, by omega⟩ ⟨by omega, by omega⟩ rfl rfl (Nat.le_of_ble_eq_true rfl) rfl dL_law_458 ?_
  refine g_icmp_eq hC 1162 dL_law_461 (by decide) (fun _ => ?_) (fun hne => absurd rfl hne)
  exact g_widen (by omega) (by omega) (k n2 κ2 X2 Y2 Z2 hI2)
theorem law_10 (hC : gC l b0 D K RL cL_law ret 4 2048 84000 600000 7302250) (hS : gSc b0 K b L xs) {i cs ss : Nat} (hi : i + 6 ≤ L) (hL : L ≤ 3072) (hcs : cs + 350 ≤ 600000) (hss : ss + 4692 ≤ 7302250) (hI : INV n κ X Z) (k : ∀ n κ X Y Z, INV n κ X Z → gV l b0 D K (n, κ, X, Y, Z, cs + 350, ss + 4692) 1162 [(3, .int (nI i)), (2, .ref (b0 + 74)), (1, .ref (b0 + 0)), (0, .ref b)] []) : gV l b0 D K (n, κ, X, Y, Z, cs, ss) 466 [(3, .int (nI i)), (2, .ref (b0 + 74)), (1, .ref (b0 + 0)), (0, .ref b)] [] := by
  obtain ⟨r, n1, κ1, X1, Y1, Z1, n2, κ2, X2, Y2, Z2, ⟨fr, lo, mc, ms, f1, f2, f3, f4, mC⟩, ⟨hL1, fr2, lo2, mc2, ms2, g1, g2, g3, g4, mR⟩, hI2⟩ := k_rock (Y := Y) (b0 := b0) (D := D) l hI (xs (i + 1)) (xs (i + 2))
  refine g_aload_n hC 2 dL_law_466 rfl rfl ?_
  refine law_arg hC hS (j := 1) hi hL ic_1 (by omega) dL_law_467 dL_law_468 dL_law_469 dL_law_470 dL_law_471 ?_
  refine law_arg hC hS (j := 2) hi hL ic_2 (by omega) dL_law_472 dL_law_473 dL_law_474 dL_law_475 dL_law_476 ?_
  refine g_callV_i (a := 0) hC (n' := n1) (κ' := κ1) (X' := X1) (Y' := Y1) (Z' := Z1) (As := [.int (xs (i + 1)), .int (xs (i + 2))]) (rest := []) mC tw_959 tw_956 tw_116 tw_957 tw_958 (ci := 11) rfl (by decide) (kk_0 hI.1.1) (kn_0 hI.1.1) pd_X11_rock ⟨by omega, by omega⟩ ⟨by omega, by omega⟩ rfl rfl (Nat.le_of_ble_eq_true rfl) rfl dL_law_477 ?_
  refine g_aload_n hC 1 dL_law_480 rfl rfl ?_
  refine law_arg hC hS (j := 1) hi hL ic_1 (by omega) dL_law_481 dL_law_482 dL_law_483 dL_law_484 dL_law_485 ?_
  refine law_arg hC hS (j := 2) hi hL ic_2 (by omega) dL_law_486 dL_law_487 dL_law_488 dL_law_489 dL_law_490 ?_
  refine g_callV_i (a := 74) hC (n' := n2) (κ' := κ2) (X' := X2) (Y' := Y2) (Z' := Z2) (As := [.int (xs (i + 1)), .int (xs (i + 2))]) (rest := [.int r]) mR tw_1659 tw_1656 tw_127 tw_1657 tw_1658 (ci := 12) rfl (by decide) (kk_74 hL1) (kn_74 hL1) pd_X12_rock ⟨by omega, by omega⟩ ⟨by omega, by omega⟩ rfl rfl (Nat.le_of_ble_eq_true rfl) rfl dL_law_491 ?_
  refine g_icmp_eq hC 1162 dL_law_494 (by decide) (fun _ => ?_) (fun hne => absurd rfl hne)
  exact g_widen (by omega) (by omega) (k n2 κ2 X2 Y2 Z2 hI2)
theorem law_11 (hC : gC l b0 D K RL cL_law ret 4 2048 84000 600000 7302250) (hS : gSc b0 K b L xs) {i cs ss : Nat} (hi : i + 6 ≤ L) (hL : L ≤ 3072) (hcs : cs + 350 ≤ 600000) (hss : ss + 4692 ≤ 7302250) (hI : INV n κ X Z) (k : ∀ n κ X Y Z, INV n κ X Z → gV l b0 D K (n, κ, X, Y, Z, cs + 350, ss + 4692) 1162 [(3, .int (nI i)), (2, .ref (b0 + 74)), (1, .ref (b0 + 0)), (0, .ref b)] []) : gV l b0 D K (n, κ, X, Y, Z, cs, ss) 499 [(3, .int (nI i)), (2, .ref (b0 + 74)), (1, .ref (b0 + 0)), (0, .ref b)] [] := by
  obtain ⟨r, n1, κ1, X1, Y1, Z1, n2, κ2, X2, Y2, Z2, ⟨fr, lo, mc, ms, f1, f2, f3, f4, mC⟩, ⟨hL1, fr2, lo2, mc2, ms2, g1, g2, g3, g4, mR⟩, hI2⟩ := k_ice (Y := Y) (b0 := b0) (D := D) l hI (xs (i + 1))
  refine g_aload_n hC 2 dL_law_499 rfl rfl ?_
  refine law_arg hC hS (j := 1) hi hL ic_1 (by omega) dL_law_500 dL_law_501 dL_law_502 dL_law_503 dL_law_504 ?_
  refine g_callV_i (a := 0) hC (n' := n1) (κ' := κ1) (X' := X1) (Y' := Y1) (Z' := Z1) (As := [.int (xs (i + 1))]) (rest := []) mC tw_963 tw_960 tw_116 tw_961 tw_962 (ci := 11) rfl (by decide) (kk_0 hI.1.1) (kn_0 hI.1.1) pd_X11_ice ⟨by omega, by omega⟩ ⟨by omega, by omega⟩ rfl rfl (Nat.le_of_ble_eq_true rfl) rfl dL_law_505 ?_
  refine g_aload_n hC 1 dL_law_508 rfl rfl ?_
  refine law_arg hC hS (j := 1) hi hL ic_1 (by omega) dL_law_509 dL_law_510 dL_law_511 dL_law_512 dL_law_513 ?_
  refine g_callV_i (a := 74) hC (n' := n2) (κ' := κ2) (X' := X2) (Y' := Y2) (Z' := Z2) (As := [.int (xs (i + 1))]) (rest := [.int r]) mR tw_1663 tw_1660 tw_127 tw_1661 tw_1662 (ci := 12) rfl (by decide) (kk_74 hL1) (kn_74 hL1) pd_X12_ice ⟨by omega, by omega⟩ ⟨by omega, by omega⟩ rfl rfl (Nat.le_of_ble_eq_true rfl) rfl dL_law_514 ?_
  refine g_icmp_eq hC 1162 dL_law_517 (by decide) (fun _ => ?_) (fun hne => absurd rfl hne)
  exact g_widen (by omega) (by omega) (k n2 κ2 X2 Y2 Z2 hI2)
theorem law_12 (hC : gC l b0 D K RL cL_law ret 4 2048 84000 600000 7302250) (hS : gSc b0 K b L xs) {i cs ss : Nat} (hi : i + 6 ≤ L) (hL : L ≤ 3072) (hcs : cs + 350 ≤ 600000) (hss : ss + 4692 ≤ 7302250) (hI : INV n κ X Z) (k : ∀ n κ X Y Z, INV n κ X Z → gV l b0 D K (n, κ, X, Y, Z, cs + 350, ss + 4692) 1162 [(3, .int (nI i)), (2, .ref (b0 + 74)), (1, .ref (b0 + 0)), (0, .ref b)] []) : gV l b0 D K (n, κ, X, Y, Z, cs, ss) 522 [(3, .int (nI i)), (2, .ref (b0 + 74)), (1, .ref (b0 + 0)), (0, .ref b)] [] := by
  obtain ⟨r, n1, κ1, X1, Y1, Z1, n2, κ2, X2, Y2, Z2, ⟨fr, lo, mc, ms, f1, f2, f3, f4, mC⟩, ⟨hL1, fr2, lo2, mc2, ms2, g1, g2, g3, g4, mR⟩, hI2⟩ := k_undo (Y := Y) (b0 := b0) (D := D) l hI 
  refine g_aload_n hC 2 dL_law_522 rfl rfl ?_
  refine g_callV_i (a := 0) hC (n' := n1) (κ' := κ1) (X' := X1) (Y' := Y1) (Z' := Z1) (As := []) (rest := []) mC tw_967 tw_964 tw_116 tw_965 tw_966 (ci := 11) rfl (by decide) (kk_0 hI.1.1) (kn_0 hI.1.1) pd_X11_undo ⟨by omega, by omega⟩ ⟨by omega, by omega⟩ rfl rfl (Nat.le_of_ble_eq_true rfl) rfl dL_law_523 ?_
  refine g_aload_n hC 1 dL_law_526 rfl rfl ?_
  refine g_callV_i (a := 74) hC (n' := n2) (κ' := κ2) (X' := X2) (Y' := Y2) (Z' := Z2) (As := []) (rest := [.int r]) mR tw_1565 tw_1562 tw_127 tw_1563 tw_1564 (ci := 12) rfl (by decide) (kk_74 hL1) (kn_74 hL1) pd_X12_undo ⟨by omega, by omega⟩ ⟨by omega, by omega⟩ rfl rfl (Nat.le_of_ble_eq_true rfl) rfl dL_law_527 ?_
  refine g_icmp_eq hC 1162 dL_law_530 (by decide) (fun _ => ?_) (fun hne => absurd rfl hne)
  exact g_widen (by omega) (by omega) (k n2 κ2 X2 Y2 Z2 hI2)
theorem law_13 (hC : gC l b0 D K RL cL_law ret 4 2048 84000 600000 7302250) (hS : gSc b0 K b L xs) {i cs ss : Nat} (hi : i + 6 ≤ L) (hL : L ≤ 3072) (hcs : cs + 350 ≤ 600000) (hss : ss + 4692 ≤ 7302250) (hI : INV n κ X Z) (k : ∀ n κ X Y Z, INV n κ X Z → gV l b0 D K (n, κ, X, Y, Z, cs + 350, ss + 4692) 1162 [(3, .int (nI i)), (2, .ref (b0 + 74)), (1, .ref (b0 + 0)), (0, .ref b)] []) : gV l b0 D K (n, κ, X, Y, Z, cs, ss) 535 [(3, .int (nI i)), (2, .ref (b0 + 74)), (1, .ref (b0 + 0)), (0, .ref b)] [] := by
  obtain ⟨r, n1, κ1, X1, Y1, Z1, n2, κ2, X2, Y2, Z2, ⟨fr, lo, mc, ms, f1, f2, f3, f4, mC⟩, ⟨hL1, fr2, lo2, mc2, ms2, g1, g2, g3, g4, mR⟩, hI2⟩ := k_ahead (Y := Y) (b0 := b0) (D := D) l hI (xs (i + 1)) (xs (i + 2)) (xs (i + 3))
  refine g_aload_n hC 2 dL_law_535 rfl rfl ?_
  refine law_arg hC hS (j := 1) hi hL ic_1 (by omega) dL_law_536 dL_law_537 dL_law_538 dL_law_539 dL_law_540 ?_
  refine law_arg hC hS (j := 2) hi hL ic_2 (by omega) dL_law_541 dL_law_542 dL_law_543 dL_law_544 dL_law_545 ?_
  refine law_arg hC hS (j := 3) hi hL ic_3 (by omega) dL_law_546 dL_law_547 dL_law_548 dL_law_549 dL_law_550 ?_
  refine g_callV_i (a := 0) hC (n' := n1) (κ' := κ1) (X' := X1) (Y' := Y1) (Z' := Z1) (As := [.int (xs (i + 1)), .int (xs (i + 2)), .int (xs (i + 3))]) (rest := []) mC tw_975 tw_972 tw_116 tw_973 tw_974 (ci := 11) rfl (by decide) (kk_0 hI.1.1) (kn_0 hI.1.1) pd_X11_ahead ⟨by omega, by omega⟩ ⟨by omega, by omega⟩ rfl rfl (Nat.le_of_ble_eq_true rfl) rfl dL_law_551 ?_
  refine g_aload_n hC 1 dL_law_554 rfl rfl ?_
  refine law_arg hC hS (j := 1) hi hL ic_1 (by omega) dL_law_555 dL_law_556 dL_law_557 dL_law_558 dL_law_559 ?_
  refine law_arg hC hS (j := 2) hi hL ic_2 (by omega) dL_law_560 dL_law_561 dL_law_562 dL_law_563 dL_law_564 ?_
  refine law_arg hC hS (j := 3) hi hL ic_3 (by omega) dL_law_565 dL_law_566 dL_law_567 dL_law_568 dL_law_569 ?_
  refine g_callV_i (a := 74) hC (n' := n2) (κ' := κ2) (X' := X2) (Y' := Y2) (Z' := Z2) (As := [.int (xs (i + 1)), .int (xs (i + 2)), .int (xs (i + 3))]) (rest := [.int r]) mR tw_1667 tw_1664 tw_127 tw_1665 tw_1666 (ci := 12) rfl (by decide) (kk_74 hL1) (kn_74 hL1) pd_X12_ahead ⟨by omega, by omega⟩ ⟨by omega, by omega⟩ rfl rfl (Nat.le_of_ble_eq_true rfl) rfl dL_law_570 ?_
  refine g_icmp_eq hC 1162 dL_law_573 (by decide) (fun _ => ?_) (fun hne => absurd rfl hne)
  exact g_widen (by omega) (by omega) (k n2 κ2 X2 Y2 Z2 hI2)
theorem law_14 (hC : gC l b0 D K RL cL_law ret 4 2048 84000 600000 7302250) (hS : gSc b0 K b L xs) {i cs ss : Nat} (hi : i + 6 ≤ L) (hL : L ≤ 3072) (hcs : cs + 350 ≤ 600000) (hss : ss + 4692 ≤ 7302250) (hI : INV n κ X Z) (k : ∀ n κ X Y Z, INV n κ X Z → gV l b0 D K (n, κ, X, Y, Z, cs + 350, ss + 4692) 1162 [(3, .int (nI i)), (2, .ref (b0 + 74)), (1, .ref (b0 + 0)), (0, .ref b)] []) : gV l b0 D K (n, κ, X, Y, Z, cs, ss) 578 [(3, .int (nI i)), (2, .ref (b0 + 74)), (1, .ref (b0 + 0)), (0, .ref b)] [] := by
  obtain ⟨r, n1, κ1, X1, Y1, Z1, n2, κ2, X2, Y2, Z2, ⟨fr, lo, mc, ms, f1, f2, f3, f4, mC⟩, ⟨hL1, fr2, lo2, mc2, ms2, g1, g2, g3, g4, mR⟩, hI2⟩ := k_down (Y := Y) (b0 := b0) (D := D) l hI (xs (i + 1))
  refine g_aload_n hC 2 dL_law_578 rfl rfl ?_
  refine law_arg hC hS (j := 1) hi hL ic_1 (by omega) dL_law_579 dL_law_580 dL_law_581 dL_law_582 dL_law_583 ?_
  refine g_callV_i (a := 0) hC (n' := n1) (κ' := κ1) (X' := X1) (Y' := Y1) (Z' := Z1) (As := [.int (xs (i + 1))]) (rest := []) mC tw_988 tw_985 tw_116 tw_986 tw_987 (ci := 11) rfl (by decide) (kk_0 hI.1.1) (kn_0 hI.1.1) pd_X11_down ⟨by omega, by omega⟩ ⟨by omega, by omega⟩ rfl rfl (Nat.le_of_ble_eq_true rfl) rfl dL_law_584 ?_
  refine g_aload_n hC 1 dL_law_587 rfl rfl ?_
  refine law_arg hC hS (j := 1) hi hL ic_1 (by omega) dL_law_588 dL_law_589 dL_law_590 dL_law_591 dL_law_592 ?_
  refine g_callV_i (a := 74) hC (n' := n2) (κ' := κ2) (X' := X2) (Y' := Y2) (Z' := Z2) (As := [.int (xs (i + 1))]) (rest := [.int r]) mR tw_1697 tw_1694 tw_127 tw_1695 tw_1696 (ci := 12) rfl (by decide) (kk_74 hL1) (kn_74 hL1) pd_X12_down ⟨by omega, by omega⟩ ⟨by omega, by omega⟩ rfl rfl (Nat.le_of_ble_eq_true rfl) rfl dL_law_593 ?_
  refine g_icmp_eq hC 1162 dL_law_596 (by decide) (fun _ => ?_) (fun hne => absurd rfl hne)
  exact g_widen (by omega) (by omega) (k n2 κ2 X2 Y2 Z2 hI2)
theorem law_15 (hC : gC l b0 D K RL cL_law ret 4 2048 84000 600000 7302250) (hS : gSc b0 K b L xs) {i cs ss : Nat} (hi : i + 6 ≤ L) (hL : L ≤ 3072) (hcs : cs + 350 ≤ 600000) (hss : ss + 4692 ≤ 7302250) (hI : INV n κ X Z) (k : ∀ n κ X Y Z, INV n κ X Z → gV l b0 D K (n, κ, X, Y, Z, cs + 350, ss + 4692) 1162 [(3, .int (nI i)), (2, .ref (b0 + 74)), (1, .ref (b0 + 0)), (0, .ref b)] []) : gV l b0 D K (n, κ, X, Y, Z, cs, ss) 601 [(3, .int (nI i)), (2, .ref (b0 + 74)), (1, .ref (b0 + 0)), (0, .ref b)] [] := by
  obtain ⟨r, n1, κ1, X1, Y1, Z1, n2, κ2, X2, Y2, Z2, ⟨fr, lo, mc, ms, f1, f2, f3, f4, mC⟩, ⟨hL1, fr2, lo2, mc2, ms2, g1, g2, g3, g4, mR⟩, hI2⟩ := k_part (Y := Y) (b0 := b0) (D := D) l hI (xs (i + 1)) (xs (i + 2)) (xs (i + 3))
  refine g_aload_n hC 2 dL_law_601 rfl rfl ?_
  refine law_arg hC hS (j := 1) hi hL ic_1 (by omega) dL_law_602 dL_law_603 dL_law_604 dL_law_605 dL_law_606 ?_
  refine law_arg hC hS (j := 2) hi hL ic_2 (by omega) dL_law_607 dL_law_608 dL_law_609 dL_law_610 dL_law_611 ?_
  refine law_arg hC hS (j := 3) hi hL ic_3 (by omega) dL_law_612 dL_law_613 dL_law_614 dL_law_615 dL_law_616 ?_
  refine g_callV_i (a := 0) hC (n' := n1) (κ' := κ1) (X' := X1) (Y' := Y1) (Z' := Z1) (As := [.int (xs (i + 1)), .int (xs (i + 2)), .int (xs (i + 3))]) (rest := []) mC tw_997 tw_994 tw_116 tw_995 tw_996 (ci := 11) rfl (by decide) (kk_0 hI.1.1) (kn_0 hI.1.1) pd_X11_part ⟨by omega, by omega⟩ ⟨by omega, by omega⟩ rfl rfl (Nat.le_of_ble_eq_true rfl) rfl dL_law_617 ?_
  refine g_aload_n hC 1 dL_law_620 rfl rfl ?_
  refine law_arg hC hS (j := 1) hi hL ic_1 (by omega) dL_law_621 dL_law_622 dL_law_623 dL_law_624 dL_law_625 ?_
  refine law_arg hC hS (j := 2) hi hL ic_2 (by omega) dL_law_626 dL_law_627 dL_law_628 dL_law_629 dL_law_630 ?_
  refine law_arg hC hS (j := 3) hi hL ic_3 (by omega) dL_law_631 dL_law_632 dL_law_633 dL_law_634 dL_law_635 ?_
  refine g_callV_i (a := 74) hC (n' := n2) (κ' := κ2) (X' := X2) (Y' := Y2) (Z' := Z2) (As := [.int (xs (i + 1)), .int (xs (i + 2)), .int (xs (i + 3))]) (rest := [.int r]) mR tw_1705 tw_1702 tw_127 tw_1703 tw_1704 (ci := 12) rfl (by decide) (kk_74 hL1) (kn_74 hL1) pd_X12_part ⟨by omega, by omega⟩ ⟨by omega, by omega⟩ rfl rfl (Nat.le_of_ble_eq_true rfl) rfl dL_law_636 ?_
  refine g_icmp_eq hC 1162 dL_law_639 (by decide) (fun _ => ?_) (fun hne => absurd rfl hne)
  exact g_widen (by omega) (by omega) (k n2 κ2 X2 Y2 Z2 hI2)
theorem law_16 (hC : gC l b0 D K RL cL_law ret 4 2048 84000 600000 7302250) (hS : gSc b0 K b L xs) {i cs ss : Nat} (hi : i + 6 ≤ L) (hL : L ≤ 3072) (hcs : cs + 350 ≤ 600000) (hss : ss + 4692 ≤ 7302250) (hI : INV n κ X Z) (k : ∀ n κ X Y Z, INV n κ X Z → gV l b0 D K (n, κ, X, Y, Z, cs + 350, ss + 4692) 1162 [(3, .int (nI i)), (2, .ref (b0 + 74)), (1, .ref (b0 + 0)), (0, .ref b)] []) : gV l b0 D K (n, κ, X, Y, Z, cs, ss) 644 [(3, .int (nI i)), (2, .ref (b0 + 74)), (1, .ref (b0 + 0)), (0, .ref b)] [] := by
  obtain ⟨r, n1, κ1, X1, Y1, Z1, n2, κ2, X2, Y2, Z2, ⟨fr, lo, mc, ms, f1, f2, f3, f4, mC⟩, ⟨hL1, fr2, lo2, mc2, ms2, g1, g2, g3, g4, mR⟩, hI2⟩ := k_blocks (Y := Y) (b0 := b0) (D := D) l hI (xs (i + 1))
  refine g_aload_n hC 2 dL_law_644 rfl rfl ?_
  refine law_arg hC hS (j := 1) hi hL ic_1 (by omega) dL_law_645 dL_law_646 dL_law_647 dL_law_648 dL_law_649 ?_
  refine g_callV_i (a := 0) hC (n' := n1) (κ' := κ1) (X' := X1) (Y' := Y1) (Z' := Z1) (As := [.int (xs (i + 1))]) (rest := []) mC tw_1007 tw_1004 tw_116 tw_1005 tw_1006 (ci := 11) rfl (by decide) (kk_0 hI.1.1) (kn_0 hI.1.1) pd_X11_blocks ⟨by omega, by omega⟩ ⟨by omega, by omega⟩ rfl rfl (Nat.le_of_ble_eq_true rfl) rfl dL_law_650 ?_
  refine g_aload_n hC 1 dL_law_653 rfl rfl ?_
  refine law_arg hC hS (j := 1) hi hL ic_1 (by omega) dL_law_654 dL_law_655 dL_law_656 dL_law_657 dL_law_658 ?_
  refine g_callV_i (a := 74) hC (n' := n2) (κ' := κ2) (X' := X2) (Y' := Y2) (Z' := Z2) (As := [.int (xs (i + 1))]) (rest := [.int r]) mR tw_1714 tw_1711 tw_127 tw_1712 tw_1713 (ci := 12) rfl (by decide) (kk_74 hL1) (kn_74 hL1) pd_X12_blocks ⟨by omega, by omega⟩ ⟨by omega, by omega⟩ rfl rfl (Nat.le_of_ble_eq_true rfl) rfl dL_law_659 ?_
  refine g_icmp_eq hC 1162 dL_law_662 (by decide) (fun _ => ?_) (fun hne => absurd rfl hne)
  exact g_widen (by omega) (by omega) (k n2 κ2 X2 Y2 Z2 hI2)
theorem law_17 (hC : gC l b0 D K RL cL_law ret 4 2048 84000 600000 7302250) (hS : gSc b0 K b L xs) {i cs ss : Nat} (hi : i + 6 ≤ L) (hL : L ≤ 3072) (hcs : cs + 350 ≤ 600000) (hss : ss + 4692 ≤ 7302250) (hI : INV n κ X Z) (k : ∀ n κ X Y Z, INV n κ X Z → gV l b0 D K (n, κ, X, Y, Z, cs + 350, ss + 4692) 1162 [(3, .int (nI i)), (2, .ref (b0 + 74)), (1, .ref (b0 + 0)), (0, .ref b)] []) : gV l b0 D K (n, κ, X, Y, Z, cs, ss) 667 [(3, .int (nI i)), (2, .ref (b0 + 74)), (1, .ref (b0 + 0)), (0, .ref b)] [] := by
  obtain ⟨r, n1, κ1, X1, Y1, Z1, n2, κ2, X2, Y2, Z2, ⟨fr, lo, mc, ms, f1, f2, f3, f4, mC⟩, ⟨hL1, fr2, lo2, mc2, ms2, g1, g2, g3, g4, mR⟩, hI2⟩ := k_stay (Y := Y) (b0 := b0) (D := D) l hI (xs (i + 1)) (xs (i + 2))
  refine g_aload_n hC 2 dL_law_667 rfl rfl ?_
  refine law_arg hC hS (j := 1) hi hL ic_1 (by omega) dL_law_668 dL_law_669 dL_law_670 dL_law_671 dL_law_672 ?_
  refine law_arg hC hS (j := 2) hi hL ic_2 (by omega) dL_law_673 dL_law_674 dL_law_675 dL_law_676 dL_law_677 ?_
  refine g_callV_i (a := 0) hC (n' := n1) (κ' := κ1) (X' := X1) (Y' := Y1) (Z' := Z1) (As := [.int (xs (i + 1)), .int (xs (i + 2))]) (rest := []) mC tw_1011 tw_1008 tw_116 tw_1009 tw_1010 (ci := 11) rfl (by decide) (kk_0 hI.1.1) (kn_0 hI.1.1) pd_X11_stay ⟨by omega, by omega⟩ ⟨by omega, by omega⟩ rfl rfl (Nat.le_of_ble_eq_true rfl) rfl dL_law_678 ?_
  refine g_aload_n hC 1 dL_law_681 rfl rfl ?_
  refine law_arg hC hS (j := 1) hi hL ic_1 (by omega) dL_law_682 dL_law_683 dL_law_684 dL_law_685 dL_law_686 ?_
  refine law_arg hC hS (j := 2) hi hL ic_2 (by omega) dL_law_687 dL_law_688 dL_law_689 dL_law_690 dL_law_691 ?_
  refine g_callV_i (a := 74) hC (n' := n2) (κ' := κ2) (X' := X2) (Y' := Y2) (Z' := Z2) (As := [.int (xs (i + 1)), .int (xs (i + 2))]) (rest := [.int r]) mR tw_1718 tw_1715 tw_127 tw_1716 tw_1717 (ci := 12) rfl (by decide) (kk_74 hL1) (kn_74 hL1) pd_X12_stay ⟨by omega, by omega⟩ ⟨by omega, by omega⟩ rfl rfl (Nat.le_of_ble_eq_true rfl) rfl dL_law_692 ?_
  refine g_icmp_eq hC 1162 dL_law_695 (by decide) (fun _ => ?_) (fun hne => absurd rfl hne)
  exact g_widen (by omega) (by omega) (k n2 κ2 X2 Y2 Z2 hI2)
theorem law_18 (hC : gC l b0 D K RL cL_law ret 4 2048 84000 600000 7302250) (hS : gSc b0 K b L xs) {i cs ss : Nat} (hi : i + 6 ≤ L) (hL : L ≤ 3072) (hcs : cs + 350 ≤ 600000) (hss : ss + 4692 ≤ 7302250) (hI : INV n κ X Z) (k : ∀ n κ X Y Z, INV n κ X Z → gV l b0 D K (n, κ, X, Y, Z, cs + 350, ss + 4692) 1162 [(3, .int (nI i)), (2, .ref (b0 + 74)), (1, .ref (b0 + 0)), (0, .ref b)] []) : gV l b0 D K (n, κ, X, Y, Z, cs, ss) 700 [(3, .int (nI i)), (2, .ref (b0 + 74)), (1, .ref (b0 + 0)), (0, .ref b)] [] := by
  obtain ⟨r, n1, κ1, X1, Y1, Z1, n2, κ2, X2, Y2, Z2, ⟨fr, lo, mc, ms, f1, f2, f3, f4, mC⟩, ⟨hL1, fr2, lo2, mc2, ms2, g1, g2, g3, g4, mR⟩, hI2⟩ := k_iced (Y := Y) (b0 := b0) (D := D) l hI (xs (i + 1))
  refine g_aload_n hC 2 dL_law_700 rfl rfl ?_
  refine law_arg hC hS (j := 1) hi hL ic_1 (by omega) dL_law_701 dL_law_702 dL_law_703 dL_law_704 dL_law_705 ?_
  refine g_callV_i (a := 0) hC (n' := n1) (κ' := κ1) (X' := X1) (Y' := Y1) (Z' := Z1) (As := [.int (xs (i + 1))]) (rest := []) mC tw_1015 tw_1012 tw_116 tw_1013 tw_1014 (ci := 11) rfl (by decide) (kk_0 hI.1.1) (kn_0 hI.1.1) pd_X11_iced ⟨by omega, by omega⟩ ⟨by omega, by omega⟩ rfl rfl (Nat.le_of_ble_eq_true rfl) rfl dL_law_706 ?_
  refine g_aload_n hC 1 dL_law_709 rfl rfl ?_
  refine law_arg hC hS (j := 1) hi hL ic_1 (by omega) dL_law_710 dL_law_711 dL_law_712 dL_law_713 dL_law_714 ?_
  refine g_callV_i (a := 74) hC (n' := n2) (κ' := κ2) (X' := X2) (Y' := Y2) (Z' := Z2) (As := [.int (xs (i + 1))]) (rest := [.int r]) mR tw_1727 tw_1724 tw_127 tw_1725 tw_1726 (ci := 12) rfl (by decide) (kk_74 hL1) (kn_74 hL1) pd_X12_iced ⟨by omega, by omega⟩ ⟨by omega, by omega⟩ rfl rfl (Nat.le_of_ble_eq_true rfl) rfl dL_law_715 ?_
  refine g_icmp_eq hC 1162 dL_law_718 (by decide) (fun _ => ?_) (fun hne => absurd rfl hne)
  exact g_widen (by omega) (by omega) (k n2 κ2 X2 Y2 Z2 hI2)
theorem law_19 (hC : gC l b0 D K RL cL_law ret 4 2048 84000 600000 7302250) (hS : gSc b0 K b L xs) {i cs ss : Nat} (hi : i + 6 ≤ L) (hL : L ≤ 3072) (hcs : cs + 350 ≤ 600000) (hss : ss + 4692 ≤ 7302250) (hI : INV n κ X Z) (k : ∀ n κ X Y Z, INV n κ X Z → gV l b0 D K (n, κ, X, Y, Z, cs + 350, ss + 4692) 1162 [(3, .int (nI i)), (2, .ref (b0 + 74)), (1, .ref (b0 + 0)), (0, .ref b)] []) : gV l b0 D K (n, κ, X, Y, Z, cs, ss) 723 [(3, .int (nI i)), (2, .ref (b0 + 74)), (1, .ref (b0 + 0)), (0, .ref b)] [] := by
  obtain ⟨r, n1, κ1, X1, Y1, Z1, n2, κ2, X2, Y2, Z2, ⟨fr, lo, mc, ms, f1, f2, f3, f4, mC⟩, ⟨hL1, fr2, lo2, mc2, ms2, g1, g2, g3, g4, mR⟩, hI2⟩ := k_stood (Y := Y) (b0 := b0) (D := D) l hI (xs (i + 1)) (xs (i + 2)) (xs (i + 3)) (xs (i + 4))
  refine g_aload_n hC 2 dL_law_723 rfl rfl ?_
  refine law_arg hC hS (j := 1) hi hL ic_1 (by omega) dL_law_724 dL_law_725 dL_law_726 dL_law_727 dL_law_728 ?_
  refine law_arg hC hS (j := 2) hi hL ic_2 (by omega) dL_law_729 dL_law_730 dL_law_731 dL_law_732 dL_law_733 ?_
  refine law_arg hC hS (j := 3) hi hL ic_3 (by omega) dL_law_734 dL_law_735 dL_law_736 dL_law_737 dL_law_738 ?_
  refine law_arg hC hS (j := 4) hi hL ic_4 (by omega) dL_law_739 dL_law_740 dL_law_741 dL_law_742 dL_law_743 ?_
  refine g_callV_i (a := 0) hC (n' := n1) (κ' := κ1) (X' := X1) (Y' := Y1) (Z' := Z1) (As := [.int (xs (i + 1)), .int (xs (i + 2)), .int (xs (i + 3)), .int (xs (i + 4))]) (rest := []) mC tw_1019 tw_1016 tw_116 tw_1017 tw_1018 (ci := 11) rfl (by decide) (kk_0 hI.1.1) (kn_0 hI.1.1) pd_X11_stood ⟨by omega, by omega⟩ ⟨by omega, by omega⟩ rfl rfl (Nat.le_of_ble_eq_true rfl) rfl dL_law_744 ?_
  refine g_aload_n hC 1 dL_law_747 rfl rfl ?_
  refine law_arg hC hS (j := 1) hi hL ic_1 (by omega) dL_law_748 dL_law_749 dL_law_750 dL_law_751 dL_law_752 ?_
  refine law_arg hC hS (j := 2) hi hL ic_2 (by omega) dL_law_753 dL_law_754 dL_law_755 dL_law_756 dL_law_757 ?_
  refine law_arg hC hS (j := 3) hi hL ic_3 (by omega) dL_law_758 dL_law_759 dL_law_760 dL_law_761 dL_law_762 ?_
  refine law_arg hC hS (j := 4) hi hL ic_4 (by omega) dL_law_763 dL_law_764 dL_law_765 dL_law_766 dL_law_767 ?_
  refine g_callV_i (a := 74) hC (n' := n2) (κ' := κ2) (X' := X2) (Y' := Y2) (Z' := Z2) (As := [.int (xs (i + 1)), .int (xs (i + 2)), .int (xs (i + 3)), .int (xs (i + 4))]) (rest := [.int r]) mR tw_1731 tw_1728 tw_127 tw_1729 tw_1730 (ci := 12) rfl (by decide) (kk_74 hL1) (kn_74 hL1) pd_X12_stood ⟨by omega, by omega⟩ ⟨by omega, by omega⟩ rfl rfl (Nat.le_of_ble_eq_true rfl) rfl dL_law_768 ?_
  refine g_icmp_eq hC 1162 dL_law_771 (by decide) (fun _ => ?_) (fun hne => absurd rfl hne)
  exact g_widen (by omega) (by omega) (k n2 κ2 X2 Y2 Z2 hI2)
theorem law_20 (hC : gC l b0 D K RL cL_law ret 4 2048 84000 600000 7302250) (hS : gSc b0 K b L xs) {i cs ss : Nat} (hi : i + 6 ≤ L) (hL : L ≤ 3072) (hcs : cs + 350 ≤ 600000) (hss : ss + 4692 ≤ 7302250) (hI : INV n κ X Z) (k : ∀ n κ X Y Z, INV n κ X Z → gV l b0 D K (n, κ, X, Y, Z, cs + 350, ss + 4692) 1162 [(3, .int (nI i)), (2, .ref (b0 + 74)), (1, .ref (b0 + 0)), (0, .ref b)] []) : gV l b0 D K (n, κ, X, Y, Z, cs, ss) 776 [(3, .int (nI i)), (2, .ref (b0 + 74)), (1, .ref (b0 + 0)), (0, .ref b)] [] := by
  obtain ⟨r, n1, κ1, X1, Y1, Z1, n2, κ2, X2, Y2, Z2, ⟨fr, lo, mc, ms, f1, f2, f3, f4, mC⟩, ⟨hL1, fr2, lo2, mc2, ms2, g1, g2, g3, g4, mR⟩, hI2⟩ := k_row (Y := Y) (b0 := b0) (D := D) l hI (xs (i + 1)) (xs (i + 2))
  refine g_aload_n hC 2 dL_law_776 rfl rfl ?_
  refine law_arg hC hS (j := 1) hi hL ic_1 (by omega) dL_law_777 dL_law_778 dL_law_779 dL_law_780 dL_law_781 ?_
  refine law_arg hC hS (j := 2) hi hL ic_2 (by omega) dL_law_782 dL_law_783 dL_law_784 dL_law_785 dL_law_786 ?_
  refine g_callV_i (a := 0) hC (n' := n1) (κ' := κ1) (X' := X1) (Y' := Y1) (Z' := Z1) (As := [.int (xs (i + 1)), .int (xs (i + 2))]) (rest := []) mC tw_1023 tw_1020 tw_116 tw_1021 tw_1022 (ci := 11) rfl (by decide) (kk_0 hI.1.1) (kn_0 hI.1.1) pd_X11_row ⟨by omega, by omega⟩ ⟨by omega, by omega⟩ rfl rfl (Nat.le_of_ble_eq_true rfl) rfl dL_law_787 ?_
  refine g_aload_n hC 1 dL_law_790 rfl rfl ?_
  refine law_arg hC hS (j := 1) hi hL ic_1 (by omega) dL_law_791 dL_law_792 dL_law_793 dL_law_794 dL_law_795 ?_
  refine law_arg hC hS (j := 2) hi hL ic_2 (by omega) dL_law_796 dL_law_797 dL_law_798 dL_law_799 dL_law_800 ?_
  refine g_callV_i (a := 74) hC (n' := n2) (κ' := κ2) (X' := X2) (Y' := Y2) (Z' := Z2) (As := [.int (xs (i + 1)), .int (xs (i + 2))]) (rest := [.int r]) mR tw_1736 tw_1733 tw_127 tw_1734 tw_1735 (ci := 12) rfl (by decide) (kk_74 hL1) (kn_74 hL1) pd_X12_row ⟨by omega, by omega⟩ ⟨by omega, by omega⟩ rfl rfl (Nat.le_of_ble_eq_true rfl) rfl dL_law_801 ?_
  refine g_icmp_eq hC 1162 dL_law_804 (by decide) (fun _ => ?_) (fun hne => absurd rfl hne)
  exact g_widen (by omega) (by omega) (k n2 κ2 X2 Y2 Z2 hI2)
theorem law_21 (hC : gC l b0 D K RL cL_law ret 4 2048 84000 600000 7302250) (hS : gSc b0 K b L xs) {i cs ss : Nat} (hi : i + 6 ≤ L) (hL : L ≤ 3072) (hcs : cs + 350 ≤ 600000) (hss : ss + 4692 ≤ 7302250) (hI : INV n κ X Z) (k : ∀ n κ X Y Z, INV n κ X Z → gV l b0 D K (n, κ, X, Y, Z, cs + 350, ss + 4692) 1162 [(3, .int (nI i)), (2, .ref (b0 + 74)), (1, .ref (b0 + 0)), (0, .ref b)] []) : gV l b0 D K (n, κ, X, Y, Z, cs, ss) 809 [(3, .int (nI i)), (2, .ref (b0 + 74)), (1, .ref (b0 + 0)), (0, .ref b)] [] := by
  obtain ⟨r, n1, κ1, X1, Y1, Z1, n2, κ2, X2, Y2, Z2, ⟨fr, lo, mc, ms, f1, f2, f3, f4, mC⟩, ⟨hL1, fr2, lo2, mc2, ms2, g1, g2, g3, g4, mR⟩, hI2⟩ := k_order (Y := Y) (b0 := b0) (D := D) l hI (xs (i + 1))
  refine g_aload_n hC 2 dL_law_809 rfl rfl ?_
  refine law_arg hC hS (j := 1) hi hL ic_1 (by omega) dL_law_810 dL_law_811 dL_law_812 dL_law_813 dL_law_814 ?_
  refine g_callV_i (a := 0) hC (n' := n1) (κ' := κ1) (X' := X1) (Y' := Y1) (Z' := Z1) (As := [.int (xs (i + 1))]) (rest := []) mC tw_1054 tw_1051 tw_116 tw_1052 tw_1053 (ci := 11) rfl (by decide) (kk_0 hI.1.1) (kn_0 hI.1.1) pd_X11_order ⟨by omega, by omega⟩ ⟨by omega, by omega⟩ rfl rfl (Nat.le_of_ble_eq_true rfl) rfl dL_law_815 ?_
  refine g_aload_n hC 1 dL_law_818 rfl rfl ?_
  refine law_arg hC hS (j := 1) hi hL ic_1 (by omega) dL_law_819 dL_law_820 dL_law_821 dL_law_822 dL_law_823 ?_
  refine g_callV_i (a := 74) hC (n' := n2) (κ' := κ2) (X' := X2) (Y' := Y2) (Z' := Z2) (As := [.int (xs (i + 1))]) (rest := [.int r]) mR tw_1753 tw_1750 tw_127 tw_1751 tw_1752 (ci := 12) rfl (by decide) (kk_74 hL1) (kn_74 hL1) pd_X12_order ⟨by omega, by omega⟩ ⟨by omega, by omega⟩ rfl rfl (Nat.le_of_ble_eq_true rfl) rfl dL_law_824 ?_
  refine g_icmp_eq hC 1162 dL_law_827 (by decide) (fun _ => ?_) (fun hne => absurd rfl hne)
  exact g_widen (by omega) (by omega) (k n2 κ2 X2 Y2 Z2 hI2)
theorem law_22 (hC : gC l b0 D K RL cL_law ret 4 2048 84000 600000 7302250) (hS : gSc b0 K b L xs) {i cs ss : Nat} (hi : i + 6 ≤ L) (hL : L ≤ 3072) (hcs : cs + 350 ≤ 600000) (hss : ss + 4692 ≤ 7302250) (hI : INV n κ X Z) (k : ∀ n κ X Y Z, INV n κ X Z → gV l b0 D K (n, κ, X, Y, Z, cs + 350, ss + 4692) 1162 [(3, .int (nI i)), (2, .ref (b0 + 74)), (1, .ref (b0 + 0)), (0, .ref b)] []) : gV l b0 D K (n, κ, X, Y, Z, cs, ss) 832 [(3, .int (nI i)), (2, .ref (b0 + 74)), (1, .ref (b0 + 0)), (0, .ref b)] [] := by
  obtain ⟨r, n1, κ1, X1, Y1, Z1, n2, κ2, X2, Y2, Z2, ⟨fr, lo, mc, ms, f1, f2, f3, f4, mC⟩, ⟨hL1, fr2, lo2, mc2, ms2, g1, g2, g3, g4, mR⟩, hI2⟩ := k_rests (Y := Y) (b0 := b0) (D := D) l hI (xs (i + 1)) (xs (i + 2)) (xs (i + 3)) (xs (i + 4))
  refine g_aload_n hC 2 dL_law_832 rfl rfl ?_
  refine law_arg hC hS (j := 1) hi hL ic_1 (by omega) dL_law_833 dL_law_834 dL_law_835 dL_law_836 dL_law_837 ?_
  refine law_arg hC hS (j := 2) hi hL ic_2 (by omega) dL_law_838 dL_law_839 dL_law_840 dL_law_841 dL_law_842 ?_
  refine law_arg hC hS (j := 3) hi hL ic_3 (by omega) dL_law_843 dL_law_844 dL_law_845 dL_law_846 dL_law_847 ?_
  refine law_arg hC hS (j := 4) hi hL ic_4 (by omega) dL_law_848 dL_law_849 dL_law_850 dL_law_851 dL_law_852 ?_
  refine g_callV_i (a := 0) hC (n' := n1) (κ' := κ1) (X' := X1) (Y' := Y1) (Z' := Z1) (As := [.int (xs (i + 1)), .int (xs (i + 2)), .int (xs (i + 3)), .int (xs (i + 4))]) (rest := []) mC tw_1058 tw_1055 tw_116 tw_1056 tw_1057 (ci := 11) rfl (by decide) (kk_0 hI.1.1) (kn_0 hI.1.1) pd_X11_rests ⟨by omega, by omega⟩ ⟨by omega, by omega⟩ rfl rfl (Nat.le_of_ble_eq_true rfl) rfl dL_law_853 ?_
  refine g_aload_n hC 1 dL_law_856 rfl rfl ?_
  refine law_arg hC hS (j := 1) hi hL ic_1 (by omega) dL_law_857 dL_law_858 dL_law_859 dL_law_860 dL_law_861 ?_
  refine law_arg hC hS (j := 2) hi hL ic_2 (by omega) dL_law_862 dL_law_863 dL_law_864 dL_law_865 dL_law_866 ?_
  refine law_arg hC hS (j := 3) hi hL ic_3 (by omega) dL_law_867 dL_law_868 dL_law_869 dL_law_870 dL_law_871 ?_
  refine law_arg hC hS (j := 4) hi hL ic_4 (by omega) dL_law_872 dL_law_873 dL_law_874 dL_law_875 dL_law_876 ?_
  refine g_callV_i (a := 74) hC (n' := n2) (κ' := κ2) (X' := X2) (Y' := Y2) (Z' := Z2) (As := [.int (xs (i + 1)), .int (xs (i + 2)), .int (xs (i + 3)), .int (xs (i + 4))]) (rest := [.int r]) mR tw_1757 tw_1754 tw_127 tw_1755 tw_1756 (ci := 12) rfl (by decide) (kk_74 hL1) (kn_74 hL1) pd_X12_rests ⟨by omega, by omega⟩ ⟨by omega, by omega⟩ rfl rfl (Nat.le_of_ble_eq_true rfl) rfl dL_law_877 ?_
  refine g_icmp_eq hC 1162 dL_law_880 (by decide) (fun _ => ?_) (fun hne => absurd rfl hne)
  exact g_widen (by omega) (by omega) (k n2 κ2 X2 Y2 Z2 hI2)
theorem law_23 (hC : gC l b0 D K RL cL_law ret 4 2048 84000 600000 7302250) (hS : gSc b0 K b L xs) {i cs ss : Nat} (hi : i + 6 ≤ L) (hL : L ≤ 3072) (hcs : cs + 350 ≤ 600000) (hss : ss + 4692 ≤ 7302250) (hI : INV n κ X Z) (k : ∀ n κ X Y Z, INV n κ X Z → gV l b0 D K (n, κ, X, Y, Z, cs + 350, ss + 4692) 1162 [(3, .int (nI i)), (2, .ref (b0 + 74)), (1, .ref (b0 + 0)), (0, .ref b)] []) : gV l b0 D K (n, κ, X, Y, Z, cs, ss) 885 [(3, .int (nI i)), (2, .ref (b0 + 74)), (1, .ref (b0 + 0)), (0, .ref b)] [] := by
  obtain ⟨r, n1, κ1, X1, Y1, Z1, n2, κ2, X2, Y2, Z2, ⟨fr, lo, mc, ms, f1, f2, f3, f4, mC⟩, ⟨hL1, fr2, lo2, mc2, ms2, g1, g2, g3, g4, mR⟩, hI2⟩ := k_parts (Y := Y) (b0 := b0) (D := D) l hI (xs (i + 1)) (xs (i + 2))
  refine g_aload_n hC 2 dL_law_885 rfl rfl ?_
  refine law_arg hC hS (j := 1) hi hL ic_1 (by omega) dL_law_886 dL_law_887 dL_law_888 dL_law_889 dL_law_890 ?_
  refine law_arg hC hS (j := 2) hi hL ic_2 (by omega) dL_law_891 dL_law_892 dL_law_893 dL_law_894 dL_law_895 ?_
  refine g_callV_i (a := 0) hC (n' := n1) (κ' := κ1) (X' := X1) (Y' := Y1) (Z' := Z1) (As := [.int (xs (i + 1)), .int (xs (i + 2))]) (rest := []) mC tw_1076 tw_1073 tw_116 tw_1074 tw_1075 (ci := 11) rfl (by decide) (kk_0 hI.1.1) (kn_0 hI.1.1) pd_X11_parts ⟨by omega, by omega⟩ ⟨by omega, by omega⟩ rfl rfl (Nat.le_of_ble_eq_true rfl) rfl dL_law_896 ?_
  refine g_aload_n hC 1 dL_law_899 rfl rfl ?_
  refine law_arg hC hS (j := 1) hi hL ic_1 (by omega) dL_law_900 dL_law_901 dL_law_902 dL_law_903 dL_law_904 ?_
  refine law_arg hC hS (j := 2) hi hL ic_2 (by omega) dL_law_905 dL_law_906 dL_law_907 dL_law_908 dL_law_909 ?_
  refine g_callV_i (a := 74) hC (n' := n2) (κ' := κ2) (X' := X2) (Y' := Y2) (Z' := Z2) (As := [.int (xs (i + 1)), .int (xs (i + 2))]) (rest := [.int r]) mR tw_1770 tw_1767 tw_127 tw_1768 tw_1769 (ci := 12) rfl (by decide) (kk_74 hL1) (kn_74 hL1) pd_X12_parts ⟨by omega, by omega⟩ ⟨by omega, by omega⟩ rfl rfl (Nat.le_of_ble_eq_true rfl) rfl dL_law_910 ?_
  refine g_icmp_eq hC 1162 dL_law_913 (by decide) (fun _ => ?_) (fun hne => absurd rfl hne)
  exact g_widen (by omega) (by omega) (k n2 κ2 X2 Y2 Z2 hI2)
theorem law_24 (hC : gC l b0 D K RL cL_law ret 4 2048 84000 600000 7302250) (hS : gSc b0 K b L xs) {i cs ss : Nat} (hi : i + 6 ≤ L) (hL : L ≤ 3072) (hcs : cs + 350 ≤ 600000) (hss : ss + 4692 ≤ 7302250) (hI : INV n κ X Z) (k : ∀ n κ X Y Z, INV n κ X Z → gV l b0 D K (n, κ, X, Y, Z, cs + 350, ss + 4692) 1162 [(3, .int (nI i)), (2, .ref (b0 + 74)), (1, .ref (b0 + 0)), (0, .ref b)] []) : gV l b0 D K (n, κ, X, Y, Z, cs, ss) 918 [(3, .int (nI i)), (2, .ref (b0 + 74)), (1, .ref (b0 + 0)), (0, .ref b)] [] := by
  obtain ⟨r, n1, κ1, X1, Y1, Z1, n2, κ2, X2, Y2, Z2, ⟨fr, lo, mc, ms, f1, f2, f3, f4, mC⟩, ⟨hL1, fr2, lo2, mc2, ms2, g1, g2, g3, g4, mR⟩, hI2⟩ := k_note (Y := Y) (b0 := b0) (D := D) l hI (xs (i + 1)) (xs (i + 2)) (xs (i + 3))
  refine g_aload_n hC 2 dL_law_918 rfl rfl ?_
  refine law_arg hC hS (j := 1) hi hL ic_1 (by omega) dL_law_919 dL_law_920 dL_law_921 dL_law_922 dL_law_923 ?_
  refine law_arg hC hS (j := 2) hi hL ic_2 (by omega) dL_law_924 dL_law_925 dL_law_926 dL_law_927 dL_law_928 ?_
  refine law_arg hC hS (j := 3) hi hL ic_3 (by omega) dL_law_929 dL_law_930 dL_law_931 dL_law_932 dL_law_933 ?_
  refine g_callV_i (a := 0) hC (n' := n1) (κ' := κ1) (X' := X1) (Y' := Y1) (Z' := Z1) (As := [.int (xs (i + 1)), .int (xs (i + 2)), .int (xs (i + 3))]) (rest := []) mC tw_1084 tw_1081 tw_116 tw_1082 tw_1083 (ci := 11) rfl (by decide) (kk_0 hI.1.1) (kn_0 hI.1.1) pd_X11_note ⟨by omega, by omega⟩ ⟨by omega, by omega⟩ rfl rfl (Nat.le_of_ble_eq_true rfl) rfl dL_law_934 ?_
  refine g_aload_n hC 1 dL_law_937 rfl rfl ?_
  refine law_arg hC hS (j := 1) hi hL ic_1 (by omega) dL_law_938 dL_law_939 dL_law_940 dL_law_941 dL_law_942 ?_
  refine law_arg hC hS (j := 2) hi hL ic_2 (by omega) dL_law_943 dL_law_944 dL_law_945 dL_law_946 dL_law_947 ?_
  refine law_arg hC hS (j := 3) hi hL ic_3 (by omega) dL_law_948 dL_law_949 dL_law_950 dL_law_951 dL_law_952 ?_
  refine g_callV_i (a := 74) hC (n' := n2) (κ' := κ2) (X' := X2) (Y' := Y2) (Z' := Z2) (As := [.int (xs (i + 1)), .int (xs (i + 2)), .int (xs (i + 3))]) (rest := [.int r]) mR tw_1779 tw_1776 tw_127 tw_1777 tw_1778 (ci := 12) rfl (by decide) (kk_74 hL1) (kn_74 hL1) pd_X12_note ⟨by omega, by omega⟩ ⟨by omega, by omega⟩ rfl rfl (Nat.le_of_ble_eq_true rfl) rfl dL_law_953 ?_
  refine g_icmp_eq hC 1162 dL_law_956 (by decide) (fun _ => ?_) (fun hne => absurd rfl hne)
  exact g_widen (by omega) (by omega) (k n2 κ2 X2 Y2 Z2 hI2)
theorem law_25 (hC : gC l b0 D K RL cL_law ret 4 2048 84000 600000 7302250) (hS : gSc b0 K b L xs) {i cs ss : Nat} (hi : i + 6 ≤ L) (hL : L ≤ 3072) (hcs : cs + 350 ≤ 600000) (hss : ss + 4692 ≤ 7302250) (hI : INV n κ X Z) (k : ∀ n κ X Y Z, INV n κ X Z → gV l b0 D K (n, κ, X, Y, Z, cs + 350, ss + 4692) 1162 [(3, .int (nI i)), (2, .ref (b0 + 74)), (1, .ref (b0 + 0)), (0, .ref b)] []) : gV l b0 D K (n, κ, X, Y, Z, cs, ss) 961 [(3, .int (nI i)), (2, .ref (b0 + 74)), (1, .ref (b0 + 0)), (0, .ref b)] [] := by
  obtain ⟨r, n1, κ1, X1, Y1, Z1, n2, κ2, X2, Y2, Z2, ⟨fr, lo, mc, ms, f1, f2, f3, f4, mC⟩, ⟨hL1, fr2, lo2, mc2, ms2, g1, g2, g3, g4, mR⟩, hI2⟩ := k_ruled (Y := Y) (b0 := b0) (D := D) l hI (xs (i + 1))
  refine g_aload_n hC 2 dL_law_961 rfl rfl ?_
  refine law_arg hC hS (j := 1) hi hL ic_1 (by omega) dL_law_962 dL_law_963 dL_law_964 dL_law_965 dL_law_966 ?_
  refine g_callV_i (a := 0) hC (n' := n1) (κ' := κ1) (X' := X1) (Y' := Y1) (Z' := Z1) (As := [.int (xs (i + 1))]) (rest := []) mC tw_1092 tw_1089 tw_116 tw_1090 tw_1091 (ci := 11) rfl (by decide) (kk_0 hI.1.1) (kn_0 hI.1.1) pd_X11_ruled ⟨by omega, by omega⟩ ⟨by omega, by omega⟩ rfl rfl (Nat.le_of_ble_eq_true rfl) rfl dL_law_967 ?_
  refine g_aload_n hC 1 dL_law_970 rfl rfl ?_
  refine law_arg hC hS (j := 1) hi hL ic_1 (by omega) dL_law_971 dL_law_972 dL_law_973 dL_law_974 dL_law_975 ?_
  refine g_callV_i (a := 74) hC (n' := n2) (κ' := κ2) (X' := X2) (Y' := Y2) (Z' := Z2) (As := [.int (xs (i + 1))]) (rest := [.int r]) mR tw_1783 tw_1780 tw_127 tw_1781 tw_1782 (ci := 12) rfl (by decide) (kk_74 hL1) (kn_74 hL1) pd_X12_ruled ⟨by omega, by omega⟩ ⟨by omega, by omega⟩ rfl rfl (Nat.le_of_ble_eq_true rfl) rfl dL_law_976 ?_
  refine g_icmp_eq hC 1162 dL_law_979 (by decide) (fun _ => ?_) (fun hne => absurd rfl hne)
  exact g_widen (by omega) (by omega) (k n2 κ2 X2 Y2 Z2 hI2)
theorem law_26 (hC : gC l b0 D K RL cL_law ret 4 2048 84000 600000 7302250) (hS : gSc b0 K b L xs) {i cs ss : Nat} (hi : i + 6 ≤ L) (hL : L ≤ 3072) (hcs : cs + 350 ≤ 600000) (hss : ss + 4692 ≤ 7302250) (hI : INV n κ X Z) (k : ∀ n κ X Y Z, INV n κ X Z → gV l b0 D K (n, κ, X, Y, Z, cs + 350, ss + 4692) 1162 [(3, .int (nI i)), (2, .ref (b0 + 74)), (1, .ref (b0 + 0)), (0, .ref b)] []) : gV l b0 D K (n, κ, X, Y, Z, cs, ss) 984 [(3, .int (nI i)), (2, .ref (b0 + 74)), (1, .ref (b0 + 0)), (0, .ref b)] [] := by
  obtain ⟨r, n1, κ1, X1, Y1, Z1, n2, κ2, X2, Y2, Z2, ⟨fr, lo, mc, ms, f1, f2, f3, f4, mC⟩, ⟨hL1, fr2, lo2, mc2, ms2, g1, g2, g3, g4, mR⟩, hI2⟩ := k_look (Y := Y) (b0 := b0) (D := D) l hI (xs (i + 1)) (xs (i + 2))
  refine g_aload_n hC 2 dL_law_984 rfl rfl ?_
  refine law_arg hC hS (j := 1) hi hL ic_1 (by omega) dL_law_985 dL_law_986 dL_law_987 dL_law_988 dL_law_989 ?_
  refine law_arg hC hS (j := 2) hi hL ic_2 (by omega) dL_law_990 dL_law_991 dL_law_992 dL_law_993 dL_law_994 ?_
  refine g_callV_i (a := 0) hC (n' := n1) (κ' := κ1) (X' := X1) (Y' := Y1) (Z' := Z1) (As := [.int (xs (i + 1)), .int (xs (i + 2))]) (rest := []) mC tw_1118 tw_1115 tw_116 tw_1116 tw_1117 (ci := 11) rfl (by decide) (kk_0 hI.1.1) (kn_0 hI.1.1) pd_X11_look ⟨by omega, by omega⟩ ⟨by omega, by omega⟩ rfl rfl (Nat.le_of_ble_eq_true rfl) rfl dL_law_995 ?_
  refine g_aload_n hC 1 dL_law_998 rfl rfl ?_
  refine law_arg hC hS (j := 1) hi hL ic_1 (by omega) dL_law_999 dL_law_1000 dL_law_1001 dL_law_1002 dL_law_1003 ?_
  refine law_arg hC hS (j := 2) hi hL ic_2 (by omega) dL_law_1004 dL_law_1005 dL_law_1006 dL_law_1007 dL_law_1008 ?_
  refine g_callV_i (a := 74) hC (n' := n2) (κ' := κ2) (X' := X2) (Y' := Y2) (Z' := Z2) (As := [.int (xs (i + 1)), .int (xs (i + 2))]) (rest := [.int r]) mR tw_1791 tw_1788 tw_127 tw_1789 tw_1790 (ci := 12) rfl (by decide) (kk_74 hL1) (kn_74 hL1) pd_X12_look ⟨by omega, by omega⟩ ⟨by omega, by omega⟩ rfl rfl (Nat.le_of_ble_eq_true rfl) rfl dL_law_1009 ?_
  refine g_icmp_eq hC 1162 dL_law_1012 (by decide) (fun _ => ?_) (fun hne => absurd rfl hne)
  exact g_widen (by omega) (by omega) (k n2 κ2 X2 Y2 Z2 hI2)
theorem law_27 (hC : gC l b0 D K RL cL_law ret 4 2048 84000 600000 7302250) (hS : gSc b0 K b L xs) {i cs ss : Nat} (hi : i + 6 ≤ L) (hL : L ≤ 3072) (hcs : cs + 350 ≤ 600000) (hss : ss + 4692 ≤ 7302250) (hI : INV n κ X Z) (k : ∀ n κ X Y Z, INV n κ X Z → gV l b0 D K (n, κ, X, Y, Z, cs + 350, ss + 4692) 1162 [(3, .int (nI i)), (2, .ref (b0 + 74)), (1, .ref (b0 + 0)), (0, .ref b)] []) : gV l b0 D K (n, κ, X, Y, Z, cs, ss) 1017 [(3, .int (nI i)), (2, .ref (b0 + 74)), (1, .ref (b0 + 0)), (0, .ref b)] [] := by
  obtain ⟨r, n1, κ1, X1, Y1, Z1, n2, κ2, X2, Y2, Z2, ⟨fr, lo, mc, ms, f1, f2, f3, f4, mC⟩, ⟨hL1, fr2, lo2, mc2, ms2, g1, g2, g3, g4, mR⟩, hI2⟩ := k_seed (Y := Y) (b0 := b0) (D := D) l hI (xs (i + 1))
  refine g_aload_n hC 2 dL_law_1017 rfl rfl ?_
  refine law_arg hC hS (j := 1) hi hL ic_1 (by omega) dL_law_1018 dL_law_1019 dL_law_1020 dL_law_1021 dL_law_1022 ?_
  refine g_callV_i (a := 0) hC (n' := n1) (κ' := κ1) (X' := X1) (Y' := Y1) (Z' := Z1) (As := [.int (xs (i + 1))]) (rest := []) mC tw_1126 tw_1123 tw_116 tw_1124 tw_1125 (ci := 11) rfl (by decide) (kk_0 hI.1.1) (kn_0 hI.1.1) pd_X11_seed ⟨by omega, by omega⟩ ⟨by omega, by omega⟩ rfl rfl (Nat.le_of_ble_eq_true rfl) rfl dL_law_1023 ?_
  refine g_aload_n hC 1 dL_law_1026 rfl rfl ?_
  refine law_arg hC hS (j := 1) hi hL ic_1 (by omega) dL_law_1027 dL_law_1028 dL_law_1029 dL_law_1030 dL_law_1031 ?_
  refine g_callV_i (a := 74) hC (n' := n2) (κ' := κ2) (X' := X2) (Y' := Y2) (Z' := Z2) (As := [.int (xs (i + 1))]) (rest := [.int r]) mR tw_1799 tw_1796 tw_127 tw_1797 tw_1798 (ci := 12) rfl (by decide) (kk_74 hL1) (kn_74 hL1) pd_X12_seed ⟨by omega, by omega⟩ ⟨by omega, by omega⟩ rfl rfl (Nat.le_of_ble_eq_true rfl) rfl dL_law_1032 ?_
  refine g_icmp_eq hC 1162 dL_law_1035 (by decide) (fun _ => ?_) (fun hne => absurd rfl hne)
  exact g_widen (by omega) (by omega) (k n2 κ2 X2 Y2 Z2 hI2)
theorem law_28 (hC : gC l b0 D K RL cL_law ret 4 2048 84000 600000 7302250) (hS : gSc b0 K b L xs) {i cs ss : Nat} (hi : i + 6 ≤ L) (hL : L ≤ 3072) (hcs : cs + 350 ≤ 600000) (hss : ss + 4692 ≤ 7302250) (hI : INV n κ X Z) (k : ∀ n κ X Y Z, INV n κ X Z → gV l b0 D K (n, κ, X, Y, Z, cs + 350, ss + 4692) 1162 [(3, .int (nI i)), (2, .ref (b0 + 74)), (1, .ref (b0 + 0)), (0, .ref b)] []) : gV l b0 D K (n, κ, X, Y, Z, cs, ss) 1040 [(3, .int (nI i)), (2, .ref (b0 + 74)), (1, .ref (b0 + 0)), (0, .ref b)] [] := by
  obtain ⟨r, n1, κ1, X1, Y1, Z1, n2, κ2, X2, Y2, Z2, ⟨fr, lo, mc, ms, f1, f2, f3, f4, mC⟩, ⟨hL1, fr2, lo2, mc2, ms2, g1, g2, g3, g4, mR⟩, hI2⟩ := k_summers (Y := Y) (b0 := b0) (D := D) l hI (xs (i + 1)) (xs (i + 2)) (xs (i + 3)) (xs (i + 4))
  refine g_aload_n hC 2 dL_law_1040 rfl rfl ?_
  refine law_arg hC hS (j := 1) hi hL ic_1 (by omega) dL_law_1041 dL_law_1042 dL_law_1043 dL_law_1044 dL_law_1045 ?_
  refine law_arg hC hS (j := 2) hi hL ic_2 (by omega) dL_law_1046 dL_law_1047 dL_law_1048 dL_law_1049 dL_law_1050 ?_
  refine law_arg hC hS (j := 3) hi hL ic_3 (by omega) dL_law_1051 dL_law_1052 dL_law_1053 dL_law_1054 dL_law_1055 ?_
  refine law_arg hC hS (j := 4) hi hL ic_4 (by omega) dL_law_1056 dL_law_1057 dL_law_1058 dL_law_1059 dL_law_1060 ?_
  refine g_callV_i (a := 0) hC (n' := n1) (κ' := κ1) (X' := X1) (Y' := Y1) (Z' := Z1) (As := [.int (xs (i + 1)), .int (xs (i + 2)), .int (xs (i + 3)), .int (xs (i + 4))]) (rest := []) mC tw_1130 tw_1127 tw_116 tw_1128 tw_1129 (ci := 11) rfl (by decide) (kk_0 hI.1.1) (kn_0 hI.1.1) pd_X11_summers ⟨by omega, by omega⟩ ⟨by omega, by omega⟩ rfl rfl (Nat.le_of_ble_eq_true rfl) rfl dL_law_1061 ?_
  refine g_aload_n hC 1 dL_law_1064 rfl rfl ?_
  refine law_arg hC hS (j := 1) hi hL ic_1 (by omega) dL_law_1065 dL_law_1066 dL_law_1067 dL_law_1068 dL_law_1069 ?_
  refine law_arg hC hS (j := 2) hi hL ic_2 (by omega) dL_law_1070 dL_law_1071 dL_law_1072 dL_law_1073 dL_law_1074 ?_
  refine law_arg hC hS (j := 3) hi hL ic_3 (by omega) dL_law_1075 dL_law_1076 dL_law_1077 dL_law_1078 dL_law_1079 ?_
  refine law_arg hC hS (j := 4) hi hL ic_4 (by omega) dL_law_1080 dL_law_1081 dL_law_1082 dL_law_1083 dL_law_1084 ?_
  refine g_callV_i (a := 74) hC (n' := n2) (κ' := κ2) (X' := X2) (Y' := Y2) (Z' := Z2) (As := [.int (xs (i + 1)), .int (xs (i + 2)), .int (xs (i + 3)), .int (xs (i + 4))]) (rest := [.int r]) mR tw_1803 tw_1800 tw_127 tw_1801 tw_1802 (ci := 12) rfl (by decide) (kk_74 hL1) (kn_74 hL1) pd_X12_summers ⟨by omega, by omega⟩ ⟨by omega, by omega⟩ rfl rfl (Nat.le_of_ble_eq_true rfl) rfl dL_law_1085 ?_
  refine g_icmp_eq hC 1162 dL_law_1088 (by decide) (fun _ => ?_) (fun hne => absurd rfl hne)
  exact g_widen (by omega) (by omega) (k n2 κ2 X2 Y2 Z2 hI2)
theorem law_29 (hC : gC l b0 D K RL cL_law ret 4 2048 84000 600000 7302250) (hS : gSc b0 K b L xs) {i cs ss : Nat} (hi : i + 6 ≤ L) (hL : L ≤ 3072) (hcs : cs + 350 ≤ 600000) (hss : ss + 4692 ≤ 7302250) (hI : INV n κ X Z) (k : ∀ n κ X Y Z, INV n κ X Z → gV l b0 D K (n, κ, X, Y, Z, cs + 350, ss + 4692) 1162 [(3, .int (nI i)), (2, .ref (b0 + 74)), (1, .ref (b0 + 0)), (0, .ref b)] []) : gV l b0 D K (n, κ, X, Y, Z, cs, ss) 1093 [(3, .int (nI i)), (2, .ref (b0 + 74)), (1, .ref (b0 + 0)), (0, .ref b)] [] := by
  obtain ⟨r, n1, κ1, X1, Y1, Z1, n2, κ2, X2, Y2, Z2, ⟨fr, lo, mc, ms, f1, f2, f3, f4, mC⟩, ⟨hL1, fr2, lo2, mc2, ms2, g1, g2, g3, g4, mR⟩, hI2⟩ := k_count (Y := Y) (b0 := b0) (D := D) l hI (xs (i + 1))
  refine g_aload_n hC 2 dL_law_1093 rfl rfl ?_
  refine law_arg hC hS (j := 1) hi hL ic_1 (by omega) dL_law_1094 dL_law_1095 dL_law_1096 dL_law_1097 dL_law_1098 ?_
  refine g_callV_i (a := 0) hC (n' := n1) (κ' := κ1) (X' := X1) (Y' := Y1) (Z' := Z1) (As := [.int (xs (i + 1))]) (rest := []) mC tw_1146 tw_1143 tw_116 tw_1144 tw_1145 (ci := 11) rfl (by decide) (kk_0 hI.1.1) (kn_0 hI.1.1) pd_X11_count ⟨by omega, by omega⟩ ⟨by omega, by omega⟩ rfl rfl (Nat.le_of_ble_eq_true rfl) rfl dL_law_1099 ?_
  refine g_aload_n hC 1 dL_law_1102 rfl rfl ?_
  refine law_arg hC hS (j := 1) hi hL ic_1 (by omega) dL_law_1103 dL_law_1104 dL_law_1105 dL_law_1106 dL_law_1107 ?_
  refine g_callV_i (a := 74) hC (n' := n2) (κ' := κ2) (X' := X2) (Y' := Y2) (Z' := Z2) (As := [.int (xs (i + 1))]) (rest := [.int r]) mR tw_1816 tw_1813 tw_127 tw_1814 tw_1815 (ci := 12) rfl (by decide) (kk_74 hL1) (kn_74 hL1) pd_X12_count ⟨by omega, by omega⟩ ⟨by omega, by omega⟩ rfl rfl (Nat.le_of_ble_eq_true rfl) rfl dL_law_1108 ?_
  refine g_icmp_eq hC 1162 dL_law_1111 (by decide) (fun _ => ?_) (fun hne => absurd rfl hne)
  exact g_widen (by omega) (by omega) (k n2 κ2 X2 Y2 Z2 hI2)
theorem law_30 (hC : gC l b0 D K RL cL_law ret 4 2048 84000 600000 7302250) (hS : gSc b0 K b L xs) {i cs ss : Nat} (hi : i + 6 ≤ L) (hL : L ≤ 3072) (hcs : cs + 350 ≤ 600000) (hss : ss + 4692 ≤ 7302250) (hI : INV n κ X Z) (k : ∀ n κ X Y Z, INV n κ X Z → gV l b0 D K (n, κ, X, Y, Z, cs + 350, ss + 4692) 1162 [(3, .int (nI i)), (2, .ref (b0 + 74)), (1, .ref (b0 + 0)), (0, .ref b)] []) : gV l b0 D K (n, κ, X, Y, Z, cs, ss) 1116 [(3, .int (nI i)), (2, .ref (b0 + 74)), (1, .ref (b0 + 0)), (0, .ref b)] [] := by
  obtain ⟨r, n1, κ1, X1, Y1, Z1, n2, κ2, X2, Y2, Z2, ⟨fr, lo, mc, ms, f1, f2, f3, f4, mC⟩, ⟨hL1, fr2, lo2, mc2, ms2, g1, g2, g3, g4, mR⟩, hI2⟩ := k_image (Y := Y) (b0 := b0) (D := D) l hI (xs (i + 1))
  refine g_aload_n hC 2 dL_law_1116 rfl rfl ?_
  refine law_arg hC hS (j := 1) hi hL ic_1 (by omega) dL_law_1117 dL_law_1118 dL_law_1119 dL_law_1120 dL_law_1121 ?_
  refine g_callV_i (a := 0) hC (n' := n1) (κ' := κ1) (X' := X1) (Y' := Y1) (Z' := Z1) (As := [.int (xs (i + 1))]) (rest := []) mC tw_1158 tw_1155 tw_116 tw_1156 tw_1157 (ci := 11) rfl (by decide) (kk_0 hI.1.1) (kn_0 hI.1.1) pd_X11_image ⟨by omega, by omega⟩ ⟨by omega, by omega⟩ rfl rfl (Nat.le_of_ble_eq_true rfl) rfl dL_law_1122 ?_
  refine g_aload_n hC 1 dL_law_1125 rfl rfl ?_
  refine law_arg hC hS (j := 1) hi hL ic_1 (by omega) dL_law_1126 dL_law_1127 dL_law_1128 dL_law_1129 dL_law_1130 ?_
  refine g_callV_i (a := 74) hC (n' := n2) (κ' := κ2) (X' := X2) (Y' := Y2) (Z' := Z2) (As := [.int (xs (i + 1))]) (rest := [.int r]) mR tw_1820 tw_1817 tw_127 tw_1818 tw_1819 (ci := 12) rfl (by decide) (kk_74 hL1) (kn_74 hL1) pd_X12_image ⟨by omega, by omega⟩ ⟨by omega, by omega⟩ rfl rfl (Nat.le_of_ble_eq_true rfl) rfl dL_law_1131 ?_
  refine g_icmp_eq hC 1162 dL_law_1134 (by decide) (fun _ => ?_) (fun hne => absurd rfl hne)
  exact g_widen (by omega) (by omega) (k n2 κ2 X2 Y2 Z2 hI2)
theorem law_31 (hC : gC l b0 D K RL cL_law ret 4 2048 84000 600000 7302250) (hS : gSc b0 K b L xs) {i cs ss : Nat} (hi : i + 6 ≤ L) (hL : L ≤ 3072) (hcs : cs + 350 ≤ 600000) (hss : ss + 4692 ≤ 7302250) (hI : INV n κ X Z) (k : ∀ n κ X Y Z, INV n κ X Z → gV l b0 D K (n, κ, X, Y, Z, cs + 350, ss + 4692) 1162 [(3, .int (nI i)), (2, .ref (b0 + 74)), (1, .ref (b0 + 0)), (0, .ref b)] []) : gV l b0 D K (n, κ, X, Y, Z, cs, ss) 1139 [(3, .int (nI i)), (2, .ref (b0 + 74)), (1, .ref (b0 + 0)), (0, .ref b)] [] := by
  obtain ⟨r, n1, κ1, X1, Y1, Z1, n2, κ2, X2, Y2, Z2, ⟨fr, lo, mc, ms, f1, f2, f3, f4, mC⟩, ⟨hL1, fr2, lo2, mc2, ms2, g1, g2, g3, g4, mR⟩, hI2⟩ := k_back (Y := Y) (b0 := b0) (D := D) l hI (xs (i + 1))
  refine g_aload_n hC 2 dL_law_1139 rfl rfl ?_
  refine law_arg hC hS (j := 1) hi hL ic_1 (by omega) dL_law_1140 dL_law_1141 dL_law_1142 dL_law_1143 dL_law_1144 ?_
  refine g_callV_i (a := 0) hC (n' := n1) (κ' := κ1) (X' := X1) (Y' := Y1) (Z' := Z1) (As := [.int (xs (i + 1))]) (rest := []) mC tw_1167 tw_1164 tw_116 tw_1165 tw_1166 (ci := 11) rfl (by decide) (kk_0 hI.1.1) (kn_0 hI.1.1) pd_X11_back ⟨by omega, by omega⟩ ⟨by omega, by omega⟩ rfl rfl (Nat.le_of_ble_eq_true rfl) rfl dL_law_1145 ?_
  refine g_aload_n hC 1 dL_law_1148 rfl rfl ?_
  refine law_arg hC hS (j := 1) hi hL ic_1 (by omega) dL_law_1149 dL_law_1150 dL_law_1151 dL_law_1152 dL_law_1153 ?_
  refine g_callV_i (a := 74) hC (n' := n2) (κ' := κ2) (X' := X2) (Y' := Y2) (Z' := Z2) (As := [.int (xs (i + 1))]) (rest := [.int r]) mR tw_1824 tw_1821 tw_127 tw_1822 tw_1823 (ci := 12) rfl (by decide) (kk_74 hL1) (kn_74 hL1) pd_X12_back ⟨by omega, by omega⟩ ⟨by omega, by omega⟩ rfl rfl (Nat.le_of_ble_eq_true rfl) rfl dL_law_1154 ?_
  refine g_icmp_eq hC 1162 dL_law_1157 (by decide) (fun _ => ?_) (fun hne => absurd rfl hne)
  exact g_widen (by omega) (by omega) (k n2 κ2 X2 Y2 Z2 hI2)
theorem law_sw (hC : gC l b0 D K RL cL_law ret 4 2048 84000 600000 7302250) (hS : gSc b0 K b L xs) {i cs ss : Nat} (hi : i + 6 ≤ L) (hL : L ≤ 3072) (hcs : cs + 350 ≤ 600000) (hss : ss + 4692 ≤ 7302250) (hI : INV n κ X Z) (k : ∀ n κ X Y Z, INV n κ X Z → gV l b0 D K (n, κ, X, Y, Z, cs + 350, ss + 4692) 1162 [(3, .int (nI i)), (2, .ref (b0 + 74)), (1, .ref (b0 + 0)), (0, .ref b)] []) (v : Nat) (hv : v < 32) : gV l b0 D K (n, κ, X, Y, Z, cs, ss) 33 [(3, .int (nI i)), (2, .ref (b0 + 74)), (1, .ref (b0 + 0)), (0, .ref b)] [.int (nI v)] := by
  match v, hv with
  | 0, _ => exact g_tabIn hC (x := nI 0) 176 dL_law_33 (by decide) (by decide) rfl (by decide) (law_0 hC hS hi hL hcs hss hI k)
  | 1, _ => exact g_tabIn hC (x := nI 1) 239 dL_law_33 (by decide) (by decide) rfl (by decide) (law_1 hC hS hi hL hcs hss hI k)
  | 2, _ => exact g_tabIn hC (x := nI 2) 262 dL_law_33 (by decide) (by decide) rfl (by decide) (law_2 hC hS hi hL hcs hss hI k)
  | 3, _ => exact g_tabIn hC (x := nI 3) 275 dL_law_33 (by decide) (by decide) rfl (by decide) (law_3 hC hS hi hL hcs hss hI k)
  | 4, _ => exact g_tabIn hC (x := nI 4) 288 dL_law_33 (by decide) (by decide) rfl (by decide) (law_4 hC hS hi hL hcs hss hI k)
  | 5, _ => exact g_tabIn hC (x := nI 5) 311 dL_law_33 (by decide) (by decide) rfl (by decide) (law_5 hC hS hi hL hcs hss hI k)
  | 6, _ => exact g_tabIn hC (x := nI 6) 344 dL_law_33 (by decide) (by decide) rfl (by decide) (law_6 hC hS hi hL hcs hss hI k)
  | 7, _ => exact g_tabIn hC (x := nI 7) 377 dL_law_33 (by decide) (by decide) rfl (by decide) (law_7 hC hS hi hL hcs hss hI k)
  | 8, _ => exact g_tabIn hC (x := nI 8) 390 dL_law_33 (by decide) (by decide) rfl (by decide) (law_8 hC hS hi hL hcs hss hI k)
  | 9, _ => exact g_tabIn hC (x := nI 9) 423 dL_law_33 (by decide) (by decide) rfl (by decide) (law_9 hC hS hi hL hcs hss hI k)
  | 10, _ => exact g_tabIn hC (x := nI 10) 466 dL_law_33 (by decide) (by decide) rfl (by decide) (law_10 hC hS hi hL hcs hss hI k)
  | 11, _ => exact g_tabIn hC (x := nI 11) 499 dL_law_33 (by decide) (by decide) rfl (by decide) (law_11 hC hS hi hL hcs hss hI k)
  | 12, _ => exact g_tabIn hC (x := nI 12) 522 dL_law_33 (by decide) (by decide) rfl (by decide) (law_12 hC hS hi hL hcs hss hI k)
  | 13, _ => exact g_tabIn hC (x := nI 13) 535 dL_law_33 (by decide) (by decide) rfl (by decide) (law_13 hC hS hi hL hcs hss hI k)
  | 14, _ => exact g_tabIn hC (x := nI 14) 578 dL_law_33 (by decide) (by decide) rfl (by decide) (law_14 hC hS hi hL hcs hss hI k)
  | 15, _ => exact g_tabIn hC (x := nI 15) 601 dL_law_33 (by decide) (by decide) rfl (by decide) (law_15 hC hS hi hL hcs hss hI k)
  | 16, _ => exact g_tabIn hC (x := nI 16) 644 dL_law_33 (by decide) (by decide) rfl (by decide) (law_16 hC hS hi hL hcs hss hI k)
  | 17, _ => exact g_tabIn hC (x := nI 17) 667 dL_law_33 (by decide) (by decide) rfl (by decide) (law_17 hC hS hi hL hcs hss hI k)
  | 18, _ => exact g_tabIn hC (x := nI 18) 700 dL_law_33 (by decide) (by decide) rfl (by decide) (law_18 hC hS hi hL hcs hss hI k)
  | 19, _ => exact g_tabIn hC (x := nI 19) 723 dL_law_33 (by decide) (by decide) rfl (by decide) (law_19 hC hS hi hL hcs hss hI k)
  | 20, _ => exact g_tabIn hC (x := nI 20) 776 dL_law_33 (by decide) (by decide) rfl (by decide) (law_20 hC hS hi hL hcs hss hI k)
  | 21, _ => exact g_tabIn hC (x := nI 21) 809 dL_law_33 (by decide) (by decide) rfl (by decide) (law_21 hC hS hi hL hcs hss hI k)
  | 22, _ => exact g_tabIn hC (x := nI 22) 832 dL_law_33 (by decide) (by decide) rfl (by decide) (law_22 hC hS hi hL hcs hss hI k)
  | 23, _ => exact g_tabIn hC (x := nI 23) 885 dL_law_33 (by decide) (by decide) rfl (by decide) (law_23 hC hS hi hL hcs hss hI k)
  | 24, _ => exact g_tabIn hC (x := nI 24) 918 dL_law_33 (by decide) (by decide) rfl (by decide) (law_24 hC hS hi hL hcs hss hI k)
  | 25, _ => exact g_tabIn hC (x := nI 25) 961 dL_law_33 (by decide) (by decide) rfl (by decide) (law_25 hC hS hi hL hcs hss hI k)
  | 26, _ => exact g_tabIn hC (x := nI 26) 984 dL_law_33 (by decide) (by decide) rfl (by decide) (law_26 hC hS hi hL hcs hss hI k)
  | 27, _ => exact g_tabIn hC (x := nI 27) 1017 dL_law_33 (by decide) (by decide) rfl (by decide) (law_27 hC hS hi hL hcs hss hI k)
  | 28, _ => exact g_tabIn hC (x := nI 28) 1040 dL_law_33 (by decide) (by decide) rfl (by decide) (law_28 hC hS hi hL hcs hss hI k)
  | 29, _ => exact g_tabIn hC (x := nI 29) 1093 dL_law_33 (by decide) (by decide) rfl (by decide) (law_29 hC hS hi hL hcs hss hI k)
  | 30, _ => exact g_tabIn hC (x := nI 30) 1116 dL_law_33 (by decide) (by decide) rfl (by decide) (law_30 hC hS hi hL hcs hss hI k)
  | 31, _ => exact g_tabIn hC (x := nI 31) 1139 dL_law_33 (by decide) (by decide) rfl (by decide) (law_31 hC hS hi hL hcs hss hI k)
  | v + 32, hv => omega
/-- the law's loop: each step asks both -/
theorem law_loop (hC : gC l b0 D K RL cL_law ret 4 2048 84000 600000 7302250) (hS : gSc b0 K b L xs) (hL : L ≤ 3072) (hend : ∀ n κ X Y Z i, gV l b0 D K (n, κ, X, Y, Z, 600000, 7302250) 1168 [(3, .int (nI i)), (2, .ref (b0 + 74)), (1, .ref (b0 + 0)), (0, .ref b)] []) : ∀ m i n κ X Y Z, L < i + 6 + 6 * m → i ≤ L + 6 → i = 6 * (512 - m) → m ≤ 512 → INV n κ X Z → gV l b0 D K (n, κ, X, Y, Z, 114 + 350 * (512 - m), 16086 + 4692 * (512 - m)) 18 [(3, .int (nI i)), (2, .ref (b0 + 74)), (1, .ref (b0 + 0)), (0, .ref b)] []
  | m, i, n, κ, X, Y, Z, h1, h2, h3, h4, hI => by
    refine g_iload_n hC 0 dL_law_18 rfl rfl ?_
    refine g_aload_n hC 3 dL_law_19 rfl rfl ?_
    refine g_sclen hC hS dL_law_20 ?_
    refine g_bipush hC dL_law_21 bp_6 ?_
    refine g_isub hC dL_law_23 ?_
    refine g_icmp_gt hC 1168 dL_law_24 (by decide) (fun _ => ?_) (fun hle => ?_)
    · exact g_widen (by omega) (by omega) (hend n κ X Y Z i)
    · have hi : i + 6 ≤ L := by
        refine Nat.not_lt.mp fun hh => hle ?_
        by_cases c : 6 ≤ L
        · rw [show (6 : Int32) = nI 6 from rfl, nsub c]
          exact nI_lt (by omega) (by omega)
        · have hs : ∀ L, L < 6 → nI L - 6 < 0 := by decide
          have h6 := hs L (by omega)
          exact Int32.lt_of_lt_of_le h6 (nI_le (a := 0) (Nat.zero_le _) (by omega))
      match m, h1, h3, h4 with
      | 0, h1, _, _ => omega
      | m + 1, h1, h3, h4 =>
        refine g_aload_n hC 3 dL_law_27 rfl rfl ?_
        refine g_iload_n hC 0 dL_law_28 rfl rfl ?_
        refine g_sld hC hS (inb_in (inbN (by omega) (by omega))) dL_law_29 ?_
        refine g_bipush hC dL_law_30 bp_31 ?_
        refine g_iand hC dL_law_32 ?_
        obtain ⟨v, hv, ev⟩ := and31 (xs (nI i).toNatClampNeg)
        rw [ev]
        refine law_sw hC hS hi hL (by omega) (by omega) hI (fun n κ X Y Z hI => ?_) v hv
        refine g_iinc hC (v := nI (i + 6)) [(3, .int (nI (i + 6))), (2, .ref (b0 + 74)), (1, .ref (b0 + 0)), (0, .ref b)] dL_law_1162 (q := 0) rfl (by rw [show Int32.ofInt 6 = nI 6 from by decide]; exact nI_add i 6) (by decide) rfl ?_
        refine g_goto hC 18 dL_law_1165 (by decide) ?_
        exact g_widen (by omega) (by omega) (law_loop hC hS hL hend m (i + 6) n κ X Y Z (by omega) (by omega) (by omega) (by omega) hI)
/-- the law from its entry -/
theorem law_all (hC : gC l b0 D K RL cL_law ret 4 2048 84000 600000 7302250) (hS : gSc b0 K b L xs) (hL : L ≤ 3072) (hend : ∀ n κ X Y Z i, gV l b0 D K (n, κ, X, Y, Z, 600000, 7302250) 1168 [(3, .int (nI i)), (2, .ref (b0 + 74)), (1, .ref (b0 + 0)), (0, .ref b)] []) : gV l b0 D K (0, fun _ => (0, 0), fun _ _ => 0, fun _ _ => 0, fun _ _ => none, 0, 0) 0 [(0, .ref b)] [] := by
  refine g_newo11 hC tw_137 ⟨by omega, by omega⟩ dL_law_0 ?_
  refine g_dup hC dL_law_3 rfl ?_
  refine g_callI_v (a := 0) hC (n' := 74) (κ' := kB) (X' := xB) (Y' := yB) (Z' := zB) (As := []) (rest := [.ref (b0 + 0)]) (i_X11 l) tw_141 tw_139 tw_116 tw_140 rfl pd_X11_init (by decide) ⟨by omega, by omega⟩ rfl rfl (Nat.le_of_ble_eq_true rfl) rfl dL_law_4 ?_
  refine g_astore_n hC (i := 1) [(1, .ref (b0 + 0)), (0, .ref b)] rfl dL_law_7 (by decide) rfl ?_
  refine g_newo12 hC tw_1168 ⟨by omega, by omega⟩ dL_law_8 ?_
  refine g_dup hC dL_law_11 rfl ?_
  refine g_callI_v (a := 74) hC (n' := 114) (κ' := kD) (X' := xD) (Y' := yD) (Z' := zC) (As := []) (rest := [.ref (b0 + 74)]) (i_X12 l) tw_1172 tw_1170 tw_127 tw_1171 rfl pd_X12_init (by decide) ⟨by omega, by omega⟩ rfl rfl (Nat.le_of_ble_eq_true rfl) rfl dL_law_12 ?_
  refine g_astore_n hC (i := 2) [(2, .ref (b0 + 74)), (1, .ref (b0 + 0)), (0, .ref b)] rfl dL_law_15 (by decide) rfl ?_
  refine g_iconst hC dL_law_16 ic_0 ?_
  refine g_istore_n hC (i := 3) [(3, .int (nI 0)), (2, .ref (b0 + 74)), (1, .ref (b0 + 0)), (0, .ref b)] rfl dL_law_17 (by decide) rfl ?_
  exact law_loop hC hS hL hend 512 0 114 kD xD yD zC (by omega) (by omega) (by omega) (by omega) INV_D
end LAW

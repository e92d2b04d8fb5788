-- X4_joined
def fX4_joined_236     (v1 : Int64) (v3 : Int64) : Option (Int64) := some (v1 ||| v3)
set_option maxHeartbeats 4000000 in
set_option maxRecDepth 100000 in
theorem wX4_joined_236 {l : Launch} {b0 : Nat} {D : GD} {K : KT} {n : Nat} {κ : QT} {X0 : XT} {Y0 : YT} {Z : ZT} (hL : LY n κ) (hN : ([] : List Nat).Nodup) (hM : ([] : List Nat).Nodup) (hC : gC l b0 D K RX4 cX4_joined (some FieldType.long) 5 0 0 0 0) {r : Int64} (hret : ∀ pc loc, decode cX4_joined pc = .ok (.lreturn, 1) → gV l b0 D K (n, κ, ov X0 [] [], ov Y0 [] [], Z, 0, 0) pc loc [.long r]) {v1 : Int64} {v3 : Int64} (hf : fX4_joined_236   v1 v3 = some r) : gV l b0 D K (n, κ, ov X0 [] [], ov Y0 [] [], Z, 0, 0) 236 [(1, .long v1), (3, .long v3)] [] := by
  unfold fX4_joined_236 at hf
  refine g_lload_n hC 0 dX4_joined_236 rfl rfl ?_
  refine g_lload_n hC 1 dX4_joined_237 rfl rfl ?_
  refine g_lor hC dX4_joined_238 ?_
  obtain rfl := sm1E hf
  exact hret _ _ dX4_joined_239

def fX4_joined_0     (v0 : Int32) (v1 : Int64) (v3 : Int64) : Option (Int64) := if v0.toInt = 7 then (some (v1 + v3)) else (if v0.toInt = 8 then (some (v1 - v3)) else (if v0.toInt = 9 then (some (v1 * v3)) else (if v0.toInt = 10 then (if (lg_cmp v3 0) = 0 then (some 0) else (gd (nzL v3) (some (v1 / v3)))) else (if v0.toInt = 11 then (if (lg_cmp v3 0) = 0 then (some 0) else (gd (nzL v3) (some (v1 - v1 / v3 * v3)))) else (if v0.toInt = 12 then (if 0 ≤ (lg_cmp v1 v3) then (some 0) else (some 1)) else (if v0.toInt = 13 then (if 0 < (lg_cmp v1 v3) then (some 0) else (some 1)) else (if v0.toInt = 14 then (if (lg_cmp v1 v3) = 0 then (some 1) else (some 0)) else (if v0.toInt = 15 then (if (lg_cmp v1 v3) < 0 then (some 0) else (some 1)) else (if v0.toInt = 16 then (if (lg_cmp v1 v3) ≤ 0 then (some 0) else (some 1)) else (if v0.toInt = 35 then (some (v1 &&& v3)) else (fX4_joined_236   v1 v3)))))))))))
set_option maxHeartbeats 4000000 in
set_option maxRecDepth 100000 in
theorem wX4_joined_0 {l : Launch} {b0 : Nat} {D : GD} {K : KT} {n : Nat} {κ : QT} {X0 : XT} {Y0 : YT} {Z : ZT} (hL : LY n κ) (hN : ([] : List Nat).Nodup) (hM : ([] : List Nat).Nodup) (hC : gC l b0 D K RX4 cX4_joined (some FieldType.long) 5 0 0 0 0) {r : Int64} (hret : ∀ pc loc, decode cX4_joined pc = .ok (.lreturn, 1) → gV l b0 D K (n, κ, ov X0 [] [], ov Y0 [] [], Z, 0, 0) pc loc [.long r]) {v0 : Int32} {v1 : Int64} {v3 : Int64} (hf : fX4_joined_0   v0 v1 v3 = some r) : gV l b0 D K (n, κ, ov X0 [] [], ov Y0 [] [], Z, 0, 0) 0 [(0, .int v0), (1, .long v1), (3, .long v3)] [] := by
  unfold fX4_joined_0 at hf
  refine g_iload_n hC 0 dX4_joined_0 rfl rfl ?_
  by_cases c_1 : v0.toInt = 7
  · replace hf := ifT hf c_1
    refine g_tabIn hC 132 dX4_joined_1 (by omega) (by omega) (by rw [c_1]; rfl) (by decide) ?_
    refine g_lload_n hC 1 dX4_joined_132 rfl rfl ?_
    refine g_lload_n hC 2 dX4_joined_133 rfl rfl ?_
    refine g_ladd hC dX4_joined_134 ?_
    obtain rfl := sm1E hf
    exact hret _ _ dX4_joined_135
  replace hf := ifF hf c_1
  by_cases c_2 : v0.toInt = 8
  · replace hf := ifT hf c_2
    refine g_tabIn hC 136 dX4_joined_1 (by omega) (by omega) (by rw [c_2]; rfl) (by decide) ?_
    refine g_lload_n hC 1 dX4_joined_136 rfl rfl ?_
    refine g_lload_n hC 2 dX4_joined_137 rfl rfl ?_
    refine g_lsub hC dX4_joined_138 ?_
    obtain rfl := sm1E hf
    exact hret _ _ dX4_joined_139
  replace hf := ifF hf c_2
  by_cases c_3 : v0.toInt = 9
  · replace hf := ifT hf c_3
    refine g_tabIn hC 140 dX4_joined_1 (by omega) (by omega) (by rw [c_3]; rfl) (by decide) ?_
    refine g_lload_n hC 1 dX4_joined_140 rfl rfl ?_
    refine g_lload_n hC 2 dX4_joined_141 rfl rfl ?_
    refine g_lmul hC dX4_joined_142 ?_
    obtain rfl := sm1E hf
    exact hret _ _ dX4_joined_143
  replace hf := ifF hf c_3
  by_cases c_4 : v0.toInt = 10
  · replace hf := ifT hf c_4
    refine g_tabIn hC 144 dX4_joined_1 (by omega) (by omega) (by rw [c_4]; rfl) (by decide) ?_
    refine g_lload_n hC 2 dX4_joined_144 rfl rfl ?_
    refine g_lconst hC (v := 0) dX4_joined_145 rfl ?_
    refine g_lcmp hC dX4_joined_146 ?_
    refine g_if_ne hC 154 dX4_joined_147 (by decide) (fun hc => ?_) (fun hc => ?_)
    · replace hf := ifF hf hc
      refine g_lload_n hC 1 dX4_joined_154 rfl rfl ?_
      refine g_lload_n hC 2 dX4_joined_155 rfl rfl ?_
      obtain ⟨h_5, hf⟩ := gdE hf
      refine g_ldiv hC dX4_joined_156 (nzLE h_5) ?_
      obtain rfl := sm1E hf
      exact hret _ _ dX4_joined_157
    · replace hf := ifT hf hc
      refine g_lconst hC (v := 0) dX4_joined_150 rfl ?_
      refine g_goto hC 157 dX4_joined_151 (by decide) ?_
      obtain rfl := sm1E hf
      exact hret _ _ dX4_joined_157
  replace hf := ifF hf c_4
  by_cases c_6 : v0.toInt = 11
  · replace hf := ifT hf c_6
    refine g_tabIn hC 158 dX4_joined_1 (by omega) (by omega) (by rw [c_6]; rfl) (by decide) ?_
    refine g_lload_n hC 2 dX4_joined_158 rfl rfl ?_
    refine g_lconst hC (v := 0) dX4_joined_159 rfl ?_
    refine g_lcmp hC dX4_joined_160 ?_
    refine g_if_ne hC 168 dX4_joined_161 (by decide) (fun hc => ?_) (fun hc => ?_)
    · replace hf := ifF hf hc
      refine g_lload_n hC 1 dX4_joined_168 rfl rfl ?_
      refine g_lload_n hC 2 dX4_joined_169 rfl rfl ?_
      obtain ⟨h_7, hf⟩ := gdE hf
      refine g_lrem hC dX4_joined_170 (nzLE h_7) ?_
      obtain rfl := sm1E hf
      exact hret _ _ dX4_joined_171
    · replace hf := ifT hf hc
      refine g_lconst hC (v := 0) dX4_joined_164 rfl ?_
      refine g_goto hC 171 dX4_joined_165 (by decide) ?_
      obtain rfl := sm1E hf
      exact hret _ _ dX4_joined_171
  replace hf := ifF hf c_6
  by_cases c_8 : v0.toInt = 12
  · replace hf := ifT hf c_8
    refine g_tabIn hC 172 dX4_joined_1 (by omega) (by omega) (by rw [c_8]; rfl) (by decide) ?_
    refine g_lload_n hC 1 dX4_joined_172 rfl rfl ?_
    refine g_lload_n hC 2 dX4_joined_173 rfl rfl ?_
    refine g_lcmp hC dX4_joined_174 ?_
    refine g_if_ge hC 182 dX4_joined_175 (by decide) (fun hc => ?_) (fun hc => ?_)
    · replace hf := ifT hf hc
      refine g_lconst hC (v := 0) dX4_joined_182 rfl ?_
      obtain rfl := sm1E hf
      exact hret _ _ dX4_joined_183
    · replace hf := ifF hf hc
      refine g_lconst hC (v := 1) dX4_joined_178 rfl ?_
      refine g_goto hC 183 dX4_joined_179 (by decide) ?_
      obtain rfl := sm1E hf
      exact hret _ _ dX4_joined_183
  replace hf := ifF hf c_8
  by_cases c_9 : v0.toInt = 13
  · replace hf := ifT hf c_9
    refine g_tabIn hC 184 dX4_joined_1 (by omega) (by omega) (by rw [c_9]; rfl) (by decide) ?_
    refine g_lload_n hC 1 dX4_joined_184 rfl rfl ?_
    refine g_lload_n hC 2 dX4_joined_185 rfl rfl ?_
    refine g_lcmp hC dX4_joined_186 ?_
    refine g_if_gt hC 194 dX4_joined_187 (by decide) (fun hc => ?_) (fun hc => ?_)
    · replace hf := ifT hf hc
      refine g_lconst hC (v := 0) dX4_joined_194 rfl ?_
      obtain rfl := sm1E hf
      exact hret _ _ dX4_joined_195
    · replace hf := ifF hf hc
      refine g_lconst hC (v := 1) dX4_joined_190 rfl ?_
      refine g_goto hC 195 dX4_joined_191 (by decide) ?_
      obtain rfl := sm1E hf
      exact hret _ _ dX4_joined_195
  replace hf := ifF hf c_9
  by_cases c_10 : v0.toInt = 14
  · replace hf := ifT hf c_10
    refine g_tabIn hC 196 dX4_joined_1 (by omega) (by omega) (by rw [c_10]; rfl) (by decide) ?_
    refine g_lload_n hC 1 dX4_joined_196 rfl rfl ?_
    refine g_lload_n hC 2 dX4_joined_197 rfl rfl ?_
    refine g_lcmp hC dX4_joined_198 ?_
    refine g_if_ne hC 206 dX4_joined_199 (by decide) (fun hc => ?_) (fun hc => ?_)
    · replace hf := ifF hf hc
      refine g_lconst hC (v := 0) dX4_joined_206 rfl ?_
      obtain rfl := sm1E hf
      exact hret _ _ dX4_joined_207
    · replace hf := ifT hf hc
      refine g_lconst hC (v := 1) dX4_joined_202 rfl ?_
      refine g_goto hC 207 dX4_joined_203 (by decide) ?_
      obtain rfl := sm1E hf
      exact hret _ _ dX4_joined_207
  replace hf := ifF hf c_10
  by_cases c_11 : v0.toInt = 15
  · replace hf := ifT hf c_11
    refine g_tabIn hC 208 dX4_joined_1 (by omega) (by omega) (by rw [c_11]; rfl) (by decide) ?_
    refine g_lload_n hC 1 dX4_joined_208 rfl rfl ?_
    refine g_lload_n hC 2 dX4_joined_209 rfl rfl ?_
    refine g_lcmp hC dX4_joined_210 ?_
    refine g_if_lt hC 218 dX4_joined_211 (by decide) (fun hc => ?_) (fun hc => ?_)
    · replace hf := ifT hf hc
      refine g_lconst hC (v := 0) dX4_joined_218 rfl ?_
      obtain rfl := sm1E hf
      exact hret _ _ dX4_joined_219
    · replace hf := ifF hf hc
      refine g_lconst hC (v := 1) dX4_joined_214 rfl ?_
      refine g_goto hC 219 dX4_joined_215 (by decide) ?_
      obtain rfl := sm1E hf
      exact hret _ _ dX4_joined_219
  replace hf := ifF hf c_11
  by_cases c_12 : v0.toInt = 16
  · replace hf := ifT hf c_12
    refine g_tabIn hC 220 dX4_joined_1 (by omega) (by omega) (by rw [c_12]; rfl) (by decide) ?_
    refine g_lload_n hC 1 dX4_joined_220 rfl rfl ?_
    refine g_lload_n hC 2 dX4_joined_221 rfl rfl ?_
    refine g_lcmp hC dX4_joined_222 ?_
    refine g_if_le hC 230 dX4_joined_223 (by decide) (fun hc => ?_) (fun hc => ?_)
    · replace hf := ifT hf hc
      refine g_lconst hC (v := 0) dX4_joined_230 rfl ?_
      obtain rfl := sm1E hf
      exact hret _ _ dX4_joined_231
    · replace hf := ifF hf hc
      refine g_lconst hC (v := 1) dX4_joined_226 rfl ?_
      refine g_goto hC 231 dX4_joined_227 (by decide) ?_
      obtain rfl := sm1E hf
      exact hret _ _ dX4_joined_231
  replace hf := ifF hf c_12
  by_cases c_13 : v0.toInt = 35
  · replace hf := ifT hf c_13
    refine g_tabIn hC 232 dX4_joined_1 (by omega) (by omega) (by rw [c_13]; rfl) (by decide) ?_
    refine g_lload_n hC 1 dX4_joined_232 rfl rfl ?_
    refine g_lload_n hC 2 dX4_joined_233 rfl rfl ?_
    refine g_land hC dX4_joined_234 ?_
    obtain rfl := sm1E hf
    exact hret _ _ dX4_joined_235
  replace hf := ifF hf c_13
  by_cases c_14 : v0.toInt = 17
  · refine g_tabIn hC 236 dX4_joined_1 (by omega) (by omega) (by rw [c_14]; rfl) (by decide) ?_
    exact g_sub [1, 2] rfl (wX4_joined_236 hL hN hM hC  hret  hf)
  by_cases c_15 : v0.toInt = 18
  · refine g_tabIn hC 236 dX4_joined_1 (by omega) (by omega) (by rw [c_15]; rfl) (by decide) ?_
    exact g_sub [1, 2] rfl (wX4_joined_236 hL hN hM hC  hret  hf)
  by_cases c_16 : v0.toInt = 19
  · refine g_tabIn hC 236 dX4_joined_1 (by omega) (by omega) (by rw [c_16]; rfl) (by decide) ?_
    exact g_sub [1, 2] rfl (wX4_joined_236 hL hN hM hC  hret  hf)
  by_cases c_17 : v0.toInt = 20
  · refine g_tabIn hC 236 dX4_joined_1 (by omega) (by omega) (by rw [c_17]; rfl) (by decide) ?_
    exact g_sub [1, 2] rfl (wX4_joined_236 hL hN hM hC  hret  hf)
  by_cases c_18 : v0.toInt = 21
  · refine g_tabIn hC 236 dX4_joined_1 (by omega) (by omega) (by rw [c_18]; rfl) (by decide) ?_
    exact g_sub [1, 2] rfl (wX4_joined_236 hL hN hM hC  hret  hf)
  by_cases c_19 : v0.toInt = 22
  · refine g_tabIn hC 236 dX4_joined_1 (by omega) (by omega) (by rw [c_19]; rfl) (by decide) ?_
    exact g_sub [1, 2] rfl (wX4_joined_236 hL hN hM hC  hret  hf)
  by_cases c_20 : v0.toInt = 23
  · refine g_tabIn hC 236 dX4_joined_1 (by omega) (by omega) (by rw [c_20]; rfl) (by decide) ?_
    exact g_sub [1, 2] rfl (wX4_joined_236 hL hN hM hC  hret  hf)
  by_cases c_21 : v0.toInt = 24
  · refine g_tabIn hC 236 dX4_joined_1 (by omega) (by omega) (by rw [c_21]; rfl) (by decide) ?_
    exact g_sub [1, 2] rfl (wX4_joined_236 hL hN hM hC  hret  hf)
  by_cases c_22 : v0.toInt = 25
  · refine g_tabIn hC 236 dX4_joined_1 (by omega) (by omega) (by rw [c_22]; rfl) (by decide) ?_
    exact g_sub [1, 2] rfl (wX4_joined_236 hL hN hM hC  hret  hf)
  by_cases c_23 : v0.toInt = 26
  · refine g_tabIn hC 236 dX4_joined_1 (by omega) (by omega) (by rw [c_23]; rfl) (by decide) ?_
    exact g_sub [1, 2] rfl (wX4_joined_236 hL hN hM hC  hret  hf)
  by_cases c_24 : v0.toInt = 27
  · refine g_tabIn hC 236 dX4_joined_1 (by omega) (by omega) (by rw [c_24]; rfl) (by decide) ?_
    exact g_sub [1, 2] rfl (wX4_joined_236 hL hN hM hC  hret  hf)
  by_cases c_25 : v0.toInt = 28
  · refine g_tabIn hC 236 dX4_joined_1 (by omega) (by omega) (by rw [c_25]; rfl) (by decide) ?_
    exact g_sub [1, 2] rfl (wX4_joined_236 hL hN hM hC  hret  hf)
  by_cases c_26 : v0.toInt = 29
  · refine g_tabIn hC 236 dX4_joined_1 (by omega) (by omega) (by rw [c_26]; rfl) (by decide) ?_
    exact g_sub [1, 2] rfl (wX4_joined_236 hL hN hM hC  hret  hf)
  by_cases c_27 : v0.toInt = 30
  · refine g_tabIn hC 236 dX4_joined_1 (by omega) (by omega) (by rw [c_27]; rfl) (by decide) ?_
    exact g_sub [1, 2] rfl (wX4_joined_236 hL hN hM hC  hret  hf)
  by_cases c_28 : v0.toInt = 31
  · refine g_tabIn hC 236 dX4_joined_1 (by omega) (by omega) (by rw [c_28]; rfl) (by decide) ?_
    exact g_sub [1, 2] rfl (wX4_joined_236 hL hN hM hC  hret  hf)
  by_cases c_29 : v0.toInt = 32
  · refine g_tabIn hC 236 dX4_joined_1 (by omega) (by omega) (by rw [c_29]; rfl) (by decide) ?_
    exact g_sub [1, 2] rfl (wX4_joined_236 hL hN hM hC  hret  hf)
  by_cases c_30 : v0.toInt = 33
  · refine g_tabIn hC 236 dX4_joined_1 (by omega) (by omega) (by rw [c_30]; rfl) (by decide) ?_
    exact g_sub [1, 2] rfl (wX4_joined_236 hL hN hM hC  hret  hf)
  by_cases c_31 : v0.toInt = 34
  · refine g_tabIn hC 236 dX4_joined_1 (by omega) (by omega) (by rw [c_31]; rfl) (by decide) ?_
    exact g_sub [1, 2] rfl (wX4_joined_236 hL hN hM hC  hret  hf)
  refine g_tabOut hC 236 dX4_joined_1 (by omega) (by decide) ?_
  exact g_sub [1, 2] rfl (wX4_joined_236 hL hN hM hC  hret  hf)

def fX4_joined     (v0 : Int32) (v1 : Int64) (v3 : Int64)   : Option (Int64) := fX4_joined_0  v0 v1 v3

set_option maxHeartbeats 4000000 in
set_option maxRecDepth 100000 in
theorem c_X4_joined (l : Launch) {b0 : Nat} {D : GD} {n : Nat} {κ : QT} {X0 : XT} {Y0 : YT} {Z : ZT} (hL : LY n κ) (hx : ([] : List Nat).map X0 = []) (hy : ([] : List Nat).map Y0 = []) {v0 : Int32} {v1 : Int64} {v3 : Int64} {r : Int64} (hf : fX4_joined  v0 v1 v3 = some r) : gMl l yX4_joined cX4_joined 5 (some FieldType.long) 0 0 0 0 b0 D [.int v0, .long v1, .long v3] (n, κ, X0, Y0, Z) (n, κ, ov X0 [] [], ov Y0 [] [], Z) r := by
  have hN : ([] : List Nat).Nodup := by decide
  have hM : ([] : List Nat).Nodup := by decide
  refine g_metl (own := RX4) (by decide) rfl rfl (Nat.le_of_ble_eq_true rfl) ?_
  intro K hC hret
  have e := wX4_joined_0 hL hN hM hC  hret hf
  rw [ov_id' hx, ov_id' hy] at e
  exact g_sub [0, 1, 2] rfl e

-- X4_worth
def fX4_worth_216  (Lru : Nat) (xruz1 : Nat → Int32) (y34 : Nat → Int64) (k4 : Int32 → Int32 → (Nat → Int64) → Option (Int64 × (Nat → Int64))) (v2 : Int32) (v3 : Int32) (yruz2 : (Nat → Int64)) : Option (Int64 × (Nat → Int64)) := bn (v3 + 1) fun t_1 => (k4 v2 t_1 yruz2)
set_option maxHeartbeats 4000000 in
set_option maxRecDepth 100000 in
theorem wX4_worth_216 {l : Launch} {b0 : Nat} {D : GD} {K : KT} {n : Nat} {κ : QT} {X0 : XT} {Y0 : YT} {Z : ZT} {ru : Nat} {Lru : Nat} (hL : LY n κ) (hk_ru : κ ru = (4, 0)) (hn_ru : ru < n) (hk_ru_1 : κ (ru + 1) = (14, Lru)) (hN : ([ru + 1] : List Nat).Nodup) (hM : ([ru + 2, 34] : List Nat).Nodup) (hC : gC l b0 D K RX4 cX4_worth (some FieldType.long) 5 1 24 0 0) {xruz1 : Nat → Int32} {y34 : Nat → Int64} {r : Int64} {ryruz2 : (Nat → Int64)} (hret : ∀ pc loc, decode cX4_worth pc = .ok (.lreturn, 1) → gV l b0 D K (n, κ, ov X0 [ru + 1] [xruz1], ov Y0 [ru + 2, 34] [ryruz2, y34], Z, 0, 0) pc loc [.long r]) {k4 : Int32 → Int32 → (Nat → Int64) → Option (Int64 × (Nat → Int64))} (hk4 : ∀ (v2 : Int32) (v3 : Int32) (yruz2 : (Nat → Int64)), k4 v2 v3 yruz2 = some (r, ryruz2) → gV l b0 D K (n, κ, ov X0 [ru + 1] [xruz1], ov Y0 [ru + 2, 34] [yruz2, y34], Z, 0, 0) 4 [(0, .ref (b0 + ru)), (1, .ref (b0 + 34)), (2, .int v2), (3, .int v3)] []) {v2 : Int32} {v3 : Int32} {yruz2 : (Nat → Int64)} (hf : fX4_worth_216 Lru xruz1 y34 k4 v2 v3 yruz2 = some (r, ryruz2)) : gV l b0 D K (n, κ, ov X0 [ru + 1] [xruz1], ov Y0 [ru + 2, 34] [yruz2, y34], Z, 0, 0) 216 [(0, .ref (b0 + ru)), (1, .ref (b0 + 34)), (2, .int v2), (3, .int v3)] [] := by
  unfold fX4_worth_216 at hf
  obtain ⟨t_1, et_1, hf⟩ := bnE hf
  refine g_iinc hC (i := 3) (v := t_1) [(3, .int t_1), (0, .ref (b0 + ru)), (1, .ref (b0 + 34)), (2, .int v2)] dX4_worth_216 (q := 3) rfl ((congrArg (HAdd.hAdd v3) ic_1).trans et_1.symm) (by decide) rfl ?_
  refine g_goto hC 4 dX4_worth_219 (by decide) ?_
  exact g_sub [1, 2, 3, 0] rfl (hk4 v2 t_1 yruz2 hf)

def fX4_worth_142  (Lru : Nat) (xruz1 : Nat → Int32) (y34 : Nat → Int64) (k4 : Int32 → Int32 → (Nat → Int64) → Option (Int64 × (Nat → Int64))) (v2 : Int32) (v3 : Int32) (v4 : Int32) (yruz2 : (Nat → Int64)) : Option (Int64 × (Nat → Int64)) := if 2 ≤ v2 then (if v4 = 38 then (gd (inb (v2 - 1) 40) (if (lg_cmp (yruz2 (v2 - 1).toNatClampNeg) 1) = 0 then (gd (inb (v2 - 2) 40) (some (yruz2 (v2 - 2).toNatClampNeg, yruz2))) else (bn (v2 + (-2)) fun t_2 => (fX4_worth_216 Lru xruz1 y34 k4 t_2 v3 yruz2)))) else (gd (inb (v2 - 2) 40) (gd (inb (v2 - 1) 40) (bd1 (fX4_joined v4 (yruz2 (v2 - 2).toNatClampNeg) (yruz2 (v2 - 1).toNatClampNeg)) fun r_6 => (gd (inb (v2 - 2) 40) (bn (v2 + (-1)) fun t_9 => (fX4_worth_216 Lru xruz1 y34 k4 t_9 v3 (vp_updL yruz2 (v2 - 2).toNatClampNeg r_6)))))))) else (some (0, yruz2))
set_option maxHeartbeats 4000000 in
set_option maxRecDepth 100000 in
theorem wX4_worth_142 {l : Launch} {b0 : Nat} {D : GD} {K : KT} {n : Nat} {κ : QT} {X0 : XT} {Y0 : YT} {Z : ZT} {ru : Nat} {Lru : Nat} (hL : LY n κ) (hk_ru : κ ru = (4, 0)) (hn_ru : ru < n) (hk_ru_1 : κ (ru + 1) = (14, Lru)) (hN : ([ru + 1] : List Nat).Nodup) (hM : ([ru + 2, 34] : List Nat).Nodup) (hC : gC l b0 D K RX4 cX4_worth (some FieldType.long) 5 1 24 0 0) {xruz1 : Nat → Int32} {y34 : Nat → Int64} {r : Int64} {ryruz2 : (Nat → Int64)} (hret : ∀ pc loc, decode cX4_worth pc = .ok (.lreturn, 1) → gV l b0 D K (n, κ, ov X0 [ru + 1] [xruz1], ov Y0 [ru + 2, 34] [ryruz2, y34], Z, 0, 0) pc loc [.long r]) {k4 : Int32 → Int32 → (Nat → Int64) → Option (Int64 × (Nat → Int64))} (hk4 : ∀ (v2 : Int32) (v3 : Int32) (yruz2 : (Nat → Int64)), k4 v2 v3 yruz2 = some (r, ryruz2) → gV l b0 D K (n, κ, ov X0 [ru + 1] [xruz1], ov Y0 [ru + 2, 34] [yruz2, y34], Z, 0, 0) 4 [(0, .ref (b0 + ru)), (1, .ref (b0 + 34)), (2, .int v2), (3, .int v3)] []) {v2 : Int32} {v3 : Int32} {v4 : Int32} {yruz2 : (Nat → Int64)} (hf : fX4_worth_142 Lru xruz1 y34 k4 v2 v3 v4 yruz2 = some (r, ryruz2)) : gV l b0 D K (n, κ, ov X0 [ru + 1] [xruz1], ov Y0 [ru + 2, 34] [yruz2, y34], Z, 0, 0) 142 [(0, .ref (b0 + ru)), (1, .ref (b0 + 34)), (2, .int v2), (3, .int v3), (4, .int v4)] [] := by
  unfold fX4_worth_142 at hf
  refine g_iload_n hC 2 dX4_worth_142 rfl rfl ?_
  refine g_iconst hC (v := 2) dX4_worth_143 ic_2 ?_
  refine g_icmp_ge hC 149 dX4_worth_144 (by decide) (fun hc => ?_) (fun hc => ?_)
  · replace hf := ifT hf hc
    refine g_iload hC 4 dX4_worth_149 rfl ?_
    refine g_bipush hC (v := 38) dX4_worth_151 bp_38 ?_
    refine g_icmp_eq hC 191 dX4_worth_153 (by decide) (fun hc => ?_) (fun hc => ?_)
    · replace hf := ifT hf hc
      refine g_aload_n hC 0 dX4_worth_191 rfl rfl ?_
      refine gt_X4_11 hC (a := ru) hk_ru hn_ru dX4_worth_192 ?_
      refine g_ref (b := (ru + 2)) rfl ?_
      refine g_iload_n hC 2 dX4_worth_195 rfl rfl ?_
      refine g_iconst hC (v := 1) dX4_worth_196 ic_1 ?_
      refine g_isub hC dX4_worth_197 ?_
      obtain ⟨h_1, hf⟩ := gdE hf
      refine g_lald hC (x := yruz2) (LR2 hL hk_ru hn_ru) (LRn2 hL hk_ru hn_ru) (ov_get hM 0 rfl rfl) (inb_in h_1) dX4_worth_198 ?_
      refine g_lconst hC (v := 1) dX4_worth_199 rfl ?_
      refine g_lcmp hC dX4_worth_200 ?_
      refine g_if_ne hC 213 dX4_worth_201 (by decide) (fun hc => ?_) (fun hc => ?_)
      · replace hf := ifF hf hc
        obtain ⟨t_2, et_2, hf⟩ := bnE hf
        refine g_iinc hC (i := 2) (v := t_2) [(2, .int t_2), (0, .ref (b0 + ru)), (1, .ref (b0 + 34)), (3, .int v3), (4, .int v4)] dX4_worth_213 (q := 2) rfl ((congrArg (HAdd.hAdd v2) ic_m2).trans et_2.symm) (by decide) rfl ?_
        exact g_sub [1, 2, 0, 3] rfl (wX4_worth_216 hL hk_ru hn_ru hk_ru_1 hN hM hC  hret hk4 hf)
      · replace hf := ifT hf hc
        refine g_aload_n hC 0 dX4_worth_204 rfl rfl ?_
        refine gt_X4_11 hC (a := ru) hk_ru hn_ru dX4_worth_205 ?_
        refine g_ref (b := (ru + 2)) rfl ?_
        refine g_iload_n hC 2 dX4_worth_208 rfl rfl ?_
        refine g_iconst hC (v := 2) dX4_worth_209 ic_2 ?_
        refine g_isub hC dX4_worth_210 ?_
        obtain ⟨h_3, hf⟩ := gdE hf
        refine g_lald hC (x := yruz2) (LR2 hL hk_ru hn_ru) (LRn2 hL hk_ru hn_ru) (ov_get hM 0 rfl rfl) (inb_in h_3) dX4_worth_211 ?_
        obtain ⟨rfl, rfl⟩ := sm2E hf
        exact hret _ _ dX4_worth_212
    · replace hf := ifF hf hc
      refine g_aload_n hC 0 dX4_worth_156 rfl rfl ?_
      refine gt_X4_11 hC (a := ru) hk_ru hn_ru dX4_worth_157 ?_
      refine g_ref (b := (ru + 2)) rfl ?_
      refine g_iload_n hC 2 dX4_worth_160 rfl rfl ?_
      refine g_iconst hC (v := 2) dX4_worth_161 ic_2 ?_
      refine g_isub hC dX4_worth_162 ?_
      refine g_iload hC 4 dX4_worth_163 rfl ?_
      refine g_aload_n hC 0 dX4_worth_165 rfl rfl ?_
      refine gt_X4_11 hC (a := ru) hk_ru hn_ru dX4_worth_166 ?_
      refine g_ref (b := (ru + 2)) rfl ?_
      refine g_iload_n hC 2 dX4_worth_169 rfl rfl ?_
      refine g_iconst hC (v := 2) dX4_worth_170 ic_2 ?_
      refine g_isub hC dX4_worth_171 ?_
      obtain ⟨h_4, hf⟩ := gdE hf
      refine g_lald hC (x := yruz2) (LR2 hL hk_ru hn_ru) (LRn2 hL hk_ru hn_ru) (ov_get hM 0 rfl rfl) (inb_in h_4) dX4_worth_172 ?_
      refine g_aload_n hC 0 dX4_worth_173 rfl rfl ?_
      refine gt_X4_11 hC (a := ru) hk_ru hn_ru dX4_worth_174 ?_
      refine g_ref (b := (ru + 2)) rfl ?_
      refine g_iload_n hC 2 dX4_worth_177 rfl rfl ?_
      refine g_iconst hC (v := 1) dX4_worth_178 ic_1 ?_
      refine g_isub hC dX4_worth_179 ?_
      obtain ⟨h_5, hf⟩ := gdE hf
      refine g_lald hC (x := yruz2) (LR2 hL hk_ru hn_ru) (LRn2 hL hk_ru hn_ru) (ov_get hM 0 rfl rfl) (inb_in h_5) dX4_worth_180 ?_
      obtain ⟨r_6, q_7, hf⟩ := bd1E hf
      refine g_callS_l hC (X' := ov X0 [ru + 1] [xruz1]) (Y' := ov Y0 [ru + 2, 34] [yruz2, y34]) (As := [.int v4, .long (yruz2 (v2 - 2).toNatClampNeg), .long (yruz2 (v2 - 1).toNatClampNeg)]) (gMl_eq (c_X4_joined l hL (ov_map hN [] (by rfl) (by rfl)) (ov_map hM [] (by rfl) (by rfl)) q_7) (ov_ovE hN (by rfl) [] [0] (by rfl) (by rfl) [xruz1] (by rfl) (by rfl) (by rfl) 1 (by rfl) (by decide)) (ov_ovE hM (by rfl) [] [0, 1] (by rfl) (by rfl) [yruz2, y34] (by rfl) (by rfl) (by rfl) 2 (by rfl) (by decide))) tw_900 tw_898 tw_134 tw_899 pd_X4_joined (by decide) (by decide) rfl rfl (Nat.le_of_ble_eq_true rfl) rfl dX4_worth_181 ?_
      obtain ⟨h_8, hf⟩ := gdE hf
      refine g_last hC (x := yruz2) (LR2 hL hk_ru hn_ru) (LRn2 hL hk_ru hn_ru) (ov_get hM 0 rfl rfl) (inb_in h_8) (ov_set hM (by rfl) 0 (by rfl)) dX4_worth_184 ?_
      show gV l b0 D K (n, κ, ov X0 [ru + 1] [xruz1], ov Y0 [ru + 2, 34] [(vp_updL yruz2 (v2 - 2).toNatClampNeg r_6), y34], Z, 0, 0) 185 [(0, .ref (b0 + ru)), (1, .ref (b0 + 34)), (2, .int v2), (3, .int v3), (4, .int v4)] []
      obtain ⟨t_9, et_9, hf⟩ := bnE hf
      refine g_iinc hC (i := 2) (v := t_9) [(2, .int t_9), (0, .ref (b0 + ru)), (1, .ref (b0 + 34)), (3, .int v3), (4, .int v4)] dX4_worth_185 (q := 2) rfl ((congrArg (HAdd.hAdd v2) ic_m1).trans et_9.symm) (by decide) rfl ?_
      refine g_goto hC 216 dX4_worth_188 (by decide) ?_
      exact g_sub [1, 2, 0, 3] rfl (wX4_worth_216 hL hk_ru hn_ru hk_ru_1 hN hM hC  hret hk4 hf)
  · replace hf := ifF hf hc
    refine g_lconst hC (v := 0) dX4_worth_147 rfl ?_
    obtain ⟨rfl, rfl⟩ := sm2E hf
    exact hret _ _ dX4_worth_148

def fX4_worth_121  (Lru : Nat) (xruz1 : Nat → Int32) (y34 : Nat → Int64) (k4 : Int32 → Int32 → (Nat → Int64) → Option (Int64 × (Nat → Int64))) (v2 : Int32) (v3 : Int32) (v4 : Int32) (yruz2 : (Nat → Int64)) : Option (Int64 × (Nat → Int64)) := if v2 < 1 then (fX4_worth_142 Lru xruz1 y34 k4 v2 v3 v4 yruz2) else (if v4 = 37 then (gd (inb (v2 - 1) 40) (some (yruz2 (v2 - 1).toNatClampNeg, yruz2))) else (fX4_worth_142 Lru xruz1 y34 k4 v2 v3 v4 yruz2))
set_option maxHeartbeats 4000000 in
set_option maxRecDepth 100000 in
theorem wX4_worth_121 {l : Launch} {b0 : Nat} {D : GD} {K : KT} {n : Nat} {κ : QT} {X0 : XT} {Y0 : YT} {Z : ZT} {ru : Nat} {Lru : Nat} (hL : LY n κ) (hk_ru : κ ru = (4, 0)) (hn_ru : ru < n) (hk_ru_1 : κ (ru + 1) = (14, Lru)) (hN : ([ru + 1] : List Nat).Nodup) (hM : ([ru + 2, 34] : List Nat).Nodup) (hC : gC l b0 D K RX4 cX4_worth (some FieldType.long) 5 1 24 0 0) {xruz1 : Nat → Int32} {y34 : Nat → Int64} {r : Int64} {ryruz2 : (Nat → Int64)} (hret : ∀ pc loc, decode cX4_worth pc = .ok (.lreturn, 1) → gV l b0 D K (n, κ, ov X0 [ru + 1] [xruz1], ov Y0 [ru + 2, 34] [ryruz2, y34], Z, 0, 0) pc loc [.long r]) {k4 : Int32 → Int32 → (Nat → Int64) → Option (Int64 × (Nat → Int64))} (hk4 : ∀ (v2 : Int32) (v3 : Int32) (yruz2 : (Nat → Int64)), k4 v2 v3 yruz2 = some (r, ryruz2) → gV l b0 D K (n, κ, ov X0 [ru + 1] [xruz1], ov Y0 [ru + 2, 34] [yruz2, y34], Z, 0, 0) 4 [(0, .ref (b0 + ru)), (1, .ref (b0 + 34)), (2, .int v2), (3, .int v3)] []) {v2 : Int32} {v3 : Int32} {v4 : Int32} {yruz2 : (Nat → Int64)} (hf : fX4_worth_121 Lru xruz1 y34 k4 v2 v3 v4 yruz2 = some (r, ryruz2)) : gV l b0 D K (n, κ, ov X0 [ru + 1] [xruz1], ov Y0 [ru + 2, 34] [yruz2, y34], Z, 0, 0) 121 [(0, .ref (b0 + ru)), (1, .ref (b0 + 34)), (2, .int v2), (3, .int v3), (4, .int v4)] [] := by
  unfold fX4_worth_121 at hf
  refine g_iload_n hC 2 dX4_worth_121 rfl rfl ?_
  refine g_iconst hC (v := 1) dX4_worth_122 ic_1 ?_
  refine g_icmp_lt hC 142 dX4_worth_123 (by decide) (fun hc => ?_) (fun hc => ?_)
  · replace hf := ifT hf hc
    exact g_sub [0, 1, 2, 3, 4] rfl (wX4_worth_142 hL hk_ru hn_ru hk_ru_1 hN hM hC  hret hk4 hf)
  · replace hf := ifF hf hc
    refine g_iload hC 4 dX4_worth_126 rfl ?_
    refine g_bipush hC (v := 37) dX4_worth_128 bp_37 ?_
    refine g_icmp_ne hC 142 dX4_worth_130 (by decide) (fun hc => ?_) (fun hc => ?_)
    · replace hf := ifF hf hc
      exact g_sub [0, 1, 2, 3, 4] rfl (wX4_worth_142 hL hk_ru hn_ru hk_ru_1 hN hM hC  hret hk4 hf)
    · replace hf := ifT hf hc
      refine g_aload_n hC 0 dX4_worth_133 rfl rfl ?_
      refine gt_X4_11 hC (a := ru) hk_ru hn_ru dX4_worth_134 ?_
      refine g_ref (b := (ru + 2)) rfl ?_
      refine g_iload_n hC 2 dX4_worth_137 rfl rfl ?_
      refine g_iconst hC (v := 1) dX4_worth_138 ic_1 ?_
      refine g_isub hC dX4_worth_139 ?_
      obtain ⟨h_1, hf⟩ := gdE hf
      refine g_lald hC (x := yruz2) (LR2 hL hk_ru hn_ru) (LRn2 hL hk_ru hn_ru) (ov_get hM 0 rfl rfl) (inb_in h_1) dX4_worth_140 ?_
      obtain ⟨rfl, rfl⟩ := sm2E hf
      exact hret _ _ dX4_worth_141

def fX4_worth_81  (Lru : Nat) (xruz1 : Nat → Int32) (y34 : Nat → Int64) (k4 : Int32 → Int32 → (Nat → Int64) → Option (Int64 × (Nat → Int64))) (v2 : Int32) (v3 : Int32) (s0 : Int64) (s1 : Int32) (yruz2 : (Nat → Int64)) : Option (Int64 × (Nat → Int64)) := gd (inb s1 40) (bn (v2 + 1) fun t_2 => (fX4_worth_216 Lru xruz1 y34 k4 t_2 v3 (vp_updL yruz2 s1.toNatClampNeg s0)))
set_option maxHeartbeats 4000000 in
set_option maxRecDepth 100000 in
theorem wX4_worth_81 {l : Launch} {b0 : Nat} {D : GD} {K : KT} {n : Nat} {κ : QT} {X0 : XT} {Y0 : YT} {Z : ZT} {ru : Nat} {Lru : Nat} (hL : LY n κ) (hk_ru : κ ru = (4, 0)) (hn_ru : ru < n) (hk_ru_1 : κ (ru + 1) = (14, Lru)) (hN : ([ru + 1] : List Nat).Nodup) (hM : ([ru + 2, 34] : List Nat).Nodup) (hC : gC l b0 D K RX4 cX4_worth (some FieldType.long) 5 1 24 0 0) {xruz1 : Nat → Int32} {y34 : Nat → Int64} {r : Int64} {ryruz2 : (Nat → Int64)} (hret : ∀ pc loc, decode cX4_worth pc = .ok (.lreturn, 1) → gV l b0 D K (n, κ, ov X0 [ru + 1] [xruz1], ov Y0 [ru + 2, 34] [ryruz2, y34], Z, 0, 0) pc loc [.long r]) {k4 : Int32 → Int32 → (Nat → Int64) → Option (Int64 × (Nat → Int64))} (hk4 : ∀ (v2 : Int32) (v3 : Int32) (yruz2 : (Nat → Int64)), k4 v2 v3 yruz2 = some (r, ryruz2) → gV l b0 D K (n, κ, ov X0 [ru + 1] [xruz1], ov Y0 [ru + 2, 34] [yruz2, y34], Z, 0, 0) 4 [(0, .ref (b0 + ru)), (1, .ref (b0 + 34)), (2, .int v2), (3, .int v3)] []) {v2 : Int32} {v3 : Int32} {s0 : Int64} {s1 : Int32} {yruz2 : (Nat → Int64)} (hf : fX4_worth_81 Lru xruz1 y34 k4 v2 v3 s0 s1 yruz2 = some (r, ryruz2)) : gV l b0 D K (n, κ, ov X0 [ru + 1] [xruz1], ov Y0 [ru + 2, 34] [yruz2, y34], Z, 0, 0) 81 [(0, .ref (b0 + ru)), (1, .ref (b0 + 34)), (2, .int v2), (3, .int v3)] [.long s0, .int s1, .ref (b0 + (ru + 2))] := by
  unfold fX4_worth_81 at hf
  obtain ⟨h_1, hf⟩ := gdE hf
  refine g_last hC (x := yruz2) (LR2 hL hk_ru hn_ru) (LRn2 hL hk_ru hn_ru) (ov_get hM 0 rfl rfl) (inb_in h_1) (ov_set hM (by rfl) 0 (by rfl)) dX4_worth_81 ?_
  show gV l b0 D K (n, κ, ov X0 [ru + 1] [xruz1], ov Y0 [ru + 2, 34] [(vp_updL yruz2 s1.toNatClampNeg s0), y34], Z, 0, 0) 82 [(0, .ref (b0 + ru)), (1, .ref (b0 + 34)), (2, .int v2), (3, .int v3)] []
  obtain ⟨t_2, et_2, hf⟩ := bnE hf
  refine g_iinc hC (i := 2) (v := t_2) [(2, .int t_2), (0, .ref (b0 + ru)), (1, .ref (b0 + 34)), (3, .int v3)] dX4_worth_82 (q := 2) rfl ((congrArg (HAdd.hAdd v2) ic_1).trans et_2.symm) (by decide) rfl ?_
  refine g_goto hC 216 dX4_worth_85 (by decide) ?_
  exact g_sub [1, 2, 0, 3] rfl (wX4_worth_216 hL hk_ru hn_ru hk_ru_1 hN hM hC  hret hk4 hf)

def fX4_worth_42  (Lru : Nat) (xruz1 : Nat → Int32) (y34 : Nat → Int64) (k4 : Int32 → Int32 → (Nat → Int64) → Option (Int64 × (Nat → Int64))) (v2 : Int32) (v3 : Int32) (v4 : Int32) (yruz2 : (Nat → Int64)) : Option (Int64 × (Nat → Int64)) := if v2 < 40 then (if v4 = 1 then (gd (inb v3 Lru) (fX4_worth_81 Lru xruz1 y34 k4 v2 v3 (((xruz1 v3.toNatClampNeg) >>> (6 &&& 31)).toInt64) v2 yruz2)) else (gd (inb (v4 - 17) 12) (fX4_worth_81 Lru xruz1 y34 k4 v2 v3 (y34 (v4 - 17).toNatClampNeg) v2 yruz2))) else (some (0, yruz2))
set_option maxHeartbeats 4000000 in
set_option maxRecDepth 100000 in
theorem wX4_worth_42 {l : Launch} {b0 : Nat} {D : GD} {K : KT} {n : Nat} {κ : QT} {X0 : XT} {Y0 : YT} {Z : ZT} {ru : Nat} {Lru : Nat} (hL : LY n κ) (hk_ru : κ ru = (4, 0)) (hn_ru : ru < n) (hk_ru_1 : κ (ru + 1) = (14, Lru)) (hN : ([ru + 1] : List Nat).Nodup) (hM : ([ru + 2, 34] : List Nat).Nodup) (hC : gC l b0 D K RX4 cX4_worth (some FieldType.long) 5 1 24 0 0) {xruz1 : Nat → Int32} {y34 : Nat → Int64} {r : Int64} {ryruz2 : (Nat → Int64)} (hret : ∀ pc loc, decode cX4_worth pc = .ok (.lreturn, 1) → gV l b0 D K (n, κ, ov X0 [ru + 1] [xruz1], ov Y0 [ru + 2, 34] [ryruz2, y34], Z, 0, 0) pc loc [.long r]) {k4 : Int32 → Int32 → (Nat → Int64) → Option (Int64 × (Nat → Int64))} (hk4 : ∀ (v2 : Int32) (v3 : Int32) (yruz2 : (Nat → Int64)), k4 v2 v3 yruz2 = some (r, ryruz2) → gV l b0 D K (n, κ, ov X0 [ru + 1] [xruz1], ov Y0 [ru + 2, 34] [yruz2, y34], Z, 0, 0) 4 [(0, .ref (b0 + ru)), (1, .ref (b0 + 34)), (2, .int v2), (3, .int v3)] []) {v2 : Int32} {v3 : Int32} {v4 : Int32} {yruz2 : (Nat → Int64)} (hf : fX4_worth_42 Lru xruz1 y34 k4 v2 v3 v4 yruz2 = some (r, ryruz2)) : gV l b0 D K (n, κ, ov X0 [ru + 1] [xruz1], ov Y0 [ru + 2, 34] [yruz2, y34], Z, 0, 0) 42 [(0, .ref (b0 + ru)), (1, .ref (b0 + 34)), (2, .int v2), (3, .int v3), (4, .int v4)] [] := by
  unfold fX4_worth_42 at hf
  refine g_iload_n hC 2 dX4_worth_42 rfl rfl ?_
  refine g_bipush hC (v := 40) dX4_worth_43 bp_40 ?_
  refine g_icmp_lt hC 50 dX4_worth_45 (by decide) (fun hc => ?_) (fun hc => ?_)
  · replace hf := ifT hf hc
    refine g_aload_n hC 0 dX4_worth_50 rfl rfl ?_
    refine gt_X4_11 hC (a := ru) hk_ru hn_ru dX4_worth_51 ?_
    refine g_ref (b := (ru + 2)) rfl ?_
    refine g_iload_n hC 2 dX4_worth_54 rfl rfl ?_
    refine g_iload hC 4 dX4_worth_55 rfl ?_
    refine g_iconst hC (v := 1) dX4_worth_57 ic_1 ?_
    refine g_icmp_ne hC 74 dX4_worth_58 (by decide) (fun hc => ?_) (fun hc => ?_)
    · replace hf := ifF hf hc
      refine g_aload_n hC 1 dX4_worth_74 rfl rfl ?_
      refine g_iload hC 4 dX4_worth_75 rfl ?_
      refine g_bipush hC (v := 17) dX4_worth_77 bp_17 ?_
      refine g_isub hC dX4_worth_79 ?_
      obtain ⟨h_1, hf⟩ := gdE hf
      refine g_lald hC (x := y34) (kk_34 hL) (kn_34 hL) (ov_get hM 1 rfl rfl) (inb_in h_1) dX4_worth_80 ?_
      exact g_sub [0, 1, 2, 3] rfl (wX4_worth_81 hL hk_ru hn_ru hk_ru_1 hN hM hC  hret hk4 hf)
    · replace hf := ifT hf hc
      refine g_aload_n hC 0 dX4_worth_61 rfl rfl ?_
      refine gt_X4_15 hC (a := ru) hk_ru hn_ru dX4_worth_62 ?_
      refine g_ref (b := (ru + 1)) rfl ?_
      refine g_iload_n hC 3 dX4_worth_65 rfl rfl ?_
      obtain ⟨h_2, hf⟩ := gdE hf
      refine g_iald hC (x := xruz1) hk_ru_1 (LRn1 hL hk_ru hn_ru) (ov_get hN 0 rfl rfl) (inb_in h_2) dX4_worth_66 ?_
      refine g_bipush hC (v := 6) dX4_worth_67 bp_6 ?_
      refine g_ishr hC dX4_worth_69 ?_
      refine g_i2l hC dX4_worth_70 ?_
      refine g_goto hC 81 dX4_worth_71 (by decide) ?_
      exact g_sub [0, 1, 2, 3] rfl (wX4_worth_81 hL hk_ru hn_ru hk_ru_1 hN hM hC  hret hk4 hf)
  · replace hf := ifF hf hc
    refine g_lconst hC (v := 0) dX4_worth_48 rfl ?_
    obtain ⟨rfl, rfl⟩ := sm2E hf
    exact hret _ _ dX4_worth_49

def fX4_worth_4b  (Lru : Nat) (xruz1 : Nat → Int32) (y34 : Nat → Int64) (k4 : Int32 → Int32 → (Nat → Int64) → Option (Int64 × (Nat → Int64))) (v2 : Int32) (v3 : Int32) (yruz2 : (Nat → Int64)) : Option (Int64 × (Nat → Int64)) := if (Int32.ofNat Lru) ≤ v3 then (some (0, yruz2)) else (gd (inb v3 Lru) (bn ((xruz1 v3.toNatClampNeg) &&& 63) fun t_2 => (if t_2 = 1 then (fX4_worth_42 Lru xruz1 y34 k4 v2 v3 t_2 yruz2) else (bd1 (fX11_isWithin t_2 17 28) fun r_3 => (if r_3 = 0 then (if v2 < 1 then (fX4_worth_121 Lru xruz1 y34 k4 v2 v3 t_2 yruz2) else (if t_2 = 36 then (gd (inb (v2 - 1) 40) (gd (inb (v2 - 1) 40) (fX4_worth_216 Lru xruz1 y34 k4 v2 v3 (vp_updL yruz2 (v2 - 1).toNatClampNeg (1 - (yruz2 (v2 - 1).toNatClampNeg)))))) else (fX4_worth_121 Lru xruz1 y34 k4 v2 v3 t_2 yruz2))) else (fX4_worth_42 Lru xruz1 y34 k4 v2 v3 t_2 yruz2))))))
def fX4_worth_4  (Lru : Nat) (xruz1 : Nat → Int32) (y34 : Nat → Int64) : Int32 → Int32 → (Nat → Int64) → Option (Int64 × (Nat → Int64)) := lq3 (fX4_worth_4b Lru xruz1 y34 ) 5000
set_option maxHeartbeats 4000000 in
set_option maxRecDepth 100000 in
theorem wX4_worth_4 {l : Launch} {b0 : Nat} {D : GD} {K : KT} {n : Nat} {κ : QT} {X0 : XT} {Y0 : YT} {Z : ZT} {ru : Nat} {Lru : Nat} (hL : LY n κ) (hk_ru : κ ru = (4, 0)) (hn_ru : ru < n) (hk_ru_1 : κ (ru + 1) = (14, Lru)) (hN : ([ru + 1] : List Nat).Nodup) (hM : ([ru + 2, 34] : List Nat).Nodup) (hC : gC l b0 D K RX4 cX4_worth (some FieldType.long) 5 1 24 0 0) {xruz1 : Nat → Int32} {y34 : Nat → Int64} {r : Int64} {ryruz2 : (Nat → Int64)} (hret : ∀ pc loc, decode cX4_worth pc = .ok (.lreturn, 1) → gV l b0 D K (n, κ, ov X0 [ru + 1] [xruz1], ov Y0 [ru + 2, 34] [ryruz2, y34], Z, 0, 0) pc loc [.long r]) : ∀ (j : Nat) (v2 : Int32) (v3 : Int32) (yruz2 : (Nat → Int64)), lq3 (fX4_worth_4b Lru xruz1 y34 ) j v2 v3 yruz2 = some (r, ryruz2) → gV l b0 D K (n, κ, ov X0 [ru + 1] [xruz1], ov Y0 [ru + 2, 34] [yruz2, y34], Z, 0, 0) 4 [(0, .ref (b0 + ru)), (1, .ref (b0 + 34)), (2, .int v2), (3, .int v3)] [] := by
  intro j
  induction j with
  | zero => intro v2 v3 yruz2 hf; cases hf
  | succ j hk4 =>
    intro v2 v3 yruz2 hf
    replace hf : fX4_worth_4b Lru xruz1 y34  (lq3 (fX4_worth_4b Lru xruz1 y34 ) j) v2 v3 yruz2 = some (r, ryruz2) := hf
    unfold fX4_worth_4b at hf
    refine g_iload_n hC 3 dX4_worth_4 rfl rfl ?_
    refine g_aload_n hC 0 dX4_worth_5 rfl rfl ?_
    refine gt_X4_15 hC (a := ru) hk_ru hn_ru dX4_worth_6 ?_
    refine g_ref (b := (ru + 1)) rfl ?_
    refine g_alen_i hC (L := Lru) hk_ru_1 (LRn1 hL hk_ru hn_ru) dX4_worth_9 ?_
    refine g_icmp_ge hC 222 dX4_worth_10 (by decide) (fun hc => ?_) (fun hc => ?_)
    · replace hf := ifT hf hc
      refine g_lconst hC (v := 0) dX4_worth_222 rfl ?_
      obtain ⟨rfl, rfl⟩ := sm2E hf
      exact hret _ _ dX4_worth_223
    · replace hf := ifF hf hc
      refine g_aload_n hC 0 dX4_worth_13 rfl rfl ?_
      refine gt_X4_15 hC (a := ru) hk_ru hn_ru dX4_worth_14 ?_
      refine g_ref (b := (ru + 1)) rfl ?_
      refine g_iload_n hC 3 dX4_worth_17 rfl rfl ?_
      obtain ⟨h_1, hf⟩ := gdE hf
      refine g_iald hC (x := xruz1) hk_ru_1 (LRn1 hL hk_ru hn_ru) (ov_get hN 0 rfl rfl) (inb_in h_1) dX4_worth_18 ?_
      refine g_bipush hC (v := 63) dX4_worth_19 bp_63 ?_
      refine g_iand hC dX4_worth_21 ?_
      obtain ⟨t_2, et_2, hf⟩ := bnE hf
      refine g_topi et_2 ?_
      refine g_istore hC (i := 4) [(4, .int t_2), (0, .ref (b0 + ru)), (1, .ref (b0 + 34)), (2, .int v2), (3, .int v3)] dX4_worth_22 (by decide) rfl ?_
      refine g_iload hC 0 dX4_worth_24 rfl ?_
      refine g_iconst hC (v := 1) dX4_worth_26 ic_1 ?_
      refine g_icmp_eq hC 42 dX4_worth_27 (by decide) (fun hc => ?_) (fun hc => ?_)
      · replace hf := ifT hf hc
        exact g_sub [1, 2, 3, 4, 0] rfl (wX4_worth_42 hL hk_ru hn_ru hk_ru_1 hN hM hC  hret hk4 hf)
      · replace hf := ifF hf hc
        refine g_iload hC 0 dX4_worth_30 rfl ?_
        refine g_bipush hC (v := 17) dX4_worth_32 bp_17 ?_
        refine g_bipush hC (v := 28) dX4_worth_34 bp_28 ?_
        obtain ⟨r_3, q_4, hf⟩ := bd1E hf
        refine g_callSN_i hC (X' := ov X0 [ru + 1] [xruz1]) (Y' := ov Y0 [ru + 2, 34] [yruz2, y34]) (As := [.int t_2, .int 17, .int 28]) (gMi_eq (c_X11_isWithin l hL (ov_map hN [] (by rfl) (by rfl)) (ov_map hM [] (by rfl) (by rfl)) q_4) (ov_ovE hN (by rfl) [] [0] (by rfl) (by rfl) [xruz1] (by rfl) (by rfl) (by rfl) 1 (by rfl) (by decide)) (ov_ovE hM (by rfl) [] [0, 1] (by rfl) (by rfl) [yruz2, y34] (by rfl) (by rfl) (by rfl) 2 (by rfl) (by decide))) tw_666 (List.mem_of_getElem? (i := 13) rfl) tw_116 tw_665 pd_X11_isWithin (by decide) (by decide) rfl rfl (Nat.le_of_ble_eq_true rfl) rfl dX4_worth_36 ?_
        refine g_if_eq hC 88 dX4_worth_39 (by decide) (fun hc => ?_) (fun hc => ?_)
        · replace hf := ifT hf hc
          refine g_iload_n hC 3 dX4_worth_88 rfl rfl ?_
          refine g_iconst hC (v := 1) dX4_worth_89 ic_1 ?_
          refine g_icmp_lt hC 121 dX4_worth_90 (by decide) (fun hc => ?_) (fun hc => ?_)
          · replace hf := ifT hf hc
            exact g_sub [1, 2, 3, 4, 0] rfl (wX4_worth_121 hL hk_ru hn_ru hk_ru_1 hN hM hC  hret hk4 hf)
          · replace hf := ifF hf hc
            refine g_iload hC 0 dX4_worth_93 rfl ?_
            refine g_bipush hC (v := 36) dX4_worth_95 bp_36 ?_
            refine g_icmp_ne hC 121 dX4_worth_97 (by decide) (fun hc => ?_) (fun hc => ?_)
            · replace hf := ifF hf hc
              exact g_sub [1, 2, 3, 4, 0] rfl (wX4_worth_121 hL hk_ru hn_ru hk_ru_1 hN hM hC  hret hk4 hf)
            · replace hf := ifT hf hc
              refine g_aload_n hC 1 dX4_worth_100 rfl rfl ?_
              refine gt_X4_11 hC (a := ru) hk_ru hn_ru dX4_worth_101 ?_
              refine g_ref (b := (ru + 2)) rfl ?_
              refine g_iload_n hC 3 dX4_worth_104 rfl rfl ?_
              refine g_iconst hC (v := 1) dX4_worth_105 ic_1 ?_
              refine g_isub hC dX4_worth_106 ?_
              refine g_lconst hC (v := 1) dX4_worth_107 rfl ?_
              refine g_aload_n hC 1 dX4_worth_108 rfl rfl ?_
              refine gt_X4_11 hC (a := ru) hk_ru hn_ru dX4_worth_109 ?_
              refine g_ref (b := (ru + 2)) rfl ?_
              refine g_iload_n hC 3 dX4_worth_112 rfl rfl ?_
              refine g_iconst hC (v := 1) dX4_worth_113 ic_1 ?_
              refine g_isub hC dX4_worth_114 ?_
              obtain ⟨h_5, hf⟩ := gdE hf
              refine g_lald hC (x := yruz2) (LR2 hL hk_ru hn_ru) (LRn2 hL hk_ru hn_ru) (ov_get hM 0 rfl rfl) (inb_in h_5) dX4_worth_115 ?_
              refine g_lsub hC dX4_worth_116 ?_
              obtain ⟨h_6, hf⟩ := gdE hf
              refine g_last hC (x := yruz2) (LR2 hL hk_ru hn_ru) (LRn2 hL hk_ru hn_ru) (ov_get hM 0 rfl rfl) (inb_in h_6) (ov_set hM (by rfl) 0 (by rfl)) dX4_worth_117 ?_
              show gV l b0 D K (n, κ, ov X0 [ru + 1] [xruz1], ov Y0 [ru + 2, 34] [(vp_updL yruz2 (v2 - 1).toNatClampNeg (1 - (yruz2 (v2 - 1).toNatClampNeg))), y34], Z, 0, 0) 118 [(4, .int t_2), (0, .ref (b0 + ru)), (1, .ref (b0 + 34)), (2, .int v2), (3, .int v3)] []
              refine g_goto hC 216 dX4_worth_118 (by decide) ?_
              exact g_sub [1, 2, 3, 4] rfl (wX4_worth_216 hL hk_ru hn_ru hk_ru_1 hN hM hC  hret hk4 hf)
        · replace hf := ifF hf hc
          exact g_sub [1, 2, 3, 4, 0] rfl (wX4_worth_42 hL hk_ru hn_ru hk_ru_1 hN hM hC  hret hk4 hf)

def fX4_worth_0  (Lru : Nat) (xruz1 : Nat → Int32) (y34 : Nat → Int64) (yruz2 : (Nat → Int64)) : Option (Int64 × (Nat → Int64)) := fX4_worth_4 Lru xruz1 y34  0 0 yruz2
set_option maxHeartbeats 4000000 in
set_option maxRecDepth 100000 in
theorem wX4_worth_0 {l : Launch} {b0 : Nat} {D : GD} {K : KT} {n : Nat} {κ : QT} {X0 : XT} {Y0 : YT} {Z : ZT} {ru : Nat} {Lru : Nat} (hL : LY n κ) (hk_ru : κ ru = (4, 0)) (hn_ru : ru < n) (hk_ru_1 : κ (ru + 1) = (14, Lru)) (hN : ([ru + 1] : List Nat).Nodup) (hM : ([ru + 2, 34] : List Nat).Nodup) (hC : gC l b0 D K RX4 cX4_worth (some FieldType.long) 5 1 24 0 0) {xruz1 : Nat → Int32} {y34 : Nat → Int64} {r : Int64} {ryruz2 : (Nat → Int64)} (hret : ∀ pc loc, decode cX4_worth pc = .ok (.lreturn, 1) → gV l b0 D K (n, κ, ov X0 [ru + 1] [xruz1], ov Y0 [ru + 2, 34] [ryruz2, y34], Z, 0, 0) pc loc [.long r]) {yruz2 : (Nat → Int64)} (hf : fX4_worth_0 Lru xruz1 y34  yruz2 = some (r, ryruz2)) : gV l b0 D K (n, κ, ov X0 [ru + 1] [xruz1], ov Y0 [ru + 2, 34] [yruz2, y34], Z, 0, 0) 0 [(0, .ref (b0 + ru)), (1, .ref (b0 + 34))] [] := by
  unfold fX4_worth_0 at hf
  refine g_iconst hC (v := 0) dX4_worth_0 ic_0 ?_
  refine g_istore_n hC (i := 2) [(2, .int 0), (0, .ref (b0 + ru)), (1, .ref (b0 + 34))] rfl dX4_worth_1 (by decide) rfl ?_
  refine g_iconst hC (v := 0) dX4_worth_2 ic_0 ?_
  refine g_istore_n hC (i := 3) [(3, .int 0), (2, .int 0), (0, .ref (b0 + ru)), (1, .ref (b0 + 34))] rfl dX4_worth_3 (by decide) rfl ?_
  exact g_sub [2, 3, 1, 0] rfl (wX4_worth_4 hL hk_ru hn_ru hk_ru_1 hN hM hC  hret  5000 0 0 yruz2 hf)

def fX4_worth  (Lru : Nat) (xruz1 : Nat → Int32) (y34 : Nat → Int64)   (yruz2 : Nat → Int64) : Option (Int64 × (Nat → Int64)) := fX4_worth_0 Lru xruz1 y34 yruz2

set_option maxHeartbeats 4000000 in
set_option maxRecDepth 100000 in
theorem c_X4_worth (l : Launch) {b0 : Nat} {D : GD} {n : Nat} {κ : QT} {X0 : XT} {Y0 : YT} {Z : ZT} {ru : Nat} {Lru : Nat} (hL : LY n κ) (hk_ru : κ ru = (4, 0)) (hn_ru : ru < n) (hk_ru_1 : κ (ru + 1) = (14, Lru)) (hN : ([ru + 1] : List Nat).Nodup) (hM : ([ru + 2, 34] : List Nat).Nodup) {xruz1 : Nat → Int32} {yruz2 : Nat → Int64} {y34 : Nat → Int64} (hx : ([ru + 1] : List Nat).map X0 = [xruz1]) (hy : ([ru + 2, 34] : List Nat).map Y0 = [yruz2, y34]) {r : Int64} {ryruz2 : (Nat → Int64)} (hf : fX4_worth Lru xruz1 y34 yruz2 = some (r, ryruz2)) : gMl l yX4_worth cX4_worth 5 (some FieldType.long) 1 24 0 0 b0 D [.ref (b0 + ru), .ref (b0 + 34)] (n, κ, X0, Y0, Z) (n, κ, ov X0 [ru + 1] [xruz1], ov Y0 [ru + 2, 34] [ryruz2, y34], Z) r := by
  refine g_metl (own := RX4) (by decide) rfl rfl (Nat.le_of_ble_eq_true rfl) ?_
  intro K hC hret
  have e := wX4_worth_0 hL hk_ru hn_ru hk_ru_1 hN hM hC  hret hf
  rw [ov_id' hx, ov_id' hy] at e
  exact g_sub [0, 1] rfl e

-- X1_findHolds
def fX1_findHolds_2b   (xoz3 : Nat → Int32)  (k2 : Int32 → Int32 → (Nat → Int32) → Option ((Nat → Int32))) (v2 : Int32) (v3 : Int32) (x33 : (Nat → Int32)) : Option ((Nat → Int32)) := if 6 ≤ v3 then (some x33) else (bd1 (fX7_harderTo xoz3 v3 v2) fun r_1 => (gd (inb v3 6) (bn (v3 + 1) fun t_4 => (k2 v2 t_4 (upd x33 v3.toNatClampNeg r_1)))))
def fX1_findHolds_2   (xoz3 : Nat → Int32)  : Int32 → Int32 → (Nat → Int32) → Option ((Nat → Int32)) := lq3 (fX1_findHolds_2b xoz3 ) 5000
set_option maxHeartbeats 4000000 in
set_option maxRecDepth 100000 in
theorem wX1_findHolds_2 {l : Launch} {b0 : Nat} {D : GD} {K : KT} {n : Nat} {κ : QT} {X0 : XT} {Y0 : YT} {Z : ZT} {o : Nat} (hL : LY n κ) (hk_o : κ o = (7, 0)) (hn_o : o < n) (hN : ([o + 3, 33] : List Nat).Nodup) (hM : ([] : List Nat).Nodup) (hC : gC l b0 D K RX1 cX1_findHolds none 4 1 24 0 0) {xoz3 : Nat → Int32} {rx33 : (Nat → Int32)} (hret : ∀ pc loc, decode cX1_findHolds pc = .ok (.return_, 1) → gV l b0 D K (n, κ, ov X0 [o + 3, 33] [xoz3, rx33], ov Y0 [] [], Z, 0, 0) pc loc []) : ∀ (j : Nat) (v2 : Int32) (v3 : Int32) (x33 : (Nat → Int32)), lq3 (fX1_findHolds_2b xoz3 ) j v2 v3 x33 = some rx33 → gV l b0 D K (n, κ, ov X0 [o + 3, 33] [xoz3, x33], ov Y0 [] [], Z, 0, 0) 2 [(0, .ref (b0 + 32)), (1, .ref (b0 + o)), (2, .int v2), (3, .int v3)] [] := by
  intro j
  induction j with
  | zero => intro v2 v3 x33 hf; cases hf
  | succ j hk2 =>
    intro v2 v3 x33 hf
    replace hf : fX1_findHolds_2b xoz3  (lq3 (fX1_findHolds_2b xoz3 ) j) v2 v3 x33 = some rx33 := hf
    unfold fX1_findHolds_2b at hf
    refine g_iload_n hC 3 dX1_findHolds_2 rfl rfl ?_
    refine g_bipush hC (v := 6) dX1_findHolds_3 bp_6 ?_
    refine g_icmp_ge hC 26 dX1_findHolds_5 (by decide) (fun hc => ?_) (fun hc => ?_)
    · replace hf := ifT hf hc
      obtain rfl := sm1E hf
      exact hret _ _ dX1_findHolds_26
    · replace hf := ifF hf hc
      refine g_aload_n hC 0 dX1_findHolds_8 rfl rfl ?_
      refine gt_X1_9 hC (a := 32) (kk_32 hL) (kn_32 hL) dX1_findHolds_9 ?_
      refine g_ref (b := 33) rfl ?_
      refine g_iload_n hC 3 dX1_findHolds_12 rfl rfl ?_
      refine g_aload_n hC 1 dX1_findHolds_13 rfl rfl ?_
      refine g_iload_n hC 3 dX1_findHolds_14 rfl rfl ?_
      refine g_iload_n hC 2 dX1_findHolds_15 rfl rfl ?_
      obtain ⟨r_1, q_2, hf⟩ := bd1E hf
      refine g_callV_i (a := o) hC (X' := ov X0 [o + 3, 33] [xoz3, x33]) (Y' := ov Y0 [] []) (As := [.int v3, .int v2]) (gMi_eq (c_X7_harderTo l hL hk_o hn_o (nd_sub hN [0] (by decide) (by rfl)) (nd_sub hM [] (by decide) (by rfl)) (ov_map hN [0] (by rfl) (by rfl)) (ov_map hM [] (by rfl) (by rfl)) q_2) (ov_ovE hN (by rfl) [0] [1] (by rfl) (by rfl) [x33] (by rfl) (by rfl) (by rfl) 2 (by rfl) (by decide)) (ov_ovE hM (by rfl) [] [] (by rfl) (by rfl) [] (by rfl) (by rfl) (by rfl) 0 (by rfl) (by decide))) tw_798 tw_818 tw_120 tw_796 tw_797 (ci := 7) rfl (by decide) hk_o hn_o pd_X7_harderTo (by decide) (by decide) rfl rfl (Nat.le_of_ble_eq_true rfl) rfl dX1_findHolds_16 ?_
      obtain ⟨h_3, hf⟩ := gdE hf
      refine g_iast hC (x := x33) (kk_33 hL) (kn_33 hL) (ov_get hN 1 rfl rfl) (inb_in h_3) (ov_set hN (by rfl) 1 (by rfl)) dX1_findHolds_19 ?_
      show gV l b0 D K (n, κ, ov X0 [o + 3, 33] [xoz3, (upd x33 v3.toNatClampNeg r_1)], ov Y0 [] [], Z, 0, 0) 20 [(0, .ref (b0 + 32)), (1, .ref (b0 + o)), (2, .int v2), (3, .int v3)] []
      obtain ⟨t_4, et_4, hf⟩ := bnE hf
      refine g_iinc hC (i := 3) (v := t_4) [(3, .int t_4), (0, .ref (b0 + 32)), (1, .ref (b0 + o)), (2, .int v2)] dX1_findHolds_20 (q := 3) rfl ((congrArg (HAdd.hAdd v3) ic_1).trans et_4.symm) (by decide) rfl ?_
      refine g_goto hC 2 dX1_findHolds_23 (by decide) ?_
      exact g_sub [1, 2, 3, 0] rfl (hk2 v2 t_4 (upd x33 v3.toNatClampNeg r_1) hf)

def fX1_findHolds_0   (xoz3 : Nat → Int32)  (v2 : Int32) (x33 : (Nat → Int32)) : Option ((Nat → Int32)) := fX1_findHolds_2 xoz3  v2 0 x33
set_option maxHeartbeats 4000000 in
set_option maxRecDepth 100000 in
theorem wX1_findHolds_0 {l : Launch} {b0 : Nat} {D : GD} {K : KT} {n : Nat} {κ : QT} {X0 : XT} {Y0 : YT} {Z : ZT} {o : Nat} (hL : LY n κ) (hk_o : κ o = (7, 0)) (hn_o : o < n) (hN : ([o + 3, 33] : List Nat).Nodup) (hM : ([] : List Nat).Nodup) (hC : gC l b0 D K RX1 cX1_findHolds none 4 1 24 0 0) {xoz3 : Nat → Int32} {rx33 : (Nat → Int32)} (hret : ∀ pc loc, decode cX1_findHolds pc = .ok (.return_, 1) → gV l b0 D K (n, κ, ov X0 [o + 3, 33] [xoz3, rx33], ov Y0 [] [], Z, 0, 0) pc loc []) {v2 : Int32} {x33 : (Nat → Int32)} (hf : fX1_findHolds_0 xoz3  v2 x33 = some rx33) : gV l b0 D K (n, κ, ov X0 [o + 3, 33] [xoz3, x33], ov Y0 [] [], Z, 0, 0) 0 [(0, .ref (b0 + 32)), (1, .ref (b0 + o)), (2, .int v2)] [] := by
  unfold fX1_findHolds_0 at hf
  refine g_iconst hC (v := 0) dX1_findHolds_0 ic_0 ?_
  refine g_istore_n hC (i := 3) [(3, .int 0), (0, .ref (b0 + 32)), (1, .ref (b0 + o)), (2, .int v2)] rfl dX1_findHolds_1 (by decide) rfl ?_
  exact g_sub [1, 2, 3, 0] rfl (wX1_findHolds_2 hL hk_o hn_o hN hM hC  hret  5000 v2 0 x33 hf)

def fX1_findHolds   (xoz3 : Nat → Int32)  (v2 : Int32) (x33 : Nat → Int32)  : Option ((Nat → Int32)) := fX1_findHolds_0 xoz3 v2 x33

set_option maxHeartbeats 4000000 in
set_option maxRecDepth 100000 in
theorem c_X1_findHolds (l : Launch) {b0 : Nat} {D : GD} {n : Nat} {κ : QT} {X0 : XT} {Y0 : YT} {Z : ZT} {o : Nat} (hL : LY n κ) (hk_o : κ o = (7, 0)) (hn_o : o < n) (hN : ([o + 3, 33] : List Nat).Nodup) (hM : ([] : List Nat).Nodup) {xoz3 : Nat → Int32} {x33 : Nat → Int32} (hx : ([o + 3, 33] : List Nat).map X0 = [xoz3, x33]) (hy : ([] : List Nat).map Y0 = []) {v2 : Int32} {rx33 : (Nat → Int32)} (hf : fX1_findHolds xoz3 v2 x33 = some rx33) : gMv l yX1_findHolds cX1_findHolds 4 none 1 24 0 0 b0 D [.ref (b0 + 32), .ref (b0 + o), .int v2] (n, κ, X0, Y0, Z) (n, κ, ov X0 [o + 3, 33] [xoz3, rx33], ov Y0 [] [], Z) := by
  refine g_metv (own := RX1) (by decide) rfl rfl (Nat.le_of_ble_eq_true rfl) ?_
  intro K hC hret
  have e := wX1_findHolds_0 hL hk_o hn_o hN hM hC  hret hf
  rw [ov_id' hx, ov_id' hy] at e
  exact g_sub [0, 1, 2] rfl e

-- X1_blockOf
def fX1_blockOf_46   (x33 : Nat → Int32)  (k6 : Int32 → Int32 → Option (Int32)) (k18 : Int32 → Int32 → Int32 → Int32 → Option (Int32)) (v2 : Int32) (v3 : Int32) (v4 : Int32) (v5 : Int32) : Option (Int32) := bn (v5 + 1) fun t_1 => (k18 v2 v3 v4 t_1)
set_option maxHeartbeats 4000000 in
set_option maxRecDepth 100000 in
theorem wX1_blockOf_46 {l : Launch} {b0 : Nat} {D : GD} {K : KT} {n : Nat} {κ : QT} {X0 : XT} {Y0 : YT} {Z : ZT} (hL : LY n κ) (hN : ([33] : List Nat).Nodup) (hM : ([] : List Nat).Nodup) (hC : gC l b0 D K RX1 cX1_blockOf (some FieldType.int) 6 1 21 0 0) {x33 : Nat → Int32} {r : Int32} (hret : ∀ pc loc, narrow .int (.int r) = .int r → decode cX1_blockOf pc = .ok (.ireturn, 1) → gV l b0 D K (n, κ, ov X0 [33] [x33], ov Y0 [] [], Z, 0, 0) pc loc [.int r]) {k6 : Int32 → Int32 → Option (Int32)} (hk6 : ∀ (v2 : Int32) (v3 : Int32), k6 v2 v3 = some r → gV l b0 D K (n, κ, ov X0 [33] [x33], ov Y0 [] [], Z, 0, 0) 6 [(0, .ref (b0 + 32)), (2, .int v2), (3, .int v3)] []) {k18 : Int32 → Int32 → Int32 → Int32 → Option (Int32)} (hk18 : ∀ (v2 : Int32) (v3 : Int32) (v4 : Int32) (v5 : Int32), k18 v2 v3 v4 v5 = some r → gV l b0 D K (n, κ, ov X0 [33] [x33], ov Y0 [] [], Z, 0, 0) 18 [(0, .ref (b0 + 32)), (2, .int v2), (3, .int v3), (4, .int v4), (5, .int v5)] []) {v2 : Int32} {v3 : Int32} {v4 : Int32} {v5 : Int32} (hf : fX1_blockOf_46 x33 k6 k18 v2 v3 v4 v5 = some r) : gV l b0 D K (n, κ, ov X0 [33] [x33], ov Y0 [] [], Z, 0, 0) 46 [(0, .ref (b0 + 32)), (2, .int v2), (3, .int v3), (4, .int v4), (5, .int v5)] [] := by
  unfold fX1_blockOf_46 at hf
  obtain ⟨t_1, et_1, hf⟩ := bnE hf
  refine g_iinc hC (i := 5) (v := t_1) [(5, .int t_1), (0, .ref (b0 + 32)), (2, .int v2), (3, .int v3), (4, .int v4)] dX1_blockOf_46 (q := 4) rfl ((congrArg (HAdd.hAdd v5) ic_1).trans et_1.symm) (by decide) rfl ?_
  refine g_goto hC 18 dX1_blockOf_49 (by decide) ?_
  exact g_sub [1, 2, 3, 4, 0] rfl (hk18 v2 v3 v4 t_1 hf)

def fX1_blockOf_18b   (x33 : Nat → Int32)  (k6 : Int32 → Int32 → Option (Int32)) (k18 : Int32 → Int32 → Int32 → Int32 → Option (Int32)) (v2 : Int32) (v3 : Int32) (v4 : Int32) (v5 : Int32) : Option (Int32) := if 6 ≤ v5 then (if v4 = v2 then (some v2) else (bn (v3 + 1) fun t_1 => (k6 v4 t_1))) else (bd1 (fX11_hasBit v2 v5) fun r_2 => (if r_2 = 0 then (fX1_blockOf_46 x33 k6 k18 v2 v3 v4 v5) else (gd (inb v5 6) (bn (v4 ||| (x33 v5.toNatClampNeg)) fun t_5 => (fX1_blockOf_46 x33 k6 k18 v2 v3 t_5 v5)))))
def fX1_blockOf_18   (x33 : Nat → Int32)  (k6 : Int32 → Int32 → Option (Int32)) : Int32 → Int32 → Int32 → Int32 → Option (Int32) := lq4 (fX1_blockOf_18b x33 k6) 5000
set_option maxHeartbeats 4000000 in
set_option maxRecDepth 100000 in
theorem wX1_blockOf_18 {l : Launch} {b0 : Nat} {D : GD} {K : KT} {n : Nat} {κ : QT} {X0 : XT} {Y0 : YT} {Z : ZT} (hL : LY n κ) (hN : ([33] : List Nat).Nodup) (hM : ([] : List Nat).Nodup) (hC : gC l b0 D K RX1 cX1_blockOf (some FieldType.int) 6 1 21 0 0) {x33 : Nat → Int32} {r : Int32} (hret : ∀ pc loc, narrow .int (.int r) = .int r → decode cX1_blockOf pc = .ok (.ireturn, 1) → gV l b0 D K (n, κ, ov X0 [33] [x33], ov Y0 [] [], Z, 0, 0) pc loc [.int r]) {k6 : Int32 → Int32 → Option (Int32)} (hk6 : ∀ (v2 : Int32) (v3 : Int32), k6 v2 v3 = some r → gV l b0 D K (n, κ, ov X0 [33] [x33], ov Y0 [] [], Z, 0, 0) 6 [(0, .ref (b0 + 32)), (2, .int v2), (3, .int v3)] []) : ∀ (j : Nat) (v2 : Int32) (v3 : Int32) (v4 : Int32) (v5 : Int32), lq4 (fX1_blockOf_18b x33 k6) j v2 v3 v4 v5 = some r → gV l b0 D K (n, κ, ov X0 [33] [x33], ov Y0 [] [], Z, 0, 0) 18 [(0, .ref (b0 + 32)), (2, .int v2), (3, .int v3), (4, .int v4), (5, .int v5)] [] := by
  intro j
  induction j with
  | zero => intro v2 v3 v4 v5 hf; cases hf
  | succ j hk18 =>
    intro v2 v3 v4 v5 hf
    replace hf : fX1_blockOf_18b x33 k6 (lq4 (fX1_blockOf_18b x33 k6) j) v2 v3 v4 v5 = some r := hf
    unfold fX1_blockOf_18b at hf
    refine g_iload hC 4 dX1_blockOf_18 rfl ?_
    refine g_bipush hC (v := 6) dX1_blockOf_20 bp_6 ?_
    refine g_icmp_ge hC 52 dX1_blockOf_22 (by decide) (fun hc => ?_) (fun hc => ?_)
    · replace hf := ifT hf hc
      refine g_iload hC 3 dX1_blockOf_52 rfl ?_
      refine g_iload_n hC 1 dX1_blockOf_54 rfl rfl ?_
      refine g_icmp_ne hC 60 dX1_blockOf_55 (by decide) (fun hc => ?_) (fun hc => ?_)
      · replace hf := ifF hf hc
        refine g_iload hC 3 dX1_blockOf_60 rfl ?_
        refine g_istore_n hC (i := 2) [(2, .int v4), (0, .ref (b0 + 32)), (3, .int v3), (4, .int v4), (5, .int v5)] rfl dX1_blockOf_62 (by decide) rfl ?_
        obtain ⟨t_1, et_1, hf⟩ := bnE hf
        refine g_iinc hC (i := 3) (v := t_1) [(3, .int t_1), (2, .int v4), (0, .ref (b0 + 32)), (4, .int v4), (5, .int v5)] dX1_blockOf_63 (q := 2) rfl ((congrArg (HAdd.hAdd v3) ic_1).trans et_1.symm) (by decide) rfl ?_
        refine g_goto hC 6 dX1_blockOf_66 (by decide) ?_
        exact g_sub [2, 1, 0] rfl (hk6 v4 t_1 hf)
      · replace hf := ifT hf hc
        refine g_iload_n hC 1 dX1_blockOf_58 rfl rfl ?_
        obtain rfl := sm1E hf
        exact hret _ _ rfl dX1_blockOf_59
    · replace hf := ifF hf hc
      refine g_iload_n hC 1 dX1_blockOf_25 rfl rfl ?_
      refine g_iload hC 4 dX1_blockOf_26 rfl ?_
      obtain ⟨r_2, q_3, hf⟩ := bd1E hf
      refine g_callSN_i hC (X' := ov X0 [33] [x33]) (Y' := ov Y0 [] []) (As := [.int v2, .int v5]) (gMi_eq (c_X11_hasBit l hL (ov_map hN [] (by rfl) (by rfl)) (ov_map hM [] (by rfl) (by rfl)) q_3) (ov_ovE hN (by rfl) [] [0] (by rfl) (by rfl) [x33] (by rfl) (by rfl) (by rfl) 1 (by rfl) (by decide)) (ov_ovE hM (by rfl) [] [] (by rfl) (by rfl) [] (by rfl) (by rfl) (by rfl) 0 (by rfl) (by decide))) tw_825 (List.mem_of_getElem? (i := 12) rfl) tw_116 tw_824 pd_X11_hasBit (by decide) (by decide) rfl rfl (Nat.le_of_ble_eq_true rfl) rfl dX1_blockOf_28 ?_
      refine g_if_eq hC 46 dX1_blockOf_31 (by decide) (fun hc => ?_) (fun hc => ?_)
      · replace hf := ifT hf hc
        exact g_sub [0, 1, 2, 3, 4] rfl (wX1_blockOf_46 hL hN hM hC  hret hk6 hk18 hf)
      · replace hf := ifF hf hc
        refine g_iload hC 3 dX1_blockOf_34 rfl ?_
        refine g_aload_n hC 0 dX1_blockOf_36 rfl rfl ?_
        refine gt_X1_9 hC (a := 32) (kk_32 hL) (kn_32 hL) dX1_blockOf_37 ?_
        refine g_ref (b := 33) rfl ?_
        refine g_iload hC 4 dX1_blockOf_40 rfl ?_
        obtain ⟨h_4, hf⟩ := gdE hf
        refine g_iald hC (x := x33) (kk_33 hL) (kn_33 hL) (ov_get hN 0 rfl rfl) (inb_in h_4) dX1_blockOf_42 ?_
        refine g_ior hC dX1_blockOf_43 ?_
        obtain ⟨t_5, et_5, hf⟩ := bnE hf
        refine g_topi et_5 ?_
        refine g_istore hC (i := 4) [(4, .int t_5), (0, .ref (b0 + 32)), (2, .int v2), (3, .int v3), (5, .int v5)] dX1_blockOf_44 (by decide) rfl ?_
        exact g_sub [1, 2, 3, 0, 4] rfl (wX1_blockOf_46 hL hN hM hC  hret hk6 hk18 hf)

def fX1_blockOf_6b   (x33 : Nat → Int32)  (k6 : Int32 → Int32 → Option (Int32)) (v2 : Int32) (v3 : Int32) : Option (Int32) := if 6 ≤ v3 then (some v2) else (fX1_blockOf_18 x33 k6 v2 v3 v2 0)
def fX1_blockOf_6   (x33 : Nat → Int32)  : Int32 → Int32 → Option (Int32) := lq2 (fX1_blockOf_6b x33 ) 5000
set_option maxHeartbeats 4000000 in
set_option maxRecDepth 100000 in
theorem wX1_blockOf_6 {l : Launch} {b0 : Nat} {D : GD} {K : KT} {n : Nat} {κ : QT} {X0 : XT} {Y0 : YT} {Z : ZT} (hL : LY n κ) (hN : ([33] : List Nat).Nodup) (hM : ([] : List Nat).Nodup) (hC : gC l b0 D K RX1 cX1_blockOf (some FieldType.int) 6 1 21 0 0) {x33 : Nat → Int32} {r : Int32} (hret : ∀ pc loc, narrow .int (.int r) = .int r → decode cX1_blockOf pc = .ok (.ireturn, 1) → gV l b0 D K (n, κ, ov X0 [33] [x33], ov Y0 [] [], Z, 0, 0) pc loc [.int r]) : ∀ (j : Nat) (v2 : Int32) (v3 : Int32), lq2 (fX1_blockOf_6b x33 ) j v2 v3 = some r → gV l b0 D K (n, κ, ov X0 [33] [x33], ov Y0 [] [], Z, 0, 0) 6 [(0, .ref (b0 + 32)), (2, .int v2), (3, .int v3)] [] := by
  intro j
  induction j with
  | zero => intro v2 v3 hf; cases hf
  | succ j hk6 =>
    intro v2 v3 hf
    replace hf : fX1_blockOf_6b x33  (lq2 (fX1_blockOf_6b x33 ) j) v2 v3 = some r := hf
    unfold fX1_blockOf_6b at hf
    refine g_iload_n hC 2 dX1_blockOf_6 rfl rfl ?_
    refine g_bipush hC (v := 6) dX1_blockOf_7 bp_6 ?_
    refine g_icmp_ge hC 69 dX1_blockOf_9 (by decide) (fun hc => ?_) (fun hc => ?_)
    · replace hf := ifT hf hc
      refine g_iload_n hC 1 dX1_blockOf_69 rfl rfl ?_
      obtain rfl := sm1E hf
      exact hret _ _ rfl dX1_blockOf_70
    · replace hf := ifF hf hc
      refine g_iload_n hC 1 dX1_blockOf_12 rfl rfl ?_
      refine g_istore hC (i := 4) [(4, .int v2), (0, .ref (b0 + 32)), (2, .int v2), (3, .int v3)] dX1_blockOf_13 (by decide) rfl ?_
      refine g_iconst hC (v := 0) dX1_blockOf_15 ic_0 ?_
      refine g_istore hC (i := 5) [(5, .int 0), (4, .int v2), (0, .ref (b0 + 32)), (2, .int v2), (3, .int v3)] dX1_blockOf_16 (by decide) rfl ?_
      exact g_sub [2, 3, 4, 1, 0] rfl (wX1_blockOf_18 hL hN hM hC  hret hk6 5000 v2 v3 v2 0 hf)

def fX1_blockOf_0   (x33 : Nat → Int32)  (v1 : Int32) : Option (Int32) := bn (1 <<< (v1 &&& 31)) fun t_1 => (fX1_blockOf_6 x33  t_1 0)
set_option maxHeartbeats 4000000 in
set_option maxRecDepth 100000 in
theorem wX1_blockOf_0 {l : Launch} {b0 : Nat} {D : GD} {K : KT} {n : Nat} {κ : QT} {X0 : XT} {Y0 : YT} {Z : ZT} (hL : LY n κ) (hN : ([33] : List Nat).Nodup) (hM : ([] : List Nat).Nodup) (hC : gC l b0 D K RX1 cX1_blockOf (some FieldType.int) 6 1 21 0 0) {x33 : Nat → Int32} {r : Int32} (hret : ∀ pc loc, narrow .int (.int r) = .int r → decode cX1_blockOf pc = .ok (.ireturn, 1) → gV l b0 D K (n, κ, ov X0 [33] [x33], ov Y0 [] [], Z, 0, 0) pc loc [.int r]) {v1 : Int32} (hf : fX1_blockOf_0 x33  v1 = some r) : gV l b0 D K (n, κ, ov X0 [33] [x33], ov Y0 [] [], Z, 0, 0) 0 [(0, .ref (b0 + 32)), (1, .int v1)] [] := by
  unfold fX1_blockOf_0 at hf
  refine g_iconst hC (v := 1) dX1_blockOf_0 ic_1 ?_
  refine g_iload_n hC 1 dX1_blockOf_1 rfl rfl ?_
  refine g_ishl hC dX1_blockOf_2 ?_
  obtain ⟨t_1, et_1, hf⟩ := bnE hf
  refine g_topi et_1 ?_
  refine g_istore_n hC (i := 2) [(2, .int t_1), (0, .ref (b0 + 32)), (1, .int v1)] rfl dX1_blockOf_3 (by decide) rfl ?_
  refine g_iconst hC (v := 0) dX1_blockOf_4 ic_0 ?_
  refine g_istore_n hC (i := 3) [(3, .int 0), (2, .int t_1), (0, .ref (b0 + 32)), (1, .int v1)] rfl dX1_blockOf_5 (by decide) rfl ?_
  exact g_sub [2, 1, 0] rfl (wX1_blockOf_6 hL hN hM hC  hret  5000 t_1 0 hf)

def fX1_blockOf   (x33 : Nat → Int32)  (v1 : Int32)   : Option (Int32) := fX1_blockOf_0 x33 v1

set_option maxHeartbeats 4000000 in
set_option maxRecDepth 100000 in
theorem c_X1_blockOf (l : Launch) {b0 : Nat} {D : GD} {n : Nat} {κ : QT} {X0 : XT} {Y0 : YT} {Z : ZT} (hL : LY n κ) {x33 : Nat → Int32} (hx : ([33] : List Nat).map X0 = [x33]) (hy : ([] : List Nat).map Y0 = []) {v1 : Int32} {r : Int32} (hf : fX1_blockOf x33 v1 = some r) : gMi l yX1_blockOf cX1_blockOf 6 (some FieldType.int) 1 21 0 0 b0 D [.ref (b0 + 32), .int v1] (n, κ, X0, Y0, Z) (n, κ, ov X0 [33] [x33], ov Y0 [] [], Z) r := by
  have hN : ([33] : List Nat).Nodup := by decide
  have hM : ([] : List Nat).Nodup := by decide
  refine g_meti (own := RX1) (by decide) rfl rfl (Nat.le_of_ble_eq_true rfl) ?_
  intro K hC hret
  have e := wX1_blockOf_0 hL hN hM hC  hret hf
  rw [ov_id' hx, ov_id' hy] at e
  exact g_sub [0, 1] rfl e

-- X1_isFast
def fX1_isFast_32   (xoz2 : Nat → Int32)  (k3 : Int32 → Int32 → Int32 → Option (Int32)) (v2 : Int32) (v3 : Int32) (v4 : Int32) : Option (Int32) := bn (v4 + 1) fun t_1 => (k3 v2 v3 t_1)
set_option maxHeartbeats 4000000 in
set_option maxRecDepth 100000 in
theorem wX1_isFast_32 {l : Launch} {b0 : Nat} {D : GD} {K : KT} {n : Nat} {κ : QT} {X0 : XT} {Y0 : YT} {Z : ZT} {o : Nat} (hL : LY n κ) (hk_o : κ o = (7, 0)) (hn_o : o < n) (hN : ([o + 2] : List Nat).Nodup) (hM : ([] : List Nat).Nodup) (hC : gC l b0 D K RX1 cX1_isFast (some FieldType.boolean) 5 1 21 0 0) {xoz2 : Nat → Int32} {r : Int32} (hret : ∀ pc loc, narrow .boolean (.int r) = .int r → decode cX1_isFast pc = .ok (.ireturn, 1) → gV l b0 D K (n, κ, ov X0 [o + 2] [xoz2], ov Y0 [] [], Z, 0, 0) pc loc [.int r]) {k3 : Int32 → Int32 → Int32 → Option (Int32)} (hk3 : ∀ (v2 : Int32) (v3 : Int32) (v4 : Int32), k3 v2 v3 v4 = some r → gV l b0 D K (n, κ, ov X0 [o + 2] [xoz2], ov Y0 [] [], Z, 0, 0) 3 [(1, .ref (b0 + o)), (2, .int v2), (3, .int v3), (4, .int v4)] []) {v2 : Int32} {v3 : Int32} {v4 : Int32} (hf : fX1_isFast_32 xoz2 k3 v2 v3 v4 = some r) : gV l b0 D K (n, κ, ov X0 [o + 2] [xoz2], ov Y0 [] [], Z, 0, 0) 32 [(1, .ref (b0 + o)), (2, .int v2), (3, .int v3), (4, .int v4)] [] := by
  unfold fX1_isFast_32 at hf
  obtain ⟨t_1, et_1, hf⟩ := bnE hf
  refine g_iinc hC (i := 4) (v := t_1) [(4, .int t_1), (1, .ref (b0 + o)), (2, .int v2), (3, .int v3)] dX1_isFast_32 (q := 3) rfl ((congrArg (HAdd.hAdd v4) ic_1).trans et_1.symm) (by decide) rfl ?_
  refine g_goto hC 3 dX1_isFast_35 (by decide) ?_
  exact g_sub [1, 2, 3, 0] rfl (hk3 v2 v3 t_1 hf)

def fX1_isFast_3b   (xoz2 : Nat → Int32)  (k3 : Int32 → Int32 → Int32 → Option (Int32)) (v2 : Int32) (v3 : Int32) (v4 : Int32) : Option (Int32) := if 6 ≤ v4 then (some 0) else (bd1 (fX11_hasBit v2 v4) fun r_1 => (if r_1 = 0 then (fX1_isFast_32 xoz2 k3 v2 v3 v4) else (gd (inb v4 6) (if (xoz2 v4.toNatClampNeg) ≤ v3 then (fX1_isFast_32 xoz2 k3 v2 v3 v4) else (some 1)))))
def fX1_isFast_3   (xoz2 : Nat → Int32)  : Int32 → Int32 → Int32 → Option (Int32) := lq3 (fX1_isFast_3b xoz2 ) 5000
set_option maxHeartbeats 4000000 in
set_option maxRecDepth 100000 in
theorem wX1_isFast_3 {l : Launch} {b0 : Nat} {D : GD} {K : KT} {n : Nat} {κ : QT} {X0 : XT} {Y0 : YT} {Z : ZT} {o : Nat} (hL : LY n κ) (hk_o : κ o = (7, 0)) (hn_o : o < n) (hN : ([o + 2] : List Nat).Nodup) (hM : ([] : List Nat).Nodup) (hC : gC l b0 D K RX1 cX1_isFast (some FieldType.boolean) 5 1 21 0 0) {xoz2 : Nat → Int32} {r : Int32} (hret : ∀ pc loc, narrow .boolean (.int r) = .int r → decode cX1_isFast pc = .ok (.ireturn, 1) → gV l b0 D K (n, κ, ov X0 [o + 2] [xoz2], ov Y0 [] [], Z, 0, 0) pc loc [.int r]) : ∀ (j : Nat) (v2 : Int32) (v3 : Int32) (v4 : Int32), lq3 (fX1_isFast_3b xoz2 ) j v2 v3 v4 = some r → gV l b0 D K (n, κ, ov X0 [o + 2] [xoz2], ov Y0 [] [], Z, 0, 0) 3 [(1, .ref (b0 + o)), (2, .int v2), (3, .int v3), (4, .int v4)] [] := by
  intro j
  induction j with
  | zero => intro v2 v3 v4 hf; cases hf
  | succ j hk3 =>
    intro v2 v3 v4 hf
    replace hf : fX1_isFast_3b xoz2  (lq3 (fX1_isFast_3b xoz2 ) j) v2 v3 v4 = some r := hf
    unfold fX1_isFast_3b at hf
    refine g_iload hC 3 dX1_isFast_3 rfl ?_
    refine g_bipush hC (v := 6) dX1_isFast_5 bp_6 ?_
    refine g_icmp_ge hC 38 dX1_isFast_7 (by decide) (fun hc => ?_) (fun hc => ?_)
    · replace hf := ifT hf hc
      refine g_iconst hC (v := 0) dX1_isFast_38 ic_0 ?_
      obtain rfl := sm1E hf
      exact hret _ _ rfl dX1_isFast_39
    · replace hf := ifF hf hc
      refine g_iload_n hC 1 dX1_isFast_10 rfl rfl ?_
      refine g_iload hC 3 dX1_isFast_11 rfl ?_
      obtain ⟨r_1, q_2, hf⟩ := bd1E hf
      refine g_callSN_i hC (X' := ov X0 [o + 2] [xoz2]) (Y' := ov Y0 [] []) (As := [.int v2, .int v4]) (gMi_eq (c_X11_hasBit l hL (ov_map hN [] (by rfl) (by rfl)) (ov_map hM [] (by rfl) (by rfl)) q_2) (ov_ovE hN (by rfl) [] [0] (by rfl) (by rfl) [xoz2] (by rfl) (by rfl) (by rfl) 1 (by rfl) (by decide)) (ov_ovE hM (by rfl) [] [] (by rfl) (by rfl) [] (by rfl) (by rfl) (by rfl) 0 (by rfl) (by decide))) tw_825 (List.mem_of_getElem? (i := 12) rfl) tw_116 tw_824 pd_X11_hasBit (by decide) (by decide) rfl rfl (Nat.le_of_ble_eq_true rfl) rfl dX1_isFast_13 ?_
      refine g_if_eq hC 32 dX1_isFast_16 (by decide) (fun hc => ?_) (fun hc => ?_)
      · replace hf := ifT hf hc
        exact g_sub [0, 1, 2, 3] rfl (wX1_isFast_32 hL hk_o hn_o hN hM hC  hret hk3 hf)
      · replace hf := ifF hf hc
        refine g_aload_n hC 0 dX1_isFast_19 rfl rfl ?_
        refine gt_X1_81 hC (a := o) hk_o hn_o dX1_isFast_20 ?_
        refine g_ref (b := (o + 2)) rfl ?_
        refine g_iload hC 3 dX1_isFast_23 rfl ?_
        obtain ⟨h_3, hf⟩ := gdE hf
        refine g_iald hC (x := xoz2) (LS2 hL hk_o hn_o) (LSn2 hL hk_o hn_o) (ov_get hN 0 rfl rfl) (inb_in h_3) dX1_isFast_25 ?_
        refine g_iload_n hC 2 dX1_isFast_26 rfl rfl ?_
        refine g_icmp_le hC 32 dX1_isFast_27 (by decide) (fun hc => ?_) (fun hc => ?_)
        · replace hf := ifT hf hc
          exact g_sub [0, 1, 2, 3] rfl (wX1_isFast_32 hL hk_o hn_o hN hM hC  hret hk3 hf)
        · replace hf := ifF hf hc
          refine g_iconst hC (v := 1) dX1_isFast_30 ic_1 ?_
          obtain rfl := sm1E hf
          exact hret _ _ rfl dX1_isFast_31

def fX1_isFast_0   (xoz2 : Nat → Int32)  (v2 : Int32) (v3 : Int32) : Option (Int32) := fX1_isFast_3 xoz2  v2 v3 0
set_option maxHeartbeats 4000000 in
set_option maxRecDepth 100000 in
theorem wX1_isFast_0 {l : Launch} {b0 : Nat} {D : GD} {K : KT} {n : Nat} {κ : QT} {X0 : XT} {Y0 : YT} {Z : ZT} {o : Nat} (hL : LY n κ) (hk_o : κ o = (7, 0)) (hn_o : o < n) (hN : ([o + 2] : List Nat).Nodup) (hM : ([] : List Nat).Nodup) (hC : gC l b0 D K RX1 cX1_isFast (some FieldType.boolean) 5 1 21 0 0) {xoz2 : Nat → Int32} {r : Int32} (hret : ∀ pc loc, narrow .boolean (.int r) = .int r → decode cX1_isFast pc = .ok (.ireturn, 1) → gV l b0 D K (n, κ, ov X0 [o + 2] [xoz2], ov Y0 [] [], Z, 0, 0) pc loc [.int r]) {v2 : Int32} {v3 : Int32} (hf : fX1_isFast_0 xoz2  v2 v3 = some r) : gV l b0 D K (n, κ, ov X0 [o + 2] [xoz2], ov Y0 [] [], Z, 0, 0) 0 [(1, .ref (b0 + o)), (2, .int v2), (3, .int v3)] [] := by
  unfold fX1_isFast_0 at hf
  refine g_iconst hC (v := 0) dX1_isFast_0 ic_0 ?_
  refine g_istore hC (i := 4) [(4, .int 0), (1, .ref (b0 + o)), (2, .int v2), (3, .int v3)] dX1_isFast_1 (by decide) rfl ?_
  exact g_sub [1, 2, 3, 0] rfl (wX1_isFast_3 hL hk_o hn_o hN hM hC  hret  5000 v2 v3 0 hf)

def fX1_isFast   (xoz2 : Nat → Int32)  (v2 : Int32) (v3 : Int32)   : Option (Int32) := fX1_isFast_0 xoz2 v2 v3

set_option maxHeartbeats 4000000 in
set_option maxRecDepth 100000 in
theorem c_X1_isFast (l : Launch) {b0 : Nat} {D : GD} {n : Nat} {κ : QT} {X0 : XT} {Y0 : YT} {Z : ZT} {o : Nat} (hL : LY n κ) (hk_o : κ o = (7, 0)) (hn_o : o < n) (hN : ([o + 2] : List Nat).Nodup) (hM : ([] : List Nat).Nodup) {xoz2 : Nat → Int32} (hx : ([o + 2] : List Nat).map X0 = [xoz2]) (hy : ([] : List Nat).map Y0 = []) {v2 : Int32} {v3 : Int32} {r : Int32} (hf : fX1_isFast xoz2 v2 v3 = some r) : gMi l yX1_isFast cX1_isFast 5 (some FieldType.boolean) 1 21 0 0 b0 D [.ref (b0 + 32), .ref (b0 + o), .int v2, .int v3] (n, κ, X0, Y0, Z) (n, κ, ov X0 [o + 2] [xoz2], ov Y0 [] [], Z) r := by
  refine g_meti (own := RX1) (by decide) rfl rfl (Nat.le_of_ble_eq_true rfl) ?_
  intro K hC hret
  have e := wX1_isFast_0 hL hk_o hn_o hN hM hC  hret hf
  rw [ov_id' hx, ov_id' hy] at e
  exact g_sub [1, 2, 3] rfl e

-- X1_lower
def fX1_lower_50   (x17 : Nat → Int32)  (k3 : Int32 → Int32 → Int32 → (Nat → Int32) → Option ((Nat → Int32))) (v2 : Int32) (v3 : Int32) (v4 : Int32) (xoz1 : (Nat → Int32)) : Option ((Nat → Int32)) := bn (v4 + 1) fun t_1 => (k3 v2 v3 t_1 xoz1)
set_option maxHeartbeats 4000000 in
set_option maxRecDepth 100000 in
theorem wX1_lower_50 {l : Launch} {b0 : Nat} {D : GD} {K : KT} {n : Nat} {κ : QT} {X0 : XT} {Y0 : YT} {Z : ZT} {o : Nat} (hL : LY n κ) (hk_o : κ o = (7, 0)) (hn_o : o < n) (hN : ([o + 1, 17] : List Nat).Nodup) (hM : ([] : List Nat).Nodup) (hC : gC l b0 D K RX1 cX1_lower none 5 1 40 0 0) {x17 : Nat → Int32} {rxoz1 : (Nat → Int32)} (hret : ∀ pc loc, decode cX1_lower pc = .ok (.return_, 1) → gV l b0 D K (n, κ, ov X0 [o + 1, 17] [rxoz1, x17], ov Y0 [] [], Z, 0, 0) pc loc []) {k3 : Int32 → Int32 → Int32 → (Nat → Int32) → Option ((Nat → Int32))} (hk3 : ∀ (v2 : Int32) (v3 : Int32) (v4 : Int32) (xoz1 : (Nat → Int32)), k3 v2 v3 v4 xoz1 = some rxoz1 → gV l b0 D K (n, κ, ov X0 [o + 1, 17] [xoz1, x17], ov Y0 [] [], Z, 0, 0) 3 [(0, .ref (b0 + 32)), (1, .ref (b0 + o)), (2, .int v2), (3, .int v3), (4, .int v4)] []) {v2 : Int32} {v3 : Int32} {v4 : Int32} {xoz1 : (Nat → Int32)} (hf : fX1_lower_50 x17 k3 v2 v3 v4 xoz1 = some rxoz1) : gV l b0 D K (n, κ, ov X0 [o + 1, 17] [xoz1, x17], ov Y0 [] [], Z, 0, 0) 50 [(0, .ref (b0 + 32)), (1, .ref (b0 + o)), (2, .int v2), (3, .int v3), (4, .int v4)] [] := by
  unfold fX1_lower_50 at hf
  obtain ⟨t_1, et_1, hf⟩ := bnE hf
  refine g_iinc hC (i := 4) (v := t_1) [(4, .int t_1), (0, .ref (b0 + 32)), (1, .ref (b0 + o)), (2, .int v2), (3, .int v3)] dX1_lower_50 (q := 4) rfl ((congrArg (HAdd.hAdd v4) ic_1).trans et_1.symm) (by decide) rfl ?_
  refine g_goto hC 3 dX1_lower_53 (by decide) ?_
  exact g_sub [1, 2, 3, 4, 0] rfl (hk3 v2 v3 t_1 xoz1 hf)

def fX1_lower_3b   (x17 : Nat → Int32)  (k3 : Int32 → Int32 → Int32 → (Nat → Int32) → Option ((Nat → Int32))) (v2 : Int32) (v3 : Int32) (v4 : Int32) (xoz1 : (Nat → Int32)) : Option ((Nat → Int32)) := if (x17 4) ≤ v4 then (some xoz1) else (bd1 (fX11_hasBit v2 v4) fun r_1 => (if r_1 = 0 then (fX1_lower_50 x17 k3 v2 v3 v4 xoz1) else (gd (inb v4 6) (gd (inb v4 6) (fX1_lower_50 x17 k3 v2 v3 v4 (upd xoz1 v4.toNatClampNeg (if ((xoz1 v4.toNatClampNeg) + v3) < (x17 0) then ((xoz1 v4.toNatClampNeg) + v3) else (x17 0))))))))
def fX1_lower_3   (x17 : Nat → Int32)  : Int32 → Int32 → Int32 → (Nat → Int32) → Option ((Nat → Int32)) := lq4 (fX1_lower_3b x17 ) 5000
set_option maxHeartbeats 4000000 in
set_option maxRecDepth 100000 in
theorem wX1_lower_3 {l : Launch} {b0 : Nat} {D : GD} {K : KT} {n : Nat} {κ : QT} {X0 : XT} {Y0 : YT} {Z : ZT} {o : Nat} (hL : LY n κ) (hk_o : κ o = (7, 0)) (hn_o : o < n) (hN : ([o + 1, 17] : List Nat).Nodup) (hM : ([] : List Nat).Nodup) (hC : gC l b0 D K RX1 cX1_lower none 5 1 40 0 0) {x17 : Nat → Int32} {rxoz1 : (Nat → Int32)} (hret : ∀ pc loc, decode cX1_lower pc = .ok (.return_, 1) → gV l b0 D K (n, κ, ov X0 [o + 1, 17] [rxoz1, x17], ov Y0 [] [], Z, 0, 0) pc loc []) : ∀ (j : Nat) (v2 : Int32) (v3 : Int32) (v4 : Int32) (xoz1 : (Nat → Int32)), lq4 (fX1_lower_3b x17 ) j v2 v3 v4 xoz1 = some rxoz1 → gV l b0 D K (n, κ, ov X0 [o + 1, 17] [xoz1, x17], ov Y0 [] [], Z, 0, 0) 3 [(0, .ref (b0 + 32)), (1, .ref (b0 + o)), (2, .int v2), (3, .int v3), (4, .int v4)] [] := by
  intro j
  induction j with
  | zero => intro v2 v3 v4 xoz1 hf; cases hf
  | succ j hk3 =>
    intro v2 v3 v4 xoz1 hf
    replace hf : fX1_lower_3b x17  (lq4 (fX1_lower_3b x17 ) j) v2 v3 v4 xoz1 = some rxoz1 := hf
    unfold fX1_lower_3b at hf
    refine g_iload hC 4 dX1_lower_3 rfl ?_
    refine g_aload_n hC 0 dX1_lower_5 rfl rfl ?_
    refine gt_X1_19 hC (a := 32) (kk_32 hL) (kn_32 hL) dX1_lower_6 ?_
    refine g_ref (b := 17) rfl ?_
    refine gt_X1_47 hC (x := x17) (kk_17 hL) (kn_17 hL) (ov_get hN 1 rfl rfl) dX1_lower_9 ?_
    refine g_icmp_ge hC 56 dX1_lower_12 (by decide) (fun hc => ?_) (fun hc => ?_)
    · replace hf := ifT hf hc
      obtain rfl := sm1E hf
      exact hret _ _ dX1_lower_56
    · replace hf := ifF hf hc
      refine g_iload_n hC 2 dX1_lower_15 rfl rfl ?_
      refine g_iload hC 4 dX1_lower_16 rfl ?_
      obtain ⟨r_1, q_2, hf⟩ := bd1E hf
      refine g_callSN_i hC (X' := ov X0 [o + 1, 17] [xoz1, x17]) (Y' := ov Y0 [] []) (As := [.int v2, .int v4]) (gMi_eq (c_X11_hasBit l hL (ov_map hN [] (by rfl) (by rfl)) (ov_map hM [] (by rfl) (by rfl)) q_2) (ov_ovE hN (by rfl) [] [0, 1] (by rfl) (by rfl) [xoz1, x17] (by rfl) (by rfl) (by rfl) 2 (by rfl) (by decide)) (ov_ovE hM (by rfl) [] [] (by rfl) (by rfl) [] (by rfl) (by rfl) (by rfl) 0 (by rfl) (by decide))) tw_825 (List.mem_of_getElem? (i := 12) rfl) tw_116 tw_824 pd_X11_hasBit (by decide) (by decide) rfl rfl (Nat.le_of_ble_eq_true rfl) rfl dX1_lower_18 ?_
      refine g_if_eq hC 50 dX1_lower_21 (by decide) (fun hc => ?_) (fun hc => ?_)
      · replace hf := ifT hf hc
        exact g_sub [0, 1, 2, 3, 4] rfl (wX1_lower_50 hL hk_o hn_o hN hM hC  hret hk3 hf)
      · replace hf := ifF hf hc
        refine g_aload_n hC 1 dX1_lower_24 rfl rfl ?_
        refine gt_X1_72 hC (a := o) hk_o hn_o dX1_lower_25 ?_
        refine g_ref (b := (o + 1)) rfl ?_
        refine g_iload hC 4 dX1_lower_28 rfl ?_
        refine g_aload_n hC 0 dX1_lower_30 rfl rfl ?_
        refine gt_X1_19 hC (a := 32) (kk_32 hL) (kn_32 hL) dX1_lower_31 ?_
        refine g_ref (b := 17) rfl ?_
        refine gt_X1_93 hC (x := x17) (kk_17 hL) (kn_17 hL) (ov_get hN 1 rfl rfl) dX1_lower_34 ?_
        refine g_aload_n hC 1 dX1_lower_37 rfl rfl ?_
        refine gt_X1_72 hC (a := o) hk_o hn_o dX1_lower_38 ?_
        refine g_ref (b := (o + 1)) rfl ?_
        refine g_iload hC 4 dX1_lower_41 rfl ?_
        obtain ⟨h_3, hf⟩ := gdE hf
        refine g_iald hC (x := xoz1) (LS1 hL hk_o hn_o) (LSn1 hL hk_o hn_o) (ov_get hN 0 rfl rfl) (inb_in h_3) dX1_lower_43 ?_
        refine g_iload_n hC 3 dX1_lower_44 rfl rfl ?_
        refine g_iadd hC dX1_lower_45 ?_
        refine g_mmin hC tw_931 (by decide) (Nat.le_of_ble_eq_true rfl) dX1_lower_46 ?_
        obtain ⟨h_4, hf⟩ := gdE hf
        refine g_iast hC (x := xoz1) (LS1 hL hk_o hn_o) (LSn1 hL hk_o hn_o) (ov_get hN 0 rfl rfl) (inb_in h_4) (ov_set hN (by rfl) 0 (by rfl)) dX1_lower_49 ?_
        show gV l b0 D K (n, κ, ov X0 [o + 1, 17] [(upd xoz1 v4.toNatClampNeg (if ((xoz1 v4.toNatClampNeg) + v3) < (x17 0) then ((xoz1 v4.toNatClampNeg) + v3) else (x17 0))), x17], ov Y0 [] [], Z, 0, 0) 50 [(0, .ref (b0 + 32)), (1, .ref (b0 + o)), (2, .int v2), (3, .int v3), (4, .int v4)] []
        exact g_sub [0, 1, 2, 3, 4] rfl (wX1_lower_50 hL hk_o hn_o hN hM hC  hret hk3 hf)

def fX1_lower_0   (x17 : Nat → Int32)  (v2 : Int32) (v3 : Int32) (xoz1 : (Nat → Int32)) : Option ((Nat → Int32)) := fX1_lower_3 x17  v2 v3 0 xoz1
set_option maxHeartbeats 4000000 in
set_option maxRecDepth 100000 in
theorem wX1_lower_0 {l : Launch} {b0 : Nat} {D : GD} {K : KT} {n : Nat} {κ : QT} {X0 : XT} {Y0 : YT} {Z : ZT} {o : Nat} (hL : LY n κ) (hk_o : κ o = (7, 0)) (hn_o : o < n) (hN : ([o + 1, 17] : List Nat).Nodup) (hM : ([] : List Nat).Nodup) (hC : gC l b0 D K RX1 cX1_lower none 5 1 40 0 0) {x17 : Nat → Int32} {rxoz1 : (Nat → Int32)} (hret : ∀ pc loc, decode cX1_lower pc = .ok (.return_, 1) → gV l b0 D K (n, κ, ov X0 [o + 1, 17] [rxoz1, x17], ov Y0 [] [], Z, 0, 0) pc loc []) {v2 : Int32} {v3 : Int32} {xoz1 : (Nat → Int32)} (hf : fX1_lower_0 x17  v2 v3 xoz1 = some rxoz1) : gV l b0 D K (n, κ, ov X0 [o + 1, 17] [xoz1, x17], ov Y0 [] [], Z, 0, 0) 0 [(0, .ref (b0 + 32)), (1, .ref (b0 + o)), (2, .int v2), (3, .int v3)] [] := by
  unfold fX1_lower_0 at hf
  refine g_iconst hC (v := 0) dX1_lower_0 ic_0 ?_
  refine g_istore hC (i := 4) [(4, .int 0), (0, .ref (b0 + 32)), (1, .ref (b0 + o)), (2, .int v2), (3, .int v3)] dX1_lower_1 (by decide) rfl ?_
  exact g_sub [1, 2, 3, 4, 0] rfl (wX1_lower_3 hL hk_o hn_o hN hM hC  hret  5000 v2 v3 0 xoz1 hf)

def fX1_lower   (x17 : Nat → Int32)  (v2 : Int32) (v3 : Int32) (xoz1 : Nat → Int32)  : Option ((Nat → Int32)) := fX1_lower_0 x17 v2 v3 xoz1

set_option maxHeartbeats 4000000 in
set_option maxRecDepth 100000 in
theorem c_X1_lower (l : Launch) {b0 : Nat} {D : GD} {n : Nat} {κ : QT} {X0 : XT} {Y0 : YT} {Z : ZT} {o : Nat} (hL : LY n κ) (hk_o : κ o = (7, 0)) (hn_o : o < n) (hN : ([o + 1, 17] : List Nat).Nodup) (hM : ([] : List Nat).Nodup) {xoz1 : Nat → Int32} {x17 : Nat → Int32} (hx : ([o + 1, 17] : List Nat).map X0 = [xoz1, x17]) (hy : ([] : List Nat).map Y0 = []) {v2 : Int32} {v3 : Int32} {rxoz1 : (Nat → Int32)} (hf : fX1_lower x17 v2 v3 xoz1 = some rxoz1) : gMv l yX1_lower cX1_lower 5 none 1 40 0 0 b0 D [.ref (b0 + 32), .ref (b0 + o), .int v2, .int v3] (n, κ, X0, Y0, Z) (n, κ, ov X0 [o + 1, 17] [rxoz1, x17], ov Y0 [] [], Z) := by
  refine g_metv (own := RX1) (by decide) rfl rfl (Nat.le_of_ble_eq_true rfl) ?_
  intro K hC hret
  have e := wX1_lower_0 hL hk_o hn_o hN hM hC  hret hf
  rw [ov_id' hx, ov_id' hy] at e
  exact g_sub [0, 1, 2, 3] rfl e

-- X1_runDown
def fX1_runDown_98   (xoz2 : Nat → Int32) (xoz3 : Nat → Int32) (x17 : Nat → Int32)  (k21 : Int32 → Int32 → Int32 → Int32 → (Nat → Int32) → (Nat → Int32) → Option (Int32 × (Nat → Int32) × (Nat → Int32))) (v2 : Int32) (v3 : Int32) (v4 : Int32) (v5 : Int32) (xoz1 : (Nat → Int32)) (x33 : (Nat → Int32)) : Option (Int32 × (Nat → Int32) × (Nat → Int32)) := bn (v5 + 1) fun t_1 => (k21 v2 v3 v4 t_1 xoz1 x33)
set_option maxHeartbeats 4000000 in
set_option maxRecDepth 100000 in
theorem wX1_runDown_98 {l : Launch} {b0 : Nat} {D : GD} {K : KT} {n : Nat} {κ : QT} {X0 : XT} {Y0 : YT} {Z : ZT} {o : Nat} (hL : LY n κ) (hk_o : κ o = (7, 0)) (hn_o : o < n) (hN : ([o + 1, o + 2, o + 3, 17, 33] : List Nat).Nodup) (hM : ([] : List Nat).Nodup) (hC : gC l b0 D K RX1 cX1_runDown (some FieldType.int) 8 2 64 0 0) {xoz2 : Nat → Int32} {xoz3 : Nat → Int32} {x17 : Nat → Int32} {r : Int32} {rxoz1 : (Nat → Int32)} {rx33 : (Nat → Int32)} (hret : ∀ pc loc, narrow .int (.int r) = .int r → decode cX1_runDown pc = .ok (.ireturn, 1) → gV l b0 D K (n, κ, ov X0 [o + 1, o + 2, o + 3, 17, 33] [rxoz1, xoz2, xoz3, x17, rx33], ov Y0 [] [], Z, 0, 0) pc loc [.int r]) {k21 : Int32 → Int32 → Int32 → Int32 → (Nat → Int32) → (Nat → Int32) → Option (Int32 × (Nat → Int32) × (Nat → Int32))} (hk21 : ∀ (v2 : Int32) (v3 : Int32) (v4 : Int32) (v5 : Int32) (xoz1 : (Nat → Int32)) (x33 : (Nat → Int32)), k21 v2 v3 v4 v5 xoz1 x33 = some (r, rxoz1, rx33) → gV l b0 D K (n, κ, ov X0 [o + 1, o + 2, o + 3, 17, 33] [xoz1, xoz2, xoz3, x17, x33], ov Y0 [] [], Z, 0, 0) 21 [(0, .ref (b0 + 32)), (1, .ref (b0 + o)), (2, .int v2), (3, .int v3), (4, .int v4), (5, .int v5)] []) {v2 : Int32} {v3 : Int32} {v4 : Int32} {v5 : Int32} {xoz1 : (Nat → Int32)} {x33 : (Nat → Int32)} (hf : fX1_runDown_98 xoz2 xoz3 x17 k21 v2 v3 v4 v5 xoz1 x33 = some (r, rxoz1, rx33)) : gV l b0 D K (n, κ, ov X0 [o + 1, o + 2, o + 3, 17, 33] [xoz1, xoz2, xoz3, x17, x33], ov Y0 [] [], Z, 0, 0) 98 [(0, .ref (b0 + 32)), (1, .ref (b0 + o)), (2, .int v2), (3, .int v3), (4, .int v4), (5, .int v5)] [] := by
  unfold fX1_runDown_98 at hf
  obtain ⟨t_1, et_1, hf⟩ := bnE hf
  refine g_iinc hC (i := 5) (v := t_1) [(5, .int t_1), (0, .ref (b0 + 32)), (1, .ref (b0 + o)), (2, .int v2), (3, .int v3), (4, .int v4)] dX1_runDown_98 (q := 5) rfl ((congrArg (HAdd.hAdd v5) ic_1).trans et_1.symm) (by decide) rfl ?_
  refine g_goto hC 21 dX1_runDown_101 (by decide) ?_
  exact g_sub [1, 2, 3, 4, 5, 0] rfl (hk21 v2 v3 v4 t_1 xoz1 x33 hf)

def fX1_runDown_21b   (xoz2 : Nat → Int32) (xoz3 : Nat → Int32) (x17 : Nat → Int32)  (k21 : Int32 → Int32 → Int32 → Int32 → (Nat → Int32) → (Nat → Int32) → Option (Int32 × (Nat → Int32) × (Nat → Int32))) (v2 : Int32) (v3 : Int32) (v4 : Int32) (v5 : Int32) (xoz1 : (Nat → Int32)) (x33 : (Nat → Int32)) : Option (Int32 × (Nat → Int32) × (Nat → Int32)) := if (x17 4) ≤ v5 then (some (v4, xoz1, x33)) else (bd1 (fX11_hasBit v3 v5) fun r_1 => (if r_1 = 0 then (bd1 (fX1_blockOf x33 v5) fun r_3 => (bd1 (fJ6_bitCount_0f7a4 r_3) fun r_5 => (bn ((v2 - r_5) + 1) fun t_7 => (bn (v3 ||| r_3) fun t_8 => (if t_7 ≤ 0 then (fX1_runDown_98 xoz2 xoz3 x17 k21 v2 t_8 v4 v5 xoz1 x33) else (bd1 (fX1_isFast xoz2 r_3 v2) fun r_9 => (if r_9 = 0 then (bd1 (fX1_lower x17 r_3 t_7 xoz1) fun xoz1_11 => (bn (v4 ||| r_3) fun t_13 => (fX1_runDown_98 xoz2 xoz3 x17 k21 v2 t_8 t_13 v5 xoz1_11 x33))) else (fX1_runDown_98 xoz2 xoz3 x17 k21 v2 t_8 v4 v5 xoz1 x33)))))))) else (fX1_runDown_98 xoz2 xoz3 x17 k21 v2 v3 v4 v5 xoz1 x33)))
def fX1_runDown_21   (xoz2 : Nat → Int32) (xoz3 : Nat → Int32) (x17 : Nat → Int32)  : Int32 → Int32 → Int32 → Int32 → (Nat → Int32) → (Nat → Int32) → Option (Int32 × (Nat → Int32) × (Nat → Int32)) := lq6 (fX1_runDown_21b xoz2 xoz3 x17 ) 5000
set_option maxHeartbeats 4000000 in
set_option maxRecDepth 100000 in
theorem wX1_runDown_21 {l : Launch} {b0 : Nat} {D : GD} {K : KT} {n : Nat} {κ : QT} {X0 : XT} {Y0 : YT} {Z : ZT} {o : Nat} (hL : LY n κ) (hk_o : κ o = (7, 0)) (hn_o : o < n) (hN : ([o + 1, o + 2, o + 3, 17, 33] : List Nat).Nodup) (hM : ([] : List Nat).Nodup) (hC : gC l b0 D K RX1 cX1_runDown (some FieldType.int) 8 2 64 0 0) {xoz2 : Nat → Int32} {xoz3 : Nat → Int32} {x17 : Nat → Int32} {r : Int32} {rxoz1 : (Nat → Int32)} {rx33 : (Nat → Int32)} (hret : ∀ pc loc, narrow .int (.int r) = .int r → decode cX1_runDown pc = .ok (.ireturn, 1) → gV l b0 D K (n, κ, ov X0 [o + 1, o + 2, o + 3, 17, 33] [rxoz1, xoz2, xoz3, x17, rx33], ov Y0 [] [], Z, 0, 0) pc loc [.int r]) : ∀ (j : Nat) (v2 : Int32) (v3 : Int32) (v4 : Int32) (v5 : Int32) (xoz1 : (Nat → Int32)) (x33 : (Nat → Int32)), lq6 (fX1_runDown_21b xoz2 xoz3 x17 ) j v2 v3 v4 v5 xoz1 x33 = some (r, rxoz1, rx33) → gV l b0 D K (n, κ, ov X0 [o + 1, o + 2, o + 3, 17, 33] [xoz1, xoz2, xoz3, x17, x33], ov Y0 [] [], Z, 0, 0) 21 [(0, .ref (b0 + 32)), (1, .ref (b0 + o)), (2, .int v2), (3, .int v3), (4, .int v4), (5, .int v5)] [] := by
  intro j
  induction j with
  | zero => intro v2 v3 v4 v5 xoz1 x33 hf; cases hf
  | succ j hk21 =>
    intro v2 v3 v4 v5 xoz1 x33 hf
    replace hf : fX1_runDown_21b xoz2 xoz3 x17  (lq6 (fX1_runDown_21b xoz2 xoz3 x17 ) j) v2 v3 v4 v5 xoz1 x33 = some (r, rxoz1, rx33) := hf
    unfold fX1_runDown_21b at hf
    refine g_iload hC 5 dX1_runDown_21 rfl ?_
    refine g_aload_n hC 0 dX1_runDown_23 rfl rfl ?_
    refine gt_X1_19 hC (a := 32) (kk_32 hL) (kn_32 hL) dX1_runDown_24 ?_
    refine g_ref (b := 17) rfl ?_
    refine gt_X1_47 hC (x := x17) (kk_17 hL) (kn_17 hL) (ov_get hN 3 rfl rfl) dX1_runDown_27 ?_
    refine g_icmp_ge hC 104 dX1_runDown_30 (by decide) (fun hc => ?_) (fun hc => ?_)
    · replace hf := ifT hf hc
      refine g_iload hC 4 dX1_runDown_104 rfl ?_
      obtain ⟨rfl, rfl, rfl⟩ := sm3E hf
      exact hret _ _ rfl dX1_runDown_106
    · replace hf := ifF hf hc
      refine g_iload_n hC 3 dX1_runDown_33 rfl rfl ?_
      refine g_iload hC 5 dX1_runDown_34 rfl ?_
      obtain ⟨r_1, q_2, hf⟩ := bd1E hf
      refine g_callSN_i hC (X' := ov X0 [o + 1, o + 2, o + 3, 17, 33] [xoz1, xoz2, xoz3, x17, x33]) (Y' := ov Y0 [] []) (As := [.int v3, .int v5]) (gMi_eq (c_X11_hasBit l hL (ov_map hN [] (by rfl) (by rfl)) (ov_map hM [] (by rfl) (by rfl)) q_2) (ov_ovE hN (by rfl) [] [0, 1, 2, 3, 4] (by rfl) (by rfl) [xoz1, xoz2, xoz3, x17, x33] (by rfl) (by rfl) (by rfl) 5 (by rfl) (by decide)) (ov_ovE hM (by rfl) [] [] (by rfl) (by rfl) [] (by rfl) (by rfl) (by rfl) 0 (by rfl) (by decide))) tw_825 (List.mem_of_getElem? (i := 12) rfl) tw_116 tw_824 pd_X11_hasBit (by decide) (by decide) rfl rfl (Nat.le_of_ble_eq_true rfl) rfl dX1_runDown_36 ?_
      refine g_if_ne hC 98 dX1_runDown_39 (by decide) (fun hc => ?_) (fun hc => ?_)
      · replace hf := ifF hf hc
        exact g_sub [0, 1, 2, 3, 4, 5] rfl (wX1_runDown_98 hL hk_o hn_o hN hM hC  hret hk21 hf)
      · replace hf := ifT hf hc
        refine g_aload_n hC 0 dX1_runDown_42 rfl rfl ?_
        refine g_iload hC 5 dX1_runDown_43 rfl ?_
        obtain ⟨r_3, q_4, hf⟩ := bd1E hf
        refine g_callV_i (a := 32) hC (X' := ov X0 [o + 1, o + 2, o + 3, 17, 33] [xoz1, xoz2, xoz3, x17, x33]) (Y' := ov Y0 [] []) (As := [.int v5]) (gMi_eq (c_X1_blockOf l hL (ov_map hN [4] (by rfl) (by rfl)) (ov_map hM [] (by rfl) (by rfl)) q_4) (ov_ovE hN (by rfl) [4] [0, 1, 2, 3] (by rfl) (by rfl) [xoz1, xoz2, xoz3, x17] (by rfl) (by rfl) (by rfl) 5 (by rfl) (by decide)) (ov_ovE hM (by rfl) [] [] (by rfl) (by rfl) [] (by rfl) (by rfl) (by rfl) 0 (by rfl) (by decide))) tw_822 tw_919 tw_123 tw_820 tw_821 (ci := 1) rfl (by decide) (kk_32 hL) (kn_32 hL) pd_X1_blockOf (by decide) (by decide) rfl rfl (Nat.le_of_ble_eq_true rfl) rfl dX1_runDown_45 ?_
        refine g_istore hC (i := 6) [(6, .int r_3), (0, .ref (b0 + 32)), (1, .ref (b0 + o)), (2, .int v2), (3, .int v3), (4, .int v4), (5, .int v5)] dX1_runDown_48 (by decide) rfl ?_
        refine g_iload_n hC 3 dX1_runDown_50 rfl rfl ?_
        refine g_iload hC 0 dX1_runDown_51 rfl ?_
        obtain ⟨r_5, q_6, hf⟩ := bd1E hf
        refine g_callS_i hC (X' := ov X0 [o + 1, o + 2, o + 3, 17, 33] [xoz1, xoz2, xoz3, x17, x33]) (Y' := ov Y0 [] []) (As := [.int r_3]) (gMi_eq (c_J6_bitCount_0f7a4 l hL (ov_map hN [] (by rfl) (by rfl)) (ov_map hM [] (by rfl) (by rfl)) q_6) (ov_ovE hN (by rfl) [] [0, 1, 2, 3, 4] (by rfl) (by rfl) [xoz1, xoz2, xoz3, x17, x33] (by rfl) (by rfl) (by rfl) 5 (by rfl) (by decide)) (ov_ovE hM (by rfl) [] [] (by rfl) (by rfl) [] (by rfl) (by rfl) (by rfl) 0 (by rfl) (by decide))) tw_922 tw_920 tw_136 tw_921 pd_J6_bitCount_0f7a4 (by decide) (by decide) rfl rfl (Nat.le_of_ble_eq_true rfl) rfl dX1_runDown_53 ?_
        refine g_isub hC dX1_runDown_56 ?_
        refine g_iconst hC (v := 1) dX1_runDown_57 ic_1 ?_
        refine g_iadd hC dX1_runDown_58 ?_
        obtain ⟨t_7, et_7, hf⟩ := bnE hf
        refine g_topi et_7 ?_
        refine g_istore hC (i := 7) [(7, .int t_7), (6, .int r_3), (0, .ref (b0 + 32)), (1, .ref (b0 + o)), (2, .int v2), (3, .int v3), (4, .int v4), (5, .int v5)] dX1_runDown_59 (by decide) rfl ?_
        refine g_iload_n hC 5 dX1_runDown_61 rfl rfl ?_
        refine g_iload hC 1 dX1_runDown_62 rfl ?_
        refine g_ior hC dX1_runDown_64 ?_
        obtain ⟨t_8, et_8, hf⟩ := bnE hf
        refine g_topi et_8 ?_
        refine g_istore_n hC (i := 3) [(3, .int t_8), (7, .int t_7), (6, .int r_3), (0, .ref (b0 + 32)), (1, .ref (b0 + o)), (2, .int v2), (4, .int v4), (5, .int v5)] rfl dX1_runDown_65 (by decide) rfl ?_
        refine g_iload hC 1 dX1_runDown_66 rfl ?_
        refine g_if_le hC 98 dX1_runDown_68 (by decide) (fun hc => ?_) (fun hc => ?_)
        · replace hf := ifT hf hc
          exact g_sub [3, 4, 5, 0, 6, 7] rfl (wX1_runDown_98 hL hk_o hn_o hN hM hC  hret hk21 hf)
        · replace hf := ifF hf hc
          refine g_aload_n hC 3 dX1_runDown_71 rfl rfl ?_
          refine g_aload_n hC 4 dX1_runDown_72 rfl rfl ?_
          refine g_iload hC 2 dX1_runDown_73 rfl ?_
          refine g_iload_n hC 5 dX1_runDown_75 rfl rfl ?_
          obtain ⟨r_9, q_10, hf⟩ := bd1E hf
          refine g_callV_i (a := 32) hC (X' := ov X0 [o + 1, o + 2, o + 3, 17, 33] [xoz1, xoz2, xoz3, x17, x33]) (Y' := ov Y0 [] []) (As := [.ref (b0 + o), .int r_3, .int v2]) (gMi_eq (c_X1_isFast l hL hk_o hn_o (nd_sub hN [1] (by decide) (by rfl)) (nd_sub hM [] (by decide) (by rfl)) (ov_map hN [1] (by rfl) (by rfl)) (ov_map hM [] (by rfl) (by rfl)) q_10) (ov_ovE hN (by rfl) [1] [0, 2, 3, 4] (by rfl) (by rfl) [xoz1, xoz3, x17, x33] (by rfl) (by rfl) (by rfl) 5 (by rfl) (by decide)) (ov_ovE hM (by rfl) [] [] (by rfl) (by rfl) [] (by rfl) (by rfl) (by rfl) 0 (by rfl) (by decide))) tw_833 tw_926 tw_123 tw_831 tw_832 (ci := 1) rfl (by decide) (kk_32 hL) (kn_32 hL) pd_X1_isFast (by decide) (by decide) rfl rfl (Nat.le_of_ble_eq_true rfl) rfl dX1_runDown_76 ?_
          refine g_if_ne hC 98 dX1_runDown_79 (by decide) (fun hc => ?_) (fun hc => ?_)
          · replace hf := ifF hf hc
            exact g_sub [3, 4, 5, 0, 6, 7] rfl (wX1_runDown_98 hL hk_o hn_o hN hM hC  hret hk21 hf)
          · replace hf := ifT hf hc
            refine g_aload_n hC 3 dX1_runDown_82 rfl rfl ?_
            refine g_aload_n hC 4 dX1_runDown_83 rfl rfl ?_
            refine g_iload hC 2 dX1_runDown_84 rfl ?_
            refine g_iload hC 1 dX1_runDown_86 rfl ?_
            obtain ⟨xoz1_11, q_12, hf⟩ := bd1E hf
            refine g_callV_v (a := 32) hC (X' := ov X0 [o + 1, o + 2, o + 3, 17, 33] [xoz1_11, xoz2, xoz3, x17, x33]) (Y' := ov Y0 [] []) (As := [.ref (b0 + o), .int r_3, .int t_7]) (gMv_eq (c_X1_lower l hL hk_o hn_o (nd_sub hN [0, 3] (by decide) (by rfl)) (nd_sub hM [] (by decide) (by rfl)) (ov_map hN [0, 3] (by rfl) (by rfl)) (ov_map hM [] (by rfl) (by rfl)) q_12) (ov_ovE hN (by rfl) [0, 3] [1, 2, 4] (by rfl) (by rfl) [xoz2, xoz3, x33] (by rfl) (by rfl) (by rfl) 5 (by rfl) (by decide)) (ov_ovE hM (by rfl) [] [] (by rfl) (by rfl) [] (by rfl) (by rfl) (by rfl) 0 (by rfl) (by decide))) tw_930 tw_927 tw_123 tw_929 tw_32 (ci := 1) rfl (by decide) (kk_32 hL) (kn_32 hL) pd_X1_lower (by decide) (by decide) rfl rfl (Nat.le_of_ble_eq_true rfl) rfl dX1_runDown_88 ?_
            refine g_iload hC 6 dX1_runDown_91 rfl ?_
            refine g_iload hC 2 dX1_runDown_93 rfl ?_
            refine g_ior hC dX1_runDown_95 ?_
            obtain ⟨t_13, et_13, hf⟩ := bnE hf
            refine g_topi et_13 ?_
            refine g_istore hC (i := 4) [(4, .int t_13), (3, .int t_8), (7, .int t_7), (6, .int r_3), (0, .ref (b0 + 32)), (1, .ref (b0 + o)), (2, .int v2), (5, .int v5)] dX1_runDown_96 (by decide) rfl ?_
            exact g_sub [4, 5, 6, 1, 0, 7] rfl (wX1_runDown_98 hL hk_o hn_o hN hM hC  hret hk21 hf)

def fX1_runDown_0   (xoz2 : Nat → Int32) (xoz3 : Nat → Int32) (x17 : Nat → Int32)  (v2 : Int32) (xoz1 : (Nat → Int32)) (x33 : (Nat → Int32)) : Option (Int32 × (Nat → Int32) × (Nat → Int32)) := bd1 (fX1_findHolds xoz3 v2 x33) fun x33_1 => (bd1 (fX9_riverBits xoz1 x17) fun r_3 => (fX1_runDown_21 xoz2 xoz3 x17  v2 r_3 0 0 xoz1 x33_1))
set_option maxHeartbeats 4000000 in
set_option maxRecDepth 100000 in
theorem wX1_runDown_0 {l : Launch} {b0 : Nat} {D : GD} {K : KT} {n : Nat} {κ : QT} {X0 : XT} {Y0 : YT} {Z : ZT} {o : Nat} (hL : LY n κ) (hk_o : κ o = (7, 0)) (hn_o : o < n) (hN : ([o + 1, o + 2, o + 3, 17, 33] : List Nat).Nodup) (hM : ([] : List Nat).Nodup) (hC : gC l b0 D K RX1 cX1_runDown (some FieldType.int) 8 2 64 0 0) {xoz2 : Nat → Int32} {xoz3 : Nat → Int32} {x17 : Nat → Int32} {r : Int32} {rxoz1 : (Nat → Int32)} {rx33 : (Nat → Int32)} (hret : ∀ pc loc, narrow .int (.int r) = .int r → decode cX1_runDown pc = .ok (.ireturn, 1) → gV l b0 D K (n, κ, ov X0 [o + 1, o + 2, o + 3, 17, 33] [rxoz1, xoz2, xoz3, x17, rx33], ov Y0 [] [], Z, 0, 0) pc loc [.int r]) {v2 : Int32} {xoz1 : (Nat → Int32)} {x33 : (Nat → Int32)} (hf : fX1_runDown_0 xoz2 xoz3 x17  v2 xoz1 x33 = some (r, rxoz1, rx33)) : gV l b0 D K (n, κ, ov X0 [o + 1, o + 2, o + 3, 17, 33] [xoz1, xoz2, xoz3, x17, x33], ov Y0 [] [], Z, 0, 0) 0 [(0, .ref (b0 + 32)), (1, .ref (b0 + o)), (2, .int v2)] [] := by
  unfold fX1_runDown_0 at hf
  refine g_aload_n hC 0 dX1_runDown_0 rfl rfl ?_
  refine g_aload_n hC 1 dX1_runDown_1 rfl rfl ?_
  refine g_iload_n hC 2 dX1_runDown_2 rfl rfl ?_
  obtain ⟨x33_1, q_2, hf⟩ := bd1E hf
  refine g_callV_v (a := 32) hC (X' := ov X0 [o + 1, o + 2, o + 3, 17, 33] [xoz1, xoz2, xoz3, x17, x33_1]) (Y' := ov Y0 [] []) (As := [.ref (b0 + o), .int v2]) (gMv_eq (c_X1_findHolds l hL hk_o hn_o (nd_sub hN [2, 4] (by decide) (by rfl)) (nd_sub hM [] (by decide) (by rfl)) (ov_map hN [2, 4] (by rfl) (by rfl)) (ov_map hM [] (by rfl) (by rfl)) q_2) (ov_ovE hN (by rfl) [2, 4] [0, 1, 3] (by rfl) (by rfl) [xoz1, xoz2, x17] (by rfl) (by rfl) (by rfl) 5 (by rfl) (by decide)) (ov_ovE hM (by rfl) [] [] (by rfl) (by rfl) [] (by rfl) (by rfl) (by rfl) 0 (by rfl) (by decide))) tw_817 tw_914 tw_123 tw_815 tw_816 (ci := 1) rfl (by decide) (kk_32 hL) (kn_32 hL) pd_X1_findHolds (by decide) (by decide) rfl rfl (Nat.le_of_ble_eq_true rfl) rfl dX1_runDown_3 ?_
  refine g_aload_n hC 0 dX1_runDown_6 rfl rfl ?_
  refine gt_X1_19 hC (a := 32) (kk_32 hL) (kn_32 hL) dX1_runDown_7 ?_
  refine g_ref (b := 17) rfl ?_
  refine g_aload_n hC 1 dX1_runDown_10 rfl rfl ?_
  obtain ⟨r_3, q_4, hf⟩ := bd1E hf
  refine g_callV_i (a := 17) hC (X' := ov X0 [o + 1, o + 2, o + 3, 17, 33] [xoz1, xoz2, xoz3, x17, x33_1]) (Y' := ov Y0 [] []) (As := [.ref (b0 + o)]) (gMi_eq (c_X9_riverBits l hL hk_o hn_o (nd_sub hN [0, 3] (by decide) (by rfl)) (nd_sub hM [] (by decide) (by rfl)) (ov_map hN [0, 3] (by rfl) (by rfl)) (ov_map hM [] (by rfl) (by rfl)) q_4) (ov_ovE hN (by rfl) [0, 3] [1, 2, 4] (by rfl) (by rfl) [xoz2, xoz3, x33_1] (by rfl) (by rfl) (by rfl) 5 (by rfl) (by decide)) (ov_ovE hM (by rfl) [] [] (by rfl) (by rfl) [] (by rfl) (by rfl) (by rfl) 0 (by rfl) (by decide))) tw_918 tw_915 tw_119 tw_916 tw_917 (ci := 9) rfl (by decide) (kk_17 hL) (kn_17 hL) pd_X9_riverBits (by decide) (by decide) rfl rfl (Nat.le_of_ble_eq_true rfl) rfl dX1_runDown_11 ?_
  refine g_istore_n hC (i := 3) [(3, .int r_3), (0, .ref (b0 + 32)), (1, .ref (b0 + o)), (2, .int v2)] rfl dX1_runDown_14 (by decide) rfl ?_
  refine g_iconst hC (v := 0) dX1_runDown_15 ic_0 ?_
  refine g_istore hC (i := 4) [(4, .int 0), (3, .int r_3), (0, .ref (b0 + 32)), (1, .ref (b0 + o)), (2, .int v2)] dX1_runDown_16 (by decide) rfl ?_
  refine g_iconst hC (v := 0) dX1_runDown_18 ic_0 ?_
  refine g_istore hC (i := 5) [(5, .int 0), (4, .int 0), (3, .int r_3), (0, .ref (b0 + 32)), (1, .ref (b0 + o)), (2, .int v2)] dX1_runDown_19 (by decide) rfl ?_
  exact g_sub [3, 4, 5, 2, 1, 0] rfl (wX1_runDown_21 hL hk_o hn_o hN hM hC  hret  5000 v2 r_3 0 0 xoz1 x33_1 hf)

def fX1_runDown   (xoz2 : Nat → Int32) (xoz3 : Nat → Int32) (x17 : Nat → Int32)  (v2 : Int32) (xoz1 : Nat → Int32) (x33 : Nat → Int32)  : Option (Int32 × (Nat → Int32) × (Nat → Int32)) := fX1_runDown_0 xoz2 xoz3 x17 v2 xoz1 x33

set_option maxHeartbeats 4000000 in
set_option maxRecDepth 100000 in
theorem c_X1_runDown (l : Launch) {b0 : Nat} {D : GD} {n : Nat} {κ : QT} {X0 : XT} {Y0 : YT} {Z : ZT} {o : Nat} (hL : LY n κ) (hk_o : κ o = (7, 0)) (hn_o : o < n) (hN : ([o + 1, o + 2, o + 3, 17, 33] : List Nat).Nodup) (hM : ([] : List Nat).Nodup) {xoz1 : Nat → Int32} {xoz2 : Nat → Int32} {xoz3 : Nat → Int32} {x17 : Nat → Int32} {x33 : Nat → Int32} (hx : ([o + 1, o + 2, o + 3, 17, 33] : List Nat).map X0 = [xoz1, xoz2, xoz3, x17, x33]) (hy : ([] : List Nat).map Y0 = []) {v2 : Int32} {r : Int32} {rxoz1 : (Nat → Int32)} {rx33 : (Nat → Int32)} (hf : fX1_runDown xoz2 xoz3 x17 v2 xoz1 x33 = some (r, rxoz1, rx33)) : gMi l yX1_runDown cX1_runDown 8 (some FieldType.int) 2 64 0 0 b0 D [.ref (b0 + 32), .ref (b0 + o), .int v2] (n, κ, X0, Y0, Z) (n, κ, ov X0 [o + 1, o + 2, o + 3, 17, 33] [rxoz1, xoz2, xoz3, x17, rx33], ov Y0 [] [], Z) r := by
  refine g_meti (own := RX1) (by decide) rfl rfl (Nat.le_of_ble_eq_true rfl) ?_
  intro K hC hret
  have e := wX1_runDown_0 hL hk_o hn_o hN hM hC  hret hf
  rw [ov_id' hx, ov_id' hy] at e
  exact g_sub [0, 1, 2] rfl e

-- X1_stickTogether
def fX1_stickTogether_127   (xoz1 : Nat → Int32) (x17 : Nat → Int32)  (k2 : Int32 → Int32 → (Nat → Int32) → Option ((Nat → Int32))) (k18 : Int32 → Int32 → Int32 → (Nat → Int32) → Option ((Nat → Int32))) (v2 : Int32) (v3 : Int32) (v4 : Int32) (xoz3 : (Nat → Int32)) : Option ((Nat → Int32)) := bn (v4 + 1) fun t_1 => (k18 v2 v3 t_1 xoz3)
set_option maxHeartbeats 4000000 in
set_option maxRecDepth 100000 in
theorem wX1_stickTogether_127 {l : Launch} {b0 : Nat} {D : GD} {K : KT} {n : Nat} {κ : QT} {X0 : XT} {Y0 : YT} {Z : ZT} {o : Nat} (hL : LY n κ) (hk_o : κ o = (7, 0)) (hn_o : o < n) (hN : ([o + 1, o + 3, 17] : List Nat).Nodup) (hM : ([] : List Nat).Nodup) (hC : gC l b0 D K RX1 cX1_stickTogether none 7 1 23 0 0) {xoz1 : Nat → Int32} {x17 : Nat → Int32} {rxoz3 : (Nat → Int32)} (hret : ∀ pc loc, decode cX1_stickTogether pc = .ok (.return_, 1) → gV l b0 D K (n, κ, ov X0 [o + 1, o + 3, 17] [xoz1, rxoz3, x17], ov Y0 [] [], Z, 0, 0) pc loc []) {k2 : Int32 → Int32 → (Nat → Int32) → Option ((Nat → Int32))} (hk2 : ∀ (v2 : Int32) (v3 : Int32) (xoz3 : (Nat → Int32)), k2 v2 v3 xoz3 = some rxoz3 → gV l b0 D K (n, κ, ov X0 [o + 1, o + 3, 17] [xoz1, xoz3, x17], ov Y0 [] [], Z, 0, 0) 2 [(0, .ref (b0 + 32)), (1, .ref (b0 + o)), (2, .int v2), (3, .int v3)] []) {k18 : Int32 → Int32 → Int32 → (Nat → Int32) → Option ((Nat → Int32))} (hk18 : ∀ (v2 : Int32) (v3 : Int32) (v4 : Int32) (xoz3 : (Nat → Int32)), k18 v2 v3 v4 xoz3 = some rxoz3 → gV l b0 D K (n, κ, ov X0 [o + 1, o + 3, 17] [xoz1, xoz3, x17], ov Y0 [] [], Z, 0, 0) 18 [(0, .ref (b0 + 32)), (1, .ref (b0 + o)), (2, .int v2), (3, .int v3), (4, .int v4)] []) {v2 : Int32} {v3 : Int32} {v4 : Int32} {xoz3 : (Nat → Int32)} (hf : fX1_stickTogether_127 xoz1 x17 k2 k18 v2 v3 v4 xoz3 = some rxoz3) : gV l b0 D K (n, κ, ov X0 [o + 1, o + 3, 17] [xoz1, xoz3, x17], ov Y0 [] [], Z, 0, 0) 127 [(0, .ref (b0 + 32)), (1, .ref (b0 + o)), (2, .int v2), (3, .int v3), (4, .int v4)] [] := by
  unfold fX1_stickTogether_127 at hf
  obtain ⟨t_1, et_1, hf⟩ := bnE hf
  refine g_iinc hC (i := 4) (v := t_1) [(4, .int t_1), (0, .ref (b0 + 32)), (1, .ref (b0 + o)), (2, .int v2), (3, .int v3)] dX1_stickTogether_127 (q := 4) rfl ((congrArg (HAdd.hAdd v4) ic_1).trans et_1.symm) (by decide) rfl ?_
  refine g_goto hC 18 dX1_stickTogether_130 (by decide) ?_
  exact g_sub [1, 2, 3, 4, 0] rfl (hk18 v2 v3 t_1 xoz3 hf)

def fX1_stickTogether_91   (xoz1 : Nat → Int32) (x17 : Nat → Int32)  (k2 : Int32 → Int32 → (Nat → Int32) → Option ((Nat → Int32))) (k18 : Int32 → Int32 → Int32 → (Nat → Int32) → Option ((Nat → Int32))) (v2 : Int32) (v3 : Int32) (v4 : Int32) (v5 : Int32) (s0 : Int32) (xoz3 : (Nat → Int32)) : Option ((Nat → Int32)) := if v5 = 0 then (fX1_stickTogether_127 xoz1 x17 k2 k18 v2 v3 v4 xoz3) else (if s0 = 0 then (fX1_stickTogether_127 xoz1 x17 k2 k18 v2 v3 v4 xoz3) else (bd1 (fX7_hardOf xoz3 v3 v4) fun r_1 => (if r_1 = 0 then (bd1 (fX7_setHard v3 v4 (x17 1) xoz3) fun xoz3_3 => (fX1_stickTogether_127 xoz1 x17 k2 k18 v2 v3 v4 xoz3_3)) else (fX1_stickTogether_127 xoz1 x17 k2 k18 v2 v3 v4 xoz3))))
set_option maxHeartbeats 4000000 in
set_option maxRecDepth 100000 in
theorem wX1_stickTogether_91 {l : Launch} {b0 : Nat} {D : GD} {K : KT} {n : Nat} {κ : QT} {X0 : XT} {Y0 : YT} {Z : ZT} {o : Nat} (hL : LY n κ) (hk_o : κ o = (7, 0)) (hn_o : o < n) (hN : ([o + 1, o + 3, 17] : List Nat).Nodup) (hM : ([] : List Nat).Nodup) (hC : gC l b0 D K RX1 cX1_stickTogether none 7 1 23 0 0) {xoz1 : Nat → Int32} {x17 : Nat → Int32} {rxoz3 : (Nat → Int32)} (hret : ∀ pc loc, decode cX1_stickTogether pc = .ok (.return_, 1) → gV l b0 D K (n, κ, ov X0 [o + 1, o + 3, 17] [xoz1, rxoz3, x17], ov Y0 [] [], Z, 0, 0) pc loc []) {k2 : Int32 → Int32 → (Nat → Int32) → Option ((Nat → Int32))} (hk2 : ∀ (v2 : Int32) (v3 : Int32) (xoz3 : (Nat → Int32)), k2 v2 v3 xoz3 = some rxoz3 → gV l b0 D K (n, κ, ov X0 [o + 1, o + 3, 17] [xoz1, xoz3, x17], ov Y0 [] [], Z, 0, 0) 2 [(0, .ref (b0 + 32)), (1, .ref (b0 + o)), (2, .int v2), (3, .int v3)] []) {k18 : Int32 → Int32 → Int32 → (Nat → Int32) → Option ((Nat → Int32))} (hk18 : ∀ (v2 : Int32) (v3 : Int32) (v4 : Int32) (xoz3 : (Nat → Int32)), k18 v2 v3 v4 xoz3 = some rxoz3 → gV l b0 D K (n, κ, ov X0 [o + 1, o + 3, 17] [xoz1, xoz3, x17], ov Y0 [] [], Z, 0, 0) 18 [(0, .ref (b0 + 32)), (1, .ref (b0 + o)), (2, .int v2), (3, .int v3), (4, .int v4)] []) {v2 : Int32} {v3 : Int32} {v4 : Int32} {v5 : Int32} {s0 : Int32} {xoz3 : (Nat → Int32)} (hf : fX1_stickTogether_91 xoz1 x17 k2 k18 v2 v3 v4 v5 s0 xoz3 = some rxoz3) : gV l b0 D K (n, κ, ov X0 [o + 1, o + 3, 17] [xoz1, xoz3, x17], ov Y0 [] [], Z, 0, 0) 91 [(0, .ref (b0 + 32)), (1, .ref (b0 + o)), (2, .int v2), (3, .int v3), (4, .int v4), (5, .int v5)] [.int s0] := by
  unfold fX1_stickTogether_91 at hf
  refine g_istore hC (i := 6) [(6, .int s0), (0, .ref (b0 + 32)), (1, .ref (b0 + o)), (2, .int v2), (3, .int v3), (4, .int v4), (5, .int v5)] dX1_stickTogether_91 (by decide) rfl ?_
  refine g_iload hC 6 dX1_stickTogether_93 rfl ?_
  refine g_if_eq hC 127 dX1_stickTogether_95 (by decide) (fun hc => ?_) (fun hc => ?_)
  · replace hf := ifT hf hc
    exact g_sub [1, 2, 3, 4, 5] rfl (wX1_stickTogether_127 hL hk_o hn_o hN hM hC  hret hk2 hk18 hf)
  · replace hf := ifF hf hc
    refine g_iload hC 0 dX1_stickTogether_98 rfl ?_
    refine g_if_eq hC 127 dX1_stickTogether_100 (by decide) (fun hc => ?_) (fun hc => ?_)
    · replace hf := ifT hf hc
      exact g_sub [1, 2, 3, 4, 5] rfl (wX1_stickTogether_127 hL hk_o hn_o hN hM hC  hret hk2 hk18 hf)
    · replace hf := ifF hf hc
      refine g_aload_n hC 2 dX1_stickTogether_103 rfl rfl ?_
      refine g_iload_n hC 4 dX1_stickTogether_104 rfl rfl ?_
      refine g_iload hC 5 dX1_stickTogether_105 rfl ?_
      obtain ⟨r_1, q_2, hf⟩ := bd1E hf
      refine g_callV_i (a := o) hC (X' := ov X0 [o + 1, o + 3, 17] [xoz1, xoz3, x17]) (Y' := ov Y0 [] []) (As := [.int v3, .int v4]) (gMi_eq (c_X7_hardOf l hL hk_o hn_o (nd_sub hN [1] (by decide) (by rfl)) (nd_sub hM [] (by decide) (by rfl)) (ov_map hN [1] (by rfl) (by rfl)) (ov_map hM [] (by rfl) (by rfl)) q_2) (ov_ovE hN (by rfl) [1] [0, 2] (by rfl) (by rfl) [xoz1, x17] (by rfl) (by rfl) (by rfl) 3 (by rfl) (by decide)) (ov_ovE hM (by rfl) [] [] (by rfl) (by rfl) [] (by rfl) (by rfl) (by rfl) 0 (by rfl) (by decide))) tw_845 tw_888 tw_120 tw_843 tw_844 (ci := 7) rfl (by decide) hk_o hn_o pd_X7_hardOf (by decide) (by decide) rfl rfl (Nat.le_of_ble_eq_true rfl) rfl dX1_stickTogether_107 ?_
      refine g_if_ne hC 127 dX1_stickTogether_110 (by decide) (fun hc => ?_) (fun hc => ?_)
      · replace hf := ifF hf hc
        exact g_sub [1, 2, 3, 4, 5] rfl (wX1_stickTogether_127 hL hk_o hn_o hN hM hC  hret hk2 hk18 hf)
      · replace hf := ifT hf hc
        refine g_aload_n hC 2 dX1_stickTogether_113 rfl rfl ?_
        refine g_iload_n hC 4 dX1_stickTogether_114 rfl rfl ?_
        refine g_iload hC 5 dX1_stickTogether_115 rfl ?_
        refine g_aload_n hC 1 dX1_stickTogether_117 rfl rfl ?_
        refine gt_X1_19 hC (a := 32) (kk_32 hL) (kn_32 hL) dX1_stickTogether_118 ?_
        refine g_ref (b := 17) rfl ?_
        refine gt_X1_138 hC (x := x17) (kk_17 hL) (kn_17 hL) (ov_get hN 2 rfl rfl) dX1_stickTogether_121 ?_
        obtain ⟨xoz3_3, q_4, hf⟩ := bd1E hf
        refine g_callV_v (a := o) hC (X' := ov X0 [o + 1, o + 3, 17] [xoz1, xoz3_3, x17]) (Y' := ov Y0 [] []) (As := [.int v3, .int v4, .int (x17 1)]) (gMv_eq (c_X7_setHard l hL hk_o hn_o (nd_sub hN [1] (by decide) (by rfl)) (nd_sub hM [] (by decide) (by rfl)) (ov_map hN [1] (by rfl) (by rfl)) (ov_map hM [] (by rfl) (by rfl)) q_4) (ov_ovE hN (by rfl) [1] [0, 2] (by rfl) (by rfl) [xoz1, x17] (by rfl) (by rfl) (by rfl) 3 (by rfl) (by decide)) (ov_ovE hM (by rfl) [] [] (by rfl) (by rfl) [] (by rfl) (by rfl) (by rfl) 0 (by rfl) (by decide))) tw_682 tw_940 tw_120 tw_680 tw_681 (ci := 7) rfl (by decide) hk_o hn_o pd_X7_setHard (by decide) (by decide) rfl rfl (Nat.le_of_ble_eq_true rfl) rfl dX1_stickTogether_124 ?_
        exact g_sub [1, 2, 3, 4, 5] rfl (wX1_stickTogether_127 hL hk_o hn_o hN hM hC  hret hk2 hk18 hf)

def fX1_stickTogether_86   (xoz1 : Nat → Int32) (x17 : Nat → Int32)  (k2 : Int32 → Int32 → (Nat → Int32) → Option ((Nat → Int32))) (k18 : Int32 → Int32 → Int32 → (Nat → Int32) → Option ((Nat → Int32))) (v2 : Int32) (v3 : Int32) (v4 : Int32) (v5 : Int32) (xoz3 : (Nat → Int32)) : Option ((Nat → Int32)) := fX1_stickTogether_91 xoz1 x17 k2 k18 v2 v3 v4 v5 1 xoz3
set_option maxHeartbeats 4000000 in
set_option maxRecDepth 100000 in
theorem wX1_stickTogether_86 {l : Launch} {b0 : Nat} {D : GD} {K : KT} {n : Nat} {κ : QT} {X0 : XT} {Y0 : YT} {Z : ZT} {o : Nat} (hL : LY n κ) (hk_o : κ o = (7, 0)) (hn_o : o < n) (hN : ([o + 1, o + 3, 17] : List Nat).Nodup) (hM : ([] : List Nat).Nodup) (hC : gC l b0 D K RX1 cX1_stickTogether none 7 1 23 0 0) {xoz1 : Nat → Int32} {x17 : Nat → Int32} {rxoz3 : (Nat → Int32)} (hret : ∀ pc loc, decode cX1_stickTogether pc = .ok (.return_, 1) → gV l b0 D K (n, κ, ov X0 [o + 1, o + 3, 17] [xoz1, rxoz3, x17], ov Y0 [] [], Z, 0, 0) pc loc []) {k2 : Int32 → Int32 → (Nat → Int32) → Option ((Nat → Int32))} (hk2 : ∀ (v2 : Int32) (v3 : Int32) (xoz3 : (Nat → Int32)), k2 v2 v3 xoz3 = some rxoz3 → gV l b0 D K (n, κ, ov X0 [o + 1, o + 3, 17] [xoz1, xoz3, x17], ov Y0 [] [], Z, 0, 0) 2 [(0, .ref (b0 + 32)), (1, .ref (b0 + o)), (2, .int v2), (3, .int v3)] []) {k18 : Int32 → Int32 → Int32 → (Nat → Int32) → Option ((Nat → Int32))} (hk18 : ∀ (v2 : Int32) (v3 : Int32) (v4 : Int32) (xoz3 : (Nat → Int32)), k18 v2 v3 v4 xoz3 = some rxoz3 → gV l b0 D K (n, κ, ov X0 [o + 1, o + 3, 17] [xoz1, xoz3, x17], ov Y0 [] [], Z, 0, 0) 18 [(0, .ref (b0 + 32)), (1, .ref (b0 + o)), (2, .int v2), (3, .int v3), (4, .int v4)] []) {v2 : Int32} {v3 : Int32} {v4 : Int32} {v5 : Int32} {xoz3 : (Nat → Int32)} (hf : fX1_stickTogether_86 xoz1 x17 k2 k18 v2 v3 v4 v5 xoz3 = some rxoz3) : gV l b0 D K (n, κ, ov X0 [o + 1, o + 3, 17] [xoz1, xoz3, x17], ov Y0 [] [], Z, 0, 0) 86 [(0, .ref (b0 + 32)), (1, .ref (b0 + o)), (2, .int v2), (3, .int v3), (4, .int v4), (5, .int v5)] [] := by
  unfold fX1_stickTogether_86 at hf
  refine g_iconst hC (v := 1) dX1_stickTogether_86 ic_1 ?_
  refine g_goto hC 91 dX1_stickTogether_87 (by decide) ?_
  exact g_sub [0, 1, 2, 3, 4, 5] rfl (wX1_stickTogether_91 hL hk_o hn_o hN hM hC  hret hk2 hk18 hf)

def fX1_stickTogether_67   (xoz1 : Nat → Int32) (x17 : Nat → Int32)  (k2 : Int32 → Int32 → (Nat → Int32) → Option ((Nat → Int32))) (k18 : Int32 → Int32 → Int32 → (Nat → Int32) → Option ((Nat → Int32))) (v2 : Int32) (v3 : Int32) (v4 : Int32) (s0 : Int32) (xoz3 : (Nat → Int32)) : Option ((Nat → Int32)) := bd1 (fX11_hasBit v2 v3) fun r_1 => (if r_1 = 0 then (bd1 (fX11_hasBit v2 v4) fun r_3 => (if r_3 = 0 then (fX1_stickTogether_91 xoz1 x17 k2 k18 v2 v3 v4 s0 0 xoz3) else (fX1_stickTogether_86 xoz1 x17 k2 k18 v2 v3 v4 s0 xoz3))) else (fX1_stickTogether_86 xoz1 x17 k2 k18 v2 v3 v4 s0 xoz3))
set_option maxHeartbeats 4000000 in
set_option maxRecDepth 100000 in
theorem wX1_stickTogether_67 {l : Launch} {b0 : Nat} {D : GD} {K : KT} {n : Nat} {κ : QT} {X0 : XT} {Y0 : YT} {Z : ZT} {o : Nat} (hL : LY n κ) (hk_o : κ o = (7, 0)) (hn_o : o < n) (hN : ([o + 1, o + 3, 17] : List Nat).Nodup) (hM : ([] : List Nat).Nodup) (hC : gC l b0 D K RX1 cX1_stickTogether none 7 1 23 0 0) {xoz1 : Nat → Int32} {x17 : Nat → Int32} {rxoz3 : (Nat → Int32)} (hret : ∀ pc loc, decode cX1_stickTogether pc = .ok (.return_, 1) → gV l b0 D K (n, κ, ov X0 [o + 1, o + 3, 17] [xoz1, rxoz3, x17], ov Y0 [] [], Z, 0, 0) pc loc []) {k2 : Int32 → Int32 → (Nat → Int32) → Option ((Nat → Int32))} (hk2 : ∀ (v2 : Int32) (v3 : Int32) (xoz3 : (Nat → Int32)), k2 v2 v3 xoz3 = some rxoz3 → gV l b0 D K (n, κ, ov X0 [o + 1, o + 3, 17] [xoz1, xoz3, x17], ov Y0 [] [], Z, 0, 0) 2 [(0, .ref (b0 + 32)), (1, .ref (b0 + o)), (2, .int v2), (3, .int v3)] []) {k18 : Int32 → Int32 → Int32 → (Nat → Int32) → Option ((Nat → Int32))} (hk18 : ∀ (v2 : Int32) (v3 : Int32) (v4 : Int32) (xoz3 : (Nat → Int32)), k18 v2 v3 v4 xoz3 = some rxoz3 → gV l b0 D K (n, κ, ov X0 [o + 1, o + 3, 17] [xoz1, xoz3, x17], ov Y0 [] [], Z, 0, 0) 18 [(0, .ref (b0 + 32)), (1, .ref (b0 + o)), (2, .int v2), (3, .int v3), (4, .int v4)] []) {v2 : Int32} {v3 : Int32} {v4 : Int32} {s0 : Int32} {xoz3 : (Nat → Int32)} (hf : fX1_stickTogether_67 xoz1 x17 k2 k18 v2 v3 v4 s0 xoz3 = some rxoz3) : gV l b0 D K (n, κ, ov X0 [o + 1, o + 3, 17] [xoz1, xoz3, x17], ov Y0 [] [], Z, 0, 0) 67 [(0, .ref (b0 + 32)), (1, .ref (b0 + o)), (2, .int v2), (3, .int v3), (4, .int v4)] [.int s0] := by
  unfold fX1_stickTogether_67 at hf
  refine g_istore hC (i := 5) [(5, .int s0), (0, .ref (b0 + 32)), (1, .ref (b0 + o)), (2, .int v2), (3, .int v3), (4, .int v4)] dX1_stickTogether_67 (by decide) rfl ?_
  refine g_iload_n hC 3 dX1_stickTogether_69 rfl rfl ?_
  refine g_iload_n hC 4 dX1_stickTogether_70 rfl rfl ?_
  obtain ⟨r_1, q_2, hf⟩ := bd1E hf
  refine g_callSN_i hC (X' := ov X0 [o + 1, o + 3, 17] [xoz1, xoz3, x17]) (Y' := ov Y0 [] []) (As := [.int v2, .int v3]) (gMi_eq (c_X11_hasBit l hL (ov_map hN [] (by rfl) (by rfl)) (ov_map hM [] (by rfl) (by rfl)) q_2) (ov_ovE hN (by rfl) [] [0, 1, 2] (by rfl) (by rfl) [xoz1, xoz3, x17] (by rfl) (by rfl) (by rfl) 3 (by rfl) (by decide)) (ov_ovE hM (by rfl) [] [] (by rfl) (by rfl) [] (by rfl) (by rfl) (by rfl) 0 (by rfl) (by decide))) tw_825 (List.mem_of_getElem? (i := 12) rfl) tw_116 tw_824 pd_X11_hasBit (by decide) (by decide) rfl rfl (Nat.le_of_ble_eq_true rfl) rfl dX1_stickTogether_71 ?_
  refine g_if_ne hC 86 dX1_stickTogether_74 (by decide) (fun hc => ?_) (fun hc => ?_)
  · replace hf := ifF hf hc
    exact g_sub [1, 2, 3, 4, 5, 0] rfl (wX1_stickTogether_86 hL hk_o hn_o hN hM hC  hret hk2 hk18 hf)
  · replace hf := ifT hf hc
    refine g_iload_n hC 3 dX1_stickTogether_77 rfl rfl ?_
    refine g_iload hC 5 dX1_stickTogether_78 rfl ?_
    obtain ⟨r_3, q_4, hf⟩ := bd1E hf
    refine g_callSN_i hC (X' := ov X0 [o + 1, o + 3, 17] [xoz1, xoz3, x17]) (Y' := ov Y0 [] []) (As := [.int v2, .int v4]) (gMi_eq (c_X11_hasBit l hL (ov_map hN [] (by rfl) (by rfl)) (ov_map hM [] (by rfl) (by rfl)) q_4) (ov_ovE hN (by rfl) [] [0, 1, 2] (by rfl) (by rfl) [xoz1, xoz3, x17] (by rfl) (by rfl) (by rfl) 3 (by rfl) (by decide)) (ov_ovE hM (by rfl) [] [] (by rfl) (by rfl) [] (by rfl) (by rfl) (by rfl) 0 (by rfl) (by decide))) tw_825 (List.mem_of_getElem? (i := 12) rfl) tw_116 tw_824 pd_X11_hasBit (by decide) (by decide) rfl rfl (Nat.le_of_ble_eq_true rfl) rfl dX1_stickTogether_80 ?_
    refine g_if_eq hC 90 dX1_stickTogether_83 (by decide) (fun hc => ?_) (fun hc => ?_)
    · replace hf := ifT hf hc
      refine g_iconst hC (v := 0) dX1_stickTogether_90 ic_0 ?_
      exact g_sub [1, 2, 3, 4, 5, 0] rfl (wX1_stickTogether_91 hL hk_o hn_o hN hM hC  hret hk2 hk18 hf)
    · replace hf := ifF hf hc
      exact g_sub [1, 2, 3, 4, 5, 0] rfl (wX1_stickTogether_86 hL hk_o hn_o hN hM hC  hret hk2 hk18 hf)

def fX1_stickTogether_66   (xoz1 : Nat → Int32) (x17 : Nat → Int32)  (k2 : Int32 → Int32 → (Nat → Int32) → Option ((Nat → Int32))) (k18 : Int32 → Int32 → Int32 → (Nat → Int32) → Option ((Nat → Int32))) (v2 : Int32) (v3 : Int32) (v4 : Int32) (xoz3 : (Nat → Int32)) : Option ((Nat → Int32)) := fX1_stickTogether_67 xoz1 x17 k2 k18 v2 v3 v4 0 xoz3
set_option maxHeartbeats 4000000 in
set_option maxRecDepth 100000 in
theorem wX1_stickTogether_66 {l : Launch} {b0 : Nat} {D : GD} {K : KT} {n : Nat} {κ : QT} {X0 : XT} {Y0 : YT} {Z : ZT} {o : Nat} (hL : LY n κ) (hk_o : κ o = (7, 0)) (hn_o : o < n) (hN : ([o + 1, o + 3, 17] : List Nat).Nodup) (hM : ([] : List Nat).Nodup) (hC : gC l b0 D K RX1 cX1_stickTogether none 7 1 23 0 0) {xoz1 : Nat → Int32} {x17 : Nat → Int32} {rxoz3 : (Nat → Int32)} (hret : ∀ pc loc, decode cX1_stickTogether pc = .ok (.return_, 1) → gV l b0 D K (n, κ, ov X0 [o + 1, o + 3, 17] [xoz1, rxoz3, x17], ov Y0 [] [], Z, 0, 0) pc loc []) {k2 : Int32 → Int32 → (Nat → Int32) → Option ((Nat → Int32))} (hk2 : ∀ (v2 : Int32) (v3 : Int32) (xoz3 : (Nat → Int32)), k2 v2 v3 xoz3 = some rxoz3 → gV l b0 D K (n, κ, ov X0 [o + 1, o + 3, 17] [xoz1, xoz3, x17], ov Y0 [] [], Z, 0, 0) 2 [(0, .ref (b0 + 32)), (1, .ref (b0 + o)), (2, .int v2), (3, .int v3)] []) {k18 : Int32 → Int32 → Int32 → (Nat → Int32) → Option ((Nat → Int32))} (hk18 : ∀ (v2 : Int32) (v3 : Int32) (v4 : Int32) (xoz3 : (Nat → Int32)), k18 v2 v3 v4 xoz3 = some rxoz3 → gV l b0 D K (n, κ, ov X0 [o + 1, o + 3, 17] [xoz1, xoz3, x17], ov Y0 [] [], Z, 0, 0) 18 [(0, .ref (b0 + 32)), (1, .ref (b0 + o)), (2, .int v2), (3, .int v3), (4, .int v4)] []) {v2 : Int32} {v3 : Int32} {v4 : Int32} {xoz3 : (Nat → Int32)} (hf : fX1_stickTogether_66 xoz1 x17 k2 k18 v2 v3 v4 xoz3 = some rxoz3) : gV l b0 D K (n, κ, ov X0 [o + 1, o + 3, 17] [xoz1, xoz3, x17], ov Y0 [] [], Z, 0, 0) 66 [(0, .ref (b0 + 32)), (1, .ref (b0 + o)), (2, .int v2), (3, .int v3), (4, .int v4)] [] := by
  unfold fX1_stickTogether_66 at hf
  refine g_iconst hC (v := 0) dX1_stickTogether_66 ic_0 ?_
  exact g_sub [0, 1, 2, 3, 4] rfl (wX1_stickTogether_67 hL hk_o hn_o hN hM hC  hret hk2 hk18 hf)

def fX1_stickTogether_18b   (xoz1 : Nat → Int32) (x17 : Nat → Int32)  (k2 : Int32 → Int32 → (Nat → Int32) → Option ((Nat → Int32))) (k18 : Int32 → Int32 → Int32 → (Nat → Int32) → Option ((Nat → Int32))) (v2 : Int32) (v3 : Int32) (v4 : Int32) (xoz3 : (Nat → Int32)) : Option ((Nat → Int32)) := if (x17 4) ≤ v4 then (bn (v3 + 1) fun t_1 => (k2 v2 t_1 xoz3)) else (gd (inb v3 6) (gd (inb v4 6) (if (xoz1 v3.toNatClampNeg) = (xoz1 v4.toNatClampNeg) then (gd (inb v3 6) (if (x17 0) ≤ (xoz1 v3.toNatClampNeg) then (fX1_stickTogether_66 xoz1 x17 k2 k18 v2 v3 v4 xoz3) else (fX1_stickTogether_67 xoz1 x17 k2 k18 v2 v3 v4 1 xoz3))) else (fX1_stickTogether_66 xoz1 x17 k2 k18 v2 v3 v4 xoz3))))
def fX1_stickTogether_18   (xoz1 : Nat → Int32) (x17 : Nat → Int32)  (k2 : Int32 → Int32 → (Nat → Int32) → Option ((Nat → Int32))) : Int32 → Int32 → Int32 → (Nat → Int32) → Option ((Nat → Int32)) := lq4 (fX1_stickTogether_18b xoz1 x17 k2) 5000
set_option maxHeartbeats 4000000 in
set_option maxRecDepth 100000 in
theorem wX1_stickTogether_18 {l : Launch} {b0 : Nat} {D : GD} {K : KT} {n : Nat} {κ : QT} {X0 : XT} {Y0 : YT} {Z : ZT} {o : Nat} (hL : LY n κ) (hk_o : κ o = (7, 0)) (hn_o : o < n) (hN : ([o + 1, o + 3, 17] : List Nat).Nodup) (hM : ([] : List Nat).Nodup) (hC : gC l b0 D K RX1 cX1_stickTogether none 7 1 23 0 0) {xoz1 : Nat → Int32} {x17 : Nat → Int32} {rxoz3 : (Nat → Int32)} (hret : ∀ pc loc, decode cX1_stickTogether pc = .ok (.return_, 1) → gV l b0 D K (n, κ, ov X0 [o + 1, o + 3, 17] [xoz1, rxoz3, x17], ov Y0 [] [], Z, 0, 0) pc loc []) {k2 : Int32 → Int32 → (Nat → Int32) → Option ((Nat → Int32))} (hk2 : ∀ (v2 : Int32) (v3 : Int32) (xoz3 : (Nat → Int32)), k2 v2 v3 xoz3 = some rxoz3 → gV l b0 D K (n, κ, ov X0 [o + 1, o + 3, 17] [xoz1, xoz3, x17], ov Y0 [] [], Z, 0, 0) 2 [(0, .ref (b0 + 32)), (1, .ref (b0 + o)), (2, .int v2), (3, .int v3)] []) : ∀ (j : Nat) (v2 : Int32) (v3 : Int32) (v4 : Int32) (xoz3 : (Nat → Int32)), lq4 (fX1_stickTogether_18b xoz1 x17 k2) j v2 v3 v4 xoz3 = some rxoz3 → gV l b0 D K (n, κ, ov X0 [o + 1, o + 3, 17] [xoz1, xoz3, x17], ov Y0 [] [], Z, 0, 0) 18 [(0, .ref (b0 + 32)), (1, .ref (b0 + o)), (2, .int v2), (3, .int v3), (4, .int v4)] [] := by
  intro j
  induction j with
  | zero => intro v2 v3 v4 xoz3 hf; cases hf
  | succ j hk18 =>
    intro v2 v3 v4 xoz3 hf
    replace hf : fX1_stickTogether_18b xoz1 x17 k2 (lq4 (fX1_stickTogether_18b xoz1 x17 k2) j) v2 v3 v4 xoz3 = some rxoz3 := hf
    unfold fX1_stickTogether_18b at hf
    refine g_iload hC 4 dX1_stickTogether_18 rfl ?_
    refine g_aload_n hC 0 dX1_stickTogether_20 rfl rfl ?_
    refine gt_X1_19 hC (a := 32) (kk_32 hL) (kn_32 hL) dX1_stickTogether_21 ?_
    refine g_ref (b := 17) rfl ?_
    refine gt_X1_47 hC (x := x17) (kk_17 hL) (kn_17 hL) (ov_get hN 2 rfl rfl) dX1_stickTogether_24 ?_
    refine g_icmp_ge hC 133 dX1_stickTogether_27 (by decide) (fun hc => ?_) (fun hc => ?_)
    · replace hf := ifT hf hc
      obtain ⟨t_1, et_1, hf⟩ := bnE hf
      refine g_iinc hC (i := 3) (v := t_1) [(3, .int t_1), (0, .ref (b0 + 32)), (1, .ref (b0 + o)), (2, .int v2), (4, .int v4)] dX1_stickTogether_133 (q := 3) rfl ((congrArg (HAdd.hAdd v3) ic_1).trans et_1.symm) (by decide) rfl ?_
      refine g_goto hC 2 dX1_stickTogether_136 (by decide) ?_
      exact g_sub [1, 2, 3, 0] rfl (hk2 v2 t_1 xoz3 hf)
    · replace hf := ifF hf hc
      refine g_aload_n hC 1 dX1_stickTogether_30 rfl rfl ?_
      refine gt_X1_72 hC (a := o) hk_o hn_o dX1_stickTogether_31 ?_
      refine g_ref (b := (o + 1)) rfl ?_
      refine g_iload_n hC 3 dX1_stickTogether_34 rfl rfl ?_
      obtain ⟨h_2, hf⟩ := gdE hf
      refine g_iald hC (x := xoz1) (LS1 hL hk_o hn_o) (LSn1 hL hk_o hn_o) (ov_get hN 0 rfl rfl) (inb_in h_2) dX1_stickTogether_35 ?_
      refine g_aload_n hC 1 dX1_stickTogether_36 rfl rfl ?_
      refine gt_X1_72 hC (a := o) hk_o hn_o dX1_stickTogether_37 ?_
      refine g_ref (b := (o + 1)) rfl ?_
      refine g_iload hC 4 dX1_stickTogether_40 rfl ?_
      obtain ⟨h_3, hf⟩ := gdE hf
      refine g_iald hC (x := xoz1) (LS1 hL hk_o hn_o) (LSn1 hL hk_o hn_o) (ov_get hN 0 rfl rfl) (inb_in h_3) dX1_stickTogether_42 ?_
      refine g_icmp_ne hC 66 dX1_stickTogether_43 (by decide) (fun hc => ?_) (fun hc => ?_)
      · replace hf := ifF hf hc
        exact g_sub [0, 1, 2, 3, 4] rfl (wX1_stickTogether_66 hL hk_o hn_o hN hM hC  hret hk2 hk18 hf)
      · replace hf := ifT hf hc
        refine g_aload_n hC 1 dX1_stickTogether_46 rfl rfl ?_
        refine gt_X1_72 hC (a := o) hk_o hn_o dX1_stickTogether_47 ?_
        refine g_ref (b := (o + 1)) rfl ?_
        refine g_iload_n hC 3 dX1_stickTogether_50 rfl rfl ?_
        obtain ⟨h_4, hf⟩ := gdE hf
        refine g_iald hC (x := xoz1) (LS1 hL hk_o hn_o) (LSn1 hL hk_o hn_o) (ov_get hN 0 rfl rfl) (inb_in h_4) dX1_stickTogether_51 ?_
        refine g_aload_n hC 0 dX1_stickTogether_52 rfl rfl ?_
        refine gt_X1_19 hC (a := 32) (kk_32 hL) (kn_32 hL) dX1_stickTogether_53 ?_
        refine g_ref (b := 17) rfl ?_
        refine gt_X1_93 hC (x := x17) (kk_17 hL) (kn_17 hL) (ov_get hN 2 rfl rfl) dX1_stickTogether_56 ?_
        refine g_icmp_ge hC 66 dX1_stickTogether_59 (by decide) (fun hc => ?_) (fun hc => ?_)
        · replace hf := ifT hf hc
          exact g_sub [0, 1, 2, 3, 4] rfl (wX1_stickTogether_66 hL hk_o hn_o hN hM hC  hret hk2 hk18 hf)
        · replace hf := ifF hf hc
          refine g_iconst hC (v := 1) dX1_stickTogether_62 ic_1 ?_
          refine g_goto hC 67 dX1_stickTogether_63 (by decide) ?_
          exact g_sub [0, 1, 2, 3, 4] rfl (wX1_stickTogether_67 hL hk_o hn_o hN hM hC  hret hk2 hk18 hf)

def fX1_stickTogether_2b   (xoz1 : Nat → Int32) (x17 : Nat → Int32)  (k2 : Int32 → Int32 → (Nat → Int32) → Option ((Nat → Int32))) (v2 : Int32) (v3 : Int32) (xoz3 : (Nat → Int32)) : Option ((Nat → Int32)) := if (x17 4) ≤ v3 then (some xoz3) else (bn (v3 + 1) fun t_1 => (fX1_stickTogether_18 xoz1 x17 k2 v2 v3 t_1 xoz3))
def fX1_stickTogether_2   (xoz1 : Nat → Int32) (x17 : Nat → Int32)  : Int32 → Int32 → (Nat → Int32) → Option ((Nat → Int32)) := lq3 (fX1_stickTogether_2b xoz1 x17 ) 5000
set_option maxHeartbeats 4000000 in
set_option maxRecDepth 100000 in
theorem wX1_stickTogether_2 {l : Launch} {b0 : Nat} {D : GD} {K : KT} {n : Nat} {κ : QT} {X0 : XT} {Y0 : YT} {Z : ZT} {o : Nat} (hL : LY n κ) (hk_o : κ o = (7, 0)) (hn_o : o < n) (hN : ([o + 1, o + 3, 17] : List Nat).Nodup) (hM : ([] : List Nat).Nodup) (hC : gC l b0 D K RX1 cX1_stickTogether none 7 1 23 0 0) {xoz1 : Nat → Int32} {x17 : Nat → Int32} {rxoz3 : (Nat → Int32)} (hret : ∀ pc loc, decode cX1_stickTogether pc = .ok (.return_, 1) → gV l b0 D K (n, κ, ov X0 [o + 1, o + 3, 17] [xoz1, rxoz3, x17], ov Y0 [] [], Z, 0, 0) pc loc []) : ∀ (j : Nat) (v2 : Int32) (v3 : Int32) (xoz3 : (Nat → Int32)), lq3 (fX1_stickTogether_2b xoz1 x17 ) j v2 v3 xoz3 = some rxoz3 → gV l b0 D K (n, κ, ov X0 [o + 1, o + 3, 17] [xoz1, xoz3, x17], ov Y0 [] [], Z, 0, 0) 2 [(0, .ref (b0 + 32)), (1, .ref (b0 + o)), (2, .int v2), (3, .int v3)] [] := by
  intro j
  induction j with
  | zero => intro v2 v3 xoz3 hf; cases hf
  | succ j hk2 =>
    intro v2 v3 xoz3 hf
    replace hf : fX1_stickTogether_2b xoz1 x17  (lq3 (fX1_stickTogether_2b xoz1 x17 ) j) v2 v3 xoz3 = some rxoz3 := hf
    unfold fX1_stickTogether_2b at hf
    refine g_iload_n hC 3 dX1_stickTogether_2 rfl rfl ?_
    refine g_aload_n hC 0 dX1_stickTogether_3 rfl rfl ?_
    refine gt_X1_19 hC (a := 32) (kk_32 hL) (kn_32 hL) dX1_stickTogether_4 ?_
    refine g_ref (b := 17) rfl ?_
    refine gt_X1_47 hC (x := x17) (kk_17 hL) (kn_17 hL) (ov_get hN 2 rfl rfl) dX1_stickTogether_7 ?_
    refine g_icmp_ge hC 139 dX1_stickTogether_10 (by decide) (fun hc => ?_) (fun hc => ?_)
    · replace hf := ifT hf hc
      obtain rfl := sm1E hf
      exact hret _ _ dX1_stickTogether_139
    · replace hf := ifF hf hc
      refine g_iload_n hC 3 dX1_stickTogether_13 rfl rfl ?_
      refine g_iconst hC (v := 1) dX1_stickTogether_14 ic_1 ?_
      refine g_iadd hC dX1_stickTogether_15 ?_
      obtain ⟨t_1, et_1, hf⟩ := bnE hf
      refine g_topi et_1 ?_
      refine g_istore hC (i := 4) [(4, .int t_1), (0, .ref (b0 + 32)), (1, .ref (b0 + o)), (2, .int v2), (3, .int v3)] dX1_stickTogether_16 (by decide) rfl ?_
      exact g_sub [1, 2, 3, 4, 0] rfl (wX1_stickTogether_18 hL hk_o hn_o hN hM hC  hret hk2 5000 v2 v3 t_1 xoz3 hf)

def fX1_stickTogether_0   (xoz1 : Nat → Int32) (x17 : Nat → Int32)  (v2 : Int32) (xoz3 : (Nat → Int32)) : Option ((Nat → Int32)) := fX1_stickTogether_2 xoz1 x17  v2 0 xoz3
set_option maxHeartbeats 4000000 in
set_option maxRecDepth 100000 in
theorem wX1_stickTogether_0 {l : Launch} {b0 : Nat} {D : GD} {K : KT} {n : Nat} {κ : QT} {X0 : XT} {Y0 : YT} {Z : ZT} {o : Nat} (hL : LY n κ) (hk_o : κ o = (7, 0)) (hn_o : o < n) (hN : ([o + 1, o + 3, 17] : List Nat).Nodup) (hM : ([] : List Nat).Nodup) (hC : gC l b0 D K RX1 cX1_stickTogether none 7 1 23 0 0) {xoz1 : Nat → Int32} {x17 : Nat → Int32} {rxoz3 : (Nat → Int32)} (hret : ∀ pc loc, decode cX1_stickTogether pc = .ok (.return_, 1) → gV l b0 D K (n, κ, ov X0 [o + 1, o + 3, 17] [xoz1, rxoz3, x17], ov Y0 [] [], Z, 0, 0) pc loc []) {v2 : Int32} {xoz3 : (Nat → Int32)} (hf : fX1_stickTogether_0 xoz1 x17  v2 xoz3 = some rxoz3) : gV l b0 D K (n, κ, ov X0 [o + 1, o + 3, 17] [xoz1, xoz3, x17], ov Y0 [] [], Z, 0, 0) 0 [(0, .ref (b0 + 32)), (1, .ref (b0 + o)), (2, .int v2)] [] := by
  unfold fX1_stickTogether_0 at hf
  refine g_iconst hC (v := 0) dX1_stickTogether_0 ic_0 ?_
  refine g_istore_n hC (i := 3) [(3, .int 0), (0, .ref (b0 + 32)), (1, .ref (b0 + o)), (2, .int v2)] rfl dX1_stickTogether_1 (by decide) rfl ?_
  exact g_sub [1, 2, 3, 0] rfl (wX1_stickTogether_2 hL hk_o hn_o hN hM hC  hret  5000 v2 0 xoz3 hf)

def fX1_stickTogether   (xoz1 : Nat → Int32) (x17 : Nat → Int32)  (v2 : Int32) (xoz3 : Nat → Int32)  : Option ((Nat → Int32)) := fX1_stickTogether_0 xoz1 x17 v2 xoz3

set_option maxHeartbeats 4000000 in
set_option maxRecDepth 100000 in
theorem c_X1_stickTogether (l : Launch) {b0 : Nat} {D : GD} {n : Nat} {κ : QT} {X0 : XT} {Y0 : YT} {Z : ZT} {o : Nat} (hL : LY n κ) (hk_o : κ o = (7, 0)) (hn_o : o < n) (hN : ([o + 1, o + 3, 17] : List Nat).Nodup) (hM : ([] : List Nat).Nodup) {xoz1 : Nat → Int32} {xoz3 : Nat → Int32} {x17 : Nat → Int32} (hx : ([o + 1, o + 3, 17] : List Nat).map X0 = [xoz1, xoz3, x17]) (hy : ([] : List Nat).map Y0 = []) {v2 : Int32} {rxoz3 : (Nat → Int32)} (hf : fX1_stickTogether xoz1 x17 v2 xoz3 = some rxoz3) : gMv l yX1_stickTogether cX1_stickTogether 7 none 1 23 0 0 b0 D [.ref (b0 + 32), .ref (b0 + o), .int v2] (n, κ, X0, Y0, Z) (n, κ, ov X0 [o + 1, o + 3, 17] [xoz1, rxoz3, x17], ov Y0 [] [], Z) := by
  refine g_metv (own := RX1) (by decide) rfl rfl (Nat.le_of_ble_eq_true rfl) ?_
  intro K hC hret
  have e := wX1_stickTogether_0 hL hk_o hn_o hN hM hC  hret hf
  rw [ov_id' hx, ov_id' hy] at e
  exact g_sub [0, 1, 2] rfl e

-- X1_melt
def fX1_melt_45   (x17 : Nat → Int32)  (k10 : Int32 → Int32 → (Nat → Int32) → (Nat → Int32) → (Nat → Int32) → (Nat → Int32) → (Nat → Int32) → Option (Int32 × (Nat → Int32) × (Nat → Int32) × (Nat → Int32) × (Nat → Int32) × (Nat → Int32))) (v3 : Int32) (v4 : Int32) (xo : (Nat → Int32)) (xoz1 : (Nat → Int32)) (xoz2 : (Nat → Int32)) (xoz3 : (Nat → Int32)) (x33 : (Nat → Int32)) : Option (Int32 × (Nat → Int32) × (Nat → Int32) × (Nat → Int32) × (Nat → Int32) × (Nat → Int32)) := bn (v4 + 1) fun t_1 => (k10 v3 t_1 xo xoz1 xoz2 xoz3 x33)
set_option maxHeartbeats 4000000 in
set_option maxRecDepth 100000 in
theorem wX1_melt_45 {l : Launch} {b0 : Nat} {D : GD} {K : KT} {n : Nat} {κ : QT} {X0 : XT} {Y0 : YT} {Z : ZT} {o : Nat} (hL : LY n κ) (hk_o : κ o = (7, 0)) (hn_o : o < n) (hN : ([o, o + 1, o + 2, o + 3, 17, 33] : List Nat).Nodup) (hM : ([] : List Nat).Nodup) (hC : gC l b0 D K RX1 cX1_melt (some FieldType.int) 5 3 91 0 0) {x17 : Nat → Int32} {r : Int32} {rxo : (Nat → Int32)} {rxoz1 : (Nat → Int32)} {rxoz2 : (Nat → Int32)} {rxoz3 : (Nat → Int32)} {rx33 : (Nat → Int32)} (hret : ∀ pc loc, narrow .int (.int r) = .int r → decode cX1_melt pc = .ok (.ireturn, 1) → gV l b0 D K (n, κ, ov X0 [o, o + 1, o + 2, o + 3, 17, 33] [rxo, rxoz1, rxoz2, rxoz3, x17, rx33], ov Y0 [] [], Z, 0, 0) pc loc [.int r]) {k10 : Int32 → Int32 → (Nat → Int32) → (Nat → Int32) → (Nat → Int32) → (Nat → Int32) → (Nat → Int32) → Option (Int32 × (Nat → Int32) × (Nat → Int32) × (Nat → Int32) × (Nat → Int32) × (Nat → Int32))} (hk10 : ∀ (v3 : Int32) (v4 : Int32) (xo : (Nat → Int32)) (xoz1 : (Nat → Int32)) (xoz2 : (Nat → Int32)) (xoz3 : (Nat → Int32)) (x33 : (Nat → Int32)), k10 v3 v4 xo xoz1 xoz2 xoz3 x33 = some (r, rxo, rxoz1, rxoz2, rxoz3, rx33) → gV l b0 D K (n, κ, ov X0 [o, o + 1, o + 2, o + 3, 17, 33] [xo, xoz1, xoz2, xoz3, x17, x33], ov Y0 [] [], Z, 0, 0) 10 [(0, .ref (b0 + 32)), (1, .ref (b0 + o)), (3, .int v3), (4, .int v4)] []) {v3 : Int32} {v4 : Int32} {xo : (Nat → Int32)} {xoz1 : (Nat → Int32)} {xoz2 : (Nat → Int32)} {xoz3 : (Nat → Int32)} {x33 : (Nat → Int32)} (hf : fX1_melt_45 x17 k10 v3 v4 xo xoz1 xoz2 xoz3 x33 = some (r, rxo, rxoz1, rxoz2, rxoz3, rx33)) : gV l b0 D K (n, κ, ov X0 [o, o + 1, o + 2, o + 3, 17, 33] [xo, xoz1, xoz2, xoz3, x17, x33], ov Y0 [] [], Z, 0, 0) 45 [(0, .ref (b0 + 32)), (1, .ref (b0 + o)), (3, .int v3), (4, .int v4)] [] := by
  unfold fX1_melt_45 at hf
  obtain ⟨t_1, et_1, hf⟩ := bnE hf
  refine g_iinc hC (i := 4) (v := t_1) [(4, .int t_1), (0, .ref (b0 + 32)), (1, .ref (b0 + o)), (3, .int v3)] dX1_melt_45 (q := 3) rfl ((congrArg (HAdd.hAdd v4) ic_1).trans et_1.symm) (by decide) rfl ?_
  refine g_goto hC 10 dX1_melt_48 (by decide) ?_
  exact g_sub [1, 2, 3, 0] rfl (hk10 v3 t_1 xo xoz1 xoz2 xoz3 x33 hf)

def fX1_melt_10b   (x17 : Nat → Int32)  (k10 : Int32 → Int32 → (Nat → Int32) → (Nat → Int32) → (Nat → Int32) → (Nat → Int32) → (Nat → Int32) → Option (Int32 × (Nat → Int32) × (Nat → Int32) × (Nat → Int32) × (Nat → Int32) × (Nat → Int32))) (v3 : Int32) (v4 : Int32) (xo : (Nat → Int32)) (xoz1 : (Nat → Int32)) (xoz2 : (Nat → Int32)) (xoz3 : (Nat → Int32)) (x33 : (Nat → Int32)) : Option (Int32 × (Nat → Int32) × (Nat → Int32) × (Nat → Int32) × (Nat → Int32) × (Nat → Int32)) := if (x17 4) ≤ v4 then (bd1 (fX1_stickTogether xoz1 x17 v3 xoz3) fun xoz3_1 => (bd1 (fJ6_bitCount_0f7a4 v3) fun r_3 => (some (r_3, (upd (upd xo 2 (if 0 < ((xo 2) - 1) then ((xo 2) - 1) else 0)) 0 (((upd xo 2 (if 0 < ((xo 2) - 1) then ((xo 2) - 1) else 0)) 0) + 1)), xoz1, xoz2, xoz3_1, x33)))) else (gd (inb v4 6) (if (xoz1 v4.toNatClampNeg) < (x17 0) then (fX1_melt_45 x17 k10 v3 v4 xo xoz1 xoz2 xoz3 x33) else (bd2 (fX7_loosen v4 xoz2 xoz3) fun xoz2_6 xoz3_7 => (fX1_melt_45 x17 k10 v3 v4 xo xoz1 xoz2_6 xoz3_7 x33))))
def fX1_melt_10   (x17 : Nat → Int32)  : Int32 → Int32 → (Nat → Int32) → (Nat → Int32) → (Nat → Int32) → (Nat → Int32) → (Nat → Int32) → Option (Int32 × (Nat → Int32) × (Nat → Int32) × (Nat → Int32) × (Nat → Int32) × (Nat → Int32)) := lq7 (fX1_melt_10b x17 ) 5000
set_option maxHeartbeats 4000000 in
set_option maxRecDepth 100000 in
theorem wX1_melt_10 {l : Launch} {b0 : Nat} {D : GD} {K : KT} {n : Nat} {κ : QT} {X0 : XT} {Y0 : YT} {Z : ZT} {o : Nat} (hL : LY n κ) (hk_o : κ o = (7, 0)) (hn_o : o < n) (hN : ([o, o + 1, o + 2, o + 3, 17, 33] : List Nat).Nodup) (hM : ([] : List Nat).Nodup) (hC : gC l b0 D K RX1 cX1_melt (some FieldType.int) 5 3 91 0 0) {x17 : Nat → Int32} {r : Int32} {rxo : (Nat → Int32)} {rxoz1 : (Nat → Int32)} {rxoz2 : (Nat → Int32)} {rxoz3 : (Nat → Int32)} {rx33 : (Nat → Int32)} (hret : ∀ pc loc, narrow .int (.int r) = .int r → decode cX1_melt pc = .ok (.ireturn, 1) → gV l b0 D K (n, κ, ov X0 [o, o + 1, o + 2, o + 3, 17, 33] [rxo, rxoz1, rxoz2, rxoz3, x17, rx33], ov Y0 [] [], Z, 0, 0) pc loc [.int r]) : ∀ (j : Nat) (v3 : Int32) (v4 : Int32) (xo : (Nat → Int32)) (xoz1 : (Nat → Int32)) (xoz2 : (Nat → Int32)) (xoz3 : (Nat → Int32)) (x33 : (Nat → Int32)), lq7 (fX1_melt_10b x17 ) j v3 v4 xo xoz1 xoz2 xoz3 x33 = some (r, rxo, rxoz1, rxoz2, rxoz3, rx33) → gV l b0 D K (n, κ, ov X0 [o, o + 1, o + 2, o + 3, 17, 33] [xo, xoz1, xoz2, xoz3, x17, x33], ov Y0 [] [], Z, 0, 0) 10 [(0, .ref (b0 + 32)), (1, .ref (b0 + o)), (3, .int v3), (4, .int v4)] [] := by
  intro j
  induction j with
  | zero => intro v3 v4 xo xoz1 xoz2 xoz3 x33 hf; cases hf
  | succ j hk10 =>
    intro v3 v4 xo xoz1 xoz2 xoz3 x33 hf
    replace hf : fX1_melt_10b x17  (lq7 (fX1_melt_10b x17 ) j) v3 v4 xo xoz1 xoz2 xoz3 x33 = some (r, rxo, rxoz1, rxoz2, rxoz3, rx33) := hf
    unfold fX1_melt_10b at hf
    refine g_iload hC 3 dX1_melt_10 rfl ?_
    refine g_aload_n hC 0 dX1_melt_12 rfl rfl ?_
    refine gt_X1_19 hC (a := 32) (kk_32 hL) (kn_32 hL) dX1_melt_13 ?_
    refine g_ref (b := 17) rfl ?_
    refine gt_X1_47 hC (x := x17) (kk_17 hL) (kn_17 hL) (ov_get hN 4 rfl rfl) dX1_melt_16 ?_
    refine g_icmp_ge hC 51 dX1_melt_19 (by decide) (fun hc => ?_) (fun hc => ?_)
    · replace hf := ifT hf hc
      refine g_aload_n hC 0 dX1_melt_51 rfl rfl ?_
      refine g_aload_n hC 1 dX1_melt_52 rfl rfl ?_
      refine g_iload_n hC 2 dX1_melt_53 rfl rfl ?_
      obtain ⟨xoz3_1, q_2, hf⟩ := bd1E hf
      refine g_callV_v (a := 32) hC (X' := ov X0 [o, o + 1, o + 2, o + 3, 17, 33] [xo, xoz1, xoz2, xoz3_1, x17, x33]) (Y' := ov Y0 [] []) (As := [.ref (b0 + o), .int v3]) (gMv_eq (c_X1_stickTogether l hL hk_o hn_o (nd_sub hN [1, 3, 4] (by decide) (by rfl)) (nd_sub hM [] (by decide) (by rfl)) (ov_map hN [1, 3, 4] (by rfl) (by rfl)) (ov_map hM [] (by rfl) (by rfl)) q_2) (ov_ovE hN (by rfl) [1, 3, 4] [0, 2, 5] (by rfl) (by rfl) [xo, xoz2, x33] (by rfl) (by rfl) (by rfl) 6 (by rfl) (by decide)) (ov_ovE hM (by rfl) [] [] (by rfl) (by rfl) [] (by rfl) (by rfl) (by rfl) 0 (by rfl) (by decide))) tw_939 tw_936 tw_123 tw_938 tw_33 (ci := 1) rfl (by decide) (kk_32 hL) (kn_32 hL) pd_X1_stickTogether (by decide) (by decide) rfl rfl (Nat.le_of_ble_eq_true rfl) rfl dX1_melt_54 ?_
      refine g_aload_n hC 1 dX1_melt_57 rfl rfl ?_
      refine g_iconst hC (v := 0) dX1_melt_58 ic_0 ?_
      refine g_aload_n hC 1 dX1_melt_59 rfl rfl ?_
      refine gt_X1_104 hC (x := xo) hk_o hn_o (ov_get hN 0 rfl rfl) dX1_melt_60 ?_
      refine g_iconst hC (v := 1) dX1_melt_63 ic_1 ?_
      refine g_isub hC dX1_melt_64 ?_
      refine g_mmax hC tw_941 (by decide) (Nat.le_of_ble_eq_true rfl) dX1_melt_65 ?_
      refine pt_X1_104 hC (x := xo) hk_o hn_o (ov_get hN 0 rfl rfl) (ov_set hN (by rfl) 0 (by rfl)) dX1_melt_68 ?_
      show gV l b0 D K (n, κ, ov X0 [o, o + 1, o + 2, o + 3, 17, 33] [(upd xo 2 (if 0 < ((xo 2) - 1) then ((xo 2) - 1) else 0)), xoz1, xoz2, xoz3_1, x17, x33], ov Y0 [] [], Z, 0, 0) 71 [(0, .ref (b0 + 32)), (1, .ref (b0 + o)), (3, .int v3), (4, .int v4)] []
      refine g_aload_n hC 1 dX1_melt_71 rfl rfl ?_
      refine g_dup hC dX1_melt_72 rfl ?_
      refine gt_X1_84 hC (x := (upd xo 2 (if 0 < ((xo 2) - 1) then ((xo 2) - 1) else 0))) hk_o hn_o (ov_get hN 0 rfl rfl) dX1_melt_73 ?_
      refine g_iconst hC (v := 1) dX1_melt_76 ic_1 ?_
      refine g_iadd hC dX1_melt_77 ?_
      refine pt_X1_84 hC (x := (upd xo 2 (if 0 < ((xo 2) - 1) then ((xo 2) - 1) else 0))) hk_o hn_o (ov_get hN 0 rfl rfl) (ov_set hN (by rfl) 0 (by rfl)) dX1_melt_78 ?_
      show gV l b0 D K (n, κ, ov X0 [o, o + 1, o + 2, o + 3, 17, 33] [(upd (upd xo 2 (if 0 < ((xo 2) - 1) then ((xo 2) - 1) else 0)) 0 (((upd xo 2 (if 0 < ((xo 2) - 1) then ((xo 2) - 1) else 0)) 0) + 1)), xoz1, xoz2, xoz3_1, x17, x33], ov Y0 [] [], Z, 0, 0) 81 [(0, .ref (b0 + 32)), (1, .ref (b0 + o)), (3, .int v3), (4, .int v4)] []
      refine g_iload_n hC 2 dX1_melt_81 rfl rfl ?_
      obtain ⟨r_3, q_4, hf⟩ := bd1E hf
      refine g_callS_i hC (X' := ov X0 [o, o + 1, o + 2, o + 3, 17, 33] [(upd (upd xo 2 (if 0 < ((xo 2) - 1) then ((xo 2) - 1) else 0)) 0 (((upd xo 2 (if 0 < ((xo 2) - 1) then ((xo 2) - 1) else 0)) 0) + 1)), xoz1, xoz2, xoz3_1, x17, x33]) (Y' := ov Y0 [] []) (As := [.int v3]) (gMi_eq (c_J6_bitCount_0f7a4 l hL (ov_map hN [] (by rfl) (by rfl)) (ov_map hM [] (by rfl) (by rfl)) q_4) (ov_ovE hN (by rfl) [] [0, 1, 2, 3, 4, 5] (by rfl) (by rfl) [(upd (upd xo 2 (if 0 < ((xo 2) - 1) then ((xo 2) - 1) else 0)) 0 (((upd xo 2 (if 0 < ((xo 2) - 1) then ((xo 2) - 1) else 0)) 0) + 1)), xoz1, xoz2, xoz3_1, x17, x33] (by rfl) (by rfl) (by rfl) 6 (by rfl) (by decide)) (ov_ovE hM (by rfl) [] [] (by rfl) (by rfl) [] (by rfl) (by rfl) (by rfl) 0 (by rfl) (by decide))) tw_922 tw_920 tw_136 tw_921 pd_J6_bitCount_0f7a4 (by decide) (by decide) rfl rfl (Nat.le_of_ble_eq_true rfl) rfl dX1_melt_82 ?_
      obtain ⟨rfl, rfl, rfl, rfl, rfl, rfl⟩ := sm6E hf
      exact hret _ _ rfl dX1_melt_85
    · replace hf := ifF hf hc
      refine g_aload_n hC 1 dX1_melt_22 rfl rfl ?_
      refine gt_X1_72 hC (a := o) hk_o hn_o dX1_melt_23 ?_
      refine g_ref (b := (o + 1)) rfl ?_
      refine g_iload hC 3 dX1_melt_26 rfl ?_
      obtain ⟨h_5, hf⟩ := gdE hf
      refine g_iald hC (x := xoz1) (LS1 hL hk_o hn_o) (LSn1 hL hk_o hn_o) (ov_get hN 1 rfl rfl) (inb_in h_5) dX1_melt_28 ?_
      refine g_aload_n hC 0 dX1_melt_29 rfl rfl ?_
      refine gt_X1_19 hC (a := 32) (kk_32 hL) (kn_32 hL) dX1_melt_30 ?_
      refine g_ref (b := 17) rfl ?_
      refine gt_X1_93 hC (x := x17) (kk_17 hL) (kn_17 hL) (ov_get hN 4 rfl rfl) dX1_melt_33 ?_
      refine g_icmp_lt hC 45 dX1_melt_36 (by decide) (fun hc => ?_) (fun hc => ?_)
      · replace hf := ifT hf hc
        exact g_sub [0, 1, 2, 3] rfl (wX1_melt_45 hL hk_o hn_o hN hM hC  hret hk10 hf)
      · replace hf := ifF hf hc
        refine g_aload_n hC 1 dX1_melt_39 rfl rfl ?_
        refine g_iload hC 3 dX1_melt_40 rfl ?_
        obtain ⟨xoz2_6, xoz3_7, q_8, hf⟩ := bd2E hf
        refine g_callV_v (a := o) hC (X' := ov X0 [o, o + 1, o + 2, o + 3, 17, 33] [xo, xoz1, xoz2_6, xoz3_7, x17, x33]) (Y' := ov Y0 [] []) (As := [.int v4]) (gMv_eq (c_X7_loosen l hL hk_o hn_o (nd_sub hN [2, 3] (by decide) (by rfl)) (nd_sub hM [] (by decide) (by rfl)) (ov_map hN [2, 3] (by rfl) (by rfl)) (ov_map hM [] (by rfl) (by rfl)) q_8) (ov_ovE hN (by rfl) [2, 3] [0, 1, 4, 5] (by rfl) (by rfl) [xo, xoz1, x17, x33] (by rfl) (by rfl) (by rfl) 6 (by rfl) (by decide)) (ov_ovE hM (by rfl) [] [] (by rfl) (by rfl) [] (by rfl) (by rfl) (by rfl) 0 (by rfl) (by decide))) tw_935 tw_932 tw_120 tw_933 tw_934 (ci := 7) rfl (by decide) hk_o hn_o pd_X7_loosen (by decide) (by decide) rfl rfl (Nat.le_of_ble_eq_true rfl) rfl dX1_melt_42 ?_
        exact g_sub [0, 1, 2, 3] rfl (wX1_melt_45 hL hk_o hn_o hN hM hC  hret hk10 hf)

def fX1_melt_0   (x17 : Nat → Int32)  (v2 : Int32) (xo : (Nat → Int32)) (xoz1 : (Nat → Int32)) (xoz2 : (Nat → Int32)) (xoz3 : (Nat → Int32)) (x33 : (Nat → Int32)) : Option (Int32 × (Nat → Int32) × (Nat → Int32) × (Nat → Int32) × (Nat → Int32) × (Nat → Int32)) := bd3 (fX1_runDown xoz2 xoz3 x17 v2 xoz1 x33) fun r_1 xoz1_2 x33_3 => (fX1_melt_10 x17  r_1 0 xo xoz1_2 xoz2 xoz3 x33_3)
set_option maxHeartbeats 4000000 in
set_option maxRecDepth 100000 in
theorem wX1_melt_0 {l : Launch} {b0 : Nat} {D : GD} {K : KT} {n : Nat} {κ : QT} {X0 : XT} {Y0 : YT} {Z : ZT} {o : Nat} (hL : LY n κ) (hk_o : κ o = (7, 0)) (hn_o : o < n) (hN : ([o, o + 1, o + 2, o + 3, 17, 33] : List Nat).Nodup) (hM : ([] : List Nat).Nodup) (hC : gC l b0 D K RX1 cX1_melt (some FieldType.int) 5 3 91 0 0) {x17 : Nat → Int32} {r : Int32} {rxo : (Nat → Int32)} {rxoz1 : (Nat → Int32)} {rxoz2 : (Nat → Int32)} {rxoz3 : (Nat → Int32)} {rx33 : (Nat → Int32)} (hret : ∀ pc loc, narrow .int (.int r) = .int r → decode cX1_melt pc = .ok (.ireturn, 1) → gV l b0 D K (n, κ, ov X0 [o, o + 1, o + 2, o + 3, 17, 33] [rxo, rxoz1, rxoz2, rxoz3, x17, rx33], ov Y0 [] [], Z, 0, 0) pc loc [.int r]) {v2 : Int32} {xo : (Nat → Int32)} {xoz1 : (Nat → Int32)} {xoz2 : (Nat → Int32)} {xoz3 : (Nat → Int32)} {x33 : (Nat → Int32)} (hf : fX1_melt_0 x17  v2 xo xoz1 xoz2 xoz3 x33 = some (r, rxo, rxoz1, rxoz2, rxoz3, rx33)) : gV l b0 D K (n, κ, ov X0 [o, o + 1, o + 2, o + 3, 17, 33] [xo, xoz1, xoz2, xoz3, x17, x33], ov Y0 [] [], Z, 0, 0) 0 [(0, .ref (b0 + 32)), (1, .ref (b0 + o)), (2, .int v2)] [] := by
  unfold fX1_melt_0 at hf
  refine g_aload_n hC 0 dX1_melt_0 rfl rfl ?_
  refine g_aload_n hC 1 dX1_melt_1 rfl rfl ?_
  refine g_iload_n hC 2 dX1_melt_2 rfl rfl ?_
  obtain ⟨r_1, xoz1_2, x33_3, q_4, hf⟩ := bd3E hf
  refine g_callV_i (a := 32) hC (X' := ov X0 [o, o + 1, o + 2, o + 3, 17, 33] [xo, xoz1_2, xoz2, xoz3, x17, x33_3]) (Y' := ov Y0 [] []) (As := [.ref (b0 + o), .int v2]) (gMi_eq (c_X1_runDown l hL hk_o hn_o (nd_sub hN [1, 2, 3, 4, 5] (by decide) (by rfl)) (nd_sub hM [] (by decide) (by rfl)) (ov_map hN [1, 2, 3, 4, 5] (by rfl) (by rfl)) (ov_map hM [] (by rfl) (by rfl)) q_4) (ov_ovE hN (by rfl) [1, 2, 3, 4, 5] [0] (by rfl) (by rfl) [xo] (by rfl) (by rfl) (by rfl) 6 (by rfl) (by decide)) (ov_ovE hM (by rfl) [] [] (by rfl) (by rfl) [] (by rfl) (by rfl) (by rfl) 0 (by rfl) (by decide))) tw_913 tw_910 tw_123 tw_912 tw_31 (ci := 1) rfl (by decide) (kk_32 hL) (kn_32 hL) pd_X1_runDown (by decide) (by decide) rfl rfl (Nat.le_of_ble_eq_true rfl) rfl dX1_melt_3 ?_
  refine g_istore_n hC (i := 3) [(3, .int r_1), (0, .ref (b0 + 32)), (1, .ref (b0 + o)), (2, .int v2)] rfl dX1_melt_6 (by decide) rfl ?_
  refine g_iconst hC (v := 0) dX1_melt_7 ic_0 ?_
  refine g_istore hC (i := 4) [(4, .int 0), (3, .int r_1), (0, .ref (b0 + 32)), (1, .ref (b0 + o)), (2, .int v2)] dX1_melt_8 (by decide) rfl ?_
  exact g_sub [2, 3, 1, 0] rfl (wX1_melt_10 hL hk_o hn_o hN hM hC  hret  5000 r_1 0 xo xoz1_2 xoz2 xoz3 x33_3 hf)

def fX1_melt   (x17 : Nat → Int32)  (v2 : Int32) (xo : Nat → Int32) (xoz1 : Nat → Int32) (xoz2 : Nat → Int32) (xoz3 : Nat → Int32) (x33 : Nat → Int32)  : Option (Int32 × (Nat → Int32) × (Nat → Int32) × (Nat → Int32) × (Nat → Int32) × (Nat → Int32)) := fX1_melt_0 x17 v2 xo xoz1 xoz2 xoz3 x33

set_option maxHeartbeats 4000000 in
set_option maxRecDepth 100000 in
theorem c_X1_melt (l : Launch) {b0 : Nat} {D : GD} {n : Nat} {κ : QT} {X0 : XT} {Y0 : YT} {Z : ZT} {o : Nat} (hL : LY n κ) (hk_o : κ o = (7, 0)) (hn_o : o < n) (hN : ([o, o + 1, o + 2, o + 3, 17, 33] : List Nat).Nodup) (hM : ([] : List Nat).Nodup) {xo : Nat → Int32} {xoz1 : Nat → Int32} {xoz2 : Nat → Int32} {xoz3 : Nat → Int32} {x17 : Nat → Int32} {x33 : Nat → Int32} (hx : ([o, o + 1, o + 2, o + 3, 17, 33] : List Nat).map X0 = [xo, xoz1, xoz2, xoz3, x17, x33]) (hy : ([] : List Nat).map Y0 = []) {v2 : Int32} {r : Int32} {rxo : (Nat → Int32)} {rxoz1 : (Nat → Int32)} {rxoz2 : (Nat → Int32)} {rxoz3 : (Nat → Int32)} {rx33 : (Nat → Int32)} (hf : fX1_melt x17 v2 xo xoz1 xoz2 xoz3 x33 = some (r, rxo, rxoz1, rxoz2, rxoz3, rx33)) : gMi l yX1_melt cX1_melt 5 (some FieldType.int) 3 91 0 0 b0 D [.ref (b0 + 32), .ref (b0 + o), .int v2] (n, κ, X0, Y0, Z) (n, κ, ov X0 [o, o + 1, o + 2, o + 3, 17, 33] [rxo, rxoz1, rxoz2, rxoz3, x17, rx33], ov Y0 [] [], Z) r := by
  refine g_meti (own := RX1) (by decide) rfl rfl (Nat.le_of_ble_eq_true rfl) ?_
  intro K hC hret
  have e := wX1_melt_0 hL hk_o hn_o hN hM hC  hret hf
  rw [ov_id' hx, ov_id' hy] at e
  exact g_sub [0, 1, 2] rfl e

-- X1_fillWords
def fX1_fillWords_0   (xo : Nat → Int32) (xoz1 : Nat → Int32) (xoz2 : Nat → Int32) (xoz3 : Nat → Int32) (x17 : Nat → Int32) (x18 : Nat → Int32)  (v2 : Int32) (v3 : Int32) (v4 : Int32) (y34 : (Nat → Int64)) : Option ((Nat → Int64)) := gd (inb 0 12) (gd (inb 1 12) (bd1 (fX7_hardOf xoz3 v2 v3) fun r_3 => (gd (inb 2 12) (gd (inb v2 6) (gd (inb 3 12) (gd (inb v3 6) (gd (inb 4 12) (gd (inb v2 6) (gd (inb v3 6) (gd (inb 5 12) (gd (inb v2 6) (gd (inb 6 12) (gd (inb v3 6) (gd (inb 7 12) (gd (inb 8 12) (bd1 (fX9_toldHeat x17 x18 ((xo 0) + 1)) fun r_18 => (gd (inb 9 12) (gd (inb 10 12) (gd (inb 11 12) (some (vp_updL (vp_updL (vp_updL (vp_updL (vp_updL (vp_updL (vp_updL (vp_updL (vp_updL (vp_updL (vp_updL (vp_updL y34 (0 : Int32).toNatClampNeg v2.toInt64) (1 : Int32).toNatClampNeg v3.toInt64) (2 : Int32).toNatClampNeg r_3.toInt64) (3 : Int32).toNatClampNeg ((xoz1 v2.toNatClampNeg).toInt64)) (4 : Int32).toNatClampNeg ((xoz1 v3.toNatClampNeg).toInt64)) (5 : Int32).toNatClampNeg ((if 0 ≤ ((xoz1 v2.toNatClampNeg) - (xoz1 v3.toNatClampNeg)) then ((xoz1 v2.toNatClampNeg) - (xoz1 v3.toNatClampNeg)) else 0 - ((xoz1 v2.toNatClampNeg) - (xoz1 v3.toNatClampNeg))).toInt64)) (6 : Int32).toNatClampNeg ((xoz2 v2.toNatClampNeg).toInt64)) (7 : Int32).toNatClampNeg ((xoz2 v3.toNatClampNeg).toInt64)) (8 : Int32).toNatClampNeg v4.toInt64) (9 : Int32).toNatClampNeg r_18.toInt64) (10 : Int32).toNatClampNeg ((xo 1).toInt64)) (11 : Int32).toNatClampNeg ((xo 0).toInt64))))))))))))))))))))))
set_option maxHeartbeats 4000000 in
set_option maxRecDepth 100000 in
theorem wX1_fillWords_0 {l : Launch} {b0 : Nat} {D : GD} {K : KT} {n : Nat} {κ : QT} {X0 : XT} {Y0 : YT} {Z : ZT} {o : Nat} (hL : LY n κ) (hk_o : κ o = (7, 0)) (hn_o : o < n) (hN : ([o, o + 1, o + 2, o + 3, 17, 18] : List Nat).Nodup) (hM : ([34] : List Nat).Nodup) (hC : gC l b0 D K RX1 cX1_fillWords none 5 1 40 0 0) {xo : Nat → Int32} {xoz1 : Nat → Int32} {xoz2 : Nat → Int32} {xoz3 : Nat → Int32} {x17 : Nat → Int32} {x18 : Nat → Int32} {ry34 : (Nat → Int64)} (hret : ∀ pc loc, decode cX1_fillWords pc = .ok (.return_, 1) → gV l b0 D K (n, κ, ov X0 [o, o + 1, o + 2, o + 3, 17, 18] [xo, xoz1, xoz2, xoz3, x17, x18], ov Y0 [34] [ry34], Z, 0, 0) pc loc []) {v2 : Int32} {v3 : Int32} {v4 : Int32} {y34 : (Nat → Int64)} (hf : fX1_fillWords_0 xo xoz1 xoz2 xoz3 x17 x18  v2 v3 v4 y34 = some ry34) : gV l b0 D K (n, κ, ov X0 [o, o + 1, o + 2, o + 3, 17, 18] [xo, xoz1, xoz2, xoz3, x17, x18], ov Y0 [34] [y34], Z, 0, 0) 0 [(0, .ref (b0 + 32)), (1, .ref (b0 + o)), (2, .int v2), (3, .int v3), (4, .int v4)] [] := by
  unfold fX1_fillWords_0 at hf
  refine g_aload_n hC 0 dX1_fillWords_0 rfl rfl ?_
  refine gt_X1_15 hC (a := 32) (kk_32 hL) (kn_32 hL) dX1_fillWords_1 ?_
  refine g_ref (b := 34) rfl ?_
  refine g_iconst hC (v := 0) dX1_fillWords_4 ic_0 ?_
  refine g_iload_n hC 2 dX1_fillWords_5 rfl rfl ?_
  refine g_i2l hC dX1_fillWords_6 ?_
  obtain ⟨h_1, hf⟩ := gdE hf
  refine g_last hC (x := y34) (kk_34 hL) (kn_34 hL) (ov_get hM 0 rfl rfl) (inb_in h_1) (ov_set hM (by rfl) 0 (by rfl)) dX1_fillWords_7 ?_
  show gV l b0 D K (n, κ, ov X0 [o, o + 1, o + 2, o + 3, 17, 18] [xo, xoz1, xoz2, xoz3, x17, x18], ov Y0 [34] [(vp_updL y34 (0 : Int32).toNatClampNeg v2.toInt64)], Z, 0, 0) 8 [(0, .ref (b0 + 32)), (1, .ref (b0 + o)), (2, .int v2), (3, .int v3), (4, .int v4)] []
  refine g_aload_n hC 0 dX1_fillWords_8 rfl rfl ?_
  refine gt_X1_15 hC (a := 32) (kk_32 hL) (kn_32 hL) dX1_fillWords_9 ?_
  refine g_ref (b := 34) rfl ?_
  refine g_iconst hC (v := 1) dX1_fillWords_12 ic_1 ?_
  refine g_iload_n hC 3 dX1_fillWords_13 rfl rfl ?_
  refine g_i2l hC dX1_fillWords_14 ?_
  obtain ⟨h_2, hf⟩ := gdE hf
  refine g_last hC (x := (vp_updL y34 (0 : Int32).toNatClampNeg v2.toInt64)) (kk_34 hL) (kn_34 hL) (ov_get hM 0 rfl rfl) (inb_in h_2) (ov_set hM (by rfl) 0 (by rfl)) dX1_fillWords_15 ?_
  show gV l b0 D K (n, κ, ov X0 [o, o + 1, o + 2, o + 3, 17, 18] [xo, xoz1, xoz2, xoz3, x17, x18], ov Y0 [34] [(vp_updL (vp_updL y34 (0 : Int32).toNatClampNeg v2.toInt64) (1 : Int32).toNatClampNeg v3.toInt64)], Z, 0, 0) 16 [(0, .ref (b0 + 32)), (1, .ref (b0 + o)), (2, .int v2), (3, .int v3), (4, .int v4)] []
  refine g_aload_n hC 0 dX1_fillWords_16 rfl rfl ?_
  refine gt_X1_15 hC (a := 32) (kk_32 hL) (kn_32 hL) dX1_fillWords_17 ?_
  refine g_ref (b := 34) rfl ?_
  refine g_iconst hC (v := 2) dX1_fillWords_20 ic_2 ?_
  refine g_aload_n hC 1 dX1_fillWords_21 rfl rfl ?_
  refine g_iload_n hC 2 dX1_fillWords_22 rfl rfl ?_
  refine g_iload_n hC 3 dX1_fillWords_23 rfl rfl ?_
  obtain ⟨r_3, q_4, hf⟩ := bd1E hf
  refine g_callV_i (a := o) hC (X' := ov X0 [o, o + 1, o + 2, o + 3, 17, 18] [xo, xoz1, xoz2, xoz3, x17, x18]) (Y' := ov Y0 [34] [(vp_updL (vp_updL y34 (0 : Int32).toNatClampNeg v2.toInt64) (1 : Int32).toNatClampNeg v3.toInt64)]) (As := [.int v2, .int v3]) (gMi_eq (c_X7_hardOf l hL hk_o hn_o (nd_sub hN [3] (by decide) (by rfl)) (nd_sub hM [] (by decide) (by rfl)) (ov_map hN [3] (by rfl) (by rfl)) (ov_map hM [] (by rfl) (by rfl)) q_4) (ov_ovE hN (by rfl) [3] [0, 1, 2, 4, 5] (by rfl) (by rfl) [xo, xoz1, xoz2, x17, x18] (by rfl) (by rfl) (by rfl) 6 (by rfl) (by decide)) (ov_ovE hM (by rfl) [] [0] (by rfl) (by rfl) [(vp_updL (vp_updL y34 (0 : Int32).toNatClampNeg v2.toInt64) (1 : Int32).toNatClampNeg v3.toInt64)] (by rfl) (by rfl) (by rfl) 1 (by rfl) (by decide))) tw_845 tw_888 tw_120 tw_843 tw_844 (ci := 7) rfl (by decide) hk_o hn_o pd_X7_hardOf (by decide) (by decide) rfl rfl (Nat.le_of_ble_eq_true rfl) rfl dX1_fillWords_24 ?_
  refine g_i2l hC dX1_fillWords_27 ?_
  obtain ⟨h_5, hf⟩ := gdE hf
  refine g_last hC (x := (vp_updL (vp_updL y34 (0 : Int32).toNatClampNeg v2.toInt64) (1 : Int32).toNatClampNeg v3.toInt64)) (kk_34 hL) (kn_34 hL) (ov_get hM 0 rfl rfl) (inb_in h_5) (ov_set hM (by rfl) 0 (by rfl)) dX1_fillWords_28 ?_
  show gV l b0 D K (n, κ, ov X0 [o, o + 1, o + 2, o + 3, 17, 18] [xo, xoz1, xoz2, xoz3, x17, x18], ov Y0 [34] [(vp_updL (vp_updL (vp_updL y34 (0 : Int32).toNatClampNeg v2.toInt64) (1 : Int32).toNatClampNeg v3.toInt64) (2 : Int32).toNatClampNeg r_3.toInt64)], Z, 0, 0) 29 [(0, .ref (b0 + 32)), (1, .ref (b0 + o)), (2, .int v2), (3, .int v3), (4, .int v4)] []
  refine g_aload_n hC 0 dX1_fillWords_29 rfl rfl ?_
  refine gt_X1_15 hC (a := 32) (kk_32 hL) (kn_32 hL) dX1_fillWords_30 ?_
  refine g_ref (b := 34) rfl ?_
  refine g_iconst hC (v := 3) dX1_fillWords_33 ic_3 ?_
  refine g_aload_n hC 1 dX1_fillWords_34 rfl rfl ?_
  refine gt_X1_72 hC (a := o) hk_o hn_o dX1_fillWords_35 ?_
  refine g_ref (b := (o + 1)) rfl ?_
  refine g_iload_n hC 2 dX1_fillWords_38 rfl rfl ?_
  obtain ⟨h_6, hf⟩ := gdE hf
  refine g_iald hC (x := xoz1) (LS1 hL hk_o hn_o) (LSn1 hL hk_o hn_o) (ov_get hN 1 rfl rfl) (inb_in h_6) dX1_fillWords_39 ?_
  refine g_i2l hC dX1_fillWords_40 ?_
  obtain ⟨h_7, hf⟩ := gdE hf
  refine g_last hC (x := (vp_updL (vp_updL (vp_updL y34 (0 : Int32).toNatClampNeg v2.toInt64) (1 : Int32).toNatClampNeg v3.toInt64) (2 : Int32).toNatClampNeg r_3.toInt64)) (kk_34 hL) (kn_34 hL) (ov_get hM 0 rfl rfl) (inb_in h_7) (ov_set hM (by rfl) 0 (by rfl)) dX1_fillWords_41 ?_
  show gV l b0 D K (n, κ, ov X0 [o, o + 1, o + 2, o + 3, 17, 18] [xo, xoz1, xoz2, xoz3, x17, x18], ov Y0 [34] [(vp_updL (vp_updL (vp_updL (vp_updL y34 (0 : Int32).toNatClampNeg v2.toInt64) (1 : Int32).toNatClampNeg v3.toInt64) (2 : Int32).toNatClampNeg r_3.toInt64) (3 : Int32).toNatClampNeg ((xoz1 v2.toNatClampNeg).toInt64))], Z, 0, 0) 42 [(0, .ref (b0 + 32)), (1, .ref (b0 + o)), (2, .int v2), (3, .int v3), (4, .int v4)] []
  refine g_aload_n hC 0 dX1_fillWords_42 rfl rfl ?_
  refine gt_X1_15 hC (a := 32) (kk_32 hL) (kn_32 hL) dX1_fillWords_43 ?_
  refine g_ref (b := 34) rfl ?_
  refine g_iconst hC (v := 4) dX1_fillWords_46 ic_4 ?_
  refine g_aload_n hC 1 dX1_fillWords_47 rfl rfl ?_
  refine gt_X1_72 hC (a := o) hk_o hn_o dX1_fillWords_48 ?_
  refine g_ref (b := (o + 1)) rfl ?_
  refine g_iload_n hC 3 dX1_fillWords_51 rfl rfl ?_
  obtain ⟨h_8, hf⟩ := gdE hf
  refine g_iald hC (x := xoz1) (LS1 hL hk_o hn_o) (LSn1 hL hk_o hn_o) (ov_get hN 1 rfl rfl) (inb_in h_8) dX1_fillWords_52 ?_
  refine g_i2l hC dX1_fillWords_53 ?_
  obtain ⟨h_9, hf⟩ := gdE hf
  refine g_last hC (x := (vp_updL (vp_updL (vp_updL (vp_updL y34 (0 : Int32).toNatClampNeg v2.toInt64) (1 : Int32).toNatClampNeg v3.toInt64) (2 : Int32).toNatClampNeg r_3.toInt64) (3 : Int32).toNatClampNeg ((xoz1 v2.toNatClampNeg).toInt64))) (kk_34 hL) (kn_34 hL) (ov_get hM 0 rfl rfl) (inb_in h_9) (ov_set hM (by rfl) 0 (by rfl)) dX1_fillWords_54 ?_
  show gV l b0 D K (n, κ, ov X0 [o, o + 1, o + 2, o + 3, 17, 18] [xo, xoz1, xoz2, xoz3, x17, x18], ov Y0 [34] [(vp_updL (vp_updL (vp_updL (vp_updL (vp_updL y34 (0 : Int32).toNatClampNeg v2.toInt64) (1 : Int32).toNatClampNeg v3.toInt64) (2 : Int32).toNatClampNeg r_3.toInt64) (3 : Int32).toNatClampNeg ((xoz1 v2.toNatClampNeg).toInt64)) (4 : Int32).toNatClampNeg ((xoz1 v3.toNatClampNeg).toInt64))], Z, 0, 0) 55 [(0, .ref (b0 + 32)), (1, .ref (b0 + o)), (2, .int v2), (3, .int v3), (4, .int v4)] []
  refine g_aload_n hC 0 dX1_fillWords_55 rfl rfl ?_
  refine gt_X1_15 hC (a := 32) (kk_32 hL) (kn_32 hL) dX1_fillWords_56 ?_
  refine g_ref (b := 34) rfl ?_
  refine g_iconst hC (v := 5) dX1_fillWords_59 ic_5 ?_
  refine g_aload_n hC 1 dX1_fillWords_60 rfl rfl ?_
  refine gt_X1_72 hC (a := o) hk_o hn_o dX1_fillWords_61 ?_
  refine g_ref (b := (o + 1)) rfl ?_
  refine g_iload_n hC 2 dX1_fillWords_64 rfl rfl ?_
  obtain ⟨h_10, hf⟩ := gdE hf
  refine g_iald hC (x := xoz1) (LS1 hL hk_o hn_o) (LSn1 hL hk_o hn_o) (ov_get hN 1 rfl rfl) (inb_in h_10) dX1_fillWords_65 ?_
  refine g_aload_n hC 1 dX1_fillWords_66 rfl rfl ?_
  refine gt_X1_72 hC (a := o) hk_o hn_o dX1_fillWords_67 ?_
  refine g_ref (b := (o + 1)) rfl ?_
  refine g_iload_n hC 3 dX1_fillWords_70 rfl rfl ?_
  obtain ⟨h_11, hf⟩ := gdE hf
  refine g_iald hC (x := xoz1) (LS1 hL hk_o hn_o) (LSn1 hL hk_o hn_o) (ov_get hN 1 rfl rfl) (inb_in h_11) dX1_fillWords_71 ?_
  refine g_isub hC dX1_fillWords_72 ?_
  refine g_mabs hC tw_889 (by decide) (Nat.le_of_ble_eq_true rfl) dX1_fillWords_73 ?_
  refine g_i2l hC dX1_fillWords_76 ?_
  obtain ⟨h_12, hf⟩ := gdE hf
  refine g_last hC (x := (vp_updL (vp_updL (vp_updL (vp_updL (vp_updL y34 (0 : Int32).toNatClampNeg v2.toInt64) (1 : Int32).toNatClampNeg v3.toInt64) (2 : Int32).toNatClampNeg r_3.toInt64) (3 : Int32).toNatClampNeg ((xoz1 v2.toNatClampNeg).toInt64)) (4 : Int32).toNatClampNeg ((xoz1 v3.toNatClampNeg).toInt64))) (kk_34 hL) (kn_34 hL) (ov_get hM 0 rfl rfl) (inb_in h_12) (ov_set hM (by rfl) 0 (by rfl)) dX1_fillWords_77 ?_
  show gV l b0 D K (n, κ, ov X0 [o, o + 1, o + 2, o + 3, 17, 18] [xo, xoz1, xoz2, xoz3, x17, x18], ov Y0 [34] [(vp_updL (vp_updL (vp_updL (vp_updL (vp_updL (vp_updL y34 (0 : Int32).toNatClampNeg v2.toInt64) (1 : Int32).toNatClampNeg v3.toInt64) (2 : Int32).toNatClampNeg r_3.toInt64) (3 : Int32).toNatClampNeg ((xoz1 v2.toNatClampNeg).toInt64)) (4 : Int32).toNatClampNeg ((xoz1 v3.toNatClampNeg).toInt64)) (5 : Int32).toNatClampNeg ((if 0 ≤ ((xoz1 v2.toNatClampNeg) - (xoz1 v3.toNatClampNeg)) then ((xoz1 v2.toNatClampNeg) - (xoz1 v3.toNatClampNeg)) else 0 - ((xoz1 v2.toNatClampNeg) - (xoz1 v3.toNatClampNeg))).toInt64))], Z, 0, 0) 78 [(0, .ref (b0 + 32)), (1, .ref (b0 + o)), (2, .int v2), (3, .int v3), (4, .int v4)] []
  refine g_aload_n hC 0 dX1_fillWords_78 rfl rfl ?_
  refine gt_X1_15 hC (a := 32) (kk_32 hL) (kn_32 hL) dX1_fillWords_79 ?_
  refine g_ref (b := 34) rfl ?_
  refine g_bipush hC (v := 6) dX1_fillWords_82 bp_6 ?_
  refine g_aload_n hC 1 dX1_fillWords_84 rfl rfl ?_
  refine gt_X1_81 hC (a := o) hk_o hn_o dX1_fillWords_85 ?_
  refine g_ref (b := (o + 2)) rfl ?_
  refine g_iload_n hC 2 dX1_fillWords_88 rfl rfl ?_
  obtain ⟨h_13, hf⟩ := gdE hf
  refine g_iald hC (x := xoz2) (LS2 hL hk_o hn_o) (LSn2 hL hk_o hn_o) (ov_get hN 2 rfl rfl) (inb_in h_13) dX1_fillWords_89 ?_
  refine g_i2l hC dX1_fillWords_90 ?_
  obtain ⟨h_14, hf⟩ := gdE hf
  refine g_last hC (x := (vp_updL (vp_updL (vp_updL (vp_updL (vp_updL (vp_updL y34 (0 : Int32).toNatClampNeg v2.toInt64) (1 : Int32).toNatClampNeg v3.toInt64) (2 : Int32).toNatClampNeg r_3.toInt64) (3 : Int32).toNatClampNeg ((xoz1 v2.toNatClampNeg).toInt64)) (4 : Int32).toNatClampNeg ((xoz1 v3.toNatClampNeg).toInt64)) (5 : Int32).toNatClampNeg ((if 0 ≤ ((xoz1 v2.toNatClampNeg) - (xoz1 v3.toNatClampNeg)) then ((xoz1 v2.toNatClampNeg) - (xoz1 v3.toNatClampNeg)) else 0 - ((xoz1 v2.toNatClampNeg) - (xoz1 v3.toNatClampNeg))).toInt64))) (kk_34 hL) (kn_34 hL) (ov_get hM 0 rfl rfl) (inb_in h_14) (ov_set hM (by rfl) 0 (by rfl)) dX1_fillWords_91 ?_
  show gV l b0 D K (n, κ, ov X0 [o, o + 1, o + 2, o + 3, 17, 18] [xo, xoz1, xoz2, xoz3, x17, x18], ov Y0 [34] [(vp_updL (vp_updL (vp_updL (vp_updL (vp_updL (vp_updL (vp_updL y34 (0 : Int32).toNatClampNeg v2.toInt64) (1 : Int32).toNatClampNeg v3.toInt64) (2 : Int32).toNatClampNeg r_3.toInt64) (3 : Int32).toNatClampNeg ((xoz1 v2.toNatClampNeg).toInt64)) (4 : Int32).toNatClampNeg ((xoz1 v3.toNatClampNeg).toInt64)) (5 : Int32).toNatClampNeg ((if 0 ≤ ((xoz1 v2.toNatClampNeg) - (xoz1 v3.toNatClampNeg)) then ((xoz1 v2.toNatClampNeg) - (xoz1 v3.toNatClampNeg)) else 0 - ((xoz1 v2.toNatClampNeg) - (xoz1 v3.toNatClampNeg))).toInt64)) (6 : Int32).toNatClampNeg ((xoz2 v2.toNatClampNeg).toInt64))], Z, 0, 0) 92 [(0, .ref (b0 + 32)), (1, .ref (b0 + o)), (2, .int v2), (3, .int v3), (4, .int v4)] []
  refine g_aload_n hC 0 dX1_fillWords_92 rfl rfl ?_
  refine gt_X1_15 hC (a := 32) (kk_32 hL) (kn_32 hL) dX1_fillWords_93 ?_
  refine g_ref (b := 34) rfl ?_
  refine g_bipush hC (v := 7) dX1_fillWords_96 bp_7 ?_
  refine g_aload_n hC 1 dX1_fillWords_98 rfl rfl ?_
  refine gt_X1_81 hC (a := o) hk_o hn_o dX1_fillWords_99 ?_
  refine g_ref (b := (o + 2)) rfl ?_
  refine g_iload_n hC 3 dX1_fillWords_102 rfl rfl ?_
  obtain ⟨h_15, hf⟩ := gdE hf
  refine g_iald hC (x := xoz2) (LS2 hL hk_o hn_o) (LSn2 hL hk_o hn_o) (ov_get hN 2 rfl rfl) (inb_in h_15) dX1_fillWords_103 ?_
  refine g_i2l hC dX1_fillWords_104 ?_
  obtain ⟨h_16, hf⟩ := gdE hf
  refine g_last hC (x := (vp_updL (vp_updL (vp_updL (vp_updL (vp_updL (vp_updL (vp_updL y34 (0 : Int32).toNatClampNeg v2.toInt64) (1 : Int32).toNatClampNeg v3.toInt64) (2 : Int32).toNatClampNeg r_3.toInt64) (3 : Int32).toNatClampNeg ((xoz1 v2.toNatClampNeg).toInt64)) (4 : Int32).toNatClampNeg ((xoz1 v3.toNatClampNeg).toInt64)) (5 : Int32).toNatClampNeg ((if 0 ≤ ((xoz1 v2.toNatClampNeg) - (xoz1 v3.toNatClampNeg)) then ((xoz1 v2.toNatClampNeg) - (xoz1 v3.toNatClampNeg)) else 0 - ((xoz1 v2.toNatClampNeg) - (xoz1 v3.toNatClampNeg))).toInt64)) (6 : Int32).toNatClampNeg ((xoz2 v2.toNatClampNeg).toInt64))) (kk_34 hL) (kn_34 hL) (ov_get hM 0 rfl rfl) (inb_in h_16) (ov_set hM (by rfl) 0 (by rfl)) dX1_fillWords_105 ?_
  show gV l b0 D K (n, κ, ov X0 [o, o + 1, o + 2, o + 3, 17, 18] [xo, xoz1, xoz2, xoz3, x17, x18], ov Y0 [34] [(vp_updL (vp_updL (vp_updL (vp_updL (vp_updL (vp_updL (vp_updL (vp_updL y34 (0 : Int32).toNatClampNeg v2.toInt64) (1 : Int32).toNatClampNeg v3.toInt64) (2 : Int32).toNatClampNeg r_3.toInt64) (3 : Int32).toNatClampNeg ((xoz1 v2.toNatClampNeg).toInt64)) (4 : Int32).toNatClampNeg ((xoz1 v3.toNatClampNeg).toInt64)) (5 : Int32).toNatClampNeg ((if 0 ≤ ((xoz1 v2.toNatClampNeg) - (xoz1 v3.toNatClampNeg)) then ((xoz1 v2.toNatClampNeg) - (xoz1 v3.toNatClampNeg)) else 0 - ((xoz1 v2.toNatClampNeg) - (xoz1 v3.toNatClampNeg))).toInt64)) (6 : Int32).toNatClampNeg ((xoz2 v2.toNatClampNeg).toInt64)) (7 : Int32).toNatClampNeg ((xoz2 v3.toNatClampNeg).toInt64))], Z, 0, 0) 106 [(0, .ref (b0 + 32)), (1, .ref (b0 + o)), (2, .int v2), (3, .int v3), (4, .int v4)] []
  refine g_aload_n hC 0 dX1_fillWords_106 rfl rfl ?_
  refine gt_X1_15 hC (a := 32) (kk_32 hL) (kn_32 hL) dX1_fillWords_107 ?_
  refine g_ref (b := 34) rfl ?_
  refine g_bipush hC (v := 8) dX1_fillWords_110 bp_8 ?_
  refine g_iload hC 4 dX1_fillWords_112 rfl ?_
  refine g_i2l hC dX1_fillWords_114 ?_
  obtain ⟨h_17, hf⟩ := gdE hf
  refine g_last hC (x := (vp_updL (vp_updL (vp_updL (vp_updL (vp_updL (vp_updL (vp_updL (vp_updL y34 (0 : Int32).toNatClampNeg v2.toInt64) (1 : Int32).toNatClampNeg v3.toInt64) (2 : Int32).toNatClampNeg r_3.toInt64) (3 : Int32).toNatClampNeg ((xoz1 v2.toNatClampNeg).toInt64)) (4 : Int32).toNatClampNeg ((xoz1 v3.toNatClampNeg).toInt64)) (5 : Int32).toNatClampNeg ((if 0 ≤ ((xoz1 v2.toNatClampNeg) - (xoz1 v3.toNatClampNeg)) then ((xoz1 v2.toNatClampNeg) - (xoz1 v3.toNatClampNeg)) else 0 - ((xoz1 v2.toNatClampNeg) - (xoz1 v3.toNatClampNeg))).toInt64)) (6 : Int32).toNatClampNeg ((xoz2 v2.toNatClampNeg).toInt64)) (7 : Int32).toNatClampNeg ((xoz2 v3.toNatClampNeg).toInt64))) (kk_34 hL) (kn_34 hL) (ov_get hM 0 rfl rfl) (inb_in h_17) (ov_set hM (by rfl) 0 (by rfl)) dX1_fillWords_115 ?_
  show gV l b0 D K (n, κ, ov X0 [o, o + 1, o + 2, o + 3, 17, 18] [xo, xoz1, xoz2, xoz3, x17, x18], ov Y0 [34] [(vp_updL (vp_updL (vp_updL (vp_updL (vp_updL (vp_updL (vp_updL (vp_updL (vp_updL y34 (0 : Int32).toNatClampNeg v2.toInt64) (1 : Int32).toNatClampNeg v3.toInt64) (2 : Int32).toNatClampNeg r_3.toInt64) (3 : Int32).toNatClampNeg ((xoz1 v2.toNatClampNeg).toInt64)) (4 : Int32).toNatClampNeg ((xoz1 v3.toNatClampNeg).toInt64)) (5 : Int32).toNatClampNeg ((if 0 ≤ ((xoz1 v2.toNatClampNeg) - (xoz1 v3.toNatClampNeg)) then ((xoz1 v2.toNatClampNeg) - (xoz1 v3.toNatClampNeg)) else 0 - ((xoz1 v2.toNatClampNeg) - (xoz1 v3.toNatClampNeg))).toInt64)) (6 : Int32).toNatClampNeg ((xoz2 v2.toNatClampNeg).toInt64)) (7 : Int32).toNatClampNeg ((xoz2 v3.toNatClampNeg).toInt64)) (8 : Int32).toNatClampNeg v4.toInt64)], Z, 0, 0) 116 [(0, .ref (b0 + 32)), (1, .ref (b0 + o)), (2, .int v2), (3, .int v3), (4, .int v4)] []
  refine g_aload_n hC 0 dX1_fillWords_116 rfl rfl ?_
  refine gt_X1_15 hC (a := 32) (kk_32 hL) (kn_32 hL) dX1_fillWords_117 ?_
  refine g_ref (b := 34) rfl ?_
  refine g_bipush hC (v := 9) dX1_fillWords_120 bp_9 ?_
  refine g_aload_n hC 0 dX1_fillWords_122 rfl rfl ?_
  refine gt_X1_19 hC (a := 32) (kk_32 hL) (kn_32 hL) dX1_fillWords_123 ?_
  refine g_ref (b := 17) rfl ?_
  refine g_aload_n hC 1 dX1_fillWords_126 rfl rfl ?_
  refine gt_X1_84 hC (x := xo) hk_o hn_o (ov_get hN 0 rfl rfl) dX1_fillWords_127 ?_
  refine g_iconst hC (v := 1) dX1_fillWords_130 ic_1 ?_
  refine g_iadd hC dX1_fillWords_131 ?_
  obtain ⟨r_18, q_19, hf⟩ := bd1E hf
  refine g_callV_i (a := 17) hC (X' := ov X0 [o, o + 1, o + 2, o + 3, 17, 18] [xo, xoz1, xoz2, xoz3, x17, x18]) (Y' := ov Y0 [34] [(vp_updL (vp_updL (vp_updL (vp_updL (vp_updL (vp_updL (vp_updL (vp_updL (vp_updL y34 (0 : Int32).toNatClampNeg v2.toInt64) (1 : Int32).toNatClampNeg v3.toInt64) (2 : Int32).toNatClampNeg r_3.toInt64) (3 : Int32).toNatClampNeg ((xoz1 v2.toNatClampNeg).toInt64)) (4 : Int32).toNatClampNeg ((xoz1 v3.toNatClampNeg).toInt64)) (5 : Int32).toNatClampNeg ((if 0 ≤ ((xoz1 v2.toNatClampNeg) - (xoz1 v3.toNatClampNeg)) then ((xoz1 v2.toNatClampNeg) - (xoz1 v3.toNatClampNeg)) else 0 - ((xoz1 v2.toNatClampNeg) - (xoz1 v3.toNatClampNeg))).toInt64)) (6 : Int32).toNatClampNeg ((xoz2 v2.toNatClampNeg).toInt64)) (7 : Int32).toNatClampNeg ((xoz2 v3.toNatClampNeg).toInt64)) (8 : Int32).toNatClampNeg v4.toInt64)]) (As := [.int ((xo 0) + 1)]) (gMi_eq (c_X9_toldHeat l hL (ov_map hN [4, 5] (by rfl) (by rfl)) (ov_map hM [] (by rfl) (by rfl)) q_19) (ov_ovE hN (by rfl) [4, 5] [0, 1, 2, 3] (by rfl) (by rfl) [xo, xoz1, xoz2, xoz3] (by rfl) (by rfl) (by rfl) 6 (by rfl) (by decide)) (ov_ovE hM (by rfl) [] [0] (by rfl) (by rfl) [(vp_updL (vp_updL (vp_updL (vp_updL (vp_updL (vp_updL (vp_updL (vp_updL (vp_updL y34 (0 : Int32).toNatClampNeg v2.toInt64) (1 : Int32).toNatClampNeg v3.toInt64) (2 : Int32).toNatClampNeg r_3.toInt64) (3 : Int32).toNatClampNeg ((xoz1 v2.toNatClampNeg).toInt64)) (4 : Int32).toNatClampNeg ((xoz1 v3.toNatClampNeg).toInt64)) (5 : Int32).toNatClampNeg ((if 0 ≤ ((xoz1 v2.toNatClampNeg) - (xoz1 v3.toNatClampNeg)) then ((xoz1 v2.toNatClampNeg) - (xoz1 v3.toNatClampNeg)) else 0 - ((xoz1 v2.toNatClampNeg) - (xoz1 v3.toNatClampNeg))).toInt64)) (6 : Int32).toNatClampNeg ((xoz2 v2.toNatClampNeg).toInt64)) (7 : Int32).toNatClampNeg ((xoz2 v3.toNatClampNeg).toInt64)) (8 : Int32).toNatClampNeg v4.toInt64)] (by rfl) (by rfl) (by rfl) 1 (by rfl) (by decide))) tw_810 tw_892 tw_119 tw_808 tw_809 (ci := 9) rfl (by decide) (kk_17 hL) (kn_17 hL) pd_X9_toldHeat (by decide) (by decide) rfl rfl (Nat.le_of_ble_eq_true rfl) rfl dX1_fillWords_132 ?_
  refine g_i2l hC dX1_fillWords_135 ?_
  obtain ⟨h_20, hf⟩ := gdE hf
  refine g_last hC (x := (vp_updL (vp_updL (vp_updL (vp_updL (vp_updL (vp_updL (vp_updL (vp_updL (vp_updL y34 (0 : Int32).toNatClampNeg v2.toInt64) (1 : Int32).toNatClampNeg v3.toInt64) (2 : Int32).toNatClampNeg r_3.toInt64) (3 : Int32).toNatClampNeg ((xoz1 v2.toNatClampNeg).toInt64)) (4 : Int32).toNatClampNeg ((xoz1 v3.toNatClampNeg).toInt64)) (5 : Int32).toNatClampNeg ((if 0 ≤ ((xoz1 v2.toNatClampNeg) - (xoz1 v3.toNatClampNeg)) then ((xoz1 v2.toNatClampNeg) - (xoz1 v3.toNatClampNeg)) else 0 - ((xoz1 v2.toNatClampNeg) - (xoz1 v3.toNatClampNeg))).toInt64)) (6 : Int32).toNatClampNeg ((xoz2 v2.toNatClampNeg).toInt64)) (7 : Int32).toNatClampNeg ((xoz2 v3.toNatClampNeg).toInt64)) (8 : Int32).toNatClampNeg v4.toInt64)) (kk_34 hL) (kn_34 hL) (ov_get hM 0 rfl rfl) (inb_in h_20) (ov_set hM (by rfl) 0 (by rfl)) dX1_fillWords_136 ?_
  show gV l b0 D K (n, κ, ov X0 [o, o + 1, o + 2, o + 3, 17, 18] [xo, xoz1, xoz2, xoz3, x17, x18], ov Y0 [34] [(vp_updL (vp_updL (vp_updL (vp_updL (vp_updL (vp_updL (vp_updL (vp_updL (vp_updL (vp_updL y34 (0 : Int32).toNatClampNeg v2.toInt64) (1 : Int32).toNatClampNeg v3.toInt64) (2 : Int32).toNatClampNeg r_3.toInt64) (3 : Int32).toNatClampNeg ((xoz1 v2.toNatClampNeg).toInt64)) (4 : Int32).toNatClampNeg ((xoz1 v3.toNatClampNeg).toInt64)) (5 : Int32).toNatClampNeg ((if 0 ≤ ((xoz1 v2.toNatClampNeg) - (xoz1 v3.toNatClampNeg)) then ((xoz1 v2.toNatClampNeg) - (xoz1 v3.toNatClampNeg)) else 0 - ((xoz1 v2.toNatClampNeg) - (xoz1 v3.toNatClampNeg))).toInt64)) (6 : Int32).toNatClampNeg ((xoz2 v2.toNatClampNeg).toInt64)) (7 : Int32).toNatClampNeg ((xoz2 v3.toNatClampNeg).toInt64)) (8 : Int32).toNatClampNeg v4.toInt64) (9 : Int32).toNatClampNeg r_18.toInt64)], Z, 0, 0) 137 [(0, .ref (b0 + 32)), (1, .ref (b0 + o)), (2, .int v2), (3, .int v3), (4, .int v4)] []
  refine g_aload_n hC 0 dX1_fillWords_137 rfl rfl ?_
  refine gt_X1_15 hC (a := 32) (kk_32 hL) (kn_32 hL) dX1_fillWords_138 ?_
  refine g_ref (b := 34) rfl ?_
  refine g_bipush hC (v := 10) dX1_fillWords_141 bp_10 ?_
  refine g_aload_n hC 1 dX1_fillWords_143 rfl rfl ?_
  refine gt_X1_33 hC (x := xo) hk_o hn_o (ov_get hN 0 rfl rfl) dX1_fillWords_144 ?_
  refine g_i2l hC dX1_fillWords_147 ?_
  obtain ⟨h_21, hf⟩ := gdE hf
  refine g_last hC (x := (vp_updL (vp_updL (vp_updL (vp_updL (vp_updL (vp_updL (vp_updL (vp_updL (vp_updL (vp_updL y34 (0 : Int32).toNatClampNeg v2.toInt64) (1 : Int32).toNatClampNeg v3.toInt64) (2 : Int32).toNatClampNeg r_3.toInt64) (3 : Int32).toNatClampNeg ((xoz1 v2.toNatClampNeg).toInt64)) (4 : Int32).toNatClampNeg ((xoz1 v3.toNatClampNeg).toInt64)) (5 : Int32).toNatClampNeg ((if 0 ≤ ((xoz1 v2.toNatClampNeg) - (xoz1 v3.toNatClampNeg)) then ((xoz1 v2.toNatClampNeg) - (xoz1 v3.toNatClampNeg)) else 0 - ((xoz1 v2.toNatClampNeg) - (xoz1 v3.toNatClampNeg))).toInt64)) (6 : Int32).toNatClampNeg ((xoz2 v2.toNatClampNeg).toInt64)) (7 : Int32).toNatClampNeg ((xoz2 v3.toNatClampNeg).toInt64)) (8 : Int32).toNatClampNeg v4.toInt64) (9 : Int32).toNatClampNeg r_18.toInt64)) (kk_34 hL) (kn_34 hL) (ov_get hM 0 rfl rfl) (inb_in h_21) (ov_set hM (by rfl) 0 (by rfl)) dX1_fillWords_148 ?_
  show gV l b0 D K (n, κ, ov X0 [o, o + 1, o + 2, o + 3, 17, 18] [xo, xoz1, xoz2, xoz3, x17, x18], ov Y0 [34] [(vp_updL (vp_updL (vp_updL (vp_updL (vp_updL (vp_updL (vp_updL (vp_updL (vp_updL (vp_updL (vp_updL y34 (0 : Int32).toNatClampNeg v2.toInt64) (1 : Int32).toNatClampNeg v3.toInt64) (2 : Int32).toNatClampNeg r_3.toInt64) (3 : Int32).toNatClampNeg ((xoz1 v2.toNatClampNeg).toInt64)) (4 : Int32).toNatClampNeg ((xoz1 v3.toNatClampNeg).toInt64)) (5 : Int32).toNatClampNeg ((if 0 ≤ ((xoz1 v2.toNatClampNeg) - (xoz1 v3.toNatClampNeg)) then ((xoz1 v2.toNatClampNeg) - (xoz1 v3.toNatClampNeg)) else 0 - ((xoz1 v2.toNatClampNeg) - (xoz1 v3.toNatClampNeg))).toInt64)) (6 : Int32).toNatClampNeg ((xoz2 v2.toNatClampNeg).toInt64)) (7 : Int32).toNatClampNeg ((xoz2 v3.toNatClampNeg).toInt64)) (8 : Int32).toNatClampNeg v4.toInt64) (9 : Int32).toNatClampNeg r_18.toInt64) (10 : Int32).toNatClampNeg ((xo 1).toInt64))], Z, 0, 0) 149 [(0, .ref (b0 + 32)), (1, .ref (b0 + o)), (2, .int v2), (3, .int v3), (4, .int v4)] []
  refine g_aload_n hC 0 dX1_fillWords_149 rfl rfl ?_
  refine gt_X1_15 hC (a := 32) (kk_32 hL) (kn_32 hL) dX1_fillWords_150 ?_
  refine g_ref (b := 34) rfl ?_
  refine g_bipush hC (v := 11) dX1_fillWords_153 bp_11 ?_
  refine g_aload_n hC 1 dX1_fillWords_155 rfl rfl ?_
  refine gt_X1_84 hC (x := xo) hk_o hn_o (ov_get hN 0 rfl rfl) dX1_fillWords_156 ?_
  refine g_i2l hC dX1_fillWords_159 ?_
  obtain ⟨h_22, hf⟩ := gdE hf
  refine g_last hC (x := (vp_updL (vp_updL (vp_updL (vp_updL (vp_updL (vp_updL (vp_updL (vp_updL (vp_updL (vp_updL (vp_updL y34 (0 : Int32).toNatClampNeg v2.toInt64) (1 : Int32).toNatClampNeg v3.toInt64) (2 : Int32).toNatClampNeg r_3.toInt64) (3 : Int32).toNatClampNeg ((xoz1 v2.toNatClampNeg).toInt64)) (4 : Int32).toNatClampNeg ((xoz1 v3.toNatClampNeg).toInt64)) (5 : Int32).toNatClampNeg ((if 0 ≤ ((xoz1 v2.toNatClampNeg) - (xoz1 v3.toNatClampNeg)) then ((xoz1 v2.toNatClampNeg) - (xoz1 v3.toNatClampNeg)) else 0 - ((xoz1 v2.toNatClampNeg) - (xoz1 v3.toNatClampNeg))).toInt64)) (6 : Int32).toNatClampNeg ((xoz2 v2.toNatClampNeg).toInt64)) (7 : Int32).toNatClampNeg ((xoz2 v3.toNatClampNeg).toInt64)) (8 : Int32).toNatClampNeg v4.toInt64) (9 : Int32).toNatClampNeg r_18.toInt64) (10 : Int32).toNatClampNeg ((xo 1).toInt64))) (kk_34 hL) (kn_34 hL) (ov_get hM 0 rfl rfl) (inb_in h_22) (ov_set hM (by rfl) 0 (by rfl)) dX1_fillWords_160 ?_
  show gV l b0 D K (n, κ, ov X0 [o, o + 1, o + 2, o + 3, 17, 18] [xo, xoz1, xoz2, xoz3, x17, x18], ov Y0 [34] [(vp_updL (vp_updL (vp_updL (vp_updL (vp_updL (vp_updL (vp_updL (vp_updL (vp_updL (vp_updL (vp_updL (vp_updL y34 (0 : Int32).toNatClampNeg v2.toInt64) (1 : Int32).toNatClampNeg v3.toInt64) (2 : Int32).toNatClampNeg r_3.toInt64) (3 : Int32).toNatClampNeg ((xoz1 v2.toNatClampNeg).toInt64)) (4 : Int32).toNatClampNeg ((xoz1 v3.toNatClampNeg).toInt64)) (5 : Int32).toNatClampNeg ((if 0 ≤ ((xoz1 v2.toNatClampNeg) - (xoz1 v3.toNatClampNeg)) then ((xoz1 v2.toNatClampNeg) - (xoz1 v3.toNatClampNeg)) else 0 - ((xoz1 v2.toNatClampNeg) - (xoz1 v3.toNatClampNeg))).toInt64)) (6 : Int32).toNatClampNeg ((xoz2 v2.toNatClampNeg).toInt64)) (7 : Int32).toNatClampNeg ((xoz2 v3.toNatClampNeg).toInt64)) (8 : Int32).toNatClampNeg v4.toInt64) (9 : Int32).toNatClampNeg r_18.toInt64) (10 : Int32).toNatClampNeg ((xo 1).toInt64)) (11 : Int32).toNatClampNeg ((xo 0).toInt64))], Z, 0, 0) 161 [(0, .ref (b0 + 32)), (1, .ref (b0 + o)), (2, .int v2), (3, .int v3), (4, .int v4)] []
  obtain rfl := sm1E hf
  exact hret _ _ dX1_fillWords_161

def fX1_fillWords   (xo : Nat → Int32) (xoz1 : Nat → Int32) (xoz2 : Nat → Int32) (xoz3 : Nat → Int32) (x17 : Nat → Int32) (x18 : Nat → Int32)  (v2 : Int32) (v3 : Int32) (v4 : Int32)  (y34 : Nat → Int64) : Option ((Nat → Int64)) := fX1_fillWords_0 xo xoz1 xoz2 xoz3 x17 x18 v2 v3 v4 y34

set_option maxHeartbeats 4000000 in
set_option maxRecDepth 100000 in
theorem c_X1_fillWords (l : Launch) {b0 : Nat} {D : GD} {n : Nat} {κ : QT} {X0 : XT} {Y0 : YT} {Z : ZT} {o : Nat} (hL : LY n κ) (hk_o : κ o = (7, 0)) (hn_o : o < n) (hN : ([o, o + 1, o + 2, o + 3, 17, 18] : List Nat).Nodup) (hM : ([34] : List Nat).Nodup) {xo : Nat → Int32} {xoz1 : Nat → Int32} {xoz2 : Nat → Int32} {xoz3 : Nat → Int32} {x17 : Nat → Int32} {x18 : Nat → Int32} {y34 : Nat → Int64} (hx : ([o, o + 1, o + 2, o + 3, 17, 18] : List Nat).map X0 = [xo, xoz1, xoz2, xoz3, x17, x18]) (hy : ([34] : List Nat).map Y0 = [y34]) {v2 : Int32} {v3 : Int32} {v4 : Int32} {ry34 : (Nat → Int64)} (hf : fX1_fillWords xo xoz1 xoz2 xoz3 x17 x18 v2 v3 v4 y34 = some ry34) : gMv l yX1_fillWords cX1_fillWords 5 none 1 40 0 0 b0 D [.ref (b0 + 32), .ref (b0 + o), .int v2, .int v3, .int v4] (n, κ, X0, Y0, Z) (n, κ, ov X0 [o, o + 1, o + 2, o + 3, 17, 18] [xo, xoz1, xoz2, xoz3, x17, x18], ov Y0 [34] [ry34], Z) := by
  refine g_metv (own := RX1) (by decide) rfl rfl (Nat.le_of_ble_eq_true rfl) ?_
  intro K hC hret
  have e := wX1_fillWords_0 hL hk_o hn_o hN hM hC  hret hf
  rw [ov_id' hx, ov_id' hy] at e
  exact g_sub [0, 1, 2, 3, 4] rfl e

-- X1_hardenBy
def fX1_hardenBy_93  (Lru : Nat) (xoz1 : Nat → Int32) (xoz2 : Nat → Int32) (xruz1 : Nat → Int32) (x17 : Nat → Int32) (x18 : Nat → Int32)  (k12 : Int32 → Int64 → Int32 → Int32 → Int32 → (Nat → Int32) → (Nat → Int32) → (Nat → Int64) → (Nat → Int64) → Option ((Nat → Int32) × (Nat → Int32) × (Nat → Int64) × (Nat → Int64))) (k30 : Int32 → Int64 → Int32 → Int32 → Int32 → Int32 → (Nat → Int32) → (Nat → Int32) → (Nat → Int64) → (Nat → Int64) → Option ((Nat → Int32) × (Nat → Int32) × (Nat → Int64) × (Nat → Int64))) (v3 : Int32) (v4 : Int64) (v6 : Int32) (v7 : Int32) (v8 : Int32) (v9 : Int32) (xo : (Nat → Int32)) (xoz3 : (Nat → Int32)) (yruz2 : (Nat → Int64)) (y34 : (Nat → Int64)) : Option ((Nat → Int32) × (Nat → Int32) × (Nat → Int64) × (Nat → Int64)) := bn (v9 + 1) fun t_1 => (k30 v3 v4 v6 v7 v8 t_1 xo xoz3 yruz2 y34)
set_option maxHeartbeats 4000000 in
set_option maxRecDepth 100000 in
theorem wX1_hardenBy_93 {l : Launch} {b0 : Nat} {D : GD} {K : KT} {n : Nat} {κ : QT} {X0 : XT} {Y0 : YT} {Z : ZT} {o : Nat} {ru : Nat} {Lru : Nat} (hL : LY n κ) (hk_o : κ o = (7, 0)) (hn_o : o < n) (hk_ru : κ ru = (4, 0)) (hn_ru : ru < n) (hk_ru_1 : κ (ru + 1) = (14, Lru)) (hN : ([o, o + 1, o + 2, o + 3, ru + 1, 17, 18] : List Nat).Nodup) (hM : ([ru + 2, 34] : List Nat).Nodup) (hC : gC l b0 D K RX1 cX1_hardenBy none 12 2 64 0 0) {xoz1 : Nat → Int32} {xoz2 : Nat → Int32} {xruz1 : Nat → Int32} {x17 : Nat → Int32} {x18 : Nat → Int32} {rxo : (Nat → Int32)} {rxoz3 : (Nat → Int32)} {ryruz2 : (Nat → Int64)} {ry34 : (Nat → Int64)} (hret : ∀ pc loc, decode cX1_hardenBy pc = .ok (.return_, 1) → gV l b0 D K (n, κ, ov X0 [o, o + 1, o + 2, o + 3, ru + 1, 17, 18] [rxo, xoz1, xoz2, rxoz3, xruz1, x17, x18], ov Y0 [ru + 2, 34] [ryruz2, ry34], Z, 0, 0) pc loc []) {k12 : Int32 → Int64 → Int32 → Int32 → Int32 → (Nat → Int32) → (Nat → Int32) → (Nat → Int64) → (Nat → Int64) → Option ((Nat → Int32) × (Nat → Int32) × (Nat → Int64) × (Nat → Int64))} (hk12 : ∀ (v3 : Int32) (v4 : Int64) (v6 : Int32) (v7 : Int32) (v8 : Int32) (xo : (Nat → Int32)) (xoz3 : (Nat → Int32)) (yruz2 : (Nat → Int64)) (y34 : (Nat → Int64)), k12 v3 v4 v6 v7 v8 xo xoz3 yruz2 y34 = some (rxo, rxoz3, ryruz2, ry34) → gV l b0 D K (n, κ, ov X0 [o, o + 1, o + 2, o + 3, ru + 1, 17, 18] [xo, xoz1, xoz2, xoz3, xruz1, x17, x18], ov Y0 [ru + 2, 34] [yruz2, y34], Z, 0, 0) 12 [(0, .ref (b0 + 32)), (1, .ref (b0 + o)), (2, .ref (b0 + ru)), (3, .int v3), (4, .long v4), (6, .int v6), (7, .int v7), (8, .int v8)] []) {k30 : Int32 → Int64 → Int32 → Int32 → Int32 → Int32 → (Nat → Int32) → (Nat → Int32) → (Nat → Int64) → (Nat → Int64) → Option ((Nat → Int32) × (Nat → Int32) × (Nat → Int64) × (Nat → Int64))} (hk30 : ∀ (v3 : Int32) (v4 : Int64) (v6 : Int32) (v7 : Int32) (v8 : Int32) (v9 : Int32) (xo : (Nat → Int32)) (xoz3 : (Nat → Int32)) (yruz2 : (Nat → Int64)) (y34 : (Nat → Int64)), k30 v3 v4 v6 v7 v8 v9 xo xoz3 yruz2 y34 = some (rxo, rxoz3, ryruz2, ry34) → gV l b0 D K (n, κ, ov X0 [o, o + 1, o + 2, o + 3, ru + 1, 17, 18] [xo, xoz1, xoz2, xoz3, xruz1, x17, x18], ov Y0 [ru + 2, 34] [yruz2, y34], Z, 0, 0) 30 [(0, .ref (b0 + 32)), (1, .ref (b0 + o)), (2, .ref (b0 + ru)), (3, .int v3), (4, .long v4), (6, .int v6), (7, .int v7), (8, .int v8), (9, .int v9)] []) {v3 : Int32} {v4 : Int64} {v6 : Int32} {v7 : Int32} {v8 : Int32} {v9 : Int32} {xo : (Nat → Int32)} {xoz3 : (Nat → Int32)} {yruz2 : (Nat → Int64)} {y34 : (Nat → Int64)} (hf : fX1_hardenBy_93 Lru xoz1 xoz2 xruz1 x17 x18 k12 k30 v3 v4 v6 v7 v8 v9 xo xoz3 yruz2 y34 = some (rxo, rxoz3, ryruz2, ry34)) : gV l b0 D K (n, κ, ov X0 [o, o + 1, o + 2, o + 3, ru + 1, 17, 18] [xo, xoz1, xoz2, xoz3, xruz1, x17, x18], ov Y0 [ru + 2, 34] [yruz2, y34], Z, 0, 0) 93 [(0, .ref (b0 + 32)), (1, .ref (b0 + o)), (2, .ref (b0 + ru)), (3, .int v3), (4, .long v4), (6, .int v6), (7, .int v7), (8, .int v8), (9, .int v9)] [] := by
  unfold fX1_hardenBy_93 at hf
  obtain ⟨t_1, et_1, hf⟩ := bnE hf
  refine g_iinc hC (i := 9) (v := t_1) [(9, .int t_1), (0, .ref (b0 + 32)), (1, .ref (b0 + o)), (2, .ref (b0 + ru)), (3, .int v3), (4, .long v4), (6, .int v6), (7, .int v7), (8, .int v8)] dX1_hardenBy_93 (q := 8) rfl ((congrArg (HAdd.hAdd v9) ic_1).trans et_1.symm) (by decide) rfl ?_
  refine g_goto hC 30 dX1_hardenBy_96 (by decide) ?_
  exact g_sub [1, 2, 3, 4, 5, 6, 7, 8, 0] rfl (hk30 v3 v4 v6 v7 v8 t_1 xo xoz3 yruz2 y34 hf)

def fX1_hardenBy_30b  (Lru : Nat) (xoz1 : Nat → Int32) (xoz2 : Nat → Int32) (xruz1 : Nat → Int32) (x17 : Nat → Int32) (x18 : Nat → Int32)  (k12 : Int32 → Int64 → Int32 → Int32 → Int32 → (Nat → Int32) → (Nat → Int32) → (Nat → Int64) → (Nat → Int64) → Option ((Nat → Int32) × (Nat → Int32) × (Nat → Int64) × (Nat → Int64))) (k30 : Int32 → Int64 → Int32 → Int32 → Int32 → Int32 → (Nat → Int32) → (Nat → Int32) → (Nat → Int64) → (Nat → Int64) → Option ((Nat → Int32) × (Nat → Int32) × (Nat → Int64) × (Nat → Int64))) (v3 : Int32) (v4 : Int64) (v6 : Int32) (v7 : Int32) (v8 : Int32) (v9 : Int32) (xo : (Nat → Int32)) (xoz3 : (Nat → Int32)) (yruz2 : (Nat → Int64)) (y34 : (Nat → Int64)) : Option ((Nat → Int32) × (Nat → Int32) × (Nat → Int64) × (Nat → Int64)) := if (x17 4) ≤ v9 then (bn (v8 + 1) fun t_1 => (k12 v3 v4 v6 v7 t_1 xo xoz3 yruz2 y34)) else (bd1 (fX7_canHarden xoz3 v8 v9) fun r_2 => (if r_2 = 0 then (fX1_hardenBy_93 Lru xoz1 xoz2 xruz1 x17 x18 k12 k30 v3 v4 v6 v7 v8 v9 xo xoz3 yruz2 y34) else (bd1 (fX1_fillWords xo xoz1 xoz2 xoz3 x17 x18 v8 v9 v3 y34) fun y34_4 => (bd2 (fX4_worth Lru xruz1 y34_4 yruz2) fun r_6 yruz2_7 => (if (lg_cmp r_6 v4) ≤ 0 then (fX1_hardenBy_93 Lru xoz1 xoz2 xruz1 x17 x18 k12 k30 v3 v4 v6 v7 v8 v9 xo xoz3 yruz2_7 y34_4) else (fX1_hardenBy_93 Lru xoz1 xoz2 xruz1 x17 x18 k12 k30 v3 r_6 v8 v9 v8 v9 xo xoz3 yruz2_7 y34_4))))))
def fX1_hardenBy_30  (Lru : Nat) (xoz1 : Nat → Int32) (xoz2 : Nat → Int32) (xruz1 : Nat → Int32) (x17 : Nat → Int32) (x18 : Nat → Int32)  (k12 : Int32 → Int64 → Int32 → Int32 → Int32 → (Nat → Int32) → (Nat → Int32) → (Nat → Int64) → (Nat → Int64) → Option ((Nat → Int32) × (Nat → Int32) × (Nat → Int64) × (Nat → Int64))) : Int32 → Int64 → Int32 → Int32 → Int32 → Int32 → (Nat → Int32) → (Nat → Int32) → (Nat → Int64) → (Nat → Int64) → Option ((Nat → Int32) × (Nat → Int32) × (Nat → Int64) × (Nat → Int64)) := lq10 (fX1_hardenBy_30b Lru xoz1 xoz2 xruz1 x17 x18 k12) 5000
set_option maxHeartbeats 4000000 in
set_option maxRecDepth 100000 in
theorem wX1_hardenBy_30 {l : Launch} {b0 : Nat} {D : GD} {K : KT} {n : Nat} {κ : QT} {X0 : XT} {Y0 : YT} {Z : ZT} {o : Nat} {ru : Nat} {Lru : Nat} (hL : LY n κ) (hk_o : κ o = (7, 0)) (hn_o : o < n) (hk_ru : κ ru = (4, 0)) (hn_ru : ru < n) (hk_ru_1 : κ (ru + 1) = (14, Lru)) (hN : ([o, o + 1, o + 2, o + 3, ru + 1, 17, 18] : List Nat).Nodup) (hM : ([ru + 2, 34] : List Nat).Nodup) (hC : gC l b0 D K RX1 cX1_hardenBy none 12 2 64 0 0) {xoz1 : Nat → Int32} {xoz2 : Nat → Int32} {xruz1 : Nat → Int32} {x17 : Nat → Int32} {x18 : Nat → Int32} {rxo : (Nat → Int32)} {rxoz3 : (Nat → Int32)} {ryruz2 : (Nat → Int64)} {ry34 : (Nat → Int64)} (hret : ∀ pc loc, decode cX1_hardenBy pc = .ok (.return_, 1) → gV l b0 D K (n, κ, ov X0 [o, o + 1, o + 2, o + 3, ru + 1, 17, 18] [rxo, xoz1, xoz2, rxoz3, xruz1, x17, x18], ov Y0 [ru + 2, 34] [ryruz2, ry34], Z, 0, 0) pc loc []) {k12 : Int32 → Int64 → Int32 → Int32 → Int32 → (Nat → Int32) → (Nat → Int32) → (Nat → Int64) → (Nat → Int64) → Option ((Nat → Int32) × (Nat → Int32) × (Nat → Int64) × (Nat → Int64))} (hk12 : ∀ (v3 : Int32) (v4 : Int64) (v6 : Int32) (v7 : Int32) (v8 : Int32) (xo : (Nat → Int32)) (xoz3 : (Nat → Int32)) (yruz2 : (Nat → Int64)) (y34 : (Nat → Int64)), k12 v3 v4 v6 v7 v8 xo xoz3 yruz2 y34 = some (rxo, rxoz3, ryruz2, ry34) → gV l b0 D K (n, κ, ov X0 [o, o + 1, o + 2, o + 3, ru + 1, 17, 18] [xo, xoz1, xoz2, xoz3, xruz1, x17, x18], ov Y0 [ru + 2, 34] [yruz2, y34], Z, 0, 0) 12 [(0, .ref (b0 + 32)), (1, .ref (b0 + o)), (2, .ref (b0 + ru)), (3, .int v3), (4, .long v4), (6, .int v6), (7, .int v7), (8, .int v8)] []) : ∀ (j : Nat) (v3 : Int32) (v4 : Int64) (v6 : Int32) (v7 : Int32) (v8 : Int32) (v9 : Int32) (xo : (Nat → Int32)) (xoz3 : (Nat → Int32)) (yruz2 : (Nat → Int64)) (y34 : (Nat → Int64)), lq10 (fX1_hardenBy_30b Lru xoz1 xoz2 xruz1 x17 x18 k12) j v3 v4 v6 v7 v8 v9 xo xoz3 yruz2 y34 = some (rxo, rxoz3, ryruz2, ry34) → gV l b0 D K (n, κ, ov X0 [o, o + 1, o + 2, o + 3, ru + 1, 17, 18] [xo, xoz1, xoz2, xoz3, xruz1, x17, x18], ov Y0 [ru + 2, 34] [yruz2, y34], Z, 0, 0) 30 [(0, .ref (b0 + 32)), (1, .ref (b0 + o)), (2, .ref (b0 + ru)), (3, .int v3), (4, .long v4), (6, .int v6), (7, .int v7), (8, .int v8), (9, .int v9)] [] := by
  intro j
  induction j with
  | zero => intro v3 v4 v6 v7 v8 v9 xo xoz3 yruz2 y34 hf; cases hf
  | succ j hk30 =>
    intro v3 v4 v6 v7 v8 v9 xo xoz3 yruz2 y34 hf
    replace hf : fX1_hardenBy_30b Lru xoz1 xoz2 xruz1 x17 x18 k12 (lq10 (fX1_hardenBy_30b Lru xoz1 xoz2 xruz1 x17 x18 k12) j) v3 v4 v6 v7 v8 v9 xo xoz3 yruz2 y34 = some (rxo, rxoz3, ryruz2, ry34) := hf
    unfold fX1_hardenBy_30b at hf
    refine g_iload hC 8 dX1_hardenBy_30 rfl ?_
    refine g_aload_n hC 0 dX1_hardenBy_32 rfl rfl ?_
    refine gt_X1_19 hC (a := 32) (kk_32 hL) (kn_32 hL) dX1_hardenBy_33 ?_
    refine g_ref (b := 17) rfl ?_
    refine gt_X1_47 hC (x := x17) (kk_17 hL) (kn_17 hL) (ov_get hN 5 rfl rfl) dX1_hardenBy_36 ?_
    refine g_icmp_ge hC 99 dX1_hardenBy_39 (by decide) (fun hc => ?_) (fun hc => ?_)
    · replace hf := ifT hf hc
      obtain ⟨t_1, et_1, hf⟩ := bnE hf
      refine g_iinc hC (i := 8) (v := t_1) [(8, .int t_1), (0, .ref (b0 + 32)), (1, .ref (b0 + o)), (2, .ref (b0 + ru)), (3, .int v3), (4, .long v4), (6, .int v6), (7, .int v7), (9, .int v9)] dX1_hardenBy_99 (q := 7) rfl ((congrArg (HAdd.hAdd v8) ic_1).trans et_1.symm) (by decide) rfl ?_
      refine g_goto hC 12 dX1_hardenBy_102 (by decide) ?_
      exact g_sub [1, 2, 3, 4, 5, 6, 7, 0] rfl (hk12 v3 v4 v6 v7 t_1 xo xoz3 yruz2 y34 hf)
    · replace hf := ifF hf hc
      refine g_aload_n hC 1 dX1_hardenBy_42 rfl rfl ?_
      refine g_iload hC 7 dX1_hardenBy_43 rfl ?_
      refine g_iload hC 8 dX1_hardenBy_45 rfl ?_
      obtain ⟨r_2, q_3, hf⟩ := bd1E hf
      refine g_callV_i (a := o) hC (X' := ov X0 [o, o + 1, o + 2, o + 3, ru + 1, 17, 18] [xo, xoz1, xoz2, xoz3, xruz1, x17, x18]) (Y' := ov Y0 [ru + 2, 34] [yruz2, y34]) (As := [.int v8, .int v9]) (gMi_eq (c_X7_canHarden l hL hk_o hn_o (nd_sub hN [3] (by decide) (by rfl)) (nd_sub hM [] (by decide) (by rfl)) (ov_map hN [3] (by rfl) (by rfl)) (ov_map hM [] (by rfl) (by rfl)) q_3) (ov_ovE hN (by rfl) [3] [0, 1, 2, 4, 5, 6] (by rfl) (by rfl) [xo, xoz1, xoz2, xruz1, x17, x18] (by rfl) (by rfl) (by rfl) 7 (by rfl) (by decide)) (ov_ovE hM (by rfl) [] [0, 1] (by rfl) (by rfl) [yruz2, y34] (by rfl) (by rfl) (by rfl) 2 (by rfl) (by decide))) tw_882 tw_879 tw_120 tw_880 tw_881 (ci := 7) rfl (by decide) hk_o hn_o pd_X7_canHarden (by decide) (by decide) rfl rfl (Nat.le_of_ble_eq_true rfl) rfl dX1_hardenBy_47 ?_
      refine g_if_eq hC 93 dX1_hardenBy_50 (by decide) (fun hc => ?_) (fun hc => ?_)
      · replace hf := ifT hf hc
        exact g_sub [0, 1, 2, 3, 4, 5, 6, 7, 8] rfl (wX1_hardenBy_93 hL hk_o hn_o hk_ru hn_ru hk_ru_1 hN hM hC  hret hk12 hk30 hf)
      · replace hf := ifF hf hc
        refine g_aload_n hC 0 dX1_hardenBy_53 rfl rfl ?_
        refine g_aload_n hC 1 dX1_hardenBy_54 rfl rfl ?_
        refine g_iload hC 7 dX1_hardenBy_55 rfl ?_
        refine g_iload hC 8 dX1_hardenBy_57 rfl ?_
        refine g_iload_n hC 3 dX1_hardenBy_59 rfl rfl ?_
        obtain ⟨y34_4, q_5, hf⟩ := bd1E hf
        refine g_callV_v (a := 32) hC (X' := ov X0 [o, o + 1, o + 2, o + 3, ru + 1, 17, 18] [xo, xoz1, xoz2, xoz3, xruz1, x17, x18]) (Y' := ov Y0 [ru + 2, 34] [yruz2, y34_4]) (As := [.ref (b0 + o), .int v8, .int v9, .int v3]) (gMv_eq (c_X1_fillWords l hL hk_o hn_o (nd_sub hN [0, 1, 2, 3, 5, 6] (by decide) (by rfl)) (nd_sub hM [1] (by decide) (by rfl)) (ov_map hN [0, 1, 2, 3, 5, 6] (by rfl) (by rfl)) (ov_map hM [1] (by rfl) (by rfl)) q_5) (ov_ovE hN (by rfl) [0, 1, 2, 3, 5, 6] [4] (by rfl) (by rfl) [xruz1] (by rfl) (by rfl) (by rfl) 7 (by rfl) (by decide)) (ov_ovE hM (by rfl) [1] [0] (by rfl) (by rfl) [yruz2] (by rfl) (by rfl) (by rfl) 2 (by rfl) (by decide))) tw_887 tw_884 tw_123 tw_886 tw_30 (ci := 1) rfl (by decide) (kk_32 hL) (kn_32 hL) pd_X1_fillWords (by decide) (by decide) rfl rfl (Nat.le_of_ble_eq_true rfl) rfl dX1_hardenBy_60 ?_
        refine g_aload_n hC 2 dX1_hardenBy_63 rfl rfl ?_
        refine g_aload_n hC 0 dX1_hardenBy_64 rfl rfl ?_
        refine gt_X1_15 hC (a := 32) (kk_32 hL) (kn_32 hL) dX1_hardenBy_65 ?_
        refine g_ref (b := 34) rfl ?_
        obtain ⟨r_6, yruz2_7, q_8, hf⟩ := bd2E hf
        refine g_callV_l (a := ru) hC (X' := ov X0 [o, o + 1, o + 2, o + 3, ru + 1, 17, 18] [xo, xoz1, xoz2, xoz3, xruz1, x17, x18]) (Y' := ov Y0 [ru + 2, 34] [yruz2_7, y34_4]) (As := [.ref (b0 + 34)]) (gMl_eq (c_X4_worth l hL hk_ru hn_ru hk_ru_1 (nd_sub hN [4] (by decide) (by rfl)) (nd_sub hM [0, 1] (by decide) (by rfl)) (ov_map hN [4] (by rfl) (by rfl)) (ov_map hM [0, 1] (by rfl) (by rfl)) q_8) (ov_ovE hN (by rfl) [4] [0, 1, 2, 3, 5, 6] (by rfl) (by rfl) [xo, xoz1, xoz2, xoz3, x17, x18] (by rfl) (by rfl) (by rfl) 7 (by rfl) (by decide)) (ov_ovE hM (by rfl) [0, 1] [] (by rfl) (by rfl) [] (by rfl) (by rfl) (by rfl) 2 (by rfl) (by decide))) tw_896 tw_893 tw_134 tw_894 tw_895 (ci := 4) rfl (by decide) hk_ru hn_ru pd_X4_worth (by decide) (by decide) rfl rfl (Nat.le_of_ble_eq_true rfl) rfl dX1_hardenBy_68 ?_
        refine g_lstore hC (i := 10) [(10, .long r_6), (0, .ref (b0 + 32)), (1, .ref (b0 + o)), (2, .ref (b0 + ru)), (3, .int v3), (4, .long v4), (6, .int v6), (7, .int v7), (8, .int v8), (9, .int v9)] dX1_hardenBy_71 (by decide) rfl ?_
        refine g_lload hC 0 dX1_hardenBy_73 rfl ?_
        refine g_lload hC 5 dX1_hardenBy_75 rfl ?_
        refine g_lcmp hC dX1_hardenBy_77 ?_
        refine g_if_le hC 93 dX1_hardenBy_78 (by decide) (fun hc => ?_) (fun hc => ?_)
        · replace hf := ifT hf hc
          exact g_sub [1, 2, 3, 4, 5, 6, 7, 8, 9] rfl (wX1_hardenBy_93 hL hk_o hn_o hk_ru hn_ru hk_ru_1 hN hM hC  hret hk12 hk30 hf)
        · replace hf := ifF hf hc
          refine g_lload hC 0 dX1_hardenBy_81 rfl ?_
          refine g_lstore hC (i := 4) [(4, .long r_6), (10, .long r_6), (0, .ref (b0 + 32)), (1, .ref (b0 + o)), (2, .ref (b0 + ru)), (3, .int v3), (6, .int v6), (7, .int v7), (8, .int v8), (9, .int v9)] dX1_hardenBy_83 (by decide) rfl ?_
          refine g_iload hC 8 dX1_hardenBy_85 rfl ?_
          refine g_istore hC (i := 6) [(6, .int v8), (4, .long r_6), (10, .long r_6), (0, .ref (b0 + 32)), (1, .ref (b0 + o)), (2, .ref (b0 + ru)), (3, .int v3), (7, .int v7), (8, .int v8), (9, .int v9)] dX1_hardenBy_87 (by decide) rfl ?_
          refine g_iload hC 9 dX1_hardenBy_89 rfl ?_
          refine g_istore hC (i := 7) [(7, .int v9), (6, .int v8), (4, .long r_6), (10, .long r_6), (0, .ref (b0 + 32)), (1, .ref (b0 + o)), (2, .ref (b0 + ru)), (3, .int v3), (8, .int v8), (9, .int v9)] dX1_hardenBy_91 (by decide) rfl ?_
          exact g_sub [4, 5, 6, 7, 2, 1, 0, 8, 9] rfl (wX1_hardenBy_93 hL hk_o hn_o hk_ru hn_ru hk_ru_1 hN hM hC  hret hk12 hk30 hf)

def fX1_hardenBy_12b  (Lru : Nat) (xoz1 : Nat → Int32) (xoz2 : Nat → Int32) (xruz1 : Nat → Int32) (x17 : Nat → Int32) (x18 : Nat → Int32)  (k12 : Int32 → Int64 → Int32 → Int32 → Int32 → (Nat → Int32) → (Nat → Int32) → (Nat → Int64) → (Nat → Int64) → Option ((Nat → Int32) × (Nat → Int32) × (Nat → Int64) × (Nat → Int64))) (v3 : Int32) (v4 : Int64) (v6 : Int32) (v7 : Int32) (v8 : Int32) (xo : (Nat → Int32)) (xoz3 : (Nat → Int32)) (yruz2 : (Nat → Int64)) (y34 : (Nat → Int64)) : Option ((Nat → Int32) × (Nat → Int32) × (Nat → Int64) × (Nat → Int64)) := if (x17 4) ≤ v8 then (if v6 < 0 then (some (xo, xoz3, yruz2, y34)) else (bd2 (fX7_harden v6 v7 xo xoz3) fun xo_1 xoz3_2 => (some (xo_1, xoz3_2, yruz2, y34)))) else (bn (v8 + 1) fun t_4 => (fX1_hardenBy_30 Lru xoz1 xoz2 xruz1 x17 x18 k12 v3 v4 v6 v7 v8 t_4 xo xoz3 yruz2 y34))
def fX1_hardenBy_12  (Lru : Nat) (xoz1 : Nat → Int32) (xoz2 : Nat → Int32) (xruz1 : Nat → Int32) (x17 : Nat → Int32) (x18 : Nat → Int32)  : Int32 → Int64 → Int32 → Int32 → Int32 → (Nat → Int32) → (Nat → Int32) → (Nat → Int64) → (Nat → Int64) → Option ((Nat → Int32) × (Nat → Int32) × (Nat → Int64) × (Nat → Int64)) := lq9 (fX1_hardenBy_12b Lru xoz1 xoz2 xruz1 x17 x18 ) 5000
set_option maxHeartbeats 4000000 in
set_option maxRecDepth 100000 in
theorem wX1_hardenBy_12 {l : Launch} {b0 : Nat} {D : GD} {K : KT} {n : Nat} {κ : QT} {X0 : XT} {Y0 : YT} {Z : ZT} {o : Nat} {ru : Nat} {Lru : Nat} (hL : LY n κ) (hk_o : κ o = (7, 0)) (hn_o : o < n) (hk_ru : κ ru = (4, 0)) (hn_ru : ru < n) (hk_ru_1 : κ (ru + 1) = (14, Lru)) (hN : ([o, o + 1, o + 2, o + 3, ru + 1, 17, 18] : List Nat).Nodup) (hM : ([ru + 2, 34] : List Nat).Nodup) (hC : gC l b0 D K RX1 cX1_hardenBy none 12 2 64 0 0) {xoz1 : Nat → Int32} {xoz2 : Nat → Int32} {xruz1 : Nat → Int32} {x17 : Nat → Int32} {x18 : Nat → Int32} {rxo : (Nat → Int32)} {rxoz3 : (Nat → Int32)} {ryruz2 : (Nat → Int64)} {ry34 : (Nat → Int64)} (hret : ∀ pc loc, decode cX1_hardenBy pc = .ok (.return_, 1) → gV l b0 D K (n, κ, ov X0 [o, o + 1, o + 2, o + 3, ru + 1, 17, 18] [rxo, xoz1, xoz2, rxoz3, xruz1, x17, x18], ov Y0 [ru + 2, 34] [ryruz2, ry34], Z, 0, 0) pc loc []) : ∀ (j : Nat) (v3 : Int32) (v4 : Int64) (v6 : Int32) (v7 : Int32) (v8 : Int32) (xo : (Nat → Int32)) (xoz3 : (Nat → Int32)) (yruz2 : (Nat → Int64)) (y34 : (Nat → Int64)), lq9 (fX1_hardenBy_12b Lru xoz1 xoz2 xruz1 x17 x18 ) j v3 v4 v6 v7 v8 xo xoz3 yruz2 y34 = some (rxo, rxoz3, ryruz2, ry34) → gV l b0 D K (n, κ, ov X0 [o, o + 1, o + 2, o + 3, ru + 1, 17, 18] [xo, xoz1, xoz2, xoz3, xruz1, x17, x18], ov Y0 [ru + 2, 34] [yruz2, y34], Z, 0, 0) 12 [(0, .ref (b0 + 32)), (1, .ref (b0 + o)), (2, .ref (b0 + ru)), (3, .int v3), (4, .long v4), (6, .int v6), (7, .int v7), (8, .int v8)] [] := by
  intro j
  induction j with
  | zero => intro v3 v4 v6 v7 v8 xo xoz3 yruz2 y34 hf; cases hf
  | succ j hk12 =>
    intro v3 v4 v6 v7 v8 xo xoz3 yruz2 y34 hf
    replace hf : fX1_hardenBy_12b Lru xoz1 xoz2 xruz1 x17 x18  (lq9 (fX1_hardenBy_12b Lru xoz1 xoz2 xruz1 x17 x18 ) j) v3 v4 v6 v7 v8 xo xoz3 yruz2 y34 = some (rxo, rxoz3, ryruz2, ry34) := hf
    unfold fX1_hardenBy_12b at hf
    refine g_iload hC 7 dX1_hardenBy_12 rfl ?_
    refine g_aload_n hC 0 dX1_hardenBy_14 rfl rfl ?_
    refine gt_X1_19 hC (a := 32) (kk_32 hL) (kn_32 hL) dX1_hardenBy_15 ?_
    refine g_ref (b := 17) rfl ?_
    refine gt_X1_47 hC (x := x17) (kk_17 hL) (kn_17 hL) (ov_get hN 5 rfl rfl) dX1_hardenBy_18 ?_
    refine g_icmp_ge hC 105 dX1_hardenBy_21 (by decide) (fun hc => ?_) (fun hc => ?_)
    · replace hf := ifT hf hc
      refine g_iload hC 5 dX1_hardenBy_105 rfl ?_
      refine g_if_lt hC 118 dX1_hardenBy_107 (by decide) (fun hc => ?_) (fun hc => ?_)
      · replace hf := ifT hf hc
        obtain ⟨rfl, rfl, rfl, rfl⟩ := sm4E hf
        exact hret _ _ dX1_hardenBy_118
      · replace hf := ifF hf hc
        refine g_aload_n hC 1 dX1_hardenBy_110 rfl rfl ?_
        refine g_iload hC 5 dX1_hardenBy_111 rfl ?_
        refine g_iload hC 6 dX1_hardenBy_113 rfl ?_
        obtain ⟨xo_1, xoz3_2, q_3, hf⟩ := bd2E hf
        refine g_callV_v (a := o) hC (X' := ov X0 [o, o + 1, o + 2, o + 3, ru + 1, 17, 18] [xo_1, xoz1, xoz2, xoz3_2, xruz1, x17, x18]) (Y' := ov Y0 [ru + 2, 34] [yruz2, y34]) (As := [.int v6, .int v7]) (gMv_eq (c_X7_harden l hL hk_o hn_o (nd_sub hN [0, 3] (by decide) (by rfl)) (nd_sub hM [] (by decide) (by rfl)) (ov_map hN [0, 3] (by rfl) (by rfl)) (ov_map hM [] (by rfl) (by rfl)) q_3) (ov_ovE hN (by rfl) [0, 3] [1, 2, 4, 5, 6] (by rfl) (by rfl) [xoz1, xoz2, xruz1, x17, x18] (by rfl) (by rfl) (by rfl) 7 (by rfl) (by decide)) (ov_ovE hM (by rfl) [] [0, 1] (by rfl) (by rfl) [yruz2, y34] (by rfl) (by rfl) (by rfl) 2 (by rfl) (by decide))) tw_904 tw_901 tw_120 tw_902 tw_903 (ci := 7) rfl (by decide) hk_o hn_o pd_X7_harden (by decide) (by decide) rfl rfl (Nat.le_of_ble_eq_true rfl) rfl dX1_hardenBy_115 ?_
        obtain ⟨rfl, rfl, rfl, rfl⟩ := sm4E hf
        exact hret _ _ dX1_hardenBy_118
    · replace hf := ifF hf hc
      refine g_iload hC 7 dX1_hardenBy_24 rfl ?_
      refine g_iconst hC (v := 1) dX1_hardenBy_26 ic_1 ?_
      refine g_iadd hC dX1_hardenBy_27 ?_
      obtain ⟨t_4, et_4, hf⟩ := bnE hf
      refine g_topi et_4 ?_
      refine g_istore hC (i := 9) [(9, .int t_4), (0, .ref (b0 + 32)), (1, .ref (b0 + o)), (2, .ref (b0 + ru)), (3, .int v3), (4, .long v4), (6, .int v6), (7, .int v7), (8, .int v8)] dX1_hardenBy_28 (by decide) rfl ?_
      exact g_sub [1, 2, 3, 4, 5, 6, 7, 8, 0] rfl (wX1_hardenBy_30 hL hk_o hn_o hk_ru hn_ru hk_ru_1 hN hM hC  hret hk12 5000 v3 v4 v6 v7 v8 t_4 xo xoz3 yruz2 y34 hf)

def fX1_hardenBy_0  (Lru : Nat) (xoz1 : Nat → Int32) (xoz2 : Nat → Int32) (xruz1 : Nat → Int32) (x17 : Nat → Int32) (x18 : Nat → Int32)  (v3 : Int32) (xo : (Nat → Int32)) (xoz3 : (Nat → Int32)) (yruz2 : (Nat → Int64)) (y34 : (Nat → Int64)) : Option ((Nat → Int32) × (Nat → Int32) × (Nat → Int64) × (Nat → Int64)) := fX1_hardenBy_12 Lru xoz1 xoz2 xruz1 x17 x18  v3 0 (-1) (-1) 0 xo xoz3 yruz2 y34
set_option maxHeartbeats 4000000 in
set_option maxRecDepth 100000 in
theorem wX1_hardenBy_0 {l : Launch} {b0 : Nat} {D : GD} {K : KT} {n : Nat} {κ : QT} {X0 : XT} {Y0 : YT} {Z : ZT} {o : Nat} {ru : Nat} {Lru : Nat} (hL : LY n κ) (hk_o : κ o = (7, 0)) (hn_o : o < n) (hk_ru : κ ru = (4, 0)) (hn_ru : ru < n) (hk_ru_1 : κ (ru + 1) = (14, Lru)) (hN : ([o, o + 1, o + 2, o + 3, ru + 1, 17, 18] : List Nat).Nodup) (hM : ([ru + 2, 34] : List Nat).Nodup) (hC : gC l b0 D K RX1 cX1_hardenBy none 12 2 64 0 0) {xoz1 : Nat → Int32} {xoz2 : Nat → Int32} {xruz1 : Nat → Int32} {x17 : Nat → Int32} {x18 : Nat → Int32} {rxo : (Nat → Int32)} {rxoz3 : (Nat → Int32)} {ryruz2 : (Nat → Int64)} {ry34 : (Nat → Int64)} (hret : ∀ pc loc, decode cX1_hardenBy pc = .ok (.return_, 1) → gV l b0 D K (n, κ, ov X0 [o, o + 1, o + 2, o + 3, ru + 1, 17, 18] [rxo, xoz1, xoz2, rxoz3, xruz1, x17, x18], ov Y0 [ru + 2, 34] [ryruz2, ry34], Z, 0, 0) pc loc []) {v3 : Int32} {xo : (Nat → Int32)} {xoz3 : (Nat → Int32)} {yruz2 : (Nat → Int64)} {y34 : (Nat → Int64)} (hf : fX1_hardenBy_0 Lru xoz1 xoz2 xruz1 x17 x18  v3 xo xoz3 yruz2 y34 = some (rxo, rxoz3, ryruz2, ry34)) : gV l b0 D K (n, κ, ov X0 [o, o + 1, o + 2, o + 3, ru + 1, 17, 18] [xo, xoz1, xoz2, xoz3, xruz1, x17, x18], ov Y0 [ru + 2, 34] [yruz2, y34], Z, 0, 0) 0 [(0, .ref (b0 + 32)), (1, .ref (b0 + o)), (2, .ref (b0 + ru)), (3, .int v3)] [] := by
  unfold fX1_hardenBy_0 at hf
  refine g_lconst hC (v := 0) dX1_hardenBy_0 rfl ?_
  refine g_lstore hC (i := 4) [(4, .long 0), (0, .ref (b0 + 32)), (1, .ref (b0 + o)), (2, .ref (b0 + ru)), (3, .int v3)] dX1_hardenBy_1 (by decide) rfl ?_
  refine g_iconst hC (v := (-1)) dX1_hardenBy_3 ic_m1 ?_
  refine g_istore hC (i := 6) [(6, .int (-1)), (4, .long 0), (0, .ref (b0 + 32)), (1, .ref (b0 + o)), (2, .ref (b0 + ru)), (3, .int v3)] dX1_hardenBy_4 (by decide) rfl ?_
  refine g_iconst hC (v := (-1)) dX1_hardenBy_6 ic_m1 ?_
  refine g_istore hC (i := 7) [(7, .int (-1)), (6, .int (-1)), (4, .long 0), (0, .ref (b0 + 32)), (1, .ref (b0 + o)), (2, .ref (b0 + ru)), (3, .int v3)] dX1_hardenBy_7 (by decide) rfl ?_
  refine g_iconst hC (v := 0) dX1_hardenBy_9 ic_0 ?_
  refine g_istore hC (i := 8) [(8, .int 0), (7, .int (-1)), (6, .int (-1)), (4, .long 0), (0, .ref (b0 + 32)), (1, .ref (b0 + o)), (2, .ref (b0 + ru)), (3, .int v3)] dX1_hardenBy_10 (by decide) rfl ?_
  exact g_sub [4, 5, 6, 7, 3, 2, 1, 0] rfl (wX1_hardenBy_12 hL hk_o hn_o hk_ru hn_ru hk_ru_1 hN hM hC  hret  5000 v3 0 (-1) (-1) 0 xo xoz3 yruz2 y34 hf)

def fX1_hardenBy  (Lru : Nat) (xoz1 : Nat → Int32) (xoz2 : Nat → Int32) (xruz1 : Nat → Int32) (x17 : Nat → Int32) (x18 : Nat → Int32)  (v3 : Int32) (xo : Nat → Int32) (xoz3 : Nat → Int32) (yruz2 : Nat → Int64) (y34 : Nat → Int64) : Option ((Nat → Int32) × (Nat → Int32) × (Nat → Int64) × (Nat → Int64)) := fX1_hardenBy_0 Lru xoz1 xoz2 xruz1 x17 x18 v3 xo xoz3 yruz2 y34

set_option maxHeartbeats 4000000 in
set_option maxRecDepth 100000 in
theorem c_X1_hardenBy (l : Launch) {b0 : Nat} {D : GD} {n : Nat} {κ : QT} {X0 : XT} {Y0 : YT} {Z : ZT} {o : Nat} {ru : Nat} {Lru : Nat} (hL : LY n κ) (hk_o : κ o = (7, 0)) (hn_o : o < n) (hk_ru : κ ru = (4, 0)) (hn_ru : ru < n) (hk_ru_1 : κ (ru + 1) = (14, Lru)) (hN : ([o, o + 1, o + 2, o + 3, ru + 1, 17, 18] : List Nat).Nodup) (hM : ([ru + 2, 34] : List Nat).Nodup) {xo : Nat → Int32} {xoz1 : Nat → Int32} {xoz2 : Nat → Int32} {xoz3 : Nat → Int32} {xruz1 : Nat → Int32} {x17 : Nat → Int32} {x18 : Nat → Int32} {yruz2 : Nat → Int64} {y34 : Nat → Int64} (hx : ([o, o + 1, o + 2, o + 3, ru + 1, 17, 18] : List Nat).map X0 = [xo, xoz1, xoz2, xoz3, xruz1, x17, x18]) (hy : ([ru + 2, 34] : List Nat).map Y0 = [yruz2, y34]) {v3 : Int32} {rxo : (Nat → Int32)} {rxoz3 : (Nat → Int32)} {ryruz2 : (Nat → Int64)} {ry34 : (Nat → Int64)} (hf : fX1_hardenBy Lru xoz1 xoz2 xruz1 x17 x18 v3 xo xoz3 yruz2 y34 = some (rxo, rxoz3, ryruz2, ry34)) : gMv l yX1_hardenBy cX1_hardenBy 12 none 2 64 0 0 b0 D [.ref (b0 + 32), .ref (b0 + o), .ref (b0 + ru), .int v3] (n, κ, X0, Y0, Z) (n, κ, ov X0 [o, o + 1, o + 2, o + 3, ru + 1, 17, 18] [rxo, xoz1, xoz2, rxoz3, xruz1, x17, x18], ov Y0 [ru + 2, 34] [ryruz2, ry34], Z) := by
  refine g_metv (own := RX1) (by decide) rfl rfl (Nat.le_of_ble_eq_true rfl) ?_
  intro K hC hret
  have e := wX1_hardenBy_0 hL hk_o hn_o hk_ru hn_ru hk_ru_1 hN hM hC  hret hf
  rw [ov_id' hx, ov_id' hy] at e
  exact g_sub [0, 1, 2, 3] rfl e

-- X1_pass
def fX1_passR_18  (Lru : Nat) (xruz1 : Nat → Int32) (x17 : Nat → Int32) (x18 : Nat → Int32)  (v3 : Int32) (xo : (Nat → Int32)) (xoz1 : (Nat → Int32)) (xoz2 : (Nat → Int32)) (xoz3 : (Nat → Int32)) (x33 : (Nat → Int32)) (yruz2 : (Nat → Int64)) (y34 : (Nat → Int64)) : Option (Int32 × (Nat → Int32) × (Nat → Int32) × (Nat → Int32) × (Nat → Int32) × (Nat → Int32) × (Nat → Int64) × (Nat → Int64)) := bd6 (fX1_melt x17 v3 xo xoz1 xoz2 xoz3 x33) fun r_1 xo_2 xoz1_3 xoz2_4 xoz3_5 x33_6 => (some (r_1, xo_2, xoz1_3, xoz2_4, xoz3_5, x33_6, yruz2, y34))
set_option maxHeartbeats 4000000 in
set_option maxRecDepth 100000 in
theorem wX1_passR_18 {l : Launch} {b0 : Nat} {D : GD} {K : KT} {n : Nat} {κ : QT} {X0 : XT} {Y0 : YT} {Z : ZT} {o : Nat} {ru : Nat} {Lru : Nat} (hL : LY n κ) (hk_o : κ o = (7, 0)) (hn_o : o < n) (hk_ru : κ ru = (4, 0)) (hn_ru : ru < n) (hk_ru_1 : κ (ru + 1) = (14, Lru)) (hN : ([o, o + 1, o + 2, o + 3, ru + 1, 17, 18, 33] : List Nat).Nodup) (hM : ([ru + 2, 34] : List Nat).Nodup) (hC : gC l b0 D K RX1 cX1_pass (some FieldType.int) 4 4 115 0 0) {xruz1 : Nat → Int32} {x17 : Nat → Int32} {x18 : Nat → Int32} {r : Int32} {rxo : (Nat → Int32)} {rxoz1 : (Nat → Int32)} {rxoz2 : (Nat → Int32)} {rxoz3 : (Nat → Int32)} {rx33 : (Nat → Int32)} {ryruz2 : (Nat → Int64)} {ry34 : (Nat → Int64)} (hret : ∀ pc loc, narrow .int (.int r) = .int r → decode cX1_pass pc = .ok (.ireturn, 1) → gV l b0 D K (n, κ, ov X0 [o, o + 1, o + 2, o + 3, ru + 1, 17, 18, 33] [rxo, rxoz1, rxoz2, rxoz3, xruz1, x17, x18, rx33], ov Y0 [ru + 2, 34] [ryruz2, ry34], Z, 0, 0) pc loc [.int r]) {v3 : Int32} {xo : (Nat → Int32)} {xoz1 : (Nat → Int32)} {xoz2 : (Nat → Int32)} {xoz3 : (Nat → Int32)} {x33 : (Nat → Int32)} {yruz2 : (Nat → Int64)} {y34 : (Nat → Int64)} (hf : fX1_passR_18 Lru xruz1 x17 x18  v3 xo xoz1 xoz2 xoz3 x33 yruz2 y34 = some (r, rxo, rxoz1, rxoz2, rxoz3, rx33, ryruz2, ry34)) : gV l b0 D K (n, κ, ov X0 [o, o + 1, o + 2, o + 3, ru + 1, 17, 18, 33] [xo, xoz1, xoz2, xoz3, xruz1, x17, x18, x33], ov Y0 [ru + 2, 34] [yruz2, y34], Z, 0, 0) 18 [(0, .ref (b0 + 32)), (1, .ref (b0 + o)), (3, .int v3)] [] := by
  unfold fX1_passR_18 at hf
  refine g_aload_n hC 0 dX1_pass_18 rfl rfl ?_
  refine g_aload_n hC 1 dX1_pass_19 rfl rfl ?_
  refine g_iload_n hC 2 dX1_pass_20 rfl rfl ?_
  obtain ⟨r_1, xo_2, xoz1_3, xoz2_4, xoz3_5, x33_6, q_7, hf⟩ := bd6E hf
  refine g_callV_i (a := 32) hC (X' := ov X0 [o, o + 1, o + 2, o + 3, ru + 1, 17, 18, 33] [xo_2, xoz1_3, xoz2_4, xoz3_5, xruz1, x17, x18, x33_6]) (Y' := ov Y0 [ru + 2, 34] [yruz2, y34]) (As := [.ref (b0 + o), .int v3]) (gMi_eq (c_X1_melt l hL hk_o hn_o (nd_sub hN [0, 1, 2, 3, 5, 7] (by decide) (by rfl)) (nd_sub hM [] (by decide) (by rfl)) (ov_map hN [0, 1, 2, 3, 5, 7] (by rfl) (by rfl)) (ov_map hM [] (by rfl) (by rfl)) q_7) (ov_ovE hN (by rfl) [0, 1, 2, 3, 5, 7] [4, 6] (by rfl) (by rfl) [xruz1, x18] (by rfl) (by rfl) (by rfl) 8 (by rfl) (by decide)) (ov_ovE hM (by rfl) [] [0, 1] (by rfl) (by rfl) [yruz2, y34] (by rfl) (by rfl) (by rfl) 2 (by rfl) (by decide))) tw_909 tw_906 tw_123 tw_907 tw_908 (ci := 1) rfl (by decide) (kk_32 hL) (kn_32 hL) pd_X1_melt (by decide) (by decide) rfl rfl (Nat.le_of_ble_eq_true rfl) rfl dX1_pass_21 ?_
  obtain ⟨rfl, rfl, rfl, rfl, rfl, rfl, rfl, rfl⟩ := sm8E hf
  exact hret _ _ rfl dX1_pass_24

def fX1_passR_0  (Lru : Nat) (xruz1 : Nat → Int32) (x17 : Nat → Int32) (x18 : Nat → Int32)  (v3 : Int32) (xo : (Nat → Int32)) (xoz1 : (Nat → Int32)) (xoz2 : (Nat → Int32)) (xoz3 : (Nat → Int32)) (x33 : (Nat → Int32)) (yruz2 : (Nat → Int64)) (y34 : (Nat → Int64)) : Option (Int32 × (Nat → Int32) × (Nat → Int32) × (Nat → Int32) × (Nat → Int32) × (Nat → Int32) × (Nat → Int64) × (Nat → Int64)) := if (xo 1) ≤ 0 then (fX1_passR_18 Lru xruz1 x17 x18  v3 xo xoz1 xoz2 xoz3 x33 yruz2 y34) else (bd4 (fX1_hardenBy Lru xoz1 xoz2 xruz1 x17 x18 v3 xo xoz3 yruz2 y34) fun xo_1 xoz3_2 yruz2_3 y34_4 => (fX1_passR_18 Lru xruz1 x17 x18  v3 xo_1 xoz1 xoz2 xoz3_2 x33 yruz2_3 y34_4))
set_option maxHeartbeats 4000000 in
set_option maxRecDepth 100000 in
theorem wX1_passR_0 {l : Launch} {b0 : Nat} {D : GD} {K : KT} {n : Nat} {κ : QT} {X0 : XT} {Y0 : YT} {Z : ZT} {o : Nat} {ru : Nat} {Lru : Nat} (hL : LY n κ) (hk_o : κ o = (7, 0)) (hn_o : o < n) (hk_ru : κ ru = (4, 0)) (hn_ru : ru < n) (hk_ru_1 : κ (ru + 1) = (14, Lru)) (hN : ([o, o + 1, o + 2, o + 3, ru + 1, 17, 18, 33] : List Nat).Nodup) (hM : ([ru + 2, 34] : List Nat).Nodup) (hC : gC l b0 D K RX1 cX1_pass (some FieldType.int) 4 4 115 0 0) {xruz1 : Nat → Int32} {x17 : Nat → Int32} {x18 : Nat → Int32} {r : Int32} {rxo : (Nat → Int32)} {rxoz1 : (Nat → Int32)} {rxoz2 : (Nat → Int32)} {rxoz3 : (Nat → Int32)} {rx33 : (Nat → Int32)} {ryruz2 : (Nat → Int64)} {ry34 : (Nat → Int64)} (hret : ∀ pc loc, narrow .int (.int r) = .int r → decode cX1_pass pc = .ok (.ireturn, 1) → gV l b0 D K (n, κ, ov X0 [o, o + 1, o + 2, o + 3, ru + 1, 17, 18, 33] [rxo, rxoz1, rxoz2, rxoz3, xruz1, x17, x18, rx33], ov Y0 [ru + 2, 34] [ryruz2, ry34], Z, 0, 0) pc loc [.int r]) {v3 : Int32} {xo : (Nat → Int32)} {xoz1 : (Nat → Int32)} {xoz2 : (Nat → Int32)} {xoz3 : (Nat → Int32)} {x33 : (Nat → Int32)} {yruz2 : (Nat → Int64)} {y34 : (Nat → Int64)} (hf : fX1_passR_0 Lru xruz1 x17 x18  v3 xo xoz1 xoz2 xoz3 x33 yruz2 y34 = some (r, rxo, rxoz1, rxoz2, rxoz3, rx33, ryruz2, ry34)) : gV l b0 D K (n, κ, ov X0 [o, o + 1, o + 2, o + 3, ru + 1, 17, 18, 33] [xo, xoz1, xoz2, xoz3, xruz1, x17, x18, x33], ov Y0 [ru + 2, 34] [yruz2, y34], Z, 0, 0) 0 [(0, .ref (b0 + 32)), (1, .ref (b0 + o)), (2, .ref (b0 + ru)), (3, .int v3)] [] := by
  unfold fX1_passR_0 at hf
  refine g_aload_n hC 2 dX1_pass_0 rfl rfl ?_
  refine g_ifnull hC dX1_pass_1 ?_
  refine g_aload_n hC 1 dX1_pass_4 rfl rfl ?_
  refine gt_X1_33 hC (x := xo) hk_o hn_o (ov_get hN 0 rfl rfl) dX1_pass_5 ?_
  refine g_if_le hC 18 dX1_pass_8 (by decide) (fun hc => ?_) (fun hc => ?_)
  · replace hf := ifT hf hc
    exact g_sub [0, 1, 3] rfl (wX1_passR_18 hL hk_o hn_o hk_ru hn_ru hk_ru_1 hN hM hC  hret  hf)
  · replace hf := ifF hf hc
    refine g_aload_n hC 0 dX1_pass_11 rfl rfl ?_
    refine g_aload_n hC 1 dX1_pass_12 rfl rfl ?_
    refine g_aload_n hC 2 dX1_pass_13 rfl rfl ?_
    refine g_iload_n hC 3 dX1_pass_14 rfl rfl ?_
    obtain ⟨xo_1, xoz3_2, yruz2_3, y34_4, q_5, hf⟩ := bd4E hf
    refine g_callV_v (a := 32) hC (X' := ov X0 [o, o + 1, o + 2, o + 3, ru + 1, 17, 18, 33] [xo_1, xoz1, xoz2, xoz3_2, xruz1, x17, x18, x33]) (Y' := ov Y0 [ru + 2, 34] [yruz2_3, y34_4]) (As := [.ref (b0 + o), .ref (b0 + ru), .int v3]) (gMv_eq (c_X1_hardenBy l hL hk_o hn_o hk_ru hn_ru hk_ru_1 (nd_sub hN [0, 1, 2, 3, 4, 5, 6] (by decide) (by rfl)) (nd_sub hM [0, 1] (by decide) (by rfl)) (ov_map hN [0, 1, 2, 3, 4, 5, 6] (by rfl) (by rfl)) (ov_map hM [0, 1] (by rfl) (by rfl)) q_5) (ov_ovE hN (by rfl) [0, 1, 2, 3, 4, 5, 6] [7] (by rfl) (by rfl) [x33] (by rfl) (by rfl) (by rfl) 8 (by rfl) (by decide)) (ov_ovE hM (by rfl) [0, 1] [] (by rfl) (by rfl) [] (by rfl) (by rfl) (by rfl) 2 (by rfl) (by decide))) tw_878 tw_875 tw_123 tw_877 tw_29 (ci := 1) rfl (by decide) (kk_32 hL) (kn_32 hL) pd_X1_hardenBy (by decide) (by decide) rfl rfl (Nat.le_of_ble_eq_true rfl) rfl dX1_pass_15 ?_
    exact g_sub [0, 1, 3] rfl (wX1_passR_18 hL hk_o hn_o hk_ru hn_ru hk_ru_1 hN hM hC  hret  hf)

def fX1_passR  (Lru : Nat) (xruz1 : Nat → Int32) (x17 : Nat → Int32) (x18 : Nat → Int32)  (v3 : Int32) (xo : Nat → Int32) (xoz1 : Nat → Int32) (xoz2 : Nat → Int32) (xoz3 : Nat → Int32) (x33 : Nat → Int32) (yruz2 : Nat → Int64) (y34 : Nat → Int64) : Option (Int32 × (Nat → Int32) × (Nat → Int32) × (Nat → Int32) × (Nat → Int32) × (Nat → Int32) × (Nat → Int64) × (Nat → Int64)) := fX1_passR_0 Lru xruz1 x17 x18 v3 xo xoz1 xoz2 xoz3 x33 yruz2 y34

set_option maxHeartbeats 4000000 in
set_option maxRecDepth 100000 in
theorem c_X1_passR (l : Launch) {b0 : Nat} {D : GD} {n : Nat} {κ : QT} {X0 : XT} {Y0 : YT} {Z : ZT} {o : Nat} {ru : Nat} {Lru : Nat} (hL : LY n κ) (hk_o : κ o = (7, 0)) (hn_o : o < n) (hk_ru : κ ru = (4, 0)) (hn_ru : ru < n) (hk_ru_1 : κ (ru + 1) = (14, Lru)) (hN : ([o, o + 1, o + 2, o + 3, ru + 1, 17, 18, 33] : List Nat).Nodup) (hM : ([ru + 2, 34] : List Nat).Nodup) {xo : Nat → Int32} {xoz1 : Nat → Int32} {xoz2 : Nat → Int32} {xoz3 : Nat → Int32} {xruz1 : Nat → Int32} {x17 : Nat → Int32} {x18 : Nat → Int32} {x33 : Nat → Int32} {yruz2 : Nat → Int64} {y34 : Nat → Int64} (hx : ([o, o + 1, o + 2, o + 3, ru + 1, 17, 18, 33] : List Nat).map X0 = [xo, xoz1, xoz2, xoz3, xruz1, x17, x18, x33]) (hy : ([ru + 2, 34] : List Nat).map Y0 = [yruz2, y34]) {v3 : Int32} {r : Int32} {rxo : (Nat → Int32)} {rxoz1 : (Nat → Int32)} {rxoz2 : (Nat → Int32)} {rxoz3 : (Nat → Int32)} {rx33 : (Nat → Int32)} {ryruz2 : (Nat → Int64)} {ry34 : (Nat → Int64)} (hf : fX1_passR Lru xruz1 x17 x18 v3 xo xoz1 xoz2 xoz3 x33 yruz2 y34 = some (r, rxo, rxoz1, rxoz2, rxoz3, rx33, ryruz2, ry34)) : gMi l yX1_pass cX1_pass 4 (some FieldType.int) 4 115 0 0 b0 D [.ref (b0 + 32), .ref (b0 + o), .ref (b0 + ru), .int v3] (n, κ, X0, Y0, Z) (n, κ, ov X0 [o, o + 1, o + 2, o + 3, ru + 1, 17, 18, 33] [rxo, rxoz1, rxoz2, rxoz3, xruz1, x17, x18, rx33], ov Y0 [ru + 2, 34] [ryruz2, ry34], Z) r := by
  refine g_meti (own := RX1) (by decide) rfl rfl (Nat.le_of_ble_eq_true rfl) ?_
  intro K hC hret
  have e := wX1_passR_0 hL hk_o hn_o hk_ru hn_ru hk_ru_1 hN hM hC  hret hf
  rw [ov_id' hx, ov_id' hy] at e
  exact g_sub [0, 1, 2, 3] rfl e

-- X1_pass
def fX1_passN_0   (x17 : Nat → Int32)  (v3 : Int32) (xo : (Nat → Int32)) (xoz1 : (Nat → Int32)) (xoz2 : (Nat → Int32)) (xoz3 : (Nat → Int32)) (x33 : (Nat → Int32)) : Option (Int32 × (Nat → Int32) × (Nat → Int32) × (Nat → Int32) × (Nat → Int32) × (Nat → Int32)) := bd6 (fX1_melt x17 v3 xo xoz1 xoz2 xoz3 x33) fun r_1 xo_2 xoz1_3 xoz2_4 xoz3_5 x33_6 => (some (r_1, xo_2, xoz1_3, xoz2_4, xoz3_5, x33_6))
set_option maxHeartbeats 4000000 in
set_option maxRecDepth 100000 in
theorem wX1_passN_0 {l : Launch} {b0 : Nat} {D : GD} {K : KT} {n : Nat} {κ : QT} {X0 : XT} {Y0 : YT} {Z : ZT} {o : Nat} (hL : LY n κ) (hk_o : κ o = (7, 0)) (hn_o : o < n) (hN : ([o, o + 1, o + 2, o + 3, 17, 33] : List Nat).Nodup) (hM : ([] : List Nat).Nodup) (hC : gC l b0 D K RX1 cX1_pass (some FieldType.int) 4 4 115 0 0) {x17 : Nat → Int32} {r : Int32} {rxo : (Nat → Int32)} {rxoz1 : (Nat → Int32)} {rxoz2 : (Nat → Int32)} {rxoz3 : (Nat → Int32)} {rx33 : (Nat → Int32)} (hret : ∀ pc loc, narrow .int (.int r) = .int r → decode cX1_pass pc = .ok (.ireturn, 1) → gV l b0 D K (n, κ, ov X0 [o, o + 1, o + 2, o + 3, 17, 33] [rxo, rxoz1, rxoz2, rxoz3, x17, rx33], ov Y0 [] [], Z, 0, 0) pc loc [.int r]) {v3 : Int32} {xo : (Nat → Int32)} {xoz1 : (Nat → Int32)} {xoz2 : (Nat → Int32)} {xoz3 : (Nat → Int32)} {x33 : (Nat → Int32)} (hf : fX1_passN_0 x17  v3 xo xoz1 xoz2 xoz3 x33 = some (r, rxo, rxoz1, rxoz2, rxoz3, rx33)) : gV l b0 D K (n, κ, ov X0 [o, o + 1, o + 2, o + 3, 17, 33] [xo, xoz1, xoz2, xoz3, x17, x33], ov Y0 [] [], Z, 0, 0) 0 [(0, .ref (b0 + 32)), (1, .ref (b0 + o)), (2, .null), (3, .int v3)] [] := by
  unfold fX1_passN_0 at hf
  refine g_aload_nN hC 2 dX1_pass_0 rfl rfl ?_
  refine g_ifnullN hC 18 dX1_pass_1 (by decide) ?_
  refine g_aload_n hC 0 dX1_pass_18 rfl rfl ?_
  refine g_aload_n hC 1 dX1_pass_19 rfl rfl ?_
  refine g_iload_n hC 3 dX1_pass_20 rfl rfl ?_
  obtain ⟨r_1, xo_2, xoz1_3, xoz2_4, xoz3_5, x33_6, q_7, hf⟩ := bd6E hf
  refine g_callV_i (a := 32) hC (X' := ov X0 [o, o + 1, o + 2, o + 3, 17, 33] [xo_2, xoz1_3, xoz2_4, xoz3_5, x17, x33_6]) (Y' := ov Y0 [] []) (As := [.ref (b0 + o), .int v3]) (gMi_eq (c_X1_melt l hL hk_o hn_o (nd_sub hN [0, 1, 2, 3, 4, 5] (by decide) (by rfl)) (nd_sub hM [] (by decide) (by rfl)) (ov_map hN [0, 1, 2, 3, 4, 5] (by rfl) (by rfl)) (ov_map hM [] (by rfl) (by rfl)) q_7) (ov_ovE hN (by rfl) [0, 1, 2, 3, 4, 5] [] (by rfl) (by rfl) [] (by rfl) (by rfl) (by rfl) 6 (by rfl) (by decide)) (ov_ovE hM (by rfl) [] [] (by rfl) (by rfl) [] (by rfl) (by rfl) (by rfl) 0 (by rfl) (by decide))) tw_909 tw_906 tw_123 tw_907 tw_908 (ci := 1) rfl (by decide) (kk_32 hL) (kn_32 hL) pd_X1_melt (by decide) (by decide) rfl rfl (Nat.le_of_ble_eq_true rfl) rfl dX1_pass_21 ?_
  obtain ⟨rfl, rfl, rfl, rfl, rfl, rfl⟩ := sm6E hf
  exact hret _ _ rfl dX1_pass_24

def fX1_passN   (x17 : Nat → Int32)  (v3 : Int32) (xo : Nat → Int32) (xoz1 : Nat → Int32) (xoz2 : Nat → Int32) (xoz3 : Nat → Int32) (x33 : Nat → Int32)  : Option (Int32 × (Nat → Int32) × (Nat → Int32) × (Nat → Int32) × (Nat → Int32) × (Nat → Int32)) := fX1_passN_0 x17 v3 xo xoz1 xoz2 xoz3 x33

set_option maxHeartbeats 4000000 in
set_option maxRecDepth 100000 in
theorem c_X1_passN (l : Launch) {b0 : Nat} {D : GD} {n : Nat} {κ : QT} {X0 : XT} {Y0 : YT} {Z : ZT} {o : Nat} (hL : LY n κ) (hk_o : κ o = (7, 0)) (hn_o : o < n) (hN : ([o, o + 1, o + 2, o + 3, 17, 33] : List Nat).Nodup) (hM : ([] : List Nat).Nodup) {xo : Nat → Int32} {xoz1 : Nat → Int32} {xoz2 : Nat → Int32} {xoz3 : Nat → Int32} {x17 : Nat → Int32} {x33 : Nat → Int32} (hx : ([o, o + 1, o + 2, o + 3, 17, 33] : List Nat).map X0 = [xo, xoz1, xoz2, xoz3, x17, x33]) (hy : ([] : List Nat).map Y0 = []) {v3 : Int32} {r : Int32} {rxo : (Nat → Int32)} {rxoz1 : (Nat → Int32)} {rxoz2 : (Nat → Int32)} {rxoz3 : (Nat → Int32)} {rx33 : (Nat → Int32)} (hf : fX1_passN x17 v3 xo xoz1 xoz2 xoz3 x33 = some (r, rxo, rxoz1, rxoz2, rxoz3, rx33)) : gMi l yX1_pass cX1_pass 4 (some FieldType.int) 4 115 0 0 b0 D [.ref (b0 + 32), .ref (b0 + o), .null, .int v3] (n, κ, X0, Y0, Z) (n, κ, ov X0 [o, o + 1, o + 2, o + 3, 17, 33] [rxo, rxoz1, rxoz2, rxoz3, x17, rx33], ov Y0 [] [], Z) r := by
  refine g_meti (own := RX1) (by decide) rfl rfl (Nat.le_of_ble_eq_true rfl) ?_
  intro K hC hret
  have e := wX1_passN_0 hL hk_o hn_o hN hM hC  hret hf
  rw [ov_id' hx, ov_id' hy] at e
  exact g_sub [0, 1, 2, 3] rfl e

-- X1_passAll
def fX1_passAllR_3b  (Lru : Nat) (xruz1 : Nat → Int32) (x17 : Nat → Int32) (x18 : Nat → Int32)  (k3 : Int32 → Int32 → (Nat → Int32) → (Nat → Int32) → (Nat → Int32) → (Nat → Int32) → (Nat → Int32) → (Nat → Int64) → (Nat → Int64) → Option ((Nat → Int32) × (Nat → Int32) × (Nat → Int32) × (Nat → Int32) × (Nat → Int32) × (Nat → Int64) × (Nat → Int64))) (v3 : Int32) (v4 : Int32) (xo : (Nat → Int32)) (xoz1 : (Nat → Int32)) (xoz2 : (Nat → Int32)) (xoz3 : (Nat → Int32)) (x33 : (Nat → Int32)) (yruz2 : (Nat → Int64)) (y34 : (Nat → Int64)) : Option ((Nat → Int32) × (Nat → Int32) × (Nat → Int32) × (Nat → Int32) × (Nat → Int32) × (Nat → Int64) × (Nat → Int64)) := if v3 ≤ v4 then (some (xo, xoz1, xoz2, xoz3, x33, yruz2, y34)) else (bd1 (fX9_heatOf xo x17 x18) fun r_1 => (bd8 (fX1_passR Lru xruz1 x17 x18 r_1 xo xoz1 xoz2 xoz3 x33 yruz2 y34) fun r_3 xo_4 xoz1_5 xoz2_6 xoz3_7 x33_8 yruz2_9 y34_10 => (bn (v4 + 1) fun t_12 => (k3 v3 t_12 xo_4 xoz1_5 xoz2_6 xoz3_7 x33_8 yruz2_9 y34_10))))
def fX1_passAllR_3  (Lru : Nat) (xruz1 : Nat → Int32) (x17 : Nat → Int32) (x18 : Nat → Int32)  : Int32 → Int32 → (Nat → Int32) → (Nat → Int32) → (Nat → Int32) → (Nat → Int32) → (Nat → Int32) → (Nat → Int64) → (Nat → Int64) → Option ((Nat → Int32) × (Nat → Int32) × (Nat → Int32) × (Nat → Int32) × (Nat → Int32) × (Nat → Int64) × (Nat → Int64)) := lq9 (fX1_passAllR_3b Lru xruz1 x17 x18 ) 5000
set_option maxHeartbeats 4000000 in
set_option maxRecDepth 100000 in
theorem wX1_passAllR_3 {l : Launch} {b0 : Nat} {D : GD} {K : KT} {n : Nat} {κ : QT} {X0 : XT} {Y0 : YT} {Z : ZT} {o : Nat} {ru : Nat} {Lru : Nat} (hL : LY n κ) (hk_o : κ o = (7, 0)) (hn_o : o < n) (hk_ru : κ ru = (4, 0)) (hn_ru : ru < n) (hk_ru_1 : κ (ru + 1) = (14, Lru)) (hN : ([o, o + 1, o + 2, o + 3, ru + 1, 17, 18, 33] : List Nat).Nodup) (hM : ([ru + 2, 34] : List Nat).Nodup) (hC : gC l b0 D K RX1 cX1_passAll none 5 5 138 0 0) {xruz1 : Nat → Int32} {x17 : Nat → Int32} {x18 : Nat → Int32} {rxo : (Nat → Int32)} {rxoz1 : (Nat → Int32)} {rxoz2 : (Nat → Int32)} {rxoz3 : (Nat → Int32)} {rx33 : (Nat → Int32)} {ryruz2 : (Nat → Int64)} {ry34 : (Nat → Int64)} (hret : ∀ pc loc, decode cX1_passAll pc = .ok (.return_, 1) → gV l b0 D K (n, κ, ov X0 [o, o + 1, o + 2, o + 3, ru + 1, 17, 18, 33] [rxo, rxoz1, rxoz2, rxoz3, xruz1, x17, x18, rx33], ov Y0 [ru + 2, 34] [ryruz2, ry34], Z, 0, 0) pc loc []) : ∀ (j : Nat) (v3 : Int32) (v4 : Int32) (xo : (Nat → Int32)) (xoz1 : (Nat → Int32)) (xoz2 : (Nat → Int32)) (xoz3 : (Nat → Int32)) (x33 : (Nat → Int32)) (yruz2 : (Nat → Int64)) (y34 : (Nat → Int64)), lq9 (fX1_passAllR_3b Lru xruz1 x17 x18 ) j v3 v4 xo xoz1 xoz2 xoz3 x33 yruz2 y34 = some (rxo, rxoz1, rxoz2, rxoz3, rx33, ryruz2, ry34) → gV l b0 D K (n, κ, ov X0 [o, o + 1, o + 2, o + 3, ru + 1, 17, 18, 33] [xo, xoz1, xoz2, xoz3, xruz1, x17, x18, x33], ov Y0 [ru + 2, 34] [yruz2, y34], Z, 0, 0) 3 [(0, .ref (b0 + 32)), (1, .ref (b0 + o)), (2, .ref (b0 + ru)), (3, .int v3), (4, .int v4)] [] := by
  intro j
  induction j with
  | zero => intro v3 v4 xo xoz1 xoz2 xoz3 x33 yruz2 y34 hf; cases hf
  | succ j hk3 =>
    intro v3 v4 xo xoz1 xoz2 xoz3 x33 yruz2 y34 hf
    replace hf : fX1_passAllR_3b Lru xruz1 x17 x18  (lq9 (fX1_passAllR_3b Lru xruz1 x17 x18 ) j) v3 v4 xo xoz1 xoz2 xoz3 x33 yruz2 y34 = some (rxo, rxoz1, rxoz2, rxoz3, rx33, ryruz2, ry34) := hf
    unfold fX1_passAllR_3b at hf
    refine g_iload hC 4 dX1_passAll_3 rfl ?_
    refine g_iload_n hC 3 dX1_passAll_5 rfl rfl ?_
    refine g_icmp_ge hC 30 dX1_passAll_6 (by decide) (fun hc => ?_) (fun hc => ?_)
    · replace hf := ifT hf hc
      obtain ⟨rfl, rfl, rfl, rfl, rfl, rfl, rfl⟩ := sm7E hf
      exact hret _ _ dX1_passAll_30
    · replace hf := ifF hf hc
      refine g_aload_n hC 0 dX1_passAll_9 rfl rfl ?_
      refine g_aload_n hC 1 dX1_passAll_10 rfl rfl ?_
      refine g_aload_n hC 2 dX1_passAll_11 rfl rfl ?_
      refine g_aload_n hC 0 dX1_passAll_12 rfl rfl ?_
      refine gt_X1_19 hC (a := 32) (kk_32 hL) (kn_32 hL) dX1_passAll_13 ?_
      refine g_ref (b := 17) rfl ?_
      refine g_aload_n hC 1 dX1_passAll_16 rfl rfl ?_
      obtain ⟨r_1, q_2, hf⟩ := bd1E hf
      refine g_callV_i (a := 17) hC (X' := ov X0 [o, o + 1, o + 2, o + 3, ru + 1, 17, 18, 33] [xo, xoz1, xoz2, xoz3, xruz1, x17, x18, x33]) (Y' := ov Y0 [ru + 2, 34] [yruz2, y34]) (As := [.ref (b0 + o)]) (gMi_eq (c_X9_heatOf l hL hk_o hn_o (nd_sub hN [0, 5, 6] (by decide) (by rfl)) (nd_sub hM [] (by decide) (by rfl)) (ov_map hN [0, 5, 6] (by rfl) (by rfl)) (ov_map hM [] (by rfl) (by rfl)) q_2) (ov_ovE hN (by rfl) [0, 5, 6] [1, 2, 3, 4, 7] (by rfl) (by rfl) [xoz1, xoz2, xoz3, xruz1, x33] (by rfl) (by rfl) (by rfl) 8 (by rfl) (by decide)) (ov_ovE hM (by rfl) [] [0, 1] (by rfl) (by rfl) [yruz2, y34] (by rfl) (by rfl) (by rfl) 2 (by rfl) (by decide))) tw_806 tw_981 tw_119 tw_804 tw_805 (ci := 9) rfl (by decide) (kk_17 hL) (kn_17 hL) pd_X9_heatOf (by decide) (by decide) rfl rfl (Nat.le_of_ble_eq_true rfl) rfl dX1_passAll_17 ?_
      obtain ⟨r_3, xo_4, xoz1_5, xoz2_6, xoz3_7, x33_8, yruz2_9, y34_10, q_11, hf⟩ := bd8E hf
      refine g_callV_i (a := 32) hC (X' := ov X0 [o, o + 1, o + 2, o + 3, ru + 1, 17, 18, 33] [xo_4, xoz1_5, xoz2_6, xoz3_7, xruz1, x17, x18, x33_8]) (Y' := ov Y0 [ru + 2, 34] [yruz2_9, y34_10]) (As := [.ref (b0 + o), .ref (b0 + ru), .int r_1]) (gMi_eq (c_X1_passR l hL hk_o hn_o hk_ru hn_ru hk_ru_1 (nd_sub hN [0, 1, 2, 3, 4, 5, 6, 7] (by decide) (by rfl)) (nd_sub hM [0, 1] (by decide) (by rfl)) (ov_map hN [0, 1, 2, 3, 4, 5, 6, 7] (by rfl) (by rfl)) (ov_map hM [0, 1] (by rfl) (by rfl)) q_11) (ov_ovE hN (by rfl) [0, 1, 2, 3, 4, 5, 6, 7] [] (by rfl) (by rfl) [] (by rfl) (by rfl) (by rfl) 8 (by rfl) (by decide)) (ov_ovE hM (by rfl) [0, 1] [] (by rfl) (by rfl) [] (by rfl) (by rfl) (by rfl) 2 (by rfl) (by decide))) tw_874 tw_982 tw_123 tw_872 tw_873 (ci := 1) rfl (by decide) (kk_32 hL) (kn_32 hL) pd_X1_pass (by decide) (by decide) rfl rfl (Nat.le_of_ble_eq_true rfl) rfl dX1_passAll_20 ?_
      refine g_pop hC dX1_passAll_23 rfl ?_
      obtain ⟨t_12, et_12, hf⟩ := bnE hf
      refine g_iinc hC (i := 4) (v := t_12) [(4, .int t_12), (0, .ref (b0 + 32)), (1, .ref (b0 + o)), (2, .ref (b0 + ru)), (3, .int v3)] dX1_passAll_24 (q := 4) rfl ((congrArg (HAdd.hAdd v4) ic_1).trans et_12.symm) (by decide) rfl ?_
      refine g_goto hC 3 dX1_passAll_27 (by decide) ?_
      exact g_sub [1, 2, 3, 4, 0] rfl (hk3 v3 t_12 xo_4 xoz1_5 xoz2_6 xoz3_7 x33_8 yruz2_9 y34_10 hf)

def fX1_passAllR_0  (Lru : Nat) (xruz1 : Nat → Int32) (x17 : Nat → Int32) (x18 : Nat → Int32)  (v3 : Int32) (xo : (Nat → Int32)) (xoz1 : (Nat → Int32)) (xoz2 : (Nat → Int32)) (xoz3 : (Nat → Int32)) (x33 : (Nat → Int32)) (yruz2 : (Nat → Int64)) (y34 : (Nat → Int64)) : Option ((Nat → Int32) × (Nat → Int32) × (Nat → Int32) × (Nat → Int32) × (Nat → Int32) × (Nat → Int64) × (Nat → Int64)) := fX1_passAllR_3 Lru xruz1 x17 x18  v3 0 xo xoz1 xoz2 xoz3 x33 yruz2 y34
set_option maxHeartbeats 4000000 in
set_option maxRecDepth 100000 in
theorem wX1_passAllR_0 {l : Launch} {b0 : Nat} {D : GD} {K : KT} {n : Nat} {κ : QT} {X0 : XT} {Y0 : YT} {Z : ZT} {o : Nat} {ru : Nat} {Lru : Nat} (hL : LY n κ) (hk_o : κ o = (7, 0)) (hn_o : o < n) (hk_ru : κ ru = (4, 0)) (hn_ru : ru < n) (hk_ru_1 : κ (ru + 1) = (14, Lru)) (hN : ([o, o + 1, o + 2, o + 3, ru + 1, 17, 18, 33] : List Nat).Nodup) (hM : ([ru + 2, 34] : List Nat).Nodup) (hC : gC l b0 D K RX1 cX1_passAll none 5 5 138 0 0) {xruz1 : Nat → Int32} {x17 : Nat → Int32} {x18 : Nat → Int32} {rxo : (Nat → Int32)} {rxoz1 : (Nat → Int32)} {rxoz2 : (Nat → Int32)} {rxoz3 : (Nat → Int32)} {rx33 : (Nat → Int32)} {ryruz2 : (Nat → Int64)} {ry34 : (Nat → Int64)} (hret : ∀ pc loc, decode cX1_passAll pc = .ok (.return_, 1) → gV l b0 D K (n, κ, ov X0 [o, o + 1, o + 2, o + 3, ru + 1, 17, 18, 33] [rxo, rxoz1, rxoz2, rxoz3, xruz1, x17, x18, rx33], ov Y0 [ru + 2, 34] [ryruz2, ry34], Z, 0, 0) pc loc []) {v3 : Int32} {xo : (Nat → Int32)} {xoz1 : (Nat → Int32)} {xoz2 : (Nat → Int32)} {xoz3 : (Nat → Int32)} {x33 : (Nat → Int32)} {yruz2 : (Nat → Int64)} {y34 : (Nat → Int64)} (hf : fX1_passAllR_0 Lru xruz1 x17 x18  v3 xo xoz1 xoz2 xoz3 x33 yruz2 y34 = some (rxo, rxoz1, rxoz2, rxoz3, rx33, ryruz2, ry34)) : gV l b0 D K (n, κ, ov X0 [o, o + 1, o + 2, o + 3, ru + 1, 17, 18, 33] [xo, xoz1, xoz2, xoz3, xruz1, x17, x18, x33], ov Y0 [ru + 2, 34] [yruz2, y34], Z, 0, 0) 0 [(0, .ref (b0 + 32)), (1, .ref (b0 + o)), (2, .ref (b0 + ru)), (3, .int v3)] [] := by
  unfold fX1_passAllR_0 at hf
  refine g_iconst hC (v := 0) dX1_passAll_0 ic_0 ?_
  refine g_istore hC (i := 4) [(4, .int 0), (0, .ref (b0 + 32)), (1, .ref (b0 + o)), (2, .ref (b0 + ru)), (3, .int v3)] dX1_passAll_1 (by decide) rfl ?_
  exact g_sub [1, 2, 3, 4, 0] rfl (wX1_passAllR_3 hL hk_o hn_o hk_ru hn_ru hk_ru_1 hN hM hC  hret  5000 v3 0 xo xoz1 xoz2 xoz3 x33 yruz2 y34 hf)

def fX1_passAllR  (Lru : Nat) (xruz1 : Nat → Int32) (x17 : Nat → Int32) (x18 : Nat → Int32)  (v3 : Int32) (xo : Nat → Int32) (xoz1 : Nat → Int32) (xoz2 : Nat → Int32) (xoz3 : Nat → Int32) (x33 : Nat → Int32) (yruz2 : Nat → Int64) (y34 : Nat → Int64) : Option ((Nat → Int32) × (Nat → Int32) × (Nat → Int32) × (Nat → Int32) × (Nat → Int32) × (Nat → Int64) × (Nat → Int64)) := fX1_passAllR_0 Lru xruz1 x17 x18 v3 xo xoz1 xoz2 xoz3 x33 yruz2 y34

set_option maxHeartbeats 4000000 in
set_option maxRecDepth 100000 in
theorem c_X1_passAllR (l : Launch) {b0 : Nat} {D : GD} {n : Nat} {κ : QT} {X0 : XT} {Y0 : YT} {Z : ZT} {o : Nat} {ru : Nat} {Lru : Nat} (hL : LY n κ) (hk_o : κ o = (7, 0)) (hn_o : o < n) (hk_ru : κ ru = (4, 0)) (hn_ru : ru < n) (hk_ru_1 : κ (ru + 1) = (14, Lru)) (hN : ([o, o + 1, o + 2, o + 3, ru + 1, 17, 18, 33] : List Nat).Nodup) (hM : ([ru + 2, 34] : List Nat).Nodup) {xo : Nat → Int32} {xoz1 : Nat → Int32} {xoz2 : Nat → Int32} {xoz3 : Nat → Int32} {xruz1 : Nat → Int32} {x17 : Nat → Int32} {x18 : Nat → Int32} {x33 : Nat → Int32} {yruz2 : Nat → Int64} {y34 : Nat → Int64} (hx : ([o, o + 1, o + 2, o + 3, ru + 1, 17, 18, 33] : List Nat).map X0 = [xo, xoz1, xoz2, xoz3, xruz1, x17, x18, x33]) (hy : ([ru + 2, 34] : List Nat).map Y0 = [yruz2, y34]) {v3 : Int32} {rxo : (Nat → Int32)} {rxoz1 : (Nat → Int32)} {rxoz2 : (Nat → Int32)} {rxoz3 : (Nat → Int32)} {rx33 : (Nat → Int32)} {ryruz2 : (Nat → Int64)} {ry34 : (Nat → Int64)} (hf : fX1_passAllR Lru xruz1 x17 x18 v3 xo xoz1 xoz2 xoz3 x33 yruz2 y34 = some (rxo, rxoz1, rxoz2, rxoz3, rx33, ryruz2, ry34)) : gMv l yX1_passAll cX1_passAll 5 none 5 138 0 0 b0 D [.ref (b0 + 32), .ref (b0 + o), .ref (b0 + ru), .int v3] (n, κ, X0, Y0, Z) (n, κ, ov X0 [o, o + 1, o + 2, o + 3, ru + 1, 17, 18, 33] [rxo, rxoz1, rxoz2, rxoz3, xruz1, x17, x18, rx33], ov Y0 [ru + 2, 34] [ryruz2, ry34], Z) := by
  refine g_metv (own := RX1) (by decide) rfl rfl (Nat.le_of_ble_eq_true rfl) ?_
  intro K hC hret
  have e := wX1_passAllR_0 hL hk_o hn_o hk_ru hn_ru hk_ru_1 hN hM hC  hret hf
  rw [ov_id' hx, ov_id' hy] at e
  exact g_sub [0, 1, 2, 3] rfl e

-- X1_passAll
def fX1_passAllN_3b   (x17 : Nat → Int32) (x18 : Nat → Int32)  (k3 : Int32 → Int32 → (Nat → Int32) → (Nat → Int32) → (Nat → Int32) → (Nat → Int32) → (Nat → Int32) → Option ((Nat → Int32) × (Nat → Int32) × (Nat → Int32) × (Nat → Int32) × (Nat → Int32))) (v3 : Int32) (v4 : Int32) (xo : (Nat → Int32)) (xoz1 : (Nat → Int32)) (xoz2 : (Nat → Int32)) (xoz3 : (Nat → Int32)) (x33 : (Nat → Int32)) : Option ((Nat → Int32) × (Nat → Int32) × (Nat → Int32) × (Nat → Int32) × (Nat → Int32)) := if v3 ≤ v4 then (some (xo, xoz1, xoz2, xoz3, x33)) else (bd1 (fX9_heatOf xo x17 x18) fun r_1 => (bd6 (fX1_passN x17 r_1 xo xoz1 xoz2 xoz3 x33) fun r_3 xo_4 xoz1_5 xoz2_6 xoz3_7 x33_8 => (bn (v4 + 1) fun t_10 => (k3 v3 t_10 xo_4 xoz1_5 xoz2_6 xoz3_7 x33_8))))
def fX1_passAllN_3   (x17 : Nat → Int32) (x18 : Nat → Int32)  : Int32 → Int32 → (Nat → Int32) → (Nat → Int32) → (Nat → Int32) → (Nat → Int32) → (Nat → Int32) → Option ((Nat → Int32) × (Nat → Int32) × (Nat → Int32) × (Nat → Int32) × (Nat → Int32)) := lq7 (fX1_passAllN_3b x17 x18 ) 5000
set_option maxHeartbeats 4000000 in
set_option maxRecDepth 100000 in
theorem wX1_passAllN_3 {l : Launch} {b0 : Nat} {D : GD} {K : KT} {n : Nat} {κ : QT} {X0 : XT} {Y0 : YT} {Z : ZT} {o : Nat} (hL : LY n κ) (hk_o : κ o = (7, 0)) (hn_o : o < n) (hN : ([o, o + 1, o + 2, o + 3, 17, 18, 33] : List Nat).Nodup) (hM : ([] : List Nat).Nodup) (hC : gC l b0 D K RX1 cX1_passAll none 5 5 138 0 0) {x17 : Nat → Int32} {x18 : Nat → Int32} {rxo : (Nat → Int32)} {rxoz1 : (Nat → Int32)} {rxoz2 : (Nat → Int32)} {rxoz3 : (Nat → Int32)} {rx33 : (Nat → Int32)} (hret : ∀ pc loc, decode cX1_passAll pc = .ok (.return_, 1) → gV l b0 D K (n, κ, ov X0 [o, o + 1, o + 2, o + 3, 17, 18, 33] [rxo, rxoz1, rxoz2, rxoz3, x17, x18, rx33], ov Y0 [] [], Z, 0, 0) pc loc []) : ∀ (j : Nat) (v3 : Int32) (v4 : Int32) (xo : (Nat → Int32)) (xoz1 : (Nat → Int32)) (xoz2 : (Nat → Int32)) (xoz3 : (Nat → Int32)) (x33 : (Nat → Int32)), lq7 (fX1_passAllN_3b x17 x18 ) j v3 v4 xo xoz1 xoz2 xoz3 x33 = some (rxo, rxoz1, rxoz2, rxoz3, rx33) → gV l b0 D K (n, κ, ov X0 [o, o + 1, o + 2, o + 3, 17, 18, 33] [xo, xoz1, xoz2, xoz3, x17, x18, x33], ov Y0 [] [], Z, 0, 0) 3 [(0, .ref (b0 + 32)), (1, .ref (b0 + o)), (2, .null), (3, .int v3), (4, .int v4)] [] := by
  intro j
  induction j with
  | zero => intro v3 v4 xo xoz1 xoz2 xoz3 x33 hf; cases hf
  | succ j hk3 =>
    intro v3 v4 xo xoz1 xoz2 xoz3 x33 hf
    replace hf : fX1_passAllN_3b x17 x18  (lq7 (fX1_passAllN_3b x17 x18 ) j) v3 v4 xo xoz1 xoz2 xoz3 x33 = some (rxo, rxoz1, rxoz2, rxoz3, rx33) := hf
    unfold fX1_passAllN_3b at hf
    refine g_iload hC 4 dX1_passAll_3 rfl ?_
    refine g_iload_n hC 3 dX1_passAll_5 rfl rfl ?_
    refine g_icmp_ge hC 30 dX1_passAll_6 (by decide) (fun hc => ?_) (fun hc => ?_)
    · replace hf := ifT hf hc
      obtain ⟨rfl, rfl, rfl, rfl, rfl⟩ := sm5E hf
      exact hret _ _ dX1_passAll_30
    · replace hf := ifF hf hc
      refine g_aload_n hC 0 dX1_passAll_9 rfl rfl ?_
      refine g_aload_n hC 1 dX1_passAll_10 rfl rfl ?_
      refine g_aload_nN hC 2 dX1_passAll_11 rfl rfl ?_
      refine g_aload_n hC 0 dX1_passAll_12 rfl rfl ?_
      refine gt_X1_19 hC (a := 32) (kk_32 hL) (kn_32 hL) dX1_passAll_13 ?_
      refine g_ref (b := 17) rfl ?_
      refine g_aload_n hC 1 dX1_passAll_16 rfl rfl ?_
      obtain ⟨r_1, q_2, hf⟩ := bd1E hf
      refine g_callV_i (a := 17) hC (X' := ov X0 [o, o + 1, o + 2, o + 3, 17, 18, 33] [xo, xoz1, xoz2, xoz3, x17, x18, x33]) (Y' := ov Y0 [] []) (As := [.ref (b0 + o)]) (gMi_eq (c_X9_heatOf l hL hk_o hn_o (nd_sub hN [0, 4, 5] (by decide) (by rfl)) (nd_sub hM [] (by decide) (by rfl)) (ov_map hN [0, 4, 5] (by rfl) (by rfl)) (ov_map hM [] (by rfl) (by rfl)) q_2) (ov_ovE hN (by rfl) [0, 4, 5] [1, 2, 3, 6] (by rfl) (by rfl) [xoz1, xoz2, xoz3, x33] (by rfl) (by rfl) (by rfl) 7 (by rfl) (by decide)) (ov_ovE hM (by rfl) [] [] (by rfl) (by rfl) [] (by rfl) (by rfl) (by rfl) 0 (by rfl) (by decide))) tw_806 tw_981 tw_119 tw_804 tw_805 (ci := 9) rfl (by decide) (kk_17 hL) (kn_17 hL) pd_X9_heatOf (by decide) (by decide) rfl rfl (Nat.le_of_ble_eq_true rfl) rfl dX1_passAll_17 ?_
      obtain ⟨r_3, xo_4, xoz1_5, xoz2_6, xoz3_7, x33_8, q_9, hf⟩ := bd6E hf
      refine g_callV_i (a := 32) hC (X' := ov X0 [o, o + 1, o + 2, o + 3, 17, 18, 33] [xo_4, xoz1_5, xoz2_6, xoz3_7, x17, x18, x33_8]) (Y' := ov Y0 [] []) (As := [.ref (b0 + o), .null, .int r_1]) (gMi_eq (c_X1_passN l hL hk_o hn_o (nd_sub hN [0, 1, 2, 3, 4, 6] (by decide) (by rfl)) (nd_sub hM [] (by decide) (by rfl)) (ov_map hN [0, 1, 2, 3, 4, 6] (by rfl) (by rfl)) (ov_map hM [] (by rfl) (by rfl)) q_9) (ov_ovE hN (by rfl) [0, 1, 2, 3, 4, 6] [5] (by rfl) (by rfl) [x18] (by rfl) (by rfl) (by rfl) 7 (by rfl) (by decide)) (ov_ovE hM (by rfl) [] [] (by rfl) (by rfl) [] (by rfl) (by rfl) (by rfl) 0 (by rfl) (by decide))) tw_874 tw_982 tw_123 tw_872 tw_873 (ci := 1) rfl (by decide) (kk_32 hL) (kn_32 hL) pd_X1_pass (by decide) (by decide) rfl rfl (Nat.le_of_ble_eq_true rfl) rfl dX1_passAll_20 ?_
      refine g_pop hC dX1_passAll_23 rfl ?_
      obtain ⟨t_10, et_10, hf⟩ := bnE hf
      refine g_iinc hC (i := 4) (v := t_10) [(4, .int t_10), (0, .ref (b0 + 32)), (1, .ref (b0 + o)), (2, .null), (3, .int v3)] dX1_passAll_24 (q := 4) rfl ((congrArg (HAdd.hAdd v4) ic_1).trans et_10.symm) (by decide) rfl ?_
      refine g_goto hC 3 dX1_passAll_27 (by decide) ?_
      exact g_sub [1, 2, 3, 4, 0] rfl (hk3 v3 t_10 xo_4 xoz1_5 xoz2_6 xoz3_7 x33_8 hf)

def fX1_passAllN_0   (x17 : Nat → Int32) (x18 : Nat → Int32)  (v3 : Int32) (xo : (Nat → Int32)) (xoz1 : (Nat → Int32)) (xoz2 : (Nat → Int32)) (xoz3 : (Nat → Int32)) (x33 : (Nat → Int32)) : Option ((Nat → Int32) × (Nat → Int32) × (Nat → Int32) × (Nat → Int32) × (Nat → Int32)) := fX1_passAllN_3 x17 x18  v3 0 xo xoz1 xoz2 xoz3 x33
set_option maxHeartbeats 4000000 in
set_option maxRecDepth 100000 in
theorem wX1_passAllN_0 {l : Launch} {b0 : Nat} {D : GD} {K : KT} {n : Nat} {κ : QT} {X0 : XT} {Y0 : YT} {Z : ZT} {o : Nat} (hL : LY n κ) (hk_o : κ o = (7, 0)) (hn_o : o < n) (hN : ([o, o + 1, o + 2, o + 3, 17, 18, 33] : List Nat).Nodup) (hM : ([] : List Nat).Nodup) (hC : gC l b0 D K RX1 cX1_passAll none 5 5 138 0 0) {x17 : Nat → Int32} {x18 : Nat → Int32} {rxo : (Nat → Int32)} {rxoz1 : (Nat → Int32)} {rxoz2 : (Nat → Int32)} {rxoz3 : (Nat → Int32)} {rx33 : (Nat → Int32)} (hret : ∀ pc loc, decode cX1_passAll pc = .ok (.return_, 1) → gV l b0 D K (n, κ, ov X0 [o, o + 1, o + 2, o + 3, 17, 18, 33] [rxo, rxoz1, rxoz2, rxoz3, x17, x18, rx33], ov Y0 [] [], Z, 0, 0) pc loc []) {v3 : Int32} {xo : (Nat → Int32)} {xoz1 : (Nat → Int32)} {xoz2 : (Nat → Int32)} {xoz3 : (Nat → Int32)} {x33 : (Nat → Int32)} (hf : fX1_passAllN_0 x17 x18  v3 xo xoz1 xoz2 xoz3 x33 = some (rxo, rxoz1, rxoz2, rxoz3, rx33)) : gV l b0 D K (n, κ, ov X0 [o, o + 1, o + 2, o + 3, 17, 18, 33] [xo, xoz1, xoz2, xoz3, x17, x18, x33], ov Y0 [] [], Z, 0, 0) 0 [(0, .ref (b0 + 32)), (1, .ref (b0 + o)), (2, .null), (3, .int v3)] [] := by
  unfold fX1_passAllN_0 at hf
  refine g_iconst hC (v := 0) dX1_passAll_0 ic_0 ?_
  refine g_istore hC (i := 4) [(4, .int 0), (0, .ref (b0 + 32)), (1, .ref (b0 + o)), (2, .null), (3, .int v3)] dX1_passAll_1 (by decide) rfl ?_
  exact g_sub [1, 2, 3, 4, 0] rfl (wX1_passAllN_3 hL hk_o hn_o hN hM hC  hret  5000 v3 0 xo xoz1 xoz2 xoz3 x33 hf)

def fX1_passAllN   (x17 : Nat → Int32) (x18 : Nat → Int32)  (v3 : Int32) (xo : Nat → Int32) (xoz1 : Nat → Int32) (xoz2 : Nat → Int32) (xoz3 : Nat → Int32) (x33 : Nat → Int32)  : Option ((Nat → Int32) × (Nat → Int32) × (Nat → Int32) × (Nat → Int32) × (Nat → Int32)) := fX1_passAllN_0 x17 x18 v3 xo xoz1 xoz2 xoz3 x33

set_option maxHeartbeats 4000000 in
set_option maxRecDepth 100000 in
theorem c_X1_passAllN (l : Launch) {b0 : Nat} {D : GD} {n : Nat} {κ : QT} {X0 : XT} {Y0 : YT} {Z : ZT} {o : Nat} (hL : LY n κ) (hk_o : κ o = (7, 0)) (hn_o : o < n) (hN : ([o, o + 1, o + 2, o + 3, 17, 18, 33] : List Nat).Nodup) (hM : ([] : List Nat).Nodup) {xo : Nat → Int32} {xoz1 : Nat → Int32} {xoz2 : Nat → Int32} {xoz3 : Nat → Int32} {x17 : Nat → Int32} {x18 : Nat → Int32} {x33 : Nat → Int32} (hx : ([o, o + 1, o + 2, o + 3, 17, 18, 33] : List Nat).map X0 = [xo, xoz1, xoz2, xoz3, x17, x18, x33]) (hy : ([] : List Nat).map Y0 = []) {v3 : Int32} {rxo : (Nat → Int32)} {rxoz1 : (Nat → Int32)} {rxoz2 : (Nat → Int32)} {rxoz3 : (Nat → Int32)} {rx33 : (Nat → Int32)} (hf : fX1_passAllN x17 x18 v3 xo xoz1 xoz2 xoz3 x33 = some (rxo, rxoz1, rxoz2, rxoz3, rx33)) : gMv l yX1_passAll cX1_passAll 5 none 5 138 0 0 b0 D [.ref (b0 + 32), .ref (b0 + o), .null, .int v3] (n, κ, X0, Y0, Z) (n, κ, ov X0 [o, o + 1, o + 2, o + 3, 17, 18, 33] [rxo, rxoz1, rxoz2, rxoz3, x17, x18, rx33], ov Y0 [] [], Z) := by
  refine g_metv (own := RX1) (by decide) rfl rfl (Nat.le_of_ble_eq_true rfl) ?_
  intro K hC hret
  have e := wX1_passAllN_0 hL hk_o hn_o hN hM hC  hret hf
  rw [ov_id' hx, ov_id' hy] at e
  exact g_sub [0, 1, 2, 3] rfl e

-- X2_isRest
def fX2_isRest_9b   (x65 : Nat → Int32) (x66 : Nat → Int32)  (k9 : Int32 → Int32 → Int32 → Int32 → Option (Int32)) (v1 : Int32) (v2 : Int32) (v3 : Int32) (v4 : Int32) : Option (Int32) := if 5 ≤ v4 then (some 1) else (gd (inb ((v4 * 5) + v2) 25) (gd (inb v3 25) (if (x65 ((v4 * 5) + v2).toNatClampNeg) < (x65 v3.toNatClampNeg) then (some 0) else (gd (inb ((v1 * 5) + v4) 25) (gd (inb v3 25) (if (x66 v3.toNatClampNeg) ≤ (x66 ((v1 * 5) + v4).toNatClampNeg) then (bn (v4 + 1) fun t_5 => (k9 v1 v2 v3 t_5)) else (some 0)))))))
def fX2_isRest_9   (x65 : Nat → Int32) (x66 : Nat → Int32)  : Int32 → Int32 → Int32 → Int32 → Option (Int32) := lq4 (fX2_isRest_9b x65 x66 ) 5000
set_option maxHeartbeats 4000000 in
set_option maxRecDepth 100000 in
theorem wX2_isRest_9 {l : Launch} {b0 : Nat} {D : GD} {K : KT} {n : Nat} {κ : QT} {X0 : XT} {Y0 : YT} {Z : ZT} (hL : LY n κ) (hN : ([65, 66] : List Nat).Nodup) (hM : ([] : List Nat).Nodup) (hC : gC l b0 D K RX2 cX2_isRest (some FieldType.boolean) 5 0 0 0 0) {x65 : Nat → Int32} {x66 : Nat → Int32} {r : Int32} (hret : ∀ pc loc, narrow .boolean (.int r) = .int r → decode cX2_isRest pc = .ok (.ireturn, 1) → gV l b0 D K (n, κ, ov X0 [65, 66] [x65, x66], ov Y0 [] [], Z, 0, 0) pc loc [.int r]) : ∀ (j : Nat) (v1 : Int32) (v2 : Int32) (v3 : Int32) (v4 : Int32), lq4 (fX2_isRest_9b x65 x66 ) j v1 v2 v3 v4 = some r → gV l b0 D K (n, κ, ov X0 [65, 66] [x65, x66], ov Y0 [] [], Z, 0, 0) 9 [(0, .ref (b0 + 60)), (1, .int v1), (2, .int v2), (3, .int v3), (4, .int v4)] [] := by
  intro j
  induction j with
  | zero => intro v1 v2 v3 v4 hf; cases hf
  | succ j hk9 =>
    intro v1 v2 v3 v4 hf
    replace hf : fX2_isRest_9b x65 x66  (lq4 (fX2_isRest_9b x65 x66 ) j) v1 v2 v3 v4 = some r := hf
    unfold fX2_isRest_9b at hf
    refine g_iload hC 4 dX2_isRest_9 rfl ?_
    refine g_iconst hC (v := 5) dX2_isRest_11 ic_5 ?_
    refine g_icmp_ge hC 63 dX2_isRest_12 (by decide) (fun hc => ?_) (fun hc => ?_)
    · replace hf := ifT hf hc
      refine g_iconst hC (v := 1) dX2_isRest_63 ic_1 ?_
      obtain rfl := sm1E hf
      exact hret _ _ rfl dX2_isRest_64
    · replace hf := ifF hf hc
      refine g_aload_n hC 0 dX2_isRest_15 rfl rfl ?_
      refine gt_X2_16 hC (a := 60) (kk_60 hL) (kn_60 hL) dX2_isRest_16 ?_
      refine g_ref (b := 65) rfl ?_
      refine g_iload hC 4 dX2_isRest_19 rfl ?_
      refine g_iconst hC (v := 5) dX2_isRest_21 ic_5 ?_
      refine g_imul hC dX2_isRest_22 ?_
      refine g_iload_n hC 2 dX2_isRest_23 rfl rfl ?_
      refine g_iadd hC dX2_isRest_24 ?_
      obtain ⟨h_1, hf⟩ := gdE hf
      refine g_iald hC (x := x65) (kk_65 hL) (kn_65 hL) (ov_get hN 0 rfl rfl) (inb_in h_1) dX2_isRest_25 ?_
      refine g_aload_n hC 0 dX2_isRest_26 rfl rfl ?_
      refine gt_X2_16 hC (a := 60) (kk_60 hL) (kn_60 hL) dX2_isRest_27 ?_
      refine g_ref (b := 65) rfl ?_
      refine g_iload_n hC 3 dX2_isRest_30 rfl rfl ?_
      obtain ⟨h_2, hf⟩ := gdE hf
      refine g_iald hC (x := x65) (kk_65 hL) (kn_65 hL) (ov_get hN 0 rfl rfl) (inb_in h_2) dX2_isRest_31 ?_
      refine g_icmp_lt hC 55 dX2_isRest_32 (by decide) (fun hc => ?_) (fun hc => ?_)
      · replace hf := ifT hf hc
        refine g_iconst hC (v := 0) dX2_isRest_55 ic_0 ?_
        obtain rfl := sm1E hf
        exact hret _ _ rfl dX2_isRest_56
      · replace hf := ifF hf hc
        refine g_aload_n hC 0 dX2_isRest_35 rfl rfl ?_
        refine gt_X2_20 hC (a := 60) (kk_60 hL) (kn_60 hL) dX2_isRest_36 ?_
        refine g_ref (b := 66) rfl ?_
        refine g_iload_n hC 1 dX2_isRest_39 rfl rfl ?_
        refine g_iconst hC (v := 5) dX2_isRest_40 ic_5 ?_
        refine g_imul hC dX2_isRest_41 ?_
        refine g_iload hC 4 dX2_isRest_42 rfl ?_
        refine g_iadd hC dX2_isRest_44 ?_
        obtain ⟨h_3, hf⟩ := gdE hf
        refine g_iald hC (x := x66) (kk_66 hL) (kn_66 hL) (ov_get hN 1 rfl rfl) (inb_in h_3) dX2_isRest_45 ?_
        refine g_aload_n hC 0 dX2_isRest_46 rfl rfl ?_
        refine gt_X2_20 hC (a := 60) (kk_60 hL) (kn_60 hL) dX2_isRest_47 ?_
        refine g_ref (b := 66) rfl ?_
        refine g_iload_n hC 3 dX2_isRest_50 rfl rfl ?_
        obtain ⟨h_4, hf⟩ := gdE hf
        refine g_iald hC (x := x66) (kk_66 hL) (kn_66 hL) (ov_get hN 1 rfl rfl) (inb_in h_4) dX2_isRest_51 ?_
        refine g_icmp_ge hC 57 dX2_isRest_52 (by decide) (fun hc => ?_) (fun hc => ?_)
        · replace hf := ifT hf hc
          obtain ⟨t_5, et_5, hf⟩ := bnE hf
          refine g_iinc hC (i := 4) (v := t_5) [(4, .int t_5), (0, .ref (b0 + 60)), (1, .int v1), (2, .int v2), (3, .int v3)] dX2_isRest_57 (q := 4) rfl ((congrArg (HAdd.hAdd v4) ic_1).trans et_5.symm) (by decide) rfl ?_
          refine g_goto hC 9 dX2_isRest_60 (by decide) ?_
          exact g_sub [1, 2, 3, 4, 0] rfl (hk9 v1 v2 v3 t_5 hf)
        · replace hf := ifF hf hc
          refine g_iconst hC (v := 0) dX2_isRest_55 ic_0 ?_
          obtain rfl := sm1E hf
          exact hret _ _ rfl dX2_isRest_56

def fX2_isRest_0   (x65 : Nat → Int32) (x66 : Nat → Int32)  (v1 : Int32) (v2 : Int32) : Option (Int32) := bn ((v1 * 5) + v2) fun t_1 => (fX2_isRest_9 x65 x66  v1 v2 t_1 0)
set_option maxHeartbeats 4000000 in
set_option maxRecDepth 100000 in
theorem wX2_isRest_0 {l : Launch} {b0 : Nat} {D : GD} {K : KT} {n : Nat} {κ : QT} {X0 : XT} {Y0 : YT} {Z : ZT} (hL : LY n κ) (hN : ([65, 66] : List Nat).Nodup) (hM : ([] : List Nat).Nodup) (hC : gC l b0 D K RX2 cX2_isRest (some FieldType.boolean) 5 0 0 0 0) {x65 : Nat → Int32} {x66 : Nat → Int32} {r : Int32} (hret : ∀ pc loc, narrow .boolean (.int r) = .int r → decode cX2_isRest pc = .ok (.ireturn, 1) → gV l b0 D K (n, κ, ov X0 [65, 66] [x65, x66], ov Y0 [] [], Z, 0, 0) pc loc [.int r]) {v1 : Int32} {v2 : Int32} (hf : fX2_isRest_0 x65 x66  v1 v2 = some r) : gV l b0 D K (n, κ, ov X0 [65, 66] [x65, x66], ov Y0 [] [], Z, 0, 0) 0 [(0, .ref (b0 + 60)), (1, .int v1), (2, .int v2)] [] := by
  unfold fX2_isRest_0 at hf
  refine g_iload_n hC 1 dX2_isRest_0 rfl rfl ?_
  refine g_iconst hC (v := 5) dX2_isRest_1 ic_5 ?_
  refine g_imul hC dX2_isRest_2 ?_
  refine g_iload_n hC 2 dX2_isRest_3 rfl rfl ?_
  refine g_iadd hC dX2_isRest_4 ?_
  obtain ⟨t_1, et_1, hf⟩ := bnE hf
  refine g_topi et_1 ?_
  refine g_istore_n hC (i := 3) [(3, .int t_1), (0, .ref (b0 + 60)), (1, .int v1), (2, .int v2)] rfl dX2_isRest_5 (by decide) rfl ?_
  refine g_iconst hC (v := 0) dX2_isRest_6 ic_0 ?_
  refine g_istore hC (i := 4) [(4, .int 0), (3, .int t_1), (0, .ref (b0 + 60)), (1, .int v1), (2, .int v2)] dX2_isRest_7 (by decide) rfl ?_
  exact g_sub [2, 3, 4, 1, 0] rfl (wX2_isRest_9 hL hN hM hC  hret  5000 v1 v2 t_1 0 hf)

def fX2_isRest   (x65 : Nat → Int32) (x66 : Nat → Int32)  (v1 : Int32) (v2 : Int32)   : Option (Int32) := fX2_isRest_0 x65 x66 v1 v2

set_option maxHeartbeats 4000000 in
set_option maxRecDepth 100000 in
theorem c_X2_isRest (l : Launch) {b0 : Nat} {D : GD} {n : Nat} {κ : QT} {X0 : XT} {Y0 : YT} {Z : ZT} (hL : LY n κ) {x65 : Nat → Int32} {x66 : Nat → Int32} (hx : ([65, 66] : List Nat).map X0 = [x65, x66]) (hy : ([] : List Nat).map Y0 = []) {v1 : Int32} {v2 : Int32} {r : Int32} (hf : fX2_isRest x65 x66 v1 v2 = some r) : gMi l yX2_isRest cX2_isRest 5 (some FieldType.boolean) 0 0 0 0 b0 D [.ref (b0 + 60), .int v1, .int v2] (n, κ, X0, Y0, Z) (n, κ, ov X0 [65, 66] [x65, x66], ov Y0 [] [], Z) r := by
  have hN : ([65, 66] : List Nat).Nodup := by decide
  have hM : ([] : List Nat).Nodup := by decide
  refine g_meti (own := RX2) (by decide) rfl rfl (Nat.le_of_ble_eq_true rfl) ?_
  intro K hC hret
  have e := wX2_isRest_0 hL hN hM hC  hret hf
  rw [ov_id' hx, ov_id' hy] at e
  exact g_sub [0, 1, 2] rfl e

-- X2_find
def fX2_find_73   (x65 : Nat → Int32) (x66 : Nat → Int32)  (k19 : Int32 → (Nat → Int32) → Option ((Nat → Int32))) (v1 : Int32) (x60 : (Nat → Int32)) : Option ((Nat → Int32)) := bn (v1 + 1) fun t_1 => (k19 t_1 x60)
set_option maxHeartbeats 4000000 in
set_option maxRecDepth 100000 in
theorem wX2_find_73 {l : Launch} {b0 : Nat} {D : GD} {K : KT} {n : Nat} {κ : QT} {X0 : XT} {Y0 : YT} {Z : ZT} (hL : LY n κ) (hN : ([60, 65, 66] : List Nat).Nodup) (hM : ([] : List Nat).Nodup) (hC : gC l b0 D K RX2 cX2_find none 2 1 24 0 0) {x65 : Nat → Int32} {x66 : Nat → Int32} {rx60 : (Nat → Int32)} (hret : ∀ pc loc, decode cX2_find pc = .ok (.return_, 1) → gV l b0 D K (n, κ, ov X0 [60, 65, 66] [rx60, x65, x66], ov Y0 [] [], Z, 0, 0) pc loc []) {k19 : Int32 → (Nat → Int32) → Option ((Nat → Int32))} (hk19 : ∀ (v1 : Int32) (x60 : (Nat → Int32)), k19 v1 x60 = some rx60 → gV l b0 D K (n, κ, ov X0 [60, 65, 66] [x60, x65, x66], ov Y0 [] [], Z, 0, 0) 19 [(0, .ref (b0 + 60)), (1, .int v1)] []) {v1 : Int32} {x60 : (Nat → Int32)} (hf : fX2_find_73 x65 x66 k19 v1 x60 = some rx60) : gV l b0 D K (n, κ, ov X0 [60, 65, 66] [x60, x65, x66], ov Y0 [] [], Z, 0, 0) 73 [(0, .ref (b0 + 60)), (1, .int v1)] [] := by
  unfold fX2_find_73 at hf
  obtain ⟨t_1, et_1, hf⟩ := bnE hf
  refine g_iinc hC (i := 1) (v := t_1) [(1, .int t_1), (0, .ref (b0 + 60))] dX2_find_73 (q := 1) rfl ((congrArg (HAdd.hAdd v1) ic_1).trans et_1.symm) (by decide) rfl ?_
  refine g_goto hC 19 dX2_find_76 (by decide) ?_
  exact g_sub [1, 0] rfl (hk19 t_1 x60 hf)

def fX2_find_63   (x65 : Nat → Int32) (x66 : Nat → Int32)  (k19 : Int32 → (Nat → Int32) → Option ((Nat → Int32))) (v1 : Int32) (x60 : (Nat → Int32)) : Option ((Nat → Int32)) := fX2_find_73 x65 x66 k19 v1 (upd x60 4 ((x60 4) + 1))
set_option maxHeartbeats 4000000 in
set_option maxRecDepth 100000 in
theorem wX2_find_63 {l : Launch} {b0 : Nat} {D : GD} {K : KT} {n : Nat} {κ : QT} {X0 : XT} {Y0 : YT} {Z : ZT} (hL : LY n κ) (hN : ([60, 65, 66] : List Nat).Nodup) (hM : ([] : List Nat).Nodup) (hC : gC l b0 D K RX2 cX2_find none 2 1 24 0 0) {x65 : Nat → Int32} {x66 : Nat → Int32} {rx60 : (Nat → Int32)} (hret : ∀ pc loc, decode cX2_find pc = .ok (.return_, 1) → gV l b0 D K (n, κ, ov X0 [60, 65, 66] [rx60, x65, x66], ov Y0 [] [], Z, 0, 0) pc loc []) {k19 : Int32 → (Nat → Int32) → Option ((Nat → Int32))} (hk19 : ∀ (v1 : Int32) (x60 : (Nat → Int32)), k19 v1 x60 = some rx60 → gV l b0 D K (n, κ, ov X0 [60, 65, 66] [x60, x65, x66], ov Y0 [] [], Z, 0, 0) 19 [(0, .ref (b0 + 60)), (1, .int v1)] []) {v1 : Int32} {x60 : (Nat → Int32)} (hf : fX2_find_63 x65 x66 k19 v1 x60 = some rx60) : gV l b0 D K (n, κ, ov X0 [60, 65, 66] [x60, x65, x66], ov Y0 [] [], Z, 0, 0) 63 [(0, .ref (b0 + 60)), (1, .int v1)] [] := by
  unfold fX2_find_63 at hf
  refine g_aload_n hC 0 dX2_find_63 rfl rfl ?_
  refine g_dup hC dX2_find_64 rfl ?_
  refine gt_X2_43 hC (x := x60) (kk_60 hL) (kn_60 hL) (ov_get hN 0 rfl rfl) dX2_find_65 ?_
  refine g_iconst hC (v := 1) dX2_find_68 ic_1 ?_
  refine g_iadd hC dX2_find_69 ?_
  refine pt_X2_43 hC (x := x60) (kk_60 hL) (kn_60 hL) (ov_get hN 0 rfl rfl) (ov_set hN (by rfl) 0 (by rfl)) dX2_find_70 ?_
  show gV l b0 D K (n, κ, ov X0 [60, 65, 66] [(upd x60 4 ((x60 4) + 1)), x65, x66], ov Y0 [] [], Z, 0, 0) 73 [(0, .ref (b0 + 60)), (1, .int v1)] []
  exact g_sub [0, 1] rfl (wX2_find_73 hL hN hM hC  hret hk19 hf)

def fX2_find_19b   (x65 : Nat → Int32) (x66 : Nat → Int32)  (k19 : Int32 → (Nat → Int32) → Option ((Nat → Int32))) (v1 : Int32) (x60 : (Nat → Int32)) : Option ((Nat → Int32)) := if 25 ≤ v1 then (some x60) else (bd1 (fX2_isRest x65 x66 (v1 / 5) (v1 - v1 / 5 * 5)) fun r_1 => (if r_1 = 0 then (fX2_find_73 x65 x66 k19 v1 x60) else (if (x60 4) = 0 then (fX2_find_63 x65 x66 k19 v1 (upd (upd x60 5 ((v1 / 5) * 2)) 6 ((v1 - v1 / 5 * 5) * 2))) else (fX2_find_63 x65 x66 k19 v1 x60))))
def fX2_find_19   (x65 : Nat → Int32) (x66 : Nat → Int32)  : Int32 → (Nat → Int32) → Option ((Nat → Int32)) := lq2 (fX2_find_19b x65 x66 ) 5000
set_option maxHeartbeats 4000000 in
set_option maxRecDepth 100000 in
theorem wX2_find_19 {l : Launch} {b0 : Nat} {D : GD} {K : KT} {n : Nat} {κ : QT} {X0 : XT} {Y0 : YT} {Z : ZT} (hL : LY n κ) (hN : ([60, 65, 66] : List Nat).Nodup) (hM : ([] : List Nat).Nodup) (hC : gC l b0 D K RX2 cX2_find none 2 1 24 0 0) {x65 : Nat → Int32} {x66 : Nat → Int32} {rx60 : (Nat → Int32)} (hret : ∀ pc loc, decode cX2_find pc = .ok (.return_, 1) → gV l b0 D K (n, κ, ov X0 [60, 65, 66] [rx60, x65, x66], ov Y0 [] [], Z, 0, 0) pc loc []) : ∀ (j : Nat) (v1 : Int32) (x60 : (Nat → Int32)), lq2 (fX2_find_19b x65 x66 ) j v1 x60 = some rx60 → gV l b0 D K (n, κ, ov X0 [60, 65, 66] [x60, x65, x66], ov Y0 [] [], Z, 0, 0) 19 [(0, .ref (b0 + 60)), (1, .int v1)] [] := by
  intro j
  induction j with
  | zero => intro v1 x60 hf; cases hf
  | succ j hk19 =>
    intro v1 x60 hf
    replace hf : fX2_find_19b x65 x66  (lq2 (fX2_find_19b x65 x66 ) j) v1 x60 = some rx60 := hf
    unfold fX2_find_19b at hf
    refine g_iload_n hC 1 dX2_find_19 rfl rfl ?_
    refine g_bipush hC (v := 25) dX2_find_20 bp_25 ?_
    refine g_icmp_ge hC 79 dX2_find_22 (by decide) (fun hc => ?_) (fun hc => ?_)
    · replace hf := ifT hf hc
      obtain rfl := sm1E hf
      exact hret _ _ dX2_find_79
    · replace hf := ifF hf hc
      refine g_aload_n hC 0 dX2_find_25 rfl rfl ?_
      refine g_iload_n hC 1 dX2_find_26 rfl rfl ?_
      refine g_iconst hC (v := 5) dX2_find_27 ic_5 ?_
      refine g_idiv hC dX2_find_28 (by decide) ?_
      refine g_iload_n hC 1 dX2_find_29 rfl rfl ?_
      refine g_iconst hC (v := 5) dX2_find_30 ic_5 ?_
      refine g_irem hC dX2_find_31 (by decide) ?_
      obtain ⟨r_1, q_2, hf⟩ := bd1E hf
      refine g_callV_i (a := 60) hC (X' := ov X0 [60, 65, 66] [x60, x65, x66]) (Y' := ov Y0 [] []) (As := [.int (v1 / 5), .int (v1 - v1 / 5 * 5)]) (gMi_eq (c_X2_isRest l hL (ov_map hN [1, 2] (by rfl) (by rfl)) (ov_map hM [] (by rfl) (by rfl)) q_2) (ov_ovE hN (by rfl) [1, 2] [0] (by rfl) (by rfl) [x60] (by rfl) (by rfl) (by rfl) 3 (by rfl) (by decide)) (ov_ovE hM (by rfl) [] [] (by rfl) (by rfl) [] (by rfl) (by rfl) (by rfl) 0 (by rfl) (by decide))) tw_1072 tw_1069 tw_125 tw_1071 tw_40 (ci := 2) rfl (by decide) (kk_60 hL) (kn_60 hL) pd_X2_isRest (by decide) (by decide) rfl rfl (Nat.le_of_ble_eq_true rfl) rfl dX2_find_32 ?_
      refine g_if_eq hC 73 dX2_find_35 (by decide) (fun hc => ?_) (fun hc => ?_)
      · replace hf := ifT hf hc
        exact g_sub [0, 1] rfl (wX2_find_73 hL hN hM hC  hret hk19 hf)
      · replace hf := ifF hf hc
        refine g_aload_n hC 0 dX2_find_38 rfl rfl ?_
        refine gt_X2_43 hC (x := x60) (kk_60 hL) (kn_60 hL) (ov_get hN 0 rfl rfl) dX2_find_39 ?_
        refine g_if_ne hC 63 dX2_find_42 (by decide) (fun hc => ?_) (fun hc => ?_)
        · replace hf := ifF hf hc
          exact g_sub [0, 1] rfl (wX2_find_63 hL hN hM hC  hret hk19 hf)
        · replace hf := ifT hf hc
          refine g_aload_n hC 0 dX2_find_45 rfl rfl ?_
          refine g_iload_n hC 1 dX2_find_46 rfl rfl ?_
          refine g_iconst hC (v := 5) dX2_find_47 ic_5 ?_
          refine g_idiv hC dX2_find_48 (by decide) ?_
          refine g_iconst hC (v := 2) dX2_find_49 ic_2 ?_
          refine g_imul hC dX2_find_50 ?_
          refine pt_X2_47 hC (x := x60) (kk_60 hL) (kn_60 hL) (ov_get hN 0 rfl rfl) (ov_set hN (by rfl) 0 (by rfl)) dX2_find_51 ?_
          show gV l b0 D K (n, κ, ov X0 [60, 65, 66] [(upd x60 5 ((v1 / 5) * 2)), x65, x66], ov Y0 [] [], Z, 0, 0) 54 [(0, .ref (b0 + 60)), (1, .int v1)] []
          refine g_aload_n hC 0 dX2_find_54 rfl rfl ?_
          refine g_iload_n hC 1 dX2_find_55 rfl rfl ?_
          refine g_iconst hC (v := 5) dX2_find_56 ic_5 ?_
          refine g_irem hC dX2_find_57 (by decide) ?_
          refine g_iconst hC (v := 2) dX2_find_58 ic_2 ?_
          refine g_imul hC dX2_find_59 ?_
          refine pt_X2_50 hC (x := (upd x60 5 ((v1 / 5) * 2))) (kk_60 hL) (kn_60 hL) (ov_get hN 0 rfl rfl) (ov_set hN (by rfl) 0 (by rfl)) dX2_find_60 ?_
          show gV l b0 D K (n, κ, ov X0 [60, 65, 66] [(upd (upd x60 5 ((v1 / 5) * 2)) 6 ((v1 - v1 / 5 * 5) * 2)), x65, x66], ov Y0 [] [], Z, 0, 0) 63 [(0, .ref (b0 + 60)), (1, .int v1)] []
          exact g_sub [0, 1] rfl (wX2_find_63 hL hN hM hC  hret hk19 hf)

def fX2_find_0   (x65 : Nat → Int32) (x66 : Nat → Int32)  (x60 : (Nat → Int32)) : Option ((Nat → Int32)) := fX2_find_19 x65 x66  0 (upd (upd (upd x60 4 0) 5 (-2)) 6 (-2))
set_option maxHeartbeats 4000000 in
set_option maxRecDepth 100000 in
theorem wX2_find_0 {l : Launch} {b0 : Nat} {D : GD} {K : KT} {n : Nat} {κ : QT} {X0 : XT} {Y0 : YT} {Z : ZT} (hL : LY n κ) (hN : ([60, 65, 66] : List Nat).Nodup) (hM : ([] : List Nat).Nodup) (hC : gC l b0 D K RX2 cX2_find none 2 1 24 0 0) {x65 : Nat → Int32} {x66 : Nat → Int32} {rx60 : (Nat → Int32)} (hret : ∀ pc loc, decode cX2_find pc = .ok (.return_, 1) → gV l b0 D K (n, κ, ov X0 [60, 65, 66] [rx60, x65, x66], ov Y0 [] [], Z, 0, 0) pc loc []) {x60 : (Nat → Int32)} (hf : fX2_find_0 x65 x66  x60 = some rx60) : gV l b0 D K (n, κ, ov X0 [60, 65, 66] [x60, x65, x66], ov Y0 [] [], Z, 0, 0) 0 [(0, .ref (b0 + 60))] [] := by
  unfold fX2_find_0 at hf
  refine g_aload_n hC 0 dX2_find_0 rfl rfl ?_
  refine g_iconst hC (v := 0) dX2_find_1 ic_0 ?_
  refine pt_X2_43 hC (x := x60) (kk_60 hL) (kn_60 hL) (ov_get hN 0 rfl rfl) (ov_set hN (by rfl) 0 (by rfl)) dX2_find_2 ?_
  show gV l b0 D K (n, κ, ov X0 [60, 65, 66] [(upd x60 4 0), x65, x66], ov Y0 [] [], Z, 0, 0) 5 [(0, .ref (b0 + 60))] []
  refine g_aload_n hC 0 dX2_find_5 rfl rfl ?_
  refine g_bipush hC (v := (-2)) dX2_find_6 bp_m2 ?_
  refine pt_X2_47 hC (x := (upd x60 4 0)) (kk_60 hL) (kn_60 hL) (ov_get hN 0 rfl rfl) (ov_set hN (by rfl) 0 (by rfl)) dX2_find_8 ?_
  show gV l b0 D K (n, κ, ov X0 [60, 65, 66] [(upd (upd x60 4 0) 5 (-2)), x65, x66], ov Y0 [] [], Z, 0, 0) 11 [(0, .ref (b0 + 60))] []
  refine g_aload_n hC 0 dX2_find_11 rfl rfl ?_
  refine g_bipush hC (v := (-2)) dX2_find_12 bp_m2 ?_
  refine pt_X2_50 hC (x := (upd (upd x60 4 0) 5 (-2))) (kk_60 hL) (kn_60 hL) (ov_get hN 0 rfl rfl) (ov_set hN (by rfl) 0 (by rfl)) dX2_find_14 ?_
  show gV l b0 D K (n, κ, ov X0 [60, 65, 66] [(upd (upd (upd x60 4 0) 5 (-2)) 6 (-2)), x65, x66], ov Y0 [] [], Z, 0, 0) 17 [(0, .ref (b0 + 60))] []
  refine g_iconst hC (v := 0) dX2_find_17 ic_0 ?_
  refine g_istore_n hC (i := 1) [(1, .int 0), (0, .ref (b0 + 60))] rfl dX2_find_18 (by decide) rfl ?_
  exact g_sub [1, 0] rfl (wX2_find_19 hL hN hM hC  hret  5000 0 (upd (upd (upd x60 4 0) 5 (-2)) 6 (-2)) hf)

def fX2_find   (x65 : Nat → Int32) (x66 : Nat → Int32)   (x60 : Nat → Int32)  : Option ((Nat → Int32)) := fX2_find_0 x65 x66 x60

set_option maxHeartbeats 4000000 in
set_option maxRecDepth 100000 in
theorem c_X2_find (l : Launch) {b0 : Nat} {D : GD} {n : Nat} {κ : QT} {X0 : XT} {Y0 : YT} {Z : ZT} (hL : LY n κ) {x60 : Nat → Int32} {x65 : Nat → Int32} {x66 : Nat → Int32} (hx : ([60, 65, 66] : List Nat).map X0 = [x60, x65, x66]) (hy : ([] : List Nat).map Y0 = []) {rx60 : (Nat → Int32)} (hf : fX2_find x65 x66 x60 = some rx60) : gMv l yX2_find cX2_find 2 none 1 24 0 0 b0 D [.ref (b0 + 60)] (n, κ, X0, Y0, Z) (n, κ, ov X0 [60, 65, 66] [rx60, x65, x66], ov Y0 [] [], Z) := by
  have hN : ([60, 65, 66] : List Nat).Nodup := by decide
  have hM : ([] : List Nat).Nodup := by decide
  refine g_metv (own := RX2) (by decide) rfl rfl (Nat.le_of_ble_eq_true rfl) ?_
  intro K hC hret
  have e := wX2_find_0 hL hN hM hC  hret hf
  rw [ov_id' hx, ov_id' hy] at e
  exact g_sub [0] rfl e

-- X2_play
def fX2_playR_3b  (Lru : Nat) (xruz1 : Nat → Int32) (x17 : Nat → Int32) (x18 : Nat → Int32) (x23 : Nat → Int32) (x24 : Nat → Int32) (x25 : Nat → Int32) (x26 : Nat → Int32)  (k3 : Int32 → Int32 → Int32 → Int32 → (Nat → Int32) → (Nat → Int32) → (Nat → Int32) → (Nat → Int32) → (Nat → Int32) → (Nat → Int32) → (Nat → Int32) → (Nat → Int64) → (Nat → Int64) → Option ((Nat → Int32) × (Nat → Int32) × (Nat → Int32) × (Nat → Int32) × (Nat → Int32) × (Nat → Int32) × (Nat → Int32) × (Nat → Int64) × (Nat → Int64))) (v3 : Int32) (v4 : Int32) (v5 : Int32) (v6 : Int32) (x33 : (Nat → Int32)) (x61 : (Nat → Int32)) (x62 : (Nat → Int32)) (x63 : (Nat → Int32)) (x64 : (Nat → Int32)) (x65 : (Nat → Int32)) (x66 : (Nat → Int32)) (yruz2 : (Nat → Int64)) (y34 : (Nat → Int64)) : Option ((Nat → Int32) × (Nat → Int32) × (Nat → Int32) × (Nat → Int32) × (Nat → Int32) × (Nat → Int32) × (Nat → Int32) × (Nat → Int64) × (Nat → Int64)) := if 25 ≤ v6 then (some (x33, x61, x62, x63, x64, x65, x66, yruz2, y34)) else (bn (v6 / 5) fun t_1 => (bn (v6 - v6 / 5 * 5) fun t_2 => (bd4 (fX7_copy x23 x24 x25 x26 x61 x62 x63 x64) fun x61_3 x62_4 x63_5 x64_6 => (gd (inb v3 6) (gd (inb v4 6) (bd7 (fX1_passAllR Lru xruz1 x17 x18 v5 x61_3 x62_4 (upd (upd x63_5 v3.toNatClampNeg (2 * t_1)) v4.toNatClampNeg (2 * t_2)) x64_6 x33 yruz2 y34) fun x61_10 x62_11 x63_12 x64_13 x33_14 yruz2_15 y34_16 => (gd (inb v3 6) (gd (inb v6 25) (gd (inb v4 6) (gd (inb v6 25) (bn (v6 + 1) fun t_22 => (k3 v3 v4 v5 t_22 x33_14 x61_10 x62_11 x63_12 x64_13 (upd x65 v6.toNatClampNeg ((x62_11 v3.toNatClampNeg) + t_1)) (upd x66 v6.toNatClampNeg ((x62_11 v4.toNatClampNeg) + t_2)) yruz2_15 y34_16))))))))))))
def fX2_playR_3  (Lru : Nat) (xruz1 : Nat → Int32) (x17 : Nat → Int32) (x18 : Nat → Int32) (x23 : Nat → Int32) (x24 : Nat → Int32) (x25 : Nat → Int32) (x26 : Nat → Int32)  : Int32 → Int32 → Int32 → Int32 → (Nat → Int32) → (Nat → Int32) → (Nat → Int32) → (Nat → Int32) → (Nat → Int32) → (Nat → Int32) → (Nat → Int32) → (Nat → Int64) → (Nat → Int64) → Option ((Nat → Int32) × (Nat → Int32) × (Nat → Int32) × (Nat → Int32) × (Nat → Int32) × (Nat → Int32) × (Nat → Int32) × (Nat → Int64) × (Nat → Int64)) := lq13 (fX2_playR_3b Lru xruz1 x17 x18 x23 x24 x25 x26 ) 5000
set_option maxHeartbeats 4000000 in
set_option maxRecDepth 100000 in
theorem wX2_playR_3 {l : Launch} {b0 : Nat} {D : GD} {K : KT} {n : Nat} {κ : QT} {X0 : XT} {Y0 : YT} {Z : ZT} {ru : Nat} {Lru : Nat} (hL : LY n κ) (hk_ru : κ ru = (4, 0)) (hn_ru : ru < n) (hk_ru_1 : κ (ru + 1) = (14, Lru)) (hN : ([ru + 1, 17, 18, 23, 24, 25, 26, 33, 61, 62, 63, 64, 65, 66] : List Nat).Nodup) (hM : ([ru + 2, 34] : List Nat).Nodup) (hC : gC l b0 D K RX2 cX2_play none 9 6 162 0 0) {xruz1 : Nat → Int32} {x17 : Nat → Int32} {x18 : Nat → Int32} {x23 : Nat → Int32} {x24 : Nat → Int32} {x25 : Nat → Int32} {x26 : Nat → Int32} {rx33 : (Nat → Int32)} {rx61 : (Nat → Int32)} {rx62 : (Nat → Int32)} {rx63 : (Nat → Int32)} {rx64 : (Nat → Int32)} {rx65 : (Nat → Int32)} {rx66 : (Nat → Int32)} {ryruz2 : (Nat → Int64)} {ry34 : (Nat → Int64)} (hret : ∀ pc loc, decode cX2_play pc = .ok (.return_, 1) → gV l b0 D K (n, κ, ov X0 [ru + 1, 17, 18, 23, 24, 25, 26, 33, 61, 62, 63, 64, 65, 66] [xruz1, x17, x18, x23, x24, x25, x26, rx33, rx61, rx62, rx63, rx64, rx65, rx66], ov Y0 [ru + 2, 34] [ryruz2, ry34], Z, 0, 0) pc loc []) : ∀ (j : Nat) (v3 : Int32) (v4 : Int32) (v5 : Int32) (v6 : Int32) (x33 : (Nat → Int32)) (x61 : (Nat → Int32)) (x62 : (Nat → Int32)) (x63 : (Nat → Int32)) (x64 : (Nat → Int32)) (x65 : (Nat → Int32)) (x66 : (Nat → Int32)) (yruz2 : (Nat → Int64)) (y34 : (Nat → Int64)), lq13 (fX2_playR_3b Lru xruz1 x17 x18 x23 x24 x25 x26 ) j v3 v4 v5 v6 x33 x61 x62 x63 x64 x65 x66 yruz2 y34 = some (rx33, rx61, rx62, rx63, rx64, rx65, rx66, ryruz2, ry34) → gV l b0 D K (n, κ, ov X0 [ru + 1, 17, 18, 23, 24, 25, 26, 33, 61, 62, 63, 64, 65, 66] [xruz1, x17, x18, x23, x24, x25, x26, x33, x61, x62, x63, x64, x65, x66], ov Y0 [ru + 2, 34] [yruz2, y34], Z, 0, 0) 3 [(0, .ref (b0 + 60)), (1, .ref (b0 + 23)), (2, .ref (b0 + ru)), (3, .int v3), (4, .int v4), (5, .int v5), (6, .int v6)] [] := by
  intro j
  induction j with
  | zero => intro v3 v4 v5 v6 x33 x61 x62 x63 x64 x65 x66 yruz2 y34 hf; cases hf
  | succ j hk3 =>
    intro v3 v4 v5 v6 x33 x61 x62 x63 x64 x65 x66 yruz2 y34 hf
    replace hf : fX2_playR_3b Lru xruz1 x17 x18 x23 x24 x25 x26  (lq13 (fX2_playR_3b Lru xruz1 x17 x18 x23 x24 x25 x26 ) j) v3 v4 v5 v6 x33 x61 x62 x63 x64 x65 x66 yruz2 y34 = some (rx33, rx61, rx62, rx63, rx64, rx65, rx66, ryruz2, ry34) := hf
    unfold fX2_playR_3b at hf
    refine g_iload hC 6 dX2_play_3 rfl ?_
    refine g_bipush hC (v := 25) dX2_play_5 bp_25 ?_
    refine g_icmp_ge hC 116 dX2_play_7 (by decide) (fun hc => ?_) (fun hc => ?_)
    · replace hf := ifT hf hc
      obtain ⟨rfl, rfl, rfl, rfl, rfl, rfl, rfl, rfl, rfl⟩ := sm9E hf
      exact hret _ _ dX2_play_116
    · replace hf := ifF hf hc
      refine g_iload hC 6 dX2_play_10 rfl ?_
      refine g_iconst hC (v := 5) dX2_play_12 ic_5 ?_
      refine g_idiv hC dX2_play_13 (by decide) ?_
      obtain ⟨t_1, et_1, hf⟩ := bnE hf
      refine g_topi et_1 ?_
      refine g_istore hC (i := 7) [(7, .int t_1), (0, .ref (b0 + 60)), (1, .ref (b0 + 23)), (2, .ref (b0 + ru)), (3, .int v3), (4, .int v4), (5, .int v5), (6, .int v6)] dX2_play_14 (by decide) rfl ?_
      refine g_iload hC 7 dX2_play_16 rfl ?_
      refine g_iconst hC (v := 5) dX2_play_18 ic_5 ?_
      refine g_irem hC dX2_play_19 (by decide) ?_
      obtain ⟨t_2, et_2, hf⟩ := bnE hf
      refine g_topi et_2 ?_
      refine g_istore hC (i := 8) [(8, .int t_2), (7, .int t_1), (0, .ref (b0 + 60)), (1, .ref (b0 + 23)), (2, .ref (b0 + ru)), (3, .int v3), (4, .int v4), (5, .int v5), (6, .int v6)] dX2_play_20 (by decide) rfl ?_
      refine g_aload_n hC 2 dX2_play_22 rfl rfl ?_
      refine gt_X2_10 hC (a := 60) (kk_60 hL) (kn_60 hL) dX2_play_23 ?_
      refine g_ref (b := 61) rfl ?_
      refine g_aload_n hC 3 dX2_play_26 rfl rfl ?_
      obtain ⟨x61_3, x62_4, x63_5, x64_6, q_7, hf⟩ := bd4E hf
      refine g_callV_v (a := 61) hC (X' := ov X0 [ru + 1, 17, 18, 23, 24, 25, 26, 33, 61, 62, 63, 64, 65, 66] [xruz1, x17, x18, x23, x24, x25, x26, x33, x61_3, x62_4, x63_5, x64_6, x65, x66]) (Y' := ov Y0 [ru + 2, 34] [yruz2, y34]) (As := [.ref (b0 + 23)]) (gMv_eq (c_X7_copy l hL (kk_61 hL) (kn_61 hL) (kk_23 hL) (kn_23 hL) (nd_sub hN [8, 9, 10, 11, 3, 4, 5, 6] (by decide) (by rfl)) (nd_sub hM [] (by decide) (by rfl)) (ov_map hN [8, 9, 10, 11, 3, 4, 5, 6] (by rfl) (by rfl)) (ov_map hM [] (by rfl) (by rfl)) q_7) (ov_ovE hN (by rfl) [8, 9, 10, 11, 3, 4, 5, 6] [0, 1, 2, 7, 12, 13] (by rfl) (by rfl) [xruz1, x17, x18, x33, x65, x66] (by rfl) (by rfl) (by rfl) 14 (by rfl) (by decide)) (ov_ovE hM (by rfl) [] [0, 1] (by rfl) (by rfl) [yruz2, y34] (by rfl) (by rfl) (by rfl) 2 (by rfl) (by decide))) tw_707 tw_1063 tw_120 tw_705 tw_706 (ci := 7) rfl (by decide) (kk_61 hL) (kn_61 hL) pd_X7_copy (by decide) (by decide) rfl rfl (Nat.le_of_ble_eq_true rfl) rfl dX2_play_27 ?_
      refine g_aload_n hC 2 dX2_play_30 rfl rfl ?_
      refine gt_X2_10 hC (a := 60) (kk_60 hL) (kn_60 hL) dX2_play_31 ?_
      refine g_ref (b := 61) rfl ?_
      refine gt_X2_31 hC (a := 61) (kk_61 hL) (kn_61 hL) dX2_play_34 ?_
      refine g_ref (b := 63) rfl ?_
      refine g_iload_n hC 5 dX2_play_37 rfl rfl ?_
      refine g_iconst hC (v := 2) dX2_play_38 ic_2 ?_
      refine g_iload hC 1 dX2_play_39 rfl ?_
      refine g_imul hC dX2_play_41 ?_
      obtain ⟨h_8, hf⟩ := gdE hf
      refine g_iast hC (x := x63_5) (kk_63 hL) (kn_63 hL) (ov_get hN 10 rfl rfl) (inb_in h_8) (ov_set hN (by rfl) 10 (by rfl)) dX2_play_42 ?_
      show gV l b0 D K (n, κ, ov X0 [ru + 1, 17, 18, 23, 24, 25, 26, 33, 61, 62, 63, 64, 65, 66] [xruz1, x17, x18, x23, x24, x25, x26, x33, x61_3, x62_4, (upd x63_5 v3.toNatClampNeg (2 * t_1)), x64_6, x65, x66], ov Y0 [ru + 2, 34] [yruz2, y34], Z, 0, 0) 43 [(8, .int t_2), (7, .int t_1), (0, .ref (b0 + 60)), (1, .ref (b0 + 23)), (2, .ref (b0 + ru)), (3, .int v3), (4, .int v4), (5, .int v5), (6, .int v6)] []
      refine g_aload_n hC 2 dX2_play_43 rfl rfl ?_
      refine gt_X2_10 hC (a := 60) (kk_60 hL) (kn_60 hL) dX2_play_44 ?_
      refine g_ref (b := 61) rfl ?_
      refine gt_X2_31 hC (a := 61) (kk_61 hL) (kn_61 hL) dX2_play_47 ?_
      refine g_ref (b := 63) rfl ?_
      refine g_iload hC 6 dX2_play_50 rfl ?_
      refine g_iconst hC (v := 2) dX2_play_52 ic_2 ?_
      refine g_iload hC 0 dX2_play_53 rfl ?_
      refine g_imul hC dX2_play_55 ?_
      obtain ⟨h_9, hf⟩ := gdE hf
      refine g_iast hC (x := (upd x63_5 v3.toNatClampNeg (2 * t_1))) (kk_63 hL) (kn_63 hL) (ov_get hN 10 rfl rfl) (inb_in h_9) (ov_set hN (by rfl) 10 (by rfl)) dX2_play_56 ?_
      show gV l b0 D K (n, κ, ov X0 [ru + 1, 17, 18, 23, 24, 25, 26, 33, 61, 62, 63, 64, 65, 66] [xruz1, x17, x18, x23, x24, x25, x26, x33, x61_3, x62_4, (upd (upd x63_5 v3.toNatClampNeg (2 * t_1)) v4.toNatClampNeg (2 * t_2)), x64_6, x65, x66], ov Y0 [ru + 2, 34] [yruz2, y34], Z, 0, 0) 57 [(8, .int t_2), (7, .int t_1), (0, .ref (b0 + 60)), (1, .ref (b0 + 23)), (2, .ref (b0 + ru)), (3, .int v3), (4, .int v4), (5, .int v5), (6, .int v6)] []
      refine g_aload_n hC 2 dX2_play_57 rfl rfl ?_
      refine gt_X2_23 hC (a := 60) (kk_60 hL) (kn_60 hL) dX2_play_58 ?_
      refine g_ref (b := 32) rfl ?_
      refine g_aload_n hC 2 dX2_play_61 rfl rfl ?_
      refine gt_X2_10 hC (a := 60) (kk_60 hL) (kn_60 hL) dX2_play_62 ?_
      refine g_ref (b := 61) rfl ?_
      refine g_aload_n hC 4 dX2_play_65 rfl rfl ?_
      refine g_iload hC 7 dX2_play_66 rfl ?_
      obtain ⟨x61_10, x62_11, x63_12, x64_13, x33_14, yruz2_15, y34_16, q_17, hf⟩ := bd7E hf
      refine g_callV_v (a := 32) hC (X' := ov X0 [ru + 1, 17, 18, 23, 24, 25, 26, 33, 61, 62, 63, 64, 65, 66] [xruz1, x17, x18, x23, x24, x25, x26, x33_14, x61_10, x62_11, x63_12, x64_13, x65, x66]) (Y' := ov Y0 [ru + 2, 34] [yruz2_15, y34_16]) (As := [.ref (b0 + 61), .ref (b0 + ru), .int v5]) (gMv_eq (c_X1_passAllR l hL (kk_61 hL) (kn_61 hL) hk_ru hn_ru hk_ru_1 (nd_sub hN [8, 9, 10, 11, 0, 1, 2, 7] (by decide) (by rfl)) (nd_sub hM [0, 1] (by decide) (by rfl)) (ov_map hN [8, 9, 10, 11, 0, 1, 2, 7] (by rfl) (by rfl)) (ov_map hM [0, 1] (by rfl) (by rfl)) q_17) (ov_ovE hN (by rfl) [8, 9, 10, 11, 0, 1, 2, 7] [3, 4, 5, 6, 12, 13] (by rfl) (by rfl) [x23, x24, x25, x26, x65, x66] (by rfl) (by rfl) (by rfl) 14 (by rfl) (by decide)) (ov_ovE hM (by rfl) [0, 1] [] (by rfl) (by rfl) [] (by rfl) (by rfl) (by rfl) 2 (by rfl) (by decide))) tw_980 tw_1064 tw_123 tw_978 tw_979 (ci := 1) rfl (by decide) (kk_32 hL) (kn_32 hL) pd_X1_passAll (by decide) (by decide) rfl rfl (Nat.le_of_ble_eq_true rfl) rfl dX2_play_68 ?_
      refine g_aload_n hC 2 dX2_play_71 rfl rfl ?_
      refine gt_X2_16 hC (a := 60) (kk_60 hL) (kn_60 hL) dX2_play_72 ?_
      refine g_ref (b := 65) rfl ?_
      refine g_iload hC 8 dX2_play_75 rfl ?_
      refine g_aload_n hC 2 dX2_play_77 rfl rfl ?_
      refine gt_X2_10 hC (a := 60) (kk_60 hL) (kn_60 hL) dX2_play_78 ?_
      refine g_ref (b := 61) rfl ?_
      refine gt_X2_40 hC (a := 61) (kk_61 hL) (kn_61 hL) dX2_play_81 ?_
      refine g_ref (b := 62) rfl ?_
      refine g_iload_n hC 5 dX2_play_84 rfl rfl ?_
      obtain ⟨h_18, hf⟩ := gdE hf
      refine g_iald hC (x := x62_11) (kk_62 hL) (kn_62 hL) (ov_get hN 9 rfl rfl) (inb_in h_18) dX2_play_85 ?_
      refine g_iload hC 1 dX2_play_86 rfl ?_
      refine g_iadd hC dX2_play_88 ?_
      obtain ⟨h_19, hf⟩ := gdE hf
      refine g_iast hC (x := x65) (kk_65 hL) (kn_65 hL) (ov_get hN 12 rfl rfl) (inb_in h_19) (ov_set hN (by rfl) 12 (by rfl)) dX2_play_89 ?_
      show gV l b0 D K (n, κ, ov X0 [ru + 1, 17, 18, 23, 24, 25, 26, 33, 61, 62, 63, 64, 65, 66] [xruz1, x17, x18, x23, x24, x25, x26, x33_14, x61_10, x62_11, x63_12, x64_13, (upd x65 v6.toNatClampNeg ((x62_11 v3.toNatClampNeg) + t_1)), x66], ov Y0 [ru + 2, 34] [yruz2_15, y34_16], Z, 0, 0) 90 [(8, .int t_2), (7, .int t_1), (0, .ref (b0 + 60)), (1, .ref (b0 + 23)), (2, .ref (b0 + ru)), (3, .int v3), (4, .int v4), (5, .int v5), (6, .int v6)] []
      refine g_aload_n hC 2 dX2_play_90 rfl rfl ?_
      refine gt_X2_20 hC (a := 60) (kk_60 hL) (kn_60 hL) dX2_play_91 ?_
      refine g_ref (b := 66) rfl ?_
      refine g_iload hC 8 dX2_play_94 rfl ?_
      refine g_aload_n hC 2 dX2_play_96 rfl rfl ?_
      refine gt_X2_10 hC (a := 60) (kk_60 hL) (kn_60 hL) dX2_play_97 ?_
      refine g_ref (b := 61) rfl ?_
      refine gt_X2_40 hC (a := 61) (kk_61 hL) (kn_61 hL) dX2_play_100 ?_
      refine g_ref (b := 62) rfl ?_
      refine g_iload hC 6 dX2_play_103 rfl ?_
      obtain ⟨h_20, hf⟩ := gdE hf
      refine g_iald hC (x := x62_11) (kk_62 hL) (kn_62 hL) (ov_get hN 9 rfl rfl) (inb_in h_20) dX2_play_105 ?_
      refine g_iload hC 0 dX2_play_106 rfl ?_
      refine g_iadd hC dX2_play_108 ?_
      obtain ⟨h_21, hf⟩ := gdE hf
      refine g_iast hC (x := x66) (kk_66 hL) (kn_66 hL) (ov_get hN 13 rfl rfl) (inb_in h_21) (ov_set hN (by rfl) 13 (by rfl)) dX2_play_109 ?_
      show gV l b0 D K (n, κ, ov X0 [ru + 1, 17, 18, 23, 24, 25, 26, 33, 61, 62, 63, 64, 65, 66] [xruz1, x17, x18, x23, x24, x25, x26, x33_14, x61_10, x62_11, x63_12, x64_13, (upd x65 v6.toNatClampNeg ((x62_11 v3.toNatClampNeg) + t_1)), (upd x66 v6.toNatClampNeg ((x62_11 v4.toNatClampNeg) + t_2))], ov Y0 [ru + 2, 34] [yruz2_15, y34_16], Z, 0, 0) 110 [(8, .int t_2), (7, .int t_1), (0, .ref (b0 + 60)), (1, .ref (b0 + 23)), (2, .ref (b0 + ru)), (3, .int v3), (4, .int v4), (5, .int v5), (6, .int v6)] []
      obtain ⟨t_22, et_22, hf⟩ := bnE hf
      refine g_iinc hC (i := 6) (v := t_22) [(6, .int t_22), (8, .int t_2), (7, .int t_1), (0, .ref (b0 + 60)), (1, .ref (b0 + 23)), (2, .ref (b0 + ru)), (3, .int v3), (4, .int v4), (5, .int v5)] dX2_play_110 (q := 8) rfl ((congrArg (HAdd.hAdd v6) ic_1).trans et_22.symm) (by decide) rfl ?_
      refine g_goto hC 3 dX2_play_113 (by decide) ?_
      exact g_sub [3, 4, 5, 6, 7, 8, 0] rfl (hk3 v3 v4 v5 t_22 x33_14 x61_10 x62_11 x63_12 x64_13 (upd x65 v6.toNatClampNeg ((x62_11 v3.toNatClampNeg) + t_1)) (upd x66 v6.toNatClampNeg ((x62_11 v4.toNatClampNeg) + t_2)) yruz2_15 y34_16 hf)

def fX2_playR_0  (Lru : Nat) (xruz1 : Nat → Int32) (x17 : Nat → Int32) (x18 : Nat → Int32) (x23 : Nat → Int32) (x24 : Nat → Int32) (x25 : Nat → Int32) (x26 : Nat → Int32)  (v3 : Int32) (v4 : Int32) (v5 : Int32) (x33 : (Nat → Int32)) (x61 : (Nat → Int32)) (x62 : (Nat → Int32)) (x63 : (Nat → Int32)) (x64 : (Nat → Int32)) (x65 : (Nat → Int32)) (x66 : (Nat → Int32)) (yruz2 : (Nat → Int64)) (y34 : (Nat → Int64)) : Option ((Nat → Int32) × (Nat → Int32) × (Nat → Int32) × (Nat → Int32) × (Nat → Int32) × (Nat → Int32) × (Nat → Int32) × (Nat → Int64) × (Nat → Int64)) := fX2_playR_3 Lru xruz1 x17 x18 x23 x24 x25 x26  v3 v4 v5 0 x33 x61 x62 x63 x64 x65 x66 yruz2 y34
set_option maxHeartbeats 4000000 in
set_option maxRecDepth 100000 in
theorem wX2_playR_0 {l : Launch} {b0 : Nat} {D : GD} {K : KT} {n : Nat} {κ : QT} {X0 : XT} {Y0 : YT} {Z : ZT} {ru : Nat} {Lru : Nat} (hL : LY n κ) (hk_ru : κ ru = (4, 0)) (hn_ru : ru < n) (hk_ru_1 : κ (ru + 1) = (14, Lru)) (hN : ([ru + 1, 17, 18, 23, 24, 25, 26, 33, 61, 62, 63, 64, 65, 66] : List Nat).Nodup) (hM : ([ru + 2, 34] : List Nat).Nodup) (hC : gC l b0 D K RX2 cX2_play none 9 6 162 0 0) {xruz1 : Nat → Int32} {x17 : Nat → Int32} {x18 : Nat → Int32} {x23 : Nat → Int32} {x24 : Nat → Int32} {x25 : Nat → Int32} {x26 : Nat → Int32} {rx33 : (Nat → Int32)} {rx61 : (Nat → Int32)} {rx62 : (Nat → Int32)} {rx63 : (Nat → Int32)} {rx64 : (Nat → Int32)} {rx65 : (Nat → Int32)} {rx66 : (Nat → Int32)} {ryruz2 : (Nat → Int64)} {ry34 : (Nat → Int64)} (hret : ∀ pc loc, decode cX2_play pc = .ok (.return_, 1) → gV l b0 D K (n, κ, ov X0 [ru + 1, 17, 18, 23, 24, 25, 26, 33, 61, 62, 63, 64, 65, 66] [xruz1, x17, x18, x23, x24, x25, x26, rx33, rx61, rx62, rx63, rx64, rx65, rx66], ov Y0 [ru + 2, 34] [ryruz2, ry34], Z, 0, 0) pc loc []) {v3 : Int32} {v4 : Int32} {v5 : Int32} {x33 : (Nat → Int32)} {x61 : (Nat → Int32)} {x62 : (Nat → Int32)} {x63 : (Nat → Int32)} {x64 : (Nat → Int32)} {x65 : (Nat → Int32)} {x66 : (Nat → Int32)} {yruz2 : (Nat → Int64)} {y34 : (Nat → Int64)} (hf : fX2_playR_0 Lru xruz1 x17 x18 x23 x24 x25 x26  v3 v4 v5 x33 x61 x62 x63 x64 x65 x66 yruz2 y34 = some (rx33, rx61, rx62, rx63, rx64, rx65, rx66, ryruz2, ry34)) : gV l b0 D K (n, κ, ov X0 [ru + 1, 17, 18, 23, 24, 25, 26, 33, 61, 62, 63, 64, 65, 66] [xruz1, x17, x18, x23, x24, x25, x26, x33, x61, x62, x63, x64, x65, x66], ov Y0 [ru + 2, 34] [yruz2, y34], Z, 0, 0) 0 [(0, .ref (b0 + 60)), (1, .ref (b0 + 23)), (2, .ref (b0 + ru)), (3, .int v3), (4, .int v4), (5, .int v5)] [] := by
  unfold fX2_playR_0 at hf
  refine g_iconst hC (v := 0) dX2_play_0 ic_0 ?_
  refine g_istore hC (i := 6) [(6, .int 0), (0, .ref (b0 + 60)), (1, .ref (b0 + 23)), (2, .ref (b0 + ru)), (3, .int v3), (4, .int v4), (5, .int v5)] dX2_play_1 (by decide) rfl ?_
  exact g_sub [1, 2, 3, 4, 5, 6, 0] rfl (wX2_playR_3 hL hk_ru hn_ru hk_ru_1 hN hM hC  hret  5000 v3 v4 v5 0 x33 x61 x62 x63 x64 x65 x66 yruz2 y34 hf)

def fX2_playR  (Lru : Nat) (xruz1 : Nat → Int32) (x17 : Nat → Int32) (x18 : Nat → Int32) (x23 : Nat → Int32) (x24 : Nat → Int32) (x25 : Nat → Int32) (x26 : Nat → Int32)  (v3 : Int32) (v4 : Int32) (v5 : Int32) (x33 : Nat → Int32) (x61 : Nat → Int32) (x62 : Nat → Int32) (x63 : Nat → Int32) (x64 : Nat → Int32) (x65 : Nat → Int32) (x66 : Nat → Int32) (yruz2 : Nat → Int64) (y34 : Nat → Int64) : Option ((Nat → Int32) × (Nat → Int32) × (Nat → Int32) × (Nat → Int32) × (Nat → Int32) × (Nat → Int32) × (Nat → Int32) × (Nat → Int64) × (Nat → Int64)) := fX2_playR_0 Lru xruz1 x17 x18 x23 x24 x25 x26 v3 v4 v5 x33 x61 x62 x63 x64 x65 x66 yruz2 y34

set_option maxHeartbeats 4000000 in
set_option maxRecDepth 100000 in
theorem c_X2_playR (l : Launch) {b0 : Nat} {D : GD} {n : Nat} {κ : QT} {X0 : XT} {Y0 : YT} {Z : ZT} {ru : Nat} {Lru : Nat} (hL : LY n κ) (hk_ru : κ ru = (4, 0)) (hn_ru : ru < n) (hk_ru_1 : κ (ru + 1) = (14, Lru)) (hN : ([ru + 1, 17, 18, 23, 24, 25, 26, 33, 61, 62, 63, 64, 65, 66] : List Nat).Nodup) (hM : ([ru + 2, 34] : List Nat).Nodup) {xruz1 : Nat → Int32} {x17 : Nat → Int32} {x18 : Nat → Int32} {x23 : Nat → Int32} {x24 : Nat → Int32} {x25 : Nat → Int32} {x26 : Nat → Int32} {x33 : Nat → Int32} {x61 : Nat → Int32} {x62 : Nat → Int32} {x63 : Nat → Int32} {x64 : Nat → Int32} {x65 : Nat → Int32} {x66 : Nat → Int32} {yruz2 : Nat → Int64} {y34 : Nat → Int64} (hx : ([ru + 1, 17, 18, 23, 24, 25, 26, 33, 61, 62, 63, 64, 65, 66] : List Nat).map X0 = [xruz1, x17, x18, x23, x24, x25, x26, x33, x61, x62, x63, x64, x65, x66]) (hy : ([ru + 2, 34] : List Nat).map Y0 = [yruz2, y34]) {v3 : Int32} {v4 : Int32} {v5 : Int32} {rx33 : (Nat → Int32)} {rx61 : (Nat → Int32)} {rx62 : (Nat → Int32)} {rx63 : (Nat → Int32)} {rx64 : (Nat → Int32)} {rx65 : (Nat → Int32)} {rx66 : (Nat → Int32)} {ryruz2 : (Nat → Int64)} {ry34 : (Nat → Int64)} (hf : fX2_playR Lru xruz1 x17 x18 x23 x24 x25 x26 v3 v4 v5 x33 x61 x62 x63 x64 x65 x66 yruz2 y34 = some (rx33, rx61, rx62, rx63, rx64, rx65, rx66, ryruz2, ry34)) : gMv l yX2_play cX2_play 9 none 6 162 0 0 b0 D [.ref (b0 + 60), .ref (b0 + 23), .ref (b0 + ru), .int v3, .int v4, .int v5] (n, κ, X0, Y0, Z) (n, κ, ov X0 [ru + 1, 17, 18, 23, 24, 25, 26, 33, 61, 62, 63, 64, 65, 66] [xruz1, x17, x18, x23, x24, x25, x26, rx33, rx61, rx62, rx63, rx64, rx65, rx66], ov Y0 [ru + 2, 34] [ryruz2, ry34], Z) := by
  refine g_metv (own := RX2) (by decide) rfl rfl (Nat.le_of_ble_eq_true rfl) ?_
  intro K hC hret
  have e := wX2_playR_0 hL hk_ru hn_ru hk_ru_1 hN hM hC  hret hf
  rw [ov_id' hx, ov_id' hy] at e
  exact g_sub [0, 1, 2, 3, 4, 5] rfl e

-- X2_play
def fX2_playN_3b   (x17 : Nat → Int32) (x18 : Nat → Int32) (x23 : Nat → Int32) (x24 : Nat → Int32) (x25 : Nat → Int32) (x26 : Nat → Int32)  (k3 : Int32 → Int32 → Int32 → Int32 → (Nat → Int32) → (Nat → Int32) → (Nat → Int32) → (Nat → Int32) → (Nat → Int32) → (Nat → Int32) → (Nat → Int32) → Option ((Nat → Int32) × (Nat → Int32) × (Nat → Int32) × (Nat → Int32) × (Nat → Int32) × (Nat → Int32) × (Nat → Int32))) (v3 : Int32) (v4 : Int32) (v5 : Int32) (v6 : Int32) (x33 : (Nat → Int32)) (x61 : (Nat → Int32)) (x62 : (Nat → Int32)) (x63 : (Nat → Int32)) (x64 : (Nat → Int32)) (x65 : (Nat → Int32)) (x66 : (Nat → Int32)) : Option ((Nat → Int32) × (Nat → Int32) × (Nat → Int32) × (Nat → Int32) × (Nat → Int32) × (Nat → Int32) × (Nat → Int32)) := if 25 ≤ v6 then (some (x33, x61, x62, x63, x64, x65, x66)) else (bn (v6 / 5) fun t_1 => (bn (v6 - v6 / 5 * 5) fun t_2 => (bd4 (fX7_copy x23 x24 x25 x26 x61 x62 x63 x64) fun x61_3 x62_4 x63_5 x64_6 => (gd (inb v3 6) (gd (inb v4 6) (bd5 (fX1_passAllN x17 x18 v5 x61_3 x62_4 (upd (upd x63_5 v3.toNatClampNeg (2 * t_1)) v4.toNatClampNeg (2 * t_2)) x64_6 x33) fun x61_10 x62_11 x63_12 x64_13 x33_14 => (gd (inb v3 6) (gd (inb v6 25) (gd (inb v4 6) (gd (inb v6 25) (bn (v6 + 1) fun t_20 => (k3 v3 v4 v5 t_20 x33_14 x61_10 x62_11 x63_12 x64_13 (upd x65 v6.toNatClampNeg ((x62_11 v3.toNatClampNeg) + t_1)) (upd x66 v6.toNatClampNeg ((x62_11 v4.toNatClampNeg) + t_2))))))))))))))
def fX2_playN_3   (x17 : Nat → Int32) (x18 : Nat → Int32) (x23 : Nat → Int32) (x24 : Nat → Int32) (x25 : Nat → Int32) (x26 : Nat → Int32)  : Int32 → Int32 → Int32 → Int32 → (Nat → Int32) → (Nat → Int32) → (Nat → Int32) → (Nat → Int32) → (Nat → Int32) → (Nat → Int32) → (Nat → Int32) → Option ((Nat → Int32) × (Nat → Int32) × (Nat → Int32) × (Nat → Int32) × (Nat → Int32) × (Nat → Int32) × (Nat → Int32)) := lq11 (fX2_playN_3b x17 x18 x23 x24 x25 x26 ) 5000
set_option maxHeartbeats 4000000 in
set_option maxRecDepth 100000 in
theorem wX2_playN_3 {l : Launch} {b0 : Nat} {D : GD} {K : KT} {n : Nat} {κ : QT} {X0 : XT} {Y0 : YT} {Z : ZT} (hL : LY n κ) (hN : ([17, 18, 23, 24, 25, 26, 33, 61, 62, 63, 64, 65, 66] : List Nat).Nodup) (hM : ([] : List Nat).Nodup) (hC : gC l b0 D K RX2 cX2_play none 9 6 162 0 0) {x17 : Nat → Int32} {x18 : Nat → Int32} {x23 : Nat → Int32} {x24 : Nat → Int32} {x25 : Nat → Int32} {x26 : Nat → Int32} {rx33 : (Nat → Int32)} {rx61 : (Nat → Int32)} {rx62 : (Nat → Int32)} {rx63 : (Nat → Int32)} {rx64 : (Nat → Int32)} {rx65 : (Nat → Int32)} {rx66 : (Nat → Int32)} (hret : ∀ pc loc, decode cX2_play pc = .ok (.return_, 1) → gV l b0 D K (n, κ, ov X0 [17, 18, 23, 24, 25, 26, 33, 61, 62, 63, 64, 65, 66] [x17, x18, x23, x24, x25, x26, rx33, rx61, rx62, rx63, rx64, rx65, rx66], ov Y0 [] [], Z, 0, 0) pc loc []) : ∀ (j : Nat) (v3 : Int32) (v4 : Int32) (v5 : Int32) (v6 : Int32) (x33 : (Nat → Int32)) (x61 : (Nat → Int32)) (x62 : (Nat → Int32)) (x63 : (Nat → Int32)) (x64 : (Nat → Int32)) (x65 : (Nat → Int32)) (x66 : (Nat → Int32)), lq11 (fX2_playN_3b x17 x18 x23 x24 x25 x26 ) j v3 v4 v5 v6 x33 x61 x62 x63 x64 x65 x66 = some (rx33, rx61, rx62, rx63, rx64, rx65, rx66) → gV l b0 D K (n, κ, ov X0 [17, 18, 23, 24, 25, 26, 33, 61, 62, 63, 64, 65, 66] [x17, x18, x23, x24, x25, x26, x33, x61, x62, x63, x64, x65, x66], ov Y0 [] [], Z, 0, 0) 3 [(0, .ref (b0 + 60)), (1, .ref (b0 + 23)), (2, .null), (3, .int v3), (4, .int v4), (5, .int v5), (6, .int v6)] [] := by
  intro j
  induction j with
  | zero => intro v3 v4 v5 v6 x33 x61 x62 x63 x64 x65 x66 hf; cases hf
  | succ j hk3 =>
    intro v3 v4 v5 v6 x33 x61 x62 x63 x64 x65 x66 hf
    replace hf : fX2_playN_3b x17 x18 x23 x24 x25 x26  (lq11 (fX2_playN_3b x17 x18 x23 x24 x25 x26 ) j) v3 v4 v5 v6 x33 x61 x62 x63 x64 x65 x66 = some (rx33, rx61, rx62, rx63, rx64, rx65, rx66) := hf
    unfold fX2_playN_3b at hf
    refine g_iload hC 6 dX2_play_3 rfl ?_
    refine g_bipush hC (v := 25) dX2_play_5 bp_25 ?_
    refine g_icmp_ge hC 116 dX2_play_7 (by decide) (fun hc => ?_) (fun hc => ?_)
    · replace hf := ifT hf hc
      obtain ⟨rfl, rfl, rfl, rfl, rfl, rfl, rfl⟩ := sm7E hf
      exact hret _ _ dX2_play_116
    · replace hf := ifF hf hc
      refine g_iload hC 6 dX2_play_10 rfl ?_
      refine g_iconst hC (v := 5) dX2_play_12 ic_5 ?_
      refine g_idiv hC dX2_play_13 (by decide) ?_
      obtain ⟨t_1, et_1, hf⟩ := bnE hf
      refine g_topi et_1 ?_
      refine g_istore hC (i := 7) [(7, .int t_1), (0, .ref (b0 + 60)), (1, .ref (b0 + 23)), (2, .null), (3, .int v3), (4, .int v4), (5, .int v5), (6, .int v6)] dX2_play_14 (by decide) rfl ?_
      refine g_iload hC 7 dX2_play_16 rfl ?_
      refine g_iconst hC (v := 5) dX2_play_18 ic_5 ?_
      refine g_irem hC dX2_play_19 (by decide) ?_
      obtain ⟨t_2, et_2, hf⟩ := bnE hf
      refine g_topi et_2 ?_
      refine g_istore hC (i := 8) [(8, .int t_2), (7, .int t_1), (0, .ref (b0 + 60)), (1, .ref (b0 + 23)), (2, .null), (3, .int v3), (4, .int v4), (5, .int v5), (6, .int v6)] dX2_play_20 (by decide) rfl ?_
      refine g_aload_n hC 2 dX2_play_22 rfl rfl ?_
      refine gt_X2_10 hC (a := 60) (kk_60 hL) (kn_60 hL) dX2_play_23 ?_
      refine g_ref (b := 61) rfl ?_
      refine g_aload_n hC 3 dX2_play_26 rfl rfl ?_
      obtain ⟨x61_3, x62_4, x63_5, x64_6, q_7, hf⟩ := bd4E hf
      refine g_callV_v (a := 61) hC (X' := ov X0 [17, 18, 23, 24, 25, 26, 33, 61, 62, 63, 64, 65, 66] [x17, x18, x23, x24, x25, x26, x33, x61_3, x62_4, x63_5, x64_6, x65, x66]) (Y' := ov Y0 [] []) (As := [.ref (b0 + 23)]) (gMv_eq (c_X7_copy l hL (kk_61 hL) (kn_61 hL) (kk_23 hL) (kn_23 hL) (nd_sub hN [7, 8, 9, 10, 2, 3, 4, 5] (by decide) (by rfl)) (nd_sub hM [] (by decide) (by rfl)) (ov_map hN [7, 8, 9, 10, 2, 3, 4, 5] (by rfl) (by rfl)) (ov_map hM [] (by rfl) (by rfl)) q_7) (ov_ovE hN (by rfl) [7, 8, 9, 10, 2, 3, 4, 5] [0, 1, 6, 11, 12] (by rfl) (by rfl) [x17, x18, x33, x65, x66] (by rfl) (by rfl) (by rfl) 13 (by rfl) (by decide)) (ov_ovE hM (by rfl) [] [] (by rfl) (by rfl) [] (by rfl) (by rfl) (by rfl) 0 (by rfl) (by decide))) tw_707 tw_1063 tw_120 tw_705 tw_706 (ci := 7) rfl (by decide) (kk_61 hL) (kn_61 hL) pd_X7_copy (by decide) (by decide) rfl rfl (Nat.le_of_ble_eq_true rfl) rfl dX2_play_27 ?_
      refine g_aload_n hC 2 dX2_play_30 rfl rfl ?_
      refine gt_X2_10 hC (a := 60) (kk_60 hL) (kn_60 hL) dX2_play_31 ?_
      refine g_ref (b := 61) rfl ?_
      refine gt_X2_31 hC (a := 61) (kk_61 hL) (kn_61 hL) dX2_play_34 ?_
      refine g_ref (b := 63) rfl ?_
      refine g_iload_n hC 5 dX2_play_37 rfl rfl ?_
      refine g_iconst hC (v := 2) dX2_play_38 ic_2 ?_
      refine g_iload hC 1 dX2_play_39 rfl ?_
      refine g_imul hC dX2_play_41 ?_
      obtain ⟨h_8, hf⟩ := gdE hf
      refine g_iast hC (x := x63_5) (kk_63 hL) (kn_63 hL) (ov_get hN 9 rfl rfl) (inb_in h_8) (ov_set hN (by rfl) 9 (by rfl)) dX2_play_42 ?_
      show gV l b0 D K (n, κ, ov X0 [17, 18, 23, 24, 25, 26, 33, 61, 62, 63, 64, 65, 66] [x17, x18, x23, x24, x25, x26, x33, x61_3, x62_4, (upd x63_5 v3.toNatClampNeg (2 * t_1)), x64_6, x65, x66], ov Y0 [] [], Z, 0, 0) 43 [(8, .int t_2), (7, .int t_1), (0, .ref (b0 + 60)), (1, .ref (b0 + 23)), (2, .null), (3, .int v3), (4, .int v4), (5, .int v5), (6, .int v6)] []
      refine g_aload_n hC 2 dX2_play_43 rfl rfl ?_
      refine gt_X2_10 hC (a := 60) (kk_60 hL) (kn_60 hL) dX2_play_44 ?_
      refine g_ref (b := 61) rfl ?_
      refine gt_X2_31 hC (a := 61) (kk_61 hL) (kn_61 hL) dX2_play_47 ?_
      refine g_ref (b := 63) rfl ?_
      refine g_iload hC 6 dX2_play_50 rfl ?_
      refine g_iconst hC (v := 2) dX2_play_52 ic_2 ?_
      refine g_iload hC 0 dX2_play_53 rfl ?_
      refine g_imul hC dX2_play_55 ?_
      obtain ⟨h_9, hf⟩ := gdE hf
      refine g_iast hC (x := (upd x63_5 v3.toNatClampNeg (2 * t_1))) (kk_63 hL) (kn_63 hL) (ov_get hN 9 rfl rfl) (inb_in h_9) (ov_set hN (by rfl) 9 (by rfl)) dX2_play_56 ?_
      show gV l b0 D K (n, κ, ov X0 [17, 18, 23, 24, 25, 26, 33, 61, 62, 63, 64, 65, 66] [x17, x18, x23, x24, x25, x26, x33, x61_3, x62_4, (upd (upd x63_5 v3.toNatClampNeg (2 * t_1)) v4.toNatClampNeg (2 * t_2)), x64_6, x65, x66], ov Y0 [] [], Z, 0, 0) 57 [(8, .int t_2), (7, .int t_1), (0, .ref (b0 + 60)), (1, .ref (b0 + 23)), (2, .null), (3, .int v3), (4, .int v4), (5, .int v5), (6, .int v6)] []
      refine g_aload_n hC 2 dX2_play_57 rfl rfl ?_
      refine gt_X2_23 hC (a := 60) (kk_60 hL) (kn_60 hL) dX2_play_58 ?_
      refine g_ref (b := 32) rfl ?_
      refine g_aload_n hC 2 dX2_play_61 rfl rfl ?_
      refine gt_X2_10 hC (a := 60) (kk_60 hL) (kn_60 hL) dX2_play_62 ?_
      refine g_ref (b := 61) rfl ?_
      refine g_aload_nN hC 4 dX2_play_65 rfl rfl ?_
      refine g_iload hC 7 dX2_play_66 rfl ?_
      obtain ⟨x61_10, x62_11, x63_12, x64_13, x33_14, q_15, hf⟩ := bd5E hf
      refine g_callV_v (a := 32) hC (X' := ov X0 [17, 18, 23, 24, 25, 26, 33, 61, 62, 63, 64, 65, 66] [x17, x18, x23, x24, x25, x26, x33_14, x61_10, x62_11, x63_12, x64_13, x65, x66]) (Y' := ov Y0 [] []) (As := [.ref (b0 + 61), .null, .int v5]) (gMv_eq (c_X1_passAllN l hL (kk_61 hL) (kn_61 hL) (nd_sub hN [7, 8, 9, 10, 0, 1, 6] (by decide) (by rfl)) (nd_sub hM [] (by decide) (by rfl)) (ov_map hN [7, 8, 9, 10, 0, 1, 6] (by rfl) (by rfl)) (ov_map hM [] (by rfl) (by rfl)) q_15) (ov_ovE hN (by rfl) [7, 8, 9, 10, 0, 1, 6] [2, 3, 4, 5, 11, 12] (by rfl) (by rfl) [x23, x24, x25, x26, x65, x66] (by rfl) (by rfl) (by rfl) 13 (by rfl) (by decide)) (ov_ovE hM (by rfl) [] [] (by rfl) (by rfl) [] (by rfl) (by rfl) (by rfl) 0 (by rfl) (by decide))) tw_980 tw_1064 tw_123 tw_978 tw_979 (ci := 1) rfl (by decide) (kk_32 hL) (kn_32 hL) pd_X1_passAll (by decide) (by decide) rfl rfl (Nat.le_of_ble_eq_true rfl) rfl dX2_play_68 ?_
      refine g_aload_n hC 2 dX2_play_71 rfl rfl ?_
      refine gt_X2_16 hC (a := 60) (kk_60 hL) (kn_60 hL) dX2_play_72 ?_
      refine g_ref (b := 65) rfl ?_
      refine g_iload hC 8 dX2_play_75 rfl ?_
      refine g_aload_n hC 2 dX2_play_77 rfl rfl ?_
      refine gt_X2_10 hC (a := 60) (kk_60 hL) (kn_60 hL) dX2_play_78 ?_
      refine g_ref (b := 61) rfl ?_
      refine gt_X2_40 hC (a := 61) (kk_61 hL) (kn_61 hL) dX2_play_81 ?_
      refine g_ref (b := 62) rfl ?_
      refine g_iload_n hC 5 dX2_play_84 rfl rfl ?_
      obtain ⟨h_16, hf⟩ := gdE hf
      refine g_iald hC (x := x62_11) (kk_62 hL) (kn_62 hL) (ov_get hN 8 rfl rfl) (inb_in h_16) dX2_play_85 ?_
      refine g_iload hC 1 dX2_play_86 rfl ?_
      refine g_iadd hC dX2_play_88 ?_
      obtain ⟨h_17, hf⟩ := gdE hf
      refine g_iast hC (x := x65) (kk_65 hL) (kn_65 hL) (ov_get hN 11 rfl rfl) (inb_in h_17) (ov_set hN (by rfl) 11 (by rfl)) dX2_play_89 ?_
      show gV l b0 D K (n, κ, ov X0 [17, 18, 23, 24, 25, 26, 33, 61, 62, 63, 64, 65, 66] [x17, x18, x23, x24, x25, x26, x33_14, x61_10, x62_11, x63_12, x64_13, (upd x65 v6.toNatClampNeg ((x62_11 v3.toNatClampNeg) + t_1)), x66], ov Y0 [] [], Z, 0, 0) 90 [(8, .int t_2), (7, .int t_1), (0, .ref (b0 + 60)), (1, .ref (b0 + 23)), (2, .null), (3, .int v3), (4, .int v4), (5, .int v5), (6, .int v6)] []
      refine g_aload_n hC 2 dX2_play_90 rfl rfl ?_
      refine gt_X2_20 hC (a := 60) (kk_60 hL) (kn_60 hL) dX2_play_91 ?_
      refine g_ref (b := 66) rfl ?_
      refine g_iload hC 8 dX2_play_94 rfl ?_
      refine g_aload_n hC 2 dX2_play_96 rfl rfl ?_
      refine gt_X2_10 hC (a := 60) (kk_60 hL) (kn_60 hL) dX2_play_97 ?_
      refine g_ref (b := 61) rfl ?_
      refine gt_X2_40 hC (a := 61) (kk_61 hL) (kn_61 hL) dX2_play_100 ?_
      refine g_ref (b := 62) rfl ?_
      refine g_iload hC 6 dX2_play_103 rfl ?_
      obtain ⟨h_18, hf⟩ := gdE hf
      refine g_iald hC (x := x62_11) (kk_62 hL) (kn_62 hL) (ov_get hN 8 rfl rfl) (inb_in h_18) dX2_play_105 ?_
      refine g_iload hC 0 dX2_play_106 rfl ?_
      refine g_iadd hC dX2_play_108 ?_
      obtain ⟨h_19, hf⟩ := gdE hf
      refine g_iast hC (x := x66) (kk_66 hL) (kn_66 hL) (ov_get hN 12 rfl rfl) (inb_in h_19) (ov_set hN (by rfl) 12 (by rfl)) dX2_play_109 ?_
      show gV l b0 D K (n, κ, ov X0 [17, 18, 23, 24, 25, 26, 33, 61, 62, 63, 64, 65, 66] [x17, x18, x23, x24, x25, x26, x33_14, x61_10, x62_11, x63_12, x64_13, (upd x65 v6.toNatClampNeg ((x62_11 v3.toNatClampNeg) + t_1)), (upd x66 v6.toNatClampNeg ((x62_11 v4.toNatClampNeg) + t_2))], ov Y0 [] [], Z, 0, 0) 110 [(8, .int t_2), (7, .int t_1), (0, .ref (b0 + 60)), (1, .ref (b0 + 23)), (2, .null), (3, .int v3), (4, .int v4), (5, .int v5), (6, .int v6)] []
      obtain ⟨t_20, et_20, hf⟩ := bnE hf
      refine g_iinc hC (i := 6) (v := t_20) [(6, .int t_20), (8, .int t_2), (7, .int t_1), (0, .ref (b0 + 60)), (1, .ref (b0 + 23)), (2, .null), (3, .int v3), (4, .int v4), (5, .int v5)] dX2_play_110 (q := 8) rfl ((congrArg (HAdd.hAdd v6) ic_1).trans et_20.symm) (by decide) rfl ?_
      refine g_goto hC 3 dX2_play_113 (by decide) ?_
      exact g_sub [3, 4, 5, 6, 7, 8, 0] rfl (hk3 v3 v4 v5 t_20 x33_14 x61_10 x62_11 x63_12 x64_13 (upd x65 v6.toNatClampNeg ((x62_11 v3.toNatClampNeg) + t_1)) (upd x66 v6.toNatClampNeg ((x62_11 v4.toNatClampNeg) + t_2)) hf)

def fX2_playN_0   (x17 : Nat → Int32) (x18 : Nat → Int32) (x23 : Nat → Int32) (x24 : Nat → Int32) (x25 : Nat → Int32) (x26 : Nat → Int32)  (v3 : Int32) (v4 : Int32) (v5 : Int32) (x33 : (Nat → Int32)) (x61 : (Nat → Int32)) (x62 : (Nat → Int32)) (x63 : (Nat → Int32)) (x64 : (Nat → Int32)) (x65 : (Nat → Int32)) (x66 : (Nat → Int32)) : Option ((Nat → Int32) × (Nat → Int32) × (Nat → Int32) × (Nat → Int32) × (Nat → Int32) × (Nat → Int32) × (Nat → Int32)) := fX2_playN_3 x17 x18 x23 x24 x25 x26  v3 v4 v5 0 x33 x61 x62 x63 x64 x65 x66
set_option maxHeartbeats 4000000 in
set_option maxRecDepth 100000 in
theorem wX2_playN_0 {l : Launch} {b0 : Nat} {D : GD} {K : KT} {n : Nat} {κ : QT} {X0 : XT} {Y0 : YT} {Z : ZT} (hL : LY n κ) (hN : ([17, 18, 23, 24, 25, 26, 33, 61, 62, 63, 64, 65, 66] : List Nat).Nodup) (hM : ([] : List Nat).Nodup) (hC : gC l b0 D K RX2 cX2_play none 9 6 162 0 0) {x17 : Nat → Int32} {x18 : Nat → Int32} {x23 : Nat → Int32} {x24 : Nat → Int32} {x25 : Nat → Int32} {x26 : Nat → Int32} {rx33 : (Nat → Int32)} {rx61 : (Nat → Int32)} {rx62 : (Nat → Int32)} {rx63 : (Nat → Int32)} {rx64 : (Nat → Int32)} {rx65 : (Nat → Int32)} {rx66 : (Nat → Int32)} (hret : ∀ pc loc, decode cX2_play pc = .ok (.return_, 1) → gV l b0 D K (n, κ, ov X0 [17, 18, 23, 24, 25, 26, 33, 61, 62, 63, 64, 65, 66] [x17, x18, x23, x24, x25, x26, rx33, rx61, rx62, rx63, rx64, rx65, rx66], ov Y0 [] [], Z, 0, 0) pc loc []) {v3 : Int32} {v4 : Int32} {v5 : Int32} {x33 : (Nat → Int32)} {x61 : (Nat → Int32)} {x62 : (Nat → Int32)} {x63 : (Nat → Int32)} {x64 : (Nat → Int32)} {x65 : (Nat → Int32)} {x66 : (Nat → Int32)} (hf : fX2_playN_0 x17 x18 x23 x24 x25 x26  v3 v4 v5 x33 x61 x62 x63 x64 x65 x66 = some (rx33, rx61, rx62, rx63, rx64, rx65, rx66)) : gV l b0 D K (n, κ, ov X0 [17, 18, 23, 24, 25, 26, 33, 61, 62, 63, 64, 65, 66] [x17, x18, x23, x24, x25, x26, x33, x61, x62, x63, x64, x65, x66], ov Y0 [] [], Z, 0, 0) 0 [(0, .ref (b0 + 60)), (1, .ref (b0 + 23)), (2, .null), (3, .int v3), (4, .int v4), (5, .int v5)] [] := by
  unfold fX2_playN_0 at hf
  refine g_iconst hC (v := 0) dX2_play_0 ic_0 ?_
  refine g_istore hC (i := 6) [(6, .int 0), (0, .ref (b0 + 60)), (1, .ref (b0 + 23)), (2, .null), (3, .int v3), (4, .int v4), (5, .int v5)] dX2_play_1 (by decide) rfl ?_
  exact g_sub [1, 2, 3, 4, 5, 6, 0] rfl (wX2_playN_3 hL hN hM hC  hret  5000 v3 v4 v5 0 x33 x61 x62 x63 x64 x65 x66 hf)

def fX2_playN   (x17 : Nat → Int32) (x18 : Nat → Int32) (x23 : Nat → Int32) (x24 : Nat → Int32) (x25 : Nat → Int32) (x26 : Nat → Int32)  (v3 : Int32) (v4 : Int32) (v5 : Int32) (x33 : Nat → Int32) (x61 : Nat → Int32) (x62 : Nat → Int32) (x63 : Nat → Int32) (x64 : Nat → Int32) (x65 : Nat → Int32) (x66 : Nat → Int32)  : Option ((Nat → Int32) × (Nat → Int32) × (Nat → Int32) × (Nat → Int32) × (Nat → Int32) × (Nat → Int32) × (Nat → Int32)) := fX2_playN_0 x17 x18 x23 x24 x25 x26 v3 v4 v5 x33 x61 x62 x63 x64 x65 x66

set_option maxHeartbeats 4000000 in
set_option maxRecDepth 100000 in
theorem c_X2_playN (l : Launch) {b0 : Nat} {D : GD} {n : Nat} {κ : QT} {X0 : XT} {Y0 : YT} {Z : ZT} (hL : LY n κ) {x17 : Nat → Int32} {x18 : Nat → Int32} {x23 : Nat → Int32} {x24 : Nat → Int32} {x25 : Nat → Int32} {x26 : Nat → Int32} {x33 : Nat → Int32} {x61 : Nat → Int32} {x62 : Nat → Int32} {x63 : Nat → Int32} {x64 : Nat → Int32} {x65 : Nat → Int32} {x66 : Nat → Int32} (hx : ([17, 18, 23, 24, 25, 26, 33, 61, 62, 63, 64, 65, 66] : List Nat).map X0 = [x17, x18, x23, x24, x25, x26, x33, x61, x62, x63, x64, x65, x66]) (hy : ([] : List Nat).map Y0 = []) {v3 : Int32} {v4 : Int32} {v5 : Int32} {rx33 : (Nat → Int32)} {rx61 : (Nat → Int32)} {rx62 : (Nat → Int32)} {rx63 : (Nat → Int32)} {rx64 : (Nat → Int32)} {rx65 : (Nat → Int32)} {rx66 : (Nat → Int32)} (hf : fX2_playN x17 x18 x23 x24 x25 x26 v3 v4 v5 x33 x61 x62 x63 x64 x65 x66 = some (rx33, rx61, rx62, rx63, rx64, rx65, rx66)) : gMv l yX2_play cX2_play 9 none 6 162 0 0 b0 D [.ref (b0 + 60), .ref (b0 + 23), .null, .int v3, .int v4, .int v5] (n, κ, X0, Y0, Z) (n, κ, ov X0 [17, 18, 23, 24, 25, 26, 33, 61, 62, 63, 64, 65, 66] [x17, x18, x23, x24, x25, x26, rx33, rx61, rx62, rx63, rx64, rx65, rx66], ov Y0 [] [], Z) := by
  have hN : ([17, 18, 23, 24, 25, 26, 33, 61, 62, 63, 64, 65, 66] : List Nat).Nodup := by decide
  have hM : ([] : List Nat).Nodup := by decide
  refine g_metv (own := RX2) (by decide) rfl rfl (Nat.le_of_ble_eq_true rfl) ?_
  intro K hC hret
  have e := wX2_playN_0 hL hN hM hC  hret hf
  rw [ov_id' hx, ov_id' hy] at e
  exact g_sub [0, 1, 2, 3, 4, 5] rfl e

-- X0_mostAlike
def fX0_mostAlike_56   (x67 : Nat → Int32) (x73 : Nat → Int32)  (k4 : Int32 → Int32 → Int32 → Option (Int32)) (k18 : Int32 → Int32 → Int32 → Int32 → Int32 → Option (Int32)) (v1 : Int32) (v2 : Int32) (v3 : Int32) (v4 : Int32) (v5 : Int32) : Option (Int32) := bn (v5 + 1) fun t_1 => (k18 v1 v2 v3 v4 t_1)
set_option maxHeartbeats 4000000 in
set_option maxRecDepth 100000 in
theorem wX0_mostAlike_56 {l : Launch} {b0 : Nat} {D : GD} {K : KT} {n : Nat} {κ : QT} {X0 : XT} {Y0 : YT} {Z : ZT} (hL : LY n κ) (hN : ([67, 73] : List Nat).Nodup) (hM : ([] : List Nat).Nodup) (hC : gC l b0 D K RX0 cX0_mostAlike (some FieldType.int) 6 1 40 0 0) {x67 : Nat → Int32} {x73 : Nat → Int32} {r : Int32} (hret : ∀ pc loc, narrow .int (.int r) = .int r → decode cX0_mostAlike pc = .ok (.ireturn, 1) → gV l b0 D K (n, κ, ov X0 [67, 73] [x67, x73], ov Y0 [] [], Z, 0, 0) pc loc [.int r]) {k4 : Int32 → Int32 → Int32 → Option (Int32)} (hk4 : ∀ (v1 : Int32) (v2 : Int32) (v3 : Int32), k4 v1 v2 v3 = some r → gV l b0 D K (n, κ, ov X0 [67, 73] [x67, x73], ov Y0 [] [], Z, 0, 0) 4 [(0, .ref (b0 + 67)), (1, .int v1), (2, .int v2), (3, .int v3)] []) {k18 : Int32 → Int32 → Int32 → Int32 → Int32 → Option (Int32)} (hk18 : ∀ (v1 : Int32) (v2 : Int32) (v3 : Int32) (v4 : Int32) (v5 : Int32), k18 v1 v2 v3 v4 v5 = some r → gV l b0 D K (n, κ, ov X0 [67, 73] [x67, x73], ov Y0 [] [], Z, 0, 0) 18 [(0, .ref (b0 + 67)), (1, .int v1), (2, .int v2), (3, .int v3), (4, .int v4), (5, .int v5)] []) {v1 : Int32} {v2 : Int32} {v3 : Int32} {v4 : Int32} {v5 : Int32} (hf : fX0_mostAlike_56 x67 x73 k4 k18 v1 v2 v3 v4 v5 = some r) : gV l b0 D K (n, κ, ov X0 [67, 73] [x67, x73], ov Y0 [] [], Z, 0, 0) 56 [(0, .ref (b0 + 67)), (1, .int v1), (2, .int v2), (3, .int v3), (4, .int v4), (5, .int v5)] [] := by
  unfold fX0_mostAlike_56 at hf
  obtain ⟨t_1, et_1, hf⟩ := bnE hf
  refine g_iinc hC (i := 5) (v := t_1) [(5, .int t_1), (0, .ref (b0 + 67)), (1, .int v1), (2, .int v2), (3, .int v3), (4, .int v4)] dX0_mostAlike_56 (q := 5) rfl ((congrArg (HAdd.hAdd v5) ic_1).trans et_1.symm) (by decide) rfl ?_
  refine g_goto hC 18 dX0_mostAlike_59 (by decide) ?_
  exact g_sub [1, 2, 3, 4, 5, 0] rfl (hk18 v1 v2 v3 v4 t_1 hf)

def fX0_mostAlike_18b   (x67 : Nat → Int32) (x73 : Nat → Int32)  (k4 : Int32 → Int32 → Int32 → Option (Int32)) (k18 : Int32 → Int32 → Int32 → Int32 → Int32 → Option (Int32)) (v1 : Int32) (v2 : Int32) (v3 : Int32) (v4 : Int32) (v5 : Int32) : Option (Int32) := if (x67 3) ≤ v5 then (bn ((if v2 < v4 then v4 else v2)) fun t_1 => (bn (v3 + 1) fun t_2 => (k4 v1 t_1 t_2))) else (gd (inb ((v3 * 6) + v1) 42) (gd (inb ((v5 * 6) + v1) 42) (if (x73 ((v3 * 6) + v1).toNatClampNeg) = (x73 ((v5 * 6) + v1).toNatClampNeg) then (bn (v4 + 1) fun t_5 => (fX0_mostAlike_56 x67 x73 k4 k18 v1 v2 v3 t_5 v5)) else (fX0_mostAlike_56 x67 x73 k4 k18 v1 v2 v3 v4 v5))))
def fX0_mostAlike_18   (x67 : Nat → Int32) (x73 : Nat → Int32)  (k4 : Int32 → Int32 → Int32 → Option (Int32)) : Int32 → Int32 → Int32 → Int32 → Int32 → Option (Int32) := lq5 (fX0_mostAlike_18b x67 x73 k4) 5000
set_option maxHeartbeats 4000000 in
set_option maxRecDepth 100000 in
theorem wX0_mostAlike_18 {l : Launch} {b0 : Nat} {D : GD} {K : KT} {n : Nat} {κ : QT} {X0 : XT} {Y0 : YT} {Z : ZT} (hL : LY n κ) (hN : ([67, 73] : List Nat).Nodup) (hM : ([] : List Nat).Nodup) (hC : gC l b0 D K RX0 cX0_mostAlike (some FieldType.int) 6 1 40 0 0) {x67 : Nat → Int32} {x73 : Nat → Int32} {r : Int32} (hret : ∀ pc loc, narrow .int (.int r) = .int r → decode cX0_mostAlike pc = .ok (.ireturn, 1) → gV l b0 D K (n, κ, ov X0 [67, 73] [x67, x73], ov Y0 [] [], Z, 0, 0) pc loc [.int r]) {k4 : Int32 → Int32 → Int32 → Option (Int32)} (hk4 : ∀ (v1 : Int32) (v2 : Int32) (v3 : Int32), k4 v1 v2 v3 = some r → gV l b0 D K (n, κ, ov X0 [67, 73] [x67, x73], ov Y0 [] [], Z, 0, 0) 4 [(0, .ref (b0 + 67)), (1, .int v1), (2, .int v2), (3, .int v3)] []) : ∀ (j : Nat) (v1 : Int32) (v2 : Int32) (v3 : Int32) (v4 : Int32) (v5 : Int32), lq5 (fX0_mostAlike_18b x67 x73 k4) j v1 v2 v3 v4 v5 = some r → gV l b0 D K (n, κ, ov X0 [67, 73] [x67, x73], ov Y0 [] [], Z, 0, 0) 18 [(0, .ref (b0 + 67)), (1, .int v1), (2, .int v2), (3, .int v3), (4, .int v4), (5, .int v5)] [] := by
  intro j
  induction j with
  | zero => intro v1 v2 v3 v4 v5 hf; cases hf
  | succ j hk18 =>
    intro v1 v2 v3 v4 v5 hf
    replace hf : fX0_mostAlike_18b x67 x73 k4 (lq5 (fX0_mostAlike_18b x67 x73 k4) j) v1 v2 v3 v4 v5 = some r := hf
    unfold fX0_mostAlike_18b at hf
    refine g_iload hC 5 dX0_mostAlike_18 rfl ?_
    refine g_aload_n hC 0 dX0_mostAlike_20 rfl rfl ?_
    refine gt_X0_29 hC (x := x67) (kk_67 hL) (kn_67 hL) (ov_get hN 0 rfl rfl) dX0_mostAlike_21 ?_
    refine g_icmp_ge hC 62 dX0_mostAlike_24 (by decide) (fun hc => ?_) (fun hc => ?_)
    · replace hf := ifT hf hc
      refine g_iload_n hC 2 dX0_mostAlike_62 rfl rfl ?_
      refine g_iload hC 4 dX0_mostAlike_63 rfl ?_
      refine g_mmax hC tw_1106 (by decide) (Nat.le_of_ble_eq_true rfl) dX0_mostAlike_65 ?_
      obtain ⟨t_1, et_1, hf⟩ := bnE hf
      refine g_topi et_1 ?_
      refine g_istore_n hC (i := 2) [(2, .int t_1), (0, .ref (b0 + 67)), (1, .int v1), (3, .int v3), (4, .int v4), (5, .int v5)] rfl dX0_mostAlike_68 (by decide) rfl ?_
      obtain ⟨t_2, et_2, hf⟩ := bnE hf
      refine g_iinc hC (i := 3) (v := t_2) [(3, .int t_2), (2, .int t_1), (0, .ref (b0 + 67)), (1, .int v1), (4, .int v4), (5, .int v5)] dX0_mostAlike_69 (q := 3) rfl ((congrArg (HAdd.hAdd v3) ic_1).trans et_2.symm) (by decide) rfl ?_
      refine g_goto hC 4 dX0_mostAlike_72 (by decide) ?_
      exact g_sub [2, 3, 1, 0] rfl (hk4 v1 t_1 t_2 hf)
    · replace hf := ifF hf hc
      refine g_aload_n hC 0 dX0_mostAlike_27 rfl rfl ?_
      refine gt_X0_22 hC (a := 67) (kk_67 hL) (kn_67 hL) dX0_mostAlike_28 ?_
      refine g_ref (b := 73) rfl ?_
      refine g_iload_n hC 3 dX0_mostAlike_31 rfl rfl ?_
      refine g_bipush hC (v := 6) dX0_mostAlike_32 bp_6 ?_
      refine g_imul hC dX0_mostAlike_34 ?_
      refine g_iload_n hC 1 dX0_mostAlike_35 rfl rfl ?_
      refine g_iadd hC dX0_mostAlike_36 ?_
      obtain ⟨h_3, hf⟩ := gdE hf
      refine g_iald hC (x := x73) (kk_73 hL) (kn_73 hL) (ov_get hN 1 rfl rfl) (inb_in h_3) dX0_mostAlike_37 ?_
      refine g_aload_n hC 0 dX0_mostAlike_38 rfl rfl ?_
      refine gt_X0_22 hC (a := 67) (kk_67 hL) (kn_67 hL) dX0_mostAlike_39 ?_
      refine g_ref (b := 73) rfl ?_
      refine g_iload hC 5 dX0_mostAlike_42 rfl ?_
      refine g_bipush hC (v := 6) dX0_mostAlike_44 bp_6 ?_
      refine g_imul hC dX0_mostAlike_46 ?_
      refine g_iload_n hC 1 dX0_mostAlike_47 rfl rfl ?_
      refine g_iadd hC dX0_mostAlike_48 ?_
      obtain ⟨h_4, hf⟩ := gdE hf
      refine g_iald hC (x := x73) (kk_73 hL) (kn_73 hL) (ov_get hN 1 rfl rfl) (inb_in h_4) dX0_mostAlike_49 ?_
      refine g_icmp_ne hC 56 dX0_mostAlike_50 (by decide) (fun hc => ?_) (fun hc => ?_)
      · replace hf := ifF hf hc
        exact g_sub [0, 1, 2, 3, 4, 5] rfl (wX0_mostAlike_56 hL hN hM hC  hret hk4 hk18 hf)
      · replace hf := ifT hf hc
        obtain ⟨t_5, et_5, hf⟩ := bnE hf
        refine g_iinc hC (i := 4) (v := t_5) [(4, .int t_5), (0, .ref (b0 + 67)), (1, .int v1), (2, .int v2), (3, .int v3), (5, .int v5)] dX0_mostAlike_53 (q := 4) rfl ((congrArg (HAdd.hAdd v4) ic_1).trans et_5.symm) (by decide) rfl ?_
        exact g_sub [1, 2, 3, 4, 0, 5] rfl (wX0_mostAlike_56 hL hN hM hC  hret hk4 hk18 hf)

def fX0_mostAlike_4b   (x67 : Nat → Int32) (x73 : Nat → Int32)  (k4 : Int32 → Int32 → Int32 → Option (Int32)) (v1 : Int32) (v2 : Int32) (v3 : Int32) : Option (Int32) := if (x67 3) ≤ v3 then (some v2) else (fX0_mostAlike_18 x67 x73 k4 v1 v2 v3 0 0)
def fX0_mostAlike_4   (x67 : Nat → Int32) (x73 : Nat → Int32)  : Int32 → Int32 → Int32 → Option (Int32) := lq3 (fX0_mostAlike_4b x67 x73 ) 5000
set_option maxHeartbeats 4000000 in
set_option maxRecDepth 100000 in
theorem wX0_mostAlike_4 {l : Launch} {b0 : Nat} {D : GD} {K : KT} {n : Nat} {κ : QT} {X0 : XT} {Y0 : YT} {Z : ZT} (hL : LY n κ) (hN : ([67, 73] : List Nat).Nodup) (hM : ([] : List Nat).Nodup) (hC : gC l b0 D K RX0 cX0_mostAlike (some FieldType.int) 6 1 40 0 0) {x67 : Nat → Int32} {x73 : Nat → Int32} {r : Int32} (hret : ∀ pc loc, narrow .int (.int r) = .int r → decode cX0_mostAlike pc = .ok (.ireturn, 1) → gV l b0 D K (n, κ, ov X0 [67, 73] [x67, x73], ov Y0 [] [], Z, 0, 0) pc loc [.int r]) : ∀ (j : Nat) (v1 : Int32) (v2 : Int32) (v3 : Int32), lq3 (fX0_mostAlike_4b x67 x73 ) j v1 v2 v3 = some r → gV l b0 D K (n, κ, ov X0 [67, 73] [x67, x73], ov Y0 [] [], Z, 0, 0) 4 [(0, .ref (b0 + 67)), (1, .int v1), (2, .int v2), (3, .int v3)] [] := by
  intro j
  induction j with
  | zero => intro v1 v2 v3 hf; cases hf
  | succ j hk4 =>
    intro v1 v2 v3 hf
    replace hf : fX0_mostAlike_4b x67 x73  (lq3 (fX0_mostAlike_4b x67 x73 ) j) v1 v2 v3 = some r := hf
    unfold fX0_mostAlike_4b at hf
    refine g_iload_n hC 3 dX0_mostAlike_4 rfl rfl ?_
    refine g_aload_n hC 0 dX0_mostAlike_5 rfl rfl ?_
    refine gt_X0_29 hC (x := x67) (kk_67 hL) (kn_67 hL) (ov_get hN 0 rfl rfl) dX0_mostAlike_6 ?_
    refine g_icmp_ge hC 75 dX0_mostAlike_9 (by decide) (fun hc => ?_) (fun hc => ?_)
    · replace hf := ifT hf hc
      refine g_iload_n hC 2 dX0_mostAlike_75 rfl rfl ?_
      obtain rfl := sm1E hf
      exact hret _ _ rfl dX0_mostAlike_76
    · replace hf := ifF hf hc
      refine g_iconst hC (v := 0) dX0_mostAlike_12 ic_0 ?_
      refine g_istore hC (i := 4) [(4, .int 0), (0, .ref (b0 + 67)), (1, .int v1), (2, .int v2), (3, .int v3)] dX0_mostAlike_13 (by decide) rfl ?_
      refine g_iconst hC (v := 0) dX0_mostAlike_15 ic_0 ?_
      refine g_istore hC (i := 5) [(5, .int 0), (4, .int 0), (0, .ref (b0 + 67)), (1, .int v1), (2, .int v2), (3, .int v3)] dX0_mostAlike_16 (by decide) rfl ?_
      exact g_sub [2, 3, 4, 5, 1, 0] rfl (wX0_mostAlike_18 hL hN hM hC  hret hk4 5000 v1 v2 v3 0 0 hf)

def fX0_mostAlike_0   (x67 : Nat → Int32) (x73 : Nat → Int32)  (v1 : Int32) : Option (Int32) := fX0_mostAlike_4 x67 x73  v1 0 0
set_option maxHeartbeats 4000000 in
set_option maxRecDepth 100000 in
theorem wX0_mostAlike_0 {l : Launch} {b0 : Nat} {D : GD} {K : KT} {n : Nat} {κ : QT} {X0 : XT} {Y0 : YT} {Z : ZT} (hL : LY n κ) (hN : ([67, 73] : List Nat).Nodup) (hM : ([] : List Nat).Nodup) (hC : gC l b0 D K RX0 cX0_mostAlike (some FieldType.int) 6 1 40 0 0) {x67 : Nat → Int32} {x73 : Nat → Int32} {r : Int32} (hret : ∀ pc loc, narrow .int (.int r) = .int r → decode cX0_mostAlike pc = .ok (.ireturn, 1) → gV l b0 D K (n, κ, ov X0 [67, 73] [x67, x73], ov Y0 [] [], Z, 0, 0) pc loc [.int r]) {v1 : Int32} (hf : fX0_mostAlike_0 x67 x73  v1 = some r) : gV l b0 D K (n, κ, ov X0 [67, 73] [x67, x73], ov Y0 [] [], Z, 0, 0) 0 [(0, .ref (b0 + 67)), (1, .int v1)] [] := by
  unfold fX0_mostAlike_0 at hf
  refine g_iconst hC (v := 0) dX0_mostAlike_0 ic_0 ?_
  refine g_istore_n hC (i := 2) [(2, .int 0), (0, .ref (b0 + 67)), (1, .int v1)] rfl dX0_mostAlike_1 (by decide) rfl ?_
  refine g_iconst hC (v := 0) dX0_mostAlike_2 ic_0 ?_
  refine g_istore_n hC (i := 3) [(3, .int 0), (2, .int 0), (0, .ref (b0 + 67)), (1, .int v1)] rfl dX0_mostAlike_3 (by decide) rfl ?_
  exact g_sub [2, 3, 1, 0] rfl (wX0_mostAlike_4 hL hN hM hC  hret  5000 v1 0 0 hf)

def fX0_mostAlike   (x67 : Nat → Int32) (x73 : Nat → Int32)  (v1 : Int32)   : Option (Int32) := fX0_mostAlike_0 x67 x73 v1

set_option maxHeartbeats 4000000 in
set_option maxRecDepth 100000 in
theorem c_X0_mostAlike (l : Launch) {b0 : Nat} {D : GD} {n : Nat} {κ : QT} {X0 : XT} {Y0 : YT} {Z : ZT} (hL : LY n κ) {x67 : Nat → Int32} {x73 : Nat → Int32} (hx : ([67, 73] : List Nat).map X0 = [x67, x73]) (hy : ([] : List Nat).map Y0 = []) {v1 : Int32} {r : Int32} (hf : fX0_mostAlike x67 x73 v1 = some r) : gMi l yX0_mostAlike cX0_mostAlike 6 (some FieldType.int) 1 40 0 0 b0 D [.ref (b0 + 67), .int v1] (n, κ, X0, Y0, Z) (n, κ, ov X0 [67, 73] [x67, x73], ov Y0 [] [], Z) r := by
  have hN : ([67, 73] : List Nat).Nodup := by decide
  have hM : ([] : List Nat).Nodup := by decide
  refine g_meti (own := RX0) (by decide) rfl rfl (Nat.le_of_ble_eq_true rfl) ?_
  intro K hC hret
  have e := wX0_mostAlike_0 hL hN hM hC  hret hf
  rw [ov_id' hx, ov_id' hy] at e
  exact g_sub [0, 1] rfl e

-- X6_isAsNoted
def fX6_isAsNoted_45   (x16 : Nat → Int32) (x28 : Nat → Int32) (x29 : Nat → Int32) (x30 : Nat → Int32) (x68 : Nat → Int32) (x69 : Nat → Int32)  (k2 : Int32 → Option (Int32)) (v2 : Int32) : Option (Int32) := bn (v2 + 1) fun t_1 => (k2 t_1)
set_option maxHeartbeats 4000000 in
set_option maxRecDepth 100000 in
theorem wX6_isAsNoted_45 {l : Launch} {b0 : Nat} {D : GD} {K : KT} {n : Nat} {κ : QT} {X0 : XT} {Y0 : YT} {Z : ZT} (hL : LY n κ) (hN : ([16, 28, 29, 30, 68, 69] : List Nat).Nodup) (hM : ([] : List Nat).Nodup) (hC : gC l b0 D K RX6 cX6_isAsNoted (some FieldType.boolean) 3 0 0 0 0) {x16 : Nat → Int32} {x28 : Nat → Int32} {x29 : Nat → Int32} {x30 : Nat → Int32} {x68 : Nat → Int32} {x69 : Nat → Int32} {r : Int32} (hret : ∀ pc loc, narrow .boolean (.int r) = .int r → decode cX6_isAsNoted pc = .ok (.ireturn, 1) → gV l b0 D K (n, κ, ov X0 [16, 28, 29, 30, 68, 69] [x16, x28, x29, x30, x68, x69], ov Y0 [] [], Z, 0, 0) pc loc [.int r]) {k2 : Int32 → Option (Int32)} (hk2 : ∀ (v2 : Int32), k2 v2 = some r → gV l b0 D K (n, κ, ov X0 [16, 28, 29, 30, 68, 69] [x16, x28, x29, x30, x68, x69], ov Y0 [] [], Z, 0, 0) 2 [(0, .ref (b0 + 16)), (1, .ref (b0 + 68)), (2, .int v2)] []) {v2 : Int32} (hf : fX6_isAsNoted_45 x16 x28 x29 x30 x68 x69 k2 v2 = some r) : gV l b0 D K (n, κ, ov X0 [16, 28, 29, 30, 68, 69] [x16, x28, x29, x30, x68, x69], ov Y0 [] [], Z, 0, 0) 45 [(0, .ref (b0 + 16)), (1, .ref (b0 + 68)), (2, .int v2)] [] := by
  unfold fX6_isAsNoted_45 at hf
  obtain ⟨t_1, et_1, hf⟩ := bnE hf
  refine g_iinc hC (i := 2) (v := t_1) [(2, .int t_1), (0, .ref (b0 + 16)), (1, .ref (b0 + 68))] dX6_isAsNoted_45 (q := 2) rfl ((congrArg (HAdd.hAdd v2) ic_1).trans et_1.symm) (by decide) rfl ?_
  refine g_goto hC 2 dX6_isAsNoted_48 (by decide) ?_
  exact g_sub [1, 2, 0] rfl (hk2 t_1 hf)

def fX6_isAsNoted_2b   (x16 : Nat → Int32) (x28 : Nat → Int32) (x29 : Nat → Int32) (x30 : Nat → Int32) (x68 : Nat → Int32) (x69 : Nat → Int32)  (k2 : Int32 → Option (Int32)) (v2 : Int32) : Option (Int32) := if (x16 7) ≤ v2 then (some 1) else (gd (inb v2 10) (if (x28 v2.toNatClampNeg) = (x68 0) then (gd (inb v2 10) (gd (inb (x29 v2.toNatClampNeg) 6) (gd (inb v2 10) (if (x69 (x29 v2.toNatClampNeg).toNatClampNeg) = (x30 v2.toNatClampNeg) then (fX6_isAsNoted_45 x16 x28 x29 x30 x68 x69 k2 v2) else (some 0))))) else (fX6_isAsNoted_45 x16 x28 x29 x30 x68 x69 k2 v2)))
def fX6_isAsNoted_2   (x16 : Nat → Int32) (x28 : Nat → Int32) (x29 : Nat → Int32) (x30 : Nat → Int32) (x68 : Nat → Int32) (x69 : Nat → Int32)  : Int32 → Option (Int32) := lq1 (fX6_isAsNoted_2b x16 x28 x29 x30 x68 x69 ) 5000
set_option maxHeartbeats 4000000 in
set_option maxRecDepth 100000 in
theorem wX6_isAsNoted_2 {l : Launch} {b0 : Nat} {D : GD} {K : KT} {n : Nat} {κ : QT} {X0 : XT} {Y0 : YT} {Z : ZT} (hL : LY n κ) (hN : ([16, 28, 29, 30, 68, 69] : List Nat).Nodup) (hM : ([] : List Nat).Nodup) (hC : gC l b0 D K RX6 cX6_isAsNoted (some FieldType.boolean) 3 0 0 0 0) {x16 : Nat → Int32} {x28 : Nat → Int32} {x29 : Nat → Int32} {x30 : Nat → Int32} {x68 : Nat → Int32} {x69 : Nat → Int32} {r : Int32} (hret : ∀ pc loc, narrow .boolean (.int r) = .int r → decode cX6_isAsNoted pc = .ok (.ireturn, 1) → gV l b0 D K (n, κ, ov X0 [16, 28, 29, 30, 68, 69] [x16, x28, x29, x30, x68, x69], ov Y0 [] [], Z, 0, 0) pc loc [.int r]) : ∀ (j : Nat) (v2 : Int32), lq1 (fX6_isAsNoted_2b x16 x28 x29 x30 x68 x69 ) j v2 = some r → gV l b0 D K (n, κ, ov X0 [16, 28, 29, 30, 68, 69] [x16, x28, x29, x30, x68, x69], ov Y0 [] [], Z, 0, 0) 2 [(0, .ref (b0 + 16)), (1, .ref (b0 + 68)), (2, .int v2)] [] := by
  intro j
  induction j with
  | zero => intro v2 hf; cases hf
  | succ j hk2 =>
    intro v2 hf
    replace hf : fX6_isAsNoted_2b x16 x28 x29 x30 x68 x69  (lq1 (fX6_isAsNoted_2b x16 x28 x29 x30 x68 x69 ) j) v2 = some r := hf
    unfold fX6_isAsNoted_2b at hf
    refine g_iload_n hC 2 dX6_isAsNoted_2 rfl rfl ?_
    refine g_aload_n hC 0 dX6_isAsNoted_3 rfl rfl ?_
    refine gt_X6_56 hC (x := x16) (kk_16 hL) (kn_16 hL) (ov_get hN 0 rfl rfl) dX6_isAsNoted_4 ?_
    refine g_icmp_ge hC 51 dX6_isAsNoted_7 (by decide) (fun hc => ?_) (fun hc => ?_)
    · replace hf := ifT hf hc
      refine g_iconst hC (v := 1) dX6_isAsNoted_51 ic_1 ?_
      obtain rfl := sm1E hf
      exact hret _ _ rfl dX6_isAsNoted_52
    · replace hf := ifF hf hc
      refine g_aload_n hC 0 dX6_isAsNoted_10 rfl rfl ?_
      refine gt_X6_29 hC (a := 16) (kk_16 hL) (kn_16 hL) dX6_isAsNoted_11 ?_
      refine g_ref (b := 28) rfl ?_
      refine g_iload_n hC 2 dX6_isAsNoted_14 rfl rfl ?_
      obtain ⟨h_1, hf⟩ := gdE hf
      refine g_iald hC (x := x28) (kk_28 hL) (kn_28 hL) (ov_get hN 1 rfl rfl) (inb_in h_1) dX6_isAsNoted_15 ?_
      refine g_aload_n hC 1 dX6_isAsNoted_16 rfl rfl ?_
      refine gt_X6_75 hC (x := x68) (kk_68 hL) (kn_68 hL) (ov_get hN 4 rfl rfl) dX6_isAsNoted_17 ?_
      refine g_icmp_ne hC 45 dX6_isAsNoted_20 (by decide) (fun hc => ?_) (fun hc => ?_)
      · replace hf := ifF hf hc
        exact g_sub [0, 1, 2] rfl (wX6_isAsNoted_45 hL hN hM hC  hret hk2 hf)
      · replace hf := ifT hf hc
        refine g_aload_n hC 1 dX6_isAsNoted_23 rfl rfl ?_
        refine gt_X6_78 hC (a := 68) (kk_68 hL) (kn_68 hL) dX6_isAsNoted_24 ?_
        refine g_ref (b := 69) rfl ?_
        refine g_aload_n hC 0 dX6_isAsNoted_27 rfl rfl ?_
        refine gt_X6_33 hC (a := 16) (kk_16 hL) (kn_16 hL) dX6_isAsNoted_28 ?_
        refine g_ref (b := 29) rfl ?_
        refine g_iload_n hC 2 dX6_isAsNoted_31 rfl rfl ?_
        obtain ⟨h_2, hf⟩ := gdE hf
        refine g_iald hC (x := x29) (kk_29 hL) (kn_29 hL) (ov_get hN 2 rfl rfl) (inb_in h_2) dX6_isAsNoted_32 ?_
        obtain ⟨h_3, hf⟩ := gdE hf
        refine g_iald hC (x := x69) (kk_69 hL) (kn_69 hL) (ov_get hN 5 rfl rfl) (inb_in h_3) dX6_isAsNoted_33 ?_
        refine g_aload_n hC 0 dX6_isAsNoted_34 rfl rfl ?_
        refine gt_X6_36 hC (a := 16) (kk_16 hL) (kn_16 hL) dX6_isAsNoted_35 ?_
        refine g_ref (b := 30) rfl ?_
        refine g_iload_n hC 2 dX6_isAsNoted_38 rfl rfl ?_
        obtain ⟨h_4, hf⟩ := gdE hf
        refine g_iald hC (x := x30) (kk_30 hL) (kn_30 hL) (ov_get hN 3 rfl rfl) (inb_in h_4) dX6_isAsNoted_39 ?_
        refine g_icmp_eq hC 45 dX6_isAsNoted_40 (by decide) (fun hc => ?_) (fun hc => ?_)
        · replace hf := ifT hf hc
          exact g_sub [0, 1, 2] rfl (wX6_isAsNoted_45 hL hN hM hC  hret hk2 hf)
        · replace hf := ifF hf hc
          refine g_iconst hC (v := 0) dX6_isAsNoted_43 ic_0 ?_
          obtain rfl := sm1E hf
          exact hret _ _ rfl dX6_isAsNoted_44

def fX6_isAsNoted_0   (x16 : Nat → Int32) (x28 : Nat → Int32) (x29 : Nat → Int32) (x30 : Nat → Int32) (x68 : Nat → Int32) (x69 : Nat → Int32)   : Option (Int32) := fX6_isAsNoted_2 x16 x28 x29 x30 x68 x69  0
set_option maxHeartbeats 4000000 in
set_option maxRecDepth 100000 in
theorem wX6_isAsNoted_0 {l : Launch} {b0 : Nat} {D : GD} {K : KT} {n : Nat} {κ : QT} {X0 : XT} {Y0 : YT} {Z : ZT} (hL : LY n κ) (hN : ([16, 28, 29, 30, 68, 69] : List Nat).Nodup) (hM : ([] : List Nat).Nodup) (hC : gC l b0 D K RX6 cX6_isAsNoted (some FieldType.boolean) 3 0 0 0 0) {x16 : Nat → Int32} {x28 : Nat → Int32} {x29 : Nat → Int32} {x30 : Nat → Int32} {x68 : Nat → Int32} {x69 : Nat → Int32} {r : Int32} (hret : ∀ pc loc, narrow .boolean (.int r) = .int r → decode cX6_isAsNoted pc = .ok (.ireturn, 1) → gV l b0 D K (n, κ, ov X0 [16, 28, 29, 30, 68, 69] [x16, x28, x29, x30, x68, x69], ov Y0 [] [], Z, 0, 0) pc loc [.int r])  (hf : fX6_isAsNoted_0 x16 x28 x29 x30 x68 x69   = some r) : gV l b0 D K (n, κ, ov X0 [16, 28, 29, 30, 68, 69] [x16, x28, x29, x30, x68, x69], ov Y0 [] [], Z, 0, 0) 0 [(0, .ref (b0 + 16)), (1, .ref (b0 + 68))] [] := by
  unfold fX6_isAsNoted_0 at hf
  refine g_iconst hC (v := 0) dX6_isAsNoted_0 ic_0 ?_
  refine g_istore_n hC (i := 2) [(2, .int 0), (0, .ref (b0 + 16)), (1, .ref (b0 + 68))] rfl dX6_isAsNoted_1 (by decide) rfl ?_
  exact g_sub [1, 2, 0] rfl (wX6_isAsNoted_2 hL hN hM hC  hret  5000 0 hf)

def fX6_isAsNoted   (x16 : Nat → Int32) (x28 : Nat → Int32) (x29 : Nat → Int32) (x30 : Nat → Int32) (x68 : Nat → Int32) (x69 : Nat → Int32)     : Option (Int32) := fX6_isAsNoted_0 x16 x28 x29 x30 x68 x69 

set_option maxHeartbeats 4000000 in
set_option maxRecDepth 100000 in
theorem c_X6_isAsNoted (l : Launch) {b0 : Nat} {D : GD} {n : Nat} {κ : QT} {X0 : XT} {Y0 : YT} {Z : ZT} (hL : LY n κ) {x16 : Nat → Int32} {x28 : Nat → Int32} {x29 : Nat → Int32} {x30 : Nat → Int32} {x68 : Nat → Int32} {x69 : Nat → Int32} (hx : ([16, 28, 29, 30, 68, 69] : List Nat).map X0 = [x16, x28, x29, x30, x68, x69]) (hy : ([] : List Nat).map Y0 = []) {r : Int32} (hf : fX6_isAsNoted x16 x28 x29 x30 x68 x69  = some r) : gMi l yX6_isAsNoted cX6_isAsNoted 3 (some FieldType.boolean) 0 0 0 0 b0 D [.ref (b0 + 16), .ref (b0 + 68)] (n, κ, X0, Y0, Z) (n, κ, ov X0 [16, 28, 29, 30, 68, 69] [x16, x28, x29, x30, x68, x69], ov Y0 [] [], Z) r := by
  have hN : ([16, 28, 29, 30, 68, 69] : List Nat).Nodup := by decide
  have hM : ([] : List Nat).Nodup := by decide
  refine g_meti (own := RX6) (by decide) rfl rfl (Nat.le_of_ble_eq_true rfl) ?_
  intro K hC hret
  have e := wX6_isAsNoted_0 hL hN hM hC  hret hf
  rw [ov_id' hx, ov_id' hy] at e
  exact g_sub [0, 1] rfl e

-- X6_lastNotedDay
def fX6_lastNotedDay_4b   (x16 : Nat → Int32) (x28 : Nat → Int32)  (k4 : Int32 → Int32 → Option (Int32)) (v1 : Int32) (v2 : Int32) : Option (Int32) := if (x16 7) ≤ v2 then (some v1) else (gd (inb v2 10) (bn ((if v1 < (x28 v2.toNatClampNeg) then (x28 v2.toNatClampNeg) else v1)) fun t_2 => (bn (v2 + 1) fun t_3 => (k4 t_2 t_3))))
def fX6_lastNotedDay_4   (x16 : Nat → Int32) (x28 : Nat → Int32)  : Int32 → Int32 → Option (Int32) := lq2 (fX6_lastNotedDay_4b x16 x28 ) 5000
set_option maxHeartbeats 4000000 in
set_option maxRecDepth 100000 in
theorem wX6_lastNotedDay_4 {l : Launch} {b0 : Nat} {D : GD} {K : KT} {n : Nat} {κ : QT} {X0 : XT} {Y0 : YT} {Z : ZT} (hL : LY n κ) (hN : ([16, 28] : List Nat).Nodup) (hM : ([] : List Nat).Nodup) (hC : gC l b0 D K RX6 cX6_lastNotedDay (some FieldType.int) 3 1 40 0 0) {x16 : Nat → Int32} {x28 : Nat → Int32} {r : Int32} (hret : ∀ pc loc, narrow .int (.int r) = .int r → decode cX6_lastNotedDay pc = .ok (.ireturn, 1) → gV l b0 D K (n, κ, ov X0 [16, 28] [x16, x28], ov Y0 [] [], Z, 0, 0) pc loc [.int r]) : ∀ (j : Nat) (v1 : Int32) (v2 : Int32), lq2 (fX6_lastNotedDay_4b x16 x28 ) j v1 v2 = some r → gV l b0 D K (n, κ, ov X0 [16, 28] [x16, x28], ov Y0 [] [], Z, 0, 0) 4 [(0, .ref (b0 + 16)), (1, .int v1), (2, .int v2)] [] := by
  intro j
  induction j with
  | zero => intro v1 v2 hf; cases hf
  | succ j hk4 =>
    intro v1 v2 hf
    replace hf : fX6_lastNotedDay_4b x16 x28  (lq2 (fX6_lastNotedDay_4b x16 x28 ) j) v1 v2 = some r := hf
    unfold fX6_lastNotedDay_4b at hf
    refine g_iload_n hC 2 dX6_lastNotedDay_4 rfl rfl ?_
    refine g_aload_n hC 0 dX6_lastNotedDay_5 rfl rfl ?_
    refine gt_X6_56 hC (x := x16) (kk_16 hL) (kn_16 hL) (ov_get hN 0 rfl rfl) dX6_lastNotedDay_6 ?_
    refine g_icmp_ge hC 29 dX6_lastNotedDay_9 (by decide) (fun hc => ?_) (fun hc => ?_)
    · replace hf := ifT hf hc
      refine g_iload_n hC 1 dX6_lastNotedDay_29 rfl rfl ?_
      obtain rfl := sm1E hf
      exact hret _ _ rfl dX6_lastNotedDay_30
    · replace hf := ifF hf hc
      refine g_iload_n hC 1 dX6_lastNotedDay_12 rfl rfl ?_
      refine g_aload_n hC 0 dX6_lastNotedDay_13 rfl rfl ?_
      refine gt_X6_29 hC (a := 16) (kk_16 hL) (kn_16 hL) dX6_lastNotedDay_14 ?_
      refine g_ref (b := 28) rfl ?_
      refine g_iload_n hC 2 dX6_lastNotedDay_17 rfl rfl ?_
      obtain ⟨h_1, hf⟩ := gdE hf
      refine g_iald hC (x := x28) (kk_28 hL) (kn_28 hL) (ov_get hN 1 rfl rfl) (inb_in h_1) dX6_lastNotedDay_18 ?_
      refine g_mmax hC tw_1105 (by decide) (Nat.le_of_ble_eq_true rfl) dX6_lastNotedDay_19 ?_
      obtain ⟨t_2, et_2, hf⟩ := bnE hf
      refine g_topi et_2 ?_
      refine g_istore_n hC (i := 1) [(1, .int t_2), (0, .ref (b0 + 16)), (2, .int v2)] rfl dX6_lastNotedDay_22 (by decide) rfl ?_
      obtain ⟨t_3, et_3, hf⟩ := bnE hf
      refine g_iinc hC (i := 2) (v := t_3) [(2, .int t_3), (1, .int t_2), (0, .ref (b0 + 16))] dX6_lastNotedDay_23 (q := 2) rfl ((congrArg (HAdd.hAdd v2) ic_1).trans et_3.symm) (by decide) rfl ?_
      refine g_goto hC 4 dX6_lastNotedDay_26 (by decide) ?_
      exact g_sub [2, 1, 0] rfl (hk4 t_2 t_3 hf)

def fX6_lastNotedDay_0   (x16 : Nat → Int32) (x28 : Nat → Int32)   : Option (Int32) := fX6_lastNotedDay_4 x16 x28  0 0
set_option maxHeartbeats 4000000 in
set_option maxRecDepth 100000 in
theorem wX6_lastNotedDay_0 {l : Launch} {b0 : Nat} {D : GD} {K : KT} {n : Nat} {κ : QT} {X0 : XT} {Y0 : YT} {Z : ZT} (hL : LY n κ) (hN : ([16, 28] : List Nat).Nodup) (hM : ([] : List Nat).Nodup) (hC : gC l b0 D K RX6 cX6_lastNotedDay (some FieldType.int) 3 1 40 0 0) {x16 : Nat → Int32} {x28 : Nat → Int32} {r : Int32} (hret : ∀ pc loc, narrow .int (.int r) = .int r → decode cX6_lastNotedDay pc = .ok (.ireturn, 1) → gV l b0 D K (n, κ, ov X0 [16, 28] [x16, x28], ov Y0 [] [], Z, 0, 0) pc loc [.int r])  (hf : fX6_lastNotedDay_0 x16 x28   = some r) : gV l b0 D K (n, κ, ov X0 [16, 28] [x16, x28], ov Y0 [] [], Z, 0, 0) 0 [(0, .ref (b0 + 16))] [] := by
  unfold fX6_lastNotedDay_0 at hf
  refine g_iconst hC (v := 0) dX6_lastNotedDay_0 ic_0 ?_
  refine g_istore_n hC (i := 1) [(1, .int 0), (0, .ref (b0 + 16))] rfl dX6_lastNotedDay_1 (by decide) rfl ?_
  refine g_iconst hC (v := 0) dX6_lastNotedDay_2 ic_0 ?_
  refine g_istore_n hC (i := 2) [(2, .int 0), (1, .int 0), (0, .ref (b0 + 16))] rfl dX6_lastNotedDay_3 (by decide) rfl ?_
  exact g_sub [2, 1, 0] rfl (wX6_lastNotedDay_4 hL hN hM hC  hret  5000 0 0 hf)

def fX6_lastNotedDay   (x16 : Nat → Int32) (x28 : Nat → Int32)     : Option (Int32) := fX6_lastNotedDay_0 x16 x28 

set_option maxHeartbeats 4000000 in
set_option maxRecDepth 100000 in
theorem c_X6_lastNotedDay (l : Launch) {b0 : Nat} {D : GD} {n : Nat} {κ : QT} {X0 : XT} {Y0 : YT} {Z : ZT} (hL : LY n κ) {x16 : Nat → Int32} {x28 : Nat → Int32} (hx : ([16, 28] : List Nat).map X0 = [x16, x28]) (hy : ([] : List Nat).map Y0 = []) {r : Int32} (hf : fX6_lastNotedDay x16 x28  = some r) : gMi l yX6_lastNotedDay cX6_lastNotedDay 3 (some FieldType.int) 1 40 0 0 b0 D [.ref (b0 + 16)] (n, κ, X0, Y0, Z) (n, κ, ov X0 [16, 28] [x16, x28], ov Y0 [] [], Z) r := by
  have hN : ([16, 28] : List Nat).Nodup := by decide
  have hM : ([] : List Nat).Nodup := by decide
  refine g_meti (own := RX6) (by decide) rfl rfl (Nat.le_of_ble_eq_true rfl) ?_
  intro K hC hret
  have e := wX6_lastNotedDay_0 hL hN hM hC  hret hf
  rw [ov_id' hx, ov_id' hy] at e
  exact g_sub [0] rfl e

-- X6_addNote
def fX6_addNote_0     (v1 : Int32) (v2 : Int32) (v3 : Int32) (x16 : (Nat → Int32)) (x28 : (Nat → Int32)) (x29 : (Nat → Int32)) (x30 : (Nat → Int32)) : Option ((Nat → Int32) × (Nat → Int32) × (Nat → Int32) × (Nat → Int32)) := if 10 ≤ (x16 7) then (some (x16, x28, x29, x30)) else (gd (inb (x16 7) 10) (gd (inb (x16 7) 10) (gd (inb (x16 7) 10) (some ((upd x16 7 ((x16 7) + 1)), (upd x28 (x16 7).toNatClampNeg v1), (upd x29 (x16 7).toNatClampNeg v2), (upd x30 (x16 7).toNatClampNeg v3))))))
set_option maxHeartbeats 4000000 in
set_option maxRecDepth 100000 in
theorem wX6_addNote_0 {l : Launch} {b0 : Nat} {D : GD} {K : KT} {n : Nat} {κ : QT} {X0 : XT} {Y0 : YT} {Z : ZT} (hL : LY n κ) (hN : ([16, 28, 29, 30] : List Nat).Nodup) (hM : ([] : List Nat).Nodup) (hC : gC l b0 D K RX6 cX6_addNote none 4 0 0 0 0) {rx16 : (Nat → Int32)} {rx28 : (Nat → Int32)} {rx29 : (Nat → Int32)} {rx30 : (Nat → Int32)} (hret : ∀ pc loc, decode cX6_addNote pc = .ok (.return_, 1) → gV l b0 D K (n, κ, ov X0 [16, 28, 29, 30] [rx16, rx28, rx29, rx30], ov Y0 [] [], Z, 0, 0) pc loc []) {v1 : Int32} {v2 : Int32} {v3 : Int32} {x16 : (Nat → Int32)} {x28 : (Nat → Int32)} {x29 : (Nat → Int32)} {x30 : (Nat → Int32)} (hf : fX6_addNote_0   v1 v2 v3 x16 x28 x29 x30 = some (rx16, rx28, rx29, rx30)) : gV l b0 D K (n, κ, ov X0 [16, 28, 29, 30] [x16, x28, x29, x30], ov Y0 [] [], Z, 0, 0) 0 [(0, .ref (b0 + 16)), (1, .int v1), (2, .int v2), (3, .int v3)] [] := by
  unfold fX6_addNote_0 at hf
  refine g_aload_n hC 0 dX6_addNote_0 rfl rfl ?_
  refine gt_X6_56 hC (x := x16) (kk_16 hL) (kn_16 hL) (ov_get hN 0 rfl rfl) dX6_addNote_1 ?_
  refine g_bipush hC (v := 10) dX6_addNote_4 bp_10 ?_
  refine g_icmp_ge hC 49 dX6_addNote_6 (by decide) (fun hc => ?_) (fun hc => ?_)
  · replace hf := ifT hf hc
    obtain ⟨rfl, rfl, rfl, rfl⟩ := sm4E hf
    exact hret _ _ dX6_addNote_49
  · replace hf := ifF hf hc
    refine g_aload_n hC 0 dX6_addNote_9 rfl rfl ?_
    refine gt_X6_29 hC (a := 16) (kk_16 hL) (kn_16 hL) dX6_addNote_10 ?_
    refine g_ref (b := 28) rfl ?_
    refine g_aload_n hC 0 dX6_addNote_13 rfl rfl ?_
    refine gt_X6_56 hC (x := x16) (kk_16 hL) (kn_16 hL) (ov_get hN 0 rfl rfl) dX6_addNote_14 ?_
    refine g_iload_n hC 1 dX6_addNote_17 rfl rfl ?_
    obtain ⟨h_1, hf⟩ := gdE hf
    refine g_iast hC (x := x28) (kk_28 hL) (kn_28 hL) (ov_get hN 1 rfl rfl) (inb_in h_1) (ov_set hN (by rfl) 1 (by rfl)) dX6_addNote_18 ?_
    show gV l b0 D K (n, κ, ov X0 [16, 28, 29, 30] [x16, (upd x28 (x16 7).toNatClampNeg v1), x29, x30], ov Y0 [] [], Z, 0, 0) 19 [(0, .ref (b0 + 16)), (1, .int v1), (2, .int v2), (3, .int v3)] []
    refine g_aload_n hC 0 dX6_addNote_19 rfl rfl ?_
    refine gt_X6_33 hC (a := 16) (kk_16 hL) (kn_16 hL) dX6_addNote_20 ?_
    refine g_ref (b := 29) rfl ?_
    refine g_aload_n hC 0 dX6_addNote_23 rfl rfl ?_
    refine gt_X6_56 hC (x := x16) (kk_16 hL) (kn_16 hL) (ov_get hN 0 rfl rfl) dX6_addNote_24 ?_
    refine g_iload_n hC 2 dX6_addNote_27 rfl rfl ?_
    obtain ⟨h_2, hf⟩ := gdE hf
    refine g_iast hC (x := x29) (kk_29 hL) (kn_29 hL) (ov_get hN 2 rfl rfl) (inb_in h_2) (ov_set hN (by rfl) 2 (by rfl)) dX6_addNote_28 ?_
    show gV l b0 D K (n, κ, ov X0 [16, 28, 29, 30] [x16, (upd x28 (x16 7).toNatClampNeg v1), (upd x29 (x16 7).toNatClampNeg v2), x30], ov Y0 [] [], Z, 0, 0) 29 [(0, .ref (b0 + 16)), (1, .int v1), (2, .int v2), (3, .int v3)] []
    refine g_aload_n hC 0 dX6_addNote_29 rfl rfl ?_
    refine gt_X6_36 hC (a := 16) (kk_16 hL) (kn_16 hL) dX6_addNote_30 ?_
    refine g_ref (b := 30) rfl ?_
    refine g_aload_n hC 0 dX6_addNote_33 rfl rfl ?_
    refine gt_X6_56 hC (x := x16) (kk_16 hL) (kn_16 hL) (ov_get hN 0 rfl rfl) dX6_addNote_34 ?_
    refine g_iload_n hC 3 dX6_addNote_37 rfl rfl ?_
    obtain ⟨h_3, hf⟩ := gdE hf
    refine g_iast hC (x := x30) (kk_30 hL) (kn_30 hL) (ov_get hN 3 rfl rfl) (inb_in h_3) (ov_set hN (by rfl) 3 (by rfl)) dX6_addNote_38 ?_
    show gV l b0 D K (n, κ, ov X0 [16, 28, 29, 30] [x16, (upd x28 (x16 7).toNatClampNeg v1), (upd x29 (x16 7).toNatClampNeg v2), (upd x30 (x16 7).toNatClampNeg v3)], ov Y0 [] [], Z, 0, 0) 39 [(0, .ref (b0 + 16)), (1, .int v1), (2, .int v2), (3, .int v3)] []
    refine g_aload_n hC 0 dX6_addNote_39 rfl rfl ?_
    refine g_dup hC dX6_addNote_40 rfl ?_
    refine gt_X6_56 hC (x := x16) (kk_16 hL) (kn_16 hL) (ov_get hN 0 rfl rfl) dX6_addNote_41 ?_
    refine g_iconst hC (v := 1) dX6_addNote_44 ic_1 ?_
    refine g_iadd hC dX6_addNote_45 ?_
    refine pt_X6_56 hC (x := x16) (kk_16 hL) (kn_16 hL) (ov_get hN 0 rfl rfl) (ov_set hN (by rfl) 0 (by rfl)) dX6_addNote_46 ?_
    show gV l b0 D K (n, κ, ov X0 [16, 28, 29, 30] [(upd x16 7 ((x16 7) + 1)), (upd x28 (x16 7).toNatClampNeg v1), (upd x29 (x16 7).toNatClampNeg v2), (upd x30 (x16 7).toNatClampNeg v3)], ov Y0 [] [], Z, 0, 0) 49 [(0, .ref (b0 + 16)), (1, .int v1), (2, .int v2), (3, .int v3)] []
    obtain ⟨rfl, rfl, rfl, rfl⟩ := sm4E hf
    exact hret _ _ dX6_addNote_49

def fX6_addNote     (v1 : Int32) (v2 : Int32) (v3 : Int32) (x16 : Nat → Int32) (x28 : Nat → Int32) (x29 : Nat → Int32) (x30 : Nat → Int32)  : Option ((Nat → Int32) × (Nat → Int32) × (Nat → Int32) × (Nat → Int32)) := fX6_addNote_0  v1 v2 v3 x16 x28 x29 x30

set_option maxHeartbeats 4000000 in
set_option maxRecDepth 100000 in
theorem c_X6_addNote (l : Launch) {b0 : Nat} {D : GD} {n : Nat} {κ : QT} {X0 : XT} {Y0 : YT} {Z : ZT} (hL : LY n κ) {x16 : Nat → Int32} {x28 : Nat → Int32} {x29 : Nat → Int32} {x30 : Nat → Int32} (hx : ([16, 28, 29, 30] : List Nat).map X0 = [x16, x28, x29, x30]) (hy : ([] : List Nat).map Y0 = []) {v1 : Int32} {v2 : Int32} {v3 : Int32} {rx16 : (Nat → Int32)} {rx28 : (Nat → Int32)} {rx29 : (Nat → Int32)} {rx30 : (Nat → Int32)} (hf : fX6_addNote  v1 v2 v3 x16 x28 x29 x30 = some (rx16, rx28, rx29, rx30)) : gMv l yX6_addNote cX6_addNote 4 none 0 0 0 0 b0 D [.ref (b0 + 16), .int v1, .int v2, .int v3] (n, κ, X0, Y0, Z) (n, κ, ov X0 [16, 28, 29, 30] [rx16, rx28, rx29, rx30], ov Y0 [] [], Z) := by
  have hN : ([16, 28, 29, 30] : List Nat).Nodup := by decide
  have hM : ([] : List Nat).Nodup := by decide
  refine g_metv (own := RX6) (by decide) rfl rfl (Nat.le_of_ble_eq_true rfl) ?_
  intro K hC hret
  have e := wX6_addNote_0 hL hN hM hC  hret hf
  rw [ov_id' hx, ov_id' hy] at e
  exact g_sub [0, 1, 2, 3] rfl e

-- X0_isSo
def fX0_isSoR_80  (Lru : Nat) (xruz1 : Nat → Int32) (x16 : Nat → Int32) (x17 : Nat → Int32) (x18 : Nat → Int32) (x19 : Nat → Int32) (x20 : Nat → Int32) (x21 : Nat → Int32) (x22 : Nat → Int32) (x28 : Nat → Int32) (x29 : Nat → Int32) (x30 : Nat → Int32) (x67 : Nat → Int32)  (k30 : Int32 → Int32 → Int32 → (Nat → Int32) → (Nat → Int32) → (Nat → Int32) → (Nat → Int32) → (Nat → Int32) → (Nat → Int32) → (Nat → Int64) → (Nat → Int64) → Option (Int32 × (Nat → Int32) × (Nat → Int32) × (Nat → Int32) × (Nat → Int32) × (Nat → Int32) × (Nat → Int32) × (Nat → Int64) × (Nat → Int64))) (v3 : Int32) (v4 : Int32) (v5 : Int32) (x33 : (Nat → Int32)) (x68 : (Nat → Int32)) (x69 : (Nat → Int32)) (x70 : (Nat → Int32)) (x71 : (Nat → Int32)) (x73 : (Nat → Int32)) (yruz2 : (Nat → Int64)) (y34 : (Nat → Int64)) : Option (Int32 × (Nat → Int32) × (Nat → Int32) × (Nat → Int32) × (Nat → Int32) × (Nat → Int32) × (Nat → Int32) × (Nat → Int64) × (Nat → Int64)) := bd1 (fX9_heatOf x68 x17 x18) fun r_1 => (bd8 (fX1_passR Lru xruz1 x17 x18 r_1 x68 x69 x70 x71 x33 yruz2 y34) fun r_3 x68_4 x69_5 x70_6 x71_7 x33_8 yruz2_9 y34_10 => (bn (v5 + 1) fun t_12 => (k30 v3 v4 t_12 x33_8 x68_4 x69_5 x70_6 x71_7 x73 yruz2_9 y34_10)))
set_option maxHeartbeats 4000000 in
set_option maxRecDepth 100000 in
theorem wX0_isSoR_80 {l : Launch} {b0 : Nat} {D : GD} {K : KT} {n : Nat} {κ : QT} {X0 : XT} {Y0 : YT} {Z : ZT} {ru : Nat} {Lru : Nat} (hL : LY n κ) (hk_ru : κ ru = (4, 0)) (hn_ru : ru < n) (hk_ru_1 : κ (ru + 1) = (14, Lru)) (hN : ([ru + 1, 16, 17, 18, 19, 20, 21, 22, 28, 29, 30, 33, 67, 68, 69, 70, 71, 73] : List Nat).Nodup) (hM : ([ru + 2, 34] : List Nat).Nodup) (hC : gC l b0 D K RX0 cX0_isSo (some FieldType.boolean) 6 5 138 0 0) {xruz1 : Nat → Int32} {x16 : Nat → Int32} {x17 : Nat → Int32} {x18 : Nat → Int32} {x19 : Nat → Int32} {x20 : Nat → Int32} {x21 : Nat → Int32} {x22 : Nat → Int32} {x28 : Nat → Int32} {x29 : Nat → Int32} {x30 : Nat → Int32} {x67 : Nat → Int32} {r : Int32} {rx33 : (Nat → Int32)} {rx68 : (Nat → Int32)} {rx69 : (Nat → Int32)} {rx70 : (Nat → Int32)} {rx71 : (Nat → Int32)} {rx73 : (Nat → Int32)} {ryruz2 : (Nat → Int64)} {ry34 : (Nat → Int64)} (hret : ∀ pc loc, narrow .boolean (.int r) = .int r → decode cX0_isSo pc = .ok (.ireturn, 1) → gV l b0 D K (n, κ, ov X0 [ru + 1, 16, 17, 18, 19, 20, 21, 22, 28, 29, 30, 33, 67, 68, 69, 70, 71, 73] [xruz1, x16, x17, x18, x19, x20, x21, x22, x28, x29, x30, rx33, x67, rx68, rx69, rx70, rx71, rx73], ov Y0 [ru + 2, 34] [ryruz2, ry34], Z, 0, 0) pc loc [.int r]) {k30 : Int32 → Int32 → Int32 → (Nat → Int32) → (Nat → Int32) → (Nat → Int32) → (Nat → Int32) → (Nat → Int32) → (Nat → Int32) → (Nat → Int64) → (Nat → Int64) → Option (Int32 × (Nat → Int32) × (Nat → Int32) × (Nat → Int32) × (Nat → Int32) × (Nat → Int32) × (Nat → Int32) × (Nat → Int64) × (Nat → Int64))} (hk30 : ∀ (v3 : Int32) (v4 : Int32) (v5 : Int32) (x33 : (Nat → Int32)) (x68 : (Nat → Int32)) (x69 : (Nat → Int32)) (x70 : (Nat → Int32)) (x71 : (Nat → Int32)) (x73 : (Nat → Int32)) (yruz2 : (Nat → Int64)) (y34 : (Nat → Int64)), k30 v3 v4 v5 x33 x68 x69 x70 x71 x73 yruz2 y34 = some (r, rx33, rx68, rx69, rx70, rx71, rx73, ryruz2, ry34) → gV l b0 D K (n, κ, ov X0 [ru + 1, 16, 17, 18, 19, 20, 21, 22, 28, 29, 30, 33, 67, 68, 69, 70, 71, 73] [xruz1, x16, x17, x18, x19, x20, x21, x22, x28, x29, x30, x33, x67, x68, x69, x70, x71, x73], ov Y0 [ru + 2, 34] [yruz2, y34], Z, 0, 0) 30 [(0, .ref (b0 + 67)), (1, .ref (b0 + 16)), (2, .ref (b0 + ru)), (3, .int v3), (4, .int v4), (5, .int v5)] []) {v3 : Int32} {v4 : Int32} {v5 : Int32} {x33 : (Nat → Int32)} {x68 : (Nat → Int32)} {x69 : (Nat → Int32)} {x70 : (Nat → Int32)} {x71 : (Nat → Int32)} {x73 : (Nat → Int32)} {yruz2 : (Nat → Int64)} {y34 : (Nat → Int64)} (hf : fX0_isSoR_80 Lru xruz1 x16 x17 x18 x19 x20 x21 x22 x28 x29 x30 x67 k30 v3 v4 v5 x33 x68 x69 x70 x71 x73 yruz2 y34 = some (r, rx33, rx68, rx69, rx70, rx71, rx73, ryruz2, ry34)) : gV l b0 D K (n, κ, ov X0 [ru + 1, 16, 17, 18, 19, 20, 21, 22, 28, 29, 30, 33, 67, 68, 69, 70, 71, 73] [xruz1, x16, x17, x18, x19, x20, x21, x22, x28, x29, x30, x33, x67, x68, x69, x70, x71, x73], ov Y0 [ru + 2, 34] [yruz2, y34], Z, 0, 0) 80 [(0, .ref (b0 + 67)), (1, .ref (b0 + 16)), (2, .ref (b0 + ru)), (3, .int v3), (4, .int v4), (5, .int v5)] [] := by
  unfold fX0_isSoR_80 at hf
  refine g_aload_n hC 0 dX0_isSo_80 rfl rfl ?_
  refine gt_X0_25 hC (a := 67) (kk_67 hL) (kn_67 hL) dX0_isSo_81 ?_
  refine g_ref (b := 32) rfl ?_
  refine g_aload_n hC 0 dX0_isSo_84 rfl rfl ?_
  refine gt_X0_12 hC (a := 67) (kk_67 hL) (kn_67 hL) dX0_isSo_85 ?_
  refine g_ref (b := 68) rfl ?_
  refine g_aload_n hC 2 dX0_isSo_88 rfl rfl ?_
  refine g_aload_n hC 0 dX0_isSo_89 rfl rfl ?_
  refine gt_X0_25 hC (a := 67) (kk_67 hL) (kn_67 hL) dX0_isSo_90 ?_
  refine g_ref (b := 32) rfl ?_
  refine gt_X0_49 hC (a := 32) (kk_32 hL) (kn_32 hL) dX0_isSo_93 ?_
  refine g_ref (b := 17) rfl ?_
  refine g_aload_n hC 0 dX0_isSo_96 rfl rfl ?_
  refine gt_X0_12 hC (a := 67) (kk_67 hL) (kn_67 hL) dX0_isSo_97 ?_
  refine g_ref (b := 68) rfl ?_
  obtain ⟨r_1, q_2, hf⟩ := bd1E hf
  refine g_callV_i (a := 17) hC (X' := ov X0 [ru + 1, 16, 17, 18, 19, 20, 21, 22, 28, 29, 30, 33, 67, 68, 69, 70, 71, 73] [xruz1, x16, x17, x18, x19, x20, x21, x22, x28, x29, x30, x33, x67, x68, x69, x70, x71, x73]) (Y' := ov Y0 [ru + 2, 34] [yruz2, y34]) (As := [.ref (b0 + 68)]) (gMi_eq (c_X9_heatOf l hL (kk_68 hL) (kn_68 hL) (nd_sub hN [13, 2, 3] (by decide) (by rfl)) (nd_sub hM [] (by decide) (by rfl)) (ov_map hN [13, 2, 3] (by rfl) (by rfl)) (ov_map hM [] (by rfl) (by rfl)) q_2) (ov_ovE hN (by rfl) [13, 2, 3] [0, 1, 4, 5, 6, 7, 8, 9, 10, 11, 12, 14, 15, 16, 17] (by rfl) (by rfl) [xruz1, x16, x19, x20, x21, x22, x28, x29, x30, x33, x67, x69, x70, x71, x73] (by rfl) (by rfl) (by rfl) 18 (by rfl) (by decide)) (ov_ovE hM (by rfl) [] [0, 1] (by rfl) (by rfl) [yruz2, y34] (by rfl) (by rfl) (by rfl) 2 (by rfl) (by decide))) tw_806 tw_1113 tw_119 tw_804 tw_805 (ci := 9) rfl (by decide) (kk_17 hL) (kn_17 hL) pd_X9_heatOf (by decide) (by decide) rfl rfl (Nat.le_of_ble_eq_true rfl) rfl dX0_isSo_100 ?_
  obtain ⟨r_3, x68_4, x69_5, x70_6, x71_7, x33_8, yruz2_9, y34_10, q_11, hf⟩ := bd8E hf
  refine g_callV_i (a := 32) hC (X' := ov X0 [ru + 1, 16, 17, 18, 19, 20, 21, 22, 28, 29, 30, 33, 67, 68, 69, 70, 71, 73] [xruz1, x16, x17, x18, x19, x20, x21, x22, x28, x29, x30, x33_8, x67, x68_4, x69_5, x70_6, x71_7, x73]) (Y' := ov Y0 [ru + 2, 34] [yruz2_9, y34_10]) (As := [.ref (b0 + 68), .ref (b0 + ru), .int r_1]) (gMi_eq (c_X1_passR l hL (kk_68 hL) (kn_68 hL) hk_ru hn_ru hk_ru_1 (nd_sub hN [13, 14, 15, 16, 0, 2, 3, 11] (by decide) (by rfl)) (nd_sub hM [0, 1] (by decide) (by rfl)) (ov_map hN [13, 14, 15, 16, 0, 2, 3, 11] (by rfl) (by rfl)) (ov_map hM [0, 1] (by rfl) (by rfl)) q_11) (ov_ovE hN (by rfl) [13, 14, 15, 16, 0, 2, 3, 11] [1, 4, 5, 6, 7, 8, 9, 10, 12, 17] (by rfl) (by rfl) [x16, x19, x20, x21, x22, x28, x29, x30, x67, x73] (by rfl) (by rfl) (by rfl) 18 (by rfl) (by decide)) (ov_ovE hM (by rfl) [0, 1] [] (by rfl) (by rfl) [] (by rfl) (by rfl) (by rfl) 2 (by rfl) (by decide))) tw_874 tw_1114 tw_123 tw_872 tw_873 (ci := 1) rfl (by decide) (kk_32 hL) (kn_32 hL) pd_X1_pass (by decide) (by decide) rfl rfl (Nat.le_of_ble_eq_true rfl) rfl dX0_isSo_103 ?_
  refine g_pop hC dX0_isSo_106 rfl ?_
  obtain ⟨t_12, et_12, hf⟩ := bnE hf
  refine g_iinc hC (i := 5) (v := t_12) [(5, .int t_12), (0, .ref (b0 + 67)), (1, .ref (b0 + 16)), (2, .ref (b0 + ru)), (3, .int v3), (4, .int v4)] dX0_isSo_107 (q := 5) rfl ((congrArg (HAdd.hAdd v5) ic_1).trans et_12.symm) (by decide) rfl ?_
  refine g_goto hC 30 dX0_isSo_110 (by decide) ?_
  exact g_sub [1, 2, 3, 4, 5, 0] rfl (hk30 v3 v4 t_12 x33_8 x68_4 x69_5 x70_6 x71_7 x73 yruz2_9 y34_10 hf)

def fX0_isSoR_30b  (Lru : Nat) (xruz1 : Nat → Int32) (x16 : Nat → Int32) (x17 : Nat → Int32) (x18 : Nat → Int32) (x19 : Nat → Int32) (x20 : Nat → Int32) (x21 : Nat → Int32) (x22 : Nat → Int32) (x28 : Nat → Int32) (x29 : Nat → Int32) (x30 : Nat → Int32) (x67 : Nat → Int32)  (k30 : Int32 → Int32 → Int32 → (Nat → Int32) → (Nat → Int32) → (Nat → Int32) → (Nat → Int32) → (Nat → Int32) → (Nat → Int32) → (Nat → Int64) → (Nat → Int64) → Option (Int32 × (Nat → Int32) × (Nat → Int32) × (Nat → Int32) × (Nat → Int32) × (Nat → Int32) × (Nat → Int32) × (Nat → Int64) × (Nat → Int64))) (v3 : Int32) (v4 : Int32) (v5 : Int32) (x33 : (Nat → Int32)) (x68 : (Nat → Int32)) (x69 : (Nat → Int32)) (x70 : (Nat → Int32)) (x71 : (Nat → Int32)) (x73 : (Nat → Int32)) (yruz2 : (Nat → Int64)) (y34 : (Nat → Int64)) : Option (Int32 × (Nat → Int32) × (Nat → Int32) × (Nat → Int32) × (Nat → Int32) × (Nat → Int32) × (Nat → Int32) × (Nat → Int64) × (Nat → Int64)) := if v4 < v5 then (some (1, x33, x68, x69, x70, x71, x73, yruz2, y34)) else (bd1 (fX6_isAsNoted x16 x28 x29 x30 x68 x69) fun r_1 => (if r_1 = 0 then (some (0, x33, x68, x69, x70, x71, x73, yruz2, y34)) else (if v5 = v3 then (gd (cpok 0 ((x67 3) * 6) 6 6 42) (fX0_isSoR_80 Lru xruz1 x16 x17 x18 x19 x20 x21 x22 x28 x29 x30 x67 k30 v3 v4 v5 x33 x68 x69 x70 x71 (va_cpy x69 x73 (0 : Int32).toNatClampNeg ((x67 3) * 6).toNatClampNeg (6 : Int32).toNatClampNeg) yruz2 y34)) else (fX0_isSoR_80 Lru xruz1 x16 x17 x18 x19 x20 x21 x22 x28 x29 x30 x67 k30 v3 v4 v5 x33 x68 x69 x70 x71 x73 yruz2 y34))))
def fX0_isSoR_30  (Lru : Nat) (xruz1 : Nat → Int32) (x16 : Nat → Int32) (x17 : Nat → Int32) (x18 : Nat → Int32) (x19 : Nat → Int32) (x20 : Nat → Int32) (x21 : Nat → Int32) (x22 : Nat → Int32) (x28 : Nat → Int32) (x29 : Nat → Int32) (x30 : Nat → Int32) (x67 : Nat → Int32)  : Int32 → Int32 → Int32 → (Nat → Int32) → (Nat → Int32) → (Nat → Int32) → (Nat → Int32) → (Nat → Int32) → (Nat → Int32) → (Nat → Int64) → (Nat → Int64) → Option (Int32 × (Nat → Int32) × (Nat → Int32) × (Nat → Int32) × (Nat → Int32) × (Nat → Int32) × (Nat → Int32) × (Nat → Int64) × (Nat → Int64)) := lq11 (fX0_isSoR_30b Lru xruz1 x16 x17 x18 x19 x20 x21 x22 x28 x29 x30 x67 ) 5000
set_option maxHeartbeats 4000000 in
set_option maxRecDepth 100000 in
theorem wX0_isSoR_30 {l : Launch} {b0 : Nat} {D : GD} {K : KT} {n : Nat} {κ : QT} {X0 : XT} {Y0 : YT} {Z : ZT} {ru : Nat} {Lru : Nat} (hL : LY n κ) (hk_ru : κ ru = (4, 0)) (hn_ru : ru < n) (hk_ru_1 : κ (ru + 1) = (14, Lru)) (hN : ([ru + 1, 16, 17, 18, 19, 20, 21, 22, 28, 29, 30, 33, 67, 68, 69, 70, 71, 73] : List Nat).Nodup) (hM : ([ru + 2, 34] : List Nat).Nodup) (hC : gC l b0 D K RX0 cX0_isSo (some FieldType.boolean) 6 5 138 0 0) {xruz1 : Nat → Int32} {x16 : Nat → Int32} {x17 : Nat → Int32} {x18 : Nat → Int32} {x19 : Nat → Int32} {x20 : Nat → Int32} {x21 : Nat → Int32} {x22 : Nat → Int32} {x28 : Nat → Int32} {x29 : Nat → Int32} {x30 : Nat → Int32} {x67 : Nat → Int32} {r : Int32} {rx33 : (Nat → Int32)} {rx68 : (Nat → Int32)} {rx69 : (Nat → Int32)} {rx70 : (Nat → Int32)} {rx71 : (Nat → Int32)} {rx73 : (Nat → Int32)} {ryruz2 : (Nat → Int64)} {ry34 : (Nat → Int64)} (hret : ∀ pc loc, narrow .boolean (.int r) = .int r → decode cX0_isSo pc = .ok (.ireturn, 1) → gV l b0 D K (n, κ, ov X0 [ru + 1, 16, 17, 18, 19, 20, 21, 22, 28, 29, 30, 33, 67, 68, 69, 70, 71, 73] [xruz1, x16, x17, x18, x19, x20, x21, x22, x28, x29, x30, rx33, x67, rx68, rx69, rx70, rx71, rx73], ov Y0 [ru + 2, 34] [ryruz2, ry34], Z, 0, 0) pc loc [.int r]) : ∀ (j : Nat) (v3 : Int32) (v4 : Int32) (v5 : Int32) (x33 : (Nat → Int32)) (x68 : (Nat → Int32)) (x69 : (Nat → Int32)) (x70 : (Nat → Int32)) (x71 : (Nat → Int32)) (x73 : (Nat → Int32)) (yruz2 : (Nat → Int64)) (y34 : (Nat → Int64)), lq11 (fX0_isSoR_30b Lru xruz1 x16 x17 x18 x19 x20 x21 x22 x28 x29 x30 x67 ) j v3 v4 v5 x33 x68 x69 x70 x71 x73 yruz2 y34 = some (r, rx33, rx68, rx69, rx70, rx71, rx73, ryruz2, ry34) → gV l b0 D K (n, κ, ov X0 [ru + 1, 16, 17, 18, 19, 20, 21, 22, 28, 29, 30, 33, 67, 68, 69, 70, 71, 73] [xruz1, x16, x17, x18, x19, x20, x21, x22, x28, x29, x30, x33, x67, x68, x69, x70, x71, x73], ov Y0 [ru + 2, 34] [yruz2, y34], Z, 0, 0) 30 [(0, .ref (b0 + 67)), (1, .ref (b0 + 16)), (2, .ref (b0 + ru)), (3, .int v3), (4, .int v4), (5, .int v5)] [] := by
  intro j
  induction j with
  | zero => intro v3 v4 v5 x33 x68 x69 x70 x71 x73 yruz2 y34 hf; cases hf
  | succ j hk30 =>
    intro v3 v4 v5 x33 x68 x69 x70 x71 x73 yruz2 y34 hf
    replace hf : fX0_isSoR_30b Lru xruz1 x16 x17 x18 x19 x20 x21 x22 x28 x29 x30 x67  (lq11 (fX0_isSoR_30b Lru xruz1 x16 x17 x18 x19 x20 x21 x22 x28 x29 x30 x67 ) j) v3 v4 v5 x33 x68 x69 x70 x71 x73 yruz2 y34 = some (r, rx33, rx68, rx69, rx70, rx71, rx73, ryruz2, ry34) := hf
    unfold fX0_isSoR_30b at hf
    refine g_iload hC 5 dX0_isSo_30 rfl ?_
    refine g_iload hC 4 dX0_isSo_32 rfl ?_
    refine g_icmp_gt hC 113 dX0_isSo_34 (by decide) (fun hc => ?_) (fun hc => ?_)
    · replace hf := ifT hf hc
      refine g_iconst hC (v := 1) dX0_isSo_113 ic_1 ?_
      obtain ⟨rfl, rfl, rfl, rfl, rfl, rfl, rfl, rfl, rfl⟩ := sm9E hf
      exact hret _ _ rfl dX0_isSo_114
    · replace hf := ifF hf hc
      refine g_aload_n hC 1 dX0_isSo_37 rfl rfl ?_
      refine g_aload_n hC 0 dX0_isSo_38 rfl rfl ?_
      refine gt_X0_12 hC (a := 67) (kk_67 hL) (kn_67 hL) dX0_isSo_39 ?_
      refine g_ref (b := 68) rfl ?_
      obtain ⟨r_1, q_2, hf⟩ := bd1E hf
      refine g_callV_i (a := 16) hC (X' := ov X0 [ru + 1, 16, 17, 18, 19, 20, 21, 22, 28, 29, 30, 33, 67, 68, 69, 70, 71, 73] [xruz1, x16, x17, x18, x19, x20, x21, x22, x28, x29, x30, x33, x67, x68, x69, x70, x71, x73]) (Y' := ov Y0 [ru + 2, 34] [yruz2, y34]) (As := [.ref (b0 + 68)]) (gMi_eq (c_X6_isAsNoted l hL (ov_map hN [1, 8, 9, 10, 13, 14] (by rfl) (by rfl)) (ov_map hM [] (by rfl) (by rfl)) q_2) (ov_ovE hN (by rfl) [1, 8, 9, 10, 13, 14] [0, 2, 3, 4, 5, 6, 7, 11, 12, 15, 16, 17] (by rfl) (by rfl) [xruz1, x17, x18, x19, x20, x21, x22, x33, x67, x70, x71, x73] (by rfl) (by rfl) (by rfl) 18 (by rfl) (by decide)) (ov_ovE hM (by rfl) [] [0, 1] (by rfl) (by rfl) [yruz2, y34] (by rfl) (by rfl) (by rfl) 2 (by rfl) (by decide))) tw_1111 tw_1108 tw_122 tw_1109 tw_1110 (ci := 6) rfl (by decide) (kk_16 hL) (kn_16 hL) pd_X6_isAsNoted (by decide) (by decide) rfl rfl (Nat.le_of_ble_eq_true rfl) rfl dX0_isSo_42 ?_
      refine g_if_ne hC 50 dX0_isSo_45 (by decide) (fun hc => ?_) (fun hc => ?_)
      · replace hf := ifF hf hc
        refine g_iload hC 5 dX0_isSo_50 rfl ?_
        refine g_iload_n hC 3 dX0_isSo_52 rfl rfl ?_
        refine g_icmp_ne hC 80 dX0_isSo_53 (by decide) (fun hc => ?_) (fun hc => ?_)
        · replace hf := ifF hf hc
          exact g_sub [0, 1, 2, 3, 4, 5] rfl (wX0_isSoR_80 hL hk_ru hn_ru hk_ru_1 hN hM hC  hret hk30 hf)
        · replace hf := ifT hf hc
          refine g_aload_n hC 0 dX0_isSo_56 rfl rfl ?_
          refine gt_X0_12 hC (a := 67) (kk_67 hL) (kn_67 hL) dX0_isSo_57 ?_
          refine g_ref (b := 68) rfl ?_
          refine gt_X0_68 hC (a := 68) (kk_68 hL) (kn_68 hL) dX0_isSo_60 ?_
          refine g_ref (b := 69) rfl ?_
          refine g_iconst hC (v := 0) dX0_isSo_63 ic_0 ?_
          refine g_aload_n hC 0 dX0_isSo_64 rfl rfl ?_
          refine gt_X0_22 hC (a := 67) (kk_67 hL) (kn_67 hL) dX0_isSo_65 ?_
          refine g_ref (b := 73) rfl ?_
          refine g_aload_n hC 0 dX0_isSo_68 rfl rfl ?_
          refine gt_X0_29 hC (x := x67) (kk_67 hL) (kn_67 hL) (ov_get hN 12 rfl rfl) dX0_isSo_69 ?_
          refine g_bipush hC (v := 6) dX0_isSo_72 bp_6 ?_
          refine g_imul hC dX0_isSo_74 ?_
          refine g_bipush hC (v := 6) dX0_isSo_75 bp_6 ?_
          obtain ⟨h_3, hf⟩ := gdE hf
          refine g_copy hC (f := x69) (g := x73) tw_1112 (kk_69 hL) (kn_69 hL) (kk_73 hL) (kn_73 hL)  (ov_get hN 14 rfl rfl) (ov_get hN 17 rfl rfl) h_3 (ov_set hN (by rfl) 17 (by rfl)) (by decide) (by decide) dX0_isSo_77 ?_
          show gV l b0 D K (n, κ, ov X0 [ru + 1, 16, 17, 18, 19, 20, 21, 22, 28, 29, 30, 33, 67, 68, 69, 70, 71, 73] [xruz1, x16, x17, x18, x19, x20, x21, x22, x28, x29, x30, x33, x67, x68, x69, x70, x71, (va_cpy x69 x73 (0 : Int32).toNatClampNeg ((x67 3) * 6).toNatClampNeg (6 : Int32).toNatClampNeg)], ov Y0 [ru + 2, 34] [yruz2, y34], Z, 0, 0) 80 [(0, .ref (b0 + 67)), (1, .ref (b0 + 16)), (2, .ref (b0 + ru)), (3, .int v3), (4, .int v4), (5, .int v5)] []
          exact g_sub [0, 1, 2, 3, 4, 5] rfl (wX0_isSoR_80 hL hk_ru hn_ru hk_ru_1 hN hM hC  hret hk30 hf)
      · replace hf := ifT hf hc
        refine g_iconst hC (v := 0) dX0_isSo_48 ic_0 ?_
        obtain ⟨rfl, rfl, rfl, rfl, rfl, rfl, rfl, rfl, rfl⟩ := sm9E hf
        exact hret _ _ rfl dX0_isSo_49

def fX0_isSoR_0  (Lru : Nat) (xruz1 : Nat → Int32) (x16 : Nat → Int32) (x17 : Nat → Int32) (x18 : Nat → Int32) (x19 : Nat → Int32) (x20 : Nat → Int32) (x21 : Nat → Int32) (x22 : Nat → Int32) (x28 : Nat → Int32) (x29 : Nat → Int32) (x30 : Nat → Int32) (x67 : Nat → Int32)  (v3 : Int32) (x33 : (Nat → Int32)) (x68 : (Nat → Int32)) (x69 : (Nat → Int32)) (x70 : (Nat → Int32)) (x71 : (Nat → Int32)) (x73 : (Nat → Int32)) (yruz2 : (Nat → Int64)) (y34 : (Nat → Int64)) : Option (Int32 × (Nat → Int32) × (Nat → Int32) × (Nat → Int32) × (Nat → Int32) × (Nat → Int32) × (Nat → Int32) × (Nat → Int64) × (Nat → Int64)) := bd1 (fX6_lastNotedDay x16 x28) fun r_1 => (bn ((if v3 < r_1 then r_1 else v3)) fun t_3 => (bd4 (fX7_copy x19 x20 x21 x22 x68 x69 x70 x71) fun x68_4 x69_5 x70_6 x71_7 => (fX0_isSoR_30 Lru xruz1 x16 x17 x18 x19 x20 x21 x22 x28 x29 x30 x67  v3 t_3 0 x33 x68_4 x69_5 x70_6 x71_7 x73 yruz2 y34)))
set_option maxHeartbeats 4000000 in
set_option maxRecDepth 100000 in
theorem wX0_isSoR_0 {l : Launch} {b0 : Nat} {D : GD} {K : KT} {n : Nat} {κ : QT} {X0 : XT} {Y0 : YT} {Z : ZT} {ru : Nat} {Lru : Nat} (hL : LY n κ) (hk_ru : κ ru = (4, 0)) (hn_ru : ru < n) (hk_ru_1 : κ (ru + 1) = (14, Lru)) (hN : ([ru + 1, 16, 17, 18, 19, 20, 21, 22, 28, 29, 30, 33, 67, 68, 69, 70, 71, 73] : List Nat).Nodup) (hM : ([ru + 2, 34] : List Nat).Nodup) (hC : gC l b0 D K RX0 cX0_isSo (some FieldType.boolean) 6 5 138 0 0) {xruz1 : Nat → Int32} {x16 : Nat → Int32} {x17 : Nat → Int32} {x18 : Nat → Int32} {x19 : Nat → Int32} {x20 : Nat → Int32} {x21 : Nat → Int32} {x22 : Nat → Int32} {x28 : Nat → Int32} {x29 : Nat → Int32} {x30 : Nat → Int32} {x67 : Nat → Int32} {r : Int32} {rx33 : (Nat → Int32)} {rx68 : (Nat → Int32)} {rx69 : (Nat → Int32)} {rx70 : (Nat → Int32)} {rx71 : (Nat → Int32)} {rx73 : (Nat → Int32)} {ryruz2 : (Nat → Int64)} {ry34 : (Nat → Int64)} (hret : ∀ pc loc, narrow .boolean (.int r) = .int r → decode cX0_isSo pc = .ok (.ireturn, 1) → gV l b0 D K (n, κ, ov X0 [ru + 1, 16, 17, 18, 19, 20, 21, 22, 28, 29, 30, 33, 67, 68, 69, 70, 71, 73] [xruz1, x16, x17, x18, x19, x20, x21, x22, x28, x29, x30, rx33, x67, rx68, rx69, rx70, rx71, rx73], ov Y0 [ru + 2, 34] [ryruz2, ry34], Z, 0, 0) pc loc [.int r]) {v3 : Int32} {x33 : (Nat → Int32)} {x68 : (Nat → Int32)} {x69 : (Nat → Int32)} {x70 : (Nat → Int32)} {x71 : (Nat → Int32)} {x73 : (Nat → Int32)} {yruz2 : (Nat → Int64)} {y34 : (Nat → Int64)} (hf : fX0_isSoR_0 Lru xruz1 x16 x17 x18 x19 x20 x21 x22 x28 x29 x30 x67  v3 x33 x68 x69 x70 x71 x73 yruz2 y34 = some (r, rx33, rx68, rx69, rx70, rx71, rx73, ryruz2, ry34)) : gV l b0 D K (n, κ, ov X0 [ru + 1, 16, 17, 18, 19, 20, 21, 22, 28, 29, 30, 33, 67, 68, 69, 70, 71, 73] [xruz1, x16, x17, x18, x19, x20, x21, x22, x28, x29, x30, x33, x67, x68, x69, x70, x71, x73], ov Y0 [ru + 2, 34] [yruz2, y34], Z, 0, 0) 0 [(0, .ref (b0 + 67)), (1, .ref (b0 + 16)), (2, .ref (b0 + ru)), (3, .int v3)] [] := by
  unfold fX0_isSoR_0 at hf
  refine g_iload_n hC 3 dX0_isSo_0 rfl rfl ?_
  refine g_aload_n hC 1 dX0_isSo_1 rfl rfl ?_
  obtain ⟨r_1, q_2, hf⟩ := bd1E hf
  refine g_callV_i (a := 16) hC (X' := ov X0 [ru + 1, 16, 17, 18, 19, 20, 21, 22, 28, 29, 30, 33, 67, 68, 69, 70, 71, 73] [xruz1, x16, x17, x18, x19, x20, x21, x22, x28, x29, x30, x33, x67, x68, x69, x70, x71, x73]) (Y' := ov Y0 [ru + 2, 34] [yruz2, y34]) (As := []) (gMi_eq (c_X6_lastNotedDay l hL (ov_map hN [1, 8] (by rfl) (by rfl)) (ov_map hM [] (by rfl) (by rfl)) q_2) (ov_ovE hN (by rfl) [1, 8] [0, 2, 3, 4, 5, 6, 7, 9, 10, 11, 12, 13, 14, 15, 16, 17] (by rfl) (by rfl) [xruz1, x17, x18, x19, x20, x21, x22, x29, x30, x33, x67, x68, x69, x70, x71, x73] (by rfl) (by rfl) (by rfl) 18 (by rfl) (by decide)) (ov_ovE hM (by rfl) [] [0, 1] (by rfl) (by rfl) [yruz2, y34] (by rfl) (by rfl) (by rfl) 2 (by rfl) (by decide))) tw_1104 tw_1101 tw_122 tw_1102 tw_1103 (ci := 6) rfl (by decide) (kk_16 hL) (kn_16 hL) pd_X6_lastNotedDay (by decide) (by decide) rfl rfl (Nat.le_of_ble_eq_true rfl) rfl dX0_isSo_2 ?_
  refine g_mmax hC tw_1106 (by decide) (Nat.le_of_ble_eq_true rfl) dX0_isSo_5 ?_
  obtain ⟨t_3, et_3, hf⟩ := bnE hf
  refine g_topi et_3 ?_
  refine g_istore hC (i := 4) [(4, .int t_3), (0, .ref (b0 + 67)), (1, .ref (b0 + 16)), (2, .ref (b0 + ru)), (3, .int v3)] dX0_isSo_8 (by decide) rfl ?_
  refine g_aload_n hC 1 dX0_isSo_10 rfl rfl ?_
  refine gt_X0_12 hC (a := 67) (kk_67 hL) (kn_67 hL) dX0_isSo_11 ?_
  refine g_ref (b := 68) rfl ?_
  refine g_aload_n hC 1 dX0_isSo_14 rfl rfl ?_
  refine gt_X0_25 hC (a := 67) (kk_67 hL) (kn_67 hL) dX0_isSo_15 ?_
  refine g_ref (b := 32) rfl ?_
  refine gt_X0_49 hC (a := 32) (kk_32 hL) (kn_32 hL) dX0_isSo_18 ?_
  refine g_ref (b := 17) rfl ?_
  refine gt_X0_55 hC (a := 17) (kk_17 hL) (kn_17 hL) dX0_isSo_21 ?_
  refine g_ref (b := 19) rfl ?_
  obtain ⟨x68_4, x69_5, x70_6, x71_7, q_8, hf⟩ := bd4E hf
  refine g_callV_v (a := 68) hC (X' := ov X0 [ru + 1, 16, 17, 18, 19, 20, 21, 22, 28, 29, 30, 33, 67, 68, 69, 70, 71, 73] [xruz1, x16, x17, x18, x19, x20, x21, x22, x28, x29, x30, x33, x67, x68_4, x69_5, x70_6, x71_7, x73]) (Y' := ov Y0 [ru + 2, 34] [yruz2, y34]) (As := [.ref (b0 + 19)]) (gMv_eq (c_X7_copy l hL (kk_68 hL) (kn_68 hL) (kk_19 hL) (kn_19 hL) (nd_sub hN [13, 14, 15, 16, 4, 5, 6, 7] (by decide) (by rfl)) (nd_sub hM [] (by decide) (by rfl)) (ov_map hN [13, 14, 15, 16, 4, 5, 6, 7] (by rfl) (by rfl)) (ov_map hM [] (by rfl) (by rfl)) q_8) (ov_ovE hN (by rfl) [13, 14, 15, 16, 4, 5, 6, 7] [0, 1, 2, 3, 8, 9, 10, 11, 12, 17] (by rfl) (by rfl) [xruz1, x16, x17, x18, x28, x29, x30, x33, x67, x73] (by rfl) (by rfl) (by rfl) 18 (by rfl) (by decide)) (ov_ovE hM (by rfl) [] [0, 1] (by rfl) (by rfl) [yruz2, y34] (by rfl) (by rfl) (by rfl) 2 (by rfl) (by decide))) tw_707 tw_1107 tw_120 tw_705 tw_706 (ci := 7) rfl (by decide) (kk_68 hL) (kn_68 hL) pd_X7_copy (by decide) (by decide) rfl rfl (Nat.le_of_ble_eq_true rfl) rfl dX0_isSo_24 ?_
  refine g_iconst hC (v := 0) dX0_isSo_27 ic_0 ?_
  refine g_istore hC (i := 5) [(5, .int 0), (4, .int t_3), (0, .ref (b0 + 67)), (1, .ref (b0 + 16)), (2, .ref (b0 + ru)), (3, .int v3)] dX0_isSo_28 (by decide) rfl ?_
  exact g_sub [2, 3, 4, 5, 1, 0] rfl (wX0_isSoR_30 hL hk_ru hn_ru hk_ru_1 hN hM hC  hret  5000 v3 t_3 0 x33 x68_4 x69_5 x70_6 x71_7 x73 yruz2 y34 hf)

def fX0_isSoR  (Lru : Nat) (xruz1 : Nat → Int32) (x16 : Nat → Int32) (x17 : Nat → Int32) (x18 : Nat → Int32) (x19 : Nat → Int32) (x20 : Nat → Int32) (x21 : Nat → Int32) (x22 : Nat → Int32) (x28 : Nat → Int32) (x29 : Nat → Int32) (x30 : Nat → Int32) (x67 : Nat → Int32)  (v3 : Int32) (x33 : Nat → Int32) (x68 : Nat → Int32) (x69 : Nat → Int32) (x70 : Nat → Int32) (x71 : Nat → Int32) (x73 : Nat → Int32) (yruz2 : Nat → Int64) (y34 : Nat → Int64) : Option (Int32 × (Nat → Int32) × (Nat → Int32) × (Nat → Int32) × (Nat → Int32) × (Nat → Int32) × (Nat → Int32) × (Nat → Int64) × (Nat → Int64)) := fX0_isSoR_0 Lru xruz1 x16 x17 x18 x19 x20 x21 x22 x28 x29 x30 x67 v3 x33 x68 x69 x70 x71 x73 yruz2 y34

set_option maxHeartbeats 4000000 in
set_option maxRecDepth 100000 in
theorem c_X0_isSoR (l : Launch) {b0 : Nat} {D : GD} {n : Nat} {κ : QT} {X0 : XT} {Y0 : YT} {Z : ZT} {ru : Nat} {Lru : Nat} (hL : LY n κ) (hk_ru : κ ru = (4, 0)) (hn_ru : ru < n) (hk_ru_1 : κ (ru + 1) = (14, Lru)) (hN : ([ru + 1, 16, 17, 18, 19, 20, 21, 22, 28, 29, 30, 33, 67, 68, 69, 70, 71, 73] : List Nat).Nodup) (hM : ([ru + 2, 34] : List Nat).Nodup) {xruz1 : Nat → Int32} {x16 : Nat → Int32} {x17 : Nat → Int32} {x18 : Nat → Int32} {x19 : Nat → Int32} {x20 : Nat → Int32} {x21 : Nat → Int32} {x22 : Nat → Int32} {x28 : Nat → Int32} {x29 : Nat → Int32} {x30 : Nat → Int32} {x33 : Nat → Int32} {x67 : Nat → Int32} {x68 : Nat → Int32} {x69 : Nat → Int32} {x70 : Nat → Int32} {x71 : Nat → Int32} {x73 : Nat → Int32} {yruz2 : Nat → Int64} {y34 : Nat → Int64} (hx : ([ru + 1, 16, 17, 18, 19, 20, 21, 22, 28, 29, 30, 33, 67, 68, 69, 70, 71, 73] : List Nat).map X0 = [xruz1, x16, x17, x18, x19, x20, x21, x22, x28, x29, x30, x33, x67, x68, x69, x70, x71, x73]) (hy : ([ru + 2, 34] : List Nat).map Y0 = [yruz2, y34]) {v3 : Int32} {r : Int32} {rx33 : (Nat → Int32)} {rx68 : (Nat → Int32)} {rx69 : (Nat → Int32)} {rx70 : (Nat → Int32)} {rx71 : (Nat → Int32)} {rx73 : (Nat → Int32)} {ryruz2 : (Nat → Int64)} {ry34 : (Nat → Int64)} (hf : fX0_isSoR Lru xruz1 x16 x17 x18 x19 x20 x21 x22 x28 x29 x30 x67 v3 x33 x68 x69 x70 x71 x73 yruz2 y34 = some (r, rx33, rx68, rx69, rx70, rx71, rx73, ryruz2, ry34)) : gMi l yX0_isSo cX0_isSo 6 (some FieldType.boolean) 5 138 0 0 b0 D [.ref (b0 + 67), .ref (b0 + 16), .ref (b0 + ru), .int v3] (n, κ, X0, Y0, Z) (n, κ, ov X0 [ru + 1, 16, 17, 18, 19, 20, 21, 22, 28, 29, 30, 33, 67, 68, 69, 70, 71, 73] [xruz1, x16, x17, x18, x19, x20, x21, x22, x28, x29, x30, rx33, x67, rx68, rx69, rx70, rx71, rx73], ov Y0 [ru + 2, 34] [ryruz2, ry34], Z) r := by
  refine g_meti (own := RX0) (by decide) rfl rfl (Nat.le_of_ble_eq_true rfl) ?_
  intro K hC hret
  have e := wX0_isSoR_0 hL hk_ru hn_ru hk_ru_1 hN hM hC  hret hf
  rw [ov_id' hx, ov_id' hy] at e
  exact g_sub [0, 1, 2, 3] rfl e

-- X0_isSo
def fX0_isSoN_80   (x16 : Nat → Int32) (x17 : Nat → Int32) (x18 : Nat → Int32) (x19 : Nat → Int32) (x20 : Nat → Int32) (x21 : Nat → Int32) (x22 : Nat → Int32) (x28 : Nat → Int32) (x29 : Nat → Int32) (x30 : Nat → Int32) (x67 : Nat → Int32)  (k30 : Int32 → Int32 → Int32 → (Nat → Int32) → (Nat → Int32) → (Nat → Int32) → (Nat → Int32) → (Nat → Int32) → (Nat → Int32) → Option (Int32 × (Nat → Int32) × (Nat → Int32) × (Nat → Int32) × (Nat → Int32) × (Nat → Int32) × (Nat → Int32))) (v3 : Int32) (v4 : Int32) (v5 : Int32) (x33 : (Nat → Int32)) (x68 : (Nat → Int32)) (x69 : (Nat → Int32)) (x70 : (Nat → Int32)) (x71 : (Nat → Int32)) (x73 : (Nat → Int32)) : Option (Int32 × (Nat → Int32) × (Nat → Int32) × (Nat → Int32) × (Nat → Int32) × (Nat → Int32) × (Nat → Int32)) := bd1 (fX9_heatOf x68 x17 x18) fun r_1 => (bd6 (fX1_passN x17 r_1 x68 x69 x70 x71 x33) fun r_3 x68_4 x69_5 x70_6 x71_7 x33_8 => (bn (v5 + 1) fun t_10 => (k30 v3 v4 t_10 x33_8 x68_4 x69_5 x70_6 x71_7 x73)))
set_option maxHeartbeats 4000000 in
set_option maxRecDepth 100000 in
theorem wX0_isSoN_80 {l : Launch} {b0 : Nat} {D : GD} {K : KT} {n : Nat} {κ : QT} {X0 : XT} {Y0 : YT} {Z : ZT} (hL : LY n κ) (hN : ([16, 17, 18, 19, 20, 21, 22, 28, 29, 30, 33, 67, 68, 69, 70, 71, 73] : List Nat).Nodup) (hM : ([] : List Nat).Nodup) (hC : gC l b0 D K RX0 cX0_isSo (some FieldType.boolean) 6 5 138 0 0) {x16 : Nat → Int32} {x17 : Nat → Int32} {x18 : Nat → Int32} {x19 : Nat → Int32} {x20 : Nat → Int32} {x21 : Nat → Int32} {x22 : Nat → Int32} {x28 : Nat → Int32} {x29 : Nat → Int32} {x30 : Nat → Int32} {x67 : Nat → Int32} {r : Int32} {rx33 : (Nat → Int32)} {rx68 : (Nat → Int32)} {rx69 : (Nat → Int32)} {rx70 : (Nat → Int32)} {rx71 : (Nat → Int32)} {rx73 : (Nat → Int32)} (hret : ∀ pc loc, narrow .boolean (.int r) = .int r → decode cX0_isSo pc = .ok (.ireturn, 1) → gV l b0 D K (n, κ, ov X0 [16, 17, 18, 19, 20, 21, 22, 28, 29, 30, 33, 67, 68, 69, 70, 71, 73] [x16, x17, x18, x19, x20, x21, x22, x28, x29, x30, rx33, x67, rx68, rx69, rx70, rx71, rx73], ov Y0 [] [], Z, 0, 0) pc loc [.int r]) {k30 : Int32 → Int32 → Int32 → (Nat → Int32) → (Nat → Int32) → (Nat → Int32) → (Nat → Int32) → (Nat → Int32) → (Nat → Int32) → Option (Int32 × (Nat → Int32) × (Nat → Int32) × (Nat → Int32) × (Nat → Int32) × (Nat → Int32) × (Nat → Int32))} (hk30 : ∀ (v3 : Int32) (v4 : Int32) (v5 : Int32) (x33 : (Nat → Int32)) (x68 : (Nat → Int32)) (x69 : (Nat → Int32)) (x70 : (Nat → Int32)) (x71 : (Nat → Int32)) (x73 : (Nat → Int32)), k30 v3 v4 v5 x33 x68 x69 x70 x71 x73 = some (r, rx33, rx68, rx69, rx70, rx71, rx73) → gV l b0 D K (n, κ, ov X0 [16, 17, 18, 19, 20, 21, 22, 28, 29, 30, 33, 67, 68, 69, 70, 71, 73] [x16, x17, x18, x19, x20, x21, x22, x28, x29, x30, x33, x67, x68, x69, x70, x71, x73], ov Y0 [] [], Z, 0, 0) 30 [(0, .ref (b0 + 67)), (1, .ref (b0 + 16)), (2, .null), (3, .int v3), (4, .int v4), (5, .int v5)] []) {v3 : Int32} {v4 : Int32} {v5 : Int32} {x33 : (Nat → Int32)} {x68 : (Nat → Int32)} {x69 : (Nat → Int32)} {x70 : (Nat → Int32)} {x71 : (Nat → Int32)} {x73 : (Nat → Int32)} (hf : fX0_isSoN_80 x16 x17 x18 x19 x20 x21 x22 x28 x29 x30 x67 k30 v3 v4 v5 x33 x68 x69 x70 x71 x73 = some (r, rx33, rx68, rx69, rx70, rx71, rx73)) : gV l b0 D K (n, κ, ov X0 [16, 17, 18, 19, 20, 21, 22, 28, 29, 30, 33, 67, 68, 69, 70, 71, 73] [x16, x17, x18, x19, x20, x21, x22, x28, x29, x30, x33, x67, x68, x69, x70, x71, x73], ov Y0 [] [], Z, 0, 0) 80 [(0, .ref (b0 + 67)), (1, .ref (b0 + 16)), (2, .null), (3, .int v3), (4, .int v4), (5, .int v5)] [] := by
  unfold fX0_isSoN_80 at hf
  refine g_aload_n hC 0 dX0_isSo_80 rfl rfl ?_
  refine gt_X0_25 hC (a := 67) (kk_67 hL) (kn_67 hL) dX0_isSo_81 ?_
  refine g_ref (b := 32) rfl ?_
  refine g_aload_n hC 0 dX0_isSo_84 rfl rfl ?_
  refine gt_X0_12 hC (a := 67) (kk_67 hL) (kn_67 hL) dX0_isSo_85 ?_
  refine g_ref (b := 68) rfl ?_
  refine g_aload_nN hC 2 dX0_isSo_88 rfl rfl ?_
  refine g_aload_n hC 0 dX0_isSo_89 rfl rfl ?_
  refine gt_X0_25 hC (a := 67) (kk_67 hL) (kn_67 hL) dX0_isSo_90 ?_
  refine g_ref (b := 32) rfl ?_
  refine gt_X0_49 hC (a := 32) (kk_32 hL) (kn_32 hL) dX0_isSo_93 ?_
  refine g_ref (b := 17) rfl ?_
  refine g_aload_n hC 0 dX0_isSo_96 rfl rfl ?_
  refine gt_X0_12 hC (a := 67) (kk_67 hL) (kn_67 hL) dX0_isSo_97 ?_
  refine g_ref (b := 68) rfl ?_
  obtain ⟨r_1, q_2, hf⟩ := bd1E hf
  refine g_callV_i (a := 17) hC (X' := ov X0 [16, 17, 18, 19, 20, 21, 22, 28, 29, 30, 33, 67, 68, 69, 70, 71, 73] [x16, x17, x18, x19, x20, x21, x22, x28, x29, x30, x33, x67, x68, x69, x70, x71, x73]) (Y' := ov Y0 [] []) (As := [.ref (b0 + 68)]) (gMi_eq (c_X9_heatOf l hL (kk_68 hL) (kn_68 hL) (nd_sub hN [12, 1, 2] (by decide) (by rfl)) (nd_sub hM [] (by decide) (by rfl)) (ov_map hN [12, 1, 2] (by rfl) (by rfl)) (ov_map hM [] (by rfl) (by rfl)) q_2) (ov_ovE hN (by rfl) [12, 1, 2] [0, 3, 4, 5, 6, 7, 8, 9, 10, 11, 13, 14, 15, 16] (by rfl) (by rfl) [x16, x19, x20, x21, x22, x28, x29, x30, x33, x67, x69, x70, x71, x73] (by rfl) (by rfl) (by rfl) 17 (by rfl) (by decide)) (ov_ovE hM (by rfl) [] [] (by rfl) (by rfl) [] (by rfl) (by rfl) (by rfl) 0 (by rfl) (by decide))) tw_806 tw_1113 tw_119 tw_804 tw_805 (ci := 9) rfl (by decide) (kk_17 hL) (kn_17 hL) pd_X9_heatOf (by decide) (by decide) rfl rfl (Nat.le_of_ble_eq_true rfl) rfl dX0_isSo_100 ?_
  obtain ⟨r_3, x68_4, x69_5, x70_6, x71_7, x33_8, q_9, hf⟩ := bd6E hf
  refine g_callV_i (a := 32) hC (X' := ov X0 [16, 17, 18, 19, 20, 21, 22, 28, 29, 30, 33, 67, 68, 69, 70, 71, 73] [x16, x17, x18, x19, x20, x21, x22, x28, x29, x30, x33_8, x67, x68_4, x69_5, x70_6, x71_7, x73]) (Y' := ov Y0 [] []) (As := [.ref (b0 + 68), .null, .int r_1]) (gMi_eq (c_X1_passN l hL (kk_68 hL) (kn_68 hL) (nd_sub hN [12, 13, 14, 15, 1, 10] (by decide) (by rfl)) (nd_sub hM [] (by decide) (by rfl)) (ov_map hN [12, 13, 14, 15, 1, 10] (by rfl) (by rfl)) (ov_map hM [] (by rfl) (by rfl)) q_9) (ov_ovE hN (by rfl) [12, 13, 14, 15, 1, 10] [0, 2, 3, 4, 5, 6, 7, 8, 9, 11, 16] (by rfl) (by rfl) [x16, x18, x19, x20, x21, x22, x28, x29, x30, x67, x73] (by rfl) (by rfl) (by rfl) 17 (by rfl) (by decide)) (ov_ovE hM (by rfl) [] [] (by rfl) (by rfl) [] (by rfl) (by rfl) (by rfl) 0 (by rfl) (by decide))) tw_874 tw_1114 tw_123 tw_872 tw_873 (ci := 1) rfl (by decide) (kk_32 hL) (kn_32 hL) pd_X1_pass (by decide) (by decide) rfl rfl (Nat.le_of_ble_eq_true rfl) rfl dX0_isSo_103 ?_
  refine g_pop hC dX0_isSo_106 rfl ?_
  obtain ⟨t_10, et_10, hf⟩ := bnE hf
  refine g_iinc hC (i := 5) (v := t_10) [(5, .int t_10), (0, .ref (b0 + 67)), (1, .ref (b0 + 16)), (2, .null), (3, .int v3), (4, .int v4)] dX0_isSo_107 (q := 5) rfl ((congrArg (HAdd.hAdd v5) ic_1).trans et_10.symm) (by decide) rfl ?_
  refine g_goto hC 30 dX0_isSo_110 (by decide) ?_
  exact g_sub [1, 2, 3, 4, 5, 0] rfl (hk30 v3 v4 t_10 x33_8 x68_4 x69_5 x70_6 x71_7 x73 hf)

def fX0_isSoN_30b   (x16 : Nat → Int32) (x17 : Nat → Int32) (x18 : Nat → Int32) (x19 : Nat → Int32) (x20 : Nat → Int32) (x21 : Nat → Int32) (x22 : Nat → Int32) (x28 : Nat → Int32) (x29 : Nat → Int32) (x30 : Nat → Int32) (x67 : Nat → Int32)  (k30 : Int32 → Int32 → Int32 → (Nat → Int32) → (Nat → Int32) → (Nat → Int32) → (Nat → Int32) → (Nat → Int32) → (Nat → Int32) → Option (Int32 × (Nat → Int32) × (Nat → Int32) × (Nat → Int32) × (Nat → Int32) × (Nat → Int32) × (Nat → Int32))) (v3 : Int32) (v4 : Int32) (v5 : Int32) (x33 : (Nat → Int32)) (x68 : (Nat → Int32)) (x69 : (Nat → Int32)) (x70 : (Nat → Int32)) (x71 : (Nat → Int32)) (x73 : (Nat → Int32)) : Option (Int32 × (Nat → Int32) × (Nat → Int32) × (Nat → Int32) × (Nat → Int32) × (Nat → Int32) × (Nat → Int32)) := if v4 < v5 then (some (1, x33, x68, x69, x70, x71, x73)) else (bd1 (fX6_isAsNoted x16 x28 x29 x30 x68 x69) fun r_1 => (if r_1 = 0 then (some (0, x33, x68, x69, x70, x71, x73)) else (if v5 = v3 then (gd (cpok 0 ((x67 3) * 6) 6 6 42) (fX0_isSoN_80 x16 x17 x18 x19 x20 x21 x22 x28 x29 x30 x67 k30 v3 v4 v5 x33 x68 x69 x70 x71 (va_cpy x69 x73 (0 : Int32).toNatClampNeg ((x67 3) * 6).toNatClampNeg (6 : Int32).toNatClampNeg))) else (fX0_isSoN_80 x16 x17 x18 x19 x20 x21 x22 x28 x29 x30 x67 k30 v3 v4 v5 x33 x68 x69 x70 x71 x73))))
def fX0_isSoN_30   (x16 : Nat → Int32) (x17 : Nat → Int32) (x18 : Nat → Int32) (x19 : Nat → Int32) (x20 : Nat → Int32) (x21 : Nat → Int32) (x22 : Nat → Int32) (x28 : Nat → Int32) (x29 : Nat → Int32) (x30 : Nat → Int32) (x67 : Nat → Int32)  : Int32 → Int32 → Int32 → (Nat → Int32) → (Nat → Int32) → (Nat → Int32) → (Nat → Int32) → (Nat → Int32) → (Nat → Int32) → Option (Int32 × (Nat → Int32) × (Nat → Int32) × (Nat → Int32) × (Nat → Int32) × (Nat → Int32) × (Nat → Int32)) := lq9 (fX0_isSoN_30b x16 x17 x18 x19 x20 x21 x22 x28 x29 x30 x67 ) 5000
set_option maxHeartbeats 4000000 in
set_option maxRecDepth 100000 in
theorem wX0_isSoN_30 {l : Launch} {b0 : Nat} {D : GD} {K : KT} {n : Nat} {κ : QT} {X0 : XT} {Y0 : YT} {Z : ZT} (hL : LY n κ) (hN : ([16, 17, 18, 19, 20, 21, 22, 28, 29, 30, 33, 67, 68, 69, 70, 71, 73] : List Nat).Nodup) (hM : ([] : List Nat).Nodup) (hC : gC l b0 D K RX0 cX0_isSo (some FieldType.boolean) 6 5 138 0 0) {x16 : Nat → Int32} {x17 : Nat → Int32} {x18 : Nat → Int32} {x19 : Nat → Int32} {x20 : Nat → Int32} {x21 : Nat → Int32} {x22 : Nat → Int32} {x28 : Nat → Int32} {x29 : Nat → Int32} {x30 : Nat → Int32} {x67 : Nat → Int32} {r : Int32} {rx33 : (Nat → Int32)} {rx68 : (Nat → Int32)} {rx69 : (Nat → Int32)} {rx70 : (Nat → Int32)} {rx71 : (Nat → Int32)} {rx73 : (Nat → Int32)} (hret : ∀ pc loc, narrow .boolean (.int r) = .int r → decode cX0_isSo pc = .ok (.ireturn, 1) → gV l b0 D K (n, κ, ov X0 [16, 17, 18, 19, 20, 21, 22, 28, 29, 30, 33, 67, 68, 69, 70, 71, 73] [x16, x17, x18, x19, x20, x21, x22, x28, x29, x30, rx33, x67, rx68, rx69, rx70, rx71, rx73], ov Y0 [] [], Z, 0, 0) pc loc [.int r]) : ∀ (j : Nat) (v3 : Int32) (v4 : Int32) (v5 : Int32) (x33 : (Nat → Int32)) (x68 : (Nat → Int32)) (x69 : (Nat → Int32)) (x70 : (Nat → Int32)) (x71 : (Nat → Int32)) (x73 : (Nat → Int32)), lq9 (fX0_isSoN_30b x16 x17 x18 x19 x20 x21 x22 x28 x29 x30 x67 ) j v3 v4 v5 x33 x68 x69 x70 x71 x73 = some (r, rx33, rx68, rx69, rx70, rx71, rx73) → gV l b0 D K (n, κ, ov X0 [16, 17, 18, 19, 20, 21, 22, 28, 29, 30, 33, 67, 68, 69, 70, 71, 73] [x16, x17, x18, x19, x20, x21, x22, x28, x29, x30, x33, x67, x68, x69, x70, x71, x73], ov Y0 [] [], Z, 0, 0) 30 [(0, .ref (b0 + 67)), (1, .ref (b0 + 16)), (2, .null), (3, .int v3), (4, .int v4), (5, .int v5)] [] := by
  intro j
  induction j with
  | zero => intro v3 v4 v5 x33 x68 x69 x70 x71 x73 hf; cases hf
  | succ j hk30 =>
    intro v3 v4 v5 x33 x68 x69 x70 x71 x73 hf
    replace hf : fX0_isSoN_30b x16 x17 x18 x19 x20 x21 x22 x28 x29 x30 x67  (lq9 (fX0_isSoN_30b x16 x17 x18 x19 x20 x21 x22 x28 x29 x30 x67 ) j) v3 v4 v5 x33 x68 x69 x70 x71 x73 = some (r, rx33, rx68, rx69, rx70, rx71, rx73) := hf
    unfold fX0_isSoN_30b at hf
    refine g_iload hC 5 dX0_isSo_30 rfl ?_
    refine g_iload hC 4 dX0_isSo_32 rfl ?_
    refine g_icmp_gt hC 113 dX0_isSo_34 (by decide) (fun hc => ?_) (fun hc => ?_)
    · replace hf := ifT hf hc
      refine g_iconst hC (v := 1) dX0_isSo_113 ic_1 ?_
      obtain ⟨rfl, rfl, rfl, rfl, rfl, rfl, rfl⟩ := sm7E hf
      exact hret _ _ rfl dX0_isSo_114
    · replace hf := ifF hf hc
      refine g_aload_n hC 1 dX0_isSo_37 rfl rfl ?_
      refine g_aload_n hC 0 dX0_isSo_38 rfl rfl ?_
      refine gt_X0_12 hC (a := 67) (kk_67 hL) (kn_67 hL) dX0_isSo_39 ?_
      refine g_ref (b := 68) rfl ?_
      obtain ⟨r_1, q_2, hf⟩ := bd1E hf
      refine g_callV_i (a := 16) hC (X' := ov X0 [16, 17, 18, 19, 20, 21, 22, 28, 29, 30, 33, 67, 68, 69, 70, 71, 73] [x16, x17, x18, x19, x20, x21, x22, x28, x29, x30, x33, x67, x68, x69, x70, x71, x73]) (Y' := ov Y0 [] []) (As := [.ref (b0 + 68)]) (gMi_eq (c_X6_isAsNoted l hL (ov_map hN [0, 7, 8, 9, 12, 13] (by rfl) (by rfl)) (ov_map hM [] (by rfl) (by rfl)) q_2) (ov_ovE hN (by rfl) [0, 7, 8, 9, 12, 13] [1, 2, 3, 4, 5, 6, 10, 11, 14, 15, 16] (by rfl) (by rfl) [x17, x18, x19, x20, x21, x22, x33, x67, x70, x71, x73] (by rfl) (by rfl) (by rfl) 17 (by rfl) (by decide)) (ov_ovE hM (by rfl) [] [] (by rfl) (by rfl) [] (by rfl) (by rfl) (by rfl) 0 (by rfl) (by decide))) tw_1111 tw_1108 tw_122 tw_1109 tw_1110 (ci := 6) rfl (by decide) (kk_16 hL) (kn_16 hL) pd_X6_isAsNoted (by decide) (by decide) rfl rfl (Nat.le_of_ble_eq_true rfl) rfl dX0_isSo_42 ?_
      refine g_if_ne hC 50 dX0_isSo_45 (by decide) (fun hc => ?_) (fun hc => ?_)
      · replace hf := ifF hf hc
        refine g_iload hC 5 dX0_isSo_50 rfl ?_
        refine g_iload_n hC 3 dX0_isSo_52 rfl rfl ?_
        refine g_icmp_ne hC 80 dX0_isSo_53 (by decide) (fun hc => ?_) (fun hc => ?_)
        · replace hf := ifF hf hc
          exact g_sub [0, 1, 2, 3, 4, 5] rfl (wX0_isSoN_80 hL hN hM hC  hret hk30 hf)
        · replace hf := ifT hf hc
          refine g_aload_n hC 0 dX0_isSo_56 rfl rfl ?_
          refine gt_X0_12 hC (a := 67) (kk_67 hL) (kn_67 hL) dX0_isSo_57 ?_
          refine g_ref (b := 68) rfl ?_
          refine gt_X0_68 hC (a := 68) (kk_68 hL) (kn_68 hL) dX0_isSo_60 ?_
          refine g_ref (b := 69) rfl ?_
          refine g_iconst hC (v := 0) dX0_isSo_63 ic_0 ?_
          refine g_aload_n hC 0 dX0_isSo_64 rfl rfl ?_
          refine gt_X0_22 hC (a := 67) (kk_67 hL) (kn_67 hL) dX0_isSo_65 ?_
          refine g_ref (b := 73) rfl ?_
          refine g_aload_n hC 0 dX0_isSo_68 rfl rfl ?_
          refine gt_X0_29 hC (x := x67) (kk_67 hL) (kn_67 hL) (ov_get hN 11 rfl rfl) dX0_isSo_69 ?_
          refine g_bipush hC (v := 6) dX0_isSo_72 bp_6 ?_
          refine g_imul hC dX0_isSo_74 ?_
          refine g_bipush hC (v := 6) dX0_isSo_75 bp_6 ?_
          obtain ⟨h_3, hf⟩ := gdE hf
          refine g_copy hC (f := x69) (g := x73) tw_1112 (kk_69 hL) (kn_69 hL) (kk_73 hL) (kn_73 hL)  (ov_get hN 13 rfl rfl) (ov_get hN 16 rfl rfl) h_3 (ov_set hN (by rfl) 16 (by rfl)) (by decide) (by decide) dX0_isSo_77 ?_
          show gV l b0 D K (n, κ, ov X0 [16, 17, 18, 19, 20, 21, 22, 28, 29, 30, 33, 67, 68, 69, 70, 71, 73] [x16, x17, x18, x19, x20, x21, x22, x28, x29, x30, x33, x67, x68, x69, x70, x71, (va_cpy x69 x73 (0 : Int32).toNatClampNeg ((x67 3) * 6).toNatClampNeg (6 : Int32).toNatClampNeg)], ov Y0 [] [], Z, 0, 0) 80 [(0, .ref (b0 + 67)), (1, .ref (b0 + 16)), (2, .null), (3, .int v3), (4, .int v4), (5, .int v5)] []
          exact g_sub [0, 1, 2, 3, 4, 5] rfl (wX0_isSoN_80 hL hN hM hC  hret hk30 hf)
      · replace hf := ifT hf hc
        refine g_iconst hC (v := 0) dX0_isSo_48 ic_0 ?_
        obtain ⟨rfl, rfl, rfl, rfl, rfl, rfl, rfl⟩ := sm7E hf
        exact hret _ _ rfl dX0_isSo_49

def fX0_isSoN_0   (x16 : Nat → Int32) (x17 : Nat → Int32) (x18 : Nat → Int32) (x19 : Nat → Int32) (x20 : Nat → Int32) (x21 : Nat → Int32) (x22 : Nat → Int32) (x28 : Nat → Int32) (x29 : Nat → Int32) (x30 : Nat → Int32) (x67 : Nat → Int32)  (v3 : Int32) (x33 : (Nat → Int32)) (x68 : (Nat → Int32)) (x69 : (Nat → Int32)) (x70 : (Nat → Int32)) (x71 : (Nat → Int32)) (x73 : (Nat → Int32)) : Option (Int32 × (Nat → Int32) × (Nat → Int32) × (Nat → Int32) × (Nat → Int32) × (Nat → Int32) × (Nat → Int32)) := bd1 (fX6_lastNotedDay x16 x28) fun r_1 => (bn ((if v3 < r_1 then r_1 else v3)) fun t_3 => (bd4 (fX7_copy x19 x20 x21 x22 x68 x69 x70 x71) fun x68_4 x69_5 x70_6 x71_7 => (fX0_isSoN_30 x16 x17 x18 x19 x20 x21 x22 x28 x29 x30 x67  v3 t_3 0 x33 x68_4 x69_5 x70_6 x71_7 x73)))
set_option maxHeartbeats 4000000 in
set_option maxRecDepth 100000 in
theorem wX0_isSoN_0 {l : Launch} {b0 : Nat} {D : GD} {K : KT} {n : Nat} {κ : QT} {X0 : XT} {Y0 : YT} {Z : ZT} (hL : LY n κ) (hN : ([16, 17, 18, 19, 20, 21, 22, 28, 29, 30, 33, 67, 68, 69, 70, 71, 73] : List Nat).Nodup) (hM : ([] : List Nat).Nodup) (hC : gC l b0 D K RX0 cX0_isSo (some FieldType.boolean) 6 5 138 0 0) {x16 : Nat → Int32} {x17 : Nat → Int32} {x18 : Nat → Int32} {x19 : Nat → Int32} {x20 : Nat → Int32} {x21 : Nat → Int32} {x22 : Nat → Int32} {x28 : Nat → Int32} {x29 : Nat → Int32} {x30 : Nat → Int32} {x67 : Nat → Int32} {r : Int32} {rx33 : (Nat → Int32)} {rx68 : (Nat → Int32)} {rx69 : (Nat → Int32)} {rx70 : (Nat → Int32)} {rx71 : (Nat → Int32)} {rx73 : (Nat → Int32)} (hret : ∀ pc loc, narrow .boolean (.int r) = .int r → decode cX0_isSo pc = .ok (.ireturn, 1) → gV l b0 D K (n, κ, ov X0 [16, 17, 18, 19, 20, 21, 22, 28, 29, 30, 33, 67, 68, 69, 70, 71, 73] [x16, x17, x18, x19, x20, x21, x22, x28, x29, x30, rx33, x67, rx68, rx69, rx70, rx71, rx73], ov Y0 [] [], Z, 0, 0) pc loc [.int r]) {v3 : Int32} {x33 : (Nat → Int32)} {x68 : (Nat → Int32)} {x69 : (Nat → Int32)} {x70 : (Nat → Int32)} {x71 : (Nat → Int32)} {x73 : (Nat → Int32)} (hf : fX0_isSoN_0 x16 x17 x18 x19 x20 x21 x22 x28 x29 x30 x67  v3 x33 x68 x69 x70 x71 x73 = some (r, rx33, rx68, rx69, rx70, rx71, rx73)) : gV l b0 D K (n, κ, ov X0 [16, 17, 18, 19, 20, 21, 22, 28, 29, 30, 33, 67, 68, 69, 70, 71, 73] [x16, x17, x18, x19, x20, x21, x22, x28, x29, x30, x33, x67, x68, x69, x70, x71, x73], ov Y0 [] [], Z, 0, 0) 0 [(0, .ref (b0 + 67)), (1, .ref (b0 + 16)), (2, .null), (3, .int v3)] [] := by
  unfold fX0_isSoN_0 at hf
  refine g_iload_n hC 3 dX0_isSo_0 rfl rfl ?_
  refine g_aload_n hC 1 dX0_isSo_1 rfl rfl ?_
  obtain ⟨r_1, q_2, hf⟩ := bd1E hf
  refine g_callV_i (a := 16) hC (X' := ov X0 [16, 17, 18, 19, 20, 21, 22, 28, 29, 30, 33, 67, 68, 69, 70, 71, 73] [x16, x17, x18, x19, x20, x21, x22, x28, x29, x30, x33, x67, x68, x69, x70, x71, x73]) (Y' := ov Y0 [] []) (As := []) (gMi_eq (c_X6_lastNotedDay l hL (ov_map hN [0, 7] (by rfl) (by rfl)) (ov_map hM [] (by rfl) (by rfl)) q_2) (ov_ovE hN (by rfl) [0, 7] [1, 2, 3, 4, 5, 6, 8, 9, 10, 11, 12, 13, 14, 15, 16] (by rfl) (by rfl) [x17, x18, x19, x20, x21, x22, x29, x30, x33, x67, x68, x69, x70, x71, x73] (by rfl) (by rfl) (by rfl) 17 (by rfl) (by decide)) (ov_ovE hM (by rfl) [] [] (by rfl) (by rfl) [] (by rfl) (by rfl) (by rfl) 0 (by rfl) (by decide))) tw_1104 tw_1101 tw_122 tw_1102 tw_1103 (ci := 6) rfl (by decide) (kk_16 hL) (kn_16 hL) pd_X6_lastNotedDay (by decide) (by decide) rfl rfl (Nat.le_of_ble_eq_true rfl) rfl dX0_isSo_2 ?_
  refine g_mmax hC tw_1106 (by decide) (Nat.le_of_ble_eq_true rfl) dX0_isSo_5 ?_
  obtain ⟨t_3, et_3, hf⟩ := bnE hf
  refine g_topi et_3 ?_
  refine g_istore hC (i := 4) [(4, .int t_3), (0, .ref (b0 + 67)), (1, .ref (b0 + 16)), (2, .null), (3, .int v3)] dX0_isSo_8 (by decide) rfl ?_
  refine g_aload_n hC 1 dX0_isSo_10 rfl rfl ?_
  refine gt_X0_12 hC (a := 67) (kk_67 hL) (kn_67 hL) dX0_isSo_11 ?_
  refine g_ref (b := 68) rfl ?_
  refine g_aload_n hC 1 dX0_isSo_14 rfl rfl ?_
  refine gt_X0_25 hC (a := 67) (kk_67 hL) (kn_67 hL) dX0_isSo_15 ?_
  refine g_ref (b := 32) rfl ?_
  refine gt_X0_49 hC (a := 32) (kk_32 hL) (kn_32 hL) dX0_isSo_18 ?_
  refine g_ref (b := 17) rfl ?_
  refine gt_X0_55 hC (a := 17) (kk_17 hL) (kn_17 hL) dX0_isSo_21 ?_
  refine g_ref (b := 19) rfl ?_
  obtain ⟨x68_4, x69_5, x70_6, x71_7, q_8, hf⟩ := bd4E hf
  refine g_callV_v (a := 68) hC (X' := ov X0 [16, 17, 18, 19, 20, 21, 22, 28, 29, 30, 33, 67, 68, 69, 70, 71, 73] [x16, x17, x18, x19, x20, x21, x22, x28, x29, x30, x33, x67, x68_4, x69_5, x70_6, x71_7, x73]) (Y' := ov Y0 [] []) (As := [.ref (b0 + 19)]) (gMv_eq (c_X7_copy l hL (kk_68 hL) (kn_68 hL) (kk_19 hL) (kn_19 hL) (nd_sub hN [12, 13, 14, 15, 3, 4, 5, 6] (by decide) (by rfl)) (nd_sub hM [] (by decide) (by rfl)) (ov_map hN [12, 13, 14, 15, 3, 4, 5, 6] (by rfl) (by rfl)) (ov_map hM [] (by rfl) (by rfl)) q_8) (ov_ovE hN (by rfl) [12, 13, 14, 15, 3, 4, 5, 6] [0, 1, 2, 7, 8, 9, 10, 11, 16] (by rfl) (by rfl) [x16, x17, x18, x28, x29, x30, x33, x67, x73] (by rfl) (by rfl) (by rfl) 17 (by rfl) (by decide)) (ov_ovE hM (by rfl) [] [] (by rfl) (by rfl) [] (by rfl) (by rfl) (by rfl) 0 (by rfl) (by decide))) tw_707 tw_1107 tw_120 tw_705 tw_706 (ci := 7) rfl (by decide) (kk_68 hL) (kn_68 hL) pd_X7_copy (by decide) (by decide) rfl rfl (Nat.le_of_ble_eq_true rfl) rfl dX0_isSo_24 ?_
  refine g_iconst hC (v := 0) dX0_isSo_27 ic_0 ?_
  refine g_istore hC (i := 5) [(5, .int 0), (4, .int t_3), (0, .ref (b0 + 67)), (1, .ref (b0 + 16)), (2, .null), (3, .int v3)] dX0_isSo_28 (by decide) rfl ?_
  exact g_sub [2, 3, 4, 5, 1, 0] rfl (wX0_isSoN_30 hL hN hM hC  hret  5000 v3 t_3 0 x33 x68_4 x69_5 x70_6 x71_7 x73 hf)

def fX0_isSoN   (x16 : Nat → Int32) (x17 : Nat → Int32) (x18 : Nat → Int32) (x19 : Nat → Int32) (x20 : Nat → Int32) (x21 : Nat → Int32) (x22 : Nat → Int32) (x28 : Nat → Int32) (x29 : Nat → Int32) (x30 : Nat → Int32) (x67 : Nat → Int32)  (v3 : Int32) (x33 : Nat → Int32) (x68 : Nat → Int32) (x69 : Nat → Int32) (x70 : Nat → Int32) (x71 : Nat → Int32) (x73 : Nat → Int32)  : Option (Int32 × (Nat → Int32) × (Nat → Int32) × (Nat → Int32) × (Nat → Int32) × (Nat → Int32) × (Nat → Int32)) := fX0_isSoN_0 x16 x17 x18 x19 x20 x21 x22 x28 x29 x30 x67 v3 x33 x68 x69 x70 x71 x73

set_option maxHeartbeats 4000000 in
set_option maxRecDepth 100000 in
theorem c_X0_isSoN (l : Launch) {b0 : Nat} {D : GD} {n : Nat} {κ : QT} {X0 : XT} {Y0 : YT} {Z : ZT} (hL : LY n κ) {x16 : Nat → Int32} {x17 : Nat → Int32} {x18 : Nat → Int32} {x19 : Nat → Int32} {x20 : Nat → Int32} {x21 : Nat → Int32} {x22 : Nat → Int32} {x28 : Nat → Int32} {x29 : Nat → Int32} {x30 : Nat → Int32} {x33 : Nat → Int32} {x67 : Nat → Int32} {x68 : Nat → Int32} {x69 : Nat → Int32} {x70 : Nat → Int32} {x71 : Nat → Int32} {x73 : Nat → Int32} (hx : ([16, 17, 18, 19, 20, 21, 22, 28, 29, 30, 33, 67, 68, 69, 70, 71, 73] : List Nat).map X0 = [x16, x17, x18, x19, x20, x21, x22, x28, x29, x30, x33, x67, x68, x69, x70, x71, x73]) (hy : ([] : List Nat).map Y0 = []) {v3 : Int32} {r : Int32} {rx33 : (Nat → Int32)} {rx68 : (Nat → Int32)} {rx69 : (Nat → Int32)} {rx70 : (Nat → Int32)} {rx71 : (Nat → Int32)} {rx73 : (Nat → Int32)} (hf : fX0_isSoN x16 x17 x18 x19 x20 x21 x22 x28 x29 x30 x67 v3 x33 x68 x69 x70 x71 x73 = some (r, rx33, rx68, rx69, rx70, rx71, rx73)) : gMi l yX0_isSo cX0_isSo 6 (some FieldType.boolean) 5 138 0 0 b0 D [.ref (b0 + 67), .ref (b0 + 16), .null, .int v3] (n, κ, X0, Y0, Z) (n, κ, ov X0 [16, 17, 18, 19, 20, 21, 22, 28, 29, 30, 33, 67, 68, 69, 70, 71, 73] [x16, x17, x18, x19, x20, x21, x22, x28, x29, x30, rx33, x67, rx68, rx69, rx70, rx71, rx73], ov Y0 [] [], Z) r := by
  have hN : ([16, 17, 18, 19, 20, 21, 22, 28, 29, 30, 33, 67, 68, 69, 70, 71, 73] : List Nat).Nodup := by decide
  have hM : ([] : List Nat).Nodup := by decide
  refine g_meti (own := RX0) (by decide) rfl rfl (Nat.le_of_ble_eq_true rfl) ?_
  intro K hC hret
  have e := wX0_isSoN_0 hL hN hM hC  hret hf
  rw [ov_id' hx, ov_id' hy] at e
  exact g_sub [0, 1, 2, 3] rfl e


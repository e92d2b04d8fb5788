section BITS
theorem b6_t (x : Nat) : nI x = Int32.ofNat x := rfl
def bt (x : Int32) (i : Nat) : Bool := x.toBitVec.getLsbD i
theorem b_ext {x y : Int32} (h : ∀ i, i < 32 → bt x i = bt y i) : x = y := Int32.toBitVec_inj.mp (BitVec.eq_of_getLsbD_eq (fun i hi => h i hi))
theorem b_or (x y : Int32) (i : Nat) : bt (x ||| y) i = (bt x i || bt y i) := by unfold bt; rw [Int32.toBitVec_or, BitVec.getLsbD_or]
theorem b_and (x y : Int32) (i : Nat) : bt (x &&& y) i = (bt x i && bt y i) := by unfold bt; rw [Int32.toBitVec_and, BitVec.getLsbD_and]
theorem s_l : ∀ n, n < 32 → ((nI n &&& 31).toBitVec.smod 32).toNat = n := by decide +kernel
theorem b_shl (n : Nat) (hn : n < 32) (x : Int32) {i : Nat} (hi : i < 32) : bt (x <<< (nI n &&& 31)) i = (decide (n ≤ i) && bt x (i - n)) := by
  unfold bt
  rw [Int32.toBitVec_shiftLeft]
  show (x.toBitVec <<< ((nI n &&& 31).toBitVec.smod 32).toNat).getLsbD i = _
  rw [s_l n hn, BitVec.getLsbD_shiftLeft]
  rcases Nat.lt_or_ge i n with h | h
  · simp [h, Nat.not_le.mpr h]
  · simp [hi, h, Nat.not_lt.mpr h]
theorem b_sshr (n : Nat) (hn : n < 32) (x : Int32) {i : Nat} (hi : i < 32) : bt (x >>> (nI n &&& 31)) i = if n + i < 32 then bt x (n + i) else bt x 31 := by
  unfold bt
  rw [Int32.toBitVec_shiftRight]
  show (x.toBitVec.sshiftRight ((nI n &&& 31).toBitVec.smod 32).toNat).getLsbD i = _
  rw [s_l n hn, BitVec.getLsbD_sshiftRight, BitVec.msb_eq_getLsbD_last]
  simp [hi]
theorem bt_nI (a : Nat) {i : Nat} (hi : i < 32) : bt (nI a) i = a.testBit i := by
  show (BitVec.ofNat 32 a).getLsbD i = _
  rw [BitVec.getLsbD_ofNat]
  simp [hi]
theorem tb_lo {n c : Nat} (hc : c < 64) (i : Nat) : (64 * n + c).testBit i = if i < 6 then c.testBit i else n.testBit (i - 6) := by
  have := Nat.testBit_two_pow_mul_add n (i := 6) (b := c) (by omega) i
  exact this
/-- how a step is written -/
theorem enc_w {n c : Nat} (hc : c < 64) : (nI n <<< ((6 : Int32) &&& 31)) ||| nI c = nI (64 * n + c) := by
  refine b_ext fun i hi => ?_
  rw [b_or, show ((6 : Int32)) = nI 6 from rfl, b_shl 6 (by omega) _ hi, bt_nI c hi, bt_nI _ hi, tb_lo hc]
  by_cases k : i < 6
  · rw [if_pos k, decide_eq_false (by omega), Bool.false_and, Bool.false_or]
  · rw [if_neg k, decide_eq_true (by omega), Bool.true_and, bt_nI n (by omega), Nat.testBit_lt_two_pow (x := c) (i := i) (Nat.lt_of_lt_of_le hc (by have : 2 ^ 6 ≤ 2 ^ i := Nat.pow_le_pow_right (by omega) (by omega); exact this)), Bool.or_false]
theorem enc_c {n c : Nat} (hc : c < 64) : nI (64 * n + c) &&& 63 = nI c := by
  refine b_ext fun i hi => ?_
  have h63 : bt 63 i = decide (i < 6) := (by decide +kernel : ∀ i, i < 32 → bt 63 i = decide (i < 6)) i hi
  rw [b_and, bt_nI _ hi, bt_nI c hi, tb_lo hc, h63]
  by_cases k : i < 6
  · rw [if_pos k, decide_eq_true k, Bool.and_true]
  · rw [decide_eq_false k, Bool.and_false, Nat.testBit_lt_two_pow (x := c) (i := i) (Nat.lt_of_lt_of_le hc (by have : 2 ^ 6 ≤ 2 ^ i := Nat.pow_le_pow_right (by omega) (by omega); exact this))]
theorem enc_n {n c : Nat} (hc : c < 64) (hn : n ≤ 99999) : nI (64 * n + c) >>> ((6 : Int32) &&& 31) = nI n := by
  refine b_ext fun i hi => ?_
  have big : ∀ j, 20 ≤ j → n.testBit j = false := fun j hj => Nat.testBit_lt_two_pow (Nat.lt_of_lt_of_le (show n < 2 ^ 20 by have : (2 : Nat) ^ 20 = 1048576 := rfl; omega) (Nat.pow_le_pow_right (by omega) hj))
  rw [show ((6 : Int32)) = nI 6 from rfl, b_sshr 6 (by omega) _ hi, bt_nI n hi]
  by_cases k : 6 + i < 32
  · rw [if_pos k, bt_nI _ k, tb_lo hc, if_neg (by omega), show 6 + i - 6 = i by omega]
  · rw [if_neg k, bt_nI _ (by omega), tb_lo hc, if_neg (by omega), big _ (by omega), big _ (by omega)]
end BITS
/-- a step: its code, its number -/
abbrev StO : Type := Nat × Nat
def isBin (c : Nat) : Prop := (7 ≤ c ∧ c ≤ 16) ∨ c = 34 ∨ c = 35
def VO (o : StO) : Prop := (o.1 = 1 ∧ o.2 ≤ 99999) ∨ (17 ≤ o.1 ∧ o.1 ≤ 28 ∧ o.2 = 0) ∨ (o.1 = 36 ∧ o.2 = 0) ∨ (isBin o.1 ∧ o.2 = 0)
theorem VO_lt {o : StO} (h : VO o) : o.1 < 37 ∧ o.2 ≤ 99999 := by unfold VO isBin at h; omega
def jn (c : Nat) (a b : Int64) : Int64 := (fX4_joined (nI c) a b).getD 0
theorem jn_C (c : Nat) (a b : Int64) : fX4_joined (nI c) a b = some (jn c a b) := by
  have h : ∃ v, fX4_joined (nI c) a b = some v := by
    refine Option.isSome_iff_exists.mp ?_
    unfold fX4_joined fX4_joined_0 fX4_joined_236
    have nz : ¬ lg_cmp b 0 = 0 → nzL b = true := fun h => by unfold nzL; exact decide_eq_true fun e => h ((lg_cmp_eq b 0).mpr e)
    by_cases e : lg_cmp b 0 = 0
    · rw [if_pos e, if_pos e]
      (repeat' split) <;> rfl
    · rw [if_neg e, if_neg e, gd_t (nz e), gd_t (nz e)]
      (repeat' split) <;> rfl
  obtain ⟨v, e⟩ := h
  unfold jn
  rw [e]
  rfl
/-- how the reference writes it -/
def srt (c : Nat) : Nat := if c = 1 then 0 else if c ≤ 6 then 12 else if c = 7 then 2 else if c = 8 then 3 else if c = 9 then 13 else if c = 10 then 14 else if c = 11 then 15 else if c = 12 then 4 else if c = 13 then 5 else if c = 14 then 6 else if c = 15 then 7 else if c = 16 then 8 else if c ≤ 28 then 1 else if c = 36 then 9 else if c = 35 then 10 else 11
def rnm (o : StO) : Nat := if 17 ≤ o.1 ∧ o.1 ≤ 28 then o.1 - 17 else o.2
theorem jn_R {c : Nat} (hc : isBin c) (a b : Int64) : fX12_both (nI (srt c)) a b = some (jn c a b) := by
  rw [← jn_C]
  have h : c = 7 ∨ c = 8 ∨ c = 9 ∨ c = 10 ∨ c = 11 ∨ c = 12 ∨ c = 13 ∨ c = 14 ∨ c = 15 ∨ c = 16 ∨ c = 34 ∨ c = 35 := by unfold isBin at hc; omega
  rcases h with rfl | rfl | rfl | rfl | rfl | rfl | rfl | rfl | rfl | rfl | rfl | rfl
  · show fX12_both_0 (nI 2) a b = fX4_joined_0 (nI 7) a b
    unfold fX12_both_0 fX4_joined_0
    rw [if_pos (show (nI 2).toInt = 2 from rfl), if_pos (show (nI 7).toInt = 7 from rfl)]
  · show fX12_both_0 (nI 3) a b = fX4_joined_0 (nI 8) a b
    unfold fX12_both_0 fX4_joined_0
    rw [if_neg (show ¬ (nI 3).toInt = 2 by decide), if_pos (show (nI 3).toInt = 3 from rfl), if_neg (show ¬ (nI 8).toInt = 7 by decide), if_pos (show (nI 8).toInt = 8 from rfl)]
  · show fX12_both_0 (nI 13) a b = fX4_joined_0 (nI 9) a b
    unfold fX12_both_0 fX4_joined_0
    rw [if_neg (show ¬ (nI 13).toInt = 2 by decide), if_neg (show ¬ (nI 13).toInt = 3 by decide), if_neg (show ¬ (nI 13).toInt = 4 by decide), if_neg (show ¬ (nI 13).toInt = 5 by decide), if_neg (show ¬ (nI 13).toInt = 6 by decide), if_neg (show ¬ (nI 13).toInt = 7 by decide), if_neg (show ¬ (nI 13).toInt = 8 by decide), if_neg (show ¬ (nI 13).toInt = 10 by decide), if_pos (show (nI 13).toInt = 13 from rfl), if_neg (show ¬ (nI 9).toInt = 7 by decide), if_neg (show ¬ (nI 9).toInt = 8 by decide), if_pos (show (nI 9).toInt = 9 from rfl)]
  · show fX12_both_0 (nI 14) a b = fX4_joined_0 (nI 10) a b
    unfold fX12_both_0 fX4_joined_0
    rw [if_neg (show ¬ (nI 14).toInt = 2 by decide), if_neg (show ¬ (nI 14).toInt = 3 by decide), if_neg (show ¬ (nI 14).toInt = 4 by decide), if_neg (show ¬ (nI 14).toInt = 5 by decide), if_neg (show ¬ (nI 14).toInt = 6 by decide), if_neg (show ¬ (nI 14).toInt = 7 by decide), if_neg (show ¬ (nI 14).toInt = 8 by decide), if_neg (show ¬ (nI 14).toInt = 10 by decide), if_neg (show ¬ (nI 14).toInt = 13 by decide), if_pos (show (nI 14).toInt = 14 from rfl), if_neg (show ¬ (nI 10).toInt = 7 by decide), if_neg (show ¬ (nI 10).toInt = 8 by decide), if_neg (show ¬ (nI 10).toInt = 9 by decide), if_pos (show (nI 10).toInt = 10 from rfl)]
  · show fX12_both_0 (nI 15) a b = fX4_joined_0 (nI 11) a b
    unfold fX12_both_0 fX4_joined_0
    rw [if_neg (show ¬ (nI 15).toInt = 2 by decide), if_neg (show ¬ (nI 15).toInt = 3 by decide), if_neg (show ¬ (nI 15).toInt = 4 by decide), if_neg (show ¬ (nI 15).toInt = 5 by decide), if_neg (show ¬ (nI 15).toInt = 6 by decide), if_neg (show ¬ (nI 15).toInt = 7 by decide), if_neg (show ¬ (nI 15).toInt = 8 by decide), if_neg (show ¬ (nI 15).toInt = 10 by decide), if_neg (show ¬ (nI 15).toInt = 13 by decide), if_neg (show ¬ (nI 15).toInt = 14 by decide), if_pos (show (nI 15).toInt = 15 from rfl), if_neg (show ¬ (nI 11).toInt = 7 by decide), if_neg (show ¬ (nI 11).toInt = 8 by decide), if_neg (show ¬ (nI 11).toInt = 9 by decide), if_neg (show ¬ (nI 11).toInt = 10 by decide), if_pos (show (nI 11).toInt = 11 from rfl)]
  · show fX12_both_0 (nI 4) a b = fX4_joined_0 (nI 12) a b
    unfold fX12_both_0 fX4_joined_0
    rw [if_neg (show ¬ (nI 4).toInt = 2 by decide), if_neg (show ¬ (nI 4).toInt = 3 by decide), if_pos (show (nI 4).toInt = 4 from rfl), if_neg (show ¬ (nI 12).toInt = 7 by decide), if_neg (show ¬ (nI 12).toInt = 8 by decide), if_neg (show ¬ (nI 12).toInt = 9 by decide), if_neg (show ¬ (nI 12).toInt = 10 by decide), if_neg (show ¬ (nI 12).toInt = 11 by decide), if_pos (show (nI 12).toInt = 12 from rfl)]
    split <;> rfl
  · show fX12_both_0 (nI 5) a b = fX4_joined_0 (nI 13) a b
    unfold fX12_both_0 fX4_joined_0
    rw [if_neg (show ¬ (nI 5).toInt = 2 by decide), if_neg (show ¬ (nI 5).toInt = 3 by decide), if_neg (show ¬ (nI 5).toInt = 4 by decide), if_pos (show (nI 5).toInt = 5 from rfl), if_neg (show ¬ (nI 13).toInt = 7 by decide), if_neg (show ¬ (nI 13).toInt = 8 by decide), if_neg (show ¬ (nI 13).toInt = 9 by decide), if_neg (show ¬ (nI 13).toInt = 10 by decide), if_neg (show ¬ (nI 13).toInt = 11 by decide), if_neg (show ¬ (nI 13).toInt = 12 by decide), if_pos (show (nI 13).toInt = 13 from rfl)]
    split <;> rfl
  · show fX12_both_0 (nI 6) a b = fX4_joined_0 (nI 14) a b
    unfold fX12_both_0 fX4_joined_0
    rw [if_neg (show ¬ (nI 6).toInt = 2 by decide), if_neg (show ¬ (nI 6).toInt = 3 by decide), if_neg (show ¬ (nI 6).toInt = 4 by decide), if_neg (show ¬ (nI 6).toInt = 5 by decide), if_pos (show (nI 6).toInt = 6 from rfl), if_neg (show ¬ (nI 14).toInt = 7 by decide), if_neg (show ¬ (nI 14).toInt = 8 by decide), if_neg (show ¬ (nI 14).toInt = 9 by decide), if_neg (show ¬ (nI 14).toInt = 10 by decide), if_neg (show ¬ (nI 14).toInt = 11 by decide), if_neg (show ¬ (nI 14).toInt = 12 by decide), if_neg (show ¬ (nI 14).toInt = 13 by decide), if_pos (show (nI 14).toInt = 14 from rfl)]
    split <;> rfl
  · show fX12_both_0 (nI 7) a b = fX4_joined_0 (nI 15) a b
    unfold fX12_both_0 fX4_joined_0
    rw [if_neg (show ¬ (nI 7).toInt = 2 by decide), if_neg (show ¬ (nI 7).toInt = 3 by decide), if_neg (show ¬ (nI 7).toInt = 4 by decide), if_neg (show ¬ (nI 7).toInt = 5 by decide), if_neg (show ¬ (nI 7).toInt = 6 by decide), if_pos (show (nI 7).toInt = 7 from rfl), if_neg (show ¬ (nI 15).toInt = 7 by decide), if_neg (show ¬ (nI 15).toInt = 8 by decide), if_neg (show ¬ (nI 15).toInt = 9 by decide), if_neg (show ¬ (nI 15).toInt = 10 by decide), if_neg (show ¬ (nI 15).toInt = 11 by decide), if_neg (show ¬ (nI 15).toInt = 12 by decide), if_neg (show ¬ (nI 15).toInt = 13 by decide), if_neg (show ¬ (nI 15).toInt = 14 by decide), if_pos (show (nI 15).toInt = 15 from rfl)]
    split <;> rfl
  · show fX12_both_0 (nI 8) a b = fX4_joined_0 (nI 16) a b
    unfold fX12_both_0 fX4_joined_0
    rw [if_neg (show ¬ (nI 8).toInt = 2 by decide), if_neg (show ¬ (nI 8).toInt = 3 by decide), if_neg (show ¬ (nI 8).toInt = 4 by decide), if_neg (show ¬ (nI 8).toInt = 5 by decide), if_neg (show ¬ (nI 8).toInt = 6 by decide), if_neg (show ¬ (nI 8).toInt = 7 by decide), if_pos (show (nI 8).toInt = 8 from rfl), if_neg (show ¬ (nI 16).toInt = 7 by decide), if_neg (show ¬ (nI 16).toInt = 8 by decide), if_neg (show ¬ (nI 16).toInt = 9 by decide), if_neg (show ¬ (nI 16).toInt = 10 by decide), if_neg (show ¬ (nI 16).toInt = 11 by decide), if_neg (show ¬ (nI 16).toInt = 12 by decide), if_neg (show ¬ (nI 16).toInt = 13 by decide), if_neg (show ¬ (nI 16).toInt = 14 by decide), if_neg (show ¬ (nI 16).toInt = 15 by decide), if_pos (show (nI 16).toInt = 16 from rfl)]
    split <;> rfl
  · show fX12_both_0 (nI 11) a b = fX4_joined_0 (nI 34) a b
    unfold fX12_both_0 fX4_joined_0
    rw [if_neg (show ¬ (nI 11).toInt = 2 by decide), if_neg (show ¬ (nI 11).toInt = 3 by decide), if_neg (show ¬ (nI 11).toInt = 4 by decide), if_neg (show ¬ (nI 11).toInt = 5 by decide), if_neg (show ¬ (nI 11).toInt = 6 by decide), if_neg (show ¬ (nI 11).toInt = 7 by decide), if_neg (show ¬ (nI 11).toInt = 8 by decide), if_neg (show ¬ (nI 11).toInt = 10 by decide), if_neg (show ¬ (nI 11).toInt = 13 by decide), if_neg (show ¬ (nI 11).toInt = 14 by decide), if_neg (show ¬ (nI 11).toInt = 15 by decide), if_neg (show ¬ (nI 34).toInt = 7 by decide), if_neg (show ¬ (nI 34).toInt = 8 by decide), if_neg (show ¬ (nI 34).toInt = 9 by decide), if_neg (show ¬ (nI 34).toInt = 10 by decide), if_neg (show ¬ (nI 34).toInt = 11 by decide), if_neg (show ¬ (nI 34).toInt = 12 by decide), if_neg (show ¬ (nI 34).toInt = 13 by decide), if_neg (show ¬ (nI 34).toInt = 14 by decide), if_neg (show ¬ (nI 34).toInt = 15 by decide), if_neg (show ¬ (nI 34).toInt = 16 by decide), if_neg (show ¬ (nI 34).toInt = 35 by decide)]
    rfl
  · show fX12_both_0 (nI 10) a b = fX4_joined_0 (nI 35) a b
    unfold fX12_both_0 fX4_joined_0
    rw [if_neg (show ¬ (nI 10).toInt = 2 by decide), if_neg (show ¬ (nI 10).toInt = 3 by decide), if_neg (show ¬ (nI 10).toInt = 4 by decide), if_neg (show ¬ (nI 10).toInt = 5 by decide), if_neg (show ¬ (nI 10).toInt = 6 by decide), if_neg (show ¬ (nI 10).toInt = 7 by decide), if_neg (show ¬ (nI 10).toInt = 8 by decide), if_pos (show (nI 10).toInt = 10 from rfl), if_neg (show ¬ (nI 35).toInt = 7 by decide), if_neg (show ¬ (nI 35).toInt = 8 by decide), if_neg (show ¬ (nI 35).toInt = 9 by decide), if_neg (show ¬ (nI 35).toInt = 10 by decide), if_neg (show ¬ (nI 35).toInt = 11 by decide), if_neg (show ¬ (nI 35).toInt = 12 by decide), if_neg (show ¬ (nI 35).toInt = 13 by decide), if_neg (show ¬ (nI 35).toInt = 14 by decide), if_neg (show ¬ (nI 35).toInt = 15 by decide), if_neg (show ¬ (nI 35).toInt = 16 by decide), if_pos (show (nI 35).toInt = 35 from rfl)]
theorem srt_bin {c : Nat} (hc : isBin c) : srt c ≠ 0 ∧ srt c ≠ 1 ∧ srt c ≠ 9 ∧ srt c < 16 := by
  have h : c = 7 ∨ c = 8 ∨ c = 9 ∨ c = 10 ∨ c = 11 ∨ c = 12 ∨ c = 13 ∨ c = 14 ∨ c = 15 ∨ c = 16 ∨ c = 34 ∨ c = 35 := by unfold isBin at hc; omega
  rcases h with rfl | rfl | rfl | rfl | rfl | rfl | rfl | rfl | rfl | rfl | rfl | rfl <;> decide
/-- a step over a stack of at most b numbers -/
def ex1 (w : Nat → Int64) (b : Nat) (o : StO) (st : List Int64) : Option (List Int64) :=
  if o.1 = 1 then (if st.length < b then some ((nI o.2).toInt64 :: st) else none)
  else if 17 ≤ o.1 ∧ o.1 ≤ 28 then (if st.length < b then some (w (o.1 - 17) :: st) else none)
  else if o.1 = 36 then (match st with
    | a :: r => some ((1 - a) :: r)
    | _ => none)
  else (match st with
    | y :: x :: r => some (jn o.1 x y :: r)
    | _ => none)
def exB (w : Nat → Int64) (b : Nat) : List StO → List Int64 → Option (List Int64)
  | [], st => some st
  | o :: L, st => (ex1 w b o st).bind (exB w b L)
theorem exB_app {w : Nat → Int64} {b : Nat} {L2 : List StO} : ∀ (L1 : List StO) (st : List Int64), exB w b (L1 ++ L2) st = (exB w b L1 st).bind (exB w b L2)
  | [], _ => rfl
  | o :: L1, st => by
    show (ex1 w b o st).bind (exB w b (L1 ++ L2)) = ((ex1 w b o st).bind (exB w b L1)).bind (exB w b L2)
    cases ex1 w b o st with
    | none => rfl
    | some s => exact exB_app L1 s
/-- steps that lay one number on the stack, by h places at most -/
def Sem (L : List StO) (h : Nat) (V : (Nat → Int64) → Int64) : Prop := (∀ o, o ∈ L → VO o) ∧ ∀ w b st, st.length + h ≤ b → exB w b L st = some (V w :: st)
theorem Sem_num {n : Nat} (hn : n ≤ 99999) : Sem [(1, n)] 1 fun _ => (nI n).toInt64 := by
  refine ⟨fun o ho => ?_, fun w b st hb => ?_⟩
  · rw [List.mem_singleton] at ho; subst ho; exact Or.inl ⟨rfl, hn⟩
  · show (ex1 w b (1, n) st).bind _ = _
    unfold ex1
    rw [if_pos rfl, if_pos (by omega)]
    rfl
theorem Sem_word {k : Nat} (hk : k < 12) : Sem [(17 + k, 0)] 1 fun w => w k := by
  refine ⟨fun o ho => ?_, fun w b st hb => ?_⟩
  · rw [List.mem_singleton] at ho; subst ho; exact Or.inr (Or.inl ⟨by show 17 ≤ 17 + k; omega, by show 17 + k ≤ 28; omega, rfl⟩)
  · show (ex1 w b (17 + k, 0) st).bind _ = _
    unfold ex1
    rw [if_neg (show ¬ 17 + k = 1 by omega), if_pos (show 17 ≤ 17 + k ∧ 17 + k ≤ 28 by omega), if_pos (by omega)]
    show some (w (17 + k - 17) :: st) = _
    rw [show 17 + k - 17 = k by omega]
theorem Sem_not {L : List StO} {h : Nat} {V : (Nat → Int64) → Int64} (hs : Sem L h V) : Sem (L ++ [(36, 0)]) h fun w => 1 - V w := by
  refine ⟨fun o ho => ?_, fun w b st hb => ?_⟩
  · rcases List.mem_append.mp ho with ho | ho
    · exact hs.1 o ho
    · rw [List.mem_singleton] at ho; subst ho; exact Or.inr (Or.inr (Or.inl ⟨rfl, rfl⟩))
  · rw [exB_app, hs.2 w b st hb]
    rfl
theorem Sem_bin {L1 L2 : List StO} {h1 h2 h c : Nat} {V1 V2 : (Nat → Int64) → Int64} (hc : isBin c) (s1 : Sem L1 h1 V1) (s2 : Sem L2 h2 V2) (l1 : h1 ≤ h) (l2 : h2 + 1 ≤ h) : Sem (L1 ++ L2 ++ [(c, 0)]) h fun w => jn c (V1 w) (V2 w) := by
  refine ⟨fun o ho => ?_, fun w b st hb => ?_⟩
  · rcases List.mem_append.mp ho with ho | ho
    · rcases List.mem_append.mp ho with ho | ho
      · exact s1.1 o ho
      · exact s2.1 o ho
    · rw [List.mem_singleton] at ho; subst ho; exact Or.inr (Or.inr (Or.inr ⟨hc, rfl⟩))
  · rw [exB_app, exB_app, s1.2 w b st (by omega)]
    show ((exB w b L2 (V1 w :: st)).bind _) = _
    rw [s2.2 w b (V1 w :: st) (by show st.length + 1 + h2 ≤ b; omega)]
    show (ex1 w b (c, 0) (V2 w :: V1 w :: st)).bind _ = _
    unfold ex1
    rw [if_neg (show ¬ c = 1 by unfold isBin at hc; omega), if_neg (show ¬ (17 ≤ c ∧ c ≤ 28) by unfold isBin at hc; omega), if_neg (show ¬ c = 36 by unfold isBin at hc; omega)]
    rfl
theorem Sem_mono {L : List StO} {h h' : Nat} {V : (Nat → Int64) → Int64} (hs : Sem L h V) (hh : h ≤ h') : Sem L h' V := ⟨hs.1, fun w b st hb => hs.2 w b st (by omega)⟩
/-- the class's steps, the reference's entries -/
def ES (x14 : Nat → Int32) (S : List StO) : Prop := ∀ j o, S[j]? = some o → x14 j = nI (64 * o.2 + o.1)
def ER (slot : Nat) (x92 x93 : Nat → Int32) (E : List StO) : Prop := ∀ j o, E[j]? = some o → x92 (300 * slot + j) = nI (srt o.1) ∧ x93 (300 * slot + j) = nI (rnm o)
theorem snoc_get {S : List StO} {o o' : StO} {j : Nat} (h : (S ++ [o])[j]? = some o') : (j < S.length ∧ S[j]? = some o') ∨ (j = S.length ∧ o' = o) := by
  rw [List.getElem?_append] at h
  by_cases k : j < S.length
  · rw [if_pos k] at h; exact Or.inl ⟨k, h⟩
  · rw [if_neg k] at h
    by_cases e : j - S.length = 0
    · rw [e] at h
      exact Or.inr ⟨by omega, (Option.some.inj h).symm⟩
    · obtain ⟨m, hm⟩ : ∃ m, j - S.length = m + 1 := ⟨j - S.length - 1, by omega⟩
      rw [hm] at h
      cases h
theorem ES_add {x14 : Nat → Int32} {S : List StO} {o : StO} (h : ES x14 S) : ES (upd x14 S.length (nI (64 * o.2 + o.1))) (S ++ [o]) := by
  intro j o' hj
  rcases snoc_get hj with ⟨k, e⟩ | ⟨rfl, rfl⟩
  · rw [pk_un (by omega)]; exact h j o' e
  · exact pk_us
theorem ER_add {slot : Nat} {x92 x93 : Nat → Int32} {E : List StO} {o : StO} (h : ER slot x92 x93 E) : ER slot (upd x92 (300 * slot + E.length) (nI (srt o.1))) (upd x93 (300 * slot + E.length) (nI (rnm o))) (E ++ [o]) := by
  intro j o' hj
  rcases snoc_get hj with ⟨k, e⟩ | ⟨rfl, rfl⟩
  · rw [pk_un (by omega), pk_un (by omega)]; exact h j o' e
  · exact ⟨pk_us, pk_us⟩

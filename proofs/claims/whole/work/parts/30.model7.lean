-- X12_rests
def fX12_rests_128   (x79 : Nat → Int32) (x92 : Nat → Int32) (x93 : Nat → Int32) (x94 : Nat → Int32) (x95 : Nat → Int32) (x96 : Nat → Int32) (x97 : Nat → Int32)  (s0 : Int32) (s1 : Int32) (x74 : (Nat → Int32)) (x75 : (Nat → Int32)) (x76 : (Nat → Int32)) (x77 : (Nat → Int32)) (x78 : (Nat → Int32)) (x101 : (Nat → Int32)) (x108 : (Nat → Int32)) (x109 : (Nat → Int32)) (x112 : (Nat → Int32)) (y99 : (Nat → Int64)) (y100 : (Nat → Int64)) : Option (Int32 × (Nat → Int32) × (Nat → Int32) × (Nat → Int32) × (Nat → Int32) × (Nat → Int32) × (Nat → Int32) × (Nat → Int32) × (Nat → Int32) × (Nat → Int32) × (Nat → Int64) × (Nat → Int64)) := some (s1 * s0, x74, x75, x76, x77, x78, x101, x108, x109, x112, y99, y100)
set_option maxHeartbeats 4000000 in
set_option maxRecDepth 100000 in
theorem wX12_rests_128 {l : Launch} {b0 : Nat} {D : GD} {K : KT} {n : Nat} {κ : QT} {X0 : XT} {Y0 : YT} {Z : ZT} (hL : LY n κ) (hN : ([74, 75, 76, 77, 78, 79, 92, 93, 94, 95, 96, 97, 101, 108, 109, 112] : List Nat).Nodup) (hM : ([99, 100] : List Nat).Nodup) (hC : gC l b0 D K RX12 cX12_rests (some FieldType.int) 8 9 212 0 0) {x79 : Nat → Int32} {x92 : Nat → Int32} {x93 : Nat → Int32} {x94 : Nat → Int32} {x95 : Nat → Int32} {x96 : Nat → Int32} {x97 : Nat → Int32} {r : Int32} {rx74 : (Nat → Int32)} {rx75 : (Nat → Int32)} {rx76 : (Nat → Int32)} {rx77 : (Nat → Int32)} {rx78 : (Nat → Int32)} {rx101 : (Nat → Int32)} {rx108 : (Nat → Int32)} {rx109 : (Nat → Int32)} {rx112 : (Nat → Int32)} {ry99 : (Nat → Int64)} {ry100 : (Nat → Int64)} (hret : ∀ pc loc, narrow .int (.int r) = .int r → decode cX12_rests pc = .ok (.ireturn, 1) → gV l b0 D K (n, κ, ov X0 [74, 75, 76, 77, 78, 79, 92, 93, 94, 95, 96, 97, 101, 108, 109, 112] [rx74, rx75, rx76, rx77, rx78, x79, x92, x93, x94, x95, x96, x97, rx101, rx108, rx109, rx112], ov Y0 [99, 100] [ry99, ry100], Z, 0, 0) pc loc [.int r]) {s0 : Int32} {s1 : Int32} {x74 : (Nat → Int32)} {x75 : (Nat → Int32)} {x76 : (Nat → Int32)} {x77 : (Nat → Int32)} {x78 : (Nat → Int32)} {x101 : (Nat → Int32)} {x108 : (Nat → Int32)} {x109 : (Nat → Int32)} {x112 : (Nat → Int32)} {y99 : (Nat → Int64)} {y100 : (Nat → Int64)} (hf : fX12_rests_128 x79 x92 x93 x94 x95 x96 x97  s0 s1 x74 x75 x76 x77 x78 x101 x108 x109 x112 y99 y100 = some (r, rx74, rx75, rx76, rx77, rx78, rx101, rx108, rx109, rx112, ry99, ry100)) : gV l b0 D K (n, κ, ov X0 [74, 75, 76, 77, 78, 79, 92, 93, 94, 95, 96, 97, 101, 108, 109, 112] [x74, x75, x76, x77, x78, x79, x92, x93, x94, x95, x96, x97, x101, x108, x109, x112], ov Y0 [99, 100] [y99, y100], Z, 0, 0) 128 [] [.int s0, .int s1] := by
  unfold fX12_rests_128 at hf
  refine g_imul hC dX12_rests_128 ?_
  obtain ⟨rfl, rfl, rfl, rfl, rfl, rfl, rfl, rfl, rfl, rfl, rfl, rfl⟩ := sm12E hf
  exact hret _ _ rfl dX12_rests_129

def fX12_rests_85   (x79 : Nat → Int32) (x92 : Nat → Int32) (x93 : Nat → Int32) (x94 : Nat → Int32) (x95 : Nat → Int32) (x96 : Nat → Int32) (x97 : Nat → Int32)  (k52 : Int32 → Int32 → Int32 → Int32 → (Nat → Int32) → (Nat → Int32) → (Nat → Int32) → (Nat → Int32) → (Nat → Int32) → (Nat → Int32) → (Nat → Int32) → (Nat → Int32) → (Nat → Int32) → (Nat → Int64) → (Nat → Int64) → Option (Int32 × (Nat → Int32) × (Nat → Int32) × (Nat → Int32) × (Nat → Int32) × (Nat → Int32) × (Nat → Int32) × (Nat → Int32) × (Nat → Int32) × (Nat → Int32) × (Nat → Int64) × (Nat → Int64))) (v4 : Int32) (v5 : Int32) (v6 : Int32) (v7 : Int32) (x74 : (Nat → Int32)) (x75 : (Nat → Int32)) (x76 : (Nat → Int32)) (x77 : (Nat → Int32)) (x78 : (Nat → Int32)) (x101 : (Nat → Int32)) (x108 : (Nat → Int32)) (x109 : (Nat → Int32)) (x112 : (Nat → Int32)) (y99 : (Nat → Int64)) (y100 : (Nat → Int64)) : Option (Int32 × (Nat → Int32) × (Nat → Int32) × (Nat → Int32) × (Nat → Int32) × (Nat → Int32) × (Nat → Int32) × (Nat → Int32) × (Nat → Int32) × (Nat → Int32) × (Nat → Int64) × (Nat → Int64)) := bn (v7 + 1) fun t_1 => (k52 v4 v5 v6 t_1 x74 x75 x76 x77 x78 x101 x108 x109 x112 y99 y100)
set_option maxHeartbeats 4000000 in
set_option maxRecDepth 100000 in
theorem wX12_rests_85 {l : Launch} {b0 : Nat} {D : GD} {K : KT} {n : Nat} {κ : QT} {X0 : XT} {Y0 : YT} {Z : ZT} (hL : LY n κ) (hN : ([74, 75, 76, 77, 78, 79, 92, 93, 94, 95, 96, 97, 101, 108, 109, 112] : List Nat).Nodup) (hM : ([99, 100] : List Nat).Nodup) (hC : gC l b0 D K RX12 cX12_rests (some FieldType.int) 8 9 212 0 0) {x79 : Nat → Int32} {x92 : Nat → Int32} {x93 : Nat → Int32} {x94 : Nat → Int32} {x95 : Nat → Int32} {x96 : Nat → Int32} {x97 : Nat → Int32} {r : Int32} {rx74 : (Nat → Int32)} {rx75 : (Nat → Int32)} {rx76 : (Nat → Int32)} {rx77 : (Nat → Int32)} {rx78 : (Nat → Int32)} {rx101 : (Nat → Int32)} {rx108 : (Nat → Int32)} {rx109 : (Nat → Int32)} {rx112 : (Nat → Int32)} {ry99 : (Nat → Int64)} {ry100 : (Nat → Int64)} (hret : ∀ pc loc, narrow .int (.int r) = .int r → decode cX12_rests pc = .ok (.ireturn, 1) → gV l b0 D K (n, κ, ov X0 [74, 75, 76, 77, 78, 79, 92, 93, 94, 95, 96, 97, 101, 108, 109, 112] [rx74, rx75, rx76, rx77, rx78, x79, x92, x93, x94, x95, x96, x97, rx101, rx108, rx109, rx112], ov Y0 [99, 100] [ry99, ry100], Z, 0, 0) pc loc [.int r]) {k52 : Int32 → Int32 → Int32 → Int32 → (Nat → Int32) → (Nat → Int32) → (Nat → Int32) → (Nat → Int32) → (Nat → Int32) → (Nat → Int32) → (Nat → Int32) → (Nat → Int32) → (Nat → Int32) → (Nat → Int64) → (Nat → Int64) → Option (Int32 × (Nat → Int32) × (Nat → Int32) × (Nat → Int32) × (Nat → Int32) × (Nat → Int32) × (Nat → Int32) × (Nat → Int32) × (Nat → Int32) × (Nat → Int32) × (Nat → Int64) × (Nat → Int64))} (hk52 : ∀ (v4 : Int32) (v5 : Int32) (v6 : Int32) (v7 : Int32) (x74 : (Nat → Int32)) (x75 : (Nat → Int32)) (x76 : (Nat → Int32)) (x77 : (Nat → Int32)) (x78 : (Nat → Int32)) (x101 : (Nat → Int32)) (x108 : (Nat → Int32)) (x109 : (Nat → Int32)) (x112 : (Nat → Int32)) (y99 : (Nat → Int64)) (y100 : (Nat → Int64)), k52 v4 v5 v6 v7 x74 x75 x76 x77 x78 x101 x108 x109 x112 y99 y100 = some (r, rx74, rx75, rx76, rx77, rx78, rx101, rx108, rx109, rx112, ry99, ry100) → gV l b0 D K (n, κ, ov X0 [74, 75, 76, 77, 78, 79, 92, 93, 94, 95, 96, 97, 101, 108, 109, 112] [x74, x75, x76, x77, x78, x79, x92, x93, x94, x95, x96, x97, x101, x108, x109, x112], ov Y0 [99, 100] [y99, y100], Z, 0, 0) 52 [(0, .ref (b0 + 74)), (4, .int v4), (5, .int v5), (6, .int v6), (7, .int v7)] []) {v4 : Int32} {v5 : Int32} {v6 : Int32} {v7 : Int32} {x74 : (Nat → Int32)} {x75 : (Nat → Int32)} {x76 : (Nat → Int32)} {x77 : (Nat → Int32)} {x78 : (Nat → Int32)} {x101 : (Nat → Int32)} {x108 : (Nat → Int32)} {x109 : (Nat → Int32)} {x112 : (Nat → Int32)} {y99 : (Nat → Int64)} {y100 : (Nat → Int64)} (hf : fX12_rests_85 x79 x92 x93 x94 x95 x96 x97 k52 v4 v5 v6 v7 x74 x75 x76 x77 x78 x101 x108 x109 x112 y99 y100 = some (r, rx74, rx75, rx76, rx77, rx78, rx101, rx108, rx109, rx112, ry99, ry100)) : gV l b0 D K (n, κ, ov X0 [74, 75, 76, 77, 78, 79, 92, 93, 94, 95, 96, 97, 101, 108, 109, 112] [x74, x75, x76, x77, x78, x79, x92, x93, x94, x95, x96, x97, x101, x108, x109, x112], ov Y0 [99, 100] [y99, y100], Z, 0, 0) 85 [(0, .ref (b0 + 74)), (4, .int v4), (5, .int v5), (6, .int v6), (7, .int v7)] [] := by
  unfold fX12_rests_85 at hf
  obtain ⟨t_1, et_1, hf⟩ := bnE hf
  refine g_iinc hC (i := 7) (v := t_1) [(7, .int t_1), (0, .ref (b0 + 74)), (4, .int v4), (5, .int v5), (6, .int v6)] dX12_rests_85 (q := 4) rfl ((congrArg (HAdd.hAdd v7) ic_1).trans et_1.symm) (by decide) rfl ?_
  refine g_goto hC 52 dX12_rests_88 (by decide) ?_
  exact g_sub [1, 2, 3, 4, 0] rfl (hk52 v4 v5 v6 t_1 x74 x75 x76 x77 x78 x101 x108 x109 x112 y99 y100 hf)

def fX12_rests_80   (x79 : Nat → Int32) (x92 : Nat → Int32) (x93 : Nat → Int32) (x94 : Nat → Int32) (x95 : Nat → Int32) (x96 : Nat → Int32) (x97 : Nat → Int32)  (k52 : Int32 → Int32 → Int32 → Int32 → (Nat → Int32) → (Nat → Int32) → (Nat → Int32) → (Nat → Int32) → (Nat → Int32) → (Nat → Int32) → (Nat → Int32) → (Nat → Int32) → (Nat → Int32) → (Nat → Int64) → (Nat → Int64) → Option (Int32 × (Nat → Int32) × (Nat → Int32) × (Nat → Int32) × (Nat → Int32) × (Nat → Int32) × (Nat → Int32) × (Nat → Int32) × (Nat → Int32) × (Nat → Int32) × (Nat → Int64) × (Nat → Int64))) (v4 : Int32) (v5 : Int32) (v7 : Int32) (s0 : Int32) (x74 : (Nat → Int32)) (x75 : (Nat → Int32)) (x76 : (Nat → Int32)) (x77 : (Nat → Int32)) (x78 : (Nat → Int32)) (x101 : (Nat → Int32)) (x108 : (Nat → Int32)) (x109 : (Nat → Int32)) (x112 : (Nat → Int32)) (y99 : (Nat → Int64)) (y100 : (Nat → Int64)) : Option (Int32 × (Nat → Int32) × (Nat → Int32) × (Nat → Int32) × (Nat → Int32) × (Nat → Int32) × (Nat → Int32) × (Nat → Int32) × (Nat → Int32) × (Nat → Int32) × (Nat → Int64) × (Nat → Int64)) := bn (v5 + 1) fun t_1 => (fX12_rests_85 x79 x92 x93 x94 x95 x96 x97 k52 v4 t_1 s0 v7 x74 x75 x76 x77 x78 x101 x108 x109 x112 y99 y100)
set_option maxHeartbeats 4000000 in
set_option maxRecDepth 100000 in
theorem wX12_rests_80 {l : Launch} {b0 : Nat} {D : GD} {K : KT} {n : Nat} {κ : QT} {X0 : XT} {Y0 : YT} {Z : ZT} (hL : LY n κ) (hN : ([74, 75, 76, 77, 78, 79, 92, 93, 94, 95, 96, 97, 101, 108, 109, 112] : List Nat).Nodup) (hM : ([99, 100] : List Nat).Nodup) (hC : gC l b0 D K RX12 cX12_rests (some FieldType.int) 8 9 212 0 0) {x79 : Nat → Int32} {x92 : Nat → Int32} {x93 : Nat → Int32} {x94 : Nat → Int32} {x95 : Nat → Int32} {x96 : Nat → Int32} {x97 : Nat → Int32} {r : Int32} {rx74 : (Nat → Int32)} {rx75 : (Nat → Int32)} {rx76 : (Nat → Int32)} {rx77 : (Nat → Int32)} {rx78 : (Nat → Int32)} {rx101 : (Nat → Int32)} {rx108 : (Nat → Int32)} {rx109 : (Nat → Int32)} {rx112 : (Nat → Int32)} {ry99 : (Nat → Int64)} {ry100 : (Nat → Int64)} (hret : ∀ pc loc, narrow .int (.int r) = .int r → decode cX12_rests pc = .ok (.ireturn, 1) → gV l b0 D K (n, κ, ov X0 [74, 75, 76, 77, 78, 79, 92, 93, 94, 95, 96, 97, 101, 108, 109, 112] [rx74, rx75, rx76, rx77, rx78, x79, x92, x93, x94, x95, x96, x97, rx101, rx108, rx109, rx112], ov Y0 [99, 100] [ry99, ry100], Z, 0, 0) pc loc [.int r]) {k52 : Int32 → Int32 → Int32 → Int32 → (Nat → Int32) → (Nat → Int32) → (Nat → Int32) → (Nat → Int32) → (Nat → Int32) → (Nat → Int32) → (Nat → Int32) → (Nat → Int32) → (Nat → Int32) → (Nat → Int64) → (Nat → Int64) → Option (Int32 × (Nat → Int32) × (Nat → Int32) × (Nat → Int32) × (Nat → Int32) × (Nat → Int32) × (Nat → Int32) × (Nat → Int32) × (Nat → Int32) × (Nat → Int32) × (Nat → Int64) × (Nat → Int64))} (hk52 : ∀ (v4 : Int32) (v5 : Int32) (v6 : Int32) (v7 : Int32) (x74 : (Nat → Int32)) (x75 : (Nat → Int32)) (x76 : (Nat → Int32)) (x77 : (Nat → Int32)) (x78 : (Nat → Int32)) (x101 : (Nat → Int32)) (x108 : (Nat → Int32)) (x109 : (Nat → Int32)) (x112 : (Nat → Int32)) (y99 : (Nat → Int64)) (y100 : (Nat → Int64)), k52 v4 v5 v6 v7 x74 x75 x76 x77 x78 x101 x108 x109 x112 y99 y100 = some (r, rx74, rx75, rx76, rx77, rx78, rx101, rx108, rx109, rx112, ry99, ry100) → gV l b0 D K (n, κ, ov X0 [74, 75, 76, 77, 78, 79, 92, 93, 94, 95, 96, 97, 101, 108, 109, 112] [x74, x75, x76, x77, x78, x79, x92, x93, x94, x95, x96, x97, x101, x108, x109, x112], ov Y0 [99, 100] [y99, y100], Z, 0, 0) 52 [(0, .ref (b0 + 74)), (4, .int v4), (5, .int v5), (6, .int v6), (7, .int v7)] []) {v4 : Int32} {v5 : Int32} {v7 : Int32} {s0 : Int32} {x74 : (Nat → Int32)} {x75 : (Nat → Int32)} {x76 : (Nat → Int32)} {x77 : (Nat → Int32)} {x78 : (Nat → Int32)} {x101 : (Nat → Int32)} {x108 : (Nat → Int32)} {x109 : (Nat → Int32)} {x112 : (Nat → Int32)} {y99 : (Nat → Int64)} {y100 : (Nat → Int64)} (hf : fX12_rests_80 x79 x92 x93 x94 x95 x96 x97 k52 v4 v5 v7 s0 x74 x75 x76 x77 x78 x101 x108 x109 x112 y99 y100 = some (r, rx74, rx75, rx76, rx77, rx78, rx101, rx108, rx109, rx112, ry99, ry100)) : gV l b0 D K (n, κ, ov X0 [74, 75, 76, 77, 78, 79, 92, 93, 94, 95, 96, 97, 101, 108, 109, 112] [x74, x75, x76, x77, x78, x79, x92, x93, x94, x95, x96, x97, x101, x108, x109, x112], ov Y0 [99, 100] [y99, y100], Z, 0, 0) 80 [(0, .ref (b0 + 74)), (4, .int v4), (5, .int v5), (7, .int v7)] [.int s0] := by
  unfold fX12_rests_80 at hf
  refine g_istore hC (i := 6) [(6, .int s0), (0, .ref (b0 + 74)), (4, .int v4), (5, .int v5), (7, .int v7)] dX12_rests_80 (by decide) rfl ?_
  obtain ⟨t_1, et_1, hf⟩ := bnE hf
  refine g_iinc hC (i := 5) (v := t_1) [(5, .int t_1), (6, .int s0), (0, .ref (b0 + 74)), (4, .int v4), (7, .int v7)] dX12_rests_82 (q := 3) rfl ((congrArg (HAdd.hAdd v5) ic_1).trans et_1.symm) (by decide) rfl ?_
  exact g_sub [2, 3, 0, 1, 4] rfl (wX12_rests_85 hL hN hM hC  hret hk52 hf)

def fX12_rests_52b   (x79 : Nat → Int32) (x92 : Nat → Int32) (x93 : Nat → Int32) (x94 : Nat → Int32) (x95 : Nat → Int32) (x96 : Nat → Int32) (x97 : Nat → Int32)  (k52 : Int32 → Int32 → Int32 → Int32 → (Nat → Int32) → (Nat → Int32) → (Nat → Int32) → (Nat → Int32) → (Nat → Int32) → (Nat → Int32) → (Nat → Int32) → (Nat → Int32) → (Nat → Int32) → (Nat → Int64) → (Nat → Int64) → Option (Int32 × (Nat → Int32) × (Nat → Int32) × (Nat → Int32) × (Nat → Int32) × (Nat → Int32) × (Nat → Int32) × (Nat → Int32) × (Nat → Int32) × (Nat → Int32) × (Nat → Int64) × (Nat → Int64))) (v4 : Int32) (v5 : Int32) (v6 : Int32) (v7 : Int32) (x74 : (Nat → Int32)) (x75 : (Nat → Int32)) (x76 : (Nat → Int32)) (x77 : (Nat → Int32)) (x78 : (Nat → Int32)) (x101 : (Nat → Int32)) (x108 : (Nat → Int32)) (x109 : (Nat → Int32)) (x112 : (Nat → Int32)) (y99 : (Nat → Int64)) (y100 : (Nat → Int64)) : Option (Int32 × (Nat → Int32) × (Nat → Int32) × (Nat → Int32) × (Nat → Int32) × (Nat → Int32) × (Nat → Int32) × (Nat → Int32) × (Nat → Int32) × (Nat → Int32) × (Nat → Int64) × (Nat → Int64)) := if 25 ≤ v7 then (if v4 = 0 then (some (v5, x74, x75, x76, x77, x78, x101, x108, x109, x112, y99, y100)) else (if v6 = (-1) then (some ((-2), x74, x75, x76, x77, x78, x101, x108, x109, x112, y99, y100)) else (if v4 = 1 then (fX12_rests_128 x79 x92 x93 x94 x95 x96 x97  (v6 / 5) 2 x74 x75 x76 x77 x78 x101 x108 x109 x112 y99 y100) else (fX12_rests_128 x79 x92 x93 x94 x95 x96 x97  (v6 - v6 / 5 * 5) 2 x74 x75 x76 x77 x78 x101 x108 x109 x112 y99 y100)))) else (bd1 (fX12_isRest x108 x109 v7) fun r_1 => (if r_1 = 0 then (fX12_rests_85 x79 x92 x93 x94 x95 x96 x97 k52 v4 v5 v6 v7 x74 x75 x76 x77 x78 x101 x108 x109 x112 y99 y100) else (if v5 = 0 then (fX12_rests_80 x79 x92 x93 x94 x95 x96 x97 k52 v4 v5 v7 v7 x74 x75 x76 x77 x78 x101 x108 x109 x112 y99 y100) else (fX12_rests_80 x79 x92 x93 x94 x95 x96 x97 k52 v4 v5 v7 v6 x74 x75 x76 x77 x78 x101 x108 x109 x112 y99 y100))))
def fX12_rests_52   (x79 : Nat → Int32) (x92 : Nat → Int32) (x93 : Nat → Int32) (x94 : Nat → Int32) (x95 : Nat → Int32) (x96 : Nat → Int32) (x97 : Nat → Int32)  : Int32 → Int32 → Int32 → Int32 → (Nat → Int32) → (Nat → Int32) → (Nat → Int32) → (Nat → Int32) → (Nat → Int32) → (Nat → Int32) → (Nat → Int32) → (Nat → Int32) → (Nat → Int32) → (Nat → Int64) → (Nat → Int64) → Option (Int32 × (Nat → Int32) × (Nat → Int32) × (Nat → Int32) × (Nat → Int32) × (Nat → Int32) × (Nat → Int32) × (Nat → Int32) × (Nat → Int32) × (Nat → Int32) × (Nat → Int64) × (Nat → Int64)) := lq15 (fX12_rests_52b x79 x92 x93 x94 x95 x96 x97 ) 5000
set_option maxHeartbeats 4000000 in
set_option maxRecDepth 100000 in
theorem wX12_rests_52 {l : Launch} {b0 : Nat} {D : GD} {K : KT} {n : Nat} {κ : QT} {X0 : XT} {Y0 : YT} {Z : ZT} (hL : LY n κ) (hN : ([74, 75, 76, 77, 78, 79, 92, 93, 94, 95, 96, 97, 101, 108, 109, 112] : List Nat).Nodup) (hM : ([99, 100] : List Nat).Nodup) (hC : gC l b0 D K RX12 cX12_rests (some FieldType.int) 8 9 212 0 0) {x79 : Nat → Int32} {x92 : Nat → Int32} {x93 : Nat → Int32} {x94 : Nat → Int32} {x95 : Nat → Int32} {x96 : Nat → Int32} {x97 : Nat → Int32} {r : Int32} {rx74 : (Nat → Int32)} {rx75 : (Nat → Int32)} {rx76 : (Nat → Int32)} {rx77 : (Nat → Int32)} {rx78 : (Nat → Int32)} {rx101 : (Nat → Int32)} {rx108 : (Nat → Int32)} {rx109 : (Nat → Int32)} {rx112 : (Nat → Int32)} {ry99 : (Nat → Int64)} {ry100 : (Nat → Int64)} (hret : ∀ pc loc, narrow .int (.int r) = .int r → decode cX12_rests pc = .ok (.ireturn, 1) → gV l b0 D K (n, κ, ov X0 [74, 75, 76, 77, 78, 79, 92, 93, 94, 95, 96, 97, 101, 108, 109, 112] [rx74, rx75, rx76, rx77, rx78, x79, x92, x93, x94, x95, x96, x97, rx101, rx108, rx109, rx112], ov Y0 [99, 100] [ry99, ry100], Z, 0, 0) pc loc [.int r]) : ∀ (j : Nat) (v4 : Int32) (v5 : Int32) (v6 : Int32) (v7 : Int32) (x74 : (Nat → Int32)) (x75 : (Nat → Int32)) (x76 : (Nat → Int32)) (x77 : (Nat → Int32)) (x78 : (Nat → Int32)) (x101 : (Nat → Int32)) (x108 : (Nat → Int32)) (x109 : (Nat → Int32)) (x112 : (Nat → Int32)) (y99 : (Nat → Int64)) (y100 : (Nat → Int64)), lq15 (fX12_rests_52b x79 x92 x93 x94 x95 x96 x97 ) j v4 v5 v6 v7 x74 x75 x76 x77 x78 x101 x108 x109 x112 y99 y100 = some (r, rx74, rx75, rx76, rx77, rx78, rx101, rx108, rx109, rx112, ry99, ry100) → gV l b0 D K (n, κ, ov X0 [74, 75, 76, 77, 78, 79, 92, 93, 94, 95, 96, 97, 101, 108, 109, 112] [x74, x75, x76, x77, x78, x79, x92, x93, x94, x95, x96, x97, x101, x108, x109, x112], ov Y0 [99, 100] [y99, y100], Z, 0, 0) 52 [(0, .ref (b0 + 74)), (4, .int v4), (5, .int v5), (6, .int v6), (7, .int v7)] [] := by
  intro j
  induction j with
  | zero => intro v4 v5 v6 v7 x74 x75 x76 x77 x78 x101 x108 x109 x112 y99 y100 hf; cases hf
  | succ j hk52 =>
    intro v4 v5 v6 v7 x74 x75 x76 x77 x78 x101 x108 x109 x112 y99 y100 hf
    replace hf : fX12_rests_52b x79 x92 x93 x94 x95 x96 x97  (lq15 (fX12_rests_52b x79 x92 x93 x94 x95 x96 x97 ) j) v4 v5 v6 v7 x74 x75 x76 x77 x78 x101 x108 x109 x112 y99 y100 = some (r, rx74, rx75, rx76, rx77, rx78, rx101, rx108, rx109, rx112, ry99, ry100) := hf
    unfold fX12_rests_52b at hf
    refine g_iload hC 4 dX12_rests_52 rfl ?_
    refine g_bipush hC (v := 25) dX12_rests_54 bp_25 ?_
    refine g_icmp_ge hC 91 dX12_rests_56 (by decide) (fun hc => ?_) (fun hc => ?_)
    · replace hf := ifT hf hc
      refine g_iload hC 1 dX12_rests_91 rfl ?_
      refine g_if_ne hC 99 dX12_rests_93 (by decide) (fun hc => ?_) (fun hc => ?_)
      · replace hf := ifF hf hc
        refine g_iload hC 3 dX12_rests_99 rfl ?_
        refine g_iconst hC (v := (-1)) dX12_rests_101 ic_m1 ?_
        refine g_icmp_ne hC 110 dX12_rests_102 (by decide) (fun hc => ?_) (fun hc => ?_)
        · replace hf := ifF hf hc
          refine g_iconst hC (v := 2) dX12_rests_110 ic_2 ?_
          refine g_iload hC 1 dX12_rests_111 rfl ?_
          refine g_iconst hC (v := 1) dX12_rests_113 ic_1 ?_
          refine g_icmp_ne hC 124 dX12_rests_114 (by decide) (fun hc => ?_) (fun hc => ?_)
          · replace hf := ifF hf hc
            refine g_iload hC 3 dX12_rests_124 rfl ?_
            refine g_iconst hC (v := 5) dX12_rests_126 ic_5 ?_
            refine g_irem hC dX12_rests_127 (by decide) ?_
            exact g_sub [] rfl (wX12_rests_128 hL hN hM hC  hret  hf)
          · replace hf := ifT hf hc
            refine g_iload hC 3 dX12_rests_117 rfl ?_
            refine g_iconst hC (v := 5) dX12_rests_119 ic_5 ?_
            refine g_idiv hC dX12_rests_120 (by decide) ?_
            refine g_goto hC 128 dX12_rests_121 (by decide) ?_
            exact g_sub [] rfl (wX12_rests_128 hL hN hM hC  hret  hf)
        · replace hf := ifT hf hc
          refine g_bipush hC (v := (-2)) dX12_rests_105 bp_m2 ?_
          refine g_goto hC 129 dX12_rests_107 (by decide) ?_
          obtain ⟨rfl, rfl, rfl, rfl, rfl, rfl, rfl, rfl, rfl, rfl, rfl, rfl⟩ := sm12E hf
          exact hret _ _ rfl dX12_rests_129
      · replace hf := ifT hf hc
        refine g_iload hC 2 dX12_rests_96 rfl ?_
        obtain ⟨rfl, rfl, rfl, rfl, rfl, rfl, rfl, rfl, rfl, rfl, rfl, rfl⟩ := sm12E hf
        exact hret _ _ rfl dX12_rests_98
    · replace hf := ifF hf hc
      refine g_aload_n hC 0 dX12_rests_59 rfl rfl ?_
      refine g_iload hC 4 dX12_rests_60 rfl ?_
      obtain ⟨r_1, q_2, hf⟩ := bd1E hf
      refine g_callV_i (a := 74) hC (X' := ov X0 [74, 75, 76, 77, 78, 79, 92, 93, 94, 95, 96, 97, 101, 108, 109, 112] [x74, x75, x76, x77, x78, x79, x92, x93, x94, x95, x96, x97, x101, x108, x109, x112]) (Y' := ov Y0 [99, 100] [y99, y100]) (As := [.int v7]) (gMi_eq (c_X12_isRest l hL (ov_map hN [13, 14] (by rfl) (by rfl)) (ov_map hM [] (by rfl) (by rfl)) q_2) (ov_ovE hN (by rfl) [13, 14] [0, 1, 2, 3, 4, 5, 6, 7, 8, 9, 10, 11, 12, 15] (by rfl) (by rfl) [x74, x75, x76, x77, x78, x79, x92, x93, x94, x95, x96, x97, x101, x112] (by rfl) (by rfl) (by rfl) 16 (by rfl) (by decide)) (ov_ovE hM (by rfl) [] [0, 1] (by rfl) (by rfl) [y99, y100] (by rfl) (by rfl) (by rfl) 2 (by rfl) (by decide))) tw_1766 tw_1763 tw_127 tw_1765 tw_110 (ci := 12) rfl (by decide) (kk_74 hL) (kn_74 hL) pd_X12_isRest (by decide) (by decide) rfl rfl (Nat.le_of_ble_eq_true rfl) rfl dX12_rests_62 ?_
      refine g_if_eq hC 85 dX12_rests_65 (by decide) (fun hc => ?_) (fun hc => ?_)
      · replace hf := ifT hf hc
        exact g_sub [0, 1, 2, 3, 4] rfl (wX12_rests_85 hL hN hM hC  hret hk52 hf)
      · replace hf := ifF hf hc
        refine g_iload hC 2 dX12_rests_68 rfl ?_
        refine g_if_ne hC 78 dX12_rests_70 (by decide) (fun hc => ?_) (fun hc => ?_)
        · replace hf := ifF hf hc
          refine g_iload hC 3 dX12_rests_78 rfl ?_
          exact g_sub [0, 1, 2, 4] rfl (wX12_rests_80 hL hN hM hC  hret hk52 hf)
        · replace hf := ifT hf hc
          refine g_iload hC 4 dX12_rests_73 rfl ?_
          refine g_goto hC 80 dX12_rests_75 (by decide) ?_
          exact g_sub [0, 1, 2, 4] rfl (wX12_rests_80 hL hN hM hC  hret hk52 hf)

def fX12_rests_0   (x79 : Nat → Int32) (x92 : Nat → Int32) (x93 : Nat → Int32) (x94 : Nat → Int32) (x95 : Nat → Int32) (x96 : Nat → Int32) (x97 : Nat → Int32)  (v1 : Int32) (v2 : Int32) (v3 : Int32) (v4 : Int32) (x74 : (Nat → Int32)) (x75 : (Nat → Int32)) (x76 : (Nat → Int32)) (x77 : (Nat → Int32)) (x78 : (Nat → Int32)) (x101 : (Nat → Int32)) (x108 : (Nat → Int32)) (x109 : (Nat → Int32)) (x112 : (Nat → Int32)) (y99 : (Nat → Int64)) (y100 : (Nat → Int64)) : Option (Int32 × (Nat → Int32) × (Nat → Int32) × (Nat → Int32) × (Nat → Int32) × (Nat → Int32) × (Nat → Int32) × (Nat → Int32) × (Nat → Int32) × (Nat → Int32) × (Nat → Int64) × (Nat → Int64)) := bd1 (fX12_areTwo x75 v1 v2) fun r_1 => (if r_1 = 0 then (some ((-1), x74, x75, x76, x77, x78, x101, x108, x109, x112, y99, y100)) else (bd1 (fX12_in v3.toInt64 1 20) fun r_3 => (if r_3 = 0 then (some ((-1), x74, x75, x76, x77, x78, x101, x108, x109, x112, y99, y100)) else (bd1 (fX12_in v4.toInt64 0 2) fun r_5 => (if r_5 = 0 then (some ((-1), x74, x75, x76, x77, x78, x101, x108, x109, x112, y99, y100)) else (bd11 (fX12_laysRocks x79 x92 x93 x94 x95 x96 x97 v1 v2 v3 x74 x75 x76 x77 x78 x101 x108 x109 x112 y99 y100) fun x74_7 x75_8 x76_9 x77_10 x78_11 x101_12 x108_13 x109_14 x112_15 y99_16 y100_17 => (fX12_rests_52 x79 x92 x93 x94 x95 x96 x97  v4 0 (-1) 0 x74_7 x75_8 x76_9 x77_10 x78_11 x101_12 x108_13 x109_14 x112_15 y99_16 y100_17)))))))
set_option maxHeartbeats 4000000 in
set_option maxRecDepth 100000 in
theorem wX12_rests_0 {l : Launch} {b0 : Nat} {D : GD} {K : KT} {n : Nat} {κ : QT} {X0 : XT} {Y0 : YT} {Z : ZT} (hL : LY n κ) (hN : ([74, 75, 76, 77, 78, 79, 92, 93, 94, 95, 96, 97, 101, 108, 109, 112] : List Nat).Nodup) (hM : ([99, 100] : List Nat).Nodup) (hC : gC l b0 D K RX12 cX12_rests (some FieldType.int) 8 9 212 0 0) {x79 : Nat → Int32} {x92 : Nat → Int32} {x93 : Nat → Int32} {x94 : Nat → Int32} {x95 : Nat → Int32} {x96 : Nat → Int32} {x97 : Nat → Int32} {r : Int32} {rx74 : (Nat → Int32)} {rx75 : (Nat → Int32)} {rx76 : (Nat → Int32)} {rx77 : (Nat → Int32)} {rx78 : (Nat → Int32)} {rx101 : (Nat → Int32)} {rx108 : (Nat → Int32)} {rx109 : (Nat → Int32)} {rx112 : (Nat → Int32)} {ry99 : (Nat → Int64)} {ry100 : (Nat → Int64)} (hret : ∀ pc loc, narrow .int (.int r) = .int r → decode cX12_rests pc = .ok (.ireturn, 1) → gV l b0 D K (n, κ, ov X0 [74, 75, 76, 77, 78, 79, 92, 93, 94, 95, 96, 97, 101, 108, 109, 112] [rx74, rx75, rx76, rx77, rx78, x79, x92, x93, x94, x95, x96, x97, rx101, rx108, rx109, rx112], ov Y0 [99, 100] [ry99, ry100], Z, 0, 0) pc loc [.int r]) {v1 : Int32} {v2 : Int32} {v3 : Int32} {v4 : Int32} {x74 : (Nat → Int32)} {x75 : (Nat → Int32)} {x76 : (Nat → Int32)} {x77 : (Nat → Int32)} {x78 : (Nat → Int32)} {x101 : (Nat → Int32)} {x108 : (Nat → Int32)} {x109 : (Nat → Int32)} {x112 : (Nat → Int32)} {y99 : (Nat → Int64)} {y100 : (Nat → Int64)} (hf : fX12_rests_0 x79 x92 x93 x94 x95 x96 x97  v1 v2 v3 v4 x74 x75 x76 x77 x78 x101 x108 x109 x112 y99 y100 = some (r, rx74, rx75, rx76, rx77, rx78, rx101, rx108, rx109, rx112, ry99, ry100)) : gV l b0 D K (n, κ, ov X0 [74, 75, 76, 77, 78, 79, 92, 93, 94, 95, 96, 97, 101, 108, 109, 112] [x74, x75, x76, x77, x78, x79, x92, x93, x94, x95, x96, x97, x101, x108, x109, x112], ov Y0 [99, 100] [y99, y100], Z, 0, 0) 0 [(0, .ref (b0 + 74)), (1, .int v1), (2, .int v2), (3, .int v3), (4, .int v4)] [] := by
  unfold fX12_rests_0 at hf
  refine g_aload_n hC 0 dX12_rests_0 rfl rfl ?_
  refine g_iload_n hC 1 dX12_rests_1 rfl rfl ?_
  refine g_iload_n hC 2 dX12_rests_2 rfl rfl ?_
  obtain ⟨r_1, q_2, hf⟩ := bd1E hf
  refine g_callV_i (a := 74) hC (X' := ov X0 [74, 75, 76, 77, 78, 79, 92, 93, 94, 95, 96, 97, 101, 108, 109, 112] [x74, x75, x76, x77, x78, x79, x92, x93, x94, x95, x96, x97, x101, x108, x109, x112]) (Y' := ov Y0 [99, 100] [y99, y100]) (As := [.int v1, .int v2]) (gMi_eq (c_X12_areTwo l hL (ov_map hN [1] (by rfl) (by rfl)) (ov_map hM [] (by rfl) (by rfl)) q_2) (ov_ovE hN (by rfl) [1] [0, 2, 3, 4, 5, 6, 7, 8, 9, 10, 11, 12, 13, 14, 15] (by rfl) (by rfl) [x74, x76, x77, x78, x79, x92, x93, x94, x95, x96, x97, x101, x108, x109, x112] (by rfl) (by rfl) (by rfl) 16 (by rfl) (by decide)) (ov_ovE hM (by rfl) [] [0, 1] (by rfl) (by rfl) [y99, y100] (by rfl) (by rfl) (by rfl) 2 (by rfl) (by decide))) tw_1561 tw_1558 tw_127 tw_1560 tw_80 (ci := 12) rfl (by decide) (kk_74 hL) (kn_74 hL) pd_X12_areTwo (by decide) (by decide) rfl rfl (Nat.le_of_ble_eq_true rfl) rfl dX12_rests_3 ?_
  refine g_if_eq hC 34 dX12_rests_6 (by decide) (fun hc => ?_) (fun hc => ?_)
  · replace hf := ifT hf hc
    refine g_iconst hC (v := (-1)) dX12_rests_34 ic_m1 ?_
    obtain ⟨rfl, rfl, rfl, rfl, rfl, rfl, rfl, rfl, rfl, rfl, rfl, rfl⟩ := sm12E hf
    exact hret _ _ rfl dX12_rests_35
  · replace hf := ifF hf hc
    refine g_iload_n hC 3 dX12_rests_9 rfl rfl ?_
    refine g_i2l hC dX12_rests_10 ?_
    refine g_lconst hC (v := 1) dX12_rests_11 rfl ?_
    refine g_ldc2_w hC (v := 20) tw_1758 dX12_rests_12 ?_
    obtain ⟨r_3, q_4, hf⟩ := bd1E hf
    refine g_callS_i hC (X' := ov X0 [74, 75, 76, 77, 78, 79, 92, 93, 94, 95, 96, 97, 101, 108, 109, 112] [x74, x75, x76, x77, x78, x79, x92, x93, x94, x95, x96, x97, x101, x108, x109, x112]) (Y' := ov Y0 [99, 100] [y99, y100]) (As := [.long v3.toInt64, .long 1, .long 20]) (gMi_eq (c_X12_in l hL (ov_map hN [] (by rfl) (by rfl)) (ov_map hM [] (by rfl) (by rfl)) q_4) (ov_ovE hN (by rfl) [] [0, 1, 2, 3, 4, 5, 6, 7, 8, 9, 10, 11, 12, 13, 14, 15] (by rfl) (by rfl) [x74, x75, x76, x77, x78, x79, x92, x93, x94, x95, x96, x97, x101, x108, x109, x112] (by rfl) (by rfl) (by rfl) 16 (by rfl) (by decide)) (ov_ovE hM (by rfl) [] [0, 1] (by rfl) (by rfl) [y99, y100] (by rfl) (by rfl) (by rfl) 2 (by rfl) (by decide))) tw_1428 tw_1426 tw_127 tw_1427 pd_X12_in (by decide) (by decide) rfl rfl (Nat.le_of_ble_eq_true rfl) rfl dX12_rests_15 ?_
    refine g_if_eq hC 34 dX12_rests_18 (by decide) (fun hc => ?_) (fun hc => ?_)
    · replace hf := ifT hf hc
      refine g_iconst hC (v := (-1)) dX12_rests_34 ic_m1 ?_
      obtain ⟨rfl, rfl, rfl, rfl, rfl, rfl, rfl, rfl, rfl, rfl, rfl, rfl⟩ := sm12E hf
      exact hret _ _ rfl dX12_rests_35
    · replace hf := ifF hf hc
      refine g_iload hC 4 dX12_rests_21 rfl ?_
      refine g_i2l hC dX12_rests_23 ?_
      refine g_lconst hC (v := 0) dX12_rests_24 rfl ?_
      refine g_ldc2_w hC (v := 2) tw_1668 dX12_rests_25 ?_
      obtain ⟨r_5, q_6, hf⟩ := bd1E hf
      refine g_callS_i hC (X' := ov X0 [74, 75, 76, 77, 78, 79, 92, 93, 94, 95, 96, 97, 101, 108, 109, 112] [x74, x75, x76, x77, x78, x79, x92, x93, x94, x95, x96, x97, x101, x108, x109, x112]) (Y' := ov Y0 [99, 100] [y99, y100]) (As := [.long v4.toInt64, .long 0, .long 2]) (gMi_eq (c_X12_in l hL (ov_map hN [] (by rfl) (by rfl)) (ov_map hM [] (by rfl) (by rfl)) q_6) (ov_ovE hN (by rfl) [] [0, 1, 2, 3, 4, 5, 6, 7, 8, 9, 10, 11, 12, 13, 14, 15] (by rfl) (by rfl) [x74, x75, x76, x77, x78, x79, x92, x93, x94, x95, x96, x97, x101, x108, x109, x112] (by rfl) (by rfl) (by rfl) 16 (by rfl) (by decide)) (ov_ovE hM (by rfl) [] [0, 1] (by rfl) (by rfl) [y99, y100] (by rfl) (by rfl) (by rfl) 2 (by rfl) (by decide))) tw_1428 tw_1426 tw_127 tw_1427 pd_X12_in (by decide) (by decide) rfl rfl (Nat.le_of_ble_eq_true rfl) rfl dX12_rests_28 ?_
      refine g_if_ne hC 36 dX12_rests_31 (by decide) (fun hc => ?_) (fun hc => ?_)
      · replace hf := ifF hf hc
        refine g_aload_n hC 0 dX12_rests_36 rfl rfl ?_
        refine g_iload_n hC 1 dX12_rests_37 rfl rfl ?_
        refine g_iload_n hC 2 dX12_rests_38 rfl rfl ?_
        refine g_iload_n hC 3 dX12_rests_39 rfl rfl ?_
        obtain ⟨x74_7, x75_8, x76_9, x77_10, x78_11, x101_12, x108_13, x109_14, x112_15, y99_16, y100_17, q_18, hf⟩ := bd11E hf
        refine g_callV_v (a := 74) hC (X' := ov X0 [74, 75, 76, 77, 78, 79, 92, 93, 94, 95, 96, 97, 101, 108, 109, 112] [x74_7, x75_8, x76_9, x77_10, x78_11, x79, x92, x93, x94, x95, x96, x97, x101_12, x108_13, x109_14, x112_15]) (Y' := ov Y0 [99, 100] [y99_16, y100_17]) (As := [.int v1, .int v2, .int v3]) (gMv_eq (c_X12_laysRocks l hL (ov_map hN [0, 1, 2, 3, 4, 5, 6, 7, 8, 9, 10, 11, 12, 13, 14, 15] (by rfl) (by rfl)) (ov_map hM [0, 1] (by rfl) (by rfl)) q_18) (ov_ovE hN (by rfl) [0, 1, 2, 3, 4, 5, 6, 7, 8, 9, 10, 11, 12, 13, 14, 15] [] (by rfl) (by rfl) [] (by rfl) (by rfl) (by rfl) 16 (by rfl) (by decide)) (ov_ovE hM (by rfl) [0, 1] [] (by rfl) (by rfl) [] (by rfl) (by rfl) (by rfl) 2 (by rfl) (by decide))) tw_1762 tw_1759 tw_127 tw_1761 tw_109 (ci := 12) rfl (by decide) (kk_74 hL) (kn_74 hL) pd_X12_laysRocks (by decide) (by decide) rfl rfl (Nat.le_of_ble_eq_true rfl) rfl dX12_rests_40 ?_
        refine g_iconst hC (v := 0) dX12_rests_43 ic_0 ?_
        refine g_istore hC (i := 5) [(5, .int 0), (0, .ref (b0 + 74)), (1, .int v1), (2, .int v2), (3, .int v3), (4, .int v4)] dX12_rests_44 (by decide) rfl ?_
        refine g_iconst hC (v := (-1)) dX12_rests_46 ic_m1 ?_
        refine g_istore hC (i := 6) [(6, .int (-1)), (5, .int 0), (0, .ref (b0 + 74)), (1, .int v1), (2, .int v2), (3, .int v3), (4, .int v4)] dX12_rests_47 (by decide) rfl ?_
        refine g_iconst hC (v := 0) dX12_rests_49 ic_0 ?_
        refine g_istore hC (i := 7) [(7, .int 0), (6, .int (-1)), (5, .int 0), (0, .ref (b0 + 74)), (1, .int v1), (2, .int v2), (3, .int v3), (4, .int v4)] dX12_rests_50 (by decide) rfl ?_
        exact g_sub [3, 7, 2, 1, 0] rfl (wX12_rests_52 hL hN hM hC  hret  5000 v4 0 (-1) 0 x74_7 x75_8 x76_9 x77_10 x78_11 x101_12 x108_13 x109_14 x112_15 y99_16 y100_17 hf)
      · replace hf := ifT hf hc
        refine g_iconst hC (v := (-1)) dX12_rests_34 ic_m1 ?_
        obtain ⟨rfl, rfl, rfl, rfl, rfl, rfl, rfl, rfl, rfl, rfl, rfl, rfl⟩ := sm12E hf
        exact hret _ _ rfl dX12_rests_35

def fX12_rests   (x79 : Nat → Int32) (x92 : Nat → Int32) (x93 : Nat → Int32) (x94 : Nat → Int32) (x95 : Nat → Int32) (x96 : Nat → Int32) (x97 : Nat → Int32)  (v1 : Int32) (v2 : Int32) (v3 : Int32) (v4 : Int32) (x74 : Nat → Int32) (x75 : Nat → Int32) (x76 : Nat → Int32) (x77 : Nat → Int32) (x78 : Nat → Int32) (x101 : Nat → Int32) (x108 : Nat → Int32) (x109 : Nat → Int32) (x112 : Nat → Int32) (y99 : Nat → Int64) (y100 : Nat → Int64) : Option (Int32 × (Nat → Int32) × (Nat → Int32) × (Nat → Int32) × (Nat → Int32) × (Nat → Int32) × (Nat → Int32) × (Nat → Int32) × (Nat → Int32) × (Nat → Int32) × (Nat → Int64) × (Nat → Int64)) := fX12_rests_0 x79 x92 x93 x94 x95 x96 x97 v1 v2 v3 v4 x74 x75 x76 x77 x78 x101 x108 x109 x112 y99 y100

set_option maxHeartbeats 4000000 in
set_option maxRecDepth 100000 in
theorem c_X12_rests (l : Launch) {b0 : Nat} {D : GD} {n : Nat} {κ : QT} {X0 : XT} {Y0 : YT} {Z : ZT} (hL : LY n κ) {x74 : Nat → Int32} {x75 : Nat → Int32} {x76 : Nat → Int32} {x77 : Nat → Int32} {x78 : Nat → Int32} {x79 : Nat → Int32} {x92 : Nat → Int32} {x93 : Nat → Int32} {x94 : Nat → Int32} {x95 : Nat → Int32} {x96 : Nat → Int32} {x97 : Nat → Int32} {x101 : Nat → Int32} {x108 : Nat → Int32} {x109 : Nat → Int32} {x112 : Nat → Int32} {y99 : Nat → Int64} {y100 : Nat → Int64} (hx : ([74, 75, 76, 77, 78, 79, 92, 93, 94, 95, 96, 97, 101, 108, 109, 112] : List Nat).map X0 = [x74, x75, x76, x77, x78, x79, x92, x93, x94, x95, x96, x97, x101, x108, x109, x112]) (hy : ([99, 100] : List Nat).map Y0 = [y99, y100]) {v1 : Int32} {v2 : Int32} {v3 : Int32} {v4 : Int32} {r : Int32} {rx74 : (Nat → Int32)} {rx75 : (Nat → Int32)} {rx76 : (Nat → Int32)} {rx77 : (Nat → Int32)} {rx78 : (Nat → Int32)} {rx101 : (Nat → Int32)} {rx108 : (Nat → Int32)} {rx109 : (Nat → Int32)} {rx112 : (Nat → Int32)} {ry99 : (Nat → Int64)} {ry100 : (Nat → Int64)} (hf : fX12_rests x79 x92 x93 x94 x95 x96 x97 v1 v2 v3 v4 x74 x75 x76 x77 x78 x101 x108 x109 x112 y99 y100 = some (r, rx74, rx75, rx76, rx77, rx78, rx101, rx108, rx109, rx112, ry99, ry100)) : gMi l yX12_rests cX12_rests 8 (some FieldType.int) 9 212 0 0 b0 D [.ref (b0 + 74), .int v1, .int v2, .int v3, .int v4] (n, κ, X0, Y0, Z) (n, κ, ov X0 [74, 75, 76, 77, 78, 79, 92, 93, 94, 95, 96, 97, 101, 108, 109, 112] [rx74, rx75, rx76, rx77, rx78, x79, x92, x93, x94, x95, x96, x97, rx101, rx108, rx109, rx112], ov Y0 [99, 100] [ry99, ry100], Z) r := by
  have hN : ([74, 75, 76, 77, 78, 79, 92, 93, 94, 95, 96, 97, 101, 108, 109, 112] : List Nat).Nodup := by decide
  have hM : ([99, 100] : List Nat).Nodup := by decide
  refine g_meti (own := RX12) (by decide) rfl rfl (Nat.le_of_ble_eq_true rfl) ?_
  intro K hC hret
  have e := wX12_rests_0 hL hN hM hC  hret hf
  rw [ov_id' hx, ov_id' hy] at e
  exact g_sub [0, 1, 2, 3, 4] rfl e

-- X12_allHard
def fX12_allHard_9b   (x77 : Nat → Int32) (x78 : Nat → Int32)  (k9 : Int32 → Int32 → Int32 → Option (Int32)) (v1 : Int32) (v2 : Int32) (v3 : Int32) : Option (Int32) := if 6 ≤ v3 then (some v2) else (gd (inb ((6 * v1) + v3) 36) (bn (v2 + (x78 ((6 * v1) + v3).toNatClampNeg)) fun t_2 => (bn (v3 + 1) fun t_3 => (k9 v1 t_2 t_3))))
def fX12_allHard_9   (x77 : Nat → Int32) (x78 : Nat → Int32)  : Int32 → Int32 → Int32 → Option (Int32) := lq3 (fX12_allHard_9b x77 x78 ) 5000
set_option maxHeartbeats 4000000 in
set_option maxRecDepth 100000 in
theorem wX12_allHard_9 {l : Launch} {b0 : Nat} {D : GD} {K : KT} {n : Nat} {κ : QT} {X0 : XT} {Y0 : YT} {Z : ZT} (hL : LY n κ) (hN : ([77, 78] : List Nat).Nodup) (hM : ([] : List Nat).Nodup) (hC : gC l b0 D K RX12 cX12_allHard (some FieldType.int) 4 0 0 0 0) {x77 : Nat → Int32} {x78 : Nat → Int32} {r : Int32} (hret : ∀ pc loc, narrow .int (.int r) = .int r → decode cX12_allHard pc = .ok (.ireturn, 1) → gV l b0 D K (n, κ, ov X0 [77, 78] [x77, x78], ov Y0 [] [], Z, 0, 0) pc loc [.int r]) : ∀ (j : Nat) (v1 : Int32) (v2 : Int32) (v3 : Int32), lq3 (fX12_allHard_9b x77 x78 ) j v1 v2 v3 = some r → gV l b0 D K (n, κ, ov X0 [77, 78] [x77, x78], ov Y0 [] [], Z, 0, 0) 9 [(0, .ref (b0 + 74)), (1, .int v1), (2, .int v2), (3, .int v3)] [] := by
  intro j
  induction j with
  | zero => intro v1 v2 v3 hf; cases hf
  | succ j hk9 =>
    intro v1 v2 v3 hf
    replace hf : fX12_allHard_9b x77 x78  (lq3 (fX12_allHard_9b x77 x78 ) j) v1 v2 v3 = some r := hf
    unfold fX12_allHard_9b at hf
    refine g_iload_n hC 3 dX12_allHard_9 rfl rfl ?_
    refine g_bipush hC (v := 6) dX12_allHard_10 bp_6 ?_
    refine g_icmp_ge hC 35 dX12_allHard_12 (by decide) (fun hc => ?_) (fun hc => ?_)
    · replace hf := ifT hf hc
      refine g_iload_n hC 2 dX12_allHard_35 rfl rfl ?_
      obtain rfl := sm1E hf
      exact hret _ _ rfl dX12_allHard_36
    · replace hf := ifF hf hc
      refine g_iload_n hC 2 dX12_allHard_15 rfl rfl ?_
      refine g_aload_n hC 0 dX12_allHard_16 rfl rfl ?_
      refine gt_X12_19 hC (a := 74) (kk_74 hL) (kn_74 hL) dX12_allHard_17 ?_
      refine g_ref (b := 78) rfl ?_
      refine g_bipush hC (v := 6) dX12_allHard_20 bp_6 ?_
      refine g_iload_n hC 1 dX12_allHard_22 rfl rfl ?_
      refine g_imul hC dX12_allHard_23 ?_
      refine g_iload_n hC 3 dX12_allHard_24 rfl rfl ?_
      refine g_iadd hC dX12_allHard_25 ?_
      obtain ⟨h_1, hf⟩ := gdE hf
      refine g_iald hC (x := x78) (kk_78 hL) (kn_78 hL) (ov_get hN 1 rfl rfl) (inb_in h_1) dX12_allHard_26 ?_
      refine g_iadd hC dX12_allHard_27 ?_
      obtain ⟨t_2, et_2, hf⟩ := bnE hf
      refine g_topi et_2 ?_
      refine g_istore_n hC (i := 2) [(2, .int t_2), (0, .ref (b0 + 74)), (1, .int v1), (3, .int v3)] rfl dX12_allHard_28 (by decide) rfl ?_
      obtain ⟨t_3, et_3, hf⟩ := bnE hf
      refine g_iinc hC (i := 3) (v := t_3) [(3, .int t_3), (2, .int t_2), (0, .ref (b0 + 74)), (1, .int v1)] dX12_allHard_29 (q := 3) rfl ((congrArg (HAdd.hAdd v3) ic_1).trans et_3.symm) (by decide) rfl ?_
      refine g_goto hC 9 dX12_allHard_32 (by decide) ?_
      exact g_sub [2, 3, 1, 0] rfl (hk9 v1 t_2 t_3 hf)

def fX12_allHard_0   (x77 : Nat → Int32) (x78 : Nat → Int32)  (v1 : Int32) : Option (Int32) := gd (inb v1 6) (bn (x77 v1.toNatClampNeg) fun t_2 => (fX12_allHard_9 x77 x78  v1 t_2 0))
set_option maxHeartbeats 4000000 in
set_option maxRecDepth 100000 in
theorem wX12_allHard_0 {l : Launch} {b0 : Nat} {D : GD} {K : KT} {n : Nat} {κ : QT} {X0 : XT} {Y0 : YT} {Z : ZT} (hL : LY n κ) (hN : ([77, 78] : List Nat).Nodup) (hM : ([] : List Nat).Nodup) (hC : gC l b0 D K RX12 cX12_allHard (some FieldType.int) 4 0 0 0 0) {x77 : Nat → Int32} {x78 : Nat → Int32} {r : Int32} (hret : ∀ pc loc, narrow .int (.int r) = .int r → decode cX12_allHard pc = .ok (.ireturn, 1) → gV l b0 D K (n, κ, ov X0 [77, 78] [x77, x78], ov Y0 [] [], Z, 0, 0) pc loc [.int r]) {v1 : Int32} (hf : fX12_allHard_0 x77 x78  v1 = some r) : gV l b0 D K (n, κ, ov X0 [77, 78] [x77, x78], ov Y0 [] [], Z, 0, 0) 0 [(0, .ref (b0 + 74)), (1, .int v1)] [] := by
  unfold fX12_allHard_0 at hf
  refine g_aload_n hC 0 dX12_allHard_0 rfl rfl ?_
  refine gt_X12_16 hC (a := 74) (kk_74 hL) (kn_74 hL) dX12_allHard_1 ?_
  refine g_ref (b := 77) rfl ?_
  refine g_iload_n hC 1 dX12_allHard_4 rfl rfl ?_
  obtain ⟨h_1, hf⟩ := gdE hf
  refine g_iald hC (x := x77) (kk_77 hL) (kn_77 hL) (ov_get hN 0 rfl rfl) (inb_in h_1) dX12_allHard_5 ?_
  obtain ⟨t_2, et_2, hf⟩ := bnE hf
  refine g_topi et_2 ?_
  refine g_istore_n hC (i := 2) [(2, .int t_2), (0, .ref (b0 + 74)), (1, .int v1)] rfl dX12_allHard_6 (by decide) rfl ?_
  refine g_iconst hC (v := 0) dX12_allHard_7 ic_0 ?_
  refine g_istore_n hC (i := 3) [(3, .int 0), (2, .int t_2), (0, .ref (b0 + 74)), (1, .int v1)] rfl dX12_allHard_8 (by decide) rfl ?_
  exact g_sub [2, 3, 1, 0] rfl (wX12_allHard_9 hL hN hM hC  hret  5000 v1 t_2 0 hf)

def fX12_allHard   (x77 : Nat → Int32) (x78 : Nat → Int32)  (v1 : Int32)   : Option (Int32) := fX12_allHard_0 x77 x78 v1

set_option maxHeartbeats 4000000 in
set_option maxRecDepth 100000 in
theorem c_X12_allHard (l : Launch) {b0 : Nat} {D : GD} {n : Nat} {κ : QT} {X0 : XT} {Y0 : YT} {Z : ZT} (hL : LY n κ) {x77 : Nat → Int32} {x78 : Nat → Int32} (hx : ([77, 78] : List Nat).map X0 = [x77, x78]) (hy : ([] : List Nat).map Y0 = []) {v1 : Int32} {r : Int32} (hf : fX12_allHard x77 x78 v1 = some r) : gMi l yX12_allHard cX12_allHard 4 (some FieldType.int) 0 0 0 0 b0 D [.ref (b0 + 74), .int v1] (n, κ, X0, Y0, Z) (n, κ, ov X0 [77, 78] [x77, x78], ov Y0 [] [], Z) r := by
  have hN : ([77, 78] : List Nat).Nodup := by decide
  have hM : ([] : List Nat).Nodup := by decide
  refine g_meti (own := RX12) (by decide) rfl rfl (Nat.le_of_ble_eq_true rfl) ?_
  intro K hC hret
  have e := wX12_allHard_0 hL hN hM hC  hret hf
  rw [ov_id' hx, ov_id' hy] at e
  exact g_sub [0, 1] rfl e

-- X12_parts
def fX12_parts_139   (x75 : Nat → Int32) (x77 : Nat → Int32) (x78 : Nat → Int32)  (k68 : Int32 → Int32 → Int32 → Int32 → Int32 → Int32 → Option (Int32)) (v1 : Int32) (v2 : Int32) (v3 : Int32) (v4 : Int32) (v6 : Int32) (s0 : Int32) (s1 : Int32) : Option (Int32) := bn (s1 + s0) fun t_1 => (bn (v6 + 1) fun t_2 => (k68 v1 v2 v3 v4 t_1 t_2))
set_option maxHeartbeats 4000000 in
set_option maxRecDepth 100000 in
theorem wX12_parts_139 {l : Launch} {b0 : Nat} {D : GD} {K : KT} {n : Nat} {κ : QT} {X0 : XT} {Y0 : YT} {Z : ZT} (hL : LY n κ) (hN : ([75, 77, 78] : List Nat).Nodup) (hM : ([] : List Nat).Nodup) (hC : gC l b0 D K RX12 cX12_parts (some FieldType.int) 8 2 46 0 0) {x75 : Nat → Int32} {x77 : Nat → Int32} {x78 : Nat → Int32} {r : Int32} (hret : ∀ pc loc, narrow .int (.int r) = .int r → decode cX12_parts pc = .ok (.ireturn, 1) → gV l b0 D K (n, κ, ov X0 [75, 77, 78] [x75, x77, x78], ov Y0 [] [], Z, 0, 0) pc loc [.int r]) {k68 : Int32 → Int32 → Int32 → Int32 → Int32 → Int32 → Option (Int32)} (hk68 : ∀ (v1 : Int32) (v2 : Int32) (v3 : Int32) (v4 : Int32) (v5 : Int32) (v6 : Int32), k68 v1 v2 v3 v4 v5 v6 = some r → gV l b0 D K (n, κ, ov X0 [75, 77, 78] [x75, x77, x78], ov Y0 [] [], Z, 0, 0) 68 [(0, .ref (b0 + 74)), (1, .int v1), (2, .int v2), (3, .int v3), (4, .int v4), (5, .int v5), (6, .int v6)] []) {v1 : Int32} {v2 : Int32} {v3 : Int32} {v4 : Int32} {v6 : Int32} {s0 : Int32} {s1 : Int32} (hf : fX12_parts_139 x75 x77 x78 k68 v1 v2 v3 v4 v6 s0 s1 = some r) : gV l b0 D K (n, κ, ov X0 [75, 77, 78] [x75, x77, x78], ov Y0 [] [], Z, 0, 0) 139 [(0, .ref (b0 + 74)), (1, .int v1), (2, .int v2), (3, .int v3), (4, .int v4), (6, .int v6)] [.int s0, .int s1] := by
  unfold fX12_parts_139 at hf
  refine g_iadd hC dX12_parts_139 ?_
  obtain ⟨t_1, et_1, hf⟩ := bnE hf
  refine g_topi et_1 ?_
  refine g_istore hC (i := 5) [(5, .int t_1), (0, .ref (b0 + 74)), (1, .int v1), (2, .int v2), (3, .int v3), (4, .int v4), (6, .int v6)] dX12_parts_140 (by decide) rfl ?_
  obtain ⟨t_2, et_2, hf⟩ := bnE hf
  refine g_iinc hC (i := 6) (v := t_2) [(6, .int t_2), (5, .int t_1), (0, .ref (b0 + 74)), (1, .int v1), (2, .int v2), (3, .int v3), (4, .int v4)] dX12_parts_142 (q := 6) rfl ((congrArg (HAdd.hAdd v6) ic_1).trans et_2.symm) (by decide) rfl ?_
  refine g_goto hC 68 dX12_parts_145 (by decide) ?_
  exact g_sub [2, 3, 4, 5, 6, 1, 0] rfl (hk68 v1 v2 v3 v4 t_1 t_2 hf)

def fX12_parts_138   (x75 : Nat → Int32) (x77 : Nat → Int32) (x78 : Nat → Int32)  (k68 : Int32 → Int32 → Int32 → Int32 → Int32 → Int32 → Option (Int32)) (v1 : Int32) (v2 : Int32) (v3 : Int32) (v4 : Int32) (v6 : Int32) (s0 : Int32) : Option (Int32) := fX12_parts_139 x75 x77 x78 k68 v1 v2 v3 v4 v6 0 s0
set_option maxHeartbeats 4000000 in
set_option maxRecDepth 100000 in
theorem wX12_parts_138 {l : Launch} {b0 : Nat} {D : GD} {K : KT} {n : Nat} {κ : QT} {X0 : XT} {Y0 : YT} {Z : ZT} (hL : LY n κ) (hN : ([75, 77, 78] : List Nat).Nodup) (hM : ([] : List Nat).Nodup) (hC : gC l b0 D K RX12 cX12_parts (some FieldType.int) 8 2 46 0 0) {x75 : Nat → Int32} {x77 : Nat → Int32} {x78 : Nat → Int32} {r : Int32} (hret : ∀ pc loc, narrow .int (.int r) = .int r → decode cX12_parts pc = .ok (.ireturn, 1) → gV l b0 D K (n, κ, ov X0 [75, 77, 78] [x75, x77, x78], ov Y0 [] [], Z, 0, 0) pc loc [.int r]) {k68 : Int32 → Int32 → Int32 → Int32 → Int32 → Int32 → Option (Int32)} (hk68 : ∀ (v1 : Int32) (v2 : Int32) (v3 : Int32) (v4 : Int32) (v5 : Int32) (v6 : Int32), k68 v1 v2 v3 v4 v5 v6 = some r → gV l b0 D K (n, κ, ov X0 [75, 77, 78] [x75, x77, x78], ov Y0 [] [], Z, 0, 0) 68 [(0, .ref (b0 + 74)), (1, .int v1), (2, .int v2), (3, .int v3), (4, .int v4), (5, .int v5), (6, .int v6)] []) {v1 : Int32} {v2 : Int32} {v3 : Int32} {v4 : Int32} {v6 : Int32} {s0 : Int32} (hf : fX12_parts_138 x75 x77 x78 k68 v1 v2 v3 v4 v6 s0 = some r) : gV l b0 D K (n, κ, ov X0 [75, 77, 78] [x75, x77, x78], ov Y0 [] [], Z, 0, 0) 138 [(0, .ref (b0 + 74)), (1, .int v1), (2, .int v2), (3, .int v3), (4, .int v4), (6, .int v6)] [.int s0] := by
  unfold fX12_parts_138 at hf
  refine g_iconst hC (v := 0) dX12_parts_138 ic_0 ?_
  exact g_sub [0, 1, 2, 3, 4, 5] rfl (wX12_parts_139 hL hN hM hC  hret hk68 hf)

def fX12_parts_134   (x75 : Nat → Int32) (x77 : Nat → Int32) (x78 : Nat → Int32)  (k68 : Int32 → Int32 → Int32 → Int32 → Int32 → Int32 → Option (Int32)) (v1 : Int32) (v2 : Int32) (v3 : Int32) (v4 : Int32) (v6 : Int32) (s0 : Int32) : Option (Int32) := fX12_parts_139 x75 x77 x78 k68 v1 v2 v3 v4 v6 1 s0
set_option maxHeartbeats 4000000 in
set_option maxRecDepth 100000 in
theorem wX12_parts_134 {l : Launch} {b0 : Nat} {D : GD} {K : KT} {n : Nat} {κ : QT} {X0 : XT} {Y0 : YT} {Z : ZT} (hL : LY n κ) (hN : ([75, 77, 78] : List Nat).Nodup) (hM : ([] : List Nat).Nodup) (hC : gC l b0 D K RX12 cX12_parts (some FieldType.int) 8 2 46 0 0) {x75 : Nat → Int32} {x77 : Nat → Int32} {x78 : Nat → Int32} {r : Int32} (hret : ∀ pc loc, narrow .int (.int r) = .int r → decode cX12_parts pc = .ok (.ireturn, 1) → gV l b0 D K (n, κ, ov X0 [75, 77, 78] [x75, x77, x78], ov Y0 [] [], Z, 0, 0) pc loc [.int r]) {k68 : Int32 → Int32 → Int32 → Int32 → Int32 → Int32 → Option (Int32)} (hk68 : ∀ (v1 : Int32) (v2 : Int32) (v3 : Int32) (v4 : Int32) (v5 : Int32) (v6 : Int32), k68 v1 v2 v3 v4 v5 v6 = some r → gV l b0 D K (n, κ, ov X0 [75, 77, 78] [x75, x77, x78], ov Y0 [] [], Z, 0, 0) 68 [(0, .ref (b0 + 74)), (1, .int v1), (2, .int v2), (3, .int v3), (4, .int v4), (5, .int v5), (6, .int v6)] []) {v1 : Int32} {v2 : Int32} {v3 : Int32} {v4 : Int32} {v6 : Int32} {s0 : Int32} (hf : fX12_parts_134 x75 x77 x78 k68 v1 v2 v3 v4 v6 s0 = some r) : gV l b0 D K (n, κ, ov X0 [75, 77, 78] [x75, x77, x78], ov Y0 [] [], Z, 0, 0) 134 [(0, .ref (b0 + 74)), (1, .int v1), (2, .int v2), (3, .int v3), (4, .int v4), (6, .int v6)] [.int s0] := by
  unfold fX12_parts_134 at hf
  refine g_iconst hC (v := 1) dX12_parts_134 ic_1 ?_
  refine g_goto hC 139 dX12_parts_135 (by decide) ?_
  exact g_sub [0, 1, 2, 3, 4, 5] rfl (wX12_parts_139 hL hN hM hC  hret hk68 hf)

def fX12_parts_68b   (x75 : Nat → Int32) (x77 : Nat → Int32) (x78 : Nat → Int32)  (k68 : Int32 → Int32 → Int32 → Int32 → Int32 → Int32 → Option (Int32)) (v1 : Int32) (v2 : Int32) (v3 : Int32) (v4 : Int32) (v5 : Int32) (v6 : Int32) : Option (Int32) := gd (inb 4 11) (if (x75 (4 : Int32).toNatClampNeg) ≤ v6 then (bd1 (fX12_allHard x77 x78 v2) fun r_2 => (gd (nz v3) (if v4 ≤ v5 then (some (((v1 * r_2) / v3) + 0)) else (some (((v1 * r_2) / v3) + 1))))) else (bd1 (fX12_allHard x77 x78 v6) fun r_5 => (gd (nz v3) (bn (v4 - ((v1 * r_5) / v3)) fun t_8 => (bd1 (fX12_allHard x77 x78 v6) fun r_9 => (gd (nz v3) (bd1 (fX12_allHard x77 x78 v2) fun r_12 => (gd (nz v3) (bn (((v1 * r_9) - (v1 * r_9) / v3 * v3) - ((v1 * r_12) - (v1 * r_12) / v3 * v3)) fun t_15 => (if 0 < t_15 then (fX12_parts_134 x75 x77 x78 k68 v1 v2 v3 t_8 v6 v5) else (if t_15 = 0 then (if v2 ≤ v6 then (fX12_parts_138 x75 x77 x78 k68 v1 v2 v3 t_8 v6 v5) else (fX12_parts_134 x75 x77 x78 k68 v1 v2 v3 t_8 v6 v5)) else (fX12_parts_138 x75 x77 x78 k68 v1 v2 v3 t_8 v6 v5))))))))))))
def fX12_parts_68   (x75 : Nat → Int32) (x77 : Nat → Int32) (x78 : Nat → Int32)  : Int32 → Int32 → Int32 → Int32 → Int32 → Int32 → Option (Int32) := lq6 (fX12_parts_68b x75 x77 x78 ) 5000
set_option maxHeartbeats 4000000 in
set_option maxRecDepth 100000 in
theorem wX12_parts_68 {l : Launch} {b0 : Nat} {D : GD} {K : KT} {n : Nat} {κ : QT} {X0 : XT} {Y0 : YT} {Z : ZT} (hL : LY n κ) (hN : ([75, 77, 78] : List Nat).Nodup) (hM : ([] : List Nat).Nodup) (hC : gC l b0 D K RX12 cX12_parts (some FieldType.int) 8 2 46 0 0) {x75 : Nat → Int32} {x77 : Nat → Int32} {x78 : Nat → Int32} {r : Int32} (hret : ∀ pc loc, narrow .int (.int r) = .int r → decode cX12_parts pc = .ok (.ireturn, 1) → gV l b0 D K (n, κ, ov X0 [75, 77, 78] [x75, x77, x78], ov Y0 [] [], Z, 0, 0) pc loc [.int r]) : ∀ (j : Nat) (v1 : Int32) (v2 : Int32) (v3 : Int32) (v4 : Int32) (v5 : Int32) (v6 : Int32), lq6 (fX12_parts_68b x75 x77 x78 ) j v1 v2 v3 v4 v5 v6 = some r → gV l b0 D K (n, κ, ov X0 [75, 77, 78] [x75, x77, x78], ov Y0 [] [], Z, 0, 0) 68 [(0, .ref (b0 + 74)), (1, .int v1), (2, .int v2), (3, .int v3), (4, .int v4), (5, .int v5), (6, .int v6)] [] := by
  intro j
  induction j with
  | zero => intro v1 v2 v3 v4 v5 v6 hf; cases hf
  | succ j hk68 =>
    intro v1 v2 v3 v4 v5 v6 hf
    replace hf : fX12_parts_68b x75 x77 x78  (lq6 (fX12_parts_68b x75 x77 x78 ) j) v1 v2 v3 v4 v5 v6 = some r := hf
    unfold fX12_parts_68b at hf
    refine g_iload hC 6 dX12_parts_68 rfl ?_
    refine g_aload_n hC 0 dX12_parts_70 rfl rfl ?_
    refine gt_X12_9 hC (a := 74) (kk_74 hL) (kn_74 hL) dX12_parts_71 ?_
    refine g_ref (b := 75) rfl ?_
    refine g_iconst hC (v := 4) dX12_parts_74 ic_4 ?_
    obtain ⟨h_1, hf⟩ := gdE hf
    refine g_iald hC (x := x75) (kk_75 hL) (kn_75 hL) (ov_get hN 0 rfl rfl) (inb_in h_1) dX12_parts_75 ?_
    refine g_icmp_ge hC 148 dX12_parts_76 (by decide) (fun hc => ?_) (fun hc => ?_)
    · replace hf := ifT hf hc
      refine g_iload_n hC 1 dX12_parts_148 rfl rfl ?_
      refine g_aload_n hC 0 dX12_parts_149 rfl rfl ?_
      refine g_iload_n hC 2 dX12_parts_150 rfl rfl ?_
      obtain ⟨r_2, q_3, hf⟩ := bd1E hf
      refine g_callV_i (a := 74) hC (X' := ov X0 [75, 77, 78] [x75, x77, x78]) (Y' := ov Y0 [] []) (As := [.int v2]) (gMi_eq (c_X12_allHard l hL (ov_map hN [1, 2] (by rfl) (by rfl)) (ov_map hM [] (by rfl) (by rfl)) q_3) (ov_ovE hN (by rfl) [1, 2] [0] (by rfl) (by rfl) [x75] (by rfl) (by rfl) (by rfl) 3 (by rfl) (by decide)) (ov_ovE hM (by rfl) [] [] (by rfl) (by rfl) [] (by rfl) (by rfl) (by rfl) 0 (by rfl) (by decide))) tw_1775 tw_1772 tw_127 tw_1774 tw_111 (ci := 12) rfl (by decide) (kk_74 hL) (kn_74 hL) pd_X12_allHard (by decide) (by decide) rfl rfl (Nat.le_of_ble_eq_true rfl) rfl dX12_parts_151 ?_
      refine g_imul hC dX12_parts_154 ?_
      refine g_iload_n hC 3 dX12_parts_155 rfl rfl ?_
      obtain ⟨h_4, hf⟩ := gdE hf
      refine g_idiv hC dX12_parts_156 (nzE h_4) ?_
      refine g_iload hC 5 dX12_parts_157 rfl ?_
      refine g_iload hC 4 dX12_parts_159 rfl ?_
      refine g_icmp_ge hC 168 dX12_parts_161 (by decide) (fun hc => ?_) (fun hc => ?_)
      · replace hf := ifT hf hc
        refine g_iconst hC (v := 0) dX12_parts_168 ic_0 ?_
        refine g_iadd hC dX12_parts_169 ?_
        obtain rfl := sm1E hf
        exact hret _ _ rfl dX12_parts_170
      · replace hf := ifF hf hc
        refine g_iconst hC (v := 1) dX12_parts_164 ic_1 ?_
        refine g_goto hC 169 dX12_parts_165 (by decide) ?_
        refine g_iadd hC dX12_parts_169 ?_
        obtain rfl := sm1E hf
        exact hret _ _ rfl dX12_parts_170
    · replace hf := ifF hf hc
      refine g_iload hC 4 dX12_parts_79 rfl ?_
      refine g_iload_n hC 1 dX12_parts_81 rfl rfl ?_
      refine g_aload_n hC 0 dX12_parts_82 rfl rfl ?_
      refine g_iload hC 6 dX12_parts_83 rfl ?_
      obtain ⟨r_5, q_6, hf⟩ := bd1E hf
      refine g_callV_i (a := 74) hC (X' := ov X0 [75, 77, 78] [x75, x77, x78]) (Y' := ov Y0 [] []) (As := [.int v6]) (gMi_eq (c_X12_allHard l hL (ov_map hN [1, 2] (by rfl) (by rfl)) (ov_map hM [] (by rfl) (by rfl)) q_6) (ov_ovE hN (by rfl) [1, 2] [0] (by rfl) (by rfl) [x75] (by rfl) (by rfl) (by rfl) 3 (by rfl) (by decide)) (ov_ovE hM (by rfl) [] [] (by rfl) (by rfl) [] (by rfl) (by rfl) (by rfl) 0 (by rfl) (by decide))) tw_1775 tw_1772 tw_127 tw_1774 tw_111 (ci := 12) rfl (by decide) (kk_74 hL) (kn_74 hL) pd_X12_allHard (by decide) (by decide) rfl rfl (Nat.le_of_ble_eq_true rfl) rfl dX12_parts_85 ?_
      refine g_imul hC dX12_parts_88 ?_
      refine g_iload_n hC 3 dX12_parts_89 rfl rfl ?_
      obtain ⟨h_7, hf⟩ := gdE hf
      refine g_idiv hC dX12_parts_90 (nzE h_7) ?_
      refine g_isub hC dX12_parts_91 ?_
      obtain ⟨t_8, et_8, hf⟩ := bnE hf
      refine g_topi et_8 ?_
      refine g_istore hC (i := 4) [(4, .int t_8), (0, .ref (b0 + 74)), (1, .int v1), (2, .int v2), (3, .int v3), (5, .int v5), (6, .int v6)] dX12_parts_92 (by decide) rfl ?_
      refine g_iload_n hC 2 dX12_parts_94 rfl rfl ?_
      refine g_aload_n hC 1 dX12_parts_95 rfl rfl ?_
      refine g_iload hC 6 dX12_parts_96 rfl ?_
      obtain ⟨r_9, q_10, hf⟩ := bd1E hf
      refine g_callV_i (a := 74) hC (X' := ov X0 [75, 77, 78] [x75, x77, x78]) (Y' := ov Y0 [] []) (As := [.int v6]) (gMi_eq (c_X12_allHard l hL (ov_map hN [1, 2] (by rfl) (by rfl)) (ov_map hM [] (by rfl) (by rfl)) q_10) (ov_ovE hN (by rfl) [1, 2] [0] (by rfl) (by rfl) [x75] (by rfl) (by rfl) (by rfl) 3 (by rfl) (by decide)) (ov_ovE hM (by rfl) [] [] (by rfl) (by rfl) [] (by rfl) (by rfl) (by rfl) 0 (by rfl) (by decide))) tw_1775 tw_1772 tw_127 tw_1774 tw_111 (ci := 12) rfl (by decide) (kk_74 hL) (kn_74 hL) pd_X12_allHard (by decide) (by decide) rfl rfl (Nat.le_of_ble_eq_true rfl) rfl dX12_parts_98 ?_
      refine g_imul hC dX12_parts_101 ?_
      refine g_iload_n hC 4 dX12_parts_102 rfl rfl ?_
      obtain ⟨h_11, hf⟩ := gdE hf
      refine g_irem hC dX12_parts_103 (nzE h_11) ?_
      refine g_iload_n hC 2 dX12_parts_104 rfl rfl ?_
      refine g_aload_n hC 1 dX12_parts_105 rfl rfl ?_
      refine g_iload_n hC 3 dX12_parts_106 rfl rfl ?_
      obtain ⟨r_12, q_13, hf⟩ := bd1E hf
      refine g_callV_i (a := 74) hC (X' := ov X0 [75, 77, 78] [x75, x77, x78]) (Y' := ov Y0 [] []) (As := [.int v2]) (gMi_eq (c_X12_allHard l hL (ov_map hN [1, 2] (by rfl) (by rfl)) (ov_map hM [] (by rfl) (by rfl)) q_13) (ov_ovE hN (by rfl) [1, 2] [0] (by rfl) (by rfl) [x75] (by rfl) (by rfl) (by rfl) 3 (by rfl) (by decide)) (ov_ovE hM (by rfl) [] [] (by rfl) (by rfl) [] (by rfl) (by rfl) (by rfl) 0 (by rfl) (by decide))) tw_1775 tw_1772 tw_127 tw_1774 tw_111 (ci := 12) rfl (by decide) (kk_74 hL) (kn_74 hL) pd_X12_allHard (by decide) (by decide) rfl rfl (Nat.le_of_ble_eq_true rfl) rfl dX12_parts_107 ?_
      refine g_imul hC dX12_parts_110 ?_
      refine g_iload_n hC 4 dX12_parts_111 rfl rfl ?_
      obtain ⟨h_14, hf⟩ := gdE hf
      refine g_irem hC dX12_parts_112 (nzE h_14) ?_
      refine g_isub hC dX12_parts_113 ?_
      obtain ⟨t_15, et_15, hf⟩ := bnE hf
      refine g_topi et_15 ?_
      refine g_istore hC (i := 7) [(7, .int t_15), (4, .int t_8), (0, .ref (b0 + 74)), (1, .int v1), (2, .int v2), (3, .int v3), (5, .int v5), (6, .int v6)] dX12_parts_114 (by decide) rfl ?_
      refine g_iload hC 6 dX12_parts_116 rfl ?_
      refine g_iload hC 0 dX12_parts_118 rfl ?_
      refine g_if_gt hC 134 dX12_parts_120 (by decide) (fun hc => ?_) (fun hc => ?_)
      · replace hf := ifT hf hc
        exact g_sub [2, 3, 4, 5, 1, 7] rfl (wX12_parts_134 hL hN hM hC  hret hk68 hf)
      · replace hf := ifF hf hc
        refine g_iload hC 0 dX12_parts_123 rfl ?_
        refine g_if_ne hC 138 dX12_parts_125 (by decide) (fun hc => ?_) (fun hc => ?_)
        · replace hf := ifF hf hc
          exact g_sub [2, 3, 4, 5, 1, 7] rfl (wX12_parts_138 hL hN hM hC  hret hk68 hf)
        · replace hf := ifT hf hc
          refine g_iload hC 7 dX12_parts_128 rfl ?_
          refine g_iload_n hC 4 dX12_parts_130 rfl rfl ?_
          refine g_icmp_ge hC 138 dX12_parts_131 (by decide) (fun hc => ?_) (fun hc => ?_)
          · replace hf := ifT hf hc
            exact g_sub [2, 3, 4, 5, 1, 7] rfl (wX12_parts_138 hL hN hM hC  hret hk68 hf)
          · replace hf := ifF hf hc
            exact g_sub [2, 3, 4, 5, 1, 7] rfl (wX12_parts_134 hL hN hM hC  hret hk68 hf)

def fX12_parts_27b   (x75 : Nat → Int32) (x77 : Nat → Int32) (x78 : Nat → Int32)  (k27 : Int32 → Int32 → Int32 → Int32 → Option (Int32)) (v1 : Int32) (v2 : Int32) (v3 : Int32) (v4 : Int32) : Option (Int32) := gd (inb 4 11) (if (x75 (4 : Int32).toNatClampNeg) ≤ v4 then (if v3 = 0 then (some 0) else (fX12_parts_68 x75 x77 x78  v1 v2 v3 v1 0 0)) else (bd1 (fX12_allHard x77 x78 v4) fun r_2 => (bn (v3 + r_2) fun t_4 => (bn (v4 + 1) fun t_5 => (k27 v1 v2 t_4 t_5)))))
def fX12_parts_27   (x75 : Nat → Int32) (x77 : Nat → Int32) (x78 : Nat → Int32)  : Int32 → Int32 → Int32 → Int32 → Option (Int32) := lq4 (fX12_parts_27b x75 x77 x78 ) 5000
set_option maxHeartbeats 4000000 in
set_option maxRecDepth 100000 in
theorem wX12_parts_27 {l : Launch} {b0 : Nat} {D : GD} {K : KT} {n : Nat} {κ : QT} {X0 : XT} {Y0 : YT} {Z : ZT} (hL : LY n κ) (hN : ([75, 77, 78] : List Nat).Nodup) (hM : ([] : List Nat).Nodup) (hC : gC l b0 D K RX12 cX12_parts (some FieldType.int) 8 2 46 0 0) {x75 : Nat → Int32} {x77 : Nat → Int32} {x78 : Nat → Int32} {r : Int32} (hret : ∀ pc loc, narrow .int (.int r) = .int r → decode cX12_parts pc = .ok (.ireturn, 1) → gV l b0 D K (n, κ, ov X0 [75, 77, 78] [x75, x77, x78], ov Y0 [] [], Z, 0, 0) pc loc [.int r]) : ∀ (j : Nat) (v1 : Int32) (v2 : Int32) (v3 : Int32) (v4 : Int32), lq4 (fX12_parts_27b x75 x77 x78 ) j v1 v2 v3 v4 = some r → gV l b0 D K (n, κ, ov X0 [75, 77, 78] [x75, x77, x78], ov Y0 [] [], Z, 0, 0) 27 [(0, .ref (b0 + 74)), (1, .int v1), (2, .int v2), (3, .int v3), (4, .int v4)] [] := by
  intro j
  induction j with
  | zero => intro v1 v2 v3 v4 hf; cases hf
  | succ j hk27 =>
    intro v1 v2 v3 v4 hf
    replace hf : fX12_parts_27b x75 x77 x78  (lq4 (fX12_parts_27b x75 x77 x78 ) j) v1 v2 v3 v4 = some r := hf
    unfold fX12_parts_27b at hf
    refine g_iload hC 4 dX12_parts_27 rfl ?_
    refine g_aload_n hC 0 dX12_parts_29 rfl rfl ?_
    refine gt_X12_9 hC (a := 74) (kk_74 hL) (kn_74 hL) dX12_parts_30 ?_
    refine g_ref (b := 75) rfl ?_
    refine g_iconst hC (v := 4) dX12_parts_33 ic_4 ?_
    obtain ⟨h_1, hf⟩ := gdE hf
    refine g_iald hC (x := x75) (kk_75 hL) (kn_75 hL) (ov_get hN 0 rfl rfl) (inb_in h_1) dX12_parts_34 ?_
    refine g_icmp_ge hC 53 dX12_parts_35 (by decide) (fun hc => ?_) (fun hc => ?_)
    · replace hf := ifT hf hc
      refine g_iload_n hC 3 dX12_parts_53 rfl rfl ?_
      refine g_if_ne hC 59 dX12_parts_54 (by decide) (fun hc => ?_) (fun hc => ?_)
      · replace hf := ifF hf hc
        refine g_iload_n hC 1 dX12_parts_59 rfl rfl ?_
        refine g_istore hC (i := 4) [(4, .int v1), (0, .ref (b0 + 74)), (1, .int v1), (2, .int v2), (3, .int v3)] dX12_parts_60 (by decide) rfl ?_
        refine g_iconst hC (v := 0) dX12_parts_62 ic_0 ?_
        refine g_istore hC (i := 5) [(5, .int 0), (4, .int v1), (0, .ref (b0 + 74)), (1, .int v1), (2, .int v2), (3, .int v3)] dX12_parts_63 (by decide) rfl ?_
        refine g_iconst hC (v := 0) dX12_parts_65 ic_0 ?_
        refine g_istore hC (i := 6) [(6, .int 0), (5, .int 0), (4, .int v1), (0, .ref (b0 + 74)), (1, .int v1), (2, .int v2), (3, .int v3)] dX12_parts_66 (by decide) rfl ?_
        exact g_sub [3, 4, 5, 6, 2, 1, 0] rfl (wX12_parts_68 hL hN hM hC  hret  5000 v1 v2 v3 v1 0 0 hf)
      · replace hf := ifT hf hc
        refine g_iconst hC (v := 0) dX12_parts_57 ic_0 ?_
        obtain rfl := sm1E hf
        exact hret _ _ rfl dX12_parts_58
    · replace hf := ifF hf hc
      refine g_iload_n hC 3 dX12_parts_38 rfl rfl ?_
      refine g_aload_n hC 0 dX12_parts_39 rfl rfl ?_
      refine g_iload hC 4 dX12_parts_40 rfl ?_
      obtain ⟨r_2, q_3, hf⟩ := bd1E hf
      refine g_callV_i (a := 74) hC (X' := ov X0 [75, 77, 78] [x75, x77, x78]) (Y' := ov Y0 [] []) (As := [.int v4]) (gMi_eq (c_X12_allHard l hL (ov_map hN [1, 2] (by rfl) (by rfl)) (ov_map hM [] (by rfl) (by rfl)) q_3) (ov_ovE hN (by rfl) [1, 2] [0] (by rfl) (by rfl) [x75] (by rfl) (by rfl) (by rfl) 3 (by rfl) (by decide)) (ov_ovE hM (by rfl) [] [] (by rfl) (by rfl) [] (by rfl) (by rfl) (by rfl) 0 (by rfl) (by decide))) tw_1775 tw_1772 tw_127 tw_1774 tw_111 (ci := 12) rfl (by decide) (kk_74 hL) (kn_74 hL) pd_X12_allHard (by decide) (by decide) rfl rfl (Nat.le_of_ble_eq_true rfl) rfl dX12_parts_42 ?_
      refine g_iadd hC dX12_parts_45 ?_
      obtain ⟨t_4, et_4, hf⟩ := bnE hf
      refine g_topi et_4 ?_
      refine g_istore_n hC (i := 3) [(3, .int t_4), (0, .ref (b0 + 74)), (1, .int v1), (2, .int v2), (4, .int v4)] rfl dX12_parts_46 (by decide) rfl ?_
      obtain ⟨t_5, et_5, hf⟩ := bnE hf
      refine g_iinc hC (i := 4) (v := t_5) [(4, .int t_5), (3, .int t_4), (0, .ref (b0 + 74)), (1, .int v1), (2, .int v2)] dX12_parts_47 (q := 4) rfl ((congrArg (HAdd.hAdd v4) ic_1).trans et_5.symm) (by decide) rfl ?_
      refine g_goto hC 27 dX12_parts_50 (by decide) ?_
      exact g_sub [2, 3, 4, 1, 0] rfl (hk27 v1 v2 t_4 t_5 hf)

def fX12_parts_0   (x75 : Nat → Int32) (x77 : Nat → Int32) (x78 : Nat → Int32)  (v1 : Int32) (v2 : Int32) : Option (Int32) := bd1 (fX12_isHouse x75 v2) fun r_1 => (if r_1 = 0 then (some (-1)) else (bd1 (fX12_in v1.toInt64 0 9999) fun r_3 => (if r_3 = 0 then (some (-1)) else (fX12_parts_27 x75 x77 x78  v1 v2 0 0))))
set_option maxHeartbeats 4000000 in
set_option maxRecDepth 100000 in
theorem wX12_parts_0 {l : Launch} {b0 : Nat} {D : GD} {K : KT} {n : Nat} {κ : QT} {X0 : XT} {Y0 : YT} {Z : ZT} (hL : LY n κ) (hN : ([75, 77, 78] : List Nat).Nodup) (hM : ([] : List Nat).Nodup) (hC : gC l b0 D K RX12 cX12_parts (some FieldType.int) 8 2 46 0 0) {x75 : Nat → Int32} {x77 : Nat → Int32} {x78 : Nat → Int32} {r : Int32} (hret : ∀ pc loc, narrow .int (.int r) = .int r → decode cX12_parts pc = .ok (.ireturn, 1) → gV l b0 D K (n, κ, ov X0 [75, 77, 78] [x75, x77, x78], ov Y0 [] [], Z, 0, 0) pc loc [.int r]) {v1 : Int32} {v2 : Int32} (hf : fX12_parts_0 x75 x77 x78  v1 v2 = some r) : gV l b0 D K (n, κ, ov X0 [75, 77, 78] [x75, x77, x78], ov Y0 [] [], Z, 0, 0) 0 [(0, .ref (b0 + 74)), (1, .int v1), (2, .int v2)] [] := by
  unfold fX12_parts_0 at hf
  refine g_aload_n hC 0 dX12_parts_0 rfl rfl ?_
  refine g_iload_n hC 2 dX12_parts_1 rfl rfl ?_
  obtain ⟨r_1, q_2, hf⟩ := bd1E hf
  refine g_callV_i (a := 74) hC (X' := ov X0 [75, 77, 78] [x75, x77, x78]) (Y' := ov Y0 [] []) (As := [.int v2]) (gMi_eq (c_X12_isHouse l hL (ov_map hN [0] (by rfl) (by rfl)) (ov_map hM [] (by rfl) (by rfl)) q_2) (ov_ovE hN (by rfl) [0] [1, 2] (by rfl) (by rfl) [x77, x78] (by rfl) (by rfl) (by rfl) 3 (by rfl) (by decide)) (ov_ovE hM (by rfl) [] [] (by rfl) (by rfl) [] (by rfl) (by rfl) (by rfl) 0 (by rfl) (by decide))) tw_1530 tw_1527 tw_127 tw_1529 tw_74 (ci := 12) rfl (by decide) (kk_74 hL) (kn_74 hL) pd_X12_isHouse (by decide) (by decide) rfl rfl (Nat.le_of_ble_eq_true rfl) rfl dX12_parts_2 ?_
  refine g_if_eq hC 20 dX12_parts_5 (by decide) (fun hc => ?_) (fun hc => ?_)
  · replace hf := ifT hf hc
    refine g_iconst hC (v := (-1)) dX12_parts_20 ic_m1 ?_
    obtain rfl := sm1E hf
    exact hret _ _ rfl dX12_parts_21
  · replace hf := ifF hf hc
    refine g_iload_n hC 1 dX12_parts_8 rfl rfl ?_
    refine g_i2l hC dX12_parts_9 ?_
    refine g_lconst hC (v := 0) dX12_parts_10 rfl ?_
    refine g_ldc2_w hC (v := 9999) tw_1771 dX12_parts_11 ?_
    obtain ⟨r_3, q_4, hf⟩ := bd1E hf
    refine g_callS_i hC (X' := ov X0 [75, 77, 78] [x75, x77, x78]) (Y' := ov Y0 [] []) (As := [.long v1.toInt64, .long 0, .long 9999]) (gMi_eq (c_X12_in l hL (ov_map hN [] (by rfl) (by rfl)) (ov_map hM [] (by rfl) (by rfl)) q_4) (ov_ovE hN (by rfl) [] [0, 1, 2] (by rfl) (by rfl) [x75, x77, x78] (by rfl) (by rfl) (by rfl) 3 (by rfl) (by decide)) (ov_ovE hM (by rfl) [] [] (by rfl) (by rfl) [] (by rfl) (by rfl) (by rfl) 0 (by rfl) (by decide))) tw_1428 tw_1426 tw_127 tw_1427 pd_X12_in (by decide) (by decide) rfl rfl (Nat.le_of_ble_eq_true rfl) rfl dX12_parts_14 ?_
    refine g_if_ne hC 22 dX12_parts_17 (by decide) (fun hc => ?_) (fun hc => ?_)
    · replace hf := ifF hf hc
      refine g_iconst hC (v := 0) dX12_parts_22 ic_0 ?_
      refine g_istore_n hC (i := 3) [(3, .int 0), (0, .ref (b0 + 74)), (1, .int v1), (2, .int v2)] rfl dX12_parts_23 (by decide) rfl ?_
      refine g_iconst hC (v := 0) dX12_parts_24 ic_0 ?_
      refine g_istore hC (i := 4) [(4, .int 0), (3, .int 0), (0, .ref (b0 + 74)), (1, .int v1), (2, .int v2)] dX12_parts_25 (by decide) rfl ?_
      exact g_sub [2, 3, 4, 1, 0] rfl (wX12_parts_27 hL hN hM hC  hret  5000 v1 v2 0 0 hf)
    · replace hf := ifT hf hc
      refine g_iconst hC (v := (-1)) dX12_parts_20 ic_m1 ?_
      obtain rfl := sm1E hf
      exact hret _ _ rfl dX12_parts_21

def fX12_parts   (x75 : Nat → Int32) (x77 : Nat → Int32) (x78 : Nat → Int32)  (v1 : Int32) (v2 : Int32)   : Option (Int32) := fX12_parts_0 x75 x77 x78 v1 v2

set_option maxHeartbeats 4000000 in
set_option maxRecDepth 100000 in
theorem c_X12_parts (l : Launch) {b0 : Nat} {D : GD} {n : Nat} {κ : QT} {X0 : XT} {Y0 : YT} {Z : ZT} (hL : LY n κ) {x75 : Nat → Int32} {x77 : Nat → Int32} {x78 : Nat → Int32} (hx : ([75, 77, 78] : List Nat).map X0 = [x75, x77, x78]) (hy : ([] : List Nat).map Y0 = []) {v1 : Int32} {v2 : Int32} {r : Int32} (hf : fX12_parts x75 x77 x78 v1 v2 = some r) : gMi l yX12_parts cX12_parts 8 (some FieldType.int) 2 46 0 0 b0 D [.ref (b0 + 74), .int v1, .int v2] (n, κ, X0, Y0, Z) (n, κ, ov X0 [75, 77, 78] [x75, x77, x78], ov Y0 [] [], Z) r := by
  have hN : ([75, 77, 78] : List Nat).Nodup := by decide
  have hM : ([] : List Nat).Nodup := by decide
  refine g_meti (own := RX12) (by decide) rfl rfl (Nat.le_of_ble_eq_true rfl) ?_
  intro K hC hret
  have e := wX12_parts_0 hL hN hM hC  hret hf
  rw [ov_id' hx, ov_id' hy] at e
  exact g_sub [0, 1, 2] rfl e

-- X12_note
def fX12_note_0     (v1 : Int32) (v2 : Int32) (v3 : Int32) (x75 : (Nat → Int32)) (x80 : (Nat → Int32)) (x81 : (Nat → Int32)) (x82 : (Nat → Int32)) : Option (Int32 × (Nat → Int32) × (Nat → Int32) × (Nat → Int32) × (Nat → Int32)) := if v1 = (-1) then (gd (inb 8 11) (some (0, (upd x75 (8 : Int32).toNatClampNeg 0), x80, x81, x82))) else (gd (inb 8 11) (bn (x75 (8 : Int32).toNatClampNeg) fun t_2 => (bd1 (fX12_in v1.toInt64 0 60) fun r_3 => (if r_3 = 0 then (some ((-2), x75, x80, x81, x82)) else (bd1 (fX12_isHouse x75 v2) fun r_5 => (if r_5 = 0 then (some ((-2), x75, x80, x81, x82)) else (gd (inb 0 11) (bd1 (fX12_in v3.toInt64 0 ((x75 (0 : Int32).toNatClampNeg).toInt64)) fun r_8 => (if r_8 = 0 then (some ((-2), x75, x80, x81, x82)) else (if t_2 = 10 then (some ((-2), x75, x80, x81, x82)) else (gd (inb t_2 10) (gd (inb t_2 10) (gd (inb t_2 10) (gd (inb 8 11) (gd (inb 8 11) (some (t_2 + 1, (upd x75 (8 : Int32).toNatClampNeg ((x75 (8 : Int32).toNatClampNeg) + 1)), (upd x80 t_2.toNatClampNeg v1), (upd x81 t_2.toNatClampNeg v2), (upd x82 t_2.toNatClampNeg v3))))))))))))))))))
set_option maxHeartbeats 4000000 in
set_option maxRecDepth 100000 in
theorem wX12_note_0 {l : Launch} {b0 : Nat} {D : GD} {K : KT} {n : Nat} {κ : QT} {X0 : XT} {Y0 : YT} {Z : ZT} (hL : LY n κ) (hN : ([75, 80, 81, 82] : List Nat).Nodup) (hM : ([] : List Nat).Nodup) (hC : gC l b0 D K RX12 cX12_note (some FieldType.int) 5 2 46 0 0) {r : Int32} {rx75 : (Nat → Int32)} {rx80 : (Nat → Int32)} {rx81 : (Nat → Int32)} {rx82 : (Nat → Int32)} (hret : ∀ pc loc, narrow .int (.int r) = .int r → decode cX12_note pc = .ok (.ireturn, 1) → gV l b0 D K (n, κ, ov X0 [75, 80, 81, 82] [rx75, rx80, rx81, rx82], ov Y0 [] [], Z, 0, 0) pc loc [.int r]) {v1 : Int32} {v2 : Int32} {v3 : Int32} {x75 : (Nat → Int32)} {x80 : (Nat → Int32)} {x81 : (Nat → Int32)} {x82 : (Nat → Int32)} (hf : fX12_note_0   v1 v2 v3 x75 x80 x81 x82 = some (r, rx75, rx80, rx81, rx82)) : gV l b0 D K (n, κ, ov X0 [75, 80, 81, 82] [x75, x80, x81, x82], ov Y0 [] [], Z, 0, 0) 0 [(0, .ref (b0 + 74)), (1, .int v1), (2, .int v2), (3, .int v3)] [] := by
  unfold fX12_note_0 at hf
  refine g_iload_n hC 1 dX12_note_0 rfl rfl ?_
  refine g_iconst hC (v := (-1)) dX12_note_1 ic_m1 ?_
  refine g_icmp_ne hC 15 dX12_note_2 (by decide) (fun hc => ?_) (fun hc => ?_)
  · replace hf := ifF hf hc
    refine g_aload_n hC 0 dX12_note_15 rfl rfl ?_
    refine gt_X12_9 hC (a := 74) (kk_74 hL) (kn_74 hL) dX12_note_16 ?_
    refine g_ref (b := 75) rfl ?_
    refine g_bipush hC (v := 8) dX12_note_19 bp_8 ?_
    obtain ⟨h_1, hf⟩ := gdE hf
    refine g_iald hC (x := x75) (kk_75 hL) (kn_75 hL) (ov_get hN 0 rfl rfl) (inb_in h_1) dX12_note_21 ?_
    obtain ⟨t_2, et_2, hf⟩ := bnE hf
    refine g_topi et_2 ?_
    refine g_istore hC (i := 4) [(4, .int t_2), (0, .ref (b0 + 74)), (1, .int v1), (2, .int v2), (3, .int v3)] dX12_note_22 (by decide) rfl ?_
    refine g_iload_n hC 2 dX12_note_24 rfl rfl ?_
    refine g_i2l hC dX12_note_25 ?_
    refine g_lconst hC (v := 0) dX12_note_26 rfl ?_
    refine g_ldc2_w hC (v := 60) tw_1719 dX12_note_27 ?_
    obtain ⟨r_3, q_4, hf⟩ := bd1E hf
    refine g_callS_i hC (X' := ov X0 [75, 80, 81, 82] [x75, x80, x81, x82]) (Y' := ov Y0 [] []) (As := [.long v1.toInt64, .long 0, .long 60]) (gMi_eq (c_X12_in l hL (ov_map hN [] (by rfl) (by rfl)) (ov_map hM [] (by rfl) (by rfl)) q_4) (ov_ovE hN (by rfl) [] [0, 1, 2, 3] (by rfl) (by rfl) [x75, x80, x81, x82] (by rfl) (by rfl) (by rfl) 4 (by rfl) (by decide)) (ov_ovE hM (by rfl) [] [] (by rfl) (by rfl) [] (by rfl) (by rfl) (by rfl) 0 (by rfl) (by decide))) tw_1428 tw_1426 tw_127 tw_1427 pd_X12_in (by decide) (by decide) rfl rfl (Nat.le_of_ble_eq_true rfl) rfl dX12_note_30 ?_
    refine g_if_eq hC 67 dX12_note_33 (by decide) (fun hc => ?_) (fun hc => ?_)
    · replace hf := ifT hf hc
      refine g_bipush hC (v := (-2)) dX12_note_67 bp_m2 ?_
      obtain ⟨rfl, rfl, rfl, rfl, rfl⟩ := sm5E hf
      exact hret _ _ rfl dX12_note_69
    · replace hf := ifF hf hc
      refine g_aload_n hC 1 dX12_note_36 rfl rfl ?_
      refine g_iload_n hC 3 dX12_note_37 rfl rfl ?_
      obtain ⟨r_5, q_6, hf⟩ := bd1E hf
      refine g_callV_i (a := 74) hC (X' := ov X0 [75, 80, 81, 82] [x75, x80, x81, x82]) (Y' := ov Y0 [] []) (As := [.int v2]) (gMi_eq (c_X12_isHouse l hL (ov_map hN [0] (by rfl) (by rfl)) (ov_map hM [] (by rfl) (by rfl)) q_6) (ov_ovE hN (by rfl) [0] [1, 2, 3] (by rfl) (by rfl) [x80, x81, x82] (by rfl) (by rfl) (by rfl) 4 (by rfl) (by decide)) (ov_ovE hM (by rfl) [] [] (by rfl) (by rfl) [] (by rfl) (by rfl) (by rfl) 0 (by rfl) (by decide))) tw_1530 tw_1527 tw_127 tw_1529 tw_74 (ci := 12) rfl (by decide) (kk_74 hL) (kn_74 hL) pd_X12_isHouse (by decide) (by decide) rfl rfl (Nat.le_of_ble_eq_true rfl) rfl dX12_note_38 ?_
      refine g_if_eq hC 67 dX12_note_41 (by decide) (fun hc => ?_) (fun hc => ?_)
      · replace hf := ifT hf hc
        refine g_bipush hC (v := (-2)) dX12_note_67 bp_m2 ?_
        obtain ⟨rfl, rfl, rfl, rfl, rfl⟩ := sm5E hf
        exact hret _ _ rfl dX12_note_69
      · replace hf := ifF hf hc
        refine g_iload_n hC 4 dX12_note_44 rfl rfl ?_
        refine g_i2l hC dX12_note_45 ?_
        refine g_lconst hC (v := 0) dX12_note_46 rfl ?_
        refine g_aload_n hC 1 dX12_note_47 rfl rfl ?_
        refine gt_X12_9 hC (a := 74) (kk_74 hL) (kn_74 hL) dX12_note_48 ?_
        refine g_ref (b := 75) rfl ?_
        refine g_iconst hC (v := 0) dX12_note_51 ic_0 ?_
        obtain ⟨h_7, hf⟩ := gdE hf
        refine g_iald hC (x := x75) (kk_75 hL) (kn_75 hL) (ov_get hN 0 rfl rfl) (inb_in h_7) dX12_note_52 ?_
        refine g_i2l hC dX12_note_53 ?_
        obtain ⟨r_8, q_9, hf⟩ := bd1E hf
        refine g_callS_i hC (X' := ov X0 [75, 80, 81, 82] [x75, x80, x81, x82]) (Y' := ov Y0 [] []) (As := [.long v3.toInt64, .long 0, .long ((x75 (0 : Int32).toNatClampNeg).toInt64)]) (gMi_eq (c_X12_in l hL (ov_map hN [] (by rfl) (by rfl)) (ov_map hM [] (by rfl) (by rfl)) q_9) (ov_ovE hN (by rfl) [] [0, 1, 2, 3] (by rfl) (by rfl) [x75, x80, x81, x82] (by rfl) (by rfl) (by rfl) 4 (by rfl) (by decide)) (ov_ovE hM (by rfl) [] [] (by rfl) (by rfl) [] (by rfl) (by rfl) (by rfl) 0 (by rfl) (by decide))) tw_1428 tw_1426 tw_127 tw_1427 pd_X12_in (by decide) (by decide) rfl rfl (Nat.le_of_ble_eq_true rfl) rfl dX12_note_54 ?_
        refine g_if_eq hC 67 dX12_note_57 (by decide) (fun hc => ?_) (fun hc => ?_)
        · replace hf := ifT hf hc
          refine g_bipush hC (v := (-2)) dX12_note_67 bp_m2 ?_
          obtain ⟨rfl, rfl, rfl, rfl, rfl⟩ := sm5E hf
          exact hret _ _ rfl dX12_note_69
        · replace hf := ifF hf hc
          refine g_iload hC 0 dX12_note_60 rfl ?_
          refine g_bipush hC (v := 10) dX12_note_62 bp_10 ?_
          refine g_icmp_ne hC 70 dX12_note_64 (by decide) (fun hc => ?_) (fun hc => ?_)
          · replace hf := ifF hf hc
            refine g_aload_n hC 1 dX12_note_70 rfl rfl ?_
            refine gt_X12_25 hC (a := 74) (kk_74 hL) (kn_74 hL) dX12_note_71 ?_
            refine g_ref (b := 80) rfl ?_
            refine g_iload hC 0 dX12_note_74 rfl ?_
            refine g_iload_n hC 2 dX12_note_76 rfl rfl ?_
            obtain ⟨h_10, hf⟩ := gdE hf
            refine g_iast hC (x := x80) (kk_80 hL) (kn_80 hL) (ov_get hN 1 rfl rfl) (inb_in h_10) (ov_set hN (by rfl) 1 (by rfl)) dX12_note_77 ?_
            show gV l b0 D K (n, κ, ov X0 [75, 80, 81, 82] [x75, (upd x80 t_2.toNatClampNeg v1), x81, x82], ov Y0 [] [], Z, 0, 0) 78 [(4, .int t_2), (0, .ref (b0 + 74)), (1, .int v1), (2, .int v2), (3, .int v3)] []
            refine g_aload_n hC 1 dX12_note_78 rfl rfl ?_
            refine gt_X12_28 hC (a := 74) (kk_74 hL) (kn_74 hL) dX12_note_79 ?_
            refine g_ref (b := 81) rfl ?_
            refine g_iload hC 0 dX12_note_82 rfl ?_
            refine g_iload_n hC 3 dX12_note_84 rfl rfl ?_
            obtain ⟨h_11, hf⟩ := gdE hf
            refine g_iast hC (x := x81) (kk_81 hL) (kn_81 hL) (ov_get hN 2 rfl rfl) (inb_in h_11) (ov_set hN (by rfl) 2 (by rfl)) dX12_note_85 ?_
            show gV l b0 D K (n, κ, ov X0 [75, 80, 81, 82] [x75, (upd x80 t_2.toNatClampNeg v1), (upd x81 t_2.toNatClampNeg v2), x82], ov Y0 [] [], Z, 0, 0) 86 [(4, .int t_2), (0, .ref (b0 + 74)), (1, .int v1), (2, .int v2), (3, .int v3)] []
            refine g_aload_n hC 1 dX12_note_86 rfl rfl ?_
            refine gt_X12_31 hC (a := 74) (kk_74 hL) (kn_74 hL) dX12_note_87 ?_
            refine g_ref (b := 82) rfl ?_
            refine g_iload hC 0 dX12_note_90 rfl ?_
            refine g_iload_n hC 4 dX12_note_92 rfl rfl ?_
            obtain ⟨h_12, hf⟩ := gdE hf
            refine g_iast hC (x := x82) (kk_82 hL) (kn_82 hL) (ov_get hN 3 rfl rfl) (inb_in h_12) (ov_set hN (by rfl) 3 (by rfl)) dX12_note_93 ?_
            show gV l b0 D K (n, κ, ov X0 [75, 80, 81, 82] [x75, (upd x80 t_2.toNatClampNeg v1), (upd x81 t_2.toNatClampNeg v2), (upd x82 t_2.toNatClampNeg v3)], ov Y0 [] [], Z, 0, 0) 94 [(4, .int t_2), (0, .ref (b0 + 74)), (1, .int v1), (2, .int v2), (3, .int v3)] []
            refine g_aload_n hC 1 dX12_note_94 rfl rfl ?_
            refine gt_X12_9 hC (a := 74) (kk_74 hL) (kn_74 hL) dX12_note_95 ?_
            refine g_ref (b := 75) rfl ?_
            refine g_bipush hC (v := 8) dX12_note_98 bp_8 ?_
            refine g_dup2 hC dX12_note_100 rfl rfl ?_
            obtain ⟨h_13, hf⟩ := gdE hf
            refine g_iald hC (x := x75) (kk_75 hL) (kn_75 hL) (ov_get hN 0 rfl rfl) (inb_in h_13) dX12_note_101 ?_
            refine g_iconst hC (v := 1) dX12_note_102 ic_1 ?_
            refine g_iadd hC dX12_note_103 ?_
            obtain ⟨h_14, hf⟩ := gdE hf
            refine g_iast hC (x := x75) (kk_75 hL) (kn_75 hL) (ov_get hN 0 rfl rfl) (inb_in h_14) (ov_set hN (by rfl) 0 (by rfl)) dX12_note_104 ?_
            show gV l b0 D K (n, κ, ov X0 [75, 80, 81, 82] [(upd x75 (8 : Int32).toNatClampNeg ((x75 (8 : Int32).toNatClampNeg) + 1)), (upd x80 t_2.toNatClampNeg v1), (upd x81 t_2.toNatClampNeg v2), (upd x82 t_2.toNatClampNeg v3)], ov Y0 [] [], Z, 0, 0) 105 [(4, .int t_2), (0, .ref (b0 + 74)), (1, .int v1), (2, .int v2), (3, .int v3)] []
            refine g_iload hC 0 dX12_note_105 rfl ?_
            refine g_iconst hC (v := 1) dX12_note_107 ic_1 ?_
            refine g_iadd hC dX12_note_108 ?_
            obtain ⟨rfl, rfl, rfl, rfl, rfl⟩ := sm5E hf
            exact hret _ _ rfl dX12_note_109
          · replace hf := ifT hf hc
            refine g_bipush hC (v := (-2)) dX12_note_67 bp_m2 ?_
            obtain ⟨rfl, rfl, rfl, rfl, rfl⟩ := sm5E hf
            exact hret _ _ rfl dX12_note_69
  · replace hf := ifT hf hc
    refine g_aload_n hC 0 dX12_note_5 rfl rfl ?_
    refine gt_X12_9 hC (a := 74) (kk_74 hL) (kn_74 hL) dX12_note_6 ?_
    refine g_ref (b := 75) rfl ?_
    refine g_bipush hC (v := 8) dX12_note_9 bp_8 ?_
    refine g_iconst hC (v := 0) dX12_note_11 ic_0 ?_
    obtain ⟨h_15, hf⟩ := gdE hf
    refine g_iast hC (x := x75) (kk_75 hL) (kn_75 hL) (ov_get hN 0 rfl rfl) (inb_in h_15) (ov_set hN (by rfl) 0 (by rfl)) dX12_note_12 ?_
    show gV l b0 D K (n, κ, ov X0 [75, 80, 81, 82] [(upd x75 (8 : Int32).toNatClampNeg 0), x80, x81, x82], ov Y0 [] [], Z, 0, 0) 13 [(0, .ref (b0 + 74)), (1, .int v1), (2, .int v2), (3, .int v3)] []
    refine g_iconst hC (v := 0) dX12_note_13 ic_0 ?_
    obtain ⟨rfl, rfl, rfl, rfl, rfl⟩ := sm5E hf
    exact hret _ _ rfl dX12_note_14

def fX12_note     (v1 : Int32) (v2 : Int32) (v3 : Int32) (x75 : Nat → Int32) (x80 : Nat → Int32) (x81 : Nat → Int32) (x82 : Nat → Int32)  : Option (Int32 × (Nat → Int32) × (Nat → Int32) × (Nat → Int32) × (Nat → Int32)) := fX12_note_0  v1 v2 v3 x75 x80 x81 x82

set_option maxHeartbeats 4000000 in
set_option maxRecDepth 100000 in
theorem c_X12_note (l : Launch) {b0 : Nat} {D : GD} {n : Nat} {κ : QT} {X0 : XT} {Y0 : YT} {Z : ZT} (hL : LY n κ) {x75 : Nat → Int32} {x80 : Nat → Int32} {x81 : Nat → Int32} {x82 : Nat → Int32} (hx : ([75, 80, 81, 82] : List Nat).map X0 = [x75, x80, x81, x82]) (hy : ([] : List Nat).map Y0 = []) {v1 : Int32} {v2 : Int32} {v3 : Int32} {r : Int32} {rx75 : (Nat → Int32)} {rx80 : (Nat → Int32)} {rx81 : (Nat → Int32)} {rx82 : (Nat → Int32)} (hf : fX12_note  v1 v2 v3 x75 x80 x81 x82 = some (r, rx75, rx80, rx81, rx82)) : gMi l yX12_note cX12_note 5 (some FieldType.int) 2 46 0 0 b0 D [.ref (b0 + 74), .int v1, .int v2, .int v3] (n, κ, X0, Y0, Z) (n, κ, ov X0 [75, 80, 81, 82] [rx75, rx80, rx81, rx82], ov Y0 [] [], Z) r := by
  have hN : ([75, 80, 81, 82] : List Nat).Nodup := by decide
  have hM : ([] : List Nat).Nodup := by decide
  refine g_meti (own := RX12) (by decide) rfl rfl (Nat.le_of_ble_eq_true rfl) ?_
  intro K hC hret
  have e := wX12_note_0 hL hN hM hC  hret hf
  rw [ov_id' hx, ov_id' hy] at e
  exact g_sub [0, 1, 2, 3] rfl e

-- X12_couldRule
def fX12_couldRule_68b   (x79 : Nat → Int32) (x80 : Nat → Int32) (x81 : Nat → Int32) (x82 : Nat → Int32) (x83 : Nat → Int32) (x84 : Nat → Int32) (x85 : Nat → Int32) (x92 : Nat → Int32) (x93 : Nat → Int32) (x94 : Nat → Int32) (x95 : Nat → Int32) (x96 : Nat → Int32) (x97 : Nat → Int32)  (k68 : Int32 → (Nat → Int32) → (Nat → Int32) → (Nat → Int32) → (Nat → Int32) → (Nat → Int32) → (Nat → Int32) → (Nat → Int32) → (Nat → Int32) → (Nat → Int64) → (Nat → Int64) → Option (Int32 × (Nat → Int32) × (Nat → Int32) × (Nat → Int32) × (Nat → Int32) × (Nat → Int32) × (Nat → Int32) × (Nat → Int32) × (Nat → Int32) × (Nat → Int64) × (Nat → Int64))) (v2 : Int32) (x74 : (Nat → Int32)) (x75 : (Nat → Int32)) (x76 : (Nat → Int32)) (x77 : (Nat → Int32)) (x78 : (Nat → Int32)) (x101 : (Nat → Int32)) (x110 : (Nat → Int32)) (x112 : (Nat → Int32)) (y99 : (Nat → Int64)) (y100 : (Nat → Int64)) : Option (Int32 × (Nat → Int32) × (Nat → Int32) × (Nat → Int32) × (Nat → Int32) × (Nat → Int32) × (Nat → Int32) × (Nat → Int32) × (Nat → Int32) × (Nat → Int64) × (Nat → Int64)) := gd (inb 8 11) (if (x75 (8 : Int32).toNatClampNeg) ≤ v2 then (some (1, x74, x75, x76, x77, x78, x101, x110, x112, y99, y100)) else (gd (inb v2 10) (gd (inb v2 10) (gd (inb ((6 * (x80 v2.toNatClampNeg)) + (x81 v2.toNatClampNeg)) 366) (gd (inb v2 10) (if (x110 ((6 * (x80 v2.toNatClampNeg)) + (x81 v2.toNatClampNeg)).toNatClampNeg) = (x82 v2.toNatClampNeg) then (bn (v2 + 1) fun t_6 => (k68 t_6 x74 x75 x76 x77 x78 x101 x110 x112 y99 y100)) else (some (0, x74, x75, x76, x77, x78, x101, x110, x112, y99, y100))))))))
def fX12_couldRule_68   (x79 : Nat → Int32) (x80 : Nat → Int32) (x81 : Nat → Int32) (x82 : Nat → Int32) (x83 : Nat → Int32) (x84 : Nat → Int32) (x85 : Nat → Int32) (x92 : Nat → Int32) (x93 : Nat → Int32) (x94 : Nat → Int32) (x95 : Nat → Int32) (x96 : Nat → Int32) (x97 : Nat → Int32)  : Int32 → (Nat → Int32) → (Nat → Int32) → (Nat → Int32) → (Nat → Int32) → (Nat → Int32) → (Nat → Int32) → (Nat → Int32) → (Nat → Int32) → (Nat → Int64) → (Nat → Int64) → Option (Int32 × (Nat → Int32) × (Nat → Int32) × (Nat → Int32) × (Nat → Int32) × (Nat → Int32) × (Nat → Int32) × (Nat → Int32) × (Nat → Int32) × (Nat → Int64) × (Nat → Int64)) := lq11 (fX12_couldRule_68b x79 x80 x81 x82 x83 x84 x85 x92 x93 x94 x95 x96 x97 ) 5000
set_option maxHeartbeats 4000000 in
set_option maxRecDepth 100000 in
theorem wX12_couldRule_68 {l : Launch} {b0 : Nat} {D : GD} {K : KT} {n : Nat} {κ : QT} {X0 : XT} {Y0 : YT} {Z : ZT} (hL : LY n κ) (hN : ([74, 75, 76, 77, 78, 79, 80, 81, 82, 83, 84, 85, 92, 93, 94, 95, 96, 97, 101, 110, 112] : List Nat).Nodup) (hM : ([99, 100] : List Nat).Nodup) (hC : gC l b0 D K RX12 cX12_couldRule (some FieldType.boolean) 4 7 166 0 0) {x79 : Nat → Int32} {x80 : Nat → Int32} {x81 : Nat → Int32} {x82 : Nat → Int32} {x83 : Nat → Int32} {x84 : Nat → Int32} {x85 : Nat → Int32} {x92 : Nat → Int32} {x93 : Nat → Int32} {x94 : Nat → Int32} {x95 : Nat → Int32} {x96 : Nat → Int32} {x97 : Nat → Int32} {r : Int32} {rx74 : (Nat → Int32)} {rx75 : (Nat → Int32)} {rx76 : (Nat → Int32)} {rx77 : (Nat → Int32)} {rx78 : (Nat → Int32)} {rx101 : (Nat → Int32)} {rx110 : (Nat → Int32)} {rx112 : (Nat → Int32)} {ry99 : (Nat → Int64)} {ry100 : (Nat → Int64)} (hret : ∀ pc loc, narrow .boolean (.int r) = .int r → decode cX12_couldRule pc = .ok (.ireturn, 1) → gV l b0 D K (n, κ, ov X0 [74, 75, 76, 77, 78, 79, 80, 81, 82, 83, 84, 85, 92, 93, 94, 95, 96, 97, 101, 110, 112] [rx74, rx75, rx76, rx77, rx78, x79, x80, x81, x82, x83, x84, x85, x92, x93, x94, x95, x96, x97, rx101, rx110, rx112], ov Y0 [99, 100] [ry99, ry100], Z, 0, 0) pc loc [.int r]) : ∀ (j : Nat) (v2 : Int32) (x74 : (Nat → Int32)) (x75 : (Nat → Int32)) (x76 : (Nat → Int32)) (x77 : (Nat → Int32)) (x78 : (Nat → Int32)) (x101 : (Nat → Int32)) (x110 : (Nat → Int32)) (x112 : (Nat → Int32)) (y99 : (Nat → Int64)) (y100 : (Nat → Int64)), lq11 (fX12_couldRule_68b x79 x80 x81 x82 x83 x84 x85 x92 x93 x94 x95 x96 x97 ) j v2 x74 x75 x76 x77 x78 x101 x110 x112 y99 y100 = some (r, rx74, rx75, rx76, rx77, rx78, rx101, rx110, rx112, ry99, ry100) → gV l b0 D K (n, κ, ov X0 [74, 75, 76, 77, 78, 79, 80, 81, 82, 83, 84, 85, 92, 93, 94, 95, 96, 97, 101, 110, 112] [x74, x75, x76, x77, x78, x79, x80, x81, x82, x83, x84, x85, x92, x93, x94, x95, x96, x97, x101, x110, x112], ov Y0 [99, 100] [y99, y100], Z, 0, 0) 68 [(0, .ref (b0 + 74)), (2, .int v2)] [] := by
  intro j
  induction j with
  | zero => intro v2 x74 x75 x76 x77 x78 x101 x110 x112 y99 y100 hf; cases hf
  | succ j hk68 =>
    intro v2 x74 x75 x76 x77 x78 x101 x110 x112 y99 y100 hf
    replace hf : fX12_couldRule_68b x79 x80 x81 x82 x83 x84 x85 x92 x93 x94 x95 x96 x97  (lq11 (fX12_couldRule_68b x79 x80 x81 x82 x83 x84 x85 x92 x93 x94 x95 x96 x97 ) j) v2 x74 x75 x76 x77 x78 x101 x110 x112 y99 y100 = some (r, rx74, rx75, rx76, rx77, rx78, rx101, rx110, rx112, ry99, ry100) := hf
    unfold fX12_couldRule_68b at hf
    refine g_iload_n hC 1 dX12_couldRule_68 rfl rfl ?_
    refine g_aload_n hC 0 dX12_couldRule_69 rfl rfl ?_
    refine gt_X12_9 hC (a := 74) (kk_74 hL) (kn_74 hL) dX12_couldRule_70 ?_
    refine g_ref (b := 75) rfl ?_
    refine g_bipush hC (v := 8) dX12_couldRule_73 bp_8 ?_
    obtain ⟨h_1, hf⟩ := gdE hf
    refine g_iald hC (x := x75) (kk_75 hL) (kn_75 hL) (ov_get hN 1 rfl rfl) (inb_in h_1) dX12_couldRule_75 ?_
    refine g_icmp_ge hC 117 dX12_couldRule_76 (by decide) (fun hc => ?_) (fun hc => ?_)
    · replace hf := ifT hf hc
      refine g_iconst hC (v := 1) dX12_couldRule_117 ic_1 ?_
      obtain ⟨rfl, rfl, rfl, rfl, rfl, rfl, rfl, rfl, rfl, rfl, rfl⟩ := sm11E hf
      exact hret _ _ rfl dX12_couldRule_118
    · replace hf := ifF hf hc
      refine g_aload_n hC 0 dX12_couldRule_79 rfl rfl ?_
      refine gt_X12_127 hC (a := 74) (kk_74 hL) (kn_74 hL) dX12_couldRule_80 ?_
      refine g_ref (b := 110) rfl ?_
      refine g_bipush hC (v := 6) dX12_couldRule_83 bp_6 ?_
      refine g_aload_n hC 0 dX12_couldRule_85 rfl rfl ?_
      refine gt_X12_25 hC (a := 74) (kk_74 hL) (kn_74 hL) dX12_couldRule_86 ?_
      refine g_ref (b := 80) rfl ?_
      refine g_iload_n hC 1 dX12_couldRule_89 rfl rfl ?_
      obtain ⟨h_2, hf⟩ := gdE hf
      refine g_iald hC (x := x80) (kk_80 hL) (kn_80 hL) (ov_get hN 6 rfl rfl) (inb_in h_2) dX12_couldRule_90 ?_
      refine g_imul hC dX12_couldRule_91 ?_
      refine g_aload_n hC 0 dX12_couldRule_92 rfl rfl ?_
      refine gt_X12_28 hC (a := 74) (kk_74 hL) (kn_74 hL) dX12_couldRule_93 ?_
      refine g_ref (b := 81) rfl ?_
      refine g_iload_n hC 1 dX12_couldRule_96 rfl rfl ?_
      obtain ⟨h_3, hf⟩ := gdE hf
      refine g_iald hC (x := x81) (kk_81 hL) (kn_81 hL) (ov_get hN 7 rfl rfl) (inb_in h_3) dX12_couldRule_97 ?_
      refine g_iadd hC dX12_couldRule_98 ?_
      obtain ⟨h_4, hf⟩ := gdE hf
      refine g_iald hC (x := x110) (kk_110 hL) (kn_110 hL) (ov_get hN 19 rfl rfl) (inb_in h_4) dX12_couldRule_99 ?_
      refine g_aload_n hC 0 dX12_couldRule_100 rfl rfl ?_
      refine gt_X12_31 hC (a := 74) (kk_74 hL) (kn_74 hL) dX12_couldRule_101 ?_
      refine g_ref (b := 82) rfl ?_
      refine g_iload_n hC 1 dX12_couldRule_104 rfl rfl ?_
      obtain ⟨h_5, hf⟩ := gdE hf
      refine g_iald hC (x := x82) (kk_82 hL) (kn_82 hL) (ov_get hN 8 rfl rfl) (inb_in h_5) dX12_couldRule_105 ?_
      refine g_icmp_eq hC 111 dX12_couldRule_106 (by decide) (fun hc => ?_) (fun hc => ?_)
      · replace hf := ifT hf hc
        obtain ⟨t_6, et_6, hf⟩ := bnE hf
        refine g_iinc hC (i := 2) (v := t_6) [(2, .int t_6), (0, .ref (b0 + 74))] dX12_couldRule_111 (q := 1) rfl ((congrArg (HAdd.hAdd v2) ic_1).trans et_6.symm) (by decide) rfl ?_
        refine g_goto hC 68 dX12_couldRule_114 (by decide) ?_
        exact g_sub [1, 0] rfl (hk68 t_6 x74 x75 x76 x77 x78 x101 x110 x112 y99 y100 hf)
      · replace hf := ifF hf hc
        refine g_iconst hC (v := 0) dX12_couldRule_109 ic_0 ?_
        obtain ⟨rfl, rfl, rfl, rfl, rfl, rfl, rfl, rfl, rfl, rfl, rfl⟩ := sm11E hf
        exact hret _ _ rfl dX12_couldRule_110

def fX12_couldRule_22b   (x79 : Nat → Int32) (x80 : Nat → Int32) (x81 : Nat → Int32) (x82 : Nat → Int32) (x83 : Nat → Int32) (x84 : Nat → Int32) (x85 : Nat → Int32) (x92 : Nat → Int32) (x93 : Nat → Int32) (x94 : Nat → Int32) (x95 : Nat → Int32) (x96 : Nat → Int32) (x97 : Nat → Int32)  (k14 : Int32 → (Nat → Int32) → (Nat → Int32) → (Nat → Int32) → (Nat → Int32) → (Nat → Int32) → (Nat → Int32) → (Nat → Int32) → (Nat → Int32) → (Nat → Int64) → (Nat → Int64) → Option (Int32 × (Nat → Int32) × (Nat → Int32) × (Nat → Int32) × (Nat → Int32) × (Nat → Int32) × (Nat → Int32) × (Nat → Int32) × (Nat → Int32) × (Nat → Int64) × (Nat → Int64))) (k22 : Int32 → Int32 → (Nat → Int32) → (Nat → Int32) → (Nat → Int32) → (Nat → Int32) → (Nat → Int32) → (Nat → Int32) → (Nat → Int32) → (Nat → Int32) → (Nat → Int64) → (Nat → Int64) → Option (Int32 × (Nat → Int32) × (Nat → Int32) × (Nat → Int32) × (Nat → Int32) × (Nat → Int32) × (Nat → Int32) × (Nat → Int32) × (Nat → Int32) × (Nat → Int64) × (Nat → Int64))) (v2 : Int32) (v3 : Int32) (x74 : (Nat → Int32)) (x75 : (Nat → Int32)) (x76 : (Nat → Int32)) (x77 : (Nat → Int32)) (x78 : (Nat → Int32)) (x101 : (Nat → Int32)) (x110 : (Nat → Int32)) (x112 : (Nat → Int32)) (y99 : (Nat → Int64)) (y100 : (Nat → Int64)) : Option (Int32 × (Nat → Int32) × (Nat → Int32) × (Nat → Int32) × (Nat → Int32) × (Nat → Int32) × (Nat → Int32) × (Nat → Int32) × (Nat → Int32) × (Nat → Int64) × (Nat → Int64)) := if 6 ≤ v3 then (bd9 (fX12_goes x79 x92 x93 x94 x95 x96 x97 x74 x75 x76 x77 x78 x101 y99 y100) fun r_1 x74_2 x75_3 x76_4 x77_5 x78_6 x101_7 y99_8 y100_9 => (bn (v2 + 1) fun t_11 => (k14 t_11 x74_2 x75_3 x76_4 x77_5 x78_6 x101_7 x110 x112 y99_8 y100_9))) else (gd (inb v3 6) (gd (inb ((6 * v2) + v3) 366) (bn (v3 + 1) fun t_14 => (k22 v2 t_14 x74 x75 x76 x77 x78 x101 (upd x110 ((6 * v2) + v3).toNatClampNeg (x76 v3.toNatClampNeg)) x112 y99 y100))))
def fX12_couldRule_22   (x79 : Nat → Int32) (x80 : Nat → Int32) (x81 : Nat → Int32) (x82 : Nat → Int32) (x83 : Nat → Int32) (x84 : Nat → Int32) (x85 : Nat → Int32) (x92 : Nat → Int32) (x93 : Nat → Int32) (x94 : Nat → Int32) (x95 : Nat → Int32) (x96 : Nat → Int32) (x97 : Nat → Int32)  (k14 : Int32 → (Nat → Int32) → (Nat → Int32) → (Nat → Int32) → (Nat → Int32) → (Nat → Int32) → (Nat → Int32) → (Nat → Int32) → (Nat → Int32) → (Nat → Int64) → (Nat → Int64) → Option (Int32 × (Nat → Int32) × (Nat → Int32) × (Nat → Int32) × (Nat → Int32) × (Nat → Int32) × (Nat → Int32) × (Nat → Int32) × (Nat → Int32) × (Nat → Int64) × (Nat → Int64))) : Int32 → Int32 → (Nat → Int32) → (Nat → Int32) → (Nat → Int32) → (Nat → Int32) → (Nat → Int32) → (Nat → Int32) → (Nat → Int32) → (Nat → Int32) → (Nat → Int64) → (Nat → Int64) → Option (Int32 × (Nat → Int32) × (Nat → Int32) × (Nat → Int32) × (Nat → Int32) × (Nat → Int32) × (Nat → Int32) × (Nat → Int32) × (Nat → Int32) × (Nat → Int64) × (Nat → Int64)) := lq12 (fX12_couldRule_22b x79 x80 x81 x82 x83 x84 x85 x92 x93 x94 x95 x96 x97 k14) 5000
set_option maxHeartbeats 4000000 in
set_option maxRecDepth 100000 in
theorem wX12_couldRule_22 {l : Launch} {b0 : Nat} {D : GD} {K : KT} {n : Nat} {κ : QT} {X0 : XT} {Y0 : YT} {Z : ZT} (hL : LY n κ) (hN : ([74, 75, 76, 77, 78, 79, 80, 81, 82, 83, 84, 85, 92, 93, 94, 95, 96, 97, 101, 110, 112] : List Nat).Nodup) (hM : ([99, 100] : List Nat).Nodup) (hC : gC l b0 D K RX12 cX12_couldRule (some FieldType.boolean) 4 7 166 0 0) {x79 : Nat → Int32} {x80 : Nat → Int32} {x81 : Nat → Int32} {x82 : Nat → Int32} {x83 : Nat → Int32} {x84 : Nat → Int32} {x85 : Nat → Int32} {x92 : Nat → Int32} {x93 : Nat → Int32} {x94 : Nat → Int32} {x95 : Nat → Int32} {x96 : Nat → Int32} {x97 : Nat → Int32} {r : Int32} {rx74 : (Nat → Int32)} {rx75 : (Nat → Int32)} {rx76 : (Nat → Int32)} {rx77 : (Nat → Int32)} {rx78 : (Nat → Int32)} {rx101 : (Nat → Int32)} {rx110 : (Nat → Int32)} {rx112 : (Nat → Int32)} {ry99 : (Nat → Int64)} {ry100 : (Nat → Int64)} (hret : ∀ pc loc, narrow .boolean (.int r) = .int r → decode cX12_couldRule pc = .ok (.ireturn, 1) → gV l b0 D K (n, κ, ov X0 [74, 75, 76, 77, 78, 79, 80, 81, 82, 83, 84, 85, 92, 93, 94, 95, 96, 97, 101, 110, 112] [rx74, rx75, rx76, rx77, rx78, x79, x80, x81, x82, x83, x84, x85, x92, x93, x94, x95, x96, x97, rx101, rx110, rx112], ov Y0 [99, 100] [ry99, ry100], Z, 0, 0) pc loc [.int r]) {k14 : Int32 → (Nat → Int32) → (Nat → Int32) → (Nat → Int32) → (Nat → Int32) → (Nat → Int32) → (Nat → Int32) → (Nat → Int32) → (Nat → Int32) → (Nat → Int64) → (Nat → Int64) → Option (Int32 × (Nat → Int32) × (Nat → Int32) × (Nat → Int32) × (Nat → Int32) × (Nat → Int32) × (Nat → Int32) × (Nat → Int32) × (Nat → Int32) × (Nat → Int64) × (Nat → Int64))} (hk14 : ∀ (v2 : Int32) (x74 : (Nat → Int32)) (x75 : (Nat → Int32)) (x76 : (Nat → Int32)) (x77 : (Nat → Int32)) (x78 : (Nat → Int32)) (x101 : (Nat → Int32)) (x110 : (Nat → Int32)) (x112 : (Nat → Int32)) (y99 : (Nat → Int64)) (y100 : (Nat → Int64)), k14 v2 x74 x75 x76 x77 x78 x101 x110 x112 y99 y100 = some (r, rx74, rx75, rx76, rx77, rx78, rx101, rx110, rx112, ry99, ry100) → gV l b0 D K (n, κ, ov X0 [74, 75, 76, 77, 78, 79, 80, 81, 82, 83, 84, 85, 92, 93, 94, 95, 96, 97, 101, 110, 112] [x74, x75, x76, x77, x78, x79, x80, x81, x82, x83, x84, x85, x92, x93, x94, x95, x96, x97, x101, x110, x112], ov Y0 [99, 100] [y99, y100], Z, 0, 0) 14 [(0, .ref (b0 + 74)), (2, .int v2)] []) : ∀ (j : Nat) (v2 : Int32) (v3 : Int32) (x74 : (Nat → Int32)) (x75 : (Nat → Int32)) (x76 : (Nat → Int32)) (x77 : (Nat → Int32)) (x78 : (Nat → Int32)) (x101 : (Nat → Int32)) (x110 : (Nat → Int32)) (x112 : (Nat → Int32)) (y99 : (Nat → Int64)) (y100 : (Nat → Int64)), lq12 (fX12_couldRule_22b x79 x80 x81 x82 x83 x84 x85 x92 x93 x94 x95 x96 x97 k14) j v2 v3 x74 x75 x76 x77 x78 x101 x110 x112 y99 y100 = some (r, rx74, rx75, rx76, rx77, rx78, rx101, rx110, rx112, ry99, ry100) → gV l b0 D K (n, κ, ov X0 [74, 75, 76, 77, 78, 79, 80, 81, 82, 83, 84, 85, 92, 93, 94, 95, 96, 97, 101, 110, 112] [x74, x75, x76, x77, x78, x79, x80, x81, x82, x83, x84, x85, x92, x93, x94, x95, x96, x97, x101, x110, x112], ov Y0 [99, 100] [y99, y100], Z, 0, 0) 22 [(0, .ref (b0 + 74)), (2, .int v2), (3, .int v3)] [] := by
  intro j
  induction j with
  | zero => intro v2 v3 x74 x75 x76 x77 x78 x101 x110 x112 y99 y100 hf; cases hf
  | succ j hk22 =>
    intro v2 v3 x74 x75 x76 x77 x78 x101 x110 x112 y99 y100 hf
    replace hf : fX12_couldRule_22b x79 x80 x81 x82 x83 x84 x85 x92 x93 x94 x95 x96 x97 k14 (lq12 (fX12_couldRule_22b x79 x80 x81 x82 x83 x84 x85 x92 x93 x94 x95 x96 x97 k14) j) v2 v3 x74 x75 x76 x77 x78 x101 x110 x112 y99 y100 = some (r, rx74, rx75, rx76, rx77, rx78, rx101, rx110, rx112, ry99, ry100) := hf
    unfold fX12_couldRule_22b at hf
    refine g_iload_n hC 2 dX12_couldRule_22 rfl rfl ?_
    refine g_bipush hC (v := 6) dX12_couldRule_23 bp_6 ?_
    refine g_icmp_ge hC 51 dX12_couldRule_25 (by decide) (fun hc => ?_) (fun hc => ?_)
    · replace hf := ifT hf hc
      refine g_aload_n hC 0 dX12_couldRule_51 rfl rfl ?_
      obtain ⟨r_1, x74_2, x75_3, x76_4, x77_5, x78_6, x101_7, y99_8, y100_9, q_10, hf⟩ := bd9E hf
      refine g_callV_i (a := 74) hC (X' := ov X0 [74, 75, 76, 77, 78, 79, 80, 81, 82, 83, 84, 85, 92, 93, 94, 95, 96, 97, 101, 110, 112] [x74_2, x75_3, x76_4, x77_5, x78_6, x79, x80, x81, x82, x83, x84, x85, x92, x93, x94, x95, x96, x97, x101_7, x110, x112]) (Y' := ov Y0 [99, 100] [y99_8, y100_9]) (As := []) (gMi_eq (c_X12_goes l hL (ov_map hN [0, 1, 2, 3, 4, 5, 12, 13, 14, 15, 16, 17, 18] (by rfl) (by rfl)) (ov_map hM [0, 1] (by rfl) (by rfl)) q_10) (ov_ovE hN (by rfl) [0, 1, 2, 3, 4, 5, 12, 13, 14, 15, 16, 17, 18] [6, 7, 8, 9, 10, 11, 19, 20] (by rfl) (by rfl) [x80, x81, x82, x83, x84, x85, x110, x112] (by rfl) (by rfl) (by rfl) 21 (by rfl) (by decide)) (ov_ovE hM (by rfl) [0, 1] [] (by rfl) (by rfl) [] (by rfl) (by rfl) (by rfl) 2 (by rfl) (by decide))) tw_1593 tw_1590 tw_127 tw_1592 tw_86 (ci := 12) rfl (by decide) (kk_74 hL) (kn_74 hL) pd_X12_goes (by decide) (by decide) rfl rfl (Nat.le_of_ble_eq_true rfl) rfl dX12_couldRule_52 ?_
      refine g_pop hC dX12_couldRule_55 rfl ?_
      obtain ⟨t_11, et_11, hf⟩ := bnE hf
      refine g_iinc hC (i := 2) (v := t_11) [(2, .int t_11), (0, .ref (b0 + 74)), (3, .int v3)] dX12_couldRule_56 (q := 1) rfl ((congrArg (HAdd.hAdd v2) ic_1).trans et_11.symm) (by decide) rfl ?_
      refine g_goto hC 14 dX12_couldRule_59 (by decide) ?_
      exact g_sub [1, 0] rfl (hk14 t_11 x74_2 x75_3 x76_4 x77_5 x78_6 x101_7 x110 x112 y99_8 y100_9 hf)
    · replace hf := ifF hf hc
      refine g_aload_n hC 0 dX12_couldRule_28 rfl rfl ?_
      refine gt_X12_127 hC (a := 74) (kk_74 hL) (kn_74 hL) dX12_couldRule_29 ?_
      refine g_ref (b := 110) rfl ?_
      refine g_bipush hC (v := 6) dX12_couldRule_32 bp_6 ?_
      refine g_iload_n hC 1 dX12_couldRule_34 rfl rfl ?_
      refine g_imul hC dX12_couldRule_35 ?_
      refine g_iload_n hC 2 dX12_couldRule_36 rfl rfl ?_
      refine g_iadd hC dX12_couldRule_37 ?_
      refine g_aload_n hC 0 dX12_couldRule_38 rfl rfl ?_
      refine gt_X12_13 hC (a := 74) (kk_74 hL) (kn_74 hL) dX12_couldRule_39 ?_
      refine g_ref (b := 76) rfl ?_
      refine g_iload_n hC 2 dX12_couldRule_42 rfl rfl ?_
      obtain ⟨h_12, hf⟩ := gdE hf
      refine g_iald hC (x := x76) (kk_76 hL) (kn_76 hL) (ov_get hN 2 rfl rfl) (inb_in h_12) dX12_couldRule_43 ?_
      obtain ⟨h_13, hf⟩ := gdE hf
      refine g_iast hC (x := x110) (kk_110 hL) (kn_110 hL) (ov_get hN 19 rfl rfl) (inb_in h_13) (ov_set hN (by rfl) 19 (by rfl)) dX12_couldRule_44 ?_
      show gV l b0 D K (n, κ, ov X0 [74, 75, 76, 77, 78, 79, 80, 81, 82, 83, 84, 85, 92, 93, 94, 95, 96, 97, 101, 110, 112] [x74, x75, x76, x77, x78, x79, x80, x81, x82, x83, x84, x85, x92, x93, x94, x95, x96, x97, x101, (upd x110 ((6 * v2) + v3).toNatClampNeg (x76 v3.toNatClampNeg)), x112], ov Y0 [99, 100] [y99, y100], Z, 0, 0) 45 [(0, .ref (b0 + 74)), (2, .int v2), (3, .int v3)] []
      obtain ⟨t_14, et_14, hf⟩ := bnE hf
      refine g_iinc hC (i := 3) (v := t_14) [(3, .int t_14), (0, .ref (b0 + 74)), (2, .int v2)] dX12_couldRule_45 (q := 2) rfl ((congrArg (HAdd.hAdd v3) ic_1).trans et_14.symm) (by decide) rfl ?_
      refine g_goto hC 22 dX12_couldRule_48 (by decide) ?_
      exact g_sub [1, 2, 0] rfl (hk22 v2 t_14 x74 x75 x76 x77 x78 x101 (upd x110 ((6 * v2) + v3).toNatClampNeg (x76 v3.toNatClampNeg)) x112 y99 y100 hf)

def fX12_couldRule_14b   (x79 : Nat → Int32) (x80 : Nat → Int32) (x81 : Nat → Int32) (x82 : Nat → Int32) (x83 : Nat → Int32) (x84 : Nat → Int32) (x85 : Nat → Int32) (x92 : Nat → Int32) (x93 : Nat → Int32) (x94 : Nat → Int32) (x95 : Nat → Int32) (x96 : Nat → Int32) (x97 : Nat → Int32)  (k14 : Int32 → (Nat → Int32) → (Nat → Int32) → (Nat → Int32) → (Nat → Int32) → (Nat → Int32) → (Nat → Int32) → (Nat → Int32) → (Nat → Int32) → (Nat → Int64) → (Nat → Int64) → Option (Int32 × (Nat → Int32) × (Nat → Int32) × (Nat → Int32) × (Nat → Int32) × (Nat → Int32) × (Nat → Int32) × (Nat → Int32) × (Nat → Int32) × (Nat → Int64) × (Nat → Int64))) (v2 : Int32) (x74 : (Nat → Int32)) (x75 : (Nat → Int32)) (x76 : (Nat → Int32)) (x77 : (Nat → Int32)) (x78 : (Nat → Int32)) (x101 : (Nat → Int32)) (x110 : (Nat → Int32)) (x112 : (Nat → Int32)) (y99 : (Nat → Int64)) (y100 : (Nat → Int64)) : Option (Int32 × (Nat → Int32) × (Nat → Int32) × (Nat → Int32) × (Nat → Int32) × (Nat → Int32) × (Nat → Int32) × (Nat → Int32) × (Nat → Int32) × (Nat → Int64) × (Nat → Int64)) := if 60 < v2 then (bd6 (fX12_laysBack x74 x75 x76 x77 x78 x112) fun x74_1 x75_2 x76_3 x77_4 x78_5 x112_6 => (fX12_couldRule_68 x79 x80 x81 x82 x83 x84 x85 x92 x93 x94 x95 x96 x97  0 x74_1 x75_2 x76_3 x77_4 x78_5 x101 x110 x112_6 y99 y100)) else (fX12_couldRule_22 x79 x80 x81 x82 x83 x84 x85 x92 x93 x94 x95 x96 x97 k14 v2 0 x74 x75 x76 x77 x78 x101 x110 x112 y99 y100)
def fX12_couldRule_14   (x79 : Nat → Int32) (x80 : Nat → Int32) (x81 : Nat → Int32) (x82 : Nat → Int32) (x83 : Nat → Int32) (x84 : Nat → Int32) (x85 : Nat → Int32) (x92 : Nat → Int32) (x93 : Nat → Int32) (x94 : Nat → Int32) (x95 : Nat → Int32) (x96 : Nat → Int32) (x97 : Nat → Int32)  : Int32 → (Nat → Int32) → (Nat → Int32) → (Nat → Int32) → (Nat → Int32) → (Nat → Int32) → (Nat → Int32) → (Nat → Int32) → (Nat → Int32) → (Nat → Int64) → (Nat → Int64) → Option (Int32 × (Nat → Int32) × (Nat → Int32) × (Nat → Int32) × (Nat → Int32) × (Nat → Int32) × (Nat → Int32) × (Nat → Int32) × (Nat → Int32) × (Nat → Int64) × (Nat → Int64)) := lq11 (fX12_couldRule_14b x79 x80 x81 x82 x83 x84 x85 x92 x93 x94 x95 x96 x97 ) 5000
set_option maxHeartbeats 4000000 in
set_option maxRecDepth 100000 in
theorem wX12_couldRule_14 {l : Launch} {b0 : Nat} {D : GD} {K : KT} {n : Nat} {κ : QT} {X0 : XT} {Y0 : YT} {Z : ZT} (hL : LY n κ) (hN : ([74, 75, 76, 77, 78, 79, 80, 81, 82, 83, 84, 85, 92, 93, 94, 95, 96, 97, 101, 110, 112] : List Nat).Nodup) (hM : ([99, 100] : List Nat).Nodup) (hC : gC l b0 D K RX12 cX12_couldRule (some FieldType.boolean) 4 7 166 0 0) {x79 : Nat → Int32} {x80 : Nat → Int32} {x81 : Nat → Int32} {x82 : Nat → Int32} {x83 : Nat → Int32} {x84 : Nat → Int32} {x85 : Nat → Int32} {x92 : Nat → Int32} {x93 : Nat → Int32} {x94 : Nat → Int32} {x95 : Nat → Int32} {x96 : Nat → Int32} {x97 : Nat → Int32} {r : Int32} {rx74 : (Nat → Int32)} {rx75 : (Nat → Int32)} {rx76 : (Nat → Int32)} {rx77 : (Nat → Int32)} {rx78 : (Nat → Int32)} {rx101 : (Nat → Int32)} {rx110 : (Nat → Int32)} {rx112 : (Nat → Int32)} {ry99 : (Nat → Int64)} {ry100 : (Nat → Int64)} (hret : ∀ pc loc, narrow .boolean (.int r) = .int r → decode cX12_couldRule pc = .ok (.ireturn, 1) → gV l b0 D K (n, κ, ov X0 [74, 75, 76, 77, 78, 79, 80, 81, 82, 83, 84, 85, 92, 93, 94, 95, 96, 97, 101, 110, 112] [rx74, rx75, rx76, rx77, rx78, x79, x80, x81, x82, x83, x84, x85, x92, x93, x94, x95, x96, x97, rx101, rx110, rx112], ov Y0 [99, 100] [ry99, ry100], Z, 0, 0) pc loc [.int r]) : ∀ (j : Nat) (v2 : Int32) (x74 : (Nat → Int32)) (x75 : (Nat → Int32)) (x76 : (Nat → Int32)) (x77 : (Nat → Int32)) (x78 : (Nat → Int32)) (x101 : (Nat → Int32)) (x110 : (Nat → Int32)) (x112 : (Nat → Int32)) (y99 : (Nat → Int64)) (y100 : (Nat → Int64)), lq11 (fX12_couldRule_14b x79 x80 x81 x82 x83 x84 x85 x92 x93 x94 x95 x96 x97 ) j v2 x74 x75 x76 x77 x78 x101 x110 x112 y99 y100 = some (r, rx74, rx75, rx76, rx77, rx78, rx101, rx110, rx112, ry99, ry100) → gV l b0 D K (n, κ, ov X0 [74, 75, 76, 77, 78, 79, 80, 81, 82, 83, 84, 85, 92, 93, 94, 95, 96, 97, 101, 110, 112] [x74, x75, x76, x77, x78, x79, x80, x81, x82, x83, x84, x85, x92, x93, x94, x95, x96, x97, x101, x110, x112], ov Y0 [99, 100] [y99, y100], Z, 0, 0) 14 [(0, .ref (b0 + 74)), (2, .int v2)] [] := by
  intro j
  induction j with
  | zero => intro v2 x74 x75 x76 x77 x78 x101 x110 x112 y99 y100 hf; cases hf
  | succ j hk14 =>
    intro v2 x74 x75 x76 x77 x78 x101 x110 x112 y99 y100 hf
    replace hf : fX12_couldRule_14b x79 x80 x81 x82 x83 x84 x85 x92 x93 x94 x95 x96 x97  (lq11 (fX12_couldRule_14b x79 x80 x81 x82 x83 x84 x85 x92 x93 x94 x95 x96 x97 ) j) v2 x74 x75 x76 x77 x78 x101 x110 x112 y99 y100 = some (r, rx74, rx75, rx76, rx77, rx78, rx101, rx110, rx112, ry99, ry100) := hf
    unfold fX12_couldRule_14b at hf
    refine g_iload_n hC 1 dX12_couldRule_14 rfl rfl ?_
    refine g_bipush hC (v := 60) dX12_couldRule_15 bp_60 ?_
    refine g_icmp_gt hC 62 dX12_couldRule_17 (by decide) (fun hc => ?_) (fun hc => ?_)
    · replace hf := ifT hf hc
      refine g_aload_n hC 0 dX12_couldRule_62 rfl rfl ?_
      obtain ⟨x74_1, x75_2, x76_3, x77_4, x78_5, x112_6, q_7, hf⟩ := bd6E hf
      refine g_callV_v (a := 74) hC (X' := ov X0 [74, 75, 76, 77, 78, 79, 80, 81, 82, 83, 84, 85, 92, 93, 94, 95, 96, 97, 101, 110, 112] [x74_1, x75_2, x76_3, x77_4, x78_5, x79, x80, x81, x82, x83, x84, x85, x92, x93, x94, x95, x96, x97, x101, x110, x112_6]) (Y' := ov Y0 [99, 100] [y99, y100]) (As := []) (gMv_eq (c_X12_laysBack l hL (ov_map hN [0, 1, 2, 3, 4, 20] (by rfl) (by rfl)) (ov_map hM [] (by rfl) (by rfl)) q_7) (ov_ovE hN (by rfl) [0, 1, 2, 3, 4, 20] [5, 6, 7, 8, 9, 10, 11, 12, 13, 14, 15, 16, 17, 18, 19] (by rfl) (by rfl) [x79, x80, x81, x82, x83, x84, x85, x92, x93, x94, x95, x96, x97, x101, x110] (by rfl) (by rfl) (by rfl) 21 (by rfl) (by decide)) (ov_ovE hM (by rfl) [] [0, 1] (by rfl) (by rfl) [y99, y100] (by rfl) (by rfl) (by rfl) 2 (by rfl) (by decide))) tw_1693 tw_1690 tw_127 tw_1692 tw_102 (ci := 12) rfl (by decide) (kk_74 hL) (kn_74 hL) pd_X12_laysBack (by decide) (by decide) rfl rfl (Nat.le_of_ble_eq_true rfl) rfl dX12_couldRule_63 ?_
      refine g_iconst hC (v := 0) dX12_couldRule_66 ic_0 ?_
      refine g_istore_n hC (i := 2) [(2, .int 0), (0, .ref (b0 + 74))] rfl dX12_couldRule_67 (by decide) rfl ?_
      exact g_sub [1, 0] rfl (wX12_couldRule_68 hL hN hM hC  hret  5000 0 x74_1 x75_2 x76_3 x77_4 x78_5 x101 x110 x112_6 y99 y100 hf)
    · replace hf := ifF hf hc
      refine g_iconst hC (v := 0) dX12_couldRule_20 ic_0 ?_
      refine g_istore_n hC (i := 3) [(3, .int 0), (0, .ref (b0 + 74)), (2, .int v2)] rfl dX12_couldRule_21 (by decide) rfl ?_
      exact g_sub [1, 2, 0] rfl (wX12_couldRule_22 hL hN hM hC  hret hk14 5000 v2 0 x74 x75 x76 x77 x78 x101 x110 x112 y99 y100 hf)

def fX12_couldRule_0   (x79 : Nat → Int32) (x80 : Nat → Int32) (x81 : Nat → Int32) (x82 : Nat → Int32) (x83 : Nat → Int32) (x84 : Nat → Int32) (x85 : Nat → Int32) (x92 : Nat → Int32) (x93 : Nat → Int32) (x94 : Nat → Int32) (x95 : Nat → Int32) (x96 : Nat → Int32) (x97 : Nat → Int32)  (v1 : Int32) (x74 : (Nat → Int32)) (x75 : (Nat → Int32)) (x76 : (Nat → Int32)) (x77 : (Nat → Int32)) (x78 : (Nat → Int32)) (x101 : (Nat → Int32)) (x110 : (Nat → Int32)) (x112 : (Nat → Int32)) (y99 : (Nat → Int64)) (y100 : (Nat → Int64)) : Option (Int32 × (Nat → Int32) × (Nat → Int32) × (Nat → Int32) × (Nat → Int32) × (Nat → Int32) × (Nat → Int32) × (Nat → Int32) × (Nat → Int32) × (Nat → Int64) × (Nat → Int64)) := gd (inb 10 11) (bd4 (fX12_begins x83 x84 x85 (upd x75 (10 : Int32).toNatClampNeg v1) x76 x77 x78) fun x75_2 x76_3 x77_4 x78_5 => (fX12_couldRule_14 x79 x80 x81 x82 x83 x84 x85 x92 x93 x94 x95 x96 x97  0 x74 x75_2 x76_3 x77_4 x78_5 x101 x110 x112 y99 y100))
set_option maxHeartbeats 4000000 in
set_option maxRecDepth 100000 in
theorem wX12_couldRule_0 {l : Launch} {b0 : Nat} {D : GD} {K : KT} {n : Nat} {κ : QT} {X0 : XT} {Y0 : YT} {Z : ZT} (hL : LY n κ) (hN : ([74, 75, 76, 77, 78, 79, 80, 81, 82, 83, 84, 85, 92, 93, 94, 95, 96, 97, 101, 110, 112] : List Nat).Nodup) (hM : ([99, 100] : List Nat).Nodup) (hC : gC l b0 D K RX12 cX12_couldRule (some FieldType.boolean) 4 7 166 0 0) {x79 : Nat → Int32} {x80 : Nat → Int32} {x81 : Nat → Int32} {x82 : Nat → Int32} {x83 : Nat → Int32} {x84 : Nat → Int32} {x85 : Nat → Int32} {x92 : Nat → Int32} {x93 : Nat → Int32} {x94 : Nat → Int32} {x95 : Nat → Int32} {x96 : Nat → Int32} {x97 : Nat → Int32} {r : Int32} {rx74 : (Nat → Int32)} {rx75 : (Nat → Int32)} {rx76 : (Nat → Int32)} {rx77 : (Nat → Int32)} {rx78 : (Nat → Int32)} {rx101 : (Nat → Int32)} {rx110 : (Nat → Int32)} {rx112 : (Nat → Int32)} {ry99 : (Nat → Int64)} {ry100 : (Nat → Int64)} (hret : ∀ pc loc, narrow .boolean (.int r) = .int r → decode cX12_couldRule pc = .ok (.ireturn, 1) → gV l b0 D K (n, κ, ov X0 [74, 75, 76, 77, 78, 79, 80, 81, 82, 83, 84, 85, 92, 93, 94, 95, 96, 97, 101, 110, 112] [rx74, rx75, rx76, rx77, rx78, x79, x80, x81, x82, x83, x84, x85, x92, x93, x94, x95, x96, x97, rx101, rx110, rx112], ov Y0 [99, 100] [ry99, ry100], Z, 0, 0) pc loc [.int r]) {v1 : Int32} {x74 : (Nat → Int32)} {x75 : (Nat → Int32)} {x76 : (Nat → Int32)} {x77 : (Nat → Int32)} {x78 : (Nat → Int32)} {x101 : (Nat → Int32)} {x110 : (Nat → Int32)} {x112 : (Nat → Int32)} {y99 : (Nat → Int64)} {y100 : (Nat → Int64)} (hf : fX12_couldRule_0 x79 x80 x81 x82 x83 x84 x85 x92 x93 x94 x95 x96 x97  v1 x74 x75 x76 x77 x78 x101 x110 x112 y99 y100 = some (r, rx74, rx75, rx76, rx77, rx78, rx101, rx110, rx112, ry99, ry100)) : gV l b0 D K (n, κ, ov X0 [74, 75, 76, 77, 78, 79, 80, 81, 82, 83, 84, 85, 92, 93, 94, 95, 96, 97, 101, 110, 112] [x74, x75, x76, x77, x78, x79, x80, x81, x82, x83, x84, x85, x92, x93, x94, x95, x96, x97, x101, x110, x112], ov Y0 [99, 100] [y99, y100], Z, 0, 0) 0 [(0, .ref (b0 + 74)), (1, .int v1)] [] := by
  unfold fX12_couldRule_0 at hf
  refine g_aload_n hC 0 dX12_couldRule_0 rfl rfl ?_
  refine gt_X12_9 hC (a := 74) (kk_74 hL) (kn_74 hL) dX12_couldRule_1 ?_
  refine g_ref (b := 75) rfl ?_
  refine g_bipush hC (v := 10) dX12_couldRule_4 bp_10 ?_
  refine g_iload_n hC 1 dX12_couldRule_6 rfl rfl ?_
  obtain ⟨h_1, hf⟩ := gdE hf
  refine g_iast hC (x := x75) (kk_75 hL) (kn_75 hL) (ov_get hN 1 rfl rfl) (inb_in h_1) (ov_set hN (by rfl) 1 (by rfl)) dX12_couldRule_7 ?_
  show gV l b0 D K (n, κ, ov X0 [74, 75, 76, 77, 78, 79, 80, 81, 82, 83, 84, 85, 92, 93, 94, 95, 96, 97, 101, 110, 112] [x74, (upd x75 (10 : Int32).toNatClampNeg v1), x76, x77, x78, x79, x80, x81, x82, x83, x84, x85, x92, x93, x94, x95, x96, x97, x101, x110, x112], ov Y0 [99, 100] [y99, y100], Z, 0, 0) 8 [(0, .ref (b0 + 74)), (1, .int v1)] []
  refine g_aload_n hC 0 dX12_couldRule_8 rfl rfl ?_
  obtain ⟨x75_2, x76_3, x77_4, x78_5, q_6, hf⟩ := bd4E hf
  refine g_callV_v (a := 74) hC (X' := ov X0 [74, 75, 76, 77, 78, 79, 80, 81, 82, 83, 84, 85, 92, 93, 94, 95, 96, 97, 101, 110, 112] [x74, x75_2, x76_3, x77_4, x78_5, x79, x80, x81, x82, x83, x84, x85, x92, x93, x94, x95, x96, x97, x101, x110, x112]) (Y' := ov Y0 [99, 100] [y99, y100]) (As := []) (gMv_eq (c_X12_begins l hL (ov_map hN [1, 2, 3, 4, 9, 10, 11] (by rfl) (by rfl)) (ov_map hM [] (by rfl) (by rfl)) q_6) (ov_ovE hN (by rfl) [1, 2, 3, 4, 9, 10, 11] [0, 5, 6, 7, 8, 12, 13, 14, 15, 16, 17, 18, 19, 20] (by rfl) (by rfl) [x74, x79, x80, x81, x82, x92, x93, x94, x95, x96, x97, x101, x110, x112] (by rfl) (by rfl) (by rfl) 21 (by rfl) (by decide)) (ov_ovE hM (by rfl) [] [0, 1] (by rfl) (by rfl) [y99, y100] (by rfl) (by rfl) (by rfl) 2 (by rfl) (by decide))) tw_1443 tw_1440 tw_127 tw_1442 tw_60 (ci := 12) rfl (by decide) (kk_74 hL) (kn_74 hL) pd_X12_begins (by decide) (by decide) rfl rfl (Nat.le_of_ble_eq_true rfl) rfl dX12_couldRule_9 ?_
  refine g_iconst hC (v := 0) dX12_couldRule_12 ic_0 ?_
  refine g_istore_n hC (i := 2) [(2, .int 0), (0, .ref (b0 + 74)), (1, .int v1)] rfl dX12_couldRule_13 (by decide) rfl ?_
  exact g_sub [1, 0] rfl (wX12_couldRule_14 hL hN hM hC  hret  5000 0 x74 x75_2 x76_3 x77_4 x78_5 x101 x110 x112 y99 y100 hf)

def fX12_couldRule   (x79 : Nat → Int32) (x80 : Nat → Int32) (x81 : Nat → Int32) (x82 : Nat → Int32) (x83 : Nat → Int32) (x84 : Nat → Int32) (x85 : Nat → Int32) (x92 : Nat → Int32) (x93 : Nat → Int32) (x94 : Nat → Int32) (x95 : Nat → Int32) (x96 : Nat → Int32) (x97 : Nat → Int32)  (v1 : Int32) (x74 : Nat → Int32) (x75 : Nat → Int32) (x76 : Nat → Int32) (x77 : Nat → Int32) (x78 : Nat → Int32) (x101 : Nat → Int32) (x110 : Nat → Int32) (x112 : Nat → Int32) (y99 : Nat → Int64) (y100 : Nat → Int64) : Option (Int32 × (Nat → Int32) × (Nat → Int32) × (Nat → Int32) × (Nat → Int32) × (Nat → Int32) × (Nat → Int32) × (Nat → Int32) × (Nat → Int32) × (Nat → Int64) × (Nat → Int64)) := fX12_couldRule_0 x79 x80 x81 x82 x83 x84 x85 x92 x93 x94 x95 x96 x97 v1 x74 x75 x76 x77 x78 x101 x110 x112 y99 y100

set_option maxHeartbeats 4000000 in
set_option maxRecDepth 100000 in
theorem c_X12_couldRule (l : Launch) {b0 : Nat} {D : GD} {n : Nat} {κ : QT} {X0 : XT} {Y0 : YT} {Z : ZT} (hL : LY n κ) {x74 : Nat → Int32} {x75 : Nat → Int32} {x76 : Nat → Int32} {x77 : Nat → Int32} {x78 : Nat → Int32} {x79 : Nat → Int32} {x80 : Nat → Int32} {x81 : Nat → Int32} {x82 : Nat → Int32} {x83 : Nat → Int32} {x84 : Nat → Int32} {x85 : Nat → Int32} {x92 : Nat → Int32} {x93 : Nat → Int32} {x94 : Nat → Int32} {x95 : Nat → Int32} {x96 : Nat → Int32} {x97 : Nat → Int32} {x101 : Nat → Int32} {x110 : Nat → Int32} {x112 : Nat → Int32} {y99 : Nat → Int64} {y100 : Nat → Int64} (hx : ([74, 75, 76, 77, 78, 79, 80, 81, 82, 83, 84, 85, 92, 93, 94, 95, 96, 97, 101, 110, 112] : List Nat).map X0 = [x74, x75, x76, x77, x78, x79, x80, x81, x82, x83, x84, x85, x92, x93, x94, x95, x96, x97, x101, x110, x112]) (hy : ([99, 100] : List Nat).map Y0 = [y99, y100]) {v1 : Int32} {r : Int32} {rx74 : (Nat → Int32)} {rx75 : (Nat → Int32)} {rx76 : (Nat → Int32)} {rx77 : (Nat → Int32)} {rx78 : (Nat → Int32)} {rx101 : (Nat → Int32)} {rx110 : (Nat → Int32)} {rx112 : (Nat → Int32)} {ry99 : (Nat → Int64)} {ry100 : (Nat → Int64)} (hf : fX12_couldRule x79 x80 x81 x82 x83 x84 x85 x92 x93 x94 x95 x96 x97 v1 x74 x75 x76 x77 x78 x101 x110 x112 y99 y100 = some (r, rx74, rx75, rx76, rx77, rx78, rx101, rx110, rx112, ry99, ry100)) : gMi l yX12_couldRule cX12_couldRule 4 (some FieldType.boolean) 7 166 0 0 b0 D [.ref (b0 + 74), .int v1] (n, κ, X0, Y0, Z) (n, κ, ov X0 [74, 75, 76, 77, 78, 79, 80, 81, 82, 83, 84, 85, 92, 93, 94, 95, 96, 97, 101, 110, 112] [rx74, rx75, rx76, rx77, rx78, x79, x80, x81, x82, x83, x84, x85, x92, x93, x94, x95, x96, x97, rx101, rx110, rx112], ov Y0 [99, 100] [ry99, ry100], Z) r := by
  have hN : ([74, 75, 76, 77, 78, 79, 80, 81, 82, 83, 84, 85, 92, 93, 94, 95, 96, 97, 101, 110, 112] : List Nat).Nodup := by decide
  have hM : ([99, 100] : List Nat).Nodup := by decide
  refine g_meti (own := RX12) (by decide) rfl rfl (Nat.le_of_ble_eq_true rfl) ?_
  intro K hC hret
  have e := wX12_couldRule_0 hL hN hM hC  hret hf
  rw [ov_id' hx, ov_id' hy] at e
  exact g_sub [0, 1] rfl e

-- X12_ruled
def fX12_ruled_64   (x79 : Nat → Int32) (x80 : Nat → Int32) (x81 : Nat → Int32) (x82 : Nat → Int32) (x83 : Nat → Int32) (x84 : Nat → Int32) (x85 : Nat → Int32) (x92 : Nat → Int32) (x93 : Nat → Int32) (x94 : Nat → Int32) (x95 : Nat → Int32) (x96 : Nat → Int32) (x97 : Nat → Int32)  (k32 : Int32 → Int32 → Int32 → Int32 → (Nat → Int32) → (Nat → Int32) → (Nat → Int32) → (Nat → Int32) → (Nat → Int32) → (Nat → Int32) → (Nat → Int32) → (Nat → Int32) → (Nat → Int64) → (Nat → Int64) → Option (Int32 × (Nat → Int32) × (Nat → Int32) × (Nat → Int32) × (Nat → Int32) × (Nat → Int32) × (Nat → Int32) × (Nat → Int32) × (Nat → Int32) × (Nat → Int64) × (Nat → Int64))) (v1 : Int32) (v2 : Int32) (v3 : Int32) (v4 : Int32) (x74 : (Nat → Int32)) (x75 : (Nat → Int32)) (x76 : (Nat → Int32)) (x77 : (Nat → Int32)) (x78 : (Nat → Int32)) (x101 : (Nat → Int32)) (x110 : (Nat → Int32)) (x112 : (Nat → Int32)) (y99 : (Nat → Int64)) (y100 : (Nat → Int64)) : Option (Int32 × (Nat → Int32) × (Nat → Int32) × (Nat → Int32) × (Nat → Int32) × (Nat → Int32) × (Nat → Int32) × (Nat → Int32) × (Nat → Int32) × (Nat → Int64) × (Nat → Int64)) := bn (v4 + 1) fun t_1 => (k32 v1 v2 v3 t_1 x74 x75 x76 x77 x78 x101 x110 x112 y99 y100)
set_option maxHeartbeats 4000000 in
set_option maxRecDepth 100000 in
theorem wX12_ruled_64 {l : Launch} {b0 : Nat} {D : GD} {K : KT} {n : Nat} {κ : QT} {X0 : XT} {Y0 : YT} {Z : ZT} (hL : LY n κ) (hN : ([74, 75, 76, 77, 78, 79, 80, 81, 82, 83, 84, 85, 92, 93, 94, 95, 96, 97, 101, 110, 112] : List Nat).Nodup) (hM : ([99, 100] : List Nat).Nodup) (hC : gC l b0 D K RX12 cX12_ruled (some FieldType.int) 5 8 189 0 0) {x79 : Nat → Int32} {x80 : Nat → Int32} {x81 : Nat → Int32} {x82 : Nat → Int32} {x83 : Nat → Int32} {x84 : Nat → Int32} {x85 : Nat → Int32} {x92 : Nat → Int32} {x93 : Nat → Int32} {x94 : Nat → Int32} {x95 : Nat → Int32} {x96 : Nat → Int32} {x97 : Nat → Int32} {r : Int32} {rx74 : (Nat → Int32)} {rx75 : (Nat → Int32)} {rx76 : (Nat → Int32)} {rx77 : (Nat → Int32)} {rx78 : (Nat → Int32)} {rx101 : (Nat → Int32)} {rx110 : (Nat → Int32)} {rx112 : (Nat → Int32)} {ry99 : (Nat → Int64)} {ry100 : (Nat → Int64)} (hret : ∀ pc loc, narrow .int (.int r) = .int r → decode cX12_ruled pc = .ok (.ireturn, 1) → gV l b0 D K (n, κ, ov X0 [74, 75, 76, 77, 78, 79, 80, 81, 82, 83, 84, 85, 92, 93, 94, 95, 96, 97, 101, 110, 112] [rx74, rx75, rx76, rx77, rx78, x79, x80, x81, x82, x83, x84, x85, x92, x93, x94, x95, x96, x97, rx101, rx110, rx112], ov Y0 [99, 100] [ry99, ry100], Z, 0, 0) pc loc [.int r]) {k32 : Int32 → Int32 → Int32 → Int32 → (Nat → Int32) → (Nat → Int32) → (Nat → Int32) → (Nat → Int32) → (Nat → Int32) → (Nat → Int32) → (Nat → Int32) → (Nat → Int32) → (Nat → Int64) → (Nat → Int64) → Option (Int32 × (Nat → Int32) × (Nat → Int32) × (Nat → Int32) × (Nat → Int32) × (Nat → Int32) × (Nat → Int32) × (Nat → Int32) × (Nat → Int32) × (Nat → Int64) × (Nat → Int64))} (hk32 : ∀ (v1 : Int32) (v2 : Int32) (v3 : Int32) (v4 : Int32) (x74 : (Nat → Int32)) (x75 : (Nat → Int32)) (x76 : (Nat → Int32)) (x77 : (Nat → Int32)) (x78 : (Nat → Int32)) (x101 : (Nat → Int32)) (x110 : (Nat → Int32)) (x112 : (Nat → Int32)) (y99 : (Nat → Int64)) (y100 : (Nat → Int64)), k32 v1 v2 v3 v4 x74 x75 x76 x77 x78 x101 x110 x112 y99 y100 = some (r, rx74, rx75, rx76, rx77, rx78, rx101, rx110, rx112, ry99, ry100) → gV l b0 D K (n, κ, ov X0 [74, 75, 76, 77, 78, 79, 80, 81, 82, 83, 84, 85, 92, 93, 94, 95, 96, 97, 101, 110, 112] [x74, x75, x76, x77, x78, x79, x80, x81, x82, x83, x84, x85, x92, x93, x94, x95, x96, x97, x101, x110, x112], ov Y0 [99, 100] [y99, y100], Z, 0, 0) 32 [(0, .ref (b0 + 74)), (1, .int v1), (2, .int v2), (3, .int v3), (4, .int v4)] []) {v1 : Int32} {v2 : Int32} {v3 : Int32} {v4 : Int32} {x74 : (Nat → Int32)} {x75 : (Nat → Int32)} {x76 : (Nat → Int32)} {x77 : (Nat → Int32)} {x78 : (Nat → Int32)} {x101 : (Nat → Int32)} {x110 : (Nat → Int32)} {x112 : (Nat → Int32)} {y99 : (Nat → Int64)} {y100 : (Nat → Int64)} (hf : fX12_ruled_64 x79 x80 x81 x82 x83 x84 x85 x92 x93 x94 x95 x96 x97 k32 v1 v2 v3 v4 x74 x75 x76 x77 x78 x101 x110 x112 y99 y100 = some (r, rx74, rx75, rx76, rx77, rx78, rx101, rx110, rx112, ry99, ry100)) : gV l b0 D K (n, κ, ov X0 [74, 75, 76, 77, 78, 79, 80, 81, 82, 83, 84, 85, 92, 93, 94, 95, 96, 97, 101, 110, 112] [x74, x75, x76, x77, x78, x79, x80, x81, x82, x83, x84, x85, x92, x93, x94, x95, x96, x97, x101, x110, x112], ov Y0 [99, 100] [y99, y100], Z, 0, 0) 64 [(0, .ref (b0 + 74)), (1, .int v1), (2, .int v2), (3, .int v3), (4, .int v4)] [] := by
  unfold fX12_ruled_64 at hf
  obtain ⟨t_1, et_1, hf⟩ := bnE hf
  refine g_iinc hC (i := 4) (v := t_1) [(4, .int t_1), (0, .ref (b0 + 74)), (1, .int v1), (2, .int v2), (3, .int v3)] dX12_ruled_64 (q := 4) rfl ((congrArg (HAdd.hAdd v4) ic_1).trans et_1.symm) (by decide) rfl ?_
  refine g_goto hC 32 dX12_ruled_67 (by decide) ?_
  exact g_sub [1, 2, 3, 4, 0] rfl (hk32 v1 v2 v3 t_1 x74 x75 x76 x77 x78 x101 x110 x112 y99 y100 hf)

def fX12_ruled_60   (x79 : Nat → Int32) (x80 : Nat → Int32) (x81 : Nat → Int32) (x82 : Nat → Int32) (x83 : Nat → Int32) (x84 : Nat → Int32) (x85 : Nat → Int32) (x92 : Nat → Int32) (x93 : Nat → Int32) (x94 : Nat → Int32) (x95 : Nat → Int32) (x96 : Nat → Int32) (x97 : Nat → Int32)  (k32 : Int32 → Int32 → Int32 → Int32 → (Nat → Int32) → (Nat → Int32) → (Nat → Int32) → (Nat → Int32) → (Nat → Int32) → (Nat → Int32) → (Nat → Int32) → (Nat → Int32) → (Nat → Int64) → (Nat → Int64) → Option (Int32 × (Nat → Int32) × (Nat → Int32) × (Nat → Int32) × (Nat → Int32) × (Nat → Int32) × (Nat → Int32) × (Nat → Int32) × (Nat → Int32) × (Nat → Int64) × (Nat → Int64))) (v1 : Int32) (v2 : Int32) (v4 : Int32) (s0 : Int32) (x74 : (Nat → Int32)) (x75 : (Nat → Int32)) (x76 : (Nat → Int32)) (x77 : (Nat → Int32)) (x78 : (Nat → Int32)) (x101 : (Nat → Int32)) (x110 : (Nat → Int32)) (x112 : (Nat → Int32)) (y99 : (Nat → Int64)) (y100 : (Nat → Int64)) : Option (Int32 × (Nat → Int32) × (Nat → Int32) × (Nat → Int32) × (Nat → Int32) × (Nat → Int32) × (Nat → Int32) × (Nat → Int32) × (Nat → Int32) × (Nat → Int64) × (Nat → Int64)) := bn (v2 + 1) fun t_1 => (fX12_ruled_64 x79 x80 x81 x82 x83 x84 x85 x92 x93 x94 x95 x96 x97 k32 v1 t_1 s0 v4 x74 x75 x76 x77 x78 x101 x110 x112 y99 y100)
set_option maxHeartbeats 4000000 in
set_option maxRecDepth 100000 in
theorem wX12_ruled_60 {l : Launch} {b0 : Nat} {D : GD} {K : KT} {n : Nat} {κ : QT} {X0 : XT} {Y0 : YT} {Z : ZT} (hL : LY n κ) (hN : ([74, 75, 76, 77, 78, 79, 80, 81, 82, 83, 84, 85, 92, 93, 94, 95, 96, 97, 101, 110, 112] : List Nat).Nodup) (hM : ([99, 100] : List Nat).Nodup) (hC : gC l b0 D K RX12 cX12_ruled (some FieldType.int) 5 8 189 0 0) {x79 : Nat → Int32} {x80 : Nat → Int32} {x81 : Nat → Int32} {x82 : Nat → Int32} {x83 : Nat → Int32} {x84 : Nat → Int32} {x85 : Nat → Int32} {x92 : Nat → Int32} {x93 : Nat → Int32} {x94 : Nat → Int32} {x95 : Nat → Int32} {x96 : Nat → Int32} {x97 : Nat → Int32} {r : Int32} {rx74 : (Nat → Int32)} {rx75 : (Nat → Int32)} {rx76 : (Nat → Int32)} {rx77 : (Nat → Int32)} {rx78 : (Nat → Int32)} {rx101 : (Nat → Int32)} {rx110 : (Nat → Int32)} {rx112 : (Nat → Int32)} {ry99 : (Nat → Int64)} {ry100 : (Nat → Int64)} (hret : ∀ pc loc, narrow .int (.int r) = .int r → decode cX12_ruled pc = .ok (.ireturn, 1) → gV l b0 D K (n, κ, ov X0 [74, 75, 76, 77, 78, 79, 80, 81, 82, 83, 84, 85, 92, 93, 94, 95, 96, 97, 101, 110, 112] [rx74, rx75, rx76, rx77, rx78, x79, x80, x81, x82, x83, x84, x85, x92, x93, x94, x95, x96, x97, rx101, rx110, rx112], ov Y0 [99, 100] [ry99, ry100], Z, 0, 0) pc loc [.int r]) {k32 : Int32 → Int32 → Int32 → Int32 → (Nat → Int32) → (Nat → Int32) → (Nat → Int32) → (Nat → Int32) → (Nat → Int32) → (Nat → Int32) → (Nat → Int32) → (Nat → Int32) → (Nat → Int64) → (Nat → Int64) → Option (Int32 × (Nat → Int32) × (Nat → Int32) × (Nat → Int32) × (Nat → Int32) × (Nat → Int32) × (Nat → Int32) × (Nat → Int32) × (Nat → Int32) × (Nat → Int64) × (Nat → Int64))} (hk32 : ∀ (v1 : Int32) (v2 : Int32) (v3 : Int32) (v4 : Int32) (x74 : (Nat → Int32)) (x75 : (Nat → Int32)) (x76 : (Nat → Int32)) (x77 : (Nat → Int32)) (x78 : (Nat → Int32)) (x101 : (Nat → Int32)) (x110 : (Nat → Int32)) (x112 : (Nat → Int32)) (y99 : (Nat → Int64)) (y100 : (Nat → Int64)), k32 v1 v2 v3 v4 x74 x75 x76 x77 x78 x101 x110 x112 y99 y100 = some (r, rx74, rx75, rx76, rx77, rx78, rx101, rx110, rx112, ry99, ry100) → gV l b0 D K (n, κ, ov X0 [74, 75, 76, 77, 78, 79, 80, 81, 82, 83, 84, 85, 92, 93, 94, 95, 96, 97, 101, 110, 112] [x74, x75, x76, x77, x78, x79, x80, x81, x82, x83, x84, x85, x92, x93, x94, x95, x96, x97, x101, x110, x112], ov Y0 [99, 100] [y99, y100], Z, 0, 0) 32 [(0, .ref (b0 + 74)), (1, .int v1), (2, .int v2), (3, .int v3), (4, .int v4)] []) {v1 : Int32} {v2 : Int32} {v4 : Int32} {s0 : Int32} {x74 : (Nat → Int32)} {x75 : (Nat → Int32)} {x76 : (Nat → Int32)} {x77 : (Nat → Int32)} {x78 : (Nat → Int32)} {x101 : (Nat → Int32)} {x110 : (Nat → Int32)} {x112 : (Nat → Int32)} {y99 : (Nat → Int64)} {y100 : (Nat → Int64)} (hf : fX12_ruled_60 x79 x80 x81 x82 x83 x84 x85 x92 x93 x94 x95 x96 x97 k32 v1 v2 v4 s0 x74 x75 x76 x77 x78 x101 x110 x112 y99 y100 = some (r, rx74, rx75, rx76, rx77, rx78, rx101, rx110, rx112, ry99, ry100)) : gV l b0 D K (n, κ, ov X0 [74, 75, 76, 77, 78, 79, 80, 81, 82, 83, 84, 85, 92, 93, 94, 95, 96, 97, 101, 110, 112] [x74, x75, x76, x77, x78, x79, x80, x81, x82, x83, x84, x85, x92, x93, x94, x95, x96, x97, x101, x110, x112], ov Y0 [99, 100] [y99, y100], Z, 0, 0) 60 [(0, .ref (b0 + 74)), (1, .int v1), (2, .int v2), (4, .int v4)] [.int s0] := by
  unfold fX12_ruled_60 at hf
  refine g_istore_n hC (i := 3) [(3, .int s0), (0, .ref (b0 + 74)), (1, .int v1), (2, .int v2), (4, .int v4)] rfl dX12_ruled_60 (by decide) rfl ?_
  obtain ⟨t_1, et_1, hf⟩ := bnE hf
  refine g_iinc hC (i := 2) (v := t_1) [(2, .int t_1), (3, .int s0), (0, .ref (b0 + 74)), (1, .int v1), (4, .int v4)] dX12_ruled_61 (q := 3) rfl ((congrArg (HAdd.hAdd v2) ic_1).trans et_1.symm) (by decide) rfl ?_
  exact g_sub [2, 3, 0, 1, 4] rfl (wX12_ruled_64 hL hN hM hC  hret hk32 hf)

def fX12_ruled_32b   (x79 : Nat → Int32) (x80 : Nat → Int32) (x81 : Nat → Int32) (x82 : Nat → Int32) (x83 : Nat → Int32) (x84 : Nat → Int32) (x85 : Nat → Int32) (x92 : Nat → Int32) (x93 : Nat → Int32) (x94 : Nat → Int32) (x95 : Nat → Int32) (x96 : Nat → Int32) (x97 : Nat → Int32)  (k32 : Int32 → Int32 → Int32 → Int32 → (Nat → Int32) → (Nat → Int32) → (Nat → Int32) → (Nat → Int32) → (Nat → Int32) → (Nat → Int32) → (Nat → Int32) → (Nat → Int32) → (Nat → Int64) → (Nat → Int64) → Option (Int32 × (Nat → Int32) × (Nat → Int32) × (Nat → Int32) × (Nat → Int32) × (Nat → Int32) × (Nat → Int32) × (Nat → Int32) × (Nat → Int32) × (Nat → Int64) × (Nat → Int64))) (v1 : Int32) (v2 : Int32) (v3 : Int32) (v4 : Int32) (x74 : (Nat → Int32)) (x75 : (Nat → Int32)) (x76 : (Nat → Int32)) (x77 : (Nat → Int32)) (x78 : (Nat → Int32)) (x101 : (Nat → Int32)) (x110 : (Nat → Int32)) (x112 : (Nat → Int32)) (y99 : (Nat → Int64)) (y100 : (Nat → Int64)) : Option (Int32 × (Nat → Int32) × (Nat → Int32) × (Nat → Int32) × (Nat → Int32) × (Nat → Int32) × (Nat → Int32) × (Nat → Int32) × (Nat → Int32) × (Nat → Int64) × (Nat → Int64)) := if (x74 21) ≤ v4 then (if v1 = 0 then (some (v2, x74, x75, x76, x77, x78, x101, x110, x112, y99, y100)) else (some (v3, x74, x75, x76, x77, x78, x101, x110, x112, y99, y100))) else (bd11 (fX12_couldRule x79 x80 x81 x82 x83 x84 x85 x92 x93 x94 x95 x96 x97 v4 x74 x75 x76 x77 x78 x101 x110 x112 y99 y100) fun r_1 x74_2 x75_3 x76_4 x77_5 x78_6 x101_7 x110_8 x112_9 y99_10 y100_11 => (if r_1 = 0 then (fX12_ruled_64 x79 x80 x81 x82 x83 x84 x85 x92 x93 x94 x95 x96 x97 k32 v1 v2 v3 v4 x74_2 x75_3 x76_4 x77_5 x78_6 x101_7 x110_8 x112_9 y99_10 y100_11) else (if v2 = 0 then (fX12_ruled_60 x79 x80 x81 x82 x83 x84 x85 x92 x93 x94 x95 x96 x97 k32 v1 v2 v4 v4 x74_2 x75_3 x76_4 x77_5 x78_6 x101_7 x110_8 x112_9 y99_10 y100_11) else (fX12_ruled_60 x79 x80 x81 x82 x83 x84 x85 x92 x93 x94 x95 x96 x97 k32 v1 v2 v4 v3 x74_2 x75_3 x76_4 x77_5 x78_6 x101_7 x110_8 x112_9 y99_10 y100_11))))
def fX12_ruled_32   (x79 : Nat → Int32) (x80 : Nat → Int32) (x81 : Nat → Int32) (x82 : Nat → Int32) (x83 : Nat → Int32) (x84 : Nat → Int32) (x85 : Nat → Int32) (x92 : Nat → Int32) (x93 : Nat → Int32) (x94 : Nat → Int32) (x95 : Nat → Int32) (x96 : Nat → Int32) (x97 : Nat → Int32)  : Int32 → Int32 → Int32 → Int32 → (Nat → Int32) → (Nat → Int32) → (Nat → Int32) → (Nat → Int32) → (Nat → Int32) → (Nat → Int32) → (Nat → Int32) → (Nat → Int32) → (Nat → Int64) → (Nat → Int64) → Option (Int32 × (Nat → Int32) × (Nat → Int32) × (Nat → Int32) × (Nat → Int32) × (Nat → Int32) × (Nat → Int32) × (Nat → Int32) × (Nat → Int32) × (Nat → Int64) × (Nat → Int64)) := lq14 (fX12_ruled_32b x79 x80 x81 x82 x83 x84 x85 x92 x93 x94 x95 x96 x97 ) 5000
set_option maxHeartbeats 4000000 in
set_option maxRecDepth 100000 in
theorem wX12_ruled_32 {l : Launch} {b0 : Nat} {D : GD} {K : KT} {n : Nat} {κ : QT} {X0 : XT} {Y0 : YT} {Z : ZT} (hL : LY n κ) (hN : ([74, 75, 76, 77, 78, 79, 80, 81, 82, 83, 84, 85, 92, 93, 94, 95, 96, 97, 101, 110, 112] : List Nat).Nodup) (hM : ([99, 100] : List Nat).Nodup) (hC : gC l b0 D K RX12 cX12_ruled (some FieldType.int) 5 8 189 0 0) {x79 : Nat → Int32} {x80 : Nat → Int32} {x81 : Nat → Int32} {x82 : Nat → Int32} {x83 : Nat → Int32} {x84 : Nat → Int32} {x85 : Nat → Int32} {x92 : Nat → Int32} {x93 : Nat → Int32} {x94 : Nat → Int32} {x95 : Nat → Int32} {x96 : Nat → Int32} {x97 : Nat → Int32} {r : Int32} {rx74 : (Nat → Int32)} {rx75 : (Nat → Int32)} {rx76 : (Nat → Int32)} {rx77 : (Nat → Int32)} {rx78 : (Nat → Int32)} {rx101 : (Nat → Int32)} {rx110 : (Nat → Int32)} {rx112 : (Nat → Int32)} {ry99 : (Nat → Int64)} {ry100 : (Nat → Int64)} (hret : ∀ pc loc, narrow .int (.int r) = .int r → decode cX12_ruled pc = .ok (.ireturn, 1) → gV l b0 D K (n, κ, ov X0 [74, 75, 76, 77, 78, 79, 80, 81, 82, 83, 84, 85, 92, 93, 94, 95, 96, 97, 101, 110, 112] [rx74, rx75, rx76, rx77, rx78, x79, x80, x81, x82, x83, x84, x85, x92, x93, x94, x95, x96, x97, rx101, rx110, rx112], ov Y0 [99, 100] [ry99, ry100], Z, 0, 0) pc loc [.int r]) : ∀ (j : Nat) (v1 : Int32) (v2 : Int32) (v3 : Int32) (v4 : Int32) (x74 : (Nat → Int32)) (x75 : (Nat → Int32)) (x76 : (Nat → Int32)) (x77 : (Nat → Int32)) (x78 : (Nat → Int32)) (x101 : (Nat → Int32)) (x110 : (Nat → Int32)) (x112 : (Nat → Int32)) (y99 : (Nat → Int64)) (y100 : (Nat → Int64)), lq14 (fX12_ruled_32b x79 x80 x81 x82 x83 x84 x85 x92 x93 x94 x95 x96 x97 ) j v1 v2 v3 v4 x74 x75 x76 x77 x78 x101 x110 x112 y99 y100 = some (r, rx74, rx75, rx76, rx77, rx78, rx101, rx110, rx112, ry99, ry100) → gV l b0 D K (n, κ, ov X0 [74, 75, 76, 77, 78, 79, 80, 81, 82, 83, 84, 85, 92, 93, 94, 95, 96, 97, 101, 110, 112] [x74, x75, x76, x77, x78, x79, x80, x81, x82, x83, x84, x85, x92, x93, x94, x95, x96, x97, x101, x110, x112], ov Y0 [99, 100] [y99, y100], Z, 0, 0) 32 [(0, .ref (b0 + 74)), (1, .int v1), (2, .int v2), (3, .int v3), (4, .int v4)] [] := by
  intro j
  induction j with
  | zero => intro v1 v2 v3 v4 x74 x75 x76 x77 x78 x101 x110 x112 y99 y100 hf; cases hf
  | succ j hk32 =>
    intro v1 v2 v3 v4 x74 x75 x76 x77 x78 x101 x110 x112 y99 y100 hf
    replace hf : fX12_ruled_32b x79 x80 x81 x82 x83 x84 x85 x92 x93 x94 x95 x96 x97  (lq14 (fX12_ruled_32b x79 x80 x81 x82 x83 x84 x85 x92 x93 x94 x95 x96 x97 ) j) v1 v2 v3 v4 x74 x75 x76 x77 x78 x101 x110 x112 y99 y100 = some (r, rx74, rx75, rx76, rx77, rx78, rx101, rx110, rx112, ry99, ry100) := hf
    unfold fX12_ruled_32b at hf
    refine g_iload hC 4 dX12_ruled_32 rfl ?_
    refine g_aload_n hC 0 dX12_ruled_34 rfl rfl ?_
    refine gt_X12_333 hC (x := x74) (kk_74 hL) (kn_74 hL) (ov_get hN 0 rfl rfl) dX12_ruled_35 ?_
    refine g_icmp_ge hC 70 dX12_ruled_38 (by decide) (fun hc => ?_) (fun hc => ?_)
    · replace hf := ifT hf hc
      refine g_iload_n hC 1 dX12_ruled_70 rfl rfl ?_
      refine g_if_ne hC 78 dX12_ruled_71 (by decide) (fun hc => ?_) (fun hc => ?_)
      · replace hf := ifF hf hc
        refine g_iload_n hC 3 dX12_ruled_78 rfl rfl ?_
        obtain ⟨rfl, rfl, rfl, rfl, rfl, rfl, rfl, rfl, rfl, rfl, rfl⟩ := sm11E hf
        exact hret _ _ rfl dX12_ruled_79
      · replace hf := ifT hf hc
        refine g_iload_n hC 2 dX12_ruled_74 rfl rfl ?_
        refine g_goto hC 79 dX12_ruled_75 (by decide) ?_
        obtain ⟨rfl, rfl, rfl, rfl, rfl, rfl, rfl, rfl, rfl, rfl, rfl⟩ := sm11E hf
        exact hret _ _ rfl dX12_ruled_79
    · replace hf := ifF hf hc
      refine g_aload_n hC 0 dX12_ruled_41 rfl rfl ?_
      refine g_iload hC 4 dX12_ruled_42 rfl ?_
      obtain ⟨r_1, x74_2, x75_3, x76_4, x77_5, x78_6, x101_7, x110_8, x112_9, y99_10, y100_11, q_12, hf⟩ := bd11E hf
      refine g_callV_i (a := 74) hC (X' := ov X0 [74, 75, 76, 77, 78, 79, 80, 81, 82, 83, 84, 85, 92, 93, 94, 95, 96, 97, 101, 110, 112] [x74_2, x75_3, x76_4, x77_5, x78_6, x79, x80, x81, x82, x83, x84, x85, x92, x93, x94, x95, x96, x97, x101_7, x110_8, x112_9]) (Y' := ov Y0 [99, 100] [y99_10, y100_11]) (As := [.int v4]) (gMi_eq (c_X12_couldRule l hL (ov_map hN [0, 1, 2, 3, 4, 5, 6, 7, 8, 9, 10, 11, 12, 13, 14, 15, 16, 17, 18, 19, 20] (by rfl) (by rfl)) (ov_map hM [0, 1] (by rfl) (by rfl)) q_12) (ov_ovE hN (by rfl) [0, 1, 2, 3, 4, 5, 6, 7, 8, 9, 10, 11, 12, 13, 14, 15, 16, 17, 18, 19, 20] [] (by rfl) (by rfl) [] (by rfl) (by rfl) (by rfl) 21 (by rfl) (by decide)) (ov_ovE hM (by rfl) [0, 1] [] (by rfl) (by rfl) [] (by rfl) (by rfl) (by rfl) 2 (by rfl) (by decide))) tw_1787 tw_1784 tw_127 tw_1786 tw_112 (ci := 12) rfl (by decide) (kk_74 hL) (kn_74 hL) pd_X12_couldRule (by decide) (by decide) rfl rfl (Nat.le_of_ble_eq_true rfl) rfl dX12_ruled_44 ?_
      refine g_if_eq hC 64 dX12_ruled_47 (by decide) (fun hc => ?_) (fun hc => ?_)
      · replace hf := ifT hf hc
        exact g_sub [0, 1, 2, 3, 4] rfl (wX12_ruled_64 hL hN hM hC  hret hk32 hf)
      · replace hf := ifF hf hc
        refine g_iload_n hC 2 dX12_ruled_50 rfl rfl ?_
        refine g_if_ne hC 59 dX12_ruled_51 (by decide) (fun hc => ?_) (fun hc => ?_)
        · replace hf := ifF hf hc
          refine g_iload_n hC 3 dX12_ruled_59 rfl rfl ?_
          exact g_sub [0, 1, 2, 4] rfl (wX12_ruled_60 hL hN hM hC  hret hk32 hf)
        · replace hf := ifT hf hc
          refine g_iload hC 4 dX12_ruled_54 rfl ?_
          refine g_goto hC 60 dX12_ruled_56 (by decide) ?_
          exact g_sub [0, 1, 2, 4] rfl (wX12_ruled_60 hL hN hM hC  hret hk32 hf)

def fX12_ruled_0   (x79 : Nat → Int32) (x80 : Nat → Int32) (x81 : Nat → Int32) (x82 : Nat → Int32) (x83 : Nat → Int32) (x84 : Nat → Int32) (x85 : Nat → Int32) (x92 : Nat → Int32) (x93 : Nat → Int32) (x94 : Nat → Int32) (x95 : Nat → Int32) (x96 : Nat → Int32) (x97 : Nat → Int32)  (v1 : Int32) (x74 : (Nat → Int32)) (x75 : (Nat → Int32)) (x76 : (Nat → Int32)) (x77 : (Nat → Int32)) (x78 : (Nat → Int32)) (x101 : (Nat → Int32)) (x110 : (Nat → Int32)) (x112 : (Nat → Int32)) (y99 : (Nat → Int64)) (y100 : (Nat → Int64)) : Option (Int32 × (Nat → Int32) × (Nat → Int32) × (Nat → Int32) × (Nat → Int32) × (Nat → Int32) × (Nat → Int32) × (Nat → Int32) × (Nat → Int32) × (Nat → Int64) × (Nat → Int64)) := bd1 (fX12_isTown x75) fun r_1 => (if r_1 = 0 then (some ((-3), x74, x75, x76, x77, x78, x101, x110, x112, y99, y100)) else (bd1 (fX12_in v1.toInt64 0 1) fun r_3 => (if r_3 = 0 then (some ((-3), x74, x75, x76, x77, x78, x101, x110, x112, y99, y100)) else (bd6 (fX12_keepsAll x74 x75 x76 x77 x78 x112) fun x74_5 x75_6 x76_7 x77_8 x78_9 x112_10 => (fX12_ruled_32 x79 x80 x81 x82 x83 x84 x85 x92 x93 x94 x95 x96 x97  v1 0 (-2) (-1) x74_5 x75_6 x76_7 x77_8 x78_9 x101 x110 x112_10 y99 y100)))))
set_option maxHeartbeats 4000000 in
set_option maxRecDepth 100000 in
theorem wX12_ruled_0 {l : Launch} {b0 : Nat} {D : GD} {K : KT} {n : Nat} {κ : QT} {X0 : XT} {Y0 : YT} {Z : ZT} (hL : LY n κ) (hN : ([74, 75, 76, 77, 78, 79, 80, 81, 82, 83, 84, 85, 92, 93, 94, 95, 96, 97, 101, 110, 112] : List Nat).Nodup) (hM : ([99, 100] : List Nat).Nodup) (hC : gC l b0 D K RX12 cX12_ruled (some FieldType.int) 5 8 189 0 0) {x79 : Nat → Int32} {x80 : Nat → Int32} {x81 : Nat → Int32} {x82 : Nat → Int32} {x83 : Nat → Int32} {x84 : Nat → Int32} {x85 : Nat → Int32} {x92 : Nat → Int32} {x93 : Nat → Int32} {x94 : Nat → Int32} {x95 : Nat → Int32} {x96 : Nat → Int32} {x97 : Nat → Int32} {r : Int32} {rx74 : (Nat → Int32)} {rx75 : (Nat → Int32)} {rx76 : (Nat → Int32)} {rx77 : (Nat → Int32)} {rx78 : (Nat → Int32)} {rx101 : (Nat → Int32)} {rx110 : (Nat → Int32)} {rx112 : (Nat → Int32)} {ry99 : (Nat → Int64)} {ry100 : (Nat → Int64)} (hret : ∀ pc loc, narrow .int (.int r) = .int r → decode cX12_ruled pc = .ok (.ireturn, 1) → gV l b0 D K (n, κ, ov X0 [74, 75, 76, 77, 78, 79, 80, 81, 82, 83, 84, 85, 92, 93, 94, 95, 96, 97, 101, 110, 112] [rx74, rx75, rx76, rx77, rx78, x79, x80, x81, x82, x83, x84, x85, x92, x93, x94, x95, x96, x97, rx101, rx110, rx112], ov Y0 [99, 100] [ry99, ry100], Z, 0, 0) pc loc [.int r]) {v1 : Int32} {x74 : (Nat → Int32)} {x75 : (Nat → Int32)} {x76 : (Nat → Int32)} {x77 : (Nat → Int32)} {x78 : (Nat → Int32)} {x101 : (Nat → Int32)} {x110 : (Nat → Int32)} {x112 : (Nat → Int32)} {y99 : (Nat → Int64)} {y100 : (Nat → Int64)} (hf : fX12_ruled_0 x79 x80 x81 x82 x83 x84 x85 x92 x93 x94 x95 x96 x97  v1 x74 x75 x76 x77 x78 x101 x110 x112 y99 y100 = some (r, rx74, rx75, rx76, rx77, rx78, rx101, rx110, rx112, ry99, ry100)) : gV l b0 D K (n, κ, ov X0 [74, 75, 76, 77, 78, 79, 80, 81, 82, 83, 84, 85, 92, 93, 94, 95, 96, 97, 101, 110, 112] [x74, x75, x76, x77, x78, x79, x80, x81, x82, x83, x84, x85, x92, x93, x94, x95, x96, x97, x101, x110, x112], ov Y0 [99, 100] [y99, y100], Z, 0, 0) 0 [(0, .ref (b0 + 74)), (1, .int v1)] [] := by
  unfold fX12_ruled_0 at hf
  refine g_aload_n hC 0 dX12_ruled_0 rfl rfl ?_
  obtain ⟨r_1, q_2, hf⟩ := bd1E hf
  refine g_callV_i (a := 74) hC (X' := ov X0 [74, 75, 76, 77, 78, 79, 80, 81, 82, 83, 84, 85, 92, 93, 94, 95, 96, 97, 101, 110, 112] [x74, x75, x76, x77, x78, x79, x80, x81, x82, x83, x84, x85, x92, x93, x94, x95, x96, x97, x101, x110, x112]) (Y' := ov Y0 [99, 100] [y99, y100]) (As := []) (gMi_eq (c_X12_isTown l hL (ov_map hN [1] (by rfl) (by rfl)) (ov_map hM [] (by rfl) (by rfl)) q_2) (ov_ovE hN (by rfl) [1] [0, 2, 3, 4, 5, 6, 7, 8, 9, 10, 11, 12, 13, 14, 15, 16, 17, 18, 19, 20] (by rfl) (by rfl) [x74, x76, x77, x78, x79, x80, x81, x82, x83, x84, x85, x92, x93, x94, x95, x96, x97, x101, x110, x112] (by rfl) (by rfl) (by rfl) 21 (by rfl) (by decide)) (ov_ovE hM (by rfl) [] [0, 1] (by rfl) (by rfl) [y99, y100] (by rfl) (by rfl) (by rfl) 2 (by rfl) (by decide))) tw_1585 tw_1582 tw_127 tw_1584 tw_84 (ci := 12) rfl (by decide) (kk_74 hL) (kn_74 hL) pd_X12_isTown (by decide) (by decide) rfl rfl (Nat.le_of_ble_eq_true rfl) rfl dX12_ruled_1 ?_
  refine g_if_eq hC 17 dX12_ruled_4 (by decide) (fun hc => ?_) (fun hc => ?_)
  · replace hf := ifT hf hc
    refine g_bipush hC (v := (-3)) dX12_ruled_17 bp_m3 ?_
    obtain ⟨rfl, rfl, rfl, rfl, rfl, rfl, rfl, rfl, rfl, rfl, rfl⟩ := sm11E hf
    exact hret _ _ rfl dX12_ruled_19
  · replace hf := ifF hf hc
    refine g_iload_n hC 1 dX12_ruled_7 rfl rfl ?_
    refine g_i2l hC dX12_ruled_8 ?_
    refine g_lconst hC (v := 0) dX12_ruled_9 rfl ?_
    refine g_lconst hC (v := 1) dX12_ruled_10 rfl ?_
    obtain ⟨r_3, q_4, hf⟩ := bd1E hf
    refine g_callS_i hC (X' := ov X0 [74, 75, 76, 77, 78, 79, 80, 81, 82, 83, 84, 85, 92, 93, 94, 95, 96, 97, 101, 110, 112] [x74, x75, x76, x77, x78, x79, x80, x81, x82, x83, x84, x85, x92, x93, x94, x95, x96, x97, x101, x110, x112]) (Y' := ov Y0 [99, 100] [y99, y100]) (As := [.long v1.toInt64, .long 0, .long 1]) (gMi_eq (c_X12_in l hL (ov_map hN [] (by rfl) (by rfl)) (ov_map hM [] (by rfl) (by rfl)) q_4) (ov_ovE hN (by rfl) [] [0, 1, 2, 3, 4, 5, 6, 7, 8, 9, 10, 11, 12, 13, 14, 15, 16, 17, 18, 19, 20] (by rfl) (by rfl) [x74, x75, x76, x77, x78, x79, x80, x81, x82, x83, x84, x85, x92, x93, x94, x95, x96, x97, x101, x110, x112] (by rfl) (by rfl) (by rfl) 21 (by rfl) (by decide)) (ov_ovE hM (by rfl) [] [0, 1] (by rfl) (by rfl) [y99, y100] (by rfl) (by rfl) (by rfl) 2 (by rfl) (by decide))) tw_1428 tw_1426 tw_127 tw_1427 pd_X12_in (by decide) (by decide) rfl rfl (Nat.le_of_ble_eq_true rfl) rfl dX12_ruled_11 ?_
    refine g_if_ne hC 20 dX12_ruled_14 (by decide) (fun hc => ?_) (fun hc => ?_)
    · replace hf := ifF hf hc
      refine g_aload_n hC 0 dX12_ruled_20 rfl rfl ?_
      obtain ⟨x74_5, x75_6, x76_7, x77_8, x78_9, x112_10, q_11, hf⟩ := bd6E hf
      refine g_callV_v (a := 74) hC (X' := ov X0 [74, 75, 76, 77, 78, 79, 80, 81, 82, 83, 84, 85, 92, 93, 94, 95, 96, 97, 101, 110, 112] [x74_5, x75_6, x76_7, x77_8, x78_9, x79, x80, x81, x82, x83, x84, x85, x92, x93, x94, x95, x96, x97, x101, x110, x112_10]) (Y' := ov Y0 [99, 100] [y99, y100]) (As := []) (gMv_eq (c_X12_keepsAll l hL (ov_map hN [0, 1, 2, 3, 4, 20] (by rfl) (by rfl)) (ov_map hM [] (by rfl) (by rfl)) q_11) (ov_ovE hN (by rfl) [0, 1, 2, 3, 4, 20] [5, 6, 7, 8, 9, 10, 11, 12, 13, 14, 15, 16, 17, 18, 19] (by rfl) (by rfl) [x79, x80, x81, x82, x83, x84, x85, x92, x93, x94, x95, x96, x97, x101, x110] (by rfl) (by rfl) (by rfl) 21 (by rfl) (by decide)) (ov_ovE hM (by rfl) [] [0, 1] (by rfl) (by rfl) [y99, y100] (by rfl) (by rfl) (by rfl) 2 (by rfl) (by decide))) tw_1673 tw_1670 tw_127 tw_1672 tw_97 (ci := 12) rfl (by decide) (kk_74 hL) (kn_74 hL) pd_X12_keepsAll (by decide) (by decide) rfl rfl (Nat.le_of_ble_eq_true rfl) rfl dX12_ruled_21 ?_
      refine g_iconst hC (v := 0) dX12_ruled_24 ic_0 ?_
      refine g_istore_n hC (i := 2) [(2, .int 0), (0, .ref (b0 + 74)), (1, .int v1)] rfl dX12_ruled_25 (by decide) rfl ?_
      refine g_bipush hC (v := (-2)) dX12_ruled_26 bp_m2 ?_
      refine g_istore_n hC (i := 3) [(3, .int (-2)), (2, .int 0), (0, .ref (b0 + 74)), (1, .int v1)] rfl dX12_ruled_28 (by decide) rfl ?_
      refine g_iconst hC (v := (-1)) dX12_ruled_29 ic_m1 ?_
      refine g_istore hC (i := 4) [(4, .int (-1)), (3, .int (-2)), (2, .int 0), (0, .ref (b0 + 74)), (1, .int v1)] dX12_ruled_30 (by decide) rfl ?_
      exact g_sub [3, 4, 2, 1, 0] rfl (wX12_ruled_32 hL hN hM hC  hret  5000 v1 0 (-2) (-1) x74_5 x75_6 x76_7 x77_8 x78_9 x101 x110 x112_10 y99 y100 hf)
    · replace hf := ifT hf hc
      refine g_bipush hC (v := (-3)) dX12_ruled_17 bp_m3 ?_
      obtain ⟨rfl, rfl, rfl, rfl, rfl, rfl, rfl, rfl, rfl, rfl, rfl⟩ := sm11E hf
      exact hret _ _ rfl dX12_ruled_19

def fX12_ruled   (x79 : Nat → Int32) (x80 : Nat → Int32) (x81 : Nat → Int32) (x82 : Nat → Int32) (x83 : Nat → Int32) (x84 : Nat → Int32) (x85 : Nat → Int32) (x92 : Nat → Int32) (x93 : Nat → Int32) (x94 : Nat → Int32) (x95 : Nat → Int32) (x96 : Nat → Int32) (x97 : Nat → Int32)  (v1 : Int32) (x74 : Nat → Int32) (x75 : Nat → Int32) (x76 : Nat → Int32) (x77 : Nat → Int32) (x78 : Nat → Int32) (x101 : Nat → Int32) (x110 : Nat → Int32) (x112 : Nat → Int32) (y99 : Nat → Int64) (y100 : Nat → Int64) : Option (Int32 × (Nat → Int32) × (Nat → Int32) × (Nat → Int32) × (Nat → Int32) × (Nat → Int32) × (Nat → Int32) × (Nat → Int32) × (Nat → Int32) × (Nat → Int64) × (Nat → Int64)) := fX12_ruled_0 x79 x80 x81 x82 x83 x84 x85 x92 x93 x94 x95 x96 x97 v1 x74 x75 x76 x77 x78 x101 x110 x112 y99 y100

set_option maxHeartbeats 4000000 in
set_option maxRecDepth 100000 in
theorem c_X12_ruled (l : Launch) {b0 : Nat} {D : GD} {n : Nat} {κ : QT} {X0 : XT} {Y0 : YT} {Z : ZT} (hL : LY n κ) {x74 : Nat → Int32} {x75 : Nat → Int32} {x76 : Nat → Int32} {x77 : Nat → Int32} {x78 : Nat → Int32} {x79 : Nat → Int32} {x80 : Nat → Int32} {x81 : Nat → Int32} {x82 : Nat → Int32} {x83 : Nat → Int32} {x84 : Nat → Int32} {x85 : Nat → Int32} {x92 : Nat → Int32} {x93 : Nat → Int32} {x94 : Nat → Int32} {x95 : Nat → Int32} {x96 : Nat → Int32} {x97 : Nat → Int32} {x101 : Nat → Int32} {x110 : Nat → Int32} {x112 : Nat → Int32} {y99 : Nat → Int64} {y100 : Nat → Int64} (hx : ([74, 75, 76, 77, 78, 79, 80, 81, 82, 83, 84, 85, 92, 93, 94, 95, 96, 97, 101, 110, 112] : List Nat).map X0 = [x74, x75, x76, x77, x78, x79, x80, x81, x82, x83, x84, x85, x92, x93, x94, x95, x96, x97, x101, x110, x112]) (hy : ([99, 100] : List Nat).map Y0 = [y99, y100]) {v1 : Int32} {r : Int32} {rx74 : (Nat → Int32)} {rx75 : (Nat → Int32)} {rx76 : (Nat → Int32)} {rx77 : (Nat → Int32)} {rx78 : (Nat → Int32)} {rx101 : (Nat → Int32)} {rx110 : (Nat → Int32)} {rx112 : (Nat → Int32)} {ry99 : (Nat → Int64)} {ry100 : (Nat → Int64)} (hf : fX12_ruled x79 x80 x81 x82 x83 x84 x85 x92 x93 x94 x95 x96 x97 v1 x74 x75 x76 x77 x78 x101 x110 x112 y99 y100 = some (r, rx74, rx75, rx76, rx77, rx78, rx101, rx110, rx112, ry99, ry100)) : gMi l yX12_ruled cX12_ruled 5 (some FieldType.int) 8 189 0 0 b0 D [.ref (b0 + 74), .int v1] (n, κ, X0, Y0, Z) (n, κ, ov X0 [74, 75, 76, 77, 78, 79, 80, 81, 82, 83, 84, 85, 92, 93, 94, 95, 96, 97, 101, 110, 112] [rx74, rx75, rx76, rx77, rx78, x79, x80, x81, x82, x83, x84, x85, x92, x93, x94, x95, x96, x97, rx101, rx110, rx112], ov Y0 [99, 100] [ry99, ry100], Z) r := by
  have hN : ([74, 75, 76, 77, 78, 79, 80, 81, 82, 83, 84, 85, 92, 93, 94, 95, 96, 97, 101, 110, 112] : List Nat).Nodup := by decide
  have hM : ([99, 100] : List Nat).Nodup := by decide
  refine g_meti (own := RX12) (by decide) rfl rfl (Nat.le_of_ble_eq_true rfl) ?_
  intro K hC hret
  have e := wX12_ruled_0 hL hN hM hC  hret hf
  rw [ov_id' hx, ov_id' hy] at e
  exact g_sub [0, 1] rfl e

-- X12_mostAlike
def fX12_mostAlike_78   (x111 : Nat → Int32)  (k5 : Int32 → Int32 → Int32 → Int32 → Option (Int32)) (v1 : Int32) (v2 : Int32) (v4 : Int32) (s0 : Int32) : Option (Int32) := bn (v4 + 1) fun t_1 => (k5 v1 v2 s0 t_1)
set_option maxHeartbeats 4000000 in
set_option maxRecDepth 100000 in
theorem wX12_mostAlike_78 {l : Launch} {b0 : Nat} {D : GD} {K : KT} {n : Nat} {κ : QT} {X0 : XT} {Y0 : YT} {Z : ZT} (hL : LY n κ) (hN : ([111] : List Nat).Nodup) (hM : ([] : List Nat).Nodup) (hC : gC l b0 D K RX12 cX12_mostAlike (some FieldType.int) 7 0 0 0 0) {x111 : Nat → Int32} {r : Int32} (hret : ∀ pc loc, narrow .int (.int r) = .int r → decode cX12_mostAlike pc = .ok (.ireturn, 1) → gV l b0 D K (n, κ, ov X0 [111] [x111], ov Y0 [] [], Z, 0, 0) pc loc [.int r]) {k5 : Int32 → Int32 → Int32 → Int32 → Option (Int32)} (hk5 : ∀ (v1 : Int32) (v2 : Int32) (v3 : Int32) (v4 : Int32), k5 v1 v2 v3 v4 = some r → gV l b0 D K (n, κ, ov X0 [111] [x111], ov Y0 [] [], Z, 0, 0) 5 [(0, .ref (b0 + 74)), (1, .int v1), (2, .int v2), (3, .int v3), (4, .int v4)] []) {v1 : Int32} {v2 : Int32} {v4 : Int32} {s0 : Int32} (hf : fX12_mostAlike_78 x111 k5 v1 v2 v4 s0 = some r) : gV l b0 D K (n, κ, ov X0 [111] [x111], ov Y0 [] [], Z, 0, 0) 78 [(0, .ref (b0 + 74)), (1, .int v1), (2, .int v2), (4, .int v4)] [.int s0] := by
  unfold fX12_mostAlike_78 at hf
  refine g_istore_n hC (i := 3) [(3, .int s0), (0, .ref (b0 + 74)), (1, .int v1), (2, .int v2), (4, .int v4)] rfl dX12_mostAlike_78 (by decide) rfl ?_
  obtain ⟨t_1, et_1, hf⟩ := bnE hf
  refine g_iinc hC (i := 4) (v := t_1) [(4, .int t_1), (3, .int s0), (0, .ref (b0 + 74)), (1, .int v1), (2, .int v2)] dX12_mostAlike_79 (q := 4) rfl ((congrArg (HAdd.hAdd v4) ic_1).trans et_1.symm) (by decide) rfl ?_
  refine g_goto hC 5 dX12_mostAlike_82 (by decide) ?_
  exact g_sub [2, 3, 4, 1, 0] rfl (hk5 v1 v2 s0 t_1 hf)

def fX12_mostAlike_57   (x111 : Nat → Int32)  (k5 : Int32 → Int32 → Int32 → Int32 → Option (Int32)) (k17 : Int32 → Int32 → Int32 → Int32 → Int32 → Int32 → Option (Int32)) (v1 : Int32) (v2 : Int32) (v3 : Int32) (v4 : Int32) (v6 : Int32) (s0 : Int32) (s1 : Int32) : Option (Int32) := bn (s1 + s0) fun t_1 => (bn (v6 + 1) fun t_2 => (k17 v1 v2 v3 v4 t_1 t_2))
set_option maxHeartbeats 4000000 in
set_option maxRecDepth 100000 in
theorem wX12_mostAlike_57 {l : Launch} {b0 : Nat} {D : GD} {K : KT} {n : Nat} {κ : QT} {X0 : XT} {Y0 : YT} {Z : ZT} (hL : LY n κ) (hN : ([111] : List Nat).Nodup) (hM : ([] : List Nat).Nodup) (hC : gC l b0 D K RX12 cX12_mostAlike (some FieldType.int) 7 0 0 0 0) {x111 : Nat → Int32} {r : Int32} (hret : ∀ pc loc, narrow .int (.int r) = .int r → decode cX12_mostAlike pc = .ok (.ireturn, 1) → gV l b0 D K (n, κ, ov X0 [111] [x111], ov Y0 [] [], Z, 0, 0) pc loc [.int r]) {k5 : Int32 → Int32 → Int32 → Int32 → Option (Int32)} (hk5 : ∀ (v1 : Int32) (v2 : Int32) (v3 : Int32) (v4 : Int32), k5 v1 v2 v3 v4 = some r → gV l b0 D K (n, κ, ov X0 [111] [x111], ov Y0 [] [], Z, 0, 0) 5 [(0, .ref (b0 + 74)), (1, .int v1), (2, .int v2), (3, .int v3), (4, .int v4)] []) {k17 : Int32 → Int32 → Int32 → Int32 → Int32 → Int32 → Option (Int32)} (hk17 : ∀ (v1 : Int32) (v2 : Int32) (v3 : Int32) (v4 : Int32) (v5 : Int32) (v6 : Int32), k17 v1 v2 v3 v4 v5 v6 = some r → gV l b0 D K (n, κ, ov X0 [111] [x111], ov Y0 [] [], Z, 0, 0) 17 [(0, .ref (b0 + 74)), (1, .int v1), (2, .int v2), (3, .int v3), (4, .int v4), (5, .int v5), (6, .int v6)] []) {v1 : Int32} {v2 : Int32} {v3 : Int32} {v4 : Int32} {v6 : Int32} {s0 : Int32} {s1 : Int32} (hf : fX12_mostAlike_57 x111 k5 k17 v1 v2 v3 v4 v6 s0 s1 = some r) : gV l b0 D K (n, κ, ov X0 [111] [x111], ov Y0 [] [], Z, 0, 0) 57 [(0, .ref (b0 + 74)), (1, .int v1), (2, .int v2), (3, .int v3), (4, .int v4), (6, .int v6)] [.int s0, .int s1] := by
  unfold fX12_mostAlike_57 at hf
  refine g_iadd hC dX12_mostAlike_57 ?_
  obtain ⟨t_1, et_1, hf⟩ := bnE hf
  refine g_topi et_1 ?_
  refine g_istore hC (i := 5) [(5, .int t_1), (0, .ref (b0 + 74)), (1, .int v1), (2, .int v2), (3, .int v3), (4, .int v4), (6, .int v6)] dX12_mostAlike_58 (by decide) rfl ?_
  obtain ⟨t_2, et_2, hf⟩ := bnE hf
  refine g_iinc hC (i := 6) (v := t_2) [(6, .int t_2), (5, .int t_1), (0, .ref (b0 + 74)), (1, .int v1), (2, .int v2), (3, .int v3), (4, .int v4)] dX12_mostAlike_60 (q := 6) rfl ((congrArg (HAdd.hAdd v6) ic_1).trans et_2.symm) (by decide) rfl ?_
  refine g_goto hC 17 dX12_mostAlike_63 (by decide) ?_
  exact g_sub [2, 3, 4, 5, 6, 1, 0] rfl (hk17 v1 v2 v3 v4 t_1 t_2 hf)

def fX12_mostAlike_17b   (x111 : Nat → Int32)  (k5 : Int32 → Int32 → Int32 → Int32 → Option (Int32)) (k17 : Int32 → Int32 → Int32 → Int32 → Int32 → Int32 → Option (Int32)) (v1 : Int32) (v2 : Int32) (v3 : Int32) (v4 : Int32) (v5 : Int32) (v6 : Int32) : Option (Int32) := if v2 ≤ v6 then (if v5 ≤ v3 then (fX12_mostAlike_78 x111 k5 v1 v2 v4 v3) else (fX12_mostAlike_78 x111 k5 v1 v2 v4 v5)) else (gd (inb ((6 * v6) + v1) 42) (gd (inb ((6 * v4) + v1) 42) (if (x111 ((6 * v6) + v1).toNatClampNeg) = (x111 ((6 * v4) + v1).toNatClampNeg) then (fX12_mostAlike_57 x111 k5 k17 v1 v2 v3 v4 v6 1 v5) else (fX12_mostAlike_57 x111 k5 k17 v1 v2 v3 v4 v6 0 v5))))
def fX12_mostAlike_17   (x111 : Nat → Int32)  (k5 : Int32 → Int32 → Int32 → Int32 → Option (Int32)) : Int32 → Int32 → Int32 → Int32 → Int32 → Int32 → Option (Int32) := lq6 (fX12_mostAlike_17b x111 k5) 5000
set_option maxHeartbeats 4000000 in
set_option maxRecDepth 100000 in
theorem wX12_mostAlike_17 {l : Launch} {b0 : Nat} {D : GD} {K : KT} {n : Nat} {κ : QT} {X0 : XT} {Y0 : YT} {Z : ZT} (hL : LY n κ) (hN : ([111] : List Nat).Nodup) (hM : ([] : List Nat).Nodup) (hC : gC l b0 D K RX12 cX12_mostAlike (some FieldType.int) 7 0 0 0 0) {x111 : Nat → Int32} {r : Int32} (hret : ∀ pc loc, narrow .int (.int r) = .int r → decode cX12_mostAlike pc = .ok (.ireturn, 1) → gV l b0 D K (n, κ, ov X0 [111] [x111], ov Y0 [] [], Z, 0, 0) pc loc [.int r]) {k5 : Int32 → Int32 → Int32 → Int32 → Option (Int32)} (hk5 : ∀ (v1 : Int32) (v2 : Int32) (v3 : Int32) (v4 : Int32), k5 v1 v2 v3 v4 = some r → gV l b0 D K (n, κ, ov X0 [111] [x111], ov Y0 [] [], Z, 0, 0) 5 [(0, .ref (b0 + 74)), (1, .int v1), (2, .int v2), (3, .int v3), (4, .int v4)] []) : ∀ (j : Nat) (v1 : Int32) (v2 : Int32) (v3 : Int32) (v4 : Int32) (v5 : Int32) (v6 : Int32), lq6 (fX12_mostAlike_17b x111 k5) j v1 v2 v3 v4 v5 v6 = some r → gV l b0 D K (n, κ, ov X0 [111] [x111], ov Y0 [] [], Z, 0, 0) 17 [(0, .ref (b0 + 74)), (1, .int v1), (2, .int v2), (3, .int v3), (4, .int v4), (5, .int v5), (6, .int v6)] [] := by
  intro j
  induction j with
  | zero => intro v1 v2 v3 v4 v5 v6 hf; cases hf
  | succ j hk17 =>
    intro v1 v2 v3 v4 v5 v6 hf
    replace hf : fX12_mostAlike_17b x111 k5 (lq6 (fX12_mostAlike_17b x111 k5) j) v1 v2 v3 v4 v5 v6 = some r := hf
    unfold fX12_mostAlike_17b at hf
    refine g_iload hC 6 dX12_mostAlike_17 rfl ?_
    refine g_iload_n hC 2 dX12_mostAlike_19 rfl rfl ?_
    refine g_icmp_ge hC 66 dX12_mostAlike_20 (by decide) (fun hc => ?_) (fun hc => ?_)
    · replace hf := ifT hf hc
      refine g_iload hC 5 dX12_mostAlike_66 rfl ?_
      refine g_iload_n hC 3 dX12_mostAlike_68 rfl rfl ?_
      refine g_icmp_le hC 77 dX12_mostAlike_69 (by decide) (fun hc => ?_) (fun hc => ?_)
      · replace hf := ifT hf hc
        refine g_iload_n hC 3 dX12_mostAlike_77 rfl rfl ?_
        exact g_sub [0, 1, 2, 4] rfl (wX12_mostAlike_78 hL hN hM hC  hret hk5 hf)
      · replace hf := ifF hf hc
        refine g_iload hC 5 dX12_mostAlike_72 rfl ?_
        refine g_goto hC 78 dX12_mostAlike_74 (by decide) ?_
        exact g_sub [0, 1, 2, 4] rfl (wX12_mostAlike_78 hL hN hM hC  hret hk5 hf)
    · replace hf := ifF hf hc
      refine g_iload hC 5 dX12_mostAlike_23 rfl ?_
      refine g_aload_n hC 0 dX12_mostAlike_25 rfl rfl ?_
      refine gt_X12_130 hC (a := 74) (kk_74 hL) (kn_74 hL) dX12_mostAlike_26 ?_
      refine g_ref (b := 111) rfl ?_
      refine g_bipush hC (v := 6) dX12_mostAlike_29 bp_6 ?_
      refine g_iload hC 6 dX12_mostAlike_31 rfl ?_
      refine g_imul hC dX12_mostAlike_33 ?_
      refine g_iload_n hC 1 dX12_mostAlike_34 rfl rfl ?_
      refine g_iadd hC dX12_mostAlike_35 ?_
      obtain ⟨h_1, hf⟩ := gdE hf
      refine g_iald hC (x := x111) (kk_111 hL) (kn_111 hL) (ov_get hN 0 rfl rfl) (inb_in h_1) dX12_mostAlike_36 ?_
      refine g_aload_n hC 0 dX12_mostAlike_37 rfl rfl ?_
      refine gt_X12_130 hC (a := 74) (kk_74 hL) (kn_74 hL) dX12_mostAlike_38 ?_
      refine g_ref (b := 111) rfl ?_
      refine g_bipush hC (v := 6) dX12_mostAlike_41 bp_6 ?_
      refine g_iload hC 4 dX12_mostAlike_43 rfl ?_
      refine g_imul hC dX12_mostAlike_45 ?_
      refine g_iload_n hC 1 dX12_mostAlike_46 rfl rfl ?_
      refine g_iadd hC dX12_mostAlike_47 ?_
      obtain ⟨h_2, hf⟩ := gdE hf
      refine g_iald hC (x := x111) (kk_111 hL) (kn_111 hL) (ov_get hN 0 rfl rfl) (inb_in h_2) dX12_mostAlike_48 ?_
      refine g_icmp_ne hC 56 dX12_mostAlike_49 (by decide) (fun hc => ?_) (fun hc => ?_)
      · replace hf := ifF hf hc
        refine g_iconst hC (v := 0) dX12_mostAlike_56 ic_0 ?_
        exact g_sub [0, 1, 2, 3, 4, 6] rfl (wX12_mostAlike_57 hL hN hM hC  hret hk5 hk17 hf)
      · replace hf := ifT hf hc
        refine g_iconst hC (v := 1) dX12_mostAlike_52 ic_1 ?_
        refine g_goto hC 57 dX12_mostAlike_53 (by decide) ?_
        exact g_sub [0, 1, 2, 3, 4, 6] rfl (wX12_mostAlike_57 hL hN hM hC  hret hk5 hk17 hf)

def fX12_mostAlike_5b   (x111 : Nat → Int32)  (k5 : Int32 → Int32 → Int32 → Int32 → Option (Int32)) (v1 : Int32) (v2 : Int32) (v3 : Int32) (v4 : Int32) : Option (Int32) := if v2 ≤ v4 then (some v3) else (fX12_mostAlike_17 x111 k5 v1 v2 v3 v4 0 0)
def fX12_mostAlike_5   (x111 : Nat → Int32)  : Int32 → Int32 → Int32 → Int32 → Option (Int32) := lq4 (fX12_mostAlike_5b x111 ) 5000
set_option maxHeartbeats 4000000 in
set_option maxRecDepth 100000 in
theorem wX12_mostAlike_5 {l : Launch} {b0 : Nat} {D : GD} {K : KT} {n : Nat} {κ : QT} {X0 : XT} {Y0 : YT} {Z : ZT} (hL : LY n κ) (hN : ([111] : List Nat).Nodup) (hM : ([] : List Nat).Nodup) (hC : gC l b0 D K RX12 cX12_mostAlike (some FieldType.int) 7 0 0 0 0) {x111 : Nat → Int32} {r : Int32} (hret : ∀ pc loc, narrow .int (.int r) = .int r → decode cX12_mostAlike pc = .ok (.ireturn, 1) → gV l b0 D K (n, κ, ov X0 [111] [x111], ov Y0 [] [], Z, 0, 0) pc loc [.int r]) : ∀ (j : Nat) (v1 : Int32) (v2 : Int32) (v3 : Int32) (v4 : Int32), lq4 (fX12_mostAlike_5b x111 ) j v1 v2 v3 v4 = some r → gV l b0 D K (n, κ, ov X0 [111] [x111], ov Y0 [] [], Z, 0, 0) 5 [(0, .ref (b0 + 74)), (1, .int v1), (2, .int v2), (3, .int v3), (4, .int v4)] [] := by
  intro j
  induction j with
  | zero => intro v1 v2 v3 v4 hf; cases hf
  | succ j hk5 =>
    intro v1 v2 v3 v4 hf
    replace hf : fX12_mostAlike_5b x111  (lq4 (fX12_mostAlike_5b x111 ) j) v1 v2 v3 v4 = some r := hf
    unfold fX12_mostAlike_5b at hf
    refine g_iload hC 4 dX12_mostAlike_5 rfl ?_
    refine g_iload_n hC 2 dX12_mostAlike_7 rfl rfl ?_
    refine g_icmp_ge hC 85 dX12_mostAlike_8 (by decide) (fun hc => ?_) (fun hc => ?_)
    · replace hf := ifT hf hc
      refine g_iload_n hC 3 dX12_mostAlike_85 rfl rfl ?_
      obtain rfl := sm1E hf
      exact hret _ _ rfl dX12_mostAlike_86
    · replace hf := ifF hf hc
      refine g_iconst hC (v := 0) dX12_mostAlike_11 ic_0 ?_
      refine g_istore hC (i := 5) [(5, .int 0), (0, .ref (b0 + 74)), (1, .int v1), (2, .int v2), (3, .int v3), (4, .int v4)] dX12_mostAlike_12 (by decide) rfl ?_
      refine g_iconst hC (v := 0) dX12_mostAlike_14 ic_0 ?_
      refine g_istore hC (i := 6) [(6, .int 0), (5, .int 0), (0, .ref (b0 + 74)), (1, .int v1), (2, .int v2), (3, .int v3), (4, .int v4)] dX12_mostAlike_15 (by decide) rfl ?_
      exact g_sub [2, 3, 4, 5, 6, 1, 0] rfl (wX12_mostAlike_17 hL hN hM hC  hret hk5 5000 v1 v2 v3 v4 0 0 hf)

def fX12_mostAlike_0   (x111 : Nat → Int32)  (v1 : Int32) (v2 : Int32) : Option (Int32) := fX12_mostAlike_5 x111  v1 v2 0 0
set_option maxHeartbeats 4000000 in
set_option maxRecDepth 100000 in
theorem wX12_mostAlike_0 {l : Launch} {b0 : Nat} {D : GD} {K : KT} {n : Nat} {κ : QT} {X0 : XT} {Y0 : YT} {Z : ZT} (hL : LY n κ) (hN : ([111] : List Nat).Nodup) (hM : ([] : List Nat).Nodup) (hC : gC l b0 D K RX12 cX12_mostAlike (some FieldType.int) 7 0 0 0 0) {x111 : Nat → Int32} {r : Int32} (hret : ∀ pc loc, narrow .int (.int r) = .int r → decode cX12_mostAlike pc = .ok (.ireturn, 1) → gV l b0 D K (n, κ, ov X0 [111] [x111], ov Y0 [] [], Z, 0, 0) pc loc [.int r]) {v1 : Int32} {v2 : Int32} (hf : fX12_mostAlike_0 x111  v1 v2 = some r) : gV l b0 D K (n, κ, ov X0 [111] [x111], ov Y0 [] [], Z, 0, 0) 0 [(0, .ref (b0 + 74)), (1, .int v1), (2, .int v2)] [] := by
  unfold fX12_mostAlike_0 at hf
  refine g_iconst hC (v := 0) dX12_mostAlike_0 ic_0 ?_
  refine g_istore_n hC (i := 3) [(3, .int 0), (0, .ref (b0 + 74)), (1, .int v1), (2, .int v2)] rfl dX12_mostAlike_1 (by decide) rfl ?_
  refine g_iconst hC (v := 0) dX12_mostAlike_2 ic_0 ?_
  refine g_istore hC (i := 4) [(4, .int 0), (3, .int 0), (0, .ref (b0 + 74)), (1, .int v1), (2, .int v2)] dX12_mostAlike_3 (by decide) rfl ?_
  exact g_sub [2, 3, 4, 1, 0] rfl (wX12_mostAlike_5 hL hN hM hC  hret  5000 v1 v2 0 0 hf)

def fX12_mostAlike   (x111 : Nat → Int32)  (v1 : Int32) (v2 : Int32)   : Option (Int32) := fX12_mostAlike_0 x111 v1 v2

set_option maxHeartbeats 4000000 in
set_option maxRecDepth 100000 in
theorem c_X12_mostAlike (l : Launch) {b0 : Nat} {D : GD} {n : Nat} {κ : QT} {X0 : XT} {Y0 : YT} {Z : ZT} (hL : LY n κ) {x111 : Nat → Int32} (hx : ([111] : List Nat).map X0 = [x111]) (hy : ([] : List Nat).map Y0 = []) {v1 : Int32} {v2 : Int32} {r : Int32} (hf : fX12_mostAlike x111 v1 v2 = some r) : gMi l yX12_mostAlike cX12_mostAlike 7 (some FieldType.int) 0 0 0 0 b0 D [.ref (b0 + 74), .int v1, .int v2] (n, κ, X0, Y0, Z) (n, κ, ov X0 [111] [x111], ov Y0 [] [], Z) r := by
  have hN : ([111] : List Nat).Nodup := by decide
  have hM : ([] : List Nat).Nodup := by decide
  refine g_meti (own := RX12) (by decide) rfl rfl (Nat.le_of_ble_eq_true rfl) ?_
  intro K hC hret
  have e := wX12_mostAlike_0 hL hN hM hC  hret hf
  rw [ov_id' hx, ov_id' hy] at e
  exact g_sub [0, 1, 2] rfl e

-- X12_look
def fX12_look_164   (x79 : Nat → Int32) (x80 : Nat → Int32) (x81 : Nat → Int32) (x82 : Nat → Int32) (x83 : Nat → Int32) (x84 : Nat → Int32) (x85 : Nat → Int32) (x92 : Nat → Int32) (x93 : Nat → Int32) (x94 : Nat → Int32) (x95 : Nat → Int32) (x96 : Nat → Int32) (x97 : Nat → Int32)  (k129 : Int32 → Int32 → Int32 → Int32 → (Nat → Int32) → (Nat → Int32) → (Nat → Int32) → (Nat → Int32) → (Nat → Int32) → (Nat → Int32) → (Nat → Int32) → (Nat → Int32) → (Nat → Int32) → (Nat → Int64) → (Nat → Int64) → Option (Int32 × (Nat → Int32) × (Nat → Int32) × (Nat → Int32) × (Nat → Int32) × (Nat → Int32) × (Nat → Int32) × (Nat → Int32) × (Nat → Int32) × (Nat → Int32) × (Nat → Int64) × (Nat → Int64))) (v2 : Int32) (v3 : Int32) (v5 : Int32) (s0 : Int32) (x74 : (Nat → Int32)) (x75 : (Nat → Int32)) (x76 : (Nat → Int32)) (x77 : (Nat → Int32)) (x78 : (Nat → Int32)) (x101 : (Nat → Int32)) (x110 : (Nat → Int32)) (x111 : (Nat → Int32)) (x112 : (Nat → Int32)) (y99 : (Nat → Int64)) (y100 : (Nat → Int64)) : Option (Int32 × (Nat → Int32) × (Nat → Int32) × (Nat → Int32) × (Nat → Int32) × (Nat → Int32) × (Nat → Int32) × (Nat → Int32) × (Nat → Int32) × (Nat → Int32) × (Nat → Int64) × (Nat → Int64)) := bn (v5 + 1) fun t_1 => (k129 v2 v3 s0 t_1 x74 x75 x76 x77 x78 x101 x110 x111 x112 y99 y100)
set_option maxHeartbeats 4000000 in
set_option maxRecDepth 100000 in
theorem wX12_look_164 {l : Launch} {b0 : Nat} {D : GD} {K : KT} {n : Nat} {κ : QT} {X0 : XT} {Y0 : YT} {Z : ZT} (hL : LY n κ) (hN : ([74, 75, 76, 77, 78, 79, 80, 81, 82, 83, 84, 85, 92, 93, 94, 95, 96, 97, 101, 110, 111, 112] : List Nat).Nodup) (hM : ([99, 100] : List Nat).Nodup) (hC : gC l b0 D K RX12 cX12_look (some FieldType.int) 6 8 189 0 0) {x79 : Nat → Int32} {x80 : Nat → Int32} {x81 : Nat → Int32} {x82 : Nat → Int32} {x83 : Nat → Int32} {x84 : Nat → Int32} {x85 : Nat → Int32} {x92 : Nat → Int32} {x93 : Nat → Int32} {x94 : Nat → Int32} {x95 : Nat → Int32} {x96 : Nat → Int32} {x97 : Nat → Int32} {r : Int32} {rx74 : (Nat → Int32)} {rx75 : (Nat → Int32)} {rx76 : (Nat → Int32)} {rx77 : (Nat → Int32)} {rx78 : (Nat → Int32)} {rx101 : (Nat → Int32)} {rx110 : (Nat → Int32)} {rx111 : (Nat → Int32)} {rx112 : (Nat → Int32)} {ry99 : (Nat → Int64)} {ry100 : (Nat → Int64)} (hret : ∀ pc loc, narrow .int (.int r) = .int r → decode cX12_look pc = .ok (.ireturn, 1) → gV l b0 D K (n, κ, ov X0 [74, 75, 76, 77, 78, 79, 80, 81, 82, 83, 84, 85, 92, 93, 94, 95, 96, 97, 101, 110, 111, 112] [rx74, rx75, rx76, rx77, rx78, x79, x80, x81, x82, x83, x84, x85, x92, x93, x94, x95, x96, x97, rx101, rx110, rx111, rx112], ov Y0 [99, 100] [ry99, ry100], Z, 0, 0) pc loc [.int r]) {k129 : Int32 → Int32 → Int32 → Int32 → (Nat → Int32) → (Nat → Int32) → (Nat → Int32) → (Nat → Int32) → (Nat → Int32) → (Nat → Int32) → (Nat → Int32) → (Nat → Int32) → (Nat → Int32) → (Nat → Int64) → (Nat → Int64) → Option (Int32 × (Nat → Int32) × (Nat → Int32) × (Nat → Int32) × (Nat → Int32) × (Nat → Int32) × (Nat → Int32) × (Nat → Int32) × (Nat → Int32) × (Nat → Int32) × (Nat → Int64) × (Nat → Int64))} (hk129 : ∀ (v2 : Int32) (v3 : Int32) (v4 : Int32) (v5 : Int32) (x74 : (Nat → Int32)) (x75 : (Nat → Int32)) (x76 : (Nat → Int32)) (x77 : (Nat → Int32)) (x78 : (Nat → Int32)) (x101 : (Nat → Int32)) (x110 : (Nat → Int32)) (x111 : (Nat → Int32)) (x112 : (Nat → Int32)) (y99 : (Nat → Int64)) (y100 : (Nat → Int64)), k129 v2 v3 v4 v5 x74 x75 x76 x77 x78 x101 x110 x111 x112 y99 y100 = some (r, rx74, rx75, rx76, rx77, rx78, rx101, rx110, rx111, rx112, ry99, ry100) → gV l b0 D K (n, κ, ov X0 [74, 75, 76, 77, 78, 79, 80, 81, 82, 83, 84, 85, 92, 93, 94, 95, 96, 97, 101, 110, 111, 112] [x74, x75, x76, x77, x78, x79, x80, x81, x82, x83, x84, x85, x92, x93, x94, x95, x96, x97, x101, x110, x111, x112], ov Y0 [99, 100] [y99, y100], Z, 0, 0) 129 [(0, .ref (b0 + 74)), (2, .int v2), (3, .int v3), (4, .int v4), (5, .int v5)] []) {v2 : Int32} {v3 : Int32} {v5 : Int32} {s0 : Int32} {x74 : (Nat → Int32)} {x75 : (Nat → Int32)} {x76 : (Nat → Int32)} {x77 : (Nat → Int32)} {x78 : (Nat → Int32)} {x101 : (Nat → Int32)} {x110 : (Nat → Int32)} {x111 : (Nat → Int32)} {x112 : (Nat → Int32)} {y99 : (Nat → Int64)} {y100 : (Nat → Int64)} (hf : fX12_look_164 x79 x80 x81 x82 x83 x84 x85 x92 x93 x94 x95 x96 x97 k129 v2 v3 v5 s0 x74 x75 x76 x77 x78 x101 x110 x111 x112 y99 y100 = some (r, rx74, rx75, rx76, rx77, rx78, rx101, rx110, rx111, rx112, ry99, ry100)) : gV l b0 D K (n, κ, ov X0 [74, 75, 76, 77, 78, 79, 80, 81, 82, 83, 84, 85, 92, 93, 94, 95, 96, 97, 101, 110, 111, 112] [x74, x75, x76, x77, x78, x79, x80, x81, x82, x83, x84, x85, x92, x93, x94, x95, x96, x97, x101, x110, x111, x112], ov Y0 [99, 100] [y99, y100], Z, 0, 0) 164 [(0, .ref (b0 + 74)), (2, .int v2), (3, .int v3), (5, .int v5)] [.int s0] := by
  unfold fX12_look_164 at hf
  refine g_istore hC (i := 4) [(4, .int s0), (0, .ref (b0 + 74)), (2, .int v2), (3, .int v3), (5, .int v5)] dX12_look_164 (by decide) rfl ?_
  obtain ⟨t_1, et_1, hf⟩ := bnE hf
  refine g_iinc hC (i := 5) (v := t_1) [(5, .int t_1), (4, .int s0), (0, .ref (b0 + 74)), (2, .int v2), (3, .int v3)] dX12_look_166 (q := 4) rfl ((congrArg (HAdd.hAdd v5) ic_1).trans et_1.symm) (by decide) rfl ?_
  refine g_goto hC 129 dX12_look_169 (by decide) ?_
  exact g_sub [2, 3, 4, 1, 0] rfl (hk129 v2 v3 s0 t_1 x74 x75 x76 x77 x78 x101 x110 x111 x112 y99 y100 hf)

def fX12_look_129b   (x79 : Nat → Int32) (x80 : Nat → Int32) (x81 : Nat → Int32) (x82 : Nat → Int32) (x83 : Nat → Int32) (x84 : Nat → Int32) (x85 : Nat → Int32) (x92 : Nat → Int32) (x93 : Nat → Int32) (x94 : Nat → Int32) (x95 : Nat → Int32) (x96 : Nat → Int32) (x97 : Nat → Int32)  (k129 : Int32 → Int32 → Int32 → Int32 → (Nat → Int32) → (Nat → Int32) → (Nat → Int32) → (Nat → Int32) → (Nat → Int32) → (Nat → Int32) → (Nat → Int32) → (Nat → Int32) → (Nat → Int32) → (Nat → Int64) → (Nat → Int64) → Option (Int32 × (Nat → Int32) × (Nat → Int32) × (Nat → Int32) × (Nat → Int32) × (Nat → Int32) × (Nat → Int32) × (Nat → Int32) × (Nat → Int32) × (Nat → Int32) × (Nat → Int64) × (Nat → Int64))) (v2 : Int32) (v3 : Int32) (v4 : Int32) (v5 : Int32) (x74 : (Nat → Int32)) (x75 : (Nat → Int32)) (x76 : (Nat → Int32)) (x77 : (Nat → Int32)) (x78 : (Nat → Int32)) (x101 : (Nat → Int32)) (x110 : (Nat → Int32)) (x111 : (Nat → Int32)) (x112 : (Nat → Int32)) (y99 : (Nat → Int64)) (y100 : (Nat → Int64)) : Option (Int32 × (Nat → Int32) × (Nat → Int32) × (Nat → Int32) × (Nat → Int32) × (Nat → Int32) × (Nat → Int32) × (Nat → Int32) × (Nat → Int32) × (Nat → Int32) × (Nat → Int64) × (Nat → Int64)) := gd (inb 4 11) (if (x75 (4 : Int32).toNatClampNeg) ≤ v5 then (if v2 = 0 then (some (v4, x74, x75, x76, x77, x78, x101, x110, x111, x112, y99, y100)) else (bd1 (fX12_mostAlike x111 v4 v3) fun r_2 => (some (r_2, x74, x75, x76, x77, x78, x101, x110, x111, x112, y99, y100)))) else (bd1 (fX12_mostAlike x111 v5 v3) fun r_4 => (bd1 (fX12_mostAlike x111 v4 v3) fun r_6 => (if r_6 ≤ r_4 then (fX12_look_164 x79 x80 x81 x82 x83 x84 x85 x92 x93 x94 x95 x96 x97 k129 v2 v3 v5 v4 x74 x75 x76 x77 x78 x101 x110 x111 x112 y99 y100) else (fX12_look_164 x79 x80 x81 x82 x83 x84 x85 x92 x93 x94 x95 x96 x97 k129 v2 v3 v5 v5 x74 x75 x76 x77 x78 x101 x110 x111 x112 y99 y100)))))
def fX12_look_129   (x79 : Nat → Int32) (x80 : Nat → Int32) (x81 : Nat → Int32) (x82 : Nat → Int32) (x83 : Nat → Int32) (x84 : Nat → Int32) (x85 : Nat → Int32) (x92 : Nat → Int32) (x93 : Nat → Int32) (x94 : Nat → Int32) (x95 : Nat → Int32) (x96 : Nat → Int32) (x97 : Nat → Int32)  : Int32 → Int32 → Int32 → Int32 → (Nat → Int32) → (Nat → Int32) → (Nat → Int32) → (Nat → Int32) → (Nat → Int32) → (Nat → Int32) → (Nat → Int32) → (Nat → Int32) → (Nat → Int32) → (Nat → Int64) → (Nat → Int64) → Option (Int32 × (Nat → Int32) × (Nat → Int32) × (Nat → Int32) × (Nat → Int32) × (Nat → Int32) × (Nat → Int32) × (Nat → Int32) × (Nat → Int32) × (Nat → Int32) × (Nat → Int64) × (Nat → Int64)) := lq15 (fX12_look_129b x79 x80 x81 x82 x83 x84 x85 x92 x93 x94 x95 x96 x97 ) 5000
set_option maxHeartbeats 4000000 in
set_option maxRecDepth 100000 in
theorem wX12_look_129 {l : Launch} {b0 : Nat} {D : GD} {K : KT} {n : Nat} {κ : QT} {X0 : XT} {Y0 : YT} {Z : ZT} (hL : LY n κ) (hN : ([74, 75, 76, 77, 78, 79, 80, 81, 82, 83, 84, 85, 92, 93, 94, 95, 96, 97, 101, 110, 111, 112] : List Nat).Nodup) (hM : ([99, 100] : List Nat).Nodup) (hC : gC l b0 D K RX12 cX12_look (some FieldType.int) 6 8 189 0 0) {x79 : Nat → Int32} {x80 : Nat → Int32} {x81 : Nat → Int32} {x82 : Nat → Int32} {x83 : Nat → Int32} {x84 : Nat → Int32} {x85 : Nat → Int32} {x92 : Nat → Int32} {x93 : Nat → Int32} {x94 : Nat → Int32} {x95 : Nat → Int32} {x96 : Nat → Int32} {x97 : Nat → Int32} {r : Int32} {rx74 : (Nat → Int32)} {rx75 : (Nat → Int32)} {rx76 : (Nat → Int32)} {rx77 : (Nat → Int32)} {rx78 : (Nat → Int32)} {rx101 : (Nat → Int32)} {rx110 : (Nat → Int32)} {rx111 : (Nat → Int32)} {rx112 : (Nat → Int32)} {ry99 : (Nat → Int64)} {ry100 : (Nat → Int64)} (hret : ∀ pc loc, narrow .int (.int r) = .int r → decode cX12_look pc = .ok (.ireturn, 1) → gV l b0 D K (n, κ, ov X0 [74, 75, 76, 77, 78, 79, 80, 81, 82, 83, 84, 85, 92, 93, 94, 95, 96, 97, 101, 110, 111, 112] [rx74, rx75, rx76, rx77, rx78, x79, x80, x81, x82, x83, x84, x85, x92, x93, x94, x95, x96, x97, rx101, rx110, rx111, rx112], ov Y0 [99, 100] [ry99, ry100], Z, 0, 0) pc loc [.int r]) : ∀ (j : Nat) (v2 : Int32) (v3 : Int32) (v4 : Int32) (v5 : Int32) (x74 : (Nat → Int32)) (x75 : (Nat → Int32)) (x76 : (Nat → Int32)) (x77 : (Nat → Int32)) (x78 : (Nat → Int32)) (x101 : (Nat → Int32)) (x110 : (Nat → Int32)) (x111 : (Nat → Int32)) (x112 : (Nat → Int32)) (y99 : (Nat → Int64)) (y100 : (Nat → Int64)), lq15 (fX12_look_129b x79 x80 x81 x82 x83 x84 x85 x92 x93 x94 x95 x96 x97 ) j v2 v3 v4 v5 x74 x75 x76 x77 x78 x101 x110 x111 x112 y99 y100 = some (r, rx74, rx75, rx76, rx77, rx78, rx101, rx110, rx111, rx112, ry99, ry100) → gV l b0 D K (n, κ, ov X0 [74, 75, 76, 77, 78, 79, 80, 81, 82, 83, 84, 85, 92, 93, 94, 95, 96, 97, 101, 110, 111, 112] [x74, x75, x76, x77, x78, x79, x80, x81, x82, x83, x84, x85, x92, x93, x94, x95, x96, x97, x101, x110, x111, x112], ov Y0 [99, 100] [y99, y100], Z, 0, 0) 129 [(0, .ref (b0 + 74)), (2, .int v2), (3, .int v3), (4, .int v4), (5, .int v5)] [] := by
  intro j
  induction j with
  | zero => intro v2 v3 v4 v5 x74 x75 x76 x77 x78 x101 x110 x111 x112 y99 y100 hf; cases hf
  | succ j hk129 =>
    intro v2 v3 v4 v5 x74 x75 x76 x77 x78 x101 x110 x111 x112 y99 y100 hf
    replace hf : fX12_look_129b x79 x80 x81 x82 x83 x84 x85 x92 x93 x94 x95 x96 x97  (lq15 (fX12_look_129b x79 x80 x81 x82 x83 x84 x85 x92 x93 x94 x95 x96 x97 ) j) v2 v3 v4 v5 x74 x75 x76 x77 x78 x101 x110 x111 x112 y99 y100 = some (r, rx74, rx75, rx76, rx77, rx78, rx101, rx110, rx111, rx112, ry99, ry100) := hf
    unfold fX12_look_129b at hf
    refine g_iload hC 4 dX12_look_129 rfl ?_
    refine g_aload_n hC 0 dX12_look_131 rfl rfl ?_
    refine gt_X12_9 hC (a := 74) (kk_74 hL) (kn_74 hL) dX12_look_132 ?_
    refine g_ref (b := 75) rfl ?_
    refine g_iconst hC (v := 4) dX12_look_135 ic_4 ?_
    obtain ⟨h_1, hf⟩ := gdE hf
    refine g_iald hC (x := x75) (kk_75 hL) (kn_75 hL) (ov_get hN 1 rfl rfl) (inb_in h_1) dX12_look_136 ?_
    refine g_icmp_ge hC 172 dX12_look_137 (by decide) (fun hc => ?_) (fun hc => ?_)
    · replace hf := ifT hf hc
      refine g_iload_n hC 1 dX12_look_172 rfl rfl ?_
      refine g_if_ne hC 181 dX12_look_173 (by decide) (fun hc => ?_) (fun hc => ?_)
      · replace hf := ifF hf hc
        refine g_aload_n hC 0 dX12_look_181 rfl rfl ?_
        refine g_iload hC 3 dX12_look_182 rfl ?_
        refine g_iload_n hC 2 dX12_look_184 rfl rfl ?_
        obtain ⟨r_2, q_3, hf⟩ := bd1E hf
        refine g_callV_i (a := 74) hC (X' := ov X0 [74, 75, 76, 77, 78, 79, 80, 81, 82, 83, 84, 85, 92, 93, 94, 95, 96, 97, 101, 110, 111, 112] [x74, x75, x76, x77, x78, x79, x80, x81, x82, x83, x84, x85, x92, x93, x94, x95, x96, x97, x101, x110, x111, x112]) (Y' := ov Y0 [99, 100] [y99, y100]) (As := [.int v4, .int v3]) (gMi_eq (c_X12_mostAlike l hL (ov_map hN [20] (by rfl) (by rfl)) (ov_map hM [] (by rfl) (by rfl)) q_3) (ov_ovE hN (by rfl) [20] [0, 1, 2, 3, 4, 5, 6, 7, 8, 9, 10, 11, 12, 13, 14, 15, 16, 17, 18, 19, 21] (by rfl) (by rfl) [x74, x75, x76, x77, x78, x79, x80, x81, x82, x83, x84, x85, x92, x93, x94, x95, x96, x97, x101, x110, x112] (by rfl) (by rfl) (by rfl) 22 (by rfl) (by decide)) (ov_ovE hM (by rfl) [] [0, 1] (by rfl) (by rfl) [y99, y100] (by rfl) (by rfl) (by rfl) 2 (by rfl) (by decide))) tw_1795 tw_1792 tw_127 tw_1794 tw_113 (ci := 12) rfl (by decide) (kk_74 hL) (kn_74 hL) pd_X12_mostAlike (by decide) (by decide) rfl rfl (Nat.le_of_ble_eq_true rfl) rfl dX12_look_185 ?_
        obtain ⟨rfl, rfl, rfl, rfl, rfl, rfl, rfl, rfl, rfl, rfl, rfl, rfl⟩ := sm12E hf
        exact hret _ _ rfl dX12_look_188
      · replace hf := ifT hf hc
        refine g_iload hC 3 dX12_look_176 rfl ?_
        refine g_goto hC 188 dX12_look_178 (by decide) ?_
        obtain ⟨rfl, rfl, rfl, rfl, rfl, rfl, rfl, rfl, rfl, rfl, rfl, rfl⟩ := sm12E hf
        exact hret _ _ rfl dX12_look_188
    · replace hf := ifF hf hc
      refine g_aload_n hC 0 dX12_look_140 rfl rfl ?_
      refine g_iload hC 4 dX12_look_141 rfl ?_
      refine g_iload_n hC 2 dX12_look_143 rfl rfl ?_
      obtain ⟨r_4, q_5, hf⟩ := bd1E hf
      refine g_callV_i (a := 74) hC (X' := ov X0 [74, 75, 76, 77, 78, 79, 80, 81, 82, 83, 84, 85, 92, 93, 94, 95, 96, 97, 101, 110, 111, 112] [x74, x75, x76, x77, x78, x79, x80, x81, x82, x83, x84, x85, x92, x93, x94, x95, x96, x97, x101, x110, x111, x112]) (Y' := ov Y0 [99, 100] [y99, y100]) (As := [.int v5, .int v3]) (gMi_eq (c_X12_mostAlike l hL (ov_map hN [20] (by rfl) (by rfl)) (ov_map hM [] (by rfl) (by rfl)) q_5) (ov_ovE hN (by rfl) [20] [0, 1, 2, 3, 4, 5, 6, 7, 8, 9, 10, 11, 12, 13, 14, 15, 16, 17, 18, 19, 21] (by rfl) (by rfl) [x74, x75, x76, x77, x78, x79, x80, x81, x82, x83, x84, x85, x92, x93, x94, x95, x96, x97, x101, x110, x112] (by rfl) (by rfl) (by rfl) 22 (by rfl) (by decide)) (ov_ovE hM (by rfl) [] [0, 1] (by rfl) (by rfl) [y99, y100] (by rfl) (by rfl) (by rfl) 2 (by rfl) (by decide))) tw_1795 tw_1792 tw_127 tw_1794 tw_113 (ci := 12) rfl (by decide) (kk_74 hL) (kn_74 hL) pd_X12_mostAlike (by decide) (by decide) rfl rfl (Nat.le_of_ble_eq_true rfl) rfl dX12_look_144 ?_
      refine g_aload_n hC 0 dX12_look_147 rfl rfl ?_
      refine g_iload hC 3 dX12_look_148 rfl ?_
      refine g_iload_n hC 2 dX12_look_150 rfl rfl ?_
      obtain ⟨r_6, q_7, hf⟩ := bd1E hf
      refine g_callV_i (a := 74) hC (X' := ov X0 [74, 75, 76, 77, 78, 79, 80, 81, 82, 83, 84, 85, 92, 93, 94, 95, 96, 97, 101, 110, 111, 112] [x74, x75, x76, x77, x78, x79, x80, x81, x82, x83, x84, x85, x92, x93, x94, x95, x96, x97, x101, x110, x111, x112]) (Y' := ov Y0 [99, 100] [y99, y100]) (As := [.int v4, .int v3]) (gMi_eq (c_X12_mostAlike l hL (ov_map hN [20] (by rfl) (by rfl)) (ov_map hM [] (by rfl) (by rfl)) q_7) (ov_ovE hN (by rfl) [20] [0, 1, 2, 3, 4, 5, 6, 7, 8, 9, 10, 11, 12, 13, 14, 15, 16, 17, 18, 19, 21] (by rfl) (by rfl) [x74, x75, x76, x77, x78, x79, x80, x81, x82, x83, x84, x85, x92, x93, x94, x95, x96, x97, x101, x110, x112] (by rfl) (by rfl) (by rfl) 22 (by rfl) (by decide)) (ov_ovE hM (by rfl) [] [0, 1] (by rfl) (by rfl) [y99, y100] (by rfl) (by rfl) (by rfl) 2 (by rfl) (by decide))) tw_1795 tw_1792 tw_127 tw_1794 tw_113 (ci := 12) rfl (by decide) (kk_74 hL) (kn_74 hL) pd_X12_mostAlike (by decide) (by decide) rfl rfl (Nat.le_of_ble_eq_true rfl) rfl dX12_look_151 ?_
      refine g_icmp_ge hC 162 dX12_look_154 (by decide) (fun hc => ?_) (fun hc => ?_)
      · replace hf := ifT hf hc
        refine g_iload hC 3 dX12_look_162 rfl ?_
        exact g_sub [0, 1, 2, 4] rfl (wX12_look_164 hL hN hM hC  hret hk129 hf)
      · replace hf := ifF hf hc
        refine g_iload hC 4 dX12_look_157 rfl ?_
        refine g_goto hC 164 dX12_look_159 (by decide) ?_
        exact g_sub [0, 1, 2, 4] rfl (wX12_look_164 hL hN hM hC  hret hk129 hf)

def fX12_look_101   (x79 : Nat → Int32) (x80 : Nat → Int32) (x81 : Nat → Int32) (x82 : Nat → Int32) (x83 : Nat → Int32) (x84 : Nat → Int32) (x85 : Nat → Int32) (x92 : Nat → Int32) (x93 : Nat → Int32) (x94 : Nat → Int32) (x95 : Nat → Int32) (x96 : Nat → Int32) (x97 : Nat → Int32)  (k40 : Int32 → Int32 → Int32 → Int32 → (Nat → Int32) → (Nat → Int32) → (Nat → Int32) → (Nat → Int32) → (Nat → Int32) → (Nat → Int32) → (Nat → Int32) → (Nat → Int32) → (Nat → Int32) → (Nat → Int64) → (Nat → Int64) → Option (Int32 × (Nat → Int32) × (Nat → Int32) × (Nat → Int32) × (Nat → Int32) × (Nat → Int32) × (Nat → Int32) × (Nat → Int32) × (Nat → Int32) × (Nat → Int32) × (Nat → Int64) × (Nat → Int64))) (v1 : Int32) (v2 : Int32) (v3 : Int32) (v4 : Int32) (x74 : (Nat → Int32)) (x75 : (Nat → Int32)) (x76 : (Nat → Int32)) (x77 : (Nat → Int32)) (x78 : (Nat → Int32)) (x101 : (Nat → Int32)) (x110 : (Nat → Int32)) (x111 : (Nat → Int32)) (x112 : (Nat → Int32)) (y99 : (Nat → Int64)) (y100 : (Nat → Int64)) : Option (Int32 × (Nat → Int32) × (Nat → Int32) × (Nat → Int32) × (Nat → Int32) × (Nat → Int32) × (Nat → Int32) × (Nat → Int32) × (Nat → Int32) × (Nat → Int32) × (Nat → Int64) × (Nat → Int64)) := bn (v4 + 1) fun t_1 => (k40 v1 v2 v3 t_1 x74 x75 x76 x77 x78 x101 x110 x111 x112 y99 y100)
set_option maxHeartbeats 4000000 in
set_option maxRecDepth 100000 in
theorem wX12_look_101 {l : Launch} {b0 : Nat} {D : GD} {K : KT} {n : Nat} {κ : QT} {X0 : XT} {Y0 : YT} {Z : ZT} (hL : LY n κ) (hN : ([74, 75, 76, 77, 78, 79, 80, 81, 82, 83, 84, 85, 92, 93, 94, 95, 96, 97, 101, 110, 111, 112] : List Nat).Nodup) (hM : ([99, 100] : List Nat).Nodup) (hC : gC l b0 D K RX12 cX12_look (some FieldType.int) 6 8 189 0 0) {x79 : Nat → Int32} {x80 : Nat → Int32} {x81 : Nat → Int32} {x82 : Nat → Int32} {x83 : Nat → Int32} {x84 : Nat → Int32} {x85 : Nat → Int32} {x92 : Nat → Int32} {x93 : Nat → Int32} {x94 : Nat → Int32} {x95 : Nat → Int32} {x96 : Nat → Int32} {x97 : Nat → Int32} {r : Int32} {rx74 : (Nat → Int32)} {rx75 : (Nat → Int32)} {rx76 : (Nat → Int32)} {rx77 : (Nat → Int32)} {rx78 : (Nat → Int32)} {rx101 : (Nat → Int32)} {rx110 : (Nat → Int32)} {rx111 : (Nat → Int32)} {rx112 : (Nat → Int32)} {ry99 : (Nat → Int64)} {ry100 : (Nat → Int64)} (hret : ∀ pc loc, narrow .int (.int r) = .int r → decode cX12_look pc = .ok (.ireturn, 1) → gV l b0 D K (n, κ, ov X0 [74, 75, 76, 77, 78, 79, 80, 81, 82, 83, 84, 85, 92, 93, 94, 95, 96, 97, 101, 110, 111, 112] [rx74, rx75, rx76, rx77, rx78, x79, x80, x81, x82, x83, x84, x85, x92, x93, x94, x95, x96, x97, rx101, rx110, rx111, rx112], ov Y0 [99, 100] [ry99, ry100], Z, 0, 0) pc loc [.int r]) {k40 : Int32 → Int32 → Int32 → Int32 → (Nat → Int32) → (Nat → Int32) → (Nat → Int32) → (Nat → Int32) → (Nat → Int32) → (Nat → Int32) → (Nat → Int32) → (Nat → Int32) → (Nat → Int32) → (Nat → Int64) → (Nat → Int64) → Option (Int32 × (Nat → Int32) × (Nat → Int32) × (Nat → Int32) × (Nat → Int32) × (Nat → Int32) × (Nat → Int32) × (Nat → Int32) × (Nat → Int32) × (Nat → Int32) × (Nat → Int64) × (Nat → Int64))} (hk40 : ∀ (v1 : Int32) (v2 : Int32) (v3 : Int32) (v4 : Int32) (x74 : (Nat → Int32)) (x75 : (Nat → Int32)) (x76 : (Nat → Int32)) (x77 : (Nat → Int32)) (x78 : (Nat → Int32)) (x101 : (Nat → Int32)) (x110 : (Nat → Int32)) (x111 : (Nat → Int32)) (x112 : (Nat → Int32)) (y99 : (Nat → Int64)) (y100 : (Nat → Int64)), k40 v1 v2 v3 v4 x74 x75 x76 x77 x78 x101 x110 x111 x112 y99 y100 = some (r, rx74, rx75, rx76, rx77, rx78, rx101, rx110, rx111, rx112, ry99, ry100) → gV l b0 D K (n, κ, ov X0 [74, 75, 76, 77, 78, 79, 80, 81, 82, 83, 84, 85, 92, 93, 94, 95, 96, 97, 101, 110, 111, 112] [x74, x75, x76, x77, x78, x79, x80, x81, x82, x83, x84, x85, x92, x93, x94, x95, x96, x97, x101, x110, x111, x112], ov Y0 [99, 100] [y99, y100], Z, 0, 0) 40 [(0, .ref (b0 + 74)), (1, .int v1), (2, .int v2), (3, .int v3), (4, .int v4)] []) {v1 : Int32} {v2 : Int32} {v3 : Int32} {v4 : Int32} {x74 : (Nat → Int32)} {x75 : (Nat → Int32)} {x76 : (Nat → Int32)} {x77 : (Nat → Int32)} {x78 : (Nat → Int32)} {x101 : (Nat → Int32)} {x110 : (Nat → Int32)} {x111 : (Nat → Int32)} {x112 : (Nat → Int32)} {y99 : (Nat → Int64)} {y100 : (Nat → Int64)} (hf : fX12_look_101 x79 x80 x81 x82 x83 x84 x85 x92 x93 x94 x95 x96 x97 k40 v1 v2 v3 v4 x74 x75 x76 x77 x78 x101 x110 x111 x112 y99 y100 = some (r, rx74, rx75, rx76, rx77, rx78, rx101, rx110, rx111, rx112, ry99, ry100)) : gV l b0 D K (n, κ, ov X0 [74, 75, 76, 77, 78, 79, 80, 81, 82, 83, 84, 85, 92, 93, 94, 95, 96, 97, 101, 110, 111, 112] [x74, x75, x76, x77, x78, x79, x80, x81, x82, x83, x84, x85, x92, x93, x94, x95, x96, x97, x101, x110, x111, x112], ov Y0 [99, 100] [y99, y100], Z, 0, 0) 101 [(0, .ref (b0 + 74)), (1, .int v1), (2, .int v2), (3, .int v3), (4, .int v4)] [] := by
  unfold fX12_look_101 at hf
  obtain ⟨t_1, et_1, hf⟩ := bnE hf
  refine g_iinc hC (i := 4) (v := t_1) [(4, .int t_1), (0, .ref (b0 + 74)), (1, .int v1), (2, .int v2), (3, .int v3)] dX12_look_101 (q := 4) rfl ((congrArg (HAdd.hAdd v4) ic_1).trans et_1.symm) (by decide) rfl ?_
  refine g_goto hC 40 dX12_look_104 (by decide) ?_
  exact g_sub [1, 2, 3, 4, 0] rfl (hk40 v1 v2 v3 t_1 x74 x75 x76 x77 x78 x101 x110 x111 x112 y99 y100 hf)

def fX12_look_61b   (x79 : Nat → Int32) (x80 : Nat → Int32) (x81 : Nat → Int32) (x82 : Nat → Int32) (x83 : Nat → Int32) (x84 : Nat → Int32) (x85 : Nat → Int32) (x92 : Nat → Int32) (x93 : Nat → Int32) (x94 : Nat → Int32) (x95 : Nat → Int32) (x96 : Nat → Int32) (x97 : Nat → Int32)  (k40 : Int32 → Int32 → Int32 → Int32 → (Nat → Int32) → (Nat → Int32) → (Nat → Int32) → (Nat → Int32) → (Nat → Int32) → (Nat → Int32) → (Nat → Int32) → (Nat → Int32) → (Nat → Int32) → (Nat → Int64) → (Nat → Int64) → Option (Int32 × (Nat → Int32) × (Nat → Int32) × (Nat → Int32) × (Nat → Int32) × (Nat → Int32) × (Nat → Int32) × (Nat → Int32) × (Nat → Int32) × (Nat → Int32) × (Nat → Int64) × (Nat → Int64))) (k61 : Int32 → Int32 → Int32 → Int32 → Int32 → (Nat → Int32) → (Nat → Int32) → (Nat → Int32) → (Nat → Int32) → (Nat → Int32) → (Nat → Int32) → (Nat → Int32) → (Nat → Int32) → (Nat → Int32) → (Nat → Int64) → (Nat → Int64) → Option (Int32 × (Nat → Int32) × (Nat → Int32) × (Nat → Int32) × (Nat → Int32) × (Nat → Int32) × (Nat → Int32) × (Nat → Int32) × (Nat → Int32) × (Nat → Int32) × (Nat → Int64) × (Nat → Int64))) (v1 : Int32) (v2 : Int32) (v3 : Int32) (v4 : Int32) (v5 : Int32) (x74 : (Nat → Int32)) (x75 : (Nat → Int32)) (x76 : (Nat → Int32)) (x77 : (Nat → Int32)) (x78 : (Nat → Int32)) (x101 : (Nat → Int32)) (x110 : (Nat → Int32)) (x111 : (Nat → Int32)) (x112 : (Nat → Int32)) (y99 : (Nat → Int64)) (y100 : (Nat → Int64)) : Option (Int32 × (Nat → Int32) × (Nat → Int32) × (Nat → Int32) × (Nat → Int32) × (Nat → Int32) × (Nat → Int32) × (Nat → Int32) × (Nat → Int32) × (Nat → Int32) × (Nat → Int64) × (Nat → Int64)) := if 6 ≤ v5 then (bn (v3 + 1) fun t_1 => (fX12_look_101 x79 x80 x81 x82 x83 x84 x85 x92 x93 x94 x95 x96 x97 k40 v1 v2 t_1 v4 x74 x75 x76 x77 x78 x101 x110 x111 x112 y99 y100)) else (gd (inb ((6 * v1) + v5) 366) (gd (inb ((6 * v3) + v5) 42) (bn (v5 + 1) fun t_4 => (k61 v1 v2 v3 v4 t_4 x74 x75 x76 x77 x78 x101 x110 (upd x111 ((6 * v3) + v5).toNatClampNeg (x110 ((6 * v1) + v5).toNatClampNeg)) x112 y99 y100))))
def fX12_look_61   (x79 : Nat → Int32) (x80 : Nat → Int32) (x81 : Nat → Int32) (x82 : Nat → Int32) (x83 : Nat → Int32) (x84 : Nat → Int32) (x85 : Nat → Int32) (x92 : Nat → Int32) (x93 : Nat → Int32) (x94 : Nat → Int32) (x95 : Nat → Int32) (x96 : Nat → Int32) (x97 : Nat → Int32)  (k40 : Int32 → Int32 → Int32 → Int32 → (Nat → Int32) → (Nat → Int32) → (Nat → Int32) → (Nat → Int32) → (Nat → Int32) → (Nat → Int32) → (Nat → Int32) → (Nat → Int32) → (Nat → Int32) → (Nat → Int64) → (Nat → Int64) → Option (Int32 × (Nat → Int32) × (Nat → Int32) × (Nat → Int32) × (Nat → Int32) × (Nat → Int32) × (Nat → Int32) × (Nat → Int32) × (Nat → Int32) × (Nat → Int32) × (Nat → Int64) × (Nat → Int64))) : Int32 → Int32 → Int32 → Int32 → Int32 → (Nat → Int32) → (Nat → Int32) → (Nat → Int32) → (Nat → Int32) → (Nat → Int32) → (Nat → Int32) → (Nat → Int32) → (Nat → Int32) → (Nat → Int32) → (Nat → Int64) → (Nat → Int64) → Option (Int32 × (Nat → Int32) × (Nat → Int32) × (Nat → Int32) × (Nat → Int32) × (Nat → Int32) × (Nat → Int32) × (Nat → Int32) × (Nat → Int32) × (Nat → Int32) × (Nat → Int64) × (Nat → Int64)) := lq16 (fX12_look_61b x79 x80 x81 x82 x83 x84 x85 x92 x93 x94 x95 x96 x97 k40) 5000
set_option maxHeartbeats 4000000 in
set_option maxRecDepth 100000 in
theorem wX12_look_61 {l : Launch} {b0 : Nat} {D : GD} {K : KT} {n : Nat} {κ : QT} {X0 : XT} {Y0 : YT} {Z : ZT} (hL : LY n κ) (hN : ([74, 75, 76, 77, 78, 79, 80, 81, 82, 83, 84, 85, 92, 93, 94, 95, 96, 97, 101, 110, 111, 112] : List Nat).Nodup) (hM : ([99, 100] : List Nat).Nodup) (hC : gC l b0 D K RX12 cX12_look (some FieldType.int) 6 8 189 0 0) {x79 : Nat → Int32} {x80 : Nat → Int32} {x81 : Nat → Int32} {x82 : Nat → Int32} {x83 : Nat → Int32} {x84 : Nat → Int32} {x85 : Nat → Int32} {x92 : Nat → Int32} {x93 : Nat → Int32} {x94 : Nat → Int32} {x95 : Nat → Int32} {x96 : Nat → Int32} {x97 : Nat → Int32} {r : Int32} {rx74 : (Nat → Int32)} {rx75 : (Nat → Int32)} {rx76 : (Nat → Int32)} {rx77 : (Nat → Int32)} {rx78 : (Nat → Int32)} {rx101 : (Nat → Int32)} {rx110 : (Nat → Int32)} {rx111 : (Nat → Int32)} {rx112 : (Nat → Int32)} {ry99 : (Nat → Int64)} {ry100 : (Nat → Int64)} (hret : ∀ pc loc, narrow .int (.int r) = .int r → decode cX12_look pc = .ok (.ireturn, 1) → gV l b0 D K (n, κ, ov X0 [74, 75, 76, 77, 78, 79, 80, 81, 82, 83, 84, 85, 92, 93, 94, 95, 96, 97, 101, 110, 111, 112] [rx74, rx75, rx76, rx77, rx78, x79, x80, x81, x82, x83, x84, x85, x92, x93, x94, x95, x96, x97, rx101, rx110, rx111, rx112], ov Y0 [99, 100] [ry99, ry100], Z, 0, 0) pc loc [.int r]) {k40 : Int32 → Int32 → Int32 → Int32 → (Nat → Int32) → (Nat → Int32) → (Nat → Int32) → (Nat → Int32) → (Nat → Int32) → (Nat → Int32) → (Nat → Int32) → (Nat → Int32) → (Nat → Int32) → (Nat → Int64) → (Nat → Int64) → Option (Int32 × (Nat → Int32) × (Nat → Int32) × (Nat → Int32) × (Nat → Int32) × (Nat → Int32) × (Nat → Int32) × (Nat → Int32) × (Nat → Int32) × (Nat → Int32) × (Nat → Int64) × (Nat → Int64))} (hk40 : ∀ (v1 : Int32) (v2 : Int32) (v3 : Int32) (v4 : Int32) (x74 : (Nat → Int32)) (x75 : (Nat → Int32)) (x76 : (Nat → Int32)) (x77 : (Nat → Int32)) (x78 : (Nat → Int32)) (x101 : (Nat → Int32)) (x110 : (Nat → Int32)) (x111 : (Nat → Int32)) (x112 : (Nat → Int32)) (y99 : (Nat → Int64)) (y100 : (Nat → Int64)), k40 v1 v2 v3 v4 x74 x75 x76 x77 x78 x101 x110 x111 x112 y99 y100 = some (r, rx74, rx75, rx76, rx77, rx78, rx101, rx110, rx111, rx112, ry99, ry100) → gV l b0 D K (n, κ, ov X0 [74, 75, 76, 77, 78, 79, 80, 81, 82, 83, 84, 85, 92, 93, 94, 95, 96, 97, 101, 110, 111, 112] [x74, x75, x76, x77, x78, x79, x80, x81, x82, x83, x84, x85, x92, x93, x94, x95, x96, x97, x101, x110, x111, x112], ov Y0 [99, 100] [y99, y100], Z, 0, 0) 40 [(0, .ref (b0 + 74)), (1, .int v1), (2, .int v2), (3, .int v3), (4, .int v4)] []) : ∀ (j : Nat) (v1 : Int32) (v2 : Int32) (v3 : Int32) (v4 : Int32) (v5 : Int32) (x74 : (Nat → Int32)) (x75 : (Nat → Int32)) (x76 : (Nat → Int32)) (x77 : (Nat → Int32)) (x78 : (Nat → Int32)) (x101 : (Nat → Int32)) (x110 : (Nat → Int32)) (x111 : (Nat → Int32)) (x112 : (Nat → Int32)) (y99 : (Nat → Int64)) (y100 : (Nat → Int64)), lq16 (fX12_look_61b x79 x80 x81 x82 x83 x84 x85 x92 x93 x94 x95 x96 x97 k40) j v1 v2 v3 v4 v5 x74 x75 x76 x77 x78 x101 x110 x111 x112 y99 y100 = some (r, rx74, rx75, rx76, rx77, rx78, rx101, rx110, rx111, rx112, ry99, ry100) → gV l b0 D K (n, κ, ov X0 [74, 75, 76, 77, 78, 79, 80, 81, 82, 83, 84, 85, 92, 93, 94, 95, 96, 97, 101, 110, 111, 112] [x74, x75, x76, x77, x78, x79, x80, x81, x82, x83, x84, x85, x92, x93, x94, x95, x96, x97, x101, x110, x111, x112], ov Y0 [99, 100] [y99, y100], Z, 0, 0) 61 [(0, .ref (b0 + 74)), (1, .int v1), (2, .int v2), (3, .int v3), (4, .int v4), (5, .int v5)] [] := by
  intro j
  induction j with
  | zero => intro v1 v2 v3 v4 v5 x74 x75 x76 x77 x78 x101 x110 x111 x112 y99 y100 hf; cases hf
  | succ j hk61 =>
    intro v1 v2 v3 v4 v5 x74 x75 x76 x77 x78 x101 x110 x111 x112 y99 y100 hf
    replace hf : fX12_look_61b x79 x80 x81 x82 x83 x84 x85 x92 x93 x94 x95 x96 x97 k40 (lq16 (fX12_look_61b x79 x80 x81 x82 x83 x84 x85 x92 x93 x94 x95 x96 x97 k40) j) v1 v2 v3 v4 v5 x74 x75 x76 x77 x78 x101 x110 x111 x112 y99 y100 = some (r, rx74, rx75, rx76, rx77, rx78, rx101, rx110, rx111, rx112, ry99, ry100) := hf
    unfold fX12_look_61b at hf
    refine g_iload hC 5 dX12_look_61 rfl ?_
    refine g_bipush hC (v := 6) dX12_look_63 bp_6 ?_
    refine g_icmp_ge hC 98 dX12_look_65 (by decide) (fun hc => ?_) (fun hc => ?_)
    · replace hf := ifT hf hc
      obtain ⟨t_1, et_1, hf⟩ := bnE hf
      refine g_iinc hC (i := 3) (v := t_1) [(3, .int t_1), (0, .ref (b0 + 74)), (1, .int v1), (2, .int v2), (4, .int v4), (5, .int v5)] dX12_look_98 (q := 3) rfl ((congrArg (HAdd.hAdd v3) ic_1).trans et_1.symm) (by decide) rfl ?_
      exact g_sub [1, 2, 3, 0, 4] rfl (wX12_look_101 hL hN hM hC  hret hk40 hf)
    · replace hf := ifF hf hc
      refine g_aload_n hC 0 dX12_look_68 rfl rfl ?_
      refine gt_X12_130 hC (a := 74) (kk_74 hL) (kn_74 hL) dX12_look_69 ?_
      refine g_ref (b := 111) rfl ?_
      refine g_bipush hC (v := 6) dX12_look_72 bp_6 ?_
      refine g_iload_n hC 3 dX12_look_74 rfl rfl ?_
      refine g_imul hC dX12_look_75 ?_
      refine g_iload hC 5 dX12_look_76 rfl ?_
      refine g_iadd hC dX12_look_78 ?_
      refine g_aload_n hC 0 dX12_look_79 rfl rfl ?_
      refine gt_X12_127 hC (a := 74) (kk_74 hL) (kn_74 hL) dX12_look_80 ?_
      refine g_ref (b := 110) rfl ?_
      refine g_bipush hC (v := 6) dX12_look_83 bp_6 ?_
      refine g_iload_n hC 1 dX12_look_85 rfl rfl ?_
      refine g_imul hC dX12_look_86 ?_
      refine g_iload hC 5 dX12_look_87 rfl ?_
      refine g_iadd hC dX12_look_89 ?_
      obtain ⟨h_2, hf⟩ := gdE hf
      refine g_iald hC (x := x110) (kk_110 hL) (kn_110 hL) (ov_get hN 19 rfl rfl) (inb_in h_2) dX12_look_90 ?_
      obtain ⟨h_3, hf⟩ := gdE hf
      refine g_iast hC (x := x111) (kk_111 hL) (kn_111 hL) (ov_get hN 20 rfl rfl) (inb_in h_3) (ov_set hN (by rfl) 20 (by rfl)) dX12_look_91 ?_
      show gV l b0 D K (n, κ, ov X0 [74, 75, 76, 77, 78, 79, 80, 81, 82, 83, 84, 85, 92, 93, 94, 95, 96, 97, 101, 110, 111, 112] [x74, x75, x76, x77, x78, x79, x80, x81, x82, x83, x84, x85, x92, x93, x94, x95, x96, x97, x101, x110, (upd x111 ((6 * v3) + v5).toNatClampNeg (x110 ((6 * v1) + v5).toNatClampNeg)), x112], ov Y0 [99, 100] [y99, y100], Z, 0, 0) 92 [(0, .ref (b0 + 74)), (1, .int v1), (2, .int v2), (3, .int v3), (4, .int v4), (5, .int v5)] []
      obtain ⟨t_4, et_4, hf⟩ := bnE hf
      refine g_iinc hC (i := 5) (v := t_4) [(5, .int t_4), (0, .ref (b0 + 74)), (1, .int v1), (2, .int v2), (3, .int v3), (4, .int v4)] dX12_look_92 (q := 5) rfl ((congrArg (HAdd.hAdd v5) ic_1).trans et_4.symm) (by decide) rfl ?_
      refine g_goto hC 61 dX12_look_95 (by decide) ?_
      exact g_sub [1, 2, 3, 4, 5, 0] rfl (hk61 v1 v2 v3 v4 t_4 x74 x75 x76 x77 x78 x101 x110 (upd x111 ((6 * v3) + v5).toNatClampNeg (x110 ((6 * v1) + v5).toNatClampNeg)) x112 y99 y100 hf)

def fX12_look_40b   (x79 : Nat → Int32) (x80 : Nat → Int32) (x81 : Nat → Int32) (x82 : Nat → Int32) (x83 : Nat → Int32) (x84 : Nat → Int32) (x85 : Nat → Int32) (x92 : Nat → Int32) (x93 : Nat → Int32) (x94 : Nat → Int32) (x95 : Nat → Int32) (x96 : Nat → Int32) (x97 : Nat → Int32)  (k40 : Int32 → Int32 → Int32 → Int32 → (Nat → Int32) → (Nat → Int32) → (Nat → Int32) → (Nat → Int32) → (Nat → Int32) → (Nat → Int32) → (Nat → Int32) → (Nat → Int32) → (Nat → Int32) → (Nat → Int64) → (Nat → Int64) → Option (Int32 × (Nat → Int32) × (Nat → Int32) × (Nat → Int32) × (Nat → Int32) × (Nat → Int32) × (Nat → Int32) × (Nat → Int32) × (Nat → Int32) × (Nat → Int32) × (Nat → Int64) × (Nat → Int64))) (v1 : Int32) (v2 : Int32) (v3 : Int32) (v4 : Int32) (x74 : (Nat → Int32)) (x75 : (Nat → Int32)) (x76 : (Nat → Int32)) (x77 : (Nat → Int32)) (x78 : (Nat → Int32)) (x101 : (Nat → Int32)) (x110 : (Nat → Int32)) (x111 : (Nat → Int32)) (x112 : (Nat → Int32)) (y99 : (Nat → Int64)) (y100 : (Nat → Int64)) : Option (Int32 × (Nat → Int32) × (Nat → Int32) × (Nat → Int32) × (Nat → Int32) × (Nat → Int32) × (Nat → Int32) × (Nat → Int32) × (Nat → Int32) × (Nat → Int32) × (Nat → Int64) × (Nat → Int64)) := if (x74 21) ≤ v4 then (if v3 = 0 then (some ((-2), x74, x75, x76, x77, x78, x101, x110, x111, x112, y99, y100)) else (gd (inb 4 11) (if (x75 (4 : Int32).toNatClampNeg) = 0 then (some ((-2), x74, x75, x76, x77, x78, x101, x110, x111, x112, y99, y100)) else (fX12_look_129 x79 x80 x81 x82 x83 x84 x85 x92 x93 x94 x95 x96 x97  v2 v3 0 1 x74 x75 x76 x77 x78 x101 x110 x111 x112 y99 y100)))) else (bd11 (fX12_couldRule x79 x80 x81 x82 x83 x84 x85 x92 x93 x94 x95 x96 x97 v4 x74 x75 x76 x77 x78 x101 x110 x112 y99 y100) fun r_2 x74_3 x75_4 x76_5 x77_6 x78_7 x101_8 x110_9 x112_10 y99_11 y100_12 => (if r_2 = 0 then (fX12_look_101 x79 x80 x81 x82 x83 x84 x85 x92 x93 x94 x95 x96 x97 k40 v1 v2 v3 v4 x74_3 x75_4 x76_5 x77_6 x78_7 x101_8 x110_9 x111 x112_10 y99_11 y100_12) else (fX12_look_61 x79 x80 x81 x82 x83 x84 x85 x92 x93 x94 x95 x96 x97 k40 v1 v2 v3 v4 0 x74_3 x75_4 x76_5 x77_6 x78_7 x101_8 x110_9 x111 x112_10 y99_11 y100_12)))
def fX12_look_40   (x79 : Nat → Int32) (x80 : Nat → Int32) (x81 : Nat → Int32) (x82 : Nat → Int32) (x83 : Nat → Int32) (x84 : Nat → Int32) (x85 : Nat → Int32) (x92 : Nat → Int32) (x93 : Nat → Int32) (x94 : Nat → Int32) (x95 : Nat → Int32) (x96 : Nat → Int32) (x97 : Nat → Int32)  : Int32 → Int32 → Int32 → Int32 → (Nat → Int32) → (Nat → Int32) → (Nat → Int32) → (Nat → Int32) → (Nat → Int32) → (Nat → Int32) → (Nat → Int32) → (Nat → Int32) → (Nat → Int32) → (Nat → Int64) → (Nat → Int64) → Option (Int32 × (Nat → Int32) × (Nat → Int32) × (Nat → Int32) × (Nat → Int32) × (Nat → Int32) × (Nat → Int32) × (Nat → Int32) × (Nat → Int32) × (Nat → Int32) × (Nat → Int64) × (Nat → Int64)) := lq15 (fX12_look_40b x79 x80 x81 x82 x83 x84 x85 x92 x93 x94 x95 x96 x97 ) 5000
set_option maxHeartbeats 4000000 in
set_option maxRecDepth 100000 in
theorem wX12_look_40 {l : Launch} {b0 : Nat} {D : GD} {K : KT} {n : Nat} {κ : QT} {X0 : XT} {Y0 : YT} {Z : ZT} (hL : LY n κ) (hN : ([74, 75, 76, 77, 78, 79, 80, 81, 82, 83, 84, 85, 92, 93, 94, 95, 96, 97, 101, 110, 111, 112] : List Nat).Nodup) (hM : ([99, 100] : List Nat).Nodup) (hC : gC l b0 D K RX12 cX12_look (some FieldType.int) 6 8 189 0 0) {x79 : Nat → Int32} {x80 : Nat → Int32} {x81 : Nat → Int32} {x82 : Nat → Int32} {x83 : Nat → Int32} {x84 : Nat → Int32} {x85 : Nat → Int32} {x92 : Nat → Int32} {x93 : Nat → Int32} {x94 : Nat → Int32} {x95 : Nat → Int32} {x96 : Nat → Int32} {x97 : Nat → Int32} {r : Int32} {rx74 : (Nat → Int32)} {rx75 : (Nat → Int32)} {rx76 : (Nat → Int32)} {rx77 : (Nat → Int32)} {rx78 : (Nat → Int32)} {rx101 : (Nat → Int32)} {rx110 : (Nat → Int32)} {rx111 : (Nat → Int32)} {rx112 : (Nat → Int32)} {ry99 : (Nat → Int64)} {ry100 : (Nat → Int64)} (hret : ∀ pc loc, narrow .int (.int r) = .int r → decode cX12_look pc = .ok (.ireturn, 1) → gV l b0 D K (n, κ, ov X0 [74, 75, 76, 77, 78, 79, 80, 81, 82, 83, 84, 85, 92, 93, 94, 95, 96, 97, 101, 110, 111, 112] [rx74, rx75, rx76, rx77, rx78, x79, x80, x81, x82, x83, x84, x85, x92, x93, x94, x95, x96, x97, rx101, rx110, rx111, rx112], ov Y0 [99, 100] [ry99, ry100], Z, 0, 0) pc loc [.int r]) : ∀ (j : Nat) (v1 : Int32) (v2 : Int32) (v3 : Int32) (v4 : Int32) (x74 : (Nat → Int32)) (x75 : (Nat → Int32)) (x76 : (Nat → Int32)) (x77 : (Nat → Int32)) (x78 : (Nat → Int32)) (x101 : (Nat → Int32)) (x110 : (Nat → Int32)) (x111 : (Nat → Int32)) (x112 : (Nat → Int32)) (y99 : (Nat → Int64)) (y100 : (Nat → Int64)), lq15 (fX12_look_40b x79 x80 x81 x82 x83 x84 x85 x92 x93 x94 x95 x96 x97 ) j v1 v2 v3 v4 x74 x75 x76 x77 x78 x101 x110 x111 x112 y99 y100 = some (r, rx74, rx75, rx76, rx77, rx78, rx101, rx110, rx111, rx112, ry99, ry100) → gV l b0 D K (n, κ, ov X0 [74, 75, 76, 77, 78, 79, 80, 81, 82, 83, 84, 85, 92, 93, 94, 95, 96, 97, 101, 110, 111, 112] [x74, x75, x76, x77, x78, x79, x80, x81, x82, x83, x84, x85, x92, x93, x94, x95, x96, x97, x101, x110, x111, x112], ov Y0 [99, 100] [y99, y100], Z, 0, 0) 40 [(0, .ref (b0 + 74)), (1, .int v1), (2, .int v2), (3, .int v3), (4, .int v4)] [] := by
  intro j
  induction j with
  | zero => intro v1 v2 v3 v4 x74 x75 x76 x77 x78 x101 x110 x111 x112 y99 y100 hf; cases hf
  | succ j hk40 =>
    intro v1 v2 v3 v4 x74 x75 x76 x77 x78 x101 x110 x111 x112 y99 y100 hf
    replace hf : fX12_look_40b x79 x80 x81 x82 x83 x84 x85 x92 x93 x94 x95 x96 x97  (lq15 (fX12_look_40b x79 x80 x81 x82 x83 x84 x85 x92 x93 x94 x95 x96 x97 ) j) v1 v2 v3 v4 x74 x75 x76 x77 x78 x101 x110 x111 x112 y99 y100 = some (r, rx74, rx75, rx76, rx77, rx78, rx101, rx110, rx111, rx112, ry99, ry100) := hf
    unfold fX12_look_40b at hf
    refine g_iload hC 4 dX12_look_40 rfl ?_
    refine g_aload_n hC 0 dX12_look_42 rfl rfl ?_
    refine gt_X12_333 hC (x := x74) (kk_74 hL) (kn_74 hL) (ov_get hN 0 rfl rfl) dX12_look_43 ?_
    refine g_icmp_ge hC 107 dX12_look_46 (by decide) (fun hc => ?_) (fun hc => ?_)
    · replace hf := ifT hf hc
      refine g_iload_n hC 3 dX12_look_107 rfl rfl ?_
      refine g_if_eq hC 120 dX12_look_108 (by decide) (fun hc => ?_) (fun hc => ?_)
      · replace hf := ifT hf hc
        refine g_bipush hC (v := (-2)) dX12_look_120 bp_m2 ?_
        obtain ⟨rfl, rfl, rfl, rfl, rfl, rfl, rfl, rfl, rfl, rfl, rfl, rfl⟩ := sm12E hf
        exact hret _ _ rfl dX12_look_122
      · replace hf := ifF hf hc
        refine g_aload_n hC 0 dX12_look_111 rfl rfl ?_
        refine gt_X12_9 hC (a := 74) (kk_74 hL) (kn_74 hL) dX12_look_112 ?_
        refine g_ref (b := 75) rfl ?_
        refine g_iconst hC (v := 4) dX12_look_115 ic_4 ?_
        obtain ⟨h_1, hf⟩ := gdE hf
        refine g_iald hC (x := x75) (kk_75 hL) (kn_75 hL) (ov_get hN 1 rfl rfl) (inb_in h_1) dX12_look_116 ?_
        refine g_if_ne hC 123 dX12_look_117 (by decide) (fun hc => ?_) (fun hc => ?_)
        · replace hf := ifF hf hc
          refine g_iconst hC (v := 0) dX12_look_123 ic_0 ?_
          refine g_istore hC (i := 4) [(4, .int 0), (0, .ref (b0 + 74)), (1, .int v1), (2, .int v2), (3, .int v3)] dX12_look_124 (by decide) rfl ?_
          refine g_iconst hC (v := 1) dX12_look_126 ic_1 ?_
          refine g_istore hC (i := 5) [(5, .int 1), (4, .int 0), (0, .ref (b0 + 74)), (1, .int v1), (2, .int v2), (3, .int v3)] dX12_look_127 (by decide) rfl ?_
          exact g_sub [2, 4, 5, 1, 0] rfl (wX12_look_129 hL hN hM hC  hret  5000 v2 v3 0 1 x74 x75 x76 x77 x78 x101 x110 x111 x112 y99 y100 hf)
        · replace hf := ifT hf hc
          refine g_bipush hC (v := (-2)) dX12_look_120 bp_m2 ?_
          obtain ⟨rfl, rfl, rfl, rfl, rfl, rfl, rfl, rfl, rfl, rfl, rfl, rfl⟩ := sm12E hf
          exact hret _ _ rfl dX12_look_122
    · replace hf := ifF hf hc
      refine g_aload_n hC 0 dX12_look_49 rfl rfl ?_
      refine g_iload hC 4 dX12_look_50 rfl ?_
      obtain ⟨r_2, x74_3, x75_4, x76_5, x77_6, x78_7, x101_8, x110_9, x112_10, y99_11, y100_12, q_13, hf⟩ := bd11E hf
      refine g_callV_i (a := 74) hC (X' := ov X0 [74, 75, 76, 77, 78, 79, 80, 81, 82, 83, 84, 85, 92, 93, 94, 95, 96, 97, 101, 110, 111, 112] [x74_3, x75_4, x76_5, x77_6, x78_7, x79, x80, x81, x82, x83, x84, x85, x92, x93, x94, x95, x96, x97, x101_8, x110_9, x111, x112_10]) (Y' := ov Y0 [99, 100] [y99_11, y100_12]) (As := [.int v4]) (gMi_eq (c_X12_couldRule l hL (ov_map hN [0, 1, 2, 3, 4, 5, 6, 7, 8, 9, 10, 11, 12, 13, 14, 15, 16, 17, 18, 19, 21] (by rfl) (by rfl)) (ov_map hM [0, 1] (by rfl) (by rfl)) q_13) (ov_ovE hN (by rfl) [0, 1, 2, 3, 4, 5, 6, 7, 8, 9, 10, 11, 12, 13, 14, 15, 16, 17, 18, 19, 21] [20] (by rfl) (by rfl) [x111] (by rfl) (by rfl) (by rfl) 22 (by rfl) (by decide)) (ov_ovE hM (by rfl) [0, 1] [] (by rfl) (by rfl) [] (by rfl) (by rfl) (by rfl) 2 (by rfl) (by decide))) tw_1787 tw_1784 tw_127 tw_1786 tw_112 (ci := 12) rfl (by decide) (kk_74 hL) (kn_74 hL) pd_X12_couldRule (by decide) (by decide) rfl rfl (Nat.le_of_ble_eq_true rfl) rfl dX12_look_52 ?_
      refine g_if_eq hC 101 dX12_look_55 (by decide) (fun hc => ?_) (fun hc => ?_)
      · replace hf := ifT hf hc
        exact g_sub [0, 1, 2, 3, 4] rfl (wX12_look_101 hL hN hM hC  hret hk40 hf)
      · replace hf := ifF hf hc
        refine g_iconst hC (v := 0) dX12_look_58 ic_0 ?_
        refine g_istore hC (i := 5) [(5, .int 0), (0, .ref (b0 + 74)), (1, .int v1), (2, .int v2), (3, .int v3), (4, .int v4)] dX12_look_59 (by decide) rfl ?_
        exact g_sub [1, 2, 3, 4, 5, 0] rfl (wX12_look_61 hL hN hM hC  hret hk40 5000 v1 v2 v3 v4 0 x74_3 x75_4 x76_5 x77_6 x78_7 x101_8 x110_9 x111 x112_10 y99_11 y100_12 hf)

def fX12_look_0   (x79 : Nat → Int32) (x80 : Nat → Int32) (x81 : Nat → Int32) (x82 : Nat → Int32) (x83 : Nat → Int32) (x84 : Nat → Int32) (x85 : Nat → Int32) (x92 : Nat → Int32) (x93 : Nat → Int32) (x94 : Nat → Int32) (x95 : Nat → Int32) (x96 : Nat → Int32) (x97 : Nat → Int32)  (v1 : Int32) (v2 : Int32) (x74 : (Nat → Int32)) (x75 : (Nat → Int32)) (x76 : (Nat → Int32)) (x77 : (Nat → Int32)) (x78 : (Nat → Int32)) (x101 : (Nat → Int32)) (x110 : (Nat → Int32)) (x111 : (Nat → Int32)) (x112 : (Nat → Int32)) (y99 : (Nat → Int64)) (y100 : (Nat → Int64)) : Option (Int32 × (Nat → Int32) × (Nat → Int32) × (Nat → Int32) × (Nat → Int32) × (Nat → Int32) × (Nat → Int32) × (Nat → Int32) × (Nat → Int32) × (Nat → Int32) × (Nat → Int64) × (Nat → Int64)) := bd1 (fX12_isTown x75) fun r_1 => (if r_1 = 0 then (some ((-1), x74, x75, x76, x77, x78, x101, x110, x111, x112, y99, y100)) else (bd1 (fX12_in v1.toInt64 0 60) fun r_3 => (if r_3 = 0 then (some ((-1), x74, x75, x76, x77, x78, x101, x110, x111, x112, y99, y100)) else (bd1 (fX12_in v2.toInt64 0 1) fun r_5 => (if r_5 = 0 then (some ((-1), x74, x75, x76, x77, x78, x101, x110, x111, x112, y99, y100)) else (bd6 (fX12_keepsAll x74 x75 x76 x77 x78 x112) fun x74_7 x75_8 x76_9 x77_10 x78_11 x112_12 => (fX12_look_40 x79 x80 x81 x82 x83 x84 x85 x92 x93 x94 x95 x96 x97  v1 v2 0 (-1) x74_7 x75_8 x76_9 x77_10 x78_11 x101 x110 x111 x112_12 y99 y100)))))))
set_option maxHeartbeats 4000000 in
set_option maxRecDepth 100000 in
theorem wX12_look_0 {l : Launch} {b0 : Nat} {D : GD} {K : KT} {n : Nat} {κ : QT} {X0 : XT} {Y0 : YT} {Z : ZT} (hL : LY n κ) (hN : ([74, 75, 76, 77, 78, 79, 80, 81, 82, 83, 84, 85, 92, 93, 94, 95, 96, 97, 101, 110, 111, 112] : List Nat).Nodup) (hM : ([99, 100] : List Nat).Nodup) (hC : gC l b0 D K RX12 cX12_look (some FieldType.int) 6 8 189 0 0) {x79 : Nat → Int32} {x80 : Nat → Int32} {x81 : Nat → Int32} {x82 : Nat → Int32} {x83 : Nat → Int32} {x84 : Nat → Int32} {x85 : Nat → Int32} {x92 : Nat → Int32} {x93 : Nat → Int32} {x94 : Nat → Int32} {x95 : Nat → Int32} {x96 : Nat → Int32} {x97 : Nat → Int32} {r : Int32} {rx74 : (Nat → Int32)} {rx75 : (Nat → Int32)} {rx76 : (Nat → Int32)} {rx77 : (Nat → Int32)} {rx78 : (Nat → Int32)} {rx101 : (Nat → Int32)} {rx110 : (Nat → Int32)} {rx111 : (Nat → Int32)} {rx112 : (Nat → Int32)} {ry99 : (Nat → Int64)} {ry100 : (Nat → Int64)} (hret : ∀ pc loc, narrow .int (.int r) = .int r → decode cX12_look pc = .ok (.ireturn, 1) → gV l b0 D K (n, κ, ov X0 [74, 75, 76, 77, 78, 79, 80, 81, 82, 83, 84, 85, 92, 93, 94, 95, 96, 97, 101, 110, 111, 112] [rx74, rx75, rx76, rx77, rx78, x79, x80, x81, x82, x83, x84, x85, x92, x93, x94, x95, x96, x97, rx101, rx110, rx111, rx112], ov Y0 [99, 100] [ry99, ry100], Z, 0, 0) pc loc [.int r]) {v1 : Int32} {v2 : Int32} {x74 : (Nat → Int32)} {x75 : (Nat → Int32)} {x76 : (Nat → Int32)} {x77 : (Nat → Int32)} {x78 : (Nat → Int32)} {x101 : (Nat → Int32)} {x110 : (Nat → Int32)} {x111 : (Nat → Int32)} {x112 : (Nat → Int32)} {y99 : (Nat → Int64)} {y100 : (Nat → Int64)} (hf : fX12_look_0 x79 x80 x81 x82 x83 x84 x85 x92 x93 x94 x95 x96 x97  v1 v2 x74 x75 x76 x77 x78 x101 x110 x111 x112 y99 y100 = some (r, rx74, rx75, rx76, rx77, rx78, rx101, rx110, rx111, rx112, ry99, ry100)) : gV l b0 D K (n, κ, ov X0 [74, 75, 76, 77, 78, 79, 80, 81, 82, 83, 84, 85, 92, 93, 94, 95, 96, 97, 101, 110, 111, 112] [x74, x75, x76, x77, x78, x79, x80, x81, x82, x83, x84, x85, x92, x93, x94, x95, x96, x97, x101, x110, x111, x112], ov Y0 [99, 100] [y99, y100], Z, 0, 0) 0 [(0, .ref (b0 + 74)), (1, .int v1), (2, .int v2)] [] := by
  unfold fX12_look_0 at hf
  refine g_aload_n hC 0 dX12_look_0 rfl rfl ?_
  obtain ⟨r_1, q_2, hf⟩ := bd1E hf
  refine g_callV_i (a := 74) hC (X' := ov X0 [74, 75, 76, 77, 78, 79, 80, 81, 82, 83, 84, 85, 92, 93, 94, 95, 96, 97, 101, 110, 111, 112] [x74, x75, x76, x77, x78, x79, x80, x81, x82, x83, x84, x85, x92, x93, x94, x95, x96, x97, x101, x110, x111, x112]) (Y' := ov Y0 [99, 100] [y99, y100]) (As := []) (gMi_eq (c_X12_isTown l hL (ov_map hN [1] (by rfl) (by rfl)) (ov_map hM [] (by rfl) (by rfl)) q_2) (ov_ovE hN (by rfl) [1] [0, 2, 3, 4, 5, 6, 7, 8, 9, 10, 11, 12, 13, 14, 15, 16, 17, 18, 19, 20, 21] (by rfl) (by rfl) [x74, x76, x77, x78, x79, x80, x81, x82, x83, x84, x85, x92, x93, x94, x95, x96, x97, x101, x110, x111, x112] (by rfl) (by rfl) (by rfl) 22 (by rfl) (by decide)) (ov_ovE hM (by rfl) [] [0, 1] (by rfl) (by rfl) [y99, y100] (by rfl) (by rfl) (by rfl) 2 (by rfl) (by decide))) tw_1585 tw_1582 tw_127 tw_1584 tw_84 (ci := 12) rfl (by decide) (kk_74 hL) (kn_74 hL) pd_X12_isTown (by decide) (by decide) rfl rfl (Nat.le_of_ble_eq_true rfl) rfl dX12_look_1 ?_
  refine g_if_eq hC 29 dX12_look_4 (by decide) (fun hc => ?_) (fun hc => ?_)
  · replace hf := ifT hf hc
    refine g_iconst hC (v := (-1)) dX12_look_29 ic_m1 ?_
    obtain ⟨rfl, rfl, rfl, rfl, rfl, rfl, rfl, rfl, rfl, rfl, rfl, rfl⟩ := sm12E hf
    exact hret _ _ rfl dX12_look_30
  · replace hf := ifF hf hc
    refine g_iload_n hC 1 dX12_look_7 rfl rfl ?_
    refine g_i2l hC dX12_look_8 ?_
    refine g_lconst hC (v := 0) dX12_look_9 rfl ?_
    refine g_ldc2_w hC (v := 60) tw_1719 dX12_look_10 ?_
    obtain ⟨r_3, q_4, hf⟩ := bd1E hf
    refine g_callS_i hC (X' := ov X0 [74, 75, 76, 77, 78, 79, 80, 81, 82, 83, 84, 85, 92, 93, 94, 95, 96, 97, 101, 110, 111, 112] [x74, x75, x76, x77, x78, x79, x80, x81, x82, x83, x84, x85, x92, x93, x94, x95, x96, x97, x101, x110, x111, x112]) (Y' := ov Y0 [99, 100] [y99, y100]) (As := [.long v1.toInt64, .long 0, .long 60]) (gMi_eq (c_X12_in l hL (ov_map hN [] (by rfl) (by rfl)) (ov_map hM [] (by rfl) (by rfl)) q_4) (ov_ovE hN (by rfl) [] [0, 1, 2, 3, 4, 5, 6, 7, 8, 9, 10, 11, 12, 13, 14, 15, 16, 17, 18, 19, 20, 21] (by rfl) (by rfl) [x74, x75, x76, x77, x78, x79, x80, x81, x82, x83, x84, x85, x92, x93, x94, x95, x96, x97, x101, x110, x111, x112] (by rfl) (by rfl) (by rfl) 22 (by rfl) (by decide)) (ov_ovE hM (by rfl) [] [0, 1] (by rfl) (by rfl) [y99, y100] (by rfl) (by rfl) (by rfl) 2 (by rfl) (by decide))) tw_1428 tw_1426 tw_127 tw_1427 pd_X12_in (by decide) (by decide) rfl rfl (Nat.le_of_ble_eq_true rfl) rfl dX12_look_13 ?_
    refine g_if_eq hC 29 dX12_look_16 (by decide) (fun hc => ?_) (fun hc => ?_)
    · replace hf := ifT hf hc
      refine g_iconst hC (v := (-1)) dX12_look_29 ic_m1 ?_
      obtain ⟨rfl, rfl, rfl, rfl, rfl, rfl, rfl, rfl, rfl, rfl, rfl, rfl⟩ := sm12E hf
      exact hret _ _ rfl dX12_look_30
    · replace hf := ifF hf hc
      refine g_iload_n hC 2 dX12_look_19 rfl rfl ?_
      refine g_i2l hC dX12_look_20 ?_
      refine g_lconst hC (v := 0) dX12_look_21 rfl ?_
      refine g_lconst hC (v := 1) dX12_look_22 rfl ?_
      obtain ⟨r_5, q_6, hf⟩ := bd1E hf
      refine g_callS_i hC (X' := ov X0 [74, 75, 76, 77, 78, 79, 80, 81, 82, 83, 84, 85, 92, 93, 94, 95, 96, 97, 101, 110, 111, 112] [x74, x75, x76, x77, x78, x79, x80, x81, x82, x83, x84, x85, x92, x93, x94, x95, x96, x97, x101, x110, x111, x112]) (Y' := ov Y0 [99, 100] [y99, y100]) (As := [.long v2.toInt64, .long 0, .long 1]) (gMi_eq (c_X12_in l hL (ov_map hN [] (by rfl) (by rfl)) (ov_map hM [] (by rfl) (by rfl)) q_6) (ov_ovE hN (by rfl) [] [0, 1, 2, 3, 4, 5, 6, 7, 8, 9, 10, 11, 12, 13, 14, 15, 16, 17, 18, 19, 20, 21] (by rfl) (by rfl) [x74, x75, x76, x77, x78, x79, x80, x81, x82, x83, x84, x85, x92, x93, x94, x95, x96, x97, x101, x110, x111, x112] (by rfl) (by rfl) (by rfl) 22 (by rfl) (by decide)) (ov_ovE hM (by rfl) [] [0, 1] (by rfl) (by rfl) [y99, y100] (by rfl) (by rfl) (by rfl) 2 (by rfl) (by decide))) tw_1428 tw_1426 tw_127 tw_1427 pd_X12_in (by decide) (by decide) rfl rfl (Nat.le_of_ble_eq_true rfl) rfl dX12_look_23 ?_
      refine g_if_ne hC 31 dX12_look_26 (by decide) (fun hc => ?_) (fun hc => ?_)
      · replace hf := ifF hf hc
        refine g_aload_n hC 0 dX12_look_31 rfl rfl ?_
        obtain ⟨x74_7, x75_8, x76_9, x77_10, x78_11, x112_12, q_13, hf⟩ := bd6E hf
        refine g_callV_v (a := 74) hC (X' := ov X0 [74, 75, 76, 77, 78, 79, 80, 81, 82, 83, 84, 85, 92, 93, 94, 95, 96, 97, 101, 110, 111, 112] [x74_7, x75_8, x76_9, x77_10, x78_11, x79, x80, x81, x82, x83, x84, x85, x92, x93, x94, x95, x96, x97, x101, x110, x111, x112_12]) (Y' := ov Y0 [99, 100] [y99, y100]) (As := []) (gMv_eq (c_X12_keepsAll l hL (ov_map hN [0, 1, 2, 3, 4, 21] (by rfl) (by rfl)) (ov_map hM [] (by rfl) (by rfl)) q_13) (ov_ovE hN (by rfl) [0, 1, 2, 3, 4, 21] [5, 6, 7, 8, 9, 10, 11, 12, 13, 14, 15, 16, 17, 18, 19, 20] (by rfl) (by rfl) [x79, x80, x81, x82, x83, x84, x85, x92, x93, x94, x95, x96, x97, x101, x110, x111] (by rfl) (by rfl) (by rfl) 22 (by rfl) (by decide)) (ov_ovE hM (by rfl) [] [0, 1] (by rfl) (by rfl) [y99, y100] (by rfl) (by rfl) (by rfl) 2 (by rfl) (by decide))) tw_1673 tw_1670 tw_127 tw_1672 tw_97 (ci := 12) rfl (by decide) (kk_74 hL) (kn_74 hL) pd_X12_keepsAll (by decide) (by decide) rfl rfl (Nat.le_of_ble_eq_true rfl) rfl dX12_look_32 ?_
        refine g_iconst hC (v := 0) dX12_look_35 ic_0 ?_
        refine g_istore_n hC (i := 3) [(3, .int 0), (0, .ref (b0 + 74)), (1, .int v1), (2, .int v2)] rfl dX12_look_36 (by decide) rfl ?_
        refine g_iconst hC (v := (-1)) dX12_look_37 ic_m1 ?_
        refine g_istore hC (i := 4) [(4, .int (-1)), (3, .int 0), (0, .ref (b0 + 74)), (1, .int v1), (2, .int v2)] dX12_look_38 (by decide) rfl ?_
        exact g_sub [2, 3, 4, 1, 0] rfl (wX12_look_40 hL hN hM hC  hret  5000 v1 v2 0 (-1) x74_7 x75_8 x76_9 x77_10 x78_11 x101 x110 x111 x112_12 y99 y100 hf)
      · replace hf := ifT hf hc
        refine g_iconst hC (v := (-1)) dX12_look_29 ic_m1 ?_
        obtain ⟨rfl, rfl, rfl, rfl, rfl, rfl, rfl, rfl, rfl, rfl, rfl, rfl⟩ := sm12E hf
        exact hret _ _ rfl dX12_look_30

def fX12_look   (x79 : Nat → Int32) (x80 : Nat → Int32) (x81 : Nat → Int32) (x82 : Nat → Int32) (x83 : Nat → Int32) (x84 : Nat → Int32) (x85 : Nat → Int32) (x92 : Nat → Int32) (x93 : Nat → Int32) (x94 : Nat → Int32) (x95 : Nat → Int32) (x96 : Nat → Int32) (x97 : Nat → Int32)  (v1 : Int32) (v2 : Int32) (x74 : Nat → Int32) (x75 : Nat → Int32) (x76 : Nat → Int32) (x77 : Nat → Int32) (x78 : Nat → Int32) (x101 : Nat → Int32) (x110 : Nat → Int32) (x111 : Nat → Int32) (x112 : Nat → Int32) (y99 : Nat → Int64) (y100 : Nat → Int64) : Option (Int32 × (Nat → Int32) × (Nat → Int32) × (Nat → Int32) × (Nat → Int32) × (Nat → Int32) × (Nat → Int32) × (Nat → Int32) × (Nat → Int32) × (Nat → Int32) × (Nat → Int64) × (Nat → Int64)) := fX12_look_0 x79 x80 x81 x82 x83 x84 x85 x92 x93 x94 x95 x96 x97 v1 v2 x74 x75 x76 x77 x78 x101 x110 x111 x112 y99 y100

set_option maxHeartbeats 4000000 in
set_option maxRecDepth 100000 in
theorem c_X12_look (l : Launch) {b0 : Nat} {D : GD} {n : Nat} {κ : QT} {X0 : XT} {Y0 : YT} {Z : ZT} (hL : LY n κ) {x74 : Nat → Int32} {x75 : Nat → Int32} {x76 : Nat → Int32} {x77 : Nat → Int32} {x78 : Nat → Int32} {x79 : Nat → Int32} {x80 : Nat → Int32} {x81 : Nat → Int32} {x82 : Nat → Int32} {x83 : Nat → Int32} {x84 : Nat → Int32} {x85 : Nat → Int32} {x92 : Nat → Int32} {x93 : Nat → Int32} {x94 : Nat → Int32} {x95 : Nat → Int32} {x96 : Nat → Int32} {x97 : Nat → Int32} {x101 : Nat → Int32} {x110 : Nat → Int32} {x111 : Nat → Int32} {x112 : Nat → Int32} {y99 : Nat → Int64} {y100 : Nat → Int64} (hx : ([74, 75, 76, 77, 78, 79, 80, 81, 82, 83, 84, 85, 92, 93, 94, 95, 96, 97, 101, 110, 111, 112] : List Nat).map X0 = [x74, x75, x76, x77, x78, x79, x80, x81, x82, x83, x84, x85, x92, x93, x94, x95, x96, x97, x101, x110, x111, x112]) (hy : ([99, 100] : List Nat).map Y0 = [y99, y100]) {v1 : Int32} {v2 : Int32} {r : Int32} {rx74 : (Nat → Int32)} {rx75 : (Nat → Int32)} {rx76 : (Nat → Int32)} {rx77 : (Nat → Int32)} {rx78 : (Nat → Int32)} {rx101 : (Nat → Int32)} {rx110 : (Nat → Int32)} {rx111 : (Nat → Int32)} {rx112 : (Nat → Int32)} {ry99 : (Nat → Int64)} {ry100 : (Nat → Int64)} (hf : fX12_look x79 x80 x81 x82 x83 x84 x85 x92 x93 x94 x95 x96 x97 v1 v2 x74 x75 x76 x77 x78 x101 x110 x111 x112 y99 y100 = some (r, rx74, rx75, rx76, rx77, rx78, rx101, rx110, rx111, rx112, ry99, ry100)) : gMi l yX12_look cX12_look 6 (some FieldType.int) 8 189 0 0 b0 D [.ref (b0 + 74), .int v1, .int v2] (n, κ, X0, Y0, Z) (n, κ, ov X0 [74, 75, 76, 77, 78, 79, 80, 81, 82, 83, 84, 85, 92, 93, 94, 95, 96, 97, 101, 110, 111, 112] [rx74, rx75, rx76, rx77, rx78, x79, x80, x81, x82, x83, x84, x85, x92, x93, x94, x95, x96, x97, rx101, rx110, rx111, rx112], ov Y0 [99, 100] [ry99, ry100], Z) r := by
  have hN : ([74, 75, 76, 77, 78, 79, 80, 81, 82, 83, 84, 85, 92, 93, 94, 95, 96, 97, 101, 110, 111, 112] : List Nat).Nodup := by decide
  have hM : ([99, 100] : List Nat).Nodup := by decide
  refine g_meti (own := RX12) (by decide) rfl rfl (Nat.le_of_ble_eq_true rfl) ?_
  intro K hC hret
  have e := wX12_look_0 hL hN hM hC  hret hf
  rw [ov_id' hx, ov_id' hy] at e
  exact g_sub [0, 1, 2] rfl e

-- X12_seed
def fX12_seed_0     (v1 : Int32) (x75 : (Nat → Int32)) : Option (Int32 × (Nat → Int32)) := if 0 ≤ v1 then (gd (inb 9 11) (bn (x75 (9 : Int32).toNatClampNeg) fun t_2 => (gd (inb 9 11) (some (t_2, (upd x75 (9 : Int32).toNatClampNeg v1)))))) else (some ((-1), x75))
set_option maxHeartbeats 4000000 in
set_option maxRecDepth 100000 in
theorem wX12_seed_0 {l : Launch} {b0 : Nat} {D : GD} {K : KT} {n : Nat} {κ : QT} {X0 : XT} {Y0 : YT} {Z : ZT} (hL : LY n κ) (hN : ([75] : List Nat).Nodup) (hM : ([] : List Nat).Nodup) (hC : gC l b0 D K RX12 cX12_seed (some FieldType.int) 3 0 0 0 0) {r : Int32} {rx75 : (Nat → Int32)} (hret : ∀ pc loc, narrow .int (.int r) = .int r → decode cX12_seed pc = .ok (.ireturn, 1) → gV l b0 D K (n, κ, ov X0 [75] [rx75], ov Y0 [] [], Z, 0, 0) pc loc [.int r]) {v1 : Int32} {x75 : (Nat → Int32)} (hf : fX12_seed_0   v1 x75 = some (r, rx75)) : gV l b0 D K (n, κ, ov X0 [75] [x75], ov Y0 [] [], Z, 0, 0) 0 [(0, .ref (b0 + 74)), (1, .int v1)] [] := by
  unfold fX12_seed_0 at hf
  refine g_iload_n hC 1 dX12_seed_0 rfl rfl ?_
  refine g_if_ge hC 6 dX12_seed_1 (by decide) (fun hc => ?_) (fun hc => ?_)
  · replace hf := ifT hf hc
    refine g_aload_n hC 0 dX12_seed_6 rfl rfl ?_
    refine gt_X12_9 hC (a := 74) (kk_74 hL) (kn_74 hL) dX12_seed_7 ?_
    refine g_ref (b := 75) rfl ?_
    refine g_bipush hC (v := 9) dX12_seed_10 bp_9 ?_
    obtain ⟨h_1, hf⟩ := gdE hf
    refine g_iald hC (x := x75) (kk_75 hL) (kn_75 hL) (ov_get hN 0 rfl rfl) (inb_in h_1) dX12_seed_12 ?_
    obtain ⟨t_2, et_2, hf⟩ := bnE hf
    refine g_topi et_2 ?_
    refine g_istore_n hC (i := 2) [(2, .int t_2), (0, .ref (b0 + 74)), (1, .int v1)] rfl dX12_seed_13 (by decide) rfl ?_
    refine g_aload_n hC 1 dX12_seed_14 rfl rfl ?_
    refine gt_X12_9 hC (a := 74) (kk_74 hL) (kn_74 hL) dX12_seed_15 ?_
    refine g_ref (b := 75) rfl ?_
    refine g_bipush hC (v := 9) dX12_seed_18 bp_9 ?_
    refine g_iload_n hC 2 dX12_seed_20 rfl rfl ?_
    obtain ⟨h_3, hf⟩ := gdE hf
    refine g_iast hC (x := x75) (kk_75 hL) (kn_75 hL) (ov_get hN 0 rfl rfl) (inb_in h_3) (ov_set hN (by rfl) 0 (by rfl)) dX12_seed_21 ?_
    show gV l b0 D K (n, κ, ov X0 [75] [(upd x75 (9 : Int32).toNatClampNeg v1)], ov Y0 [] [], Z, 0, 0) 22 [(2, .int t_2), (0, .ref (b0 + 74)), (1, .int v1)] []
    refine g_iload_n hC 0 dX12_seed_22 rfl rfl ?_
    obtain ⟨rfl, rfl⟩ := sm2E hf
    exact hret _ _ rfl dX12_seed_23
  · replace hf := ifF hf hc
    refine g_iconst hC (v := (-1)) dX12_seed_4 ic_m1 ?_
    obtain ⟨rfl, rfl⟩ := sm2E hf
    exact hret _ _ rfl dX12_seed_5

def fX12_seed     (v1 : Int32) (x75 : Nat → Int32)  : Option (Int32 × (Nat → Int32)) := fX12_seed_0  v1 x75

set_option maxHeartbeats 4000000 in
set_option maxRecDepth 100000 in
theorem c_X12_seed (l : Launch) {b0 : Nat} {D : GD} {n : Nat} {κ : QT} {X0 : XT} {Y0 : YT} {Z : ZT} (hL : LY n κ) {x75 : Nat → Int32} (hx : ([75] : List Nat).map X0 = [x75]) (hy : ([] : List Nat).map Y0 = []) {v1 : Int32} {r : Int32} {rx75 : (Nat → Int32)} (hf : fX12_seed  v1 x75 = some (r, rx75)) : gMi l yX12_seed cX12_seed 3 (some FieldType.int) 0 0 0 0 b0 D [.ref (b0 + 74), .int v1] (n, κ, X0, Y0, Z) (n, κ, ov X0 [75] [rx75], ov Y0 [] [], Z) r := by
  have hN : ([75] : List Nat).Nodup := by decide
  have hM : ([] : List Nat).Nodup := by decide
  refine g_meti (own := RX12) (by decide) rfl rfl (Nat.le_of_ble_eq_true rfl) ?_
  intro K hC hret
  have e := wX12_seed_0 hL hN hM hC  hret hf
  rw [ov_id' hx, ov_id' hy] at e
  exact g_sub [0, 1] rfl e

-- X12_draws
def fX12_draws_0     (v1 : Int32) (x75 : (Nat → Int32)) : Option (Int32 × (Nat → Int32)) := gd (inb 9 11) (gd (inb 9 11) (gd (inb 9 11) (gd (nz v1) (some ((((upd x75 (9 : Int32).toNatClampNeg ((((((x75 (9 : Int32).toNatClampNeg).toInt64) * 1103515245) + 12345) - ((((x75 (9 : Int32).toNatClampNeg).toInt64) * 1103515245) + 12345) / 2147483648 * 2147483648).toInt32)) (9 : Int32).toNatClampNeg) / 65536) - (((upd x75 (9 : Int32).toNatClampNeg ((((((x75 (9 : Int32).toNatClampNeg).toInt64) * 1103515245) + 12345) - ((((x75 (9 : Int32).toNatClampNeg).toInt64) * 1103515245) + 12345) / 2147483648 * 2147483648).toInt32)) (9 : Int32).toNatClampNeg) / 65536) / v1 * v1, (upd x75 (9 : Int32).toNatClampNeg ((((((x75 (9 : Int32).toNatClampNeg).toInt64) * 1103515245) + 12345) - ((((x75 (9 : Int32).toNatClampNeg).toInt64) * 1103515245) + 12345) / 2147483648 * 2147483648).toInt32)))))))
set_option maxHeartbeats 4000000 in
set_option maxRecDepth 100000 in
theorem wX12_draws_0 {l : Launch} {b0 : Nat} {D : GD} {K : KT} {n : Nat} {κ : QT} {X0 : XT} {Y0 : YT} {Z : ZT} (hL : LY n κ) (hN : ([75] : List Nat).Nodup) (hM : ([] : List Nat).Nodup) (hC : gC l b0 D K RX12 cX12_draws (some FieldType.int) 2 0 0 0 0) {r : Int32} {rx75 : (Nat → Int32)} (hret : ∀ pc loc, narrow .int (.int r) = .int r → decode cX12_draws pc = .ok (.ireturn, 1) → gV l b0 D K (n, κ, ov X0 [75] [rx75], ov Y0 [] [], Z, 0, 0) pc loc [.int r]) {v1 : Int32} {x75 : (Nat → Int32)} (hf : fX12_draws_0   v1 x75 = some (r, rx75)) : gV l b0 D K (n, κ, ov X0 [75] [x75], ov Y0 [] [], Z, 0, 0) 0 [(0, .ref (b0 + 74)), (1, .int v1)] [] := by
  unfold fX12_draws_0 at hf
  refine g_aload_n hC 0 dX12_draws_0 rfl rfl ?_
  refine gt_X12_9 hC (a := 74) (kk_74 hL) (kn_74 hL) dX12_draws_1 ?_
  refine g_ref (b := 75) rfl ?_
  refine g_bipush hC (v := 9) dX12_draws_4 bp_9 ?_
  refine g_aload_n hC 0 dX12_draws_6 rfl rfl ?_
  refine gt_X12_9 hC (a := 74) (kk_74 hL) (kn_74 hL) dX12_draws_7 ?_
  refine g_ref (b := 75) rfl ?_
  refine g_bipush hC (v := 9) dX12_draws_10 bp_9 ?_
  obtain ⟨h_1, hf⟩ := gdE hf
  refine g_iald hC (x := x75) (kk_75 hL) (kn_75 hL) (ov_get hN 0 rfl rfl) (inb_in h_1) dX12_draws_12 ?_
  refine g_i2l hC dX12_draws_13 ?_
  refine g_ldc2_w hC (v := 1103515245) tw_1809 dX12_draws_14 ?_
  refine g_lmul hC dX12_draws_17 ?_
  refine g_ldc2_w hC (v := 12345) tw_1810 dX12_draws_18 ?_
  refine g_ladd hC dX12_draws_21 ?_
  refine g_ldc2_w hC (v := 2147483648) tw_1811 dX12_draws_22 ?_
  refine g_lrem hC dX12_draws_25 (by decide) ?_
  refine g_l2i hC dX12_draws_26 ?_
  obtain ⟨h_2, hf⟩ := gdE hf
  refine g_iast hC (x := x75) (kk_75 hL) (kn_75 hL) (ov_get hN 0 rfl rfl) (inb_in h_2) (ov_set hN (by rfl) 0 (by rfl)) dX12_draws_27 ?_
  show gV l b0 D K (n, κ, ov X0 [75] [(upd x75 (9 : Int32).toNatClampNeg ((((((x75 (9 : Int32).toNatClampNeg).toInt64) * 1103515245) + 12345) - ((((x75 (9 : Int32).toNatClampNeg).toInt64) * 1103515245) + 12345) / 2147483648 * 2147483648).toInt32))], ov Y0 [] [], Z, 0, 0) 28 [(0, .ref (b0 + 74)), (1, .int v1)] []
  refine g_aload_n hC 0 dX12_draws_28 rfl rfl ?_
  refine gt_X12_9 hC (a := 74) (kk_74 hL) (kn_74 hL) dX12_draws_29 ?_
  refine g_ref (b := 75) rfl ?_
  refine g_bipush hC (v := 9) dX12_draws_32 bp_9 ?_
  obtain ⟨h_3, hf⟩ := gdE hf
  refine g_iald hC (x := (upd x75 (9 : Int32).toNatClampNeg ((((((x75 (9 : Int32).toNatClampNeg).toInt64) * 1103515245) + 12345) - ((((x75 (9 : Int32).toNatClampNeg).toInt64) * 1103515245) + 12345) / 2147483648 * 2147483648).toInt32))) (kk_75 hL) (kn_75 hL) (ov_get hN 0 rfl rfl) (inb_in h_3) dX12_draws_34 ?_
  refine g_ldc_w hC (v := 65536) tw_1812 dX12_draws_35 ?_
  refine g_idiv hC dX12_draws_38 (by decide) ?_
  refine g_iload_n hC 1 dX12_draws_39 rfl rfl ?_
  obtain ⟨h_4, hf⟩ := gdE hf
  refine g_irem hC dX12_draws_40 (nzE h_4) ?_
  obtain ⟨rfl, rfl⟩ := sm2E hf
  exact hret _ _ rfl dX12_draws_41

def fX12_draws     (v1 : Int32) (x75 : Nat → Int32)  : Option (Int32 × (Nat → Int32)) := fX12_draws_0  v1 x75

set_option maxHeartbeats 4000000 in
set_option maxRecDepth 100000 in
theorem c_X12_draws (l : Launch) {b0 : Nat} {D : GD} {n : Nat} {κ : QT} {X0 : XT} {Y0 : YT} {Z : ZT} (hL : LY n κ) {x75 : Nat → Int32} (hx : ([75] : List Nat).map X0 = [x75]) (hy : ([] : List Nat).map Y0 = []) {v1 : Int32} {r : Int32} {rx75 : (Nat → Int32)} (hf : fX12_draws  v1 x75 = some (r, rx75)) : gMi l yX12_draws cX12_draws 2 (some FieldType.int) 0 0 0 0 b0 D [.ref (b0 + 74), .int v1] (n, κ, X0, Y0, Z) (n, κ, ov X0 [75] [rx75], ov Y0 [] [], Z) r := by
  have hN : ([75] : List Nat).Nodup := by decide
  have hM : ([] : List Nat).Nodup := by decide
  refine g_meti (own := RX12) (by decide) rfl rfl (Nat.le_of_ble_eq_true rfl) ?_
  intro K hC hret
  have e := wX12_draws_0 hL hN hM hC  hret hf
  rw [ov_id' hx, ov_id' hy] at e
  exact g_sub [0, 1] rfl e

-- X12_summers
def fX12_summers_127   (x79 : Nat → Int32) (x92 : Nat → Int32) (x93 : Nat → Int32) (x94 : Nat → Int32) (x95 : Nat → Int32) (x96 : Nat → Int32) (x97 : Nat → Int32)  (k82 : Int32 → Int32 → Int32 → Int32 → Int32 → Int32 → Int32 → Int32 → Int32 → (Nat → Int32) → (Nat → Int32) → (Nat → Int32) → (Nat → Int32) → (Nat → Int32) → (Nat → Int32) → (Nat → Int32) → (Nat → Int64) → (Nat → Int64) → Option (Int32 × (Nat → Int32) × (Nat → Int32) × (Nat → Int32) × (Nat → Int32) × (Nat → Int32) × (Nat → Int32) × (Nat → Int32) × (Nat → Int64) × (Nat → Int64))) (k100 : Int32 → Int32 → Int32 → Int32 → Int32 → Int32 → Int32 → Int32 → Int32 → (Nat → Int32) → (Nat → Int32) → (Nat → Int32) → (Nat → Int32) → (Nat → Int32) → (Nat → Int32) → (Nat → Int32) → (Nat → Int64) → (Nat → Int64) → Option (Int32 × (Nat → Int32) × (Nat → Int32) × (Nat → Int32) × (Nat → Int32) × (Nat → Int32) × (Nat → Int32) × (Nat → Int32) × (Nat → Int64) × (Nat → Int64))) (v1 : Int32) (v2 : Int32) (v3 : Int32) (v4 : Int32) (v5 : Int32) (v7 : Int32) (v8 : Int32) (v9 : Int32) (v10 : Int32) (s0 : Int32) (x74 : (Nat → Int32)) (x75 : (Nat → Int32)) (x76 : (Nat → Int32)) (x77 : (Nat → Int32)) (x78 : (Nat → Int32)) (x101 : (Nat → Int32)) (x112 : (Nat → Int32)) (y99 : (Nat → Int64)) (y100 : (Nat → Int64)) : Option (Int32 × (Nat → Int32) × (Nat → Int32) × (Nat → Int32) × (Nat → Int32) × (Nat → Int32) × (Nat → Int32) × (Nat → Int32) × (Nat → Int64) × (Nat → Int64)) := bd9 (fX12_goes x79 x92 x93 x94 x95 x96 x97 (upd x74 37 s0) x75 x76 x77 x78 x101 y99 y100) fun r_1 x74_2 x75_3 x76_4 x77_5 x78_6 x101_7 y99_8 y100_9 => (bn (v10 + 1) fun t_11 => (k100 v1 v2 v3 v4 v5 v7 v8 v9 t_11 x74_2 x75_3 x76_4 x77_5 x78_6 x101_7 x112 y99_8 y100_9))
set_option maxHeartbeats 4000000 in
set_option maxRecDepth 100000 in
theorem wX12_summers_127 {l : Launch} {b0 : Nat} {D : GD} {K : KT} {n : Nat} {κ : QT} {X0 : XT} {Y0 : YT} {Z : ZT} (hL : LY n κ) (hN : ([74, 75, 76, 77, 78, 79, 92, 93, 94, 95, 96, 97, 101, 112] : List Nat).Nodup) (hM : ([99, 100] : List Nat).Nodup) (hC : gC l b0 D K RX12 cX12_summers (some FieldType.int) 11 7 166 0 0) {x79 : Nat → Int32} {x92 : Nat → Int32} {x93 : Nat → Int32} {x94 : Nat → Int32} {x95 : Nat → Int32} {x96 : Nat → Int32} {x97 : Nat → Int32} {r : Int32} {rx74 : (Nat → Int32)} {rx75 : (Nat → Int32)} {rx76 : (Nat → Int32)} {rx77 : (Nat → Int32)} {rx78 : (Nat → Int32)} {rx101 : (Nat → Int32)} {rx112 : (Nat → Int32)} {ry99 : (Nat → Int64)} {ry100 : (Nat → Int64)} (hret : ∀ pc loc, narrow .int (.int r) = .int r → decode cX12_summers pc = .ok (.ireturn, 1) → gV l b0 D K (n, κ, ov X0 [74, 75, 76, 77, 78, 79, 92, 93, 94, 95, 96, 97, 101, 112] [rx74, rx75, rx76, rx77, rx78, x79, x92, x93, x94, x95, x96, x97, rx101, rx112], ov Y0 [99, 100] [ry99, ry100], Z, 0, 0) pc loc [.int r]) {k82 : Int32 → Int32 → Int32 → Int32 → Int32 → Int32 → Int32 → Int32 → Int32 → (Nat → Int32) → (Nat → Int32) → (Nat → Int32) → (Nat → Int32) → (Nat → Int32) → (Nat → Int32) → (Nat → Int32) → (Nat → Int64) → (Nat → Int64) → Option (Int32 × (Nat → Int32) × (Nat → Int32) × (Nat → Int32) × (Nat → Int32) × (Nat → Int32) × (Nat → Int32) × (Nat → Int32) × (Nat → Int64) × (Nat → Int64))} (hk82 : ∀ (v1 : Int32) (v2 : Int32) (v3 : Int32) (v4 : Int32) (v5 : Int32) (v6 : Int32) (v7 : Int32) (v8 : Int32) (v9 : Int32) (x74 : (Nat → Int32)) (x75 : (Nat → Int32)) (x76 : (Nat → Int32)) (x77 : (Nat → Int32)) (x78 : (Nat → Int32)) (x101 : (Nat → Int32)) (x112 : (Nat → Int32)) (y99 : (Nat → Int64)) (y100 : (Nat → Int64)), k82 v1 v2 v3 v4 v5 v6 v7 v8 v9 x74 x75 x76 x77 x78 x101 x112 y99 y100 = some (r, rx74, rx75, rx76, rx77, rx78, rx101, rx112, ry99, ry100) → gV l b0 D K (n, κ, ov X0 [74, 75, 76, 77, 78, 79, 92, 93, 94, 95, 96, 97, 101, 112] [x74, x75, x76, x77, x78, x79, x92, x93, x94, x95, x96, x97, x101, x112], ov Y0 [99, 100] [y99, y100], Z, 0, 0) 82 [(0, .ref (b0 + 74)), (1, .int v1), (2, .int v2), (3, .int v3), (4, .int v4), (5, .int v5), (6, .int v6), (7, .int v7), (8, .int v8), (9, .int v9)] []) {k100 : Int32 → Int32 → Int32 → Int32 → Int32 → Int32 → Int32 → Int32 → Int32 → (Nat → Int32) → (Nat → Int32) → (Nat → Int32) → (Nat → Int32) → (Nat → Int32) → (Nat → Int32) → (Nat → Int32) → (Nat → Int64) → (Nat → Int64) → Option (Int32 × (Nat → Int32) × (Nat → Int32) × (Nat → Int32) × (Nat → Int32) × (Nat → Int32) × (Nat → Int32) × (Nat → Int32) × (Nat → Int64) × (Nat → Int64))} (hk100 : ∀ (v1 : Int32) (v2 : Int32) (v3 : Int32) (v4 : Int32) (v5 : Int32) (v7 : Int32) (v8 : Int32) (v9 : Int32) (v10 : Int32) (x74 : (Nat → Int32)) (x75 : (Nat → Int32)) (x76 : (Nat → Int32)) (x77 : (Nat → Int32)) (x78 : (Nat → Int32)) (x101 : (Nat → Int32)) (x112 : (Nat → Int32)) (y99 : (Nat → Int64)) (y100 : (Nat → Int64)), k100 v1 v2 v3 v4 v5 v7 v8 v9 v10 x74 x75 x76 x77 x78 x101 x112 y99 y100 = some (r, rx74, rx75, rx76, rx77, rx78, rx101, rx112, ry99, ry100) → gV l b0 D K (n, κ, ov X0 [74, 75, 76, 77, 78, 79, 92, 93, 94, 95, 96, 97, 101, 112] [x74, x75, x76, x77, x78, x79, x92, x93, x94, x95, x96, x97, x101, x112], ov Y0 [99, 100] [y99, y100], Z, 0, 0) 100 [(0, .ref (b0 + 74)), (1, .int v1), (2, .int v2), (3, .int v3), (4, .int v4), (5, .int v5), (7, .int v7), (8, .int v8), (9, .int v9), (10, .int v10)] []) {v1 : Int32} {v2 : Int32} {v3 : Int32} {v4 : Int32} {v5 : Int32} {v7 : Int32} {v8 : Int32} {v9 : Int32} {v10 : Int32} {s0 : Int32} {x74 : (Nat → Int32)} {x75 : (Nat → Int32)} {x76 : (Nat → Int32)} {x77 : (Nat → Int32)} {x78 : (Nat → Int32)} {x101 : (Nat → Int32)} {x112 : (Nat → Int32)} {y99 : (Nat → Int64)} {y100 : (Nat → Int64)} (hf : fX12_summers_127 x79 x92 x93 x94 x95 x96 x97 k82 k100 v1 v2 v3 v4 v5 v7 v8 v9 v10 s0 x74 x75 x76 x77 x78 x101 x112 y99 y100 = some (r, rx74, rx75, rx76, rx77, rx78, rx101, rx112, ry99, ry100)) : gV l b0 D K (n, κ, ov X0 [74, 75, 76, 77, 78, 79, 92, 93, 94, 95, 96, 97, 101, 112] [x74, x75, x76, x77, x78, x79, x92, x93, x94, x95, x96, x97, x101, x112], ov Y0 [99, 100] [y99, y100], Z, 0, 0) 127 [(0, .ref (b0 + 74)), (1, .int v1), (2, .int v2), (3, .int v3), (4, .int v4), (5, .int v5), (7, .int v7), (8, .int v8), (9, .int v9), (10, .int v10)] [.int s0, .ref (b0 + 74)] := by
  unfold fX12_summers_127 at hf
  refine pt_X12_94 hC (x := x74) (kk_74 hL) (kn_74 hL) (ov_get hN 0 rfl rfl) (ov_set hN (by rfl) 0 (by rfl)) dX12_summers_127 ?_
  show gV l b0 D K (n, κ, ov X0 [74, 75, 76, 77, 78, 79, 92, 93, 94, 95, 96, 97, 101, 112] [(upd x74 37 s0), x75, x76, x77, x78, x79, x92, x93, x94, x95, x96, x97, x101, x112], ov Y0 [99, 100] [y99, y100], Z, 0, 0) 130 [(0, .ref (b0 + 74)), (1, .int v1), (2, .int v2), (3, .int v3), (4, .int v4), (5, .int v5), (7, .int v7), (8, .int v8), (9, .int v9), (10, .int v10)] []
  refine g_aload_n hC 0 dX12_summers_130 rfl rfl ?_
  obtain ⟨r_1, x74_2, x75_3, x76_4, x77_5, x78_6, x101_7, y99_8, y100_9, q_10, hf⟩ := bd9E hf
  refine g_callV_i (a := 74) hC (X' := ov X0 [74, 75, 76, 77, 78, 79, 92, 93, 94, 95, 96, 97, 101, 112] [x74_2, x75_3, x76_4, x77_5, x78_6, x79, x92, x93, x94, x95, x96, x97, x101_7, x112]) (Y' := ov Y0 [99, 100] [y99_8, y100_9]) (As := []) (gMi_eq (c_X12_goes l hL (ov_map hN [0, 1, 2, 3, 4, 5, 6, 7, 8, 9, 10, 11, 12] (by rfl) (by rfl)) (ov_map hM [0, 1] (by rfl) (by rfl)) q_10) (ov_ovE hN (by rfl) [0, 1, 2, 3, 4, 5, 6, 7, 8, 9, 10, 11, 12] [13] (by rfl) (by rfl) [x112] (by rfl) (by rfl) (by rfl) 14 (by rfl) (by decide)) (ov_ovE hM (by rfl) [0, 1] [] (by rfl) (by rfl) [] (by rfl) (by rfl) (by rfl) 2 (by rfl) (by decide))) tw_1593 tw_1590 tw_127 tw_1592 tw_86 (ci := 12) rfl (by decide) (kk_74 hL) (kn_74 hL) pd_X12_goes (by decide) (by decide) rfl rfl (Nat.le_of_ble_eq_true rfl) rfl dX12_summers_131 ?_
  refine g_pop hC dX12_summers_134 rfl ?_
  obtain ⟨t_11, et_11, hf⟩ := bnE hf
  refine g_iinc hC (i := 10) (v := t_11) [(10, .int t_11), (0, .ref (b0 + 74)), (1, .int v1), (2, .int v2), (3, .int v3), (4, .int v4), (5, .int v5), (7, .int v7), (8, .int v8), (9, .int v9)] dX12_summers_135 (q := 9) rfl ((congrArg (HAdd.hAdd v10) ic_1).trans et_11.symm) (by decide) rfl ?_
  refine g_goto hC 100 dX12_summers_138 (by decide) ?_
  exact g_sub [1, 2, 3, 4, 5, 6, 7, 8, 9, 0] rfl (hk100 v1 v2 v3 v4 v5 v7 v8 v9 t_11 x74_2 x75_3 x76_4 x77_5 x78_6 x101_7 x112 y99_8 y100_9 hf)

def fX12_summers_100b   (x79 : Nat → Int32) (x92 : Nat → Int32) (x93 : Nat → Int32) (x94 : Nat → Int32) (x95 : Nat → Int32) (x96 : Nat → Int32) (x97 : Nat → Int32)  (k82 : Int32 → Int32 → Int32 → Int32 → Int32 → Int32 → Int32 → Int32 → Int32 → (Nat → Int32) → (Nat → Int32) → (Nat → Int32) → (Nat → Int32) → (Nat → Int32) → (Nat → Int32) → (Nat → Int32) → (Nat → Int64) → (Nat → Int64) → Option (Int32 × (Nat → Int32) × (Nat → Int32) × (Nat → Int32) × (Nat → Int32) × (Nat → Int32) × (Nat → Int32) × (Nat → Int32) × (Nat → Int64) × (Nat → Int64))) (k100 : Int32 → Int32 → Int32 → Int32 → Int32 → Int32 → Int32 → Int32 → Int32 → (Nat → Int32) → (Nat → Int32) → (Nat → Int32) → (Nat → Int32) → (Nat → Int32) → (Nat → Int32) → (Nat → Int32) → (Nat → Int64) → (Nat → Int64) → Option (Int32 × (Nat → Int32) × (Nat → Int32) × (Nat → Int32) × (Nat → Int32) × (Nat → Int32) × (Nat → Int32) × (Nat → Int32) × (Nat → Int64) × (Nat → Int64))) (v1 : Int32) (v2 : Int32) (v3 : Int32) (v4 : Int32) (v5 : Int32) (v7 : Int32) (v8 : Int32) (v9 : Int32) (v10 : Int32) (x74 : (Nat → Int32)) (x75 : (Nat → Int32)) (x76 : (Nat → Int32)) (x77 : (Nat → Int32)) (x78 : (Nat → Int32)) (x101 : (Nat → Int32)) (x112 : (Nat → Int32)) (y99 : (Nat → Int64)) (y100 : (Nat → Int64)) : Option (Int32 × (Nat → Int32) × (Nat → Int32) × (Nat → Int32) × (Nat → Int32) × (Nat → Int32) × (Nat → Int32) × (Nat → Int32) × (Nat → Int64) × (Nat → Int64)) := if v2 ≤ v10 then (bd1 (fX12_inRiver x75 x76) fun r_1 => (bd1 (fX12_bits r_1) fun r_3 => (bn (v7 + r_3) fun t_5 => (bd1 (fX12_allPlaces x75 x76) fun r_6 => (bn (v8 + r_6) fun t_8 => (gd (inb 9 11) (bn (x75 (9 : Int32).toNatClampNeg) fun t_10 => (bd6 (fX12_laysBack (upd x74 37 (-1)) x75 x76 x77 x78 x112) fun x74_11 x75_12 x76_13 x77_14 x78_15 x112_16 => (bn (v9 + 1) fun t_18 => (k82 v1 v2 v3 v4 v5 t_10 t_5 t_8 t_18 x74_11 x75_12 x76_13 x77_14 x78_15 x101 x112_16 y99 y100)))))))))) else (bd2 (fX12_draws 100 x75) fun r_19 x75_20 => (if v3 ≤ r_19 then (fX12_summers_127 x79 x92 x93 x94 x95 x96 x97 k82 k100 v1 v2 v3 v4 v5 v7 v8 v9 v10 (-1) x74 x75_20 x76 x77 x78 x101 x112 y99 y100) else (bd2 (fX12_draws 10 x75_20) fun r_22 x75_23 => (fX12_summers_127 x79 x92 x93 x94 x95 x96 x97 k82 k100 v1 v2 v3 v4 v5 v7 v8 v9 v10 r_22 x74 x75_23 x76 x77 x78 x101 x112 y99 y100))))
def fX12_summers_100   (x79 : Nat → Int32) (x92 : Nat → Int32) (x93 : Nat → Int32) (x94 : Nat → Int32) (x95 : Nat → Int32) (x96 : Nat → Int32) (x97 : Nat → Int32)  (k82 : Int32 → Int32 → Int32 → Int32 → Int32 → Int32 → Int32 → Int32 → Int32 → (Nat → Int32) → (Nat → Int32) → (Nat → Int32) → (Nat → Int32) → (Nat → Int32) → (Nat → Int32) → (Nat → Int32) → (Nat → Int64) → (Nat → Int64) → Option (Int32 × (Nat → Int32) × (Nat → Int32) × (Nat → Int32) × (Nat → Int32) × (Nat → Int32) × (Nat → Int32) × (Nat → Int32) × (Nat → Int64) × (Nat → Int64))) : Int32 → Int32 → Int32 → Int32 → Int32 → Int32 → Int32 → Int32 → Int32 → (Nat → Int32) → (Nat → Int32) → (Nat → Int32) → (Nat → Int32) → (Nat → Int32) → (Nat → Int32) → (Nat → Int32) → (Nat → Int64) → (Nat → Int64) → Option (Int32 × (Nat → Int32) × (Nat → Int32) × (Nat → Int32) × (Nat → Int32) × (Nat → Int32) × (Nat → Int32) × (Nat → Int32) × (Nat → Int64) × (Nat → Int64)) := lq18 (fX12_summers_100b x79 x92 x93 x94 x95 x96 x97 k82) 5000
set_option maxHeartbeats 4000000 in
set_option maxRecDepth 100000 in
theorem wX12_summers_100 {l : Launch} {b0 : Nat} {D : GD} {K : KT} {n : Nat} {κ : QT} {X0 : XT} {Y0 : YT} {Z : ZT} (hL : LY n κ) (hN : ([74, 75, 76, 77, 78, 79, 92, 93, 94, 95, 96, 97, 101, 112] : List Nat).Nodup) (hM : ([99, 100] : List Nat).Nodup) (hC : gC l b0 D K RX12 cX12_summers (some FieldType.int) 11 7 166 0 0) {x79 : Nat → Int32} {x92 : Nat → Int32} {x93 : Nat → Int32} {x94 : Nat → Int32} {x95 : Nat → Int32} {x96 : Nat → Int32} {x97 : Nat → Int32} {r : Int32} {rx74 : (Nat → Int32)} {rx75 : (Nat → Int32)} {rx76 : (Nat → Int32)} {rx77 : (Nat → Int32)} {rx78 : (Nat → Int32)} {rx101 : (Nat → Int32)} {rx112 : (Nat → Int32)} {ry99 : (Nat → Int64)} {ry100 : (Nat → Int64)} (hret : ∀ pc loc, narrow .int (.int r) = .int r → decode cX12_summers pc = .ok (.ireturn, 1) → gV l b0 D K (n, κ, ov X0 [74, 75, 76, 77, 78, 79, 92, 93, 94, 95, 96, 97, 101, 112] [rx74, rx75, rx76, rx77, rx78, x79, x92, x93, x94, x95, x96, x97, rx101, rx112], ov Y0 [99, 100] [ry99, ry100], Z, 0, 0) pc loc [.int r]) {k82 : Int32 → Int32 → Int32 → Int32 → Int32 → Int32 → Int32 → Int32 → Int32 → (Nat → Int32) → (Nat → Int32) → (Nat → Int32) → (Nat → Int32) → (Nat → Int32) → (Nat → Int32) → (Nat → Int32) → (Nat → Int64) → (Nat → Int64) → Option (Int32 × (Nat → Int32) × (Nat → Int32) × (Nat → Int32) × (Nat → Int32) × (Nat → Int32) × (Nat → Int32) × (Nat → Int32) × (Nat → Int64) × (Nat → Int64))} (hk82 : ∀ (v1 : Int32) (v2 : Int32) (v3 : Int32) (v4 : Int32) (v5 : Int32) (v6 : Int32) (v7 : Int32) (v8 : Int32) (v9 : Int32) (x74 : (Nat → Int32)) (x75 : (Nat → Int32)) (x76 : (Nat → Int32)) (x77 : (Nat → Int32)) (x78 : (Nat → Int32)) (x101 : (Nat → Int32)) (x112 : (Nat → Int32)) (y99 : (Nat → Int64)) (y100 : (Nat → Int64)), k82 v1 v2 v3 v4 v5 v6 v7 v8 v9 x74 x75 x76 x77 x78 x101 x112 y99 y100 = some (r, rx74, rx75, rx76, rx77, rx78, rx101, rx112, ry99, ry100) → gV l b0 D K (n, κ, ov X0 [74, 75, 76, 77, 78, 79, 92, 93, 94, 95, 96, 97, 101, 112] [x74, x75, x76, x77, x78, x79, x92, x93, x94, x95, x96, x97, x101, x112], ov Y0 [99, 100] [y99, y100], Z, 0, 0) 82 [(0, .ref (b0 + 74)), (1, .int v1), (2, .int v2), (3, .int v3), (4, .int v4), (5, .int v5), (6, .int v6), (7, .int v7), (8, .int v8), (9, .int v9)] []) : ∀ (j : Nat) (v1 : Int32) (v2 : Int32) (v3 : Int32) (v4 : Int32) (v5 : Int32) (v7 : Int32) (v8 : Int32) (v9 : Int32) (v10 : Int32) (x74 : (Nat → Int32)) (x75 : (Nat → Int32)) (x76 : (Nat → Int32)) (x77 : (Nat → Int32)) (x78 : (Nat → Int32)) (x101 : (Nat → Int32)) (x112 : (Nat → Int32)) (y99 : (Nat → Int64)) (y100 : (Nat → Int64)), lq18 (fX12_summers_100b x79 x92 x93 x94 x95 x96 x97 k82) j v1 v2 v3 v4 v5 v7 v8 v9 v10 x74 x75 x76 x77 x78 x101 x112 y99 y100 = some (r, rx74, rx75, rx76, rx77, rx78, rx101, rx112, ry99, ry100) → gV l b0 D K (n, κ, ov X0 [74, 75, 76, 77, 78, 79, 92, 93, 94, 95, 96, 97, 101, 112] [x74, x75, x76, x77, x78, x79, x92, x93, x94, x95, x96, x97, x101, x112], ov Y0 [99, 100] [y99, y100], Z, 0, 0) 100 [(0, .ref (b0 + 74)), (1, .int v1), (2, .int v2), (3, .int v3), (4, .int v4), (5, .int v5), (7, .int v7), (8, .int v8), (9, .int v9), (10, .int v10)] [] := by
  intro j
  induction j with
  | zero => intro v1 v2 v3 v4 v5 v7 v8 v9 v10 x74 x75 x76 x77 x78 x101 x112 y99 y100 hf; cases hf
  | succ j hk100 =>
    intro v1 v2 v3 v4 v5 v7 v8 v9 v10 x74 x75 x76 x77 x78 x101 x112 y99 y100 hf
    replace hf : fX12_summers_100b x79 x92 x93 x94 x95 x96 x97 k82 (lq18 (fX12_summers_100b x79 x92 x93 x94 x95 x96 x97 k82) j) v1 v2 v3 v4 v5 v7 v8 v9 v10 x74 x75 x76 x77 x78 x101 x112 y99 y100 = some (r, rx74, rx75, rx76, rx77, rx78, rx101, rx112, ry99, ry100) := hf
    unfold fX12_summers_100b at hf
    refine g_iload hC 9 dX12_summers_100 rfl ?_
    refine g_iload_n hC 2 dX12_summers_102 rfl rfl ?_
    refine g_icmp_ge hC 141 dX12_summers_103 (by decide) (fun hc => ?_) (fun hc => ?_)
    · replace hf := ifT hf hc
      refine g_aload_n hC 0 dX12_summers_141 rfl rfl ?_
      refine g_iconst hC (v := (-1)) dX12_summers_142 ic_m1 ?_
      refine pt_X12_94 hC (x := x74) (kk_74 hL) (kn_74 hL) (ov_get hN 0 rfl rfl) (ov_set hN (by rfl) 0 (by rfl)) dX12_summers_143 ?_
      show gV l b0 D K (n, κ, ov X0 [74, 75, 76, 77, 78, 79, 92, 93, 94, 95, 96, 97, 101, 112] [(upd x74 37 (-1)), x75, x76, x77, x78, x79, x92, x93, x94, x95, x96, x97, x101, x112], ov Y0 [99, 100] [y99, y100], Z, 0, 0) 146 [(0, .ref (b0 + 74)), (1, .int v1), (2, .int v2), (3, .int v3), (4, .int v4), (5, .int v5), (7, .int v7), (8, .int v8), (9, .int v9), (10, .int v10)] []
      refine g_iload hC 6 dX12_summers_146 rfl ?_
      refine g_aload_n hC 0 dX12_summers_148 rfl rfl ?_
      obtain ⟨r_1, q_2, hf⟩ := bd1E hf
      refine g_callV_i (a := 74) hC (X' := ov X0 [74, 75, 76, 77, 78, 79, 92, 93, 94, 95, 96, 97, 101, 112] [(upd x74 37 (-1)), x75, x76, x77, x78, x79, x92, x93, x94, x95, x96, x97, x101, x112]) (Y' := ov Y0 [99, 100] [y99, y100]) (As := []) (gMi_eq (c_X12_inRiver l hL (ov_map hN [1, 2] (by rfl) (by rfl)) (ov_map hM [] (by rfl) (by rfl)) q_2) (ov_ovE hN (by rfl) [1, 2] [0, 3, 4, 5, 6, 7, 8, 9, 10, 11, 12, 13] (by rfl) (by rfl) [(upd x74 37 (-1)), x77, x78, x79, x92, x93, x94, x95, x96, x97, x101, x112] (by rfl) (by rfl) (by rfl) 14 (by rfl) (by decide)) (ov_ovE hM (by rfl) [] [0, 1] (by rfl) (by rfl) [y99, y100] (by rfl) (by rfl) (by rfl) 2 (by rfl) (by decide))) tw_1689 tw_1686 tw_127 tw_1688 tw_101 (ci := 12) rfl (by decide) (kk_74 hL) (kn_74 hL) pd_X12_inRiver (by decide) (by decide) rfl rfl (Nat.le_of_ble_eq_true rfl) rfl dX12_summers_149 ?_
      obtain ⟨r_3, q_4, hf⟩ := bd1E hf
      refine g_callS_i hC (X' := ov X0 [74, 75, 76, 77, 78, 79, 92, 93, 94, 95, 96, 97, 101, 112] [(upd x74 37 (-1)), x75, x76, x77, x78, x79, x92, x93, x94, x95, x96, x97, x101, x112]) (Y' := ov Y0 [99, 100] [y99, y100]) (As := [.int r_1]) (gMi_eq (c_X12_bits l hL (ov_map hN [] (by rfl) (by rfl)) (ov_map hM [] (by rfl) (by rfl)) q_4) (ov_ovE hN (by rfl) [] [0, 1, 2, 3, 4, 5, 6, 7, 8, 9, 10, 11, 12, 13] (by rfl) (by rfl) [(upd x74 37 (-1)), x75, x76, x77, x78, x79, x92, x93, x94, x95, x96, x97, x101, x112] (by rfl) (by rfl) (by rfl) 14 (by rfl) (by decide)) (ov_ovE hM (by rfl) [] [0, 1] (by rfl) (by rfl) [y99, y100] (by rfl) (by rfl) (by rfl) 2 (by rfl) (by decide))) tw_1634 tw_1632 tw_127 tw_1633 pd_X12_bits (by decide) (by decide) rfl rfl (Nat.le_of_ble_eq_true rfl) rfl dX12_summers_152 ?_
      refine g_iadd hC dX12_summers_155 ?_
      obtain ⟨t_5, et_5, hf⟩ := bnE hf
      refine g_topi et_5 ?_
      refine g_istore hC (i := 7) [(7, .int t_5), (0, .ref (b0 + 74)), (1, .int v1), (2, .int v2), (3, .int v3), (4, .int v4), (5, .int v5), (8, .int v8), (9, .int v9), (10, .int v10)] dX12_summers_156 (by decide) rfl ?_
      refine g_iload hC 7 dX12_summers_158 rfl ?_
      refine g_aload_n hC 1 dX12_summers_160 rfl rfl ?_
      obtain ⟨r_6, q_7, hf⟩ := bd1E hf
      refine g_callV_i (a := 74) hC (X' := ov X0 [74, 75, 76, 77, 78, 79, 92, 93, 94, 95, 96, 97, 101, 112] [(upd x74 37 (-1)), x75, x76, x77, x78, x79, x92, x93, x94, x95, x96, x97, x101, x112]) (Y' := ov Y0 [99, 100] [y99, y100]) (As := []) (gMi_eq (c_X12_allPlaces l hL (ov_map hN [1, 2] (by rfl) (by rfl)) (ov_map hM [] (by rfl) (by rfl)) q_7) (ov_ovE hN (by rfl) [1, 2] [0, 3, 4, 5, 6, 7, 8, 9, 10, 11, 12, 13] (by rfl) (by rfl) [(upd x74 37 (-1)), x77, x78, x79, x92, x93, x94, x95, x96, x97, x101, x112] (by rfl) (by rfl) (by rfl) 14 (by rfl) (by decide)) (ov_ovE hM (by rfl) [] [0, 1] (by rfl) (by rfl) [y99, y100] (by rfl) (by rfl) (by rfl) 2 (by rfl) (by decide))) tw_1749 tw_1746 tw_127 tw_1748 tw_108 (ci := 12) rfl (by decide) (kk_74 hL) (kn_74 hL) pd_X12_allPlaces (by decide) (by decide) rfl rfl (Nat.le_of_ble_eq_true rfl) rfl dX12_summers_161 ?_
      refine g_iadd hC dX12_summers_164 ?_
      obtain ⟨t_8, et_8, hf⟩ := bnE hf
      refine g_topi et_8 ?_
      refine g_istore hC (i := 8) [(8, .int t_8), (7, .int t_5), (0, .ref (b0 + 74)), (1, .int v1), (2, .int v2), (3, .int v3), (4, .int v4), (5, .int v5), (9, .int v9), (10, .int v10)] dX12_summers_165 (by decide) rfl ?_
      refine g_aload_n hC 2 dX12_summers_167 rfl rfl ?_
      refine gt_X12_9 hC (a := 74) (kk_74 hL) (kn_74 hL) dX12_summers_168 ?_
      refine g_ref (b := 75) rfl ?_
      refine g_bipush hC (v := 9) dX12_summers_171 bp_9 ?_
      obtain ⟨h_9, hf⟩ := gdE hf
      refine g_iald hC (x := x75) (kk_75 hL) (kn_75 hL) (ov_get hN 1 rfl rfl) (inb_in h_9) dX12_summers_173 ?_
      obtain ⟨t_10, et_10, hf⟩ := bnE hf
      refine g_topi et_10 ?_
      refine g_istore hC (i := 6) [(6, .int t_10), (8, .int t_8), (7, .int t_5), (0, .ref (b0 + 74)), (1, .int v1), (2, .int v2), (3, .int v3), (4, .int v4), (5, .int v5), (9, .int v9), (10, .int v10)] dX12_summers_174 (by decide) rfl ?_
      refine g_aload_n hC 3 dX12_summers_176 rfl rfl ?_
      obtain ⟨x74_11, x75_12, x76_13, x77_14, x78_15, x112_16, q_17, hf⟩ := bd6E hf
      refine g_callV_v (a := 74) hC (X' := ov X0 [74, 75, 76, 77, 78, 79, 92, 93, 94, 95, 96, 97, 101, 112] [x74_11, x75_12, x76_13, x77_14, x78_15, x79, x92, x93, x94, x95, x96, x97, x101, x112_16]) (Y' := ov Y0 [99, 100] [y99, y100]) (As := []) (gMv_eq (c_X12_laysBack l hL (ov_map hN [0, 1, 2, 3, 4, 13] (by rfl) (by rfl)) (ov_map hM [] (by rfl) (by rfl)) q_17) (ov_ovE hN (by rfl) [0, 1, 2, 3, 4, 13] [5, 6, 7, 8, 9, 10, 11, 12] (by rfl) (by rfl) [x79, x92, x93, x94, x95, x96, x97, x101] (by rfl) (by rfl) (by rfl) 14 (by rfl) (by decide)) (ov_ovE hM (by rfl) [] [0, 1] (by rfl) (by rfl) [y99, y100] (by rfl) (by rfl) (by rfl) 2 (by rfl) (by decide))) tw_1693 tw_1690 tw_127 tw_1692 tw_102 (ci := 12) rfl (by decide) (kk_74 hL) (kn_74 hL) pd_X12_laysBack (by decide) (by decide) rfl rfl (Nat.le_of_ble_eq_true rfl) rfl dX12_summers_177 ?_
      obtain ⟨t_18, et_18, hf⟩ := bnE hf
      refine g_iinc hC (i := 9) (v := t_18) [(9, .int t_18), (6, .int t_10), (8, .int t_8), (7, .int t_5), (0, .ref (b0 + 74)), (1, .int v1), (2, .int v2), (3, .int v3), (4, .int v4), (5, .int v5), (10, .int v10)] dX12_summers_180 (q := 9) rfl ((congrArg (HAdd.hAdd v9) ic_1).trans et_18.symm) (by decide) rfl ?_
      refine g_goto hC 82 dX12_summers_183 (by decide) ?_
      exact g_sub [4, 5, 6, 7, 8, 9, 1, 3, 2, 0] rfl (hk82 v1 v2 v3 v4 v5 t_10 t_5 t_8 t_18 x74_11 x75_12 x76_13 x77_14 x78_15 x101 x112_16 y99 y100 hf)
    · replace hf := ifF hf hc
      refine g_aload_n hC 0 dX12_summers_106 rfl rfl ?_
      refine g_aload_n hC 0 dX12_summers_107 rfl rfl ?_
      refine g_bipush hC (v := 100) dX12_summers_108 bp_100 ?_
      obtain ⟨r_19, x75_20, q_21, hf⟩ := bd2E hf
      refine g_callV_i (a := 74) hC (X' := ov X0 [74, 75, 76, 77, 78, 79, 92, 93, 94, 95, 96, 97, 101, 112] [x74, x75_20, x76, x77, x78, x79, x92, x93, x94, x95, x96, x97, x101, x112]) (Y' := ov Y0 [99, 100] [y99, y100]) (As := [.int 100]) (gMi_eq (c_X12_draws l hL (ov_map hN [1] (by rfl) (by rfl)) (ov_map hM [] (by rfl) (by rfl)) q_21) (ov_ovE hN (by rfl) [1] [0, 2, 3, 4, 5, 6, 7, 8, 9, 10, 11, 12, 13] (by rfl) (by rfl) [x74, x76, x77, x78, x79, x92, x93, x94, x95, x96, x97, x101, x112] (by rfl) (by rfl) (by rfl) 14 (by rfl) (by decide)) (ov_ovE hM (by rfl) [] [0, 1] (by rfl) (by rfl) [y99, y100] (by rfl) (by rfl) (by rfl) 2 (by rfl) (by decide))) tw_1808 tw_1805 tw_127 tw_1807 tw_114 (ci := 12) rfl (by decide) (kk_74 hL) (kn_74 hL) pd_X12_draws (by decide) (by decide) rfl rfl (Nat.le_of_ble_eq_true rfl) rfl dX12_summers_110 ?_
      refine g_iload_n hC 3 dX12_summers_113 rfl rfl ?_
      refine g_icmp_ge hC 126 dX12_summers_114 (by decide) (fun hc => ?_) (fun hc => ?_)
      · replace hf := ifT hf hc
        refine g_iconst hC (v := (-1)) dX12_summers_126 ic_m1 ?_
        exact g_sub [0, 1, 2, 3, 4, 5, 6, 7, 8, 9] rfl (wX12_summers_127 hL hN hM hC  hret hk82 hk100 hf)
      · replace hf := ifF hf hc
        refine g_aload_n hC 0 dX12_summers_117 rfl rfl ?_
        refine g_bipush hC (v := 10) dX12_summers_118 bp_10 ?_
        obtain ⟨r_22, x75_23, q_24, hf⟩ := bd2E hf
        refine g_callV_i (a := 74) hC (X' := ov X0 [74, 75, 76, 77, 78, 79, 92, 93, 94, 95, 96, 97, 101, 112] [x74, x75_23, x76, x77, x78, x79, x92, x93, x94, x95, x96, x97, x101, x112]) (Y' := ov Y0 [99, 100] [y99, y100]) (As := [.int 10]) (gMi_eq (c_X12_draws l hL (ov_map hN [1] (by rfl) (by rfl)) (ov_map hM [] (by rfl) (by rfl)) q_24) (ov_ovE hN (by rfl) [1] [0, 2, 3, 4, 5, 6, 7, 8, 9, 10, 11, 12, 13] (by rfl) (by rfl) [x74, x76, x77, x78, x79, x92, x93, x94, x95, x96, x97, x101, x112] (by rfl) (by rfl) (by rfl) 14 (by rfl) (by decide)) (ov_ovE hM (by rfl) [] [0, 1] (by rfl) (by rfl) [y99, y100] (by rfl) (by rfl) (by rfl) 2 (by rfl) (by decide))) tw_1808 tw_1805 tw_127 tw_1807 tw_114 (ci := 12) rfl (by decide) (kk_74 hL) (kn_74 hL) pd_X12_draws (by decide) (by decide) rfl rfl (Nat.le_of_ble_eq_true rfl) rfl dX12_summers_120 ?_
        refine g_goto hC 127 dX12_summers_123 (by decide) ?_
        exact g_sub [0, 1, 2, 3, 4, 5, 6, 7, 8, 9] rfl (wX12_summers_127 hL hN hM hC  hret hk82 hk100 hf)

def fX12_summers_82b   (x79 : Nat → Int32) (x92 : Nat → Int32) (x93 : Nat → Int32) (x94 : Nat → Int32) (x95 : Nat → Int32) (x96 : Nat → Int32) (x97 : Nat → Int32)  (k82 : Int32 → Int32 → Int32 → Int32 → Int32 → Int32 → Int32 → Int32 → Int32 → (Nat → Int32) → (Nat → Int32) → (Nat → Int32) → (Nat → Int32) → (Nat → Int32) → (Nat → Int32) → (Nat → Int32) → (Nat → Int64) → (Nat → Int64) → Option (Int32 × (Nat → Int32) × (Nat → Int32) × (Nat → Int32) × (Nat → Int32) × (Nat → Int32) × (Nat → Int32) × (Nat → Int32) × (Nat → Int64) × (Nat → Int64))) (v1 : Int32) (v2 : Int32) (v3 : Int32) (v4 : Int32) (v5 : Int32) (v6 : Int32) (v7 : Int32) (v8 : Int32) (v9 : Int32) (x74 : (Nat → Int32)) (x75 : (Nat → Int32)) (x76 : (Nat → Int32)) (x77 : (Nat → Int32)) (x78 : (Nat → Int32)) (x101 : (Nat → Int32)) (x112 : (Nat → Int32)) (y99 : (Nat → Int64)) (y100 : (Nat → Int64)) : Option (Int32 × (Nat → Int32) × (Nat → Int32) × (Nat → Int32) × (Nat → Int32) × (Nat → Int32) × (Nat → Int32) × (Nat → Int32) × (Nat → Int64) × (Nat → Int64)) := if v1 ≤ v9 then (gd (inb 9 11) (if v4 = 0 then (some (v7, x74, (upd x75 (9 : Int32).toNatClampNeg v5), x76, x77, x78, x101, x112, y99, y100)) else (some (v8, x74, (upd x75 (9 : Int32).toNatClampNeg v5), x76, x77, x78, x101, x112, y99, y100)))) else (gd (inb 9 11) (fX12_summers_100 x79 x92 x93 x94 x95 x96 x97 k82 v1 v2 v3 v4 v5 v7 v8 v9 0 x74 (upd x75 (9 : Int32).toNatClampNeg v6) x76 x77 x78 x101 x112 y99 y100))
def fX12_summers_82   (x79 : Nat → Int32) (x92 : Nat → Int32) (x93 : Nat → Int32) (x94 : Nat → Int32) (x95 : Nat → Int32) (x96 : Nat → Int32) (x97 : Nat → Int32)  : Int32 → Int32 → Int32 → Int32 → Int32 → Int32 → Int32 → Int32 → Int32 → (Nat → Int32) → (Nat → Int32) → (Nat → Int32) → (Nat → Int32) → (Nat → Int32) → (Nat → Int32) → (Nat → Int32) → (Nat → Int64) → (Nat → Int64) → Option (Int32 × (Nat → Int32) × (Nat → Int32) × (Nat → Int32) × (Nat → Int32) × (Nat → Int32) × (Nat → Int32) × (Nat → Int32) × (Nat → Int64) × (Nat → Int64)) := lq18 (fX12_summers_82b x79 x92 x93 x94 x95 x96 x97 ) 5000
set_option maxHeartbeats 4000000 in
set_option maxRecDepth 100000 in
theorem wX12_summers_82 {l : Launch} {b0 : Nat} {D : GD} {K : KT} {n : Nat} {κ : QT} {X0 : XT} {Y0 : YT} {Z : ZT} (hL : LY n κ) (hN : ([74, 75, 76, 77, 78, 79, 92, 93, 94, 95, 96, 97, 101, 112] : List Nat).Nodup) (hM : ([99, 100] : List Nat).Nodup) (hC : gC l b0 D K RX12 cX12_summers (some FieldType.int) 11 7 166 0 0) {x79 : Nat → Int32} {x92 : Nat → Int32} {x93 : Nat → Int32} {x94 : Nat → Int32} {x95 : Nat → Int32} {x96 : Nat → Int32} {x97 : Nat → Int32} {r : Int32} {rx74 : (Nat → Int32)} {rx75 : (Nat → Int32)} {rx76 : (Nat → Int32)} {rx77 : (Nat → Int32)} {rx78 : (Nat → Int32)} {rx101 : (Nat → Int32)} {rx112 : (Nat → Int32)} {ry99 : (Nat → Int64)} {ry100 : (Nat → Int64)} (hret : ∀ pc loc, narrow .int (.int r) = .int r → decode cX12_summers pc = .ok (.ireturn, 1) → gV l b0 D K (n, κ, ov X0 [74, 75, 76, 77, 78, 79, 92, 93, 94, 95, 96, 97, 101, 112] [rx74, rx75, rx76, rx77, rx78, x79, x92, x93, x94, x95, x96, x97, rx101, rx112], ov Y0 [99, 100] [ry99, ry100], Z, 0, 0) pc loc [.int r]) : ∀ (j : Nat) (v1 : Int32) (v2 : Int32) (v3 : Int32) (v4 : Int32) (v5 : Int32) (v6 : Int32) (v7 : Int32) (v8 : Int32) (v9 : Int32) (x74 : (Nat → Int32)) (x75 : (Nat → Int32)) (x76 : (Nat → Int32)) (x77 : (Nat → Int32)) (x78 : (Nat → Int32)) (x101 : (Nat → Int32)) (x112 : (Nat → Int32)) (y99 : (Nat → Int64)) (y100 : (Nat → Int64)), lq18 (fX12_summers_82b x79 x92 x93 x94 x95 x96 x97 ) j v1 v2 v3 v4 v5 v6 v7 v8 v9 x74 x75 x76 x77 x78 x101 x112 y99 y100 = some (r, rx74, rx75, rx76, rx77, rx78, rx101, rx112, ry99, ry100) → gV l b0 D K (n, κ, ov X0 [74, 75, 76, 77, 78, 79, 92, 93, 94, 95, 96, 97, 101, 112] [x74, x75, x76, x77, x78, x79, x92, x93, x94, x95, x96, x97, x101, x112], ov Y0 [99, 100] [y99, y100], Z, 0, 0) 82 [(0, .ref (b0 + 74)), (1, .int v1), (2, .int v2), (3, .int v3), (4, .int v4), (5, .int v5), (6, .int v6), (7, .int v7), (8, .int v8), (9, .int v9)] [] := by
  intro j
  induction j with
  | zero => intro v1 v2 v3 v4 v5 v6 v7 v8 v9 x74 x75 x76 x77 x78 x101 x112 y99 y100 hf; cases hf
  | succ j hk82 =>
    intro v1 v2 v3 v4 v5 v6 v7 v8 v9 x74 x75 x76 x77 x78 x101 x112 y99 y100 hf
    replace hf : fX12_summers_82b x79 x92 x93 x94 x95 x96 x97  (lq18 (fX12_summers_82b x79 x92 x93 x94 x95 x96 x97 ) j) v1 v2 v3 v4 v5 v6 v7 v8 v9 x74 x75 x76 x77 x78 x101 x112 y99 y100 = some (r, rx74, rx75, rx76, rx77, rx78, rx101, rx112, ry99, ry100) := hf
    unfold fX12_summers_82b at hf
    refine g_iload hC 9 dX12_summers_82 rfl ?_
    refine g_iload_n hC 1 dX12_summers_84 rfl rfl ?_
    refine g_icmp_ge hC 186 dX12_summers_85 (by decide) (fun hc => ?_) (fun hc => ?_)
    · replace hf := ifT hf hc
      refine g_aload_n hC 0 dX12_summers_186 rfl rfl ?_
      refine gt_X12_9 hC (a := 74) (kk_74 hL) (kn_74 hL) dX12_summers_187 ?_
      refine g_ref (b := 75) rfl ?_
      refine g_bipush hC (v := 9) dX12_summers_190 bp_9 ?_
      refine g_iload hC 5 dX12_summers_192 rfl ?_
      obtain ⟨h_1, hf⟩ := gdE hf
      refine g_iast hC (x := x75) (kk_75 hL) (kn_75 hL) (ov_get hN 1 rfl rfl) (inb_in h_1) (ov_set hN (by rfl) 1 (by rfl)) dX12_summers_194 ?_
      show gV l b0 D K (n, κ, ov X0 [74, 75, 76, 77, 78, 79, 92, 93, 94, 95, 96, 97, 101, 112] [x74, (upd x75 (9 : Int32).toNatClampNeg v5), x76, x77, x78, x79, x92, x93, x94, x95, x96, x97, x101, x112], ov Y0 [99, 100] [y99, y100], Z, 0, 0) 195 [(0, .ref (b0 + 74)), (1, .int v1), (2, .int v2), (3, .int v3), (4, .int v4), (5, .int v5), (6, .int v6), (7, .int v7), (8, .int v8), (9, .int v9)] []
      refine g_iload hC 4 dX12_summers_195 rfl ?_
      refine g_if_ne hC 205 dX12_summers_197 (by decide) (fun hc => ?_) (fun hc => ?_)
      · replace hf := ifF hf hc
        refine g_iload hC 8 dX12_summers_205 rfl ?_
        obtain ⟨rfl, rfl, rfl, rfl, rfl, rfl, rfl, rfl, rfl, rfl⟩ := sm10E hf
        exact hret _ _ rfl dX12_summers_207
      · replace hf := ifT hf hc
        refine g_iload hC 7 dX12_summers_200 rfl ?_
        refine g_goto hC 207 dX12_summers_202 (by decide) ?_
        obtain ⟨rfl, rfl, rfl, rfl, rfl, rfl, rfl, rfl, rfl, rfl⟩ := sm10E hf
        exact hret _ _ rfl dX12_summers_207
    · replace hf := ifF hf hc
      refine g_aload_n hC 0 dX12_summers_88 rfl rfl ?_
      refine gt_X12_9 hC (a := 74) (kk_74 hL) (kn_74 hL) dX12_summers_89 ?_
      refine g_ref (b := 75) rfl ?_
      refine g_bipush hC (v := 9) dX12_summers_92 bp_9 ?_
      refine g_iload hC 6 dX12_summers_94 rfl ?_
      obtain ⟨h_2, hf⟩ := gdE hf
      refine g_iast hC (x := x75) (kk_75 hL) (kn_75 hL) (ov_get hN 1 rfl rfl) (inb_in h_2) (ov_set hN (by rfl) 1 (by rfl)) dX12_summers_96 ?_
      show gV l b0 D K (n, κ, ov X0 [74, 75, 76, 77, 78, 79, 92, 93, 94, 95, 96, 97, 101, 112] [x74, (upd x75 (9 : Int32).toNatClampNeg v6), x76, x77, x78, x79, x92, x93, x94, x95, x96, x97, x101, x112], ov Y0 [99, 100] [y99, y100], Z, 0, 0) 97 [(0, .ref (b0 + 74)), (1, .int v1), (2, .int v2), (3, .int v3), (4, .int v4), (5, .int v5), (6, .int v6), (7, .int v7), (8, .int v8), (9, .int v9)] []
      refine g_iconst hC (v := 0) dX12_summers_97 ic_0 ?_
      refine g_istore hC (i := 10) [(10, .int 0), (0, .ref (b0 + 74)), (1, .int v1), (2, .int v2), (3, .int v3), (4, .int v4), (5, .int v5), (6, .int v6), (7, .int v7), (8, .int v8), (9, .int v9)] dX12_summers_98 (by decide) rfl ?_
      exact g_sub [1, 2, 3, 4, 5, 6, 8, 9, 10, 0] rfl (wX12_summers_100 hL hN hM hC  hret hk82 5000 v1 v2 v3 v4 v5 v7 v8 v9 0 x74 (upd x75 (9 : Int32).toNatClampNeg v6) x76 x77 x78 x101 x112 y99 y100 hf)

def fX12_summers_0   (x79 : Nat → Int32) (x92 : Nat → Int32) (x93 : Nat → Int32) (x94 : Nat → Int32) (x95 : Nat → Int32) (x96 : Nat → Int32) (x97 : Nat → Int32)  (v1 : Int32) (v2 : Int32) (v3 : Int32) (v4 : Int32) (x74 : (Nat → Int32)) (x75 : (Nat → Int32)) (x76 : (Nat → Int32)) (x77 : (Nat → Int32)) (x78 : (Nat → Int32)) (x101 : (Nat → Int32)) (x112 : (Nat → Int32)) (y99 : (Nat → Int64)) (y100 : (Nat → Int64)) : Option (Int32 × (Nat → Int32) × (Nat → Int32) × (Nat → Int32) × (Nat → Int32) × (Nat → Int32) × (Nat → Int32) × (Nat → Int32) × (Nat → Int64) × (Nat → Int64)) := bd1 (fX12_isTown x75) fun r_1 => (if r_1 = 0 then (some ((-1), x74, x75, x76, x77, x78, x101, x112, y99, y100)) else (bd1 (fX12_in v1.toInt64 1 10) fun r_3 => (if r_3 = 0 then (some ((-1), x74, x75, x76, x77, x78, x101, x112, y99, y100)) else (bd1 (fX12_in v2.toInt64 1 60) fun r_5 => (if r_5 = 0 then (some ((-1), x74, x75, x76, x77, x78, x101, x112, y99, y100)) else (bd1 (fX12_in v3.toInt64 0 100) fun r_7 => (if r_7 = 0 then (some ((-1), x74, x75, x76, x77, x78, x101, x112, y99, y100)) else (bd1 (fX12_in v4.toInt64 0 1) fun r_9 => (if r_9 = 0 then (some ((-1), x74, x75, x76, x77, x78, x101, x112, y99, y100)) else (gd (inb 9 11) (bn (x75 (9 : Int32).toNatClampNeg) fun t_12 => (bd6 (fX12_keepsAll x74 x75 x76 x77 x78 x112) fun x74_13 x75_14 x76_15 x77_16 x78_17 x112_18 => (fX12_summers_82 x79 x92 x93 x94 x95 x96 x97  v1 v2 v3 v4 t_12 t_12 0 0 0 x74_13 x75_14 x76_15 x77_16 x78_17 x101 x112_18 y99 y100)))))))))))))
set_option maxHeartbeats 4000000 in
set_option maxRecDepth 100000 in
theorem wX12_summers_0 {l : Launch} {b0 : Nat} {D : GD} {K : KT} {n : Nat} {κ : QT} {X0 : XT} {Y0 : YT} {Z : ZT} (hL : LY n κ) (hN : ([74, 75, 76, 77, 78, 79, 92, 93, 94, 95, 96, 97, 101, 112] : List Nat).Nodup) (hM : ([99, 100] : List Nat).Nodup) (hC : gC l b0 D K RX12 cX12_summers (some FieldType.int) 11 7 166 0 0) {x79 : Nat → Int32} {x92 : Nat → Int32} {x93 : Nat → Int32} {x94 : Nat → Int32} {x95 : Nat → Int32} {x96 : Nat → Int32} {x97 : Nat → Int32} {r : Int32} {rx74 : (Nat → Int32)} {rx75 : (Nat → Int32)} {rx76 : (Nat → Int32)} {rx77 : (Nat → Int32)} {rx78 : (Nat → Int32)} {rx101 : (Nat → Int32)} {rx112 : (Nat → Int32)} {ry99 : (Nat → Int64)} {ry100 : (Nat → Int64)} (hret : ∀ pc loc, narrow .int (.int r) = .int r → decode cX12_summers pc = .ok (.ireturn, 1) → gV l b0 D K (n, κ, ov X0 [74, 75, 76, 77, 78, 79, 92, 93, 94, 95, 96, 97, 101, 112] [rx74, rx75, rx76, rx77, rx78, x79, x92, x93, x94, x95, x96, x97, rx101, rx112], ov Y0 [99, 100] [ry99, ry100], Z, 0, 0) pc loc [.int r]) {v1 : Int32} {v2 : Int32} {v3 : Int32} {v4 : Int32} {x74 : (Nat → Int32)} {x75 : (Nat → Int32)} {x76 : (Nat → Int32)} {x77 : (Nat → Int32)} {x78 : (Nat → Int32)} {x101 : (Nat → Int32)} {x112 : (Nat → Int32)} {y99 : (Nat → Int64)} {y100 : (Nat → Int64)} (hf : fX12_summers_0 x79 x92 x93 x94 x95 x96 x97  v1 v2 v3 v4 x74 x75 x76 x77 x78 x101 x112 y99 y100 = some (r, rx74, rx75, rx76, rx77, rx78, rx101, rx112, ry99, ry100)) : gV l b0 D K (n, κ, ov X0 [74, 75, 76, 77, 78, 79, 92, 93, 94, 95, 96, 97, 101, 112] [x74, x75, x76, x77, x78, x79, x92, x93, x94, x95, x96, x97, x101, x112], ov Y0 [99, 100] [y99, y100], Z, 0, 0) 0 [(0, .ref (b0 + 74)), (1, .int v1), (2, .int v2), (3, .int v3), (4, .int v4)] [] := by
  unfold fX12_summers_0 at hf
  refine g_aload_n hC 0 dX12_summers_0 rfl rfl ?_
  obtain ⟨r_1, q_2, hf⟩ := bd1E hf
  refine g_callV_i (a := 74) hC (X' := ov X0 [74, 75, 76, 77, 78, 79, 92, 93, 94, 95, 96, 97, 101, 112] [x74, x75, x76, x77, x78, x79, x92, x93, x94, x95, x96, x97, x101, x112]) (Y' := ov Y0 [99, 100] [y99, y100]) (As := []) (gMi_eq (c_X12_isTown l hL (ov_map hN [1] (by rfl) (by rfl)) (ov_map hM [] (by rfl) (by rfl)) q_2) (ov_ovE hN (by rfl) [1] [0, 2, 3, 4, 5, 6, 7, 8, 9, 10, 11, 12, 13] (by rfl) (by rfl) [x74, x76, x77, x78, x79, x92, x93, x94, x95, x96, x97, x101, x112] (by rfl) (by rfl) (by rfl) 14 (by rfl) (by decide)) (ov_ovE hM (by rfl) [] [0, 1] (by rfl) (by rfl) [y99, y100] (by rfl) (by rfl) (by rfl) 2 (by rfl) (by decide))) tw_1585 tw_1582 tw_127 tw_1584 tw_84 (ci := 12) rfl (by decide) (kk_74 hL) (kn_74 hL) pd_X12_isTown (by decide) (by decide) rfl rfl (Nat.le_of_ble_eq_true rfl) rfl dX12_summers_1 ?_
  refine g_if_eq hC 54 dX12_summers_4 (by decide) (fun hc => ?_) (fun hc => ?_)
  · replace hf := ifT hf hc
    refine g_iconst hC (v := (-1)) dX12_summers_54 ic_m1 ?_
    obtain ⟨rfl, rfl, rfl, rfl, rfl, rfl, rfl, rfl, rfl, rfl⟩ := sm10E hf
    exact hret _ _ rfl dX12_summers_55
  · replace hf := ifF hf hc
    refine g_iload_n hC 1 dX12_summers_7 rfl rfl ?_
    refine g_i2l hC dX12_summers_8 ?_
    refine g_lconst hC (v := 1) dX12_summers_9 rfl ?_
    refine g_ldc2_w hC (v := 10) tw_1804 dX12_summers_10 ?_
    obtain ⟨r_3, q_4, hf⟩ := bd1E hf
    refine g_callS_i hC (X' := ov X0 [74, 75, 76, 77, 78, 79, 92, 93, 94, 95, 96, 97, 101, 112] [x74, x75, x76, x77, x78, x79, x92, x93, x94, x95, x96, x97, x101, x112]) (Y' := ov Y0 [99, 100] [y99, y100]) (As := [.long v1.toInt64, .long 1, .long 10]) (gMi_eq (c_X12_in l hL (ov_map hN [] (by rfl) (by rfl)) (ov_map hM [] (by rfl) (by rfl)) q_4) (ov_ovE hN (by rfl) [] [0, 1, 2, 3, 4, 5, 6, 7, 8, 9, 10, 11, 12, 13] (by rfl) (by rfl) [x74, x75, x76, x77, x78, x79, x92, x93, x94, x95, x96, x97, x101, x112] (by rfl) (by rfl) (by rfl) 14 (by rfl) (by decide)) (ov_ovE hM (by rfl) [] [0, 1] (by rfl) (by rfl) [y99, y100] (by rfl) (by rfl) (by rfl) 2 (by rfl) (by decide))) tw_1428 tw_1426 tw_127 tw_1427 pd_X12_in (by decide) (by decide) rfl rfl (Nat.le_of_ble_eq_true rfl) rfl dX12_summers_13 ?_
    refine g_if_eq hC 54 dX12_summers_16 (by decide) (fun hc => ?_) (fun hc => ?_)
    · replace hf := ifT hf hc
      refine g_iconst hC (v := (-1)) dX12_summers_54 ic_m1 ?_
      obtain ⟨rfl, rfl, rfl, rfl, rfl, rfl, rfl, rfl, rfl, rfl⟩ := sm10E hf
      exact hret _ _ rfl dX12_summers_55
    · replace hf := ifF hf hc
      refine g_iload_n hC 2 dX12_summers_19 rfl rfl ?_
      refine g_i2l hC dX12_summers_20 ?_
      refine g_lconst hC (v := 1) dX12_summers_21 rfl ?_
      refine g_ldc2_w hC (v := 60) tw_1719 dX12_summers_22 ?_
      obtain ⟨r_5, q_6, hf⟩ := bd1E hf
      refine g_callS_i hC (X' := ov X0 [74, 75, 76, 77, 78, 79, 92, 93, 94, 95, 96, 97, 101, 112] [x74, x75, x76, x77, x78, x79, x92, x93, x94, x95, x96, x97, x101, x112]) (Y' := ov Y0 [99, 100] [y99, y100]) (As := [.long v2.toInt64, .long 1, .long 60]) (gMi_eq (c_X12_in l hL (ov_map hN [] (by rfl) (by rfl)) (ov_map hM [] (by rfl) (by rfl)) q_6) (ov_ovE hN (by rfl) [] [0, 1, 2, 3, 4, 5, 6, 7, 8, 9, 10, 11, 12, 13] (by rfl) (by rfl) [x74, x75, x76, x77, x78, x79, x92, x93, x94, x95, x96, x97, x101, x112] (by rfl) (by rfl) (by rfl) 14 (by rfl) (by decide)) (ov_ovE hM (by rfl) [] [0, 1] (by rfl) (by rfl) [y99, y100] (by rfl) (by rfl) (by rfl) 2 (by rfl) (by decide))) tw_1428 tw_1426 tw_127 tw_1427 pd_X12_in (by decide) (by decide) rfl rfl (Nat.le_of_ble_eq_true rfl) rfl dX12_summers_25 ?_
      refine g_if_eq hC 54 dX12_summers_28 (by decide) (fun hc => ?_) (fun hc => ?_)
      · replace hf := ifT hf hc
        refine g_iconst hC (v := (-1)) dX12_summers_54 ic_m1 ?_
        obtain ⟨rfl, rfl, rfl, rfl, rfl, rfl, rfl, rfl, rfl, rfl⟩ := sm10E hf
        exact hret _ _ rfl dX12_summers_55
      · replace hf := ifF hf hc
        refine g_iload_n hC 3 dX12_summers_31 rfl rfl ?_
        refine g_i2l hC dX12_summers_32 ?_
        refine g_lconst hC (v := 0) dX12_summers_33 rfl ?_
        refine g_ldc2_w hC (v := 100) tw_1669 dX12_summers_34 ?_
        obtain ⟨r_7, q_8, hf⟩ := bd1E hf
        refine g_callS_i hC (X' := ov X0 [74, 75, 76, 77, 78, 79, 92, 93, 94, 95, 96, 97, 101, 112] [x74, x75, x76, x77, x78, x79, x92, x93, x94, x95, x96, x97, x101, x112]) (Y' := ov Y0 [99, 100] [y99, y100]) (As := [.long v3.toInt64, .long 0, .long 100]) (gMi_eq (c_X12_in l hL (ov_map hN [] (by rfl) (by rfl)) (ov_map hM [] (by rfl) (by rfl)) q_8) (ov_ovE hN (by rfl) [] [0, 1, 2, 3, 4, 5, 6, 7, 8, 9, 10, 11, 12, 13] (by rfl) (by rfl) [x74, x75, x76, x77, x78, x79, x92, x93, x94, x95, x96, x97, x101, x112] (by rfl) (by rfl) (by rfl) 14 (by rfl) (by decide)) (ov_ovE hM (by rfl) [] [0, 1] (by rfl) (by rfl) [y99, y100] (by rfl) (by rfl) (by rfl) 2 (by rfl) (by decide))) tw_1428 tw_1426 tw_127 tw_1427 pd_X12_in (by decide) (by decide) rfl rfl (Nat.le_of_ble_eq_true rfl) rfl dX12_summers_37 ?_
        refine g_if_eq hC 54 dX12_summers_40 (by decide) (fun hc => ?_) (fun hc => ?_)
        · replace hf := ifT hf hc
          refine g_iconst hC (v := (-1)) dX12_summers_54 ic_m1 ?_
          obtain ⟨rfl, rfl, rfl, rfl, rfl, rfl, rfl, rfl, rfl, rfl⟩ := sm10E hf
          exact hret _ _ rfl dX12_summers_55
        · replace hf := ifF hf hc
          refine g_iload hC 4 dX12_summers_43 rfl ?_
          refine g_i2l hC dX12_summers_45 ?_
          refine g_lconst hC (v := 0) dX12_summers_46 rfl ?_
          refine g_lconst hC (v := 1) dX12_summers_47 rfl ?_
          obtain ⟨r_9, q_10, hf⟩ := bd1E hf
          refine g_callS_i hC (X' := ov X0 [74, 75, 76, 77, 78, 79, 92, 93, 94, 95, 96, 97, 101, 112] [x74, x75, x76, x77, x78, x79, x92, x93, x94, x95, x96, x97, x101, x112]) (Y' := ov Y0 [99, 100] [y99, y100]) (As := [.long v4.toInt64, .long 0, .long 1]) (gMi_eq (c_X12_in l hL (ov_map hN [] (by rfl) (by rfl)) (ov_map hM [] (by rfl) (by rfl)) q_10) (ov_ovE hN (by rfl) [] [0, 1, 2, 3, 4, 5, 6, 7, 8, 9, 10, 11, 12, 13] (by rfl) (by rfl) [x74, x75, x76, x77, x78, x79, x92, x93, x94, x95, x96, x97, x101, x112] (by rfl) (by rfl) (by rfl) 14 (by rfl) (by decide)) (ov_ovE hM (by rfl) [] [0, 1] (by rfl) (by rfl) [y99, y100] (by rfl) (by rfl) (by rfl) 2 (by rfl) (by decide))) tw_1428 tw_1426 tw_127 tw_1427 pd_X12_in (by decide) (by decide) rfl rfl (Nat.le_of_ble_eq_true rfl) rfl dX12_summers_48 ?_
          refine g_if_ne hC 56 dX12_summers_51 (by decide) (fun hc => ?_) (fun hc => ?_)
          · replace hf := ifF hf hc
            refine g_aload_n hC 0 dX12_summers_56 rfl rfl ?_
            refine gt_X12_9 hC (a := 74) (kk_74 hL) (kn_74 hL) dX12_summers_57 ?_
            refine g_ref (b := 75) rfl ?_
            refine g_bipush hC (v := 9) dX12_summers_60 bp_9 ?_
            obtain ⟨h_11, hf⟩ := gdE hf
            refine g_iald hC (x := x75) (kk_75 hL) (kn_75 hL) (ov_get hN 1 rfl rfl) (inb_in h_11) dX12_summers_62 ?_
            obtain ⟨t_12, et_12, hf⟩ := bnE hf
            refine g_topi et_12 ?_
            refine g_istore hC (i := 5) [(5, .int t_12), (0, .ref (b0 + 74)), (1, .int v1), (2, .int v2), (3, .int v3), (4, .int v4)] dX12_summers_63 (by decide) rfl ?_
            refine g_iload hC 0 dX12_summers_65 rfl ?_
            refine g_istore hC (i := 6) [(6, .int t_12), (5, .int t_12), (0, .ref (b0 + 74)), (1, .int v1), (2, .int v2), (3, .int v3), (4, .int v4)] dX12_summers_67 (by decide) rfl ?_
            refine g_iconst hC (v := 0) dX12_summers_69 ic_0 ?_
            refine g_istore hC (i := 7) [(7, .int 0), (6, .int t_12), (5, .int t_12), (0, .ref (b0 + 74)), (1, .int v1), (2, .int v2), (3, .int v3), (4, .int v4)] dX12_summers_70 (by decide) rfl ?_
            refine g_iconst hC (v := 0) dX12_summers_72 ic_0 ?_
            refine g_istore hC (i := 8) [(8, .int 0), (7, .int 0), (6, .int t_12), (5, .int t_12), (0, .ref (b0 + 74)), (1, .int v1), (2, .int v2), (3, .int v3), (4, .int v4)] dX12_summers_73 (by decide) rfl ?_
            refine g_aload_n hC 4 dX12_summers_75 rfl rfl ?_
            obtain ⟨x74_13, x75_14, x76_15, x77_16, x78_17, x112_18, q_19, hf⟩ := bd6E hf
            refine g_callV_v (a := 74) hC (X' := ov X0 [74, 75, 76, 77, 78, 79, 92, 93, 94, 95, 96, 97, 101, 112] [x74_13, x75_14, x76_15, x77_16, x78_17, x79, x92, x93, x94, x95, x96, x97, x101, x112_18]) (Y' := ov Y0 [99, 100] [y99, y100]) (As := []) (gMv_eq (c_X12_keepsAll l hL (ov_map hN [0, 1, 2, 3, 4, 13] (by rfl) (by rfl)) (ov_map hM [] (by rfl) (by rfl)) q_19) (ov_ovE hN (by rfl) [0, 1, 2, 3, 4, 13] [5, 6, 7, 8, 9, 10, 11, 12] (by rfl) (by rfl) [x79, x92, x93, x94, x95, x96, x97, x101] (by rfl) (by rfl) (by rfl) 14 (by rfl) (by decide)) (ov_ovE hM (by rfl) [] [0, 1] (by rfl) (by rfl) [y99, y100] (by rfl) (by rfl) (by rfl) 2 (by rfl) (by decide))) tw_1673 tw_1670 tw_127 tw_1672 tw_97 (ci := 12) rfl (by decide) (kk_74 hL) (kn_74 hL) pd_X12_keepsAll (by decide) (by decide) rfl rfl (Nat.le_of_ble_eq_true rfl) rfl dX12_summers_76 ?_
            refine g_iconst hC (v := 0) dX12_summers_79 ic_0 ?_
            refine g_istore hC (i := 9) [(9, .int 0), (8, .int 0), (7, .int 0), (6, .int t_12), (5, .int t_12), (0, .ref (b0 + 74)), (1, .int v1), (2, .int v2), (3, .int v3), (4, .int v4)] dX12_summers_80 (by decide) rfl ?_
            exact g_sub [5, 6, 7, 8, 9, 4, 3, 2, 1, 0] rfl (wX12_summers_82 hL hN hM hC  hret  5000 v1 v2 v3 v4 t_12 t_12 0 0 0 x74_13 x75_14 x76_15 x77_16 x78_17 x101 x112_18 y99 y100 hf)
          · replace hf := ifT hf hc
            refine g_iconst hC (v := (-1)) dX12_summers_54 ic_m1 ?_
            obtain ⟨rfl, rfl, rfl, rfl, rfl, rfl, rfl, rfl, rfl, rfl⟩ := sm10E hf
            exact hret _ _ rfl dX12_summers_55

def fX12_summers   (x79 : Nat → Int32) (x92 : Nat → Int32) (x93 : Nat → Int32) (x94 : Nat → Int32) (x95 : Nat → Int32) (x96 : Nat → Int32) (x97 : Nat → Int32)  (v1 : Int32) (v2 : Int32) (v3 : Int32) (v4 : Int32) (x74 : Nat → Int32) (x75 : Nat → Int32) (x76 : Nat → Int32) (x77 : Nat → Int32) (x78 : Nat → Int32) (x101 : Nat → Int32) (x112 : Nat → Int32) (y99 : Nat → Int64) (y100 : Nat → Int64) : Option (Int32 × (Nat → Int32) × (Nat → Int32) × (Nat → Int32) × (Nat → Int32) × (Nat → Int32) × (Nat → Int32) × (Nat → Int32) × (Nat → Int64) × (Nat → Int64)) := fX12_summers_0 x79 x92 x93 x94 x95 x96 x97 v1 v2 v3 v4 x74 x75 x76 x77 x78 x101 x112 y99 y100

set_option maxHeartbeats 4000000 in
set_option maxRecDepth 100000 in
theorem c_X12_summers (l : Launch) {b0 : Nat} {D : GD} {n : Nat} {κ : QT} {X0 : XT} {Y0 : YT} {Z : ZT} (hL : LY n κ) {x74 : Nat → Int32} {x75 : Nat → Int32} {x76 : Nat → Int32} {x77 : Nat → Int32} {x78 : Nat → Int32} {x79 : Nat → Int32} {x92 : Nat → Int32} {x93 : Nat → Int32} {x94 : Nat → Int32} {x95 : Nat → Int32} {x96 : Nat → Int32} {x97 : Nat → Int32} {x101 : Nat → Int32} {x112 : Nat → Int32} {y99 : Nat → Int64} {y100 : Nat → Int64} (hx : ([74, 75, 76, 77, 78, 79, 92, 93, 94, 95, 96, 97, 101, 112] : List Nat).map X0 = [x74, x75, x76, x77, x78, x79, x92, x93, x94, x95, x96, x97, x101, x112]) (hy : ([99, 100] : List Nat).map Y0 = [y99, y100]) {v1 : Int32} {v2 : Int32} {v3 : Int32} {v4 : Int32} {r : Int32} {rx74 : (Nat → Int32)} {rx75 : (Nat → Int32)} {rx76 : (Nat → Int32)} {rx77 : (Nat → Int32)} {rx78 : (Nat → Int32)} {rx101 : (Nat → Int32)} {rx112 : (Nat → Int32)} {ry99 : (Nat → Int64)} {ry100 : (Nat → Int64)} (hf : fX12_summers x79 x92 x93 x94 x95 x96 x97 v1 v2 v3 v4 x74 x75 x76 x77 x78 x101 x112 y99 y100 = some (r, rx74, rx75, rx76, rx77, rx78, rx101, rx112, ry99, ry100)) : gMi l yX12_summers cX12_summers 11 (some FieldType.int) 7 166 0 0 b0 D [.ref (b0 + 74), .int v1, .int v2, .int v3, .int v4] (n, κ, X0, Y0, Z) (n, κ, ov X0 [74, 75, 76, 77, 78, 79, 92, 93, 94, 95, 96, 97, 101, 112] [rx74, rx75, rx76, rx77, rx78, x79, x92, x93, x94, x95, x96, x97, rx101, rx112], ov Y0 [99, 100] [ry99, ry100], Z) r := by
  have hN : ([74, 75, 76, 77, 78, 79, 92, 93, 94, 95, 96, 97, 101, 112] : List Nat).Nodup := by decide
  have hM : ([99, 100] : List Nat).Nodup := by decide
  refine g_meti (own := RX12) (by decide) rfl rfl (Nat.le_of_ble_eq_true rfl) ?_
  intro K hC hret
  have e := wX12_summers_0 hL hN hM hC  hret hf
  rw [ov_id' hx, ov_id' hy] at e
  exact g_sub [0, 1, 2, 3, 4] rfl e

-- X12_count
def fX12_count_0   (x74 : Nat → Int32) (x75 : Nat → Int32) (x76 : Nat → Int32) (x79 : Nat → Int32)  (v1 : Int32) : Option (Int32) := if v1.toInt = 0 then (gd (inb 0 11) (some (x75 (0 : Int32).toNatClampNeg))) else (if v1.toInt = 1 then (gd (inb 2 11) (some (x75 (2 : Int32).toNatClampNeg))) else (if v1.toInt = 2 then (gd (inb 3 11) (some (x75 (3 : Int32).toNatClampNeg))) else (if v1.toInt = 3 then (gd (inb 4 11) (some (x75 (4 : Int32).toNatClampNeg))) else (if v1.toInt = 4 then (some (x74 21)) else (if v1.toInt = 5 then (gd (inb 10 11) (some (x75 (10 : Int32).toNatClampNeg))) else (if v1.toInt = 6 then (gd (inb 5 11) (some (x75 (5 : Int32).toNatClampNeg))) else (if v1.toInt = 7 then (bd1 (fX12_heat x74 x75 x79) fun r_15 => (some r_15)) else (if v1.toInt = 8 then (gd (inb 6 11) (some (x75 (6 : Int32).toNatClampNeg))) else (if v1.toInt = 9 then (gd (inb 7 11) (some (x75 (7 : Int32).toNatClampNeg))) else (if v1.toInt = 10 then (bd1 (fX12_inRiver x75 x76) fun r_22 => (some r_22)) else (if v1.toInt = 11 then (bd1 (fX12_allPlaces x75 x76) fun r_25 => (some r_25)) else (if v1.toInt = 12 then (gd (inb 8 11) (some (x75 (8 : Int32).toNatClampNeg))) else (if v1.toInt = 13 then (some (x74 43)) else (if v1.toInt = 14 then (gd (inb 9 11) (some (x75 (9 : Int32).toNatClampNeg))) else (if v1.toInt = 15 then (some (x74 17)) else (some (-1)))))))))))))))))
set_option maxHeartbeats 4000000 in
set_option maxRecDepth 100000 in
theorem wX12_count_0 {l : Launch} {b0 : Nat} {D : GD} {K : KT} {n : Nat} {κ : QT} {X0 : XT} {Y0 : YT} {Z : ZT} (hL : LY n κ) (hN : ([74, 75, 76, 79] : List Nat).Nodup) (hM : ([] : List Nat).Nodup) (hC : gC l b0 D K RX12 cX12_count (some FieldType.int) 2 2 43 0 0) {x74 : Nat → Int32} {x75 : Nat → Int32} {x76 : Nat → Int32} {x79 : Nat → Int32} {r : Int32} (hret : ∀ pc loc, narrow .int (.int r) = .int r → decode cX12_count pc = .ok (.ireturn, 1) → gV l b0 D K (n, κ, ov X0 [74, 75, 76, 79] [x74, x75, x76, x79], ov Y0 [] [], Z, 0, 0) pc loc [.int r]) {v1 : Int32} (hf : fX12_count_0 x74 x75 x76 x79  v1 = some r) : gV l b0 D K (n, κ, ov X0 [74, 75, 76, 79] [x74, x75, x76, x79], ov Y0 [] [], Z, 0, 0) 0 [(0, .ref (b0 + 74)), (1, .int v1)] [] := by
  unfold fX12_count_0 at hf
  refine g_iload_n hC 1 dX12_count_0 rfl rfl ?_
  by_cases c_1 : v1.toInt = 0
  · replace hf := ifT hf c_1
    refine g_tabIn hC 80 dX12_count_1 (by omega) (by omega) (by rw [c_1]; rfl) (by decide) ?_
    refine g_aload_n hC 0 dX12_count_80 rfl rfl ?_
    refine gt_X12_9 hC (a := 74) (kk_74 hL) (kn_74 hL) dX12_count_81 ?_
    refine g_ref (b := 75) rfl ?_
    refine g_iconst hC (v := 0) dX12_count_84 ic_0 ?_
    obtain ⟨h_2, hf⟩ := gdE hf
    refine g_iald hC (x := x75) (kk_75 hL) (kn_75 hL) (ov_get hN 1 rfl rfl) (inb_in h_2) dX12_count_85 ?_
    obtain rfl := sm1E hf
    exact hret _ _ rfl dX12_count_86
  replace hf := ifF hf c_1
  by_cases c_3 : v1.toInt = 1
  · replace hf := ifT hf c_3
    refine g_tabIn hC 87 dX12_count_1 (by omega) (by omega) (by rw [c_3]; rfl) (by decide) ?_
    refine g_aload_n hC 0 dX12_count_87 rfl rfl ?_
    refine gt_X12_9 hC (a := 74) (kk_74 hL) (kn_74 hL) dX12_count_88 ?_
    refine g_ref (b := 75) rfl ?_
    refine g_iconst hC (v := 2) dX12_count_91 ic_2 ?_
    obtain ⟨h_4, hf⟩ := gdE hf
    refine g_iald hC (x := x75) (kk_75 hL) (kn_75 hL) (ov_get hN 1 rfl rfl) (inb_in h_4) dX12_count_92 ?_
    obtain rfl := sm1E hf
    exact hret _ _ rfl dX12_count_93
  replace hf := ifF hf c_3
  by_cases c_5 : v1.toInt = 2
  · replace hf := ifT hf c_5
    refine g_tabIn hC 94 dX12_count_1 (by omega) (by omega) (by rw [c_5]; rfl) (by decide) ?_
    refine g_aload_n hC 0 dX12_count_94 rfl rfl ?_
    refine gt_X12_9 hC (a := 74) (kk_74 hL) (kn_74 hL) dX12_count_95 ?_
    refine g_ref (b := 75) rfl ?_
    refine g_iconst hC (v := 3) dX12_count_98 ic_3 ?_
    obtain ⟨h_6, hf⟩ := gdE hf
    refine g_iald hC (x := x75) (kk_75 hL) (kn_75 hL) (ov_get hN 1 rfl rfl) (inb_in h_6) dX12_count_99 ?_
    obtain rfl := sm1E hf
    exact hret _ _ rfl dX12_count_100
  replace hf := ifF hf c_5
  by_cases c_7 : v1.toInt = 3
  · replace hf := ifT hf c_7
    refine g_tabIn hC 101 dX12_count_1 (by omega) (by omega) (by rw [c_7]; rfl) (by decide) ?_
    refine g_aload_n hC 0 dX12_count_101 rfl rfl ?_
    refine gt_X12_9 hC (a := 74) (kk_74 hL) (kn_74 hL) dX12_count_102 ?_
    refine g_ref (b := 75) rfl ?_
    refine g_iconst hC (v := 4) dX12_count_105 ic_4 ?_
    obtain ⟨h_8, hf⟩ := gdE hf
    refine g_iald hC (x := x75) (kk_75 hL) (kn_75 hL) (ov_get hN 1 rfl rfl) (inb_in h_8) dX12_count_106 ?_
    obtain rfl := sm1E hf
    exact hret _ _ rfl dX12_count_107
  replace hf := ifF hf c_7
  by_cases c_9 : v1.toInt = 4
  · replace hf := ifT hf c_9
    refine g_tabIn hC 108 dX12_count_1 (by omega) (by omega) (by rw [c_9]; rfl) (by decide) ?_
    refine g_aload_n hC 0 dX12_count_108 rfl rfl ?_
    refine gt_X12_333 hC (x := x74) (kk_74 hL) (kn_74 hL) (ov_get hN 0 rfl rfl) dX12_count_109 ?_
    obtain rfl := sm1E hf
    exact hret _ _ rfl dX12_count_112
  replace hf := ifF hf c_9
  by_cases c_10 : v1.toInt = 5
  · replace hf := ifT hf c_10
    refine g_tabIn hC 113 dX12_count_1 (by omega) (by omega) (by rw [c_10]; rfl) (by decide) ?_
    refine g_aload_n hC 0 dX12_count_113 rfl rfl ?_
    refine gt_X12_9 hC (a := 74) (kk_74 hL) (kn_74 hL) dX12_count_114 ?_
    refine g_ref (b := 75) rfl ?_
    refine g_bipush hC (v := 10) dX12_count_117 bp_10 ?_
    obtain ⟨h_11, hf⟩ := gdE hf
    refine g_iald hC (x := x75) (kk_75 hL) (kn_75 hL) (ov_get hN 1 rfl rfl) (inb_in h_11) dX12_count_119 ?_
    obtain rfl := sm1E hf
    exact hret _ _ rfl dX12_count_120
  replace hf := ifF hf c_10
  by_cases c_12 : v1.toInt = 6
  · replace hf := ifT hf c_12
    refine g_tabIn hC 121 dX12_count_1 (by omega) (by omega) (by rw [c_12]; rfl) (by decide) ?_
    refine g_aload_n hC 0 dX12_count_121 rfl rfl ?_
    refine gt_X12_9 hC (a := 74) (kk_74 hL) (kn_74 hL) dX12_count_122 ?_
    refine g_ref (b := 75) rfl ?_
    refine g_iconst hC (v := 5) dX12_count_125 ic_5 ?_
    obtain ⟨h_13, hf⟩ := gdE hf
    refine g_iald hC (x := x75) (kk_75 hL) (kn_75 hL) (ov_get hN 1 rfl rfl) (inb_in h_13) dX12_count_126 ?_
    obtain rfl := sm1E hf
    exact hret _ _ rfl dX12_count_127
  replace hf := ifF hf c_12
  by_cases c_14 : v1.toInt = 7
  · replace hf := ifT hf c_14
    refine g_tabIn hC 128 dX12_count_1 (by omega) (by omega) (by rw [c_14]; rfl) (by decide) ?_
    refine g_aload_n hC 0 dX12_count_128 rfl rfl ?_
    obtain ⟨r_15, q_16, hf⟩ := bd1E hf
    refine g_callV_i (a := 74) hC (X' := ov X0 [74, 75, 76, 79] [x74, x75, x76, x79]) (Y' := ov Y0 [] []) (As := []) (gMi_eq (c_X12_heat l hL (ov_map hN [0, 1, 3] (by rfl) (by rfl)) (ov_map hM [] (by rfl) (by rfl)) q_16) (ov_ovE hN (by rfl) [0, 1, 3] [2] (by rfl) (by rfl) [x76] (by rfl) (by rfl) (by rfl) 4 (by rfl) (by decide)) (ov_ovE hM (by rfl) [] [] (by rfl) (by rfl) [] (by rfl) (by rfl) (by rfl) 0 (by rfl) (by decide))) tw_1538 tw_1535 tw_127 tw_1537 tw_76 (ci := 12) rfl (by decide) (kk_74 hL) (kn_74 hL) pd_X12_heat (by decide) (by decide) rfl rfl (Nat.le_of_ble_eq_true rfl) rfl dX12_count_129 ?_
    obtain rfl := sm1E hf
    exact hret _ _ rfl dX12_count_132
  replace hf := ifF hf c_14
  by_cases c_17 : v1.toInt = 8
  · replace hf := ifT hf c_17
    refine g_tabIn hC 133 dX12_count_1 (by omega) (by omega) (by rw [c_17]; rfl) (by decide) ?_
    refine g_aload_n hC 0 dX12_count_133 rfl rfl ?_
    refine gt_X12_9 hC (a := 74) (kk_74 hL) (kn_74 hL) dX12_count_134 ?_
    refine g_ref (b := 75) rfl ?_
    refine g_bipush hC (v := 6) dX12_count_137 bp_6 ?_
    obtain ⟨h_18, hf⟩ := gdE hf
    refine g_iald hC (x := x75) (kk_75 hL) (kn_75 hL) (ov_get hN 1 rfl rfl) (inb_in h_18) dX12_count_139 ?_
    obtain rfl := sm1E hf
    exact hret _ _ rfl dX12_count_140
  replace hf := ifF hf c_17
  by_cases c_19 : v1.toInt = 9
  · replace hf := ifT hf c_19
    refine g_tabIn hC 141 dX12_count_1 (by omega) (by omega) (by rw [c_19]; rfl) (by decide) ?_
    refine g_aload_n hC 0 dX12_count_141 rfl rfl ?_
    refine gt_X12_9 hC (a := 74) (kk_74 hL) (kn_74 hL) dX12_count_142 ?_
    refine g_ref (b := 75) rfl ?_
    refine g_bipush hC (v := 7) dX12_count_145 bp_7 ?_
    obtain ⟨h_20, hf⟩ := gdE hf
    refine g_iald hC (x := x75) (kk_75 hL) (kn_75 hL) (ov_get hN 1 rfl rfl) (inb_in h_20) dX12_count_147 ?_
    obtain rfl := sm1E hf
    exact hret _ _ rfl dX12_count_148
  replace hf := ifF hf c_19
  by_cases c_21 : v1.toInt = 10
  · replace hf := ifT hf c_21
    refine g_tabIn hC 149 dX12_count_1 (by omega) (by omega) (by rw [c_21]; rfl) (by decide) ?_
    refine g_aload_n hC 0 dX12_count_149 rfl rfl ?_
    obtain ⟨r_22, q_23, hf⟩ := bd1E hf
    refine g_callV_i (a := 74) hC (X' := ov X0 [74, 75, 76, 79] [x74, x75, x76, x79]) (Y' := ov Y0 [] []) (As := []) (gMi_eq (c_X12_inRiver l hL (ov_map hN [1, 2] (by rfl) (by rfl)) (ov_map hM [] (by rfl) (by rfl)) q_23) (ov_ovE hN (by rfl) [1, 2] [0, 3] (by rfl) (by rfl) [x74, x79] (by rfl) (by rfl) (by rfl) 4 (by rfl) (by decide)) (ov_ovE hM (by rfl) [] [] (by rfl) (by rfl) [] (by rfl) (by rfl) (by rfl) 0 (by rfl) (by decide))) tw_1689 tw_1686 tw_127 tw_1688 tw_101 (ci := 12) rfl (by decide) (kk_74 hL) (kn_74 hL) pd_X12_inRiver (by decide) (by decide) rfl rfl (Nat.le_of_ble_eq_true rfl) rfl dX12_count_150 ?_
    obtain rfl := sm1E hf
    exact hret _ _ rfl dX12_count_153
  replace hf := ifF hf c_21
  by_cases c_24 : v1.toInt = 11
  · replace hf := ifT hf c_24
    refine g_tabIn hC 154 dX12_count_1 (by omega) (by omega) (by rw [c_24]; rfl) (by decide) ?_
    refine g_aload_n hC 0 dX12_count_154 rfl rfl ?_
    obtain ⟨r_25, q_26, hf⟩ := bd1E hf
    refine g_callV_i (a := 74) hC (X' := ov X0 [74, 75, 76, 79] [x74, x75, x76, x79]) (Y' := ov Y0 [] []) (As := []) (gMi_eq (c_X12_allPlaces l hL (ov_map hN [1, 2] (by rfl) (by rfl)) (ov_map hM [] (by rfl) (by rfl)) q_26) (ov_ovE hN (by rfl) [1, 2] [0, 3] (by rfl) (by rfl) [x74, x79] (by rfl) (by rfl) (by rfl) 4 (by rfl) (by decide)) (ov_ovE hM (by rfl) [] [] (by rfl) (by rfl) [] (by rfl) (by rfl) (by rfl) 0 (by rfl) (by decide))) tw_1749 tw_1746 tw_127 tw_1748 tw_108 (ci := 12) rfl (by decide) (kk_74 hL) (kn_74 hL) pd_X12_allPlaces (by decide) (by decide) rfl rfl (Nat.le_of_ble_eq_true rfl) rfl dX12_count_155 ?_
    obtain rfl := sm1E hf
    exact hret _ _ rfl dX12_count_158
  replace hf := ifF hf c_24
  by_cases c_27 : v1.toInt = 12
  · replace hf := ifT hf c_27
    refine g_tabIn hC 159 dX12_count_1 (by omega) (by omega) (by rw [c_27]; rfl) (by decide) ?_
    refine g_aload_n hC 0 dX12_count_159 rfl rfl ?_
    refine gt_X12_9 hC (a := 74) (kk_74 hL) (kn_74 hL) dX12_count_160 ?_
    refine g_ref (b := 75) rfl ?_
    refine g_bipush hC (v := 8) dX12_count_163 bp_8 ?_
    obtain ⟨h_28, hf⟩ := gdE hf
    refine g_iald hC (x := x75) (kk_75 hL) (kn_75 hL) (ov_get hN 1 rfl rfl) (inb_in h_28) dX12_count_165 ?_
    obtain rfl := sm1E hf
    exact hret _ _ rfl dX12_count_166
  replace hf := ifF hf c_27
  by_cases c_29 : v1.toInt = 13
  · replace hf := ifT hf c_29
    refine g_tabIn hC 167 dX12_count_1 (by omega) (by omega) (by rw [c_29]; rfl) (by decide) ?_
    refine g_aload_n hC 0 dX12_count_167 rfl rfl ?_
    refine gt_X12_320 hC (x := x74) (kk_74 hL) (kn_74 hL) (ov_get hN 0 rfl rfl) dX12_count_168 ?_
    obtain rfl := sm1E hf
    exact hret _ _ rfl dX12_count_171
  replace hf := ifF hf c_29
  by_cases c_30 : v1.toInt = 14
  · replace hf := ifT hf c_30
    refine g_tabIn hC 172 dX12_count_1 (by omega) (by omega) (by rw [c_30]; rfl) (by decide) ?_
    refine g_aload_n hC 0 dX12_count_172 rfl rfl ?_
    refine gt_X12_9 hC (a := 74) (kk_74 hL) (kn_74 hL) dX12_count_173 ?_
    refine g_ref (b := 75) rfl ?_
    refine g_bipush hC (v := 9) dX12_count_176 bp_9 ?_
    obtain ⟨h_31, hf⟩ := gdE hf
    refine g_iald hC (x := x75) (kk_75 hL) (kn_75 hL) (ov_get hN 1 rfl rfl) (inb_in h_31) dX12_count_178 ?_
    obtain rfl := sm1E hf
    exact hret _ _ rfl dX12_count_179
  replace hf := ifF hf c_30
  by_cases c_32 : v1.toInt = 15
  · replace hf := ifT hf c_32
    refine g_tabIn hC 180 dX12_count_1 (by omega) (by omega) (by rw [c_32]; rfl) (by decide) ?_
    refine g_aload_n hC 0 dX12_count_180 rfl rfl ?_
    refine gt_X12_151 hC (x := x74) (kk_74 hL) (kn_74 hL) (ov_get hN 0 rfl rfl) dX12_count_181 ?_
    obtain rfl := sm1E hf
    exact hret _ _ rfl dX12_count_184
  replace hf := ifF hf c_32
  refine g_tabOut hC 185 dX12_count_1 (by omega) (by decide) ?_
  refine g_iconst hC (v := (-1)) dX12_count_185 ic_m1 ?_
  obtain rfl := sm1E hf
  exact hret _ _ rfl dX12_count_186

def fX12_count   (x74 : Nat → Int32) (x75 : Nat → Int32) (x76 : Nat → Int32) (x79 : Nat → Int32)  (v1 : Int32)   : Option (Int32) := fX12_count_0 x74 x75 x76 x79 v1

set_option maxHeartbeats 4000000 in
set_option maxRecDepth 100000 in
theorem c_X12_count (l : Launch) {b0 : Nat} {D : GD} {n : Nat} {κ : QT} {X0 : XT} {Y0 : YT} {Z : ZT} (hL : LY n κ) {x74 : Nat → Int32} {x75 : Nat → Int32} {x76 : Nat → Int32} {x79 : Nat → Int32} (hx : ([74, 75, 76, 79] : List Nat).map X0 = [x74, x75, x76, x79]) (hy : ([] : List Nat).map Y0 = []) {v1 : Int32} {r : Int32} (hf : fX12_count x74 x75 x76 x79 v1 = some r) : gMi l yX12_count cX12_count 2 (some FieldType.int) 2 43 0 0 b0 D [.ref (b0 + 74), .int v1] (n, κ, X0, Y0, Z) (n, κ, ov X0 [74, 75, 76, 79] [x74, x75, x76, x79], ov Y0 [] [], Z) r := by
  have hN : ([74, 75, 76, 79] : List Nat).Nodup := by decide
  have hM : ([] : List Nat).Nodup := by decide
  refine g_meti (own := RX12) (by decide) rfl rfl (Nat.le_of_ble_eq_true rfl) ?_
  intro K hC hret
  have e := wX12_count_0 hL hN hM hC  hret hf
  rw [ov_id' hx, ov_id' hy] at e
  exact g_sub [0, 1] rfl e


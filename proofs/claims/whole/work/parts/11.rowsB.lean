section ROWSB
variable {l : Launch} {b0 : Nat} {D : GD} {K : KT} {own : String} {cc : ByteArray} {ret : Option FieldType} {nL fr lo mc ms : Nat} {σ : SG} {pc : Nat} {loc loc' : List (Nat × Value)} {st : List Value}
theorem g_ineg (hC : gC l b0 D K own cc ret nL fr lo mc ms) {x : Int32} (hd : decode cc pc = .ok (.ineg, 1))  (k : gV l b0 D K σ (pc + 1) loc (.int (-x) :: st)) : gV l b0 D K σ pc loc (.int x :: st) := by
  obtain ⟨p, e, R, s, m, args, below, meth, c, nL0, Q⟩ := K
  obtain ⟨n, κ, X, Y, Z, cs, ss⟩ := σ
  obtain ⟨hx, hb, hr, hml, rfl, hown, hts, hlk, hK, hNw, hb0, rfl⟩ := hC
  intro H locs ls hR hS hl
  exact lv_ineg hx hb hd (k H locs ls hR hS hl)
theorem g_ishl (hC : gC l b0 D K own cc ret nL fr lo mc ms) {x y : Int32} (hd : decode cc pc = .ok (.ishl, 1))  (k : gV l b0 D K σ (pc + 1) loc (.int (x <<< (y &&& 31)) :: st)) : gV l b0 D K σ pc loc (.int y :: .int x :: st) := by
  obtain ⟨p, e, R, s, m, args, below, meth, c, nL0, Q⟩ := K
  obtain ⟨n, κ, X, Y, Z, cs, ss⟩ := σ
  obtain ⟨hx, hb, hr, hml, rfl, hown, hts, hlk, hK, hNw, hb0, rfl⟩ := hC
  intro H locs ls hR hS hl
  exact lv_ishl hx hb hd (k H locs ls hR hS hl)
theorem g_ishr (hC : gC l b0 D K own cc ret nL fr lo mc ms) {x y : Int32} (hd : decode cc pc = .ok (.ishr, 1))  (k : gV l b0 D K σ (pc + 1) loc (.int (x >>> (y &&& 31)) :: st)) : gV l b0 D K σ pc loc (.int y :: .int x :: st) := by
  obtain ⟨p, e, R, s, m, args, below, meth, c, nL0, Q⟩ := K
  obtain ⟨n, κ, X, Y, Z, cs, ss⟩ := σ
  obtain ⟨hx, hb, hr, hml, rfl, hown, hts, hlk, hK, hNw, hb0, rfl⟩ := hC
  intro H locs ls hR hS hl
  exact lv_ishr hx hb hd (k H locs ls hR hS hl)
theorem g_i2l (hC : gC l b0 D K own cc ret nL fr lo mc ms) {x : Int32} (hd : decode cc pc = .ok (.i2l, 1))  (k : gV l b0 D K σ (pc + 1) loc (.long x.toInt64 :: st)) : gV l b0 D K σ pc loc (.int x :: st) := by
  obtain ⟨p, e, R, s, m, args, below, meth, c, nL0, Q⟩ := K
  obtain ⟨n, κ, X, Y, Z, cs, ss⟩ := σ
  obtain ⟨hx, hb, hr, hml, rfl, hown, hts, hlk, hK, hNw, hb0, rfl⟩ := hC
  intro H locs ls hR hS hl
  exact lv_i2l hx hb hd rfl (k H locs ls hR hS hl)
theorem g_l2i (hC : gC l b0 D K own cc ret nL fr lo mc ms) {x : Int64} (hd : decode cc pc = .ok (.l2i, 1))  (k : gV l b0 D K σ (pc + 1) loc (.int x.toInt32 :: st)) : gV l b0 D K σ pc loc (.long x :: st) := by
  obtain ⟨p, e, R, s, m, args, below, meth, c, nL0, Q⟩ := K
  obtain ⟨n, κ, X, Y, Z, cs, ss⟩ := σ
  obtain ⟨hx, hb, hr, hml, rfl, hown, hts, hlk, hK, hNw, hb0, rfl⟩ := hC
  intro H locs ls hR hS hl
  exact lv_l2i hx hb hd rfl (k H locs ls hR hS hl)
theorem g_i2b (hC : gC l b0 D K own cc ret nL fr lo mc ms) {x : Int32} (hd : decode cc pc = .ok (.i2b, 1))  (k : gV l b0 D K σ (pc + 1) loc (.int x.toInt8.toInt32 :: st)) : gV l b0 D K σ pc loc (.int x :: st) := by
  obtain ⟨p, e, R, s, m, args, below, meth, c, nL0, Q⟩ := K
  obtain ⟨n, κ, X, Y, Z, cs, ss⟩ := σ
  obtain ⟨hx, hb, hr, hml, rfl, hown, hts, hlk, hK, hNw, hb0, rfl⟩ := hC
  intro H locs ls hR hS hl
  exact lv_i2b hx hb hd rfl (k H locs ls hR hS hl)
theorem g_i2c (hC : gC l b0 D K own cc ret nL fr lo mc ms) {x : Int32} (hd : decode cc pc = .ok (.i2c, 1))  (k : gV l b0 D K σ (pc + 1) loc (.int (x.toUInt32 % 65536).toInt32 :: st)) : gV l b0 D K σ pc loc (.int x :: st) := by
  obtain ⟨p, e, R, s, m, args, below, meth, c, nL0, Q⟩ := K
  obtain ⟨n, κ, X, Y, Z, cs, ss⟩ := σ
  obtain ⟨hx, hb, hr, hml, rfl, hown, hts, hlk, hK, hNw, hb0, rfl⟩ := hC
  intro H locs ls hR hS hl
  exact lv_i2c hx hb hd rfl (k H locs ls hR hS hl)
theorem g_dup (hC : gC l b0 D K own cc ret nL fr lo mc ms) {v : Value} (hd : decode cc pc = .ok (.dup, 1)) (hv : v.category = 1) (k : gV l b0 D K σ (pc + 1) loc (v :: v :: st)) : gV l b0 D K σ pc loc (v :: st) := by
  obtain ⟨p, e, R, s, m, args, below, meth, c, nL0, Q⟩ := K
  obtain ⟨n, κ, X, Y, Z, cs, ss⟩ := σ
  obtain ⟨hx, hb, hr, hml, rfl, hown, hts, hlk, hK, hNw, hb0, rfl⟩ := hC
  intro H locs ls hR hS hl
  exact lv_dup hx hb hd hv (k H locs ls hR hS hl)
theorem g_pop (hC : gC l b0 D K own cc ret nL fr lo mc ms) {v : Value} (hd : decode cc pc = .ok (.pop, 1)) (hv : v.category = 1) (k : gV l b0 D K σ (pc + 1) loc (st)) : gV l b0 D K σ pc loc (v :: st) := by
  obtain ⟨p, e, R, s, m, args, below, meth, c, nL0, Q⟩ := K
  obtain ⟨n, κ, X, Y, Z, cs, ss⟩ := σ
  obtain ⟨hx, hb, hr, hml, rfl, hown, hts, hlk, hK, hNw, hb0, rfl⟩ := hC
  intro H locs ls hR hS hl
  exact lv_pop hx hb hd hv (k H locs ls hR hS hl)
theorem g_dup2 (hC : gC l b0 D K own cc ret nL fr lo mc ms) {v u : Value} (hd : decode cc pc = .ok (.dup2, 1)) (hv : v.category = 1) (hu : u.category = 1) (k : gV l b0 D K σ (pc + 1) loc (v :: u :: v :: u :: st)) : gV l b0 D K σ pc loc (v :: u :: st) := by
  obtain ⟨p, e, R, s, m, args, below, meth, c, nL0, Q⟩ := K
  obtain ⟨n, κ, X, Y, Z, cs, ss⟩ := σ
  obtain ⟨hx, hb, hr, hml, rfl, hown, hts, hlk, hK, hNw, hb0, rfl⟩ := hC
  intro H locs ls hR hS hl
  exact lv_dup2_11 hx hb hd hv hu (k H locs ls hR hS hl)
theorem g_aconst_null (hC : gC l b0 D K own cc ret nL fr lo mc ms)  (hd : decode cc pc = .ok (.aconst_null, 1))  (k : gV l b0 D K σ (pc + 1) loc (.null :: st)) : gV l b0 D K σ pc loc (st) := by
  obtain ⟨p, e, R, s, m, args, below, meth, c, nL0, Q⟩ := K
  obtain ⟨n, κ, X, Y, Z, cs, ss⟩ := σ
  obtain ⟨hx, hb, hr, hml, rfl, hown, hts, hlk, hK, hNw, hb0, rfl⟩ := hC
  intro H locs ls hR hS hl
  exact lv_null hx hb hd (k H locs ls hR hS hl)
theorem g_if_eq (hC : gC l b0 D K own cc ret nL fr lo mc ms) {x : Int32} {off : Int} (tgt : Nat) (hd : decode cc pc = .ok (.ifCond .eq off, 3)) (ht : (pc : Int) + off = (tgt : Int)) (kt : x = 0 → gV l b0 D K σ tgt loc st) (kf : ¬ (x = 0) → gV l b0 D K σ (pc + 3) loc st) : gV l b0 D K σ pc loc (.int x :: st) := by
  obtain ⟨p, e, R, s, m, args, below, meth, c, nL0, Q⟩ := K
  obtain ⟨n, κ, X, Y, Z, cs, ss⟩ := σ
  obtain ⟨hx, hb, hr, hml, rfl, hown, hts, hlk, hK, hNw, hb0, rfl⟩ := hC
  intro H locs ls hR hS hl
  exact lv_if_eq hx hb hd ht (fun h => kt h H locs ls hR hS hl) (fun h => kf h H locs ls hR hS hl)
theorem g_icmp_eq (hC : gC l b0 D K own cc ret nL fr lo mc ms) {x y : Int32} {off : Int} (tgt : Nat) (hd : decode cc pc = .ok (.if_icmp .eq off, 3)) (ht : (pc : Int) + off = (tgt : Int)) (kt : x = y → gV l b0 D K σ tgt loc st) (kf : ¬ (x = y) → gV l b0 D K σ (pc + 3) loc st) : gV l b0 D K σ pc loc (.int y :: .int x :: st) := by
  obtain ⟨p, e, R, s, m, args, below, meth, c, nL0, Q⟩ := K
  obtain ⟨n, κ, X, Y, Z, cs, ss⟩ := σ
  obtain ⟨hx, hb, hr, hml, rfl, hown, hts, hlk, hK, hNw, hb0, rfl⟩ := hC
  intro H locs ls hR hS hl
  exact lv_icmp_eq hx hb hd ht (fun h => kt h H locs ls hR hS hl) (fun h => kf h H locs ls hR hS hl)
theorem g_if_ne (hC : gC l b0 D K own cc ret nL fr lo mc ms) {x : Int32} {off : Int} (tgt : Nat) (hd : decode cc pc = .ok (.ifCond .ne off, 3)) (ht : (pc : Int) + off = (tgt : Int)) (kt : ¬ x = 0 → gV l b0 D K σ tgt loc st) (kf : x = 0 → gV l b0 D K σ (pc + 3) loc st) : gV l b0 D K σ pc loc (.int x :: st) := by
  obtain ⟨p, e, R, s, m, args, below, meth, c, nL0, Q⟩ := K
  obtain ⟨n, κ, X, Y, Z, cs, ss⟩ := σ
  obtain ⟨hx, hb, hr, hml, rfl, hown, hts, hlk, hK, hNw, hb0, rfl⟩ := hC
  intro H locs ls hR hS hl
  exact lv_if_ne hx hb hd ht (fun h => kt h H locs ls hR hS hl) (fun h => kf h H locs ls hR hS hl)
theorem g_icmp_ne (hC : gC l b0 D K own cc ret nL fr lo mc ms) {x y : Int32} {off : Int} (tgt : Nat) (hd : decode cc pc = .ok (.if_icmp .ne off, 3)) (ht : (pc : Int) + off = (tgt : Int)) (kt : ¬ x = y → gV l b0 D K σ tgt loc st) (kf : x = y → gV l b0 D K σ (pc + 3) loc st) : gV l b0 D K σ pc loc (.int y :: .int x :: st) := by
  obtain ⟨p, e, R, s, m, args, below, meth, c, nL0, Q⟩ := K
  obtain ⟨n, κ, X, Y, Z, cs, ss⟩ := σ
  obtain ⟨hx, hb, hr, hml, rfl, hown, hts, hlk, hK, hNw, hb0, rfl⟩ := hC
  intro H locs ls hR hS hl
  exact lv_icmp_ne hx hb hd ht (fun h => kt h H locs ls hR hS hl) (fun h => kf h H locs ls hR hS hl)
theorem g_if_lt (hC : gC l b0 D K own cc ret nL fr lo mc ms) {x : Int32} {off : Int} (tgt : Nat) (hd : decode cc pc = .ok (.ifCond .lt off, 3)) (ht : (pc : Int) + off = (tgt : Int)) (kt : x < 0 → gV l b0 D K σ tgt loc st) (kf : ¬ (x < 0) → gV l b0 D K σ (pc + 3) loc st) : gV l b0 D K σ pc loc (.int x :: st) := by
  obtain ⟨p, e, R, s, m, args, below, meth, c, nL0, Q⟩ := K
  obtain ⟨n, κ, X, Y, Z, cs, ss⟩ := σ
  obtain ⟨hx, hb, hr, hml, rfl, hown, hts, hlk, hK, hNw, hb0, rfl⟩ := hC
  intro H locs ls hR hS hl
  exact lv_if_lt hx hb hd ht (fun h => kt h H locs ls hR hS hl) (fun h => kf h H locs ls hR hS hl)
theorem g_icmp_lt (hC : gC l b0 D K own cc ret nL fr lo mc ms) {x y : Int32} {off : Int} (tgt : Nat) (hd : decode cc pc = .ok (.if_icmp .lt off, 3)) (ht : (pc : Int) + off = (tgt : Int)) (kt : x < y → gV l b0 D K σ tgt loc st) (kf : ¬ (x < y) → gV l b0 D K σ (pc + 3) loc st) : gV l b0 D K σ pc loc (.int y :: .int x :: st) := by
  obtain ⟨p, e, R, s, m, args, below, meth, c, nL0, Q⟩ := K
  obtain ⟨n, κ, X, Y, Z, cs, ss⟩ := σ
  obtain ⟨hx, hb, hr, hml, rfl, hown, hts, hlk, hK, hNw, hb0, rfl⟩ := hC
  intro H locs ls hR hS hl
  exact lv_icmp_lt hx hb hd ht (fun h => kt h H locs ls hR hS hl) (fun h => kf h H locs ls hR hS hl)
theorem g_if_ge (hC : gC l b0 D K own cc ret nL fr lo mc ms) {x : Int32} {off : Int} (tgt : Nat) (hd : decode cc pc = .ok (.ifCond .ge off, 3)) (ht : (pc : Int) + off = (tgt : Int)) (kt : 0 ≤ x → gV l b0 D K σ tgt loc st) (kf : ¬ (0 ≤ x) → gV l b0 D K σ (pc + 3) loc st) : gV l b0 D K σ pc loc (.int x :: st) := by
  obtain ⟨p, e, R, s, m, args, below, meth, c, nL0, Q⟩ := K
  obtain ⟨n, κ, X, Y, Z, cs, ss⟩ := σ
  obtain ⟨hx, hb, hr, hml, rfl, hown, hts, hlk, hK, hNw, hb0, rfl⟩ := hC
  intro H locs ls hR hS hl
  exact lv_if_ge hx hb hd ht (fun h => kt h H locs ls hR hS hl) (fun h => kf h H locs ls hR hS hl)
theorem g_icmp_ge (hC : gC l b0 D K own cc ret nL fr lo mc ms) {x y : Int32} {off : Int} (tgt : Nat) (hd : decode cc pc = .ok (.if_icmp .ge off, 3)) (ht : (pc : Int) + off = (tgt : Int)) (kt : y ≤ x → gV l b0 D K σ tgt loc st) (kf : ¬ (y ≤ x) → gV l b0 D K σ (pc + 3) loc st) : gV l b0 D K σ pc loc (.int y :: .int x :: st) := by
  obtain ⟨p, e, R, s, m, args, below, meth, c, nL0, Q⟩ := K
  obtain ⟨n, κ, X, Y, Z, cs, ss⟩ := σ
  obtain ⟨hx, hb, hr, hml, rfl, hown, hts, hlk, hK, hNw, hb0, rfl⟩ := hC
  intro H locs ls hR hS hl
  exact lv_icmp_ge hx hb hd ht (fun h => kt h H locs ls hR hS hl) (fun h => kf h H locs ls hR hS hl)
theorem g_if_gt (hC : gC l b0 D K own cc ret nL fr lo mc ms) {x : Int32} {off : Int} (tgt : Nat) (hd : decode cc pc = .ok (.ifCond .gt off, 3)) (ht : (pc : Int) + off = (tgt : Int)) (kt : 0 < x → gV l b0 D K σ tgt loc st) (kf : ¬ (0 < x) → gV l b0 D K σ (pc + 3) loc st) : gV l b0 D K σ pc loc (.int x :: st) := by
  obtain ⟨p, e, R, s, m, args, below, meth, c, nL0, Q⟩ := K
  obtain ⟨n, κ, X, Y, Z, cs, ss⟩ := σ
  obtain ⟨hx, hb, hr, hml, rfl, hown, hts, hlk, hK, hNw, hb0, rfl⟩ := hC
  intro H locs ls hR hS hl
  exact lv_if_gt hx hb hd ht (fun h => kt h H locs ls hR hS hl) (fun h => kf h H locs ls hR hS hl)
theorem g_icmp_gt (hC : gC l b0 D K own cc ret nL fr lo mc ms) {x y : Int32} {off : Int} (tgt : Nat) (hd : decode cc pc = .ok (.if_icmp .gt off, 3)) (ht : (pc : Int) + off = (tgt : Int)) (kt : y < x → gV l b0 D K σ tgt loc st) (kf : ¬ (y < x) → gV l b0 D K σ (pc + 3) loc st) : gV l b0 D K σ pc loc (.int y :: .int x :: st) := by
  obtain ⟨p, e, R, s, m, args, below, meth, c, nL0, Q⟩ := K
  obtain ⟨n, κ, X, Y, Z, cs, ss⟩ := σ
  obtain ⟨hx, hb, hr, hml, rfl, hown, hts, hlk, hK, hNw, hb0, rfl⟩ := hC
  intro H locs ls hR hS hl
  exact lv_icmp_gt hx hb hd ht (fun h => kt h H locs ls hR hS hl) (fun h => kf h H locs ls hR hS hl)
theorem g_if_le (hC : gC l b0 D K own cc ret nL fr lo mc ms) {x : Int32} {off : Int} (tgt : Nat) (hd : decode cc pc = .ok (.ifCond .le off, 3)) (ht : (pc : Int) + off = (tgt : Int)) (kt : x ≤ 0 → gV l b0 D K σ tgt loc st) (kf : ¬ (x ≤ 0) → gV l b0 D K σ (pc + 3) loc st) : gV l b0 D K σ pc loc (.int x :: st) := by
  obtain ⟨p, e, R, s, m, args, below, meth, c, nL0, Q⟩ := K
  obtain ⟨n, κ, X, Y, Z, cs, ss⟩ := σ
  obtain ⟨hx, hb, hr, hml, rfl, hown, hts, hlk, hK, hNw, hb0, rfl⟩ := hC
  intro H locs ls hR hS hl
  exact lv_if_le hx hb hd ht (fun h => kt h H locs ls hR hS hl) (fun h => kf h H locs ls hR hS hl)
theorem g_icmp_le (hC : gC l b0 D K own cc ret nL fr lo mc ms) {x y : Int32} {off : Int} (tgt : Nat) (hd : decode cc pc = .ok (.if_icmp .le off, 3)) (ht : (pc : Int) + off = (tgt : Int)) (kt : x ≤ y → gV l b0 D K σ tgt loc st) (kf : ¬ (x ≤ y) → gV l b0 D K σ (pc + 3) loc st) : gV l b0 D K σ pc loc (.int y :: .int x :: st) := by
  obtain ⟨p, e, R, s, m, args, below, meth, c, nL0, Q⟩ := K
  obtain ⟨n, κ, X, Y, Z, cs, ss⟩ := σ
  obtain ⟨hx, hb, hr, hml, rfl, hown, hts, hlk, hK, hNw, hb0, rfl⟩ := hC
  intro H locs ls hR hS hl
  exact lv_icmp_le hx hb hd ht (fun h => kt h H locs ls hR hS hl) (fun h => kf h H locs ls hR hS hl)
theorem g_goto (hC : gC l b0 D K own cc ret nL fr lo mc ms) {off : Int} (tgt : Nat) (hd : decode cc pc = .ok (.goto off, 3)) (ht : (pc : Int) + off = (tgt : Int)) (k : gV l b0 D K σ tgt loc st) : gV l b0 D K σ pc loc st := by
  obtain ⟨p, e, R, s, m, args, below, meth, c, nL0, Q⟩ := K
  obtain ⟨n, κ, X, Y, Z, cs, ss⟩ := σ
  obtain ⟨hx, hb, hr, hml, rfl, hown, hts, hlk, hK, hNw, hb0, rfl⟩ := hC
  intro H locs ls hR hS hl
  exact lv_goto hx hb hd ht (k H locs ls hR hS hl)
theorem g_tabIn (hC : gC l b0 D K own cc ret nL fr lo mc ms) {dflt lw hw : Int} {offs : Array Int} {len : Nat} {x : Int32} {off : Int} (tgt : Nat) (hd : decode cc pc = .ok (.tableswitch dflt lw hw offs, len)) (h1 : ¬ x.toInt < lw) (h2 : ¬ hw < x.toInt) (ho : offs[(x.toInt - lw).toNat]? = some off) (ht : (pc : Int) + off = (tgt : Int)) (k : gV l b0 D K σ tgt loc st) : gV l b0 D K σ pc loc (.int x :: st) := by
  obtain ⟨p, e, R, s, m, args, below, meth, c, nL0, Q⟩ := K
  obtain ⟨n, κ, X, Y, Z, cs, ss⟩ := σ
  obtain ⟨hx, hb, hr, hml, rfl, hown, hts, hlk, hK, hNw, hb0, rfl⟩ := hC
  intro H locs ls hR hS hl
  exact lv_tableIn hx hb hd h1 h2 ho ht (k H locs ls hR hS hl)
theorem g_tabOut (hC : gC l b0 D K own cc ret nL fr lo mc ms) {dflt lw hw : Int} {offs : Array Int} {len : Nat} {x : Int32} (tgt : Nat) (hd : decode cc pc = .ok (.tableswitch dflt lw hw offs, len)) (h : x.toInt < lw ∨ hw < x.toInt) (ht : (pc : Int) + dflt = (tgt : Int)) (k : gV l b0 D K σ tgt loc st) : gV l b0 D K σ pc loc (.int x :: st) := by
  obtain ⟨p, e, R, s, m, args, below, meth, c, nL0, Q⟩ := K
  obtain ⟨n, κ, X, Y, Z, cs, ss⟩ := σ
  obtain ⟨hx, hb, hr, hml, rfl, hown, hts, hlk, hK, hNw, hb0, rfl⟩ := hC
  intro H locs ls hR hS hl
  exact lv_tableOut hx hb hd h ht (k H locs ls hR hS hl)
theorem g_look (hC : gC l b0 D K own cc ret nL fr lo mc ms) {dflt : Int} {ps : Array (Int × Int)} {len : Nat} {x : Int32} {off : Int} (tgt : Nat) (hd : decode cc pc = .ok (.lookupswitch dflt ps, len)) (hp : (ps.toList.zip (ps.toList.drop 1)).all (fun (a, next) => a.1 < next.1) = true) (ho : Op.lookupswitch.offset ps.toList dflt x.toInt = off) (ht : (pc : Int) + off = (tgt : Int)) (k : gV l b0 D K σ tgt loc st) : gV l b0 D K σ pc loc (.int x :: st) := by
  obtain ⟨p, e, R, s, m, args, below, meth, c, nL0, Q⟩ := K
  obtain ⟨n, κ, X, Y, Z, cs, ss⟩ := σ
  obtain ⟨hx, hb, hr, hml, rfl, hown, hts, hlk, hK, hNw, hb0, rfl⟩ := hC
  intro H locs ls hR hS hl
  exact lv_lookup hx hb hd hp ho ht (k H locs ls hR hS hl)
theorem g_lcmp (hC : gC l b0 D K own cc ret nL fr lo mc ms) {x y : Int64} (hd : decode cc pc = .ok (.lcmp, 1))  (k : gV l b0 D K σ (pc + 1) loc (.int (lg_cmp x y) :: st)) : gV l b0 D K σ pc loc (.long y :: .long x :: st) := by
  obtain ⟨p, e, R, s, m, args, below, meth, c, nL0, Q⟩ := K
  obtain ⟨n, κ, X, Y, Z, cs, ss⟩ := σ
  obtain ⟨hx, hb, hr, hml, rfl, hown, hts, hlk, hK, hNw, hb0, rfl⟩ := hC
  intro H locs ls hR hS hl
  exact W.lcmp hx hb hd (k H locs ls hR hS hl)
theorem g_sub (ks : List Nat) (hk : lv_pick loc ks = loc') (k : gV l b0 D K σ pc loc' st) : gV l b0 D K σ pc loc st := by
  obtain ⟨p, e, R, s, m, args, below, meth, c, nL0, Q⟩ := K
  obtain ⟨n, κ, X, Y, Z, cs, ss⟩ := σ
  intro H locs ls hR hS hl
  exact k H locs ls hR hS (lv_sub hl ks hk)
theorem g_topi {x v : Int32} (hv : v = x) (k : gV l b0 D K σ pc loc (.int v :: st)) : gV l b0 D K σ pc loc (.int x :: st) := hv ▸ k
theorem g_topl {x v : Int64} (hv : v = x) (k : gV l b0 D K σ pc loc (.long v :: st)) : gV l b0 D K σ pc loc (.long x :: st) := hv ▸ k
end ROWSB
section ROWSH
variable {l : Launch} {b0 : Nat} {D : GD} {K : KT} {own : String} {cc : ByteArray} {ret : Option FieldType} {nL fr lo mc ms : Nat} {σ : SG} {pc : Nat} {loc loc' : List (Nat × Value)} {st : List Value}
theorem gCell_o {i ci : Nat} {x : Nat → Int32} {y : Nat → Int64} {z : Nat → Option Nat} (h : ci < 13) : gCell b0 D i (ci, 0) x y z = .inr (ci, gF b0 i x ci) := by
  unfold gCell
  rw [if_neg (by show ¬ ci = 14; omega), if_pos (by show ci < 13; exact h)]
theorem gCell_i {i L : Nat} {x : Nat → Int32} {y : Nat → Int64} {z : Nat → Option Nat} : gCell b0 D i (14, L) x y z = .inl (D.2 1, L, .inl x) := rfl
theorem gCell_b {i L : Nat} {x : Nat → Int32} {y : Nat → Int64} {z : Nat → Option Nat} : gCell b0 D i (13, L) x y z = .inl (D.2 0, L, .inl x) := rfl
theorem gCell_j {i L : Nat} {x : Nat → Int32} {y : Nat → Int64} {z : Nat → Option Nat} : gCell b0 D i (15, L) x y z = .inl (D.2 2, L, .inr (.inl y)) := rfl
theorem gCell_z {i L : Nat} {x : Nat → Int32} {y : Nat → Int64} {z : Nat → Option Nat} : gCell b0 D i (16, L) x y z = .inl (D.2 3, L, .inl x) := rfl
theorem gR_putX {n a : Nat} {κ : QT} {X : XT} {Y : YT} {Z : ZT} {H H1 : Heap} {x : Nat → Int32} (hR : gR b0 D n κ X Y Z H) (z : H1.size = H.size) (oq : ∀ q, q ≠ b0 + a → H1[q]? = H[q]?) (hat : va_at D.1 vwCl (b0 + a, gCell b0 D a (κ a) x (Y a) (Z a)) H1) : gR b0 D n κ (va_up X a x) Y Z H1 := ⟨by rw [z]; exact hR.1, fun i hi => by
  by_cases h : i = a
  · subst h
    have e : va_up X i x i = x := by simp [va_up]
    rw [e]; exact hat
  · have e : va_up X a x i = X i := by simp [va_up, h]
    rw [e]; exact (hR.2 i hi).kept (oq _ (by show b0 + i ≠ b0 + a; omega))⟩
theorem gR_putY {n a : Nat} {κ : QT} {X : XT} {Y : YT} {Z : ZT} {H H1 : Heap} {y : Nat → Int64} (hR : gR b0 D n κ X Y Z H) (z : H1.size = H.size) (oq : ∀ q, q ≠ b0 + a → H1[q]? = H[q]?) (hat : va_at D.1 vwCl (b0 + a, gCell b0 D a (κ a) (X a) y (Z a)) H1) : gR b0 D n κ X (va_up Y a y) Z H1 := ⟨by rw [z]; exact hR.1, fun i hi => by
  by_cases h : i = a
  · subst h
    have e : va_up Y i y i = y := by simp [va_up]
    rw [e]; exact hat
  · have e : va_up Y a y i = Y i := by simp [va_up, h]
    rw [e]; exact (hR.2 i hi).kept (oq _ (by show b0 + i ≠ b0 + a; omega))⟩
theorem gS_put {H0 H H1 : Heap} {locs : List Loc} {a k : Nat} (hb0 : b0 ≤ H0.size) (hS : va_S (gA b0) H0 H locs) (z : H1.size = H.size) (oq : ∀ q, q ≠ b0 + a → H1[q]? = H[q]?) : va_S (gA b0) H0 H1 (locs ++ [⟨b0 + a, k⟩]) := va_S.put hS z oq (Nat.le_add_right b0 a)
theorem g_get (hC : gC l b0 D K own cc ret nL fr lo mc ms) {n : Nat} {κ : QT} {X : XT} {Y : YT} {Z : ZT} {cs ss a : Nat} {ci k idx N : Nat} {C : String} {T : u_T} (hc : vwCl[ci]? = some (C, T, N)) (hci : ci < 13) (hin : ∀ w ∈ u_ws C T N, w ∈ gtbl) (hkN : k < N) (hlk0 : Cond.fieldLink own idx C (T k).2.1 (T k).2.2.1 ∈ gtbl) (hT : (T k).1 = C) {x : Nat → Int32} {v : Value} (hv : (gF b0 a x ci)[k]? = some v) (hk : κ a = (ci, 0)) (ha : a < n) (hxa : X a = x) (hd : decode cc pc = .ok (.getfield idx, 3)) (kk : gV l b0 D K (n, κ, X, Y, Z, cs, ss) (pc + 3) loc (v :: st)) : gV l b0 D K (n, κ, X, Y, Z, cs, ss) pc loc (.ref (b0 + a) :: st) := by
  obtain ⟨p, e, R, s, m, args, below, meth, c, nL0, Q⟩ := K
  obtain ⟨hx, hb, hr, hml, rfl, hown, hts, hlk, hK, hNw, hb0, rfl⟩ := hC
  intro H locs ls hR hS hl
  have hcell := hR.2 a ha
  rw [hk, gCell_o hci, hxa] at hcell
  exact va_get (D := D.1) (ci := ci) hx hb hts hin hown hK (va_P1 hcell) 0 rfl hc k hkN (hts _ hlk0) (fun _ h => by rw [hT] at h; exact h) hv hd (kk H locs ls hR hS hl)
theorem g_put (hC : gC l b0 D K own cc ret nL fr lo mc ms) {n : Nat} {κ : QT} {X : XT} {Y : YT} {Z : ZT} {cs ss a : Nat} {ci k idx N : Nat} {C : String} {T : u_T} {ty0 : Nat → FieldType} (hc : vwCl[ci]? = some (C, T, N)) (hci : ci < 13) (hin : ∀ w ∈ u_ws C T N, w ∈ gtbl) (hty : ∀ k, k < N → parseFieldDescriptor (T k).2.2.1 = some (ty0 k)) (hnm : ∀ a, a < N → ∀ b, b < N → a ≠ b → (T a).2.1 ≠ (T b).2.1) (hkN : k < N) (hlk0 : Cond.fieldLink own idx C (T k).2.1 (T k).2.2.1 ∈ gtbl) (hT : (T k).1 = C) (hfin : (T k).2.2.2 = false) {ty : FieldType} {v : Value} (hdc : parseFieldDescriptor (T k).2.2.1 = some ty) (hn : narrow ty v = v) (hfit : fits ty v = true) {x x' : Nat → Int32} (hl0 : k < (gF b0 a x ci).length) (hx' : (gF b0 a x ci).set k v = gF b0 a x' ci) (hk : κ a = (ci, 0)) (ha : a < n) (hxa : X a = x) {X' : XT} (hX' : va_up X a x' = X') (hd : decode cc pc = .ok (.putfield idx, 3)) (kk : gV l b0 D K (n, κ, X', Y, Z, cs, ss) (pc + 3) loc st) : gV l b0 D K (n, κ, X, Y, Z, cs, ss) pc loc (v :: .ref (b0 + a) :: st) := by
  obtain ⟨p, e, R, s, m, args, below, meth, c, nL0, Q⟩ := K
  obtain ⟨hx, hb, hr, hml, rfl, hown, hts, hlk, hK, hNw, hb0, rfl⟩ := hC
  intro H locs ls hR hS hl
  have hcell := hR.2 a ha
  have hcell0 := hcell
  rw [hk, gCell_o hci, hxa] at hcell
  have hap := va_apart (own := own) hts hin ty0 hty hnm hK hc
  obtain ⟨r, h1, cell, q1, q2, q3, q4⟩ := hcell
  have hr' : r = (C, T, N) := Option.some.inj (h1.symm.trans hc)
  subst hr'
  obtain ⟨hS1, hfc, kC, hkC, hkind⟩ := hK.1 ci _ hc
  obtain ⟨cf, kf, fi, f, hi, hsl⟩ := hS1 k hkN
  have hlay := hts _ (hin _ (u_in_lay hkN))
  unfold u_lay at hlay
  rw [if_neg (by rw [hfin]; decide)] at hlay
  have hst := (u_facts hfc hkC (u_lays hts hin hkN) hi).1
  have h6 := u_store hfc hkC hkind hlay hi hdc hn hfit
  have hi2 : s.fieldFound? C (T k).2.1 (T k).2.2.1 = some (cf, kf, fi, f) := by rw [← hT]; exact hi
  refine W.putK hx hb (f := f) ⟨hown, hts _ hlk0, ⟨_, _, _, hi2⟩, hst⟩ (by rw [q2]; exact h6) q1 q3 (by rw [hsl]; exact k2_hasslot (q4 k hkN)) rfl rfl hd fun H' e1 e2 e3 => ?_
  rw [hsl] at e1 ⊢
  subst hX'
  refine kk H' _ ls (gR_putX hR e2 e3 ?_) (gS_put hb0 hS e2 e3) hl
  rw [hk, gCell_o hci, ← hx']
  exact ⟨_, hc, t_OB.to (V := updV (vp_V (gF b0 a x ci)) k v) ⟨_, e1, q2, q3, t_set q4 hap hkN v⟩ (fun j _ => vp_updV_set hl0 v j)⟩
theorem g_iald (hC : gC l b0 D K own cc ret nL fr lo mc ms) {n : Nat} {κ : QT} {X : XT} {Y : YT} {Z : ZT} {cs ss a : Nat} {L : Nat} {x : Nat → Int32} {i : Int32} (hk : κ a = (14, L)) (ha : a < n) (hxa : X a = x) (hin : vp_in i L) (hd : decode cc pc = .ok (.iaload, 1)) (kk : gV l b0 D K (n, κ, X, Y, Z, cs, ss) (pc + 1) loc (.int (x i.toNatClampNeg) :: st)) : gV l b0 D K (n, κ, X, Y, Z, cs, ss) pc loc (.int i :: .ref (b0 + a) :: st) := by
  obtain ⟨p, e, R, s, m, args, below, meth, c, nL0, Q⟩ := K
  obtain ⟨hx, hb, hr, hml, rfl, hown, hts, hlk, hK, hNw, hb0, rfl⟩ := hC
  intro H locs ls hR hS hl
  have hcell := hR.2 a ha
  rw [hk, gCell_i, hxa] at hcell
  exact va_iald (D := D.1) hx hb hK (va_P1 hcell) 0 1 rfl rfl hin hd (kk H locs ls hR hS hl)
theorem g_bald (hC : gC l b0 D K own cc ret nL fr lo mc ms) {n : Nat} {κ : QT} {X : XT} {Y : YT} {Z : ZT} {cs ss a : Nat} {L : Nat} {x : Nat → Int32} {i : Int32} (hk : κ a = (13, L)) (ha : a < n) (hxa : X a = x) (hin : vp_in i L) (hd : decode cc pc = .ok (.baload, 1)) (kk : gV l b0 D K (n, κ, X, Y, Z, cs, ss) (pc + 1) loc (.int (x i.toNatClampNeg) :: st)) : gV l b0 D K (n, κ, X, Y, Z, cs, ss) pc loc (.int i :: .ref (b0 + a) :: st) := by
  obtain ⟨p, e, R, s, m, args, below, meth, c, nL0, Q⟩ := K
  obtain ⟨hx, hb, hr, hml, rfl, hown, hts, hlk, hK, hNw, hb0, rfl⟩ := hC
  intro H locs ls hR hS hl
  have hcell := hR.2 a ha
  rw [hk, gCell_b, hxa] at hcell
  exact va_bald (D := D.1) hx hb hK (va_P1 hcell) 0 0 rfl rfl hin hd (kk H locs ls hR hS hl)
theorem g_zald (hC : gC l b0 D K own cc ret nL fr lo mc ms) {n : Nat} {κ : QT} {X : XT} {Y : YT} {Z : ZT} {cs ss a : Nat} {L : Nat} {x : Nat → Int32} {i : Int32} (hk : κ a = (16, L)) (ha : a < n) (hxa : X a = x) (hin : vp_in i L) (hd : decode cc pc = .ok (.baload, 1)) (kk : gV l b0 D K (n, κ, X, Y, Z, cs, ss) (pc + 1) loc (.int (x i.toNatClampNeg) :: st)) : gV l b0 D K (n, κ, X, Y, Z, cs, ss) pc loc (.int i :: .ref (b0 + a) :: st) := by
  obtain ⟨p, e, R, s, m, args, below, meth, c, nL0, Q⟩ := K
  obtain ⟨hx, hb, hr, hml, rfl, hown, hts, hlk, hK, hNw, hb0, rfl⟩ := hC
  intro H locs ls hR hS hl
  have hcell := hR.2 a ha
  rw [hk, gCell_z, hxa] at hcell
  exact va_zald (D := D.1) hx hb hK (va_P1 hcell) 0 3 rfl rfl hin hd (kk H locs ls hR hS hl)
theorem g_lald (hC : gC l b0 D K own cc ret nL fr lo mc ms) {n : Nat} {κ : QT} {X : XT} {Y : YT} {Z : ZT} {cs ss a : Nat} {L : Nat} {x : Nat → Int64} {i : Int32} (hk : κ a = (15, L)) (ha : a < n) (hxa : Y a = x) (hin : vp_in i L) (hd : decode cc pc = .ok (.laload, 1)) (kk : gV l b0 D K (n, κ, X, Y, Z, cs, ss) (pc + 1) loc (.long (x i.toNatClampNeg) :: st)) : gV l b0 D K (n, κ, X, Y, Z, cs, ss) pc loc (.int i :: .ref (b0 + a) :: st) := by
  obtain ⟨p, e, R, s, m, args, below, meth, c, nL0, Q⟩ := K
  obtain ⟨hx, hb, hr, hml, rfl, hown, hts, hlk, hK, hNw, hb0, rfl⟩ := hC
  intro H locs ls hR hS hl
  have hcell := hR.2 a ha
  rw [hk, gCell_j, hxa] at hcell
  exact va_lald (D := D.1) hx hb hK (va_P1 hcell) 0 2 rfl rfl hin hd (kk H locs ls hR hS hl)
theorem g_iast (hC : gC l b0 D K own cc ret nL fr lo mc ms) {n : Nat} {κ : QT} {X : XT} {Y : YT} {Z : ZT} {cs ss a : Nat} {L : Nat} {x : Nat → Int32} {i : Int32} {v : Int32} (hk : κ a = (14, L)) (ha : a < n) (hxa : X a = x) (hin : vp_in i L) {X' : XT} (hX' : va_up X a (upd x i.toNatClampNeg v) = X') (hd : decode cc pc = .ok (.iastore, 1)) (kk : gV l b0 D K (n, κ, X', Y, Z, cs, ss) (pc + 1) loc st) : gV l b0 D K (n, κ, X, Y, Z, cs, ss) pc loc (.int v :: .int i :: .ref (b0 + a) :: st) := by
  obtain ⟨p, e, R, s, m, args, below, meth, c, nL0, Q⟩ := K
  obtain ⟨hx, hb, hr, hml, rfl, hown, hts, hlk, hK, hNw, hb0, rfl⟩ := hC
  intro H locs ls hR hS hl
  have hcell := hR.2 a ha
  rw [hk, gCell_i, hxa] at hcell
  refine W.iast hx hb hcell ((hK.2 1 _ rfl).1 L _) (fun q => by cases q) (by show ¬ (i < 0 ∨ (arrV _ _ _).slots.size ≤ _); rw [arrV_size]; exact hin) rfl rfl hd fun H1 e1 z oq => ?_
  subst hX'
  refine kk H1 _ ls (gR_putX hR z oq ?_) (gS_put hb0 hS z oq) hl
  rw [hk, gCell_i]
  show H1[b0 + a]? = some (vp_cell _ _)
  rw [e1, vp_cell_i, vp_cell_i, arrV_store]
  congr 2
  funext q
  by_cases hq : q = i.toNatClampNeg
  · subst hq
    simp [updV, upd]
    try rfl
  · simp [updV, upd, hq]
theorem g_bast (hC : gC l b0 D K own cc ret nL fr lo mc ms) {n : Nat} {κ : QT} {X : XT} {Y : YT} {Z : ZT} {cs ss a : Nat} {L : Nat} {x : Nat → Int32} {i : Int32} {v : Int32} (hk : κ a = (13, L)) (ha : a < n) (hxa : X a = x) (hin : vp_in i L) {X' : XT} (hX' : va_up X a (upd x i.toNatClampNeg (vp_nar .byte v)) = X') (hd : decode cc pc = .ok (.bastore, 1)) (kk : gV l b0 D K (n, κ, X', Y, Z, cs, ss) (pc + 1) loc st) : gV l b0 D K (n, κ, X, Y, Z, cs, ss) pc loc (.int v :: .int i :: .ref (b0 + a) :: st) := by
  obtain ⟨p, e, R, s, m, args, below, meth, c, nL0, Q⟩ := K
  obtain ⟨hx, hb, hr, hml, rfl, hown, hts, hlk, hK, hNw, hb0, rfl⟩ := hC
  intro H locs ls hR hS hl
  have hcell := hR.2 a ha
  rw [hk, gCell_b, hxa] at hcell
  refine W.bast hx hb hcell ((hK.2 0 _ rfl).1 L _) (fun q => by cases q) (by show ¬ (i < 0 ∨ (arrV _ _ _).slots.size ≤ _); rw [arrV_size]; exact hin) rfl rfl hd fun H1 e1 z oq => ?_
  subst hX'
  refine kk H1 _ ls (gR_putX hR z oq ?_) (gS_put hb0 hS z oq) hl
  rw [hk, gCell_b]
  show H1[b0 + a]? = some (vp_cell _ _)
  rw [e1, vp_cell_i, vp_cell_i, arrV_store]
  congr 2
  funext q
  by_cases hq : q = i.toNatClampNeg
  · subst hq
    simp [updV, upd, vp_nar]
    try rfl
  · simp [updV, upd, vp_nar, hq]
theorem g_zast (hC : gC l b0 D K own cc ret nL fr lo mc ms) {n : Nat} {κ : QT} {X : XT} {Y : YT} {Z : ZT} {cs ss a : Nat} {L : Nat} {x : Nat → Int32} {i : Int32} {v : Int32} (hk : κ a = (16, L)) (ha : a < n) (hxa : X a = x) (hin : vp_in i L) {X' : XT} (hX' : va_up X a (upd x i.toNatClampNeg (vp_nar .boolean v)) = X') (hd : decode cc pc = .ok (.bastore, 1)) (kk : gV l b0 D K (n, κ, X', Y, Z, cs, ss) (pc + 1) loc st) : gV l b0 D K (n, κ, X, Y, Z, cs, ss) pc loc (.int v :: .int i :: .ref (b0 + a) :: st) := by
  obtain ⟨p, e, R, s, m, args, below, meth, c, nL0, Q⟩ := K
  obtain ⟨hx, hb, hr, hml, rfl, hown, hts, hlk, hK, hNw, hb0, rfl⟩ := hC
  intro H locs ls hR hS hl
  have hcell := hR.2 a ha
  rw [hk, gCell_z, hxa] at hcell
  refine W.zast hx hb hcell ((hK.2 3 _ rfl).1 L _) (fun q => by cases q) (by show ¬ (i < 0 ∨ (arrV _ _ _).slots.size ≤ _); rw [arrV_size]; exact hin) rfl rfl hd fun H1 e1 z oq => ?_
  subst hX'
  refine kk H1 _ ls (gR_putX hR z oq ?_) (gS_put hb0 hS z oq) hl
  rw [hk, gCell_z]
  show H1[b0 + a]? = some (vp_cell _ _)
  rw [e1, vp_cell_i, vp_cell_i, arrV_store]
  congr 2
  funext q
  by_cases hq : q = i.toNatClampNeg
  · subst hq
    simp [updV, upd, vp_nar]
    try rfl
  · simp [updV, upd, vp_nar, hq]
theorem g_last (hC : gC l b0 D K own cc ret nL fr lo mc ms) {n : Nat} {κ : QT} {X : XT} {Y : YT} {Z : ZT} {cs ss a : Nat} {L : Nat} {x : Nat → Int64} {i : Int32} {v : Int64} (hk : κ a = (15, L)) (ha : a < n) (hxa : Y a = x) (hin : vp_in i L) {X' : YT} (hX' : va_up Y a (vp_updL x i.toNatClampNeg v) = X') (hd : decode cc pc = .ok (.lastore, 1)) (kk : gV l b0 D K (n, κ, X, X', Z, cs, ss) (pc + 1) loc st) : gV l b0 D K (n, κ, X, Y, Z, cs, ss) pc loc (.long v :: .int i :: .ref (b0 + a) :: st) := by
  obtain ⟨p, e, R, s, m, args, below, meth, c, nL0, Q⟩ := K
  obtain ⟨hx, hb, hr, hml, rfl, hown, hts, hlk, hK, hNw, hb0, rfl⟩ := hC
  intro H locs ls hR hS hl
  have hcell := hR.2 a ha
  rw [hk, gCell_j, hxa] at hcell
  refine W.last hx hb hcell ((hK.2 2 _ rfl).1 L _) (fun q => by cases q) (by show ¬ (i < 0 ∨ (arrV _ _ _).slots.size ≤ _); rw [arrV_size]; exact hin) rfl rfl hd fun H1 e1 z oq => ?_
  subst hX'
  refine kk H1 _ ls (gR_putY hR z oq ?_) (gS_put hb0 hS z oq) hl
  rw [hk, gCell_j]
  show H1[b0 + a]? = some (vp_cell _ _)
  rw [e1, vp_cell_l, vp_cell_l, arrV_store]
  congr 2
  funext q
  by_cases hq : q = i.toNatClampNeg
  · subst hq
    simp [updV, vp_updL]
    try rfl
  · simp [updV, vp_updL, hq]
theorem g_alen_i (hC : gC l b0 D K own cc ret nL fr lo mc ms) {n : Nat} {κ : QT} {X : XT} {Y : YT} {Z : ZT} {cs ss a : Nat} {L : Nat} (hk : κ a = (14, L)) (ha : a < n) (hd : decode cc pc = .ok (.arraylength, 1)) (kk : gV l b0 D K (n, κ, X, Y, Z, cs, ss) (pc + 1) loc (.int (Int32.ofNat L) :: st)) : gV l b0 D K (n, κ, X, Y, Z, cs, ss) pc loc (.ref (b0 + a) :: st) := by
  obtain ⟨p, e, R, s, m, args, below, meth, c, nL0, Q⟩ := K
  obtain ⟨hx, hb, hr, hml, rfl, hown, hts, hlk, hK, hNw, hb0, rfl⟩ := hC
  intro H locs ls hR hS hl
  have hcell := hR.2 a ha
  rw [hk, gCell_i] at hcell
  exact va_alen (D := D.1) hx hb hK (va_P1 hcell) 0 1 rfl rfl rfl hd (kk H locs ls hR hS hl)
theorem g_alen_b (hC : gC l b0 D K own cc ret nL fr lo mc ms) {n : Nat} {κ : QT} {X : XT} {Y : YT} {Z : ZT} {cs ss a : Nat} {L : Nat} (hk : κ a = (13, L)) (ha : a < n) (hd : decode cc pc = .ok (.arraylength, 1)) (kk : gV l b0 D K (n, κ, X, Y, Z, cs, ss) (pc + 1) loc (.int (Int32.ofNat L) :: st)) : gV l b0 D K (n, κ, X, Y, Z, cs, ss) pc loc (.ref (b0 + a) :: st) := by
  obtain ⟨p, e, R, s, m, args, below, meth, c, nL0, Q⟩ := K
  obtain ⟨hx, hb, hr, hml, rfl, hown, hts, hlk, hK, hNw, hb0, rfl⟩ := hC
  intro H locs ls hR hS hl
  have hcell := hR.2 a ha
  rw [hk, gCell_b] at hcell
  exact va_alen (D := D.1) hx hb hK (va_P1 hcell) 0 0 rfl rfl rfl hd (kk H locs ls hR hS hl)
theorem g_alen_z (hC : gC l b0 D K own cc ret nL fr lo mc ms) {n : Nat} {κ : QT} {X : XT} {Y : YT} {Z : ZT} {cs ss a : Nat} {L : Nat} (hk : κ a = (16, L)) (ha : a < n) (hd : decode cc pc = .ok (.arraylength, 1)) (kk : gV l b0 D K (n, κ, X, Y, Z, cs, ss) (pc + 1) loc (.int (Int32.ofNat L) :: st)) : gV l b0 D K (n, κ, X, Y, Z, cs, ss) pc loc (.ref (b0 + a) :: st) := by
  obtain ⟨p, e, R, s, m, args, below, meth, c, nL0, Q⟩ := K
  obtain ⟨hx, hb, hr, hml, rfl, hown, hts, hlk, hK, hNw, hb0, rfl⟩ := hC
  intro H locs ls hR hS hl
  have hcell := hR.2 a ha
  rw [hk, gCell_z] at hcell
  exact va_alen (D := D.1) hx hb hK (va_P1 hcell) 0 3 rfl rfl rfl hd (kk H locs ls hR hS hl)
theorem g_alen_j (hC : gC l b0 D K own cc ret nL fr lo mc ms) {n : Nat} {κ : QT} {X : XT} {Y : YT} {Z : ZT} {cs ss a : Nat} {L : Nat} (hk : κ a = (15, L)) (ha : a < n) (hd : decode cc pc = .ok (.arraylength, 1)) (kk : gV l b0 D K (n, κ, X, Y, Z, cs, ss) (pc + 1) loc (.int (Int32.ofNat L) :: st)) : gV l b0 D K (n, κ, X, Y, Z, cs, ss) pc loc (.ref (b0 + a) :: st) := by
  obtain ⟨p, e, R, s, m, args, below, meth, c, nL0, Q⟩ := K
  obtain ⟨hx, hb, hr, hml, rfl, hown, hts, hlk, hK, hNw, hb0, rfl⟩ := hC
  intro H locs ls hR hS hl
  have hcell := hR.2 a ha
  rw [hk, gCell_j] at hcell
  exact va_alen (D := D.1) hx hb hK (va_P1 hcell) 0 2 rfl rfl rfl hd (kk H locs ls hR hS hl)
end ROWSH

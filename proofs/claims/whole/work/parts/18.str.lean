theorem st_ldcW {p : Program} {l : Launch} {e : Env} {R : Room} {s : State} {m : MethodId} {args : Array Value} {below : List Frame} {meth : Method} {c : Code} {T : State} {locs : List Loc} {cells slots : Nat}
    (X : Stand p l e R s m args below meth c T locs cells slots) (hexec : p.tables.exec = Jvm.exec) {own text : String} {index : Nat} {a : Addr} (hown : s.vm.findClass own = some m.cls)
    (hconst : (Cond.stringRef own index text).before args s = true) (hev : (Term.string own index).eval args s none [] s = some (.ref a)) {g : JFrame} (hg : g.method = m) (hdg : decode c.code g.pc = .ok (.ldc_w index, 3)) :
    ∀ target, Steps p.tables e below (T.setTop { g with pc := g.pc + 3, stack := .ref a :: g.stack }) target → Steps p.tables e below (T.setTop g) target := by
  obtain ⟨k, cf, i, a', hk, hcf, hcp, -, hr, hev'⟩ := Cond.stringRef_spec hown hconst
  cases hev.symm.trans hev'
  obtain ⟨k', hk', he⟩ := X.warmed.alike.2.2 _ _ hk
  have hr' : k'.resolved[index]? = some (some (.string a)) := by
    rcases X.warmed.entry hk hk' index with h | ⟨h, -⟩
    · rw [h]; exact hr
    · rw [hr] at h; cases h
  intro target hrest
  subst hg
  jvm_step X.here [hexec, hdg, ldc_w.wp_string (e := e) (s := T) (f := g) X.here.top hk' (by rw [he]; exact hcf) hcp hr']
  exact hrest
section STR
variable {l : Launch} {b0 : Nat} {D : GD} {K : KT} {own : String} {cc : ByteArray} {ret : Option FieldType} {nL fr lo mc ms : Nat} {σ : SG} {pc : Nat} {loc : List (Nat × Value)} {st : List Value}
theorem g_ldcS (hC : gC l b0 D K own cc ret nL fr lo mc ms) {idx i : Nat} {tx : String} (hq : (own, idx, tx, i) ∈ srT) (hd : decode cc pc = .ok (.ldc idx, 2)) (k : gV l b0 D K σ (pc + 2) loc (.ref (D.2 (100 + i)) :: st)) : gV l b0 D K σ pc loc st := by
  obtain ⟨p, e, R, s, m, args, below, meth, c, nL0, Q⟩ := K
  obtain ⟨n, κ, X, Y, Z, cs, ss⟩ := σ
  obtain ⟨hx, hb, hr, hml, rfl, hown, hts, hlk, hK, hNw, hb0, rfl⟩ := hC
  intro H locs ls hR hS hl
  exact va_ldcS hx hb hown (hNw.2.1 _ hq) hd (k H locs ls hR hS hl)
theorem g_ldcWS (hC : gC l b0 D K own cc ret nL fr lo mc ms) {idx i : Nat} {tx : String} (hq : (own, idx, tx, i) ∈ srT) (hd : decode cc pc = .ok (.ldc_w idx, 3)) (k : gV l b0 D K σ (pc + 3) loc (.ref (D.2 (100 + i)) :: st)) : gV l b0 D K σ pc loc st := by
  obtain ⟨p, e, R, s, m, args, below, meth, c, nL0, Q⟩ := K
  obtain ⟨n, κ, X, Y, Z, cs, ss⟩ := σ
  obtain ⟨hx, hb, hr, hml, rfl, hown, hts, hlk, hK, hNw, hb0, rfl⟩ := hC
  intro H locs ls hR hS hl T hT X0
  obtain ⟨t, a1, b1⟩ := k H locs ls hR hS hl T hT X0
  have hZ := hNw.2.1 _ hq
  exact ⟨t, st_ldcW X0 hx hown (text := tx) (a := D.2 (100 + i)) hZ.1 hZ.2 (g := F0 m pc ls st) rfl (by rw [hb]; exact hd) t a1, b1⟩
theorem g_sval (hC : gC l b0 D K own cc ret nL fr lo mc ms) {idx i : Nat} (hi : i < nStr) (hw : Cond.fieldLink own idx "java/lang/String" "value" "[B" ∈ gtbl) (hd : decode cc pc = .ok (.getfield idx, 3)) (k : gV l b0 D K σ (pc + 3) loc (.ref (D.2 (200 + i)) :: st)) : gV l b0 D K σ pc loc (.ref (D.2 (100 + i)) :: st) := by
  obtain ⟨p, e, R, s, m, args, below, meth, c, nL0, Q⟩ := K
  obtain ⟨n, κ, X, Y, Z, cs, ss⟩ := σ
  obtain ⟨hx, hb, hr, hml, rfl, hown, hts, hlk, hK, hNw, hb0, rfl⟩ := hC
  intro H locs ls hR hS hl
  exact vk_getf hx hb (hNw.2.2.2.1.1 i hi).2.2.1 hS hown (hts _ hw) (fun _ h => h) hd (k H locs ls hR hS hl)
theorem g_scod (hC : gC l b0 D K own cc ret nL fr lo mc ms) {idx i : Nat} (hi : i < nStr) (hw : Cond.fieldLink own idx "java/lang/String" "coder" "B" ∈ gtbl) (hd : decode cc pc = .ok (.getfield idx, 3)) (k : gV l b0 D K σ (pc + 3) loc (.int 0 :: st)) : gV l b0 D K σ pc loc (.ref (D.2 (100 + i)) :: st) := by
  obtain ⟨p, e, R, s, m, args, below, meth, c, nL0, Q⟩ := K
  obtain ⟨n, κ, X, Y, Z, cs, ss⟩ := σ
  obtain ⟨hx, hb, hr, hml, rfl, hown, hts, hlk, hK, hNw, hb0, rfl⟩ := hC
  intro H locs ls hR hS hl
  exact vk_getf hx hb (hNw.2.2.2.1.1 i hi).2.1 hS hown (hts _ hw) (fun _ h => h) hd (k H locs ls hR hS hl)
theorem g_scmp (hC : gC l b0 D K own cc ret nL fr lo mc ms) {idx : Nat} (hw : Cond.fieldLink own idx "java/lang/String" "COMPACT_STRINGS" "Z" ∈ gtbl) (hd : decode cc pc = .ok (.getstatic idx, 3)) (k : gV l b0 D K σ (pc + 3) loc (.int 1 :: st)) : gV l b0 D K σ pc loc st := by
  obtain ⟨p, e, R, s, m, args, below, meth, c, nL0, Q⟩ := K
  obtain ⟨n, κ, X, Y, Z, cs, ss⟩ := σ
  obtain ⟨hx, hb, hr, hml, rfl, hown, hts, hlk, hK, hNw, hb0, rfl⟩ := hC
  intro H locs ls hR hS hl
  exact va_gets hx hb hNw.2.2.2.2.1 hS hown (hts _ hw) (fun _ h => h) hd (k H locs ls hR hS hl)
theorem g_sfmt (hC : gC l b0 D K own cc ret nL fr lo mc ms) {idx : Nat} (hw : Cond.fieldLink own idx "jdk/internal/util/Preconditions" "SIOOBE_FORMATTER" "Ljava/util/function/BiFunction;" ∈ gtbl) (hd : decode cc pc = .ok (.getstatic idx, 3)) (k : ∀ v : Value, (v = .null ∨ ∃ t, v = .ref t) → gV l b0 D K σ (pc + 3) loc (v :: st)) : gV l b0 D K σ pc loc st := by
  obtain ⟨p, e, R, s, m, args, below, meth, c, nL0, Q⟩ := K
  obtain ⟨n, κ, X, Y, Z, cs, ss⟩ := σ
  obtain ⟨hx, hb, hr, hml, rfl, hown, hts, hlk, hK, hNw, hb0, rfl⟩ := hC
  intro H locs ls hR hS hl
  rcases hNw.2.2.2.2.2 with h | ⟨t, h⟩
  · exact va_gets hx hb h hS hown (hts _ hw) (fun _ h => h) hd (k _ (Or.inl rfl) H locs ls hR hS hl)
  · exact va_gets hx hb h hS hown (hts _ hw) (fun _ h => h) hd (k _ (Or.inr ⟨t, rfl⟩) H locs ls hR hS hl)
theorem g_slen (hC : gC l b0 D K own cc ret nL fr lo mc ms) {i : Nat} (hi : i < nStr) (hd : decode cc pc = .ok (.arraylength, 1)) (k : gV l b0 D K σ (pc + 1) loc (.int (Int32.ofNat (lenS.getD i 0)) :: st)) : gV l b0 D K σ pc loc (.ref (D.2 (200 + i)) :: st) := by
  obtain ⟨p, e, R, s, m, args, below, meth, c, nL0, Q⟩ := K
  obtain ⟨n, κ, X, Y, Z, cs, ss⟩ := σ
  obtain ⟨hx, hb, hr, hml, rfl, hown, hts, hlk, hK, hNw, hb0, rfl⟩ := hC
  intro H locs ls hR hS hl
  exact va_tlen hx hb (hNw.2.2.2.1.1 i hi).2.2.2 hS rfl hd (k H locs ls hR hS hl)
theorem g_sbyt (hC : gC l b0 D K own cc ret nL fr lo mc ms) {i : Nat} {j : Int32} (hi : i < nStr) (hin : vp_in j (lenS.getD i 0)) (hd : decode cc pc = .ok (.baload, 1)) (k : gV l b0 D K σ (pc + 1) loc (.int ((bytS.getD i []).getD j.toNatClampNeg 0) :: st)) : gV l b0 D K σ pc loc (.int j :: .ref (D.2 (200 + i)) :: st) := by
  obtain ⟨p, e, R, s, m, args, below, meth, c, nL0, Q⟩ := K
  obtain ⟨n, κ, X, Y, Z, cs, ss⟩ := σ
  obtain ⟨hx, hb, hr, hml, rfl, hown, hts, hlk, hK, hNw, hb0, rfl⟩ := hC
  intro H locs ls hR hS hl
  exact va_tb hx hb (hNw.2.2.2.1.1 i hi).2.2.2 hS hin rfl hd (k H locs ls hR hS hl)
end STR

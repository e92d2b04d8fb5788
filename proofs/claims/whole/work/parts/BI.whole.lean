/-- cells that were not there before may be forgotten -/
theorem W_fresh {p : Program} {l : Launch} {e : Env} {R : Room} {s : State} {m : MethodId} {args : Array Value} {below : List Frame} {meth : Method} {c : Code} {H : Heap} {locs : List Loc} {cs ss : Nat} {Q : State → Prop} {g : JFrame} (hl : ∀ x ∈ locs, s.heap.size ≤ x.base) (k : W p l e R s m args below meth c H [] cs ss Q g) : W p l e R s m args below meth c H locs cs ss Q g := by
  intro T hT X
  exact k T hT ⟨X.admits, X.cas, X.clock, X.frames, X.room, X.hears, X.method, X.code, X.here, X.tail, X.warmed, X.limits, X.bytes, State.sameButNew.drop_fresh (L := []) (J := locs) (by rw [List.nil_append]; exact X.same) hl⟩
theorem whole_start {p : Program} {e : Env} {s : State} {m : MethodId} {below : List Frame} {meth : Method} {c : Code} (l : Launch) (hflags : l.flags = flags0) {b L : Nat} {xs : Nat → Int32} (hL : L ≤ 3072) (C0 : lw_At p s m meth c b L xs) : W p l e room_1 s m #[Value.ref b] below meth c s.heap [] 0 0 (lw_Z below #[Value.ref b] s) (entryFrame m ([Value.ref b] : List Value).toArray 4) := by
  obtain ⟨D, hC⟩ := st_gC (e := e) (below := below) (Q := lw_Z below #[Value.ref b] s) l C0
  obtain ⟨hx, hb, hr, hml, hown, hts, hX, hbl, hlk, hgv⟩ := C0
  have hS : gSc s.heap.size (p, e, room_1, s, m, #[Value.ref b], below, meth, c, 4, lw_Z below #[Value.ref b] s) b L xs := ⟨hX, hbl, hbl⟩
  have K := law_all hC hS hL (fun n κ X Y Z i => by
    refine g_iconst hC dL_law_1168 ic_1 ?_
    intro H locs ls hR hSS hl
    exact W_fresh (fun x hx => hSS.2.2 x hx) (lw_ret hx hb hr hlk dL_law_1169))
  have hl := lv_entry [Value.ref b] (n := 4) (Nat.le_of_ble_eq_true rfl)
  rw [lg_entry_eq]
  generalize (lg_sl [Value.ref b] ++ List.replicate (4 - (lg_sl [Value.ref b]).length) Slot.unset).toArray = ls at hl ⊢
  exact K s.heap [] ls ⟨rfl, fun i hi => absurd hi (Nat.not_lt_zero i)⟩ va_S.rf hl

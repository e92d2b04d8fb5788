section FRM
variable {n n' rc rc' o k : Nat} {κ κ' : QT} {X X' : XT} {Z Z' : ZT} {H M K N : Nat} {q : Nat → Nat} {S0 S : SN} {nn : Nat} {nd nh np : Nat → Nat} {c : Nat} {P : Nat → SN} {fo : Int32} {x : Nat}
theorem CS_gen (hX : ∀ i, i ≤ 14 → X' (o + i) = X (o + i)) (hZ : Z' (o + 11) = Z (o + 11)) (hc : c ≤ 20) (hp : ∀ j a, j < 20 → Z (o + 11) j = some a → X' a = X a ∧ X' (a + 1) = X (a + 1) ∧ X' (a + 2) = X (a + 2) ∧ X' (a + 3) = X (a + 3)) (h : CS X Z o H M K N q S0 S nn nd nh np c P fo x) : CS X' Z' o H M K N q S0 S nn nd nh np c P fo x := by
  obtain ⟨h1, h2, h3, h4, h5, h6⟩ := CS_fr hX (fun j a hj ea => hp j a (by omega) ea) h
  exact ⟨h1, h2, h3, h4, h5, by rw [hZ]; exact h6⟩
theorem VSc_rc (hr : rc ≤ rc') (h : VSc rc H M K N q S0 S nn nd nh np c P fo x) : VSc rc' H M K N q S0 S nn nd nh np c P fo x := by
  obtain ⟨a1, a2, a3, a4, a5, a6, a7⟩ := h
  exact ⟨a1, a2, a3, a4, a5, a6.imp id (fun ⟨k, hk, e⟩ => ⟨k, by omega, e⟩), a7⟩
theorem IMG_gen (hk : k < 4) (hr : rc ≤ rc') (hz : Z' 31 k = Z 31 k) (h113 : X' 113 k = X 113 k) (g112 : ∀ j, 1300 * k ≤ j → j < 1300 * k + 1300 → X' 112 j = X 112 j) (hw : ∀ w, Z 31 k = some w → (∀ i, i ≤ 14 → X' (w + i) = X (w + i)) ∧ Z' (w + 11) = Z (w + 11) ∧ ∀ j a, j < 20 → Z (w + 11) j = some a → X' a = X a ∧ X' (a + 1) = X (a + 1) ∧ X' (a + 2) = X (a + 2) ∧ X' (a + 3) = X (a + 3)) (h : IMG rc k X Z) : IMG rc' k X' Z' := by
  rcases h with ⟨a, b⟩ | ⟨w, a, b, cc, o75, o76, o77, o78, o79, o80, o81, o82, o83, o84, o85, o102, H, M, K, N, q, S0, S, nn, nd, nh, np, c, P, fo, x, hI, hV, hC, hR⟩
  · exact Or.inl ⟨hz.trans a, h113.trans b⟩
  · obtain ⟨w1, w2, w3⟩ := hw w a
    refine Or.inr ⟨w, hz.trans a, by rw [h113]; exact b, cc, o75, o76, o77, o78, o79, o80, o81, o82, o83, o84, o85, o102, H, M, K, N, q, S0, S, nn, nd, nh, np, c, P, fo, x, ?_, VSc_rc hr hV, CS_gen w1 w2 hV.2.2.2.1 w3 hC, hR⟩
    obtain ⟨a1, a2, a3, a4, a5, a6, a7, a8, a9, a10, a11, a12, a13⟩ := hI
    exact ⟨fun j hj => (g112 _ (by omega) (by omega)).trans (a1 j hj), fun j hj => (g112 _ (by omega) (by omega)).trans (a2 j hj), fun j hj => (g112 _ (by omega) (by omega)).trans (a3 j hj), fun j hj => (g112 _ (by omega) (by omega)).trans (a4 j hj), (g112 _ (by omega) (by omega)).trans a5, fun j hj => (g112 _ (by omega) (by omega)).trans (a6 j hj), fun j hj => (g112 _ (by omega) (by omega)).trans (a7 j hj), fun j hj => (g112 _ (by omega) (by omega)).trans (a8 j hj), fun j hj => (g112 _ (by omega) (by omega)).trans (a9 j hj), fun j hj => (g112 _ (by omega) (by omega)).trans (a10 j hj), fun j hj => (g112 _ (by omega) (by omega)).trans (a11 j hj), fun j hj => (g112 _ (by omega) (by omega)).trans (a12 j hj), fun j hj => (g112 _ (by omega) (by omega)).trans (a13 j hj)⟩
theorem RLS_gen (hn : n ≤ n') (hκ : ∀ a, a < n → κ' a = κ a) (hL : LY n κ) (hz : Z' 15 = Z 15) (h9 : X' 92 = X 92 ∧ X' 93 = X 93 ∧ X' 94 = X 94 ∧ X' 95 = X 95 ∧ X' 96 = X 96 ∧ X' 97 = X 97) (hx : ∀ ru, κ ru = (4, 0) → ru < n → 114 ≤ ru → X' (ru + 1) = X (ru + 1)) (h : RLS rc n κ X Z) : RLS rc n' κ' X' Z' := fun k hk => by
  obtain ⟨ru, Lru, W, a1, a2, a3, a4, a5, a6, a7⟩ := h k hk
  obtain ⟨e1, e2, e3, e4, e5, e6⟩ := h9
  have hL4 := (hL.2.2.2.2.2 ru a3 a2).1
  exact ⟨ru, Lru, W, by rw [hz]; exact a1, (hκ _ a3).trans a2, by omega, a4, (hκ _ (by omega)).trans a5, by rw [hx ru a2 a3 a4]; exact a6, by rw [e1, e2, e3, e4, e5, e6]; exact a7⟩
/-- only cells of the layout have changed: the rules and the images stay -/
theorem INV_lo (h : INV n κ X Z) (hhi : ∀ a, 114 ≤ a → X' a = X a) (h9 : X' 92 = X 92 ∧ X' 93 = X 93 ∧ X' 94 = X 94 ∧ X' 95 = X 95 ∧ X' 96 = X 96 ∧ X' 97 = X 97) (h113 : X' 113 = X 113) (h112 : ∀ j, j < 5200 → X' 112 j = X 112 j) (h0 : X' 0 4 = X 0 4) (h21 : X' 74 21 = X 74 21) (h26 : X' 74 26 = X 74 26 ∧ X' 74 37 = X 74 37 ∧ X' 74 38 = X 74 38) (hT : ∃ sz, TX sz (X' 1) (X' 2) (X' 74) (X' 91)) (hLv : ∀ rc, rc ≤ 6 → X 0 4 = nI rc → LIV rc X Z → LIV rc X' Z) : INV n κ X' Z := by
  obtain ⟨hP, _, ⟨k26, k37, k38⟩, rc, hrc, h04, k21, hR, hL, hI⟩ := h
  refine ⟨hP, hT, ⟨h26.1.trans k26, h26.2.1.trans k37, h26.2.2.trans k38⟩, rc, hrc, h0.trans h04, h21.trans k21, RLS_gen (Nat.le_refl _) (fun _ _ => rfl) hP.1 rfl h9 (fun ru _ _ h => hhi _ (by omega)) hR, hLv rc hrc h04 hL, fun k hk => IMG_gen hk (Nat.le_refl _) rfl (by rw [h113]) (fun j _ hj => h112 j (by omega)) (fun w hw => ?_) (hI k hk)⟩
  have hw4 := (hP.2.1 k w hk hw).2.2
  refine ⟨fun i _ => hhi _ (by omega), rfl, fun j a hj ea => ?_⟩
  have := pool_w hP hk hw j a hj ea
  exact ⟨hhi _ (by omega), hhi _ (by omega), hhi _ (by omega), hhi _ (by omega)⟩
/-- the live scene is the same -/
theorem LIV_same (hP : POOL n κ Z) (hhi : ∀ a, 114 ≤ a → X' a = X a) (h16 : ∀ i, i ≤ 14 → X' (16 + i) = X (16 + i)) (h75 : X' 75 = X 75) (h76 : X' 76 = X 76) (h77 : X' 77 = X 77) (h78 : X' 78 = X 78) (h79 : X' 79 = X 79) (h80 : X' 80 = X 80) (h81 : X' 81 = X 81) (h82 : X' 82 = X 82) (h83 : X' 83 = X 83) (h84 : X' 84 = X 84) (h85 : X' 85 = X 85) (h102 : X' 102 = X 102) (h43 : X' 74 43 = X 74 43) (h : LIV rc X Z) : LIV rc X' Z := by
  obtain ⟨H, M, K, N, q, S0, S, nn, nd, nh, np, c, P, fo, x, hV, hC, hR⟩ := h
  refine ⟨H, M, K, N, q, S0, S, nn, nd, nh, np, c, P, fo, x, hV, CS_gen h16 rfl hV.2.2.2.1 (fun j a hj ea => ?_) hC, by rw [h75, h76, h77, h78, h79, h80, h81, h82, h83, h84, h85, h102, h43]; exact hR⟩
  have := pool_16 hP j a hj ea
  exact ⟨hhi _ (by omega), hhi _ (by omega), hhi _ (by omega), hhi _ (by omega)⟩
theorem ov_hi {α : Type} {X : Nat → α} {a : Nat} (ha : 114 ≤ a) : ∀ {ks : List Nat} {xs : List α}, (∀ k, k ∈ ks → k < 114) → ov X ks xs a = X a
  | [], _, _ => by unfold ov; rfl
  | _ :: _, [], _ => by unfold ov; rfl
  | k :: ks, x :: xs, h => by
    rw [ov_cons, up_ne (by have := h k List.mem_cons_self; omega)]
    exact ov_hi ha fun k hk => h k (List.mem_cons_of_mem _ hk)
theorem ov_nm {α : Type} {X : Nat → α} {a : Nat} : ∀ {ks : List Nat} {xs : List α}, (∀ k, k ∈ ks → a ≠ k) → ov X ks xs a = X a
  | [], _, _ => by unfold ov; rfl
  | _ :: _, [], _ => by unfold ov; rfl
  | k :: ks, x :: xs, h => by
    rw [ov_cons, up_ne (h k List.mem_cons_self)]
    exact ov_nm fun k hk => h k (List.mem_cons_of_mem _ hk)
theorem ov_16 {α : Type} {X : Nat → α} {i : Nat} {ks : List Nat} {xs : List α} (hi : i ≤ 14) (h : ∀ k, k ∈ ks → k < 16 ∨ 30 < k) : ov X ks xs (16 + i) = X (16 + i) := ov_nm fun k hk => by have := h k hk; omega
end FRM
section EASY
variable {n : Nat} {κ : QT} {X : XT} {Y : YT} {Z : ZT} {b0 : Nat} {D : GD}
theorem RR_75 {S : SN} {x75 x76 x77 x78 z75 : FI} (h : RR S x75 x76 x77 x78) (e : ∀ j, 5 ≤ j → j < 8 → z75 j = x75 j) : RR S z75 x76 x77 x78 := ⟨fun j hj => (e (5 + j) (by omega) (by omega)).trans (h.1 j hj), h.2.1, h.2.2.1, h.2.2.2⟩
theorem k_feed (l : Launch) (h : INV n κ X Z) (v1 v2 v3 v4 v5 : Int32) : CALL l b0 D yX11_feed cX11_feed 6 yX12_feed cX12_feed 6 [.int v1, .int v2, .int v3, .int v4, .int v5] n κ X Y Z := by
  obtain ⟨hP, ⟨sz, hT⟩, _⟩ := id h
  obtain ⟨r, sz', z1, z2, z74, z91, ec, er, hT', f1, f74⟩ := e_feed hT v1 v2 v3 v4 v5
  have mC := c_X11_feed l (X0 := X) (Y0 := Y) (Z := Z) hP.1 (b0 := b0) (D := D) rfl rfl ec
  have mR := c_X12_feed l (X0 := ov X [1, 2] [z1, z2]) (Y0 := ov Y [] []) (Z := Z) hP.1 (b0 := b0) (D := D) rfl rfl er
  refine ⟨r, _, _, _, _, _, _, _, _, _, _, CL_mk mC (by omega) (by omega) (by omega) (by omega), CLR_mk hP.1 mR (by omega) (by omega) (by omega) (by omega), ?_⟩
  have hi : ∀ a, 114 ≤ a → ov (ov X [1, 2] [z1, z2]) [74, 91] [z74, z91] a = X a := fun a ha => (ov_hi ha (by decide)).trans (ov_hi ha (by decide))
  exact INV_lo h hi ⟨rfl, rfl, rfl, rfl, rfl, rfl⟩ rfl (fun _ _ => rfl) rfl (f74 21 (by omega)) ⟨f74 26 (by omega), f74 37 (by omega), f74 38 (by omega)⟩ ⟨sz', hT'⟩ fun rc _ _ hl => LIV_same hP hi (fun i h => (ov_16 h (by decide)).trans (ov_16 h (by decide))) rfl rfl rfl rfl rfl rfl rfl rfl rfl rfl rfl rfl (f74 43 (by omega)) hl
theorem k_end (l : Launch) (h : INV n κ X Z) (v1 : Int32) : CALL l b0 D yX11_end cX11_end 2 yX12_end cX12_end 2 [.int v1] n κ X Y Z := by
  obtain ⟨hP, ⟨sz, hT⟩, _⟩ := id h
  obtain ⟨r, sz', z1, z74, ec, er, hT', f1, f74⟩ := e_end hT v1
  have mC := c_X11_end l (X0 := X) (Y0 := Y) (Z := Z) hP.1 (b0 := b0) (D := D) rfl rfl ec
  have mR := c_X12_end l (X0 := ov X [1] [z1]) (Y0 := ov Y [] []) (Z := Z) hP.1 (b0 := b0) (D := D) rfl rfl er
  refine ⟨r, _, _, _, _, _, _, _, _, _, _, CL_mk mC (by omega) (by omega) (by omega) (by omega), CLR_mk hP.1 mR (by omega) (by omega) (by omega) (by omega), ?_⟩
  have hi : ∀ a, 114 ≤ a → ov (ov X [1] [z1]) [74] [z74] a = X a := fun a ha => (ov_hi ha (by decide)).trans (ov_hi ha (by decide))
  exact INV_lo h hi ⟨rfl, rfl, rfl, rfl, rfl, rfl⟩ rfl (fun _ _ => rfl) rfl (f74 21 (by omega)) ⟨f74 26 (by omega), f74 37 (by omega), f74 38 (by omega)⟩ ⟨sz', hT'⟩ fun rc _ _ hl => LIV_same hP hi (fun i h => (ov_16 h (by decide)).trans (ov_16 h (by decide))) rfl rfl rfl rfl rfl rfl rfl rfl rfl rfl rfl rfl (f74 43 (by omega)) hl
theorem k_seed (l : Launch) (h : INV n κ X Z) (v1 : Int32) : CALL l b0 D yX11_seed cX11_seed 3 yX12_seed cX12_seed 3 [.int v1] n κ X Y Z := by
  obtain ⟨hP, hT, _, rc, hrc, h04, _, _, ⟨H, M, K, N, q, S0, S, nn, nd, nh, np, c, P, fo, x, hV, hC, hR⟩, _⟩ := id h
  obtain ⟨r, x', hx', ec, er⟩ := e_seed (x16 := X 16) (x75 := X 75) hV.2.2.1 hC.1.2.2.2 hR.1.2.2.2.2.2.2.1 v1
  have mC := c_X11_seed l (X0 := X) (Y0 := Y) (Z := Z) hP.1 (b0 := b0) (D := D) rfl rfl ec
  have mR := c_X12_seed l (X0 := ov X [16] [upd (X 16) 9 (nI x')]) (Y0 := ov Y [] []) (Z := Z) hP.1 (b0 := b0) (D := D) rfl rfl er
  refine ⟨r, _, _, _, _, _, _, _, _, _, _, CL_mk mC (by omega) (by omega) (by omega) (by omega), CLR_mk hP.1 mR (by omega) (by omega) (by omega) (by omega), ?_⟩
  have hi : ∀ a, 114 ≤ a → ov (ov X [16] [upd (X 16) 9 (nI x')]) [75] [upd (X 75) 9 (nI x')] a = X a := fun a ha => (ov_hi ha (by decide)).trans (ov_hi ha (by decide))
  refine INV_lo h hi ⟨rfl, rfl, rfl, rfl, rfl, rfl⟩ rfl (fun _ _ => rfl) rfl rfl ⟨rfl, rfl, rfl⟩ hT fun rc' hrc' h04' _ => ?_
  have erc : rc' = rc := (nI_eq (by omega) (by omega)).mp (h04'.symm.trans h04)
  subst erc
  obtain ⟨a1, a2, a3, a4, a5, a6, a7⟩ := hV
  obtain ⟨⟨b1, b2, b3, b4⟩, c2, c3, c4, c5, c6⟩ := hC
  obtain ⟨⟨r0, r1, r2, r3, r4, r8, r9, r10⟩, s2, s3, s4⟩ := hR
  refine ⟨H, M, K, N, q, S0, S, nn, nd, nh, np, c, P, fo, x', ⟨a1, a2, hx', a4, a5, a6, a7⟩, ⟨⟨b1, b2, b3, rfl⟩, c2, c3, c4, c5, fun j hj => ?_⟩, ⟨r0, r1, r2, r3, r4, r8, rfl, r10⟩, s2, show RR S (upd (X 75) 9 (nI x')) (X 76) (X 77) (X 78) from RR_75 s3 (fun j _ _ => pk_un (by omega)), s4⟩
  obtain ⟨a, ea, ha⟩ := c6 j hj
  have := pool_16 hP j a (by omega) ea
  exact ⟨a, ea, by rw [hi a (by omega), hi (a + 1) (by omega), hi (a + 2) (by omega), hi (a + 3) (by omega)]; exact ha⟩
theorem k_force (l : Launch) (h : INV n κ X Z) (v1 : Int32) : CALL l b0 D yX11_force cX11_force 3 yX12_force cX12_force 3 [.int v1] n κ X Y Z := by
  obtain ⟨hP, hT, _, rc, hrc, h04, h21, _, ⟨H, M, K, N, q, S0, S, nn, nd, nh, np, c, P, fo, x, hV, hC, hR⟩, _⟩ := id h
  obtain ⟨r, ⟨ec, er⟩ | ⟨hv, ec, er⟩⟩ := e_force (x0 := X 0) (x16 := X 16) (x74 := X 74) (x75 := X 75) hrc h04 h21 (hC.1.2.2.1.trans hR.1.2.2.2.2.2.2.2.symm) v1
  · have mC := c_X11_force l (X0 := X) (Y0 := Y) (Z := Z) hP.1 (b0 := b0) (D := D) rfl rfl ec
    have mR := c_X12_force l (X0 := ov X [0, 16] [X 0, X 16]) (Y0 := ov Y [] []) (Z := Z) hP.1 (b0 := b0) (D := D) rfl rfl er
    refine ⟨r, _, _, _, _, _, _, _, _, _, _, CL_mk mC (by omega) (by omega) (by omega) (by omega), CLR_mk hP.1 mR (by omega) (by omega) (by omega) (by omega), ?_⟩
    have e1 : ov X [0, 16] [X 0, X 16] = X := ov_id' rfl
    have e2 : ov X [74, 75] [X 74, X 75] = X := ov_id' rfl
    rw [e1, e2]
    exact h
  · have mC := c_X11_force l (X0 := X) (Y0 := Y) (Z := Z) hP.1 (b0 := b0) (D := D) rfl rfl ec
    have mR := c_X12_force l (X0 := ov X [0, 16] [X 0, upd (X 16) 8 v1]) (Y0 := ov Y [] []) (Z := Z) hP.1 (b0 := b0) (D := D) rfl rfl er
    refine ⟨r, _, _, _, _, _, _, _, _, _, _, CL_mk mC (by omega) (by omega) (by omega) (by omega), CLR_mk hP.1 mR (by omega) (by omega) (by omega) (by omega), ?_⟩
    have hi : ∀ a, 114 ≤ a → ov (ov X [0, 16] [X 0, upd (X 16) 8 v1]) [74, 75] [ov X [0, 16] [X 0, upd (X 16) 8 v1] 74, upd (X 75) 10 v1] a = X a := fun a ha => (ov_hi ha (by decide)).trans (ov_hi ha (by decide))
    refine INV_lo h hi ⟨rfl, rfl, rfl, rfl, rfl, rfl⟩ rfl (fun _ _ => rfl) rfl rfl ⟨rfl, rfl, rfl⟩ hT fun rc' hrc' h04' _ => ?_
    have erc : rc' = rc := (nI_eq (by omega) (by omega)).mp (h04'.symm.trans h04)
    subst erc
    obtain ⟨a1, a2, a3, a4, a5, a6, a7⟩ := hV
    obtain ⟨⟨b1, b2, b3, b4⟩, c2, c3, c4, c5, c6⟩ := hC
    obtain ⟨⟨r0, r1, r2, r3, r4, r8, r9, r10⟩, s2, s3, s4⟩ := hR
    refine ⟨H, M, K, N, q, S0, S, nn, nd, nh, np, c, P, v1, x, ⟨a1, a2, a3, a4, a5, hv, a7⟩, ⟨⟨b1, b2, rfl, b4⟩, c2, c3, c4, c5, fun j hj => ?_⟩, ⟨r0, r1, r2, r3, r4, r8, r9, rfl⟩, s2, show RR S (upd (X 75) 10 v1) (X 76) (X 77) (X 78) from RR_75 s3 (fun j _ _ => pk_un (by omega)), s4⟩
    obtain ⟨a, ea, ha⟩ := c6 j hj
    have := pool_16 hP j a (by omega) ea
    exact ⟨a, ea, by rw [hi a (by omega), hi (a + 1) (by omega), hi (a + 2) (by omega), hi (a + 3) (by omega)]; exact ha⟩
theorem k_note (l : Launch) (h : INV n κ X Z) (v1 v2 v3 : Int32) : CALL l b0 D yX11_note cX11_note 4 yX12_note cX12_note 5 [.int v1, .int v2, .int v3] n κ X Y Z := by
  obtain ⟨hP, hT, _, rc, hrc, h04, _, _, ⟨H, M, K, N, q, S0, S, nn, nd, nh, np, c, P, fo, x, hV, hC, hR⟩, _⟩ := id h
  obtain ⟨a1, a2, a3, a4, a5, a6, a7, a8, a9⟩ := hV
  obtain ⟨⟨b1, b2, b3, b4⟩, ⟨t0, t1, t3, t4, tq⟩, c3, c4, c5, c6⟩ := hC
  obtain ⟨⟨r0, r1, r2, r3, r4, r8, r9, r10⟩, s2, s3, s4, s5⟩ := hR
  have hMH : M ≤ 6 ∧ H ≤ 60 ∧ ∀ j, j < nn → nd j ≤ 60 ∧ nh j < M ∧ np j ≤ H := by
    rcases a9 with ⟨rfl, rfl, _, rfl, _⟩ | ⟨hD, _, hN, _⟩
    · exact ⟨by omega, by omega, fun j hj => absurd hj (by omega)⟩
    · exact ⟨hD.1.1, hD.1.2.2.1, hN⟩
  have hNT : NT H M nn nd nh np (X 28) (X 29) (X 30) (X 80) (X 81) (X 82) := ⟨a5, fun j hj => ⟨hMH.2.2 j hj, c5 j hj, s4 j hj⟩⟩
  obtain ⟨r, n', nd', nh', np', d28, d29, d30, d80, d81, d82, ec, er, hNT'⟩ := e_note (x16 := X 16) (x17 := X 17) (x75 := X 75) hMH.1 hMH.2.1 t0 t4 r0 r4 hNT b2 r8 v1 v2 v3
  have mC := c_X11_note l (X0 := X) (Y0 := Y) (Z := Z) hP.1 (b0 := b0) (D := D) rfl rfl ec
  have mR := c_X12_note l (X0 := ov X [16, 17, 28, 29, 30] [upd (X 16) 7 (nI n'), X 17, d28, d29, d30]) (Y0 := ov Y [] []) (Z := Z) hP.1 (b0 := b0) (D := D) rfl rfl er
  refine ⟨r, _, _, _, _, _, _, _, _, _, _, CL_mk mC (by omega) (by omega) (by omega) (by omega), CLR_mk hP.1 mR (by omega) (by omega) (by omega) (by omega), ?_⟩
  have hi : ∀ a, 114 ≤ a → ov (ov X [16, 17, 28, 29, 30] [upd (X 16) 7 (nI n'), X 17, d28, d29, d30]) [75, 80, 81, 82] [upd (X 75) 8 (nI n'), d80, d81, d82] a = X a := fun a ha => (ov_hi ha (by decide)).trans (ov_hi ha (by decide))
  refine INV_lo h hi ⟨rfl, rfl, rfl, rfl, rfl, rfl⟩ rfl (fun _ _ => rfl) rfl rfl ⟨rfl, rfl, rfl⟩ hT fun rc' hrc' h04' _ => ?_
  have erc : rc' = rc := (nI_eq (by omega) (by omega)).mp (h04'.symm.trans h04)
  subst erc
  refine ⟨H, M, K, N, q, S0, S, n', nd', nh', np', c, P, fo, x, ⟨a1, a2, a3, a4, hNT'.1, a6, a7, a8, ?_⟩, ⟨⟨b1, rfl, b3, b4⟩, ⟨t0, t1, t3, t4, tq⟩, c3, c4, fun j hj => (hNT'.2 j hj).2.1, fun j hj => ?_⟩, ⟨r0, r1, r2, r3, r4, rfl, r9, r10⟩, s2, show RR S (upd (X 75) 8 (nI n')) (X 76) (X 77) (X 78) from RR_75 s3 (fun j _ _ => pk_un (by omega)), fun j hj => (hNT'.2 j hj).2.2, s5⟩
  · rcases a9 with ⟨rfl, rfl, hN0, rfl, hc0, hS⟩ | ⟨hD, hD0, hN, hPs⟩
    · refine Or.inl ⟨rfl, rfl, hN0, ?_, hc0, hS⟩
      refine Nat.eq_zero_of_not_pos fun hh => ?_
      have := (hNT'.2 0 hh).1.2.1
      omega
    · exact Or.inr ⟨hD, hD0, fun j hj => (hNT'.2 j hj).1, hPs⟩
  · obtain ⟨a, ea, ha⟩ := c6 j hj
    have := pool_16 hP j a (by omega) ea
    exact ⟨a, ea, by rw [hi a (by omega), hi (a + 1) (by omega), hi (a + 2) (by omega), hi (a + 3) (by omega)]; exact ha⟩
theorem k_count (l : Launch) (h : INV n κ X Z) (v1 : Int32) : CALL l b0 D yX11_count cX11_count 2 yX12_count cX12_count 2 [.int v1] n κ X Y Z := by
  obtain ⟨hP, ⟨sz, hT⟩, ⟨h26, h37, h38⟩, rc, hrc, h04, h21, _, ⟨H, M, K, N, q, S0, S, nn, nd, nh, np, c, P, fo, x, hV, hC, hR⟩, _⟩ := id h
  obtain ⟨a1, a2, a3, a4, a5, a6, a7, a8, a9⟩ := hV
  obtain ⟨⟨b1, b2, b3, b4⟩, ⟨t0, t1, t3, t4, tq⟩, c3, c4, c5, c6⟩ := hC
  obtain ⟨⟨r0, r1, r2, r3, r4, r8, r9, r10⟩, s2, s3, s4, s5, s6, s7⟩ := hR
  have hd : S 0 ≤ 999 ∧ S 2 ≤ 9 := by
    rcases a9 with ⟨_, _, _, _, _, hS⟩ | ⟨hD, _⟩
    · rw [hS 0, hS 2]; omega
    · exact ⟨hD.2.2.2.1, hD.2.2.2.2.2⟩
  have hh := p_heatOf (x17 := X 17) (x18 := X 18) a2 t3 tq (show S 0 < 2147483648 by omega) (c4.1 0 (by omega)) (c4.1 2 (by omega)) hd.2
  have hh' := p_heatR (x74 := X 74) (x75 := X 75) (x79 := X 79) a2 h37 r3 s2 (show S 0 < 2147483648 by omega) (s3.1 0 (by omega)) (s3.1 2 (by omega)) hd.2
  have hrp : ∃ rb pl, fX9_riverBits (X 24) (X 17) = some rb ∧ fX12_inRiver (X 75) (X 76) = some rb ∧ fX9_placesOf (X 24) (X 17) = some pl ∧ fX12_allPlaces (X 75) (X 76) = some pl := by
    rcases a9 with ⟨rfl, rfl, _, _, _, hS⟩ | ⟨hD, _⟩
    · have t4' : X 17 4 = 0 := t4
      have r4' : X 75 (4 : Int32).toNatClampNeg = 0 := r4
      refine ⟨0, 0, ?_, ?_, ?_, ?_⟩
      · show fX9_riverBits_4b (X 24) (X 17) (lq2 _ 4999) 0 0 = _
        unfold fX9_riverBits_4b
        rw [t4', if_pos (by decide)]
      · show fX12_inRiver_4b (X 75) (X 76) (lq2 _ 4999) 0 0 = _
        unfold fX12_inRiver_4b
        rw [gd_t (by decide), r4', if_pos (by decide)]
      · show fX9_placesOf_4b (X 24) (X 17) (lq2 _ 4999) 0 0 = _
        unfold fX9_placesOf_4b
        rw [t4', if_pos (by decide)]
      · show fX12_allPlaces_4b (X 75) (X 76) (lq2 _ 4999) 0 0 = _
        unfold fX12_allPlaces_4b
        rw [gd_t (by decide), r4', if_pos (by decide)]
    · have hTC : TC H M K N q (X 17) (X 18) := ⟨a2, a1, t0, t1, t3, t4, tq⟩
      have hTR : TR H M K N q (X 75) (X 79) := ⟨a2, a1, r0, r2, r3, r4, s2⟩
      exact ⟨_, _, p_riverC hD hTC (RC_p c4), p_riverR hD hTR (RC_p s3), p_placesC hD.1.1 t4 (RC_p c4), p_placesR hD.1.1 r4 (RC_p s3)⟩
  obtain ⟨rb, pl, q1, q2, q3, q4⟩ := hrp
  obtain ⟨r, ec, er⟩ := e_count (x0 := X 0) (x1 := X 1) (x16 := X 16) (x17 := X 17) (x18 := X 18) (x23 := X 23) (x24 := X 24) (x74 := X 74) (x75 := X 75) (x76 := X 76) (x79 := X 79) (rc := 0) (ts := 0) hh hh' q1 q2 q3 q4 (t0.trans r0.symm) (t1.trans r2.symm) (t3.trans r3.symm) (t4.trans r4.symm) (h04.trans h21.symm) (b3.trans r10.symm) ((c4.1 0 (by omega)).trans (s3.1 0 (by omega)).symm) ((c4.1 1 (by omega)).trans (s3.1 1 (by omega)).symm) ((c4.1 2 (by omega)).trans (s3.1 2 (by omega)).symm) (b2.trans r8.symm) (b1.trans s7.symm) (b4.trans r9.symm) (hT.2.1.trans hT.2.2.1.symm) v1
  have mC := c_X11_count l (X0 := X) (Y0 := Y) (Z := Z) hP.1 (b0 := b0) (D := D) rfl rfl ec
  have e1 : ov X [0, 1, 16, 17, 18, 23, 24] [X 0, X 1, X 16, X 17, X 18, X 23, X 24] = X := ov_id' rfl
  rw [e1] at mC
  have mR := c_X12_count l (X0 := X) (Y0 := ov Y [] []) (Z := Z) hP.1 (b0 := b0) (D := D) rfl rfl er
  refine ⟨r, _, _, _, _, _, _, _, _, _, _, CL_mk mC (by omega) (by omega) (by omega) (by omega), CLR_mk hP.1 mR (by omega) (by omega) (by omega) (by omega), ?_⟩
  have e2 : ov X [74, 75, 76, 79] [X 74, X 75, X 76, X 79] = X := ov_id' rfl
  rw [e2]
  exact h
end EASY

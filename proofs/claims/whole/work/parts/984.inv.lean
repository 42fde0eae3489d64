/-! THE INVARIANT is kept by every call -/
theorem Inv.fr {σ σ' : gS} {P : Nat → Nat → Prop} (f : Fr P σ σ') {x y : Nat} (h : P x y) : eqA σ σ' x y := f x y h
section INV
variable {σ : gS}
theorem i_same {α : Type} {A : Option (α × gS)} {B : gS → Option (α × gS)} (h : Inv σ) (k : Ok A B (fun σ' => σ' = σ)) : Ok A B Inv := ok_m k (fun σ' e => e ▸ h)
theorem i_rows {α : Type} {A : Option (α × gS)} {B : gS → Option (α × gS)} (h : Inv σ) (k : Ok A B (fun σ' => iRows σ' ∧ Fr pRow σ σ')) : Ok A B Inv := ok_m k (fun σ' ⟨r, f⟩ => by
  obtain ⟨t, D, O, lk, kc, kr, km, kt, ip, ic, ir, it, iw, pl, ia⟩ := h
  have g : ∀ x y, ¬ (x = 0 ∧ y = 11) → ¬ (151 ≤ x ∧ x ≤ 167) → ¬ (x = 168 ∧ y = 94) → ¬ (229 ≤ x ∧ x ≤ 232) → eqA σ σ' x y := fun x y a b c d => f x y ⟨a, b, c, d⟩
  exact ⟨t, D, O, lk.keep (fun x y a => g x y (by unfold pR0 at a; omega) (by unfold pR0 at a; omega) (by unfold pR0 at a; omega) (by unfold pR0 at a; omega)), kc.keep (fun x y a b => (g x y (by omega) (by omega) (by omega) (by omega)).1), kr.keep (fun x y a => (g x y (by omega) (by omega) (by omega) (by omega)).1), km.keep lk.2.2.2.1 (fun x y a b => (g x y (by omega) (by omega) (by omega) (by omega)).1) (fun y => (g 60 y (by omega) (by omega) (by omega) (by omega)).2.2), kt.keep (fun x y a => g x y (by omega) (by omega) (by omega) (by omega)), ip.keep (fun x y a => g x y (by omega) (by omega) (by omega) (by omega)), ic.keep (fun x y a => g x y (by omega) (by omega) (by omega) (by omega)), r, it.keep (fun x y a => g x y (by omega) (by omega) (by omega) (by omega)), fun w hw => by rw [(g 3 w (by omega) (by omega) (by omega) (by omega)).1]; exact iw w hw, by rw [(g 1 9 (by omega) (by omega) (by omega) (by omega)).1, (g 168 50 (by omega) (by omega) (by omega) (by omega)).1]; exact pl, ia.keep (fun x y a => g x y (by omega) (by omega) (by omega) (by omega))⟩)
theorem i_lay (h : Inv σ) (p q n : Int32) : Ok (fX10_lay p q n σ) (fX11_lay p q n) Inv := i_rows h (lay_eq (by obtain ⟨t, D, O, lk, kc, kr, km, kt, ip, ic, ir, r⟩ := h; exact ir) p q n)
theorem Inv.rows (h : Inv σ) : iRows σ := by obtain ⟨t, D, O, lk, kc, kr, km, kt, ip, ic, ir, r⟩ := h; exact ir
theorem i_drop (h : Inv σ) (p : Int32) : Ok (fX10_drop p σ) (fX11_drop p) Inv := i_rows h (drop_eq2 h.rows p)
theorem i_put (h : Inv σ) (p q : Int32) (v : Int64) : Ok (fX10_put p q v σ) (fX11_put p q v) Inv := i_rows h (put_eq h.rows p q v)
theorem i_get (h : Inv σ) (p q : Int32) : Ok (fX10_get p q σ) (fX11_get p q) Inv := i_rows h (get_eq h.rows p q)
theorem i_move (h : Inv σ) (p1 p2 p3 p4 p5 : Int32) : Ok (fX10_move p1 p2 p3 p4 p5 σ) (fX11_move p1 p2 p3 p4 p5) Inv := i_rows h (move_eq h.rows p1 p2 p3 p4 p5)
theorem i_keep (h : Inv σ) (p q : Int32) : Ok (fX10_keep p q σ) (fX11_keep p q) Inv := i_rows h (keep_eq h.rows (by obtain ⟨t, D, O, lk, kc, kr, km, kt, ip, ic, r⟩ := h; exact ic) p q)
theorem i_status (h : Inv σ) : Ok (fX10_status σ) fX11_status Inv := i_same h (status_eq h.rows)
theorem i_four (h : Inv σ) (p1 p2 p3 p4 : Int32) : Ok (fX10_fourBars p1 p2 p3 p4 σ) (fX11_fourBars p1 p2 p3 p4) Inv := i_same h (four_eq σ p1 p2 p3 p4)
theorem i_feed (h : Inv σ) (p : Int32) (x : Int64) : Ok (fX10_feed p x σ) (fX11_feed p x) Inv := by
  obtain ⟨t, D, O, lk, kc, kr, km, kt, ip, ic, ir, it, iw, pl, ia⟩ := h
  refine ok_m (feed_eq it p x) (fun σ' ⟨r, f⟩ => ?_)
  have g : ∀ x y, ¬ (x = 1 ∧ y = 1) → x ≠ 2 → ¬ (x = 168 ∧ y = 43) → x ≠ 197 → eqA σ σ' x y := fun x y a b c d => f x y ⟨a, b, c, d⟩
  exact ⟨t, D, O, lk.keep (fun x y a => g x y (by unfold pR0 at a; omega) (by unfold pR0 at a; omega) (by unfold pR0 at a; omega) (by unfold pR0 at a; omega)), kc.keep (fun x y a b => (g x y (by omega) (by omega) (by omega) (by omega)).1), kr.keep (fun x y a => (g x y (by omega) (by omega) (by omega) (by omega)).1), km.keep lk.2.2.2.1 (fun x y a b => (g x y (by omega) (by omega) (by omega) (by omega)).1) (fun y => (g 60 y (by omega) (by omega) (by omega) (by omega)).2.2), kt.keep (fun x y a => g x y (by omega) (by omega) (by omega) (by omega)), ip.keep (fun x y a => g x y (by omega) (by omega) (by omega) (by omega)), ic.keep (fun x y a => g x y (by omega) (by omega) (by omega) (by omega)), ir.keep (fun x y a => g x y (by omega) (by omega) (by omega) (by omega)), r, fun w hw => by rw [(g 3 w (by omega) (by omega) (by omega) (by omega)).1]; exact iw w hw, by rw [(g 1 9 (by omega) (by omega) (by omega) (by omega)).1, (g 168 50 (by omega) (by omega) (by omega) (by omega)).1]; exact pl, ia.keep (fun x y a => g x y (by omega) (by omega) (by omega) (by omega))⟩
theorem i_part (h : Inv σ) (p q : Int32) : Ok (fX10_part p q σ) (fX11_part p q) Inv := by
  have h0 := h
  obtain ⟨t, D, O, lk, r⟩ := h
  exact i_same h0 (part_eq lk.k p q)
theorem i_is (h : Inv σ) (p q : Int32) : Ok (fX10_is p q σ) (fX11_is p q) Inv := by
  have h0 := h
  obtain ⟨t, D, O, lk, r⟩ := h
  exact i_same h0 (is_eq lk.k p q)
theorem i_place (h : Inv σ) : Ok (fX10_place σ) fX11_place Inv := by
  have h0 := h
  obtain ⟨t, D, O, lk, kc, kr, km, kt, ip, ic, ir, it, iw, pl, ia⟩ := h
  exact i_same h0 (place_eq pl)
theorem i_needed (h : Inv σ) (p : Int32) : Ok (fX10_needed p σ) (fX11_needed p) Inv := by
  have h0 := h
  obtain ⟨t, D, O, lk, kc, kr, r⟩ := h
  exact i_same h0 (needed_eq lk kc kr p)
theorem i_together (h : Inv σ) (p q : Int32) : Ok (fX10_together p q σ) (fX11_together p q) Inv := by
  have h0 := h
  obtain ⟨t, D, O, lk, kc, kr, r⟩ := h
  exact i_same h0 (together_eq lk kc kr p q)
theorem i_cluster (h : Inv σ) (p : Int32) : Ok (fX10_cluster p σ) (fX11_cluster p) Inv := by
  have h0 := h
  obtain ⟨t, D, O, lk, kc, kr, r⟩ := h
  exact i_same h0 (cluster_eq lk kc kr p)
theorem i_mobility (h : Inv σ) : Ok (fX10_mobility σ) fX11_mobility Inv := by
  have h0 := h
  obtain ⟨t, D, O, lk, kc, kr, r⟩ := h
  exact i_same h0 (mobility_eq lk kc kr)
theorem i_count (h : Inv σ) (p : Int32) : Ok (fX10_count p σ) (fX11_count p) Inv := by
  have h0 := h
  obtain ⟨t, D, O, lk, kc, kr, km, kt, ip, ic, ir, it, iw, pl, ia⟩ := h
  exact i_same h0 (count_eq lk kc kr ir it p)
theorem i_digest (h : Inv σ) : Ok (fX10_digest σ) fX11_digest Inv := by
  have h0 := h
  obtain ⟨t, D, O, lk, kc, kr, km, kt, ip, ic, ir, r⟩ := h
  exact i_same h0 (digest_eq lk ir)
theorem i_at (h : Inv σ) (p q : Int32) : Ok (fX10_at p q σ) (fX11_at p q) Inv := by
  have h0 := h
  obtain ⟨t, D, O, lk, kc, kr, km, kt, ip, r⟩ := h
  exact i_same h0 (at_eq lk ip p q)
theorem i_why (h : Inv σ) (p : Int32) : Ok (fX10_why p σ) (fX11_why p) Inv := by
  have h0 := h
  obtain ⟨t, D, O, lk, kc, kr, km, kt, ip, r⟩ := h
  exact i_same h0 (why_eq lk ip p)
theorem i_order (h : Inv σ) (p q : Int32) : Ok (fX10_order p q σ) (fX11_order p q) Inv := by
  have h0 := h
  obtain ⟨t, D, O, lk, kc, kr, km, kt, r⟩ := h
  exact i_same h0 (order_eq lk kt p q)
theorem i_curve (h : Inv σ) (p q : Int32) : Ok (fX10_curve p q σ) (fX11_curve p q) Inv := by
  have h0 := h
  obtain ⟨t, D, O, lk, kc, kr, km, kt, ip, ic, r⟩ := h
  exact i_same h0 (curve_eq ic p q)
theorem i_told (h : Inv σ) (p : Int32) : Ok (fX10_told p σ) (fX11_told p) Inv := by
  have h0 := h
  obtain ⟨t, D, O, lk, kc, kr, km, kt, ip, ic, r⟩ := h
  exact i_same h0 (told_eq ic p)
theorem i_trail (h : Inv σ) (p : Int32) : Ok (fX10_trail p σ) (fX11_trail p) Inv := by
  have h0 := h
  obtain ⟨t, D, O, lk, kc, kr, km, kt, ip, ic, ir, it, iw, pl, ia⟩ := h
  exact i_same h0 (trail_eq ia p)
theorem i_ask (h : Inv σ) (p q : Int32) : Ok (fX10_ask p q σ) (fX11_ask p q) Inv := by
  obtain ⟨t, D, O, lk, kc, kr, km, kt, ip, ic, ir, it, iw, pl, ia⟩ := h
  refine ok_m (ask_eq lk.k ia ir.1 p q) (fun σ' ⟨r, s, f⟩ => ?_)
  have g : ∀ x y, x ≠ 149 → x ≠ 150 → ¬ (x = 0 ∧ y = 11) → ¬ (x = 168 ∧ (y = 94 ∨ y = 96)) → x ≠ 228 → eqA σ σ' x y := fun x y a b c d e => f x y ⟨a, b, c, by omega, by omega, e⟩
  refine ⟨t, D, O, lk.keep (fun x y a => g x y (by unfold pR0 at a; omega) (by unfold pR0 at a; omega) (by unfold pR0 at a; omega) (by unfold pR0 at a; omega) (by unfold pR0 at a; omega)), kc.keep (fun x y a b => (g x y (by omega) (by omega) (by omega) (by omega) (by omega)).1), kr.keep (fun x y a => (g x y (by omega) (by omega) (by omega) (by omega) (by omega)).1), km.keep lk.2.2.2.1 (fun x y a b => (g x y (by omega) (by omega) (by omega) (by omega) (by omega)).1) (fun y => (g 60 y (by omega) (by omega) (by omega) (by omega) (by omega)).2.2), kt.keep (fun x y a => g x y (by omega) (by omega) (by omega) (by omega) (by omega)), ip.keep (fun x y a => g x y (by omega) (by omega) (by omega) (by omega) (by omega)), ic.keep (fun x y a => g x y (by omega) (by omega) (by omega) (by omega) (by omega)), ⟨s, fun i hi => ?_⟩, it.keep (fun x y a => g x y (by omega) (by omega) (by omega) (by omega) (by omega)), fun w hw => by rw [(g 3 w (by omega) (by omega) (by omega) (by omega) (by omega)).1]; exact iw w hw, by rw [(g 1 9 (by omega) (by omega) (by omega) (by omega) (by omega)).1, (g 168 50 (by omega) (by omega) (by omega) (by omega) (by omega)).1]; exact pl, r⟩
  exact iRow_keep2 (ir.2 i hi) (fun k => ⟨(g _ k (by omega) (by omega) (by omega) (by omega) (by omega)).1, (g 229 i (by omega) (by omega) (by omega) (by omega) (by omega)).1, (g 230 i (by omega) (by omega) (by omega) (by omega) (by omega)).1⟩) (fun j hj => ⟨(g _ j (by omega) (by omega) (by omega) (by omega) (by omega)).2.1, (g 231 _ (by omega) (by omega) (by omega) (by omega) (by omega)).2.1⟩)
theorem i_as (h : Inv σ) (p q : Int32) : Ok (fX10_as p q σ) (fX11_as p q) Inv := by
  obtain ⟨t, D, O, lk, kc, kr, km, kt, ip, ic, ir, it, iw, pl, ia⟩ := h
  refine ok_m (as_eq lk.k ir.1 p q) (fun σ' ⟨s, f⟩ => ?_)
  have g : ∀ x y, ¬ (x = 0 ∧ y = 11) → ¬ (x = 168 ∧ y = 94) → eqA σ σ' x y := fun x y a b => f x y ⟨a, b⟩
  refine ⟨t, D, O, lk.keep (fun x y a => g x y (by unfold pR0 at a; omega) (by unfold pR0 at a; omega)), kc.keep (fun x y a b => (g x y (by omega) (by omega)).1), kr.keep (fun x y a => (g x y (by omega) (by omega)).1), km.keep lk.2.2.2.1 (fun x y a b => (g x y (by omega) (by omega)).1) (fun y => (g 60 y (by omega) (by omega)).2.2), kt.keep (fun x y a => g x y (by omega) (by omega)), ip.keep (fun x y a => g x y (by omega) (by omega)), ic.keep (fun x y a => g x y (by omega) (by omega)), ⟨s, fun i hi => ?_⟩, it.keep (fun x y a => g x y (by omega) (by omega)), fun w hw => by rw [(g 3 w (by omega) (by omega)).1]; exact iw w hw, by rw [(g 1 9 (by omega) (by omega)).1, (g 168 50 (by omega) (by omega)).1]; exact pl, ia.keep (fun x y a => g x y (by omega) (by omega))⟩
  exact iRow_keep2 (ir.2 i hi) (fun k => ⟨(g _ k (by omega) (by omega)).1, (g 229 i (by omega) (by omega)).1, (g 230 i (by omega) (by omega)).1⟩) (fun j hj => ⟨(g _ j (by omega) (by omega)).2.1, (g 231 _ (by omega) (by omega)).2.1⟩)
/-- one part is made anew, the others stay -/
theorem i_gen {σ' : gS} {P : Nat → Nat → Prop} (h : Inv σ) (f : Fr P σ σ')
    (hP : ∀ x y, (x = 0 ∧ (y = 1 ∨ y = 11)) ∨ (x = 1 ∧ (y = 1 ∨ y = 3 ∨ y = 9)) ∨ x = 2 ∨ x = 3 ∨ (4 ≤ x ∧ x ≤ 123) ∨ (149 ≤ x ∧ x ≤ 167) ∨ (x = 168 ∧ (y ≤ 20 ∨ y = 43 ∨ y = 50 ∨ y = 52 ∨ y = 57 ∨ y = 94 ∨ y = 96)) ∨ (170 ≤ x ∧ x ≤ 182) ∨ x = 197 ∨ x = 200 ∨ x = 202 ∨ (228 ≤ x ∧ x ≤ 231) → P x y)
    (kt : ∀ t D O, LkD σ t D → KTu σ D O → ∃ O', KTu σ' D O') (ip : ∀ D, IPo σ D → IPo σ' D) (ic : ICu σ → ICu σ') : Inv σ' := by
  obtain ⟨t, D, O, lk, kc, kr, km, kt0, ip0, ic0, ir, it, iw, pl, ia⟩ := h
  have g : ∀ x y, (x = 0 ∧ (y = 1 ∨ y = 11)) ∨ (x = 1 ∧ (y = 1 ∨ y = 3 ∨ y = 9)) ∨ x = 2 ∨ x = 3 ∨ (4 ≤ x ∧ x ≤ 123) ∨ (149 ≤ x ∧ x ≤ 167) ∨ (x = 168 ∧ (y ≤ 20 ∨ y = 43 ∨ y = 50 ∨ y = 52 ∨ y = 57 ∨ y = 94 ∨ y = 96)) ∨ (170 ≤ x ∧ x ≤ 182) ∨ x = 197 ∨ x = 200 ∨ x = 202 ∨ (228 ≤ x ∧ x ≤ 231) → eqA σ σ' x y := fun x y a => f x y (hP x y a)
  obtain ⟨O', kt'⟩ := kt t D O lk kt0
  exact ⟨t, D, O', lk.keep (fun x y a => g x y (by unfold pR0 at a; omega)), kc.keep (fun x y a b => (g x y (by omega)).1), kr.keep (fun x y a => (g x y (by omega)).1), km.keep lk.2.2.2.1 (fun x y a b => (g x y (by omega)).1) (fun y => (g 60 y (by omega)).2.2), kt', ip D ip0, ic ic0, ir.keep (fun x y a => g x y (by omega)), it.keep (fun x y a => g x y (by omega)), fun w hw => by rw [(g 3 w (by omega)).1]; exact iw w hw, by rw [(g 1 9 (by omega)).1, (g 168 50 (by omega)).1]; exact pl, ia.keep (fun x y a => g x y (by omega))⟩
theorem i_rank (h : Inv σ) (p : Int32) : Ok (fX10_rank p σ) (fX11_rankB p) Inv := by
  have h0 := h
  obtain ⟨t, D, O, lk, kc, kr, km, r⟩ := h
  refine ok_m (rank_eq lk km p) (fun σ' f => i_gen h0 f (fun x y a => by unfold pXr; omega) (fun t D O _ k => ⟨O, k.keep (fun x y a => f x y (by unfold pXr; omega))⟩) (fun D k => k.keep (fun x y a => f x y (by unfold pXr; omega))) (fun k => k.keep (fun x y a => f x y (by unfold pXr; omega))))
theorem i_motion (h : Inv σ) (p q s : Int32) : Ok (fX10_motion p q s σ) (fX11_motionB p q s) Inv := by
  have h0 := h
  obtain ⟨t, D, O, lk, kc, kr, km, r⟩ := h
  refine ok_m (motion_eq lk km p q s) (fun σ' f => i_gen h0 f (fun x y a => by unfold pXr; omega) (fun t D O _ k => ⟨O, k.keep (fun x y a => f x y (by unfold pXr; omega))⟩) (fun D k => k.keep (fun x y a => f x y (by unfold pXr; omega))) (fun k => k.keep (fun x y a => f x y (by unfold pXr; omega))))
theorem i_ratio (h : Inv σ) (p q s : Int32) : Ok (fX10_ratio p q s σ) (fX11_ratio p q s) Inv := by
  have h0 := h
  obtain ⟨t, D, O, lk, r⟩ := h
  refine ok_m (ratio_eq lk p q s) (fun σ' f => i_gen h0 f (fun x y a => by unfold pXt; omega) (fun t D O _ k => ⟨O, k.keep (fun x y a => f x y (by unfold pXt; omega))⟩) (fun D k => k.keep (fun x y a => f x y (by unfold pXt; omega))) (fun k => k.keep (fun x y a => f x y (by unfold pXt; omega))))
theorem i_lock (h : Inv σ) : Ok (fX10_lock σ) fX11_lock Inv := by
  have h0 := h
  obtain ⟨t, D, O, lk, r⟩ := h
  refine ok_m (lock_eq lk) (fun σ' f => i_gen h0 f (fun x y a => by unfold pXt; omega) (fun t D O _ k => ⟨O, k.keep (fun x y a => f x y (by unfold pXt; omega))⟩) (fun D k => k.keep (fun x y a => f x y (by unfold pXt; omega))) (fun k => k.keep (fun x y a => f x y (by unfold pXt; omega))))
theorem i_pose (h : Inv σ) (p : Int32) : Ok (fX10_pose p σ) (fX11_pose p) Inv := by
  obtain ⟨t, D, O, lk, kc, kr, km, kt, ip, ic, ir, it, iw, pl, ia⟩ := h
  refine ok_m (pose_eq lk kt ip p) (fun σ' ⟨r, f⟩ => ?_)
  have g : ∀ x y, ¬ (x = 0 ∧ y = 6) → ¬ (132 ≤ x ∧ x ≤ 135) → ¬ (x = 168 ∧ y = 81) → ¬ (216 ≤ x ∧ x ≤ 221) → eqA σ σ' x y := fun x y a b c d => f x y ⟨a, b, c, d⟩
  exact ⟨t, D, O, lk.keep (fun x y a => g x y (by unfold pR0 at a; omega) (by unfold pR0 at a; omega) (by unfold pR0 at a; omega) (by unfold pR0 at a; omega)), kc.keep (fun x y a b => (g x y (by omega) (by omega) (by omega) (by omega)).1), kr.keep (fun x y a => (g x y (by omega) (by omega) (by omega) (by omega)).1), km.keep lk.2.2.2.1 (fun x y a b => (g x y (by omega) (by omega) (by omega) (by omega)).1) (fun y => (g 60 y (by omega) (by omega) (by omega) (by omega)).2.2), kt.keep (fun x y a => g x y (by omega) (by omega) (by omega) (by omega)), r, ic.keep (fun x y a => g x y (by omega) (by omega) (by omega) (by omega)), ir.keep (fun x y a => g x y (by omega) (by omega) (by omega) (by omega)), it.keep (fun x y a => g x y (by omega) (by omega) (by omega) (by omega)), fun w hw => by rw [(g 3 w (by omega) (by omega) (by omega) (by omega)).1]; exact iw w hw, by rw [(g 1 9 (by omega) (by omega) (by omega) (by omega)).1, (g 168 50 (by omega) (by omega) (by omega) (by omega)).1]; exact pl, ia.keep (fun x y a => g x y (by omega) (by omega) (by omega) (by omega))⟩
theorem i_trace (h : Inv σ) (p : Int32) : Ok (fX10_trace p σ) (fX11_trace p) Inv := by
  have h0 := h
  obtain ⟨t, D, O, lk, kc, kr, km, kt, ip, ic, r⟩ := h
  refine ok_m (trace_eq lk kt ic p) (fun σ' ⟨r, f⟩ => i_gen h0 f (fun x y a => by unfold pXc; omega) (fun t D O _ k => ⟨O, k.keep (fun x y a => f x y (by unfold pXc; omega))⟩) (fun D k => k.keep (fun x y a => f x y (by unfold pXc; omega))) (fun _ => r))
theorem i_flip (h : Inv σ) (p : Int32) : Ok (fX10_flip p σ) (fX11_flip p) Inv := by
  obtain ⟨t, D, O, lk, kc, kr, km, kt, ip, ic, ir, it, iw, pl, ia⟩ := h
  refine ok_m (flip_eq lk kt p) (fun σ' ⟨⟨O', r⟩, f⟩ => ?_)
  have g : ∀ x y, x ≠ 129 → x ≠ 215 → eqA σ σ' x y := fun x y a b => f x y ⟨a, b⟩
  exact ⟨t, D, O', lk.keep (fun x y a => g x y (by unfold pR0 at a; omega) (by unfold pR0 at a; omega)), kc.keep (fun x y a b => (g x y (by omega) (by omega)).1), kr.keep (fun x y a => (g x y (by omega) (by omega)).1), km.keep lk.2.2.2.1 (fun x y a b => (g x y (by omega) (by omega)).1) (fun y => (g 60 y (by omega) (by omega)).2.2), r, ip.keep (fun x y a => g x y (by omega) (by omega)), ic.keep (fun x y a => g x y (by omega) (by omega)), ir.keep (fun x y a => g x y (by omega) (by omega)), it.keep (fun x y a => g x y (by omega) (by omega)), fun w hw => by rw [(g 3 w (by omega) (by omega)).1]; exact iw w hw, by rw [(g 1 9 (by omega) (by omega)).1, (g 168 50 (by omega) (by omega)).1]; exact pl, ia.keep (fun x y a => g x y (by omega) (by omega))⟩
end INV

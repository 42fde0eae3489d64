/-! TURNING: all joints at a step -/
def rot : Nat → Int × Int → Int × Int
  | 0, p => p
  | k + 1, p => rot k (-p.2, p.1)
def cC0 (m : Nat) : Nat := 65536 * (4096 - m * m) / (4096 + m * m)
def cD0 (m : Nat) : Nat := 8388608 * m / (4096 + m * m)
def crk (s : Nat) : Int × Int := rot (s / 64) ((cC0 (s % 64) : Int), (cD0 (s % 64) : Int))
theorem c0_b : ∀ m, m < 64 → m * m ≤ 4096 ∧ cC0 m ≤ 65536 ∧ cD0 m ≤ 65536 := by decide +kernel
def gX (D : DT) (j : Nat) : Int64 := 1024 * (jX D j).toInt64
def gY (D : DT) (j : Nat) : Int64 := 1024 * (jY D j).toInt64
def gP0 (D : DT) : PT := (gX D, gY D, fun j => if dk D (dm D 0 j) = 1 then 0 else 1)
def dvX (D : DT) (s a b : Nat) : Int64 := gX D b + Int64.ofInt (((crk s).1 * ((jX D a).toInt - (jX D b).toInt) - (crk s).2 * ((jY D a).toInt - (jY D b).toInt)) / 64)
def dvY (D : DT) (s a b : Nat) : Int64 := gY D b + Int64.ofInt (((crk s).2 * ((jX D a).toInt - (jX D b).toInt) + (crk s).1 * ((jY D a).toInt - (jY D b).toInt)) / 64)
def bsP (D : DT) (s a b : Nat) : PT := uP (gP0 D) a (dvX D s a b) (dvY D s a b)
noncomputable def arP (D : DT) (O : OT) (s a b : Nat) : Nat → PT
  | 0 => bsP D s a b
  | k + 1 => hgP D O (arP D O s a b k) (osq O k)
def bnd2 (p : Int × Int) : Prop := p.1.natAbs ≤ 65536 ∧ p.2.natAbs ≤ 65536
theorem rot_b : ∀ (k : Nat) (p : Int × Int), bnd2 p → bnd2 (rot k p)
  | 0, p, h => h
  | k + 1, p, h => rot_b k _ ⟨by show (-p.2).natAbs ≤ 65536; have := h.2; omega, h.1⟩
theorem crk_b {s : Nat} (hs : s < 256) : bnd2 (crk s) := by
  obtain ⟨-, a, b⟩ := c0_b (s % 64) (Nat.mod_lt _ (by decide))
  exact rot_b _ _ ⟨by show ((cC0 (s % 64) : Int)).natAbs ≤ 65536; omega, by show ((cD0 (s % 64) : Int)).natAbs ≤ 65536; omega⟩
section ARR
variable {σ : gS} {D : DT} {O : OT} {P : PT} {t j s a b : Nat}
theorem g_I (v : WFb D) (hj : j < dn D 0) : (gX D j).toInt = 1024 * (jX D j).toInt ∧ (gY D j).toInt = 1024 * (jY D j).toInt ∧ (gX D j).toInt.natAbs ≤ 1024000 ∧ (gY D j).toInt.natAbs ≤ 1024000 := by
  obtain ⟨⟨x1, x2⟩, ⟨y1, y2⟩⟩ := jXY v hj
  have c : (1024 : Int64).toInt = 1024 := rfl
  have e1 := mul64 (a := 1024) (b := (jX D j).toInt64) (by rw [l32, c]; omega) (by rw [l32, c]; omega)
  have e2 := mul64 (a := 1024) (b := (jY D j).toInt64) (by rw [l32, c]; omega) (by rw [l32, c]; omega)
  rw [l32, c] at e1 e2
  unfold gX gY
  rw [e1, e2]
  exact ⟨rfl, rfl, by omega, by omega⟩
theorem g_32 {x : Int32} (h : inP x) : (1024 * x).toInt64 = 1024 * x.toInt64 := by
  obtain ⟨x1, x2⟩ := h
  have c : (1024 : Int64).toInt = 1024 := rfl
  have c' : (1024 : Int32).toInt = 1024 := rfl
  rw [eq64, l32, mul32 (by rw [c']; omega) (by rw [c']; omega), mul64 (by rw [l32, c]; omega) (by rw [l32, c]; omega), l32, c, c']
/-- the crank's products -/
theorem crk_p (v : WFb D) (hs : s < 256) (ha : a < dn D 0) (hb : b < dn D 0) : ((crk s).1 * ((jX D a).toInt - (jX D b).toInt)).natAbs ≤ 131072000 ∧ ((crk s).2 * ((jY D a).toInt - (jY D b).toInt)).natAbs ≤ 131072000 ∧ ((crk s).2 * ((jX D a).toInt - (jX D b).toInt)).natAbs ≤ 131072000 ∧ ((crk s).1 * ((jY D a).toInt - (jY D b).toInt)).natAbs ≤ 131072000 := by
  obtain ⟨c1, c2⟩ := crk_b hs
  obtain ⟨⟨x1, x2⟩, ⟨y1, y2⟩⟩ := jXY v ha
  obtain ⟨⟨z1, z2⟩, ⟨u1, u2⟩⟩ := jXY v hb
  have k1 : ((jX D a).toInt - (jX D b).toInt).natAbs ≤ 2000 := by omega
  have k2 : ((jY D a).toInt - (jY D b).toInt).natAbs ≤ 2000 := by omega
  exact ⟨mulN c1 k1, mulN c2 k2, mulN c2 k1, mulN c1 k2⟩
theorem ofI_t {z : Int} (h1 : -4611686018427387904 < z) (h2 : z < 4611686018427387904) : (Int64.ofInt z).toInt = z := by
  rw [Int64.toInt_ofInt, show Int64.size = 18446744073709551616 from rfl]
  exact Int.bmod_eq_of_le (by omega) (by omega)
theorem bsP_b (v : WFb D) (hs : s < 256) (ha : a < dn D 0) (hb : b < dn D 0) : pBd D (bsP D s a b) 5120000 := by
  obtain ⟨c1, c2, c3, c4⟩ := crk_p v hs ha hb
  obtain ⟨-, -, b1, b2⟩ := g_I v hb
  intro x hx
  obtain ⟨-, -, x1, x2⟩ := g_I v hx
  show up (pW (gP0 D)) a 0 x ≤ 3 ∧ (up (pW (gP0 D)) a 0 x = 0 → (up (pX (gP0 D)) a (dvX D s a b) x).toInt.natAbs ≤ 5120000 ∧ (up (pY (gP0 D)) a (dvY D s a b) x).toInt.natAbs ≤ 5120000)
  by_cases z : x = a
  · subst z
    rw [up_s, up_s, up_s]
    refine ⟨by omega, fun _ => ⟨?_, ?_⟩⟩
    · unfold dvX
      have e := ofI_t (z := ((crk s).1 * ((jX D x).toInt - (jX D b).toInt) - (crk s).2 * ((jY D x).toInt - (jY D b).toInt)) / 64) (by omega) (by omega)
      rw [add64 (by rw [e]; omega) (by rw [e]; omega), e]
      omega
    · unfold dvY
      have e := ofI_t (z := ((crk s).2 * ((jX D x).toInt - (jX D b).toInt) + (crk s).1 * ((jY D x).toInt - (jY D b).toInt)) / 64) (by omega) (by omega)
      rw [add64 (by rw [e]; omega) (by rw [e]; omega), e]
      omega
  · rw [up_o z, up_o z, up_o z]
    refine ⟨?_, fun _ => ⟨?_, ?_⟩⟩
    · show (if dk D (dm D 0 x) = 1 then 0 else 1) ≤ 3
      split <;> omega
    · show (gX D x).toInt.natAbs ≤ _; omega
    · show (gY D x).toInt.natAbs ≤ _; omega
theorem arP_b (w : WFa D) (v : WFb D) (g : GOr D O) (hd : dd D = some (a, b)) (hs : s < 256) : ∀ k, k ≤ onn O → pBd D (arP D O s a b k) (5120000 + k * 2896310)
  | 0, _ => by
    obtain ⟨h1, h2, -⟩ := v.2.2.2.2 a b hd
    exact bsP_b v hs h1 h2
  | k + 1, h => by
    have ih := arP_b w v g hd hs k (by omega)
    have n2 := onn_le w v g (by rw [hd]; simp)
    have w4 := w.n4
    obtain ⟨q1, q2, q3⟩ := g.2.1 k (by omega)
    obtain ⟨-, r1, r2, r3⟩ := (g.2.2.2.1 (osq O k)).resolve_left (by omega)
    have := hgP_b v q1 r1 r2 r3 (by omega) ih
    rw [show 5120000 + (k + 1) * 2896310 = 5120000 + k * 2896310 + 2896310 by omega]
    exact this
/-- a joint that comes no more stays -/
theorem arP_o {x : Nat} : ∀ (k n : Nat), k ≤ n → (∀ i, k ≤ i → i < n → x ≠ osq O i) → pW (arP D O s a b n) x = pW (arP D O s a b k) x ∧ pX (arP D O s a b n) x = pX (arP D O s a b k) x ∧ pY (arP D O s a b n) x = pY (arP D O s a b k) x
  | k, 0, h, _ => by
    have : k = 0 := by omega
    subst this
    exact ⟨rfl, rfl, rfl⟩
  | k, n + 1, h, hx => by
    by_cases q : k = n + 1
    · subst q; exact ⟨rfl, rfl, rfl⟩
    · have ih := arP_o (x := x) k n (by omega) (fun i h1 h2 => hx i h1 (by omega))
      have o := hgP_o (D := D) (O := O) (P := arP D O s a b n) (hx n (by omega) (by omega))
      exact ⟨o.1.trans ih.1, o.2.1.trans ih.2.1, o.2.2.trans ih.2.2⟩
/-! the class -/
theorem PCg.keep {σ' : gS} {hx hy hw : Nat} (h : PCg σ D hx hy hw P) (k1 : ∀ x, x < dn D 0 → σ'.1 hw x = σ.1 hw x) (k2 : ∀ x, x < dn D 0 → σ'.2.1 hx x = σ.2.1 hx x) (k3 : ∀ x, x < dn D 0 → σ'.2.1 hy x = σ.2.1 hy x) : PCg σ' D hx hy hw P := fun x q => by
  rw [k1 x q, k2 x q, k3 x q]
  exact h x q
theorem plC (h4 : t = 4 ∨ t = 16) (w : WFa D) (v : WFb D) (k : CD σ t D) (hd : dd D = some (a, b)) (hs : s < 256) {pl : Nat} (hpl : pl = 132 ∨ pl = 140) (hp : PCg σ D (pl + 1) (pl + 2) (pl + 3) (gP0 D)) : Wp (fX9_placeDriven t (nI s) pl σ) (fun _ σ' => PCg σ' D (pl + 1) (pl + 2) (pl + 3) (bsP D s a b) ∧ ∀ x y, x ≠ pl + 1 → x ≠ pl + 2 → x ≠ pl + 3 → sm σ σ' x y) := by
  refine wp_fr ?_ (fun r σ' e x y q1 q2 q3 => wX9_placeDriven q1 q2 q3 e)
  have w4 := w.n4
  obtain ⟨ha, hb, hab, h5, h6⟩ := v.2.2.2.2 a b hd
  obtain ⟨e8, e9⟩ := k.2.2.2.2.2 a b hd
  have cla : (nI a).toNatClampNeg = a := nI_clamp (by omega)
  have clb : (nI b).toNatClampNeg = b := nI_clamp (by omega)
  have pb := hp b hb
  have wb : pW (gP0 D) b = 0 := if_pos h6
  have ml : s % 64 < 64 := Nat.mod_lt _ (by decide)
  obtain ⟨m1, m2, m3⟩ := c0_b (s % 64) ml
  obtain ⟨c1, c2, c3, c4⟩ := crk_p v hs ha hb
  have es : nI s / 64 = nI (s / 64) := pk_div (d := 64) (by omega) (by decide) (by decide)
  obtain ⟨p1, p2, p3⟩ := dif (jXY v ha).1 (jXY v hb).1
  obtain ⟨q1, q2, q3⟩ := dif (jXY v ha).2 (jXY v hb).2
  have key : ∀ (n i fu : Nat) (c d : Int32), i + n = s / 64 → n < fu → bnd2 (c.toInt, d.toInt) → rot n (c.toInt, d.toInt) = crk s → Wp (fX9_placeDriven_50 t (nI s) pl fu c d (nI i) σ) (fun _ σ' => PCg σ' D (pl + 1) (pl + 2) (pl + 3) (bsP D s a b)) := by
    intro n
    induction n with
    | zero =>
      intro i fu c d e hf hb2 hr
      obtain ⟨fu, rfl⟩ : ∃ y, fu = y + 1 := ⟨fu - 1, by omega⟩
      have ec : c.toInt = (crk s).1 := congrArg Prod.fst hr
      have ed : d.toInt = (crk s).2 := congrArg Prod.snd hr
      have u1 := mul32 (a := c) (b := jX D a - jX D b) (by rw [p1, ec]; omega) (by rw [p1, ec]; omega)
      have u2 := mul32 (a := d) (b := jY D a - jY D b) (by rw [q1, ed]; omega) (by rw [q1, ed]; omega)
      have u3 := mul32 (a := d) (b := jX D a - jX D b) (by rw [p1, ed]; omega) (by rw [p1, ed]; omega)
      have u4 := mul32 (a := c) (b := jY D a - jY D b) (by rw [q1, ec]; omega) (by rw [q1, ec]; omega)
      rw [p1, ec] at u1
      rw [q1, ed] at u2
      rw [p1, ed] at u3
      rw [q1, ec] at u4
      have t1 := sub32 (a := c * (jX D a - jX D b)) (b := d * (jY D a - jY D b)) (by rw [u1, u2]; omega) (by rw [u1, u2]; omega)
      have t2 := add32 (a := d * (jX D a - jX D b)) (b := c * (jY D a - jY D b)) (by rw [u3, u4]; omega) (by rw [u3, u4]; omega)
      rw [u1, u2] at t1
      rw [u3, u4] at t2
      obtain ⟨r1, f1, g1⟩ := floor32 (σ := σ) (a := c * (jX D a - jX D b) - d * (jY D a - jY D b)) (by rw [t1]; omega) (by rw [t1]; omega)
      obtain ⟨r2, f2, g2⟩ := floor32 (σ := σ) (a := d * (jX D a - jX D b) + c * (jY D a - jY D b)) (by rw [t2]; omega) (by rw [t2]; omega)
      rw [t1] at g1
      rw [t2] at g2
      rw [fX9_placeDriven_50, es, if_pos (nI_le (by omega) (by omega)), e8, e9, (xJ w k ha).1, bd_r, (xJ w k hb).1, bd_r, bnd_r, (xJ w k ha).2, bd_r, (xJ w k hb).2, bd_r, bnd_r, clb, gg_ix (by omega) (by decide), f1, bd_r, gg_ix (by omega) (by decide), f2, bd_r, (pb.2 wb).1, (pb.2 wb).2]
      have o1 : r1.toInt64 = Int64.ofInt (((crk s).1 * ((jX D a).toInt - (jX D b).toInt) - (crk s).2 * ((jY D a).toInt - (jY D b).toInt)) / 64) := ofI (by rw [l32, g1])
      have o2 : r2.toInt64 = Int64.ofInt (((crk s).2 * ((jX D a).toInt - (jX D b).toInt) + (crk s).1 * ((jY D a).toInt - (jY D b).toInt)) / 64) := ofI (by rw [l32, g2])
      rw [o1, o2, fX5_set, cla, gg_ix (by omega) (by decide), bnd_r, gg_ix (by omega) (by decide), bnd_r, gg_ix (by omega) (by decide), bnd_r, bd_r]
      refine wp_r (fun x hx' => ?_)
      show _ = nI (up (pW (gP0 D)) a 0 x) ∧ (up (pW (gP0 D)) a 0 x = 0 → _ = up (pX (gP0 D)) a (dvX D s a b) x ∧ _ = up (pY (gP0 D)) a (dvY D s a b) x)
      rw [gsI_2]
      by_cases z : x = a
      · subst z
        rw [rI_s, up_s, up_s, up_s, rJ_h (show pl + 1 ≠ pl + 2 by omega), rJ_s, rJ_s]
        exact ⟨rfl, fun _ => ⟨rfl, rfl⟩⟩
      · rw [rI_k z, gsJ_1, gsJ_1, up_o z, up_o z, up_o z, rJ_k z, rJ_k z, rJ_k z, rJ_k z]
        exact hp x hx'
    | succ n ih =>
      intro i fu c d e hf hb2 hr
      obtain ⟨fu, rfl⟩ : ∃ y, fu = y + 1 := ⟨fu - 1, by omega⟩
      have b2 : d.toInt.natAbs ≤ 65536 := hb2.2
      have b1 : c.toInt.natAbs ≤ 65536 := hb2.1
      have nd := neg32 (a := d) (by omega)
      rw [fX9_placeDriven_50, es, if_neg (nI_ge (by omega) (by omega)), bnd_r, bnd_r, nI_1]
      refine ih (i + 1) fu (-d) c (by omega) (by omega) ⟨by show (-d).toInt.natAbs ≤ 65536; rw [nd]; omega, b1⟩ ?_
      rw [nd]
      exact hr
  have em : nI s - nI s / 64 * 64 = nI (s % 64) := pk_rem (d := 64) (by omega) (by decide) (by decide)
  have e4 : 4096 + nI (s % 64) * nI (s % 64) = nI (4096 + s % 64 * (s % 64)) := by rw [pk_mul, show (4096 : Int32) = nI 4096 from rfl, nI_add]
  have e5 : 4096 - nI (s % 64) * nI (s % 64) = nI (4096 - s % 64 * (s % 64)) := by rw [pk_mul, show (4096 : Int32) = nI 4096 from rfl, pk_sub m1]
  have nz : ¬ nI (4096 + s % 64 * (s % 64)) = 0 := nI_ne (by omega) (by omega)
  have d1 : 65536 * nI (4096 - s % 64 * (s % 64)) / nI (4096 + s % 64 * (s % 64)) = nI (cC0 (s % 64)) := by rw [show (65536 : Int32) = nI 65536 from rfl, pk_mul, pk_div (by omega) (by omega) (by omega)]; rfl
  have d2 : 8388608 * nI (s % 64) / nI (4096 + s % 64 * (s % 64)) = nI (cD0 (s % 64)) := by rw [show (8388608 : Int32) = nI 8388608 from rfl, pk_mul, pk_div (by omega) (by omega) (by omega)]; rfl
  rw [fX9_placeDriven, em, bnd_r, e4, e5, gg_t nz, bnd_r, gg_t nz, bnd_r, d1, d2]
  have i1 := nI_toInt (n := cC0 (s % 64)) (by omega)
  have i2 := nI_toInt (n := cD0 (s % 64)) (by omega)
  refine key (s / 64) 0 2000 _ _ (by omega) (by omega) ?_ ?_
  · rw [i1, i2]; exact ⟨by show ((cC0 (s % 64) : Int)).natAbs ≤ 65536; omega, by show ((cD0 (s % 64) : Int)).natAbs ≤ 65536; omega⟩
  · rw [i1, i2]; rfl
def fr3 (p : Nat) (σ σ' : gS) : Prop := ∀ x y, x ≠ p + 1 → x ≠ p + 2 → x ≠ p + 3 → sm σ σ' x y
theorem fr3.tt {p : Nat} {σ' σ'' : gS} (h : fr3 p σ σ') (h' : fr3 p σ' σ'') : fr3 p σ σ'' := fun x y a b c => sm_t (h x y a b c) (h' x y a b c)
theorem fr3.cd {p : Nat} {σ' : gS} (h : fr3 p σ σ') (hp : p = 132 ∨ p = 140) (h4 : t = 4 ∨ t = 16) (k : CD σ t D) : CD σ' t D := k.keep (fun x y a b => (h x y (by omega) (by omega) (by omega)).1)
theorem fr3.kt {p : Nat} {σ' : gS} (h : fr3 p σ σ') (hp : p = 132 ∨ p = 140) (k : KTC σ D O) : KTC σ' D O := by
  have f : ∀ x y, x ≤ 131 → sm σ σ' x y := fun x y z => h x y (by omega) (by omega) (by omega)
  refine ⟨by rw [(f 124 1 (by omega)).1]; exact k.1, fun i hi => by rw [(f 125 i (by omega)).1]; exact k.2.1 i hi, fun j hj => ?_⟩
  rw [(f 127 j (by omega)).1, (f 128 j (by omega)).1, (f 129 j (by omega)).1, (f 130 j (by omega)).2.1, (f 131 j (by omega)).2.1]
  exact k.2.2 j hj
theorem arrC (h4 : t = 4 ∨ t = 16) (w : WFa D) (v : WFb D) (k : CD σ t D) (hK : KTC σ D O) (g : GOr D O) (hd : dd D = some (a, b)) (hs : s < 256) {pl : Nat} (hpl : pl = 132 ∨ pl = 140) {n : Nat} (hn : n ≤ onn O) : Wp (fX9_arrange t (nI s) (nI n) pl σ) (fun _ σ' => PCg σ' D (pl + 1) (pl + 2) (pl + 3) (arP D O s a b n) ∧ fr3 pl σ σ') := by
  refine wp_fr ?_ (fun r σ' e x y q1 q2 q3 => wX9_arrange q1 q2 q3 e)
  have w4 := w.n4
  have n2 := onn_le w v g (by rw [hd]; simp)
  have k77 : ∀ (m i fu : Nat) (τ : gS), i + m = n → m < fu → KTC τ D O → PCg τ D (pl + 1) (pl + 2) (pl + 3) (arP D O s a b i) → Wp (fX9_arrange_77 t (nI s) (nI n) pl fu (nI i) τ) (fun _ σ' => PCg σ' D (pl + 1) (pl + 2) (pl + 3) (arP D O s a b n)) := by
    intro m
    induction m with
    | zero =>
      intro i fu τ e hf hK hp
      obtain ⟨fu, rfl⟩ : ∃ y, fu = y + 1 := ⟨fu - 1, by omega⟩
      have : i = n := by omega
      subst this
      rw [fX9_arrange_77, if_pos (nI_le (by omega) (by omega))]
      exact wp_r hp
    | succ m ih =>
      intro i fu τ e hf hK hp
      obtain ⟨fu, rfl⟩ : ∃ y, fu = y + 1 := ⟨fu - 1, by omega⟩
      obtain ⟨q1, q2, q3⟩ := g.2.1 i (by omega)
      rw [fX9_arrange_77, if_neg (nI_ge (by omega) (by omega)), nI_clamp (show i < 2 ^ 31 by omega), gg_ix (by omega) (by decide), hK.2.1 i (by omega)]
      refine wp_bw (hangC w v hK g hpl q1 q3 (by omega) (arP_b w v g hd hs i (by omega)) hp) ?_
      rintro _ τ1 ⟨h1, h2⟩
      rw [bnd_r, nI_1]
      exact ih (i + 1) fu τ1 (by omega) (by omega) (fr3.kt h2 hpl hK) h1
  have k3 : ∀ (m i fu : Nat) (τ : gS), i + m = dn D 0 → m < fu → CD τ t D → KTC τ D O → (∀ x, x < i → τ.1 (pl + 3) x = nI (pW (gP0 D) x) ∧ (pW (gP0 D) x = 0 → τ.2.1 (pl + 1) x = gX D x ∧ τ.2.1 (pl + 2) x = gY D x)) → Wp (fX9_arrange_3 t (nI s) (nI n) pl fu (nI i) τ) (fun _ σ' => PCg σ' D (pl + 1) (pl + 2) (pl + 3) (arP D O s a b n)) := by
    intro m
    induction m with
    | zero =>
      intro i fu τ e hf k hK hx
      obtain ⟨fu, rfl⟩ : ∃ y, fu = y + 1 := ⟨fu - 1, by omega⟩
      have s0 : fX3_size t 0 τ = some (nI (dn D 0), τ) := sizeD (f := 0) k (by decide)
      rw [fX9_arrange_3, s0, bd_r, if_pos (nI_le (by omega) (by omega))]
      refine wp_bw (plC h4 w v k hd hs hpl (fun x q => hx x (by omega))) ?_
      rintro _ τ1 ⟨h1, h2⟩
      exact k77 n 0 2000 τ1 (by omega) (by omega) (fr3.kt h2 hpl hK) h1
    | succ m ih =>
      intro i fu τ e hf k hK hx
      obtain ⟨fu, rfl⟩ : ∃ y, fu = y + 1 := ⟨fu - 1, by omega⟩
      have hi : i < dn D 0 := by omega
      have s0 : fX3_size t 0 τ = some (nI (dn D 0), τ) := sizeD (f := 0) k (by decide)
      have cli : (nI i).toNatClampNeg = i := nI_clamp (by omega)
      have f1 : fr3 pl τ (gsI τ (pl + 3) i 1) := fun x y q1 q2 q3 => sm_I (sm_r τ x y) (by omega) rfl
      have k1 := f1.cd hpl h4 k
      rw [fX9_arrange_3, s0, bd_r, if_neg (nI_ge (by omega) (by omega)), cli, gg_ix (by omega) (by decide), bnd_r, groundD w k1 hi, bd_r]
      by_cases q : dk D (dm D 0 i) = 1
      · have w0 : pW (gP0 D) i = 0 := if_pos q
        rw [if_pos q, i10, (xJ w k1 hi).1, bd_r, (xJ w k1 hi).2, bd_r, g_32 (jXY v hi).1, g_32 (jXY v hi).2, fX5_set, cli, gg_ix (by omega) (by decide), bnd_r, gg_ix (by omega) (by decide), bnd_r, gg_ix (by omega) (by decide), bnd_r, bd_r, fX9_arrange_60, bnd_r, nI_1]
        have f2 : fr3 pl τ (gsI (gsJ (gsJ (gsI τ (pl + 3) i 1) (pl + 1) i (1024 * (jX D i).toInt64)) (pl + 2) i (1024 * (jY D i).toInt64)) (pl + 3) i 0) := fun x y q1 q2 q3 => sm_I (sm_J (sm_J (sm_I (sm_r τ x y) (by omega) rfl) (by omega) rfl) (by omega) rfl) (by omega) rfl
        refine ih (i + 1) fu _ (by omega) (by omega) (f2.cd hpl h4 k) (f2.kt hpl hK) (fun x hx' => ?_)
        rw [gsI_2]
        by_cases z : x = i
        · subst z
          rw [rI_s, w0, rJ_h (show pl + 1 ≠ pl + 2 by omega), rJ_s, rJ_s]
          exact ⟨rfl, fun _ => ⟨rfl, rfl⟩⟩
        · rw [rI_k z, gsJ_1, gsJ_1, rI_k z, rJ_k z, rJ_k z, rJ_k z, rJ_k z, gsI_2]
          exact hx x (by omega)
      · have w1 : pW (gP0 D) i = 1 := if_neg q
        rw [if_neg q, i00, fX9_arrange_60, bnd_r, nI_1]
        refine ih (i + 1) fu _ (by omega) (by omega) k1 (f1.kt hpl hK) (fun x hx' => ?_)
        rw [gsI_2]
        by_cases z : x = i
        · subst z
          rw [rI_s, w1]
          exact ⟨rfl, fun y => absurd y (by decide)⟩
        · rw [rI_k z]
          exact hx x (by omega)
  rw [fX9_arrange]
  exact k3 (dn D 0) 0 2000 σ (by omega) (by omega) k hK (fun x h => absurd h (Nat.not_lt_zero x))
/-! the reference -/
def fr21 (σ σ' : gS) : Prop := ∀ x y, x ≠ 216 → x ≠ 217 → x ≠ 218 → sm σ σ' x y
theorem fr21.tt {σ' σ'' : gS} (h : fr21 σ σ') (h' : fr21 σ' σ'') : fr21 σ σ'' := fun x y a b c => sm_t (h x y a b c) (h' x y a b c)
theorem fr21.rd {σ' : gS} (h : fr21 σ σ') (k : RD0 σ D) : RD0 σ' D := k.keep (fun x y a => (h x y (by unfold pR0 at a; omega) (by unfold pR0 at a; omega) (by unfold pR0 at a; omega)).1)
theorem fr21.kt {σ' : gS} (h : fr21 σ σ') (k : KTR σ D O) : KTR σ' D O := by
  have f : ∀ x y, x ≤ 215 → sm σ σ' x y := fun x y z => h x y (by omega) (by omega) (by omega)
  refine ⟨by rw [(f 168 69 (by omega)).1]; exact k.1, fun i hi => by rw [(f 210 i (by omega)).1]; exact k.2.1 i hi, fun j hj => ?_⟩
  rw [(f 211 j (by omega)).1, (f 212 j (by omega)).1, (f 213 j (by omega)).1, (f 215 j (by omega)).1]
  exact k.2.2 j hj
theorem turnM (w : WFa D) (v : WFb D) (k : RD0 σ D) (hK : KTR σ D O) (g : GOr D O) (hd : dd D = some (a, b)) (hs : s < 256) : Wp (fX11_turn (nI s) σ) (fun _ σ' => PCg σ' D 216 217 218 (arP D O s a b (onn O)) ∧ fr21 σ σ') := by
  refine wp_fr ?_ (fun r σ' e x y q1 q2 q3 => wX11_turn q1 q2 q3 e)
  have w4 := w.n4
  have n2 := onn_le w v g (by rw [hd]; simp)
  obtain ⟨ha, hb, hab, h5, h6⟩ := v.2.2.2.2 a b hd
  have cla : (nI a).toNatClampNeg = a := nI_clamp (by omega)
  have clb : (nI b).toNatClampNeg = b := nI_clamp (by omega)
  have wb : pW (gP0 D) b = 0 := if_pos h6
  have ml : s % 64 < 64 := Nat.mod_lt _ (by decide)
  obtain ⟨m1, m2, m3⟩ := c0_b (s % 64) ml
  obtain ⟨c1, c2, c3, c4⟩ := crk_p v hs ha hb
  have es : nI s / 64 = nI (s / 64) := pk_div (d := 64) (by omega) (by decide) (by decide)
  obtain ⟨p1, p2, p3⟩ := dif (jXY v ha).1 (jXY v hb).1
  obtain ⟨q1, q2, q3⟩ := dif (jXY v ha).2 (jXY v hb).2
  have k284 : ∀ (m i fu : Nat) (τ : gS), i + m = onn O → m < fu → RD0 τ D → KTR τ D O → PCg τ D 216 217 218 (arP D O s a b i) → Wp (fX11_turn_284 (nI s) fu (nI i) τ) (fun _ σ' => PCg σ' D 216 217 218 (arP D O s a b (onn O))) := by
    intro m
    induction m with
    | zero =>
      intro i fu τ e hf k hK hp
      obtain ⟨fu, rfl⟩ : ∃ y, fu = y + 1 := ⟨fu - 1, by omega⟩
      have : i = onn O := by omega
      subst this
      rw [fX11_turn_284, hK.1, if_pos (nI_le (by omega) (by omega))]
      exact wp_r hp
    | succ m ih =>
      intro i fu τ e hf k hK hp
      obtain ⟨fu, rfl⟩ : ∃ y, fu = y + 1 := ⟨fu - 1, by omega⟩
      obtain ⟨q1, q2, q3⟩ := g.2.1 i (by omega)
      rw [fX11_turn_284, hK.1, if_neg (nI_ge (by omega) (by omega)), nI_clamp (show i < 2 ^ 31 by omega), gg_ix (by omega) (by decide), hK.2.1 i (by omega)]
      refine wp_bw (hangR w v k hK g q1 q3 (by omega) (arP_b w v g hd hs i (by omega)) hp) ?_
      rintro _ τ1 ⟨h1, h2⟩
      rw [bnd_r, nI_1]
      exact ih (i + 1) fu τ1 (by omega) (by omega) (fr21.rd h2 k) (fr21.kt h2 hK) h1
  have k80 : ∀ (c d : Int64), c.toInt = (crk s).1 → d.toInt = (crk s).2 → ∀ (m i fu : Nat) (τ : gS), i + m = dn D 0 → m < fu → RD0 τ D → KTR τ D O → (∀ x, x < i → τ.1 218 x = nI (pW (gP0 D) x) ∧ τ.2.1 216 x = gX D x ∧ τ.2.1 217 x = gY D x) → Wp (fX11_turn_80 (nI s) fu c d (nI i) τ) (fun _ σ' => PCg σ' D 216 217 218 (arP D O s a b (onn O))) := by
    intro c d ec ed m
    induction m with
    | zero =>
      intro i fu τ e hf k hK hx
      obtain ⟨fu, rfl⟩ : ∃ y, fu = y + 1 := ⟨fu - 1, by omega⟩
      have e0 : τ.1 168 0 = nI (dn D 0) := k.1 0 (by decide)
      obtain ⟨e8, e9⟩ := k.2.2.2.2.2.2.2 a b hd
      have x0 : ∀ x, x < dn D 0 → τ.1 170 x = jX D x ∧ τ.1 171 x = jY D x := fun x hx => k.2.2.2.1 0 x (by decide) hx
      have u1 := mul64 (a := c) (b := (jX D a - jX D b).toInt64) (by rw [l32, p1, ec]; omega) (by rw [l32, p1, ec]; omega)
      have u2 := mul64 (a := d) (b := (jY D a - jY D b).toInt64) (by rw [l32, q1, ed]; omega) (by rw [l32, q1, ed]; omega)
      have u3 := mul64 (a := d) (b := (jX D a - jX D b).toInt64) (by rw [l32, p1, ed]; omega) (by rw [l32, p1, ed]; omega)
      have u4 := mul64 (a := c) (b := (jY D a - jY D b).toInt64) (by rw [l32, q1, ec]; omega) (by rw [l32, q1, ec]; omega)
      rw [l32, p1, ec] at u1
      rw [l32, q1, ed] at u2
      rw [l32, p1, ed] at u3
      rw [l32, q1, ec] at u4
      have t1 := sub64 (a := c * (jX D a - jX D b).toInt64) (b := d * (jY D a - jY D b).toInt64) (by rw [u1, u2]; omega) (by rw [u1, u2]; omega)
      have t2 := add64 (a := d * (jX D a - jX D b).toInt64) (b := c * (jY D a - jY D b).toInt64) (by rw [u3, u4]; omega) (by rw [u3, u4]; omega)
      rw [u1, u2] at t1
      rw [u3, u4] at t2
      have d1 : fdv (c * (jX D a - jX D b).toInt64 - d * (jY D a - jY D b).toInt64) 64 = Int64.ofInt (((crk s).1 * ((jX D a).toInt - (jX D b).toInt) - (crk s).2 * ((jY D a).toInt - (jY D b).toInt)) / 64) := by unfold fdv; rw [t1]; rfl
      have d2 : fdv (d * (jX D a - jX D b).toInt64 + c * (jY D a - jY D b).toInt64) 64 = Int64.ofInt (((crk s).2 * ((jX D a).toInt - (jX D b).toInt) + (crk s).1 * ((jY D a).toInt - (jY D b).toInt)) / 64) := by unfold fdv; rw [t2]; rfl
      rw [fX11_turn_80, e0, if_pos (nI_le (by omega) (by omega)), e8, e9, cla, clb, gg_ix (by omega) (by decide), gg_ix (by omega) (by decide), (x0 a ha).1, (x0 b hb).1, bnd_r, gg_ix (by omega) (by decide), gg_ix (by omega) (by decide), (x0 a ha).2, (x0 b hb).2, bnd_r, gg_ix (by omega) (by decide), bnd_r]
      have f1 : fr21 τ (gsI τ 218 a 0) := fun x y q1 q2 q3 => sm_I (sm_r τ x y) (by omega) rfl
      obtain ⟨e8', e9'⟩ := (f1.rd k).2.2.2.2.2.2.2 a b hd
      rw [e8', e9', cla, clb, gg_ix (by omega) (by decide), downR (by decide) (by rw [t1]; omega) (by rw [t1]; omega), bd_r, gg_ix (by omega) (by decide), bnd_r, d1, gsI_2, (hx b (by omega)).2.1]
      have f2 : fr21 τ (gsJ (gsI τ 218 a 0) 216 a (gX D b + Int64.ofInt (((crk s).1 * ((jX D a).toInt - (jX D b).toInt) - (crk s).2 * ((jY D a).toInt - (jY D b).toInt)) / 64))) := fun x y q1 q2 q3 => sm_J (sm_I (sm_r τ x y) (by omega) rfl) (by omega) rfl
      obtain ⟨e8'', e9''⟩ := (f2.rd k).2.2.2.2.2.2.2 a b hd
      rw [e8'', e9'', cla, clb, gg_ix (by omega) (by decide), downR (by decide) (by rw [t2]; omega) (by rw [t2]; omega), bd_r, gg_ix (by omega) (by decide), bnd_r, d2, rJ_h (show (217 : Nat) ≠ 216 by decide), gsI_2, (hx b (by omega)).2.2]
      have f3 : fr21 τ (gsJ (gsJ (gsI τ 218 a 0) 216 a (gX D b + Int64.ofInt (((crk s).1 * ((jX D a).toInt - (jX D b).toInt) - (crk s).2 * ((jY D a).toInt - (jY D b).toInt)) / 64))) 217 a (gY D b + Int64.ofInt (((crk s).2 * ((jX D a).toInt - (jX D b).toInt) + (crk s).1 * ((jY D a).toInt - (jY D b).toInt)) / 64))) := fun x y q1 q2 q3 => sm_J (sm_J (sm_I (sm_r τ x y) (by omega) rfl) (by omega) rfl) (by omega) rfl
      refine k284 (onn O) 0 2000 _ (by omega) (by omega) (f3.rd k) (f3.kt hK) (fun x hx' => ?_)
      show _ = nI (up (pW (gP0 D)) a 0 x) ∧ (up (pW (gP0 D)) a 0 x = 0 → _ = up (pX (gP0 D)) a (dvX D s a b) x ∧ _ = up (pY (gP0 D)) a (dvY D s a b) x)
      by_cases z : x = a
      · subst z
        rw [gsJ_1, gsJ_1, rI_s, up_s, up_s, up_s, rJ_h (show (216 : Nat) ≠ 217 by omega), rJ_s, rJ_s]
        exact ⟨rfl, fun _ => ⟨rfl, rfl⟩⟩
      · rw [gsJ_1, gsJ_1, rI_k z, up_o z, up_o z, up_o z, rJ_k z, rJ_k z, rJ_k z, rJ_k z, gsI_2]
        exact ⟨(hx x (by omega)).1, fun _ => (hx x (by omega)).2⟩
    | succ m ih =>
      intro i fu τ e hf k hK hx
      obtain ⟨fu, rfl⟩ : ∃ y, fu = y + 1 := ⟨fu - 1, by omega⟩
      have hi : i < dn D 0 := by omega
      have e0 : τ.1 168 0 = nI (dn D 0) := k.1 0 (by decide)
      have eg : τ.1 172 i = (if dk D (dm D 0 i) = 1 then 1 else 0) := k.2.2.2.2.1 i hi
      have cli : (nI i).toNatClampNeg = i := nI_clamp (by omega)
      have ex : τ.1 170 i = jX D i := (k.2.2.2.1 0 i (by decide) hi).1
      have ey : τ.1 171 i = jY D i := (k.2.2.2.1 0 i (by decide) hi).2
      have go : ∀ r : Nat, r = pW (gP0 D) i → Wp (fX11_turn_110 (nI s) (fun v4 v6 v8 σ => fX11_turn_80 (nI s) fu v4 v6 v8 σ) c d (nI i) (nI i) (nI r) τ) (fun _ σ' => PCg σ' D 216 217 218 (arP D O s a b (onn O))) := by
        intro r hr
        rw [fX11_turn_110, cli, gg_ix (by omega) (by decide), bnd_r, gg_ix (by omega) (by decide), gg_ix (by omega) (by decide), bnd_r, gg_ix (by omega) (by decide), gg_ix (by omega) (by decide), bnd_r, bnd_r, nI_1, rI_h (show (170 : Nat) ≠ 218 by decide), gsJ_1, rI_h (show (171 : Nat) ≠ 218 by decide), ex, ey]
        have f2 : fr21 τ (gsJ (gsJ (gsI τ 218 i (nI r)) 216 i (1024 * (jX D i).toInt64)) 217 i (1024 * (jY D i).toInt64)) := fun x y q1 q2 q3 => sm_J (sm_J (sm_I (sm_r τ x y) (by omega) rfl) (by omega) rfl) (by omega) rfl
        refine ih (i + 1) fu _ (by omega) (by omega) (f2.rd k) (f2.kt hK) (fun x hx' => ?_)
        by_cases z : x = i
        · subst z
          rw [gsJ_1, gsJ_1, rI_s, hr, rJ_h (show (216 : Nat) ≠ 217 by omega), rJ_s, rJ_s]
          exact ⟨rfl, rfl, rfl⟩
        · rw [gsJ_1, gsJ_1, rI_k z, rJ_k z, rJ_k z, rJ_k z, rJ_k z, gsI_2]
          exact hx x (by omega)
      rw [fX11_turn_80, e0, if_neg (nI_ge (by omega) (by omega)), cli, gg_ix (by omega) (by decide), eg]
      by_cases q : dk D (dm D 0 i) = 1
      · rw [if_pos q, i10]
        exact go 0 (if_pos q).symm
      · rw [if_neg q, i00]
        exact go 1 (if_neg q).symm
  have k49 : ∀ (n i fu : Nat) (c d : Int64), i + n = s / 64 → n < fu → bnd2 (c.toInt, d.toInt) → rot n (c.toInt, d.toInt) = crk s → Wp (fX11_turn_49 (nI s) fu c d (nI i) σ) (fun _ σ' => PCg σ' D 216 217 218 (arP D O s a b (onn O))) := by
    intro n
    induction n with
    | zero =>
      intro i fu c d e hf hb2 hr
      obtain ⟨fu, rfl⟩ : ∃ y, fu = y + 1 := ⟨fu - 1, by omega⟩
      rw [fX11_turn_49, es, if_pos (nI_le (by omega) (by omega))]
      exact k80 c d (congrArg Prod.fst hr) (congrArg Prod.snd hr) (dn D 0) 0 2000 σ (by omega) (by omega) k hK (fun x h => absurd h (Nat.not_lt_zero x))
    | succ n ih =>
      intro i fu c d e hf hb2 hr
      obtain ⟨fu, rfl⟩ : ∃ y, fu = y + 1 := ⟨fu - 1, by omega⟩
      have b2 : d.toInt.natAbs ≤ 65536 := hb2.2
      have b1 : c.toInt.natAbs ≤ 65536 := hb2.1
      have nd := neg64 (a := d) (by omega)
      rw [fX11_turn_49, es, if_neg (nI_ge (by omega) (by omega)), bnd_r, bnd_r, nI_1]
      refine ih (i + 1) fu (-d) c (by omega) (by omega) ⟨by show (-d).toInt.natAbs ≤ 65536; rw [nd]; omega, b1⟩ ?_
      rw [nd]
      exact hr
  have em : nI s - nI s / 64 * 64 = nI (s % 64) := pk_rem (d := 64) (by omega) (by decide) (by decide)
  have e4 : 4096 + lN (s % 64) * lN (s % 64) = lN (4096 + s % 64 * (s % 64)) := by rw [lN_mul, show (4096 : Int64) = lN 4096 from rfl, lN_add]
  have e5 : 65536 * (4096 - lN (s % 64) * lN (s % 64)) = lN (65536 * (4096 - s % 64 * (s % 64))) := by rw [lN_mul, show (4096 : Int64) = lN 4096 from rfl, lN_sub m1, show (65536 : Int64) = lN 65536 from rfl, lN_mul]
  have e6 : 8388608 * lN (s % 64) = lN (8388608 * (s % 64)) := by rw [show (8388608 : Int64) = lN 8388608 from rfl, lN_mul]
  have t1 := pk_lT (n := 65536 * (4096 - s % 64 * (s % 64))) (by omega)
  have t2 := pk_lT (n := 8388608 * (s % 64)) (by omega)
  have t3 := pk_lT (n := 4096 + s % 64 * (s % 64)) (by omega)
  have d1 : (fdv (lN (65536 * (4096 - s % 64 * (s % 64)))) (lN (4096 + s % 64 * (s % 64)))).toInt = cC0 (s % 64) := by
    rw [(fdv_I (by rw [t3]; omega) (by rw [t1]; omega) (by rw [t1]; omega)).1, t1, t3]
    exact (Int.natCast_ediv _ _).symm
  have d2 : (fdv (lN (8388608 * (s % 64))) (lN (4096 + s % 64 * (s % 64)))).toInt = cD0 (s % 64) := by
    rw [(fdv_I (by rw [t3]; omega) (by rw [t2]; omega) (by rw [t2]; omega)).1, t2, t3]
    exact (Int.natCast_ediv _ _).symm
  rw [fX11_turn, em, nI_l (by omega), bnd_r, e4, e5, e6, downR (by rw [t3]; omega) (by rw [t1]; omega) (by rw [t1]; omega), bd_r, downR (by rw [t3]; omega) (by rw [t2]; omega) (by rw [t2]; omega), bd_r]
  refine k49 (s / 64) 0 2000 _ _ (by omega) (by omega) ?_ ?_
  · rw [d1, d2]; exact ⟨by show ((cC0 (s % 64) : Int)).natAbs ≤ 65536; omega, by show ((cD0 (s % 64) : Int)).natAbs ≤ 65536; omega⟩
  · rw [d1, d2]; rfl
end ARR

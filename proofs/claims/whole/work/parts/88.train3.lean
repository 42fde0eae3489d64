/-! WHEELS: the class -/
theorem wp_fr {α : Type} {m : Option (α × gS)} {Q : α → gS → Prop} {F : gS → Prop} (h : Wp m Q) (k : ∀ r σ', m = some (r, σ') → F σ') : Wp m (fun r σ' => Q r σ' ∧ F σ') := by
  obtain ⟨r, s, e, q⟩ := h
  exact ⟨r, s, e, q, k r s e⟩
theorem div1 (x : Int64) : x / lN 1 = x := Int64.div_one
theorem mul_m1 (x : Int64) : x * (-1) = -x := by
  rw [Int64.mul_neg, Int64.mul_one]
def TC (σ : gS) (S : WT) : Prop := ∀ w, w < 16 → σ.1 145 w = nI (S.1 w) ∧ (S.1 w = 1 → σ.2.1 146 w = S.2.1 w ∧ σ.2.1 147 w = S.2.2 w)
def frTs (σ σ' : gS) : Prop := ∀ x y, x < 144 ∨ 147 < x → sm σ σ' x y
def frTw (σ σ' : gS) : Prop := ∀ x y, x < 144 ∨ 148 < x → sm σ σ' x y
theorem frTw.t {σ σ' σ'' : gS} (h : frTw σ σ') (h' : frTw σ' σ'') : frTw σ σ'' := fun x y q => sm_t (h x y q) (h' x y q)
theorem frTs.w {σ σ' : gS} (h : frTs σ σ') : frTw σ σ' := fun x y q => h x y (by omega)
def frTv (σ σ' : gS) : Prop := ∀ x y, x ≠ 144 → sm σ σ' x y
theorem frTs.t {σ σ' σ'' : gS} (h : frTs σ σ') (h' : frTs σ' σ'') : frTs σ σ'' := fun x y q => sm_t (h x y q) (h' x y q)
theorem frTv.w {σ σ' : gS} (h : frTv σ σ') : frTs σ σ' := fun x y q => h x y (by omega)
section TRC
variable {σ : gS} {t : Nat} {D : DT} {S : WT} {c : Nat}
theorem frTw.cd {σ' : gS} (h : frTw σ σ') (h4 : t = 4 ∨ t = 16) (k : CD σ t D) : CD σ' t D := k.keep (fun x y a b => (h x y (by omega)).1)
theorem frTs.cd {σ' : gS} (h : frTs σ σ') (h4 : t = 4 ∨ t = 16) (k : CD σ t D) : CD σ' t D := k.keep (fun x y a b => (h x y (by omega)).1)
theorem carC (h4 : t = 4 ∨ t = 16) (w : WFa D) (v : WFb D) (k : CD σ t D) (hc : c < dn D 3) {f g : Nat} (hf : f < dn D 2) (hg : g < dn D 2) {u l : Int64} (hu : σ.2.1 146 f = u) (hl : σ.2.1 147 f = l) (ok : okE u l) :
    Wp (fX8_carry t (nI (cpK D c)) (nI f) (nI g) σ) (fun _ σ' => (σ'.2.1 144 4 = crU D c f g u l ∧ σ'.2.1 144 5 = crL D c f g u l) ∧ frTv σ σ') := by
  refine wp_fr ?_ (fun r σ' e x y q => wX8_carry (fun z => q z.1) (fun z => q z.1) e)
  have w4 := w.n4
  obtain ⟨a1, a2, a3, a4, a5, a6, a7⟩ := cpAB w v hc
  obtain ⟨b1, b2, b3, b4⟩ := cr_b (c := c) v hf hg ok
  rw [fX8_carry, nI_clamp (show f < 2 ^ 31 by omega), gg_ix (by omega) (by decide), bnd_r, gg_ix (by omega) (by decide), bnd_r, hu]
  have e5 : (gsJ σ 144 4 u).2.1 147 f = l := by rw [rJ_h (by decide)]; exact hl
  rw [e5]
  by_cases q6 : cpK D c = 6
  · rw [if_pos (by rw [q6]; rfl)]
    have eu : cnU D c f u = u := by unfold cnU cup; rw [if_pos q6, if_neg (by omega), Int64.mul_one, Int64.mul_one]
    have el : cnL D c g l = l := by unfold cnL cup; rw [if_pos q6, Int64.mul_one]
    refine wp_r ⟨?_, ?_⟩
    · rw [rJ_k (by decide), rJ_s]
      unfold crU; rw [eu, el, ok.2.2.2.2, div1]
    · rw [rJ_s]
      unfold crL; rw [eu, el, ok.2.2.2.2, div1]
  · have k4 : ∀ (x : Int64) (y : Int64), CD (gsJ (gsJ σ 144 4 x) 144 5 y) t D := fun x y => k.keep (fun _ _ _ _ => rfl)
    have k4' : ∀ (x y z : Int64), CD (gsJ (gsJ (gsJ σ 144 4 x) 144 5 y) 144 4 z) t D := fun x y z => k.keep (fun _ _ _ _ => rfl)
    rw [if_neg (nI_neq (x := 6) (k := 6) rfl (by omega) (by decide) q6), show (2 : Int32) = nI 2 from rfl, secondD w (k4 _ _) (by decide) hf, bd_r, bnd_r, secondD w (k4' _ _ _) (by decide) hg, bd_r, bnd_r]
    have s1 : (gsJ (gsJ σ 144 4 u) 144 5 l).2.1 144 4 = u := by rw [rJ_k (by decide), rJ_s]
    have s2 : ∀ z, (gsJ (gsJ (gsJ σ 144 4 u) 144 5 l) 144 4 z).2.1 144 5 = l := fun z => by rw [rJ_k (by decide), rJ_s]
    rw [s1, s2]
    have el : cnL D c g l = l * tth D g := by unfold cnL cup; rw [if_neg q6]
    have fin : ∀ τ : gS, τ.2.1 144 4 = cnU D c f u → τ.2.1 144 5 = cnL D c g l → Wp (fX8_carry_74 t (nI (cpK D c)) (nI f) (nI g) τ) (fun _ σ' => σ'.2.1 144 4 = crU D c f g u l ∧ σ'.2.1 144 5 = crL D c f g u l) := by
      intro τ t4 t5
      have gp : 0 < gNN (cnU D c f u) (cnL D c g l) := gNN_p b3
      have gl := gNN_l (n := cnU D c f u) b3 (by omega)
      have p62 : (2 : Nat) ^ 62 < 2 ^ 63 := by decide
      rw [fX8_carry_74, t4, absC (by omega), bd_r, t5, cdC (by omega) (by omega) (by omega) (by omega), bd_r]
      by_cases q1 : gNN (cnU D c f u) (cnL D c g l) = 1
      · rw [if_pos (by rw [q1]; decide), fX8_carry_119]
        unfold crU crL
        rw [q1, div1, div1]
        exact wp_r ⟨t4, t5⟩
      · have nz : ¬ lN (gNN (cnU D c f u) (cnL D c g l)) = 0 := lN_nz (by omega) (by omega)
        rw [if_neg (fun z => by
          have z := cmp_gt.mpr ((pk_lLT (a := 1) (b := gNN (cnU D c f u) (cnL D c g l)) (by decide) (by omega)).mpr (by omega))
          have z1 := lt32.mp z
          have z2 := le32.mp ‹lg_cmp _ 1 ≤ 0›
          rw [show lN 1 = 1 from rfl] at z1
          omega), gg_t nz, bnd_r, gg_t nz, bnd_r, fX8_carry_119]
        refine wp_r ⟨?_, ?_⟩
        · rw [rJ_k (by decide), rJ_s, t4]; rfl
        · rw [rJ_s, rJ_k (by decide), t5]; rfl
    by_cases q4 : cpK D c = 4
    · rw [if_pos (by rw [q4]; rfl), bnd_r]
      have eu : cnU D c f u = -(u * tth D f) := by unfold cnU cup; rw [if_neg q6, if_pos q4, mul_m1]
      refine fin _ ?_ ?_
      · rw [rJ_s, rJ_k (by decide), rJ_s, eu]; rfl
      · rw [rJ_k (by decide), rJ_s, el]; rfl
    · rw [if_neg (nI_neq (x := 4) (k := 4) rfl (by omega) (by decide) q4)]
      have eu : cnU D c f u = u * tth D f := by unfold cnU cup; rw [if_neg q6, if_neg q4, Int64.mul_one]
      refine fin _ ?_ ?_
      · rw [rJ_k (by decide), rJ_s, eu]; rfl
      · rw [rJ_s, el]; rfl
theorem ftrC (w : WFa D) (v : WFb D) (k : CD σ t D) (hT : TC σ S) (hG : GW D S) : fX8_firstToReach t σ = some (if fO D S < dn D 3 then nI (fO D S) else -1000000, σ) := by
  have w4 := w.n4
  have s3 : fX3_size t 3 σ = some (nI (dn D 3), σ) := sizeD (f := 3) k (by decide)
  have key : ∀ (m i fu : Nat), i + m = dn D 3 → m < fu → fX8_firstToReach_2 t fu (nI i) σ = some (if fP (opn D S) m i < dn D 3 then nI (fP (opn D S) m i) else -1000000, σ) := by
    intro m
    induction m with
    | zero =>
      intro i fu e hf
      obtain ⟨fu, rfl⟩ : ∃ y, fu = y + 1 := ⟨fu - 1, by omega⟩
      rw [fX8_firstToReach_2, s3, bd_r, if_pos (nI_le (by omega) (by omega)), fP, if_neg (by omega)]
    | succ m ih =>
      intro i fu e hf
      obtain ⟨fu, rfl⟩ : ∃ y, fu = y + 1 := ⟨fu - 1, by omega⟩
      have hi : i < dn D 3 := by omega
      obtain ⟨a1, a2, a3, a4, a5, a6, a7⟩ := cpAB w v hi
      have f1 : fX3_firstOf t 3 (nI i) σ = some (nI (cpA D i), σ) := by rw [← a4]; exact firstD (f := 3) w k (by decide) hi
      have f2 : fX3_secondOf t 3 (nI i) σ = some (nI (cpB D i), σ) := by rw [← a5]; exact secondD (f := 3) w k (by decide) hi
      have tA := (hT (cpA D i) (by omega)).1
      have tB := (hT (cpB D i) (by omega)).1
      have gA := (hG (cpA D i)).1
      have gB := (hG (cpB D i)).1
      rw [fX8_firstToReach_2, s3, bd_r, if_neg (nI_ge (by omega) (by omega)), f1, bd_r, nI_clamp (show cpA D i < 2 ^ 31 by omega), gg_ix (by omega) (by decide), tA, fP]
      have nx : ¬ opn D S i → (bnd (nI i + 1) fun x2 => fX8_firstToReach_2 t fu x2 σ) = some (if cif (opn D S i) i (fP (opn D S) m (i + 1)) < dn D 3 then nI (cif (opn D S i) i (fP (opn D S) m (i + 1))) else -1000000, σ) := by
        intro z
        rw [bnd_r, nI_1, cif_f z]
        exact ih (i + 1) fu (by omega) (by omega)
      have fd : opn D S i → some (nI i, σ) = some (if cif (opn D S i) i (fP (opn D S) m (i + 1)) < dn D 3 then nI (cif (opn D S i) i (fP (opn D S) m (i + 1))) else -1000000, σ) := by
        intro z
        rw [cif_t z, if_pos hi]
      by_cases qA : S.1 (cpA D i) = 0
      · rw [if_pos (by rw [qA]; rfl), fX8_firstToReach_30, f2, bd_r, nI_clamp (show cpB D i < 2 ^ 31 by omega), gg_ix (by omega) (by decide), tB]
        by_cases qB : S.1 (cpB D i) = 0
        · rw [if_pos (by rw [qB]; rfl), fX8_firstToReach_50, if_pos rfl]
          exact nx (fun z => z ⟨fun _ => qB, fun _ => qA⟩)
        · rw [if_neg (nI_ne (by omega) (by omega)), fX8_firstToReach_50, if_neg (by decide)]
          exact fd (fun z => qB (z.mp qA))
      · rw [if_neg (nI_ne (by omega) (by omega)), fX8_firstToReach_30, f2, bd_r, nI_clamp (show cpB D i < 2 ^ 31 by omega), gg_ix (by omega) (by decide), tB]
        by_cases qB : S.1 (cpB D i) = 0
        · rw [if_pos (by rw [qB]; rfl), fX8_firstToReach_50, if_neg (by decide)]
          exact fd (fun z => qA (z.mpr qB))
        · rw [if_neg (nI_ne (by omega) (by omega)), fX8_firstToReach_50, if_pos rfl]
          exact nx (fun z => z ⟨fun y => absurd y qA, fun y => absurd y qB⟩)
  rw [fX8_firstToReach]
  exact key (dn D 3) 0 2000 (by omega) (by omega)
theorem rt34 (h4 : t = 4 ∨ t = 16) (w : WFa D) (v : WFb D) (k : CD σ t D) (hT : TC σ S) (hG : GW D S) (hc : c < dn D 3) (ho : opn D S c) : Wp (fX8_reachThrough_34 t (nI c) (nI (cF D S c)) (nI (cT D S c)) σ) (fun _ σ' => TC σ' (stW D S c) ∧ frTs σ σ') := by
  refine wp_fr ?_ (fun r σ' e x y q => wX8_reachThrough_34 (by omega) (by omega) (by omega) (by omega) (by omega) e)
  have w4 := w.n4
  obtain ⟨h1, h2, h3, h4', h5⟩ := cFT w v hc ho
  have tF := hT (cF D S c) (by omega)
  have gF := hG (cF D S c)
  have f3 : fX3_kindOf t 3 (nI c) σ = some (nI (cpK D c), σ) := kindD (f := 3) w k (by decide) hc
  rw [fX8_reachThrough_34, nI_clamp (show cF D S c < 2 ^ 31 by omega), gg_ix (by omega) (by decide), tF.1, nI_clamp (show cT D S c < 2 ^ 31 by omega)]
  by_cases q : S.1 (cF D S c) = 2
  · rw [if_pos (by rw [q]; rfl), gg_ix (by omega) (by decide), bnd_r]
    refine wp_r (fun x hx => ?_)
    unfold stW
    rw [if_pos q]
    show _ = nI (up S.1 (cT D S c) 2 x) ∧ (up S.1 (cT D S c) 2 x = 1 → σ.2.1 146 x = S.2.1 x ∧ σ.2.1 147 x = S.2.2 x)
    by_cases z : x = cT D S c
    · subst z
      rw [rI_s, up_s]
      exact ⟨rfl, fun y => absurd y (by decide)⟩
    · rw [rI_k z, up_o z]
      exact hT x hx
  · have e1 : S.1 (cF D S c) = 1 := by have := gF.1; omega
    have ok := gF.2.2 e1
    obtain ⟨k1, k2, k3⟩ := cr_ok (c := c) v h1 h2 ok
    rw [if_neg (nI_neq (x := 2) (k := 2) rfl (by omega) (by decide) q), f3, bd_r]
    refine wp_bw (carC h4 w v k hc h1 h2 (tF.2 e1).1 (tF.2 e1).2 ok) ?_
    rintro _ σ1 ⟨⟨c1, c2⟩, fv⟩
    have est : stW D S c = (up S.1 (cT D S c) (cif (grt (crU D c (cF D S c) (cT D S c) (S.2.1 (cF D S c)) (S.2.2 (cF D S c))) (crL D c (cF D S c) (cT D S c) (S.2.1 (cF D S c)) (S.2.2 (cF D S c)))) 2 1), up S.2.1 (cT D S c) (crU D c (cF D S c) (cT D S c) (S.2.1 (cF D S c)) (S.2.2 (cF D S c))), up S.2.2 (cT D S c) (crL D c (cF D S c) (cT D S c) (S.2.1 (cF D S c)) (S.2.2 (cF D S c)))) := by
      unfold stW
      rw [if_neg q]
    rw [est]
    generalize crU D c (cF D S c) (cT D S c) (S.2.1 (cF D S c)) (S.2.2 (cF D S c)) = cu at *
    generalize crL D c (cF D S c) (cT D S c) (S.2.1 (cF D S c)) (S.2.2 (cF D S c)) = cl at *
    rw [gg_ix (by omega) (by decide), bnd_r, c1, gg_ix (by omega) (by decide), bnd_r]
    have a5 : (gsJ σ1 146 (cT D S c) cu).2.1 144 5 = cl := by rw [rJ_h (by decide)]; exact c2
    rw [a5]
    have a4 : (gsJ (gsJ σ1 146 (cT D S c) cu) 147 (cT D S c) cl).2.1 144 4 = cu := by rw [rJ_h (by decide), rJ_h (by decide)]; exact c1
    have a6 : (gsJ (gsJ σ1 146 (cT D S c) cu) 147 (cT D S c) cl).2.1 144 5 = cl := by rw [rJ_h (by decide), rJ_h (by decide)]; exact c2
    rw [a4, absC k3, bd_r, a6]
    have fin : ∀ (r : Nat), cif (grt cu cl) 2 1 = r → Wp (fX8_reachThrough_125 t (nI c) (nI (cT D S c)) (nI r) (gsJ (gsJ σ1 146 (cT D S c) cu) 147 (cT D S c) cl)) (fun _ σ' => TC σ' (up S.1 (cT D S c) (cif (grt cu cl) 2 1), up S.2.1 (cT D S c) cu, up S.2.2 (cT D S c) cl)) := by
      intro r hr
      rw [fX8_reachThrough_125, nI_clamp (show cT D S c < 2 ^ 31 by omega), gg_ix (by omega) (by decide), bnd_r, hr]
      refine wp_r (fun x hx => ?_)
      show _ = nI (up S.1 (cT D S c) r x) ∧ (up S.1 (cT D S c) r x = 1 → _ = up S.2.1 (cT D S c) cu x ∧ _ = up S.2.2 (cT D S c) cl x)
      rw [gsI_2]
      by_cases z : x = cT D S c
      · subst z
        rw [rI_s, up_s, up_s, up_s]
        exact ⟨rfl, fun _ => ⟨by rw [rJ_h (by decide), rJ_s], rJ_s⟩⟩
      · rw [rI_k z, up_o z, up_o z, up_o z, rJ_h (by decide), rJ_k z, rJ_k z, rJ_h (by decide)]
        have f5 := fv 145 x (by decide)
        have f6 := fv 146 x (by decide)
        have f7 := fv 147 x (by decide)
        rw [gsJ_1, gsJ_1, f5.1, f6.2.1, f7.2.1]
        exact hT x hx
    have gt1 : ∀ {y : Nat}, y < 2 ^ 63 → (0 < lg_cmp (lN y) 1000000000000 ↔ 1000000000000 < y) := by
      intro y hy
      rw [cmp_gt]
      exact pk_lLT (a := 1000000000000) (by decide) hy
    have cb := Int64.toInt_lt cu
    by_cases z1 : 0 < lg_cmp (lN cu.toInt.natAbs) 1000000000000
    · have := (gt1 (by omega)).mp z1
      rw [if_pos z1, fX8_reachThrough_120]
      exact fin 2 (cif_t (by unfold grt; omega))
    · have := mt (gt1 (by omega)).mpr z1
      rw [if_neg z1]
      have cl2 : lg_cmp cl 1000000000000 ≤ 0 ↔ cl.toInt ≤ 1000000000000 := by
        constructor
        · intro y
          refine Classical.byContradiction fun yy => ?_
          have : 0 < lg_cmp cl 1000000000000 := cmp_gt.mpr (lt64.mpr (by show (1000000000000 : Int) < _; omega))
          have := lt32.mp this
          have := le32.mp y
          omega
        · intro y
          refine Classical.byContradiction fun yy => ?_
          have : 0 < lg_cmp cl 1000000000000 := lt32.mpr (by have := mt le32.mpr yy; omega)
          have := lt64.mp (cmp_gt.mp this)
          have e : (1000000000000 : Int64).toInt = 1000000000000 := rfl
          omega
      by_cases z2 : lg_cmp cl 1000000000000 ≤ 0
      · have := cl2.mp z2
        rw [if_pos z2]
        exact fin 1 (cif_f (by unfold grt; omega))
      · have := mt cl2.mpr z2
        rw [if_neg z2, fX8_reachThrough_120]
        exact fin 2 (cif_t (by unfold grt; omega))
theorem rtC (h4 : t = 4 ∨ t = 16) (w : WFa D) (v : WFb D) (k : CD σ t D) (hT : TC σ S) (hG : GW D S) (hc : c < dn D 3) (ho : opn D S c) : Wp (fX8_reachThrough t (nI c) σ) (fun _ σ' => TC σ' (stW D S c) ∧ frTs σ σ') := by
  have w4 := w.n4
  have k34 := rt34 h4 w v k hT hG hc ho
  obtain ⟨a1, a2, a3, a4, a5, a6, a7⟩ := cpAB w v hc
  have f1 : fX3_firstOf t 3 (nI c) σ = some (nI (cpA D c), σ) := by rw [← a4]; exact firstD (f := 3) w k (by decide) hc
  have f2 : fX3_secondOf t 3 (nI c) σ = some (nI (cpB D c), σ) := by rw [← a5]; exact secondD (f := 3) w k (by decide) hc
  have tA := (hT (cpA D c) (by omega)).1
  have gA := (hG (cpA D c)).1
  rw [fX8_reachThrough, f1, bd_r, f2, bd_r, nI_clamp (show cpA D c < 2 ^ 31 by omega), gg_ix (by omega) (by decide), tA]
  by_cases q : S.1 (cpA D c) = 0
  · rw [if_pos (by rw [q]; rfl)]
    have eF : cF D S c = cpB D c := if_pos q
    have eT : cT D S c = cpA D c := if_pos q
    rw [eF, eT] at k34
    exact k34
  · rw [if_neg (nI_ne (by omega) (by omega))]
    have eF : cF D S c = cpA D c := if_neg q
    have eT : cT D S c = cpB D c := if_neg q
    rw [eF, eT] at k34
    exact k34
theorem sprC (h4 : t = 4 ∨ t = 16) (w : WFa D) (v : WFb D) (k : CD σ t D) {a : Nat} (ha : a < dn D 2) : Wp (fX8_spread t (nI a) σ) (fun _ σ' => TC σ' (sprW D a) ∧ frTs σ σ') := by
  have w4 := w.n4
  have key : ∀ (m i fu : Nat) (τ : gS) (S : WT), i + m = 16 → m < fu → CD τ t D → TC τ S → GW D S → Wp (fX8_spread_31 t (nI a) fu (nI i) τ) (fun _ σ' => TC σ' (itW D m S) ∧ frTs τ σ') := by
    intro m
    induction m with
    | zero =>
      intro i fu τ S e hf k hT hG
      obtain ⟨fu, rfl⟩ : ∃ y, fu = y + 1 := ⟨fu - 1, by omega⟩
      rw [fX8_spread_31, if_pos (show 16 ≤ nI i from nI_le (a := 16) (by omega) (by omega)), fX8_spread_67]
      exact wp_r ⟨hT, fun x y _ => sm_r τ x y⟩
    | succ m ih =>
      intro i fu τ S e hf k hT hG
      obtain ⟨fu, rfl⟩ : ∃ y, fu = y + 1 := ⟨fu - 1, by omega⟩
      rw [fX8_spread_31, if_neg (show ¬ 16 ≤ nI i from nI_ge (b := 16) (by omega) (by decide)), ftrC w v k hT hG, bd_r, itW]
      by_cases q : fO D S < dn D 3
      · rw [if_pos q, if_neg (nI_nN (by omega)), cif_t q]
        refine wp_bw (rtC h4 w v k hT hG q (fO_y q)) ?_
        rintro _ τ1 ⟨t1, f1⟩
        rw [bnd_r, nI_1]
        refine wp_m (ih (i + 1) fu τ1 _ (by omega) (by omega) (f1.cd h4 k) t1 (stW_g w v q (fO_y q) hG).1) ?_
        rintro _ τ2 ⟨t2, f2⟩
        exact ⟨t2, f1.t f2⟩
      · rw [if_neg q, if_pos rfl, cif_f q, fX8_spread_67]
        exact wp_r ⟨hT, fun x y _ => sm_r τ x y⟩
  rw [fX8_spread]
  refine wp_bw (fillX (by decide)) ?_
  rintro _ σ1 ⟨f1, f2⟩
  have cl : (nI a).toNatClampNeg = a := nI_clamp (by omega)
  rw [cl, gg_ix (by omega) (by decide), bnd_r, gg_ix (by omega) (by decide), bnd_r, gg_ix (by omega) (by decide), bnd_r]
  have fr : frTs σ (gsJ (gsJ (gsI σ1 145 a 1) 146 a 1) 147 a 1) := fun x y q => sm_J (sm_J (sm_I (f2 x y (by omega)) (by omega) rfl) (by omega) rfl) (by omega) rfl
  refine wp_m (key 16 0 2000 _ (inW a) (by omega) (by omega) (fr.cd h4 k) ?_ (inW_g ha)) ?_
  · intro x hx
    show _ = nI (if x = a then 1 else 0) ∧ ((if x = a then 1 else 0) = 1 → _ = (1 : Int64) ∧ _ = (1 : Int64))
    by_cases z : x = a
    · subst z
      rw [if_pos rfl]
      exact ⟨by rw [gsJ_1, gsJ_1, rI_s]; rfl, fun _ => ⟨by rw [rJ_h (by decide), rJ_s], rJ_s⟩⟩
    · rw [if_neg z]
      exact ⟨by rw [gsJ_1, gsJ_1, rI_k z]; exact f1 x hx, fun y => absurd y (by decide)⟩
  · rintro _ σ2 ⟨t2, g2⟩
    exact ⟨t2, fr.t g2⟩
/-- a coupling that does not hold -/
def nHd (D : DT) (S : WT) (c : Nat) : Prop := S.1 (cpA D c) = 1 ∧ S.1 (cpB D c) = 1 ∧ ¬ (crU D c (cpA D c) (cpB D c) (S.2.1 (cpA D c)) (S.2.2 (cpA D c)) = S.2.1 (cpB D c) ∧ crL D c (cpA D c) (cpB D c) (S.2.1 (cpA D c)) (S.2.2 (cpA D c)) = S.2.2 (cpB D c))
theorem fnhC (h4 : t = 4 ∨ t = 16) (w : WFa D) (v : WFb D) (hG : GW D S) (k : CD σ t D) (hT : TC σ S) : Wp (fX8_firstNotHeld t σ) (fun r σ' => r = (if fP (nHd D S) (dn D 3) 0 < dn D 3 then nI (fP (nHd D S) (dn D 3) 0) else -1000000) ∧ TC σ' S ∧ frTv σ σ') := by
  have w4 := w.n4
  have key : ∀ (m i fu : Nat) (σ : gS), i + m = dn D 3 → m < fu → CD σ t D → TC σ S → Wp (fX8_firstNotHeld_2 t fu (nI i) σ) (fun r σ' => r = (if fP (nHd D S) m i < dn D 3 then nI (fP (nHd D S) m i) else -1000000) ∧ TC σ' S ∧ frTv σ σ') := by
    intro m
    induction m with
    | zero =>
      intro i fu σ e hf k hT
      obtain ⟨fu, rfl⟩ : ∃ y, fu = y + 1 := ⟨fu - 1, by omega⟩
      have s3 : fX3_size t 3 σ = some (nI (dn D 3), σ) := sizeD (f := 3) k (by decide)
      rw [fX8_firstNotHeld_2, s3, bd_r, if_pos (nI_le (by omega) (by omega)), fP, if_neg (by omega)]
      exact wp_r ⟨rfl, hT, fun x y _ => sm_r σ x y⟩
    | succ m ih =>
      intro i fu σ e hf k hT
      obtain ⟨fu, rfl⟩ : ∃ y, fu = y + 1 := ⟨fu - 1, by omega⟩
      have s3 : fX3_size t 3 σ = some (nI (dn D 3), σ) := sizeD (f := 3) k (by decide)
      have hi : i < dn D 3 := by omega
      obtain ⟨a1, a2, a3, a4, a5, a6, a7⟩ := cpAB w v hi
      have f1 : fX3_firstOf t 3 (nI i) σ = some (nI (cpA D i), σ) := by rw [← a4]; exact firstD (f := 3) w k (by decide) hi
      have f2 : fX3_secondOf t 3 (nI i) σ = some (nI (cpB D i), σ) := by rw [← a5]; exact secondD (f := 3) w k (by decide) hi
      have f3 : fX3_kindOf t 3 (nI i) σ = some (nI (cpK D i), σ) := kindD (f := 3) w k (by decide) hi
      have tA := hT (cpA D i) (by omega)
      have tB := hT (cpB D i) (by omega)
      have gA := hG (cpA D i)
      have gB := hG (cpB D i)
      have clA : (nI (cpA D i)).toNatClampNeg = cpA D i := nI_clamp (by omega)
      have clB : (nI (cpB D i)).toNatClampNeg = cpB D i := nI_clamp (by omega)
      have nx : ∀ τ : gS, CD τ t D → TC τ S → frTv σ τ → ¬ nHd D S i → Wp (fX8_firstNotHeld_96 t (fun v2 σ => fX8_firstNotHeld_2 t fu v2 σ) (nI i) τ) (fun r σ' => r = (if fP (nHd D S) (m + 1) i < dn D 3 then nI (fP (nHd D S) (m + 1) i) else -1000000) ∧ TC σ' S ∧ frTv σ σ') := by
        intro τ k1 t1 fv z
        rw [fX8_firstNotHeld_96, bnd_r, nI_1, fP, cif_f z]
        refine wp_m (ih (i + 1) fu τ (by omega) (by omega) k1 t1) ?_
        rintro r σ' ⟨r1, r2, r3⟩
        exact ⟨r1, r2, fun x y q => sm_t (fv x y q) (r3 x y q)⟩
      have fd : ∀ τ : gS, TC τ S → frTv σ τ → nHd D S i → Wp (fX8_firstNotHeld_94 t (nI i) τ) (fun r σ' => r = (if fP (nHd D S) (m + 1) i < dn D 3 then nI (fP (nHd D S) (m + 1) i) else -1000000) ∧ TC σ' S ∧ frTv σ σ') := by
        intro τ t1 fv z
        rw [fX8_firstNotHeld_94, fP, cif_t z, if_pos hi]
        exact wp_r ⟨rfl, t1, fv⟩
      rw [fX8_firstNotHeld_2, s3, bd_r, if_neg (nI_ge (by omega) (by omega)), f1, bd_r, f2, bd_r, clA, gg_ix (by omega) (by decide), tA.1]
      by_cases qA : S.1 (cpA D i) = 1
      · rw [if_pos (by rw [qA]; rfl), clB, gg_ix (by omega) (by decide), tB.1]
        by_cases qB : S.1 (cpB D i) = 1
        · rw [if_pos (by rw [qB]; rfl), f3, bd_r]
          refine wp_bw (carC h4 w v k hi a1 a2 (tA.2 qA).1 (tA.2 qA).2 (gA.2.2 qA)) ?_
          rintro _ τ ⟨⟨c1, c2⟩, fv⟩
          have t1 : TC τ S := fun x hx => by
            rw [(fv 145 x (by decide)).1, (fv 146 x (by decide)).2.1, (fv 147 x (by decide)).2.1]
            exact hT x hx
          have tB2 := (t1 (cpB D i) (by omega)).2 qB
          rw [gg_ix (by omega) (by decide), c1, tB2.1]
          by_cases z1 : crU D i (cpA D i) (cpB D i) (S.2.1 (cpA D i)) (S.2.2 (cpA D i)) = S.2.1 (cpB D i)
          · rw [if_pos (cmp_eq.mpr z1), gg_ix (by omega) (by decide), c2, tB2.2]
            by_cases z2 : crL D i (cpA D i) (cpB D i) (S.2.1 (cpA D i)) (S.2.2 (cpA D i)) = S.2.2 (cpB D i)
            · rw [if_pos (cmp_eq.mpr z2)]
              exact nx τ (fv.w.cd h4 k) t1 fv (fun z => z.2.2 ⟨z1, z2⟩)
            · rw [if_neg (mt cmp_eq.mp z2)]
              exact fd τ t1 fv ⟨qA, qB, fun z => z2 z.2⟩
          · rw [if_neg (mt cmp_eq.mp z1)]
            exact fd τ t1 fv ⟨qA, qB, fun z => z1 z.1⟩
        · rw [if_neg (nI_neq (x := 1) (k := 1) rfl (by omega) (by decide) qB)]
          exact nx σ k hT (fun x y _ => sm_r σ x y) (fun z => qB z.2.1)
      · rw [if_neg (nI_neq (x := 1) (k := 1) rfl (by omega) (by decide) qA)]
        exact nx σ k hT (fun x y _ => sm_r σ x y) (fun z => qA z.1)
  rw [fX8_firstNotHeld]
  exact key (dn D 3) 0 2000 σ (by omega) (by omega) k hT
end TRC

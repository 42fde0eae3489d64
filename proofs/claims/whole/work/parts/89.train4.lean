/-! WHEELS: the reference -/
def TR (σ : gS) (D : DT) (S : WT) : Prop := ∀ w, w < dn D 2 → σ.1 227 w = nI (S.1 w) ∧ (S.1 w = 1 → σ.2.1 225 w = S.2.1 w ∧ σ.2.1 226 w = S.2.2 w)
def frTu (σ σ' : gS) : Prop := ∀ x y, ¬ (x = 168 ∧ (y = 92 ∨ y = 93)) → ¬ (225 ≤ x ∧ x ≤ 227) → sm σ σ' x y
def frTq (σ σ' : gS) : Prop := ∀ x y, ¬ (x = 168 ∧ (y = 92 ∨ y = 93)) → sm σ σ' x y
theorem frTu.t {σ σ' σ'' : gS} (h : frTu σ σ') (h' : frTu σ' σ'') : frTu σ σ'' := fun x y q p => sm_t (h x y q p) (h' x y q p)
theorem frTq.w {σ σ' : gS} (h : frTq σ σ') : frTu σ σ' := fun x y q _ => h x y q
theorem frTu.r (σ : gS) : frTu σ σ := fun x y _ _ => sm_r σ x y
theorem frTu.rd {σ σ' : gS} {D : DT} (h : frTu σ σ') (k : RD0 σ D) : RD0 σ' D := k.keep (fun x y a => (h x y (by unfold pR0 at a; omega) (by unfold pR0 at a; omega)).1)
section TRR
variable {σ : gS} {D : DT} {S : WT} {c : Nat}
theorem rbR (w : WFa D) (v : WFb D) (k : RD0 σ D) (hc : c < dn D 3) {f g : Nat} (hf : f < dn D 2) (hg : g < dn D 2) {u l : Int64} (hu : σ.2.1 225 f = u) (hl : σ.2.1 226 f = l) (ok : okE u l) :
    Wp (fX11_ratioBy (nI c) (nI f) (nI g) σ) (fun _ σ' => (σ'.2.1 168 92 = crU D c f g u l ∧ σ'.2.1 168 93 = crL D c f g u l) ∧ frTq σ σ') := by
  refine wp_fr ?_ (fun r σ' e x y q => wX11_ratioBy (by omega) (by omega) e)
  have w4 := w.n4
  obtain ⟨a1, a2, a3, a4, a5, a6, a7⟩ := cpAB w v hc
  obtain ⟨b1, b2, b3, b4⟩ := cr_b (c := c) v hf hg ok
  have eK : σ.1 178 c = nI (cpK D c) := k.2.2.2.2.2.1 c hc
  have eT : ∀ x, x < dn D 2 → (σ.1 175 x).toInt64 = tth D x := fun x hx => by
    have : σ.1 175 x = dy D (dm D 2 x) := (k.2.2.2.1 2 x (by decide) hx).2
    rw [this]; rfl
  have clc : (nI c).toNatClampNeg = c := nI_clamp (by omega)
  have clf : (nI f).toNatClampNeg = f := nI_clamp (by omega)
  have clg : (nI g).toNatClampNeg = g := nI_clamp (by omega)
  have gp : 0 < gNN (cnU D c f u) (cnL D c g l) := gNN_p b3
  have gl := gNN_l (n := cnU D c f u) b3 (by omega)
  have p62 : (2 : Nat) ^ 62 < 2 ^ 63 := by decide
  have nz : ¬ lN (gNN (cnU D c f u) (cnL D c g l)) = 0 := lN_nz (by omega) (by omega)
  have fin : ∀ (y : Int32) (s0 s1 : Int64), s0 * s1 = cnU D c f u → l * y.toInt64 = cnL D c g l → Wp (fX11_ratioBy_73 (nI c) (nI f) (nI g) y s0 s1 σ) (fun _ σ' => σ'.2.1 168 92 = crU D c f g u l ∧ σ'.2.1 168 93 = crL D c f g u l) := by
    intro y s0 s1 h1 h2
    rw [fX11_ratioBy_73, bnd_r, clf, gg_ix (by omega) (by decide), bnd_r, hl, h1, h2, cdR (by omega) (by omega) (by omega) (by omega), bd_r, gg_t nz, bnd_r, gg_t nz, bnd_r]
    exact wp_r ⟨by rw [rJ_k (by decide), rJ_s]; rfl, by rw [rJ_s]; rfl⟩
  have f44 : ∀ (x y : Int32), x.toInt64 = cup D c f → y.toInt64 = cup D c g → Wp (fX11_ratioBy_44 (nI c) (nI f) (nI g) x y σ) (fun _ σ' => σ'.2.1 168 92 = crU D c f g u l ∧ σ'.2.1 168 93 = crL D c f g u l) := by
    intro x y hx hy
    rw [fX11_ratioBy_44, clf, clc, gg_ix (by omega) (by decide), gg_ix (by omega) (by decide), eK, hu]
    by_cases q4 : cpK D c = 4
    · rw [if_pos (by rw [q4]; rfl)]
      exact fin y _ _ (by unfold cnU; rw [if_pos q4, hx]) (by unfold cnL; rw [hy])
    · rw [if_neg (nI_neq (x := 4) (k := 4) rfl (by omega) (by decide) q4)]
      exact fin y _ _ (by unfold cnU; rw [if_neg q4, hx]) (by unfold cnL; rw [hy])
  rw [fX11_ratioBy, clc, gg_ix (by omega) (by decide), eK]
  by_cases q6 : cpK D c = 6
  · rw [if_pos (by rw [q6]; rfl), fX11_ratioBy_21, clc, gg_ix (by omega) (by decide), eK, if_pos (by rw [q6]; rfl)]
    exact f44 1 1 (by unfold cup; rw [if_pos q6]; rfl) (by unfold cup; rw [if_pos q6]; rfl)
  · have n6 : ¬ nI (cpK D c) = 6 := fun z => q6 ((nI_eq (b := 6) (by omega) (by decide)).mp z)
    rw [if_neg n6, clf, gg_ix (by omega) (by decide), fX11_ratioBy_21, clc, gg_ix (by omega) (by decide), eK, if_neg n6, clg, gg_ix (by omega) (by decide)]
    exact f44 _ _ (by unfold cup; rw [if_neg q6, eT f hf]) (by unfold cup; rw [if_neg q6, eT g hg])
/-- one coupling is reached through -/
theorem fr165 (w : WFa D) (v : WFb D) (k : RD0 σ D) (hT : TR σ D S) (hG : GW D S) (hc : c < dn D 3) (ho : opn D S c) {p1 v2 : Int32} {k48 : Int32 → gS → Option (Unit × gS)} {k56 : Int32 → Int32 → gS → Option (Unit × gS)} {Q : Unit → gS → Prop} (K : ∀ σ', TR σ' D (stW D S c) → frTu σ σ' → Wp (k56 v2 (nI (c + 1)) σ') Q) : Wp (fX11_findRatios_165 p1 k48 k56 v2 (nI c) (nI (cF D S c)) (nI (cT D S c)) σ) Q := by
  have w4 := w.n4
  obtain ⟨h1, h2, h3, h4', h5⟩ := cFT w v hc ho
  have tF := hT (cF D S c) h1
  have gF := hG (cF D S c)
  have clF : (nI (cF D S c)).toNatClampNeg = cF D S c := nI_clamp (by omega)
  have clT : (nI (cT D S c)).toNatClampNeg = cT D S c := nI_clamp (by omega)
  rw [fX11_findRatios_165, clF, gg_ix (by omega) (by decide), tF.1, clT]
  by_cases q : S.1 (cF D S c) = 2
  · rw [if_pos (by rw [q]; rfl), gg_ix (by omega) (by decide), bnd_r, fX11_findRatios_259, bnd_r, nI_1]
    refine K _ (fun x hx => ?_) (fun x y z1 z2 => sm_I (sm_r σ x y) (by omega) rfl)
    unfold stW
    rw [if_pos q]
    show _ = nI (up S.1 (cT D S c) 2 x) ∧ (up S.1 (cT D S c) 2 x = 1 → σ.2.1 225 x = S.2.1 x ∧ σ.2.1 226 x = S.2.2 x)
    by_cases z : x = cT D S c
    · subst z
      rw [rI_s, up_s]
      exact ⟨rfl, fun y => absurd y (by decide)⟩
    · rw [rI_k z, up_o z]
      exact hT x hx
  · have e1 : S.1 (cF D S c) = 1 := by have := gF.1; omega
    have ok := gF.2.2 e1
    obtain ⟨k1, k2, k3⟩ := cr_ok (c := c) v h1 h2 ok
    rw [if_neg (nI_neq (x := 2) (k := 2) rfl (by omega) (by decide) q)]
    refine wp_bw (rbR w v k hc h1 h2 (tF.2 e1).1 (tF.2 e1).2 ok) ?_
    rintro _ σ1 ⟨⟨c1, c2⟩, fv⟩
    have est : stW D S c = (up S.1 (cT D S c) (cif (grt (crU D c (cF D S c) (cT D S c) (S.2.1 (cF D S c)) (S.2.2 (cF D S c))) (crL D c (cF D S c) (cT D S c) (S.2.1 (cF D S c)) (S.2.2 (cF D S c)))) 2 1), up S.2.1 (cT D S c) (crU D c (cF D S c) (cT D S c) (S.2.1 (cF D S c)) (S.2.2 (cF D S c))), up S.2.2 (cT D S c) (crL D c (cF D S c) (cT D S c) (S.2.1 (cF D S c)) (S.2.2 (cF D S c)))) := by
      unfold stW
      rw [if_neg q]
    rw [est] at K
    generalize crU D c (cF D S c) (cT D S c) (S.2.1 (cF D S c)) (S.2.2 (cF D S c)) = cu at *
    generalize crL D c (cF D S c) (cT D S c) (S.2.1 (cF D S c)) (S.2.2 (cF D S c)) = cl at *
    rw [gg_ix (by omega) (by decide), bnd_r, c1, gg_ix (by omega) (by decide), bnd_r]
    have a5 : (gsJ σ1 225 (cT D S c) cu).2.1 168 93 = cl := by rw [rJ_h (by decide)]; exact c2
    rw [a5]
    have a4 : (gsJ (gsJ σ1 225 (cT D S c) cu) 226 (cT D S c) cl).2.1 168 92 = cu := by rw [rJ_h (by decide), rJ_h (by decide)]; exact c1
    have a6 : (gsJ (gsJ σ1 225 (cT D S c) cu) 226 (cT D S c) cl).2.1 168 93 = cl := by rw [rJ_h (by decide), rJ_h (by decide)]; exact c2
    have fin : ∀ (r : Nat), cif (grt cu cl) 2 1 = r → Wp (fX11_findRatios_258 p1 k48 k56 v2 (nI c) (nI (cT D S c)) (nI r) (gsJ (gsJ σ1 225 (cT D S c) cu) 226 (cT D S c) cl)) Q := by
      intro r hr
      rw [fX11_findRatios_258, clT, gg_ix (by omega) (by decide), bnd_r, fX11_findRatios_259, bnd_r, nI_1]
      refine K _ ?_ (fun x y z1 z2 => sm_I (sm_J (sm_J (fv x y z1) (by omega) rfl) (by omega) rfl) (by omega) rfl)
      rw [hr]
      intro x hx
      show _ = nI (up S.1 (cT D S c) r x) ∧ (up S.1 (cT D S c) r x = 1 → _ = up S.2.1 (cT D S c) cu x ∧ _ = up S.2.2 (cT D S c) cl x)
      rw [gsI_2]
      by_cases z : x = cT D S c
      · subst z
        rw [rI_s, up_s, up_s, up_s]
        exact ⟨rfl, fun _ => ⟨by rw [rJ_h (by decide), rJ_s], rJ_s⟩⟩
      · rw [rI_k z, up_o z, up_o z, up_o z, rJ_h (by decide), rJ_k z, rJ_k z, rJ_h (by decide)]
        have f5 := fv 227 x (by omega)
        have f6 := fv 225 x (by omega)
        have f7 := fv 226 x (by omega)
        rw [gsJ_1, gsJ_1, f5.1, f6.2.1, f7.2.1]
        exact hT x hx
    have e12 : (1000000000000 : Int64).toInt = 1000000000000 := rfl
    have m12 : (-1000000000000 : Int64).toInt = -1000000000000 := rfl
    rw [a4]
    by_cases z1 : -1000000000000 ≤ cu.toInt ∧ cu.toInt ≤ 1000000000000
    · rw [in_t (by rw [e12, m12]; exact z1), bd_r, i10, a6]
      by_cases z2 : 0 < lg_cmp cl 1000000000000
      · have := lt64.mp (cmp_gt.mp z2)
        rw [if_pos z2, fX11_findRatios_257]
        exact fin 2 (cif_t (by unfold grt; omega))
      · have : ¬ (1000000000000 : Int64).toInt < cl.toInt := fun y => z2 (cmp_gt.mpr (lt64.mpr y))
        rw [if_neg z2]
        exact fin 1 (cif_f (by unfold grt; omega))
    · rw [in_f (by rw [e12, m12]; exact z1), bd_r, i00, fX11_findRatios_257]
      exact fin 2 (cif_t (by unfold grt; omega))
theorem frR56 (w : WFa D) (v : WFb D) (k : RD0 σ D) (hT : TR σ D S) (hG : GW D S) {p1 : Int32} {k48 : Int32 → gS → Option (Unit × gS)} {Q : Unit → gS → Prop} (K0 : ¬ fO D S < dn D 3 → Wp (k48 0 σ) Q) (K1 : fO D S < dn D 3 → ∀ σ', TR σ' D (stW D S (fO D S)) → frTu σ σ' → Wp (k48 1 σ') Q) : Wp (fX11_findRatios_56 p1 k48 2000 0 0 σ) Q := by
  have w4 := w.n4
  have e12 : σ.1 168 12 = nI (dn D 3) := k.1 3 (by decide)
  have key : ∀ (m i fu : Nat), i + m = dn D 3 → m + 1 < fu → fO D S = fP (opn D S) m i → Wp (fX11_findRatios_56 p1 k48 fu 0 (nI i) σ) Q := by
    intro m
    induction m with
    | zero =>
      intro i fu e hf hO
      obtain ⟨fu, rfl⟩ : ∃ y, fu = y + 1 := ⟨fu - 1, by omega⟩
      rw [fP] at hO
      rw [fX11_findRatios_56, e12, if_pos (nI_le (by omega) (by omega)), fX11_findRatios_265]
      exact K0 (by omega)
    | succ m ih =>
      intro i fu e hf hO
      obtain ⟨fu, rfl⟩ : ∃ y, fu = y + 1 := ⟨fu - 1, by omega⟩
      have hi : i < dn D 3 := by omega
      obtain ⟨a1, a2, a3, a4, a5, a6, a7⟩ := cpAB w v hi
      have eA : σ.1 179 i = nI (cpA D i) := ((k.2.2.2.1 3 i (by decide) hi).1).trans a4
      have eB : σ.1 180 i = nI (cpB D i) := ((k.2.2.2.1 3 i (by decide) hi).2).trans a5
      have tA := (hT (cpA D i) a1).1
      have tB := (hT (cpB D i) a2).1
      have gA := (hG (cpA D i)).1
      have gB := (hG (cpB D i)).1
      have cli : (nI i).toNatClampNeg = i := nI_clamp (by omega)
      have clA : (nI (cpA D i)).toNatClampNeg = cpA D i := nI_clamp (by omega)
      have clB : (nI (cpB D i)).toNatClampNeg = cpB D i := nI_clamp (by omega)
      have nx : ¬ opn D S i → ∀ s0, Wp (fX11_findRatios_118 p1 k48 (fun v2 v3 σ => fX11_findRatios_56 p1 k48 fu v2 v3 σ) (nI i) s0 0 σ) Q := by
        intro z s0
        rw [fP, cif_f z] at hO
        rw [fX11_findRatios_118, if_pos rfl, fX11_findRatios_259, bnd_r, nI_1]
        exact ih (i + 1) fu (by omega) (by omega) hO
      have fin : opn D S i → Wp (fX11_findRatios_165 p1 k48 (fun v2 v3 σ => fX11_findRatios_56 p1 k48 fu v2 v3 σ) 1 (nI i) (nI (cF D S i)) (nI (cT D S i)) σ) Q := by
        intro z
        rw [fP, cif_t z] at hO
        refine fr165 w v k hT hG hi z (fun σ' h1 h2 => ?_)
        have e12' : σ'.1 168 12 = nI (dn D 3) := by rw [(h2 168 12 (by omega) (by omega)).1]; exact e12
        obtain ⟨fu, rfl⟩ : ∃ y, fu = y + 1 := ⟨fu - 1, by omega⟩
        have kk : Wp (k48 1 σ') Q := by
          rw [hO] at K1
          exact K1 hi σ' h1 h2
        show Wp (fX11_findRatios_56 p1 k48 (fu + 1) 1 (nI (i + 1)) σ') Q
        rw [fX11_findRatios_56, e12']
        by_cases y : nI (dn D 3) ≤ nI (i + 1)
        · rw [if_pos y, fX11_findRatios_265]; exact kk
        · rw [if_neg y, if_neg (by decide), fX11_findRatios_265]; exact kk
      rw [fX11_findRatios_56, e12, if_neg (nI_ge (by omega) (by omega)), if_pos rfl, cli, gg_ix (by omega) (by decide), eA, clA, gg_ix (by omega) (by decide), tA]
      by_cases qA : S.1 (cpA D i) = 0
      · rw [if_pos (by rw [qA]; decide), fX11_findRatios_87, cli, gg_ix (by omega) (by decide), eB, clB, gg_ix (by omega) (by decide), tB]
        by_cases qB : S.1 (cpB D i) = 0
        · rw [if_pos (by rw [qB]; decide), fX11_findRatios_110, if_pos rfl]
          exact nx (fun z => z ⟨fun _ => qB, fun _ => qA⟩) _
        · have fo := fin (fun z => qB (z.mp qA))
          have eF : cF D S i = cpB D i := if_pos qA
          have eT : cT D S i = cpA D i := if_pos qA
          rw [eF, eT] at fo
          rw [if_neg (nI_nle (by omega) (by omega)), fX11_findRatios_110, if_neg (by decide), fX11_findRatios_118, if_neg (by decide), if_pos rfl, cli, gg_ix (by omega) (by decide), fX11_findRatios_143, if_pos rfl, cli, gg_ix (by omega) (by decide), eA, eB]
          exact fo
      · rw [if_neg (nI_nle (by omega) (by omega)), fX11_findRatios_87, cli, gg_ix (by omega) (by decide), eB, clB, gg_ix (by omega) (by decide), tB]
        by_cases qB : S.1 (cpB D i) = 0
        · have fo := fin (fun z => qA (z.mpr qB))
          have eF : cF D S i = cpA D i := if_neg qA
          have eT : cT D S i = cpB D i := if_neg qA
          rw [eF, eT] at fo
          rw [if_pos (by rw [qB]; decide), fX11_findRatios_110, if_neg (by decide), fX11_findRatios_118, if_neg (by decide), if_neg (by decide), cli, gg_ix (by omega) (by decide), fX11_findRatios_143, if_neg (by decide), cli, gg_ix (by omega) (by decide), eA, eB]
          exact fo
        · rw [if_neg (nI_nle (by omega) (by omega)), fX11_findRatios_110, if_pos rfl]
          exact nx (fun z => z ⟨fun y => absurd y qA, fun y => absurd y qB⟩) _
  exact key (dn D 3) 0 2000 (by omega) (by omega) rfl
theorem frR48 (w : WFa D) (v : WFb D) {p1 : Int32} : ∀ (m fu : Nat) (σ : gS) (S : WT), 16 ≤ cW S + m → m + 1 < fu → RD0 σ D → TR σ D S → GW D S → Wp (fX11_findRatios_48 p1 fu 1 σ) (fun _ σ' => TR σ' D (itW D m S) ∧ frTu σ σ') := by
  intro m
  induction m with
  | zero =>
    intro fu σ S hm hf k hT hG
    obtain ⟨fu, rfl⟩ : ∃ y, fu = y + 1 := ⟨fu - 1, by omega⟩
    rw [fX11_findRatios_48, if_neg (by decide)]
    refine frR56 w v k hT hG (fun _ => ?_) (fun q σ' h1 h2 => ?_)
    · obtain ⟨fu, rfl⟩ : ∃ y, fu = y + 1 := ⟨fu - 1, by omega⟩
      rw [fX11_findRatios_48, if_pos rfl]
      exact wp_r ⟨hT, frTu.r σ⟩
    · have := cW_st w v q (fO_y q) hG
      have := cW_le (S := stW D S (fO D S))
      omega
  | succ m ih =>
    intro fu σ S hm hf k hT hG
    obtain ⟨fu, rfl⟩ : ∃ y, fu = y + 1 := ⟨fu - 1, by omega⟩
    rw [fX11_findRatios_48, if_neg (by decide)]
    refine frR56 w v k hT hG (fun q => ?_) (fun q σ' h1 h2 => ?_)
    · obtain ⟨fu, rfl⟩ : ∃ y, fu = y + 1 := ⟨fu - 1, by omega⟩
      rw [fX11_findRatios_48, if_pos rfl, itW, cif_f q]
      exact wp_r ⟨hT, frTu.r σ⟩
    · rw [itW, cif_t q]
      refine wp_m (ih fu σ' _ (by rw [cW_st w v q (fO_y q) hG]; omega) (by omega) (h2.rd k) h1 (stW_g w v q (fO_y q) hG).1) ?_
      rintro _ σ'' ⟨t2, f2⟩
      exact ⟨t2, h2.t f2⟩
theorem sprR (w : WFa D) (v : WFb D) (k : RD0 σ D) {a : Nat} (ha : a < dn D 2) : Wp (fX11_findRatios (nI a) σ) (fun _ σ' => TR σ' D (sprW D a) ∧ frTu σ σ') := by
  have w4 := w.n4
  have cla : (nI a).toNatClampNeg = a := nI_clamp (by omega)
  have key : ∀ (m i fu : Nat) (τ : gS), i + m = dn D 2 → m < fu → RD0 τ D → frTu σ τ → (∀ x, x < i → τ.1 227 x = nI (if x = a then 1 else 0)) → Wp (fX11_findRatios_2 (nI a) fu (nI i) τ) (fun _ σ' => TR σ' D (sprW D a) ∧ frTu σ σ') := by
    intro m
    induction m with
    | zero =>
      intro i fu τ e hf k fr hx
      obtain ⟨fu, rfl⟩ : ∃ y, fu = y + 1 := ⟨fu - 1, by omega⟩
      have e5 : τ.1 168 5 = nI (dn D 2) := k.1 2 (by decide)
      rw [fX11_findRatios_2, e5, if_pos (nI_le (by omega) (by omega)), cla, gg_ix (by omega) (by decide), bnd_r, gg_ix (by omega) (by decide), bnd_r]
      have f2 : frTu τ (gsJ (gsJ τ 225 a 1) 226 a 1) := fun x y z1 z2 => sm_J (sm_J (sm_r τ x y) (by omega) rfl) (by omega) rfl
      refine wp_m (frR48 w v 16 2000 _ (inW a) (by omega) (by omega) (f2.rd k) ?_ (inW_g ha)) ?_
      · intro x hxx
        show τ.1 227 x = nI (if x = a then 1 else 0) ∧ ((if x = a then 1 else 0) = 1 → _ = (1 : Int64) ∧ _ = (1 : Int64))
        refine ⟨hx x (by omega), fun z => ?_⟩
        have : x = a := Classical.byContradiction fun y => by rw [if_neg y] at z; exact absurd z (by decide)
        subst this
        exact ⟨by rw [rJ_h (by decide), rJ_s], rJ_s⟩
      · rintro _ σ2 ⟨t2, g2⟩
        exact ⟨t2, fr.t (f2.t g2)⟩
    | succ m ih =>
      intro i fu τ e hf k fr hx
      obtain ⟨fu, rfl⟩ : ∃ y, fu = y + 1 := ⟨fu - 1, by omega⟩
      have e5 : τ.1 168 5 = nI (dn D 2) := k.1 2 (by decide)
      have cli : (nI i).toNatClampNeg = i := nI_clamp (by omega)
      rw [fX11_findRatios_2, e5, if_neg (nI_ge (by omega) (by omega))]
      have go : ∀ r : Nat, (if i = a then 1 else 0) = r → Wp (fX11_findRatios_25 (nI a) (fun v2 σ => fX11_findRatios_2 (nI a) fu v2 σ) (nI i) (nI i) (nI r) τ) (fun _ σ' => TR σ' D (sprW D a) ∧ frTu σ σ') := by
        intro r hr
        rw [fX11_findRatios_25, cli, gg_ix (by omega) (by decide), bnd_r, bnd_r, nI_1]
        have f2 : frTu τ (gsI τ 227 i (nI r)) := fun x y z1 z2 => sm_I (sm_r τ x y) (by omega) rfl
        refine ih (i + 1) fu _ (by omega) (by omega) (f2.rd k) (fr.t f2) (fun x h1 => ?_)
        by_cases z : x = i
        · subst z
          rw [rI_s, hr]
        · rw [rI_k z]; exact hx x (by omega)
      by_cases q : i = a
      · rw [if_pos (by rw [q])]
        exact go 1 (if_pos q)
      · rw [if_neg (fun z => q ((nI_eq (by omega) (by omega)).mp z))]
        exact go 0 (if_neg q)
  rw [fX11_findRatios]
  exact key (dn D 2) 0 2000 σ (by omega) (by omega) k (frTu.r σ) (fun x h => absurd h (Nat.not_lt_zero x))
end TRR

/-! the class's matrix -/
def frM (σ σ' : gS) : Prop := (∀ x y, ¬ (59 ≤ x ∧ x ≤ 123) → σ'.1 x y = σ.1 x y ∧ σ'.2.1 x y = σ.2.1 x y) ∧ ∀ x y, x ≠ 60 → σ'.2.2 x y = σ.2.2 x y
theorem frM.t {σ τ υ : gS} (h : frM σ τ) (h' : frM τ υ) : frM σ υ := ⟨fun x y z => ⟨(h'.1 x y z).1.trans (h.1 x y z).1, (h'.1 x y z).2.trans (h.1 x y z).2⟩, fun x y z => (h'.2 x y z).trans (h.2 x y z)⟩
theorem frM.r (σ : gS) : frM σ σ := ⟨fun _ _ _ => ⟨rfl, rfl⟩, fun _ _ _ => rfl⟩
theorem frM.i {σ σ' : gS} (h : frM σ σ') {x y : Nat} {v : Int32} (hx : 59 ≤ x ∧ x ≤ 123) : frM σ (gsI σ' x y v) := ⟨fun a c z => by rw [rI_o (by omega)]; exact h.1 a c z, h.2⟩
/-- the rows' cells: each its own -/
def RF (σ : gS) : Prop := (∀ r, r < 60 → 61 ≤ σ.2.2 60 r ∧ σ.2.2 60 r < 121) ∧ ∀ r r', r < 60 → r' < 60 → σ.2.2 60 r = σ.2.2 60 r' → r = r'
def eL (x : Nat) : Int32 := if x = 60 then -1000000 else nI x
def eG (D : DT) (j : Nat) : Int32 := if dk D (dm D 0 j) = 1 then -1000000 else nI (ncl D j)
theorem ncl_le (D : DT) : ∀ j, ncl D j ≤ 2 * j
  | 0 => Nat.le_refl _
  | j + 1 => by
    have := ncl_le D j
    show ncl D j + (if dk D (dm D 0 j) = 1 then 0 else 2) ≤ _
    split <;> omega
theorem ncl_mono (D : DT) {x y : Nat} (h : x ≤ y) : ncl D x ≤ ncl D y := by
  induction y with
  | zero => have : x = 0 := by omega
            subst this; exact Nat.le_refl _
  | succ y ih =>
    by_cases q : x = y + 1
    · subst q; exact Nat.le_refl _
    · have := ih (by omega)
      show ncl D x ≤ ncl D y + (if dk D (dm D 0 y) = 1 then 0 else 2)
      omega
theorem ncl_in {D : DT} {j : Nat} (hj : j < dn D 0) (hg : ¬ dk D (dm D 0 j) = 1) : ncl D j + 2 ≤ ncl D (dn D 0) := by
  have := ncl_mono D (show j + 1 ≤ dn D 0 by omega)
  have e : ncl D (j + 1) = ncl D j + (if dk D (dm D 0 j) = 1 then 0 else 2) := rfl
  rw [if_neg hg] at e
  omega
section MAT
variable {σ σ' : gS} {t : Nat} {D : DT}
theorem layC (h4 : t = 4 ∨ t = 16) (w : WFa D) : ∀ (k j fu : Nat) (σ : gS), j + k = dn D 0 → k < fu → CD σ t D → σ.1 59 2 = nI (ncl D j) → (∀ i, i < j → σ.1 121 i = eG D i) →
    Wp (fX4_layColumns_7 t fu (nI j) σ) (fun _ σ' => σ'.1 59 2 = nI (ncl D (dn D 0)) ∧ (∀ i, i < dn D 0 → σ'.1 121 i = eG D i) ∧ ∀ x y, x ≠ 121 → ¬ (x = 59 ∧ y = 2) → sm σ σ' x y) := by
  have w4 := w.n4
  intro k
  induction k with
  | zero =>
    intro j fu σ e hfu hc h2 h121
    obtain ⟨fu, rfl⟩ : ∃ y, fu = y + 1 := ⟨fu - 1, by omega⟩
    have es : fX3_size t 0 σ = some (nI (dn D 0), σ) := sizeD (f := 0) hc (by decide)
    have ej : j = dn D 0 := by omega
    rw [fX4_layColumns_7, es, bd_r, if_pos (nI_le (by omega) (by omega))]
    rw [ej] at h2 h121
    exact wp_r ⟨h2, h121, fun x y _ _ => sm_r σ x y⟩
  | succ k ih =>
    intro j fu σ e hfu hc h2 h121
    obtain ⟨fu, rfl⟩ : ∃ y, fu = y + 1 := ⟨fu - 1, by omega⟩
    have es : fX3_size t 0 σ = some (nI (dn D 0), σ) := sizeD (f := 0) hc (by decide)
    have hc1 : CD (gsI σ 121 j (-1000000)) t D := hc.keep (fun x y h1 h2 => rI_o (by omega))
    have nj : ncl D (j + 1) = ncl D j + (if dk D (dm D 0 j) = 1 then 0 else 2) := rfl
    rw [fX4_layColumns_7, es, bd_r, if_neg (nI_ge (by omega) (by omega)), nI_clamp (show j < 2 ^ 31 by omega), gg_ix (by omega) (by decide), bnd_r, groundD w hc1 (by omega), bd_r]
    by_cases q : dk D (dm D 0 j) = 1
    · rw [if_pos q] at nj ⊢
      rw [i10, fX4_layColumns_52, bnd_r, nI_1]
      refine wp_m (ih (j + 1) fu _ (by omega) (by omega) hc1 (by rw [rI_o (by omega), nj]; exact h2) (fun i hi => ?_)) ?_
      · by_cases z : i = j
        · subst z; rw [rI_s, eG, if_pos q]
        · rw [rI_o (by omega)]; exact h121 i (by omega)
      · rintro _ σ2 ⟨c1, c2, c3⟩
        exact ⟨c1, c2, fun x y z1 z2 => sm_t (sm_I (sm_r σ x y) (by omega) rfl) (c3 x y z1 z2)⟩
    · rw [if_neg q] at nj ⊢
      rw [i00, gg_ix (by omega) (by decide), bnd_r, bnd_r, fX4_layColumns_52, bnd_r, nI_1, rI_o (show ¬ (59 = 121 ∧ 2 = j) by omega), rI_o (show ¬ (59 = 121 ∧ 2 = j) by omega), rI_o (show ¬ (59 = 121 ∧ 2 = j) by omega), h2, show nI (ncl D j) + 2 = nI (ncl D j + 2) from nI_add _ 2]
      refine wp_m (ih (j + 1) fu _ (by omega) (by omega) (hc1.keep (fun x y h1 h2 => by rw [rI_o (by omega), rI_o (by omega)])) (by rw [rI_s, nj]) (fun i hi => ?_)) ?_
      · rw [rI_o (by omega)]
        by_cases z : i = j
        · subst z; rw [rI_s, eG, if_neg q]
        · rw [rI_o (by omega), rI_o (by omega)]; exact h121 i (by omega)
      · rintro _ σ2 ⟨c1, c2, c3⟩
        exact ⟨c1, c2, fun x y z1 z2 => sm_t (sm_I (sm_I (sm_I (sm_r σ x y) (by omega) rfl) (by omega) rfl) (by omega) rfl) (c3 x y z1 z2)⟩
theorem writeC {r j : Nat} {x y : Int32} {f : Nat → Nat} (w : WFa D) (hr : r < 60) (hj : j < dn D 0) (hF : RF σ) (h121 : ∀ i, i < dn D 0 → σ.1 121 i = eG D i) (hx : -1000003 < x.toInt ∧ x.toInt < 1000003) (hy : -1000003 < y.toInt ∧ y.toInt < 1000003) (hf : ∀ k, k < 48 → σ.1 (σ.2.2 60 r) k = nI (f k)) :
    Wp (fX4_write (nI r) (nI j) x y σ) (fun _ σ' => (∀ k, k < 48 → σ'.1 (σ.2.2 60 r) k = nI (wrM D f j x.toInt y.toInt k)) ∧ ∀ a c, a ≠ σ.2.2 60 r → sm σ σ' a c) := by
  have w4 := w.n4
  have nl := ncl_le D (dn D 0)
  rw [fX4_write, nI_clamp (show j < 2 ^ 31 by omega), gg_ix (by omega) (by decide), h121 j hj, eG]
  unfold wrM
  by_cases q : dk D (dm D 0 j) = 1
  · rw [if_pos q, if_pos q, if_pos rfl, fX4_write_48]
    exact wp_r ⟨hf, fun a c _ => sm_r σ a c⟩
  · have nj := ncl_in hj q
    obtain ⟨g1, g2⟩ := hF.1 r hr
    rw [if_neg q, if_neg q, if_neg (nI_nN (by omega)), nI_clamp (show r < 2 ^ 31 by omega), gg_ix hr (by decide), bnd_r, gg_t ⟨g1, g2⟩, fmC hx.1 hx.2, bd_r, nI_clamp (show ncl D j < 2 ^ 31 by omega), gg_ix (by omega) (by decide), bnd_r, gg_ix hr (by decide), bnd_r, show (gsI σ (σ.2.2 60 r) (ncl D j) (nI (md x.toInt))).2.2 60 r = σ.2.2 60 r from rfl, gg_t ⟨g1, g2⟩, fmC hy.1 hy.2, bd_r, nI_1, nI_clamp (show ncl D j + 1 < 2 ^ 31 by omega), gg_ix (by omega) (by decide), bnd_r, fX4_write_48]
    refine wp_r ⟨fun k hk => ?_, fun a c z => sm_I (sm_I (sm_r σ a c) (by omega) rfl) (by omega) rfl⟩
    by_cases z : k = ncl D j + 1
    · subst z; rw [rI_s, up_s]
    · rw [rI_o (by omega), up_o z]
      by_cases z2 : k = ncl D j
      · subst z2; rw [rI_s, up_s]
      · rw [rI_o (by omega), up_o z2]; exact hf k hk
/-- the rows written -/
theorem rowsC (h4 : t = 4 ∨ t = 16) (w : WFa D) (v : WFb D) : ∀ (k r fu : Nat) (σ : gS), r + k = dn D 1 → k < fu → CD σ t D → RF σ → σ.1 59 1 = nI (dn D 1) → (∀ i, i < dn D 0 → σ.1 121 i = eG D i) → (∀ r' x, r' < r → x < 48 → σ.1 (σ.2.2 60 r') x = nI (M0 D r' x)) →
    ∃ σ', fX4_work_16 t fu (nI r) σ = bd (fX4_reduce σ') (fun _ σ2 => some ((), σ2)) ∧ (∀ r' x, r' < dn D 1 → x < 48 → σ'.1 (σ'.2.2 60 r') x = nI (M0 D r' x)) ∧ σ'.2.2 = σ.2.2 ∧ (∀ x y, ¬ (61 ≤ x ∧ x ≤ 120) → sm σ σ' x y) := by
  have w4 := w.n4
  intro k
  induction k with
  | zero =>
    intro r fu σ e hfu hc hF h1 h121 hM
    obtain ⟨fu, rfl⟩ : ∃ y, fu = y + 1 := ⟨fu - 1, by omega⟩
    have er : r = dn D 1 := by omega
    refine ⟨σ, ?_, by rw [← er]; exact hM, rfl, fun x y _ => sm_r σ x y⟩
    rw [fX4_work_16, h1, if_pos (nI_le (by omega) (by omega))]
  | succ k ih =>
    intro r fu σ e hfu hc hF h1 h121 hM
    obtain ⟨fu, rfl⟩ : ∃ y, fu = y + 1 := ⟨fu - 1, by omega⟩
    have hr : r < dn D 1 := by omega
    obtain ⟨b1, b2, b3, b4, b5, b6⟩ := bAB w v hr
    have e1 : fX3_firstOf t 1 (nI r) σ = some (nI (bA D r), σ) := by rw [← b4]; exact firstD (f := 1) w hc (by decide) hr
    have e2 : fX3_secondOf t 1 (nI r) σ = some (nI (bB D r), σ) := by rw [← b5]; exact secondD (f := 1) w hc (by decide) hr
    have x1 : fX3_x t (nI (bA D r)) σ = some (dx D (dm D 0 (bA D r)), σ) := by rw [fX3_x, show (0 : Int32) = nI 0 from rfl, firstD w hc (by decide) b1, bd_r]
    have x2 : fX3_x t (nI (bB D r)) σ = some (dx D (dm D 0 (bB D r)), σ) := by rw [fX3_x, show (0 : Int32) = nI 0 from rfl, firstD w hc (by decide) b2, bd_r]
    have y1 : fX3_y t (nI (bA D r)) σ = some (dy D (dm D 0 (bA D r)), σ) := by rw [fX3_y, show (0 : Int32) = nI 0 from rfl, secondD w hc (by decide) b1, bd_r]
    have y2 : fX3_y t (nI (bB D r)) σ = some (dy D (dm D 0 (bB D r)), σ) := by rw [fX3_y, show (0 : Int32) = nI 0 from rfl, secondD w hc (by decide) b2, bd_r]
    obtain ⟨v1, v2, v3, v4⟩ := v.1 _ b1
    obtain ⟨u1, u2, u3, u4⟩ := v.1 _ b2
    obtain ⟨dx1, dx2, dx3⟩ := dif (x1 := dx D (dm D 0 (bA D r))) (x2 := dx D (dm D 0 (bB D r))) ⟨v1, v2⟩ ⟨u1, u2⟩
    obtain ⟨dy1, dy2, dy3⟩ := dif (x1 := dy D (dm D 0 (bA D r))) (x2 := dy D (dm D 0 (bB D r))) ⟨v3, v4⟩ ⟨u3, u4⟩
    have ndx := neg32 (a := dx D (dm D 0 (bA D r)) - dx D (dm D 0 (bB D r))) (by omega)
    have ndy := neg32 (a := dy D (dm D 0 (bA D r)) - dy D (dm D 0 (bB D r))) (by omega)
    obtain ⟨g1, g2⟩ := hF.1 r (by omega)
    obtain ⟨_, σ1, e3, f1, f2⟩ := fillX (h := σ.2.2 60 r) (n := 48) (v := 0) (σ := σ) (by decide)
    have R1 : σ1.2.2 = σ.2.2 := (f2 0 0 (by omega)).2.2
    have F1 : RF σ1 := by unfold RF; rw [R1]; exact hF
    obtain ⟨_, σ2, e4, k1, k2⟩ := writeC (r := r) (j := bA D r) (x := dx D (dm D 0 (bA D r)) - dx D (dm D 0 (bB D r))) (y := dy D (dm D 0 (bA D r)) - dy D (dm D 0 (bB D r))) (f := fun _ => 0) (σ := σ1) w (by omega) b1 F1 (fun i hi => by rw [(f2 121 i (by omega)).1]; exact h121 i hi) ⟨by omega, by omega⟩ ⟨by omega, by omega⟩ (fun k hk => by rw [R1, f1 k hk]; rfl)
    have R2 : σ2.2.2 = σ.2.2 := (k2 0 0 (by rw [R1]; omega)).2.2.trans R1
    have F2 : RF σ2 := by unfold RF; rw [R2]; exact hF
    obtain ⟨_, σ3, e5, l1, l2⟩ := writeC (r := r) (j := bB D r) (x := -(dx D (dm D 0 (bA D r)) - dx D (dm D 0 (bB D r)))) (y := -(dy D (dm D 0 (bA D r)) - dy D (dm D 0 (bB D r)))) (f := wrM D (fun _ => 0) (bA D r) (dX D r) (dY D r)) (σ := σ2) w (by omega) b2 F2 (fun i hi => by rw [(k2 121 i (by rw [R1]; omega)).1, (f2 121 i (by omega)).1]; exact h121 i hi) ⟨by omega, by omega⟩ ⟨by omega, by omega⟩ (fun k hk => by
      have := k1 k hk
      rw [R1] at this
      rw [R2, this, dx1, dy1]
      rfl)
    have R3 : σ3.2.2 = σ.2.2 := (l2 0 0 (by rw [R2]; omega)).2.2.trans R2
    have fr : ∀ x y, x ≠ σ.2.2 60 r → sm σ σ3 x y := fun x y z => sm_t (sm_t (f2 x y (by omega)) (k2 x y (by rw [R1]; exact z))) (l2 x y (by rw [R2]; exact z))
    obtain ⟨σ', m1, m2, m3, m4⟩ := ih (r + 1) fu σ3 (by omega) (by omega) (hc.keep (fun x y h1 h2 => (fr x y (by omega)).1)) (by unfold RF; rw [R3]; exact hF) (by rw [(fr 59 1 (by omega)).1]; exact h1) (fun i hi => by rw [(fr 121 i (by omega)).1]; exact h121 i hi) (fun r' x hr' hx => by
      rw [R3]
      by_cases z : r' = r
      · subst z
        have := l1 x hx
        rw [R2] at this
        rw [this, ndx, ndy, dx1, dy1]
        rfl
      · rw [(fr _ x (fun y => z (hF.2 r' r (by omega) (by omega) y))).1]
        exact hM r' x (by omega) hx)
    refine ⟨σ', ?_, m2, m3.trans R3, fun x y z => sm_t (fr x y (by omega)) (m4 x y z)⟩
    rw [fX4_work_16, h1, if_neg (nI_ge (by omega) (by omega)), e1, bd_r, e2, bd_r, x1, bd_r, x2, bd_r, bnd_r, y1, bd_r, y2, bd_r, bnd_r, nI_clamp (show r < 2 ^ 31 by omega), gg_ix (by omega) (by decide), bnd_r, gg_t ⟨g1, g2⟩, e3, bd_r, e4, bd_r, e5, bd_r, bnd_r, nI_1]
    exact m1
/-! the reduction -/
def RM (σ : gS) (R C : Nat) (M : Nat → Nat → Nat) : Prop := ∀ r k, r < R → k < C → σ.1 (σ.2.2 60 r) k = nI (M r k)
theorem leadFind {M : Nat → Nat → Nat} {R C c : Nat} (hR : R ≤ 60) (hC : C ≤ 48) (hF : RF σ) (h1 : σ.1 59 1 = nI R) (hM : RM σ R C M) (hP : ∀ r k, M r k < 1000003) (hc : c < C) : ∀ (k i fu : Nat), i + k = R → k < fu → fX4_rowToLead_5 (nI c) fu (nI i) σ = some (if fP (fun p => M p c ≠ 0) k i < R then nI (fP (fun p => M p c ≠ 0) k i) else -1000000, σ) := by
  intro k
  induction k with
  | zero =>
    intro i fu e hfu
    obtain ⟨fu, rfl⟩ : ∃ y, fu = y + 1 := ⟨fu - 1, by omega⟩
    rw [fX4_rowToLead_5, h1, if_pos (nI_le (by omega) (by omega)), fP, if_neg (by omega)]
  | succ k ih =>
    intro i fu e hfu
    obtain ⟨fu, rfl⟩ : ∃ y, fu = y + 1 := ⟨fu - 1, by omega⟩
    have := hP i c
    rw [fX4_rowToLead_5, h1, if_neg (nI_ge (by omega) (by omega)), nI_clamp (show i < 2 ^ 31 by omega), gg_ix (by omega) (by decide), bnd_r, gg_t (hF.1 i (by omega)), nI_clamp (show c < 2 ^ 31 by omega), gg_ix (by omega) (by decide), hM i c (by omega) hc, fP]
    by_cases q : M i c ≠ 0
    · rw [cif_t q, if_neg (nI_ne0 (by omega) (by omega)), if_pos (by omega)]
    · have z : M i c = 0 := by omega
      rw [cif_f q, if_pos (by rw [z]; rfl), bnd_r, nI_1]
      exact ih (i + 1) fu (by omega) (by omega)
theorem makeLead {M : Nat → Nat → Nat} {R C c rk p : Nat} (hR : R ≤ 60) (hC : C ≤ 48) (hF : RF σ) (h1 : σ.1 59 1 = nI R) (h2 : σ.1 59 2 = nI C) (h3 : σ.1 59 3 = nI rk) (hrk : rk < R) (hp : p < R) (hc : c < C) (hP : ∀ r k, M r k < 1000003) (h0 : ∀ k, k < c → M p k = 0)
    (hM : RM σ R C (fun r => if r = rk then M p else if r = p then M rk else M r)) : Wp (fX4_makeLead (nI c) σ) (fun _ σ' => RM σ' R C (stp M c rk p) ∧ σ'.2.2 = σ.2.2 ∧ ∀ x y, ¬ (61 ≤ x ∧ x ≤ 120) → sm σ σ' x y) := by
  obtain ⟨g1, g2⟩ := hF.1 rk (by omega)
  have clc : (nI c).toNatClampNeg = c := nI_clamp (by omega)
  have e1 : σ.1 (σ.2.2 60 rk) c = nI (M p c) := by rw [hM rk c hrk hc]; show nI ((if rk = rk then M p else if rk = p then M rk else M rk) c) = _; rw [if_pos rfl]
  have hpc := hP p c
  have iv : ivP (M p c) < 1000003 := ivN_lt 20 0 1 (M p c) (by decide)
  rw [fX4_makeLead, h3, nI_clamp (show rk < 2 ^ 31 by omega), gg_ix (by omega) (by decide), bnd_r, gg_t ⟨g1, g2⟩, clc, gg_ix (by omega) (by decide), e1, nI_l (by omega), invC hpc, bd_r]
  -- the lead row
  have scale : ∀ (n i fu : Nat) (σ1 : gS), i + n = C → n < fu → c ≤ i → (∀ x y, x ≠ σ.2.2 60 rk → sm σ σ1 x y) → σ1.2.2 = σ.2.2 → (∀ k, k < C → σ1.1 (σ.2.2 60 rk) k = nI (if k < i then M p k * ivP (M p c) % 1000003 else M p k)) →
      ∃ σ2, fX4_makeLead_21 (nI c) fu (σ.2.2 60 rk) (lN (ivP (M p c))) (nI i) σ1 = fX4_makeLead_55 (nI c) 2000 (σ.2.2 60 rk) 0 σ2 ∧ (∀ x y, x ≠ σ.2.2 60 rk → sm σ σ2 x y) ∧ σ2.2.2 = σ.2.2 ∧ ∀ k, k < C → σ2.1 (σ.2.2 60 rk) k = nI (M p k * ivP (M p c) % 1000003) := by
    intro n
    induction n with
    | zero =>
      intro i fu σ1 e hfu hci f1 r1 k1
      obtain ⟨fu, rfl⟩ : ∃ y, fu = y + 1 := ⟨fu - 1, by omega⟩
      refine ⟨σ1, ?_, f1, r1, fun k hk => by rw [k1 k hk, if_pos (by omega)]⟩
      rw [fX4_makeLead_21, (f1 59 2 (by omega)).1, h2, if_pos (nI_le (by omega) (by omega))]
    | succ n ih =>
      intro i fu σ1 e hfu hci f1 r1 k1
      obtain ⟨fu, rfl⟩ : ∃ y, fu = y + 1 := ⟨fu - 1, by omega⟩
      have cur := k1 i (by omega)
      rw [if_neg (by omega)] at cur
      have pi := hP p i
      have mp := mul_P pi iv
      obtain ⟨σ2, z1, z2, z3, z4⟩ := ih (i + 1) fu (gsI σ1 (σ.2.2 60 rk) i (nI (M p i * ivP (M p c) % 1000003))) (by omega) (by omega) (by omega) (fun x y z => sm_I (f1 x y z) (by omega) rfl) r1 (fun k hk => by
        by_cases q : k = i
        · subst q; rw [rI_s, if_pos (by omega)]
        · rw [rI_o (by omega), k1 k hk]
          by_cases q2 : k < i
          · rw [if_pos q2, if_pos (by omega)]
          · rw [if_neg q2, if_neg (by omega)])
      refine ⟨σ2, ?_, z2, z3, z4⟩
      rw [fX4_makeLead_21, (f1 59 2 (by omega)).1, h2, if_neg (nI_ge (by omega) (by omega)), gg_t ⟨g1, g2⟩, nI_clamp (show i < 2 ^ 31 by omega), gg_ix (by omega) (by decide), gg_t ⟨g1, g2⟩, gg_ix (by omega) (by decide), bnd_r, bnd_r, nI_1, cur, nI_l (by omega), mm (by omega), lN_i]
      exact z1
  obtain ⟨σ2, e2, f2, r2, k2⟩ := scale (C - c) c 2000 σ (by omega) (by omega) (Nat.le_refl c) (fun x y _ => sm_r σ x y) rfl (fun k hk => by
    rw [hM rk k hrk hk]
    show nI ((if rk = rk then M p else if rk = p then M rk else M rk) k) = _
    rw [if_pos rfl]
    by_cases q : k < c
    · rw [if_pos q, h0 k q, Nat.zero_mul]
    · rw [if_neg q])
  rw [e2]
  -- the other rows
  have rows : ∀ (n r fu : Nat) (σ1 : gS), r + n = R → n < fu → (∀ x y, ¬ (61 ≤ x ∧ x ≤ 120) → sm σ σ1 x y) → σ1.2.2 = σ.2.2 → (∀ r' k, r' < R → k < C → σ1.1 (σ.2.2 60 r') k = nI (if r' < r then stp M c rk p r' k else if r' = rk then M p k * ivP (M p c) % 1000003 else (if r' = p then M rk else M r') k)) →
      Wp (fX4_makeLead_55 (nI c) fu (σ.2.2 60 rk) (nI r) σ1) (fun _ σ' => RM σ' R C (stp M c rk p) ∧ σ'.2.2 = σ.2.2 ∧ ∀ x y, ¬ (61 ≤ x ∧ x ≤ 120) → sm σ σ' x y) := by
    intro n
    induction n with
    | zero =>
      intro r fu σ1 e hfu f1 r1 k1
      obtain ⟨fu, rfl⟩ : ∃ y, fu = y + 1 := ⟨fu - 1, by omega⟩
      rw [fX4_makeLead_55, (f1 59 1 (by omega)).1, h1, if_pos (nI_le (by omega) (by omega))]
      refine wp_r ⟨fun r' k h1 h2 => ?_, r1, f1⟩
      rw [r1, k1 r' k h1 h2, if_pos (by omega)]
    | succ n ih =>
      intro r fu σ1 e hfu f1 r1 k1
      obtain ⟨fu, rfl⟩ : ∃ y, fu = y + 1 := ⟨fu - 1, by omega⟩
      obtain ⟨q1, q2⟩ := hF.1 r (by omega)
      have cur : ∀ k, k < C → σ1.1 (σ.2.2 60 r) k = nI (if r = rk then M p k * ivP (M p c) % 1000003 else (if r = p then M rk else M r) k) := fun k hk => by rw [k1 r k (by omega) hk, if_neg (by omega)]
      have next : ∀ σ3 : gS, (∀ x y, ¬ (61 ≤ x ∧ x ≤ 120) → sm σ σ3 x y) → σ3.2.2 = σ.2.2 → (∀ r' k, r' < R → r' ≠ r → k < C → σ3.1 (σ.2.2 60 r') k = σ1.1 (σ.2.2 60 r') k) → (∀ k, k < C → σ3.1 (σ.2.2 60 r) k = nI (stp M c rk p r k)) → Wp (fX4_makeLead_147 (nI c) (fun v2 v5 σ => fX4_makeLead_55 (nI c) fu v2 v5 σ) (σ.2.2 60 rk) (nI r) σ3) (fun _ σ' => RM σ' R C (stp M c rk p) ∧ σ'.2.2 = σ.2.2 ∧ ∀ x y, ¬ (61 ≤ x ∧ x ≤ 120) → sm σ σ' x y) := by
        intro σ3 a1 a2 a3 a4
        rw [fX4_makeLead_147, bnd_r, nI_1]
        refine ih (r + 1) fu σ3 (by omega) (by omega) a1 a2 (fun r' k b1 b2 => ?_)
        by_cases z : r' = r
        · subst z; rw [a4 k b2, if_pos (by omega)]
        · rw [a3 r' k b1 z b2, k1 r' k b1 b2]
          by_cases z2 : r' < r
          · rw [if_pos z2, if_pos (show r' < r + 1 by omega)]
          · rw [if_neg z2, if_neg (show ¬ r' < r + 1 by omega)]
      have oc : (if r = rk then M p c * ivP (M p c) % 1000003 else (if r = p then M rk else M r) c) < 1000003 := by
        by_cases z : r = rk
        · rw [if_pos z]; exact Nat.mod_lt _ (by decide)
        · rw [if_neg z]
          by_cases z2 : r = p
          · rw [if_pos z2]; exact hP _ _
          · rw [if_neg z2]; exact hP _ _
      rw [fX4_makeLead_55, (f1 59 1 (by omega)).1, h1, if_neg (nI_ge (by omega) (by omega)), nI_clamp (show r < 2 ^ 31 by omega), gg_ix (by omega) (by decide), bnd_r, r1, gg_t ⟨q1, q2⟩, clc, gg_ix (by omega) (by decide), bnd_r, (f1 59 3 (by omega)).1, h3, cur c hc, show (1000003 : Int32) = nI 1000003 from rfl, pk_sub (by omega), nI_l (by omega)]
      by_cases z : r = rk
      · rw [if_pos (by rw [z])]
        refine next σ1 f1 r1 (fun _ _ _ _ _ => rfl) (fun k hk => ?_)
        rw [cur k hk, if_pos z]
        unfold stp
        rw [if_pos z]
      · rw [if_neg (fun y => z ((nI_eq (by omega) (by omega)).mp y))]
        rw [if_neg z] at oc ⊢
        have sk : ∀ k, stp M c rk p r k = (if (if r = p then M rk else M r) c = 0 then (if r = p then M rk else M r) k else ((if r = p then M rk else M r) k + (1000003 - (if r = p then M rk else M r) c) * (M p k * ivP (M p c) % 1000003)) % 1000003) := fun k => by unfold stp; rw [if_neg z]
        have ok : ∀ k, (if r = p then M rk else M r) k < 1000003 := fun k => by
          by_cases z2 : r = p
          · rw [if_pos z2]; exact hP _ _
          · rw [if_neg z2]; exact hP _ _
        have cur' : ∀ k, k < C → σ1.1 (σ.2.2 60 r) k = nI ((if r = p then M rk else M r) k) := fun k hk => by rw [cur k hk, if_neg z]
        generalize (if r = p then M rk else M r) = o at *
        by_cases y : o c = 0
        · rw [if_pos (by rw [y]; decide)]
          refine next σ1 f1 r1 (fun _ _ _ _ _ => rfl) (fun k hk => ?_)
          rw [cur' k hk, sk k, if_pos y]
        · rw [if_neg (show ¬ lg_cmp (lN (1000003 - o c)) 1000003 = 0 from fun w => by
            have := (pk_lEQ (b := 1000003) (by omega) (by decide)).mp (cmp_eq.mp w)
            omega)]
          have lead : ∀ (τ : gS), (∀ k, τ.1 (σ.2.2 60 rk) k = σ1.1 (σ.2.2 60 rk) k) → ∀ k, k < C → τ.1 (σ.2.2 60 rk) k = nI (M p k * ivP (M p c) % 1000003) := fun τ ht k hk => by
            rw [ht k, k1 rk k hrk hk]
            by_cases w : rk < r
            · rw [if_pos w]; unfold stp; rw [if_pos rfl]
            · rw [if_neg w, if_pos rfl]
          have ne : σ.2.2 60 rk ≠ σ.2.2 60 r := fun w => z (hF.2 rk r (by omega) (by omega) w).symm
          have elim : ∀ (m i gu : Nat) (σ3 : gS), i + m = C → m < gu → c ≤ i → (∀ x y, x ≠ σ.2.2 60 r → sm σ1 σ3 x y) → (∀ k, k < C → σ3.1 (σ.2.2 60 r) k = nI (if k < i then (o k + (1000003 - o c) * (M p k * ivP (M p c) % 1000003)) % 1000003 else o k)) → Wp (fX4_makeLead_107 (nI c) (fun v2 v5 σ => fX4_makeLead_55 (nI c) fu v2 v5 σ) gu (σ.2.2 60 rk) (nI r) (σ.2.2 60 r) (lN (1000003 - o c)) (nI i) σ3) (fun _ σ' => RM σ' R C (stp M c rk p) ∧ σ'.2.2 = σ.2.2 ∧ ∀ x y, ¬ (61 ≤ x ∧ x ≤ 120) → sm σ σ' x y) := by
            intro m
            induction m with
            | zero =>
              intro i gu σ3 e' hgu hci f3 k3
              obtain ⟨gu, rfl⟩ : ∃ y, gu = y + 1 := ⟨gu - 1, by omega⟩
              rw [fX4_makeLead_107, (f3 59 2 (by omega)).1, (f1 59 2 (by omega)).1, h2, if_pos (nI_le (by omega) (by omega))]
              refine next σ3 (fun x y w => sm_t (f1 x y w) (f3 x y (by omega))) ((f3 0 0 (by omega)).2.2.trans r1) (fun r' k b1 b2 b3 => (f3 _ k (fun w => b2 (hF.2 r' r (by omega) (by omega) w))).1) (fun k hk => ?_)
              rw [k3 k hk, if_pos (by omega), sk k, if_neg y]
            | succ m ihm =>
              intro i gu σ3 e' hgu hci f3 k3
              obtain ⟨gu, rfl⟩ : ∃ y, gu = y + 1 := ⟨gu - 1, by omega⟩
              have ci := k3 i (by omega)
              rw [if_neg (by omega)] at ci
              have li := lead σ3 (fun k => (f3 _ k ne).1) i (by omega)
              have oi := ok i
              have ml : M p i * ivP (M p c) % 1000003 < 1000003 := Nat.mod_lt _ (by decide)
              generalize hlv : M p i * ivP (M p c) % 1000003 = lv at *
              have mb : (1000003 - o c) * lv < 1000003 * 1000003 := mul_P (by omega) ml
              rw [fX4_makeLead_107, (f3 59 2 (by omega)).1, (f1 59 2 (by omega)).1, h2, if_neg (nI_ge (by omega) (by omega)), gg_t ⟨q1, q2⟩, nI_clamp (show i < 2 ^ 31 by omega), gg_ix (by omega) (by decide), gg_t ⟨g1, g2⟩, gg_ix (by omega) (by decide), gg_t ⟨q1, q2⟩, gg_ix (by omega) (by decide), bnd_r, bnd_r, nI_1, ci, li, nI_l (by omega), nI_l (by omega), lN_mul, lN_add, rm (by omega), lN_i]
              refine ihm (i + 1) gu _ (by omega) (by omega) (by omega) (fun x y w => sm_I (f3 x y w) (by omega) rfl) (fun k hk => ?_)
              by_cases w : k = i
              · subst w; rw [rI_s, if_pos (by omega), hlv]
              · rw [rI_o (by omega), k3 k hk]
                by_cases w2 : k < i
                · rw [if_pos w2, if_pos (by omega)]
                · rw [if_neg w2, if_neg (by omega)]
          refine elim (C - c) c 2000 σ1 (by omega) (by omega) (Nat.le_refl c) (fun x y _ => sm_r σ1 x y) (fun k hk => ?_)
          rw [cur' k hk]
          by_cases w : k < c
          · rw [if_pos w, h0 k w, Nat.zero_mul, Nat.zero_mod, Nat.mul_zero, Nat.add_zero, Nat.mod_eq_of_lt (ok k)]
          · rw [if_neg w]
  refine rows R 0 2000 σ2 (by omega) (by omega) (fun x y z => f2 x y (by omega)) r2 (fun r' k b1 b2 => ?_)
  rw [if_neg (by omega)]
  by_cases z : r' = rk
  · rw [if_pos z, z, k2 k b2]
  · rw [if_neg z, (f2 _ k (fun w => z (hF.2 r' rk (by omega) (by omega) w))).1, hM r' k b1 b2]
    show nI ((if r' = rk then M p else if r' = p then M rk else M r') k) = _
    rw [if_neg z]
end MAT

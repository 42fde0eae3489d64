/-! questions of counts; count and digest -/
/-- the linkage in use, as data -/
def LkD (σ : gS) (t : Nat) (D : DT) : Prop := (t = 4 ∨ t = 16) ∧ σ.2.2 0 1 = t ∧ σ.2.2 1 3 = 20 - t ∧ WFa D ∧ WFb D ∧ CD σ t D ∧ RD0 σ D
theorem LkD.k {σ : gS} {t : Nat} {D : DT} (h : LkD σ t D) : Lk σ t (dn D) (dk D) (du D) (dm D) := by
  obtain ⟨h4, h1, h2, w, v, c, r⟩ := h
  refine ⟨h4, h1, h2, ⟨fun f hf => ⟨w.1 f hf, c.1 f hf, r.1 f hf⟩, ⟨c.2.1, r.2.1⟩, fun p hp => ?_, fun f i hf hi => ?_, fun i hi => r.2.2.2.2.1 i hi, fun i hi => r.2.2.2.2.2.1 i hi⟩, ⟨fun i hi => ?_, fun i hi => ?_, fun i hi => ?_, fun i hi => ?_⟩, ?_⟩
  · obtain ⟨a1, a2, a3⟩ := w.2.1 p hp
    obtain ⟨c1, c2, -⟩ := c.2.2.1 p hp
    obtain ⟨r1, r2⟩ := r.2.2.1 p hp
    exact ⟨a1, c1, r1, c2, r2, a2, a3⟩
  · obtain ⟨a1, a2, a3⟩ := w.2.2.1 f i hf hi
    obtain ⟨-, -, c3, c4, -⟩ := c.2.2.1 _ a1
    obtain ⟨r1, r2⟩ := r.2.2.2.1 f i hf hi
    exact ⟨a1, a2, a3, c.2.2.2.1 f i hf hi, c3.trans r1.symm, c4.trans r2.symm⟩
  · obtain ⟨r1, r2⟩ := r.2.2.2.1 0 i (by decide) hi
    have r1 : σ.1 170 i = _ := r1
    have r2 : σ.1 171 i = _ := r2
    show -1000 ≤ (σ.1 170 i).toInt ∧ (σ.1 170 i).toInt ≤ 1000 ∧ -1000 ≤ (σ.1 171 i).toInt ∧ (σ.1 171 i).toInt ≤ 1000
    rw [r1, r2]
    exact v.1 i hi
  · obtain ⟨r1, r2⟩ := r.2.2.2.1 1 i (by decide) hi
    obtain ⟨a, b, b1, b2, b3, b4, b5⟩ := v.2.1 i hi
    exact ⟨a, b, b1, b2, b3, r1.trans b4, r2.trans b5⟩
  · obtain ⟨r1, r2⟩ := r.2.2.2.1 2 i (by decide) hi
    obtain ⟨a, b, b1, b2, b3, b4, b5⟩ := v.2.2.1 i hi
    exact ⟨a, b, b1, b2, b3, r1.trans b4, r2.trans b5⟩
  · obtain ⟨r1, r2⟩ := r.2.2.2.1 3 i (by decide) hi
    obtain ⟨a, b, b1, b2, b3, b4, b5⟩ := v.2.2.2.1 i hi
    exact ⟨a, b, b1, b2, b3, r1.trans b4, r2.trans b5⟩
  · rcases hd : dd D with _ | ⟨a, b⟩
    · exact Or.inl ⟨(c.2.2.2.2.1 hd).1, (c.2.2.2.2.1 hd).2, (r.2.2.2.2.2.2.1 hd).1, (r.2.2.2.2.2.2.1 hd).2⟩
    · obtain ⟨b1, b2, b3, b4, b5⟩ := v.2.2.2.2 a b hd
      refine Or.inr ⟨a, b, b1, b2, b3, (c.2.2.2.2.2 a b hd).1, (c.2.2.2.2.2 a b hd).2, (r.2.2.2.2.2.2.2 a b hd).1, (r.2.2.2.2.2.2.2 a b hd).2, ?_, ?_⟩
      · exact (r.2.2.2.2.1 a b1).trans (if_neg b4)
      · exact (r.2.2.2.2.1 b b2).trans (if_pos b5)
section PUB1
variable {σ : gS} {t : Nat} {D : DT}
theorem needed_eq (h : LkD σ t D) (hc : KC σ D) (hr : KR σ D) (p : Int32) : Ok (fX10_needed p σ) (fX11_needed p) (fun σ' => σ' = σ) := by
  have k := h.k
  have w4 := h.2.2.2.1.n4
  have tl := tiD_len h.2.2.2.1
  by_cases hp : 0 ≤ p.toInt ∧ p.toInt < dn D 1
  · obtain ⟨i, hi, rfl⟩ := nI_get (n := dn D 1) hp.1 hp.2 (by omega)
    have e1 : fX10_isMember 1 (nI i) σ = some (1, σ) := isM_yes (f := 1) k (by decide) hi
    obtain ⟨r1, r2⟩ := hr.2.2.1 i hi
    by_cases q : Tight (barE D i) (bA D i) (bB D i)
    · refine Ok.mk (r := 0) (r' := 0) (σ1 := σ) (σ2 := σ) ?_ ?_ rfl rfl
      · rw [fX10_needed, e1, bd_r, i10, nI_clamp (by omega), gg_ix (by omega) (by decide), hc.2.2.1 i hi, cif_t q, i00, fX10_needed_29]
      · rw [fX11_needed, isB_yes k hi, bd_r, i10, bnd_r, hr.1, nI_add, nI_clamp (by omega), gg_ix (by omega) (by decide), r1 q, if_pos (by decide), fX11_needed_32]
    · obtain ⟨x, x1, x2⟩ := r2 q
      refine Ok.mk (r := 1) (r' := 1) (σ1 := σ) (σ2 := σ) ?_ ?_ rfl rfl
      · rw [fX10_needed, e1, bd_r, i10, nI_clamp (by omega), gg_ix (by omega) (by decide), hc.2.2.1 i hi, cif_f q, i10, fX10_needed_29]
      · rw [fX11_needed, isB_yes k hi, bd_r, i10, bnd_r, hr.1, nI_add, nI_clamp (by omega), gg_ix (by omega) (by decide), x2, if_neg (nI_pos (by omega)), fX11_needed_32]
  · have e1 : fX10_isMember 1 p σ = some (0, σ) := isM_no (f := 1) k (by decide) hp
    refine Ok.mk (r := -1000001) (r' := -1000001) (σ1 := σ) (σ2 := σ) ?_ ?_ rfl rfl
    · rw [fX10_needed, e1, bd_r, i00]
    · rw [fX11_needed, isB_no k hp, bd_r, i00, fX11_needed_32]
theorem together_eq (h : LkD σ t D) (hc : KC σ D) (hr : KR σ D) (p q : Int32) : Ok (fX10_together p q σ) (fX11_together p q) (fun σ' => σ' = σ) := by
  have k := h.k
  have w4 := h.2.2.2.1.n4
  by_cases hp : 0 ≤ p.toInt ∧ p.toInt < dn D 0
  · obtain ⟨a, ha, rfl⟩ := nI_get (n := dn D 0) hp.1 hp.2 (by omega)
    have e1 : fX10_isMember 0 (nI a) σ = some (1, σ) := isM_yes (f := 0) k (by decide) ha
    by_cases hq : 0 ≤ q.toInt ∧ q.toInt < dn D 0
    · obtain ⟨b, hb, rfl⟩ := nI_get (n := dn D 0) hq.1 hq.2 (by omega)
      have e2 : fX10_isMember 0 (nI b) σ = some (1, σ) := isM_yes (f := 0) k (by decide) hb
      have tb := hc.2.2.2.2.1 a b (by omega) (by omega)
      have e24 : 24 * nI a + nI b = nI (24 * a + b) := by rw [show (24 : Int32) = nI 24 from rfl, pk_mul, nI_add]
      by_cases z : nearP (barE D (dn D 1)) a b
      · have nz : ¬ bt (σ.1 57 a) b = false := by rw [tb.mpr ⟨ha, hb, z⟩]; decide
        refine Ok.mk (r := 1) (r' := 1) (σ1 := σ) (σ2 := σ) ?_ ?_ rfl rfl
        · rw [fX10_together, e1, bd_r, i10, e2, bd_r, i10, fX1_areTogether, nI_clamp (show a < 2 ^ 31 by omega), gg_ix (by omega) (by decide), if_neg (fun y => nz ((bt_sr (by omega)).mp y)), fX1_areTogether_18, gg_t (Or.inr rfl), bd_r, i10, fX10_together_38]
        · rw [fX11_together, isJ_yes k ha, bd_r, i10, isJ_yes k hb, bd_r, i10, bnd_r, e24, nI_clamp (by omega), gg_ix (by omega) (by decide), hr.2.2.2 a b ha hb, cif_t z, i10, fX11_together_40]
      · have nz : bt (σ.1 57 a) b = false := by
          rw [← Bool.not_eq_true]
          exact fun y => z (tb.mp y).2.2
        refine Ok.mk (r := 0) (r' := 0) (σ1 := σ) (σ2 := σ) ?_ ?_ rfl rfl
        · rw [fX10_together, e1, bd_r, i10, e2, bd_r, i10, fX1_areTogether, nI_clamp (show a < 2 ^ 31 by omega), gg_ix (by omega) (by decide), if_pos ((bt_sr (by omega)).mpr nz), fX1_areTogether_18, gg_t (Or.inl rfl), bd_r, i00, fX10_together_38]
        · rw [fX11_together, isJ_yes k ha, bd_r, i10, isJ_yes k hb, bd_r, i10, bnd_r, e24, nI_clamp (by omega), gg_ix (by omega) (by decide), hr.2.2.2 a b ha hb, cif_f z, i00, fX11_together_40]
    · have e2 : fX10_isMember 0 q σ = some (0, σ) := isM_no (f := 0) k (by decide) hq
      refine Ok.mk (r := -1000001) (r' := -1000001) (σ1 := σ) (σ2 := σ) ?_ ?_ rfl rfl
      · rw [fX10_together, e1, bd_r, i10, e2, bd_r, i00, fX10_together_18]
      · rw [fX11_together, isJ_yes k ha, bd_r, i10, isJ_no k hq, bd_r, i00, fX11_together_16, fX11_together_40]
  · have e1 : fX10_isMember 0 p σ = some (0, σ) := isM_no (f := 0) k (by decide) hp
    refine Ok.mk (r := -1000001) (r' := -1000001) (σ1 := σ) (σ2 := σ) ?_ ?_ rfl rfl
    · rw [fX10_together, e1, bd_r, i00, fX10_together_18]
    · rw [fX11_together, isJ_no k hp, bd_r, i00, fX11_together_16, fX11_together_40]
theorem clusterOfR (h : LkD σ t D) (hr : KR σ D) {p : Nat} (hp : p < dn D 1) : fX11_clusterOf (nI p) σ = some (nI (cls D (barE D (dn D 1)) p), σ) := by
  obtain ⟨h4, h1, h2, w, v, c, r⟩ := h
  have w4 := w.n4
  obtain ⟨p1, p2, p3, p4, p5, p6⟩ := bAB w v hp
  have a1 : σ.1 176 p = nI (bA D p) := (r.2.2.2.1 1 p (by decide) hp).1.trans p4
  have a2 : σ.1 177 p = nI (bB D p) := (r.2.2.2.1 1 p (by decide) hp).2.trans p5
  have e24 : ∀ a b : Nat, 24 * nI a + nI b = nI (24 * a + b) := fun a b => by rw [show (24 : Int32) = nI 24 from rfl, pk_mul, nI_add]
  have clp : (nI p).toNatClampNeg = p := nI_clamp (by omega)
  have key : ∀ (k o fu : Nat), o + k = p → k < fu → fX11_clusterOf_2 (nI p) fu (nI o) σ = some (nI (fP (oneC D (barE D (dn D 1)) p) k o), σ) := by
    intro k
    induction k with
    | zero =>
      intro o fu e hfu
      obtain ⟨fu, rfl⟩ : ∃ y, fu = y + 1 := ⟨fu - 1, by omega⟩
      have : o = p := by omega
      rw [fX11_clusterOf_2, if_pos (nI_le (by omega) (by omega)), fP, this]
    | succ k ih =>
      intro o fu e hfu
      obtain ⟨fu, rfl⟩ : ∃ y, fu = y + 1 := ⟨fu - 1, by omega⟩
      have ho : o < dn D 1 := by omega
      obtain ⟨o1, o2, o3, o4, o5, o6⟩ := bAB w v ho
      have b1 : σ.1 176 o = nI (bA D o) := (r.2.2.2.1 1 o (by decide) ho).1.trans o4
      have b2 : σ.1 177 o = nI (bB D o) := (r.2.2.2.1 1 o (by decide) ho).2.trans o5
      have nx : ¬ oneC D (barE D (dn D 1)) p o → fX11_clusterOf_105 (nI p) (fun v2 σ => fX11_clusterOf_2 (nI p) fu v2 σ) (nI o) σ = some (nI (fP (oneC D (barE D (dn D 1)) p) (k + 1) o), σ) := by
        intro z
        rw [fX11_clusterOf_105, bnd_r, nI_1, fP, cif_f z]
        exact ih (o + 1) fu (by omega) (by omega)
      rw [fX11_clusterOf_2, if_neg (nI_ge (by omega) (by omega)), nI_clamp (show o < 2 ^ 31 by omega), clp, gg_ix (by omega) (by decide), gg_ix (by omega) (by decide), bnd_r, a1, a2, b1, b2, e24, nI_clamp (by omega), gg_ix (by omega) (by decide), hr.2.2.2 _ _ o1 p1]
      by_cases q1 : nearP (barE D (dn D 1)) (bA D o) (bA D p)
      · rw [cif_t q1, i10, gg_ix (by omega) (by decide), gg_ix (by omega) (by decide), bnd_r, e24, nI_clamp (by omega), gg_ix (by omega) (by decide), hr.2.2.2 _ _ o1 p2]
        by_cases q2 : nearP (barE D (dn D 1)) (bA D o) (bB D p)
        · rw [cif_t q2, i10, gg_ix (by omega) (by decide), gg_ix (by omega) (by decide), bnd_r, e24, nI_clamp (by omega), gg_ix (by omega) (by decide), hr.2.2.2 _ _ o2 p1]
          by_cases q3 : nearP (barE D (dn D 1)) (bB D o) (bA D p)
          · rw [cif_t q3, i10, gg_ix (by omega) (by decide), gg_ix (by omega) (by decide), bnd_r, e24, nI_clamp (by omega), gg_ix (by omega) (by decide), hr.2.2.2 _ _ o2 p2]
            by_cases q4 : nearP (barE D (dn D 1)) (bB D o) (bB D p)
            · rw [cif_t q4, i10, fP, cif_t (show oneC D (barE D (dn D 1)) p o from ⟨q1, q2, q3, q4⟩)]
            · rw [cif_f q4, i00]; exact nx (fun z => q4 z.2.2.2)
          · rw [cif_f q3, i00]; exact nx (fun z => q3 z.2.2.1)
        · rw [cif_f q2, i00]; exact nx (fun z => q2 z.2.1)
      · rw [cif_f q1, i00]; exact nx (fun z => q1 z.1)
  rw [fX11_clusterOf]
  exact key p 0 2000 (by omega) (by omega)
theorem cluster_eq (h : LkD σ t D) (hc : KC σ D) (hr : KR σ D) (p : Int32) : Ok (fX10_cluster p σ) (fX11_cluster p) (fun σ' => σ' = σ) := by
  have k := h.k
  have w4 := h.2.2.2.1.n4
  by_cases hp : 0 ≤ p.toInt ∧ p.toInt < dn D 1
  · obtain ⟨i, hi, rfl⟩ := nI_get (n := dn D 1) hp.1 hp.2 (by omega)
    have e1 : fX10_isMember 1 (nI i) σ = some (1, σ) := isM_yes (f := 1) k (by decide) hi
    refine Ok.mk (r := nI (cls D (barE D (dn D 1)) i)) (r' := nI (cls D (barE D (dn D 1)) i)) (σ1 := σ) (σ2 := σ) ?_ ?_ rfl rfl
    · rw [fX10_cluster, e1, bd_r, i10, nI_clamp (by omega), gg_ix (by omega) (by decide), hc.2.2.2.2.2.2 i hi]
    · rw [fX11_cluster, isB_yes k hi, bd_r, i10, clusterOfR h hr hi, bd_r, fX11_cluster_18]
  · have e1 : fX10_isMember 1 p σ = some (0, σ) := isM_no (f := 1) k (by decide) hp
    refine Ok.mk (r := -1000001) (r' := -1000001) (σ1 := σ) (σ2 := σ) ?_ ?_ rfl rfl
    · rw [fX10_cluster, e1, bd_r, i00]
    · rw [fX11_cluster, isB_no k hp, bd_r, i00, fX11_cluster_18]
theorem mobility_eq (h : LkD σ t D) (hc : KC σ D) (hr : KR σ D) : Ok (fX10_mobility σ) (fX11_mobility) (fun σ' => σ' = σ) := by
  have w4 := h.2.2.2.1.n4
  have e0 : σ.1 168 0 = nI (dn D 0) := h.2.2.2.2.2.2.1 0 (by decide)
  refine Ok.mk (r := σ.1 28 8) (r' := σ.1 28 8) (σ1 := σ) (σ2 := σ) rfl ?_ rfl rfl
  rw [fX11_mobility, e0, hr.2.1, hc.2.2.2.1]
  by_cases q : dn D 0 < 2
  · rw [if_neg (show ¬ 2 ≤ nI (dn D 0) from nI_ge (b := 2) q (by decide)), if_pos q, fX11_mobility_25]
  · rw [if_pos (show 2 ≤ nI (dn D 0) from nI_le (a := 2) (by omega) (by omega)), if_neg q, fX11_mobility_25]
theorem place_eq (h : σ.1 1 9 = σ.1 168 50) : Ok (fX10_place σ) (fX11_place) (fun σ' => σ' = σ) :=
  Ok.mk (r := σ.1 1 9) (r' := σ.1 168 50) (σ1 := σ) (σ2 := σ) rfl rfl h.symm rfl
def grN (D : DT) (n : Nat) : Nat := sN (fun i => if dk D (dm D 0 i) = 1 then 1 else 0) n
theorem grN_le (D : DT) : ∀ n, grN D n ≤ n
  | 0 => Nat.le_refl _
  | n + 1 => by
    have := grN_le D n
    show grN D n + (if dk D (dm D 0 n) = 1 then 1 else 0) ≤ n + 1
    split <;> omega
theorem groundsC (w : WFa D) (c : CD σ t D) : fX3_grounds t σ = some (nI (grN D (dn D 0)), σ) := by
  have w4 := w.n4
  have key : ∀ (k i fu : Nat), i + k = dn D 0 → k < fu → fX3_grounds_4 t fu (nI (grN D i)) (nI i) σ = some (nI (grN D (dn D 0)), σ) := by
    intro k
    induction k with
    | zero =>
      intro i fu e hfu
      obtain ⟨fu, rfl⟩ : ∃ y, fu = y + 1 := ⟨fu - 1, by omega⟩
      have : i = dn D 0 := by omega
      rw [fX3_grounds_4, show (0 : Int32).toNatClampNeg = 0 from rfl, c.1 0 (by decide), if_pos (nI_le (by omega) (by omega)), this]
    | succ k ih =>
      intro i fu e hfu
      obtain ⟨fu, rfl⟩ : ∃ y, fu = y + 1 := ⟨fu - 1, by omega⟩
      rw [fX3_grounds_4, show (0 : Int32).toNatClampNeg = 0 from rfl, c.1 0 (by decide), if_neg (nI_ge (by omega) (by omega)), groundD w c (by omega), bd_r]
      have s : grN D (i + 1) = grN D i + (if dk D (dm D 0 i) = 1 then 1 else 0) := rfl
      by_cases q : dk D (dm D 0 i) = 1
      · rw [if_pos q] at s ⊢
        rw [i10, bnd_r, fX3_grounds_25, bnd_r, nI_1, nI_1, ← s]
        exact ih (i + 1) fu (by omega) (by omega)
      · rw [if_neg q] at s ⊢
        rw [i00, fX3_grounds_25, bnd_r, nI_1, show grN D i = grN D (i + 1) from s.symm]
        exact ih (i + 1) fu (by omega) (by omega)
  rw [fX3_grounds]
  exact key (dn D 0) 0 2000 (by omega) (by omega)
theorem groundsR (w : WFa D) (r : RD0 σ D) (p : Int32) : fX11_count_71 p 2000 0 0 σ = some (nI (grN D (dn D 0)), σ) := by
  have w4 := w.n4
  have e0 : σ.1 168 0 = nI (dn D 0) := r.1 0 (by decide)
  have key : ∀ (k i fu : Nat), i + k = dn D 0 → k < fu → fX11_count_71 p fu (nI (grN D i)) (nI i) σ = some (nI (grN D (dn D 0)), σ) := by
    intro k
    induction k with
    | zero =>
      intro i fu e hfu
      obtain ⟨fu, rfl⟩ : ∃ y, fu = y + 1 := ⟨fu - 1, by omega⟩
      have : i = dn D 0 := by omega
      rw [fX11_count_71, e0, if_pos (nI_le (by omega) (by omega)), this]
    | succ k ih =>
      intro i fu e hfu
      obtain ⟨fu, rfl⟩ : ∃ y, fu = y + 1 := ⟨fu - 1, by omega⟩
      rw [fX11_count_71, e0, if_neg (nI_ge (by omega) (by omega)), nI_clamp (by omega), gg_ix (by omega) (by decide), r.2.2.2.2.1 i (by omega)]
      have s : grN D (i + 1) = grN D i + (if dk D (dm D 0 i) = 1 then 1 else 0) := rfl
      by_cases q : dk D (dm D 0 i) = 1
      · rw [if_pos q] at s ⊢
        rw [i10, fX11_count_94, bnd_r, bnd_r, nI_1, nI_1, ← s]
        exact ih (i + 1) fu (by omega) (by omega)
      · rw [if_neg q] at s ⊢
        rw [i00, fX11_count_94, bnd_r, bnd_r, nI_1, show (0 : Int32) = nI 0 from rfl, nI_add, ← s]
        exact ih (i + 1) fu (by omega) (by omega)
  exact key (dn D 0) 0 2000 (by omega) (by omega)
theorem clustersR (h : LkD σ t D) (hr : KR σ D) (p : Int32) : fX11_count_131 p 2000 0 0 σ = some (nI (clsN D (barE D (dn D 1)) (dn D 1)), σ) := by
  have w4 := h.2.2.2.1.n4
  have e9 : σ.1 168 9 = nI (dn D 1) := h.2.2.2.2.2.2.1 1 (by decide)
  have key : ∀ (k i fu : Nat), i + k = dn D 1 → k < fu → fX11_count_131 p fu (nI (clsN D (barE D (dn D 1)) i)) (nI i) σ = some (nI (clsN D (barE D (dn D 1)) (dn D 1)), σ) := by
    intro k
    induction k with
    | zero =>
      intro i fu e hfu
      obtain ⟨fu, rfl⟩ : ∃ y, fu = y + 1 := ⟨fu - 1, by omega⟩
      have : i = dn D 1 := by omega
      rw [fX11_count_131, e9, if_pos (nI_le (by omega) (by omega)), this]
    | succ k ih =>
      intro i fu e hfu
      obtain ⟨fu, rfl⟩ : ∃ y, fu = y + 1 := ⟨fu - 1, by omega⟩
      have cb := fP_b (oneC D (barE D (dn D 1)) i) i 0
      have cb2 : cls D (barE D (dn D 1)) i ≤ i := by unfold cls; omega
      rw [fX11_count_131, e9, if_neg (nI_ge (by omega) (by omega)), clusterOfR h hr (by omega), bd_r]
      have s : clsN D (barE D (dn D 1)) (i + 1) = clsN D (barE D (dn D 1)) i + (if cls D (barE D (dn D 1)) i = i then 1 else 0) := rfl
      by_cases q : cls D (barE D (dn D 1)) i = i
      · rw [if_pos q] at s
        rw [if_pos (by rw [q]), fX11_count_154, bnd_r, bnd_r, nI_1, nI_1, ← s]
        exact ih (i + 1) fu (by omega) (by omega)
      · rw [if_neg q] at s
        rw [if_neg (fun z => q ((nI_eq (by omega) (by omega)).mp z)), fX11_count_154, bnd_r, bnd_r, nI_1, show (0 : Int32) = nI 0 from rfl, nI_add, ← s]
        exact ih (i + 1) fu (by omega) (by omega)
  exact key (dn D 1) 0 2000 (by omega) (by omega)
theorem rows_same (h : iRows σ) (p : Int32) : ∃ r, fX10_rowsThere σ = some (r, σ) ∧ fX11_count_171 p 2000 0 0 σ = some (r, σ) := by
  have key : ∀ (k i fu fu' : Nat) (v : Int32), i + k = 8 → k < fu → k < fu' → ∃ r, fX10_rowsThere_4 fu v (nI i) σ = some (r, σ) ∧ fX11_count_171 p fu' v (nI i) σ = some (r, σ) := by
    intro k
    induction k with
    | zero =>
      intro i fu fu' v e h1 h2
      obtain ⟨fu, rfl⟩ : ∃ y, fu = y + 1 := ⟨fu - 1, by omega⟩
      obtain ⟨fu', rfl⟩ : ∃ y, fu' = y + 1 := ⟨fu' - 1, by omega⟩
      refine ⟨v, ?_, ?_⟩
      · rw [fX10_rowsThere_4, if_pos (show 8 ≤ nI i from nI_le (a := 8) (by omega) (by omega))]
      · rw [fX11_count_171, if_pos (show 8 ≤ nI i from nI_le (a := 8) (by omega) (by omega))]
    | succ k ih =>
      intro i fu fu' v e h1 h2
      obtain ⟨fu, rfl⟩ : ∃ y, fu = y + 1 := ⟨fu - 1, by omega⟩
      obtain ⟨fu', rfl⟩ : ∃ y, fu' = y + 1 := ⟨fu' - 1, by omega⟩
      have cl : (nI i).toNatClampNeg = i := nI_clamp (by omega)
      rw [fX10_rowsThere_4, if_neg (show ¬ 8 ≤ nI i from nI_ge (b := 8) (by omega) (by decide)), fX11_count_171, if_neg (show ¬ 8 ≤ nI i from nI_ge (b := 8) (by omega) (by decide)), cl, gg_ix (by omega) (by decide), bnd_r, gg_ix (by omega) (by decide)]
      rcases h.2 i (by omega) with ⟨r1, r2⟩ | ⟨r1, q, n, hq, hn, r2, r3, r4⟩
      · rw [r1, r2, i00, if_pos (show (0 : Int32) ≤ 0 by decide), fX10_rowsThere_25, bnd_r, nI_1, fX11_count_192, bnd_r, bnd_r, nI_1, Int32.add_zero]
        exact ih (i + 1) fu fu' v (by omega) (by omega) (by omega)
      · rw [r1, r3, i10, if_neg (nI_nle (by omega) (by omega)), bnd_r, fX10_rowsThere_25, bnd_r, nI_1, fX11_count_192, bnd_r, bnd_r, nI_1]
        exact ih (i + 1) fu fu' (v + 1) (by omega) (by omega) (by omega)
  rw [fX10_rowsThere]
  exact key 8 0 2000 2000 0 (by omega) (by omega) (by omega)
theorem count_eq (h : LkD σ t D) (hc : KC σ D) (hr : KR σ D) (hi : iRows σ) (ht : iTape σ) (p : Int32) : Ok (fX10_count p σ) (fX11_count p) (fun σ' => σ' = σ) := by
  have h' := h
  obtain ⟨h4, h1, h2, w, v, c, r⟩ := h
  have w4 := w.n4
  by_cases q0 : p = 0
  · subst q0
    refine Ok.mk (r := nI (dn D 0)) (r' := nI (dn D 0)) (σ1 := σ) (σ2 := σ) ?_ ?_ rfl rfl
    · rw [fX10_count, if_pos (show (0 : Int32) = 0 from rfl), bnd_r, h1, gg_t h4, show (0 : Int32) = nI 0 from rfl, sizeD c (by decide), bd_r]
    · rw [fX11_count, if_pos (show (0 : Int32) = 0 from rfl), show σ.1 168 0 = nI (dn D 0) from r.1 0 (by decide)]
  by_cases q1 : p = 1
  · subst q1
    refine Ok.mk (r := nI (grN D (dn D 0))) (r' := nI (grN D (dn D 0))) (σ1 := σ) (σ2 := σ) ?_ ?_ rfl rfl
    · rw [fX10_count, if_neg (show ¬ (1 : Int32) = 0 by decide), if_pos (show (1 : Int32) = 1 from rfl), bnd_r, h1, gg_t h4, groundsC w c, bd_r]
    · rw [fX11_count, if_neg (show ¬ (1 : Int32) = 0 by decide), if_pos (show (1 : Int32) = 1 from rfl), groundsR w r]
  by_cases q2 : p = 2
  · subst q2
    refine Ok.mk (r := nI (dn D 1)) (r' := nI (dn D 1)) (σ1 := σ) (σ2 := σ) ?_ ?_ rfl rfl
    · rw [fX10_count, if_neg (show ¬ (2 : Int32) = 0 by decide), if_neg (show ¬ (2 : Int32) = 1 by decide), if_pos (show (2 : Int32) = 2 from rfl), bnd_r, h1, gg_t h4, show fX3_size t 1 σ = some (nI (dn D 1), σ) from sizeD (f := 1) c (by decide), bd_r]
    · rw [fX11_count, if_neg (show ¬ (2 : Int32) = 0 by decide), if_neg (show ¬ (2 : Int32) = 1 by decide), if_pos (show (2 : Int32) = 2 from rfl), show σ.1 168 9 = nI (dn D 1) from r.1 1 (by decide)]
  by_cases q3 : p = 3
  · subst q3
    refine Ok.mk (r := nI (dn D 2)) (r' := nI (dn D 2)) (σ1 := σ) (σ2 := σ) ?_ ?_ rfl rfl
    · rw [fX10_count, if_neg (show ¬ (3 : Int32) = 0 by decide), if_neg (show ¬ (3 : Int32) = 1 by decide), if_neg (show ¬ (3 : Int32) = 2 by decide), if_pos (show (3 : Int32) = 3 from rfl), bnd_r, h1, gg_t h4, show fX3_size t 2 σ = some (nI (dn D 2), σ) from sizeD (f := 2) c (by decide), bd_r]
    · rw [fX11_count, if_neg (show ¬ (3 : Int32) = 0 by decide), if_neg (show ¬ (3 : Int32) = 1 by decide), if_neg (show ¬ (3 : Int32) = 2 by decide), if_pos (show (3 : Int32) = 3 from rfl), show σ.1 168 5 = nI (dn D 2) from r.1 2 (by decide)]
  by_cases q4 : p = 4
  · subst q4
    refine Ok.mk (r := nI (dn D 3)) (r' := nI (dn D 3)) (σ1 := σ) (σ2 := σ) ?_ ?_ rfl rfl
    · rw [fX10_count, if_neg (show ¬ (4 : Int32) = 0 by decide), if_neg (show ¬ (4 : Int32) = 1 by decide), if_neg (show ¬ (4 : Int32) = 2 by decide), if_neg (show ¬ (4 : Int32) = 3 by decide), if_pos (show (4 : Int32) = 4 from rfl), bnd_r, h1, gg_t h4, show fX3_size t 3 σ = some (nI (dn D 3), σ) from sizeD (f := 3) c (by decide), bd_r]
    · rw [fX11_count, if_neg (show ¬ (4 : Int32) = 0 by decide), if_neg (show ¬ (4 : Int32) = 1 by decide), if_neg (show ¬ (4 : Int32) = 2 by decide), if_neg (show ¬ (4 : Int32) = 3 by decide), if_pos (show (4 : Int32) = 4 from rfl), show σ.1 168 12 = nI (dn D 3) from r.1 3 (by decide)]
  by_cases q5 : p = 5
  · subst q5
    refine Ok.mk (r := nI (dP D)) (r' := nI (dP D)) (σ1 := σ) (σ2 := σ) ?_ ?_ rfl rfl
    · rw [fX10_count, if_neg (show ¬ (5 : Int32) = 0 by decide), if_neg (show ¬ (5 : Int32) = 1 by decide), if_neg (show ¬ (5 : Int32) = 2 by decide), if_neg (show ¬ (5 : Int32) = 3 by decide), if_neg (show ¬ (5 : Int32) = 4 by decide), if_pos (show (5 : Int32) = 5 from rfl), bnd_r, h1, gg_t h4, c.2.1]
    · rw [fX11_count, if_neg (show ¬ (5 : Int32) = 0 by decide), if_neg (show ¬ (5 : Int32) = 1 by decide), if_neg (show ¬ (5 : Int32) = 2 by decide), if_neg (show ¬ (5 : Int32) = 3 by decide), if_neg (show ¬ (5 : Int32) = 4 by decide), if_pos (show (5 : Int32) = 5 from rfl), r.2.1]
  by_cases q6 : p = 6
  · subst q6
    refine Ok.mk (r := nI (tiD D).length) (r' := nI (tiD D).length) (σ1 := σ) (σ2 := σ) ?_ ?_ rfl rfl
    · rw [fX10_count, if_neg (show ¬ (6 : Int32) = 0 by decide), if_neg (show ¬ (6 : Int32) = 1 by decide), if_neg (show ¬ (6 : Int32) = 2 by decide), if_neg (show ¬ (6 : Int32) = 3 by decide), if_neg (show ¬ (6 : Int32) = 4 by decide), if_neg (show ¬ (6 : Int32) = 5 by decide), if_pos (show (6 : Int32) = 6 from rfl), hc.2.1]
    · rw [fX11_count, if_neg (show ¬ (6 : Int32) = 0 by decide), if_neg (show ¬ (6 : Int32) = 1 by decide), if_neg (show ¬ (6 : Int32) = 2 by decide), if_neg (show ¬ (6 : Int32) = 3 by decide), if_neg (show ¬ (6 : Int32) = 4 by decide), if_neg (show ¬ (6 : Int32) = 5 by decide), if_pos (show (6 : Int32) = 6 from rfl), hr.1]
  by_cases q7 : p = 7
  · subst q7
    refine Ok.mk (r := nI (clsN D (barE D (dn D 1)) (dn D 1))) (r' := nI (clsN D (barE D (dn D 1)) (dn D 1))) (σ1 := σ) (σ2 := σ) ?_ ?_ rfl rfl
    · rw [fX10_count, if_neg (show ¬ (7 : Int32) = 0 by decide), if_neg (show ¬ (7 : Int32) = 1 by decide), if_neg (show ¬ (7 : Int32) = 2 by decide), if_neg (show ¬ (7 : Int32) = 3 by decide), if_neg (show ¬ (7 : Int32) = 4 by decide), if_neg (show ¬ (7 : Int32) = 5 by decide), if_neg (show ¬ (7 : Int32) = 6 by decide), if_pos (show (7 : Int32) = 7 from rfl), hc.2.2.2.2.2.1]
    · rw [fX11_count, if_neg (show ¬ (7 : Int32) = 0 by decide), if_neg (show ¬ (7 : Int32) = 1 by decide), if_neg (show ¬ (7 : Int32) = 2 by decide), if_neg (show ¬ (7 : Int32) = 3 by decide), if_neg (show ¬ (7 : Int32) = 4 by decide), if_neg (show ¬ (7 : Int32) = 5 by decide), if_neg (show ¬ (7 : Int32) = 6 by decide), if_pos (show (7 : Int32) = 7 from rfl), clustersR h' hr]
  by_cases q8 : p = 8
  · subst q8
    obtain ⟨m, m1, m2, m3, -⟩ := ht
    refine Ok.mk (r := nI m) (r' := nI m) (σ1 := σ) (σ2 := σ) ?_ ?_ rfl rfl
    · rw [fX10_count, if_neg (show ¬ (8 : Int32) = 0 by decide), if_neg (show ¬ (8 : Int32) = 1 by decide), if_neg (show ¬ (8 : Int32) = 2 by decide), if_neg (show ¬ (8 : Int32) = 3 by decide), if_neg (show ¬ (8 : Int32) = 4 by decide), if_neg (show ¬ (8 : Int32) = 5 by decide), if_neg (show ¬ (8 : Int32) = 6 by decide), if_neg (show ¬ (8 : Int32) = 7 by decide), if_pos (show (8 : Int32) = 8 from rfl), m2]
    · rw [fX11_count, if_neg (show ¬ (8 : Int32) = 0 by decide), if_neg (show ¬ (8 : Int32) = 1 by decide), if_neg (show ¬ (8 : Int32) = 2 by decide), if_neg (show ¬ (8 : Int32) = 3 by decide), if_neg (show ¬ (8 : Int32) = 4 by decide), if_neg (show ¬ (8 : Int32) = 5 by decide), if_neg (show ¬ (8 : Int32) = 6 by decide), if_neg (show ¬ (8 : Int32) = 7 by decide), if_pos (show (8 : Int32) = 8 from rfl), m3]
  by_cases q9 : p = 9
  · subst q9
    obtain ⟨rr, e1, e2⟩ := rows_same hi 9
    refine Ok.mk (r := rr) (r' := rr) (σ1 := σ) (σ2 := σ) ?_ ?_ rfl rfl
    · rw [fX10_count, if_neg (show ¬ (9 : Int32) = 0 by decide), if_neg (show ¬ (9 : Int32) = 1 by decide), if_neg (show ¬ (9 : Int32) = 2 by decide), if_neg (show ¬ (9 : Int32) = 3 by decide), if_neg (show ¬ (9 : Int32) = 4 by decide), if_neg (show ¬ (9 : Int32) = 5 by decide), if_neg (show ¬ (9 : Int32) = 6 by decide), if_neg (show ¬ (9 : Int32) = 7 by decide), if_neg (show ¬ (9 : Int32) = 8 by decide), if_pos (show (9 : Int32) = 9 from rfl), e1, bd_r]
    · rw [fX11_count, if_neg (show ¬ (9 : Int32) = 0 by decide), if_neg (show ¬ (9 : Int32) = 1 by decide), if_neg (show ¬ (9 : Int32) = 2 by decide), if_neg (show ¬ (9 : Int32) = 3 by decide), if_neg (show ¬ (9 : Int32) = 4 by decide), if_neg (show ¬ (9 : Int32) = 5 by decide), if_neg (show ¬ (9 : Int32) = 6 by decide), if_neg (show ¬ (9 : Int32) = 7 by decide), if_neg (show ¬ (9 : Int32) = 8 by decide), if_pos (show (9 : Int32) = 9 from rfl), e2]
  by_cases q10 : p = 10
  · subst q10
    rcases hd : dd D with _ | ⟨a, b⟩
    · refine Ok.mk (r := -1000000) (r' := -1000000) (σ1 := σ) (σ2 := σ) ?_ ?_ rfl rfl
      · rw [fX10_count, if_neg (show ¬ (10 : Int32) = 0 by decide), if_neg (show ¬ (10 : Int32) = 1 by decide), if_neg (show ¬ (10 : Int32) = 2 by decide), if_neg (show ¬ (10 : Int32) = 3 by decide), if_neg (show ¬ (10 : Int32) = 4 by decide), if_neg (show ¬ (10 : Int32) = 5 by decide), if_neg (show ¬ (10 : Int32) = 6 by decide), if_neg (show ¬ (10 : Int32) = 7 by decide), if_neg (show ¬ (10 : Int32) = 8 by decide), if_neg (show ¬ (10 : Int32) = 9 by decide), if_pos (show (10 : Int32) = 10 from rfl), bnd_r, h1, gg_t h4, (c.2.2.2.2.1 hd).1]
      · rw [fX11_count, if_neg (show ¬ (10 : Int32) = 0 by decide), if_neg (show ¬ (10 : Int32) = 1 by decide), if_neg (show ¬ (10 : Int32) = 2 by decide), if_neg (show ¬ (10 : Int32) = 3 by decide), if_neg (show ¬ (10 : Int32) = 4 by decide), if_neg (show ¬ (10 : Int32) = 5 by decide), if_neg (show ¬ (10 : Int32) = 6 by decide), if_neg (show ¬ (10 : Int32) = 7 by decide), if_neg (show ¬ (10 : Int32) = 8 by decide), if_neg (show ¬ (10 : Int32) = 9 by decide), if_pos (show (10 : Int32) = 10 from rfl), (r.2.2.2.2.2.2.1 hd).1, if_neg (by decide), fX11_count_218]
    · have dv := v.2.2.2.2 a b hd
      refine Ok.mk (r := nI a) (r' := nI a) (σ1 := σ) (σ2 := σ) ?_ ?_ rfl rfl
      · rw [fX10_count, if_neg (show ¬ (10 : Int32) = 0 by decide), if_neg (show ¬ (10 : Int32) = 1 by decide), if_neg (show ¬ (10 : Int32) = 2 by decide), if_neg (show ¬ (10 : Int32) = 3 by decide), if_neg (show ¬ (10 : Int32) = 4 by decide), if_neg (show ¬ (10 : Int32) = 5 by decide), if_neg (show ¬ (10 : Int32) = 6 by decide), if_neg (show ¬ (10 : Int32) = 7 by decide), if_neg (show ¬ (10 : Int32) = 8 by decide), if_neg (show ¬ (10 : Int32) = 9 by decide), if_pos (show (10 : Int32) = 10 from rfl), bnd_r, h1, gg_t h4, (c.2.2.2.2.2 a b hd).1]
      · rw [fX11_count, if_neg (show ¬ (10 : Int32) = 0 by decide), if_neg (show ¬ (10 : Int32) = 1 by decide), if_neg (show ¬ (10 : Int32) = 2 by decide), if_neg (show ¬ (10 : Int32) = 3 by decide), if_neg (show ¬ (10 : Int32) = 4 by decide), if_neg (show ¬ (10 : Int32) = 5 by decide), if_neg (show ¬ (10 : Int32) = 6 by decide), if_neg (show ¬ (10 : Int32) = 7 by decide), if_neg (show ¬ (10 : Int32) = 8 by decide), if_neg (show ¬ (10 : Int32) = 9 by decide), if_pos (show (10 : Int32) = 10 from rfl), (r.2.2.2.2.2.2.2 a b hd).1, if_pos (nI_pos' (by omega)), fX11_count_218]
  by_cases q11 : p = 11
  · subst q11
    rcases hd : dd D with _ | ⟨a, b⟩
    · refine Ok.mk (r := -1000000) (r' := -1000000) (σ1 := σ) (σ2 := σ) ?_ ?_ rfl rfl
      · rw [fX10_count, if_neg (show ¬ (11 : Int32) = 0 by decide), if_neg (show ¬ (11 : Int32) = 1 by decide), if_neg (show ¬ (11 : Int32) = 2 by decide), if_neg (show ¬ (11 : Int32) = 3 by decide), if_neg (show ¬ (11 : Int32) = 4 by decide), if_neg (show ¬ (11 : Int32) = 5 by decide), if_neg (show ¬ (11 : Int32) = 6 by decide), if_neg (show ¬ (11 : Int32) = 7 by decide), if_neg (show ¬ (11 : Int32) = 8 by decide), if_neg (show ¬ (11 : Int32) = 9 by decide), if_neg (show ¬ (11 : Int32) = 10 by decide), if_pos (show (11 : Int32) = 11 from rfl), bnd_r, h1, gg_t h4, (c.2.2.2.2.1 hd).2]
      · rw [fX11_count, if_neg (show ¬ (11 : Int32) = 0 by decide), if_neg (show ¬ (11 : Int32) = 1 by decide), if_neg (show ¬ (11 : Int32) = 2 by decide), if_neg (show ¬ (11 : Int32) = 3 by decide), if_neg (show ¬ (11 : Int32) = 4 by decide), if_neg (show ¬ (11 : Int32) = 5 by decide), if_neg (show ¬ (11 : Int32) = 6 by decide), if_neg (show ¬ (11 : Int32) = 7 by decide), if_neg (show ¬ (11 : Int32) = 8 by decide), if_neg (show ¬ (11 : Int32) = 9 by decide), if_neg (show ¬ (11 : Int32) = 10 by decide), if_pos (show (11 : Int32) = 11 from rfl), (r.2.2.2.2.2.2.1 hd).2, if_neg (by decide), fX11_count_235]
    · have dv := v.2.2.2.2 a b hd
      refine Ok.mk (r := nI b) (r' := nI b) (σ1 := σ) (σ2 := σ) ?_ ?_ rfl rfl
      · rw [fX10_count, if_neg (show ¬ (11 : Int32) = 0 by decide), if_neg (show ¬ (11 : Int32) = 1 by decide), if_neg (show ¬ (11 : Int32) = 2 by decide), if_neg (show ¬ (11 : Int32) = 3 by decide), if_neg (show ¬ (11 : Int32) = 4 by decide), if_neg (show ¬ (11 : Int32) = 5 by decide), if_neg (show ¬ (11 : Int32) = 6 by decide), if_neg (show ¬ (11 : Int32) = 7 by decide), if_neg (show ¬ (11 : Int32) = 8 by decide), if_neg (show ¬ (11 : Int32) = 9 by decide), if_neg (show ¬ (11 : Int32) = 10 by decide), if_pos (show (11 : Int32) = 11 from rfl), bnd_r, h1, gg_t h4, (c.2.2.2.2.2 a b hd).2]
      · rw [fX11_count, if_neg (show ¬ (11 : Int32) = 0 by decide), if_neg (show ¬ (11 : Int32) = 1 by decide), if_neg (show ¬ (11 : Int32) = 2 by decide), if_neg (show ¬ (11 : Int32) = 3 by decide), if_neg (show ¬ (11 : Int32) = 4 by decide), if_neg (show ¬ (11 : Int32) = 5 by decide), if_neg (show ¬ (11 : Int32) = 6 by decide), if_neg (show ¬ (11 : Int32) = 7 by decide), if_neg (show ¬ (11 : Int32) = 8 by decide), if_neg (show ¬ (11 : Int32) = 9 by decide), if_neg (show ¬ (11 : Int32) = 10 by decide), if_pos (show (11 : Int32) = 11 from rfl), (r.2.2.2.2.2.2.2 a b hd).2, if_pos (nI_pos' (by omega)), fX11_count_235]
  refine Ok.mk (r := -1000001) (r' := -1000001) (σ1 := σ) (σ2 := σ) ?_ ?_ rfl rfl
  · rw [fX10_count, if_neg q0, if_neg q1, if_neg q2, if_neg q3, if_neg q4, if_neg q5, if_neg q6, if_neg q7, if_neg q8, if_neg q9, if_neg q10, if_neg q11]
  · rw [fX11_count, if_neg q0, if_neg q1, if_neg q2, if_neg q3, if_neg q4, if_neg q5, if_neg q6, if_neg q7, if_neg q8, if_neg q9, if_neg q10, if_neg q11]
/-! the digest -/
theorem dig_row (h : iRows σ) : ∀ (k i fu fu' : Nat) (v : Int64), i + k = 8 → k < fu → k < fu' → ∃ r, fX10_digest_76 fu v (nI i) σ = some (r, σ) ∧ fX11_digest_64 fu' v (nI i) σ = some (r, σ) := by
  intro k
  induction k with
  | zero =>
    intro i fu fu' v e h1 h2
    obtain ⟨fu, rfl⟩ : ∃ y, fu = y + 1 := ⟨fu - 1, by omega⟩
    obtain ⟨fu', rfl⟩ : ∃ y, fu' = y + 1 := ⟨fu' - 1, by omega⟩
    refine ⟨v, ?_, ?_⟩
    · rw [fX10_digest_76, if_pos (show 8 ≤ nI i from nI_le (a := 8) (by omega) (by omega))]
    · rw [fX11_digest_64, if_pos (show 8 ≤ nI i from nI_le (a := 8) (by omega) (by omega))]
  | succ k ih =>
    intro i fu fu' v e h1 h2
    obtain ⟨fu, rfl⟩ : ∃ y, fu = y + 1 := ⟨fu - 1, by omega⟩
    obtain ⟨fu', rfl⟩ : ∃ y, fu' = y + 1 := ⟨fu' - 1, by omega⟩
    have cl : (nI i).toNatClampNeg = i := nI_clamp (by omega)
    rw [fX10_digest_76, if_neg (show ¬ 8 ≤ nI i from nI_ge (b := 8) (by omega) (by decide)), fX11_digest_64, if_neg (show ¬ 8 ≤ nI i from nI_ge (b := 8) (by omega) (by decide)), cl, gg_ix (by omega) (by decide), bnd_r, gg_ix (by omega) (by decide), bnd_r, fX7_mixedInto]
    rcases h.2 i (by omega) with ⟨r1, r2⟩ | ⟨r1, q, n, hq, hn, r2, r3, r4, r5, r6⟩
    · rw [r1, r2, i00, bd_r, bnd_r, nI_1]
      obtain ⟨r, e1, e2⟩ := ih (i + 1) fu fu' (31 * v) (by omega) (by omega) (by omega)
      refine ⟨r, e1, ?_⟩
      rw [fX11_digest_87, cl, gg_ix (by omega) (by decide), r2, show 31 * v + (0 : Int32).toInt64 = 31 * v from Int64.add_zero _]
      by_cases z : σ.1 230 i ≤ 0
      · rw [if_pos z, fX11_digest_133, bnd_r, nI_1]; exact e2
      · rw [if_neg z, gg_ix (by omega) (by decide), if_pos (show (0 : Int32) ≤ 0 by decide), fX11_digest_133, bnd_r, nI_1]; exact e2
    · rw [r1, r2, r3, i10, bnd_r, show 31 * v + (nI q).toInt64 + 1 = 31 * v + (nI (q + 1)).toInt64 from by rw [nI_l (by omega), nI_l (by omega), Int64.add_assoc, lN_1]]
      have items : ∀ (m j gu gu' : Nat) (u : Int64), j + m = n → m < gu → m < gu' → ∃ r, (bd (fX7_mixedInto_30 (152 + 2 * i) v gu u (nI j) σ) fun x5 σ6 => bnd (nI i + 1) fun x8 => fX10_digest_76 fu x5 x8 σ6) = some (r, σ) ∧ fX11_digest_87 (fun v1 v3 σ => fX11_digest_64 fu' v1 v3 σ) gu' u (nI i) (nI j) σ = some (r, σ) := by
        intro m
        induction m with
        | zero =>
          intro j gu gu' u e' g1 g2
          obtain ⟨gu, rfl⟩ : ∃ y, gu = y + 1 := ⟨gu - 1, by omega⟩
          obtain ⟨gu', rfl⟩ : ∃ y, gu' = y + 1 := ⟨gu' - 1, by omega⟩
          obtain ⟨r, e1, e2⟩ := ih (i + 1) fu fu' u (by omega) (by omega) (by omega)
          refine ⟨r, ?_, ?_⟩
          · rw [fX7_mixedInto_30, r4, if_pos (nI_le (by omega) (by omega)), bd_r, bnd_r, nI_1]; exact e1
          · rw [fX11_digest_87, cl, gg_ix (by omega) (by decide), r5, if_pos (nI_le (by omega) (by omega)), fX11_digest_133, bnd_r, nI_1]; exact e2
        | succ m ihm =>
          intro j gu gu' u e' g1 g2
          obtain ⟨gu, rfl⟩ : ∃ y, gu = y + 1 := ⟨gu - 1, by omega⟩
          obtain ⟨gu', rfl⟩ : ∃ y, gu' = y + 1 := ⟨gu' - 1, by omega⟩
          have r6' : σ.2.1 (152 + 2 * i + 1) j = σ.2.1 231 (300 * i + j) := by
            rw [show 152 + 2 * i + 1 = 153 + 2 * i by omega]
            exact r6 j (by omega)
          obtain ⟨r, e1, e2⟩ := ihm (j + 1) gu gu' (31 * u + σ.2.1 231 (300 * i + j)) (by omega) (by omega) (by omega)
          refine ⟨r, ?_, ?_⟩
          · rw [fX7_mixedInto_30, r4, if_neg (nI_ge (by omega) (by omega)), nI_clamp (show j < 2 ^ 31 by omega), gg_ix (by omega) (by decide), bnd_r, bnd_r (a := nI j + 1), nI_1, r6']; exact e1
          · rw [fX11_digest_87, cl, gg_ix (by omega) (by decide), r5, if_neg (nI_ge (by omega) (by omega)), gg_ix (by omega) (by decide), r3, if_neg (nI_nle (by omega) (by omega)), bnd_r, show 300 * nI i + nI j = nI (300 * i + j) from by rw [show (300 : Int32) = nI 300 from rfl, pk_mul, nI_add], nI_clamp (show 300 * i + j < 2 ^ 31 by omega), gg_ix (by omega) (by decide), bnd_r, bnd_r, nI_1]; exact e2
      exact items n 0 2000 2000 _ (by omega) (by omega) (by omega)
theorem digest_eq (h : LkD σ t D) (hi : iRows σ) : Ok (fX10_digest σ) (fX11_digest) (fun σ' => σ' = σ) := by
  have k := h.k
  obtain ⟨h4, h1, h2, w, v, c, r⟩ := h
  have wp := w.np
  have key : ∀ (m i fu fu' : Nat) (u : Int64), i + m = dP D → m < fu → m < fu' → ∃ r, fX10_digest_6 fu u (nI i) σ = some (r, σ) ∧ fX11_digest_6 fu' u (nI i) σ = some (r, σ) := by
    intro m
    induction m with
    | zero =>
      intro i fu fu' u e g1 g2
      obtain ⟨fu, rfl⟩ : ∃ y, fu = y + 1 := ⟨fu - 1, by omega⟩
      obtain ⟨fu', rfl⟩ : ∃ y, fu' = y + 1 := ⟨fu' - 1, by omega⟩
      obtain ⟨x, e1, e2⟩ := dig_row hi 8 0 2000 2000 u (by omega) (by omega) (by omega)
      refine ⟨x, ?_, ?_⟩
      · rw [fX10_digest_6, bnd_r, h1, gg_t h4, c.2.1, if_pos (nI_le (by omega) (by omega))]; exact e1
      · rw [fX11_digest_6, r.2.1, if_pos (nI_le (by omega) (by omega))]; exact e2
    | succ m ih =>
      intro i fu fu' u e g1 g2
      obtain ⟨fu, rfl⟩ : ∃ y, fu = y + 1 := ⟨fu - 1, by omega⟩
      obtain ⟨fu', rfl⟩ : ∃ y, fu' = y + 1 := ⟨fu' - 1, by omega⟩
      have hp : i < dP D := by omega
      obtain ⟨pm1, pm2⟩ := partM k (i := i) hp
      have k1 : σ.1 181 i = σ.1 (t + 1) i := (r.2.2.1 i hp).1.trans (c.2.2.1 i hp).1.symm
      have cl : (nI i).toNatClampNeg = i := nI_clamp (by omega)
      obtain ⟨x, e1, e2⟩ := ih (i + 1) fu fu' (31 * (31 * (31 * u + (σ.1 (t + 1) i).toInt64) + (σ.1 (t + 3) i).toInt64) + (σ.1 (t + 4) i).toInt64) (by omega) (by omega) (by omega)
      refine ⟨x, ?_, ?_⟩
      · rw [fX10_digest_6, bnd_r, h1, gg_t h4, c.2.1, if_neg (nI_ge (by omega) (by omega)), bnd_r, gg_t h4, cl, gg_ix (by omega) (by decide), bnd_r, bnd_r, gg_t h4, gg_ix (by omega) (by decide), bnd_r, bnd_r, gg_t h4, gg_ix (by omega) (by decide), bnd_r, bnd_r, nI_1]; exact e1
      · rw [fX11_digest_6, r.2.1, if_neg (nI_ge (by omega) (by omega)), cl, gg_ix (by omega) (by decide), bnd_r, pm1, bd_r, bnd_r, pm2, bd_r, bnd_r, bnd_r, nI_1, k1]; exact e2
  obtain ⟨x, e1, e2⟩ := key (dP D) 0 2000 2000 17 (by omega) (by omega) (by omega)
  exact Ok.mk (r := x) (r' := x) (σ1 := σ) (σ2 := σ) e1 e2 rfl rfl
end PUB1

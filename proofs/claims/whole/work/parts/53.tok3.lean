/-! next() of the class -/
section NX
variable {b : Nat → Nat} {m : Nat}
theorem nx52 {p s : Nat} (σ : gS) (ht : TP σ b m) (hr : runs spc b m p s) (hs : s ≤ m) (h4 : σ.1 1 4 = nI s) : Wp (fX6_next_52 σ) (fun _ σ' => ∃ k s e, TK b m p k s e ∧ CT σ' b k s e) := by
  have hm := ht.1
  have hc : (nI s).toNatClampNeg = s := nI_clamp (by omega)
  have t1 : TP (gsI σ 1 6 (σ.1 1 4)) b m := ht.gsI (by omega) (by omega) (by omega) (by omega) (by omega)
  have p1 : (gsI σ 1 6 (σ.1 1 4)).1 1 4 = nI s := by rw [rI_o (by omega)]; exact h4
  have q1 : (gsI σ 1 6 (σ.1 1 4)).1 1 6 = nI s := by rw [rI_s]; exact h4
  rw [fX6_next_52, bnd_r]
  generalize gsI σ 1 6 (σ.1 1 4) = τ at *
  rw [p1, t1.2.1]
  by_cases q : s < m
  · have g1 := g_ix (show s < 1200 by omega) (by decide)
    obtain ⟨d1, -, d2⟩ := t1.2.2.2.1 s q
    rw [if_pos (nI_lt q (by omega))]
    by_cases ql : ltr (b s)
    · rw [isLC_t t1 q ql, bd_r, i10, fX6_letters, bnd_r]
      refine wp_bw (letC (m - s) 2000 s _ (t1.gsI (by omega) (by omega) (by omega) (by omega) (by omega)) (by omega) (by omega) (Nat.le_refl _) (fun i z1 z2 => absurd z1 (by omega)) (by rw [rI_o (by omega)]; exact p1) (by rw [rI_o (by omega)]; exact q1) (fun _ => by rw [rI_s, Nat.sub_self]; rfl)) ?_
      rintro _ σ' ⟨e, a1, a2, a3, a4, a5⟩
      rw [fX6_next_162]
      refine wp_r ⟨_, s, e, ⟨hr, Or.inr (Or.inr (Or.inl ⟨q, ql, a1, rfl⟩))⟩, a2, a3, ?_⟩
      by_cases z : e - s ≤ 6
      · rw [if_pos z]
        exact ⟨fun y => absurd y (by decide), fun y => absurd y (by decide), fun y => absurd y (by decide), fun y => absurd y (by decide), fun _ => a5 z⟩
      · rw [if_neg z]
        exact ⟨fun y => absurd y (by decide), fun _ => a4 (by omega), fun y => absurd y (by decide), fun y => absurd y (by decide), fun y => absurd y (by decide)⟩
    · have fg : (b s = 45 ∨ fig (b s)) → Wp (fX6_next_122 τ) (fun _ σ' => ∃ k s e, TK b m p k s e ∧ CT σ' b k s e) := by
        intro hf
        have key : ∀ (v1 : Int32) (υ : gS) (f0 : Nat), f0 ≤ m → s ≤ f0 → TP υ b m → υ.1 1 4 = nI f0 → υ.1 1 6 = nI s → Wp (fX6_figures_34 v1 υ) (fun _ σ' => ∃ e, runs fig b m f0 e ∧ σ'.1 1 4 = nI e ∧ σ'.1 1 6 = nI s ∧ (1 ≤ e - f0 ∧ e - f0 ≤ 4 → σ'.1 1 5 = 4 ∧ σ'.1 1 7 = if v1 = 0 then nI (dg b f0 (e - f0)) else -nI (dg b f0 (e - f0))) ∧ (¬ (1 ≤ e - f0 ∧ e - f0 ≤ 4) → σ'.1 1 5 = 1)) := by
          intro v1 υ f0 z1 z2 z3 z4 z5
          rw [fX6_figures_34, bnd_r, z4]
          refine wp_m (figC (m - f0) 2000 f0 _ (z3.gsI (by omega) (by omega) (by omega) (by omega) (by omega)) (by omega) (by omega) (Nat.le_refl _) (fun i y1 y2 => absurd y1 (by omega)) (by rw [rI_o (by omega)]; exact z4) (fun _ => by rw [rI_s, Nat.sub_self]; rfl)) ?_
          rintro _ σ' ⟨e, a1, a2, a3, a4⟩
          rw [rI_o (by omega)] at a3
          exact ⟨e, a1, a2, a3.trans z5, a4⟩
        rw [fX6_next_122, fX6_figures, p1, gg_t g1, hc, d2]
        by_cases h45 : b s = 45
        · have e45 : fs b s = s + 1 := if_pos h45
          rw [if_pos (show b8 (b s) = 45 from (b8_eq d1 (v := 45) (by decide)).mpr h45), fX6_figures_19, i10, bnd_r, p1, nI_1]
          refine wp_bw (key 1 _ (s + 1) (by omega) (by omega) (t1.gsI (by omega) (by omega) (by omega) (by omega) (by omega)) rI_s (by rw [rI_o (by omega)]; exact q1)) ?_
          rintro _ σ' ⟨e, a1, a2, a3, a4, a5⟩
          rw [fX6_next_162]
          refine wp_r ⟨_, s, e, ⟨hr, Or.inr (Or.inr (Or.inr (Or.inl ⟨q, hf, by rw [e45]; exact a1, rfl⟩)))⟩, a2, a3, ?_⟩
          rw [e45]
          by_cases z : 1 ≤ e - (s + 1) ∧ e - (s + 1) ≤ 4
          · rw [if_pos z]
            have d4 := dg4 (b := b) (s := s + 1) z.2 (fun i y1 y2 => (a1.2.1 i y1 (by omega)).2)
            refine ⟨fun y => absurd y (by decide), fun y => absurd y (by decide), fun y => absurd y (by decide), fun _ => ⟨(a4 z).1, ?_⟩, fun y => absurd y (by decide)⟩
            rw [(a4 z).2, if_neg (by decide), neg32 (by rw [nI_toInt (by omega)]; omega), nI_toInt (by omega), numV, if_pos h45]
          · rw [if_neg z]
            exact ⟨fun y => absurd y (by decide), fun _ => a5 z, fun y => absurd y (by decide), fun y => absurd y (by decide), fun y => absurd y (by decide)⟩
        · have e45 : fs b s = s := if_neg h45
          rw [if_neg (show ¬ b8 (b s) = 45 from fun z => h45 ((b8_eq d1 (v := 45) (by decide)).mp z)), fX6_figures_19, i00]
          refine wp_bw (key 0 _ s (by omega) (by omega) t1 p1 q1) ?_
          rintro _ σ' ⟨e, a1, a2, a3, a4, a5⟩
          rw [fX6_next_162]
          refine wp_r ⟨_, s, e, ⟨hr, Or.inr (Or.inr (Or.inr (Or.inl ⟨q, hf, by rw [e45]; exact a1, rfl⟩)))⟩, a2, a3, ?_⟩
          rw [e45]
          by_cases z : 1 ≤ e - s ∧ e - s ≤ 4
          · rw [if_pos z]
            have d4 := dg4 (b := b) (s := s) z.2 (fun i y1 y2 => (a1.2.1 i y1 (by omega)).2)
            refine ⟨fun y => absurd y (by decide), fun y => absurd y (by decide), fun y => absurd y (by decide), fun _ => ⟨(a4 z).1, ?_⟩, fun y => absurd y (by decide)⟩
            rw [(a4 z).2, if_pos rfl, nI_toInt (by omega), numV, if_neg h45]
          · rw [if_neg z]
            exact ⟨fun y => absurd y (by decide), fun _ => a5 z, fun y => absurd y (by decide), fun y => absurd y (by decide), fun y => absurd y (by decide)⟩
      rw [isLC_f t1 q ql, bd_r, i00, p1]
      by_cases qf : fig (b s)
      · rw [isFC_t t1 q qf, bd_r, i10]
        exact fg (Or.inr qf)
      · rw [isFC_f t1 q qf, bd_r, i00, p1, gg_t g1, hc, d2]
        by_cases h45 : b s = 45
        · rw [if_pos (show b8 (b s) = 45 from (b8_eq d1 (v := 45) (by decide)).mpr h45)]
          exact fg (Or.inl h45)
        · rw [if_neg (show ¬ b8 (b s) = 45 from fun z => h45 ((b8_eq d1 (v := 45) (by decide)).mp z)), gg_t (by rw [hc] at g1; exact g1)]
          by_cases h59 : b s = 59
          · rw [if_pos (show b8 (b s) = 59 from (b8_eq d1 (v := 59) (by decide)).mpr h59), fX6_next_149, bnd_r, bnd_r, rI_o (by omega), p1, nI_1, fX6_next_162]
            refine wp_r ⟨5, s, s + 1, ⟨hr, Or.inr (Or.inl ⟨q, h59, rfl, rfl⟩)⟩, rI_s, ?_, fun y => absurd y (by decide), fun y => absurd y (by decide), fun _ => ?_, fun y => absurd y (by decide), fun y => absurd y (by decide)⟩
            · rw [rI_o (by omega), rI_o (by omega)]; exact q1
            · rw [rI_o (by omega), rI_s]
          · rw [if_neg (show ¬ b8 (b s) = 59 from fun z => h59 ((b8_eq d1 (v := 59) (by decide)).mp z)), fX6_next_149, bnd_r, bnd_r, rI_o (by omega), p1, nI_1, fX6_next_162]
            refine wp_r ⟨1, s, s + 1, ⟨hr, Or.inr (Or.inr (Or.inr (Or.inr ⟨q, h59, ql, h45, qf, rfl, rfl⟩)))⟩, rI_s, ?_, fun y => absurd y (by decide), fun _ => ?_, fun y => absurd y (by decide), fun y => absurd y (by decide), fun y => absurd y (by decide)⟩
            · rw [rI_o (by omega), rI_o (by omega)]; exact q1
            · rw [rI_o (by omega), rI_s]
  · rw [if_neg (nI_nlt (by omega) (by omega)), bnd_r, fX6_next_162]
    refine wp_r ⟨0, s, s, ⟨hr, Or.inl ⟨by omega, rfl, rfl⟩⟩, ?_, ?_, fun _ => rI_s, fun y => absurd y (by decide), fun y => absurd y (by decide), fun y => absurd y (by decide), fun y => absurd y (by decide)⟩
    · rw [rI_o (by omega)]; exact p1
    · rw [rI_o (by omega)]; exact q1
theorem spC {p0 : Nat} : ∀ (k f p : Nat) (σ : gS), TP σ b m → p + k = m → k < f → p0 ≤ p → (∀ i, p0 ≤ i → i < p → i < m ∧ spc (b i)) → σ.1 1 4 = nI p → Wp (fX6_next_0 f σ) (fun _ σ' => ∃ k s e, TK b m p0 k s e ∧ CT σ' b k s e) := by
  intro k
  induction k with
  | zero =>
    intro f p σ ht h1 h2 h3 h4 h5
    obtain ⟨f, rfl⟩ : ∃ y, f = y + 1 := ⟨f - 1, by omega⟩
    have hm := ht.1
    rw [fX6_next_0, ht.2.1, h5, if_pos (nI_le (by omega) (by omega))]
    exact nx52 σ ht ⟨h3, h4, by omega⟩ (by omega) h5
  | succ k ih =>
    intro f p σ ht h1 h2 h3 h4 h5
    obtain ⟨f, rfl⟩ : ∃ y, f = y + 1 := ⟨f - 1, by omega⟩
    have hm := ht.1
    have hc : (nI p).toNatClampNeg = p := nI_clamp (by omega)
    obtain ⟨d1, -, d2⟩ := ht.2.2.2.1 p (by omega)
    have g1 := g_ix (show p < 1200 by omega) (by decide)
    have on : spc (b p) → Wp (fX6_next_39 (fun σ => fX6_next_0 f σ) σ) (fun _ σ' => ∃ k s e, TK b m p0 k s e ∧ CT σ' b k s e) := by
      intro hs
      rw [fX6_next_39, bnd_r, h5, nI_1]
      refine ih f (p + 1) _ (ht.gsI (by omega) (by omega) (by omega) (by omega) (by omega)) (by omega) (by omega) (by omega) (fun i z1 z2 => ?_) rI_s
      rcases Nat.lt_or_ge i p with y | y
      · exact h4 i z1 y
      · have : i = p := by omega
        subst this
        exact ⟨by omega, hs⟩
    rw [fX6_next_0, ht.2.1, h5, if_neg (nI_ge (by omega) (by omega)), gg_t g1, hc, d2]
    by_cases q1 : b p = 32
    · rw [if_pos (show b8 (b p) = 32 from (b8_eq d1 (v := 32) (by decide)).mpr q1)]
      exact on (Or.inl q1)
    · rw [if_neg (show ¬ b8 (b p) = 32 from fun z => q1 ((b8_eq d1 (v := 32) (by decide)).mp z)), gg_t (by rw [hc] at g1; exact g1)]
      by_cases q2 : b p = 10
      · rw [if_pos (show b8 (b p) = 10 from (b8_eq d1 (v := 10) (by decide)).mpr q2)]
        exact on (Or.inr q2)
      · rw [if_neg (show ¬ b8 (b p) = 10 from fun z => q2 ((b8_eq d1 (v := 10) (by decide)).mp z))]
        exact nx52 σ ht ⟨h3, h4, fun z => z.2.elim q1 q2⟩ (by omega) h5
theorem nextC {p : Nat} (σ : gS) (ht : TP σ b m) (hp : p ≤ m) (h4 : σ.1 1 4 = nI p) : Wp (fX6_next σ) (fun _ σ' => (∃ k s e, TK b m p k s e ∧ CT σ' b k s e) ∧ ∀ x y, ¬ (x = 1 ∧ 4 ≤ y ∧ y ≤ 7) → sm σ σ' x y) := by
  have hm := ht.1
  obtain ⟨r, σ', e, h⟩ := spC (p0 := p) (m - p) 2000 p σ ht (by omega) (by omega) (Nat.le_refl _) (fun i z1 z2 => absurd z1 (by omega)) h4
  exact ⟨r, σ', e, h, fun x y q => wX6_next (by omega) (by omega) (by omega) (by omega) e⟩
end NX

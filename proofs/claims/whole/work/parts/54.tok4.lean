/-! next() of the reference -/
section NXM
variable {b : Nat → Nat} {m : Nat}
theorem letM {s : Nat} : ∀ (k f p : Nat) (σ : gS), TPr σ b m → p + k = m → k + 1 < f → s ≤ p → (∀ i, s ≤ i → i < p → i < m ∧ ltr (b i)) → σ.1 168 44 = nI p → σ.1 168 46 = nI s → (p - s ≤ 6 → σ.2.1 168 47 = lN (c256 (seg b s (p - s)))) → Wp (fX11_next_92 f σ) (fun _ σ' => ∃ e, runs ltr b m s e ∧ σ'.1 168 44 = nI e ∧ σ'.1 168 46 = nI s ∧ (6 < e - s → σ'.1 168 45 = 5) ∧ (e - s ≤ 6 → isNm (seg b s (e - s)) ∧ σ'.2.1 168 47 = lN (c256 (seg b s (e - s))) ∧ ((∃ w, w < 12 ∧ seg b s (e - s) = WL w ∧ σ'.1 168 45 = 1 ∧ σ'.1 168 51 = nI (rwW w)) ∨ ((∀ w, w < 12 → seg b s (e - s) ≠ WL w) ∧ σ'.1 168 45 = 2)))) := by
  have fin : ∀ (f e : Nat) (σ : gS), TPr σ b m → s ≤ e → e ≤ m → ¬ (e < m ∧ ltr (b e)) → (∀ i, s ≤ i → i < e → i < m ∧ ltr (b i)) → σ.1 168 44 = nI e → σ.1 168 46 = nI s → (e - s ≤ 6 → σ.2.1 168 47 = lN (c256 (seg b s (e - s)))) → Wp (fX11_next_92 (f + 1) σ) (fun _ σ' => ∃ e, runs ltr b m s e ∧ σ'.1 168 44 = nI e ∧ σ'.1 168 46 = nI s ∧ (6 < e - s → σ'.1 168 45 = 5) ∧ (e - s ≤ 6 → isNm (seg b s (e - s)) ∧ σ'.2.1 168 47 = lN (c256 (seg b s (e - s))) ∧ ((∃ w, w < 12 ∧ seg b s (e - s) = WL w ∧ σ'.1 168 45 = 1 ∧ σ'.1 168 51 = nI (rwW w)) ∨ ((∀ w, w < 12 → seg b s (e - s) ≠ WL w) ∧ σ'.1 168 45 = 2)))) := by
    intro f e σ ht h1 h2 h3 h4 h5 h6 h7
    have hm := ht.1
    have hr : runs ltr b m s e := ⟨h1, h4, h3⟩
    obtain ⟨r, hw, hw1, hw2⟩ := wordM (σ.2.1 168 47) σ
    rw [fX11_next_92, isLM_f ht h5 h2 h3, bd_r, i00, hw, bd_r, bnd_r, rI_o (by decide), rI_o (by decide), h5, h6, pk_sub h1]
    by_cases q : e - s ≤ 6
    · have hn : isNm (seg b s (e - s)) := ⟨seg_l _ (fun i y1 y2 => (h4 i y1 (by omega)).2), by rw [seg_len]; exact q⟩
      rw [if_pos (show nI (e - s) ≤ 6 from nI_le (b := 6) q (by decide)), rI_s]
      by_cases hx : ∃ w, w < 12 ∧ seg b s (e - s) = WL w
      · obtain ⟨w, w1, w2⟩ := hx
        have er := hw1 w w1 (by rw [h7 q, w2])
        rw [er, if_neg (nI_nle (by rcases k12 w1 with rfl | rfl | rfl | rfl | rfl | rfl | rfl | rfl | rfl | rfl | rfl | rfl <;> decide) (by rcases k12 w1 with rfl | rfl | rfl | rfl | rfl | rfl | rfl | rfl | rfl | rfl | rfl | rfl <;> decide)), fX11_next_192, bnd_r, fX11_next_359]
        refine wp_r ⟨e, hr, ?_, ?_, fun y => absurd y (by omega), fun _ => ⟨hn, h7 q, Or.inl ⟨w, w1, w2, rI_s, ?_⟩⟩⟩
        · rw [rI_o (by omega), rI_o (by omega)]; exact h5
        · rw [rI_o (by omega), rI_o (by omega)]; exact h6
        · rw [rI_o (by omega), rI_s]
      · have er := hw2 (fun w w1 y => hx ⟨w, w1, (nm256 hn (WL_nm w1)).mp ((h7 q).symm.trans y)⟩)
        rw [er, if_pos (by decide), fX11_next_192, bnd_r, fX11_next_359]
        refine wp_r ⟨e, hr, ?_, ?_, fun y => absurd y (by omega), fun _ => ⟨hn, h7 q, Or.inr ⟨fun w w1 y => hx ⟨w, w1, y⟩, rI_s⟩⟩⟩
        · rw [rI_o (by omega), rI_o (by omega)]; exact h5
        · rw [rI_o (by omega), rI_o (by omega)]; exact h6
    · rw [if_neg (show ¬ nI (e - s) ≤ 6 from nI_ge (a := 6) (by omega) (by omega)), fX11_next_192, bnd_r, fX11_next_359]
      refine wp_r ⟨e, hr, ?_, ?_, fun _ => rI_s, fun y => absurd y q⟩
      · rw [rI_o (by omega), rI_o (by omega)]; exact h5
      · rw [rI_o (by omega), rI_o (by omega)]; exact h6
  intro k
  induction k with
  | zero =>
    intro f p σ ht h1 h2 h3 h4 h5 h6 h7
    obtain ⟨f, rfl⟩ : ∃ y, f = y + 1 := ⟨f - 1, by omega⟩
    exact fin f p σ ht h3 (by omega) (by omega) h4 h5 h6 h7
  | succ k ih =>
    intro f p σ ht h1 h2 h3 h4 h5 h6 h7
    obtain ⟨f, rfl⟩ : ∃ y, f = y + 1 := ⟨f - 1, by omega⟩
    have hm := ht.1
    by_cases q : ltr (b p)
    · have h4' : ∀ i, s ≤ i → i < p + 1 → i < m ∧ ltr (b i) := fun i z1 z2 => by
        rcases Nat.lt_or_ge i p with y | y
        · exact h4 i z1 y
        · have : i = p := by omega
          subst this
          exact ⟨by omega, q⟩
      obtain ⟨d1, -, -⟩ := ht.2.2.2.1 p (by omega)
      rw [fX11_next_92, isLM_t ht h5 (by omega) ⟨by omega, q⟩, bd_r, i10, h5, h6, pk_sub h3]
      by_cases z : 6 ≤ p - s
      · rw [if_pos (show 6 ≤ nI (p - s) from nI_le (a := 6) z (by omega)), fX11_next_134, bnd_r, bnd_r, gsJ_1, h5, nI_1]
        refine ih f (p + 1) _ ((TPr.gsJ ht).gsI (by omega) (by omega) (by omega) (by omega) (by omega)) (by omega) (by omega) (by omega) h4' rI_s ?_ (fun y => absurd y (by omega))
        rw [rI_o (by omega)]; exact h6
      · have hn : isNm (seg b s (p - s)) := ⟨seg_l _ (fun i y1 y2 => (h4 i y1 (by omega)).2), by rw [seg_len]; omega⟩
        have c48 := c256_63 hn
        rw [if_neg (show ¬ 6 ≤ nI (p - s) from nI_ge (b := 6) (by omega) (by decide)), lookM ht h5 (by omega), bd_r, if_pos (show p < m by omega), h7 (by omega), or8 c48 d1, fX11_next_134, bnd_r, bnd_r, gsJ_1, h5, nI_1]
        refine ih f (p + 1) _ ((TPr.gsJ ht).gsI (by omega) (by omega) (by omega) (by omega) (by omega)) (by omega) (by omega) (by omega) h4' rI_s ?_ (fun y => ?_)
        · rw [rI_o (by omega)]; exact h6
        · rw [gsI_2, rJ_s, show p + 1 - s = (p - s) + 1 by omega, seg, c256, show s + (p - s) = p by omega]
    · exact fin f p σ ht h3 (by omega) (fun y => q y.2) h4 h5 h6 h7
theorem figM {f0 : Nat} {v2 : Int32} : ∀ (k f p : Nat) (v : Int32) (σ : gS), TPr σ b m → p + k = m → k + 1 < f → f0 ≤ p → (∀ i, f0 ≤ i → i < p → i < m ∧ fig (b i)) → σ.1 168 44 = nI p → (p - f0 ≤ 4 → v = nI (dg b f0 (p - f0))) → Wp (fX11_next_249 f v2 (nI f0) v σ) (fun _ σ' => ∃ e, runs fig b m f0 e ∧ σ'.1 168 44 = nI e ∧ σ'.1 168 46 = σ.1 168 46 ∧ (1 ≤ e - f0 ∧ e - f0 ≤ 4 → σ'.1 168 45 = 3 ∧ σ'.1 168 48 = if v2 = 0 then nI (dg b f0 (e - f0)) else -nI (dg b f0 (e - f0))) ∧ (¬ (1 ≤ e - f0 ∧ e - f0 ≤ 4) → σ'.1 168 45 = 5)) := by
  have f312 : ∀ (e : Nat) (v : Int32) (σ : gS), f0 ≤ e → e ≤ 1200 → σ.1 168 44 = nI e → runs fig b m f0 e → (e - f0 ≤ 4 → v = if v2 = 0 then nI (dg b f0 (e - f0)) else -nI (dg b f0 (e - f0))) → Wp (fX11_next_312 (nI f0) v σ) (fun _ σ' => ∃ e, runs fig b m f0 e ∧ σ'.1 168 44 = nI e ∧ σ'.1 168 46 = σ.1 168 46 ∧ (1 ≤ e - f0 ∧ e - f0 ≤ 4 → σ'.1 168 45 = 3 ∧ σ'.1 168 48 = if v2 = 0 then nI (dg b f0 (e - f0)) else -nI (dg b f0 (e - f0))) ∧ (¬ (1 ≤ e - f0 ∧ e - f0 ≤ 4) → σ'.1 168 45 = 5)) := by
    intro e v σ h1 h2 h5 hr h7
    rw [fX11_next_312, bnd_r, rI_o (by decide), h5, pk_sub h1]
    by_cases z : 1 ≤ e - f0 ∧ e - f0 ≤ 4
    · rw [in_t (by rw [l32, nI_toInt (by omega), show (1 : Int64).toInt = 1 from rfl, show (4 : Int64).toInt = 4 from rfl]; omega), bd_r, i10, fX11_next_338, bnd_r, fX11_next_359]
      refine wp_r ⟨e, hr, ?_, ?_, fun _ => ⟨rI_s, ?_⟩, fun y => absurd z y⟩
      · rw [rI_o (by omega), rI_o (by omega)]; exact h5
      · rw [rI_o (by omega), rI_o (by omega)]
      · rw [rI_o (by omega), rI_s]; exact h7 z.2
    · rw [in_f (by rw [l32, nI_toInt (by omega), show (1 : Int64).toInt = 1 from rfl, show (4 : Int64).toInt = 4 from rfl]; omega), bd_r, i00, fX11_next_338, bnd_r, fX11_next_359]
      refine wp_r ⟨e, hr, ?_, ?_, fun y => absurd y z, fun _ => rI_s⟩
      · rw [rI_o (by omega), rI_o (by omega)]; exact h5
      · rw [rI_o (by omega), rI_o (by omega)]
  have fin : ∀ (f e : Nat) (v : Int32) (σ : gS), TPr σ b m → f0 ≤ e → e ≤ m → ¬ (e < m ∧ fig (b e)) → (∀ i, f0 ≤ i → i < e → i < m ∧ fig (b i)) → σ.1 168 44 = nI e → (e - f0 ≤ 4 → v = nI (dg b f0 (e - f0))) → Wp (fX11_next_249 (f + 1) v2 (nI f0) v σ) (fun _ σ' => ∃ e, runs fig b m f0 e ∧ σ'.1 168 44 = nI e ∧ σ'.1 168 46 = σ.1 168 46 ∧ (1 ≤ e - f0 ∧ e - f0 ≤ 4 → σ'.1 168 45 = 3 ∧ σ'.1 168 48 = if v2 = 0 then nI (dg b f0 (e - f0)) else -nI (dg b f0 (e - f0))) ∧ (¬ (1 ≤ e - f0 ∧ e - f0 ≤ 4) → σ'.1 168 45 = 5)) := by
    intro f e v σ ht h1 h2 h3 h4 h5 h7
    have hm := ht.1
    rw [fX11_next_249, isFM_f ht h5 h2 h3, bd_r, i00]
    by_cases z : v2 = 0
    · rw [if_pos z]
      exact f312 e v σ h1 (by omega) h5 ⟨h1, h4, h3⟩ (fun y => by rw [if_pos z]; exact h7 y)
    · rw [if_neg z]
      exact f312 e (-v) σ h1 (by omega) h5 ⟨h1, h4, h3⟩ (fun y => by rw [if_neg z, h7 y])
  intro k
  induction k with
  | zero =>
    intro f p v σ ht h1 h2 h3 h4 h5 h7
    obtain ⟨f, rfl⟩ : ∃ y, f = y + 1 := ⟨f - 1, by omega⟩
    exact fin f p v σ ht h3 (by omega) (by omega) h4 h5 h7
  | succ k ih =>
    intro f p v σ ht h1 h2 h3 h4 h5 h7
    obtain ⟨f, rfl⟩ : ∃ y, f = y + 1 := ⟨f - 1, by omega⟩
    have hm := ht.1
    by_cases q : fig (b p)
    · have h4' : ∀ i, f0 ≤ i → i < p + 1 → i < m ∧ fig (b i) := fun i z1 z2 => by
        rcases Nat.lt_or_ge i p with y | y
        · exact h4 i z1 y
        · have : i = p := by omega
          subst this
          exact ⟨by omega, q⟩
      obtain ⟨d1, -, -⟩ := ht.2.2.2.1 p (by omega)
      have fr : ∀ w : Int32, (gsI σ 168 44 w).1 168 46 = σ.1 168 46 := fun w => rI_o (by omega)
      rw [fX11_next_249, isFM_t ht h5 (by omega) ⟨by omega, q⟩, bd_r, i10, h5, pk_sub h3]
      by_cases z : 4 ≤ p - f0
      · rw [if_pos (show 4 ≤ nI (p - f0) from nI_le (a := 4) z (by omega)), fX11_next_284, bnd_r, h5, nI_1]
        have r := ih f (p + 1) v (gsI σ 168 44 (nI (p + 1))) (ht.gsI (by omega) (by omega) (by omega) (by omega) (by omega)) (by omega) (by omega) (by omega) h4' rI_s (fun y => absurd y (by omega))
        rw [fr] at r
        exact r
      · have d4 := dg4 (b := b) (s := f0) (k := p - f0) (by omega) (fun i y1 y2 => (h4 i y1 (by omega)).2)
        unfold fig at q
        rw [if_neg (show ¬ 4 ≤ nI (p - f0) from nI_ge (b := 4) (by omega) (by decide)), lookM ht h5 (by omega), bd_r, if_pos (show p < m by omega), fX11_next_284, bnd_r, h5, nI_1]
        have r := ih f (p + 1) (10 * v + nI (b p) - 48) (gsI σ 168 44 (nI (p + 1))) (ht.gsI (by omega) (by omega) (by omega) (by omega) (by omega)) (by omega) (by omega) (by omega) h4' rI_s (fun y => by
          rw [h7 (by omega), show p + 1 - f0 = (p - f0) + 1 by omega, dg, show f0 + (p - f0) = p by omega, show (10 : Int32) = nI 10 from rfl, show (48 : Int32) = nI 48 from rfl, pk_mul, nI_add, pk_sub (by omega)]
          congr 1
          omega)
        rw [fr] at r
        exact r
    · exact fin f p v σ ht h3 (by omega) (fun y => q y.2) h4 h5 h7
theorem spM {p0 : Nat} : ∀ (k f p : Nat) (σ : gS), TPr σ b m → p + k = m → k < f → p0 ≤ p → (∀ i, p0 ≤ i → i < p → i < m ∧ spc (b i)) → σ.1 168 44 = nI p → Wp (fX11_next_0 f σ) (fun _ σ' => ∃ k s e, TK b m p0 k s e ∧ RT σ' b k s e) := by
  have rest : ∀ (s : Nat) (τ : gS), TPr τ b m → s ≤ m → runs spc b m p0 s → τ.1 168 44 = nI s → τ.1 168 46 = nI s → ∀ (f : Nat) (σ : gS), ¬ (s < m ∧ spc (b s)) → gsI σ 168 46 (σ.1 168 44) = τ → TPr σ b m → σ.1 168 44 = nI s → Wp (fX11_next_0 (f + 1) σ) (fun _ σ' => ∃ k s e, TK b m p0 k s e ∧ RT σ' b k s e) := by
    intro s τ t1 hs hr p1 q1 f σ hns hτ ht h5
    have hm := ht.1
    have lk := lookM ht h5 hs
    have ns : ∀ v : Nat, (v = 32 ∨ v = 10) → ¬ (if s < m then nI (b s) else -1) = nI v := by
      intro v hv z
      by_cases q : s < m
      · obtain ⟨d1, -, -⟩ := ht.2.2.2.1 s q
        rw [if_pos q] at z
        have := (nI_eq (by omega) (by omega)).mp z
        exact hns ⟨q, by unfold spc; omega⟩
      · rw [if_neg q] at z
        rcases hv with rfl | rfl <;> exact absurd z (by decide)
    rw [fX11_next_0, lk, bd_r, if_neg (show ¬ (if s < m then nI (b s) else -1) = (32 : Int32) from ns 32 (Or.inl rfl)), lk, bd_r, if_neg (show ¬ (if s < m then nI (b s) else -1) = (10 : Int32) from ns 10 (Or.inr rfl)), bnd_r, hτ, lookM t1 p1 hs, bd_r]
    by_cases q : s < m
    · obtain ⟨d1, -, -⟩ := t1.2.2.2.1 s q
      rw [if_pos q, if_pos (nI_pos' (by omega))]
      have fg : (b s = 45 ∨ fig (b s)) → ¬ ltr (b s) → Wp (fX11_next_211 (nI (b s)) τ) (fun _ σ' => ∃ k s e, TK b m p0 k s e ∧ RT σ' b k s e) := by
        intro hf hl
        rw [fX11_next_211]
        by_cases h45 : b s = 45
        · have e45 : fs b s = s + 1 := if_pos h45
          rw [if_pos (show nI (b s) = 45 from (nI_eq (b := 45) (by omega) (by decide)).mpr h45), fX11_next_222, i10, fX11_next_237, bnd_r, p1, nI_1, rI_s]
          refine wp_m (figM (b := b) (m := m) (f0 := s + 1) (m - (s + 1)) 2000 (s + 1) 0 _ (t1.gsI (by omega) (by omega) (by omega) (by omega) (by omega)) (by omega) (by omega) (Nat.le_refl _) (fun i y1 y2 => absurd y1 (by omega)) rI_s (fun _ => by rw [Nat.sub_self]; rfl)) ?_
          rintro _ σ' ⟨e, a1, a2, a3, a4, a5⟩
          rw [rI_o (by omega)] at a3
          refine ⟨_, s, e, ⟨hr, Or.inr (Or.inr (Or.inr (Or.inl ⟨q, hf, by rw [e45]; exact a1, rfl⟩)))⟩, a2, a3.trans q1, ?_⟩
          rw [e45]
          by_cases z : 1 ≤ e - (s + 1) ∧ e - (s + 1) ≤ 4
          · rw [if_pos z]
            have d4 := dg4 (b := b) (s := s + 1) z.2 (fun i y1 y2 => (a1.2.1 i y1 (by omega)).2)
            refine ⟨fun y => absurd y (by decide), fun y => absurd y (by decide), fun y => absurd y (by decide), fun _ => ⟨(a4 z).1, ?_⟩, fun y => absurd y (by decide)⟩
            rw [(a4 z).2, if_neg (by decide), neg32 (by rw [nI_toInt (by omega)]; omega), nI_toInt (by omega), numV, if_pos h45]
          · rw [if_neg z]
            exact ⟨fun y => absurd y (by decide), fun _ => a5 z, fun y => absurd y (by decide), fun y => absurd y (by decide), fun y => absurd y (by decide)⟩
        · have e45 : fs b s = s := if_neg h45
          rw [if_neg (show ¬ nI (b s) = 45 from fun z => h45 ((nI_eq (b := 45) (by omega) (by decide)).mp z)), fX11_next_222, i00, fX11_next_237, bnd_r, p1, show nI s + 0 = nI s from by rw [show (0 : Int32) = nI 0 from rfl, nI_add]; rfl, rI_s]
          refine wp_m (figM (b := b) (m := m) (f0 := s) (m - s) 2000 s 0 _ (t1.gsI (by omega) (by omega) (by omega) (by omega) (by omega)) (by omega) (by omega) (Nat.le_refl _) (fun i y1 y2 => absurd y1 (by omega)) rI_s (fun _ => by rw [Nat.sub_self]; rfl)) ?_
          rintro _ σ' ⟨e, a1, a2, a3, a4, a5⟩
          rw [rI_o (by omega)] at a3
          refine ⟨_, s, e, ⟨hr, Or.inr (Or.inr (Or.inr (Or.inl ⟨q, hf, by rw [e45]; exact a1, rfl⟩)))⟩, a2, a3.trans q1, ?_⟩
          rw [e45]
          by_cases z : 1 ≤ e - s ∧ e - s ≤ 4
          · rw [if_pos z]
            have d4 := dg4 (b := b) (s := s) z.2 (fun i y1 y2 => (a1.2.1 i y1 (by omega)).2)
            refine ⟨fun y => absurd y (by decide), fun y => absurd y (by decide), fun y => absurd y (by decide), fun _ => ⟨(a4 z).1, ?_⟩, fun y => absurd y (by decide)⟩
            rw [(a4 z).2, if_pos rfl, nI_toInt (by omega), numV, if_neg h45]
          · rw [if_neg z]
            exact ⟨fun y => absurd y (by decide), fun _ => a5 z, fun y => absurd y (by decide), fun y => absurd y (by decide), fun y => absurd y (by decide)⟩
      by_cases h59 : b s = 59
      · rw [if_pos (show nI (b s) = 59 from (nI_eq (b := 59) (by omega) (by decide)).mpr h59), bnd_r, bnd_r, rI_o (by omega), p1, nI_1, fX11_next_359]
        refine wp_r ⟨5, s, s + 1, ⟨hr, Or.inr (Or.inl ⟨q, h59, rfl, rfl⟩)⟩, rI_s, ?_, fun y => absurd y (by decide), fun y => absurd y (by decide), fun _ => ?_, fun y => absurd y (by decide), fun y => absurd y (by decide)⟩
        · rw [rI_o (by omega), rI_o (by omega)]; exact q1
        · rw [rI_o (by omega), rI_s]
      · rw [if_neg (show ¬ nI (b s) = 59 from fun z => h59 ((nI_eq (b := 59) (by omega) (by decide)).mp z))]
        by_cases ql : ltr (b s)
        · rw [isLM_t t1 p1 hs ⟨q, ql⟩, bd_r, i10, bnd_r]
          refine wp_m (letM (b := b) (m := m) (s := s) (m - s) 2000 s _ (TPr.gsJ t1) (by omega) (by omega) (Nat.le_refl _) (fun i z1 z2 => absurd z1 (by omega)) p1 q1 (fun _ => by rw [rJ_s, Nat.sub_self]; rfl)) ?_
          rintro _ σ' ⟨e, a1, a2, a3, a4, a5⟩
          refine ⟨_, s, e, ⟨hr, Or.inr (Or.inr (Or.inl ⟨q, ql, a1, rfl⟩))⟩, a2, a3, ?_⟩
          by_cases z : e - s ≤ 6
          · rw [if_pos z]
            exact ⟨fun y => absurd y (by decide), fun y => absurd y (by decide), fun y => absurd y (by decide), fun y => absurd y (by decide), fun _ => a5 z⟩
          · rw [if_neg z]
            exact ⟨fun y => absurd y (by decide), fun _ => a4 (by omega), fun y => absurd y (by decide), fun y => absurd y (by decide), fun y => absurd y (by decide)⟩
        · rw [isLM_f t1 p1 hs (fun z => ql z.2), bd_r, i00]
          by_cases h45 : b s = 45
          · rw [if_pos (show nI (b s) = 45 from (nI_eq (b := 45) (by omega) (by decide)).mpr h45)]
            exact fg (Or.inl h45) ql
          · rw [if_neg (show ¬ nI (b s) = 45 from fun z => h45 ((nI_eq (b := 45) (by omega) (by decide)).mp z))]
            by_cases qf : fig (b s)
            · rw [isFM_t t1 p1 hs ⟨q, qf⟩, bd_r, i10]
              exact fg (Or.inr qf) ql
            · rw [isFM_f t1 p1 hs (fun z => qf z.2), bd_r, i00, bnd_r, bnd_r, rI_o (by omega), p1, nI_1, fX11_next_359]
              refine wp_r ⟨1, s, s + 1, ⟨hr, Or.inr (Or.inr (Or.inr (Or.inr ⟨q, h59, ql, h45, qf, rfl, rfl⟩)))⟩, rI_s, ?_, fun y => absurd y (by decide), fun _ => ?_, fun y => absurd y (by decide), fun y => absurd y (by decide), fun y => absurd y (by decide)⟩
              · rw [rI_o (by omega), rI_o (by omega)]; exact q1
              · rw [rI_o (by omega), rI_s]
    · rw [if_neg q, if_neg (by decide), bnd_r, fX11_next_359]
      refine wp_r ⟨0, s, s, ⟨hr, Or.inl ⟨by omega, rfl, rfl⟩⟩, ?_, ?_, fun _ => rI_s, fun y => absurd y (by decide), fun y => absurd y (by decide), fun y => absurd y (by decide), fun y => absurd y (by decide)⟩
      · rw [rI_o (by omega)]; exact p1
      · rw [rI_o (by omega)]; exact q1
  have stopAt : ∀ (f s : Nat) (σ : gS), TPr σ b m → s ≤ m → runs spc b m p0 s → σ.1 168 44 = nI s → Wp (fX11_next_0 (f + 1) σ) (fun _ σ' => ∃ k s e, TK b m p0 k s e ∧ RT σ' b k s e) := by
    intro f s σ ht hs hr h5
    refine rest s _ (ht.gsI (x := 168) (y := 46) (v := σ.1 168 44) (by omega) (by omega) (by omega) (by omega) (by omega)) hs hr ?_ ?_ f σ hr.2.2 rfl ht h5
    · rw [rI_o (by omega)]; exact h5
    · rw [rI_s]; exact h5
  intro k
  induction k with
  | zero =>
    intro f p σ ht h1 h2 h3 h4 h5
    obtain ⟨f, rfl⟩ : ∃ y, f = y + 1 := ⟨f - 1, by omega⟩
    exact stopAt f p σ ht (by omega) ⟨h3, h4, by omega⟩ h5
  | succ k ih =>
    intro f p σ ht h1 h2 h3 h4 h5
    obtain ⟨f, rfl⟩ : ∃ y, f = y + 1 := ⟨f - 1, by omega⟩
    have hm := ht.1
    obtain ⟨d1, -, -⟩ := ht.2.2.2.1 p (by omega)
    by_cases hs : spc (b p)
    · have on : Wp (fX11_next_18 (fun σ => fX11_next_0 f σ) σ) (fun _ σ' => ∃ k s e, TK b m p0 k s e ∧ RT σ' b k s e) := by
        rw [fX11_next_18, bnd_r, h5, nI_1]
        refine ih f (p + 1) _ (ht.gsI (by omega) (by omega) (by omega) (by omega) (by omega)) (by omega) (by omega) (by omega) (fun i z1 z2 => ?_) rI_s
        rcases Nat.lt_or_ge i p with y | y
        · exact h4 i z1 y
        · have : i = p := by omega
          subst this
          exact ⟨by omega, hs⟩
      have lk := lookM ht h5 (by omega)
      rw [if_pos (show p < m by omega)] at lk
      rw [fX11_next_0, lk, bd_r]
      by_cases q1 : b p = 32
      · rw [if_pos (show nI (b p) = 32 from (nI_eq (b := 32) (by omega) (by decide)).mpr q1)]
        exact on
      · rw [if_neg (show ¬ nI (b p) = 32 from fun z => q1 ((nI_eq (b := 32) (by omega) (by decide)).mp z)), lk, bd_r]
        have q2 : b p = 10 := hs.elim (fun z => absurd z q1) id
        rw [if_pos (show nI (b p) = 10 from (nI_eq (b := 10) (by omega) (by decide)).mpr q2)]
        exact on
    · exact stopAt f p σ ht (by omega) ⟨h3, h4, fun z => hs z.2⟩ h5
theorem nextM {p : Nat} (σ : gS) (ht : TPr σ b m) (hp : p ≤ m) (h4 : σ.1 168 44 = nI p) : Wp (fX11_next σ) (fun _ σ' => (∃ k s e, TK b m p k s e ∧ RT σ' b k s e) ∧ ∀ x y, ¬ (x = 168 ∧ 44 ≤ y ∧ y ≤ 48) → ¬ (x = 168 ∧ y = 51) → sm σ σ' x y) := by
  have hm := ht.1
  obtain ⟨r, σ', e, h⟩ := spM (p0 := p) (m - p) 2000 p σ ht (by omega) (by omega) (Nat.le_refl _) (fun i z1 z2 => absurd z1 (by omega)) h4
  exact ⟨r, σ', e, h, fun x y q1 q2 => wX11_next (by omega) (by omega) (by omega) (by omega) (by omega) (by omega) e⟩
end NXM

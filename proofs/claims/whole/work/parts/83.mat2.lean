/-! the class's whole reduction -/
def KMc (σ : gS) (D : DT) (c : Nat) : Prop := RF σ ∧ σ.1 59 1 = nI (dn D 1) ∧ σ.1 59 2 = nI (ncl D (dn D 0)) ∧ σ.1 59 3 = nI (redS D c).2.1 ∧ RM σ (dn D 1) (ncl D (dn D 0)) (redS D c).1 ∧ (∀ x, x < c → σ.1 122 x = eL ((redS D c).2.2.1 x)) ∧ ∀ y, y < c - (redS D c).2.1 → σ.1 123 y = nI ((redS D c).2.2.2 y)
def KM (σ : gS) (D : DT) : Prop := KMc σ D (ncl D (dn D 0)) ∧ ∀ i, i < dn D 0 → σ.1 121 i = eG D i
theorem rR_o {σ : gS} {h k a b v : Nat} (hn : ¬ (a = h ∧ b = k)) : (gsR σ h k v).2.2 a b = σ.2.2 a b := by
  by_cases q : a = h
  · exact rR_k (fun z => hn ⟨q, z⟩)
  · exact rR_h q
theorem RM.keep {σ σ' : gS} {R C : Nat} {M : Nat → Nat → Nat} (hR : R ≤ 60) (hF : RF σ) (h : RM σ R C M) (h2 : σ'.2.2 = σ.2.2) (h1 : ∀ x y, 61 ≤ x → x ≤ 120 → σ'.1 x y = σ.1 x y) : RM σ' R C M := fun r k hr hk => by
  have := hF.1 r (by omega)
  rw [h2, h1 _ _ (by omega) (by omega)]
  exact h r k hr hk
section RED
variable {σ σ' : gS} {t : Nat} {D : DT}
theorem reduceC (w : WFa D) : ∀ (k c fu : Nat) (σ : gS), c + k = ncl D (dn D 0) → k < fu → KMc σ D c → Wp (fX4_reduce_7 fu (nI c) σ) (fun _ σ' => KMc σ' D (ncl D (dn D 0)) ∧ frM σ σ' ∧ ∀ i, σ'.1 121 i = σ.1 121 i) := by
  have w4 := w.n4
  have nl := ncl_le D (dn D 0)
  intro k
  induction k with
  | zero =>
    intro c fu σ e hfu h
    obtain ⟨fu, rfl⟩ : ∃ y, fu = y + 1 := ⟨fu - 1, by omega⟩
    have ec : c = ncl D (dn D 0) := by omega
    rw [fX4_reduce_7, h.2.2.1, if_pos (nI_le (by omega) (by omega))]
    rw [ec] at h
    exact wp_r ⟨h, frM.r σ, fun _ => rfl⟩
  | succ k ih =>
    intro c fu σ e hfu h
    obtain ⟨fu, rfl⟩ : ∃ y, fu = y + 1 := ⟨fu - 1, by omega⟩
    obtain ⟨hF, h1, h2, h3, hM, h122, h123⟩ := h
    obtain ⟨i1, i2, i3, i4, i5, i6, i7⟩ := red_ok w c
    obtain ⟨p1, p2, p3⟩ := pvt_ok (M := (redS D c).1) (c := c) i3
    have rs : redS D (c + 1) = if pvt (redS D c).1 c (redS D c).2.1 (dn D 1) < dn D 1 then
      (stp (redS D c).1 c (redS D c).2.1 (pvt (redS D c).1 c (redS D c).2.1 (dn D 1)), (redS D c).2.1 + 1, up (redS D c).2.2.1 c (redS D c).2.1, (redS D c).2.2.2)
      else ((redS D c).1, (redS D c).2.1, (redS D c).2.2.1, up (redS D c).2.2.2 (c - (redS D c).2.1) c) := rfl
    have ldc : (redS D c).2.2.1 c = 60 := (i5 c).resolve_right (fun z => by omega)
    have lf := leadFind (σ := σ) (R := dn D 1) (C := ncl D (dn D 0)) (c := c) (by omega) (by omega) hF h1 hM i1 (by omega) (dn D 1 - (redS D c).2.1) (redS D c).2.1 2000 (by omega) (by omega)
    change fX4_rowToLead_5 (nI c) 2000 (nI (redS D c).2.1) σ = some (if pvt (redS D c).1 c (redS D c).2.1 (dn D 1) < dn D 1 then nI (pvt (redS D c).1 c (redS D c).2.1 (dn D 1)) else -1000000, σ) at lf
    have kc : ∀ s : MT, redS D (c + 1) = s → ∀ σ' : gS, RF σ' → σ'.1 59 1 = nI (dn D 1) → σ'.1 59 2 = nI (ncl D (dn D 0)) → σ'.1 59 3 = nI s.2.1 → RM σ' (dn D 1) (ncl D (dn D 0)) s.1 → (∀ x, x < c + 1 → σ'.1 122 x = eL (s.2.2.1 x)) → (∀ y, y < c + 1 - s.2.1 → σ'.1 123 y = nI (s.2.2.2 y)) → KMc σ' D (c + 1) := by
      rintro s rfl σ' a1 a2 a3 a4 a5 a6 a7
      exact ⟨a1, a2, a3, a4, a5, a6, a7⟩
    generalize hp : pvt (redS D c).1 c (redS D c).2.1 (dn D 1) = p at *
    generalize redS D c = s at *
    rw [fX4_reduce_7, h2, if_neg (nI_ge (by omega) (by omega)), fX4_rowToLead, h3, lf, bd_r]
    by_cases q : p < dn D 1
    · rw [if_pos q] at rs ⊢
      obtain ⟨g1, g2⟩ := hF.1 p (by omega)
      obtain ⟨g3, g4⟩ := hF.1 s.2.1 (by omega)
      rw [if_neg (nI_nN (by omega)), fX4_reduce_41, nI_clamp (show c < 2 ^ 31 by omega), gg_ix (show c < 48 by omega) (by decide), bnd_r, if_neg (nI_nN (by omega)), nI_clamp (show p < 2 ^ 31 by omega), gg_ix (show p < 60 by omega) (by decide), bnd_r]
      have r2 : ∀ y, (gsI σ 122 c (σ.1 59 3)).2.2 60 y = σ.2.2 60 y := fun y => rfl
      rw [r2, gg_t ⟨g1, g2⟩, rI_o (by omega), h3, nI_clamp (show s.2.1 < 2 ^ 31 by omega), gg_ix (show s.2.1 < 60 by omega) (by decide), bnd_r, gg_t ⟨g3, g4⟩, gg_ix (show p < 60 by omega) (by decide), bnd_r, gsR_1, rI_o (by omega), h3, nI_clamp (show s.2.1 < 2 ^ 31 by omega), gg_ix (show s.2.1 < 60 by omega) (by decide), bnd_r]
      -- the rows changed about
      have rf : ∀ y, (gsR (gsR (gsI σ 122 c (nI s.2.1)) 60 p (σ.2.2 60 s.2.1)) 60 s.2.1 (σ.2.2 60 p)).2.2 60 y = if y = s.2.1 then σ.2.2 60 p else if y = p then σ.2.2 60 s.2.1 else σ.2.2 60 y := by
        intro y
        by_cases z : y = s.2.1
        · rw [if_pos z, z, rR_s]
        · rw [if_neg z, rR_o (fun u => z u.2)]
          by_cases z2 : y = p
          · rw [if_pos z2, z2, rR_s]
          · rw [if_neg z2, rR_o (fun u => z2 u.2)]
            rfl
      have ri : ∀ x y, (gsR (gsR (gsI σ 122 c (nI s.2.1)) 60 p (σ.2.2 60 s.2.1)) 60 s.2.1 (σ.2.2 60 p)).1 x y = (gsI σ 122 c (nI s.2.1)).1 x y := fun x y => rfl
      have F3 : RF (gsR (gsR (gsI σ 122 c (nI s.2.1)) 60 p (σ.2.2 60 s.2.1)) 60 s.2.1 (σ.2.2 60 p)) := by
        refine ⟨fun r hr => ?_, fun r r' hr hr' z => ?_⟩
        · rw [rf r]
          split
          · exact ⟨g1, g2⟩
          · split
            · exact ⟨g3, g4⟩
            · exact hF.1 r hr
        · rw [rf r, rf r'] at z
          have inj := hF.2
          by_cases a1 : r = s.2.1
          · by_cases a2 : r' = s.2.1
            · omega
            · rw [if_pos a1, if_neg a2] at z
              by_cases a3 : r' = p
              · rw [if_pos a3] at z
                have := inj _ _ (by omega) (by omega) z
                omega
              · rw [if_neg a3] at z
                have := inj _ _ (by omega) (by omega) z
                omega
          · by_cases a2 : r' = s.2.1
            · rw [if_neg a1, if_pos a2] at z
              by_cases a3 : r = p
              · rw [if_pos a3] at z
                have := inj _ _ (by omega) (by omega) z
                omega
              · rw [if_neg a3] at z
                have := inj _ _ (by omega) (by omega) z
                omega
            · rw [if_neg a1, if_neg a2] at z
              by_cases a3 : r = p
              · by_cases a4 : r' = p
                · omega
                · rw [if_pos a3, if_neg a4] at z
                  have := inj _ _ (by omega) (by omega) z
                  omega
              · by_cases a4 : r' = p
                · rw [if_neg a3, if_pos a4] at z
                  have := inj _ _ (by omega) (by omega) z
                  omega
                · rw [if_neg a3, if_neg a4] at z
                  exact inj _ _ (by omega) (by omega) z
      have M3 : RM (gsR (gsR (gsI σ 122 c (nI s.2.1)) 60 p (σ.2.2 60 s.2.1)) 60 s.2.1 (σ.2.2 60 p)) (dn D 1) (ncl D (dn D 0)) (fun r => if r = s.2.1 then s.1 p else if r = p then s.1 s.2.1 else s.1 r) := by
        intro r x hr hx
        have bd := F3.1 r (by omega)
        rw [ri, rI_o (by omega), rf r]
        show _ = nI ((if r = s.2.1 then s.1 p else if r = p then s.1 s.2.1 else s.1 r) x)
        by_cases z : r = s.2.1
        · rw [if_pos z, if_pos z]; exact hM p x q hx
        · rw [if_neg z, if_neg z]
          by_cases z2 : r = p
          · rw [if_pos z2, if_pos z2]; exact hM _ x (by omega) hx
          · rw [if_neg z2, if_neg z2]; exact hM r x hr hx
      have ml := makeLead (σ := gsR (gsR (gsI σ 122 c (nI s.2.1)) 60 p (σ.2.2 60 s.2.1)) 60 s.2.1 (σ.2.2 60 p)) (M := s.1) (R := dn D 1) (C := ncl D (dn D 0)) (c := c) (rk := s.2.1) (p := p) (by omega) (by omega) F3 (by rw [ri, rI_o (by omega)]; exact h1) (by rw [ri, rI_o (by omega)]; exact h2) (by rw [ri, rI_o (by omega)]; exact h3) (by omega) q (by omega) i1 (fun k hk => i4 p k p1 q hk) M3
      refine wp_bw ml ?_
      rintro _ σ4 ⟨m1, m2, m3⟩
      have c3 : σ4.1 59 3 = nI s.2.1 := by rw [(m3 59 3 (by omega)).1, ri, rI_o (by omega)]; exact h3
      rw [bnd_r, fX4_reduce_110, bnd_r, nI_1, c3, nI_1]
      have F4 : RF (gsI σ4 59 3 (nI (s.2.1 + 1))) := by
        have : RF σ4 := by unfold RF; rw [m2]; exact F3
        exact this
      have nxt : KMc (gsI σ4 59 3 (nI (s.2.1 + 1))) D (c + 1) := by
        refine kc _ rs _ F4 ?_ ?_ rI_s ?_ (fun x hx => ?_) (fun y hy => ?_)
        · rw [rI_o (by omega), (m3 59 1 (by omega)).1, ri, rI_o (by omega)]; exact h1
        · rw [rI_o (by omega), (m3 59 2 (by omega)).1, ri, rI_o (by omega)]; exact h2
        · exact m1.keep (by omega) (by unfold RF; rw [m2]; exact F3) rfl (fun x y a1 a2 => rI_o (by omega))
        · rw [rI_o (by omega), (m3 122 x (by omega)).1, ri]
          show _ = eL (up s.2.2.1 c s.2.1 x)
          by_cases z : x = c
          · subst z; rw [rI_s, up_s]; unfold eL; rw [if_neg (by omega)]
          · rw [rI_o (by omega), up_o z]; exact h122 x (by omega)
        · have hy : y < c + 1 - (s.2.1 + 1) := hy
          rw [rI_o (by omega), (m3 123 y (by omega)).1, ri, rI_o (by omega)]
          exact h123 y (by omega)
      refine wp_m (ih (c + 1) fu _ (by omega) (by omega) nxt) ?_
      rintro _ σ5 ⟨d1, d2, d3⟩
      refine ⟨d1, frM.t ⟨fun x y z => ⟨?_, ?_⟩, fun x y z => ?_⟩ d2, fun i => ?_⟩
      · rw [rI_o (by omega), (m3 x y (by omega)).1, ri, rI_o (by omega)]
      · show σ4.2.1 x y = σ.2.1 x y
        rw [(m3 x y (by omega)).2.1]
        rfl
      · show σ4.2.2 x y = _
        rw [m2, rR_o (fun u => z u.1), rR_o (fun u => z u.1)]
        rfl
      · rw [d3 i, rI_o (by omega), (m3 121 i (by omega)).1, ri, rI_o (by omega)]
    · rw [if_neg q] at rs ⊢
      have sb : nI c - nI s.2.1 = nI (c - s.2.1) := pk_sub i2
      rw [if_pos rfl, fX4_reduce_41, nI_clamp (show c < 2 ^ 31 by omega), gg_ix (show c < 48 by omega) (by decide), bnd_r, if_pos rfl, rI_o (show ¬ (59 = 122 ∧ 3 = c) by omega), h3, sb, nI_clamp (show c - s.2.1 < 2 ^ 31 by omega), gg_ix (show c - s.2.1 < 48 by omega) (by decide), bnd_r, fX4_reduce_110, bnd_r, nI_1]
      have nxt : KMc (gsI (gsI σ 122 c (-1000000)) 123 (c - s.2.1) (nI c)) D (c + 1) := by
        refine kc _ rs _ hF ?_ ?_ ?_ ?_ (fun x hx => ?_) (fun y hy => ?_)
        · rw [rI_o (by omega), rI_o (by omega)]; exact h1
        · rw [rI_o (by omega), rI_o (by omega)]; exact h2
        · rw [rI_o (by omega), rI_o (by omega)]; exact h3
        · exact hM.keep (by omega) hF rfl (fun x y a1 a2 => by rw [rI_o (by omega), rI_o (by omega)])
        · rw [rI_o (by omega)]
          show _ = eL (s.2.2.1 x)
          by_cases z : x = c
          · subst z; rw [rI_s, ldc]; rfl
          · rw [rI_o (by omega)]; exact h122 x (by omega)
        · have hy : y < c + 1 - s.2.1 := hy
          show _ = nI (up s.2.2.2 (c - s.2.1) c y)
          by_cases z : y = c - s.2.1
          · rw [z, rI_s, up_s]
          · rw [rI_o (by omega), rI_o (by omega), up_o z]; exact h123 y (by omega)
      refine wp_m (ih (c + 1) fu _ (by omega) (by omega) nxt) ?_
      rintro _ σ5 ⟨d1, d2, d3⟩
      exact ⟨d1, (((frM.r σ).i (by omega)).i (by omega)).t d2, fun i => by rw [d3 i, rI_o (by omega), rI_o (by omega)]⟩
theorem workC4 (h4 : t = 4 ∨ t = 16) (w : WFa D) (v : WFb D) (hc : CD σ t D) (hF : RF σ) : Wp (fX4_work t σ) (fun _ σ' => KM σ' D ∧ frM σ σ') := by
  have w4 := w.n4
  have nl := ncl_le D (dn D 0)
  rw [fX4_work, fX4_layColumns]
  refine wp_bw (m := bnd _ _) (P := fun _ σ1 => σ1.1 59 2 = nI (ncl D (dn D 0)) ∧ (∀ i, i < dn D 0 → σ1.1 121 i = eG D i) ∧ ∀ x y, x ≠ 121 → ¬ (x = 59 ∧ y = 2) → sm σ σ1 x y) ?_ ?_
  · rw [bnd_r]
    refine wp_m (layC h4 w (dn D 0) 0 2000 (gsI σ 59 2 0) (by omega) (by omega) (hc.keep (fun x y h1 h2 => rI_o (by omega))) rI_s (fun i hi => by omega)) ?_
    rintro _ σ1 ⟨a1, a2, a3⟩
    exact ⟨a1, a2, fun x y z1 z2 => sm_t (sm_I (sm_r σ x y) (by omega) rfl) (a3 x y z1 z2)⟩
  · rintro _ σ1 ⟨a1, a2, a3⟩
    have hc1 : CD σ1 t D := hc.keep (fun x y h1 h2 => (a3 x y (by omega) (by omega)).1)
    have es : fX3_size t 1 σ1 = some (nI (dn D 1), σ1) := sizeD (f := 1) hc1 (by decide)
    have R1 : σ1.2.2 = σ.2.2 := (a3 0 0 (by omega) (by omega)).2.2
    rw [es, bd_r, bnd_r]
    have F1 : RF (gsI σ1 59 1 (nI (dn D 1))) := by
      have : RF σ1 := by unfold RF; rw [R1]; exact hF
      exact this
    obtain ⟨σ2, e2, b1, b2, b3⟩ := rowsC h4 w v (dn D 1) 0 2000 (gsI σ1 59 1 (nI (dn D 1))) (by omega) (by omega) (hc1.keep (fun x y h1 h2 => rI_o (by omega))) F1 rI_s (fun i hi => by rw [rI_o (by omega)]; exact a2 i hi) (fun r' x h => by omega)
    rw [show fX4_work_16 t 2000 0 (gsI σ1 59 1 (nI (dn D 1))) = _ from e2, fX4_reduce]
    have R2 : σ2.2.2 = σ.2.2 := b2.trans R1
    have k1 : σ2.1 59 1 = nI (dn D 1) := by rw [(b3 59 1 (by omega)).1, rI_s]
    have k2 : σ2.1 59 2 = nI (ncl D (dn D 0)) := by rw [(b3 59 2 (by omega)).1, rI_o (by omega)]; exact a1
    have F2 : RF (gsI σ2 59 3 0) := by
      have : RF σ2 := by unfold RF; rw [R2]; exact hF
      exact this
    have st : KMc (gsI σ2 59 3 0) D 0 := ⟨F2, by rw [rI_o (by omega)]; exact k1, by rw [rI_o (by omega)]; exact k2, rI_s, fun r x hr hx => by
      have := F2.1 r (by omega)
      rw [rI_o (by omega)]
      exact b1 r x hr (by omega), fun x hx => by omega, fun y hy => by omega⟩
    refine wp_bw (m := bnd _ _) (P := fun _ σ' => KM σ' D ∧ frM σ σ') ?_ (fun _ σ' h => wp_r h)
    rw [bnd_r]
    refine wp_m (reduceC w (ncl D (dn D 0)) 0 2000 _ (by omega) (by omega) st) ?_
    rintro _ σ3 ⟨d1, d2, d3⟩
    refine ⟨⟨d1, fun i hi => by rw [d3 i, rI_o (by omega), (b3 121 i (by omega)).1, rI_o (by omega)]; exact a2 i hi⟩, frM.t ⟨fun x y z => ⟨?_, ?_⟩, fun x y z => ?_⟩ d2⟩
    · rw [rI_o (by omega), (b3 x y (by omega)).1, rI_o (by omega)]; exact (a3 x y (by omega) (by omega)).1
    · show σ2.2.1 x y = σ.2.1 x y
      rw [(b3 x y (by omega)).2.1]; exact (a3 x y (by omega) (by omega)).2.1
    · show σ2.2.2 x y = σ.2.2 x y
      rw [R2]
end RED

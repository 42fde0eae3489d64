/-! trace, curve, told, keep -/
def ICu (σ : gS) : Prop := (σ.1 136 0 = 0 ∧ σ.1 168 85 = -1) ∨ (σ.1 136 0 = 1 ∧ ¬ σ.1 168 85 < 0 ∧ ∀ s, s < 256 → ∃ o : Nat, (o = 0 ∨ o = 1) ∧ σ.1 139 s = nI o ∧ σ.1 224 s = nI o ∧ (o = 1 → σ.2.1 137 s = σ.2.1 222 s ∧ σ.2.1 138 s = σ.2.1 223 s ∧ (σ.2.1 137 s).toInt.natAbs ≤ 100000000 ∧ (σ.2.1 138 s).toInt.natAbs ≤ 100000000))
def pXc (h k : Nat) : Prop := ¬ (136 ≤ h ∧ h ≤ 143) ∧ ¬ (h = 168 ∧ k = 85) ∧ ¬ (216 ≤ h ∧ h ≤ 218) ∧ ¬ (222 ≤ h ∧ h ≤ 224)
noncomputable def cvP (D : DT) (O : OT) (a b s : Nat) : PT := arP D O s a b (onn O)
noncomputable def cvO (D : DT) (O : OT) (a b j s : Nat) : Nat := if pW (cvP D O a b s) j = 0 then 1 else 0
noncomputable def dpt (O : OT) (j : Nat) : Nat := if fP (fun i => osq O i = j) (onn O) 0 < onn O then fP (fun i => osq O i = j) (onn O) 0 + 1 else 0
section TRA
variable {σ : gS} {t : Nat} {D : DT} {O : OT} {j a b : Nat}
theorem cvO_01 {s : Nat} : cvO D O a b j s = 0 ∨ cvO D O a b j s = 1 := by
  unfold cvO
  split
  · exact Or.inr rfl
  · exact Or.inl rfl
theorem dpt_ok (g : GOr D O) : dpt O j ≤ onn O ∧ ∀ i, dpt O j ≤ i → i < onn O → j ≠ osq O i := by
  obtain ⟨s1, s2⟩ := fP_spec (fun i => osq O i = j) (onn O) 0
  have b0 := fP_b (fun i => osq O i = j) (onn O) 0
  unfold dpt
  by_cases q : fP (fun i => osq O i = j) (onn O) 0 < onn O
  · rw [if_pos q]
    refine ⟨by omega, fun i h1 h2 z => ?_⟩
    have e := s1 (by omega)
    have := g.2.2.1 i _ h2 q (z.symm.trans e.symm)
    omega
  · rw [if_neg q]
    exact ⟨by omega, fun i h1 h2 z => s2 i (by omega) (by omega) z.symm⟩
theorem dptC (w : WFa D) (g : GOr D O) (kc : KTC σ D O) (hj : j < dn D 0) : fX9_depthOf (nI j) σ = some (nI (dpt O j), σ) := by
  have w4 := w.n4
  have n24 := onn_24 w g
  have key : ∀ (m i fu : Nat), i + m = onn O → m < fu → fX9_depthOf_2 (nI j) fu (nI i) σ = some (nI (if fP (fun i => osq O i = j) m i < onn O then fP (fun i => osq O i = j) m i + 1 else 0), σ) := by
    intro m
    induction m with
    | zero =>
      intro i fu e hf
      obtain ⟨fu, rfl⟩ : ∃ y, fu = y + 1 := ⟨fu - 1, by omega⟩
      rw [fX9_depthOf_2, kc.1, if_pos (nI_le (by omega) (by omega)), fP, if_neg (by omega)]
      rfl
    | succ m ih =>
      intro i fu e hf
      obtain ⟨fu, rfl⟩ : ∃ y, fu = y + 1 := ⟨fu - 1, by omega⟩
      have hi : i < onn O := by omega
      have gi := (g.2.1 i hi).1
      rw [fX9_depthOf_2, kc.1, if_neg (nI_ge (by omega) (by omega)), nI_clamp (show i < 2 ^ 31 by omega), gg_ix (by omega) (by decide), kc.2.1 i hi, fP]
      by_cases q : osq O i = j
      · rw [if_pos (by rw [q]), nI_1, cif_t q, if_pos hi]
      · rw [if_neg (fun z => q ((nI_eq (by omega) (by omega)).mp z)), bnd_r, nI_1, cif_f q]
        exact ih (i + 1) fu (by omega) (by omega)
  rw [fX9_depthOf]
  exact key (onn O) 0 2000 (by omega) (by omega)
theorem drawC (h4 : t = 4 ∨ t = 16) (w : WFa D) (v : WFb D) (c : CD σ t D) (kc : KTC σ D O) (g : GOr D O) (hd : dd D = some (a, b)) (hj : j < dn D 0) : Wp (fX2_draw t (nI j) σ) (fun _ σ' => σ'.1 136 0 = 1 ∧ σ'.1 136 1 = nI (sN (cvO D O a b j) 256) ∧ (∀ s, s < 256 → σ'.1 139 s = nI (cvO D O a b j s) ∧ (cvO D O a b j s = 1 → σ'.2.1 137 s = pX (cvP D O a b s) j ∧ σ'.2.1 138 s = pY (cvP D O a b s) j)) ∧ ∀ x y, ¬ (136 ≤ x ∧ x ≤ 143) → sm σ σ' x y) := by
  have w4 := w.n4
  obtain ⟨d1, d2⟩ := dpt_ok (j := j) g
  have clj : (nI j).toNatClampNeg = j := nI_clamp (by omega)
  have key : ∀ (m i fu : Nat) (τ : gS), i + m = 256 → m < fu → CD τ t D → KTC τ D O → τ.1 136 0 = 1 → τ.1 136 1 = nI (sN (cvO D O a b j) i) → (∀ s, s < i → τ.1 139 s = nI (cvO D O a b j s) ∧ (cvO D O a b j s = 1 → τ.2.1 137 s = pX (cvP D O a b s) j ∧ τ.2.1 138 s = pY (cvP D O a b s) j)) → (∀ x y, ¬ (136 ≤ x ∧ x ≤ 143) → sm σ τ x y) → Wp (fX2_draw_20 t (nI j) fu (nI (dpt O j)) (nI i) τ) (fun _ σ' => σ'.1 136 0 = 1 ∧ σ'.1 136 1 = nI (sN (cvO D O a b j) 256) ∧ (∀ s, s < 256 → σ'.1 139 s = nI (cvO D O a b j s) ∧ (cvO D O a b j s = 1 → σ'.2.1 137 s = pX (cvP D O a b s) j ∧ σ'.2.1 138 s = pY (cvP D O a b s) j)) ∧ ∀ x y, ¬ (136 ≤ x ∧ x ≤ 143) → sm σ σ' x y) := by
    intro m
    induction m with
    | zero =>
      intro i fu τ e hf c kc t0 t1 hx fr
      obtain ⟨fu, rfl⟩ : ∃ y, fu = y + 1 := ⟨fu - 1, by omega⟩
      have : i = 256 := by omega
      subst this
      rw [fX2_draw_20, if_pos (show 256 ≤ nI 256 from nI_le (a := 256) (by omega) (by omega))]
      exact wp_r ⟨t0, t1, hx, fr⟩
    | succ m ih =>
      intro i fu τ e hf c kc t0 t1 hx fr
      obtain ⟨fu, rfl⟩ : ∃ y, fu = y + 1 := ⟨fu - 1, by omega⟩
      have hi : i < 256 := by omega
      have cli : (nI i).toNatClampNeg = i := nI_clamp (by omega)
      rw [fX2_draw_20, if_neg (show ¬ 256 ≤ nI i from nI_ge (b := 256) (by omega) (by decide))]
      refine wp_bw (arrC h4 w v c kc g hd hi (Or.inr rfl) d1) ?_
      rintro _ τ1 ⟨p1, f1⟩
      obtain ⟨o1, o2, o3⟩ := arP_o (D := D) (s := i) (a := a) (b := b) (x := j) (dpt O j) (onn O) d1 d2
      have pb := (arP_b w v g hd hi (dpt O j) d1 j hj).1
      have pj := p1 j hj
      rw [← o1, ← o2, ← o3] at pj
      rw [← o1] at pb
      have st : sN (cvO D O a b j) (i + 1) = sN (cvO D O a b j) i + cvO D O a b j i := rfl
      have go : ∀ o : Nat, o = cvO D O a b j i → o = 0 ∨ o = 1 → Wp (fX2_draw_64 t (nI j) (fun v4 v5 σ => fX2_draw_20 t (nI j) fu v4 v5 σ) (nI (dpt O j)) (nI i) (nI i) (nI o) τ1) (fun _ σ' => σ'.1 136 0 = 1 ∧ σ'.1 136 1 = nI (sN (cvO D O a b j) 256) ∧ (∀ s, s < 256 → σ'.1 139 s = nI (cvO D O a b j s) ∧ (cvO D O a b j s = 1 → σ'.2.1 137 s = pX (cvP D O a b s) j ∧ σ'.2.1 138 s = pY (cvP D O a b s) j)) ∧ ∀ x y, ¬ (136 ≤ x ∧ x ≤ 143) → sm σ σ' x y) := by
        intro o ho h01
        have en : vp_nar .boolean (nI o) = nI o := by rcases h01 with rfl | rfl <;> rfl
        rw [fX2_draw_64, cli, clj, gg_ix (by omega) (by decide), bnd_r, gg_ix (by omega) (by decide), gg_ix (by omega) (by decide), bnd_r, gg_ix (by omega) (by decide), gg_ix (by omega) (by decide), bnd_r, gg_ix (by omega) (by decide), en, gsI_2, rJ_h (show (142 : Nat) ≠ 137 by decide), gsI_2, gsJ_1, gsJ_1, rI_s]
        have ff : ∀ x y, ¬ (136 ≤ x ∧ x ≤ 143) → sm σ (gsJ (gsJ (gsI τ1 139 i (nI o)) 137 i (τ1.2.1 141 j)) 138 i (τ1.2.1 142 j)) x y := fun x y z => sm_J (sm_J (sm_I (sm_t (fr x y z) (f1 x y (by omega) (by omega) (by omega))) (by omega) rfl) (by omega) rfl) (by omega) rfl
        have fin : ∀ τ3 : gS, (∀ x y, ¬ (136 ≤ x ∧ x ≤ 143) → sm σ τ3 x y) → τ3.1 136 0 = 1 → τ3.1 136 1 = nI (sN (cvO D O a b j) (i + 1)) → (∀ x, τ3.1 139 x = (gsI τ1 139 i (nI o)).1 139 x) → τ3.2.1 = (gsJ (gsJ (gsI τ1 139 i (nI o)) 137 i (τ1.2.1 141 j)) 138 i (τ1.2.1 142 j)).2.1 → Wp (fX2_draw_117 t (nI j) (fun v4 v5 σ => fX2_draw_20 t (nI j) fu v4 v5 σ) (nI (dpt O j)) (nI i) τ3) (fun _ σ' => σ'.1 136 0 = 1 ∧ σ'.1 136 1 = nI (sN (cvO D O a b j) 256) ∧ (∀ s, s < 256 → σ'.1 139 s = nI (cvO D O a b j s) ∧ (cvO D O a b j s = 1 → σ'.2.1 137 s = pX (cvP D O a b s) j ∧ σ'.2.1 138 s = pY (cvP D O a b s) j)) ∧ ∀ x y, ¬ (136 ≤ x ∧ x ≤ 143) → sm σ σ' x y) := by
          intro τ3 fr3 u0 u1 u9 uJ
          rw [fX2_draw_117, bnd_r, nI_1]
          have e9 : ∀ x y, ¬ (136 ≤ x ∧ x ≤ 143) → sm τ τ3 x y := fun x y z => by
            have p := fr x y z
            have q := fr3 x y z
            exact ⟨q.1.trans p.1.symm, q.2.1.trans p.2.1.symm, q.2.2.trans p.2.2.symm⟩
          refine ih (i + 1) fu τ3 (by omega) (by omega) (c.keep (fun x y z1 z2 => (e9 x y (by omega)).1)) ?_ u0 u1 (fun s hs => ?_) fr3
          · have f : ∀ x y, x ≤ 131 → sm τ τ3 x y := fun x y z => e9 x y (by omega)
            refine ⟨by rw [(f 124 1 (by omega)).1]; exact kc.1, fun i hi => by rw [(f 125 i (by omega)).1]; exact kc.2.1 i hi, fun j hj => ?_⟩
            rw [(f 127 j (by omega)).1, (f 128 j (by omega)).1, (f 129 j (by omega)).1, (f 130 j (by omega)).2.1, (f 131 j (by omega)).2.1]
            exact kc.2.2 j hj
          · rw [u9, uJ]
            by_cases z : s = i
            · subst z
              rw [rI_s, rJ_h (show (137 : Nat) ≠ 138 by decide), rJ_s, rJ_s, ho]
              refine ⟨rfl, fun y => ?_⟩
              have y0 : pW (cvP D O a b s) j = 0 := by
                unfold cvO at y
                by_cases yy : pW (cvP D O a b s) j = 0
                · exact yy
                · rw [if_neg yy] at y; exact absurd y (by decide)
              exact pj.2 y0
            · rw [rI_k z, rJ_k z, rJ_k z, rJ_k z, rJ_k z, gsI_2, (f1 139 s (by omega) (by omega) (by omega)).1, (f1 137 s (by omega) (by omega) (by omega)).2.1, (f1 138 s (by omega) (by omega) (by omega)).2.1]
              exact hx s (by omega)
        have t0' : τ1.1 136 0 = 1 := by rw [(f1 136 0 (by omega) (by omega) (by omega)).1]; exact t0
        have t1' : τ1.1 136 1 = nI (sN (cvO D O a b j) i) := by rw [(f1 136 1 (by omega) (by omega) (by omega)).1]; exact t1
        rcases h01 with rfl | rfl
        · rw [if_pos (show nI 0 = 0 from rfl)]
          refine fin _ ff ?_ ?_ (fun x => by rw [gsJ_1, gsJ_1]) rfl
          · rw [gsJ_1, gsJ_1, rI_h (by decide)]; exact t0'
          · rw [gsJ_1, gsJ_1, rI_h (by decide), t1', st, ← ho]; rfl
        · rw [if_neg (by decide), bnd_r, rI_h (show (136 : Nat) ≠ 139 by decide), t1', nI_1]
          refine fin _ (fun x y z => sm_I (ff x y z) (by omega) rfl) ?_ ?_ (fun x => by rw [rI_h (by decide), gsJ_1, gsJ_1]) rfl
          · rw [rI_k (by decide), gsJ_1, gsJ_1, rI_h (by decide)]; exact t0'
          · rw [rI_s, st, ← ho]
      rw [clj, gg_ix (by omega) (by decide), pj.1]
      by_cases q : pW (cvP D O a b i) j = 0
      · have q' : pW (arP D O i a b (onn O)) j = 0 := q
        rw [if_pos (by rw [q']; rfl)]
        exact go 1 (by unfold cvO; rw [if_pos q]) (Or.inr rfl)
      · have q' : ¬ pW (arP D O i a b (onn O)) j = 0 := q
        rw [if_neg (nI_ne (by omega) (by omega))]
        exact go 0 (by unfold cvO; rw [if_neg q]) (Or.inl rfl)
  rw [fX2_draw, dptC w g kc hj, bd_r, bnd_r, bnd_r]
  have f0 : ∀ x y, ¬ (136 ≤ x ∧ x ≤ 143) → sm σ (gsI (gsI σ 136 0 1) 136 1 0) x y := fun x y z => sm_I (sm_I (sm_r σ x y) (by omega) rfl) (by omega) rfl
  refine key 256 0 2000 _ (by omega) (by omega) (c.keep (fun x y z1 z2 => (f0 x y (by omega)).1)) ?_ (by rw [rI_k (by decide), rI_s]) (by rw [rI_s]; rfl) (fun s h => absurd h (Nat.not_lt_zero s)) f0
  have f : ∀ x y, x ≤ 131 → sm σ (gsI (gsI σ 136 0 1) 136 1 0) x y := fun x y z => f0 x y (by omega)
  refine ⟨by rw [(f 124 1 (by omega)).1]; exact kc.1, fun i hi => by rw [(f 125 i (by omega)).1]; exact kc.2.1 i hi, fun j hj => ?_⟩
  rw [(f 127 j (by omega)).1, (f 128 j (by omega)).1, (f 129 j (by omega)).1, (f 130 j (by omega)).2.1, (f 131 j (by omega)).2.1]
  exact kc.2.2 j hj
theorem traR (w : WFa D) (v : WFb D) (k : RD0 σ D) (kr : KTR σ D O) (g : GOr D O) (hd : dd D = some (a, b)) (hj : j < dn D 0) : Wp (fX11_trace_26 (nI j) 2000 0 0 σ) (fun r σ' => r = nI (sN (cvO D O a b j) 256) ∧ σ'.1 168 85 = nI j ∧ (∀ s, s < 256 → σ'.1 224 s = nI (cvO D O a b j s) ∧ (cvO D O a b j s = 1 → σ'.2.1 222 s = pX (cvP D O a b s) j ∧ σ'.2.1 223 s = pY (cvP D O a b s) j)) ∧ ∀ x y, ¬ (x = 168 ∧ y = 85) → ¬ (216 ≤ x ∧ x ≤ 218) → ¬ (222 ≤ x ∧ x ≤ 224) → sm σ σ' x y) := by
  have w4 := w.n4
  have clj : (nI j).toNatClampNeg = j := nI_clamp (by omega)
  have key : ∀ (m i fu : Nat) (τ : gS), i + m = 256 → m < fu → (∀ s, s < i → τ.1 224 s = nI (cvO D O a b j s) ∧ (cvO D O a b j s = 1 → τ.2.1 222 s = pX (cvP D O a b s) j ∧ τ.2.1 223 s = pY (cvP D O a b s) j)) → (∀ x y, ¬ (x = 168 ∧ y = 85) → ¬ (216 ≤ x ∧ x ≤ 218) → ¬ (222 ≤ x ∧ x ≤ 224) → sm σ τ x y) → Wp (fX11_trace_26 (nI j) fu (nI (sN (cvO D O a b j) i)) (nI i) τ) (fun r σ' => r = nI (sN (cvO D O a b j) 256) ∧ σ'.1 168 85 = nI j ∧ (∀ s, s < 256 → σ'.1 224 s = nI (cvO D O a b j s) ∧ (cvO D O a b j s = 1 → σ'.2.1 222 s = pX (cvP D O a b s) j ∧ σ'.2.1 223 s = pY (cvP D O a b s) j)) ∧ ∀ x y, ¬ (x = 168 ∧ y = 85) → ¬ (216 ≤ x ∧ x ≤ 218) → ¬ (222 ≤ x ∧ x ≤ 224) → sm σ σ' x y) := by
    intro m
    induction m with
    | zero =>
      intro i fu τ e hf hx fr
      obtain ⟨fu, rfl⟩ : ∃ y, fu = y + 1 := ⟨fu - 1, by omega⟩
      have : i = 256 := by omega
      subst this
      rw [fX11_trace_26, if_pos (show 256 ≤ nI 256 from nI_le (a := 256) (by omega) (by omega)), bnd_r]
      exact wp_r ⟨rfl, rI_s, fun s hs => by rw [rI_h (by decide)]; exact hx s hs, fun x y z1 z2 z3 => sm_I (fr x y z1 z2 z3) (by omega) rfl⟩
    | succ m ih =>
      intro i fu τ e hf hx fr
      obtain ⟨fu, rfl⟩ : ∃ y, fu = y + 1 := ⟨fu - 1, by omega⟩
      have hi : i < 256 := by omega
      have cli : (nI i).toNatClampNeg = i := nI_clamp (by omega)
      have k1 : RD0 τ D := k.keep (fun x y z => (fr x y (by unfold pR0 at z; omega) (by unfold pR0 at z; omega) (by unfold pR0 at z; omega)).1)
      have kr1 : KTR τ D O := by
        have f : ∀ x y, (x = 168 ∧ y = 69) ∨ (210 ≤ x ∧ x ≤ 215) → sm σ τ x y := fun x y z => fr x y (by omega) (by omega) (by omega)
        refine ⟨by rw [(f 168 69 (by omega)).1]; exact kr.1, fun i hi => by rw [(f 210 i (by omega)).1]; exact kr.2.1 i hi, fun j hj => ?_⟩
        rw [(f 211 j (by omega)).1, (f 212 j (by omega)).1, (f 213 j (by omega)).1, (f 215 j (by omega)).1]
        exact kr.2.2 j hj
      rw [fX11_trace_26, if_neg (show ¬ 256 ≤ nI i from nI_ge (b := 256) (by omega) (by decide))]
      refine wp_bw (turnM w v k1 kr1 g hd hi) ?_
      rintro _ τ1 ⟨p1, f1⟩
      have pb := (arP_b w v g hd hi (onn O) (Nat.le_refl _) j hj).1
      have pj := p1 j hj
      have st : sN (cvO D O a b j) (i + 1) = sN (cvO D O a b j) i + cvO D O a b j i := rfl
      have go : ∀ o : Nat, o = cvO D O a b j i → o = 0 ∨ o = 1 → Wp (fX11_trace_57 (nI j) (fun v2 v3 σ => fX11_trace_26 (nI j) fu v2 v3 σ) (nI (sN (cvO D O a b j) i)) (nI i) (nI i) (nI o) τ1) (fun r σ' => r = nI (sN (cvO D O a b j) 256) ∧ σ'.1 168 85 = nI j ∧ (∀ s, s < 256 → σ'.1 224 s = nI (cvO D O a b j s) ∧ (cvO D O a b j s = 1 → σ'.2.1 222 s = pX (cvP D O a b s) j ∧ σ'.2.1 223 s = pY (cvP D O a b s) j)) ∧ ∀ x y, ¬ (x = 168 ∧ y = 85) → ¬ (216 ≤ x ∧ x ≤ 218) → ¬ (222 ≤ x ∧ x ≤ 224) → sm σ σ' x y) := by
        intro o ho h01
        have en : vp_nar .boolean (nI o) = nI o := by rcases h01 with rfl | rfl <;> rfl
        rw [fX11_trace_57, cli, clj, gg_ix (by omega) (by decide), bnd_r, gg_ix (by omega) (by decide), gg_ix (by omega) (by decide), bnd_r, gg_ix (by omega) (by decide), gg_ix (by omega) (by decide), bnd_r, gg_ix (by omega) (by decide), en, gsI_2, rJ_h (show (217 : Nat) ≠ 222 by decide), gsI_2, gsJ_1, gsJ_1, rI_s]
        have fin : Wp (fX11_trace_26 (nI j) fu (nI (sN (cvO D O a b j) (i + 1))) (nI (i + 1)) (gsJ (gsJ (gsI τ1 224 i (nI o)) 222 i (τ1.2.1 216 j)) 223 i (τ1.2.1 217 j))) (fun r σ' => r = nI (sN (cvO D O a b j) 256) ∧ σ'.1 168 85 = nI j ∧ (∀ s, s < 256 → σ'.1 224 s = nI (cvO D O a b j s) ∧ (cvO D O a b j s = 1 → σ'.2.1 222 s = pX (cvP D O a b s) j ∧ σ'.2.1 223 s = pY (cvP D O a b s) j)) ∧ ∀ x y, ¬ (x = 168 ∧ y = 85) → ¬ (216 ≤ x ∧ x ≤ 218) → ¬ (222 ≤ x ∧ x ≤ 224) → sm σ σ' x y) := by
          refine ih (i + 1) fu _ (by omega) (by omega) (fun s hs => ?_) (fun x y z1 z2 z3 => sm_J (sm_J (sm_I (sm_t (fr x y z1 z2 z3) (f1 x y (by omega) (by omega) (by omega))) (by omega) rfl) (by omega) rfl) (by omega) rfl)
          rw [gsJ_1, gsJ_1]
          by_cases z : s = i
          · subst z
            rw [rI_s, rJ_h (show (222 : Nat) ≠ 223 by decide), rJ_s, rJ_s, ho]
            refine ⟨rfl, fun y => ?_⟩
            have y0 : pW (cvP D O a b s) j = 0 := by
              unfold cvO at y
              by_cases yy : pW (cvP D O a b s) j = 0
              · exact yy
              · rw [if_neg yy] at y; exact absurd y (by decide)
            exact pj.2 y0
          · rw [rI_k z, rJ_k z, rJ_k z, rJ_k z, rJ_k z, gsI_2, (f1 224 s (by omega) (by omega) (by omega)).1, (f1 222 s (by omega) (by omega) (by omega)).2.1, (f1 223 s (by omega) (by omega) (by omega)).2.1]
            exact hx s (by omega)
        rcases h01 with rfl | rfl
        · rw [if_pos (show nI 0 = 0 from rfl), fX11_trace_97, bnd_r, bnd_r, nI_1, Int32.add_zero]
          rw [st, ← ho] at fin
          exact fin
        · rw [if_neg (by decide), fX11_trace_97, bnd_r, bnd_r, nI_1, nI_1]
          rw [st, ← ho] at fin
          exact fin
      rw [clj, gg_ix (by omega) (by decide), pj.1]
      by_cases q : pW (cvP D O a b i) j = 0
      · have q' : pW (arP D O i a b (onn O)) j = 0 := q
        rw [if_pos (by rw [q']; rfl)]
        exact go 1 (by unfold cvO; rw [if_pos q]) (Or.inr rfl)
      · have q' : ¬ pW (arP D O i a b (onn O)) j = 0 := q
        rw [if_neg (nI_ne (by omega) (by omega))]
        exact go 0 (by unfold cvO; rw [if_neg q]) (Or.inl rfl)
  exact key 256 0 2000 σ (by omega) (by omega) (fun s h => absurd h (Nat.not_lt_zero s)) (fun x y _ _ _ => sm_r σ x y)
theorem trace_eq (h : LkD σ t D) (hK : KTu σ D O) (hI : ICu σ) (p : Int32) : Ok (fX10_trace p σ) (fX11_trace p) (fun σ' => ICu σ' ∧ Fr pXc σ σ') := by
  have k := h.k
  obtain ⟨h4, h1, h2, w, v, c, r⟩ := h
  obtain ⟨kc, kr, g⟩ := hK
  have w4 := w.n4
  by_cases hp : 0 ≤ p.toInt ∧ p.toInt < dn D 0
  · obtain ⟨j, hj, rfl⟩ := nI_get (n := dn D 0) hp.1 hp.2 (by omega)
    have m1 : fX10_isMember 0 (nI j) σ = some (1, σ) := isM_yes (f := 0) k (by decide) hj
    rcases hd : dd D with _ | ⟨a, b⟩
    · refine Ok.mk (r := -1000002) (r' := -1000002) (σ1 := σ) (σ2 := σ) ?_ ?_ rfl ⟨hI, fr_r _ σ⟩
      · rw [fX10_trace, m1, bd_r, i10, bnd_r, h1, gg_t h4, (c.2.2.2.2.1 hd).1, if_pos rfl]
      · rw [fX11_trace, isJ_yes k hj, bd_r, i10, (r.2.2.2.2.2.2.1 hd).1, if_neg (by decide)]
    · obtain ⟨ha, hb, -, -, -⟩ := v.2.2.2.2 a b hd
      have n2 := onn_le w v g (by rw [hd]; simp)
      refine wp_ok ?_
      rw [fX10_trace, m1, bd_r, i10, bnd_r, h1, gg_t h4, (c.2.2.2.2.2 a b hd).1, if_neg (nI_nN (by omega)), bnd_r, gg_t h4]
      refine wp_bw (drawC h4 w v c kc g hd hj) ?_
      rintro _ σ1 ⟨u0, u1, u2, u3⟩
      refine wp_r ?_
      have f : ∀ x y, 168 ≤ x → sm σ σ1 x y := fun x y z => u3 x y (by omega)
      have r1 : RD0 σ1 D := r.keep (fun x y z => (f x y (by unfold pR0 at z; omega)).1)
      have kr1 : KTR σ1 D O := by
        refine ⟨by rw [(f 168 69 (by omega)).1]; exact kr.1, fun i hi => by rw [(f 210 i (by omega)).1]; exact kr.2.1 i hi, fun j hj => ?_⟩
        rw [(f 211 j (by omega)).1, (f 212 j (by omega)).1, (f 213 j (by omega)).1, (f 215 j (by omega)).1]
        exact kr.2.2 j hj
      have k1 : Lk σ1 t (dn D) (dk D) (du D) (dm D) := k.keep (fun x y z => (u3 x y (by unfold pLkU at z; omega)).1) (by rw [(u3 0 0 (by omega)).2.2]) (by rw [(u3 0 0 (by omega)).2.2])
      rw [fX11_trace, isJ_yes k1 hj, bd_r, i10, (r1.2.2.2.2.2.2.2 a b hd).1, if_pos (nI_pos' (by omega))]
      refine wp_m (traR w v r1 kr1 g hd hj) ?_
      rintro r2 σ2 ⟨q0, q1, q2, q3⟩
      refine ⟨by rw [q0, u1], Or.inr ⟨?_, ?_, fun s hs => ⟨cvO D O a b j s, cvO_01, ?_, (q2 s hs).1, fun o1 => ?_⟩⟩, fun x y ⟨z1, z2, z3, z4⟩ => ?_⟩
      · rw [(q3 136 0 (by omega) (by omega) (by omega)).1]; exact u0
      · rw [q1]; exact nI_pos (by omega)
      · rw [(q3 139 s (by omega) (by omega) (by omega)).1]; exact (u2 s hs).1
      · obtain ⟨c1, c2⟩ := (u2 s hs).2 o1
        obtain ⟨d1, d2⟩ := (q2 s hs).2 o1
        have y0 : pW (cvP D O a b s) j = 0 := by
          unfold cvO at o1
          by_cases yy : pW (cvP D O a b s) j = 0
          · exact yy
          · rw [if_neg yy] at o1; exact absurd o1 (by decide)
        obtain ⟨b1, b2⟩ := (arP_b w v g hd hs (onn O) (Nat.le_refl _) j hj).2 y0
        have e1 : (pX (cvP D O a b s) j).toInt.natAbs ≤ 100000000 := Nat.le_trans b1 (by omega)
        have e2 : (pY (cvP D O a b s) j).toInt.natAbs ≤ 100000000 := Nat.le_trans b2 (by omega)
        rw [(q3 137 s (by omega) (by omega) (by omega)).2.1, (q3 138 s (by omega) (by omega) (by omega)).2.1, c1, c2, d1, d2]
        exact ⟨rfl, rfl, e1, e2⟩
      · have p1 := sm_t (u3 x y z1) (q3 x y z2 z3 z4)
        exact ⟨p1.1, p1.2.1, by rw [p1.2.2]⟩
  · have m1 : fX10_isMember 0 p σ = some (0, σ) := isM_no (f := 0) k (by decide) hp
    refine Ok.mk (r := -1000001) (r' := -1000001) (σ1 := σ) (σ2 := σ) ?_ ?_ rfl ⟨hI, fr_r _ σ⟩
    · rw [fX10_trace, m1, bd_r, i00]
    · rw [fX11_trace, isJ_no k hp, bd_r, i00]
end TRA

/-! the other statements of the reference -/
section STX
variable {σ σ' τ : gS} {D : DT} {b : Nat → Nat} {m p k a c f s : Nat}
theorem frR.w (h : frR σ σ') {v : Int32} : frR (gsI σ a c v) (gsI σ' a c v) := by
  intro x y q
  have := h x y q
  refine ⟨?_, this.2.1, this.2.2⟩
  by_cases z : x = a ∧ y = c
  · obtain ⟨rfl, rfl⟩ := z
    rw [rI_s, rI_s]
  · rw [rI_o z, rI_o z]
    exact this.1
def sJ0 (σ : gS) (n P g : Nat) (l : Int64) : gS := gsI (gsI (gsI (gsI (gsI (gsJ σ 183 n l) 186 n (nI g)) 168 21 (nI (n + 1))) 195 P (nI g)) 196 P (nI n)) 168 37 (nI (P + 1))
def sJ1 (σ : gS) (n P g : Nat) (l : Int64) (x y : Int32) : gS := gsI (gsI (sJ0 σ n P g l) 184 n x) 185 n y
theorem sJ0_D {n P g : Nat} {l : Int64} : frD σ (sJ0 σ n P g l) := by
  unfold sJ0
  exact ((((((frD.r σ).j (by unfold pRD; omega)).i (by unfold pRD; omega)).i (by unfold pRD; omega)).i (by unfold pRD; omega)).i (by unfold pRD; omega)).i (by unfold pRD; omega)
theorem sJ1_RD {g : Nat} {l : List Nat} {x y : Int32} (hg1 : g < 2) (hD : RD σ D) (w : WFa D) : RD (sJ1 σ (dn D 0) (dP D) g (lN (c256 l)) x y) (dAdd g l x y D) := by
  have w4 := w.n4
  have k0 : fam g = 0 := by rcases (show g = 0 ∨ g = 1 by omega) with rfl | rfl <;> rfl
  refine hD.add (k := g) (by omega) (fun j i hj hi => ?_) (fun i hi => ?_) (fun i hi => ?_) (fun i hi => ?_) (fun q hq => ?_) (fun j hj hne => ?_) ?_ w ?_ ?_ (fun _ => ?_) (fun z => by omega) (fun z => by omega)
  · unfold sJ1 sJ0
    rcases (show j = 0 ∨ j = 1 ∨ j = 2 ∨ j = 3 by omega) with rfl | rfl | rfl | rfl
    · refine ⟨?_, ?_⟩
      · show (gsI _ _ _ _).1 184 i = σ.1 184 i
        simp (disch := omega) only [rI_o, rIJ]
      · show (gsI _ _ _ _).1 185 i = σ.1 185 i
        simp (disch := omega) only [rI_o, rIJ]
    · refine ⟨?_, ?_⟩
      · show (gsI _ _ _ _).1 190 i = σ.1 190 i
        simp (disch := omega) only [rI_o, rIJ]
      · show (gsI _ _ _ _).1 191 i = σ.1 191 i
        simp (disch := omega) only [rI_o, rIJ]
    · refine ⟨?_, ?_⟩
      · show (gsI _ _ _ _).1 188 i = σ.1 188 i
        simp (disch := omega) only [rI_o, rIJ]
      · show (gsI _ _ _ _).1 189 i = σ.1 189 i
        simp (disch := omega) only [rI_o, rIJ]
    · refine ⟨?_, ?_⟩
      · show (gsI _ _ _ _).1 193 i = σ.1 193 i
        simp (disch := omega) only [rI_o, rIJ]
      · show (gsI _ _ _ _).1 194 i = σ.1 194 i
        simp (disch := omega) only [rI_o, rIJ]
  · unfold sJ1 sJ0
    refine ⟨?_, ?_⟩
    · simp (disch := omega) only [rI_o, rIJ]
    · simp (disch := omega) only [rJI, rJ_o]
  · unfold sJ1 sJ0
    simp (disch := omega) only [rJI, rJ_o]
  · unfold sJ1 sJ0
    simp (disch := omega) only [rI_o, rIJ]
  · unfold sJ1 sJ0
    simp (disch := omega) only [rI_o, rIJ, and_self]
  · rw [k0] at hne
    unfold sJ1 sJ0
    rcases (show j = 1 ∨ j = 2 ∨ j = 3 by omega) with rfl | rfl | rfl
    · show (gsI _ _ _ _).1 168 30 = σ.1 168 30
      simp (disch := omega) only [rI_o, rIJ]
    · show (gsI _ _ _ _).1 168 26 = σ.1 168 26
      simp (disch := omega) only [rI_o, rIJ]
    · show (gsI _ _ _ _).1 168 33 = σ.1 168 33
      simp (disch := omega) only [rI_o, rIJ]
  · unfold sJ1 sJ0
    simp (disch := omega) only [rI_o, rIJ, and_self]
  · rw [k0]
    show (sJ1 σ (dn D 0) (dP D) g (lN (c256 l)) x y).1 168 21 = nI (dn D 0 + 1) ∧ _
    unfold sJ1 sJ0
    simp (disch := omega) only [rI_o, rI_s, and_self]
  · rw [k0]
    show (sJ1 σ (dn D 0) (dP D) g (lN (c256 l)) x y).1 184 (dn D 0) = x ∧ (sJ1 σ (dn D 0) (dP D) g (lN (c256 l)) x y).1 185 (dn D 0) = y
    unfold sJ1 sJ0
    simp (disch := omega) only [rI_o, rI_s, and_self]
  · unfold sJ1 sJ0
    refine ⟨?_, ?_⟩
    · simp (disch := omega) only [rI_o, rI_s]
      rcases (show g = 0 ∨ g = 1 by omega) with rfl | rfl <;> rfl
    · simp (disch := omega) only [rJI, rJ_s]
theorem jointR {g : Nat} (hg1 : g < 2) (hD : RD σ D) (w : WFa D) (v : WFb D) (h : PR σ b m p) : Wp (fX11_readJoint (nI g) σ) (fun _ σ' => OR b m p σ (spJ b m g D p) σ') := by
  have k0 : fam g = 0 := by rcases (show g = 0 ∨ g = 1 by omega) with rfl | rfl <;> rfl
  have w4 := w.n4
  have h9 := h.2.2.2.1
  have e21 : σ.1 168 21 = nI (dn D 0) := hD.1 0 (by decide)
  have e37 := hD.2.1
  have a0 := h.le
  have hb24 : nI (dn D 0) = 24 ↔ dn D 0 = 24 := nI_eq (b := 24) (by omega) (by decide)
  have eRJ : fX11_readJoint (nI g) σ = fX11_readJoint_15 (nI g) (if dn D 0 = 24 then 1 else 0) σ := by
    rw [fX11_readJoint, e21]
    by_cases q : dn D 0 = 24
    · rw [if_pos (hb24.mpr q), if_pos q]
    · rw [if_neg (fun z => q (hb24.mp z)), if_neg q]
  rw [eRJ, fX11_readJoint_15, spJ]
  by_cases q1 : okW D 0 b m p
  · have n24 : ¬ dn D 0 = 24 := q1.2.2
    have hP := dP_lt w (k := g) (by omega) (show dn D (fam g) < mxF (fam g) by rw [k0]; show dn D 0 < 24; omega)
    obtain ⟨-, en, -⟩ := lm_N h.2.2.1 q1.1
    have nm : isNm (tL b m p) := (lm_N h.2.2.1 q1.1).2.2
    rw [cif_t q1, if_neg n24, nwR_ok w hD h q1, bd_r, goodM h9, bd_r, i10]
    have step : ∀ Q : Unit → gS → Prop, Wp (fX11_readJoint_69 (nI g) (nI g) (gsI (gsI (gsJ σ 183 (dn D 0) (lN (c256 (tL b m p)))) 186 (dn D 0) (nI g)) 168 21 (nI (dn D 0 + 1)))) Q → Wp (gg (¬ (σ.1 168 21 < 0 ∨ 24 ≤ (σ.1 168 21).toNatClampNeg)) (bnd (gsJ σ 183 ((σ.1 168 21).toNatClampNeg) (σ.2.1 168 47)) fun σ8 => gg (¬ (σ8.1 168 21 < 0 ∨ 24 ≤ (σ8.1 168 21).toNatClampNeg)) (bnd (gsI σ8 186 ((σ8.1 168 21).toNatClampNeg) (vp_nar .boolean (nI g))) fun σ10 => bnd (gsI σ10 168 21 ((σ10.1 168 21) + 1)) fun σ11 => if nI g = 0 then fX11_readJoint_69 (nI g) 0 σ11 else fX11_readJoint_69 (nI g) 1 σ11))) Q := by
      intro Q hQ
      have cl : (nI (dn D 0)).toNatClampNeg = dn D 0 := nI_clamp (by omega)
      rw [e21, cl, gg_ix (by omega) (by decide), bnd_r, rIJ, e21, cl, gg_ix (by omega) (by decide), bnd_r, bnd_r, rI_o (by omega), rIJ, e21, nI_1, en]
      rcases (show g = 0 ∨ g = 1 by omega) with rfl | rfl
      · rw [if_pos (by decide)]
        exact hQ
      · rw [if_neg (by decide)]
        exact hQ
    refine step _ ?_
    rw [fX11_readJoint_69]
    have e1 : (gsI (gsI (gsJ σ 183 (dn D 0) (lN (c256 (tL b m p)))) 186 (dn D 0) (nI g)) 168 21 (nI (dn D 0 + 1))).1 168 21 = nI (dn D 0 + 1) := rI_s
    rw [e1, nI_pred, addPR (P := dP D) hP (by simp (disch := omega) only [rI_o, rIJ]; exact e37), bd_r]
    change Wp (bd (fX11_next (sJ0 σ (dn D 0) (dP D) g (lN (c256 (tL b m p))))) _) _
    have P1 := h.dr (sJ0_D (σ := σ) (n := dn D 0) (P := dP D) (g := g) (l := lN (c256 (tL b m p))))
    have f1 : frD σ (sJ0 σ (dn D 0) (dP D) g (lN (c256 (tL b m p)))) := sJ0_D
    refine wp_bw P1.nx ?_
    rintro _ σ2 g2
    have P2 := g2.1
    have a2 := P2.le
    have r2 : σ2.1 168 21 = nI (dn D 0 + 1) := by
      rw [(g2.2 168 21 (by omega)).1]
      unfold sJ0
      simp (disch := omega) only [rI_o, rI_s]
    have cl : (nI (dn D 0)).toNatClampNeg = dn D 0 := nI_clamp (by omega)
    by_cases q2 : nmO (-1000) 1000 b m (tE b m p)
    · rw [cif_t q2]
      refine wp_bw (bouRw (lo := -1000) (hi := 1000) P2 q2) ?_
      rintro r3 σ3 ⟨rfl, b1, b2, g3⟩
      have f3 : frD σ3 (gsI σ3 184 (dn D 0) (iV b m (tE b m p))) := (frD.r σ3).i (by unfold pRD; omega)
      have P3 := g3.1.dr f3
      have a3 := P3.le
      have r3 : σ3.1 168 21 = nI (dn D 0 + 1) := by rw [(g3.2 168 21 (by omega)).1]; exact r2
      rw [r2, nI_pred, cl, gg_ix (by omega) (by decide), bnd_r]
      by_cases q3 : nmO (-1000) 1000 b m (tE b m (tE b m p))
      · rw [cif_t q3]
        refine wp_bw (bouRw (lo := -1000) (hi := 1000) P3 q3) ?_
        rintro r4 σ4 ⟨rfl, c1, c2, g4⟩
        have f4 : frD σ4 (gsI σ4 185 (dn D 0) (iV b m (tE b m (tE b m p)))) := (frD.r σ4).i (by unfold pRD; omega)
        have P4 := g4.1.dr f4
        have a4 := P4.le
        rw [rI_o (by omega), r3, nI_pred, cl, gg_ix (by omega) (by decide), bnd_r]
        have fS : frR (sJ1 σ (dn D 0) (dP D) g (lN (c256 (tL b m p))) (iV b m (tE b m p)) (iV b m (tE b m (tE b m p)))) (gsI σ4 185 (dn D 0) (iV b m (tE b m (tE b m p)))) := ((g2.2.t g3.2).w.t g4.2).w
        have RS := (sJ1_RD (l := tL b m p) (x := iV b m (tE b m p)) (y := iV b m (tE b m (tE b m p))) hg1 hD w).fr fS
        have v5 : WFb (dAdd g (tL b m p) (iV b m (tE b m p)) (iV b m (tE b m (tE b m p))) D) := WFb.add w v (by omega) (fun _ => ⟨b1, b2, c1, c2⟩) (fun z => by omega) (fun z => by omega) (fun z => by omega)
        have w5 : WFa (dAdd g (tL b m p) (iV b m (tE b m p)) (iV b m (tE b m (tE b m p))) D) := w.add (by omega) (by rw [k0]; show dn D 0 < 24; omega) (fun _ => nm)
        exact wp_bw (sgR RS w5 v5 P4 (((((f1.S.t g2.2.S).t g3.2.S).t f3.S).t g4.2.S).t f4.S) (p0 := p) (by omega)) (fun _ σ5 g5 => wp_r g5)
      · rw [cif_f q3]
        refine wp_bw (bouM_bad (lo := -1000) (hi := 1000) P3 q3) ?_
        rintro r4 σ4 g4
        rw [rI_o (by omega), r3, nI_pred, cl, gg_ix (by omega) (by decide), bnd_r, stopM_n (by rw [rI_o (by omega)]; exact g4.nz), bd_r]
        refine wp_r ⟨?_, ?_, g4.2.2.1, g4.2.2.2.1, ?_⟩
        · rw [rI_o (by omega)]; exact g4.1
        · rw [rI_o (by omega)]; exact g4.2.1
        · exact ((((f1.S.t g2.2.S).t g3.2.S).t f3.S).t g4.2.2.2.2.S).t ((frD.r σ4).i (by unfold pRD; omega)).S
    · rw [cif_f q2]
      refine wp_bw (bouM_bad (lo := -1000) (hi := 1000) P2 q2) ?_
      rintro r3 σ3 g3
      have r3' : σ3.1 168 21 = nI (dn D 0 + 1) := by rw [(g3.2.2.2.2 168 21 (by omega)).1]; exact r2
      rw [r2, nI_pred, cl, gg_ix (by omega) (by decide), bnd_r]
      have nz : ¬ (gsI σ3 184 (dn D 0) r3).1 168 49 = 0 := by rw [rI_o (by omega)]; exact g3.nz
      obtain ⟨r4, e4⟩ := bouM_n (lo := -1000) (hi := 1000) nz
      rw [e4, bd_r, rI_o (by omega), r3', nI_pred, cl, gg_ix (by omega) (by decide), bnd_r, stopM_n (by rw [rI_o (by omega)]; exact nz), bd_r]
      refine wp_r ⟨?_, ?_, g3.2.2.1, g3.2.2.2.1, ?_⟩
      · rw [rI_o (by omega), rI_o (by omega)]; exact g3.1
      · rw [rI_o (by omega), rI_o (by omega)]; exact g3.2.1
      · exact (((f1.S.t g2.2.S).t g3.2.2.2.2.S)).t (((frD.r σ3).i (by unfold pRD; omega)).i (by unfold pRD; omega)).S
  · rw [cif_f q1]
    refine wp_bw (nwR_bad w hD h q1 (fun z => by rw [show mxF 0 = 24 from rfl] at z; rw [if_pos z])) ?_
    rintro _ σ1 g1
    rw [goodM_n g1.nz, bd_r, i00]
    exact wp_r (BS_of (frS.r σ) g1)
/-! wheels -/
def sW (σ : gS) (n P : Nat) (l : Int64) (x y : Int32) : gS := gsI (gsI (gsI (gsI (gsI (gsI (gsJ σ 187 n l) 188 n x) 189 n y) 168 26 (nI (n + 1))) 195 P (nI 3)) 196 P (nI n)) 168 37 (nI (P + 1))
theorem sW_RD {l : List Nat} {x y : Int32} (hD : RD σ D) (w : WFa D) : RD (sW σ (dn D 2) (dP D) (lN (c256 l)) x y) (dAdd 3 l x y D) ∧ frD σ (sW σ (dn D 2) (dP D) (lN (c256 l)) x y) := by
  have w4 := w.n4
  refine ⟨hD.add (k := 3) (by decide) (fun j i hj hi => ?_) (fun i hi => ?_) (fun i hi => ?_) (fun i hi => ?_) (fun q hq => ?_) (fun j hj hne => ?_) ?_ w ?_ ?_ (fun z => absurd z (by decide)) (fun _ => ?_) (fun z => absurd z (by decide)), ?_⟩
  · unfold sW
    rcases (show j = 0 ∨ j = 1 ∨ j = 2 ∨ j = 3 by omega) with rfl | rfl | rfl | rfl
    · refine ⟨?_, ?_⟩
      · show (gsI _ _ _ _).1 184 i = σ.1 184 i
        simp (disch := omega) only [rI_o, rIJ]
      · show (gsI _ _ _ _).1 185 i = σ.1 185 i
        simp (disch := omega) only [rI_o, rIJ]
    · refine ⟨?_, ?_⟩
      · show (gsI _ _ _ _).1 190 i = σ.1 190 i
        simp (disch := omega) only [rI_o, rIJ]
      · show (gsI _ _ _ _).1 191 i = σ.1 191 i
        simp (disch := omega) only [rI_o, rIJ]
    · refine ⟨?_, ?_⟩
      · show (gsI _ _ _ _).1 188 i = σ.1 188 i
        simp (disch := omega) only [rI_o, rIJ]
      · show (gsI _ _ _ _).1 189 i = σ.1 189 i
        simp (disch := omega) only [rI_o, rIJ]
    · refine ⟨?_, ?_⟩
      · show (gsI _ _ _ _).1 193 i = σ.1 193 i
        simp (disch := omega) only [rI_o, rIJ]
      · show (gsI _ _ _ _).1 194 i = σ.1 194 i
        simp (disch := omega) only [rI_o, rIJ]
  · unfold sW
    refine ⟨?_, ?_⟩
    · simp (disch := omega) only [rI_o, rIJ]
    · simp (disch := omega) only [rJI, rJ_o]
  · unfold sW
    simp (disch := omega) only [rJI, rJ_o]
  · unfold sW
    simp (disch := omega) only [rI_o, rIJ]
  · unfold sW
    simp (disch := omega) only [rI_o, rIJ, and_self]
  · have : j = 0 ∨ j = 1 ∨ j = 3 := by have : ¬ j = 2 := hne; omega
    unfold sW
    rcases this with rfl | rfl | rfl
    · show (gsI _ _ _ _).1 168 21 = σ.1 168 21
      simp (disch := omega) only [rI_o, rIJ]
    · show (gsI _ _ _ _).1 168 30 = σ.1 168 30
      simp (disch := omega) only [rI_o, rIJ]
    · show (gsI _ _ _ _).1 168 33 = σ.1 168 33
      simp (disch := omega) only [rI_o, rIJ]
  · unfold sW
    simp (disch := omega) only [rI_o, rIJ, and_self]
  · show (sW σ (dn D 2) (dP D) (lN (c256 l)) x y).1 168 26 = nI (dn D 2 + 1) ∧ _ ∧ _ ∧ _ = nI (dn D 2)
    unfold sW
    simp (disch := omega) only [rI_o, rI_s, and_self]
  · show (sW σ (dn D 2) (dP D) (lN (c256 l)) x y).1 188 (dn D 2) = x ∧ (sW σ (dn D 2) (dP D) (lN (c256 l)) x y).1 189 (dn D 2) = y
    unfold sW
    simp (disch := omega) only [rI_o, rI_s, and_self]
  · unfold sW
    simp (disch := omega) only [rJI, rJ_s]
  · unfold sW
    exact (((((((frD.r σ).j (by unfold pRD; omega)).i (by unfold pRD; omega)).i (by unfold pRD; omega)).i (by unfold pRD; omega)).i (by unfold pRD; omega)).i (by unfold pRD; omega)).i (by unfold pRD; omega)
theorem rw_n68 {l : Int64} {x : Int32} (h : ¬ σ.1 168 49 = 0) : fX11_readWheel_68 l x σ = some ((), σ) := by
  obtain ⟨r, e⟩ := bouM_n (lo := 3) (hi := 200) h
  rw [fX11_readWheel_68, e, bd_r, goodM_n h, bd_r, i00, fX11_readWheel_137, stopM_n h, bd_r]
theorem rw_n56 {l : Int64} {x : Int32} (h : ¬ σ.1 168 49 = 0) : fX11_readWheel_56 l x σ = some ((), σ) := by
  rw [fX11_readWheel_56, goodM_n h, bd_r, i00, rw_n68 h]
theorem wheelR (hD : RD σ D) (w : WFa D) (v : WFb D) (h : PR σ b m p) : Wp (fX11_readWheel σ) (fun _ σ' => OR b m p σ (spW b m D p) σ') := by
  have w4 := w.n4
  have h9 := h.2.2.2.1
  have e26 : σ.1 168 26 = nI (dn D 2) := hD.1 2 (by decide)
  have a0 := h.le
  have hb16 : nI (dn D 2) = 16 ↔ dn D 2 = 16 := nI_eq (b := 16) (by omega) (by decide)
  have eRW : fX11_readWheel σ = fX11_readWheel_15 (if dn D 2 = 16 then 1 else 0) σ := by
    rw [fX11_readWheel, e26]
    by_cases q : dn D 2 = 16
    · rw [if_pos (hb16.mpr q), if_pos q]
    · rw [if_neg (fun z => q (hb16.mp z)), if_neg q]
  rw [eRW, fX11_readWheel_15, spW]
  by_cases q1 : okW D 2 b m p
  · have n16 : ¬ dn D 2 = 16 := q1.2.2
    have hP := dP_lt w (k := 3) (by decide) (show dn D 2 < 16 by omega)
    obtain ⟨-, en, nm⟩ := lm_N h.2.2.1 q1.1
    rw [cif_t q1, if_neg n16, nwR_ok w hD h q1, bd_r, goodM h9, bd_r, i10]
    refine wp_bw h.nx ?_
    rintro _ σ1 g1
    have P1 := g1.1
    have a1 := P1.le
    have D1 := hD.fr g1.2
    by_cases q2 : isW b m (tE b m p) 6
    · rw [cif_t q2]
      refine wp_bw (wwM_ok (w := 6) P1 (by decide) q2) ?_
      rintro _ σ2 g2
      have P2 := g2.1
      have a2 := P2.le
      have D2 := D1.fr g2.2
      rw [goodM P2.2.2.2.1, bd_r, i10]
      by_cases q3 : okO D 0 b m (tE b m (tE b m p))
      · rw [cif_t q3, ojR_ok w D2 P2 q3, bd_r, fX11_readWheel_56, goodM P2.2.2.2.1, bd_r, i10]
        refine wp_bw P2.nx ?_
        rintro _ σ3 g3
        have P3 := g3.1
        have a3 := P3.le
        have D3 := D2.fr g3.2
        rw [fX11_readWheel_68]
        by_cases q4 : nmO 3 200 b m (tE b m (tE b m (tE b m p)))
        · rw [cif_t q4]
          refine wp_bw (bouRw (lo := 3) (hi := 200) P3 q4) ?_
          rintro r4 σ4 ⟨rfl, b1, b2, g4⟩
          have P4 := g4.1
          have a4 := P4.le
          have D4 := D3.fr g4.2
          have e26' : σ4.1 168 26 = nI (dn D 2) := D4.1 2 (by decide)
          have e37 := D4.2.1
          rw [goodM P4.2.2.2.1, bd_r, i10]
          simp (disch := omega) only [e26', nI_clamp, gg_ix, bnd_r, rI_o, rI_s, rIJ, nI_1, nI_pred]
          rw [show (3 : Int32) = nI 3 from rfl, addPR (k := 3) (P := dP D) hP (by simp (disch := omega) only [rI_o, rIJ]; exact e37), bd_r, fX11_readWheel_137, en]
          rw [show (3 : Int32).toInt = 3 from rfl] at b1
          rw [show (200 : Int32).toInt = 200 from rfl] at b2
          obtain ⟨kk, kk1, kk2⟩ := nI_get (n := 201) (p := iV b m (tE b m (tE b m (tE b m p)))) (by omega) (by omega) (by decide)
          have kk3 : (iV b m (tE b m (tE b m (tE b m p)))).toInt = kk := by rw [kk2, nI_toInt (by omega)]
          obtain ⟨R5, f5⟩ := sW_RD (l := tL b m p) (x := nI (dF D 0 (tL b m (tE b m (tE b m p))))) (y := iV b m (tE b m (tE b m (tE b m p)))) D4 w
          have v5 : WFb (dAdd 3 (tL b m p) (nI (dF D 0 (tL b m (tE b m (tE b m p))))) (iV b m (tE b m (tE b m (tE b m p)))) D) := WFb.add w v (by decide) (fun z => absurd z (by decide)) (fun z => absurd z (by decide)) (fun _ => ⟨_, kk, q3.2, by omega, by omega, rfl, kk2⟩) (fun z => absurd z (by decide))
          have w5 : WFa (dAdd 3 (tL b m p) (nI (dF D 0 (tL b m (tE b m (tE b m p))))) (iV b m (tE b m (tE b m (tE b m p)))) D) := w.add (by decide) (show dn D 2 < 16 by omega) (fun _ => nm)
          exact wp_bw (sgR R5 w5 v5 (P4.dr f5) (((((g1.2.S).t g2.2.S).t g3.2.S).t g4.2.S).t f5.S) (p0 := p) (by omega)) (fun _ σ5 g5 => wp_r g5)
        · rw [cif_f q4]
          refine wp_bw (bouM_bad (lo := 3) (hi := 200) P3 q4) ?_
          rintro r4 σ4 g4
          rw [goodM_n g4.nz, bd_r, i00, fX11_readWheel_137, stopM_n g4.nz, bd_r]
          exact wp_r (BS_of (((g1.2.t g2.2).t g3.2).S) g4)
      · rw [cif_f q3]
        refine wp_bw (ojR_bad w D2 P2 q3) ?_
        rintro _ σ3 g3
        rw [rw_n56 g3.nz]
        exact wp_r (BS_of ((g1.2.t g2.2).S) g3)
    · rw [cif_f q2]
      refine wp_bw (wwM_bad (w := 6) P1 (by decide) q2) ?_
      rintro _ σ2 g2
      rw [goodM_n g2.nz, bd_r, i00, rw_n56 g2.nz]
      exact wp_r (BS_of g1.2.S g2)
  · rw [cif_f q1]
    refine wp_bw (nwR_bad w hD h q1 (fun z => by rw [show mxF 2 = 16 from rfl] at z; rw [if_pos z])) ?_
    rintro _ σ1 g1
    rw [goodM_n g1.nz, bd_r, i00]
    exact wp_r (BS_of (frS.r σ) g1)
/-! couplings -/
def sK (σ : gS) (n P k : Nat) (x y : Int32) : gS := gsI (gsI (gsI (gsI (gsI (gsI (gsI σ 192 n (nI k)) 193 n x) 194 n y) 168 33 (nI (n + 1))) 195 P (nI k)) 196 P (nI n)) 168 37 (nI (P + 1))
theorem sK_RD {x y : Int32} (hk : 4 ≤ k) (hk2 : k < 7) (hD : RD σ D) (w : WFa D) : RD (sK σ (dn D 3) (dP D) k x y) (dAdd k [] x y D) ∧ frD σ (sK σ (dn D 3) (dP D) k x y) := by
  have w4 := w.n4
  have fk : fam k = 3 := by rcases (show k = 4 ∨ k = 5 ∨ k = 6 by omega) with rfl | rfl | rfl <;> rfl
  refine ⟨hD.add (k := k) hk2 (fun j i hj hi => ?_) (fun i hi => ?_) (fun i hi => rfl) (fun i hi => ?_) (fun q hq => ?_) (fun j hj hne => ?_) ?_ w ?_ ?_ (fun z => by omega) (fun z => by omega) (fun _ => ?_), ?_⟩
  · unfold sK
    rcases (show j = 0 ∨ j = 1 ∨ j = 2 ∨ j = 3 by omega) with rfl | rfl | rfl | rfl
    · refine ⟨?_, ?_⟩
      · show (gsI _ _ _ _).1 184 i = σ.1 184 i
        simp (disch := omega) only [rI_o]
      · show (gsI _ _ _ _).1 185 i = σ.1 185 i
        simp (disch := omega) only [rI_o]
    · refine ⟨?_, ?_⟩
      · show (gsI _ _ _ _).1 190 i = σ.1 190 i
        simp (disch := omega) only [rI_o]
      · show (gsI _ _ _ _).1 191 i = σ.1 191 i
        simp (disch := omega) only [rI_o]
    · refine ⟨?_, ?_⟩
      · show (gsI _ _ _ _).1 188 i = σ.1 188 i
        simp (disch := omega) only [rI_o]
      · show (gsI _ _ _ _).1 189 i = σ.1 189 i
        simp (disch := omega) only [rI_o]
    · refine ⟨?_, ?_⟩
      · show (gsI _ _ _ _).1 193 i = σ.1 193 i
        simp (disch := omega) only [rI_o]
      · show (gsI _ _ _ _).1 194 i = σ.1 194 i
        simp (disch := omega) only [rI_o]
  · unfold sK
    refine ⟨?_, rfl⟩
    simp (disch := omega) only [rI_o]
  · unfold sK
    simp (disch := omega) only [rI_o]
  · unfold sK
    simp (disch := omega) only [rI_o, and_self]
  · rw [fk] at hne
    unfold sK
    rcases (show j = 0 ∨ j = 1 ∨ j = 2 by omega) with rfl | rfl | rfl
    · show (gsI _ _ _ _).1 168 21 = σ.1 168 21
      simp (disch := omega) only [rI_o]
    · show (gsI _ _ _ _).1 168 30 = σ.1 168 30
      simp (disch := omega) only [rI_o]
    · show (gsI _ _ _ _).1 168 26 = σ.1 168 26
      simp (disch := omega) only [rI_o]
  · unfold sK
    simp (disch := omega) only [rI_o, and_self]
  · rw [fk]
    show (sK σ (dn D 3) (dP D) k x y).1 168 33 = nI (dn D 3 + 1) ∧ _
    unfold sK
    simp (disch := omega) only [rI_o, rI_s, and_self]
  · rw [fk]
    show (sK σ (dn D 3) (dP D) k x y).1 193 (dn D 3) = x ∧ (sK σ (dn D 3) (dP D) k x y).1 194 (dn D 3) = y
    unfold sK
    simp (disch := omega) only [rI_o, rI_s, and_self]
  · unfold sK
    simp (disch := omega) only [rI_o, rI_s]
  · unfold sK
    exact (((((((frD.r σ).i (by unfold pRD; omega)).i (by unfold pRD; omega)).i (by unfold pRD; omega)).i (by unfold pRD; omega)).i (by unfold pRD; omega)).i (by unfold pRD; omega)).i (by unfold pRD; omega)
theorem rc_n92 {x u v : Int32} (h : ¬ σ.1 168 49 = 0) : fX11_readCoupling_92 x u v σ = some ((), σ) := by
  rw [fX11_readCoupling_92, goodM_n h, bd_r, i00, fX11_readCoupling_154, stopM_n h, bd_r]
theorem rc_n54 {x u v : Int32} (h : ¬ σ.1 168 49 = 0) : fX11_readCoupling_54 x u v σ = some ((), σ) := by
  rw [fX11_readCoupling_54, goodM_n h, bd_r, i00, rc_n92 h]
theorem rc_n31 {x u v : Int32} (h : ¬ σ.1 168 49 = 0) : fX11_readCoupling_31 x u v σ = some ((), σ) := by
  rw [fX11_readCoupling_31, goodM_n h, bd_r, i00, rc_n54 h]
theorem rc_n16 {x u : Int32} (h : ¬ σ.1 168 49 = 0) : fX11_readCoupling_16 x u σ = some ((), σ) := by
  rw [fX11_readCoupling_16, goodM_n h, bd_r, i00, rc_n31 h]
theorem coupR (hk : 4 ≤ k) (hk2 : k < 7) (hD : RD σ D) (w : WFa D) (v : WFb D) (h : PR σ b m p) : Wp (fX11_readCoupling (nI k) σ) (fun _ σ' => OR b m p σ (spK b m k D p) σ') := by
  have fk : fam k = 3 := by rcases (show k = 4 ∨ k = 5 ∨ k = 6 by omega) with rfl | rfl | rfl <;> rfl
  have w4 := w.n4
  have h9 := h.2.2.2.1
  have a0 := h.le
  rw [fX11_readCoupling, spK]
  by_cases q1 : okO D 2 b m p
  · rw [cif_t q1, owR_ok w hD h q1, bd_r, goodM h9, bd_r, i10]
    refine wp_bw h.nx ?_
    rintro _ σ1 g1
    have P1 := g1.1
    have a1 := P1.le
    have D1 := hD.fr g1.2
    rw [fX11_readCoupling_16, goodM P1.2.2.2.1, bd_r, i10]
    by_cases q2 : okO D 2 b m (tE b m p)
    · rw [cif_t q2, owR_ok w D1 P1 q2, bd_r, fX11_readCoupling_31, goodM P1.2.2.2.1, bd_r, i10, show σ1.1 168 33 = nI (dn D 3) from D1.1 3 (by decide)]
      have i1 := q1.2
      have i2 := q2.2
      have e33 : σ1.1 168 33 = nI (dn D 3) := D1.1 3 (by decide)
      have e37 := D1.2.1
      by_cases q3 : dn D 3 = 30
      · have hb : BR σ1 (gsI (gsI σ1 168 49 (nI 6)) 168 50 (σ1.1 168 46)) 6 (tS b m (tE b m p)) := br_of P1.2.2.1 (frR.r σ1) (by decide) (by decide)
        rw [if_pos (by rw [q3]; rfl), show (6 : Int32) = nI 6 from rfl, badM P1.2.2.2.1, bd_r, rc_n54 hb.nz, cif_t q3]
        exact wp_r (BS_of g1.2.S hb)
      · rw [if_neg (show ¬ nI (dn D 3) = 30 from fun z => q3 ((nI_eq (b := 30) (by omega) (by decide)).mp z)), cif_f q3, fX11_readCoupling_54, goodM P1.2.2.2.1, bd_r, i10]
        generalize hA : dF D 2 (tL b m p) = A at *
        generalize hC : dF D 2 (tL b m (tE b m p)) = C at *
        have x1 : σ1.1 188 A = dx D (dm D 2 A) := (D1.2.2.2.1 2 A (by decide) i1).1
        have x2 : σ1.1 188 C = dx D (dm D 2 C) := (D1.2.2.2.1 2 C (by decide) i2).1
        have fin : ¬ bdC D k A C → Wp (fX11_readCoupling_92 (nI k) (nI A) (nI C) σ1) (fun _ σ' => OR b m p σ (cif (bdC D k A C) (.error (7, tS b m (tE b m p))) (sgS b m (dAdd k [] (nI A) (nI C) D) (tE b m (tE b m p)))) σ') := by
          intro nb
          have hP := dP_lt w (k := k) hk2 (show dn D (fam k) < mxF (fam k) by rw [fk]; show dn D 3 < 30; omega)
          rw [fX11_readCoupling_92, goodM P1.2.2.2.1, bd_r, i10, cif_f nb]
          simp (disch := omega) only [e33, nI_clamp, gg_ix, bnd_r, rI_o, rI_s, nI_1, nI_pred]
          rw [addPR (P := dP D) hP (by simp (disch := omega) only [rI_o]; exact e37), bd_r]
          obtain ⟨R3, f3⟩ := sK_RD (x := nI A) (y := nI C) hk hk2 D1 w
          have P3 := P1.dr f3
          refine wp_bw P3.nx ?_
          rintro _ σ4 g4
          have a4 := g4.1.le
          rw [fX11_readCoupling_154]
          have v3 : WFb (dAdd k [] (nI A) (nI C) D) := WFb.add w v hk2 (fun z => by omega) (fun z => by omega) (fun z => by omega) (fun _ => ⟨A, C, i1, i2, fun z => nb (Or.inl z), rfl, rfl⟩)
          have w3 : WFa (dAdd k [] (nI A) (nI C) D) := w.add hk2 (by rw [fk]; show dn D 3 < 30; omega) (fun z => by omega)
          exact wp_bw (sgR (R3.fr g4.2) w3 v3 g4.1 ((g1.2.S.t f3.S).t g4.2.S) (p0 := p) (by omega)) (fun _ σ5 g5 => wp_r g5)
        have fin7 : bdC D k A C → Wp (fX11_readCoupling_86 (nI k) (nI A) (nI C) σ1) (fun _ σ' => OR b m p σ (cif (bdC D k A C) (.error (7, tS b m (tE b m p))) (sgS b m (dAdd k [] (nI A) (nI C) D) (tE b m (tE b m p)))) σ') := by
          intro nb
          have hb : BR σ1 (gsI (gsI σ1 168 49 (nI 7)) 168 50 (σ1.1 168 46)) 7 (tS b m (tE b m p)) := br_of P1.2.2.1 (frR.r σ1) (by decide) (by decide)
          rw [cif_t nb, fX11_readCoupling_86, show (7 : Int32) = nI 7 from rfl, badM P1.2.2.2.1, bd_r, rc_n92 hb.nz]
          exact wp_r (BS_of g1.2.S hb)
        by_cases q4 : A = C
        · rw [if_pos (by rw [q4])]
          exact fin7 (Or.inl q4)
        · rw [if_neg (fun z => q4 ((nI_eq (by omega) (by omega)).mp z))]
          by_cases q5 : k = 4
          · rw [if_pos (show nI k = 4 by rw [q5]; rfl), nI_clamp (by omega), nI_clamp (by omega), gg_ix (by omega) (by decide), gg_ix (by omega) (by decide), x1, x2]
            by_cases q6 : dx D (dm D 2 A) = dx D (dm D 2 C)
            · rw [if_pos q6]
              exact fin7 (Or.inr ⟨q5, q6⟩)
            · rw [if_neg q6]
              exact fin (fun z => z.elim q4 (fun z => q6 z.2))
          · rw [if_neg (show ¬ nI k = 4 from fun z => q5 ((nI_eq (b := 4) (by omega) (by decide)).mp z))]
            exact fin (fun z => z.elim q4 (fun z => q5 z.1))
    · rw [cif_f q2]
      refine wp_bw (owR_bad w D1 P1 q2) ?_
      rintro _ σ2 g2
      rw [rc_n31 g2.nz]
      exact wp_r (BS_of g1.2.S g2)
  · rw [cif_f q1]
    refine wp_bw (owR_bad w hD h q1) ?_
    rintro _ σ1 g1
    rw [goodM_n g1.nz, bd_r, i00, rc_n16 g1.nz]
    exact wp_r (BS_of (frS.r σ) g1)
/-! the drive -/
theorem RD.set (hD : RD σ D) : RD (gsI (gsI σ 168 40 (nI a)) 168 41 (nI c)) (dSet a c D) ∧ frD σ (gsI (gsI σ 168 40 (nI a)) 168 41 (nI c)) := by
  obtain ⟨r1, r2, r3, r4, r5, r6, r7, r8, r9⟩ := hD
  refine ⟨⟨fun g hg => ?_, ?_, fun q hq => ?_, fun g i hg hi => ?_, fun i hi => ?_, fun i hi => r6 i hi, fun i hi => ?_, fun z => (nomatch z), fun x y z => ?_⟩, ((frD.r σ).i (by unfold pRD; omega)).i (by unfold pRD; omega)⟩
  · have := szF_le g
    rw [rI_o (by omega), rI_o (by omega)]; exact r1 g hg
  · rw [rI_o (by omega), rI_o (by omega)]; exact r2
  · simp (disch := omega) only [rI_o]; exact r3 q hq
  · have := h1F_b hg
    have := h2F_b hg
    simp (disch := omega) only [rI_o]; exact r4 g i hg hi
  · rw [rI_o (by omega), rI_o (by omega)]; exact r5 i hi
  · simp (disch := omega) only [rI_o]; exact r7 i hi
  · have : a = x ∧ c = y := by
      have z : some (a, c) = some (x, y) := z
      injection z with z
      injection z with z1 z2
      exact ⟨z1, z2⟩
    rw [← this.1, ← this.2, rI_s, rI_o (by omega), rI_s]
    exact ⟨rfl, rfl⟩
theorem rd_n85 {u v : Int32} (h : ¬ σ.1 168 49 = 0) : fX11_readDrive_85 u v σ = some ((), σ) := by
  rw [fX11_readDrive_85, goodM_n h, bd_r, i00, fX11_readDrive_106, stopM_n h, bd_r]
theorem rd_n37 {u v : Int32} (h : ¬ σ.1 168 49 = 0) : fX11_readDrive_37 u v σ = some ((), σ) := by
  rw [fX11_readDrive_37, goodM_n h, bd_r, i00, rd_n85 h]
theorem rd_n16 {u : Int32} (h : ¬ σ.1 168 49 = 0) : fX11_readDrive_16 u σ = some ((), σ) := by
  rw [fX11_readDrive_16, wwM_n h, bd_r, goodM_n h, bd_r, i00, rd_n37 h]
theorem driveR (hD : RD σ D) (w : WFa D) (v : WFb D) (h : PR σ b m p) : Wp (fX11_readDrive σ) (fun _ σ' => OR b m p σ (spD b m D p) σ') := by
  have w4 := w.n4
  have h9 := h.2.2.2.1
  have a0 := h.le
  rw [fX11_readDrive, spD]
  by_cases q1 : okO D 0 b m p
  · rw [cif_t q1, ojR_ok w hD h q1, bd_r, goodM h9, bd_r, i10]
    refine wp_bw h.nx ?_
    rintro _ σ1 g1
    have P1 := g1.1
    have a1 := P1.le
    have D1 := hD.fr g1.2
    rw [fX11_readDrive_16]
    by_cases q2 : isW b m (tE b m p) 11
    · rw [cif_t q2]
      refine wp_bw (wwM_ok (w := 11) P1 (by decide) q2) ?_
      rintro _ σ2 g2
      have P2 := g2.1
      have a2 := P2.le
      have D2 := D1.fr g2.2
      rw [goodM P2.2.2.2.1, bd_r, i10]
      by_cases q3 : okO D 0 b m (tE b m (tE b m p))
      · rw [cif_t q3, ojR_ok w D2 P2 q3, bd_r, fX11_readDrive_37, goodM P2.2.2.2.1, bd_r, i10]
        have i1 := q1.2
        have i2 := q3.2
        generalize hA : dF D 0 (tL b m p) = A at *
        generalize hC : dF D 0 (tL b m (tE b m (tE b m p))) = C at *
        have x1 := (D2.2.2.2.2.1 A i1).1
        have x2 := (D2.2.2.2.2.1 C i2).1
        have fin8 : bdD D A C → Wp (fX11_readDrive_79 (nI A) (nI C) σ2) (fun _ σ' => OR b m p σ (cif (bdD D A C) (.error (8, tS b m (tE b m (tE b m p)))) (sgS b m (dSet A C D) (tE b m (tE b m (tE b m p))))) σ') := by
          intro nb
          have hb : BR σ2 (gsI (gsI σ2 168 49 (nI 8)) 168 50 (σ2.1 168 46)) 8 (tS b m (tE b m (tE b m p))) := br_of P2.2.2.1 (frR.r σ2) (by decide) (by decide)
          rw [cif_t nb, fX11_readDrive_79, show (8 : Int32) = nI 8 from rfl, badM P2.2.2.2.1, bd_r, rd_n85 hb.nz]
          exact wp_r (BS_of (g1.2.t g2.2).S hb)
        rw [nI_clamp (show C < 2 ^ 31 by omega), gg_ix (by omega) (by decide), x2]
        by_cases q4 : dk D (dm D 0 C) = 1
        · rw [if_pos q4, i10, nI_clamp (show A < 2 ^ 31 by omega), gg_ix (by omega) (by decide), x1]
          by_cases q5 : dk D (dm D 0 A) = 1
          · rw [if_pos q5, i10]
            exact fin8 (Or.inr (Or.inl q5))
          · rw [if_neg q5, i00, hasBarR w D2, bd_r]
            by_cases q6 : hB D A C
            · rw [cif_t q6, i10]
              rcases hdd : dd D with _ | ⟨x, y⟩
              · have nb : ¬ bdD D A C := fun z => z.elim (fun z => z q4) (fun z => z.elim q5 (fun z => z.elim (fun z => z q6) (fun z => z hdd)))
                obtain ⟨R3, f3⟩ := RD.set (a := A) (c := C) D2
                have P3 := P2.dr f3
                rw [(D2.2.2.2.2.2.2.2.1 hdd).1, if_pos (by decide), fX11_readDrive_85, goodM P2.2.2.2.1, bd_r, i10, bnd_r, bnd_r, cif_f nb]
                refine wp_bw P3.nx ?_
                rintro _ σ4 g4
                have a4 := g4.1.le
                rw [fX11_readDrive_106]
                exact wp_bw (sgR (D := dSet A C D) (R3.fr g4.2) w (v.set i1 i2 q5 q4) g4.1 (((g1.2.t g2.2).S.t f3.S).t g4.2.S) (p0 := p) (by omega)) (fun _ σ5 g5 => wp_r g5)
              · have i3 := v.2.2.2.2 x y hdd
                rw [(D2.2.2.2.2.2.2.2.2 x y hdd).1, if_neg (nI_pos (by omega))]
                exact fin8 (Or.inr (Or.inr (Or.inr (by rw [hdd]; exact fun z => (nomatch z)))))
            · rw [cif_f q6, i00]
              exact fin8 (Or.inr (Or.inr (Or.inl q6)))
        · rw [if_neg q4, i00]
          exact fin8 (Or.inl q4)
      · rw [cif_f q3]
        refine wp_bw (ojR_bad w D2 P2 q3) ?_
        rintro _ σ3 g3
        rw [rd_n37 g3.nz]
        exact wp_r (BS_of (g1.2.t g2.2).S g3)
    · rw [cif_f q2]
      refine wp_bw (wwM_bad (w := 11) P1 (by decide) q2) ?_
      rintro _ σ2 g2
      rw [goodM_n g2.nz, bd_r, i00, rd_n37 g2.nz]
      exact wp_r (BS_of g1.2.S g2)
  · rw [cif_f q1]
    refine wp_bw (ojR_bad w hD h q1) ?_
    rintro _ σ1 g1
    rw [goodM_n g1.nz, bd_r, i00, rd_n16 g1.nz]
    exact wp_r (BS_of (frS.r σ) g1)
end STX

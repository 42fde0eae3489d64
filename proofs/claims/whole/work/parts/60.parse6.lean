/-! THE REFERENCE'S reading of the same statements -/
def frS (σ σ' : gS) : Prop := ∀ x y, ¬ (x = 168 ∧ 44 ≤ y ∧ y ≤ 51) → ¬ pRD x y → sm σ σ' x y
def BS (σ σ' : gS) (f s : Nat) : Prop := σ'.1 168 49 = nI f ∧ σ'.1 168 50 = nI s ∧ 0 < f ∧ f < 10 ∧ frS σ σ'
def OR (b : Nat → Nat) (m p : Nat) (σ : gS) (o : RS) (σ' : gS) : Prop := match o with
  | .error e => BS σ σ' e.1 e.2
  | .ok q => RD σ' q.1 ∧ WFa q.1 ∧ WFb q.1 ∧ PR σ' b m q.2 ∧ p ≤ q.2 ∧ frS σ σ'
section STR
variable {σ σ' τ : gS} {D : DT} {b : Nat → Nat} {m p k a c f s : Nat}
theorem frS.t {σ τ υ : gS} (h : frS σ τ) (h' : frS τ υ) : frS σ υ := fun x y q r => sm_t (h x y q r) (h' x y q r)
theorem frS.r (σ : gS) : frS σ σ := fun x y _ _ => sm_r σ x y
theorem frR.S (h : frR σ σ') : frS σ σ' := fun x y q _ => h x y q
theorem BS_of (h : frS τ σ) (g : BR σ σ' f s) : BS τ σ' f s := ⟨g.1, g.2.1, g.2.2.1, g.2.2.2.1, h.t g.2.2.2.2.S⟩
theorem BS.nz (h : BS σ σ' f s) : ¬ σ'.1 168 49 = 0 := by rw [h.1]; exact nI_ne0 h.2.2.1 (by have := h.2.2.2.1; omega)
theorem OR.t {o : RS} {p0 : Nat} (hf : frS τ σ) (hp : p0 ≤ p) (h : OR b m p σ o σ') : OR b m p0 τ o σ' := by
  cases o with
  | error e => exact ⟨h.1, h.2.1, h.2.2.1, h.2.2.2.1, hf.t h.2.2.2.2⟩
  | ok q => exact ⟨h.1, h.2.1, h.2.2.1, h.2.2.2.1, Nat.le_trans hp h.2.2.2.2.1, hf.t h.2.2.2.2.2⟩
def frD (σ σ' : gS) : Prop := ∀ x y, ¬ pRD x y → sm σ σ' x y
theorem frD.S (h : frD σ σ') : frS σ σ' := fun x y _ r => h x y r
theorem frD.tp (h : frD σ σ') (q : TPr σ b m) : TPr σ' b m := by
  refine q.keep (h 168 43 ?_).1 (fun i => (h 197 i ?_).1) <;> unfold pRD <;> omega
theorem PR.dr (h : PR σ b m p) (hf : frD σ σ') : PR σ' b m p := by
  have e : ∀ y, 44 ≤ y → y ≤ 51 → sm σ σ' 168 y := fun y _ _ => hf 168 y (by unfold pRD; omega)
  exact ⟨hf.tp h.1, ⟨h.2.1.1, by rw [(e 50 (by omega) (by omega)).1]; exact h.2.1.2⟩, RT.keep h.2.2.1 (fun y h1 h2 => (e y h1 h2).1) (e 47 (by omega) (by omega)).2.1, by rw [(e 49 (by omega) (by omega)).1]; exact h.2.2.2.1, h.2.2.2.2⟩
theorem RD.fr (h : RD σ D) (hf : frR σ σ') : RD σ' D := h.keep (fun x y z => by
  have := hf x y (by unfold pRD at z; omega)
  exact ⟨this.1, this.2.1⟩)
theorem PR.le (h : PR σ b m p) : p ≤ tE b m p ∧ tE b m p ≤ m := TKo.le' h.2.2.2.2 h.2.1.1
theorem frD.r (σ : gS) : frD σ σ := fun x y _ => sm_r σ x y
theorem frD.i (h : frD σ σ') {x y : Nat} {v : Int32} (q : pRD x y) : frD σ (gsI σ' x y v) := fun a c z => sm_I (h a c z) (fun ⟨e1, e2⟩ => z (by rw [e1, e2]; exact q)) rfl
theorem frD.j (h : frD σ σ') {x y : Nat} {v : Int64} (q : pRD x y) : frD σ (gsJ σ' x y v) := fun a c z => sm_J (h a c z) (fun ⟨e1, e2⟩ => z (by rw [e1, e2]; exact q)) rfl
theorem rIJ {σ : gS} {h k : Nat} {v : Int64} {x y : Nat} : (gsJ σ h k v).1 x y = σ.1 x y := rfl
theorem rJI {σ : gS} {h k : Nat} {v : Int32} {x y : Nat} : (gsI σ h k v).2.1 x y = σ.2.1 x y := rfl
theorem sgR (hD : RD σ D) (w : WFa D) (v : WFb D) (h : PR σ b m p) (hf : frS τ σ) {p0 : Nat} (hp : p0 ≤ tE b m p) : Wp (fX11_stop σ) (fun _ σ' => OR b m p0 τ (sgS b m D p) σ') := by
  by_cases q : tK b m p = 5
  · refine wp_m (stopM_ok h q) ?_
    rintro _ σ' hg
    rw [sgS, cif_t q]
    exact ⟨hD.fr hg.2, w, v, hg.1, hp, hf.t hg.2.S⟩
  · refine wp_m (stopM_bad h q) ?_
    rintro _ σ' hb
    rw [sgS, cif_f q]
    exact BS_of hf hb
theorem bouRw {lo hi : Int32} (h : PR σ b m p) (q : nmO lo.toInt hi.toInt b m p) : Wp (fX11_bounded lo hi σ) (fun r σ' => r = iV b m p ∧ lo.toInt ≤ r.toInt ∧ r.toInt ≤ hi.toInt ∧ GR σ σ' b m (tE b m p)) := by
  refine wp_m (bouM_ok h q.1 q.2.1 q.2.2) ?_
  rintro r σ' ⟨e, hg⟩
  exact ⟨iV_of e, by rw [e]; exact q.2.1, by rw [e]; exact q.2.2, hg⟩
/-! bars -/
def sB (σ : gS) (n P : Nat) (x y : Int32) : gS := gsI (gsI (gsI (gsI (gsI (gsI σ 190 n x) 191 n y) 168 30 (nI (n + 1))) 195 P 2) 196 P (nI n)) 168 37 (nI (P + 1))
theorem addPR {k n P : Nat} (hP : P < 130) (e : σ.1 168 37 = nI P) : fX11_addPart (nI k) (nI n) σ = some ((), gsI (gsI (gsI σ 195 P (nI k)) 196 P (nI n)) 168 37 (nI (P + 1))) := by
  simp (disch := omega) only [fX11_addPart, e, nI_clamp, gg_ix, bnd_r, rI_o, nI_1]
theorem dP_lt (w : WFa D) (hk : k < 7) (hn : dn D (fam k) < mxF (fam k)) : dP D < 130 := by
  have := (w.add (x := 0) (y := 0) (l := []) hk hn (fun _ => ⟨fun c hc => (by cases hc), (by decide)⟩)).np
  rw [dP_add hk] at this
  omega
theorem sB_RD (hD : RD σ D) (w : WFa D) (hn : ¬ dn D 1 = 60) {x y : Int32} : RD (sB σ (dn D 1) (dP D) x y) (dAdd 2 [] x y D) ∧ frD σ (sB σ (dn D 1) (dP D) x y) := by
  have w4 := w.n4
  refine ⟨hD.add (k := 2) (by decide) (fun g i hg hi => ?_) (fun i hi => ?_) (fun i hi => rfl) (fun i hi => ?_) (fun q hq => ?_) (fun g hg hne => ?_) ?_ w ?_ ?_ (fun z => absurd z (by decide)) (fun z => absurd z (by decide)) (fun z => absurd z (by decide)), ?_⟩
  · unfold sB
    rcases (show g = 0 ∨ g = 1 ∨ g = 2 ∨ g = 3 by omega) with rfl | rfl | rfl | rfl
    · refine ⟨?_, ?_⟩
      · show (gsI _ _ _ _).1 184 i = σ.1 184 i
        simp (disch := omega) only [rI_o]
      · show (gsI _ _ _ _).1 185 i = σ.1 185 i
        simp (disch := omega) only [rI_o]
    · refine ⟨?_, ?_⟩
      · show (gsI _ _ _ _).1 190 i = σ.1 190 i
        simp (disch := omega) only [rI_o]
      · show (gsI _ _ _ _).1 191 i = σ.1 191 i
        simp (disch := omega) only [rI_o]
    · refine ⟨?_, ?_⟩
      · show (gsI _ _ _ _).1 188 i = σ.1 188 i
        simp (disch := omega) only [rI_o]
      · show (gsI _ _ _ _).1 189 i = σ.1 189 i
        simp (disch := omega) only [rI_o]
    · refine ⟨?_, ?_⟩
      · show (gsI _ _ _ _).1 193 i = σ.1 193 i
        simp (disch := omega) only [rI_o]
      · show (gsI _ _ _ _).1 194 i = σ.1 194 i
        simp (disch := omega) only [rI_o]
  · unfold sB
    refine ⟨?_, rfl⟩
    simp (disch := omega) only [rI_o]
  · unfold sB
    simp (disch := omega) only [rI_o]
  · unfold sB
    simp (disch := omega) only [rI_o, and_self]
  · have : g = 0 ∨ g = 2 ∨ g = 3 := by have : ¬ g = 1 := hne; omega
    unfold sB
    rcases this with rfl | rfl | rfl
    · show (gsI _ _ _ _).1 168 21 = σ.1 168 21
      simp (disch := omega) only [rI_o]
    · show (gsI _ _ _ _).1 168 26 = σ.1 168 26
      simp (disch := omega) only [rI_o]
    · show (gsI _ _ _ _).1 168 33 = σ.1 168 33
      simp (disch := omega) only [rI_o]
  · unfold sB
    simp (disch := omega) only [rI_o, and_self]
  · show (sB σ (dn D 1) (dP D) x y).1 168 30 = nI (dn D 1 + 1) ∧ _ ∧ _ = (2 : Int32) ∧ _ = nI (dn D 1)
    unfold sB
    simp (disch := omega) only [rI_o, rI_s, and_self]
  · show (sB σ (dn D 1) (dP D) x y).1 190 (dn D 1) = x ∧ (sB σ (dn D 1) (dP D) x y).1 191 (dn D 1) = y
    unfold sB
    simp (disch := omega) only [rI_o, rI_s, and_self]
  · unfold sB
    exact ((((((frD.r σ).i (by unfold pRD; omega)).i (by unfold pRD; omega)).i (by unfold pRD; omega)).i (by unfold pRD; omega)).i (by unfold pRD; omega)).i (by unfold pRD; omega)
theorem abR_n {x y : Int32} (h : ¬ σ.1 168 49 = 0) : fX11_addBar x y σ = some ((), σ) := by
  rw [fX11_addBar, goodM_n h, bd_r, i00, fX11_addBar_22, goodM_n h, bd_r, i00, fX11_addBar_79, goodM_n h, bd_r, i00, fX11_addBar_127]
theorem abR_ok (hD : RD σ D) (w : WFa D) (v : WFb D) (h9 : σ.1 168 49 = 0) (ha : a < dn D 0) (hc : c < dn D 0) (hn : ¬ dn D 1 = 60) (hd : ¬ (sme D a c ∨ hB D a c)) : Wp (fX11_addBar (nI a) (nI c) σ) (fun _ σ' => RD σ' (dAdd 2 [] (nI a) (nI c) D) ∧ WFa (dAdd 2 [] (nI a) (nI c) D) ∧ WFb (dAdd 2 [] (nI a) (nI c) D) ∧ frD σ σ') := by
  have w4 := w.n4
  have e0 : σ.1 168 30 = nI (dn D 1) := hD.1 1 (by decide)
  have e37 := hD.2.1
  have hP := dP_lt w (k := 2) (by decide) (show dn D 1 < 60 by omega)
  have ac : ¬ a = c := fun z => hd (Or.inl (by subst z; exact ⟨rfl, rfl⟩))
  obtain ⟨x1, y1⟩ := hD.2.2.2.1 0 a (by decide) ha
  obtain ⟨x2, y2⟩ := hD.2.2.2.1 0 c (by decide) hc
  have x1 : σ.1 184 a = dx D (dm D 0 a) := x1
  have y1 : σ.1 185 a = dy D (dm D 0 a) := y1
  have x2 : σ.1 184 c = dx D (dm D 0 c) := x2
  have y2 : σ.1 185 c = dy D (dm D 0 c) := y2
  have fin : Wp (fX11_addBar_79 (nI a) (nI c) σ) (fun _ σ' => RD σ' (dAdd 2 [] (nI a) (nI c) D) ∧ WFa (dAdd 2 [] (nI a) (nI c) D) ∧ WFb (dAdd 2 [] (nI a) (nI c) D) ∧ frD σ σ') := by
    rw [fX11_addBar_79, goodM h9, bd_r, i10]
    simp (disch := omega) only [e0, nI_clamp, gg_ix, bnd_r, rI_o, rI_s, nI_1, nI_pred]
    rw [show (2 : Int32) = nI 2 from rfl, addPR (k := 2) hP (by simp (disch := omega) only [rI_o]; exact e37), bd_r, fX11_addBar_127]
    obtain ⟨r1, r2⟩ := sB_RD hD w hn (x := nI a) (y := nI c)
    exact wp_r ⟨r1, w.add (by decide) (show dn D 1 < 60 by omega) (fun z => absurd z (by decide)), WFb.add w v (by decide) (fun z => absurd z (by decide)) (fun _ => ⟨a, c, ha, hc, ac, rfl, rfl⟩) (fun z => absurd z (by decide)) (fun z => absurd z (by decide)), r2⟩
  have fin64 : Wp (fX11_addBar_64 (nI a) (nI c) σ) (fun _ σ' => RD σ' (dAdd 2 [] (nI a) (nI c) D) ∧ WFa (dAdd 2 [] (nI a) (nI c) D) ∧ WFb (dAdd 2 [] (nI a) (nI c) D) ∧ frD σ σ') := by
    rw [fX11_addBar_64, hasBarR w hD, cif_f (fun z => hd (Or.inr z)), bd_r, i00]
    exact fin
  rw [fX11_addBar, goodM h9, bd_r, i10, e0, if_neg (show ¬ nI (dn D 1) = 60 from fun z => hn ((nI_eq (b := 60) (by omega) (by decide)).mp z)), fX11_addBar_22, goodM h9, bd_r, i10, if_neg (fun z => ac ((nI_eq (by omega) (by omega)).mp z)), nI_clamp (by omega), nI_clamp (by omega), gg_ix (by omega) (by decide), gg_ix (by omega) (by decide), x1, x2]
  by_cases q1 : dx D (dm D 0 a) = dx D (dm D 0 c)
  · rw [if_pos q1, gg_ix (by omega) (by decide), gg_ix (by omega) (by decide), y1, y2, if_neg (fun z => hd (Or.inl ⟨q1, z⟩))]
    exact fin64
  · rw [if_neg q1]
    exact fin64
theorem abR_bad (hD : RD σ D) (w : WFa D) (h : PR σ b m p) (ha : a < dn D 0) (hc : c < dn D 0) (hd : dn D 1 = 60 ∨ (sme D a c ∨ hB D a c)) : Wp (fX11_addBar (nI a) (nI c) σ) (fun _ σ' => BR σ σ' (abF D) (tS b m p)) := by
  have w4 := w.n4
  have h9 := h.2.2.2.1
  have e0 : σ.1 168 30 = nI (dn D 1) := hD.1 1 (by decide)
  obtain ⟨x1, y1⟩ := hD.2.2.2.1 0 a (by decide) ha
  obtain ⟨x2, y2⟩ := hD.2.2.2.1 0 c (by decide) hc
  have x1 : σ.1 184 a = dx D (dm D 0 a) := x1
  have y1 : σ.1 185 a = dy D (dm D 0 a) := y1
  have x2 : σ.1 184 c = dx D (dm D 0 c) := x2
  have y2 : σ.1 185 c = dy D (dm D 0 c) := y2
  have b6 : BR σ (gsI (gsI σ 168 49 (nI 6)) 168 50 (σ.1 168 46)) 6 (tS b m p) := br_of h.2.2.1 (frR.r σ) (by decide) (by decide)
  have b7 : BR σ (gsI (gsI σ 168 49 (nI 7)) 168 50 (σ.1 168 46)) 7 (tS b m p) := br_of h.2.2.1 (frR.r σ) (by decide) (by decide)
  have f7 : Wp (fX11_addBar_73 (nI a) (nI c) σ) (fun _ σ' => BR σ σ' 7 (tS b m p)) := by
    rw [fX11_addBar_73, show (7 : Int32) = nI 7 from rfl, badM h9, bd_r, fX11_addBar_79, goodM_n b7.nz, bd_r, i00, fX11_addBar_127]
    exact wp_r b7
  rw [fX11_addBar, goodM h9, bd_r, i10, e0]
  by_cases hn : dn D 1 = 60
  · rw [if_pos (by rw [hn]; rfl), show (6 : Int32) = nI 6 from rfl, badM h9, bd_r, fX11_addBar_22, goodM_n b6.nz, bd_r, i00, fX11_addBar_79, goodM_n b6.nz, bd_r, i00, fX11_addBar_127, abF, if_pos hn]
    exact wp_r b6
  · have hd2 := hd.resolve_left hn
    rw [if_neg (show ¬ nI (dn D 1) = 60 from fun z => hn ((nI_eq (b := 60) (by omega) (by decide)).mp z)), fX11_addBar_22, goodM h9, bd_r, i10, abF, if_neg hn]
    by_cases ac : a = c
    · rw [if_pos (by rw [ac])]
      exact f7
    · rw [if_neg (fun z => ac ((nI_eq (by omega) (by omega)).mp z)), nI_clamp (by omega), nI_clamp (by omega), gg_ix (by omega) (by decide), gg_ix (by omega) (by decide), x1, x2]
      have f64 : ¬ sme D a c → Wp (fX11_addBar_64 (nI a) (nI c) σ) (fun _ σ' => BR σ σ' 7 (tS b m p)) := by
        intro z
        rw [fX11_addBar_64, hasBarR w hD, cif_t (hd2.resolve_left z), bd_r, i10]
        exact f7
      by_cases q1 : dx D (dm D 0 a) = dx D (dm D 0 c)
      · rw [if_pos q1, gg_ix (by omega) (by decide), gg_ix (by omega) (by decide), y1, y2]
        by_cases q2 : dy D (dm D 0 a) = dy D (dm D 0 c)
        · rw [if_pos q2]; exact f7
        · rw [if_neg q2]; exact f64 (fun z => q2 z.2)
      · rw [if_neg q1]; exact f64 (fun z => q1 z.1)
theorem rb_n93 {x u v : Int32} (h : ¬ σ.1 168 49 = 0) : fX11_readBars_93 x u v σ = some ((), σ) := by
  rw [fX11_readBars_93, wantM_n h, bd_r, goodM_n h, bd_r, i00, fX11_readBars_116, stopM_n h, bd_r]
theorem rb_n {x u v y z : Int32} {n : Nat} (h : ¬ σ.1 168 49 = 0) : fX11_readBars_33 x (n + 1) u v y z σ = some ((), σ) := by
  rw [fX11_readBars_33, goodM_n h, bd_r, i00, rb_n93 h]
/-- the end of many bars, at a token that is no name -/
theorem rb93 {wh cl first last : Nat} {o : RS} (hcl : wh = 3 ∨ (wh = 4 ∧ cl = 0) ∨ (wh = 5 ∧ cl = 1)) (hD : RD σ D) (w : WFa D) (v : WFb D) (h : PR σ b m p) (hfi : first < dn D 0) (hla : last < dn D 0) (ho1 : tK b m p = 5 → o = if wh = 5 then adB D last first (tS b m p) (fun D' => .ok (D', tE b m p)) else .ok (D, tE b m p)) (ho2 : ¬ tK b m p = 5 → o = .error (uf b m p, tS b m p)) : Wp (fX11_readBars_93 (nI wh) (nI first) (nI last) σ) (fun _ σ' => OR b m p σ o σ') := by
  have h9 := h.2.2.2.1
  rw [fX11_readBars_93]
  by_cases q : tK b m p = 5
  · rw [wantM_ok h9 (h.2.2.1.2.2.2.2.1 q), bd_r, goodM h9, bd_r, i10, ho1 q]
    by_cases q5 : wh = 5
    · rw [if_pos (by rw [q5]; rfl), if_pos q5]
      by_cases q3 : dn D 1 = 60 ∨ (sme D last first ∨ hB D last first)
      · rw [adB_bad q3]
        refine wp_bw (abR_bad hD w h hla hfi q3) ?_
        rintro _ σ3 g3
        rw [fX11_readBars_116, stopM_n g3.nz, bd_r]
        exact wp_r (BS_of (frS.r σ) g3)
      · rw [adB_ok q3]
        refine wp_bw (abR_ok hD w v h9 hla hfi (fun z => q3 (Or.inl z)) (fun z => q3 (Or.inr z))) ?_
        rintro _ σ3 ⟨d1, d2, d3, d4⟩
        rw [fX11_readBars_116]
        refine wp_bw (stopM_ok (h.dr d4) q) ?_
        rintro _ σ4 g4
        exact wp_r ⟨d1.fr g4.2, d2, d3, g4.1, h.le.1, d4.S.t g4.2.S⟩
    · rw [if_neg (show ¬ nI wh = 5 from fun z => q5 ((nI_eq (b := 5) (by omega) (by decide)).mp z)), if_neg q5, fX11_readBars_116]
      refine wp_bw (stopM_ok h q) ?_
      rintro _ σ4 g4
      exact wp_r ⟨hD.fr g4.2, w, v, g4.1, h.le.1, g4.2.S⟩
  · rw [ho2 q]
    refine wp_bw (wantM_bad h (lm_n5 h.2.2.2.2 h.2.2.1 q)) ?_
    rintro _ σ1 g1
    rw [goodM_n g1.nz, bd_r, i00, fX11_readBars_116, stopM_n g1.nz, bd_r]
    exact wp_r (BS_of (frS.r σ) g1)
theorem tS5 (h : tK b m p = 5) : ¬ isN b m p := fun z => absurd (z.1.symm.trans h) (by decide)
theorem manyR {wh least cl first : Nat} (hcl : (wh = 4 ∧ cl = 0 ∧ least = 2) ∨ (wh = 5 ∧ cl = 1 ∧ least = 3)) : ∀ (k fu last names p : Nat) (D : DT) (σ : gS), m - p < k → k < fu → 1 ≤ names → names ≤ p → RD σ D → WFa D → WFb D → PR σ b m p → first < dn D 0 → last < dn D 0 →
    Wp (fX11_readBars_33 (nI wh) fu (nI first) (nI last) (nI names) (nI least) σ) (fun _ σ' => OR b m p σ (spMb b m least cl first k D last names p) σ') := by
  intro k
  induction k with
  | zero => intro fu last names p D σ h1; omega
  | succ k ih =>
    intro fu last names p D σ h1 h2 h3 h4 hD w v h hfi hla
    obtain ⟨fu, rfl⟩ : ∃ y, fu = y + 1 := ⟨fu - 1, by omega⟩
    obtain ⟨fu, rfl⟩ : ∃ y, fu = y + 1 := ⟨fu - 1, by omega⟩
    have hm := h.1.1
    have hpm := h.2.1.1
    have h9 := h.2.2.2.1
    have hk := h.2.2.2.2
    rw [fX11_readBars_33, goodM h9, bd_r, i10, spMb]
    have body : ¬ (tK b m p = 5 ∧ least ≤ names) → Wp (fX11_readBars_60 (nI wh) (fun v2 v3 v4 v5 σ => fX11_readBars_33 (nI wh) (fu + 1) v2 v3 v4 v5 σ) (nI first) (nI last) (nI names) (nI least) σ) (fun _ σ' => OR b m p σ (cif (tK b m p = 5 ∧ least ≤ names) (if cl = 0 then .ok (D, tE b m p) else adB D last first (tS b m p) (fun D' => .ok (D', tE b m p))) (cif (okO D 0 b m p) (adB D last (dF D 0 (tL b m p)) (tS b m p) (fun D' => spMb b m least cl first k D' (dF D 0 (tL b m p)) (names + 1) (tE b m p))) (.error (oF b m p, tS b m p)))) σ') := by
      intro q1
      rw [cif_f q1, fX11_readBars_60]
      by_cases q2 : okO D 0 b m p
      · rw [cif_t q2, ojR_ok w hD h q2, bd_r]
        have lt := TKo.lt hk hpm (by rw [q2.1.1]; decide)
        by_cases q3 : dn D 1 = 60 ∨ (sme D last (dF D 0 (tL b m p)) ∨ hB D last (dF D 0 (tL b m p)))
        · rw [adB_bad q3]
          refine wp_bw (abR_bad hD w h hla q2.2 q3) ?_
          rintro _ σ3 g3
          rw [bnd_r, goodM_n g3.nz, bd_r, i00, fX11_readBars_90, rb_n g3.nz]
          exact wp_r (BS_of (frS.r σ) g3)
        · rw [adB_ok q3]
          refine wp_bw (abR_ok hD w v h9 hla q2.2 (fun z => q3 (Or.inl z)) (fun z => q3 (Or.inr z))) ?_
          rintro _ σ3 ⟨d1, d2, d3, d4⟩
          have P3 := h.dr d4
          have en : dn (dAdd 2 [] (nI last) (nI (dF D 0 (tL b m p))) D) 0 = dn D 0 := dA_o (by decide)
          rw [bnd_r, goodM P3.2.2.2.1, bd_r, i10]
          refine wp_bw P3.nx ?_
          rintro _ σ4 g4
          rw [fX11_readBars_90, nI_1]
          refine wp_m (ih (fu + 1) (dF D 0 (tL b m p)) (names + 1) (tE b m p) _ σ4 (by omega) (by omega) (by omega) (by omega) (d1.fr g4.2) d2 d3 g4.1 (by rw [en]; exact hfi) (by rw [en]; exact q2.2)) ?_
          rintro _ σ5 o5
          exact o5.t (d4.S.t g4.2.S) (by omega)
      · rw [cif_f q2]
        refine wp_bw (ojR_bad w hD h q2) ?_
        rintro _ σ3 g3
        rw [abR_n g3.nz, bd_r, bnd_r, goodM_n g3.nz, bd_r, i00, fX11_readBars_90, rb_n g3.nz]
        exact wp_r (BS_of (frS.r σ) g3)
    by_cases q1 : names < least
    · rw [if_pos (nI_lt q1 (by omega))]
      exact body (fun z => by omega)
    · rw [if_neg (nI_nlt (by omega) (by omega)), if_neg (show ¬ nI wh = 3 from fun z => by have := (nI_eq (b := 3) (by omega) (by decide)).mp z; omega)]
      by_cases q2 : isN b m p
      · rw [if_pos (lm_N h.2.2.1 q2).1]
        exact body (fun z => tS5 z.1 q2)
      · rw [if_neg (lm_nN hk h.2.2.1 q2)]
        refine rb93 (cl := cl) (by omega) hD w v h hfi hla (fun z => ?_) (fun z => ?_)
        · rw [cif_t ⟨z, by omega⟩]
          by_cases q5 : wh = 5
          · rw [if_pos q5, if_neg (by omega)]
          · rw [if_neg q5, if_pos (by omega)]
        · rw [cif_f (fun y => z y.1), cif_f (fun y => q2 y.1), oF, cif_f q2]
theorem chainR {wh least cl : Nat} (hcl : (wh = 4 ∧ cl = 0 ∧ least = 2) ∨ (wh = 5 ∧ cl = 1 ∧ least = 3)) (hp1 : 1 ≤ p) (hD : RD σ D) (w : WFa D) (v : WFb D) (h : PR σ b m p) : Wp (fX11_readBars (nI wh) σ) (fun _ σ' => OR b m p σ (spCb b m least cl D p) σ') := by
  have e21 : ∀ (u : Int32) (τ : gS), fX11_readBars_21 (nI wh) u u 1 τ = fX11_readBars_33 (nI wh) 2000 u u (nI 1) (nI least) τ := by
    intro u τ
    rw [fX11_readBars_21]
    rcases hcl with ⟨rfl, rfl, rfl⟩ | ⟨rfl, rfl, rfl⟩
    · rw [if_neg (by decide), fX11_readBars_31]; rfl
    · rw [if_pos (by decide), fX11_readBars_31]; rfl
  rw [fX11_readBars, spCb]
  have a0 := h.le
  by_cases q1 : okO D 0 b m p
  · rw [cif_t q1, ojR_ok w hD h q1, bd_r, goodM h.2.2.2.1, bd_r, i10]
    refine wp_bw h.nx ?_
    rintro _ σ1 g1
    have := h.1.1
    rw [e21]
    refine wp_m (manyR hcl (m + 1 - tE b m p) 2000 _ 1 (tE b m p) D σ1 (by omega) (by omega) (by omega) (by omega) (hD.fr g1.2) w v g1.1 q1.2 q1.2) ?_
    rintro _ σ2 o2
    exact o2.t g1.2.S a0.1
  · rw [cif_f q1]
    refine wp_bw (ojR_bad w hD h q1) ?_
    rintro _ σ1 g1
    rw [goodM_n g1.nz, bd_r, i00, e21, rb_n g1.nz]
    exact wp_r (BS_of (frS.r σ) g1)
/-- one bar -/
theorem oneBarR (hD : RD σ D) (w : WFa D) (v : WFb D) (h : PR σ b m p) : Wp (fX11_readBars 3 σ) (fun _ σ' => OR b m p σ (spB b m D p) σ') := by
  have e21 : ∀ (u : Int32) (τ : gS), fX11_readBars_21 3 u u 1 τ = fX11_readBars_33 3 2000 u u 1 2 τ := by
    intro u τ
    rw [fX11_readBars_21, if_neg (by decide), fX11_readBars_31]
  rw [fX11_readBars, spB]
  have a0 := h.le
  by_cases q1 : okO D 0 b m p
  · rw [cif_t q1, ojR_ok w hD h q1, bd_r, goodM h.2.2.2.1, bd_r, i10]
    refine wp_bw h.nx ?_
    rintro _ σ1 g1
    have D1 := hD.fr g1.2
    have P1 := g1.1
    have a1 := P1.le
    rw [e21, fX11_readBars_33, goodM P1.2.2.2.1, bd_r, i10, if_pos (by decide), fX11_readBars_60]
    by_cases q2 : okO D 0 b m (tE b m p)
    · rw [cif_t q2, ojR_ok w D1 P1 q2, bd_r]
      by_cases q3 : dn D 1 = 60 ∨ (sme D (dF D 0 (tL b m p)) (dF D 0 (tL b m (tE b m p))) ∨ hB D (dF D 0 (tL b m p)) (dF D 0 (tL b m (tE b m p))))
      · rw [adB_bad q3]
        refine wp_bw (abR_bad D1 w P1 q1.2 q2.2 q3) ?_
        rintro _ σ3 g3
        rw [bnd_r, goodM_n g3.nz, bd_r, i00, fX11_readBars_90, rb_n g3.nz]
        exact wp_r (BS_of g1.2.S g3)
      · rw [adB_ok q3]
        refine wp_bw (abR_ok D1 w v P1.2.2.2.1 q1.2 q2.2 (fun z => q3 (Or.inl z)) (fun z => q3 (Or.inr z))) ?_
        rintro _ σ3 ⟨d1, d2, d3, d4⟩
        have P3 := P1.dr d4
        rw [bnd_r, goodM P3.2.2.2.1, bd_r, i10]
        refine wp_bw P3.nx ?_
        rintro _ σ4 g4
        have P4 := g4.1
        have a4 := P4.le
        have en : dn (dAdd 2 [] (nI (dF D 0 (tL b m p))) (nI (dF D 0 (tL b m (tE b m p)))) D) 0 = dn D 0 := dA_o (by decide)
        rw [fX11_readBars_90, fX11_readBars_33, goodM P4.2.2.2.1, bd_r, i10, if_neg (by decide), if_pos rfl]
        refine wp_m (rb93 (wh := 3) (cl := 0) (o := sgS b m (dAdd 2 [] (nI (dF D 0 (tL b m p))) (nI (dF D 0 (tL b m (tE b m p)))) D) (tE b m (tE b m p))) (Or.inl rfl) (d1.fr g4.2) d2 d3 P4 (by rw [en]; exact q1.2) (by rw [en]; exact q2.2) (fun z => ?_) (fun z => ?_)) ?_
        · rw [sgS, cif_t z, if_neg (by decide)]
        · rw [sgS, cif_f z]
        · rintro _ σ5 o5
          exact o5.t ((g1.2.S.t d4.S).t g4.2.S) (by omega)
    · rw [cif_f q2]
      refine wp_bw (ojR_bad w D1 P1 q2) ?_
      rintro _ σ2 g2
      rw [abR_n g2.nz, bd_r, bnd_r, goodM_n g2.nz, bd_r, i00, fX11_readBars_90, rb_n g2.nz]
      exact wp_r (BS_of g1.2.S g2)
  · rw [cif_f q1]
    refine wp_bw (ojR_bad w hD h q1) ?_
    rintro _ σ1 g1
    rw [goodM_n g1.nz, bd_r, i00, e21, rb_n g1.nz]
    exact wp_r (BS_of (frS.r σ) g1)
end STR

/-! THE STATEMENTS: what a text says, and the class's reading of it -/
abbrev RS : Type := Except (Nat × Nat) (DT × Nat)
noncomputable def iV (b : Nat → Nat) (m p : Nat) : Int32 := Int32.ofInt (tV b m p)
def nmO (lo hi : Int) (b : Nat → Nat) (m p : Nat) : Prop := tK b m p = 4 ∧ lo ≤ tV b m p ∧ tV b m p ≤ hi
theorem iV_of {b : Nat → Nat} {m p : Nat} {r : Int32} (h : r.toInt = tV b m p) : r = iV b m p := by unfold iV; rw [← h, Int32.ofInt_toInt]
noncomputable def sgS (b : Nat → Nat) (m : Nat) (D : DT) (p : Nat) : RS := cif (tK b m p = 5) (.ok (D, tE b m p)) (.error (uf b m p, tS b m p))
noncomputable def spJ (b : Nat → Nat) (m g : Nat) (D : DT) (p : Nat) : RS :=
  cif (okW D 0 b m p) (cif (nmO (-1000) 1000 b m (tE b m p)) (cif (nmO (-1000) 1000 b m (tE b m (tE b m p)))
    (sgS b m (dAdd g (tL b m p) (iV b m (tE b m p)) (iV b m (tE b m (tE b m p))) D) (tE b m (tE b m (tE b m p))))
    (.error (numF b m (tE b m (tE b m p)), tS b m (tE b m (tE b m p))))) (.error (numF b m (tE b m p), tS b m (tE b m p)))) (.error (wF D b m p, tS b m p))
noncomputable def adB (D : DT) (a c : Nat) (s : Nat) (k : DT → RS) : RS :=
  cif (dn D 1 = 60) (.error (6, s)) (cif (sme D a c ∨ hB D a c) (.error (7, s)) (k (dAdd 2 [] (nI a) (nI c) D)))
noncomputable def spB (b : Nat → Nat) (m : Nat) (D : DT) (p : Nat) : RS :=
  cif (okO D 0 b m p) (cif (okO D 0 b m (tE b m p))
    (adB D (dF D 0 (tL b m p)) (dF D 0 (tL b m (tE b m p))) (tS b m (tE b m p)) (fun D' => sgS b m D' (tE b m (tE b m p))))
    (.error (oF b m (tE b m p), tS b m (tE b m p)))) (.error (oF b m p, tS b m p))
noncomputable def spMb (b : Nat → Nat) (m least cl first : Nat) : Nat → DT → Nat → Nat → Nat → RS
  | 0, D, _, _, p => .ok (D, p)
  | k + 1, D, last, names, p =>
    cif (tK b m p = 5 ∧ least ≤ names) (if cl = 0 then .ok (D, tE b m p) else adB D last first (tS b m p) (fun D' => .ok (D', tE b m p)))
      (cif (okO D 0 b m p) (adB D last (dF D 0 (tL b m p)) (tS b m p) (fun D' => spMb b m least cl first k D' (dF D 0 (tL b m p)) (names + 1) (tE b m p))) (.error (oF b m p, tS b m p)))
noncomputable def spCb (b : Nat → Nat) (m least cl : Nat) (D : DT) (p : Nat) : RS :=
  cif (okO D 0 b m p) (spMb b m least cl (dF D 0 (tL b m p)) (m + 1 - tE b m p) D (dF D 0 (tL b m p)) 1 (tE b m p)) (.error (oF b m p, tS b m p))
noncomputable def spW (b : Nat → Nat) (m : Nat) (D : DT) (p : Nat) : RS :=
  cif (okW D 2 b m p) (cif (isW b m (tE b m p) 6) (cif (okO D 0 b m (tE b m (tE b m p))) (cif (nmO 3 200 b m (tE b m (tE b m (tE b m p))))
    (sgS b m (dAdd 3 (tL b m p) (nI (dF D 0 (tL b m (tE b m (tE b m p))))) (iV b m (tE b m (tE b m (tE b m p)))) D) (tE b m (tE b m (tE b m (tE b m p)))))
    (.error (numF b m (tE b m (tE b m (tE b m p))), tS b m (tE b m (tE b m (tE b m p))))))
    (.error (oF b m (tE b m (tE b m p)), tS b m (tE b m (tE b m p))))) (.error (uf b m (tE b m p), tS b m (tE b m p)))) (.error (wF D b m p, tS b m p))
def bdC (D : DT) (k a c : Nat) : Prop := a = c ∨ (k = 4 ∧ dx D (dm D 2 a) = dx D (dm D 2 c))
noncomputable def spK (b : Nat → Nat) (m k : Nat) (D : DT) (p : Nat) : RS :=
  cif (okO D 2 b m p) (cif (okO D 2 b m (tE b m p))
    (cif (dn D 3 = 30) (.error (6, tS b m (tE b m p))) (cif (bdC D k (dF D 2 (tL b m p)) (dF D 2 (tL b m (tE b m p)))) (.error (7, tS b m (tE b m p)))
      (sgS b m (dAdd k [] (nI (dF D 2 (tL b m p))) (nI (dF D 2 (tL b m (tE b m p)))) D) (tE b m (tE b m p)))))
    (.error (oF b m (tE b m p), tS b m (tE b m p)))) (.error (oF b m p, tS b m p))
def bdD (D : DT) (a c : Nat) : Prop := ¬ dk D (dm D 0 c) = 1 ∨ dk D (dm D 0 a) = 1 ∨ ¬ hB D a c ∨ ¬ dd D = none
noncomputable def spD (b : Nat → Nat) (m : Nat) (D : DT) (p : Nat) : RS :=
  cif (okO D 0 b m p) (cif (isW b m (tE b m p) 11) (cif (okO D 0 b m (tE b m (tE b m p)))
    (cif (bdD D (dF D 0 (tL b m p)) (dF D 0 (tL b m (tE b m (tE b m p))))) (.error (8, tS b m (tE b m (tE b m p))))
      (sgS b m (dSet (dF D 0 (tL b m p)) (dF D 0 (tL b m (tE b m (tE b m p)))) D) (tE b m (tE b m (tE b m p)))))
    (.error (oF b m (tE b m (tE b m p)), tS b m (tE b m (tE b m p))))) (.error (uf b m (tE b m p), tS b m (tE b m p)))) (.error (oF b m p, tS b m p))
/-- one statement: its word is the token at p -/
noncomputable def spS (b : Nat → Nat) (m : Nat) (D : DT) (p : Nat) : RS :=
  cif (isW b m p 0) (spJ b m 1 D (tE b m p)) (cif (isW b m p 1) (spJ b m 0 D (tE b m p)) (cif (isW b m p 2) (spB b m D (tE b m p))
  (cif (isW b m p 3) (spCb b m 2 0 D (tE b m p)) (cif (isW b m p 4) (spCb b m 3 1 D (tE b m p)) (cif (isW b m p 5) (spW b m D (tE b m p))
  (cif (isW b m p 7) (spK b m 4 D (tE b m p)) (cif (isW b m p 8) (spK b m 5 D (tE b m p)) (cif (isW b m p 9) (spK b m 6 D (tE b m p))
  (cif (isW b m p 10) (spD b m D (tE b m p)) (.error (uf b m p, tS b m p)))))))))))
/-! the class -/
def frT (t : Nat) (σ σ' : gS) : Prop := ∀ x y, ¬ (x = 1 ∧ 4 ≤ y ∧ y ≤ 9) → ¬ (t ≤ x ∧ x ≤ t + 11) → sm σ σ' x y
def BT (t : Nat) (σ σ' : gS) (f s : Nat) : Prop := σ'.1 1 8 = nI f ∧ σ'.1 1 9 = nI s ∧ 0 < f ∧ f < 10 ∧ frT t σ σ'
def OC (t : Nat) (b : Nat → Nat) (m p : Nat) (σ : gS) (o : RS) (σ' : gS) : Prop := match o with
  | .error e => BT t σ σ' e.1 e.2
  | .ok q => DC σ' t q.1 ∧ WFb q.1 ∧ PC σ' b m q.2 ∧ p ≤ q.2 ∧ frT t σ σ'
theorem frT.t {t : Nat} {σ τ υ : gS} (h : frT t σ τ) (h' : frT t τ υ) : frT t σ υ := fun x y q r => sm_t (h x y q r) (h' x y q r)
theorem OC.t {σ σ' τ : gS} {t : Nat} {b : Nat → Nat} {m p : Nat} {o : RS} {p0 : Nat} (hf : frT t τ σ) (hp : p0 ≤ p) (h : OC t b m p σ o σ') : OC t b m p0 τ o σ' := by
  cases o with
  | error e => exact ⟨h.1, h.2.1, h.2.2.1, h.2.2.2.1, hf.t h.2.2.2.2⟩
  | ok q => exact ⟨h.1, h.2.1, h.2.2.1, Nat.le_trans hp h.2.2.2.1, hf.t h.2.2.2.2⟩
section STC
variable {σ σ' τ : gS} {t : Nat} {D : DT} {b : Nat → Nat} {m p k a c f s : Nat}
theorem frT.r (t : Nat) (σ : gS) : frT t σ σ := fun x y _ _ => sm_r σ x y
theorem frC.T (h : frC σ σ') : frT t σ σ' := fun x y q _ => h x y q
theorem BT_of (h : frT t τ σ) (g : BC σ σ' f s) : BT t τ σ' f s := ⟨g.1, g.2.1, g.2.2.1, g.2.2.2.1, h.t g.2.2.2.2.T⟩
theorem BT.nz (h : BT t σ σ' f s) : ¬ σ'.1 1 8 = 0 := by rw [h.1]; exact nI_ne0 h.2.2.1 (by have := h.2.2.2.1; omega)
theorem frT.tp (h4 : t = 4 ∨ t = 16) (h : frT t σ σ') (q : TP σ b m) : TP σ' b m := q.keep (h 1 1 (by omega) (by omega)).1 (h 168 43 (by omega) (by omega)).1 (fun i => (h 197 i (by omega) (by omega)).1) (fun i => (h 2 i (by omega) (by omega)).1) (fun i => (h 3 i (by omega) (by omega)).1)
theorem OC.e {e : Nat × Nat} (h : BT t σ σ' e.1 e.2) : OC t b m p σ (.error e) σ' := h
/-- a change of the draft alone leaves the reading -/
theorem PC.dr (h4 : t = 4 ∨ t = 16) (h : PC σ b m p) (hf : ∀ x y, ¬ (t ≤ x ∧ x ≤ t + 11) → sm σ σ' x y) : PC σ' b m p :=
  ⟨frT.tp h4 (fun x y _ q => hf x y q) h.1, h.2.1, ⟨by rw [(hf 1 4 (by omega)).1]; exact h.2.2.1.1, by rw [(hf 1 9 (by omega)).1]; exact h.2.2.1.2⟩, by rw [(hf 1 8 (by omega)).1]; exact h.2.2.2⟩
theorem addCD (hD : DC σ t D) {l : List Nat} {x y v : Int32} (hk : k < 7) (hn : dn D (fam k) < mxF (fam k)) (hl : fam k = 0 ∨ fam k = 2 → isNm l ∧ v = nI (c27 l)) : Wp (fX3_add t (nI k) v x y σ) (fun _ σ' => DC σ' t (dAdd k l x y D) ∧ ∀ a c, ¬ (t ≤ a ∧ a ≤ t + 11) → sm σ σ' a c) := by
  obtain ⟨h4, ht, w, hd⟩ := hD
  refine wp_m (addC w hd hk hn (fun z => (hl z).2)) ?_
  rintro _ σ' ⟨h1, h2⟩
  exact ⟨⟨h4, by rw [(h2 0 0 (by omega)).2.2]; exact ht, w.add hk hn (fun z => (hl z).1), h1⟩, h2⟩
theorem TKo.lt (h : TKo b m p) (hp : p ≤ m) (hk : ¬ tK b m p = 0) : p < tE b m p ∧ tE b m p ≤ m := by
  have := TK.le h hp
  have q := this.2.2.2.2 hk
  omega
theorem TKo.le' (h : TKo b m p) (hp : p ≤ m) : p ≤ tE b m p ∧ tE b m p ≤ m := by
  have := TK.le h hp
  omega
theorem GC.le (h : GC σ σ' b m p) : tE b m p ≤ m := h.1.2.1
theorem sgC (hD : DC σ t D) (v : WFb D) (h : PC σ b m p) (hf : frT t τ σ) {p0 : Nat} (hp : p0 ≤ tE b m p) : Wp (fX6_expectSign σ) (fun _ σ' => OC t b m p0 τ (sgS b m D p) σ') := by
  by_cases q : tK b m p = 5
  · refine wp_m (signC_ok h q) ?_
    rintro _ σ' hg
    rw [sgS, cif_t q]
    exact ⟨hD.fr hg.2, v, hg.1, hp, hf.t hg.2.T⟩
  · refine wp_m (signC_bad h q) ?_
    rintro _ σ' hb
    rw [sgS, cif_f q]
    exact BT_of hf hb
theorem numCw {lo hi : Int32} (h : PC σ b m p) (q : nmO lo.toInt hi.toInt b m p) : Wp (fX6_number lo hi σ) (fun r σ' => r = iV b m p ∧ lo.toInt ≤ r.toInt ∧ r.toInt ≤ hi.toInt ∧ GC σ σ' b m p) := by
  refine wp_m (numC_ok h q.1 q.2.1 q.2.2) ?_
  rintro r σ' ⟨e, hg⟩
  exact ⟨iV_of e, by rw [e]; exact q.2.1, by rw [e]; exact q.2.2, hg⟩
theorem nx_p (h : PC σ b m p) : p ≤ tE b m p := by
  obtain ⟨_, σ', _, _, hk, _, _⟩ := h.nx
  exact (TKo.le' hk h.2.1).1
theorem jointC (hg1 : k < 2) (hD : DC σ t D) (v : WFb D) (h : PC σ b m p) : Wp (fX6_joint (nI k) σ) (fun _ σ' => OC t b m p σ (spJ b m k D p) σ') := by
  rw [fX6_joint, spJ]
  have k0 : fam k = 0 := by rcases (show k = 0 ∨ k = 1 by omega) with rfl | rfl <;> rfl
  have a0 := nx_p h
  by_cases q1 : okW D 0 b m p
  · rw [cif_t q1]
    refine wp_bw (nwC_ok (f := 0) (by decide) hD h q1) ?_
    rintro r1 σ1 ⟨rfl, nm, g1⟩
    have D1 := hD.fr g1.2
    have a1 := nx_p g1.1
    by_cases q2 : nmO (-1000) 1000 b m (tE b m p)
    · rw [cif_t q2]
      refine wp_bw (numCw (lo := -1000) (hi := 1000) g1.1 q2) ?_
      rintro r2 σ2 ⟨rfl, b1, b2, g2⟩
      have D2 := D1.fr g2.2
      have a2 := nx_p g2.1
      by_cases q3 : nmO (-1000) 1000 b m (tE b m (tE b m p))
      · rw [cif_t q3]
        refine wp_bw (numCw (lo := -1000) (hi := 1000) g2.1 q3) ?_
        rintro r3 σ3 ⟨rfl, c1, c2, g3⟩
        have D3 := D2.fr g3.2
        have a3 := nx_p g3.1
        by_cases q4 : tK b m (tE b m (tE b m (tE b m p))) = 5
        · refine wp_bw (signC_ok g3.1 q4) ?_
          rintro _ σ4 g4
          have D4 := D3.fr g4.2
          have n0 := hD.2.2.1.1 0 (by decide)
          rw [if_pos g4.1.2.2.2, bnd_r, D4.2.1, gg_t D4.1, sgS, cif_t q4]
          refine wp_bw (addCD (l := tL b m p) D4 (by omega) (by rw [k0]; have := q1.2.2; omega) (fun _ => ⟨nm, rfl⟩)) ?_
          rintro _ σ5 ⟨d1, d2⟩
          rw [fX6_joint_52]
          have v5 : WFb (dAdd k (tL b m p) (iV b m (tE b m p)) (iV b m (tE b m (tE b m p))) D) := WFb.add hD.2.2.1 v (by omega) (fun _ => ⟨b1, b2, c1, c2⟩) (fun z => by omega) (fun z => by omega) (fun z => by omega)
          exact wp_r ⟨d1, v5, g4.1.dr D4.1 d2, (by show p ≤ _; omega), (((g1.2.t g2.2).t g3.2).t g4.2).T.t (fun x y _ z => d2 x y z)⟩
        · refine wp_bw (signC_bad g3.1 q4) ?_
          rintro _ σ4 g4
          rw [if_neg g4.nz, fX6_joint_52, sgS, cif_f q4]
          exact wp_r (BT_of ((g1.2.t g2.2).t g3.2).T g4)
      · rw [cif_f q3]
        refine wp_bw (numC_bad (lo := -1000) (hi := 1000) g2.1 q3) ?_
        rintro _ σ3 g3
        rw [signC_n g3.nz, bd_r, if_neg g3.nz, fX6_joint_52]
        exact wp_r (BT_of (g1.2.t g2.2).T g3)
    · rw [cif_f q2]
      refine wp_bw (numC_bad (lo := -1000) (hi := 1000) g1.1 q2) ?_
      rintro _ σ2 g2
      rw [numC_n g2.nz, bd_r, signC_n g2.nz, bd_r, if_neg g2.nz, fX6_joint_52]
      exact wp_r (BT_of g1.2.T g2)
  · rw [cif_f q1]
    refine wp_bw (nwC_bad (f := 0) (by decide) hD h q1) ?_
    rintro _ σ1 g1
    rw [numC_n g1.nz, bd_r, numC_n g1.nz, bd_r, signC_n g1.nz, bd_r, if_neg g1.nz, fX6_joint_52]
    exact wp_r (BT_of (frT.r t σ) g1)
theorem abC_ok (hD : DC σ t D) (v : WFb D) (h8 : σ.1 1 8 = 0) (ha : a < dn D 0) (hc : c < dn D 0) (hn : ¬ dn D 1 = 60) (hd : ¬ (sme D a c ∨ hB D a c)) : Wp (fX6_addBar (nI a) (nI c) σ) (fun _ σ' => DC σ' t (dAdd 2 [] (nI a) (nI c) D) ∧ WFb (dAdd 2 [] (nI a) (nI c) D) ∧ ∀ x y, ¬ (t ≤ x ∧ x ≤ t + 11) → sm σ σ' x y) := by
  obtain ⟨h4, ht, w, hd'⟩ := hD
  have w4 := w.n4
  obtain ⟨s, s1, s2, s3⟩ := sqD w v hd' ha hc
  have ef : fX3_isFull t 1 σ = some (if dn D 1 = mxF 1 then 1 else 0, σ) := fullD (f := 1) w hd' (by decide)
  rw [fX6_addBar, if_pos h8, bnd_r, ht, gg_t h4, ef, if_neg (show ¬ dn D 1 = mxF 1 from hn), bd_r, i00, bnd_r, ht, gg_t h4, s2, bd_r, if_neg (nI_ne0 (by have : ¬ s = 0 := fun z => hd (Or.inl (s3.mp z)); omega) s1), bnd_r, ht, gg_t h4, hasBarD w v hd' (by omega) (by omega), cif_f (fun z => hd (Or.inr z)), bd_r, i00, bnd_r, ht, gg_t h4]
  refine wp_bw (addCD (k := 2) (l := []) ⟨h4, ht, w, hd'⟩ (by decide) (show dn D 1 < 60 by omega) (fun z => absurd z (by decide))) ?_
  rintro _ σ' ⟨d1, d2⟩
  rw [fX6_addBar_72]
  exact wp_r ⟨d1, WFb.add w v (by decide) (fun z => absurd z (by decide)) (fun _ => ⟨a, c, ha, hc, fun z => hd (Or.inl (by subst z; exact ⟨rfl, rfl⟩)), rfl, rfl⟩) (fun z => absurd z (by decide)) (fun z => absurd z (by decide)), d2⟩
noncomputable def abF (D : DT) : Nat := if dn D 1 = 60 then 6 else 7
theorem abC_bad (hD : DC σ t D) (v : WFb D) (hl : LC σ b m p) (h8 : σ.1 1 8 = 0) (ha : a < dn D 0) (hc : c < dn D 0) (hd : dn D 1 = 60 ∨ (sme D a c ∨ hB D a c)) : Wp (fX6_addBar (nI a) (nI c) σ) (fun _ σ' => BC σ σ' (abF D) (tS b m p)) := by
  obtain ⟨h4, ht, w, hd'⟩ := hD
  have w4 := w.n4
  obtain ⟨s, s1, s2, s3⟩ := sqD w v hd' ha hc
  have ef : fX3_isFull t 1 σ = some (if dn D 1 = mxF 1 then 1 else 0, σ) := fullD (f := 1) w hd' (by decide)
  have f7 : Wp (fX6_addBar_52 (nI a) (nI c) σ) (fun _ σ' => BC σ σ' 7 (tS b m p)) := by
    rw [fX6_addBar_52, failC h8, bd_r, fX6_addBar_72]
    exact wp_r (bc_of (f := 7) hl (frC.r σ) (by decide) (by decide))
  rw [fX6_addBar, if_pos h8, bnd_r, ht, gg_t h4, ef]
  by_cases hn : dn D 1 = 60
  · rw [if_pos (show dn D 1 = mxF 1 from hn), bd_r, i10, failC h8, bd_r, fX6_addBar_72, abF, if_pos hn]
    exact wp_r (bc_of (f := 6) hl (frC.r σ) (by decide) (by decide))
  · have hd2 := hd.resolve_left hn
    rw [if_neg (show ¬ dn D 1 = mxF 1 from hn), bd_r, i00, bnd_r, ht, gg_t h4, s2, bd_r, abF, if_neg hn]
    by_cases q : s = 0
    · subst q
      rw [show nI 0 = 0 from rfl, if_pos rfl]
      exact f7
    · rw [if_neg (nI_ne0 (by omega) s1), bnd_r, ht, gg_t h4, hasBarD w v hd' (by omega) (by omega), cif_t (hd2.resolve_left (fun z => q (s3.mpr z))), bd_r, i10]
      exact f7
theorem abC_n {x y : Int32} (h : ¬ σ.1 1 8 = 0) : fX6_addBar x y σ = some ((), σ) := by rw [fX6_addBar, if_neg h]
theorem adB_bad {K : DT → RS} (hd : dn D 1 = 60 ∨ (sme D a c ∨ hB D a c)) : adB D a c s K = .error (abF D, s) := by
  unfold adB abF
  by_cases hn : dn D 1 = 60
  · rw [cif_t hn, if_pos hn]
  · rw [cif_f hn, cif_t (hd.resolve_left hn), if_neg hn]
theorem adB_ok {K : DT → RS} (hd : ¬ (dn D 1 = 60 ∨ (sme D a c ∨ hB D a c))) : adB D a c s K = K (dAdd 2 [] (nI a) (nI c) D) := by
  unfold adB
  rw [cif_f (fun z => hd (Or.inl z)), cif_f (fun z => hd (Or.inr z))]
theorem frC.lc (hl : LC σ b m p) (hf : ∀ x y, ¬ (t ≤ x ∧ x ≤ t + 11) → sm σ σ' x y) (h4 : t = 4 ∨ t = 16) : LC σ' b m p := CT.keep hl (fun y _ _ => (hf 1 y (by omega)).1)
theorem oneBarC (hD : DC σ t D) (v : WFb D) (h : PC σ b m p) : Wp (fX6_oneBar σ) (fun _ σ' => OC t b m p σ (spB b m D p) σ') := by
  rw [fX6_oneBar, spB, show (0 : Int32) = nI 0 from rfl]
  have a0 := nx_p h
  by_cases q1 : okO D 0 b m p
  · rw [cif_t q1]
    refine wp_bw (knC_ok (f := 0) (Or.inl rfl) hD h q1) ?_
    rintro r1 σ1 ⟨rfl, g1, -⟩
    have D1 := hD.fr g1.2
    have a1 := nx_p g1.1
    by_cases q2 : okO D 0 b m (tE b m p)
    · rw [cif_t q2]
      refine wp_bw (knC_ok (f := 0) (Or.inl rfl) D1 g1.1 q2) ?_
      rintro r2 σ2 ⟨rfl, g2, l2⟩
      have D2 := D1.fr g2.2
      have a2 := nx_p g2.1
      by_cases q3 : dn D 1 = 60 ∨ (sme D (dF D 0 (tL b m p)) (dF D 0 (tL b m (tE b m p))) ∨ hB D (dF D 0 (tL b m p)) (dF D 0 (tL b m (tE b m p))))
      · rw [adB_bad q3]
        refine wp_bw (abC_bad D2 v l2 g2.1.2.2.2 q1.2 q2.2 q3) ?_
        rintro _ σ3 g3
        rw [signC_n g3.nz, bd_r]
        exact wp_r (BT_of (g1.2.t g2.2).T g3)
      · rw [adB_ok q3]
        refine wp_bw (abC_ok D2 v g2.1.2.2.2 q1.2 q2.2 (fun z => q3 (Or.inl z)) (fun z => q3 (Or.inr z))) ?_
        rintro _ σ3 ⟨d1, d2, d3⟩
        exact wp_bw (sgC d1 d2 (g2.1.dr D2.1 d3) ((g1.2.t g2.2).T.t (fun x y _ z => d3 x y z)) (p0 := p) (by omega)) (fun _ σ4 g4 => wp_r g4)
    · rw [cif_f q2]
      refine wp_bw (knC_bad (f := 0) (Or.inl rfl) D1 g1.1 q2) ?_
      rintro _ σ2 g2
      rw [abC_n g2.nz, bd_r, signC_n g2.nz, bd_r]
      exact wp_r (BT_of g1.2.T g2)
  · rw [cif_f q1]
    refine wp_bw (knC_bad (f := 0) (Or.inl rfl) hD h q1) ?_
    rintro _ σ1 g1
    rw [knC_n g1.nz, bd_r, abC_n g1.nz, bd_r, signC_n g1.nz, bd_r]
    exact wp_r (BT_of (frT.r t σ) g1)
theorem manyC_n {x y u v z : Int32} {n : Nat} (h : ¬ σ.1 1 8 = 0) : fX6_manyBars_12 x y (n + 1) u v z σ = some ((), σ) := by
  rw [fX6_manyBars_12]
  by_cases q : 1200 < z
  · rw [if_pos q, fX6_manyBars_82]
  · rw [if_neg q, if_neg h, fX6_manyBars_82]
theorem manyC {least cl first : Nat} (hl3 : least < 4) (hc2 : cl < 2) : ∀ (k fu last names p : Nat) (D : DT) (σ : gS), m - p < k → k < fu → 1 ≤ names → names ≤ p → DC σ t D → WFb D → PC σ b m p → first < dn D 0 → last < dn D 0 →
    Wp (fX6_manyBars_12 (nI least) (nI cl) fu (nI first) (nI last) (nI names) σ) (fun _ σ' => OC t b m p σ (spMb b m least cl first k D last names p) σ') := by
  intro k
  induction k with
  | zero => intro fu last names p D σ h1; omega
  | succ k ih =>
    intro fu last names p D σ h1 h2 h3 h4 hD v h hfi hla
    obtain ⟨fu, rfl⟩ : ∃ y, fu = y + 1 := ⟨fu - 1, by omega⟩
    obtain ⟨fu, rfl⟩ : ∃ y, fu = y + 1 := ⟨fu - 1, by omega⟩
    have hm := h.1.1
    have hpm := h.2.1
    rw [fX6_manyBars_12, if_neg (show ¬ 1200 < nI names from nI_nlt (b := names) (a := 1200) (by omega) (by decide)), if_pos h.2.2.2, spMb]
    refine wp_bw h.nx ?_
    rintro _ σ1 ⟨l1, k1, e8, g1⟩
    have D1 := hD.fr g1.2
    have a0 := (TKo.le' k1 hpm).1
    by_cases q1 : tK b m p = 5 ∧ least ≤ names
    · rw [cif_t q1, if_pos (l1.2.2.2.2.1 q1.1), if_neg (nI_nlt q1.2 (by omega))]
      rcases (show cl = 0 ∨ cl = 1 by omega) with rfl | rfl
      · rw [show nI 0 = 0 from rfl, if_pos rfl, fX6_manyBars_56, if_pos rfl]
        exact wp_r ⟨D1, v, g1.1, a0, g1.2.T⟩
      · rw [if_neg (show ¬ nI 1 = 0 by decide), if_neg (show ¬ 1 = 0 by decide)]
        by_cases q3 : dn D 1 = 60 ∨ (sme D last first ∨ hB D last first)
        · rw [adB_bad q3]
          refine wp_bw (abC_bad D1 v l1 g1.1.2.2.2 hla hfi q3) ?_
          rintro _ σ3 g3
          rw [fX6_manyBars_56]
          exact wp_r (BT_of g1.2.T g3)
        · rw [adB_ok q3]
          refine wp_bw (abC_ok D1 v g1.1.2.2.2 hla hfi (fun z => q3 (Or.inl z)) (fun z => q3 (Or.inr z))) ?_
          rintro _ σ3 ⟨d1, d2, d3⟩
          rw [fX6_manyBars_56]
          exact wp_r ⟨d1, d2, g1.1.dr D1.1 d3, a0, g1.2.T.t (fun x y _ z => d3 x y z)⟩
    · rw [cif_f q1]
      have body : Wp (fX6_manyBars_57 (nI least) (nI cl) (fun v3 v4 v5 σ => fX6_manyBars_12 (nI least) (nI cl) (fu + 1) v3 v4 v5 σ) (nI first) (nI last) (nI names) σ1) (fun _ σ' => OC t b m p σ (cif (okO D 0 b m p) (adB D last (dF D 0 (tL b m p)) (tS b m p) (fun D' => spMb b m least cl first k D' (dF D 0 (tL b m p)) (names + 1) (tE b m p))) (.error (oF b m p, tS b m p))) σ') := by
        rw [fX6_manyBars_57, show (0 : Int32) = nI 0 from rfl]
        by_cases q2 : okO D 0 b m p
        · rw [cif_t q2, khC_ok (f := 0) (Or.inl rfl) D1 l1 g1 q2, bd_r]
          have lt := TKo.lt k1 hpm (by rw [q2.1.1]; decide)
          by_cases q3 : dn D 1 = 60 ∨ (sme D last (dF D 0 (tL b m p)) ∨ hB D last (dF D 0 (tL b m p)))
          · rw [adB_bad q3]
            refine wp_bw (abC_bad D1 v l1 g1.1.2.2.2 hla q2.2 q3) ?_
            rintro _ σ3 g3
            rw [bnd_r, manyC_n g3.nz]
            exact wp_r (BT_of g1.2.T g3)
          · rw [adB_ok q3]
            refine wp_bw (abC_ok D1 v g1.1.2.2.2 hla q2.2 (fun z => q3 (Or.inl z)) (fun z => q3 (Or.inr z))) ?_
            rintro _ σ3 ⟨d1, d2, d3⟩
            have en : dn (dAdd 2 [] (nI last) (nI (dF D 0 (tL b m p))) D) 0 = dn D 0 := dA_o (by decide)
            rw [bnd_r, nI_1]
            refine wp_m (ih (fu + 1) (dF D 0 (tL b m p)) (names + 1) (tE b m p) _ σ3 (by omega) (by omega) (by omega) (by omega) d1 d2 (g1.1.dr D1.1 d3) (by rw [en]; exact hfi) (by rw [en]; exact q2.2)) ?_
            rintro _ σ4 o4
            exact o4.t (g1.2.T.t (fun x y _ z => d3 x y z)) (by omega)
        · rw [cif_f q2]
          refine wp_bw (khC_bad (f := 0) (Or.inl rfl) D1 k1 l1 e8 g1.2 q2) ?_
          rintro _ σ3 g3
          rw [abC_n g3.nz, bd_r, bnd_r, manyC_n g3.nz]
          exact wp_r (BT_of (frT.r t σ) g3)
      by_cases q5 : tK b m p = 5
      · rw [if_pos (l1.2.2.2.2.1 q5), if_pos (nI_lt (by omega) (by omega))]
        exact body
      · rw [if_neg (lc_n5 k1 l1 q5)]
        exact body
theorem chainC {least cl : Nat} (hl3 : least < 4) (hc2 : cl < 2) (hp1 : 1 ≤ p) (hD : DC σ t D) (v : WFb D) (h : PC σ b m p) : Wp (fX6_manyBars (nI least) (nI cl) σ) (fun _ σ' => OC t b m p σ (spCb b m least cl D p) σ') := by
  rw [fX6_manyBars, spCb, show (0 : Int32) = nI 0 from rfl]
  have a0 := nx_p h
  by_cases q1 : okO D 0 b m p
  · rw [cif_t q1]
    refine wp_bw (knC_ok (f := 0) (Or.inl rfl) hD h q1) ?_
    rintro r1 σ1 ⟨rfl, g1, -⟩
    have := g1.1.2.1
    have := h.1.1
    refine wp_m (manyC hl3 hc2 (m + 1 - tE b m p) 2000 _ 1 (tE b m p) D σ1 (by omega) (by omega) (by omega) (by omega) (hD.fr g1.2) v g1.1 q1.2 q1.2) ?_
    rintro _ σ2 o2
    exact o2.t g1.2.T a0
  · rw [cif_f q1]
    refine wp_bw (knC_bad (f := 0) (Or.inl rfl) hD h q1) ?_
    rintro _ σ1 g1
    rw [manyC_n g1.nz]
    exact wp_r (BT_of (frT.r t σ) g1)
end STC

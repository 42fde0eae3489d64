/-! the other statements of the class, and its whole reading -/
section STD
variable {σ σ' τ : gS} {t : Nat} {D : DT} {b : Nat → Nat} {m p k a c f s : Nat}
theorem wheelC (hD : DC σ t D) (v : WFb D) (h : PC σ b m p) : Wp (fX6_wheel σ) (fun _ σ' => OC t b m p σ (spW b m D p) σ') := by
  rw [fX6_wheel, spW]
  have a0 := nx_p h
  by_cases q1 : okW D 2 b m p
  · rw [cif_t q1]
    refine wp_bw (nwC_ok (f := 2) (by decide) hD h q1) ?_
    rintro r1 σ1 ⟨rfl, nm, g1⟩
    have D1 := hD.fr g1.2
    have a1 := nx_p g1.1
    by_cases q2 : isW b m (tE b m p) 6
    · rw [cif_t q2]
      refine wp_bw (wordC_ok (w := 6) g1.1 (by decide) q2) ?_
      rintro _ σ2 g2
      have D2 := D1.fr g2.2
      have a2 := nx_p g2.1
      by_cases q3 : okO D 0 b m (tE b m (tE b m p))
      · rw [cif_t q3]
        refine wp_bw (knC_ok (f := 0) (Or.inl rfl) D2 g2.1 q3) ?_
        rintro r3 σ3 ⟨rfl, g3, -⟩
        have D3 := D2.fr g3.2
        have a3 := nx_p g3.1
        by_cases q4 : nmO 3 200 b m (tE b m (tE b m (tE b m p)))
        · rw [cif_t q4]
          refine wp_bw (numCw (lo := 3) (hi := 200) g3.1 q4) ?_
          rintro r4 σ4 ⟨rfl, b1, b2, g4⟩
          have D4 := D3.fr g4.2
          have a4 := nx_p g4.1
          by_cases q5 : tK b m (tE b m (tE b m (tE b m (tE b m p)))) = 5
          · refine wp_bw (signC_ok g4.1 q5) ?_
            rintro _ σ5 g5
            have D5 := D4.fr g5.2
            have n0 : dn D 2 ≤ 16 := hD.2.2.1.1 2 (by decide)
            have n1 : ¬ dn D 2 = 16 := q1.2.2
            rw [if_pos g5.1.2.2.2, bnd_r, D5.2.1, gg_t D5.1, sgS, cif_t q5]
            refine wp_bw (addCD (k := 3) (l := tL b m p) D5 (by decide) (show dn D 2 < 16 by omega) (fun _ => ⟨nm, rfl⟩)) ?_
            rintro _ σ6 ⟨d1, d2⟩
            rw [fX6_wheel_49]
            rw [show (3 : Int32).toInt = 3 from rfl] at b1
            rw [show (200 : Int32).toInt = 200 from rfl] at b2
            obtain ⟨kk, kk1, kk2⟩ := nI_get (n := 201) (p := iV b m (tE b m (tE b m (tE b m p)))) (by omega) (by omega) (by decide)
            have kk3 : (iV b m (tE b m (tE b m (tE b m p)))).toInt = kk := by rw [kk2, nI_toInt (by omega)]
            have v6 : WFb (dAdd 3 (tL b m p) (nI (dF D 0 (tL b m (tE b m (tE b m p))))) (iV b m (tE b m (tE b m (tE b m p)))) D) := WFb.add hD.2.2.1 v (by omega) (fun z => absurd z (by decide)) (fun z => absurd z (by decide)) (fun _ => ⟨_, kk, q3.2, by omega, by omega, rfl, kk2⟩) (fun z => absurd z (by decide))
            exact wp_r ⟨d1, v6, g5.1.dr D5.1 d2, (by show p ≤ _; omega), ((((g1.2.t g2.2).t g3.2).t g4.2).t g5.2).T.t (fun x y _ z => d2 x y z)⟩
          · refine wp_bw (signC_bad g4.1 q5) ?_
            rintro _ σ5 g5
            rw [if_neg g5.nz, fX6_wheel_49, sgS, cif_f q5]
            exact wp_r (BT_of (((g1.2.t g2.2).t g3.2).t g4.2).T g5)
        · rw [cif_f q4]
          refine wp_bw (numC_bad (lo := 3) (hi := 200) g3.1 q4) ?_
          rintro _ σ4 g4
          rw [signC_n g4.nz, bd_r, if_neg g4.nz, fX6_wheel_49]
          exact wp_r (BT_of ((g1.2.t g2.2).t g3.2).T g4)
      · rw [cif_f q3]
        refine wp_bw (knC_bad (f := 0) (Or.inl rfl) D2 g2.1 q3) ?_
        rintro _ σ3 g3
        rw [numC_n g3.nz, bd_r, signC_n g3.nz, bd_r, if_neg g3.nz, fX6_wheel_49]
        exact wp_r (BT_of (g1.2.t g2.2).T g3)
    · rw [cif_f q2]
      refine wp_bw (wordC_bad (w := 6) g1.1 (by decide) q2) ?_
      rintro _ σ2 g2
      rw [knC_n g2.nz, bd_r, numC_n g2.nz, bd_r, signC_n g2.nz, bd_r, if_neg g2.nz, fX6_wheel_49]
      exact wp_r (BT_of g1.2.T g2)
  · rw [cif_f q1]
    refine wp_bw (nwC_bad (f := 2) (by decide) hD h q1) ?_
    rintro _ σ1 g1
    rw [wordC_n g1.nz, bd_r, knC_n g1.nz, bd_r, numC_n g1.nz, bd_r, signC_n g1.nz, bd_r, if_neg g1.nz, fX6_wheel_49]
    exact wp_r (BT_of (frT.r t σ) g1)
theorem coupC (hk : 4 ≤ k) (hk2 : k < 7) (hD : DC σ t D) (v : WFb D) (h : PC σ b m p) : Wp (fX6_coupling (nI k) σ) (fun _ σ' => OC t b m p σ (spK b m k D p) σ') := by
  rw [fX6_coupling, spK]
  have fk : fam k = 3 := by rcases (show k = 4 ∨ k = 5 ∨ k = 6 by omega) with rfl | rfl | rfl <;> rfl
  have a0 := nx_p h
  by_cases q1 : okO D 2 b m p
  · rw [cif_t q1]
    refine wp_bw (knC_ok (f := 2) (Or.inr rfl) hD h q1) ?_
    rintro r1 σ1 ⟨rfl, g1, -⟩
    have D1 := hD.fr g1.2
    have a1 := nx_p g1.1
    by_cases q2 : okO D 2 b m (tE b m p)
    · rw [cif_t q2]
      refine wp_bw (knC_ok (f := 2) (Or.inr rfl) D1 g1.1 q2) ?_
      rintro r2 σ2 ⟨rfl, g2, l2⟩
      have D2 := D1.fr g2.2
      have a2 := nx_p g2.1
      obtain ⟨h4, ht, w, hd⟩ := D2
      have w4 := w.n4
      have ef : fX3_isFull t 3 σ2 = some (if dn D 3 = mxF 3 then 1 else 0, σ2) := fullD (f := 3) w hd (by decide)
      have h8 := g2.1.2.2.2
      have i1 := q1.2
      have i2 := q2.2
      rw [if_pos h8, bnd_r, ht, gg_t h4, ef]
      have bad : ∀ f, 0 < f → f < 10 → Wp (bd (fX6_fail (nI f) σ2) fun _ σ1 => fX6_coupling_91 (nI k) σ1) (fun _ σ' => OC t b m p σ (.error (f, tS b m (tE b m p))) σ') := by
        intro f f1 f2
        have hb := bc_of (f := f) l2 (frC.r σ2) f1 f2
        rw [failC h8, bd_r, fX6_coupling_91, signC_n hb.nz, bd_r]
        exact wp_r (BT_of (g1.2.t g2.2).T hb)
      by_cases q3 : dn D 3 = 30
      · rw [if_pos (show dn D 3 = mxF 3 from q3), bd_r, i10, cif_t q3]
        exact bad 6 (by decide) (by decide)
      · rw [if_neg (show ¬ dn D 3 = mxF 3 from q3), bd_r, i00, cif_f q3]
        generalize hA : dF D 2 (tL b m p) = A at *
        generalize hC : dF D 2 (tL b m (tE b m p)) = C at *
        have fin : ¬ bdC D k A C → Wp (fX6_coupling_80 (nI k) (nI A) (nI C) σ2) (fun _ σ' => OC t b m p σ (cif (bdC D k A C) (.error (7, tS b m (tE b m p))) (sgS b m (dAdd k [] (nI A) (nI C) D) (tE b m (tE b m p)))) σ') := by
          intro nb
          rw [fX6_coupling_80, bnd_r, ht, gg_t h4, cif_f nb]
          refine wp_bw (addCD (k := k) (l := []) ⟨h4, ht, w, hd⟩ hk2 (by rw [fk]; show dn D 3 < 30; omega) (fun z => by omega)) ?_
          rintro _ σ3 ⟨d1, d2⟩
          rw [fX6_coupling_91]
          have v3 : WFb (dAdd k [] (nI A) (nI C) D) := WFb.add w v hk2 (fun z => by omega) (fun z => by omega) (fun z => by omega) (fun _ => ⟨A, C, i1, i2, fun z => nb (Or.inl z), rfl, rfl⟩)
          exact wp_bw (sgC d1 v3 (g2.1.dr h4 d2) ((g1.2.t g2.2).T.t (fun x y _ z => d2 x y z)) (p0 := p) (by omega)) (fun _ σ4 g4 => wp_r g4)
        have fin7 : bdC D k A C → Wp (fX6_coupling_71 (nI k) σ2) (fun _ σ' => OC t b m p σ (cif (bdC D k A C) (.error (7, tS b m (tE b m p))) (sgS b m (dAdd k [] (nI A) (nI C) D) (tE b m (tE b m p)))) σ') := by
          intro nb
          rw [cif_t nb, fX6_coupling_71]
          exact bad 7 (by decide) (by decide)
        by_cases q4 : A = C
        · rw [if_pos (by rw [q4])]
          exact fin7 (Or.inl q4)
        · rw [if_neg (fun z => q4 ((nI_eq (by omega) (by omega)).mp z))]
          by_cases q5 : k = 4
          · have e1 : fX3_firstOf t 2 (nI A) σ2 = some (dx D (dm D 2 A), σ2) := firstD (f := 2) w hd (by decide) i1
            have e2 : fX3_firstOf t 2 (nI C) σ2 = some (dx D (dm D 2 C), σ2) := firstD (f := 2) w hd (by decide) i2
            rw [if_pos (show nI k = 4 by rw [q5]; rfl), bnd_r, ht, gg_t h4, e1, bd_r, bnd_r, ht, gg_t h4, e2, bd_r]
            by_cases q6 : dx D (dm D 2 A) = dx D (dm D 2 C)
            · rw [if_pos q6]
              exact fin7 (Or.inr ⟨q5, q6⟩)
            · rw [if_neg q6]
              exact fin (fun z => z.elim q4 (fun z => q6 z.2))
          · rw [if_neg (show ¬ nI k = 4 from fun z => q5 ((nI_eq (b := 4) (by omega) (by decide)).mp z))]
            exact fin (fun z => z.elim q4 (fun z => q5 z.1))
    · rw [cif_f q2]
      refine wp_bw (knC_bad (f := 2) (Or.inr rfl) D1 g1.1 q2) ?_
      rintro _ σ2 g2
      rw [if_neg g2.nz]
      exact wp_r (BT_of g1.2.T g2)
  · rw [cif_f q1]
    refine wp_bw (knC_bad (f := 2) (Or.inr rfl) hD h q1) ?_
    rintro _ σ1 g1
    rw [knC_n g1.nz, bd_r, if_neg g1.nz]
    exact wp_r (BT_of (frT.r t σ) g1)
theorem CD.set (hd : CD σ t D) (h4 : t = 4 ∨ t = 16) : CD (gsI (gsI σ t 8 (nI a)) t 9 (nI c)) t (dSet a c D) := by
  obtain ⟨c1, c2, c3, c4, c5, c6⟩ := hd
  refine ⟨fun f hf => ?_, ?_, fun q hq => ?_, fun f i hf hi => ?_, fun z => (nomatch z), fun x y z => ?_⟩
  · rw [rI_o (by omega), rI_o (by omega)]; exact c1 f hf
  · rw [rI_o (by omega), rI_o (by omega)]; exact c2
  · simp (disch := omega) only [rI_o]; exact c3 q hq
  · simp (disch := omega) only [rI_o]; exact c4 f i hf hi
  · have : a = x ∧ c = y := by
      have z : some (a, c) = some (x, y) := z
      injection z with z
      injection z with z1 z2
      exact ⟨z1, z2⟩
    rw [← this.1, ← this.2, rI_s, rI_o (by omega), rI_s]
    exact ⟨rfl, rfl⟩
theorem WFb.set (v : WFb D) (h1 : a < dn D 0) (h2 : c < dn D 0) (h3 : ¬ dk D (dm D 0 a) = 1) (h4 : dk D (dm D 0 c) = 1) : WFb (dSet a c D) := by
  refine ⟨v.1, v.2.1, v.2.2.1, v.2.2.2.1, fun x y z => ?_⟩
  have : a = x ∧ c = y := by
    have z : some (a, c) = some (x, y) := z
    injection z with z
    injection z with z1 z2
    exact ⟨z1, z2⟩
  rw [← this.1, ← this.2]
  exact ⟨h1, h2, fun z => h3 (by rw [z]; exact h4), h3, h4⟩
theorem driveC (hD : DC σ t D) (v : WFb D) (h : PC σ b m p) : Wp (fX6_drive σ) (fun _ σ' => OC t b m p σ (spD b m D p) σ') := by
  rw [fX6_drive, spD]
  have a0 := nx_p h
  by_cases q1 : okO D 0 b m p
  · rw [cif_t q1]
    refine wp_bw (knC_ok (f := 0) (Or.inl rfl) hD h q1) ?_
    rintro r1 σ1 ⟨rfl, g1, -⟩
    have D1 := hD.fr g1.2
    have a1 := nx_p g1.1
    by_cases q2 : isW b m (tE b m p) 11
    · rw [cif_t q2]
      refine wp_bw (wordC_ok (w := 11) g1.1 (by decide) q2) ?_
      rintro _ σ2 g2
      have D2 := D1.fr g2.2
      have a2 := nx_p g2.1
      by_cases q3 : okO D 0 b m (tE b m (tE b m p))
      · rw [cif_t q3]
        refine wp_bw (knC_ok (f := 0) (Or.inl rfl) D2 g2.1 q3) ?_
        rintro r3 σ3 ⟨rfl, g3, l3⟩
        have D3 := D2.fr g3.2
        have a3 := nx_p g3.1
        obtain ⟨h4, ht, w, hd⟩ := D3
        have w4 := w.n4
        have h8 := g3.1.2.2.2
        have i1 := q1.2
        have i2 := q3.2
        generalize hA : dF D 0 (tL b m p) = A at *
        generalize hC : dF D 0 (tL b m (tE b m (tE b m p))) = C at *
        have fin8 : bdD D A C → Wp (fX6_drive_72 σ3) (fun _ σ' => OC t b m p σ (cif (bdD D A C) (.error (8, tS b m (tE b m (tE b m p)))) (sgS b m (dSet A C D) (tE b m (tE b m (tE b m p))))) σ') := by
          intro nb
          rw [cif_t nb, fX6_drive_72, failC h8, bd_r]
          exact wp_r (BT_of ((g1.2.t g2.2).t g3.2).T (bc_of (f := 8) l3 (frC.r σ3) (by decide) (by decide)))
        rw [if_pos h8, bnd_r, ht, gg_t h4, groundD w hd i2, bd_r]
        by_cases q4 : dk D (dm D 0 C) = 1
        · rw [if_pos q4, i10, bnd_r, ht, gg_t h4, groundD w hd i1, bd_r]
          by_cases q5 : dk D (dm D 0 A) = 1
          · rw [if_pos q5, i10]
            exact fin8 (Or.inr (Or.inl q5))
          · rw [if_neg q5, i00, bnd_r, ht, gg_t h4, hasBarD w v hd (by omega) (by omega), bd_r]
            by_cases q6 : hB D A C
            · rw [cif_t q6, i10, bnd_r, ht, gg_t h4]
              rcases hdd : dd D with _ | ⟨x, y⟩
              · rw [(hd.2.2.2.2.1 hdd).1, if_pos rfl, bnd_r, gg_t h4, bnd_r, bnd_r, show (gsI σ3 t 8 (nI A)).2.2 1 3 = t from ht, gg_t h4, bnd_r]
                have nb : ¬ bdD D A C := fun z => z.elim (fun z => z q4) (fun z => z.elim q5 (fun z => z.elim (fun z => z q6) (fun z => z hdd)))
                rw [cif_f nb]
                have fr : ∀ x y, ¬ (t ≤ x ∧ x ≤ t + 11) → sm σ3 (gsI (gsI σ3 t 8 (nI A)) t 9 (nI C)) x y := fun x y z => sm_I (sm_I (sm_r _ _ _) (by omega) rfl) (by omega) rfl
                exact wp_bw (sgC (σ := gsI (gsI σ3 t 8 (nI A)) t 9 (nI C)) (D := dSet A C D) ⟨h4, ht, w, hd.set h4⟩ (v.set i1 i2 q5 q4) (g3.1.dr h4 fr) (((g1.2.t g2.2).t g3.2).T.t (fun x y _ z => fr x y z)) (p0 := p) (by omega)) (fun _ σ4 g4 => wp_r g4)
              · have i3 := v.2.2.2.2 x y hdd
                rw [(hd.2.2.2.2.2 x y hdd).1, if_neg (fun z => nI_pos (show x < 2 ^ 31 by omega) (by rw [z]; decide))]
                exact fin8 (Or.inr (Or.inr (Or.inr (by rw [hdd]; exact fun z => (nomatch z)))))
            · rw [cif_f q6, i00]
              exact fin8 (Or.inr (Or.inr (Or.inl q6)))
        · rw [if_neg q4, i00]
          exact fin8 (Or.inl q4)
      · rw [cif_f q3]
        refine wp_bw (knC_bad (f := 0) (Or.inl rfl) D2 g2.1 q3) ?_
        rintro _ σ3 g3
        rw [if_neg g3.nz]
        exact wp_r (BT_of (g1.2.t g2.2).T g3)
    · rw [cif_f q2]
      refine wp_bw (wordC_bad (w := 11) g1.1 (by decide) q2) ?_
      rintro _ σ2 g2
      rw [knC_n g2.nz, bd_r, if_neg g2.nz]
      exact wp_r (BT_of g1.2.T g2)
  · rw [cif_f q1]
    refine wp_bw (knC_bad (f := 0) (Or.inl rfl) hD h q1) ?_
    rintro _ σ1 g1
    rw [wordC_n g1.nz, bd_r, knC_n g1.nz, bd_r, if_neg g1.nz]
    exact wp_r (BT_of (frT.r t σ) g1)
theorem isW_u {v w : Nat} (hv : v < 12) (hw : w < 12) (h : isW b m p v) (h' : isW b m p w) : v = w := WL_i hv hw (h.2.symm.trans h'.2)
/-- one statement, its word just read -/
theorem stateC (hp1 : 1 ≤ tE b m p) (hD : DC σ t D) (v : WFb D) (h : PC σ b m (tE b m p)) (hk : TKo b m p) (hl : LC σ b m p) : Wp (fX6_statement σ) (fun _ σ' => OC t b m (tE b m p) σ (spS b m D p) σ') := by
  rw [fX6_statement, spS]
  have fin : ∀ (K : gS → Option (Unit × gS)) (o : RS), Wp (K σ) (fun _ σ' => OC t b m (tE b m p) σ o σ') → Wp (bd (K σ) fun _ σ3 => fX6_statement_160 σ3) (fun _ σ' => OC t b m (tE b m p) σ o σ') := by
    intro K o hw
    refine wp_bw hw ?_
    rintro _ σ' q
    rw [fX6_statement_160]
    exact wp_r q
  have bad : Wp (fX6_failUnfit σ) (fun _ σ' => OC t b m (tE b m p) σ (.error (uf b m p, tS b m p)) σ') := by
    refine wp_m (unfitC hk hl h.2.2.2 (frC.r σ)) ?_
    rintro _ σ' q
    exact BT_of (frT.r t σ) q
  by_cases z : σ.1 1 5 = 2
  · rw [if_pos z]
    obtain ⟨w, w1, w2, w3⟩ := lc_nW hk hl z
    rw [w3]
    have no : ∀ u, u < 12 → u ≠ w → ¬ isW b m p u := fun u h1 h2 h3 => h2 (isW_u h1 w1 h3 w2)
    rcases k12 w1 with rfl | rfl | rfl | rfl | rfl | rfl | rfl | rfl | rfl | rfl | rfl | rfl
    · rw [if_pos (by decide), cif_t w2]
      exact fin (fX6_joint 1) _ (jointC (k := 1) (by decide) hD v h)
    · rw [if_neg (by decide), if_pos (by decide), cif_f (no 0 (by decide) (by decide)), cif_t w2]
      exact fin (fX6_joint 0) _ (jointC (k := 0) (by decide) hD v h)
    · rw [if_neg (by decide), if_neg (by decide), if_pos (by decide), cif_f (no 0 (by decide) (by decide)), cif_f (no 1 (by decide) (by decide)), cif_t w2]
      exact fin fX6_oneBar _ (oneBarC hD v h)
    · rw [if_neg (by decide), if_neg (by decide), if_neg (by decide), if_pos (by decide), cif_f (no 0 (by decide) (by decide)), cif_f (no 1 (by decide) (by decide)), cif_f (no 2 (by decide) (by decide)), cif_t w2]
      exact fin (fX6_manyBars 2 0) _ (chainC (least := 2) (cl := 0) (by decide) (by decide) hp1 hD v h)
    · rw [if_neg (by decide), if_neg (by decide), if_neg (by decide), if_neg (by decide), if_pos (by decide), cif_f (no 0 (by decide) (by decide)), cif_f (no 1 (by decide) (by decide)), cif_f (no 2 (by decide) (by decide)), cif_f (no 3 (by decide) (by decide)), cif_t w2]
      exact fin (fX6_manyBars 3 1) _ (chainC (least := 3) (cl := 1) (by decide) (by decide) hp1 hD v h)
    · rw [if_neg (by decide), if_neg (by decide), if_neg (by decide), if_neg (by decide), if_neg (by decide), if_pos (by decide), cif_f (no 0 (by decide) (by decide)), cif_f (no 1 (by decide) (by decide)), cif_f (no 2 (by decide) (by decide)), cif_f (no 3 (by decide) (by decide)), cif_f (no 4 (by decide) (by decide)), cif_t w2]
      exact fin fX6_wheel _ (wheelC hD v h)
    · rw [if_neg (by decide), if_neg (by decide), if_neg (by decide), if_neg (by decide), if_neg (by decide), if_neg (by decide), if_pos (by decide), cif_f (no 0 (by decide) (by decide)), cif_f (no 1 (by decide) (by decide)), cif_f (no 2 (by decide) (by decide)), cif_f (no 3 (by decide) (by decide)), cif_f (no 4 (by decide) (by decide)), cif_f (no 5 (by decide) (by decide)), cif_f (no 7 (by decide) (by decide)), cif_f (no 8 (by decide) (by decide)), cif_f (no 9 (by decide) (by decide)), cif_f (no 10 (by decide) (by decide)), fX6_statement_156]
      exact fin fX6_failUnfit _ bad
    · rw [if_neg (by decide), if_neg (by decide), if_neg (by decide), if_neg (by decide), if_neg (by decide), if_neg (by decide), if_neg (by decide), if_pos (by decide), cif_f (no 0 (by decide) (by decide)), cif_f (no 1 (by decide) (by decide)), cif_f (no 2 (by decide) (by decide)), cif_f (no 3 (by decide) (by decide)), cif_f (no 4 (by decide) (by decide)), cif_f (no 5 (by decide) (by decide)), cif_t w2]
      exact fin (fX6_coupling 4) _ (coupC (k := 4) (by decide) (by decide) hD v h)
    · rw [if_neg (by decide), if_neg (by decide), if_neg (by decide), if_neg (by decide), if_neg (by decide), if_neg (by decide), if_neg (by decide), if_neg (by decide), if_pos (by decide), cif_f (no 0 (by decide) (by decide)), cif_f (no 1 (by decide) (by decide)), cif_f (no 2 (by decide) (by decide)), cif_f (no 3 (by decide) (by decide)), cif_f (no 4 (by decide) (by decide)), cif_f (no 5 (by decide) (by decide)), cif_f (no 7 (by decide) (by decide)), cif_t w2]
      exact fin (fX6_coupling 5) _ (coupC (k := 5) (by decide) (by decide) hD v h)
    · rw [if_neg (by decide), if_neg (by decide), if_neg (by decide), if_neg (by decide), if_neg (by decide), if_neg (by decide), if_neg (by decide), if_neg (by decide), if_neg (by decide), if_pos (by decide), cif_f (no 0 (by decide) (by decide)), cif_f (no 1 (by decide) (by decide)), cif_f (no 2 (by decide) (by decide)), cif_f (no 3 (by decide) (by decide)), cif_f (no 4 (by decide) (by decide)), cif_f (no 5 (by decide) (by decide)), cif_f (no 7 (by decide) (by decide)), cif_f (no 8 (by decide) (by decide)), cif_t w2]
      exact fin (fX6_coupling 6) _ (coupC (k := 6) (by decide) (by decide) hD v h)
    · rw [if_neg (by decide), if_neg (by decide), if_neg (by decide), if_neg (by decide), if_neg (by decide), if_neg (by decide), if_neg (by decide), if_neg (by decide), if_neg (by decide), if_neg (by decide), if_pos (by decide), cif_f (no 0 (by decide) (by decide)), cif_f (no 1 (by decide) (by decide)), cif_f (no 2 (by decide) (by decide)), cif_f (no 3 (by decide) (by decide)), cif_f (no 4 (by decide) (by decide)), cif_f (no 5 (by decide) (by decide)), cif_f (no 7 (by decide) (by decide)), cif_f (no 8 (by decide) (by decide)), cif_f (no 9 (by decide) (by decide)), cif_t w2]
      exact fin fX6_drive _ (driveC hD v h)
    · rw [if_neg (by decide), if_neg (by decide), if_neg (by decide), if_neg (by decide), if_neg (by decide), if_neg (by decide), if_neg (by decide), if_neg (by decide), if_neg (by decide), if_neg (by decide), if_neg (by decide), cif_f (no 0 (by decide) (by decide)), cif_f (no 1 (by decide) (by decide)), cif_f (no 2 (by decide) (by decide)), cif_f (no 3 (by decide) (by decide)), cif_f (no 4 (by decide) (by decide)), cif_f (no 5 (by decide) (by decide)), cif_f (no 7 (by decide) (by decide)), cif_f (no 8 (by decide) (by decide)), cif_f (no 9 (by decide) (by decide)), cif_f (no 10 (by decide) (by decide)), fX6_statement_156]
      exact fin fX6_failUnfit _ bad
  · have no : ∀ u, u < 12 → ¬ isW b m p u := fun u h1 h2 => z (lc_W hl h1 h2).1
    rw [if_neg z, cif_f (no 0 (by decide)), cif_f (no 1 (by decide)), cif_f (no 2 (by decide)), cif_f (no 3 (by decide)), cif_f (no 4 (by decide)), cif_f (no 5 (by decide)), cif_f (no 7 (by decide)), cif_f (no 8 (by decide)), cif_f (no 9 (by decide)), cif_f (no 10 (by decide))]
    exact wp_bw bad (fun _ σ' q => wp_r q)
/-- the whole text -/
noncomputable def spL (b : Nat → Nat) (m : Nat) : Nat → DT → Nat → Except (Nat × Nat) DT
  | 0, D, _ => .ok D
  | k + 1, D, p => if tK b m p = 0 then .ok D else match spS b m D p with
    | .error e => .error e
    | .ok q => spL b m k q.1 q.2
def OL (t : Nat) (σ : gS) (o : Except (Nat × Nat) DT) (r : Int32) (σ' : gS) : Prop := σ'.1 1 1 = 0 ∧ r = σ'.1 1 8 ∧ (∀ x y, ¬ (x = 1 ∧ 4 ≤ y ∧ y ≤ 9) → ¬ (x = 1 ∧ y = 1) → ¬ (t ≤ x ∧ x ≤ t + 11) → sm σ σ' x y) ∧ (match o with
  | .error e => σ'.1 1 8 = nI e.1 ∧ σ'.1 1 9 = nI e.2 ∧ 0 < e.1 ∧ e.1 < 10
  | .ok D => DC σ' t D ∧ WFb D ∧ σ'.1 1 8 = 0 ∧ σ'.1 1 9 = -1000000)
theorem loopC (h4 : t = 4 ∨ t = 16) : ∀ (k fu i p : Nat) (D : DT) (σ : gS), m - p < k → k < fu → i ≤ p → DC σ t D → WFb D → PC σ b m p → Wp (fX6_readTape_25 fu (nI i) σ) (fun r σ' => OL t σ (spL b m k D p) r σ') := by
  intro k
  induction k with
  | zero => intro fu i p D σ h1; omega
  | succ k ih =>
    intro fu i p D σ h1 h2 h3 hD v h
    obtain ⟨fu, rfl⟩ : ∃ y, fu = y + 1 := ⟨fu - 1, by omega⟩
    obtain ⟨fu, rfl⟩ : ∃ y, fu = y + 1 := ⟨fu - 1, by omega⟩
    have hm := h.1.1
    have hpm := h.2.1
    rw [fX6_readTape_25, if_neg (show ¬ 1200 < nI i from nI_nlt (b := i) (a := 1200) (by omega) (by decide)), if_pos h.2.2.2, spL]
    refine wp_bw h.nx ?_
    rintro _ σ1 ⟨l1, k1, e8, g1⟩
    have D1 := hD.fr g1.2
    by_cases q : tK b m p = 0
    · rw [if_pos (l1.2.2.1 q), if_pos q, fX6_readTape_63, bnd_r]
      refine wp_r ⟨rI_s, rfl, fun x y z1 z2 z3 => sm_I (g1.2 x y z1) z2 rfl, ?_, v, ?_, ?_⟩
      · exact ⟨h4, D1.2.1, D1.2.2.1, D1.2.2.2.keep (fun x y h1 h2 => rI_o (by omega))⟩
      · rw [rI_o (by decide)]; exact e8
      · rw [rI_o (by decide)]; exact g1.1.2.2.1.2
    · rw [if_neg (lc_n0 k1 l1 q), if_neg q]
      have lt := TKo.lt k1 hpm q
      refine wp_bw (stateC (by omega) D1 v g1.1 k1 l1) ?_
      rintro _ σ2 o2
      rw [bnd_r, nI_1]
      rcases ho : spS b m D p with e | ⟨D', p'⟩
      · rw [ho] at o2
        have hz : ¬ σ2.1 1 8 = 0 := BT.nz o2
        rw [fX6_readTape_25]
        have fin : Wp (fX6_readTape_63 σ2) (fun r σ' => OL t σ (.error e) r σ') := by
          rw [fX6_readTape_63, bnd_r]
          refine wp_r ⟨rI_s, rfl, fun x y z1 z2 z3 => sm_I (sm_t (g1.2 x y z1) (o2.2.2.2.2 x y z1 z3)) z2 rfl, ?_, ?_, o2.2.2.1, o2.2.2.2.1⟩
          · rw [rI_o (by decide)]; exact o2.1
          · rw [rI_o (by decide)]; exact o2.2.1
        by_cases qi : 1200 < nI (i + 1)
        · rw [if_pos qi]; exact fin
        · rw [if_neg qi, if_neg hz]; exact fin
      · rw [ho] at o2
        obtain ⟨d1, d2, d3, d4, d5⟩ := o2
        have d4 : tE b m p ≤ p' := d4
        refine wp_m (ih (fu + 1) (i + 1) p' D' σ2 (by omega) (by omega) (by omega) d1 d2 d3) ?_
        rintro r σ3 ⟨c1, c2, c3, c4⟩
        exact ⟨c1, c2, fun x y z1 z2 z3 => sm_t (sm_t (g1.2 x y z1) (d5 x y z1 z3)) (c3 x y z1 z2 z3), c4⟩
/-- the draft at the beginning -/
def dE : DT := (fun _ => 0, fun _ => 0, fun _ => 0, fun _ _ => 0, fun _ => 0, fun _ => 0, fun _ => [], none)
theorem dE_a : WFa dE := ⟨fun f _ => Nat.zero_le _, fun p h => absurd h (Nat.not_lt_zero p), fun f i _ h => absurd h (Nat.not_lt_zero i), fun p h => absurd h (Nat.not_lt_zero p)⟩
theorem dE_b : WFb dE := ⟨fun i h => absurd h (Nat.not_lt_zero i), fun i h => absurd h (Nat.not_lt_zero i), fun i h => absurd h (Nat.not_lt_zero i), fun i h => absurd h (Nat.not_lt_zero i), fun _ _ h => (nomatch h)⟩
theorem fillW {h n : Nat} {v : Int32} (hn : n < 2000) : ∀ (k i fu : Nat) (σ : gS), i + k = n → k < fu → Wp (fJ7_fill_53178_5 h n v fu (nI i) (nI n) σ) (fun _ σ' => (∀ j, i ≤ j → j < n → σ'.1 h j = v) ∧ ∀ x y, ¬ (x = h ∧ i ≤ y ∧ y < n) → sm σ σ' x y) := by
  intro k
  induction k with
  | zero =>
    intro i fu σ e hf
    obtain ⟨fu, rfl⟩ : ∃ y, fu = y + 1 := ⟨fu - 1, by omega⟩
    rw [fJ7_fill_53178_5, if_pos (nI_le (by omega) (by omega))]
    exact wp_r ⟨fun j h1 h2 => by omega, fun x y _ => sm_r σ x y⟩
  | succ k ih =>
    intro i fu σ e hf
    obtain ⟨fu, rfl⟩ : ∃ y, fu = y + 1 := ⟨fu - 1, by omega⟩
    rw [fJ7_fill_53178_5, if_neg (nI_ge (by omega) (by omega)), nI_clamp (by omega), gg_ix (by omega) (by omega), bnd_r, bnd_r, nI_1]
    refine wp_m (ih (i + 1) fu _ (by omega) (by omega)) ?_
    rintro _ σ' ⟨h1, h2⟩
    refine ⟨fun j j1 j2 => ?_, fun x y z => sm_t (sm_I (sm_r σ x y) (by omega) rfl) (h2 x y (by omega))⟩
    by_cases q : j = i
    · subst q
      rw [(h2 h j (by omega)).1, rI_s]
    · exact h1 j (by omega) j2
theorem fillX {h n : Nat} {v : Int32} {σ : gS} (hn : n < 1999) : Wp (fJ7_fill_53178 h n v σ) (fun _ σ' => (∀ j, j < n → σ'.1 h j = v) ∧ ∀ x y, ¬ (x = h ∧ y < n) → sm σ σ' x y) := by
  rw [fJ7_fill_53178, bnd_r]
  refine wp_m (fillW (h := h) (n := n) (v := v) (by omega) n 0 2000 σ (by omega) (by omega)) ?_
  rintro _ σ' ⟨h1, h2⟩
  exact ⟨fun j hj => h1 j (by omega) hj, fun x y z => h2 x y (by omega)⟩
/-- the class's reading of the tape -/
theorem readC (h4 : t = 4 ∨ t = 16) (ht : σ.2.2 1 3 = t) (hT : TP σ b m) : Wp (fX6_readTape σ) (fun r σ' => OL t σ (spL b m (m + 1) dE 0) r σ') := by
  have hm := hT.1
  rw [fX6_readTape, bnd_r, ht, gg_t h4, fX3_clear]
  refine wp_bw (m := bd _ _) (P := fun _ σ1 => DC σ1 t dE ∧ ∀ x y, ¬ (t ≤ x ∧ x ≤ t + 11) → sm σ σ1 x y) ?_ ?_
  · refine wp_bw (fillX (by decide)) ?_
    rintro _ σ1 ⟨f1, f2⟩
    rw [bnd_r, bnd_r, bnd_r]
    refine wp_r ⟨⟨h4, ?_, dE_a, ⟨fun f hf => ?_, ?_, fun p hp => absurd hp (Nat.not_lt_zero p), fun f i _ hi => absurd hi (Nat.not_lt_zero i), fun _ => ?_, fun a c z => (nomatch z)⟩⟩, fun x y z => sm_I (sm_I (sm_I (f2 x y (by omega)) (by omega) rfl) (by omega) rfl) (by omega) rfl⟩
    · show σ1.2.2 1 3 = t
      rw [(f2 0 0 (by omega)).2.2]; exact ht
    · simp (disch := omega) only [rI_o]
      exact f1 f hf
    · simp (disch := omega) only [rI_o, rI_s]
      rfl
    · simp (disch := omega) only [rI_o, rI_s, and_self]
  · rintro _ σ1 ⟨d1, d2⟩
    rw [bnd_r, bnd_r, bnd_r]
    have fr : ∀ x y, ¬ (x = 1 ∧ 4 ≤ y ∧ y ≤ 9) → ¬ (t ≤ x ∧ x ≤ t + 11) → sm σ (gsI (gsI (gsI σ1 1 4 0) 1 8 0) 1 9 (-1000000)) x y := fun x y z1 z2 => sm_I (sm_I (sm_I (d2 x y z2) (by omega) rfl) (by omega) rfl) (by omega) rfl
    have D2 : DC (gsI (gsI (gsI σ1 1 4 0) 1 8 0) 1 9 (-1000000)) t dE := ⟨h4, d1.2.1, dE_a, d1.2.2.2.keep (fun x y h1 h2 => by rw [rI_o (by omega), rI_o (by omega), rI_o (by omega)])⟩
    have P2 : PC (gsI (gsI (gsI σ1 1 4 0) 1 8 0) 1 9 (-1000000)) b m 0 := ⟨frT.tp h4 fr hT, Nat.zero_le _, ⟨by rw [rI_o (by decide), rI_o (by decide), rI_s]; rfl, rI_s⟩, by rw [rI_o (by decide), rI_s]⟩
    refine wp_m (loopC h4 (m + 1) 2000 0 0 dE _ (by omega) (by omega) (by omega) D2 dE_b P2) ?_
    rintro r σ3 ⟨c1, c2, c3, c4⟩
    exact ⟨c1, c2, fun x y z1 z2 z3 => sm_t (fr x y z1 z3) (c3 x y z1 z2 z3), c4⟩
end STD

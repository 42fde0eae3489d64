/-! TURNING: the order of the reference -/
def KTR (σ : gS) (D : DT) (O : OT) : Prop := σ.1 168 69 = nI (onn O) ∧ (∀ i, i < onn O → σ.1 210 i = nI (osq O i)) ∧ ∀ j, j < dn D 0 → (oA O j = 24 → σ.1 213 j = 0) ∧ (oA O j < 24 → σ.1 213 j = 1 ∧ σ.1 211 j = nI (oA O j) ∧ σ.1 212 j = nI (oB O j) ∧ σ.1 215 j = osd O j)
def OTr (σ : gS) (D : DT) (th : Nat → Nat) : Prop := ∀ j, j < dn D 0 → σ.1 214 j = nI (th j)
def frOr (σ σ' : gS) : Prop := ∀ x y, ¬ (x = 168 ∧ (y = 69 ∨ y = 76 ∨ y = 77)) → ¬ (210 ≤ x ∧ x ≤ 215) → sm σ σ' x y
def fr77 (σ σ' : gS) : Prop := ∀ x y, ¬ (x = 168 ∧ (y = 76 ∨ y = 77)) → sm σ σ' x y
theorem frOr.t {σ σ' σ'' : gS} (h : frOr σ σ') (h' : frOr σ' σ'') : frOr σ σ'' := fun x y q p => sm_t (h x y q p) (h' x y q p)
theorem fr77.w {σ σ' : gS} (h : fr77 σ σ') : frOr σ σ' := fun x y q _ => h x y (by omega)
theorem fr77.t {σ σ' σ'' : gS} (h : fr77 σ σ') (h' : fr77 σ' σ'') : fr77 σ σ'' := fun x y q => sm_t (h x y q) (h' x y q)
theorem fr77.r (σ : gS) : fr77 σ σ := fun x y _ => sm_r σ x y
theorem frOr.rd {σ σ' : gS} {D : DT} (h : frOr σ σ') (k : RD0 σ D) : RD0 σ' D := k.keep (fun x y a => (h x y (by unfold pR0 at a; omega) (by unfold pR0 at a; omega)).1)
section ORR
variable {σ : gS} {D : DT} {O : OT} {j : Nat} {th : Nat → Nat}
/-- what one bar says -/
theorem ht56 (w : WFa D) (v : WFb D) (k : RD0 σ D) {i : Nat} (hi : i < dn D 1) (hj : j < dn D 0) {fu : Nat} {v2 : Int32} (h2 : ¬ 2 ≤ v2) : ∃ s0 : Int32, fX11_hasTwo_4 (nI j) (fu + 1) v2 (nI i) σ = fX11_hasTwo_56 (nI j) (fun v2 v3 σ => fX11_hasTwo_4 (nI j) fu v2 v3 σ) v2 (nI i) s0 σ ∧ (acr D i j < 24 → s0 = nI (acr D i j)) ∧ (¬ acr D i j < 24 → s0 = -1) := by
  have w4 := w.n4
  obtain ⟨a1, a2, a3, a4, a5, a6⟩ := bAB w v hi
  have e9 : σ.1 168 9 = nI (dn D 1) := k.1 1 (by decide)
  have eA : σ.1 176 i = nI (bA D i) := ((k.2.2.2.1 1 i (by decide) hi).1).trans a4
  have eB : σ.1 177 i = nI (bB D i) := ((k.2.2.2.1 1 i (by decide) hi).2).trans a5
  have cli : (nI i).toNatClampNeg = i := nI_clamp (by omega)
  rw [fX11_hasTwo_4, e9, if_neg (nI_ge (by omega) (by omega)), if_neg h2, cli, gg_ix (by omega) (by decide), eA]
  unfold acr
  by_cases q : bA D i = j
  · rw [if_pos (by rw [q]), gg_ix (by omega) (by decide), if_pos q, eB]
    exact ⟨_, rfl, fun _ => rfl, fun z => by omega⟩
  · rw [if_neg (fun z => q ((nI_eq (by omega) (by omega)).mp z)), gg_ix (by omega) (by decide), if_neg q, eB]
    by_cases q2 : bB D i = j
    · rw [if_pos (by rw [q2]), gg_ix (by omega) (by decide), if_pos q2]
      exact ⟨_, rfl, fun _ => rfl, fun z => by omega⟩
    · rw [if_neg (fun z => q2 ((nI_eq (by omega) (by omega)).mp z)), if_neg q2]
      exact ⟨_, rfl, fun z => by omega, fun _ => rfl⟩
/-- the next bar that serves -/
theorem htK (w : WFa D) (v : WFb D) (k : RD0 σ D) (hj : j < dn D 0) (h01 : ∀ x, th x = 0 ∨ th x = 1) (ht : OTr σ D th) {v2 : Int32} (h2 : ¬ 2 ≤ v2) : ∀ (m i fu : Nat), i + m = dn D 1 → m < fu → (fP (hkP D th j) m i < dn D 1 → ∃ gu, dn D 1 - (fP (hkP D th j) m i + 1) < gu ∧ fX11_hasTwo_4 (nI j) fu v2 (nI i) σ = fX11_hasTwo_87 (nI j) (fun v2 v3 σ => fX11_hasTwo_4 (nI j) gu v2 v3 σ) v2 (nI (fP (hkP D th j) m i)) (nI (acr D (fP (hkP D th j) m i) j)) (if v2 = 0 then nI (acr D (fP (hkP D th j) m i) j) else σ.1 168 76) σ) ∧ (¬ fP (hkP D th j) m i < dn D 1 → fX11_hasTwo_4 (nI j) fu v2 (nI i) σ = fX11_hasTwo_105 (nI j) v2 σ) := by
  have w4 := w.n4
  have e9 : σ.1 168 9 = nI (dn D 1) := k.1 1 (by decide)
  intro m
  induction m with
  | zero =>
    intro i fu e hf
    obtain ⟨fu, rfl⟩ : ∃ y, fu = y + 1 := ⟨fu - 1, by omega⟩
    rw [fP]
    refine ⟨fun z => by omega, fun _ => ?_⟩
    rw [fX11_hasTwo_4, e9, if_pos (nI_le (by omega) (by omega))]
  | succ m ih =>
    intro i fu e hf
    obtain ⟨fu, rfl⟩ : ∃ y, fu = y + 1 := ⟨fu - 1, by omega⟩
    have hi : i < dn D 1 := by omega
    obtain ⟨s0, e1, e2, e3⟩ := ht56 w v k hi hj (fu := fu) h2
    rw [fP]
    by_cases z : hkP D th j i
    · rw [cif_t z]
      refine ⟨fun _ => ⟨fu, by omega, ?_⟩, fun y => absurd hi y⟩
      have ab := acr_b w v hi z.1
      rw [e1, e2 z.1, fX11_hasTwo_56, if_neg (nI_pos (by omega)), nI_clamp (show acr D i j < 2 ^ 31 by omega), gg_ix z.1 (by decide), ht _ ab]
      rcases h01 (acr D i j) with y | y
      · exact absurd y z.2
      · rw [if_neg (nI_ne (by omega) (by omega))]
        by_cases v0 : v2 = 0
        · rw [if_pos v0, if_pos v0]
        · rw [if_neg v0, if_neg v0]
    · rw [cif_f z]
      have step : fX11_hasTwo_4 (nI j) (fu + 1) v2 (nI i) σ = fX11_hasTwo_4 (nI j) fu v2 (nI (i + 1)) σ := by
        rw [e1, fX11_hasTwo_56]
        by_cases q : acr D i j < 24
        · have ab := acr_b w v hi q
          rw [e2 q, if_neg (nI_pos (by omega)), nI_clamp (show acr D i j < 2 ^ 31 by omega), gg_ix q (by decide), ht _ ab]
          rcases h01 (acr D i j) with y | y
          · rw [if_pos (by rw [y]; rfl), fX11_hasTwo_99, bnd_r, nI_1]
          · exact absurd ⟨q, by omega⟩ z
        · rw [e3 q, if_pos (by decide), fX11_hasTwo_99, bnd_r, nI_1]
      rw [step]
      exact ih (i + 1) fu (by omega) (by omega)
theorem htR (w : WFa D) (v : WFb D) (k : RD0 σ D) (hj : j < dn D 0) (h01 : ∀ x, th x = 0 ∨ th x = 1) (ht : OTr σ D th) : Wp (fX11_hasTwo (nI j) σ) (fun r σ' => r = cif (cnH D th j) 1 0 ∧ (cnH D th j → σ'.1 168 76 = nI (cnA D th j) ∧ σ'.1 168 77 = nI (cnB D th j)) ∧ fr77 σ σ') := by
  have w4 := w.n4
  obtain ⟨p1, p2⟩ := htK w v k hj h01 ht (v2 := 0) (by decide) (dn D 1) 0 2000 (by omega) (by omega)
  have b1 := fP_b (hkP D th j) (dn D 1) 0
  rw [fX11_hasTwo]
  by_cases q : hk1 D th j < dn D 1
  · obtain ⟨gu, g1, g2⟩ := p1 q
    refine Eq.subst (motive := fun z => Wp z _) g2.symm ?_
    rw [if_pos rfl, fX11_hasTwo_87, bnd_r, bnd_r, bnd_r, fX11_hasTwo_99, bnd_r, nI_1]
    have ea : acr D (fP (hkP D th j) (dn D 1) 0) j = cnA D th j := rfl
    have eh : fP (hkP D th j) (dn D 1) 0 = hk1 D th j := rfl
    rw [ea, eh]
    have f1 : fr77 σ (gsI (gsI σ 168 76 (nI (cnA D th j))) 168 77 (nI (cnA D th j))) := fun x y z => sm_I (sm_I (sm_r σ x y) (by omega) rfl) (by omega) rfl
    have t1 : OTr (gsI (gsI σ 168 76 (nI (cnA D th j))) 168 77 (nI (cnA D th j))) D th := fun x hx => by rw [rI_h (by omega), rI_h (by omega)]; exact ht x hx
    obtain ⟨r1, r2⟩ := htK w v (f1.w.rd k) hj h01 t1 (v2 := 1) (by decide) (dn D 1 - (hk1 D th j + 1)) (hk1 D th j + 1) gu (by omega) (by rw [eh] at g1; exact g1)
    rw [show (0 : Int32) + 1 = 1 from rfl]
    by_cases q2 : hk2 D th j < dn D 1
    · obtain ⟨hu, u1, u2⟩ := r1 q2
      refine Eq.subst (motive := fun z => Wp z _) u2.symm ?_
      have eb : acr D (fP (hkP D th j) (dn D 1 - (hk1 D th j + 1)) (hk1 D th j + 1)) j = cnB D th j := rfl
      rw [if_neg (by decide), fX11_hasTwo_87, bnd_r, bnd_r, bnd_r, fX11_hasTwo_99, bnd_r, nI_1, eb, rI_k (show (76 : Nat) ≠ 77 by decide), rI_s, show (1 : Int32) + 1 = 2 from rfl]
      obtain ⟨hu, rfl⟩ : ∃ y, hu = y + 1 := ⟨hu - 1, by omega⟩
      have f2 : fr77 σ (gsI (gsI (gsI (gsI σ 168 76 (nI (cnA D th j))) 168 77 (nI (cnA D th j))) 168 76 (nI (cnA D th j))) 168 77 (nI (cnB D th j))) := fun x y z => sm_I (sm_I (sm_I (sm_I (sm_r σ x y) (by omega) rfl) (by omega) rfl) (by omega) rfl) (by omega) rfl
      have fin : Wp (fX11_hasTwo_105 (nI j) 2 (gsI (gsI (gsI (gsI σ 168 76 (nI (cnA D th j))) 168 77 (nI (cnA D th j))) 168 76 (nI (cnA D th j))) 168 77 (nI (cnB D th j)))) (fun r σ' => r = cif (cnH D th j) 1 0 ∧ (cnH D th j → σ'.1 168 76 = nI (cnA D th j) ∧ σ'.1 168 77 = nI (cnB D th j)) ∧ fr77 σ σ') := by
        rw [fX11_hasTwo_105, if_pos rfl, fX11_hasTwo_115, gg_t (Or.inr rfl)]
        exact wp_r ⟨by rw [cif_t (show cnH D th j from ⟨q, q2⟩)], fun _ => ⟨by rw [rI_k (by decide), rI_s], rI_s⟩, f2⟩
      rw [fX11_hasTwo_4]
      split
      · exact fin
      · rw [if_pos (by decide)]; exact fin
    · have u2 := r2 q2
      refine Eq.subst (motive := fun z => Wp z _) u2.symm ?_
      rw [fX11_hasTwo_105, if_neg (by decide), fX11_hasTwo_115, gg_t (Or.inl rfl)]
      exact wp_r ⟨by rw [cif_f (fun z : cnH D th j => q2 z.2)], fun z => absurd z.2 q2, f1⟩
  · have u2 := p2 q
    refine Eq.subst (motive := fun z => Wp z _) u2.symm ?_
    rw [fX11_hasTwo_105, if_neg (by decide), fX11_hasTwo_115, gg_t (Or.inl rfl)]
    exact wp_r ⟨by rw [cif_f (fun z : cnH D th j => q z.1)], fun z => absurd z.1 q, fr77.r σ⟩
theorem fo111 (w : WFa D) (v : WFb D) (k : RD0 σ D) (hd : dd D ≠ none) (hj : j < dn D 0) (hn : nxP D (oth O) j) (g : GOr D O) (hT : OTr σ D (oth O)) (hK : KTR σ D O) (e76 : σ.1 168 76 = nI (cnA D (oth O) j)) (e77 : σ.1 168 77 = nI (cnB D (oth O) j)) {k69 : Int32 → gS → Option (Unit × gS)} {k77 : Int32 → Int32 → gS → Option (Unit × gS)} {Q : Unit → gS → Prop} (K : ∀ σ', OTr σ' D (oth (stO D O j)) → KTR σ' D (stO D O j) → frOr σ σ' → Wp (k77 1 (nI (j + 1)) σ') Q) : Wp (fX11_findOrder_111 k69 k77 (nI j) 1 σ) Q := by
  have w4 := w.n4
  obtain ⟨c1, c2⟩ := cnH_b w v hn.2
  have g2 := stO_g w v hj hn g
  have on2 := onn_le w v g2 hd
  have on3 : onn (stO D O j) = onn O + 1 := rfl
  have clj : (nI j).toNatClampNeg = j := nI_clamp (by omega)
  have clA : (nI (cnA D (oth O) j)).toNatClampNeg = cnA D (oth O) j := nI_clamp (by omega)
  have clB : (nI (cnB D (oth O) j)).toNatClampNeg = cnB D (oth O) j := nI_clamp (by omega)
  have b1 : vp_nar .boolean 1 = 1 := rfl
  have x0 : ∀ x, x < dn D 0 → σ.1 170 x = jX D x ∧ σ.1 171 x = jY D x := fun x hx => k.2.2.2.1 0 x (by decide) hx
  rw [fX11_findOrder_111, if_neg (by decide), clj, gg_ix (by omega) (by decide), bnd_r, gg_ix (by omega) (by decide), bnd_r, b1]
  rw [rI_h (show (168 : Nat) ≠ 213 by omega), rI_h (show (168 : Nat) ≠ 214 by omega), hK.1, nI_clamp (show onn O < 2 ^ 31 by omega), gg_ix (by omega) (by decide), bnd_r, gg_ix (by omega) (by decide), bnd_r]
  rw [rI_h (show (168 : Nat) ≠ 210 by omega), rI_h (show (168 : Nat) ≠ 213 by omega), rI_h (show (168 : Nat) ≠ 214 by omega), e76, gg_ix (by omega) (by decide), bnd_r]
  rw [rI_h (show (168 : Nat) ≠ 211 by omega), rI_h (show (168 : Nat) ≠ 210 by omega), rI_h (show (168 : Nat) ≠ 213 by omega), rI_h (show (168 : Nat) ≠ 214 by omega), e77, bnd_r]
  rw [rI_h (show (168 : Nat) ≠ 212 by omega), rI_h (show (168 : Nat) ≠ 211 by omega), rI_h (show (168 : Nat) ≠ 210 by omega), rI_h (show (168 : Nat) ≠ 213 by omega), rI_h (show (168 : Nat) ≠ 214 by omega), hK.1, nI_1]
  generalize hs : gsI (gsI (gsI (gsI (gsI (gsI σ 214 j 1) 213 j 1) 210 (onn O) (nI j)) 211 j (nI (cnA D (oth O) j))) 212 j (nI (cnB D (oth O) j))) 168 69 (nI (onn O + 1)) = τ
  have t76 : τ.1 168 76 = nI (cnA D (oth O) j) := by rw [← hs]; simp (disch := omega) only [rI_k, rI_h]; exact e76
  have t77 : τ.1 168 77 = nI (cnB D (oth O) j) := by rw [← hs]; simp (disch := omega) only [rI_k, rI_h]; exact e77
  have tx : ∀ x, x < dn D 0 → τ.1 170 x = jX D x ∧ τ.1 171 x = jY D x := fun x hx => by rw [← hs]; simp (disch := omega) only [rI_h]; exact x0 x hx
  rw [t77, clB, gg_ix (by omega) (by decide), t76, clA, gg_ix (by omega) (by decide), bnd_r, gg_ix (by omega) (by decide), gg_ix (by omega) (by decide), bnd_r, gg_ix (by omega) (by decide), gg_ix (by omega) (by decide), gg_ix (by omega) (by decide), gg_ix (by omega) (by decide)]
  rw [(tx _ c2).1, (tx _ c1).1, (tx _ c2).2, (tx _ c1).2, (tx _ hj).1, (tx _ hj).2]
  have ec := crs64 v c1 c2 hj
  have fin : ∀ s : Int32, s = tsd D (cnA D (oth O) j) (cnB D (oth O) j) j → Wp (fX11_findOrder_268 k69 k77 1 (nI j) (nI j) s τ) Q := by
    intro s es
    rw [fX11_findOrder_268, clj, gg_ix (by omega) (by decide), bnd_r, fX11_findOrder_269, bnd_r, nI_1]
    refine K _ (fun x hx => ?_) ⟨?_, fun x hx => ?_, fun x hx => ?_⟩ (fun x y z1 z2 => ?_)
    · show _ = nI (up (oth O) j 1 x)
      rw [← hs]
      by_cases z : x = j
      · subst z
        simp (disch := omega) only [rI_h, rI_s, up_s]
        rfl
      · rw [up_o z, rI_h (by omega), rI_h (by omega), rI_h (by omega), rI_h (by omega), rI_h (by omega), rI_h (by omega), rI_k z]
        exact hT x hx
    · rw [← hs, rI_h (by omega), rI_s]; rfl
    · have hx : x < onn O + 1 := hx
      show _ = nI (up (osq O) (onn O) j x)
      rw [← hs, rI_h (by omega), rI_h (by omega), rI_h (by omega), rI_h (by omega)]
      by_cases z : x = onn O
      · rw [z, rI_s, up_s]
      · rw [rI_k z, rI_h (by omega), rI_h (by omega), up_o z]
        exact hK.2.1 x (by omega)
    · show (up (oA O) j (cnA D (oth O) j) x = 24 → _) ∧ (up (oA O) j (cnA D (oth O) j) x < 24 → _ ∧ _ = nI (up (oA O) j (cnA D (oth O) j) x) ∧ _ = nI (up (oB O) j (cnB D (oth O) j) x) ∧ _ = up (osd O) j (tsd D (cnA D (oth O) j) (cnB D (oth O) j) j) x)
      rw [← hs]
      by_cases z : x = j
      · subst z
        rw [up_s, up_s, up_s]
        refine ⟨fun y => by omega, fun _ => ⟨?_, ?_, ?_, ?_⟩⟩
        · simp (disch := omega) only [rI_h, rI_s]
        · simp (disch := omega) only [rI_h, rI_s]
        · simp (disch := omega) only [rI_h, rI_s]
        · rw [rI_s, es]
      · rw [up_o z, up_o z, up_o z]
        have r1 : ∀ c : Nat, c = 211 ∨ c = 212 ∨ c = 213 ∨ c = 215 → (gsI (gsI (gsI (gsI (gsI (gsI (gsI σ 214 j 1) 213 j 1) 210 (onn O) (nI j)) 211 j (nI (cnA D (oth O) j))) 212 j (nI (cnB D (oth O) j))) 168 69 (nI (onn O + 1))) 215 j s).1 c x = σ.1 c x := by
          intro c hc
          rw [rI_k z, rI_h (by omega), rI_k z, rI_k z, rI_h (by omega), rI_k z, rI_k z]
        rw [r1 213 (by omega), r1 211 (by omega), r1 212 (by omega), r1 215 (by omega)]
        exact hK.2.2 x hx
    · rw [← hs]
      exact sm_I (sm_I (sm_I (sm_I (sm_I (sm_I (sm_I (sm_r σ x y) (by omega) rfl) (by omega) rfl) (by omega) rfl) (by omega) rfl) (by omega) rfl) (by omega) rfl) (by omega) rfl
  by_cases q : crs D (cnA D (oth O) j) (cnB D (oth O) j) j < 0
  · rw [if_pos (cmp_lt.mpr (lt64.mpr (by rw [ec, z64]; exact q)))]
    exact fin _ (by unfold tsd; rw [if_pos q])
  · rw [if_neg (fun z => q (by have := lt64.mp (cmp_lt.mp z); rw [ec, z64] at this; exact this))]
    exact fin _ (by unfold tsd; rw [if_neg q])
theorem fo77 (w : WFa D) (v : WFb D) (k : RD0 σ D) (hd : dd D ≠ none) (g : GOr D O) (hT : OTr σ D (oth O)) (hK : KTR σ D O) {k69 : Int32 → gS → Option (Unit × gS)} {Q : Unit → gS → Prop} (K0 : ¬ nxO D O < dn D 0 → ∀ σ', KTR σ' D O → frOr σ σ' → Wp (k69 0 σ') Q) (K1 : nxO D O < dn D 0 → ∀ σ', OTr σ' D (oth (stO D O (nxO D O))) → KTR σ' D (stO D O (nxO D O)) → frOr σ σ' → Wp (k69 1 σ') Q) : Wp (fX11_findOrder_77 k69 2000 0 0 σ) Q := by
  have w4 := w.n4
  have key : ∀ (m i fu : Nat) (τ : gS), i + m = dn D 0 → m + 1 < fu → nxO D O = fP (nxP D (oth O)) m i → fr77 σ τ → Wp (fX11_findOrder_77 k69 fu 0 (nI i) τ) Q := by
    intro m
    induction m with
    | zero =>
      intro i fu τ e hf hO fr
      obtain ⟨fu, rfl⟩ : ∃ y, fu = y + 1 := ⟨fu - 1, by omega⟩
      have e0 : τ.1 168 0 = nI (dn D 0) := (fr.w.rd k).1 0 (by decide)
      rw [fP] at hO
      rw [fX11_findOrder_77, e0, if_pos (nI_le (by omega) (by omega)), fX11_findOrder_275]
      refine K0 (by omega) τ ?_ fr.w
      unfold KTR
      rw [(fr 168 69 (by omega)).1]
      refine ⟨hK.1, fun x hx => by rw [(fr 210 x (by omega)).1]; exact hK.2.1 x hx, fun x hx => ?_⟩
      rw [(fr 213 x (by omega)).1, (fr 211 x (by omega)).1, (fr 212 x (by omega)).1, (fr 215 x (by omega)).1]
      exact hK.2.2 x hx
    | succ m ih =>
      intro i fu τ e hf hO fr
      obtain ⟨fu, rfl⟩ : ∃ y, fu = y + 1 := ⟨fu - 1, by omega⟩
      have hi : i < dn D 0 := by omega
      have kt := fr.w.rd k
      have e0 : τ.1 168 0 = nI (dn D 0) := kt.1 0 (by decide)
      have cli : (nI i).toNatClampNeg = i := nI_clamp (by omega)
      have tT : OTr τ D (oth O) := fun x hx => by rw [(fr 214 x (by omega)).1]; exact hT x hx
      rw [fX11_findOrder_77, e0, if_neg (nI_ge (by omega) (by omega)), if_pos rfl, cli, gg_ix (by omega) (by decide), tT i hi]
      have nx : ∀ τ', fr77 σ τ' → ¬ nxP D (oth O) i → Wp (fX11_findOrder_110 k69 (fun v1 v2 σ => fX11_findOrder_77 k69 fu v1 v2 σ) (nI i) τ') Q := by
        intro τ' fr' z
        rw [fP, cif_f z] at hO
        rw [fX11_findOrder_110, fX11_findOrder_111, if_pos rfl, fX11_findOrder_269, bnd_r, nI_1]
        exact ih (i + 1) fu τ' (by omega) (by omega) hO fr'
      rcases g.1 i with y | y
      · rw [if_pos (by rw [y]; rfl)]
        refine wp_bw (htR w v kt hi g.1 tT) ?_
        rintro r τ1 ⟨r1, r2, r3⟩
        subst r1
        by_cases z : cnH D (oth O) i
        · rw [cif_t z, i10]
          have hn : nxP D (oth O) i := ⟨y, z⟩
          rw [fP, cif_t hn] at hO
          have fr1 := fr.t r3
          have k1 := fr1.w.rd k
          have tT1 : OTr τ1 D (oth O) := fun x hx => by rw [(fr1 214 x (by omega)).1]; exact hT x hx
          have tK1 : KTR τ1 D O := by
            unfold KTR
            rw [(fr1 168 69 (by omega)).1]
            refine ⟨hK.1, fun x hx => by rw [(fr1 210 x (by omega)).1]; exact hK.2.1 x hx, fun x hx => ?_⟩
            rw [(fr1 213 x (by omega)).1, (fr1 211 x (by omega)).1, (fr1 212 x (by omega)).1, (fr1 215 x (by omega)).1]
            exact hK.2.2 x hx
          refine fo111 w v k1 hd hi hn g tT1 tK1 (r2 z).1 (r2 z).2 (fun σ' h1 h2 h3 => ?_)
          obtain ⟨fu, rfl⟩ : ∃ y, fu = y + 1 := ⟨fu - 1, by omega⟩
          have e0' : σ'.1 168 0 = nI (dn D 0) := (h3.rd k1).1 0 (by decide)
          rw [hO] at K1
          have kk := K1 hi σ' h1 h2 (fr1.w.t h3)
          show Wp (fX11_findOrder_77 k69 (fu + 1) 1 (nI (i + 1)) σ') Q
          rw [fX11_findOrder_77, e0']
          by_cases yy : nI (dn D 0) ≤ nI (i + 1)
          · rw [if_pos yy, fX11_findOrder_275]; exact kk
          · rw [if_neg yy, if_neg (by decide), fX11_findOrder_275]; exact kk
        · rw [cif_f z, i00]
          exact nx τ1 (fr.t r3) (fun x => z x.2)
      · rw [if_neg (nI_ne (by omega) (by omega))]
        exact nx τ fr (fun x => by have := x.1; omega)
  exact key (dn D 0) 0 2000 σ (by omega) (by omega) rfl (fr77.r σ)
theorem fo69 (w : WFa D) (v : WFb D) (hd : dd D ≠ none) : ∀ (m fu : Nat) (σ : gS) (O : OT), dn D 0 ≤ sN (oth O) (dn D 0) + m → m + 1 < fu → RD0 σ D → GOr D O → OTr σ D (oth O) → KTR σ D O → Wp (fX11_findOrder_69 fu 1 σ) (fun _ σ' => KTR σ' D (itO D m O) ∧ frOr σ σ') := by
  intro m
  induction m with
  | zero =>
    intro fu σ O hm hf k g hT hK
    obtain ⟨fu, rfl⟩ : ∃ y, fu = y + 1 := ⟨fu - 1, by omega⟩
    rw [fX11_findOrder_69, if_neg (by decide)]
    refine fo77 w v k hd g hT hK (fun q σ' h1 h2 => ?_) (fun q σ' h1 h2 h3 => ?_)
    · obtain ⟨fu, rfl⟩ : ∃ y, fu = y + 1 := ⟨fu - 1, by omega⟩
      rw [fX11_findOrder_69, if_pos rfl]
      exact wp_r ⟨h1, h2⟩
    · have g2 := stO_g w v q (nxO_y q) g
      have a := oth_le g2
      have b := g.2.2.2.2
      have c := g2.2.2.2.2
      have on3 : onn (stO D O (nxO D O)) = onn O + 1 := rfl
      omega
  | succ m ih =>
    intro fu σ O hm hf k g hT hK
    obtain ⟨fu, rfl⟩ : ∃ y, fu = y + 1 := ⟨fu - 1, by omega⟩
    rw [fX11_findOrder_69, if_neg (by decide)]
    refine fo77 w v k hd g hT hK (fun q σ' h1 h2 => ?_) (fun q σ' h1 h2 h3 => ?_)
    · obtain ⟨fu, rfl⟩ : ∃ y, fu = y + 1 := ⟨fu - 1, by omega⟩
      rw [fX11_findOrder_69, if_pos rfl, itO, cif_f q]
      exact wp_r ⟨h1, h2⟩
    · have g2 := stO_g w v q (nxO_y q) g
      have b := g.2.2.2.2
      have c := g2.2.2.2.2
      have on3 : onn (stO D O (nxO D O)) = onn O + 1 := rfl
      rw [itO, cif_t q]
      refine wp_m (ih fu σ' _ (by omega) (by omega) (h3.rd k) g2 h1 h2) ?_
      rintro _ σ'' ⟨t2, f2⟩
      exact ⟨t2, h3.t f2⟩
theorem orderR (w : WFa D) (v : WFb D) (k : RD0 σ D) : Wp (fX11_findOrder σ) (fun _ σ' => KTR σ' D (orD D) ∧ frOr σ σ') := by
  have w4 := w.n4
  have b0 : vp_nar .boolean 0 = 0 := rfl
  have key : ∀ (m i fu : Nat) (τ : gS), i + m = dn D 0 → m < fu → RD0 τ D → frOr σ τ → τ.1 168 69 = nI 0 → (∀ x, x < i → τ.1 214 x = nI (inTc D x) ∧ τ.1 213 x = 0) → Wp (fX11_findOrder_7 fu (nI i) τ) (fun _ σ' => KTR σ' D (orD D) ∧ frOr σ σ') := by
    intro m
    induction m with
    | zero =>
      intro i fu τ e hf k fr h0 hx
      obtain ⟨fu, rfl⟩ : ∃ y, fu = y + 1 := ⟨fu - 1, by omega⟩
      have hK : KTR τ D (inO D) := ⟨h0, fun x hx => absurd hx (Nat.not_lt_zero x), fun x hxx => ⟨fun _ => (hx x (by omega)).2, fun z => absurd z (Nat.lt_irrefl 24)⟩⟩
      have e0 : τ.1 168 0 = nI (dn D 0) := k.1 0 (by decide)
      rw [fX11_findOrder_7, e0, if_pos (nI_le (by omega) (by omega))]
      unfold orD
      by_cases hd : dd D = none
      · rw [if_pos hd, (k.2.2.2.2.2.2.1 hd).1, if_pos (by decide), fX11_findOrder_68, fX11_findOrder_69, if_pos rfl]
        exact wp_r ⟨hK, fr⟩
      · obtain ⟨⟨a, b⟩, ed⟩ := Option.ne_none_iff_exists'.mp hd
        have dv := v.2.2.2.2 a b ed
        rw [if_neg hd, (k.2.2.2.2.2.2.2 a b ed).1, if_neg (nI_pos (by omega)), fX11_findOrder_68]
        refine wp_m (fo69 w v hd (dn D 0) 2000 τ (inO D) (by omega) (by omega) k inO_g (fun x hxx => (hx x (by omega)).1) hK) ?_
        rintro _ σ' ⟨h1, h2⟩
        exact ⟨h1, fr.t h2⟩
    | succ m ih =>
      intro i fu τ e hf k fr h0 hx
      obtain ⟨fu, rfl⟩ : ∃ y, fu = y + 1 := ⟨fu - 1, by omega⟩
      have hi : i < dn D 0 := by omega
      have cli : (nI i).toNatClampNeg = i := nI_clamp (by omega)
      have e0 : τ.1 168 0 = nI (dn D 0) := k.1 0 (by decide)
      have eg : τ.1 172 i = (if dk D (dm D 0 i) = 1 then 1 else 0) := k.2.2.2.2.1 i hi
      have go : ∀ s : Nat, s = inTc D i → s = 0 ∨ s = 1 → Wp (fX11_findOrder_42 (fun v1 σ => fX11_findOrder_7 fu v1 σ) (nI i) (nI i) (nI s) τ) (fun _ σ' => KTR σ' D (orD D) ∧ frOr σ σ') := by
        intro s hs h01
        have en : vp_nar .boolean (nI s) = nI s := by
          rcases h01 with rfl | rfl <;> rfl
        rw [fX11_findOrder_42, cli, gg_ix (by omega) (by decide), bnd_r, gg_ix (by omega) (by decide), bnd_r, bnd_r, nI_1, en, b0]
        have f2 : frOr τ (gsI (gsI τ 214 i (nI s)) 213 i 0) := fun x y z1 z2 => sm_I (sm_I (sm_r τ x y) (by omega) rfl) (by omega) rfl
        refine ih (i + 1) fu _ (by omega) (by omega) (f2.rd k) (fr.t f2) (by rw [rI_h (by omega), rI_h (by omega)]; exact h0) (fun x h1 => ?_)
        by_cases z : x = i
        · subst z
          rw [rI_h (by omega), rI_s, rI_s, hs]
          exact ⟨rfl, rfl⟩
        · rw [rI_k z, rI_k z, rI_k z, rI_k z]
          exact hx x (by omega)
      rw [fX11_findOrder_7, e0, if_neg (nI_ge (by omega) (by omega)), cli, gg_ix (by omega) (by decide), eg]
      by_cases qg : dk D (dm D 0 i) = 1
      · rw [if_pos qg, i10, fX11_findOrder_37]
        exact go 1 (by unfold inTc; rw [cif_t (Or.inl qg)]) (Or.inr rfl)
      · rw [if_neg qg, i00]
        rcases hd : dd D with _ | ⟨a, b⟩
        · rw [(k.2.2.2.2.2.2.1 hd).1, if_neg (fun z => nI_pos (show i < 2 ^ 31 by omega) (by rw [z]; decide))]
          exact go 0 (by unfold inTc; rw [cif_f]; rintro (z | ⟨b, z⟩); exact qg z; rw [hd] at z; exact absurd z (by simp)) (Or.inl rfl)
        · have dv := v.2.2.2.2 a b hd
          rw [(k.2.2.2.2.2.2.2 a b hd).1]
          by_cases z : i = a
          · rw [if_pos (by rw [z]), fX11_findOrder_37]
            exact go 1 (by unfold inTc; rw [cif_t]; exact Or.inr ⟨b, by rw [hd, z]⟩) (Or.inr rfl)
          · rw [if_neg (fun y => z ((nI_eq (by omega) (by omega)).mp y))]
            refine go 0 ?_ (Or.inl rfl)
            unfold inTc
            rw [cif_f]
            rintro (y | ⟨b', y⟩)
            · exact qg y
            · rw [hd] at y
              exact z (congrArg Prod.fst (Option.some.inj y)).symm
  rw [fX11_findOrder, bnd_r]
  have f0 : frOr σ (gsI σ 168 69 0) := fun x y z1 z2 => sm_I (sm_r σ x y) (by omega) rfl
  exact key (dn D 0) 0 2000 _ (by omega) (by omega) (f0.rd k) f0 (by rw [rI_s]; rfl) (fun x h => absurd h (Nat.not_lt_zero x))
end ORR

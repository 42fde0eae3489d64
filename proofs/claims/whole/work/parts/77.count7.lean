/-! the reference's needed items, and what is near -/
def frN (σ σ' : gS) : Prop := ∀ x y, ¬ (198 ≤ x ∧ x ≤ 205) → ¬ (x = 168 ∧ 52 ≤ y ∧ y ≤ 57) → sm σ σ' x y
theorem frN.t {σ τ υ : gS} (h : frN σ τ) (h' : frN τ υ) : frN σ υ := fun x y z1 z2 => sm_t (h x y z1 z2) (h' x y z1 z2)
theorem frQ.N {n : Nat} {σ σ' : gS} (h : frQ n σ σ') : frN σ σ' := fun x y z1 _ => h x y (by omega)
def IT (σ : gS) (l : List (Nat × Nat)) : Prop := σ.1 168 53 = nI l.length ∧ ∀ x, x < l.length → σ.1 198 x = nI (lA l x) ∧ σ.1 199 x = nI (lB l x) ∧ σ.1 200 x = -1
theorem lA_l {l : List (Nat × Nat)} {q : Nat × Nat} {x : Nat} (h : x < l.length) : lA (l ++ [q]) x = lA l x ∧ lB (l ++ [q]) x = lB l x := by
  unfold lA lB
  rw [List.getD_eq_getElem?_getD, List.getElem?_append_left h, ← List.getD_eq_getElem?_getD]
  exact ⟨rfl, rfl⟩
theorem lA_r {l : List (Nat × Nat)} {q : Nat × Nat} : lA (l ++ [q]) l.length = q.1 ∧ lB (l ++ [q]) l.length = q.2 := by
  unfold lA lB
  rw [List.getD_eq_getElem?_getD, List.getElem?_append_right (Nat.le_refl _), Nat.sub_self]
  exact ⟨rfl, rfl⟩
def sI (σ : gS) (m a b : Nat) : gS := gsI (gsI (gsI (gsI σ 198 m (nI a)) 199 m (nI b)) 200 m (-1)) 168 53 (nI (m + 1))
section NEE
variable {σ σ' : gS} {D : DT}
theorem addIt {m a b : Nat} (hm : m < 106) (e : σ.1 168 53 = nI m) : fX11_addItem (nI a) (nI b) σ = some ((), sI σ m a b) := by
  simp (disch := omega) only [fX11_addItem, e, nI_clamp, gg_ix, bnd_r, rI_o, nI_1]
  rfl
theorem IT.add {l : List (Nat × Nat)} {a b : Nat} (h : IT σ l) (hl : l.length < 106) : IT (sI σ l.length a b) (l ++ [(a, b)]) := by
  obtain ⟨h1, h2⟩ := h
  have el : (l ++ [(a, b)]).length = l.length + 1 := by rw [List.length_append]; rfl
  refine ⟨by rw [el]; exact rI_s, fun x hx => ?_⟩
  rw [el] at hx
  unfold sI
  by_cases q : x = l.length
  · subst q
    obtain ⟨r1, r2⟩ := lA_r (l := l) (q := (a, b))
    rw [r1, r2]
    simp (disch := omega) only [rI_o, rI_s, and_self]
  · obtain ⟨r1, r2⟩ := lA_l (l := l) (q := (a, b)) (show x < l.length by omega)
    rw [r1, r2]
    simp (disch := omega) only [rI_o]
    exact h2 x (by omega)
theorem sI_f {m a b : Nat} : frN σ (sI σ m a b) := fun x y z1 z2 => sm_I (sm_I (sm_I (sm_I (sm_r σ x y) (by omega) rfl) (by omega) rfl) (by omega) rfl) (by omega) rfl
theorem RD0.n (h : RD0 σ D) (hf : frN σ σ') : RD0 σ' D := h.keep (fun x y z => (hf x y (by unfold pR0 at z; omega) (by unfold pR0 at z; omega)).1)
def N0 (σ : gS) (D : DT) : Prop := RD0 σ D ∧ σ.1 168 52 = nI (tiD D).length ∧ σ.1 168 57 = 0 ∧ σ.1 168 53 = 0 ∧ (∀ x, x < (tiD D).length → σ.1 198 x = nI (lA (tiD D) x) ∧ σ.1 199 x = nI (lB (tiD D) x) ∧ σ.1 200 x = -1) ∧ ∀ v, v < dn D 0 → σ.1 201 v = 0
theorem tiesR (w : WFa D) : ∀ (k j fu : Nat) (σ : gS), j + k = dn D 0 → k < fu → RD0 σ D → IT σ (tieA (grD D) j).2.2 → (∀ v, v < j → σ.1 201 v = 0) →
    ∃ σ', frN σ σ' ∧ N0 σ' D ∧ fX11_findNeeded_11 fu (eo (tieA (grD D) j).1) (eo (tieA (grD D) j).2.1) (nI j) σ = fX11_findNeeded_108 2000 (nI ((tiD D).length + dn D 1)) 0 σ' := by
  have w4 := w.n4
  have tl := tiD_len w
  intro k
  induction k with
  | zero =>
    intro j fu σ e hfu h0 hI hz
    obtain ⟨fu, rfl⟩ : ∃ y, fu = y + 1 := ⟨fu - 1, by omega⟩
    have ej : j = dn D 0 := by omega
    have e0 : σ.1 168 0 = nI (dn D 0) := h0.1 0 (by decide)
    have e9 : σ.1 168 9 = nI (dn D 1) := h0.1 1 (by decide)
    subst ej
    have e53 : σ.1 168 53 = nI (tiD D).length := hI.1
    have fr : frN σ (gsI (gsI (gsI σ 168 52 (nI (tiD D).length)) 168 57 0) 168 53 0) := fun x y z1 z2 => sm_I (sm_I (sm_I (sm_r σ x y) (by omega) rfl) (by omega) rfl) (by omega) rfl
    refine ⟨gsI (gsI (gsI σ 168 52 (nI (tiD D).length)) 168 57 0) 168 53 0, fr, ⟨h0.n fr, ?_, ?_, rI_s, fun x hx => ?_, fun v hv => ?_⟩, ?_⟩
    · rw [rI_o (by omega), rI_o (by omega), rI_s]
    · rw [rI_o (by omega), rI_s]
    · simp (disch := omega) only [rI_o]
      exact hI.2 x hx
    · rw [rI_o (by omega), rI_o (by omega), rI_o (by omega)]; exact hz v hv
    · rw [fX11_findNeeded_11, e0, if_pos (nI_le (by omega) (by omega)), bnd_r, bnd_r, bnd_r, bnd_r, rI_s, rI_o (by omega), e9, e53, nI_add]
  | succ k ih =>
    intro j fu σ e hfu h0 hI hz
    obtain ⟨fu, rfl⟩ : ∃ y, fu = y + 1 := ⟨fu - 1, by omega⟩
    have hj : j < dn D 0 := by omega
    have e0 : σ.1 168 0 = nI (dn D 0) := h0.1 0 (by decide)
    have eg := h0.2.2.2.2.1 j hj
    obtain ⟨o1, o2, o3⟩ := tieA_ok (grD D) j (by omega)
    have fr1 : frN σ (gsI σ 201 j 0) := fun x y z1 z2 => sm_I (sm_r σ x y) (by omega) rfl
    have hI1 : IT (gsI σ 201 j 0) (tieA (grD D) j).2.2 := ⟨by rw [rI_o (by omega)]; exact hI.1, fun x hx => by simp (disch := omega) only [rI_o]; exact hI.2 x hx⟩
    have hz1 : ∀ v, v < j + 1 → (gsI σ 201 j 0).1 201 v = 0 := fun v hv => by
      by_cases q : v = j
      · subst q; exact rI_s
      · rw [rI_o (by omega)]; exact hz v (by omega)
    rw [fX11_findNeeded_11, e0, if_neg (nI_ge (by omega) (by omega)), nI_clamp (show j < 2 ^ 31 by omega), gg_ix (show j < 24 by omega) (by decide), bnd_r, gg_ix (show j < 24 by omega) (by decide), rI_o (by omega), eg]
    by_cases q : dk D (dm D 0 j) = 1
    · have gt : grD D j = true := decide_eq_true q
      rw [if_pos q, i10]
      by_cases q1 : (tieA (grD D) j).1 = 24
      · have et : tieA (grD D) (j + 1) = (j, (tieA (grD D) j).2.1, (tieA (grD D) j).2.2) := by rw [tieA, if_pos gt, if_pos q1]
        rw [q1, eo_24, if_neg (by decide), fX11_findNeeded_71, bnd_r, nI_1]
        obtain ⟨σ', f1, f2, f3⟩ := ih (j + 1) fu (gsI σ 201 j 0) (by omega) (by omega) (h0.n fr1) (by rw [et]; exact hI1) hz1
        rw [et] at f3
        rw [show eo j = nI j from eo_n (by omega)] at f3
        exact ⟨σ', fr1.t f1, f2, f3⟩
      · have f24 : (tieA (grD D) j).1 < j := by omega
        rw [eo_n (show (tieA (grD D) j).1 < 24 by omega), if_pos (nI_pos' (by omega))]
        by_cases q2 : (tieA (grD D) j).2.1 = 24
        · have et : tieA (grD D) (j + 1) = ((tieA (grD D) j).1, j, (tieA (grD D) j).2.2 ++ [((tieA (grD D) j).1, j)]) := by rw [tieA, if_pos gt, if_neg q1, if_pos q2]
          rw [q2, eo_24, if_neg (by decide), addIt (show (tieA (grD D) j).2.2.length < 106 by omega) hI1.1, bd_r, fX11_findNeeded_71, bnd_r, nI_1]
          have I2 := hI1.add (a := (tieA (grD D) j).1) (b := j) (show (tieA (grD D) j).2.2.length < 106 by omega)
          have fr2 : frN σ (sI (gsI σ 201 j 0) (tieA (grD D) j).2.2.length (tieA (grD D) j).1 j) := fr1.t sI_f
          obtain ⟨σ', f1, f2, f3⟩ := ih (j + 1) fu (sI (gsI σ 201 j 0) (tieA (grD D) j).2.2.length (tieA (grD D) j).1 j) (by omega) (by omega) (h0.n fr2) (by rw [et]; exact I2) (fun v hv => by unfold sI; rw [rI_o (by omega), rI_o (by omega), rI_o (by omega), rI_o (by omega)]; exact hz1 v hv)
          rw [et] at f3
          rw [show eo j = nI j from eo_n (by omega), show eo (tieA (grD D) j).1 = nI (tieA (grD D) j).1 from eo_n (by omega)] at f3
          exact ⟨σ', fr2.t f1, f2, f3⟩
        · have s24 : (tieA (grD D) j).2.1 < j := by omega
          have et : tieA (grD D) (j + 1) = ((tieA (grD D) j).1, (tieA (grD D) j).2.1, (tieA (grD D) j).2.2 ++ [(j, (tieA (grD D) j).1), (j, (tieA (grD D) j).2.1)]) := by rw [tieA, if_pos gt, if_neg q1, if_neg q2]
          have I2 := hI1.add (a := j) (b := (tieA (grD D) j).1) (show (tieA (grD D) j).2.2.length < 106 by omega)
          have l2 : ((tieA (grD D) j).2.2 ++ [(j, (tieA (grD D) j).1)]).length = (tieA (grD D) j).2.2.length + 1 := by rw [List.length_append]; rfl
          have I3 := I2.add (a := j) (b := (tieA (grD D) j).2.1) (by omega)
          rw [l2, List.append_assoc] at I3
          have fr2 : frN σ (sI (sI (gsI σ 201 j 0) (tieA (grD D) j).2.2.length j (tieA (grD D) j).1) ((tieA (grD D) j).2.2.length + 1) j (tieA (grD D) j).2.1) := (fr1.t sI_f).t sI_f
          rw [eo_n (show (tieA (grD D) j).2.1 < 24 by omega), if_pos (nI_pos' (by omega)), addIt (show (tieA (grD D) j).2.2.length < 106 by omega) hI1.1, bd_r, addIt (m := (tieA (grD D) j).2.2.length + 1) (by omega) (by rw [← l2]; exact I2.1), bd_r, fX11_findNeeded_71, bnd_r, nI_1]
          obtain ⟨σ', f1, f2, f3⟩ := ih (j + 1) fu (sI (sI (gsI σ 201 j 0) (tieA (grD D) j).2.2.length j (tieA (grD D) j).1) ((tieA (grD D) j).2.2.length + 1) j (tieA (grD D) j).2.1) (by omega) (by omega) (h0.n fr2) (by rw [et]; exact I3) (fun v hv => by unfold sI; rw [rI_o (by omega), rI_o (by omega), rI_o (by omega), rI_o (by omega), rI_o (by omega), rI_o (by omega), rI_o (by omega), rI_o (by omega)]; exact hz1 v hv)
          rw [et] at f3
          rw [show eo (tieA (grD D) j).2.1 = nI (tieA (grD D) j).2.1 from eo_n (by omega), show eo (tieA (grD D) j).1 = nI (tieA (grD D) j).1 from eo_n (by omega)] at f3
          exact ⟨σ', fr2.t f1, f2, f3⟩
    · have gf : ¬ grD D j = true := fun z => q (of_decide_eq_true z)
      have et : tieA (grD D) (j + 1) = tieA (grD D) j := by rw [tieA, if_neg gf]
      rw [if_neg q, i00, fX11_findNeeded_71, bnd_r, nI_1]
      obtain ⟨σ', f1, f2, f3⟩ := ih (j + 1) fu (gsI σ 201 j 0) (by omega) (by omega) (h0.n fr1) (by rw [et]; exact hI1) hz1
      rw [et] at f3
      exact ⟨σ', fr1.t f1, f2, f3⟩
/-- so far: i items tried -/
def NI (σ : gS) (D : DT) (i : Nat) (own : Nat → Nat) : Prop := RD0 σ D ∧ σ.1 168 52 = nI (tiD D).length ∧ RI σ (dn D 0) i (itA D) (itB D) own ∧ RW σ (dn D 0) (ow own i) ∧ GO (itE D i) (dn D 0) i (itA D) (itB D) own ∧ (∀ x, x < (tiD D).length → i ≤ x → σ.1 198 x = nI (itA D x) ∧ σ.1 199 x = nI (itB D x) ∧ σ.1 200 x = -1) ∧ (∀ x, x < i → (own x = 24 ↔ Tight (itE D x) (itA D x) (itB D x))) ∧ σ.1 168 57 = nI (itE D i).length
theorem ow_snoc {own : Nat → Nat} {i x v : Nat} : ow (up own i x) (i + 1) v = ow own i v + (if x = v then 1 else 0) := by
  show sN (fun y => if up own i x y = v then 1 else 0) i + (if up own i x i = v then 1 else 0) = _
  rw [up_s]
  congr 1
  exact sN_c (fun y hy => by rw [up_o (by omega)])
theorem GO.snoc {E : List (Nat × Nat)} {J i x : Nat} {A B own : Nat → Nat} (h : GO E J i A B own) (hA : A i < J) (hB : B i < J) (hab : A i ≠ B i) (hx : x = 24 ∨ (x = A i ∧ ow own i (A i) = 0)) : GO (if x = 24 then E else (A i, B i) :: E) J (i + 1) A B (up own i x) := by
  obtain ⟨hJ, hi, h2, hS⟩ := h
  refine ⟨hJ, fun y hy => ?_, fun v hv => ?_, fun S => ?_⟩
  · by_cases q : y = i
    · subst q; rw [up_s]; exact ⟨hA, hB, hab, by omega⟩
    · rw [up_o q]; exact hi y (by omega)
  · rw [ow_snoc]
    have := h2 v hv
    rcases hx with rfl | ⟨rfl, z⟩
    · rw [if_neg (by omega)]; exact this
    · by_cases q : A i = v
      · rw [if_pos q, ← q, z]; omega
      · rw [if_neg q]; exact this
  · have e : sN (fun y => if up own i x y < 24 ∧ S (A y) = true ∧ S (B y) = true then 1 else 0) i = cnt E S := by
      rw [hS S]
      exact sN_c (fun y hy => by rw [up_o (by omega)])
    show _ = sN (fun y => if up own i x y < 24 ∧ S (A y) = true ∧ S (B y) = true then 1 else 0) i + (if up own i x i < 24 ∧ S (A i) = true ∧ S (B i) = true then 1 else 0)
    rw [e, up_s]
    rcases hx with rfl | ⟨rfl, z⟩
    · rw [if_pos rfl, if_neg (fun y => by omega)]; rfl
    · rw [if_neg (by omega)]
      show cnt E S + (if S (A i) = true ∧ S (B i) = true then 1 else 0) = _
      by_cases q : S (A i) = true ∧ S (B i) = true
      · rw [if_pos q, if_pos ⟨by omega, q⟩]
      · rw [if_neg q, if_neg (fun y => q y.2)]
theorem itemsR (w : WFa D) (v : WFb D) : ∀ (k i fu : Nat) (σ : gS) (own : Nat → Nat), i + k = (tiD D).length + dn D 1 → k < fu → NI σ D i own →
    ∃ σ' own', frN σ σ' ∧ NI σ' D ((tiD D).length + dn D 1) own' ∧ fX11_findNeeded_108 fu (nI ((tiD D).length + dn D 1)) (nI i) σ = fX11_findNeeded_247 2000 0 σ' := by
  have w4 := w.n4
  have tl := tiD_len w
  intro k
  induction k with
  | zero =>
    intro i fu σ own e hfu h
    obtain ⟨fu, rfl⟩ : ∃ y, fu = y + 1 := ⟨fu - 1, by omega⟩
    have ei : i = (tiD D).length + dn D 1 := by omega
    refine ⟨σ, own, fun x y _ _ => sm_r σ x y, by rw [← ei]; exact h, ?_⟩
    rw [fX11_findNeeded_108, if_pos (nI_le (by omega) (by omega))]
  | succ k ih =>
    intro i fu σ own e hfu h
    obtain ⟨fu, rfl⟩ : ∃ y, fu = y + 1 := ⟨fu - 1, by omega⟩
    have hi : i < (tiD D).length + dn D 1 := by omega
    obtain ⟨ia, ib, iab⟩ := it_ok w v hi
    have i106 : i < 106 := by omega
    have cl : (nI i).toNatClampNeg = i := nI_clamp (by omega)
    -- the item tried
    have step : ∀ (σ1 : gS), frN σ σ1 → RD0 σ1 D → σ1.1 168 52 = nI (tiD D).length → RI σ1 (dn D 0) i (itA D) (itB D) own → RW σ1 (dn D 0) (ow own i) → (∀ x, x < (tiD D).length → i < x → σ1.1 198 x = nI (itA D x) ∧ σ1.1 199 x = nI (itB D x) ∧ σ1.1 200 x = -1) → σ1.1 168 57 = nI (itE D i).length → σ1.1 198 i = nI (itA D i) → σ1.1 199 i = nI (itB D i) → σ1.1 200 i = -1 →
        ∃ σ' own', frN σ σ' ∧ NI σ' D ((tiD D).length + dn D 1) own' ∧ fX11_findNeeded_169 (fun v3 v4 σ => fX11_findNeeded_108 fu v3 v4 σ) (nI ((tiD D).length + dn D 1)) (nI i) σ1 = fX11_findNeeded_247 2000 0 σ' := by
      intro σ1 f1 h0 h52 hI hW hx h57 c198 c199 c200
      obtain ⟨-, -, -, -, hG, -, hst, -⟩ := h
      obtain ⟨r, σ2, e2, own', d1, d2, d3, d4, d5, d6⟩ := isFreeR (E := itE D i) ia ib iab hI hW hG
      rw [fX11_findNeeded_169, cl, gg_ix i106 (by decide), gg_ix i106 (by decide), c198, c199, e2, bd_r]
      have g0 : RD0 σ2 D := h0.n d4.N
      have k52 : σ2.1 168 52 = nI (tiD D).length := by rw [(d4 168 52 (by omega)).1]; exact h52
      have k57 : σ2.1 168 57 = nI (itE D i).length := by rw [(d4 168 57 (by omega)).1]; exact h57
      have k198 : ∀ y, σ2.1 198 y = σ1.1 198 y := fun y => (d4 198 y (by omega)).1
      have k199 : ∀ y, σ2.1 199 y = σ1.1 199 y := fun y => (d4 199 y (by omega)).1
      have k200 : ∀ y, i ≤ y → σ2.1 200 y = σ1.1 200 y := fun y hy => (d4 200 y (by omega)).1
      rcases d6 with ⟨rfl, nt, oa, ob⟩ | ⟨rfl, tt⟩
      · rw [i10, gg_ix i106 (by decide), gg_ix i106 (by decide), bnd_r, gg_ix i106 (by decide), rI_o (by omega), k198, c198, nI_clamp (show itA D i < 2 ^ 31 by omega), gg_ix (show itA D i < 24 by omega) (by decide), gg_ix (show itA D i < 24 by omega) (by decide), bnd_r, bnd_r, fX11_findNeeded_230, bnd_r, bnd_r, nI_1]
        have w0 : (gsI σ2 200 i (nI (itA D i))).1 201 (itA D i) = nI 0 := by rw [rI_o (by omega), d2 _ ia, oa]
        have n57 : (gsI (gsI σ2 200 i (nI (itA D i))) 201 (itA D i) (nI (0 + 1))).1 168 57 = nI (itE D i).length := by rw [rI_o (by omega), rI_o (by omega)]; exact k57
        rw [w0, nI_1, n57, nI_1]
        have eE : itE D (i + 1) = (itA D i, itB D i) :: itE D i := by rw [itE]; unfold acc; rw [cif_f nt]
        have fr : frN σ (gsI (gsI (gsI (gsI σ2 200 i (nI (itA D i))) 201 (itA D i) (nI (0 + 1))) 168 57 (nI ((itE D i).length + 1))) 168 53 (nI (i + 1))) := fun x y z1 z2 => sm_I (sm_I (sm_I (sm_I (sm_t (f1 x y z1 z2) (d4.N x y z1 z2)) (by omega) rfl) (by omega) rfl) (by omega) rfl) (by omega) rfl
        have gs := d3.snoc (x := itA D i) ia ib iab (Or.inr ⟨rfl, oa⟩)
        rw [if_neg (by omega), ← eE] at gs
        have nxt : NI (gsI (gsI (gsI (gsI σ2 200 i (nI (itA D i))) 201 (itA D i) (nI (0 + 1))) 168 57 (nI ((itE D i).length + 1))) 168 53 (nI (i + 1))) D (i + 1) (up own' i (itA D i)) := by
          refine ⟨g0.keep (fun x y z => by unfold pR0 at z; rw [rI_o (by omega), rI_o (by omega), rI_o (by omega), rI_o (by omega)]), ?_, ⟨?_, ⟨rI_s, by omega⟩, fun y hy => ?_⟩, fun u hu => ?_, gs, fun x x1 x2 => ?_, fun x hx' => ?_, ?_⟩
          · rw [rI_o (by omega), rI_o (by omega), rI_o (by omega), rI_o (by omega)]; exact k52
          · rw [rI_o (by omega), rI_o (by omega), rI_o (by omega), rI_o (by omega)]; exact d1.1
          · by_cases q : y = i
            · subst q
              rw [up_s, eo_n (by omega)]
              simp (disch := omega) only [rI_o, rI_s]
              exact ⟨by rw [k198]; exact c198, by rw [k199]; exact c199, trivial⟩
            · rw [up_o q]
              simp (disch := omega) only [rI_o]
              exact d1.2.2 y (by omega)
          · rw [rI_o (by omega), rI_o (by omega), ow_snoc]
            by_cases q : u = itA D i
            · rw [q, rI_s, oa, if_pos rfl]
            · rw [rI_o (by omega), rI_o (by omega), if_neg (fun z => q z.symm)]; exact d2 u hu
          · simp (disch := omega) only [rI_o]
            rw [k198, k199, k200 x (by omega)]
            exact hx x x1 (by omega)
          · by_cases q : x = i
            · subst q
              rw [up_s]
              exact ⟨fun z => by omega, fun z => absurd z nt⟩
            · rw [up_o q, d5 x (by omega)]; exact hst x (by omega)
          · rw [rI_o (by omega), rI_s, eE]; rfl
        obtain ⟨σ', own2, u1, u2, u3⟩ := ih (i + 1) fu _ _ (by omega) (by omega) nxt
        exact ⟨σ', own2, fr.t u1, u2, u3⟩
      · rw [i00, fX11_findNeeded_230, bnd_r, bnd_r, nI_1]
        have eE : itE D (i + 1) = itE D i := by rw [itE]; unfold acc; rw [cif_t tt]
        have fr : frN σ (gsI σ2 168 53 (nI (i + 1))) := fun x y z1 z2 => sm_I (sm_t (f1 x y z1 z2) (d4.N x y z1 z2)) (by omega) rfl
        have gs := d3.snoc (x := 24) ia ib iab (Or.inl rfl)
        rw [if_pos rfl, ← eE] at gs
        have nxt : NI (gsI σ2 168 53 (nI (i + 1))) D (i + 1) (up own' i 24) := by
          refine ⟨g0.keep (fun x y z => by unfold pR0 at z; rw [rI_o (by omega)]), ?_, ⟨?_, ⟨rI_s, by omega⟩, fun y hy => ?_⟩, fun u hu => ?_, gs, fun x x1 x2 => ?_, fun x hx' => ?_, ?_⟩
          · rw [rI_o (by omega)]; exact k52
          · rw [rI_o (by omega)]; exact d1.1
          · simp (disch := omega) only [rI_o]
            by_cases q : y = i
            · subst q
              rw [up_s, eo_24]
              exact ⟨by rw [k198]; exact c198, by rw [k199]; exact c199, by rw [k200 y (Nat.le_refl y)]; exact c200⟩
            · rw [up_o q]
              exact d1.2.2 y (by omega)
          · rw [rI_o (by omega), ow_snoc, if_neg (by omega)]; exact d2 u hu
          · simp (disch := omega) only [rI_o]
            rw [k198, k199, k200 x (by omega)]
            exact hx x x1 (by omega)
          · by_cases q : x = i
            · subst q
              rw [up_s]
              exact ⟨fun _ => tt, fun _ => rfl⟩
            · rw [up_o q, d5 x (by omega)]; exact hst x (by omega)
          · rw [rI_o (by omega), eE]; exact k57
        obtain ⟨σ', own2, u1, u2, u3⟩ := ih (i + 1) fu _ _ (by omega) (by omega) nxt
        exact ⟨σ', own2, fr.t u1, u2, u3⟩
    obtain ⟨h0, h52, hI, hW, hG, hx, hst, h57⟩ := h
    rw [fX11_findNeeded_108, if_neg (nI_ge (by omega) (by omega)), h52]
    by_cases q : i < (tiD D).length
    · obtain ⟨x1, x2, x3⟩ := hx i q (Nat.le_refl i)
      rw [if_pos (nI_lt q (by omega))]
      exact step σ (fun x y _ _ => sm_r σ x y) h0 h52 hI hW (fun x a1 a2 => hx x a1 (by omega)) h57 x1 x2 x3
    · have hb : i - (tiD D).length < dn D 1 := by omega
      obtain ⟨b1, b2, b3, b4, b5, b6⟩ := bAB w v hb
      obtain ⟨r1, r2⟩ := h0.2.2.2.1 1 _ (by decide) hb
      have r1 : σ.1 176 (i - (tiD D).length) = nI (bA D (i - (tiD D).length)) := r1.trans b4
      have r2 : σ.1 177 (i - (tiD D).length) = nI (bB D (i - (tiD D).length)) := r2.trans b5
      have ea : itA D i = bA D (i - (tiD D).length) := if_neg q
      have eb : itB D i = bB D (i - (tiD D).length) := if_neg q
      have sb : nI i - nI (tiD D).length = nI (i - (tiD D).length) := pk_sub (by omega)
      rw [if_neg (nI_nlt (by omega) (by omega)), bnd_r, sb, nI_clamp (show i - (tiD D).length < 2 ^ 31 by omega), gg_ix (show i - (tiD D).length < 60 by omega) (by decide), cl, gg_ix i106 (by decide), bnd_r, bnd_r, rI_o (by omega), h52, sb, nI_clamp (show i - (tiD D).length < 2 ^ 31 by omega), gg_ix (show i - (tiD D).length < 60 by omega) (by decide), gg_ix i106 (by decide), bnd_r, gg_ix i106 (by decide), bnd_r, rI_o (by omega), r1, r2, ← ea, ← eb]
      refine step (gsI (gsI (gsI σ 198 i (nI (itA D i))) 199 i (nI (itB D i))) 200 i (-1)) (fun x y z1 z2 => sm_I (sm_I (sm_I (sm_r σ x y) (by omega) rfl) (by omega) rfl) (by omega) rfl) (h0.keep (fun x y z => by unfold pR0 at z; rw [rI_o (by omega), rI_o (by omega), rI_o (by omega)])) (by rw [rI_o (by omega), rI_o (by omega), rI_o (by omega)]; exact h52) ⟨?_, ⟨?_, by omega⟩, fun y hy => ?_⟩ (fun u hu => ?_) (fun x a1 a2 => by omega) ?_ ?_ ?_ ?_
      · rw [rI_o (by omega), rI_o (by omega), rI_o (by omega)]; exact hI.1
      · rw [rI_o (by omega), rI_o (by omega), rI_o (by omega)]; exact hI.2.1.1
      · simp (disch := omega) only [rI_o]
        exact hI.2.2 y hy
      · rw [rI_o (by omega), rI_o (by omega), rI_o (by omega)]; exact hW u hu
      · rw [rI_o (by omega), rI_o (by omega), rI_o (by omega)]; exact h57
      · rw [rI_o (by omega), rI_o (by omega), rI_s]
      · rw [rI_o (by omega), rI_s]
      · rw [rI_s]
/-- the reference's counts -/
def KR (σ : gS) (D : DT) : Prop := σ.1 168 52 = nI (tiD D).length ∧ σ.1 168 57 = nI (barE D (dn D 1)).length ∧ (∀ i, i < dn D 1 → (Tight (barE D i) (bA D i) (bB D i) → σ.1 200 ((tiD D).length + i) = -1) ∧ (¬ Tight (barE D i) (bA D i) (bB D i) → ∃ x, x < 24 ∧ σ.1 200 ((tiD D).length + i) = nI x)) ∧ ∀ a b, a < dn D 0 → b < dn D 0 → σ.1 202 (24 * a + b) = cif (nearP (barE D (dn D 1)) a b) 1 0
theorem nearR {N : Nat} {E : List (Nat × Nat)} {A B : Nat → Nat} {J : Nat} (hJ : J ≤ 24) (hN : N ≤ 106) : ∀ (k a fu : Nat) (σ : gS) (own : Nat → Nat), a + k = J → k < fu → RI σ J N A B own → RW σ J (ow own N) → GO E J N A B own → (∀ c i, c < a → i < J → σ.1 202 (24 * c + i) = cif (nearP E c i) 1 0) →
    Wp (fX11_findNeeded_247 fu (nI a) σ) (fun _ σ' => (∀ c i, c < J → i < J → σ'.1 202 (24 * c + i) = cif (nearP E c i) 1 0) ∧ (∃ own', RI σ' J N A B own' ∧ GO E J N A B own' ∧ ∀ i, i < N → (own' i = 24 ↔ own i = 24)) ∧ frN σ σ' ∧ ∀ y, y = 52 ∨ y = 57 → σ'.1 168 y = σ.1 168 y) := by
  intro k
  induction k with
  | zero =>
    intro a fu σ own e hfu hI hW hG hn
    obtain ⟨fu, rfl⟩ : ∃ y, fu = y + 1 := ⟨fu - 1, by omega⟩
    have : a = J := by omega
    subst this
    rw [fX11_findNeeded_247, hI.1, if_pos (nI_le (by omega) (by omega))]
    exact wp_r ⟨hn, ⟨own, hI, hG, fun i _ => Iff.rfl⟩, fun x y _ _ => sm_r σ x y, fun y _ => rfl⟩
  | succ k ih =>
    intro a fu σ own e hfu hI hW hG hn
    obtain ⟨fu, rfl⟩ : ∃ y, fu = y + 1 := ⟨fu - 1, by omega⟩
    rw [fX11_findNeeded_247, hI.1, if_neg (nI_ge (by omega) (by omega))]
    have inner : ∀ (r b gu : Nat) (σ1 : gS) (own1 : Nat → Nat), b + r = J → r < gu → frN σ σ1 → (∀ y, y = 52 ∨ y = 57 → σ1.1 168 y = σ.1 168 y) → RI σ1 J N A B own1 → RW σ1 J (ow own1 N) → GO E J N A B own1 → (∀ i, i < N → (own1 i = 24 ↔ own i = 24)) → (∀ c i, c < a ∨ (c = a ∧ i < b) → i < J → σ1.1 202 (24 * c + i) = cif (nearP E c i) 1 0) →
        Wp (fX11_findNeeded_259 (fun v4 σ => fX11_findNeeded_247 fu v4 σ) gu (nI a) (nI b) σ1) (fun _ σ' => (∀ c i, c < J → i < J → σ'.1 202 (24 * c + i) = cif (nearP E c i) 1 0) ∧ (∃ own', RI σ' J N A B own' ∧ GO E J N A B own' ∧ ∀ i, i < N → (own' i = 24 ↔ own i = 24)) ∧ frN σ σ' ∧ ∀ y, y = 52 ∨ y = 57 → σ'.1 168 y = σ.1 168 y) := by
      intro r
      induction r with
      | zero =>
        intro b gu σ1 own1 e1 e2 f1 g1 I1 W1 G1 s1 n1
        obtain ⟨gu, rfl⟩ : ∃ y, gu = y + 1 := ⟨gu - 1, by omega⟩
        rw [fX11_findNeeded_259, I1.1, if_pos (nI_le (by omega) (by omega)), bnd_r, nI_1]
        refine wp_m (ih (a + 1) fu σ1 own1 (by omega) (by omega) I1 W1 G1 (fun c i hc hi => n1 c i (by omega) hi)) ?_
        rintro _ σ' ⟨c1, ⟨own', c2, cg, c3⟩, c4, c5⟩
        exact ⟨c1, ⟨own', c2, cg, fun i hi => (c3 i hi).trans (s1 i hi)⟩, f1.t c4, fun y hy => (c5 y hy).trans (g1 y hy)⟩
      | succ r ihr =>
        intro b gu σ1 own1 e1 e2 f1 g1 I1 W1 G1 s1 n1
        obtain ⟨gu, rfl⟩ : ∃ y, gu = y + 1 := ⟨gu - 1, by omega⟩
        have e24 : 24 * nI a + nI b = nI (24 * a + b) := by rw [show (24 : Int32) = nI 24 from rfl, pk_mul, nI_add]
        rw [fX11_findNeeded_259, I1.1, if_neg (nI_ge (by omega) (by omega))]
        have wr : ∀ (σ2 : gS) (own2 : Nat → Nat) (s : Int32), frQ N σ1 σ2 → RI σ2 J N A B own2 → RW σ2 J (ow own2 N) → GO E J N A B own2 → (∀ i, i < N → (own2 i = 24 ↔ own1 i = 24)) → vp_nar .boolean s = s → s = cif (nearP E a b) 1 0 → Wp (fX11_findNeeded_303 (fun v4 σ => fX11_findNeeded_247 fu v4 σ) (fun v4 v5 σ => fX11_findNeeded_259 (fun v4 σ => fX11_findNeeded_247 fu v4 σ) gu v4 v5 σ) (nI a) (nI b) (24 * nI a + nI b) s σ2) (fun _ σ' => (∀ c i, c < J → i < J → σ'.1 202 (24 * c + i) = cif (nearP E c i) 1 0) ∧ (∃ own', RI σ' J N A B own' ∧ GO E J N A B own' ∧ ∀ i, i < N → (own' i = 24 ↔ own i = 24)) ∧ frN σ σ' ∧ ∀ y, y = 52 ∨ y = 57 → σ'.1 168 y = σ.1 168 y) := by
          intro σ2 own2 s f2 I2 W2 G2 t2 s1' s2'
          rw [fX11_findNeeded_303, e24, nI_clamp (show 24 * a + b < 2 ^ 31 by omega), gg_ix (show 24 * a + b < 576 by omega) (by decide), bnd_r, bnd_r, nI_1, s1']
          refine ihr (b + 1) gu _ own2 (by omega) (by omega) (fun x y z1 z2 => sm_I (sm_t (f1 x y z1 z2) (f2.N x y z1 z2)) (by omega) rfl) (fun y hy => ?_) (I2.keep (fun y => ⟨by rw [rI_o (by omega)], by rw [rI_o (by omega)], by rw [rI_o (by omega)]⟩) (by rw [rI_o (by omega)]) (by rw [rI_o (by omega)])) (W2.keep (fun y => by rw [rI_o (by omega)])) G2 (fun i hi => (t2 i hi).trans (s1 i hi)) (fun c i hc hi => ?_)
          · rw [rI_o (by omega), (f2 168 y (by omega)).1]; exact g1 y hy
          · by_cases q : c = a ∧ i = b
            · obtain ⟨rfl, rfl⟩ := q
              rw [rI_s]; exact s2'
            · rw [rI_o (by omega), (f2 202 _ (by omega)).1]
              exact n1 c i (by omega) hi
        by_cases q : a = b
        · rw [if_pos (by rw [q]), fX11_findNeeded_298]
          exact wr σ1 own1 1 (fun x y _ => sm_r σ1 x y) I1 W1 G1 (fun i _ => Iff.rfl) rfl (by rw [cif_t (show nearP E a b from Or.inl q)])
        · rw [if_neg (fun z => q ((nI_eq (by omega) (by omega)).mp z))]
          refine wp_bw (isFreeR (show a < J by omega) (show b < J by omega) q I1 W1 G1) ?_
          rintro x σ2 ⟨own2, d1, d2, d3, d4, d5, d6⟩
          rcases d6 with ⟨rfl, nt, -⟩ | ⟨rfl, tt⟩
          · rw [i10]
            exact wr σ2 own2 0 d4 d1 d2 d3 d5 rfl (by rw [cif_f (fun z => z.elim q nt)])
          · rw [i00, fX11_findNeeded_298]
            exact wr σ2 own2 1 d4 d1 d2 d3 d5 rfl (by rw [cif_t (show nearP E a b from Or.inr tt)])
    exact inner J 0 2000 σ own (by omega) (by omega) (fun x y _ _ => sm_r σ x y) (fun y _ => rfl) hI hW hG (fun i _ => Iff.rfl) (fun c i hc hi => hn c i (by omega) hi)
theorem neededR (w : WFa D) (v : WFb D) (h0 : RD0 σ D) : Wp (fX11_findNeeded σ) (fun _ σ' => KR σ' D ∧ RD0 σ' D ∧ frN σ σ') := by
  have w4 := w.n4
  have tl := tiD_len w
  rw [fX11_findNeeded, bnd_r]
  have fr1 : frN σ (gsI σ 168 53 0) := fun x y z1 z2 => sm_I (sm_r σ x y) (by omega) rfl
  obtain ⟨σ1, f1, ⟨n1, n2, n3, n4, n5, n6⟩, e1⟩ := tiesR w (dn D 0) 0 2000 (gsI σ 168 53 0) (by omega) (by omega) (h0.n fr1) ⟨rI_s, fun x hx => (nomatch hx)⟩ (fun v hv => by omega)
  rw [show (tieA (grD D) 0).1 = 24 from rfl, show (tieA (grD D) 0).2.1 = 24 from rfl, eo_24] at e1
  rw [show fX11_findNeeded_11 2000 (-1) (-1) 0 (gsI σ 168 53 0) = _ from e1]
  have I0 : NI σ1 D 0 (fun _ => 24) := by
    refine ⟨n1, n2, ⟨n1.1 0 (by decide), ⟨by rw [n4]; rfl, by omega⟩, fun i hi => by omega⟩, fun u hu => by rw [n6 u hu]; rfl, ⟨w4.1, fun i hi => by omega, fun v hv => Nat.zero_le _, fun S => rfl⟩, fun x x1 _ => ?_, fun x hx => by omega, by rw [n3]; rfl⟩
    unfold itA itB
    rw [if_pos x1, if_pos x1]
    exact n5 x x1
  obtain ⟨σ2, own2, f2, ⟨m1, m2, m3, m4, m5, m6, m7, m8⟩, e2⟩ := itemsR w v ((tiD D).length + dn D 1) 0 2000 σ1 _ (by omega) (by omega) I0
  rw [show fX11_findNeeded_108 2000 (nI ((tiD D).length + dn D 1)) 0 σ1 = _ from e2]
  rw [itE_bar] at m5 m8
  refine wp_m (nearR (E := barE D (dn D 1)) (show dn D 0 ≤ 24 by omega) (by omega) (dn D 0) 0 2000 σ2 own2 (by omega) (by omega) m3 m4 m5 (fun c i hc => by omega)) ?_
  rintro _ σ3 ⟨c1, ⟨own3, c2, cg, c3⟩, c4, c5⟩
  have f3 : frN σ σ3 := ((fr1.t f1).t f2).t c4
  refine ⟨⟨by rw [c5 52 (Or.inl rfl)]; exact m2, by rw [c5 57 (Or.inr rfl)]; exact m8, fun i hi => ?_, c1⟩, h0.n f3, f3⟩
  have hx := (c2.2.2 ((tiD D).length + i) (by omega)).2.2
  have st := (c3 ((tiD D).length + i) (by omega)).trans (m7 ((tiD D).length + i) (by omega))
  have bx := cg.2.1 ((tiD D).length + i) (by omega)
  rw [itE_bar, show itA D ((tiD D).length + i) = bA D i from by unfold itA; rw [if_neg (by omega), Nat.add_sub_cancel_left], show itB D ((tiD D).length + i) = bB D i from by unfold itB; rw [if_neg (by omega), Nat.add_sub_cancel_left]] at st
  refine ⟨fun t => ?_, fun nt => ?_⟩
  · rw [hx, st.mpr t, eo_24]
  · have n24 : own3 ((tiD D).length + i) ≠ 24 := fun z => nt (st.mp z)
    have : own3 ((tiD D).length + i) < 24 := by omega
    exact ⟨_, this, by rw [hx, eo_n this]⟩
end NEE

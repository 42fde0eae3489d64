/-! WHEELS: the spreading, as data -/
def GW (D : DT) (S : WT) : Prop := ∀ w, S.1 w ≤ 2 ∧ (S.1 w ≠ 0 → w < dn D 2) ∧ (S.1 w = 1 → okE (S.2.1 w) (S.2.2 w))
def opn (D : DT) (S : WT) (c : Nat) : Prop := ¬ (S.1 (cpA D c) = 0 ↔ S.1 (cpB D c) = 0)
def cF (D : DT) (S : WT) (c : Nat) : Nat := if S.1 (cpA D c) = 0 then cpB D c else cpA D c
def cT (D : DT) (S : WT) (c : Nat) : Nat := if S.1 (cpA D c) = 0 then cpA D c else cpB D c
def grt (n d : Int64) : Prop := n.toInt < -1000000000000 ∨ 1000000000000 < n.toInt ∨ 1000000000000 < d.toInt
noncomputable def stW (D : DT) (S : WT) (c : Nat) : WT :=
  if S.1 (cF D S c) = 2 then (up S.1 (cT D S c) 2, S.2) else
    (up S.1 (cT D S c) (cif (grt (crU D c (cF D S c) (cT D S c) (S.2.1 (cF D S c)) (S.2.2 (cF D S c))) (crL D c (cF D S c) (cT D S c) (S.2.1 (cF D S c)) (S.2.2 (cF D S c)))) 2 1),
     up S.2.1 (cT D S c) (crU D c (cF D S c) (cT D S c) (S.2.1 (cF D S c)) (S.2.2 (cF D S c))), up S.2.2 (cT D S c) (crL D c (cF D S c) (cT D S c) (S.2.1 (cF D S c)) (S.2.2 (cF D S c))))
noncomputable def fO (D : DT) (S : WT) : Nat := fP (opn D S) (dn D 3) 0
noncomputable def itW (D : DT) : Nat → WT → WT
  | 0, S => S
  | k + 1, S => cif (fO D S < dn D 3) (itW D k (stW D S (fO D S))) S
def inW (a : Nat) : WT := (fun w => if w = a then 1 else 0, fun _ => 1, fun _ => 1)
noncomputable def sprW (D : DT) (a : Nat) : WT := itW D 16 (inW a)
section WD
variable {D : DT} {S : WT} {c : Nat}
theorem cFT (w : WFa D) (v : WFb D) (hc : c < dn D 3) (h : opn D S c) : cF D S c < dn D 2 ∧ cT D S c < dn D 2 ∧ S.1 (cF D S c) ≠ 0 ∧ S.1 (cT D S c) = 0 ∧ cF D S c ≠ cT D S c := by
  obtain ⟨h1, h2, h3, -⟩ := cpAB w v hc
  unfold opn at h
  unfold cF cT
  by_cases q : S.1 (cpA D c) = 0
  · rw [if_pos q, if_pos q]
    have : ¬ S.1 (cpB D c) = 0 := fun z => h ⟨fun _ => z, fun _ => q⟩
    exact ⟨h2, h1, this, q, fun z => h3 z.symm⟩
  · rw [if_neg q, if_neg q]
    have : S.1 (cpB D c) = 0 := Classical.byContradiction fun z => h ⟨fun y => absurd y q, fun y => absurd y z⟩
    exact ⟨h1, h2, q, this, h3⟩
theorem stW_g (w : WFa D) (v : WFb D) (hc : c < dn D 3) (h : opn D S c) (g : GW D S) : GW D (stW D S c) ∧ (∀ x, (stW D S c).1 x ≠ 0 ↔ (S.1 x ≠ 0 ∨ x = cT D S c)) := by
  obtain ⟨h1, h2, h3, h4, h5⟩ := cFT w v hc h
  have gF := g (cF D S c)
  have r : ∀ (k : Nat), k ≠ 0 → ∀ x, up S.1 (cT D S c) k x ≠ 0 ↔ (S.1 x ≠ 0 ∨ x = cT D S c) := by
    intro k hk x
    by_cases q : x = cT D S c
    · subst q
      rw [up_s]
      exact ⟨fun _ => Or.inr rfl, fun _ => hk⟩
    · rw [up_o q]
      exact ⟨fun z => Or.inl z, fun z => z.resolve_right q⟩
  unfold stW
  by_cases q : S.1 (cF D S c) = 2
  · rw [if_pos q]
    refine ⟨fun x => ?_, r 2 (by decide)⟩
    by_cases z : x = cT D S c
    · subst z
      show up S.1 _ 2 _ ≤ 2 ∧ (up S.1 _ 2 _ ≠ 0 → _) ∧ (up S.1 _ 2 _ = 1 → _)
      rw [up_s]
      exact ⟨by decide, fun _ => h2, fun y => absurd y (by decide)⟩
    · show up S.1 _ 2 _ ≤ 2 ∧ (up S.1 _ 2 _ ≠ 0 → _) ∧ (up S.1 _ 2 _ = 1 → _)
      rw [up_o z]
      exact g x
  · rw [if_neg q]
    have e1 : S.1 (cF D S c) = 1 := by have := gF.1; omega
    have ok := gF.2.2 e1
    obtain ⟨k1, k2, k3⟩ := cr_ok (c := c) v h1 h2 ok
    generalize crU D c (cF D S c) (cT D S c) (S.2.1 (cF D S c)) (S.2.2 (cF D S c)) = cu at *
    generalize crL D c (cF D S c) (cT D S c) (S.2.1 (cF D S c)) (S.2.2 (cF D S c)) = cl at *
    have kn : cif (grt cu cl) 2 1 ≠ 0 := by
      by_cases z : grt cu cl
      · rw [cif_t z]; decide
      · rw [cif_f z]; decide
    refine ⟨fun x => ?_, r _ kn⟩
    by_cases z : x = cT D S c
    · subst z
      show up S.1 _ _ _ ≤ 2 ∧ (up S.1 _ _ _ ≠ 0 → _) ∧ (up S.1 _ _ _ = 1 → okE (up S.2.1 _ _ _) (up S.2.2 _ _ _))
      rw [up_s, up_s, up_s]
      by_cases z : grt cu cl
      · rw [cif_t z]; exact ⟨by decide, fun _ => h2, fun y => absurd y (by decide)⟩
      · rw [cif_f z]
        unfold grt at z
        exact ⟨by decide, fun _ => h2, fun _ => k2 (by omega) (by omega) (by omega)⟩
    · show up S.1 _ _ _ ≤ 2 ∧ (up S.1 _ _ _ ≠ 0 → _) ∧ (up S.1 _ _ _ = 1 → okE (up S.2.1 _ _ _) (up S.2.2 _ _ _))
      rw [up_o z, up_o z, up_o z]
      exact g x
/-- how many are reached -/
def cW (S : WT) : Nat := sN (fun x => if S.1 x = 0 then 0 else 1) 16
theorem cW_st (w : WFa D) (v : WFb D) (hc : c < dn D 3) (h : opn D S c) (g : GW D S) : cW (stW D S c) = cW S + 1 := by
  obtain ⟨h1, h2, h3, h4, h5⟩ := cFT w v hc h
  have w4 := w.n4
  have r := (stW_g w v hc h g).2
  have e := sN_u (f := fun x => if S.1 x = 0 then 0 else 1) (i := cT D S c) (x := 1) (n := 16) (by omega)
  have e2 : cW (stW D S c) = sN (up (fun x => if S.1 x = 0 then 0 else 1) (cT D S c) 1) 16 := sN_c (fun x hx => by
    show (if (stW D S c).1 x = 0 then 0 else 1) = _
    by_cases q : x = cT D S c
    · subst q
      rw [up_s, if_neg ((r _).mpr (Or.inr rfl))]
    · rw [up_o q]
      by_cases z : S.1 x = 0
      · rw [if_pos z, if_pos (Classical.byContradiction fun y => ((r x).mp y).elim (fun y => y z) q)]
      · rw [if_neg z, if_neg ((r x).mpr (Or.inl z))])
  have e3 : (if S.1 (cT D S c) = 0 then 0 else 1) = 0 := if_pos h4
  rw [e2]
  show _ = sN (fun x => if S.1 x = 0 then 0 else 1) 16 + 1
  omega
theorem cW_le : cW S ≤ 16 := by
  have : cW S ≤ sN (fun _ => 1) 16 := sN_le (fun x _ => by split <;> omega)
  exact this
theorem fO_n (h : ¬ fO D S < dn D 3) : ∀ c, c < dn D 3 → ¬ opn D S c := by
  intro c hc
  have := (fP_spec (opn D S) (dn D 3) 0).2 c (Nat.zero_le _)
  exact this (by unfold fO at h; omega)
theorem fO_y (h : fO D S < dn D 3) : opn D S (fO D S) := (fP_spec (opn D S) (dn D 3) 0).1 (by unfold fO at h; omega)
/-- the spreading ends: nothing is open -/
theorem itW_end (w : WFa D) (v : WFb D) : ∀ (k : Nat) (S : WT), GW D S → 16 ≤ cW S + k → GW D (itW D k S) ∧ ∀ c, c < dn D 3 → ¬ opn D (itW D k S) c
  | 0, S, g, h => by
    refine ⟨g, fun c hc z => ?_⟩
    have := cW_st (S := S) w v hc z g
    have := cW_le (S := stW D S c)
    omega
  | k + 1, S, g, h => by
    rw [itW]
    by_cases q : fO D S < dn D 3
    · rw [cif_t q]
      exact itW_end w v k _ (stW_g w v q (fO_y q) g).1 (by rw [cW_st w v q (fO_y q) g]; omega)
    · rw [cif_f q]
      exact ⟨g, fO_n q⟩
/-- more room changes nothing -/
theorem itW_fix (w : WFa D) (v : WFb D) (h : ¬ fO D S < dn D 3) : ∀ k, itW D k S = S
  | 0 => rfl
  | k + 1 => by rw [itW, cif_f h]
/-- hanging together through couplings -/
def cCl (D : DT) (P : Nat → Prop) : Prop := ∀ c, c < dn D 3 → (P (cpA D c) ↔ P (cpB D c))
def Con (D : DT) (a b : Nat) : Prop := ∀ P : Nat → Prop, cCl D P → P a → P b
theorem Con.rf (a : Nat) : Con D a a := fun _ _ h => h
theorem Con.tr {a b e : Nat} (h1 : Con D a b) (h2 : Con D b e) : Con D a e := fun P hP h => h2 P hP (h1 P hP h)
theorem Con.sy {a b : Nat} (h1 : Con D a b) : Con D b a := fun P hP h => Classical.byContradiction fun z => h1 (fun x => ¬ P x) (fun c hc => not_congr (hP c hc)) z h
theorem Con.st (hc : c < dn D 3) : Con D (cpA D c) (cpB D c) := fun P hP h => (hP c hc).mp h
theorem itW_con (w : WFa D) (v : WFb D) {a : Nat} : ∀ (k : Nat) (S : WT), GW D S → (∀ x, S.1 x ≠ 0 → Con D a x) → ∀ x, (itW D k S).1 x ≠ 0 → Con D a x
  | 0, S, g, h => h
  | k + 1, S, g, h => by
    rw [itW]
    by_cases q : fO D S < dn D 3
    · rw [cif_t q]
      have o := fO_y q
      obtain ⟨g1, g2⟩ := stW_g w v q o g
      refine itW_con w v k _ g1 (fun x hx => ?_)
      rcases (g2 x).mp hx with z | z
      · exact h x z
      · obtain ⟨-, -, h3, -, -⟩ := cFT w v q o
        have hF := h _ h3
        rw [z]
        refine hF.tr ?_
        unfold cF cT
        by_cases y : S.1 (cpA D (fO D S)) = 0
        · rw [if_pos y, if_pos y]; exact (Con.st q).sy
        · rw [if_neg y, if_neg y]; exact Con.st q
    · rw [cif_f q]; exact h
theorem itW_sub (w : WFa D) (v : WFb D) : ∀ (k : Nat) (S : WT), GW D S → ∀ x, S.1 x ≠ 0 → (itW D k S).1 x ≠ 0
  | 0, S, g, x, h => h
  | k + 1, S, g, x, h => by
    rw [itW]
    by_cases q : fO D S < dn D 3
    · rw [cif_t q]
      obtain ⟨g1, g2⟩ := stW_g w v q (fO_y q) g
      exact itW_sub w v k _ g1 x ((g2 x).mpr (Or.inl h))
    · rw [cif_f q]; exact h
theorem inW_g {a : Nat} (ha : a < dn D 2) : GW D (inW a) := by
  intro x
  show (if x = a then 1 else 0) ≤ 2 ∧ ((if x = a then 1 else 0) ≠ 0 → _) ∧ _
  by_cases q : x = a
  · rw [if_pos q, q]
    exact ⟨by decide, fun _ => ha, fun _ => ⟨by show (-1000000000000 : Int) ≤ (1 : Int64).toInt; decide, by show (1 : Int64).toInt ≤ 1000000000000; decide, by show 0 < (1 : Int64).toInt; decide, by show (1 : Int64).toInt ≤ 1000000000000; decide, by show gNN 1 1 = 1; decide⟩⟩
  · rw [if_neg q]
    refine ⟨by decide, fun z => absurd rfl z, fun z => ?_⟩
    exact absurd (show (if x = a then 1 else 0) = 1 from z) (by rw [if_neg q]; decide)
theorem inW_c {a : Nat} (ha : a < 16) : cW (inW a) = 1 := by
  have : cW (inW a) = sN (fun x => if x = a then 1 else 0) 16 := sN_c (fun x _ => by
    by_cases q : x = a
    · have e : (inW a).1 x = 1 := if_pos q
      show (if (inW a).1 x = 0 then 0 else 1) = _
      rw [e, if_pos q]; rfl
    · have e : (inW a).1 x = 0 := if_neg q
      show (if (inW a).1 x = 0 then 0 else 1) = _
      rw [e, if_neg q]; rfl)
  rw [this, sN_1 ha]
/-- what is reached hangs together with the first one, and all that does -/
theorem sprW_ok (w : WFa D) (v : WFb D) {a : Nat} (ha : a < dn D 2) : GW D (sprW D a) ∧ ∀ x, (sprW D a).1 x ≠ 0 ↔ Con D a x := by
  have w4 := w.n4
  have g := inW_g ha
  obtain ⟨e1, e2⟩ := itW_end w v 16 (inW a) g (by omega)
  refine ⟨e1, fun x => ⟨fun h => itW_con w v 16 (inW a) g (fun y hy => ?_) x h, fun h => ?_⟩⟩
  · have : y = a := Classical.byContradiction fun z => hy (if_neg z)
    rw [this]; exact Con.rf a
  · refine h (fun y => (sprW D a).1 y ≠ 0) (fun c hc => ?_) (itW_sub w v 16 (inW a) g a ?_)
    · exact not_congr (Classical.byContradiction fun z => e2 c hc z)
    · show (if a = a then 1 else 0) ≠ 0
      rw [if_pos rfl]; decide
end WD

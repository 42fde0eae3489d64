/-! TURNING: the order, as data -/
abbrev OT : Type := (Nat → Nat) × Nat × (Nat → Nat) × (Nat → Nat) × (Nat → Nat) × (Nat → Int32)
abbrev oth (O : OT) : Nat → Nat := O.1
abbrev onn (O : OT) : Nat := O.2.1
abbrev osq (O : OT) : Nat → Nat := O.2.2.1
abbrev oA (O : OT) : Nat → Nat := O.2.2.2.1
abbrev oB (O : OT) : Nat → Nat := O.2.2.2.2.1
abbrev osd (O : OT) : Nat → Int32 := O.2.2.2.2.2
def jX (D : DT) (j : Nat) : Int32 := dx D (dm D 0 j)
def jY (D : DT) (j : Nat) : Int32 := dy D (dm D 0 j)
def sqJ (D : DT) (i j : Nat) : Nat := sqN (jX D i) (jX D j) (jY D i) (jY D j)
def acr (D : DT) (k j : Nat) : Nat := if bA D k = j then bB D k else if bB D k = j then bA D k else 24
def hkP (D : DT) (th : Nat → Nat) (j k : Nat) : Prop := acr D k j < 24 ∧ th (acr D k j) ≠ 0
noncomputable def hk1 (D : DT) (th : Nat → Nat) (j : Nat) : Nat := fP (hkP D th j) (dn D 1) 0
noncomputable def hk2 (D : DT) (th : Nat → Nat) (j : Nat) : Nat := fP (hkP D th j) (dn D 1 - (hk1 D th j + 1)) (hk1 D th j + 1)
def cnH (D : DT) (th : Nat → Nat) (j : Nat) : Prop := hk1 D th j < dn D 1 ∧ hk2 D th j < dn D 1
noncomputable def cnA (D : DT) (th : Nat → Nat) (j : Nat) : Nat := acr D (hk1 D th j) j
noncomputable def cnB (D : DT) (th : Nat → Nat) (j : Nat) : Nat := acr D (hk2 D th j) j
def nxP (D : DT) (th : Nat → Nat) (j : Nat) : Prop := th j = 0 ∧ cnH D th j
noncomputable def nxO (D : DT) (O : OT) : Nat := fP (nxP D (oth O)) (dn D 0) 0
def crs (D : DT) (a b j : Nat) : Int := ((jX D b).toInt - (jX D a).toInt) * ((jY D j).toInt - (jY D a).toInt) - ((jY D b).toInt - (jY D a).toInt) * ((jX D j).toInt - (jX D a).toInt)
def tsd (D : DT) (a b j : Nat) : Int32 := if crs D a b j < 0 then -1 else 1
noncomputable def stO (D : DT) (O : OT) (j : Nat) : OT := (up (oth O) j 1, onn O + 1, up (osq O) (onn O) j, up (oA O) j (cnA D (oth O) j), up (oB O) j (cnB D (oth O) j), up (osd O) j (tsd D (cnA D (oth O) j) (cnB D (oth O) j) j))
noncomputable def itO (D : DT) : Nat → OT → OT
  | 0, O => O
  | k + 1, O => cif (nxO D O < dn D 0) (itO D k (stO D O (nxO D O))) O
noncomputable def inTc (D : DT) (j : Nat) : Nat := cif (dk D (dm D 0 j) = 1 ∨ ∃ b, dd D = some (j, b)) 1 0
noncomputable def inO (D : DT) : OT := (inTc D, 0, fun _ => 0, fun _ => 24, fun _ => 24, fun _ => 1)
noncomputable def orD (D : DT) : OT := if dd D = none then inO D else itO D (dn D 0) (inO D)
def GOr (D : DT) (O : OT) : Prop :=
  (∀ j, oth O j = 0 ∨ oth O j = 1) ∧ (∀ i, i < onn O → osq O i < dn D 0 ∧ oth O (osq O i) = 1 ∧ oA O (osq O i) < 24) ∧
  (∀ i i', i < onn O → i' < onn O → osq O i = osq O i' → i = i') ∧
  (∀ j, oA O j = 24 ∨ (j < dn D 0 ∧ oA O j < dn D 0 ∧ oB O j < dn D 0 ∧ (osd O j = 1 ∨ osd O j = -1))) ∧
  onn O + sN (inTc D) (dn D 0) = sN (oth O) (dn D 0)
section ORD
variable {D : DT} {O : OT} {j : Nat} {th : Nat → Nat}
theorem acr_b (w : WFa D) (v : WFb D) {k : Nat} (hk : k < dn D 1) (h : acr D k j < 24) : acr D k j < dn D 0 := by
  obtain ⟨a1, a2, a3, a4, a5, a6⟩ := bAB w v hk
  unfold acr at h ⊢
  by_cases q : bA D k = j
  · rw [if_pos q]; exact a2
  · rw [if_neg q] at h ⊢
    by_cases q2 : bB D k = j
    · rw [if_pos q2]; exact a1
    · rw [if_neg q2] at h; omega
theorem cnH_b (w : WFa D) (v : WFb D) (h : cnH D th j) : cnA D th j < dn D 0 ∧ cnB D th j < dn D 0 := by
  obtain ⟨h1, h2⟩ := h
  have s1 := (fP_spec (hkP D th j) (dn D 1) 0).1 (by unfold hk1 at h1; omega)
  have s2 := (fP_spec (hkP D th j) (dn D 1 - (hk1 D th j + 1)) (hk1 D th j + 1)).1 (by unfold hk2 at h2; omega)
  exact ⟨acr_b w v h1 s1.1, acr_b w v h2 s2.1⟩
theorem nxO_y (h : nxO D O < dn D 0) : nxP D (oth O) (nxO D O) := (fP_spec (nxP D (oth O)) (dn D 0) 0).1 (by unfold nxO at h; omega)
theorem stO_g (w : WFa D) (v : WFb D) (hj : j < dn D 0) (h : nxP D (oth O) j) (g : GOr D O) : GOr D (stO D O j) := by
  obtain ⟨g1, g2, g3, g4, g5⟩ := g
  obtain ⟨h1, h2⟩ := h
  obtain ⟨b1, b2⟩ := cnH_b w v h2
  have w4 := w.n4
  have ne : ∀ i, i < onn O → osq O i ≠ j := fun i hi z => by have := (g2 i hi).2.1; rw [z, h1] at this; omega
  refine ⟨fun x => ?_, fun i hi => ?_, fun i i' hi hi' z => ?_, fun x => ?_, ?_⟩
  · show up (oth O) j 1 x = 0 ∨ up (oth O) j 1 x = 1
    by_cases q : x = j
    · subst q; rw [up_s]; exact Or.inr rfl
    · rw [up_o q]; exact g1 x
  · have hi : i < onn O + 1 := hi
    show up (osq O) (onn O) j i < dn D 0 ∧ up (oth O) j 1 (up (osq O) (onn O) j i) = 1 ∧ up (oA O) j _ (up (osq O) (onn O) j i) < 24
    by_cases q : i = onn O
    · subst q
      rw [up_s, up_s, up_s]
      exact ⟨hj, rfl, by omega⟩
    · have := g2 i (by omega)
      rw [up_o q, up_o (ne i (by omega)), up_o (ne i (by omega))]
      exact this
  · have hi : i < onn O + 1 := hi
    have hi' : i' < onn O + 1 := hi'
    have z : up (osq O) (onn O) j i = up (osq O) (onn O) j i' := z
    by_cases q : i = onn O
    · by_cases q' : i' = onn O
      · omega
      · subst q
        rw [up_s, up_o q'] at z
        exact absurd z.symm (ne i' (by omega))
    · by_cases q' : i' = onn O
      · subst q'
        rw [up_s, up_o q] at z
        exact absurd z (ne i (by omega))
      · rw [up_o q, up_o q'] at z
        exact g3 i i' (by omega) (by omega) z
  · show up (oA O) j _ x = 24 ∨ (x < dn D 0 ∧ up (oA O) j _ x < dn D 0 ∧ up (oB O) j _ x < dn D 0 ∧ (up (osd O) j _ x = 1 ∨ up (osd O) j _ x = -1))
    by_cases q : x = j
    · subst q
      rw [up_s, up_s, up_s]
      refine Or.inr ⟨hj, b1, b2, ?_⟩
      unfold tsd
      split
      · exact Or.inr rfl
      · exact Or.inl rfl
    · rw [up_o q, up_o q, up_o q]
      exact g4 x
  · show onn O + 1 + sN (inTc D) (dn D 0) = sN (up (oth O) j 1) (dn D 0)
    have := sN_u (f := oth O) (i := j) (x := 1) hj
    omega
theorem inO_g : GOr D (inO D) := by
  refine ⟨fun j => ?_, fun i hi => absurd hi (Nat.not_lt_zero i), fun i _ hi => absurd hi (Nat.not_lt_zero i), fun j => Or.inl rfl, ?_⟩
  · show inTc D j = 0 ∨ inTc D j = 1
    unfold inTc
    by_cases q : dk D (dm D 0 j) = 1 ∨ ∃ b, dd D = some (j, b)
    · rw [cif_t q]; exact Or.inr rfl
    · rw [cif_f q]; exact Or.inl rfl
  · show 0 + sN (inTc D) (dn D 0) = sN (inTc D) (dn D 0)
    omega
theorem sN_one : ∀ n, sN (fun _ => 1) n = n
  | 0 => rfl
  | n + 1 => by show sN (fun _ => 1) n + 1 = n + 1; rw [sN_one n]
theorem oth_le (g : GOr D O) : sN (oth O) (dn D 0) ≤ dn D 0 := by
  have : sN (oth O) (dn D 0) ≤ sN (fun _ => 1) (dn D 0) := sN_le (fun i _ => by rcases g.1 i with q | q <;> omega)
  rw [sN_one] at this
  exact this
theorem itO_g (w : WFa D) (v : WFb D) : ∀ (k : Nat) (O : OT), GOr D O → GOr D (itO D k O)
  | 0, O, g => g
  | k + 1, O, g => by
    rw [itO]
    by_cases q : nxO D O < dn D 0
    · rw [cif_t q]; exact itO_g w v k _ (stO_g w v q (nxO_y q) g)
    · rw [cif_f q]; exact g
theorem orD_g (w : WFa D) (v : WFb D) : GOr D (orD D) := by
  unfold orD
  split
  · exact inO_g
  · exact itO_g w v _ _ inO_g
theorem two_in (w : WFa D) (v : WFb D) (h : dd D ≠ none) : 2 ≤ sN (inTc D) (dn D 0) := by
  obtain ⟨⟨a, b⟩, e⟩ := Option.ne_none_iff_exists'.mp h
  obtain ⟨h1, h2, h3, h4, h5⟩ := v.2.2.2.2 a b e
  have s : sN (fun x => (if x = a then 1 else 0) + (if x = b then 1 else 0)) (dn D 0) = 2 := by rw [sN_a, sN_1 h1, sN_1 h2]
  have l : sN (fun x => (if x = a then 1 else 0) + (if x = b then 1 else 0)) (dn D 0) ≤ sN (inTc D) (dn D 0) := sN_le (fun x _ => by
    unfold inTc
    by_cases qa : x = a
    · subst qa
      rw [if_pos rfl, if_neg h3, cif_t (Or.inr ⟨b, e⟩)]
      exact Nat.le_refl _
    · by_cases qb : x = b
      · subst qb
        rw [if_neg qa, if_pos rfl, cif_t (Or.inl h5)]
        exact Nat.le_refl _
      · rw [if_neg qa, if_neg qb]; exact Nat.zero_le _)
  omega
/-- how many hang -/
theorem onn_le (w : WFa D) (v : WFb D) (g : GOr D O) (h : dd D ≠ none) : onn O + 2 ≤ dn D 0 := by
  have a := two_in w v h
  have b := oth_le g
  have c := g.2.2.2.2
  omega
theorem onn_24 (w : WFa D) (g : GOr D O) : onn O ≤ 24 := by
  have b := oth_le g
  have c := g.2.2.2.2
  have := w.n4
  omega
end ORD
/-! the class -/
def KTC (σ : gS) (D : DT) (O : OT) : Prop := σ.1 124 1 = nI (onn O) ∧ (∀ i, i < onn O → σ.1 125 i = nI (osq O i)) ∧ ∀ j, j < dn D 0 → (oA O j = 24 → σ.1 127 j = -1000000) ∧ (oA O j < 24 → σ.1 127 j = nI (oA O j) ∧ σ.1 128 j = nI (oB O j) ∧ σ.1 129 j = osd O j ∧ σ.2.1 130 j = lN (1048576 * sqJ D j (oA O j)) ∧ σ.2.1 131 j = lN (1048576 * sqJ D j (oB O j)))
def OTh (σ : gS) (D : DT) (th : Nat → Nat) : Prop := ∀ j, j < dn D 0 → σ.1 126 j = nI (th j)
def frOc (σ σ' : gS) : Prop := ∀ x y, x < 124 ∨ 131 < x → sm σ σ' x y
theorem frOc.t {σ σ' σ'' : gS} (h : frOc σ σ') (h' : frOc σ' σ'') : frOc σ σ'' := fun x y q => sm_t (h x y q) (h' x y q)
section ORC
variable {σ : gS} {t : Nat} {D : DT} {O : OT} {j : Nat} {th : Nat → Nat}
theorem frOc.cd {σ' : gS} (h : frOc σ σ') (h4 : t = 4 ∨ t = 16) (k : CD σ t D) : CD σ' t D := k.keep (fun x y a b => (h x y (by omega)).1)
theorem acrC (w : WFa D) (v : WFb D) (k : CD σ t D) {i : Nat} (hi : i < dn D 1) (hj : j < dn D 0) : fX3_acrossBar t (nI i) (nI j) σ = some (if acr D i j < 24 then nI (acr D i j) else -1000000, σ) := by
  obtain ⟨a1, a2, a3, a4, a5, a6⟩ := bAB w v hi
  rw [acrossD w k hi, a4, a5]
  unfold acr
  by_cases q : bA D i = j
  · rw [if_pos (by rw [q]), if_pos q, if_pos (by omega)]
  · rw [if_neg (fun z => q ((nI_eq (by omega) (by omega)).mp z)), if_neg q]
    by_cases q2 : bB D i = j
    · rw [if_pos (by rw [q2]), if_pos q2, if_pos (by omega)]
    · rw [if_neg (fun z => q2 ((nI_eq (by omega) (by omega)).mp z)), if_neg q2, if_neg (by omega)]
theorem ch2C (w : WFa D) (v : WFb D) (k : CD σ t D) (hj : j < dn D 0) (h01 : ∀ x, th x = 0 ∨ th x = 1) (ht : OTh σ D th) {a : Nat} (ha : a < dn D 0) : ∀ (m i fu : Nat), i + m = dn D 1 → m < fu → fX9_canHang_6 t (nI j) fu (nI a) (nI i) σ = (if fP (hkP D th j) m i < dn D 1 then some (1, gsI (gsI σ 127 j (nI a)) 128 j (nI (acr D (fP (hkP D th j) m i) j))) else some (0, σ)) := by
  have w4 := w.n4
  have s1 : fX3_size t 1 σ = some (nI (dn D 1), σ) := sizeD (f := 1) k (by decide)
  have clj : (nI j).toNatClampNeg = j := nI_clamp (by omega)
  intro m
  induction m with
  | zero =>
    intro i fu e hf
    obtain ⟨fu, rfl⟩ : ∃ y, fu = y + 1 := ⟨fu - 1, by omega⟩
    rw [fX9_canHang_6, s1, bd_r, if_pos (nI_le (by omega) (by omega)), fP, if_neg (by omega)]
  | succ m ih =>
    intro i fu e hf
    obtain ⟨fu, rfl⟩ : ∃ y, fu = y + 1 := ⟨fu - 1, by omega⟩
    have hi : i < dn D 1 := by omega
    have nx : ¬ hkP D th j i → fX9_canHang_71 t (nI j) (fun v3 v4 σ => fX9_canHang_6 t (nI j) fu v3 v4 σ) (nI a) (nI i) σ = (if fP (hkP D th j) (m + 1) i < dn D 1 then some (1, gsI (gsI σ 127 j (nI a)) 128 j (nI (acr D (fP (hkP D th j) (m + 1) i) j))) else some (0, σ)) := by
      intro z
      rw [fX9_canHang_71, bnd_r, nI_1, fP, cif_f z]
      exact ih (i + 1) fu (by omega) (by omega)
    rw [fX9_canHang_6, s1, bd_r, if_neg (nI_ge (by omega) (by omega)), acrC w v k hi hj, bd_r]
    by_cases q : acr D i j < 24
    · have ab := acr_b w v hi q
      rw [if_pos q, if_neg (nI_nN (by omega)), nI_clamp (show acr D i j < 2 ^ 31 by omega), gg_ix q (by decide), ht _ ab]
      rcases h01 (acr D i j) with y | y
      · rw [if_pos (by rw [y]; rfl)]
        exact nx (fun z => z.2 y)
      · rw [if_neg (nI_ne (by omega) (by omega)), if_neg (nI_nN (by omega)), clj, gg_ix (by omega) (by decide), bnd_r, gg_ix (by omega) (by decide), bnd_r, fP, cif_t (show hkP D th j i from ⟨q, by omega⟩), if_pos hi]
    · rw [if_neg q, if_pos rfl]
      exact nx (fun z => q z.1)
theorem chC (w : WFa D) (v : WFb D) (k : CD σ t D) (hj : j < dn D 0) (h01 : ∀ x, th x = 0 ∨ th x = 1) (ht : OTh σ D th) : (cnH D th j → fX9_canHang t (nI j) σ = some (1, gsI (gsI σ 127 j (nI (cnA D th j))) 128 j (nI (cnB D th j)))) ∧ (¬ cnH D th j → fX9_canHang t (nI j) σ = some (0, σ)) := by
  have w4 := w.n4
  have s1 : fX3_size t 1 σ = some (nI (dn D 1), σ) := sizeD (f := 1) k (by decide)
  have key : ∀ (m i fu : Nat), i + m = dn D 1 → m < fu → (fP (hkP D th j) m i < dn D 1 → ∃ gu, dn D 1 - (fP (hkP D th j) m i + 1) < gu ∧ fX9_canHang_6 t (nI j) fu (-1000000) (nI i) σ = fX9_canHang_6 t (nI j) gu (nI (acr D (fP (hkP D th j) m i) j)) (nI (fP (hkP D th j) m i + 1)) σ) ∧ (¬ fP (hkP D th j) m i < dn D 1 → fX9_canHang_6 t (nI j) fu (-1000000) (nI i) σ = some (0, σ)) := by
    intro m
    induction m with
    | zero =>
      intro i fu e hf
      obtain ⟨fu, rfl⟩ : ∃ y, fu = y + 1 := ⟨fu - 1, by omega⟩
      rw [fP]
      refine ⟨fun z => by omega, fun _ => ?_⟩
      rw [fX9_canHang_6, s1, bd_r, if_pos (nI_le (by omega) (by omega))]
    | succ m ih =>
      intro i fu e hf
      obtain ⟨fu, rfl⟩ : ∃ y, fu = y + 1 := ⟨fu - 1, by omega⟩
      have hi : i < dn D 1 := by omega
      have step : ¬ hkP D th j i → fX9_canHang_6 t (nI j) (fu + 1) (-1000000) (nI i) σ = fX9_canHang_6 t (nI j) fu (-1000000) (nI (i + 1)) σ := by
        intro z
        rw [fX9_canHang_6, s1, bd_r, if_neg (nI_ge (by omega) (by omega)), acrC w v k hi hj, bd_r]
        by_cases q : acr D i j < 24
        · have ab := acr_b w v hi q
          rw [if_pos q, if_neg (nI_nN (by omega)), nI_clamp (show acr D i j < 2 ^ 31 by omega), gg_ix q (by decide), ht _ ab]
          rcases h01 (acr D i j) with y | y
          · rw [if_pos (by rw [y]; rfl), fX9_canHang_71, bnd_r, nI_1]
          · exact absurd ⟨q, by omega⟩ z
        · rw [if_neg q, if_pos rfl, fX9_canHang_71, bnd_r, nI_1]
      rw [fP]
      by_cases z : hkP D th j i
      · rw [cif_t z]
        refine ⟨fun _ => ⟨fu, by omega, ?_⟩, fun y => absurd hi y⟩
        have ab := acr_b w v hi z.1
        rw [fX9_canHang_6, s1, bd_r, if_neg (nI_ge (by omega) (by omega)), acrC w v k hi hj, bd_r, if_pos z.1, if_neg (nI_nN (by omega)), nI_clamp (show acr D i j < 2 ^ 31 by omega), gg_ix z.1 (by decide), ht _ ab]
        rcases h01 (acr D i j) with y | y
        · exact absurd y z.2
        · rw [if_neg (nI_ne (by omega) (by omega)), if_pos rfl, fX9_canHang_71, bnd_r, nI_1]
      · rw [cif_f z, step z]
        exact ih (i + 1) fu (by omega) (by omega)
  obtain ⟨k1, k2⟩ := key (dn D 1) 0 2000 (by omega) (by omega)
  have b1 := fP_b (hkP D th j) (dn D 1) 0
  by_cases q : hk1 D th j < dn D 1
  · obtain ⟨gu, g1, g2⟩ := k1 q
    have ab := acr_b w v q ((fP_spec (hkP D th j) (dn D 1) 0).1 (by unfold hk1 at q; omega)).1
    have c2 := ch2C w v k hj h01 ht (a := acr D (hk1 D th j) j) ab (dn D 1 - (hk1 D th j + 1)) (hk1 D th j + 1) gu (by omega) g1
    refine ⟨fun y => ?_, fun y => ?_⟩
    · rw [fX9_canHang]
      exact g2.trans (c2.trans (if_pos y.2))
    · rw [fX9_canHang]
      exact g2.trans (c2.trans (if_neg (fun z => y ⟨q, z⟩)))
  · refine ⟨fun y => absurd y.1 q, fun _ => ?_⟩
    rw [fX9_canHang]
    exact k2 q
theorem ntcC (w : WFa D) (v : WFb D) (k : CD σ t D) (h01 : ∀ x, th x = 0 ∨ th x = 1) (ht : OTh σ D th) : fX9_nextToCome t σ = (if fP (nxP D th) (dn D 0) 0 < dn D 0 then some (nI (fP (nxP D th) (dn D 0) 0), gsI (gsI σ 127 (fP (nxP D th) (dn D 0) 0) (nI (cnA D th (fP (nxP D th) (dn D 0) 0)))) 128 (fP (nxP D th) (dn D 0) 0) (nI (cnB D th (fP (nxP D th) (dn D 0) 0)))) else some (-1000000, σ)) := by
  have w4 := w.n4
  have s0 : fX3_size t 0 σ = some (nI (dn D 0), σ) := sizeD (f := 0) k (by decide)
  have key : ∀ (m i fu : Nat), i + m = dn D 0 → m < fu → fX9_nextToCome_2 t fu (nI i) σ = (if fP (nxP D th) m i < dn D 0 then some (nI (fP (nxP D th) m i), gsI (gsI σ 127 (fP (nxP D th) m i) (nI (cnA D th (fP (nxP D th) m i)))) 128 (fP (nxP D th) m i) (nI (cnB D th (fP (nxP D th) m i)))) else some (-1000000, σ)) := by
    intro m
    induction m with
    | zero =>
      intro i fu e hf
      obtain ⟨fu, rfl⟩ : ∃ y, fu = y + 1 := ⟨fu - 1, by omega⟩
      rw [fX9_nextToCome_2, s0, bd_r, if_pos (nI_le (by omega) (by omega)), fP, if_neg (by omega)]
    | succ m ih =>
      intro i fu e hf
      obtain ⟨fu, rfl⟩ : ∃ y, fu = y + 1 := ⟨fu - 1, by omega⟩
      have hi : i < dn D 0 := by omega
      obtain ⟨c1, c2⟩ := chC w v k hi h01 ht
      rw [fX9_nextToCome_2, s0, bd_r, if_neg (nI_ge (by omega) (by omega)), nI_clamp (show i < 2 ^ 31 by omega), gg_ix (by omega) (by decide), ht i hi, fP]
      rcases h01 i with y | y
      · rw [if_pos (by rw [y]; rfl)]
        by_cases z : cnH D th i
        · rw [c1 z, bd_r, i10, cif_t (show nxP D th i from ⟨y, z⟩), if_pos hi]
        · rw [c2 z, bd_r, i00, cif_f (fun x : nxP D th i => z x.2), fX9_nextToCome_31, bnd_r, nI_1]
          exact ih (i + 1) fu (by omega) (by omega)
      · rw [if_neg (nI_ne (by omega) (by omega)), cif_f (fun x : nxP D th i => by have := x.1; omega), fX9_nextToCome_31, bnd_r, nI_1]
        exact ih (i + 1) fu (by omega) (by omega)
  rw [fX9_nextToCome]
  exact key (dn D 0) 0 2000 (by omega) (by omega)
theorem xJ (w : WFa D) (k : CD σ t D) (hj : j < dn D 0) : fX3_x t (nI j) σ = some (jX D j, σ) ∧ fX3_y t (nI j) σ = some (jY D j, σ) := by
  refine ⟨?_, ?_⟩
  · rw [fX3_x, show (0 : Int32) = nI 0 from rfl, firstD w k (by decide) hj, bd_r]; rfl
  · rw [fX3_y, show (0 : Int32) = nI 0 from rfl, secondD w k (by decide) hj, bd_r]; rfl
theorem jXY (v : WFb D) (hj : j < dn D 0) : inP (jX D j) ∧ inP (jY D j) := by
  obtain ⟨a, b, c, d⟩ := v.1 j hj
  exact ⟨⟨a, b⟩, ⟨c, d⟩⟩
theorem sqJC (w : WFa D) (v : WFb D) (k : CD σ t D) {i : Nat} (hi : i < dn D 0) (hj : j < dn D 0) : fX3_squareApart t (nI i) (nI j) σ = some (nI (sqJ D i j), σ) := by
  rw [fX3_squareApart, (xJ w k hi).1, bd_r, (xJ w k hj).1, bd_r, bnd_r, (xJ w k hi).2, bd_r, (xJ w k hj).2, bd_r, bnd_r, sq32 (jXY v hi).1 (jXY v hj).1 (jXY v hi).2 (jXY v hj).2]
  rfl
theorem sqJ_b (v : WFb D) {i : Nat} (hi : i < dn D 0) (hj : j < dn D 0) : sqJ D i j ≤ 8000000 := (sqN_b (jXY v hi).1 (jXY v hj).1 (jXY v hi).2 (jXY v hj).2).1
theorem mul2 {a b : Int} (h1 : -2000 ≤ a) (h2 : a ≤ 2000) (h3 : -2000 ≤ b) (h4 : b ≤ 2000) : -4000000 ≤ a * b ∧ a * b ≤ 4000000 := by
  have e := Int.natAbs_mul a b
  have p : a.natAbs * b.natAbs ≤ 2000 * 2000 := Nat.mul_le_mul (by omega) (by omega)
  omega
theorem crs32 (v : WFb D) {a b : Nat} (ha : a < dn D 0) (hb : b < dn D 0) (hj : j < dn D 0) : ((jX D b - jX D a) * (jY D j - jY D a) - (jY D b - jY D a) * (jX D j - jX D a)).toInt = crs D a b j := by
  obtain ⟨p1, p2, p3⟩ := dif (jXY v hb).1 (jXY v ha).1
  obtain ⟨q1, q2, q3⟩ := dif (jXY v hj).2 (jXY v ha).2
  obtain ⟨r1, r2, r3⟩ := dif (jXY v hb).2 (jXY v ha).2
  obtain ⟨s1, s2, s3⟩ := dif (jXY v hj).1 (jXY v ha).1
  have m1 := mul2 p2 p3 q2 q3
  have m2 := mul2 r2 r3 s2 s3
  have e1 := mul32 (a := jX D b - jX D a) (b := jY D j - jY D a) (by omega) (by omega)
  have e2 := mul32 (a := jY D b - jY D a) (b := jX D j - jX D a) (by omega) (by omega)
  rw [sub32 (by rw [e1, e2]; omega) (by rw [e1, e2]; omega), e1, e2, p1, q1, r1, s1]
  rfl
theorem crs64 (v : WFb D) {a b : Nat} (ha : a < dn D 0) (hb : b < dn D 0) (hj : j < dn D 0) : ((jX D b - jX D a).toInt64 * (jY D j - jY D a).toInt64 - (jY D b - jY D a).toInt64 * (jX D j - jX D a).toInt64).toInt = crs D a b j := by
  obtain ⟨p1, p2, p3⟩ := dif (jXY v hb).1 (jXY v ha).1
  obtain ⟨q1, q2, q3⟩ := dif (jXY v hj).2 (jXY v ha).2
  obtain ⟨r1, r2, r3⟩ := dif (jXY v hb).2 (jXY v ha).2
  obtain ⟨s1, s2, s3⟩ := dif (jXY v hj).1 (jXY v ha).1
  have m1 := mul2 p2 p3 q2 q3
  have m2 := mul2 r2 r3 s2 s3
  have e1 := mul64 (a := (jX D b - jX D a).toInt64) (b := (jY D j - jY D a).toInt64) (by rw [l32, l32]; omega) (by rw [l32, l32]; omega)
  have e2 := mul64 (a := (jY D b - jY D a).toInt64) (b := (jX D j - jX D a).toInt64) (by rw [l32, l32]; omega) (by rw [l32, l32]; omega)
  rw [l32, l32] at e1 e2
  rw [sub64 (by rw [e1, e2]; omega) (by rw [e1, e2]; omega), e1, e2, p1, q1, r1, s1]
  rfl
theorem tsC (w : WFa D) (v : WFb D) (k : CD σ t D) (hj : j < dn D 0) {a b : Nat} (ha : a < dn D 0) (hb : b < dn D 0) (e1 : σ.1 127 j = nI a) (e2 : σ.1 128 j = nI b) : fX9_toldSide t (nI j) σ = some (tsd D a b j, σ) := by
  have w4 := w.n4
  have clj : (nI j).toNatClampNeg = j := nI_clamp (by omega)
  rw [fX9_toldSide, clj, gg_ix (by omega) (by decide), gg_ix (by omega) (by decide), e1, e2, (xJ w k hb).1, bd_r, (xJ w k ha).1, bd_r, (xJ w k hj).2, bd_r, (xJ w k ha).2, bd_r, (xJ w k hb).2, bd_r, (xJ w k ha).2, bd_r, (xJ w k hj).1, bd_r, (xJ w k ha).1, bd_r, bnd_r]
  have e := crs32 v ha hb hj
  unfold tsd
  by_cases q : crs D a b j < 0
  · rw [if_pos (lt32.mpr (by rw [e, z32]; exact q)), if_pos q, fX9_toldSide_76]
  · rw [if_neg (fun z => q (by have := lt32.mp z; rw [e, z32] at this; exact this)), if_neg q, fX9_toldSide_76]
theorem orderC (h4 : t = 4 ∨ t = 16) (w : WFa D) (v : WFb D) (k : CD σ t D) : Wp (fX9_work t σ) (fun _ σ' => KTC σ' D (orD D) ∧ frOc σ σ') := by
  have w4 := w.n4
  have b1 : vp_nar .boolean 1 = 1 := rfl
  have b0 : vp_nar .boolean 0 = 0 := rfl
  have k69 : ∀ (m i fu : Nat) (τ : gS) (O : OT), i + m = dn D 0 → m < fu → dd D ≠ none → CD τ t D → OTh τ D (oth O) → KTC τ D O → GOr D O → Wp (fX9_work_69 t fu (nI (dn D 0)) (nI i) τ) (fun _ σ' => KTC σ' D (itO D m O) ∧ frOc τ σ') := by
    intro m
    induction m with
    | zero =>
      intro i fu τ O e hf hd k hT hK g
      obtain ⟨fu, rfl⟩ : ∃ y, fu = y + 1 := ⟨fu - 1, by omega⟩
      rw [fX9_work_69, if_pos (nI_le (by omega) (by omega)), fX9_work_199]
      exact wp_r ⟨hK, fun x y _ => sm_r τ x y⟩
    | succ m ih =>
      intro i fu τ O e hf hd k hT hK g
      obtain ⟨fu, rfl⟩ : ∃ y, fu = y + 1 := ⟨fu - 1, by omega⟩
      obtain ⟨⟨da, db⟩, ed⟩ := Option.ne_none_iff_exists'.mp hd
      have dv := v.2.2.2.2 da db ed
      have e8 : τ.1 t 8 = nI da := (k.2.2.2.2.2 da db ed).1
      have nt : fX9_nextToCome t τ = _ := ntcC w v k g.1 hT
      rw [fX9_work_69, if_neg (nI_ge (by omega) (by omega)), e8, if_neg (nI_nN (by omega)), nt, itO]
      by_cases q : nxO D O < dn D 0
      · have ny := nxO_y q
        obtain ⟨c1, c2⟩ := cnH_b w v ny.2
        have q' : fP (nxP D (oth O)) (dn D 0) 0 < dn D 0 := q
        rw [if_pos q', cif_t q, bd_r, if_neg (nI_nN (by omega))]
        show Wp (gg _ _) _
        have ej : fP (nxP D (oth O)) (dn D 0) 0 = nxO D O := rfl
        rw [ej]
        have g2 := stO_g w v q ny g
        have on2 := onn_le w v g2 hd
        have on3 : onn (stO D O (nxO D O)) = onn O + 1 := rfl
        generalize hjj : nxO D O = j at *
        have clj : (nI j).toNatClampNeg = j := nI_clamp (by omega)
        rw [clj, gg_ix (by omega) (by decide), bnd_r, b1]
        have fA : ∀ (τ2 : gS), (∀ x y, 4 ≤ x → x ≤ 27 → τ2.1 x y = τ.1 x y) → CD τ2 t D := fun τ2 h => k.keep (fun x y a b => h x y (by omega) (by omega))
        rw [tsC w v (fA _ (fun x y a b => by rw [rI_h (by omega), rI_h (by omega), rI_h (by omega)])) q c1 c2 (by rw [rI_h (by omega), rI_h (by omega), rI_s]) (by rw [rI_h (by omega), rI_s]), bd_r, gg_ix (by omega) (by decide), bnd_r, gg_ix (by omega) (by decide)]
        rw [rI_h (show (127 : Nat) ≠ 129 by omega), rI_h (show (127 : Nat) ≠ 126 by omega), rI_h (show (127 : Nat) ≠ 128 by omega), rI_s]
        rw [sqJC w v (fA _ (fun x y a b => by rw [rI_h (by omega), rI_h (by omega), rI_h (by omega), rI_h (by omega)])) q c1, bd_r, gg_ix (by omega) (by decide), bnd_r, gg_ix (by omega) (by decide), gsJ_1]
        rw [rI_h (show (128 : Nat) ≠ 129 by omega), rI_h (show (128 : Nat) ≠ 126 by omega), rI_s]
        rw [sqJC w v (fA _ (fun x y a b => by rw [gsJ_1, rI_h (by omega), rI_h (by omega), rI_h (by omega), rI_h (by omega)])) q c2, bd_r, gg_ix (by omega) (by decide), bnd_r, gsJ_1, gsJ_1]
        rw [rI_h (show (124 : Nat) ≠ 129 by omega), rI_h (show (124 : Nat) ≠ 126 by omega), rI_h (show (124 : Nat) ≠ 128 by omega), rI_h (show (124 : Nat) ≠ 127 by omega), hK.1, nI_clamp (show onn O < 2 ^ 31 by omega), gg_ix (by omega) (by decide), bnd_r, bnd_r, bnd_r, nI_1]
        have s1 := sqJ_b v q c1
        have s2 := sqJ_b v q c2
        have l1 : (1048576 : Int64) * (nI (sqJ D j (cnA D (oth O) j))).toInt64 = lN (1048576 * sqJ D j (cnA D (oth O) j)) := by rw [nI_l (by omega), show (1048576 : Int64) = lN 1048576 from rfl, lN_mul]
        have l2 : (1048576 : Int64) * (nI (sqJ D j (cnB D (oth O) j))).toInt64 = lN (1048576 * sqJ D j (cnB D (oth O) j)) := by rw [nI_l (by omega), show (1048576 : Int64) = lN 1048576 from rfl, lN_mul]
        rw [l1, l2, rI_h (show (124 : Nat) ≠ 125 by omega), gsJ_1, gsJ_1, rI_h (show (124 : Nat) ≠ 129 by omega), rI_h (show (124 : Nat) ≠ 126 by omega), rI_h (show (124 : Nat) ≠ 128 by omega), rI_h (show (124 : Nat) ≠ 127 by omega), hK.1, nI_1]
        refine wp_m (ih (i + 1) fu _ (stO D O j) (by omega) (by omega) hd (fA _ (fun x y a b => by rw [rI_h (by omega), rI_h (by omega), gsJ_1, gsJ_1, rI_h (by omega), rI_h (by omega), rI_h (by omega), rI_h (by omega)])) ?_ ?_ g2) ?_
        · intro x hx
          show _ = nI (up (oth O) j 1 x)
          rw [rI_h (by omega), rI_h (by omega), gsJ_1, gsJ_1, rI_h (by omega)]
          by_cases z : x = j
          · subst z
            rw [rI_s, up_s]; rfl
          · rw [rI_k z, rI_h (by omega), rI_h (by omega), up_o z]
            exact hT x hx
        · refine ⟨rI_s, fun x hx => ?_, fun x hx => ?_⟩
          · have hx : x < onn O + 1 := hx
            show _ = nI (up (osq O) (onn O) j x)
            rw [rI_h (by omega)]
            by_cases z : x = onn O
            · rw [z, rI_s, up_s]
            · rw [rI_k z, gsJ_1, gsJ_1, rI_h (by omega), rI_h (by omega), rI_h (by omega), rI_h (by omega), up_o z]
              exact hK.2.1 x (by omega)
          · show (up (oA O) j (cnA D (oth O) j) x = 24 → _) ∧ (up (oA O) j (cnA D (oth O) j) x < 24 → _ = nI (up (oA O) j (cnA D (oth O) j) x) ∧ _ = nI (up (oB O) j (cnB D (oth O) j) x) ∧ _ = up (osd O) j (tsd D (cnA D (oth O) j) (cnB D (oth O) j) j) x ∧ _ = lN (1048576 * sqJ D x (up (oA O) j (cnA D (oth O) j) x)) ∧ _ = lN (1048576 * sqJ D x (up (oB O) j (cnB D (oth O) j) x)))
            by_cases z : x = j
            · subst z
              rw [up_s, up_s, up_s]
              refine ⟨fun y => by omega, fun _ => ⟨?_, ?_, ?_, ?_, ?_⟩⟩
              · simp (disch := omega) only [rI_h, gsJ_1, rI_s]
              · simp (disch := omega) only [rI_h, gsJ_1, rI_s]
              · simp (disch := omega) only [rI_h, gsJ_1, rI_s]
              · rw [gsI_2, gsI_2, rJ_h (by omega), rJ_s]
              · rw [gsI_2, gsI_2, rJ_s]
            · rw [up_o z, up_o z, up_o z]
              obtain ⟨u1, u2⟩ := hK.2.2 x hx
              have r1 : ∀ c : Nat, c = 127 ∨ c = 128 ∨ c = 129 → (gsI (gsI (gsJ (gsJ (gsI (gsI (gsI (gsI τ 127 j (nI (cnA D (oth O) j))) 128 j (nI (cnB D (oth O) j))) 126 j 1) 129 j (tsd D (cnA D (oth O) j) (cnB D (oth O) j) j)) 130 j (lN (1048576 * sqJ D j (cnA D (oth O) j)))) 131 j (lN (1048576 * sqJ D j (cnB D (oth O) j)))) 125 (onn O) (nI j)) 124 1 (nI (onn O + 1))).1 c x = τ.1 c x := by
                intro c hc
                rw [rI_o (by omega), rI_o (by omega), gsJ_1, gsJ_1, rI_k z, rI_k z, rI_k z, rI_k z]
              have r2 : ∀ c : Nat, (gsI (gsI (gsJ (gsJ (gsI (gsI (gsI (gsI τ 127 j (nI (cnA D (oth O) j))) 128 j (nI (cnB D (oth O) j))) 126 j 1) 129 j (tsd D (cnA D (oth O) j) (cnB D (oth O) j) j)) 130 j (lN (1048576 * sqJ D j (cnA D (oth O) j)))) 131 j (lN (1048576 * sqJ D j (cnB D (oth O) j)))) 125 (onn O) (nI j)) 124 1 (nI (onn O + 1))).2.1 c x = τ.2.1 c x := by
                intro c
                rw [gsI_2, gsI_2, rJ_k z, rJ_k z]
                rfl
              rw [r1 127 (by omega), r1 128 (by omega), r1 129 (by omega), r2, r2]
              exact ⟨u1, u2⟩
        · rintro _ σ' ⟨h1, h2⟩
          refine ⟨h1, fun x y z => sm_t ?_ (h2 x y z)⟩
          exact sm_I (sm_I (sm_J (sm_J (sm_I (sm_I (sm_I (sm_I (sm_r τ x y) (by omega) rfl) (by omega) rfl) (by omega) rfl) (by omega) rfl) (by omega) rfl) (by omega) rfl) (by omega) rfl) (by omega) rfl
      · have q' : ¬ fP (nxP D (oth O)) (dn D 0) 0 < dn D 0 := q
        rw [if_neg q', cif_f q, bd_r, if_pos rfl, fX9_work_199]
        exact wp_r ⟨hK, fun x y _ => sm_r τ x y⟩
  have k13 : ∀ (m i fu : Nat) (τ : gS), i + m = dn D 0 → m < fu → CD τ t D → frOc σ τ → τ.1 124 1 = nI 0 → (∀ x, x < i → τ.1 126 x = nI (inTc D x) ∧ τ.1 127 x = -1000000) → Wp (fX9_work_13 t fu (nI (dn D 0)) (nI i) τ) (fun _ σ' => KTC σ' D (orD D) ∧ frOc σ σ') := by
    intro m
    induction m with
    | zero =>
      intro i fu τ e hf k fr h0 hx
      obtain ⟨fu, rfl⟩ : ∃ y, fu = y + 1 := ⟨fu - 1, by omega⟩
      have hK : KTC τ D (inO D) := ⟨h0, fun x hx => absurd hx (Nat.not_lt_zero x), fun x hxx => ⟨fun _ => (hx x (by omega)).2, fun z => absurd z (Nat.lt_irrefl 24)⟩⟩
      rw [fX9_work_13, if_pos (nI_le (by omega) (by omega))]
      unfold orD
      by_cases hd : dd D = none
      · rw [if_pos hd, fX9_work_69]
        by_cases z : nI (dn D 0) ≤ 0
        · rw [if_pos z, fX9_work_199]
          exact wp_r ⟨hK, fr⟩
        · rw [if_neg z, (k.2.2.2.2.1 hd).1, if_pos rfl, fX9_work_199]
          exact wp_r ⟨hK, fr⟩
      · rw [if_neg hd]
        refine wp_m (k69 (dn D 0) 0 2000 τ (inO D) (by omega) (by omega) hd k (fun x hxx => (hx x (by omega)).1) hK inO_g) ?_
        rintro _ σ' ⟨h1, h2⟩
        exact ⟨h1, fr.t h2⟩
    | succ m ih =>
      intro i fu τ e hf k fr h0 hx
      obtain ⟨fu, rfl⟩ : ∃ y, fu = y + 1 := ⟨fu - 1, by omega⟩
      have hi : i < dn D 0 := by omega
      have cli : (nI i).toNatClampNeg = i := nI_clamp (by omega)
      have go : ∀ s : Nat, s = inTc D i → s = 0 ∨ s = 1 → Wp (fX9_work_44 t (fun v2 v3 σ => fX9_work_13 t fu v2 v3 σ) (nI (dn D 0)) (nI i) (nI i) (nI s) τ) (fun _ σ' => KTC σ' D (orD D) ∧ frOc σ σ') := by
        intro s hs h01
        have en : vp_nar .boolean (nI s) = nI s := by
          rcases h01 with rfl | rfl <;> rfl
        rw [fX9_work_44, cli, gg_ix (by omega) (by decide), bnd_r, gg_ix (by omega) (by decide), bnd_r, gg_ix (by omega) (by decide), bnd_r, bnd_r, nI_1, en]
        have f2 : frOc τ (gsI (gsI (gsI τ 126 i (nI s)) 127 i (-1000000)) 128 i (-1000000)) := fun x y z => sm_I (sm_I (sm_I (sm_r τ x y) (by omega) rfl) (by omega) rfl) (by omega) rfl
        refine ih (i + 1) fu _ (by omega) (by omega) (f2.cd h4 k) (fr.t f2) (by rw [rI_h (by omega), rI_h (by omega), rI_h (by omega)]; exact h0) (fun x h1 => ?_)
        by_cases z : x = i
        · subst z
          rw [rI_h (by omega), rI_h (by omega), rI_s, rI_h (by omega), rI_s, hs]
          exact ⟨rfl, rfl⟩
        · rw [rI_k z, rI_k z, rI_k z, rI_k z, rI_k z, rI_k z]
          exact hx x (by omega)
      rw [fX9_work_13, if_neg (nI_ge (by omega) (by omega)), groundD w k hi, bd_r]
      by_cases qg : dk D (dm D 0 i) = 1
      · rw [if_pos qg, i10, fX9_work_39]
        exact go 1 (by unfold inTc; rw [cif_t (Or.inl qg)]) (Or.inr rfl)
      · rw [if_neg qg, i00]
        rcases hd : dd D with _ | ⟨a, b⟩
        · rw [(k.2.2.2.2.1 hd).1, if_neg (nI_nN (by omega))]
          exact go 0 (by unfold inTc; rw [cif_f]; rintro (z | ⟨b, z⟩); exact qg z; rw [hd] at z; exact absurd z (by simp)) (Or.inl rfl)
        · have dv := v.2.2.2.2 a b hd
          rw [(k.2.2.2.2.2 a b hd).1]
          by_cases z : i = a
          · rw [if_pos (by rw [z]), fX9_work_39]
            exact go 1 (by unfold inTc; rw [cif_t]; exact Or.inr ⟨b, by rw [hd, z]⟩) (Or.inr rfl)
          · rw [if_neg (fun y => z ((nI_eq (by omega) (by omega)).mp y))]
            refine go 0 ?_ (Or.inl rfl)
            unfold inTc
            rw [cif_f]
            rintro (y | ⟨b', y⟩)
            · exact qg y
            · rw [hd] at y
              exact z (congrArg Prod.fst (Option.some.inj y)).symm
  rw [fX9_work, bnd_r]
  have f0 : frOc σ (gsI σ 124 1 0) := fun x y z => sm_I (sm_r σ x y) (by omega) rfl
  have s0 : fX3_size t 0 (gsI σ 124 1 0) = some (nI (dn D 0), gsI σ 124 1 0) := sizeD (f := 0) (f0.cd h4 k) (by decide)
  rw [s0, bd_r]
  exact k13 (dn D 0) 0 2000 _ (by omega) (by omega) (f0.cd h4 k) f0 (by rw [rI_s]; rfl) (fun x h => absurd h (Nat.not_lt_zero x))
end ORC

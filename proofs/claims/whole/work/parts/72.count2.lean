/-! the class: whether an item would be needed; ties and bars offered -/
theorem b24 {E : List (Nat × Nat)} {L : Nat → Nat → Nat} {a : Nat} (h : GL E L) (ha : a < 24) (hf : frp L a = 2) : L a 0 = 24 ∧ L a 1 = 24 := by
  have l0 := f1_le (x := L a 0)
  have l1 := f1_le (x := L a 1)
  unfold frp at hf
  refine ⟨?_, ?_⟩
  · apply Classical.byContradiction
    intro z
    rw [f1_n z] at hf
    omega
  · apply Classical.byContradiction
    intro z
    rw [f1_n z] at hf
    omega
def WN (E : List (Nat × Nat)) (a b : Nat) (σ : gS) (r : Int32) (σ' : gS) : Prop := ∃ L', CL σ' L' ∧ GL E L' ∧ frL σ σ' ∧ ((r = 1 ∧ ¬ Tight E a b ∧ L' a 0 = 24) ∨ (r = 0 ∧ Tight E a b))
noncomputable def acc (E : List (Nat × Nat)) (a b : Nat) : List (Nat × Nat) := cif (Tight E a b) E ((a, b) :: E)
section OFF
variable {σ σ' : gS} {L : Nat → Nat → Nat} {E : List (Nat × Nat)} {a b : Nat}
theorem wn56 (ha : a < 24) (hb : b < 24) (hab : a ≠ b) (hC : CL σ L) (hG : GL E L) (h1 : frp L a = 2) (h2 : Tight E a b ∨ frp L b = 2) : Wp (fX1_wouldBeNeeded_56 (nI a) (nI b) σ) (fun r σ' => WN E a b σ r σ') := by
  have l2 := frp_le (L := L) (v := b)
  rw [fX1_wouldBeNeeded_56, freeC hC ha, bd_r, h1, if_pos (show nI 2 = 2 by decide), freeC hC hb, bd_r]
  by_cases z : frp L b = 2
  · rw [z, if_pos (show nI 2 = 2 by decide), fX1_wouldBeNeeded_79, gg_t (Or.inr rfl)]
    exact wp_r ⟨L, hC, hG, fun x y _ => sm_r σ x y, Or.inl ⟨rfl, hG.yes ha hb hab h1 z, (b24 hG ha h1).1⟩⟩
  · rw [if_neg (show ¬ nI (frp L b) = 2 from fun y => z ((nI_eq (b := 2) (by omega) (by decide)).mp y)), fX1_wouldBeNeeded_78, fX1_wouldBeNeeded_79, gg_t (Or.inl rfl)]
    exact wp_r ⟨L, hC, hG, fun x y _ => sm_r σ x y, Or.inr ⟨rfl, h2.resolve_right z⟩⟩
theorem WN.t {τ : gS} {r : Int32} (h : WN E a b σ r σ') (hf : frL τ σ) : WN E a b τ r σ' := by
  obtain ⟨L', c1, c2, c3, c4⟩ := h
  exact ⟨L', c1, c2, fun x y z => sm_t (hf x y z) (c3 x y z), c4⟩
theorem wn30 (ha : a < 24) (hb : b < 24) (hab : a ≠ b) : ∀ (k i fu : Nat) (σ : gS) (L : Nat → Nat → Nat), i + k = 2 → k < fu → CL σ L → GL E L → frp L a = 2 → (Tight E a b ∨ 2 ≤ frp L b + k) → Wp (fX1_wouldBeNeeded_30 (nI a) (nI b) fu (nI i) σ) (fun r σ' => WN E a b σ r σ') := by
  intro k
  induction k with
  | zero =>
    intro i fu σ L e1 e2 hC hG h1 h2
    obtain ⟨fu, rfl⟩ : ∃ y, fu = y + 1 := ⟨fu - 1, by omega⟩
    have l2 := frp_le (L := L) (v := b)
    rw [fX1_wouldBeNeeded_30, if_pos (show 2 ≤ nI i from nI_le (a := 2) (by omega) (by omega))]
    exact wn56 ha hb hab hC hG h1 (h2.imp id (fun z => by omega))
  | succ k ih =>
    intro i fu σ L e1 e2 hC hG h1 h2
    obtain ⟨fu, rfl⟩ : ∃ y, fu = y + 1 := ⟨fu - 1, by omega⟩
    have l2 := frp_le (L := L) (v := b)
    rw [fX1_wouldBeNeeded_30, if_neg (show ¬ 2 ≤ nI i from nI_ge (b := 2) (by omega) (by decide)), freeC hC hb, bd_r]
    by_cases z : frp L b = 2
    · rw [z, if_pos (show 2 ≤ nI 2 by decide)]
      exact wn56 ha hb hab hC hG h1 (Or.inr z)
    · rw [if_neg (show ¬ 2 ≤ nI (frp L b) from nI_ge (b := 2) (by omega) (by decide))]
      refine wp_bw (fetchC (E := E) hb ha hG hC) ?_
      rintro _ σ1 ⟨L1, c1, c2, c3, c4⟩
      rw [bnd_r, nI_1]
      rcases c4 with ⟨e, e24, eb, ea, -, ef⟩ | ⟨rfl, R, r1, r2, r3, r4⟩
      · have fa := ef a ha
        have fb := ef b hb
        rw [bq_o (fun y => ea y.symm), bq_o hab] at fa
        rw [bq_o (fun y => eb y.symm), bq_s] at fb
        refine wp_m (ih (i + 1) fu σ1 L1 (by omega) (by omega) c1 c2 (by omega) (h2.imp id (fun z => by omega))) ?_
        rintro r σ2 w
        exact w.t c3
      · have ab := b24 hG ha h1
        have tt : Tight E a b := by
          refine (GL.no2 hG (R := R) (fun v q hv hq hr hl => ?_) hb ha (fun y => hab y.symm) r1 r2 r3 (by omega)).sym
          by_cases y : v = b
          · exact r4 v q hv hq hr (Or.inl y) hl
          · by_cases y2 : v = a
            · subst y2
              rcases (show q = 0 ∨ q = 1 by omega) with rfl | rfl
              · omega
              · omega
            · exact r4 v q hv hq hr (Or.inr y2) hl
        refine wp_m (ih (i + 1) fu σ1 L1 (by omega) (by omega) c1 c2 h1 (Or.inl tt)) ?_
        rintro r σ2 w
        exact w.t c3
theorem wn2 (hS : Sparse E) (ha : a < 24) (hb : b < 24) (hab : a ≠ b) : ∀ (k i fu : Nat) (σ : gS) (L : Nat → Nat → Nat), i + k = 2 → k < fu → CL σ L → GL E L → 2 ≤ frp L a + k → Wp (fX1_wouldBeNeeded_2 (nI a) (nI b) fu (nI i) σ) (fun r σ' => WN E a b σ r σ') := by
  intro k
  have nx : ∀ (σ : gS) (L : Nat → Nat → Nat), CL σ L → GL E L → frp L a = 2 → Wp (fX1_wouldBeNeeded_28 (nI a) (nI b) σ) (fun r σ' => WN E a b σ r σ') := by
    intro σ L hC hG h1
    rw [fX1_wouldBeNeeded_28]
    exact wn30 ha hb hab 2 0 2000 σ L (by omega) (by omega) hC hG h1 (Or.inr (by omega))
  induction k with
  | zero =>
    intro i fu σ L e1 e2 hC hG h1
    obtain ⟨fu, rfl⟩ : ∃ y, fu = y + 1 := ⟨fu - 1, by omega⟩
    have l2 := frp_le (L := L) (v := a)
    rw [fX1_wouldBeNeeded_2, if_pos (show 2 ≤ nI i from nI_le (a := 2) (by omega) (by omega))]
    exact nx σ L hC hG (by omega)
  | succ k ih =>
    intro i fu σ L e1 e2 hC hG h1
    obtain ⟨fu, rfl⟩ : ∃ y, fu = y + 1 := ⟨fu - 1, by omega⟩
    have l2 := frp_le (L := L) (v := a)
    rw [fX1_wouldBeNeeded_2, if_neg (show ¬ 2 ≤ nI i from nI_ge (b := 2) (by omega) (by decide)), freeC hC ha, bd_r]
    by_cases z : frp L a = 2
    · rw [z, if_pos (show 2 ≤ nI 2 by decide)]
      exact nx σ L hC hG z
    · rw [if_neg (show ¬ 2 ≤ nI (frp L a) from nI_ge (b := 2) (by omega) (by decide))]
      refine wp_bw (fetchC (E := E) ha ha hG hC) ?_
      rintro _ σ1 ⟨L1, c1, c2, c3, c4⟩
      rw [bnd_r, nI_1]
      rcases c4 with ⟨e, e24, ea, -, -, ef⟩ | ⟨rfl, R, r1, r2, r3, r4⟩
      · have fa := ef a ha
        rw [bq_o (fun y => ea y.symm), bq_s] at fa
        refine wp_m (ih (i + 1) fu σ1 L1 (by omega) (by omega) c1 c2 (by omega)) ?_
        rintro r σ2 w
        exact w.t c3
      · exact (GL.no1 hS hG (R := R) (fun v q hv hq hr hl => r4 v q hv hq hr (by by_cases y : v = a; exact Or.inl y; exact Or.inr y) hl) ha r1 (fun v hv hr hn => r3 v hv hr hn hn) (by omega)).elim
theorem wnC (hS : Sparse E) (ha : a < 24) (hb : b < 24) (hab : a ≠ b) (hC : CL σ L) (hG : GL E L) : Wp (fX1_wouldBeNeeded (nI a) (nI b) σ) (fun r σ' => WN E a b σ r σ') := by
  rw [fX1_wouldBeNeeded]
  exact wn2 hS ha hb hab 2 0 2000 σ L (by omega) (by omega) hC hG (by omega)
/-- pebbles of the class and the needed items -/
def CE (σ : gS) (E : List (Nat × Nat)) : Prop := ∃ L, CL σ L ∧ GL E L
def frO (σ σ' : gS) : Prop := ∀ x y, ¬ (30 ≤ x ∧ x < 56) → ¬ (x = 28 ∧ y = 7) → sm σ σ' x y
theorem offerC (hS : Sparse E) (ha : a < 24) (hb : b < 24) (hab : a ≠ b) (h : CE σ E) (hn : σ.1 28 7 = nI E.length) : Wp (fX1_offer (nI a) (nI b) σ) (fun r σ' => r = cif (Tight E a b) 0 1 ∧ CE σ' (acc E a b) ∧ Sparse (acc E a b) ∧ σ'.1 28 7 = nI (acc E a b).length ∧ frO σ σ') := by
  obtain ⟨L, hC, hG⟩ := h
  rw [fX1_offer]
  refine wp_bw (wnC hS ha hb hab hC hG) ?_
  rintro r σ1 ⟨L1, c1, c2, c3, c4⟩
  rcases c4 with ⟨rfl, ht, hf⟩ | ⟨rfl, ht⟩
  · rw [i10, nI_clamp (show a < 2 ^ 31 by omega), gg_ix ha (by decide), bnd_r, bnd_r, Nat.one_mul, show (0 : Int32).toNatClampNeg = 0 from rfl, rI_o (by omega), (c3 28 7 (by omega)).1, hn, nI_1]
    unfold acc
    rw [cif_f ht, cif_f ht]
    refine wp_r ⟨rfl, ⟨upL L1 a 0 b, ?_, c2.offer ha hb hab hf⟩, hS.add ht, rI_s, fun x y z1 z2 => sm_I (sm_I (c3 x y z1) (by omega) rfl) (by omega) rfl⟩
    have := c1.u (v := a) (q := 0) (x := b) (by omega)
    rw [en_n hb] at this
    exact this.keep (fun v q hv hq => rI_o (by omega))
  · rw [i00]
    unfold acc
    rw [cif_t ht, cif_t ht]
    exact wp_r ⟨rfl, ⟨L1, c1, c2⟩, hS, by rw [(c3 28 7 (by omega)).1]; exact hn, fun x y z1 _ => c3 x y z1⟩
end OFF
/-! the items of a linkage, in their order -/
noncomputable def accL : List (Nat × Nat) → List (Nat × Nat) → List (Nat × Nat)
  | E, [] => E
  | E, (a, b) :: l => accL (acc E a b) l
theorem accL_app (E : List (Nat × Nat)) (l l' : List (Nat × Nat)) : accL E (l ++ l') = accL (accL E l) l' := by
  induction l generalizing E with
  | nil => rfl
  | cons x l ih =>
    obtain ⟨a, b⟩ := x
    exact ih (acc E a b)
def tieA (g : Nat → Bool) : Nat → Nat × Nat × List (Nat × Nat)
  | 0 => (24, 24, [])
  | n + 1 => if g n = true then
      (if (tieA g n).1 = 24 then (n, (tieA g n).2.1, (tieA g n).2.2)
       else if (tieA g n).2.1 = 24 then ((tieA g n).1, n, (tieA g n).2.2 ++ [((tieA g n).1, n)])
       else ((tieA g n).1, (tieA g n).2.1, (tieA g n).2.2 ++ [(n, (tieA g n).1), (n, (tieA g n).2.1)]))
    else tieA g n
theorem tieA_ok (g : Nat → Bool) : ∀ n, n ≤ 24 → ((tieA g n).1 = 24 ∧ (tieA g n).2.1 = 24 ∧ (tieA g n).2.2 = [] ∨ (tieA g n).1 < n ∧ (tieA g n).2.1 = 24 ∧ (tieA g n).2.2 = [] ∨ (tieA g n).1 < n ∧ (tieA g n).2.1 < n ∧ (tieA g n).1 ≠ (tieA g n).2.1) ∧ (tieA g n).2.2.length ≤ 2 * n ∧ ∀ q, q ∈ (tieA g n).2.2 → q.1 < n ∧ q.2 < n ∧ q.1 ≠ q.2 := by
  intro n
  induction n with
  | zero => exact fun _ => ⟨Or.inl ⟨rfl, rfl, rfl⟩, Nat.le_refl _, fun q hq => (nomatch hq)⟩
  | succ n ih =>
    intro hn
    obtain ⟨h1, h2, h3⟩ := ih (by omega)
    have h3' : ∀ q, q ∈ (tieA g n).2.2 → q.1 < n + 1 ∧ q.2 < n + 1 ∧ q.1 ≠ q.2 := fun q hq => by
      obtain ⟨a, b, c⟩ := h3 q hq
      exact ⟨by omega, by omega, c⟩
    rw [tieA]
    by_cases q : g n = true
    · rw [if_pos q]
      by_cases q1 : (tieA g n).1 = 24
      · rw [if_pos q1]
        refine ⟨Or.inr (Or.inl ⟨?_, ?_, ?_⟩), ?_, h3'⟩
        · show n < n + 1; omega
        · show (tieA g n).2.1 = 24; omega
        · show (tieA g n).2.2 = []
          rcases h1 with ⟨a, b, c⟩ | ⟨a, b, c⟩ | ⟨a, b, c⟩
          · exact c
          · exact c
          · omega
        · show (tieA g n).2.2.length ≤ _; omega
      · rw [if_neg q1]
        by_cases q2 : (tieA g n).2.1 = 24
        · rw [if_pos q2]
          refine ⟨Or.inr (Or.inr ⟨?_, ?_, ?_⟩), ?_, fun x hx => ?_⟩
          · show (tieA g n).1 < n + 1; omega
          · show n < n + 1; omega
          · show (tieA g n).1 ≠ n; omega
          · show ((tieA g n).2.2 ++ [((tieA g n).1, n)]).length ≤ _
            rw [List.length_append]
            show _ + 1 ≤ _
            omega
          · rcases List.mem_append.mp hx with y | y
            · exact h3' x y
            · have : x = ((tieA g n).1, n) := List.mem_singleton.mp y
              subst this
              exact ⟨by show (tieA g n).1 < n + 1; omega, by show n < n + 1; omega, by show (tieA g n).1 ≠ n; omega⟩
        · rw [if_neg q2]
          refine ⟨Or.inr (Or.inr ⟨?_, ?_, ?_⟩), ?_, fun x hx => ?_⟩
          · show (tieA g n).1 < n + 1; omega
          · show (tieA g n).2.1 < n + 1; omega
          · show (tieA g n).1 ≠ (tieA g n).2.1; omega
          · show ((tieA g n).2.2 ++ [(n, (tieA g n).1), (n, (tieA g n).2.1)]).length ≤ _
            rw [List.length_append]
            show _ + 2 ≤ _
            omega
          · rcases List.mem_append.mp hx with y | y
            · exact h3' x y
            · rcases List.mem_cons.mp y with z | z
              · subst z
                exact ⟨by show n < n + 1; omega, by show (tieA g n).1 < n + 1; omega, by show n ≠ (tieA g n).1; omega⟩
              · have := List.mem_singleton.mp z
                subst this
                exact ⟨by show n < n + 1; omega, by show (tieA g n).2.1 < n + 1; omega, by show n ≠ (tieA g n).2.1; omega⟩
    · rw [if_neg q]
      refine ⟨?_, by omega, h3'⟩
      rcases h1 with h | ⟨a, b, c⟩ | ⟨a, b, c⟩
      · exact Or.inl h
      · exact Or.inr (Or.inl ⟨by omega, b, c⟩)
      · exact Or.inr (Or.inr ⟨by omega, by omega, c⟩)
/-- of a linkage: grounds, ends of bars, needed items -/
def grD (D : DT) (i : Nat) : Bool := decide (dk D (dm D 0 i) = 1)
def bA (D : DT) (i : Nat) : Nat := (dx D (dm D 1 i)).toInt.toNat
def bB (D : DT) (i : Nat) : Nat := (dy D (dm D 1 i)).toInt.toNat
def tiD (D : DT) : List (Nat × Nat) := (tieA (grD D) (dn D 0)).2.2
noncomputable def barE (D : DT) : Nat → List (Nat × Nat)
  | 0 => accL [] (tiD D)
  | k + 1 => acc (barE D k) (bA D k) (bB D k)
theorem bAB {D : DT} (w : WFa D) (v : WFb D) {i : Nat} (hi : i < dn D 1) : bA D i < dn D 0 ∧ bB D i < dn D 0 ∧ bA D i ≠ bB D i ∧ dx D (dm D 1 i) = nI (bA D i) ∧ dy D (dm D 1 i) = nI (bB D i) ∧ dn D 0 ≤ 24 := by
  obtain ⟨a, b, h1, h2, h3, h4, h5⟩ := v.2.1 i hi
  have w4 := w.n4
  have ea : bA D i = a := by unfold bA; rw [h4, nI_toInt (by omega)]; omega
  have eb : bB D i = b := by unfold bB; rw [h5, nI_toInt (by omega)]; omega
  rw [ea, eb]
  exact ⟨h1, h2, h3, h4, h5, w4.1⟩
theorem acc_S {E : List (Nat × Nat)} {a b : Nat} (h : Sparse E) : Sparse (acc E a b) := by
  unfold acc
  by_cases q : Tight E a b
  · rw [cif_t q]; exact h
  · rw [cif_f q]; exact h.add q
theorem acc_len {E : List (Nat × Nat)} {a b : Nat} : (acc E a b).length ≤ E.length + 1 := by
  unfold acc
  by_cases q : Tight E a b
  · rw [cif_t q]; omega
  · rw [cif_f q]; exact Nat.le_refl _
def frW (σ σ' : gS) : Prop := ∀ x y, ¬ (30 ≤ x ∧ x < 57) → ¬ (x = 28 ∧ (y = 6 ∨ y = 7)) → sm σ σ' x y
theorem frW.t {σ τ υ : gS} (h : frW σ τ) (h' : frW τ υ) : frW σ υ := fun x y z1 z2 => sm_t (h x y z1 z2) (h' x y z1 z2)
section TIE
variable {σ σ' : gS} {t : Nat} {D : DT}
theorem CD.fw (h4 : t = 4 ∨ t = 16) (h : CD σ t D) (hf : frW σ σ') : CD σ' t D := h.keep (fun x y h1 h2 => (hf x y (by omega) (by omega)).1)
theorem frO.W (h : frO σ σ') : frW σ σ' := fun x y z1 z2 => h x y (by omega) (by omega)
theorem CE.keep {E : List (Nat × Nat)} (h : CE σ E) (hk : ∀ v q, v < 24 → q < 2 → σ'.1 (30 + v) q = σ.1 (30 + v) q) : CE σ' E := by
  obtain ⟨L, a, b⟩ := h
  exact ⟨L, a.keep hk, b⟩
theorem tiesC (h4 : t = 4 ∨ t = 16) (w : WFa D) : ∀ (k i fu : Nat) (σ : gS), i + k = dn D 0 → k < fu → CD σ t D → CE σ (accL [] (tieA (grD D) i).2.2) → Sparse (accL [] (tieA (grD D) i).2.2) → σ.1 28 7 = nI (accL [] (tieA (grD D) i).2.2).length → σ.1 28 6 = nI (tieA (grD D) i).2.2.length →
    Wp (fX1_offerTies_9 t fu (en (tieA (grD D) i).1) (en (tieA (grD D) i).2.1) (nI i) σ) (fun _ σ' => CE σ' (accL [] (tiD D)) ∧ Sparse (accL [] (tiD D)) ∧ σ'.1 28 7 = nI (accL [] (tiD D)).length ∧ σ'.1 28 6 = nI (tiD D).length ∧ frW σ σ') := by
  have w4 := w.n4
  intro k
  induction k with
  | zero =>
    intro i fu σ e hfu hc hE hS h7 h6
    obtain ⟨fu, rfl⟩ : ∃ y, fu = y + 1 := ⟨fu - 1, by omega⟩
    have es : fX3_size t 0 σ = some (nI (dn D 0), σ) := sizeD (f := 0) hc (by decide)
    have ei : i = dn D 0 := by omega
    rw [fX1_offerTies_9, es, bd_r, if_pos (nI_le (by omega) (by omega))]
    subst ei
    exact wp_r ⟨hE, hS, h7, h6, fun x y _ _ => sm_r σ x y⟩
  | succ k ih =>
    intro i fu σ e hfu hc hE hS h7 h6
    obtain ⟨fu, rfl⟩ : ∃ y, fu = y + 1 := ⟨fu - 1, by omega⟩
    have es : fX3_size t 0 σ = some (nI (dn D 0), σ) := sizeD (f := 0) hc (by decide)
    have hi : i < dn D 0 := by omega
    obtain ⟨o1, o2, o3⟩ := tieA_ok (grD D) i (by omega)
    rw [fX1_offerTies_9, es, bd_r, if_neg (nI_ge (by omega) (by omega)), groundD w hc hi, bd_r]
    by_cases q : dk D (dm D 0 i) = 1
    · have gt : grD D i = true := decide_eq_true q
      rw [if_pos q, i10]
      by_cases q1 : (tieA (grD D) i).1 = 24
      · have et : tieA (grD D) (i + 1) = (i, (tieA (grD D) i).2.1, (tieA (grD D) i).2.2) := by rw [tieA, if_pos gt, if_pos q1]
        rw [q1, en_24, if_pos rfl, fX1_offerTies_93, bnd_r, nI_1]
        have := ih (i + 1) fu σ (by omega) (by omega) hc (by rw [et]; exact hE) (by rw [et]; exact hS) (by rw [et]; exact h7) (by rw [et]; exact h6)
        rw [et] at this
        rw [show en i = nI i from en_n (by omega)] at this
        exact this
      · have f24 : (tieA (grD D) i).1 < i := by omega
        rw [en_n (show (tieA (grD D) i).1 < 24 by omega), if_neg (nI_nN (by omega))]
        by_cases q2 : (tieA (grD D) i).2.1 = 24
        · have et : tieA (grD D) (i + 1) = ((tieA (grD D) i).1, i, (tieA (grD D) i).2.2 ++ [((tieA (grD D) i).1, i)]) := by rw [tieA, if_pos gt, if_neg q1, if_pos q2]
          have el : (tieA (grD D) i).2.2 = [] := by
            rcases o1 with ⟨a, b, c⟩ | ⟨a, b, c⟩ | ⟨a, b, c⟩
            · exact c
            · exact c
            · omega
          rw [q2, en_24, if_pos rfl]
          refine wp_bw (offerC hS (show (tieA (grD D) i).1 < 24 by omega) (show i < 24 by omega) (by omega) hE h7) ?_
          rintro r σ1 ⟨-, c1, c2, c3, c4⟩
          rw [bnd_r, fX1_offerTies_93, bnd_r, nI_1]
          have fw : frW σ (gsI σ1 28 6 1) := fun x y z1 z2 => sm_I (c4.W x y z1 z2) (by omega) rfl
          have ea : accL [] (tieA (grD D) (i + 1)).2.2 = acc (accL [] (tieA (grD D) i).2.2) (tieA (grD D) i).1 i := by rw [et]; exact accL_app _ _ _
          have := ih (i + 1) fu (gsI σ1 28 6 1) (by omega) (by omega) (hc.fw h4 fw) (by rw [ea]; exact c1.keep (fun v q _ _ => rI_o (by omega))) (by rw [ea]; exact c2) (by rw [ea, rI_o (by omega)]; exact c3) (by rw [et, rI_s]; show (1 : Int32) = nI ((tieA (grD D) i).2.2 ++ [((tieA (grD D) i).1, i)]).length; rw [el]; rfl)
          rw [et] at this
          rw [show en i = nI i from en_n (by omega), show en (tieA (grD D) i).1 = nI (tieA (grD D) i).1 from en_n (by omega)] at this
          refine wp_m this ?_
          rintro _ σ2 ⟨d1, d2, d3, d4, d5⟩
          exact ⟨d1, d2, d3, d4, fw.t d5⟩
        · have s24 : (tieA (grD D) i).2.1 < i := by omega
          have et : tieA (grD D) (i + 1) = ((tieA (grD D) i).1, (tieA (grD D) i).2.1, (tieA (grD D) i).2.2 ++ [(i, (tieA (grD D) i).1), (i, (tieA (grD D) i).2.1)]) := by rw [tieA, if_pos gt, if_neg q1, if_neg q2]
          rw [en_n (show (tieA (grD D) i).2.1 < 24 by omega), if_neg (nI_nN (by omega))]
          refine wp_bw (offerC hS (show i < 24 by omega) (show (tieA (grD D) i).1 < 24 by omega) (by omega) hE h7) ?_
          rintro r σ1 ⟨-, c1, c2, c3, c4⟩
          refine wp_bw (offerC c2 (show i < 24 by omega) (show (tieA (grD D) i).2.1 < 24 by omega) (by omega) c1 c3) ?_
          rintro r2 σ2 ⟨-, d1, d2, d3, d4⟩
          have fo : frW σ σ2 := c4.W.t d4.W
          have e6 : σ2.1 28 6 = nI (tieA (grD D) i).2.2.length := by rw [(d4 28 6 (by omega) (by omega)).1, (c4 28 6 (by omega) (by omega)).1]; exact h6
          rw [bnd_r, fX1_offerTies_93, bnd_r, nI_1, e6, show nI (tieA (grD D) i).2.2.length + 2 = nI ((tieA (grD D) i).2.2.length + 2) from nI_add _ 2]
          have fw : frW σ (gsI σ2 28 6 (nI ((tieA (grD D) i).2.2.length + 2))) := fun x y z1 z2 => sm_I (fo x y z1 z2) (by omega) rfl
          have ea : accL [] (tieA (grD D) (i + 1)).2.2 = acc (acc (accL [] (tieA (grD D) i).2.2) i (tieA (grD D) i).1) i (tieA (grD D) i).2.1 := by rw [et]; exact accL_app _ _ _
          have := ih (i + 1) fu (gsI σ2 28 6 (nI ((tieA (grD D) i).2.2.length + 2))) (by omega) (by omega) (hc.fw h4 fw) (by rw [ea]; exact d1.keep (fun v q _ _ => rI_o (by omega))) (by rw [ea]; exact d2) (by rw [ea, rI_o (by omega)]; exact d3) (by rw [et, rI_s]; show _ = nI ((tieA (grD D) i).2.2 ++ [(i, (tieA (grD D) i).1), (i, (tieA (grD D) i).2.1)]).length; rw [List.length_append]; rfl)
          rw [et] at this
          rw [show en (tieA (grD D) i).2.1 = nI (tieA (grD D) i).2.1 from en_n (by omega), show en (tieA (grD D) i).1 = nI (tieA (grD D) i).1 from en_n (by omega)] at this
          refine wp_m this ?_
          rintro _ σ3 ⟨g1, g2, g3, g4, g5⟩
          exact ⟨g1, g2, g3, g4, fw.t g5⟩
    · have gf : ¬ grD D i = true := fun z => q (of_decide_eq_true z)
      have et : tieA (grD D) (i + 1) = tieA (grD D) i := by rw [tieA, if_neg gf]
      rw [if_neg q, i00, fX1_offerTies_93, bnd_r, nI_1]
      have := ih (i + 1) fu σ (by omega) (by omega) hc (by rw [et]; exact hE) (by rw [et]; exact hS) (by rw [et]; exact h7) (by rw [et]; exact h6)
      rw [et] at this
      exact this
theorem accL_S : ∀ (l E : List (Nat × Nat)), Sparse E → Sparse (accL E l)
  | [], E, h => h
  | (a, b) :: l, E, h => accL_S l (acc E a b) (acc_S h)
theorem barE_S (D : DT) : ∀ k, Sparse (barE D k)
  | 0 => accL_S _ _ Sparse.nil
  | k + 1 => acc_S (barE_S D k)
/-- what the class knows of counts when it has offered all -/
def CO1 (σ : gS) (D : DT) (k : Nat) : Prop := CE σ (barE D k) ∧ σ.1 28 7 = nI (barE D k).length ∧ σ.1 28 6 = nI (tiD D).length ∧ ∀ i, i < k → σ.1 56 i = cif (Tight (barE D i) (bA D i) (bB D i)) 0 1
theorem barsC (h4 : t = 4 ∨ t = 16) (w : WFa D) (v : WFb D) : ∀ (k i fu : Nat) (σ : gS), i + k = dn D 1 → k < fu → CD σ t D → CO1 σ D i →
    ∃ σ', frW σ σ' ∧ CO1 σ' D (dn D 1) ∧ fX1_work_48 t fu (nI (dn D 0)) (nI i) σ = (if 2 ≤ nI (dn D 0) then fX1_work_105 t (nI (dn D 0)) (((2 * nI (dn D 0)) - 3) - (σ'.1 28 7)) σ' else fX1_work_105 t (nI (dn D 0)) 0 σ') := by
  have w4 := w.n4
  intro k
  induction k with
  | zero =>
    intro i fu σ e hfu hc hE
    obtain ⟨fu, rfl⟩ : ∃ y, fu = y + 1 := ⟨fu - 1, by omega⟩
    have es : fX3_size t 1 σ = some (nI (dn D 1), σ) := sizeD (f := 1) hc (by decide)
    have ei : i = dn D 1 := by omega
    refine ⟨σ, fun x y _ _ => sm_r σ x y, by rw [← ei]; exact hE, ?_⟩
    rw [fX1_work_48, es, bd_r, if_pos (nI_le (by omega) (by omega))]
  | succ k ih =>
    intro i fu σ e hfu hc hE
    obtain ⟨fu, rfl⟩ : ∃ y, fu = y + 1 := ⟨fu - 1, by omega⟩
    have es : fX3_size t 1 σ = some (nI (dn D 1), σ) := sizeD (f := 1) hc (by decide)
    have hi : i < dn D 1 := by omega
    obtain ⟨b1, b2, b3, b4, b5, b6⟩ := bAB w v hi
    have e1 : fX3_firstOf t 1 (nI i) σ = some (nI (bA D i), σ) := by rw [← b4]; exact firstD (f := 1) w hc (by decide) hi
    have e2 : fX3_secondOf t 1 (nI i) σ = some (nI (bB D i), σ) := by rw [← b5]; exact secondD (f := 1) w hc (by decide) hi
    obtain ⟨r, σ1, e3, c0, c1, c2, c3, c4⟩ := offerC (barE_S D i) (show bA D i < 24 by omega) (show bB D i < 24 by omega) b3 hE.1 hE.2.1
    have en : vp_nar .boolean r = r := by
      rw [c0]
      by_cases q : Tight (barE D i) (bA D i) (bB D i)
      · rw [cif_t q]; rfl
      · rw [cif_f q]; rfl
    have fw : frW σ (gsI σ1 56 i r) := fun x y z1 z2 => sm_I (c4.W x y z1 z2) (by omega) rfl
    have C2 : CO1 (gsI σ1 56 i r) D (i + 1) := by
      refine ⟨c1.keep (fun v q hv hq => rI_o (by omega)), by rw [rI_o (by omega)]; exact c3, ?_, fun j hj => ?_⟩
      · rw [rI_o (by omega), (c4 28 6 (by omega) (by omega)).1]; exact hE.2.2.1
      · by_cases q : j = i
        · subst q; rw [rI_s]; exact c0
        · rw [rI_o (by omega), (c4 56 j (by omega) (by omega)).1]; exact hE.2.2.2 j (by omega)
    obtain ⟨σ', f1, f2, f3⟩ := ih (i + 1) fu (gsI σ1 56 i r) (by omega) (by omega) (hc.fw h4 fw) C2
    refine ⟨σ', fw.t f1, f2, ?_⟩
    rw [fX1_work_48, es, bd_r, if_neg (nI_ge (by omega) (by omega)), e1, bd_r, e2, bd_r, e3, bd_r, nI_clamp (by omega), gg_ix (by omega) (by decide), bnd_r, bnd_r, en, nI_1]
    exact f3
end TIE

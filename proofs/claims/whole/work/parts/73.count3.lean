/-! bits -/
def bt (x : Int32) (i : Nat) : Bool := x.toBitVec.getLsbD i
theorem bt_or {x y : Int32} {i : Nat} : bt (x ||| y) i = (bt x i || bt y i) := by unfold bt; rw [Int32.toBitVec_or, BitVec.getLsbD_or]
theorem bt_and {x y : Int32} {i : Nat} : bt (x &&& y) i = (bt x i && bt y i) := by unfold bt; rw [Int32.toBitVec_and, BitVec.getLsbD_and]
theorem bt_sh : ∀ v, v < 24 → ∀ i, i < 32 → bt (1 <<< (nI v &&& 31)) i = decide (i = v) := by decide +kernel
theorem bt_1 : ∀ i, i < 32 → bt 1 i = decide (i = 0) := by decide +kernel
theorem bt_0 {i : Nat} : bt 0 i = false := by
  unfold bt
  exact BitVec.getLsbD_zero
theorem bt_ext {x y : Int32} (h : ∀ i, i < 32 → bt x i = bt y i) : x = y := by
  rw [← Int32.toBitVec_inj]
  exact BitVec.eq_of_getLsbD_eq (fun i hi => h i hi)
theorem bt_low {y : Int32} : (y &&& 1) = 0 ↔ bt y 0 = false := by
  constructor
  · intro h
    have : bt (y &&& 1) 0 = false := by rw [h]; exact bt_0
    rw [bt_and, bt_1 0 (by decide)] at this
    simpa using this
  · intro h
    refine bt_ext (fun i hi => ?_)
    rw [bt_and, bt_1 i hi, bt_0]
    by_cases q : i = 0
    · subst q; rw [h]; rfl
    · rw [decide_eq_false q]; simp
theorem sh_n : ∀ b, b < 24 → ((nI b &&& 31).toBitVec.smod 32).toNat = b := by decide +kernel
theorem bt_sr {x : Int32} {b : Nat} (hb : b < 24) : ((x >>> (nI b &&& 31)) &&& 1) = 0 ↔ bt x b = false := by
  rw [bt_low]
  unfold bt
  rw [Int32.toBitVec_shiftRight, BitVec.sshiftRight', sh_n b hb, BitVec.getLsbD_sshiftRight]
  simp (disch := omega) only [Nat.add_zero]
  rw [show decide (32 ≤ 0) = false from rfl]
  simp [show b < 32 by omega]
def nearP (E : List (Nat × Nat)) (c i : Nat) : Prop := c = i ∨ Tight E c i
theorem nearP.s {E : List (Nat × Nat)} {c i : Nat} (h : nearP E c i) : nearP E i c := h.elim (fun z => Or.inl z.symm) (fun z => Or.inr z.sym)
def TB (σ : gS) (E : List (Nat × Nat)) (a : Nat) : Prop := ∀ c i, c < 24 → i < 32 → (bt (σ.1 57 c) i = true ↔ (c < a ∧ i < a ∧ nearP E c i))
def frG (σ σ' : gS) : Prop := ∀ x y, ¬ (30 ≤ x ∧ x < 58 ∧ x ≠ 56) → sm σ σ' x y
theorem frG.t {σ τ υ : gS} (h : frG σ τ) (h' : frG τ υ) : frG σ υ := fun x y z => sm_t (h x y z) (h' x y z)
section TOG
variable {σ σ' : gS} {E : List (Nat × Nat)}
theorem togC {J : Nat} (hJ : J ≤ 24) (hS : Sparse E) : ∀ (k a fu : Nat) (σ : gS), a + k = J → k < fu → CE σ E → TB σ E a → Wp (fX1_findTogether_10 (nI J) fu (nI a) σ) (fun _ σ' => CE σ' E ∧ TB σ' E J ∧ frG σ σ') := by
  intro k
  induction k with
  | zero =>
    intro a fu σ e hfu hE hT
    obtain ⟨fu, rfl⟩ : ∃ y, fu = y + 1 := ⟨fu - 1, by omega⟩
    have : a = J := by omega
    subst this
    rw [fX1_findTogether_10, if_pos (nI_le (by omega) (by omega))]
    exact wp_r ⟨hE, hT, fun x y _ => sm_r σ x y⟩
  | succ k ih =>
    intro a fu σ e hfu hE hT
    obtain ⟨fu, rfl⟩ : ∃ y, fu = y + 1 := ⟨fu - 1, by omega⟩
    have a24 : a < 24 := by omega
    rw [fX1_findTogether_10, if_neg (nI_ge (by omega) (by omega)), nI_clamp (show a < 2 ^ 31 by omega), gg_ix a24 (by decide), gg_ix a24 (by decide), bnd_r]
    have inner : ∀ (r b gu : Nat) (σ1 : gS), b + r = a → r < gu → frG σ σ1 → CE σ1 E → (∀ c i, c < 24 → i < 32 → (bt (σ1.1 57 c) i = true ↔ ((c < a ∧ i < a ∧ nearP E c i) ∨ (c = a ∧ i = a) ∨ (c = a ∧ i < b ∧ Tight E a i) ∨ (i = a ∧ c < b ∧ Tight E a c)))) →
        Wp (fX1_findTogether_29 (nI J) (fun v2 σ => fX1_findTogether_10 (nI J) fu v2 σ) gu (nI a) (nI b) σ1) (fun _ σ' => CE σ' E ∧ TB σ' E J ∧ frG σ σ') := by
      intro r
      induction r with
      | zero =>
        intro b gu σ1 e1 e2 f1 E1 T1
        obtain ⟨gu, rfl⟩ : ∃ y, gu = y + 1 := ⟨gu - 1, by omega⟩
        have : b = a := by omega
        subst this
        rw [fX1_findTogether_29, if_pos (nI_le (by omega) (by omega)), bnd_r, nI_1]
        refine wp_m (ih (b + 1) fu σ1 (by omega) (by omega) E1 (fun c i hc hi => ?_)) ?_
        · rw [T1 c i hc hi]
          constructor
          · rintro (⟨h1, h2, h3⟩ | ⟨rfl, rfl⟩ | ⟨rfl, h2, h3⟩ | ⟨rfl, h2, h3⟩)
            · exact ⟨by omega, by omega, h3⟩
            · exact ⟨by omega, by omega, Or.inl rfl⟩
            · exact ⟨by omega, by omega, Or.inr h3⟩
            · exact ⟨by omega, by omega, Or.inr h3.sym⟩
          · rintro ⟨h1, h2, h3⟩
            by_cases q1 : c = b
            · by_cases q2 : i = b
              · exact Or.inr (Or.inl ⟨q1, q2⟩)
              · refine Or.inr (Or.inr (Or.inl ⟨q1, by omega, ?_⟩))
                subst q1
                exact h3.resolve_left (fun z => q2 z.symm)
            · by_cases q2 : i = b
              · refine Or.inr (Or.inr (Or.inr ⟨q2, by omega, ?_⟩))
                subst q2
                exact (h3.resolve_left q1).sym
              · exact Or.inl ⟨by omega, by omega, h3⟩
        · rintro _ σ2 ⟨c1, c2, c3⟩
          exact ⟨c1, c2, f1.t c3⟩
      | succ r ihr =>
        intro b gu σ1 e1 e2 f1 E1 T1
        obtain ⟨gu, rfl⟩ : ∃ y, gu = y + 1 := ⟨gu - 1, by omega⟩
        have b24 : b < 24 := by omega
        obtain ⟨L, hC, hG⟩ := E1
        rw [fX1_findTogether_29, if_neg (nI_ge (by omega) (by omega))]
        refine wp_bw (wnC hS a24 b24 (by omega) hC hG) ?_
        rintro x σ2 ⟨L2, c1, c2, c3, c4⟩
        have f2 : frG σ σ2 := fun x y z => sm_t (f1 x y z) (c3 x y (by omega))
        have T2 : ∀ c i, c < 24 → i < 32 → (bt (σ2.1 57 c) i = true ↔ ((c < a ∧ i < a ∧ nearP E c i) ∨ (c = a ∧ i = a) ∨ (c = a ∧ i < b ∧ Tight E a i) ∨ (i = a ∧ c < b ∧ Tight E a c))) := fun c i hc hi => by rw [(c3 57 c (by omega)).1]; exact T1 c i hc hi
        rcases c4 with ⟨rfl, ht, -⟩ | ⟨rfl, ht⟩
        · rw [i10, fX1_findTogether_67, bnd_r, nI_1]
          refine ihr (b + 1) gu σ2 (by omega) (by omega) f2 ⟨L2, c1, c2⟩ (fun c i hc hi => ?_)
          rw [T2 c i hc hi]
          constructor
          · rintro (h | h | ⟨h1, h2, h3⟩ | ⟨h1, h2, h3⟩)
            · exact Or.inl h
            · exact Or.inr (Or.inl h)
            · exact Or.inr (Or.inr (Or.inl ⟨h1, by omega, h3⟩))
            · exact Or.inr (Or.inr (Or.inr ⟨h1, by omega, h3⟩))
          · rintro (h | h | ⟨h1, h2, h3⟩ | ⟨h1, h2, h3⟩)
            · exact Or.inl h
            · exact Or.inr (Or.inl h)
            · refine Or.inr (Or.inr (Or.inl ⟨h1, ?_, h3⟩))
              by_cases q : i = b
              · subst q; exact absurd h3 ht
              · omega
            · refine Or.inr (Or.inr (Or.inr ⟨h1, ?_, h3⟩))
              by_cases q : c = b
              · subst q; exact absurd h3 ht
              · omega
        · rw [i00, nI_clamp (show a < 2 ^ 31 by omega), nI_clamp (show b < 2 ^ 31 by omega), gg_ix a24 (by decide), gg_ix a24 (by decide), bnd_r, gg_ix b24 (by decide), gg_ix b24 (by decide), bnd_r, fX1_findTogether_67, bnd_r, nI_1]
          refine ihr (b + 1) gu _ (by omega) (by omega) (fun x y z => sm_I (sm_I (f2 x y z) (by omega) rfl) (by omega) rfl) ⟨L2, c1.keep (fun v q hv hq => by rw [rI_o (by omega), rI_o (by omega)]), c2⟩ (fun c i hc hi => ?_)
          have t2 := T2 c i hc hi
          by_cases qa : c = a
          · subst qa
            rw [rI_o (by omega), rI_s, bt_or, bt_sh b b24 i hi, Bool.or_eq_true, t2, decide_eq_true_eq]
            constructor
            · rintro ((h | h | ⟨h1, h2, h3⟩ | ⟨h1, h2, h3⟩) | rfl)
              · exact Or.inl h
              · exact Or.inr (Or.inl h)
              · exact Or.inr (Or.inr (Or.inl ⟨h1, by omega, h3⟩))
              · omega
              · exact Or.inr (Or.inr (Or.inl ⟨rfl, by omega, ht⟩))
            · rintro (h | h | ⟨h1, h2, h3⟩ | ⟨h1, h2, h3⟩)
              · exact Or.inl (Or.inl h)
              · exact Or.inl (Or.inr (Or.inl h))
              · by_cases q : i = b
                · exact Or.inr q
                · exact Or.inl (Or.inr (Or.inr (Or.inl ⟨h1, by omega, h3⟩)))
              · omega
          · by_cases qb : c = b
            · subst qb
              rw [rI_s, rI_o (by omega), bt_or, bt_sh a a24 i hi, Bool.or_eq_true, t2, decide_eq_true_eq]
              constructor
              · rintro ((h | h | ⟨h1, h2, h3⟩ | ⟨h1, h2, h3⟩) | rfl)
                · exact Or.inl h
                · exact Or.inr (Or.inl h)
                · omega
                · omega
                · exact Or.inr (Or.inr (Or.inr ⟨rfl, by omega, ht⟩))
              · rintro (h | h | ⟨h1, h2, h3⟩ | ⟨h1, h2, h3⟩)
                · exact Or.inl (Or.inl h)
                · exact Or.inl (Or.inr (Or.inl h))
                · omega
                · exact Or.inr h1
            · rw [rI_o (by omega), rI_o (by omega), t2]
              constructor
              · rintro (h | h | ⟨h1, h2, h3⟩ | ⟨h1, h2, h3⟩)
                · exact Or.inl h
                · exact Or.inr (Or.inl h)
                · omega
                · exact Or.inr (Or.inr (Or.inr ⟨h1, by omega, h3⟩))
              · rintro (h | h | ⟨h1, h2, h3⟩ | ⟨h1, h2, h3⟩)
                · exact Or.inl h
                · exact Or.inr (Or.inl h)
                · omega
                · exact Or.inr (Or.inr (Or.inr ⟨h1, by omega, h3⟩))
    refine inner a 0 2000 _ (by omega) (by omega) (fun x y z => sm_I (sm_r σ x y) (by omega) rfl) (hE.keep (fun v q hv hq => rI_o (by omega))) (fun c i hc hi => ?_)
    have t2 := hT c i hc hi
    by_cases qa : c = a
    · subst qa
      rw [rI_s, bt_or, bt_sh c a24 i hi, Bool.or_eq_true, t2, decide_eq_true_eq]
      constructor
      · rintro (h | rfl)
        · omega
        · exact Or.inr (Or.inl ⟨rfl, rfl⟩)
      · rintro (h | ⟨h1, h2⟩ | ⟨h1, h2, h3⟩ | ⟨h1, h2, h3⟩)
        · omega
        · exact Or.inr h2
        · omega
        · omega
    · rw [rI_o (by omega), t2]
      constructor
      · intro h; exact Or.inl h
      · rintro (h | ⟨h1, h2⟩ | ⟨h1, h2, h3⟩ | ⟨h1, h2, h3⟩)
        · exact h
        · omega
        · omega
        · omega
end TOG
/-! clusters -/
noncomputable def fP (P : Nat → Prop) : Nat → Nat → Nat
  | 0, i => i
  | k + 1, i => cif (P i) i (fP P k (i + 1))
theorem fP_b (P : Nat → Prop) : ∀ k i, i ≤ fP P k i ∧ fP P k i ≤ i + k
  | 0, i => ⟨Nat.le_refl _, Nat.le_refl _⟩
  | k + 1, i => by
    have := fP_b P k (i + 1)
    rw [fP]
    by_cases q : P i
    · rw [cif_t q]; omega
    · rw [cif_f q]; omega
def oneC (D : DT) (E : List (Nat × Nat)) (p o : Nat) : Prop := nearP E (bA D o) (bA D p) ∧ nearP E (bA D o) (bB D p) ∧ nearP E (bB D o) (bA D p) ∧ nearP E (bB D o) (bB D p)
noncomputable def cls (D : DT) (E : List (Nat × Nat)) (p : Nat) : Nat := fP (oneC D E p) p 0
noncomputable def clsN (D : DT) (E : List (Nat × Nat)) (n : Nat) : Nat := sN (fun p => if cls D E p = p then 1 else 0) n
section CLU
variable {σ σ' : gS} {t : Nat} {D : DT} {E : List (Nat × Nat)}
theorem ends_iff {x : Int32} {a b : Nat} (ha : a < 24) (hb : b < 24) : (x &&& ((1 <<< (nI a &&& 31)) ||| (1 <<< (nI b &&& 31)))) = ((1 <<< (nI a &&& 31)) ||| (1 <<< (nI b &&& 31))) ↔ (bt x a = true ∧ bt x b = true) := by
  constructor
  · intro h
    have ea : bt (x &&& ((1 <<< (nI a &&& 31)) ||| (1 <<< (nI b &&& 31)))) a = bt ((1 <<< (nI a &&& 31)) ||| (1 <<< (nI b &&& 31))) a := by rw [h]
    have eb : bt (x &&& ((1 <<< (nI a &&& 31)) ||| (1 <<< (nI b &&& 31)))) b = bt ((1 <<< (nI a &&& 31)) ||| (1 <<< (nI b &&& 31))) b := by rw [h]
    rw [bt_and, bt_or, bt_sh a ha a (by omega), bt_sh b hb a (by omega), decide_eq_true rfl, Bool.true_or, Bool.and_true] at ea
    rw [bt_and, bt_or, bt_sh a ha b (by omega), bt_sh b hb b (by omega), decide_eq_true rfl, Bool.or_true, Bool.and_true] at eb
    exact ⟨ea, eb⟩
  · rintro ⟨h1, h2⟩
    refine bt_ext (fun i hi => ?_)
    rw [bt_and, bt_or, bt_sh a ha i hi, bt_sh b hb i hi]
    by_cases qa : i = a
    · subst qa; rw [h1, Bool.true_and]
    · by_cases qb : i = b
      · subst qb; rw [h2, Bool.true_and]
      · rw [decide_eq_false qa, decide_eq_false qb]; simp
theorem oneCC (w : WFa D) (v : WFb D) (hc : CD σ t D) (hT : TB σ E (dn D 0)) {p o : Nat} (hp : p < dn D 1) (ho : o < dn D 1) : fX1_areOneCluster t (nI p) (nI o) σ = some (cif (oneC D E p o) 1 0, σ) := by
  have w4 := w.n4
  obtain ⟨b1, b2, b3, b4, b5, b6⟩ := bAB w v hp
  obtain ⟨c1, c2, c3, c4, c5, c6⟩ := bAB w v ho
  have e1 : fX3_firstOf t 1 (nI p) σ = some (nI (bA D p), σ) := by rw [← b4]; exact firstD (f := 1) w hc (by decide) hp
  have e2 : fX3_secondOf t 1 (nI p) σ = some (nI (bB D p), σ) := by rw [← b5]; exact secondD (f := 1) w hc (by decide) hp
  have e3 : fX3_firstOf t 1 (nI o) σ = some (nI (bA D o), σ) := by rw [← c4]; exact firstD (f := 1) w hc (by decide) ho
  have e4 : fX3_secondOf t 1 (nI o) σ = some (nI (bB D o), σ) := by rw [← c5]; exact secondD (f := 1) w hc (by decide) ho
  rw [fX1_areOneCluster, e1, bd_r, e2, bd_r, bnd_r, e3, bd_r, nI_clamp (show bA D o < 2 ^ 31 by omega), gg_ix (show bA D o < 24 by omega) (by decide), e4, bd_r, nI_clamp (show bB D o < 2 ^ 31 by omega), gg_ix (show bB D o < 24 by omega) (by decide), bnd_r]
  have iff := ends_iff (x := (σ.1 57 (bA D o)) &&& (σ.1 57 (bB D o))) (show bA D p < 24 by omega) (show bB D p < 24 by omega)
  have t1 := hT (bA D o) (bA D p) (by omega) (by omega)
  have t2 := hT (bA D o) (bB D p) (by omega) (by omega)
  have t3 := hT (bB D o) (bA D p) (by omega) (by omega)
  have t4 := hT (bB D o) (bB D p) (by omega) (by omega)
  rw [bt_and, bt_and, Bool.and_eq_true, Bool.and_eq_true, t1, t2, t3, t4] at iff
  by_cases q : oneC D E p o
  · rw [if_pos (iff.mpr ⟨⟨⟨c1, b1, q.1⟩, ⟨c2, b1, q.2.2.1⟩⟩, ⟨⟨c1, b2, q.2.1⟩, ⟨c2, b2, q.2.2.2⟩⟩⟩), fX1_areOneCluster_59, gg_t (Or.inr rfl), cif_t q]
  · rw [if_neg (fun z => q (by
      obtain ⟨⟨⟨-, -, z1⟩, ⟨-, -, z2⟩⟩, ⟨⟨-, -, z3⟩, ⟨-, -, z4⟩⟩⟩ := iff.mp z
      exact ⟨z1, z3, z2, z4⟩)), fX1_areOneCluster_59, gg_t (Or.inl rfl), cif_f q]
def frK (σ σ' : gS) : Prop := ∀ x y, ¬ (x = 58) → ¬ (x = 28 ∧ y = 9) → sm σ σ' x y
theorem clC (h4 : t = 4 ∨ t = 16) (w : WFa D) (v : WFb D) : ∀ (k p fu : Nat) (σ : gS), p + k = dn D 1 → k < fu → CD σ t D → TB σ E (dn D 0) → σ.1 28 9 = nI (clsN D E p) → (∀ i, i < p → σ.1 58 i = nI (cls D E i)) →
    Wp (fX1_findClusters_7 t fu (nI p) σ) (fun _ σ' => frK σ σ' ∧ σ'.1 28 9 = nI (clsN D E (dn D 1)) ∧ ∀ i, i < dn D 1 → σ'.1 58 i = nI (cls D E i)) := by
  have w4 := w.n4
  intro k
  induction k with
  | zero =>
    intro p fu σ e hfu hc hT h9 h58
    obtain ⟨fu, rfl⟩ : ∃ y, fu = y + 1 := ⟨fu - 1, by omega⟩
    have es : fX3_size t 1 σ = some (nI (dn D 1), σ) := sizeD (f := 1) hc (by decide)
    have ep : p = dn D 1 := by omega
    rw [fX1_findClusters_7, es, bd_r, if_pos (nI_le (by omega) (by omega))]
    rw [ep] at h9 h58
    exact wp_r ⟨fun x y _ _ => sm_r σ x y, h9, h58⟩
  | succ k ih =>
    intro p fu σ e hfu hc hT h9 h58
    obtain ⟨fu, rfl⟩ : ∃ y, fu = y + 1 := ⟨fu - 1, by omega⟩
    have es : fX3_size t 1 σ = some (nI (dn D 1), σ) := sizeD (f := 1) hc (by decide)
    have hp : p < dn D 1 := by omega
    have cb := fP_b (oneC D E p) p 0
    have clp : (nI p).toNatClampNeg = p := nI_clamp (by omega)
    rw [fX1_findClusters_7, es, bd_r, if_neg (nI_ge (by omega) (by omega)), clp, gg_ix (by omega) (by decide), bnd_r]
    have tail : ∀ σ1 : gS, frK σ σ1 → σ1.1 28 9 = nI (clsN D E p) → σ1.1 58 p = nI (cls D E p) → (∀ i, i < p → σ1.1 58 i = nI (cls D E i)) → Wp (fX1_findClusters_63 t (fun v2 σ => fX1_findClusters_7 t fu v2 σ) (nI p) σ1) (fun _ σ' => frK σ σ' ∧ σ'.1 28 9 = nI (clsN D E (dn D 1)) ∧ ∀ i, i < dn D 1 → σ'.1 58 i = nI (cls D E i)) := by
      intro σ1 f1 g9 gp gi
      have cb2 : cls D E p ≤ p := by unfold cls; omega
      have gall : ∀ i, i < p + 1 → σ1.1 58 i = nI (cls D E i) := fun i hi => by
        by_cases q : i = p
        · subst q; exact gp
        · exact gi i (by omega)
      have hc1 : CD σ1 t D := hc.keep (fun x y h1 h2 => (f1 x y (by omega) (by omega)).1)
      have hT1 : TB σ1 E (dn D 0) := fun c i h1 h2 => by rw [(f1 57 c (by omega) (by omega)).1]; exact hT c i h1 h2
      rw [fX1_findClusters_63, clp, gg_ix (by omega) (by decide), gp]
      by_cases q : cls D E p = p
      · have e9 : clsN D E (p + 1) = clsN D E p + 1 := by unfold clsN; rw [sN, if_pos q]
        rw [if_pos (by rw [q]), bnd_r, fX1_findClusters_83, bnd_r, nI_1, g9, nI_1]
        refine wp_m (ih (p + 1) fu _ (by omega) (by omega) (hc1.keep (fun x y h1 h2 => rI_o (by omega))) (fun c i h1 h2 => by rw [rI_o (by omega)]; exact hT1 c i h1 h2) (by rw [rI_s, e9]) (fun i hi => by rw [rI_o (by omega)]; exact gall i hi)) ?_
        rintro _ σ2 ⟨d1, d2, d3⟩
        exact ⟨fun x y z1 z2 => sm_t (sm_I (f1 x y z1 z2) (by omega) rfl) (d1 x y z1 z2), d2, d3⟩
      · have e9 : clsN D E (p + 1) = clsN D E p := by unfold clsN; rw [sN, if_neg q]; rfl
        rw [if_neg (fun z => q ((nI_eq (by omega) (by omega)).mp z)), fX1_findClusters_83, bnd_r, nI_1]
        refine wp_m (ih (p + 1) fu σ1 (by omega) (by omega) hc1 hT1 (by rw [e9]; exact g9) gall) ?_
        rintro _ σ2 ⟨d1, d2, d3⟩
        exact ⟨fun x y z1 z2 => sm_t (f1 x y z1 z2) (d1 x y z1 z2), d2, d3⟩
    have inner : ∀ (r o gu : Nat) (σ1 : gS), o + r = p → r + 1 < gu → frK σ σ1 → σ1.1 28 9 = nI (clsN D E p) → σ1.1 58 p = nI p → (∀ i, i < p → σ1.1 58 i = nI (cls D E i)) → cls D E p = fP (oneC D E p) r o → Wp (fX1_findClusters_25 t (fun v2 σ => fX1_findClusters_7 t fu v2 σ) gu (nI p) (nI o) σ1) (fun _ σ' => frK σ σ' ∧ σ'.1 28 9 = nI (clsN D E (dn D 1)) ∧ ∀ i, i < dn D 1 → σ'.1 58 i = nI (cls D E i)) := by
      intro r
      induction r with
      | zero =>
        intro o gu σ1 e1 e2 f1 g9 gp gi ec
        obtain ⟨gu, rfl⟩ : ∃ y, gu = y + 1 := ⟨gu - 1, by omega⟩
        have : o = p := by omega
        rw [fX1_findClusters_25, if_pos (nI_le (by omega) (by omega))]
        exact tail σ1 f1 g9 (by rw [gp, ec, fP, this]) gi
      | succ r ihr =>
        intro o gu σ1 e1 e2 f1 g9 gp gi ec
        obtain ⟨gu, rfl⟩ : ∃ y, gu = y + 1 := ⟨gu - 1, by omega⟩
        have hc1 : CD σ1 t D := hc.keep (fun x y h1 h2 => (f1 x y (by omega) (by omega)).1)
        have hT1 : TB σ1 E (dn D 0) := fun c i h1 h2 => by rw [(f1 57 c (by omega) (by omega)).1]; exact hT c i h1 h2
        rw [fX1_findClusters_25, if_neg (nI_ge (by omega) (by omega)), clp, gg_ix (by omega) (by decide), gp, if_pos rfl, oneCC w v hc1 hT1 hp (by omega), bd_r]
        rw [fP] at ec
        by_cases q : oneC D E p o
        · rw [cif_t q] at ec ⊢
          obtain ⟨gu, rfl⟩ : ∃ y, gu = y + 1 := ⟨gu - 1, by omega⟩
          rw [i10, gg_ix (by omega) (by decide), bnd_r, fX1_findClusters_57, bnd_r, nI_1, fX1_findClusters_25]
          have fin := tail (gsI σ1 58 p (nI o)) (fun x y z1 z2 => sm_I (f1 x y z1 z2) (by omega) rfl) (by rw [rI_o (by omega)]; exact g9) (by rw [rI_s, ec]) (fun i hi => by rw [rI_o (by omega)]; exact gi i hi)
          by_cases q2 : p ≤ o + 1
          · rw [if_pos (nI_le q2 (by omega))]
            exact fin
          · rw [if_neg (nI_ge (by omega) (by omega)), clp, gg_ix (by omega) (by decide), rI_s, if_neg (fun z => by have := (nI_eq (by omega) (by omega)).mp z; omega)]
            exact fin
        · rw [cif_f q] at ec ⊢
          rw [i00, fX1_findClusters_57, bnd_r, nI_1]
          exact ihr (o + 1) gu σ1 (by omega) (by omega) f1 g9 gp gi ec
    exact inner p 0 2000 _ (by omega) (by omega) (fun x y z1 z2 => sm_I (sm_r σ x y) (by omega) rfl) (by rw [rI_o (by omega)]; exact h9) rI_s (fun i hi => by rw [rI_o (by omega)]; exact h58 i hi) rfl
/-- the class's counts -/
def KC (σ : gS) (D : DT) : Prop := σ.1 28 7 = nI (barE D (dn D 1)).length ∧ σ.1 28 6 = nI (tiD D).length ∧ (∀ i, i < dn D 1 → σ.1 56 i = cif (Tight (barE D i) (bA D i) (bB D i)) 0 1) ∧ σ.1 28 8 = (if dn D 0 < 2 then 0 else 2 * nI (dn D 0) - 3 - nI (barE D (dn D 1)).length) ∧ TB σ (barE D (dn D 1)) (dn D 0) ∧ σ.1 28 9 = nI (clsN D (barE D (dn D 1)) (dn D 1)) ∧ (∀ i, i < dn D 1 → σ.1 58 i = nI (cls D (barE D (dn D 1)) i))
theorem workC1 (h4 : t = 4 ∨ t = 16) (w : WFa D) (v : WFb D) (hc : CD σ t D) : Wp (fX1_work t σ) (fun _ σ' => KC σ' D ∧ ∀ x y, ¬ (28 ≤ x ∧ x < 59) → sm σ σ' x y) := by
  have w4 := w.n4
  have es : fX3_size t 0 σ = some (nI (dn D 0), σ) := sizeD (f := 0) hc (by decide)
  rw [fX1_work, es, bd_r]
  have loop : ∀ (k i fu : Nat) (σ1 : gS), i + k = 24 → k < fu → (∀ x y, ¬ (28 ≤ x ∧ x < 59) → sm σ σ1 x y) → (∀ u q, u < i → q < 2 → σ1.1 (30 + u) q = -1000000) → Wp (fX1_work_8 t fu (nI (dn D 0)) (nI i) σ1) (fun _ σ' => KC σ' D ∧ ∀ x y, ¬ (28 ≤ x ∧ x < 59) → sm σ σ' x y) := by
    intro k
    induction k with
    | succ k ih =>
      intro i fu σ1 e hfu f1 hN
      obtain ⟨fu, rfl⟩ : ∃ y, fu = y + 1 := ⟨fu - 1, by omega⟩
      rw [fX1_work_8, if_neg (show ¬ 24 ≤ nI i from nI_ge (b := 24) (by omega) (by decide)), nI_clamp (by omega), gg_ix (by omega) (by decide), Nat.one_mul]
      refine wp_bw (fillX (by decide)) ?_
      rintro _ σ2 ⟨g1, g2⟩
      rw [bnd_r, nI_1]
      refine ih (i + 1) fu σ2 (by omega) (by omega) (fun x y z => sm_t (f1 x y z) (g2 x y (by omega))) (fun u q hu hq => ?_)
      by_cases z : u = i
      · subst z; exact g1 q hq
      · rw [(g2 _ _ (by omega)).1]; exact hN u q (by omega) hq
    | zero =>
      intro i fu σ1 e hfu f1 hN
      obtain ⟨fu, rfl⟩ : ∃ y, fu = y + 1 := ⟨fu - 1, by omega⟩
      rw [fX1_work_8, if_pos (show 24 ≤ nI i from nI_le (a := 24) (by omega) (by omega)), bnd_r, bnd_r]
      have G0 : GL [] (fun _ _ => 24) := by
        refine ⟨fun v q hv hq => ⟨Nat.le_refl _, by show 24 ≠ v; omega⟩, fun S => ?_⟩
        show sN (fun v => pI (fun _ _ => 24) S v 0 + pI (fun _ _ => 24) S v 1) 24 = 0
        have z0 : ∀ v q, pI (fun _ _ => 24) S v q = 0 := fun v q => by
          unfold pI
          rw [if_neg (fun z => absurd z.2.1 (Nat.lt_irrefl 24))]
        have e0 : sN (fun v => pI (fun _ _ => 24) S v 0 + pI (fun _ _ => 24) S v 1) 24 = sN (fun _ => 0) 24 := sN_c (fun v _ => by rw [z0, z0])
        rw [e0, sN_0]
      have CE0 : CE (gsI (gsI σ1 28 6 0) 28 7 0) [] := ⟨fun _ _ => 24, fun v q hv hq => ⟨Nat.le_refl _, by rw [rI_o (by omega), rI_o (by omega), hN v q (by omega) hq, en_24]⟩, G0⟩
      have hc1 : CD (gsI (gsI σ1 28 6 0) 28 7 0) t D := hc.keep (fun x y h1 h2 => by rw [rI_o (by omega), rI_o (by omega)]; exact (f1 x y (by omega)).1)
      rw [fX1_offerTies]
      have tc := tiesC h4 w (dn D 0) 0 2000 (gsI (gsI σ1 28 6 0) 28 7 0) (by omega) (by omega) hc1 CE0 Sparse.nil (by rw [rI_s]; rfl) (by rw [rI_o (by omega), rI_s]; rfl)
      rw [show (tieA (grD D) 0).1 = 24 from rfl, show (tieA (grD D) 0).2.1 = 24 from rfl, en_24] at tc
      refine wp_bw tc ?_
      rintro _ σ2 ⟨c1, c2, c3, c4, c5⟩
      have f2 : ∀ x y, ¬ (28 ≤ x ∧ x < 59) → sm σ σ2 x y := fun x y z => sm_t (sm_I (sm_I (f1 x y z) (by omega) rfl) (by omega) rfl) (c5 x y (by omega) (by omega))
      have hc2 : CD σ2 t D := hc.keep (fun x y h1 h2 => (f2 x y (by omega)).1)
      obtain ⟨σ3, d1, d2, d3⟩ := barsC h4 w v (dn D 1) 0 2000 σ2 (by omega) (by omega) hc2 ⟨c1, c3, c4, fun i hi => by omega⟩
      rw [show (0 : Int32) = nI 0 from rfl, d3]
      have f3 : ∀ x y, ¬ (28 ≤ x ∧ x < 59) → sm σ σ3 x y := fun x y z => sm_t (f2 x y z) (d1 x y (by omega) (by omega))
      have eI : (if 2 ≤ nI (dn D 0) then fX1_work_105 t (nI (dn D 0)) (((2 * nI (dn D 0)) - 3) - (σ3.1 28 7)) σ3 else fX1_work_105 t (nI (dn D 0)) 0 σ3) = fX1_work_105 t (nI (dn D 0)) (if dn D 0 < 2 then 0 else 2 * nI (dn D 0) - 3 - nI (barE D (dn D 1)).length) σ3 := by
        by_cases q : dn D 0 < 2
        · rw [if_neg (show ¬ 2 ≤ nI (dn D 0) from nI_ge (b := 2) q (by decide)), if_pos q]
        · rw [if_pos (show 2 ≤ nI (dn D 0) from nI_le (a := 2) (by omega) (by omega)), if_neg q, d2.2.1]
      rw [eI, fX1_work_105, bnd_r, fX1_findTogether]
      generalize hM : (if dn D 0 < 2 then 0 else 2 * nI (dn D 0) - 3 - nI (barE D (dn D 1)).length) = M
      refine wp_bw (m := bd _ _) (P := fun _ σ5 => CE σ5 (barE D (dn D 1)) ∧ TB σ5 (barE D (dn D 1)) (dn D 0) ∧ frG (gsI σ3 28 8 M) σ5) ?_ ?_
      · refine wp_bw (fillX (by decide)) ?_
        rintro _ σ4 ⟨g1, g2⟩
        refine wp_m (togC (J := dn D 0) (E := barE D (dn D 1)) (by omega) (barE_S D _) (dn D 0) 0 2000 σ4 (by omega) (by omega) (d2.1.keep (fun v q hv hq => by rw [(g2 _ _ (by omega)).1, rI_o (by omega)])) (fun c i hc hi => ?_)) ?_
        · rw [g1 c hc, bt_0]
          exact ⟨fun z => (nomatch z), fun z => by omega⟩
        · rintro _ σ5 ⟨k1, k2, k3⟩
          exact ⟨k1, k2, fun x y z => sm_t (g2 x y (by omega)) (k3 x y z)⟩
      · rintro _ σ5 ⟨k1, k2, k3⟩
        rw [fX1_findClusters]
        have f5 : ∀ x y, ¬ (28 ≤ x ∧ x < 59) → sm σ (gsI σ5 28 9 0) x y := fun x y z => sm_I (sm_t (sm_I (f3 x y z) (by omega) rfl) (k3 x y (by omega))) (by omega) rfl
        refine wp_bw (m := bnd _ _) (P := fun _ σ' => KC σ' D ∧ ∀ x y, ¬ (28 ≤ x ∧ x < 59) → sm σ σ' x y) ?_ (fun _ σ' h => wp_r h)
        rw [bnd_r]
        refine wp_m (clC h4 w v (E := barE D (dn D 1)) (dn D 1) 0 2000 (gsI σ5 28 9 0) (by omega) (by omega) (hc.keep (fun x y h1 h2 => (f5 x y (by omega)).1)) (fun c i h1 h2 => by rw [rI_o (by omega)]; exact k2 c i h1 h2) (by rw [rI_s]; rfl) (fun i hi => by omega)) ?_
        rintro _ σ6 ⟨l1, l2, l3⟩
        have g : ∀ x y, ¬ (x = 58) → ¬ (x = 28 ∧ (y = 9 ∨ y = 8)) → ¬ (30 ≤ x ∧ x < 58 ∧ x ≠ 56) → σ6.1 x y = σ3.1 x y := fun x y z1 z2 z3 => by
          rw [(l1 x y z1 (by omega)).1, rI_o (by omega), (k3 x y z3).1, rI_o (by omega)]
        refine ⟨⟨?_, ?_, fun i hi => ?_, ?_, fun c i h1 h2 => ?_, l2, l3⟩, fun x y z => sm_t (f5 x y z) (l1 x y (by omega) (by omega))⟩
        · rw [g 28 7 (by omega) (by omega) (by omega)]; exact d2.2.1
        · rw [g 28 6 (by omega) (by omega) (by omega)]; exact d2.2.2.1
        · rw [g 56 i (by omega) (by omega) (by omega)]; exact d2.2.2.2 i hi
        · rw [(l1 28 8 (by omega) (by omega)).1, rI_o (by omega), (k3 28 8 (by omega)).1, rI_s, ← hM]
        · rw [(l1 57 c (by omega) (by omega)).1, rI_o (by omega)]; exact k2 c i h1 h2
  exact loop 24 0 2000 σ (by omega) (by omega) (fun x y _ => sm_r σ x y) (fun u q hu => by omega)
end CLU

/-! A PART MORE in the draft -/
theorem kq7 {k : Nat} (h : k < 7) : k = 0 ∨ k = 1 ∨ k = 2 ∨ k = 3 ∨ k = 4 ∨ k = 5 ∨ k = 6 := by omega
section ADD
variable {σ σ' : gS} {t : Nat} {D : DT} {b : Nat → Nat} {m p k g i q a c : Nat} {l : List Nat} {x y : Int32}
theorem dP_add (hk : k < 7) : dP (dAdd k l x y D) = dP D + 1 := by
  have e : ∀ f, f < 4 → npF (up (dn D) f (dn D f + 1)) = npF (dn D) + 1 := by
    intro f hf
    rcases (show f = 0 ∨ f = 1 ∨ f = 2 ∨ f = 3 by omega) with rfl | rfl | rfl | rfl <;> simp [npF, up] <;> omega
  exact e _ (fam_lt hk)
theorem dA_s : dn (dAdd k l x y D) (fam k) = dn D (fam k) + 1 := up_s
theorem dA_o (h : g ≠ fam k) : dn (dAdd k l x y D) g = dn D g := up_o h
theorem dA_le : dn D g ≤ dn (dAdd k l x y D) g := by
  by_cases z : g = fam k
  · subst z; rw [dA_s]; omega
  · rw [dA_o z]; exact Nat.le_refl _
theorem dA_lt (h : i < dn (dAdd k l x y D) g) : (g = fam k ∧ i = dn D (fam k)) ∨ i < dn D g := by
  by_cases z : g = fam k
  · subst z; rw [dA_s] at h; omega
  · rw [dA_o z] at h; exact Or.inr h
theorem dA_m (hi : i < dn D g) : dm (dAdd k l x y D) g i = dm D g i := by
  show up (dm D) (fam k) (up (dm D (fam k)) (dn D (fam k)) (dP D)) g i = dm D g i
  by_cases z : g = fam k
  · subst z; rw [up_s, up_o (by omega)]
  · rw [up_o z]
theorem dA_ms : dm (dAdd k l x y D) (fam k) (dn D (fam k)) = dP D := by
  show up (dm D) (fam k) (up (dm D (fam k)) (dn D (fam k)) (dP D)) (fam k) (dn D (fam k)) = dP D
  rw [up_s, up_s]
theorem dA_k (h : q < dP D) : dk (dAdd k l x y D) q = dk D q := up_o (by omega)
theorem dA_u (h : q < dP D) : du (dAdd k l x y D) q = du D q := up_o (by omega)
theorem dA_x (h : q < dP D) : dx (dAdd k l x y D) q = dx D q := up_o (by omega)
theorem dA_y (h : q < dP D) : dy (dAdd k l x y D) q = dy D q := up_o (by omega)
theorem dA_l (h : q < dP D) : dl (dAdd k l x y D) q = dl D q := up_o (by omega)
theorem dA_ks : dk (dAdd k l x y D) (dP D) = k := up_s
theorem dA_us : du (dAdd k l x y D) (dP D) = dn D (fam k) := up_s
theorem dA_xs : dx (dAdd k l x y D) (dP D) = x := up_s
theorem dA_ys : dy (dAdd k l x y D) (dP D) = y := up_s
theorem dA_ls : dl (dAdd k l x y D) (dP D) = l := up_s
theorem WFa.add (w : WFa D) (hk : k < 7) (hn : dn D (fam k) < mxF (fam k)) (hl : fam k = 0 ∨ fam k = 2 → isNm l) : WFa (dAdd k l x y D) := by
  have eP := dP_add (D := D) (l := l) (x := x) (y := y) hk
  refine ⟨fun g hg => ?_, fun q hq => ?_, fun g i hg hi => ?_, fun q hq => ?_⟩
  · by_cases z : g = fam k
    · subst z; rw [dA_s]; omega
    · rw [dA_o z]; exact w.1 g hg
  · rw [eP] at hq
    by_cases z : q = dP D
    · subst z
      rw [dA_ks, dA_us, dA_s, dA_ms]
      exact ⟨hk, by omega, rfl⟩
    · have hq' : q < dP D := by omega
      obtain ⟨a, c, e⟩ := w.2.1 q hq'
      rw [dA_k hq', dA_u hq', dA_m c]
      exact ⟨a, Nat.lt_of_lt_of_le c dA_le, e⟩
  · rcases dA_lt hi with ⟨rfl, rfl⟩ | hi'
    · rw [dA_ms, eP, dA_ks, dA_us]
      exact ⟨by omega, rfl, rfl⟩
    · obtain ⟨a, c, e⟩ := w.2.2.1 g i hg hi'
      rw [dA_m hi', eP, dA_k a, dA_u a]
      exact ⟨by omega, c, e⟩
  · rw [eP] at hq
    by_cases z : q = dP D
    · subst z
      rw [dA_ks, dA_ls]
      exact hl
    · have hq' : q < dP D := by omega
      rw [dA_k hq', dA_l hq']
      exact w.2.2.2 q hq'
theorem WFb.add (w : WFa D) (v : WFb D) (hk : k < 7)
    (h0 : fam k = 0 → -1000 ≤ x.toInt ∧ x.toInt ≤ 1000 ∧ -1000 ≤ y.toInt ∧ y.toInt ≤ 1000)
    (h1 : fam k = 1 → ∃ a c, a < dn D 0 ∧ c < dn D 0 ∧ a ≠ c ∧ x = nI a ∧ y = nI c)
    (h2 : fam k = 2 → ∃ a c, a < dn D 0 ∧ 3 ≤ c ∧ c ≤ 200 ∧ x = nI a ∧ y = nI c)
    (h3 : fam k = 3 → ∃ a c, a < dn D 2 ∧ c < dn D 2 ∧ a ≠ c ∧ x = nI a ∧ y = nI c) : WFb (dAdd k l x y D) := by
  have L0 : dn D 0 ≤ dn (dAdd k l x y D) 0 := dA_le
  have L2 : dn D 2 ≤ dn (dAdd k l x y D) 2 := dA_le
  have old : ∀ g i, g < 4 → i < dn D g → dm (dAdd k l x y D) g i = dm D g i ∧ dx (dAdd k l x y D) (dm D g i) = dx D (dm D g i) ∧ dy (dAdd k l x y D) (dm D g i) = dy D (dm D g i) ∧ dk (dAdd k l x y D) (dm D g i) = dk D (dm D g i) := by
    intro g i hg hi
    have a := (w.2.2.1 g i hg hi).1
    exact ⟨dA_m hi, dA_x a, dA_y a, dA_k a⟩
  have new : ∀ g, g = fam k → dx (dAdd k l x y D) (dm (dAdd k l x y D) g (dn D (fam k))) = x ∧ dy (dAdd k l x y D) (dm (dAdd k l x y D) g (dn D (fam k))) = y := by
    rintro g rfl
    rw [dA_ms, dA_xs, dA_ys]
    exact ⟨rfl, rfl⟩
  refine ⟨fun i hi => ?_, fun i hi => ?_, fun i hi => ?_, fun i hi => ?_, fun a c e => ?_⟩
  · rcases dA_lt hi with ⟨z, rfl⟩ | hi'
    · rw [(new 0 z).1, (new 0 z).2]; exact h0 z.symm
    · obtain ⟨e1, e2, e3, e4⟩ := old 0 i (by decide) hi'
      rw [e1, e2, e3]; exact v.1 i hi'
  · rcases dA_lt hi with ⟨z, rfl⟩ | hi'
    · rw [(new 1 z).1, (new 1 z).2]
      obtain ⟨a, c, e1, e2, e3⟩ := h1 z.symm
      exact ⟨a, c, by omega, by omega, e3⟩
    · obtain ⟨e1, e2, e3, e4⟩ := old 1 i (by decide) hi'
      rw [e1, e2, e3]
      obtain ⟨a, c, f1, f2, f3⟩ := v.2.1 i hi'
      exact ⟨a, c, by omega, by omega, f3⟩
  · rcases dA_lt hi with ⟨z, rfl⟩ | hi'
    · rw [(new 2 z).1, (new 2 z).2]
      obtain ⟨a, c, e1, e2⟩ := h2 z.symm
      exact ⟨a, c, by omega, e2⟩
    · obtain ⟨e1, e2, e3, e4⟩ := old 2 i (by decide) hi'
      rw [e1, e2, e3]
      obtain ⟨a, c, f1, f2⟩ := v.2.2.1 i hi'
      exact ⟨a, c, by omega, f2⟩
  · rcases dA_lt hi with ⟨z, rfl⟩ | hi'
    · rw [(new 3 z).1, (new 3 z).2]
      obtain ⟨a, c, e1, e2, e3⟩ := h3 z.symm
      exact ⟨a, c, by omega, by omega, e3⟩
    · obtain ⟨e1, e2, e3, e4⟩ := old 3 i (by decide) hi'
      rw [e1, e2, e3]
      obtain ⟨a, c, f1, f2, f3⟩ := v.2.2.2.1 i hi'
      exact ⟨a, c, by omega, by omega, f3⟩
  · obtain ⟨f1, f2, f3, f4, f5⟩ := v.2.2.2.2 a c e
    obtain ⟨e1, e2, e3, e4⟩ := old 0 a (by decide) f1
    obtain ⟨g1, g2, g3, g4⟩ := old 0 c (by decide) f2
    rw [e1, e4, g1, g4]
    exact ⟨by omega, by omega, f3, f4, f5⟩
theorem addC (w : WFa D) (h : CD σ t D) (hk : k < 7) (hn : dn D (fam k) < mxF (fam k)) {v : Int32} (hv : fam k = 0 ∨ fam k = 2 → v = nI (c27 l)) : Wp (fX3_add t (nI k) v x y σ) (fun _ σ' => CD σ' t (dAdd k l x y D) ∧ ∀ a c, ¬ (t ≤ a ∧ a ≤ t + 11) → sm σ σ' a c) := by
  have hf := fam_lt hk
  have eg : gW1 k = nI (fam k) := by rcases kq7 hk with rfl | rfl | rfl | rfl | rfl | rfl | rfl <;> rfl
  have eP := dP_add (D := D) (l := l) (x := x) (y := y) hk
  have e7 := h.2.1
  obtain ⟨-, hP⟩ := w.np
  have hP2 : dP D < 130 := by
    have := w.add (x := x) (y := y) (l := if fam k = 0 ∨ fam k = 2 then [] else []) hk hn (fun _ => ⟨fun c hc => (by split at hc <;> cases hc), by split <;> decide⟩)
    have := this.np
    rw [dP_add hk] at this
    omega
  have hnf : dn D (fam k) < 60 := by
    have : mxF (fam k) ≤ 60 := by rcases kq7 hk with rfl | rfl | rfl | rfl | rfl | rfl | rfl <;> decide
    omega
  have e11 := h.1 _ hf
  rw [fX3_add, nI_clamp (by omega), gg_ix (by omega) (by decide), eg, fullD w h hf, if_neg (by omega), bd_r, i00]
  simp (disch := omega) only [bnd_r, e7, nI_clamp, gg_ix, rI_o, rI_s, e11, Nat.one_mul, nI_1]
  refine wp_r ⟨⟨fun f hf' => ?_, ?_, fun q hq => ?_, fun f i hf' hi => ?_, ?_, ?_⟩, fun a c hn => ?_⟩
  · by_cases z : f = fam k
    · subst z
      simp (disch := omega) only [rI_o, rI_s, dA_s]
    · simp (disch := omega) only [rI_o, dA_o z]
      exact h.1 f hf'
  · rw [rI_s, eP]
  · rw [eP] at hq
    by_cases z : q = dP D
    · subst z
      simp (disch := omega) only [rI_o, rI_s]
      rw [dA_ks, dA_us, dA_xs, dA_ys, dA_ls]
      exact ⟨rfl, rfl, rfl, rfl, hv⟩
    · have hq' : q < dP D := by omega
      simp (disch := omega) only [rI_o]
      rw [dA_k hq', dA_u hq', dA_x hq', dA_y hq', dA_l hq']
      exact h.2.2.1 q hq'
  · rcases dA_lt hi with ⟨rfl, rfl⟩ | hi'
    · simp (disch := omega) only [rI_o, rI_s]
      rw [dA_ms]
    · rw [dA_m hi']
      have nq : ¬ (t + 7 + f = t + 7 + fam k ∧ i = dn D (fam k)) := by
        rintro ⟨z1, z2⟩
        have : f = fam k := by omega
        subst this
        omega
      rw [rI_o (by omega), rI_o (by omega), rI_o nq]
      simp (disch := omega) only [rI_o]
      exact h.2.2.2.1 f i hf' hi'
  · intro z
    simp (disch := omega) only [rI_o]
    exact h.2.2.2.2.1 z
  · intro a c z
    simp (disch := omega) only [rI_o]
    exact h.2.2.2.2.2 a c z
  · exact sm_I (sm_I (sm_I (sm_I (sm_I (sm_I (sm_I (sm_I (sm_r _ _ _) (by omega) rfl) (by omega) rfl) (by omega) rfl) (by omega) rfl) (by omega) rfl) (by omega) rfl) (by omega) rfl) (by omega) rfl
theorem RD.add (h : RD σ D) (hk : k < 7)
    (kA : ∀ g i, g < 4 → i < dn D g → σ'.1 (h1F g + 14) i = σ.1 (h1F g + 14) i ∧ σ'.1 (h2F g + 14) i = σ.1 (h2F g + 14) i)
    (kB : ∀ i, i < dn D 0 → σ'.1 186 i = σ.1 186 i ∧ σ'.2.1 183 i = σ.2.1 183 i)
    (kC : ∀ i, i < dn D 2 → σ'.2.1 187 i = σ.2.1 187 i)
    (kD : ∀ i, i < dn D 3 → σ'.1 192 i = σ.1 192 i)
    (kE : ∀ q, q < dP D → σ'.1 195 q = σ.1 195 q ∧ σ'.1 196 q = σ.1 196 q)
    (kF : ∀ g, g < 4 → g ≠ fam k → σ'.1 168 (szF g + 21) = σ.1 168 (szF g + 21))
    (kG : σ'.1 168 40 = σ.1 168 40 ∧ σ'.1 168 41 = σ.1 168 41)
    (w : WFa D)
    (nA : σ'.1 168 (szF (fam k) + 21) = nI (dn D (fam k) + 1) ∧ σ'.1 168 37 = nI (dP D + 1) ∧ σ'.1 195 (dP D) = nI k ∧ σ'.1 196 (dP D) = nI (dn D (fam k)))
    (nB : σ'.1 (h1F (fam k) + 14) (dn D (fam k)) = x ∧ σ'.1 (h2F (fam k) + 14) (dn D (fam k)) = y)
    (nC : fam k = 0 → σ'.1 186 (dn D 0) = (if k = 1 then 1 else 0) ∧ σ'.2.1 183 (dn D 0) = lN (c256 l))
    (nD : fam k = 2 → σ'.2.1 187 (dn D 2) = lN (c256 l))
    (nE : fam k = 3 → σ'.1 192 (dn D 3) = nI k) : RD σ' (dAdd k l x y D) := by
  have eP := dP_add (D := D) (l := l) (x := x) (y := y) hk
  obtain ⟨r1, r2, r3, r4, r5, r6, r7, r8, r9⟩ := h
  refine ⟨fun g hg => ?_, by rw [eP]; exact nA.2.1, fun q hq => ?_, fun g i hg hi => ?_, fun i hi => ?_, fun i hi => ?_, fun i hi => ?_, fun z => ?_, fun a c z => ?_⟩
  · by_cases z : g = fam k
    · subst z; rw [dA_s]; exact nA.1
    · rw [dA_o z, kF g hg z]; exact r1 g hg
  · rw [eP] at hq
    by_cases z : q = dP D
    · subst z; rw [dA_ks, dA_us]; exact nA.2.2
    · have hq' : q < dP D := by omega
      rw [dA_k hq', dA_u hq', (kE q hq').1, (kE q hq').2]
      exact r3 q hq'
  · rcases dA_lt hi with ⟨rfl, rfl⟩ | hi'
    · rw [dA_ms, dA_xs, dA_ys]; exact nB
    · have a := (w.2.2.1 g i hg hi').1
      rw [dA_m hi', dA_x a, dA_y a, (kA g i hg hi').1, (kA g i hg hi').2]
      exact r4 g i hg hi'
  · rcases dA_lt hi with ⟨z, rfl⟩ | hi'
    · have e : dm (dAdd k l x y D) 0 (dn D (fam k)) = dP D := by
        have := dA_ms (k := k) (l := l) (x := x) (y := y) (D := D)
        rw [← z] at this ⊢
        exact this
      rw [e, dA_ks, dA_ls, ← z]
      exact nC z.symm
    · have a := (w.2.2.1 0 i (by decide) hi').1
      rw [dA_m hi', dA_k a, dA_l a, (kB i hi').1, (kB i hi').2]
      exact r5 i hi'
  · rcases dA_lt hi with ⟨z, rfl⟩ | hi'
    · have e : dm (dAdd k l x y D) 2 (dn D (fam k)) = dP D := by
        have := dA_ms (k := k) (l := l) (x := x) (y := y) (D := D)
        rw [← z] at this ⊢
        exact this
      rw [e, dA_ls, ← z]
      exact nD z.symm
    · have a := (w.2.2.1 2 i (by decide) hi').1
      rw [dA_m hi', dA_l a, kC i hi']
      exact r6 i hi'
  · rcases dA_lt hi with ⟨z, rfl⟩ | hi'
    · have e : dm (dAdd k l x y D) 3 (dn D (fam k)) = dP D := by
        have := dA_ms (k := k) (l := l) (x := x) (y := y) (D := D)
        rw [← z] at this ⊢
        exact this
      rw [e, dA_ks, ← z]
      exact nE z.symm
    · have a := (w.2.2.1 3 i (by decide) hi').1
      rw [dA_m hi', dA_k a, kD i hi']
      exact r7 i hi'
  · rw [kG.1, kG.2]; exact r8 z
  · rw [kG.1, kG.2]; exact r9 a c z
/-! bars that are there -/
def hBp (D : DT) (a c i : Nat) : Prop := (dx D (dm D 1 i) = nI a ∧ dy D (dm D 1 i) = nI c) ∨ (dx D (dm D 1 i) = nI c ∧ dy D (dm D 1 i) = nI a)
def hB (D : DT) (a c : Nat) : Prop := ∃ i, i < dn D 1 ∧ hBp D a c i
def sme (D : DT) (a c : Nat) : Prop := dx D (dm D 0 a) = dx D (dm D 0 c) ∧ dy D (dm D 0 a) = dy D (dm D 0 c)
theorem acrossD (w : WFa D) (h : CD σ t D) (hi : i < dn D 1) (z : Int32) : fX3_acrossBar t (nI i) z σ = some (if dx D (dm D 1 i) = z then dy D (dm D 1 i) else if dy D (dm D 1 i) = z then dx D (dm D 1 i) else -1000000, σ) := by
  have e1 : fX3_firstOf t 1 (nI i) σ = some (dx D (dm D 1 i), σ) := firstD (f := 1) w h (by decide) hi
  have e2 : fX3_secondOf t 1 (nI i) σ = some (dy D (dm D 1 i), σ) := secondD (f := 1) w h (by decide) hi
  rw [fX3_acrossBar, e1, bd_r, e2, bd_r]
  by_cases q1 : dx D (dm D 1 i) = z
  · rw [if_pos q1, if_pos q1]
  · rw [if_neg q1, if_neg q1]
    by_cases q2 : dy D (dm D 1 i) = z
    · rw [if_pos q2, if_pos q2, fX3_acrossBar_35]
    · rw [if_neg q2, if_neg q2, fX3_acrossBar_35]
theorem hasBarD (w : WFa D) (v : WFb D) (h : CD σ t D) (ha : a < 24) (hc : c < 24) : fX3_hasBar t (nI a) (nI c) σ = some (cif (hB D a c) 1 0, σ) := by
  have w4 := w.n4
  have key : ∀ k i fu, i + k = dn D 1 → k < fu → (∀ j, j < i → ¬ hBp D a c j) → fX3_hasBar_2 t (nI a) (nI c) fu (nI i) σ = some (cif (hB D a c) 1 0, σ) := by
    intro k
    induction k with
    | zero =>
      intro i fu e hfu hj
      obtain ⟨fu, rfl⟩ : ∃ y, fu = y + 1 := ⟨fu - 1, by omega⟩
      rw [fX3_hasBar_2, show (1 : Int32).toNatClampNeg = 1 from rfl, h.1 1 (by decide), if_pos (nI_le (by omega) (by omega)), cif_f (fun ⟨j, j1, j2⟩ => hj j (by omega) j2)]
    | succ k ih =>
      intro i fu e hfu hj
      obtain ⟨fu, rfl⟩ : ∃ y, fu = y + 1 := ⟨fu - 1, by omega⟩
      have hi : i < dn D 1 := by omega
      obtain ⟨u, u', hu, hu', huu, eu, eu'⟩ := v.2.1 i hi
      rw [fX3_hasBar_2, show (1 : Int32).toNatClampNeg = 1 from rfl, h.1 1 (by decide), if_neg (nI_ge (by omega) (by omega)), acrossD w h hi, bd_r]
      have iff : ((if dx D (dm D 1 i) = nI a then dy D (dm D 1 i) else if dy D (dm D 1 i) = nI a then dx D (dm D 1 i) else -1000000) = nI c) ↔ hBp D a c i := by
        unfold hBp
        rw [eu, eu']
        simp (disch := omega) only [nI_eq]
        by_cases q1 : u = a
        · rw [if_pos q1, nI_eq (by omega) (by omega)]
          omega
        · rw [if_neg q1]
          by_cases q2 : u' = a
          · rw [if_pos q2, nI_eq (by omega) (by omega)]
            omega
          · rw [if_neg q2]
            refine ⟨fun z => absurd z (fun z => nI_pos (show c < 2 ^ 31 by omega) (by rw [← z]; decide)), fun z => by omega⟩
      by_cases q : hBp D a c i
      · rw [if_pos (iff.mpr q), cif_t ⟨i, hi, q⟩]
      · rw [if_neg (fun z => q (iff.mp z)), bnd_r, nI_1]
        refine ih (i + 1) fu (by omega) (by omega) (fun j h1 => ?_)
        by_cases z : j = i
        · subst z; exact q
        · exact hj j (by omega)
  rw [fX3_hasBar]
  exact key (dn D 1) 0 2000 (by omega) (by omega) (fun j h1 => by omega)
theorem hasBarR (w : WFa D) (h : RD σ D) : fX11_hasBar (nI a) (nI c) σ = some (cif (hB D a c) 1 0, σ) := by
  have w4 := w.n4
  have e0 : σ.1 168 30 = nI (dn D 1) := h.1 1 (by decide)
  have key : ∀ k i fu, i + k = dn D 1 → k < fu → (∀ j, j < i → ¬ hBp D a c j) → fX11_hasBar_2 (nI a) (nI c) fu (nI i) σ = some (cif (hB D a c) 1 0, σ) := by
    intro k
    induction k with
    | zero =>
      intro i fu e hfu hj
      obtain ⟨fu, rfl⟩ : ∃ y, fu = y + 1 := ⟨fu - 1, by omega⟩
      rw [fX11_hasBar_2, e0, if_pos (nI_le (by omega) (by omega)), cif_f (fun ⟨j, j1, j2⟩ => hj j (by omega) j2)]
    | succ k ih =>
      intro i fu e hfu hj
      obtain ⟨fu, rfl⟩ : ∃ y, fu = y + 1 := ⟨fu - 1, by omega⟩
      have hi : i < dn D 1 := by omega
      obtain ⟨r1, r2⟩ := h.2.2.2.1 1 i (by decide) hi
      have r1 : σ.1 190 i = dx D (dm D 1 i) := r1
      have r2 : σ.1 191 i = dy D (dm D 1 i) := r2
      have cl : (nI i).toNatClampNeg = i := nI_clamp (by omega)
      have nx : ¬ hBp D a c i → fX11_hasBar_52 (nI a) (nI c) (fun v3 σ => fX11_hasBar_2 (nI a) (nI c) fu v3 σ) (nI i) σ = some (cif (hB D a c) 1 0, σ) := by
        intro q
        rw [fX11_hasBar_52, bnd_r, nI_1]
        refine ih (i + 1) fu (by omega) (by omega) (fun j h1 => ?_)
        by_cases z : j = i
        · subst z; exact q
        · exact hj j (by omega)
      have yes : hBp D a c i → fX11_hasBar_50 (nI a) (nI c) σ = some (cif (hB D a c) 1 0, σ) := fun q => by rw [fX11_hasBar_50, cif_t ⟨i, hi, q⟩]
      have half : ¬ (dx D (dm D 1 i) = nI a ∧ dy D (dm D 1 i) = nI c) → fX11_hasBar_30 (nI a) (nI c) (fun v3 σ => fX11_hasBar_2 (nI a) (nI c) fu v3 σ) (nI i) σ = some (cif (hB D a c) 1 0, σ) := by
        intro q
        rw [fX11_hasBar_30, cl, gg_ix (by omega) (by decide), r1, r2]
        by_cases q1 : dx D (dm D 1 i) = nI c
        · rw [if_pos q1, gg_ix (by omega) (by decide)]
          by_cases q2 : dy D (dm D 1 i) = nI a
          · rw [if_pos q2]; exact yes (Or.inr ⟨q1, q2⟩)
          · rw [if_neg q2]; exact nx (fun z => z.elim q (fun z => q2 z.2))
        · rw [if_neg q1]; exact nx (fun z => z.elim q (fun z => q1 z.1))
      rw [fX11_hasBar_2, e0, if_neg (nI_ge (by omega) (by omega)), cl, gg_ix (by omega) (by decide), r1, r2]
      by_cases q1 : dx D (dm D 1 i) = nI a
      · rw [if_pos q1, gg_ix (by omega) (by decide)]
        by_cases q2 : dy D (dm D 1 i) = nI c
        · rw [if_pos q2]; exact yes (Or.inl ⟨q1, q2⟩)
        · rw [if_neg q2]; exact half (fun z => q2 z.2)
      · rw [if_neg q1]; exact half (fun z => q1 z.1)
  rw [fX11_hasBar]
  exact key (dn D 1) 0 2000 (by omega) (by omega) (fun j h1 => by omega)
theorem sqD (w : WFa D) (v : WFb D) (h : CD σ t D) (ha : a < dn D 0) (hc : c < dn D 0) : ∃ s : Nat, s < 2 ^ 31 ∧ fX3_squareApart t (nI a) (nI c) σ = some (nI s, σ) ∧ (s = 0 ↔ sme D a c) := by
  have x1 : fX3_x t (nI a) σ = some (dx D (dm D 0 a), σ) := by rw [fX3_x, show (0 : Int32) = nI 0 from rfl, firstD w h (by decide) ha, bd_r]
  have x2 : fX3_x t (nI c) σ = some (dx D (dm D 0 c), σ) := by rw [fX3_x, show (0 : Int32) = nI 0 from rfl, firstD w h (by decide) hc, bd_r]
  have y1 : fX3_y t (nI a) σ = some (dy D (dm D 0 a), σ) := by rw [fX3_y, show (0 : Int32) = nI 0 from rfl, secondD w h (by decide) ha, bd_r]
  have y2 : fX3_y t (nI c) σ = some (dy D (dm D 0 c), σ) := by rw [fX3_y, show (0 : Int32) = nI 0 from rfl, secondD w h (by decide) hc, bd_r]
  obtain ⟨a1, a2, a3, a4⟩ := v.1 a ha
  obtain ⟨c1, c2, c3, c4⟩ := v.1 c hc
  have sb := sqN_b (x1 := dx D (dm D 0 a)) (x2 := dx D (dm D 0 c)) (y1 := dy D (dm D 0 a)) (y2 := dy D (dm D 0 c)) ⟨a1, a2⟩ ⟨c1, c2⟩ ⟨a3, a4⟩ ⟨c3, c4⟩
  have se := sq32 (x1 := dx D (dm D 0 a)) (x2 := dx D (dm D 0 c)) (y1 := dy D (dm D 0 a)) (y2 := dy D (dm D 0 c)) ⟨a1, a2⟩ ⟨c1, c2⟩ ⟨a3, a4⟩ ⟨c3, c4⟩
  refine ⟨sqN (dx D (dm D 0 a)) (dx D (dm D 0 c)) (dy D (dm D 0 a)) (dy D (dm D 0 c)), by have := sb.1; omega, by rw [fX3_squareApart, x1, bd_r, x2, bd_r, bnd_r, y1, bd_r, y2, bd_r, bnd_r, se], ?_⟩
  unfold sme
  rw [eq32, eq32 (a := dy D (dm D 0 a))]
  generalize (dx D (dm D 0 a)).toInt = X1 at *
  generalize (dx D (dm D 0 c)).toInt = X2 at *
  generalize (dy D (dm D 0 a)).toInt = Y1 at *
  generalize (dy D (dm D 0 c)).toInt = Y2 at *
  have p0 := sq_0 (X1 - X2)
  have q0 := sq_0 (Y1 - Y2)
  constructor
  · intro z
    have e1 : (X1 - X2) * (X1 - X2) = 0 := by have := sb.2; omega
    have e2 : (Y1 - Y2) * (Y1 - Y2) = 0 := by have := sb.2; omega
    rcases Int.mul_eq_zero.mp e1 with f1 | f1 <;> rcases Int.mul_eq_zero.mp e2 with f2 | f2 <;> omega
  · rintro ⟨rfl, rfl⟩
    have := sb.2
    rw [Int.sub_self, Int.sub_self] at this
    omega
end ADD

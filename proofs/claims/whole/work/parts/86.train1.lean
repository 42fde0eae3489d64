/-! WHEELS: what both work out, as data -/
abbrev WT : Type := (Nat → Nat) × (Nat → Int64) × (Nat → Int64)
def cpA (D : DT) (c : Nat) : Nat := (dx D (dm D 3 c)).toInt.toNat
def cpB (D : DT) (c : Nat) : Nat := (dy D (dm D 3 c)).toInt.toNat
def cpK (D : DT) (c : Nat) : Nat := dk D (dm D 3 c)
def tth (D : DT) (w : Nat) : Int64 := (dy D (dm D 2 w)).toInt64
def cup (D : DT) (c w : Nat) : Int64 := if cpK D c = 6 then 1 else tth D w
def cnU (D : DT) (c f : Nat) (u : Int64) : Int64 := u * cup D c f * (if cpK D c = 4 then -1 else 1)
def cnL (D : DT) (c t : Nat) (l : Int64) : Int64 := l * cup D c t
def gNN (n d : Int64) : Nat := Nat.gcd n.toInt.natAbs d.toInt.natAbs
def crU (D : DT) (c f t : Nat) (u l : Int64) : Int64 := cnU D c f u / lN (gNN (cnU D c f u) (cnL D c t l))
def crL (D : DT) (c f t : Nat) (u l : Int64) : Int64 := cnL D c t l / lN (gNN (cnU D c f u) (cnL D c t l))
def okE (u l : Int64) : Prop := -1000000000000 ≤ u.toInt ∧ u.toInt ≤ 1000000000000 ∧ 0 < l.toInt ∧ l.toInt ≤ 1000000000000 ∧ gNN u l = 1
theorem nI_neq {a k : Nat} {x : Int32} (hx : x = nI k) (ha : a < 2 ^ 31) (hk : k < 2 ^ 31) (h : ¬ a = k) : ¬ nI a = x := fun z => h ((nI_eq ha hk).mp (z.trans hx))
/-- Euclid ends -/
def eS : Nat → Nat → Nat → Prop
  | 0, _, b => b = 0
  | m + 1, a, b => b = 0 ∨ eS m b (a % b)
theorem eS_of : ∀ (k a b : Nat), b < 2 ^ k → eS (2 * k) a b
  | 0, a, b, h => by
    have : b = 0 := by simp at h; exact h
    exact this
  | k + 1, a, b, h => by
    show eS (2 * k + 1 + 1) a b
    by_cases q : b = 0
    · exact Or.inl q
    · refine Or.inr ?_
      by_cases q2 : a % b = 0
      · exact Or.inl q2
      · refine Or.inr (eS_of k _ _ ?_)
        have h1 : a % b < b := Nat.mod_lt _ (by omega)
        have h2 : b % (a % b) < a % b := Nat.mod_lt _ (by omega)
        have h3 := Nat.div_add_mod b (a % b)
        have h4 : 1 ≤ b / (a % b) := (Nat.le_div_iff_mul_le (by omega)).mpr (by omega)
        have h5 : a % b * 1 ≤ a % b * (b / (a % b)) := Nat.mul_le_mul_left _ h4
        rw [Nat.pow_succ] at h
        omega
theorem gcd_st {a b : Nat} : Nat.gcd a b = Nat.gcd b (a % b) := by
  rw [Nat.gcd_comm a b, Nat.gcd_rec b a, Nat.gcd_comm]
section EUC
variable {σ : gS}
theorem lN0c {b : Nat} (hb : b < 2 ^ 63) : lg_cmp (lN b) 0 = 0 ↔ b = 0 := by
  rw [cmp_eq]
  exact pk_lEQ (b := 0) hb (by decide)
theorem lN_nz {b : Nat} (hb : b < 2 ^ 63) (h : ¬ b = 0) : ¬ lN b = 0 := fun z => h ((pk_lEQ (b := 0) hb (by decide)).mp z)
theorem eucC {p q : Int64} : ∀ (m a b i fu : Nat), eS m a b → i + m ≤ 100 → m < fu → a < 2 ^ 63 → b < 2 ^ 63 → fX8_commonDivisor_9 p q fu (lN a) (lN b) (nI i) σ = some (lN (Nat.gcd a b), σ)
  | 0, a, b, i, fu, h, h1, h2, ha, hb => by
    obtain ⟨fu, rfl⟩ : ∃ y, fu = y + 1 := ⟨fu - 1, by omega⟩
    have hb0 : b = 0 := h
    rw [fX8_commonDivisor_9]
    by_cases q : 100 ≤ nI i
    · rw [if_pos q, fX8_commonDivisor_44, hb0, Nat.gcd_zero_right]
    · rw [if_neg q, if_pos ((lN0c hb).mpr hb0), fX8_commonDivisor_44, hb0, Nat.gcd_zero_right]
  | m + 1, a, b, i, fu, h, h1, h2, ha, hb => by
    obtain ⟨fu, rfl⟩ : ∃ y, fu = y + 1 := ⟨fu - 1, by omega⟩
    rw [fX8_commonDivisor_9, if_neg (show ¬ 100 ≤ nI i from nI_ge (b := 100) (by omega) (by decide))]
    by_cases hb0 : b = 0
    · rw [if_pos ((lN0c hb).mpr hb0), fX8_commonDivisor_44, hb0, Nat.gcd_zero_right]
    · have lt : a % b < b := Nat.mod_lt _ (by omega)
      rw [if_neg (mt (lN0c hb).mp hb0), gg_t (lN_nz hb hb0), bnd_r, bnd_r, pk_lRem ha (by omega) hb, nI_1, gcd_st]
      exact eucC m b (a % b) (i + 1) fu (h.resolve_left hb0) (by omega) (by omega) hb (by omega)
theorem eucR {p q : Int64} : ∀ (m a b fu : Nat), eS m a b → m < fu → a < 2 ^ 63 → b < 2 ^ 63 → fX11_divisor_17 p q fu (lN a) (lN b) σ = some (lN (Nat.gcd a b), σ)
  | 0, a, b, fu, h, h2, ha, hb => by
    obtain ⟨fu, rfl⟩ : ∃ y, fu = y + 1 := ⟨fu - 1, by omega⟩
    have hb0 : b = 0 := h
    rw [fX11_divisor_17, if_pos ((lN0c hb).mpr hb0), hb0, Nat.gcd_zero_right]
  | m + 1, a, b, fu, h, h2, ha, hb => by
    obtain ⟨fu, rfl⟩ : ∃ y, fu = y + 1 := ⟨fu - 1, by omega⟩
    rw [fX11_divisor_17]
    by_cases hb0 : b = 0
    · rw [if_pos ((lN0c hb).mpr hb0), hb0, Nat.gcd_zero_right]
    · have lt : a % b < b := Nat.mod_lt _ (by omega)
      rw [if_neg (mt (lN0c hb).mp hb0), gg_t (lN_nz hb hb0), bnd_r, pk_lRem ha (by omega) hb, gcd_st]
      exact eucR m b (a % b) fu (h.resolve_left hb0) (by omega) hb (by omega)
/-- a long by its integer -/
theorem lN_of {x : Int64} (h : 0 ≤ x.toInt) : x = lN x.toInt.natAbs := by
  have l := Int64.toInt_lt x
  rw [eq64, pk_lT (by omega)]
  omega
theorem lN_ng {x : Int64} (h : x.toInt < 0) (h2 : -9223372036854775808 < x.toInt) : -x = lN x.toInt.natAbs := by
  rw [eq64, neg64 h2, pk_lT (by omega)]
  omega
theorem absC {x : Int64} (h2 : -9223372036854775808 < x.toInt) : fJ9_abs_067f4 x σ = some (lN x.toInt.natAbs, σ) := by
  rw [fJ9_abs_067f4]
  by_cases q : 0 ≤ lg_cmp x 0
  · have := le64.mp (cmp_ge0.mp q)
    rw [z64] at this
    rw [if_pos q, fJ9_abs_067f4_12, ← lN_of this]
  · have := mt (fun z => cmp_ge0.mpr (le64.mpr z)) q
    rw [z64] at this
    rw [if_neg q, fJ9_abs_067f4_12, lN_ng (by omega) h2]
theorem cdC {n d : Int64} (h1 : -281474976710656 < n.toInt) (h2 : n.toInt < 281474976710656) (h3 : 0 < d.toInt) (h4 : d.toInt < 281474976710656) : fX8_commonDivisor (lN n.toInt.natAbs) d σ = some (lN (gNN n d), σ) := by
  have e : d = lN d.toInt.natAbs := lN_of (by omega)
  rw [fX8_commonDivisor, e]
  refine (eucC 96 _ _ 0 2000 (eS_of 48 _ _ ?_) (by omega) (by omega) (by omega) (by omega)).trans ?_
  · rw [show (2 : Nat) ^ 48 = 281474976710656 from rfl]; omega
  · unfold gNN
    rw [← e]
theorem cdR {n d : Int64} (h1 : -281474976710656 < n.toInt) (h2 : n.toInt < 281474976710656) (h3 : 0 < d.toInt) (h4 : d.toInt < 281474976710656) : fX11_divisor n d σ = some (lN (gNN n d), σ) := by
  have e : d = lN d.toInt.natAbs := lN_of (by omega)
  have k : ∀ p, fX11_divisor_17 p d 2000 (lN n.toInt.natAbs) d σ = some (lN (gNN n d), σ) := by
    intro p
    have := eucR (σ := σ) (p := p) (q := d) 96 n.toInt.natAbs d.toInt.natAbs 2000 (eS_of 48 _ _ (by rw [show (2 : Nat) ^ 48 = 281474976710656 from rfl]; omega)) (by omega) (by omega) (by omega)
    rw [← e] at this
    exact this
  rw [fX11_divisor]
  by_cases q : 0 ≤ lg_cmp n 0
  · have := le64.mp (cmp_ge0.mp q)
    rw [z64] at this
    have z := k n
    rw [← lN_of this] at z
    rw [if_pos q, fX11_divisor_12]
    exact z
  · have := mt (fun z => cmp_ge0.mpr (le64.mpr z)) q
    rw [z64] at this
    have z := k n
    rw [← lN_ng (by omega) (by omega)] at z
    rw [if_neg q, fX11_divisor_12]
    exact z
end EUC
theorem mulB {a k : Int} (h1 : -1000000000000 ≤ a) (h2 : a ≤ 1000000000000) (h3 : 0 ≤ k) (h4 : k ≤ 200) : -200000000000000 ≤ a * k ∧ a * k ≤ 200000000000000 := by
  have e := Int.natAbs_mul a k
  have p : a.natAbs * k.natAbs ≤ 1000000000000 * 200 := Nat.mul_le_mul (by omega) (by omega)
  omega
theorem divG {x : Int64} {g : Nat} (hg : 0 < g) (hg2 : g < 2 ^ 62) (h1 : -4611686018427387904 < x.toInt) (h2 : x.toInt < 4611686018427387904) : (x / lN g).toInt = x.toInt.tdiv g := by
  rw [Int64.toInt_div, pk_lT (by omega)]
  have a : (x.toInt.tdiv g).natAbs = x.toInt.natAbs / g := Int.natAbs_tdiv x.toInt g
  have b : x.toInt.natAbs / g ≤ x.toInt.natAbs := Nat.div_le_self _ _
  exact Int.bmod_eq_of_le (by omega) (by omega)
section CRB
variable {D : DT} {c f t : Nat} {u l : Int64}
theorem cpAB (w : WFa D) (v : WFb D) (hc : c < dn D 3) : cpA D c < dn D 2 ∧ cpB D c < dn D 2 ∧ cpA D c ≠ cpB D c ∧ dx D (dm D 3 c) = nI (cpA D c) ∧ dy D (dm D 3 c) = nI (cpB D c) ∧ dn D 2 ≤ 16 ∧ cpK D c < 7 := by
  obtain ⟨a, b, h1, h2, h3, h4, h5⟩ := v.2.2.2.1 c hc
  have w4 := w.n4
  have ea : cpA D c = a := by unfold cpA; rw [h4, nI_toInt (by omega)]; omega
  have eb : cpB D c = b := by unfold cpB; rw [h5, nI_toInt (by omega)]; omega
  have kk := (w.2.1 _ (w.2.2.1 3 c (by decide) hc).1).1
  rw [ea, eb]
  exact ⟨h1, h2, h3, h4, h5, w4.2.2.1, kk⟩
theorem tthI (v : WFb D) {i : Nat} (hi : i < dn D 2) : 3 ≤ (tth D i).toInt ∧ (tth D i).toInt ≤ 200 := by
  obtain ⟨j, k, h1, h2, h3, h4, h5⟩ := v.2.2.1 i hi
  unfold tth
  rw [l32, h5, nI_toInt (by omega)]
  omega
theorem cupI (v : WFb D) {i : Nat} (hi : i < dn D 2) : 1 ≤ (cup D c i).toInt ∧ (cup D c i).toInt ≤ 200 := by
  have := tthI v hi
  unfold cup
  split
  · exact ⟨by decide, by decide⟩
  · omega
theorem cr_b (v : WFb D) (hf : f < dn D 2) (ht : t < dn D 2) (h : okE u l) : -200000000000000 ≤ (cnU D c f u).toInt ∧ (cnU D c f u).toInt ≤ 200000000000000 ∧ 0 < (cnL D c t l).toInt ∧ (cnL D c t l).toInt ≤ 200000000000000 := by
  obtain ⟨h1, h2, h3, h4, -⟩ := h
  have a := cupI (c := c) v hf
  have b := cupI (c := c) v ht
  have p := mulB (k := (cup D c f).toInt) h1 h2 (by omega) (by omega)
  have q := mulB (k := (cup D c t).toInt) (show -1000000000000 ≤ l.toInt by omega) h4 (by omega) (by omega)
  have q0 : 0 < l.toInt * (cup D c t).toInt := Int.mul_pos h3 (by omega)
  have e1 := mul64 (a := u) (b := cup D c f) (by omega) (by omega)
  have e2 := mul64 (a := l) (b := cup D c t) (by omega) (by omega)
  unfold cnU cnL
  rw [e2]
  refine ⟨?_, ?_, q0, q.2⟩
  · split
    · rw [mul64 (by rw [e1, show (-1 : Int64).toInt = -1 from rfl]; omega) (by rw [e1, show (-1 : Int64).toInt = -1 from rfl]; omega), e1, show (-1 : Int64).toInt = -1 from rfl]; omega
    · rw [Int64.mul_one, e1]; omega
  · split
    · rw [mul64 (by rw [e1, show (-1 : Int64).toInt = -1 from rfl]; omega) (by rw [e1, show (-1 : Int64).toInt = -1 from rfl]; omega), e1, show (-1 : Int64).toInt = -1 from rfl]; omega
    · rw [Int64.mul_one, e1]; omega
theorem gNN_p {n d : Int64} (h : 0 < d.toInt) : 0 < gNN n d := Nat.gcd_pos_of_pos_right _ (by omega)
theorem gNN_l {n d : Int64} (h : 0 < d.toInt) (h2 : d.toInt < 4611686018427387904) : gNN n d < 2 ^ 62 := by
  have : gNN n d ≤ d.toInt.natAbs := Nat.gcd_le_right _ (by omega)
  have : (2 : Nat) ^ 62 = 4611686018427387904 := rfl
  omega
/-- the next fraction, in least terms -/
theorem cr_ok (v : WFb D) (hf : f < dn D 2) (ht : t < dn D 2) (h : okE u l) : 0 < (crL D c f t u l).toInt ∧ (-1000000000000 ≤ (crU D c f t u l).toInt → (crU D c f t u l).toInt ≤ 1000000000000 → (crL D c f t u l).toInt ≤ 1000000000000 → okE (crU D c f t u l) (crL D c f t u l)) ∧ -9223372036854775808 < (crU D c f t u l).toInt := by
  obtain ⟨b1, b2, b3, b4⟩ := cr_b (c := c) v hf ht h
  have g0 : 0 < gNN (cnU D c f u) (cnL D c t l) := gNN_p b3
  have g1 := gNN_l (n := cnU D c f u) b3 (by omega)
  have eU : (crU D c f t u l).toInt = (cnU D c f u).toInt.tdiv (gNN (cnU D c f u) (cnL D c t l)) := divG g0 g1 (by omega) (by omega)
  have eL : (crL D c f t u l).toInt = (cnL D c t l).toInt.tdiv (gNN (cnU D c f u) (cnL D c t l)) := divG g0 g1 (by omega) (by omega)
  have aU : (crU D c f t u l).toInt.natAbs = (cnU D c f u).toInt.natAbs / gNN (cnU D c f u) (cnL D c t l) := by
    rw [eU]; exact Int.natAbs_tdiv _ _
  have aL : (crL D c f t u l).toInt.natAbs = (cnL D c t l).toInt.natAbs / gNN (cnU D c f u) (cnL D c t l) := by
    rw [eL]; exact Int.natAbs_tdiv _ _
  have le : (cnL D c t l).toInt.natAbs / gNN (cnU D c f u) (cnL D c t l) ≥ 1 := (Nat.le_div_iff_mul_le g0).mpr (by have : gNN (cnU D c f u) (cnL D c t l) ≤ (cnL D c t l).toInt.natAbs := Nat.gcd_le_right _ (by omega); omega)
  have nn : 0 ≤ (crL D c f t u l).toInt := by
    rw [eL]; exact Int.tdiv_nonneg (by omega) (by omega)
  have uu : (cnU D c f u).toInt.natAbs / gNN (cnU D c f u) (cnL D c t l) ≤ (cnU D c f u).toInt.natAbs := Nat.div_le_self _ _
  refine ⟨by omega, fun z1 z2 z3 => ⟨z1, z2, by omega, z3, ?_⟩, by omega⟩
  unfold gNN at aU aL g0 ⊢
  rw [aU, aL]
  exact Nat.gcd_div_gcd_div_gcd_of_pos_right (by omega)
end CRB

/-! THE MATRIX modulo 1000003: what both work out -/
def md (d : Int) : Nat := (d % 1000003).toNat
theorem md_lt (d : Int) : md d < 1000003 := by unfold md; omega
theorem mm {a b : Nat} (h : a * b < 2 ^ 63) : lN a * lN b - lN a * lN b / 1000003 * 1000003 = lN (a * b % 1000003) := by
  rw [lN_mul]
  exact pk_lRem h (by decide) (by decide)
theorem rm {a : Nat} (h : a < 2 ^ 63) : lN a - lN a / 1000003 * 1000003 = lN (a % 1000003) := pk_lRem h (by decide) (by decide)
theorem e32 : ∀ i, i < 20 → (nI (1000001 / 2 ^ i) >>> (1 &&& 31) = nI (1000001 / 2 ^ (i + 1))) ∧ ¬ nI (1000001 / 2 ^ i) ≤ 0 ∧ ((nI (1000001 / 2 ^ i) &&& 1 = 0) ↔ ¬ 1000001 / 2 ^ i % 2 = 1) := by decide +kernel
theorem e64 : ∀ i, i < 20 → (lN (1000001 / 2 ^ i) >>> ((1 : Int32).toInt64 &&& 63) = lN (1000001 / 2 ^ (i + 1))) ∧ ¬ lg_cmp (lN (1000001 / 2 ^ i)) 0 ≤ 0 ∧ ((lg_cmp (lN (1000001 / 2 ^ i) &&& 1) 1 = 0) ↔ 1000001 / 2 ^ i % 2 = 1) := by decide +kernel
theorem mul_P {a b : Nat} (ha : a < 1000003) (hb : b < 1000003) : a * b < 1000003 * 1000003 := Nat.mul_lt_mul'' ha hb
section INV
variable {σ : gS}
theorem invC1 {p : Int64} : ∀ (k i fu r b : Nat), i + k = 20 → k < fu → r < 1000003 → b < 1000003 → fX4_inverseOf_9 p fu (lN b) (lN r) (nI (1000001 / 2 ^ i)) σ = some (lN (ivN k i r b), σ) := by
  intro k
  induction k with
  | zero =>
    intro i fu r b e hfu hr hb
    obtain ⟨fu, rfl⟩ : ∃ y, fu = y + 1 := ⟨fu - 1, by omega⟩
    have : i = 20 := by omega
    subst this
    rw [fX4_inverseOf_9, if_pos (by decide)]
    rfl
  | succ k ih =>
    intro i fu r b e hfu hr hb
    obtain ⟨fu, rfl⟩ : ∃ y, fu = y + 1 := ⟨fu - 1, by omega⟩
    obtain ⟨s1, s2, s3⟩ := e32 i (by omega)
    have bb := mul_P hb hb
    have rb := mul_P hr hb
    rw [fX4_inverseOf_9, if_neg s2, ivN]
    by_cases q : 1000001 / 2 ^ i % 2 = 1
    · rw [if_neg (fun z => s3.mp z q), if_pos q, bnd_r, mm (by omega), fX4_inverseOf_31, bnd_r, bnd_r, mm (by omega), s1]
      exact ih (i + 1) fu _ _ (by omega) (by omega) (Nat.mod_lt _ (by decide)) (Nat.mod_lt _ (by decide))
    · rw [if_pos (s3.mpr q), if_neg q, fX4_inverseOf_31, bnd_r, bnd_r, mm (by omega), s1]
      exact ih (i + 1) fu _ _ (by omega) (by omega) hr (Nat.mod_lt _ (by decide))
theorem invC {x : Nat} (hx : x < 1000003) : fX4_inverseOf (lN x) σ = some (lN (ivP x), σ) := by
  rw [fX4_inverseOf]
  exact invC1 20 0 2000 1 x (by omega) (by omega) (by decide) hx
theorem invR1 {p : Int64} : ∀ (k i fu r b : Nat), i + k = 20 → k < fu → r < 1000003 → b < 1000003 → fX11_inverse_10 p fu (lN r) (lN b) (lN (1000001 / 2 ^ i)) σ = some (lN (ivN k i r b), σ) := by
  intro k
  induction k with
  | zero =>
    intro i fu r b e hfu hr hb
    obtain ⟨fu, rfl⟩ : ∃ y, fu = y + 1 := ⟨fu - 1, by omega⟩
    have : i = 20 := by omega
    subst this
    rw [fX11_inverse_10, if_pos (by decide)]
    rfl
  | succ k ih =>
    intro i fu r b e hfu hr hb
    obtain ⟨fu, rfl⟩ : ∃ y, fu = y + 1 := ⟨fu - 1, by omega⟩
    obtain ⟨s1, s2, s3⟩ := e64 i (by omega)
    have bb := mul_P hb hb
    have rb := mul_P hr hb
    rw [fX11_inverse_10, if_neg s2, ivN]
    by_cases q : 1000001 / 2 ^ i % 2 = 1
    · rw [if_pos (s3.mpr q), if_pos q, fX11_inverse_38, bnd_r, bnd_r, mm (by omega), mm (by omega), s1]
      exact ih (i + 1) fu _ _ (by omega) (by omega) (Nat.mod_lt _ (by decide)) (Nat.mod_lt _ (by decide))
    · rw [if_neg (fun z => q (s3.mp z)), if_neg q, fX11_inverse_38, bnd_r, bnd_r, mm (by omega), s1]
      exact ih (i + 1) fu _ _ (by omega) (by omega) hr (Nat.mod_lt _ (by decide))
theorem invR {x : Nat} (hx : x < 1000003) : fX11_inverse (lN x) σ = some (lN (ivP x), σ) := by
  rw [fX11_inverse]
  exact invR1 20 0 2000 1 x (by omega) (by omega) (by decide) hx
end INV
/-! remainders of numbers that may be below 0 -/
theorem tdiv0 {d : Int} (h1 : -1000003 < d) (h2 : d < 1000003) : d.tdiv 1000003 = 0 := by
  by_cases q : 0 ≤ d
  · exact Int.tdiv_eq_zero_of_lt q h2
  · have : d = -(-d) := by omega
    rw [this, Int.neg_tdiv, Int.tdiv_eq_zero_of_lt (by omega) (by omega)]
    rfl
theorem div32 {x : Int32} (h1 : -1000003 < x.toInt) (h2 : x.toInt < 1000003) : x / 1000003 = 0 := by
  rw [eq32, Int32.toInt_div, show (1000003 : Int32).toInt = 1000003 from rfl, tdiv0 h1 h2]
  rfl
theorem div64 {x : Int64} (h1 : -1000003 < x.toInt) (h2 : x.toInt < 1000003) : x / 1000003 = 0 := by
  rw [eq64, Int64.toInt_div, show (1000003 : Int64).toInt = 1000003 from rfl, tdiv0 h1 h2]
  rfl
theorem xor32 {x y : Int32} : 0 ≤ (x ^^^ y) ↔ (x.toInt < 0 ↔ y.toInt < 0) := by
  have m : ∀ z : Int32, z.toBitVec.msb = decide (z.toInt < 0) := fun z => BitVec.msb_eq_toInt
  have e := m (x ^^^ y)
  rw [Int32.toBitVec_xor, BitVec.msb_xor, m, m] at e
  rw [le32, z32]
  by_cases q1 : x.toInt < 0
  · by_cases q2 : y.toInt < 0
    · rw [decide_eq_true q1, decide_eq_true q2] at e
      have := of_decide_eq_false e.symm
      exact ⟨fun _ => ⟨fun _ => q2, fun _ => q1⟩, fun _ => by omega⟩
    · rw [decide_eq_true q1, decide_eq_false q2] at e
      have := of_decide_eq_true e.symm
      exact ⟨fun z => by omega, fun z => absurd (z.mp q1) q2⟩
  · by_cases q2 : y.toInt < 0
    · rw [decide_eq_false q1, decide_eq_true q2] at e
      have := of_decide_eq_true e.symm
      exact ⟨fun z => by omega, fun z => absurd (z.mpr q2) q1⟩
    · rw [decide_eq_false q1, decide_eq_false q2] at e
      have := of_decide_eq_false e.symm
      exact ⟨fun _ => ⟨fun z => absurd z q1, fun z => absurd z q2⟩, fun _ => by omega⟩
theorem fmC {x : Int32} {σ : gS} (h1 : -1000003 < x.toInt) (h2 : x.toInt < 1000003) : fJ9_floorMod_7cf53 x 1000003 σ = some (nI (md x.toInt), σ) := by
  have p : (1000003 : Int32).toInt = 1000003 := rfl
  have e0 : x - 0 * 1000003 = x := by rw [Int32.zero_mul, Int32.sub_zero]
  have hx := xor32 (x := x) (y := 1000003)
  rw [p] at hx
  rw [fJ9_floorMod_7cf53, gg_t (by decide), bnd_r, div32 h1 h2, e0]
  by_cases q : 0 ≤ x.toInt
  · rw [if_pos (hx.mpr ⟨fun z => by omega, fun z => by omega⟩), fJ9_floorMod_7cf53_18]
    have : x = nI (md x.toInt) := by
      rw [eq32, nI_toInt (by have := md_lt x.toInt; omega)]
      unfold md
      omega
    rw [← this]
  · rw [if_neg (fun z => by have := (hx.mp z).mp (by omega); omega), if_neg (fun z => by rw [z] at q; exact q (by decide))]
    have : x + 1000003 = nI (md x.toInt) := by
      rw [eq32, nI_toInt (by have := md_lt x.toInt; omega), add32 (by rw [p]; omega) (by rw [p]; omega), p]
      unfold md
      omega
    rw [this]
theorem fmR {x : Int64} (h1 : -1000003 < x.toInt) (h2 : x.toInt < 1000003) : ((x - x / 1000003 * 1000003) + 1000003) - ((x - x / 1000003 * 1000003) + 1000003) / 1000003 * 1000003 = lN (md x.toInt) := by
  have p : (1000003 : Int64).toInt = 1000003 := rfl
  have e0 : x - 0 * 1000003 = x := by rw [Int64.zero_mul, Int64.sub_zero]
  rw [div64 h1 h2, e0]
  have e : x + 1000003 = lN (x.toInt + 1000003).toNat := by
    rw [eq64, pk_lT (by omega), add64 (by rw [p]; omega) (by rw [p]; omega), p]
    omega
  rw [e, rm (by omega)]
  congr 1
  unfold md
  omega
/-! the matrix told, and its reduction -/
def ncl (D : DT) (j : Nat) : Nat := sN (fun i => if dk D (dm D 0 i) = 1 then 0 else 2) j
def wrM (D : DT) (f : Nat → Nat) (j : Nat) (x y : Int) : Nat → Nat := if dk D (dm D 0 j) = 1 then f else up (up f (ncl D j) (md x)) (ncl D j + 1) (md y)
def dX (D : DT) (r : Nat) : Int := (dx D (dm D 0 (bA D r))).toInt - (dx D (dm D 0 (bB D r))).toInt
def dY (D : DT) (r : Nat) : Int := (dy D (dm D 0 (bA D r))).toInt - (dy D (dm D 0 (bB D r))).toInt
def M0 (D : DT) (r : Nat) : Nat → Nat := wrM D (wrM D (fun _ => 0) (bA D r) (dX D r) (dY D r)) (bB D r) (-dX D r) (-dY D r)
noncomputable def pvt (M : Nat → Nat → Nat) (c rk R : Nat) : Nat := fP (fun p => M p c ≠ 0) (R - rk) rk
def stp (M : Nat → Nat → Nat) (c rk p : Nat) : Nat → Nat → Nat := fun r k =>
  if r = rk then M p k * ivP (M p c) % 1000003
  else if (if r = p then M rk else M r) c = 0 then (if r = p then M rk else M r) k
  else ((if r = p then M rk else M r) k + (1000003 - (if r = p then M rk else M r) c) * (M p k * ivP (M p c) % 1000003)) % 1000003
abbrev MT : Type := (Nat → Nat → Nat) × Nat × (Nat → Nat) × (Nat → Nat)
noncomputable def redS (D : DT) : Nat → MT
  | 0 => (M0 D, 0, fun _ => 60, fun _ => 0)
  | c + 1 => if pvt (redS D c).1 c (redS D c).2.1 (dn D 1) < dn D 1 then
      (stp (redS D c).1 c (redS D c).2.1 (pvt (redS D c).1 c (redS D c).2.1 (dn D 1)), (redS D c).2.1 + 1, up (redS D c).2.2.1 c (redS D c).2.1, (redS D c).2.2.2)
    else ((redS D c).1, (redS D c).2.1, (redS D c).2.2.1, up (redS D c).2.2.2 (c - (redS D c).2.1) c)
def cfr (ld : Nat → Nat) (x : Nat) : Nat := sN (fun y => if ld y = 60 then 1 else 0) x
theorem wrM_lt {D : DT} {f : Nat → Nat} {j : Nat} {x y : Int} (h : ∀ k, f k < 1000003) : ∀ k, wrM D f j x y k < 1000003 := by
  intro k
  unfold wrM
  split
  · exact h k
  · unfold up
    split
    · exact md_lt y
    · split
      · exact md_lt x
      · exact h k
theorem M0_lt (D : DT) (r k : Nat) : M0 D r k < 1000003 := wrM_lt (wrM_lt (fun _ => by decide)) k
theorem stp_lt {M : Nat → Nat → Nat} {c rk p : Nat} (h : ∀ r k, M r k < 1000003) (r k : Nat) : stp M c rk p r k < 1000003 := by
  unfold stp
  by_cases q : r = rk
  · rw [if_pos q]; exact Nat.mod_lt _ (by decide)
  · rw [if_neg q]
    by_cases q2 : (if r = p then M rk else M r) c = 0
    · rw [if_pos q2]
      by_cases z : r = p
      · rw [if_pos z]; exact h rk k
      · rw [if_neg z]; exact h r k
    · rw [if_neg q2]; exact Nat.mod_lt _ (by decide)
theorem fP_spec (P : Nat → Prop) : ∀ k i, (fP P k i < i + k → P (fP P k i)) ∧ ∀ j, i ≤ j → j < fP P k i → ¬ P j
  | 0, i => ⟨fun h => by rw [fP] at h; omega, fun j h1 h2 => by rw [fP] at h2; omega⟩
  | k + 1, i => by
    obtain ⟨h1, h2⟩ := fP_spec P k (i + 1)
    rw [fP]
    by_cases q : P i
    · rw [cif_t q]
      exact ⟨fun _ => q, fun j a b => by omega⟩
    · rw [cif_f q]
      refine ⟨fun h => h1 (by omega), fun j a b => ?_⟩
      by_cases z : j = i
      · subst z; exact q
      · exact h2 j (by omega) b
theorem pvt_ok {M : Nat → Nat → Nat} {c rk R : Nat} (h : rk ≤ R) : rk ≤ pvt M c rk R ∧ pvt M c rk R ≤ R ∧ (pvt M c rk R < R → M (pvt M c rk R) c ≠ 0) := by
  have a := fP_b (fun p => M p c ≠ 0) (R - rk) rk
  have b := (fP_spec (fun p => M p c ≠ 0) (R - rk) rk).1
  unfold pvt
  refine ⟨by omega, by omega, fun z => b (by omega)⟩
/-- what holds after c columns -/
def RedI (D : DT) (c : Nat) (s : MT) : Prop := (∀ r k, s.1 r k < 1000003) ∧ s.2.1 ≤ c ∧ s.2.1 ≤ dn D 1 ∧ (∀ r k, s.2.1 ≤ r → r < dn D 1 → k < c → s.1 r k = 0) ∧ (∀ x, s.2.2.1 x = 60 ∨ (s.2.2.1 x < s.2.1 ∧ x < c)) ∧ cfr s.2.2.1 c + s.2.1 = c ∧ (∀ x, x < c → s.2.2.1 x = 60 → s.2.2.2 (cfr s.2.2.1 x) = x)
theorem cfr_c {ld ld' : Nat → Nat} {x : Nat} (h : ∀ y, y < x → ld y = ld' y) : cfr ld x = cfr ld' x := sN_c (fun y hy => by rw [h y hy])
theorem cfr_le (ld : Nat → Nat) : ∀ x, cfr ld x ≤ x
  | 0 => Nat.le_refl _
  | x + 1 => by
    have := cfr_le ld x
    show cfr ld x + (if ld x = 60 then 1 else 0) ≤ x + 1
    split <;> omega
theorem cfr_mono (ld : Nat → Nat) {x y : Nat} (h : x ≤ y) : cfr ld x ≤ cfr ld y := by
  induction y with
  | zero => have : x = 0 := by omega
            subst this; exact Nat.le_refl _
  | succ y ih =>
    by_cases q : x = y + 1
    · subst q; exact Nat.le_refl _
    · have := ih (by omega)
      show cfr ld x ≤ cfr ld y + (if ld y = 60 then 1 else 0)
      omega
theorem red_ok {D : DT} (w : WFa D) : ∀ c, RedI D c (redS D c) := by
  intro c
  have w4 := w.n4
  induction c with
  | zero => exact ⟨M0_lt D, Nat.le_refl 0, Nat.zero_le _, fun r k _ _ h => absurd h (Nat.not_lt_zero k), fun x => Or.inl rfl, rfl, fun x h => absurd h (Nat.not_lt_zero x)⟩
  | succ c ih =>
    obtain ⟨i1, i2, i3, i4, i5, i6, i7⟩ := ih
    obtain ⟨p1, p2, p3⟩ := pvt_ok (M := (redS D c).1) (c := c) i3
    have ldc : (redS D c).2.2.1 c = 60 := (i5 c).resolve_right (fun z => by omega)
    rw [redS]
    generalize hp : pvt (redS D c).1 c (redS D c).2.1 (dn D 1) = p at *
    generalize redS D c = s at *
    by_cases q : p < dn D 1
    · rw [if_pos q]
      have np := p3 q
      refine ⟨stp_lt i1, ?_, ?_, fun r k h1 h2 h3 => ?_, fun x => ?_, ?_, fun x h1 h2 => ?_⟩
      · show s.2.1 + 1 ≤ c + 1; omega
      · show s.2.1 + 1 ≤ dn D 1; omega
      · have h1 : s.2.1 + 1 ≤ r := h1
        show stp s.1 c s.2.1 p r k = 0
        unfold stp
        rw [if_neg (show ¬ r = s.2.1 by omega)]
        have oz : ∀ y, y < c → (if r = p then s.1 s.2.1 else s.1 r) y = 0 := fun y hy => by
          by_cases z : r = p
          · rw [if_pos z]; exact i4 _ _ (Nat.le_refl _) (by omega) hy
          · rw [if_neg z]; exact i4 _ _ (by omega) h2 hy
        by_cases z0 : (if r = p then s.1 s.2.1 else s.1 r) c = 0
        · rw [if_pos z0]
          by_cases z : k = c
          · rw [z]; exact z0
          · exact oz k (by omega)
        · rw [if_neg z0]
          have ol : (if r = p then s.1 s.2.1 else s.1 r) c < 1000003 := by
            by_cases z : r = p
            · rw [if_pos z]; exact i1 _ _
            · rw [if_neg z]; exact i1 _ _
          by_cases z : k = c
          · subst z
            have iv := (ivP_ok (x := s.1 p k) (by omega) (i1 _ _)).1
            rw [iv, Nat.mul_one, show (if r = p then s.1 s.2.1 else s.1 r) k + (1000003 - (if r = p then s.1 s.2.1 else s.1 r) k) = 1000003 by omega]
          · rw [oz k (by omega), i4 p k p1 q (by omega), Nat.zero_mul, Nat.zero_mod, Nat.mul_zero]
      · show up s.2.2.1 c s.2.1 x = 60 ∨ (up s.2.2.1 c s.2.1 x < s.2.1 + 1 ∧ x < c + 1)
        by_cases z : x = c
        · subst z; rw [up_s]; exact Or.inr ⟨by omega, by omega⟩
        · rw [up_o z]
          rcases i5 x with h | h
          · exact Or.inl h
          · exact Or.inr ⟨by omega, by omega⟩
      · show (cfr (up s.2.2.1 c s.2.1) c + (if up s.2.2.1 c s.2.1 c = 60 then 1 else 0)) + (s.2.1 + 1) = c + 1
        rw [cfr_c (ld' := s.2.2.1) (fun y hy => up_o (by omega)), up_s, if_neg (by omega)]
        omega
      · have h2 : up s.2.2.1 c s.2.1 x = 60 := h2
        show s.2.2.2 (cfr (up s.2.2.1 c s.2.1) x) = x
        have z : x ≠ c := by rintro rfl; rw [up_s] at h2; omega
        rw [up_o z] at h2
        rw [cfr_c (ld' := s.2.2.1) (fun y hy => up_o (by omega))]
        exact i7 x (by omega) h2
    · rw [if_neg q]
      have pz : ∀ r, s.2.1 ≤ r → r < dn D 1 → s.1 r c = 0 := by
        intro r h1 h2
        have sp := (fP_spec (fun p => s.1 p c ≠ 0) (dn D 1 - s.2.1) s.2.1).2 r h1
        apply Classical.byContradiction
        intro z
        refine sp ?_ z
        unfold pvt at hp
        omega
      refine ⟨i1, ?_, i3, fun r k h1 h2 h3 => ?_, fun x => ?_, ?_, fun x h1 h2 => ?_⟩
      · show s.2.1 ≤ c + 1; omega
      · by_cases z : k = c
        · rw [z]; exact pz r h1 h2
        · exact i4 r k h1 h2 (by omega)
      · rcases i5 x with h | h
        · exact Or.inl h
        · exact Or.inr ⟨h.1, by omega⟩
      · show (cfr s.2.2.1 c + (if s.2.2.1 c = 60 then 1 else 0)) + s.2.1 = c + 1
        rw [if_pos ldc]
        omega
      · show up s.2.2.2 (c - s.2.1) c (cfr s.2.2.1 x) = x
        by_cases z : x = c
        · subst z; rw [show cfr s.2.2.1 x = x - s.2.1 by omega, up_s]
        · have m : cfr s.2.2.1 x + 1 ≤ cfr s.2.2.1 c := by
            have := cfr_mono s.2.2.1 (show x + 1 ≤ c by omega)
            have e : cfr s.2.2.1 (x + 1) = cfr s.2.2.1 x + (if s.2.2.1 x = 60 then 1 else 0) := rfl
            rw [if_pos h2] at e
            omega
          rw [up_o (by omega)]
          exact i7 x (by omega) h2

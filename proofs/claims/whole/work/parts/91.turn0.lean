/-! TURNING: numbers -/
theorem xor64 {x y : Int64} : 0 ≤ (x ^^^ y) ↔ (x.toInt < 0 ↔ y.toInt < 0) := by
  have m : ∀ z : Int64, z.toBitVec.msb = decide (z.toInt < 0) := fun z => BitVec.msb_eq_toInt
  have e := m (x ^^^ y)
  rw [Int64.toBitVec_xor, BitVec.msb_xor, m, m] at e
  rw [le64, z64]
  by_cases q1 : x.toInt < 0
  · by_cases q2 : y.toInt < 0
    · rw [decide_eq_true q1, decide_eq_true q2] at e
      have := of_decide_eq_false e.symm
      exact ⟨fun _ => ⟨fun _ => q2, fun _ => q1⟩, fun _ => by omega⟩
    · rw [decide_eq_true q1, decide_eq_false q2] at e
      have := of_decide_eq_true e.symm
      exact ⟨fun z => by omega, fun z => absurd (z.mp q1) q2⟩
  · by_cases q2 : y.toInt < 0
    · rw [decide_eq_false q1, decide_eq_true q2] at e
      have := of_decide_eq_true e.symm
      exact ⟨fun z => by omega, fun z => absurd (z.mpr q2) q1⟩
    · rw [decide_eq_false q1, decide_eq_false q2] at e
      have := of_decide_eq_false e.symm
      exact ⟨fun _ => ⟨fun z => absurd z q1, fun z => absurd z q2⟩, fun _ => by omega⟩
theorem fl_0 {a b : Int} (hb : 0 < b) (h : 0 ≤ a.tmod b) : a / b = a.tdiv b := ((Int.ediv_emod_unique hb).mpr ⟨Int.tmod_add_mul_tdiv a b, h, Int.tmod_lt_of_pos a hb⟩).1
theorem fl_1 {a b : Int} (hb : 0 < b) (h : a.tmod b < 0) : a / b = a.tdiv b - 1 := by
  have e := Int.tmod_add_mul_tdiv a b
  have l := Int.lt_tmod_of_pos a hb
  exact ((Int.ediv_emod_unique (r := a.tmod b + b) hb).mpr ⟨by rw [Int.mul_sub, Int.mul_one]; omega, by omega, by omega⟩).1
theorem tmod_n {a b : Int} (ha : a < 0) : a.tmod b ≤ 0 := by
  have := Int.tmod_nonneg b (show 0 ≤ -a by omega)
  rw [Int.neg_tmod] at this
  omega
def fdv (a b : Int64) : Int64 := Int64.ofInt (a.toInt / b.toInt)
theorem ofI {x : Int64} {z : Int} (h : x.toInt = z) : x = Int64.ofInt z := by rw [← h, Int64.ofInt_toInt]
theorem dv64 {a b : Int64} (hb : 0 < b.toInt) (h1 : -4611686018427387904 < a.toInt) (h2 : a.toInt < 4611686018427387904) : (a / b).toInt = a.toInt.tdiv b.toInt ∧ (a / b * b).toInt = a.toInt.tdiv b.toInt * b.toInt ∧ (a - a / b * b).toInt = a.toInt.tmod b.toInt := by
  have n : (a.toInt.tdiv b.toInt).natAbs ≤ a.toInt.natAbs := Int.natAbs_tdiv_le_natAbs _ _
  have e : (a / b).toInt = a.toInt.tdiv b.toInt := by
    rw [Int64.toInt_div]
    exact Int.bmod_eq_of_le (by omega) (by omega)
  have t := Int.tdiv_mul_add_tmod a.toInt b.toInt
  have l := Int.lt_tmod_of_pos a.toInt hb
  have u := Int.tmod_lt_of_pos a.toInt hb
  have bl := Int64.toInt_lt b
  have s : -4611686018427387904 < a.toInt.tdiv b.toInt * b.toInt ∧ a.toInt.tdiv b.toInt * b.toInt < 4611686018427387904 := by
    by_cases q : a.toInt < 0
    · have := tmod_n (b := b.toInt) q
      have z : a.toInt.tdiv b.toInt ≤ 0 := by
        have := Int.tdiv_nonneg (a := -a.toInt) (b := b.toInt) (by omega) (by omega)
        rw [Int.neg_tdiv] at this
        omega
      have := Int.mul_nonneg (show 0 ≤ -(a.toInt.tdiv b.toInt) by omega) (show 0 ≤ b.toInt by omega)
      rw [Int.neg_mul] at this
      omega
    · have := Int.tmod_nonneg b.toInt (show 0 ≤ a.toInt by omega)
      have := Int.mul_nonneg (Int.tdiv_nonneg (show 0 ≤ a.toInt by omega) (show 0 ≤ b.toInt by omega)) (show 0 ≤ b.toInt by omega)
      omega
  have m : (a / b * b).toInt = a.toInt.tdiv b.toInt * b.toInt := by
    rw [mul64 (by rw [e]; omega) (by rw [e]; omega), e]
  exact ⟨e, m, by rw [sub64 (by rw [m]; omega) (by rw [m]; omega), m]; omega⟩
section FLR
variable {σ : gS} {a b : Int64}
theorem nz64 (hb : 0 < b.toInt) : ¬ b = 0 := fun z => by rw [z, z64] at hb; omega
theorem fdv_I (hb : 0 < b.toInt) (h1 : -4611686018427387904 < a.toInt) (h2 : a.toInt < 4611686018427387904) : (fdv a b).toInt = a.toInt / b.toInt ∧ fdv a b = (if 0 ≤ a.toInt ∨ a.toInt.tmod b.toInt = 0 then a / b else a / b - 1) := by
  obtain ⟨e, m, s⟩ := dv64 hb h1 h2
  have n : (a.toInt.tdiv b.toInt).natAbs ≤ a.toInt.natAbs := Int.natAbs_tdiv_le_natAbs _ _
  have k : (if 0 ≤ a.toInt ∨ a.toInt.tmod b.toInt = 0 then a / b else a / b - 1).toInt = a.toInt / b.toInt := by
    by_cases q : 0 ≤ a.toInt ∨ a.toInt.tmod b.toInt = 0
    · rw [if_pos q, e, fl_0 hb]
      rcases q with q | q
      · exact Int.tmod_nonneg _ q
      · omega
    · rw [if_neg q, fl_1 hb (by have := tmod_n (a := a.toInt) (b := b.toInt) (by omega); omega), sub64 (by rw [e, show (1 : Int64).toInt = 1 from rfl]; omega) (by rw [e, show (1 : Int64).toInt = 1 from rfl]; omega), e]
      rfl
  have f : fdv a b = (if 0 ≤ a.toInt ∨ a.toInt.tmod b.toInt = 0 then a / b else a / b - 1) := (ofI k).symm
  exact ⟨by rw [f, k], f⟩
theorem floorC (hb : 0 < b.toInt) (h1 : -4611686018427387904 < a.toInt) (h2 : a.toInt < 4611686018427387904) : fJ9_floorDiv_f86c9 a b σ = some (fdv a b, σ) := by
  obtain ⟨e, m, s⟩ := dv64 hb h1 h2
  have t := Int.tdiv_mul_add_tmod a.toInt b.toInt
  rw [(fdv_I hb h1 h2).2, fJ9_floorDiv_f86c9, gg_t (nz64 hb), bnd_r]
  by_cases q : 0 ≤ a.toInt
  · rw [if_pos (cmp_ge0.mpr (xor64.mpr (by omega))), fJ9_floorDiv_f86c9_27, if_pos (Or.inl q)]
  · rw [if_neg (fun z => by have := xor64.mp (cmp_ge0.mp z); omega)]
    by_cases q2 : a.toInt.tmod b.toInt = 0
    · rw [if_pos (cmp_eq.mpr (eq64.mpr (by rw [m]; omega))), fJ9_floorDiv_f86c9_27, if_pos (Or.inr q2)]
    · rw [if_neg (fun z => by have := eq64.mp (cmp_eq.mp z); rw [m] at this; omega), if_neg (by omega)]
theorem downR (hb : 0 < b.toInt) (h1 : -4611686018427387904 < a.toInt) (h2 : a.toInt < 4611686018427387904) : fX11_down a b σ = some (fdv a b, σ) := by
  obtain ⟨e, m, s⟩ := dv64 hb h1 h2
  have b0 : 0 ≤ lg_cmp b 0 := cmp_ge0.mpr (le64.mpr (by rw [z64]; omega))
  rw [(fdv_I hb h1 h2).2, fX11_down, gg_t (nz64 hb), bnd_r, gg_t (nz64 hb)]
  by_cases q2 : a.toInt.tmod b.toInt = 0
  · rw [if_pos (cmp_eq.mpr (eq64.mpr (by rw [s, z64]; exact q2))), fX11_down_45, fX11_down_47, if_pos (Or.inr q2)]
  · rw [if_neg (fun z => by have := eq64.mp (cmp_eq.mp z); rw [s, z64] at this; exact q2 this)]
    by_cases q : 0 ≤ a.toInt
    · rw [if_pos (cmp_ge0.mpr (le64.mpr (by rw [z64]; exact q))), fX11_down_24, if_pos b0, fX11_down_35, if_pos rfl, fX11_down_45, fX11_down_47, if_pos (Or.inl q)]
    · rw [if_neg (fun z => by have := le64.mp (cmp_ge0.mp z); rw [z64] at this; exact q this), fX11_down_24, if_pos b0, fX11_down_35, if_neg (by decide), fX11_down_47, if_neg (by omega)]
end FLR
/-- by 64, of an int -/
theorem floor32 {σ : gS} {a : Int32} (h1 : -1073741824 < a.toInt) (h2 : a.toInt < 1073741824) : ∃ r : Int32, fJ9_floorDiv_7cf53 a 64 σ = some (r, σ) ∧ r.toInt = a.toInt / 64 := by
  have b64 : (64 : Int32).toInt = 64 := rfl
  have n : (a.toInt.tdiv 64).natAbs ≤ a.toInt.natAbs := Int.natAbs_tdiv_le_natAbs _ _
  have e : (a / 64).toInt = a.toInt.tdiv 64 := by
    rw [Int32.toInt_div, b64]
    exact Int.bmod_eq_of_le (by omega) (by omega)
  have t := Int.tdiv_mul_add_tmod a.toInt 64
  have l := Int.lt_tmod_of_pos a.toInt (show (0 : Int) < 64 by decide)
  have u := Int.tmod_lt_of_pos a.toInt (show (0 : Int) < 64 by decide)
  have m : (a / 64 * 64).toInt = a.toInt.tdiv 64 * 64 := by
    rw [mul32 (by rw [e, b64]; omega) (by rw [e, b64]; omega), e, b64]
  rw [fJ9_floorDiv_7cf53, gg_t (by decide), bnd_r]
  by_cases q : 0 ≤ a.toInt
  · rw [if_pos (xor32.mpr (by rw [b64]; omega)), fJ9_floorDiv_7cf53_21]
    exact ⟨_, rfl, by rw [e, fl_0 (by decide) (Int.tmod_nonneg _ q)]⟩
  · rw [if_neg (fun z => by have := xor32.mp z; rw [b64] at this; omega)]
    have tn := tmod_n (a := a.toInt) (b := 64) (by omega)
    by_cases q2 : a.toInt.tmod 64 = 0
    · rw [if_pos (eq32.mpr (by rw [m]; omega)), fJ9_floorDiv_7cf53_21]
      exact ⟨_, rfl, by rw [e, fl_0 (by decide) (by omega)]⟩
    · rw [if_neg (fun z => by have := eq32.mp z; rw [m] at this; omega)]
      refine ⟨_, rfl, ?_⟩
      rw [fl_1 (by decide) (by omega), sub32 (by rw [e, show (1 : Int32).toInt = 1 from rfl]; omega) (by rw [e, show (1 : Int32).toInt = 1 from rfl]; omega), e]
      rfl
theorem shl64 {a : Nat} {s : Int64} (k : Nat) (hs : (s.toBitVec.smod 64).toNat = k) (h : a * 2 ^ k < 2 ^ 64) : lN a <<< s = lN (a * 2 ^ k) := by
  have h2 : a ≤ a * 2 ^ k := Nat.le_mul_of_pos_right a (Nat.two_pow_pos k)
  apply Int64.toBitVec_inj.mp
  apply BitVec.eq_of_toNat_eq
  show (BitVec.ofNat 64 a <<< (s.toBitVec.smod 64)).toNat = (BitVec.ofNat 64 (a * 2 ^ k)).toNat
  rw [BitVec.shiftLeft_eq', hs, BitVec.toNat_shiftLeft, BitVec.toNat_ofNat, BitVec.toNat_ofNat, Nat.shiftLeft_eq, Nat.mod_eq_of_lt (show a < 2 ^ 64 by omega)]
theorem shl_1 {a : Nat} (h : a < 2 ^ 63) : lN a <<< ((1 : Int32).toInt64 &&& 63) = lN (2 * a) := by
  rw [shl64 1 (by decide) (by omega), Nat.mul_comm]
theorem shl_20 {a : Nat} (h : a < 2 ^ 40) : lN a <<< ((20 : Int32).toInt64 &&& 63) = lN (1048576 * a) := by
  rw [shl64 20 (by decide) (by omega), Nat.mul_comm]
theorem dbl_dm {x d : Nat} (hd : 0 < d) : (2 * (x % d) < d → 2 * x / d = 2 * (x / d) ∧ 2 * x % d = 2 * (x % d)) ∧ (¬ 2 * (x % d) < d → 2 * x / d = 2 * (x / d) + 1 ∧ 2 * x % d = 2 * (x % d) - d) := by
  have e := Nat.div_add_mod x d
  have l := Nat.mod_lt x hd
  constructor
  · intro h
    have : 2 * x = 2 * (x % d) + d * (2 * (x / d)) := by rw [Nat.mul_left_comm]; omega
    rw [this, Nat.add_mul_div_left _ _ hd, Nat.add_mul_mod_self_left, Nat.div_eq_of_lt h, Nat.mod_eq_of_lt h]
    omega
  · intro h
    have : 2 * x = (2 * (x % d) - d) + d * (2 * (x / d) + 1) := by rw [Nat.mul_add, Nat.mul_left_comm, Nat.mul_one]; omega
    have h2 : 2 * (x % d) - d < d := by omega
    rw [this, Nat.add_mul_div_left _ _ hd, Nat.add_mul_mod_self_left, Nat.div_eq_of_lt h2, Nat.mod_eq_of_lt h2]
    omega
theorem hun_dm {x d : Nat} (hd : 0 < d) : 256 * x / d = 256 * (x / d) + 256 * (x % d) / d ∧ 256 * x % d = 256 * (x % d) % d := by
  have e := Nat.div_add_mod x d
  have : 256 * x = 256 * (x % d) + d * (256 * (x / d)) := by rw [Nat.mul_left_comm]; omega
  rw [this, Nat.add_mul_div_left _ _ hd, Nat.add_mul_mod_self_left]
  refine ⟨by omega, rfl⟩
section HQ
variable {σ : gS} {p d : Nat}
theorem hqR (hp : p < 2 ^ 43) (h0 : 2 ^ 20 ≤ d) (hd : d < 2 ^ 55) : fX11_highQuotient (lN p) (lN d) σ = some (lN (2 ^ 32 * p / d), σ) := by
  have nz : ¬ lN d = 0 := lN_nz (by omega) (by omega)
  have key : ∀ (m i fu x : Nat), i + m = 32 → m < fu → x = 2 ^ i * p → fX11_highQuotient_13 (lN p) (lN d) fu (lN (x / d)) (lN (x % d)) (nI i) σ = some (lN (2 ^ m * x / d), σ) := by
    intro m
    induction m with
    | zero =>
      intro i fu x e hf hx
      obtain ⟨fu, rfl⟩ : ∃ y, fu = y + 1 := ⟨fu - 1, by omega⟩
      rw [fX11_highQuotient_13, if_pos (show 32 ≤ nI i from nI_le (a := 32) (by omega) (by omega)), Nat.pow_zero, Nat.one_mul]
    | succ m ih =>
      intro i fu x e hf hx
      obtain ⟨fu, rfl⟩ : ∃ y, fu = y + 1 := ⟨fu - 1, by omega⟩
      have lt := Nat.mod_lt x (show 0 < d by omega)
      have pi : 2 ^ i ≤ 2 ^ 31 := Nat.pow_le_pow_right (by decide) (by omega)
      have xb : x ≤ 2 ^ 31 * p := by rw [hx]; exact Nat.mul_le_mul_right _ pi
      have xd : x / d ≤ x / 2 ^ 20 := Nat.div_le_div_left h0 (by decide)
      have xe : x / d < 2 ^ 55 := by omega
      rw [fX11_highQuotient_13, if_neg (show ¬ 32 ≤ nI i from nI_ge (b := 32) (by omega) (by decide)), bnd_r, bnd_r, shl_1 (by omega), shl_1 (by omega)]
      obtain ⟨d1, d2⟩ := dbl_dm (x := x) (d := d) (by omega)
      have nx : 2 * x = 2 ^ (i + 1) * p := by rw [hx, Nat.pow_succ, Nat.mul_comm (2 ^ i) 2, Nat.mul_assoc]
      have fin : 2 ^ (m + 1) * x = 2 ^ m * (2 * x) := by rw [Nat.pow_succ, Nat.mul_assoc]
      by_cases q : 2 * (x % d) < d
      · obtain ⟨q1, q2⟩ := d1 q
        rw [if_pos (cmp_lt.mpr ((pk_lLT (by omega) (by omega)).mpr q)), fX11_highQuotient_51, bnd_r, nI_1, ← q1, ← q2, fin]
        exact ih (i + 1) fu (2 * x) (by omega) (by omega) nx
      · obtain ⟨q1, q2⟩ := d2 q
        rw [if_neg (fun z => q ((pk_lLT (by omega) (by omega)).mp (cmp_lt.mp z))), bnd_r, bnd_r, fX11_highQuotient_51, bnd_r, nI_1, lN_sub (by omega), lN_1, ← q1, ← q2, fin]
        exact ih (i + 1) fu (2 * x) (by omega) (by omega) nx
  rw [fX11_highQuotient, gg_t nz, bnd_r, gg_t nz, bnd_r, pk_lRem (by omega) (by omega) (by omega), pk_lDiv (by omega) (by omega) (by omega)]
  exact key 32 0 2000 p (by omega) (by omega) (by omega)
theorem hqC (hp : p < 2 ^ 43) (h0 : 2 ^ 20 ≤ d) (hd : d < 2 ^ 55) : fX9_squareScaled (lN p) (lN d) σ = some (lN (2 ^ 32 * p / d), σ) := by
  have nz : ¬ lN d = 0 := lN_nz (by omega) (by omega)
  have key : ∀ (m i fu x : Nat), i + m = 4 → m < fu → x = 256 ^ i * p → fX9_squareScaled_21 (lN p) (lN d) fu (lN (x / d)) (lN (x % d)) (nI i) σ = some (lN (256 ^ m * x / d), σ) := by
    intro m
    induction m with
    | zero =>
      intro i fu x e hf hx
      obtain ⟨fu, rfl⟩ : ∃ y, fu = y + 1 := ⟨fu - 1, by omega⟩
      rw [fX9_squareScaled_21, if_pos (show 4 ≤ nI i from nI_le (a := 4) (by omega) (by omega)), Nat.pow_zero, Nat.one_mul]
    | succ m ih =>
      intro i fu x e hf hx
      obtain ⟨fu, rfl⟩ : ∃ y, fu = y + 1 := ⟨fu - 1, by omega⟩
      have lt := Nat.mod_lt x (show 0 < d by omega)
      rw [fX9_squareScaled_21, if_neg (show ¬ 4 ≤ nI i from nI_ge (b := 4) (by omega) (by decide)), bnd_r, gg_t nz, bnd_r, gg_t nz, bnd_r, bnd_r, nI_1]
      obtain ⟨d1, d2⟩ := hun_dm (x := x) (d := d) (by omega)
      have nx : 256 * x = 256 ^ (i + 1) * p := by rw [hx, Nat.pow_succ, Nat.mul_comm (256 ^ i) 256, Nat.mul_assoc]
      have fin : 256 ^ (m + 1) * x = 256 ^ m * (256 * x) := by rw [Nat.pow_succ, Nat.mul_assoc]
      rw [show lN (x % d) * 256 = lN (256 * (x % d)) from by rw [show (256 : Int64) = lN 256 from rfl, lN_mul, Nat.mul_comm], pk_lRem (by omega) (by omega) (by omega), pk_lDiv (by omega) (by omega) (by omega), show 256 * lN (x / d) = lN (256 * (x / d)) from by rw [show (256 : Int64) = lN 256 from rfl, lN_mul], lN_add, ← d1, ← d2, fin]
      exact ih (i + 1) fu (256 * x) (by omega) (by omega) nx
  rw [fX9_squareScaled, if_pos (show 0 < lg_cmp (lN d) 0 from cmp_gt.mpr ((pk_lLT (a := 0) (by decide) (by omega)).mpr (by omega))), gg_t nz, bnd_r, gg_t nz, bnd_r, pk_lRem (by omega) (by omega) (by omega), pk_lDiv (by omega) (by omega) (by omega)]
  exact key 4 0 2000 p (by omega) (by omega) (by omega)
end HQ
noncomputable def rtN (n : Nat) : Nat := Classical.choose (isR_ex n)
theorem rtN_R (n : Nat) : isR n (rtN n) := Classical.choose_spec (isR_ex n)
theorem mulN {a b : Int} {A B : Nat} (ha : a.natAbs ≤ A) (hb : b.natAbs ≤ B) : (a * b).natAbs ≤ A * B := by
  rw [Int.natAbs_mul]
  exact Nat.mul_le_mul ha hb
theorem lagr (a b w z : Int) : (a * w - b * z) * (a * w - b * z) + (a * z + b * w) * (a * z + b * w) = (a * a + b * b) * (w * w + z * z) := by grind
theorem sq_lt {t : Int} {K : Nat} (h : t * t ≤ (K : Int) * K) : t.natAbs ≤ K := by
  refine Nat.le_of_not_lt fun z => ?_
  have a := Nat.mul_lt_mul'' z z
  have b := Int.natAbs_mul_self (a := t)
  have c : ((K * K : Nat) : Int) = (K : Int) * K := Int.natCast_mul K K
  omega

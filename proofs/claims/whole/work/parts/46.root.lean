/-! ROOTS: both find the greatest r with r r ≤ n -/
def isR (n r : Nat) : Prop := r * r ≤ n ∧ n < (r + 1) * (r + 1)
theorem isR_u {n r q : Nat} (h1 : isR n r) (h2 : isR n q) : r = q := by
  rcases Nat.lt_trichotomy r q with h | h | h
  · have := Nat.mul_le_mul (show r + 1 ≤ q from h) (show r + 1 ≤ q from h)
    have a := h1.2; have b := h2.1
    omega
  · exact h
  · have := Nat.mul_le_mul (show q + 1 ≤ r from h) (show q + 1 ≤ r from h)
    have a := h2.2; have b := h1.1
    omega
theorem isR_ex : ∀ n : Nat, ∃ r, isR n r
  | 0 => ⟨0, by unfold isR; decide⟩
  | n + 1 => by
    obtain ⟨r, h1, h2⟩ := isR_ex n
    by_cases h : n + 1 < (r + 1) * (r + 1)
    · exact ⟨r, by omega, h⟩
    · refine ⟨r + 1, by omega, ?_⟩
      have := Nat.mul_lt_mul_of_lt_of_le (show r + 1 < r + 1 + 1 by omega) (show r + 1 ≤ r + 1 + 1 by omega) (by omega)
      omega
theorem am {s g : Nat} (h : g ≤ 2 * s) : (2 * s - g) * g ≤ s * s := by
  rcases Nat.le_total g s with q | q
  · obtain ⟨e, rfl⟩ := Nat.exists_eq_add_of_le q
    rw [show 2 * (g + e) - g = g + 2 * e by omega]
    simp only [Nat.add_mul, Nat.mul_add, Nat.mul_assoc, Nat.mul_comm e g]
    omega
  · obtain ⟨e, rfl⟩ := Nat.exists_eq_add_of_le q
    obtain ⟨f, rfl⟩ : ∃ f, s = e + f := ⟨s - e, by omega⟩
    rw [show 2 * (e + f) - (e + f + e) = f by omega]
    simp only [Nat.add_mul, Nat.mul_add, Nat.mul_assoc, Nat.mul_comm f e]
    omega
/-- Newton's step: not below the root; nearer to it by half -/
theorem nw_ge {n s g : Nat} (h : isR n s) (hg : 0 < g) : s ≤ (g + n / g) / 2 := by
  have : 2 * s ≤ g + n / g := by
    rcases Nat.lt_or_ge (2 * s) g with q | q
    · generalize n / g = c
      omega
    · have a : 2 * s - g ≤ n / g := (Nat.le_div_iff_mul_le hg).mpr (Nat.le_trans (am q) h.1)
      omega
  omega
theorem nw_le {n s g : Nat} (h : isR n s) (hg : s < g) : n / g ≤ s := by
  have : n / g < s + 1 := Nat.div_lt_of_lt_mul (Nat.lt_of_lt_of_le h.2 (Nat.mul_le_mul (show s + 1 ≤ g from hg) (Nat.le_refl _)))
  omega
theorem newton {n s : Nat} (hn : n < 2 ^ 60) (hs : isR n s) (h0 : 0 < s) : ∀ (k f i g : Nat) (σ : gS), s ≤ g → g - s < 2 ^ k → g ≤ 2 ^ 31 → i + k < 64 → k + 1 < f → fX10_rootDown_43 (lN n) f (lN g) (nI i) σ = some (lN s, σ) := by
  intro k
  induction k with
  | zero =>
    intro f i g σ h1 h2 h3 h4 h5
    obtain ⟨f, rfl⟩ : ∃ x, f = x + 1 := ⟨f - 1, by omega⟩
    have : g = s := by omega
    subst this
    have hq : n / g ≤ n := Nat.div_le_self _ _
    have ge := nw_ge hs h0
    rw [fX10_rootDown_43, if_neg (show ¬ (64 : Int32) ≤ nI i from nI_ge (b := 64) (by omega) (by decide)), gg_t (show ¬ lN g = 0 from fun z => by have := (pk_lEQ (a := g) (b := 0) (by omega) (by decide)).mp z; omega), pk_lDiv (by omega) h0 (by omega), lN_add, show (2 : Int64) = lN 2 from rfl, pk_lDiv (by omega) (by decide) (by decide), bnd_r, if_neg (fun z => by have := (pk_lLT (by omega) (by omega)).mp (cmp_lt.mp z); omega), fX10_rootDown_80]
  | succ k ih =>
    intro f i g σ h1 h2 h3 h4 h5
    obtain ⟨f, rfl⟩ : ∃ x, f = x + 1 := ⟨f - 1, by omega⟩
    have hg : 0 < g := by omega
    have hq : n / g ≤ n := Nat.div_le_self _ _
    have ge := nw_ge hs hg
    rw [fX10_rootDown_43, if_neg (show ¬ (64 : Int32) ≤ nI i from nI_ge (b := 64) (by omega) (by decide)), gg_t (show ¬ lN g = 0 from fun z => by have := (pk_lEQ (a := g) (b := 0) (by omega) (by decide)).mp z; omega), pk_lDiv (by omega) hg (by omega), lN_add, show (2 : Int64) = lN 2 from rfl, pk_lDiv (by omega) (by decide) (by decide), bnd_r]
    by_cases hlt : (g + n / g) / 2 < g
    · have hgs : s < g := by
        rcases Nat.lt_or_ge s g with q | q
        · exact q
        · have : g = s := by omega
          omega
      have hd := nw_le hs hgs
      rw [Nat.pow_succ] at h2
      rw [if_pos (cmp_lt.mpr ((pk_lLT (by omega) (by omega)).mpr hlt)), bnd_r, nI_1]
      exact ih f (i + 1) _ σ ge (by omega) (by omega) (by omega) (by omega)
    · have hgs : g = s := by
        rcases Nat.lt_or_ge s g with q | q
        · have hd := nw_le hs q
          omega
        · omega
      rw [if_neg (fun z => hlt ((pk_lLT (by omega) (by omega)).mp (cmp_lt.mp z))), fX10_rootDown_80, hgs]
theorem cmp_ge0 {x y : Int64} : 0 ≤ lg_cmp x y ↔ y ≤ x := by
  constructor
  · intro h
    refine le64.mpr ?_
    rcases Int.lt_or_le x.toInt y.toInt with q | q
    · have := cmp_lt.mpr (lt64.mpr q)
      have a := lt32.mp this
      have b := le32.mp h
      omega
    · exact q
  · intro h
    refine le32.mpr ?_
    rcases Int.lt_or_le (lg_cmp x y).toInt 0 with q | q
    · have := lt64.mp (cmp_lt.mp (lt32.mpr q))
      have b := le64.mp h
      omega
    · exact q
theorem dbl {n s : Nat} (hn : n < 2 ^ 60) (hs : isR n s) (h0 : 0 < s) : ∀ (k f i : Nat) (σ : gS), i + k = 30 → k < f → fX10_rootDown_13 (lN n) f (lN (2 ^ i)) (nI i) σ = some (lN s, σ) := by
  have fin : ∀ (g : Nat) (σ : gS), s ≤ g → g ≤ 2 ^ 30 → fX10_rootDown_40 (lN n) (lN g) σ = some (lN s, σ) := fun g σ h1 h2 => by
    rw [fX10_rootDown_40]
    exact newton hn hs h0 31 2000 0 g σ h1 (by omega) (by omega) (by omega) (by omega)
  have s30 : s < 2 ^ 30 := by
    rcases Nat.lt_or_ge s (2 ^ 30) with q | q
    · exact q
    · have a := Nat.mul_le_mul q q
      have b := hs.1
      omega
  intro k
  induction k with
  | zero =>
    intro f i σ hi hf
    obtain ⟨f, rfl⟩ : ∃ x, f = x + 1 := ⟨f - 1, by omega⟩
    have : i = 30 := by omega
    subst this
    rw [fX10_rootDown_13, if_pos (show (30 : Int32) ≤ nI 30 from nI_le (a := 30) (b := 30) (Nat.le_refl _) (by decide))]
    exact fin _ σ (by omega) (Nat.le_refl _)
  | succ k ih =>
    intro f i σ hi hf
    obtain ⟨f, rfl⟩ : ∃ x, f = x + 1 := ⟨f - 1, by omega⟩
    have p1 : 2 ^ i ≤ 2 ^ 29 := Nat.pow_le_pow_right (by decide) (by omega)
    have p2 : 2 ^ i * 2 ^ i ≤ 2 ^ 29 * 2 ^ 29 := Nat.mul_le_mul p1 p1
    rw [fX10_rootDown_13, if_neg (show ¬ (30 : Int32) ≤ nI i from nI_ge (b := 30) (by omega) (by decide)), lN_mul]
    by_cases h : n ≤ 2 ^ i * 2 ^ i
    · rw [if_pos (cmp_ge0.mpr ((pk_lLE (by omega) (by omega)).mpr h))]
      refine fin _ σ ?_ (by omega)
      rcases Nat.lt_or_ge (2 ^ i) s with q | q
      · have a := Nat.mul_lt_mul_of_lt_of_le q (Nat.le_of_lt q) h0
        have b := hs.1
        omega
      · exact q
    · rw [if_neg (fun z => h ((pk_lLE (by omega) (by omega)).mp (cmp_ge0.mp z))), show (2 : Int64) = lN 2 from rfl, lN_mul, bnd_r, bnd_r, nI_1, ← Nat.pow_succ]
      exact ih f (i + 1) σ (by omega) (by omega)
theorem rootC {n s : Nat} (hn : n < 2 ^ 60) (hs : isR n s) (σ : gS) : fX10_rootDown (lN n) σ = some (lN s, σ) := by
  rw [fX10_rootDown]
  by_cases h : 0 < n
  · have h0 : 0 < s := by
      rcases Nat.eq_zero_or_pos s with q | q
      · subst q
        have := hs.2
        omega
      · exact q
    rw [if_pos (show 0 < lg_cmp (lN n) 0 from cmp_gt.mpr ((pk_lLT (a := 0) (b := n) (by decide) (by omega)).mpr h))]
    exact dbl hn hs h0 30 2000 0 σ (by omega) (by omega)
  · have e : n = 0 := by omega
    subst e
    have : s = 0 := isR_u hs (show isR 0 0 by unfold isR; decide)
    subst this
    rw [if_neg (by decide)]
    rfl
theorem shr1 : (List.range 31).all (fun j => decide (lN (2 ^ (j + 1)) >>> ((1 : Int32).toInt64 &&& 63) = lN (2 ^ j))) = true := by decide +kernel
theorem rootL {v s : Nat} (hv : v < 2 ^ 62) (hs : isR v s) : ∀ (k f r : Nat) (σ : gS), k ≤ 31 → k + 2 < f → r * r ≤ v → v < (r + 2 * 2 ^ k) * (r + 2 * 2 ^ k) → r + 2 * 2 ^ k ≤ 2 ^ 32 → fX11_root_7 (lN v) f (lN r) (lN (2 ^ k)) σ = some (lN s, σ) := by
  have s31 : s < 2 ^ 31 := by
    rcases Nat.lt_or_ge s (2 ^ 31) with q | q
    · exact q
    · have a := Nat.mul_le_mul q q
      have b := hs.1
      omega
  intro k
  induction k with
  | zero =>
    intro f r σ hk hf h1 h2 h3
    obtain ⟨f, rfl⟩ : ∃ x, f = x + 1 + 1 := ⟨f - 2, by omega⟩
    have last : ∀ q : Nat, isR v q → fX11_root_7 (lN v) (f + 1) (lN q) (lN 0) σ = some (lN s, σ) := fun q hq => by
      rw [fX11_root_7, if_pos (by decide), isR_u hq hs]
    have sh : lN (2 ^ 0) >>> ((1 : Int32).toInt64 &&& 63) = lN 0 := by decide
    rw [fX11_root_7, if_neg (by decide), lN_add, bnd_r]
    rw [Nat.pow_zero] at h2 h3 ⊢
    have rr : r + 1 ≤ 2 ^ 31 := by
      rcases Nat.lt_or_ge r (2 ^ 31) with q | q
      · exact q
      · have a := Nat.mul_le_mul q q
        omega
    rw [if_neg (fun z => by have := (pk_lLT (a := 3037000499) (b := r + 1) (by decide) (by omega)).mp (cmp_gt.mp z); omega), lN_mul]
    have bb : (r + 1) * (r + 1) ≤ 2 ^ 31 * 2 ^ 31 := Nat.mul_le_mul rr rr
    by_cases h : v < (r + 1) * (r + 1)
    · rw [if_pos (cmp_gt.mpr ((pk_lLT (by omega) (by omega)).mpr h)), fX11_root_44, fX11_root_45]
      have : lN 1 >>> ((1 : Int32).toInt64 &&& 63) = lN 0 := by decide
      rw [this, bnd_r]
      exact last r ⟨h1, h⟩
    · rw [if_neg (fun z => h ((pk_lLT (by omega) (by omega)).mp (cmp_gt.mp z))), fX11_root_45]
      have : lN 1 >>> ((1 : Int32).toInt64 &&& 63) = lN 0 := by decide
      rw [this, bnd_r]
      exact last (r + 1) ⟨by omega, by rw [show r + 1 + 1 = r + 2 * 1 by omega]; exact h2⟩
  | succ k ih =>
    intro f r σ hk hf h1 h2 h3
    obtain ⟨f, rfl⟩ : ∃ x, f = x + 1 := ⟨f - 1, by omega⟩
    have pk : 2 ^ (k + 1) = 2 * 2 ^ k := by rw [Nat.pow_succ]; omega
    have pl : 2 ^ (k + 1) ≤ 2 ^ 31 := Nat.pow_le_pow_right (by decide) hk
    have p0 : 0 < 2 ^ k := Nat.pow_pos (by decide)
    have sh : lN (2 ^ (k + 1)) >>> ((1 : Int32).toInt64 &&& 63) = lN (2 ^ k) := of_decide_eq_true (List.all_eq_true.mp shr1 k (List.mem_range.mpr (by omega)))
    rw [fX11_root_7, if_neg (fun z => by
      have a := mt cmp_gt.mpr (Int32.not_lt.mpr z)
      exact a ((pk_lLT (a := 0) (b := 2 ^ (k + 1)) (by decide) (by omega)).mpr (by omega))), lN_add, bnd_r]
    by_cases hb : 3037000499 < r + 2 ^ (k + 1)
    · rw [if_pos (show 0 < lg_cmp (lN (r + 2 ^ (k + 1))) 3037000499 from cmp_gt.mpr ((pk_lLT (a := 3037000499) (b := r + 2 ^ (k + 1)) (by decide) (by omega)).mpr hb)), fX11_root_44, fX11_root_45, sh, bnd_r]
      have big := Nat.mul_le_mul (show 3037000500 ≤ r + 2 * 2 ^ k by omega) (show 3037000500 ≤ r + 2 * 2 ^ k by omega)
      exact ih f r σ (by omega) (by omega) h1 (by omega) (by omega)
    · rw [if_neg (show ¬ 0 < lg_cmp (lN (r + 2 ^ (k + 1))) 3037000499 from fun z => hb ((pk_lLT (a := 3037000499) (b := r + 2 ^ (k + 1)) (by decide) (by omega)).mp (cmp_gt.mp z))), lN_mul]
      have bb : (r + 2 ^ (k + 1)) * (r + 2 ^ (k + 1)) ≤ 3037000499 * 3037000499 := Nat.mul_le_mul (by omega) (by omega)
      by_cases h : v < (r + 2 ^ (k + 1)) * (r + 2 ^ (k + 1))
      · rw [if_pos (cmp_gt.mpr ((pk_lLT (by omega) (by omega)).mpr h)), fX11_root_44, fX11_root_45, sh, bnd_r]
        rw [pk] at h
        exact ih f r σ (by omega) (by omega) h1 h (by omega)
      · rw [if_neg (fun z => h ((pk_lLT (by omega) (by omega)).mp (cmp_gt.mp z))), fX11_root_45, sh, bnd_r]
        rw [pk] at h2 h3
        exact ih f (r + 2 ^ (k + 1)) σ (by omega) (by omega) (by omega) (by rw [pk, show r + 2 * 2 ^ k + 2 * 2 ^ k = r + 2 * (2 * 2 ^ k) by omega]; exact h2) (by rw [pk]; omega)
theorem rootM {v s : Nat} (hv : v < 2 ^ 62) (hs : isR v s) (σ : gS) : fX11_root (lN v) σ = some (lN s, σ) := by
  rw [fX11_root]
  exact rootL hv hs 31 2000 0 σ (by omega) (by omega) (by omega) (by omega) (by omega)

/-! FOUR BARS -/
theorem maxE {a b : Nat} (ha : a < 2 ^ 31) (hb : b < 2 ^ 31) (σ : gS) : fJ9_max_7cf53 (nI a) (nI b) σ = some (nI (max a b), σ) := by
  unfold fJ9_max_7cf53 fJ9_max_7cf53_10
  by_cases h : a < b
  · rw [if_pos ((nI_ltI ha hb).mpr h), Nat.max_eq_right (by omega)]
  · rw [if_neg (mt (nI_ltI ha hb).mp h), Nat.max_eq_left (by omega)]
theorem minE {a b : Nat} (ha : a < 2 ^ 31) (hb : b < 2 ^ 31) (σ : gS) : fJ9_min_7cf53 (nI a) (nI b) σ = some (nI (min a b), σ) := by
  unfold fJ9_min_7cf53 fJ9_min_7cf53_10
  by_cases h : b < a
  · rw [if_pos ((nI_ltI hb ha).mpr h), Nat.min_eq_right (by omega)]
  · rw [if_neg (mt (nI_ltI hb ha).mp h), Nat.min_eq_left (by omega)]
theorem isLenC (p : Int32) (σ : gS) : fX10_isLength p σ = some (if 1 ≤ p.toInt ∧ p.toInt ≤ 10000 then 1 else 0, σ) := by
  have e1 : (1 : Int32).toInt = 1 := rfl
  have e2 : (10000 : Int32).toInt = 10000 := rfl
  unfold fX10_isLength fX10_isLength_16 fX10_isLength_17
  by_cases h1 : p < 1
  · have := lt32.mp h1
    rw [e1] at this
    rw [if_pos h1, if_neg (show ¬ (1 ≤ p.toInt ∧ p.toInt ≤ 10000) by omega)]
    rfl
  · have a1 := mt lt32.mpr h1
    rw [e1] at a1
    rw [if_neg h1]
    by_cases h2 : 10000 < p
    · have := lt32.mp h2
      rw [e2] at this
      rw [if_pos h2, if_neg (show ¬ (1 ≤ p.toInt ∧ p.toInt ≤ 10000) by omega)]
      rfl
    · have a2 := mt lt32.mpr h2
      rw [e2] at a2
      rw [if_neg h2, if_pos (show (1 ≤ p.toInt ∧ p.toInt ≤ 10000) by omega)]
      rfl
theorem isLenM (p : Int32) (σ : gS) : fX11_in p.toInt64 1 10000 σ = some (if 1 ≤ p.toInt ∧ p.toInt ≤ 10000 then 1 else 0, σ) := by
  have e1 : (1 : Int64).toInt = 1 := rfl
  have e2 : (10000 : Int64).toInt = 10000 := rfl
  by_cases h : 1 ≤ p.toInt ∧ p.toInt ≤ 10000
  · rw [in_t (by rw [l32, e1, e2]; exact h), if_pos h]
  · rw [in_f (by rw [l32, e1, e2]; exact h), if_neg h]
/-- the judgement, by the sum, the longest, the shortest -/
def fbV (a b c S L s : Nat) : Int32 := if 2 * L < S then (if 2 * (L + s) < S then (if s = a then 3 else if s = b then 4 else if s = c then 5 else 6) else if 2 * (L + s) = S then 2 else 1) else 0
theorem fb144 {a b c d S L s : Nat} (ha : a < 20000) (hb : b < 20000) (hc : c < 20000) (hS : S < 100000) (hL : L < 20000) (hs : s < 20000) (σ : gS) : fX11_fourBars_144 (nI a) (nI b) (nI c) (nI d) (nI S) (nI L) (nI s) σ = some (fbV a b c S L s, σ) := by
  have m1 : (2 : Int32) * nI L = nI (2 * L) := by rw [show (2 : Int32) = nI 2 from rfl, pk_mul]
  have m2 : (2 : Int32) * (nI L + nI s) = nI (2 * (L + s)) := by rw [nI_add, show (2 : Int32) = nI 2 from rfl, pk_mul]
  unfold fX11_fourBars_144 fX11_fourBars_219 fX11_fourBars_186 fbV
  rw [m1, m2]
  have k1 : nI (2 * L) < nI S ↔ 2 * L < S := nI_ltI (by omega) (by omega)
  have k2 : nI (2 * (L + s)) < nI S ↔ 2 * (L + s) < S := nI_ltI (by omega) (by omega)
  have k3 : nI (2 * (L + s)) = nI S ↔ 2 * (L + s) = S := nI_eq (by omega) (by omega)
  have k4 : nI a = nI s ↔ a = s := nI_eq (by omega) (by omega)
  have k5 : nI b = nI s ↔ b = s := nI_eq (by omega) (by omega)
  have k6 : nI c = nI s ↔ c = s := nI_eq (by omega) (by omega)
  simp only [k1, k2, k3, k4, k5, k6, eq_comm (a := s)]
  by_cases h1 : 2 * L < S
  · rw [if_pos h1, if_pos h1]
    by_cases h2 : 2 * (L + s) < S
    · rw [if_pos h2, if_pos h2]
      by_cases h3 : a = s
      · rw [if_pos h3, if_pos h3]
      · rw [if_neg h3, if_neg h3]
        by_cases h4 : b = s
        · rw [if_pos h4, if_pos h4]
        · rw [if_neg h4, if_neg h4]
          by_cases h5 : c = s
          · rw [if_pos h5, if_pos h5]
          · rw [if_neg h5, if_neg h5]
    · rw [if_neg h2, if_neg h2]
      by_cases h3 : 2 * (L + s) = S
      · rw [if_pos h3, if_pos h3]
      · rw [if_neg h3, if_neg h3]
  · rw [if_neg h1, if_neg h1]
theorem fbMax {a b c d S m : Nat} (ha : a < 20000) (hb : b < 20000) (hc : c < 20000) (hd : d < 20000) (hS : S < 100000) (hm : m < 20000) (σ : gS) : fX11_fourBars_72 (nI a) (nI b) (nI c) (nI d) (nI S) (nI m) σ = some (fbV a b c S (max (max m c) d) (min (min (min a b) c) d), σ) := by
  have s1 : ∀ L s : Nat, L < 20000 → s < 20000 → fX11_fourBars_128 (nI a) (nI b) (nI c) (nI d) (nI S) (nI L) (nI s) σ = some (fbV a b c S L (min s d), σ) := fun L s hL hs => by
    unfold fX11_fourBars_128
    by_cases h : s ≤ d
    · rw [if_pos ((nI_leI (by omega) (by omega)).mpr h), fb144 ha hb hc hS hL hs, Nat.min_eq_left h]
    · rw [if_neg (mt (nI_leI (by omega) (by omega)).mp h), fb144 ha hb hc hS hL hd, Nat.min_eq_right (by omega)]
  have s2 : ∀ L s : Nat, L < 20000 → s < 20000 → fX11_fourBars_114 (nI a) (nI b) (nI c) (nI d) (nI S) (nI L) (nI s) σ = some (fbV a b c S L (min (min s c) d), σ) := fun L s hL hs => by
    unfold fX11_fourBars_114
    by_cases h : s ≤ c
    · rw [if_pos ((nI_leI (by omega) (by omega)).mpr h), s1 L s hL hs, Nat.min_eq_left h]
    · rw [if_neg (mt (nI_leI (by omega) (by omega)).mp h), s1 L c hL hc, Nat.min_eq_right (a := s) (by omega)]
  have s3 : ∀ L : Nat, L < 20000 → fX11_fourBars_102 (nI a) (nI b) (nI c) (nI d) (nI S) (nI L) σ = some (fbV a b c S L (min (min (min a b) c) d), σ) := fun L hL => by
    unfold fX11_fourBars_102
    by_cases h : b ≤ a
    · rw [if_pos ((nI_leI (by omega) (by omega)).mpr h), s2 L b hL hb, Nat.min_eq_right h]
    · rw [if_neg (mt (nI_leI (by omega) (by omega)).mp h), s2 L a hL ha, Nat.min_eq_left (a := a) (b := b) (by omega)]
  have s4 : ∀ L : Nat, L < 20000 → fX11_fourBars_86 (nI a) (nI b) (nI c) (nI d) (nI S) (nI L) σ = some (fbV a b c S (max L d) (min (min (min a b) c) d), σ) := fun L hL => by
    unfold fX11_fourBars_86
    by_cases h : d ≤ L
    · rw [if_pos ((nI_leI (by omega) (by omega)).mpr h), s3 L hL, Nat.max_eq_left h]
    · rw [if_neg (mt (nI_leI (by omega) (by omega)).mp h), s3 d hd, Nat.max_eq_right (by omega)]
  unfold fX11_fourBars_72
  by_cases h : c ≤ m
  · rw [if_pos ((nI_leI (by omega) (by omega)).mpr h), s4 m hm, Nat.max_eq_left h]
  · rw [if_neg (mt (nI_leI (by omega) (by omega)).mp h), s4 c hc, Nat.max_eq_right (a := m) (by omega)]
theorem one_get {p : Int32} (h : 1 ≤ p.toInt ∧ p.toInt ≤ 10000) : ∃ k : Nat, 1 ≤ k ∧ k ≤ 10000 ∧ p = nI k := by
  obtain ⟨k, hk, rfl⟩ := nI_get (p := p) (n := 10001) (by omega) (by omega) (by decide)
  rw [nI_toInt (by omega)] at h
  exact ⟨k, by omega, by omega, rfl⟩
set_option maxRecDepth 10000 in
theorem four_eq (σ : gS) (p1 p2 p3 p4 : Int32) : Ok (fX10_fourBars p1 p2 p3 p4 σ) (fX11_fourBars p1 p2 p3 p4) (fun σ' => σ' = σ) := by
  have n10 : ¬ ((1 : Int32) = 0) := by decide
  by_cases h1 : 1 ≤ p1.toInt ∧ p1.toInt ≤ 10000
  · by_cases h2 : 1 ≤ p2.toInt ∧ p2.toInt ≤ 10000
    · by_cases h3 : 1 ≤ p3.toInt ∧ p3.toInt ≤ 10000
      · by_cases h4 : 1 ≤ p4.toInt ∧ p4.toInt ≤ 10000
        · obtain ⟨a, ha1, ha2, rfl⟩ := one_get h1
          obtain ⟨b, hb1, hb2, rfl⟩ := one_get h2
          obtain ⟨c, hc1, hc2, rfl⟩ := one_get h3
          obtain ⟨d, hd1, hd2, rfl⟩ := one_get h4
          refine Ok.mk (r := fbV a b c (a + b + c + d) (max (max (max a b) c) d) (min (min (min a b) c) d)) (r' := fbV a b c (a + b + c + d) (max (max (max a b) c) d) (min (min (min a b) c) d)) (σ1 := σ) (σ2 := σ) ?_ ?_ rfl rfl
          · have eL : max (max a b) (max c d) = max (max (max a b) c) d := by omega
            have eS : min (min a b) (min c d) = min (min (min a b) c) d := by omega
            rw [fX10_fourBars, isLenC, if_pos h1, bd_r, if_neg n10, isLenC, if_pos h2, bd_r, if_neg n10, isLenC, if_pos h3, bd_r, if_neg n10, isLenC, if_pos h4, bd_r, if_neg n10, bnd_r, nI_add, nI_add, nI_add, maxE (by omega) (by omega), bd_r, maxE (by omega) (by omega), bd_r, maxE (by omega) (by omega), bd_r, minE (by omega) (by omega), bd_r, minE (by omega) (by omega), bd_r, minE (by omega) (by omega), bd_r, bnd_r, eL, eS]
            generalize hL : max (max (max a b) c) d = L
            generalize hs : min (min (min a b) c) d = s
            have q1 : L ≤ a + b + c + d := by omega
            have q2 : s ≤ a + b + c + d - L := by omega
            rw [pk_sub q1, pk_sub q2, nI_add]
            have k1 : nI L < nI (a + b + c + d - L) ↔ 2 * L < a + b + c + d := (nI_ltI (by omega) (by omega)).trans (by omega)
            have k2 : nI (s + L) < nI (a + b + c + d - L - s) ↔ 2 * (L + s) < a + b + c + d := (nI_ltI (by omega) (by omega)).trans (by omega)
            have k3 : nI (s + L) ≤ nI (a + b + c + d - L - s) ↔ 2 * (L + s) ≤ a + b + c + d := (nI_leI (by omega) (by omega)).trans (by omega)
            have k4 : nI s = nI a ↔ s = a := nI_eq (by omega) (by omega)
            have k5 : nI s = nI b ↔ s = b := nI_eq (by omega) (by omega)
            have k6 : nI s = nI c ↔ s = c := nI_eq (by omega) (by omega)
            unfold fX10_fourBars_150 fX10_fourBars_121 fbV
            simp only [k1, k2, k3, k4, k5, k6]
            by_cases z1 : 2 * L < a + b + c + d
            · rw [if_pos z1, if_pos z1]
              by_cases z2 : 2 * (L + s) < a + b + c + d
              · rw [if_pos z2, if_pos z2]
                by_cases z3 : s = a
                · rw [if_pos z3, if_pos z3]
                · rw [if_neg z3, if_neg z3]
                  by_cases z4 : s = b
                  · rw [if_pos z4, if_pos z4]
                  · rw [if_neg z4, if_neg z4]
                    by_cases z5 : s = c
                    · rw [if_pos z5, if_pos z5]
                    · rw [if_neg z5, if_neg z5]
              · rw [if_neg z2, if_neg z2]
                by_cases z3 : 2 * (L + s) = a + b + c + d
                · rw [if_pos (show 2 * (L + s) ≤ a + b + c + d by omega), if_pos z3]
                · rw [if_neg (show ¬ 2 * (L + s) ≤ a + b + c + d by omega), if_neg z3]
            · rw [if_neg z1, if_neg z1]
          · rw [fX11_fourBars, isLenM, if_pos h1, bd_r, if_neg n10, isLenM, if_pos h2, bd_r, if_neg n10, isLenM, if_pos h3, bd_r, if_neg n10, isLenM, if_pos h4, bd_r, if_neg n10, bnd_r, nI_add, nI_add, nI_add]
            by_cases z : a ≤ b
            · rw [if_pos ((nI_leI (by omega) (by omega)).mpr z), fbMax (by omega) (by omega) (by omega) (by omega) (by omega) (by omega), Nat.max_eq_right z]
            · rw [if_neg (mt (nI_leI (by omega) (by omega)).mp z), fbMax (by omega) (by omega) (by omega) (by omega) (by omega) (by omega), Nat.max_eq_left (a := a) (b := b) (by omega)]
        · refine Ok.mk (r := -1000001) (r' := -1000001) (σ1 := σ) (σ2 := σ) ?_ ?_ rfl rfl
          · rw [fX10_fourBars, isLenC, if_pos h1, bd_r, if_neg n10, isLenC, if_pos h2, bd_r, if_neg n10, isLenC, if_pos h3, bd_r, if_neg n10, isLenC, if_neg h4, bd_r, if_pos rfl, fX10_fourBars_29]
          · rw [fX11_fourBars, isLenM, if_pos h1, bd_r, if_neg n10, isLenM, if_pos h2, bd_r, if_neg n10, isLenM, if_pos h3, bd_r, if_neg n10, isLenM, if_neg h4, bd_r, if_pos rfl, fX11_fourBars_49]
      · refine Ok.mk (r := -1000001) (r' := -1000001) (σ1 := σ) (σ2 := σ) ?_ ?_ rfl rfl
        · rw [fX10_fourBars, isLenC, if_pos h1, bd_r, if_neg n10, isLenC, if_pos h2, bd_r, if_neg n10, isLenC, if_neg h3, bd_r, if_pos rfl, fX10_fourBars_29]
        · rw [fX11_fourBars, isLenM, if_pos h1, bd_r, if_neg n10, isLenM, if_pos h2, bd_r, if_neg n10, isLenM, if_neg h3, bd_r, if_pos rfl, fX11_fourBars_49]
    · refine Ok.mk (r := -1000001) (r' := -1000001) (σ1 := σ) (σ2 := σ) ?_ ?_ rfl rfl
      · rw [fX10_fourBars, isLenC, if_pos h1, bd_r, if_neg n10, isLenC, if_neg h2, bd_r, if_pos rfl, fX10_fourBars_29]
      · rw [fX11_fourBars, isLenM, if_pos h1, bd_r, if_neg n10, isLenM, if_neg h2, bd_r, if_pos rfl, fX11_fourBars_49]
  · refine Ok.mk (r := -1000001) (r' := -1000001) (σ1 := σ) (σ2 := σ) ?_ ?_ rfl rfl
    · rw [fX10_fourBars, isLenC, if_neg h1, bd_r, if_pos rfl, fX10_fourBars_29]
    · rw [fX11_fourBars, isLenM, if_neg h1, bd_r, if_pos rfl, fX11_fourBars_49]

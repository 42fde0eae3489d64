/-! THE TAPE, FEED -/
theorem byteEq (x : Int64) {D : Int64} {s : UInt64} {k : Nat} (hk : k + 8 ≤ 64) (hD : (D.toBitVec.smod 64).toNat = k) (hU : (s.toBitVec % 64).toNat = k) : (x.toUInt64 >>> s).toInt64.toInt8 = ((x >>> D) &&& 255).toInt8 := by
  apply Int8.toBitVec_inj.mp
  show (x.toBitVec >>> (s.toBitVec % 64)).signExtend 8 = ((x.toBitVec.sshiftRight (D.toBitVec.smod 64).toNat) &&& (255 : Int64).toBitVec).signExtend 8
  rw [hD, BitVec.ushiftRight_eq', hU]
  have b255 : ∀ i, i < 8 → (255 : Int64).toBitVec.getLsbD i = true := by decide
  apply BitVec.eq_of_getLsbD_eq
  intro i hi
  rw [BitVec.getLsbD_signExtend, BitVec.getLsbD_signExtend, BitVec.getLsbD_ushiftRight, BitVec.getLsbD_and, BitVec.getLsbD_sshiftRight, b255 i hi]
  have h1 : decide (i < 64) = true := by simp; omega
  have h2 : decide (64 ≤ i) = false := by simp; omega
  simp only [show i < 64 by omega, show k + i < 64 by omega, if_true, h2, Bool.not_false, Bool.true_and, Bool.and_true]
theorem and255 (y : Int64) : ∃ b : Nat, b < 256 ∧ y &&& 255 = lN b := by
  refine ⟨y.toBitVec.toNat % 256, Nat.mod_lt _ (by decide), ?_⟩
  apply Int64.toBitVec_inj.mp
  apply BitVec.eq_of_toNat_eq
  show (y.toBitVec &&& (255 : Int64).toBitVec).toNat = (BitVec.ofNat 64 (y.toBitVec.toNat % 256)).toNat
  rw [BitVec.toNat_and, BitVec.toNat_ofNat, show (255 : Int64).toBitVec.toNat = 2 ^ 8 - 1 from rfl, Nat.and_two_pow_sub_one_eq_mod]
  have : y.toBitVec.toNat % 256 < 256 := Nat.mod_lt _ (by decide)
  omega
/-- a byte, as the class holds it -/
def b8 (b : Nat) : Int32 := (nI b).toInt8.toInt32
def byC (x : Int64) (j : Nat) : Int32 := vp_nar .byte ((((x.toUInt64 >>> ((8 * nI j).toInt64.toUInt64 &&& Int64.toUInt64 63)).toInt64).toInt32).toInt8.toInt32)
def byM (x : Int64) (j : Nat) : Int32 := ((x >>> ((8 * nI j).toInt64 &&& 63)) &&& 255).toInt32
theorem by_eq (x : Int64) {j : Nat} (hj : j < 8) : ∃ b : Nat, b < 256 ∧ byM x j = nI b ∧ byC x j = b8 b := by
  obtain ⟨b, hb, e⟩ := and255 (x >>> ((8 * nI j).toInt64 &&& 63))
  refine ⟨b, hb, by unfold byM; rw [e, lN_i], ?_⟩
  unfold byC b8
  rw [pk_vb, Int64.toInt8_toInt32, byteEq x (D := (8 * nI j).toInt64 &&& 63) (k := 8 * j) (by omega) ?_ ?_, e, ← Int64.toInt8_toInt32, lN_i]
  · rcases (show j = 0 ∨ j = 1 ∨ j = 2 ∨ j = 3 ∨ j = 4 ∨ j = 5 ∨ j = 6 ∨ j = 7 by omega) with rfl | rfl | rfl | rfl | rfl | rfl | rfl | rfl <;> decide
  · rcases (show j = 0 ∨ j = 1 ∨ j = 2 ∨ j = 3 ∨ j = 4 ∨ j = 5 ∨ j = 6 ∨ j = 7 by omega) with rfl | rfl | rfl | rfl | rfl | rfl | rfl | rfl <;> decide
theorem appC {m L : Nat} {x : Int64} (hm : m ≤ 8) (hL : L + m ≤ 1200) : ∀ (k f j : Nat) (σ : gS), j + k = m → k < f → σ.1 1 1 = nI (L + j) → Wp (fX6_append_18 (nI m) x f (nI j) σ) (fun r σ' => r = nI (L + m) ∧ σ'.1 1 1 = nI (L + m) ∧ (∀ i, j ≤ i → i < m → σ'.1 2 (L + i) = byC x i) ∧ (∀ a b, ¬ (a = 1 ∧ b = 1) → ¬ (a = 2 ∧ L + j ≤ b) → σ'.1 a b = σ.1 a b) ∧ σ'.2 = σ.2) := by
  intro k
  induction k with
  | zero =>
    intro f j σ h1 h2 h3
    obtain ⟨f, rfl⟩ : ∃ y, f = y + 1 := ⟨f - 1, by omega⟩
    have : j = m := by omega
    subst this
    rw [fX6_append_18, if_pos (nI_le (Nat.le_refl _) (by omega)), h3]
    exact wp_r ⟨rfl, h3, fun i a b => absurd a (by omega), fun _ _ _ _ => rfl, rfl⟩
  | succ k ih =>
    intro f j σ h1 h2 h3
    obtain ⟨f, rfl⟩ : ∃ y, f = y + 1 := ⟨f - 1, by omega⟩
    rw [fX6_append_18, if_neg (nI_ge (by omega) (by omega)), h3, gg_t (g_ix (by omega) (by decide)), nI_clamp (by omega), bnd_r, bnd_r, rI_o (by omega), h3, nI_1, nI_1, bnd_r]
    refine wp_m (ih f (j + 1) _ (by omega) (by omega) (by rw [rI_s]; rfl)) ?_
    rintro r σ' ⟨e1, e2, e3, e4, e5⟩
    refine ⟨e1, e2, fun i a b => ?_, fun a b c d => ?_, e5⟩
    · by_cases hij : i = j
      · subst hij
        rw [e4 _ _ (by omega) (by omega), rI_o (by omega), rI_s]
        rfl
      · exact e3 i (by omega) b
    · rw [e4 a b c (by omega), rI_o c, rI_o (by omega)]
theorem feedL {m L : Nat} {x : Int64} (hm : m ≤ 8) (hL : L + m ≤ 1200) : ∀ (k f j : Nat) (σ : gS), j + k = m → k < f → σ.1 168 43 = nI (L + j) → Wp (fX11_feed_33 (nI m) x f (nI j) σ) (fun r σ' => r = nI (L + m) ∧ σ'.1 168 43 = nI (L + m) ∧ (∀ i, j ≤ i → i < m → σ'.1 197 (L + i) = byM x i) ∧ (∀ a b, ¬ (a = 168 ∧ b = 43) → ¬ (a = 197 ∧ L + j ≤ b) → σ'.1 a b = σ.1 a b) ∧ σ'.2 = σ.2) := by
  intro k
  induction k with
  | zero =>
    intro f j σ h1 h2 h3
    obtain ⟨f, rfl⟩ : ∃ y, f = y + 1 := ⟨f - 1, by omega⟩
    have : j = m := by omega
    subst this
    rw [fX11_feed_33, if_pos (nI_le (Nat.le_refl _) (by omega)), h3]
    exact wp_r ⟨rfl, h3, fun i a b => absurd a (by omega), fun _ _ _ _ => rfl, rfl⟩
  | succ k ih =>
    intro f j σ h1 h2 h3
    obtain ⟨f, rfl⟩ : ∃ y, f = y + 1 := ⟨f - 1, by omega⟩
    rw [fX11_feed_33, if_neg (nI_ge (by omega) (by omega)), h3, gg_t (g_ix (by omega) (by decide)), nI_clamp (by omega), bnd_r, bnd_r, rI_o (by omega), h3, nI_1, nI_1, bnd_r]
    refine wp_m (ih f (j + 1) _ (by omega) (by omega) (by rw [rI_s]; rfl)) ?_
    rintro r σ' ⟨e1, e2, e3, e4, e5⟩
    refine ⟨e1, e2, fun i a b => ?_, fun a b c d => ?_, e5⟩
    · by_cases hij : i = j
      · subst hij
        rw [e4 _ _ (by omega) (by omega), rI_o (by omega), rI_s]
        rfl
      · exact e3 i (by omega) b
    · rw [e4 a b c (by omega), rI_o c, rI_o (by omega)]
def iTape (σ : gS) : Prop := ∃ m : Nat, m ≤ 1200 ∧ σ.1 1 1 = nI m ∧ σ.1 168 43 = nI m ∧ ∀ i, i < m → ∃ b : Nat, b < 256 ∧ σ.1 197 i = nI b ∧ σ.1 2 i = b8 b
def pTp (h k : Nat) : Prop := ¬ (h = 1 ∧ k = 1) ∧ h ≠ 2 ∧ ¬ (h = 168 ∧ k = 43) ∧ h ≠ 197
theorem feed_eq {σ : gS} (h : iTape σ) (p : Int32) (x : Int64) : Ok (fX10_feed p x σ) (fX11_feed p x) (fun σ' => iTape σ' ∧ Fr pTp σ σ') := by
  have h0 := h
  obtain ⟨L, hL, e1, e2, e3⟩ := h
  by_cases hp : 1 ≤ p.toInt ∧ p.toInt ≤ 8
  · obtain ⟨m, hm, rfl⟩ := nI_get (n := 9) (by omega) (by omega : p.toInt < (9 : Nat)) (by decide)
    rw [nI_toInt (by omega)] at hp
    have inn : ∀ τ, fX11_in (nI m).toInt64 1 8 τ = some (1, τ) := fun τ => in_t (by rw [l32, nI_toInt (by omega), show (1 : Int64).toInt = 1 from rfl, show (8 : Int64).toInt = 8 from rfl]; omega)
    by_cases hf : L + m ≤ 1200
    · obtain ⟨r, σ1, f1, rfl, f2, f3, f4, f5⟩ := appC (x := x) (by omega) hf m 2000 0 σ (by omega) (by omega) (by rw [e1]; rfl)
      obtain ⟨r, σ2, g1, rfl, g2, g3, g4, g5⟩ := feedL (x := x) (by omega) hf m 2000 0 σ1 (by omega) (by omega) (by rw [f4 _ _ (by omega) (by omega), e2]; rfl)
      refine Ok.mk (r := nI (L + m)) (r' := nI (L + m)) (σ1 := σ1) (σ2 := σ2) ?_ ?_ rfl ⟨⟨L + m, hf, ?_, g2, fun i hi => ?_⟩, fun a b hP => ?_⟩
      · rw [fX10_feed, if_neg (show ¬ nI m < 1 from nI_nlt (b := 1) (by omega) (by omega)), if_pos (show nI m ≤ 8 from nI_le (b := 8) (by omega) (by decide)), fX6_append, e1, nI_add, if_pos (show nI (L + m) ≤ 1200 from nI_le (b := 1200) (by omega) (by decide))]
        rw [show (0 : Int32) = nI 0 from rfl, f1, bd_r]
      · rw [fX11_feed, inn, bd_r, i10, f4 _ _ (by omega) (by omega), e2, nI_add, if_pos (show nI (L + m) ≤ 1200 from nI_le (b := 1200) (by omega) (by decide))]
        exact g1
      · rw [g4 _ _ (by omega) (by omega)]; exact f2
      · by_cases hi2 : i < L
        · rw [g4 _ _ (by omega) (by omega), g4 _ _ (by omega) (by omega), f4 _ _ (by omega) (by omega), f4 _ _ (by omega) (by omega)]
          exact e3 i hi2
        · obtain ⟨j, rfl⟩ : ∃ j, i = L + j := ⟨i - L, by omega⟩
          rw [g3 j (by omega) (by omega), g4 _ _ (by omega) (by omega), f3 j (by omega) (by omega)]
          exact by_eq x (by omega)
      · obtain ⟨p1, p2, p3, p4⟩ := hP
        refine ⟨?_, ?_, ?_⟩
        · rw [g4 a b p3 (by omega), f4 a b p1 (by omega)]
        · rw [g5, f5]
        · rw [g5, f5]
    · refine Ok.mk (r := -1000003) (r' := -1000003) (σ1 := σ) (σ2 := σ) ?_ ?_ rfl ⟨h0, fun _ _ _ => ⟨rfl, rfl, rfl⟩⟩
      · rw [fX10_feed, if_neg (show ¬ nI m < 1 from nI_nlt (b := 1) (by omega) (by omega)), if_pos (show nI m ≤ 8 from nI_le (b := 8) (by omega) (by decide)), fX6_append, e1, nI_add, if_neg (show ¬ nI (L + m) ≤ 1200 from nI_ge (a := 1200) (by omega) (by omega)), bd_r]
      · rw [fX11_feed, inn, bd_r, i10, e2, nI_add, if_neg (show ¬ nI (L + m) ≤ 1200 from nI_ge (a := 1200) (by omega) (by omega))]
  · refine Ok.mk (r := -1000001) (r' := -1000001) (σ1 := σ) (σ2 := σ) ?_ ?_ rfl ⟨h0, fun _ _ _ => ⟨rfl, rfl, rfl⟩⟩
    · rw [fX10_feed]
      by_cases q1 : p < 1
      · rw [if_pos q1, fX10_feed_11]
      · have := mt lt32.mpr q1
        rw [show (1 : Int32).toInt = 1 from rfl] at this
        rw [if_neg q1, if_neg (show ¬ p ≤ 8 from fun z => by have := le32.mp z; rw [show (8 : Int32).toInt = 8 from rfl] at this; omega), fX10_feed_11]
    · rw [fX11_feed, in_f (by rw [l32, show (1 : Int64).toInt = 1 from rfl, show (8 : Int64).toInt = 8 from rfl]; omega), bd_r, i00]

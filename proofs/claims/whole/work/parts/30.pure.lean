/-! PURE: the decompiled functions, compared. Numbers by their integers -/
theorem lt32 {a b : Int32} : a < b ↔ a.toInt < b.toInt := Int32.lt_iff_toInt_lt
theorem le32 {a b : Int32} : a ≤ b ↔ a.toInt ≤ b.toInt := Int32.le_iff_toInt_le
theorem eq32 {a b : Int32} : a = b ↔ a.toInt = b.toInt := Int32.toInt_inj.symm
theorem lt64 {a b : Int64} : a < b ↔ a.toInt < b.toInt := Int64.lt_iff_toInt_lt
theorem le64 {a b : Int64} : a ≤ b ↔ a.toInt ≤ b.toInt := Int64.le_iff_toInt_le
theorem eq64 {a b : Int64} : a = b ↔ a.toInt = b.toInt := Int64.toInt_inj.symm
theorem cmp_lt {x y : Int64} : lg_cmp x y < 0 ↔ x < y := by
  unfold lg_cmp
  split
  · next h => exact ⟨fun q => absurd q (by decide), fun q => absurd (lt64.mp q) (by have := lt64.mp h; omega)⟩
  · split
    · next h => subst h; exact ⟨fun q => absurd q (by decide), fun q => absurd (lt64.mp q) (by omega)⟩
    · next h1 h2 => exact ⟨fun _ => lt64.mpr (by have a := mt lt64.mpr h1; have b := mt eq64.mpr h2; omega), fun _ => by decide⟩
theorem cmp_gt {x y : Int64} : 0 < lg_cmp x y ↔ y < x := by
  unfold lg_cmp
  split
  · next h => exact ⟨fun _ => h, fun _ => by decide⟩
  · next h =>
    split
    · next h2 => subst h2; exact ⟨fun q => absurd q (by decide), fun q => absurd q h⟩
    · exact ⟨fun q => absurd q (by decide), fun q => absurd q h⟩
theorem cmp_eq {x y : Int64} : lg_cmp x y = 0 ↔ x = y := by
  unfold lg_cmp
  split
  · next h => exact ⟨fun q => absurd q (by decide), fun q => absurd (lt64.mp h) (by subst q; omega)⟩
  · split
    · next h => exact ⟨fun _ => h, fun _ => rfl⟩
    · next h => exact ⟨fun q => absurd q (by decide), fun q => absurd q h⟩
theorem bd_r {α β : Type} {a : α} {σ : gS} {f : α → gS → Option β} : bd (some (a, σ)) f = f a σ := rfl
theorem bnd_r {α β : Type} {a : α} {f : α → β} : bnd a f = f a := rfl
theorem gg_t {α : Type} {c : Prop} [Decidable c] {x : Option α} (h : c) : gg c x = x := if_pos h
/-- the index of a number below a bound -/
theorem ix_ok {i : Int32} {n : Nat} (h0 : 0 ≤ i.toInt) (h1 : i.toInt < n) : ¬ (i < 0 ∨ n ≤ i.toNatClampNeg) := by
  have e : i.toNatClampNeg = i.toInt.toNat := rfl
  rw [e, lt32]
  have z : (0 : Int32).toInt = 0 := rfl
  rw [z]
  omega
theorem ix_nI {k n : Nat} (h : k < n) (hn : n < 2 ^ 31) : ¬ (nI k < 0 ∨ n ≤ (nI k).toNatClampNeg) := by
  rw [nI_clamp (by omega)]
  exact fun q => q.elim (fun z => nI_pos (by omega) z) (fun z => by omega)
/-- a number of an interval -/
theorem nI_get {p : Int32} {n : Nat} (h0 : 0 ≤ p.toInt) (h1 : p.toInt < n) (hn : n ≤ 2 ^ 31) : ∃ k : Nat, k < n ∧ p = nI k := by
  refine ⟨p.toInt.toNat, by omega, ?_⟩
  rw [eq32, nI_toInt (by omega)]
  omega
theorem in_eq (a b c : Int64) (σ : gS) : fX11_in a b c σ = some (if b ≤ a ∧ a ≤ c then 1 else 0, σ) := by
  unfold fX11_in fX11_in_17 fX11_in_18
  by_cases h1 : a < b
  · rw [if_pos (cmp_lt.mpr h1), gg_t (Or.inl rfl), if_neg]
    intro q
    have := lt64.mp h1
    have := le64.mp q.1
    omega
  · rw [if_neg (mt cmp_lt.mp h1)]
    by_cases h2 : c < a
    · rw [if_pos (cmp_gt.mpr h2), gg_t (Or.inl rfl), if_neg]
      intro q
      have := lt64.mp h2
      have := le64.mp q.2
      omega
    · rw [if_neg (mt cmp_gt.mp h2), gg_t (Or.inr rfl), if_pos]
      have a1 := mt lt64.mpr h1
      have a2 := mt lt64.mpr h2
      exact ⟨le64.mpr (by omega), le64.mpr (by omega)⟩
/-- the test as one of integers -/
theorem in_t {a b c : Int64} {σ : gS} (h : b.toInt ≤ a.toInt ∧ a.toInt ≤ c.toInt) : fX11_in a b c σ = some (1, σ) := by rw [in_eq, if_pos ⟨le64.mpr h.1, le64.mpr h.2⟩]
theorem in_f {a b c : Int64} {σ : gS} (h : ¬ (b.toInt ≤ a.toInt ∧ a.toInt ≤ c.toInt)) : fX11_in a b c σ = some (0, σ) := by rw [in_eq, if_neg (fun q => h ⟨le64.mp q.1, le64.mp q.2⟩)]
theorem l32 (x : Int32) : x.toInt64.toInt = x.toInt := Int32.toInt_toInt64 x
theorem z32 : (0 : Int32).toInt = 0 := rfl
theorem z64 : (0 : Int64).toInt = 0 := rfl
theorem isRowC (p : Int32) (σ : gS) : fX10_isRow p σ = some (if 0 ≤ p.toInt ∧ p.toInt < 8 then 1 else 0, σ) := by
  unfold fX10_isRow fX10_isRow_14 fX10_isRow_15
  have e8 : (8 : Int32).toInt = 8 := rfl
  by_cases h1 : p < 0
  · have := lt32.mp h1
    rw [z32] at this
    rw [if_neg (show ¬ (0 ≤ p.toInt ∧ p.toInt < 8) by omega)]
    simp [h1, gg]
  · have a1 := mt lt32.mpr h1
    rw [z32] at a1
    by_cases h2 : 8 ≤ p
    · have := le32.mp h2
      rw [e8] at this
      rw [if_neg (show ¬ (0 ≤ p.toInt ∧ p.toInt < 8) by omega)]
      simp [h1, h2, gg]
    · have a2 := mt le32.mpr h2
      rw [e8] at a2
      rw [if_pos (show (0 ≤ p.toInt ∧ p.toInt < 8) by omega)]
      simp [h1, h2, gg]
theorem isRowM (p : Int32) (σ : gS) : fX11_isRow p σ = some (if 0 ≤ p.toInt ∧ p.toInt < 8 then 1 else 0, σ) := by
  unfold fX11_isRow
  by_cases h : 0 ≤ p.toInt ∧ p.toInt < 8
  · rw [in_t (by rw [l32]; exact ⟨h.1, by have : (7 : Int64).toInt = 7 := rfl; omega⟩), bd_r, gg_t (Or.inr rfl), if_pos h]
  · rw [in_f (by rw [l32]; have : (7 : Int64).toInt = 7 := rfl; have : (0 : Int64).toInt = 0 := rfl; omega), bd_r, gg_t (Or.inl rfl), if_neg h]
/-! ROWS: the class's Row i against the reference's lane, length, item -/
def iRow (σ : gS) (i : Nat) : Prop := (σ.1 (152 + 2 * i) 0 = 0 ∧ σ.1 229 i = 0) ∨
  (σ.1 (152 + 2 * i) 0 = 1 ∧ ∃ q n : Nat, q < 4 ∧ n ≤ 300 ∧ σ.1 (152 + 2 * i) 1 = nI q ∧ σ.1 229 i = nI (q + 1) ∧ σ.1 (152 + 2 * i) 2 = nI n ∧ σ.1 230 i = nI n ∧ ∀ j, j < n → σ.2.1 (153 + 2 * i) j = σ.2.1 231 (300 * i + j))
def iRows (σ : gS) : Prop := σ.1 0 11 = σ.1 168 94 ∧ ∀ i, i < 8 → iRow σ i
/-- both answer alike, and P holds then -/
def Ok {α : Type} (A : Option (α × gS)) (B : gS → Option (α × gS)) (P : gS → Prop) : Prop := ∃ r σ1 σ2, A = some (r, σ1) ∧ B σ1 = some (r, σ2) ∧ P σ2
theorem Ok.mk {α : Type} {A : Option (α × gS)} {B : gS → Option (α × gS)} {P : gS → Prop} {r r' : α} {σ1 σ2 : gS} (h1 : A = some (r, σ1)) (h2 : B σ1 = some (r', σ2)) (h3 : r' = r) (h4 : P σ2) : Ok A B P := ⟨r, σ1, σ2, h1, by rw [h2, h3], h4⟩
theorem i10 {α : Type} {a b : α} : (if (1 : Int32) = 0 then a else b) = b := rfl
theorem i00 {α : Type} {a b : α} : (if (0 : Int32) = 0 then a else b) = a := rfl
theorem rI_s {σ : gS} {h k : Nat} {v : Int32} : (gsI σ h k v).1 h k = v := by simp [gsI, gu]
theorem rI_h {σ : gS} {h k a b : Nat} {v : Int32} (hn : a ≠ h) : (gsI σ h k v).1 a b = σ.1 a b := by simp [gsI, gu, hn]
theorem rI_k {σ : gS} {h k a b : Nat} {v : Int32} (hn : b ≠ k) : (gsI σ h k v).1 a b = σ.1 a b := by simp [gsI, gu, hn]
theorem rJ_s {σ : gS} {h k : Nat} {v : Int64} : (gsJ σ h k v).2.1 h k = v := by simp [gsJ, gu]
theorem rJ_h {σ : gS} {h k a b : Nat} {v : Int64} (hn : a ≠ h) : (gsJ σ h k v).2.1 a b = σ.2.1 a b := by simp [gsJ, gu, hn]
theorem rJ_k {σ : gS} {h k a b : Nat} {v : Int64} (hn : b ≠ k) : (gsJ σ h k v).2.1 a b = σ.2.1 a b := by simp [gsJ, gu, hn]
theorem rR_s {σ : gS} {h k v : Nat} : (gsR σ h k v).2.2 h k = v := by simp [gsR, gu]
theorem rR_h {σ : gS} {h k a b v : Nat} (hn : a ≠ h) : (gsR σ h k v).2.2 a b = σ.2.2 a b := by simp [gsR, gu, hn]
theorem rR_k {σ : gS} {h k a b v : Nat} (hn : b ≠ k) : (gsR σ h k v).2.2 a b = σ.2.2 a b := by simp [gsR, gu, hn]
theorem gsR_1 {σ : gS} {h k v : Nat} : (gsR σ h k v).1 = σ.1 := rfl
theorem gsR_2 {σ : gS} {h k v : Nat} : (gsR σ h k v).2.1 = σ.2.1 := rfl
theorem gsI_1 {σ : gS} {h k : Nat} {v : Int32} : (gsI σ h k v).1 = gu σ.1 h k v := rfl
theorem gsI_2 {σ : gS} {h k : Nat} {v : Int32} : (gsI σ h k v).2 = σ.2 := rfl
theorem gsJ_1 {σ : gS} {h k : Nat} {v : Int64} : (gsJ σ h k v).1 = σ.1 := rfl
theorem gsJ_2 {σ : gS} {h k : Nat} {v : Int64} : (gsJ σ h k v).2.1 = gu σ.2.1 h k v := rfl
theorem gsJ_3 {σ : gS} {h k : Nat} {v : Int64} : (gsJ σ h k v).2.2 = σ.2.2 := rfl
theorem isRow_no {p : Int32} (h : ¬ (0 ≤ p.toInt ∧ p.toInt < 8)) (σ : gS) : fX10_isRow p σ = some (0, σ) ∧ fX11_isRow p σ = some (0, σ) := by rw [isRowC, isRowM, if_neg h]; exact ⟨rfl, rfl⟩
theorem isRow_yes {i : Nat} (h : i < 8) (σ : gS) : fX10_isRow (nI i) σ = some (1, σ) ∧ fX11_isRow (nI i) σ = some (1, σ) := by
  rw [isRowC, isRowM, if_pos (by rw [nI_toInt (by omega)]; omega)]; exact ⟨rfl, rfl⟩
/-- a change elsewhere leaves a row -/
theorem iRow_keep {σ σ' : gS} {i : Nat} (h : iRow σ i) (h1 : ∀ k, σ'.1 (152 + 2 * i) k = σ.1 (152 + 2 * i) k) (h2 : σ'.1 229 i = σ.1 229 i) (h3 : σ'.1 230 i = σ.1 230 i) (h4 : σ'.2.1 (153 + 2 * i) = σ.2.1 (153 + 2 * i)) (h5 : ∀ j, j < 300 → σ'.2.1 231 (300 * i + j) = σ.2.1 231 (300 * i + j)) : iRow σ' i := by
  unfold iRow at h ⊢
  rw [h1, h1, h1, h2, h3, h4]
  rcases h with h | ⟨a, q, n, hq, hn, b, c, d, e, f⟩
  · exact Or.inl h
  · exact Or.inr ⟨a, q, n, hq, hn, b, c, d, e, fun j hj => by rw [h5 j (by omega)]; exact f j hj⟩
/-- what a row's number gives -/
theorem row_ix {i : Nat} (hi : i < 8) : (nI i).toNatClampNeg = i ∧ ¬ (nI i < 0 ∨ 8 ≤ (nI i).toNatClampNeg) ∧ ¬ (nI i < 0 ∨ 8 ≤ i) := by
  have hc : (nI i).toNatClampNeg = i := nI_clamp (by omega)
  have hg := ix_nI hi (by decide)
  exact ⟨hc, hg, by rw [hc] at hg; exact hg⟩
theorem iRow_keep2 {σ σ' : gS} {i : Nat} (h : iRow σ i) (h1 : ∀ k, σ'.1 (152 + 2 * i) k = σ.1 (152 + 2 * i) k ∧ σ'.1 229 i = σ.1 229 i ∧ σ'.1 230 i = σ.1 230 i) (h4 : ∀ j, j < 300 → σ'.2.1 (153 + 2 * i) j = σ.2.1 (153 + 2 * i) j ∧ σ'.2.1 231 (300 * i + j) = σ.2.1 231 (300 * i + j)) : iRow σ' i := by
  unfold iRow at h ⊢
  rw [(h1 0).1, (h1 1).1, (h1 2).1, (h1 0).2.1, (h1 0).2.2]
  rcases h with h | ⟨a, q, n, hq, hn, b, c, d, e, f⟩
  · exact Or.inl h
  · exact Or.inr ⟨a, q, n, hq, hn, b, c, d, e, fun j hj => by rw [(h4 j (by omega)).1, (h4 j (by omega)).2]; exact f j hj⟩
theorem nI_ne {a : Nat} (h : 0 < a) (h2 : a < 2 ^ 31) : ¬ nI a = 0 := nI_ne0 h h2
set_option maxRecDepth 10000 in
theorem drop_eq {σ : gS} (h : iRows σ) (p : Int32) : Ok (fX10_drop p σ) (fX11_drop p) iRows := by
  obtain ⟨hs, hr⟩ := h
  by_cases hp : 0 ≤ p.toInt ∧ p.toInt < 8
  · obtain ⟨i, hi, rfl⟩ := nI_get (n := 8) hp.1 hp.2 (by decide)
    obtain ⟨hc, hg, hg'⟩ := row_ix hi
    rcases hr i hi with ⟨h1, h2⟩ | ⟨h1, q, n, hq, hn, h2, h3, h4, h5, h6⟩
    · refine Ok.mk (r := -1000010 - 1) (r' := -1000010 - 1) (σ1 := gsI σ 0 11 1) (σ2 := gsI (gsI (gsI σ 0 11 1) 168 94 0) 168 94 1) ?_ ?_ rfl ?_
      · simp only [fX10_drop, fX10_found, (isRow_yes hi σ).1, bd_r, bnd_r, i10, gg_t hg, gg_t hg', hc, h1, i00, if_true]
      · simp (disch := omega) only [fX11_drop, fX11_finds, (isRow_yes hi _).2, bd_r, bnd_r, i10, gg_t hg, gg_t hg', hc, rI_h, h2, i00, if_true]
      · refine ⟨by simp (disch := omega) only [rI_s, rI_h, rI_k], fun j hj => iRow_keep2 (hr j hj) (fun k => ?_) (fun _ _ => ⟨rfl, rfl⟩)⟩
        simp (disch := omega) only [rI_h, and_self]
    · refine Ok.mk (r := nI n) (r' := nI n) (σ1 := gsI (gsI σ (152 + 2 * i) 0 0) 0 11 0) (σ2 := gsI (gsI (gsI (gsI σ (152 + 2 * i) 0 0) 0 11 0) 168 94 0) 229 i 0) ?_ ?_ rfl ?_
      · simp (disch := omega) only [fX10_drop, fX10_fine, (isRow_yes hi σ).1, bd_r, bnd_r, i10, gg_t hg, gg_t hg', hc, h1, rI_k, h4]
      · simp (disch := omega) only [fX11_drop, (isRow_yes hi _).2, bd_r, bnd_r, i10, gg_t hg, gg_t hg', hc, rI_h, h3, h5, if_neg (nI_ne (show 0 < q + 1 by omega) (by omega))]
      · refine ⟨by simp (disch := omega) only [rI_s, rI_h, rI_k], fun j hj => ?_⟩
        by_cases hj2 : j = i
        · subst hj2
          left
          simp (disch := omega) only [rI_s, rI_h, and_self]
        · refine iRow_keep2 (hr j hj) (fun k => ?_) (fun _ _ => ⟨rfl, rfl⟩)
          simp (disch := omega) only [rI_h, rI_k, and_self]
  · refine Ok.mk (r := -1000001) (r' := -1000001) (σ1 := σ) (σ2 := σ) ?_ ?_ rfl ⟨hs, hr⟩
    · simp only [fX10_drop, (isRow_no hp σ).1, bd_r, i00, if_true]
    · simp only [fX11_drop, (isRow_no hp σ).2, bd_r, i00, if_true]

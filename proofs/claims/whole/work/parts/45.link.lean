/-! THE LINKAGE: the class's (cell t) against the reference's (d = 0: its own arrays; d = 1: those it reads into) -/
def fam (k : Nat) : Nat := [0, 0, 1, 2, 3, 3, 3].getD k 3
def mxF (f : Nat) : Nat := [24, 60, 16, 30].getD f 0
def szF (f : Nat) : Nat := [0, 9, 5, 12].getD f 0
def h1F (f : Nat) : Nat := [170, 176, 174, 179].getD f 0
def h2F (f : Nat) : Nat := [171, 177, 175, 180].getD f 0
def npF (n : Nat → Nat) : Nat := n 0 + n 1 + n 2 + n 3
/-- sizes, parts, members, values -/
def LRa (σ : gS) (t d : Nat) (n kd num : Nat → Nat) (mem : Nat → Nat → Nat) : Prop :=
  (∀ f, f < 4 → n f ≤ mxF f ∧ σ.1 (t + 11) f = nI (n f) ∧ σ.1 168 (szF f + 21 * d) = nI (n f)) ∧
  (σ.1 t 7 = nI (npF n) ∧ σ.1 168 (16 + 21 * d) = nI (npF n)) ∧
  (∀ p, p < npF n → kd p < 7 ∧ σ.1 (t + 1) p = nI (kd p) ∧ σ.1 (181 + 14 * d) p = nI (kd p) ∧ σ.1 (t + 2) p = nI (num p) ∧ σ.1 (182 + 14 * d) p = nI (num p) ∧ num p < n (fam (kd p)) ∧ mem (fam (kd p)) (num p) = p) ∧
  (∀ f i, f < 4 → i < n f → mem f i < npF n ∧ fam (kd (mem f i)) = f ∧ num (mem f i) = i ∧ σ.1 (t + 7 + f) i = nI (mem f i) ∧ σ.1 (t + 3) (mem f i) = σ.1 (h1F f + 14 * d) i ∧ σ.1 (t + 4) (mem f i) = σ.1 (h2F f + 14 * d) i) ∧
  (∀ i, i < n 0 → σ.1 (172 + 14 * d) i = if kd (mem 0 i) = 1 then 1 else 0) ∧
  (∀ i, i < n 3 → σ.1 (178 + 14 * d) i = nI (kd (mem 3 i)))
/-- what the numbers are -/
def LRb (σ : gS) (d : Nat) (n : Nat → Nat) : Prop :=
  (∀ i, i < n 0 → -1000 ≤ (σ.1 (170 + 14 * d) i).toInt ∧ (σ.1 (170 + 14 * d) i).toInt ≤ 1000 ∧ -1000 ≤ (σ.1 (171 + 14 * d) i).toInt ∧ (σ.1 (171 + 14 * d) i).toInt ≤ 1000) ∧
  (∀ i, i < n 1 → ∃ a b, a < n 0 ∧ b < n 0 ∧ a ≠ b ∧ σ.1 (176 + 14 * d) i = nI a ∧ σ.1 (177 + 14 * d) i = nI b) ∧
  (∀ i, i < n 2 → ∃ j k, j < n 0 ∧ 3 ≤ k ∧ k ≤ 200 ∧ σ.1 (174 + 14 * d) i = nI j ∧ σ.1 (175 + 14 * d) i = nI k) ∧
  (∀ i, i < n 3 → ∃ a b, a < n 2 ∧ b < n 2 ∧ a ≠ b ∧ σ.1 (179 + 14 * d) i = nI a ∧ σ.1 (180 + 14 * d) i = nI b)
/-- the driven joint -/
def LRc (σ : gS) (t d : Nat) (n : Nat → Nat) : Prop :=
  (σ.1 t 8 = -1000000 ∧ σ.1 t 9 = -1000000 ∧ σ.1 168 (19 + 21 * d) = -1 ∧ σ.1 168 (20 + 21 * d) = -1) ∨
  (∃ a b, a < n 0 ∧ b < n 0 ∧ a ≠ b ∧ σ.1 t 8 = nI a ∧ σ.1 t 9 = nI b ∧ σ.1 168 (19 + 21 * d) = nI a ∧ σ.1 168 (20 + 21 * d) = nI b ∧ σ.1 (172 + 14 * d) a = 0 ∧ σ.1 (172 + 14 * d) b = 1)
theorem fam_lt {k : Nat} (h : k < 7) : fam k < 4 := by
  rcases (show k = 0 ∨ k = 1 ∨ k = 2 ∨ k = 3 ∨ k = 4 ∨ k = 5 ∨ k = 6 by omega) with rfl | rfl | rfl | rfl | rfl | rfl | rfl <;> decide
section LK
variable {σ : gS} {t d : Nat} {n kd num : Nat → Nat} {mem : Nat → Nat → Nat}
theorem LRa.n4 (h : LRa σ t d n kd num mem) : n 0 ≤ 24 ∧ n 1 ≤ 60 ∧ n 2 ≤ 16 ∧ n 3 ≤ 30 := ⟨(h.1 0 (by decide)).1, (h.1 1 (by decide)).1, (h.1 2 (by decide)).1, (h.1 3 (by decide)).1⟩
theorem LRa.np (h : LRa σ t d n kd num mem) : npF n ≤ 130 := by
  obtain ⟨a, b, c, e⟩ := h.n4
  unfold npF
  omega
theorem LRa.nf (h : LRa σ t d n kd num mem) {f : Nat} (hf : f < 4) : n f ≤ 60 := by
  obtain ⟨a, b, c, e⟩ := h.n4
  rcases (show f = 0 ∨ f = 1 ∨ f = 2 ∨ f = 3 by omega) with rfl | rfl | rfl | rfl <;> omega
theorem sizeC (h : LRa σ t d n kd num mem) {f : Nat} (hf : f < 4) : fX3_size t (nI f) σ = some (nI (n f), σ) := by
  simp (disch := omega) only [fX3_size, nI_clamp, gg_ix, (h.1 f hf).2.1]
theorem firstC (h : LRa σ t d n kd num mem) {f i : Nat} (hf : f < 4) (hi : i < n f) : fX3_firstOf t (nI f) (nI i) σ = some (σ.1 (h1F f + 14 * d) i, σ) := by
  have hn := h.nf hf
  have hp := h.np
  obtain ⟨a, b, c, e, g, k⟩ := h.2.2.2.1 f i hf hi
  simp (disch := omega) only [fX3_firstOf, nI_clamp, gg_ix, Nat.one_mul, e, g]
theorem secondC (h : LRa σ t d n kd num mem) {f i : Nat} (hf : f < 4) (hi : i < n f) : fX3_secondOf t (nI f) (nI i) σ = some (σ.1 (h2F f + 14 * d) i, σ) := by
  have hn := h.nf hf
  have hp := h.np
  obtain ⟨a, b, c, e, g, k⟩ := h.2.2.2.1 f i hf hi
  simp (disch := omega) only [fX3_secondOf, nI_clamp, gg_ix, Nat.one_mul, e, k]
theorem kindC (h : LRa σ t d n kd num mem) {f i : Nat} (hf : f < 4) (hi : i < n f) : fX3_kindOf t (nI f) (nI i) σ = some (nI (kd (mem f i)), σ) := by
  have hn := h.nf hf
  have hp := h.np
  obtain ⟨a, b, c, e, g, k⟩ := h.2.2.2.1 f i hf hi
  simp (disch := omega) only [fX3_kindOf, nI_clamp, gg_ix, Nat.one_mul, e, (h.2.2.1 _ a).2.1]
theorem xC (h : LRa σ t d n kd num mem) {i : Nat} (hi : i < n 0) : fX3_x t (nI i) σ = some (σ.1 (170 + 14 * d) i, σ) := by
  rw [fX3_x, show (0 : Int32) = nI 0 from rfl, firstC h (by decide) hi, bd_r]
  rfl
theorem yC (h : LRa σ t d n kd num mem) {i : Nat} (hi : i < n 0) : fX3_y t (nI i) σ = some (σ.1 (171 + 14 * d) i, σ) := by
  rw [fX3_y, show (0 : Int32) = nI 0 from rfl, secondC h (by decide) hi, bd_r]
  rfl
theorem groundC (h : LRa σ t d n kd num mem) {i : Nat} (hi : i < n 0) : fX3_isGround t (nI i) σ = some (σ.1 (172 + 14 * d) i, σ) := by
  have hk := (h.2.2.1 _ (h.2.2.2.1 0 i (by decide) hi).1).1
  rw [fX3_isGround, show (0 : Int32) = nI 0 from rfl, kindC h (by decide) hi, bd_r, h.2.2.2.2.1 i hi]
  by_cases q : kd (mem 0 i) = 1
  · rw [if_pos (by rw [q]; rfl), if_pos q, fX3_isGround_15]
    rfl
  · rw [if_neg (show ¬ nI (kd (mem 0 i)) = 1 from fun z => q ((nI_eq (b := 1) (by omega) (by decide)).mp z)), if_neg q, fX3_isGround_15]
    rfl
end LK
theorem szF_le (f : Nat) : szF f ≤ 12 := by
  unfold szF
  rcases f with _ | _ | _ | _ | f <;> simp
theorem h1F_b {f : Nat} (h : f < 4) : 170 ≤ h1F f ∧ h1F f ≤ 180 := by
  rcases (show f = 0 ∨ f = 1 ∨ f = 2 ∨ f = 3 by omega) with rfl | rfl | rfl | rfl <;> decide
theorem h2F_b {f : Nat} (h : f < 4) : 170 ≤ h2F f ∧ h2F f ≤ 180 := by
  rcases (show f = 0 ∨ f = 1 ∨ f = 2 ∨ f = 3 by omega) with rfl | rfl | rfl | rfl <;> decide
/-- where the linkage lies -/
def pLk (t d x y : Nat) : Prop := (t ≤ x ∧ x ≤ t + 11) ∨ (x = 168 ∧ 21 * d ≤ y ∧ y ≤ 20 + 21 * d) ∨ (170 + 14 * d ≤ x ∧ x ≤ 182 + 14 * d)
section LK2
variable {σ σ' : gS} {t d : Nat} {n kd num : Nat → Nat} {mem : Nat → Nat → Nat}
theorem LRa.keep (h : LRa σ t d n kd num mem) (hk : ∀ x y, pLk t d x y → σ'.1 x y = σ.1 x y) : LRa σ' t d n kd num mem := by
  obtain ⟨a, b, c, e, g, k⟩ := h
  have k1 : ∀ j y, j ≤ 11 → σ'.1 (t + j) y = σ.1 (t + j) y := fun j y hj => hk _ _ (Or.inl (by omega))
  have k2 : ∀ y, y ≤ 20 → σ'.1 168 (y + 21 * d) = σ.1 168 (y + 21 * d) := fun y hy => hk _ _ (Or.inr (Or.inl (by omega)))
  have k3 : ∀ x y, 170 ≤ x → x ≤ 182 → σ'.1 (x + 14 * d) y = σ.1 (x + 14 * d) y := fun x y h1 h2 => hk _ _ (Or.inr (Or.inr (by omega)))
  refine ⟨fun f hf => ?_, ?_, fun p hp => ?_, fun f i hf hi => ?_, fun i hi => ?_, fun i hi => ?_⟩
  · rw [k1 11 f (by omega), k2 _ (by have := szF_le f; omega)]
    exact a f hf
  · rw [show σ'.1 t 7 = σ.1 t 7 from k1 0 7 (by omega), k2 16 (by omega)]
    exact b
  · rw [k1 1 p (by omega), k1 2 p (by omega), k3 181 p (by omega) (by omega), k3 182 p (by omega) (by omega)]
    exact c p hp
  · have q1 := h1F_b hf
    have q2 := h2F_b hf
    rw [show t + 7 + f = t + (7 + f) by omega, k1 (7 + f) i (by omega), k1 3 _ (by omega), k1 4 _ (by omega), k3 _ i (by omega) (by omega), k3 _ i (by omega) (by omega), show t + (7 + f) = t + 7 + f by omega]
    exact e f i hf hi
  · rw [k3 172 i (by omega) (by omega)]
    exact g i hi
  · rw [k3 178 i (by omega) (by omega)]
    exact k i hi
theorem LRb.keep (h : LRb σ d n) (hk : ∀ x y, pLk t d x y → σ'.1 x y = σ.1 x y) : LRb σ' d n := by
  obtain ⟨a, b, c, e⟩ := h
  have k3 : ∀ x y, 170 ≤ x → x ≤ 182 → σ'.1 (x + 14 * d) y = σ.1 (x + 14 * d) y := fun x y h1 h2 => hk _ _ (Or.inr (Or.inr (by omega)))
  refine ⟨fun i hi => ?_, fun i hi => ?_, fun i hi => ?_, fun i hi => ?_⟩
  · rw [k3 170 i (by omega) (by omega), k3 171 i (by omega) (by omega)]
    exact a i hi
  · rw [k3 176 i (by omega) (by omega), k3 177 i (by omega) (by omega)]
    exact b i hi
  · rw [k3 174 i (by omega) (by omega), k3 175 i (by omega) (by omega)]
    exact c i hi
  · rw [k3 179 i (by omega) (by omega), k3 180 i (by omega) (by omega)]
    exact e i hi
theorem LRc.keep (h : LRc σ t d n) (hk : ∀ x y, pLk t d x y → σ'.1 x y = σ.1 x y) : LRc σ' t d n := by
  have k1 : ∀ y, σ'.1 t y = σ.1 t y := fun y => hk _ _ (Or.inl (by omega))
  have k2 : ∀ y, y ≤ 20 → σ'.1 168 (y + 21 * d) = σ.1 168 (y + 21 * d) := fun y hy => hk _ _ (Or.inr (Or.inl (by omega)))
  have k3 : ∀ y, σ'.1 (172 + 14 * d) y = σ.1 (172 + 14 * d) y := fun y => hk _ _ (Or.inr (Or.inr (by omega)))
  unfold LRc at h ⊢
  simp only [k1, k2 19 (by omega), k2 20 (by omega), k3]
  exact h
end LK2
/-- the linkage in use -/
def Lk (σ : gS) (t : Nat) (n kd num : Nat → Nat) (mem : Nat → Nat → Nat) : Prop := (t = 4 ∨ t = 16) ∧ σ.2.2 0 1 = t ∧ σ.2.2 1 3 = 20 - t ∧ LRa σ t 0 n kd num mem ∧ LRb σ 0 n ∧ LRc σ t 0 n
def pLkU (x y : Nat) : Prop := (4 ≤ x ∧ x ≤ 27) ∨ (x = 168 ∧ y ≤ 20) ∨ (170 ≤ x ∧ x ≤ 182)
section LK3
variable {σ σ' : gS} {t : Nat} {n kd num : Nat → Nat} {mem : Nat → Nat → Nat}
theorem Lk.keep (h : Lk σ t n kd num mem) (hk : ∀ x y, pLkU x y → σ'.1 x y = σ.1 x y) (h1 : σ'.2.2 0 1 = σ.2.2 0 1) (h2 : σ'.2.2 1 3 = σ.2.2 1 3) : Lk σ' t n kd num mem := by
  obtain ⟨ht, a, b, c, d, e⟩ := h
  have q : ∀ x y, pLk t 0 x y → σ'.1 x y = σ.1 x y := fun x y z => hk x y (by unfold pLk at z; unfold pLkU; omega)
  exact ⟨ht, by rw [h1]; exact a, by rw [h2]; exact b, c.keep q, d.keep q, e.keep q⟩
theorem isP_no (h : Lk σ t n kd num mem) {p : Int32} (hp : ¬ (0 ≤ p.toInt ∧ p.toInt < npF n)) : fX10_isPart p σ = some (0, σ) ∧ fX11_isPart p σ = some (0, σ) := by
  obtain ⟨h4, ht, -, h, -, -⟩ := h
  have hn := h.np
  have eN : (nI (npF n)).toInt = npF n := nI_toInt (by omega)
  have e1 : σ.1 t 7 = nI (npF n) := h.2.1.1
  have e2 : σ.1 168 16 = nI (npF n) := h.2.1.2
  refine ⟨?_, ?_⟩
  · unfold fX10_isPart fX10_isPart_19 fX10_isPart_20
    by_cases h1 : p < 0
    · rw [if_pos h1, gg_t (Or.inl rfl)]
    · have a1 := mt lt32.mpr h1
      rw [z32] at a1
      rw [if_neg h1, bnd_r, ht, gg_t h4, e1, if_pos (le32.mpr (by rw [eN]; omega)), gg_t (Or.inl rfl)]
  · rw [fX11_isPart, e2, inM (by omega), if_neg hp, bd_r, gg_t (Or.inl rfl)]
theorem isP_yes (h : Lk σ t n kd num mem) {i : Nat} (hi : i < npF n) : fX10_isPart (nI i) σ = some (1, σ) ∧ fX11_isPart (nI i) σ = some (1, σ) := by
  obtain ⟨h4, ht, -, h, -, -⟩ := h
  have hn := h.np
  have e1 : σ.1 t 7 = nI (npF n) := h.2.1.1
  have e2 : σ.1 168 16 = nI (npF n) := h.2.1.2
  refine ⟨?_, ?_⟩
  · unfold fX10_isPart fX10_isPart_20
    rw [if_neg (nI_pos (by omega)), bnd_r, ht, gg_t h4, e1, if_neg (nI_ge hi (by omega)), gg_t (Or.inr rfl)]
  · rw [fX11_isPart, e2, inM (by omega), if_pos (by rw [nI_toInt (by omega)]; omega), bd_r, gg_t (Or.inr rfl)]
theorem isM_no (h : Lk σ t n kd num mem) {f : Nat} (hf : f < 4) {p : Int32} (hp : ¬ (0 ≤ p.toInt ∧ p.toInt < n f)) : fX10_isMember (nI f) p σ = some (0, σ) := by
  obtain ⟨h4, ht, -, h, -, -⟩ := h
  have hn := h.nf hf
  unfold fX10_isMember fX10_isMember_20 fX10_isMember_21
  by_cases h1 : p < 0
  · rw [if_pos h1, gg_t (Or.inl rfl)]
  · have a1 := mt lt32.mpr h1
    rw [z32] at a1
    rw [if_neg h1, bnd_r, ht, gg_t h4, sizeC h hf, bd_r, if_pos (le32.mpr (by rw [nI_toInt (by omega)]; omega)), gg_t (Or.inl rfl)]
theorem isM_yes (h : Lk σ t n kd num mem) {f i : Nat} (hf : f < 4) (hi : i < n f) : fX10_isMember (nI f) (nI i) σ = some (1, σ) := by
  obtain ⟨h4, ht, -, h, -, -⟩ := h
  have hn := h.nf hf
  unfold fX10_isMember fX10_isMember_21
  rw [if_neg (nI_pos (by omega)), bnd_r, ht, gg_t h4, sizeC h hf, bd_r, if_neg (nI_ge hi (by omega)), gg_t (Or.inr rfl)]
theorem isJ_no (h : Lk σ t n kd num mem) {p : Int32} (hp : ¬ (0 ≤ p.toInt ∧ p.toInt < n 0)) : fX11_isJoint p σ = some (0, σ) := by
  obtain ⟨h4, ht, -, h, -, -⟩ := h
  have hn := h.nf (show 0 < 4 by decide)
  have e2 : σ.1 168 0 = nI (n 0) := (h.1 0 (by decide)).2.2
  rw [fX11_isJoint, e2, inM (by omega), if_neg hp, bd_r, gg_t (Or.inl rfl)]
theorem isJ_yes (h : Lk σ t n kd num mem) {i : Nat} (hi : i < n 0) : fX11_isJoint (nI i) σ = some (1, σ) := by
  obtain ⟨h4, ht, -, h, -, -⟩ := h
  have hn := h.nf (show 0 < 4 by decide)
  have e2 : σ.1 168 0 = nI (n 0) := (h.1 0 (by decide)).2.2
  rw [fX11_isJoint, e2, inM (by omega), if_pos (by rw [nI_toInt (by omega)]; omega), bd_r, gg_t (Or.inr rfl)]
theorem isB_no (h : Lk σ t n kd num mem) {p : Int32} (hp : ¬ (0 ≤ p.toInt ∧ p.toInt < n 1)) : fX11_isBar p σ = some (0, σ) := by
  obtain ⟨h4, ht, -, h, -, -⟩ := h
  have hn := h.nf (show 1 < 4 by decide)
  have e2 : σ.1 168 9 = nI (n 1) := (h.1 1 (by decide)).2.2
  rw [fX11_isBar, e2, inM (by omega), if_neg hp, bd_r, gg_t (Or.inl rfl)]
theorem isB_yes (h : Lk σ t n kd num mem) {i : Nat} (hi : i < n 1) : fX11_isBar (nI i) σ = some (1, σ) := by
  obtain ⟨h4, ht, -, h, -, -⟩ := h
  have hn := h.nf (show 1 < 4 by decide)
  have e2 : σ.1 168 9 = nI (n 1) := (h.1 1 (by decide)).2.2
  rw [fX11_isBar, e2, inM (by omega), if_pos (by rw [nI_toInt (by omega)]; omega), bd_r, gg_t (Or.inr rfl)]
/-- a part by its number: what both hold of it -/
theorem Lk.part (h : Lk σ t n kd num mem) {i : Nat} (hi : i < npF n) : kd i < 7 ∧ num i < n (fam (kd i)) ∧ σ.1 (t + 1) i = nI (kd i) ∧ σ.1 181 i = nI (kd i) ∧ σ.1 (t + 2) i = nI (num i) ∧ σ.1 182 i = nI (num i) ∧ σ.1 (t + 3) i = σ.1 (h1F (fam (kd i))) (num i) ∧ σ.1 (t + 4) i = σ.1 (h2F (fam (kd i))) (num i) := by
  obtain ⟨h4, ht, -, h, -, -⟩ := h
  obtain ⟨a, b, c, d, e, f, g⟩ := h.2.2.1 i hi
  have q := h.2.2.2.1 (fam (kd i)) (num i) (fam_lt a) f
  rw [g] at q
  exact ⟨a, f, b, c, d, e, q.2.2.2.2.1, q.2.2.2.2.2⟩
set_option maxRecDepth 10000 in
theorem partM (h : Lk σ t n kd num mem) {i : Nat} (hi : i < npF n) : (fX11_part (nI i) 2 σ = some (σ.1 (t + 3) i, σ)) ∧ (fX11_part (nI i) 3 σ = some (σ.1 (t + 4) i, σ)) := by
  obtain ⟨a, b, c, d, e, f, g, k⟩ := h.part hi
  obtain ⟨h4, ht, -, h, -, -⟩ := h
  have hn := h.np
  obtain ⟨n0, n1, n2, n3⟩ := h.n4
  have e2 : σ.1 168 16 = nI (npF n) := h.2.1.2
  have hc : (nI i).toNatClampNeg = i := nI_clamp (by omega)
  have g1 := g_ix (show i < 130 by omega) (by decide)
  have in1 : ∀ τ, fX11_in (nI i).toInt64 0 ((nI (npF n) - 1).toInt64) τ = some (1, τ) := fun τ => by rw [inM (by omega), if_pos (by rw [nI_toInt (by omega)]; omega)]
  have in2 : ∀ τ, fX11_in (2 : Int32).toInt64 0 3 τ = some (1, τ) := fun τ => in_t (by decide)
  have in3 : ∀ τ, fX11_in (3 : Int32).toInt64 0 3 τ = some (1, τ) := fun τ => in_t (by decide)
  generalize kd i = q at *
  generalize num i = u at *
  rcases (show q = 0 ∨ q = 1 ∨ q = 2 ∨ q = 3 ∨ q = 4 ∨ q = 5 ∨ q = 6 by omega) with rfl | rfl | rfl | rfl | rfl | rfl | rfl
  all_goals (
    have hu : u < 60 := by revert b; simp only [fam, List.getD_cons_zero, List.getD_cons_succ]; omega
    have hu2 : (nI u).toNatClampNeg = u := nI_clamp (by omega)
    refine ⟨?_, ?_⟩
    · rw [fX11_part, e2, in1, bd_r, i10, in2, bd_r, i10, gg_t g1, if_pos (by decide), gg_t g1, hc, d, f]
      simp only [fX11_part_96, fX11_part_116, fX11_part_137, fX11_part_158, fX11_part_179, hu2]
      first
        | rw [if_pos (by decide), if_pos (by decide), gg_ix (by revert b; simp only [fam, List.getD_cons_zero, List.getD_cons_succ]; omega) (by decide), g]; rfl
        | rw [if_neg (by decide), if_pos (by decide), if_pos (by decide), gg_ix (by revert b; simp only [fam, List.getD_cons_zero, List.getD_cons_succ]; omega) (by decide), g]; rfl
        | rw [if_neg (by decide), if_neg (by decide), if_pos (by decide), if_pos (by decide), gg_ix (by revert b; simp only [fam, List.getD_cons_zero, List.getD_cons_succ]; omega) (by decide), g]; rfl
        | rw [if_neg (by decide), if_neg (by decide), if_neg (by decide), if_pos (by decide), if_pos (by decide), gg_ix (by revert b; simp only [fam, List.getD_cons_zero, List.getD_cons_succ]; omega) (by decide), g]; rfl
        | rw [if_neg (by decide), if_neg (by decide), if_neg (by decide), if_neg (by decide), if_pos (by decide), gg_ix (by revert b; simp only [fam, List.getD_cons_zero, List.getD_cons_succ]; omega) (by decide), g]; rfl
    · rw [fX11_part, e2, in1, bd_r, i10, in3, bd_r, i10, gg_t g1, if_pos (by decide), gg_t g1, hc, d, f]
      simp only [fX11_part_96, fX11_part_116, fX11_part_137, fX11_part_158, fX11_part_179, hu2]
      first
        | rw [if_pos (by decide), if_neg (by decide), gg_ix (by revert b; simp only [fam, List.getD_cons_zero, List.getD_cons_succ]; omega) (by decide), k]; rfl
        | rw [if_neg (by decide), if_pos (by decide), if_neg (by decide), gg_ix (by revert b; simp only [fam, List.getD_cons_zero, List.getD_cons_succ]; omega) (by decide), k]; rfl
        | rw [if_neg (by decide), if_neg (by decide), if_pos (by decide), if_neg (by decide), gg_ix (by revert b; simp only [fam, List.getD_cons_zero, List.getD_cons_succ]; omega) (by decide), k]; rfl
        | rw [if_neg (by decide), if_neg (by decide), if_neg (by decide), if_pos (by decide), if_neg (by decide), gg_ix (by revert b; simp only [fam, List.getD_cons_zero, List.getD_cons_succ]; omega) (by decide), k]; rfl
        | rw [if_neg (by decide), if_neg (by decide), if_neg (by decide), if_neg (by decide), if_neg (by decide), gg_ix (by revert b; simp only [fam, List.getD_cons_zero, List.getD_cons_succ]; omega) (by decide), k]; rfl)
theorem part_eq (h : Lk σ t n kd num mem) (p q : Int32) : Ok (fX10_part p q σ) (fX11_part p q) (fun σ' => σ' = σ) := by
  by_cases hp : 0 ≤ p.toInt ∧ p.toInt < npF n
  · have hn := h.2.2.2.1.np
    obtain ⟨i, hi, rfl⟩ := nI_get (n := npF n) hp.1 hp.2 (by omega)
    obtain ⟨a, b, c, d, e, f, -, -⟩ := h.part hi
    have h4 := h.1
    have ht := h.2.1
    have hc : (nI i).toNatClampNeg = i := nI_clamp (by omega)
    have g1 := g_ix (show i < 130 by omega) (by decide)
    have e2 : σ.1 168 16 = nI (npF n) := h.2.2.2.1.2.1.2
    have in1 : ∀ τ, fX11_in (nI i).toInt64 0 ((nI (npF n) - 1).toInt64) τ = some (1, τ) := fun τ => by rw [inM (by omega), if_pos (by rw [nI_toInt (by omega)]; omega)]
    by_cases q0 : q = 0
    · subst q0
      refine Ok.mk (r := nI (kd i)) (r' := nI (kd i)) (σ1 := σ) (σ2 := σ) ?_ ?_ rfl rfl
      · rw [fX10_part, (isP_yes h hi).1, bd_r, i10, if_pos rfl, bnd_r, ht, gg_t h4, gg_t g1, hc, c]
      · rw [fX11_part, e2, in1, bd_r, i10, in_t (by decide), bd_r, i10, gg_t g1, if_neg (by decide), if_pos rfl, gg_t g1, hc, d, fX11_part_57]
    by_cases q1 : q = 1
    · subst q1
      refine Ok.mk (r := nI (num i)) (r' := nI (num i)) (σ1 := σ) (σ2 := σ) ?_ ?_ rfl rfl
      · rw [fX10_part, (isP_yes h hi).1, bd_r, i10, if_neg q0, if_pos rfl, bnd_r, ht, gg_t h4, gg_t g1, hc, e]
      · rw [fX11_part, e2, in1, bd_r, i10, in_t (by decide), bd_r, i10, gg_t g1, if_neg (by decide), if_neg q0, hc, f, fX11_part_57]
    by_cases q2 : q = 2
    · subst q2
      refine Ok.mk (r := σ.1 (t + 3) i) (r' := σ.1 (t + 3) i) (σ1 := σ) (σ2 := σ) ?_ (partM h hi).1 rfl rfl
      rw [fX10_part, (isP_yes h hi).1, bd_r, i10, if_neg q0, if_neg q1, if_pos rfl, bnd_r, ht, gg_t h4, gg_t g1, hc]
    by_cases q3 : q = 3
    · subst q3
      refine Ok.mk (r := σ.1 (t + 4) i) (r' := σ.1 (t + 4) i) (σ1 := σ) (σ2 := σ) ?_ (partM h hi).2 rfl rfl
      rw [fX10_part, (isP_yes h hi).1, bd_r, i10, if_neg q0, if_neg q1, if_neg q2, if_pos rfl, bnd_r, ht, gg_t h4, gg_t g1, hc]
    refine Ok.mk (r := -1000001) (r' := -1000001) (σ1 := σ) (σ2 := σ) ?_ ?_ rfl rfl
    · rw [fX10_part, (isP_yes h hi).1, bd_r, i10, if_neg q0, if_neg q1, if_neg q2, if_neg q3]
    · rw [fX11_part, e2, in1, bd_r, i10, in_f (by
        have a0 := mt eq32.mpr q0
        have a1 := mt eq32.mpr q1
        have a2 := mt eq32.mpr q2
        have a3 := mt eq32.mpr q3
        rw [show (0 : Int32).toInt = 0 from rfl] at a0
        rw [show (1 : Int32).toInt = 1 from rfl] at a1
        rw [show (2 : Int32).toInt = 2 from rfl] at a2
        rw [show (3 : Int32).toInt = 3 from rfl] at a3
        rw [l32, z64, show (3 : Int64).toInt = 3 from rfl]
        omega), bd_r, i00, fX11_part_28]
  · have e2 : σ.1 168 16 = nI (npF n) := h.2.2.2.1.2.1.2
    have hn := h.2.2.2.1.np
    refine Ok.mk (r := -1000001) (r' := -1000001) (σ1 := σ) (σ2 := σ) ?_ ?_ rfl rfl
    · rw [fX10_part, (isP_no h hp).1, bd_r, i00]
    · rw [fX11_part, e2, inM (by omega), if_neg hp, bd_r, i00, fX11_part_28]
end LK3

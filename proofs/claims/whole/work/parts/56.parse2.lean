/-! THE DRAFT: what both read into, as data: sizes, kinds, numbers, members, values and names by part, the drive -/
noncomputable def cif {α : Type} (c : Prop) (a b : α) : α := @ite α c (Classical.propDecidable c) a b
theorem cif_t {α : Type} {c : Prop} {a b : α} (h : c) : cif c a b = a := if_pos h
theorem cif_f {α : Type} {c : Prop} {a b : α} (h : ¬ c) : cif c a b = b := if_neg h
def up {α : Type} (g : Nat → α) (i : Nat) (v : α) : Nat → α := fun j => if j = i then v else g j
theorem up_s {α : Type} {g : Nat → α} {i : Nat} {v : α} : up g i v i = v := if_pos rfl
theorem up_o {α : Type} {g : Nat → α} {i j : Nat} {v : α} (h : j ≠ i) : up g i v j = g j := if_neg h
abbrev DT : Type := (Nat → Nat) × (Nat → Nat) × (Nat → Nat) × (Nat → Nat → Nat) × (Nat → Int32) × (Nat → Int32) × (Nat → List Nat) × Option (Nat × Nat)
abbrev dn (D : DT) : Nat → Nat := D.1
abbrev dk (D : DT) : Nat → Nat := D.2.1
abbrev du (D : DT) : Nat → Nat := D.2.2.1
abbrev dm (D : DT) : Nat → Nat → Nat := D.2.2.2.1
abbrev dx (D : DT) : Nat → Int32 := D.2.2.2.2.1
abbrev dy (D : DT) : Nat → Int32 := D.2.2.2.2.2.1
abbrev dl (D : DT) : Nat → List Nat := D.2.2.2.2.2.2.1
abbrev dd (D : DT) : Option (Nat × Nat) := D.2.2.2.2.2.2.2
def dP (D : DT) : Nat := npF (dn D)
def dAdd (k : Nat) (l : List Nat) (x y : Int32) (D : DT) : DT :=
  (up (dn D) (fam k) (dn D (fam k) + 1), up (dk D) (dP D) k, up (du D) (dP D) (dn D (fam k)), up (dm D) (fam k) (up (dm D (fam k)) (dn D (fam k)) (dP D)), up (dx D) (dP D) x, up (dy D) (dP D) y, up (dl D) (dP D) l, dd D)
def dSet (a b : Nat) (D : DT) : DT := (dn D, dk D, du D, dm D, dx D, dy D, dl D, some (a, b))
/-- sizes and members fit -/
def WFa (D : DT) : Prop :=
  (∀ f, f < 4 → dn D f ≤ mxF f) ∧
  (∀ p, p < dP D → dk D p < 7 ∧ du D p < dn D (fam (dk D p)) ∧ dm D (fam (dk D p)) (du D p) = p) ∧
  (∀ f i, f < 4 → i < dn D f → dm D f i < dP D ∧ fam (dk D (dm D f i)) = f ∧ du D (dm D f i) = i) ∧
  (∀ p, p < dP D → fam (dk D p) = 0 ∨ fam (dk D p) = 2 → isNm (dl D p))
/-- the values are such as they may be -/
def WFb (D : DT) : Prop :=
  (∀ i, i < dn D 0 → -1000 ≤ (dx D (dm D 0 i)).toInt ∧ (dx D (dm D 0 i)).toInt ≤ 1000 ∧ -1000 ≤ (dy D (dm D 0 i)).toInt ∧ (dy D (dm D 0 i)).toInt ≤ 1000) ∧
  (∀ i, i < dn D 1 → ∃ a b, a < dn D 0 ∧ b < dn D 0 ∧ a ≠ b ∧ dx D (dm D 1 i) = nI a ∧ dy D (dm D 1 i) = nI b) ∧
  (∀ i, i < dn D 2 → ∃ j k, j < dn D 0 ∧ 3 ≤ k ∧ k ≤ 200 ∧ dx D (dm D 2 i) = nI j ∧ dy D (dm D 2 i) = nI k) ∧
  (∀ i, i < dn D 3 → ∃ a b, a < dn D 2 ∧ b < dn D 2 ∧ a ≠ b ∧ dx D (dm D 3 i) = nI a ∧ dy D (dm D 3 i) = nI b) ∧
  (∀ a b, dd D = some (a, b) → a < dn D 0 ∧ b < dn D 0 ∧ a ≠ b ∧ ¬ dk D (dm D 0 a) = 1 ∧ dk D (dm D 0 b) = 1)
def CD (σ : gS) (t : Nat) (D : DT) : Prop :=
  (∀ f, f < 4 → σ.1 (t + 11) f = nI (dn D f)) ∧ σ.1 t 7 = nI (dP D) ∧
  (∀ p, p < dP D → σ.1 (t + 1) p = nI (dk D p) ∧ σ.1 (t + 2) p = nI (du D p) ∧ σ.1 (t + 3) p = dx D p ∧ σ.1 (t + 4) p = dy D p ∧ (fam (dk D p) = 0 ∨ fam (dk D p) = 2 → σ.1 (t + 5) p = nI (c27 (dl D p)))) ∧
  (∀ f i, f < 4 → i < dn D f → σ.1 (t + 7 + f) i = nI (dm D f i)) ∧
  (dd D = none → σ.1 t 8 = -1000000 ∧ σ.1 t 9 = -1000000) ∧
  (∀ a b, dd D = some (a, b) → σ.1 t 8 = nI a ∧ σ.1 t 9 = nI b)
def RD (σ : gS) (D : DT) : Prop :=
  (∀ f, f < 4 → σ.1 168 (szF f + 21) = nI (dn D f)) ∧ σ.1 168 37 = nI (dP D) ∧
  (∀ p, p < dP D → σ.1 195 p = nI (dk D p) ∧ σ.1 196 p = nI (du D p)) ∧
  (∀ f i, f < 4 → i < dn D f → σ.1 (h1F f + 14) i = dx D (dm D f i) ∧ σ.1 (h2F f + 14) i = dy D (dm D f i)) ∧
  (∀ i, i < dn D 0 → σ.1 186 i = (if dk D (dm D 0 i) = 1 then 1 else 0) ∧ σ.2.1 183 i = lN (c256 (dl D (dm D 0 i)))) ∧
  (∀ i, i < dn D 2 → σ.2.1 187 i = lN (c256 (dl D (dm D 2 i)))) ∧
  (∀ i, i < dn D 3 → σ.1 192 i = nI (dk D (dm D 3 i))) ∧
  (dd D = none → σ.1 168 40 = -1 ∧ σ.1 168 41 = -1) ∧
  (∀ a b, dd D = some (a, b) → σ.1 168 40 = nI a ∧ σ.1 168 41 = nI b)
section DR
variable {σ σ' : gS} {t : Nat} {D : DT} {b : Nat → Nat} {m p : Nat}
theorem WFa.n4 (h : WFa D) : dn D 0 ≤ 24 ∧ dn D 1 ≤ 60 ∧ dn D 2 ≤ 16 ∧ dn D 3 ≤ 30 := ⟨h.1 0 (by decide), h.1 1 (by decide), h.1 2 (by decide), h.1 3 (by decide)⟩
theorem WFa.np (h : WFa D) : dP D = dn D 0 + dn D 1 + dn D 2 + dn D 3 ∧ dP D ≤ 130 := by
  obtain ⟨a, b, c, e⟩ := h.n4
  have : dP D = dn D 0 + dn D 1 + dn D 2 + dn D 3 := rfl
  omega
theorem WFa.nf (h : WFa D) {f : Nat} (hf : f < 4) : dn D f ≤ 60 := by
  obtain ⟨a, b, c, e⟩ := h.n4
  rcases (show f = 0 ∨ f = 1 ∨ f = 2 ∨ f = 3 by omega) with rfl | rfl | rfl | rfl <;> omega
theorem CD.keep (h : CD σ t D) (hk : ∀ x y, t ≤ x → x ≤ t + 11 → σ'.1 x y = σ.1 x y) : CD σ' t D := by
  obtain ⟨a, c, e, g, k, l⟩ := h
  have k0 : ∀ y, σ'.1 t y = σ.1 t y := fun y => hk t y (by omega) (by omega)
  refine ⟨fun f hf => by rw [hk _ _ (by omega) (by omega)]; exact a f hf, by rw [k0]; exact c, fun q hq => ?_, fun f i hf hi => by rw [hk _ _ (by omega) (by omega)]; exact g f i hf hi, by rw [k0, k0]; exact k, by rw [k0, k0]; exact l⟩
  rw [hk _ _ (by omega) (by omega), hk _ _ (by omega) (by omega), hk _ _ (by omega) (by omega), hk _ _ (by omega) (by omega), hk _ _ (by omega) (by omega)]
  exact e q hq
/-- where the reference's draft lies -/
def pRD (x y : Nat) : Prop := (183 ≤ x ∧ x ≤ 196) ∨ (x = 168 ∧ 21 ≤ y ∧ y ≤ 41)
theorem RD.keep (h : RD σ D) (hk : ∀ x y, pRD x y → σ'.1 x y = σ.1 x y ∧ σ'.2.1 x y = σ.2.1 x y) : RD σ' D := by
  obtain ⟨a, c, e, g, k, l, m, n, o⟩ := h
  have k1 : ∀ y, 21 ≤ y → y ≤ 41 → σ'.1 168 y = σ.1 168 y := fun y h1 h2 => (hk 168 y (Or.inr ⟨rfl, h1, h2⟩)).1
  have k2 : ∀ x y, 183 ≤ x → x ≤ 196 → σ'.1 x y = σ.1 x y := fun x y h1 h2 => (hk x y (Or.inl ⟨h1, h2⟩)).1
  have k3 : ∀ x y, 183 ≤ x → x ≤ 196 → σ'.2.1 x y = σ.2.1 x y := fun x y h1 h2 => (hk x y (Or.inl ⟨h1, h2⟩)).2
  refine ⟨fun f hf => ?_, by rw [k1 _ (by omega) (by omega)]; exact c, fun q hq => ?_, fun f i hf hi => ?_, fun i hi => ?_, fun i hi => ?_, fun i hi => ?_, ?_, ?_⟩
  · have := szF_le f
    rw [k1 _ (by omega) (by omega)]; exact a f hf
  · rw [k2 _ _ (by omega) (by omega), k2 _ _ (by omega) (by omega)]; exact e q hq
  · have := h1F_b hf
    have := h2F_b hf
    rw [k2 _ _ (by omega) (by omega), k2 _ _ (by omega) (by omega)]; exact g f i hf hi
  · rw [k2 _ _ (by omega) (by omega), k3 _ _ (by omega) (by omega)]; exact k i hi
  · rw [k3 _ _ (by omega) (by omega)]; exact l i hi
  · rw [k2 _ _ (by omega) (by omega)]; exact m i hi
  · rw [k1 _ (by omega) (by omega), k1 _ (by omega) (by omega)]; exact n
  · rw [k1 _ (by omega) (by omega), k1 _ (by omega) (by omega)]; exact o
/-! the class's accessors -/
theorem sizeD (h : CD σ t D) {f : Nat} (hf : f < 4) : fX3_size t (nI f) σ = some (nI (dn D f), σ) := by
  simp (disch := omega) only [fX3_size, nI_clamp, gg_ix, h.1 f hf]
theorem memD (w : WFa D) (h : CD σ t D) {f i : Nat} (hf : f < 4) (hi : i < dn D f) : dm D f i < 130 ∧ dm D f i < dP D ∧ i < 60 ∧ σ.1 (t + 7 + f) i = nI (dm D f i) := by
  have a := w.nf hf
  have b := w.np
  have c := (w.2.2.1 f i hf hi).1
  exact ⟨by omega, c, by omega, h.2.2.2.1 f i hf hi⟩
theorem firstD (w : WFa D) (h : CD σ t D) {f i : Nat} (hf : f < 4) (hi : i < dn D f) : fX3_firstOf t (nI f) (nI i) σ = some (dx D (dm D f i), σ) := by
  obtain ⟨a, a2, b, c⟩ := memD w h hf hi
  have e := (h.2.2.1 _ a2).2.2.1
  simp (disch := omega) only [fX3_firstOf, nI_clamp, gg_ix, Nat.one_mul, c, e]
theorem secondD (w : WFa D) (h : CD σ t D) {f i : Nat} (hf : f < 4) (hi : i < dn D f) : fX3_secondOf t (nI f) (nI i) σ = some (dy D (dm D f i), σ) := by
  obtain ⟨a, a2, b, c⟩ := memD w h hf hi
  have e := (h.2.2.1 _ a2).2.2.2.1
  simp (disch := omega) only [fX3_secondOf, nI_clamp, gg_ix, Nat.one_mul, c, e]
theorem kindD (w : WFa D) (h : CD σ t D) {f i : Nat} (hf : f < 4) (hi : i < dn D f) : fX3_kindOf t (nI f) (nI i) σ = some (nI (dk D (dm D f i)), σ) := by
  obtain ⟨a, a2, b, c⟩ := memD w h hf hi
  have e := (h.2.2.1 _ a2).1
  simp (disch := omega) only [fX3_kindOf, nI_clamp, gg_ix, Nat.one_mul, c, e]
theorem groundD (w : WFa D) (h : CD σ t D) {i : Nat} (hi : i < dn D 0) : fX3_isGround t (nI i) σ = some (if dk D (dm D 0 i) = 1 then 1 else 0, σ) := by
  have hk := (w.2.1 _ (w.2.2.1 0 i (by decide) hi).1).1
  rw [fX3_isGround, show (0 : Int32) = nI 0 from rfl, kindD w h (by decide) hi, bd_r]
  by_cases q : dk D (dm D 0 i) = 1
  · rw [if_pos (by rw [q]; rfl), if_pos q, fX3_isGround_15]
    rfl
  · rw [if_neg (show ¬ nI (dk D (dm D 0 i)) = 1 from fun z => q ((nI_eq (b := 1) (by omega) (by decide)).mp z)), if_neg q, fX3_isGround_15]
    rfl
theorem fullD (w : WFa D) (h : CD σ t D) {f : Nat} (hf : f < 4) : fX3_isFull t (nI f) σ = some (if dn D f = mxF f then 1 else 0, σ) := by
  have a := w.nf hf
  have a2 := w.1 f hf
  have e : gW2 f = nI (mxF f) := by rcases (show f = 0 ∨ f = 1 ∨ f = 2 ∨ f = 3 by omega) with rfl | rfl | rfl | rfl <;> rfl
  have b : mxF f ≤ 60 := by rcases (show f = 0 ∨ f = 1 ∨ f = 2 ∨ f = 3 by omega) with rfl | rfl | rfl | rfl <;> decide
  simp (disch := omega) only [fX3_isFull, nI_clamp, gg_ix, h.1 f hf, e]
  by_cases q : dn D f = mxF f
  · rw [if_pos q, if_neg (nI_nlt (by omega) (by omega)), fX3_isFull_19, gg_t (Or.inr rfl)]
  · rw [if_neg q, if_pos (nI_lt (by omega) (by omega)), fX3_isFull_19, gg_t (Or.inl rfl)]
/-! the first with a name -/
def fnd (g : Nat → List Nat) (l : List Nat) : Nat → Nat → Nat
  | 0, i => i
  | k + 1, i => if g i = l then i else fnd g l k (i + 1)
theorem fnd_b (g : Nat → List Nat) (l : List Nat) : ∀ k i, i ≤ fnd g l k i ∧ fnd g l k i ≤ i + k
  | 0, i => ⟨Nat.le_refl _, Nat.le_refl _⟩
  | k + 1, i => by
    have := fnd_b g l k (i + 1)
    rw [fnd]
    split <;> omega
def dF (D : DT) (f : Nat) (l : List Nat) : Nat := fnd (fun i => dl D (dm D f i)) l (dn D f) 0
theorem numberD (w : WFa D) (h : CD σ t D) {f : Nat} (hf : f = 0 ∨ f = 2) {l : List Nat} (hl : isNm l) : fX3_numberOf t (nI f) (nI (c27 l)) σ = some (if dF D f l < dn D f then nI (dF D f l) else -1000000, σ) := by
  have hf4 : f < 4 := by omega
  have key : ∀ k i fu, i + k = dn D f → k < fu → fX3_numberOf_2 t (nI f) (nI (c27 l)) fu (nI i) σ = some (if fnd (fun i => dl D (dm D f i)) l k i < dn D f then nI (fnd (fun i => dl D (dm D f i)) l k i) else -1000000, σ) := by
    intro k
    induction k with
    | zero =>
      intro i fu e hfu
      obtain ⟨fu, rfl⟩ : ∃ y, fu = y + 1 := ⟨fu - 1, by omega⟩
      have := w.nf hf4
      simp (disch := omega) only [fX3_numberOf_2, nI_clamp, gg_ix, h.1 f hf4]
      rw [if_pos (nI_le (by omega) (by omega)), fnd, if_neg (by omega)]
    | succ k ih =>
      intro i fu e hfu
      obtain ⟨fu, rfl⟩ : ∃ y, fu = y + 1 := ⟨fu - 1, by omega⟩
      have := w.nf hf4
      have hi : i < dn D f := by omega
      obtain ⟨a, a2, b, c⟩ := memD w h hf4 hi
      have a3 := (w.2.2.1 f i hf4 hi).2.1
      have nm := w.2.2.2 _ a2 (by omega)
      have cn := (h.2.2.1 _ a2).2.2.2.2 (by omega)
      simp (disch := omega) only [fX3_numberOf_2, nI_clamp, gg_ix, h.1 f hf4, Nat.one_mul, c, cn, bnd_r]
      rw [if_neg (nI_ge (by omega) (by omega)), fnd]
      by_cases q : dl D (dm D f i) = l
      · rw [if_pos ((nm27 nm hl).mpr q), if_pos q, if_pos (by omega)]
      · rw [if_neg (fun z => q ((nm27 nm hl).mp z)), if_neg q, nI_1]
        exact ih (i + 1) fu (by omega) (by omega)
  have := w.nf hf4
  rw [fX3_numberOf]
  exact key (dn D f) 0 2000 (by omega) (by omega)
theorem jointOfR (w : WFa D) (h : RD σ D) {l : List Nat} (hl : isNm l) (hn : σ.2.1 168 47 = lN (c256 l)) : fX11_jointOf σ = some (if dF D 0 l < dn D 0 then nI (dF D 0 l) else -1, σ) := by
  have e0 : σ.1 168 21 = nI (dn D 0) := h.1 0 (by decide)
  have w4 := w.n4
  have key : ∀ k i fu, i + k = dn D 0 → k < fu → fX11_jointOf_2 fu (nI i) σ = some (if fnd (fun i => dl D (dm D 0 i)) l k i < dn D 0 then nI (fnd (fun i => dl D (dm D 0 i)) l k i) else -1, σ) := by
    intro k
    induction k with
    | zero =>
      intro i fu e hfu
      obtain ⟨fu, rfl⟩ : ∃ y, fu = y + 1 := ⟨fu - 1, by omega⟩
      rw [fX11_jointOf_2, e0, if_pos (nI_le (by omega) (by omega)), fnd, if_neg (by omega)]
    | succ k ih =>
      intro i fu e hfu
      obtain ⟨fu, rfl⟩ : ∃ y, fu = y + 1 := ⟨fu - 1, by omega⟩
      have hi : i < dn D 0 := by omega
      obtain ⟨a2, a3, a4⟩ := w.2.2.1 0 i (by decide) hi
      have nm := w.2.2.2 _ a2 (by omega)
      have cn := (h.2.2.2.2.1 i hi).2
      rw [fX11_jointOf_2, e0, if_neg (nI_ge (by omega) (by omega)), nI_clamp (by omega), gg_ix (by omega) (by decide), cn, hn, fnd]
      by_cases q : dl D (dm D 0 i) = l
      · rw [if_pos (cmp_eq.mpr ((nm256 nm hl).mpr q)), if_pos q, if_pos (by omega)]
      · rw [if_neg (fun z => q ((nm256 nm hl).mp (cmp_eq.mp z))), if_neg q, bnd_r, nI_1]
        exact ih (i + 1) fu (by omega) (by omega)
  rw [fX11_jointOf]
  exact key (dn D 0) 0 2000 (by omega) (by omega)
theorem wheelOfR (w : WFa D) (h : RD σ D) {l : List Nat} (hl : isNm l) (hn : σ.2.1 168 47 = lN (c256 l)) : fX11_wheelOf σ = some (if dF D 2 l < dn D 2 then nI (dF D 2 l) else -1, σ) := by
  have e0 : σ.1 168 26 = nI (dn D 2) := h.1 2 (by decide)
  have w4 := w.n4
  have key : ∀ k i fu, i + k = dn D 2 → k < fu → fX11_wheelOf_2 fu (nI i) σ = some (if fnd (fun i => dl D (dm D 2 i)) l k i < dn D 2 then nI (fnd (fun i => dl D (dm D 2 i)) l k i) else -1, σ) := by
    intro k
    induction k with
    | zero =>
      intro i fu e hfu
      obtain ⟨fu, rfl⟩ : ∃ y, fu = y + 1 := ⟨fu - 1, by omega⟩
      rw [fX11_wheelOf_2, e0, if_pos (nI_le (by omega) (by omega)), fnd, if_neg (by omega)]
    | succ k ih =>
      intro i fu e hfu
      obtain ⟨fu, rfl⟩ : ∃ y, fu = y + 1 := ⟨fu - 1, by omega⟩
      have hi : i < dn D 2 := by omega
      obtain ⟨a2, a3, a4⟩ := w.2.2.1 2 i (by decide) hi
      have nm := w.2.2.2 _ a2 (by omega)
      have cn := h.2.2.2.2.2.1 i hi
      rw [fX11_wheelOf_2, e0, if_neg (nI_ge (by omega) (by omega)), nI_clamp (by omega), gg_ix (by omega) (by decide), cn, hn, fnd]
      by_cases q : dl D (dm D 2 i) = l
      · rw [if_pos (cmp_eq.mpr ((nm256 nm hl).mpr q)), if_pos q, if_pos (by omega)]
      · rw [if_neg (fun z => q ((nm256 nm hl).mp (cmp_eq.mp z))), if_neg q, bnd_r, nI_1]
        exact ih (i + 1) fu (by omega) (by omega)
  rw [fX11_wheelOf]
  exact key (dn D 2) 0 2000 (by omega) (by omega)
/-! a known name: token p names a member of the family -/
def okO (D : DT) (f : Nat) (b : Nat → Nat) (m p : Nat) : Prop := isN b m p ∧ dF D f (tL b m p) < dn D f
noncomputable def oF (b : Nat → Nat) (m p : Nat) : Nat := cif (isN b m p) 4 (uf b m p)
theorem oF_b : 0 < oF b m p ∧ oF b m p < 10 := by
  unfold oF
  by_cases q : isN b m p
  · rw [cif_t q]; decide
  · rw [cif_f q]; exact uf_b
/-- the draft of the class, by its reference -/
def DC (σ : gS) (t : Nat) (D : DT) : Prop := (t = 4 ∨ t = 16) ∧ σ.2.2 1 3 = t ∧ WFa D ∧ CD σ t D
theorem DC.fr (h : DC σ t D) (f : frC σ σ') : DC σ' t D := ⟨h.1, by rw [(f 0 0 (by omega)).2.2]; exact h.2.1, h.2.2.1, h.2.2.2.keep (fun x y h1 h2 => (f x y (by have := h.1; omega)).1)⟩
theorem khC_ok {τ : gS} {f : Nat} (hf : f = 0 ∨ f = 2) (hD : DC σ t D) (hc : LC σ b m p) (hg : GC τ σ b m p) (q : okO D f b m p) : fX6_knownHere (nI f) σ = some (nI (dF D f (tL b m p)), σ) := by
  obtain ⟨e1, e2, e3⟩ := lc_N hc q.1
  obtain ⟨h4, ht, w, hd⟩ := hD
  have := w.nf (show f < 4 by omega)
  have q2 := q.2
  rw [fX6_knownHere, if_pos e1, bnd_r, ht, gg_t h4, e2, numberD w hd hf e3, if_pos q.2, bd_r, if_neg (fun z => nI_pos (show dF D f (tL b m p) < 2 ^ 31 by omega) (by rw [z]; decide)), fX6_knownHere_39]
theorem khC_bad {τ : gS} {f : Nat} (hf : f = 0 ∨ f = 2) (hD : DC σ t D) (hk : TKo b m p) (hc : LC σ b m p) (h8 : σ.1 1 8 = 0) (hg : frC τ σ) (q : ¬ okO D f b m p) : Wp (fX6_knownHere (nI f) σ) (fun _ σ' => BC τ σ' (oF b m p) (tS b m p)) := by
  obtain ⟨h4, ht, w, hd⟩ := hD
  rw [fX6_knownHere]
  by_cases qn : isN b m p
  · obtain ⟨e1, e2, e3⟩ := lc_N hc qn
    rw [if_pos e1, bnd_r, ht, gg_t h4, e2, numberD w hd hf e3, if_neg (fun z => q ⟨qn, z⟩), bd_r, if_pos rfl, failC h8, bd_r, fX6_knownHere_39, oF, cif_t qn]
    exact wp_r (bc_of (f := 4) hc hg (by decide) (by decide))
  · rw [if_neg (lc_nN hk hc qn), oF, cif_f qn]
    exact wp_bw (unfitC hk hc h8 hg) (fun _ σ'' hb => wp_r hb)
theorem knC_ok {f : Nat} (hf : f = 0 ∨ f = 2) (hD : DC σ t D) (h : PC σ b m p) (q : okO D f b m p) : Wp (fX6_knownName (nI f) σ) (fun r σ' => r = nI (dF D f (tL b m p)) ∧ GC σ σ' b m p ∧ LC σ' b m p) := by
  rw [fX6_knownName, if_pos h.2.2.2]
  refine wp_bw h.nx ?_
  rintro _ σ' ⟨hc, hk, h8, hg⟩
  rw [khC_ok hf (hD.fr hg.2) hc hg q, bd_r]
  exact wp_r ⟨rfl, hg, hc⟩
theorem knC_bad {f : Nat} (hf : f = 0 ∨ f = 2) (hD : DC σ t D) (h : PC σ b m p) (q : ¬ okO D f b m p) : Wp (fX6_knownName (nI f) σ) (fun r σ' => BC σ σ' (oF b m p) (tS b m p)) := by
  rw [fX6_knownName, if_pos h.2.2.2]
  refine wp_bw h.nx ?_
  rintro _ σ' ⟨hc, hk, h8, hg⟩
  exact wp_bw (khC_bad hf (hD.fr hg.2) hk hc h8 hg.2 q) (fun _ σ'' hb => wp_r hb)
theorem knC_n {f : Int32} (h : ¬ σ.1 1 8 = 0) : fX6_knownName f σ = some (-1000000, σ) := by rw [fX6_knownName, if_neg h]
theorem ojR_ok (w : WFa D) (hD : RD σ D) (h : PR σ b m p) (q : okO D 0 b m p) : fX11_oldJoint σ = some (nI (dF D 0 (tL b m p)), σ) := by
  obtain ⟨e1, e2, e3⟩ := lm_N h.2.2.1 q.1
  have := w.n4
  have q2 := q.2
  rw [fX11_oldJoint, wantM_ok h.2.2.2.1 e1, bd_r, goodM h.2.2.2.1, bd_r, i10, jointOfR w hD e3 e2, if_pos q2, bd_r, fX11_oldJoint_20, goodM h.2.2.2.1, bd_r, i10, if_pos (nI_pos' (by omega)), fX11_oldJoint_37]
theorem ojR_bad (w : WFa D) (hD : RD σ D) (h : PR σ b m p) (q : ¬ okO D 0 b m p) : Wp (fX11_oldJoint σ) (fun _ σ' => BR σ σ' (oF b m p) (tS b m p)) := by
  rw [fX11_oldJoint]
  by_cases qn : isN b m p
  · obtain ⟨e1, e2, e3⟩ := lm_N h.2.2.1 qn
    rw [wantM_ok h.2.2.2.1 e1, bd_r, goodM h.2.2.2.1, bd_r, i10, jointOfR w hD e3 e2, if_neg (fun z => q ⟨qn, z⟩), bd_r, fX11_oldJoint_20, goodM h.2.2.2.1, bd_r, i10, if_neg (by decide), badM h.2.2.2.1, bd_r, fX11_oldJoint_37, oF, cif_t qn]
    exact wp_r (br_of (f := 4) h.2.2.1 (frR.r σ) (by decide) (by decide))
  · rw [oF, cif_f qn]
    refine wp_bw (wantM_bad h (lm_nN h.2.2.2.2 h.2.2.1 qn)) ?_
    rintro _ σ' hb
    rw [goodM_n hb.nz, bd_r, i00, fX11_oldJoint_20, goodM_n hb.nz, bd_r, i00, fX11_oldJoint_37]
    exact wp_r hb
theorem ojR_n (h : ¬ σ.1 168 49 = 0) : fX11_oldJoint σ = some (-1, σ) := by
  rw [fX11_oldJoint, wantM_n h, bd_r, goodM_n h, bd_r, i00, fX11_oldJoint_20, goodM_n h, bd_r, i00, fX11_oldJoint_37]
theorem owR_ok (w : WFa D) (hD : RD σ D) (h : PR σ b m p) (q : okO D 2 b m p) : fX11_oldWheel σ = some (nI (dF D 2 (tL b m p)), σ) := by
  obtain ⟨e1, e2, e3⟩ := lm_N h.2.2.1 q.1
  have := w.n4
  have q2 := q.2
  rw [fX11_oldWheel, wantM_ok h.2.2.2.1 e1, bd_r, goodM h.2.2.2.1, bd_r, i10, wheelOfR w hD e3 e2, if_pos q2, bd_r, fX11_oldWheel_20, goodM h.2.2.2.1, bd_r, i10, if_pos (nI_pos' (by omega)), fX11_oldWheel_37]
theorem owR_bad (w : WFa D) (hD : RD σ D) (h : PR σ b m p) (q : ¬ okO D 2 b m p) : Wp (fX11_oldWheel σ) (fun _ σ' => BR σ σ' (oF b m p) (tS b m p)) := by
  rw [fX11_oldWheel]
  by_cases qn : isN b m p
  · obtain ⟨e1, e2, e3⟩ := lm_N h.2.2.1 qn
    rw [wantM_ok h.2.2.2.1 e1, bd_r, goodM h.2.2.2.1, bd_r, i10, wheelOfR w hD e3 e2, if_neg (fun z => q ⟨qn, z⟩), bd_r, fX11_oldWheel_20, goodM h.2.2.2.1, bd_r, i10, if_neg (by decide), badM h.2.2.2.1, bd_r, fX11_oldWheel_37, oF, cif_t qn]
    exact wp_r (br_of (f := 4) h.2.2.1 (frR.r σ) (by decide) (by decide))
  · rw [oF, cif_f qn]
    refine wp_bw (wantM_bad h (lm_nN h.2.2.2.2 h.2.2.1 qn)) ?_
    rintro _ σ' hb
    rw [goodM_n hb.nz, bd_r, i00, fX11_oldWheel_20, goodM_n hb.nz, bd_r, i00, fX11_oldWheel_37]
    exact wp_r hb
theorem owR_n (h : ¬ σ.1 168 49 = 0) : fX11_oldWheel σ = some (-1, σ) := by
  rw [fX11_oldWheel, wantM_n h, bd_r, goodM_n h, bd_r, i00, fX11_oldWheel_20, goodM_n h, bd_r, i00, fX11_oldWheel_37]
/-! a new name -/
def toldN (D : DT) (l : List Nat) : Prop := dF D 0 l < dn D 0 ∨ dF D 2 l < dn D 2
def okW (D : DT) (f : Nat) (b : Nat → Nat) (m p : Nat) : Prop := isN b m p ∧ ¬ toldN D (tL b m p) ∧ ¬ dn D f = mxF f
noncomputable def wF (D : DT) (b : Nat → Nat) (m p : Nat) : Nat := cif (isN b m p) (cif (toldN D (tL b m p)) 3 6) (uf b m p)
theorem nwC_ok {f : Nat} (hf : f < 4) (hD : DC σ t D) (h : PC σ b m p) (q : okW D f b m p) : Wp (fX6_newName (nI f) σ) (fun r σ' => r = nI (c27 (tL b m p)) ∧ isNm (tL b m p) ∧ GC σ σ' b m p) := by
  rw [fX6_newName, if_pos h.2.2.2]
  refine wp_bw h.nx ?_
  rintro _ σ' ⟨hc, hk, h8, hg⟩
  obtain ⟨e1, e2, e3⟩ := lc_N hc q.1
  obtain ⟨h4, ht, w, hd⟩ := hD.fr hg.2
  rw [if_pos e1, bnd_r, ht, gg_t h4, e2, show (0 : Int32) = nI 0 from rfl, numberD w hd (Or.inl rfl) e3, if_neg (fun z => q.2.1 (Or.inl z)), bd_r, if_pos rfl, bnd_r, ht, gg_t h4, show (2 : Int32) = nI 2 from rfl, e2, numberD w hd (Or.inr rfl) e3, if_neg (fun z => q.2.1 (Or.inr z)), bd_r, if_pos rfl, bnd_r, ht, gg_t h4, fullD w hd hf, if_neg q.2.2, bd_r, show nI 0 = 0 from rfl, i00, fX6_newName_88]
  exact wp_r ⟨e2, e3, hg⟩
theorem nwC_bad {f : Nat} (hf : f < 4) (hD : DC σ t D) (h : PC σ b m p) (q : ¬ okW D f b m p) : Wp (fX6_newName (nI f) σ) (fun r σ' => BC σ σ' (wF D b m p) (tS b m p)) := by
  rw [fX6_newName, if_pos h.2.2.2]
  refine wp_bw h.nx ?_
  rintro _ σ' ⟨hc, hk, h8, hg⟩
  obtain ⟨h4, ht, w, hd⟩ := hD.fr hg.2
  by_cases qn : isN b m p
  · obtain ⟨e1, e2, e3⟩ := lc_N hc qn
    have n0 := w.nf (show 0 < 4 by decide)
    have n2 := w.nf (show 2 < 4 by decide)
    rw [if_pos e1, bnd_r, ht, gg_t h4, e2, show (0 : Int32) = nI 0 from rfl, numberD w hd (Or.inl rfl) e3, bd_r, wF, cif_t qn]
    by_cases q0 : dF D 0 (tL b m p) < dn D 0
    · rw [if_pos q0, if_neg (fun z => nI_pos (show dF D 0 (tL b m p) < 2 ^ 31 by omega) (by rw [z]; decide)), fX6_newName_63, failC h8, bd_r, fX6_newName_88, cif_t (show toldN D (tL b m p) from Or.inl q0)]
      exact wp_r (bc_of (f := 3) hc hg.2 (by decide) (by decide))
    · rw [if_neg q0, if_pos rfl, bnd_r, ht, gg_t h4, show (2 : Int32) = nI 2 from rfl, e2, numberD w hd (Or.inr rfl) e3, bd_r]
      by_cases q2 : dF D 2 (tL b m p) < dn D 2
      · rw [if_pos q2, if_neg (fun z => nI_pos (show dF D 2 (tL b m p) < 2 ^ 31 by omega) (by rw [z]; decide)), fX6_newName_63, failC h8, bd_r, fX6_newName_88, cif_t (show toldN D (tL b m p) from Or.inr q2)]
        exact wp_r (bc_of (f := 3) hc hg.2 (by decide) (by decide))
      · have qt : ¬ toldN D (tL b m p) := fun z => z.elim q0 q2
        have qf : dn D f = mxF f := Classical.byContradiction fun z => q ⟨qn, qt, z⟩
        rw [if_neg q2, if_pos rfl, bnd_r, ht, gg_t h4, fullD w hd hf, if_pos qf, bd_r, show nI 0 = 0 from rfl, i10, failC h8, bd_r, fX6_newName_88, cif_f qt]
        exact wp_r (bc_of (f := 6) hc hg.2 (by decide) (by decide))
  · rw [if_neg (lc_nN hk hc qn), wF, cif_f qn]
    refine wp_bw (unfitC hk hc h8 hg.2) ?_
    rintro _ σ'' hb
    rw [fX6_newName_88]
    exact wp_r hb
theorem nwR_ok {f : Nat} (w : WFa D) (hD : RD σ D) (h : PR σ b m p) (q : okW D f b m p) : fX11_newName 0 σ = some ((), σ) := by
  obtain ⟨e1, e2, e3⟩ := lm_N h.2.2.1 q.1
  rw [fX11_newName, wantM_ok h.2.2.2.1 e1, bd_r, goodM h.2.2.2.1, bd_r, i10, jointOfR w hD e3 e2, if_neg (fun z => q.2.1 (Or.inl z)), bd_r, if_neg (by decide), wheelOfR w hD e3 e2, if_neg (fun z => q.2.1 (Or.inr z)), bd_r, if_pos (by decide), fX11_newName_31, goodM h.2.2.2.1, bd_r, i10, i00, fX11_newName_48]
theorem nwR_bad {f : Nat} {v : Int32} (w : WFa D) (hD : RD σ D) (h : PR σ b m p) (q : ¬ okW D f b m p) (hv : dn D f = mxF f → v = 1) : Wp (fX11_newName v σ) (fun _ σ' => BR σ σ' (wF D b m p) (tS b m p)) := by
  rw [fX11_newName]
  by_cases qn : isN b m p
  · obtain ⟨e1, e2, e3⟩ := lm_N h.2.2.1 qn
    have w4 := w.n4
    rw [wantM_ok h.2.2.2.1 e1, bd_r, goodM h.2.2.2.1, bd_r, i10, jointOfR w hD e3 e2, bd_r, wF, cif_t qn]
    have fin : ∀ (z : toldN D (tL b m p)), Wp (fX11_newName_26 v σ) (fun _ σ' => BR σ σ' (cif (toldN D (tL b m p)) 3 6) (tS b m p)) := by
      intro z
      have hb : BR σ (gsI (gsI σ 168 49 (nI 3)) 168 50 (σ.1 168 46)) 3 (tS b m p) := br_of h.2.2.1 (frR.r σ) (by decide) (by decide)
      rw [fX11_newName_26, show (3 : Int32) = nI 3 from rfl, badM h.2.2.2.1, bd_r, fX11_newName_31, goodM_n hb.nz, bd_r, i00, fX11_newName_48, cif_t z]
      exact wp_r hb
    by_cases q0 : dF D 0 (tL b m p) < dn D 0
    · rw [if_pos q0, if_pos (nI_pos' (by omega))]
      exact fin (Or.inl q0)
    · rw [if_neg q0, if_neg (by decide), wheelOfR w hD e3 e2, bd_r]
      by_cases q2 : dF D 2 (tL b m p) < dn D 2
      · rw [if_pos q2, if_neg (nI_pos (by omega))]
        exact fin (Or.inr q2)
      · have qt : ¬ toldN D (tL b m p) := fun z => z.elim q0 q2
        have qf : dn D f = mxF f := Classical.byContradiction fun z => q ⟨qn, qt, z⟩
        rw [if_neg q2, if_pos (by decide), fX11_newName_31, goodM h.2.2.2.1, bd_r, i10, hv qf, i10, badM h.2.2.2.1, bd_r, fX11_newName_48, cif_f qt]
        exact wp_r (br_of (f := 6) h.2.2.1 (frR.r σ) (by decide) (by decide))
  · rw [wF, cif_f qn]
    refine wp_bw (wantM_bad h (lm_nN h.2.2.2.2 h.2.2.1 qn)) ?_
    rintro _ σ' hb
    rw [goodM_n hb.nz, bd_r, i00, fX11_newName_31, goodM_n hb.nz, bd_r, i00, fX11_newName_48]
    exact wp_r hb
end DR

/-! ROWS: lay, put, get, move -/
theorem rI_o {σ : gS} {h k a b : Nat} {v : Int32} (hn : ¬ (a = h ∧ b = k)) : (gsI σ h k v).1 a b = σ.1 a b := by
  by_cases q : a = h
  · exact rI_k (fun z => hn ⟨q, z⟩)
  · exact rI_h q
theorem rJ_o {σ : gS} {h k a b : Nat} {v : Int64} (hn : ¬ (a = h ∧ b = k)) : (gsJ σ h k v).2.1 a b = σ.2.1 a b := by
  by_cases q : a = h
  · exact rJ_k (fun z => hn ⟨q, z⟩)
  · exact rJ_h q
theorem gg_ix {α : Type} {k n : Nat} {x : Option α} {inst : Decidable (¬ (nI k < 0 ∨ n ≤ k))} (h : k < n) (hn : n < 2 ^ 31) : @gg α (¬ (nI k < 0 ∨ n ≤ k)) inst x = x := if_pos (fun q => q.elim (fun z => nI_pos (by omega) z) (fun z => by omega))
/-- places b + i .. b + n - 1 of cell h become g i .. g (n - 1) -/
def gwJ (σ : gS) (h b i n : Nat) (g : Nat → Int64) : gS := (σ.1, fun a k => if a = h ∧ b + i ≤ k ∧ k < b + n then g (k - b) else σ.2.1 a k, σ.2.2)
def gwI (σ : gS) (h b i n : Nat) (g : Nat → Int32) : gS := (fun a k => if a = h ∧ b + i ≤ k ∧ k < b + n then g (k - b) else σ.1 a k, σ.2.1, σ.2.2)
theorem gwJ_end {σ : gS} {h b n : Nat} {g : Nat → Int64} : gwJ σ h b n n g = σ := by
  have : (fun a k => if a = h ∧ b + n ≤ k ∧ k < b + n then g (k - b) else σ.2.1 a k) = σ.2.1 := by
    funext a k
    rw [if_neg (by omega)]
  unfold gwJ
  rw [this]
theorem gwI_end {σ : gS} {h b n : Nat} {g : Nat → Int32} : gwI σ h b n n g = σ := by
  have : (fun a k => if a = h ∧ b + n ≤ k ∧ k < b + n then g (k - b) else σ.1 a k) = σ.1 := by
    funext a k
    rw [if_neg (by omega)]
  unfold gwI
  rw [this]
theorem gwJ_step {σ : gS} {h b i n : Nat} {g : Nat → Int64} (hi : i < n) : gwJ (gsJ σ h (b + i) (g i)) h b (i + 1) n g = gwJ σ h b i n g := by
  have : (fun a k => if a = h ∧ b + (i + 1) ≤ k ∧ k < b + n then g (k - b) else (gsJ σ h (b + i) (g i)).2.1 a k) = (fun a k => if a = h ∧ b + i ≤ k ∧ k < b + n then g (k - b) else σ.2.1 a k) := by
    funext a k
    by_cases q : a = h ∧ k = b + i
    · obtain ⟨rfl, rfl⟩ := q
      rw [if_neg (by omega), if_pos (by omega), rJ_s, show b + i - b = i by omega]
    · rw [rJ_o q]
      by_cases z : a = h ∧ b + i ≤ k ∧ k < b + n
      · rw [if_pos z, if_pos (by omega)]
      · rw [if_neg z, if_neg (by omega)]
  unfold gwJ
  rw [this]
  rfl
theorem gwI_step {σ : gS} {h b i n : Nat} {g : Nat → Int32} (hi : i < n) : gwI (gsI σ h (b + i) (g i)) h b (i + 1) n g = gwI σ h b i n g := by
  have : (fun a k => if a = h ∧ b + (i + 1) ≤ k ∧ k < b + n then g (k - b) else (gsI σ h (b + i) (g i)).1 a k) = (fun a k => if a = h ∧ b + i ≤ k ∧ k < b + n then g (k - b) else σ.1 a k) := by
    funext a k
    by_cases q : a = h ∧ k = b + i
    · obtain ⟨rfl, rfl⟩ := q
      rw [if_neg (by omega), if_pos (by omega), rI_s, show b + i - b = i by omega]
    · rw [rI_o q]
      by_cases z : a = h ∧ b + i ≤ k ∧ k < b + n
      · rw [if_pos z, if_pos (by omega)]
      · rw [if_neg z, if_neg (by omega)]
  unfold gwI
  rw [this]
  rfl
theorem wJ_o {σ : gS} {h b i n a k : Nat} {g : Nat → Int64} (hn : ¬ (a = h ∧ b + i ≤ k ∧ k < b + n)) : (gwJ σ h b i n g).2.1 a k = σ.2.1 a k := if_neg hn
theorem wJ_i {σ : gS} {h b i n k : Nat} {g : Nat → Int64} (hn : b + i ≤ k ∧ k < b + n) : (gwJ σ h b i n g).2.1 h k = g (k - b) := if_pos ⟨rfl, hn⟩
theorem wJ_1 {σ : gS} {h b i n : Nat} {g : Nat → Int64} : (gwJ σ h b i n g).1 = σ.1 := rfl
theorem wJ_3 {σ : gS} {h b i n : Nat} {g : Nat → Int64} : (gwJ σ h b i n g).2.2 = σ.2.2 := rfl
theorem wI_o {σ : gS} {h b i n a k : Nat} {g : Nat → Int32} (hn : ¬ (a = h ∧ b + i ≤ k ∧ k < b + n)) : (gwI σ h b i n g).1 a k = σ.1 a k := if_neg hn
theorem wI_i {σ : gS} {h b i n k : Nat} {g : Nat → Int32} (hn : b + i ≤ k ∧ k < b + n) : (gwI σ h b i n g).1 h k = g (k - b) := if_pos ⟨rfl, hn⟩
theorem wI_2 {σ : gS} {h b i n : Nat} {g : Nat → Int32} : (gwI σ h b i n g).2 = σ.2 := rfl
theorem fillJ {a n : Nat} {v : Int64} (hn : n < 2 ^ 31) : ∀ (k f i : Nat) (σ : gS), i + k = n → k < f → fJ7_fill_d0a16_6 a n v f (nI i) (nI n) σ = some ((), gwJ σ a 0 i n (fun _ => v)) := by
  intro k
  induction k with
  | zero =>
    intro f i σ hi hf
    obtain ⟨f, rfl⟩ : ∃ g, f = g + 1 := ⟨f - 1, by omega⟩
    have : i = n := by omega
    subst this
    rw [fJ7_fill_d0a16_6, if_pos (nI_le (Nat.le_refl _) hn), gwJ_end]
  | succ k ih =>
    intro f i σ hi hf
    obtain ⟨f, rfl⟩ : ∃ g, f = g + 1 := ⟨f - 1, by omega⟩
    rw [fJ7_fill_d0a16_6, if_neg (nI_ge (by omega) hn), gg_t (ix_nI (by omega) hn), bnd_r, bnd_r, nI_1, ih f (i + 1) _ (by omega) (by omega), nI_clamp (by omega)]
    have := gwJ_step (σ := σ) (h := a) (b := 0) (g := fun _ => v) (show i < n by omega)
    rw [Nat.zero_add] at this
    rw [this]
theorem fillI {a n : Nat} {v : Int32} (hn : n < 2 ^ 31) : ∀ (k f i : Nat) (σ : gS), i + k = n → k < f → fJ7_fill_53178_5 a n v f (nI i) (nI n) σ = some ((), gwI σ a 0 i n (fun _ => v)) := by
  intro k
  induction k with
  | zero =>
    intro f i σ hi hf
    obtain ⟨f, rfl⟩ : ∃ g, f = g + 1 := ⟨f - 1, by omega⟩
    have : i = n := by omega
    subst this
    rw [fJ7_fill_53178_5, if_pos (nI_le (Nat.le_refl _) hn), gwI_end]
  | succ k ih =>
    intro f i σ hi hf
    obtain ⟨f, rfl⟩ : ∃ g, f = g + 1 := ⟨f - 1, by omega⟩
    rw [fJ7_fill_53178_5, if_neg (nI_ge (by omega) hn), gg_t (ix_nI (by omega) hn), bnd_r, bnd_r, nI_1, ih f (i + 1) _ (by omega) (by omega), nI_clamp (by omega)]
    have := gwI_step (σ := σ) (h := a) (b := 0) (g := fun _ => v) (show i < n by omega)
    rw [Nat.zero_add] at this
    rw [this]
theorem fillJ_all {a n : Nat} {v : Int64} (hn : n < 2000) (σ : gS) : fJ7_fill_d0a16 a n v σ = some ((), gwJ σ a 0 0 n (fun _ => v)) := by
  rw [fJ7_fill_d0a16, bnd_r]
  exact fillJ (by omega) n 2000 0 σ (by omega) (by omega)
theorem fillI_all {a n : Nat} {v : Int32} (hn : n < 2000) (σ : gS) : fJ7_fill_53178 a n v σ = some ((), gwI σ a 0 0 n (fun _ => v)) := by
  rw [fJ7_fill_53178, bnd_r]
  exact fillI (by omega) n 2000 0 σ (by omega) (by omega)
/-- the item's place: 300 row + i -/
theorem it_ix {i j : Nat} (hi : i < 8) (hj : j < 300) : 300 * nI i + nI j = nI (300 * i + j) ∧ (nI (300 * i + j)).toNatClampNeg = 300 * i + j ∧ ¬ (nI (300 * i + j) < 0 ∨ 2400 ≤ (nI (300 * i + j)).toNatClampNeg) := by
  refine ⟨?_, nI_clamp (by omega), ix_nI (by omega) (by decide)⟩
  rw [show (300 : Int32) = nI 300 from rfl, pk_mul, nI_add]
theorem lay63 {i n : Nat} (p : Int32) (hi : i < 8) (hn : n ≤ 300) : ∀ (k f j : Nat) (σ : gS), j + k = n → k < f → fX11_lay_63 (nI i) p (nI n) f (nI j) σ = some (nI n, gwJ σ 231 (300 * i) j n (fun _ => 0)) := by
  intro k
  induction k with
  | zero =>
    intro f j σ hj hf
    obtain ⟨f, rfl⟩ : ∃ g, f = g + 1 := ⟨f - 1, by omega⟩
    have : j = n := by omega
    subst this
    rw [fX11_lay_63, if_pos (nI_le (Nat.le_refl _) (by omega)), gwJ_end]
  | succ k ih =>
    intro f j σ hj hf
    obtain ⟨f, rfl⟩ : ∃ g, f = g + 1 := ⟨f - 1, by omega⟩
    obtain ⟨e1, e2, e3⟩ := it_ix hi (show j < 300 by omega)
    rw [fX11_lay_63, if_neg (nI_ge (by omega) (by omega)), e1, gg_t e3, bnd_r, bnd_r, nI_1, ih f (j + 1) _ (by omega) (by omega), e2]
    rw [gwJ_step (σ := σ) (h := 231) (b := 300 * i) (g := fun _ => 0) (show j < n by omega)]
/-- what the rows' calls leave alone -/
def pRow (h k : Nat) : Prop := ¬ (h = 0 ∧ k = 11) ∧ ¬ (151 ≤ h ∧ h ≤ 167) ∧ ¬ (h = 168 ∧ k = 94) ∧ ¬ (229 ≤ h ∧ h ≤ 232)
def Fr (P : Nat → Nat → Prop) (σ σ' : gS) : Prop := ∀ h k, P h k → σ'.1 h k = σ.1 h k ∧ σ'.2.1 h k = σ.2.1 h k ∧ σ'.2.2 h k = σ.2.2 h k
set_option maxRecDepth 10000 in
theorem lay_eq {σ : gS} (h : iRows σ) (p q n : Int32) : Ok (fX10_lay p q n σ) (fX11_lay p q n) (fun σ' => iRows σ' ∧ Fr pRow σ σ') := by
  have h0 := h
  obtain ⟨hs, hr⟩ := h
  have e4 : (4 : Int32).toInt = 4 := rfl
  have e3 : (3 : Int64).toInt = 3 := rfl
  have e300 : (300 : Int32).toInt = 300 := rfl
  have bad : ∀ (A : Option (Int32 × gS)) (B : gS → Option (Int32 × gS)), A = some (-1000001, σ) → B σ = some (-1000001, σ) → Ok A B (fun σ' => iRows σ' ∧ Fr pRow σ σ') := fun A B hA hB => Ok.mk hA hB rfl ⟨h0, fun _ _ _ => ⟨rfl, rfl, rfl⟩⟩
  by_cases hp : 0 ≤ p.toInt ∧ p.toInt < 8
  · obtain ⟨i, hi, rfl⟩ := nI_get (n := 8) hp.1 hp.2 (by decide)
    obtain ⟨hc, hg, hg'⟩ := row_ix hi
    by_cases hq : 0 ≤ q.toInt ∧ q.toInt < 4
    · obtain ⟨l, hl, rfl⟩ := nI_get (n := 4) hq.1 hq.2 (by decide)
      have q1 : ¬ nI l < 0 := nI_pos (by omega)
      have q2 : ¬ 4 ≤ nI l := nI_ge (a := l) (b := 4) hl (by decide)
      have q3 : ∀ σ, fX11_in (nI l).toInt64 0 3 σ = some (1, σ) := fun σ => in_t (by rw [l32, nI_toInt (by omega), z64, e3]; omega)
      by_cases hn : n ≤ 300
      · by_cases hn0 : 0 ≤ n
        · obtain ⟨m, hm, rfl⟩ := nI_get (p := n) (n := 301) (by have := le32.mp hn0; rwa [z32] at this) (by have := le32.mp hn; rw [e300] at this; omega) (by decide)
          refine Ok.mk (r := nI m) (r' := nI m) (σ1 := gsI (gwJ (gsI (gsI (gsI σ (152 + 2 * i) 0 1) (152 + 2 * i) 1 (nI l)) (152 + 2 * i) 2 (nI m)) (152 + 2 * i + 1) 0 0 300 (fun _ => 0)) 0 11 0) (σ2 := gwJ (gsI (gsI (gsI (gsI (gwJ (gsI (gsI (gsI σ (152 + 2 * i) 0 1) (152 + 2 * i) 1 (nI l)) (152 + 2 * i) 2 (nI m)) (152 + 2 * i + 1) 0 0 300 (fun _ => 0)) 0 11 0) 168 94 0) 229 i (nI (l + 1))) 230 i (nI m)) 231 (300 * i) 0 m (fun _ => 0)) ?_ ?_ rfl ?_
          · simp only [fX10_lay, (isRow_yes hi σ).1, bd_r, bnd_r, i10, if_neg q1, if_neg q2, if_pos hn, if_pos hn0, gg_t hg, gg_t hg', hc, fX7_renew, fillJ_all (show 300 < 2000 by decide), fX10_fine]
          · simp only [fX11_lay, (isRow_yes hi _).2, bd_r, bnd_r, i10, q3, if_pos hn, if_pos hn0, gg_t hg, gg_t hg', hc, nI_1]
            exact lay63 _ hi (by omega) m 2000 0 _ (by omega) (by omega)
          · refine ⟨⟨?_, fun j hj => ?_⟩, fun h k hP => ?_⟩
            · simp (disch := omega) only [wJ_1, rI_s, rI_o]
            · by_cases hj2 : j = i
              · subst hj2
                refine Or.inr ⟨?_, l, m, hl, by omega, ?_, ?_, ?_, ?_, fun x hx => ?_⟩
                · simp (disch := omega) only [wJ_1, rI_s, rI_o]
                · simp (disch := omega) only [wJ_1, rI_s, rI_o]
                · simp (disch := omega) only [wJ_1, rI_s, rI_o]
                · simp (disch := omega) only [wJ_1, rI_s, rI_o]
                · simp (disch := omega) only [wJ_1, rI_s, rI_o]
                · rw [show 153 + 2 * j = 152 + 2 * j + 1 by omega]
                  simp (disch := omega) only [gsI_2, wJ_o, wJ_i]
              · refine iRow_keep2 (hr j hj) (fun k => ?_) (fun x hx => ?_)
                · simp (disch := omega) only [wJ_1, rI_o, and_self]
                · simp (disch := omega) only [gsI_2, wJ_o, and_self]
            · obtain ⟨a1, a2, a3, a4⟩ := hP
              refine ⟨?_, ?_, rfl⟩
              · simp (disch := omega) only [wJ_1, rI_o]
              · simp (disch := omega) only [gsI_2, wJ_o]
        · refine Ok.mk (r := -1000010 - 4) (r' := -1000010 - 4) (σ1 := gsI σ 0 11 4) (σ2 := gsI (gsI (gsI σ 0 11 4) 168 94 0) 168 94 4) ?_ ?_ rfl ?_
          · simp only [fX10_lay, (isRow_yes hi σ).1, bd_r, bnd_r, i10, if_neg q1, if_neg q2, if_pos hn, if_neg hn0, fX10_found]
          · simp only [fX11_lay, (isRow_yes hi _).2, bd_r, bnd_r, i10, q3, if_pos hn, if_neg hn0, fX11_finds]
          · refine ⟨⟨?_, fun j hj => iRow_keep2 (hr j hj) (fun k => ?_) (fun _ _ => ⟨rfl, rfl⟩)⟩, fun h k hP => ?_⟩
            · simp (disch := omega) only [rI_s, rI_o]
            · simp (disch := omega) only [rI_o, and_self]
            · obtain ⟨a1, a2, a3, a4⟩ := hP
              refine ⟨?_, rfl, rfl⟩
              simp (disch := omega) only [rI_o]
      · refine bad _ _ ?_ ?_
        · simp only [fX10_lay, fX10_lay_23, (isRow_yes hi σ).1, bd_r, i10, if_neg q1, if_neg q2, if_neg hn]
        · simp only [fX11_lay, fX11_lay_26, (isRow_yes hi _).2, bd_r, i10, q3, if_neg hn]
    · refine bad _ _ ?_ ?_
      · by_cases q1 : q < 0
        · simp only [fX10_lay, fX10_lay_23, (isRow_yes hi σ).1, bd_r, i10, if_pos q1]
        · have q2 : 4 ≤ q := le32.mpr (by have := mt lt32.mpr q1; rw [z32] at this; rw [e4]; omega)
          simp only [fX10_lay, fX10_lay_23, (isRow_yes hi σ).1, bd_r, i10, if_neg q1, if_pos q2]
      · simp only [fX11_lay, fX11_lay_26, (isRow_yes hi _).2, bd_r, i10, in_f (show ¬ ((0 : Int64).toInt ≤ q.toInt64.toInt ∧ q.toInt64.toInt ≤ (3 : Int64).toInt) by rw [l32, z64, e3]; omega), i00, if_true]
  · refine bad _ _ ?_ ?_
    · simp only [fX10_lay, fX10_lay_23, (isRow_no hp σ).1, bd_r, i00, if_true]
    · simp only [fX11_lay, fX11_lay_26, (isRow_no hp σ).2, bd_r, i00, if_true]
/-- a FINDING of both -/
theorem find_ok {σ : gS} (h : iRows σ) (f : Int32) : iRows (gsI (gsI (gsI σ 0 11 f) 168 94 0) 168 94 f) ∧ Fr pRow σ (gsI (gsI (gsI σ 0 11 f) 168 94 0) 168 94 f) := by
  obtain ⟨hs, hr⟩ := h
  refine ⟨⟨?_, fun j hj => iRow_keep2 (hr j hj) (fun k => ?_) (fun _ _ => ⟨rfl, rfl⟩)⟩, fun h k hP => ?_⟩
  · simp (disch := omega) only [rI_s, rI_o]
  · simp (disch := omega) only [rI_o, and_self]
  · obtain ⟨a1, a2, a3, a4⟩ := hP
    refine ⟨?_, rfl, rfl⟩
    simp (disch := omega) only [rI_o]
def cutL (l : Nat) (v : Int64) : Int64 := match l with
  | 0 => v.toInt32.toInt8.toInt32.toInt64
  | 1 => v.toInt32.toInt16.toInt32.toInt64
  | 2 => v.toInt32.toInt64
  | _ => v
theorem cutC {σ : gS} {t l : Nat} (h : σ.1 t 1 = nI l) (hl : l < 4) (v : Int64) : fX7_cutToLane t v σ = some (cutL l v, σ) := by
  unfold fX7_cutToLane
  rw [h]
  rcases (show l = 0 ∨ l = 1 ∨ l = 2 ∨ l = 3 by omega) with rfl | rfl | rfl | rfl
  · rw [if_pos (by decide)]; rfl
  · rw [if_neg (by decide), if_pos (by decide)]; rfl
  · rw [if_neg (by decide), if_neg (by decide), if_pos (by decide)]; rfl
  · rw [if_neg (by decide), if_neg (by decide), if_neg (by decide)]; rfl
theorem cutM {σ : gS} {l : Nat} (hl : l < 4) (v : Int64) : fX11_cut (nI (l + 1)) v σ = some (cutL l v, σ) := by
  unfold fX11_cut fX11_cut_36
  rcases (show l = 0 ∨ l = 1 ∨ l = 2 ∨ l = 3 by omega) with rfl | rfl | rfl | rfl
  · rw [if_pos (by decide)]; rfl
  · rw [if_neg (by decide), if_pos (by decide)]; rfl
  · rw [if_neg (by decide), if_neg (by decide), if_pos (by decide)]; rfl
  · rw [if_neg (by decide), if_neg (by decide), if_neg (by decide)]; rfl
/-- the three ways of put and get: no row, no place, a place -/
theorem refC_no {σ : gS} {p i : Int32} (hp : ¬ (0 ≤ p.toInt ∧ p.toInt < 8)) : fX10_refusalAt p i σ = some (-1000001, σ) := by
  simp only [fX10_refusalAt, (isRow_no hp σ).1, bd_r, i00, if_true]
theorem refC_null {σ : gS} {i : Nat} {p : Int32} (hi : i < 8) (h : σ.1 (152 + 2 * i) 0 = 0) : fX10_refusalAt (nI i) p σ = some (-1000010 - 1, gsI σ 0 11 1) := by
  obtain ⟨hc, hg, hg'⟩ := row_ix hi
  simp only [fX10_refusalAt, (isRow_yes hi σ).1, bd_r, i10, gg_t hg, gg_t hg', hc, bnd_r, h, if_true, fX10_found]
theorem refC_place {σ : gS} {i n : Nat} {p : Int32} (hi : i < 8) (h : σ.1 (152 + 2 * i) 0 = 1) (h2 : σ.1 (152 + 2 * i) 2 = nI n) (hn : n ≤ 300) (hp : ¬ (0 ≤ p.toInt ∧ p.toInt < n)) : fX10_refusalAt (nI i) p σ = some (-1000010 - 2, gsI σ 0 11 2) := by
  obtain ⟨hc, hg, hg'⟩ := row_ix hi
  by_cases q : p < 0
  · simp only [fX10_refusalAt, fX10_refusalAt_45, fX10_refusalAt_58, (isRow_yes hi σ).1, bd_r, i10, gg_t hg, gg_t hg', hc, bnd_r, h, if_pos q, fX10_found]
  · have q2 : ¬ p < nI n := fun z => by
      have a := lt32.mp z
      have b := mt lt32.mpr q
      rw [z32] at b
      rw [nI_toInt (by omega)] at a
      omega
    simp only [fX10_refusalAt, fX10_refusalAt_45, fX10_refusalAt_58, (isRow_yes hi σ).1, bd_r, i10, gg_t hg, gg_t hg', hc, bnd_r, h, h2, if_neg q, if_neg q2, fX10_found]
theorem refC_ok {σ : gS} {i n j : Nat} (hi : i < 8) (h : σ.1 (152 + 2 * i) 0 = 1) (h2 : σ.1 (152 + 2 * i) 2 = nI n) (hn : n ≤ 300) (hj : j < n) : fX10_refusalAt (nI i) (nI j) σ = some (0, gsI σ 0 11 0) := by
  obtain ⟨hc, hg, hg'⟩ := row_ix hi
  simp only [fX10_refusalAt, fX10_refusalAt_58, (isRow_yes hi σ).1, bd_r, i10, gg_t hg, gg_t hg', hc, bnd_r, h, h2, if_neg (nI_pos (show j < 2 ^ 31 by omega)), if_pos (nI_lt hj (show n < 2 ^ 31 by omega)), fX10_fine]
theorem m1I {n : Nat} (h : n < 2 ^ 30) : (nI n - 1).toInt = (n : Int) - 1 := by
  have := pk_sub_toInt (a := n) (b := 1) h (by decide)
  exact this
theorem flM_null {σ : gS} {i : Nat} {p : Int32} (hi : i < 8) (h : σ.1 229 i = 0) : fX11_itemFault (nI i) p σ = some (1, σ) := by
  obtain ⟨hc, hg, hg'⟩ := row_ix hi
  simp only [fX11_itemFault, fX11_itemFault_36, gg_t hg, gg_t hg', hc, h, if_true]
theorem flM_place {σ : gS} {i n l : Nat} {p : Int32} (hi : i < 8) (h : σ.1 229 i = nI (l + 1)) (hl : l < 4) (h2 : σ.1 230 i = nI n) (hn : n ≤ 300) (hp : ¬ (0 ≤ p.toInt ∧ p.toInt < n)) : fX11_itemFault (nI i) p σ = some (2, σ) := by
  obtain ⟨hc, hg, hg'⟩ := row_ix hi
  have z : ∀ τ, fX11_in p.toInt64 0 (nI n - 1).toInt64 τ = some (0, τ) := fun τ => in_f (by rw [l32, l32, z64, m1I (by omega)]; omega)
  simp only [fX11_itemFault, fX11_itemFault_36, gg_t hg, gg_t hg', hc, h, h2, if_neg (nI_ne (show 0 < l + 1 by omega) (by omega)), z, bd_r, i00, if_true]
theorem flM_ok {σ : gS} {i n l j : Nat} (hi : i < 8) (h : σ.1 229 i = nI (l + 1)) (hl : l < 4) (h2 : σ.1 230 i = nI n) (hn : n ≤ 300) (hj : j < n) : fX11_itemFault (nI i) (nI j) σ = some (0, σ) := by
  obtain ⟨hc, hg, hg'⟩ := row_ix hi
  have z : ∀ τ, fX11_in (nI j).toInt64 0 (nI n - 1).toInt64 τ = some (1, τ) := fun τ => in_t (by rw [l32, l32, z64, m1I (by omega), nI_toInt (by omega)]; omega)
  simp only [fX11_itemFault, fX11_itemFault_36, gg_t hg, gg_t hg', hc, h, h2, if_neg (nI_ne (show 0 < l + 1 by omega) (by omega)), z, bd_r, i10]
set_option maxRecDepth 10000 in
theorem get_eq {σ : gS} (h : iRows σ) (p q : Int32) : Ok (fX10_get p q σ) (fX11_get p q) (fun σ' => iRows σ' ∧ Fr pRow σ σ') := by
  have h0 := h
  obtain ⟨hs, hr⟩ := h
  have n1 : ¬ ((-1000010 : Int32) - 1 = 0) := by decide
  have n2 : ¬ ((-1000010 : Int32) - 2 = 0) := by decide
  have n3 : ¬ ((1 : Int32) = 0) := by decide
  have n4 : ¬ ((2 : Int32) = 0) := by decide
  by_cases hp : 0 ≤ p.toInt ∧ p.toInt < 8
  · obtain ⟨i, hi, rfl⟩ := nI_get (n := 8) hp.1 hp.2 (by decide)
    obtain ⟨hc, hg, hg'⟩ := row_ix hi
    rcases hr i hi with ⟨h1, h2⟩ | ⟨h1, l, n, hl, hn, h2, h3, h4, h5, h6⟩
    · refine Ok.mk (r := (-1000010 - 1 : Int32).toInt64) (r' := (-1000010 - 1 : Int32).toInt64) (σ1 := gsI σ 0 11 1) (σ2 := gsI (gsI (gsI σ 0 11 1) 168 94 0) 168 94 1) ?_ ?_ rfl (find_ok h0 1)
      · simp only [fX10_get, fX10_get_27, refC_null hi h1, bd_r, if_neg n1]
      · simp only [fX11_get, fX11_get_48, (isRow_yes hi _).2, bd_r, i10, bnd_r, flM_null (σ := gsI (gsI σ 0 11 1) 168 94 0) hi (by simp (disch := omega) only [rI_o]; exact h2), if_neg n3, fX11_finds]
    · by_cases hq : 0 ≤ q.toInt ∧ q.toInt < n
      · obtain ⟨j, hj, rfl⟩ := nI_get (n := n) hq.1 hq.2 (by omega)
        obtain ⟨e1, e2, e3⟩ := it_ix hi (show j < 300 by omega)
        have hcj : (nI j).toNatClampNeg = j := nI_clamp (by omega)
        have g3 := ix_nI (show j < 300 by omega) (by decide)
        refine Ok.mk (r := σ.2.1 (153 + 2 * i) j) (r' := σ.2.1 231 (300 * i + j)) (σ1 := gsI σ 0 11 0) (σ2 := gsI (gsI σ 0 11 0) 168 94 0) ?_ ?_ (h6 j hj).symm ⟨⟨?_, fun x hx => iRow_keep2 (hr x hx) (fun k => ?_) (fun _ _ => ⟨rfl, rfl⟩)⟩, fun a k hP => ?_⟩
        · rw [show 153 + 2 * i = 152 + 2 * i + 1 by omega]
          simp only [fX10_get, fX10_get_27, refC_ok hi h1 h4 hn hj, bd_r, if_true, gg_t hg, gg_t hg', hc, bnd_r, hcj, gsI_2]
          rw [gg_ix (by omega) (by decide)]
        · simp only [fX11_get, fX11_get_48, (isRow_yes hi _).2, bd_r, i10, bnd_r, flM_ok (σ := gsI (gsI σ 0 11 0) 168 94 0) hi (by simp (disch := omega) only [rI_o]; exact h3) hl (by simp (disch := omega) only [rI_o]; exact h5) hn hj, if_true, e1, e2, gsI_2]
          rw [gg_ix (by omega) (by decide)]
        · simp (disch := omega) only [rI_s, rI_o]
        · simp (disch := omega) only [rI_o, and_self]
        · obtain ⟨a1, a2, a3, a4⟩ := hP
          refine ⟨?_, rfl, rfl⟩
          simp (disch := omega) only [rI_o]
      · refine Ok.mk (r := (-1000010 - 2 : Int32).toInt64) (r' := (-1000010 - 2 : Int32).toInt64) (σ1 := gsI σ 0 11 2) (σ2 := gsI (gsI (gsI σ 0 11 2) 168 94 0) 168 94 2) ?_ ?_ rfl (find_ok h0 2)
        · simp only [fX10_get, fX10_get_27, refC_place hi h1 h4 hn hq, bd_r, if_neg n2]
        · simp only [fX11_get, fX11_get_48, (isRow_yes hi _).2, bd_r, i10, bnd_r, flM_place (σ := gsI (gsI σ 0 11 2) 168 94 0) hi (by simp (disch := omega) only [rI_o]; exact h3) hl (by simp (disch := omega) only [rI_o]; exact h5) hn hq, if_neg n4, fX11_finds]
  · refine Ok.mk (r := (-1000001 : Int32).toInt64) (r' := -1000001) (σ1 := σ) (σ2 := σ) ?_ ?_ (by decide) ⟨h0, fun _ _ _ => ⟨rfl, rfl, rfl⟩⟩
    · simp only [fX10_get, fX10_get_27, refC_no hp, bd_r, if_neg (show ¬ ((-1000001 : Int32) = 0) by decide)]
    · simp only [fX11_get, (isRow_no hp σ).2, bd_r, i00, if_true]
theorem storeC {σ : gS} {t l j : Nat} (h : σ.1 t 1 = nI l) (hl : l < 4) (hj : j < 300) (v : Int64) : fX7_store t (nI j) v σ = some (cutL l v, gsJ σ (t + 1) j (cutL l v)) := by
  simp (disch := omega) only [fX7_store, cutC h hl v, bd_r, bnd_r, nI_clamp, gg_ix, rJ_s]
set_option maxRecDepth 10000 in
theorem put_eq {σ : gS} (h : iRows σ) (p q : Int32) (v : Int64) : Ok (fX10_put p q v σ) (fX11_put p q v) (fun σ' => iRows σ' ∧ Fr pRow σ σ') := by
  have h0 := h
  obtain ⟨hs, hr⟩ := h
  have n1 : ¬ ((-1000010 : Int32) - 1 = 0) := by decide
  have n2 : ¬ ((-1000010 : Int32) - 2 = 0) := by decide
  have n3 : ¬ ((1 : Int32) = 0) := by decide
  have n4 : ¬ ((2 : Int32) = 0) := by decide
  by_cases hp : 0 ≤ p.toInt ∧ p.toInt < 8
  · obtain ⟨i, hi, rfl⟩ := nI_get (n := 8) hp.1 hp.2 (by decide)
    obtain ⟨hc, hg, hg'⟩ := row_ix hi
    rcases hr i hi with ⟨h1, h2⟩ | ⟨h1, l, n, hl, hn, h2, h3, h4, h5, h6⟩
    · refine Ok.mk (r := (-1000010 - 1 : Int32).toInt64) (r' := (-1000010 - 1 : Int32).toInt64) (σ1 := gsI σ 0 11 1) (σ2 := gsI (gsI (gsI σ 0 11 1) 168 94 0) 168 94 1) ?_ ?_ rfl (find_ok h0 1)
      · simp only [fX10_put, fX10_put_30, refC_null hi h1, bd_r, if_neg n1]
      · simp only [fX11_put, (isRow_yes hi _).2, bd_r, i10, bnd_r, flM_null (σ := gsI (gsI σ 0 11 1) 168 94 0) hi (by simp (disch := omega) only [rI_o]; exact h2), if_neg n3, fX11_finds]
    · by_cases hq : 0 ≤ q.toInt ∧ q.toInt < n
      · obtain ⟨j, hj, rfl⟩ := nI_get (n := n) hq.1 hq.2 (by omega)
        obtain ⟨e1, e2, e3⟩ := it_ix hi (show j < 300 by omega)
        refine Ok.mk (r := cutL l v) (r' := cutL l v) (σ1 := gsJ (gsI σ 0 11 0) (152 + 2 * i + 1) j (cutL l v)) (σ2 := gsJ (gsI (gsJ (gsI σ 0 11 0) (152 + 2 * i + 1) j (cutL l v)) 168 94 0) 231 (300 * i + j) (cutL l v)) ?_ ?_ rfl ⟨⟨?_, fun x hx => ?_⟩, fun a k hP => ?_⟩
        · simp only [fX10_put, fX10_put_30, refC_ok hi h1 h4 hn hj, bd_r, if_true, gg_t hg, gg_t hg', hc, bnd_r, storeC (σ := gsI σ 0 11 0) (t := 152 + 2 * i) (l := l) (by simp (disch := omega) only [rI_o]; exact h2) hl (show j < 300 by omega) v]
        · simp only [fX11_put, (isRow_yes hi _).2, bd_r, i10, bnd_r, flM_ok (σ := gsI (gsJ (gsI σ 0 11 0) (152 + 2 * i + 1) j (cutL l v)) 168 94 0) hi (by simp (disch := omega) only [rI_o, gsJ_1]; exact h3) hl (by simp (disch := omega) only [rI_o, gsJ_1]; exact h5) hn hj, if_true, e1, e2, hc, gg_t hg']
          simp (disch := omega) only [rI_o, gsJ_1, h3, cutM hl, bd_r, gg_ix, rJ_s]
        · simp (disch := omega) only [rI_s, rI_o, gsJ_1]
        · by_cases hx2 : x = i
          · subst hx2
            refine Or.inr ⟨?_, l, n, hl, hn, ?_, ?_, ?_, ?_, fun y hy => ?_⟩
            · simp (disch := omega) only [rI_o, gsJ_1]; exact h1
            · simp (disch := omega) only [rI_o, gsJ_1]; exact h2
            · simp (disch := omega) only [rI_o, gsJ_1]; exact h3
            · simp (disch := omega) only [rI_o, gsJ_1]; exact h4
            · simp (disch := omega) only [rI_o, gsJ_1]; exact h5
            · by_cases hy2 : y = j
              · subst hy2
                rw [rJ_s, show 153 + 2 * x = 152 + 2 * x + 1 by omega]
                simp (disch := omega) only [rJ_o, gsI_2, rJ_s]
              · rw [show 153 + 2 * x = 152 + 2 * x + 1 by omega]
                simp (disch := omega) only [rJ_o, gsI_2]
                rw [show 152 + 2 * x + 1 = 153 + 2 * x by omega]
                exact h6 y hy
          · refine iRow_keep2 (hr x hx) (fun k => ?_) (fun y hy => ?_)
            · simp (disch := omega) only [rI_o, gsJ_1, and_self]
            · simp (disch := omega) only [rJ_o, gsI_2, and_self]
        · obtain ⟨a1, a2, a3, a4⟩ := hP
          refine ⟨?_, ?_, rfl⟩
          · simp (disch := omega) only [rI_o, gsJ_1]
          · simp (disch := omega) only [rJ_o, gsI_2]
      · refine Ok.mk (r := (-1000010 - 2 : Int32).toInt64) (r' := (-1000010 - 2 : Int32).toInt64) (σ1 := gsI σ 0 11 2) (σ2 := gsI (gsI (gsI σ 0 11 2) 168 94 0) 168 94 2) ?_ ?_ rfl (find_ok h0 2)
        · simp only [fX10_put, fX10_put_30, refC_place hi h1 h4 hn hq, bd_r, if_neg n2]
        · simp only [fX11_put, (isRow_yes hi _).2, bd_r, i10, bnd_r, flM_place (σ := gsI (gsI σ 0 11 2) 168 94 0) hi (by simp (disch := omega) only [rI_o]; exact h3) hl (by simp (disch := omega) only [rI_o]; exact h5) hn hq, if_neg n4, fX11_finds]
  · refine Ok.mk (r := (-1000001 : Int32).toInt64) (r' := -1000001) (σ1 := σ) (σ2 := σ) ?_ ?_ (by decide) ⟨h0, fun _ _ _ => ⟨rfl, rfl, rfl⟩⟩
    · simp only [fX10_put, fX10_put_30, refC_no hp, bd_r, if_neg (show ¬ ((-1000001 : Int32) = 0) by decide)]
    · simp only [fX11_put, (isRow_no hp σ).2, bd_r, i00, if_true]
theorem status_eq {σ : gS} (h : iRows σ) : Ok (fX10_status σ) fX11_status (fun σ' => σ' = σ) := by
  refine Ok.mk (r := σ.1 0 11) (r' := σ.1 168 94) (σ1 := σ) (σ2 := σ) ?_ ?_ h.1.symm rfl
  · simp only [fX10_status]
  · simp only [fX11_status]

/-! ROWS: drop (with what it leaves alone), move -/
set_option maxRecDepth 10000 in
theorem drop_eq2 {σ : gS} (h : iRows σ) (p : Int32) : Ok (fX10_drop p σ) (fX11_drop p) (fun σ' => iRows σ' ∧ Fr pRow σ σ') := by
  have h0 := h
  obtain ⟨hs, hr⟩ := h
  by_cases hp : 0 ≤ p.toInt ∧ p.toInt < 8
  · obtain ⟨i, hi, rfl⟩ := nI_get (n := 8) hp.1 hp.2 (by decide)
    obtain ⟨hc, hg, hg'⟩ := row_ix hi
    rcases hr i hi with ⟨h1, h2⟩ | ⟨h1, q, n, hq, hn, h2, h3, h4, h5, h6⟩
    · refine Ok.mk (r := -1000010 - 1) (r' := -1000010 - 1) (σ1 := gsI σ 0 11 1) (σ2 := gsI (gsI (gsI σ 0 11 1) 168 94 0) 168 94 1) ?_ ?_ rfl (find_ok h0 1)
      · simp only [fX10_drop, fX10_found, (isRow_yes hi σ).1, bd_r, bnd_r, i10, gg_t hg, gg_t hg', hc, h1, i00, if_true]
      · simp (disch := omega) only [fX11_drop, fX11_finds, (isRow_yes hi _).2, bd_r, bnd_r, i10, gg_t hg, gg_t hg', hc, rI_h, h2, i00, if_true]
    · refine Ok.mk (r := nI n) (r' := nI n) (σ1 := gsI (gsI σ (152 + 2 * i) 0 0) 0 11 0) (σ2 := gsI (gsI (gsI (gsI σ (152 + 2 * i) 0 0) 0 11 0) 168 94 0) 229 i 0) ?_ ?_ rfl ⟨⟨?_, fun j hj => ?_⟩, fun a k hP => ?_⟩
      · simp (disch := omega) only [fX10_drop, fX10_fine, (isRow_yes hi σ).1, bd_r, bnd_r, i10, gg_t hg, gg_t hg', hc, h1, rI_k, h4]
      · simp (disch := omega) only [fX11_drop, (isRow_yes hi _).2, bd_r, bnd_r, i10, gg_t hg, gg_t hg', hc, rI_h, h3, h5, if_neg (nI_ne (show 0 < q + 1 by omega) (by omega))]
      · simp (disch := omega) only [rI_s, rI_h, rI_k]
      · by_cases hj2 : j = i
        · subst hj2
          left
          simp (disch := omega) only [rI_s, rI_h, and_self]
        · refine iRow_keep2 (hr j hj) (fun k => ?_) (fun _ _ => ⟨rfl, rfl⟩)
          simp (disch := omega) only [rI_h, rI_k, and_self]
      · obtain ⟨a1, a2, a3, a4⟩ := hP
        refine ⟨?_, rfl, rfl⟩
        simp (disch := omega) only [rI_o]
  · refine Ok.mk (r := -1000001) (r' := -1000001) (σ1 := σ) (σ2 := σ) ?_ ?_ rfl ⟨h0, fun _ _ _ => ⟨rfl, rfl, rfl⟩⟩
    · simp only [fX10_drop, (isRow_no hp σ).1, bd_r, i00, if_true]
    · simp only [fX11_drop, (isRow_no hp σ).2, bd_r, i00, if_true]
theorem it_ix3 {i j x : Nat} (h : 300 * i + j + x < 2400) : 300 * nI i + nI j + nI x = nI (300 * i + j + x) ∧ (nI (300 * i + j + x)).toNatClampNeg = 300 * i + j + x := by
  refine ⟨?_, nI_clamp (by omega)⟩
  rw [show (300 : Int32) = nI 300 from rfl, pk_mul, nI_add, nI_add]
theorem mv164 {a i b j n : Nat} {g : Nat → Int64} (hn : n ≤ 300) (hb : b < 8) (hj : j + n ≤ 300) : ∀ (k f x : Nat) (σ : gS), x + k = n → k < f → (∀ y, y < n → σ.2.1 232 y = g y) → fX11_move_164 (nI a) (nI i) (nI b) (nI j) (nI n) f (nI x) σ = some (nI n, gwJ σ 231 (300 * b + j) x n g) := by
  intro k
  induction k with
  | zero =>
    intro f x σ hx hf hg
    obtain ⟨f, rfl⟩ : ∃ g, f = g + 1 := ⟨f - 1, by omega⟩
    have : x = n := by omega
    subst this
    rw [fX11_move_164, if_pos (nI_le (Nat.le_refl _) (by omega)), gwJ_end]
  | succ k ih =>
    intro f x σ hx hf hg
    obtain ⟨f, rfl⟩ : ∃ g, f = g + 1 := ⟨f - 1, by omega⟩
    obtain ⟨e1, e2⟩ := it_ix3 (i := b) (j := j) (x := x) (by omega)
    rw [fX11_move_164, if_neg (nI_ge (by omega) (by omega))]
    simp (disch := omega) only [e1, nI_clamp, gg_ix, bnd_r, nI_1]
    rw [hg x (by omega), ih f (x + 1) _ (by omega) (by omega) (fun y hy => by rw [rJ_o (by omega)]; exact hg y hy), gwJ_step (by omega)]
theorem mv126 {a i b j n : Nat} {g : Nat → Int64} (hn : n ≤ 300) (ha : a < 8) (hi : i + n ≤ 300) : ∀ (k f x : Nat) (σ : gS), x + k = n → k < f → (∀ y, y < n → σ.2.1 231 (300 * a + i + y) = g y) → fX11_move_126 (nI a) (nI i) (nI b) (nI j) (nI n) f (nI x) σ = fX11_move_164 (nI a) (nI i) (nI b) (nI j) (nI n) 2000 0 (gwJ σ 232 0 x n g) := by
  intro k
  induction k with
  | zero =>
    intro f x σ hx hf hg
    obtain ⟨f, rfl⟩ : ∃ g, f = g + 1 := ⟨f - 1, by omega⟩
    have : x = n := by omega
    subst this
    rw [fX11_move_126, if_pos (nI_le (Nat.le_refl _) (by omega)), gwJ_end]
  | succ k ih =>
    intro f x σ hx hf hg
    obtain ⟨f, rfl⟩ : ∃ g, f = g + 1 := ⟨f - 1, by omega⟩
    obtain ⟨e1, e2⟩ := it_ix3 (i := a) (j := i) (x := x) (by omega)
    rw [fX11_move_126, if_neg (nI_ge (by omega) (by omega))]
    simp (disch := omega) only [e1, nI_clamp, gg_ix, bnd_r, nI_1]
    rw [hg x (by omega), ih f (x + 1) _ (by omega) (by omega) (fun y hy => by rw [rJ_o (by omega)]; exact hg y hy)]
    have := gwJ_step (σ := σ) (h := 232) (b := 0) (g := g) (show x < n by omega)
    rw [Nat.zero_add] at this
    rw [this]
theorem holdsC {σ : gS} {t n : Nat} (h : σ.1 t 2 = nI n) (hn : n ≤ 300) (p q : Int32) : fX7_holds t p q σ = some (if 0 ≤ p.toInt ∧ 0 ≤ q.toInt ∧ p.toInt + q.toInt ≤ n then 1 else 0, σ) := by
  have nn : (nI n).toInt64.toInt = n := by rw [l32, nI_toInt (by omega)]
  unfold fX7_holds fX7_holds_26 fX7_holds_27
  rw [h]
  by_cases h1 : p < 0
  · have := lt32.mp h1
    rw [z32] at this
    rw [if_pos h1, if_neg (show ¬ (0 ≤ p.toInt ∧ 0 ≤ q.toInt ∧ p.toInt + q.toInt ≤ n) by omega)]
    rfl
  · have a1 := mt lt32.mpr h1
    rw [z32] at a1
    rw [if_neg h1]
    by_cases h2 : q < 0
    · have := lt32.mp h2
      rw [z32] at this
      rw [if_pos h2, if_neg (show ¬ (0 ≤ p.toInt ∧ 0 ≤ q.toInt ∧ p.toInt + q.toInt ≤ n) by omega)]
      rfl
    · have a2 := mt lt32.mpr h2
      rw [z32] at a2
      rw [if_neg h2]
      by_cases h3 : (nI n).toInt64 < p.toInt64 + q.toInt64
      · have := lt64.mp h3
        rw [nn, lg_i2l_add] at this
        rw [if_pos (cmp_gt.mpr h3), if_neg (show ¬ (0 ≤ p.toInt ∧ 0 ≤ q.toInt ∧ p.toInt + q.toInt ≤ n) by omega)]
        rfl
      · have := mt lt64.mpr h3
        rw [nn, lg_i2l_add] at this
        rw [if_neg (mt cmp_gt.mp h3), if_pos (show (0 ≤ p.toInt ∧ 0 ≤ q.toInt ∧ p.toInt + q.toInt ≤ n) by omega)]
        rfl
theorem gcp_1 {σ : gS} {a s b d n : Nat} : (gcp σ a s b d n).1 = σ.1 := rfl
theorem gcp_3 {σ : gS} {a s b d n : Nat} : (gcp σ a s b d n).2.2 = σ.2.2 := rfl
theorem gcp_o {σ : gS} {a s b d n h k : Nat} (hn : ¬ (h = b ∧ d ≤ k ∧ k < d + n)) : (gcp σ a s b d n).2.1 h k = σ.2.1 h k := by
  show (if h = b then va_cpy (σ.2.1 a) (σ.2.1 b) s d n else σ.2.1 h) k = _
  by_cases q : h = b
  · rw [if_pos q, q]
    show (if d ≤ k ∧ k < d + n then _ else _) = _
    rw [if_neg (by omega)]
  · rw [if_neg q]
theorem gcp_i {σ : gS} {a s b d n k : Nat} (hn : d ≤ k ∧ k < d + n) : (gcp σ a s b d n).2.1 b k = σ.2.1 a (s + (k - d)) := by
  show (if b = b then va_cpy (σ.2.1 a) (σ.2.1 b) s d n else σ.2.1 b) k = _
  rw [if_pos rfl]
  show (if d ≤ k ∧ k < d + n then _ else _) = _
  rw [if_pos hn]

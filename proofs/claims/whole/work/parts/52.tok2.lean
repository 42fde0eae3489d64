/-! TOKENS: next() of both -/
section TOK
variable {σ : gS} {b : Nat → Nat} {m p : Nat}
theorem isLC_t (h : TP σ b m) (hp : p < m) (q : ltr (b p)) : fX6_isLetterAt (nI p) σ = some (1, σ) := by classical rw [isLC h hp, if_pos q]
theorem isLC_f (h : TP σ b m) (hp : p < m) (q : ¬ ltr (b p)) : fX6_isLetterAt (nI p) σ = some (0, σ) := by classical rw [isLC h hp, if_neg q]
theorem isFC_t (h : TP σ b m) (hp : p < m) (q : fig (b p)) : fX6_isFigureAt (nI p) σ = some (1, σ) := by classical rw [isFC h hp, if_pos q]
theorem isFC_f (h : TP σ b m) (hp : p < m) (q : ¬ fig (b p)) : fX6_isFigureAt (nI p) σ = some (0, σ) := by classical rw [isFC h hp, if_neg q]
theorem isLM_t (h : TPr σ b m) (hp : σ.1 168 44 = nI p) (hm : p ≤ m) (q : p < m ∧ ltr (b p)) : fX11_isLetter σ = some (1, σ) := by classical rw [isLM h hp hm, if_pos q]
theorem isLM_f (h : TPr σ b m) (hp : σ.1 168 44 = nI p) (hm : p ≤ m) (q : ¬ (p < m ∧ ltr (b p))) : fX11_isLetter σ = some (0, σ) := by classical rw [isLM h hp hm, if_neg q]
theorem isFM_t (h : TPr σ b m) (hp : σ.1 168 44 = nI p) (hm : p ≤ m) (q : p < m ∧ fig (b p)) : fX11_isFigure σ = some (1, σ) := by classical rw [isFM h hp hm, if_pos q]
theorem isFM_f (h : TPr σ b m) (hp : σ.1 168 44 = nI p) (hm : p ≤ m) (q : ¬ (p < m ∧ fig (b p))) : fX11_isFigure σ = some (0, σ) := by classical rw [isFM h hp hm, if_neg q]
theorem TP.gsI (h : TP σ b m) {x y : Nat} {v : Int32} (h1 : ¬ (x = 1 ∧ y = 1)) (h2 : ¬ (x = 168 ∧ y = 43)) (h3 : x ≠ 197) (h4 : x ≠ 2) (h5 : x ≠ 3) : TP (gsI σ x y v) b m :=
  h.keep (rI_o (fun z => h1 ⟨z.1.symm, z.2.symm⟩)) (rI_o (fun z => h2 ⟨z.1.symm, z.2.symm⟩)) (fun _ => rI_h (Ne.symm h3)) (fun _ => rI_h (Ne.symm h4)) (fun _ => rI_h (Ne.symm h5))
theorem TP.gsJ (h : TP σ b m) {x y : Nat} {v : Int64} : TP (gsJ σ x y v) b m := h
theorem TPr.gsI (h : TPr σ b m) {x y : Nat} {v : Int32} (_h1 : ¬ (x = 1 ∧ y = 1)) (h2 : ¬ (x = 168 ∧ y = 43)) (h3 : x ≠ 197) (_h4 : x ≠ 2) (_h5 : x ≠ 3) : TPr (gsI σ x y v) b m := h.keep (rI_o (by omega)) (fun i => rI_o (by omega))
theorem TPr.gsJ (h : TPr σ b m) {x y : Nat} {v : Int64} : TPr (gsJ σ x y v) b m := h
end TOK
/-- the figures of a number -/
def dg (b : Nat → Nat) (s : Nat) : Nat → Nat
  | 0 => 0
  | k + 1 => 10 * dg b s k + (b (s + k) - 48)
theorem dg_b {b : Nat → Nat} {s : Nat} : ∀ k, (∀ i, s ≤ i → i < s + k → fig (b i)) → dg b s k < 10 ^ k
  | 0, _ => Nat.zero_lt_one
  | k + 1, h => by
    have a := dg_b k (fun i h1 h2 => h i h1 (by omega))
    have c := h (s + k) (by omega) (by omega)
    unfold fig at c
    rw [dg, Nat.pow_succ]
    omega
theorem dg4 {b : Nat → Nat} {s k : Nat} (hk : k ≤ 4) (h : ∀ i, s ≤ i → i < s + k → fig (b i)) : dg b s k < 10000 := by
  have a := dg_b k h
  have c : 10 ^ k ≤ 10 ^ 4 := Nat.pow_le_pow_right (by decide) hk
  have : 10 ^ 4 = 10000 := by decide
  omega
def fs (b : Nat → Nat) (s : Nat) : Nat := if b s = 45 then s + 1 else s
def numV (b : Nat → Nat) (s e : Nat) : Int := if b s = 45 then -(dg b (s + 1) (e - (s + 1)) : Int) else (dg b s (e - s) : Int)
/-- kinds: 0 the end, 1 no token, 2 letters, 4 a number, 5 the sign -/
def TK (b : Nat → Nat) (m p k s e : Nat) : Prop := runs spc b m p s ∧ (
  (m ≤ s ∧ k = 0 ∧ e = s) ∨
  (s < m ∧ b s = 59 ∧ k = 5 ∧ e = s + 1) ∨
  (s < m ∧ ltr (b s) ∧ runs ltr b m s e ∧ k = (if e - s ≤ 6 then 2 else 1)) ∨
  (s < m ∧ (b s = 45 ∨ fig (b s)) ∧ runs fig b m (fs b s) e ∧ k = (if 1 ≤ e - fs b s ∧ e - fs b s ≤ 4 then 4 else 1)) ∨
  (s < m ∧ b s ≠ 59 ∧ ¬ ltr (b s) ∧ b s ≠ 45 ∧ ¬ fig (b s) ∧ k = 1 ∧ e = s + 1))
theorem TK_u {b : Nat → Nat} {m p k s e k' s' e' : Nat} (h : TK b m p k s e) (h' : TK b m p k' s' e') : k = k' ∧ s = s' ∧ e = e' := by
  obtain ⟨h0, h⟩ := h
  obtain ⟨h0', h'⟩ := h'
  have es := runs_u h0 h0'
  subst es
  unfold ltr fig at h h'
  rcases h with ⟨a, b1, c⟩ | ⟨a, b1, c, d⟩ | ⟨a, b1, c, d⟩ | ⟨a, b1, c, d⟩ | ⟨a, b1, c, d, g, k1, l⟩ <;> rcases h' with ⟨a', b1', c'⟩ | ⟨a', b1', c', d'⟩ | ⟨a', b1', c', d'⟩ | ⟨a', b1', c', d'⟩ | ⟨a', b1', c', d', g', k1', l'⟩
  all_goals first
    | (exfalso; omega)
    | exact ⟨by omega, rfl, by omega⟩
    | (have ee := runs_u c c'
       subst ee
       exact ⟨by rw [d, d'], rfl, rfl⟩)
theorem runs_le {q : Nat → Prop} {b : Nat → Nat} {m p e : Nat} (h : runs q b m p e) (hp : p ≤ m) : e ≤ m := by
  obtain ⟨a, c, d⟩ := h
  rcases Nat.lt_or_ge p e with z | z
  · have := (c (e - 1) (by omega) (by omega)).1
    omega
  · omega
theorem TK.le {b : Nat → Nat} {m p k s e : Nat} (h : TK b m p k s e) (hp : p ≤ m) : p ≤ s ∧ s ≤ m ∧ s ≤ e ∧ e ≤ m ∧ (k ≠ 0 → s < m ∧ s < e) := by
  obtain ⟨h0, h⟩ := h
  have sm := runs_le h0 hp
  have ps := h0.1
  unfold fs at h
  rcases h with ⟨a, b1, c⟩ | ⟨a, b1, c, d⟩ | ⟨a, b1, c, d⟩ | ⟨a, b1, c, d⟩ | ⟨a, b1, c, d, g, k1, l⟩
  · refine ⟨ps, sm, by omega, by omega, fun z => absurd b1 z⟩
  · refine ⟨ps, sm, by omega, by omega, fun z => by omega⟩
  · have := runs_le c sm
    have q := c.1
    refine ⟨ps, sm, q, this, fun _ => ⟨a, ?_⟩⟩
    rcases Nat.lt_or_ge s e with z | z
    · exact z
    · have : e = s := by omega
      subst this
      exact absurd ⟨a, b1⟩ c.2.2
  · split at c
    · have := runs_le c (by omega)
      have q := c.1
      exact ⟨ps, sm, by omega, this, fun _ => ⟨a, by omega⟩⟩
    · next z =>
      have := runs_le c sm
      have q := c.1
      refine ⟨ps, sm, q, this, fun _ => ⟨a, ?_⟩⟩
      rcases Nat.lt_or_ge s e with z2 | z2
      · exact z2
      · have : e = s := by omega
        subst this
        exact absurd ⟨a, b1.elim (fun w => absurd w z) id⟩ c.2.2
  · refine ⟨ps, sm, by omega, by omega, fun z => by omega⟩
def CT (σ : gS) (b : Nat → Nat) (k s e : Nat) : Prop := σ.1 1 4 = nI e ∧ σ.1 1 6 = nI s ∧ (k = 0 → σ.1 1 5 = 0) ∧ (k = 1 → σ.1 1 5 = 1) ∧ (k = 5 → σ.1 1 5 = 5) ∧ (k = 4 → σ.1 1 5 = 4 ∧ (σ.1 1 7).toInt = numV b s e) ∧ (k = 2 → isNm (seg b s (e - s)) ∧ ((∃ w, w < 12 ∧ seg b s (e - s) = WL w ∧ σ.1 1 5 = 2 ∧ σ.1 1 7 = nI w) ∨ ((∀ w, w < 12 → seg b s (e - s) ≠ WL w) ∧ σ.1 1 5 = 3 ∧ σ.1 1 7 = nI (c27 (seg b s (e - s))))))
def RT (σ : gS) (b : Nat → Nat) (k s e : Nat) : Prop := σ.1 168 44 = nI e ∧ σ.1 168 46 = nI s ∧ (k = 0 → σ.1 168 45 = 0) ∧ (k = 1 → σ.1 168 45 = 5) ∧ (k = 5 → σ.1 168 45 = 4) ∧ (k = 4 → σ.1 168 45 = 3 ∧ (σ.1 168 48).toInt = numV b s e) ∧ (k = 2 → isNm (seg b s (e - s)) ∧ σ.2.1 168 47 = lN (c256 (seg b s (e - s))) ∧ ((∃ w, w < 12 ∧ seg b s (e - s) = WL w ∧ σ.1 168 45 = 1 ∧ σ.1 168 51 = nI (rwW w)) ∨ ((∀ w, w < 12 → seg b s (e - s) ≠ WL w) ∧ σ.1 168 45 = 2)))
section CLS
variable {b : Nat → Nat} {m : Nat}
theorem wdC {l : List Nat} (hl : isNm l) : ∀ (k f i : Nat) (σ : gS), TP σ b m → i + k = 12 → k + 1 < f → σ.1 1 5 = 3 → σ.1 1 7 = nI (c27 l) → (∀ w, w < i → l ≠ WL w) → Wp (fX6_letters_85 f (nI i) σ) (fun _ σ' => σ'.1 1 4 = σ.1 1 4 ∧ σ'.1 1 6 = σ.1 1 6 ∧ ((∃ w, w < 12 ∧ l = WL w ∧ σ'.1 1 5 = 2 ∧ σ'.1 1 7 = nI w) ∨ ((∀ w, w < 12 → l ≠ WL w) ∧ σ'.1 1 5 = 3 ∧ σ'.1 1 7 = nI (c27 l)))) := by
  intro k
  induction k with
  | zero =>
    intro f i σ ht h1 h2 h3 h4 h5
    obtain ⟨f, rfl⟩ : ∃ y, f = y + 1 := ⟨f - 1, by omega⟩
    have : i = 12 := by omega
    subst this
    rw [fX6_letters_85, if_pos (by decide), fX6_letters_128]
    exact wp_r ⟨rfl, rfl, Or.inr ⟨h5, h3, h4⟩⟩
  | succ k ih =>
    intro f i σ ht h1 h2 h3 h4 h5
    obtain ⟨f, rfl⟩ : ∃ y, f = y + 1 := ⟨f - 1, by omega⟩
    have hc : (nI i).toNatClampNeg = i := nI_clamp (by omega)
    rw [fX6_letters_85, if_neg (show ¬ (12 : Int32) ≤ nI i from nI_ge (b := 12) (by omega) (by decide)), if_pos h3, gg_t (g_ix (show i < 12 by omega) (by decide)), hc, ht.2.2.2.2 i (by omega), h4]
    by_cases q : l = WL i
    · rw [if_pos (by rw [q]), bnd_r, bnd_r, fX6_letters_122, bnd_r, nI_1]
      obtain ⟨f, rfl⟩ : ∃ y, f = y + 1 := ⟨f - 1, by omega⟩
      have e : fX6_letters_85 (f + 1) (nI (i + 1)) (gsI (gsI σ 1 5 2) 1 7 (nI i)) = some ((), gsI (gsI σ 1 5 2) 1 7 (nI i)) := by
        rw [fX6_letters_85]
        by_cases z : i = 11
        · subst z
          rw [if_pos (by decide), fX6_letters_128]
        · rw [if_neg (show ¬ (12 : Int32) ≤ nI (i + 1) from nI_ge (b := 12) (by omega) (by decide)), rI_o (by decide), rI_s, if_neg (by decide), fX6_letters_128]
      refine wp_e e ⟨?_, ?_, Or.inl ⟨i, by omega, q, ?_, ?_⟩⟩
      · simp (disch := omega) only [rI_o]
      · simp (disch := omega) only [rI_o]
      · simp (disch := omega) only [rI_o, rI_s]
      · rw [rI_s]
    · rw [if_neg (fun z => q ((nm27 (WL_nm (by omega)) hl).mp z).symm), fX6_letters_122, bnd_r, nI_1]
      exact ih f (i + 1) σ ht (by omega) (by omega) h3 h4 (fun w hw => by
        rcases Nat.lt_or_ge w i with z | z
        · exact h5 w z
        · have : w = i := by omega
          rw [this]; exact q)
theorem letE {s e : Nat} (σ : gS) (ht : TP σ b m) (hs : s ≤ e) (hm : e ≤ m) (hr : runs ltr b m s e) (h4 : σ.1 1 4 = nI e) (h6 : σ.1 1 6 = nI s) (h7 : e - s ≤ 6 → σ.1 1 7 = nI (c27 (seg b s (e - s)))) : Wp (fX6_letters_60 σ) (fun _ σ' => ∃ e, runs ltr b m s e ∧ σ'.1 1 4 = nI e ∧ σ'.1 1 6 = nI s ∧ (6 < e - s → σ'.1 1 5 = 1) ∧ (e - s ≤ 6 → isNm (seg b s (e - s)) ∧ ((∃ w, w < 12 ∧ seg b s (e - s) = WL w ∧ σ'.1 1 5 = 2 ∧ σ'.1 1 7 = nI w) ∨ ((∀ w, w < 12 → seg b s (e - s) ≠ WL w) ∧ σ'.1 1 5 = 3 ∧ σ'.1 1 7 = nI (c27 (seg b s (e - s))))))) := by
  have hm2 := ht.1
  rw [fX6_letters_60, h4, h6, pk_sub hs]
  by_cases q : e - s ≤ 6
  · have hn : isNm (seg b s (e - s)) := ⟨seg_l _ (fun i h1 h2 => (hr.2.1 i h1 (by omega)).2), by rw [seg_len]; exact q⟩
    rw [if_pos (show nI (e - s) ≤ 6 from nI_le (b := 6) q (by decide)), fX6_letters_80, bnd_r]
    refine wp_m (wdC (b := b) (m := m) hn 12 2000 0 (gsI σ 1 5 3) (ht.gsI (by omega) (by omega) (by omega) (by omega) (by omega)) (by omega) (by omega) rI_s ?_ (fun w hw => absurd hw (by omega))) ?_
    · rw [rI_o (by omega)]; exact h7 q
    · rintro _ σ' ⟨e1, e2, e3⟩
      rw [rI_o (by omega)] at e1 e2
      exact ⟨e, hr, e1.trans h4, e2.trans h6, fun z => absurd z (by omega), fun _ => ⟨hn, e3⟩⟩
  · rw [if_neg (show ¬ nI (e - s) ≤ 6 from nI_ge (a := 6) (by omega) (by omega)), fX6_letters_80, bnd_r]
    refine wp_e (a := ()) (σ := gsI σ 1 5 1) ?_ ⟨e, hr, ?_, ?_, fun _ => rI_s, fun z => absurd z q⟩
    · rw [fX6_letters_85, if_neg (by decide), rI_s, if_neg (by decide), fX6_letters_128]
    · rw [rI_o (by omega)]; exact h4
    · rw [rI_o (by omega)]; exact h6
theorem letC {s : Nat} : ∀ (k f p : Nat) (σ : gS), TP σ b m → p + k = m → k < f → s ≤ p → (∀ i, s ≤ i → i < p → i < m ∧ ltr (b i)) → σ.1 1 4 = nI p → σ.1 1 6 = nI s → (p - s ≤ 6 → σ.1 1 7 = nI (c27 (seg b s (p - s)))) → Wp (fX6_letters_5 f σ) (fun _ σ' => ∃ e, runs ltr b m s e ∧ σ'.1 1 4 = nI e ∧ σ'.1 1 6 = nI s ∧ (6 < e - s → σ'.1 1 5 = 1) ∧ (e - s ≤ 6 → isNm (seg b s (e - s)) ∧ ((∃ w, w < 12 ∧ seg b s (e - s) = WL w ∧ σ'.1 1 5 = 2 ∧ σ'.1 1 7 = nI w) ∨ ((∀ w, w < 12 → seg b s (e - s) ≠ WL w) ∧ σ'.1 1 5 = 3 ∧ σ'.1 1 7 = nI (c27 (seg b s (e - s))))))) := by
  intro k
  induction k with
  | zero =>
    intro f p σ ht h1 h2 h3 h4 h5 h6 h7
    obtain ⟨f, rfl⟩ : ∃ y, f = y + 1 := ⟨f - 1, by omega⟩
    have hm := ht.1
    rw [fX6_letters_5, ht.2.1, h5, if_pos (nI_le (by omega) (by omega))]
    exact letE σ ht h3 (by omega) ⟨h3, h4, by omega⟩ h5 h6 h7
  | succ k ih =>
    intro f p σ ht h1 h2 h3 h4 h5 h6 h7
    obtain ⟨f, rfl⟩ : ∃ y, f = y + 1 := ⟨f - 1, by omega⟩
    have hm := ht.1
    rw [fX6_letters_5, ht.2.1, h5, if_neg (nI_ge (by omega) (by omega))]
    by_cases q : ltr (b p)
    · have hc : (nI p).toNatClampNeg = p := nI_clamp (by omega)
      obtain ⟨d1, -, d2⟩ := ht.2.2.2.1 p (by omega)
      rw [isLC_t ht (by omega) q, bd_r, i10, h5, gg_t (g_ix (show p < 1200 by omega) (by decide)), hc, d2]
      unfold ltr at q
      rw [b8_lo _ (by omega), fX6_withLetter, bd_r, bnd_r, bnd_r, rI_o (by decide), h5, nI_1]
      refine ih f (p + 1) _ ((ht.gsI (by omega) (by omega) (by omega) (by omega) (by omega)).gsI (by omega) (by omega) (by omega) (by omega) (by omega)) (by omega) (by omega) (by omega) (fun i z1 z2 => ?_) rI_s ?_ (fun z => ?_)
      · rcases Nat.lt_or_ge i p with y | y
        · exact h4 i z1 y
        · have : i = p := by omega
          subst this
          exact ⟨by omega, q⟩
      · rw [rI_o (by omega), rI_o (by omega)]; exact h6
      · rw [rI_o (by omega), rI_s, h7 (by omega), show p + 1 - s = (p - s) + 1 by omega, seg, c27, show s + (p - s) = p by omega]
        rw [show (97 : Int32) = nI 97 from rfl, show (27 : Int32) = nI 27 from rfl, pk_sub q.1, nI_1, pk_mul, nI_add]
        congr 1
        omega
    · rw [isLC_f ht (by omega) q, bd_r, i00]
      exact letE σ ht h3 (by omega) ⟨h3, h4, fun z => q z.2⟩ h5 h6 h7
theorem figE {f0 e : Nat} {v1 : Int32} (σ : gS) (ht : TP σ b m) (hs : f0 ≤ e) (hm : e ≤ m) (hr : runs fig b m f0 e) (h4 : σ.1 1 4 = nI e) (h7 : e - f0 ≤ 4 → σ.1 1 7 = nI (dg b f0 (e - f0))) : Wp (fX6_figures_103 v1 (nI f0) σ) (fun _ σ' => ∃ e, runs fig b m f0 e ∧ σ'.1 1 4 = nI e ∧ σ'.1 1 6 = σ.1 1 6 ∧ (1 ≤ e - f0 ∧ e - f0 ≤ 4 → σ'.1 1 5 = 4 ∧ σ'.1 1 7 = if v1 = 0 then nI (dg b f0 (e - f0)) else -nI (dg b f0 (e - f0))) ∧ (¬ (1 ≤ e - f0 ∧ e - f0 ≤ 4) → σ'.1 1 5 = 1)) := by
  have hm2 := ht.1
  have bad : Wp (fX6_figures_125 v1 σ) (fun _ σ' => σ'.1 1 4 = nI e ∧ σ'.1 1 6 = σ.1 1 6 ∧ σ'.1 1 5 = 1) := by
    rw [fX6_figures_125, fX6_figures_126, bnd_r]
    by_cases z : v1 = 0
    · rw [if_pos z, fX6_figures_142]
      exact wp_r ⟨by rw [rI_o (by omega)]; exact h4, by rw [rI_o (by omega)], rI_s⟩
    · rw [if_neg z, bnd_r, fX6_figures_142]
      exact wp_r ⟨by rw [rI_o (by omega), rI_o (by omega)]; exact h4, by rw [rI_o (by omega), rI_o (by omega)], by rw [rI_o (by omega), rI_s]⟩
  rw [fX6_figures_103, h4, pk_sub hs, bnd_r]
  by_cases q1 : 1 ≤ e - f0
  · rw [if_neg (show ¬ nI (e - f0) < 1 from nI_nlt (b := 1) q1 (by omega))]
    by_cases q4 : e - f0 ≤ 4
    · rw [if_neg (show ¬ 4 < nI (e - f0) from nI_nlt (a := 4) q4 (by omega)), fX6_figures_126, bnd_r]
      by_cases z : v1 = 0
      · rw [if_pos z, fX6_figures_142]
        exact wp_r ⟨e, hr, by rw [rI_o (by omega)]; exact h4, by rw [rI_o (by omega)], fun _ => ⟨rI_s, by rw [rI_o (by omega), if_pos z]; exact h7 q4⟩, fun y => absurd ⟨q1, q4⟩ y⟩
      · rw [if_neg z, bnd_r, fX6_figures_142]
        exact wp_r ⟨e, hr, by rw [rI_o (by omega), rI_o (by omega)]; exact h4, by rw [rI_o (by omega), rI_o (by omega)], fun _ => ⟨by rw [rI_o (by omega), rI_s], by rw [rI_s, rI_o (by omega), if_neg z, h7 q4]⟩, fun y => absurd ⟨q1, q4⟩ y⟩
    · rw [if_pos (show 4 < nI (e - f0) from nI_lt (a := 4) (by omega) (by omega))]
      exact wp_m bad (fun _ _ ⟨a1, a2, a3⟩ => ⟨e, hr, a1, a2, fun y => absurd y.2 q4, fun _ => a3⟩)
  · rw [if_pos (show nI (e - f0) < 1 from nI_lt (b := 1) (by omega) (by decide))]
    exact wp_m bad (fun _ _ ⟨a1, a2, a3⟩ => ⟨e, hr, a1, a2, fun y => absurd y.1 q1, fun _ => a3⟩)
theorem figC {f0 : Nat} {v1 : Int32} : ∀ (k f p : Nat) (σ : gS), TP σ b m → p + k = m → k < f → f0 ≤ p → (∀ i, f0 ≤ i → i < p → i < m ∧ fig (b i)) → σ.1 1 4 = nI p → (p - f0 ≤ 4 → σ.1 1 7 = nI (dg b f0 (p - f0))) → Wp (fX6_figures_44 f v1 (nI f0) σ) (fun _ σ' => ∃ e, runs fig b m f0 e ∧ σ'.1 1 4 = nI e ∧ σ'.1 1 6 = σ.1 1 6 ∧ (1 ≤ e - f0 ∧ e - f0 ≤ 4 → σ'.1 1 5 = 4 ∧ σ'.1 1 7 = if v1 = 0 then nI (dg b f0 (e - f0)) else -nI (dg b f0 (e - f0))) ∧ (¬ (1 ≤ e - f0 ∧ e - f0 ≤ 4) → σ'.1 1 5 = 1)) := by
  intro k
  induction k with
  | zero =>
    intro f p σ ht h1 h2 h3 h4 h5 h7
    obtain ⟨f, rfl⟩ : ∃ y, f = y + 1 := ⟨f - 1, by omega⟩
    have hm := ht.1
    rw [fX6_figures_44, ht.2.1, h5, if_pos (nI_le (by omega) (by omega))]
    exact figE σ ht h3 (by omega) ⟨h3, h4, by omega⟩ h5 h7
  | succ k ih =>
    intro f p σ ht h1 h2 h3 h4 h5 h7
    obtain ⟨f, rfl⟩ : ∃ y, f = y + 1 := ⟨f - 1, by omega⟩
    have hm := ht.1
    rw [fX6_figures_44, ht.2.1, h5, if_neg (nI_ge (by omega) (by omega))]
    by_cases q : fig (b p)
    · have hc : (nI p).toNatClampNeg = p := nI_clamp (by omega)
      obtain ⟨d1, -, d2⟩ := ht.2.2.2.1 p (by omega)
      rw [isFC_t ht (by omega) q, bd_r, i10, h5, gg_t (g_ix (show p < 1200 by omega) (by decide)), hc, d2]
      unfold fig at q
      rw [b8_lo _ (by omega), bnd_r, bnd_r, rI_o (by decide), h5, nI_1]
      refine wp_m (ih f (p + 1) _ ((ht.gsI (by omega) (by omega) (by omega) (by omega) (by omega)).gsI (by omega) (by omega) (by omega) (by omega) (by omega)) (by omega) (by omega) (by omega) (fun i z1 z2 => ?_) rI_s (fun z => ?_)) ?_
      · rcases Nat.lt_or_ge i p with y | y
        · exact h4 i z1 y
        · have : i = p := by omega
          subst this
          exact ⟨by omega, q⟩
      · rw [rI_o (by omega), rI_s, h7 (by omega), show p + 1 - f0 = (p - f0) + 1 by omega, dg, show f0 + (p - f0) = p by omega]
        rw [show (48 : Int32) = nI 48 from rfl, show (10 : Int32) = nI 10 from rfl, pk_sub q.1, pk_mul, nI_add]
      · rintro _ σ' ⟨e, a1, a2, a3, a4⟩
        rw [rI_o (by omega), rI_o (by omega)] at a3
        exact ⟨e, a1, a2, a3, a4⟩
    · rw [isFC_f ht (by omega) q, bd_r, i00]
      exact figE σ ht h3 (by omega) ⟨h3, h4, fun z => q z.2⟩ h5 h7
end CLS

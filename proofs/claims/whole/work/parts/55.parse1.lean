/-! READING: the token at a place, and what the helpers of both make of it -/
noncomputable def tkO (b : Nat → Nat) (m p : Nat) : Nat × Nat × Nat := Classical.epsilon (fun q => TK b m p q.1 q.2.1 q.2.2)
noncomputable def tK (b : Nat → Nat) (m p : Nat) : Nat := (tkO b m p).1
noncomputable def tS (b : Nat → Nat) (m p : Nat) : Nat := (tkO b m p).2.1
noncomputable def tE (b : Nat → Nat) (m p : Nat) : Nat := (tkO b m p).2.2
noncomputable def tL (b : Nat → Nat) (m p : Nat) : List Nat := seg b (tS b m p) (tE b m p - tS b m p)
noncomputable def tV (b : Nat → Nat) (m p : Nat) : Int := numV b (tS b m p) (tE b m p)
def isN (b : Nat → Nat) (m p : Nat) : Prop := tK b m p = 2 ∧ ∀ w, w < 12 → tL b m p ≠ WL w
def isW (b : Nat → Nat) (m p w : Nat) : Prop := tK b m p = 2 ∧ tL b m p = WL w
noncomputable def uf (b : Nat → Nat) (m p : Nat) : Nat := if tK b m p = 1 then 1 else 2
def TKo (b : Nat → Nat) (m p : Nat) : Prop := TK b m p (tK b m p) (tS b m p) (tE b m p)
theorem tk_ok {b : Nat → Nat} {m p k s e : Nat} (h : TK b m p k s e) : TKo b m p ∧ tK b m p = k ∧ tS b m p = s ∧ tE b m p = e := by
  have q : TK b m p (tkO b m p).1 (tkO b m p).2.1 (tkO b m p).2.2 := Classical.epsilon_spec (p := fun q : Nat × Nat × Nat => TK b m p q.1 q.2.1 q.2.2) ⟨(k, s, e), h⟩
  exact ⟨q, TK_u q h⟩
def LC (σ : gS) (b : Nat → Nat) (m p : Nat) : Prop := CT σ b (tK b m p) (tS b m p) (tE b m p)
def LM (σ : gS) (b : Nat → Nat) (m p : Nat) : Prop := RT σ b (tK b m p) (tS b m p) (tE b m p)
def frC (σ σ' : gS) : Prop := ∀ x y, ¬ (x = 1 ∧ 4 ≤ y ∧ y ≤ 9) → sm σ σ' x y
def frR (σ σ' : gS) : Prop := ∀ x y, ¬ (x = 168 ∧ 44 ≤ y ∧ y ≤ 51) → sm σ σ' x y
theorem frC.t {σ σ' σ'' : gS} (h : frC σ σ') (h' : frC σ' σ'') : frC σ σ'' := fun x y q => sm_t (h x y q) (h' x y q)
theorem frR.t {σ σ' σ'' : gS} (h : frR σ σ') (h' : frR σ' σ'') : frR σ σ'' := fun x y q => sm_t (h x y q) (h' x y q)
theorem frC.r (σ : gS) : frC σ σ := fun x y _ => sm_r σ x y
theorem frR.r (σ : gS) : frR σ σ := fun x y _ => sm_r σ x y
theorem frC.i {σ σ' : gS} (h : frC σ σ') {y : Nat} {v : Int32} (h1 : 4 ≤ y) (h2 : y ≤ 9) : frC σ (gsI σ' 1 y v) := fun a c q => sm_I (h a c q) (by omega) rfl
theorem frR.i {σ σ' : gS} (h : frR σ σ') {y : Nat} {v : Int32} (h1 : 44 ≤ y) (h2 : y ≤ 51) : frR σ (gsI σ' 168 y v) := fun a c q => sm_I (h a c q) (by omega) rfl
section PRS
variable {σ σ' : gS} {b : Nat → Nat} {m p : Nat}
theorem frC.tp (h : frC σ σ') (t : TP σ b m) : TP σ' b m := t.keep (h 1 1 (by omega)).1 (h 168 43 (by omega)).1 (fun i => (h 197 i (by omega)).1) (fun i => (h 2 i (by omega)).1) (fun i => (h 3 i (by omega)).1)
theorem frR.tp (h : frR σ σ') (t : TPr σ b m) : TPr σ' b m := t.keep (h 168 43 (by omega)).1 (fun i => (h 197 i (by omega)).1)
theorem RT.keep {k s e : Nat} (h : RT σ b k s e) (h1 : ∀ y, 44 ≤ y → y ≤ 51 → σ'.1 168 y = σ.1 168 y) (h2 : σ'.2.1 168 47 = σ.2.1 168 47) : RT σ' b k s e := by
  unfold RT at h ⊢
  rw [h1 44 (by omega) (by omega), h1 45 (by omega) (by omega), h1 46 (by omega) (by omega), h1 48 (by omega) (by omega), h1 51 (by omega) (by omega), h2]
  exact h
theorem CT.keep {k s e : Nat} (h : CT σ b k s e) (h1 : ∀ y, 4 ≤ y → y ≤ 7 → σ'.1 1 y = σ.1 1 y) : CT σ' b k s e := by
  unfold CT at h ⊢
  rw [h1 4 (by omega) (by omega), h1 5 (by omega) (by omega), h1 6 (by omega) (by omega), h1 7 (by omega) (by omega)]
  exact h
theorem frC.lm (h : frC σ σ') (t : LM σ b m p) : LM σ' b m p := RT.keep t (fun y _ _ => (h 168 y (by omega)).1) (h 168 47 (by omega)).2.1
/-- what the kind of the token says -/
theorem tK_k (h : TKo b m p) : tK b m p = 0 ∨ tK b m p = 1 ∨ tK b m p = 2 ∨ tK b m p = 4 ∨ tK b m p = 5 := by
  obtain ⟨-, h⟩ := h
  rcases h with ⟨a, b1, c⟩ | ⟨a, b1, c, d⟩ | ⟨a, b1, c, d⟩ | ⟨a, b1, c, d⟩ | ⟨a, b1, c, d, g, k1, l⟩
  · omega
  · omega
  · split at d <;> omega
  · split at d <;> omega
  · omega
theorem lc_N (h : LC σ b m p) (q : isN b m p) : σ.1 1 5 = 3 ∧ σ.1 1 7 = nI (c27 (tL b m p)) ∧ isNm (tL b m p) := by
  obtain ⟨a, c⟩ := h.2.2.2.2.2.2 q.1
  rcases c with ⟨w, w1, w2, w3⟩ | ⟨w1, w2, w3⟩
  · exact absurd w2 (q.2 w w1)
  · exact ⟨w2, w3, a⟩
theorem lc_nN (hk : TKo b m p) (h : LC σ b m p) (q : ¬ isN b m p) : ¬ σ.1 1 5 = 3 := by
  intro z
  rcases tK_k hk with k | k | k | k | k
  · rw [h.2.2.1 k] at z; exact absurd z (by decide)
  · rw [h.2.2.2.1 k] at z; exact absurd z (by decide)
  · rcases (h.2.2.2.2.2.2 k).2 with ⟨w, w1, w2, w3, w4⟩ | ⟨w1, w2, w3⟩
    · rw [w3] at z; exact absurd z (by decide)
    · exact q ⟨k, w1⟩
  · rw [(h.2.2.2.2.2.1 k).1] at z; exact absurd z (by decide)
  · rw [h.2.2.2.2.1 k] at z; exact absurd z (by decide)
theorem lc_n4 (hk : TKo b m p) (h : LC σ b m p) (q : ¬ tK b m p = 4) : ¬ σ.1 1 5 = 4 := by
  intro z
  rcases tK_k hk with k | k | k | k | k
  · rw [h.2.2.1 k] at z; exact absurd z (by decide)
  · rw [h.2.2.2.1 k] at z; exact absurd z (by decide)
  · rcases (h.2.2.2.2.2.2 k).2 with ⟨w, w1, w2, w3, w4⟩ | ⟨w1, w2, w3⟩
    · rw [w3] at z; exact absurd z (by decide)
    · rw [w2] at z; exact absurd z (by decide)
  · exact q k
  · rw [h.2.2.2.2.1 k] at z; exact absurd z (by decide)
theorem lc_n5 (hk : TKo b m p) (h : LC σ b m p) (q : ¬ tK b m p = 5) : ¬ σ.1 1 5 = 5 := by
  intro z
  rcases tK_k hk with k | k | k | k | k
  · rw [h.2.2.1 k] at z; exact absurd z (by decide)
  · rw [h.2.2.2.1 k] at z; exact absurd z (by decide)
  · rcases (h.2.2.2.2.2.2 k).2 with ⟨w, w1, w2, w3, w4⟩ | ⟨w1, w2, w3⟩
    · rw [w3] at z; exact absurd z (by decide)
    · rw [w2] at z; exact absurd z (by decide)
  · rw [(h.2.2.2.2.2.1 k).1] at z; exact absurd z (by decide)
  · exact q k
theorem lc_n0 (hk : TKo b m p) (h : LC σ b m p) (q : ¬ tK b m p = 0) : ¬ σ.1 1 5 = 0 := by
  intro z
  rcases tK_k hk with k | k | k | k | k
  · exact q k
  · rw [h.2.2.2.1 k] at z; exact absurd z (by decide)
  · rcases (h.2.2.2.2.2.2 k).2 with ⟨w, w1, w2, w3, w4⟩ | ⟨w1, w2, w3⟩
    · rw [w3] at z; exact absurd z (by decide)
    · rw [w2] at z; exact absurd z (by decide)
  · rw [(h.2.2.2.2.2.1 k).1] at z; exact absurd z (by decide)
  · rw [h.2.2.2.2.1 k] at z; exact absurd z (by decide)
theorem lc_1 (hk : TKo b m p) (h : LC σ b m p) : σ.1 1 5 = 1 ↔ tK b m p = 1 := by
  constructor
  · intro z
    rcases tK_k hk with k | k | k | k | k
    · rw [h.2.2.1 k] at z; exact absurd z (by decide)
    · exact k
    · rcases (h.2.2.2.2.2.2 k).2 with ⟨w, w1, w2, w3, w4⟩ | ⟨w1, w2, w3⟩
      · rw [w3] at z; exact absurd z (by decide)
      · rw [w2] at z; exact absurd z (by decide)
    · rw [(h.2.2.2.2.2.1 k).1] at z; exact absurd z (by decide)
    · rw [h.2.2.2.2.1 k] at z; exact absurd z (by decide)
  · exact h.2.2.2.1
theorem lc_W (h : LC σ b m p) {w : Nat} (hw : w < 12) (q : isW b m p w) : σ.1 1 5 = 2 ∧ σ.1 1 7 = nI w := by
  rcases (h.2.2.2.2.2.2 q.1).2 with ⟨v, w1, w2, w3, w4⟩ | ⟨w1, w2, w3⟩
  · have : v = w := WL_i w1 hw (w2.symm.trans q.2)
    subst this
    exact ⟨w3, w4⟩
  · exact absurd q.2 (w1 w hw)
theorem lc_nW (hk : TKo b m p) (h : LC σ b m p) (z : σ.1 1 5 = 2) : ∃ w, w < 12 ∧ isW b m p w ∧ σ.1 1 7 = nI w := by
  rcases tK_k hk with k | k | k | k | k
  · rw [h.2.2.1 k] at z; exact absurd z (by decide)
  · rw [h.2.2.2.1 k] at z; exact absurd z (by decide)
  · rcases (h.2.2.2.2.2.2 k).2 with ⟨w, w1, w2, w3, w4⟩ | ⟨w1, w2, w3⟩
    · exact ⟨w, w1, ⟨k, w2⟩, w4⟩
    · rw [w2] at z; exact absurd z (by decide)
  · rw [(h.2.2.2.2.2.1 k).1] at z; exact absurd z (by decide)
  · rw [h.2.2.2.2.1 k] at z; exact absurd z (by decide)
theorem lm_N (h : LM σ b m p) (q : isN b m p) : σ.1 168 45 = 2 ∧ σ.2.1 168 47 = lN (c256 (tL b m p)) ∧ isNm (tL b m p) := by
  obtain ⟨a, d, c⟩ := h.2.2.2.2.2.2 q.1
  rcases c with ⟨w, w1, w2, w3⟩ | ⟨w1, w2⟩
  · exact absurd w2 (q.2 w w1)
  · exact ⟨w2, d, a⟩
theorem lm_nN (hk : TKo b m p) (h : LM σ b m p) (q : ¬ isN b m p) : ¬ σ.1 168 45 = 2 := by
  intro z
  rcases tK_k hk with k | k | k | k | k
  · rw [h.2.2.1 k] at z; exact absurd z (by decide)
  · rw [h.2.2.2.1 k] at z; exact absurd z (by decide)
  · rcases (h.2.2.2.2.2.2 k).2.2 with ⟨w, w1, w2, w3, w4⟩ | ⟨w1, w2⟩
    · rw [w3] at z; exact absurd z (by decide)
    · exact q ⟨k, w1⟩
  · rw [(h.2.2.2.2.2.1 k).1] at z; exact absurd z (by decide)
  · rw [h.2.2.2.2.1 k] at z; exact absurd z (by decide)
theorem lm_n4 (hk : TKo b m p) (h : LM σ b m p) (q : ¬ tK b m p = 4) : ¬ σ.1 168 45 = 3 := by
  intro z
  rcases tK_k hk with k | k | k | k | k
  · rw [h.2.2.1 k] at z; exact absurd z (by decide)
  · rw [h.2.2.2.1 k] at z; exact absurd z (by decide)
  · rcases (h.2.2.2.2.2.2 k).2.2 with ⟨w, w1, w2, w3, w4⟩ | ⟨w1, w2⟩
    · rw [w3] at z; exact absurd z (by decide)
    · rw [w2] at z; exact absurd z (by decide)
  · exact q k
  · rw [h.2.2.2.2.1 k] at z; exact absurd z (by decide)
theorem lm_n5 (hk : TKo b m p) (h : LM σ b m p) (q : ¬ tK b m p = 5) : ¬ σ.1 168 45 = 4 := by
  intro z
  rcases tK_k hk with k | k | k | k | k
  · rw [h.2.2.1 k] at z; exact absurd z (by decide)
  · rw [h.2.2.2.1 k] at z; exact absurd z (by decide)
  · rcases (h.2.2.2.2.2.2 k).2.2 with ⟨w, w1, w2, w3, w4⟩ | ⟨w1, w2⟩
    · rw [w3] at z; exact absurd z (by decide)
    · rw [w2] at z; exact absurd z (by decide)
  · rw [(h.2.2.2.2.2.1 k).1] at z; exact absurd z (by decide)
  · exact q k
theorem lm_n0 (hk : TKo b m p) (h : LM σ b m p) (q : ¬ tK b m p = 0) : ¬ σ.1 168 45 = 0 := by
  intro z
  rcases tK_k hk with k | k | k | k | k
  · exact q k
  · rw [h.2.2.2.1 k] at z; exact absurd z (by decide)
  · rcases (h.2.2.2.2.2.2 k).2.2 with ⟨w, w1, w2, w3, w4⟩ | ⟨w1, w2⟩
    · rw [w3] at z; exact absurd z (by decide)
    · rw [w2] at z; exact absurd z (by decide)
  · rw [(h.2.2.2.2.2.1 k).1] at z; exact absurd z (by decide)
  · rw [h.2.2.2.2.1 k] at z; exact absurd z (by decide)
theorem lm_1 (hk : TKo b m p) (h : LM σ b m p) : σ.1 168 45 = 5 ↔ tK b m p = 1 := by
  constructor
  · intro z
    rcases tK_k hk with k | k | k | k | k
    · rw [h.2.2.1 k] at z; exact absurd z (by decide)
    · exact k
    · rcases (h.2.2.2.2.2.2 k).2.2 with ⟨w, w1, w2, w3, w4⟩ | ⟨w1, w2⟩
      · rw [w3] at z; exact absurd z (by decide)
      · rw [w2] at z; exact absurd z (by decide)
    · rw [(h.2.2.2.2.2.1 k).1] at z; exact absurd z (by decide)
    · rw [h.2.2.2.2.1 k] at z; exact absurd z (by decide)
  · exact h.2.2.2.1
theorem lm_W (h : LM σ b m p) {w : Nat} (hw : w < 12) (q : isW b m p w) : σ.1 168 45 = 1 ∧ σ.1 168 51 = nI (rwW w) := by
  rcases (h.2.2.2.2.2.2 q.1).2.2 with ⟨v, w1, w2, w3, w4⟩ | ⟨w1, w2⟩
  · have : v = w := WL_i w1 hw (w2.symm.trans q.2)
    subst this
    exact ⟨w3, w4⟩
  · exact absurd q.2 (w1 w hw)
theorem lm_nW (hk : TKo b m p) (h : LM σ b m p) (z : σ.1 168 45 = 1) : ∃ w, w < 12 ∧ isW b m p w ∧ σ.1 168 51 = nI (rwW w) := by
  rcases tK_k hk with k | k | k | k | k
  · rw [h.2.2.1 k] at z; exact absurd z (by decide)
  · rw [h.2.2.2.1 k] at z; exact absurd z (by decide)
  · rcases (h.2.2.2.2.2.2 k).2.2 with ⟨w, w1, w2, w3, w4⟩ | ⟨w1, w2⟩
    · exact ⟨w, w1, ⟨k, w2⟩, w4⟩
    · rw [w2] at z; exact absurd z (by decide)
  · rw [(h.2.2.2.2.2.1 k).1] at z; exact absurd z (by decide)
  · rw [h.2.2.2.2.1 k] at z; exact absurd z (by decide)
/-! the helpers -/
def PC (σ : gS) (b : Nat → Nat) (m p : Nat) : Prop := TP σ b m ∧ p ≤ m ∧ (σ.1 1 4 = nI p ∧ σ.1 1 9 = -1000000) ∧ σ.1 1 8 = 0
def PR (σ : gS) (b : Nat → Nat) (m p : Nat) : Prop := TPr σ b m ∧ (p ≤ m ∧ σ.1 168 50 = -1000000) ∧ LM σ b m p ∧ σ.1 168 49 = 0 ∧ TKo b m p
def GC (σ σ' : gS) (b : Nat → Nat) (m p : Nat) : Prop := PC σ' b m (tE b m p) ∧ frC σ σ'
def BC (σ σ' : gS) (f s : Nat) : Prop := σ'.1 1 8 = nI f ∧ σ'.1 1 9 = nI s ∧ 0 < f ∧ f < 10 ∧ frC σ σ'
def GR (σ σ' : gS) (b : Nat → Nat) (m p : Nat) : Prop := PR σ' b m p ∧ frR σ σ'
def BR (σ σ' : gS) (f s : Nat) : Prop := σ'.1 168 49 = nI f ∧ σ'.1 168 50 = nI s ∧ 0 < f ∧ f < 10 ∧ frR σ σ'
theorem BC.nz {f s : Nat} (h : BC σ σ' f s) : ¬ σ'.1 1 8 = 0 := by rw [h.1]; exact nI_ne0 h.2.2.1 (by have := h.2.2.2.1; omega)
theorem BR.nz {f s : Nat} (h : BR σ σ' f s) : ¬ σ'.1 168 49 = 0 := by rw [h.1]; exact nI_ne0 h.2.2.1 (by have := h.2.2.2.1; omega)
theorem PC.nx (h : PC σ b m p) : Wp (fX6_next σ) (fun _ σ' => LC σ' b m p ∧ TKo b m p ∧ σ'.1 1 8 = 0 ∧ GC σ σ' b m p) := by
  obtain ⟨ht, hp, ⟨h4, hx⟩, h8⟩ := h
  refine wp_m (nextC σ ht hp h4) ?_
  rintro _ σ' ⟨⟨k, s, e, hk, hc⟩, hf⟩
  obtain ⟨q, rfl, rfl, rfl⟩ := tk_ok hk
  have fr : frC σ σ' := fun x y z => hf x y (by omega)
  have e8 : σ'.1 1 8 = 0 := by rw [(hf 1 8 (by omega)).1]; exact h8
  exact ⟨hc, q, e8, ⟨fr.tp ht, (q.le hp).2.2.2.1, ⟨hc.1, by rw [(hf 1 9 (by omega)).1]; exact hx⟩, e8⟩, fr⟩
theorem PR.nx (h : PR σ b m p) : Wp (fX11_next σ) (fun _ σ' => GR σ σ' b m (tE b m p)) := by
  obtain ⟨ht, ⟨hp, hx⟩, hl, h9, hk⟩ := h
  have he := (hk.le hp).2.2.2.1
  refine wp_m (nextM σ ht he hl.1) ?_
  rintro _ σ' ⟨⟨k, s, e, hk, hc⟩, hf⟩
  obtain ⟨q, rfl, rfl, rfl⟩ := tk_ok hk
  have fr : frR σ σ' := fun x y z => hf x y (by omega) (by omega)
  exact ⟨⟨fr.tp ht, ⟨he, by rw [(hf 168 50 (by omega) (by omega)).1]; exact hx⟩, hc, by rw [(hf 168 49 (by omega) (by omega)).1]; exact h9, q⟩, fr⟩
theorem failC (h8 : σ.1 1 8 = 0) (v : Int32) : fX6_fail v σ = some ((), gsI (gsI σ 1 8 v) 1 9 (σ.1 1 6)) := by
  rw [fX6_fail, if_pos h8, bnd_r, bnd_r, rI_o (by decide), fX6_fail_20]
theorem badM (h9 : σ.1 168 49 = 0) (v : Int32) : fX11_bad v σ = some ((), gsI (gsI σ 168 49 v) 168 50 (σ.1 168 46)) := by
  rw [fX11_bad, if_pos h9, bnd_r, bnd_r, rI_o (by decide), fX11_bad_20]
theorem goodM (h9 : σ.1 168 49 = 0) : fX11_good σ = some (1, σ) := by
  rw [fX11_good, if_pos h9, fX11_good_12, gg_t (Or.inr rfl)]
theorem goodM_n (h9 : ¬ σ.1 168 49 = 0) : fX11_good σ = some (0, σ) := by
  rw [fX11_good, if_neg h9, fX11_good_12, gg_t (Or.inl rfl)]
/-- a fault is told at the token that was read -/
theorem bc_of {τ : gS} {f : Nat} (hc : LC σ' b m p) (fr : frC τ σ') (h0 : 0 < f) (h1 : f < 10) : BC τ (gsI (gsI σ' 1 8 (nI f)) 1 9 (σ'.1 1 6)) f (tS b m p) :=
  ⟨by rw [rI_o (by omega), rI_s], by rw [rI_s]; exact hc.2.1, h0, h1, (fr.i (by omega) (by omega)).i (by omega) (by omega)⟩
theorem br_of {τ : gS} {f : Nat} (hc : LM σ' b m p) (fr : frR τ σ') (h0 : 0 < f) (h1 : f < 10) : BR τ (gsI (gsI σ' 168 49 (nI f)) 168 50 (σ'.1 168 46)) f (tS b m p) :=
  ⟨by rw [rI_o (by omega), rI_s], by rw [rI_s]; exact hc.2.1, h0, h1, (fr.i (by omega) (by omega)).i (by omega) (by omega)⟩
theorem uf_b : 0 < uf b m p ∧ uf b m p < 10 := by unfold uf; split <;> decide
theorem unfitC {τ : gS} (hk : TKo b m p) (hc : LC σ b m p) (h8 : σ.1 1 8 = 0) (fr : frC τ σ) : Wp (fX6_failUnfit σ) (fun _ σ' => BC τ σ' (uf b m p) (tS b m p)) := by
  rw [fX6_failUnfit]
  by_cases q : tK b m p = 1
  · have e : uf b m p = 1 := if_pos q
    rw [if_pos ((lc_1 hk hc).mpr q), fX6_failUnfit_14, failC h8, bd_r, e]
    exact wp_r (bc_of hc fr (by decide) (by decide))
  · have e : uf b m p = 2 := if_neg q
    rw [if_neg (fun z => q ((lc_1 hk hc).mp z)), fX6_failUnfit_14, failC h8, bd_r, e]
    exact wp_r (bc_of hc fr (by decide) (by decide))
/-- want() of the reference, by the kind it wants -/
theorem wantM_ok {k : Int32} (h9 : σ.1 168 49 = 0) (h : σ.1 168 45 = k) : fX11_want k σ = some ((), σ) := by
  rw [fX11_want, goodM h9, bd_r, i10, if_pos h, fX11_want_32]
theorem wantM_n {k : Int32} (h9 : ¬ σ.1 168 49 = 0) : fX11_want k σ = some ((), σ) := by
  rw [fX11_want, goodM_n h9, bd_r, i00, fX11_want_32]
theorem wantM_bad {k : Int32} (h : PR σ b m p) (hn : ¬ σ.1 168 45 = k) : Wp (fX11_want k σ) (fun _ σ' => BR σ σ' (uf b m p) (tS b m p)) := by
  obtain ⟨ht, hp, hl, h9, hk⟩ := h
  rw [fX11_want, goodM h9, bd_r, i10, if_neg hn]
  by_cases q : tK b m p = 1
  · have e : uf b m p = 1 := if_pos q
    rw [if_pos ((lm_1 hk hl).mpr q), fX11_want_29, badM h9, bd_r, fX11_want_32, e]
    exact wp_r (br_of hl (frR.r σ) (by decide) (by decide))
  · have e : uf b m p = 2 := if_neg q
    rw [if_neg (fun z => q ((lm_1 hk hl).mp z)), fX11_want_29, badM h9, bd_r, fX11_want_32, e]
    exact wp_r (br_of hl (frR.r σ) (by decide) (by decide))
/-! the sign -/
theorem signC_ok (h : PC σ b m p) (k5 : tK b m p = 5) : Wp (fX6_expectSign σ) (fun _ σ' => GC σ σ' b m p) := by
  rw [fX6_expectSign, if_pos h.2.2.2]
  refine wp_bw h.nx ?_
  rintro _ σ' ⟨hc, hk, h8, hg⟩
  rw [if_pos (hc.2.2.2.2.1 k5), fX6_expectSign_24]
  exact wp_r hg
theorem signC_bad (h : PC σ b m p) (k5 : ¬ tK b m p = 5) : Wp (fX6_expectSign σ) (fun _ σ' => BC σ σ' (uf b m p) (tS b m p)) := by
  rw [fX6_expectSign, if_pos h.2.2.2]
  refine wp_bw h.nx ?_
  rintro _ σ' ⟨hc, hk, h8, hg⟩
  rw [if_neg (lc_n5 hk hc k5)]
  refine wp_bw (unfitC hk hc h8 hg.2) ?_
  rintro _ σ'' hb
  rw [fX6_expectSign_24]
  exact wp_r hb
theorem signC_n (h : ¬ σ.1 1 8 = 0) : fX6_expectSign σ = some ((), σ) := by rw [fX6_expectSign, if_neg h]
theorem stopM_ok (h : PR σ b m p) (k5 : tK b m p = 5) : Wp (fX11_stop σ) (fun _ σ' => GR σ σ' b m (tE b m p)) := by
  rw [fX11_stop, wantM_ok h.2.2.2.1 (h.2.2.1.2.2.2.2.1 k5), bd_r, goodM h.2.2.2.1, bd_r, i10]
  refine wp_bw h.nx ?_
  rintro _ σ' hg
  rw [fX11_stop_16]
  exact wp_r hg
theorem stopM_bad (h : PR σ b m p) (k5 : ¬ tK b m p = 5) : Wp (fX11_stop σ) (fun _ σ' => BR σ σ' (uf b m p) (tS b m p)) := by
  rw [fX11_stop]
  refine wp_bw (wantM_bad h (lm_n5 h.2.2.2.2 h.2.2.1 k5)) ?_
  rintro _ σ' hb
  rw [goodM_n hb.nz, bd_r, i00, fX11_stop_16]
  exact wp_r hb
theorem stopM_n (h : ¬ σ.1 168 49 = 0) : fX11_stop σ = some ((), σ) := by rw [fX11_stop, wantM_n h, bd_r, goodM_n h, bd_r, i00, fX11_stop_16]
/-! a number -/
noncomputable def numF (b : Nat → Nat) (m p : Nat) : Nat := if tK b m p = 4 then 5 else uf b m p
theorem numC_ok {lo hi : Int32} (h : PC σ b m p) (k4 : tK b m p = 4) (h1 : lo.toInt ≤ tV b m p) (h2 : tV b m p ≤ hi.toInt) : Wp (fX6_number lo hi σ) (fun r σ' => r.toInt = tV b m p ∧ GC σ σ' b m p) := by
  rw [fX6_number, if_pos h.2.2.2]
  refine wp_bw h.nx ?_
  rintro _ σ' ⟨hc, hk, h8, hg⟩
  obtain ⟨e1, e2⟩ := hc.2.2.2.2.2.1 k4
  change (σ'.1 1 7).toInt = tV b m p at e2
  rw [if_pos e1, if_neg (fun z => by have := lt32.mp z; omega), if_pos (le32.mpr (by omega)), fX6_number_50]
  exact wp_r ⟨e2, hg⟩
theorem numC_bad {lo hi : Int32} (h : PC σ b m p) (hn : ¬ (tK b m p = 4 ∧ lo.toInt ≤ tV b m p ∧ tV b m p ≤ hi.toInt)) : Wp (fX6_number lo hi σ) (fun _ σ' => BC σ σ' (numF b m p) (tS b m p)) := by
  rw [fX6_number, if_pos h.2.2.2]
  refine wp_bw h.nx ?_
  rintro _ σ' ⟨hc, hk, h8, hg⟩
  by_cases k4 : tK b m p = 4
  · obtain ⟨e1, e2⟩ := hc.2.2.2.2.2.1 k4
    change (σ'.1 1 7).toInt = tV b m p at e2
    have ef : numF b m p = 5 := if_pos k4
    have fin : Wp (fX6_number_45 lo hi σ') (fun _ σ'' => BC σ σ'' (numF b m p) (tS b m p)) := by
      rw [fX6_number_45, failC h8, bd_r, fX6_number_50, ef]
      exact wp_r (bc_of hc hg.2 (by decide) (by decide))
    rw [if_pos e1]
    by_cases q : σ'.1 1 7 < lo
    · rw [if_pos q]; exact fin
    · have q' := mt lt32.mpr q
      rw [if_neg q, if_neg (fun z => by have := le32.mp z; exact hn ⟨k4, by omega, by omega⟩)]
      exact fin
  · have ef : numF b m p = uf b m p := if_neg k4
    rw [if_neg (lc_n4 hk hc k4), ef]
    refine wp_bw (unfitC hk hc h8 hg.2) ?_
    rintro _ σ'' hb
    rw [fX6_number_50]
    exact wp_r hb
theorem numC_n {lo hi : Int32} (h : ¬ σ.1 1 8 = 0) : fX6_number lo hi σ = some (-1000000, σ) := by rw [fX6_number, if_neg h]
theorem bouM_ok {lo hi : Int32} (h : PR σ b m p) (k4 : tK b m p = 4) (h1 : lo.toInt ≤ tV b m p) (h2 : tV b m p ≤ hi.toInt) : Wp (fX11_bounded lo hi σ) (fun r σ' => r.toInt = tV b m p ∧ GR σ σ' b m (tE b m p)) := by
  obtain ⟨e1, e2⟩ := h.2.2.1.2.2.2.2.2.1 k4
  change (σ.1 168 48).toInt = tV b m p at e2
  rw [fX11_bounded, wantM_ok h.2.2.2.1 e1, bd_r, goodM h.2.2.2.1, bd_r, i10, in_t (by rw [l32, l32, l32]; omega), bd_r, i10, fX11_bounded_32, goodM h.2.2.2.1, bd_r, i10]
  refine wp_bw h.nx ?_
  rintro _ σ' hg
  rw [fX11_bounded_48]
  exact wp_r ⟨e2, hg⟩
theorem bouM_bad {lo hi : Int32} (h : PR σ b m p) (hn : ¬ (tK b m p = 4 ∧ lo.toInt ≤ tV b m p ∧ tV b m p ≤ hi.toInt)) : Wp (fX11_bounded lo hi σ) (fun _ σ' => BR σ σ' (numF b m p) (tS b m p)) := by
  rw [fX11_bounded]
  by_cases k4 : tK b m p = 4
  · obtain ⟨e1, e2⟩ := h.2.2.1.2.2.2.2.2.1 k4
    change (σ.1 168 48).toInt = tV b m p at e2
    have ef : numF b m p = 5 := if_pos k4
    have hb : BR σ (gsI (gsI σ 168 49 (nI 5)) 168 50 (σ.1 168 46)) 5 (tS b m p) := br_of h.2.2.1 (frR.r σ) (by decide) (by decide)
    rw [wantM_ok h.2.2.2.1 e1, bd_r, goodM h.2.2.2.1, bd_r, i10, in_f (by rw [l32, l32, l32]; exact fun z => hn ⟨k4, by omega, by omega⟩), bd_r, i00, show (5 : Int32) = nI 5 from rfl, badM h.2.2.2.1, bd_r, fX11_bounded_32, goodM_n hb.nz, bd_r, i00, fX11_bounded_48, ef]
    exact wp_r hb
  · have ef : numF b m p = uf b m p := if_neg k4
    rw [ef]
    refine wp_bw (wantM_bad h (lm_n4 h.2.2.2.2 h.2.2.1 k4)) ?_
    rintro _ σ' hb
    rw [goodM_n hb.nz, bd_r, i00, fX11_bounded_32, goodM_n hb.nz, bd_r, i00, fX11_bounded_48]
    exact wp_r hb
theorem bouM_n {lo hi : Int32} (h : ¬ σ.1 168 49 = 0) : ∃ r, fX11_bounded lo hi σ = some (r, σ) := by
  refine ⟨σ.1 168 48, ?_⟩
  rw [fX11_bounded, wantM_n h, bd_r, goodM_n h, bd_r, i00, fX11_bounded_32, goodM_n h, bd_r, i00, fX11_bounded_48]
/-! a word -/
theorem wordC_ok {w : Nat} (h : PC σ b m p) (hw : w < 12) (q : isW b m p w) : Wp (fX6_expectWord (nI w) σ) (fun _ σ' => GC σ σ' b m p) := by
  rw [fX6_expectWord, if_pos h.2.2.2]
  refine wp_bw h.nx ?_
  rintro _ σ' ⟨hc, hk, h8, hg⟩
  obtain ⟨e1, e2⟩ := lc_W hc hw q
  rw [if_pos e1, if_pos e2, fX6_expectWord_32]
  exact wp_r hg
theorem wordC_bad {w : Nat} (h : PC σ b m p) (hw : w < 12) (q : ¬ isW b m p w) : Wp (fX6_expectWord (nI w) σ) (fun _ σ' => BC σ σ' (uf b m p) (tS b m p)) := by
  rw [fX6_expectWord, if_pos h.2.2.2]
  refine wp_bw h.nx ?_
  rintro _ σ' ⟨hc, hk, h8, hg⟩
  have fin : Wp (fX6_expectWord_28 (nI w) σ') (fun _ σ'' => BC σ σ'' (uf b m p) (tS b m p)) := by
    rw [fX6_expectWord_28]
    refine wp_bw (unfitC hk hc h8 hg.2) ?_
    rintro _ σ'' hb
    rw [fX6_expectWord_32]
    exact wp_r hb
  by_cases z : σ'.1 1 5 = 2
  · obtain ⟨v, v1, v2, v3⟩ := lc_nW hk hc z
    rw [if_pos z, if_neg (fun y => q (by have := (nI_eq (by omega) (by omega)).mp (v3.symm.trans y); subst this; exact v2))]
    exact fin
  · rw [if_neg z]; exact fin
theorem wordC_n {w : Int32} (h : ¬ σ.1 1 8 = 0) : fX6_expectWord w σ = some ((), σ) := by rw [fX6_expectWord, if_neg h]
theorem rwW_b {w : Nat} (h : w < 12) : 0 < rwW w ∧ rwW w < 13 := by rcases k12 h with rfl | rfl | rfl | rfl | rfl | rfl | rfl | rfl | rfl | rfl | rfl | rfl <;> decide
theorem rwW_i {v w : Nat} (hv : v < 12) (hw : w < 12) (h : rwW v = rwW w) : v = w := by
  have : ∀ v, v < 12 → ∀ w, w < 12 → rwW v = rwW w → v = w := by decide
  exact this v hv w hw h
theorem wwM_ok {w : Nat} (h : PR σ b m p) (hw : w < 12) (q : isW b m p w) : Wp (fX11_wantWord (nI (rwW w)) σ) (fun _ σ' => GR σ σ' b m (tE b m p)) := by
  obtain ⟨e1, e2⟩ := lm_W h.2.2.1 hw q
  rw [fX11_wantWord, wantM_ok h.2.2.2.1 e1, bd_r, goodM h.2.2.2.1, bd_r, i10, if_pos e2, fX11_wantWord_25, goodM h.2.2.2.1, bd_r, i10]
  refine wp_bw h.nx ?_
  rintro _ σ' hg
  rw [fX11_wantWord_36]
  exact wp_r hg
theorem wwM_bad {w : Nat} (h : PR σ b m p) (hw : w < 12) (q : ¬ isW b m p w) : Wp (fX11_wantWord (nI (rwW w)) σ) (fun _ σ' => BR σ σ' (uf b m p) (tS b m p)) := by
  rw [fX11_wantWord]
  by_cases z : σ.1 168 45 = 1
  · obtain ⟨v, v1, v2, v3⟩ := lm_nW h.2.2.2.2 h.2.2.1 z
    have ef : uf b m p = 2 := if_neg (by rw [v2.1]; decide)
    have hb : BR σ (gsI (gsI σ 168 49 (nI 2)) 168 50 (σ.1 168 46)) 2 (tS b m p) := br_of h.2.2.1 (frR.r σ) (by decide) (by decide)
    have a := rwW_b v1
    have c := rwW_b hw
    rw [wantM_ok h.2.2.2.1 z, bd_r, goodM h.2.2.2.1, bd_r, i10, if_neg (fun y => q (by have := rwW_i v1 hw ((nI_eq (by omega) (by omega)).mp (v3.symm.trans y)); subst this; exact v2)), show (2 : Int32) = nI 2 from rfl, badM h.2.2.2.1, bd_r, fX11_wantWord_25, goodM_n hb.nz, bd_r, i00, fX11_wantWord_36, ef]
    exact wp_r hb
  · refine wp_bw (wantM_bad h z) ?_
    rintro _ σ' hb
    rw [goodM_n hb.nz, bd_r, i00, fX11_wantWord_25, goodM_n hb.nz, bd_r, i00, fX11_wantWord_36]
    exact wp_r hb
theorem wwM_n {w : Int32} (h : ¬ σ.1 168 49 = 0) : fX11_wantWord w σ = some ((), σ) := by
  rw [fX11_wantWord, wantM_n h, bd_r, goodM_n h, bd_r, i00, fX11_wantWord_25, goodM_n h, bd_r, i00, fX11_wantWord_36]
end PRS

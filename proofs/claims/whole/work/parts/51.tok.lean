/-! TOKENS: what both read at a place of the tape -/
def ltr (c : Nat) : Prop := 97 ≤ c ∧ c ≤ 122
def fig (c : Nat) : Prop := 48 ≤ c ∧ c ≤ 57
def spc (c : Nat) : Prop := c = 32 ∨ c = 10
def runs (q : Nat → Prop) (b : Nat → Nat) (m p e : Nat) : Prop := p ≤ e ∧ (∀ i, p ≤ i → i < e → i < m ∧ q (b i)) ∧ ¬ (e < m ∧ q (b e))
theorem runs_u {q : Nat → Prop} {b : Nat → Nat} {m p e e' : Nat} (h : runs q b m p e) (h' : runs q b m p e') : e = e' := by
  obtain ⟨a1, a2, a3⟩ := h
  obtain ⟨b1, b2, b3⟩ := h'
  rcases Nat.lt_trichotomy e e' with z | z | z
  · exact absurd (b2 e a1 z) a3
  · exact z
  · exact absurd (a2 e' b1 z) b3
/-- the letters of a name, the last one first -/
def seg (b : Nat → Nat) (s : Nat) : Nat → List Nat
  | 0 => []
  | k + 1 => b (s + k) :: seg b s k
def c27 : List Nat → Nat
  | [] => 0
  | c :: l => 27 * c27 l + (c - 96)
def c256 : List Nat → Nat
  | [] => 0
  | c :: l => 256 * c256 l + c
def lets (l : List Nat) : Prop := ∀ c, c ∈ l → ltr c
theorem c27_i : ∀ (l l' : List Nat), lets l → lets l' → c27 l = c27 l' → l = l'
  | [], [], _, _, _ => rfl
  | [], c :: l, _, h, e => by
    have := h c (List.mem_cons_self ..)
    unfold ltr at this
    simp only [c27] at e
    omega
  | c :: l, [], h, _, e => by
    have := h c (List.mem_cons_self ..)
    unfold ltr at this
    simp only [c27] at e
    omega
  | c :: l, c' :: l', h, h', e => by
    have a := h c (List.mem_cons_self ..)
    have a' := h' c' (List.mem_cons_self ..)
    unfold ltr at a a'
    simp only [c27] at e
    have := c27_i l l' (fun x hx => h x (List.mem_cons_of_mem _ hx)) (fun x hx => h' x (List.mem_cons_of_mem _ hx)) (by omega)
    subst this
    congr 1
    omega
theorem c256_i : ∀ (l l' : List Nat), lets l → lets l' → c256 l = c256 l' → l = l'
  | [], [], _, _, _ => rfl
  | [], c :: l, _, h, e => by
    have := h c (List.mem_cons_self ..)
    unfold ltr at this
    simp only [c256] at e
    omega
  | c :: l, [], h, _, e => by
    have := h c (List.mem_cons_self ..)
    unfold ltr at this
    simp only [c256] at e
    omega
  | c :: l, c' :: l', h, h', e => by
    have a := h c (List.mem_cons_self ..)
    have a' := h' c' (List.mem_cons_self ..)
    unfold ltr at a a'
    simp only [c256] at e
    have := c256_i l l' (fun x hx => h x (List.mem_cons_of_mem _ hx)) (fun x hx => h' x (List.mem_cons_of_mem _ hx)) (by omega)
    subst this
    congr 1
    omega
theorem c27_b : ∀ (l : List Nat), lets l → c27 l < 27 ^ l.length
  | [], _ => by decide
  | c :: l, h => by
    have a := h c (List.mem_cons_self ..)
    unfold ltr at a
    have := c27_b l (fun x hx => h x (List.mem_cons_of_mem _ hx))
    simp only [c27, List.length_cons, Nat.pow_succ]
    omega
theorem c256_b : ∀ (l : List Nat), lets l → c256 l < 256 ^ l.length
  | [], _ => by decide
  | c :: l, h => by
    have a := h c (List.mem_cons_self ..)
    unfold ltr at a
    have := c256_b l (fun x hx => h x (List.mem_cons_of_mem _ hx))
    simp only [c256, List.length_cons, Nat.pow_succ]
    omega
/-- a name: letters, six at the most -/
def isNm (l : List Nat) : Prop := lets l ∧ l.length ≤ 6
theorem c27_31 {l : List Nat} (h : isNm l) : c27 l < 2 ^ 31 := by
  have a := c27_b l h.1
  have b : 27 ^ l.length ≤ 27 ^ 6 := Nat.pow_le_pow_right (by decide) h.2
  have c : 27 ^ 6 < 2 ^ 31 := by decide
  omega
theorem c256_63 {l : List Nat} (h : isNm l) : c256 l < 2 ^ 48 := by
  have a := c256_b l h.1
  have b : 256 ^ l.length ≤ 256 ^ 6 := Nat.pow_le_pow_right (by decide) h.2
  have c : 256 ^ 6 = 2 ^ 48 := by decide
  omega
theorem nm27 {l l' : List Nat} (h : isNm l) (h' : isNm l') : nI (c27 l) = nI (c27 l') ↔ l = l' := by
  rw [nI_eq (c27_31 h) (c27_31 h')]
  exact ⟨c27_i l l' h.1 h'.1, fun e => by rw [e]⟩
theorem nm256 {l l' : List Nat} (h : isNm l) (h' : isNm l') : lN (c256 l) = lN (c256 l') ↔ l = l' := by
  have a := c256_63 h
  have b := c256_63 h'
  rw [pk_lEQ (by omega) (by omega)]
  exact ⟨c256_i l l' h.1 h'.1, fun e => by rw [e]⟩
theorem seg_len (b : Nat → Nat) (s : Nat) : ∀ k, (seg b s k).length = k
  | 0 => rfl
  | k + 1 => by rw [seg, List.length_cons, seg_len b s k]
theorem seg_l {b : Nat → Nat} {s : Nat} : ∀ k, (∀ i, s ≤ i → i < s + k → ltr (b i)) → lets (seg b s k)
  | 0, _ => fun c hc => by cases hc
  | k + 1, h => by
    intro c hc
    rw [seg] at hc
    rcases List.mem_cons.mp hc with rfl | hc
    · exact h _ (by omega) (by omega)
    · exact seg_l k (fun i h1 h2 => h i h1 (by omega)) c hc
/-- the words -/
def WL (w : Nat) : List Nat := ([[100, 110, 117, 111, 114, 103], [116, 110, 105, 111, 106], [114, 97, 98], [110, 105, 97, 104, 99], [101, 109, 97, 114, 102], [108, 101, 101, 104, 119], [116, 97], [104, 115, 101, 109], [116, 108, 101, 98], [116, 102, 97, 104, 115], [101, 118, 105, 114, 100], [116, 117, 111, 98, 97]] : List (List Nat)).getD w []
def rwW (w : Nat) : Nat := ([1, 2, 3, 4, 5, 6, 11, 7, 8, 9, 10, 12] : List Nat).getD w 0
theorem k12 {w : Nat} (h : w < 12) : w = 0 ∨ w = 1 ∨ w = 2 ∨ w = 3 ∨ w = 4 ∨ w = 5 ∨ w = 6 ∨ w = 7 ∨ w = 8 ∨ w = 9 ∨ w = 10 ∨ w = 11 := by omega
theorem WL_nm {w : Nat} (h : w < 12) : isNm (WL w) := by
  have : ∀ w, w < 12 → ((WL w).all (fun c => decide (97 ≤ c ∧ c ≤ 122)) && decide ((WL w).length ≤ 6)) = true := by decide
  have q := this w h
  rw [Bool.and_eq_true] at q
  exact ⟨fun c hc => by have := List.all_eq_true.mp q.1 c hc; exact (show 97 ≤ c ∧ c ≤ 122 from of_decide_eq_true this), of_decide_eq_true q.2⟩
theorem WL_i {w w' : Nat} (h : w < 12) (h' : w' < 12) (e : WL w = WL w') : w = w' := by
  have : ∀ w, w < 12 → ∀ w', w' < 12 → WL w = WL w' → w = w' := by decide
  exact this w h w' h' e
/-- what the tape holds -/
def TP (σ : gS) (b : Nat → Nat) (m : Nat) : Prop := m ≤ 1200 ∧ σ.1 1 1 = nI m ∧ σ.1 168 43 = nI m ∧ (∀ i, i < m → b i < 256 ∧ σ.1 197 i = nI (b i) ∧ σ.1 2 i = b8 (b i)) ∧ (∀ w, w < 12 → σ.1 3 w = nI (c27 (WL w)))
theorem TP.keep {σ σ' : gS} {b : Nat → Nat} {m : Nat} (h : TP σ b m) (k1 : σ'.1 1 1 = σ.1 1 1) (k2 : σ'.1 168 43 = σ.1 168 43) (k3 : ∀ i, σ'.1 197 i = σ.1 197 i) (k4 : ∀ i, σ'.1 2 i = σ.1 2 i) (k5 : ∀ i, σ'.1 3 i = σ.1 3 i) : TP σ' b m := by
  obtain ⟨a, b, c, d, e⟩ := h
  refine ⟨a, by rw [k1]; exact b, by rw [k2]; exact c, fun i hi => by rw [k3, k4]; exact d i hi, fun w hw => by rw [k5]; exact e w hw⟩
/-- the tape as the reference holds it -/
def TPr (σ : gS) (b : Nat → Nat) (m : Nat) : Prop := m ≤ 1200 ∧ True ∧ σ.1 168 43 = nI m ∧ (∀ i, i < m → b i < 256 ∧ σ.1 197 i = nI (b i) ∧ True) ∧ True
theorem TPr.keep {σ σ' : gS} {b : Nat → Nat} {m : Nat} (h : TPr σ b m) (k2 : σ'.1 168 43 = σ.1 168 43) (k3 : ∀ i, σ'.1 197 i = σ.1 197 i) : TPr σ' b m := by
  obtain ⟨a, -, c, d, -⟩ := h
  exact ⟨a, trivial, by rw [k2]; exact c, fun i hi => by rw [k3]; exact d i hi, trivial⟩
theorem TP.r {σ : gS} {b : Nat → Nat} {m : Nat} (h : TP σ b m) : TPr σ b m := ⟨h.1, trivial, h.2.2.1, fun i hi => ⟨(h.2.2.2.1 i hi).1, (h.2.2.2.1 i hi).2.1, trivial⟩, trivial⟩
theorem b8_int : ∀ c, c < 256 → (b8 c).toInt = if c < 128 then (c : Int) else (c : Int) - 256 := by decide +kernel
theorem b8_lo : ∀ c, c < 128 → b8 c = nI c := by decide +kernel
theorem b8_eq {c v : Nat} (hc : c < 256) (hv : v < 128) : b8 c = nI v ↔ c = v := by
  rw [eq32, b8_int c hc, nI_toInt (by omega)]
  split <;> omega
theorem isLC {σ : gS} {b : Nat → Nat} {m p : Nat} (h : TP σ b m) (hp : p < m) [Decidable (ltr (b p))] : fX6_isLetterAt (nI p) σ = some (if ltr (b p) then 1 else 0, σ) := by
  obtain ⟨a, -, -, d, -⟩ := h
  obtain ⟨d1, -, d2⟩ := d p hp
  have g1 := g_ix (show p < 1200 by omega) (by decide)
  have hc : (nI p).toNatClampNeg = p := nI_clamp (by omega)
  have e1 : (b8 (b p) < 97) ↔ (b8 (b p)).toInt < 97 := lt32
  have e2 : (122 < b8 (b p)) ↔ 122 < (b8 (b p)).toInt := lt32
  have e3 := b8_int _ d1
  rw [fX6_isLetterAt, gg_t g1, hc, d2]
  by_cases q : ltr (b p)
  · rw [if_pos q]
    unfold ltr at q
    rw [if_neg (by rw [e1, e3]; split <;> omega), gg_t (by rw [hc] at g1; exact g1), if_neg (by rw [e2, e3]; split <;> omega), fX6_isLetterAt_27, gg_t (Or.inr rfl)]
  · rw [if_neg q]
    unfold ltr at q
    by_cases z : b8 (b p) < 97
    · rw [if_pos z, fX6_isLetterAt_26, fX6_isLetterAt_27, gg_t (Or.inl rfl)]
    · rw [if_neg z, gg_t (by rw [hc] at g1; exact g1), if_pos (by rw [e1, e3] at z; rw [e2, e3]; split at z <;> split <;> omega), fX6_isLetterAt_26, fX6_isLetterAt_27, gg_t (Or.inl rfl)]
theorem isFC {σ : gS} {b : Nat → Nat} {m p : Nat} (h : TP σ b m) (hp : p < m) [Decidable (fig (b p))] : fX6_isFigureAt (nI p) σ = some (if fig (b p) then 1 else 0, σ) := by
  obtain ⟨a, -, -, d, -⟩ := h
  obtain ⟨d1, -, d2⟩ := d p hp
  have g1 := g_ix (show p < 1200 by omega) (by decide)
  have hc : (nI p).toNatClampNeg = p := nI_clamp (by omega)
  have e1 : (b8 (b p) < 48) ↔ (b8 (b p)).toInt < 48 := lt32
  have e2 : (57 < b8 (b p)) ↔ 57 < (b8 (b p)).toInt := lt32
  have e3 := b8_int _ d1
  rw [fX6_isFigureAt, gg_t g1, hc, d2]
  by_cases q : fig (b p)
  · rw [if_pos q]
    unfold fig at q
    rw [if_neg (by rw [e1, e3]; split <;> omega), gg_t (by rw [hc] at g1; exact g1), if_neg (by rw [e2, e3]; split <;> omega), fX6_isFigureAt_27, gg_t (Or.inr rfl)]
  · rw [if_neg q]
    unfold fig at q
    by_cases z : b8 (b p) < 48
    · rw [if_pos z, fX6_isFigureAt_26, fX6_isFigureAt_27, gg_t (Or.inl rfl)]
    · rw [if_neg z, gg_t (by rw [hc] at g1; exact g1), if_pos (by rw [e1, e3] at z; rw [e2, e3]; split at z <;> split <;> omega), fX6_isFigureAt_26, fX6_isFigureAt_27, gg_t (Or.inl rfl)]
/-- what the reference sees -/
theorem lookM {σ : gS} {b : Nat → Nat} {m p : Nat} (h : TPr σ b m) (hp : σ.1 168 44 = nI p) (hm : p ≤ m) : fX11_look σ = some (if p < m then nI (b p) else -1, σ) := by
  obtain ⟨a, -, c, d, -⟩ := h
  rw [fX11_look, c, hp]
  by_cases q : p < m
  · rw [if_neg (nI_ge q (by omega)), gg_t (g_ix (by omega) (by decide)), nI_clamp (by omega), (d p q).2.1, fX11_look_24, if_pos q]
  · rw [if_pos (nI_le (by omega) (by omega)), fX11_look_24, if_neg q]
theorem isLM {σ : gS} {b : Nat → Nat} {m p : Nat} (h : TPr σ b m) (hp : σ.1 168 44 = nI p) (hm : p ≤ m) [Decidable (p < m ∧ ltr (b p))] : fX11_isLetter σ = some (if p < m ∧ ltr (b p) then 1 else 0, σ) := by
  rw [fX11_isLetter, lookM h hp hm, bd_r]
  by_cases q : p < m
  · have := (h.2.2.2.1 p q).1
    rw [if_pos q]
    by_cases z : ltr (b p)
    · rw [if_pos ⟨q, z⟩]
      unfold ltr at z
      rw [in_t (by rw [l32, nI_toInt (by omega), show (97 : Int64).toInt = 97 from rfl, show (122 : Int64).toInt = 122 from rfl]; omega), bd_r, gg_t (Or.inr rfl)]
    · rw [if_neg (fun w => z w.2)]
      unfold ltr at z
      rw [in_f (by rw [l32, nI_toInt (by omega), show (97 : Int64).toInt = 97 from rfl, show (122 : Int64).toInt = 122 from rfl]; omega), bd_r, gg_t (Or.inl rfl)]
  · rw [if_neg q, if_neg (fun w => q w.1), in_f (by decide), bd_r, gg_t (Or.inl rfl)]
theorem isFM {σ : gS} {b : Nat → Nat} {m p : Nat} (h : TPr σ b m) (hp : σ.1 168 44 = nI p) (hm : p ≤ m) [Decidable (p < m ∧ fig (b p))] : fX11_isFigure σ = some (if p < m ∧ fig (b p) then 1 else 0, σ) := by
  rw [fX11_isFigure, lookM h hp hm, bd_r]
  by_cases q : p < m
  · have := (h.2.2.2.1 p q).1
    rw [if_pos q]
    by_cases z : fig (b p)
    · rw [if_pos ⟨q, z⟩]
      unfold fig at z
      rw [in_t (by rw [l32, nI_toInt (by omega), show (48 : Int64).toInt = 48 from rfl, show (57 : Int64).toInt = 57 from rfl]; omega), bd_r, gg_t (Or.inr rfl)]
    · rw [if_neg (fun w => z w.2)]
      unfold fig at z
      rw [in_f (by rw [l32, nI_toInt (by omega), show (48 : Int64).toInt = 48 from rfl, show (57 : Int64).toInt = 57 from rfl]; omega), bd_r, gg_t (Or.inl rfl)]
  · rw [if_neg q, if_neg (fun w => q w.1), in_f (by decide), bd_r, gg_t (Or.inl rfl)]
theorem or8 {a c : Nat} (ha : a < 2 ^ 48) (hc : c < 256) : (lN a <<< ((8 : Int32).toInt64 &&& 63)) ||| (nI c).toInt64 = lN (256 * a + c) := by
  rw [nI_l (by omega), show ((8 : Int32).toInt64 &&& 63) = lN 8 from by decide]
  apply Int64.toBitVec_inj.mp
  apply BitVec.eq_of_toNat_eq
  show ((BitVec.ofNat 64 a <<< ((lN 8).toBitVec.smod 64)) ||| BitVec.ofNat 64 c).toNat = (BitVec.ofNat 64 (256 * a + c)).toNat
  rw [BitVec.toNat_or, BitVec.shiftLeft_eq', show ((lN 8).toBitVec.smod 64).toNat = 8 by decide, BitVec.toNat_shiftLeft, BitVec.toNat_ofNat, BitVec.toNat_ofNat, BitVec.toNat_ofNat, Nat.mod_eq_of_lt (show a < 2 ^ 64 by omega), Nat.mod_eq_of_lt (show c < 2 ^ 64 by omega), Nat.mod_eq_of_lt (show 256 * a + c < 2 ^ 64 by omega), Nat.shiftLeft_eq, Nat.mod_eq_of_lt (show a * 2 ^ 8 < 2 ^ 64 by omega), ← Nat.shiftLeft_eq, ← Nat.shiftLeft_add_eq_or_of_lt (show c < 2 ^ 8 by omega), Nat.shiftLeft_eq]
  omega
theorem wordM (x : Int64) (σ : gS) : ∃ r, fX11_wordOf x σ = some (r, σ) ∧ (∀ w, w < 12 → x = lN (c256 (WL w)) → r = nI (rwW w)) ∧ ((∀ w, w < 12 → x ≠ lN (c256 (WL w))) → r = 0) := by
  have inj : ∀ w, w < 12 → ∀ w', w' < 12 → lN (c256 (WL w)) = lN (c256 (WL w')) → w = w' := fun w hw w' hw' e => WL_i hw hw' ((nm256 (WL_nm hw) (WL_nm hw')).mp e)
  have e0 : ∀ τ, fX11_word 103 114 111 117 110 100 τ = some (lN (c256 (WL 0)), τ) := fun τ => rfl
  have e1 : ∀ τ, fX11_word 106 111 105 110 116 0 τ = some (lN (c256 (WL 1)), τ) := fun τ => rfl
  have e2 : ∀ τ, fX11_word 98 97 114 0 0 0 τ = some (lN (c256 (WL 2)), τ) := fun τ => rfl
  have e3 : ∀ τ, fX11_word 99 104 97 105 110 0 τ = some (lN (c256 (WL 3)), τ) := fun τ => rfl
  have e4 : ∀ τ, fX11_word 102 114 97 109 101 0 τ = some (lN (c256 (WL 4)), τ) := fun τ => rfl
  have e5 : ∀ τ, fX11_word 119 104 101 101 108 0 τ = some (lN (c256 (WL 5)), τ) := fun τ => rfl
  have e6 : ∀ τ, fX11_word 109 101 115 104 0 0 τ = some (lN (c256 (WL 7)), τ) := fun τ => rfl
  have e7 : ∀ τ, fX11_word 98 101 108 116 0 0 τ = some (lN (c256 (WL 8)), τ) := fun τ => rfl
  have e8 : ∀ τ, fX11_word 115 104 97 102 116 0 τ = some (lN (c256 (WL 9)), τ) := fun τ => rfl
  have e9 : ∀ τ, fX11_word 100 114 105 118 101 0 τ = some (lN (c256 (WL 10)), τ) := fun τ => rfl
  have e10 : ∀ τ, fX11_word 97 116 0 0 0 0 τ = some (lN (c256 (WL 6)), τ) := fun τ => rfl
  have e11 : ∀ τ, fX11_word 97 98 111 117 116 0 τ = some (lN (c256 (WL 11)), τ) := fun τ => rfl
  rw [fX11_wordOf, e0, bd_r]
  by_cases h0 : x = lN (c256 (WL 0))
  · rw [if_pos (cmp_eq.mpr h0)]
    exact ⟨_, rfl, fun w hw e => by rw [← inj 0 (by decide) w hw (h0.symm.trans e)]; rfl, fun q => absurd h0 (q 0 (by decide))⟩
  rw [if_neg (mt cmp_eq.mp h0), e1, bd_r]
  by_cases h1 : x = lN (c256 (WL 1))
  · rw [if_pos (cmp_eq.mpr h1)]
    exact ⟨_, rfl, fun w hw e => by rw [← inj 1 (by decide) w hw (h1.symm.trans e)]; rfl, fun q => absurd h1 (q 1 (by decide))⟩
  rw [if_neg (mt cmp_eq.mp h1), e2, bd_r]
  by_cases h2 : x = lN (c256 (WL 2))
  · rw [if_pos (cmp_eq.mpr h2)]
    exact ⟨_, rfl, fun w hw e => by rw [← inj 2 (by decide) w hw (h2.symm.trans e)]; rfl, fun q => absurd h2 (q 2 (by decide))⟩
  rw [if_neg (mt cmp_eq.mp h2), e3, bd_r]
  by_cases h3 : x = lN (c256 (WL 3))
  · rw [if_pos (cmp_eq.mpr h3)]
    exact ⟨_, rfl, fun w hw e => by rw [← inj 3 (by decide) w hw (h3.symm.trans e)]; rfl, fun q => absurd h3 (q 3 (by decide))⟩
  rw [if_neg (mt cmp_eq.mp h3), e4, bd_r]
  by_cases h4 : x = lN (c256 (WL 4))
  · rw [if_pos (cmp_eq.mpr h4)]
    exact ⟨_, rfl, fun w hw e => by rw [← inj 4 (by decide) w hw (h4.symm.trans e)]; rfl, fun q => absurd h4 (q 4 (by decide))⟩
  rw [if_neg (mt cmp_eq.mp h4), e5, bd_r]
  by_cases h5 : x = lN (c256 (WL 5))
  · rw [if_pos (cmp_eq.mpr h5)]
    exact ⟨_, rfl, fun w hw e => by rw [← inj 5 (by decide) w hw (h5.symm.trans e)]; rfl, fun q => absurd h5 (q 5 (by decide))⟩
  rw [if_neg (mt cmp_eq.mp h5), e6, bd_r]
  by_cases h6 : x = lN (c256 (WL 7))
  · rw [if_pos (cmp_eq.mpr h6)]
    exact ⟨_, rfl, fun w hw e => by rw [← inj 7 (by decide) w hw (h6.symm.trans e)]; rfl, fun q => absurd h6 (q 7 (by decide))⟩
  rw [if_neg (mt cmp_eq.mp h6), e7, bd_r]
  by_cases h7 : x = lN (c256 (WL 8))
  · rw [if_pos (cmp_eq.mpr h7)]
    exact ⟨_, rfl, fun w hw e => by rw [← inj 8 (by decide) w hw (h7.symm.trans e)]; rfl, fun q => absurd h7 (q 8 (by decide))⟩
  rw [if_neg (mt cmp_eq.mp h7), e8, bd_r]
  by_cases h8 : x = lN (c256 (WL 9))
  · rw [if_pos (cmp_eq.mpr h8)]
    exact ⟨_, rfl, fun w hw e => by rw [← inj 9 (by decide) w hw (h8.symm.trans e)]; rfl, fun q => absurd h8 (q 9 (by decide))⟩
  rw [if_neg (mt cmp_eq.mp h8), e9, bd_r]
  by_cases h9 : x = lN (c256 (WL 10))
  · rw [if_pos (cmp_eq.mpr h9)]
    exact ⟨_, rfl, fun w hw e => by rw [← inj 10 (by decide) w hw (h9.symm.trans e)]; rfl, fun q => absurd h9 (q 10 (by decide))⟩
  rw [if_neg (mt cmp_eq.mp h9), e10, bd_r]
  by_cases h10 : x = lN (c256 (WL 6))
  · rw [if_pos (cmp_eq.mpr h10)]
    exact ⟨_, rfl, fun w hw e => by rw [← inj 6 (by decide) w hw (h10.symm.trans e)]; rfl, fun q => absurd h10 (q 6 (by decide))⟩
  rw [if_neg (mt cmp_eq.mp h10), e11, bd_r]
  by_cases h11 : x = lN (c256 (WL 11))
  · rw [if_pos (cmp_eq.mpr h11), fX11_wordOf_256]
    exact ⟨_, rfl, fun w hw e => by rw [← inj 11 (by decide) w hw (h11.symm.trans e)]; rfl, fun q => absurd h11 (q 11 (by decide))⟩
  rw [if_neg (mt cmp_eq.mp h11), fX11_wordOf_256]
  refine ⟨_, rfl, fun w hw e => ?_, fun _ => rfl⟩
  rcases k12 hw with rfl | rfl | rfl | rfl | rfl | rfl | rfl | rfl | rfl | rfl | rfl | rfl
  · exact absurd e h0
  · exact absurd e h1
  · exact absurd e h2
  · exact absurd e h3
  · exact absurd e h4
  · exact absurd e h5
  · exact absurd e h10
  · exact absurd e h6
  · exact absurd e h7
  · exact absurd e h8
  · exact absurd e h9
  · exact absurd e h11

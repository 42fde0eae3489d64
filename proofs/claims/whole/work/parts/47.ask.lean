/-! ASKS: the trace as a list of bodies that begin -/
def begs (hA hO k : Nat) (σ : gS) (n : Nat) : List Int32 → gS
  | [] => σ
  | b :: bs => begs hA hO k (gsI (gsI σ hA n b) hO k (nI (n + 1))) (n + 1) bs
theorem begs_o {hA hO k x y : Nat} (h1 : x ≠ hA) (h2 : ¬ (x = hO ∧ y = k)) : ∀ (bs : List Int32) (n : Nat) (σ : gS), (begs hA hO k σ n bs).1 x y = σ.1 x y
  | [], _, _ => rfl
  | b :: bs, n, σ => by
    rw [begs, begs_o h1 h2 bs, rI_o h2, rI_h h1]
theorem begs_2 {hA hO k : Nat} : ∀ (bs : List Int32) (n : Nat) (σ : gS), (begs hA hO k σ n bs).2 = σ.2
  | [], _, _ => rfl
  | b :: bs, n, σ => by
    rw [begs, begs_2 bs]
    rfl
theorem begs_n {hA hO k : Nat} : ∀ (bs : List Int32) (n : Nat) (σ : gS), σ.1 hO k = nI n → (begs hA hO k σ n bs).1 hO k = nI (n + bs.length)
  | [], _, _, h => h
  | b :: bs, n, σ, _ => by
    rw [begs, begs_n bs (n + 1) _ rI_s, List.length_cons, show n + 1 + bs.length = n + (bs.length + 1) by omega]
theorem begs_lt {hA hO k : Nat} (hne : hA ≠ hO) : ∀ (bs : List Int32) (n : Nat) (σ : gS) (y : Nat), y < n → (begs hA hO k σ n bs).1 hA y = σ.1 hA y
  | [], _, _, _, _ => rfl
  | b :: bs, n, σ, y, h => by
    rw [begs, begs_lt hne bs (n + 1) _ y (by omega), rI_h hne, rI_k (by omega)]
theorem begs_at {hA hO k : Nat} (hne : hA ≠ hO) : ∀ (bs : List Int32) (n : Nat) (σ : gS) (j : Nat), j < bs.length → (begs hA hO k σ n bs).1 hA (n + j) = bs.getD j 0
  | [], _, _, _, h => absurd h (Nat.not_lt_zero _)
  | b :: bs, n, σ, 0, _ => by
    rw [begs]
    show (begs hA hO k _ (n + 1) bs).1 hA n = b
    rw [begs_lt hne bs (n + 1) _ n (by omega), rI_h hne, rI_s]
  | b :: bs, n, σ, j + 1, h => by
    have := begs_at (k := k) hne bs (n + 1) (gsI (gsI σ hA n b) hO k (nI (n + 1))) j (by rw [List.length_cons] at h; omega)
    rw [begs, show n + (j + 1) = n + 1 + j by omega, this]
    rfl
theorem begs_app {hA hO k : Nat} : ∀ (l1 l2 : List Int32) (n : Nat) (σ : gS), begs hA hO k σ n (l1 ++ l2) = begs hA hO k (begs hA hO k σ n l1) (n + l1.length) l2
  | [], _, _, _ => rfl
  | b :: l1, l2, n, σ => by
    show begs hA hO k _ (n + 1) (l1 ++ l2) = _
    rw [begs_app l1 l2, List.length_cons, show n + 1 + l1.length = n + (l1.length + 1) by omega]
    rfl
theorem begC {σ : gS} {n : Nat} (b : Int32) (h : σ.1 149 1 = nI n) (hn : n < 16) : fX0_begin b σ = some ((), begs 150 149 1 σ n [b]) := by
  rw [fX0_begin, h, if_neg (show ¬ (16 : Int32) ≤ nI n from nI_ge (b := 16) hn (by decide)), gg_t (ix_nI hn (by decide)), nI_clamp (by omega), bnd_r, rI_o (by omega), h, nI_1, bnd_r, fX0_begin_29]
  rfl
theorem begM {σ : gS} {n : Nat} (b : Int32) (h : σ.1 168 96 = nI n) (hn : n < 16) : fX11_begins b σ = some ((), begs 228 168 96 σ n [b]) := by
  rw [fX11_begins, h, if_neg (show ¬ (16 : Int32) ≤ nI n from nI_ge (b := 16) hn (by decide)), gg_t (ix_nI hn (by decide)), nI_clamp (by omega), bnd_r, rI_o (by omega), h, nI_1, bnd_r, fX11_begins_29]
  rfl
def freL (k : Nat) : List Int32 := [[11], [12, 11], [13, 10], [14], [15, 10], [15, 10], [15, 10]].getD k []
def freV (k : Nat) : Int32 := [2, 0, -1, 1, -1, -1, -1].getD k 0
def masL (k : Nat) : List Int32 := [[20], [20], [21], [22], [20], [23, 20], [23, 20]].getD k []
def masV (k : Nat) (s : Int32) : Int32 := [1, 1, s, s, 1, 6, 6].getD k 0
theorem k7 {k : Nat} (h : k < 7) : k = 0 ∨ k = 1 ∨ k = 2 ∨ k = 3 ∨ k = 4 ∨ k = 5 ∨ k = 6 := by omega
theorem freC {σ : gS} {n k : Nat} (h : σ.1 149 1 = nI n) (hn : n ≤ 10) (hk : σ.1 149 3 = nI k) (hk7 : k < 7) : fX0_freedom σ = some (freV k, begs 150 149 1 σ n (freL k)) := by
  have nx : ∀ b : Int32, (begs 150 149 1 σ n [b]).1 149 1 = nI (n + 1) := fun b => begs_n [b] n σ h
  rcases k7 hk7 with rfl | rfl | rfl | rfl | rfl | rfl | rfl
  · rw [fX0_freedom, hk, if_pos (by decide), fX0_pinFreedom, begC 11 h (by omega), bd_r, bd_r]
    rfl
  · rw [fX0_freedom, hk, if_neg (by decide), if_pos (by decide), begC 12 h (by omega), bd_r, fX0_pinFreedom, begC 11 (nx 12) (by omega), bd_r, bd_r, show (2 : Int32) - 2 = freV 1 by decide]
    rfl
  · rw [fX0_freedom, hk, if_neg (by decide), if_neg (by decide), if_pos (by decide), begC 13 h (by omega), bd_r, fX0_lentFreedom, begC 10 (nx 13) (by omega), bd_r, bd_r, show (0 : Int32) - 1 = freV 2 by decide]
    rfl
  · rw [fX0_freedom, hk, if_neg (by decide), if_neg (by decide), if_neg (by decide), if_pos (by decide), begC 14 h (by omega), bd_r]
    rfl
  · rw [fX0_freedom, hk, if_neg (by decide), if_neg (by decide), if_neg (by decide), if_neg (by decide), begC 15 h (by omega), bd_r, fX0_lentFreedom, begC 10 (nx 15) (by omega), bd_r, bd_r, show (0 : Int32) - 1 = freV 4 by decide]
    rfl
  · rw [fX0_freedom, hk, if_neg (by decide), if_neg (by decide), if_neg (by decide), if_neg (by decide), begC 15 h (by omega), bd_r, fX0_lentFreedom, begC 10 (nx 15) (by omega), bd_r, bd_r, show (0 : Int32) - 1 = freV 5 by decide]
    rfl
  · rw [fX0_freedom, hk, if_neg (by decide), if_neg (by decide), if_neg (by decide), if_neg (by decide), begC 15 h (by omega), bd_r, fX0_lentFreedom, begC 10 (nx 15) (by omega), bd_r, bd_r, show (0 : Int32) - 1 = freV 6 by decide]
    rfl
theorem freM {σ : gS} {n k : Nat} (h : σ.1 168 96 = nI n) (hn : n ≤ 10) (hk7 : k < 7) : fX11_freedom (nI k) σ = some (freV k, begs 228 168 96 σ n (freL k)) := by
  have nx : ∀ b : Int32, (begs 228 168 96 σ n [b]).1 168 96 = nI (n + 1) := fun b => begs_n [b] n σ h
  rcases k7 hk7 with rfl | rfl | rfl | rfl | rfl | rfl | rfl
  · rw [fX11_freedom, if_pos (by decide), begM 11 h (by omega), bd_r]
    rfl
  · rw [fX11_freedom, if_neg (by decide), if_pos (by decide), begM 12 h (by omega), bd_r, begM 11 (nx 12) (by omega), bd_r]
    rfl
  · rw [fX11_freedom, if_neg (by decide), if_neg (by decide), if_pos (by decide), begM 13 h (by omega), bd_r, begM 10 (nx 13) (by omega), bd_r]
    rfl
  · rw [fX11_freedom, if_neg (by decide), if_neg (by decide), if_neg (by decide), if_pos (by decide), begM 14 h (by omega), bd_r]
    rfl
  · rw [fX11_freedom, if_neg (by decide), if_neg (by decide), if_neg (by decide), if_neg (by decide), begM 15 h (by omega), bd_r, begM 10 (nx 15) (by omega), bd_r]
    rfl
  · rw [fX11_freedom, if_neg (by decide), if_neg (by decide), if_neg (by decide), if_neg (by decide), begM 15 h (by omega), bd_r, begM 10 (nx 15) (by omega), bd_r]
    rfl
  · rw [fX11_freedom, if_neg (by decide), if_neg (by decide), if_neg (by decide), if_neg (by decide), begM 15 h (by omega), bd_r, begM 10 (nx 15) (by omega), bd_r]
    rfl
theorem lentMassC {σ : gS} {n : Nat} (h : σ.1 149 1 = nI n) (hn : n ≤ 14) : fX0_lentMass σ = some (1, begs 150 149 1 σ n [20]) := by
  rw [fX0_lentMass, begC 20 h (by omega), bd_r]
theorem beltMassC {σ : gS} {n : Nat} (h : σ.1 149 1 = nI n) (hn : n ≤ 13) : fX0_beltMass σ = some (6, begs 150 149 1 σ n [23, 20]) := by
  rw [fX0_beltMass, begC 23 h (by omega), bd_r, lentMassC (begs_n [23] n σ h) (by rw [List.length_singleton]; omega), bd_r, show (1 : Int32) + 5 = 6 by decide]
  rfl
theorem masC {σ : gS} {n k : Nat} (h : σ.1 149 1 = nI n) (hn : n ≤ 10) (hk : σ.1 149 3 = nI k) (hk7 : k < 7) : fX0_mass σ = some (masV k (σ.1 149 4), begs 150 149 1 σ n (masL k)) := by
  rcases k7 hk7 with rfl | rfl | rfl | rfl | rfl | rfl | rfl
  · rw [fX0_mass, hk, if_neg (by decide), if_neg (by decide), if_neg (by decide), if_neg (by decide), if_neg (by decide), fX0_mass_67, lentMassC h (by omega), bd_r]
    rfl
  · rw [fX0_mass, hk, if_neg (by decide), if_neg (by decide), if_neg (by decide), if_neg (by decide), if_neg (by decide), fX0_mass_67, lentMassC h (by omega), bd_r]
    rfl
  · rw [fX0_mass, hk, if_pos (by decide), begC 21 h (by omega), bd_r, begs_o (by decide) (by decide)]
    rfl
  · rw [fX0_mass, hk, if_neg (by decide), if_pos (by decide), begC 22 h (by omega), bd_r, begs_o (by decide) (by decide)]
    rfl
  · rw [fX0_mass, hk, if_neg (by decide), if_neg (by decide), if_pos (by decide), fX0_mass_67, lentMassC h (by omega), bd_r]
    rfl
  · rw [fX0_mass, hk, if_neg (by decide), if_neg (by decide), if_neg (by decide), if_pos (by decide), fX0_mass_62, beltMassC h (by omega), bd_r]
    rfl
  · rw [fX0_mass, hk, if_neg (by decide), if_neg (by decide), if_neg (by decide), if_neg (by decide), if_pos (by decide), fX0_mass_62, beltMassC h (by omega), bd_r]
    rfl
/-! how great a part is, of a bar its length, of a wheel its teeth -/
section ASK
variable {σ : gS} {t : Nat} {n kd num : Nat → Nat} {mem : Nat → Nat → Nat}
theorem Lk.bar (h : Lk σ t n kd num mem) {i : Nat} (hi : i < n 1) : ∃ a b, a < n 0 ∧ b < n 0 ∧ a ≠ b ∧ σ.1 176 i = nI a ∧ σ.1 177 i = nI b := h.2.2.2.2.1.2.1 i hi
theorem Lk.pt (h : Lk σ t n kd num mem) {i : Nat} (hi : i < n 0) : inP (σ.1 170 i) ∧ inP (σ.1 171 i) := by
  obtain ⟨a, b, c, d⟩ := h.2.2.2.2.1.1 i hi
  exact ⟨⟨a, b⟩, ⟨c, d⟩⟩
theorem sqC (h : Lk σ t n kd num mem) {a b : Nat} (ha : a < n 0) (hb : b < n 0) : fX3_squareApart t (nI a) (nI b) σ = some (nI (sqN (σ.1 170 a) (σ.1 170 b) (σ.1 171 a) (σ.1 171 b)), σ) := by
  have q := h.2.2.2.1
  rw [fX3_squareApart, xC q ha, bd_r, xC q hb, bd_r, bnd_r, yC q ha, bd_r, yC q hb, bd_r, bnd_r]
  congr 2
  exact sq32 (h.pt ha).1 (h.pt hb).1 (h.pt ha).2 (h.pt hb).2
theorem sizeOfC (h : Lk σ t n kd num mem) {i : Nat} (hi : i < npF n) : ∃ s : Int32, fX3_sizeOf t (nI i) σ = some (s, σ) ∧ (kd i = 2 → ∃ a b r, a < n 0 ∧ b < n 0 ∧ σ.1 176 (num i) = nI a ∧ σ.1 177 (num i) = nI b ∧ isR (sqN (σ.1 170 a) (σ.1 170 b) (σ.1 171 a) (σ.1 171 b)) r ∧ s = nI r) ∧ (kd i = 3 → s = σ.1 175 (num i)) := by
  obtain ⟨k7, nu, c, d, e, f, g, k⟩ := h.part hi
  have hn := h.2.2.2.1.np
  have hc : (nI i).toNatClampNeg = i := nI_clamp (by omega)
  have g1 := g_ix (show i < 130 by omega) (by decide)
  by_cases h2 : kd i = 2
  · rw [h2] at nu c g k
    obtain ⟨a, b, ha, hb, -, ea, eb⟩ := h.bar (i := num i) nu
    obtain ⟨r, hr⟩ := isR_ex (sqN (σ.1 170 a) (σ.1 170 b) (σ.1 171 a) (σ.1 171 b))
    have sb := (sqN_b (h.pt ha).1 (h.pt hb).1 (h.pt ha).2 (h.pt hb).2).1
    refine ⟨nI r, ?_, fun _ => ⟨a, b, r, ha, hb, ea, eb, hr, rfl⟩, fun q => by omega⟩
    have g' : σ.1 (t + 3) i = nI a := g.trans ea
    have k' : σ.1 (t + 4) i = nI b := k.trans eb
    rw [fX3_sizeOf, gg_t g1, hc, c, if_pos (by decide), gg_t (by rw [← hc]; rw [hc]; rw [hc] at g1; exact g1), gg_t (by rw [hc] at g1; exact g1), g', k', sqC h ha hb, bd_r, nI_l (by omega), rootC (by omega) hr, bd_r, lN_i]
  · by_cases h3 : kd i = 3
    · rw [h3] at nu c g k
      refine ⟨σ.1 175 (num i), ?_, fun q => by omega, fun _ => rfl⟩
      rw [fX3_sizeOf, gg_t g1, hc, c, if_neg (by decide), if_pos (by decide), gg_t (by rw [hc] at g1; exact g1), k]
      rfl
    · refine ⟨0, ?_, fun q => absurd q h2, fun q => absurd q h3⟩
      rw [fX3_sizeOf, gg_t g1, hc, c, if_neg (show ¬ nI (kd i) = 2 from fun z => h2 ((nI_eq (b := 2) (by omega) (by decide)).mp z)), if_neg (show ¬ nI (kd i) = 3 from fun z => h3 ((nI_eq (b := 3) (by omega) (by decide)).mp z))]
end ASK

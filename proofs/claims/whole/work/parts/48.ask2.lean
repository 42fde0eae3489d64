/-! ASK, TRAIL -/
theorem masM {σ : gS} {i k u m : Nat} {s : Int32} (h : σ.1 168 96 = nI m) (hm : m ≤ 10) (hi : i < 130) (hk : σ.1 181 i = nI k) (hk7 : k < 7) (hu : σ.1 182 i = nI u) (hu6 : u < 60)
    (h2 : k = 2 → ∃ a b r, a < 24 ∧ b < 24 ∧ σ.1 176 u = nI a ∧ σ.1 177 u = nI b ∧ isR (sqN (σ.1 170 a) (σ.1 170 b) (σ.1 171 a) (σ.1 171 b)) r ∧ inP (σ.1 170 a) ∧ inP (σ.1 170 b) ∧ inP (σ.1 171 a) ∧ inP (σ.1 171 b) ∧ s = nI r) (h3 : k = 3 → u < 16 ∧ s = σ.1 175 u) : fX11_mass (nI i) σ = some (masV k s, begs 228 168 96 σ m (masL k)) := by
  have hc : (nI i).toNatClampNeg = i := nI_clamp (by omega)
  have hcu : (nI u).toNatClampNeg = u := nI_clamp (by omega)
  have g1 := g_ix hi (by decide)
  have o : ∀ L x y, x ≠ 228 → x ≠ 168 → (begs 228 168 96 σ m L).1 x y = σ.1 x y := fun L x y z1 z2 => begs_o z1 (by omega) L m σ
  have nx : ∀ b : Int32, (begs 228 168 96 σ m [b]).1 168 96 = nI (m + 1) := fun b => begs_n [b] m σ h
  rcases k7 hk7 with rfl | rfl | rfl | rfl | rfl | rfl | rfl
  · rw [fX11_mass, gg_t g1, gg_t g1, hc, hk, if_neg (by decide), if_neg (by decide), if_pos (by decide), fX11_mass_110, begM 20 h (by omega), bd_r, if_pos (by decide), fX11_mass_127]
    rfl
  · rw [fX11_mass, gg_t g1, gg_t g1, hc, hk, if_neg (by decide), if_neg (by decide), if_pos (by decide), fX11_mass_110, begM 20 h (by omega), bd_r, if_pos (by decide), fX11_mass_127]
    rfl
  · obtain ⟨a, b, r, ha, hb, ea, eb, hr, p1, p2, p3, p4, rfl⟩ := h2 rfl
    have sb := (sqN_b p1 p2 p3 p4).1
    have ca : (nI a).toNatClampNeg = a := nI_clamp (by omega)
    have cb : (nI b).toNatClampNeg = b := nI_clamp (by omega)
    rw [fX11_mass, gg_t g1, gg_t g1, hc, hk, if_pos (by decide), begM 21 h (by omega), bd_r, hu, hcu, o _ 176 _ (by decide) (by decide), o _ 177 _ (by decide) (by decide), ea, eb, ca, cb]
    rw [gg_ix hu6 (by decide), gg_ix ha (by decide), gg_ix hu6 (by decide), gg_ix hb (by decide), gg_ix hu6 (by decide), gg_ix ha (by decide), gg_ix hu6 (by decide), gg_ix hb (by decide)]
    rw [o _ 170 _ (by decide) (by decide), o _ 170 _ (by decide) (by decide), o _ 171 _ (by decide) (by decide), o _ 171 _ (by decide) (by decide), fX11_square, sq64 p1 p2 p3 p4, bd_r, rootM (by omega) hr, bd_r, lN_i]
    rfl
  · obtain ⟨hu16, rfl⟩ := h3 rfl
    rw [fX11_mass, gg_t g1, gg_t g1, hc, hk, if_neg (by decide), if_pos (by decide), begM 22 h (by omega), bd_r, hu, hcu, gg_ix hu16 (by decide), o _ 175 _ (by decide) (by decide)]
    rfl
  · rw [fX11_mass, gg_t g1, gg_t g1, hc, hk, if_neg (by decide), if_neg (by decide), if_pos (by decide), fX11_mass_110, begM 20 h (by omega), bd_r, if_pos (by decide), fX11_mass_127]
    rfl
  · rw [fX11_mass, gg_t g1, gg_t g1, hc, hk, if_neg (by decide), if_neg (by decide), if_neg (by decide), begM 23 h (by omega), bd_r, fX11_mass_110, begM 20 (nx 23) (by omega), bd_r, if_neg (by decide), fX11_mass_127]
    rfl
  · rw [fX11_mass, gg_t g1, gg_t g1, hc, hk, if_neg (by decide), if_neg (by decide), if_neg (by decide), begM 23 h (by omega), bd_r, fX11_mass_110, begM 20 (nx 23) (by omega), bd_r, if_neg (by decide), fX11_mass_127]
    rfl
def losL (k : Nat) : List Int32 := [[30, 11], [31, 20, 30, 12, 11], [30, 13, 10], [30, 14], [30, 15, 10], [30, 15, 10], [32, 23, 20]].getD k []
def losV (k : Nat) : Int32 := [500, 1, -1000, 1000, -1000, -1000, 18].getD k 0
theorem lentC {σ : gS} {n k : Nat} (h : σ.1 149 1 = nI n) (hn : n ≤ 9) (hk : σ.1 149 3 = nI k) (hk7 : k < 7) (h1 : k ≠ 1) : fX0_lentLoss σ = some (1000 / freV k, begs 150 149 1 σ n (30 :: freL k)) := by
  have nx : (begs 150 149 1 σ n [30]).1 149 1 = nI (n + 1) := begs_n [30] n σ h
  have hk' : (begs 150 149 1 σ n [30]).1 149 3 = nI k := by rw [begs_o (by decide) (by decide)]; exact hk
  have hv : ¬ freV k = 0 := by rcases k7 hk7 with rfl | rfl | rfl | rfl | rfl | rfl | rfl <;> first | (exact absurd rfl h1) | decide
  rw [fX0_lentLoss, begC 30 h (by omega), bd_r, freC nx (by omega) hk' hk7, bd_r, if_neg hv, gg_t hv]
  rfl
theorem lent1 {σ : gS} {n : Nat} (h : σ.1 149 1 = nI n) (hn : n ≤ 9) (hk : σ.1 149 3 = 1) : fX0_lentLoss σ = some (0, gsI (begs 150 149 1 σ n [30, 12, 11]) 149 2 1) := by
  have nx : (begs 150 149 1 σ n [30]).1 149 1 = nI (n + 1) := begs_n [30] n σ h
  have hk' : (begs 150 149 1 σ n [30]).1 149 3 = nI 1 := by rw [begs_o (by decide) (by decide)]; exact hk
  rw [fX0_lentLoss, begC 30 h (by omega), bd_r, freC nx (by omega) hk' (by decide), bd_r, if_pos (by decide), bnd_r]
  rfl
theorem losC {σ : gS} {k : Nat} (h : σ.1 149 1 = nI 0) (hk : σ.1 149 3 = nI k) (hk7 : k < 7) : fX0_loss σ = some (losV k, if k = 1 then gsI (begs 150 149 1 σ 0 (losL k)) 149 2 1 else begs 150 149 1 σ 0 (losL k)) := by
  have nx : ∀ b : Int32, (begs 150 149 1 σ 0 [b]).1 149 1 = nI 1 := fun b => begs_n [b] 0 σ h
  have o3 : ∀ L, (begs 150 149 1 σ 0 L).1 149 3 = nI k := fun L => by rw [begs_o (by decide) (by decide)]; exact hk
  rcases k7 hk7 with rfl | rfl | rfl | rfl | rfl | rfl | rfl
  · rw [fX0_loss, hk, if_neg (by decide), if_neg (by decide), lentC h (by omega) hk (by decide) (by decide), bd_r, if_neg (by decide)]
    rfl
  · have n2 : (begs 150 149 1 σ 0 [31, 20]).1 149 1 = nI 2 := begs_n [31, 20] 0 σ h
    rw [fX0_loss, hk, if_pos (by decide), begC 31 h (by omega), bd_r, masC (nx 31) (by omega) (o3 _) (by decide), bd_r]
    rw [show begs 150 149 1 (begs 150 149 1 σ 0 [31]) (0 + 1) (masL 1) = begs 150 149 1 σ 0 [31, 20] from rfl, lent1 n2 (by omega) (o3 _), bd_r, if_pos rfl]
    rfl
  · rw [fX0_loss, hk, if_neg (by decide), if_neg (by decide), lentC h (by omega) hk (by decide) (by decide), bd_r, if_neg (by decide)]
    rfl
  · rw [fX0_loss, hk, if_neg (by decide), if_neg (by decide), lentC h (by omega) hk (by decide) (by decide), bd_r, if_neg (by decide)]
    rfl
  · rw [fX0_loss, hk, if_neg (by decide), if_neg (by decide), lentC h (by omega) hk (by decide) (by decide), bd_r, if_neg (by decide)]
    rfl
  · rw [fX0_loss, hk, if_neg (by decide), if_neg (by decide), lentC h (by omega) hk (by decide) (by decide), bd_r, if_neg (by decide)]
    rfl
  · rw [fX0_loss, hk, if_neg (by decide), if_pos (by decide), begC 32 h (by omega), bd_r, beltMassC (nx 32) (by omega), bd_r, if_neg (by decide)]
    rfl
theorem losM {σ : gS} {i k u : Nat} (h : σ.1 168 96 = nI 0) (hi : i < 130) (hk : σ.1 181 i = nI k) (hk7 : k < 7) (hu : σ.1 182 i = nI u) (hu6 : u < 60) : fX11_loss (nI i) σ = some (if k = 1 then -1000010 - 5 else losV k, if k = 1 then gsI (begs 228 168 96 σ 0 (losL k)) 168 94 5 else begs 228 168 96 σ 0 (losL k)) := by
  have hc : (nI i).toNatClampNeg = i := nI_clamp (by omega)
  have g1 := g_ix hi (by decide)
  have nx : ∀ b : Int32, (begs 228 168 96 σ 0 [b]).1 168 96 = nI 1 := fun b => begs_n [b] 0 σ h
  have nx2 : ∀ b c : Int32, (begs 228 168 96 σ 0 [b, c]).1 168 96 = nI 2 := fun b c => begs_n [b, c] 0 σ h
  have nx3 : ∀ b c d : Int32, (begs 228 168 96 σ 0 [b, c, d]).1 168 96 = nI 3 := fun b c d => begs_n [b, c, d] 0 σ h
  rcases k7 hk7 with rfl | rfl | rfl | rfl | rfl | rfl | rfl
  · rw [fX11_loss, gg_t g1, hc, hk, if_neg (by decide), if_neg (by decide), fX11_loss_53, begM 30 h (by omega), bd_r, freM (nx 30) (by omega) (by decide), bd_r, if_neg (by decide), gg_t (by decide), fX11_loss_87, if_neg (by decide), if_neg (by decide), show (1000 : Int32) / freV 0 + 0 = losV 0 by decide]
    rfl
  · have o : ∀ x y, x ≠ 228 → x ≠ 168 → (begs 228 168 96 σ 0 [31]).1 x y = σ.1 x y := fun x y z1 z2 => begs_o z1 (by omega) [31] 0 σ
    rw [fX11_loss, gg_t g1, hc, hk, if_neg (by decide), if_pos (by decide), begM 31 h (by omega), bd_r, masM (s := 0) (u := u) (nx 31) (by omega) hi ((o 181 i (by decide) (by decide)).trans hk) (by decide) ((o 182 i (by decide) (by decide)).trans hu) hu6 (fun q => by omega) (fun q => by omega), bd_r, fX11_loss_53]
    rw [show begs 228 168 96 (begs 228 168 96 σ 0 [31]) (0 + 1) (masL 1) = begs 228 168 96 σ 0 [31, 20] from rfl, begM 30 (nx2 31 20) (by omega), bd_r]
    rw [show begs 228 168 96 (begs 228 168 96 σ 0 [31, 20]) 2 [30] = begs 228 168 96 σ 0 [31, 20, 30] from rfl, freM (nx3 31 20 30) (by omega) (by decide), bd_r, if_pos (by decide), fX11_finds, bnd_r, bd_r, fX11_loss_87, if_pos rfl, if_pos rfl]
    rfl
  · rw [fX11_loss, gg_t g1, hc, hk, if_neg (by decide), if_neg (by decide), fX11_loss_53, begM 30 h (by omega), bd_r, freM (nx 30) (by omega) (by decide), bd_r, if_neg (by decide), gg_t (by decide), fX11_loss_87, if_neg (by decide), if_neg (by decide), show (1000 : Int32) / freV 2 + 0 = losV 2 by decide]
    rfl
  · rw [fX11_loss, gg_t g1, hc, hk, if_neg (by decide), if_neg (by decide), fX11_loss_53, begM 30 h (by omega), bd_r, freM (nx 30) (by omega) (by decide), bd_r, if_neg (by decide), gg_t (by decide), fX11_loss_87, if_neg (by decide), if_neg (by decide), show (1000 : Int32) / freV 3 + 0 = losV 3 by decide]
    rfl
  · rw [fX11_loss, gg_t g1, hc, hk, if_neg (by decide), if_neg (by decide), fX11_loss_53, begM 30 h (by omega), bd_r, freM (nx 30) (by omega) (by decide), bd_r, if_neg (by decide), gg_t (by decide), fX11_loss_87, if_neg (by decide), if_neg (by decide), show (1000 : Int32) / freV 4 + 0 = losV 4 by decide]
    rfl
  · rw [fX11_loss, gg_t g1, hc, hk, if_neg (by decide), if_neg (by decide), fX11_loss_53, begM 30 h (by omega), bd_r, freM (nx 30) (by omega) (by decide), bd_r, if_neg (by decide), gg_t (by decide), fX11_loss_87, if_neg (by decide), if_neg (by decide), show (1000 : Int32) / freV 5 + 0 = losV 5 by decide]
    rfl
  · rw [fX11_loss, gg_t g1, hc, hk, if_pos (by decide), begM 32 h (by omega), bd_r, begM 23 (nx 32) (by omega), bd_r]
    rw [show begs 228 168 96 (begs 228 168 96 σ 0 [32]) 1 [23] = begs 228 168 96 σ 0 [32, 23] from rfl, begM 20 (nx2 32 23) (by omega), bd_r, if_neg (by decide), if_neg (by decide)]
    rfl

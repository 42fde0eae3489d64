/-! READ: the reference takes what it read -/
theorem take58 {σ : gS} {n : Nat} (hn : n ≤ 24) (e : σ.1 168 0 = nI n) : ∃ τ', fX11_take_58 2000 0 σ = fX11_take_122 2000 0 τ' ∧ (∀ x, x < n → τ'.1 170 x = σ.1 184 x ∧ τ'.1 171 x = σ.1 185 x ∧ τ'.1 172 x = vp_nar .boolean (σ.1 186 x)) ∧ ∀ x y, ¬ (169 ≤ x ∧ x ≤ 172) → sm σ τ' x y := by
  have key : ∀ (m i fu : Nat) (τ : gS), i + m = n → m < fu → (∀ x, x < i → τ.1 170 x = σ.1 184 x ∧ τ.1 171 x = σ.1 185 x ∧ τ.1 172 x = vp_nar .boolean (σ.1 186 x)) → (∀ x y, ¬ (169 ≤ x ∧ x ≤ 172) → sm σ τ x y) → ∃ τ', fX11_take_58 fu (nI i) τ = fX11_take_122 2000 0 τ' ∧ (∀ x, x < n → τ'.1 170 x = σ.1 184 x ∧ τ'.1 171 x = σ.1 185 x ∧ τ'.1 172 x = vp_nar .boolean (σ.1 186 x)) ∧ ∀ x y, ¬ (169 ≤ x ∧ x ≤ 172) → sm σ τ' x y := by
    intro m
    induction m with
    | zero =>
      intro i fu τ e1 hf hx fr
      obtain ⟨fu, rfl⟩ : ∃ y, fu = y + 1 := ⟨fu - 1, by omega⟩
      have es : τ.1 168 0 = nI n := by rw [(fr 168 0 (by omega)).1]; exact e
      rw [fX11_take_58, es, if_pos (nI_le (by omega) (by omega))]
      exact ⟨τ, rfl, fun x h => hx x (by omega), fr⟩
    | succ m ih =>
      intro i fu τ e1 hf hx fr
      obtain ⟨fu, rfl⟩ : ∃ y, fu = y + 1 := ⟨fu - 1, by omega⟩
      have es : τ.1 168 0 = nI n := by rw [(fr 168 0 (by omega)).1]; exact e
      have cli : (nI i).toNatClampNeg = i := nI_clamp (by omega)
      rw [fX11_take_58, es, if_neg (nI_ge (by omega) (by omega)), cli, gg_ix (by omega) (by decide), gg_ix (by omega) (by decide), bnd_r, gg_ix (by omega) (by decide), gg_ix (by omega) (by decide), bnd_r, gg_ix (by omega) (by decide), gg_ix (by omega) (by decide), bnd_r, gg_ix (by omega) (by decide), gg_ix (by omega) (by decide), bnd_r, bnd_r, nI_1]
      simp (disch := omega) only [rI_h, rJ_h, gsJ_1, gsI_2]
      rw [(fr 183 i (by omega)).2.1]
      rw [(fr 184 i (by omega)).1]
      rw [(fr 185 i (by omega)).1]
      rw [(fr 186 i (by omega)).1]
      refine ih (i + 1) fu _ (by omega) (by omega) (fun x h => ?_) (fun x y q => sm_t (fr x y q) (sm_I (sm_I (sm_I (sm_J (sm_r τ x y) (by omega) rfl) (by omega) rfl) (by omega) rfl) (by omega) rfl))
      by_cases z : x = i
      · subst z
        simp (disch := omega) only [rI_h, rI_s, gsJ_1, and_self]
      · have hh := hx x (by omega)
        simp (disch := omega) only [rI_k, rI_h, gsJ_1]
        exact hh
  exact key n 0 2000 σ (by omega) (by omega) (fun x h => absurd h (Nat.not_lt_zero x)) (fun x y _ => sm_r σ x y)
theorem take122 {σ : gS} {n : Nat} (hn : n ≤ 16) (e : σ.1 168 5 = nI n) : ∃ τ', fX11_take_122 2000 0 σ = fX11_take_174 2000 0 τ' ∧ (∀ x, x < n → τ'.1 174 x = σ.1 188 x ∧ τ'.1 175 x = σ.1 189 x) ∧ ∀ x y, ¬ (173 ≤ x ∧ x ≤ 175) → sm σ τ' x y := by
  have key : ∀ (m i fu : Nat) (τ : gS), i + m = n → m < fu → (∀ x, x < i → τ.1 174 x = σ.1 188 x ∧ τ.1 175 x = σ.1 189 x) → (∀ x y, ¬ (173 ≤ x ∧ x ≤ 175) → sm σ τ x y) → ∃ τ', fX11_take_122 fu (nI i) τ = fX11_take_174 2000 0 τ' ∧ (∀ x, x < n → τ'.1 174 x = σ.1 188 x ∧ τ'.1 175 x = σ.1 189 x) ∧ ∀ x y, ¬ (173 ≤ x ∧ x ≤ 175) → sm σ τ' x y := by
    intro m
    induction m with
    | zero =>
      intro i fu τ e1 hf hx fr
      obtain ⟨fu, rfl⟩ : ∃ y, fu = y + 1 := ⟨fu - 1, by omega⟩
      have es : τ.1 168 5 = nI n := by rw [(fr 168 5 (by omega)).1]; exact e
      rw [fX11_take_122, es, if_pos (nI_le (by omega) (by omega))]
      exact ⟨τ, rfl, fun x h => hx x (by omega), fr⟩
    | succ m ih =>
      intro i fu τ e1 hf hx fr
      obtain ⟨fu, rfl⟩ : ∃ y, fu = y + 1 := ⟨fu - 1, by omega⟩
      have es : τ.1 168 5 = nI n := by rw [(fr 168 5 (by omega)).1]; exact e
      have cli : (nI i).toNatClampNeg = i := nI_clamp (by omega)
      rw [fX11_take_122, es, if_neg (nI_ge (by omega) (by omega)), cli, gg_ix (by omega) (by decide), gg_ix (by omega) (by decide), bnd_r, gg_ix (by omega) (by decide), gg_ix (by omega) (by decide), bnd_r, gg_ix (by omega) (by decide), gg_ix (by omega) (by decide), bnd_r, bnd_r, nI_1]
      simp (disch := omega) only [rI_h, rJ_h, gsJ_1, gsI_2]
      rw [(fr 187 i (by omega)).2.1]
      rw [(fr 188 i (by omega)).1]
      rw [(fr 189 i (by omega)).1]
      refine ih (i + 1) fu _ (by omega) (by omega) (fun x h => ?_) (fun x y q => sm_t (fr x y q) (sm_I (sm_I (sm_J (sm_r τ x y) (by omega) rfl) (by omega) rfl) (by omega) rfl))
      by_cases z : x = i
      · subst z
        simp (disch := omega) only [rI_h, rI_s, gsJ_1, and_self]
      · have hh := hx x (by omega)
        simp (disch := omega) only [rI_k, rI_h, gsJ_1]
        exact hh
  exact key n 0 2000 σ (by omega) (by omega) (fun x h => absurd h (Nat.not_lt_zero x)) (fun x y _ => sm_r σ x y)
theorem take174 {σ : gS} {n : Nat} (hn : n ≤ 60) (e : σ.1 168 9 = nI n) : ∃ τ', fX11_take_174 2000 0 σ = fX11_take_214 2000 0 τ' ∧ (∀ x, x < n → τ'.1 176 x = σ.1 190 x ∧ τ'.1 177 x = σ.1 191 x) ∧ ∀ x y, ¬ (176 ≤ x ∧ x ≤ 177) → sm σ τ' x y := by
  have key : ∀ (m i fu : Nat) (τ : gS), i + m = n → m < fu → (∀ x, x < i → τ.1 176 x = σ.1 190 x ∧ τ.1 177 x = σ.1 191 x) → (∀ x y, ¬ (176 ≤ x ∧ x ≤ 177) → sm σ τ x y) → ∃ τ', fX11_take_174 fu (nI i) τ = fX11_take_214 2000 0 τ' ∧ (∀ x, x < n → τ'.1 176 x = σ.1 190 x ∧ τ'.1 177 x = σ.1 191 x) ∧ ∀ x y, ¬ (176 ≤ x ∧ x ≤ 177) → sm σ τ' x y := by
    intro m
    induction m with
    | zero =>
      intro i fu τ e1 hf hx fr
      obtain ⟨fu, rfl⟩ : ∃ y, fu = y + 1 := ⟨fu - 1, by omega⟩
      have es : τ.1 168 9 = nI n := by rw [(fr 168 9 (by omega)).1]; exact e
      rw [fX11_take_174, es, if_pos (nI_le (by omega) (by omega))]
      exact ⟨τ, rfl, fun x h => hx x (by omega), fr⟩
    | succ m ih =>
      intro i fu τ e1 hf hx fr
      obtain ⟨fu, rfl⟩ : ∃ y, fu = y + 1 := ⟨fu - 1, by omega⟩
      have es : τ.1 168 9 = nI n := by rw [(fr 168 9 (by omega)).1]; exact e
      have cli : (nI i).toNatClampNeg = i := nI_clamp (by omega)
      rw [fX11_take_174, es, if_neg (nI_ge (by omega) (by omega)), cli, gg_ix (by omega) (by decide), gg_ix (by omega) (by decide), bnd_r, gg_ix (by omega) (by decide), gg_ix (by omega) (by decide), bnd_r, bnd_r, nI_1]
      simp (disch := omega) only [rI_h, rJ_h, gsJ_1, gsI_2]
      rw [(fr 190 i (by omega)).1]
      rw [(fr 191 i (by omega)).1]
      refine ih (i + 1) fu _ (by omega) (by omega) (fun x h => ?_) (fun x y q => sm_t (fr x y q) (sm_I (sm_I (sm_r τ x y) (by omega) rfl) (by omega) rfl))
      by_cases z : x = i
      · subst z
        simp (disch := omega) only [rI_h, rI_s, gsJ_1, and_self]
      · have hh := hx x (by omega)
        simp (disch := omega) only [rI_k, rI_h, gsJ_1]
        exact hh
  exact key n 0 2000 σ (by omega) (by omega) (fun x h => absurd h (Nat.not_lt_zero x)) (fun x y _ => sm_r σ x y)
theorem take214 {σ : gS} {n : Nat} (hn : n ≤ 30) (e : σ.1 168 12 = nI n) : ∃ τ', fX11_take_214 2000 0 σ = fX11_take_266 2000 0 τ' ∧ (∀ x, x < n → τ'.1 178 x = σ.1 192 x ∧ τ'.1 179 x = σ.1 193 x ∧ τ'.1 180 x = σ.1 194 x) ∧ ∀ x y, ¬ (178 ≤ x ∧ x ≤ 180) → sm σ τ' x y := by
  have key : ∀ (m i fu : Nat) (τ : gS), i + m = n → m < fu → (∀ x, x < i → τ.1 178 x = σ.1 192 x ∧ τ.1 179 x = σ.1 193 x ∧ τ.1 180 x = σ.1 194 x) → (∀ x y, ¬ (178 ≤ x ∧ x ≤ 180) → sm σ τ x y) → ∃ τ', fX11_take_214 fu (nI i) τ = fX11_take_266 2000 0 τ' ∧ (∀ x, x < n → τ'.1 178 x = σ.1 192 x ∧ τ'.1 179 x = σ.1 193 x ∧ τ'.1 180 x = σ.1 194 x) ∧ ∀ x y, ¬ (178 ≤ x ∧ x ≤ 180) → sm σ τ' x y := by
    intro m
    induction m with
    | zero =>
      intro i fu τ e1 hf hx fr
      obtain ⟨fu, rfl⟩ : ∃ y, fu = y + 1 := ⟨fu - 1, by omega⟩
      have es : τ.1 168 12 = nI n := by rw [(fr 168 12 (by omega)).1]; exact e
      rw [fX11_take_214, es, if_pos (nI_le (by omega) (by omega))]
      exact ⟨τ, rfl, fun x h => hx x (by omega), fr⟩
    | succ m ih =>
      intro i fu τ e1 hf hx fr
      obtain ⟨fu, rfl⟩ : ∃ y, fu = y + 1 := ⟨fu - 1, by omega⟩
      have es : τ.1 168 12 = nI n := by rw [(fr 168 12 (by omega)).1]; exact e
      have cli : (nI i).toNatClampNeg = i := nI_clamp (by omega)
      rw [fX11_take_214, es, if_neg (nI_ge (by omega) (by omega)), cli, gg_ix (by omega) (by decide), gg_ix (by omega) (by decide), bnd_r, gg_ix (by omega) (by decide), gg_ix (by omega) (by decide), bnd_r, gg_ix (by omega) (by decide), gg_ix (by omega) (by decide), bnd_r, bnd_r, nI_1]
      simp (disch := omega) only [rI_h, rJ_h, gsJ_1, gsI_2]
      rw [(fr 192 i (by omega)).1]
      rw [(fr 193 i (by omega)).1]
      rw [(fr 194 i (by omega)).1]
      refine ih (i + 1) fu _ (by omega) (by omega) (fun x h => ?_) (fun x y q => sm_t (fr x y q) (sm_I (sm_I (sm_I (sm_r τ x y) (by omega) rfl) (by omega) rfl) (by omega) rfl))
      by_cases z : x = i
      · subst z
        simp (disch := omega) only [rI_h, rI_s, gsJ_1, and_self]
      · have hh := hx x (by omega)
        simp (disch := omega) only [rI_k, rI_h, gsJ_1]
        exact hh
  exact key n 0 2000 σ (by omega) (by omega) (fun x h => absurd h (Nat.not_lt_zero x)) (fun x y _ => sm_r σ x y)
theorem take266 {σ : gS} {n : Nat} (hn : n ≤ 130) (e : σ.1 168 16 = nI n) : ∃ τ', fX11_take_266 2000 0 σ = (bnd (gsI τ' 168 81 0) fun σ2 => bnd (gsI σ2 168 85 (-1)) fun σ3 => bd (fX11_findNeeded σ3) fun _ σ4 => bd (fX11_findOrder σ4) fun _ σ6 => some ((), σ6)) ∧ (∀ x, x < n → τ'.1 181 x = σ.1 195 x ∧ τ'.1 182 x = σ.1 196 x) ∧ ∀ x y, ¬ (181 ≤ x ∧ x ≤ 182) → sm σ τ' x y := by
  have key : ∀ (m i fu : Nat) (τ : gS), i + m = n → m < fu → (∀ x, x < i → τ.1 181 x = σ.1 195 x ∧ τ.1 182 x = σ.1 196 x) → (∀ x y, ¬ (181 ≤ x ∧ x ≤ 182) → sm σ τ x y) → ∃ τ', fX11_take_266 fu (nI i) τ = (bnd (gsI τ' 168 81 0) fun σ2 => bnd (gsI σ2 168 85 (-1)) fun σ3 => bd (fX11_findNeeded σ3) fun _ σ4 => bd (fX11_findOrder σ4) fun _ σ6 => some ((), σ6)) ∧ (∀ x, x < n → τ'.1 181 x = σ.1 195 x ∧ τ'.1 182 x = σ.1 196 x) ∧ ∀ x y, ¬ (181 ≤ x ∧ x ≤ 182) → sm σ τ' x y := by
    intro m
    induction m with
    | zero =>
      intro i fu τ e1 hf hx fr
      obtain ⟨fu, rfl⟩ : ∃ y, fu = y + 1 := ⟨fu - 1, by omega⟩
      have es : τ.1 168 16 = nI n := by rw [(fr 168 16 (by omega)).1]; exact e
      rw [fX11_take_266, es, if_pos (nI_le (by omega) (by omega))]
      exact ⟨τ, rfl, fun x h => hx x (by omega), fr⟩
    | succ m ih =>
      intro i fu τ e1 hf hx fr
      obtain ⟨fu, rfl⟩ : ∃ y, fu = y + 1 := ⟨fu - 1, by omega⟩
      have es : τ.1 168 16 = nI n := by rw [(fr 168 16 (by omega)).1]; exact e
      have cli : (nI i).toNatClampNeg = i := nI_clamp (by omega)
      rw [fX11_take_266, es, if_neg (nI_ge (by omega) (by omega)), cli, gg_ix (by omega) (by decide), gg_ix (by omega) (by decide), bnd_r, gg_ix (by omega) (by decide), gg_ix (by omega) (by decide), bnd_r, bnd_r, nI_1]
      simp (disch := omega) only [rI_h]
      rw [(fr 195 i (by omega)).1, (fr 196 i (by omega)).1]
      refine ih (i + 1) fu _ (by omega) (by omega) (fun x h => ?_) (fun x y q => sm_t (fr x y q) (sm_I (sm_I (sm_r τ x y) (by omega) rfl) (by omega) rfl))
      by_cases z : x = i
      · subst z
        simp (disch := omega) only [rI_h, rI_s, and_self]
      · have hh := hx x (by omega)
        simp (disch := omega) only [rI_k, rI_h]
        exact hh
  exact key n 0 2000 σ (by omega) (by omega) (fun x h => absurd h (Nat.not_lt_zero x)) (fun x y _ => sm_r σ x y)
def frTk (σ σ' : gS) : Prop := ∀ x y, ¬ (x = 168 ∧ y ≤ 20) → ¬ (x = 168 ∧ 52 ≤ y ∧ y ≤ 57) → ¬ (x = 168 ∧ (y = 69 ∨ y = 76 ∨ y = 77 ∨ y = 81 ∨ y = 85)) → ¬ (169 ≤ x ∧ x ≤ 182) → ¬ (198 ≤ x ∧ x ≤ 205) → ¬ (210 ≤ x ∧ x ≤ 215) → sm σ σ' x y
theorem takeR {σ : gS} {D : DT} (w : WFa D) (v : WFb D) (h : RD σ D) : Wp (fX11_take σ) (fun _ σ' => RD0 σ' D ∧ KR σ' D ∧ KTR σ' D (orD D) ∧ σ'.1 168 81 = 0 ∧ σ'.1 168 85 = -1 ∧ frTk σ σ') := by
  have w4 := w.n4
  have wp := w.np
  obtain ⟨a, c, e, g, k, l, m, n, o⟩ := h
  have s0 : σ.1 168 21 = nI (dn D 0) := a 0 (by decide)
  have s2 : σ.1 168 26 = nI (dn D 2) := a 2 (by decide)
  have s1 : σ.1 168 30 = nI (dn D 1) := a 1 (by decide)
  have s3 : σ.1 168 33 = nI (dn D 3) := a 3 (by decide)
  rw [fX11_take, bnd_r, bnd_r, bnd_r, bnd_r, bnd_r, bnd_r, bnd_r]
  simp (disch := omega) only [rI_k]
  generalize hσ0 : gsI (gsI (gsI (gsI (gsI (gsI (gsI σ 168 0 (σ.1 168 21)) 168 5 (σ.1 168 26)) 168 9 (σ.1 168 30)) 168 12 (σ.1 168 33)) 168 16 (σ.1 168 37)) 168 19 (σ.1 168 40)) 168 20 (σ.1 168 41) = σ0
  have f0 : ∀ x y, ¬ (x = 168 ∧ y ≤ 20) → sm σ σ0 x y := fun x y q => by
    rw [← hσ0]
    exact sm_I (sm_I (sm_I (sm_I (sm_I (sm_I (sm_I (sm_r σ x y) (by omega) rfl) (by omega) rfl) (by omega) rfl) (by omega) rfl) (by omega) rfl) (by omega) rfl) (by omega) rfl
  have z0 : σ0.1 168 0 = nI (dn D 0) := by rw [← hσ0]; simp (disch := omega) only [rI_k, rI_s]; exact s0
  have z5 : σ0.1 168 5 = nI (dn D 2) := by rw [← hσ0]; simp (disch := omega) only [rI_k, rI_s]; exact s2
  have z9 : σ0.1 168 9 = nI (dn D 1) := by rw [← hσ0]; simp (disch := omega) only [rI_k, rI_s]; exact s1
  have z12 : σ0.1 168 12 = nI (dn D 3) := by rw [← hσ0]; simp (disch := omega) only [rI_k, rI_s]; exact s3
  have z16 : σ0.1 168 16 = nI (dP D) := by rw [← hσ0]; simp (disch := omega) only [rI_k, rI_s]; exact c
  have z19 : σ0.1 168 19 = σ.1 168 40 := by rw [← hσ0]; simp (disch := omega) only [rI_k, rI_s]
  have z20 : σ0.1 168 20 = σ.1 168 41 := by rw [← hσ0, rI_s]
  obtain ⟨τ1, e1, x1, f1⟩ := take58 w4.1 z0
  obtain ⟨τ2, e2, x2, f2⟩ := take122 w4.2.2.1 ((f1 168 5 (by omega)).1.trans z5)
  obtain ⟨τ3, e3, x3, f3⟩ := take174 w4.2.1 (((f2 168 9 (by omega)).1.trans (f1 168 9 (by omega)).1).trans z9)
  obtain ⟨τ4, e4, x4, f4⟩ := take214 w4.2.2.2 ((((f3 168 12 (by omega)).1.trans (f2 168 12 (by omega)).1).trans (f1 168 12 (by omega)).1).trans z12)
  obtain ⟨τ5, e5, x5, f5⟩ := take266 wp.2 (((((f4 168 16 (by omega)).1.trans (f3 168 16 (by omega)).1).trans (f2 168 16 (by omega)).1).trans (f1 168 16 (by omega)).1).trans z16)
  rw [e1, e2, e3, e4, e5, bnd_r, bnd_r]
  have g2 : ∀ x y, ¬ (169 ≤ x ∧ x ≤ 172) → sm σ0 τ1 x y := f1
  have g3 : ∀ x y, ¬ (169 ≤ x ∧ x ≤ 175) → sm σ0 τ2 x y := fun x y q => sm_t (f1 x y (by omega)) (f2 x y (by omega))
  have g4 : ∀ x y, ¬ (169 ≤ x ∧ x ≤ 177) → sm σ0 τ3 x y := fun x y q => sm_t (g3 x y (by omega)) (f3 x y (by omega))
  have g5 : ∀ x y, ¬ (169 ≤ x ∧ x ≤ 180) → sm σ0 τ4 x y := fun x y q => sm_t (g4 x y (by omega)) (f4 x y (by omega))
  have g6 : ∀ x y, ¬ (169 ≤ x ∧ x ≤ 182) → sm σ0 τ5 x y := fun x y q => sm_t (g5 x y (by omega)) (f5 x y (by omega))
  have r3 : ∀ x y, x ≤ 175 → τ5.1 x y = τ2.1 x y := fun x y q => ((f5 x y (by omega)).1.trans (f4 x y (by omega)).1).trans (f3 x y (by omega)).1
  have src : ∀ x y, 183 ≤ x → σ0.1 x y = σ.1 x y := fun x y q => (f0 x y (by omega)).1
  have R5 : RD0 (gsI (gsI τ5 168 81 0) 168 85 (-1)) D := by
    refine ⟨fun f hf => ?_, ?_, fun p hp => ?_, fun f i hf hi => ?_, fun i hi => ?_, fun i hi => ?_, fun q => ?_, fun a' b' q => ?_⟩
    · rcases (show f = 0 ∨ f = 1 ∨ f = 2 ∨ f = 3 by omega) with rfl | rfl | rfl | rfl
      · show (gsI (gsI τ5 168 81 0) 168 85 (-1)).1 168 0 = _
        rw [rI_k (by decide), rI_k (by decide), (g6 168 0 (by omega)).1]; exact z0
      · show (gsI (gsI τ5 168 81 0) 168 85 (-1)).1 168 9 = _
        rw [rI_k (by decide), rI_k (by decide), (g6 168 9 (by omega)).1]; exact z9
      · show (gsI (gsI τ5 168 81 0) 168 85 (-1)).1 168 5 = _
        rw [rI_k (by decide), rI_k (by decide), (g6 168 5 (by omega)).1]; exact z5
      · show (gsI (gsI τ5 168 81 0) 168 85 (-1)).1 168 12 = _
        rw [rI_k (by decide), rI_k (by decide), (g6 168 12 (by omega)).1]; exact z12
    · rw [rI_k (by decide), rI_k (by decide), (g6 168 16 (by omega)).1]; exact z16
    · obtain ⟨y1, y2⟩ := x5 p hp
      rw [rI_h (by decide), rI_h (by decide), rI_h (by decide), rI_h (by decide), y1, y2, (g5 195 p (by omega)).1, (g5 196 p (by omega)).1, src 195 p (by omega), src 196 p (by omega)]
      exact e p hp
    · rcases (show f = 0 ∨ f = 1 ∨ f = 2 ∨ f = 3 by omega) with rfl | rfl | rfl | rfl
      · show (gsI (gsI τ5 168 81 0) 168 85 (-1)).1 170 i = _ ∧ (gsI (gsI τ5 168 81 0) 168 85 (-1)).1 171 i = _
        obtain ⟨y1, y2, -⟩ := x1 i hi
        rw [rI_h (by decide), rI_h (by decide), rI_h (by decide), rI_h (by decide), r3 170 i (by omega), r3 171 i (by omega), (f2 170 i (by omega)).1, (f2 171 i (by omega)).1, y1, y2, src 184 i (by omega), src 185 i (by omega)]
        exact g 0 i (by decide) hi
      · show (gsI (gsI τ5 168 81 0) 168 85 (-1)).1 176 i = _ ∧ (gsI (gsI τ5 168 81 0) 168 85 (-1)).1 177 i = _
        obtain ⟨y1, y2⟩ := x3 i hi
        rw [rI_h (by decide), rI_h (by decide), rI_h (by decide), rI_h (by decide), (f5 176 i (by omega)).1, (f5 177 i (by omega)).1, (f4 176 i (by omega)).1, (f4 177 i (by omega)).1, y1, y2, (g3 190 i (by omega)).1, (g3 191 i (by omega)).1, src 190 i (by omega), src 191 i (by omega)]
        exact g 1 i (by decide) hi
      · show (gsI (gsI τ5 168 81 0) 168 85 (-1)).1 174 i = _ ∧ (gsI (gsI τ5 168 81 0) 168 85 (-1)).1 175 i = _
        obtain ⟨y1, y2⟩ := x2 i hi
        rw [rI_h (by decide), rI_h (by decide), rI_h (by decide), rI_h (by decide), r3 174 i (by omega), r3 175 i (by omega), y1, y2, (g2 188 i (by omega)).1, (g2 189 i (by omega)).1, src 188 i (by omega), src 189 i (by omega)]
        exact g 2 i (by decide) hi
      · show (gsI (gsI τ5 168 81 0) 168 85 (-1)).1 179 i = _ ∧ (gsI (gsI τ5 168 81 0) 168 85 (-1)).1 180 i = _
        obtain ⟨-, y1, y2⟩ := x4 i hi
        rw [rI_h (by decide), rI_h (by decide), rI_h (by decide), rI_h (by decide), (f5 179 i (by omega)).1, (f5 180 i (by omega)).1, y1, y2, (g4 193 i (by omega)).1, (g4 194 i (by omega)).1, src 193 i (by omega), src 194 i (by omega)]
        exact g 3 i (by decide) hi
    · obtain ⟨-, -, y3⟩ := x1 i hi
      rw [rI_h (by decide), rI_h (by decide), r3 172 i (by omega), (f2 172 i (by omega)).1, y3, src 186 i (by omega), (k i hi).1]
      split <;> rfl
    · obtain ⟨y1, -, -⟩ := x4 i hi
      rw [rI_h (by decide), rI_h (by decide), (f5 178 i (by omega)).1, y1, (g4 192 i (by omega)).1, src 192 i (by omega)]
      exact m i hi
    · rw [rI_k (by decide), rI_k (by decide), rI_k (by decide), rI_k (by decide), (g6 168 19 (by omega)).1, (g6 168 20 (by omega)).1, z19, z20]
      exact n q
    · rw [rI_k (by decide), rI_k (by decide), rI_k (by decide), rI_k (by decide), (g6 168 19 (by omega)).1, (g6 168 20 (by omega)).1, z19, z20]
      exact o a' b' q
  refine wp_bw (neededR w v R5) ?_
  rintro _ σ4 ⟨q1, q2, q3⟩
  refine wp_bw (orderR w v q2) ?_
  rintro _ σ6 ⟨q4, q5⟩
  refine wp_r ⟨q5.rd q2, ?_, q4, ?_, ?_, fun x y y1 y2 y3 y4 y5 y6 => ?_⟩
  · refine ⟨by rw [(q5 168 52 (by omega) (by omega)).1]; exact q1.1, by rw [(q5 168 57 (by omega) (by omega)).1]; exact q1.2.1, fun i hi => ?_, fun a' b' h1 h2 => ?_⟩
    · rw [(q5 200 ((tiD D).length + i) (by omega) (by omega)).1]
      exact q1.2.2.1 i hi
    · rw [(q5 202 (24 * a' + b') (by omega) (by omega)).1]
      exact q1.2.2.2 a' b' h1 h2
  · rw [(q5 168 81 (by omega) (by omega)).1, (q3 168 81 (by omega) (by omega)).1, rI_k (by decide), rI_s]
  · rw [(q5 168 85 (by omega) (by omega)).1, (q3 168 85 (by omega) (by omega)).1, rI_s]
  · exact sm_t (sm_t (sm_t (f0 x y y1) (g6 x y y4)) (sm_I (sm_I (sm_r τ5 x y) (by omega) rfl) (by omega) rfl)) (sm_t (q3 x y y5 y2) (q5 x y (by omega) y6))

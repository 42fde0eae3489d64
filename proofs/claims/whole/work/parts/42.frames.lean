set_option maxRecDepth 10000 in
theorem wX11_frees_30 {x y : Nat} {p1 : Int32} {p2 : Int32} {k2 : Int32 → gS → Option (Int32 × gS)} {r : Int32} {σ' : gS} {v3 : Int32} {s1 : Int32} {s2 : Int32} {σ : gS} (hk2 : ∀ (v3 : Int32) (σ : gS), k2 v3 σ = some (r, σ') → sm σ σ' x y) (nh_200 : ¬ x = 200) (nh_201 : ¬ x = 201) (nh_203 : ¬ x = 203) (nh_204 : ¬ x = 204) (nh_205 : ¬ x = 205) (h : fX11_frees_30 p1 p2 k2 v3 s1 s2 σ = some (r, σ')) : sm σ σ' x y := by
  unfold fX11_frees_30 at h
  have f := sm_r σ x y
  obtain ⟨g1, h⟩ := gg_some h
  obtain ⟨σ2, eσ2, h⟩ := bnd_nm h
  have f := sm_I f (fun q => nh_204 q.1) eσ2
  obtain ⟨g3, h⟩ := gg_some h
  obtain ⟨σ4, eσ4, h⟩ := bnd_nm h
  have f := sm_I f (fun q => nh_203 q.1) eσ4
  obtain ⟨x5, ex5, h⟩ := bnd_nm h
  exact sm_t f (hk2 x5 σ4 h)
set_option maxRecDepth 10000 in
theorem wX11_frees_25 {x y : Nat} {p1 : Int32} {p2 : Int32} {k2 : Int32 → gS → Option (Int32 × gS)} {r : Int32} {σ' : gS} {v3 : Int32} {s1 : Int32} {σ : gS} (hk2 : ∀ (v3 : Int32) (σ : gS), k2 v3 σ = some (r, σ') → sm σ σ' x y) (nh_200 : ¬ x = 200) (nh_201 : ¬ x = 201) (nh_203 : ¬ x = 203) (nh_204 : ¬ x = 204) (nh_205 : ¬ x = 205) (h : fX11_frees_25 p1 p2 k2 v3 s1 σ = some (r, σ')) : sm σ σ' x y := by
  unfold fX11_frees_25 at h
  have f := sm_r σ x y
  exact sm_t f (wX11_frees_30 hk2 nh_200 nh_201 nh_203 nh_204 nh_205 h)
set_option maxRecDepth 10000 in
theorem wX11_frees_197 {x y : Nat} {p1 : Int32} {p2 : Int32} {k59 : Int32 → Int32 → Int32 → gS → Option (Int32 × gS)} {k73 : Int32 → Int32 → Int32 → Int32 → gS → Option (Int32 × gS)} {r : Int32} {σ' : gS} {v3 : Int32} {v4 : Int32} {v5 : Int32} {v6 : Int32} {σ : gS} (hk59 : ∀ (v3 : Int32) (v4 : Int32) (v5 : Int32) (σ : gS), k59 v3 v4 v5 σ = some (r, σ') → sm σ σ' x y) (hk73 : ∀ (v3 : Int32) (v4 : Int32) (v5 : Int32) (v6 : Int32) (σ : gS), k73 v3 v4 v5 v6 σ = some (r, σ') → sm σ σ' x y) (nh_200 : ¬ x = 200) (nh_201 : ¬ x = 201) (nh_203 : ¬ x = 203) (nh_204 : ¬ x = 204) (nh_205 : ¬ x = 205) (h : fX11_frees_197 p1 p2 k59 k73 v3 v4 v5 v6 σ = some (r, σ')) : sm σ σ' x y := by
  unfold fX11_frees_197 at h
  have f := sm_r σ x y
  obtain ⟨x1, ex1, h⟩ := bnd_nm h
  exact sm_t f (hk73 v3 v4 v5 x1 σ h)
set_option maxRecDepth 10000 in
theorem wX11_frees_195 {x y : Nat} {p1 : Int32} {p2 : Int32} {k59 : Int32 → Int32 → Int32 → gS → Option (Int32 × gS)} {k73 : Int32 → Int32 → Int32 → Int32 → gS → Option (Int32 × gS)} {r : Int32} {σ' : gS} {v3 : Int32} {v5 : Int32} {v6 : Int32} {s0 : Int32} {σ : gS} (hk59 : ∀ (v3 : Int32) (v4 : Int32) (v5 : Int32) (σ : gS), k59 v3 v4 v5 σ = some (r, σ') → sm σ σ' x y) (hk73 : ∀ (v3 : Int32) (v4 : Int32) (v5 : Int32) (v6 : Int32) (σ : gS), k73 v3 v4 v5 v6 σ = some (r, σ') → sm σ σ' x y) (nh_200 : ¬ x = 200) (nh_201 : ¬ x = 201) (nh_203 : ¬ x = 203) (nh_204 : ¬ x = 204) (nh_205 : ¬ x = 205) (h : fX11_frees_195 p1 p2 k59 k73 v3 v5 v6 s0 σ = some (r, σ')) : sm σ σ' x y := by
  unfold fX11_frees_195 at h
  have f := sm_r σ x y
  exact sm_t f (wX11_frees_197 hk59 hk73 nh_200 nh_201 nh_203 nh_204 nh_205 h)
set_option maxRecDepth 10000 in
theorem wX11_frees_138 {x y : Nat} {p1 : Int32} {p2 : Int32} {k59 : Int32 → Int32 → Int32 → gS → Option (Int32 × gS)} {k73 : Int32 → Int32 → Int32 → Int32 → gS → Option (Int32 × gS)} {r : Int32} {σ' : gS} {v3 : Int32} {v4 : Int32} {v5 : Int32} {v6 : Int32} {s0 : Int32} {σ : gS} (hk59 : ∀ (v3 : Int32) (v4 : Int32) (v5 : Int32) (σ : gS), k59 v3 v4 v5 σ = some (r, σ') → sm σ σ' x y) (hk73 : ∀ (v3 : Int32) (v4 : Int32) (v5 : Int32) (v6 : Int32) (σ : gS), k73 v3 v4 v5 v6 σ = some (r, σ') → sm σ σ' x y) (nh_200 : ¬ x = 200) (nh_201 : ¬ x = 201) (nh_203 : ¬ x = 203) (nh_204 : ¬ x = 204) (nh_205 : ¬ x = 205) (h : fX11_frees_138 p1 p2 k59 k73 v3 v4 v5 v6 s0 σ = some (r, σ')) : sm σ σ' x y := by
  unfold fX11_frees_138 at h
  have f := sm_r σ x y
  obtain ⟨g1, h⟩ := gg_some h
  rcases ite_or h with ⟨_, h⟩ | ⟨_, h⟩
  · obtain ⟨g3, h⟩ := gg_some h
    obtain ⟨σ4, eσ4, h⟩ := bnd_nm h
    have f := sm_I f (fun q => nh_204 q.1) eσ4
    obtain ⟨g5, h⟩ := gg_some h
    obtain ⟨σ6, eσ6, h⟩ := bnd_nm h
    have f := sm_I f (fun q => nh_203 q.1) eσ6
    obtain ⟨g7, h⟩ := gg_some h
    obtain ⟨σ8, eσ8, h⟩ := bnd_nm h
    have f := sm_I f (fun q => nh_205 q.1) eσ8
    obtain ⟨x9, ex9, h⟩ := bnd_nm h
    obtain ⟨g10, h⟩ := gg_some h
    rcases ite_or h with ⟨_, h⟩ | ⟨_, h⟩
    · exact sm_t f (wX11_frees_195 hk59 hk73 nh_200 nh_201 nh_203 nh_204 nh_205 h)
    · exact sm_t f (wX11_frees_195 hk59 hk73 nh_200 nh_201 nh_203 nh_204 nh_205 h)
  · exact sm_t f (wX11_frees_197 hk59 hk73 nh_200 nh_201 nh_203 nh_204 nh_205 h)
set_option maxRecDepth 10000 in
theorem wX11_frees_203 {x y : Nat} {p1 : Int32} {p2 : Int32} {k59 : Int32 → Int32 → Int32 → gS → Option (Int32 × gS)} {r : Int32} {σ' : gS} {v3 : Int32} {v4 : Int32} {v5 : Int32} {σ : gS} (hk59 : ∀ (v3 : Int32) (v4 : Int32) (v5 : Int32) (σ : gS), k59 v3 v4 v5 σ = some (r, σ') → sm σ σ' x y) (nh_200 : ¬ x = 200) (nh_201 : ¬ x = 201) (nh_203 : ¬ x = 203) (nh_204 : ¬ x = 204) (nh_205 : ¬ x = 205) (h : fX11_frees_203 p1 p2 k59 v3 v4 v5 σ = some (r, σ')) : sm σ σ' x y := by
  unfold fX11_frees_203 at h
  have f := sm_r σ x y
  obtain ⟨x1, ex1, h⟩ := bnd_nm h
  exact sm_t f (hk59 v3 v4 x1 σ h)
set_option maxRecDepth 10000 in
theorem wX11_frees_73 {x y : Nat} {p1 : Int32} {p2 : Int32} {k59 : Int32 → Int32 → Int32 → gS → Option (Int32 × gS)} {r : Int32} {σ' : gS} (hk59 : ∀ (v3 : Int32) (v4 : Int32) (v5 : Int32) (σ : gS), k59 v3 v4 v5 σ = some (r, σ') → sm σ σ' x y) (nh_200 : ¬ x = 200) (nh_201 : ¬ x = 201) (nh_203 : ¬ x = 203) (nh_204 : ¬ x = 204) (nh_205 : ¬ x = 205) : ∀ (n : Nat) (v3 : Int32) (v4 : Int32) (v5 : Int32) (v6 : Int32) (σ : gS), fX11_frees_73 p1 p2 k59 n v3 v4 v5 v6 σ = some (r, σ') → sm σ σ' x y := by
  intro n
  induction n with
  | zero => intro v3 v4 v5 v6 σ h; exact absurd (show none = some (r, σ') from h) (by intro q; cases q)
  | succ n ih =>
  intro v3 v4 v5 v6 σ h
  unfold fX11_frees_73 at h
  have f := sm_r σ x y
  rcases ite_or h with ⟨_, h⟩ | ⟨_, h⟩
  · exact sm_t f (wX11_frees_203 hk59 nh_200 nh_201 nh_203 nh_204 nh_205 h)
  · rcases ite_or h with ⟨_, h⟩ | ⟨_, h⟩
    · exact sm_t f (wX11_frees_203 hk59 nh_200 nh_201 nh_203 nh_204 nh_205 h)
    · obtain ⟨g3, h⟩ := gg_some h
      obtain ⟨g4, h⟩ := gg_some h
      rcases ite_or h with ⟨_, h⟩ | ⟨_, h⟩
      · obtain ⟨g6, h⟩ := gg_some h
        obtain ⟨g7, h⟩ := gg_some h
        rcases ite_or h with ⟨_, h⟩ | ⟨_, h⟩
        · obtain ⟨g10, h⟩ := gg_some h
          exact sm_t f (wX11_frees_138 hk59 (fun v3 v4 v5 v6 σ h => ih v3 v4 v5 v6 σ h) nh_200 nh_201 nh_203 nh_204 nh_205 h)
        · obtain ⟨g9, h⟩ := gg_some h
          exact sm_t f (wX11_frees_138 hk59 (fun v3 v4 v5 v6 σ h => ih v3 v4 v5 v6 σ h) nh_200 nh_201 nh_203 nh_204 nh_205 h)
      · exact sm_t f (wX11_frees_197 hk59 (fun v3 v4 v5 v6 σ h => ih v3 v4 v5 v6 σ h) nh_200 nh_201 nh_203 nh_204 nh_205 h)
set_option maxRecDepth 10000 in
theorem wX11_frees_241 {x y : Nat} {p1 : Int32} {p2 : Int32} {r : Int32} {σ' : gS} (nh_200 : ¬ x = 200) (nh_201 : ¬ x = 201) (nh_203 : ¬ x = 203) (nh_204 : ¬ x = 204) (nh_205 : ¬ x = 205) : ∀ (n : Nat) (v5 : Int32) (σ : gS), fX11_frees_241 p1 p2 n v5 σ = some (r, σ') → sm σ σ' x y := by
  intro n
  induction n with
  | zero => intro v5 σ h; exact absurd (show none = some (r, σ') from h) (by intro q; cases q)
  | succ n ih =>
  intro v5 σ h
  unfold fX11_frees_241 at h
  have f := sm_r σ x y
  rcases ite_or h with ⟨_, h⟩ | ⟨_, h⟩
  · obtain ⟨-, rfl⟩ := so_inj h
    exact f
  · obtain ⟨g2, h⟩ := gg_some h
    obtain ⟨g3, h⟩ := gg_some h
    obtain ⟨g4, h⟩ := gg_some h
    obtain ⟨σ5, eσ5, h⟩ := bnd_nm h
    have f := sm_I f (fun q => nh_200 q.1) eσ5
    exact sm_t f (ih (σ.1 200 ((σ.1 203 v5.toNatClampNeg).toNatClampNeg)) σ5 h)
set_option maxRecDepth 10000 in
theorem wX11_frees_209 {x y : Nat} {p1 : Int32} {p2 : Int32} {r : Int32} {σ' : gS} {v4 : Int32} {σ : gS} (nh_200 : ¬ x = 200) (nh_201 : ¬ x = 201) (nh_203 : ¬ x = 203) (nh_204 : ¬ x = 204) (nh_205 : ¬ x = 205) (h : fX11_frees_209 p1 p2 v4 σ = some (r, σ')) : sm σ σ' x y := by
  unfold fX11_frees_209 at h
  have f := sm_r σ x y
  rcases ite_or h with ⟨_, h⟩ | ⟨_, h⟩
  · obtain ⟨g2, h⟩ := gg_some h
    obtain ⟨g3, h⟩ := gg_some h
    obtain ⟨σ4, eσ4, h⟩ := bnd_nm h
    have f := sm_I f (fun q => nh_201 q.1) eσ4
    obtain ⟨g5, h⟩ := gg_some h
    obtain ⟨g6, h⟩ := gg_some h
    obtain ⟨σ7, eσ7, h⟩ := bnd_nm h
    have f := sm_I f (fun q => nh_201 q.1) eσ7
    exact sm_t f (wX11_frees_241 nh_200 nh_201 nh_203 nh_204 nh_205 2000 v4 σ7 h)
  · obtain ⟨-, rfl⟩ := so_inj h
    exact f
set_option maxRecDepth 10000 in
theorem wX11_frees_59 {x y : Nat} {p1 : Int32} {p2 : Int32} {r : Int32} {σ' : gS} (nh_200 : ¬ x = 200) (nh_201 : ¬ x = 201) (nh_203 : ¬ x = 203) (nh_204 : ¬ x = 204) (nh_205 : ¬ x = 205) : ∀ (n : Nat) (v3 : Int32) (v4 : Int32) (v5 : Int32) (σ : gS), fX11_frees_59 p1 p2 n v3 v4 v5 σ = some (r, σ') → sm σ σ' x y := by
  intro n
  induction n with
  | zero => intro v3 v4 v5 σ h; exact absurd (show none = some (r, σ') from h) (by intro q; cases q)
  | succ n ih =>
  intro v3 v4 v5 σ h
  unfold fX11_frees_59 at h
  have f := sm_r σ x y
  rcases ite_or h with ⟨_, h⟩ | ⟨_, h⟩
  · exact sm_t f (wX11_frees_209 nh_200 nh_201 nh_203 nh_204 nh_205 h)
  · rcases ite_or h with ⟨_, h⟩ | ⟨_, h⟩
    · exact sm_t f (wX11_frees_209 nh_200 nh_201 nh_203 nh_204 nh_205 h)
    · exact sm_t f (wX11_frees_73 (fun v3 v4 v5 σ h => ih v3 v4 v5 σ h) nh_200 nh_201 nh_203 nh_204 nh_205 2000 v3 v4 v5 0 σ h)
set_option maxRecDepth 10000 in
theorem wX11_frees_2 {x y : Nat} {p1 : Int32} {p2 : Int32} {r : Int32} {σ' : gS} (nh_200 : ¬ x = 200) (nh_201 : ¬ x = 201) (nh_203 : ¬ x = 203) (nh_204 : ¬ x = 204) (nh_205 : ¬ x = 205) : ∀ (n : Nat) (v3 : Int32) (σ : gS), fX11_frees_2 p1 p2 n v3 σ = some (r, σ') → sm σ σ' x y := by
  intro n
  induction n with
  | zero => intro v3 σ h; exact absurd (show none = some (r, σ') from h) (by intro q; cases q)
  | succ n ih =>
  intro v3 σ h
  unfold fX11_frees_2 at h
  have f := sm_r σ x y
  rcases ite_or h with ⟨_, h⟩ | ⟨_, h⟩
  · obtain ⟨σ2, eσ2, h⟩ := bnd_nm h
    have f := sm_I f (fun q => nh_205 q.1) eσ2
    exact sm_t f (wX11_frees_59 nh_200 nh_201 nh_203 nh_204 nh_205 2000 1 (-1) 0 σ2 h)
  · rcases ite_or h with ⟨_, h⟩ | ⟨_, h⟩
    · exact sm_t f (wX11_frees_25 (fun v3 σ h => ih v3 σ h) nh_200 nh_201 nh_203 nh_204 nh_205 h)
    · rcases ite_or h with ⟨_, h⟩ | ⟨_, h⟩
      · exact sm_t f (wX11_frees_25 (fun v3 σ h => ih v3 σ h) nh_200 nh_201 nh_203 nh_204 nh_205 h)
      · exact sm_t f (wX11_frees_30 (fun v3 σ h => ih v3 σ h) nh_200 nh_201 nh_203 nh_204 nh_205 h)
set_option maxRecDepth 10000 in
theorem wX11_frees {x y : Nat} {p1 : Int32} {p2 : Int32} {r : Int32} {σ' : gS} {σ : gS} (nh_200 : ¬ x = 200) (nh_201 : ¬ x = 201) (nh_203 : ¬ x = 203) (nh_204 : ¬ x = 204) (nh_205 : ¬ x = 205) (h : fX11_frees p1 p2 σ = some (r, σ')) : sm σ σ' x y := by
  unfold fX11_frees at h
  have f := sm_r σ x y
  exact sm_t f (wX11_frees_2 nh_200 nh_201 nh_203 nh_204 nh_205 2000 0 σ h)
set_option maxRecDepth 10000 in
theorem wX11_isFree_57 {x y : Nat} {p1 : Int32} {p2 : Int32} {k2 : Int32 → gS → Option (Int32 × gS)} {r : Int32} {σ' : gS} {s0 : Int32} {σ : gS} (hk2 : ∀ (v3 : Int32) (σ : gS), k2 v3 σ = some (r, σ') → sm σ σ' x y) (nh_200 : ¬ x = 200) (nh_201 : ¬ x = 201) (nh_203 : ¬ x = 203) (nh_204 : ¬ x = 204) (nh_205 : ¬ x = 205) (h : fX11_isFree_57 p1 p2 k2 s0 σ = some (r, σ')) : sm σ σ' x y := by
  unfold fX11_isFree_57 at h
  have f := sm_r σ x y
  exact sm_t f (hk2 s0 σ h)
set_option maxRecDepth 10000 in
theorem wX11_isFree_52 {x y : Nat} {p1 : Int32} {p2 : Int32} {k2 : Int32 → gS → Option (Int32 × gS)} {r : Int32} {σ' : gS} {σ : gS} (hk2 : ∀ (v3 : Int32) (σ : gS), k2 v3 σ = some (r, σ') → sm σ σ' x y) (nh_200 : ¬ x = 200) (nh_201 : ¬ x = 201) (nh_203 : ¬ x = 203) (nh_204 : ¬ x = 204) (nh_205 : ¬ x = 205) (h : fX11_isFree_52 p1 p2 k2 σ = some (r, σ')) : sm σ σ' x y := by
  unfold fX11_isFree_52 at h
  have f := sm_r σ x y
  exact sm_t f (wX11_isFree_57 hk2 nh_200 nh_201 nh_203 nh_204 nh_205 h)
set_option maxRecDepth 10000 in
theorem wX11_isFree_56 {x y : Nat} {p1 : Int32} {p2 : Int32} {k2 : Int32 → gS → Option (Int32 × gS)} {r : Int32} {σ' : gS} {σ : gS} (hk2 : ∀ (v3 : Int32) (σ : gS), k2 v3 σ = some (r, σ') → sm σ σ' x y) (nh_200 : ¬ x = 200) (nh_201 : ¬ x = 201) (nh_203 : ¬ x = 203) (nh_204 : ¬ x = 204) (nh_205 : ¬ x = 205) (h : fX11_isFree_56 p1 p2 k2 σ = some (r, σ')) : sm σ σ' x y := by
  unfold fX11_isFree_56 at h
  have f := sm_r σ x y
  exact sm_t f (wX11_isFree_57 hk2 nh_200 nh_201 nh_203 nh_204 nh_205 h)
set_option maxRecDepth 10000 in
theorem wX11_isFree_29 {x y : Nat} {p1 : Int32} {p2 : Int32} {k2 : Int32 → gS → Option (Int32 × gS)} {r : Int32} {σ' : gS} {s0 : Int32} {σ : gS} (hk2 : ∀ (v3 : Int32) (σ : gS), k2 v3 σ = some (r, σ') → sm σ σ' x y) (nh_200 : ¬ x = 200) (nh_201 : ¬ x = 201) (nh_203 : ¬ x = 203) (nh_204 : ¬ x = 204) (nh_205 : ¬ x = 205) (h : fX11_isFree_29 p1 p2 k2 s0 σ = some (r, σ')) : sm σ σ' x y := by
  unfold fX11_isFree_29 at h
  have f := sm_r σ x y
  rcases ite_or h with ⟨_, h⟩ | ⟨_, h⟩
  · obtain ⟨g2, h⟩ := gg_some h
    rcases ite_or h with ⟨_, h⟩ | ⟨_, h⟩
    · exact sm_t f (wX11_isFree_56 hk2 nh_200 nh_201 nh_203 nh_204 nh_205 h)
    · obtain ⟨x4, σ5, y6, h⟩ := bd_some h
      have f := sm_t f (wX11_frees nh_200 nh_201 nh_203 nh_204 nh_205 y6)
      rcases ite_or h with ⟨_, h⟩ | ⟨_, h⟩
      · exact sm_t f (wX11_isFree_56 hk2 nh_200 nh_201 nh_203 nh_204 nh_205 h)
      · exact sm_t f (wX11_isFree_52 hk2 nh_200 nh_201 nh_203 nh_204 nh_205 h)
  · exact sm_t f (wX11_isFree_52 hk2 nh_200 nh_201 nh_203 nh_204 nh_205 h)
set_option maxRecDepth 10000 in
theorem wX11_isFree_28 {x y : Nat} {p1 : Int32} {p2 : Int32} {k2 : Int32 → gS → Option (Int32 × gS)} {r : Int32} {σ' : gS} {σ : gS} (hk2 : ∀ (v3 : Int32) (σ : gS), k2 v3 σ = some (r, σ') → sm σ σ' x y) (nh_200 : ¬ x = 200) (nh_201 : ¬ x = 201) (nh_203 : ¬ x = 203) (nh_204 : ¬ x = 204) (nh_205 : ¬ x = 205) (h : fX11_isFree_28 p1 p2 k2 σ = some (r, σ')) : sm σ σ' x y := by
  unfold fX11_isFree_28 at h
  have f := sm_r σ x y
  exact sm_t f (wX11_isFree_29 hk2 nh_200 nh_201 nh_203 nh_204 nh_205 h)
set_option maxRecDepth 10000 in
theorem wX11_isFree_84 {x y : Nat} {p1 : Int32} {p2 : Int32} {r : Int32} {σ' : gS} {s0 : Int32} {σ : gS} (nh_200 : ¬ x = 200) (nh_201 : ¬ x = 201) (nh_203 : ¬ x = 203) (nh_204 : ¬ x = 204) (nh_205 : ¬ x = 205) (h : fX11_isFree_84 p1 p2 s0 σ = some (r, σ')) : sm σ σ' x y := by
  unfold fX11_isFree_84 at h
  have f := sm_r σ x y
  obtain ⟨g1, h⟩ := gg_some h
  obtain ⟨-, rfl⟩ := so_inj h
  exact f
set_option maxRecDepth 10000 in
theorem wX11_isFree_83 {x y : Nat} {p1 : Int32} {p2 : Int32} {r : Int32} {σ' : gS} {σ : gS} (nh_200 : ¬ x = 200) (nh_201 : ¬ x = 201) (nh_203 : ¬ x = 203) (nh_204 : ¬ x = 204) (nh_205 : ¬ x = 205) (h : fX11_isFree_83 p1 p2 σ = some (r, σ')) : sm σ σ' x y := by
  unfold fX11_isFree_83 at h
  have f := sm_r σ x y
  exact sm_t f (wX11_isFree_84 nh_200 nh_201 nh_203 nh_204 nh_205 h)
set_option maxRecDepth 10000 in
theorem wX11_isFree_2 {x y : Nat} {p1 : Int32} {p2 : Int32} {r : Int32} {σ' : gS} (nh_200 : ¬ x = 200) (nh_201 : ¬ x = 201) (nh_203 : ¬ x = 203) (nh_204 : ¬ x = 204) (nh_205 : ¬ x = 205) : ∀ (n : Nat) (v3 : Int32) (σ : gS), fX11_isFree_2 p1 p2 n v3 σ = some (r, σ') → sm σ σ' x y := by
  intro n
  induction n with
  | zero => intro v3 σ h; exact absurd (show none = some (r, σ') from h) (by intro q; cases q)
  | succ n ih =>
  intro v3 σ h
  unfold fX11_isFree_2 at h
  have f := sm_r σ x y
  rcases ite_or h with ⟨_, h⟩ | ⟨_, h⟩
  · obtain ⟨g2, h⟩ := gg_some h
    rcases ite_or h with ⟨_, h⟩ | ⟨_, h⟩
    · obtain ⟨g4, h⟩ := gg_some h
      rcases ite_or h with ⟨_, h⟩ | ⟨_, h⟩
      · exact sm_t f (wX11_isFree_84 nh_200 nh_201 nh_203 nh_204 nh_205 h)
      · exact sm_t f (wX11_isFree_83 nh_200 nh_201 nh_203 nh_204 nh_205 h)
    · exact sm_t f (wX11_isFree_83 nh_200 nh_201 nh_203 nh_204 nh_205 h)
  · obtain ⟨g6, h⟩ := gg_some h
    rcases ite_or h with ⟨_, h⟩ | ⟨_, h⟩
    · exact sm_t f (wX11_isFree_28 (fun v3 σ h => ih v3 σ h) nh_200 nh_201 nh_203 nh_204 nh_205 h)
    · obtain ⟨x8, σ9, y10, h⟩ := bd_some h
      have f := sm_t f (wX11_frees nh_200 nh_201 nh_203 nh_204 nh_205 y10)
      rcases ite_or h with ⟨_, h⟩ | ⟨_, h⟩
      · exact sm_t f (wX11_isFree_28 (fun v3 σ h => ih v3 σ h) nh_200 nh_201 nh_203 nh_204 nh_205 h)
      · exact sm_t f (wX11_isFree_29 (fun v3 σ h => ih v3 σ h) nh_200 nh_201 nh_203 nh_204 nh_205 h)
set_option maxRecDepth 10000 in
theorem wX11_isFree {x y : Nat} {p1 : Int32} {p2 : Int32} {r : Int32} {σ' : gS} {σ : gS} (nh_200 : ¬ x = 200) (nh_201 : ¬ x = 201) (nh_203 : ¬ x = 203) (nh_204 : ¬ x = 204) (nh_205 : ¬ x = 205) (h : fX11_isFree p1 p2 σ = some (r, σ')) : sm σ σ' x y := by
  unfold fX11_isFree at h
  have f := sm_r σ x y
  exact sm_t f (wX11_isFree_2 nh_200 nh_201 nh_203 nh_204 nh_205 2000 1 σ h)
set_option maxRecDepth 10000 in
theorem wX11_findNeeded_71 {x y : Nat} {k11 : Int32 → Int32 → Int32 → gS → Option (Unit × gS)} {r : Unit} {σ' : gS} {v1 : Int32} {v2 : Int32} {v3 : Int32} {σ : gS} (hk11 : ∀ (v1 : Int32) (v2 : Int32) (v3 : Int32) (σ : gS), k11 v1 v2 v3 σ = some (r, σ') → sm σ σ' x y) (nh_168_52 : ¬ (x = 168 ∧ y = 52)) (nh_168_53 : ¬ (x = 168 ∧ y = 53)) (nh_168_57 : ¬ (x = 168 ∧ y = 57)) (nh_198 : ¬ x = 198) (nh_199 : ¬ x = 199) (nh_200 : ¬ x = 200) (nh_201 : ¬ x = 201) (nh_202 : ¬ x = 202) (nh_203 : ¬ x = 203) (nh_204 : ¬ x = 204) (nh_205 : ¬ x = 205) (h : fX11_findNeeded_71 k11 v1 v2 v3 σ = some (r, σ')) : sm σ σ' x y := by
  unfold fX11_findNeeded_71 at h
  have f := sm_r σ x y
  obtain ⟨x1, ex1, h⟩ := bnd_nm h
  exact sm_t f (hk11 v1 v2 x1 σ h)
set_option maxRecDepth 10000 in
theorem wX11_findNeeded_230 {x y : Nat} {k108 : Int32 → Int32 → gS → Option (Unit × gS)} {r : Unit} {σ' : gS} {v3 : Int32} {v4 : Int32} {σ : gS} (hk108 : ∀ (v3 : Int32) (v4 : Int32) (σ : gS), k108 v3 v4 σ = some (r, σ') → sm σ σ' x y) (nh_168_52 : ¬ (x = 168 ∧ y = 52)) (nh_168_53 : ¬ (x = 168 ∧ y = 53)) (nh_168_57 : ¬ (x = 168 ∧ y = 57)) (nh_198 : ¬ x = 198) (nh_199 : ¬ x = 199) (nh_200 : ¬ x = 200) (nh_201 : ¬ x = 201) (nh_202 : ¬ x = 202) (nh_203 : ¬ x = 203) (nh_204 : ¬ x = 204) (nh_205 : ¬ x = 205) (h : fX11_findNeeded_230 k108 v3 v4 σ = some (r, σ')) : sm σ σ' x y := by
  unfold fX11_findNeeded_230 at h
  have f := sm_r σ x y
  obtain ⟨σ1, eσ1, h⟩ := bnd_nm h
  have f := sm_I f nh_168_53 eσ1
  obtain ⟨x2, ex2, h⟩ := bnd_nm h
  exact sm_t f (hk108 v3 x2 σ1 h)
set_option maxRecDepth 10000 in
theorem wX11_findNeeded_169 {x y : Nat} {k108 : Int32 → Int32 → gS → Option (Unit × gS)} {r : Unit} {σ' : gS} {v3 : Int32} {v4 : Int32} {σ : gS} (hk108 : ∀ (v3 : Int32) (v4 : Int32) (σ : gS), k108 v3 v4 σ = some (r, σ') → sm σ σ' x y) (nh_168_52 : ¬ (x = 168 ∧ y = 52)) (nh_168_53 : ¬ (x = 168 ∧ y = 53)) (nh_168_57 : ¬ (x = 168 ∧ y = 57)) (nh_198 : ¬ x = 198) (nh_199 : ¬ x = 199) (nh_200 : ¬ x = 200) (nh_201 : ¬ x = 201) (nh_202 : ¬ x = 202) (nh_203 : ¬ x = 203) (nh_204 : ¬ x = 204) (nh_205 : ¬ x = 205) (h : fX11_findNeeded_169 k108 v3 v4 σ = some (r, σ')) : sm σ σ' x y := by
  unfold fX11_findNeeded_169 at h
  have f := sm_r σ x y
  obtain ⟨g1, h⟩ := gg_some h
  obtain ⟨g2, h⟩ := gg_some h
  obtain ⟨x3, σ4, y5, h⟩ := bd_some h
  have f := sm_t f (wX11_isFree nh_200 nh_201 nh_203 nh_204 nh_205 y5)
  rcases ite_or h with ⟨_, h⟩ | ⟨_, h⟩
  · exact sm_t f (wX11_findNeeded_230 hk108 nh_168_52 nh_168_53 nh_168_57 nh_198 nh_199 nh_200 nh_201 nh_202 nh_203 nh_204 nh_205 h)
  · obtain ⟨g7, h⟩ := gg_some h
    obtain ⟨g8, h⟩ := gg_some h
    obtain ⟨σ9, eσ9, h⟩ := bnd_nm h
    have f := sm_I f (fun q => nh_200 q.1) eσ9
    obtain ⟨g10, h⟩ := gg_some h
    obtain ⟨g11, h⟩ := gg_some h
    obtain ⟨g12, h⟩ := gg_some h
    obtain ⟨σ13, eσ13, h⟩ := bnd_nm h
    have f := sm_I f (fun q => nh_201 q.1) eσ13
    obtain ⟨σ14, eσ14, h⟩ := bnd_nm h
    have f := sm_I f nh_168_57 eσ14
    exact sm_t f (wX11_findNeeded_230 hk108 nh_168_52 nh_168_53 nh_168_57 nh_198 nh_199 nh_200 nh_201 nh_202 nh_203 nh_204 nh_205 h)
set_option maxRecDepth 10000 in
theorem wX11_findNeeded_303 {x y : Nat} {k247 : Int32 → gS → Option (Unit × gS)} {k259 : Int32 → Int32 → gS → Option (Unit × gS)} {r : Unit} {σ' : gS} {v4 : Int32} {v5 : Int32} {s1 : Int32} {s2 : Int32} {σ : gS} (hk247 : ∀ (v4 : Int32) (σ : gS), k247 v4 σ = some (r, σ') → sm σ σ' x y) (hk259 : ∀ (v4 : Int32) (v5 : Int32) (σ : gS), k259 v4 v5 σ = some (r, σ') → sm σ σ' x y) (nh_168_52 : ¬ (x = 168 ∧ y = 52)) (nh_168_53 : ¬ (x = 168 ∧ y = 53)) (nh_168_57 : ¬ (x = 168 ∧ y = 57)) (nh_198 : ¬ x = 198) (nh_199 : ¬ x = 199) (nh_200 : ¬ x = 200) (nh_201 : ¬ x = 201) (nh_202 : ¬ x = 202) (nh_203 : ¬ x = 203) (nh_204 : ¬ x = 204) (nh_205 : ¬ x = 205) (h : fX11_findNeeded_303 k247 k259 v4 v5 s1 s2 σ = some (r, σ')) : sm σ σ' x y := by
  unfold fX11_findNeeded_303 at h
  have f := sm_r σ x y
  obtain ⟨g1, h⟩ := gg_some h
  obtain ⟨σ2, eσ2, h⟩ := bnd_nm h
  have f := sm_I f (fun q => nh_202 q.1) eσ2
  obtain ⟨x3, ex3, h⟩ := bnd_nm h
  exact sm_t f (hk259 v4 x3 σ2 h)
set_option maxRecDepth 10000 in
theorem wX11_findNeeded_298 {x y : Nat} {k247 : Int32 → gS → Option (Unit × gS)} {k259 : Int32 → Int32 → gS → Option (Unit × gS)} {r : Unit} {σ' : gS} {v4 : Int32} {v5 : Int32} {s1 : Int32} {σ : gS} (hk247 : ∀ (v4 : Int32) (σ : gS), k247 v4 σ = some (r, σ') → sm σ σ' x y) (hk259 : ∀ (v4 : Int32) (v5 : Int32) (σ : gS), k259 v4 v5 σ = some (r, σ') → sm σ σ' x y) (nh_168_52 : ¬ (x = 168 ∧ y = 52)) (nh_168_53 : ¬ (x = 168 ∧ y = 53)) (nh_168_57 : ¬ (x = 168 ∧ y = 57)) (nh_198 : ¬ x = 198) (nh_199 : ¬ x = 199) (nh_200 : ¬ x = 200) (nh_201 : ¬ x = 201) (nh_202 : ¬ x = 202) (nh_203 : ¬ x = 203) (nh_204 : ¬ x = 204) (nh_205 : ¬ x = 205) (h : fX11_findNeeded_298 k247 k259 v4 v5 s1 σ = some (r, σ')) : sm σ σ' x y := by
  unfold fX11_findNeeded_298 at h
  have f := sm_r σ x y
  exact sm_t f (wX11_findNeeded_303 hk247 hk259 nh_168_52 nh_168_53 nh_168_57 nh_198 nh_199 nh_200 nh_201 nh_202 nh_203 nh_204 nh_205 h)
set_option maxRecDepth 10000 in
theorem wX11_findNeeded_259 {x y : Nat} {k247 : Int32 → gS → Option (Unit × gS)} {r : Unit} {σ' : gS} (hk247 : ∀ (v4 : Int32) (σ : gS), k247 v4 σ = some (r, σ') → sm σ σ' x y) (nh_168_52 : ¬ (x = 168 ∧ y = 52)) (nh_168_53 : ¬ (x = 168 ∧ y = 53)) (nh_168_57 : ¬ (x = 168 ∧ y = 57)) (nh_198 : ¬ x = 198) (nh_199 : ¬ x = 199) (nh_200 : ¬ x = 200) (nh_201 : ¬ x = 201) (nh_202 : ¬ x = 202) (nh_203 : ¬ x = 203) (nh_204 : ¬ x = 204) (nh_205 : ¬ x = 205) : ∀ (n : Nat) (v4 : Int32) (v5 : Int32) (σ : gS), fX11_findNeeded_259 k247 n v4 v5 σ = some (r, σ') → sm σ σ' x y := by
  intro n
  induction n with
  | zero => intro v4 v5 σ h; exact absurd (show none = some (r, σ') from h) (by intro q; cases q)
  | succ n ih =>
  intro v4 v5 σ h
  unfold fX11_findNeeded_259 at h
  have f := sm_r σ x y
  rcases ite_or h with ⟨_, h⟩ | ⟨_, h⟩
  · obtain ⟨x2, ex2, h⟩ := bnd_nm h
    exact sm_t f (hk247 x2 σ h)
  · rcases ite_or h with ⟨_, h⟩ | ⟨_, h⟩
    · exact sm_t f (wX11_findNeeded_298 hk247 (fun v4 v5 σ h => ih v4 v5 σ h) nh_168_52 nh_168_53 nh_168_57 nh_198 nh_199 nh_200 nh_201 nh_202 nh_203 nh_204 nh_205 h)
    · obtain ⟨x4, σ5, y6, h⟩ := bd_some h
      have f := sm_t f (wX11_isFree nh_200 nh_201 nh_203 nh_204 nh_205 y6)
      rcases ite_or h with ⟨_, h⟩ | ⟨_, h⟩
      · exact sm_t f (wX11_findNeeded_298 hk247 (fun v4 v5 σ h => ih v4 v5 σ h) nh_168_52 nh_168_53 nh_168_57 nh_198 nh_199 nh_200 nh_201 nh_202 nh_203 nh_204 nh_205 h)
      · exact sm_t f (wX11_findNeeded_303 hk247 (fun v4 v5 σ h => ih v4 v5 σ h) nh_168_52 nh_168_53 nh_168_57 nh_198 nh_199 nh_200 nh_201 nh_202 nh_203 nh_204 nh_205 h)
set_option maxRecDepth 10000 in
theorem wX11_findNeeded_247 {x y : Nat} {r : Unit} {σ' : gS} (nh_168_52 : ¬ (x = 168 ∧ y = 52)) (nh_168_53 : ¬ (x = 168 ∧ y = 53)) (nh_168_57 : ¬ (x = 168 ∧ y = 57)) (nh_198 : ¬ x = 198) (nh_199 : ¬ x = 199) (nh_200 : ¬ x = 200) (nh_201 : ¬ x = 201) (nh_202 : ¬ x = 202) (nh_203 : ¬ x = 203) (nh_204 : ¬ x = 204) (nh_205 : ¬ x = 205) : ∀ (n : Nat) (v4 : Int32) (σ : gS), fX11_findNeeded_247 n v4 σ = some (r, σ') → sm σ σ' x y := by
  intro n
  induction n with
  | zero => intro v4 σ h; exact absurd (show none = some (r, σ') from h) (by intro q; cases q)
  | succ n ih =>
  intro v4 σ h
  unfold fX11_findNeeded_247 at h
  have f := sm_r σ x y
  rcases ite_or h with ⟨_, h⟩ | ⟨_, h⟩
  · obtain ⟨-, rfl⟩ := so_inj h
    exact f
  · exact sm_t f (wX11_findNeeded_259 (fun v4 σ h => ih v4 σ h) nh_168_52 nh_168_53 nh_168_57 nh_198 nh_199 nh_200 nh_201 nh_202 nh_203 nh_204 nh_205 2000 v4 0 σ h)
set_option maxRecDepth 10000 in
theorem wX11_findNeeded_108 {x y : Nat} {r : Unit} {σ' : gS} (nh_168_52 : ¬ (x = 168 ∧ y = 52)) (nh_168_53 : ¬ (x = 168 ∧ y = 53)) (nh_168_57 : ¬ (x = 168 ∧ y = 57)) (nh_198 : ¬ x = 198) (nh_199 : ¬ x = 199) (nh_200 : ¬ x = 200) (nh_201 : ¬ x = 201) (nh_202 : ¬ x = 202) (nh_203 : ¬ x = 203) (nh_204 : ¬ x = 204) (nh_205 : ¬ x = 205) : ∀ (n : Nat) (v3 : Int32) (v4 : Int32) (σ : gS), fX11_findNeeded_108 n v3 v4 σ = some (r, σ') → sm σ σ' x y := by
  intro n
  induction n with
  | zero => intro v3 v4 σ h; exact absurd (show none = some (r, σ') from h) (by intro q; cases q)
  | succ n ih =>
  intro v3 v4 σ h
  unfold fX11_findNeeded_108 at h
  have f := sm_r σ x y
  rcases ite_or h with ⟨_, h⟩ | ⟨_, h⟩
  · exact sm_t f (wX11_findNeeded_247 nh_168_52 nh_168_53 nh_168_57 nh_198 nh_199 nh_200 nh_201 nh_202 nh_203 nh_204 nh_205 2000 0 σ h)
  · rcases ite_or h with ⟨_, h⟩ | ⟨_, h⟩
    · exact sm_t f (wX11_findNeeded_169 (fun v3 v4 σ h => ih v3 v4 σ h) nh_168_52 nh_168_53 nh_168_57 nh_198 nh_199 nh_200 nh_201 nh_202 nh_203 nh_204 nh_205 h)
    · obtain ⟨x3, ex3, h⟩ := bnd_nm h
      obtain ⟨g4, h⟩ := gg_some h
      obtain ⟨g5, h⟩ := gg_some h
      obtain ⟨σ6, eσ6, h⟩ := bnd_nm h
      have f := sm_I f (fun q => nh_198 q.1) eσ6
      obtain ⟨x7, ex7, h⟩ := bnd_nm h
      obtain ⟨g8, h⟩ := gg_some h
      obtain ⟨g9, h⟩ := gg_some h
      obtain ⟨σ10, eσ10, h⟩ := bnd_nm h
      have f := sm_I f (fun q => nh_199 q.1) eσ10
      obtain ⟨g11, h⟩ := gg_some h
      obtain ⟨σ12, eσ12, h⟩ := bnd_nm h
      have f := sm_I f (fun q => nh_200 q.1) eσ12
      exact sm_t f (wX11_findNeeded_169 (fun v3 v4 σ h => ih v3 v4 σ h) nh_168_52 nh_168_53 nh_168_57 nh_198 nh_199 nh_200 nh_201 nh_202 nh_203 nh_204 nh_205 h)
set_option maxRecDepth 10000 in
theorem wX11_findNeeded_11 {x y : Nat} {r : Unit} {σ' : gS} (nh_168_52 : ¬ (x = 168 ∧ y = 52)) (nh_168_53 : ¬ (x = 168 ∧ y = 53)) (nh_168_57 : ¬ (x = 168 ∧ y = 57)) (nh_198 : ¬ x = 198) (nh_199 : ¬ x = 199) (nh_200 : ¬ x = 200) (nh_201 : ¬ x = 201) (nh_202 : ¬ x = 202) (nh_203 : ¬ x = 203) (nh_204 : ¬ x = 204) (nh_205 : ¬ x = 205) : ∀ (n : Nat) (v1 : Int32) (v2 : Int32) (v3 : Int32) (σ : gS), fX11_findNeeded_11 n v1 v2 v3 σ = some (r, σ') → sm σ σ' x y := by
  intro n
  induction n with
  | zero => intro v1 v2 v3 σ h; exact absurd (show none = some (r, σ') from h) (by intro q; cases q)
  | succ n ih =>
  intro v1 v2 v3 σ h
  unfold fX11_findNeeded_11 at h
  have f := sm_r σ x y
  rcases ite_or h with ⟨_, h⟩ | ⟨_, h⟩
  · obtain ⟨σ2, eσ2, h⟩ := bnd_nm h
    have f := sm_I f nh_168_52 eσ2
    obtain ⟨x3, ex3, h⟩ := bnd_nm h
    obtain ⟨σ4, eσ4, h⟩ := bnd_nm h
    have f := sm_I f nh_168_57 eσ4
    obtain ⟨σ5, eσ5, h⟩ := bnd_nm h
    have f := sm_I f nh_168_53 eσ5
    exact sm_t f (wX11_findNeeded_108 nh_168_52 nh_168_53 nh_168_57 nh_198 nh_199 nh_200 nh_201 nh_202 nh_203 nh_204 nh_205 2000 x3 0 σ5 h)
  · obtain ⟨g6, h⟩ := gg_some h
    obtain ⟨σ7, eσ7, h⟩ := bnd_nm h
    have f := sm_I f (fun q => nh_201 q.1) eσ7
    obtain ⟨g8, h⟩ := gg_some h
    rcases ite_or h with ⟨_, h⟩ | ⟨_, h⟩
    · exact sm_t f (wX11_findNeeded_71 (fun v1 v2 v3 σ h => ih v1 v2 v3 σ h) nh_168_52 nh_168_53 nh_168_57 nh_198 nh_199 nh_200 nh_201 nh_202 nh_203 nh_204 nh_205 h)
    · rcases ite_or h with ⟨_, h⟩ | ⟨_, h⟩
      · rcases ite_or h with ⟨_, h⟩ | ⟨_, h⟩
        · obtain ⟨_, σ12, y13, h⟩ := bd_some h
          have f := sm_t f (wX11_addItem nh_168_53 nh_198 nh_199 nh_200 y13)
          obtain ⟨_, σ14, y15, h⟩ := bd_some h
          have f := sm_t f (wX11_addItem nh_168_53 nh_198 nh_199 nh_200 y15)
          exact sm_t f (wX11_findNeeded_71 (fun v1 v2 v3 σ h => ih v1 v2 v3 σ h) nh_168_52 nh_168_53 nh_168_57 nh_198 nh_199 nh_200 nh_201 nh_202 nh_203 nh_204 nh_205 h)
        · obtain ⟨_, σ16, y17, h⟩ := bd_some h
          have f := sm_t f (wX11_addItem nh_168_53 nh_198 nh_199 nh_200 y17)
          exact sm_t f (wX11_findNeeded_71 (fun v1 v2 v3 σ h => ih v1 v2 v3 σ h) nh_168_52 nh_168_53 nh_168_57 nh_198 nh_199 nh_200 nh_201 nh_202 nh_203 nh_204 nh_205 h)
      · exact sm_t f (wX11_findNeeded_71 (fun v1 v2 v3 σ h => ih v1 v2 v3 σ h) nh_168_52 nh_168_53 nh_168_57 nh_198 nh_199 nh_200 nh_201 nh_202 nh_203 nh_204 nh_205 h)
set_option maxRecDepth 10000 in
theorem wX11_findNeeded {x y : Nat} {r : Unit} {σ' : gS} {σ : gS} (nh_168_52 : ¬ (x = 168 ∧ y = 52)) (nh_168_53 : ¬ (x = 168 ∧ y = 53)) (nh_168_57 : ¬ (x = 168 ∧ y = 57)) (nh_198 : ¬ x = 198) (nh_199 : ¬ x = 199) (nh_200 : ¬ x = 200) (nh_201 : ¬ x = 201) (nh_202 : ¬ x = 202) (nh_203 : ¬ x = 203) (nh_204 : ¬ x = 204) (nh_205 : ¬ x = 205) (h : fX11_findNeeded σ = some (r, σ')) : sm σ σ' x y := by
  unfold fX11_findNeeded at h
  have f := sm_r σ x y
  obtain ⟨σ1, eσ1, h⟩ := bnd_nm h
  have f := sm_I f nh_168_53 eσ1
  exact sm_t f (wX11_findNeeded_11 nh_168_52 nh_168_53 nh_168_57 nh_198 nh_199 nh_200 nh_201 nh_202 nh_203 nh_204 nh_205 2000 (-1) (-1) 0 σ1 h)
set_option maxRecDepth 10000 in
theorem wX11_hasTwo_99 {x y : Nat} {p1 : Int32} {k4 : Int32 → Int32 → gS → Option (Int32 × gS)} {r : Int32} {σ' : gS} {v2 : Int32} {v3 : Int32} {σ : gS} (hk4 : ∀ (v2 : Int32) (v3 : Int32) (σ : gS), k4 v2 v3 σ = some (r, σ') → sm σ σ' x y) (nh_168_76 : ¬ (x = 168 ∧ y = 76)) (nh_168_77 : ¬ (x = 168 ∧ y = 77)) (h : fX11_hasTwo_99 p1 k4 v2 v3 σ = some (r, σ')) : sm σ σ' x y := by
  unfold fX11_hasTwo_99 at h
  have f := sm_r σ x y
  obtain ⟨x1, ex1, h⟩ := bnd_nm h
  exact sm_t f (hk4 v2 x1 σ h)
set_option maxRecDepth 10000 in
theorem wX11_hasTwo_87 {x y : Nat} {p1 : Int32} {k4 : Int32 → Int32 → gS → Option (Int32 × gS)} {r : Int32} {σ' : gS} {v2 : Int32} {v3 : Int32} {v4 : Int32} {s1 : Int32} {σ : gS} (hk4 : ∀ (v2 : Int32) (v3 : Int32) (σ : gS), k4 v2 v3 σ = some (r, σ') → sm σ σ' x y) (nh_168_76 : ¬ (x = 168 ∧ y = 76)) (nh_168_77 : ¬ (x = 168 ∧ y = 77)) (h : fX11_hasTwo_87 p1 k4 v2 v3 v4 s1 σ = some (r, σ')) : sm σ σ' x y := by
  unfold fX11_hasTwo_87 at h
  have f := sm_r σ x y
  obtain ⟨σ1, eσ1, h⟩ := bnd_nm h
  have f := sm_I f nh_168_76 eσ1
  obtain ⟨σ2, eσ2, h⟩ := bnd_nm h
  have f := sm_I f nh_168_77 eσ2
  obtain ⟨x3, ex3, h⟩ := bnd_nm h
  exact sm_t f (wX11_hasTwo_99 hk4 nh_168_76 nh_168_77 h)
set_option maxRecDepth 10000 in
theorem wX11_hasTwo_56 {x y : Nat} {p1 : Int32} {k4 : Int32 → Int32 → gS → Option (Int32 × gS)} {r : Int32} {σ' : gS} {v2 : Int32} {v3 : Int32} {s0 : Int32} {σ : gS} (hk4 : ∀ (v2 : Int32) (v3 : Int32) (σ : gS), k4 v2 v3 σ = some (r, σ') → sm σ σ' x y) (nh_168_76 : ¬ (x = 168 ∧ y = 76)) (nh_168_77 : ¬ (x = 168 ∧ y = 77)) (h : fX11_hasTwo_56 p1 k4 v2 v3 s0 σ = some (r, σ')) : sm σ σ' x y := by
  unfold fX11_hasTwo_56 at h
  have f := sm_r σ x y
  rcases ite_or h with ⟨_, h⟩ | ⟨_, h⟩
  · exact sm_t f (wX11_hasTwo_99 hk4 nh_168_76 nh_168_77 h)
  · obtain ⟨g2, h⟩ := gg_some h
    rcases ite_or h with ⟨_, h⟩ | ⟨_, h⟩
    · exact sm_t f (wX11_hasTwo_99 hk4 nh_168_76 nh_168_77 h)
    · rcases ite_or h with ⟨_, h⟩ | ⟨_, h⟩
      · exact sm_t f (wX11_hasTwo_87 hk4 nh_168_76 nh_168_77 h)
      · exact sm_t f (wX11_hasTwo_87 hk4 nh_168_76 nh_168_77 h)
set_option maxRecDepth 10000 in
theorem wX11_hasTwo_115 {x y : Nat} {p1 : Int32} {r : Int32} {σ' : gS} {s0 : Int32} {σ : gS} (nh_168_76 : ¬ (x = 168 ∧ y = 76)) (nh_168_77 : ¬ (x = 168 ∧ y = 77)) (h : fX11_hasTwo_115 p1 s0 σ = some (r, σ')) : sm σ σ' x y := by
  unfold fX11_hasTwo_115 at h
  have f := sm_r σ x y
  obtain ⟨g1, h⟩ := gg_some h
  obtain ⟨-, rfl⟩ := so_inj h
  exact f
set_option maxRecDepth 10000 in
theorem wX11_hasTwo_105 {x y : Nat} {p1 : Int32} {r : Int32} {σ' : gS} {v2 : Int32} {σ : gS} (nh_168_76 : ¬ (x = 168 ∧ y = 76)) (nh_168_77 : ¬ (x = 168 ∧ y = 77)) (h : fX11_hasTwo_105 p1 v2 σ = some (r, σ')) : sm σ σ' x y := by
  unfold fX11_hasTwo_105 at h
  have f := sm_r σ x y
  rcases ite_or h with ⟨_, h⟩ | ⟨_, h⟩
  · exact sm_t f (wX11_hasTwo_115 nh_168_76 nh_168_77 h)
  · exact sm_t f (wX11_hasTwo_115 nh_168_76 nh_168_77 h)
set_option maxRecDepth 10000 in
theorem wX11_hasTwo_4 {x y : Nat} {p1 : Int32} {r : Int32} {σ' : gS} (nh_168_76 : ¬ (x = 168 ∧ y = 76)) (nh_168_77 : ¬ (x = 168 ∧ y = 77)) : ∀ (n : Nat) (v2 : Int32) (v3 : Int32) (σ : gS), fX11_hasTwo_4 p1 n v2 v3 σ = some (r, σ') → sm σ σ' x y := by
  intro n
  induction n with
  | zero => intro v2 v3 σ h; exact absurd (show none = some (r, σ') from h) (by intro q; cases q)
  | succ n ih =>
  intro v2 v3 σ h
  unfold fX11_hasTwo_4 at h
  have f := sm_r σ x y
  rcases ite_or h with ⟨_, h⟩ | ⟨_, h⟩
  · exact sm_t f (wX11_hasTwo_105 nh_168_76 nh_168_77 h)
  · rcases ite_or h with ⟨_, h⟩ | ⟨_, h⟩
    · exact sm_t f (wX11_hasTwo_105 nh_168_76 nh_168_77 h)
    · obtain ⟨g3, h⟩ := gg_some h
      rcases ite_or h with ⟨_, h⟩ | ⟨_, h⟩
      · obtain ⟨g8, h⟩ := gg_some h
        exact sm_t f (wX11_hasTwo_56 (fun v2 v3 σ h => ih v2 v3 σ h) nh_168_76 nh_168_77 h)
      · obtain ⟨g5, h⟩ := gg_some h
        rcases ite_or h with ⟨_, h⟩ | ⟨_, h⟩
        · obtain ⟨g7, h⟩ := gg_some h
          exact sm_t f (wX11_hasTwo_56 (fun v2 v3 σ h => ih v2 v3 σ h) nh_168_76 nh_168_77 h)
        · exact sm_t f (wX11_hasTwo_56 (fun v2 v3 σ h => ih v2 v3 σ h) nh_168_76 nh_168_77 h)
set_option maxRecDepth 10000 in
theorem wX11_hasTwo {x y : Nat} {p1 : Int32} {r : Int32} {σ' : gS} {σ : gS} (nh_168_76 : ¬ (x = 168 ∧ y = 76)) (nh_168_77 : ¬ (x = 168 ∧ y = 77)) (h : fX11_hasTwo p1 σ = some (r, σ')) : sm σ σ' x y := by
  unfold fX11_hasTwo at h
  have f := sm_r σ x y
  exact sm_t f (wX11_hasTwo_4 nh_168_76 nh_168_77 2000 0 0 σ h)
set_option maxRecDepth 10000 in
theorem wX11_findOrder_42 {x y : Nat} {k7 : Int32 → gS → Option (Unit × gS)} {r : Unit} {σ' : gS} {v1 : Int32} {s1 : Int32} {s2 : Int32} {σ : gS} (hk7 : ∀ (v1 : Int32) (σ : gS), k7 v1 σ = some (r, σ') → sm σ σ' x y) (nh_168_69 : ¬ (x = 168 ∧ y = 69)) (nh_168_76 : ¬ (x = 168 ∧ y = 76)) (nh_168_77 : ¬ (x = 168 ∧ y = 77)) (nh_210 : ¬ x = 210) (nh_211 : ¬ x = 211) (nh_212 : ¬ x = 212) (nh_213 : ¬ x = 213) (nh_214 : ¬ x = 214) (nh_215 : ¬ x = 215) (h : fX11_findOrder_42 k7 v1 s1 s2 σ = some (r, σ')) : sm σ σ' x y := by
  unfold fX11_findOrder_42 at h
  have f := sm_r σ x y
  obtain ⟨g1, h⟩ := gg_some h
  obtain ⟨σ2, eσ2, h⟩ := bnd_nm h
  have f := sm_I f (fun q => nh_214 q.1) eσ2
  obtain ⟨g3, h⟩ := gg_some h
  obtain ⟨σ4, eσ4, h⟩ := bnd_nm h
  have f := sm_I f (fun q => nh_213 q.1) eσ4
  obtain ⟨x5, ex5, h⟩ := bnd_nm h
  exact sm_t f (hk7 x5 σ4 h)
set_option maxRecDepth 10000 in
theorem wX11_findOrder_37 {x y : Nat} {k7 : Int32 → gS → Option (Unit × gS)} {r : Unit} {σ' : gS} {v1 : Int32} {s1 : Int32} {σ : gS} (hk7 : ∀ (v1 : Int32) (σ : gS), k7 v1 σ = some (r, σ') → sm σ σ' x y) (nh_168_69 : ¬ (x = 168 ∧ y = 69)) (nh_168_76 : ¬ (x = 168 ∧ y = 76)) (nh_168_77 : ¬ (x = 168 ∧ y = 77)) (nh_210 : ¬ x = 210) (nh_211 : ¬ x = 211) (nh_212 : ¬ x = 212) (nh_213 : ¬ x = 213) (nh_214 : ¬ x = 214) (nh_215 : ¬ x = 215) (h : fX11_findOrder_37 k7 v1 s1 σ = some (r, σ')) : sm σ σ' x y := by
  unfold fX11_findOrder_37 at h
  have f := sm_r σ x y
  exact sm_t f (wX11_findOrder_42 hk7 nh_168_69 nh_168_76 nh_168_77 nh_210 nh_211 nh_212 nh_213 nh_214 nh_215 h)
set_option maxRecDepth 10000 in
theorem wX11_findOrder_269 {x y : Nat} {k69 : Int32 → gS → Option (Unit × gS)} {k77 : Int32 → Int32 → gS → Option (Unit × gS)} {r : Unit} {σ' : gS} {v1 : Int32} {v2 : Int32} {σ : gS} (hk69 : ∀ (v1 : Int32) (σ : gS), k69 v1 σ = some (r, σ') → sm σ σ' x y) (hk77 : ∀ (v1 : Int32) (v2 : Int32) (σ : gS), k77 v1 v2 σ = some (r, σ') → sm σ σ' x y) (nh_168_69 : ¬ (x = 168 ∧ y = 69)) (nh_168_76 : ¬ (x = 168 ∧ y = 76)) (nh_168_77 : ¬ (x = 168 ∧ y = 77)) (nh_210 : ¬ x = 210) (nh_211 : ¬ x = 211) (nh_212 : ¬ x = 212) (nh_213 : ¬ x = 213) (nh_214 : ¬ x = 214) (nh_215 : ¬ x = 215) (h : fX11_findOrder_269 k69 k77 v1 v2 σ = some (r, σ')) : sm σ σ' x y := by
  unfold fX11_findOrder_269 at h
  have f := sm_r σ x y
  obtain ⟨x1, ex1, h⟩ := bnd_nm h
  exact sm_t f (hk77 v1 x1 σ h)
set_option maxRecDepth 10000 in
theorem wX11_findOrder_268 {x y : Nat} {k69 : Int32 → gS → Option (Unit × gS)} {k77 : Int32 → Int32 → gS → Option (Unit × gS)} {r : Unit} {σ' : gS} {v1 : Int32} {v2 : Int32} {s1 : Int32} {s2 : Int32} {σ : gS} (hk69 : ∀ (v1 : Int32) (σ : gS), k69 v1 σ = some (r, σ') → sm σ σ' x y) (hk77 : ∀ (v1 : Int32) (v2 : Int32) (σ : gS), k77 v1 v2 σ = some (r, σ') → sm σ σ' x y) (nh_168_69 : ¬ (x = 168 ∧ y = 69)) (nh_168_76 : ¬ (x = 168 ∧ y = 76)) (nh_168_77 : ¬ (x = 168 ∧ y = 77)) (nh_210 : ¬ x = 210) (nh_211 : ¬ x = 211) (nh_212 : ¬ x = 212) (nh_213 : ¬ x = 213) (nh_214 : ¬ x = 214) (nh_215 : ¬ x = 215) (h : fX11_findOrder_268 k69 k77 v1 v2 s1 s2 σ = some (r, σ')) : sm σ σ' x y := by
  unfold fX11_findOrder_268 at h
  have f := sm_r σ x y
  obtain ⟨g1, h⟩ := gg_some h
  obtain ⟨σ2, eσ2, h⟩ := bnd_nm h
  have f := sm_I f (fun q => nh_215 q.1) eσ2
  exact sm_t f (wX11_findOrder_269 hk69 hk77 nh_168_69 nh_168_76 nh_168_77 nh_210 nh_211 nh_212 nh_213 nh_214 nh_215 h)
set_option maxRecDepth 10000 in
theorem wX11_findOrder_111 {x y : Nat} {k69 : Int32 → gS → Option (Unit × gS)} {k77 : Int32 → Int32 → gS → Option (Unit × gS)} {r : Unit} {σ' : gS} {v2 : Int32} {s0 : Int32} {σ : gS} (hk69 : ∀ (v1 : Int32) (σ : gS), k69 v1 σ = some (r, σ') → sm σ σ' x y) (hk77 : ∀ (v1 : Int32) (v2 : Int32) (σ : gS), k77 v1 v2 σ = some (r, σ') → sm σ σ' x y) (nh_168_69 : ¬ (x = 168 ∧ y = 69)) (nh_168_76 : ¬ (x = 168 ∧ y = 76)) (nh_168_77 : ¬ (x = 168 ∧ y = 77)) (nh_210 : ¬ x = 210) (nh_211 : ¬ x = 211) (nh_212 : ¬ x = 212) (nh_213 : ¬ x = 213) (nh_214 : ¬ x = 214) (nh_215 : ¬ x = 215) (h : fX11_findOrder_111 k69 k77 v2 s0 σ = some (r, σ')) : sm σ σ' x y := by
  unfold fX11_findOrder_111 at h
  have f := sm_r σ x y
  rcases ite_or h with ⟨_, h⟩ | ⟨_, h⟩
  · exact sm_t f (wX11_findOrder_269 hk69 hk77 nh_168_69 nh_168_76 nh_168_77 nh_210 nh_211 nh_212 nh_213 nh_214 nh_215 h)
  · obtain ⟨g2, h⟩ := gg_some h
    obtain ⟨σ3, eσ3, h⟩ := bnd_nm h
    have f := sm_I f (fun q => nh_214 q.1) eσ3
    obtain ⟨g4, h⟩ := gg_some h
    obtain ⟨σ5, eσ5, h⟩ := bnd_nm h
    have f := sm_I f (fun q => nh_213 q.1) eσ5
    obtain ⟨g6, h⟩ := gg_some h
    obtain ⟨σ7, eσ7, h⟩ := bnd_nm h
    have f := sm_I f (fun q => nh_210 q.1) eσ7
    obtain ⟨g8, h⟩ := gg_some h
    obtain ⟨σ9, eσ9, h⟩ := bnd_nm h
    have f := sm_I f (fun q => nh_211 q.1) eσ9
    obtain ⟨g10, h⟩ := gg_some h
    obtain ⟨σ11, eσ11, h⟩ := bnd_nm h
    have f := sm_I f (fun q => nh_212 q.1) eσ11
    obtain ⟨σ12, eσ12, h⟩ := bnd_nm h
    have f := sm_I f nh_168_69 eσ12
    obtain ⟨g13, h⟩ := gg_some h
    obtain ⟨g14, h⟩ := gg_some h
    obtain ⟨x15, ex15, h⟩ := bnd_nm h
    obtain ⟨g16, h⟩ := gg_some h
    obtain ⟨g17, h⟩ := gg_some h
    obtain ⟨x18, ex18, h⟩ := bnd_nm h
    obtain ⟨g19, h⟩ := gg_some h
    obtain ⟨g20, h⟩ := gg_some h
    obtain ⟨g21, h⟩ := gg_some h
    obtain ⟨g22, h⟩ := gg_some h
    rcases ite_or h with ⟨_, h⟩ | ⟨_, h⟩
    · exact sm_t f (wX11_findOrder_268 hk69 hk77 nh_168_69 nh_168_76 nh_168_77 nh_210 nh_211 nh_212 nh_213 nh_214 nh_215 h)
    · exact sm_t f (wX11_findOrder_268 hk69 hk77 nh_168_69 nh_168_76 nh_168_77 nh_210 nh_211 nh_212 nh_213 nh_214 nh_215 h)
set_option maxRecDepth 10000 in
theorem wX11_findOrder_110 {x y : Nat} {k69 : Int32 → gS → Option (Unit × gS)} {k77 : Int32 → Int32 → gS → Option (Unit × gS)} {r : Unit} {σ' : gS} {v2 : Int32} {σ : gS} (hk69 : ∀ (v1 : Int32) (σ : gS), k69 v1 σ = some (r, σ') → sm σ σ' x y) (hk77 : ∀ (v1 : Int32) (v2 : Int32) (σ : gS), k77 v1 v2 σ = some (r, σ') → sm σ σ' x y) (nh_168_69 : ¬ (x = 168 ∧ y = 69)) (nh_168_76 : ¬ (x = 168 ∧ y = 76)) (nh_168_77 : ¬ (x = 168 ∧ y = 77)) (nh_210 : ¬ x = 210) (nh_211 : ¬ x = 211) (nh_212 : ¬ x = 212) (nh_213 : ¬ x = 213) (nh_214 : ¬ x = 214) (nh_215 : ¬ x = 215) (h : fX11_findOrder_110 k69 k77 v2 σ = some (r, σ')) : sm σ σ' x y := by
  unfold fX11_findOrder_110 at h
  have f := sm_r σ x y
  exact sm_t f (wX11_findOrder_111 hk69 hk77 nh_168_69 nh_168_76 nh_168_77 nh_210 nh_211 nh_212 nh_213 nh_214 nh_215 h)
set_option maxRecDepth 10000 in
theorem wX11_findOrder_275 {x y : Nat} {k69 : Int32 → gS → Option (Unit × gS)} {r : Unit} {σ' : gS} {v1 : Int32} {σ : gS} (hk69 : ∀ (v1 : Int32) (σ : gS), k69 v1 σ = some (r, σ') → sm σ σ' x y) (nh_168_69 : ¬ (x = 168 ∧ y = 69)) (nh_168_76 : ¬ (x = 168 ∧ y = 76)) (nh_168_77 : ¬ (x = 168 ∧ y = 77)) (nh_210 : ¬ x = 210) (nh_211 : ¬ x = 211) (nh_212 : ¬ x = 212) (nh_213 : ¬ x = 213) (nh_214 : ¬ x = 214) (nh_215 : ¬ x = 215) (h : fX11_findOrder_275 k69 v1 σ = some (r, σ')) : sm σ σ' x y := by
  unfold fX11_findOrder_275 at h
  have f := sm_r σ x y
  exact sm_t f (hk69 v1 σ h)
set_option maxRecDepth 10000 in
theorem wX11_findOrder_77 {x y : Nat} {k69 : Int32 → gS → Option (Unit × gS)} {r : Unit} {σ' : gS} (hk69 : ∀ (v1 : Int32) (σ : gS), k69 v1 σ = some (r, σ') → sm σ σ' x y) (nh_168_69 : ¬ (x = 168 ∧ y = 69)) (nh_168_76 : ¬ (x = 168 ∧ y = 76)) (nh_168_77 : ¬ (x = 168 ∧ y = 77)) (nh_210 : ¬ x = 210) (nh_211 : ¬ x = 211) (nh_212 : ¬ x = 212) (nh_213 : ¬ x = 213) (nh_214 : ¬ x = 214) (nh_215 : ¬ x = 215) : ∀ (n : Nat) (v1 : Int32) (v2 : Int32) (σ : gS), fX11_findOrder_77 k69 n v1 v2 σ = some (r, σ') → sm σ σ' x y := by
  intro n
  induction n with
  | zero => intro v1 v2 σ h; exact absurd (show none = some (r, σ') from h) (by intro q; cases q)
  | succ n ih =>
  intro v1 v2 σ h
  unfold fX11_findOrder_77 at h
  have f := sm_r σ x y
  rcases ite_or h with ⟨_, h⟩ | ⟨_, h⟩
  · exact sm_t f (wX11_findOrder_275 hk69 nh_168_69 nh_168_76 nh_168_77 nh_210 nh_211 nh_212 nh_213 nh_214 nh_215 h)
  · rcases ite_or h with ⟨_, h⟩ | ⟨_, h⟩
    · obtain ⟨g3, h⟩ := gg_some h
      rcases ite_or h with ⟨_, h⟩ | ⟨_, h⟩
      · obtain ⟨x5, σ6, y7, h⟩ := bd_some h
        have f := sm_t f (wX11_hasTwo nh_168_76 nh_168_77 y7)
        rcases ite_or h with ⟨_, h⟩ | ⟨_, h⟩
        · exact sm_t f (wX11_findOrder_110 hk69 (fun v1 v2 σ h => ih v1 v2 σ h) nh_168_69 nh_168_76 nh_168_77 nh_210 nh_211 nh_212 nh_213 nh_214 nh_215 h)
        · exact sm_t f (wX11_findOrder_111 hk69 (fun v1 v2 σ h => ih v1 v2 σ h) nh_168_69 nh_168_76 nh_168_77 nh_210 nh_211 nh_212 nh_213 nh_214 nh_215 h)
      · exact sm_t f (wX11_findOrder_110 hk69 (fun v1 v2 σ h => ih v1 v2 σ h) nh_168_69 nh_168_76 nh_168_77 nh_210 nh_211 nh_212 nh_213 nh_214 nh_215 h)
    · exact sm_t f (wX11_findOrder_275 hk69 nh_168_69 nh_168_76 nh_168_77 nh_210 nh_211 nh_212 nh_213 nh_214 nh_215 h)
set_option maxRecDepth 10000 in
theorem wX11_findOrder_69 {x y : Nat} {r : Unit} {σ' : gS} (nh_168_69 : ¬ (x = 168 ∧ y = 69)) (nh_168_76 : ¬ (x = 168 ∧ y = 76)) (nh_168_77 : ¬ (x = 168 ∧ y = 77)) (nh_210 : ¬ x = 210) (nh_211 : ¬ x = 211) (nh_212 : ¬ x = 212) (nh_213 : ¬ x = 213) (nh_214 : ¬ x = 214) (nh_215 : ¬ x = 215) : ∀ (n : Nat) (v1 : Int32) (σ : gS), fX11_findOrder_69 n v1 σ = some (r, σ') → sm σ σ' x y := by
  intro n
  induction n with
  | zero => intro v1 σ h; exact absurd (show none = some (r, σ') from h) (by intro q; cases q)
  | succ n ih =>
  intro v1 σ h
  unfold fX11_findOrder_69 at h
  have f := sm_r σ x y
  rcases ite_or h with ⟨_, h⟩ | ⟨_, h⟩
  · obtain ⟨-, rfl⟩ := so_inj h
    exact f
  · exact sm_t f (wX11_findOrder_77 (fun v1 σ h => ih v1 σ h) nh_168_69 nh_168_76 nh_168_77 nh_210 nh_211 nh_212 nh_213 nh_214 nh_215 2000 0 0 σ h)
set_option maxRecDepth 10000 in
theorem wX11_findOrder_68 {x y : Nat} {r : Unit} {σ' : gS} {s0 : Int32} {σ : gS} (nh_168_69 : ¬ (x = 168 ∧ y = 69)) (nh_168_76 : ¬ (x = 168 ∧ y = 76)) (nh_168_77 : ¬ (x = 168 ∧ y = 77)) (nh_210 : ¬ x = 210) (nh_211 : ¬ x = 211) (nh_212 : ¬ x = 212) (nh_213 : ¬ x = 213) (nh_214 : ¬ x = 214) (nh_215 : ¬ x = 215) (h : fX11_findOrder_68 s0 σ = some (r, σ')) : sm σ σ' x y := by
  unfold fX11_findOrder_68 at h
  have f := sm_r σ x y
  exact sm_t f (wX11_findOrder_69 nh_168_69 nh_168_76 nh_168_77 nh_210 nh_211 nh_212 nh_213 nh_214 nh_215 2000 s0 σ h)
set_option maxRecDepth 10000 in
theorem wX11_findOrder_7 {x y : Nat} {r : Unit} {σ' : gS} (nh_168_69 : ¬ (x = 168 ∧ y = 69)) (nh_168_76 : ¬ (x = 168 ∧ y = 76)) (nh_168_77 : ¬ (x = 168 ∧ y = 77)) (nh_210 : ¬ x = 210) (nh_211 : ¬ x = 211) (nh_212 : ¬ x = 212) (nh_213 : ¬ x = 213) (nh_214 : ¬ x = 214) (nh_215 : ¬ x = 215) : ∀ (n : Nat) (v1 : Int32) (σ : gS), fX11_findOrder_7 n v1 σ = some (r, σ') → sm σ σ' x y := by
  intro n
  induction n with
  | zero => intro v1 σ h; exact absurd (show none = some (r, σ') from h) (by intro q; cases q)
  | succ n ih =>
  intro v1 σ h
  unfold fX11_findOrder_7 at h
  have f := sm_r σ x y
  rcases ite_or h with ⟨_, h⟩ | ⟨_, h⟩
  · rcases ite_or h with ⟨_, h⟩ | ⟨_, h⟩
    · exact sm_t f (wX11_findOrder_68 nh_168_69 nh_168_76 nh_168_77 nh_210 nh_211 nh_212 nh_213 nh_214 nh_215 h)
    · exact sm_t f (wX11_findOrder_68 nh_168_69 nh_168_76 nh_168_77 nh_210 nh_211 nh_212 nh_213 nh_214 nh_215 h)
  · obtain ⟨g3, h⟩ := gg_some h
    rcases ite_or h with ⟨_, h⟩ | ⟨_, h⟩
    · rcases ite_or h with ⟨_, h⟩ | ⟨_, h⟩
      · exact sm_t f (wX11_findOrder_37 (fun v1 σ h => ih v1 σ h) nh_168_69 nh_168_76 nh_168_77 nh_210 nh_211 nh_212 nh_213 nh_214 nh_215 h)
      · exact sm_t f (wX11_findOrder_42 (fun v1 σ h => ih v1 σ h) nh_168_69 nh_168_76 nh_168_77 nh_210 nh_211 nh_212 nh_213 nh_214 nh_215 h)
    · exact sm_t f (wX11_findOrder_37 (fun v1 σ h => ih v1 σ h) nh_168_69 nh_168_76 nh_168_77 nh_210 nh_211 nh_212 nh_213 nh_214 nh_215 h)
set_option maxRecDepth 10000 in
theorem wX11_findOrder {x y : Nat} {r : Unit} {σ' : gS} {σ : gS} (nh_168_69 : ¬ (x = 168 ∧ y = 69)) (nh_168_76 : ¬ (x = 168 ∧ y = 76)) (nh_168_77 : ¬ (x = 168 ∧ y = 77)) (nh_210 : ¬ x = 210) (nh_211 : ¬ x = 211) (nh_212 : ¬ x = 212) (nh_213 : ¬ x = 213) (nh_214 : ¬ x = 214) (nh_215 : ¬ x = 215) (h : fX11_findOrder σ = some (r, σ')) : sm σ σ' x y := by
  unfold fX11_findOrder at h
  have f := sm_r σ x y
  obtain ⟨σ1, eσ1, h⟩ := bnd_nm h
  have f := sm_I f nh_168_69 eσ1
  exact sm_t f (wX11_findOrder_7 nh_168_69 nh_168_76 nh_168_77 nh_210 nh_211 nh_212 nh_213 nh_214 nh_215 2000 0 σ1 h)
set_option maxRecDepth 10000 in
theorem wX11_take_266 {x y : Nat} {r : Unit} {σ' : gS} (nh_168_0 : ¬ (x = 168 ∧ y = 0)) (nh_168_12 : ¬ (x = 168 ∧ y = 12)) (nh_168_16 : ¬ (x = 168 ∧ y = 16)) (nh_168_19 : ¬ (x = 168 ∧ y = 19)) (nh_168_20 : ¬ (x = 168 ∧ y = 20)) (nh_168_5 : ¬ (x = 168 ∧ y = 5)) (nh_168_52 : ¬ (x = 168 ∧ y = 52)) (nh_168_53 : ¬ (x = 168 ∧ y = 53)) (nh_168_57 : ¬ (x = 168 ∧ y = 57)) (nh_168_69 : ¬ (x = 168 ∧ y = 69)) (nh_168_76 : ¬ (x = 168 ∧ y = 76)) (nh_168_77 : ¬ (x = 168 ∧ y = 77)) (nh_168_81 : ¬ (x = 168 ∧ y = 81)) (nh_168_85 : ¬ (x = 168 ∧ y = 85)) (nh_168_9 : ¬ (x = 168 ∧ y = 9)) (nh_169 : ¬ x = 169) (nh_170 : ¬ x = 170) (nh_171 : ¬ x = 171) (nh_172 : ¬ x = 172) (nh_173 : ¬ x = 173) (nh_174 : ¬ x = 174) (nh_175 : ¬ x = 175) (nh_176 : ¬ x = 176) (nh_177 : ¬ x = 177) (nh_178 : ¬ x = 178) (nh_179 : ¬ x = 179) (nh_180 : ¬ x = 180) (nh_181 : ¬ x = 181) (nh_182 : ¬ x = 182) (nh_198 : ¬ x = 198) (nh_199 : ¬ x = 199) (nh_200 : ¬ x = 200) (nh_201 : ¬ x = 201) (nh_202 : ¬ x = 202) (nh_203 : ¬ x = 203) (nh_204 : ¬ x = 204) (nh_205 : ¬ x = 205) (nh_210 : ¬ x = 210) (nh_211 : ¬ x = 211) (nh_212 : ¬ x = 212) (nh_213 : ¬ x = 213) (nh_214 : ¬ x = 214) (nh_215 : ¬ x = 215) : ∀ (n : Nat) (v1 : Int32) (σ : gS), fX11_take_266 n v1 σ = some (r, σ') → sm σ σ' x y := by
  intro n
  induction n with
  | zero => intro v1 σ h; exact absurd (show none = some (r, σ') from h) (by intro q; cases q)
  | succ n ih =>
  intro v1 σ h
  unfold fX11_take_266 at h
  have f := sm_r σ x y
  rcases ite_or h with ⟨_, h⟩ | ⟨_, h⟩
  · obtain ⟨σ2, eσ2, h⟩ := bnd_nm h
    have f := sm_I f nh_168_81 eσ2
    obtain ⟨σ3, eσ3, h⟩ := bnd_nm h
    have f := sm_I f nh_168_85 eσ3
    obtain ⟨_, σ4, y5, h⟩ := bd_some h
    have f := sm_t f (wX11_findNeeded nh_168_52 nh_168_53 nh_168_57 nh_198 nh_199 nh_200 nh_201 nh_202 nh_203 nh_204 nh_205 y5)
    obtain ⟨_, σ6, y7, h⟩ := bd_some h
    have f := sm_t f (wX11_findOrder nh_168_69 nh_168_76 nh_168_77 nh_210 nh_211 nh_212 nh_213 nh_214 nh_215 y7)
    obtain ⟨-, rfl⟩ := so_inj h
    exact f
  · obtain ⟨g8, h⟩ := gg_some h
    obtain ⟨g9, h⟩ := gg_some h
    obtain ⟨σ10, eσ10, h⟩ := bnd_nm h
    have f := sm_I f (fun q => nh_181 q.1) eσ10
    obtain ⟨g11, h⟩ := gg_some h
    obtain ⟨g12, h⟩ := gg_some h
    obtain ⟨σ13, eσ13, h⟩ := bnd_nm h
    have f := sm_I f (fun q => nh_182 q.1) eσ13
    obtain ⟨x14, ex14, h⟩ := bnd_nm h
    exact sm_t f (ih x14 σ13 h)
set_option maxRecDepth 10000 in
theorem wX11_take_214 {x y : Nat} {r : Unit} {σ' : gS} (nh_168_0 : ¬ (x = 168 ∧ y = 0)) (nh_168_12 : ¬ (x = 168 ∧ y = 12)) (nh_168_16 : ¬ (x = 168 ∧ y = 16)) (nh_168_19 : ¬ (x = 168 ∧ y = 19)) (nh_168_20 : ¬ (x = 168 ∧ y = 20)) (nh_168_5 : ¬ (x = 168 ∧ y = 5)) (nh_168_52 : ¬ (x = 168 ∧ y = 52)) (nh_168_53 : ¬ (x = 168 ∧ y = 53)) (nh_168_57 : ¬ (x = 168 ∧ y = 57)) (nh_168_69 : ¬ (x = 168 ∧ y = 69)) (nh_168_76 : ¬ (x = 168 ∧ y = 76)) (nh_168_77 : ¬ (x = 168 ∧ y = 77)) (nh_168_81 : ¬ (x = 168 ∧ y = 81)) (nh_168_85 : ¬ (x = 168 ∧ y = 85)) (nh_168_9 : ¬ (x = 168 ∧ y = 9)) (nh_169 : ¬ x = 169) (nh_170 : ¬ x = 170) (nh_171 : ¬ x = 171) (nh_172 : ¬ x = 172) (nh_173 : ¬ x = 173) (nh_174 : ¬ x = 174) (nh_175 : ¬ x = 175) (nh_176 : ¬ x = 176) (nh_177 : ¬ x = 177) (nh_178 : ¬ x = 178) (nh_179 : ¬ x = 179) (nh_180 : ¬ x = 180) (nh_181 : ¬ x = 181) (nh_182 : ¬ x = 182) (nh_198 : ¬ x = 198) (nh_199 : ¬ x = 199) (nh_200 : ¬ x = 200) (nh_201 : ¬ x = 201) (nh_202 : ¬ x = 202) (nh_203 : ¬ x = 203) (nh_204 : ¬ x = 204) (nh_205 : ¬ x = 205) (nh_210 : ¬ x = 210) (nh_211 : ¬ x = 211) (nh_212 : ¬ x = 212) (nh_213 : ¬ x = 213) (nh_214 : ¬ x = 214) (nh_215 : ¬ x = 215) : ∀ (n : Nat) (v1 : Int32) (σ : gS), fX11_take_214 n v1 σ = some (r, σ') → sm σ σ' x y := by
  intro n
  induction n with
  | zero => intro v1 σ h; exact absurd (show none = some (r, σ') from h) (by intro q; cases q)
  | succ n ih =>
  intro v1 σ h
  unfold fX11_take_214 at h
  have f := sm_r σ x y
  rcases ite_or h with ⟨_, h⟩ | ⟨_, h⟩
  · exact sm_t f (wX11_take_266 nh_168_0 nh_168_12 nh_168_16 nh_168_19 nh_168_20 nh_168_5 nh_168_52 nh_168_53 nh_168_57 nh_168_69 nh_168_76 nh_168_77 nh_168_81 nh_168_85 nh_168_9 nh_169 nh_170 nh_171 nh_172 nh_173 nh_174 nh_175 nh_176 nh_177 nh_178 nh_179 nh_180 nh_181 nh_182 nh_198 nh_199 nh_200 nh_201 nh_202 nh_203 nh_204 nh_205 nh_210 nh_211 nh_212 nh_213 nh_214 nh_215 2000 0 σ h)
  · obtain ⟨g2, h⟩ := gg_some h
    obtain ⟨g3, h⟩ := gg_some h
    obtain ⟨σ4, eσ4, h⟩ := bnd_nm h
    have f := sm_I f (fun q => nh_178 q.1) eσ4
    obtain ⟨g5, h⟩ := gg_some h
    obtain ⟨g6, h⟩ := gg_some h
    obtain ⟨σ7, eσ7, h⟩ := bnd_nm h
    have f := sm_I f (fun q => nh_179 q.1) eσ7
    obtain ⟨g8, h⟩ := gg_some h
    obtain ⟨g9, h⟩ := gg_some h
    obtain ⟨σ10, eσ10, h⟩ := bnd_nm h
    have f := sm_I f (fun q => nh_180 q.1) eσ10
    obtain ⟨x11, ex11, h⟩ := bnd_nm h
    exact sm_t f (ih x11 σ10 h)
set_option maxRecDepth 10000 in
theorem wX11_take_174 {x y : Nat} {r : Unit} {σ' : gS} (nh_168_0 : ¬ (x = 168 ∧ y = 0)) (nh_168_12 : ¬ (x = 168 ∧ y = 12)) (nh_168_16 : ¬ (x = 168 ∧ y = 16)) (nh_168_19 : ¬ (x = 168 ∧ y = 19)) (nh_168_20 : ¬ (x = 168 ∧ y = 20)) (nh_168_5 : ¬ (x = 168 ∧ y = 5)) (nh_168_52 : ¬ (x = 168 ∧ y = 52)) (nh_168_53 : ¬ (x = 168 ∧ y = 53)) (nh_168_57 : ¬ (x = 168 ∧ y = 57)) (nh_168_69 : ¬ (x = 168 ∧ y = 69)) (nh_168_76 : ¬ (x = 168 ∧ y = 76)) (nh_168_77 : ¬ (x = 168 ∧ y = 77)) (nh_168_81 : ¬ (x = 168 ∧ y = 81)) (nh_168_85 : ¬ (x = 168 ∧ y = 85)) (nh_168_9 : ¬ (x = 168 ∧ y = 9)) (nh_169 : ¬ x = 169) (nh_170 : ¬ x = 170) (nh_171 : ¬ x = 171) (nh_172 : ¬ x = 172) (nh_173 : ¬ x = 173) (nh_174 : ¬ x = 174) (nh_175 : ¬ x = 175) (nh_176 : ¬ x = 176) (nh_177 : ¬ x = 177) (nh_178 : ¬ x = 178) (nh_179 : ¬ x = 179) (nh_180 : ¬ x = 180) (nh_181 : ¬ x = 181) (nh_182 : ¬ x = 182) (nh_198 : ¬ x = 198) (nh_199 : ¬ x = 199) (nh_200 : ¬ x = 200) (nh_201 : ¬ x = 201) (nh_202 : ¬ x = 202) (nh_203 : ¬ x = 203) (nh_204 : ¬ x = 204) (nh_205 : ¬ x = 205) (nh_210 : ¬ x = 210) (nh_211 : ¬ x = 211) (nh_212 : ¬ x = 212) (nh_213 : ¬ x = 213) (nh_214 : ¬ x = 214) (nh_215 : ¬ x = 215) : ∀ (n : Nat) (v1 : Int32) (σ : gS), fX11_take_174 n v1 σ = some (r, σ') → sm σ σ' x y := by
  intro n
  induction n with
  | zero => intro v1 σ h; exact absurd (show none = some (r, σ') from h) (by intro q; cases q)
  | succ n ih =>
  intro v1 σ h
  unfold fX11_take_174 at h
  have f := sm_r σ x y
  rcases ite_or h with ⟨_, h⟩ | ⟨_, h⟩
  · exact sm_t f (wX11_take_214 nh_168_0 nh_168_12 nh_168_16 nh_168_19 nh_168_20 nh_168_5 nh_168_52 nh_168_53 nh_168_57 nh_168_69 nh_168_76 nh_168_77 nh_168_81 nh_168_85 nh_168_9 nh_169 nh_170 nh_171 nh_172 nh_173 nh_174 nh_175 nh_176 nh_177 nh_178 nh_179 nh_180 nh_181 nh_182 nh_198 nh_199 nh_200 nh_201 nh_202 nh_203 nh_204 nh_205 nh_210 nh_211 nh_212 nh_213 nh_214 nh_215 2000 0 σ h)
  · obtain ⟨g2, h⟩ := gg_some h
    obtain ⟨g3, h⟩ := gg_some h
    obtain ⟨σ4, eσ4, h⟩ := bnd_nm h
    have f := sm_I f (fun q => nh_176 q.1) eσ4
    obtain ⟨g5, h⟩ := gg_some h
    obtain ⟨g6, h⟩ := gg_some h
    obtain ⟨σ7, eσ7, h⟩ := bnd_nm h
    have f := sm_I f (fun q => nh_177 q.1) eσ7
    obtain ⟨x8, ex8, h⟩ := bnd_nm h
    exact sm_t f (ih x8 σ7 h)
set_option maxRecDepth 10000 in
theorem wX11_take_122 {x y : Nat} {r : Unit} {σ' : gS} (nh_168_0 : ¬ (x = 168 ∧ y = 0)) (nh_168_12 : ¬ (x = 168 ∧ y = 12)) (nh_168_16 : ¬ (x = 168 ∧ y = 16)) (nh_168_19 : ¬ (x = 168 ∧ y = 19)) (nh_168_20 : ¬ (x = 168 ∧ y = 20)) (nh_168_5 : ¬ (x = 168 ∧ y = 5)) (nh_168_52 : ¬ (x = 168 ∧ y = 52)) (nh_168_53 : ¬ (x = 168 ∧ y = 53)) (nh_168_57 : ¬ (x = 168 ∧ y = 57)) (nh_168_69 : ¬ (x = 168 ∧ y = 69)) (nh_168_76 : ¬ (x = 168 ∧ y = 76)) (nh_168_77 : ¬ (x = 168 ∧ y = 77)) (nh_168_81 : ¬ (x = 168 ∧ y = 81)) (nh_168_85 : ¬ (x = 168 ∧ y = 85)) (nh_168_9 : ¬ (x = 168 ∧ y = 9)) (nh_169 : ¬ x = 169) (nh_170 : ¬ x = 170) (nh_171 : ¬ x = 171) (nh_172 : ¬ x = 172) (nh_173 : ¬ x = 173) (nh_174 : ¬ x = 174) (nh_175 : ¬ x = 175) (nh_176 : ¬ x = 176) (nh_177 : ¬ x = 177) (nh_178 : ¬ x = 178) (nh_179 : ¬ x = 179) (nh_180 : ¬ x = 180) (nh_181 : ¬ x = 181) (nh_182 : ¬ x = 182) (nh_198 : ¬ x = 198) (nh_199 : ¬ x = 199) (nh_200 : ¬ x = 200) (nh_201 : ¬ x = 201) (nh_202 : ¬ x = 202) (nh_203 : ¬ x = 203) (nh_204 : ¬ x = 204) (nh_205 : ¬ x = 205) (nh_210 : ¬ x = 210) (nh_211 : ¬ x = 211) (nh_212 : ¬ x = 212) (nh_213 : ¬ x = 213) (nh_214 : ¬ x = 214) (nh_215 : ¬ x = 215) : ∀ (n : Nat) (v1 : Int32) (σ : gS), fX11_take_122 n v1 σ = some (r, σ') → sm σ σ' x y := by
  intro n
  induction n with
  | zero => intro v1 σ h; exact absurd (show none = some (r, σ') from h) (by intro q; cases q)
  | succ n ih =>
  intro v1 σ h
  unfold fX11_take_122 at h
  have f := sm_r σ x y
  rcases ite_or h with ⟨_, h⟩ | ⟨_, h⟩
  · exact sm_t f (wX11_take_174 nh_168_0 nh_168_12 nh_168_16 nh_168_19 nh_168_20 nh_168_5 nh_168_52 nh_168_53 nh_168_57 nh_168_69 nh_168_76 nh_168_77 nh_168_81 nh_168_85 nh_168_9 nh_169 nh_170 nh_171 nh_172 nh_173 nh_174 nh_175 nh_176 nh_177 nh_178 nh_179 nh_180 nh_181 nh_182 nh_198 nh_199 nh_200 nh_201 nh_202 nh_203 nh_204 nh_205 nh_210 nh_211 nh_212 nh_213 nh_214 nh_215 2000 0 σ h)
  · obtain ⟨g2, h⟩ := gg_some h
    obtain ⟨g3, h⟩ := gg_some h
    obtain ⟨σ4, eσ4, h⟩ := bnd_nm h
    have f := sm_J f (fun q => nh_173 q.1) eσ4
    obtain ⟨g5, h⟩ := gg_some h
    obtain ⟨g6, h⟩ := gg_some h
    obtain ⟨σ7, eσ7, h⟩ := bnd_nm h
    have f := sm_I f (fun q => nh_174 q.1) eσ7
    obtain ⟨g8, h⟩ := gg_some h
    obtain ⟨g9, h⟩ := gg_some h
    obtain ⟨σ10, eσ10, h⟩ := bnd_nm h
    have f := sm_I f (fun q => nh_175 q.1) eσ10
    obtain ⟨x11, ex11, h⟩ := bnd_nm h
    exact sm_t f (ih x11 σ10 h)
set_option maxRecDepth 10000 in
theorem wX11_take_58 {x y : Nat} {r : Unit} {σ' : gS} (nh_168_0 : ¬ (x = 168 ∧ y = 0)) (nh_168_12 : ¬ (x = 168 ∧ y = 12)) (nh_168_16 : ¬ (x = 168 ∧ y = 16)) (nh_168_19 : ¬ (x = 168 ∧ y = 19)) (nh_168_20 : ¬ (x = 168 ∧ y = 20)) (nh_168_5 : ¬ (x = 168 ∧ y = 5)) (nh_168_52 : ¬ (x = 168 ∧ y = 52)) (nh_168_53 : ¬ (x = 168 ∧ y = 53)) (nh_168_57 : ¬ (x = 168 ∧ y = 57)) (nh_168_69 : ¬ (x = 168 ∧ y = 69)) (nh_168_76 : ¬ (x = 168 ∧ y = 76)) (nh_168_77 : ¬ (x = 168 ∧ y = 77)) (nh_168_81 : ¬ (x = 168 ∧ y = 81)) (nh_168_85 : ¬ (x = 168 ∧ y = 85)) (nh_168_9 : ¬ (x = 168 ∧ y = 9)) (nh_169 : ¬ x = 169) (nh_170 : ¬ x = 170) (nh_171 : ¬ x = 171) (nh_172 : ¬ x = 172) (nh_173 : ¬ x = 173) (nh_174 : ¬ x = 174) (nh_175 : ¬ x = 175) (nh_176 : ¬ x = 176) (nh_177 : ¬ x = 177) (nh_178 : ¬ x = 178) (nh_179 : ¬ x = 179) (nh_180 : ¬ x = 180) (nh_181 : ¬ x = 181) (nh_182 : ¬ x = 182) (nh_198 : ¬ x = 198) (nh_199 : ¬ x = 199) (nh_200 : ¬ x = 200) (nh_201 : ¬ x = 201) (nh_202 : ¬ x = 202) (nh_203 : ¬ x = 203) (nh_204 : ¬ x = 204) (nh_205 : ¬ x = 205) (nh_210 : ¬ x = 210) (nh_211 : ¬ x = 211) (nh_212 : ¬ x = 212) (nh_213 : ¬ x = 213) (nh_214 : ¬ x = 214) (nh_215 : ¬ x = 215) : ∀ (n : Nat) (v1 : Int32) (σ : gS), fX11_take_58 n v1 σ = some (r, σ') → sm σ σ' x y := by
  intro n
  induction n with
  | zero => intro v1 σ h; exact absurd (show none = some (r, σ') from h) (by intro q; cases q)
  | succ n ih =>
  intro v1 σ h
  unfold fX11_take_58 at h
  have f := sm_r σ x y
  rcases ite_or h with ⟨_, h⟩ | ⟨_, h⟩
  · exact sm_t f (wX11_take_122 nh_168_0 nh_168_12 nh_168_16 nh_168_19 nh_168_20 nh_168_5 nh_168_52 nh_168_53 nh_168_57 nh_168_69 nh_168_76 nh_168_77 nh_168_81 nh_168_85 nh_168_9 nh_169 nh_170 nh_171 nh_172 nh_173 nh_174 nh_175 nh_176 nh_177 nh_178 nh_179 nh_180 nh_181 nh_182 nh_198 nh_199 nh_200 nh_201 nh_202 nh_203 nh_204 nh_205 nh_210 nh_211 nh_212 nh_213 nh_214 nh_215 2000 0 σ h)
  · obtain ⟨g2, h⟩ := gg_some h
    obtain ⟨g3, h⟩ := gg_some h
    obtain ⟨σ4, eσ4, h⟩ := bnd_nm h
    have f := sm_J f (fun q => nh_169 q.1) eσ4
    obtain ⟨g5, h⟩ := gg_some h
    obtain ⟨g6, h⟩ := gg_some h
    obtain ⟨σ7, eσ7, h⟩ := bnd_nm h
    have f := sm_I f (fun q => nh_170 q.1) eσ7
    obtain ⟨g8, h⟩ := gg_some h
    obtain ⟨g9, h⟩ := gg_some h
    obtain ⟨σ10, eσ10, h⟩ := bnd_nm h
    have f := sm_I f (fun q => nh_171 q.1) eσ10
    obtain ⟨g11, h⟩ := gg_some h
    obtain ⟨g12, h⟩ := gg_some h
    obtain ⟨σ13, eσ13, h⟩ := bnd_nm h
    have f := sm_I f (fun q => nh_172 q.1) eσ13
    obtain ⟨x14, ex14, h⟩ := bnd_nm h
    exact sm_t f (ih x14 σ13 h)
set_option maxRecDepth 10000 in
theorem wX11_take {x y : Nat} {r : Unit} {σ' : gS} {σ : gS} (nh_168_0 : ¬ (x = 168 ∧ y = 0)) (nh_168_12 : ¬ (x = 168 ∧ y = 12)) (nh_168_16 : ¬ (x = 168 ∧ y = 16)) (nh_168_19 : ¬ (x = 168 ∧ y = 19)) (nh_168_20 : ¬ (x = 168 ∧ y = 20)) (nh_168_5 : ¬ (x = 168 ∧ y = 5)) (nh_168_52 : ¬ (x = 168 ∧ y = 52)) (nh_168_53 : ¬ (x = 168 ∧ y = 53)) (nh_168_57 : ¬ (x = 168 ∧ y = 57)) (nh_168_69 : ¬ (x = 168 ∧ y = 69)) (nh_168_76 : ¬ (x = 168 ∧ y = 76)) (nh_168_77 : ¬ (x = 168 ∧ y = 77)) (nh_168_81 : ¬ (x = 168 ∧ y = 81)) (nh_168_85 : ¬ (x = 168 ∧ y = 85)) (nh_168_9 : ¬ (x = 168 ∧ y = 9)) (nh_169 : ¬ x = 169) (nh_170 : ¬ x = 170) (nh_171 : ¬ x = 171) (nh_172 : ¬ x = 172) (nh_173 : ¬ x = 173) (nh_174 : ¬ x = 174) (nh_175 : ¬ x = 175) (nh_176 : ¬ x = 176) (nh_177 : ¬ x = 177) (nh_178 : ¬ x = 178) (nh_179 : ¬ x = 179) (nh_180 : ¬ x = 180) (nh_181 : ¬ x = 181) (nh_182 : ¬ x = 182) (nh_198 : ¬ x = 198) (nh_199 : ¬ x = 199) (nh_200 : ¬ x = 200) (nh_201 : ¬ x = 201) (nh_202 : ¬ x = 202) (nh_203 : ¬ x = 203) (nh_204 : ¬ x = 204) (nh_205 : ¬ x = 205) (nh_210 : ¬ x = 210) (nh_211 : ¬ x = 211) (nh_212 : ¬ x = 212) (nh_213 : ¬ x = 213) (nh_214 : ¬ x = 214) (nh_215 : ¬ x = 215) (h : fX11_take σ = some (r, σ')) : sm σ σ' x y := by
  unfold fX11_take at h
  have f := sm_r σ x y
  obtain ⟨σ1, eσ1, h⟩ := bnd_nm h
  have f := sm_I f nh_168_0 eσ1
  obtain ⟨σ2, eσ2, h⟩ := bnd_nm h
  have f := sm_I f nh_168_5 eσ2
  obtain ⟨σ3, eσ3, h⟩ := bnd_nm h
  have f := sm_I f nh_168_9 eσ3
  obtain ⟨σ4, eσ4, h⟩ := bnd_nm h
  have f := sm_I f nh_168_12 eσ4
  obtain ⟨σ5, eσ5, h⟩ := bnd_nm h
  have f := sm_I f nh_168_16 eσ5
  obtain ⟨σ6, eσ6, h⟩ := bnd_nm h
  have f := sm_I f nh_168_19 eσ6
  obtain ⟨σ7, eσ7, h⟩ := bnd_nm h
  have f := sm_I f nh_168_20 eσ7
  exact sm_t f (wX11_take_58 nh_168_0 nh_168_12 nh_168_16 nh_168_19 nh_168_20 nh_168_5 nh_168_52 nh_168_53 nh_168_57 nh_168_69 nh_168_76 nh_168_77 nh_168_81 nh_168_85 nh_168_9 nh_169 nh_170 nh_171 nh_172 nh_173 nh_174 nh_175 nh_176 nh_177 nh_178 nh_179 nh_180 nh_181 nh_182 nh_198 nh_199 nh_200 nh_201 nh_202 nh_203 nh_204 nh_205 nh_210 nh_211 nh_212 nh_213 nh_214 nh_215 2000 0 σ7 h)
set_option maxRecDepth 10000 in
theorem wX11_read_177 {x y : Nat} {k55 : gS → Option (Int32 × gS)} {r : Int32} {σ' : gS} {σ : gS} (hk55 : ∀ (σ : gS), k55 σ = some (r, σ') → sm σ σ' x y) (nh_168_0 : ¬ (x = 168 ∧ y = 0)) (nh_168_12 : ¬ (x = 168 ∧ y = 12)) (nh_168_16 : ¬ (x = 168 ∧ y = 16)) (nh_168_19 : ¬ (x = 168 ∧ y = 19)) (nh_168_20 : ¬ (x = 168 ∧ y = 20)) (nh_168_21 : ¬ (x = 168 ∧ y = 21)) (nh_168_26 : ¬ (x = 168 ∧ y = 26)) (nh_168_30 : ¬ (x = 168 ∧ y = 30)) (nh_168_33 : ¬ (x = 168 ∧ y = 33)) (nh_168_37 : ¬ (x = 168 ∧ y = 37)) (nh_168_40 : ¬ (x = 168 ∧ y = 40)) (nh_168_41 : ¬ (x = 168 ∧ y = 41)) (nh_168_43 : ¬ (x = 168 ∧ y = 43)) (nh_168_44 : ¬ (x = 168 ∧ y = 44)) (nh_168_45 : ¬ (x = 168 ∧ y = 45)) (nh_168_46 : ¬ (x = 168 ∧ y = 46)) (nh_168_47 : ¬ (x = 168 ∧ y = 47)) (nh_168_48 : ¬ (x = 168 ∧ y = 48)) (nh_168_49 : ¬ (x = 168 ∧ y = 49)) (nh_168_5 : ¬ (x = 168 ∧ y = 5)) (nh_168_50 : ¬ (x = 168 ∧ y = 50)) (nh_168_51 : ¬ (x = 168 ∧ y = 51)) (nh_168_52 : ¬ (x = 168 ∧ y = 52)) (nh_168_53 : ¬ (x = 168 ∧ y = 53)) (nh_168_57 : ¬ (x = 168 ∧ y = 57)) (nh_168_69 : ¬ (x = 168 ∧ y = 69)) (nh_168_76 : ¬ (x = 168 ∧ y = 76)) (nh_168_77 : ¬ (x = 168 ∧ y = 77)) (nh_168_81 : ¬ (x = 168 ∧ y = 81)) (nh_168_85 : ¬ (x = 168 ∧ y = 85)) (nh_168_9 : ¬ (x = 168 ∧ y = 9)) (nh_169 : ¬ x = 169) (nh_170 : ¬ x = 170) (nh_171 : ¬ x = 171) (nh_172 : ¬ x = 172) (nh_173 : ¬ x = 173) (nh_174 : ¬ x = 174) (nh_175 : ¬ x = 175) (nh_176 : ¬ x = 176) (nh_177 : ¬ x = 177) (nh_178 : ¬ x = 178) (nh_179 : ¬ x = 179) (nh_180 : ¬ x = 180) (nh_181 : ¬ x = 181) (nh_182 : ¬ x = 182) (nh_183 : ¬ x = 183) (nh_184 : ¬ x = 184) (nh_185 : ¬ x = 185) (nh_186 : ¬ x = 186) (nh_187 : ¬ x = 187) (nh_188 : ¬ x = 188) (nh_189 : ¬ x = 189) (nh_190 : ¬ x = 190) (nh_191 : ¬ x = 191) (nh_192 : ¬ x = 192) (nh_193 : ¬ x = 193) (nh_194 : ¬ x = 194) (nh_195 : ¬ x = 195) (nh_196 : ¬ x = 196) (nh_198 : ¬ x = 198) (nh_199 : ¬ x = 199) (nh_200 : ¬ x = 200) (nh_201 : ¬ x = 201) (nh_202 : ¬ x = 202) (nh_203 : ¬ x = 203) (nh_204 : ¬ x = 204) (nh_205 : ¬ x = 205) (nh_210 : ¬ x = 210) (nh_211 : ¬ x = 211) (nh_212 : ¬ x = 212) (nh_213 : ¬ x = 213) (nh_214 : ¬ x = 214) (nh_215 : ¬ x = 215) (h : fX11_read_177 k55 σ = some (r, σ')) : sm σ σ' x y := by
  unfold fX11_read_177 at h
  have f := sm_r σ x y
  exact sm_t f (hk55 σ h)
set_option maxRecDepth 10000 in
theorem wX11_read_124 {x y : Nat} {k55 : gS → Option (Int32 × gS)} {r : Int32} {σ' : gS} {s1 : Int32} {σ : gS} (hk55 : ∀ (σ : gS), k55 σ = some (r, σ') → sm σ σ' x y) (nh_168_0 : ¬ (x = 168 ∧ y = 0)) (nh_168_12 : ¬ (x = 168 ∧ y = 12)) (nh_168_16 : ¬ (x = 168 ∧ y = 16)) (nh_168_19 : ¬ (x = 168 ∧ y = 19)) (nh_168_20 : ¬ (x = 168 ∧ y = 20)) (nh_168_21 : ¬ (x = 168 ∧ y = 21)) (nh_168_26 : ¬ (x = 168 ∧ y = 26)) (nh_168_30 : ¬ (x = 168 ∧ y = 30)) (nh_168_33 : ¬ (x = 168 ∧ y = 33)) (nh_168_37 : ¬ (x = 168 ∧ y = 37)) (nh_168_40 : ¬ (x = 168 ∧ y = 40)) (nh_168_41 : ¬ (x = 168 ∧ y = 41)) (nh_168_43 : ¬ (x = 168 ∧ y = 43)) (nh_168_44 : ¬ (x = 168 ∧ y = 44)) (nh_168_45 : ¬ (x = 168 ∧ y = 45)) (nh_168_46 : ¬ (x = 168 ∧ y = 46)) (nh_168_47 : ¬ (x = 168 ∧ y = 47)) (nh_168_48 : ¬ (x = 168 ∧ y = 48)) (nh_168_49 : ¬ (x = 168 ∧ y = 49)) (nh_168_5 : ¬ (x = 168 ∧ y = 5)) (nh_168_50 : ¬ (x = 168 ∧ y = 50)) (nh_168_51 : ¬ (x = 168 ∧ y = 51)) (nh_168_52 : ¬ (x = 168 ∧ y = 52)) (nh_168_53 : ¬ (x = 168 ∧ y = 53)) (nh_168_57 : ¬ (x = 168 ∧ y = 57)) (nh_168_69 : ¬ (x = 168 ∧ y = 69)) (nh_168_76 : ¬ (x = 168 ∧ y = 76)) (nh_168_77 : ¬ (x = 168 ∧ y = 77)) (nh_168_81 : ¬ (x = 168 ∧ y = 81)) (nh_168_85 : ¬ (x = 168 ∧ y = 85)) (nh_168_9 : ¬ (x = 168 ∧ y = 9)) (nh_169 : ¬ x = 169) (nh_170 : ¬ x = 170) (nh_171 : ¬ x = 171) (nh_172 : ¬ x = 172) (nh_173 : ¬ x = 173) (nh_174 : ¬ x = 174) (nh_175 : ¬ x = 175) (nh_176 : ¬ x = 176) (nh_177 : ¬ x = 177) (nh_178 : ¬ x = 178) (nh_179 : ¬ x = 179) (nh_180 : ¬ x = 180) (nh_181 : ¬ x = 181) (nh_182 : ¬ x = 182) (nh_183 : ¬ x = 183) (nh_184 : ¬ x = 184) (nh_185 : ¬ x = 185) (nh_186 : ¬ x = 186) (nh_187 : ¬ x = 187) (nh_188 : ¬ x = 188) (nh_189 : ¬ x = 189) (nh_190 : ¬ x = 190) (nh_191 : ¬ x = 191) (nh_192 : ¬ x = 192) (nh_193 : ¬ x = 193) (nh_194 : ¬ x = 194) (nh_195 : ¬ x = 195) (nh_196 : ¬ x = 196) (nh_198 : ¬ x = 198) (nh_199 : ¬ x = 199) (nh_200 : ¬ x = 200) (nh_201 : ¬ x = 201) (nh_202 : ¬ x = 202) (nh_203 : ¬ x = 203) (nh_204 : ¬ x = 204) (nh_205 : ¬ x = 205) (nh_210 : ¬ x = 210) (nh_211 : ¬ x = 211) (nh_212 : ¬ x = 212) (nh_213 : ¬ x = 213) (nh_214 : ¬ x = 214) (nh_215 : ¬ x = 215) (h : fX11_read_124 k55 s1 σ = some (r, σ')) : sm σ σ' x y := by
  unfold fX11_read_124 at h
  have f := sm_r σ x y
  obtain ⟨_, σ1, y2, h⟩ := bd_some h
  have f := sm_t f (wX11_readJoint nh_168_21 nh_168_37 nh_168_44 nh_168_45 nh_168_46 nh_168_47 nh_168_48 nh_168_49 nh_168_50 nh_168_51 nh_183 nh_184 nh_185 nh_186 nh_195 nh_196 y2)
  exact sm_t f (wX11_read_177 hk55 nh_168_0 nh_168_12 nh_168_16 nh_168_19 nh_168_20 nh_168_21 nh_168_26 nh_168_30 nh_168_33 nh_168_37 nh_168_40 nh_168_41 nh_168_43 nh_168_44 nh_168_45 nh_168_46 nh_168_47 nh_168_48 nh_168_49 nh_168_5 nh_168_50 nh_168_51 nh_168_52 nh_168_53 nh_168_57 nh_168_69 nh_168_76 nh_168_77 nh_168_81 nh_168_85 nh_168_9 nh_169 nh_170 nh_171 nh_172 nh_173 nh_174 nh_175 nh_176 nh_177 nh_178 nh_179 nh_180 nh_181 nh_182 nh_183 nh_184 nh_185 nh_186 nh_187 nh_188 nh_189 nh_190 nh_191 nh_192 nh_193 nh_194 nh_195 nh_196 nh_198 nh_199 nh_200 nh_201 nh_202 nh_203 nh_204 nh_205 nh_210 nh_211 nh_212 nh_213 nh_214 nh_215 h)
set_option maxRecDepth 10000 in
theorem wX11_read_97 {x y : Nat} {k55 : gS → Option (Int32 × gS)} {r : Int32} {σ' : gS} {v1 : Int32} {σ : gS} (hk55 : ∀ (σ : gS), k55 σ = some (r, σ') → sm σ σ' x y) (nh_168_0 : ¬ (x = 168 ∧ y = 0)) (nh_168_12 : ¬ (x = 168 ∧ y = 12)) (nh_168_16 : ¬ (x = 168 ∧ y = 16)) (nh_168_19 : ¬ (x = 168 ∧ y = 19)) (nh_168_20 : ¬ (x = 168 ∧ y = 20)) (nh_168_21 : ¬ (x = 168 ∧ y = 21)) (nh_168_26 : ¬ (x = 168 ∧ y = 26)) (nh_168_30 : ¬ (x = 168 ∧ y = 30)) (nh_168_33 : ¬ (x = 168 ∧ y = 33)) (nh_168_37 : ¬ (x = 168 ∧ y = 37)) (nh_168_40 : ¬ (x = 168 ∧ y = 40)) (nh_168_41 : ¬ (x = 168 ∧ y = 41)) (nh_168_43 : ¬ (x = 168 ∧ y = 43)) (nh_168_44 : ¬ (x = 168 ∧ y = 44)) (nh_168_45 : ¬ (x = 168 ∧ y = 45)) (nh_168_46 : ¬ (x = 168 ∧ y = 46)) (nh_168_47 : ¬ (x = 168 ∧ y = 47)) (nh_168_48 : ¬ (x = 168 ∧ y = 48)) (nh_168_49 : ¬ (x = 168 ∧ y = 49)) (nh_168_5 : ¬ (x = 168 ∧ y = 5)) (nh_168_50 : ¬ (x = 168 ∧ y = 50)) (nh_168_51 : ¬ (x = 168 ∧ y = 51)) (nh_168_52 : ¬ (x = 168 ∧ y = 52)) (nh_168_53 : ¬ (x = 168 ∧ y = 53)) (nh_168_57 : ¬ (x = 168 ∧ y = 57)) (nh_168_69 : ¬ (x = 168 ∧ y = 69)) (nh_168_76 : ¬ (x = 168 ∧ y = 76)) (nh_168_77 : ¬ (x = 168 ∧ y = 77)) (nh_168_81 : ¬ (x = 168 ∧ y = 81)) (nh_168_85 : ¬ (x = 168 ∧ y = 85)) (nh_168_9 : ¬ (x = 168 ∧ y = 9)) (nh_169 : ¬ x = 169) (nh_170 : ¬ x = 170) (nh_171 : ¬ x = 171) (nh_172 : ¬ x = 172) (nh_173 : ¬ x = 173) (nh_174 : ¬ x = 174) (nh_175 : ¬ x = 175) (nh_176 : ¬ x = 176) (nh_177 : ¬ x = 177) (nh_178 : ¬ x = 178) (nh_179 : ¬ x = 179) (nh_180 : ¬ x = 180) (nh_181 : ¬ x = 181) (nh_182 : ¬ x = 182) (nh_183 : ¬ x = 183) (nh_184 : ¬ x = 184) (nh_185 : ¬ x = 185) (nh_186 : ¬ x = 186) (nh_187 : ¬ x = 187) (nh_188 : ¬ x = 188) (nh_189 : ¬ x = 189) (nh_190 : ¬ x = 190) (nh_191 : ¬ x = 191) (nh_192 : ¬ x = 192) (nh_193 : ¬ x = 193) (nh_194 : ¬ x = 194) (nh_195 : ¬ x = 195) (nh_196 : ¬ x = 196) (nh_198 : ¬ x = 198) (nh_199 : ¬ x = 199) (nh_200 : ¬ x = 200) (nh_201 : ¬ x = 201) (nh_202 : ¬ x = 202) (nh_203 : ¬ x = 203) (nh_204 : ¬ x = 204) (nh_205 : ¬ x = 205) (nh_210 : ¬ x = 210) (nh_211 : ¬ x = 211) (nh_212 : ¬ x = 212) (nh_213 : ¬ x = 213) (nh_214 : ¬ x = 214) (nh_215 : ¬ x = 215) (h : fX11_read_97 k55 v1 σ = some (r, σ')) : sm σ σ' x y := by
  unfold fX11_read_97 at h
  have f := sm_r σ x y
  obtain ⟨x1, σ2, y3, h⟩ := bd_some h
  have f := sm_t f (wX11_good y3)
  rcases ite_or h with ⟨_, h⟩ | ⟨_, h⟩
  · exact sm_t f (wX11_read_177 hk55 nh_168_0 nh_168_12 nh_168_16 nh_168_19 nh_168_20 nh_168_21 nh_168_26 nh_168_30 nh_168_33 nh_168_37 nh_168_40 nh_168_41 nh_168_43 nh_168_44 nh_168_45 nh_168_46 nh_168_47 nh_168_48 nh_168_49 nh_168_5 nh_168_50 nh_168_51 nh_168_52 nh_168_53 nh_168_57 nh_168_69 nh_168_76 nh_168_77 nh_168_81 nh_168_85 nh_168_9 nh_169 nh_170 nh_171 nh_172 nh_173 nh_174 nh_175 nh_176 nh_177 nh_178 nh_179 nh_180 nh_181 nh_182 nh_183 nh_184 nh_185 nh_186 nh_187 nh_188 nh_189 nh_190 nh_191 nh_192 nh_193 nh_194 nh_195 nh_196 nh_198 nh_199 nh_200 nh_201 nh_202 nh_203 nh_204 nh_205 nh_210 nh_211 nh_212 nh_213 nh_214 nh_215 h)
  · obtain ⟨_, σ5, y6, h⟩ := bd_some h
    have f := sm_t f (wX11_next nh_168_44 nh_168_45 nh_168_46 nh_168_47 nh_168_48 nh_168_51 y6)
    rcases ite_or h with ⟨_, h⟩ | ⟨_, h⟩
    · rcases ite_or h with ⟨_, h⟩ | ⟨_, h⟩
      · rcases ite_or h with ⟨_, h⟩ | ⟨_, h⟩
        · obtain ⟨_, σ15, y16, h⟩ := bd_some h
          have f := sm_t f (wX11_readWheel nh_168_26 nh_168_37 nh_168_44 nh_168_45 nh_168_46 nh_168_47 nh_168_48 nh_168_49 nh_168_50 nh_168_51 nh_187 nh_188 nh_189 nh_195 nh_196 y16)
          exact sm_t f (wX11_read_177 hk55 nh_168_0 nh_168_12 nh_168_16 nh_168_19 nh_168_20 nh_168_21 nh_168_26 nh_168_30 nh_168_33 nh_168_37 nh_168_40 nh_168_41 nh_168_43 nh_168_44 nh_168_45 nh_168_46 nh_168_47 nh_168_48 nh_168_49 nh_168_5 nh_168_50 nh_168_51 nh_168_52 nh_168_53 nh_168_57 nh_168_69 nh_168_76 nh_168_77 nh_168_81 nh_168_85 nh_168_9 nh_169 nh_170 nh_171 nh_172 nh_173 nh_174 nh_175 nh_176 nh_177 nh_178 nh_179 nh_180 nh_181 nh_182 nh_183 nh_184 nh_185 nh_186 nh_187 nh_188 nh_189 nh_190 nh_191 nh_192 nh_193 nh_194 nh_195 nh_196 nh_198 nh_199 nh_200 nh_201 nh_202 nh_203 nh_204 nh_205 nh_210 nh_211 nh_212 nh_213 nh_214 nh_215 h)
        · rcases ite_or h with ⟨_, h⟩ | ⟨_, h⟩
          · obtain ⟨_, σ11, y12, h⟩ := bd_some h
            have f := sm_t f (wX11_readDrive nh_168_40 nh_168_41 nh_168_44 nh_168_45 nh_168_46 nh_168_47 nh_168_48 nh_168_49 nh_168_50 nh_168_51 y12)
            exact sm_t f (wX11_read_177 hk55 nh_168_0 nh_168_12 nh_168_16 nh_168_19 nh_168_20 nh_168_21 nh_168_26 nh_168_30 nh_168_33 nh_168_37 nh_168_40 nh_168_41 nh_168_43 nh_168_44 nh_168_45 nh_168_46 nh_168_47 nh_168_48 nh_168_49 nh_168_5 nh_168_50 nh_168_51 nh_168_52 nh_168_53 nh_168_57 nh_168_69 nh_168_76 nh_168_77 nh_168_81 nh_168_85 nh_168_9 nh_169 nh_170 nh_171 nh_172 nh_173 nh_174 nh_175 nh_176 nh_177 nh_178 nh_179 nh_180 nh_181 nh_182 nh_183 nh_184 nh_185 nh_186 nh_187 nh_188 nh_189 nh_190 nh_191 nh_192 nh_193 nh_194 nh_195 nh_196 nh_198 nh_199 nh_200 nh_201 nh_202 nh_203 nh_204 nh_205 nh_210 nh_211 nh_212 nh_213 nh_214 nh_215 h)
          · obtain ⟨_, σ13, y14, h⟩ := bd_some h
            have f := sm_t f (wX11_readCoupling nh_168_33 nh_168_37 nh_168_44 nh_168_45 nh_168_46 nh_168_47 nh_168_48 nh_168_49 nh_168_50 nh_168_51 nh_192 nh_193 nh_194 nh_195 nh_196 y14)
            exact sm_t f (wX11_read_177 hk55 nh_168_0 nh_168_12 nh_168_16 nh_168_19 nh_168_20 nh_168_21 nh_168_26 nh_168_30 nh_168_33 nh_168_37 nh_168_40 nh_168_41 nh_168_43 nh_168_44 nh_168_45 nh_168_46 nh_168_47 nh_168_48 nh_168_49 nh_168_5 nh_168_50 nh_168_51 nh_168_52 nh_168_53 nh_168_57 nh_168_69 nh_168_76 nh_168_77 nh_168_81 nh_168_85 nh_168_9 nh_169 nh_170 nh_171 nh_172 nh_173 nh_174 nh_175 nh_176 nh_177 nh_178 nh_179 nh_180 nh_181 nh_182 nh_183 nh_184 nh_185 nh_186 nh_187 nh_188 nh_189 nh_190 nh_191 nh_192 nh_193 nh_194 nh_195 nh_196 nh_198 nh_199 nh_200 nh_201 nh_202 nh_203 nh_204 nh_205 nh_210 nh_211 nh_212 nh_213 nh_214 nh_215 h)
      · obtain ⟨_, σ17, y18, h⟩ := bd_some h
        have f := sm_t f (wX11_readBars nh_168_30 nh_168_37 nh_168_44 nh_168_45 nh_168_46 nh_168_47 nh_168_48 nh_168_49 nh_168_50 nh_168_51 nh_190 nh_191 nh_195 nh_196 y18)
        exact sm_t f (wX11_read_177 hk55 nh_168_0 nh_168_12 nh_168_16 nh_168_19 nh_168_20 nh_168_21 nh_168_26 nh_168_30 nh_168_33 nh_168_37 nh_168_40 nh_168_41 nh_168_43 nh_168_44 nh_168_45 nh_168_46 nh_168_47 nh_168_48 nh_168_49 nh_168_5 nh_168_50 nh_168_51 nh_168_52 nh_168_53 nh_168_57 nh_168_69 nh_168_76 nh_168_77 nh_168_81 nh_168_85 nh_168_9 nh_169 nh_170 nh_171 nh_172 nh_173 nh_174 nh_175 nh_176 nh_177 nh_178 nh_179 nh_180 nh_181 nh_182 nh_183 nh_184 nh_185 nh_186 nh_187 nh_188 nh_189 nh_190 nh_191 nh_192 nh_193 nh_194 nh_195 nh_196 nh_198 nh_199 nh_200 nh_201 nh_202 nh_203 nh_204 nh_205 nh_210 nh_211 nh_212 nh_213 nh_214 nh_215 h)
    · rcases ite_or h with ⟨_, h⟩ | ⟨_, h⟩
      · exact sm_t f (wX11_read_124 hk55 nh_168_0 nh_168_12 nh_168_16 nh_168_19 nh_168_20 nh_168_21 nh_168_26 nh_168_30 nh_168_33 nh_168_37 nh_168_40 nh_168_41 nh_168_43 nh_168_44 nh_168_45 nh_168_46 nh_168_47 nh_168_48 nh_168_49 nh_168_5 nh_168_50 nh_168_51 nh_168_52 nh_168_53 nh_168_57 nh_168_69 nh_168_76 nh_168_77 nh_168_81 nh_168_85 nh_168_9 nh_169 nh_170 nh_171 nh_172 nh_173 nh_174 nh_175 nh_176 nh_177 nh_178 nh_179 nh_180 nh_181 nh_182 nh_183 nh_184 nh_185 nh_186 nh_187 nh_188 nh_189 nh_190 nh_191 nh_192 nh_193 nh_194 nh_195 nh_196 nh_198 nh_199 nh_200 nh_201 nh_202 nh_203 nh_204 nh_205 nh_210 nh_211 nh_212 nh_213 nh_214 nh_215 h)
      · exact sm_t f (wX11_read_124 hk55 nh_168_0 nh_168_12 nh_168_16 nh_168_19 nh_168_20 nh_168_21 nh_168_26 nh_168_30 nh_168_33 nh_168_37 nh_168_40 nh_168_41 nh_168_43 nh_168_44 nh_168_45 nh_168_46 nh_168_47 nh_168_48 nh_168_49 nh_168_5 nh_168_50 nh_168_51 nh_168_52 nh_168_53 nh_168_57 nh_168_69 nh_168_76 nh_168_77 nh_168_81 nh_168_85 nh_168_9 nh_169 nh_170 nh_171 nh_172 nh_173 nh_174 nh_175 nh_176 nh_177 nh_178 nh_179 nh_180 nh_181 nh_182 nh_183 nh_184 nh_185 nh_186 nh_187 nh_188 nh_189 nh_190 nh_191 nh_192 nh_193 nh_194 nh_195 nh_196 nh_198 nh_199 nh_200 nh_201 nh_202 nh_203 nh_204 nh_205 nh_210 nh_211 nh_212 nh_213 nh_214 nh_215 h)
set_option maxRecDepth 10000 in
theorem wX11_read_180 {x y : Nat} {r : Int32} {σ' : gS} {σ : gS} (nh_168_0 : ¬ (x = 168 ∧ y = 0)) (nh_168_12 : ¬ (x = 168 ∧ y = 12)) (nh_168_16 : ¬ (x = 168 ∧ y = 16)) (nh_168_19 : ¬ (x = 168 ∧ y = 19)) (nh_168_20 : ¬ (x = 168 ∧ y = 20)) (nh_168_21 : ¬ (x = 168 ∧ y = 21)) (nh_168_26 : ¬ (x = 168 ∧ y = 26)) (nh_168_30 : ¬ (x = 168 ∧ y = 30)) (nh_168_33 : ¬ (x = 168 ∧ y = 33)) (nh_168_37 : ¬ (x = 168 ∧ y = 37)) (nh_168_40 : ¬ (x = 168 ∧ y = 40)) (nh_168_41 : ¬ (x = 168 ∧ y = 41)) (nh_168_43 : ¬ (x = 168 ∧ y = 43)) (nh_168_44 : ¬ (x = 168 ∧ y = 44)) (nh_168_45 : ¬ (x = 168 ∧ y = 45)) (nh_168_46 : ¬ (x = 168 ∧ y = 46)) (nh_168_47 : ¬ (x = 168 ∧ y = 47)) (nh_168_48 : ¬ (x = 168 ∧ y = 48)) (nh_168_49 : ¬ (x = 168 ∧ y = 49)) (nh_168_5 : ¬ (x = 168 ∧ y = 5)) (nh_168_50 : ¬ (x = 168 ∧ y = 50)) (nh_168_51 : ¬ (x = 168 ∧ y = 51)) (nh_168_52 : ¬ (x = 168 ∧ y = 52)) (nh_168_53 : ¬ (x = 168 ∧ y = 53)) (nh_168_57 : ¬ (x = 168 ∧ y = 57)) (nh_168_69 : ¬ (x = 168 ∧ y = 69)) (nh_168_76 : ¬ (x = 168 ∧ y = 76)) (nh_168_77 : ¬ (x = 168 ∧ y = 77)) (nh_168_81 : ¬ (x = 168 ∧ y = 81)) (nh_168_85 : ¬ (x = 168 ∧ y = 85)) (nh_168_9 : ¬ (x = 168 ∧ y = 9)) (nh_169 : ¬ x = 169) (nh_170 : ¬ x = 170) (nh_171 : ¬ x = 171) (nh_172 : ¬ x = 172) (nh_173 : ¬ x = 173) (nh_174 : ¬ x = 174) (nh_175 : ¬ x = 175) (nh_176 : ¬ x = 176) (nh_177 : ¬ x = 177) (nh_178 : ¬ x = 178) (nh_179 : ¬ x = 179) (nh_180 : ¬ x = 180) (nh_181 : ¬ x = 181) (nh_182 : ¬ x = 182) (nh_183 : ¬ x = 183) (nh_184 : ¬ x = 184) (nh_185 : ¬ x = 185) (nh_186 : ¬ x = 186) (nh_187 : ¬ x = 187) (nh_188 : ¬ x = 188) (nh_189 : ¬ x = 189) (nh_190 : ¬ x = 190) (nh_191 : ¬ x = 191) (nh_192 : ¬ x = 192) (nh_193 : ¬ x = 193) (nh_194 : ¬ x = 194) (nh_195 : ¬ x = 195) (nh_196 : ¬ x = 196) (nh_198 : ¬ x = 198) (nh_199 : ¬ x = 199) (nh_200 : ¬ x = 200) (nh_201 : ¬ x = 201) (nh_202 : ¬ x = 202) (nh_203 : ¬ x = 203) (nh_204 : ¬ x = 204) (nh_205 : ¬ x = 205) (nh_210 : ¬ x = 210) (nh_211 : ¬ x = 211) (nh_212 : ¬ x = 212) (nh_213 : ¬ x = 213) (nh_214 : ¬ x = 214) (nh_215 : ¬ x = 215) (h : fX11_read_180 σ = some (r, σ')) : sm σ σ' x y := by
  unfold fX11_read_180 at h
  have f := sm_r σ x y
  obtain ⟨σ1, eσ1, h⟩ := bnd_nm h
  have f := sm_I f nh_168_43 eσ1
  obtain ⟨x2, σ3, y4, h⟩ := bd_some h
  have f := sm_t f (wX11_good y4)
  rcases ite_or h with ⟨_, h⟩ | ⟨_, h⟩
  · obtain ⟨-, rfl⟩ := so_inj h
    exact f
  · obtain ⟨_, σ6, y7, h⟩ := bd_some h
    have f := sm_t f (wX11_take nh_168_0 nh_168_12 nh_168_16 nh_168_19 nh_168_20 nh_168_5 nh_168_52 nh_168_53 nh_168_57 nh_168_69 nh_168_76 nh_168_77 nh_168_81 nh_168_85 nh_168_9 nh_169 nh_170 nh_171 nh_172 nh_173 nh_174 nh_175 nh_176 nh_177 nh_178 nh_179 nh_180 nh_181 nh_182 nh_198 nh_199 nh_200 nh_201 nh_202 nh_203 nh_204 nh_205 nh_210 nh_211 nh_212 nh_213 nh_214 nh_215 y7)
    obtain ⟨-, rfl⟩ := so_inj h
    exact f
set_option maxRecDepth 10000 in
theorem wX11_read_55 {x y : Nat} {r : Int32} {σ' : gS} (nh_168_0 : ¬ (x = 168 ∧ y = 0)) (nh_168_12 : ¬ (x = 168 ∧ y = 12)) (nh_168_16 : ¬ (x = 168 ∧ y = 16)) (nh_168_19 : ¬ (x = 168 ∧ y = 19)) (nh_168_20 : ¬ (x = 168 ∧ y = 20)) (nh_168_21 : ¬ (x = 168 ∧ y = 21)) (nh_168_26 : ¬ (x = 168 ∧ y = 26)) (nh_168_30 : ¬ (x = 168 ∧ y = 30)) (nh_168_33 : ¬ (x = 168 ∧ y = 33)) (nh_168_37 : ¬ (x = 168 ∧ y = 37)) (nh_168_40 : ¬ (x = 168 ∧ y = 40)) (nh_168_41 : ¬ (x = 168 ∧ y = 41)) (nh_168_43 : ¬ (x = 168 ∧ y = 43)) (nh_168_44 : ¬ (x = 168 ∧ y = 44)) (nh_168_45 : ¬ (x = 168 ∧ y = 45)) (nh_168_46 : ¬ (x = 168 ∧ y = 46)) (nh_168_47 : ¬ (x = 168 ∧ y = 47)) (nh_168_48 : ¬ (x = 168 ∧ y = 48)) (nh_168_49 : ¬ (x = 168 ∧ y = 49)) (nh_168_5 : ¬ (x = 168 ∧ y = 5)) (nh_168_50 : ¬ (x = 168 ∧ y = 50)) (nh_168_51 : ¬ (x = 168 ∧ y = 51)) (nh_168_52 : ¬ (x = 168 ∧ y = 52)) (nh_168_53 : ¬ (x = 168 ∧ y = 53)) (nh_168_57 : ¬ (x = 168 ∧ y = 57)) (nh_168_69 : ¬ (x = 168 ∧ y = 69)) (nh_168_76 : ¬ (x = 168 ∧ y = 76)) (nh_168_77 : ¬ (x = 168 ∧ y = 77)) (nh_168_81 : ¬ (x = 168 ∧ y = 81)) (nh_168_85 : ¬ (x = 168 ∧ y = 85)) (nh_168_9 : ¬ (x = 168 ∧ y = 9)) (nh_169 : ¬ x = 169) (nh_170 : ¬ x = 170) (nh_171 : ¬ x = 171) (nh_172 : ¬ x = 172) (nh_173 : ¬ x = 173) (nh_174 : ¬ x = 174) (nh_175 : ¬ x = 175) (nh_176 : ¬ x = 176) (nh_177 : ¬ x = 177) (nh_178 : ¬ x = 178) (nh_179 : ¬ x = 179) (nh_180 : ¬ x = 180) (nh_181 : ¬ x = 181) (nh_182 : ¬ x = 182) (nh_183 : ¬ x = 183) (nh_184 : ¬ x = 184) (nh_185 : ¬ x = 185) (nh_186 : ¬ x = 186) (nh_187 : ¬ x = 187) (nh_188 : ¬ x = 188) (nh_189 : ¬ x = 189) (nh_190 : ¬ x = 190) (nh_191 : ¬ x = 191) (nh_192 : ¬ x = 192) (nh_193 : ¬ x = 193) (nh_194 : ¬ x = 194) (nh_195 : ¬ x = 195) (nh_196 : ¬ x = 196) (nh_198 : ¬ x = 198) (nh_199 : ¬ x = 199) (nh_200 : ¬ x = 200) (nh_201 : ¬ x = 201) (nh_202 : ¬ x = 202) (nh_203 : ¬ x = 203) (nh_204 : ¬ x = 204) (nh_205 : ¬ x = 205) (nh_210 : ¬ x = 210) (nh_211 : ¬ x = 211) (nh_212 : ¬ x = 212) (nh_213 : ¬ x = 213) (nh_214 : ¬ x = 214) (nh_215 : ¬ x = 215) : ∀ (n : Nat) (σ : gS), fX11_read_55 n σ = some (r, σ') → sm σ σ' x y := by
  intro n
  induction n with
  | zero => intro σ h; exact absurd (show none = some (r, σ') from h) (by intro q; cases q)
  | succ n ih =>
  intro σ h
  unfold fX11_read_55 at h
  have f := sm_r σ x y
  obtain ⟨x1, σ2, y3, h⟩ := bd_some h
  have f := sm_t f (wX11_good y3)
  rcases ite_or h with ⟨_, h⟩ | ⟨_, h⟩
  · exact sm_t f (wX11_read_180 nh_168_0 nh_168_12 nh_168_16 nh_168_19 nh_168_20 nh_168_21 nh_168_26 nh_168_30 nh_168_33 nh_168_37 nh_168_40 nh_168_41 nh_168_43 nh_168_44 nh_168_45 nh_168_46 nh_168_47 nh_168_48 nh_168_49 nh_168_5 nh_168_50 nh_168_51 nh_168_52 nh_168_53 nh_168_57 nh_168_69 nh_168_76 nh_168_77 nh_168_81 nh_168_85 nh_168_9 nh_169 nh_170 nh_171 nh_172 nh_173 nh_174 nh_175 nh_176 nh_177 nh_178 nh_179 nh_180 nh_181 nh_182 nh_183 nh_184 nh_185 nh_186 nh_187 nh_188 nh_189 nh_190 nh_191 nh_192 nh_193 nh_194 nh_195 nh_196 nh_198 nh_199 nh_200 nh_201 nh_202 nh_203 nh_204 nh_205 nh_210 nh_211 nh_212 nh_213 nh_214 nh_215 h)
  · rcases ite_or h with ⟨_, h⟩ | ⟨_, h⟩
    · exact sm_t f (wX11_read_180 nh_168_0 nh_168_12 nh_168_16 nh_168_19 nh_168_20 nh_168_21 nh_168_26 nh_168_30 nh_168_33 nh_168_37 nh_168_40 nh_168_41 nh_168_43 nh_168_44 nh_168_45 nh_168_46 nh_168_47 nh_168_48 nh_168_49 nh_168_5 nh_168_50 nh_168_51 nh_168_52 nh_168_53 nh_168_57 nh_168_69 nh_168_76 nh_168_77 nh_168_81 nh_168_85 nh_168_9 nh_169 nh_170 nh_171 nh_172 nh_173 nh_174 nh_175 nh_176 nh_177 nh_178 nh_179 nh_180 nh_181 nh_182 nh_183 nh_184 nh_185 nh_186 nh_187 nh_188 nh_189 nh_190 nh_191 nh_192 nh_193 nh_194 nh_195 nh_196 nh_198 nh_199 nh_200 nh_201 nh_202 nh_203 nh_204 nh_205 nh_210 nh_211 nh_212 nh_213 nh_214 nh_215 h)
    · obtain ⟨_, σ6, y7, h⟩ := bd_some h
      have f := sm_t f (wX11_want nh_168_49 nh_168_50 y7)
      obtain ⟨x8, σ9, y10, h⟩ := bd_some h
      have f := sm_t f (wX11_good y10)
      rcases ite_or h with ⟨_, h⟩ | ⟨_, h⟩
      · exact sm_t f (wX11_read_97 (fun σ h => ih σ h) nh_168_0 nh_168_12 nh_168_16 nh_168_19 nh_168_20 nh_168_21 nh_168_26 nh_168_30 nh_168_33 nh_168_37 nh_168_40 nh_168_41 nh_168_43 nh_168_44 nh_168_45 nh_168_46 nh_168_47 nh_168_48 nh_168_49 nh_168_5 nh_168_50 nh_168_51 nh_168_52 nh_168_53 nh_168_57 nh_168_69 nh_168_76 nh_168_77 nh_168_81 nh_168_85 nh_168_9 nh_169 nh_170 nh_171 nh_172 nh_173 nh_174 nh_175 nh_176 nh_177 nh_178 nh_179 nh_180 nh_181 nh_182 nh_183 nh_184 nh_185 nh_186 nh_187 nh_188 nh_189 nh_190 nh_191 nh_192 nh_193 nh_194 nh_195 nh_196 nh_198 nh_199 nh_200 nh_201 nh_202 nh_203 nh_204 nh_205 nh_210 nh_211 nh_212 nh_213 nh_214 nh_215 h)
      · rcases ite_or h with ⟨_, h⟩ | ⟨_, h⟩
        · exact sm_t f (wX11_read_97 (fun σ h => ih σ h) nh_168_0 nh_168_12 nh_168_16 nh_168_19 nh_168_20 nh_168_21 nh_168_26 nh_168_30 nh_168_33 nh_168_37 nh_168_40 nh_168_41 nh_168_43 nh_168_44 nh_168_45 nh_168_46 nh_168_47 nh_168_48 nh_168_49 nh_168_5 nh_168_50 nh_168_51 nh_168_52 nh_168_53 nh_168_57 nh_168_69 nh_168_76 nh_168_77 nh_168_81 nh_168_85 nh_168_9 nh_169 nh_170 nh_171 nh_172 nh_173 nh_174 nh_175 nh_176 nh_177 nh_178 nh_179 nh_180 nh_181 nh_182 nh_183 nh_184 nh_185 nh_186 nh_187 nh_188 nh_189 nh_190 nh_191 nh_192 nh_193 nh_194 nh_195 nh_196 nh_198 nh_199 nh_200 nh_201 nh_202 nh_203 nh_204 nh_205 nh_210 nh_211 nh_212 nh_213 nh_214 nh_215 h)
        · obtain ⟨_, σ13, y14, h⟩ := bd_some h
          have f := sm_t f (wX11_bad nh_168_49 nh_168_50 y14)
          exact sm_t f (wX11_read_97 (fun σ h => ih σ h) nh_168_0 nh_168_12 nh_168_16 nh_168_19 nh_168_20 nh_168_21 nh_168_26 nh_168_30 nh_168_33 nh_168_37 nh_168_40 nh_168_41 nh_168_43 nh_168_44 nh_168_45 nh_168_46 nh_168_47 nh_168_48 nh_168_49 nh_168_5 nh_168_50 nh_168_51 nh_168_52 nh_168_53 nh_168_57 nh_168_69 nh_168_76 nh_168_77 nh_168_81 nh_168_85 nh_168_9 nh_169 nh_170 nh_171 nh_172 nh_173 nh_174 nh_175 nh_176 nh_177 nh_178 nh_179 nh_180 nh_181 nh_182 nh_183 nh_184 nh_185 nh_186 nh_187 nh_188 nh_189 nh_190 nh_191 nh_192 nh_193 nh_194 nh_195 nh_196 nh_198 nh_199 nh_200 nh_201 nh_202 nh_203 nh_204 nh_205 nh_210 nh_211 nh_212 nh_213 nh_214 nh_215 h)
set_option maxRecDepth 10000 in
theorem wX11_read {x y : Nat} {r : Int32} {σ' : gS} {σ : gS} (nh_168_0 : ¬ (x = 168 ∧ y = 0)) (nh_168_12 : ¬ (x = 168 ∧ y = 12)) (nh_168_16 : ¬ (x = 168 ∧ y = 16)) (nh_168_19 : ¬ (x = 168 ∧ y = 19)) (nh_168_20 : ¬ (x = 168 ∧ y = 20)) (nh_168_21 : ¬ (x = 168 ∧ y = 21)) (nh_168_26 : ¬ (x = 168 ∧ y = 26)) (nh_168_30 : ¬ (x = 168 ∧ y = 30)) (nh_168_33 : ¬ (x = 168 ∧ y = 33)) (nh_168_37 : ¬ (x = 168 ∧ y = 37)) (nh_168_40 : ¬ (x = 168 ∧ y = 40)) (nh_168_41 : ¬ (x = 168 ∧ y = 41)) (nh_168_43 : ¬ (x = 168 ∧ y = 43)) (nh_168_44 : ¬ (x = 168 ∧ y = 44)) (nh_168_45 : ¬ (x = 168 ∧ y = 45)) (nh_168_46 : ¬ (x = 168 ∧ y = 46)) (nh_168_47 : ¬ (x = 168 ∧ y = 47)) (nh_168_48 : ¬ (x = 168 ∧ y = 48)) (nh_168_49 : ¬ (x = 168 ∧ y = 49)) (nh_168_5 : ¬ (x = 168 ∧ y = 5)) (nh_168_50 : ¬ (x = 168 ∧ y = 50)) (nh_168_51 : ¬ (x = 168 ∧ y = 51)) (nh_168_52 : ¬ (x = 168 ∧ y = 52)) (nh_168_53 : ¬ (x = 168 ∧ y = 53)) (nh_168_57 : ¬ (x = 168 ∧ y = 57)) (nh_168_69 : ¬ (x = 168 ∧ y = 69)) (nh_168_76 : ¬ (x = 168 ∧ y = 76)) (nh_168_77 : ¬ (x = 168 ∧ y = 77)) (nh_168_81 : ¬ (x = 168 ∧ y = 81)) (nh_168_85 : ¬ (x = 168 ∧ y = 85)) (nh_168_9 : ¬ (x = 168 ∧ y = 9)) (nh_169 : ¬ x = 169) (nh_170 : ¬ x = 170) (nh_171 : ¬ x = 171) (nh_172 : ¬ x = 172) (nh_173 : ¬ x = 173) (nh_174 : ¬ x = 174) (nh_175 : ¬ x = 175) (nh_176 : ¬ x = 176) (nh_177 : ¬ x = 177) (nh_178 : ¬ x = 178) (nh_179 : ¬ x = 179) (nh_180 : ¬ x = 180) (nh_181 : ¬ x = 181) (nh_182 : ¬ x = 182) (nh_183 : ¬ x = 183) (nh_184 : ¬ x = 184) (nh_185 : ¬ x = 185) (nh_186 : ¬ x = 186) (nh_187 : ¬ x = 187) (nh_188 : ¬ x = 188) (nh_189 : ¬ x = 189) (nh_190 : ¬ x = 190) (nh_191 : ¬ x = 191) (nh_192 : ¬ x = 192) (nh_193 : ¬ x = 193) (nh_194 : ¬ x = 194) (nh_195 : ¬ x = 195) (nh_196 : ¬ x = 196) (nh_198 : ¬ x = 198) (nh_199 : ¬ x = 199) (nh_200 : ¬ x = 200) (nh_201 : ¬ x = 201) (nh_202 : ¬ x = 202) (nh_203 : ¬ x = 203) (nh_204 : ¬ x = 204) (nh_205 : ¬ x = 205) (nh_210 : ¬ x = 210) (nh_211 : ¬ x = 211) (nh_212 : ¬ x = 212) (nh_213 : ¬ x = 213) (nh_214 : ¬ x = 214) (nh_215 : ¬ x = 215) (h : fX11_read σ = some (r, σ')) : sm σ σ' x y := by
  unfold fX11_read at h
  have f := sm_r σ x y
  obtain ⟨σ1, eσ1, h⟩ := bnd_nm h
  have f := sm_I f nh_168_44 eσ1
  obtain ⟨σ2, eσ2, h⟩ := bnd_nm h
  have f := sm_I f nh_168_49 eσ2
  obtain ⟨σ3, eσ3, h⟩ := bnd_nm h
  have f := sm_I f nh_168_50 eσ3
  obtain ⟨σ4, eσ4, h⟩ := bnd_nm h
  have f := sm_I f nh_168_21 eσ4
  obtain ⟨σ5, eσ5, h⟩ := bnd_nm h
  have f := sm_I f nh_168_26 eσ5
  obtain ⟨σ6, eσ6, h⟩ := bnd_nm h
  have f := sm_I f nh_168_30 eσ6
  obtain ⟨σ7, eσ7, h⟩ := bnd_nm h
  have f := sm_I f nh_168_33 eσ7
  obtain ⟨σ8, eσ8, h⟩ := bnd_nm h
  have f := sm_I f nh_168_37 eσ8
  obtain ⟨σ9, eσ9, h⟩ := bnd_nm h
  have f := sm_I f nh_168_40 eσ9
  obtain ⟨σ10, eσ10, h⟩ := bnd_nm h
  have f := sm_I f nh_168_41 eσ10
  obtain ⟨_, σ11, y12, h⟩ := bd_some h
  have f := sm_t f (wX11_next nh_168_44 nh_168_45 nh_168_46 nh_168_47 nh_168_48 nh_168_51 y12)
  exact sm_t f (wX11_read_55 nh_168_0 nh_168_12 nh_168_16 nh_168_19 nh_168_20 nh_168_21 nh_168_26 nh_168_30 nh_168_33 nh_168_37 nh_168_40 nh_168_41 nh_168_43 nh_168_44 nh_168_45 nh_168_46 nh_168_47 nh_168_48 nh_168_49 nh_168_5 nh_168_50 nh_168_51 nh_168_52 nh_168_53 nh_168_57 nh_168_69 nh_168_76 nh_168_77 nh_168_81 nh_168_85 nh_168_9 nh_169 nh_170 nh_171 nh_172 nh_173 nh_174 nh_175 nh_176 nh_177 nh_178 nh_179 nh_180 nh_181 nh_182 nh_183 nh_184 nh_185 nh_186 nh_187 nh_188 nh_189 nh_190 nh_191 nh_192 nh_193 nh_194 nh_195 nh_196 nh_198 nh_199 nh_200 nh_201 nh_202 nh_203 nh_204 nh_205 nh_210 nh_211 nh_212 nh_213 nh_214 nh_215 2000 σ11 h)
set_option maxRecDepth 10000 in
theorem wX11_place {x y : Nat} {r : Int32} {σ' : gS} {σ : gS} (h : fX11_place σ = some (r, σ')) : sm σ σ' x y := by
  unfold fX11_place at h
  have f := sm_r σ x y
  obtain ⟨-, rfl⟩ := so_inj h
  exact f
set_option maxRecDepth 10000 in
theorem wX11_part_28 {x y : Nat} {p1 : Int32} {p2 : Int32} {r : Int32} {σ' : gS} {σ : gS} (h : fX11_part_28 p1 p2 σ = some (r, σ')) : sm σ σ' x y := by
  unfold fX11_part_28 at h
  have f := sm_r σ x y
  obtain ⟨-, rfl⟩ := so_inj h
  exact f
set_option maxRecDepth 10000 in
theorem wX11_part_57 {x y : Nat} {p1 : Int32} {p2 : Int32} {r : Int32} {σ' : gS} {s0 : Int32} {σ : gS} (h : fX11_part_57 p1 p2 s0 σ = some (r, σ')) : sm σ σ' x y := by
  unfold fX11_part_57 at h
  have f := sm_r σ x y
  obtain ⟨-, rfl⟩ := so_inj h
  exact f
set_option maxRecDepth 10000 in
theorem wX11_part_116 {x y : Nat} {p1 : Int32} {p2 : Int32} {r : Int32} {σ' : gS} {s0 : Int32} {σ : gS} (h : fX11_part_116 p1 p2 s0 σ = some (r, σ')) : sm σ σ' x y := by
  unfold fX11_part_116 at h
  have f := sm_r σ x y
  obtain ⟨-, rfl⟩ := so_inj h
  exact f
set_option maxRecDepth 10000 in
theorem wX11_part_96 {x y : Nat} {p1 : Int32} {p2 : Int32} {r : Int32} {σ' : gS} {v3 : Int32} {σ : gS} (h : fX11_part_96 p1 p2 v3 σ = some (r, σ')) : sm σ σ' x y := by
  unfold fX11_part_96 at h
  have f := sm_r σ x y
  rcases ite_or h with ⟨_, h⟩ | ⟨_, h⟩
  · obtain ⟨g3, h⟩ := gg_some h
    exact sm_t f (wX11_part_116 h)
  · obtain ⟨g2, h⟩ := gg_some h
    exact sm_t f (wX11_part_116 h)
set_option maxRecDepth 10000 in
theorem wX11_part_137 {x y : Nat} {p1 : Int32} {p2 : Int32} {r : Int32} {σ' : gS} {s0 : Int32} {σ : gS} (h : fX11_part_137 p1 p2 s0 σ = some (r, σ')) : sm σ σ' x y := by
  unfold fX11_part_137 at h
  have f := sm_r σ x y
  obtain ⟨-, rfl⟩ := so_inj h
  exact f
set_option maxRecDepth 10000 in
theorem wX11_part_158 {x y : Nat} {p1 : Int32} {p2 : Int32} {r : Int32} {σ' : gS} {s0 : Int32} {σ : gS} (h : fX11_part_158 p1 p2 s0 σ = some (r, σ')) : sm σ σ' x y := by
  unfold fX11_part_158 at h
  have f := sm_r σ x y
  obtain ⟨-, rfl⟩ := so_inj h
  exact f
set_option maxRecDepth 10000 in
theorem wX11_part_179 {x y : Nat} {p1 : Int32} {p2 : Int32} {r : Int32} {σ' : gS} {s0 : Int32} {σ : gS} (h : fX11_part_179 p1 p2 s0 σ = some (r, σ')) : sm σ σ' x y := by
  unfold fX11_part_179 at h
  have f := sm_r σ x y
  obtain ⟨-, rfl⟩ := so_inj h
  exact f
set_option maxRecDepth 10000 in
theorem wX11_part {x y : Nat} {p1 : Int32} {p2 : Int32} {r : Int32} {σ' : gS} {σ : gS} (h : fX11_part p1 p2 σ = some (r, σ')) : sm σ σ' x y := by
  unfold fX11_part at h
  have f := sm_r σ x y
  obtain ⟨x1, σ2, y3, h⟩ := bd_some h
  have f := sm_t f (wX11_in y3)
  rcases ite_or h with ⟨_, h⟩ | ⟨_, h⟩
  · exact sm_t f (wX11_part_28 h)
  · obtain ⟨x5, σ6, y7, h⟩ := bd_some h
    have f := sm_t f (wX11_in y7)
    rcases ite_or h with ⟨_, h⟩ | ⟨_, h⟩
    · exact sm_t f (wX11_part_28 h)
    · obtain ⟨g9, h⟩ := gg_some h
      rcases ite_or h with ⟨_, h⟩ | ⟨_, h⟩
      · obtain ⟨g11, h⟩ := gg_some h
        rcases ite_or h with ⟨_, h⟩ | ⟨_, h⟩
        · exact sm_t f (wX11_part_96 h)
        ·
          rcases ite_or h with ⟨_, h⟩ | ⟨_, h⟩
          · exact sm_t f (wX11_part_96 h)
          ·
            rcases ite_or h with ⟨_, h⟩ | ⟨_, h⟩
            · rcases ite_or h with ⟨_, h⟩ | ⟨_, h⟩
              · obtain ⟨g17, h⟩ := gg_some h
                exact sm_t f (wX11_part_137 h)
              · obtain ⟨g16, h⟩ := gg_some h
                exact sm_t f (wX11_part_137 h)
            ·
              rcases ite_or h with ⟨_, h⟩ | ⟨_, h⟩
              · rcases ite_or h with ⟨_, h⟩ | ⟨_, h⟩
                · obtain ⟨g21, h⟩ := gg_some h
                  exact sm_t f (wX11_part_158 h)
                · obtain ⟨g20, h⟩ := gg_some h
                  exact sm_t f (wX11_part_158 h)
              ·
                rcases ite_or h with ⟨_, h⟩ | ⟨_, h⟩
                · obtain ⟨g24, h⟩ := gg_some h
                  exact sm_t f (wX11_part_179 h)
                · obtain ⟨g23, h⟩ := gg_some h
                  exact sm_t f (wX11_part_179 h)
      · rcases ite_or h with ⟨_, h⟩ | ⟨_, h⟩
        · obtain ⟨g26, h⟩ := gg_some h
          exact sm_t f (wX11_part_57 h)
        · exact sm_t f (wX11_part_57 h)
set_option maxRecDepth 10000 in
theorem wX11_isBar {x y : Nat} {p1 : Int32} {r : Int32} {σ' : gS} {σ : gS} (h : fX11_isBar p1 σ = some (r, σ')) : sm σ σ' x y := by
  unfold fX11_isBar at h
  have f := sm_r σ x y
  obtain ⟨x1, σ2, y3, h⟩ := bd_some h
  have f := sm_t f (wX11_in y3)
  obtain ⟨g4, h⟩ := gg_some h
  obtain ⟨-, rfl⟩ := so_inj h
  exact f
set_option maxRecDepth 10000 in
theorem wX11_isJoint {x y : Nat} {p1 : Int32} {r : Int32} {σ' : gS} {σ : gS} (h : fX11_isJoint p1 σ = some (r, σ')) : sm σ σ' x y := by
  unfold fX11_isJoint at h
  have f := sm_r σ x y
  obtain ⟨x1, σ2, y3, h⟩ := bd_some h
  have f := sm_t f (wX11_in y3)
  obtain ⟨g4, h⟩ := gg_some h
  obtain ⟨-, rfl⟩ := so_inj h
  exact f
set_option maxRecDepth 10000 in
theorem wX11_needed_32 {x y : Nat} {p1 : Int32} {r : Int32} {σ' : gS} {s0 : Int32} {σ : gS} (h : fX11_needed_32 p1 s0 σ = some (r, σ')) : sm σ σ' x y := by
  unfold fX11_needed_32 at h
  have f := sm_r σ x y
  obtain ⟨-, rfl⟩ := so_inj h
  exact f
set_option maxRecDepth 10000 in
theorem wX11_needed {x y : Nat} {p1 : Int32} {r : Int32} {σ' : gS} {σ : gS} (h : fX11_needed p1 σ = some (r, σ')) : sm σ σ' x y := by
  unfold fX11_needed at h
  have f := sm_r σ x y
  obtain ⟨x1, σ2, y3, h⟩ := bd_some h
  have f := sm_t f (wX11_isBar y3)
  rcases ite_or h with ⟨_, h⟩ | ⟨_, h⟩
  · exact sm_t f (wX11_needed_32 h)
  · obtain ⟨x5, ex5, h⟩ := bnd_nm h
    obtain ⟨g6, h⟩ := gg_some h
    rcases ite_or h with ⟨_, h⟩ | ⟨_, h⟩
    · exact sm_t f (wX11_needed_32 h)
    · exact sm_t f (wX11_needed_32 h)
set_option maxRecDepth 10000 in
theorem wX11_together_40 {x y : Nat} {p1 : Int32} {p2 : Int32} {r : Int32} {σ' : gS} {s0 : Int32} {σ : gS} (h : fX11_together_40 p1 p2 s0 σ = some (r, σ')) : sm σ σ' x y := by
  unfold fX11_together_40 at h
  have f := sm_r σ x y
  obtain ⟨-, rfl⟩ := so_inj h
  exact f
set_option maxRecDepth 10000 in
theorem wX11_together_16 {x y : Nat} {p1 : Int32} {p2 : Int32} {r : Int32} {σ' : gS} {σ : gS} (h : fX11_together_16 p1 p2 σ = some (r, σ')) : sm σ σ' x y := by
  unfold fX11_together_16 at h
  have f := sm_r σ x y
  exact sm_t f (wX11_together_40 h)
set_option maxRecDepth 10000 in
theorem wX11_together {x y : Nat} {p1 : Int32} {p2 : Int32} {r : Int32} {σ' : gS} {σ : gS} (h : fX11_together p1 p2 σ = some (r, σ')) : sm σ σ' x y := by
  unfold fX11_together at h
  have f := sm_r σ x y
  obtain ⟨x1, σ2, y3, h⟩ := bd_some h
  have f := sm_t f (wX11_isJoint y3)
  rcases ite_or h with ⟨_, h⟩ | ⟨_, h⟩
  · exact sm_t f (wX11_together_16 h)
  · obtain ⟨x5, σ6, y7, h⟩ := bd_some h
    have f := sm_t f (wX11_isJoint y7)
    rcases ite_or h with ⟨_, h⟩ | ⟨_, h⟩
    · exact sm_t f (wX11_together_16 h)
    · obtain ⟨x9, ex9, h⟩ := bnd_nm h
      obtain ⟨g10, h⟩ := gg_some h
      rcases ite_or h with ⟨_, h⟩ | ⟨_, h⟩
      · exact sm_t f (wX11_together_40 h)
      · exact sm_t f (wX11_together_40 h)
set_option maxRecDepth 10000 in
theorem wX11_clusterOf_105 {x y : Nat} {p1 : Int32} {k2 : Int32 → gS → Option (Int32 × gS)} {r : Int32} {σ' : gS} {v2 : Int32} {σ : gS} (hk2 : ∀ (v2 : Int32) (σ : gS), k2 v2 σ = some (r, σ') → sm σ σ' x y) (h : fX11_clusterOf_105 p1 k2 v2 σ = some (r, σ')) : sm σ σ' x y := by
  unfold fX11_clusterOf_105 at h
  have f := sm_r σ x y
  obtain ⟨x1, ex1, h⟩ := bnd_nm h
  exact sm_t f (hk2 x1 σ h)
set_option maxRecDepth 10000 in
theorem wX11_clusterOf_2 {x y : Nat} {p1 : Int32} {r : Int32} {σ' : gS} : ∀ (n : Nat) (v2 : Int32) (σ : gS), fX11_clusterOf_2 p1 n v2 σ = some (r, σ') → sm σ σ' x y := by
  intro n
  induction n with
  | zero => intro v2 σ h; exact absurd (show none = some (r, σ') from h) (by intro q; cases q)
  | succ n ih =>
  intro v2 σ h
  unfold fX11_clusterOf_2 at h
  have f := sm_r σ x y
  rcases ite_or h with ⟨_, h⟩ | ⟨_, h⟩
  · obtain ⟨-, rfl⟩ := so_inj h
    exact f
  · obtain ⟨g2, h⟩ := gg_some h
    obtain ⟨g3, h⟩ := gg_some h
    obtain ⟨x4, ex4, h⟩ := bnd_nm h
    obtain ⟨g5, h⟩ := gg_some h
    rcases ite_or h with ⟨_, h⟩ | ⟨_, h⟩
    · exact sm_t f (wX11_clusterOf_105 (fun v2 σ h => ih v2 σ h) h)
    · obtain ⟨g7, h⟩ := gg_some h
      obtain ⟨g8, h⟩ := gg_some h
      obtain ⟨x9, ex9, h⟩ := bnd_nm h
      obtain ⟨g10, h⟩ := gg_some h
      rcases ite_or h with ⟨_, h⟩ | ⟨_, h⟩
      · exact sm_t f (wX11_clusterOf_105 (fun v2 σ h => ih v2 σ h) h)
      · obtain ⟨g12, h⟩ := gg_some h
        obtain ⟨g13, h⟩ := gg_some h
        obtain ⟨x14, ex14, h⟩ := bnd_nm h
        obtain ⟨g15, h⟩ := gg_some h
        rcases ite_or h with ⟨_, h⟩ | ⟨_, h⟩
        · exact sm_t f (wX11_clusterOf_105 (fun v2 σ h => ih v2 σ h) h)
        · obtain ⟨g17, h⟩ := gg_some h
          obtain ⟨g18, h⟩ := gg_some h
          obtain ⟨x19, ex19, h⟩ := bnd_nm h
          obtain ⟨g20, h⟩ := gg_some h
          rcases ite_or h with ⟨_, h⟩ | ⟨_, h⟩
          · exact sm_t f (wX11_clusterOf_105 (fun v2 σ h => ih v2 σ h) h)
          · obtain ⟨-, rfl⟩ := so_inj h
            exact f
set_option maxRecDepth 10000 in
theorem wX11_clusterOf {x y : Nat} {p1 : Int32} {r : Int32} {σ' : gS} {σ : gS} (h : fX11_clusterOf p1 σ = some (r, σ')) : sm σ σ' x y := by
  unfold fX11_clusterOf at h
  have f := sm_r σ x y
  exact sm_t f (wX11_clusterOf_2 2000 0 σ h)
set_option maxRecDepth 10000 in
theorem wX11_cluster_18 {x y : Nat} {p1 : Int32} {r : Int32} {σ' : gS} {s0 : Int32} {σ : gS} (h : fX11_cluster_18 p1 s0 σ = some (r, σ')) : sm σ σ' x y := by
  unfold fX11_cluster_18 at h
  have f := sm_r σ x y
  obtain ⟨-, rfl⟩ := so_inj h
  exact f
set_option maxRecDepth 10000 in
theorem wX11_cluster {x y : Nat} {p1 : Int32} {r : Int32} {σ' : gS} {σ : gS} (h : fX11_cluster p1 σ = some (r, σ')) : sm σ σ' x y := by
  unfold fX11_cluster at h
  have f := sm_r σ x y
  obtain ⟨x1, σ2, y3, h⟩ := bd_some h
  have f := sm_t f (wX11_isBar y3)
  rcases ite_or h with ⟨_, h⟩ | ⟨_, h⟩
  · exact sm_t f (wX11_cluster_18 h)
  · obtain ⟨x5, σ6, y7, h⟩ := bd_some h
    have f := sm_t f (wX11_clusterOf y7)
    exact sm_t f (wX11_cluster_18 h)
set_option maxRecDepth 10000 in
theorem wX11_mobility_25 {x y : Nat} {r : Int32} {σ' : gS} {s0 : Int32} {σ : gS} (h : fX11_mobility_25 s0 σ = some (r, σ')) : sm σ σ' x y := by
  unfold fX11_mobility_25 at h
  have f := sm_r σ x y
  obtain ⟨-, rfl⟩ := so_inj h
  exact f
set_option maxRecDepth 10000 in
theorem wX11_mobility {x y : Nat} {r : Int32} {σ' : gS} {σ : gS} (h : fX11_mobility σ = some (r, σ')) : sm σ σ' x y := by
  unfold fX11_mobility at h
  have f := sm_r σ x y
  rcases ite_or h with ⟨_, h⟩ | ⟨_, h⟩
  · exact sm_t f (wX11_mobility_25 h)
  · exact sm_t f (wX11_mobility_25 h)
set_option maxRecDepth 10000 in
theorem wX11_inverse_38 {x y : Nat} {p1 : Int64} {k10 : Int64 → Int64 → Int64 → gS → Option (Int64 × gS)} {r : Int64} {σ' : gS} {v4 : Int64} {v6 : Int64} {s0 : Int64} {σ : gS} (hk10 : ∀ (v2 : Int64) (v4 : Int64) (v6 : Int64) (σ : gS), k10 v2 v4 v6 σ = some (r, σ') → sm σ σ' x y) (h : fX11_inverse_38 p1 k10 v4 v6 s0 σ = some (r, σ')) : sm σ σ' x y := by
  unfold fX11_inverse_38 at h
  have f := sm_r σ x y
  obtain ⟨x1, ex1, h⟩ := bnd_nm h
  obtain ⟨x2, ex2, h⟩ := bnd_nm h
  exact sm_t f (hk10 s0 x1 x2 σ h)
set_option maxRecDepth 10000 in
theorem wX11_inverse_10 {x y : Nat} {p1 : Int64} {r : Int64} {σ' : gS} : ∀ (n : Nat) (v2 : Int64) (v4 : Int64) (v6 : Int64) (σ : gS), fX11_inverse_10 p1 n v2 v4 v6 σ = some (r, σ') → sm σ σ' x y := by
  intro n
  induction n with
  | zero => intro v2 v4 v6 σ h; exact absurd (show none = some (r, σ') from h) (by intro q; cases q)
  | succ n ih =>
  intro v2 v4 v6 σ h
  unfold fX11_inverse_10 at h
  have f := sm_r σ x y
  rcases ite_or h with ⟨_, h⟩ | ⟨_, h⟩
  · obtain ⟨-, rfl⟩ := so_inj h
    exact f
  · rcases ite_or h with ⟨_, h⟩ | ⟨_, h⟩
    · exact sm_t f (wX11_inverse_38 (fun v2 v4 v6 σ h => ih v2 v4 v6 σ h) h)
    · exact sm_t f (wX11_inverse_38 (fun v2 v4 v6 σ h => ih v2 v4 v6 σ h) h)
set_option maxRecDepth 10000 in
theorem wX11_inverse {x y : Nat} {p1 : Int64} {r : Int64} {σ' : gS} {σ : gS} (h : fX11_inverse p1 σ = some (r, σ')) : sm σ σ' x y := by
  unfold fX11_inverse at h
  have f := sm_r σ x y
  exact sm_t f (wX11_inverse_10 2000 1 p1 1000001 σ h)
set_option maxRecDepth 10000 in
theorem wX11_enter_70 {x y : Nat} {p1 : Int32} {p2 : Int32} {p3 : Int64} {p4 : Int64} {r : Unit} {σ' : gS} {σ : gS} (nh_208 : ¬ x = 208) (h : fX11_enter_70 p1 p2 p3 p4 σ = some (r, σ')) : sm σ σ' x y := by
  unfold fX11_enter_70 at h
  have f := sm_r σ x y
  obtain ⟨-, rfl⟩ := so_inj h
  exact f
set_option maxRecDepth 10000 in
theorem wX11_enter {x y : Nat} {p1 : Int32} {p2 : Int32} {p3 : Int64} {p4 : Int64} {r : Unit} {σ' : gS} {σ : gS} (nh_208 : ¬ x = 208) (h : fX11_enter p1 p2 p3 p4 σ = some (r, σ')) : sm σ σ' x y := by
  unfold fX11_enter at h
  have f := sm_r σ x y
  obtain ⟨g1, h⟩ := gg_some h
  rcases ite_or h with ⟨_, h⟩ | ⟨_, h⟩
  · obtain ⟨g3, h⟩ := gg_some h
    obtain ⟨g4, h⟩ := gg_some h
    obtain ⟨σ5, eσ5, h⟩ := bnd_nm h
    have f := sm_J f (fun q => nh_208 q.1) eσ5
    obtain ⟨g6, h⟩ := gg_some h
    obtain ⟨g7, h⟩ := gg_some h
    obtain ⟨σ8, eσ8, h⟩ := bnd_nm h
    have f := sm_J f (fun q => nh_208 q.1) eσ8
    exact sm_t f (wX11_enter_70 nh_208 h)
  · exact sm_t f (wX11_enter_70 nh_208 h)
set_option maxRecDepth 10000 in
theorem wX11_lead_210 {x y : Nat} {p1 : Int32} {p2 : Int32} {k100 : Int32 → gS → Option (Unit × gS)} {r : Unit} {σ' : gS} {v5 : Int32} {σ : gS} (hk100 : ∀ (v5 : Int32) (σ : gS), k100 v5 σ = some (r, σ') → sm σ σ' x y) (nh_168_67 : ¬ (x = 168 ∧ y = 67)) (nh_208 : ¬ x = 208) (nh_209 : ¬ x = 209) (h : fX11_lead_210 p1 p2 k100 v5 σ = some (r, σ')) : sm σ σ' x y := by
  unfold fX11_lead_210 at h
  have f := sm_r σ x y
  obtain ⟨x1, ex1, h⟩ := bnd_nm h
  exact sm_t f (hk100 x1 σ h)
set_option maxRecDepth 10000 in
theorem wX11_lead_126 {x y : Nat} {p1 : Int32} {p2 : Int32} {k100 : Int32 → gS → Option (Unit × gS)} {r : Unit} {σ' : gS} (hk100 : ∀ (v5 : Int32) (σ : gS), k100 v5 σ = some (r, σ') → sm σ σ' x y) (nh_168_67 : ¬ (x = 168 ∧ y = 67)) (nh_208 : ¬ x = 208) (nh_209 : ¬ x = 209) : ∀ (n : Nat) (v5 : Int32) (v6 : Int64) (v8 : Int32) (σ : gS), fX11_lead_126 p1 p2 k100 n v5 v6 v8 σ = some (r, σ') → sm σ σ' x y := by
  intro n
  induction n with
  | zero => intro v5 v6 v8 σ h; exact absurd (show none = some (r, σ') from h) (by intro q; cases q)
  | succ n ih =>
  intro v5 v6 v8 σ h
  unfold fX11_lead_126 at h
  have f := sm_r σ x y
  rcases ite_or h with ⟨_, h⟩ | ⟨_, h⟩
  · exact sm_t f (wX11_lead_210 hk100 nh_168_67 nh_208 nh_209 h)
  · rcases ite_or h with ⟨_, h⟩ | ⟨_, h⟩
    · exact sm_t f (wX11_lead_210 hk100 nh_168_67 nh_208 nh_209 h)
    · rcases ite_or h with ⟨_, h⟩ | ⟨_, h⟩
      · exact sm_t f (wX11_lead_210 hk100 nh_168_67 nh_208 nh_209 h)
      · obtain ⟨x4, ex4, h⟩ := bnd_nm h
        obtain ⟨g5, h⟩ := gg_some h
        obtain ⟨x6, ex6, h⟩ := bnd_nm h
        obtain ⟨g7, h⟩ := gg_some h
        obtain ⟨g8, h⟩ := gg_some h
        obtain ⟨σ9, eσ9, h⟩ := bnd_nm h
        have f := sm_J f (fun q => nh_208 q.1) eσ9
        obtain ⟨x10, ex10, h⟩ := bnd_nm h
        exact sm_t f (ih v5 v6 x10 σ9 h)
set_option maxRecDepth 10000 in
theorem wX11_lead_100 {x y : Nat} {p1 : Int32} {p2 : Int32} {r : Unit} {σ' : gS} (nh_168_67 : ¬ (x = 168 ∧ y = 67)) (nh_208 : ¬ x = 208) (nh_209 : ¬ x = 209) : ∀ (n : Nat) (v5 : Int32) (σ : gS), fX11_lead_100 p1 p2 n v5 σ = some (r, σ') → sm σ σ' x y := by
  intro n
  induction n with
  | zero => intro v5 σ h; exact absurd (show none = some (r, σ') from h) (by intro q; cases q)
  | succ n ih =>
  intro v5 σ h
  unfold fX11_lead_100 at h
  have f := sm_r σ x y
  rcases ite_or h with ⟨_, h⟩ | ⟨_, h⟩
  · obtain ⟨g2, h⟩ := gg_some h
    obtain ⟨σ3, eσ3, h⟩ := bnd_nm h
    have f := sm_I f (fun q => nh_209 q.1) eσ3
    obtain ⟨σ4, eσ4, h⟩ := bnd_nm h
    have f := sm_I f nh_168_67 eσ4
    obtain ⟨-, rfl⟩ := so_inj h
    exact f
  · obtain ⟨x5, ex5, h⟩ := bnd_nm h
    obtain ⟨g6, h⟩ := gg_some h
    exact sm_t f (wX11_lead_126 (fun v5 σ h => ih v5 σ h) nh_168_67 nh_208 nh_209 2000 v5 (σ.2.1 208 x5.toNatClampNeg) 0 σ h)
set_option maxRecDepth 10000 in
theorem wX11_lead_18 {x y : Nat} {p1 : Int32} {p2 : Int32} {r : Unit} {σ' : gS} (nh_168_67 : ¬ (x = 168 ∧ y = 67)) (nh_208 : ¬ x = 208) (nh_209 : ¬ x = 209) : ∀ (n : Nat) (v3 : Int64) (v5 : Int32) (σ : gS), fX11_lead_18 p1 p2 n v3 v5 σ = some (r, σ') → sm σ σ' x y := by
  intro n
  induction n with
  | zero => intro v3 v5 σ h; exact absurd (show none = some (r, σ') from h) (by intro q; cases q)
  | succ n ih =>
  intro v3 v5 σ h
  unfold fX11_lead_18 at h
  have f := sm_r σ x y
  rcases ite_or h with ⟨_, h⟩ | ⟨_, h⟩
  · exact sm_t f (wX11_lead_100 nh_168_67 nh_208 nh_209 2000 0 σ h)
  · obtain ⟨x2, ex2, h⟩ := bnd_nm h
    obtain ⟨g3, h⟩ := gg_some h
    obtain ⟨x4, ex4, h⟩ := bnd_nm h
    obtain ⟨g5, h⟩ := gg_some h
    obtain ⟨g6, h⟩ := gg_some h
    obtain ⟨σ7, eσ7, h⟩ := bnd_nm h
    have f := sm_J f (fun q => nh_208 q.1) eσ7
    obtain ⟨g8, h⟩ := gg_some h
    obtain ⟨σ9, eσ9, h⟩ := bnd_nm h
    have f := sm_J f (fun q => nh_208 q.1) eσ9
    obtain ⟨x10, ex10, h⟩ := bnd_nm h
    exact sm_t f (ih v3 x10 σ9 h)
set_option maxRecDepth 10000 in
theorem wX11_lead {x y : Nat} {p1 : Int32} {p2 : Int32} {r : Unit} {σ' : gS} {σ : gS} (nh_168_67 : ¬ (x = 168 ∧ y = 67)) (nh_208 : ¬ x = 208) (nh_209 : ¬ x = 209) (h : fX11_lead p1 p2 σ = some (r, σ')) : sm σ σ' x y := by
  unfold fX11_lead at h
  have f := sm_r σ x y
  obtain ⟨x1, ex1, h⟩ := bnd_nm h
  obtain ⟨g2, h⟩ := gg_some h
  obtain ⟨x3, σ4, y5, h⟩ := bd_some h
  have f := sm_t f (wX11_inverse y5)
  exact sm_t f (wX11_lead_18 nh_168_67 nh_208 nh_209 2000 x3 0 σ4 h)
set_option maxRecDepth 10000 in
theorem wX11_findRank_44 {x y : Nat} {k7 : Int32 → gS → Option (Unit × gS)} {r : Unit} {σ' : gS} {v1 : Int32} {s1 : Int32} {s2 : Int32} {σ : gS} (hk7 : ∀ (v1 : Int32) (σ : gS), k7 v1 σ = some (r, σ') → sm σ σ' x y) (nh_168_63 : ¬ (x = 168 ∧ y = 63)) (nh_168_67 : ¬ (x = 168 ∧ y = 67)) (nh_206 : ¬ x = 206) (nh_208 : ¬ x = 208) (nh_209 : ¬ x = 209) (h : fX11_findRank_44 k7 v1 s1 s2 σ = some (r, σ')) : sm σ σ' x y := by
  unfold fX11_findRank_44 at h
  have f := sm_r σ x y
  obtain ⟨σ1, eσ1, h⟩ := bnd_nm h
  have f := sm_I f nh_168_63 eσ1
  obtain ⟨x2, ex2, h⟩ := bnd_nm h
  exact sm_t f (hk7 x2 σ1 h)
set_option maxRecDepth 10000 in
theorem wX11_findRank_235 {x y : Nat} {k171 : Int32 → gS → Option (Unit × gS)} {r : Unit} {σ' : gS} {v1 : Int32} {σ : gS} (hk171 : ∀ (v1 : Int32) (σ : gS), k171 v1 σ = some (r, σ') → sm σ σ' x y) (nh_168_63 : ¬ (x = 168 ∧ y = 63)) (nh_168_67 : ¬ (x = 168 ∧ y = 67)) (nh_206 : ¬ x = 206) (nh_208 : ¬ x = 208) (nh_209 : ¬ x = 209) (h : fX11_findRank_235 k171 v1 σ = some (r, σ')) : sm σ σ' x y := by
  unfold fX11_findRank_235 at h
  have f := sm_r σ x y
  obtain ⟨x1, ex1, h⟩ := bnd_nm h
  exact sm_t f (hk171 x1 σ h)
set_option maxRecDepth 10000 in
theorem wX11_findRank_221 {x y : Nat} {k171 : Int32 → gS → Option (Unit × gS)} {r : Unit} {σ' : gS} {v1 : Int32} {v2 : Int32} {σ : gS} (hk171 : ∀ (v1 : Int32) (σ : gS), k171 v1 σ = some (r, σ') → sm σ σ' x y) (nh_168_63 : ¬ (x = 168 ∧ y = 63)) (nh_168_67 : ¬ (x = 168 ∧ y = 67)) (nh_206 : ¬ x = 206) (nh_208 : ¬ x = 208) (nh_209 : ¬ x = 209) (h : fX11_findRank_221 k171 v1 v2 σ = some (r, σ')) : sm σ σ' x y := by
  unfold fX11_findRank_221 at h
  have f := sm_r σ x y
  rcases ite_or h with ⟨_, h⟩ | ⟨_, h⟩
  · exact sm_t f (wX11_findRank_235 hk171 nh_168_63 nh_168_67 nh_206 nh_208 nh_209 h)
  · obtain ⟨_, σ2, y3, h⟩ := bd_some h
    have f := sm_t f (wX11_lead nh_168_67 nh_208 nh_209 y3)
    exact sm_t f (wX11_findRank_235 hk171 nh_168_63 nh_168_67 nh_206 nh_208 nh_209 h)
set_option maxRecDepth 10000 in
theorem wX11_findRank_191 {x y : Nat} {k171 : Int32 → gS → Option (Unit × gS)} {r : Unit} {σ' : gS} (hk171 : ∀ (v1 : Int32) (σ : gS), k171 v1 σ = some (r, σ') → sm σ σ' x y) (nh_168_63 : ¬ (x = 168 ∧ y = 63)) (nh_168_67 : ¬ (x = 168 ∧ y = 67)) (nh_206 : ¬ x = 206) (nh_208 : ¬ x = 208) (nh_209 : ¬ x = 209) : ∀ (n : Nat) (v1 : Int32) (v2 : Int32) (σ : gS), fX11_findRank_191 k171 n v1 v2 σ = some (r, σ') → sm σ σ' x y := by
  intro n
  induction n with
  | zero => intro v1 v2 σ h; exact absurd (show none = some (r, σ') from h) (by intro q; cases q)
  | succ n ih =>
  intro v1 v2 σ h
  unfold fX11_findRank_191 at h
  have f := sm_r σ x y
  rcases ite_or h with ⟨_, h⟩ | ⟨_, h⟩
  · exact sm_t f (wX11_findRank_221 hk171 nh_168_63 nh_168_67 nh_206 nh_208 nh_209 h)
  · obtain ⟨x2, ex2, h⟩ := bnd_nm h
    obtain ⟨g3, h⟩ := gg_some h
    rcases ite_or h with ⟨_, h⟩ | ⟨_, h⟩
    · obtain ⟨x5, ex5, h⟩ := bnd_nm h
      exact sm_t f (ih v1 x5 σ h)
    · exact sm_t f (wX11_findRank_221 hk171 nh_168_63 nh_168_67 nh_206 nh_208 nh_209 h)
set_option maxRecDepth 10000 in
theorem wX11_findRank_171 {x y : Nat} {r : Unit} {σ' : gS} (nh_168_63 : ¬ (x = 168 ∧ y = 63)) (nh_168_67 : ¬ (x = 168 ∧ y = 67)) (nh_206 : ¬ x = 206) (nh_208 : ¬ x = 208) (nh_209 : ¬ x = 209) : ∀ (n : Nat) (v1 : Int32) (σ : gS), fX11_findRank_171 n v1 σ = some (r, σ') → sm σ σ' x y := by
  intro n
  induction n with
  | zero => intro v1 σ h; exact absurd (show none = some (r, σ') from h) (by intro q; cases q)
  | succ n ih =>
  intro v1 σ h
  unfold fX11_findRank_171 at h
  have f := sm_r σ x y
  rcases ite_or h with ⟨_, h⟩ | ⟨_, h⟩
  · obtain ⟨-, rfl⟩ := so_inj h
    exact f
  · obtain ⟨g2, h⟩ := gg_some h
    obtain ⟨σ3, eσ3, h⟩ := bnd_nm h
    have f := sm_I f (fun q => nh_209 q.1) eσ3
    exact sm_t f (wX11_findRank_191 (fun v1 σ h => ih v1 σ h) nh_168_63 nh_168_67 nh_206 nh_208 nh_209 2000 v1 (σ3.1 168 67) σ3 h)
set_option maxRecDepth 10000 in
theorem wX11_findRank_82 {x y : Nat} {r : Unit} {σ' : gS} (nh_168_63 : ¬ (x = 168 ∧ y = 63)) (nh_168_67 : ¬ (x = 168 ∧ y = 67)) (nh_206 : ¬ x = 206) (nh_208 : ¬ x = 208) (nh_209 : ¬ x = 209) : ∀ (n : Nat) (v1 : Int32) (σ : gS), fX11_findRank_82 n v1 σ = some (r, σ') → sm σ σ' x y := by
  intro n
  induction n with
  | zero => intro v1 σ h; exact absurd (show none = some (r, σ') from h) (by intro q; cases q)
  | succ n ih =>
  intro v1 σ h
  unfold fX11_findRank_82 at h
  have f := sm_r σ x y
  rcases ite_or h with ⟨_, h⟩ | ⟨_, h⟩
  · obtain ⟨σ2, eσ2, h⟩ := bnd_nm h
    have f := sm_I f nh_168_67 eσ2
    exact sm_t f (wX11_findRank_171 nh_168_63 nh_168_67 nh_206 nh_208 nh_209 2000 0 σ2 h)
  · obtain ⟨g3, h⟩ := gg_some h
    obtain ⟨g4, h⟩ := gg_some h
    obtain ⟨g5, h⟩ := gg_some h
    obtain ⟨g6, h⟩ := gg_some h
    obtain ⟨x7, ex7, h⟩ := bnd_nm h
    obtain ⟨g8, h⟩ := gg_some h
    obtain ⟨g9, h⟩ := gg_some h
    obtain ⟨x10, ex10, h⟩ := bnd_nm h
    obtain ⟨_, σ11, y12, h⟩ := bd_some h
    have f := sm_t f (wX11_enter nh_208 y12)
    obtain ⟨_, σ13, y14, h⟩ := bd_some h
    have f := sm_t f (wX11_enter nh_208 y14)
    obtain ⟨x15, ex15, h⟩ := bnd_nm h
    exact sm_t f (ih x15 σ13 h)
set_option maxRecDepth 10000 in
theorem wX11_findRank_56 {x y : Nat} {r : Unit} {σ' : gS} (nh_168_63 : ¬ (x = 168 ∧ y = 63)) (nh_168_67 : ¬ (x = 168 ∧ y = 67)) (nh_206 : ¬ x = 206) (nh_208 : ¬ x = 208) (nh_209 : ¬ x = 209) : ∀ (n : Nat) (v1 : Int32) (σ : gS), fX11_findRank_56 n v1 σ = some (r, σ') → sm σ σ' x y := by
  intro n
  induction n with
  | zero => intro v1 σ h; exact absurd (show none = some (r, σ') from h) (by intro q; cases q)
  | succ n ih =>
  intro v1 σ h
  unfold fX11_findRank_56 at h
  have f := sm_r σ x y
  rcases ite_or h with ⟨_, h⟩ | ⟨_, h⟩
  · exact sm_t f (wX11_findRank_82 nh_168_63 nh_168_67 nh_206 nh_208 nh_209 2000 0 σ h)
  · obtain ⟨g2, h⟩ := gg_some h
    obtain ⟨σ3, eσ3, h⟩ := bnd_nm h
    have f := sm_J f (fun q => nh_208 q.1) eσ3
    obtain ⟨x4, ex4, h⟩ := bnd_nm h
    exact sm_t f (ih x4 σ3 h)
set_option maxRecDepth 10000 in
theorem wX11_findRank_7 {x y : Nat} {r : Unit} {σ' : gS} (nh_168_63 : ¬ (x = 168 ∧ y = 63)) (nh_168_67 : ¬ (x = 168 ∧ y = 67)) (nh_206 : ¬ x = 206) (nh_208 : ¬ x = 208) (nh_209 : ¬ x = 209) : ∀ (n : Nat) (v1 : Int32) (σ : gS), fX11_findRank_7 n v1 σ = some (r, σ') → sm σ σ' x y := by
  intro n
  induction n with
  | zero => intro v1 σ h; exact absurd (show none = some (r, σ') from h) (by intro q; cases q)
  | succ n ih =>
  intro v1 σ h
  unfold fX11_findRank_7 at h
  have f := sm_r σ x y
  rcases ite_or h with ⟨_, h⟩ | ⟨_, h⟩
  · exact sm_t f (wX11_findRank_56 nh_168_63 nh_168_67 nh_206 nh_208 nh_209 2000 0 σ h)
  · obtain ⟨g2, h⟩ := gg_some h
    obtain ⟨σ3, eσ3, h⟩ := bnd_nm h
    have f := sm_I f (fun q => nh_206 q.1) eσ3
    obtain ⟨g4, h⟩ := gg_some h
    rcases ite_or h with ⟨_, h⟩ | ⟨_, h⟩
    · exact sm_t f (wX11_findRank_44 (fun v1 σ h => ih v1 σ h) nh_168_63 nh_168_67 nh_206 nh_208 nh_209 h)
    · exact sm_t f (wX11_findRank_44 (fun v1 σ h => ih v1 σ h) nh_168_63 nh_168_67 nh_206 nh_208 nh_209 h)
set_option maxRecDepth 10000 in
theorem wX11_findRank {x y : Nat} {r : Unit} {σ' : gS} {σ : gS} (nh_168_63 : ¬ (x = 168 ∧ y = 63)) (nh_168_67 : ¬ (x = 168 ∧ y = 67)) (nh_206 : ¬ x = 206) (nh_208 : ¬ x = 208) (nh_209 : ¬ x = 209) (h : fX11_findRank σ = some (r, σ')) : sm σ σ' x y := by
  unfold fX11_findRank at h
  have f := sm_r σ x y
  obtain ⟨σ1, eσ1, h⟩ := bnd_nm h
  have f := sm_I f nh_168_63 eσ1
  exact sm_t f (wX11_findRank_7 nh_168_63 nh_168_67 nh_206 nh_208 nh_209 2000 0 σ1 h)
set_option maxRecDepth 10000 in
theorem wX11_rank_56 {x y : Nat} {p1 : Int32} {r : Int32} {σ' : gS} {s0 : Int32} {σ : gS} (nh_168_63 : ¬ (x = 168 ∧ y = 63)) (nh_168_67 : ¬ (x = 168 ∧ y = 67)) (nh_206 : ¬ x = 206) (nh_208 : ¬ x = 208) (nh_209 : ¬ x = 209) (h : fX11_rank_56 p1 s0 σ = some (r, σ')) : sm σ σ' x y := by
  unfold fX11_rank_56 at h
  have f := sm_r σ x y
  obtain ⟨-, rfl⟩ := so_inj h
  exact f
set_option maxRecDepth 10000 in
theorem wX11_rank {x y : Nat} {p1 : Int32} {r : Int32} {σ' : gS} {σ : gS} (nh_168_63 : ¬ (x = 168 ∧ y = 63)) (nh_168_67 : ¬ (x = 168 ∧ y = 67)) (nh_206 : ¬ x = 206) (nh_208 : ¬ x = 208) (nh_209 : ¬ x = 209) (h : fX11_rank p1 σ = some (r, σ')) : sm σ σ' x y := by
  unfold fX11_rank at h
  have f := sm_r σ x y
  obtain ⟨x1, σ2, y3, h⟩ := bd_some h
  have f := sm_t f (wX11_in y3)
  rcases ite_or h with ⟨_, h⟩ | ⟨_, h⟩
  · obtain ⟨-, rfl⟩ := so_inj h
    exact f
  · obtain ⟨_, σ5, y6, h⟩ := bd_some h
    have f := sm_t f (wX11_findRank nh_168_63 nh_168_67 nh_206 nh_208 nh_209 y6)
    rcases ite_or h with ⟨_, h⟩ | ⟨_, h⟩
    · exact sm_t f (wX11_rank_56 nh_168_63 nh_168_67 nh_206 nh_208 nh_209 h)
    · rcases ite_or h with ⟨_, h⟩ | ⟨_, h⟩
      · exact sm_t f (wX11_rank_56 nh_168_63 nh_168_67 nh_206 nh_208 nh_209 h)
      · exact sm_t f (wX11_rank_56 nh_168_63 nh_168_67 nh_206 nh_208 nh_209 h)
set_option maxRecDepth 10000 in
theorem wX11_motion_43 {x y : Nat} {p1 : Int32} {p2 : Int32} {p3 : Int32} {r : Int32} {σ' : gS} {σ : gS} (nh_168_63 : ¬ (x = 168 ∧ y = 63)) (nh_168_67 : ¬ (x = 168 ∧ y = 67)) (nh_206 : ¬ x = 206) (nh_208 : ¬ x = 208) (nh_209 : ¬ x = 209) (h : fX11_motion_43 p1 p2 p3 σ = some (r, σ')) : sm σ σ' x y := by
  unfold fX11_motion_43 at h
  have f := sm_r σ x y
  obtain ⟨-, rfl⟩ := so_inj h
  exact f
set_option maxRecDepth 10000 in
theorem wX11_motion_89 {x y : Nat} {p1 : Int32} {p2 : Int32} {p3 : Int32} {k63 : Int32 → Int32 → gS → Option (Int32 × gS)} {r : Int32} {σ' : gS} {v4 : Int32} {s0 : Int32} {s1 : Int32} {σ : gS} (hk63 : ∀ (v4 : Int32) (v5 : Int32) (σ : gS), k63 v4 v5 σ = some (r, σ') → sm σ σ' x y) (nh_168_63 : ¬ (x = 168 ∧ y = 63)) (nh_168_67 : ¬ (x = 168 ∧ y = 67)) (nh_206 : ¬ x = 206) (nh_208 : ¬ x = 208) (nh_209 : ¬ x = 209) (h : fX11_motion_89 p1 p2 p3 k63 v4 s0 s1 σ = some (r, σ')) : sm σ σ' x y := by
  unfold fX11_motion_89 at h
  have f := sm_r σ x y
  obtain ⟨x1, ex1, h⟩ := bnd_nm h
  exact sm_t f (hk63 v4 x1 σ h)
set_option maxRecDepth 10000 in
theorem wX11_motion_127 {x y : Nat} {p1 : Int32} {p2 : Int32} {p3 : Int32} {r : Int32} {σ' : gS} {s0 : Int32} {σ : gS} (nh_168_63 : ¬ (x = 168 ∧ y = 63)) (nh_168_67 : ¬ (x = 168 ∧ y = 67)) (nh_206 : ¬ x = 206) (nh_208 : ¬ x = 208) (nh_209 : ¬ x = 209) (h : fX11_motion_127 p1 p2 p3 s0 σ = some (r, σ')) : sm σ σ' x y := by
  unfold fX11_motion_127 at h
  have f := sm_r σ x y
  obtain ⟨-, rfl⟩ := so_inj h
  exact f
set_option maxRecDepth 10000 in
theorem wX11_motion_63 {x y : Nat} {p1 : Int32} {p2 : Int32} {p3 : Int32} {r : Int32} {σ' : gS} (nh_168_63 : ¬ (x = 168 ∧ y = 63)) (nh_168_67 : ¬ (x = 168 ∧ y = 67)) (nh_206 : ¬ x = 206) (nh_208 : ¬ x = 208) (nh_209 : ¬ x = 209) : ∀ (n : Nat) (v4 : Int32) (v5 : Int32) (σ : gS), fX11_motion_63 p1 p2 p3 n v4 v5 σ = some (r, σ') → sm σ σ' x y := by
  intro n
  induction n with
  | zero => intro v4 v5 σ h; exact absurd (show none = some (r, σ') from h) (by intro q; cases q)
  | succ n ih =>
  intro v4 v5 σ h
  unfold fX11_motion_63 at h
  have f := sm_r σ x y
  rcases ite_or h with ⟨_, h⟩ | ⟨_, h⟩
  · obtain ⟨g2, h⟩ := gg_some h
    obtain ⟨x3, ex3, h⟩ := bnd_nm h
    obtain ⟨g4, h⟩ := gg_some h
    rcases ite_or h with ⟨_, h⟩ | ⟨_, h⟩
    · obtain ⟨g6, h⟩ := gg_some h
      obtain ⟨x7, ex7, h⟩ := bnd_nm h
      obtain ⟨g8, h⟩ := gg_some h
      obtain ⟨-, rfl⟩ := so_inj h
      exact f
    · rcases ite_or h with ⟨_, h⟩ | ⟨_, h⟩
      · exact sm_t f (wX11_motion_127 nh_168_63 nh_168_67 nh_206 nh_208 nh_209 h)
      · exact sm_t f (wX11_motion_127 nh_168_63 nh_168_67 nh_206 nh_208 nh_209 h)
  · obtain ⟨x10, ex10, h⟩ := bnd_nm h
    obtain ⟨g11, h⟩ := gg_some h
    rcases ite_or h with ⟨_, h⟩ | ⟨_, h⟩
    · exact sm_t f (wX11_motion_89 (fun v4 v5 σ h => ih v4 v5 σ h) nh_168_63 nh_168_67 nh_206 nh_208 nh_209 h)
    · exact sm_t f (wX11_motion_89 (fun v4 v5 σ h => ih v4 v5 σ h) nh_168_63 nh_168_67 nh_206 nh_208 nh_209 h)
set_option maxRecDepth 10000 in
theorem wX11_motion {x y : Nat} {p1 : Int32} {p2 : Int32} {p3 : Int32} {r : Int32} {σ' : gS} {σ : gS} (nh_168_63 : ¬ (x = 168 ∧ y = 63)) (nh_168_67 : ¬ (x = 168 ∧ y = 67)) (nh_206 : ¬ x = 206) (nh_208 : ¬ x = 208) (nh_209 : ¬ x = 209) (h : fX11_motion p1 p2 p3 σ = some (r, σ')) : sm σ σ' x y := by
  unfold fX11_motion at h
  have f := sm_r σ x y
  obtain ⟨_, σ1, y2, h⟩ := bd_some h
  have f := sm_t f (wX11_findRank nh_168_63 nh_168_67 nh_206 nh_208 nh_209 y2)
  obtain ⟨x3, σ4, y5, h⟩ := bd_some h
  have f := sm_t f (wX11_in y5)
  rcases ite_or h with ⟨_, h⟩ | ⟨_, h⟩
  · exact sm_t f (wX11_motion_43 nh_168_63 nh_168_67 nh_206 nh_208 nh_209 h)
  · obtain ⟨x7, σ8, y9, h⟩ := bd_some h
    have f := sm_t f (wX11_isJoint y9)
    rcases ite_or h with ⟨_, h⟩ | ⟨_, h⟩
    · exact sm_t f (wX11_motion_43 nh_168_63 nh_168_67 nh_206 nh_208 nh_209 h)
    · obtain ⟨x11, σ12, y13, h⟩ := bd_some h
      have f := sm_t f (wX11_in y13)
      rcases ite_or h with ⟨_, h⟩ | ⟨_, h⟩
      · exact sm_t f (wX11_motion_43 nh_168_63 nh_168_67 nh_206 nh_208 nh_209 h)
      · obtain ⟨g15, h⟩ := gg_some h
        rcases ite_or h with ⟨_, h⟩ | ⟨_, h⟩
        · exact sm_t f (wX11_motion_63 nh_168_63 nh_168_67 nh_206 nh_208 nh_209 2000 (-1) (-1) σ12 h)
        · obtain ⟨-, rfl⟩ := so_inj h
          exact f
set_option maxRecDepth 10000 in
theorem wX11_down_47 {x y : Nat} {p1 : Int64} {p2 : Int64} {r : Int64} {σ' : gS} {s0 : Int64} {σ : gS} (h : fX11_down_47 p1 p2 s0 σ = some (r, σ')) : sm σ σ' x y := by
  unfold fX11_down_47 at h
  have f := sm_r σ x y
  obtain ⟨-, rfl⟩ := so_inj h
  exact f
set_option maxRecDepth 10000 in
theorem wX11_down_45 {x y : Nat} {p1 : Int64} {p2 : Int64} {r : Int64} {σ' : gS} {v4 : Int64} {σ : gS} (h : fX11_down_45 p1 p2 v4 σ = some (r, σ')) : sm σ σ' x y := by
  unfold fX11_down_45 at h
  have f := sm_r σ x y
  exact sm_t f (wX11_down_47 h)
set_option maxRecDepth 10000 in
theorem wX11_down_35 {x y : Nat} {p1 : Int64} {p2 : Int64} {r : Int64} {σ' : gS} {v4 : Int64} {s0 : Int32} {s1 : Int32} {σ : gS} (h : fX11_down_35 p1 p2 v4 s0 s1 σ = some (r, σ')) : sm σ σ' x y := by
  unfold fX11_down_35 at h
  have f := sm_r σ x y
  rcases ite_or h with ⟨_, h⟩ | ⟨_, h⟩
  · exact sm_t f (wX11_down_45 h)
  · exact sm_t f (wX11_down_47 h)
set_option maxRecDepth 10000 in
theorem wX11_down_24 {x y : Nat} {p1 : Int64} {p2 : Int64} {r : Int64} {σ' : gS} {v4 : Int64} {s0 : Int32} {σ : gS} (h : fX11_down_24 p1 p2 v4 s0 σ = some (r, σ')) : sm σ σ' x y := by
  unfold fX11_down_24 at h
  have f := sm_r σ x y
  rcases ite_or h with ⟨_, h⟩ | ⟨_, h⟩
  · exact sm_t f (wX11_down_35 h)
  · exact sm_t f (wX11_down_35 h)
set_option maxRecDepth 10000 in
theorem wX11_down {x y : Nat} {p1 : Int64} {p2 : Int64} {r : Int64} {σ' : gS} {σ : gS} (h : fX11_down p1 p2 σ = some (r, σ')) : sm σ σ' x y := by
  unfold fX11_down at h
  have f := sm_r σ x y
  obtain ⟨g1, h⟩ := gg_some h
  obtain ⟨x2, ex2, h⟩ := bnd_nm h
  obtain ⟨g3, h⟩ := gg_some h
  rcases ite_or h with ⟨_, h⟩ | ⟨_, h⟩
  · exact sm_t f (wX11_down_45 h)
  · rcases ite_or h with ⟨_, h⟩ | ⟨_, h⟩
    · exact sm_t f (wX11_down_24 h)
    · exact sm_t f (wX11_down_24 h)
set_option maxRecDepth 10000 in
theorem wX11_highQuotient_51 {x y : Nat} {p1 : Int64} {p2 : Int64} {k13 : Int64 → Int64 → Int32 → gS → Option (Int64 × gS)} {r : Int64} {σ' : gS} {v4 : Int64} {v6 : Int64} {v8 : Int32} {σ : gS} (hk13 : ∀ (v4 : Int64) (v6 : Int64) (v8 : Int32) (σ : gS), k13 v4 v6 v8 σ = some (r, σ') → sm σ σ' x y) (h : fX11_highQuotient_51 p1 p2 k13 v4 v6 v8 σ = some (r, σ')) : sm σ σ' x y := by
  unfold fX11_highQuotient_51 at h
  have f := sm_r σ x y
  obtain ⟨x1, ex1, h⟩ := bnd_nm h
  exact sm_t f (hk13 v4 v6 x1 σ h)
set_option maxRecDepth 10000 in
theorem wX11_highQuotient_13 {x y : Nat} {p1 : Int64} {p2 : Int64} {r : Int64} {σ' : gS} : ∀ (n : Nat) (v4 : Int64) (v6 : Int64) (v8 : Int32) (σ : gS), fX11_highQuotient_13 p1 p2 n v4 v6 v8 σ = some (r, σ') → sm σ σ' x y := by
  intro n
  induction n with
  | zero => intro v4 v6 v8 σ h; exact absurd (show none = some (r, σ') from h) (by intro q; cases q)
  | succ n ih =>
  intro v4 v6 v8 σ h
  unfold fX11_highQuotient_13 at h
  have f := sm_r σ x y
  rcases ite_or h with ⟨_, h⟩ | ⟨_, h⟩
  · obtain ⟨-, rfl⟩ := so_inj h
    exact f
  · obtain ⟨x2, ex2, h⟩ := bnd_nm h
    obtain ⟨x3, ex3, h⟩ := bnd_nm h
    rcases ite_or h with ⟨_, h⟩ | ⟨_, h⟩
    · exact sm_t f (wX11_highQuotient_51 (fun v4 v6 v8 σ h => ih v4 v6 v8 σ h) h)
    · obtain ⟨x5, ex5, h⟩ := bnd_nm h
      obtain ⟨x6, ex6, h⟩ := bnd_nm h
      exact sm_t f (wX11_highQuotient_51 (fun v4 v6 v8 σ h => ih v4 v6 v8 σ h) h)
set_option maxRecDepth 10000 in
theorem wX11_highQuotient {x y : Nat} {p1 : Int64} {p2 : Int64} {r : Int64} {σ' : gS} {σ : gS} (h : fX11_highQuotient p1 p2 σ = some (r, σ')) : sm σ σ' x y := by
  unfold fX11_highQuotient at h
  have f := sm_r σ x y
  obtain ⟨g1, h⟩ := gg_some h
  obtain ⟨x2, ex2, h⟩ := bnd_nm h
  obtain ⟨g3, h⟩ := gg_some h
  obtain ⟨x4, ex4, h⟩ := bnd_nm h
  exact sm_t f (wX11_highQuotient_13 2000 x2 x4 0 σ h)
set_option maxRecDepth 10000 in
theorem wX11_root_45 {x y : Nat} {p1 : Int64} {k7 : Int64 → Int64 → gS → Option (Int64 × gS)} {r : Int64} {σ' : gS} {v4 : Int64} {s0 : Int64} {σ : gS} (hk7 : ∀ (v2 : Int64) (v4 : Int64) (σ : gS), k7 v2 v4 σ = some (r, σ') → sm σ σ' x y) (h : fX11_root_45 p1 k7 v4 s0 σ = some (r, σ')) : sm σ σ' x y := by
  unfold fX11_root_45 at h
  have f := sm_r σ x y
  obtain ⟨x1, ex1, h⟩ := bnd_nm h
  exact sm_t f (hk7 s0 x1 σ h)
set_option maxRecDepth 10000 in
theorem wX11_root_44 {x y : Nat} {p1 : Int64} {k7 : Int64 → Int64 → gS → Option (Int64 × gS)} {r : Int64} {σ' : gS} {v2 : Int64} {v4 : Int64} {σ : gS} (hk7 : ∀ (v2 : Int64) (v4 : Int64) (σ : gS), k7 v2 v4 σ = some (r, σ') → sm σ σ' x y) (h : fX11_root_44 p1 k7 v2 v4 σ = some (r, σ')) : sm σ σ' x y := by
  unfold fX11_root_44 at h
  have f := sm_r σ x y
  exact sm_t f (wX11_root_45 hk7 h)
set_option maxRecDepth 10000 in
theorem wX11_root_7 {x y : Nat} {p1 : Int64} {r : Int64} {σ' : gS} : ∀ (n : Nat) (v2 : Int64) (v4 : Int64) (σ : gS), fX11_root_7 p1 n v2 v4 σ = some (r, σ') → sm σ σ' x y := by
  intro n
  induction n with
  | zero => intro v2 v4 σ h; exact absurd (show none = some (r, σ') from h) (by intro q; cases q)
  | succ n ih =>
  intro v2 v4 σ h
  unfold fX11_root_7 at h
  have f := sm_r σ x y
  rcases ite_or h with ⟨_, h⟩ | ⟨_, h⟩
  · obtain ⟨-, rfl⟩ := so_inj h
    exact f
  · obtain ⟨x2, ex2, h⟩ := bnd_nm h
    rcases ite_or h with ⟨_, h⟩ | ⟨_, h⟩
    · exact sm_t f (wX11_root_44 (fun v2 v4 σ h => ih v2 v4 σ h) h)
    · rcases ite_or h with ⟨_, h⟩ | ⟨_, h⟩
      · exact sm_t f (wX11_root_44 (fun v2 v4 σ h => ih v2 v4 σ h) h)
      · exact sm_t f (wX11_root_45 (fun v2 v4 σ h => ih v2 v4 σ h) h)
set_option maxRecDepth 10000 in
theorem wX11_root {x y : Nat} {p1 : Int64} {r : Int64} {σ' : gS} {σ : gS} (h : fX11_root p1 σ = some (r, σ')) : sm σ σ' x y := by
  unfold fX11_root at h
  have f := sm_r σ x y
  exact sm_t f (wX11_root_7 2000 0 2147483648 σ h)
set_option maxRecDepth 10000 in
theorem wX11_square {x y : Nat} {p1 : Int64} {p2 : Int64} {r : Int64} {σ' : gS} {σ : gS} (h : fX11_square p1 p2 σ = some (r, σ')) : sm σ σ' x y := by
  unfold fX11_square at h
  have f := sm_r σ x y
  obtain ⟨-, rfl⟩ := so_inj h
  exact f
set_option maxRecDepth 10000 in
theorem wX11_hang_32 {x y : Nat} {p1 : Int32} {r : Unit} {σ' : gS} {σ : gS} (nh_216 : ¬ x = 216) (nh_217 : ¬ x = 217) (nh_218 : ¬ x = 218) (h : fX11_hang_32 p1 σ = some (r, σ')) : sm σ σ' x y := by
  unfold fX11_hang_32 at h
  have f := sm_r σ x y
  obtain ⟨g1, h⟩ := gg_some h
  obtain ⟨σ2, eσ2, h⟩ := bnd_nm h
  have f := sm_I f (fun q => nh_218 q.1) eσ2
  obtain ⟨-, rfl⟩ := so_inj h
  exact f
set_option maxRecDepth 10000 in
theorem wX11_hang {x y : Nat} {p1 : Int32} {r : Unit} {σ' : gS} {σ : gS} (nh_216 : ¬ x = 216) (nh_217 : ¬ x = 217) (nh_218 : ¬ x = 218) (h : fX11_hang p1 σ = some (r, σ')) : sm σ σ' x y := by
  unfold fX11_hang at h
  have f := sm_r σ x y
  obtain ⟨g1, h⟩ := gg_some h
  obtain ⟨g2, h⟩ := gg_some h
  obtain ⟨g3, h⟩ := gg_some h
  rcases ite_or h with ⟨_, h⟩ | ⟨_, h⟩
  · obtain ⟨g5, h⟩ := gg_some h
    rcases ite_or h with ⟨_, h⟩ | ⟨_, h⟩
    · obtain ⟨g7, h⟩ := gg_some h
      obtain ⟨σ8, eσ8, h⟩ := bnd_nm h
      have f := sm_I f (fun q => nh_218 q.1) eσ8
      obtain ⟨g9, h⟩ := gg_some h
      obtain ⟨g10, h⟩ := gg_some h
      obtain ⟨g11, h⟩ := gg_some h
      obtain ⟨g12, h⟩ := gg_some h
      obtain ⟨x13, σ14, y15, h⟩ := bd_some h
      have f := sm_t f (wX11_square y15)
      obtain ⟨x16, ex16, h⟩ := bnd_nm h
      obtain ⟨g17, h⟩ := gg_some h
      obtain ⟨g18, h⟩ := gg_some h
      obtain ⟨g19, h⟩ := gg_some h
      obtain ⟨g20, h⟩ := gg_some h
      obtain ⟨x21, σ22, y23, h⟩ := bd_some h
      have f := sm_t f (wX11_square y23)
      obtain ⟨x24, ex24, h⟩ := bnd_nm h
      obtain ⟨g25, h⟩ := gg_some h
      obtain ⟨g26, h⟩ := gg_some h
      obtain ⟨x27, ex27, h⟩ := bnd_nm h
      obtain ⟨g28, h⟩ := gg_some h
      obtain ⟨g29, h⟩ := gg_some h
      obtain ⟨x30, ex30, h⟩ := bnd_nm h
      obtain ⟨x31, σ32, y33, h⟩ := bd_some h
      have f := sm_t f (wX11_square y33)
      rcases ite_or h with ⟨_, h⟩ | ⟨_, h⟩
      · obtain ⟨x35, σ36, y37, h⟩ := bd_some h
        have f := sm_t f (wX11_down y37)
        obtain ⟨x38, ex38, h⟩ := bnd_nm h
        obtain ⟨x39, σ40, y41, h⟩ := bd_some h
        have f := sm_t f (wX11_in y41)
        rcases ite_or h with ⟨_, h⟩ | ⟨_, h⟩
        · obtain ⟨-, rfl⟩ := so_inj h
          exact f
        · obtain ⟨x43, σ44, y45, h⟩ := bd_some h
          have f := sm_t f (wX11_highQuotient y45)
          obtain ⟨x46, ex46, h⟩ := bnd_nm h
          rcases ite_or h with ⟨_, h⟩ | ⟨_, h⟩
          · obtain ⟨g48, h⟩ := gg_some h
            obtain ⟨x49, σ50, y51, h⟩ := bd_some h
            have f := sm_t f (wX11_root y51)
            obtain ⟨x52, ex52, h⟩ := bnd_nm h
            obtain ⟨g53, h⟩ := gg_some h
            obtain ⟨σ54, eσ54, h⟩ := bnd_nm h
            have f := sm_I f (fun q => nh_218 q.1) eσ54
            obtain ⟨g55, h⟩ := gg_some h
            obtain ⟨x56, σ57, y58, h⟩ := bd_some h
            have f := sm_t f (wX11_down y58)
            obtain ⟨g59, h⟩ := gg_some h
            obtain ⟨σ60, eσ60, h⟩ := bnd_nm h
            have f := sm_J f (fun q => nh_216 q.1) eσ60
            obtain ⟨g61, h⟩ := gg_some h
            obtain ⟨x62, σ63, y64, h⟩ := bd_some h
            have f := sm_t f (wX11_down y64)
            obtain ⟨g65, h⟩ := gg_some h
            obtain ⟨σ66, eσ66, h⟩ := bnd_nm h
            have f := sm_J f (fun q => nh_217 q.1) eσ66
            obtain ⟨-, rfl⟩ := so_inj h
            exact f
          · obtain ⟨-, rfl⟩ := so_inj h
            exact f
      · obtain ⟨-, rfl⟩ := so_inj h
        exact f
    · exact sm_t f (wX11_hang_32 nh_216 nh_217 nh_218 h)
  · exact sm_t f (wX11_hang_32 nh_216 nh_217 nh_218 h)
set_option maxRecDepth 10000 in
theorem wX11_turn_110 {x y : Nat} {p1 : Int32} {k80 : Int64 → Int64 → Int32 → gS → Option (Unit × gS)} {r : Unit} {σ' : gS} {v4 : Int64} {v6 : Int64} {v8 : Int32} {s1 : Int32} {s2 : Int32} {σ : gS} (hk80 : ∀ (v4 : Int64) (v6 : Int64) (v8 : Int32) (σ : gS), k80 v4 v6 v8 σ = some (r, σ') → sm σ σ' x y) (nh_216 : ¬ x = 216) (nh_217 : ¬ x = 217) (nh_218 : ¬ x = 218) (h : fX11_turn_110 p1 k80 v4 v6 v8 s1 s2 σ = some (r, σ')) : sm σ σ' x y := by
  unfold fX11_turn_110 at h
  have f := sm_r σ x y
  obtain ⟨g1, h⟩ := gg_some h
  obtain ⟨σ2, eσ2, h⟩ := bnd_nm h
  have f := sm_I f (fun q => nh_218 q.1) eσ2
  obtain ⟨g3, h⟩ := gg_some h
  obtain ⟨g4, h⟩ := gg_some h
  obtain ⟨σ5, eσ5, h⟩ := bnd_nm h
  have f := sm_J f (fun q => nh_216 q.1) eσ5
  obtain ⟨g6, h⟩ := gg_some h
  obtain ⟨g7, h⟩ := gg_some h
  obtain ⟨σ8, eσ8, h⟩ := bnd_nm h
  have f := sm_J f (fun q => nh_217 q.1) eσ8
  obtain ⟨x9, ex9, h⟩ := bnd_nm h
  exact sm_t f (hk80 v4 v6 x9 σ8 h)
set_option maxRecDepth 10000 in
theorem wX11_turn_284 {x y : Nat} {p1 : Int32} {r : Unit} {σ' : gS} (nh_216 : ¬ x = 216) (nh_217 : ¬ x = 217) (nh_218 : ¬ x = 218) : ∀ (n : Nat) (v12 : Int32) (σ : gS), fX11_turn_284 p1 n v12 σ = some (r, σ') → sm σ σ' x y := by
  intro n
  induction n with
  | zero => intro v12 σ h; exact absurd (show none = some (r, σ') from h) (by intro q; cases q)
  | succ n ih =>
  intro v12 σ h
  unfold fX11_turn_284 at h
  have f := sm_r σ x y
  rcases ite_or h with ⟨_, h⟩ | ⟨_, h⟩
  · obtain ⟨-, rfl⟩ := so_inj h
    exact f
  · obtain ⟨g2, h⟩ := gg_some h
    obtain ⟨_, σ3, y4, h⟩ := bd_some h
    have f := sm_t f (wX11_hang nh_216 nh_217 nh_218 y4)
    obtain ⟨x5, ex5, h⟩ := bnd_nm h
    exact sm_t f (ih x5 σ3 h)
set_option maxRecDepth 10000 in
theorem wX11_turn_80 {x y : Nat} {p1 : Int32} {r : Unit} {σ' : gS} (nh_216 : ¬ x = 216) (nh_217 : ¬ x = 217) (nh_218 : ¬ x = 218) : ∀ (n : Nat) (v4 : Int64) (v6 : Int64) (v8 : Int32) (σ : gS), fX11_turn_80 p1 n v4 v6 v8 σ = some (r, σ') → sm σ σ' x y := by
  intro n
  induction n with
  | zero => intro v4 v6 v8 σ h; exact absurd (show none = some (r, σ') from h) (by intro q; cases q)
  | succ n ih =>
  intro v4 v6 v8 σ h
  unfold fX11_turn_80 at h
  have f := sm_r σ x y
  rcases ite_or h with ⟨_, h⟩ | ⟨_, h⟩
  · obtain ⟨g2, h⟩ := gg_some h
    obtain ⟨g3, h⟩ := gg_some h
    obtain ⟨x4, ex4, h⟩ := bnd_nm h
    obtain ⟨g5, h⟩ := gg_some h
    obtain ⟨g6, h⟩ := gg_some h
    obtain ⟨x7, ex7, h⟩ := bnd_nm h
    obtain ⟨g8, h⟩ := gg_some h
    obtain ⟨σ9, eσ9, h⟩ := bnd_nm h
    have f := sm_I f (fun q => nh_218 q.1) eσ9
    obtain ⟨g10, h⟩ := gg_some h
    obtain ⟨x11, σ12, y13, h⟩ := bd_some h
    have f := sm_t f (wX11_down y13)
    obtain ⟨g14, h⟩ := gg_some h
    obtain ⟨σ15, eσ15, h⟩ := bnd_nm h
    have f := sm_J f (fun q => nh_216 q.1) eσ15
    obtain ⟨g16, h⟩ := gg_some h
    obtain ⟨x17, σ18, y19, h⟩ := bd_some h
    have f := sm_t f (wX11_down y19)
    obtain ⟨g20, h⟩ := gg_some h
    obtain ⟨σ21, eσ21, h⟩ := bnd_nm h
    have f := sm_J f (fun q => nh_217 q.1) eσ21
    exact sm_t f (wX11_turn_284 nh_216 nh_217 nh_218 2000 0 σ21 h)
  · obtain ⟨g22, h⟩ := gg_some h
    rcases ite_or h with ⟨_, h⟩ | ⟨_, h⟩
    · exact sm_t f (wX11_turn_110 (fun v4 v6 v8 σ h => ih v4 v6 v8 σ h) nh_216 nh_217 nh_218 h)
    · exact sm_t f (wX11_turn_110 (fun v4 v6 v8 σ h => ih v4 v6 v8 σ h) nh_216 nh_217 nh_218 h)
set_option maxRecDepth 10000 in
theorem wX11_turn_49 {x y : Nat} {p1 : Int32} {r : Unit} {σ' : gS} (nh_216 : ¬ x = 216) (nh_217 : ¬ x = 217) (nh_218 : ¬ x = 218) : ∀ (n : Nat) (v4 : Int64) (v6 : Int64) (v8 : Int32) (σ : gS), fX11_turn_49 p1 n v4 v6 v8 σ = some (r, σ') → sm σ σ' x y := by
  intro n
  induction n with
  | zero => intro v4 v6 v8 σ h; exact absurd (show none = some (r, σ') from h) (by intro q; cases q)
  | succ n ih =>
  intro v4 v6 v8 σ h
  unfold fX11_turn_49 at h
  have f := sm_r σ x y
  rcases ite_or h with ⟨_, h⟩ | ⟨_, h⟩
  · exact sm_t f (wX11_turn_80 nh_216 nh_217 nh_218 2000 v4 v6 0 σ h)
  · obtain ⟨x2, ex2, h⟩ := bnd_nm h
    obtain ⟨x3, ex3, h⟩ := bnd_nm h
    exact sm_t f (ih x2 v4 x3 σ h)
set_option maxRecDepth 10000 in
theorem wX11_turn {x y : Nat} {p1 : Int32} {r : Unit} {σ' : gS} {σ : gS} (nh_216 : ¬ x = 216) (nh_217 : ¬ x = 217) (nh_218 : ¬ x = 218) (h : fX11_turn p1 σ = some (r, σ')) : sm σ σ' x y := by
  unfold fX11_turn at h
  have f := sm_r σ x y
  obtain ⟨x1, ex1, h⟩ := bnd_nm h
  obtain ⟨x2, σ3, y4, h⟩ := bd_some h
  have f := sm_t f (wX11_down y4)
  obtain ⟨x5, σ6, y7, h⟩ := bd_some h
  have f := sm_t f (wX11_down y7)
  exact sm_t f (wX11_turn_49 nh_216 nh_217 nh_218 2000 x2 x5 0 σ6 h)
set_option maxRecDepth 10000 in
theorem wX11_placed_27 {x y : Nat} {k4 : Int32 → Int32 → gS → Option (Int32 × gS)} {r : Int32} {σ' : gS} {v2 : Int32} {s0 : Int32} {s1 : Int32} {σ : gS} (hk4 : ∀ (v1 : Int32) (v2 : Int32) (σ : gS), k4 v1 v2 σ = some (r, σ') → sm σ σ' x y) (h : fX11_placed_27 k4 v2 s0 s1 σ = some (r, σ')) : sm σ σ' x y := by
  unfold fX11_placed_27 at h
  have f := sm_r σ x y
  obtain ⟨x1, ex1, h⟩ := bnd_nm h
  obtain ⟨x2, ex2, h⟩ := bnd_nm h
  exact sm_t f (hk4 x1 x2 σ h)
set_option maxRecDepth 10000 in
theorem wX11_placed_4 {x y : Nat} {r : Int32} {σ' : gS} : ∀ (n : Nat) (v1 : Int32) (v2 : Int32) (σ : gS), fX11_placed_4 n v1 v2 σ = some (r, σ') → sm σ σ' x y := by
  intro n
  induction n with
  | zero => intro v1 v2 σ h; exact absurd (show none = some (r, σ') from h) (by intro q; cases q)
  | succ n ih =>
  intro v1 v2 σ h
  unfold fX11_placed_4 at h
  have f := sm_r σ x y
  rcases ite_or h with ⟨_, h⟩ | ⟨_, h⟩
  · obtain ⟨-, rfl⟩ := so_inj h
    exact f
  · obtain ⟨g2, h⟩ := gg_some h
    rcases ite_or h with ⟨_, h⟩ | ⟨_, h⟩
    · exact sm_t f (wX11_placed_27 (fun v1 v2 σ h => ih v1 v2 σ h) h)
    · exact sm_t f (wX11_placed_27 (fun v1 v2 σ h => ih v1 v2 σ h) h)
set_option maxRecDepth 10000 in
theorem wX11_placed {x y : Nat} {r : Int32} {σ' : gS} {σ : gS} (h : fX11_placed σ = some (r, σ')) : sm σ σ' x y := by
  unfold fX11_placed at h
  have f := sm_r σ x y
  exact sm_t f (wX11_placed_4 2000 0 0 σ h)
set_option maxRecDepth 10000 in
theorem wX11_pose_38 {x y : Nat} {p1 : Int32} {r : Int32} {σ' : gS} (nh_168_81 : ¬ (x = 168 ∧ y = 81)) (nh_216 : ¬ x = 216) (nh_217 : ¬ x = 217) (nh_218 : ¬ x = 218) (nh_219 : ¬ x = 219) (nh_220 : ¬ x = 220) (nh_221 : ¬ x = 221) : ∀ (n : Nat) (v2 : Int32) (σ : gS), fX11_pose_38 p1 n v2 σ = some (r, σ') → sm σ σ' x y := by
  intro n
  induction n with
  | zero => intro v2 σ h; exact absurd (show none = some (r, σ') from h) (by intro q; cases q)
  | succ n ih =>
  intro v2 σ h
  unfold fX11_pose_38 at h
  have f := sm_r σ x y
  rcases ite_or h with ⟨_, h⟩ | ⟨_, h⟩
  · obtain ⟨x2, σ3, y4, h⟩ := bd_some h
    have f := sm_t f (wX11_placed y4)
    obtain ⟨-, rfl⟩ := so_inj h
    exact f
  · obtain ⟨g5, h⟩ := gg_some h
    obtain ⟨g6, h⟩ := gg_some h
    obtain ⟨σ7, eσ7, h⟩ := bnd_nm h
    have f := sm_J f (fun q => nh_219 q.1) eσ7
    obtain ⟨g8, h⟩ := gg_some h
    obtain ⟨g9, h⟩ := gg_some h
    obtain ⟨σ10, eσ10, h⟩ := bnd_nm h
    have f := sm_J f (fun q => nh_220 q.1) eσ10
    obtain ⟨g11, h⟩ := gg_some h
    obtain ⟨g12, h⟩ := gg_some h
    obtain ⟨σ13, eσ13, h⟩ := bnd_nm h
    have f := sm_I f (fun q => nh_221 q.1) eσ13
    obtain ⟨x14, ex14, h⟩ := bnd_nm h
    exact sm_t f (ih x14 σ13 h)
set_option maxRecDepth 10000 in
theorem wX11_pose {x y : Nat} {p1 : Int32} {r : Int32} {σ' : gS} {σ : gS} (nh_168_81 : ¬ (x = 168 ∧ y = 81)) (nh_216 : ¬ x = 216) (nh_217 : ¬ x = 217) (nh_218 : ¬ x = 218) (nh_219 : ¬ x = 219) (nh_220 : ¬ x = 220) (nh_221 : ¬ x = 221) (h : fX11_pose p1 σ = some (r, σ')) : sm σ σ' x y := by
  unfold fX11_pose at h
  have f := sm_r σ x y
  obtain ⟨x1, σ2, y3, h⟩ := bd_some h
  have f := sm_t f (wX11_in y3)
  rcases ite_or h with ⟨_, h⟩ | ⟨_, h⟩
  · obtain ⟨-, rfl⟩ := so_inj h
    exact f
  · rcases ite_or h with ⟨_, h⟩ | ⟨_, h⟩
    · obtain ⟨_, σ6, y7, h⟩ := bd_some h
      have f := sm_t f (wX11_turn nh_216 nh_217 nh_218 y7)
      obtain ⟨σ8, eσ8, h⟩ := bnd_nm h
      have f := sm_I f nh_168_81 eσ8
      exact sm_t f (wX11_pose_38 nh_168_81 nh_216 nh_217 nh_218 nh_219 nh_220 nh_221 2000 0 σ8 h)
    · obtain ⟨-, rfl⟩ := so_inj h
      exact f
set_option maxRecDepth 10000 in
theorem wX11_at_18 {x y : Nat} {p1 : Int32} {p2 : Int32} {r : Int64} {σ' : gS} {σ : gS} (h : fX11_at_18 p1 p2 σ = some (r, σ')) : sm σ σ' x y := by
  unfold fX11_at_18 at h
  have f := sm_r σ x y
  obtain ⟨-, rfl⟩ := so_inj h
  exact f
set_option maxRecDepth 10000 in
theorem wX11_at_69 {x y : Nat} {p1 : Int32} {p2 : Int32} {r : Int64} {σ' : gS} {s0 : Int64} {σ : gS} (h : fX11_at_69 p1 p2 s0 σ = some (r, σ')) : sm σ σ' x y := by
  unfold fX11_at_69 at h
  have f := sm_r σ x y
  obtain ⟨-, rfl⟩ := so_inj h
  exact f
set_option maxRecDepth 10000 in
theorem wX11_at {x y : Nat} {p1 : Int32} {p2 : Int32} {r : Int64} {σ' : gS} {σ : gS} (h : fX11_at p1 p2 σ = some (r, σ')) : sm σ σ' x y := by
  unfold fX11_at at h
  have f := sm_r σ x y
  obtain ⟨x1, σ2, y3, h⟩ := bd_some h
  have f := sm_t f (wX11_isJoint y3)
  rcases ite_or h with ⟨_, h⟩ | ⟨_, h⟩
  · exact sm_t f (wX11_at_18 h)
  · obtain ⟨x5, σ6, y7, h⟩ := bd_some h
    have f := sm_t f (wX11_in y7)
    rcases ite_or h with ⟨_, h⟩ | ⟨_, h⟩
    · exact sm_t f (wX11_at_18 h)
    · rcases ite_or h with ⟨_, h⟩ | ⟨_, h⟩
      · exact sm_t f (wX11_at_69 h)
      · obtain ⟨g10, h⟩ := gg_some h
        rcases ite_or h with ⟨_, h⟩ | ⟨_, h⟩
        · rcases ite_or h with ⟨_, h⟩ | ⟨_, h⟩
          · obtain ⟨g14, h⟩ := gg_some h
            exact sm_t f (wX11_at_69 h)
          · obtain ⟨g13, h⟩ := gg_some h
            exact sm_t f (wX11_at_69 h)
        · exact sm_t f (wX11_at_69 h)
set_option maxRecDepth 10000 in
theorem wX11_why_32 {x y : Nat} {p1 : Int32} {r : Int32} {σ' : gS} {s0 : Int32} {σ : gS} (h : fX11_why_32 p1 s0 σ = some (r, σ')) : sm σ σ' x y := by
  unfold fX11_why_32 at h
  have f := sm_r σ x y
  obtain ⟨-, rfl⟩ := so_inj h
  exact f
set_option maxRecDepth 10000 in
theorem wX11_why {x y : Nat} {p1 : Int32} {r : Int32} {σ' : gS} {σ : gS} (h : fX11_why p1 σ = some (r, σ')) : sm σ σ' x y := by
  unfold fX11_why at h
  have f := sm_r σ x y
  obtain ⟨x1, σ2, y3, h⟩ := bd_some h
  have f := sm_t f (wX11_isJoint y3)
  rcases ite_or h with ⟨_, h⟩ | ⟨_, h⟩
  · exact sm_t f (wX11_why_32 h)
  · rcases ite_or h with ⟨_, h⟩ | ⟨_, h⟩
    · exact sm_t f (wX11_why_32 h)
    · obtain ⟨g6, h⟩ := gg_some h
      exact sm_t f (wX11_why_32 h)
set_option maxRecDepth 10000 in
theorem wX11_order_80 {x y : Nat} {p1 : Int32} {p2 : Int32} {r : Int32} {σ' : gS} {s0 : Int32} {σ : gS} (h : fX11_order_80 p1 p2 s0 σ = some (r, σ')) : sm σ σ' x y := by
  unfold fX11_order_80 at h
  have f := sm_r σ x y
  obtain ⟨-, rfl⟩ := so_inj h
  exact f
set_option maxRecDepth 10000 in
theorem wX11_order {x y : Nat} {p1 : Int32} {p2 : Int32} {r : Int32} {σ' : gS} {σ : gS} (h : fX11_order p1 p2 σ = some (r, σ')) : sm σ σ' x y := by
  unfold fX11_order at h
  have f := sm_r σ x y
  obtain ⟨x1, σ2, y3, h⟩ := bd_some h
  have f := sm_t f (wX11_in y3)
  rcases ite_or h with ⟨_, h⟩ | ⟨_, h⟩
  · obtain ⟨-, rfl⟩ := so_inj h
    exact f
  · rcases ite_or h with ⟨_, h⟩ | ⟨_, h⟩
    · obtain ⟨x6, σ7, y8, h⟩ := bd_some h
      have f := sm_t f (wX11_in y8)
      rcases ite_or h with ⟨_, h⟩ | ⟨_, h⟩
      · obtain ⟨-, rfl⟩ := so_inj h
        exact f
      · obtain ⟨g10, h⟩ := gg_some h
        rcases ite_or h with ⟨_, h⟩ | ⟨_, h⟩
        · exact sm_t f (wX11_order_80 h)
        · rcases ite_or h with ⟨_, h⟩ | ⟨_, h⟩
          · obtain ⟨g14, h⟩ := gg_some h
            exact sm_t f (wX11_order_80 h)
          · obtain ⟨g13, h⟩ := gg_some h
            exact sm_t f (wX11_order_80 h)
    · obtain ⟨-, rfl⟩ := so_inj h
      exact f
set_option maxRecDepth 10000 in
theorem wX11_flip_27 {x y : Nat} {p1 : Int32} {r : Int32} {σ' : gS} {σ : gS} (nh_215 : ¬ x = 215) (h : fX11_flip_27 p1 σ = some (r, σ')) : sm σ σ' x y := by
  unfold fX11_flip_27 at h
  have f := sm_r σ x y
  obtain ⟨-, rfl⟩ := so_inj h
  exact f
set_option maxRecDepth 10000 in
theorem wX11_flip {x y : Nat} {p1 : Int32} {r : Int32} {σ' : gS} {σ : gS} (nh_215 : ¬ x = 215) (h : fX11_flip p1 σ = some (r, σ')) : sm σ σ' x y := by
  unfold fX11_flip at h
  have f := sm_r σ x y
  obtain ⟨x1, σ2, y3, h⟩ := bd_some h
  have f := sm_t f (wX11_isJoint y3)
  rcases ite_or h with ⟨_, h⟩ | ⟨_, h⟩
  · obtain ⟨-, rfl⟩ := so_inj h
    exact f
  · rcases ite_or h with ⟨_, h⟩ | ⟨_, h⟩
    · exact sm_t f (wX11_flip_27 nh_215 h)
    · obtain ⟨g6, h⟩ := gg_some h
      rcases ite_or h with ⟨_, h⟩ | ⟨_, h⟩
      · exact sm_t f (wX11_flip_27 nh_215 h)
      · obtain ⟨g8, h⟩ := gg_some h
        obtain ⟨g9, h⟩ := gg_some h
        obtain ⟨σ10, eσ10, h⟩ := bnd_nm h
        have f := sm_I f (fun q => nh_215 q.1) eσ10
        obtain ⟨g11, h⟩ := gg_some h
        obtain ⟨-, rfl⟩ := so_inj h
        exact f
set_option maxRecDepth 10000 in
theorem wX11_trace_97 {x y : Nat} {p1 : Int32} {k26 : Int32 → Int32 → gS → Option (Int32 × gS)} {r : Int32} {σ' : gS} {v3 : Int32} {s0 : Int32} {s1 : Int32} {σ : gS} (hk26 : ∀ (v2 : Int32) (v3 : Int32) (σ : gS), k26 v2 v3 σ = some (r, σ') → sm σ σ' x y) (nh_168_85 : ¬ (x = 168 ∧ y = 85)) (nh_216 : ¬ x = 216) (nh_217 : ¬ x = 217) (nh_218 : ¬ x = 218) (nh_222 : ¬ x = 222) (nh_223 : ¬ x = 223) (nh_224 : ¬ x = 224) (h : fX11_trace_97 p1 k26 v3 s0 s1 σ = some (r, σ')) : sm σ σ' x y := by
  unfold fX11_trace_97 at h
  have f := sm_r σ x y
  obtain ⟨x1, ex1, h⟩ := bnd_nm h
  obtain ⟨x2, ex2, h⟩ := bnd_nm h
  exact sm_t f (hk26 x1 x2 σ h)
set_option maxRecDepth 10000 in
theorem wX11_trace_57 {x y : Nat} {p1 : Int32} {k26 : Int32 → Int32 → gS → Option (Int32 × gS)} {r : Int32} {σ' : gS} {v2 : Int32} {v3 : Int32} {s1 : Int32} {s2 : Int32} {σ : gS} (hk26 : ∀ (v2 : Int32) (v3 : Int32) (σ : gS), k26 v2 v3 σ = some (r, σ') → sm σ σ' x y) (nh_168_85 : ¬ (x = 168 ∧ y = 85)) (nh_216 : ¬ x = 216) (nh_217 : ¬ x = 217) (nh_218 : ¬ x = 218) (nh_222 : ¬ x = 222) (nh_223 : ¬ x = 223) (nh_224 : ¬ x = 224) (h : fX11_trace_57 p1 k26 v2 v3 s1 s2 σ = some (r, σ')) : sm σ σ' x y := by
  unfold fX11_trace_57 at h
  have f := sm_r σ x y
  obtain ⟨g1, h⟩ := gg_some h
  obtain ⟨σ2, eσ2, h⟩ := bnd_nm h
  have f := sm_I f (fun q => nh_224 q.1) eσ2
  obtain ⟨g3, h⟩ := gg_some h
  obtain ⟨g4, h⟩ := gg_some h
  obtain ⟨σ5, eσ5, h⟩ := bnd_nm h
  have f := sm_J f (fun q => nh_222 q.1) eσ5
  obtain ⟨g6, h⟩ := gg_some h
  obtain ⟨g7, h⟩ := gg_some h
  obtain ⟨σ8, eσ8, h⟩ := bnd_nm h
  have f := sm_J f (fun q => nh_223 q.1) eσ8
  obtain ⟨g9, h⟩ := gg_some h
  rcases ite_or h with ⟨_, h⟩ | ⟨_, h⟩
  · exact sm_t f (wX11_trace_97 hk26 nh_168_85 nh_216 nh_217 nh_218 nh_222 nh_223 nh_224 h)
  · exact sm_t f (wX11_trace_97 hk26 nh_168_85 nh_216 nh_217 nh_218 nh_222 nh_223 nh_224 h)
set_option maxRecDepth 10000 in
theorem wX11_trace_26 {x y : Nat} {p1 : Int32} {r : Int32} {σ' : gS} (nh_168_85 : ¬ (x = 168 ∧ y = 85)) (nh_216 : ¬ x = 216) (nh_217 : ¬ x = 217) (nh_218 : ¬ x = 218) (nh_222 : ¬ x = 222) (nh_223 : ¬ x = 223) (nh_224 : ¬ x = 224) : ∀ (n : Nat) (v2 : Int32) (v3 : Int32) (σ : gS), fX11_trace_26 p1 n v2 v3 σ = some (r, σ') → sm σ σ' x y := by
  intro n
  induction n with
  | zero => intro v2 v3 σ h; exact absurd (show none = some (r, σ') from h) (by intro q; cases q)
  | succ n ih =>
  intro v2 v3 σ h
  unfold fX11_trace_26 at h
  have f := sm_r σ x y
  rcases ite_or h with ⟨_, h⟩ | ⟨_, h⟩
  · obtain ⟨σ2, eσ2, h⟩ := bnd_nm h
    have f := sm_I f nh_168_85 eσ2
    obtain ⟨-, rfl⟩ := so_inj h
    exact f
  · obtain ⟨_, σ3, y4, h⟩ := bd_some h
    have f := sm_t f (wX11_turn nh_216 nh_217 nh_218 y4)
    obtain ⟨g5, h⟩ := gg_some h
    rcases ite_or h with ⟨_, h⟩ | ⟨_, h⟩
    · exact sm_t f (wX11_trace_57 (fun v2 v3 σ h => ih v2 v3 σ h) nh_168_85 nh_216 nh_217 nh_218 nh_222 nh_223 nh_224 h)
    · exact sm_t f (wX11_trace_57 (fun v2 v3 σ h => ih v2 v3 σ h) nh_168_85 nh_216 nh_217 nh_218 nh_222 nh_223 nh_224 h)
set_option maxRecDepth 10000 in
theorem wX11_trace {x y : Nat} {p1 : Int32} {r : Int32} {σ' : gS} {σ : gS} (nh_168_85 : ¬ (x = 168 ∧ y = 85)) (nh_216 : ¬ x = 216) (nh_217 : ¬ x = 217) (nh_218 : ¬ x = 218) (nh_222 : ¬ x = 222) (nh_223 : ¬ x = 223) (nh_224 : ¬ x = 224) (h : fX11_trace p1 σ = some (r, σ')) : sm σ σ' x y := by
  unfold fX11_trace at h
  have f := sm_r σ x y
  obtain ⟨x1, σ2, y3, h⟩ := bd_some h
  have f := sm_t f (wX11_isJoint y3)
  rcases ite_or h with ⟨_, h⟩ | ⟨_, h⟩
  · obtain ⟨-, rfl⟩ := so_inj h
    exact f
  · rcases ite_or h with ⟨_, h⟩ | ⟨_, h⟩
    · exact sm_t f (wX11_trace_26 nh_168_85 nh_216 nh_217 nh_218 nh_222 nh_223 nh_224 2000 0 0 σ2 h)
    · obtain ⟨-, rfl⟩ := so_inj h
      exact f
set_option maxRecDepth 10000 in
theorem wX11_curveAt_34 {x y : Nat} {p1 : Int32} {p2 : Int32} {r : Int64} {σ' : gS} {s0 : Int64} {σ : gS} (h : fX11_curveAt_34 p1 p2 s0 σ = some (r, σ')) : sm σ σ' x y := by
  unfold fX11_curveAt_34 at h
  have f := sm_r σ x y
  obtain ⟨-, rfl⟩ := so_inj h
  exact f
set_option maxRecDepth 10000 in
theorem wX11_curveAt {x y : Nat} {p1 : Int32} {p2 : Int32} {r : Int64} {σ' : gS} {σ : gS} (h : fX11_curveAt p1 p2 σ = some (r, σ')) : sm σ σ' x y := by
  unfold fX11_curveAt at h
  have f := sm_r σ x y
  obtain ⟨g1, h⟩ := gg_some h
  rcases ite_or h with ⟨_, h⟩ | ⟨_, h⟩
  · exact sm_t f (wX11_curveAt_34 h)
  · rcases ite_or h with ⟨_, h⟩ | ⟨_, h⟩
    · obtain ⟨g5, h⟩ := gg_some h
      exact sm_t f (wX11_curveAt_34 h)
    · obtain ⟨g4, h⟩ := gg_some h
      exact sm_t f (wX11_curveAt_34 h)
set_option maxRecDepth 10000 in
theorem wX11_curve_22 {x y : Nat} {p1 : Int32} {p2 : Int32} {r : Int64} {σ' : gS} {σ : gS} (h : fX11_curve_22 p1 p2 σ = some (r, σ')) : sm σ σ' x y := by
  unfold fX11_curve_22 at h
  have f := sm_r σ x y
  obtain ⟨-, rfl⟩ := so_inj h
  exact f
set_option maxRecDepth 10000 in
theorem wX11_curve_45 {x y : Nat} {p1 : Int32} {p2 : Int32} {r : Int64} {σ' : gS} {s0 : Int64} {σ : gS} (h : fX11_curve_45 p1 p2 s0 σ = some (r, σ')) : sm σ σ' x y := by
  unfold fX11_curve_45 at h
  have f := sm_r σ x y
  obtain ⟨-, rfl⟩ := so_inj h
  exact f
set_option maxRecDepth 10000 in
theorem wX11_curve {x y : Nat} {p1 : Int32} {p2 : Int32} {r : Int64} {σ' : gS} {σ : gS} (h : fX11_curve p1 p2 σ = some (r, σ')) : sm σ σ' x y := by
  unfold fX11_curve at h
  have f := sm_r σ x y
  obtain ⟨x1, σ2, y3, h⟩ := bd_some h
  have f := sm_t f (wX11_in y3)
  rcases ite_or h with ⟨_, h⟩ | ⟨_, h⟩
  · exact sm_t f (wX11_curve_22 h)
  · obtain ⟨x5, σ6, y7, h⟩ := bd_some h
    have f := sm_t f (wX11_in y7)
    rcases ite_or h with ⟨_, h⟩ | ⟨_, h⟩
    · exact sm_t f (wX11_curve_22 h)
    · rcases ite_or h with ⟨_, h⟩ | ⟨_, h⟩
      · obtain ⟨x10, σ11, y12, h⟩ := bd_some h
        have f := sm_t f (wX11_curveAt y12)
        exact sm_t f (wX11_curve_45 h)
      · exact sm_t f (wX11_curve_45 h)
set_option maxRecDepth 10000 in
theorem wX11_told_179 {x y : Nat} {p1 : Int32} {k46 : Int32 → Int32 → Int32 → Int32 → gS → Option (Int32 × gS)} {r : Int32} {σ' : gS} {v2 : Int32} {v3 : Int32} {v4 : Int32} {v5 : Int32} {σ : gS} (hk46 : ∀ (v2 : Int32) (v3 : Int32) (v4 : Int32) (v5 : Int32) (σ : gS), k46 v2 v3 v4 v5 σ = some (r, σ') → sm σ σ' x y) (h : fX11_told_179 p1 k46 v2 v3 v4 v5 σ = some (r, σ')) : sm σ σ' x y := by
  unfold fX11_told_179 at h
  have f := sm_r σ x y
  obtain ⟨x1, ex1, h⟩ := bnd_nm h
  exact sm_t f (hk46 v2 v3 v4 x1 σ h)
set_option maxRecDepth 10000 in
theorem wX11_told_178 {x y : Nat} {p1 : Int32} {k46 : Int32 → Int32 → Int32 → Int32 → gS → Option (Int32 × gS)} {r : Int32} {σ' : gS} {v2 : Int32} {v4 : Int32} {v5 : Int32} {s0 : Int32} {σ : gS} (hk46 : ∀ (v2 : Int32) (v3 : Int32) (v4 : Int32) (v5 : Int32) (σ : gS), k46 v2 v3 v4 v5 σ = some (r, σ') → sm σ σ' x y) (h : fX11_told_178 p1 k46 v2 v4 v5 s0 σ = some (r, σ')) : sm σ σ' x y := by
  unfold fX11_told_178 at h
  have f := sm_r σ x y
  exact sm_t f (wX11_told_179 hk46 h)
set_option maxRecDepth 10000 in
theorem wX11_told_172 {x y : Nat} {p1 : Int32} {k46 : Int32 → Int32 → Int32 → Int32 → gS → Option (Int32 × gS)} {r : Int32} {σ' : gS} {v2 : Int32} {v4 : Int32} {v5 : Int32} {σ : gS} (hk46 : ∀ (v2 : Int32) (v3 : Int32) (v4 : Int32) (v5 : Int32) (σ : gS), k46 v2 v3 v4 v5 σ = some (r, σ') → sm σ σ' x y) (h : fX11_told_172 p1 k46 v2 v4 v5 σ = some (r, σ')) : sm σ σ' x y := by
  unfold fX11_told_172 at h
  have f := sm_r σ x y
  exact sm_t f (wX11_told_178 hk46 h)
set_option maxRecDepth 10000 in
theorem wX11_told_177 {x y : Nat} {p1 : Int32} {k46 : Int32 → Int32 → Int32 → Int32 → gS → Option (Int32 × gS)} {r : Int32} {σ' : gS} {v2 : Int32} {v3 : Int32} {v4 : Int32} {v5 : Int32} {σ : gS} (hk46 : ∀ (v2 : Int32) (v3 : Int32) (v4 : Int32) (v5 : Int32) (σ : gS), k46 v2 v3 v4 v5 σ = some (r, σ') → sm σ σ' x y) (h : fX11_told_177 p1 k46 v2 v3 v4 v5 σ = some (r, σ')) : sm σ σ' x y := by
  unfold fX11_told_177 at h
  have f := sm_r σ x y
  exact sm_t f (wX11_told_178 hk46 h)
set_option maxRecDepth 10000 in
theorem wX11_told_139 {x y : Nat} {p1 : Int32} {k46 : Int32 → Int32 → Int32 → Int32 → gS → Option (Int32 × gS)} {r : Int32} {σ' : gS} {v2 : Int32} {v3 : Int32} {v4 : Int32} {v5 : Int32} {v6 : Int64} {v8 : Int32} {s0 : Int64} {σ : gS} (hk46 : ∀ (v2 : Int32) (v3 : Int32) (v4 : Int32) (v5 : Int32) (σ : gS), k46 v2 v3 v4 v5 σ = some (r, σ') → sm σ σ' x y) (h : fX11_told_139 p1 k46 v2 v3 v4 v5 v6 v8 s0 σ = some (r, σ')) : sm σ σ' x y := by
  unfold fX11_told_139 at h
  have f := sm_r σ x y
  rcases ite_or h with ⟨_, h⟩ | ⟨_, h⟩
  · rcases ite_or h with ⟨_, h⟩ | ⟨_, h⟩
    · rcases ite_or h with ⟨_, h⟩ | ⟨_, h⟩
      · exact sm_t f (wX11_told_177 hk46 h)
      · exact sm_t f (wX11_told_172 hk46 h)
    · rcases ite_or h with ⟨_, h⟩ | ⟨_, h⟩
      · exact sm_t f (wX11_told_177 hk46 h)
      · exact sm_t f (wX11_told_172 hk46 h)
  · exact sm_t f (wX11_told_172 hk46 h)
set_option maxRecDepth 10000 in
theorem wX11_told_121 {x y : Nat} {p1 : Int32} {k46 : Int32 → Int32 → Int32 → Int32 → gS → Option (Int32 × gS)} {r : Int32} {σ' : gS} {v2 : Int32} {v3 : Int32} {v4 : Int32} {v5 : Int32} {v6 : Int64} {s0 : Int32} {σ : gS} (hk46 : ∀ (v2 : Int32) (v3 : Int32) (v4 : Int32) (v5 : Int32) (σ : gS), k46 v2 v3 v4 v5 σ = some (r, σ') → sm σ σ' x y) (h : fX11_told_121 p1 k46 v2 v3 v4 v5 v6 s0 σ = some (r, σ')) : sm σ σ' x y := by
  unfold fX11_told_121 at h
  have f := sm_r σ x y
  rcases ite_or h with ⟨_, h⟩ | ⟨_, h⟩
  · obtain ⟨x2, σ3, y4, h⟩ := bd_some h
    have f := sm_t f (wX11_curveAt y4)
    exact sm_t f (wX11_told_139 hk46 h)
  · exact sm_t f (wX11_told_139 hk46 h)
set_option maxRecDepth 10000 in
theorem wX11_told_88 {x y : Nat} {p1 : Int32} {k46 : Int32 → Int32 → Int32 → Int32 → gS → Option (Int32 × gS)} {r : Int32} {σ' : gS} {v3 : Int32} {v4 : Int32} {v5 : Int32} {s0 : Int32} {s1 : Int32} {σ : gS} (hk46 : ∀ (v2 : Int32) (v3 : Int32) (v4 : Int32) (v5 : Int32) (σ : gS), k46 v2 v3 v4 v5 σ = some (r, σ') → sm σ σ' x y) (h : fX11_told_88 p1 k46 v3 v4 v5 s0 s1 σ = some (r, σ')) : sm σ σ' x y := by
  unfold fX11_told_88 at h
  have f := sm_r σ x y
  obtain ⟨x1, ex1, h⟩ := bnd_nm h
  obtain ⟨g2, h⟩ := gg_some h
  rcases ite_or h with ⟨_, h⟩ | ⟨_, h⟩
  · exact sm_t f (wX11_told_179 hk46 h)
  · obtain ⟨x4, σ5, y6, h⟩ := bd_some h
    have f := sm_t f (wX11_curveAt y6)
    rcases ite_or h with ⟨_, h⟩ | ⟨_, h⟩
    · exact sm_t f (wX11_told_121 hk46 h)
    · exact sm_t f (wX11_told_121 hk46 h)
set_option maxRecDepth 10000 in
theorem wX11_told_87 {x y : Nat} {p1 : Int32} {k46 : Int32 → Int32 → Int32 → Int32 → gS → Option (Int32 × gS)} {r : Int32} {σ' : gS} {v3 : Int32} {v4 : Int32} {v5 : Int32} {s0 : Int32} {σ : gS} (hk46 : ∀ (v2 : Int32) (v3 : Int32) (v4 : Int32) (v5 : Int32) (σ : gS), k46 v2 v3 v4 v5 σ = some (r, σ') → sm σ σ' x y) (h : fX11_told_87 p1 k46 v3 v4 v5 s0 σ = some (r, σ')) : sm σ σ' x y := by
  unfold fX11_told_87 at h
  have f := sm_r σ x y
  exact sm_t f (wX11_told_88 hk46 h)
set_option maxRecDepth 10000 in
theorem wX11_told_194 {x y : Nat} {p1 : Int32} {r : Int32} {σ' : gS} {s0 : Int32} {σ : gS} (h : fX11_told_194 p1 s0 σ = some (r, σ')) : sm σ σ' x y := by
  unfold fX11_told_194 at h
  have f := sm_r σ x y
  obtain ⟨-, rfl⟩ := so_inj h
  exact f
set_option maxRecDepth 10000 in
theorem wX11_told_46 {x y : Nat} {p1 : Int32} {r : Int32} {σ' : gS} : ∀ (n : Nat) (v2 : Int32) (v3 : Int32) (v4 : Int32) (v5 : Int32) (σ : gS), fX11_told_46 p1 n v2 v3 v4 v5 σ = some (r, σ') → sm σ σ' x y := by
  intro n
  induction n with
  | zero => intro v2 v3 v4 v5 σ h; exact absurd (show none = some (r, σ') from h) (by intro q; cases q)
  | succ n ih =>
  intro v2 v3 v4 v5 σ h
  unfold fX11_told_46 at h
  have f := sm_r σ x y
  rcases ite_or h with ⟨_, h⟩ | ⟨_, h⟩
  · rcases ite_or h with ⟨_, h⟩ | ⟨_, h⟩
    · exact sm_t f (wX11_told_194 h)
    · exact sm_t f (wX11_told_194 h)
  · obtain ⟨g3, h⟩ := gg_some h
    rcases ite_or h with ⟨_, h⟩ | ⟨_, h⟩
    · exact sm_t f (wX11_told_87 (fun v2 v3 v4 v5 σ h => ih v2 v3 v4 v5 σ h) h)
    · obtain ⟨x5, ex5, h⟩ := bnd_nm h
      obtain ⟨g6, h⟩ := gg_some h
      rcases ite_or h with ⟨_, h⟩ | ⟨_, h⟩
      · exact sm_t f (wX11_told_88 (fun v2 v3 v4 v5 σ h => ih v2 v3 v4 v5 σ h) h)
      · exact sm_t f (wX11_told_87 (fun v2 v3 v4 v5 σ h => ih v2 v3 v4 v5 σ h) h)
set_option maxRecDepth 10000 in
theorem wX11_told_41 {x y : Nat} {p1 : Int32} {r : Int32} {σ' : gS} {v2 : Int32} {v3 : Int32} {s0 : Int32} {σ : gS} (h : fX11_told_41 p1 v2 v3 s0 σ = some (r, σ')) : sm σ σ' x y := by
  unfold fX11_told_41 at h
  have f := sm_r σ x y
  exact sm_t f (wX11_told_46 2000 v2 v3 s0 0 σ h)
set_option maxRecDepth 10000 in
theorem wX11_told {x y : Nat} {p1 : Int32} {r : Int32} {σ' : gS} {σ : gS} (h : fX11_told p1 σ = some (r, σ')) : sm σ σ' x y := by
  unfold fX11_told at h
  have f := sm_r σ x y
  obtain ⟨x1, σ2, y3, h⟩ := bd_some h
  have f := sm_t f (wX11_in y3)
  rcases ite_or h with ⟨_, h⟩ | ⟨_, h⟩
  · obtain ⟨-, rfl⟩ := so_inj h
    exact f
  · rcases ite_or h with ⟨_, h⟩ | ⟨_, h⟩
    · rcases ite_or h with ⟨_, h⟩ | ⟨_, h⟩
      · exact sm_t f (wX11_told_41 h)
      · exact sm_t f (wX11_told_41 h)
    · obtain ⟨-, rfl⟩ := so_inj h
      exact f
set_option maxRecDepth 10000 in
theorem wX11_divisor_17 {x y : Nat} {p1 : Int64} {p2 : Int64} {r : Int64} {σ' : gS} : ∀ (n : Nat) (v4 : Int64) (v6 : Int64) (σ : gS), fX11_divisor_17 p1 p2 n v4 v6 σ = some (r, σ') → sm σ σ' x y := by
  intro n
  induction n with
  | zero => intro v4 v6 σ h; exact absurd (show none = some (r, σ') from h) (by intro q; cases q)
  | succ n ih =>
  intro v4 v6 σ h
  unfold fX11_divisor_17 at h
  have f := sm_r σ x y
  rcases ite_or h with ⟨_, h⟩ | ⟨_, h⟩
  · obtain ⟨-, rfl⟩ := so_inj h
    exact f
  · obtain ⟨g2, h⟩ := gg_some h
    obtain ⟨x3, ex3, h⟩ := bnd_nm h
    exact sm_t f (ih v6 x3 σ h)
set_option maxRecDepth 10000 in
theorem wX11_divisor_12 {x y : Nat} {p1 : Int64} {p2 : Int64} {r : Int64} {σ' : gS} {s0 : Int64} {σ : gS} (h : fX11_divisor_12 p1 p2 s0 σ = some (r, σ')) : sm σ σ' x y := by
  unfold fX11_divisor_12 at h
  have f := sm_r σ x y
  exact sm_t f (wX11_divisor_17 2000 s0 p2 σ h)
set_option maxRecDepth 10000 in
theorem wX11_divisor {x y : Nat} {p1 : Int64} {p2 : Int64} {r : Int64} {σ' : gS} {σ : gS} (h : fX11_divisor p1 p2 σ = some (r, σ')) : sm σ σ' x y := by
  unfold fX11_divisor at h
  have f := sm_r σ x y
  rcases ite_or h with ⟨_, h⟩ | ⟨_, h⟩
  · exact sm_t f (wX11_divisor_12 h)
  · exact sm_t f (wX11_divisor_12 h)
set_option maxRecDepth 10000 in
theorem wX11_ratioBy_73 {x y : Nat} {p1 : Int32} {p2 : Int32} {p3 : Int32} {r : Unit} {σ' : gS} {v5 : Int32} {s0 : Int64} {s1 : Int64} {σ : gS} (nh_168_92 : ¬ (x = 168 ∧ y = 92)) (nh_168_93 : ¬ (x = 168 ∧ y = 93)) (h : fX11_ratioBy_73 p1 p2 p3 v5 s0 s1 σ = some (r, σ')) : sm σ σ' x y := by
  unfold fX11_ratioBy_73 at h
  have f := sm_r σ x y
  obtain ⟨x1, ex1, h⟩ := bnd_nm h
  obtain ⟨g2, h⟩ := gg_some h
  obtain ⟨x3, ex3, h⟩ := bnd_nm h
  obtain ⟨x4, σ5, y6, h⟩ := bd_some h
  have f := sm_t f (wX11_divisor y6)
  obtain ⟨g7, h⟩ := gg_some h
  obtain ⟨σ8, eσ8, h⟩ := bnd_nm h
  have f := sm_J f nh_168_92 eσ8
  obtain ⟨g9, h⟩ := gg_some h
  obtain ⟨σ10, eσ10, h⟩ := bnd_nm h
  have f := sm_J f nh_168_93 eσ10
  obtain ⟨-, rfl⟩ := so_inj h
  exact f
set_option maxRecDepth 10000 in
theorem wX11_ratioBy_44 {x y : Nat} {p1 : Int32} {p2 : Int32} {p3 : Int32} {r : Unit} {σ' : gS} {v4 : Int32} {s0 : Int32} {σ : gS} (nh_168_92 : ¬ (x = 168 ∧ y = 92)) (nh_168_93 : ¬ (x = 168 ∧ y = 93)) (h : fX11_ratioBy_44 p1 p2 p3 v4 s0 σ = some (r, σ')) : sm σ σ' x y := by
  unfold fX11_ratioBy_44 at h
  have f := sm_r σ x y
  obtain ⟨g1, h⟩ := gg_some h
  obtain ⟨g2, h⟩ := gg_some h
  rcases ite_or h with ⟨_, h⟩ | ⟨_, h⟩
  · exact sm_t f (wX11_ratioBy_73 nh_168_92 nh_168_93 h)
  · exact sm_t f (wX11_ratioBy_73 nh_168_92 nh_168_93 h)
set_option maxRecDepth 10000 in
theorem wX11_ratioBy_21 {x y : Nat} {p1 : Int32} {p2 : Int32} {p3 : Int32} {r : Unit} {σ' : gS} {s0 : Int32} {σ : gS} (nh_168_92 : ¬ (x = 168 ∧ y = 92)) (nh_168_93 : ¬ (x = 168 ∧ y = 93)) (h : fX11_ratioBy_21 p1 p2 p3 s0 σ = some (r, σ')) : sm σ σ' x y := by
  unfold fX11_ratioBy_21 at h
  have f := sm_r σ x y
  obtain ⟨g1, h⟩ := gg_some h
  rcases ite_or h with ⟨_, h⟩ | ⟨_, h⟩
  · exact sm_t f (wX11_ratioBy_44 nh_168_92 nh_168_93 h)
  · obtain ⟨g3, h⟩ := gg_some h
    exact sm_t f (wX11_ratioBy_44 nh_168_92 nh_168_93 h)
set_option maxRecDepth 10000 in
theorem wX11_ratioBy {x y : Nat} {p1 : Int32} {p2 : Int32} {p3 : Int32} {r : Unit} {σ' : gS} {σ : gS} (nh_168_92 : ¬ (x = 168 ∧ y = 92)) (nh_168_93 : ¬ (x = 168 ∧ y = 93)) (h : fX11_ratioBy p1 p2 p3 σ = some (r, σ')) : sm σ σ' x y := by
  unfold fX11_ratioBy at h
  have f := sm_r σ x y
  obtain ⟨g1, h⟩ := gg_some h
  rcases ite_or h with ⟨_, h⟩ | ⟨_, h⟩
  · exact sm_t f (wX11_ratioBy_21 nh_168_92 nh_168_93 h)
  · obtain ⟨g3, h⟩ := gg_some h
    exact sm_t f (wX11_ratioBy_21 nh_168_92 nh_168_93 h)
set_option maxRecDepth 10000 in
theorem wX11_findRatios_25 {x y : Nat} {p1 : Int32} {k2 : Int32 → gS → Option (Unit × gS)} {r : Unit} {σ' : gS} {v2 : Int32} {s1 : Int32} {s2 : Int32} {σ : gS} (hk2 : ∀ (v2 : Int32) (σ : gS), k2 v2 σ = some (r, σ') → sm σ σ' x y) (nh_168_92 : ¬ (x = 168 ∧ y = 92)) (nh_168_93 : ¬ (x = 168 ∧ y = 93)) (nh_225 : ¬ x = 225) (nh_226 : ¬ x = 226) (nh_227 : ¬ x = 227) (h : fX11_findRatios_25 p1 k2 v2 s1 s2 σ = some (r, σ')) : sm σ σ' x y := by
  unfold fX11_findRatios_25 at h
  have f := sm_r σ x y
  obtain ⟨g1, h⟩ := gg_some h
  obtain ⟨σ2, eσ2, h⟩ := bnd_nm h
  have f := sm_I f (fun q => nh_227 q.1) eσ2
  obtain ⟨x3, ex3, h⟩ := bnd_nm h
  exact sm_t f (hk2 x3 σ2 h)
set_option maxRecDepth 10000 in
theorem wX11_findRatios_259 {x y : Nat} {p1 : Int32} {k48 : Int32 → gS → Option (Unit × gS)} {k56 : Int32 → Int32 → gS → Option (Unit × gS)} {r : Unit} {σ' : gS} {v2 : Int32} {v3 : Int32} {σ : gS} (hk48 : ∀ (v2 : Int32) (σ : gS), k48 v2 σ = some (r, σ') → sm σ σ' x y) (hk56 : ∀ (v2 : Int32) (v3 : Int32) (σ : gS), k56 v2 v3 σ = some (r, σ') → sm σ σ' x y) (nh_168_92 : ¬ (x = 168 ∧ y = 92)) (nh_168_93 : ¬ (x = 168 ∧ y = 93)) (nh_225 : ¬ x = 225) (nh_226 : ¬ x = 226) (nh_227 : ¬ x = 227) (h : fX11_findRatios_259 p1 k48 k56 v2 v3 σ = some (r, σ')) : sm σ σ' x y := by
  unfold fX11_findRatios_259 at h
  have f := sm_r σ x y
  obtain ⟨x1, ex1, h⟩ := bnd_nm h
  exact sm_t f (hk56 v2 x1 σ h)
set_option maxRecDepth 10000 in
theorem wX11_findRatios_258 {x y : Nat} {p1 : Int32} {k48 : Int32 → gS → Option (Unit × gS)} {k56 : Int32 → Int32 → gS → Option (Unit × gS)} {r : Unit} {σ' : gS} {v2 : Int32} {v3 : Int32} {s1 : Int32} {s2 : Int32} {σ : gS} (hk48 : ∀ (v2 : Int32) (σ : gS), k48 v2 σ = some (r, σ') → sm σ σ' x y) (hk56 : ∀ (v2 : Int32) (v3 : Int32) (σ : gS), k56 v2 v3 σ = some (r, σ') → sm σ σ' x y) (nh_168_92 : ¬ (x = 168 ∧ y = 92)) (nh_168_93 : ¬ (x = 168 ∧ y = 93)) (nh_225 : ¬ x = 225) (nh_226 : ¬ x = 226) (nh_227 : ¬ x = 227) (h : fX11_findRatios_258 p1 k48 k56 v2 v3 s1 s2 σ = some (r, σ')) : sm σ σ' x y := by
  unfold fX11_findRatios_258 at h
  have f := sm_r σ x y
  obtain ⟨g1, h⟩ := gg_some h
  obtain ⟨σ2, eσ2, h⟩ := bnd_nm h
  have f := sm_I f (fun q => nh_227 q.1) eσ2
  exact sm_t f (wX11_findRatios_259 hk48 hk56 nh_168_92 nh_168_93 nh_225 nh_226 nh_227 h)
set_option maxRecDepth 10000 in
theorem wX11_findRatios_257 {x y : Nat} {p1 : Int32} {k48 : Int32 → gS → Option (Unit × gS)} {k56 : Int32 → Int32 → gS → Option (Unit × gS)} {r : Unit} {σ' : gS} {v2 : Int32} {v3 : Int32} {s1 : Int32} {σ : gS} (hk48 : ∀ (v2 : Int32) (σ : gS), k48 v2 σ = some (r, σ') → sm σ σ' x y) (hk56 : ∀ (v2 : Int32) (v3 : Int32) (σ : gS), k56 v2 v3 σ = some (r, σ') → sm σ σ' x y) (nh_168_92 : ¬ (x = 168 ∧ y = 92)) (nh_168_93 : ¬ (x = 168 ∧ y = 93)) (nh_225 : ¬ x = 225) (nh_226 : ¬ x = 226) (nh_227 : ¬ x = 227) (h : fX11_findRatios_257 p1 k48 k56 v2 v3 s1 σ = some (r, σ')) : sm σ σ' x y := by
  unfold fX11_findRatios_257 at h
  have f := sm_r σ x y
  exact sm_t f (wX11_findRatios_258 hk48 hk56 nh_168_92 nh_168_93 nh_225 nh_226 nh_227 h)
set_option maxRecDepth 10000 in
theorem wX11_findRatios_165 {x y : Nat} {p1 : Int32} {k48 : Int32 → gS → Option (Unit × gS)} {k56 : Int32 → Int32 → gS → Option (Unit × gS)} {r : Unit} {σ' : gS} {v2 : Int32} {v3 : Int32} {v5 : Int32} {s0 : Int32} {σ : gS} (hk48 : ∀ (v2 : Int32) (σ : gS), k48 v2 σ = some (r, σ') → sm σ σ' x y) (hk56 : ∀ (v2 : Int32) (v3 : Int32) (σ : gS), k56 v2 v3 σ = some (r, σ') → sm σ σ' x y) (nh_168_92 : ¬ (x = 168 ∧ y = 92)) (nh_168_93 : ¬ (x = 168 ∧ y = 93)) (nh_225 : ¬ x = 225) (nh_226 : ¬ x = 226) (nh_227 : ¬ x = 227) (h : fX11_findRatios_165 p1 k48 k56 v2 v3 v5 s0 σ = some (r, σ')) : sm σ σ' x y := by
  unfold fX11_findRatios_165 at h
  have f := sm_r σ x y
  obtain ⟨g1, h⟩ := gg_some h
  rcases ite_or h with ⟨_, h⟩ | ⟨_, h⟩
  · obtain ⟨g14, h⟩ := gg_some h
    obtain ⟨σ15, eσ15, h⟩ := bnd_nm h
    have f := sm_I f (fun q => nh_227 q.1) eσ15
    exact sm_t f (wX11_findRatios_259 hk48 hk56 nh_168_92 nh_168_93 nh_225 nh_226 nh_227 h)
  · obtain ⟨_, σ3, y4, h⟩ := bd_some h
    have f := sm_t f (wX11_ratioBy nh_168_92 nh_168_93 y4)
    obtain ⟨g5, h⟩ := gg_some h
    obtain ⟨σ6, eσ6, h⟩ := bnd_nm h
    have f := sm_J f (fun q => nh_225 q.1) eσ6
    obtain ⟨g7, h⟩ := gg_some h
    obtain ⟨σ8, eσ8, h⟩ := bnd_nm h
    have f := sm_J f (fun q => nh_226 q.1) eσ8
    obtain ⟨x9, σ10, y11, h⟩ := bd_some h
    have f := sm_t f (wX11_in y11)
    rcases ite_or h with ⟨_, h⟩ | ⟨_, h⟩
    · exact sm_t f (wX11_findRatios_257 hk48 hk56 nh_168_92 nh_168_93 nh_225 nh_226 nh_227 h)
    · rcases ite_or h with ⟨_, h⟩ | ⟨_, h⟩
      · exact sm_t f (wX11_findRatios_257 hk48 hk56 nh_168_92 nh_168_93 nh_225 nh_226 nh_227 h)
      · exact sm_t f (wX11_findRatios_258 hk48 hk56 nh_168_92 nh_168_93 nh_225 nh_226 nh_227 h)
set_option maxRecDepth 10000 in
theorem wX11_findRatios_143 {x y : Nat} {p1 : Int32} {k48 : Int32 → gS → Option (Unit × gS)} {k56 : Int32 → Int32 → gS → Option (Unit × gS)} {r : Unit} {σ' : gS} {v2 : Int32} {v3 : Int32} {v4 : Int32} {s0 : Int32} {σ : gS} (hk48 : ∀ (v2 : Int32) (σ : gS), k48 v2 σ = some (r, σ') → sm σ σ' x y) (hk56 : ∀ (v2 : Int32) (v3 : Int32) (σ : gS), k56 v2 v3 σ = some (r, σ') → sm σ σ' x y) (nh_168_92 : ¬ (x = 168 ∧ y = 92)) (nh_168_93 : ¬ (x = 168 ∧ y = 93)) (nh_225 : ¬ x = 225) (nh_226 : ¬ x = 226) (nh_227 : ¬ x = 227) (h : fX11_findRatios_143 p1 k48 k56 v2 v3 v4 s0 σ = some (r, σ')) : sm σ σ' x y := by
  unfold fX11_findRatios_143 at h
  have f := sm_r σ x y
  rcases ite_or h with ⟨_, h⟩ | ⟨_, h⟩
  · obtain ⟨g2, h⟩ := gg_some h
    exact sm_t f (wX11_findRatios_165 hk48 hk56 nh_168_92 nh_168_93 nh_225 nh_226 nh_227 h)
  · obtain ⟨g3, h⟩ := gg_some h
    exact sm_t f (wX11_findRatios_165 hk48 hk56 nh_168_92 nh_168_93 nh_225 nh_226 nh_227 h)
set_option maxRecDepth 10000 in
theorem wX11_findRatios_118 {x y : Nat} {p1 : Int32} {k48 : Int32 → gS → Option (Unit × gS)} {k56 : Int32 → Int32 → gS → Option (Unit × gS)} {r : Unit} {σ' : gS} {v3 : Int32} {v4 : Int32} {s0 : Int32} {σ : gS} (hk48 : ∀ (v2 : Int32) (σ : gS), k48 v2 σ = some (r, σ') → sm σ σ' x y) (hk56 : ∀ (v2 : Int32) (v3 : Int32) (σ : gS), k56 v2 v3 σ = some (r, σ') → sm σ σ' x y) (nh_168_92 : ¬ (x = 168 ∧ y = 92)) (nh_168_93 : ¬ (x = 168 ∧ y = 93)) (nh_225 : ¬ x = 225) (nh_226 : ¬ x = 226) (nh_227 : ¬ x = 227) (h : fX11_findRatios_118 p1 k48 k56 v3 v4 s0 σ = some (r, σ')) : sm σ σ' x y := by
  unfold fX11_findRatios_118 at h
  have f := sm_r σ x y
  rcases ite_or h with ⟨_, h⟩ | ⟨_, h⟩
  · exact sm_t f (wX11_findRatios_259 hk48 hk56 nh_168_92 nh_168_93 nh_225 nh_226 nh_227 h)
  · rcases ite_or h with ⟨_, h⟩ | ⟨_, h⟩
    · obtain ⟨g3, h⟩ := gg_some h
      exact sm_t f (wX11_findRatios_143 hk48 hk56 nh_168_92 nh_168_93 nh_225 nh_226 nh_227 h)
    · obtain ⟨g4, h⟩ := gg_some h
      exact sm_t f (wX11_findRatios_143 hk48 hk56 nh_168_92 nh_168_93 nh_225 nh_226 nh_227 h)
set_option maxRecDepth 10000 in
theorem wX11_findRatios_110 {x y : Nat} {p1 : Int32} {k48 : Int32 → gS → Option (Unit × gS)} {k56 : Int32 → Int32 → gS → Option (Unit × gS)} {r : Unit} {σ' : gS} {v3 : Int32} {v4 : Int32} {s0 : Int32} {s1 : Int32} {σ : gS} (hk48 : ∀ (v2 : Int32) (σ : gS), k48 v2 σ = some (r, σ') → sm σ σ' x y) (hk56 : ∀ (v2 : Int32) (v3 : Int32) (σ : gS), k56 v2 v3 σ = some (r, σ') → sm σ σ' x y) (nh_168_92 : ¬ (x = 168 ∧ y = 92)) (nh_168_93 : ¬ (x = 168 ∧ y = 93)) (nh_225 : ¬ x = 225) (nh_226 : ¬ x = 226) (nh_227 : ¬ x = 227) (h : fX11_findRatios_110 p1 k48 k56 v3 v4 s0 s1 σ = some (r, σ')) : sm σ σ' x y := by
  unfold fX11_findRatios_110 at h
  have f := sm_r σ x y
  rcases ite_or h with ⟨_, h⟩ | ⟨_, h⟩
  · exact sm_t f (wX11_findRatios_118 hk48 hk56 nh_168_92 nh_168_93 nh_225 nh_226 nh_227 h)
  · exact sm_t f (wX11_findRatios_118 hk48 hk56 nh_168_92 nh_168_93 nh_225 nh_226 nh_227 h)
set_option maxRecDepth 10000 in
theorem wX11_findRatios_87 {x y : Nat} {p1 : Int32} {k48 : Int32 → gS → Option (Unit × gS)} {k56 : Int32 → Int32 → gS → Option (Unit × gS)} {r : Unit} {σ' : gS} {v3 : Int32} {s0 : Int32} {σ : gS} (hk48 : ∀ (v2 : Int32) (σ : gS), k48 v2 σ = some (r, σ') → sm σ σ' x y) (hk56 : ∀ (v2 : Int32) (v3 : Int32) (σ : gS), k56 v2 v3 σ = some (r, σ') → sm σ σ' x y) (nh_168_92 : ¬ (x = 168 ∧ y = 92)) (nh_168_93 : ¬ (x = 168 ∧ y = 93)) (nh_225 : ¬ x = 225) (nh_226 : ¬ x = 226) (nh_227 : ¬ x = 227) (h : fX11_findRatios_87 p1 k48 k56 v3 s0 σ = some (r, σ')) : sm σ σ' x y := by
  unfold fX11_findRatios_87 at h
  have f := sm_r σ x y
  obtain ⟨g1, h⟩ := gg_some h
  obtain ⟨g2, h⟩ := gg_some h
  rcases ite_or h with ⟨_, h⟩ | ⟨_, h⟩
  · exact sm_t f (wX11_findRatios_110 hk48 hk56 nh_168_92 nh_168_93 nh_225 nh_226 nh_227 h)
  · exact sm_t f (wX11_findRatios_110 hk48 hk56 nh_168_92 nh_168_93 nh_225 nh_226 nh_227 h)
set_option maxRecDepth 10000 in
theorem wX11_findRatios_265 {x y : Nat} {p1 : Int32} {k48 : Int32 → gS → Option (Unit × gS)} {r : Unit} {σ' : gS} {v2 : Int32} {σ : gS} (hk48 : ∀ (v2 : Int32) (σ : gS), k48 v2 σ = some (r, σ') → sm σ σ' x y) (nh_168_92 : ¬ (x = 168 ∧ y = 92)) (nh_168_93 : ¬ (x = 168 ∧ y = 93)) (nh_225 : ¬ x = 225) (nh_226 : ¬ x = 226) (nh_227 : ¬ x = 227) (h : fX11_findRatios_265 p1 k48 v2 σ = some (r, σ')) : sm σ σ' x y := by
  unfold fX11_findRatios_265 at h
  have f := sm_r σ x y
  exact sm_t f (hk48 v2 σ h)
set_option maxRecDepth 10000 in
theorem wX11_findRatios_56 {x y : Nat} {p1 : Int32} {k48 : Int32 → gS → Option (Unit × gS)} {r : Unit} {σ' : gS} (hk48 : ∀ (v2 : Int32) (σ : gS), k48 v2 σ = some (r, σ') → sm σ σ' x y) (nh_168_92 : ¬ (x = 168 ∧ y = 92)) (nh_168_93 : ¬ (x = 168 ∧ y = 93)) (nh_225 : ¬ x = 225) (nh_226 : ¬ x = 226) (nh_227 : ¬ x = 227) : ∀ (n : Nat) (v2 : Int32) (v3 : Int32) (σ : gS), fX11_findRatios_56 p1 k48 n v2 v3 σ = some (r, σ') → sm σ σ' x y := by
  intro n
  induction n with
  | zero => intro v2 v3 σ h; exact absurd (show none = some (r, σ') from h) (by intro q; cases q)
  | succ n ih =>
  intro v2 v3 σ h
  unfold fX11_findRatios_56 at h
  have f := sm_r σ x y
  rcases ite_or h with ⟨_, h⟩ | ⟨_, h⟩
  · exact sm_t f (wX11_findRatios_265 hk48 nh_168_92 nh_168_93 nh_225 nh_226 nh_227 h)
  · rcases ite_or h with ⟨_, h⟩ | ⟨_, h⟩
    · obtain ⟨g3, h⟩ := gg_some h
      obtain ⟨g4, h⟩ := gg_some h
      rcases ite_or h with ⟨_, h⟩ | ⟨_, h⟩
      · exact sm_t f (wX11_findRatios_87 hk48 (fun v2 v3 σ h => ih v2 v3 σ h) nh_168_92 nh_168_93 nh_225 nh_226 nh_227 h)
      · exact sm_t f (wX11_findRatios_87 hk48 (fun v2 v3 σ h => ih v2 v3 σ h) nh_168_92 nh_168_93 nh_225 nh_226 nh_227 h)
    · exact sm_t f (wX11_findRatios_265 hk48 nh_168_92 nh_168_93 nh_225 nh_226 nh_227 h)
set_option maxRecDepth 10000 in
theorem wX11_findRatios_48 {x y : Nat} {p1 : Int32} {r : Unit} {σ' : gS} (nh_168_92 : ¬ (x = 168 ∧ y = 92)) (nh_168_93 : ¬ (x = 168 ∧ y = 93)) (nh_225 : ¬ x = 225) (nh_226 : ¬ x = 226) (nh_227 : ¬ x = 227) : ∀ (n : Nat) (v2 : Int32) (σ : gS), fX11_findRatios_48 p1 n v2 σ = some (r, σ') → sm σ σ' x y := by
  intro n
  induction n with
  | zero => intro v2 σ h; exact absurd (show none = some (r, σ') from h) (by intro q; cases q)
  | succ n ih =>
  intro v2 σ h
  unfold fX11_findRatios_48 at h
  have f := sm_r σ x y
  rcases ite_or h with ⟨_, h⟩ | ⟨_, h⟩
  · obtain ⟨-, rfl⟩ := so_inj h
    exact f
  · exact sm_t f (wX11_findRatios_56 (fun v2 σ h => ih v2 σ h) nh_168_92 nh_168_93 nh_225 nh_226 nh_227 2000 0 0 σ h)
set_option maxRecDepth 10000 in
theorem wX11_findRatios_2 {x y : Nat} {p1 : Int32} {r : Unit} {σ' : gS} (nh_168_92 : ¬ (x = 168 ∧ y = 92)) (nh_168_93 : ¬ (x = 168 ∧ y = 93)) (nh_225 : ¬ x = 225) (nh_226 : ¬ x = 226) (nh_227 : ¬ x = 227) : ∀ (n : Nat) (v2 : Int32) (σ : gS), fX11_findRatios_2 p1 n v2 σ = some (r, σ') → sm σ σ' x y := by
  intro n
  induction n with
  | zero => intro v2 σ h; exact absurd (show none = some (r, σ') from h) (by intro q; cases q)
  | succ n ih =>
  intro v2 σ h
  unfold fX11_findRatios_2 at h
  have f := sm_r σ x y
  rcases ite_or h with ⟨_, h⟩ | ⟨_, h⟩
  · obtain ⟨g2, h⟩ := gg_some h
    obtain ⟨σ3, eσ3, h⟩ := bnd_nm h
    have f := sm_J f (fun q => nh_225 q.1) eσ3
    obtain ⟨g4, h⟩ := gg_some h
    obtain ⟨σ5, eσ5, h⟩ := bnd_nm h
    have f := sm_J f (fun q => nh_226 q.1) eσ5
    exact sm_t f (wX11_findRatios_48 nh_168_92 nh_168_93 nh_225 nh_226 nh_227 2000 1 σ5 h)
  · rcases ite_or h with ⟨_, h⟩ | ⟨_, h⟩
    · exact sm_t f (wX11_findRatios_25 (fun v2 σ h => ih v2 σ h) nh_168_92 nh_168_93 nh_225 nh_226 nh_227 h)
    · exact sm_t f (wX11_findRatios_25 (fun v2 σ h => ih v2 σ h) nh_168_92 nh_168_93 nh_225 nh_226 nh_227 h)
set_option maxRecDepth 10000 in
theorem wX11_findRatios {x y : Nat} {p1 : Int32} {r : Unit} {σ' : gS} {σ : gS} (nh_168_92 : ¬ (x = 168 ∧ y = 92)) (nh_168_93 : ¬ (x = 168 ∧ y = 93)) (nh_225 : ¬ x = 225) (nh_226 : ¬ x = 226) (nh_227 : ¬ x = 227) (h : fX11_findRatios p1 σ = some (r, σ')) : sm σ σ' x y := by
  unfold fX11_findRatios at h
  have f := sm_r σ x y
  exact sm_t f (wX11_findRatios_2 nh_168_92 nh_168_93 nh_225 nh_226 nh_227 2000 0 σ h)
set_option maxRecDepth 10000 in
theorem wX11_ratio_42 {x y : Nat} {p1 : Int32} {p2 : Int32} {p3 : Int32} {r : Int64} {σ' : gS} {σ : gS} (nh_168_92 : ¬ (x = 168 ∧ y = 92)) (nh_168_93 : ¬ (x = 168 ∧ y = 93)) (nh_225 : ¬ x = 225) (nh_226 : ¬ x = 226) (nh_227 : ¬ x = 227) (h : fX11_ratio_42 p1 p2 p3 σ = some (r, σ')) : sm σ σ' x y := by
  unfold fX11_ratio_42 at h
  have f := sm_r σ x y
  obtain ⟨-, rfl⟩ := so_inj h
  exact f
set_option maxRecDepth 10000 in
theorem wX11_ratio_99 {x y : Nat} {p1 : Int32} {p2 : Int32} {p3 : Int32} {r : Int64} {σ' : gS} {s0 : Int64} {σ : gS} (nh_168_92 : ¬ (x = 168 ∧ y = 92)) (nh_168_93 : ¬ (x = 168 ∧ y = 93)) (nh_225 : ¬ x = 225) (nh_226 : ¬ x = 226) (nh_227 : ¬ x = 227) (h : fX11_ratio_99 p1 p2 p3 s0 σ = some (r, σ')) : sm σ σ' x y := by
  unfold fX11_ratio_99 at h
  have f := sm_r σ x y
  obtain ⟨-, rfl⟩ := so_inj h
  exact f
set_option maxRecDepth 10000 in
theorem wX11_ratio {x y : Nat} {p1 : Int32} {p2 : Int32} {p3 : Int32} {r : Int64} {σ' : gS} {σ : gS} (nh_168_92 : ¬ (x = 168 ∧ y = 92)) (nh_168_93 : ¬ (x = 168 ∧ y = 93)) (nh_225 : ¬ x = 225) (nh_226 : ¬ x = 226) (nh_227 : ¬ x = 227) (h : fX11_ratio p1 p2 p3 σ = some (r, σ')) : sm σ σ' x y := by
  unfold fX11_ratio at h
  have f := sm_r σ x y
  obtain ⟨x1, σ2, y3, h⟩ := bd_some h
  have f := sm_t f (wX11_in y3)
  rcases ite_or h with ⟨_, h⟩ | ⟨_, h⟩
  · exact sm_t f (wX11_ratio_42 nh_168_92 nh_168_93 nh_225 nh_226 nh_227 h)
  · obtain ⟨x5, σ6, y7, h⟩ := bd_some h
    have f := sm_t f (wX11_in y7)
    rcases ite_or h with ⟨_, h⟩ | ⟨_, h⟩
    · exact sm_t f (wX11_ratio_42 nh_168_92 nh_168_93 nh_225 nh_226 nh_227 h)
    · obtain ⟨x9, σ10, y11, h⟩ := bd_some h
      have f := sm_t f (wX11_in y11)
      rcases ite_or h with ⟨_, h⟩ | ⟨_, h⟩
      · exact sm_t f (wX11_ratio_42 nh_168_92 nh_168_93 nh_225 nh_226 nh_227 h)
      · obtain ⟨_, σ13, y14, h⟩ := bd_some h
        have f := sm_t f (wX11_findRatios nh_168_92 nh_168_93 nh_225 nh_226 nh_227 y14)
        obtain ⟨g15, h⟩ := gg_some h
        rcases ite_or h with ⟨_, h⟩ | ⟨_, h⟩
        · exact sm_t f (wX11_ratio_99 nh_168_92 nh_168_93 nh_225 nh_226 nh_227 h)
        · obtain ⟨g17, h⟩ := gg_some h
          rcases ite_or h with ⟨_, h⟩ | ⟨_, h⟩
          · exact sm_t f (wX11_ratio_99 nh_168_92 nh_168_93 nh_225 nh_226 nh_227 h)
          · rcases ite_or h with ⟨_, h⟩ | ⟨_, h⟩
            · obtain ⟨g21, h⟩ := gg_some h
              exact sm_t f (wX11_ratio_99 nh_168_92 nh_168_93 nh_225 nh_226 nh_227 h)
            · obtain ⟨g20, h⟩ := gg_some h
              exact sm_t f (wX11_ratio_99 nh_168_92 nh_168_93 nh_225 nh_226 nh_227 h)
set_option maxRecDepth 10000 in
theorem wX11_lock_111 {x y : Nat} {r : Int32} {σ' : gS} {v1 : Int32} {σ : gS} (nh_168_92 : ¬ (x = 168 ∧ y = 92)) (nh_168_93 : ¬ (x = 168 ∧ y = 93)) (nh_225 : ¬ x = 225) (nh_226 : ¬ x = 226) (nh_227 : ¬ x = 227) (h : fX11_lock_111 v1 σ = some (r, σ')) : sm σ σ' x y := by
  unfold fX11_lock_111 at h
  have f := sm_r σ x y
  obtain ⟨-, rfl⟩ := so_inj h
  exact f
set_option maxRecDepth 10000 in
theorem wX11_lock_113 {x y : Nat} {k2 : Int32 → gS → Option (Int32 × gS)} {r : Int32} {σ' : gS} {v1 : Int32} {σ : gS} (hk2 : ∀ (v1 : Int32) (σ : gS), k2 v1 σ = some (r, σ') → sm σ σ' x y) (nh_168_92 : ¬ (x = 168 ∧ y = 92)) (nh_168_93 : ¬ (x = 168 ∧ y = 93)) (nh_225 : ¬ x = 225) (nh_226 : ¬ x = 226) (nh_227 : ¬ x = 227) (h : fX11_lock_113 k2 v1 σ = some (r, σ')) : sm σ σ' x y := by
  unfold fX11_lock_113 at h
  have f := sm_r σ x y
  obtain ⟨x1, ex1, h⟩ := bnd_nm h
  exact sm_t f (hk2 x1 σ h)
set_option maxRecDepth 10000 in
theorem wX11_lock_24 {x y : Nat} {k2 : Int32 → gS → Option (Int32 × gS)} {r : Int32} {σ' : gS} (hk2 : ∀ (v1 : Int32) (σ : gS), k2 v1 σ = some (r, σ') → sm σ σ' x y) (nh_168_92 : ¬ (x = 168 ∧ y = 92)) (nh_168_93 : ¬ (x = 168 ∧ y = 93)) (nh_225 : ¬ x = 225) (nh_226 : ¬ x = 226) (nh_227 : ¬ x = 227) : ∀ (n : Nat) (v1 : Int32) (v2 : Int32) (v3 : Int32) (σ : gS), fX11_lock_24 k2 n v1 v2 v3 σ = some (r, σ') → sm σ σ' x y := by
  intro n
  induction n with
  | zero => intro v1 v2 v3 σ h; exact absurd (show none = some (r, σ') from h) (by intro q; cases q)
  | succ n ih =>
  intro v1 v2 v3 σ h
  unfold fX11_lock_24 at h
  have f := sm_r σ x y
  obtain ⟨g1, h⟩ := gg_some h
  rcases ite_or h with ⟨_, h⟩ | ⟨_, h⟩
  · obtain ⟨x14, ex14, h⟩ := bnd_nm h
    obtain ⟨_, σ15, y16, h⟩ := bd_some h
    have f := sm_t f (wX11_findRatios nh_168_92 nh_168_93 nh_225 nh_226 nh_227 y16)
    exact sm_t f (ih v1 v2 x14 σ15 h)
  · obtain ⟨g3, h⟩ := gg_some h
    obtain ⟨g4, h⟩ := gg_some h
    rcases ite_or h with ⟨_, h⟩ | ⟨_, h⟩
    · obtain ⟨g6, h⟩ := gg_some h
      rcases ite_or h with ⟨_, h⟩ | ⟨_, h⟩
      · obtain ⟨_, σ8, y9, h⟩ := bd_some h
        have f := sm_t f (wX11_ratioBy nh_168_92 nh_168_93 y9)
        obtain ⟨g10, h⟩ := gg_some h
        rcases ite_or h with ⟨_, h⟩ | ⟨_, h⟩
        · obtain ⟨g12, h⟩ := gg_some h
          rcases ite_or h with ⟨_, h⟩ | ⟨_, h⟩
          · exact sm_t f (wX11_lock_113 hk2 nh_168_92 nh_168_93 nh_225 nh_226 nh_227 h)
          · exact sm_t f (wX11_lock_111 nh_168_92 nh_168_93 nh_225 nh_226 nh_227 h)
        · exact sm_t f (wX11_lock_111 nh_168_92 nh_168_93 nh_225 nh_226 nh_227 h)
      · exact sm_t f (wX11_lock_113 hk2 nh_168_92 nh_168_93 nh_225 nh_226 nh_227 h)
    · exact sm_t f (wX11_lock_113 hk2 nh_168_92 nh_168_93 nh_225 nh_226 nh_227 h)
set_option maxRecDepth 10000 in
theorem wX11_lock_2 {x y : Nat} {r : Int32} {σ' : gS} (nh_168_92 : ¬ (x = 168 ∧ y = 92)) (nh_168_93 : ¬ (x = 168 ∧ y = 93)) (nh_225 : ¬ x = 225) (nh_226 : ¬ x = 226) (nh_227 : ¬ x = 227) : ∀ (n : Nat) (v1 : Int32) (σ : gS), fX11_lock_2 n v1 σ = some (r, σ') → sm σ σ' x y := by
  intro n
  induction n with
  | zero => intro v1 σ h; exact absurd (show none = some (r, σ') from h) (by intro q; cases q)
  | succ n ih =>
  intro v1 σ h
  unfold fX11_lock_2 at h
  have f := sm_r σ x y
  rcases ite_or h with ⟨_, h⟩ | ⟨_, h⟩
  · obtain ⟨-, rfl⟩ := so_inj h
    exact f
  · obtain ⟨g2, h⟩ := gg_some h
    obtain ⟨_, σ3, y4, h⟩ := bd_some h
    have f := sm_t f (wX11_findRatios nh_168_92 nh_168_93 nh_225 nh_226 nh_227 y4)
    exact sm_t f (wX11_lock_24 (fun v1 σ h => ih v1 σ h) nh_168_92 nh_168_93 nh_225 nh_226 nh_227 2000 v1 (σ.1 179 v1.toNatClampNeg) 0 σ3 h)
set_option maxRecDepth 10000 in
theorem wX11_lock {x y : Nat} {r : Int32} {σ' : gS} {σ : gS} (nh_168_92 : ¬ (x = 168 ∧ y = 92)) (nh_168_93 : ¬ (x = 168 ∧ y = 93)) (nh_225 : ¬ x = 225) (nh_226 : ¬ x = 226) (nh_227 : ¬ x = 227) (h : fX11_lock σ = some (r, σ')) : sm σ σ' x y := by
  unfold fX11_lock at h
  have f := sm_r σ x y
  exact sm_t f (wX11_lock_2 nh_168_92 nh_168_93 nh_225 nh_226 nh_227 2000 0 σ h)
set_option maxRecDepth 10000 in
theorem wX11_fourBars_49 {x y : Nat} {p1 : Int32} {p2 : Int32} {p3 : Int32} {p4 : Int32} {r : Int32} {σ' : gS} {σ : gS} (h : fX11_fourBars_49 p1 p2 p3 p4 σ = some (r, σ')) : sm σ σ' x y := by
  unfold fX11_fourBars_49 at h
  have f := sm_r σ x y
  obtain ⟨-, rfl⟩ := so_inj h
  exact f
set_option maxRecDepth 10000 in
theorem wX11_fourBars_186 {x y : Nat} {p1 : Int32} {p2 : Int32} {p3 : Int32} {p4 : Int32} {r : Int32} {σ' : gS} {s0 : Int32} {σ : gS} (h : fX11_fourBars_186 p1 p2 p3 p4 s0 σ = some (r, σ')) : sm σ σ' x y := by
  unfold fX11_fourBars_186 at h
  have f := sm_r σ x y
  obtain ⟨-, rfl⟩ := so_inj h
  exact f
set_option maxRecDepth 10000 in
theorem wX11_fourBars_219 {x y : Nat} {p1 : Int32} {p2 : Int32} {p3 : Int32} {p4 : Int32} {r : Int32} {σ' : gS} {s0 : Int32} {σ : gS} (h : fX11_fourBars_219 p1 p2 p3 p4 s0 σ = some (r, σ')) : sm σ σ' x y := by
  unfold fX11_fourBars_219 at h
  have f := sm_r σ x y
  obtain ⟨-, rfl⟩ := so_inj h
  exact f
set_option maxRecDepth 10000 in
theorem wX11_fourBars_144 {x y : Nat} {p1 : Int32} {p2 : Int32} {p3 : Int32} {p4 : Int32} {r : Int32} {σ' : gS} {v5 : Int32} {v6 : Int32} {s0 : Int32} {σ : gS} (h : fX11_fourBars_144 p1 p2 p3 p4 v5 v6 s0 σ = some (r, σ')) : sm σ σ' x y := by
  unfold fX11_fourBars_144 at h
  have f := sm_r σ x y
  rcases ite_or h with ⟨_, h⟩ | ⟨_, h⟩
  · rcases ite_or h with ⟨_, h⟩ | ⟨_, h⟩
    · rcases ite_or h with ⟨_, h⟩ | ⟨_, h⟩
      · exact sm_t f (wX11_fourBars_219 h)
      · rcases ite_or h with ⟨_, h⟩ | ⟨_, h⟩
        · exact sm_t f (wX11_fourBars_219 h)
        · rcases ite_or h with ⟨_, h⟩ | ⟨_, h⟩
          · exact sm_t f (wX11_fourBars_219 h)
          · exact sm_t f (wX11_fourBars_219 h)
    · rcases ite_or h with ⟨_, h⟩ | ⟨_, h⟩
      · exact sm_t f (wX11_fourBars_186 h)
      · exact sm_t f (wX11_fourBars_186 h)
  · obtain ⟨-, rfl⟩ := so_inj h
    exact f
set_option maxRecDepth 10000 in
theorem wX11_fourBars_128 {x y : Nat} {p1 : Int32} {p2 : Int32} {p3 : Int32} {p4 : Int32} {r : Int32} {σ' : gS} {v5 : Int32} {v6 : Int32} {s0 : Int32} {σ : gS} (h : fX11_fourBars_128 p1 p2 p3 p4 v5 v6 s0 σ = some (r, σ')) : sm σ σ' x y := by
  unfold fX11_fourBars_128 at h
  have f := sm_r σ x y
  rcases ite_or h with ⟨_, h⟩ | ⟨_, h⟩
  · exact sm_t f (wX11_fourBars_144 h)
  · exact sm_t f (wX11_fourBars_144 h)
set_option maxRecDepth 10000 in
theorem wX11_fourBars_114 {x y : Nat} {p1 : Int32} {p2 : Int32} {p3 : Int32} {p4 : Int32} {r : Int32} {σ' : gS} {v5 : Int32} {v6 : Int32} {s0 : Int32} {σ : gS} (h : fX11_fourBars_114 p1 p2 p3 p4 v5 v6 s0 σ = some (r, σ')) : sm σ σ' x y := by
  unfold fX11_fourBars_114 at h
  have f := sm_r σ x y
  rcases ite_or h with ⟨_, h⟩ | ⟨_, h⟩
  · exact sm_t f (wX11_fourBars_128 h)
  · exact sm_t f (wX11_fourBars_128 h)
set_option maxRecDepth 10000 in
theorem wX11_fourBars_102 {x y : Nat} {p1 : Int32} {p2 : Int32} {p3 : Int32} {p4 : Int32} {r : Int32} {σ' : gS} {v5 : Int32} {s0 : Int32} {σ : gS} (h : fX11_fourBars_102 p1 p2 p3 p4 v5 s0 σ = some (r, σ')) : sm σ σ' x y := by
  unfold fX11_fourBars_102 at h
  have f := sm_r σ x y
  rcases ite_or h with ⟨_, h⟩ | ⟨_, h⟩
  · exact sm_t f (wX11_fourBars_114 h)
  · exact sm_t f (wX11_fourBars_114 h)
set_option maxRecDepth 10000 in
theorem wX11_fourBars_86 {x y : Nat} {p1 : Int32} {p2 : Int32} {p3 : Int32} {p4 : Int32} {r : Int32} {σ' : gS} {v5 : Int32} {s0 : Int32} {σ : gS} (h : fX11_fourBars_86 p1 p2 p3 p4 v5 s0 σ = some (r, σ')) : sm σ σ' x y := by
  unfold fX11_fourBars_86 at h
  have f := sm_r σ x y
  rcases ite_or h with ⟨_, h⟩ | ⟨_, h⟩
  · exact sm_t f (wX11_fourBars_102 h)
  · exact sm_t f (wX11_fourBars_102 h)
set_option maxRecDepth 10000 in
theorem wX11_fourBars_72 {x y : Nat} {p1 : Int32} {p2 : Int32} {p3 : Int32} {p4 : Int32} {r : Int32} {σ' : gS} {v5 : Int32} {s0 : Int32} {σ : gS} (h : fX11_fourBars_72 p1 p2 p3 p4 v5 s0 σ = some (r, σ')) : sm σ σ' x y := by
  unfold fX11_fourBars_72 at h
  have f := sm_r σ x y
  rcases ite_or h with ⟨_, h⟩ | ⟨_, h⟩
  · exact sm_t f (wX11_fourBars_86 h)
  · exact sm_t f (wX11_fourBars_86 h)
set_option maxRecDepth 10000 in
theorem wX11_fourBars {x y : Nat} {p1 : Int32} {p2 : Int32} {p3 : Int32} {p4 : Int32} {r : Int32} {σ' : gS} {σ : gS} (h : fX11_fourBars p1 p2 p3 p4 σ = some (r, σ')) : sm σ σ' x y := by
  unfold fX11_fourBars at h
  have f := sm_r σ x y
  obtain ⟨x1, σ2, y3, h⟩ := bd_some h
  have f := sm_t f (wX11_in y3)
  rcases ite_or h with ⟨_, h⟩ | ⟨_, h⟩
  · exact sm_t f (wX11_fourBars_49 h)
  · obtain ⟨x5, σ6, y7, h⟩ := bd_some h
    have f := sm_t f (wX11_in y7)
    rcases ite_or h with ⟨_, h⟩ | ⟨_, h⟩
    · exact sm_t f (wX11_fourBars_49 h)
    · obtain ⟨x9, σ10, y11, h⟩ := bd_some h
      have f := sm_t f (wX11_in y11)
      rcases ite_or h with ⟨_, h⟩ | ⟨_, h⟩
      · exact sm_t f (wX11_fourBars_49 h)
      · obtain ⟨x13, σ14, y15, h⟩ := bd_some h
        have f := sm_t f (wX11_in y15)
        rcases ite_or h with ⟨_, h⟩ | ⟨_, h⟩
        · exact sm_t f (wX11_fourBars_49 h)
        · obtain ⟨x17, ex17, h⟩ := bnd_nm h
          rcases ite_or h with ⟨_, h⟩ | ⟨_, h⟩
          · exact sm_t f (wX11_fourBars_72 h)
          · exact sm_t f (wX11_fourBars_72 h)
set_option maxRecDepth 10000 in
theorem wX11_finds {x y : Nat} {p1 : Int32} {r : Int32} {σ' : gS} {σ : gS} (nh_168_94 : ¬ (x = 168 ∧ y = 94)) (h : fX11_finds p1 σ = some (r, σ')) : sm σ σ' x y := by
  unfold fX11_finds at h
  have f := sm_r σ x y
  obtain ⟨σ1, eσ1, h⟩ := bnd_nm h
  have f := sm_I f nh_168_94 eσ1
  obtain ⟨-, rfl⟩ := so_inj h
  exact f
set_option maxRecDepth 10000 in
theorem wX11_begins_29 {x y : Nat} {p1 : Int32} {r : Unit} {σ' : gS} {σ : gS} (nh_168_96 : ¬ (x = 168 ∧ y = 96)) (nh_228 : ¬ x = 228) (h : fX11_begins_29 p1 σ = some (r, σ')) : sm σ σ' x y := by
  unfold fX11_begins_29 at h
  have f := sm_r σ x y
  obtain ⟨-, rfl⟩ := so_inj h
  exact f
set_option maxRecDepth 10000 in
theorem wX11_begins {x y : Nat} {p1 : Int32} {r : Unit} {σ' : gS} {σ : gS} (nh_168_96 : ¬ (x = 168 ∧ y = 96)) (nh_228 : ¬ x = 228) (h : fX11_begins p1 σ = some (r, σ')) : sm σ σ' x y := by
  unfold fX11_begins at h
  have f := sm_r σ x y
  rcases ite_or h with ⟨_, h⟩ | ⟨_, h⟩
  · exact sm_t f (wX11_begins_29 nh_168_96 nh_228 h)
  · obtain ⟨g2, h⟩ := gg_some h
    obtain ⟨σ3, eσ3, h⟩ := bnd_nm h
    have f := sm_I f (fun q => nh_228 q.1) eσ3
    obtain ⟨σ4, eσ4, h⟩ := bnd_nm h
    have f := sm_I f nh_168_96 eσ4
    exact sm_t f (wX11_begins_29 nh_168_96 nh_228 h)
set_option maxRecDepth 10000 in
theorem wX11_freedom {x y : Nat} {p1 : Int32} {r : Int32} {σ' : gS} {σ : gS} (nh_168_96 : ¬ (x = 168 ∧ y = 96)) (nh_228 : ¬ x = 228) (h : fX11_freedom p1 σ = some (r, σ')) : sm σ σ' x y := by
  unfold fX11_freedom at h
  have f := sm_r σ x y
  rcases ite_or h with ⟨_, h⟩ | ⟨_, h⟩
  · obtain ⟨_, σ2, y3, h⟩ := bd_some h
    have f := sm_t f (wX11_begins nh_168_96 nh_228 y3)
    obtain ⟨-, rfl⟩ := so_inj h
    exact f
  ·
    rcases ite_or h with ⟨_, h⟩ | ⟨_, h⟩
    · obtain ⟨_, σ5, y6, h⟩ := bd_some h
      have f := sm_t f (wX11_begins nh_168_96 nh_228 y6)
      obtain ⟨_, σ7, y8, h⟩ := bd_some h
      have f := sm_t f (wX11_begins nh_168_96 nh_228 y8)
      obtain ⟨-, rfl⟩ := so_inj h
      exact f
    ·
      rcases ite_or h with ⟨_, h⟩ | ⟨_, h⟩
      · obtain ⟨_, σ10, y11, h⟩ := bd_some h
        have f := sm_t f (wX11_begins nh_168_96 nh_228 y11)
        obtain ⟨_, σ12, y13, h⟩ := bd_some h
        have f := sm_t f (wX11_begins nh_168_96 nh_228 y13)
        obtain ⟨-, rfl⟩ := so_inj h
        exact f
      ·
        rcases ite_or h with ⟨_, h⟩ | ⟨_, h⟩
        · obtain ⟨_, σ15, y16, h⟩ := bd_some h
          have f := sm_t f (wX11_begins nh_168_96 nh_228 y16)
          obtain ⟨-, rfl⟩ := so_inj h
          exact f
        ·
          obtain ⟨_, σ17, y18, h⟩ := bd_some h
          have f := sm_t f (wX11_begins nh_168_96 nh_228 y18)
          obtain ⟨_, σ19, y20, h⟩ := bd_some h
          have f := sm_t f (wX11_begins nh_168_96 nh_228 y20)
          obtain ⟨-, rfl⟩ := so_inj h
          exact f
set_option maxRecDepth 10000 in
theorem wX11_mass_127 {x y : Nat} {p1 : Int32} {r : Int32} {σ' : gS} {s0 : Int32} {σ : gS} (nh_168_96 : ¬ (x = 168 ∧ y = 96)) (nh_228 : ¬ x = 228) (h : fX11_mass_127 p1 s0 σ = some (r, σ')) : sm σ σ' x y := by
  unfold fX11_mass_127 at h
  have f := sm_r σ x y
  obtain ⟨-, rfl⟩ := so_inj h
  exact f
set_option maxRecDepth 10000 in
theorem wX11_mass_110 {x y : Nat} {p1 : Int32} {r : Int32} {σ' : gS} {v2 : Int32} {σ : gS} (nh_168_96 : ¬ (x = 168 ∧ y = 96)) (nh_228 : ¬ x = 228) (h : fX11_mass_110 p1 v2 σ = some (r, σ')) : sm σ σ' x y := by
  unfold fX11_mass_110 at h
  have f := sm_r σ x y
  obtain ⟨_, σ1, y2, h⟩ := bd_some h
  have f := sm_t f (wX11_begins nh_168_96 nh_228 y2)
  rcases ite_or h with ⟨_, h⟩ | ⟨_, h⟩
  · exact sm_t f (wX11_mass_127 nh_168_96 nh_228 h)
  · exact sm_t f (wX11_mass_127 nh_168_96 nh_228 h)
set_option maxRecDepth 10000 in
theorem wX11_mass {x y : Nat} {p1 : Int32} {r : Int32} {σ' : gS} {σ : gS} (nh_168_96 : ¬ (x = 168 ∧ y = 96)) (nh_228 : ¬ x = 228) (h : fX11_mass p1 σ = some (r, σ')) : sm σ σ' x y := by
  unfold fX11_mass at h
  have f := sm_r σ x y
  obtain ⟨g1, h⟩ := gg_some h
  obtain ⟨g2, h⟩ := gg_some h
  rcases ite_or h with ⟨_, h⟩ | ⟨_, h⟩
  · obtain ⟨_, σ11, y12, h⟩ := bd_some h
    have f := sm_t f (wX11_begins nh_168_96 nh_228 y12)
    obtain ⟨g13, h⟩ := gg_some h
    obtain ⟨g14, h⟩ := gg_some h
    obtain ⟨g15, h⟩ := gg_some h
    obtain ⟨g16, h⟩ := gg_some h
    obtain ⟨g17, h⟩ := gg_some h
    obtain ⟨g18, h⟩ := gg_some h
    obtain ⟨g19, h⟩ := gg_some h
    obtain ⟨g20, h⟩ := gg_some h
    obtain ⟨x21, σ22, y23, h⟩ := bd_some h
    have f := sm_t f (wX11_square y23)
    obtain ⟨x24, σ25, y26, h⟩ := bd_some h
    have f := sm_t f (wX11_root y26)
    obtain ⟨-, rfl⟩ := so_inj h
    exact f
  · rcases ite_or h with ⟨_, h⟩ | ⟨_, h⟩
    · obtain ⟨_, σ8, y9, h⟩ := bd_some h
      have f := sm_t f (wX11_begins nh_168_96 nh_228 y9)
      obtain ⟨g10, h⟩ := gg_some h
      obtain ⟨-, rfl⟩ := so_inj h
      exact f
    · rcases ite_or h with ⟨_, h⟩ | ⟨_, h⟩
      · exact sm_t f (wX11_mass_110 nh_168_96 nh_228 h)
      · obtain ⟨_, σ6, y7, h⟩ := bd_some h
        have f := sm_t f (wX11_begins nh_168_96 nh_228 y7)
        exact sm_t f (wX11_mass_110 nh_168_96 nh_228 h)
set_option maxRecDepth 10000 in
theorem wX11_loss_87 {x y : Nat} {p1 : Int32} {r : Int32} {σ' : gS} {s0 : Int32} {σ : gS} (nh_168_94 : ¬ (x = 168 ∧ y = 94)) (nh_168_96 : ¬ (x = 168 ∧ y = 96)) (nh_228 : ¬ x = 228) (h : fX11_loss_87 p1 s0 σ = some (r, σ')) : sm σ σ' x y := by
  unfold fX11_loss_87 at h
  have f := sm_r σ x y
  obtain ⟨-, rfl⟩ := so_inj h
  exact f
set_option maxRecDepth 10000 in
theorem wX11_loss_53 {x y : Nat} {p1 : Int32} {r : Int32} {σ' : gS} {v2 : Int32} {v3 : Int32} {σ : gS} (nh_168_94 : ¬ (x = 168 ∧ y = 94)) (nh_168_96 : ¬ (x = 168 ∧ y = 96)) (nh_228 : ¬ x = 228) (h : fX11_loss_53 p1 v2 v3 σ = some (r, σ')) : sm σ σ' x y := by
  unfold fX11_loss_53 at h
  have f := sm_r σ x y
  obtain ⟨_, σ1, y2, h⟩ := bd_some h
  have f := sm_t f (wX11_begins nh_168_96 nh_228 y2)
  obtain ⟨x3, σ4, y5, h⟩ := bd_some h
  have f := sm_t f (wX11_freedom nh_168_96 nh_228 y5)
  rcases ite_or h with ⟨_, h⟩ | ⟨_, h⟩
  · obtain ⟨x8, σ9, y10, h⟩ := bd_some h
    have f := sm_t f (wX11_finds nh_168_94 y10)
    exact sm_t f (wX11_loss_87 nh_168_94 nh_168_96 nh_228 h)
  · obtain ⟨g7, h⟩ := gg_some h
    exact sm_t f (wX11_loss_87 nh_168_94 nh_168_96 nh_228 h)
set_option maxRecDepth 10000 in
theorem wX11_loss {x y : Nat} {p1 : Int32} {r : Int32} {σ' : gS} {σ : gS} (nh_168_94 : ¬ (x = 168 ∧ y = 94)) (nh_168_96 : ¬ (x = 168 ∧ y = 96)) (nh_228 : ¬ x = 228) (h : fX11_loss p1 σ = some (r, σ')) : sm σ σ' x y := by
  unfold fX11_loss at h
  have f := sm_r σ x y
  obtain ⟨g1, h⟩ := gg_some h
  rcases ite_or h with ⟨_, h⟩ | ⟨_, h⟩
  · obtain ⟨_, σ9, y10, h⟩ := bd_some h
    have f := sm_t f (wX11_begins nh_168_96 nh_228 y10)
    obtain ⟨_, σ11, y12, h⟩ := bd_some h
    have f := sm_t f (wX11_begins nh_168_96 nh_228 y12)
    obtain ⟨_, σ13, y14, h⟩ := bd_some h
    have f := sm_t f (wX11_begins nh_168_96 nh_228 y14)
    obtain ⟨-, rfl⟩ := so_inj h
    exact f
  · rcases ite_or h with ⟨_, h⟩ | ⟨_, h⟩
    · obtain ⟨_, σ4, y5, h⟩ := bd_some h
      have f := sm_t f (wX11_begins nh_168_96 nh_228 y5)
      obtain ⟨x6, σ7, y8, h⟩ := bd_some h
      have f := sm_t f (wX11_mass nh_168_96 nh_228 y8)
      exact sm_t f (wX11_loss_53 nh_168_94 nh_168_96 nh_228 h)
    · exact sm_t f (wX11_loss_53 nh_168_94 nh_168_96 nh_228 h)
set_option maxRecDepth 10000 in
theorem wX11_isPart {x y : Nat} {p1 : Int32} {r : Int32} {σ' : gS} {σ : gS} (h : fX11_isPart p1 σ = some (r, σ')) : sm σ σ' x y := by
  unfold fX11_isPart at h
  have f := sm_r σ x y
  obtain ⟨x1, σ2, y3, h⟩ := bd_some h
  have f := sm_t f (wX11_in y3)
  obtain ⟨g4, h⟩ := gg_some h
  obtain ⟨-, rfl⟩ := so_inj h
  exact f
set_option maxRecDepth 10000 in
theorem wX11_ask_20 {x y : Nat} {p1 : Int32} {p2 : Int32} {r : Int32} {σ' : gS} {σ : gS} (nh_168_94 : ¬ (x = 168 ∧ y = 94)) (nh_168_96 : ¬ (x = 168 ∧ y = 96)) (nh_228 : ¬ x = 228) (h : fX11_ask_20 p1 p2 σ = some (r, σ')) : sm σ σ' x y := by
  unfold fX11_ask_20 at h
  have f := sm_r σ x y
  obtain ⟨-, rfl⟩ := so_inj h
  exact f
set_option maxRecDepth 10000 in
theorem wX11_ask_68 {x y : Nat} {p1 : Int32} {p2 : Int32} {r : Int32} {σ' : gS} {s0 : Int32} {σ : gS} (nh_168_94 : ¬ (x = 168 ∧ y = 94)) (nh_168_96 : ¬ (x = 168 ∧ y = 96)) (nh_228 : ¬ x = 228) (h : fX11_ask_68 p1 p2 s0 σ = some (r, σ')) : sm σ σ' x y := by
  unfold fX11_ask_68 at h
  have f := sm_r σ x y
  obtain ⟨-, rfl⟩ := so_inj h
  exact f
set_option maxRecDepth 10000 in
theorem wX11_ask {x y : Nat} {p1 : Int32} {p2 : Int32} {r : Int32} {σ' : gS} {σ : gS} (nh_168_94 : ¬ (x = 168 ∧ y = 94)) (nh_168_96 : ¬ (x = 168 ∧ y = 96)) (nh_228 : ¬ x = 228) (h : fX11_ask p1 p2 σ = some (r, σ')) : sm σ σ' x y := by
  unfold fX11_ask at h
  have f := sm_r σ x y
  obtain ⟨x1, σ2, y3, h⟩ := bd_some h
  have f := sm_t f (wX11_isPart y3)
  rcases ite_or h with ⟨_, h⟩ | ⟨_, h⟩
  · exact sm_t f (wX11_ask_20 nh_168_94 nh_168_96 nh_228 h)
  · obtain ⟨x5, σ6, y7, h⟩ := bd_some h
    have f := sm_t f (wX11_in y7)
    rcases ite_or h with ⟨_, h⟩ | ⟨_, h⟩
    · exact sm_t f (wX11_ask_20 nh_168_94 nh_168_96 nh_228 h)
    · obtain ⟨σ9, eσ9, h⟩ := bnd_nm h
      have f := sm_I f nh_168_96 eσ9
      obtain ⟨σ10, eσ10, h⟩ := bnd_nm h
      have f := sm_I f nh_168_94 eσ10
      rcases ite_or h with ⟨_, h⟩ | ⟨_, h⟩
      · obtain ⟨g19, h⟩ := gg_some h
        obtain ⟨x20, σ21, y22, h⟩ := bd_some h
        have f := sm_t f (wX11_freedom nh_168_96 nh_228 y22)
        exact sm_t f (wX11_ask_68 nh_168_94 nh_168_96 nh_228 h)
      · rcases ite_or h with ⟨_, h⟩ | ⟨_, h⟩
        · obtain ⟨x16, σ17, y18, h⟩ := bd_some h
          have f := sm_t f (wX11_mass nh_168_96 nh_228 y18)
          exact sm_t f (wX11_ask_68 nh_168_94 nh_168_96 nh_228 h)
        · obtain ⟨x13, σ14, y15, h⟩ := bd_some h
          have f := sm_t f (wX11_loss nh_168_94 nh_168_96 nh_228 y15)
          exact sm_t f (wX11_ask_68 nh_168_94 nh_168_96 nh_228 h)
set_option maxRecDepth 10000 in
theorem wX11_trail_27 {x y : Nat} {p1 : Int32} {r : Int32} {σ' : gS} {s0 : Int32} {σ : gS} (h : fX11_trail_27 p1 s0 σ = some (r, σ')) : sm σ σ' x y := by
  unfold fX11_trail_27 at h
  have f := sm_r σ x y
  obtain ⟨-, rfl⟩ := so_inj h
  exact f
set_option maxRecDepth 10000 in
theorem wX11_trail {x y : Nat} {p1 : Int32} {r : Int32} {σ' : gS} {σ : gS} (h : fX11_trail p1 σ = some (r, σ')) : sm σ σ' x y := by
  unfold fX11_trail at h
  have f := sm_r σ x y
  obtain ⟨x1, σ2, y3, h⟩ := bd_some h
  have f := sm_t f (wX11_in y3)
  rcases ite_or h with ⟨_, h⟩ | ⟨_, h⟩
  · exact sm_t f (wX11_trail_27 h)
  · obtain ⟨g5, h⟩ := gg_some h
    exact sm_t f (wX11_trail_27 h)
set_option maxRecDepth 10000 in
theorem wX11_isOf_40 {x y : Nat} {p1 : Int32} {p2 : Int32} {r : Int32} {σ' : gS} {s0 : Int32} {σ : gS} (h : fX11_isOf_40 p1 p2 s0 σ = some (r, σ')) : sm σ σ' x y := by
  unfold fX11_isOf_40 at h
  have f := sm_r σ x y
  obtain ⟨g1, h⟩ := gg_some h
  obtain ⟨-, rfl⟩ := so_inj h
  exact f
set_option maxRecDepth 10000 in
theorem wX11_isOf_35 {x y : Nat} {p1 : Int32} {p2 : Int32} {r : Int32} {σ' : gS} {σ : gS} (h : fX11_isOf_35 p1 p2 σ = some (r, σ')) : sm σ σ' x y := by
  unfold fX11_isOf_35 at h
  have f := sm_r σ x y
  exact sm_t f (wX11_isOf_40 h)
set_option maxRecDepth 10000 in
theorem wX11_isOf_39 {x y : Nat} {p1 : Int32} {p2 : Int32} {r : Int32} {σ' : gS} {σ : gS} (h : fX11_isOf_39 p1 p2 σ = some (r, σ')) : sm σ σ' x y := by
  unfold fX11_isOf_39 at h
  have f := sm_r σ x y
  exact sm_t f (wX11_isOf_40 h)
set_option maxRecDepth 10000 in
theorem wX11_isOf_24 {x y : Nat} {p1 : Int32} {p2 : Int32} {r : Int32} {σ' : gS} {σ : gS} (h : fX11_isOf_24 p1 p2 σ = some (r, σ')) : sm σ σ' x y := by
  unfold fX11_isOf_24 at h
  have f := sm_r σ x y
  rcases ite_or h with ⟨_, h⟩ | ⟨_, h⟩
  · rcases ite_or h with ⟨_, h⟩ | ⟨_, h⟩
    · exact sm_t f (wX11_isOf_35 h)
    · exact sm_t f (wX11_isOf_39 h)
  · exact sm_t f (wX11_isOf_39 h)
set_option maxRecDepth 10000 in
theorem wX11_isOf_14 {x y : Nat} {p1 : Int32} {p2 : Int32} {r : Int32} {σ' : gS} {σ : gS} (h : fX11_isOf_14 p1 p2 σ = some (r, σ')) : sm σ σ' x y := by
  unfold fX11_isOf_14 at h
  have f := sm_r σ x y
  rcases ite_or h with ⟨_, h⟩ | ⟨_, h⟩
  · rcases ite_or h with ⟨_, h⟩ | ⟨_, h⟩
    · exact sm_t f (wX11_isOf_35 h)
    · exact sm_t f (wX11_isOf_24 h)
  · exact sm_t f (wX11_isOf_24 h)
set_option maxRecDepth 10000 in
theorem wX11_isOf {x y : Nat} {p1 : Int32} {p2 : Int32} {r : Int32} {σ' : gS} {σ : gS} (h : fX11_isOf p1 p2 σ = some (r, σ')) : sm σ σ' x y := by
  unfold fX11_isOf at h
  have f := sm_r σ x y
  rcases ite_or h with ⟨_, h⟩ | ⟨_, h⟩
  · exact sm_t f (wX11_isOf_35 h)
  · rcases ite_or h with ⟨_, h⟩ | ⟨_, h⟩
    · rcases ite_or h with ⟨_, h⟩ | ⟨_, h⟩
      · exact sm_t f (wX11_isOf_35 h)
      · exact sm_t f (wX11_isOf_14 h)
    · exact sm_t f (wX11_isOf_14 h)
set_option maxRecDepth 10000 in
theorem wX11_is_43 {x y : Nat} {p1 : Int32} {p2 : Int32} {r : Int32} {σ' : gS} {s0 : Int32} {σ : gS} (h : fX11_is_43 p1 p2 s0 σ = some (r, σ')) : sm σ σ' x y := by
  unfold fX11_is_43 at h
  have f := sm_r σ x y
  obtain ⟨-, rfl⟩ := so_inj h
  exact f
set_option maxRecDepth 10000 in
theorem wX11_is_20 {x y : Nat} {p1 : Int32} {p2 : Int32} {r : Int32} {σ' : gS} {σ : gS} (h : fX11_is_20 p1 p2 σ = some (r, σ')) : sm σ σ' x y := by
  unfold fX11_is_20 at h
  have f := sm_r σ x y
  exact sm_t f (wX11_is_43 h)
set_option maxRecDepth 10000 in
theorem wX11_is {x y : Nat} {p1 : Int32} {p2 : Int32} {r : Int32} {σ' : gS} {σ : gS} (h : fX11_is p1 p2 σ = some (r, σ')) : sm σ σ' x y := by
  unfold fX11_is at h
  have f := sm_r σ x y
  obtain ⟨x1, σ2, y3, h⟩ := bd_some h
  have f := sm_t f (wX11_isPart y3)
  rcases ite_or h with ⟨_, h⟩ | ⟨_, h⟩
  · exact sm_t f (wX11_is_20 h)
  · obtain ⟨x5, σ6, y7, h⟩ := bd_some h
    have f := sm_t f (wX11_in y7)
    rcases ite_or h with ⟨_, h⟩ | ⟨_, h⟩
    · exact sm_t f (wX11_is_20 h)
    · obtain ⟨g9, h⟩ := gg_some h
      obtain ⟨x10, σ11, y12, h⟩ := bd_some h
      have f := sm_t f (wX11_isOf y12)
      rcases ite_or h with ⟨_, h⟩ | ⟨_, h⟩
      · exact sm_t f (wX11_is_43 h)
      · exact sm_t f (wX11_is_43 h)
set_option maxRecDepth 10000 in
theorem wX11_as_20 {x y : Nat} {p1 : Int32} {p2 : Int32} {r : Int32} {σ' : gS} {σ : gS} (nh_168_94 : ¬ (x = 168 ∧ y = 94)) (h : fX11_as_20 p1 p2 σ = some (r, σ')) : sm σ σ' x y := by
  unfold fX11_as_20 at h
  have f := sm_r σ x y
  obtain ⟨-, rfl⟩ := so_inj h
  exact f
set_option maxRecDepth 10000 in
theorem wX11_as_55 {x y : Nat} {p1 : Int32} {p2 : Int32} {r : Int32} {σ' : gS} {s0 : Int32} {σ : gS} (nh_168_94 : ¬ (x = 168 ∧ y = 94)) (h : fX11_as_55 p1 p2 s0 σ = some (r, σ')) : sm σ σ' x y := by
  unfold fX11_as_55 at h
  have f := sm_r σ x y
  obtain ⟨-, rfl⟩ := so_inj h
  exact f
set_option maxRecDepth 10000 in
theorem wX11_as {x y : Nat} {p1 : Int32} {p2 : Int32} {r : Int32} {σ' : gS} {σ : gS} (nh_168_94 : ¬ (x = 168 ∧ y = 94)) (h : fX11_as p1 p2 σ = some (r, σ')) : sm σ σ' x y := by
  unfold fX11_as at h
  have f := sm_r σ x y
  obtain ⟨x1, σ2, y3, h⟩ := bd_some h
  have f := sm_t f (wX11_isPart y3)
  rcases ite_or h with ⟨_, h⟩ | ⟨_, h⟩
  · exact sm_t f (wX11_as_20 nh_168_94 h)
  · obtain ⟨x5, σ6, y7, h⟩ := bd_some h
    have f := sm_t f (wX11_in y7)
    rcases ite_or h with ⟨_, h⟩ | ⟨_, h⟩
    · exact sm_t f (wX11_as_20 nh_168_94 h)
    · obtain ⟨σ9, eσ9, h⟩ := bnd_nm h
      have f := sm_I f nh_168_94 eσ9
      obtain ⟨g10, h⟩ := gg_some h
      obtain ⟨x11, σ12, y13, h⟩ := bd_some h
      have f := sm_t f (wX11_isOf y13)
      rcases ite_or h with ⟨_, h⟩ | ⟨_, h⟩
      · obtain ⟨x15, σ16, y17, h⟩ := bd_some h
        have f := sm_t f (wX11_finds nh_168_94 y17)
        exact sm_t f (wX11_as_55 nh_168_94 h)
      · obtain ⟨g18, h⟩ := gg_some h
        exact sm_t f (wX11_as_55 nh_168_94 h)
set_option maxRecDepth 10000 in
theorem wX11_isRow {x y : Nat} {p1 : Int32} {r : Int32} {σ' : gS} {σ : gS} (h : fX11_isRow p1 σ = some (r, σ')) : sm σ σ' x y := by
  unfold fX11_isRow at h
  have f := sm_r σ x y
  obtain ⟨x1, σ2, y3, h⟩ := bd_some h
  have f := sm_t f (wX11_in y3)
  obtain ⟨g4, h⟩ := gg_some h
  obtain ⟨-, rfl⟩ := so_inj h
  exact f
set_option maxRecDepth 10000 in
theorem wX11_cut_36 {x y : Nat} {p1 : Int32} {p2 : Int64} {r : Int64} {σ' : gS} {s0 : Int64} {σ : gS} (h : fX11_cut_36 p1 p2 s0 σ = some (r, σ')) : sm σ σ' x y := by
  unfold fX11_cut_36 at h
  have f := sm_r σ x y
  obtain ⟨-, rfl⟩ := so_inj h
  exact f
set_option maxRecDepth 10000 in
theorem wX11_cut {x y : Nat} {p1 : Int32} {p2 : Int64} {r : Int64} {σ' : gS} {σ : gS} (h : fX11_cut p1 p2 σ = some (r, σ')) : sm σ σ' x y := by
  unfold fX11_cut at h
  have f := sm_r σ x y
  rcases ite_or h with ⟨_, h⟩ | ⟨_, h⟩
  · exact sm_t f (wX11_cut_36 h)
  · rcases ite_or h with ⟨_, h⟩ | ⟨_, h⟩
    · exact sm_t f (wX11_cut_36 h)
    · rcases ite_or h with ⟨_, h⟩ | ⟨_, h⟩
      · exact sm_t f (wX11_cut_36 h)
      · exact sm_t f (wX11_cut_36 h)
set_option maxRecDepth 10000 in
theorem wX11_lay_26 {x y : Nat} {p1 : Int32} {p2 : Int32} {p3 : Int32} {r : Int32} {σ' : gS} {σ : gS} (nh_168_94 : ¬ (x = 168 ∧ y = 94)) (nh_229 : ¬ x = 229) (nh_230 : ¬ x = 230) (nh_231 : ¬ x = 231) (h : fX11_lay_26 p1 p2 p3 σ = some (r, σ')) : sm σ σ' x y := by
  unfold fX11_lay_26 at h
  have f := sm_r σ x y
  obtain ⟨-, rfl⟩ := so_inj h
  exact f
set_option maxRecDepth 10000 in
theorem wX11_lay_63 {x y : Nat} {p1 : Int32} {p2 : Int32} {p3 : Int32} {r : Int32} {σ' : gS} (nh_168_94 : ¬ (x = 168 ∧ y = 94)) (nh_229 : ¬ x = 229) (nh_230 : ¬ x = 230) (nh_231 : ¬ x = 231) : ∀ (n : Nat) (v4 : Int32) (σ : gS), fX11_lay_63 p1 p2 p3 n v4 σ = some (r, σ') → sm σ σ' x y := by
  intro n
  induction n with
  | zero => intro v4 σ h; exact absurd (show none = some (r, σ') from h) (by intro q; cases q)
  | succ n ih =>
  intro v4 σ h
  unfold fX11_lay_63 at h
  have f := sm_r σ x y
  rcases ite_or h with ⟨_, h⟩ | ⟨_, h⟩
  · obtain ⟨-, rfl⟩ := so_inj h
    exact f
  · obtain ⟨g2, h⟩ := gg_some h
    obtain ⟨σ3, eσ3, h⟩ := bnd_nm h
    have f := sm_J f (fun q => nh_231 q.1) eσ3
    obtain ⟨x4, ex4, h⟩ := bnd_nm h
    exact sm_t f (ih x4 σ3 h)
set_option maxRecDepth 10000 in
theorem wX11_lay {x y : Nat} {p1 : Int32} {p2 : Int32} {p3 : Int32} {r : Int32} {σ' : gS} {σ : gS} (nh_168_94 : ¬ (x = 168 ∧ y = 94)) (nh_229 : ¬ x = 229) (nh_230 : ¬ x = 230) (nh_231 : ¬ x = 231) (h : fX11_lay p1 p2 p3 σ = some (r, σ')) : sm σ σ' x y := by
  unfold fX11_lay at h
  have f := sm_r σ x y
  obtain ⟨x1, σ2, y3, h⟩ := bd_some h
  have f := sm_t f (wX11_isRow y3)
  rcases ite_or h with ⟨_, h⟩ | ⟨_, h⟩
  · exact sm_t f (wX11_lay_26 nh_168_94 nh_229 nh_230 nh_231 h)
  · obtain ⟨x5, σ6, y7, h⟩ := bd_some h
    have f := sm_t f (wX11_in y7)
    rcases ite_or h with ⟨_, h⟩ | ⟨_, h⟩
    · exact sm_t f (wX11_lay_26 nh_168_94 nh_229 nh_230 nh_231 h)
    · rcases ite_or h with ⟨_, h⟩ | ⟨_, h⟩
      · obtain ⟨σ10, eσ10, h⟩ := bnd_nm h
        have f := sm_I f nh_168_94 eσ10
        rcases ite_or h with ⟨_, h⟩ | ⟨_, h⟩
        · obtain ⟨g12, h⟩ := gg_some h
          obtain ⟨σ13, eσ13, h⟩ := bnd_nm h
          have f := sm_I f (fun q => nh_229 q.1) eσ13
          obtain ⟨g14, h⟩ := gg_some h
          obtain ⟨σ15, eσ15, h⟩ := bnd_nm h
          have f := sm_I f (fun q => nh_230 q.1) eσ15
          exact sm_t f (wX11_lay_63 nh_168_94 nh_229 nh_230 nh_231 2000 0 σ15 h)
        · obtain ⟨x16, σ17, y18, h⟩ := bd_some h
          have f := sm_t f (wX11_finds nh_168_94 y18)
          obtain ⟨-, rfl⟩ := so_inj h
          exact f
      · exact sm_t f (wX11_lay_26 nh_168_94 nh_229 nh_230 nh_231 h)
set_option maxRecDepth 10000 in
theorem wX11_drop {x y : Nat} {p1 : Int32} {r : Int32} {σ' : gS} {σ : gS} (nh_168_94 : ¬ (x = 168 ∧ y = 94)) (nh_229 : ¬ x = 229) (h : fX11_drop p1 σ = some (r, σ')) : sm σ σ' x y := by
  unfold fX11_drop at h
  have f := sm_r σ x y
  obtain ⟨x1, σ2, y3, h⟩ := bd_some h
  have f := sm_t f (wX11_isRow y3)
  rcases ite_or h with ⟨_, h⟩ | ⟨_, h⟩
  · obtain ⟨-, rfl⟩ := so_inj h
    exact f
  · obtain ⟨σ5, eσ5, h⟩ := bnd_nm h
    have f := sm_I f nh_168_94 eσ5
    obtain ⟨g6, h⟩ := gg_some h
    rcases ite_or h with ⟨_, h⟩ | ⟨_, h⟩
    · obtain ⟨x11, σ12, y13, h⟩ := bd_some h
      have f := sm_t f (wX11_finds nh_168_94 y13)
      obtain ⟨-, rfl⟩ := so_inj h
      exact f
    · obtain ⟨g8, h⟩ := gg_some h
      obtain ⟨σ9, eσ9, h⟩ := bnd_nm h
      have f := sm_I f (fun q => nh_229 q.1) eσ9
      obtain ⟨g10, h⟩ := gg_some h
      obtain ⟨-, rfl⟩ := so_inj h
      exact f
set_option maxRecDepth 10000 in
theorem wX11_itemFault_36 {x y : Nat} {p1 : Int32} {p2 : Int32} {r : Int32} {σ' : gS} {s0 : Int32} {σ : gS} (h : fX11_itemFault_36 p1 p2 s0 σ = some (r, σ')) : sm σ σ' x y := by
  unfold fX11_itemFault_36 at h
  have f := sm_r σ x y
  obtain ⟨-, rfl⟩ := so_inj h
  exact f
set_option maxRecDepth 10000 in
theorem wX11_itemFault {x y : Nat} {p1 : Int32} {p2 : Int32} {r : Int32} {σ' : gS} {σ : gS} (h : fX11_itemFault p1 p2 σ = some (r, σ')) : sm σ σ' x y := by
  unfold fX11_itemFault at h
  have f := sm_r σ x y
  obtain ⟨g1, h⟩ := gg_some h
  rcases ite_or h with ⟨_, h⟩ | ⟨_, h⟩
  · exact sm_t f (wX11_itemFault_36 h)
  · obtain ⟨g3, h⟩ := gg_some h
    obtain ⟨x4, σ5, y6, h⟩ := bd_some h
    have f := sm_t f (wX11_in y6)
    rcases ite_or h with ⟨_, h⟩ | ⟨_, h⟩
    · exact sm_t f (wX11_itemFault_36 h)
    · exact sm_t f (wX11_itemFault_36 h)

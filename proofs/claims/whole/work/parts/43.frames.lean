set_option maxRecDepth 10000 in
theorem wX11_put {x y : Nat} {p1 : Int32} {p2 : Int32} {p3 : Int64} {r : Int64} {σ' : gS} {σ : gS} (nh_168_94 : ¬ (x = 168 ∧ y = 94)) (nh_231 : ¬ x = 231) (h : fX11_put p1 p2 p3 σ = some (r, σ')) : sm σ σ' x y := by
  unfold fX11_put at h
  have f := sm_r σ x y
  obtain ⟨x1, σ2, y3, h⟩ := bd_some h
  have f := sm_t f (wX11_isRow y3)
  rcases ite_or h with ⟨_, h⟩ | ⟨_, h⟩
  · obtain ⟨-, rfl⟩ := so_inj h
    exact f
  · obtain ⟨σ5, eσ5, h⟩ := bnd_nm h
    have f := sm_I f nh_168_94 eσ5
    obtain ⟨x6, σ7, y8, h⟩ := bd_some h
    have f := sm_t f (wX11_itemFault y8)
    rcases ite_or h with ⟨_, h⟩ | ⟨_, h⟩
    · obtain ⟨g10, h⟩ := gg_some h
      obtain ⟨x11, σ12, y13, h⟩ := bd_some h
      have f := sm_t f (wX11_cut y13)
      obtain ⟨g14, h⟩ := gg_some h
      obtain ⟨σ15, eσ15, h⟩ := bnd_nm h
      have f := sm_J f (fun q => nh_231 q.1) eσ15
      obtain ⟨x16, ex16, h⟩ := bnd_nm h
      obtain ⟨g17, h⟩ := gg_some h
      obtain ⟨-, rfl⟩ := so_inj h
      exact f
    · obtain ⟨x18, σ19, y20, h⟩ := bd_some h
      have f := sm_t f (wX11_finds nh_168_94 y20)
      obtain ⟨-, rfl⟩ := so_inj h
      exact f
set_option maxRecDepth 10000 in
theorem wX11_get_48 {x y : Nat} {p1 : Int32} {p2 : Int32} {r : Int64} {σ' : gS} {s0 : Int64} {σ : gS} (nh_168_94 : ¬ (x = 168 ∧ y = 94)) (h : fX11_get_48 p1 p2 s0 σ = some (r, σ')) : sm σ σ' x y := by
  unfold fX11_get_48 at h
  have f := sm_r σ x y
  obtain ⟨-, rfl⟩ := so_inj h
  exact f
set_option maxRecDepth 10000 in
theorem wX11_get {x y : Nat} {p1 : Int32} {p2 : Int32} {r : Int64} {σ' : gS} {σ : gS} (nh_168_94 : ¬ (x = 168 ∧ y = 94)) (h : fX11_get p1 p2 σ = some (r, σ')) : sm σ σ' x y := by
  unfold fX11_get at h
  have f := sm_r σ x y
  obtain ⟨x1, σ2, y3, h⟩ := bd_some h
  have f := sm_t f (wX11_isRow y3)
  rcases ite_or h with ⟨_, h⟩ | ⟨_, h⟩
  · obtain ⟨-, rfl⟩ := so_inj h
    exact f
  · obtain ⟨σ5, eσ5, h⟩ := bnd_nm h
    have f := sm_I f nh_168_94 eσ5
    obtain ⟨x6, σ7, y8, h⟩ := bd_some h
    have f := sm_t f (wX11_itemFault y8)
    rcases ite_or h with ⟨_, h⟩ | ⟨_, h⟩
    · obtain ⟨x10, ex10, h⟩ := bnd_nm h
      obtain ⟨g11, h⟩ := gg_some h
      exact sm_t f (wX11_get_48 nh_168_94 h)
    · obtain ⟨x12, σ13, y14, h⟩ := bd_some h
      have f := sm_t f (wX11_finds nh_168_94 y14)
      exact sm_t f (wX11_get_48 nh_168_94 h)
set_option maxRecDepth 10000 in
theorem wX11_move_14 {x y : Nat} {p1 : Int32} {p2 : Int32} {p3 : Int32} {p4 : Int32} {p5 : Int32} {r : Int32} {σ' : gS} {σ : gS} (nh_168_94 : ¬ (x = 168 ∧ y = 94)) (nh_231 : ¬ x = 231) (nh_232 : ¬ x = 232) (h : fX11_move_14 p1 p2 p3 p4 p5 σ = some (r, σ')) : sm σ σ' x y := by
  unfold fX11_move_14 at h
  have f := sm_r σ x y
  obtain ⟨-, rfl⟩ := so_inj h
  exact f
set_option maxRecDepth 10000 in
theorem wX11_move_40 {x y : Nat} {p1 : Int32} {p2 : Int32} {p3 : Int32} {p4 : Int32} {p5 : Int32} {r : Int32} {σ' : gS} {σ : gS} (nh_168_94 : ¬ (x = 168 ∧ y = 94)) (nh_231 : ¬ x = 231) (nh_232 : ¬ x = 232) (h : fX11_move_40 p1 p2 p3 p4 p5 σ = some (r, σ')) : sm σ σ' x y := by
  unfold fX11_move_40 at h
  have f := sm_r σ x y
  obtain ⟨x1, σ2, y3, h⟩ := bd_some h
  have f := sm_t f (wX11_finds nh_168_94 y3)
  obtain ⟨-, rfl⟩ := so_inj h
  exact f
set_option maxRecDepth 10000 in
theorem wX11_move_117 {x y : Nat} {p1 : Int32} {p2 : Int32} {p3 : Int32} {p4 : Int32} {p5 : Int32} {r : Int32} {σ' : gS} {σ : gS} (nh_168_94 : ¬ (x = 168 ∧ y = 94)) (nh_231 : ¬ x = 231) (nh_232 : ¬ x = 232) (h : fX11_move_117 p1 p2 p3 p4 p5 σ = some (r, σ')) : sm σ σ' x y := by
  unfold fX11_move_117 at h
  have f := sm_r σ x y
  obtain ⟨x1, σ2, y3, h⟩ := bd_some h
  have f := sm_t f (wX11_finds nh_168_94 y3)
  obtain ⟨-, rfl⟩ := so_inj h
  exact f
set_option maxRecDepth 10000 in
theorem wX11_move_164 {x y : Nat} {p1 : Int32} {p2 : Int32} {p3 : Int32} {p4 : Int32} {p5 : Int32} {r : Int32} {σ' : gS} (nh_168_94 : ¬ (x = 168 ∧ y = 94)) (nh_231 : ¬ x = 231) (nh_232 : ¬ x = 232) : ∀ (n : Nat) (v6 : Int32) (σ : gS), fX11_move_164 p1 p2 p3 p4 p5 n v6 σ = some (r, σ') → sm σ σ' x y := by
  intro n
  induction n with
  | zero => intro v6 σ h; exact absurd (show none = some (r, σ') from h) (by intro q; cases q)
  | succ n ih =>
  intro v6 σ h
  unfold fX11_move_164 at h
  have f := sm_r σ x y
  rcases ite_or h with ⟨_, h⟩ | ⟨_, h⟩
  · obtain ⟨-, rfl⟩ := so_inj h
    exact f
  · obtain ⟨g2, h⟩ := gg_some h
    obtain ⟨g3, h⟩ := gg_some h
    obtain ⟨σ4, eσ4, h⟩ := bnd_nm h
    have f := sm_J f (fun q => nh_231 q.1) eσ4
    obtain ⟨x5, ex5, h⟩ := bnd_nm h
    exact sm_t f (ih x5 σ4 h)
set_option maxRecDepth 10000 in
theorem wX11_move_126 {x y : Nat} {p1 : Int32} {p2 : Int32} {p3 : Int32} {p4 : Int32} {p5 : Int32} {r : Int32} {σ' : gS} (nh_168_94 : ¬ (x = 168 ∧ y = 94)) (nh_231 : ¬ x = 231) (nh_232 : ¬ x = 232) : ∀ (n : Nat) (v6 : Int32) (σ : gS), fX11_move_126 p1 p2 p3 p4 p5 n v6 σ = some (r, σ') → sm σ σ' x y := by
  intro n
  induction n with
  | zero => intro v6 σ h; exact absurd (show none = some (r, σ') from h) (by intro q; cases q)
  | succ n ih =>
  intro v6 σ h
  unfold fX11_move_126 at h
  have f := sm_r σ x y
  rcases ite_or h with ⟨_, h⟩ | ⟨_, h⟩
  · exact sm_t f (wX11_move_164 nh_168_94 nh_231 nh_232 2000 0 σ h)
  · obtain ⟨x2, ex2, h⟩ := bnd_nm h
    obtain ⟨g3, h⟩ := gg_some h
    obtain ⟨g4, h⟩ := gg_some h
    obtain ⟨σ5, eσ5, h⟩ := bnd_nm h
    have f := sm_J f (fun q => nh_232 q.1) eσ5
    obtain ⟨x6, ex6, h⟩ := bnd_nm h
    exact sm_t f (ih x6 σ5 h)
set_option maxRecDepth 10000 in
theorem wX11_move {x y : Nat} {p1 : Int32} {p2 : Int32} {p3 : Int32} {p4 : Int32} {p5 : Int32} {r : Int32} {σ' : gS} {σ : gS} (nh_168_94 : ¬ (x = 168 ∧ y = 94)) (nh_231 : ¬ x = 231) (nh_232 : ¬ x = 232) (h : fX11_move p1 p2 p3 p4 p5 σ = some (r, σ')) : sm σ σ' x y := by
  unfold fX11_move at h
  have f := sm_r σ x y
  obtain ⟨x1, σ2, y3, h⟩ := bd_some h
  have f := sm_t f (wX11_isRow y3)
  rcases ite_or h with ⟨_, h⟩ | ⟨_, h⟩
  · exact sm_t f (wX11_move_14 nh_168_94 nh_231 nh_232 h)
  · obtain ⟨x5, σ6, y7, h⟩ := bd_some h
    have f := sm_t f (wX11_isRow y7)
    rcases ite_or h with ⟨_, h⟩ | ⟨_, h⟩
    · exact sm_t f (wX11_move_14 nh_168_94 nh_231 nh_232 h)
    · obtain ⟨σ9, eσ9, h⟩ := bnd_nm h
      have f := sm_I f nh_168_94 eσ9
      obtain ⟨g10, h⟩ := gg_some h
      rcases ite_or h with ⟨_, h⟩ | ⟨_, h⟩
      · exact sm_t f (wX11_move_40 nh_168_94 nh_231 nh_232 h)
      · obtain ⟨g12, h⟩ := gg_some h
        rcases ite_or h with ⟨_, h⟩ | ⟨_, h⟩
        · exact sm_t f (wX11_move_40 nh_168_94 nh_231 nh_232 h)
        · obtain ⟨g14, h⟩ := gg_some h
          obtain ⟨g15, h⟩ := gg_some h
          rcases ite_or h with ⟨_, h⟩ | ⟨_, h⟩
          · rcases ite_or h with ⟨_, h⟩ | ⟨_, h⟩
            · exact sm_t f (wX11_move_117 nh_168_94 nh_231 nh_232 h)
            · rcases ite_or h with ⟨_, h⟩ | ⟨_, h⟩
              · exact sm_t f (wX11_move_117 nh_168_94 nh_231 nh_232 h)
              · rcases ite_or h with ⟨_, h⟩ | ⟨_, h⟩
                · exact sm_t f (wX11_move_117 nh_168_94 nh_231 nh_232 h)
                · obtain ⟨g20, h⟩ := gg_some h
                  rcases ite_or h with ⟨_, h⟩ | ⟨_, h⟩
                  · exact sm_t f (wX11_move_117 nh_168_94 nh_231 nh_232 h)
                  · obtain ⟨g22, h⟩ := gg_some h
                    rcases ite_or h with ⟨_, h⟩ | ⟨_, h⟩
                    · exact sm_t f (wX11_move_126 nh_168_94 nh_231 nh_232 2000 0 σ9 h)
                    · exact sm_t f (wX11_move_117 nh_168_94 nh_231 nh_232 h)
          · obtain ⟨x24, σ25, y26, h⟩ := bd_some h
            have f := sm_t f (wX11_finds nh_168_94 y26)
            obtain ⟨-, rfl⟩ := so_inj h
            exact f
set_option maxRecDepth 10000 in
theorem wX11_keep_17 {x y : Nat} {p1 : Int32} {p2 : Int32} {r : Int32} {σ' : gS} {σ : gS} (nh_168_94 : ¬ (x = 168 ∧ y = 94)) (nh_231 : ¬ x = 231) (h : fX11_keep_17 p1 p2 σ = some (r, σ')) : sm σ σ' x y := by
  unfold fX11_keep_17 at h
  have f := sm_r σ x y
  obtain ⟨-, rfl⟩ := so_inj h
  exact f
set_option maxRecDepth 10000 in
theorem wX11_keep_127 {x y : Nat} {p1 : Int32} {p2 : Int32} {k79 : Int32 → Int32 → gS → Option (Int32 × gS)} {r : Int32} {σ' : gS} {v3 : Int32} {v4 : Int32} {s1 : Int32} {s2 : Int64} {σ : gS} (hk79 : ∀ (v3 : Int32) (v4 : Int32) (σ : gS), k79 v3 v4 σ = some (r, σ') → sm σ σ' x y) (nh_168_94 : ¬ (x = 168 ∧ y = 94)) (nh_231 : ¬ x = 231) (h : fX11_keep_127 p1 p2 k79 v3 v4 s1 s2 σ = some (r, σ')) : sm σ σ' x y := by
  unfold fX11_keep_127 at h
  have f := sm_r σ x y
  obtain ⟨g1, h⟩ := gg_some h
  obtain ⟨σ2, eσ2, h⟩ := bnd_nm h
  have f := sm_J f (fun q => nh_231 q.1) eσ2
  obtain ⟨x3, ex3, h⟩ := bnd_nm h
  exact sm_t f (hk79 v3 x3 σ2 h)
set_option maxRecDepth 10000 in
theorem wX11_keep_79 {x y : Nat} {p1 : Int32} {p2 : Int32} {r : Int32} {σ' : gS} (nh_168_94 : ¬ (x = 168 ∧ y = 94)) (nh_231 : ¬ x = 231) : ∀ (n : Nat) (v3 : Int32) (v4 : Int32) (σ : gS), fX11_keep_79 p1 p2 n v3 v4 σ = some (r, σ') → sm σ σ' x y := by
  intro n
  induction n with
  | zero => intro v3 v4 σ h; exact absurd (show none = some (r, σ') from h) (by intro q; cases q)
  | succ n ih =>
  intro v3 v4 σ h
  unfold fX11_keep_79 at h
  have f := sm_r σ x y
  rcases ite_or h with ⟨_, h⟩ | ⟨_, h⟩
  · obtain ⟨-, rfl⟩ := so_inj h
    exact f
  · obtain ⟨g2, h⟩ := gg_some h
    rcases ite_or h with ⟨_, h⟩ | ⟨_, h⟩
    · exact sm_t f (wX11_keep_127 (fun v3 v4 σ h => ih v3 v4 σ h) nh_168_94 nh_231 h)
    · obtain ⟨g4, h⟩ := gg_some h
      obtain ⟨x5, σ6, y7, h⟩ := bd_some h
      have f := sm_t f (wX11_curveAt y7)
      obtain ⟨x8, σ9, y10, h⟩ := bd_some h
      have f := sm_t f (wX11_cut y10)
      exact sm_t f (wX11_keep_127 (fun v3 v4 σ h => ih v3 v4 σ h) nh_168_94 nh_231 h)
set_option maxRecDepth 10000 in
theorem wX11_keep_75 {x y : Nat} {p1 : Int32} {p2 : Int32} {r : Int32} {σ' : gS} {s0 : Int32} {σ : gS} (nh_168_94 : ¬ (x = 168 ∧ y = 94)) (nh_231 : ¬ x = 231) (h : fX11_keep_75 p1 p2 s0 σ = some (r, σ')) : sm σ σ' x y := by
  unfold fX11_keep_75 at h
  have f := sm_r σ x y
  exact sm_t f (wX11_keep_79 nh_168_94 nh_231 2000 s0 0 σ h)
set_option maxRecDepth 10000 in
theorem wX11_keep {x y : Nat} {p1 : Int32} {p2 : Int32} {r : Int32} {σ' : gS} {σ : gS} (nh_168_94 : ¬ (x = 168 ∧ y = 94)) (nh_231 : ¬ x = 231) (h : fX11_keep p1 p2 σ = some (r, σ')) : sm σ σ' x y := by
  unfold fX11_keep at h
  have f := sm_r σ x y
  obtain ⟨x1, σ2, y3, h⟩ := bd_some h
  have f := sm_t f (wX11_isRow y3)
  rcases ite_or h with ⟨_, h⟩ | ⟨_, h⟩
  · exact sm_t f (wX11_keep_17 nh_168_94 nh_231 h)
  · obtain ⟨x5, σ6, y7, h⟩ := bd_some h
    have f := sm_t f (wX11_in y7)
    rcases ite_or h with ⟨_, h⟩ | ⟨_, h⟩
    · exact sm_t f (wX11_keep_17 nh_168_94 nh_231 h)
    · rcases ite_or h with ⟨_, h⟩ | ⟨_, h⟩
      · obtain ⟨σ10, eσ10, h⟩ := bnd_nm h
        have f := sm_I f nh_168_94 eσ10
        obtain ⟨g11, h⟩ := gg_some h
        rcases ite_or h with ⟨_, h⟩ | ⟨_, h⟩
        · obtain ⟨x16, σ17, y18, h⟩ := bd_some h
          have f := sm_t f (wX11_finds nh_168_94 y18)
          obtain ⟨-, rfl⟩ := so_inj h
          exact f
        · obtain ⟨g13, h⟩ := gg_some h
          rcases ite_or h with ⟨_, h⟩ | ⟨_, h⟩
          · exact sm_t f (wX11_keep_75 nh_168_94 nh_231 h)
          · obtain ⟨g15, h⟩ := gg_some h
            exact sm_t f (wX11_keep_75 nh_168_94 nh_231 h)
      · obtain ⟨-, rfl⟩ := so_inj h
        exact f
set_option maxRecDepth 10000 in
theorem wX11_count_94 {x y : Nat} {p1 : Int32} {k71 : Int32 → Int32 → gS → Option (Int32 × gS)} {r : Int32} {σ' : gS} {v3 : Int32} {s0 : Int32} {s1 : Int32} {σ : gS} (hk71 : ∀ (v2 : Int32) (v3 : Int32) (σ : gS), k71 v2 v3 σ = some (r, σ') → sm σ σ' x y) (h : fX11_count_94 p1 k71 v3 s0 s1 σ = some (r, σ')) : sm σ σ' x y := by
  unfold fX11_count_94 at h
  have f := sm_r σ x y
  obtain ⟨x1, ex1, h⟩ := bnd_nm h
  obtain ⟨x2, ex2, h⟩ := bnd_nm h
  exact sm_t f (hk71 x1 x2 σ h)
set_option maxRecDepth 10000 in
theorem wX11_count_71 {x y : Nat} {p1 : Int32} {r : Int32} {σ' : gS} : ∀ (n : Nat) (v2 : Int32) (v3 : Int32) (σ : gS), fX11_count_71 p1 n v2 v3 σ = some (r, σ') → sm σ σ' x y := by
  intro n
  induction n with
  | zero => intro v2 v3 σ h; exact absurd (show none = some (r, σ') from h) (by intro q; cases q)
  | succ n ih =>
  intro v2 v3 σ h
  unfold fX11_count_71 at h
  have f := sm_r σ x y
  rcases ite_or h with ⟨_, h⟩ | ⟨_, h⟩
  · obtain ⟨-, rfl⟩ := so_inj h
    exact f
  · obtain ⟨g2, h⟩ := gg_some h
    rcases ite_or h with ⟨_, h⟩ | ⟨_, h⟩
    · exact sm_t f (wX11_count_94 (fun v2 v3 σ h => ih v2 v3 σ h) h)
    · exact sm_t f (wX11_count_94 (fun v2 v3 σ h => ih v2 v3 σ h) h)
set_option maxRecDepth 10000 in
theorem wX11_count_154 {x y : Nat} {p1 : Int32} {k131 : Int32 → Int32 → gS → Option (Int32 × gS)} {r : Int32} {σ' : gS} {v3 : Int32} {s0 : Int32} {s1 : Int32} {σ : gS} (hk131 : ∀ (v2 : Int32) (v3 : Int32) (σ : gS), k131 v2 v3 σ = some (r, σ') → sm σ σ' x y) (h : fX11_count_154 p1 k131 v3 s0 s1 σ = some (r, σ')) : sm σ σ' x y := by
  unfold fX11_count_154 at h
  have f := sm_r σ x y
  obtain ⟨x1, ex1, h⟩ := bnd_nm h
  obtain ⟨x2, ex2, h⟩ := bnd_nm h
  exact sm_t f (hk131 x1 x2 σ h)
set_option maxRecDepth 10000 in
theorem wX11_count_131 {x y : Nat} {p1 : Int32} {r : Int32} {σ' : gS} : ∀ (n : Nat) (v2 : Int32) (v3 : Int32) (σ : gS), fX11_count_131 p1 n v2 v3 σ = some (r, σ') → sm σ σ' x y := by
  intro n
  induction n with
  | zero => intro v2 v3 σ h; exact absurd (show none = some (r, σ') from h) (by intro q; cases q)
  | succ n ih =>
  intro v2 v3 σ h
  unfold fX11_count_131 at h
  have f := sm_r σ x y
  rcases ite_or h with ⟨_, h⟩ | ⟨_, h⟩
  · obtain ⟨-, rfl⟩ := so_inj h
    exact f
  · obtain ⟨x2, σ3, y4, h⟩ := bd_some h
    have f := sm_t f (wX11_clusterOf y4)
    rcases ite_or h with ⟨_, h⟩ | ⟨_, h⟩
    · exact sm_t f (wX11_count_154 (fun v2 v3 σ h => ih v2 v3 σ h) h)
    · exact sm_t f (wX11_count_154 (fun v2 v3 σ h => ih v2 v3 σ h) h)
set_option maxRecDepth 10000 in
theorem wX11_count_192 {x y : Nat} {p1 : Int32} {k171 : Int32 → Int32 → gS → Option (Int32 × gS)} {r : Int32} {σ' : gS} {v3 : Int32} {s0 : Int32} {s1 : Int32} {σ : gS} (hk171 : ∀ (v2 : Int32) (v3 : Int32) (σ : gS), k171 v2 v3 σ = some (r, σ') → sm σ σ' x y) (h : fX11_count_192 p1 k171 v3 s0 s1 σ = some (r, σ')) : sm σ σ' x y := by
  unfold fX11_count_192 at h
  have f := sm_r σ x y
  obtain ⟨x1, ex1, h⟩ := bnd_nm h
  obtain ⟨x2, ex2, h⟩ := bnd_nm h
  exact sm_t f (hk171 x1 x2 σ h)
set_option maxRecDepth 10000 in
theorem wX11_count_171 {x y : Nat} {p1 : Int32} {r : Int32} {σ' : gS} : ∀ (n : Nat) (v2 : Int32) (v3 : Int32) (σ : gS), fX11_count_171 p1 n v2 v3 σ = some (r, σ') → sm σ σ' x y := by
  intro n
  induction n with
  | zero => intro v2 v3 σ h; exact absurd (show none = some (r, σ') from h) (by intro q; cases q)
  | succ n ih =>
  intro v2 v3 σ h
  unfold fX11_count_171 at h
  have f := sm_r σ x y
  rcases ite_or h with ⟨_, h⟩ | ⟨_, h⟩
  · obtain ⟨-, rfl⟩ := so_inj h
    exact f
  · obtain ⟨g2, h⟩ := gg_some h
    rcases ite_or h with ⟨_, h⟩ | ⟨_, h⟩
    · exact sm_t f (wX11_count_192 (fun v2 v3 σ h => ih v2 v3 σ h) h)
    · exact sm_t f (wX11_count_192 (fun v2 v3 σ h => ih v2 v3 σ h) h)
set_option maxRecDepth 10000 in
theorem wX11_count_218 {x y : Nat} {p1 : Int32} {r : Int32} {σ' : gS} {s0 : Int32} {σ : gS} (h : fX11_count_218 p1 s0 σ = some (r, σ')) : sm σ σ' x y := by
  unfold fX11_count_218 at h
  have f := sm_r σ x y
  obtain ⟨-, rfl⟩ := so_inj h
  exact f
set_option maxRecDepth 10000 in
theorem wX11_count_235 {x y : Nat} {p1 : Int32} {r : Int32} {σ' : gS} {s0 : Int32} {σ : gS} (h : fX11_count_235 p1 s0 σ = some (r, σ')) : sm σ σ' x y := by
  unfold fX11_count_235 at h
  have f := sm_r σ x y
  obtain ⟨-, rfl⟩ := so_inj h
  exact f
set_option maxRecDepth 10000 in
theorem wX11_count {x y : Nat} {p1 : Int32} {r : Int32} {σ' : gS} {σ : gS} (h : fX11_count p1 σ = some (r, σ')) : sm σ σ' x y := by
  unfold fX11_count at h
  have f := sm_r σ x y
  rcases ite_or h with ⟨_, h⟩ | ⟨_, h⟩
  · obtain ⟨-, rfl⟩ := so_inj h
    exact f
  ·
    rcases ite_or h with ⟨_, h⟩ | ⟨_, h⟩
    · exact sm_t f (wX11_count_71 2000 0 0 σ h)
    ·
      rcases ite_or h with ⟨_, h⟩ | ⟨_, h⟩
      · obtain ⟨-, rfl⟩ := so_inj h
        exact f
      ·
        rcases ite_or h with ⟨_, h⟩ | ⟨_, h⟩
        · obtain ⟨-, rfl⟩ := so_inj h
          exact f
        ·
          rcases ite_or h with ⟨_, h⟩ | ⟨_, h⟩
          · obtain ⟨-, rfl⟩ := so_inj h
            exact f
          ·
            rcases ite_or h with ⟨_, h⟩ | ⟨_, h⟩
            · obtain ⟨-, rfl⟩ := so_inj h
              exact f
            ·
              rcases ite_or h with ⟨_, h⟩ | ⟨_, h⟩
              · obtain ⟨-, rfl⟩ := so_inj h
                exact f
              ·
                rcases ite_or h with ⟨_, h⟩ | ⟨_, h⟩
                · exact sm_t f (wX11_count_131 2000 0 0 σ h)
                ·
                  rcases ite_or h with ⟨_, h⟩ | ⟨_, h⟩
                  · obtain ⟨-, rfl⟩ := so_inj h
                    exact f
                  ·
                    rcases ite_or h with ⟨_, h⟩ | ⟨_, h⟩
                    · exact sm_t f (wX11_count_171 2000 0 0 σ h)
                    ·
                      rcases ite_or h with ⟨_, h⟩ | ⟨_, h⟩
                      · rcases ite_or h with ⟨_, h⟩ | ⟨_, h⟩
                        · exact sm_t f (wX11_count_218 h)
                        · exact sm_t f (wX11_count_218 h)
                      ·
                        rcases ite_or h with ⟨_, h⟩ | ⟨_, h⟩
                        · rcases ite_or h with ⟨_, h⟩ | ⟨_, h⟩
                          · exact sm_t f (wX11_count_235 h)
                          · exact sm_t f (wX11_count_235 h)
                        ·
                          obtain ⟨-, rfl⟩ := so_inj h
                          exact f
set_option maxRecDepth 10000 in
theorem wX11_status {x y : Nat} {r : Int32} {σ' : gS} {σ : gS} (h : fX11_status σ = some (r, σ')) : sm σ σ' x y := by
  unfold fX11_status at h
  have f := sm_r σ x y
  obtain ⟨-, rfl⟩ := so_inj h
  exact f
set_option maxRecDepth 10000 in
theorem wX11_digest_133 {x y : Nat} {k64 : Int64 → Int32 → gS → Option (Int64 × gS)} {r : Int64} {σ' : gS} {v1 : Int64} {v3 : Int32} {σ : gS} (hk64 : ∀ (v1 : Int64) (v3 : Int32) (σ : gS), k64 v1 v3 σ = some (r, σ') → sm σ σ' x y) (h : fX11_digest_133 k64 v1 v3 σ = some (r, σ')) : sm σ σ' x y := by
  unfold fX11_digest_133 at h
  have f := sm_r σ x y
  obtain ⟨x1, ex1, h⟩ := bnd_nm h
  exact sm_t f (hk64 v1 x1 σ h)
set_option maxRecDepth 10000 in
theorem wX11_digest_87 {x y : Nat} {k64 : Int64 → Int32 → gS → Option (Int64 × gS)} {r : Int64} {σ' : gS} (hk64 : ∀ (v1 : Int64) (v3 : Int32) (σ : gS), k64 v1 v3 σ = some (r, σ') → sm σ σ' x y) : ∀ (n : Nat) (v1 : Int64) (v3 : Int32) (v4 : Int32) (σ : gS), fX11_digest_87 k64 n v1 v3 v4 σ = some (r, σ') → sm σ σ' x y := by
  intro n
  induction n with
  | zero => intro v1 v3 v4 σ h; exact absurd (show none = some (r, σ') from h) (by intro q; cases q)
  | succ n ih =>
  intro v1 v3 v4 σ h
  unfold fX11_digest_87 at h
  have f := sm_r σ x y
  obtain ⟨g1, h⟩ := gg_some h
  rcases ite_or h with ⟨_, h⟩ | ⟨_, h⟩
  · exact sm_t f (wX11_digest_133 hk64 h)
  · obtain ⟨g3, h⟩ := gg_some h
    rcases ite_or h with ⟨_, h⟩ | ⟨_, h⟩
    · exact sm_t f (wX11_digest_133 hk64 h)
    · obtain ⟨x5, ex5, h⟩ := bnd_nm h
      obtain ⟨g6, h⟩ := gg_some h
      obtain ⟨x7, ex7, h⟩ := bnd_nm h
      obtain ⟨x8, ex8, h⟩ := bnd_nm h
      exact sm_t f (ih x7 v3 x8 σ h)
set_option maxRecDepth 10000 in
theorem wX11_digest_64 {x y : Nat} {r : Int64} {σ' : gS} : ∀ (n : Nat) (v1 : Int64) (v3 : Int32) (σ : gS), fX11_digest_64 n v1 v3 σ = some (r, σ') → sm σ σ' x y := by
  intro n
  induction n with
  | zero => intro v1 v3 σ h; exact absurd (show none = some (r, σ') from h) (by intro q; cases q)
  | succ n ih =>
  intro v1 v3 σ h
  unfold fX11_digest_64 at h
  have f := sm_r σ x y
  rcases ite_or h with ⟨_, h⟩ | ⟨_, h⟩
  · obtain ⟨-, rfl⟩ := so_inj h
    exact f
  · obtain ⟨g2, h⟩ := gg_some h
    obtain ⟨x3, ex3, h⟩ := bnd_nm h
    exact sm_t f (wX11_digest_87 (fun v1 v3 σ h => ih v1 v3 σ h) 2000 x3 v3 0 σ h)
set_option maxRecDepth 10000 in
theorem wX11_digest_6 {x y : Nat} {r : Int64} {σ' : gS} : ∀ (n : Nat) (v1 : Int64) (v3 : Int32) (σ : gS), fX11_digest_6 n v1 v3 σ = some (r, σ') → sm σ σ' x y := by
  intro n
  induction n with
  | zero => intro v1 v3 σ h; exact absurd (show none = some (r, σ') from h) (by intro q; cases q)
  | succ n ih =>
  intro v1 v3 σ h
  unfold fX11_digest_6 at h
  have f := sm_r σ x y
  rcases ite_or h with ⟨_, h⟩ | ⟨_, h⟩
  · exact sm_t f (wX11_digest_64 2000 v1 0 σ h)
  · obtain ⟨g2, h⟩ := gg_some h
    obtain ⟨x3, ex3, h⟩ := bnd_nm h
    obtain ⟨x4, σ5, y6, h⟩ := bd_some h
    have f := sm_t f (wX11_part y6)
    obtain ⟨x7, ex7, h⟩ := bnd_nm h
    obtain ⟨x8, σ9, y10, h⟩ := bd_some h
    have f := sm_t f (wX11_part y10)
    obtain ⟨x11, ex11, h⟩ := bnd_nm h
    obtain ⟨x12, ex12, h⟩ := bnd_nm h
    exact sm_t f (ih x11 x12 σ9 h)
set_option maxRecDepth 10000 in
theorem wX11_digest {x y : Nat} {r : Int64} {σ' : gS} {σ : gS} (h : fX11_digest σ = some (r, σ')) : sm σ σ' x y := by
  unfold fX11_digest at h
  have f := sm_r σ x y
  exact sm_t f (wX11_digest_6 2000 17 0 σ h)

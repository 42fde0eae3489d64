set_option maxRecDepth 10000 in
theorem wX8_spread_67 {x y : Nat} {p1 : Nat} {p2 : Int32} {r : Unit} {σ' : gS} {σ : gS} (nh_144_4 : ¬ (x = 144 ∧ y = 4)) (nh_144_5 : ¬ (x = 144 ∧ y = 5)) (nh_145 : ¬ x = 145) (nh_146 : ¬ x = 146) (nh_147 : ¬ x = 147) (h : fX8_spread_67 p1 p2 σ = some (r, σ')) : sm σ σ' x y := by
  unfold fX8_spread_67 at h
  have f := sm_r σ x y
  obtain ⟨-, rfl⟩ := so_inj h
  exact f
set_option maxRecDepth 10000 in
theorem wX8_spread_31 {x y : Nat} {p1 : Nat} {p2 : Int32} {r : Unit} {σ' : gS} (nh_144_4 : ¬ (x = 144 ∧ y = 4)) (nh_144_5 : ¬ (x = 144 ∧ y = 5)) (nh_145 : ¬ x = 145) (nh_146 : ¬ x = 146) (nh_147 : ¬ x = 147) : ∀ (n : Nat) (v3 : Int32) (σ : gS), fX8_spread_31 p1 p2 n v3 σ = some (r, σ') → sm σ σ' x y := by
  intro n
  induction n with
  | zero => intro v3 σ h; exact absurd (show none = some (r, σ') from h) (by intro q; cases q)
  | succ n ih =>
  intro v3 σ h
  unfold fX8_spread_31 at h
  have f := sm_r σ x y
  rcases ite_or h with ⟨_, h⟩ | ⟨_, h⟩
  · exact sm_t f (wX8_spread_67 nh_144_4 nh_144_5 nh_145 nh_146 nh_147 h)
  · obtain ⟨x2, σ3, y4, h⟩ := bd_some h
    have f := sm_t f (wX8_firstToReach y4)
    rcases ite_or h with ⟨_, h⟩ | ⟨_, h⟩
    · exact sm_t f (wX8_spread_67 nh_144_4 nh_144_5 nh_145 nh_146 nh_147 h)
    · obtain ⟨_, σ6, y7, h⟩ := bd_some h
      have f := sm_t f (wX8_reachThrough nh_144_4 nh_144_5 nh_145 nh_146 nh_147 y7)
      obtain ⟨x8, ex8, h⟩ := bnd_nm h
      exact sm_t f (ih x8 σ6 h)
set_option maxRecDepth 10000 in
theorem wX8_spread {x y : Nat} {p1 : Nat} {p2 : Int32} {r : Unit} {σ' : gS} {σ : gS} (nh_144_4 : ¬ (x = 144 ∧ y = 4)) (nh_144_5 : ¬ (x = 144 ∧ y = 5)) (nh_145 : ¬ x = 145) (nh_146 : ¬ x = 146) (nh_147 : ¬ x = 147) (h : fX8_spread p1 p2 σ = some (r, σ')) : sm σ σ' x y := by
  unfold fX8_spread at h
  have f := sm_r σ x y
  obtain ⟨_, σ1, y2, h⟩ := bd_some h
  have f := sm_t f (wJ7_fill_53178 nh_145 y2)
  obtain ⟨g3, h⟩ := gg_some h
  obtain ⟨σ4, eσ4, h⟩ := bnd_nm h
  have f := sm_I f (fun q => nh_145 q.1) eσ4
  obtain ⟨g5, h⟩ := gg_some h
  obtain ⟨σ6, eσ6, h⟩ := bnd_nm h
  have f := sm_J f (fun q => nh_146 q.1) eσ6
  obtain ⟨g7, h⟩ := gg_some h
  obtain ⟨σ8, eσ8, h⟩ := bnd_nm h
  have f := sm_J f (fun q => nh_147 q.1) eσ8
  exact sm_t f (wX8_spread_31 nh_144_4 nh_144_5 nh_145 nh_146 nh_147 2000 0 σ8 h)
set_option maxRecDepth 10000 in
theorem wX8_firstNotHeld_94 {x y : Nat} {p1 : Nat} {r : Int32} {σ' : gS} {v2 : Int32} {σ : gS} (nh_144_4 : ¬ (x = 144 ∧ y = 4)) (nh_144_5 : ¬ (x = 144 ∧ y = 5)) (h : fX8_firstNotHeld_94 p1 v2 σ = some (r, σ')) : sm σ σ' x y := by
  unfold fX8_firstNotHeld_94 at h
  have f := sm_r σ x y
  obtain ⟨-, rfl⟩ := so_inj h
  exact f
set_option maxRecDepth 10000 in
theorem wX8_firstNotHeld_96 {x y : Nat} {p1 : Nat} {k2 : Int32 → gS → Option (Int32 × gS)} {r : Int32} {σ' : gS} {v2 : Int32} {σ : gS} (hk2 : ∀ (v2 : Int32) (σ : gS), k2 v2 σ = some (r, σ') → sm σ σ' x y) (nh_144_4 : ¬ (x = 144 ∧ y = 4)) (nh_144_5 : ¬ (x = 144 ∧ y = 5)) (h : fX8_firstNotHeld_96 p1 k2 v2 σ = some (r, σ')) : sm σ σ' x y := by
  unfold fX8_firstNotHeld_96 at h
  have f := sm_r σ x y
  obtain ⟨x1, ex1, h⟩ := bnd_nm h
  exact sm_t f (hk2 x1 σ h)
set_option maxRecDepth 10000 in
theorem wX8_firstNotHeld_2 {x y : Nat} {p1 : Nat} {r : Int32} {σ' : gS} (nh_144_4 : ¬ (x = 144 ∧ y = 4)) (nh_144_5 : ¬ (x = 144 ∧ y = 5)) : ∀ (n : Nat) (v2 : Int32) (σ : gS), fX8_firstNotHeld_2 p1 n v2 σ = some (r, σ') → sm σ σ' x y := by
  intro n
  induction n with
  | zero => intro v2 σ h; exact absurd (show none = some (r, σ') from h) (by intro q; cases q)
  | succ n ih =>
  intro v2 σ h
  unfold fX8_firstNotHeld_2 at h
  have f := sm_r σ x y
  obtain ⟨x1, σ2, y3, h⟩ := bd_some h
  have f := sm_t f (wX3_size y3)
  rcases ite_or h with ⟨_, h⟩ | ⟨_, h⟩
  · obtain ⟨-, rfl⟩ := so_inj h
    exact f
  · obtain ⟨x5, σ6, y7, h⟩ := bd_some h
    have f := sm_t f (wX3_firstOf y7)
    obtain ⟨x8, σ9, y10, h⟩ := bd_some h
    have f := sm_t f (wX3_secondOf y10)
    obtain ⟨g11, h⟩ := gg_some h
    rcases ite_or h with ⟨_, h⟩ | ⟨_, h⟩
    · obtain ⟨g13, h⟩ := gg_some h
      rcases ite_or h with ⟨_, h⟩ | ⟨_, h⟩
      · obtain ⟨x15, σ16, y17, h⟩ := bd_some h
        have f := sm_t f (wX3_kindOf y17)
        obtain ⟨_, σ18, y19, h⟩ := bd_some h
        have f := sm_t f (wX8_carry nh_144_4 nh_144_5 y19)
        obtain ⟨g20, h⟩ := gg_some h
        rcases ite_or h with ⟨_, h⟩ | ⟨_, h⟩
        · obtain ⟨g22, h⟩ := gg_some h
          rcases ite_or h with ⟨_, h⟩ | ⟨_, h⟩
          · exact sm_t f (wX8_firstNotHeld_96 (fun v2 σ h => ih v2 σ h) nh_144_4 nh_144_5 h)
          · exact sm_t f (wX8_firstNotHeld_94 nh_144_4 nh_144_5 h)
        · exact sm_t f (wX8_firstNotHeld_94 nh_144_4 nh_144_5 h)
      · exact sm_t f (wX8_firstNotHeld_96 (fun v2 σ h => ih v2 σ h) nh_144_4 nh_144_5 h)
    · exact sm_t f (wX8_firstNotHeld_96 (fun v2 σ h => ih v2 σ h) nh_144_4 nh_144_5 h)
set_option maxRecDepth 10000 in
theorem wX8_firstNotHeld {x y : Nat} {p1 : Nat} {r : Int32} {σ' : gS} {σ : gS} (nh_144_4 : ¬ (x = 144 ∧ y = 4)) (nh_144_5 : ¬ (x = 144 ∧ y = 5)) (h : fX8_firstNotHeld p1 σ = some (r, σ')) : sm σ σ' x y := by
  unfold fX8_firstNotHeld at h
  have f := sm_r σ x y
  exact sm_t f (wX8_firstNotHeld_2 nh_144_4 nh_144_5 2000 0 σ h)
set_option maxRecDepth 10000 in
theorem wX8_firstLock_86 {x y : Nat} {p1 : Nat} {k26 : Int32 → Int32 → gS → Option (Int32 × gS)} {k56 : Int32 → Int32 → Int32 → gS → Option (Int32 × gS)} {r : Int32} {σ' : gS} {v2 : Int32} {v3 : Int32} {v4 : Int32} {s1 : Int32} {s2 : Int32} {s3 : Int32} {σ : gS} (hk26 : ∀ (v2 : Int32) (v3 : Int32) (σ : gS), k26 v2 v3 σ = some (r, σ') → sm σ σ' x y) (hk56 : ∀ (v2 : Int32) (v3 : Int32) (v4 : Int32) (σ : gS), k56 v2 v3 v4 σ = some (r, σ') → sm σ σ' x y) (nh_144_4 : ¬ (x = 144 ∧ y = 4)) (nh_144_5 : ¬ (x = 144 ∧ y = 5)) (nh_145 : ¬ x = 145) (nh_146 : ¬ x = 146) (nh_147 : ¬ x = 147) (nh_148 : ¬ x = 148) (h : fX8_firstLock_86 p1 k26 k56 v2 v3 v4 s1 s2 s3 σ = some (r, σ')) : sm σ σ' x y := by
  unfold fX8_firstLock_86 at h
  have f := sm_r σ x y
  obtain ⟨g1, h⟩ := gg_some h
  obtain ⟨σ2, eσ2, h⟩ := bnd_nm h
  have f := sm_I f (fun q => nh_148 q.1) eσ2
  obtain ⟨x3, ex3, h⟩ := bnd_nm h
  exact sm_t f (hk56 v2 v3 x3 σ2 h)
set_option maxRecDepth 10000 in
theorem wX8_firstLock_123 {x y : Nat} {p1 : Nat} {k26 : Int32 → Int32 → gS → Option (Int32 × gS)} {r : Int32} {σ' : gS} {v2 : Int32} {v3 : Int32} {σ : gS} (hk26 : ∀ (v2 : Int32) (v3 : Int32) (σ : gS), k26 v2 v3 σ = some (r, σ') → sm σ σ' x y) (nh_144_4 : ¬ (x = 144 ∧ y = 4)) (nh_144_5 : ¬ (x = 144 ∧ y = 5)) (nh_145 : ¬ x = 145) (nh_146 : ¬ x = 146) (nh_147 : ¬ x = 147) (nh_148 : ¬ x = 148) (h : fX8_firstLock_123 p1 k26 v2 v3 σ = some (r, σ')) : sm σ σ' x y := by
  unfold fX8_firstLock_123 at h
  have f := sm_r σ x y
  obtain ⟨x1, ex1, h⟩ := bnd_nm h
  exact sm_t f (hk26 v2 x1 σ h)
set_option maxRecDepth 10000 in
theorem wX8_firstLock_120 {x y : Nat} {p1 : Nat} {k26 : Int32 → Int32 → gS → Option (Int32 × gS)} {r : Int32} {σ' : gS} {v3 : Int32} {v4 : Int32} {σ : gS} (hk26 : ∀ (v2 : Int32) (v3 : Int32) (σ : gS), k26 v2 v3 σ = some (r, σ') → sm σ σ' x y) (nh_144_4 : ¬ (x = 144 ∧ y = 4)) (nh_144_5 : ¬ (x = 144 ∧ y = 5)) (nh_145 : ¬ x = 145) (nh_146 : ¬ x = 146) (nh_147 : ¬ x = 147) (nh_148 : ¬ x = 148) (h : fX8_firstLock_120 p1 k26 v3 v4 σ = some (r, σ')) : sm σ σ' x y := by
  unfold fX8_firstLock_120 at h
  have f := sm_r σ x y
  exact sm_t f (wX8_firstLock_123 hk26 nh_144_4 nh_144_5 nh_145 nh_146 nh_147 nh_148 h)
set_option maxRecDepth 10000 in
theorem wX8_firstLock_56 {x y : Nat} {p1 : Nat} {k26 : Int32 → Int32 → gS → Option (Int32 × gS)} {r : Int32} {σ' : gS} (hk26 : ∀ (v2 : Int32) (v3 : Int32) (σ : gS), k26 v2 v3 σ = some (r, σ') → sm σ σ' x y) (nh_144_4 : ¬ (x = 144 ∧ y = 4)) (nh_144_5 : ¬ (x = 144 ∧ y = 5)) (nh_145 : ¬ x = 145) (nh_146 : ¬ x = 146) (nh_147 : ¬ x = 147) (nh_148 : ¬ x = 148) : ∀ (n : Nat) (v2 : Int32) (v3 : Int32) (v4 : Int32) (σ : gS), fX8_firstLock_56 p1 k26 n v2 v3 v4 σ = some (r, σ') → sm σ σ' x y := by
  intro n
  induction n with
  | zero => intro v2 v3 v4 σ h; exact absurd (show none = some (r, σ') from h) (by intro q; cases q)
  | succ n ih =>
  intro v2 v3 v4 σ h
  unfold fX8_firstLock_56 at h
  have f := sm_r σ x y
  rcases ite_or h with ⟨_, h⟩ | ⟨_, h⟩
  · obtain ⟨x2, σ3, y4, h⟩ := bd_some h
    have f := sm_t f (wX8_firstNotHeld nh_144_4 nh_144_5 y4)
    rcases ite_or h with ⟨_, h⟩ | ⟨_, h⟩
    · exact sm_t f (wX8_firstLock_123 hk26 nh_144_4 nh_144_5 nh_145 nh_146 nh_147 nh_148 h)
    · rcases ite_or h with ⟨_, h⟩ | ⟨_, h⟩
      · exact sm_t f (wX8_firstLock_120 hk26 nh_144_4 nh_144_5 nh_145 nh_146 nh_147 nh_148 h)
      · rcases ite_or h with ⟨_, h⟩ | ⟨_, h⟩
        · exact sm_t f (wX8_firstLock_123 hk26 nh_144_4 nh_144_5 nh_145 nh_146 nh_147 nh_148 h)
        · exact sm_t f (wX8_firstLock_120 hk26 nh_144_4 nh_144_5 nh_145 nh_146 nh_147 nh_148 h)
  · obtain ⟨g8, h⟩ := gg_some h
    obtain ⟨g9, h⟩ := gg_some h
    rcases ite_or h with ⟨_, h⟩ | ⟨_, h⟩
    · exact sm_t f (wX8_firstLock_86 hk26 (fun v2 v3 v4 σ h => ih v2 v3 v4 σ h) nh_144_4 nh_144_5 nh_145 nh_146 nh_147 nh_148 h)
    · exact sm_t f (wX8_firstLock_86 hk26 (fun v2 v3 v4 σ h => ih v2 v3 v4 σ h) nh_144_4 nh_144_5 nh_145 nh_146 nh_147 nh_148 h)
set_option maxRecDepth 10000 in
theorem wX8_firstLock_26 {x y : Nat} {p1 : Nat} {r : Int32} {σ' : gS} (nh_144_4 : ¬ (x = 144 ∧ y = 4)) (nh_144_5 : ¬ (x = 144 ∧ y = 5)) (nh_145 : ¬ x = 145) (nh_146 : ¬ x = 146) (nh_147 : ¬ x = 147) (nh_148 : ¬ x = 148) : ∀ (n : Nat) (v2 : Int32) (v3 : Int32) (σ : gS), fX8_firstLock_26 p1 n v2 v3 σ = some (r, σ') → sm σ σ' x y := by
  intro n
  induction n with
  | zero => intro v2 v3 σ h; exact absurd (show none = some (r, σ') from h) (by intro q; cases q)
  | succ n ih =>
  intro v2 v3 σ h
  unfold fX8_firstLock_26 at h
  have f := sm_r σ x y
  obtain ⟨x1, σ2, y3, h⟩ := bd_some h
  have f := sm_t f (wX3_size y3)
  rcases ite_or h with ⟨_, h⟩ | ⟨_, h⟩
  · obtain ⟨-, rfl⟩ := so_inj h
    exact f
  · obtain ⟨g5, h⟩ := gg_some h
    rcases ite_or h with ⟨_, h⟩ | ⟨_, h⟩
    · obtain ⟨_, σ7, y8, h⟩ := bd_some h
      have f := sm_t f (wX8_spread nh_144_4 nh_144_5 nh_145 nh_146 nh_147 y8)
      exact sm_t f (wX8_firstLock_56 (fun v2 v3 σ h => ih v2 v3 σ h) nh_144_4 nh_144_5 nh_145 nh_146 nh_147 nh_148 2000 v2 v3 0 σ7 h)
    · exact sm_t f (wX8_firstLock_123 (fun v2 v3 σ h => ih v2 v3 σ h) nh_144_4 nh_144_5 nh_145 nh_146 nh_147 nh_148 h)
set_option maxRecDepth 10000 in
theorem wX8_firstLock_5 {x y : Nat} {p1 : Nat} {r : Int32} {σ' : gS} (nh_144_4 : ¬ (x = 144 ∧ y = 4)) (nh_144_5 : ¬ (x = 144 ∧ y = 5)) (nh_145 : ¬ x = 145) (nh_146 : ¬ x = 146) (nh_147 : ¬ x = 147) (nh_148 : ¬ x = 148) : ∀ (n : Nat) (v2 : Int32) (v3 : Int32) (σ : gS), fX8_firstLock_5 p1 n v2 v3 σ = some (r, σ') → sm σ σ' x y := by
  intro n
  induction n with
  | zero => intro v2 v3 σ h; exact absurd (show none = some (r, σ') from h) (by intro q; cases q)
  | succ n ih =>
  intro v2 v3 σ h
  unfold fX8_firstLock_5 at h
  have f := sm_r σ x y
  rcases ite_or h with ⟨_, h⟩ | ⟨_, h⟩
  · exact sm_t f (wX8_firstLock_26 nh_144_4 nh_144_5 nh_145 nh_146 nh_147 nh_148 2000 v2 0 σ h)
  · obtain ⟨g2, h⟩ := gg_some h
    obtain ⟨σ3, eσ3, h⟩ := bnd_nm h
    have f := sm_I f (fun q => nh_148 q.1) eσ3
    obtain ⟨x4, ex4, h⟩ := bnd_nm h
    exact sm_t f (ih v2 x4 σ3 h)
set_option maxRecDepth 10000 in
theorem wX8_firstLock {x y : Nat} {p1 : Nat} {r : Int32} {σ' : gS} {σ : gS} (nh_144_4 : ¬ (x = 144 ∧ y = 4)) (nh_144_5 : ¬ (x = 144 ∧ y = 5)) (nh_145 : ¬ x = 145) (nh_146 : ¬ x = 146) (nh_147 : ¬ x = 147) (nh_148 : ¬ x = 148) (h : fX8_firstLock p1 σ = some (r, σ')) : sm σ σ' x y := by
  unfold fX8_firstLock at h
  have f := sm_r σ x y
  exact sm_t f (wX8_firstLock_5 nh_144_4 nh_144_5 nh_145 nh_146 nh_147 nh_148 2000 (-1000000) 0 σ h)
set_option maxRecDepth 10000 in
theorem wX9_canHang_71 {x y : Nat} {p1 : Nat} {p2 : Int32} {k6 : Int32 → Int32 → gS → Option (Int32 × gS)} {r : Int32} {σ' : gS} {v3 : Int32} {v4 : Int32} {σ : gS} (hk6 : ∀ (v3 : Int32) (v4 : Int32) (σ : gS), k6 v3 v4 σ = some (r, σ') → sm σ σ' x y) (nh_127 : ¬ x = 127) (nh_128 : ¬ x = 128) (h : fX9_canHang_71 p1 p2 k6 v3 v4 σ = some (r, σ')) : sm σ σ' x y := by
  unfold fX9_canHang_71 at h
  have f := sm_r σ x y
  obtain ⟨x1, ex1, h⟩ := bnd_nm h
  exact sm_t f (hk6 v3 x1 σ h)
set_option maxRecDepth 10000 in
theorem wX9_canHang_6 {x y : Nat} {p1 : Nat} {p2 : Int32} {r : Int32} {σ' : gS} (nh_127 : ¬ x = 127) (nh_128 : ¬ x = 128) : ∀ (n : Nat) (v3 : Int32) (v4 : Int32) (σ : gS), fX9_canHang_6 p1 p2 n v3 v4 σ = some (r, σ') → sm σ σ' x y := by
  intro n
  induction n with
  | zero => intro v3 v4 σ h; exact absurd (show none = some (r, σ') from h) (by intro q; cases q)
  | succ n ih =>
  intro v3 v4 σ h
  unfold fX9_canHang_6 at h
  have f := sm_r σ x y
  obtain ⟨x1, σ2, y3, h⟩ := bd_some h
  have f := sm_t f (wX3_size y3)
  rcases ite_or h with ⟨_, h⟩ | ⟨_, h⟩
  · obtain ⟨-, rfl⟩ := so_inj h
    exact f
  · obtain ⟨x5, σ6, y7, h⟩ := bd_some h
    have f := sm_t f (wX3_acrossBar y7)
    rcases ite_or h with ⟨_, h⟩ | ⟨_, h⟩
    · exact sm_t f (wX9_canHang_71 (fun v3 v4 σ h => ih v3 v4 σ h) nh_127 nh_128 h)
    · obtain ⟨g9, h⟩ := gg_some h
      rcases ite_or h with ⟨_, h⟩ | ⟨_, h⟩
      · exact sm_t f (wX9_canHang_71 (fun v3 v4 σ h => ih v3 v4 σ h) nh_127 nh_128 h)
      · rcases ite_or h with ⟨_, h⟩ | ⟨_, h⟩
        · exact sm_t f (wX9_canHang_71 (fun v3 v4 σ h => ih v3 v4 σ h) nh_127 nh_128 h)
        · obtain ⟨g12, h⟩ := gg_some h
          obtain ⟨σ13, eσ13, h⟩ := bnd_nm h
          have f := sm_I f (fun q => nh_127 q.1) eσ13
          obtain ⟨g14, h⟩ := gg_some h
          obtain ⟨σ15, eσ15, h⟩ := bnd_nm h
          have f := sm_I f (fun q => nh_128 q.1) eσ15
          obtain ⟨-, rfl⟩ := so_inj h
          exact f
set_option maxRecDepth 10000 in
theorem wX9_canHang {x y : Nat} {p1 : Nat} {p2 : Int32} {r : Int32} {σ' : gS} {σ : gS} (nh_127 : ¬ x = 127) (nh_128 : ¬ x = 128) (h : fX9_canHang p1 p2 σ = some (r, σ')) : sm σ σ' x y := by
  unfold fX9_canHang at h
  have f := sm_r σ x y
  exact sm_t f (wX9_canHang_6 nh_127 nh_128 2000 (-1000000) 0 σ h)
set_option maxRecDepth 10000 in
theorem wX9_nextToCome_31 {x y : Nat} {p1 : Nat} {k2 : Int32 → gS → Option (Int32 × gS)} {r : Int32} {σ' : gS} {v2 : Int32} {σ : gS} (hk2 : ∀ (v2 : Int32) (σ : gS), k2 v2 σ = some (r, σ') → sm σ σ' x y) (nh_127 : ¬ x = 127) (nh_128 : ¬ x = 128) (h : fX9_nextToCome_31 p1 k2 v2 σ = some (r, σ')) : sm σ σ' x y := by
  unfold fX9_nextToCome_31 at h
  have f := sm_r σ x y
  obtain ⟨x1, ex1, h⟩ := bnd_nm h
  exact sm_t f (hk2 x1 σ h)
set_option maxRecDepth 10000 in
theorem wX9_nextToCome_2 {x y : Nat} {p1 : Nat} {r : Int32} {σ' : gS} (nh_127 : ¬ x = 127) (nh_128 : ¬ x = 128) : ∀ (n : Nat) (v2 : Int32) (σ : gS), fX9_nextToCome_2 p1 n v2 σ = some (r, σ') → sm σ σ' x y := by
  intro n
  induction n with
  | zero => intro v2 σ h; exact absurd (show none = some (r, σ') from h) (by intro q; cases q)
  | succ n ih =>
  intro v2 σ h
  unfold fX9_nextToCome_2 at h
  have f := sm_r σ x y
  obtain ⟨x1, σ2, y3, h⟩ := bd_some h
  have f := sm_t f (wX3_size y3)
  rcases ite_or h with ⟨_, h⟩ | ⟨_, h⟩
  · obtain ⟨-, rfl⟩ := so_inj h
    exact f
  · obtain ⟨g5, h⟩ := gg_some h
    rcases ite_or h with ⟨_, h⟩ | ⟨_, h⟩
    · obtain ⟨x7, σ8, y9, h⟩ := bd_some h
      have f := sm_t f (wX9_canHang nh_127 nh_128 y9)
      rcases ite_or h with ⟨_, h⟩ | ⟨_, h⟩
      · exact sm_t f (wX9_nextToCome_31 (fun v2 σ h => ih v2 σ h) nh_127 nh_128 h)
      · obtain ⟨-, rfl⟩ := so_inj h
        exact f
    · exact sm_t f (wX9_nextToCome_31 (fun v2 σ h => ih v2 σ h) nh_127 nh_128 h)
set_option maxRecDepth 10000 in
theorem wX9_nextToCome {x y : Nat} {p1 : Nat} {r : Int32} {σ' : gS} {σ : gS} (nh_127 : ¬ x = 127) (nh_128 : ¬ x = 128) (h : fX9_nextToCome p1 σ = some (r, σ')) : sm σ σ' x y := by
  unfold fX9_nextToCome at h
  have f := sm_r σ x y
  exact sm_t f (wX9_nextToCome_2 nh_127 nh_128 2000 0 σ h)
set_option maxRecDepth 10000 in
theorem wX9_toldSide_76 {x y : Nat} {p1 : Nat} {p2 : Int32} {r : Int32} {σ' : gS} {s0 : Int32} {σ : gS} (h : fX9_toldSide_76 p1 p2 s0 σ = some (r, σ')) : sm σ σ' x y := by
  unfold fX9_toldSide_76 at h
  have f := sm_r σ x y
  obtain ⟨-, rfl⟩ := so_inj h
  exact f
set_option maxRecDepth 10000 in
theorem wX9_toldSide {x y : Nat} {p1 : Nat} {p2 : Int32} {r : Int32} {σ' : gS} {σ : gS} (h : fX9_toldSide p1 p2 σ = some (r, σ')) : sm σ σ' x y := by
  unfold fX9_toldSide at h
  have f := sm_r σ x y
  obtain ⟨g1, h⟩ := gg_some h
  obtain ⟨g2, h⟩ := gg_some h
  obtain ⟨x3, σ4, y5, h⟩ := bd_some h
  have f := sm_t f (wX3_x y5)
  obtain ⟨x6, σ7, y8, h⟩ := bd_some h
  have f := sm_t f (wX3_x y8)
  obtain ⟨x9, σ10, y11, h⟩ := bd_some h
  have f := sm_t f (wX3_y y11)
  obtain ⟨x12, σ13, y14, h⟩ := bd_some h
  have f := sm_t f (wX3_y y14)
  obtain ⟨x15, σ16, y17, h⟩ := bd_some h
  have f := sm_t f (wX3_y y17)
  obtain ⟨x18, σ19, y20, h⟩ := bd_some h
  have f := sm_t f (wX3_y y20)
  obtain ⟨x21, σ22, y23, h⟩ := bd_some h
  have f := sm_t f (wX3_x y23)
  obtain ⟨x24, σ25, y26, h⟩ := bd_some h
  have f := sm_t f (wX3_x y26)
  obtain ⟨x27, ex27, h⟩ := bnd_nm h
  rcases ite_or h with ⟨_, h⟩ | ⟨_, h⟩
  · exact sm_t f (wX9_toldSide_76 h)
  · exact sm_t f (wX9_toldSide_76 h)
set_option maxRecDepth 10000 in
theorem wX9_work_44 {x y : Nat} {p1 : Nat} {k13 : Int32 → Int32 → gS → Option (Unit × gS)} {r : Unit} {σ' : gS} {v2 : Int32} {v3 : Int32} {s1 : Int32} {s2 : Int32} {σ : gS} (hk13 : ∀ (v2 : Int32) (v3 : Int32) (σ : gS), k13 v2 v3 σ = some (r, σ') → sm σ σ' x y) (nh_124_1 : ¬ (x = 124 ∧ y = 1)) (nh_125 : ¬ x = 125) (nh_126 : ¬ x = 126) (nh_127 : ¬ x = 127) (nh_128 : ¬ x = 128) (nh_129 : ¬ x = 129) (nh_130 : ¬ x = 130) (nh_131 : ¬ x = 131) (h : fX9_work_44 p1 k13 v2 v3 s1 s2 σ = some (r, σ')) : sm σ σ' x y := by
  unfold fX9_work_44 at h
  have f := sm_r σ x y
  obtain ⟨g1, h⟩ := gg_some h
  obtain ⟨σ2, eσ2, h⟩ := bnd_nm h
  have f := sm_I f (fun q => nh_126 q.1) eσ2
  obtain ⟨g3, h⟩ := gg_some h
  obtain ⟨σ4, eσ4, h⟩ := bnd_nm h
  have f := sm_I f (fun q => nh_127 q.1) eσ4
  obtain ⟨g5, h⟩ := gg_some h
  obtain ⟨σ6, eσ6, h⟩ := bnd_nm h
  have f := sm_I f (fun q => nh_128 q.1) eσ6
  obtain ⟨x7, ex7, h⟩ := bnd_nm h
  exact sm_t f (hk13 v2 x7 σ6 h)
set_option maxRecDepth 10000 in
theorem wX9_work_39 {x y : Nat} {p1 : Nat} {k13 : Int32 → Int32 → gS → Option (Unit × gS)} {r : Unit} {σ' : gS} {v2 : Int32} {v3 : Int32} {s1 : Int32} {σ : gS} (hk13 : ∀ (v2 : Int32) (v3 : Int32) (σ : gS), k13 v2 v3 σ = some (r, σ') → sm σ σ' x y) (nh_124_1 : ¬ (x = 124 ∧ y = 1)) (nh_125 : ¬ x = 125) (nh_126 : ¬ x = 126) (nh_127 : ¬ x = 127) (nh_128 : ¬ x = 128) (nh_129 : ¬ x = 129) (nh_130 : ¬ x = 130) (nh_131 : ¬ x = 131) (h : fX9_work_39 p1 k13 v2 v3 s1 σ = some (r, σ')) : sm σ σ' x y := by
  unfold fX9_work_39 at h
  have f := sm_r σ x y
  exact sm_t f (wX9_work_44 hk13 nh_124_1 nh_125 nh_126 nh_127 nh_128 nh_129 nh_130 nh_131 h)
set_option maxRecDepth 10000 in
theorem wX9_work_199 {x y : Nat} {p1 : Nat} {r : Unit} {σ' : gS} {σ : gS} (nh_124_1 : ¬ (x = 124 ∧ y = 1)) (nh_125 : ¬ x = 125) (nh_126 : ¬ x = 126) (nh_127 : ¬ x = 127) (nh_128 : ¬ x = 128) (nh_129 : ¬ x = 129) (nh_130 : ¬ x = 130) (nh_131 : ¬ x = 131) (h : fX9_work_199 p1 σ = some (r, σ')) : sm σ σ' x y := by
  unfold fX9_work_199 at h
  have f := sm_r σ x y
  obtain ⟨-, rfl⟩ := so_inj h
  exact f
set_option maxRecDepth 10000 in
theorem wX9_work_69 {x y : Nat} {p1 : Nat} {r : Unit} {σ' : gS} (nh_124_1 : ¬ (x = 124 ∧ y = 1)) (nh_125 : ¬ x = 125) (nh_126 : ¬ x = 126) (nh_127 : ¬ x = 127) (nh_128 : ¬ x = 128) (nh_129 : ¬ x = 129) (nh_130 : ¬ x = 130) (nh_131 : ¬ x = 131) : ∀ (n : Nat) (v2 : Int32) (v3 : Int32) (σ : gS), fX9_work_69 p1 n v2 v3 σ = some (r, σ') → sm σ σ' x y := by
  intro n
  induction n with
  | zero => intro v2 v3 σ h; exact absurd (show none = some (r, σ') from h) (by intro q; cases q)
  | succ n ih =>
  intro v2 v3 σ h
  unfold fX9_work_69 at h
  have f := sm_r σ x y
  rcases ite_or h with ⟨_, h⟩ | ⟨_, h⟩
  · exact sm_t f (wX9_work_199 nh_124_1 nh_125 nh_126 nh_127 nh_128 nh_129 nh_130 nh_131 h)
  · rcases ite_or h with ⟨_, h⟩ | ⟨_, h⟩
    · exact sm_t f (wX9_work_199 nh_124_1 nh_125 nh_126 nh_127 nh_128 nh_129 nh_130 nh_131 h)
    · obtain ⟨x3, σ4, y5, h⟩ := bd_some h
      have f := sm_t f (wX9_nextToCome nh_127 nh_128 y5)
      rcases ite_or h with ⟨_, h⟩ | ⟨_, h⟩
      · exact sm_t f (wX9_work_199 nh_124_1 nh_125 nh_126 nh_127 nh_128 nh_129 nh_130 nh_131 h)
      · obtain ⟨g7, h⟩ := gg_some h
        obtain ⟨σ8, eσ8, h⟩ := bnd_nm h
        have f := sm_I f (fun q => nh_126 q.1) eσ8
        obtain ⟨x9, σ10, y11, h⟩ := bd_some h
        have f := sm_t f (wX9_toldSide y11)
        obtain ⟨g12, h⟩ := gg_some h
        obtain ⟨σ13, eσ13, h⟩ := bnd_nm h
        have f := sm_I f (fun q => nh_129 q.1) eσ13
        obtain ⟨g14, h⟩ := gg_some h
        obtain ⟨x15, σ16, y17, h⟩ := bd_some h
        have f := sm_t f (wX3_squareApart y17)
        obtain ⟨g18, h⟩ := gg_some h
        obtain ⟨σ19, eσ19, h⟩ := bnd_nm h
        have f := sm_J f (fun q => nh_130 q.1) eσ19
        obtain ⟨g20, h⟩ := gg_some h
        obtain ⟨x21, σ22, y23, h⟩ := bd_some h
        have f := sm_t f (wX3_squareApart y23)
        obtain ⟨g24, h⟩ := gg_some h
        obtain ⟨σ25, eσ25, h⟩ := bnd_nm h
        have f := sm_J f (fun q => nh_131 q.1) eσ25
        obtain ⟨g26, h⟩ := gg_some h
        obtain ⟨σ27, eσ27, h⟩ := bnd_nm h
        have f := sm_I f (fun q => nh_125 q.1) eσ27
        obtain ⟨σ28, eσ28, h⟩ := bnd_nm h
        have f := sm_I f nh_124_1 eσ28
        obtain ⟨x29, ex29, h⟩ := bnd_nm h
        exact sm_t f (ih v2 x29 σ28 h)
set_option maxRecDepth 10000 in
theorem wX9_work_13 {x y : Nat} {p1 : Nat} {r : Unit} {σ' : gS} (nh_124_1 : ¬ (x = 124 ∧ y = 1)) (nh_125 : ¬ x = 125) (nh_126 : ¬ x = 126) (nh_127 : ¬ x = 127) (nh_128 : ¬ x = 128) (nh_129 : ¬ x = 129) (nh_130 : ¬ x = 130) (nh_131 : ¬ x = 131) : ∀ (n : Nat) (v2 : Int32) (v3 : Int32) (σ : gS), fX9_work_13 p1 n v2 v3 σ = some (r, σ') → sm σ σ' x y := by
  intro n
  induction n with
  | zero => intro v2 v3 σ h; exact absurd (show none = some (r, σ') from h) (by intro q; cases q)
  | succ n ih =>
  intro v2 v3 σ h
  unfold fX9_work_13 at h
  have f := sm_r σ x y
  rcases ite_or h with ⟨_, h⟩ | ⟨_, h⟩
  · exact sm_t f (wX9_work_69 nh_124_1 nh_125 nh_126 nh_127 nh_128 nh_129 nh_130 nh_131 2000 v2 0 σ h)
  · obtain ⟨x2, σ3, y4, h⟩ := bd_some h
    have f := sm_t f (wX3_isGround y4)
    rcases ite_or h with ⟨_, h⟩ | ⟨_, h⟩
    · rcases ite_or h with ⟨_, h⟩ | ⟨_, h⟩
      · exact sm_t f (wX9_work_39 (fun v2 v3 σ h => ih v2 v3 σ h) nh_124_1 nh_125 nh_126 nh_127 nh_128 nh_129 nh_130 nh_131 h)
      · exact sm_t f (wX9_work_44 (fun v2 v3 σ h => ih v2 v3 σ h) nh_124_1 nh_125 nh_126 nh_127 nh_128 nh_129 nh_130 nh_131 h)
    · exact sm_t f (wX9_work_39 (fun v2 v3 σ h => ih v2 v3 σ h) nh_124_1 nh_125 nh_126 nh_127 nh_128 nh_129 nh_130 nh_131 h)
set_option maxRecDepth 10000 in
theorem wX9_work {x y : Nat} {p1 : Nat} {r : Unit} {σ' : gS} {σ : gS} (nh_124_1 : ¬ (x = 124 ∧ y = 1)) (nh_125 : ¬ x = 125) (nh_126 : ¬ x = 126) (nh_127 : ¬ x = 127) (nh_128 : ¬ x = 128) (nh_129 : ¬ x = 129) (nh_130 : ¬ x = 130) (nh_131 : ¬ x = 131) (h : fX9_work p1 σ = some (r, σ')) : sm σ σ' x y := by
  unfold fX9_work at h
  have f := sm_r σ x y
  obtain ⟨σ1, eσ1, h⟩ := bnd_nm h
  have f := sm_I f nh_124_1 eσ1
  obtain ⟨x2, σ3, y4, h⟩ := bd_some h
  have f := sm_t f (wX3_size y4)
  exact sm_t f (wX9_work_13 nh_124_1 nh_125 nh_126 nh_127 nh_128 nh_129 nh_130 nh_131 2000 x2 0 σ3 h)
set_option maxRecDepth 10000 in
theorem wX10_feed_11 {x y : Nat} {p1 : Int32} {p2 : Int64} {r : Int32} {σ' : gS} {σ : gS} (nh_1_1 : ¬ (x = 1 ∧ y = 1)) (nh_2 : ¬ x = 2) (h : fX10_feed_11 p1 p2 σ = some (r, σ')) : sm σ σ' x y := by
  unfold fX10_feed_11 at h
  have f := sm_r σ x y
  obtain ⟨-, rfl⟩ := so_inj h
  exact f
set_option maxRecDepth 10000 in
theorem wX10_feed {x y : Nat} {p1 : Int32} {p2 : Int64} {r : Int32} {σ' : gS} {σ : gS} (nh_1_1 : ¬ (x = 1 ∧ y = 1)) (nh_2 : ¬ x = 2) (h : fX10_feed p1 p2 σ = some (r, σ')) : sm σ σ' x y := by
  unfold fX10_feed at h
  have f := sm_r σ x y
  rcases ite_or h with ⟨_, h⟩ | ⟨_, h⟩
  · exact sm_t f (wX10_feed_11 nh_1_1 nh_2 h)
  · rcases ite_or h with ⟨_, h⟩ | ⟨_, h⟩
    · obtain ⟨x3, σ4, y5, h⟩ := bd_some h
      have f := sm_t f (wX6_append nh_1_1 nh_2 y5)
      obtain ⟨-, rfl⟩ := so_inj h
      exact f
    · exact sm_t f (wX10_feed_11 nh_1_1 nh_2 h)
set_option maxRecDepth 10000 in
theorem wX10_place {x y : Nat} {r : Int32} {σ' : gS} {σ : gS} (h : fX10_place σ = some (r, σ')) : sm σ σ' x y := by
  unfold fX10_place at h
  have f := sm_r σ x y
  obtain ⟨-, rfl⟩ := so_inj h
  exact f
set_option maxRecDepth 10000 in
theorem wX10_isPart_20 {x y : Nat} {p1 : Int32} {r : Int32} {σ' : gS} {s0 : Int32} {σ : gS} (h : fX10_isPart_20 p1 s0 σ = some (r, σ')) : sm σ σ' x y := by
  unfold fX10_isPart_20 at h
  have f := sm_r σ x y
  obtain ⟨g1, h⟩ := gg_some h
  obtain ⟨-, rfl⟩ := so_inj h
  exact f
set_option maxRecDepth 10000 in
theorem wX10_isPart_19 {x y : Nat} {p1 : Int32} {r : Int32} {σ' : gS} {σ : gS} (h : fX10_isPart_19 p1 σ = some (r, σ')) : sm σ σ' x y := by
  unfold fX10_isPart_19 at h
  have f := sm_r σ x y
  exact sm_t f (wX10_isPart_20 h)
set_option maxRecDepth 10000 in
theorem wX10_isPart {x y : Nat} {p1 : Int32} {r : Int32} {σ' : gS} {σ : gS} (h : fX10_isPart p1 σ = some (r, σ')) : sm σ σ' x y := by
  unfold fX10_isPart at h
  have f := sm_r σ x y
  rcases ite_or h with ⟨_, h⟩ | ⟨_, h⟩
  · exact sm_t f (wX10_isPart_19 h)
  · obtain ⟨x2, ex2, h⟩ := bnd_nm h
    obtain ⟨g3, h⟩ := gg_some h
    rcases ite_or h with ⟨_, h⟩ | ⟨_, h⟩
    · exact sm_t f (wX10_isPart_19 h)
    · exact sm_t f (wX10_isPart_20 h)
set_option maxRecDepth 10000 in
theorem wX10_part {x y : Nat} {p1 : Int32} {p2 : Int32} {r : Int32} {σ' : gS} {σ : gS} (h : fX10_part p1 p2 σ = some (r, σ')) : sm σ σ' x y := by
  unfold fX10_part at h
  have f := sm_r σ x y
  obtain ⟨x1, σ2, y3, h⟩ := bd_some h
  have f := sm_t f (wX10_isPart y3)
  rcases ite_or h with ⟨_, h⟩ | ⟨_, h⟩
  · obtain ⟨-, rfl⟩ := so_inj h
    exact f
  · rcases ite_or h with ⟨_, h⟩ | ⟨_, h⟩
    · obtain ⟨x6, ex6, h⟩ := bnd_nm h
      obtain ⟨g7, h⟩ := gg_some h
      obtain ⟨g8, h⟩ := gg_some h
      obtain ⟨-, rfl⟩ := so_inj h
      exact f
    ·
      rcases ite_or h with ⟨_, h⟩ | ⟨_, h⟩
      · obtain ⟨x10, ex10, h⟩ := bnd_nm h
        obtain ⟨g11, h⟩ := gg_some h
        obtain ⟨g12, h⟩ := gg_some h
        obtain ⟨-, rfl⟩ := so_inj h
        exact f
      ·
        rcases ite_or h with ⟨_, h⟩ | ⟨_, h⟩
        · obtain ⟨x14, ex14, h⟩ := bnd_nm h
          obtain ⟨g15, h⟩ := gg_some h
          obtain ⟨g16, h⟩ := gg_some h
          obtain ⟨-, rfl⟩ := so_inj h
          exact f
        ·
          rcases ite_or h with ⟨_, h⟩ | ⟨_, h⟩
          · obtain ⟨x18, ex18, h⟩ := bnd_nm h
            obtain ⟨g19, h⟩ := gg_some h
            obtain ⟨g20, h⟩ := gg_some h
            obtain ⟨-, rfl⟩ := so_inj h
            exact f
          ·
            obtain ⟨-, rfl⟩ := so_inj h
            exact f
set_option maxRecDepth 10000 in
theorem wX10_isMember_21 {x y : Nat} {p1 : Int32} {p2 : Int32} {r : Int32} {σ' : gS} {s0 : Int32} {σ : gS} (h : fX10_isMember_21 p1 p2 s0 σ = some (r, σ')) : sm σ σ' x y := by
  unfold fX10_isMember_21 at h
  have f := sm_r σ x y
  obtain ⟨g1, h⟩ := gg_some h
  obtain ⟨-, rfl⟩ := so_inj h
  exact f
set_option maxRecDepth 10000 in
theorem wX10_isMember_20 {x y : Nat} {p1 : Int32} {p2 : Int32} {r : Int32} {σ' : gS} {σ : gS} (h : fX10_isMember_20 p1 p2 σ = some (r, σ')) : sm σ σ' x y := by
  unfold fX10_isMember_20 at h
  have f := sm_r σ x y
  exact sm_t f (wX10_isMember_21 h)
set_option maxRecDepth 10000 in
theorem wX10_isMember {x y : Nat} {p1 : Int32} {p2 : Int32} {r : Int32} {σ' : gS} {σ : gS} (h : fX10_isMember p1 p2 σ = some (r, σ')) : sm σ σ' x y := by
  unfold fX10_isMember at h
  have f := sm_r σ x y
  rcases ite_or h with ⟨_, h⟩ | ⟨_, h⟩
  · exact sm_t f (wX10_isMember_20 h)
  · obtain ⟨x2, ex2, h⟩ := bnd_nm h
    obtain ⟨g3, h⟩ := gg_some h
    obtain ⟨x4, σ5, y6, h⟩ := bd_some h
    have f := sm_t f (wX3_size y6)
    rcases ite_or h with ⟨_, h⟩ | ⟨_, h⟩
    · exact sm_t f (wX10_isMember_20 h)
    · exact sm_t f (wX10_isMember_21 h)
set_option maxRecDepth 10000 in
theorem wX10_needed_29 {x y : Nat} {p1 : Int32} {r : Int32} {σ' : gS} {s0 : Int32} {σ : gS} (h : fX10_needed_29 p1 s0 σ = some (r, σ')) : sm σ σ' x y := by
  unfold fX10_needed_29 at h
  have f := sm_r σ x y
  obtain ⟨-, rfl⟩ := so_inj h
  exact f
set_option maxRecDepth 10000 in
theorem wX10_needed {x y : Nat} {p1 : Int32} {r : Int32} {σ' : gS} {σ : gS} (h : fX10_needed p1 σ = some (r, σ')) : sm σ σ' x y := by
  unfold fX10_needed at h
  have f := sm_r σ x y
  obtain ⟨x1, σ2, y3, h⟩ := bd_some h
  have f := sm_t f (wX10_isMember y3)
  rcases ite_or h with ⟨_, h⟩ | ⟨_, h⟩
  · obtain ⟨-, rfl⟩ := so_inj h
    exact f
  · obtain ⟨g5, h⟩ := gg_some h
    rcases ite_or h with ⟨_, h⟩ | ⟨_, h⟩
    · exact sm_t f (wX10_needed_29 h)
    · exact sm_t f (wX10_needed_29 h)
set_option maxRecDepth 10000 in
theorem wX10_together_18 {x y : Nat} {p1 : Int32} {p2 : Int32} {r : Int32} {σ' : gS} {σ : gS} (h : fX10_together_18 p1 p2 σ = some (r, σ')) : sm σ σ' x y := by
  unfold fX10_together_18 at h
  have f := sm_r σ x y
  obtain ⟨-, rfl⟩ := so_inj h
  exact f
set_option maxRecDepth 10000 in
theorem wX10_together_38 {x y : Nat} {p1 : Int32} {p2 : Int32} {r : Int32} {σ' : gS} {s0 : Int32} {σ : gS} (h : fX10_together_38 p1 p2 s0 σ = some (r, σ')) : sm σ σ' x y := by
  unfold fX10_together_38 at h
  have f := sm_r σ x y
  obtain ⟨-, rfl⟩ := so_inj h
  exact f
set_option maxRecDepth 10000 in
theorem wX10_together {x y : Nat} {p1 : Int32} {p2 : Int32} {r : Int32} {σ' : gS} {σ : gS} (h : fX10_together p1 p2 σ = some (r, σ')) : sm σ σ' x y := by
  unfold fX10_together at h
  have f := sm_r σ x y
  obtain ⟨x1, σ2, y3, h⟩ := bd_some h
  have f := sm_t f (wX10_isMember y3)
  rcases ite_or h with ⟨_, h⟩ | ⟨_, h⟩
  · exact sm_t f (wX10_together_18 h)
  · obtain ⟨x5, σ6, y7, h⟩ := bd_some h
    have f := sm_t f (wX10_isMember y7)
    rcases ite_or h with ⟨_, h⟩ | ⟨_, h⟩
    · exact sm_t f (wX10_together_18 h)
    · obtain ⟨x9, σ10, y11, h⟩ := bd_some h
      have f := sm_t f (wX1_areTogether y11)
      rcases ite_or h with ⟨_, h⟩ | ⟨_, h⟩
      · exact sm_t f (wX10_together_38 h)
      · exact sm_t f (wX10_together_38 h)
set_option maxRecDepth 10000 in
theorem wX10_cluster {x y : Nat} {p1 : Int32} {r : Int32} {σ' : gS} {σ : gS} (h : fX10_cluster p1 σ = some (r, σ')) : sm σ σ' x y := by
  unfold fX10_cluster at h
  have f := sm_r σ x y
  obtain ⟨x1, σ2, y3, h⟩ := bd_some h
  have f := sm_t f (wX10_isMember y3)
  rcases ite_or h with ⟨_, h⟩ | ⟨_, h⟩
  · obtain ⟨-, rfl⟩ := so_inj h
    exact f
  · obtain ⟨g5, h⟩ := gg_some h
    obtain ⟨-, rfl⟩ := so_inj h
    exact f
set_option maxRecDepth 10000 in
theorem wX10_mobility {x y : Nat} {r : Int32} {σ' : gS} {σ : gS} (h : fX10_mobility σ = some (r, σ')) : sm σ σ' x y := by
  unfold fX10_mobility at h
  have f := sm_r σ x y
  obtain ⟨-, rfl⟩ := so_inj h
  exact f
set_option maxRecDepth 10000 in
theorem wX10_rank {x y : Nat} {p1 : Int32} {r : Int32} {σ' : gS} {σ : gS} (h : fX10_rank p1 σ = some (r, σ')) : sm σ σ' x y := by
  unfold fX10_rank at h
  have f := sm_r σ x y
  rcases ite_or h with ⟨_, h⟩ | ⟨_, h⟩
  · obtain ⟨-, rfl⟩ := so_inj h
    exact f
  ·
    rcases ite_or h with ⟨_, h⟩ | ⟨_, h⟩
    · obtain ⟨-, rfl⟩ := so_inj h
      exact f
    ·
      rcases ite_or h with ⟨_, h⟩ | ⟨_, h⟩
      · obtain ⟨-, rfl⟩ := so_inj h
        exact f
      ·
        obtain ⟨-, rfl⟩ := so_inj h
        exact f
set_option maxRecDepth 10000 in
theorem wX10_isAxis_14 {x y : Nat} {p1 : Int32} {r : Int32} {σ' : gS} {s0 : Int32} {σ : gS} (h : fX10_isAxis_14 p1 s0 σ = some (r, σ')) : sm σ σ' x y := by
  unfold fX10_isAxis_14 at h
  have f := sm_r σ x y
  obtain ⟨g1, h⟩ := gg_some h
  obtain ⟨-, rfl⟩ := so_inj h
  exact f
set_option maxRecDepth 10000 in
theorem wX10_isAxis_9 {x y : Nat} {p1 : Int32} {r : Int32} {σ' : gS} {σ : gS} (h : fX10_isAxis_9 p1 σ = some (r, σ')) : sm σ σ' x y := by
  unfold fX10_isAxis_9 at h
  have f := sm_r σ x y
  exact sm_t f (wX10_isAxis_14 h)
set_option maxRecDepth 10000 in
theorem wX10_isAxis {x y : Nat} {p1 : Int32} {r : Int32} {σ' : gS} {σ : gS} (h : fX10_isAxis p1 σ = some (r, σ')) : sm σ σ' x y := by
  unfold fX10_isAxis at h
  have f := sm_r σ x y
  rcases ite_or h with ⟨_, h⟩ | ⟨_, h⟩
  · exact sm_t f (wX10_isAxis_9 h)
  · rcases ite_or h with ⟨_, h⟩ | ⟨_, h⟩
    · exact sm_t f (wX10_isAxis_9 h)
    · exact sm_t f (wX10_isAxis_14 h)
set_option maxRecDepth 10000 in
theorem wX10_motion_39 {x y : Nat} {p1 : Int32} {p2 : Int32} {p3 : Int32} {r : Int32} {σ' : gS} {σ : gS} (h : fX10_motion_39 p1 p2 p3 σ = some (r, σ')) : sm σ σ' x y := by
  unfold fX10_motion_39 at h
  have f := sm_r σ x y
  obtain ⟨-, rfl⟩ := so_inj h
  exact f
set_option maxRecDepth 10000 in
theorem wX10_motion {x y : Nat} {p1 : Int32} {p2 : Int32} {p3 : Int32} {r : Int32} {σ' : gS} {σ : gS} (h : fX10_motion p1 p2 p3 σ = some (r, σ')) : sm σ σ' x y := by
  unfold fX10_motion at h
  have f := sm_r σ x y
  rcases ite_or h with ⟨_, h⟩ | ⟨_, h⟩
  · exact sm_t f (wX10_motion_39 h)
  · rcases ite_or h with ⟨_, h⟩ | ⟨_, h⟩
    · exact sm_t f (wX10_motion_39 h)
    · obtain ⟨x3, σ4, y5, h⟩ := bd_some h
      have f := sm_t f (wX10_isMember y5)
      rcases ite_or h with ⟨_, h⟩ | ⟨_, h⟩
      · exact sm_t f (wX10_motion_39 h)
      · obtain ⟨x7, σ8, y9, h⟩ := bd_some h
        have f := sm_t f (wX10_isAxis y9)
        rcases ite_or h with ⟨_, h⟩ | ⟨_, h⟩
        · exact sm_t f (wX10_motion_39 h)
        · obtain ⟨x11, σ12, y13, h⟩ := bd_some h
          have f := sm_t f (wX4_motionAt y13)
          obtain ⟨-, rfl⟩ := so_inj h
          exact f
set_option maxRecDepth 10000 in
theorem wX10_isStep_16 {x y : Nat} {p1 : Int32} {r : Int32} {σ' : gS} {s0 : Int32} {σ : gS} (h : fX10_isStep_16 p1 s0 σ = some (r, σ')) : sm σ σ' x y := by
  unfold fX10_isStep_16 at h
  have f := sm_r σ x y
  obtain ⟨g1, h⟩ := gg_some h
  obtain ⟨-, rfl⟩ := so_inj h
  exact f
set_option maxRecDepth 10000 in
theorem wX10_isStep_15 {x y : Nat} {p1 : Int32} {r : Int32} {σ' : gS} {σ : gS} (h : fX10_isStep_15 p1 σ = some (r, σ')) : sm σ σ' x y := by
  unfold fX10_isStep_15 at h
  have f := sm_r σ x y
  exact sm_t f (wX10_isStep_16 h)
set_option maxRecDepth 10000 in
theorem wX10_isStep {x y : Nat} {p1 : Int32} {r : Int32} {σ' : gS} {σ : gS} (h : fX10_isStep p1 σ = some (r, σ')) : sm σ σ' x y := by
  unfold fX10_isStep at h
  have f := sm_r σ x y
  rcases ite_or h with ⟨_, h⟩ | ⟨_, h⟩
  · exact sm_t f (wX10_isStep_15 h)
  · rcases ite_or h with ⟨_, h⟩ | ⟨_, h⟩
    · exact sm_t f (wX10_isStep_15 h)
    · exact sm_t f (wX10_isStep_16 h)
set_option maxRecDepth 10000 in
theorem wX10_pose {x y : Nat} {p1 : Int32} {r : Int32} {σ' : gS} {σ : gS} (nh_0_6 : ¬ (x = 0 ∧ y = 6)) (nh_133 : ¬ x = 133) (nh_134 : ¬ x = 134) (nh_135 : ¬ x = 135) (h : fX10_pose p1 σ = some (r, σ')) : sm σ σ' x y := by
  unfold fX10_pose at h
  have f := sm_r σ x y
  obtain ⟨x1, σ2, y3, h⟩ := bd_some h
  have f := sm_t f (wX10_isStep y3)
  rcases ite_or h with ⟨_, h⟩ | ⟨_, h⟩
  · obtain ⟨-, rfl⟩ := so_inj h
    exact f
  · obtain ⟨x5, ex5, h⟩ := bnd_nm h
    obtain ⟨g6, h⟩ := gg_some h
    rcases ite_or h with ⟨_, h⟩ | ⟨_, h⟩
    · obtain ⟨-, rfl⟩ := so_inj h
      exact f
    · obtain ⟨x8, ex8, h⟩ := bnd_nm h
      obtain ⟨g9, h⟩ := gg_some h
      obtain ⟨_, σ10, y11, h⟩ := bd_some h
      have f := sm_t f (wX9_arrange nh_133 nh_134 nh_135 y11)
      obtain ⟨σ12, eσ12, h⟩ := bnd_nm h
      have f := sm_I f nh_0_6 eσ12
      obtain ⟨x13, ex13, h⟩ := bnd_nm h
      obtain ⟨g14, h⟩ := gg_some h
      obtain ⟨x15, σ16, y17, h⟩ := bd_some h
      have f := sm_t f (wX3_size y17)
      obtain ⟨x18, σ19, y20, h⟩ := bd_some h
      have f := sm_t f (wX5_howMany y20)
      obtain ⟨-, rfl⟩ := so_inj h
      exact f
set_option maxRecDepth 10000 in
theorem wX10_at_16 {x y : Nat} {p1 : Int32} {p2 : Int32} {r : Int64} {σ' : gS} {σ : gS} (h : fX10_at_16 p1 p2 σ = some (r, σ')) : sm σ σ' x y := by
  unfold fX10_at_16 at h
  have f := sm_r σ x y
  obtain ⟨-, rfl⟩ := so_inj h
  exact f
set_option maxRecDepth 10000 in
theorem wX10_at_72 {x y : Nat} {p1 : Int32} {p2 : Int32} {r : Int64} {σ' : gS} {s0 : Int64} {σ : gS} (h : fX10_at_72 p1 p2 s0 σ = some (r, σ')) : sm σ σ' x y := by
  unfold fX10_at_72 at h
  have f := sm_r σ x y
  obtain ⟨-, rfl⟩ := so_inj h
  exact f
set_option maxRecDepth 10000 in
theorem wX10_at {x y : Nat} {p1 : Int32} {p2 : Int32} {r : Int64} {σ' : gS} {σ : gS} (h : fX10_at p1 p2 σ = some (r, σ')) : sm σ σ' x y := by
  unfold fX10_at at h
  have f := sm_r σ x y
  obtain ⟨x1, σ2, y3, h⟩ := bd_some h
  have f := sm_t f (wX10_isMember y3)
  rcases ite_or h with ⟨_, h⟩ | ⟨_, h⟩
  · exact sm_t f (wX10_at_16 h)
  · obtain ⟨x5, σ6, y7, h⟩ := bd_some h
    have f := sm_t f (wX10_isAxis y7)
    rcases ite_or h with ⟨_, h⟩ | ⟨_, h⟩
    · exact sm_t f (wX10_at_16 h)
    · rcases ite_or h with ⟨_, h⟩ | ⟨_, h⟩
      · obtain ⟨-, rfl⟩ := so_inj h
        exact f
      · obtain ⟨g10, h⟩ := gg_some h
        rcases ite_or h with ⟨_, h⟩ | ⟨_, h⟩
        · rcases ite_or h with ⟨_, h⟩ | ⟨_, h⟩
          · obtain ⟨g14, h⟩ := gg_some h
            exact sm_t f (wX10_at_72 h)
          · obtain ⟨g13, h⟩ := gg_some h
            exact sm_t f (wX10_at_72 h)
        · obtain ⟨-, rfl⟩ := so_inj h
          exact f
set_option maxRecDepth 10000 in
theorem wX10_why_33 {x y : Nat} {p1 : Int32} {r : Int32} {σ' : gS} {s0 : Int32} {σ : gS} (h : fX10_why_33 p1 s0 σ = some (r, σ')) : sm σ σ' x y := by
  unfold fX10_why_33 at h
  have f := sm_r σ x y
  obtain ⟨-, rfl⟩ := so_inj h
  exact f
set_option maxRecDepth 10000 in
theorem wX10_why {x y : Nat} {p1 : Int32} {r : Int32} {σ' : gS} {σ : gS} (h : fX10_why p1 σ = some (r, σ')) : sm σ σ' x y := by
  unfold fX10_why at h
  have f := sm_r σ x y
  obtain ⟨x1, σ2, y3, h⟩ := bd_some h
  have f := sm_t f (wX10_isMember y3)
  rcases ite_or h with ⟨_, h⟩ | ⟨_, h⟩
  · obtain ⟨-, rfl⟩ := so_inj h
    exact f
  · rcases ite_or h with ⟨_, h⟩ | ⟨_, h⟩
    · exact sm_t f (wX10_why_33 h)
    · obtain ⟨g6, h⟩ := gg_some h
      exact sm_t f (wX10_why_33 h)
set_option maxRecDepth 10000 in
theorem wX10_order_9 {x y : Nat} {p1 : Int32} {p2 : Int32} {r : Int32} {σ' : gS} {σ : gS} (h : fX10_order_9 p1 p2 σ = some (r, σ')) : sm σ σ' x y := by
  unfold fX10_order_9 at h
  have f := sm_r σ x y
  obtain ⟨-, rfl⟩ := so_inj h
  exact f
set_option maxRecDepth 10000 in
theorem wX10_order_42 {x y : Nat} {p1 : Int32} {p2 : Int32} {r : Int32} {σ' : gS} {σ : gS} (h : fX10_order_42 p1 p2 σ = some (r, σ')) : sm σ σ' x y := by
  unfold fX10_order_42 at h
  have f := sm_r σ x y
  obtain ⟨-, rfl⟩ := so_inj h
  exact f
set_option maxRecDepth 10000 in
theorem wX10_order {x y : Nat} {p1 : Int32} {p2 : Int32} {r : Int32} {σ' : gS} {σ : gS} (h : fX10_order p1 p2 σ = some (r, σ')) : sm σ σ' x y := by
  unfold fX10_order at h
  have f := sm_r σ x y
  rcases ite_or h with ⟨_, h⟩ | ⟨_, h⟩
  · exact sm_t f (wX10_order_9 h)
  · rcases ite_or h with ⟨_, h⟩ | ⟨_, h⟩
    · obtain ⟨x3, ex3, h⟩ := bnd_nm h
      obtain ⟨g4, h⟩ := gg_some h
      rcases ite_or h with ⟨_, h⟩ | ⟨_, h⟩
      · obtain ⟨-, rfl⟩ := so_inj h
        exact f
      · rcases ite_or h with ⟨_, h⟩ | ⟨_, h⟩
        · exact sm_t f (wX10_order_42 h)
        · rcases ite_or h with ⟨_, h⟩ | ⟨_, h⟩
          · obtain ⟨g8, h⟩ := gg_some h
            rcases ite_or h with ⟨_, h⟩ | ⟨_, h⟩
            · obtain ⟨-, rfl⟩ := so_inj h
              exact f
            ·
              rcases ite_or h with ⟨_, h⟩ | ⟨_, h⟩
              · obtain ⟨g11, h⟩ := gg_some h
                obtain ⟨-, rfl⟩ := so_inj h
                exact f
              ·
                obtain ⟨g12, h⟩ := gg_some h
                obtain ⟨-, rfl⟩ := so_inj h
                exact f
          · exact sm_t f (wX10_order_42 h)
    · exact sm_t f (wX10_order_9 h)
set_option maxRecDepth 10000 in
theorem wX10_flip_38 {x y : Nat} {p1 : Int32} {r : Int32} {σ' : gS} {σ : gS} (nh_129 : ¬ x = 129) (h : fX10_flip_38 p1 σ = some (r, σ')) : sm σ σ' x y := by
  unfold fX10_flip_38 at h
  have f := sm_r σ x y
  obtain ⟨-, rfl⟩ := so_inj h
  exact f
set_option maxRecDepth 10000 in
theorem wX10_flip {x y : Nat} {p1 : Int32} {r : Int32} {σ' : gS} {σ : gS} (nh_129 : ¬ x = 129) (h : fX10_flip p1 σ = some (r, σ')) : sm σ σ' x y := by
  unfold fX10_flip at h
  have f := sm_r σ x y
  obtain ⟨x1, σ2, y3, h⟩ := bd_some h
  have f := sm_t f (wX10_isMember y3)
  rcases ite_or h with ⟨_, h⟩ | ⟨_, h⟩
  · obtain ⟨-, rfl⟩ := so_inj h
    exact f
  · obtain ⟨x5, ex5, h⟩ := bnd_nm h
    obtain ⟨g6, h⟩ := gg_some h
    rcases ite_or h with ⟨_, h⟩ | ⟨_, h⟩
    · exact sm_t f (wX10_flip_38 nh_129 h)
    · obtain ⟨g8, h⟩ := gg_some h
      rcases ite_or h with ⟨_, h⟩ | ⟨_, h⟩
      · exact sm_t f (wX10_flip_38 nh_129 h)
      · obtain ⟨g10, h⟩ := gg_some h
        obtain ⟨g11, h⟩ := gg_some h
        obtain ⟨σ12, eσ12, h⟩ := bnd_nm h
        have f := sm_I f (fun q => nh_129 q.1) eσ12
        obtain ⟨g13, h⟩ := gg_some h
        obtain ⟨-, rfl⟩ := so_inj h
        exact f
set_option maxRecDepth 10000 in
theorem wX10_trace {x y : Nat} {p1 : Int32} {r : Int32} {σ' : gS} {σ : gS} (nh_136_0 : ¬ (x = 136 ∧ y = 0)) (nh_136_1 : ¬ (x = 136 ∧ y = 1)) (nh_137 : ¬ x = 137) (nh_138 : ¬ x = 138) (nh_139 : ¬ x = 139) (nh_141 : ¬ x = 141) (nh_142 : ¬ x = 142) (nh_143 : ¬ x = 143) (h : fX10_trace p1 σ = some (r, σ')) : sm σ σ' x y := by
  unfold fX10_trace at h
  have f := sm_r σ x y
  obtain ⟨x1, σ2, y3, h⟩ := bd_some h
  have f := sm_t f (wX10_isMember y3)
  rcases ite_or h with ⟨_, h⟩ | ⟨_, h⟩
  · obtain ⟨-, rfl⟩ := so_inj h
    exact f
  · obtain ⟨x5, ex5, h⟩ := bnd_nm h
    obtain ⟨g6, h⟩ := gg_some h
    rcases ite_or h with ⟨_, h⟩ | ⟨_, h⟩
    · obtain ⟨-, rfl⟩ := so_inj h
      exact f
    · obtain ⟨x8, ex8, h⟩ := bnd_nm h
      obtain ⟨g9, h⟩ := gg_some h
      obtain ⟨_, σ10, y11, h⟩ := bd_some h
      have f := sm_t f (wX2_draw nh_136_0 nh_136_1 nh_137 nh_138 nh_139 nh_141 nh_142 nh_143 y11)
      obtain ⟨-, rfl⟩ := so_inj h
      exact f
set_option maxRecDepth 10000 in
theorem wX10_curve_14 {x y : Nat} {p1 : Int32} {p2 : Int32} {r : Int64} {σ' : gS} {σ : gS} (h : fX10_curve_14 p1 p2 σ = some (r, σ')) : sm σ σ' x y := by
  unfold fX10_curve_14 at h
  have f := sm_r σ x y
  obtain ⟨-, rfl⟩ := so_inj h
  exact f
set_option maxRecDepth 10000 in
theorem wX10_curve_60 {x y : Nat} {p1 : Int32} {p2 : Int32} {r : Int64} {σ' : gS} {s0 : Int64} {σ : gS} (h : fX10_curve_60 p1 p2 s0 σ = some (r, σ')) : sm σ σ' x y := by
  unfold fX10_curve_60 at h
  have f := sm_r σ x y
  obtain ⟨-, rfl⟩ := so_inj h
  exact f
set_option maxRecDepth 10000 in
theorem wX10_curve {x y : Nat} {p1 : Int32} {p2 : Int32} {r : Int64} {σ' : gS} {σ : gS} (h : fX10_curve p1 p2 σ = some (r, σ')) : sm σ σ' x y := by
  unfold fX10_curve at h
  have f := sm_r σ x y
  obtain ⟨x1, σ2, y3, h⟩ := bd_some h
  have f := sm_t f (wX10_isStep y3)
  rcases ite_or h with ⟨_, h⟩ | ⟨_, h⟩
  · exact sm_t f (wX10_curve_14 h)
  · obtain ⟨x5, σ6, y7, h⟩ := bd_some h
    have f := sm_t f (wX10_isAxis y7)
    rcases ite_or h with ⟨_, h⟩ | ⟨_, h⟩
    · exact sm_t f (wX10_curve_14 h)
    · rcases ite_or h with ⟨_, h⟩ | ⟨_, h⟩
      · obtain ⟨-, rfl⟩ := so_inj h
        exact f
      · obtain ⟨g10, h⟩ := gg_some h
        rcases ite_or h with ⟨_, h⟩ | ⟨_, h⟩
        · exact sm_t f (wX10_curve_60 h)
        · obtain ⟨x12, σ13, y14, h⟩ := bd_some h
          have f := sm_t f (wX2_valuesOf y14)
          obtain ⟨g15, h⟩ := gg_some h
          obtain ⟨g16, h⟩ := gg_some h
          exact sm_t f (wX10_curve_60 h)
set_option maxRecDepth 10000 in
theorem wX10_told_9 {x y : Nat} {p1 : Int32} {r : Int32} {σ' : gS} {σ : gS} (h : fX10_told_9 p1 σ = some (r, σ')) : sm σ σ' x y := by
  unfold fX10_told_9 at h
  have f := sm_r σ x y
  obtain ⟨-, rfl⟩ := so_inj h
  exact f
set_option maxRecDepth 10000 in
theorem wX10_told {x y : Nat} {p1 : Int32} {r : Int32} {σ' : gS} {σ : gS} (h : fX10_told p1 σ = some (r, σ')) : sm σ σ' x y := by
  unfold fX10_told at h
  have f := sm_r σ x y
  rcases ite_or h with ⟨_, h⟩ | ⟨_, h⟩
  · exact sm_t f (wX10_told_9 h)
  · rcases ite_or h with ⟨_, h⟩ | ⟨_, h⟩
    · rcases ite_or h with ⟨_, h⟩ | ⟨_, h⟩
      · obtain ⟨-, rfl⟩ := so_inj h
        exact f
      · rcases ite_or h with ⟨_, h⟩ | ⟨_, h⟩
        · obtain ⟨x5, σ6, y7, h⟩ := bd_some h
          have f := sm_t f (wX2_beginnings y7)
          obtain ⟨-, rfl⟩ := so_inj h
          exact f
        ·
          rcases ite_or h with ⟨_, h⟩ | ⟨_, h⟩
          · obtain ⟨x9, σ10, y11, h⟩ := bd_some h
            have f := sm_t f (wX2_firstFarthest y11)
            obtain ⟨-, rfl⟩ := so_inj h
            exact f
          ·
            rcases ite_or h with ⟨_, h⟩ | ⟨_, h⟩
            · obtain ⟨x13, σ14, y15, h⟩ := bd_some h
              have f := sm_t f (wX2_firstFarthest y15)
              obtain ⟨-, rfl⟩ := so_inj h
              exact f
            ·
              rcases ite_or h with ⟨_, h⟩ | ⟨_, h⟩
              · obtain ⟨x17, σ18, y19, h⟩ := bd_some h
                have f := sm_t f (wX2_firstFarthest y19)
                obtain ⟨-, rfl⟩ := so_inj h
                exact f
              ·
                obtain ⟨x20, σ21, y22, h⟩ := bd_some h
                have f := sm_t f (wX2_firstFarthest y22)
                obtain ⟨-, rfl⟩ := so_inj h
                exact f
    · exact sm_t f (wX10_told_9 h)
set_option maxRecDepth 10000 in
theorem wX10_ratio_27 {x y : Nat} {p1 : Int32} {p2 : Int32} {p3 : Int32} {r : Int64} {σ' : gS} {σ : gS} (nh_144_4 : ¬ (x = 144 ∧ y = 4)) (nh_144_5 : ¬ (x = 144 ∧ y = 5)) (nh_145 : ¬ x = 145) (nh_146 : ¬ x = 146) (nh_147 : ¬ x = 147) (h : fX10_ratio_27 p1 p2 p3 σ = some (r, σ')) : sm σ σ' x y := by
  unfold fX10_ratio_27 at h
  have f := sm_r σ x y
  obtain ⟨-, rfl⟩ := so_inj h
  exact f
set_option maxRecDepth 10000 in
theorem wX10_ratio_111 {x y : Nat} {p1 : Int32} {p2 : Int32} {p3 : Int32} {r : Int64} {σ' : gS} {s0 : Int64} {σ : gS} (nh_144_4 : ¬ (x = 144 ∧ y = 4)) (nh_144_5 : ¬ (x = 144 ∧ y = 5)) (nh_145 : ¬ x = 145) (nh_146 : ¬ x = 146) (nh_147 : ¬ x = 147) (h : fX10_ratio_111 p1 p2 p3 s0 σ = some (r, σ')) : sm σ σ' x y := by
  unfold fX10_ratio_111 at h
  have f := sm_r σ x y
  obtain ⟨-, rfl⟩ := so_inj h
  exact f
set_option maxRecDepth 10000 in
theorem wX10_ratio {x y : Nat} {p1 : Int32} {p2 : Int32} {p3 : Int32} {r : Int64} {σ' : gS} {σ : gS} (nh_144_4 : ¬ (x = 144 ∧ y = 4)) (nh_144_5 : ¬ (x = 144 ∧ y = 5)) (nh_145 : ¬ x = 145) (nh_146 : ¬ x = 146) (nh_147 : ¬ x = 147) (h : fX10_ratio p1 p2 p3 σ = some (r, σ')) : sm σ σ' x y := by
  unfold fX10_ratio at h
  have f := sm_r σ x y
  obtain ⟨x1, σ2, y3, h⟩ := bd_some h
  have f := sm_t f (wX10_isMember y3)
  rcases ite_or h with ⟨_, h⟩ | ⟨_, h⟩
  · exact sm_t f (wX10_ratio_27 nh_144_4 nh_144_5 nh_145 nh_146 nh_147 h)
  · obtain ⟨x5, σ6, y7, h⟩ := bd_some h
    have f := sm_t f (wX10_isMember y7)
    rcases ite_or h with ⟨_, h⟩ | ⟨_, h⟩
    · exact sm_t f (wX10_ratio_27 nh_144_4 nh_144_5 nh_145 nh_146 nh_147 h)
    · rcases ite_or h with ⟨_, h⟩ | ⟨_, h⟩
      · exact sm_t f (wX10_ratio_27 nh_144_4 nh_144_5 nh_145 nh_146 nh_147 h)
      · rcases ite_or h with ⟨_, h⟩ | ⟨_, h⟩
        · obtain ⟨x11, ex11, h⟩ := bnd_nm h
          obtain ⟨g12, h⟩ := gg_some h
          obtain ⟨_, σ13, y14, h⟩ := bd_some h
          have f := sm_t f (wX8_spread nh_144_4 nh_144_5 nh_145 nh_146 nh_147 y14)
          obtain ⟨g15, h⟩ := gg_some h
          rcases ite_or h with ⟨_, h⟩ | ⟨_, h⟩
          · obtain ⟨-, rfl⟩ := so_inj h
            exact f
          ·
            rcases ite_or h with ⟨_, h⟩ | ⟨_, h⟩
            · obtain ⟨-, rfl⟩ := so_inj h
              exact f
            ·
              rcases ite_or h with ⟨_, h⟩ | ⟨_, h⟩
              · obtain ⟨g20, h⟩ := gg_some h
                exact sm_t f (wX10_ratio_111 nh_144_4 nh_144_5 nh_145 nh_146 nh_147 h)
              · obtain ⟨g19, h⟩ := gg_some h
                exact sm_t f (wX10_ratio_111 nh_144_4 nh_144_5 nh_145 nh_146 nh_147 h)
        · exact sm_t f (wX10_ratio_27 nh_144_4 nh_144_5 nh_145 nh_146 nh_147 h)
set_option maxRecDepth 10000 in
theorem wX10_lock {x y : Nat} {r : Int32} {σ' : gS} {σ : gS} (nh_144_4 : ¬ (x = 144 ∧ y = 4)) (nh_144_5 : ¬ (x = 144 ∧ y = 5)) (nh_145 : ¬ x = 145) (nh_146 : ¬ x = 146) (nh_147 : ¬ x = 147) (nh_148 : ¬ x = 148) (h : fX10_lock σ = some (r, σ')) : sm σ σ' x y := by
  unfold fX10_lock at h
  have f := sm_r σ x y
  obtain ⟨x1, ex1, h⟩ := bnd_nm h
  obtain ⟨g2, h⟩ := gg_some h
  obtain ⟨x3, σ4, y5, h⟩ := bd_some h
  have f := sm_t f (wX8_firstLock nh_144_4 nh_144_5 nh_145 nh_146 nh_147 nh_148 y5)
  obtain ⟨-, rfl⟩ := so_inj h
  exact f
set_option maxRecDepth 10000 in
theorem wX10_isLength_17 {x y : Nat} {p1 : Int32} {r : Int32} {σ' : gS} {s0 : Int32} {σ : gS} (h : fX10_isLength_17 p1 s0 σ = some (r, σ')) : sm σ σ' x y := by
  unfold fX10_isLength_17 at h
  have f := sm_r σ x y
  obtain ⟨g1, h⟩ := gg_some h
  obtain ⟨-, rfl⟩ := so_inj h
  exact f
set_option maxRecDepth 10000 in
theorem wX10_isLength_16 {x y : Nat} {p1 : Int32} {r : Int32} {σ' : gS} {σ : gS} (h : fX10_isLength_16 p1 σ = some (r, σ')) : sm σ σ' x y := by
  unfold fX10_isLength_16 at h
  have f := sm_r σ x y
  exact sm_t f (wX10_isLength_17 h)
set_option maxRecDepth 10000 in
theorem wX10_isLength {x y : Nat} {p1 : Int32} {r : Int32} {σ' : gS} {σ : gS} (h : fX10_isLength p1 σ = some (r, σ')) : sm σ σ' x y := by
  unfold fX10_isLength at h
  have f := sm_r σ x y
  rcases ite_or h with ⟨_, h⟩ | ⟨_, h⟩
  · exact sm_t f (wX10_isLength_16 h)
  · rcases ite_or h with ⟨_, h⟩ | ⟨_, h⟩
    · exact sm_t f (wX10_isLength_16 h)
    · exact sm_t f (wX10_isLength_17 h)
set_option maxRecDepth 10000 in
theorem wJ9_max_7cf53_10 {x y : Nat} {p1 : Int32} {p2 : Int32} {r : Int32} {σ' : gS} {s0 : Int32} {σ : gS} (h : fJ9_max_7cf53_10 p1 p2 s0 σ = some (r, σ')) : sm σ σ' x y := by
  unfold fJ9_max_7cf53_10 at h
  have f := sm_r σ x y
  obtain ⟨-, rfl⟩ := so_inj h
  exact f
set_option maxRecDepth 10000 in
theorem wJ9_max_7cf53 {x y : Nat} {p1 : Int32} {p2 : Int32} {r : Int32} {σ' : gS} {σ : gS} (h : fJ9_max_7cf53 p1 p2 σ = some (r, σ')) : sm σ σ' x y := by
  unfold fJ9_max_7cf53 at h
  have f := sm_r σ x y
  rcases ite_or h with ⟨_, h⟩ | ⟨_, h⟩
  · exact sm_t f (wJ9_max_7cf53_10 h)
  · exact sm_t f (wJ9_max_7cf53_10 h)
set_option maxRecDepth 10000 in
theorem wJ9_min_7cf53_10 {x y : Nat} {p1 : Int32} {p2 : Int32} {r : Int32} {σ' : gS} {s0 : Int32} {σ : gS} (h : fJ9_min_7cf53_10 p1 p2 s0 σ = some (r, σ')) : sm σ σ' x y := by
  unfold fJ9_min_7cf53_10 at h
  have f := sm_r σ x y
  obtain ⟨-, rfl⟩ := so_inj h
  exact f
set_option maxRecDepth 10000 in
theorem wJ9_min_7cf53 {x y : Nat} {p1 : Int32} {p2 : Int32} {r : Int32} {σ' : gS} {σ : gS} (h : fJ9_min_7cf53 p1 p2 σ = some (r, σ')) : sm σ σ' x y := by
  unfold fJ9_min_7cf53 at h
  have f := sm_r σ x y
  rcases ite_or h with ⟨_, h⟩ | ⟨_, h⟩
  · exact sm_t f (wJ9_min_7cf53_10 h)
  · exact sm_t f (wJ9_min_7cf53_10 h)
set_option maxRecDepth 10000 in
theorem wX10_fourBars_29 {x y : Nat} {p1 : Int32} {p2 : Int32} {p3 : Int32} {p4 : Int32} {r : Int32} {σ' : gS} {σ : gS} (h : fX10_fourBars_29 p1 p2 p3 p4 σ = some (r, σ')) : sm σ σ' x y := by
  unfold fX10_fourBars_29 at h
  have f := sm_r σ x y
  obtain ⟨-, rfl⟩ := so_inj h
  exact f
set_option maxRecDepth 10000 in
theorem wX10_fourBars_121 {x y : Nat} {p1 : Int32} {p2 : Int32} {p3 : Int32} {p4 : Int32} {r : Int32} {σ' : gS} {s0 : Int32} {σ : gS} (h : fX10_fourBars_121 p1 p2 p3 p4 s0 σ = some (r, σ')) : sm σ σ' x y := by
  unfold fX10_fourBars_121 at h
  have f := sm_r σ x y
  obtain ⟨-, rfl⟩ := so_inj h
  exact f
set_option maxRecDepth 10000 in
theorem wX10_fourBars_150 {x y : Nat} {p1 : Int32} {p2 : Int32} {p3 : Int32} {p4 : Int32} {r : Int32} {σ' : gS} {s0 : Int32} {σ : gS} (h : fX10_fourBars_150 p1 p2 p3 p4 s0 σ = some (r, σ')) : sm σ σ' x y := by
  unfold fX10_fourBars_150 at h
  have f := sm_r σ x y
  obtain ⟨-, rfl⟩ := so_inj h
  exact f
set_option maxRecDepth 10000 in
theorem wX10_fourBars {x y : Nat} {p1 : Int32} {p2 : Int32} {p3 : Int32} {p4 : Int32} {r : Int32} {σ' : gS} {σ : gS} (h : fX10_fourBars p1 p2 p3 p4 σ = some (r, σ')) : sm σ σ' x y := by
  unfold fX10_fourBars at h
  have f := sm_r σ x y
  obtain ⟨x1, σ2, y3, h⟩ := bd_some h
  have f := sm_t f (wX10_isLength y3)
  rcases ite_or h with ⟨_, h⟩ | ⟨_, h⟩
  · exact sm_t f (wX10_fourBars_29 h)
  · obtain ⟨x5, σ6, y7, h⟩ := bd_some h
    have f := sm_t f (wX10_isLength y7)
    rcases ite_or h with ⟨_, h⟩ | ⟨_, h⟩
    · exact sm_t f (wX10_fourBars_29 h)
    · obtain ⟨x9, σ10, y11, h⟩ := bd_some h
      have f := sm_t f (wX10_isLength y11)
      rcases ite_or h with ⟨_, h⟩ | ⟨_, h⟩
      · exact sm_t f (wX10_fourBars_29 h)
      · obtain ⟨x13, σ14, y15, h⟩ := bd_some h
        have f := sm_t f (wX10_isLength y15)
        rcases ite_or h with ⟨_, h⟩ | ⟨_, h⟩
        · exact sm_t f (wX10_fourBars_29 h)
        · obtain ⟨x17, ex17, h⟩ := bnd_nm h
          obtain ⟨x18, σ19, y20, h⟩ := bd_some h
          have f := sm_t f (wJ9_max_7cf53 y20)
          obtain ⟨x21, σ22, y23, h⟩ := bd_some h
          have f := sm_t f (wJ9_max_7cf53 y23)
          obtain ⟨x24, σ25, y26, h⟩ := bd_some h
          have f := sm_t f (wJ9_max_7cf53 y26)
          obtain ⟨x27, σ28, y29, h⟩ := bd_some h
          have f := sm_t f (wJ9_min_7cf53 y29)
          obtain ⟨x30, σ31, y32, h⟩ := bd_some h
          have f := sm_t f (wJ9_min_7cf53 y32)
          obtain ⟨x33, σ34, y35, h⟩ := bd_some h
          have f := sm_t f (wJ9_min_7cf53 y35)
          obtain ⟨x36, ex36, h⟩ := bnd_nm h
          rcases ite_or h with ⟨_, h⟩ | ⟨_, h⟩
          · rcases ite_or h with ⟨_, h⟩ | ⟨_, h⟩
            · rcases ite_or h with ⟨_, h⟩ | ⟨_, h⟩
              · obtain ⟨-, rfl⟩ := so_inj h
                exact f
              · rcases ite_or h with ⟨_, h⟩ | ⟨_, h⟩
                · obtain ⟨-, rfl⟩ := so_inj h
                  exact f
                · rcases ite_or h with ⟨_, h⟩ | ⟨_, h⟩
                  · exact sm_t f (wX10_fourBars_150 h)
                  · exact sm_t f (wX10_fourBars_150 h)
            · rcases ite_or h with ⟨_, h⟩ | ⟨_, h⟩
              · exact sm_t f (wX10_fourBars_121 h)
              · exact sm_t f (wX10_fourBars_121 h)
          · obtain ⟨-, rfl⟩ := so_inj h
            exact f
set_option maxRecDepth 10000 in
theorem wX10_found {x y : Nat} {p1 : Int32} {r : Int32} {σ' : gS} {σ : gS} (nh_0_11 : ¬ (x = 0 ∧ y = 11)) (h : fX10_found p1 σ = some (r, σ')) : sm σ σ' x y := by
  unfold fX10_found at h
  have f := sm_r σ x y
  obtain ⟨σ1, eσ1, h⟩ := bnd_nm h
  have f := sm_I f nh_0_11 eσ1
  obtain ⟨-, rfl⟩ := so_inj h
  exact f
set_option maxRecDepth 10000 in
theorem wX10_fine {x y : Nat} {p1 : Int32} {r : Int32} {σ' : gS} {σ : gS} (nh_0_11 : ¬ (x = 0 ∧ y = 11)) (h : fX10_fine p1 σ = some (r, σ')) : sm σ σ' x y := by
  unfold fX10_fine at h
  have f := sm_r σ x y
  obtain ⟨σ1, eσ1, h⟩ := bnd_nm h
  have f := sm_I f nh_0_11 eσ1
  obtain ⟨-, rfl⟩ := so_inj h
  exact f
set_option maxRecDepth 10000 in
theorem wX10_ask_17 {x y : Nat} {p1 : Int32} {p2 : Int32} {r : Int32} {σ' : gS} {σ : gS} (nh_0_11 : ¬ (x = 0 ∧ y = 11)) (nh_149_1 : ¬ (x = 149 ∧ y = 1)) (nh_149_2 : ¬ (x = 149 ∧ y = 2)) (nh_149_3 : ¬ (x = 149 ∧ y = 3)) (nh_149_4 : ¬ (x = 149 ∧ y = 4)) (nh_150 : ¬ x = 150) (h : fX10_ask_17 p1 p2 σ = some (r, σ')) : sm σ σ' x y := by
  unfold fX10_ask_17 at h
  have f := sm_r σ x y
  obtain ⟨-, rfl⟩ := so_inj h
  exact f
set_option maxRecDepth 10000 in
theorem wX10_ask_125 {x y : Nat} {p1 : Int32} {p2 : Int32} {r : Int32} {σ' : gS} {s0 : Int32} {σ : gS} (nh_0_11 : ¬ (x = 0 ∧ y = 11)) (nh_149_1 : ¬ (x = 149 ∧ y = 1)) (nh_149_2 : ¬ (x = 149 ∧ y = 2)) (nh_149_3 : ¬ (x = 149 ∧ y = 3)) (nh_149_4 : ¬ (x = 149 ∧ y = 4)) (nh_150 : ¬ x = 150) (h : fX10_ask_125 p1 p2 s0 σ = some (r, σ')) : sm σ σ' x y := by
  unfold fX10_ask_125 at h
  have f := sm_r σ x y
  obtain ⟨-, rfl⟩ := so_inj h
  exact f
set_option maxRecDepth 10000 in
theorem wX10_ask_102 {x y : Nat} {p1 : Int32} {p2 : Int32} {r : Int32} {σ' : gS} {v3 : Int32} {σ : gS} (nh_0_11 : ¬ (x = 0 ∧ y = 11)) (nh_149_1 : ¬ (x = 149 ∧ y = 1)) (nh_149_2 : ¬ (x = 149 ∧ y = 2)) (nh_149_3 : ¬ (x = 149 ∧ y = 3)) (nh_149_4 : ¬ (x = 149 ∧ y = 4)) (nh_150 : ¬ x = 150) (h : fX10_ask_102 p1 p2 v3 σ = some (r, σ')) : sm σ σ' x y := by
  unfold fX10_ask_102 at h
  have f := sm_r σ x y
  rcases ite_or h with ⟨_, h⟩ | ⟨_, h⟩
  · obtain ⟨x2, σ3, y4, h⟩ := bd_some h
    have f := sm_t f (wX10_fine nh_0_11 y4)
    exact sm_t f (wX10_ask_125 nh_0_11 nh_149_1 nh_149_2 nh_149_3 nh_149_4 nh_150 h)
  · obtain ⟨x5, σ6, y7, h⟩ := bd_some h
    have f := sm_t f (wX10_found nh_0_11 y7)
    exact sm_t f (wX10_ask_125 nh_0_11 nh_149_1 nh_149_2 nh_149_3 nh_149_4 nh_150 h)
set_option maxRecDepth 10000 in
theorem wX10_ask {x y : Nat} {p1 : Int32} {p2 : Int32} {r : Int32} {σ' : gS} {σ : gS} (nh_0_11 : ¬ (x = 0 ∧ y = 11)) (nh_149_1 : ¬ (x = 149 ∧ y = 1)) (nh_149_2 : ¬ (x = 149 ∧ y = 2)) (nh_149_3 : ¬ (x = 149 ∧ y = 3)) (nh_149_4 : ¬ (x = 149 ∧ y = 4)) (nh_150 : ¬ x = 150) (h : fX10_ask p1 p2 σ = some (r, σ')) : sm σ σ' x y := by
  unfold fX10_ask at h
  have f := sm_r σ x y
  obtain ⟨x1, σ2, y3, h⟩ := bd_some h
  have f := sm_t f (wX10_isPart y3)
  rcases ite_or h with ⟨_, h⟩ | ⟨_, h⟩
  · exact sm_t f (wX10_ask_17 nh_0_11 nh_149_1 nh_149_2 nh_149_3 nh_149_4 nh_150 h)
  · rcases ite_or h with ⟨_, h⟩ | ⟨_, h⟩
    · exact sm_t f (wX10_ask_17 nh_0_11 nh_149_1 nh_149_2 nh_149_3 nh_149_4 nh_150 h)
    · rcases ite_or h with ⟨_, h⟩ | ⟨_, h⟩
      · obtain ⟨x7, ex7, h⟩ := bnd_nm h
        obtain ⟨g8, h⟩ := gg_some h
        obtain ⟨g9, h⟩ := gg_some h
        obtain ⟨x10, ex10, h⟩ := bnd_nm h
        obtain ⟨g11, h⟩ := gg_some h
        obtain ⟨x12, σ13, y14, h⟩ := bd_some h
        have f := sm_t f (wX3_sizeOf y14)
        obtain ⟨_, σ15, y16, h⟩ := bd_some h
        have f := sm_t f (wX0_start nh_149_1 nh_149_2 nh_149_3 nh_149_4 y16)
        rcases ite_or h with ⟨_, h⟩ | ⟨_, h⟩
        · obtain ⟨x18, σ19, y20, h⟩ := bd_some h
          have f := sm_t f (wX0_freedom nh_149_1 nh_150 y20)
          exact sm_t f (wX10_ask_102 nh_0_11 nh_149_1 nh_149_2 nh_149_3 nh_149_4 nh_150 h)
        ·
          rcases ite_or h with ⟨_, h⟩ | ⟨_, h⟩
          · obtain ⟨x22, σ23, y24, h⟩ := bd_some h
            have f := sm_t f (wX0_mass nh_149_1 nh_150 y24)
            exact sm_t f (wX10_ask_102 nh_0_11 nh_149_1 nh_149_2 nh_149_3 nh_149_4 nh_150 h)
          ·
            obtain ⟨x25, σ26, y27, h⟩ := bd_some h
            have f := sm_t f (wX0_loss nh_149_1 nh_149_2 nh_150 y27)
            exact sm_t f (wX10_ask_102 nh_0_11 nh_149_1 nh_149_2 nh_149_3 nh_149_4 nh_150 h)
      · exact sm_t f (wX10_ask_17 nh_0_11 nh_149_1 nh_149_2 nh_149_3 nh_149_4 nh_150 h)
set_option maxRecDepth 10000 in
theorem wX10_trail_29 {x y : Nat} {p1 : Int32} {r : Int32} {σ' : gS} {s0 : Int32} {σ : gS} (h : fX10_trail_29 p1 s0 σ = some (r, σ')) : sm σ σ' x y := by
  unfold fX10_trail_29 at h
  have f := sm_r σ x y
  obtain ⟨-, rfl⟩ := so_inj h
  exact f
set_option maxRecDepth 10000 in
theorem wX10_trail_27 {x y : Nat} {p1 : Int32} {r : Int32} {σ' : gS} {σ : gS} (h : fX10_trail_27 p1 σ = some (r, σ')) : sm σ σ' x y := by
  unfold fX10_trail_27 at h
  have f := sm_r σ x y
  exact sm_t f (wX10_trail_29 h)
set_option maxRecDepth 10000 in
theorem wX10_trail {x y : Nat} {p1 : Int32} {r : Int32} {σ' : gS} {σ : gS} (h : fX10_trail p1 σ = some (r, σ')) : sm σ σ' x y := by
  unfold fX10_trail at h
  have f := sm_r σ x y
  rcases ite_or h with ⟨_, h⟩ | ⟨_, h⟩
  · exact sm_t f (wX10_trail_27 h)
  · rcases ite_or h with ⟨_, h⟩ | ⟨_, h⟩
    · exact sm_t f (wX10_trail_27 h)
    · obtain ⟨g3, h⟩ := gg_some h
      exact sm_t f (wX10_trail_29 h)
set_option maxRecDepth 10000 in
theorem wX10_isKind_15 {x y : Nat} {p1 : Int32} {r : Int32} {σ' : gS} {s0 : Int32} {σ : gS} (h : fX10_isKind_15 p1 s0 σ = some (r, σ')) : sm σ σ' x y := by
  unfold fX10_isKind_15 at h
  have f := sm_r σ x y
  obtain ⟨g1, h⟩ := gg_some h
  obtain ⟨-, rfl⟩ := so_inj h
  exact f
set_option maxRecDepth 10000 in
theorem wX10_isKind_14 {x y : Nat} {p1 : Int32} {r : Int32} {σ' : gS} {σ : gS} (h : fX10_isKind_14 p1 σ = some (r, σ')) : sm σ σ' x y := by
  unfold fX10_isKind_14 at h
  have f := sm_r σ x y
  exact sm_t f (wX10_isKind_15 h)
set_option maxRecDepth 10000 in
theorem wX10_isKind {x y : Nat} {p1 : Int32} {r : Int32} {σ' : gS} {σ : gS} (h : fX10_isKind p1 σ = some (r, σ')) : sm σ σ' x y := by
  unfold fX10_isKind at h
  have f := sm_r σ x y
  rcases ite_or h with ⟨_, h⟩ | ⟨_, h⟩
  · exact sm_t f (wX10_isKind_14 h)
  · rcases ite_or h with ⟨_, h⟩ | ⟨_, h⟩
    · exact sm_t f (wX10_isKind_14 h)
    · exact sm_t f (wX10_isKind_15 h)
set_option maxRecDepth 10000 in
theorem wX10_is_15 {x y : Nat} {p1 : Int32} {p2 : Int32} {r : Int32} {σ' : gS} {σ : gS} (h : fX10_is_15 p1 p2 σ = some (r, σ')) : sm σ σ' x y := by
  unfold fX10_is_15 at h
  have f := sm_r σ x y
  obtain ⟨-, rfl⟩ := so_inj h
  exact f
set_option maxRecDepth 10000 in
theorem wX10_is_35 {x y : Nat} {p1 : Int32} {p2 : Int32} {r : Int32} {σ' : gS} {s0 : Int32} {σ : gS} (h : fX10_is_35 p1 p2 s0 σ = some (r, σ')) : sm σ σ' x y := by
  unfold fX10_is_35 at h
  have f := sm_r σ x y
  obtain ⟨-, rfl⟩ := so_inj h
  exact f
set_option maxRecDepth 10000 in
theorem wX10_is {x y : Nat} {p1 : Int32} {p2 : Int32} {r : Int32} {σ' : gS} {σ : gS} (h : fX10_is p1 p2 σ = some (r, σ')) : sm σ σ' x y := by
  unfold fX10_is at h
  have f := sm_r σ x y
  obtain ⟨x1, σ2, y3, h⟩ := bd_some h
  have f := sm_t f (wX10_isPart y3)
  rcases ite_or h with ⟨_, h⟩ | ⟨_, h⟩
  · exact sm_t f (wX10_is_15 h)
  · obtain ⟨x5, σ6, y7, h⟩ := bd_some h
    have f := sm_t f (wX10_isKind y7)
    rcases ite_or h with ⟨_, h⟩ | ⟨_, h⟩
    · exact sm_t f (wX10_is_15 h)
    · obtain ⟨x9, ex9, h⟩ := bnd_nm h
      obtain ⟨g10, h⟩ := gg_some h
      obtain ⟨x11, σ12, y13, h⟩ := bd_some h
      have f := sm_t f (wX3_isOfKind y13)
      rcases ite_or h with ⟨_, h⟩ | ⟨_, h⟩
      · exact sm_t f (wX10_is_35 h)
      · exact sm_t f (wX10_is_35 h)
set_option maxRecDepth 10000 in
theorem wX10_as_15 {x y : Nat} {p1 : Int32} {p2 : Int32} {r : Int32} {σ' : gS} {σ : gS} (nh_0_11 : ¬ (x = 0 ∧ y = 11)) (h : fX10_as_15 p1 p2 σ = some (r, σ')) : sm σ σ' x y := by
  unfold fX10_as_15 at h
  have f := sm_r σ x y
  obtain ⟨-, rfl⟩ := so_inj h
  exact f
set_option maxRecDepth 10000 in
theorem wX10_as_51 {x y : Nat} {p1 : Int32} {p2 : Int32} {r : Int32} {σ' : gS} {s0 : Int32} {σ : gS} (nh_0_11 : ¬ (x = 0 ∧ y = 11)) (h : fX10_as_51 p1 p2 s0 σ = some (r, σ')) : sm σ σ' x y := by
  unfold fX10_as_51 at h
  have f := sm_r σ x y
  obtain ⟨-, rfl⟩ := so_inj h
  exact f
set_option maxRecDepth 10000 in
theorem wX10_as {x y : Nat} {p1 : Int32} {p2 : Int32} {r : Int32} {σ' : gS} {σ : gS} (nh_0_11 : ¬ (x = 0 ∧ y = 11)) (h : fX10_as p1 p2 σ = some (r, σ')) : sm σ σ' x y := by
  unfold fX10_as at h
  have f := sm_r σ x y
  obtain ⟨x1, σ2, y3, h⟩ := bd_some h
  have f := sm_t f (wX10_isPart y3)
  rcases ite_or h with ⟨_, h⟩ | ⟨_, h⟩
  · exact sm_t f (wX10_as_15 nh_0_11 h)
  · obtain ⟨x5, σ6, y7, h⟩ := bd_some h
    have f := sm_t f (wX10_isKind y7)
    rcases ite_or h with ⟨_, h⟩ | ⟨_, h⟩
    · exact sm_t f (wX10_as_15 nh_0_11 h)
    · obtain ⟨x9, ex9, h⟩ := bnd_nm h
      obtain ⟨g10, h⟩ := gg_some h
      obtain ⟨x11, σ12, y13, h⟩ := bd_some h
      have f := sm_t f (wX3_isOfKind y13)
      rcases ite_or h with ⟨_, h⟩ | ⟨_, h⟩
      · obtain ⟨x15, σ16, y17, h⟩ := bd_some h
        have f := sm_t f (wX10_found nh_0_11 y17)
        exact sm_t f (wX10_as_51 nh_0_11 h)
      · obtain ⟨x18, ex18, h⟩ := bnd_nm h
        obtain ⟨g19, h⟩ := gg_some h
        obtain ⟨g20, h⟩ := gg_some h
        obtain ⟨x21, σ22, y23, h⟩ := bd_some h
        have f := sm_t f (wX10_fine nh_0_11 y23)
        exact sm_t f (wX10_as_51 nh_0_11 h)
set_option maxRecDepth 10000 in
theorem wX10_isRow_15 {x y : Nat} {p1 : Int32} {r : Int32} {σ' : gS} {s0 : Int32} {σ : gS} (h : fX10_isRow_15 p1 s0 σ = some (r, σ')) : sm σ σ' x y := by
  unfold fX10_isRow_15 at h
  have f := sm_r σ x y
  obtain ⟨g1, h⟩ := gg_some h
  obtain ⟨-, rfl⟩ := so_inj h
  exact f
set_option maxRecDepth 10000 in
theorem wX10_isRow_14 {x y : Nat} {p1 : Int32} {r : Int32} {σ' : gS} {σ : gS} (h : fX10_isRow_14 p1 σ = some (r, σ')) : sm σ σ' x y := by
  unfold fX10_isRow_14 at h
  have f := sm_r σ x y
  exact sm_t f (wX10_isRow_15 h)
set_option maxRecDepth 10000 in
theorem wX10_isRow {x y : Nat} {p1 : Int32} {r : Int32} {σ' : gS} {σ : gS} (h : fX10_isRow p1 σ = some (r, σ')) : sm σ σ' x y := by
  unfold fX10_isRow at h
  have f := sm_r σ x y
  rcases ite_or h with ⟨_, h⟩ | ⟨_, h⟩
  · exact sm_t f (wX10_isRow_14 h)
  · rcases ite_or h with ⟨_, h⟩ | ⟨_, h⟩
    · exact sm_t f (wX10_isRow_14 h)
    · exact sm_t f (wX10_isRow_15 h)
set_option maxRecDepth 10000 in
theorem wX10_lay_23 {x y : Nat} {p1 : Int32} {p2 : Int32} {p3 : Int32} {r : Int32} {σ' : gS} {σ : gS} (nh_0_11 : ¬ (x = 0 ∧ y = 11)) (nr_152_167 : ¬ (152 ≤ x ∧ x ≤ 167)) (h : fX10_lay_23 p1 p2 p3 σ = some (r, σ')) : sm σ σ' x y := by
  unfold fX10_lay_23 at h
  have f := sm_r σ x y
  obtain ⟨-, rfl⟩ := so_inj h
  exact f
set_option maxRecDepth 10000 in
theorem wX10_lay {x y : Nat} {p1 : Int32} {p2 : Int32} {p3 : Int32} {r : Int32} {σ' : gS} {σ : gS} (nh_0_11 : ¬ (x = 0 ∧ y = 11)) (nr_152_167 : ¬ (152 ≤ x ∧ x ≤ 167)) (h : fX10_lay p1 p2 p3 σ = some (r, σ')) : sm σ σ' x y := by
  unfold fX10_lay at h
  have f := sm_r σ x y
  obtain ⟨x1, σ2, y3, h⟩ := bd_some h
  have f := sm_t f (wX10_isRow y3)
  rcases ite_or h with ⟨_, h⟩ | ⟨_, h⟩
  · exact sm_t f (wX10_lay_23 nh_0_11 nr_152_167 h)
  · rcases ite_or h with ⟨_, h⟩ | ⟨_, h⟩
    · exact sm_t f (wX10_lay_23 nh_0_11 nr_152_167 h)
    · rcases ite_or h with ⟨_, h⟩ | ⟨_, h⟩
      · exact sm_t f (wX10_lay_23 nh_0_11 nr_152_167 h)
      · rcases ite_or h with ⟨_, h⟩ | ⟨_, h⟩
        · rcases ite_or h with ⟨_, h⟩ | ⟨_, h⟩
          · obtain ⟨g9, h⟩ := gg_some h
            obtain ⟨x10, ex10, h⟩ := bnd_nm h
            have bq11 : gRo x10 := ex10 ▸ gRo_i (vp_lt g9)
            obtain ⟨_, σ12, y13, h⟩ := bd_some h
            have f := sm_t f (wX7_renew (fun q => (fun q => nr_152_167 (rg_ro bq11 q)) q.1) (fun q => (fun q => nr_152_167 (rg_ro bq11 q)) q.1) (fun q => (fun q => nr_152_167 (rg_ro bq11 q)) q.1) (fun q => nr_152_167 (rg_ro1 bq11 q)) y13)
            obtain ⟨x14, σ15, y16, h⟩ := bd_some h
            have f := sm_t f (wX10_fine nh_0_11 y16)
            obtain ⟨-, rfl⟩ := so_inj h
            exact f
          · obtain ⟨x17, σ18, y19, h⟩ := bd_some h
            have f := sm_t f (wX10_found nh_0_11 y19)
            obtain ⟨-, rfl⟩ := so_inj h
            exact f
        · exact sm_t f (wX10_lay_23 nh_0_11 nr_152_167 h)
set_option maxRecDepth 10000 in
theorem wX10_drop {x y : Nat} {p1 : Int32} {r : Int32} {σ' : gS} {σ : gS} (nh_0_11 : ¬ (x = 0 ∧ y = 11)) (nr_152_167 : ¬ (152 ≤ x ∧ x ≤ 167)) (h : fX10_drop p1 σ = some (r, σ')) : sm σ σ' x y := by
  unfold fX10_drop at h
  have f := sm_r σ x y
  obtain ⟨x1, σ2, y3, h⟩ := bd_some h
  have f := sm_t f (wX10_isRow y3)
  rcases ite_or h with ⟨_, h⟩ | ⟨_, h⟩
  · obtain ⟨-, rfl⟩ := so_inj h
    exact f
  · obtain ⟨g5, h⟩ := gg_some h
    obtain ⟨x6, ex6, h⟩ := bnd_nm h
    have bq7 : gRo x6 := ex6 ▸ gRo_i (vp_lt g5)
    rcases ite_or h with ⟨_, h⟩ | ⟨_, h⟩
    · obtain ⟨x19, σ20, y21, h⟩ := bd_some h
      have f := sm_t f (wX10_found nh_0_11 y21)
      obtain ⟨-, rfl⟩ := so_inj h
      exact f
    · obtain ⟨g9, h⟩ := gg_some h
      obtain ⟨x10, ex10, h⟩ := bnd_nm h
      have bq11 : gRo x10 := ex10 ▸ gRo_i (vp_lt g9)
      obtain ⟨σ12, eσ12, h⟩ := bnd_nm h
      have f := sm_I f (fun q => (fun q => nr_152_167 (rg_ro bq11 q)) q.1) eσ12
      obtain ⟨g13, h⟩ := gg_some h
      obtain ⟨x14, ex14, h⟩ := bnd_nm h
      have bq15 : gRo x14 := ex14 ▸ gRo_i (vp_lt g13)
      obtain ⟨x16, σ17, y18, h⟩ := bd_some h
      have f := sm_t f (wX10_fine nh_0_11 y18)
      obtain ⟨-, rfl⟩ := so_inj h
      exact f
set_option maxRecDepth 10000 in
theorem wX10_refusalAt_58 {x y : Nat} {p1 : Int32} {p2 : Int32} {r : Int32} {σ' : gS} {s0 : Int32} {σ : gS} (nh_0_11 : ¬ (x = 0 ∧ y = 11)) (h : fX10_refusalAt_58 p1 p2 s0 σ = some (r, σ')) : sm σ σ' x y := by
  unfold fX10_refusalAt_58 at h
  have f := sm_r σ x y
  obtain ⟨-, rfl⟩ := so_inj h
  exact f
set_option maxRecDepth 10000 in
theorem wX10_refusalAt_45 {x y : Nat} {p1 : Int32} {p2 : Int32} {r : Int32} {σ' : gS} {σ : gS} (nh_0_11 : ¬ (x = 0 ∧ y = 11)) (h : fX10_refusalAt_45 p1 p2 σ = some (r, σ')) : sm σ σ' x y := by
  unfold fX10_refusalAt_45 at h
  have f := sm_r σ x y
  obtain ⟨x1, σ2, y3, h⟩ := bd_some h
  have f := sm_t f (wX10_found nh_0_11 y3)
  exact sm_t f (wX10_refusalAt_58 nh_0_11 h)
set_option maxRecDepth 10000 in
theorem wX10_refusalAt {x y : Nat} {p1 : Int32} {p2 : Int32} {r : Int32} {σ' : gS} {σ : gS} (nh_0_11 : ¬ (x = 0 ∧ y = 11)) (h : fX10_refusalAt p1 p2 σ = some (r, σ')) : sm σ σ' x y := by
  unfold fX10_refusalAt at h
  have f := sm_r σ x y
  obtain ⟨x1, σ2, y3, h⟩ := bd_some h
  have f := sm_t f (wX10_isRow y3)
  rcases ite_or h with ⟨_, h⟩ | ⟨_, h⟩
  · obtain ⟨-, rfl⟩ := so_inj h
    exact f
  · obtain ⟨g5, h⟩ := gg_some h
    obtain ⟨x6, ex6, h⟩ := bnd_nm h
    have bq7 : gRo x6 := ex6 ▸ gRo_i (vp_lt g5)
    rcases ite_or h with ⟨_, h⟩ | ⟨_, h⟩
    · obtain ⟨x17, σ18, y19, h⟩ := bd_some h
      have f := sm_t f (wX10_found nh_0_11 y19)
      obtain ⟨-, rfl⟩ := so_inj h
      exact f
    · rcases ite_or h with ⟨_, h⟩ | ⟨_, h⟩
      · exact sm_t f (wX10_refusalAt_45 nh_0_11 h)
      · obtain ⟨g10, h⟩ := gg_some h
        obtain ⟨x11, ex11, h⟩ := bnd_nm h
        have bq12 : gRo x11 := ex11 ▸ gRo_i (vp_lt g10)
        rcases ite_or h with ⟨_, h⟩ | ⟨_, h⟩
        · obtain ⟨x14, σ15, y16, h⟩ := bd_some h
          have f := sm_t f (wX10_fine nh_0_11 y16)
          exact sm_t f (wX10_refusalAt_58 nh_0_11 h)
        · exact sm_t f (wX10_refusalAt_45 nh_0_11 h)
set_option maxRecDepth 10000 in
theorem wX10_put_30 {x y : Nat} {p1 : Int32} {p2 : Int32} {p3 : Int64} {r : Int64} {σ' : gS} {s0 : Int64} {σ : gS} (nh_0_11 : ¬ (x = 0 ∧ y = 11)) (nr_152_167 : ¬ (152 ≤ x ∧ x ≤ 167)) (h : fX10_put_30 p1 p2 p3 s0 σ = some (r, σ')) : sm σ σ' x y := by
  unfold fX10_put_30 at h
  have f := sm_r σ x y
  obtain ⟨-, rfl⟩ := so_inj h
  exact f
set_option maxRecDepth 10000 in
theorem wX10_put {x y : Nat} {p1 : Int32} {p2 : Int32} {p3 : Int64} {r : Int64} {σ' : gS} {σ : gS} (nh_0_11 : ¬ (x = 0 ∧ y = 11)) (nr_152_167 : ¬ (152 ≤ x ∧ x ≤ 167)) (h : fX10_put p1 p2 p3 σ = some (r, σ')) : sm σ σ' x y := by
  unfold fX10_put at h
  have f := sm_r σ x y
  obtain ⟨x1, σ2, y3, h⟩ := bd_some h
  have f := sm_t f (wX10_refusalAt nh_0_11 y3)
  rcases ite_or h with ⟨_, h⟩ | ⟨_, h⟩
  · obtain ⟨g5, h⟩ := gg_some h
    obtain ⟨x6, ex6, h⟩ := bnd_nm h
    have bq7 : gRo x6 := ex6 ▸ gRo_i (vp_lt g5)
    obtain ⟨x8, σ9, y10, h⟩ := bd_some h
    have f := sm_t f (wX7_store (fun q => nr_152_167 (rg_ro1 bq7 q)) y10)
    exact sm_t f (wX10_put_30 nh_0_11 nr_152_167 h)
  · exact sm_t f (wX10_put_30 nh_0_11 nr_152_167 h)
set_option maxRecDepth 10000 in
theorem wX10_get_27 {x y : Nat} {p1 : Int32} {p2 : Int32} {r : Int64} {σ' : gS} {s0 : Int64} {σ : gS} (nh_0_11 : ¬ (x = 0 ∧ y = 11)) (h : fX10_get_27 p1 p2 s0 σ = some (r, σ')) : sm σ σ' x y := by
  unfold fX10_get_27 at h
  have f := sm_r σ x y
  obtain ⟨-, rfl⟩ := so_inj h
  exact f
set_option maxRecDepth 10000 in
theorem wX10_get {x y : Nat} {p1 : Int32} {p2 : Int32} {r : Int64} {σ' : gS} {σ : gS} (nh_0_11 : ¬ (x = 0 ∧ y = 11)) (h : fX10_get p1 p2 σ = some (r, σ')) : sm σ σ' x y := by
  unfold fX10_get at h
  have f := sm_r σ x y
  obtain ⟨x1, σ2, y3, h⟩ := bd_some h
  have f := sm_t f (wX10_refusalAt nh_0_11 y3)
  rcases ite_or h with ⟨_, h⟩ | ⟨_, h⟩
  · obtain ⟨g5, h⟩ := gg_some h
    obtain ⟨x6, ex6, h⟩ := bnd_nm h
    have bq7 : gRo x6 := ex6 ▸ gRo_i (vp_lt g5)
    obtain ⟨g8, h⟩ := gg_some h
    exact sm_t f (wX10_get_27 nh_0_11 h)
  · exact sm_t f (wX10_get_27 nh_0_11 h)
set_option maxRecDepth 10000 in
theorem wX10_move_14 {x y : Nat} {p1 : Int32} {p2 : Int32} {p3 : Int32} {p4 : Int32} {p5 : Int32} {r : Int32} {σ' : gS} {σ : gS} (nh_0_11 : ¬ (x = 0 ∧ y = 11)) (nr_152_167 : ¬ (152 ≤ x ∧ x ≤ 167)) (h : fX10_move_14 p1 p2 p3 p4 p5 σ = some (r, σ')) : sm σ σ' x y := by
  unfold fX10_move_14 at h
  have f := sm_r σ x y
  obtain ⟨-, rfl⟩ := so_inj h
  exact f
set_option maxRecDepth 10000 in
theorem wX10_move_49 {x y : Nat} {p1 : Int32} {p2 : Int32} {p3 : Int32} {p4 : Int32} {p5 : Int32} {r : Int32} {σ' : gS} {σ : gS} (nh_0_11 : ¬ (x = 0 ∧ y = 11)) (nr_152_167 : ¬ (152 ≤ x ∧ x ≤ 167)) (h : fX10_move_49 p1 p2 p3 p4 p5 σ = some (r, σ')) : sm σ σ' x y := by
  unfold fX10_move_49 at h
  have f := sm_r σ x y
  obtain ⟨x1, σ2, y3, h⟩ := bd_some h
  have f := sm_t f (wX10_found nh_0_11 y3)
  obtain ⟨-, rfl⟩ := so_inj h
  exact f
set_option maxRecDepth 10000 in
theorem wX10_move_98 {x y : Nat} {p1 : Int32} {p2 : Int32} {p3 : Int32} {p4 : Int32} {p5 : Int32} {r : Int32} {σ' : gS} {σ : gS} (nh_0_11 : ¬ (x = 0 ∧ y = 11)) (nr_152_167 : ¬ (152 ≤ x ∧ x ≤ 167)) (h : fX10_move_98 p1 p2 p3 p4 p5 σ = some (r, σ')) : sm σ σ' x y := by
  unfold fX10_move_98 at h
  have f := sm_r σ x y
  obtain ⟨x1, σ2, y3, h⟩ := bd_some h
  have f := sm_t f (wX10_found nh_0_11 y3)
  obtain ⟨-, rfl⟩ := so_inj h
  exact f
set_option maxRecDepth 10000 in
theorem wX10_move {x y : Nat} {p1 : Int32} {p2 : Int32} {p3 : Int32} {p4 : Int32} {p5 : Int32} {r : Int32} {σ' : gS} {σ : gS} (nh_0_11 : ¬ (x = 0 ∧ y = 11)) (nr_152_167 : ¬ (152 ≤ x ∧ x ≤ 167)) (h : fX10_move p1 p2 p3 p4 p5 σ = some (r, σ')) : sm σ σ' x y := by
  unfold fX10_move at h
  have f := sm_r σ x y
  obtain ⟨x1, σ2, y3, h⟩ := bd_some h
  have f := sm_t f (wX10_isRow y3)
  rcases ite_or h with ⟨_, h⟩ | ⟨_, h⟩
  · exact sm_t f (wX10_move_14 nh_0_11 nr_152_167 h)
  · obtain ⟨x5, σ6, y7, h⟩ := bd_some h
    have f := sm_t f (wX10_isRow y7)
    rcases ite_or h with ⟨_, h⟩ | ⟨_, h⟩
    · exact sm_t f (wX10_move_14 nh_0_11 nr_152_167 h)
    · obtain ⟨g9, h⟩ := gg_some h
      obtain ⟨x10, ex10, h⟩ := bnd_nm h
      have bq11 : gRo x10 := ex10 ▸ gRo_i (vp_lt g9)
      obtain ⟨g12, h⟩ := gg_some h
      obtain ⟨x13, ex13, h⟩ := bnd_nm h
      have bq14 : gRo x13 := ex13 ▸ gRo_i (vp_lt g12)
      rcases ite_or h with ⟨_, h⟩ | ⟨_, h⟩
      · exact sm_t f (wX10_move_49 nh_0_11 nr_152_167 h)
      · rcases ite_or h with ⟨_, h⟩ | ⟨_, h⟩
        · exact sm_t f (wX10_move_49 nh_0_11 nr_152_167 h)
        · rcases ite_or h with ⟨_, h⟩ | ⟨_, h⟩
          · obtain ⟨x18, σ19, y20, h⟩ := bd_some h
            have f := sm_t f (wX7_holds y20)
            rcases ite_or h with ⟨_, h⟩ | ⟨_, h⟩
            · exact sm_t f (wX10_move_98 nh_0_11 nr_152_167 h)
            · obtain ⟨x22, σ23, y24, h⟩ := bd_some h
              have f := sm_t f (wX7_holds y24)
              rcases ite_or h with ⟨_, h⟩ | ⟨_, h⟩
              · exact sm_t f (wX10_move_98 nh_0_11 nr_152_167 h)
              · obtain ⟨g26, h⟩ := gg_some h
                obtain ⟨σ27, eσ27, h⟩ := bnd_nm h
                have f := sm_cp f (fun q => (fun q => nr_152_167 (rg_ro1 bq14 q)) q.1) eσ27
                obtain ⟨x28, σ29, y30, h⟩ := bd_some h
                have f := sm_t f (wX10_fine nh_0_11 y30)
                obtain ⟨-, rfl⟩ := so_inj h
                exact f
          · obtain ⟨x31, σ32, y33, h⟩ := bd_some h
            have f := sm_t f (wX10_found nh_0_11 y33)
            obtain ⟨-, rfl⟩ := so_inj h
            exact f
set_option maxRecDepth 10000 in
theorem wX10_keep_14 {x y : Nat} {p1 : Int32} {p2 : Int32} {r : Int32} {σ' : gS} {σ : gS} (nh_0_11 : ¬ (x = 0 ∧ y = 11)) (nr_152_167 : ¬ (152 ≤ x ∧ x ≤ 167)) (h : fX10_keep_14 p1 p2 σ = some (r, σ')) : sm σ σ' x y := by
  unfold fX10_keep_14 at h
  have f := sm_r σ x y
  obtain ⟨-, rfl⟩ := so_inj h
  exact f
set_option maxRecDepth 10000 in
theorem wX10_keep_113 {x y : Nat} {p1 : Int32} {p2 : Int32} {k77 : Nat → Int32 → Int32 → gS → Option (Int32 × gS)} {r : Int32} {σ' : gS} {v3 : Nat} {v4 : Int32} {v5 : Int32} {s0 : Nat} {s1 : Int32} {s2 : Int64} {σ : gS} (hk77 : ∀ (v3 : Nat) (v4 : Int32) (v5 : Int32) (σ : gS), k77 v3 v4 v5 σ = some (r, σ') → sm σ σ' x y) (nh_0_11 : ¬ (x = 0 ∧ y = 11)) (nr_152_167 : ¬ (152 ≤ x ∧ x ≤ 167)) (h : fX10_keep_113 p1 p2 k77 v3 v4 v5 s0 s1 s2 σ = some (r, σ')) : sm σ σ' x y := by
  unfold fX10_keep_113 at h
  have f := sm_r σ x y
  obtain ⟨g1, h⟩ := gg_some h
  obtain ⟨x2, σ3, y4, h⟩ := bd_some h
  have f := sm_t f (wX7_store (fun q => nr_152_167 (rg_ro1 g1 q)) y4)
  obtain ⟨x5, ex5, h⟩ := bnd_nm h
  exact sm_t f (hk77 v3 v4 x5 σ3 h)
set_option maxRecDepth 10000 in
theorem wX10_keep_77 {x y : Nat} {p1 : Int32} {p2 : Int32} {r : Int32} {σ' : gS} (nh_0_11 : ¬ (x = 0 ∧ y = 11)) (nr_152_167 : ¬ (152 ≤ x ∧ x ≤ 167)) : ∀ (n : Nat) (v3 : Nat) (v4 : Int32) (v5 : Int32) (σ : gS), fX10_keep_77 p1 p2 n v3 v4 v5 σ = some (r, σ') → sm σ σ' x y := by
  intro n
  induction n with
  | zero => intro v3 v4 v5 σ h; exact absurd (show none = some (r, σ') from h) (by intro q; cases q)
  | succ n ih =>
  intro v3 v4 v5 σ h
  unfold fX10_keep_77 at h
  have f := sm_r σ x y
  rcases ite_or h with ⟨_, h⟩ | ⟨_, h⟩
  · obtain ⟨x2, σ3, y4, h⟩ := bd_some h
    have f := sm_t f (wX10_fine nh_0_11 y4)
    obtain ⟨-, rfl⟩ := so_inj h
    exact f
  · obtain ⟨g5, h⟩ := gg_some h
    obtain ⟨x6, ex6, h⟩ := bnd_nm h
    have bq7 : gRo x6 := ex6 ▸ gRo_i (vp_lt g5)
    obtain ⟨g8, h⟩ := gg_some h
    rcases ite_or h with ⟨_, h⟩ | ⟨_, h⟩
    · exact sm_t f (wX10_keep_113 (fun v3 v4 v5 σ h => ih v3 v4 v5 σ h) nh_0_11 nr_152_167 h)
    · obtain ⟨g10, h⟩ := gg_some h
      obtain ⟨g11, h⟩ := gg_some h
      exact sm_t f (wX10_keep_113 (fun v3 v4 v5 σ h => ih v3 v4 v5 σ h) nh_0_11 nr_152_167 h)
set_option maxRecDepth 10000 in
theorem wX10_keep {x y : Nat} {p1 : Int32} {p2 : Int32} {r : Int32} {σ' : gS} {σ : gS} (nh_0_11 : ¬ (x = 0 ∧ y = 11)) (nr_152_167 : ¬ (152 ≤ x ∧ x ≤ 167)) (h : fX10_keep p1 p2 σ = some (r, σ')) : sm σ σ' x y := by
  unfold fX10_keep at h
  have f := sm_r σ x y
  obtain ⟨x1, σ2, y3, h⟩ := bd_some h
  have f := sm_t f (wX10_isRow y3)
  rcases ite_or h with ⟨_, h⟩ | ⟨_, h⟩
  · exact sm_t f (wX10_keep_14 nh_0_11 nr_152_167 h)
  · obtain ⟨x5, σ6, y7, h⟩ := bd_some h
    have f := sm_t f (wX10_isAxis y7)
    rcases ite_or h with ⟨_, h⟩ | ⟨_, h⟩
    · exact sm_t f (wX10_keep_14 nh_0_11 nr_152_167 h)
    · rcases ite_or h with ⟨_, h⟩ | ⟨_, h⟩
      · obtain ⟨-, rfl⟩ := so_inj h
        exact f
      · obtain ⟨g10, h⟩ := gg_some h
        obtain ⟨x11, ex11, h⟩ := bnd_nm h
        have bq12 : gRo x11 := ex11 ▸ gRo_i (vp_lt g10)
        rcases ite_or h with ⟨_, h⟩ | ⟨_, h⟩
        · obtain ⟨x23, σ24, y25, h⟩ := bd_some h
          have f := sm_t f (wX10_found nh_0_11 y25)
          obtain ⟨-, rfl⟩ := so_inj h
          exact f
        · obtain ⟨x14, σ15, y16, h⟩ := bd_some h
          have f := sm_t f (wX2_valuesOf y16)
          obtain ⟨g17, h⟩ := gg_some h
          obtain ⟨x18, ex18, h⟩ := bnd_nm h
          have bq19 : gRo x18 := ex18 ▸ gRo_i (vp_lt g17)
          obtain ⟨x20, σ21, y22, h⟩ := bd_some h
          have f := sm_t f (wJ9_min_7cf53 y22)
          exact sm_t f (wX10_keep_77 nh_0_11 nr_152_167 2000 x14 x20 0 σ21 h)
set_option maxRecDepth 10000 in
theorem wX10_rowsThere_25 {x y : Nat} {k4 : Int32 → Int32 → gS → Option (Int32 × gS)} {r : Int32} {σ' : gS} {v1 : Int32} {v2 : Int32} {σ : gS} (hk4 : ∀ (v1 : Int32) (v2 : Int32) (σ : gS), k4 v1 v2 σ = some (r, σ') → sm σ σ' x y) (h : fX10_rowsThere_25 k4 v1 v2 σ = some (r, σ')) : sm σ σ' x y := by
  unfold fX10_rowsThere_25 at h
  have f := sm_r σ x y
  obtain ⟨x1, ex1, h⟩ := bnd_nm h
  exact sm_t f (hk4 v1 x1 σ h)
set_option maxRecDepth 10000 in
theorem wX10_rowsThere_4 {x y : Nat} {r : Int32} {σ' : gS} : ∀ (n : Nat) (v1 : Int32) (v2 : Int32) (σ : gS), fX10_rowsThere_4 n v1 v2 σ = some (r, σ') → sm σ σ' x y := by
  intro n
  induction n with
  | zero => intro v1 v2 σ h; exact absurd (show none = some (r, σ') from h) (by intro q; cases q)
  | succ n ih =>
  intro v1 v2 σ h
  unfold fX10_rowsThere_4 at h
  have f := sm_r σ x y
  rcases ite_or h with ⟨_, h⟩ | ⟨_, h⟩
  · obtain ⟨-, rfl⟩ := so_inj h
    exact f
  · obtain ⟨g2, h⟩ := gg_some h
    obtain ⟨x3, ex3, h⟩ := bnd_nm h
    have bq4 : gRo x3 := ex3 ▸ gRo_i (vp_lt g2)
    rcases ite_or h with ⟨_, h⟩ | ⟨_, h⟩
    · exact sm_t f (wX10_rowsThere_25 (fun v1 v2 σ h => ih v1 v2 σ h) h)
    · obtain ⟨x6, ex6, h⟩ := bnd_nm h
      exact sm_t f (wX10_rowsThere_25 (fun v1 v2 σ h => ih v1 v2 σ h) h)
set_option maxRecDepth 10000 in
theorem wX10_rowsThere {x y : Nat} {r : Int32} {σ' : gS} {σ : gS} (h : fX10_rowsThere σ = some (r, σ')) : sm σ σ' x y := by
  unfold fX10_rowsThere at h
  have f := sm_r σ x y
  exact sm_t f (wX10_rowsThere_4 2000 0 0 σ h)
set_option maxRecDepth 10000 in
theorem wX10_count {x y : Nat} {p1 : Int32} {r : Int32} {σ' : gS} {σ : gS} (h : fX10_count p1 σ = some (r, σ')) : sm σ σ' x y := by
  unfold fX10_count at h
  have f := sm_r σ x y
  rcases ite_or h with ⟨_, h⟩ | ⟨_, h⟩
  · obtain ⟨x2, ex2, h⟩ := bnd_nm h
    obtain ⟨g3, h⟩ := gg_some h
    obtain ⟨x4, σ5, y6, h⟩ := bd_some h
    have f := sm_t f (wX3_size y6)
    obtain ⟨-, rfl⟩ := so_inj h
    exact f
  ·
    rcases ite_or h with ⟨_, h⟩ | ⟨_, h⟩
    · obtain ⟨x8, ex8, h⟩ := bnd_nm h
      obtain ⟨g9, h⟩ := gg_some h
      obtain ⟨x10, σ11, y12, h⟩ := bd_some h
      have f := sm_t f (wX3_grounds y12)
      obtain ⟨-, rfl⟩ := so_inj h
      exact f
    ·
      rcases ite_or h with ⟨_, h⟩ | ⟨_, h⟩
      · obtain ⟨x14, ex14, h⟩ := bnd_nm h
        obtain ⟨g15, h⟩ := gg_some h
        obtain ⟨x16, σ17, y18, h⟩ := bd_some h
        have f := sm_t f (wX3_size y18)
        obtain ⟨-, rfl⟩ := so_inj h
        exact f
      ·
        rcases ite_or h with ⟨_, h⟩ | ⟨_, h⟩
        · obtain ⟨x20, ex20, h⟩ := bnd_nm h
          obtain ⟨g21, h⟩ := gg_some h
          obtain ⟨x22, σ23, y24, h⟩ := bd_some h
          have f := sm_t f (wX3_size y24)
          obtain ⟨-, rfl⟩ := so_inj h
          exact f
        ·
          rcases ite_or h with ⟨_, h⟩ | ⟨_, h⟩
          · obtain ⟨x26, ex26, h⟩ := bnd_nm h
            obtain ⟨g27, h⟩ := gg_some h
            obtain ⟨x28, σ29, y30, h⟩ := bd_some h
            have f := sm_t f (wX3_size y30)
            obtain ⟨-, rfl⟩ := so_inj h
            exact f
          ·
            rcases ite_or h with ⟨_, h⟩ | ⟨_, h⟩
            · obtain ⟨x32, ex32, h⟩ := bnd_nm h
              obtain ⟨g33, h⟩ := gg_some h
              obtain ⟨-, rfl⟩ := so_inj h
              exact f
            ·
              rcases ite_or h with ⟨_, h⟩ | ⟨_, h⟩
              · obtain ⟨-, rfl⟩ := so_inj h
                exact f
              ·
                rcases ite_or h with ⟨_, h⟩ | ⟨_, h⟩
                · obtain ⟨-, rfl⟩ := so_inj h
                  exact f
                ·
                  rcases ite_or h with ⟨_, h⟩ | ⟨_, h⟩
                  · obtain ⟨-, rfl⟩ := so_inj h
                    exact f
                  ·
                    rcases ite_or h with ⟨_, h⟩ | ⟨_, h⟩
                    · obtain ⟨x38, σ39, y40, h⟩ := bd_some h
                      have f := sm_t f (wX10_rowsThere y40)
                      obtain ⟨-, rfl⟩ := so_inj h
                      exact f
                    ·
                      rcases ite_or h with ⟨_, h⟩ | ⟨_, h⟩
                      · obtain ⟨x42, ex42, h⟩ := bnd_nm h
                        obtain ⟨g43, h⟩ := gg_some h
                        obtain ⟨-, rfl⟩ := so_inj h
                        exact f
                      ·
                        rcases ite_or h with ⟨_, h⟩ | ⟨_, h⟩
                        · obtain ⟨x45, ex45, h⟩ := bnd_nm h
                          obtain ⟨g46, h⟩ := gg_some h
                          obtain ⟨-, rfl⟩ := so_inj h
                          exact f
                        ·
                          obtain ⟨-, rfl⟩ := so_inj h
                          exact f
set_option maxRecDepth 10000 in
theorem wX10_status {x y : Nat} {r : Int32} {σ' : gS} {σ : gS} (h : fX10_status σ = some (r, σ')) : sm σ σ' x y := by
  unfold fX10_status at h
  have f := sm_r σ x y
  obtain ⟨-, rfl⟩ := so_inj h
  exact f
set_option maxRecDepth 10000 in
theorem wX10_digest_76 {x y : Nat} {r : Int64} {σ' : gS} : ∀ (n : Nat) (v1 : Int64) (v3 : Int32) (σ : gS), fX10_digest_76 n v1 v3 σ = some (r, σ') → sm σ σ' x y := by
  intro n
  induction n with
  | zero => intro v1 v3 σ h; exact absurd (show none = some (r, σ') from h) (by intro q; cases q)
  | succ n ih =>
  intro v1 v3 σ h
  unfold fX10_digest_76 at h
  have f := sm_r σ x y
  rcases ite_or h with ⟨_, h⟩ | ⟨_, h⟩
  · obtain ⟨-, rfl⟩ := so_inj h
    exact f
  · obtain ⟨g2, h⟩ := gg_some h
    obtain ⟨x3, ex3, h⟩ := bnd_nm h
    have bq4 : gRo x3 := ex3 ▸ gRo_i (vp_lt g2)
    obtain ⟨x5, σ6, y7, h⟩ := bd_some h
    have f := sm_t f (wX7_mixedInto y7)
    obtain ⟨x8, ex8, h⟩ := bnd_nm h
    exact sm_t f (ih x5 x8 σ6 h)
set_option maxRecDepth 10000 in
theorem wX10_digest_6 {x y : Nat} {r : Int64} {σ' : gS} : ∀ (n : Nat) (v1 : Int64) (v3 : Int32) (σ : gS), fX10_digest_6 n v1 v3 σ = some (r, σ') → sm σ σ' x y := by
  intro n
  induction n with
  | zero => intro v1 v3 σ h; exact absurd (show none = some (r, σ') from h) (by intro q; cases q)
  | succ n ih =>
  intro v1 v3 σ h
  unfold fX10_digest_6 at h
  have f := sm_r σ x y
  obtain ⟨x1, ex1, h⟩ := bnd_nm h
  obtain ⟨g2, h⟩ := gg_some h
  rcases ite_or h with ⟨_, h⟩ | ⟨_, h⟩
  · exact sm_t f (wX10_digest_76 2000 v1 0 σ h)
  · obtain ⟨x4, ex4, h⟩ := bnd_nm h
    obtain ⟨g5, h⟩ := gg_some h
    obtain ⟨g6, h⟩ := gg_some h
    obtain ⟨x7, ex7, h⟩ := bnd_nm h
    obtain ⟨x8, ex8, h⟩ := bnd_nm h
    obtain ⟨g9, h⟩ := gg_some h
    obtain ⟨g10, h⟩ := gg_some h
    obtain ⟨x11, ex11, h⟩ := bnd_nm h
    obtain ⟨x12, ex12, h⟩ := bnd_nm h
    obtain ⟨g13, h⟩ := gg_some h
    obtain ⟨g14, h⟩ := gg_some h
    obtain ⟨x15, ex15, h⟩ := bnd_nm h
    obtain ⟨x16, ex16, h⟩ := bnd_nm h
    exact sm_t f (ih x15 x16 σ h)
set_option maxRecDepth 10000 in
theorem wX10_digest {x y : Nat} {r : Int64} {σ' : gS} {σ : gS} (h : fX10_digest σ = some (r, σ')) : sm σ σ' x y := by
  unfold fX10_digest at h
  have f := sm_r σ x y
  exact sm_t f (wX10_digest_6 2000 17 0 σ h)
set_option maxRecDepth 10000 in
theorem wX11_in_18 {x y : Nat} {p1 : Int64} {p2 : Int64} {p3 : Int64} {r : Int32} {σ' : gS} {s0 : Int32} {σ : gS} (h : fX11_in_18 p1 p2 p3 s0 σ = some (r, σ')) : sm σ σ' x y := by
  unfold fX11_in_18 at h
  have f := sm_r σ x y
  obtain ⟨g1, h⟩ := gg_some h
  obtain ⟨-, rfl⟩ := so_inj h
  exact f
set_option maxRecDepth 10000 in
theorem wX11_in_17 {x y : Nat} {p1 : Int64} {p2 : Int64} {p3 : Int64} {r : Int32} {σ' : gS} {σ : gS} (h : fX11_in_17 p1 p2 p3 σ = some (r, σ')) : sm σ σ' x y := by
  unfold fX11_in_17 at h
  have f := sm_r σ x y
  exact sm_t f (wX11_in_18 h)
set_option maxRecDepth 10000 in
theorem wX11_in {x y : Nat} {p1 : Int64} {p2 : Int64} {p3 : Int64} {r : Int32} {σ' : gS} {σ : gS} (h : fX11_in p1 p2 p3 σ = some (r, σ')) : sm σ σ' x y := by
  unfold fX11_in at h
  have f := sm_r σ x y
  rcases ite_or h with ⟨_, h⟩ | ⟨_, h⟩
  · exact sm_t f (wX11_in_17 h)
  · rcases ite_or h with ⟨_, h⟩ | ⟨_, h⟩
    · exact sm_t f (wX11_in_17 h)
    · exact sm_t f (wX11_in_18 h)
set_option maxRecDepth 10000 in
theorem wX11_feed_33 {x y : Nat} {p1 : Int32} {p2 : Int64} {r : Int32} {σ' : gS} (nh_168_43 : ¬ (x = 168 ∧ y = 43)) (nh_197 : ¬ x = 197) : ∀ (n : Nat) (v4 : Int32) (σ : gS), fX11_feed_33 p1 p2 n v4 σ = some (r, σ') → sm σ σ' x y := by
  intro n
  induction n with
  | zero => intro v4 σ h; exact absurd (show none = some (r, σ') from h) (by intro q; cases q)
  | succ n ih =>
  intro v4 σ h
  unfold fX11_feed_33 at h
  have f := sm_r σ x y
  rcases ite_or h with ⟨_, h⟩ | ⟨_, h⟩
  · obtain ⟨-, rfl⟩ := so_inj h
    exact f
  · obtain ⟨g2, h⟩ := gg_some h
    obtain ⟨σ3, eσ3, h⟩ := bnd_nm h
    have f := sm_I f (fun q => nh_197 q.1) eσ3
    obtain ⟨σ4, eσ4, h⟩ := bnd_nm h
    have f := sm_I f nh_168_43 eσ4
    obtain ⟨x5, ex5, h⟩ := bnd_nm h
    exact sm_t f (ih x5 σ4 h)
set_option maxRecDepth 10000 in
theorem wX11_feed {x y : Nat} {p1 : Int32} {p2 : Int64} {r : Int32} {σ' : gS} {σ : gS} (nh_168_43 : ¬ (x = 168 ∧ y = 43)) (nh_197 : ¬ x = 197) (h : fX11_feed p1 p2 σ = some (r, σ')) : sm σ σ' x y := by
  unfold fX11_feed at h
  have f := sm_r σ x y
  obtain ⟨x1, σ2, y3, h⟩ := bd_some h
  have f := sm_t f (wX11_in y3)
  rcases ite_or h with ⟨_, h⟩ | ⟨_, h⟩
  · obtain ⟨-, rfl⟩ := so_inj h
    exact f
  · rcases ite_or h with ⟨_, h⟩ | ⟨_, h⟩
    · exact sm_t f (wX11_feed_33 nh_168_43 nh_197 2000 0 σ2 h)
    · obtain ⟨-, rfl⟩ := so_inj h
      exact f
set_option maxRecDepth 10000 in
theorem wX11_look_24 {x y : Nat} {r : Int32} {σ' : gS} {s0 : Int32} {σ : gS} (h : fX11_look_24 s0 σ = some (r, σ')) : sm σ σ' x y := by
  unfold fX11_look_24 at h
  have f := sm_r σ x y
  obtain ⟨-, rfl⟩ := so_inj h
  exact f
set_option maxRecDepth 10000 in
theorem wX11_look {x y : Nat} {r : Int32} {σ' : gS} {σ : gS} (h : fX11_look σ = some (r, σ')) : sm σ σ' x y := by
  unfold fX11_look at h
  have f := sm_r σ x y
  rcases ite_or h with ⟨_, h⟩ | ⟨_, h⟩
  · exact sm_t f (wX11_look_24 h)
  · obtain ⟨g2, h⟩ := gg_some h
    exact sm_t f (wX11_look_24 h)
set_option maxRecDepth 10000 in
theorem wX11_isLetter {x y : Nat} {r : Int32} {σ' : gS} {σ : gS} (h : fX11_isLetter σ = some (r, σ')) : sm σ σ' x y := by
  unfold fX11_isLetter at h
  have f := sm_r σ x y
  obtain ⟨x1, σ2, y3, h⟩ := bd_some h
  have f := sm_t f (wX11_look y3)
  obtain ⟨x4, σ5, y6, h⟩ := bd_some h
  have f := sm_t f (wX11_in y6)
  obtain ⟨g7, h⟩ := gg_some h
  obtain ⟨-, rfl⟩ := so_inj h
  exact f
set_option maxRecDepth 10000 in
theorem wX11_isFigure {x y : Nat} {r : Int32} {σ' : gS} {σ : gS} (h : fX11_isFigure σ = some (r, σ')) : sm σ σ' x y := by
  unfold fX11_isFigure at h
  have f := sm_r σ x y
  obtain ⟨x1, σ2, y3, h⟩ := bd_some h
  have f := sm_t f (wX11_look y3)
  obtain ⟨x4, σ5, y6, h⟩ := bd_some h
  have f := sm_t f (wX11_in y6)
  obtain ⟨g7, h⟩ := gg_some h
  obtain ⟨-, rfl⟩ := so_inj h
  exact f
set_option maxRecDepth 10000 in
theorem wX11_word_101 {x y : Nat} {p1 : Int32} {p2 : Int32} {p3 : Int32} {p4 : Int32} {p5 : Int32} {p6 : Int32} {r : Int64} {σ' : gS} {s0 : Int64} {σ : gS} (h : fX11_word_101 p1 p2 p3 p4 p5 p6 s0 σ = some (r, σ')) : sm σ σ' x y := by
  unfold fX11_word_101 at h
  have f := sm_r σ x y
  obtain ⟨-, rfl⟩ := so_inj h
  exact f
set_option maxRecDepth 10000 in
theorem wX11_word_80 {x y : Nat} {p1 : Int32} {p2 : Int32} {p3 : Int32} {p4 : Int32} {p5 : Int32} {p6 : Int32} {r : Int64} {σ' : gS} {s0 : Int64} {σ : gS} (h : fX11_word_80 p1 p2 p3 p4 p5 p6 s0 σ = some (r, σ')) : sm σ σ' x y := by
  unfold fX11_word_80 at h
  have f := sm_r σ x y
  rcases ite_or h with ⟨_, h⟩ | ⟨_, h⟩
  · exact sm_t f (wX11_word_101 h)
  · exact sm_t f (wX11_word_101 h)
set_option maxRecDepth 10000 in
theorem wX11_word_59 {x y : Nat} {p1 : Int32} {p2 : Int32} {p3 : Int32} {p4 : Int32} {p5 : Int32} {p6 : Int32} {r : Int64} {σ' : gS} {s0 : Int64} {σ : gS} (h : fX11_word_59 p1 p2 p3 p4 p5 p6 s0 σ = some (r, σ')) : sm σ σ' x y := by
  unfold fX11_word_59 at h
  have f := sm_r σ x y
  rcases ite_or h with ⟨_, h⟩ | ⟨_, h⟩
  · exact sm_t f (wX11_word_80 h)
  · exact sm_t f (wX11_word_80 h)
set_option maxRecDepth 10000 in
theorem wX11_word_40 {x y : Nat} {p1 : Int32} {p2 : Int32} {p3 : Int32} {p4 : Int32} {p5 : Int32} {p6 : Int32} {r : Int64} {σ' : gS} {s0 : Int64} {σ : gS} (h : fX11_word_40 p1 p2 p3 p4 p5 p6 s0 σ = some (r, σ')) : sm σ σ' x y := by
  unfold fX11_word_40 at h
  have f := sm_r σ x y
  rcases ite_or h with ⟨_, h⟩ | ⟨_, h⟩
  · exact sm_t f (wX11_word_59 h)
  · exact sm_t f (wX11_word_59 h)
set_option maxRecDepth 10000 in
theorem wX11_word {x y : Nat} {p1 : Int32} {p2 : Int32} {p3 : Int32} {p4 : Int32} {p5 : Int32} {p6 : Int32} {r : Int64} {σ' : gS} {σ : gS} (h : fX11_word p1 p2 p3 p4 p5 p6 σ = some (r, σ')) : sm σ σ' x y := by
  unfold fX11_word at h
  have f := sm_r σ x y
  obtain ⟨x1, ex1, h⟩ := bnd_nm h
  obtain ⟨x2, ex2, h⟩ := bnd_nm h
  rcases ite_or h with ⟨_, h⟩ | ⟨_, h⟩
  · exact sm_t f (wX11_word_40 h)
  · exact sm_t f (wX11_word_40 h)
set_option maxRecDepth 10000 in
theorem wX11_wordOf_256 {x y : Nat} {p1 : Int64} {r : Int32} {σ' : gS} {s0 : Int32} {σ : gS} (h : fX11_wordOf_256 p1 s0 σ = some (r, σ')) : sm σ σ' x y := by
  unfold fX11_wordOf_256 at h
  have f := sm_r σ x y
  obtain ⟨-, rfl⟩ := so_inj h
  exact f
set_option maxRecDepth 10000 in
theorem wX11_wordOf {x y : Nat} {p1 : Int64} {r : Int32} {σ' : gS} {σ : gS} (h : fX11_wordOf p1 σ = some (r, σ')) : sm σ σ' x y := by
  unfold fX11_wordOf at h
  have f := sm_r σ x y
  obtain ⟨x1, σ2, y3, h⟩ := bd_some h
  have f := sm_t f (wX11_word y3)
  rcases ite_or h with ⟨_, h⟩ | ⟨_, h⟩
  · obtain ⟨-, rfl⟩ := so_inj h
    exact f
  · obtain ⟨x5, σ6, y7, h⟩ := bd_some h
    have f := sm_t f (wX11_word y7)
    rcases ite_or h with ⟨_, h⟩ | ⟨_, h⟩
    · obtain ⟨-, rfl⟩ := so_inj h
      exact f
    · obtain ⟨x9, σ10, y11, h⟩ := bd_some h
      have f := sm_t f (wX11_word y11)
      rcases ite_or h with ⟨_, h⟩ | ⟨_, h⟩
      · obtain ⟨-, rfl⟩ := so_inj h
        exact f
      · obtain ⟨x13, σ14, y15, h⟩ := bd_some h
        have f := sm_t f (wX11_word y15)
        rcases ite_or h with ⟨_, h⟩ | ⟨_, h⟩
        · obtain ⟨-, rfl⟩ := so_inj h
          exact f
        · obtain ⟨x17, σ18, y19, h⟩ := bd_some h
          have f := sm_t f (wX11_word y19)
          rcases ite_or h with ⟨_, h⟩ | ⟨_, h⟩
          · obtain ⟨-, rfl⟩ := so_inj h
            exact f
          · obtain ⟨x21, σ22, y23, h⟩ := bd_some h
            have f := sm_t f (wX11_word y23)
            rcases ite_or h with ⟨_, h⟩ | ⟨_, h⟩
            · obtain ⟨-, rfl⟩ := so_inj h
              exact f
            · obtain ⟨x25, σ26, y27, h⟩ := bd_some h
              have f := sm_t f (wX11_word y27)
              rcases ite_or h with ⟨_, h⟩ | ⟨_, h⟩
              · obtain ⟨-, rfl⟩ := so_inj h
                exact f
              · obtain ⟨x29, σ30, y31, h⟩ := bd_some h
                have f := sm_t f (wX11_word y31)
                rcases ite_or h with ⟨_, h⟩ | ⟨_, h⟩
                · obtain ⟨-, rfl⟩ := so_inj h
                  exact f
                · obtain ⟨x33, σ34, y35, h⟩ := bd_some h
                  have f := sm_t f (wX11_word y35)
                  rcases ite_or h with ⟨_, h⟩ | ⟨_, h⟩
                  · obtain ⟨-, rfl⟩ := so_inj h
                    exact f
                  · obtain ⟨x37, σ38, y39, h⟩ := bd_some h
                    have f := sm_t f (wX11_word y39)
                    rcases ite_or h with ⟨_, h⟩ | ⟨_, h⟩
                    · obtain ⟨-, rfl⟩ := so_inj h
                      exact f
                    · obtain ⟨x41, σ42, y43, h⟩ := bd_some h
                      have f := sm_t f (wX11_word y43)
                      rcases ite_or h with ⟨_, h⟩ | ⟨_, h⟩
                      · obtain ⟨-, rfl⟩ := so_inj h
                        exact f
                      · obtain ⟨x45, σ46, y47, h⟩ := bd_some h
                        have f := sm_t f (wX11_word y47)
                        rcases ite_or h with ⟨_, h⟩ | ⟨_, h⟩
                        · exact sm_t f (wX11_wordOf_256 h)
                        · exact sm_t f (wX11_wordOf_256 h)
set_option maxRecDepth 10000 in
theorem wX11_next_18 {x y : Nat} {k0 : gS → Option (Unit × gS)} {r : Unit} {σ' : gS} {σ : gS} (hk0 : ∀ (σ : gS), k0 σ = some (r, σ') → sm σ σ' x y) (nh_168_44 : ¬ (x = 168 ∧ y = 44)) (nh_168_45 : ¬ (x = 168 ∧ y = 45)) (nh_168_46 : ¬ (x = 168 ∧ y = 46)) (nh_168_47 : ¬ (x = 168 ∧ y = 47)) (nh_168_48 : ¬ (x = 168 ∧ y = 48)) (nh_168_51 : ¬ (x = 168 ∧ y = 51)) (h : fX11_next_18 k0 σ = some (r, σ')) : sm σ σ' x y := by
  unfold fX11_next_18 at h
  have f := sm_r σ x y
  obtain ⟨σ1, eσ1, h⟩ := bnd_nm h
  have f := sm_I f nh_168_44 eσ1
  exact sm_t f (hk0 σ1 h)
set_option maxRecDepth 10000 in
theorem wX11_next_134 {x y : Nat} {k92 : gS → Option (Unit × gS)} {r : Unit} {σ' : gS} {s1 : Int64} {σ : gS} (hk92 : ∀ (σ : gS), k92 σ = some (r, σ') → sm σ σ' x y) (nh_168_44 : ¬ (x = 168 ∧ y = 44)) (nh_168_45 : ¬ (x = 168 ∧ y = 45)) (nh_168_46 : ¬ (x = 168 ∧ y = 46)) (nh_168_47 : ¬ (x = 168 ∧ y = 47)) (nh_168_48 : ¬ (x = 168 ∧ y = 48)) (nh_168_51 : ¬ (x = 168 ∧ y = 51)) (h : fX11_next_134 k92 s1 σ = some (r, σ')) : sm σ σ' x y := by
  unfold fX11_next_134 at h
  have f := sm_r σ x y
  obtain ⟨σ1, eσ1, h⟩ := bnd_nm h
  have f := sm_J f nh_168_47 eσ1
  obtain ⟨σ2, eσ2, h⟩ := bnd_nm h
  have f := sm_I f nh_168_44 eσ2
  exact sm_t f (hk92 σ2 h)
set_option maxRecDepth 10000 in
theorem wX11_next_359 {x y : Nat} {r : Unit} {σ' : gS} {σ : gS} (nh_168_44 : ¬ (x = 168 ∧ y = 44)) (nh_168_45 : ¬ (x = 168 ∧ y = 45)) (nh_168_46 : ¬ (x = 168 ∧ y = 46)) (nh_168_47 : ¬ (x = 168 ∧ y = 47)) (nh_168_48 : ¬ (x = 168 ∧ y = 48)) (nh_168_51 : ¬ (x = 168 ∧ y = 51)) (h : fX11_next_359 σ = some (r, σ')) : sm σ σ' x y := by
  unfold fX11_next_359 at h
  have f := sm_r σ x y
  obtain ⟨-, rfl⟩ := so_inj h
  exact f
set_option maxRecDepth 10000 in
theorem wX11_next_192 {x y : Nat} {r : Unit} {σ' : gS} {s1 : Int32} {σ : gS} (nh_168_44 : ¬ (x = 168 ∧ y = 44)) (nh_168_45 : ¬ (x = 168 ∧ y = 45)) (nh_168_46 : ¬ (x = 168 ∧ y = 46)) (nh_168_47 : ¬ (x = 168 ∧ y = 47)) (nh_168_48 : ¬ (x = 168 ∧ y = 48)) (nh_168_51 : ¬ (x = 168 ∧ y = 51)) (h : fX11_next_192 s1 σ = some (r, σ')) : sm σ σ' x y := by
  unfold fX11_next_192 at h
  have f := sm_r σ x y
  obtain ⟨σ1, eσ1, h⟩ := bnd_nm h
  have f := sm_I f nh_168_45 eσ1
  exact sm_t f (wX11_next_359 nh_168_44 nh_168_45 nh_168_46 nh_168_47 nh_168_48 nh_168_51 h)
set_option maxRecDepth 10000 in
theorem wX11_next_92 {x y : Nat} {r : Unit} {σ' : gS} (nh_168_44 : ¬ (x = 168 ∧ y = 44)) (nh_168_45 : ¬ (x = 168 ∧ y = 45)) (nh_168_46 : ¬ (x = 168 ∧ y = 46)) (nh_168_47 : ¬ (x = 168 ∧ y = 47)) (nh_168_48 : ¬ (x = 168 ∧ y = 48)) (nh_168_51 : ¬ (x = 168 ∧ y = 51)) : ∀ (n : Nat) (σ : gS), fX11_next_92 n σ = some (r, σ') → sm σ σ' x y := by
  intro n
  induction n with
  | zero => intro σ h; exact absurd (show none = some (r, σ') from h) (by intro q; cases q)
  | succ n ih =>
  intro σ h
  unfold fX11_next_92 at h
  have f := sm_r σ x y
  obtain ⟨x1, σ2, y3, h⟩ := bd_some h
  have f := sm_t f (wX11_isLetter y3)
  rcases ite_or h with ⟨_, h⟩ | ⟨_, h⟩
  · obtain ⟨x5, σ6, y7, h⟩ := bd_some h
    have f := sm_t f (wX11_wordOf y7)
    obtain ⟨σ8, eσ8, h⟩ := bnd_nm h
    have f := sm_I f nh_168_51 eσ8
    rcases ite_or h with ⟨_, h⟩ | ⟨_, h⟩
    · rcases ite_or h with ⟨_, h⟩ | ⟨_, h⟩
      · exact sm_t f (wX11_next_192 nh_168_44 nh_168_45 nh_168_46 nh_168_47 nh_168_48 nh_168_51 h)
      · exact sm_t f (wX11_next_192 nh_168_44 nh_168_45 nh_168_46 nh_168_47 nh_168_48 nh_168_51 h)
    · exact sm_t f (wX11_next_192 nh_168_44 nh_168_45 nh_168_46 nh_168_47 nh_168_48 nh_168_51 h)
  · rcases ite_or h with ⟨_, h⟩ | ⟨_, h⟩
    · exact sm_t f (wX11_next_134 (fun σ h => ih σ h) nh_168_44 nh_168_45 nh_168_46 nh_168_47 nh_168_48 nh_168_51 h)
    · obtain ⟨x12, σ13, y14, h⟩ := bd_some h
      have f := sm_t f (wX11_look y14)
      exact sm_t f (wX11_next_134 (fun σ h => ih σ h) nh_168_44 nh_168_45 nh_168_46 nh_168_47 nh_168_48 nh_168_51 h)
set_option maxRecDepth 10000 in
theorem wX11_next_284 {x y : Nat} {k249 : Int32 → Int32 → Int32 → gS → Option (Unit × gS)} {r : Unit} {σ' : gS} {v2 : Int32} {v3 : Int32} {s0 : Int32} {σ : gS} (hk249 : ∀ (v2 : Int32) (v3 : Int32) (v4 : Int32) (σ : gS), k249 v2 v3 v4 σ = some (r, σ') → sm σ σ' x y) (nh_168_44 : ¬ (x = 168 ∧ y = 44)) (nh_168_45 : ¬ (x = 168 ∧ y = 45)) (nh_168_46 : ¬ (x = 168 ∧ y = 46)) (nh_168_47 : ¬ (x = 168 ∧ y = 47)) (nh_168_48 : ¬ (x = 168 ∧ y = 48)) (nh_168_51 : ¬ (x = 168 ∧ y = 51)) (h : fX11_next_284 k249 v2 v3 s0 σ = some (r, σ')) : sm σ σ' x y := by
  unfold fX11_next_284 at h
  have f := sm_r σ x y
  obtain ⟨σ1, eσ1, h⟩ := bnd_nm h
  have f := sm_I f nh_168_44 eσ1
  exact sm_t f (hk249 v2 v3 s0 σ1 h)
set_option maxRecDepth 10000 in
theorem wX11_next_338 {x y : Nat} {r : Unit} {σ' : gS} {s1 : Int32} {σ : gS} (nh_168_44 : ¬ (x = 168 ∧ y = 44)) (nh_168_45 : ¬ (x = 168 ∧ y = 45)) (nh_168_46 : ¬ (x = 168 ∧ y = 46)) (nh_168_47 : ¬ (x = 168 ∧ y = 47)) (nh_168_48 : ¬ (x = 168 ∧ y = 48)) (nh_168_51 : ¬ (x = 168 ∧ y = 51)) (h : fX11_next_338 s1 σ = some (r, σ')) : sm σ σ' x y := by
  unfold fX11_next_338 at h
  have f := sm_r σ x y
  obtain ⟨σ1, eσ1, h⟩ := bnd_nm h
  have f := sm_I f nh_168_45 eσ1
  exact sm_t f (wX11_next_359 nh_168_44 nh_168_45 nh_168_46 nh_168_47 nh_168_48 nh_168_51 h)
set_option maxRecDepth 10000 in
theorem wX11_next_312 {x y : Nat} {r : Unit} {σ' : gS} {v3 : Int32} {s1 : Int32} {σ : gS} (nh_168_44 : ¬ (x = 168 ∧ y = 44)) (nh_168_45 : ¬ (x = 168 ∧ y = 45)) (nh_168_46 : ¬ (x = 168 ∧ y = 46)) (nh_168_47 : ¬ (x = 168 ∧ y = 47)) (nh_168_48 : ¬ (x = 168 ∧ y = 48)) (nh_168_51 : ¬ (x = 168 ∧ y = 51)) (h : fX11_next_312 v3 s1 σ = some (r, σ')) : sm σ σ' x y := by
  unfold fX11_next_312 at h
  have f := sm_r σ x y
  obtain ⟨σ1, eσ1, h⟩ := bnd_nm h
  have f := sm_I f nh_168_48 eσ1
  obtain ⟨x2, σ3, y4, h⟩ := bd_some h
  have f := sm_t f (wX11_in y4)
  rcases ite_or h with ⟨_, h⟩ | ⟨_, h⟩
  · exact sm_t f (wX11_next_338 nh_168_44 nh_168_45 nh_168_46 nh_168_47 nh_168_48 nh_168_51 h)
  · exact sm_t f (wX11_next_338 nh_168_44 nh_168_45 nh_168_46 nh_168_47 nh_168_48 nh_168_51 h)
set_option maxRecDepth 10000 in
theorem wX11_next_249 {x y : Nat} {r : Unit} {σ' : gS} (nh_168_44 : ¬ (x = 168 ∧ y = 44)) (nh_168_45 : ¬ (x = 168 ∧ y = 45)) (nh_168_46 : ¬ (x = 168 ∧ y = 46)) (nh_168_47 : ¬ (x = 168 ∧ y = 47)) (nh_168_48 : ¬ (x = 168 ∧ y = 48)) (nh_168_51 : ¬ (x = 168 ∧ y = 51)) : ∀ (n : Nat) (v2 : Int32) (v3 : Int32) (v4 : Int32) (σ : gS), fX11_next_249 n v2 v3 v4 σ = some (r, σ') → sm σ σ' x y := by
  intro n
  induction n with
  | zero => intro v2 v3 v4 σ h; exact absurd (show none = some (r, σ') from h) (by intro q; cases q)
  | succ n ih =>
  intro v2 v3 v4 σ h
  unfold fX11_next_249 at h
  have f := sm_r σ x y
  obtain ⟨x1, σ2, y3, h⟩ := bd_some h
  have f := sm_t f (wX11_isFigure y3)
  rcases ite_or h with ⟨_, h⟩ | ⟨_, h⟩
  · rcases ite_or h with ⟨_, h⟩ | ⟨_, h⟩
    · exact sm_t f (wX11_next_312 nh_168_44 nh_168_45 nh_168_46 nh_168_47 nh_168_48 nh_168_51 h)
    · exact sm_t f (wX11_next_312 nh_168_44 nh_168_45 nh_168_46 nh_168_47 nh_168_48 nh_168_51 h)
  · rcases ite_or h with ⟨_, h⟩ | ⟨_, h⟩
    · exact sm_t f (wX11_next_284 (fun v2 v3 v4 σ h => ih v2 v3 v4 σ h) nh_168_44 nh_168_45 nh_168_46 nh_168_47 nh_168_48 nh_168_51 h)
    · obtain ⟨x7, σ8, y9, h⟩ := bd_some h
      have f := sm_t f (wX11_look y9)
      exact sm_t f (wX11_next_284 (fun v2 v3 v4 σ h => ih v2 v3 v4 σ h) nh_168_44 nh_168_45 nh_168_46 nh_168_47 nh_168_48 nh_168_51 h)
set_option maxRecDepth 10000 in
theorem wX11_next_237 {x y : Nat} {r : Unit} {σ' : gS} {v2 : Int32} {s1 : Int32} {s2 : Int32} {σ : gS} (nh_168_44 : ¬ (x = 168 ∧ y = 44)) (nh_168_45 : ¬ (x = 168 ∧ y = 45)) (nh_168_46 : ¬ (x = 168 ∧ y = 46)) (nh_168_47 : ¬ (x = 168 ∧ y = 47)) (nh_168_48 : ¬ (x = 168 ∧ y = 48)) (nh_168_51 : ¬ (x = 168 ∧ y = 51)) (h : fX11_next_237 v2 s1 s2 σ = some (r, σ')) : sm σ σ' x y := by
  unfold fX11_next_237 at h
  have f := sm_r σ x y
  obtain ⟨σ1, eσ1, h⟩ := bnd_nm h
  have f := sm_I f nh_168_44 eσ1
  exact sm_t f (wX11_next_249 nh_168_44 nh_168_45 nh_168_46 nh_168_47 nh_168_48 nh_168_51 2000 v2 (σ1.1 168 44) 0 σ1 h)
set_option maxRecDepth 10000 in
theorem wX11_next_222 {x y : Nat} {r : Unit} {σ' : gS} {s0 : Int32} {σ : gS} (nh_168_44 : ¬ (x = 168 ∧ y = 44)) (nh_168_45 : ¬ (x = 168 ∧ y = 45)) (nh_168_46 : ¬ (x = 168 ∧ y = 46)) (nh_168_47 : ¬ (x = 168 ∧ y = 47)) (nh_168_48 : ¬ (x = 168 ∧ y = 48)) (nh_168_51 : ¬ (x = 168 ∧ y = 51)) (h : fX11_next_222 s0 σ = some (r, σ')) : sm σ σ' x y := by
  unfold fX11_next_222 at h
  have f := sm_r σ x y
  rcases ite_or h with ⟨_, h⟩ | ⟨_, h⟩
  · exact sm_t f (wX11_next_237 nh_168_44 nh_168_45 nh_168_46 nh_168_47 nh_168_48 nh_168_51 h)
  · exact sm_t f (wX11_next_237 nh_168_44 nh_168_45 nh_168_46 nh_168_47 nh_168_48 nh_168_51 h)
set_option maxRecDepth 10000 in
theorem wX11_next_211 {x y : Nat} {r : Unit} {σ' : gS} {v1 : Int32} {σ : gS} (nh_168_44 : ¬ (x = 168 ∧ y = 44)) (nh_168_45 : ¬ (x = 168 ∧ y = 45)) (nh_168_46 : ¬ (x = 168 ∧ y = 46)) (nh_168_47 : ¬ (x = 168 ∧ y = 47)) (nh_168_48 : ¬ (x = 168 ∧ y = 48)) (nh_168_51 : ¬ (x = 168 ∧ y = 51)) (h : fX11_next_211 v1 σ = some (r, σ')) : sm σ σ' x y := by
  unfold fX11_next_211 at h
  have f := sm_r σ x y
  rcases ite_or h with ⟨_, h⟩ | ⟨_, h⟩
  · exact sm_t f (wX11_next_222 nh_168_44 nh_168_45 nh_168_46 nh_168_47 nh_168_48 nh_168_51 h)
  · exact sm_t f (wX11_next_222 nh_168_44 nh_168_45 nh_168_46 nh_168_47 nh_168_48 nh_168_51 h)
set_option maxRecDepth 10000 in
theorem wX11_next_0 {x y : Nat} {r : Unit} {σ' : gS} (nh_168_44 : ¬ (x = 168 ∧ y = 44)) (nh_168_45 : ¬ (x = 168 ∧ y = 45)) (nh_168_46 : ¬ (x = 168 ∧ y = 46)) (nh_168_47 : ¬ (x = 168 ∧ y = 47)) (nh_168_48 : ¬ (x = 168 ∧ y = 48)) (nh_168_51 : ¬ (x = 168 ∧ y = 51)) : ∀ (n : Nat) (σ : gS), fX11_next_0 n σ = some (r, σ') → sm σ σ' x y := by
  intro n
  induction n with
  | zero => intro σ h; exact absurd (show none = some (r, σ') from h) (by intro q; cases q)
  | succ n ih =>
  intro σ h
  unfold fX11_next_0 at h
  have f := sm_r σ x y
  obtain ⟨x1, σ2, y3, h⟩ := bd_some h
  have f := sm_t f (wX11_look y3)
  rcases ite_or h with ⟨_, h⟩ | ⟨_, h⟩
  · exact sm_t f (wX11_next_18 (fun σ h => ih σ h) nh_168_44 nh_168_45 nh_168_46 nh_168_47 nh_168_48 nh_168_51 h)
  · obtain ⟨x5, σ6, y7, h⟩ := bd_some h
    have f := sm_t f (wX11_look y7)
    rcases ite_or h with ⟨_, h⟩ | ⟨_, h⟩
    · exact sm_t f (wX11_next_18 (fun σ h => ih σ h) nh_168_44 nh_168_45 nh_168_46 nh_168_47 nh_168_48 nh_168_51 h)
    · obtain ⟨σ9, eσ9, h⟩ := bnd_nm h
      have f := sm_I f nh_168_46 eσ9
      obtain ⟨x10, σ11, y12, h⟩ := bd_some h
      have f := sm_t f (wX11_look y12)
      rcases ite_or h with ⟨_, h⟩ | ⟨_, h⟩
      · rcases ite_or h with ⟨_, h⟩ | ⟨_, h⟩
        · obtain ⟨σ27, eσ27, h⟩ := bnd_nm h
          have f := sm_I f nh_168_45 eσ27
          obtain ⟨σ28, eσ28, h⟩ := bnd_nm h
          have f := sm_I f nh_168_44 eσ28
          exact sm_t f (wX11_next_359 nh_168_44 nh_168_45 nh_168_46 nh_168_47 nh_168_48 nh_168_51 h)
        · obtain ⟨x15, σ16, y17, h⟩ := bd_some h
          have f := sm_t f (wX11_isLetter y17)
          rcases ite_or h with ⟨_, h⟩ | ⟨_, h⟩
          · rcases ite_or h with ⟨_, h⟩ | ⟨_, h⟩
            · exact sm_t f (wX11_next_211 nh_168_44 nh_168_45 nh_168_46 nh_168_47 nh_168_48 nh_168_51 h)
            · obtain ⟨x20, σ21, y22, h⟩ := bd_some h
              have f := sm_t f (wX11_isFigure y22)
              rcases ite_or h with ⟨_, h⟩ | ⟨_, h⟩
              · obtain ⟨σ24, eσ24, h⟩ := bnd_nm h
                have f := sm_I f nh_168_45 eσ24
                obtain ⟨σ25, eσ25, h⟩ := bnd_nm h
                have f := sm_I f nh_168_44 eσ25
                exact sm_t f (wX11_next_359 nh_168_44 nh_168_45 nh_168_46 nh_168_47 nh_168_48 nh_168_51 h)
              · exact sm_t f (wX11_next_211 nh_168_44 nh_168_45 nh_168_46 nh_168_47 nh_168_48 nh_168_51 h)
          · obtain ⟨σ26, eσ26, h⟩ := bnd_nm h
            have f := sm_J f nh_168_47 eσ26
            exact sm_t f (wX11_next_92 nh_168_44 nh_168_45 nh_168_46 nh_168_47 nh_168_48 nh_168_51 2000 σ26 h)
      · obtain ⟨σ29, eσ29, h⟩ := bnd_nm h
        have f := sm_I f nh_168_45 eσ29
        exact sm_t f (wX11_next_359 nh_168_44 nh_168_45 nh_168_46 nh_168_47 nh_168_48 nh_168_51 h)
theorem wX11_next {x y : Nat} {r : Unit} {σ σ' : gS} (nh_168_44 : ¬ (x = 168 ∧ y = 44)) (nh_168_45 : ¬ (x = 168 ∧ y = 45)) (nh_168_46 : ¬ (x = 168 ∧ y = 46)) (nh_168_47 : ¬ (x = 168 ∧ y = 47)) (nh_168_48 : ¬ (x = 168 ∧ y = 48)) (nh_168_51 : ¬ (x = 168 ∧ y = 51)) (h : fX11_next σ = some (r, σ')) : sm σ σ' x y := wX11_next_0 nh_168_44 nh_168_45 nh_168_46 nh_168_47 nh_168_48 nh_168_51 2000 σ h
set_option maxRecDepth 10000 in
theorem wX11_good_12 {x y : Nat} {r : Int32} {σ' : gS} {s0 : Int32} {σ : gS} (h : fX11_good_12 s0 σ = some (r, σ')) : sm σ σ' x y := by
  unfold fX11_good_12 at h
  have f := sm_r σ x y
  obtain ⟨g1, h⟩ := gg_some h
  obtain ⟨-, rfl⟩ := so_inj h
  exact f
set_option maxRecDepth 10000 in
theorem wX11_good {x y : Nat} {r : Int32} {σ' : gS} {σ : gS} (h : fX11_good σ = some (r, σ')) : sm σ σ' x y := by
  unfold fX11_good at h
  have f := sm_r σ x y
  rcases ite_or h with ⟨_, h⟩ | ⟨_, h⟩
  · exact sm_t f (wX11_good_12 h)
  · exact sm_t f (wX11_good_12 h)
set_option maxRecDepth 10000 in
theorem wX11_bad_20 {x y : Nat} {p1 : Int32} {r : Unit} {σ' : gS} {σ : gS} (nh_168_49 : ¬ (x = 168 ∧ y = 49)) (nh_168_50 : ¬ (x = 168 ∧ y = 50)) (h : fX11_bad_20 p1 σ = some (r, σ')) : sm σ σ' x y := by
  unfold fX11_bad_20 at h
  have f := sm_r σ x y
  obtain ⟨-, rfl⟩ := so_inj h
  exact f
set_option maxRecDepth 10000 in
theorem wX11_bad {x y : Nat} {p1 : Int32} {r : Unit} {σ' : gS} {σ : gS} (nh_168_49 : ¬ (x = 168 ∧ y = 49)) (nh_168_50 : ¬ (x = 168 ∧ y = 50)) (h : fX11_bad p1 σ = some (r, σ')) : sm σ σ' x y := by
  unfold fX11_bad at h
  have f := sm_r σ x y
  rcases ite_or h with ⟨_, h⟩ | ⟨_, h⟩
  · obtain ⟨σ2, eσ2, h⟩ := bnd_nm h
    have f := sm_I f nh_168_49 eσ2
    obtain ⟨σ3, eσ3, h⟩ := bnd_nm h
    have f := sm_I f nh_168_50 eσ3
    exact sm_t f (wX11_bad_20 nh_168_49 nh_168_50 h)
  · exact sm_t f (wX11_bad_20 nh_168_49 nh_168_50 h)
set_option maxRecDepth 10000 in
theorem wX11_want_32 {x y : Nat} {p1 : Int32} {r : Unit} {σ' : gS} {σ : gS} (nh_168_49 : ¬ (x = 168 ∧ y = 49)) (nh_168_50 : ¬ (x = 168 ∧ y = 50)) (h : fX11_want_32 p1 σ = some (r, σ')) : sm σ σ' x y := by
  unfold fX11_want_32 at h
  have f := sm_r σ x y
  obtain ⟨-, rfl⟩ := so_inj h
  exact f
set_option maxRecDepth 10000 in
theorem wX11_want_29 {x y : Nat} {p1 : Int32} {r : Unit} {σ' : gS} {s1 : Int32} {σ : gS} (nh_168_49 : ¬ (x = 168 ∧ y = 49)) (nh_168_50 : ¬ (x = 168 ∧ y = 50)) (h : fX11_want_29 p1 s1 σ = some (r, σ')) : sm σ σ' x y := by
  unfold fX11_want_29 at h
  have f := sm_r σ x y
  obtain ⟨_, σ1, y2, h⟩ := bd_some h
  have f := sm_t f (wX11_bad nh_168_49 nh_168_50 y2)
  exact sm_t f (wX11_want_32 nh_168_49 nh_168_50 h)
set_option maxRecDepth 10000 in
theorem wX11_want {x y : Nat} {p1 : Int32} {r : Unit} {σ' : gS} {σ : gS} (nh_168_49 : ¬ (x = 168 ∧ y = 49)) (nh_168_50 : ¬ (x = 168 ∧ y = 50)) (h : fX11_want p1 σ = some (r, σ')) : sm σ σ' x y := by
  unfold fX11_want at h
  have f := sm_r σ x y
  obtain ⟨x1, σ2, y3, h⟩ := bd_some h
  have f := sm_t f (wX11_good y3)
  rcases ite_or h with ⟨_, h⟩ | ⟨_, h⟩
  · exact sm_t f (wX11_want_32 nh_168_49 nh_168_50 h)
  · rcases ite_or h with ⟨_, h⟩ | ⟨_, h⟩
    · exact sm_t f (wX11_want_32 nh_168_49 nh_168_50 h)
    · rcases ite_or h with ⟨_, h⟩ | ⟨_, h⟩
      · exact sm_t f (wX11_want_29 nh_168_49 nh_168_50 h)
      · exact sm_t f (wX11_want_29 nh_168_49 nh_168_50 h)
set_option maxRecDepth 10000 in
theorem wX11_wantWord_36 {x y : Nat} {p1 : Int32} {r : Unit} {σ' : gS} {σ : gS} (nh_168_44 : ¬ (x = 168 ∧ y = 44)) (nh_168_45 : ¬ (x = 168 ∧ y = 45)) (nh_168_46 : ¬ (x = 168 ∧ y = 46)) (nh_168_47 : ¬ (x = 168 ∧ y = 47)) (nh_168_48 : ¬ (x = 168 ∧ y = 48)) (nh_168_49 : ¬ (x = 168 ∧ y = 49)) (nh_168_50 : ¬ (x = 168 ∧ y = 50)) (nh_168_51 : ¬ (x = 168 ∧ y = 51)) (h : fX11_wantWord_36 p1 σ = some (r, σ')) : sm σ σ' x y := by
  unfold fX11_wantWord_36 at h
  have f := sm_r σ x y
  obtain ⟨-, rfl⟩ := so_inj h
  exact f
set_option maxRecDepth 10000 in
theorem wX11_wantWord_25 {x y : Nat} {p1 : Int32} {r : Unit} {σ' : gS} {σ : gS} (nh_168_44 : ¬ (x = 168 ∧ y = 44)) (nh_168_45 : ¬ (x = 168 ∧ y = 45)) (nh_168_46 : ¬ (x = 168 ∧ y = 46)) (nh_168_47 : ¬ (x = 168 ∧ y = 47)) (nh_168_48 : ¬ (x = 168 ∧ y = 48)) (nh_168_49 : ¬ (x = 168 ∧ y = 49)) (nh_168_50 : ¬ (x = 168 ∧ y = 50)) (nh_168_51 : ¬ (x = 168 ∧ y = 51)) (h : fX11_wantWord_25 p1 σ = some (r, σ')) : sm σ σ' x y := by
  unfold fX11_wantWord_25 at h
  have f := sm_r σ x y
  obtain ⟨x1, σ2, y3, h⟩ := bd_some h
  have f := sm_t f (wX11_good y3)
  rcases ite_or h with ⟨_, h⟩ | ⟨_, h⟩
  · exact sm_t f (wX11_wantWord_36 nh_168_44 nh_168_45 nh_168_46 nh_168_47 nh_168_48 nh_168_49 nh_168_50 nh_168_51 h)
  · obtain ⟨_, σ5, y6, h⟩ := bd_some h
    have f := sm_t f (wX11_next nh_168_44 nh_168_45 nh_168_46 nh_168_47 nh_168_48 nh_168_51 y6)
    exact sm_t f (wX11_wantWord_36 nh_168_44 nh_168_45 nh_168_46 nh_168_47 nh_168_48 nh_168_49 nh_168_50 nh_168_51 h)
set_option maxRecDepth 10000 in
theorem wX11_wantWord {x y : Nat} {p1 : Int32} {r : Unit} {σ' : gS} {σ : gS} (nh_168_44 : ¬ (x = 168 ∧ y = 44)) (nh_168_45 : ¬ (x = 168 ∧ y = 45)) (nh_168_46 : ¬ (x = 168 ∧ y = 46)) (nh_168_47 : ¬ (x = 168 ∧ y = 47)) (nh_168_48 : ¬ (x = 168 ∧ y = 48)) (nh_168_49 : ¬ (x = 168 ∧ y = 49)) (nh_168_50 : ¬ (x = 168 ∧ y = 50)) (nh_168_51 : ¬ (x = 168 ∧ y = 51)) (h : fX11_wantWord p1 σ = some (r, σ')) : sm σ σ' x y := by
  unfold fX11_wantWord at h
  have f := sm_r σ x y
  obtain ⟨_, σ1, y2, h⟩ := bd_some h
  have f := sm_t f (wX11_want nh_168_49 nh_168_50 y2)
  obtain ⟨x3, σ4, y5, h⟩ := bd_some h
  have f := sm_t f (wX11_good y5)
  rcases ite_or h with ⟨_, h⟩ | ⟨_, h⟩
  · exact sm_t f (wX11_wantWord_25 nh_168_44 nh_168_45 nh_168_46 nh_168_47 nh_168_48 nh_168_49 nh_168_50 nh_168_51 h)
  · rcases ite_or h with ⟨_, h⟩ | ⟨_, h⟩
    · exact sm_t f (wX11_wantWord_25 nh_168_44 nh_168_45 nh_168_46 nh_168_47 nh_168_48 nh_168_49 nh_168_50 nh_168_51 h)
    · obtain ⟨_, σ8, y9, h⟩ := bd_some h
      have f := sm_t f (wX11_bad nh_168_49 nh_168_50 y9)
      exact sm_t f (wX11_wantWord_25 nh_168_44 nh_168_45 nh_168_46 nh_168_47 nh_168_48 nh_168_49 nh_168_50 nh_168_51 h)
set_option maxRecDepth 10000 in
theorem wX11_jointOf_2 {x y : Nat} {r : Int32} {σ' : gS} : ∀ (n : Nat) (v1 : Int32) (σ : gS), fX11_jointOf_2 n v1 σ = some (r, σ') → sm σ σ' x y := by
  intro n
  induction n with
  | zero => intro v1 σ h; exact absurd (show none = some (r, σ') from h) (by intro q; cases q)
  | succ n ih =>
  intro v1 σ h
  unfold fX11_jointOf_2 at h
  have f := sm_r σ x y
  rcases ite_or h with ⟨_, h⟩ | ⟨_, h⟩
  · obtain ⟨-, rfl⟩ := so_inj h
    exact f
  · obtain ⟨g2, h⟩ := gg_some h
    rcases ite_or h with ⟨_, h⟩ | ⟨_, h⟩
    · obtain ⟨-, rfl⟩ := so_inj h
      exact f
    · obtain ⟨x4, ex4, h⟩ := bnd_nm h
      exact sm_t f (ih x4 σ h)
set_option maxRecDepth 10000 in
theorem wX11_jointOf {x y : Nat} {r : Int32} {σ' : gS} {σ : gS} (h : fX11_jointOf σ = some (r, σ')) : sm σ σ' x y := by
  unfold fX11_jointOf at h
  have f := sm_r σ x y
  exact sm_t f (wX11_jointOf_2 2000 0 σ h)
set_option maxRecDepth 10000 in
theorem wX11_wheelOf_2 {x y : Nat} {r : Int32} {σ' : gS} : ∀ (n : Nat) (v1 : Int32) (σ : gS), fX11_wheelOf_2 n v1 σ = some (r, σ') → sm σ σ' x y := by
  intro n
  induction n with
  | zero => intro v1 σ h; exact absurd (show none = some (r, σ') from h) (by intro q; cases q)
  | succ n ih =>
  intro v1 σ h
  unfold fX11_wheelOf_2 at h
  have f := sm_r σ x y
  rcases ite_or h with ⟨_, h⟩ | ⟨_, h⟩
  · obtain ⟨-, rfl⟩ := so_inj h
    exact f
  · obtain ⟨g2, h⟩ := gg_some h
    rcases ite_or h with ⟨_, h⟩ | ⟨_, h⟩
    · obtain ⟨-, rfl⟩ := so_inj h
      exact f
    · obtain ⟨x4, ex4, h⟩ := bnd_nm h
      exact sm_t f (ih x4 σ h)
set_option maxRecDepth 10000 in
theorem wX11_wheelOf {x y : Nat} {r : Int32} {σ' : gS} {σ : gS} (h : fX11_wheelOf σ = some (r, σ')) : sm σ σ' x y := by
  unfold fX11_wheelOf at h
  have f := sm_r σ x y
  exact sm_t f (wX11_wheelOf_2 2000 0 σ h)
set_option maxRecDepth 10000 in
theorem wX11_newName_48 {x y : Nat} {p1 : Int32} {r : Unit} {σ' : gS} {σ : gS} (nh_168_49 : ¬ (x = 168 ∧ y = 49)) (nh_168_50 : ¬ (x = 168 ∧ y = 50)) (h : fX11_newName_48 p1 σ = some (r, σ')) : sm σ σ' x y := by
  unfold fX11_newName_48 at h
  have f := sm_r σ x y
  obtain ⟨-, rfl⟩ := so_inj h
  exact f
set_option maxRecDepth 10000 in
theorem wX11_newName_31 {x y : Nat} {p1 : Int32} {r : Unit} {σ' : gS} {σ : gS} (nh_168_49 : ¬ (x = 168 ∧ y = 49)) (nh_168_50 : ¬ (x = 168 ∧ y = 50)) (h : fX11_newName_31 p1 σ = some (r, σ')) : sm σ σ' x y := by
  unfold fX11_newName_31 at h
  have f := sm_r σ x y
  obtain ⟨x1, σ2, y3, h⟩ := bd_some h
  have f := sm_t f (wX11_good y3)
  rcases ite_or h with ⟨_, h⟩ | ⟨_, h⟩
  · exact sm_t f (wX11_newName_48 nh_168_49 nh_168_50 h)
  · rcases ite_or h with ⟨_, h⟩ | ⟨_, h⟩
    · exact sm_t f (wX11_newName_48 nh_168_49 nh_168_50 h)
    · obtain ⟨_, σ6, y7, h⟩ := bd_some h
      have f := sm_t f (wX11_bad nh_168_49 nh_168_50 y7)
      exact sm_t f (wX11_newName_48 nh_168_49 nh_168_50 h)
set_option maxRecDepth 10000 in
theorem wX11_newName_26 {x y : Nat} {p1 : Int32} {r : Unit} {σ' : gS} {σ : gS} (nh_168_49 : ¬ (x = 168 ∧ y = 49)) (nh_168_50 : ¬ (x = 168 ∧ y = 50)) (h : fX11_newName_26 p1 σ = some (r, σ')) : sm σ σ' x y := by
  unfold fX11_newName_26 at h
  have f := sm_r σ x y
  obtain ⟨_, σ1, y2, h⟩ := bd_some h
  have f := sm_t f (wX11_bad nh_168_49 nh_168_50 y2)
  exact sm_t f (wX11_newName_31 nh_168_49 nh_168_50 h)
set_option maxRecDepth 10000 in
theorem wX11_newName {x y : Nat} {p1 : Int32} {r : Unit} {σ' : gS} {σ : gS} (nh_168_49 : ¬ (x = 168 ∧ y = 49)) (nh_168_50 : ¬ (x = 168 ∧ y = 50)) (h : fX11_newName p1 σ = some (r, σ')) : sm σ σ' x y := by
  unfold fX11_newName at h
  have f := sm_r σ x y
  obtain ⟨_, σ1, y2, h⟩ := bd_some h
  have f := sm_t f (wX11_want nh_168_49 nh_168_50 y2)
  obtain ⟨x3, σ4, y5, h⟩ := bd_some h
  have f := sm_t f (wX11_good y5)
  rcases ite_or h with ⟨_, h⟩ | ⟨_, h⟩
  · exact sm_t f (wX11_newName_31 nh_168_49 nh_168_50 h)
  · obtain ⟨x7, σ8, y9, h⟩ := bd_some h
    have f := sm_t f (wX11_jointOf y9)
    rcases ite_or h with ⟨_, h⟩ | ⟨_, h⟩
    · exact sm_t f (wX11_newName_26 nh_168_49 nh_168_50 h)
    · obtain ⟨x11, σ12, y13, h⟩ := bd_some h
      have f := sm_t f (wX11_wheelOf y13)
      rcases ite_or h with ⟨_, h⟩ | ⟨_, h⟩
      · exact sm_t f (wX11_newName_31 nh_168_49 nh_168_50 h)
      · exact sm_t f (wX11_newName_26 nh_168_49 nh_168_50 h)
set_option maxRecDepth 10000 in
theorem wX11_oldJoint_37 {x y : Nat} {r : Int32} {σ' : gS} {v1 : Int32} {σ : gS} (nh_168_49 : ¬ (x = 168 ∧ y = 49)) (nh_168_50 : ¬ (x = 168 ∧ y = 50)) (h : fX11_oldJoint_37 v1 σ = some (r, σ')) : sm σ σ' x y := by
  unfold fX11_oldJoint_37 at h
  have f := sm_r σ x y
  obtain ⟨-, rfl⟩ := so_inj h
  exact f
set_option maxRecDepth 10000 in
theorem wX11_oldJoint_20 {x y : Nat} {r : Int32} {σ' : gS} {s0 : Int32} {σ : gS} (nh_168_49 : ¬ (x = 168 ∧ y = 49)) (nh_168_50 : ¬ (x = 168 ∧ y = 50)) (h : fX11_oldJoint_20 s0 σ = some (r, σ')) : sm σ σ' x y := by
  unfold fX11_oldJoint_20 at h
  have f := sm_r σ x y
  obtain ⟨x1, σ2, y3, h⟩ := bd_some h
  have f := sm_t f (wX11_good y3)
  rcases ite_or h with ⟨_, h⟩ | ⟨_, h⟩
  · exact sm_t f (wX11_oldJoint_37 nh_168_49 nh_168_50 h)
  · rcases ite_or h with ⟨_, h⟩ | ⟨_, h⟩
    · exact sm_t f (wX11_oldJoint_37 nh_168_49 nh_168_50 h)
    · obtain ⟨_, σ6, y7, h⟩ := bd_some h
      have f := sm_t f (wX11_bad nh_168_49 nh_168_50 y7)
      exact sm_t f (wX11_oldJoint_37 nh_168_49 nh_168_50 h)
set_option maxRecDepth 10000 in
theorem wX11_oldJoint {x y : Nat} {r : Int32} {σ' : gS} {σ : gS} (nh_168_49 : ¬ (x = 168 ∧ y = 49)) (nh_168_50 : ¬ (x = 168 ∧ y = 50)) (h : fX11_oldJoint σ = some (r, σ')) : sm σ σ' x y := by
  unfold fX11_oldJoint at h
  have f := sm_r σ x y
  obtain ⟨_, σ1, y2, h⟩ := bd_some h
  have f := sm_t f (wX11_want nh_168_49 nh_168_50 y2)
  obtain ⟨x3, σ4, y5, h⟩ := bd_some h
  have f := sm_t f (wX11_good y5)
  rcases ite_or h with ⟨_, h⟩ | ⟨_, h⟩
  · exact sm_t f (wX11_oldJoint_20 nh_168_49 nh_168_50 h)
  · obtain ⟨x7, σ8, y9, h⟩ := bd_some h
    have f := sm_t f (wX11_jointOf y9)
    exact sm_t f (wX11_oldJoint_20 nh_168_49 nh_168_50 h)
set_option maxRecDepth 10000 in
theorem wX11_oldWheel_37 {x y : Nat} {r : Int32} {σ' : gS} {v1 : Int32} {σ : gS} (nh_168_49 : ¬ (x = 168 ∧ y = 49)) (nh_168_50 : ¬ (x = 168 ∧ y = 50)) (h : fX11_oldWheel_37 v1 σ = some (r, σ')) : sm σ σ' x y := by
  unfold fX11_oldWheel_37 at h
  have f := sm_r σ x y
  obtain ⟨-, rfl⟩ := so_inj h
  exact f
set_option maxRecDepth 10000 in
theorem wX11_oldWheel_20 {x y : Nat} {r : Int32} {σ' : gS} {s0 : Int32} {σ : gS} (nh_168_49 : ¬ (x = 168 ∧ y = 49)) (nh_168_50 : ¬ (x = 168 ∧ y = 50)) (h : fX11_oldWheel_20 s0 σ = some (r, σ')) : sm σ σ' x y := by
  unfold fX11_oldWheel_20 at h
  have f := sm_r σ x y
  obtain ⟨x1, σ2, y3, h⟩ := bd_some h
  have f := sm_t f (wX11_good y3)
  rcases ite_or h with ⟨_, h⟩ | ⟨_, h⟩
  · exact sm_t f (wX11_oldWheel_37 nh_168_49 nh_168_50 h)
  · rcases ite_or h with ⟨_, h⟩ | ⟨_, h⟩
    · exact sm_t f (wX11_oldWheel_37 nh_168_49 nh_168_50 h)
    · obtain ⟨_, σ6, y7, h⟩ := bd_some h
      have f := sm_t f (wX11_bad nh_168_49 nh_168_50 y7)
      exact sm_t f (wX11_oldWheel_37 nh_168_49 nh_168_50 h)
set_option maxRecDepth 10000 in
theorem wX11_oldWheel {x y : Nat} {r : Int32} {σ' : gS} {σ : gS} (nh_168_49 : ¬ (x = 168 ∧ y = 49)) (nh_168_50 : ¬ (x = 168 ∧ y = 50)) (h : fX11_oldWheel σ = some (r, σ')) : sm σ σ' x y := by
  unfold fX11_oldWheel at h
  have f := sm_r σ x y
  obtain ⟨_, σ1, y2, h⟩ := bd_some h
  have f := sm_t f (wX11_want nh_168_49 nh_168_50 y2)
  obtain ⟨x3, σ4, y5, h⟩ := bd_some h
  have f := sm_t f (wX11_good y5)
  rcases ite_or h with ⟨_, h⟩ | ⟨_, h⟩
  · exact sm_t f (wX11_oldWheel_20 nh_168_49 nh_168_50 h)
  · obtain ⟨x7, σ8, y9, h⟩ := bd_some h
    have f := sm_t f (wX11_wheelOf y9)
    exact sm_t f (wX11_oldWheel_20 nh_168_49 nh_168_50 h)
set_option maxRecDepth 10000 in
theorem wX11_bounded_48 {x y : Nat} {p1 : Int32} {p2 : Int32} {r : Int32} {σ' : gS} {v3 : Int32} {σ : gS} (nh_168_44 : ¬ (x = 168 ∧ y = 44)) (nh_168_45 : ¬ (x = 168 ∧ y = 45)) (nh_168_46 : ¬ (x = 168 ∧ y = 46)) (nh_168_47 : ¬ (x = 168 ∧ y = 47)) (nh_168_48 : ¬ (x = 168 ∧ y = 48)) (nh_168_49 : ¬ (x = 168 ∧ y = 49)) (nh_168_50 : ¬ (x = 168 ∧ y = 50)) (nh_168_51 : ¬ (x = 168 ∧ y = 51)) (h : fX11_bounded_48 p1 p2 v3 σ = some (r, σ')) : sm σ σ' x y := by
  unfold fX11_bounded_48 at h
  have f := sm_r σ x y
  obtain ⟨-, rfl⟩ := so_inj h
  exact f
set_option maxRecDepth 10000 in
theorem wX11_bounded_32 {x y : Nat} {p1 : Int32} {p2 : Int32} {r : Int32} {σ' : gS} {σ : gS} (nh_168_44 : ¬ (x = 168 ∧ y = 44)) (nh_168_45 : ¬ (x = 168 ∧ y = 45)) (nh_168_46 : ¬ (x = 168 ∧ y = 46)) (nh_168_47 : ¬ (x = 168 ∧ y = 47)) (nh_168_48 : ¬ (x = 168 ∧ y = 48)) (nh_168_49 : ¬ (x = 168 ∧ y = 49)) (nh_168_50 : ¬ (x = 168 ∧ y = 50)) (nh_168_51 : ¬ (x = 168 ∧ y = 51)) (h : fX11_bounded_32 p1 p2 σ = some (r, σ')) : sm σ σ' x y := by
  unfold fX11_bounded_32 at h
  have f := sm_r σ x y
  obtain ⟨x1, σ2, y3, h⟩ := bd_some h
  have f := sm_t f (wX11_good y3)
  rcases ite_or h with ⟨_, h⟩ | ⟨_, h⟩
  · exact sm_t f (wX11_bounded_48 nh_168_44 nh_168_45 nh_168_46 nh_168_47 nh_168_48 nh_168_49 nh_168_50 nh_168_51 h)
  · obtain ⟨_, σ5, y6, h⟩ := bd_some h
    have f := sm_t f (wX11_next nh_168_44 nh_168_45 nh_168_46 nh_168_47 nh_168_48 nh_168_51 y6)
    exact sm_t f (wX11_bounded_48 nh_168_44 nh_168_45 nh_168_46 nh_168_47 nh_168_48 nh_168_49 nh_168_50 nh_168_51 h)
set_option maxRecDepth 10000 in
theorem wX11_bounded {x y : Nat} {p1 : Int32} {p2 : Int32} {r : Int32} {σ' : gS} {σ : gS} (nh_168_44 : ¬ (x = 168 ∧ y = 44)) (nh_168_45 : ¬ (x = 168 ∧ y = 45)) (nh_168_46 : ¬ (x = 168 ∧ y = 46)) (nh_168_47 : ¬ (x = 168 ∧ y = 47)) (nh_168_48 : ¬ (x = 168 ∧ y = 48)) (nh_168_49 : ¬ (x = 168 ∧ y = 49)) (nh_168_50 : ¬ (x = 168 ∧ y = 50)) (nh_168_51 : ¬ (x = 168 ∧ y = 51)) (h : fX11_bounded p1 p2 σ = some (r, σ')) : sm σ σ' x y := by
  unfold fX11_bounded at h
  have f := sm_r σ x y
  obtain ⟨_, σ1, y2, h⟩ := bd_some h
  have f := sm_t f (wX11_want nh_168_49 nh_168_50 y2)
  obtain ⟨x3, σ4, y5, h⟩ := bd_some h
  have f := sm_t f (wX11_good y5)
  rcases ite_or h with ⟨_, h⟩ | ⟨_, h⟩
  · exact sm_t f (wX11_bounded_32 nh_168_44 nh_168_45 nh_168_46 nh_168_47 nh_168_48 nh_168_49 nh_168_50 nh_168_51 h)
  · obtain ⟨x7, σ8, y9, h⟩ := bd_some h
    have f := sm_t f (wX11_in y9)
    rcases ite_or h with ⟨_, h⟩ | ⟨_, h⟩
    · obtain ⟨_, σ11, y12, h⟩ := bd_some h
      have f := sm_t f (wX11_bad nh_168_49 nh_168_50 y12)
      exact sm_t f (wX11_bounded_32 nh_168_44 nh_168_45 nh_168_46 nh_168_47 nh_168_48 nh_168_49 nh_168_50 nh_168_51 h)
    · exact sm_t f (wX11_bounded_32 nh_168_44 nh_168_45 nh_168_46 nh_168_47 nh_168_48 nh_168_49 nh_168_50 nh_168_51 h)
set_option maxRecDepth 10000 in
theorem wX11_stop_16 {x y : Nat} {r : Unit} {σ' : gS} {σ : gS} (nh_168_44 : ¬ (x = 168 ∧ y = 44)) (nh_168_45 : ¬ (x = 168 ∧ y = 45)) (nh_168_46 : ¬ (x = 168 ∧ y = 46)) (nh_168_47 : ¬ (x = 168 ∧ y = 47)) (nh_168_48 : ¬ (x = 168 ∧ y = 48)) (nh_168_49 : ¬ (x = 168 ∧ y = 49)) (nh_168_50 : ¬ (x = 168 ∧ y = 50)) (nh_168_51 : ¬ (x = 168 ∧ y = 51)) (h : fX11_stop_16 σ = some (r, σ')) : sm σ σ' x y := by
  unfold fX11_stop_16 at h
  have f := sm_r σ x y
  obtain ⟨-, rfl⟩ := so_inj h
  exact f
set_option maxRecDepth 10000 in
theorem wX11_stop {x y : Nat} {r : Unit} {σ' : gS} {σ : gS} (nh_168_44 : ¬ (x = 168 ∧ y = 44)) (nh_168_45 : ¬ (x = 168 ∧ y = 45)) (nh_168_46 : ¬ (x = 168 ∧ y = 46)) (nh_168_47 : ¬ (x = 168 ∧ y = 47)) (nh_168_48 : ¬ (x = 168 ∧ y = 48)) (nh_168_49 : ¬ (x = 168 ∧ y = 49)) (nh_168_50 : ¬ (x = 168 ∧ y = 50)) (nh_168_51 : ¬ (x = 168 ∧ y = 51)) (h : fX11_stop σ = some (r, σ')) : sm σ σ' x y := by
  unfold fX11_stop at h
  have f := sm_r σ x y
  obtain ⟨_, σ1, y2, h⟩ := bd_some h
  have f := sm_t f (wX11_want nh_168_49 nh_168_50 y2)
  obtain ⟨x3, σ4, y5, h⟩ := bd_some h
  have f := sm_t f (wX11_good y5)
  rcases ite_or h with ⟨_, h⟩ | ⟨_, h⟩
  · exact sm_t f (wX11_stop_16 nh_168_44 nh_168_45 nh_168_46 nh_168_47 nh_168_48 nh_168_49 nh_168_50 nh_168_51 h)
  · obtain ⟨_, σ7, y8, h⟩ := bd_some h
    have f := sm_t f (wX11_next nh_168_44 nh_168_45 nh_168_46 nh_168_47 nh_168_48 nh_168_51 y8)
    exact sm_t f (wX11_stop_16 nh_168_44 nh_168_45 nh_168_46 nh_168_47 nh_168_48 nh_168_49 nh_168_50 nh_168_51 h)
set_option maxRecDepth 10000 in
theorem wX11_addPart {x y : Nat} {p1 : Int32} {p2 : Int32} {r : Unit} {σ' : gS} {σ : gS} (nh_168_37 : ¬ (x = 168 ∧ y = 37)) (nh_195 : ¬ x = 195) (nh_196 : ¬ x = 196) (h : fX11_addPart p1 p2 σ = some (r, σ')) : sm σ σ' x y := by
  unfold fX11_addPart at h
  have f := sm_r σ x y
  obtain ⟨g1, h⟩ := gg_some h
  obtain ⟨σ2, eσ2, h⟩ := bnd_nm h
  have f := sm_I f (fun q => nh_195 q.1) eσ2
  obtain ⟨g3, h⟩ := gg_some h
  obtain ⟨σ4, eσ4, h⟩ := bnd_nm h
  have f := sm_I f (fun q => nh_196 q.1) eσ4
  obtain ⟨σ5, eσ5, h⟩ := bnd_nm h
  have f := sm_I f nh_168_37 eσ5
  obtain ⟨-, rfl⟩ := so_inj h
  exact f
set_option maxRecDepth 10000 in
theorem wX11_readJoint_69 {x y : Nat} {p1 : Int32} {r : Unit} {σ' : gS} {s1 : Int32} {σ : gS} (nh_168_21 : ¬ (x = 168 ∧ y = 21)) (nh_168_37 : ¬ (x = 168 ∧ y = 37)) (nh_168_44 : ¬ (x = 168 ∧ y = 44)) (nh_168_45 : ¬ (x = 168 ∧ y = 45)) (nh_168_46 : ¬ (x = 168 ∧ y = 46)) (nh_168_47 : ¬ (x = 168 ∧ y = 47)) (nh_168_48 : ¬ (x = 168 ∧ y = 48)) (nh_168_49 : ¬ (x = 168 ∧ y = 49)) (nh_168_50 : ¬ (x = 168 ∧ y = 50)) (nh_168_51 : ¬ (x = 168 ∧ y = 51)) (nh_183 : ¬ x = 183) (nh_184 : ¬ x = 184) (nh_185 : ¬ x = 185) (nh_186 : ¬ x = 186) (nh_195 : ¬ x = 195) (nh_196 : ¬ x = 196) (h : fX11_readJoint_69 p1 s1 σ = some (r, σ')) : sm σ σ' x y := by
  unfold fX11_readJoint_69 at h
  have f := sm_r σ x y
  obtain ⟨_, σ1, y2, h⟩ := bd_some h
  have f := sm_t f (wX11_addPart nh_168_37 nh_195 nh_196 y2)
  obtain ⟨_, σ3, y4, h⟩ := bd_some h
  have f := sm_t f (wX11_next nh_168_44 nh_168_45 nh_168_46 nh_168_47 nh_168_48 nh_168_51 y4)
  obtain ⟨x5, σ6, y7, h⟩ := bd_some h
  have f := sm_t f (wX11_bounded nh_168_44 nh_168_45 nh_168_46 nh_168_47 nh_168_48 nh_168_49 nh_168_50 nh_168_51 y7)
  obtain ⟨g8, h⟩ := gg_some h
  obtain ⟨σ9, eσ9, h⟩ := bnd_nm h
  have f := sm_I f (fun q => nh_184 q.1) eσ9
  obtain ⟨x10, σ11, y12, h⟩ := bd_some h
  have f := sm_t f (wX11_bounded nh_168_44 nh_168_45 nh_168_46 nh_168_47 nh_168_48 nh_168_49 nh_168_50 nh_168_51 y12)
  obtain ⟨g13, h⟩ := gg_some h
  obtain ⟨σ14, eσ14, h⟩ := bnd_nm h
  have f := sm_I f (fun q => nh_185 q.1) eσ14
  obtain ⟨_, σ15, y16, h⟩ := bd_some h
  have f := sm_t f (wX11_stop nh_168_44 nh_168_45 nh_168_46 nh_168_47 nh_168_48 nh_168_49 nh_168_50 nh_168_51 y16)
  obtain ⟨-, rfl⟩ := so_inj h
  exact f
set_option maxRecDepth 10000 in
theorem wX11_readJoint_15 {x y : Nat} {p1 : Int32} {r : Unit} {σ' : gS} {s1 : Int32} {σ : gS} (nh_168_21 : ¬ (x = 168 ∧ y = 21)) (nh_168_37 : ¬ (x = 168 ∧ y = 37)) (nh_168_44 : ¬ (x = 168 ∧ y = 44)) (nh_168_45 : ¬ (x = 168 ∧ y = 45)) (nh_168_46 : ¬ (x = 168 ∧ y = 46)) (nh_168_47 : ¬ (x = 168 ∧ y = 47)) (nh_168_48 : ¬ (x = 168 ∧ y = 48)) (nh_168_49 : ¬ (x = 168 ∧ y = 49)) (nh_168_50 : ¬ (x = 168 ∧ y = 50)) (nh_168_51 : ¬ (x = 168 ∧ y = 51)) (nh_183 : ¬ x = 183) (nh_184 : ¬ x = 184) (nh_185 : ¬ x = 185) (nh_186 : ¬ x = 186) (nh_195 : ¬ x = 195) (nh_196 : ¬ x = 196) (h : fX11_readJoint_15 p1 s1 σ = some (r, σ')) : sm σ σ' x y := by
  unfold fX11_readJoint_15 at h
  have f := sm_r σ x y
  obtain ⟨_, σ1, y2, h⟩ := bd_some h
  have f := sm_t f (wX11_newName nh_168_49 nh_168_50 y2)
  obtain ⟨x3, σ4, y5, h⟩ := bd_some h
  have f := sm_t f (wX11_good y5)
  rcases ite_or h with ⟨_, h⟩ | ⟨_, h⟩
  · obtain ⟨-, rfl⟩ := so_inj h
    exact f
  · obtain ⟨g7, h⟩ := gg_some h
    obtain ⟨σ8, eσ8, h⟩ := bnd_nm h
    have f := sm_J f (fun q => nh_183 q.1) eσ8
    obtain ⟨g9, h⟩ := gg_some h
    obtain ⟨σ10, eσ10, h⟩ := bnd_nm h
    have f := sm_I f (fun q => nh_186 q.1) eσ10
    obtain ⟨σ11, eσ11, h⟩ := bnd_nm h
    have f := sm_I f nh_168_21 eσ11
    rcases ite_or h with ⟨_, h⟩ | ⟨_, h⟩
    · exact sm_t f (wX11_readJoint_69 nh_168_21 nh_168_37 nh_168_44 nh_168_45 nh_168_46 nh_168_47 nh_168_48 nh_168_49 nh_168_50 nh_168_51 nh_183 nh_184 nh_185 nh_186 nh_195 nh_196 h)
    · exact sm_t f (wX11_readJoint_69 nh_168_21 nh_168_37 nh_168_44 nh_168_45 nh_168_46 nh_168_47 nh_168_48 nh_168_49 nh_168_50 nh_168_51 nh_183 nh_184 nh_185 nh_186 nh_195 nh_196 h)
set_option maxRecDepth 10000 in
theorem wX11_readJoint {x y : Nat} {p1 : Int32} {r : Unit} {σ' : gS} {σ : gS} (nh_168_21 : ¬ (x = 168 ∧ y = 21)) (nh_168_37 : ¬ (x = 168 ∧ y = 37)) (nh_168_44 : ¬ (x = 168 ∧ y = 44)) (nh_168_45 : ¬ (x = 168 ∧ y = 45)) (nh_168_46 : ¬ (x = 168 ∧ y = 46)) (nh_168_47 : ¬ (x = 168 ∧ y = 47)) (nh_168_48 : ¬ (x = 168 ∧ y = 48)) (nh_168_49 : ¬ (x = 168 ∧ y = 49)) (nh_168_50 : ¬ (x = 168 ∧ y = 50)) (nh_168_51 : ¬ (x = 168 ∧ y = 51)) (nh_183 : ¬ x = 183) (nh_184 : ¬ x = 184) (nh_185 : ¬ x = 185) (nh_186 : ¬ x = 186) (nh_195 : ¬ x = 195) (nh_196 : ¬ x = 196) (h : fX11_readJoint p1 σ = some (r, σ')) : sm σ σ' x y := by
  unfold fX11_readJoint at h
  have f := sm_r σ x y
  rcases ite_or h with ⟨_, h⟩ | ⟨_, h⟩
  · exact sm_t f (wX11_readJoint_15 nh_168_21 nh_168_37 nh_168_44 nh_168_45 nh_168_46 nh_168_47 nh_168_48 nh_168_49 nh_168_50 nh_168_51 nh_183 nh_184 nh_185 nh_186 nh_195 nh_196 h)
  · exact sm_t f (wX11_readJoint_15 nh_168_21 nh_168_37 nh_168_44 nh_168_45 nh_168_46 nh_168_47 nh_168_48 nh_168_49 nh_168_50 nh_168_51 nh_183 nh_184 nh_185 nh_186 nh_195 nh_196 h)
set_option maxRecDepth 10000 in
theorem wX11_hasBar_50 {x y : Nat} {p1 : Int32} {p2 : Int32} {r : Int32} {σ' : gS} {σ : gS} (h : fX11_hasBar_50 p1 p2 σ = some (r, σ')) : sm σ σ' x y := by
  unfold fX11_hasBar_50 at h
  have f := sm_r σ x y
  obtain ⟨-, rfl⟩ := so_inj h
  exact f
set_option maxRecDepth 10000 in
theorem wX11_hasBar_52 {x y : Nat} {p1 : Int32} {p2 : Int32} {k2 : Int32 → gS → Option (Int32 × gS)} {r : Int32} {σ' : gS} {v3 : Int32} {σ : gS} (hk2 : ∀ (v3 : Int32) (σ : gS), k2 v3 σ = some (r, σ') → sm σ σ' x y) (h : fX11_hasBar_52 p1 p2 k2 v3 σ = some (r, σ')) : sm σ σ' x y := by
  unfold fX11_hasBar_52 at h
  have f := sm_r σ x y
  obtain ⟨x1, ex1, h⟩ := bnd_nm h
  exact sm_t f (hk2 x1 σ h)
set_option maxRecDepth 10000 in
theorem wX11_hasBar_30 {x y : Nat} {p1 : Int32} {p2 : Int32} {k2 : Int32 → gS → Option (Int32 × gS)} {r : Int32} {σ' : gS} {v3 : Int32} {σ : gS} (hk2 : ∀ (v3 : Int32) (σ : gS), k2 v3 σ = some (r, σ') → sm σ σ' x y) (h : fX11_hasBar_30 p1 p2 k2 v3 σ = some (r, σ')) : sm σ σ' x y := by
  unfold fX11_hasBar_30 at h
  have f := sm_r σ x y
  obtain ⟨g1, h⟩ := gg_some h
  rcases ite_or h with ⟨_, h⟩ | ⟨_, h⟩
  · obtain ⟨g3, h⟩ := gg_some h
    rcases ite_or h with ⟨_, h⟩ | ⟨_, h⟩
    · exact sm_t f (wX11_hasBar_50 h)
    · exact sm_t f (wX11_hasBar_52 hk2 h)
  · exact sm_t f (wX11_hasBar_52 hk2 h)
set_option maxRecDepth 10000 in
theorem wX11_hasBar_2 {x y : Nat} {p1 : Int32} {p2 : Int32} {r : Int32} {σ' : gS} : ∀ (n : Nat) (v3 : Int32) (σ : gS), fX11_hasBar_2 p1 p2 n v3 σ = some (r, σ') → sm σ σ' x y := by
  intro n
  induction n with
  | zero => intro v3 σ h; exact absurd (show none = some (r, σ') from h) (by intro q; cases q)
  | succ n ih =>
  intro v3 σ h
  unfold fX11_hasBar_2 at h
  have f := sm_r σ x y
  rcases ite_or h with ⟨_, h⟩ | ⟨_, h⟩
  · obtain ⟨-, rfl⟩ := so_inj h
    exact f
  · obtain ⟨g2, h⟩ := gg_some h
    rcases ite_or h with ⟨_, h⟩ | ⟨_, h⟩
    · obtain ⟨g4, h⟩ := gg_some h
      rcases ite_or h with ⟨_, h⟩ | ⟨_, h⟩
      · exact sm_t f (wX11_hasBar_50 h)
      · exact sm_t f (wX11_hasBar_30 (fun v3 σ h => ih v3 σ h) h)
    · exact sm_t f (wX11_hasBar_30 (fun v3 σ h => ih v3 σ h) h)
set_option maxRecDepth 10000 in
theorem wX11_hasBar {x y : Nat} {p1 : Int32} {p2 : Int32} {r : Int32} {σ' : gS} {σ : gS} (h : fX11_hasBar p1 p2 σ = some (r, σ')) : sm σ σ' x y := by
  unfold fX11_hasBar at h
  have f := sm_r σ x y
  exact sm_t f (wX11_hasBar_2 2000 0 σ h)
set_option maxRecDepth 10000 in
theorem wX11_addBar_127 {x y : Nat} {p1 : Int32} {p2 : Int32} {r : Unit} {σ' : gS} {σ : gS} (nh_168_30 : ¬ (x = 168 ∧ y = 30)) (nh_168_37 : ¬ (x = 168 ∧ y = 37)) (nh_168_49 : ¬ (x = 168 ∧ y = 49)) (nh_168_50 : ¬ (x = 168 ∧ y = 50)) (nh_190 : ¬ x = 190) (nh_191 : ¬ x = 191) (nh_195 : ¬ x = 195) (nh_196 : ¬ x = 196) (h : fX11_addBar_127 p1 p2 σ = some (r, σ')) : sm σ σ' x y := by
  unfold fX11_addBar_127 at h
  have f := sm_r σ x y
  obtain ⟨-, rfl⟩ := so_inj h
  exact f
set_option maxRecDepth 10000 in
theorem wX11_addBar_79 {x y : Nat} {p1 : Int32} {p2 : Int32} {r : Unit} {σ' : gS} {σ : gS} (nh_168_30 : ¬ (x = 168 ∧ y = 30)) (nh_168_37 : ¬ (x = 168 ∧ y = 37)) (nh_168_49 : ¬ (x = 168 ∧ y = 49)) (nh_168_50 : ¬ (x = 168 ∧ y = 50)) (nh_190 : ¬ x = 190) (nh_191 : ¬ x = 191) (nh_195 : ¬ x = 195) (nh_196 : ¬ x = 196) (h : fX11_addBar_79 p1 p2 σ = some (r, σ')) : sm σ σ' x y := by
  unfold fX11_addBar_79 at h
  have f := sm_r σ x y
  obtain ⟨x1, σ2, y3, h⟩ := bd_some h
  have f := sm_t f (wX11_good y3)
  rcases ite_or h with ⟨_, h⟩ | ⟨_, h⟩
  · exact sm_t f (wX11_addBar_127 nh_168_30 nh_168_37 nh_168_49 nh_168_50 nh_190 nh_191 nh_195 nh_196 h)
  · obtain ⟨g5, h⟩ := gg_some h
    obtain ⟨σ6, eσ6, h⟩ := bnd_nm h
    have f := sm_I f (fun q => nh_190 q.1) eσ6
    obtain ⟨g7, h⟩ := gg_some h
    obtain ⟨σ8, eσ8, h⟩ := bnd_nm h
    have f := sm_I f (fun q => nh_191 q.1) eσ8
    obtain ⟨σ9, eσ9, h⟩ := bnd_nm h
    have f := sm_I f nh_168_30 eσ9
    obtain ⟨_, σ10, y11, h⟩ := bd_some h
    have f := sm_t f (wX11_addPart nh_168_37 nh_195 nh_196 y11)
    exact sm_t f (wX11_addBar_127 nh_168_30 nh_168_37 nh_168_49 nh_168_50 nh_190 nh_191 nh_195 nh_196 h)
set_option maxRecDepth 10000 in
theorem wX11_addBar_73 {x y : Nat} {p1 : Int32} {p2 : Int32} {r : Unit} {σ' : gS} {σ : gS} (nh_168_30 : ¬ (x = 168 ∧ y = 30)) (nh_168_37 : ¬ (x = 168 ∧ y = 37)) (nh_168_49 : ¬ (x = 168 ∧ y = 49)) (nh_168_50 : ¬ (x = 168 ∧ y = 50)) (nh_190 : ¬ x = 190) (nh_191 : ¬ x = 191) (nh_195 : ¬ x = 195) (nh_196 : ¬ x = 196) (h : fX11_addBar_73 p1 p2 σ = some (r, σ')) : sm σ σ' x y := by
  unfold fX11_addBar_73 at h
  have f := sm_r σ x y
  obtain ⟨_, σ1, y2, h⟩ := bd_some h
  have f := sm_t f (wX11_bad nh_168_49 nh_168_50 y2)
  exact sm_t f (wX11_addBar_79 nh_168_30 nh_168_37 nh_168_49 nh_168_50 nh_190 nh_191 nh_195 nh_196 h)
set_option maxRecDepth 10000 in
theorem wX11_addBar_64 {x y : Nat} {p1 : Int32} {p2 : Int32} {r : Unit} {σ' : gS} {σ : gS} (nh_168_30 : ¬ (x = 168 ∧ y = 30)) (nh_168_37 : ¬ (x = 168 ∧ y = 37)) (nh_168_49 : ¬ (x = 168 ∧ y = 49)) (nh_168_50 : ¬ (x = 168 ∧ y = 50)) (nh_190 : ¬ x = 190) (nh_191 : ¬ x = 191) (nh_195 : ¬ x = 195) (nh_196 : ¬ x = 196) (h : fX11_addBar_64 p1 p2 σ = some (r, σ')) : sm σ σ' x y := by
  unfold fX11_addBar_64 at h
  have f := sm_r σ x y
  obtain ⟨x1, σ2, y3, h⟩ := bd_some h
  have f := sm_t f (wX11_hasBar y3)
  rcases ite_or h with ⟨_, h⟩ | ⟨_, h⟩
  · exact sm_t f (wX11_addBar_79 nh_168_30 nh_168_37 nh_168_49 nh_168_50 nh_190 nh_191 nh_195 nh_196 h)
  · exact sm_t f (wX11_addBar_73 nh_168_30 nh_168_37 nh_168_49 nh_168_50 nh_190 nh_191 nh_195 nh_196 h)
set_option maxRecDepth 10000 in
theorem wX11_addBar_22 {x y : Nat} {p1 : Int32} {p2 : Int32} {r : Unit} {σ' : gS} {σ : gS} (nh_168_30 : ¬ (x = 168 ∧ y = 30)) (nh_168_37 : ¬ (x = 168 ∧ y = 37)) (nh_168_49 : ¬ (x = 168 ∧ y = 49)) (nh_168_50 : ¬ (x = 168 ∧ y = 50)) (nh_190 : ¬ x = 190) (nh_191 : ¬ x = 191) (nh_195 : ¬ x = 195) (nh_196 : ¬ x = 196) (h : fX11_addBar_22 p1 p2 σ = some (r, σ')) : sm σ σ' x y := by
  unfold fX11_addBar_22 at h
  have f := sm_r σ x y
  obtain ⟨x1, σ2, y3, h⟩ := bd_some h
  have f := sm_t f (wX11_good y3)
  rcases ite_or h with ⟨_, h⟩ | ⟨_, h⟩
  · exact sm_t f (wX11_addBar_79 nh_168_30 nh_168_37 nh_168_49 nh_168_50 nh_190 nh_191 nh_195 nh_196 h)
  · rcases ite_or h with ⟨_, h⟩ | ⟨_, h⟩
    · exact sm_t f (wX11_addBar_73 nh_168_30 nh_168_37 nh_168_49 nh_168_50 nh_190 nh_191 nh_195 nh_196 h)
    · obtain ⟨g6, h⟩ := gg_some h
      obtain ⟨g7, h⟩ := gg_some h
      rcases ite_or h with ⟨_, h⟩ | ⟨_, h⟩
      · obtain ⟨g9, h⟩ := gg_some h
        obtain ⟨g10, h⟩ := gg_some h
        rcases ite_or h with ⟨_, h⟩ | ⟨_, h⟩
        · exact sm_t f (wX11_addBar_73 nh_168_30 nh_168_37 nh_168_49 nh_168_50 nh_190 nh_191 nh_195 nh_196 h)
        · exact sm_t f (wX11_addBar_64 nh_168_30 nh_168_37 nh_168_49 nh_168_50 nh_190 nh_191 nh_195 nh_196 h)
      · exact sm_t f (wX11_addBar_64 nh_168_30 nh_168_37 nh_168_49 nh_168_50 nh_190 nh_191 nh_195 nh_196 h)
set_option maxRecDepth 10000 in
theorem wX11_addBar {x y : Nat} {p1 : Int32} {p2 : Int32} {r : Unit} {σ' : gS} {σ : gS} (nh_168_30 : ¬ (x = 168 ∧ y = 30)) (nh_168_37 : ¬ (x = 168 ∧ y = 37)) (nh_168_49 : ¬ (x = 168 ∧ y = 49)) (nh_168_50 : ¬ (x = 168 ∧ y = 50)) (nh_190 : ¬ x = 190) (nh_191 : ¬ x = 191) (nh_195 : ¬ x = 195) (nh_196 : ¬ x = 196) (h : fX11_addBar p1 p2 σ = some (r, σ')) : sm σ σ' x y := by
  unfold fX11_addBar at h
  have f := sm_r σ x y
  obtain ⟨x1, σ2, y3, h⟩ := bd_some h
  have f := sm_t f (wX11_good y3)
  rcases ite_or h with ⟨_, h⟩ | ⟨_, h⟩
  · exact sm_t f (wX11_addBar_22 nh_168_30 nh_168_37 nh_168_49 nh_168_50 nh_190 nh_191 nh_195 nh_196 h)
  · rcases ite_or h with ⟨_, h⟩ | ⟨_, h⟩
    · obtain ⟨_, σ6, y7, h⟩ := bd_some h
      have f := sm_t f (wX11_bad nh_168_49 nh_168_50 y7)
      exact sm_t f (wX11_addBar_22 nh_168_30 nh_168_37 nh_168_49 nh_168_50 nh_190 nh_191 nh_195 nh_196 h)
    · exact sm_t f (wX11_addBar_22 nh_168_30 nh_168_37 nh_168_49 nh_168_50 nh_190 nh_191 nh_195 nh_196 h)
set_option maxRecDepth 10000 in
theorem wX11_readBars_90 {x y : Nat} {p1 : Int32} {k33 : Int32 → Int32 → Int32 → Int32 → gS → Option (Unit × gS)} {r : Unit} {σ' : gS} {v2 : Int32} {v3 : Int32} {v4 : Int32} {v5 : Int32} {σ : gS} (hk33 : ∀ (v2 : Int32) (v3 : Int32) (v4 : Int32) (v5 : Int32) (σ : gS), k33 v2 v3 v4 v5 σ = some (r, σ') → sm σ σ' x y) (nh_168_30 : ¬ (x = 168 ∧ y = 30)) (nh_168_37 : ¬ (x = 168 ∧ y = 37)) (nh_168_44 : ¬ (x = 168 ∧ y = 44)) (nh_168_45 : ¬ (x = 168 ∧ y = 45)) (nh_168_46 : ¬ (x = 168 ∧ y = 46)) (nh_168_47 : ¬ (x = 168 ∧ y = 47)) (nh_168_48 : ¬ (x = 168 ∧ y = 48)) (nh_168_49 : ¬ (x = 168 ∧ y = 49)) (nh_168_50 : ¬ (x = 168 ∧ y = 50)) (nh_168_51 : ¬ (x = 168 ∧ y = 51)) (nh_190 : ¬ x = 190) (nh_191 : ¬ x = 191) (nh_195 : ¬ x = 195) (nh_196 : ¬ x = 196) (h : fX11_readBars_90 p1 k33 v2 v3 v4 v5 σ = some (r, σ')) : sm σ σ' x y := by
  unfold fX11_readBars_90 at h
  have f := sm_r σ x y
  exact sm_t f (hk33 v2 v3 v4 v5 σ h)
set_option maxRecDepth 10000 in
theorem wX11_readBars_60 {x y : Nat} {p1 : Int32} {k33 : Int32 → Int32 → Int32 → Int32 → gS → Option (Unit × gS)} {r : Unit} {σ' : gS} {v2 : Int32} {v3 : Int32} {v4 : Int32} {v5 : Int32} {σ : gS} (hk33 : ∀ (v2 : Int32) (v3 : Int32) (v4 : Int32) (v5 : Int32) (σ : gS), k33 v2 v3 v4 v5 σ = some (r, σ') → sm σ σ' x y) (nh_168_30 : ¬ (x = 168 ∧ y = 30)) (nh_168_37 : ¬ (x = 168 ∧ y = 37)) (nh_168_44 : ¬ (x = 168 ∧ y = 44)) (nh_168_45 : ¬ (x = 168 ∧ y = 45)) (nh_168_46 : ¬ (x = 168 ∧ y = 46)) (nh_168_47 : ¬ (x = 168 ∧ y = 47)) (nh_168_48 : ¬ (x = 168 ∧ y = 48)) (nh_168_49 : ¬ (x = 168 ∧ y = 49)) (nh_168_50 : ¬ (x = 168 ∧ y = 50)) (nh_168_51 : ¬ (x = 168 ∧ y = 51)) (nh_190 : ¬ x = 190) (nh_191 : ¬ x = 191) (nh_195 : ¬ x = 195) (nh_196 : ¬ x = 196) (h : fX11_readBars_60 p1 k33 v2 v3 v4 v5 σ = some (r, σ')) : sm σ σ' x y := by
  unfold fX11_readBars_60 at h
  have f := sm_r σ x y
  obtain ⟨x1, σ2, y3, h⟩ := bd_some h
  have f := sm_t f (wX11_oldJoint nh_168_49 nh_168_50 y3)
  obtain ⟨_, σ4, y5, h⟩ := bd_some h
  have f := sm_t f (wX11_addBar nh_168_30 nh_168_37 nh_168_49 nh_168_50 nh_190 nh_191 nh_195 nh_196 y5)
  obtain ⟨x6, ex6, h⟩ := bnd_nm h
  obtain ⟨x7, σ8, y9, h⟩ := bd_some h
  have f := sm_t f (wX11_good y9)
  rcases ite_or h with ⟨_, h⟩ | ⟨_, h⟩
  · exact sm_t f (wX11_readBars_90 hk33 nh_168_30 nh_168_37 nh_168_44 nh_168_45 nh_168_46 nh_168_47 nh_168_48 nh_168_49 nh_168_50 nh_168_51 nh_190 nh_191 nh_195 nh_196 h)
  · obtain ⟨_, σ11, y12, h⟩ := bd_some h
    have f := sm_t f (wX11_next nh_168_44 nh_168_45 nh_168_46 nh_168_47 nh_168_48 nh_168_51 y12)
    exact sm_t f (wX11_readBars_90 hk33 nh_168_30 nh_168_37 nh_168_44 nh_168_45 nh_168_46 nh_168_47 nh_168_48 nh_168_49 nh_168_50 nh_168_51 nh_190 nh_191 nh_195 nh_196 h)
set_option maxRecDepth 10000 in
theorem wX11_readBars_116 {x y : Nat} {p1 : Int32} {r : Unit} {σ' : gS} {σ : gS} (nh_168_30 : ¬ (x = 168 ∧ y = 30)) (nh_168_37 : ¬ (x = 168 ∧ y = 37)) (nh_168_44 : ¬ (x = 168 ∧ y = 44)) (nh_168_45 : ¬ (x = 168 ∧ y = 45)) (nh_168_46 : ¬ (x = 168 ∧ y = 46)) (nh_168_47 : ¬ (x = 168 ∧ y = 47)) (nh_168_48 : ¬ (x = 168 ∧ y = 48)) (nh_168_49 : ¬ (x = 168 ∧ y = 49)) (nh_168_50 : ¬ (x = 168 ∧ y = 50)) (nh_168_51 : ¬ (x = 168 ∧ y = 51)) (nh_190 : ¬ x = 190) (nh_191 : ¬ x = 191) (nh_195 : ¬ x = 195) (nh_196 : ¬ x = 196) (h : fX11_readBars_116 p1 σ = some (r, σ')) : sm σ σ' x y := by
  unfold fX11_readBars_116 at h
  have f := sm_r σ x y
  obtain ⟨_, σ1, y2, h⟩ := bd_some h
  have f := sm_t f (wX11_stop nh_168_44 nh_168_45 nh_168_46 nh_168_47 nh_168_48 nh_168_49 nh_168_50 nh_168_51 y2)
  obtain ⟨-, rfl⟩ := so_inj h
  exact f
set_option maxRecDepth 10000 in
theorem wX11_readBars_93 {x y : Nat} {p1 : Int32} {r : Unit} {σ' : gS} {v2 : Int32} {v3 : Int32} {σ : gS} (nh_168_30 : ¬ (x = 168 ∧ y = 30)) (nh_168_37 : ¬ (x = 168 ∧ y = 37)) (nh_168_44 : ¬ (x = 168 ∧ y = 44)) (nh_168_45 : ¬ (x = 168 ∧ y = 45)) (nh_168_46 : ¬ (x = 168 ∧ y = 46)) (nh_168_47 : ¬ (x = 168 ∧ y = 47)) (nh_168_48 : ¬ (x = 168 ∧ y = 48)) (nh_168_49 : ¬ (x = 168 ∧ y = 49)) (nh_168_50 : ¬ (x = 168 ∧ y = 50)) (nh_168_51 : ¬ (x = 168 ∧ y = 51)) (nh_190 : ¬ x = 190) (nh_191 : ¬ x = 191) (nh_195 : ¬ x = 195) (nh_196 : ¬ x = 196) (h : fX11_readBars_93 p1 v2 v3 σ = some (r, σ')) : sm σ σ' x y := by
  unfold fX11_readBars_93 at h
  have f := sm_r σ x y
  obtain ⟨_, σ1, y2, h⟩ := bd_some h
  have f := sm_t f (wX11_want nh_168_49 nh_168_50 y2)
  obtain ⟨x3, σ4, y5, h⟩ := bd_some h
  have f := sm_t f (wX11_good y5)
  rcases ite_or h with ⟨_, h⟩ | ⟨_, h⟩
  · exact sm_t f (wX11_readBars_116 nh_168_30 nh_168_37 nh_168_44 nh_168_45 nh_168_46 nh_168_47 nh_168_48 nh_168_49 nh_168_50 nh_168_51 nh_190 nh_191 nh_195 nh_196 h)
  · rcases ite_or h with ⟨_, h⟩ | ⟨_, h⟩
    · obtain ⟨_, σ8, y9, h⟩ := bd_some h
      have f := sm_t f (wX11_addBar nh_168_30 nh_168_37 nh_168_49 nh_168_50 nh_190 nh_191 nh_195 nh_196 y9)
      exact sm_t f (wX11_readBars_116 nh_168_30 nh_168_37 nh_168_44 nh_168_45 nh_168_46 nh_168_47 nh_168_48 nh_168_49 nh_168_50 nh_168_51 nh_190 nh_191 nh_195 nh_196 h)
    · exact sm_t f (wX11_readBars_116 nh_168_30 nh_168_37 nh_168_44 nh_168_45 nh_168_46 nh_168_47 nh_168_48 nh_168_49 nh_168_50 nh_168_51 nh_190 nh_191 nh_195 nh_196 h)
set_option maxRecDepth 10000 in
theorem wX11_readBars_33 {x y : Nat} {p1 : Int32} {r : Unit} {σ' : gS} (nh_168_30 : ¬ (x = 168 ∧ y = 30)) (nh_168_37 : ¬ (x = 168 ∧ y = 37)) (nh_168_44 : ¬ (x = 168 ∧ y = 44)) (nh_168_45 : ¬ (x = 168 ∧ y = 45)) (nh_168_46 : ¬ (x = 168 ∧ y = 46)) (nh_168_47 : ¬ (x = 168 ∧ y = 47)) (nh_168_48 : ¬ (x = 168 ∧ y = 48)) (nh_168_49 : ¬ (x = 168 ∧ y = 49)) (nh_168_50 : ¬ (x = 168 ∧ y = 50)) (nh_168_51 : ¬ (x = 168 ∧ y = 51)) (nh_190 : ¬ x = 190) (nh_191 : ¬ x = 191) (nh_195 : ¬ x = 195) (nh_196 : ¬ x = 196) : ∀ (n : Nat) (v2 : Int32) (v3 : Int32) (v4 : Int32) (v5 : Int32) (σ : gS), fX11_readBars_33 p1 n v2 v3 v4 v5 σ = some (r, σ') → sm σ σ' x y := by
  intro n
  induction n with
  | zero => intro v2 v3 v4 v5 σ h; exact absurd (show none = some (r, σ') from h) (by intro q; cases q)
  | succ n ih =>
  intro v2 v3 v4 v5 σ h
  unfold fX11_readBars_33 at h
  have f := sm_r σ x y
  obtain ⟨x1, σ2, y3, h⟩ := bd_some h
  have f := sm_t f (wX11_good y3)
  rcases ite_or h with ⟨_, h⟩ | ⟨_, h⟩
  · exact sm_t f (wX11_readBars_93 nh_168_30 nh_168_37 nh_168_44 nh_168_45 nh_168_46 nh_168_47 nh_168_48 nh_168_49 nh_168_50 nh_168_51 nh_190 nh_191 nh_195 nh_196 h)
  · rcases ite_or h with ⟨_, h⟩ | ⟨_, h⟩
    · exact sm_t f (wX11_readBars_60 (fun v2 v3 v4 v5 σ h => ih v2 v3 v4 v5 σ h) nh_168_30 nh_168_37 nh_168_44 nh_168_45 nh_168_46 nh_168_47 nh_168_48 nh_168_49 nh_168_50 nh_168_51 nh_190 nh_191 nh_195 nh_196 h)
    · rcases ite_or h with ⟨_, h⟩ | ⟨_, h⟩
      · exact sm_t f (wX11_readBars_93 nh_168_30 nh_168_37 nh_168_44 nh_168_45 nh_168_46 nh_168_47 nh_168_48 nh_168_49 nh_168_50 nh_168_51 nh_190 nh_191 nh_195 nh_196 h)
      · rcases ite_or h with ⟨_, h⟩ | ⟨_, h⟩
        · exact sm_t f (wX11_readBars_60 (fun v2 v3 v4 v5 σ h => ih v2 v3 v4 v5 σ h) nh_168_30 nh_168_37 nh_168_44 nh_168_45 nh_168_46 nh_168_47 nh_168_48 nh_168_49 nh_168_50 nh_168_51 nh_190 nh_191 nh_195 nh_196 h)
        · exact sm_t f (wX11_readBars_93 nh_168_30 nh_168_37 nh_168_44 nh_168_45 nh_168_46 nh_168_47 nh_168_48 nh_168_49 nh_168_50 nh_168_51 nh_190 nh_191 nh_195 nh_196 h)
set_option maxRecDepth 10000 in
theorem wX11_readBars_31 {x y : Nat} {p1 : Int32} {r : Unit} {σ' : gS} {v2 : Int32} {v3 : Int32} {v4 : Int32} {s0 : Int32} {σ : gS} (nh_168_30 : ¬ (x = 168 ∧ y = 30)) (nh_168_37 : ¬ (x = 168 ∧ y = 37)) (nh_168_44 : ¬ (x = 168 ∧ y = 44)) (nh_168_45 : ¬ (x = 168 ∧ y = 45)) (nh_168_46 : ¬ (x = 168 ∧ y = 46)) (nh_168_47 : ¬ (x = 168 ∧ y = 47)) (nh_168_48 : ¬ (x = 168 ∧ y = 48)) (nh_168_49 : ¬ (x = 168 ∧ y = 49)) (nh_168_50 : ¬ (x = 168 ∧ y = 50)) (nh_168_51 : ¬ (x = 168 ∧ y = 51)) (nh_190 : ¬ x = 190) (nh_191 : ¬ x = 191) (nh_195 : ¬ x = 195) (nh_196 : ¬ x = 196) (h : fX11_readBars_31 p1 v2 v3 v4 s0 σ = some (r, σ')) : sm σ σ' x y := by
  unfold fX11_readBars_31 at h
  have f := sm_r σ x y
  exact sm_t f (wX11_readBars_33 nh_168_30 nh_168_37 nh_168_44 nh_168_45 nh_168_46 nh_168_47 nh_168_48 nh_168_49 nh_168_50 nh_168_51 nh_190 nh_191 nh_195 nh_196 2000 v2 v3 v4 s0 σ h)
set_option maxRecDepth 10000 in
theorem wX11_readBars_21 {x y : Nat} {p1 : Int32} {r : Unit} {σ' : gS} {v2 : Int32} {v3 : Int32} {v4 : Int32} {σ : gS} (nh_168_30 : ¬ (x = 168 ∧ y = 30)) (nh_168_37 : ¬ (x = 168 ∧ y = 37)) (nh_168_44 : ¬ (x = 168 ∧ y = 44)) (nh_168_45 : ¬ (x = 168 ∧ y = 45)) (nh_168_46 : ¬ (x = 168 ∧ y = 46)) (nh_168_47 : ¬ (x = 168 ∧ y = 47)) (nh_168_48 : ¬ (x = 168 ∧ y = 48)) (nh_168_49 : ¬ (x = 168 ∧ y = 49)) (nh_168_50 : ¬ (x = 168 ∧ y = 50)) (nh_168_51 : ¬ (x = 168 ∧ y = 51)) (nh_190 : ¬ x = 190) (nh_191 : ¬ x = 191) (nh_195 : ¬ x = 195) (nh_196 : ¬ x = 196) (h : fX11_readBars_21 p1 v2 v3 v4 σ = some (r, σ')) : sm σ σ' x y := by
  unfold fX11_readBars_21 at h
  have f := sm_r σ x y
  rcases ite_or h with ⟨_, h⟩ | ⟨_, h⟩
  · exact sm_t f (wX11_readBars_31 nh_168_30 nh_168_37 nh_168_44 nh_168_45 nh_168_46 nh_168_47 nh_168_48 nh_168_49 nh_168_50 nh_168_51 nh_190 nh_191 nh_195 nh_196 h)
  · exact sm_t f (wX11_readBars_31 nh_168_30 nh_168_37 nh_168_44 nh_168_45 nh_168_46 nh_168_47 nh_168_48 nh_168_49 nh_168_50 nh_168_51 nh_190 nh_191 nh_195 nh_196 h)
set_option maxRecDepth 10000 in
theorem wX11_readBars {x y : Nat} {p1 : Int32} {r : Unit} {σ' : gS} {σ : gS} (nh_168_30 : ¬ (x = 168 ∧ y = 30)) (nh_168_37 : ¬ (x = 168 ∧ y = 37)) (nh_168_44 : ¬ (x = 168 ∧ y = 44)) (nh_168_45 : ¬ (x = 168 ∧ y = 45)) (nh_168_46 : ¬ (x = 168 ∧ y = 46)) (nh_168_47 : ¬ (x = 168 ∧ y = 47)) (nh_168_48 : ¬ (x = 168 ∧ y = 48)) (nh_168_49 : ¬ (x = 168 ∧ y = 49)) (nh_168_50 : ¬ (x = 168 ∧ y = 50)) (nh_168_51 : ¬ (x = 168 ∧ y = 51)) (nh_190 : ¬ x = 190) (nh_191 : ¬ x = 191) (nh_195 : ¬ x = 195) (nh_196 : ¬ x = 196) (h : fX11_readBars p1 σ = some (r, σ')) : sm σ σ' x y := by
  unfold fX11_readBars at h
  have f := sm_r σ x y
  obtain ⟨x1, σ2, y3, h⟩ := bd_some h
  have f := sm_t f (wX11_oldJoint nh_168_49 nh_168_50 y3)
  obtain ⟨x4, σ5, y6, h⟩ := bd_some h
  have f := sm_t f (wX11_good y6)
  rcases ite_or h with ⟨_, h⟩ | ⟨_, h⟩
  · exact sm_t f (wX11_readBars_21 nh_168_30 nh_168_37 nh_168_44 nh_168_45 nh_168_46 nh_168_47 nh_168_48 nh_168_49 nh_168_50 nh_168_51 nh_190 nh_191 nh_195 nh_196 h)
  · obtain ⟨_, σ8, y9, h⟩ := bd_some h
    have f := sm_t f (wX11_next nh_168_44 nh_168_45 nh_168_46 nh_168_47 nh_168_48 nh_168_51 y9)
    exact sm_t f (wX11_readBars_21 nh_168_30 nh_168_37 nh_168_44 nh_168_45 nh_168_46 nh_168_47 nh_168_48 nh_168_49 nh_168_50 nh_168_51 nh_190 nh_191 nh_195 nh_196 h)
set_option maxRecDepth 10000 in
theorem wX11_readWheel_137 {x y : Nat} {r : Unit} {σ' : gS} {σ : gS} (nh_168_26 : ¬ (x = 168 ∧ y = 26)) (nh_168_37 : ¬ (x = 168 ∧ y = 37)) (nh_168_44 : ¬ (x = 168 ∧ y = 44)) (nh_168_45 : ¬ (x = 168 ∧ y = 45)) (nh_168_46 : ¬ (x = 168 ∧ y = 46)) (nh_168_47 : ¬ (x = 168 ∧ y = 47)) (nh_168_48 : ¬ (x = 168 ∧ y = 48)) (nh_168_49 : ¬ (x = 168 ∧ y = 49)) (nh_168_50 : ¬ (x = 168 ∧ y = 50)) (nh_168_51 : ¬ (x = 168 ∧ y = 51)) (nh_187 : ¬ x = 187) (nh_188 : ¬ x = 188) (nh_189 : ¬ x = 189) (nh_195 : ¬ x = 195) (nh_196 : ¬ x = 196) (h : fX11_readWheel_137 σ = some (r, σ')) : sm σ σ' x y := by
  unfold fX11_readWheel_137 at h
  have f := sm_r σ x y
  obtain ⟨_, σ1, y2, h⟩ := bd_some h
  have f := sm_t f (wX11_stop nh_168_44 nh_168_45 nh_168_46 nh_168_47 nh_168_48 nh_168_49 nh_168_50 nh_168_51 y2)
  obtain ⟨-, rfl⟩ := so_inj h
  exact f
set_option maxRecDepth 10000 in
theorem wX11_readWheel_68 {x y : Nat} {r : Unit} {σ' : gS} {v1 : Int64} {v3 : Int32} {σ : gS} (nh_168_26 : ¬ (x = 168 ∧ y = 26)) (nh_168_37 : ¬ (x = 168 ∧ y = 37)) (nh_168_44 : ¬ (x = 168 ∧ y = 44)) (nh_168_45 : ¬ (x = 168 ∧ y = 45)) (nh_168_46 : ¬ (x = 168 ∧ y = 46)) (nh_168_47 : ¬ (x = 168 ∧ y = 47)) (nh_168_48 : ¬ (x = 168 ∧ y = 48)) (nh_168_49 : ¬ (x = 168 ∧ y = 49)) (nh_168_50 : ¬ (x = 168 ∧ y = 50)) (nh_168_51 : ¬ (x = 168 ∧ y = 51)) (nh_187 : ¬ x = 187) (nh_188 : ¬ x = 188) (nh_189 : ¬ x = 189) (nh_195 : ¬ x = 195) (nh_196 : ¬ x = 196) (h : fX11_readWheel_68 v1 v3 σ = some (r, σ')) : sm σ σ' x y := by
  unfold fX11_readWheel_68 at h
  have f := sm_r σ x y
  obtain ⟨x1, σ2, y3, h⟩ := bd_some h
  have f := sm_t f (wX11_bounded nh_168_44 nh_168_45 nh_168_46 nh_168_47 nh_168_48 nh_168_49 nh_168_50 nh_168_51 y3)
  obtain ⟨x4, σ5, y6, h⟩ := bd_some h
  have f := sm_t f (wX11_good y6)
  rcases ite_or h with ⟨_, h⟩ | ⟨_, h⟩
  · exact sm_t f (wX11_readWheel_137 nh_168_26 nh_168_37 nh_168_44 nh_168_45 nh_168_46 nh_168_47 nh_168_48 nh_168_49 nh_168_50 nh_168_51 nh_187 nh_188 nh_189 nh_195 nh_196 h)
  · obtain ⟨g8, h⟩ := gg_some h
    obtain ⟨σ9, eσ9, h⟩ := bnd_nm h
    have f := sm_J f (fun q => nh_187 q.1) eσ9
    obtain ⟨g10, h⟩ := gg_some h
    obtain ⟨σ11, eσ11, h⟩ := bnd_nm h
    have f := sm_I f (fun q => nh_188 q.1) eσ11
    obtain ⟨g12, h⟩ := gg_some h
    obtain ⟨σ13, eσ13, h⟩ := bnd_nm h
    have f := sm_I f (fun q => nh_189 q.1) eσ13
    obtain ⟨σ14, eσ14, h⟩ := bnd_nm h
    have f := sm_I f nh_168_26 eσ14
    obtain ⟨_, σ15, y16, h⟩ := bd_some h
    have f := sm_t f (wX11_addPart nh_168_37 nh_195 nh_196 y16)
    exact sm_t f (wX11_readWheel_137 nh_168_26 nh_168_37 nh_168_44 nh_168_45 nh_168_46 nh_168_47 nh_168_48 nh_168_49 nh_168_50 nh_168_51 nh_187 nh_188 nh_189 nh_195 nh_196 h)
set_option maxRecDepth 10000 in
theorem wX11_readWheel_56 {x y : Nat} {r : Unit} {σ' : gS} {v1 : Int64} {s0 : Int32} {σ : gS} (nh_168_26 : ¬ (x = 168 ∧ y = 26)) (nh_168_37 : ¬ (x = 168 ∧ y = 37)) (nh_168_44 : ¬ (x = 168 ∧ y = 44)) (nh_168_45 : ¬ (x = 168 ∧ y = 45)) (nh_168_46 : ¬ (x = 168 ∧ y = 46)) (nh_168_47 : ¬ (x = 168 ∧ y = 47)) (nh_168_48 : ¬ (x = 168 ∧ y = 48)) (nh_168_49 : ¬ (x = 168 ∧ y = 49)) (nh_168_50 : ¬ (x = 168 ∧ y = 50)) (nh_168_51 : ¬ (x = 168 ∧ y = 51)) (nh_187 : ¬ x = 187) (nh_188 : ¬ x = 188) (nh_189 : ¬ x = 189) (nh_195 : ¬ x = 195) (nh_196 : ¬ x = 196) (h : fX11_readWheel_56 v1 s0 σ = some (r, σ')) : sm σ σ' x y := by
  unfold fX11_readWheel_56 at h
  have f := sm_r σ x y
  obtain ⟨x1, σ2, y3, h⟩ := bd_some h
  have f := sm_t f (wX11_good y3)
  rcases ite_or h with ⟨_, h⟩ | ⟨_, h⟩
  · exact sm_t f (wX11_readWheel_68 nh_168_26 nh_168_37 nh_168_44 nh_168_45 nh_168_46 nh_168_47 nh_168_48 nh_168_49 nh_168_50 nh_168_51 nh_187 nh_188 nh_189 nh_195 nh_196 h)
  · obtain ⟨_, σ5, y6, h⟩ := bd_some h
    have f := sm_t f (wX11_next nh_168_44 nh_168_45 nh_168_46 nh_168_47 nh_168_48 nh_168_51 y6)
    exact sm_t f (wX11_readWheel_68 nh_168_26 nh_168_37 nh_168_44 nh_168_45 nh_168_46 nh_168_47 nh_168_48 nh_168_49 nh_168_50 nh_168_51 nh_187 nh_188 nh_189 nh_195 nh_196 h)
set_option maxRecDepth 10000 in
theorem wX11_readWheel_15 {x y : Nat} {r : Unit} {σ' : gS} {s1 : Int32} {σ : gS} (nh_168_26 : ¬ (x = 168 ∧ y = 26)) (nh_168_37 : ¬ (x = 168 ∧ y = 37)) (nh_168_44 : ¬ (x = 168 ∧ y = 44)) (nh_168_45 : ¬ (x = 168 ∧ y = 45)) (nh_168_46 : ¬ (x = 168 ∧ y = 46)) (nh_168_47 : ¬ (x = 168 ∧ y = 47)) (nh_168_48 : ¬ (x = 168 ∧ y = 48)) (nh_168_49 : ¬ (x = 168 ∧ y = 49)) (nh_168_50 : ¬ (x = 168 ∧ y = 50)) (nh_168_51 : ¬ (x = 168 ∧ y = 51)) (nh_187 : ¬ x = 187) (nh_188 : ¬ x = 188) (nh_189 : ¬ x = 189) (nh_195 : ¬ x = 195) (nh_196 : ¬ x = 196) (h : fX11_readWheel_15 s1 σ = some (r, σ')) : sm σ σ' x y := by
  unfold fX11_readWheel_15 at h
  have f := sm_r σ x y
  obtain ⟨_, σ1, y2, h⟩ := bd_some h
  have f := sm_t f (wX11_newName nh_168_49 nh_168_50 y2)
  obtain ⟨x3, σ4, y5, h⟩ := bd_some h
  have f := sm_t f (wX11_good y5)
  rcases ite_or h with ⟨_, h⟩ | ⟨_, h⟩
  · obtain ⟨-, rfl⟩ := so_inj h
    exact f
  · obtain ⟨_, σ7, y8, h⟩ := bd_some h
    have f := sm_t f (wX11_next nh_168_44 nh_168_45 nh_168_46 nh_168_47 nh_168_48 nh_168_51 y8)
    obtain ⟨_, σ9, y10, h⟩ := bd_some h
    have f := sm_t f (wX11_wantWord nh_168_44 nh_168_45 nh_168_46 nh_168_47 nh_168_48 nh_168_49 nh_168_50 nh_168_51 y10)
    obtain ⟨x11, σ12, y13, h⟩ := bd_some h
    have f := sm_t f (wX11_good y13)
    rcases ite_or h with ⟨_, h⟩ | ⟨_, h⟩
    · exact sm_t f (wX11_readWheel_56 nh_168_26 nh_168_37 nh_168_44 nh_168_45 nh_168_46 nh_168_47 nh_168_48 nh_168_49 nh_168_50 nh_168_51 nh_187 nh_188 nh_189 nh_195 nh_196 h)
    · obtain ⟨x15, σ16, y17, h⟩ := bd_some h
      have f := sm_t f (wX11_oldJoint nh_168_49 nh_168_50 y17)
      exact sm_t f (wX11_readWheel_56 nh_168_26 nh_168_37 nh_168_44 nh_168_45 nh_168_46 nh_168_47 nh_168_48 nh_168_49 nh_168_50 nh_168_51 nh_187 nh_188 nh_189 nh_195 nh_196 h)
set_option maxRecDepth 10000 in
theorem wX11_readWheel {x y : Nat} {r : Unit} {σ' : gS} {σ : gS} (nh_168_26 : ¬ (x = 168 ∧ y = 26)) (nh_168_37 : ¬ (x = 168 ∧ y = 37)) (nh_168_44 : ¬ (x = 168 ∧ y = 44)) (nh_168_45 : ¬ (x = 168 ∧ y = 45)) (nh_168_46 : ¬ (x = 168 ∧ y = 46)) (nh_168_47 : ¬ (x = 168 ∧ y = 47)) (nh_168_48 : ¬ (x = 168 ∧ y = 48)) (nh_168_49 : ¬ (x = 168 ∧ y = 49)) (nh_168_50 : ¬ (x = 168 ∧ y = 50)) (nh_168_51 : ¬ (x = 168 ∧ y = 51)) (nh_187 : ¬ x = 187) (nh_188 : ¬ x = 188) (nh_189 : ¬ x = 189) (nh_195 : ¬ x = 195) (nh_196 : ¬ x = 196) (h : fX11_readWheel σ = some (r, σ')) : sm σ σ' x y := by
  unfold fX11_readWheel at h
  have f := sm_r σ x y
  rcases ite_or h with ⟨_, h⟩ | ⟨_, h⟩
  · exact sm_t f (wX11_readWheel_15 nh_168_26 nh_168_37 nh_168_44 nh_168_45 nh_168_46 nh_168_47 nh_168_48 nh_168_49 nh_168_50 nh_168_51 nh_187 nh_188 nh_189 nh_195 nh_196 h)
  · exact sm_t f (wX11_readWheel_15 nh_168_26 nh_168_37 nh_168_44 nh_168_45 nh_168_46 nh_168_47 nh_168_48 nh_168_49 nh_168_50 nh_168_51 nh_187 nh_188 nh_189 nh_195 nh_196 h)
set_option maxRecDepth 10000 in
theorem wX11_readCoupling_154 {x y : Nat} {p1 : Int32} {r : Unit} {σ' : gS} {σ : gS} (nh_168_33 : ¬ (x = 168 ∧ y = 33)) (nh_168_37 : ¬ (x = 168 ∧ y = 37)) (nh_168_44 : ¬ (x = 168 ∧ y = 44)) (nh_168_45 : ¬ (x = 168 ∧ y = 45)) (nh_168_46 : ¬ (x = 168 ∧ y = 46)) (nh_168_47 : ¬ (x = 168 ∧ y = 47)) (nh_168_48 : ¬ (x = 168 ∧ y = 48)) (nh_168_49 : ¬ (x = 168 ∧ y = 49)) (nh_168_50 : ¬ (x = 168 ∧ y = 50)) (nh_168_51 : ¬ (x = 168 ∧ y = 51)) (nh_192 : ¬ x = 192) (nh_193 : ¬ x = 193) (nh_194 : ¬ x = 194) (nh_195 : ¬ x = 195) (nh_196 : ¬ x = 196) (h : fX11_readCoupling_154 p1 σ = some (r, σ')) : sm σ σ' x y := by
  unfold fX11_readCoupling_154 at h
  have f := sm_r σ x y
  obtain ⟨_, σ1, y2, h⟩ := bd_some h
  have f := sm_t f (wX11_stop nh_168_44 nh_168_45 nh_168_46 nh_168_47 nh_168_48 nh_168_49 nh_168_50 nh_168_51 y2)
  obtain ⟨-, rfl⟩ := so_inj h
  exact f
set_option maxRecDepth 10000 in
theorem wX11_readCoupling_92 {x y : Nat} {p1 : Int32} {r : Unit} {σ' : gS} {v2 : Int32} {v3 : Int32} {σ : gS} (nh_168_33 : ¬ (x = 168 ∧ y = 33)) (nh_168_37 : ¬ (x = 168 ∧ y = 37)) (nh_168_44 : ¬ (x = 168 ∧ y = 44)) (nh_168_45 : ¬ (x = 168 ∧ y = 45)) (nh_168_46 : ¬ (x = 168 ∧ y = 46)) (nh_168_47 : ¬ (x = 168 ∧ y = 47)) (nh_168_48 : ¬ (x = 168 ∧ y = 48)) (nh_168_49 : ¬ (x = 168 ∧ y = 49)) (nh_168_50 : ¬ (x = 168 ∧ y = 50)) (nh_168_51 : ¬ (x = 168 ∧ y = 51)) (nh_192 : ¬ x = 192) (nh_193 : ¬ x = 193) (nh_194 : ¬ x = 194) (nh_195 : ¬ x = 195) (nh_196 : ¬ x = 196) (h : fX11_readCoupling_92 p1 v2 v3 σ = some (r, σ')) : sm σ σ' x y := by
  unfold fX11_readCoupling_92 at h
  have f := sm_r σ x y
  obtain ⟨x1, σ2, y3, h⟩ := bd_some h
  have f := sm_t f (wX11_good y3)
  rcases ite_or h with ⟨_, h⟩ | ⟨_, h⟩
  · exact sm_t f (wX11_readCoupling_154 nh_168_33 nh_168_37 nh_168_44 nh_168_45 nh_168_46 nh_168_47 nh_168_48 nh_168_49 nh_168_50 nh_168_51 nh_192 nh_193 nh_194 nh_195 nh_196 h)
  · obtain ⟨g5, h⟩ := gg_some h
    obtain ⟨σ6, eσ6, h⟩ := bnd_nm h
    have f := sm_I f (fun q => nh_192 q.1) eσ6
    obtain ⟨g7, h⟩ := gg_some h
    obtain ⟨σ8, eσ8, h⟩ := bnd_nm h
    have f := sm_I f (fun q => nh_193 q.1) eσ8
    obtain ⟨g9, h⟩ := gg_some h
    obtain ⟨σ10, eσ10, h⟩ := bnd_nm h
    have f := sm_I f (fun q => nh_194 q.1) eσ10
    obtain ⟨σ11, eσ11, h⟩ := bnd_nm h
    have f := sm_I f nh_168_33 eσ11
    obtain ⟨_, σ12, y13, h⟩ := bd_some h
    have f := sm_t f (wX11_addPart nh_168_37 nh_195 nh_196 y13)
    obtain ⟨_, σ14, y15, h⟩ := bd_some h
    have f := sm_t f (wX11_next nh_168_44 nh_168_45 nh_168_46 nh_168_47 nh_168_48 nh_168_51 y15)
    exact sm_t f (wX11_readCoupling_154 nh_168_33 nh_168_37 nh_168_44 nh_168_45 nh_168_46 nh_168_47 nh_168_48 nh_168_49 nh_168_50 nh_168_51 nh_192 nh_193 nh_194 nh_195 nh_196 h)
set_option maxRecDepth 10000 in
theorem wX11_readCoupling_86 {x y : Nat} {p1 : Int32} {r : Unit} {σ' : gS} {v2 : Int32} {v3 : Int32} {σ : gS} (nh_168_33 : ¬ (x = 168 ∧ y = 33)) (nh_168_37 : ¬ (x = 168 ∧ y = 37)) (nh_168_44 : ¬ (x = 168 ∧ y = 44)) (nh_168_45 : ¬ (x = 168 ∧ y = 45)) (nh_168_46 : ¬ (x = 168 ∧ y = 46)) (nh_168_47 : ¬ (x = 168 ∧ y = 47)) (nh_168_48 : ¬ (x = 168 ∧ y = 48)) (nh_168_49 : ¬ (x = 168 ∧ y = 49)) (nh_168_50 : ¬ (x = 168 ∧ y = 50)) (nh_168_51 : ¬ (x = 168 ∧ y = 51)) (nh_192 : ¬ x = 192) (nh_193 : ¬ x = 193) (nh_194 : ¬ x = 194) (nh_195 : ¬ x = 195) (nh_196 : ¬ x = 196) (h : fX11_readCoupling_86 p1 v2 v3 σ = some (r, σ')) : sm σ σ' x y := by
  unfold fX11_readCoupling_86 at h
  have f := sm_r σ x y
  obtain ⟨_, σ1, y2, h⟩ := bd_some h
  have f := sm_t f (wX11_bad nh_168_49 nh_168_50 y2)
  exact sm_t f (wX11_readCoupling_92 nh_168_33 nh_168_37 nh_168_44 nh_168_45 nh_168_46 nh_168_47 nh_168_48 nh_168_49 nh_168_50 nh_168_51 nh_192 nh_193 nh_194 nh_195 nh_196 h)
set_option maxRecDepth 10000 in
theorem wX11_readCoupling_54 {x y : Nat} {p1 : Int32} {r : Unit} {σ' : gS} {v2 : Int32} {v3 : Int32} {σ : gS} (nh_168_33 : ¬ (x = 168 ∧ y = 33)) (nh_168_37 : ¬ (x = 168 ∧ y = 37)) (nh_168_44 : ¬ (x = 168 ∧ y = 44)) (nh_168_45 : ¬ (x = 168 ∧ y = 45)) (nh_168_46 : ¬ (x = 168 ∧ y = 46)) (nh_168_47 : ¬ (x = 168 ∧ y = 47)) (nh_168_48 : ¬ (x = 168 ∧ y = 48)) (nh_168_49 : ¬ (x = 168 ∧ y = 49)) (nh_168_50 : ¬ (x = 168 ∧ y = 50)) (nh_168_51 : ¬ (x = 168 ∧ y = 51)) (nh_192 : ¬ x = 192) (nh_193 : ¬ x = 193) (nh_194 : ¬ x = 194) (nh_195 : ¬ x = 195) (nh_196 : ¬ x = 196) (h : fX11_readCoupling_54 p1 v2 v3 σ = some (r, σ')) : sm σ σ' x y := by
  unfold fX11_readCoupling_54 at h
  have f := sm_r σ x y
  obtain ⟨x1, σ2, y3, h⟩ := bd_some h
  have f := sm_t f (wX11_good y3)
  rcases ite_or h with ⟨_, h⟩ | ⟨_, h⟩
  · exact sm_t f (wX11_readCoupling_92 nh_168_33 nh_168_37 nh_168_44 nh_168_45 nh_168_46 nh_168_47 nh_168_48 nh_168_49 nh_168_50 nh_168_51 nh_192 nh_193 nh_194 nh_195 nh_196 h)
  · rcases ite_or h with ⟨_, h⟩ | ⟨_, h⟩
    · exact sm_t f (wX11_readCoupling_86 nh_168_33 nh_168_37 nh_168_44 nh_168_45 nh_168_46 nh_168_47 nh_168_48 nh_168_49 nh_168_50 nh_168_51 nh_192 nh_193 nh_194 nh_195 nh_196 h)
    · rcases ite_or h with ⟨_, h⟩ | ⟨_, h⟩
      · obtain ⟨g7, h⟩ := gg_some h
        obtain ⟨g8, h⟩ := gg_some h
        rcases ite_or h with ⟨_, h⟩ | ⟨_, h⟩
        · exact sm_t f (wX11_readCoupling_86 nh_168_33 nh_168_37 nh_168_44 nh_168_45 nh_168_46 nh_168_47 nh_168_48 nh_168_49 nh_168_50 nh_168_51 nh_192 nh_193 nh_194 nh_195 nh_196 h)
        · exact sm_t f (wX11_readCoupling_92 nh_168_33 nh_168_37 nh_168_44 nh_168_45 nh_168_46 nh_168_47 nh_168_48 nh_168_49 nh_168_50 nh_168_51 nh_192 nh_193 nh_194 nh_195 nh_196 h)
      · exact sm_t f (wX11_readCoupling_92 nh_168_33 nh_168_37 nh_168_44 nh_168_45 nh_168_46 nh_168_47 nh_168_48 nh_168_49 nh_168_50 nh_168_51 nh_192 nh_193 nh_194 nh_195 nh_196 h)
set_option maxRecDepth 10000 in
theorem wX11_readCoupling_31 {x y : Nat} {p1 : Int32} {r : Unit} {σ' : gS} {v2 : Int32} {s0 : Int32} {σ : gS} (nh_168_33 : ¬ (x = 168 ∧ y = 33)) (nh_168_37 : ¬ (x = 168 ∧ y = 37)) (nh_168_44 : ¬ (x = 168 ∧ y = 44)) (nh_168_45 : ¬ (x = 168 ∧ y = 45)) (nh_168_46 : ¬ (x = 168 ∧ y = 46)) (nh_168_47 : ¬ (x = 168 ∧ y = 47)) (nh_168_48 : ¬ (x = 168 ∧ y = 48)) (nh_168_49 : ¬ (x = 168 ∧ y = 49)) (nh_168_50 : ¬ (x = 168 ∧ y = 50)) (nh_168_51 : ¬ (x = 168 ∧ y = 51)) (nh_192 : ¬ x = 192) (nh_193 : ¬ x = 193) (nh_194 : ¬ x = 194) (nh_195 : ¬ x = 195) (nh_196 : ¬ x = 196) (h : fX11_readCoupling_31 p1 v2 s0 σ = some (r, σ')) : sm σ σ' x y := by
  unfold fX11_readCoupling_31 at h
  have f := sm_r σ x y
  obtain ⟨x1, σ2, y3, h⟩ := bd_some h
  have f := sm_t f (wX11_good y3)
  rcases ite_or h with ⟨_, h⟩ | ⟨_, h⟩
  · exact sm_t f (wX11_readCoupling_54 nh_168_33 nh_168_37 nh_168_44 nh_168_45 nh_168_46 nh_168_47 nh_168_48 nh_168_49 nh_168_50 nh_168_51 nh_192 nh_193 nh_194 nh_195 nh_196 h)
  · rcases ite_or h with ⟨_, h⟩ | ⟨_, h⟩
    · obtain ⟨_, σ6, y7, h⟩ := bd_some h
      have f := sm_t f (wX11_bad nh_168_49 nh_168_50 y7)
      exact sm_t f (wX11_readCoupling_54 nh_168_33 nh_168_37 nh_168_44 nh_168_45 nh_168_46 nh_168_47 nh_168_48 nh_168_49 nh_168_50 nh_168_51 nh_192 nh_193 nh_194 nh_195 nh_196 h)
    · exact sm_t f (wX11_readCoupling_54 nh_168_33 nh_168_37 nh_168_44 nh_168_45 nh_168_46 nh_168_47 nh_168_48 nh_168_49 nh_168_50 nh_168_51 nh_192 nh_193 nh_194 nh_195 nh_196 h)
set_option maxRecDepth 10000 in
theorem wX11_readCoupling_16 {x y : Nat} {p1 : Int32} {r : Unit} {σ' : gS} {v2 : Int32} {σ : gS} (nh_168_33 : ¬ (x = 168 ∧ y = 33)) (nh_168_37 : ¬ (x = 168 ∧ y = 37)) (nh_168_44 : ¬ (x = 168 ∧ y = 44)) (nh_168_45 : ¬ (x = 168 ∧ y = 45)) (nh_168_46 : ¬ (x = 168 ∧ y = 46)) (nh_168_47 : ¬ (x = 168 ∧ y = 47)) (nh_168_48 : ¬ (x = 168 ∧ y = 48)) (nh_168_49 : ¬ (x = 168 ∧ y = 49)) (nh_168_50 : ¬ (x = 168 ∧ y = 50)) (nh_168_51 : ¬ (x = 168 ∧ y = 51)) (nh_192 : ¬ x = 192) (nh_193 : ¬ x = 193) (nh_194 : ¬ x = 194) (nh_195 : ¬ x = 195) (nh_196 : ¬ x = 196) (h : fX11_readCoupling_16 p1 v2 σ = some (r, σ')) : sm σ σ' x y := by
  unfold fX11_readCoupling_16 at h
  have f := sm_r σ x y
  obtain ⟨x1, σ2, y3, h⟩ := bd_some h
  have f := sm_t f (wX11_good y3)
  rcases ite_or h with ⟨_, h⟩ | ⟨_, h⟩
  · exact sm_t f (wX11_readCoupling_31 nh_168_33 nh_168_37 nh_168_44 nh_168_45 nh_168_46 nh_168_47 nh_168_48 nh_168_49 nh_168_50 nh_168_51 nh_192 nh_193 nh_194 nh_195 nh_196 h)
  · obtain ⟨x5, σ6, y7, h⟩ := bd_some h
    have f := sm_t f (wX11_oldWheel nh_168_49 nh_168_50 y7)
    exact sm_t f (wX11_readCoupling_31 nh_168_33 nh_168_37 nh_168_44 nh_168_45 nh_168_46 nh_168_47 nh_168_48 nh_168_49 nh_168_50 nh_168_51 nh_192 nh_193 nh_194 nh_195 nh_196 h)
set_option maxRecDepth 10000 in
theorem wX11_readCoupling {x y : Nat} {p1 : Int32} {r : Unit} {σ' : gS} {σ : gS} (nh_168_33 : ¬ (x = 168 ∧ y = 33)) (nh_168_37 : ¬ (x = 168 ∧ y = 37)) (nh_168_44 : ¬ (x = 168 ∧ y = 44)) (nh_168_45 : ¬ (x = 168 ∧ y = 45)) (nh_168_46 : ¬ (x = 168 ∧ y = 46)) (nh_168_47 : ¬ (x = 168 ∧ y = 47)) (nh_168_48 : ¬ (x = 168 ∧ y = 48)) (nh_168_49 : ¬ (x = 168 ∧ y = 49)) (nh_168_50 : ¬ (x = 168 ∧ y = 50)) (nh_168_51 : ¬ (x = 168 ∧ y = 51)) (nh_192 : ¬ x = 192) (nh_193 : ¬ x = 193) (nh_194 : ¬ x = 194) (nh_195 : ¬ x = 195) (nh_196 : ¬ x = 196) (h : fX11_readCoupling p1 σ = some (r, σ')) : sm σ σ' x y := by
  unfold fX11_readCoupling at h
  have f := sm_r σ x y
  obtain ⟨x1, σ2, y3, h⟩ := bd_some h
  have f := sm_t f (wX11_oldWheel nh_168_49 nh_168_50 y3)
  obtain ⟨x4, σ5, y6, h⟩ := bd_some h
  have f := sm_t f (wX11_good y6)
  rcases ite_or h with ⟨_, h⟩ | ⟨_, h⟩
  · exact sm_t f (wX11_readCoupling_16 nh_168_33 nh_168_37 nh_168_44 nh_168_45 nh_168_46 nh_168_47 nh_168_48 nh_168_49 nh_168_50 nh_168_51 nh_192 nh_193 nh_194 nh_195 nh_196 h)
  · obtain ⟨_, σ8, y9, h⟩ := bd_some h
    have f := sm_t f (wX11_next nh_168_44 nh_168_45 nh_168_46 nh_168_47 nh_168_48 nh_168_51 y9)
    exact sm_t f (wX11_readCoupling_16 nh_168_33 nh_168_37 nh_168_44 nh_168_45 nh_168_46 nh_168_47 nh_168_48 nh_168_49 nh_168_50 nh_168_51 nh_192 nh_193 nh_194 nh_195 nh_196 h)
set_option maxRecDepth 10000 in
theorem wX11_readDrive_106 {x y : Nat} {r : Unit} {σ' : gS} {σ : gS} (nh_168_40 : ¬ (x = 168 ∧ y = 40)) (nh_168_41 : ¬ (x = 168 ∧ y = 41)) (nh_168_44 : ¬ (x = 168 ∧ y = 44)) (nh_168_45 : ¬ (x = 168 ∧ y = 45)) (nh_168_46 : ¬ (x = 168 ∧ y = 46)) (nh_168_47 : ¬ (x = 168 ∧ y = 47)) (nh_168_48 : ¬ (x = 168 ∧ y = 48)) (nh_168_49 : ¬ (x = 168 ∧ y = 49)) (nh_168_50 : ¬ (x = 168 ∧ y = 50)) (nh_168_51 : ¬ (x = 168 ∧ y = 51)) (h : fX11_readDrive_106 σ = some (r, σ')) : sm σ σ' x y := by
  unfold fX11_readDrive_106 at h
  have f := sm_r σ x y
  obtain ⟨_, σ1, y2, h⟩ := bd_some h
  have f := sm_t f (wX11_stop nh_168_44 nh_168_45 nh_168_46 nh_168_47 nh_168_48 nh_168_49 nh_168_50 nh_168_51 y2)
  obtain ⟨-, rfl⟩ := so_inj h
  exact f
set_option maxRecDepth 10000 in
theorem wX11_readDrive_85 {x y : Nat} {r : Unit} {σ' : gS} {v1 : Int32} {v2 : Int32} {σ : gS} (nh_168_40 : ¬ (x = 168 ∧ y = 40)) (nh_168_41 : ¬ (x = 168 ∧ y = 41)) (nh_168_44 : ¬ (x = 168 ∧ y = 44)) (nh_168_45 : ¬ (x = 168 ∧ y = 45)) (nh_168_46 : ¬ (x = 168 ∧ y = 46)) (nh_168_47 : ¬ (x = 168 ∧ y = 47)) (nh_168_48 : ¬ (x = 168 ∧ y = 48)) (nh_168_49 : ¬ (x = 168 ∧ y = 49)) (nh_168_50 : ¬ (x = 168 ∧ y = 50)) (nh_168_51 : ¬ (x = 168 ∧ y = 51)) (h : fX11_readDrive_85 v1 v2 σ = some (r, σ')) : sm σ σ' x y := by
  unfold fX11_readDrive_85 at h
  have f := sm_r σ x y
  obtain ⟨x1, σ2, y3, h⟩ := bd_some h
  have f := sm_t f (wX11_good y3)
  rcases ite_or h with ⟨_, h⟩ | ⟨_, h⟩
  · exact sm_t f (wX11_readDrive_106 nh_168_40 nh_168_41 nh_168_44 nh_168_45 nh_168_46 nh_168_47 nh_168_48 nh_168_49 nh_168_50 nh_168_51 h)
  · obtain ⟨σ5, eσ5, h⟩ := bnd_nm h
    have f := sm_I f nh_168_40 eσ5
    obtain ⟨σ6, eσ6, h⟩ := bnd_nm h
    have f := sm_I f nh_168_41 eσ6
    obtain ⟨_, σ7, y8, h⟩ := bd_some h
    have f := sm_t f (wX11_next nh_168_44 nh_168_45 nh_168_46 nh_168_47 nh_168_48 nh_168_51 y8)
    exact sm_t f (wX11_readDrive_106 nh_168_40 nh_168_41 nh_168_44 nh_168_45 nh_168_46 nh_168_47 nh_168_48 nh_168_49 nh_168_50 nh_168_51 h)
set_option maxRecDepth 10000 in
theorem wX11_readDrive_79 {x y : Nat} {r : Unit} {σ' : gS} {v1 : Int32} {v2 : Int32} {σ : gS} (nh_168_40 : ¬ (x = 168 ∧ y = 40)) (nh_168_41 : ¬ (x = 168 ∧ y = 41)) (nh_168_44 : ¬ (x = 168 ∧ y = 44)) (nh_168_45 : ¬ (x = 168 ∧ y = 45)) (nh_168_46 : ¬ (x = 168 ∧ y = 46)) (nh_168_47 : ¬ (x = 168 ∧ y = 47)) (nh_168_48 : ¬ (x = 168 ∧ y = 48)) (nh_168_49 : ¬ (x = 168 ∧ y = 49)) (nh_168_50 : ¬ (x = 168 ∧ y = 50)) (nh_168_51 : ¬ (x = 168 ∧ y = 51)) (h : fX11_readDrive_79 v1 v2 σ = some (r, σ')) : sm σ σ' x y := by
  unfold fX11_readDrive_79 at h
  have f := sm_r σ x y
  obtain ⟨_, σ1, y2, h⟩ := bd_some h
  have f := sm_t f (wX11_bad nh_168_49 nh_168_50 y2)
  exact sm_t f (wX11_readDrive_85 nh_168_40 nh_168_41 nh_168_44 nh_168_45 nh_168_46 nh_168_47 nh_168_48 nh_168_49 nh_168_50 nh_168_51 h)
set_option maxRecDepth 10000 in
theorem wX11_readDrive_37 {x y : Nat} {r : Unit} {σ' : gS} {v1 : Int32} {s0 : Int32} {σ : gS} (nh_168_40 : ¬ (x = 168 ∧ y = 40)) (nh_168_41 : ¬ (x = 168 ∧ y = 41)) (nh_168_44 : ¬ (x = 168 ∧ y = 44)) (nh_168_45 : ¬ (x = 168 ∧ y = 45)) (nh_168_46 : ¬ (x = 168 ∧ y = 46)) (nh_168_47 : ¬ (x = 168 ∧ y = 47)) (nh_168_48 : ¬ (x = 168 ∧ y = 48)) (nh_168_49 : ¬ (x = 168 ∧ y = 49)) (nh_168_50 : ¬ (x = 168 ∧ y = 50)) (nh_168_51 : ¬ (x = 168 ∧ y = 51)) (h : fX11_readDrive_37 v1 s0 σ = some (r, σ')) : sm σ σ' x y := by
  unfold fX11_readDrive_37 at h
  have f := sm_r σ x y
  obtain ⟨x1, σ2, y3, h⟩ := bd_some h
  have f := sm_t f (wX11_good y3)
  rcases ite_or h with ⟨_, h⟩ | ⟨_, h⟩
  · exact sm_t f (wX11_readDrive_85 nh_168_40 nh_168_41 nh_168_44 nh_168_45 nh_168_46 nh_168_47 nh_168_48 nh_168_49 nh_168_50 nh_168_51 h)
  · obtain ⟨g5, h⟩ := gg_some h
    rcases ite_or h with ⟨_, h⟩ | ⟨_, h⟩
    · exact sm_t f (wX11_readDrive_79 nh_168_40 nh_168_41 nh_168_44 nh_168_45 nh_168_46 nh_168_47 nh_168_48 nh_168_49 nh_168_50 nh_168_51 h)
    · obtain ⟨g7, h⟩ := gg_some h
      rcases ite_or h with ⟨_, h⟩ | ⟨_, h⟩
      · obtain ⟨x9, σ10, y11, h⟩ := bd_some h
        have f := sm_t f (wX11_hasBar y11)
        rcases ite_or h with ⟨_, h⟩ | ⟨_, h⟩
        · exact sm_t f (wX11_readDrive_79 nh_168_40 nh_168_41 nh_168_44 nh_168_45 nh_168_46 nh_168_47 nh_168_48 nh_168_49 nh_168_50 nh_168_51 h)
        · rcases ite_or h with ⟨_, h⟩ | ⟨_, h⟩
          · exact sm_t f (wX11_readDrive_85 nh_168_40 nh_168_41 nh_168_44 nh_168_45 nh_168_46 nh_168_47 nh_168_48 nh_168_49 nh_168_50 nh_168_51 h)
          · exact sm_t f (wX11_readDrive_79 nh_168_40 nh_168_41 nh_168_44 nh_168_45 nh_168_46 nh_168_47 nh_168_48 nh_168_49 nh_168_50 nh_168_51 h)
      · exact sm_t f (wX11_readDrive_79 nh_168_40 nh_168_41 nh_168_44 nh_168_45 nh_168_46 nh_168_47 nh_168_48 nh_168_49 nh_168_50 nh_168_51 h)
set_option maxRecDepth 10000 in
theorem wX11_readDrive_16 {x y : Nat} {r : Unit} {σ' : gS} {v1 : Int32} {σ : gS} (nh_168_40 : ¬ (x = 168 ∧ y = 40)) (nh_168_41 : ¬ (x = 168 ∧ y = 41)) (nh_168_44 : ¬ (x = 168 ∧ y = 44)) (nh_168_45 : ¬ (x = 168 ∧ y = 45)) (nh_168_46 : ¬ (x = 168 ∧ y = 46)) (nh_168_47 : ¬ (x = 168 ∧ y = 47)) (nh_168_48 : ¬ (x = 168 ∧ y = 48)) (nh_168_49 : ¬ (x = 168 ∧ y = 49)) (nh_168_50 : ¬ (x = 168 ∧ y = 50)) (nh_168_51 : ¬ (x = 168 ∧ y = 51)) (h : fX11_readDrive_16 v1 σ = some (r, σ')) : sm σ σ' x y := by
  unfold fX11_readDrive_16 at h
  have f := sm_r σ x y
  obtain ⟨_, σ1, y2, h⟩ := bd_some h
  have f := sm_t f (wX11_wantWord nh_168_44 nh_168_45 nh_168_46 nh_168_47 nh_168_48 nh_168_49 nh_168_50 nh_168_51 y2)
  obtain ⟨x3, σ4, y5, h⟩ := bd_some h
  have f := sm_t f (wX11_good y5)
  rcases ite_or h with ⟨_, h⟩ | ⟨_, h⟩
  · exact sm_t f (wX11_readDrive_37 nh_168_40 nh_168_41 nh_168_44 nh_168_45 nh_168_46 nh_168_47 nh_168_48 nh_168_49 nh_168_50 nh_168_51 h)
  · obtain ⟨x7, σ8, y9, h⟩ := bd_some h
    have f := sm_t f (wX11_oldJoint nh_168_49 nh_168_50 y9)
    exact sm_t f (wX11_readDrive_37 nh_168_40 nh_168_41 nh_168_44 nh_168_45 nh_168_46 nh_168_47 nh_168_48 nh_168_49 nh_168_50 nh_168_51 h)
set_option maxRecDepth 10000 in
theorem wX11_readDrive {x y : Nat} {r : Unit} {σ' : gS} {σ : gS} (nh_168_40 : ¬ (x = 168 ∧ y = 40)) (nh_168_41 : ¬ (x = 168 ∧ y = 41)) (nh_168_44 : ¬ (x = 168 ∧ y = 44)) (nh_168_45 : ¬ (x = 168 ∧ y = 45)) (nh_168_46 : ¬ (x = 168 ∧ y = 46)) (nh_168_47 : ¬ (x = 168 ∧ y = 47)) (nh_168_48 : ¬ (x = 168 ∧ y = 48)) (nh_168_49 : ¬ (x = 168 ∧ y = 49)) (nh_168_50 : ¬ (x = 168 ∧ y = 50)) (nh_168_51 : ¬ (x = 168 ∧ y = 51)) (h : fX11_readDrive σ = some (r, σ')) : sm σ σ' x y := by
  unfold fX11_readDrive at h
  have f := sm_r σ x y
  obtain ⟨x1, σ2, y3, h⟩ := bd_some h
  have f := sm_t f (wX11_oldJoint nh_168_49 nh_168_50 y3)
  obtain ⟨x4, σ5, y6, h⟩ := bd_some h
  have f := sm_t f (wX11_good y6)
  rcases ite_or h with ⟨_, h⟩ | ⟨_, h⟩
  · exact sm_t f (wX11_readDrive_16 nh_168_40 nh_168_41 nh_168_44 nh_168_45 nh_168_46 nh_168_47 nh_168_48 nh_168_49 nh_168_50 nh_168_51 h)
  · obtain ⟨_, σ8, y9, h⟩ := bd_some h
    have f := sm_t f (wX11_next nh_168_44 nh_168_45 nh_168_46 nh_168_47 nh_168_48 nh_168_51 y9)
    exact sm_t f (wX11_readDrive_16 nh_168_40 nh_168_41 nh_168_44 nh_168_45 nh_168_46 nh_168_47 nh_168_48 nh_168_49 nh_168_50 nh_168_51 h)
set_option maxRecDepth 10000 in
theorem wX11_addItem {x y : Nat} {p1 : Int32} {p2 : Int32} {r : Unit} {σ' : gS} {σ : gS} (nh_168_53 : ¬ (x = 168 ∧ y = 53)) (nh_198 : ¬ x = 198) (nh_199 : ¬ x = 199) (nh_200 : ¬ x = 200) (h : fX11_addItem p1 p2 σ = some (r, σ')) : sm σ σ' x y := by
  unfold fX11_addItem at h
  have f := sm_r σ x y
  obtain ⟨g1, h⟩ := gg_some h
  obtain ⟨σ2, eσ2, h⟩ := bnd_nm h
  have f := sm_I f (fun q => nh_198 q.1) eσ2
  obtain ⟨g3, h⟩ := gg_some h
  obtain ⟨σ4, eσ4, h⟩ := bnd_nm h
  have f := sm_I f (fun q => nh_199 q.1) eσ4
  obtain ⟨g5, h⟩ := gg_some h
  obtain ⟨σ6, eσ6, h⟩ := bnd_nm h
  have f := sm_I f (fun q => nh_200 q.1) eσ6
  obtain ⟨σ7, eσ7, h⟩ := bnd_nm h
  have f := sm_I f nh_168_53 eσ7
  obtain ⟨-, rfl⟩ := so_inj h
  exact f

/-! WHAT EACH METHOD LEAVES ALONE (by program): sm σ σ' x y: place y of cell x is as it was, all references are -/
def sm (σ σ' : gS) (x y : Nat) : Prop := σ'.1 x y = σ.1 x y ∧ σ'.2.1 x y = σ.2.1 x y ∧ σ'.2.2 = σ.2.2
theorem sm_r (σ : gS) (x y : Nat) : sm σ σ x y := ⟨rfl, rfl, rfl⟩
theorem sm_t {σ τ υ : gS} {x y : Nat} (h1 : sm σ τ x y) (h2 : sm τ υ x y) : sm σ υ x y := ⟨h2.1.trans h1.1, h2.2.1.trans h1.2.1, h2.2.2.trans h1.2.2⟩
theorem sm_I {σ τ τ' : gS} {x y a b : Nat} {v : Int32} (f : sm σ τ x y) (hn : ¬ (x = a ∧ y = b)) (e : τ' = gsI τ a b v) : sm σ τ' x y := by
  subst e
  exact ⟨(rI_o hn).trans f.1, f.2.1, f.2.2⟩
theorem sm_J {σ τ τ' : gS} {x y a b : Nat} {v : Int64} (f : sm σ τ x y) (hn : ¬ (x = a ∧ y = b)) (e : τ' = gsJ τ a b v) : sm σ τ' x y := by
  subst e
  exact ⟨f.1, (rJ_o hn).trans f.2.1, f.2.2⟩
theorem sm_cp {σ τ τ' : gS} {x y a s b d n : Nat} (f : sm σ τ x y) (hn : ¬ (x = b ∧ d ≤ y ∧ y < d + n)) (e : τ' = gcp τ a s b d n) : sm σ τ' x y := by
  subst e
  exact ⟨f.1, (gcp_o hn).trans f.2.1, f.2.2⟩
theorem rg_ld {ix x : Nat} (h : ix < 24) (q : x = 30 + 1 * ix) : 30 ≤ x ∧ x ≤ 53 := by omega
theorem rg_ldv {t x : Nat} (g : 30 ≤ t ∧ t < 54) (q : x = t) : 30 ≤ x ∧ x ≤ 53 := by omega
theorem rg_rw {t x : Nat} (g : 61 ≤ t ∧ t < 121) (q : x = t) : 61 ≤ x ∧ x ≤ 120 := by omega
theorem rg_ro {t x : Nat} (g : gRo t) (q : x = t) : 152 ≤ x ∧ x ≤ 167 := by obtain ⟨a, b, c⟩ := g; omega
theorem rg_ro1 {t x : Nat} (g : gRo t) (q : x = t + 1) : 152 ≤ x ∧ x ≤ 167 := by obtain ⟨a, b, c⟩ := g; omega
theorem rg_mem {t ix x : Nat} (h : ix < 4) (q : x = t + 7 + 1 * ix) : t + 7 ≤ x ∧ x ≤ t + 10 := by omega
theorem ite_or {α : Type} {c : Prop} [Decidable c] {a b r : α} (h : (if c then a else b) = r) : (c ∧ a = r) ∨ (¬ c ∧ b = r) := by
  by_cases q : c
  · exact Or.inl ⟨q, if_t h q⟩
  · exact Or.inr ⟨q, if_f h q⟩
set_option maxRecDepth 10000 in
theorem wX0_start {x y : Nat} {p1 : Int32} {p2 : Int32} {r : Unit} {σ' : gS} {σ : gS} (nh_149_1 : ¬ (x = 149 ∧ y = 1)) (nh_149_2 : ¬ (x = 149 ∧ y = 2)) (nh_149_3 : ¬ (x = 149 ∧ y = 3)) (nh_149_4 : ¬ (x = 149 ∧ y = 4)) (h : fX0_start p1 p2 σ = some (r, σ')) : sm σ σ' x y := by
  unfold fX0_start at h
  have f := sm_r σ x y
  obtain ⟨σ1, eσ1, h⟩ := bnd_nm h
  have f := sm_I f nh_149_3 eσ1
  obtain ⟨σ2, eσ2, h⟩ := bnd_nm h
  have f := sm_I f nh_149_4 eσ2
  obtain ⟨σ3, eσ3, h⟩ := bnd_nm h
  have f := sm_I f nh_149_1 eσ3
  obtain ⟨σ4, eσ4, h⟩ := bnd_nm h
  have f := sm_I f nh_149_2 eσ4
  obtain ⟨-, rfl⟩ := so_inj h
  exact f
set_option maxRecDepth 10000 in
theorem wX0_begin_29 {x y : Nat} {p1 : Int32} {r : Unit} {σ' : gS} {σ : gS} (nh_149_1 : ¬ (x = 149 ∧ y = 1)) (nh_150 : ¬ x = 150) (h : fX0_begin_29 p1 σ = some (r, σ')) : sm σ σ' x y := by
  unfold fX0_begin_29 at h
  have f := sm_r σ x y
  obtain ⟨-, rfl⟩ := so_inj h
  exact f
set_option maxRecDepth 10000 in
theorem wX0_begin {x y : Nat} {p1 : Int32} {r : Unit} {σ' : gS} {σ : gS} (nh_149_1 : ¬ (x = 149 ∧ y = 1)) (nh_150 : ¬ x = 150) (h : fX0_begin p1 σ = some (r, σ')) : sm σ σ' x y := by
  unfold fX0_begin at h
  have f := sm_r σ x y
  rcases ite_or h with ⟨_, h⟩ | ⟨_, h⟩
  · exact sm_t f (wX0_begin_29 nh_149_1 nh_150 h)
  · obtain ⟨g2, h⟩ := gg_some h
    obtain ⟨σ3, eσ3, h⟩ := bnd_nm h
    have f := sm_I f (fun q => nh_150 q.1) eσ3
    obtain ⟨σ4, eσ4, h⟩ := bnd_nm h
    have f := sm_I f nh_149_1 eσ4
    exact sm_t f (wX0_begin_29 nh_149_1 nh_150 h)
set_option maxRecDepth 10000 in
theorem wX0_pinFreedom {x y : Nat} {r : Int32} {σ' : gS} {σ : gS} (nh_149_1 : ¬ (x = 149 ∧ y = 1)) (nh_150 : ¬ x = 150) (h : fX0_pinFreedom σ = some (r, σ')) : sm σ σ' x y := by
  unfold fX0_pinFreedom at h
  have f := sm_r σ x y
  obtain ⟨_, σ1, y2, h⟩ := bd_some h
  have f := sm_t f (wX0_begin nh_149_1 nh_150 y2)
  obtain ⟨-, rfl⟩ := so_inj h
  exact f
set_option maxRecDepth 10000 in
theorem wX0_lentFreedom {x y : Nat} {r : Int32} {σ' : gS} {σ : gS} (nh_149_1 : ¬ (x = 149 ∧ y = 1)) (nh_150 : ¬ x = 150) (h : fX0_lentFreedom σ = some (r, σ')) : sm σ σ' x y := by
  unfold fX0_lentFreedom at h
  have f := sm_r σ x y
  obtain ⟨_, σ1, y2, h⟩ := bd_some h
  have f := sm_t f (wX0_begin nh_149_1 nh_150 y2)
  obtain ⟨-, rfl⟩ := so_inj h
  exact f
set_option maxRecDepth 10000 in
theorem wX0_freedom {x y : Nat} {r : Int32} {σ' : gS} {σ : gS} (nh_149_1 : ¬ (x = 149 ∧ y = 1)) (nh_150 : ¬ x = 150) (h : fX0_freedom σ = some (r, σ')) : sm σ σ' x y := by
  unfold fX0_freedom at h
  have f := sm_r σ x y
  rcases ite_or h with ⟨_, h⟩ | ⟨_, h⟩
  · obtain ⟨x2, σ3, y4, h⟩ := bd_some h
    have f := sm_t f (wX0_pinFreedom nh_149_1 nh_150 y4)
    obtain ⟨-, rfl⟩ := so_inj h
    exact f
  ·
    rcases ite_or h with ⟨_, h⟩ | ⟨_, h⟩
    · obtain ⟨_, σ6, y7, h⟩ := bd_some h
      have f := sm_t f (wX0_begin nh_149_1 nh_150 y7)
      obtain ⟨x8, σ9, y10, h⟩ := bd_some h
      have f := sm_t f (wX0_pinFreedom nh_149_1 nh_150 y10)
      obtain ⟨-, rfl⟩ := so_inj h
      exact f
    ·
      rcases ite_or h with ⟨_, h⟩ | ⟨_, h⟩
      · obtain ⟨_, σ12, y13, h⟩ := bd_some h
        have f := sm_t f (wX0_begin nh_149_1 nh_150 y13)
        obtain ⟨x14, σ15, y16, h⟩ := bd_some h
        have f := sm_t f (wX0_lentFreedom nh_149_1 nh_150 y16)
        obtain ⟨-, rfl⟩ := so_inj h
        exact f
      ·
        rcases ite_or h with ⟨_, h⟩ | ⟨_, h⟩
        · obtain ⟨_, σ18, y19, h⟩ := bd_some h
          have f := sm_t f (wX0_begin nh_149_1 nh_150 y19)
          obtain ⟨-, rfl⟩ := so_inj h
          exact f
        ·
          obtain ⟨_, σ20, y21, h⟩ := bd_some h
          have f := sm_t f (wX0_begin nh_149_1 nh_150 y21)
          obtain ⟨x22, σ23, y24, h⟩ := bd_some h
          have f := sm_t f (wX0_lentFreedom nh_149_1 nh_150 y24)
          obtain ⟨-, rfl⟩ := so_inj h
          exact f
set_option maxRecDepth 10000 in
theorem wX0_lentMass {x y : Nat} {r : Int32} {σ' : gS} {σ : gS} (nh_149_1 : ¬ (x = 149 ∧ y = 1)) (nh_150 : ¬ x = 150) (h : fX0_lentMass σ = some (r, σ')) : sm σ σ' x y := by
  unfold fX0_lentMass at h
  have f := sm_r σ x y
  obtain ⟨_, σ1, y2, h⟩ := bd_some h
  have f := sm_t f (wX0_begin nh_149_1 nh_150 y2)
  obtain ⟨-, rfl⟩ := so_inj h
  exact f
set_option maxRecDepth 10000 in
theorem wX0_beltMass {x y : Nat} {r : Int32} {σ' : gS} {σ : gS} (nh_149_1 : ¬ (x = 149 ∧ y = 1)) (nh_150 : ¬ x = 150) (h : fX0_beltMass σ = some (r, σ')) : sm σ σ' x y := by
  unfold fX0_beltMass at h
  have f := sm_r σ x y
  obtain ⟨_, σ1, y2, h⟩ := bd_some h
  have f := sm_t f (wX0_begin nh_149_1 nh_150 y2)
  obtain ⟨x3, σ4, y5, h⟩ := bd_some h
  have f := sm_t f (wX0_lentMass nh_149_1 nh_150 y5)
  obtain ⟨-, rfl⟩ := so_inj h
  exact f
set_option maxRecDepth 10000 in
theorem wX0_mass_62 {x y : Nat} {r : Int32} {σ' : gS} {σ : gS} (nh_149_1 : ¬ (x = 149 ∧ y = 1)) (nh_150 : ¬ x = 150) (h : fX0_mass_62 σ = some (r, σ')) : sm σ σ' x y := by
  unfold fX0_mass_62 at h
  have f := sm_r σ x y
  obtain ⟨x1, σ2, y3, h⟩ := bd_some h
  have f := sm_t f (wX0_beltMass nh_149_1 nh_150 y3)
  obtain ⟨-, rfl⟩ := so_inj h
  exact f
set_option maxRecDepth 10000 in
theorem wX0_mass_67 {x y : Nat} {r : Int32} {σ' : gS} {σ : gS} (nh_149_1 : ¬ (x = 149 ∧ y = 1)) (nh_150 : ¬ x = 150) (h : fX0_mass_67 σ = some (r, σ')) : sm σ σ' x y := by
  unfold fX0_mass_67 at h
  have f := sm_r σ x y
  obtain ⟨x1, σ2, y3, h⟩ := bd_some h
  have f := sm_t f (wX0_lentMass nh_149_1 nh_150 y3)
  obtain ⟨-, rfl⟩ := so_inj h
  exact f
set_option maxRecDepth 10000 in
theorem wX0_mass {x y : Nat} {r : Int32} {σ' : gS} {σ : gS} (nh_149_1 : ¬ (x = 149 ∧ y = 1)) (nh_150 : ¬ x = 150) (h : fX0_mass σ = some (r, σ')) : sm σ σ' x y := by
  unfold fX0_mass at h
  have f := sm_r σ x y
  rcases ite_or h with ⟨_, h⟩ | ⟨_, h⟩
  · obtain ⟨_, σ2, y3, h⟩ := bd_some h
    have f := sm_t f (wX0_begin nh_149_1 nh_150 y3)
    obtain ⟨-, rfl⟩ := so_inj h
    exact f
  ·
    rcases ite_or h with ⟨_, h⟩ | ⟨_, h⟩
    · obtain ⟨_, σ5, y6, h⟩ := bd_some h
      have f := sm_t f (wX0_begin nh_149_1 nh_150 y6)
      obtain ⟨-, rfl⟩ := so_inj h
      exact f
    ·
      rcases ite_or h with ⟨_, h⟩ | ⟨_, h⟩
      · exact sm_t f (wX0_mass_67 nh_149_1 nh_150 h)
      ·
        rcases ite_or h with ⟨_, h⟩ | ⟨_, h⟩
        · exact sm_t f (wX0_mass_62 nh_149_1 nh_150 h)
        ·
          rcases ite_or h with ⟨_, h⟩ | ⟨_, h⟩
          · exact sm_t f (wX0_mass_62 nh_149_1 nh_150 h)
          ·
            exact sm_t f (wX0_mass_67 nh_149_1 nh_150 h)
set_option maxRecDepth 10000 in
theorem wX0_lentLoss {x y : Nat} {r : Int32} {σ' : gS} {σ : gS} (nh_149_1 : ¬ (x = 149 ∧ y = 1)) (nh_149_2 : ¬ (x = 149 ∧ y = 2)) (nh_150 : ¬ x = 150) (h : fX0_lentLoss σ = some (r, σ')) : sm σ σ' x y := by
  unfold fX0_lentLoss at h
  have f := sm_r σ x y
  obtain ⟨_, σ1, y2, h⟩ := bd_some h
  have f := sm_t f (wX0_begin nh_149_1 nh_150 y2)
  obtain ⟨x3, σ4, y5, h⟩ := bd_some h
  have f := sm_t f (wX0_freedom nh_149_1 nh_150 y5)
  rcases ite_or h with ⟨_, h⟩ | ⟨_, h⟩
  · obtain ⟨σ8, eσ8, h⟩ := bnd_nm h
    have f := sm_I f nh_149_2 eσ8
    obtain ⟨-, rfl⟩ := so_inj h
    exact f
  · obtain ⟨g7, h⟩ := gg_some h
    obtain ⟨-, rfl⟩ := so_inj h
    exact f
set_option maxRecDepth 10000 in
theorem wX0_loss {x y : Nat} {r : Int32} {σ' : gS} {σ : gS} (nh_149_1 : ¬ (x = 149 ∧ y = 1)) (nh_149_2 : ¬ (x = 149 ∧ y = 2)) (nh_150 : ¬ x = 150) (h : fX0_loss σ = some (r, σ')) : sm σ σ' x y := by
  unfold fX0_loss at h
  have f := sm_r σ x y
  rcases ite_or h with ⟨_, h⟩ | ⟨_, h⟩
  · obtain ⟨_, σ2, y3, h⟩ := bd_some h
    have f := sm_t f (wX0_begin nh_149_1 nh_150 y3)
    obtain ⟨x4, σ5, y6, h⟩ := bd_some h
    have f := sm_t f (wX0_mass nh_149_1 nh_150 y6)
    obtain ⟨x7, σ8, y9, h⟩ := bd_some h
    have f := sm_t f (wX0_lentLoss nh_149_1 nh_149_2 nh_150 y9)
    obtain ⟨-, rfl⟩ := so_inj h
    exact f
  ·
    rcases ite_or h with ⟨_, h⟩ | ⟨_, h⟩
    · obtain ⟨_, σ11, y12, h⟩ := bd_some h
      have f := sm_t f (wX0_begin nh_149_1 nh_150 y12)
      obtain ⟨x13, σ14, y15, h⟩ := bd_some h
      have f := sm_t f (wX0_beltMass nh_149_1 nh_150 y15)
      obtain ⟨-, rfl⟩ := so_inj h
      exact f
    ·
      obtain ⟨x16, σ17, y18, h⟩ := bd_some h
      have f := sm_t f (wX0_lentLoss nh_149_1 nh_149_2 nh_150 y18)
      obtain ⟨-, rfl⟩ := so_inj h
      exact f
set_option maxRecDepth 10000 in
theorem wX3_size {x y : Nat} {t : Nat} {p1 : Int32} {r : Int32} {σ' : gS} {σ : gS} (h : fX3_size t p1 σ = some (r, σ')) : sm σ σ' x y := by
  unfold fX3_size at h
  have f := sm_r σ x y
  obtain ⟨g1, h⟩ := gg_some h
  obtain ⟨-, rfl⟩ := so_inj h
  exact f
set_option maxRecDepth 10000 in
theorem wJ7_fill_53178_5 {x y : Nat} {p1 : Nat} {p1n : Nat} {p2 : Int32} {r : Unit} {σ' : gS} (nt_p1_0 : ¬ x = p1 + 0) : ∀ (n : Nat) (v2 : Int32) (v3 : Int32) (σ : gS), fJ7_fill_53178_5 p1 p1n p2 n v2 v3 σ = some (r, σ') → sm σ σ' x y := by
  intro n
  induction n with
  | zero => intro v2 v3 σ h; exact absurd (show none = some (r, σ') from h) (by intro q; cases q)
  | succ n ih =>
  intro v2 v3 σ h
  unfold fJ7_fill_53178_5 at h
  have f := sm_r σ x y
  rcases ite_or h with ⟨_, h⟩ | ⟨_, h⟩
  · obtain ⟨-, rfl⟩ := so_inj h
    exact f
  · obtain ⟨g2, h⟩ := gg_some h
    obtain ⟨σ3, eσ3, h⟩ := bnd_nm h
    have f := sm_I f (fun q => nt_p1_0 q.1) eσ3
    obtain ⟨x4, ex4, h⟩ := bnd_nm h
    exact sm_t f (ih x4 v3 σ3 h)
set_option maxRecDepth 10000 in
theorem wJ7_fill_53178 {x y : Nat} {p1 : Nat} {p1n : Nat} {p2 : Int32} {r : Unit} {σ' : gS} {σ : gS} (nt_p1_0 : ¬ x = p1 + 0) (h : fJ7_fill_53178 p1 p1n p2 σ = some (r, σ')) : sm σ σ' x y := by
  unfold fJ7_fill_53178 at h
  have f := sm_r σ x y
  obtain ⟨x1, ex1, h⟩ := bnd_nm h
  exact sm_t f (wJ7_fill_53178_5 nt_p1_0 2000 0 x1 σ h)
set_option maxRecDepth 10000 in
theorem wX3_kindOf {x y : Nat} {t : Nat} {p1 : Int32} {p2 : Int32} {r : Int32} {σ' : gS} {σ : gS} (h : fX3_kindOf t p1 p2 σ = some (r, σ')) : sm σ σ' x y := by
  unfold fX3_kindOf at h
  have f := sm_r σ x y
  obtain ⟨g1, h⟩ := gg_some h
  obtain ⟨g2, h⟩ := gg_some h
  obtain ⟨g3, h⟩ := gg_some h
  obtain ⟨-, rfl⟩ := so_inj h
  exact f
set_option maxRecDepth 10000 in
theorem wX3_isGround_15 {x y : Nat} {t : Nat} {p1 : Int32} {r : Int32} {σ' : gS} {s0 : Int32} {σ : gS} (h : fX3_isGround_15 t p1 s0 σ = some (r, σ')) : sm σ σ' x y := by
  unfold fX3_isGround_15 at h
  have f := sm_r σ x y
  obtain ⟨g1, h⟩ := gg_some h
  obtain ⟨-, rfl⟩ := so_inj h
  exact f
set_option maxRecDepth 10000 in
theorem wX3_isGround {x y : Nat} {t : Nat} {p1 : Int32} {r : Int32} {σ' : gS} {σ : gS} (h : fX3_isGround t p1 σ = some (r, σ')) : sm σ σ' x y := by
  unfold fX3_isGround at h
  have f := sm_r σ x y
  obtain ⟨x1, σ2, y3, h⟩ := bd_some h
  have f := sm_t f (wX3_kindOf y3)
  rcases ite_or h with ⟨_, h⟩ | ⟨_, h⟩
  · exact sm_t f (wX3_isGround_15 h)
  · exact sm_t f (wX3_isGround_15 h)
set_option maxRecDepth 10000 in
theorem wX1_freePebbles_36 {x y : Nat} {p1 : Int32} {r : Int32} {σ' : gS} {s0 : Int32} {s1 : Int32} {σ : gS} (h : fX1_freePebbles_36 p1 s0 s1 σ = some (r, σ')) : sm σ σ' x y := by
  unfold fX1_freePebbles_36 at h
  have f := sm_r σ x y
  obtain ⟨-, rfl⟩ := so_inj h
  exact f
set_option maxRecDepth 10000 in
theorem wX1_freePebbles_18 {x y : Nat} {p1 : Int32} {r : Int32} {σ' : gS} {s0 : Int32} {σ : gS} (h : fX1_freePebbles_18 p1 s0 σ = some (r, σ')) : sm σ σ' x y := by
  unfold fX1_freePebbles_18 at h
  have f := sm_r σ x y
  obtain ⟨g1, h⟩ := gg_some h
  rcases ite_or h with ⟨_, h⟩ | ⟨_, h⟩
  · exact sm_t f (wX1_freePebbles_36 h)
  · exact sm_t f (wX1_freePebbles_36 h)
set_option maxRecDepth 10000 in
theorem wX1_freePebbles {x y : Nat} {p1 : Int32} {r : Int32} {σ' : gS} {σ : gS} (h : fX1_freePebbles p1 σ = some (r, σ')) : sm σ σ' x y := by
  unfold fX1_freePebbles at h
  have f := sm_r σ x y
  obtain ⟨g1, h⟩ := gg_some h
  rcases ite_or h with ⟨_, h⟩ | ⟨_, h⟩
  · exact sm_t f (wX1_freePebbles_18 h)
  · exact sm_t f (wX1_freePebbles_18 h)
set_option maxRecDepth 10000 in
theorem wX1_turnPath_77 {x y : Nat} {p1 : Int32} {p2 : Int32} {k5 : Int32 → Int32 → gS → Option (Unit × gS)} {r : Unit} {σ' : gS} {v4 : Int32} {v5 : Int32} {s0 : Nat} {s1 : Int32} {σ : gS} (hk5 : ∀ (v3 : Int32) (v4 : Int32) (σ : gS), k5 v3 v4 σ = some (r, σ') → sm σ σ' x y) (nr_30_53 : ¬ (30 ≤ x ∧ x ≤ 53)) (h : fX1_turnPath_77 p1 p2 k5 v4 v5 s0 s1 σ = some (r, σ')) : sm σ σ' x y := by
  unfold fX1_turnPath_77 at h
  have f := sm_r σ x y
  obtain ⟨g1, h⟩ := gg_some h
  obtain ⟨g2, h⟩ := gg_some h
  obtain ⟨σ3, eσ3, h⟩ := bnd_nm h
  have f := sm_I f (fun q => (fun q => nr_30_53 (rg_ldv g1 q)) q.1) eσ3
  obtain ⟨x4, ex4, h⟩ := bnd_nm h
  exact sm_t f (hk5 v5 x4 σ3 h)
set_option maxRecDepth 10000 in
theorem wX1_turnPath_49 {x y : Nat} {p1 : Int32} {p2 : Int32} {k5 : Int32 → Int32 → gS → Option (Unit × gS)} {r : Unit} {σ' : gS} {v3 : Int32} {v4 : Int32} {v5 : Int32} {s0 : Nat} {s1 : Int32} {σ : gS} (hk5 : ∀ (v3 : Int32) (v4 : Int32) (σ : gS), k5 v3 v4 σ = some (r, σ') → sm σ σ' x y) (nr_30_53 : ¬ (30 ≤ x ∧ x ≤ 53)) (h : fX1_turnPath_49 p1 p2 k5 v3 v4 v5 s0 s1 σ = some (r, σ')) : sm σ σ' x y := by
  unfold fX1_turnPath_49 at h
  have f := sm_r σ x y
  obtain ⟨g1, h⟩ := gg_some h
  obtain ⟨g2, h⟩ := gg_some h
  obtain ⟨σ3, eσ3, h⟩ := bnd_nm h
  have f := sm_I f (fun q => (fun q => nr_30_53 (rg_ldv g1 q)) q.1) eσ3
  obtain ⟨g4, h⟩ := gg_some h
  obtain ⟨g5, h⟩ := gg_some h
  rcases ite_or h with ⟨_, h⟩ | ⟨_, h⟩
  · exact sm_t f (wX1_turnPath_77 hk5 nr_30_53 h)
  · exact sm_t f (wX1_turnPath_77 hk5 nr_30_53 h)
set_option maxRecDepth 10000 in
theorem wX1_turnPath_89 {x y : Nat} {p1 : Int32} {p2 : Int32} {r : Unit} {σ' : gS} {σ : gS} (nr_30_53 : ¬ (30 ≤ x ∧ x ≤ 53)) (h : fX1_turnPath_89 p1 p2 σ = some (r, σ')) : sm σ σ' x y := by
  unfold fX1_turnPath_89 at h
  have f := sm_r σ x y
  obtain ⟨-, rfl⟩ := so_inj h
  exact f
set_option maxRecDepth 10000 in
theorem wX1_turnPath_5 {x y : Nat} {p1 : Int32} {p2 : Int32} {r : Unit} {σ' : gS} (nr_30_53 : ¬ (30 ≤ x ∧ x ≤ 53)) : ∀ (n : Nat) (v3 : Int32) (v4 : Int32) (σ : gS), fX1_turnPath_5 p1 p2 n v3 v4 σ = some (r, σ') → sm σ σ' x y := by
  intro n
  induction n with
  | zero => intro v3 v4 σ h; exact absurd (show none = some (r, σ') from h) (by intro q; cases q)
  | succ n ih =>
  intro v3 v4 σ h
  unfold fX1_turnPath_5 at h
  have f := sm_r σ x y
  rcases ite_or h with ⟨_, h⟩ | ⟨_, h⟩
  · exact sm_t f (wX1_turnPath_89 nr_30_53 h)
  · rcases ite_or h with ⟨_, h⟩ | ⟨_, h⟩
    · exact sm_t f (wX1_turnPath_89 nr_30_53 h)
    · obtain ⟨g3, h⟩ := gg_some h
      obtain ⟨g4, h⟩ := gg_some h
      obtain ⟨g5, h⟩ := gg_some h
      rcases ite_or h with ⟨_, h⟩ | ⟨_, h⟩
      · exact sm_t f (wX1_turnPath_49 (fun v3 v4 σ h => ih v3 v4 σ h) nr_30_53 h)
      · exact sm_t f (wX1_turnPath_49 (fun v3 v4 σ h => ih v3 v4 σ h) nr_30_53 h)
set_option maxRecDepth 10000 in
theorem wX1_turnPath {x y : Nat} {p1 : Int32} {p2 : Int32} {r : Unit} {σ' : gS} {σ : gS} (nr_30_53 : ¬ (30 ≤ x ∧ x ≤ 53)) (h : fX1_turnPath p1 p2 σ = some (r, σ')) : sm σ σ' x y := by
  unfold fX1_turnPath at h
  have f := sm_r σ x y
  exact sm_t f (wX1_turnPath_5 nr_30_53 2000 p2 0 σ h)
set_option maxRecDepth 10000 in
theorem wX1_fetch_138 {x y : Nat} {p1 : Int32} {p2 : Int32} {k35 : Int32 → Int32 → gS → Option (Unit × gS)} {k51 : Int32 → Int32 → Int32 → gS → Option (Unit × gS)} {r : Unit} {σ' : gS} {v3 : Int32} {v4 : Int32} {v5 : Int32} {σ : gS} (hk35 : ∀ (v3 : Int32) (v4 : Int32) (σ : gS), k35 v3 v4 σ = some (r, σ') → sm σ σ' x y) (hk51 : ∀ (v3 : Int32) (v4 : Int32) (v5 : Int32) (σ : gS), k51 v3 v4 v5 σ = some (r, σ') → sm σ σ' x y) (nh_54 : ¬ x = 54) (nh_55 : ¬ x = 55) (nr_30_53 : ¬ (30 ≤ x ∧ x ≤ 53)) (h : fX1_fetch_138 p1 p2 k35 k51 v3 v4 v5 σ = some (r, σ')) : sm σ σ' x y := by
  unfold fX1_fetch_138 at h
  have f := sm_r σ x y
  obtain ⟨x1, ex1, h⟩ := bnd_nm h
  exact sm_t f (hk51 v3 v4 x1 σ h)
set_option maxRecDepth 10000 in
theorem wX1_fetch_51 {x y : Nat} {p1 : Int32} {p2 : Int32} {k35 : Int32 → Int32 → gS → Option (Unit × gS)} {r : Unit} {σ' : gS} (hk35 : ∀ (v3 : Int32) (v4 : Int32) (σ : gS), k35 v3 v4 σ = some (r, σ') → sm σ σ' x y) (nh_54 : ¬ x = 54) (nh_55 : ¬ x = 55) (nr_30_53 : ¬ (30 ≤ x ∧ x ≤ 53)) : ∀ (n : Nat) (v3 : Int32) (v4 : Int32) (v5 : Int32) (σ : gS), fX1_fetch_51 p1 p2 k35 n v3 v4 v5 σ = some (r, σ') → sm σ σ' x y := by
  intro n
  induction n with
  | zero => intro v3 v4 v5 σ h; exact absurd (show none = some (r, σ') from h) (by intro q; cases q)
  | succ n ih =>
  intro v3 v4 v5 σ h
  unfold fX1_fetch_51 at h
  have f := sm_r σ x y
  rcases ite_or h with ⟨_, h⟩ | ⟨_, h⟩
  · obtain ⟨x2, ex2, h⟩ := bnd_nm h
    exact sm_t f (hk35 v3 x2 σ h)
  · obtain ⟨g3, h⟩ := gg_some h
    obtain ⟨g4, h⟩ := gg_some h
    obtain ⟨g5, h⟩ := gg_some h
    rcases ite_or h with ⟨_, h⟩ | ⟨_, h⟩
    · exact sm_t f (wX1_fetch_138 hk35 (fun v3 v4 v5 σ h => ih v3 v4 v5 σ h) nh_54 nh_55 nr_30_53 h)
    · obtain ⟨g7, h⟩ := gg_some h
      rcases ite_or h with ⟨_, h⟩ | ⟨_, h⟩
      · obtain ⟨g9, h⟩ := gg_some h
        obtain ⟨g10, h⟩ := gg_some h
        obtain ⟨σ11, eσ11, h⟩ := bnd_nm h
        have f := sm_I f (fun q => nh_54 q.1) eσ11
        obtain ⟨x12, σ13, y14, h⟩ := bd_some h
        have f := sm_t f (wX1_freePebbles y14)
        rcases ite_or h with ⟨_, h⟩ | ⟨_, h⟩
        · obtain ⟨g16, h⟩ := gg_some h
          obtain ⟨σ17, eσ17, h⟩ := bnd_nm h
          have f := sm_I f (fun q => nh_55 q.1) eσ17
          obtain ⟨x18, ex18, h⟩ := bnd_nm h
          exact sm_t f (wX1_fetch_138 hk35 (fun v3 v4 v5 σ h => ih v3 v4 v5 σ h) nh_54 nh_55 nr_30_53 h)
        · obtain ⟨_, σ19, y20, h⟩ := bd_some h
          have f := sm_t f (wX1_turnPath nr_30_53 y20)
          obtain ⟨-, rfl⟩ := so_inj h
          exact f
      · exact sm_t f (wX1_fetch_138 hk35 (fun v3 v4 v5 σ h => ih v3 v4 v5 σ h) nh_54 nh_55 nr_30_53 h)
set_option maxRecDepth 10000 in
theorem wX1_fetch_150 {x y : Nat} {p1 : Int32} {p2 : Int32} {r : Unit} {σ' : gS} {σ : gS} (nh_54 : ¬ x = 54) (nh_55 : ¬ x = 55) (nr_30_53 : ¬ (30 ≤ x ∧ x ≤ 53)) (h : fX1_fetch_150 p1 p2 σ = some (r, σ')) : sm σ σ' x y := by
  unfold fX1_fetch_150 at h
  have f := sm_r σ x y
  obtain ⟨-, rfl⟩ := so_inj h
  exact f
set_option maxRecDepth 10000 in
theorem wX1_fetch_35 {x y : Nat} {p1 : Int32} {p2 : Int32} {r : Unit} {σ' : gS} (nh_54 : ¬ x = 54) (nh_55 : ¬ x = 55) (nr_30_53 : ¬ (30 ≤ x ∧ x ≤ 53)) : ∀ (n : Nat) (v3 : Int32) (v4 : Int32) (σ : gS), fX1_fetch_35 p1 p2 n v3 v4 σ = some (r, σ') → sm σ σ' x y := by
  intro n
  induction n with
  | zero => intro v3 v4 σ h; exact absurd (show none = some (r, σ') from h) (by intro q; cases q)
  | succ n ih =>
  intro v3 v4 σ h
  unfold fX1_fetch_35 at h
  have f := sm_r σ x y
  rcases ite_or h with ⟨_, h⟩ | ⟨_, h⟩
  · exact sm_t f (wX1_fetch_150 nh_54 nh_55 nr_30_53 h)
  · rcases ite_or h with ⟨_, h⟩ | ⟨_, h⟩
    · exact sm_t f (wX1_fetch_150 nh_54 nh_55 nr_30_53 h)
    · exact sm_t f (wX1_fetch_51 (fun v3 v4 σ h => ih v3 v4 σ h) nh_54 nh_55 nr_30_53 2000 v3 v4 0 σ h)
set_option maxRecDepth 10000 in
theorem wX1_fetch {x y : Nat} {p1 : Int32} {p2 : Int32} {r : Unit} {σ' : gS} {σ : gS} (nh_54 : ¬ x = 54) (nh_55 : ¬ x = 55) (nr_30_53 : ¬ (30 ≤ x ∧ x ≤ 53)) (h : fX1_fetch p1 p2 σ = some (r, σ')) : sm σ σ' x y := by
  unfold fX1_fetch at h
  have f := sm_r σ x y
  obtain ⟨_, σ1, y2, h⟩ := bd_some h
  have f := sm_t f (wJ7_fill_53178 nh_54 y2)
  obtain ⟨g3, h⟩ := gg_some h
  obtain ⟨σ4, eσ4, h⟩ := bnd_nm h
  have f := sm_I f (fun q => nh_54 q.1) eσ4
  obtain ⟨g5, h⟩ := gg_some h
  obtain ⟨σ6, eσ6, h⟩ := bnd_nm h
  have f := sm_I f (fun q => nh_54 q.1) eσ6
  obtain ⟨σ7, eσ7, h⟩ := bnd_nm h
  have f := sm_I f (fun q => nh_55 q.1) eσ7
  exact sm_t f (wX1_fetch_35 nh_54 nh_55 nr_30_53 2000 1 0 σ7 h)
set_option maxRecDepth 10000 in
theorem wX1_wouldBeNeeded_79 {x y : Nat} {p1 : Int32} {p2 : Int32} {r : Int32} {σ' : gS} {s0 : Int32} {σ : gS} (nh_54 : ¬ x = 54) (nh_55 : ¬ x = 55) (nr_30_53 : ¬ (30 ≤ x ∧ x ≤ 53)) (h : fX1_wouldBeNeeded_79 p1 p2 s0 σ = some (r, σ')) : sm σ σ' x y := by
  unfold fX1_wouldBeNeeded_79 at h
  have f := sm_r σ x y
  obtain ⟨g1, h⟩ := gg_some h
  obtain ⟨-, rfl⟩ := so_inj h
  exact f
set_option maxRecDepth 10000 in
theorem wX1_wouldBeNeeded_78 {x y : Nat} {p1 : Int32} {p2 : Int32} {r : Int32} {σ' : gS} {σ : gS} (nh_54 : ¬ x = 54) (nh_55 : ¬ x = 55) (nr_30_53 : ¬ (30 ≤ x ∧ x ≤ 53)) (h : fX1_wouldBeNeeded_78 p1 p2 σ = some (r, σ')) : sm σ σ' x y := by
  unfold fX1_wouldBeNeeded_78 at h
  have f := sm_r σ x y
  exact sm_t f (wX1_wouldBeNeeded_79 nh_54 nh_55 nr_30_53 h)
set_option maxRecDepth 10000 in
theorem wX1_wouldBeNeeded_56 {x y : Nat} {p1 : Int32} {p2 : Int32} {r : Int32} {σ' : gS} {σ : gS} (nh_54 : ¬ x = 54) (nh_55 : ¬ x = 55) (nr_30_53 : ¬ (30 ≤ x ∧ x ≤ 53)) (h : fX1_wouldBeNeeded_56 p1 p2 σ = some (r, σ')) : sm σ σ' x y := by
  unfold fX1_wouldBeNeeded_56 at h
  have f := sm_r σ x y
  obtain ⟨x1, σ2, y3, h⟩ := bd_some h
  have f := sm_t f (wX1_freePebbles y3)
  rcases ite_or h with ⟨_, h⟩ | ⟨_, h⟩
  · obtain ⟨x5, σ6, y7, h⟩ := bd_some h
    have f := sm_t f (wX1_freePebbles y7)
    rcases ite_or h with ⟨_, h⟩ | ⟨_, h⟩
    · exact sm_t f (wX1_wouldBeNeeded_79 nh_54 nh_55 nr_30_53 h)
    · exact sm_t f (wX1_wouldBeNeeded_78 nh_54 nh_55 nr_30_53 h)
  · exact sm_t f (wX1_wouldBeNeeded_78 nh_54 nh_55 nr_30_53 h)
set_option maxRecDepth 10000 in
theorem wX1_wouldBeNeeded_30 {x y : Nat} {p1 : Int32} {p2 : Int32} {r : Int32} {σ' : gS} (nh_54 : ¬ x = 54) (nh_55 : ¬ x = 55) (nr_30_53 : ¬ (30 ≤ x ∧ x ≤ 53)) : ∀ (n : Nat) (v3 : Int32) (σ : gS), fX1_wouldBeNeeded_30 p1 p2 n v3 σ = some (r, σ') → sm σ σ' x y := by
  intro n
  induction n with
  | zero => intro v3 σ h; exact absurd (show none = some (r, σ') from h) (by intro q; cases q)
  | succ n ih =>
  intro v3 σ h
  unfold fX1_wouldBeNeeded_30 at h
  have f := sm_r σ x y
  rcases ite_or h with ⟨_, h⟩ | ⟨_, h⟩
  · exact sm_t f (wX1_wouldBeNeeded_56 nh_54 nh_55 nr_30_53 h)
  · obtain ⟨x2, σ3, y4, h⟩ := bd_some h
    have f := sm_t f (wX1_freePebbles y4)
    rcases ite_or h with ⟨_, h⟩ | ⟨_, h⟩
    · exact sm_t f (wX1_wouldBeNeeded_56 nh_54 nh_55 nr_30_53 h)
    · obtain ⟨_, σ6, y7, h⟩ := bd_some h
      have f := sm_t f (wX1_fetch nh_54 nh_55 nr_30_53 y7)
      obtain ⟨x8, ex8, h⟩ := bnd_nm h
      exact sm_t f (ih x8 σ6 h)
set_option maxRecDepth 10000 in
theorem wX1_wouldBeNeeded_28 {x y : Nat} {p1 : Int32} {p2 : Int32} {r : Int32} {σ' : gS} {σ : gS} (nh_54 : ¬ x = 54) (nh_55 : ¬ x = 55) (nr_30_53 : ¬ (30 ≤ x ∧ x ≤ 53)) (h : fX1_wouldBeNeeded_28 p1 p2 σ = some (r, σ')) : sm σ σ' x y := by
  unfold fX1_wouldBeNeeded_28 at h
  have f := sm_r σ x y
  exact sm_t f (wX1_wouldBeNeeded_30 nh_54 nh_55 nr_30_53 2000 0 σ h)
set_option maxRecDepth 10000 in
theorem wX1_wouldBeNeeded_2 {x y : Nat} {p1 : Int32} {p2 : Int32} {r : Int32} {σ' : gS} (nh_54 : ¬ x = 54) (nh_55 : ¬ x = 55) (nr_30_53 : ¬ (30 ≤ x ∧ x ≤ 53)) : ∀ (n : Nat) (v3 : Int32) (σ : gS), fX1_wouldBeNeeded_2 p1 p2 n v3 σ = some (r, σ') → sm σ σ' x y := by
  intro n
  induction n with
  | zero => intro v3 σ h; exact absurd (show none = some (r, σ') from h) (by intro q; cases q)
  | succ n ih =>
  intro v3 σ h
  unfold fX1_wouldBeNeeded_2 at h
  have f := sm_r σ x y
  rcases ite_or h with ⟨_, h⟩ | ⟨_, h⟩
  · exact sm_t f (wX1_wouldBeNeeded_28 nh_54 nh_55 nr_30_53 h)
  · obtain ⟨x2, σ3, y4, h⟩ := bd_some h
    have f := sm_t f (wX1_freePebbles y4)
    rcases ite_or h with ⟨_, h⟩ | ⟨_, h⟩
    · exact sm_t f (wX1_wouldBeNeeded_28 nh_54 nh_55 nr_30_53 h)
    · obtain ⟨_, σ6, y7, h⟩ := bd_some h
      have f := sm_t f (wX1_fetch nh_54 nh_55 nr_30_53 y7)
      obtain ⟨x8, ex8, h⟩ := bnd_nm h
      exact sm_t f (ih x8 σ6 h)
set_option maxRecDepth 10000 in
theorem wX1_wouldBeNeeded {x y : Nat} {p1 : Int32} {p2 : Int32} {r : Int32} {σ' : gS} {σ : gS} (nh_54 : ¬ x = 54) (nh_55 : ¬ x = 55) (nr_30_53 : ¬ (30 ≤ x ∧ x ≤ 53)) (h : fX1_wouldBeNeeded p1 p2 σ = some (r, σ')) : sm σ σ' x y := by
  unfold fX1_wouldBeNeeded at h
  have f := sm_r σ x y
  exact sm_t f (wX1_wouldBeNeeded_2 nh_54 nh_55 nr_30_53 2000 0 σ h)
set_option maxRecDepth 10000 in
theorem wX1_offer {x y : Nat} {p1 : Int32} {p2 : Int32} {r : Int32} {σ' : gS} {σ : gS} (nh_28_7 : ¬ (x = 28 ∧ y = 7)) (nh_54 : ¬ x = 54) (nh_55 : ¬ x = 55) (nr_30_53 : ¬ (30 ≤ x ∧ x ≤ 53)) (h : fX1_offer p1 p2 σ = some (r, σ')) : sm σ σ' x y := by
  unfold fX1_offer at h
  have f := sm_r σ x y
  obtain ⟨x1, σ2, y3, h⟩ := bd_some h
  have f := sm_t f (wX1_wouldBeNeeded nh_54 nh_55 nr_30_53 y3)
  rcases ite_or h with ⟨_, h⟩ | ⟨_, h⟩
  · obtain ⟨-, rfl⟩ := so_inj h
    exact f
  · obtain ⟨g5, h⟩ := gg_some h
    obtain ⟨σ6, eσ6, h⟩ := bnd_nm h
    have f := sm_I f (fun q => (fun q => nr_30_53 (rg_ld (vp_lt g5) q)) q.1) eσ6
    obtain ⟨σ7, eσ7, h⟩ := bnd_nm h
    have f := sm_I f nh_28_7 eσ7
    obtain ⟨-, rfl⟩ := so_inj h
    exact f
set_option maxRecDepth 10000 in
theorem wX1_offerTies_93 {x y : Nat} {p1 : Nat} {k9 : Int32 → Int32 → Int32 → gS → Option (Unit × gS)} {r : Unit} {σ' : gS} {v2 : Int32} {v3 : Int32} {v4 : Int32} {σ : gS} (hk9 : ∀ (v2 : Int32) (v3 : Int32) (v4 : Int32) (σ : gS), k9 v2 v3 v4 σ = some (r, σ') → sm σ σ' x y) (nh_28_6 : ¬ (x = 28 ∧ y = 6)) (nh_28_7 : ¬ (x = 28 ∧ y = 7)) (nh_54 : ¬ x = 54) (nh_55 : ¬ x = 55) (nr_30_53 : ¬ (30 ≤ x ∧ x ≤ 53)) (h : fX1_offerTies_93 p1 k9 v2 v3 v4 σ = some (r, σ')) : sm σ σ' x y := by
  unfold fX1_offerTies_93 at h
  have f := sm_r σ x y
  obtain ⟨x1, ex1, h⟩ := bnd_nm h
  exact sm_t f (hk9 v2 v3 x1 σ h)
set_option maxRecDepth 10000 in
theorem wX1_offerTies_9 {x y : Nat} {p1 : Nat} {r : Unit} {σ' : gS} (nh_28_6 : ¬ (x = 28 ∧ y = 6)) (nh_28_7 : ¬ (x = 28 ∧ y = 7)) (nh_54 : ¬ x = 54) (nh_55 : ¬ x = 55) (nr_30_53 : ¬ (30 ≤ x ∧ x ≤ 53)) : ∀ (n : Nat) (v2 : Int32) (v3 : Int32) (v4 : Int32) (σ : gS), fX1_offerTies_9 p1 n v2 v3 v4 σ = some (r, σ') → sm σ σ' x y := by
  intro n
  induction n with
  | zero => intro v2 v3 v4 σ h; exact absurd (show none = some (r, σ') from h) (by intro q; cases q)
  | succ n ih =>
  intro v2 v3 v4 σ h
  unfold fX1_offerTies_9 at h
  have f := sm_r σ x y
  obtain ⟨x1, σ2, y3, h⟩ := bd_some h
  have f := sm_t f (wX3_size y3)
  rcases ite_or h with ⟨_, h⟩ | ⟨_, h⟩
  · obtain ⟨-, rfl⟩ := so_inj h
    exact f
  · obtain ⟨x5, σ6, y7, h⟩ := bd_some h
    have f := sm_t f (wX3_isGround y7)
    rcases ite_or h with ⟨_, h⟩ | ⟨_, h⟩
    · exact sm_t f (wX1_offerTies_93 (fun v2 v3 v4 σ h => ih v2 v3 v4 σ h) nh_28_6 nh_28_7 nh_54 nh_55 nr_30_53 h)
    · rcases ite_or h with ⟨_, h⟩ | ⟨_, h⟩
      · exact sm_t f (wX1_offerTies_93 (fun v2 v3 v4 σ h => ih v2 v3 v4 σ h) nh_28_6 nh_28_7 nh_54 nh_55 nr_30_53 h)
      · rcases ite_or h with ⟨_, h⟩ | ⟨_, h⟩
        · obtain ⟨x18, σ19, y20, h⟩ := bd_some h
          have f := sm_t f (wX1_offer nh_28_7 nh_54 nh_55 nr_30_53 y20)
          obtain ⟨σ21, eσ21, h⟩ := bnd_nm h
          have f := sm_I f nh_28_6 eσ21
          exact sm_t f (wX1_offerTies_93 (fun v2 v3 v4 σ h => ih v2 v3 v4 σ h) nh_28_6 nh_28_7 nh_54 nh_55 nr_30_53 h)
        · obtain ⟨x11, σ12, y13, h⟩ := bd_some h
          have f := sm_t f (wX1_offer nh_28_7 nh_54 nh_55 nr_30_53 y13)
          obtain ⟨x14, σ15, y16, h⟩ := bd_some h
          have f := sm_t f (wX1_offer nh_28_7 nh_54 nh_55 nr_30_53 y16)
          obtain ⟨σ17, eσ17, h⟩ := bnd_nm h
          have f := sm_I f nh_28_6 eσ17
          exact sm_t f (wX1_offerTies_93 (fun v2 v3 v4 σ h => ih v2 v3 v4 σ h) nh_28_6 nh_28_7 nh_54 nh_55 nr_30_53 h)
set_option maxRecDepth 10000 in
theorem wX1_offerTies {x y : Nat} {p1 : Nat} {r : Unit} {σ' : gS} {σ : gS} (nh_28_6 : ¬ (x = 28 ∧ y = 6)) (nh_28_7 : ¬ (x = 28 ∧ y = 7)) (nh_54 : ¬ x = 54) (nh_55 : ¬ x = 55) (nr_30_53 : ¬ (30 ≤ x ∧ x ≤ 53)) (h : fX1_offerTies p1 σ = some (r, σ')) : sm σ σ' x y := by
  unfold fX1_offerTies at h
  have f := sm_r σ x y
  exact sm_t f (wX1_offerTies_9 nh_28_6 nh_28_7 nh_54 nh_55 nr_30_53 2000 (-1000000) (-1000000) 0 σ h)
set_option maxRecDepth 10000 in
theorem wX3_firstOf {x y : Nat} {t : Nat} {p1 : Int32} {p2 : Int32} {r : Int32} {σ' : gS} {σ : gS} (h : fX3_firstOf t p1 p2 σ = some (r, σ')) : sm σ σ' x y := by
  unfold fX3_firstOf at h
  have f := sm_r σ x y
  obtain ⟨g1, h⟩ := gg_some h
  obtain ⟨g2, h⟩ := gg_some h
  obtain ⟨g3, h⟩ := gg_some h
  obtain ⟨-, rfl⟩ := so_inj h
  exact f
set_option maxRecDepth 10000 in
theorem wX3_secondOf {x y : Nat} {t : Nat} {p1 : Int32} {p2 : Int32} {r : Int32} {σ' : gS} {σ : gS} (h : fX3_secondOf t p1 p2 σ = some (r, σ')) : sm σ σ' x y := by
  unfold fX3_secondOf at h
  have f := sm_r σ x y
  obtain ⟨g1, h⟩ := gg_some h
  obtain ⟨g2, h⟩ := gg_some h
  obtain ⟨g3, h⟩ := gg_some h
  obtain ⟨-, rfl⟩ := so_inj h
  exact f
set_option maxRecDepth 10000 in
theorem wX1_findTogether_67 {x y : Nat} {p1 : Int32} {k10 : Int32 → gS → Option (Unit × gS)} {k29 : Int32 → Int32 → gS → Option (Unit × gS)} {r : Unit} {σ' : gS} {v2 : Int32} {v3 : Int32} {σ : gS} (hk10 : ∀ (v2 : Int32) (σ : gS), k10 v2 σ = some (r, σ') → sm σ σ' x y) (hk29 : ∀ (v2 : Int32) (v3 : Int32) (σ : gS), k29 v2 v3 σ = some (r, σ') → sm σ σ' x y) (nh_54 : ¬ x = 54) (nh_55 : ¬ x = 55) (nh_57 : ¬ x = 57) (nr_30_53 : ¬ (30 ≤ x ∧ x ≤ 53)) (h : fX1_findTogether_67 p1 k10 k29 v2 v3 σ = some (r, σ')) : sm σ σ' x y := by
  unfold fX1_findTogether_67 at h
  have f := sm_r σ x y
  obtain ⟨x1, ex1, h⟩ := bnd_nm h
  exact sm_t f (hk29 v2 x1 σ h)
set_option maxRecDepth 10000 in
theorem wX1_findTogether_29 {x y : Nat} {p1 : Int32} {k10 : Int32 → gS → Option (Unit × gS)} {r : Unit} {σ' : gS} (hk10 : ∀ (v2 : Int32) (σ : gS), k10 v2 σ = some (r, σ') → sm σ σ' x y) (nh_54 : ¬ x = 54) (nh_55 : ¬ x = 55) (nh_57 : ¬ x = 57) (nr_30_53 : ¬ (30 ≤ x ∧ x ≤ 53)) : ∀ (n : Nat) (v2 : Int32) (v3 : Int32) (σ : gS), fX1_findTogether_29 p1 k10 n v2 v3 σ = some (r, σ') → sm σ σ' x y := by
  intro n
  induction n with
  | zero => intro v2 v3 σ h; exact absurd (show none = some (r, σ') from h) (by intro q; cases q)
  | succ n ih =>
  intro v2 v3 σ h
  unfold fX1_findTogether_29 at h
  have f := sm_r σ x y
  rcases ite_or h with ⟨_, h⟩ | ⟨_, h⟩
  · obtain ⟨x2, ex2, h⟩ := bnd_nm h
    exact sm_t f (hk10 x2 σ h)
  · obtain ⟨x3, σ4, y5, h⟩ := bd_some h
    have f := sm_t f (wX1_wouldBeNeeded nh_54 nh_55 nr_30_53 y5)
    rcases ite_or h with ⟨_, h⟩ | ⟨_, h⟩
    · obtain ⟨g7, h⟩ := gg_some h
      obtain ⟨g8, h⟩ := gg_some h
      obtain ⟨σ9, eσ9, h⟩ := bnd_nm h
      have f := sm_I f (fun q => nh_57 q.1) eσ9
      obtain ⟨g10, h⟩ := gg_some h
      obtain ⟨g11, h⟩ := gg_some h
      obtain ⟨σ12, eσ12, h⟩ := bnd_nm h
      have f := sm_I f (fun q => nh_57 q.1) eσ12
      exact sm_t f (wX1_findTogether_67 hk10 (fun v2 v3 σ h => ih v2 v3 σ h) nh_54 nh_55 nh_57 nr_30_53 h)
    · exact sm_t f (wX1_findTogether_67 hk10 (fun v2 v3 σ h => ih v2 v3 σ h) nh_54 nh_55 nh_57 nr_30_53 h)
set_option maxRecDepth 10000 in
theorem wX1_findTogether_10 {x y : Nat} {p1 : Int32} {r : Unit} {σ' : gS} (nh_54 : ¬ x = 54) (nh_55 : ¬ x = 55) (nh_57 : ¬ x = 57) (nr_30_53 : ¬ (30 ≤ x ∧ x ≤ 53)) : ∀ (n : Nat) (v2 : Int32) (σ : gS), fX1_findTogether_10 p1 n v2 σ = some (r, σ') → sm σ σ' x y := by
  intro n
  induction n with
  | zero => intro v2 σ h; exact absurd (show none = some (r, σ') from h) (by intro q; cases q)
  | succ n ih =>
  intro v2 σ h
  unfold fX1_findTogether_10 at h
  have f := sm_r σ x y
  rcases ite_or h with ⟨_, h⟩ | ⟨_, h⟩
  · obtain ⟨-, rfl⟩ := so_inj h
    exact f
  · obtain ⟨g2, h⟩ := gg_some h
    obtain ⟨g3, h⟩ := gg_some h
    obtain ⟨σ4, eσ4, h⟩ := bnd_nm h
    have f := sm_I f (fun q => nh_57 q.1) eσ4
    exact sm_t f (wX1_findTogether_29 (fun v2 σ h => ih v2 σ h) nh_54 nh_55 nh_57 nr_30_53 2000 v2 0 σ4 h)
set_option maxRecDepth 10000 in
theorem wX1_findTogether {x y : Nat} {p1 : Int32} {r : Unit} {σ' : gS} {σ : gS} (nh_54 : ¬ x = 54) (nh_55 : ¬ x = 55) (nh_57 : ¬ x = 57) (nr_30_53 : ¬ (30 ≤ x ∧ x ≤ 53)) (h : fX1_findTogether p1 σ = some (r, σ')) : sm σ σ' x y := by
  unfold fX1_findTogether at h
  have f := sm_r σ x y
  obtain ⟨_, σ1, y2, h⟩ := bd_some h
  have f := sm_t f (wJ7_fill_53178 nh_57 y2)
  exact sm_t f (wX1_findTogether_10 nh_54 nh_55 nh_57 nr_30_53 2000 0 σ1 h)
set_option maxRecDepth 10000 in
theorem wX1_areOneCluster_59 {x y : Nat} {p1 : Nat} {p2 : Int32} {p3 : Int32} {r : Int32} {σ' : gS} {s0 : Int32} {σ : gS} (h : fX1_areOneCluster_59 p1 p2 p3 s0 σ = some (r, σ')) : sm σ σ' x y := by
  unfold fX1_areOneCluster_59 at h
  have f := sm_r σ x y
  obtain ⟨g1, h⟩ := gg_some h
  obtain ⟨-, rfl⟩ := so_inj h
  exact f
set_option maxRecDepth 10000 in
theorem wX1_areOneCluster {x y : Nat} {p1 : Nat} {p2 : Int32} {p3 : Int32} {r : Int32} {σ' : gS} {σ : gS} (h : fX1_areOneCluster p1 p2 p3 σ = some (r, σ')) : sm σ σ' x y := by
  unfold fX1_areOneCluster at h
  have f := sm_r σ x y
  obtain ⟨x1, σ2, y3, h⟩ := bd_some h
  have f := sm_t f (wX3_firstOf y3)
  obtain ⟨x4, σ5, y6, h⟩ := bd_some h
  have f := sm_t f (wX3_secondOf y6)
  obtain ⟨x7, ex7, h⟩ := bnd_nm h
  obtain ⟨x8, σ9, y10, h⟩ := bd_some h
  have f := sm_t f (wX3_firstOf y10)
  obtain ⟨g11, h⟩ := gg_some h
  obtain ⟨x12, σ13, y14, h⟩ := bd_some h
  have f := sm_t f (wX3_secondOf y14)
  obtain ⟨g15, h⟩ := gg_some h
  obtain ⟨x16, ex16, h⟩ := bnd_nm h
  rcases ite_or h with ⟨_, h⟩ | ⟨_, h⟩
  · exact sm_t f (wX1_areOneCluster_59 h)
  · exact sm_t f (wX1_areOneCluster_59 h)
set_option maxRecDepth 10000 in
theorem wX1_findClusters_57 {x y : Nat} {p1 : Nat} {k7 : Int32 → gS → Option (Unit × gS)} {k25 : Int32 → Int32 → gS → Option (Unit × gS)} {r : Unit} {σ' : gS} {v2 : Int32} {v3 : Int32} {σ : gS} (hk7 : ∀ (v2 : Int32) (σ : gS), k7 v2 σ = some (r, σ') → sm σ σ' x y) (hk25 : ∀ (v2 : Int32) (v3 : Int32) (σ : gS), k25 v2 v3 σ = some (r, σ') → sm σ σ' x y) (nh_28_9 : ¬ (x = 28 ∧ y = 9)) (nh_58 : ¬ x = 58) (h : fX1_findClusters_57 p1 k7 k25 v2 v3 σ = some (r, σ')) : sm σ σ' x y := by
  unfold fX1_findClusters_57 at h
  have f := sm_r σ x y
  obtain ⟨x1, ex1, h⟩ := bnd_nm h
  exact sm_t f (hk25 v2 x1 σ h)
set_option maxRecDepth 10000 in
theorem wX1_findClusters_83 {x y : Nat} {p1 : Nat} {k7 : Int32 → gS → Option (Unit × gS)} {r : Unit} {σ' : gS} {v2 : Int32} {σ : gS} (hk7 : ∀ (v2 : Int32) (σ : gS), k7 v2 σ = some (r, σ') → sm σ σ' x y) (nh_28_9 : ¬ (x = 28 ∧ y = 9)) (nh_58 : ¬ x = 58) (h : fX1_findClusters_83 p1 k7 v2 σ = some (r, σ')) : sm σ σ' x y := by
  unfold fX1_findClusters_83 at h
  have f := sm_r σ x y
  obtain ⟨x1, ex1, h⟩ := bnd_nm h
  exact sm_t f (hk7 x1 σ h)
set_option maxRecDepth 10000 in
theorem wX1_findClusters_63 {x y : Nat} {p1 : Nat} {k7 : Int32 → gS → Option (Unit × gS)} {r : Unit} {σ' : gS} {v2 : Int32} {σ : gS} (hk7 : ∀ (v2 : Int32) (σ : gS), k7 v2 σ = some (r, σ') → sm σ σ' x y) (nh_28_9 : ¬ (x = 28 ∧ y = 9)) (nh_58 : ¬ x = 58) (h : fX1_findClusters_63 p1 k7 v2 σ = some (r, σ')) : sm σ σ' x y := by
  unfold fX1_findClusters_63 at h
  have f := sm_r σ x y
  obtain ⟨g1, h⟩ := gg_some h
  rcases ite_or h with ⟨_, h⟩ | ⟨_, h⟩
  · obtain ⟨σ3, eσ3, h⟩ := bnd_nm h
    have f := sm_I f nh_28_9 eσ3
    exact sm_t f (wX1_findClusters_83 hk7 nh_28_9 nh_58 h)
  · exact sm_t f (wX1_findClusters_83 hk7 nh_28_9 nh_58 h)
set_option maxRecDepth 10000 in
theorem wX1_findClusters_25 {x y : Nat} {p1 : Nat} {k7 : Int32 → gS → Option (Unit × gS)} {r : Unit} {σ' : gS} (hk7 : ∀ (v2 : Int32) (σ : gS), k7 v2 σ = some (r, σ') → sm σ σ' x y) (nh_28_9 : ¬ (x = 28 ∧ y = 9)) (nh_58 : ¬ x = 58) : ∀ (n : Nat) (v2 : Int32) (v3 : Int32) (σ : gS), fX1_findClusters_25 p1 k7 n v2 v3 σ = some (r, σ') → sm σ σ' x y := by
  intro n
  induction n with
  | zero => intro v2 v3 σ h; exact absurd (show none = some (r, σ') from h) (by intro q; cases q)
  | succ n ih =>
  intro v2 v3 σ h
  unfold fX1_findClusters_25 at h
  have f := sm_r σ x y
  rcases ite_or h with ⟨_, h⟩ | ⟨_, h⟩
  · exact sm_t f (wX1_findClusters_63 hk7 nh_28_9 nh_58 h)
  · obtain ⟨g2, h⟩ := gg_some h
    rcases ite_or h with ⟨_, h⟩ | ⟨_, h⟩
    · obtain ⟨x4, σ5, y6, h⟩ := bd_some h
      have f := sm_t f (wX1_areOneCluster y6)
      rcases ite_or h with ⟨_, h⟩ | ⟨_, h⟩
      · exact sm_t f (wX1_findClusters_57 hk7 (fun v2 v3 σ h => ih v2 v3 σ h) nh_28_9 nh_58 h)
      · obtain ⟨g8, h⟩ := gg_some h
        obtain ⟨σ9, eσ9, h⟩ := bnd_nm h
        have f := sm_I f (fun q => nh_58 q.1) eσ9
        exact sm_t f (wX1_findClusters_57 hk7 (fun v2 v3 σ h => ih v2 v3 σ h) nh_28_9 nh_58 h)
    · exact sm_t f (wX1_findClusters_63 hk7 nh_28_9 nh_58 h)
set_option maxRecDepth 10000 in
theorem wX1_findClusters_7 {x y : Nat} {p1 : Nat} {r : Unit} {σ' : gS} (nh_28_9 : ¬ (x = 28 ∧ y = 9)) (nh_58 : ¬ x = 58) : ∀ (n : Nat) (v2 : Int32) (σ : gS), fX1_findClusters_7 p1 n v2 σ = some (r, σ') → sm σ σ' x y := by
  intro n
  induction n with
  | zero => intro v2 σ h; exact absurd (show none = some (r, σ') from h) (by intro q; cases q)
  | succ n ih =>
  intro v2 σ h
  unfold fX1_findClusters_7 at h
  have f := sm_r σ x y
  obtain ⟨x1, σ2, y3, h⟩ := bd_some h
  have f := sm_t f (wX3_size y3)
  rcases ite_or h with ⟨_, h⟩ | ⟨_, h⟩
  · obtain ⟨-, rfl⟩ := so_inj h
    exact f
  · obtain ⟨g5, h⟩ := gg_some h
    obtain ⟨σ6, eσ6, h⟩ := bnd_nm h
    have f := sm_I f (fun q => nh_58 q.1) eσ6
    exact sm_t f (wX1_findClusters_25 (fun v2 σ h => ih v2 σ h) nh_28_9 nh_58 2000 v2 0 σ6 h)
set_option maxRecDepth 10000 in
theorem wX1_findClusters {x y : Nat} {p1 : Nat} {r : Unit} {σ' : gS} {σ : gS} (nh_28_9 : ¬ (x = 28 ∧ y = 9)) (nh_58 : ¬ x = 58) (h : fX1_findClusters p1 σ = some (r, σ')) : sm σ σ' x y := by
  unfold fX1_findClusters at h
  have f := sm_r σ x y
  obtain ⟨σ1, eσ1, h⟩ := bnd_nm h
  have f := sm_I f nh_28_9 eσ1
  exact sm_t f (wX1_findClusters_7 nh_28_9 nh_58 2000 0 σ1 h)
set_option maxRecDepth 10000 in
theorem wX1_work_105 {x y : Nat} {p1 : Nat} {r : Unit} {σ' : gS} {v2 : Int32} {s1 : Int32} {σ : gS} (nh_28_6 : ¬ (x = 28 ∧ y = 6)) (nh_28_7 : ¬ (x = 28 ∧ y = 7)) (nh_28_8 : ¬ (x = 28 ∧ y = 8)) (nh_28_9 : ¬ (x = 28 ∧ y = 9)) (nh_54 : ¬ x = 54) (nh_55 : ¬ x = 55) (nh_56 : ¬ x = 56) (nh_57 : ¬ x = 57) (nh_58 : ¬ x = 58) (nr_30_53 : ¬ (30 ≤ x ∧ x ≤ 53)) (h : fX1_work_105 p1 v2 s1 σ = some (r, σ')) : sm σ σ' x y := by
  unfold fX1_work_105 at h
  have f := sm_r σ x y
  obtain ⟨σ1, eσ1, h⟩ := bnd_nm h
  have f := sm_I f nh_28_8 eσ1
  obtain ⟨_, σ2, y3, h⟩ := bd_some h
  have f := sm_t f (wX1_findTogether nh_54 nh_55 nh_57 nr_30_53 y3)
  obtain ⟨_, σ4, y5, h⟩ := bd_some h
  have f := sm_t f (wX1_findClusters nh_28_9 nh_58 y5)
  obtain ⟨-, rfl⟩ := so_inj h
  exact f
set_option maxRecDepth 10000 in
theorem wX1_work_48 {x y : Nat} {p1 : Nat} {r : Unit} {σ' : gS} (nh_28_6 : ¬ (x = 28 ∧ y = 6)) (nh_28_7 : ¬ (x = 28 ∧ y = 7)) (nh_28_8 : ¬ (x = 28 ∧ y = 8)) (nh_28_9 : ¬ (x = 28 ∧ y = 9)) (nh_54 : ¬ x = 54) (nh_55 : ¬ x = 55) (nh_56 : ¬ x = 56) (nh_57 : ¬ x = 57) (nh_58 : ¬ x = 58) (nr_30_53 : ¬ (30 ≤ x ∧ x ≤ 53)) : ∀ (n : Nat) (v2 : Int32) (v3 : Int32) (σ : gS), fX1_work_48 p1 n v2 v3 σ = some (r, σ') → sm σ σ' x y := by
  intro n
  induction n with
  | zero => intro v2 v3 σ h; exact absurd (show none = some (r, σ') from h) (by intro q; cases q)
  | succ n ih =>
  intro v2 v3 σ h
  unfold fX1_work_48 at h
  have f := sm_r σ x y
  obtain ⟨x1, σ2, y3, h⟩ := bd_some h
  have f := sm_t f (wX3_size y3)
  rcases ite_or h with ⟨_, h⟩ | ⟨_, h⟩
  · rcases ite_or h with ⟨_, h⟩ | ⟨_, h⟩
    · exact sm_t f (wX1_work_105 nh_28_6 nh_28_7 nh_28_8 nh_28_9 nh_54 nh_55 nh_56 nh_57 nh_58 nr_30_53 h)
    · exact sm_t f (wX1_work_105 nh_28_6 nh_28_7 nh_28_8 nh_28_9 nh_54 nh_55 nh_56 nh_57 nh_58 nr_30_53 h)
  · obtain ⟨x6, σ7, y8, h⟩ := bd_some h
    have f := sm_t f (wX3_firstOf y8)
    obtain ⟨x9, σ10, y11, h⟩ := bd_some h
    have f := sm_t f (wX3_secondOf y11)
    obtain ⟨x12, σ13, y14, h⟩ := bd_some h
    have f := sm_t f (wX1_offer nh_28_7 nh_54 nh_55 nr_30_53 y14)
    obtain ⟨g15, h⟩ := gg_some h
    obtain ⟨σ16, eσ16, h⟩ := bnd_nm h
    have f := sm_I f (fun q => nh_56 q.1) eσ16
    obtain ⟨x17, ex17, h⟩ := bnd_nm h
    exact sm_t f (ih v2 x17 σ16 h)
set_option maxRecDepth 10000 in
theorem wX1_work_8 {x y : Nat} {p1 : Nat} {r : Unit} {σ' : gS} (nh_28_6 : ¬ (x = 28 ∧ y = 6)) (nh_28_7 : ¬ (x = 28 ∧ y = 7)) (nh_28_8 : ¬ (x = 28 ∧ y = 8)) (nh_28_9 : ¬ (x = 28 ∧ y = 9)) (nh_54 : ¬ x = 54) (nh_55 : ¬ x = 55) (nh_56 : ¬ x = 56) (nh_57 : ¬ x = 57) (nh_58 : ¬ x = 58) (nr_30_53 : ¬ (30 ≤ x ∧ x ≤ 53)) : ∀ (n : Nat) (v2 : Int32) (v3 : Int32) (σ : gS), fX1_work_8 p1 n v2 v3 σ = some (r, σ') → sm σ σ' x y := by
  intro n
  induction n with
  | zero => intro v2 v3 σ h; exact absurd (show none = some (r, σ') from h) (by intro q; cases q)
  | succ n ih =>
  intro v2 v3 σ h
  unfold fX1_work_8 at h
  have f := sm_r σ x y
  rcases ite_or h with ⟨_, h⟩ | ⟨_, h⟩
  · obtain ⟨σ2, eσ2, h⟩ := bnd_nm h
    have f := sm_I f nh_28_6 eσ2
    obtain ⟨σ3, eσ3, h⟩ := bnd_nm h
    have f := sm_I f nh_28_7 eσ3
    obtain ⟨_, σ4, y5, h⟩ := bd_some h
    have f := sm_t f (wX1_offerTies nh_28_6 nh_28_7 nh_54 nh_55 nr_30_53 y5)
    exact sm_t f (wX1_work_48 nh_28_6 nh_28_7 nh_28_8 nh_28_9 nh_54 nh_55 nh_56 nh_57 nh_58 nr_30_53 2000 v2 0 σ4 h)
  · obtain ⟨g6, h⟩ := gg_some h
    obtain ⟨_, σ7, y8, h⟩ := bd_some h
    have f := sm_t f (wJ7_fill_53178 (fun q => nr_30_53 (rg_ld (vp_lt g6) q)) y8)
    obtain ⟨x9, ex9, h⟩ := bnd_nm h
    exact sm_t f (ih v2 x9 σ7 h)
set_option maxRecDepth 10000 in
theorem wX1_work {x y : Nat} {p1 : Nat} {r : Unit} {σ' : gS} {σ : gS} (nh_28_6 : ¬ (x = 28 ∧ y = 6)) (nh_28_7 : ¬ (x = 28 ∧ y = 7)) (nh_28_8 : ¬ (x = 28 ∧ y = 8)) (nh_28_9 : ¬ (x = 28 ∧ y = 9)) (nh_54 : ¬ x = 54) (nh_55 : ¬ x = 55) (nh_56 : ¬ x = 56) (nh_57 : ¬ x = 57) (nh_58 : ¬ x = 58) (nr_30_53 : ¬ (30 ≤ x ∧ x ≤ 53)) (h : fX1_work p1 σ = some (r, σ')) : sm σ σ' x y := by
  unfold fX1_work at h
  have f := sm_r σ x y
  obtain ⟨x1, σ2, y3, h⟩ := bd_some h
  have f := sm_t f (wX3_size y3)
  exact sm_t f (wX1_work_8 nh_28_6 nh_28_7 nh_28_8 nh_28_9 nh_54 nh_55 nh_56 nh_57 nh_58 nr_30_53 2000 x1 0 σ2 h)
set_option maxRecDepth 10000 in
theorem wX1_areTogether_18 {x y : Nat} {p1 : Int32} {p2 : Int32} {r : Int32} {σ' : gS} {s0 : Int32} {σ : gS} (h : fX1_areTogether_18 p1 p2 s0 σ = some (r, σ')) : sm σ σ' x y := by
  unfold fX1_areTogether_18 at h
  have f := sm_r σ x y
  obtain ⟨g1, h⟩ := gg_some h
  obtain ⟨-, rfl⟩ := so_inj h
  exact f
set_option maxRecDepth 10000 in
theorem wX1_areTogether {x y : Nat} {p1 : Int32} {p2 : Int32} {r : Int32} {σ' : gS} {σ : gS} (h : fX1_areTogether p1 p2 σ = some (r, σ')) : sm σ σ' x y := by
  unfold fX1_areTogether at h
  have f := sm_r σ x y
  obtain ⟨g1, h⟩ := gg_some h
  rcases ite_or h with ⟨_, h⟩ | ⟨_, h⟩
  · exact sm_t f (wX1_areTogether_18 h)
  · exact sm_t f (wX1_areTogether_18 h)
set_option maxRecDepth 10000 in
theorem wX9_depthOf_2 {x y : Nat} {p1 : Int32} {r : Int32} {σ' : gS} : ∀ (n : Nat) (v2 : Int32) (σ : gS), fX9_depthOf_2 p1 n v2 σ = some (r, σ') → sm σ σ' x y := by
  intro n
  induction n with
  | zero => intro v2 σ h; exact absurd (show none = some (r, σ') from h) (by intro q; cases q)
  | succ n ih =>
  intro v2 σ h
  unfold fX9_depthOf_2 at h
  have f := sm_r σ x y
  rcases ite_or h with ⟨_, h⟩ | ⟨_, h⟩
  · obtain ⟨-, rfl⟩ := so_inj h
    exact f
  · obtain ⟨g2, h⟩ := gg_some h
    rcases ite_or h with ⟨_, h⟩ | ⟨_, h⟩
    · obtain ⟨-, rfl⟩ := so_inj h
      exact f
    · obtain ⟨x4, ex4, h⟩ := bnd_nm h
      exact sm_t f (ih x4 σ h)
set_option maxRecDepth 10000 in
theorem wX9_depthOf {x y : Nat} {p1 : Int32} {r : Int32} {σ' : gS} {σ : gS} (h : fX9_depthOf p1 σ = some (r, σ')) : sm σ σ' x y := by
  unfold fX9_depthOf at h
  have f := sm_r σ x y
  exact sm_t f (wX9_depthOf_2 2000 0 σ h)
set_option maxRecDepth 10000 in
theorem wX3_x {x y : Nat} {t : Nat} {p1 : Int32} {r : Int32} {σ' : gS} {σ : gS} (h : fX3_x t p1 σ = some (r, σ')) : sm σ σ' x y := by
  unfold fX3_x at h
  have f := sm_r σ x y
  obtain ⟨x1, σ2, y3, h⟩ := bd_some h
  have f := sm_t f (wX3_firstOf y3)
  obtain ⟨-, rfl⟩ := so_inj h
  exact f
set_option maxRecDepth 10000 in
theorem wX3_y {x y : Nat} {t : Nat} {p1 : Int32} {r : Int32} {σ' : gS} {σ : gS} (h : fX3_y t p1 σ = some (r, σ')) : sm σ σ' x y := by
  unfold fX3_y at h
  have f := sm_r σ x y
  obtain ⟨x1, σ2, y3, h⟩ := bd_some h
  have f := sm_t f (wX3_secondOf y3)
  obtain ⟨-, rfl⟩ := so_inj h
  exact f
set_option maxRecDepth 10000 in
theorem wX5_set {x y : Nat} {t : Nat} {p1 : Int32} {p2 : Int64} {p3 : Int64} {r : Unit} {σ' : gS} {σ : gS} (nt_t_1 : ¬ x = t + 1) (nt_t_2 : ¬ x = t + 2) (nt_t_3 : ¬ x = t + 3) (h : fX5_set t p1 p2 p3 σ = some (r, σ')) : sm σ σ' x y := by
  unfold fX5_set at h
  have f := sm_r σ x y
  obtain ⟨g1, h⟩ := gg_some h
  obtain ⟨σ2, eσ2, h⟩ := bnd_nm h
  have f := sm_J f (fun q => nt_t_1 q.1) eσ2
  obtain ⟨g3, h⟩ := gg_some h
  obtain ⟨σ4, eσ4, h⟩ := bnd_nm h
  have f := sm_J f (fun q => nt_t_2 q.1) eσ4
  obtain ⟨g5, h⟩ := gg_some h
  obtain ⟨σ6, eσ6, h⟩ := bnd_nm h
  have f := sm_I f (fun q => nt_t_3 q.1) eσ6
  obtain ⟨-, rfl⟩ := so_inj h
  exact f
set_option maxRecDepth 10000 in
theorem wJ9_floorDiv_7cf53_21 {x y : Nat} {p1 : Int32} {p2 : Int32} {r : Int32} {σ' : gS} {v2 : Int32} {σ : gS} (h : fJ9_floorDiv_7cf53_21 p1 p2 v2 σ = some (r, σ')) : sm σ σ' x y := by
  unfold fJ9_floorDiv_7cf53_21 at h
  have f := sm_r σ x y
  obtain ⟨-, rfl⟩ := so_inj h
  exact f
set_option maxRecDepth 10000 in
theorem wJ9_floorDiv_7cf53 {x y : Nat} {p1 : Int32} {p2 : Int32} {r : Int32} {σ' : gS} {σ : gS} (h : fJ9_floorDiv_7cf53 p1 p2 σ = some (r, σ')) : sm σ σ' x y := by
  unfold fJ9_floorDiv_7cf53 at h
  have f := sm_r σ x y
  obtain ⟨g1, h⟩ := gg_some h
  obtain ⟨x2, ex2, h⟩ := bnd_nm h
  rcases ite_or h with ⟨_, h⟩ | ⟨_, h⟩
  · exact sm_t f (wJ9_floorDiv_7cf53_21 h)
  · rcases ite_or h with ⟨_, h⟩ | ⟨_, h⟩
    · exact sm_t f (wJ9_floorDiv_7cf53_21 h)
    · obtain ⟨-, rfl⟩ := so_inj h
      exact f
set_option maxRecDepth 10000 in
theorem wX9_placeDriven_50 {x y : Nat} {p1 : Nat} {p2 : Int32} {p3 : Nat} {r : Unit} {σ' : gS} (nt_p3_1 : ¬ x = p3 + 1) (nt_p3_2 : ¬ x = p3 + 2) (nt_p3_3 : ¬ x = p3 + 3) : ∀ (n : Nat) (v5 : Int32) (v6 : Int32) (v7 : Int32) (σ : gS), fX9_placeDriven_50 p1 p2 p3 n v5 v6 v7 σ = some (r, σ') → sm σ σ' x y := by
  intro n
  induction n with
  | zero => intro v5 v6 v7 σ h; exact absurd (show none = some (r, σ') from h) (by intro q; cases q)
  | succ n ih =>
  intro v5 v6 v7 σ h
  unfold fX9_placeDriven_50 at h
  have f := sm_r σ x y
  rcases ite_or h with ⟨_, h⟩ | ⟨_, h⟩
  · obtain ⟨x2, σ3, y4, h⟩ := bd_some h
    have f := sm_t f (wX3_x y4)
    obtain ⟨x5, σ6, y7, h⟩ := bd_some h
    have f := sm_t f (wX3_x y7)
    obtain ⟨x8, ex8, h⟩ := bnd_nm h
    obtain ⟨x9, σ10, y11, h⟩ := bd_some h
    have f := sm_t f (wX3_y y11)
    obtain ⟨x12, σ13, y14, h⟩ := bd_some h
    have f := sm_t f (wX3_y y14)
    obtain ⟨x15, ex15, h⟩ := bnd_nm h
    obtain ⟨g16, h⟩ := gg_some h
    obtain ⟨x17, σ18, y19, h⟩ := bd_some h
    have f := sm_t f (wJ9_floorDiv_7cf53 y19)
    obtain ⟨g20, h⟩ := gg_some h
    obtain ⟨x21, σ22, y23, h⟩ := bd_some h
    have f := sm_t f (wJ9_floorDiv_7cf53 y23)
    obtain ⟨_, σ24, y25, h⟩ := bd_some h
    have f := sm_t f (wX5_set nt_p3_1 nt_p3_2 nt_p3_3 y25)
    obtain ⟨-, rfl⟩ := so_inj h
    exact f
  · obtain ⟨x26, ex26, h⟩ := bnd_nm h
    obtain ⟨x27, ex27, h⟩ := bnd_nm h
    exact sm_t f (ih x26 v5 x27 σ h)
set_option maxRecDepth 10000 in
theorem wX9_placeDriven {x y : Nat} {p1 : Nat} {p2 : Int32} {p3 : Nat} {r : Unit} {σ' : gS} {σ : gS} (nt_p3_1 : ¬ x = p3 + 1) (nt_p3_2 : ¬ x = p3 + 2) (nt_p3_3 : ¬ x = p3 + 3) (h : fX9_placeDriven p1 p2 p3 σ = some (r, σ')) : sm σ σ' x y := by
  unfold fX9_placeDriven at h
  have f := sm_r σ x y
  obtain ⟨x1, ex1, h⟩ := bnd_nm h
  obtain ⟨g2, h⟩ := gg_some h
  obtain ⟨x3, ex3, h⟩ := bnd_nm h
  obtain ⟨g4, h⟩ := gg_some h
  obtain ⟨x5, ex5, h⟩ := bnd_nm h
  exact sm_t f (wX9_placeDriven_50 nt_p3_1 nt_p3_2 nt_p3_3 2000 x3 x5 0 σ h)
set_option maxRecDepth 10000 in
theorem wJ9_floorDiv_f86c9_27 {x y : Nat} {p1 : Int64} {p2 : Int64} {r : Int64} {σ' : gS} {v4 : Int64} {σ : gS} (h : fJ9_floorDiv_f86c9_27 p1 p2 v4 σ = some (r, σ')) : sm σ σ' x y := by
  unfold fJ9_floorDiv_f86c9_27 at h
  have f := sm_r σ x y
  obtain ⟨-, rfl⟩ := so_inj h
  exact f
set_option maxRecDepth 10000 in
theorem wJ9_floorDiv_f86c9 {x y : Nat} {p1 : Int64} {p2 : Int64} {r : Int64} {σ' : gS} {σ : gS} (h : fJ9_floorDiv_f86c9 p1 p2 σ = some (r, σ')) : sm σ σ' x y := by
  unfold fJ9_floorDiv_f86c9 at h
  have f := sm_r σ x y
  obtain ⟨g1, h⟩ := gg_some h
  obtain ⟨x2, ex2, h⟩ := bnd_nm h
  rcases ite_or h with ⟨_, h⟩ | ⟨_, h⟩
  · exact sm_t f (wJ9_floorDiv_f86c9_27 h)
  · rcases ite_or h with ⟨_, h⟩ | ⟨_, h⟩
    · exact sm_t f (wJ9_floorDiv_f86c9_27 h)
    · obtain ⟨-, rfl⟩ := so_inj h
      exact f
set_option maxRecDepth 10000 in
theorem wX9_squareScaled_21 {x y : Nat} {p1 : Int64} {p2 : Int64} {r : Int64} {σ' : gS} : ∀ (n : Nat) (v4 : Int64) (v6 : Int64) (v8 : Int32) (σ : gS), fX9_squareScaled_21 p1 p2 n v4 v6 v8 σ = some (r, σ') → sm σ σ' x y := by
  intro n
  induction n with
  | zero => intro v4 v6 v8 σ h; exact absurd (show none = some (r, σ') from h) (by intro q; cases q)
  | succ n ih =>
  intro v4 v6 v8 σ h
  unfold fX9_squareScaled_21 at h
  have f := sm_r σ x y
  rcases ite_or h with ⟨_, h⟩ | ⟨_, h⟩
  · obtain ⟨-, rfl⟩ := so_inj h
    exact f
  · obtain ⟨x2, ex2, h⟩ := bnd_nm h
    obtain ⟨g3, h⟩ := gg_some h
    obtain ⟨x4, ex4, h⟩ := bnd_nm h
    obtain ⟨g5, h⟩ := gg_some h
    obtain ⟨x6, ex6, h⟩ := bnd_nm h
    obtain ⟨x7, ex7, h⟩ := bnd_nm h
    exact sm_t f (ih x4 x6 x7 σ h)
set_option maxRecDepth 10000 in
theorem wX9_squareScaled {x y : Nat} {p1 : Int64} {p2 : Int64} {r : Int64} {σ' : gS} {σ : gS} (h : fX9_squareScaled p1 p2 σ = some (r, σ')) : sm σ σ' x y := by
  unfold fX9_squareScaled at h
  have f := sm_r σ x y
  rcases ite_or h with ⟨_, h⟩ | ⟨_, h⟩
  · obtain ⟨g2, h⟩ := gg_some h
    obtain ⟨x3, ex3, h⟩ := bnd_nm h
    obtain ⟨g4, h⟩ := gg_some h
    obtain ⟨x5, ex5, h⟩ := bnd_nm h
    exact sm_t f (wX9_squareScaled_21 2000 x3 x5 0 σ h)
  · obtain ⟨-, rfl⟩ := so_inj h
    exact f
set_option maxRecDepth 10000 in
theorem wX10_rootDown_80 {x y : Nat} {p1 : Int64} {r : Int64} {σ' : gS} {v2 : Int64} {σ : gS} (h : fX10_rootDown_80 p1 v2 σ = some (r, σ')) : sm σ σ' x y := by
  unfold fX10_rootDown_80 at h
  have f := sm_r σ x y
  obtain ⟨-, rfl⟩ := so_inj h
  exact f
set_option maxRecDepth 10000 in
theorem wX10_rootDown_43 {x y : Nat} {p1 : Int64} {r : Int64} {σ' : gS} : ∀ (n : Nat) (v2 : Int64) (v4 : Int32) (σ : gS), fX10_rootDown_43 p1 n v2 v4 σ = some (r, σ') → sm σ σ' x y := by
  intro n
  induction n with
  | zero => intro v2 v4 σ h; exact absurd (show none = some (r, σ') from h) (by intro q; cases q)
  | succ n ih =>
  intro v2 v4 σ h
  unfold fX10_rootDown_43 at h
  have f := sm_r σ x y
  rcases ite_or h with ⟨_, h⟩ | ⟨_, h⟩
  · exact sm_t f (wX10_rootDown_80 h)
  · obtain ⟨g2, h⟩ := gg_some h
    obtain ⟨x3, ex3, h⟩ := bnd_nm h
    rcases ite_or h with ⟨_, h⟩ | ⟨_, h⟩
    · obtain ⟨x5, ex5, h⟩ := bnd_nm h
      exact sm_t f (ih x3 x5 σ h)
    · exact sm_t f (wX10_rootDown_80 h)
set_option maxRecDepth 10000 in
theorem wX10_rootDown_40 {x y : Nat} {p1 : Int64} {r : Int64} {σ' : gS} {v2 : Int64} {σ : gS} (h : fX10_rootDown_40 p1 v2 σ = some (r, σ')) : sm σ σ' x y := by
  unfold fX10_rootDown_40 at h
  have f := sm_r σ x y
  exact sm_t f (wX10_rootDown_43 2000 v2 0 σ h)
set_option maxRecDepth 10000 in
theorem wX10_rootDown_13 {x y : Nat} {p1 : Int64} {r : Int64} {σ' : gS} : ∀ (n : Nat) (v2 : Int64) (v4 : Int32) (σ : gS), fX10_rootDown_13 p1 n v2 v4 σ = some (r, σ') → sm σ σ' x y := by
  intro n
  induction n with
  | zero => intro v2 v4 σ h; exact absurd (show none = some (r, σ') from h) (by intro q; cases q)
  | succ n ih =>
  intro v2 v4 σ h
  unfold fX10_rootDown_13 at h
  have f := sm_r σ x y
  rcases ite_or h with ⟨_, h⟩ | ⟨_, h⟩
  · exact sm_t f (wX10_rootDown_40 h)
  · rcases ite_or h with ⟨_, h⟩ | ⟨_, h⟩
    · exact sm_t f (wX10_rootDown_40 h)
    · obtain ⟨x3, ex3, h⟩ := bnd_nm h
      obtain ⟨x4, ex4, h⟩ := bnd_nm h
      exact sm_t f (ih x3 x4 σ h)
set_option maxRecDepth 10000 in
theorem wX10_rootDown {x y : Nat} {p1 : Int64} {r : Int64} {σ' : gS} {σ : gS} (h : fX10_rootDown p1 σ = some (r, σ')) : sm σ σ' x y := by
  unfold fX10_rootDown at h
  have f := sm_r σ x y
  rcases ite_or h with ⟨_, h⟩ | ⟨_, h⟩
  · exact sm_t f (wX10_rootDown_13 2000 1 0 σ h)
  · obtain ⟨-, rfl⟩ := so_inj h
    exact f
set_option maxRecDepth 10000 in
theorem wX9_hang_34 {x y : Nat} {p1 : Int32} {p2 : Nat} {r : Unit} {σ' : gS} {σ : gS} (nt_p2_1 : ¬ x = p2 + 1) (nt_p2_2 : ¬ x = p2 + 2) (nt_p2_3 : ¬ x = p2 + 3) (h : fX9_hang_34 p1 p2 σ = some (r, σ')) : sm σ σ' x y := by
  unfold fX9_hang_34 at h
  have f := sm_r σ x y
  obtain ⟨g1, h⟩ := gg_some h
  obtain ⟨σ2, eσ2, h⟩ := bnd_nm h
  have f := sm_I f (fun q => nt_p2_3 q.1) eσ2
  obtain ⟨-, rfl⟩ := so_inj h
  exact f
set_option maxRecDepth 10000 in
theorem wX9_hang_158 {x y : Nat} {p1 : Int32} {p2 : Nat} {r : Unit} {σ' : gS} {σ : gS} (nt_p2_1 : ¬ x = p2 + 1) (nt_p2_2 : ¬ x = p2 + 2) (nt_p2_3 : ¬ x = p2 + 3) (h : fX9_hang_158 p1 p2 σ = some (r, σ')) : sm σ σ' x y := by
  unfold fX9_hang_158 at h
  have f := sm_r σ x y
  obtain ⟨-, rfl⟩ := so_inj h
  exact f
set_option maxRecDepth 10000 in
theorem wX9_hang {x y : Nat} {p1 : Int32} {p2 : Nat} {r : Unit} {σ' : gS} {σ : gS} (nt_p2_1 : ¬ x = p2 + 1) (nt_p2_2 : ¬ x = p2 + 2) (nt_p2_3 : ¬ x = p2 + 3) (h : fX9_hang p1 p2 σ = some (r, σ')) : sm σ σ' x y := by
  unfold fX9_hang at h
  have f := sm_r σ x y
  obtain ⟨g1, h⟩ := gg_some h
  obtain ⟨g2, h⟩ := gg_some h
  obtain ⟨g3, h⟩ := gg_some h
  rcases ite_or h with ⟨_, h⟩ | ⟨_, h⟩
  · obtain ⟨g5, h⟩ := gg_some h
    rcases ite_or h with ⟨_, h⟩ | ⟨_, h⟩
    · obtain ⟨g7, h⟩ := gg_some h
      obtain ⟨σ8, eσ8, h⟩ := bnd_nm h
      have f := sm_I f (fun q => nt_p2_3 q.1) eσ8
      obtain ⟨g9, h⟩ := gg_some h
      obtain ⟨g10, h⟩ := gg_some h
      obtain ⟨x11, ex11, h⟩ := bnd_nm h
      obtain ⟨g12, h⟩ := gg_some h
      obtain ⟨g13, h⟩ := gg_some h
      obtain ⟨x14, ex14, h⟩ := bnd_nm h
      obtain ⟨x15, ex15, h⟩ := bnd_nm h
      rcases ite_or h with ⟨_, h⟩ | ⟨_, h⟩
      · obtain ⟨g17, h⟩ := gg_some h
        obtain ⟨g18, h⟩ := gg_some h
        obtain ⟨x19, σ20, y21, h⟩ := bd_some h
        have f := sm_t f (wJ9_floorDiv_f86c9 y21)
        obtain ⟨x22, ex22, h⟩ := bnd_nm h
        rcases ite_or h with ⟨_, h⟩ | ⟨_, h⟩
        · exact sm_t f (wX9_hang_158 nt_p2_1 nt_p2_2 nt_p2_3 h)
        · rcases ite_or h with ⟨_, h⟩ | ⟨_, h⟩
          · obtain ⟨x25, σ26, y27, h⟩ := bd_some h
            have f := sm_t f (wX9_squareScaled y27)
            obtain ⟨x28, ex28, h⟩ := bnd_nm h
            rcases ite_or h with ⟨_, h⟩ | ⟨_, h⟩
            · obtain ⟨g30, h⟩ := gg_some h
              obtain ⟨x31, σ32, y33, h⟩ := bd_some h
              have f := sm_t f (wX10_rootDown y33)
              obtain ⟨x34, ex34, h⟩ := bnd_nm h
              obtain ⟨g35, h⟩ := gg_some h
              obtain ⟨x36, σ37, y38, h⟩ := bd_some h
              have f := sm_t f (wJ9_floorDiv_f86c9 y38)
              obtain ⟨g39, h⟩ := gg_some h
              obtain ⟨x40, σ41, y42, h⟩ := bd_some h
              have f := sm_t f (wJ9_floorDiv_f86c9 y42)
              obtain ⟨_, σ43, y44, h⟩ := bd_some h
              have f := sm_t f (wX5_set nt_p2_1 nt_p2_2 nt_p2_3 y44)
              obtain ⟨-, rfl⟩ := so_inj h
              exact f
            · obtain ⟨-, rfl⟩ := so_inj h
              exact f
          · exact sm_t f (wX9_hang_158 nt_p2_1 nt_p2_2 nt_p2_3 h)
      · obtain ⟨-, rfl⟩ := so_inj h
        exact f
    · exact sm_t f (wX9_hang_34 nt_p2_1 nt_p2_2 nt_p2_3 h)
  · exact sm_t f (wX9_hang_34 nt_p2_1 nt_p2_2 nt_p2_3 h)
set_option maxRecDepth 10000 in
theorem wX9_arrange_60 {x y : Nat} {p1 : Nat} {p2 : Int32} {p3 : Int32} {p4 : Nat} {k3 : Int32 → gS → Option (Unit × gS)} {r : Unit} {σ' : gS} {v5 : Int32} {σ : gS} (hk3 : ∀ (v5 : Int32) (σ : gS), k3 v5 σ = some (r, σ') → sm σ σ' x y) (nt_p4_1 : ¬ x = p4 + 1) (nt_p4_2 : ¬ x = p4 + 2) (nt_p4_3 : ¬ x = p4 + 3) (h : fX9_arrange_60 p1 p2 p3 p4 k3 v5 σ = some (r, σ')) : sm σ σ' x y := by
  unfold fX9_arrange_60 at h
  have f := sm_r σ x y
  obtain ⟨x1, ex1, h⟩ := bnd_nm h
  exact sm_t f (hk3 x1 σ h)
set_option maxRecDepth 10000 in
theorem wX9_arrange_77 {x y : Nat} {p1 : Nat} {p2 : Int32} {p3 : Int32} {p4 : Nat} {r : Unit} {σ' : gS} (nt_p4_1 : ¬ x = p4 + 1) (nt_p4_2 : ¬ x = p4 + 2) (nt_p4_3 : ¬ x = p4 + 3) : ∀ (n : Nat) (v5 : Int32) (σ : gS), fX9_arrange_77 p1 p2 p3 p4 n v5 σ = some (r, σ') → sm σ σ' x y := by
  intro n
  induction n with
  | zero => intro v5 σ h; exact absurd (show none = some (r, σ') from h) (by intro q; cases q)
  | succ n ih =>
  intro v5 σ h
  unfold fX9_arrange_77 at h
  have f := sm_r σ x y
  rcases ite_or h with ⟨_, h⟩ | ⟨_, h⟩
  · obtain ⟨-, rfl⟩ := so_inj h
    exact f
  · obtain ⟨g2, h⟩ := gg_some h
    obtain ⟨_, σ3, y4, h⟩ := bd_some h
    have f := sm_t f (wX9_hang nt_p4_1 nt_p4_2 nt_p4_3 y4)
    obtain ⟨x5, ex5, h⟩ := bnd_nm h
    exact sm_t f (ih x5 σ3 h)
set_option maxRecDepth 10000 in
theorem wX9_arrange_3 {x y : Nat} {p1 : Nat} {p2 : Int32} {p3 : Int32} {p4 : Nat} {r : Unit} {σ' : gS} (nt_p4_1 : ¬ x = p4 + 1) (nt_p4_2 : ¬ x = p4 + 2) (nt_p4_3 : ¬ x = p4 + 3) : ∀ (n : Nat) (v5 : Int32) (σ : gS), fX9_arrange_3 p1 p2 p3 p4 n v5 σ = some (r, σ') → sm σ σ' x y := by
  intro n
  induction n with
  | zero => intro v5 σ h; exact absurd (show none = some (r, σ') from h) (by intro q; cases q)
  | succ n ih =>
  intro v5 σ h
  unfold fX9_arrange_3 at h
  have f := sm_r σ x y
  obtain ⟨x1, σ2, y3, h⟩ := bd_some h
  have f := sm_t f (wX3_size y3)
  rcases ite_or h with ⟨_, h⟩ | ⟨_, h⟩
  · obtain ⟨_, σ5, y6, h⟩ := bd_some h
    have f := sm_t f (wX9_placeDriven nt_p4_1 nt_p4_2 nt_p4_3 y6)
    exact sm_t f (wX9_arrange_77 nt_p4_1 nt_p4_2 nt_p4_3 2000 0 σ5 h)
  · obtain ⟨g7, h⟩ := gg_some h
    obtain ⟨σ8, eσ8, h⟩ := bnd_nm h
    have f := sm_I f (fun q => nt_p4_3 q.1) eσ8
    obtain ⟨x9, σ10, y11, h⟩ := bd_some h
    have f := sm_t f (wX3_isGround y11)
    rcases ite_or h with ⟨_, h⟩ | ⟨_, h⟩
    · exact sm_t f (wX9_arrange_60 (fun v5 σ h => ih v5 σ h) nt_p4_1 nt_p4_2 nt_p4_3 h)
    · obtain ⟨x13, σ14, y15, h⟩ := bd_some h
      have f := sm_t f (wX3_x y15)
      obtain ⟨x16, σ17, y18, h⟩ := bd_some h
      have f := sm_t f (wX3_y y18)
      obtain ⟨_, σ19, y20, h⟩ := bd_some h
      have f := sm_t f (wX5_set nt_p4_1 nt_p4_2 nt_p4_3 y20)
      exact sm_t f (wX9_arrange_60 (fun v5 σ h => ih v5 σ h) nt_p4_1 nt_p4_2 nt_p4_3 h)
set_option maxRecDepth 10000 in
theorem wX9_arrange {x y : Nat} {p1 : Nat} {p2 : Int32} {p3 : Int32} {p4 : Nat} {r : Unit} {σ' : gS} {σ : gS} (nt_p4_1 : ¬ x = p4 + 1) (nt_p4_2 : ¬ x = p4 + 2) (nt_p4_3 : ¬ x = p4 + 3) (h : fX9_arrange p1 p2 p3 p4 σ = some (r, σ')) : sm σ σ' x y := by
  unfold fX9_arrange at h
  have f := sm_r σ x y
  exact sm_t f (wX9_arrange_3 nt_p4_1 nt_p4_2 nt_p4_3 2000 0 σ h)
set_option maxRecDepth 10000 in
theorem wX2_draw_117 {x y : Nat} {p1 : Nat} {p3 : Int32} {k20 : Int32 → Int32 → gS → Option (Unit × gS)} {r : Unit} {σ' : gS} {v4 : Int32} {v5 : Int32} {σ : gS} (hk20 : ∀ (v4 : Int32) (v5 : Int32) (σ : gS), k20 v4 v5 σ = some (r, σ') → sm σ σ' x y) (nh_136_0 : ¬ (x = 136 ∧ y = 0)) (nh_136_1 : ¬ (x = 136 ∧ y = 1)) (nh_137 : ¬ x = 137) (nh_138 : ¬ x = 138) (nh_139 : ¬ x = 139) (nh_141 : ¬ x = 141) (nh_142 : ¬ x = 142) (nh_143 : ¬ x = 143) (h : fX2_draw_117 p1 p3 k20 v4 v5 σ = some (r, σ')) : sm σ σ' x y := by
  unfold fX2_draw_117 at h
  have f := sm_r σ x y
  obtain ⟨x1, ex1, h⟩ := bnd_nm h
  exact sm_t f (hk20 v4 x1 σ h)
set_option maxRecDepth 10000 in
theorem wX2_draw_64 {x y : Nat} {p1 : Nat} {p3 : Int32} {k20 : Int32 → Int32 → gS → Option (Unit × gS)} {r : Unit} {σ' : gS} {v4 : Int32} {v5 : Int32} {s1 : Int32} {s2 : Int32} {σ : gS} (hk20 : ∀ (v4 : Int32) (v5 : Int32) (σ : gS), k20 v4 v5 σ = some (r, σ') → sm σ σ' x y) (nh_136_0 : ¬ (x = 136 ∧ y = 0)) (nh_136_1 : ¬ (x = 136 ∧ y = 1)) (nh_137 : ¬ x = 137) (nh_138 : ¬ x = 138) (nh_139 : ¬ x = 139) (nh_141 : ¬ x = 141) (nh_142 : ¬ x = 142) (nh_143 : ¬ x = 143) (h : fX2_draw_64 p1 p3 k20 v4 v5 s1 s2 σ = some (r, σ')) : sm σ σ' x y := by
  unfold fX2_draw_64 at h
  have f := sm_r σ x y
  obtain ⟨g1, h⟩ := gg_some h
  obtain ⟨σ2, eσ2, h⟩ := bnd_nm h
  have f := sm_I f (fun q => nh_139 q.1) eσ2
  obtain ⟨g3, h⟩ := gg_some h
  obtain ⟨g4, h⟩ := gg_some h
  obtain ⟨σ5, eσ5, h⟩ := bnd_nm h
  have f := sm_J f (fun q => nh_137 q.1) eσ5
  obtain ⟨g6, h⟩ := gg_some h
  obtain ⟨g7, h⟩ := gg_some h
  obtain ⟨σ8, eσ8, h⟩ := bnd_nm h
  have f := sm_J f (fun q => nh_138 q.1) eσ8
  obtain ⟨g9, h⟩ := gg_some h
  rcases ite_or h with ⟨_, h⟩ | ⟨_, h⟩
  · exact sm_t f (wX2_draw_117 hk20 nh_136_0 nh_136_1 nh_137 nh_138 nh_139 nh_141 nh_142 nh_143 h)
  · obtain ⟨σ11, eσ11, h⟩ := bnd_nm h
    have f := sm_I f nh_136_1 eσ11
    exact sm_t f (wX2_draw_117 hk20 nh_136_0 nh_136_1 nh_137 nh_138 nh_139 nh_141 nh_142 nh_143 h)
set_option maxRecDepth 10000 in
theorem wX2_draw_20 {x y : Nat} {p1 : Nat} {p3 : Int32} {r : Unit} {σ' : gS} (nh_136_0 : ¬ (x = 136 ∧ y = 0)) (nh_136_1 : ¬ (x = 136 ∧ y = 1)) (nh_137 : ¬ x = 137) (nh_138 : ¬ x = 138) (nh_139 : ¬ x = 139) (nh_141 : ¬ x = 141) (nh_142 : ¬ x = 142) (nh_143 : ¬ x = 143) : ∀ (n : Nat) (v4 : Int32) (v5 : Int32) (σ : gS), fX2_draw_20 p1 p3 n v4 v5 σ = some (r, σ') → sm σ σ' x y := by
  intro n
  induction n with
  | zero => intro v4 v5 σ h; exact absurd (show none = some (r, σ') from h) (by intro q; cases q)
  | succ n ih =>
  intro v4 v5 σ h
  unfold fX2_draw_20 at h
  have f := sm_r σ x y
  rcases ite_or h with ⟨_, h⟩ | ⟨_, h⟩
  · obtain ⟨-, rfl⟩ := so_inj h
    exact f
  · obtain ⟨_, σ2, y3, h⟩ := bd_some h
    have f := sm_t f (wX9_arrange nh_141 nh_142 nh_143 y3)
    obtain ⟨g4, h⟩ := gg_some h
    rcases ite_or h with ⟨_, h⟩ | ⟨_, h⟩
    · exact sm_t f (wX2_draw_64 (fun v4 v5 σ h => ih v4 v5 σ h) nh_136_0 nh_136_1 nh_137 nh_138 nh_139 nh_141 nh_142 nh_143 h)
    · exact sm_t f (wX2_draw_64 (fun v4 v5 σ h => ih v4 v5 σ h) nh_136_0 nh_136_1 nh_137 nh_138 nh_139 nh_141 nh_142 nh_143 h)
set_option maxRecDepth 10000 in
theorem wX2_draw {x y : Nat} {p1 : Nat} {p3 : Int32} {r : Unit} {σ' : gS} {σ : gS} (nh_136_0 : ¬ (x = 136 ∧ y = 0)) (nh_136_1 : ¬ (x = 136 ∧ y = 1)) (nh_137 : ¬ x = 137) (nh_138 : ¬ x = 138) (nh_139 : ¬ x = 139) (nh_141 : ¬ x = 141) (nh_142 : ¬ x = 142) (nh_143 : ¬ x = 143) (h : fX2_draw p1 p3 σ = some (r, σ')) : sm σ σ' x y := by
  unfold fX2_draw at h
  have f := sm_r σ x y
  obtain ⟨x1, σ2, y3, h⟩ := bd_some h
  have f := sm_t f (wX9_depthOf y3)
  obtain ⟨σ4, eσ4, h⟩ := bnd_nm h
  have f := sm_I f nh_136_0 eσ4
  obtain ⟨σ5, eσ5, h⟩ := bnd_nm h
  have f := sm_I f nh_136_1 eσ5
  exact sm_t f (wX2_draw_20 nh_136_0 nh_136_1 nh_137 nh_138 nh_139 nh_141 nh_142 nh_143 2000 x1 0 σ5 h)
set_option maxRecDepth 10000 in
theorem wX2_valuesOf_15 {x y : Nat} {p1 : Int32} {r : Nat} {σ' : gS} {s0 : Nat} {σ : gS} (h : fX2_valuesOf_15 p1 s0 σ = some (r, σ')) : sm σ σ' x y := by
  unfold fX2_valuesOf_15 at h
  have f := sm_r σ x y
  obtain ⟨-, rfl⟩ := so_inj h
  exact f
set_option maxRecDepth 10000 in
theorem wX2_valuesOf {x y : Nat} {p1 : Int32} {r : Nat} {σ' : gS} {σ : gS} (h : fX2_valuesOf p1 σ = some (r, σ')) : sm σ σ' x y := by
  unfold fX2_valuesOf at h
  have f := sm_r σ x y
  rcases ite_or h with ⟨_, h⟩ | ⟨_, h⟩
  · exact sm_t f (wX2_valuesOf_15 h)
  · exact sm_t f (wX2_valuesOf_15 h)
set_option maxRecDepth 10000 in
theorem wX2_beginnings_36 {x y : Nat} {k13 : Int32 → Int32 → Int32 → gS → Option (Int32 × gS)} {r : Int32} {σ' : gS} {v1 : Int32} {v3 : Int32} {σ : gS} (hk13 : ∀ (v1 : Int32) (v2 : Int32) (v3 : Int32) (σ : gS), k13 v1 v2 v3 σ = some (r, σ') → sm σ σ' x y) (h : fX2_beginnings_36 k13 v1 v3 σ = some (r, σ')) : sm σ σ' x y := by
  unfold fX2_beginnings_36 at h
  have f := sm_r σ x y
  obtain ⟨g1, h⟩ := gg_some h
  obtain ⟨x2, ex2, h⟩ := bnd_nm h
  exact sm_t f (hk13 v1 (σ.1 139 v3.toNatClampNeg) x2 σ h)
set_option maxRecDepth 10000 in
theorem wX2_beginnings_13 {x y : Nat} {r : Int32} {σ' : gS} : ∀ (n : Nat) (v1 : Int32) (v2 : Int32) (v3 : Int32) (σ : gS), fX2_beginnings_13 n v1 v2 v3 σ = some (r, σ') → sm σ σ' x y := by
  intro n
  induction n with
  | zero => intro v1 v2 v3 σ h; exact absurd (show none = some (r, σ') from h) (by intro q; cases q)
  | succ n ih =>
  intro v1 v2 v3 σ h
  unfold fX2_beginnings_13 at h
  have f := sm_r σ x y
  rcases ite_or h with ⟨_, h⟩ | ⟨_, h⟩
  · obtain ⟨-, rfl⟩ := so_inj h
    exact f
  · obtain ⟨g2, h⟩ := gg_some h
    rcases ite_or h with ⟨_, h⟩ | ⟨_, h⟩
    · exact sm_t f (wX2_beginnings_36 (fun v1 v2 v3 σ h => ih v1 v2 v3 σ h) h)
    · rcases ite_or h with ⟨_, h⟩ | ⟨_, h⟩
      · obtain ⟨x5, ex5, h⟩ := bnd_nm h
        exact sm_t f (wX2_beginnings_36 (fun v1 v2 v3 σ h => ih v1 v2 v3 σ h) h)
      · exact sm_t f (wX2_beginnings_36 (fun v1 v2 v3 σ h => ih v1 v2 v3 σ h) h)
set_option maxRecDepth 10000 in
theorem wX2_beginnings {x y : Nat} {r : Int32} {σ' : gS} {σ : gS} (h : fX2_beginnings σ = some (r, σ')) : sm σ σ' x y := by
  unfold fX2_beginnings at h
  have f := sm_r σ x y
  exact sm_t f (wX2_beginnings_13 2000 0 (σ.1 139 ((255 : Int32).toNatClampNeg)) 0 σ h)
set_option maxRecDepth 10000 in
theorem wX2_firstFarthest_60 {x y : Nat} {p1 : Int32} {p2 : Int32} {k13 : Nat → Int32 → Int32 → gS → Option (Int32 × gS)} {r : Int32} {σ' : gS} {v3 : Nat} {v4 : Int32} {v5 : Int32} {σ : gS} (hk13 : ∀ (v3 : Nat) (v4 : Int32) (v5 : Int32) (σ : gS), k13 v3 v4 v5 σ = some (r, σ') → sm σ σ' x y) (h : fX2_firstFarthest_60 p1 p2 k13 v3 v4 v5 σ = some (r, σ')) : sm σ σ' x y := by
  unfold fX2_firstFarthest_60 at h
  have f := sm_r σ x y
  obtain ⟨x1, ex1, h⟩ := bnd_nm h
  exact sm_t f (hk13 v3 v4 x1 σ h)
set_option maxRecDepth 10000 in
theorem wX2_firstFarthest_56 {x y : Nat} {p1 : Int32} {p2 : Int32} {k13 : Nat → Int32 → Int32 → gS → Option (Int32 × gS)} {r : Int32} {σ' : gS} {v3 : Nat} {v5 : Int32} {σ : gS} (hk13 : ∀ (v3 : Nat) (v4 : Int32) (v5 : Int32) (σ : gS), k13 v3 v4 v5 σ = some (r, σ') → sm σ σ' x y) (h : fX2_firstFarthest_56 p1 p2 k13 v3 v5 σ = some (r, σ')) : sm σ σ' x y := by
  unfold fX2_firstFarthest_56 at h
  have f := sm_r σ x y
  exact sm_t f (wX2_firstFarthest_60 hk13 h)
set_option maxRecDepth 10000 in
theorem wX2_firstFarthest_13 {x y : Nat} {p1 : Int32} {p2 : Int32} {r : Int32} {σ' : gS} : ∀ (n : Nat) (v3 : Nat) (v4 : Int32) (v5 : Int32) (σ : gS), fX2_firstFarthest_13 p1 p2 n v3 v4 v5 σ = some (r, σ') → sm σ σ' x y := by
  intro n
  induction n with
  | zero => intro v3 v4 v5 σ h; exact absurd (show none = some (r, σ') from h) (by intro q; cases q)
  | succ n ih =>
  intro v3 v4 v5 σ h
  unfold fX2_firstFarthest_13 at h
  have f := sm_r σ x y
  rcases ite_or h with ⟨_, h⟩ | ⟨_, h⟩
  · obtain ⟨-, rfl⟩ := so_inj h
    exact f
  · obtain ⟨g2, h⟩ := gg_some h
    rcases ite_or h with ⟨_, h⟩ | ⟨_, h⟩
    · exact sm_t f (wX2_firstFarthest_60 (fun v3 v4 v5 σ h => ih v3 v4 v5 σ h) h)
    · rcases ite_or h with ⟨_, h⟩ | ⟨_, h⟩
      · exact sm_t f (wX2_firstFarthest_56 (fun v3 v4 v5 σ h => ih v3 v4 v5 σ h) h)
      · obtain ⟨g5, h⟩ := gg_some h
        obtain ⟨g6, h⟩ := gg_some h
        obtain ⟨g7, h⟩ := gg_some h
        obtain ⟨g8, h⟩ := gg_some h
        rcases ite_or h with ⟨_, h⟩ | ⟨_, h⟩
        · exact sm_t f (wX2_firstFarthest_60 (fun v3 v4 v5 σ h => ih v3 v4 v5 σ h) h)
        · exact sm_t f (wX2_firstFarthest_56 (fun v3 v4 v5 σ h => ih v3 v4 v5 σ h) h)
set_option maxRecDepth 10000 in
theorem wX2_firstFarthest {x y : Nat} {p1 : Int32} {p2 : Int32} {r : Int32} {σ' : gS} {σ : gS} (h : fX2_firstFarthest p1 p2 σ = some (r, σ')) : sm σ σ' x y := by
  unfold fX2_firstFarthest at h
  have f := sm_r σ x y
  obtain ⟨x1, σ2, y3, h⟩ := bd_some h
  have f := sm_t f (wX2_valuesOf y3)
  exact sm_t f (wX2_firstFarthest_13 2000 x1 (-1000000) 0 σ2 h)
set_option maxRecDepth 10000 in
theorem wX3_clear {x y : Nat} {t : Nat} {r : Unit} {σ' : gS} {σ : gS} (nt_t_0_7 : ¬ (x = t + 0 ∧ y = 7)) (nt_t_0_8 : ¬ (x = t + 0 ∧ y = 8)) (nt_t_0_9 : ¬ (x = t + 0 ∧ y = 9)) (nt_t_11 : ¬ x = t + 11) (h : fX3_clear t σ = some (r, σ')) : sm σ σ' x y := by
  unfold fX3_clear at h
  have f := sm_r σ x y
  obtain ⟨_, σ1, y2, h⟩ := bd_some h
  have f := sm_t f (wJ7_fill_53178 nt_t_11 y2)
  obtain ⟨σ3, eσ3, h⟩ := bnd_nm h
  have f := sm_I f nt_t_0_7 eσ3
  obtain ⟨σ4, eσ4, h⟩ := bnd_nm h
  have f := sm_I f nt_t_0_8 eσ4
  obtain ⟨σ5, eσ5, h⟩ := bnd_nm h
  have f := sm_I f nt_t_0_9 eσ5
  obtain ⟨-, rfl⟩ := so_inj h
  exact f
set_option maxRecDepth 10000 in
theorem wX3_isFull_19 {x y : Nat} {t : Nat} {p1 : Int32} {r : Int32} {σ' : gS} {s0 : Int32} {σ : gS} (h : fX3_isFull_19 t p1 s0 σ = some (r, σ')) : sm σ σ' x y := by
  unfold fX3_isFull_19 at h
  have f := sm_r σ x y
  obtain ⟨g1, h⟩ := gg_some h
  obtain ⟨-, rfl⟩ := so_inj h
  exact f
set_option maxRecDepth 10000 in
theorem wX3_isFull {x y : Nat} {t : Nat} {p1 : Int32} {r : Int32} {σ' : gS} {σ : gS} (h : fX3_isFull t p1 σ = some (r, σ')) : sm σ σ' x y := by
  unfold fX3_isFull at h
  have f := sm_r σ x y
  obtain ⟨g1, h⟩ := gg_some h
  obtain ⟨g2, h⟩ := gg_some h
  rcases ite_or h with ⟨_, h⟩ | ⟨_, h⟩
  · exact sm_t f (wX3_isFull_19 h)
  · exact sm_t f (wX3_isFull_19 h)
set_option maxRecDepth 10000 in
theorem wX3_add {x y : Nat} {t : Nat} {p1 : Int32} {p2 : Int32} {p3 : Int32} {p4 : Int32} {r : Unit} {σ' : gS} {σ : gS} (nt_t_0_7 : ¬ (x = t + 0 ∧ y = 7)) (nt_t_1 : ¬ x = t + 1) (nt_t_11 : ¬ x = t + 11) (nt_t_2 : ¬ x = t + 2) (nt_t_3 : ¬ x = t + 3) (nt_t_4 : ¬ x = t + 4) (nt_t_5 : ¬ x = t + 5) (nt_t_7_10_r : ¬ (t + 7 ≤ x ∧ x ≤ t + 10)) (h : fX3_add t p1 p2 p3 p4 σ = some (r, σ')) : sm σ σ' x y := by
  unfold fX3_add at h
  have f := sm_r σ x y
  obtain ⟨g1, h⟩ := gg_some h
  obtain ⟨x2, σ3, y4, h⟩ := bd_some h
  have f := sm_t f (wX3_isFull y4)
  rcases ite_or h with ⟨_, h⟩ | ⟨_, h⟩
  · obtain ⟨g6, h⟩ := gg_some h
    obtain ⟨σ7, eσ7, h⟩ := bnd_nm h
    have f := sm_I f (fun q => nt_t_1 q.1) eσ7
    obtain ⟨g8, h⟩ := gg_some h
    obtain ⟨g9, h⟩ := gg_some h
    obtain ⟨σ10, eσ10, h⟩ := bnd_nm h
    have f := sm_I f (fun q => nt_t_2 q.1) eσ10
    obtain ⟨g11, h⟩ := gg_some h
    obtain ⟨σ12, eσ12, h⟩ := bnd_nm h
    have f := sm_I f (fun q => nt_t_5 q.1) eσ12
    obtain ⟨g13, h⟩ := gg_some h
    obtain ⟨σ14, eσ14, h⟩ := bnd_nm h
    have f := sm_I f (fun q => nt_t_3 q.1) eσ14
    obtain ⟨g15, h⟩ := gg_some h
    obtain ⟨σ16, eσ16, h⟩ := bnd_nm h
    have f := sm_I f (fun q => nt_t_4 q.1) eσ16
    obtain ⟨g17, h⟩ := gg_some h
    obtain ⟨g18, h⟩ := gg_some h
    obtain ⟨g19, h⟩ := gg_some h
    obtain ⟨σ20, eσ20, h⟩ := bnd_nm h
    have f := sm_I f (fun q => (fun q => nt_t_7_10_r (rg_mem (vp_lt g17) q)) q.1) eσ20
    obtain ⟨g21, h⟩ := gg_some h
    obtain ⟨g22, h⟩ := gg_some h
    obtain ⟨σ23, eσ23, h⟩ := bnd_nm h
    have f := sm_I f (fun q => nt_t_11 q.1) eσ23
    obtain ⟨σ24, eσ24, h⟩ := bnd_nm h
    have f := sm_I f nt_t_0_7 eσ24
    obtain ⟨-, rfl⟩ := so_inj h
    exact f
  · obtain ⟨-, rfl⟩ := so_inj h
    exact f
set_option maxRecDepth 10000 in
theorem wX3_numberOf_2 {x y : Nat} {t : Nat} {p1 : Int32} {p2 : Int32} {r : Int32} {σ' : gS} : ∀ (n : Nat) (v3 : Int32) (σ : gS), fX3_numberOf_2 t p1 p2 n v3 σ = some (r, σ') → sm σ σ' x y := by
  intro n
  induction n with
  | zero => intro v3 σ h; exact absurd (show none = some (r, σ') from h) (by intro q; cases q)
  | succ n ih =>
  intro v3 σ h
  unfold fX3_numberOf_2 at h
  have f := sm_r σ x y
  obtain ⟨g1, h⟩ := gg_some h
  rcases ite_or h with ⟨_, h⟩ | ⟨_, h⟩
  · obtain ⟨-, rfl⟩ := so_inj h
    exact f
  · obtain ⟨g3, h⟩ := gg_some h
    obtain ⟨g4, h⟩ := gg_some h
    obtain ⟨g5, h⟩ := gg_some h
    rcases ite_or h with ⟨_, h⟩ | ⟨_, h⟩
    · obtain ⟨-, rfl⟩ := so_inj h
      exact f
    · obtain ⟨x7, ex7, h⟩ := bnd_nm h
      exact sm_t f (ih x7 σ h)
set_option maxRecDepth 10000 in
theorem wX3_numberOf {x y : Nat} {t : Nat} {p1 : Int32} {p2 : Int32} {r : Int32} {σ' : gS} {σ : gS} (h : fX3_numberOf t p1 p2 σ = some (r, σ')) : sm σ σ' x y := by
  unfold fX3_numberOf at h
  have f := sm_r σ x y
  exact sm_t f (wX3_numberOf_2 2000 0 σ h)
set_option maxRecDepth 10000 in
theorem wX3_grounds_25 {x y : Nat} {t : Nat} {k4 : Int32 → Int32 → gS → Option (Int32 × gS)} {r : Int32} {σ' : gS} {v1 : Int32} {v2 : Int32} {σ : gS} (hk4 : ∀ (v1 : Int32) (v2 : Int32) (σ : gS), k4 v1 v2 σ = some (r, σ') → sm σ σ' x y) (h : fX3_grounds_25 t k4 v1 v2 σ = some (r, σ')) : sm σ σ' x y := by
  unfold fX3_grounds_25 at h
  have f := sm_r σ x y
  obtain ⟨x1, ex1, h⟩ := bnd_nm h
  exact sm_t f (hk4 v1 x1 σ h)
set_option maxRecDepth 10000 in
theorem wX3_grounds_4 {x y : Nat} {t : Nat} {r : Int32} {σ' : gS} : ∀ (n : Nat) (v1 : Int32) (v2 : Int32) (σ : gS), fX3_grounds_4 t n v1 v2 σ = some (r, σ') → sm σ σ' x y := by
  intro n
  induction n with
  | zero => intro v1 v2 σ h; exact absurd (show none = some (r, σ') from h) (by intro q; cases q)
  | succ n ih =>
  intro v1 v2 σ h
  unfold fX3_grounds_4 at h
  have f := sm_r σ x y
  rcases ite_or h with ⟨_, h⟩ | ⟨_, h⟩
  · obtain ⟨-, rfl⟩ := so_inj h
    exact f
  · obtain ⟨x2, σ3, y4, h⟩ := bd_some h
    have f := sm_t f (wX3_isGround y4)
    rcases ite_or h with ⟨_, h⟩ | ⟨_, h⟩
    · exact sm_t f (wX3_grounds_25 (fun v1 v2 σ h => ih v1 v2 σ h) h)
    · obtain ⟨x6, ex6, h⟩ := bnd_nm h
      exact sm_t f (wX3_grounds_25 (fun v1 v2 σ h => ih v1 v2 σ h) h)
set_option maxRecDepth 10000 in
theorem wX3_grounds {x y : Nat} {t : Nat} {r : Int32} {σ' : gS} {σ : gS} (h : fX3_grounds t σ = some (r, σ')) : sm σ σ' x y := by
  unfold fX3_grounds at h
  have f := sm_r σ x y
  exact sm_t f (wX3_grounds_4 2000 0 0 σ h)
set_option maxRecDepth 10000 in
theorem wX3_acrossBar_35 {x y : Nat} {t : Nat} {p1 : Int32} {p2 : Int32} {r : Int32} {σ' : gS} {s0 : Int32} {σ : gS} (h : fX3_acrossBar_35 t p1 p2 s0 σ = some (r, σ')) : sm σ σ' x y := by
  unfold fX3_acrossBar_35 at h
  have f := sm_r σ x y
  obtain ⟨-, rfl⟩ := so_inj h
  exact f
set_option maxRecDepth 10000 in
theorem wX3_acrossBar {x y : Nat} {t : Nat} {p1 : Int32} {p2 : Int32} {r : Int32} {σ' : gS} {σ : gS} (h : fX3_acrossBar t p1 p2 σ = some (r, σ')) : sm σ σ' x y := by
  unfold fX3_acrossBar at h
  have f := sm_r σ x y
  obtain ⟨x1, σ2, y3, h⟩ := bd_some h
  have f := sm_t f (wX3_firstOf y3)
  obtain ⟨x4, σ5, y6, h⟩ := bd_some h
  have f := sm_t f (wX3_secondOf y6)
  rcases ite_or h with ⟨_, h⟩ | ⟨_, h⟩
  · obtain ⟨-, rfl⟩ := so_inj h
    exact f
  · rcases ite_or h with ⟨_, h⟩ | ⟨_, h⟩
    · exact sm_t f (wX3_acrossBar_35 h)
    · exact sm_t f (wX3_acrossBar_35 h)
set_option maxRecDepth 10000 in
theorem wX3_hasBar_2 {x y : Nat} {t : Nat} {p1 : Int32} {p2 : Int32} {r : Int32} {σ' : gS} : ∀ (n : Nat) (v3 : Int32) (σ : gS), fX3_hasBar_2 t p1 p2 n v3 σ = some (r, σ') → sm σ σ' x y := by
  intro n
  induction n with
  | zero => intro v3 σ h; exact absurd (show none = some (r, σ') from h) (by intro q; cases q)
  | succ n ih =>
  intro v3 σ h
  unfold fX3_hasBar_2 at h
  have f := sm_r σ x y
  rcases ite_or h with ⟨_, h⟩ | ⟨_, h⟩
  · obtain ⟨-, rfl⟩ := so_inj h
    exact f
  · obtain ⟨x2, σ3, y4, h⟩ := bd_some h
    have f := sm_t f (wX3_acrossBar y4)
    rcases ite_or h with ⟨_, h⟩ | ⟨_, h⟩
    · obtain ⟨-, rfl⟩ := so_inj h
      exact f
    · obtain ⟨x6, ex6, h⟩ := bnd_nm h
      exact sm_t f (ih x6 σ3 h)
set_option maxRecDepth 10000 in
theorem wX3_hasBar {x y : Nat} {t : Nat} {p1 : Int32} {p2 : Int32} {r : Int32} {σ' : gS} {σ : gS} (h : fX3_hasBar t p1 p2 σ = some (r, σ')) : sm σ σ' x y := by
  unfold fX3_hasBar at h
  have f := sm_r σ x y
  exact sm_t f (wX3_hasBar_2 2000 0 σ h)
set_option maxRecDepth 10000 in
theorem wX3_squareApart {x y : Nat} {t : Nat} {p1 : Int32} {p2 : Int32} {r : Int32} {σ' : gS} {σ : gS} (h : fX3_squareApart t p1 p2 σ = some (r, σ')) : sm σ σ' x y := by
  unfold fX3_squareApart at h
  have f := sm_r σ x y
  obtain ⟨x1, σ2, y3, h⟩ := bd_some h
  have f := sm_t f (wX3_x y3)
  obtain ⟨x4, σ5, y6, h⟩ := bd_some h
  have f := sm_t f (wX3_x y6)
  obtain ⟨x7, ex7, h⟩ := bnd_nm h
  obtain ⟨x8, σ9, y10, h⟩ := bd_some h
  have f := sm_t f (wX3_y y10)
  obtain ⟨x11, σ12, y13, h⟩ := bd_some h
  have f := sm_t f (wX3_y y13)
  obtain ⟨x14, ex14, h⟩ := bnd_nm h
  obtain ⟨-, rfl⟩ := so_inj h
  exact f
set_option maxRecDepth 10000 in
theorem wX3_sizeOf {x y : Nat} {t : Nat} {p1 : Int32} {r : Int32} {σ' : gS} {σ : gS} (h : fX3_sizeOf t p1 σ = some (r, σ')) : sm σ σ' x y := by
  unfold fX3_sizeOf at h
  have f := sm_r σ x y
  obtain ⟨g1, h⟩ := gg_some h
  rcases ite_or h with ⟨_, h⟩ | ⟨_, h⟩
  · obtain ⟨g3, h⟩ := gg_some h
    obtain ⟨g4, h⟩ := gg_some h
    obtain ⟨x5, σ6, y7, h⟩ := bd_some h
    have f := sm_t f (wX3_squareApart y7)
    obtain ⟨x8, σ9, y10, h⟩ := bd_some h
    have f := sm_t f (wX10_rootDown y10)
    obtain ⟨-, rfl⟩ := so_inj h
    exact f
  ·
    rcases ite_or h with ⟨_, h⟩ | ⟨_, h⟩
    · obtain ⟨g12, h⟩ := gg_some h
      obtain ⟨-, rfl⟩ := so_inj h
      exact f
    ·
      obtain ⟨-, rfl⟩ := so_inj h
      exact f
set_option maxRecDepth 10000 in
theorem wX3_isOfKind_42 {x y : Nat} {t : Nat} {p1 : Int32} {p2 : Int32} {r : Int32} {σ' : gS} {σ : gS} (h : fX3_isOfKind_42 t p1 p2 σ = some (r, σ')) : sm σ σ' x y := by
  unfold fX3_isOfKind_42 at h
  have f := sm_r σ x y
  obtain ⟨-, rfl⟩ := so_inj h
  exact f
set_option maxRecDepth 10000 in
theorem wX3_isOfKind_10 {x y : Nat} {t : Nat} {p1 : Int32} {p2 : Int32} {r : Int32} {σ' : gS} : ∀ (n : Nat) (v3 : Int32) (v4 : Int32) (σ : gS), fX3_isOfKind_10 t p1 p2 n v3 v4 σ = some (r, σ') → sm σ σ' x y := by
  intro n
  induction n with
  | zero => intro v3 v4 σ h; exact absurd (show none = some (r, σ') from h) (by intro q; cases q)
  | succ n ih =>
  intro v3 v4 σ h
  unfold fX3_isOfKind_10 at h
  have f := sm_r σ x y
  rcases ite_or h with ⟨_, h⟩ | ⟨_, h⟩
  · exact sm_t f (wX3_isOfKind_42 h)
  · rcases ite_or h with ⟨_, h⟩ | ⟨_, h⟩
    · exact sm_t f (wX3_isOfKind_42 h)
    · rcases ite_or h with ⟨_, h⟩ | ⟨_, h⟩
      · obtain ⟨-, rfl⟩ := so_inj h
        exact f
      · obtain ⟨g4, h⟩ := gg_some h
        obtain ⟨x5, ex5, h⟩ := bnd_nm h
        exact sm_t f (ih (gW0 v3.toNatClampNeg) x5 σ h)
set_option maxRecDepth 10000 in
theorem wX3_isOfKind {x y : Nat} {t : Nat} {p1 : Int32} {p2 : Int32} {r : Int32} {σ' : gS} {σ : gS} (h : fX3_isOfKind t p1 p2 σ = some (r, σ')) : sm σ σ' x y := by
  unfold fX3_isOfKind at h
  have f := sm_r σ x y
  obtain ⟨g1, h⟩ := gg_some h
  exact sm_t f (wX3_isOfKind_10 2000 (σ.1 (t + 1) p1.toNatClampNeg) 0 σ h)
set_option maxRecDepth 10000 in
theorem wX4_layColumns_52 {x y : Nat} {p1 : Nat} {k7 : Int32 → gS → Option (Unit × gS)} {r : Unit} {σ' : gS} {v2 : Int32} {σ : gS} (hk7 : ∀ (v2 : Int32) (σ : gS), k7 v2 σ = some (r, σ') → sm σ σ' x y) (nh_121 : ¬ x = 121) (nh_59_2 : ¬ (x = 59 ∧ y = 2)) (h : fX4_layColumns_52 p1 k7 v2 σ = some (r, σ')) : sm σ σ' x y := by
  unfold fX4_layColumns_52 at h
  have f := sm_r σ x y
  obtain ⟨x1, ex1, h⟩ := bnd_nm h
  exact sm_t f (hk7 x1 σ h)
set_option maxRecDepth 10000 in
theorem wX4_layColumns_7 {x y : Nat} {p1 : Nat} {r : Unit} {σ' : gS} (nh_121 : ¬ x = 121) (nh_59_2 : ¬ (x = 59 ∧ y = 2)) : ∀ (n : Nat) (v2 : Int32) (σ : gS), fX4_layColumns_7 p1 n v2 σ = some (r, σ') → sm σ σ' x y := by
  intro n
  induction n with
  | zero => intro v2 σ h; exact absurd (show none = some (r, σ') from h) (by intro q; cases q)
  | succ n ih =>
  intro v2 σ h
  unfold fX4_layColumns_7 at h
  have f := sm_r σ x y
  obtain ⟨x1, σ2, y3, h⟩ := bd_some h
  have f := sm_t f (wX3_size y3)
  rcases ite_or h with ⟨_, h⟩ | ⟨_, h⟩
  · obtain ⟨-, rfl⟩ := so_inj h
    exact f
  · obtain ⟨g5, h⟩ := gg_some h
    obtain ⟨σ6, eσ6, h⟩ := bnd_nm h
    have f := sm_I f (fun q => nh_121 q.1) eσ6
    obtain ⟨x7, σ8, y9, h⟩ := bd_some h
    have f := sm_t f (wX3_isGround y9)
    rcases ite_or h with ⟨_, h⟩ | ⟨_, h⟩
    · obtain ⟨g11, h⟩ := gg_some h
      obtain ⟨σ12, eσ12, h⟩ := bnd_nm h
      have f := sm_I f (fun q => nh_121 q.1) eσ12
      obtain ⟨σ13, eσ13, h⟩ := bnd_nm h
      have f := sm_I f nh_59_2 eσ13
      exact sm_t f (wX4_layColumns_52 (fun v2 σ h => ih v2 σ h) nh_121 nh_59_2 h)
    · exact sm_t f (wX4_layColumns_52 (fun v2 σ h => ih v2 σ h) nh_121 nh_59_2 h)
set_option maxRecDepth 10000 in
theorem wX4_layColumns {x y : Nat} {p1 : Nat} {r : Unit} {σ' : gS} {σ : gS} (nh_121 : ¬ x = 121) (nh_59_2 : ¬ (x = 59 ∧ y = 2)) (h : fX4_layColumns p1 σ = some (r, σ')) : sm σ σ' x y := by
  unfold fX4_layColumns at h
  have f := sm_r σ x y
  obtain ⟨σ1, eσ1, h⟩ := bnd_nm h
  have f := sm_I f nh_59_2 eσ1
  exact sm_t f (wX4_layColumns_7 nh_121 nh_59_2 2000 0 σ1 h)
set_option maxRecDepth 10000 in
theorem wJ9_floorMod_7cf53_18 {x y : Nat} {p1 : Int32} {p2 : Int32} {r : Int32} {σ' : gS} {v2 : Int32} {σ : gS} (h : fJ9_floorMod_7cf53_18 p1 p2 v2 σ = some (r, σ')) : sm σ σ' x y := by
  unfold fJ9_floorMod_7cf53_18 at h
  have f := sm_r σ x y
  obtain ⟨-, rfl⟩ := so_inj h
  exact f
set_option maxRecDepth 10000 in
theorem wJ9_floorMod_7cf53 {x y : Nat} {p1 : Int32} {p2 : Int32} {r : Int32} {σ' : gS} {σ : gS} (h : fJ9_floorMod_7cf53 p1 p2 σ = some (r, σ')) : sm σ σ' x y := by
  unfold fJ9_floorMod_7cf53 at h
  have f := sm_r σ x y
  obtain ⟨g1, h⟩ := gg_some h
  obtain ⟨x2, ex2, h⟩ := bnd_nm h
  rcases ite_or h with ⟨_, h⟩ | ⟨_, h⟩
  · exact sm_t f (wJ9_floorMod_7cf53_18 h)
  · rcases ite_or h with ⟨_, h⟩ | ⟨_, h⟩
    · exact sm_t f (wJ9_floorMod_7cf53_18 h)
    · obtain ⟨-, rfl⟩ := so_inj h
      exact f
set_option maxRecDepth 10000 in
theorem wX4_write_48 {x y : Nat} {p1 : Int32} {p2 : Int32} {p3 : Int32} {p4 : Int32} {r : Unit} {σ' : gS} {σ : gS} (nr_61_120 : ¬ (61 ≤ x ∧ x ≤ 120)) (h : fX4_write_48 p1 p2 p3 p4 σ = some (r, σ')) : sm σ σ' x y := by
  unfold fX4_write_48 at h
  have f := sm_r σ x y
  obtain ⟨-, rfl⟩ := so_inj h
  exact f
set_option maxRecDepth 10000 in
theorem wX4_write {x y : Nat} {p1 : Int32} {p2 : Int32} {p3 : Int32} {p4 : Int32} {r : Unit} {σ' : gS} {σ : gS} (nr_61_120 : ¬ (61 ≤ x ∧ x ≤ 120)) (h : fX4_write p1 p2 p3 p4 σ = some (r, σ')) : sm σ σ' x y := by
  unfold fX4_write at h
  have f := sm_r σ x y
  obtain ⟨g1, h⟩ := gg_some h
  rcases ite_or h with ⟨_, h⟩ | ⟨_, h⟩
  · exact sm_t f (wX4_write_48 nr_61_120 h)
  · obtain ⟨g3, h⟩ := gg_some h
    obtain ⟨x4, ex4, h⟩ := bnd_nm h
    obtain ⟨g5, h⟩ := gg_some h
    obtain ⟨x6, σ7, y8, h⟩ := bd_some h
    have f := sm_t f (wJ9_floorMod_7cf53 y8)
    obtain ⟨g9, h⟩ := gg_some h
    obtain ⟨σ10, eσ10, h⟩ := bnd_nm h
    have f := sm_I f (fun q => (fun q => nr_61_120 (rg_rw g5 q)) q.1) eσ10
    obtain ⟨g11, h⟩ := gg_some h
    obtain ⟨x12, ex12, h⟩ := bnd_nm h
    obtain ⟨g13, h⟩ := gg_some h
    obtain ⟨x14, σ15, y16, h⟩ := bd_some h
    have f := sm_t f (wJ9_floorMod_7cf53 y16)
    obtain ⟨g17, h⟩ := gg_some h
    obtain ⟨σ18, eσ18, h⟩ := bnd_nm h
    have f := sm_I f (fun q => (fun q => nr_61_120 (rg_rw g13 q)) q.1) eσ18
    exact sm_t f (wX4_write_48 nr_61_120 h)
set_option maxRecDepth 10000 in
theorem wX4_rowToLead_5 {x y : Nat} {p1 : Int32} {r : Int32} {σ' : gS} : ∀ (n : Nat) (v2 : Int32) (σ : gS), fX4_rowToLead_5 p1 n v2 σ = some (r, σ') → sm σ σ' x y := by
  intro n
  induction n with
  | zero => intro v2 σ h; exact absurd (show none = some (r, σ') from h) (by intro q; cases q)
  | succ n ih =>
  intro v2 σ h
  unfold fX4_rowToLead_5 at h
  have f := sm_r σ x y
  rcases ite_or h with ⟨_, h⟩ | ⟨_, h⟩
  · obtain ⟨-, rfl⟩ := so_inj h
    exact f
  · obtain ⟨g2, h⟩ := gg_some h
    obtain ⟨x3, ex3, h⟩ := bnd_nm h
    obtain ⟨g4, h⟩ := gg_some h
    obtain ⟨g5, h⟩ := gg_some h
    rcases ite_or h with ⟨_, h⟩ | ⟨_, h⟩
    · obtain ⟨x7, ex7, h⟩ := bnd_nm h
      exact sm_t f (ih x7 σ h)
    · obtain ⟨-, rfl⟩ := so_inj h
      exact f
set_option maxRecDepth 10000 in
theorem wX4_rowToLead {x y : Nat} {p1 : Int32} {r : Int32} {σ' : gS} {σ : gS} (h : fX4_rowToLead p1 σ = some (r, σ')) : sm σ σ' x y := by
  unfold fX4_rowToLead at h
  have f := sm_r σ x y
  exact sm_t f (wX4_rowToLead_5 2000 (σ.1 59 3) σ h)
set_option maxRecDepth 10000 in
theorem wX4_inverseOf_31 {x y : Nat} {p1 : Int64} {k9 : Int64 → Int64 → Int32 → gS → Option (Int64 × gS)} {r : Int64} {σ' : gS} {v2 : Int64} {v4 : Int64} {v6 : Int32} {σ : gS} (hk9 : ∀ (v2 : Int64) (v4 : Int64) (v6 : Int32) (σ : gS), k9 v2 v4 v6 σ = some (r, σ') → sm σ σ' x y) (h : fX4_inverseOf_31 p1 k9 v2 v4 v6 σ = some (r, σ')) : sm σ σ' x y := by
  unfold fX4_inverseOf_31 at h
  have f := sm_r σ x y
  obtain ⟨x1, ex1, h⟩ := bnd_nm h
  obtain ⟨x2, ex2, h⟩ := bnd_nm h
  exact sm_t f (hk9 x1 v4 x2 σ h)
set_option maxRecDepth 10000 in
theorem wX4_inverseOf_9 {x y : Nat} {p1 : Int64} {r : Int64} {σ' : gS} : ∀ (n : Nat) (v2 : Int64) (v4 : Int64) (v6 : Int32) (σ : gS), fX4_inverseOf_9 p1 n v2 v4 v6 σ = some (r, σ') → sm σ σ' x y := by
  intro n
  induction n with
  | zero => intro v2 v4 v6 σ h; exact absurd (show none = some (r, σ') from h) (by intro q; cases q)
  | succ n ih =>
  intro v2 v4 v6 σ h
  unfold fX4_inverseOf_9 at h
  have f := sm_r σ x y
  rcases ite_or h with ⟨_, h⟩ | ⟨_, h⟩
  · obtain ⟨-, rfl⟩ := so_inj h
    exact f
  · rcases ite_or h with ⟨_, h⟩ | ⟨_, h⟩
    · exact sm_t f (wX4_inverseOf_31 (fun v2 v4 v6 σ h => ih v2 v4 v6 σ h) h)
    · obtain ⟨x3, ex3, h⟩ := bnd_nm h
      exact sm_t f (wX4_inverseOf_31 (fun v2 v4 v6 σ h => ih v2 v4 v6 σ h) h)
set_option maxRecDepth 10000 in
theorem wX4_inverseOf {x y : Nat} {p1 : Int64} {r : Int64} {σ' : gS} {σ : gS} (h : fX4_inverseOf p1 σ = some (r, σ')) : sm σ σ' x y := by
  unfold fX4_inverseOf at h
  have f := sm_r σ x y
  exact sm_t f (wX4_inverseOf_9 2000 p1 1 1000001 σ h)
set_option maxRecDepth 10000 in
theorem wX4_makeLead_147 {x y : Nat} {p1 : Int32} {k55 : Nat → Int32 → gS → Option (Unit × gS)} {r : Unit} {σ' : gS} {v2 : Nat} {v5 : Int32} {σ : gS} (hk55 : ∀ (v2 : Nat) (v5 : Int32) (σ : gS), k55 v2 v5 σ = some (r, σ') → sm σ σ' x y) (nr_61_120 : ¬ (61 ≤ x ∧ x ≤ 120)) (h : fX4_makeLead_147 p1 k55 v2 v5 σ = some (r, σ')) : sm σ σ' x y := by
  unfold fX4_makeLead_147 at h
  have f := sm_r σ x y
  obtain ⟨x1, ex1, h⟩ := bnd_nm h
  exact sm_t f (hk55 v2 x1 σ h)
set_option maxRecDepth 10000 in
theorem wX4_makeLead_107 {x y : Nat} {p1 : Int32} {k55 : Nat → Int32 → gS → Option (Unit × gS)} {r : Unit} {σ' : gS} (hk55 : ∀ (v2 : Nat) (v5 : Int32) (σ : gS), k55 v2 v5 σ = some (r, σ') → sm σ σ' x y) (nr_61_120 : ¬ (61 ≤ x ∧ x ≤ 120)) : ∀ (n : Nat) (v2 : Nat) (v5 : Int32) (v6 : Nat) (v7 : Int64) (v9 : Int32) (σ : gS), fX4_makeLead_107 p1 k55 n v2 v5 v6 v7 v9 σ = some (r, σ') → sm σ σ' x y := by
  intro n
  induction n with
  | zero => intro v2 v5 v6 v7 v9 σ h; exact absurd (show none = some (r, σ') from h) (by intro q; cases q)
  | succ n ih =>
  intro v2 v5 v6 v7 v9 σ h
  unfold fX4_makeLead_107 at h
  have f := sm_r σ x y
  rcases ite_or h with ⟨_, h⟩ | ⟨_, h⟩
  · exact sm_t f (wX4_makeLead_147 hk55 nr_61_120 h)
  · obtain ⟨g2, h⟩ := gg_some h
    obtain ⟨g3, h⟩ := gg_some h
    obtain ⟨g4, h⟩ := gg_some h
    obtain ⟨g5, h⟩ := gg_some h
    obtain ⟨g6, h⟩ := gg_some h
    obtain ⟨g7, h⟩ := gg_some h
    obtain ⟨σ8, eσ8, h⟩ := bnd_nm h
    have f := sm_I f (fun q => (fun q => nr_61_120 (rg_rw g6 q)) q.1) eσ8
    obtain ⟨x9, ex9, h⟩ := bnd_nm h
    exact sm_t f (ih v2 v5 v6 v7 x9 σ8 h)
set_option maxRecDepth 10000 in
theorem wX4_makeLead_55 {x y : Nat} {p1 : Int32} {r : Unit} {σ' : gS} (nr_61_120 : ¬ (61 ≤ x ∧ x ≤ 120)) : ∀ (n : Nat) (v2 : Nat) (v5 : Int32) (σ : gS), fX4_makeLead_55 p1 n v2 v5 σ = some (r, σ') → sm σ σ' x y := by
  intro n
  induction n with
  | zero => intro v2 v5 σ h; exact absurd (show none = some (r, σ') from h) (by intro q; cases q)
  | succ n ih =>
  intro v2 v5 σ h
  unfold fX4_makeLead_55 at h
  have f := sm_r σ x y
  rcases ite_or h with ⟨_, h⟩ | ⟨_, h⟩
  · obtain ⟨-, rfl⟩ := so_inj h
    exact f
  · obtain ⟨g2, h⟩ := gg_some h
    obtain ⟨x3, ex3, h⟩ := bnd_nm h
    obtain ⟨g4, h⟩ := gg_some h
    obtain ⟨g5, h⟩ := gg_some h
    obtain ⟨x6, ex6, h⟩ := bnd_nm h
    rcases ite_or h with ⟨_, h⟩ | ⟨_, h⟩
    · exact sm_t f (wX4_makeLead_147 (fun v2 v5 σ h => ih v2 v5 σ h) nr_61_120 h)
    · rcases ite_or h with ⟨_, h⟩ | ⟨_, h⟩
      · exact sm_t f (wX4_makeLead_147 (fun v2 v5 σ h => ih v2 v5 σ h) nr_61_120 h)
      · exact sm_t f (wX4_makeLead_107 (fun v2 v5 σ h => ih v2 v5 σ h) nr_61_120 2000 v2 v5 x3 x6 p1 σ h)
set_option maxRecDepth 10000 in
theorem wX4_makeLead_21 {x y : Nat} {p1 : Int32} {r : Unit} {σ' : gS} (nr_61_120 : ¬ (61 ≤ x ∧ x ≤ 120)) : ∀ (n : Nat) (v2 : Nat) (v3 : Int64) (v5 : Int32) (σ : gS), fX4_makeLead_21 p1 n v2 v3 v5 σ = some (r, σ') → sm σ σ' x y := by
  intro n
  induction n with
  | zero => intro v2 v3 v5 σ h; exact absurd (show none = some (r, σ') from h) (by intro q; cases q)
  | succ n ih =>
  intro v2 v3 v5 σ h
  unfold fX4_makeLead_21 at h
  have f := sm_r σ x y
  rcases ite_or h with ⟨_, h⟩ | ⟨_, h⟩
  · exact sm_t f (wX4_makeLead_55 nr_61_120 2000 v2 0 σ h)
  · obtain ⟨g2, h⟩ := gg_some h
    obtain ⟨g3, h⟩ := gg_some h
    obtain ⟨g4, h⟩ := gg_some h
    obtain ⟨g5, h⟩ := gg_some h
    obtain ⟨σ6, eσ6, h⟩ := bnd_nm h
    have f := sm_I f (fun q => (fun q => nr_61_120 (rg_rw g4 q)) q.1) eσ6
    obtain ⟨x7, ex7, h⟩ := bnd_nm h
    exact sm_t f (ih v2 v3 x7 σ6 h)
set_option maxRecDepth 10000 in
theorem wX4_makeLead {x y : Nat} {p1 : Int32} {r : Unit} {σ' : gS} {σ : gS} (nr_61_120 : ¬ (61 ≤ x ∧ x ≤ 120)) (h : fX4_makeLead p1 σ = some (r, σ')) : sm σ σ' x y := by
  unfold fX4_makeLead at h
  have f := sm_r σ x y
  obtain ⟨g1, h⟩ := gg_some h
  obtain ⟨x2, ex2, h⟩ := bnd_nm h
  obtain ⟨g3, h⟩ := gg_some h
  obtain ⟨g4, h⟩ := gg_some h
  obtain ⟨x5, σ6, y7, h⟩ := bd_some h
  have f := sm_t f (wX4_inverseOf y7)
  exact sm_t f (wX4_makeLead_21 nr_61_120 2000 x2 x5 p1 σ6 h)
set_option maxRecDepth 10000 in
theorem wX4_motionAt_55 {x y : Nat} {p1 : Int32} {p2 : Int32} {p3 : Int32} {r : Int32} {σ' : gS} {s0 : Int32} {σ : gS} (h : fX4_motionAt_55 p1 p2 p3 s0 σ = some (r, σ')) : sm σ σ' x y := by
  unfold fX4_motionAt_55 at h
  have f := sm_r σ x y
  obtain ⟨-, rfl⟩ := so_inj h
  exact f
set_option maxRecDepth 10000 in
theorem wX4_motionAt {x y : Nat} {p1 : Int32} {p2 : Int32} {p3 : Int32} {r : Int32} {σ' : gS} {σ : gS} (h : fX4_motionAt p1 p2 p3 σ = some (r, σ')) : sm σ σ' x y := by
  unfold fX4_motionAt at h
  have f := sm_r σ x y
  obtain ⟨g1, h⟩ := gg_some h
  rcases ite_or h with ⟨_, h⟩ | ⟨_, h⟩
  · obtain ⟨-, rfl⟩ := so_inj h
    exact f
  · obtain ⟨x3, ex3, h⟩ := bnd_nm h
    obtain ⟨g4, h⟩ := gg_some h
    rcases ite_or h with ⟨_, h⟩ | ⟨_, h⟩
    · obtain ⟨g14, h⟩ := gg_some h
      rcases ite_or h with ⟨_, h⟩ | ⟨_, h⟩
      · exact sm_t f (wX4_motionAt_55 h)
      · exact sm_t f (wX4_motionAt_55 h)
    · obtain ⟨g6, h⟩ := gg_some h
      obtain ⟨x7, ex7, h⟩ := bnd_nm h
      obtain ⟨g8, h⟩ := gg_some h
      obtain ⟨g9, h⟩ := gg_some h
      obtain ⟨g10, h⟩ := gg_some h
      obtain ⟨x11, σ12, y13, h⟩ := bd_some h
      have f := sm_t f (wJ9_floorMod_7cf53 y13)
      obtain ⟨-, rfl⟩ := so_inj h
      exact f
set_option maxRecDepth 10000 in
theorem wX5_howMany_21 {x y : Nat} {t : Nat} {p1 : Int32} {k4 : Int32 → Int32 → gS → Option (Int32 × gS)} {r : Int32} {σ' : gS} {v2 : Int32} {v3 : Int32} {σ : gS} (hk4 : ∀ (v2 : Int32) (v3 : Int32) (σ : gS), k4 v2 v3 σ = some (r, σ') → sm σ σ' x y) (h : fX5_howMany_21 t p1 k4 v2 v3 σ = some (r, σ')) : sm σ σ' x y := by
  unfold fX5_howMany_21 at h
  have f := sm_r σ x y
  obtain ⟨x1, ex1, h⟩ := bnd_nm h
  exact sm_t f (hk4 v2 x1 σ h)
set_option maxRecDepth 10000 in
theorem wX5_howMany_4 {x y : Nat} {t : Nat} {p1 : Int32} {r : Int32} {σ' : gS} : ∀ (n : Nat) (v2 : Int32) (v3 : Int32) (σ : gS), fX5_howMany_4 t p1 n v2 v3 σ = some (r, σ') → sm σ σ' x y := by
  intro n
  induction n with
  | zero => intro v2 v3 σ h; exact absurd (show none = some (r, σ') from h) (by intro q; cases q)
  | succ n ih =>
  intro v2 v3 σ h
  unfold fX5_howMany_4 at h
  have f := sm_r σ x y
  rcases ite_or h with ⟨_, h⟩ | ⟨_, h⟩
  · obtain ⟨-, rfl⟩ := so_inj h
    exact f
  · obtain ⟨g2, h⟩ := gg_some h
    rcases ite_or h with ⟨_, h⟩ | ⟨_, h⟩
    · obtain ⟨x4, ex4, h⟩ := bnd_nm h
      exact sm_t f (wX5_howMany_21 (fun v2 v3 σ h => ih v2 v3 σ h) h)
    · exact sm_t f (wX5_howMany_21 (fun v2 v3 σ h => ih v2 v3 σ h) h)
set_option maxRecDepth 10000 in
theorem wX5_howMany {x y : Nat} {t : Nat} {p1 : Int32} {r : Int32} {σ' : gS} {σ : gS} (h : fX5_howMany t p1 σ = some (r, σ')) : sm σ σ' x y := by
  unfold fX5_howMany at h
  have f := sm_r σ x y
  exact sm_t f (wX5_howMany_4 2000 0 0 σ h)
set_option maxRecDepth 10000 in
theorem wX6_append_18 {x y : Nat} {p1 : Int32} {p2 : Int64} {r : Int32} {σ' : gS} (nh_1_1 : ¬ (x = 1 ∧ y = 1)) (nh_2 : ¬ x = 2) : ∀ (n : Nat) (v4 : Int32) (σ : gS), fX6_append_18 p1 p2 n v4 σ = some (r, σ') → sm σ σ' x y := by
  intro n
  induction n with
  | zero => intro v4 σ h; exact absurd (show none = some (r, σ') from h) (by intro q; cases q)
  | succ n ih =>
  intro v4 σ h
  unfold fX6_append_18 at h
  have f := sm_r σ x y
  rcases ite_or h with ⟨_, h⟩ | ⟨_, h⟩
  · obtain ⟨-, rfl⟩ := so_inj h
    exact f
  · obtain ⟨g2, h⟩ := gg_some h
    obtain ⟨σ3, eσ3, h⟩ := bnd_nm h
    have f := sm_I f (fun q => nh_2 q.1) eσ3
    obtain ⟨σ4, eσ4, h⟩ := bnd_nm h
    have f := sm_I f nh_1_1 eσ4
    obtain ⟨x5, ex5, h⟩ := bnd_nm h
    exact sm_t f (ih x5 σ4 h)
set_option maxRecDepth 10000 in
theorem wX6_append {x y : Nat} {p1 : Int32} {p2 : Int64} {r : Int32} {σ' : gS} {σ : gS} (nh_1_1 : ¬ (x = 1 ∧ y = 1)) (nh_2 : ¬ x = 2) (h : fX6_append p1 p2 σ = some (r, σ')) : sm σ σ' x y := by
  unfold fX6_append at h
  have f := sm_r σ x y
  rcases ite_or h with ⟨_, h⟩ | ⟨_, h⟩
  · exact sm_t f (wX6_append_18 nh_1_1 nh_2 2000 0 σ h)
  · obtain ⟨-, rfl⟩ := so_inj h
    exact f
set_option maxRecDepth 10000 in
theorem wX6_isLetterAt_27 {x y : Nat} {p1 : Int32} {r : Int32} {σ' : gS} {s0 : Int32} {σ : gS} (h : fX6_isLetterAt_27 p1 s0 σ = some (r, σ')) : sm σ σ' x y := by
  unfold fX6_isLetterAt_27 at h
  have f := sm_r σ x y
  obtain ⟨g1, h⟩ := gg_some h
  obtain ⟨-, rfl⟩ := so_inj h
  exact f
set_option maxRecDepth 10000 in
theorem wX6_isLetterAt_26 {x y : Nat} {p1 : Int32} {r : Int32} {σ' : gS} {σ : gS} (h : fX6_isLetterAt_26 p1 σ = some (r, σ')) : sm σ σ' x y := by
  unfold fX6_isLetterAt_26 at h
  have f := sm_r σ x y
  exact sm_t f (wX6_isLetterAt_27 h)
set_option maxRecDepth 10000 in
theorem wX6_isLetterAt {x y : Nat} {p1 : Int32} {r : Int32} {σ' : gS} {σ : gS} (h : fX6_isLetterAt p1 σ = some (r, σ')) : sm σ σ' x y := by
  unfold fX6_isLetterAt at h
  have f := sm_r σ x y
  obtain ⟨g1, h⟩ := gg_some h
  rcases ite_or h with ⟨_, h⟩ | ⟨_, h⟩
  · exact sm_t f (wX6_isLetterAt_26 h)
  · obtain ⟨g3, h⟩ := gg_some h
    rcases ite_or h with ⟨_, h⟩ | ⟨_, h⟩
    · exact sm_t f (wX6_isLetterAt_26 h)
    · exact sm_t f (wX6_isLetterAt_27 h)
set_option maxRecDepth 10000 in
theorem wX6_withLetter {x y : Nat} {p1 : Int32} {p2 : Int32} {r : Int32} {σ' : gS} {σ : gS} (h : fX6_withLetter p1 p2 σ = some (r, σ')) : sm σ σ' x y := by
  unfold fX6_withLetter at h
  have f := sm_r σ x y
  obtain ⟨-, rfl⟩ := so_inj h
  exact f
set_option maxRecDepth 10000 in
theorem wX6_letters_122 {x y : Nat} {k85 : Int32 → gS → Option (Unit × gS)} {r : Unit} {σ' : gS} {v1 : Int32} {σ : gS} (hk85 : ∀ (v1 : Int32) (σ : gS), k85 v1 σ = some (r, σ') → sm σ σ' x y) (nh_1_4 : ¬ (x = 1 ∧ y = 4)) (nh_1_5 : ¬ (x = 1 ∧ y = 5)) (nh_1_7 : ¬ (x = 1 ∧ y = 7)) (h : fX6_letters_122 k85 v1 σ = some (r, σ')) : sm σ σ' x y := by
  unfold fX6_letters_122 at h
  have f := sm_r σ x y
  obtain ⟨x1, ex1, h⟩ := bnd_nm h
  exact sm_t f (hk85 x1 σ h)
set_option maxRecDepth 10000 in
theorem wX6_letters_128 {x y : Nat} {r : Unit} {σ' : gS} {σ : gS} (nh_1_4 : ¬ (x = 1 ∧ y = 4)) (nh_1_5 : ¬ (x = 1 ∧ y = 5)) (nh_1_7 : ¬ (x = 1 ∧ y = 7)) (h : fX6_letters_128 σ = some (r, σ')) : sm σ σ' x y := by
  unfold fX6_letters_128 at h
  have f := sm_r σ x y
  obtain ⟨-, rfl⟩ := so_inj h
  exact f
set_option maxRecDepth 10000 in
theorem wX6_letters_85 {x y : Nat} {r : Unit} {σ' : gS} (nh_1_4 : ¬ (x = 1 ∧ y = 4)) (nh_1_5 : ¬ (x = 1 ∧ y = 5)) (nh_1_7 : ¬ (x = 1 ∧ y = 7)) : ∀ (n : Nat) (v1 : Int32) (σ : gS), fX6_letters_85 n v1 σ = some (r, σ') → sm σ σ' x y := by
  intro n
  induction n with
  | zero => intro v1 σ h; exact absurd (show none = some (r, σ') from h) (by intro q; cases q)
  | succ n ih =>
  intro v1 σ h
  unfold fX6_letters_85 at h
  have f := sm_r σ x y
  rcases ite_or h with ⟨_, h⟩ | ⟨_, h⟩
  · exact sm_t f (wX6_letters_128 nh_1_4 nh_1_5 nh_1_7 h)
  · rcases ite_or h with ⟨_, h⟩ | ⟨_, h⟩
    · obtain ⟨g3, h⟩ := gg_some h
      rcases ite_or h with ⟨_, h⟩ | ⟨_, h⟩
      · obtain ⟨σ5, eσ5, h⟩ := bnd_nm h
        have f := sm_I f nh_1_5 eσ5
        obtain ⟨σ6, eσ6, h⟩ := bnd_nm h
        have f := sm_I f nh_1_7 eσ6
        exact sm_t f (wX6_letters_122 (fun v1 σ h => ih v1 σ h) nh_1_4 nh_1_5 nh_1_7 h)
      · exact sm_t f (wX6_letters_122 (fun v1 σ h => ih v1 σ h) nh_1_4 nh_1_5 nh_1_7 h)
    · exact sm_t f (wX6_letters_128 nh_1_4 nh_1_5 nh_1_7 h)
set_option maxRecDepth 10000 in
theorem wX6_letters_80 {x y : Nat} {r : Unit} {σ' : gS} {s1 : Int32} {σ : gS} (nh_1_4 : ¬ (x = 1 ∧ y = 4)) (nh_1_5 : ¬ (x = 1 ∧ y = 5)) (nh_1_7 : ¬ (x = 1 ∧ y = 7)) (h : fX6_letters_80 s1 σ = some (r, σ')) : sm σ σ' x y := by
  unfold fX6_letters_80 at h
  have f := sm_r σ x y
  obtain ⟨σ1, eσ1, h⟩ := bnd_nm h
  have f := sm_I f nh_1_5 eσ1
  exact sm_t f (wX6_letters_85 nh_1_4 nh_1_5 nh_1_7 2000 0 σ1 h)
set_option maxRecDepth 10000 in
theorem wX6_letters_60 {x y : Nat} {r : Unit} {σ' : gS} {σ : gS} (nh_1_4 : ¬ (x = 1 ∧ y = 4)) (nh_1_5 : ¬ (x = 1 ∧ y = 5)) (nh_1_7 : ¬ (x = 1 ∧ y = 7)) (h : fX6_letters_60 σ = some (r, σ')) : sm σ σ' x y := by
  unfold fX6_letters_60 at h
  have f := sm_r σ x y
  rcases ite_or h with ⟨_, h⟩ | ⟨_, h⟩
  · exact sm_t f (wX6_letters_80 nh_1_4 nh_1_5 nh_1_7 h)
  · exact sm_t f (wX6_letters_80 nh_1_4 nh_1_5 nh_1_7 h)
set_option maxRecDepth 10000 in
theorem wX6_letters_5 {x y : Nat} {r : Unit} {σ' : gS} (nh_1_4 : ¬ (x = 1 ∧ y = 4)) (nh_1_5 : ¬ (x = 1 ∧ y = 5)) (nh_1_7 : ¬ (x = 1 ∧ y = 7)) : ∀ (n : Nat) (σ : gS), fX6_letters_5 n σ = some (r, σ') → sm σ σ' x y := by
  intro n
  induction n with
  | zero => intro σ h; exact absurd (show none = some (r, σ') from h) (by intro q; cases q)
  | succ n ih =>
  intro σ h
  unfold fX6_letters_5 at h
  have f := sm_r σ x y
  rcases ite_or h with ⟨_, h⟩ | ⟨_, h⟩
  · exact sm_t f (wX6_letters_60 nh_1_4 nh_1_5 nh_1_7 h)
  · obtain ⟨x2, σ3, y4, h⟩ := bd_some h
    have f := sm_t f (wX6_isLetterAt y4)
    rcases ite_or h with ⟨_, h⟩ | ⟨_, h⟩
    · exact sm_t f (wX6_letters_60 nh_1_4 nh_1_5 nh_1_7 h)
    · obtain ⟨g6, h⟩ := gg_some h
      obtain ⟨x7, σ8, y9, h⟩ := bd_some h
      have f := sm_t f (wX6_withLetter y9)
      obtain ⟨σ10, eσ10, h⟩ := bnd_nm h
      have f := sm_I f nh_1_7 eσ10
      obtain ⟨σ11, eσ11, h⟩ := bnd_nm h
      have f := sm_I f nh_1_4 eσ11
      exact sm_t f (ih σ11 h)
set_option maxRecDepth 10000 in
theorem wX6_letters {x y : Nat} {r : Unit} {σ' : gS} {σ : gS} (nh_1_4 : ¬ (x = 1 ∧ y = 4)) (nh_1_5 : ¬ (x = 1 ∧ y = 5)) (nh_1_7 : ¬ (x = 1 ∧ y = 7)) (h : fX6_letters σ = some (r, σ')) : sm σ σ' x y := by
  unfold fX6_letters at h
  have f := sm_r σ x y
  obtain ⟨σ1, eσ1, h⟩ := bnd_nm h
  have f := sm_I f nh_1_7 eσ1
  exact sm_t f (wX6_letters_5 nh_1_4 nh_1_5 nh_1_7 2000 σ1 h)
set_option maxRecDepth 10000 in
theorem wX6_isFigureAt_27 {x y : Nat} {p1 : Int32} {r : Int32} {σ' : gS} {s0 : Int32} {σ : gS} (h : fX6_isFigureAt_27 p1 s0 σ = some (r, σ')) : sm σ σ' x y := by
  unfold fX6_isFigureAt_27 at h
  have f := sm_r σ x y
  obtain ⟨g1, h⟩ := gg_some h
  obtain ⟨-, rfl⟩ := so_inj h
  exact f
set_option maxRecDepth 10000 in
theorem wX6_isFigureAt_26 {x y : Nat} {p1 : Int32} {r : Int32} {σ' : gS} {σ : gS} (h : fX6_isFigureAt_26 p1 σ = some (r, σ')) : sm σ σ' x y := by
  unfold fX6_isFigureAt_26 at h
  have f := sm_r σ x y
  exact sm_t f (wX6_isFigureAt_27 h)
set_option maxRecDepth 10000 in
theorem wX6_isFigureAt {x y : Nat} {p1 : Int32} {r : Int32} {σ' : gS} {σ : gS} (h : fX6_isFigureAt p1 σ = some (r, σ')) : sm σ σ' x y := by
  unfold fX6_isFigureAt at h
  have f := sm_r σ x y
  obtain ⟨g1, h⟩ := gg_some h
  rcases ite_or h with ⟨_, h⟩ | ⟨_, h⟩
  · exact sm_t f (wX6_isFigureAt_26 h)
  · obtain ⟨g3, h⟩ := gg_some h
    rcases ite_or h with ⟨_, h⟩ | ⟨_, h⟩
    · exact sm_t f (wX6_isFigureAt_26 h)
    · exact sm_t f (wX6_isFigureAt_27 h)
set_option maxRecDepth 10000 in
theorem wX6_figures_142 {x y : Nat} {r : Unit} {σ' : gS} {σ : gS} (nh_1_4 : ¬ (x = 1 ∧ y = 4)) (nh_1_5 : ¬ (x = 1 ∧ y = 5)) (nh_1_7 : ¬ (x = 1 ∧ y = 7)) (h : fX6_figures_142 σ = some (r, σ')) : sm σ σ' x y := by
  unfold fX6_figures_142 at h
  have f := sm_r σ x y
  obtain ⟨-, rfl⟩ := so_inj h
  exact f
set_option maxRecDepth 10000 in
theorem wX6_figures_126 {x y : Nat} {r : Unit} {σ' : gS} {v1 : Int32} {s1 : Int32} {σ : gS} (nh_1_4 : ¬ (x = 1 ∧ y = 4)) (nh_1_5 : ¬ (x = 1 ∧ y = 5)) (nh_1_7 : ¬ (x = 1 ∧ y = 7)) (h : fX6_figures_126 v1 s1 σ = some (r, σ')) : sm σ σ' x y := by
  unfold fX6_figures_126 at h
  have f := sm_r σ x y
  obtain ⟨σ1, eσ1, h⟩ := bnd_nm h
  have f := sm_I f nh_1_5 eσ1
  rcases ite_or h with ⟨_, h⟩ | ⟨_, h⟩
  · exact sm_t f (wX6_figures_142 nh_1_4 nh_1_5 nh_1_7 h)
  · obtain ⟨σ3, eσ3, h⟩ := bnd_nm h
    have f := sm_I f nh_1_7 eσ3
    exact sm_t f (wX6_figures_142 nh_1_4 nh_1_5 nh_1_7 h)
set_option maxRecDepth 10000 in
theorem wX6_figures_125 {x y : Nat} {r : Unit} {σ' : gS} {v1 : Int32} {σ : gS} (nh_1_4 : ¬ (x = 1 ∧ y = 4)) (nh_1_5 : ¬ (x = 1 ∧ y = 5)) (nh_1_7 : ¬ (x = 1 ∧ y = 7)) (h : fX6_figures_125 v1 σ = some (r, σ')) : sm σ σ' x y := by
  unfold fX6_figures_125 at h
  have f := sm_r σ x y
  exact sm_t f (wX6_figures_126 nh_1_4 nh_1_5 nh_1_7 h)
set_option maxRecDepth 10000 in
theorem wX6_figures_103 {x y : Nat} {r : Unit} {σ' : gS} {v1 : Int32} {v2 : Int32} {σ : gS} (nh_1_4 : ¬ (x = 1 ∧ y = 4)) (nh_1_5 : ¬ (x = 1 ∧ y = 5)) (nh_1_7 : ¬ (x = 1 ∧ y = 7)) (h : fX6_figures_103 v1 v2 σ = some (r, σ')) : sm σ σ' x y := by
  unfold fX6_figures_103 at h
  have f := sm_r σ x y
  obtain ⟨x1, ex1, h⟩ := bnd_nm h
  rcases ite_or h with ⟨_, h⟩ | ⟨_, h⟩
  · exact sm_t f (wX6_figures_125 nh_1_4 nh_1_5 nh_1_7 h)
  · rcases ite_or h with ⟨_, h⟩ | ⟨_, h⟩
    · exact sm_t f (wX6_figures_125 nh_1_4 nh_1_5 nh_1_7 h)
    · exact sm_t f (wX6_figures_126 nh_1_4 nh_1_5 nh_1_7 h)
set_option maxRecDepth 10000 in
theorem wX6_figures_44 {x y : Nat} {r : Unit} {σ' : gS} (nh_1_4 : ¬ (x = 1 ∧ y = 4)) (nh_1_5 : ¬ (x = 1 ∧ y = 5)) (nh_1_7 : ¬ (x = 1 ∧ y = 7)) : ∀ (n : Nat) (v1 : Int32) (v2 : Int32) (σ : gS), fX6_figures_44 n v1 v2 σ = some (r, σ') → sm σ σ' x y := by
  intro n
  induction n with
  | zero => intro v1 v2 σ h; exact absurd (show none = some (r, σ') from h) (by intro q; cases q)
  | succ n ih =>
  intro v1 v2 σ h
  unfold fX6_figures_44 at h
  have f := sm_r σ x y
  rcases ite_or h with ⟨_, h⟩ | ⟨_, h⟩
  · exact sm_t f (wX6_figures_103 nh_1_4 nh_1_5 nh_1_7 h)
  · obtain ⟨x2, σ3, y4, h⟩ := bd_some h
    have f := sm_t f (wX6_isFigureAt y4)
    rcases ite_or h with ⟨_, h⟩ | ⟨_, h⟩
    · exact sm_t f (wX6_figures_103 nh_1_4 nh_1_5 nh_1_7 h)
    · obtain ⟨g6, h⟩ := gg_some h
      obtain ⟨σ7, eσ7, h⟩ := bnd_nm h
      have f := sm_I f nh_1_7 eσ7
      obtain ⟨σ8, eσ8, h⟩ := bnd_nm h
      have f := sm_I f nh_1_4 eσ8
      exact sm_t f (ih v1 v2 σ8 h)
set_option maxRecDepth 10000 in
theorem wX6_figures_34 {x y : Nat} {r : Unit} {σ' : gS} {v1 : Int32} {σ : gS} (nh_1_4 : ¬ (x = 1 ∧ y = 4)) (nh_1_5 : ¬ (x = 1 ∧ y = 5)) (nh_1_7 : ¬ (x = 1 ∧ y = 7)) (h : fX6_figures_34 v1 σ = some (r, σ')) : sm σ σ' x y := by
  unfold fX6_figures_34 at h
  have f := sm_r σ x y
  obtain ⟨σ1, eσ1, h⟩ := bnd_nm h
  have f := sm_I f nh_1_7 eσ1
  exact sm_t f (wX6_figures_44 nh_1_4 nh_1_5 nh_1_7 2000 v1 (σ.1 1 4) σ1 h)
set_option maxRecDepth 10000 in
theorem wX6_figures_19 {x y : Nat} {r : Unit} {σ' : gS} {s0 : Int32} {σ : gS} (nh_1_4 : ¬ (x = 1 ∧ y = 4)) (nh_1_5 : ¬ (x = 1 ∧ y = 5)) (nh_1_7 : ¬ (x = 1 ∧ y = 7)) (h : fX6_figures_19 s0 σ = some (r, σ')) : sm σ σ' x y := by
  unfold fX6_figures_19 at h
  have f := sm_r σ x y
  rcases ite_or h with ⟨_, h⟩ | ⟨_, h⟩
  · exact sm_t f (wX6_figures_34 nh_1_4 nh_1_5 nh_1_7 h)
  · obtain ⟨σ2, eσ2, h⟩ := bnd_nm h
    have f := sm_I f nh_1_4 eσ2
    exact sm_t f (wX6_figures_34 nh_1_4 nh_1_5 nh_1_7 h)
set_option maxRecDepth 10000 in
theorem wX6_figures {x y : Nat} {r : Unit} {σ' : gS} {σ : gS} (nh_1_4 : ¬ (x = 1 ∧ y = 4)) (nh_1_5 : ¬ (x = 1 ∧ y = 5)) (nh_1_7 : ¬ (x = 1 ∧ y = 7)) (h : fX6_figures σ = some (r, σ')) : sm σ σ' x y := by
  unfold fX6_figures at h
  have f := sm_r σ x y
  obtain ⟨g1, h⟩ := gg_some h
  rcases ite_or h with ⟨_, h⟩ | ⟨_, h⟩
  · exact sm_t f (wX6_figures_19 nh_1_4 nh_1_5 nh_1_7 h)
  · exact sm_t f (wX6_figures_19 nh_1_4 nh_1_5 nh_1_7 h)
set_option maxRecDepth 10000 in
theorem wX6_next_39 {x y : Nat} {k0 : gS → Option (Unit × gS)} {r : Unit} {σ' : gS} {σ : gS} (hk0 : ∀ (σ : gS), k0 σ = some (r, σ') → sm σ σ' x y) (nh_1_4 : ¬ (x = 1 ∧ y = 4)) (nh_1_5 : ¬ (x = 1 ∧ y = 5)) (nh_1_6 : ¬ (x = 1 ∧ y = 6)) (nh_1_7 : ¬ (x = 1 ∧ y = 7)) (h : fX6_next_39 k0 σ = some (r, σ')) : sm σ σ' x y := by
  unfold fX6_next_39 at h
  have f := sm_r σ x y
  obtain ⟨σ1, eσ1, h⟩ := bnd_nm h
  have f := sm_I f nh_1_4 eσ1
  exact sm_t f (hk0 σ1 h)
set_option maxRecDepth 10000 in
theorem wX6_next_162 {x y : Nat} {r : Unit} {σ' : gS} {σ : gS} (nh_1_4 : ¬ (x = 1 ∧ y = 4)) (nh_1_5 : ¬ (x = 1 ∧ y = 5)) (nh_1_6 : ¬ (x = 1 ∧ y = 6)) (nh_1_7 : ¬ (x = 1 ∧ y = 7)) (h : fX6_next_162 σ = some (r, σ')) : sm σ σ' x y := by
  unfold fX6_next_162 at h
  have f := sm_r σ x y
  obtain ⟨-, rfl⟩ := so_inj h
  exact f
set_option maxRecDepth 10000 in
theorem wX6_next_122 {x y : Nat} {r : Unit} {σ' : gS} {σ : gS} (nh_1_4 : ¬ (x = 1 ∧ y = 4)) (nh_1_5 : ¬ (x = 1 ∧ y = 5)) (nh_1_6 : ¬ (x = 1 ∧ y = 6)) (nh_1_7 : ¬ (x = 1 ∧ y = 7)) (h : fX6_next_122 σ = some (r, σ')) : sm σ σ' x y := by
  unfold fX6_next_122 at h
  have f := sm_r σ x y
  obtain ⟨_, σ1, y2, h⟩ := bd_some h
  have f := sm_t f (wX6_figures nh_1_4 nh_1_5 nh_1_7 y2)
  exact sm_t f (wX6_next_162 nh_1_4 nh_1_5 nh_1_6 nh_1_7 h)
set_option maxRecDepth 10000 in
theorem wX6_next_149 {x y : Nat} {r : Unit} {σ' : gS} {s1 : Int32} {σ : gS} (nh_1_4 : ¬ (x = 1 ∧ y = 4)) (nh_1_5 : ¬ (x = 1 ∧ y = 5)) (nh_1_6 : ¬ (x = 1 ∧ y = 6)) (nh_1_7 : ¬ (x = 1 ∧ y = 7)) (h : fX6_next_149 s1 σ = some (r, σ')) : sm σ σ' x y := by
  unfold fX6_next_149 at h
  have f := sm_r σ x y
  obtain ⟨σ1, eσ1, h⟩ := bnd_nm h
  have f := sm_I f nh_1_5 eσ1
  obtain ⟨σ2, eσ2, h⟩ := bnd_nm h
  have f := sm_I f nh_1_4 eσ2
  exact sm_t f (wX6_next_162 nh_1_4 nh_1_5 nh_1_6 nh_1_7 h)
set_option maxRecDepth 10000 in
theorem wX6_next_52 {x y : Nat} {r : Unit} {σ' : gS} {σ : gS} (nh_1_4 : ¬ (x = 1 ∧ y = 4)) (nh_1_5 : ¬ (x = 1 ∧ y = 5)) (nh_1_6 : ¬ (x = 1 ∧ y = 6)) (nh_1_7 : ¬ (x = 1 ∧ y = 7)) (h : fX6_next_52 σ = some (r, σ')) : sm σ σ' x y := by
  unfold fX6_next_52 at h
  have f := sm_r σ x y
  obtain ⟨σ1, eσ1, h⟩ := bnd_nm h
  have f := sm_I f nh_1_6 eσ1
  rcases ite_or h with ⟨_, h⟩ | ⟨_, h⟩
  · obtain ⟨x3, σ4, y5, h⟩ := bd_some h
    have f := sm_t f (wX6_isLetterAt y5)
    rcases ite_or h with ⟨_, h⟩ | ⟨_, h⟩
    · obtain ⟨x7, σ8, y9, h⟩ := bd_some h
      have f := sm_t f (wX6_isFigureAt y9)
      rcases ite_or h with ⟨_, h⟩ | ⟨_, h⟩
      · obtain ⟨g11, h⟩ := gg_some h
        rcases ite_or h with ⟨_, h⟩ | ⟨_, h⟩
        · exact sm_t f (wX6_next_122 nh_1_4 nh_1_5 nh_1_6 nh_1_7 h)
        · obtain ⟨g13, h⟩ := gg_some h
          rcases ite_or h with ⟨_, h⟩ | ⟨_, h⟩
          · exact sm_t f (wX6_next_149 nh_1_4 nh_1_5 nh_1_6 nh_1_7 h)
          · exact sm_t f (wX6_next_149 nh_1_4 nh_1_5 nh_1_6 nh_1_7 h)
      · exact sm_t f (wX6_next_122 nh_1_4 nh_1_5 nh_1_6 nh_1_7 h)
    · obtain ⟨_, σ15, y16, h⟩ := bd_some h
      have f := sm_t f (wX6_letters nh_1_4 nh_1_5 nh_1_7 y16)
      exact sm_t f (wX6_next_162 nh_1_4 nh_1_5 nh_1_6 nh_1_7 h)
  · obtain ⟨σ17, eσ17, h⟩ := bnd_nm h
    have f := sm_I f nh_1_5 eσ17
    exact sm_t f (wX6_next_162 nh_1_4 nh_1_5 nh_1_6 nh_1_7 h)
set_option maxRecDepth 10000 in
theorem wX6_next_0 {x y : Nat} {r : Unit} {σ' : gS} (nh_1_4 : ¬ (x = 1 ∧ y = 4)) (nh_1_5 : ¬ (x = 1 ∧ y = 5)) (nh_1_6 : ¬ (x = 1 ∧ y = 6)) (nh_1_7 : ¬ (x = 1 ∧ y = 7)) : ∀ (n : Nat) (σ : gS), fX6_next_0 n σ = some (r, σ') → sm σ σ' x y := by
  intro n
  induction n with
  | zero => intro σ h; exact absurd (show none = some (r, σ') from h) (by intro q; cases q)
  | succ n ih =>
  intro σ h
  unfold fX6_next_0 at h
  have f := sm_r σ x y
  rcases ite_or h with ⟨_, h⟩ | ⟨_, h⟩
  · exact sm_t f (wX6_next_52 nh_1_4 nh_1_5 nh_1_6 nh_1_7 h)
  · obtain ⟨g2, h⟩ := gg_some h
    rcases ite_or h with ⟨_, h⟩ | ⟨_, h⟩
    · exact sm_t f (wX6_next_39 (fun σ h => ih σ h) nh_1_4 nh_1_5 nh_1_6 nh_1_7 h)
    · obtain ⟨g4, h⟩ := gg_some h
      rcases ite_or h with ⟨_, h⟩ | ⟨_, h⟩
      · exact sm_t f (wX6_next_39 (fun σ h => ih σ h) nh_1_4 nh_1_5 nh_1_6 nh_1_7 h)
      · exact sm_t f (wX6_next_52 nh_1_4 nh_1_5 nh_1_6 nh_1_7 h)
theorem wX6_next {x y : Nat} {r : Unit} {σ σ' : gS} (nh_1_4 : ¬ (x = 1 ∧ y = 4)) (nh_1_5 : ¬ (x = 1 ∧ y = 5)) (nh_1_6 : ¬ (x = 1 ∧ y = 6)) (nh_1_7 : ¬ (x = 1 ∧ y = 7)) (h : fX6_next σ = some (r, σ')) : sm σ σ' x y := wX6_next_0 nh_1_4 nh_1_5 nh_1_6 nh_1_7 2000 σ h
set_option maxRecDepth 10000 in
theorem wX6_fail_20 {x y : Nat} {p1 : Int32} {r : Unit} {σ' : gS} {σ : gS} (nh_1_8 : ¬ (x = 1 ∧ y = 8)) (nh_1_9 : ¬ (x = 1 ∧ y = 9)) (h : fX6_fail_20 p1 σ = some (r, σ')) : sm σ σ' x y := by
  unfold fX6_fail_20 at h
  have f := sm_r σ x y
  obtain ⟨-, rfl⟩ := so_inj h
  exact f
set_option maxRecDepth 10000 in
theorem wX6_fail {x y : Nat} {p1 : Int32} {r : Unit} {σ' : gS} {σ : gS} (nh_1_8 : ¬ (x = 1 ∧ y = 8)) (nh_1_9 : ¬ (x = 1 ∧ y = 9)) (h : fX6_fail p1 σ = some (r, σ')) : sm σ σ' x y := by
  unfold fX6_fail at h
  have f := sm_r σ x y
  rcases ite_or h with ⟨_, h⟩ | ⟨_, h⟩
  · obtain ⟨σ2, eσ2, h⟩ := bnd_nm h
    have f := sm_I f nh_1_8 eσ2
    obtain ⟨σ3, eσ3, h⟩ := bnd_nm h
    have f := sm_I f nh_1_9 eσ3
    exact sm_t f (wX6_fail_20 nh_1_8 nh_1_9 h)
  · exact sm_t f (wX6_fail_20 nh_1_8 nh_1_9 h)
set_option maxRecDepth 10000 in
theorem wX6_failUnfit_14 {x y : Nat} {r : Unit} {σ' : gS} {s1 : Int32} {σ : gS} (nh_1_8 : ¬ (x = 1 ∧ y = 8)) (nh_1_9 : ¬ (x = 1 ∧ y = 9)) (h : fX6_failUnfit_14 s1 σ = some (r, σ')) : sm σ σ' x y := by
  unfold fX6_failUnfit_14 at h
  have f := sm_r σ x y
  obtain ⟨_, σ1, y2, h⟩ := bd_some h
  have f := sm_t f (wX6_fail nh_1_8 nh_1_9 y2)
  obtain ⟨-, rfl⟩ := so_inj h
  exact f
set_option maxRecDepth 10000 in
theorem wX6_failUnfit {x y : Nat} {r : Unit} {σ' : gS} {σ : gS} (nh_1_8 : ¬ (x = 1 ∧ y = 8)) (nh_1_9 : ¬ (x = 1 ∧ y = 9)) (h : fX6_failUnfit σ = some (r, σ')) : sm σ σ' x y := by
  unfold fX6_failUnfit at h
  have f := sm_r σ x y
  rcases ite_or h with ⟨_, h⟩ | ⟨_, h⟩
  · exact sm_t f (wX6_failUnfit_14 nh_1_8 nh_1_9 h)
  · exact sm_t f (wX6_failUnfit_14 nh_1_8 nh_1_9 h)
set_option maxRecDepth 10000 in
theorem wX6_newName_88 {x y : Nat} {p1 : Int32} {r : Int32} {σ' : gS} {σ : gS} (nh_1_4 : ¬ (x = 1 ∧ y = 4)) (nh_1_5 : ¬ (x = 1 ∧ y = 5)) (nh_1_6 : ¬ (x = 1 ∧ y = 6)) (nh_1_7 : ¬ (x = 1 ∧ y = 7)) (nh_1_8 : ¬ (x = 1 ∧ y = 8)) (nh_1_9 : ¬ (x = 1 ∧ y = 9)) (h : fX6_newName_88 p1 σ = some (r, σ')) : sm σ σ' x y := by
  unfold fX6_newName_88 at h
  have f := sm_r σ x y
  obtain ⟨-, rfl⟩ := so_inj h
  exact f
set_option maxRecDepth 10000 in
theorem wX6_newName_63 {x y : Nat} {p1 : Int32} {r : Int32} {σ' : gS} {σ : gS} (nh_1_4 : ¬ (x = 1 ∧ y = 4)) (nh_1_5 : ¬ (x = 1 ∧ y = 5)) (nh_1_6 : ¬ (x = 1 ∧ y = 6)) (nh_1_7 : ¬ (x = 1 ∧ y = 7)) (nh_1_8 : ¬ (x = 1 ∧ y = 8)) (nh_1_9 : ¬ (x = 1 ∧ y = 9)) (h : fX6_newName_63 p1 σ = some (r, σ')) : sm σ σ' x y := by
  unfold fX6_newName_63 at h
  have f := sm_r σ x y
  obtain ⟨_, σ1, y2, h⟩ := bd_some h
  have f := sm_t f (wX6_fail nh_1_8 nh_1_9 y2)
  exact sm_t f (wX6_newName_88 nh_1_4 nh_1_5 nh_1_6 nh_1_7 nh_1_8 nh_1_9 h)
set_option maxRecDepth 10000 in
theorem wX6_newName {x y : Nat} {p1 : Int32} {r : Int32} {σ' : gS} {σ : gS} (nh_1_4 : ¬ (x = 1 ∧ y = 4)) (nh_1_5 : ¬ (x = 1 ∧ y = 5)) (nh_1_6 : ¬ (x = 1 ∧ y = 6)) (nh_1_7 : ¬ (x = 1 ∧ y = 7)) (nh_1_8 : ¬ (x = 1 ∧ y = 8)) (nh_1_9 : ¬ (x = 1 ∧ y = 9)) (h : fX6_newName p1 σ = some (r, σ')) : sm σ σ' x y := by
  unfold fX6_newName at h
  have f := sm_r σ x y
  rcases ite_or h with ⟨_, h⟩ | ⟨_, h⟩
  · obtain ⟨_, σ2, y3, h⟩ := bd_some h
    have f := sm_t f (wX6_next nh_1_4 nh_1_5 nh_1_6 nh_1_7 y3)
    rcases ite_or h with ⟨_, h⟩ | ⟨_, h⟩
    · obtain ⟨x5, ex5, h⟩ := bnd_nm h
      obtain ⟨g6, h⟩ := gg_some h
      obtain ⟨x7, σ8, y9, h⟩ := bd_some h
      have f := sm_t f (wX3_numberOf y9)
      rcases ite_or h with ⟨_, h⟩ | ⟨_, h⟩
      · obtain ⟨x11, ex11, h⟩ := bnd_nm h
        obtain ⟨g12, h⟩ := gg_some h
        obtain ⟨x13, σ14, y15, h⟩ := bd_some h
        have f := sm_t f (wX3_numberOf y15)
        rcases ite_or h with ⟨_, h⟩ | ⟨_, h⟩
        · obtain ⟨x17, ex17, h⟩ := bnd_nm h
          obtain ⟨g18, h⟩ := gg_some h
          obtain ⟨x19, σ20, y21, h⟩ := bd_some h
          have f := sm_t f (wX3_isFull y21)
          rcases ite_or h with ⟨_, h⟩ | ⟨_, h⟩
          · exact sm_t f (wX6_newName_88 nh_1_4 nh_1_5 nh_1_6 nh_1_7 nh_1_8 nh_1_9 h)
          · obtain ⟨_, σ23, y24, h⟩ := bd_some h
            have f := sm_t f (wX6_fail nh_1_8 nh_1_9 y24)
            exact sm_t f (wX6_newName_88 nh_1_4 nh_1_5 nh_1_6 nh_1_7 nh_1_8 nh_1_9 h)
        · exact sm_t f (wX6_newName_63 nh_1_4 nh_1_5 nh_1_6 nh_1_7 nh_1_8 nh_1_9 h)
      · exact sm_t f (wX6_newName_63 nh_1_4 nh_1_5 nh_1_6 nh_1_7 nh_1_8 nh_1_9 h)
    · obtain ⟨_, σ25, y26, h⟩ := bd_some h
      have f := sm_t f (wX6_failUnfit nh_1_8 nh_1_9 y26)
      exact sm_t f (wX6_newName_88 nh_1_4 nh_1_5 nh_1_6 nh_1_7 nh_1_8 nh_1_9 h)
  · obtain ⟨-, rfl⟩ := so_inj h
    exact f
set_option maxRecDepth 10000 in
theorem wX6_number_50 {x y : Nat} {p1 : Int32} {p2 : Int32} {r : Int32} {σ' : gS} {σ : gS} (nh_1_4 : ¬ (x = 1 ∧ y = 4)) (nh_1_5 : ¬ (x = 1 ∧ y = 5)) (nh_1_6 : ¬ (x = 1 ∧ y = 6)) (nh_1_7 : ¬ (x = 1 ∧ y = 7)) (nh_1_8 : ¬ (x = 1 ∧ y = 8)) (nh_1_9 : ¬ (x = 1 ∧ y = 9)) (h : fX6_number_50 p1 p2 σ = some (r, σ')) : sm σ σ' x y := by
  unfold fX6_number_50 at h
  have f := sm_r σ x y
  obtain ⟨-, rfl⟩ := so_inj h
  exact f
set_option maxRecDepth 10000 in
theorem wX6_number_45 {x y : Nat} {p1 : Int32} {p2 : Int32} {r : Int32} {σ' : gS} {σ : gS} (nh_1_4 : ¬ (x = 1 ∧ y = 4)) (nh_1_5 : ¬ (x = 1 ∧ y = 5)) (nh_1_6 : ¬ (x = 1 ∧ y = 6)) (nh_1_7 : ¬ (x = 1 ∧ y = 7)) (nh_1_8 : ¬ (x = 1 ∧ y = 8)) (nh_1_9 : ¬ (x = 1 ∧ y = 9)) (h : fX6_number_45 p1 p2 σ = some (r, σ')) : sm σ σ' x y := by
  unfold fX6_number_45 at h
  have f := sm_r σ x y
  obtain ⟨_, σ1, y2, h⟩ := bd_some h
  have f := sm_t f (wX6_fail nh_1_8 nh_1_9 y2)
  exact sm_t f (wX6_number_50 nh_1_4 nh_1_5 nh_1_6 nh_1_7 nh_1_8 nh_1_9 h)
set_option maxRecDepth 10000 in
theorem wX6_number {x y : Nat} {p1 : Int32} {p2 : Int32} {r : Int32} {σ' : gS} {σ : gS} (nh_1_4 : ¬ (x = 1 ∧ y = 4)) (nh_1_5 : ¬ (x = 1 ∧ y = 5)) (nh_1_6 : ¬ (x = 1 ∧ y = 6)) (nh_1_7 : ¬ (x = 1 ∧ y = 7)) (nh_1_8 : ¬ (x = 1 ∧ y = 8)) (nh_1_9 : ¬ (x = 1 ∧ y = 9)) (h : fX6_number p1 p2 σ = some (r, σ')) : sm σ σ' x y := by
  unfold fX6_number at h
  have f := sm_r σ x y
  rcases ite_or h with ⟨_, h⟩ | ⟨_, h⟩
  · obtain ⟨_, σ2, y3, h⟩ := bd_some h
    have f := sm_t f (wX6_next nh_1_4 nh_1_5 nh_1_6 nh_1_7 y3)
    rcases ite_or h with ⟨_, h⟩ | ⟨_, h⟩
    · rcases ite_or h with ⟨_, h⟩ | ⟨_, h⟩
      · exact sm_t f (wX6_number_45 nh_1_4 nh_1_5 nh_1_6 nh_1_7 nh_1_8 nh_1_9 h)
      · rcases ite_or h with ⟨_, h⟩ | ⟨_, h⟩
        · exact sm_t f (wX6_number_50 nh_1_4 nh_1_5 nh_1_6 nh_1_7 nh_1_8 nh_1_9 h)
        · exact sm_t f (wX6_number_45 nh_1_4 nh_1_5 nh_1_6 nh_1_7 nh_1_8 nh_1_9 h)
    · obtain ⟨_, σ7, y8, h⟩ := bd_some h
      have f := sm_t f (wX6_failUnfit nh_1_8 nh_1_9 y8)
      exact sm_t f (wX6_number_50 nh_1_4 nh_1_5 nh_1_6 nh_1_7 nh_1_8 nh_1_9 h)
  · obtain ⟨-, rfl⟩ := so_inj h
    exact f
set_option maxRecDepth 10000 in
theorem wX6_expectSign_24 {x y : Nat} {r : Unit} {σ' : gS} {σ : gS} (nh_1_4 : ¬ (x = 1 ∧ y = 4)) (nh_1_5 : ¬ (x = 1 ∧ y = 5)) (nh_1_6 : ¬ (x = 1 ∧ y = 6)) (nh_1_7 : ¬ (x = 1 ∧ y = 7)) (nh_1_8 : ¬ (x = 1 ∧ y = 8)) (nh_1_9 : ¬ (x = 1 ∧ y = 9)) (h : fX6_expectSign_24 σ = some (r, σ')) : sm σ σ' x y := by
  unfold fX6_expectSign_24 at h
  have f := sm_r σ x y
  obtain ⟨-, rfl⟩ := so_inj h
  exact f
set_option maxRecDepth 10000 in
theorem wX6_expectSign {x y : Nat} {r : Unit} {σ' : gS} {σ : gS} (nh_1_4 : ¬ (x = 1 ∧ y = 4)) (nh_1_5 : ¬ (x = 1 ∧ y = 5)) (nh_1_6 : ¬ (x = 1 ∧ y = 6)) (nh_1_7 : ¬ (x = 1 ∧ y = 7)) (nh_1_8 : ¬ (x = 1 ∧ y = 8)) (nh_1_9 : ¬ (x = 1 ∧ y = 9)) (h : fX6_expectSign σ = some (r, σ')) : sm σ σ' x y := by
  unfold fX6_expectSign at h
  have f := sm_r σ x y
  rcases ite_or h with ⟨_, h⟩ | ⟨_, h⟩
  · obtain ⟨_, σ2, y3, h⟩ := bd_some h
    have f := sm_t f (wX6_next nh_1_4 nh_1_5 nh_1_6 nh_1_7 y3)
    rcases ite_or h with ⟨_, h⟩ | ⟨_, h⟩
    · exact sm_t f (wX6_expectSign_24 nh_1_4 nh_1_5 nh_1_6 nh_1_7 nh_1_8 nh_1_9 h)
    · obtain ⟨_, σ5, y6, h⟩ := bd_some h
      have f := sm_t f (wX6_failUnfit nh_1_8 nh_1_9 y6)
      exact sm_t f (wX6_expectSign_24 nh_1_4 nh_1_5 nh_1_6 nh_1_7 nh_1_8 nh_1_9 h)
  · obtain ⟨-, rfl⟩ := so_inj h
    exact f
set_option maxRecDepth 10000 in
theorem wX6_joint_52 {x y d : Nat} {p1 : Int32} {r : Unit} {σ' : gS} {σ : gS} (nt_d_0_7 : ¬ (x = d + 0 ∧ y = 7)) (nt_d_1 : ¬ x = d + 1) (nt_d_11 : ¬ x = d + 11) (nt_d_2 : ¬ x = d + 2) (nt_d_3 : ¬ x = d + 3) (nt_d_4 : ¬ x = d + 4) (nt_d_5 : ¬ x = d + 5) (nt_d_7_10_r : ¬ (d + 7 ≤ x ∧ x ≤ d + 10)) (nh_1_4 : ¬ (x = 1 ∧ y = 4)) (nh_1_5 : ¬ (x = 1 ∧ y = 5)) (nh_1_6 : ¬ (x = 1 ∧ y = 6)) (nh_1_7 : ¬ (x = 1 ∧ y = 7)) (nh_1_8 : ¬ (x = 1 ∧ y = 8)) (nh_1_9 : ¬ (x = 1 ∧ y = 9)) (hd : σ.2.2 1 3 = d) (h : fX6_joint_52 p1 σ = some (r, σ')) : sm σ σ' x y := by
  unfold fX6_joint_52 at h
  have f := sm_r σ x y
  obtain ⟨-, rfl⟩ := so_inj h
  exact f
set_option maxRecDepth 10000 in
theorem wX6_joint {x y d : Nat} {p1 : Int32} {r : Unit} {σ' : gS} {σ : gS} (nt_d_0_7 : ¬ (x = d + 0 ∧ y = 7)) (nt_d_1 : ¬ x = d + 1) (nt_d_11 : ¬ x = d + 11) (nt_d_2 : ¬ x = d + 2) (nt_d_3 : ¬ x = d + 3) (nt_d_4 : ¬ x = d + 4) (nt_d_5 : ¬ x = d + 5) (nt_d_7_10_r : ¬ (d + 7 ≤ x ∧ x ≤ d + 10)) (nh_1_4 : ¬ (x = 1 ∧ y = 4)) (nh_1_5 : ¬ (x = 1 ∧ y = 5)) (nh_1_6 : ¬ (x = 1 ∧ y = 6)) (nh_1_7 : ¬ (x = 1 ∧ y = 7)) (nh_1_8 : ¬ (x = 1 ∧ y = 8)) (nh_1_9 : ¬ (x = 1 ∧ y = 9)) (hd : σ.2.2 1 3 = d) (h : fX6_joint p1 σ = some (r, σ')) : sm σ σ' x y := by
  unfold fX6_joint at h
  have f := sm_r σ x y
  obtain ⟨x1, σ2, y3, h⟩ := bd_some h
  have f := sm_t f (wX6_newName nh_1_4 nh_1_5 nh_1_6 nh_1_7 nh_1_8 nh_1_9 y3)
  obtain ⟨x4, σ5, y6, h⟩ := bd_some h
  have f := sm_t f (wX6_number nh_1_4 nh_1_5 nh_1_6 nh_1_7 nh_1_8 nh_1_9 y6)
  obtain ⟨x7, σ8, y9, h⟩ := bd_some h
  have f := sm_t f (wX6_number nh_1_4 nh_1_5 nh_1_6 nh_1_7 nh_1_8 nh_1_9 y9)
  obtain ⟨_, σ10, y11, h⟩ := bd_some h
  have f := sm_t f (wX6_expectSign nh_1_4 nh_1_5 nh_1_6 nh_1_7 nh_1_8 nh_1_9 y11)
  rcases ite_or h with ⟨_, h⟩ | ⟨_, h⟩
  · obtain ⟨x13, ex13, h⟩ := bnd_nm h
    have dx13 := ex13.trans ((congrFun (congrFun f.2.2 1) 3).trans hd)
    obtain ⟨g14, h⟩ := gg_some h
    obtain ⟨_, σ15, y16, h⟩ := bd_some h
    have f := sm_t f (wX3_add (fun q => nt_d_0_7 (dx13 ▸ q)) (fun q => nt_d_1 (dx13 ▸ q)) (fun q => nt_d_11 (dx13 ▸ q)) (fun q => nt_d_2 (dx13 ▸ q)) (fun q => nt_d_3 (dx13 ▸ q)) (fun q => nt_d_4 (dx13 ▸ q)) (fun q => nt_d_5 (dx13 ▸ q)) (fun q => nt_d_7_10_r (dx13 ▸ q)) y16)
    exact sm_t f (wX6_joint_52 nt_d_0_7 nt_d_1 nt_d_11 nt_d_2 nt_d_3 nt_d_4 nt_d_5 nt_d_7_10_r nh_1_4 nh_1_5 nh_1_6 nh_1_7 nh_1_8 nh_1_9 ((congrFun (congrFun f.2.2 1) 3).trans hd) h)
  · exact sm_t f (wX6_joint_52 nt_d_0_7 nt_d_1 nt_d_11 nt_d_2 nt_d_3 nt_d_4 nt_d_5 nt_d_7_10_r nh_1_4 nh_1_5 nh_1_6 nh_1_7 nh_1_8 nh_1_9 ((congrFun (congrFun f.2.2 1) 3).trans hd) h)
set_option maxRecDepth 10000 in
theorem wX6_knownHere_39 {x y : Nat} {p1 : Int32} {r : Int32} {σ' : gS} {v2 : Int32} {σ : gS} (nh_1_8 : ¬ (x = 1 ∧ y = 8)) (nh_1_9 : ¬ (x = 1 ∧ y = 9)) (h : fX6_knownHere_39 p1 v2 σ = some (r, σ')) : sm σ σ' x y := by
  unfold fX6_knownHere_39 at h
  have f := sm_r σ x y
  obtain ⟨-, rfl⟩ := so_inj h
  exact f
set_option maxRecDepth 10000 in
theorem wX6_knownHere {x y : Nat} {p1 : Int32} {r : Int32} {σ' : gS} {σ : gS} (nh_1_8 : ¬ (x = 1 ∧ y = 8)) (nh_1_9 : ¬ (x = 1 ∧ y = 9)) (h : fX6_knownHere p1 σ = some (r, σ')) : sm σ σ' x y := by
  unfold fX6_knownHere at h
  have f := sm_r σ x y
  rcases ite_or h with ⟨_, h⟩ | ⟨_, h⟩
  · obtain ⟨x2, ex2, h⟩ := bnd_nm h
    obtain ⟨g3, h⟩ := gg_some h
    obtain ⟨x4, σ5, y6, h⟩ := bd_some h
    have f := sm_t f (wX3_numberOf y6)
    rcases ite_or h with ⟨_, h⟩ | ⟨_, h⟩
    · obtain ⟨_, σ8, y9, h⟩ := bd_some h
      have f := sm_t f (wX6_fail nh_1_8 nh_1_9 y9)
      exact sm_t f (wX6_knownHere_39 nh_1_8 nh_1_9 h)
    · exact sm_t f (wX6_knownHere_39 nh_1_8 nh_1_9 h)
  · obtain ⟨_, σ10, y11, h⟩ := bd_some h
    have f := sm_t f (wX6_failUnfit nh_1_8 nh_1_9 y11)
    obtain ⟨-, rfl⟩ := so_inj h
    exact f
set_option maxRecDepth 10000 in
theorem wX6_knownName {x y : Nat} {p1 : Int32} {r : Int32} {σ' : gS} {σ : gS} (nh_1_4 : ¬ (x = 1 ∧ y = 4)) (nh_1_5 : ¬ (x = 1 ∧ y = 5)) (nh_1_6 : ¬ (x = 1 ∧ y = 6)) (nh_1_7 : ¬ (x = 1 ∧ y = 7)) (nh_1_8 : ¬ (x = 1 ∧ y = 8)) (nh_1_9 : ¬ (x = 1 ∧ y = 9)) (h : fX6_knownName p1 σ = some (r, σ')) : sm σ σ' x y := by
  unfold fX6_knownName at h
  have f := sm_r σ x y
  rcases ite_or h with ⟨_, h⟩ | ⟨_, h⟩
  · obtain ⟨_, σ2, y3, h⟩ := bd_some h
    have f := sm_t f (wX6_next nh_1_4 nh_1_5 nh_1_6 nh_1_7 y3)
    obtain ⟨x4, σ5, y6, h⟩ := bd_some h
    have f := sm_t f (wX6_knownHere nh_1_8 nh_1_9 y6)
    obtain ⟨-, rfl⟩ := so_inj h
    exact f
  · obtain ⟨-, rfl⟩ := so_inj h
    exact f
set_option maxRecDepth 10000 in
theorem wX6_addBar_72 {x y d : Nat} {p1 : Int32} {p2 : Int32} {r : Unit} {σ' : gS} {σ : gS} (nt_d_0_7 : ¬ (x = d + 0 ∧ y = 7)) (nt_d_1 : ¬ x = d + 1) (nt_d_11 : ¬ x = d + 11) (nt_d_2 : ¬ x = d + 2) (nt_d_3 : ¬ x = d + 3) (nt_d_4 : ¬ x = d + 4) (nt_d_5 : ¬ x = d + 5) (nt_d_7_10_r : ¬ (d + 7 ≤ x ∧ x ≤ d + 10)) (nh_1_8 : ¬ (x = 1 ∧ y = 8)) (nh_1_9 : ¬ (x = 1 ∧ y = 9)) (hd : σ.2.2 1 3 = d) (h : fX6_addBar_72 p1 p2 σ = some (r, σ')) : sm σ σ' x y := by
  unfold fX6_addBar_72 at h
  have f := sm_r σ x y
  obtain ⟨-, rfl⟩ := so_inj h
  exact f
set_option maxRecDepth 10000 in
theorem wX6_addBar_52 {x y d : Nat} {p1 : Int32} {p2 : Int32} {r : Unit} {σ' : gS} {σ : gS} (nt_d_0_7 : ¬ (x = d + 0 ∧ y = 7)) (nt_d_1 : ¬ x = d + 1) (nt_d_11 : ¬ x = d + 11) (nt_d_2 : ¬ x = d + 2) (nt_d_3 : ¬ x = d + 3) (nt_d_4 : ¬ x = d + 4) (nt_d_5 : ¬ x = d + 5) (nt_d_7_10_r : ¬ (d + 7 ≤ x ∧ x ≤ d + 10)) (nh_1_8 : ¬ (x = 1 ∧ y = 8)) (nh_1_9 : ¬ (x = 1 ∧ y = 9)) (hd : σ.2.2 1 3 = d) (h : fX6_addBar_52 p1 p2 σ = some (r, σ')) : sm σ σ' x y := by
  unfold fX6_addBar_52 at h
  have f := sm_r σ x y
  obtain ⟨_, σ1, y2, h⟩ := bd_some h
  have f := sm_t f (wX6_fail nh_1_8 nh_1_9 y2)
  exact sm_t f (wX6_addBar_72 nt_d_0_7 nt_d_1 nt_d_11 nt_d_2 nt_d_3 nt_d_4 nt_d_5 nt_d_7_10_r nh_1_8 nh_1_9 ((congrFun (congrFun f.2.2 1) 3).trans hd) h)
set_option maxRecDepth 10000 in
theorem wX6_addBar {x y d : Nat} {p1 : Int32} {p2 : Int32} {r : Unit} {σ' : gS} {σ : gS} (nt_d_0_7 : ¬ (x = d + 0 ∧ y = 7)) (nt_d_1 : ¬ x = d + 1) (nt_d_11 : ¬ x = d + 11) (nt_d_2 : ¬ x = d + 2) (nt_d_3 : ¬ x = d + 3) (nt_d_4 : ¬ x = d + 4) (nt_d_5 : ¬ x = d + 5) (nt_d_7_10_r : ¬ (d + 7 ≤ x ∧ x ≤ d + 10)) (nh_1_8 : ¬ (x = 1 ∧ y = 8)) (nh_1_9 : ¬ (x = 1 ∧ y = 9)) (hd : σ.2.2 1 3 = d) (h : fX6_addBar p1 p2 σ = some (r, σ')) : sm σ σ' x y := by
  unfold fX6_addBar at h
  have f := sm_r σ x y
  rcases ite_or h with ⟨_, h⟩ | ⟨_, h⟩
  · obtain ⟨x2, ex2, h⟩ := bnd_nm h
    have dx2 := ex2.trans ((congrFun (congrFun f.2.2 1) 3).trans hd)
    obtain ⟨g3, h⟩ := gg_some h
    obtain ⟨x4, σ5, y6, h⟩ := bd_some h
    have f := sm_t f (wX3_isFull y6)
    rcases ite_or h with ⟨_, h⟩ | ⟨_, h⟩
    · obtain ⟨x8, ex8, h⟩ := bnd_nm h
      have dx8 := ex8.trans ((congrFun (congrFun f.2.2 1) 3).trans hd)
      obtain ⟨g9, h⟩ := gg_some h
      obtain ⟨x10, σ11, y12, h⟩ := bd_some h
      have f := sm_t f (wX3_squareApart y12)
      rcases ite_or h with ⟨_, h⟩ | ⟨_, h⟩
      · exact sm_t f (wX6_addBar_52 nt_d_0_7 nt_d_1 nt_d_11 nt_d_2 nt_d_3 nt_d_4 nt_d_5 nt_d_7_10_r nh_1_8 nh_1_9 ((congrFun (congrFun f.2.2 1) 3).trans hd) h)
      · obtain ⟨x14, ex14, h⟩ := bnd_nm h
        have dx14 := ex14.trans ((congrFun (congrFun f.2.2 1) 3).trans hd)
        obtain ⟨g15, h⟩ := gg_some h
        obtain ⟨x16, σ17, y18, h⟩ := bd_some h
        have f := sm_t f (wX3_hasBar y18)
        rcases ite_or h with ⟨_, h⟩ | ⟨_, h⟩
        · obtain ⟨x20, ex20, h⟩ := bnd_nm h
          have dx20 := ex20.trans ((congrFun (congrFun f.2.2 1) 3).trans hd)
          obtain ⟨g21, h⟩ := gg_some h
          obtain ⟨_, σ22, y23, h⟩ := bd_some h
          have f := sm_t f (wX3_add (fun q => nt_d_0_7 (dx20 ▸ q)) (fun q => nt_d_1 (dx20 ▸ q)) (fun q => nt_d_11 (dx20 ▸ q)) (fun q => nt_d_2 (dx20 ▸ q)) (fun q => nt_d_3 (dx20 ▸ q)) (fun q => nt_d_4 (dx20 ▸ q)) (fun q => nt_d_5 (dx20 ▸ q)) (fun q => nt_d_7_10_r (dx20 ▸ q)) y23)
          exact sm_t f (wX6_addBar_72 nt_d_0_7 nt_d_1 nt_d_11 nt_d_2 nt_d_3 nt_d_4 nt_d_5 nt_d_7_10_r nh_1_8 nh_1_9 ((congrFun (congrFun f.2.2 1) 3).trans hd) h)
        · exact sm_t f (wX6_addBar_52 nt_d_0_7 nt_d_1 nt_d_11 nt_d_2 nt_d_3 nt_d_4 nt_d_5 nt_d_7_10_r nh_1_8 nh_1_9 ((congrFun (congrFun f.2.2 1) 3).trans hd) h)
    · obtain ⟨_, σ24, y25, h⟩ := bd_some h
      have f := sm_t f (wX6_fail nh_1_8 nh_1_9 y25)
      exact sm_t f (wX6_addBar_72 nt_d_0_7 nt_d_1 nt_d_11 nt_d_2 nt_d_3 nt_d_4 nt_d_5 nt_d_7_10_r nh_1_8 nh_1_9 ((congrFun (congrFun f.2.2 1) 3).trans hd) h)
  · obtain ⟨-, rfl⟩ := so_inj h
    exact f
set_option maxRecDepth 10000 in
theorem wX6_oneBar {x y d : Nat} {r : Unit} {σ' : gS} {σ : gS} (nt_d_0_7 : ¬ (x = d + 0 ∧ y = 7)) (nt_d_1 : ¬ x = d + 1) (nt_d_11 : ¬ x = d + 11) (nt_d_2 : ¬ x = d + 2) (nt_d_3 : ¬ x = d + 3) (nt_d_4 : ¬ x = d + 4) (nt_d_5 : ¬ x = d + 5) (nt_d_7_10_r : ¬ (d + 7 ≤ x ∧ x ≤ d + 10)) (nh_1_4 : ¬ (x = 1 ∧ y = 4)) (nh_1_5 : ¬ (x = 1 ∧ y = 5)) (nh_1_6 : ¬ (x = 1 ∧ y = 6)) (nh_1_7 : ¬ (x = 1 ∧ y = 7)) (nh_1_8 : ¬ (x = 1 ∧ y = 8)) (nh_1_9 : ¬ (x = 1 ∧ y = 9)) (hd : σ.2.2 1 3 = d) (h : fX6_oneBar σ = some (r, σ')) : sm σ σ' x y := by
  unfold fX6_oneBar at h
  have f := sm_r σ x y
  obtain ⟨x1, σ2, y3, h⟩ := bd_some h
  have f := sm_t f (wX6_knownName nh_1_4 nh_1_5 nh_1_6 nh_1_7 nh_1_8 nh_1_9 y3)
  obtain ⟨x4, σ5, y6, h⟩ := bd_some h
  have f := sm_t f (wX6_knownName nh_1_4 nh_1_5 nh_1_6 nh_1_7 nh_1_8 nh_1_9 y6)
  obtain ⟨_, σ7, y8, h⟩ := bd_some h
  have f := sm_t f (wX6_addBar nt_d_0_7 nt_d_1 nt_d_11 nt_d_2 nt_d_3 nt_d_4 nt_d_5 nt_d_7_10_r nh_1_8 nh_1_9 ((congrFun (congrFun f.2.2 1) 3).trans hd) y8)
  obtain ⟨_, σ9, y10, h⟩ := bd_some h
  have f := sm_t f (wX6_expectSign nh_1_4 nh_1_5 nh_1_6 nh_1_7 nh_1_8 nh_1_9 y10)
  obtain ⟨-, rfl⟩ := so_inj h
  exact f
set_option maxRecDepth 10000 in
theorem wX6_manyBars_56 {x y d : Nat} {p1 : Int32} {p2 : Int32} {r : Unit} {σ' : gS} {σ : gS} (nt_d_0_7 : ¬ (x = d + 0 ∧ y = 7)) (nt_d_1 : ¬ x = d + 1) (nt_d_11 : ¬ x = d + 11) (nt_d_2 : ¬ x = d + 2) (nt_d_3 : ¬ x = d + 3) (nt_d_4 : ¬ x = d + 4) (nt_d_5 : ¬ x = d + 5) (nt_d_7_10_r : ¬ (d + 7 ≤ x ∧ x ≤ d + 10)) (nh_1_4 : ¬ (x = 1 ∧ y = 4)) (nh_1_5 : ¬ (x = 1 ∧ y = 5)) (nh_1_6 : ¬ (x = 1 ∧ y = 6)) (nh_1_7 : ¬ (x = 1 ∧ y = 7)) (nh_1_8 : ¬ (x = 1 ∧ y = 8)) (nh_1_9 : ¬ (x = 1 ∧ y = 9)) (hd : σ.2.2 1 3 = d) (h : fX6_manyBars_56 p1 p2 σ = some (r, σ')) : sm σ σ' x y := by
  unfold fX6_manyBars_56 at h
  have f := sm_r σ x y
  obtain ⟨-, rfl⟩ := so_inj h
  exact f
set_option maxRecDepth 10000 in
theorem wX6_manyBars_57 {x y d : Nat} {p1 : Int32} {p2 : Int32} {k12 : Int32 → Int32 → Int32 → gS → Option (Unit × gS)} {r : Unit} {σ' : gS} {v3 : Int32} {v4 : Int32} {v5 : Int32} {σ : gS} (hk12 : ∀ (v3 : Int32) (v4 : Int32) (v5 : Int32) (σ : gS), σ.2.2 1 3 = d → k12 v3 v4 v5 σ = some (r, σ') → sm σ σ' x y) (nt_d_0_7 : ¬ (x = d + 0 ∧ y = 7)) (nt_d_1 : ¬ x = d + 1) (nt_d_11 : ¬ x = d + 11) (nt_d_2 : ¬ x = d + 2) (nt_d_3 : ¬ x = d + 3) (nt_d_4 : ¬ x = d + 4) (nt_d_5 : ¬ x = d + 5) (nt_d_7_10_r : ¬ (d + 7 ≤ x ∧ x ≤ d + 10)) (nh_1_4 : ¬ (x = 1 ∧ y = 4)) (nh_1_5 : ¬ (x = 1 ∧ y = 5)) (nh_1_6 : ¬ (x = 1 ∧ y = 6)) (nh_1_7 : ¬ (x = 1 ∧ y = 7)) (nh_1_8 : ¬ (x = 1 ∧ y = 8)) (nh_1_9 : ¬ (x = 1 ∧ y = 9)) (hd : σ.2.2 1 3 = d) (h : fX6_manyBars_57 p1 p2 k12 v3 v4 v5 σ = some (r, σ')) : sm σ σ' x y := by
  unfold fX6_manyBars_57 at h
  have f := sm_r σ x y
  obtain ⟨x1, σ2, y3, h⟩ := bd_some h
  have f := sm_t f (wX6_knownHere nh_1_8 nh_1_9 y3)
  obtain ⟨_, σ4, y5, h⟩ := bd_some h
  have f := sm_t f (wX6_addBar nt_d_0_7 nt_d_1 nt_d_11 nt_d_2 nt_d_3 nt_d_4 nt_d_5 nt_d_7_10_r nh_1_8 nh_1_9 ((congrFun (congrFun f.2.2 1) 3).trans hd) y5)
  obtain ⟨x6, ex6, h⟩ := bnd_nm h
  exact sm_t f (hk12 v3 x1 x6 σ4 ((congrFun (congrFun f.2.2 1) 3).trans hd) h)
set_option maxRecDepth 10000 in
theorem wX6_manyBars_82 {x y d : Nat} {p1 : Int32} {p2 : Int32} {r : Unit} {σ' : gS} {σ : gS} (nt_d_0_7 : ¬ (x = d + 0 ∧ y = 7)) (nt_d_1 : ¬ x = d + 1) (nt_d_11 : ¬ x = d + 11) (nt_d_2 : ¬ x = d + 2) (nt_d_3 : ¬ x = d + 3) (nt_d_4 : ¬ x = d + 4) (nt_d_5 : ¬ x = d + 5) (nt_d_7_10_r : ¬ (d + 7 ≤ x ∧ x ≤ d + 10)) (nh_1_4 : ¬ (x = 1 ∧ y = 4)) (nh_1_5 : ¬ (x = 1 ∧ y = 5)) (nh_1_6 : ¬ (x = 1 ∧ y = 6)) (nh_1_7 : ¬ (x = 1 ∧ y = 7)) (nh_1_8 : ¬ (x = 1 ∧ y = 8)) (nh_1_9 : ¬ (x = 1 ∧ y = 9)) (hd : σ.2.2 1 3 = d) (h : fX6_manyBars_82 p1 p2 σ = some (r, σ')) : sm σ σ' x y := by
  unfold fX6_manyBars_82 at h
  have f := sm_r σ x y
  obtain ⟨-, rfl⟩ := so_inj h
  exact f
set_option maxRecDepth 10000 in
theorem wX6_manyBars_12 {x y d : Nat} {p1 : Int32} {p2 : Int32} {r : Unit} {σ' : gS} (nt_d_0_7 : ¬ (x = d + 0 ∧ y = 7)) (nt_d_1 : ¬ x = d + 1) (nt_d_11 : ¬ x = d + 11) (nt_d_2 : ¬ x = d + 2) (nt_d_3 : ¬ x = d + 3) (nt_d_4 : ¬ x = d + 4) (nt_d_5 : ¬ x = d + 5) (nt_d_7_10_r : ¬ (d + 7 ≤ x ∧ x ≤ d + 10)) (nh_1_4 : ¬ (x = 1 ∧ y = 4)) (nh_1_5 : ¬ (x = 1 ∧ y = 5)) (nh_1_6 : ¬ (x = 1 ∧ y = 6)) (nh_1_7 : ¬ (x = 1 ∧ y = 7)) (nh_1_8 : ¬ (x = 1 ∧ y = 8)) (nh_1_9 : ¬ (x = 1 ∧ y = 9)) : ∀ (n : Nat) (v3 : Int32) (v4 : Int32) (v5 : Int32) (σ : gS), σ.2.2 1 3 = d → fX6_manyBars_12 p1 p2 n v3 v4 v5 σ = some (r, σ') → sm σ σ' x y := by
  intro n
  induction n with
  | zero => intro v3 v4 v5 σ hd h; exact absurd (show none = some (r, σ') from h) (by intro q; cases q)
  | succ n ih =>
  intro v3 v4 v5 σ hd h
  unfold fX6_manyBars_12 at h
  have f := sm_r σ x y
  rcases ite_or h with ⟨_, h⟩ | ⟨_, h⟩
  · exact sm_t f (wX6_manyBars_82 nt_d_0_7 nt_d_1 nt_d_11 nt_d_2 nt_d_3 nt_d_4 nt_d_5 nt_d_7_10_r nh_1_4 nh_1_5 nh_1_6 nh_1_7 nh_1_8 nh_1_9 ((congrFun (congrFun f.2.2 1) 3).trans hd) h)
  · rcases ite_or h with ⟨_, h⟩ | ⟨_, h⟩
    · obtain ⟨_, σ3, y4, h⟩ := bd_some h
      have f := sm_t f (wX6_next nh_1_4 nh_1_5 nh_1_6 nh_1_7 y4)
      rcases ite_or h with ⟨_, h⟩ | ⟨_, h⟩
      · rcases ite_or h with ⟨_, h⟩ | ⟨_, h⟩
        · exact sm_t f (wX6_manyBars_57 (fun v3 v4 v5 σ hd h => ih v3 v4 v5 σ hd h) nt_d_0_7 nt_d_1 nt_d_11 nt_d_2 nt_d_3 nt_d_4 nt_d_5 nt_d_7_10_r nh_1_4 nh_1_5 nh_1_6 nh_1_7 nh_1_8 nh_1_9 ((congrFun (congrFun f.2.2 1) 3).trans hd) h)
        · rcases ite_or h with ⟨_, h⟩ | ⟨_, h⟩
          · exact sm_t f (wX6_manyBars_56 nt_d_0_7 nt_d_1 nt_d_11 nt_d_2 nt_d_3 nt_d_4 nt_d_5 nt_d_7_10_r nh_1_4 nh_1_5 nh_1_6 nh_1_7 nh_1_8 nh_1_9 ((congrFun (congrFun f.2.2 1) 3).trans hd) h)
          · obtain ⟨_, σ8, y9, h⟩ := bd_some h
            have f := sm_t f (wX6_addBar nt_d_0_7 nt_d_1 nt_d_11 nt_d_2 nt_d_3 nt_d_4 nt_d_5 nt_d_7_10_r nh_1_8 nh_1_9 ((congrFun (congrFun f.2.2 1) 3).trans hd) y9)
            exact sm_t f (wX6_manyBars_56 nt_d_0_7 nt_d_1 nt_d_11 nt_d_2 nt_d_3 nt_d_4 nt_d_5 nt_d_7_10_r nh_1_4 nh_1_5 nh_1_6 nh_1_7 nh_1_8 nh_1_9 ((congrFun (congrFun f.2.2 1) 3).trans hd) h)
      · exact sm_t f (wX6_manyBars_57 (fun v3 v4 v5 σ hd h => ih v3 v4 v5 σ hd h) nt_d_0_7 nt_d_1 nt_d_11 nt_d_2 nt_d_3 nt_d_4 nt_d_5 nt_d_7_10_r nh_1_4 nh_1_5 nh_1_6 nh_1_7 nh_1_8 nh_1_9 ((congrFun (congrFun f.2.2 1) 3).trans hd) h)
    · exact sm_t f (wX6_manyBars_82 nt_d_0_7 nt_d_1 nt_d_11 nt_d_2 nt_d_3 nt_d_4 nt_d_5 nt_d_7_10_r nh_1_4 nh_1_5 nh_1_6 nh_1_7 nh_1_8 nh_1_9 ((congrFun (congrFun f.2.2 1) 3).trans hd) h)
set_option maxRecDepth 10000 in
theorem wX6_manyBars {x y d : Nat} {p1 : Int32} {p2 : Int32} {r : Unit} {σ' : gS} {σ : gS} (nt_d_0_7 : ¬ (x = d + 0 ∧ y = 7)) (nt_d_1 : ¬ x = d + 1) (nt_d_11 : ¬ x = d + 11) (nt_d_2 : ¬ x = d + 2) (nt_d_3 : ¬ x = d + 3) (nt_d_4 : ¬ x = d + 4) (nt_d_5 : ¬ x = d + 5) (nt_d_7_10_r : ¬ (d + 7 ≤ x ∧ x ≤ d + 10)) (nh_1_4 : ¬ (x = 1 ∧ y = 4)) (nh_1_5 : ¬ (x = 1 ∧ y = 5)) (nh_1_6 : ¬ (x = 1 ∧ y = 6)) (nh_1_7 : ¬ (x = 1 ∧ y = 7)) (nh_1_8 : ¬ (x = 1 ∧ y = 8)) (nh_1_9 : ¬ (x = 1 ∧ y = 9)) (hd : σ.2.2 1 3 = d) (h : fX6_manyBars p1 p2 σ = some (r, σ')) : sm σ σ' x y := by
  unfold fX6_manyBars at h
  have f := sm_r σ x y
  obtain ⟨x1, σ2, y3, h⟩ := bd_some h
  have f := sm_t f (wX6_knownName nh_1_4 nh_1_5 nh_1_6 nh_1_7 nh_1_8 nh_1_9 y3)
  exact sm_t f (wX6_manyBars_12 nt_d_0_7 nt_d_1 nt_d_11 nt_d_2 nt_d_3 nt_d_4 nt_d_5 nt_d_7_10_r nh_1_4 nh_1_5 nh_1_6 nh_1_7 nh_1_8 nh_1_9 2000 x1 x1 1 σ2 ((congrFun (congrFun f.2.2 1) 3).trans hd) h)
set_option maxRecDepth 10000 in
theorem wX6_expectWord_32 {x y : Nat} {p1 : Int32} {r : Unit} {σ' : gS} {σ : gS} (nh_1_4 : ¬ (x = 1 ∧ y = 4)) (nh_1_5 : ¬ (x = 1 ∧ y = 5)) (nh_1_6 : ¬ (x = 1 ∧ y = 6)) (nh_1_7 : ¬ (x = 1 ∧ y = 7)) (nh_1_8 : ¬ (x = 1 ∧ y = 8)) (nh_1_9 : ¬ (x = 1 ∧ y = 9)) (h : fX6_expectWord_32 p1 σ = some (r, σ')) : sm σ σ' x y := by
  unfold fX6_expectWord_32 at h
  have f := sm_r σ x y
  obtain ⟨-, rfl⟩ := so_inj h
  exact f
set_option maxRecDepth 10000 in
theorem wX6_expectWord_28 {x y : Nat} {p1 : Int32} {r : Unit} {σ' : gS} {σ : gS} (nh_1_4 : ¬ (x = 1 ∧ y = 4)) (nh_1_5 : ¬ (x = 1 ∧ y = 5)) (nh_1_6 : ¬ (x = 1 ∧ y = 6)) (nh_1_7 : ¬ (x = 1 ∧ y = 7)) (nh_1_8 : ¬ (x = 1 ∧ y = 8)) (nh_1_9 : ¬ (x = 1 ∧ y = 9)) (h : fX6_expectWord_28 p1 σ = some (r, σ')) : sm σ σ' x y := by
  unfold fX6_expectWord_28 at h
  have f := sm_r σ x y
  obtain ⟨_, σ1, y2, h⟩ := bd_some h
  have f := sm_t f (wX6_failUnfit nh_1_8 nh_1_9 y2)
  exact sm_t f (wX6_expectWord_32 nh_1_4 nh_1_5 nh_1_6 nh_1_7 nh_1_8 nh_1_9 h)
set_option maxRecDepth 10000 in
theorem wX6_expectWord {x y : Nat} {p1 : Int32} {r : Unit} {σ' : gS} {σ : gS} (nh_1_4 : ¬ (x = 1 ∧ y = 4)) (nh_1_5 : ¬ (x = 1 ∧ y = 5)) (nh_1_6 : ¬ (x = 1 ∧ y = 6)) (nh_1_7 : ¬ (x = 1 ∧ y = 7)) (nh_1_8 : ¬ (x = 1 ∧ y = 8)) (nh_1_9 : ¬ (x = 1 ∧ y = 9)) (h : fX6_expectWord p1 σ = some (r, σ')) : sm σ σ' x y := by
  unfold fX6_expectWord at h
  have f := sm_r σ x y
  rcases ite_or h with ⟨_, h⟩ | ⟨_, h⟩
  · obtain ⟨_, σ2, y3, h⟩ := bd_some h
    have f := sm_t f (wX6_next nh_1_4 nh_1_5 nh_1_6 nh_1_7 y3)
    rcases ite_or h with ⟨_, h⟩ | ⟨_, h⟩
    · rcases ite_or h with ⟨_, h⟩ | ⟨_, h⟩
      · exact sm_t f (wX6_expectWord_32 nh_1_4 nh_1_5 nh_1_6 nh_1_7 nh_1_8 nh_1_9 h)
      · exact sm_t f (wX6_expectWord_28 nh_1_4 nh_1_5 nh_1_6 nh_1_7 nh_1_8 nh_1_9 h)
    · exact sm_t f (wX6_expectWord_28 nh_1_4 nh_1_5 nh_1_6 nh_1_7 nh_1_8 nh_1_9 h)
  · obtain ⟨-, rfl⟩ := so_inj h
    exact f
set_option maxRecDepth 10000 in
theorem wX6_wheel_49 {x y d : Nat} {r : Unit} {σ' : gS} {σ : gS} (nt_d_0_7 : ¬ (x = d + 0 ∧ y = 7)) (nt_d_1 : ¬ x = d + 1) (nt_d_11 : ¬ x = d + 11) (nt_d_2 : ¬ x = d + 2) (nt_d_3 : ¬ x = d + 3) (nt_d_4 : ¬ x = d + 4) (nt_d_5 : ¬ x = d + 5) (nt_d_7_10_r : ¬ (d + 7 ≤ x ∧ x ≤ d + 10)) (nh_1_4 : ¬ (x = 1 ∧ y = 4)) (nh_1_5 : ¬ (x = 1 ∧ y = 5)) (nh_1_6 : ¬ (x = 1 ∧ y = 6)) (nh_1_7 : ¬ (x = 1 ∧ y = 7)) (nh_1_8 : ¬ (x = 1 ∧ y = 8)) (nh_1_9 : ¬ (x = 1 ∧ y = 9)) (hd : σ.2.2 1 3 = d) (h : fX6_wheel_49 σ = some (r, σ')) : sm σ σ' x y := by
  unfold fX6_wheel_49 at h
  have f := sm_r σ x y
  obtain ⟨-, rfl⟩ := so_inj h
  exact f
set_option maxRecDepth 10000 in
theorem wX6_wheel {x y d : Nat} {r : Unit} {σ' : gS} {σ : gS} (nt_d_0_7 : ¬ (x = d + 0 ∧ y = 7)) (nt_d_1 : ¬ x = d + 1) (nt_d_11 : ¬ x = d + 11) (nt_d_2 : ¬ x = d + 2) (nt_d_3 : ¬ x = d + 3) (nt_d_4 : ¬ x = d + 4) (nt_d_5 : ¬ x = d + 5) (nt_d_7_10_r : ¬ (d + 7 ≤ x ∧ x ≤ d + 10)) (nh_1_4 : ¬ (x = 1 ∧ y = 4)) (nh_1_5 : ¬ (x = 1 ∧ y = 5)) (nh_1_6 : ¬ (x = 1 ∧ y = 6)) (nh_1_7 : ¬ (x = 1 ∧ y = 7)) (nh_1_8 : ¬ (x = 1 ∧ y = 8)) (nh_1_9 : ¬ (x = 1 ∧ y = 9)) (hd : σ.2.2 1 3 = d) (h : fX6_wheel σ = some (r, σ')) : sm σ σ' x y := by
  unfold fX6_wheel at h
  have f := sm_r σ x y
  obtain ⟨x1, σ2, y3, h⟩ := bd_some h
  have f := sm_t f (wX6_newName nh_1_4 nh_1_5 nh_1_6 nh_1_7 nh_1_8 nh_1_9 y3)
  obtain ⟨_, σ4, y5, h⟩ := bd_some h
  have f := sm_t f (wX6_expectWord nh_1_4 nh_1_5 nh_1_6 nh_1_7 nh_1_8 nh_1_9 y5)
  obtain ⟨x6, σ7, y8, h⟩ := bd_some h
  have f := sm_t f (wX6_knownName nh_1_4 nh_1_5 nh_1_6 nh_1_7 nh_1_8 nh_1_9 y8)
  obtain ⟨x9, σ10, y11, h⟩ := bd_some h
  have f := sm_t f (wX6_number nh_1_4 nh_1_5 nh_1_6 nh_1_7 nh_1_8 nh_1_9 y11)
  obtain ⟨_, σ12, y13, h⟩ := bd_some h
  have f := sm_t f (wX6_expectSign nh_1_4 nh_1_5 nh_1_6 nh_1_7 nh_1_8 nh_1_9 y13)
  rcases ite_or h with ⟨_, h⟩ | ⟨_, h⟩
  · obtain ⟨x15, ex15, h⟩ := bnd_nm h
    have dx15 := ex15.trans ((congrFun (congrFun f.2.2 1) 3).trans hd)
    obtain ⟨g16, h⟩ := gg_some h
    obtain ⟨_, σ17, y18, h⟩ := bd_some h
    have f := sm_t f (wX3_add (fun q => nt_d_0_7 (dx15 ▸ q)) (fun q => nt_d_1 (dx15 ▸ q)) (fun q => nt_d_11 (dx15 ▸ q)) (fun q => nt_d_2 (dx15 ▸ q)) (fun q => nt_d_3 (dx15 ▸ q)) (fun q => nt_d_4 (dx15 ▸ q)) (fun q => nt_d_5 (dx15 ▸ q)) (fun q => nt_d_7_10_r (dx15 ▸ q)) y18)
    exact sm_t f (wX6_wheel_49 nt_d_0_7 nt_d_1 nt_d_11 nt_d_2 nt_d_3 nt_d_4 nt_d_5 nt_d_7_10_r nh_1_4 nh_1_5 nh_1_6 nh_1_7 nh_1_8 nh_1_9 ((congrFun (congrFun f.2.2 1) 3).trans hd) h)
  · exact sm_t f (wX6_wheel_49 nt_d_0_7 nt_d_1 nt_d_11 nt_d_2 nt_d_3 nt_d_4 nt_d_5 nt_d_7_10_r nh_1_4 nh_1_5 nh_1_6 nh_1_7 nh_1_8 nh_1_9 ((congrFun (congrFun f.2.2 1) 3).trans hd) h)
set_option maxRecDepth 10000 in
theorem wX6_coupling_91 {x y d : Nat} {p1 : Int32} {r : Unit} {σ' : gS} {σ : gS} (nt_d_0_7 : ¬ (x = d + 0 ∧ y = 7)) (nt_d_1 : ¬ x = d + 1) (nt_d_11 : ¬ x = d + 11) (nt_d_2 : ¬ x = d + 2) (nt_d_3 : ¬ x = d + 3) (nt_d_4 : ¬ x = d + 4) (nt_d_5 : ¬ x = d + 5) (nt_d_7_10_r : ¬ (d + 7 ≤ x ∧ x ≤ d + 10)) (nh_1_4 : ¬ (x = 1 ∧ y = 4)) (nh_1_5 : ¬ (x = 1 ∧ y = 5)) (nh_1_6 : ¬ (x = 1 ∧ y = 6)) (nh_1_7 : ¬ (x = 1 ∧ y = 7)) (nh_1_8 : ¬ (x = 1 ∧ y = 8)) (nh_1_9 : ¬ (x = 1 ∧ y = 9)) (hd : σ.2.2 1 3 = d) (h : fX6_coupling_91 p1 σ = some (r, σ')) : sm σ σ' x y := by
  unfold fX6_coupling_91 at h
  have f := sm_r σ x y
  obtain ⟨_, σ1, y2, h⟩ := bd_some h
  have f := sm_t f (wX6_expectSign nh_1_4 nh_1_5 nh_1_6 nh_1_7 nh_1_8 nh_1_9 y2)
  obtain ⟨-, rfl⟩ := so_inj h
  exact f
set_option maxRecDepth 10000 in
theorem wX6_coupling_71 {x y d : Nat} {p1 : Int32} {r : Unit} {σ' : gS} {σ : gS} (nt_d_0_7 : ¬ (x = d + 0 ∧ y = 7)) (nt_d_1 : ¬ x = d + 1) (nt_d_11 : ¬ x = d + 11) (nt_d_2 : ¬ x = d + 2) (nt_d_3 : ¬ x = d + 3) (nt_d_4 : ¬ x = d + 4) (nt_d_5 : ¬ x = d + 5) (nt_d_7_10_r : ¬ (d + 7 ≤ x ∧ x ≤ d + 10)) (nh_1_4 : ¬ (x = 1 ∧ y = 4)) (nh_1_5 : ¬ (x = 1 ∧ y = 5)) (nh_1_6 : ¬ (x = 1 ∧ y = 6)) (nh_1_7 : ¬ (x = 1 ∧ y = 7)) (nh_1_8 : ¬ (x = 1 ∧ y = 8)) (nh_1_9 : ¬ (x = 1 ∧ y = 9)) (hd : σ.2.2 1 3 = d) (h : fX6_coupling_71 p1 σ = some (r, σ')) : sm σ σ' x y := by
  unfold fX6_coupling_71 at h
  have f := sm_r σ x y
  obtain ⟨_, σ1, y2, h⟩ := bd_some h
  have f := sm_t f (wX6_fail nh_1_8 nh_1_9 y2)
  exact sm_t f (wX6_coupling_91 nt_d_0_7 nt_d_1 nt_d_11 nt_d_2 nt_d_3 nt_d_4 nt_d_5 nt_d_7_10_r nh_1_4 nh_1_5 nh_1_6 nh_1_7 nh_1_8 nh_1_9 ((congrFun (congrFun f.2.2 1) 3).trans hd) h)
set_option maxRecDepth 10000 in
theorem wX6_coupling_80 {x y d : Nat} {p1 : Int32} {r : Unit} {σ' : gS} {v2 : Int32} {v3 : Int32} {σ : gS} (nt_d_0_7 : ¬ (x = d + 0 ∧ y = 7)) (nt_d_1 : ¬ x = d + 1) (nt_d_11 : ¬ x = d + 11) (nt_d_2 : ¬ x = d + 2) (nt_d_3 : ¬ x = d + 3) (nt_d_4 : ¬ x = d + 4) (nt_d_5 : ¬ x = d + 5) (nt_d_7_10_r : ¬ (d + 7 ≤ x ∧ x ≤ d + 10)) (nh_1_4 : ¬ (x = 1 ∧ y = 4)) (nh_1_5 : ¬ (x = 1 ∧ y = 5)) (nh_1_6 : ¬ (x = 1 ∧ y = 6)) (nh_1_7 : ¬ (x = 1 ∧ y = 7)) (nh_1_8 : ¬ (x = 1 ∧ y = 8)) (nh_1_9 : ¬ (x = 1 ∧ y = 9)) (hd : σ.2.2 1 3 = d) (h : fX6_coupling_80 p1 v2 v3 σ = some (r, σ')) : sm σ σ' x y := by
  unfold fX6_coupling_80 at h
  have f := sm_r σ x y
  obtain ⟨x1, ex1, h⟩ := bnd_nm h
  have dx1 := ex1.trans ((congrFun (congrFun f.2.2 1) 3).trans hd)
  obtain ⟨g2, h⟩ := gg_some h
  obtain ⟨_, σ3, y4, h⟩ := bd_some h
  have f := sm_t f (wX3_add (fun q => nt_d_0_7 (dx1 ▸ q)) (fun q => nt_d_1 (dx1 ▸ q)) (fun q => nt_d_11 (dx1 ▸ q)) (fun q => nt_d_2 (dx1 ▸ q)) (fun q => nt_d_3 (dx1 ▸ q)) (fun q => nt_d_4 (dx1 ▸ q)) (fun q => nt_d_5 (dx1 ▸ q)) (fun q => nt_d_7_10_r (dx1 ▸ q)) y4)
  exact sm_t f (wX6_coupling_91 nt_d_0_7 nt_d_1 nt_d_11 nt_d_2 nt_d_3 nt_d_4 nt_d_5 nt_d_7_10_r nh_1_4 nh_1_5 nh_1_6 nh_1_7 nh_1_8 nh_1_9 ((congrFun (congrFun f.2.2 1) 3).trans hd) h)
set_option maxRecDepth 10000 in
theorem wX6_coupling {x y d : Nat} {p1 : Int32} {r : Unit} {σ' : gS} {σ : gS} (nt_d_0_7 : ¬ (x = d + 0 ∧ y = 7)) (nt_d_1 : ¬ x = d + 1) (nt_d_11 : ¬ x = d + 11) (nt_d_2 : ¬ x = d + 2) (nt_d_3 : ¬ x = d + 3) (nt_d_4 : ¬ x = d + 4) (nt_d_5 : ¬ x = d + 5) (nt_d_7_10_r : ¬ (d + 7 ≤ x ∧ x ≤ d + 10)) (nh_1_4 : ¬ (x = 1 ∧ y = 4)) (nh_1_5 : ¬ (x = 1 ∧ y = 5)) (nh_1_6 : ¬ (x = 1 ∧ y = 6)) (nh_1_7 : ¬ (x = 1 ∧ y = 7)) (nh_1_8 : ¬ (x = 1 ∧ y = 8)) (nh_1_9 : ¬ (x = 1 ∧ y = 9)) (hd : σ.2.2 1 3 = d) (h : fX6_coupling p1 σ = some (r, σ')) : sm σ σ' x y := by
  unfold fX6_coupling at h
  have f := sm_r σ x y
  obtain ⟨x1, σ2, y3, h⟩ := bd_some h
  have f := sm_t f (wX6_knownName nh_1_4 nh_1_5 nh_1_6 nh_1_7 nh_1_8 nh_1_9 y3)
  obtain ⟨x4, σ5, y6, h⟩ := bd_some h
  have f := sm_t f (wX6_knownName nh_1_4 nh_1_5 nh_1_6 nh_1_7 nh_1_8 nh_1_9 y6)
  rcases ite_or h with ⟨_, h⟩ | ⟨_, h⟩
  · obtain ⟨x8, ex8, h⟩ := bnd_nm h
    have dx8 := ex8.trans ((congrFun (congrFun f.2.2 1) 3).trans hd)
    obtain ⟨g9, h⟩ := gg_some h
    obtain ⟨x10, σ11, y12, h⟩ := bd_some h
    have f := sm_t f (wX3_isFull y12)
    rcases ite_or h with ⟨_, h⟩ | ⟨_, h⟩
    · rcases ite_or h with ⟨_, h⟩ | ⟨_, h⟩
      · exact sm_t f (wX6_coupling_71 nt_d_0_7 nt_d_1 nt_d_11 nt_d_2 nt_d_3 nt_d_4 nt_d_5 nt_d_7_10_r nh_1_4 nh_1_5 nh_1_6 nh_1_7 nh_1_8 nh_1_9 ((congrFun (congrFun f.2.2 1) 3).trans hd) h)
      · rcases ite_or h with ⟨_, h⟩ | ⟨_, h⟩
        · obtain ⟨x16, ex16, h⟩ := bnd_nm h
          have dx16 := ex16.trans ((congrFun (congrFun f.2.2 1) 3).trans hd)
          obtain ⟨g17, h⟩ := gg_some h
          obtain ⟨x18, σ19, y20, h⟩ := bd_some h
          have f := sm_t f (wX3_firstOf y20)
          obtain ⟨x21, ex21, h⟩ := bnd_nm h
          have dx21 := ex21.trans ((congrFun (congrFun f.2.2 1) 3).trans hd)
          obtain ⟨g22, h⟩ := gg_some h
          obtain ⟨x23, σ24, y25, h⟩ := bd_some h
          have f := sm_t f (wX3_firstOf y25)
          rcases ite_or h with ⟨_, h⟩ | ⟨_, h⟩
          · exact sm_t f (wX6_coupling_71 nt_d_0_7 nt_d_1 nt_d_11 nt_d_2 nt_d_3 nt_d_4 nt_d_5 nt_d_7_10_r nh_1_4 nh_1_5 nh_1_6 nh_1_7 nh_1_8 nh_1_9 ((congrFun (congrFun f.2.2 1) 3).trans hd) h)
          · exact sm_t f (wX6_coupling_80 nt_d_0_7 nt_d_1 nt_d_11 nt_d_2 nt_d_3 nt_d_4 nt_d_5 nt_d_7_10_r nh_1_4 nh_1_5 nh_1_6 nh_1_7 nh_1_8 nh_1_9 ((congrFun (congrFun f.2.2 1) 3).trans hd) h)
        · exact sm_t f (wX6_coupling_80 nt_d_0_7 nt_d_1 nt_d_11 nt_d_2 nt_d_3 nt_d_4 nt_d_5 nt_d_7_10_r nh_1_4 nh_1_5 nh_1_6 nh_1_7 nh_1_8 nh_1_9 ((congrFun (congrFun f.2.2 1) 3).trans hd) h)
    · obtain ⟨_, σ27, y28, h⟩ := bd_some h
      have f := sm_t f (wX6_fail nh_1_8 nh_1_9 y28)
      exact sm_t f (wX6_coupling_91 nt_d_0_7 nt_d_1 nt_d_11 nt_d_2 nt_d_3 nt_d_4 nt_d_5 nt_d_7_10_r nh_1_4 nh_1_5 nh_1_6 nh_1_7 nh_1_8 nh_1_9 ((congrFun (congrFun f.2.2 1) 3).trans hd) h)
  · obtain ⟨-, rfl⟩ := so_inj h
    exact f
set_option maxRecDepth 10000 in
theorem wX6_drive_72 {x y d : Nat} {r : Unit} {σ' : gS} {σ : gS} (nt_d_0_8 : ¬ (x = d + 0 ∧ y = 8)) (nt_d_0_9 : ¬ (x = d + 0 ∧ y = 9)) (nh_1_4 : ¬ (x = 1 ∧ y = 4)) (nh_1_5 : ¬ (x = 1 ∧ y = 5)) (nh_1_6 : ¬ (x = 1 ∧ y = 6)) (nh_1_7 : ¬ (x = 1 ∧ y = 7)) (nh_1_8 : ¬ (x = 1 ∧ y = 8)) (nh_1_9 : ¬ (x = 1 ∧ y = 9)) (hd : σ.2.2 1 3 = d) (h : fX6_drive_72 σ = some (r, σ')) : sm σ σ' x y := by
  unfold fX6_drive_72 at h
  have f := sm_r σ x y
  obtain ⟨_, σ1, y2, h⟩ := bd_some h
  have f := sm_t f (wX6_fail nh_1_8 nh_1_9 y2)
  obtain ⟨-, rfl⟩ := so_inj h
  exact f
set_option maxRecDepth 10000 in
theorem wX6_drive {x y d : Nat} {r : Unit} {σ' : gS} {σ : gS} (nt_d_0_8 : ¬ (x = d + 0 ∧ y = 8)) (nt_d_0_9 : ¬ (x = d + 0 ∧ y = 9)) (nh_1_4 : ¬ (x = 1 ∧ y = 4)) (nh_1_5 : ¬ (x = 1 ∧ y = 5)) (nh_1_6 : ¬ (x = 1 ∧ y = 6)) (nh_1_7 : ¬ (x = 1 ∧ y = 7)) (nh_1_8 : ¬ (x = 1 ∧ y = 8)) (nh_1_9 : ¬ (x = 1 ∧ y = 9)) (hd : σ.2.2 1 3 = d) (h : fX6_drive σ = some (r, σ')) : sm σ σ' x y := by
  unfold fX6_drive at h
  have f := sm_r σ x y
  obtain ⟨x1, σ2, y3, h⟩ := bd_some h
  have f := sm_t f (wX6_knownName nh_1_4 nh_1_5 nh_1_6 nh_1_7 nh_1_8 nh_1_9 y3)
  obtain ⟨_, σ4, y5, h⟩ := bd_some h
  have f := sm_t f (wX6_expectWord nh_1_4 nh_1_5 nh_1_6 nh_1_7 nh_1_8 nh_1_9 y5)
  obtain ⟨x6, σ7, y8, h⟩ := bd_some h
  have f := sm_t f (wX6_knownName nh_1_4 nh_1_5 nh_1_6 nh_1_7 nh_1_8 nh_1_9 y8)
  rcases ite_or h with ⟨_, h⟩ | ⟨_, h⟩
  · obtain ⟨x10, ex10, h⟩ := bnd_nm h
    have dx10 := ex10.trans ((congrFun (congrFun f.2.2 1) 3).trans hd)
    obtain ⟨g11, h⟩ := gg_some h
    obtain ⟨x12, σ13, y14, h⟩ := bd_some h
    have f := sm_t f (wX3_isGround y14)
    rcases ite_or h with ⟨_, h⟩ | ⟨_, h⟩
    · exact sm_t f (wX6_drive_72 nt_d_0_8 nt_d_0_9 nh_1_4 nh_1_5 nh_1_6 nh_1_7 nh_1_8 nh_1_9 ((congrFun (congrFun f.2.2 1) 3).trans hd) h)
    · obtain ⟨x16, ex16, h⟩ := bnd_nm h
      have dx16 := ex16.trans ((congrFun (congrFun f.2.2 1) 3).trans hd)
      obtain ⟨g17, h⟩ := gg_some h
      obtain ⟨x18, σ19, y20, h⟩ := bd_some h
      have f := sm_t f (wX3_isGround y20)
      rcases ite_or h with ⟨_, h⟩ | ⟨_, h⟩
      · obtain ⟨x22, ex22, h⟩ := bnd_nm h
        have dx22 := ex22.trans ((congrFun (congrFun f.2.2 1) 3).trans hd)
        obtain ⟨g23, h⟩ := gg_some h
        obtain ⟨x24, σ25, y26, h⟩ := bd_some h
        have f := sm_t f (wX3_hasBar y26)
        rcases ite_or h with ⟨_, h⟩ | ⟨_, h⟩
        · exact sm_t f (wX6_drive_72 nt_d_0_8 nt_d_0_9 nh_1_4 nh_1_5 nh_1_6 nh_1_7 nh_1_8 nh_1_9 ((congrFun (congrFun f.2.2 1) 3).trans hd) h)
        · obtain ⟨x28, ex28, h⟩ := bnd_nm h
          have dx28 := ex28.trans ((congrFun (congrFun f.2.2 1) 3).trans hd)
          obtain ⟨g29, h⟩ := gg_some h
          rcases ite_or h with ⟨_, h⟩ | ⟨_, h⟩
          · obtain ⟨x31, ex31, h⟩ := bnd_nm h
            have dx31 := ex31.trans ((congrFun (congrFun f.2.2 1) 3).trans hd)
            obtain ⟨g32, h⟩ := gg_some h
            obtain ⟨σ33, eσ33, h⟩ := bnd_nm h
            have f := sm_I f (fun q => nt_d_0_8 (dx31 ▸ q)) eσ33
            obtain ⟨x34, ex34, h⟩ := bnd_nm h
            have dx34 := ex34.trans ((congrFun (congrFun f.2.2 1) 3).trans hd)
            obtain ⟨g35, h⟩ := gg_some h
            obtain ⟨σ36, eσ36, h⟩ := bnd_nm h
            have f := sm_I f (fun q => nt_d_0_9 (dx34 ▸ q)) eσ36
            obtain ⟨_, σ37, y38, h⟩ := bd_some h
            have f := sm_t f (wX6_expectSign nh_1_4 nh_1_5 nh_1_6 nh_1_7 nh_1_8 nh_1_9 y38)
            obtain ⟨-, rfl⟩ := so_inj h
            exact f
          · exact sm_t f (wX6_drive_72 nt_d_0_8 nt_d_0_9 nh_1_4 nh_1_5 nh_1_6 nh_1_7 nh_1_8 nh_1_9 ((congrFun (congrFun f.2.2 1) 3).trans hd) h)
      · exact sm_t f (wX6_drive_72 nt_d_0_8 nt_d_0_9 nh_1_4 nh_1_5 nh_1_6 nh_1_7 nh_1_8 nh_1_9 ((congrFun (congrFun f.2.2 1) 3).trans hd) h)
  · obtain ⟨-, rfl⟩ := so_inj h
    exact f
set_option maxRecDepth 10000 in
theorem wX6_statement_160 {x y d : Nat} {r : Unit} {σ' : gS} {σ : gS} (nt_d_0_7 : ¬ (x = d + 0 ∧ y = 7)) (nt_d_0_8 : ¬ (x = d + 0 ∧ y = 8)) (nt_d_0_9 : ¬ (x = d + 0 ∧ y = 9)) (nt_d_1 : ¬ x = d + 1) (nt_d_11 : ¬ x = d + 11) (nt_d_2 : ¬ x = d + 2) (nt_d_3 : ¬ x = d + 3) (nt_d_4 : ¬ x = d + 4) (nt_d_5 : ¬ x = d + 5) (nt_d_7_10_r : ¬ (d + 7 ≤ x ∧ x ≤ d + 10)) (nh_1_4 : ¬ (x = 1 ∧ y = 4)) (nh_1_5 : ¬ (x = 1 ∧ y = 5)) (nh_1_6 : ¬ (x = 1 ∧ y = 6)) (nh_1_7 : ¬ (x = 1 ∧ y = 7)) (nh_1_8 : ¬ (x = 1 ∧ y = 8)) (nh_1_9 : ¬ (x = 1 ∧ y = 9)) (hd : σ.2.2 1 3 = d) (h : fX6_statement_160 σ = some (r, σ')) : sm σ σ' x y := by
  unfold fX6_statement_160 at h
  have f := sm_r σ x y
  obtain ⟨-, rfl⟩ := so_inj h
  exact f
set_option maxRecDepth 10000 in
theorem wX6_statement_156 {x y d : Nat} {r : Unit} {σ' : gS} {σ : gS} (nt_d_0_7 : ¬ (x = d + 0 ∧ y = 7)) (nt_d_0_8 : ¬ (x = d + 0 ∧ y = 8)) (nt_d_0_9 : ¬ (x = d + 0 ∧ y = 9)) (nt_d_1 : ¬ x = d + 1) (nt_d_11 : ¬ x = d + 11) (nt_d_2 : ¬ x = d + 2) (nt_d_3 : ¬ x = d + 3) (nt_d_4 : ¬ x = d + 4) (nt_d_5 : ¬ x = d + 5) (nt_d_7_10_r : ¬ (d + 7 ≤ x ∧ x ≤ d + 10)) (nh_1_4 : ¬ (x = 1 ∧ y = 4)) (nh_1_5 : ¬ (x = 1 ∧ y = 5)) (nh_1_6 : ¬ (x = 1 ∧ y = 6)) (nh_1_7 : ¬ (x = 1 ∧ y = 7)) (nh_1_8 : ¬ (x = 1 ∧ y = 8)) (nh_1_9 : ¬ (x = 1 ∧ y = 9)) (hd : σ.2.2 1 3 = d) (h : fX6_statement_156 σ = some (r, σ')) : sm σ σ' x y := by
  unfold fX6_statement_156 at h
  have f := sm_r σ x y
  obtain ⟨_, σ1, y2, h⟩ := bd_some h
  have f := sm_t f (wX6_failUnfit nh_1_8 nh_1_9 y2)
  exact sm_t f (wX6_statement_160 nt_d_0_7 nt_d_0_8 nt_d_0_9 nt_d_1 nt_d_11 nt_d_2 nt_d_3 nt_d_4 nt_d_5 nt_d_7_10_r nh_1_4 nh_1_5 nh_1_6 nh_1_7 nh_1_8 nh_1_9 ((congrFun (congrFun f.2.2 1) 3).trans hd) h)
set_option maxRecDepth 10000 in
theorem wX6_statement {x y d : Nat} {r : Unit} {σ' : gS} {σ : gS} (nt_d_0_7 : ¬ (x = d + 0 ∧ y = 7)) (nt_d_0_8 : ¬ (x = d + 0 ∧ y = 8)) (nt_d_0_9 : ¬ (x = d + 0 ∧ y = 9)) (nt_d_1 : ¬ x = d + 1) (nt_d_11 : ¬ x = d + 11) (nt_d_2 : ¬ x = d + 2) (nt_d_3 : ¬ x = d + 3) (nt_d_4 : ¬ x = d + 4) (nt_d_5 : ¬ x = d + 5) (nt_d_7_10_r : ¬ (d + 7 ≤ x ∧ x ≤ d + 10)) (nh_1_4 : ¬ (x = 1 ∧ y = 4)) (nh_1_5 : ¬ (x = 1 ∧ y = 5)) (nh_1_6 : ¬ (x = 1 ∧ y = 6)) (nh_1_7 : ¬ (x = 1 ∧ y = 7)) (nh_1_8 : ¬ (x = 1 ∧ y = 8)) (nh_1_9 : ¬ (x = 1 ∧ y = 9)) (hd : σ.2.2 1 3 = d) (h : fX6_statement σ = some (r, σ')) : sm σ σ' x y := by
  unfold fX6_statement at h
  have f := sm_r σ x y
  rcases ite_or h with ⟨_, h⟩ | ⟨_, h⟩
  · rcases ite_or h with ⟨_, h⟩ | ⟨_, h⟩
    · obtain ⟨_, σ3, y4, h⟩ := bd_some h
      have f := sm_t f (wX6_joint nt_d_0_7 nt_d_1 nt_d_11 nt_d_2 nt_d_3 nt_d_4 nt_d_5 nt_d_7_10_r nh_1_4 nh_1_5 nh_1_6 nh_1_7 nh_1_8 nh_1_9 ((congrFun (congrFun f.2.2 1) 3).trans hd) y4)
      exact sm_t f (wX6_statement_160 nt_d_0_7 nt_d_0_8 nt_d_0_9 nt_d_1 nt_d_11 nt_d_2 nt_d_3 nt_d_4 nt_d_5 nt_d_7_10_r nh_1_4 nh_1_5 nh_1_6 nh_1_7 nh_1_8 nh_1_9 ((congrFun (congrFun f.2.2 1) 3).trans hd) h)
    ·
      rcases ite_or h with ⟨_, h⟩ | ⟨_, h⟩
      · obtain ⟨_, σ6, y7, h⟩ := bd_some h
        have f := sm_t f (wX6_joint nt_d_0_7 nt_d_1 nt_d_11 nt_d_2 nt_d_3 nt_d_4 nt_d_5 nt_d_7_10_r nh_1_4 nh_1_5 nh_1_6 nh_1_7 nh_1_8 nh_1_9 ((congrFun (congrFun f.2.2 1) 3).trans hd) y7)
        exact sm_t f (wX6_statement_160 nt_d_0_7 nt_d_0_8 nt_d_0_9 nt_d_1 nt_d_11 nt_d_2 nt_d_3 nt_d_4 nt_d_5 nt_d_7_10_r nh_1_4 nh_1_5 nh_1_6 nh_1_7 nh_1_8 nh_1_9 ((congrFun (congrFun f.2.2 1) 3).trans hd) h)
      ·
        rcases ite_or h with ⟨_, h⟩ | ⟨_, h⟩
        · obtain ⟨_, σ9, y10, h⟩ := bd_some h
          have f := sm_t f (wX6_oneBar nt_d_0_7 nt_d_1 nt_d_11 nt_d_2 nt_d_3 nt_d_4 nt_d_5 nt_d_7_10_r nh_1_4 nh_1_5 nh_1_6 nh_1_7 nh_1_8 nh_1_9 ((congrFun (congrFun f.2.2 1) 3).trans hd) y10)
          exact sm_t f (wX6_statement_160 nt_d_0_7 nt_d_0_8 nt_d_0_9 nt_d_1 nt_d_11 nt_d_2 nt_d_3 nt_d_4 nt_d_5 nt_d_7_10_r nh_1_4 nh_1_5 nh_1_6 nh_1_7 nh_1_8 nh_1_9 ((congrFun (congrFun f.2.2 1) 3).trans hd) h)
        ·
          rcases ite_or h with ⟨_, h⟩ | ⟨_, h⟩
          · obtain ⟨_, σ12, y13, h⟩ := bd_some h
            have f := sm_t f (wX6_manyBars nt_d_0_7 nt_d_1 nt_d_11 nt_d_2 nt_d_3 nt_d_4 nt_d_5 nt_d_7_10_r nh_1_4 nh_1_5 nh_1_6 nh_1_7 nh_1_8 nh_1_9 ((congrFun (congrFun f.2.2 1) 3).trans hd) y13)
            exact sm_t f (wX6_statement_160 nt_d_0_7 nt_d_0_8 nt_d_0_9 nt_d_1 nt_d_11 nt_d_2 nt_d_3 nt_d_4 nt_d_5 nt_d_7_10_r nh_1_4 nh_1_5 nh_1_6 nh_1_7 nh_1_8 nh_1_9 ((congrFun (congrFun f.2.2 1) 3).trans hd) h)
          ·
            rcases ite_or h with ⟨_, h⟩ | ⟨_, h⟩
            · obtain ⟨_, σ15, y16, h⟩ := bd_some h
              have f := sm_t f (wX6_manyBars nt_d_0_7 nt_d_1 nt_d_11 nt_d_2 nt_d_3 nt_d_4 nt_d_5 nt_d_7_10_r nh_1_4 nh_1_5 nh_1_6 nh_1_7 nh_1_8 nh_1_9 ((congrFun (congrFun f.2.2 1) 3).trans hd) y16)
              exact sm_t f (wX6_statement_160 nt_d_0_7 nt_d_0_8 nt_d_0_9 nt_d_1 nt_d_11 nt_d_2 nt_d_3 nt_d_4 nt_d_5 nt_d_7_10_r nh_1_4 nh_1_5 nh_1_6 nh_1_7 nh_1_8 nh_1_9 ((congrFun (congrFun f.2.2 1) 3).trans hd) h)
            ·
              rcases ite_or h with ⟨_, h⟩ | ⟨_, h⟩
              · obtain ⟨_, σ18, y19, h⟩ := bd_some h
                have f := sm_t f (wX6_wheel nt_d_0_7 nt_d_1 nt_d_11 nt_d_2 nt_d_3 nt_d_4 nt_d_5 nt_d_7_10_r nh_1_4 nh_1_5 nh_1_6 nh_1_7 nh_1_8 nh_1_9 ((congrFun (congrFun f.2.2 1) 3).trans hd) y19)
                exact sm_t f (wX6_statement_160 nt_d_0_7 nt_d_0_8 nt_d_0_9 nt_d_1 nt_d_11 nt_d_2 nt_d_3 nt_d_4 nt_d_5 nt_d_7_10_r nh_1_4 nh_1_5 nh_1_6 nh_1_7 nh_1_8 nh_1_9 ((congrFun (congrFun f.2.2 1) 3).trans hd) h)
              ·
                rcases ite_or h with ⟨_, h⟩ | ⟨_, h⟩
                · exact sm_t f (wX6_statement_156 nt_d_0_7 nt_d_0_8 nt_d_0_9 nt_d_1 nt_d_11 nt_d_2 nt_d_3 nt_d_4 nt_d_5 nt_d_7_10_r nh_1_4 nh_1_5 nh_1_6 nh_1_7 nh_1_8 nh_1_9 ((congrFun (congrFun f.2.2 1) 3).trans hd) h)
                ·
                  rcases ite_or h with ⟨_, h⟩ | ⟨_, h⟩
                  · obtain ⟨_, σ22, y23, h⟩ := bd_some h
                    have f := sm_t f (wX6_coupling nt_d_0_7 nt_d_1 nt_d_11 nt_d_2 nt_d_3 nt_d_4 nt_d_5 nt_d_7_10_r nh_1_4 nh_1_5 nh_1_6 nh_1_7 nh_1_8 nh_1_9 ((congrFun (congrFun f.2.2 1) 3).trans hd) y23)
                    exact sm_t f (wX6_statement_160 nt_d_0_7 nt_d_0_8 nt_d_0_9 nt_d_1 nt_d_11 nt_d_2 nt_d_3 nt_d_4 nt_d_5 nt_d_7_10_r nh_1_4 nh_1_5 nh_1_6 nh_1_7 nh_1_8 nh_1_9 ((congrFun (congrFun f.2.2 1) 3).trans hd) h)
                  ·
                    rcases ite_or h with ⟨_, h⟩ | ⟨_, h⟩
                    · obtain ⟨_, σ25, y26, h⟩ := bd_some h
                      have f := sm_t f (wX6_coupling nt_d_0_7 nt_d_1 nt_d_11 nt_d_2 nt_d_3 nt_d_4 nt_d_5 nt_d_7_10_r nh_1_4 nh_1_5 nh_1_6 nh_1_7 nh_1_8 nh_1_9 ((congrFun (congrFun f.2.2 1) 3).trans hd) y26)
                      exact sm_t f (wX6_statement_160 nt_d_0_7 nt_d_0_8 nt_d_0_9 nt_d_1 nt_d_11 nt_d_2 nt_d_3 nt_d_4 nt_d_5 nt_d_7_10_r nh_1_4 nh_1_5 nh_1_6 nh_1_7 nh_1_8 nh_1_9 ((congrFun (congrFun f.2.2 1) 3).trans hd) h)
                    ·
                      rcases ite_or h with ⟨_, h⟩ | ⟨_, h⟩
                      · obtain ⟨_, σ28, y29, h⟩ := bd_some h
                        have f := sm_t f (wX6_coupling nt_d_0_7 nt_d_1 nt_d_11 nt_d_2 nt_d_3 nt_d_4 nt_d_5 nt_d_7_10_r nh_1_4 nh_1_5 nh_1_6 nh_1_7 nh_1_8 nh_1_9 ((congrFun (congrFun f.2.2 1) 3).trans hd) y29)
                        exact sm_t f (wX6_statement_160 nt_d_0_7 nt_d_0_8 nt_d_0_9 nt_d_1 nt_d_11 nt_d_2 nt_d_3 nt_d_4 nt_d_5 nt_d_7_10_r nh_1_4 nh_1_5 nh_1_6 nh_1_7 nh_1_8 nh_1_9 ((congrFun (congrFun f.2.2 1) 3).trans hd) h)
                      ·
                        rcases ite_or h with ⟨_, h⟩ | ⟨_, h⟩
                        · obtain ⟨_, σ31, y32, h⟩ := bd_some h
                          have f := sm_t f (wX6_drive nt_d_0_8 nt_d_0_9 nh_1_4 nh_1_5 nh_1_6 nh_1_7 nh_1_8 nh_1_9 ((congrFun (congrFun f.2.2 1) 3).trans hd) y32)
                          exact sm_t f (wX6_statement_160 nt_d_0_7 nt_d_0_8 nt_d_0_9 nt_d_1 nt_d_11 nt_d_2 nt_d_3 nt_d_4 nt_d_5 nt_d_7_10_r nh_1_4 nh_1_5 nh_1_6 nh_1_7 nh_1_8 nh_1_9 ((congrFun (congrFun f.2.2 1) 3).trans hd) h)
                        ·
                          exact sm_t f (wX6_statement_156 nt_d_0_7 nt_d_0_8 nt_d_0_9 nt_d_1 nt_d_11 nt_d_2 nt_d_3 nt_d_4 nt_d_5 nt_d_7_10_r nh_1_4 nh_1_5 nh_1_6 nh_1_7 nh_1_8 nh_1_9 ((congrFun (congrFun f.2.2 1) 3).trans hd) h)
  · obtain ⟨_, σ33, y34, h⟩ := bd_some h
    have f := sm_t f (wX6_failUnfit nh_1_8 nh_1_9 y34)
    obtain ⟨-, rfl⟩ := so_inj h
    exact f
set_option maxRecDepth 10000 in
theorem wX6_readTape_63 {x y d : Nat} {r : Int32} {σ' : gS} {σ : gS} (nt_d_0_7 : ¬ (x = d + 0 ∧ y = 7)) (nt_d_0_8 : ¬ (x = d + 0 ∧ y = 8)) (nt_d_0_9 : ¬ (x = d + 0 ∧ y = 9)) (nt_d_1 : ¬ x = d + 1) (nt_d_11 : ¬ x = d + 11) (nt_d_2 : ¬ x = d + 2) (nt_d_3 : ¬ x = d + 3) (nt_d_4 : ¬ x = d + 4) (nt_d_5 : ¬ x = d + 5) (nt_d_7_10_r : ¬ (d + 7 ≤ x ∧ x ≤ d + 10)) (nh_1_1 : ¬ (x = 1 ∧ y = 1)) (nh_1_4 : ¬ (x = 1 ∧ y = 4)) (nh_1_5 : ¬ (x = 1 ∧ y = 5)) (nh_1_6 : ¬ (x = 1 ∧ y = 6)) (nh_1_7 : ¬ (x = 1 ∧ y = 7)) (nh_1_8 : ¬ (x = 1 ∧ y = 8)) (nh_1_9 : ¬ (x = 1 ∧ y = 9)) (hd : σ.2.2 1 3 = d) (h : fX6_readTape_63 σ = some (r, σ')) : sm σ σ' x y := by
  unfold fX6_readTape_63 at h
  have f := sm_r σ x y
  obtain ⟨σ1, eσ1, h⟩ := bnd_nm h
  have f := sm_I f nh_1_1 eσ1
  obtain ⟨-, rfl⟩ := so_inj h
  exact f
set_option maxRecDepth 10000 in
theorem wX6_readTape_25 {x y d : Nat} {r : Int32} {σ' : gS} (nt_d_0_7 : ¬ (x = d + 0 ∧ y = 7)) (nt_d_0_8 : ¬ (x = d + 0 ∧ y = 8)) (nt_d_0_9 : ¬ (x = d + 0 ∧ y = 9)) (nt_d_1 : ¬ x = d + 1) (nt_d_11 : ¬ x = d + 11) (nt_d_2 : ¬ x = d + 2) (nt_d_3 : ¬ x = d + 3) (nt_d_4 : ¬ x = d + 4) (nt_d_5 : ¬ x = d + 5) (nt_d_7_10_r : ¬ (d + 7 ≤ x ∧ x ≤ d + 10)) (nh_1_1 : ¬ (x = 1 ∧ y = 1)) (nh_1_4 : ¬ (x = 1 ∧ y = 4)) (nh_1_5 : ¬ (x = 1 ∧ y = 5)) (nh_1_6 : ¬ (x = 1 ∧ y = 6)) (nh_1_7 : ¬ (x = 1 ∧ y = 7)) (nh_1_8 : ¬ (x = 1 ∧ y = 8)) (nh_1_9 : ¬ (x = 1 ∧ y = 9)) : ∀ (n : Nat) (v1 : Int32) (σ : gS), σ.2.2 1 3 = d → fX6_readTape_25 n v1 σ = some (r, σ') → sm σ σ' x y := by
  intro n
  induction n with
  | zero => intro v1 σ hd h; exact absurd (show none = some (r, σ') from h) (by intro q; cases q)
  | succ n ih =>
  intro v1 σ hd h
  unfold fX6_readTape_25 at h
  have f := sm_r σ x y
  rcases ite_or h with ⟨_, h⟩ | ⟨_, h⟩
  · exact sm_t f (wX6_readTape_63 nt_d_0_7 nt_d_0_8 nt_d_0_9 nt_d_1 nt_d_11 nt_d_2 nt_d_3 nt_d_4 nt_d_5 nt_d_7_10_r nh_1_1 nh_1_4 nh_1_5 nh_1_6 nh_1_7 nh_1_8 nh_1_9 ((congrFun (congrFun f.2.2 1) 3).trans hd) h)
  · rcases ite_or h with ⟨_, h⟩ | ⟨_, h⟩
    · obtain ⟨_, σ3, y4, h⟩ := bd_some h
      have f := sm_t f (wX6_next nh_1_4 nh_1_5 nh_1_6 nh_1_7 y4)
      rcases ite_or h with ⟨_, h⟩ | ⟨_, h⟩
      · exact sm_t f (wX6_readTape_63 nt_d_0_7 nt_d_0_8 nt_d_0_9 nt_d_1 nt_d_11 nt_d_2 nt_d_3 nt_d_4 nt_d_5 nt_d_7_10_r nh_1_1 nh_1_4 nh_1_5 nh_1_6 nh_1_7 nh_1_8 nh_1_9 ((congrFun (congrFun f.2.2 1) 3).trans hd) h)
      · obtain ⟨_, σ6, y7, h⟩ := bd_some h
        have f := sm_t f (wX6_statement nt_d_0_7 nt_d_0_8 nt_d_0_9 nt_d_1 nt_d_11 nt_d_2 nt_d_3 nt_d_4 nt_d_5 nt_d_7_10_r nh_1_4 nh_1_5 nh_1_6 nh_1_7 nh_1_8 nh_1_9 ((congrFun (congrFun f.2.2 1) 3).trans hd) y7)
        obtain ⟨x8, ex8, h⟩ := bnd_nm h
        exact sm_t f (ih x8 σ6 ((congrFun (congrFun f.2.2 1) 3).trans hd) h)
    · exact sm_t f (wX6_readTape_63 nt_d_0_7 nt_d_0_8 nt_d_0_9 nt_d_1 nt_d_11 nt_d_2 nt_d_3 nt_d_4 nt_d_5 nt_d_7_10_r nh_1_1 nh_1_4 nh_1_5 nh_1_6 nh_1_7 nh_1_8 nh_1_9 ((congrFun (congrFun f.2.2 1) 3).trans hd) h)
set_option maxRecDepth 10000 in
theorem wX6_readTape {x y d : Nat} {r : Int32} {σ' : gS} {σ : gS} (nt_d_0_7 : ¬ (x = d + 0 ∧ y = 7)) (nt_d_0_8 : ¬ (x = d + 0 ∧ y = 8)) (nt_d_0_9 : ¬ (x = d + 0 ∧ y = 9)) (nt_d_1 : ¬ x = d + 1) (nt_d_11 : ¬ x = d + 11) (nt_d_2 : ¬ x = d + 2) (nt_d_3 : ¬ x = d + 3) (nt_d_4 : ¬ x = d + 4) (nt_d_5 : ¬ x = d + 5) (nt_d_7_10_r : ¬ (d + 7 ≤ x ∧ x ≤ d + 10)) (nh_1_1 : ¬ (x = 1 ∧ y = 1)) (nh_1_4 : ¬ (x = 1 ∧ y = 4)) (nh_1_5 : ¬ (x = 1 ∧ y = 5)) (nh_1_6 : ¬ (x = 1 ∧ y = 6)) (nh_1_7 : ¬ (x = 1 ∧ y = 7)) (nh_1_8 : ¬ (x = 1 ∧ y = 8)) (nh_1_9 : ¬ (x = 1 ∧ y = 9)) (hd : σ.2.2 1 3 = d) (h : fX6_readTape σ = some (r, σ')) : sm σ σ' x y := by
  unfold fX6_readTape at h
  have f := sm_r σ x y
  obtain ⟨x1, ex1, h⟩ := bnd_nm h
  have dx1 := ex1.trans ((congrFun (congrFun f.2.2 1) 3).trans hd)
  obtain ⟨g2, h⟩ := gg_some h
  obtain ⟨_, σ3, y4, h⟩ := bd_some h
  have f := sm_t f (wX3_clear (fun q => nt_d_0_7 (dx1 ▸ q)) (fun q => nt_d_0_8 (dx1 ▸ q)) (fun q => nt_d_0_9 (dx1 ▸ q)) (fun q => nt_d_11 (dx1 ▸ q)) y4)
  obtain ⟨σ5, eσ5, h⟩ := bnd_nm h
  have f := sm_I f nh_1_4 eσ5
  obtain ⟨σ6, eσ6, h⟩ := bnd_nm h
  have f := sm_I f nh_1_8 eσ6
  obtain ⟨σ7, eσ7, h⟩ := bnd_nm h
  have f := sm_I f nh_1_9 eσ7
  exact sm_t f (wX6_readTape_25 nt_d_0_7 nt_d_0_8 nt_d_0_9 nt_d_1 nt_d_11 nt_d_2 nt_d_3 nt_d_4 nt_d_5 nt_d_7_10_r nh_1_1 nh_1_4 nh_1_5 nh_1_6 nh_1_7 nh_1_8 nh_1_9 2000 0 σ7 ((congrFun (congrFun f.2.2 1) 3).trans hd) h)
set_option maxRecDepth 10000 in
theorem wJ7_fill_d0a16_6 {x y : Nat} {p1 : Nat} {p1n : Nat} {p2 : Int64} {r : Unit} {σ' : gS} (nt_p1_0 : ¬ x = p1 + 0) : ∀ (n : Nat) (v3 : Int32) (v4 : Int32) (σ : gS), fJ7_fill_d0a16_6 p1 p1n p2 n v3 v4 σ = some (r, σ') → sm σ σ' x y := by
  intro n
  induction n with
  | zero => intro v3 v4 σ h; exact absurd (show none = some (r, σ') from h) (by intro q; cases q)
  | succ n ih =>
  intro v3 v4 σ h
  unfold fJ7_fill_d0a16_6 at h
  have f := sm_r σ x y
  rcases ite_or h with ⟨_, h⟩ | ⟨_, h⟩
  · obtain ⟨-, rfl⟩ := so_inj h
    exact f
  · obtain ⟨g2, h⟩ := gg_some h
    obtain ⟨σ3, eσ3, h⟩ := bnd_nm h
    have f := sm_J f (fun q => nt_p1_0 q.1) eσ3
    obtain ⟨x4, ex4, h⟩ := bnd_nm h
    exact sm_t f (ih x4 v4 σ3 h)
set_option maxRecDepth 10000 in
theorem wJ7_fill_d0a16 {x y : Nat} {p1 : Nat} {p1n : Nat} {p2 : Int64} {r : Unit} {σ' : gS} {σ : gS} (nt_p1_0 : ¬ x = p1 + 0) (h : fJ7_fill_d0a16 p1 p1n p2 σ = some (r, σ')) : sm σ σ' x y := by
  unfold fJ7_fill_d0a16 at h
  have f := sm_r σ x y
  obtain ⟨x1, ex1, h⟩ := bnd_nm h
  exact sm_t f (wJ7_fill_d0a16_6 nt_p1_0 2000 0 x1 σ h)
set_option maxRecDepth 10000 in
theorem wX7_renew {x y : Nat} {t : Nat} {p1 : Int32} {p2 : Int32} {r : Unit} {σ' : gS} {σ : gS} (nt_t_0_0 : ¬ (x = t + 0 ∧ y = 0)) (nt_t_0_1 : ¬ (x = t + 0 ∧ y = 1)) (nt_t_0_2 : ¬ (x = t + 0 ∧ y = 2)) (nt_t_1 : ¬ x = t + 1) (h : fX7_renew t p1 p2 σ = some (r, σ')) : sm σ σ' x y := by
  unfold fX7_renew at h
  have f := sm_r σ x y
  obtain ⟨σ1, eσ1, h⟩ := bnd_nm h
  have f := sm_I f nt_t_0_0 eσ1
  obtain ⟨σ2, eσ2, h⟩ := bnd_nm h
  have f := sm_I f nt_t_0_1 eσ2
  obtain ⟨σ3, eσ3, h⟩ := bnd_nm h
  have f := sm_I f nt_t_0_2 eσ3
  obtain ⟨_, σ4, y5, h⟩ := bd_some h
  have f := sm_t f (wJ7_fill_d0a16 nt_t_1 y5)
  obtain ⟨-, rfl⟩ := so_inj h
  exact f
set_option maxRecDepth 10000 in
theorem wX7_cutToLane {x y : Nat} {t : Nat} {p1 : Int64} {r : Int64} {σ' : gS} {σ : gS} (h : fX7_cutToLane t p1 σ = some (r, σ')) : sm σ σ' x y := by
  unfold fX7_cutToLane at h
  have f := sm_r σ x y
  rcases ite_or h with ⟨_, h⟩ | ⟨_, h⟩
  · obtain ⟨-, rfl⟩ := so_inj h
    exact f
  ·
    rcases ite_or h with ⟨_, h⟩ | ⟨_, h⟩
    · obtain ⟨-, rfl⟩ := so_inj h
      exact f
    ·
      rcases ite_or h with ⟨_, h⟩ | ⟨_, h⟩
      · obtain ⟨-, rfl⟩ := so_inj h
        exact f
      ·
        obtain ⟨-, rfl⟩ := so_inj h
        exact f
set_option maxRecDepth 10000 in
theorem wX7_store {x y : Nat} {t : Nat} {p1 : Int32} {p2 : Int64} {r : Int64} {σ' : gS} {σ : gS} (nt_t_1 : ¬ x = t + 1) (h : fX7_store t p1 p2 σ = some (r, σ')) : sm σ σ' x y := by
  unfold fX7_store at h
  have f := sm_r σ x y
  obtain ⟨x1, σ2, y3, h⟩ := bd_some h
  have f := sm_t f (wX7_cutToLane y3)
  obtain ⟨g4, h⟩ := gg_some h
  obtain ⟨σ5, eσ5, h⟩ := bnd_nm h
  have f := sm_J f (fun q => nt_t_1 q.1) eσ5
  obtain ⟨g6, h⟩ := gg_some h
  obtain ⟨-, rfl⟩ := so_inj h
  exact f
set_option maxRecDepth 10000 in
theorem wX7_holds_27 {x y : Nat} {t : Nat} {p1 : Int32} {p2 : Int32} {r : Int32} {σ' : gS} {s0 : Int32} {σ : gS} (h : fX7_holds_27 t p1 p2 s0 σ = some (r, σ')) : sm σ σ' x y := by
  unfold fX7_holds_27 at h
  have f := sm_r σ x y
  obtain ⟨g1, h⟩ := gg_some h
  obtain ⟨-, rfl⟩ := so_inj h
  exact f
set_option maxRecDepth 10000 in
theorem wX7_holds_26 {x y : Nat} {t : Nat} {p1 : Int32} {p2 : Int32} {r : Int32} {σ' : gS} {σ : gS} (h : fX7_holds_26 t p1 p2 σ = some (r, σ')) : sm σ σ' x y := by
  unfold fX7_holds_26 at h
  have f := sm_r σ x y
  exact sm_t f (wX7_holds_27 h)
set_option maxRecDepth 10000 in
theorem wX7_holds {x y : Nat} {t : Nat} {p1 : Int32} {p2 : Int32} {r : Int32} {σ' : gS} {σ : gS} (h : fX7_holds t p1 p2 σ = some (r, σ')) : sm σ σ' x y := by
  unfold fX7_holds at h
  have f := sm_r σ x y
  rcases ite_or h with ⟨_, h⟩ | ⟨_, h⟩
  · exact sm_t f (wX7_holds_26 h)
  · rcases ite_or h with ⟨_, h⟩ | ⟨_, h⟩
    · exact sm_t f (wX7_holds_26 h)
    · rcases ite_or h with ⟨_, h⟩ | ⟨_, h⟩
      · exact sm_t f (wX7_holds_26 h)
      · exact sm_t f (wX7_holds_27 h)
set_option maxRecDepth 10000 in
theorem wX7_mixedInto_30 {x y : Nat} {t : Nat} {p1 : Int64} {r : Int64} {σ' : gS} : ∀ (n : Nat) (v3 : Int64) (v5 : Int32) (σ : gS), fX7_mixedInto_30 t p1 n v3 v5 σ = some (r, σ') → sm σ σ' x y := by
  intro n
  induction n with
  | zero => intro v3 v5 σ h; exact absurd (show none = some (r, σ') from h) (by intro q; cases q)
  | succ n ih =>
  intro v3 v5 σ h
  unfold fX7_mixedInto_30 at h
  have f := sm_r σ x y
  rcases ite_or h with ⟨_, h⟩ | ⟨_, h⟩
  · obtain ⟨-, rfl⟩ := so_inj h
    exact f
  · obtain ⟨g2, h⟩ := gg_some h
    obtain ⟨x3, ex3, h⟩ := bnd_nm h
    obtain ⟨x4, ex4, h⟩ := bnd_nm h
    exact sm_t f (ih x3 x4 σ h)
set_option maxRecDepth 10000 in
theorem wX7_mixedInto {x y : Nat} {t : Nat} {p1 : Int64} {r : Int64} {σ' : gS} {σ : gS} (h : fX7_mixedInto t p1 σ = some (r, σ')) : sm σ σ' x y := by
  unfold fX7_mixedInto at h
  have f := sm_r σ x y
  rcases ite_or h with ⟨_, h⟩ | ⟨_, h⟩
  · obtain ⟨-, rfl⟩ := so_inj h
    exact f
  · obtain ⟨x2, ex2, h⟩ := bnd_nm h
    exact sm_t f (wX7_mixedInto_30 2000 x2 0 σ h)
set_option maxRecDepth 10000 in
theorem wX8_firstToReach_50 {x y : Nat} {p1 : Nat} {k2 : Int32 → gS → Option (Int32 × gS)} {r : Int32} {σ' : gS} {v2 : Int32} {v3 : Int32} {s0 : Int32} {σ : gS} (hk2 : ∀ (v2 : Int32) (σ : gS), k2 v2 σ = some (r, σ') → sm σ σ' x y) (h : fX8_firstToReach_50 p1 k2 v2 v3 s0 σ = some (r, σ')) : sm σ σ' x y := by
  unfold fX8_firstToReach_50 at h
  have f := sm_r σ x y
  rcases ite_or h with ⟨_, h⟩ | ⟨_, h⟩
  · obtain ⟨x2, ex2, h⟩ := bnd_nm h
    exact sm_t f (hk2 x2 σ h)
  · obtain ⟨-, rfl⟩ := so_inj h
    exact f
set_option maxRecDepth 10000 in
theorem wX8_firstToReach_30 {x y : Nat} {p1 : Nat} {k2 : Int32 → gS → Option (Int32 × gS)} {r : Int32} {σ' : gS} {v2 : Int32} {s0 : Int32} {σ : gS} (hk2 : ∀ (v2 : Int32) (σ : gS), k2 v2 σ = some (r, σ') → sm σ σ' x y) (h : fX8_firstToReach_30 p1 k2 v2 s0 σ = some (r, σ')) : sm σ σ' x y := by
  unfold fX8_firstToReach_30 at h
  have f := sm_r σ x y
  obtain ⟨x1, σ2, y3, h⟩ := bd_some h
  have f := sm_t f (wX3_secondOf y3)
  obtain ⟨g4, h⟩ := gg_some h
  rcases ite_or h with ⟨_, h⟩ | ⟨_, h⟩
  · exact sm_t f (wX8_firstToReach_50 hk2 h)
  · exact sm_t f (wX8_firstToReach_50 hk2 h)
set_option maxRecDepth 10000 in
theorem wX8_firstToReach_2 {x y : Nat} {p1 : Nat} {r : Int32} {σ' : gS} : ∀ (n : Nat) (v2 : Int32) (σ : gS), fX8_firstToReach_2 p1 n v2 σ = some (r, σ') → sm σ σ' x y := by
  intro n
  induction n with
  | zero => intro v2 σ h; exact absurd (show none = some (r, σ') from h) (by intro q; cases q)
  | succ n ih =>
  intro v2 σ h
  unfold fX8_firstToReach_2 at h
  have f := sm_r σ x y
  obtain ⟨x1, σ2, y3, h⟩ := bd_some h
  have f := sm_t f (wX3_size y3)
  rcases ite_or h with ⟨_, h⟩ | ⟨_, h⟩
  · obtain ⟨-, rfl⟩ := so_inj h
    exact f
  · obtain ⟨x5, σ6, y7, h⟩ := bd_some h
    have f := sm_t f (wX3_firstOf y7)
    obtain ⟨g8, h⟩ := gg_some h
    rcases ite_or h with ⟨_, h⟩ | ⟨_, h⟩
    · exact sm_t f (wX8_firstToReach_30 (fun v2 σ h => ih v2 σ h) h)
    · exact sm_t f (wX8_firstToReach_30 (fun v2 σ h => ih v2 σ h) h)
set_option maxRecDepth 10000 in
theorem wX8_firstToReach {x y : Nat} {p1 : Nat} {r : Int32} {σ' : gS} {σ : gS} (h : fX8_firstToReach p1 σ = some (r, σ')) : sm σ σ' x y := by
  unfold fX8_firstToReach at h
  have f := sm_r σ x y
  exact sm_t f (wX8_firstToReach_2 2000 0 σ h)
set_option maxRecDepth 10000 in
theorem wJ9_abs_067f4_12 {x y : Nat} {p1 : Int64} {r : Int64} {σ' : gS} {s0 : Int64} {σ : gS} (h : fJ9_abs_067f4_12 p1 s0 σ = some (r, σ')) : sm σ σ' x y := by
  unfold fJ9_abs_067f4_12 at h
  have f := sm_r σ x y
  obtain ⟨-, rfl⟩ := so_inj h
  exact f
set_option maxRecDepth 10000 in
theorem wJ9_abs_067f4 {x y : Nat} {p1 : Int64} {r : Int64} {σ' : gS} {σ : gS} (h : fJ9_abs_067f4 p1 σ = some (r, σ')) : sm σ σ' x y := by
  unfold fJ9_abs_067f4 at h
  have f := sm_r σ x y
  rcases ite_or h with ⟨_, h⟩ | ⟨_, h⟩
  · exact sm_t f (wJ9_abs_067f4_12 h)
  · exact sm_t f (wJ9_abs_067f4_12 h)
set_option maxRecDepth 10000 in
theorem wX8_commonDivisor_44 {x y : Nat} {p1 : Int64} {p2 : Int64} {r : Int64} {σ' : gS} {v4 : Int64} {σ : gS} (h : fX8_commonDivisor_44 p1 p2 v4 σ = some (r, σ')) : sm σ σ' x y := by
  unfold fX8_commonDivisor_44 at h
  have f := sm_r σ x y
  obtain ⟨-, rfl⟩ := so_inj h
  exact f
set_option maxRecDepth 10000 in
theorem wX8_commonDivisor_9 {x y : Nat} {p1 : Int64} {p2 : Int64} {r : Int64} {σ' : gS} : ∀ (n : Nat) (v4 : Int64) (v6 : Int64) (v8 : Int32) (σ : gS), fX8_commonDivisor_9 p1 p2 n v4 v6 v8 σ = some (r, σ') → sm σ σ' x y := by
  intro n
  induction n with
  | zero => intro v4 v6 v8 σ h; exact absurd (show none = some (r, σ') from h) (by intro q; cases q)
  | succ n ih =>
  intro v4 v6 v8 σ h
  unfold fX8_commonDivisor_9 at h
  have f := sm_r σ x y
  rcases ite_or h with ⟨_, h⟩ | ⟨_, h⟩
  · exact sm_t f (wX8_commonDivisor_44 h)
  · rcases ite_or h with ⟨_, h⟩ | ⟨_, h⟩
    · exact sm_t f (wX8_commonDivisor_44 h)
    · obtain ⟨g3, h⟩ := gg_some h
      obtain ⟨x4, ex4, h⟩ := bnd_nm h
      obtain ⟨x5, ex5, h⟩ := bnd_nm h
      exact sm_t f (ih v6 x4 x5 σ h)
set_option maxRecDepth 10000 in
theorem wX8_commonDivisor {x y : Nat} {p1 : Int64} {p2 : Int64} {r : Int64} {σ' : gS} {σ : gS} (h : fX8_commonDivisor p1 p2 σ = some (r, σ')) : sm σ σ' x y := by
  unfold fX8_commonDivisor at h
  have f := sm_r σ x y
  exact sm_t f (wX8_commonDivisor_9 2000 p1 p2 0 σ h)
set_option maxRecDepth 10000 in
theorem wX8_carry_119 {x y : Nat} {p1 : Nat} {p2 : Int32} {p3 : Int32} {p4 : Int32} {r : Unit} {σ' : gS} {σ : gS} (nh_144_4 : ¬ (x = 144 ∧ y = 4)) (nh_144_5 : ¬ (x = 144 ∧ y = 5)) (h : fX8_carry_119 p1 p2 p3 p4 σ = some (r, σ')) : sm σ σ' x y := by
  unfold fX8_carry_119 at h
  have f := sm_r σ x y
  obtain ⟨-, rfl⟩ := so_inj h
  exact f
set_option maxRecDepth 10000 in
theorem wX8_carry_74 {x y : Nat} {p1 : Nat} {p2 : Int32} {p3 : Int32} {p4 : Int32} {r : Unit} {σ' : gS} {σ : gS} (nh_144_4 : ¬ (x = 144 ∧ y = 4)) (nh_144_5 : ¬ (x = 144 ∧ y = 5)) (h : fX8_carry_74 p1 p2 p3 p4 σ = some (r, σ')) : sm σ σ' x y := by
  unfold fX8_carry_74 at h
  have f := sm_r σ x y
  obtain ⟨x1, σ2, y3, h⟩ := bd_some h
  have f := sm_t f (wJ9_abs_067f4 y3)
  obtain ⟨x4, σ5, y6, h⟩ := bd_some h
  have f := sm_t f (wX8_commonDivisor y6)
  rcases ite_or h with ⟨_, h⟩ | ⟨_, h⟩
  · exact sm_t f (wX8_carry_119 nh_144_4 nh_144_5 h)
  · obtain ⟨g8, h⟩ := gg_some h
    obtain ⟨σ9, eσ9, h⟩ := bnd_nm h
    have f := sm_J f nh_144_4 eσ9
    obtain ⟨g10, h⟩ := gg_some h
    obtain ⟨σ11, eσ11, h⟩ := bnd_nm h
    have f := sm_J f nh_144_5 eσ11
    exact sm_t f (wX8_carry_119 nh_144_4 nh_144_5 h)
set_option maxRecDepth 10000 in
theorem wX8_carry {x y : Nat} {p1 : Nat} {p2 : Int32} {p3 : Int32} {p4 : Int32} {r : Unit} {σ' : gS} {σ : gS} (nh_144_4 : ¬ (x = 144 ∧ y = 4)) (nh_144_5 : ¬ (x = 144 ∧ y = 5)) (h : fX8_carry p1 p2 p3 p4 σ = some (r, σ')) : sm σ σ' x y := by
  unfold fX8_carry at h
  have f := sm_r σ x y
  obtain ⟨g1, h⟩ := gg_some h
  obtain ⟨σ2, eσ2, h⟩ := bnd_nm h
  have f := sm_J f nh_144_4 eσ2
  obtain ⟨g3, h⟩ := gg_some h
  obtain ⟨σ4, eσ4, h⟩ := bnd_nm h
  have f := sm_J f nh_144_5 eσ4
  rcases ite_or h with ⟨_, h⟩ | ⟨_, h⟩
  · obtain ⟨-, rfl⟩ := so_inj h
    exact f
  · obtain ⟨x6, σ7, y8, h⟩ := bd_some h
    have f := sm_t f (wX3_secondOf y8)
    obtain ⟨σ9, eσ9, h⟩ := bnd_nm h
    have f := sm_J f nh_144_4 eσ9
    obtain ⟨x10, σ11, y12, h⟩ := bd_some h
    have f := sm_t f (wX3_secondOf y12)
    obtain ⟨σ13, eσ13, h⟩ := bnd_nm h
    have f := sm_J f nh_144_5 eσ13
    rcases ite_or h with ⟨_, h⟩ | ⟨_, h⟩
    · obtain ⟨σ15, eσ15, h⟩ := bnd_nm h
      have f := sm_J f nh_144_4 eσ15
      exact sm_t f (wX8_carry_74 nh_144_4 nh_144_5 h)
    · exact sm_t f (wX8_carry_74 nh_144_4 nh_144_5 h)
set_option maxRecDepth 10000 in
theorem wX8_reachThrough_125 {x y : Nat} {p1 : Nat} {p2 : Int32} {r : Unit} {σ' : gS} {s1 : Int32} {s2 : Int32} {σ : gS} (nh_144_4 : ¬ (x = 144 ∧ y = 4)) (nh_144_5 : ¬ (x = 144 ∧ y = 5)) (nh_145 : ¬ x = 145) (nh_146 : ¬ x = 146) (nh_147 : ¬ x = 147) (h : fX8_reachThrough_125 p1 p2 s1 s2 σ = some (r, σ')) : sm σ σ' x y := by
  unfold fX8_reachThrough_125 at h
  have f := sm_r σ x y
  obtain ⟨g1, h⟩ := gg_some h
  obtain ⟨σ2, eσ2, h⟩ := bnd_nm h
  have f := sm_I f (fun q => nh_145 q.1) eσ2
  obtain ⟨-, rfl⟩ := so_inj h
  exact f
set_option maxRecDepth 10000 in
theorem wX8_reachThrough_120 {x y : Nat} {p1 : Nat} {p2 : Int32} {r : Unit} {σ' : gS} {s1 : Int32} {σ : gS} (nh_144_4 : ¬ (x = 144 ∧ y = 4)) (nh_144_5 : ¬ (x = 144 ∧ y = 5)) (nh_145 : ¬ x = 145) (nh_146 : ¬ x = 146) (nh_147 : ¬ x = 147) (h : fX8_reachThrough_120 p1 p2 s1 σ = some (r, σ')) : sm σ σ' x y := by
  unfold fX8_reachThrough_120 at h
  have f := sm_r σ x y
  exact sm_t f (wX8_reachThrough_125 nh_144_4 nh_144_5 nh_145 nh_146 nh_147 h)
set_option maxRecDepth 10000 in
theorem wX8_reachThrough_34 {x y : Nat} {p1 : Nat} {p2 : Int32} {r : Unit} {σ' : gS} {v3 : Int32} {v4 : Int32} {σ : gS} (nh_144_4 : ¬ (x = 144 ∧ y = 4)) (nh_144_5 : ¬ (x = 144 ∧ y = 5)) (nh_145 : ¬ x = 145) (nh_146 : ¬ x = 146) (nh_147 : ¬ x = 147) (h : fX8_reachThrough_34 p1 p2 v3 v4 σ = some (r, σ')) : sm σ σ' x y := by
  unfold fX8_reachThrough_34 at h
  have f := sm_r σ x y
  obtain ⟨g1, h⟩ := gg_some h
  rcases ite_or h with ⟨_, h⟩ | ⟨_, h⟩
  · obtain ⟨g17, h⟩ := gg_some h
    obtain ⟨σ18, eσ18, h⟩ := bnd_nm h
    have f := sm_I f (fun q => nh_145 q.1) eσ18
    obtain ⟨-, rfl⟩ := so_inj h
    exact f
  · obtain ⟨x3, σ4, y5, h⟩ := bd_some h
    have f := sm_t f (wX3_kindOf y5)
    obtain ⟨_, σ6, y7, h⟩ := bd_some h
    have f := sm_t f (wX8_carry nh_144_4 nh_144_5 y7)
    obtain ⟨g8, h⟩ := gg_some h
    obtain ⟨σ9, eσ9, h⟩ := bnd_nm h
    have f := sm_J f (fun q => nh_146 q.1) eσ9
    obtain ⟨g10, h⟩ := gg_some h
    obtain ⟨σ11, eσ11, h⟩ := bnd_nm h
    have f := sm_J f (fun q => nh_147 q.1) eσ11
    obtain ⟨x12, σ13, y14, h⟩ := bd_some h
    have f := sm_t f (wJ9_abs_067f4 y14)
    rcases ite_or h with ⟨_, h⟩ | ⟨_, h⟩
    · exact sm_t f (wX8_reachThrough_120 nh_144_4 nh_144_5 nh_145 nh_146 nh_147 h)
    · rcases ite_or h with ⟨_, h⟩ | ⟨_, h⟩
      · exact sm_t f (wX8_reachThrough_125 nh_144_4 nh_144_5 nh_145 nh_146 nh_147 h)
      · exact sm_t f (wX8_reachThrough_120 nh_144_4 nh_144_5 nh_145 nh_146 nh_147 h)
set_option maxRecDepth 10000 in
theorem wX8_reachThrough {x y : Nat} {p1 : Nat} {p2 : Int32} {r : Unit} {σ' : gS} {σ : gS} (nh_144_4 : ¬ (x = 144 ∧ y = 4)) (nh_144_5 : ¬ (x = 144 ∧ y = 5)) (nh_145 : ¬ x = 145) (nh_146 : ¬ x = 146) (nh_147 : ¬ x = 147) (h : fX8_reachThrough p1 p2 σ = some (r, σ')) : sm σ σ' x y := by
  unfold fX8_reachThrough at h
  have f := sm_r σ x y
  obtain ⟨x1, σ2, y3, h⟩ := bd_some h
  have f := sm_t f (wX3_firstOf y3)
  obtain ⟨x4, σ5, y6, h⟩ := bd_some h
  have f := sm_t f (wX3_secondOf y6)
  obtain ⟨g7, h⟩ := gg_some h
  rcases ite_or h with ⟨_, h⟩ | ⟨_, h⟩
  · exact sm_t f (wX8_reachThrough_34 nh_144_4 nh_144_5 nh_145 nh_146 nh_147 h)
  · exact sm_t f (wX8_reachThrough_34 nh_144_4 nh_144_5 nh_145 nh_146 nh_147 h)

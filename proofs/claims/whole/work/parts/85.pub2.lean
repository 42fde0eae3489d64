/-! rank and motion -/
def pXr (h k : Nat) : Prop := ¬ (h = 168 ∧ (k = 63 ∨ k = 67)) ∧ h ≠ 206 ∧ h ≠ 208 ∧ h ≠ 209
theorem frX.F {σ σ' : gS} (h : frX σ σ') : Fr pXr σ σ' := fun x y ⟨a, b, c, d⟩ => ⟨(h x y a b c d).1, (h x y a b c d).2.1, by rw [(h x y a b c d).2.2]⟩
section PUB2
variable {σ : gS} {t : Nat} {D : DT}
theorem in02 {p : Int32} {σ : gS} (h : ¬ (0 ≤ p.toInt ∧ p.toInt ≤ 2)) : fX11_in p.toInt64 0 2 σ = some (0, σ) := in_f (by rw [l32]; exact h)
theorem rank_eq (h : LkD σ t D) (hm : KM σ D) (p : Int32) : Ok (fX10_rank p σ) (fX11_rankB p) (fun σ' => Fr pXr σ σ') := by
  obtain ⟨h4, h1, h2, w, v, c, r⟩ := h
  have w4 := w.n4
  obtain ⟨⟨hF, m1, m2, m3, mM, m122, m123⟩, m121⟩ := hm
  obtain ⟨_, σ1, e1, ⟨k0, k1, k2, -⟩, k3⟩ := rankR w v r
  have e9 : σ1.1 168 9 = nI (dn D 1) := k0.1 1 (by decide)
  have i02 : ∀ q : Nat, q ≤ 2 → fX11_in (nI q).toInt64 0 2 σ = some (1, σ) := fun q hq => in_t (by rw [l32, nI_toInt (by omega)]; exact ⟨by show (0 : Int) ≤ q; omega, by show (q : Int) ≤ 2; omega⟩)
  by_cases q0 : p = 0
  · subst q0
    refine Ok.mk (r := nI (redS D (ncl D (dn D 0))).2.1) (r' := nI (redS D (ncl D (dn D 0))).2.1) (σ1 := σ) (σ2 := σ1) ?_ ?_ rfl k3.F
    · rw [fX10_rank, if_pos rfl, m3]
    · rw [fX11_rankB, show fX11_in (0 : Int32).toInt64 0 2 σ = some (1, σ) from i02 0 (by decide), bd_r, i10, e1, bd_r, if_pos rfl, fX11_rank_56, k2]
  by_cases q1 : p = 1
  · subst q1
    refine Ok.mk (r := nI (ncl D (dn D 0)) - nI (redS D (ncl D (dn D 0))).2.1) (r' := nI (ncl D (dn D 0)) - nI (redS D (ncl D (dn D 0))).2.1) (σ1 := σ) (σ2 := σ1) ?_ ?_ rfl k3.F
    · rw [fX10_rank, if_neg (by decide), if_pos rfl, m3, m2]
    · rw [fX11_rankB, show fX11_in (1 : Int32).toInt64 0 2 σ = some (1, σ) from i02 1 (by decide), bd_r, i10, e1, bd_r, if_neg (by decide), if_pos rfl, fX11_rank_56, k1, k2]
  by_cases q2 : p = 2
  · subst q2
    refine Ok.mk (r := nI (dn D 1) - nI (redS D (ncl D (dn D 0))).2.1) (r' := nI (dn D 1) - nI (redS D (ncl D (dn D 0))).2.1) (σ1 := σ) (σ2 := σ1) ?_ ?_ rfl k3.F
    · rw [fX10_rank, if_neg (by decide), if_neg (by decide), if_pos rfl, m3, m1]
    · rw [fX11_rankB, show fX11_in (2 : Int32).toInt64 0 2 σ = some (1, σ) from i02 2 (by decide), bd_r, i10, e1, bd_r, if_neg (by decide), if_neg (by decide), fX11_rank_56, e9, k2]
  refine Ok.mk (r := -1000001) (r' := -1000001) (σ1 := σ) (σ2 := σ) ?_ ?_ rfl (fun x y _ => ⟨rfl, rfl, rfl⟩)
  · rw [fX10_rank, if_neg q0, if_neg q1, if_neg q2]
  · rw [fX11_rankB, in02 (fun z => by
      have e0 := mt eq32.mpr q0
      have e1 := mt eq32.mpr q1
      have e2 := mt eq32.mpr q2
      rw [show (0 : Int32).toInt = 0 from rfl] at e0
      rw [show (1 : Int32).toInt = 1 from rfl] at e1
      rw [show (2 : Int32).toInt = 2 from rfl] at e2
      omega), bd_r, i00]
def pm (f : Nat) : Int32 := nI f - 1
theorem pm_1 (f : Nat) : pm f + 1 = nI f := Int32.sub_add_cancel _ _
theorem pm_i {f : Nat} (h : f < 2 ^ 30) : (pm f).toInt = (f : Int) - 1 := m1I h
theorem pm_s (f : Nat) : pm (f + 1) = nI f := nI_pred f
/-- the scan for the k-th free column -/
theorem scanR {C k : Nat} {ld : Nat → Nat} {res : Int32} {j ax : Int32} (hC : C ≤ 48) (h209 : ∀ x, x < C → σ.1 209 x = eQ (ld x)) (hld : ∀ x, x < C → ld x = 60 ∨ ld x < 60) (hk : k < cfr ld C) (fin : ∀ f fu, f < C → ld f = 60 → cfr ld f = k → fX11_motion_63 (nI k) j ax (fu + 1) (nI f) (nI k) σ = some (res, σ)) : ∀ (m f fu : Nat), f + m = C → m + 1 < fu → cfr ld f ≤ k → fX11_motion_63 (nI k) j ax fu (pm f) (pm (cfr ld f)) σ = some (res, σ) := by
  have kC := cfr_le ld C
  intro m
  induction m with
  | zero =>
    intro f fu e hfu hc
    have : f = C := by omega
    subst this
    omega
  | succ m ih =>
    intro f fu e hfu hc
    obtain ⟨fu, rfl⟩ : ∃ y, fu = y + 1 := ⟨fu - 1, by omega⟩
    have fl := cfr_le ld f
    have s : cfr ld (f + 1) = cfr ld f + (if ld f = 60 then 1 else 0) := rfl
    rw [fX11_motion_63, if_neg (fun z => by have := le32.mp z; rw [nI_toInt (by omega), pm_i (by omega)] at this; omega), bnd_r, pm_1, nI_clamp (show f < 2 ^ 31 by omega), gg_ix (by omega) (by decide), h209 f (by omega)]
    unfold eQ
    by_cases q : ld f = 60
    · rw [if_pos q] at s
      rw [if_pos q, if_neg (by decide), fX11_motion_89, bnd_r, pm_1]
      obtain ⟨fu, rfl⟩ : ∃ y, fu = y + 1 := ⟨fu - 1, by omega⟩
      by_cases z : cfr ld f = k
      · rw [z]
        exact fin f fu (by omega) q z
      · have := ih (f + 1) (fu + 1) (by omega) (by omega) (by omega)
        rw [pm_s, s, pm_s] at this
        exact this
    · have l60 := (hld f (by omega)).resolve_left q
      rw [if_neg q] at s
      rw [if_neg q, if_pos (nI_pos' (by omega)), fX11_motion_89, bnd_r, Int32.add_zero]
      have := ih (f + 1) fu (by omega) (by omega) (by omega)
      rw [pm_s, s, Nat.add_zero] at this
      exact this
theorem axisC {p : Int32} (σ : gS) : fX10_isAxis p σ = some (if 0 ≤ p.toInt ∧ p.toInt ≤ 1 then 1 else 0, σ) := by
  have e0 : (p = 0) ↔ p.toInt = 0 := by rw [eq32]; rfl
  have e1 : (p = 1) ↔ p.toInt = 1 := by rw [eq32]; rfl
  rw [fX10_isAxis]
  by_cases q0 : p = 0
  · rw [if_pos q0, fX10_isAxis_9, fX10_isAxis_14, gg_t (Or.inr rfl), if_pos (by have := e0.mp q0; omega)]
  · rw [if_neg q0]
    by_cases q1 : p = 1
    · rw [if_pos q1, fX10_isAxis_9, fX10_isAxis_14, gg_t (Or.inr rfl), if_pos (by have := e1.mp q1; omega)]
    · rw [if_neg q1, fX10_isAxis_14, gg_t (Or.inl rfl), if_neg (fun z => by have := mt e0.mpr q0; have := mt e1.mpr q1; omega)]
theorem isJr {n : Nat} {p : Int32} (hn : n < 2 ^ 30) (e : σ.1 168 0 = nI n) : fX11_isJoint p σ = some (if 0 ≤ p.toInt ∧ p.toInt < n then 1 else 0, σ) := by
  rw [fX11_isJoint, e, inM hn, bd_r]
  by_cases q : 0 ≤ p.toInt ∧ p.toInt < n
  · rw [if_pos q, gg_t (Or.inr rfl)]
  · rw [if_neg q, gg_t (Or.inl rfl)]
theorem motion_eq (h : LkD σ t D) (hm : KM σ D) (p q s : Int32) : Ok (fX10_motion p q s σ) (fX11_motionB p q s) (fun σ' => Fr pXr σ σ') := by
  have k := h.k
  obtain ⟨h4, h1, h2, w, v, c, r⟩ := h
  have w4 := w.n4
  have nl := ncl_le D (dn D 0)
  obtain ⟨⟨hF, m1, m2, m3, mM, m122, m123⟩, m121⟩ := hm
  obtain ⟨_, σ1, e1, ⟨k0, k1, k2, k4, k5, k6⟩, k3⟩ := rankR w v r
  obtain ⟨i1, i2, i3, i4, i5, i6, i7⟩ := red_ok w (ncl D (dn D 0))
  have e0 : σ1.1 168 0 = nI (dn D 0) := k0.1 0 (by decide)
  generalize hs : redS D (ncl D (dn D 0)) = S at *
  have sb : nI (ncl D (dn D 0)) - nI S.2.1 = nI (ncl D (dn D 0) - S.2.1) := pk_sub i2
  have bad : ∀ z : ¬ ((0 ≤ p.toInt ∧ p.toInt < ((ncl D (dn D 0) - S.2.1 : Nat) : Int)) ∧ (0 ≤ q.toInt ∧ q.toInt < dn D 0) ∧ (0 ≤ s.toInt ∧ s.toInt ≤ 1)), Ok (fX10_motion p q s σ) (fX11_motionB p q s) (fun σ' => Fr pXr σ σ') := by
    intro z
    refine Ok.mk (r := -1000001) (r' := -1000001) (σ1 := σ) (σ2 := σ1) ?_ ?_ rfl k3.F
    · rw [fX10_motion, m2, m3, sb]
      by_cases q1 : p < 0
      · rw [if_pos q1, fX10_motion_39]
      · have a1 := mt lt32.mpr q1
        rw [z32] at a1
        rw [if_neg q1]
        by_cases q2 : nI (ncl D (dn D 0) - S.2.1) ≤ p
        · rw [if_pos q2, fX10_motion_39]
        · have a2 := mt le32.mpr q2
          rw [nI_toInt (by omega)] at a2
          rw [if_neg q2]
          by_cases q3 : 0 ≤ q.toInt ∧ q.toInt < dn D 0
          · obtain ⟨j, hj, rfl⟩ := nI_get (n := dn D 0) q3.1 q3.2 (by omega)
            have e3 : fX10_isMember 0 (nI j) σ = some (1, σ) := isM_yes (f := 0) k (by decide) hj
            rw [e3, bd_r, i10, axisC, bd_r, if_neg (show ¬ (0 ≤ s.toInt ∧ s.toInt ≤ 1) from fun y => z ⟨⟨by omega, by omega⟩, q3, y⟩), i00, fX10_motion_39]
          · have e3 : fX10_isMember 0 q σ = some (0, σ) := isM_no (f := 0) k (by decide) q3
            rw [e3, bd_r, i00, fX10_motion_39]
    · rw [fX11_motionB, e1, bd_r, k1, k2, sb, inM (by omega), bd_r]
      by_cases q1 : 0 ≤ p.toInt ∧ p.toInt < ((ncl D (dn D 0) - S.2.1 : Nat) : Int)
      · rw [if_pos q1, i10, isJr (by omega) e0, bd_r]
        by_cases q3 : 0 ≤ q.toInt ∧ q.toInt < dn D 0
        · rw [if_pos q3, i10, in_f (by rw [l32]; exact fun y => z ⟨q1, q3, y⟩), bd_r, i00, fX11_motion_43]
        · rw [if_neg q3, i00, fX11_motion_43]
      · rw [if_neg q1, i00, fX11_motion_43]
  by_cases z : (0 ≤ p.toInt ∧ p.toInt < ((ncl D (dn D 0) - S.2.1 : Nat) : Int)) ∧ (0 ≤ q.toInt ∧ q.toInt < dn D 0) ∧ (0 ≤ s.toInt ∧ s.toInt ≤ 1)
  · obtain ⟨z1, z2, z3⟩ := z
    obtain ⟨kk, hk, rfl⟩ := nI_get (n := ncl D (dn D 0) - S.2.1) z1.1 z1.2 (by omega)
    obtain ⟨j, hj, rfl⟩ := nI_get (n := dn D 0) z2.1 z2.2 (by omega)
    obtain ⟨ax, hax, rfl⟩ := nI_get (n := 2) z3.1 (by omega) (by decide)
    have e3 : fX10_isMember 0 (nI j) σ = some (1, σ) := isM_yes (f := 0) k (by decide) hj
    have head : fX10_motion (nI kk) (nI j) (nI ax) σ = bd (fX4_motionAt (nI kk) (nI j) (nI ax) σ) (fun x11 σ12 => some (x11, σ12)) := by
      rw [fX10_motion, m2, m3, sb, if_neg (nI_pos (by omega)), if_neg (nI_ge hk (by omega)), e3, bd_r, i10, axisC, bd_r, if_pos z3, i10]
    have headR : fX11_motionB (nI kk) (nI j) (nI ax) σ = (if dk D (dm D 0 j) = 1 then some (0, σ1) else fX11_motion_63 (nI kk) (nI j) (nI ax) 2000 (-1) (-1) σ1) := by
      rw [fX11_motionB, e1, bd_r, k1, k2, sb, inM (by omega), bd_r, if_pos z1, i10, isJr (by omega) e0, bd_r, if_pos z2, i10, in_t (by rw [l32]; exact z3), bd_r, i10, nI_clamp (show j < 2 ^ 31 by omega), gg_ix (by omega) (by decide), k0.2.2.2.2.1 j hj]
      by_cases g : dk D (dm D 0 j) = 1
      · rw [if_pos g, if_pos g, i10]
      · rw [if_neg g, if_neg g, i00]
    by_cases g : dk D (dm D 0 j) = 1
    · refine Ok.mk (r := 0) (r' := 0) (σ1 := σ) (σ2 := σ1) ?_ ?_ rfl k3.F
      · rw [head, fX4_motionAt, nI_clamp (show j < 2 ^ 31 by omega), gg_ix (by omega) (by decide), m121 j hj, eG, if_pos g, if_pos rfl, bd_r]
      · rw [headR, if_pos g]
    · have nj := ncl_in hj g
      have x48 : ncl D j + ax < ncl D (dn D 0) := by omega
      -- the free column
      have ex : ∃ f, f < ncl D (dn D 0) ∧ S.2.2.1 f = 60 ∧ cfr S.2.2.1 f = kk := by
        have key : ∀ n, kk < cfr S.2.2.1 n → ∃ f, f < n ∧ S.2.2.1 f = 60 ∧ cfr S.2.2.1 f = kk := by
          intro n
          induction n with
          | zero => intro y; exact absurd y (Nat.not_lt_zero _)
          | succ n ih =>
            intro y
            have e : cfr S.2.2.1 (n + 1) = cfr S.2.2.1 n + (if S.2.2.1 n = 60 then 1 else 0) := rfl
            by_cases u : kk < cfr S.2.2.1 n
            · obtain ⟨f, f1, f2⟩ := ih u
              exact ⟨f, by omega, f2⟩
            · by_cases u2 : S.2.2.1 n = 60
              · rw [if_pos u2] at e
                exact ⟨n, by omega, u2, by omega⟩
              · rw [if_neg u2] at e
                omega
        exact key _ (by omega)
      obtain ⟨f0, f01, f02, f03⟩ := ex
      have fck : S.2.2.2 kk = f0 := by rw [← f03]; exact i7 f0 f01 f02
      have uniq : ∀ f, f < ncl D (dn D 0) → S.2.2.1 f = 60 → cfr S.2.2.1 f = kk → f = f0 := fun f a b d => by
        have := i7 f a b
        rw [d, fck] at this
        exact this.symm
      have free : σ.1 123 kk = nI f0 := by rw [m123 kk hk, fck]
      have clx : (nI (ncl D j + ax)).toNatClampNeg = ncl D j + ax := nI_clamp (by omega)
      -- the answer
      have ans : ∃ res : Int32, fX4_motionAt (nI kk) (nI j) (nI ax) σ = some (res, σ) ∧ ∀ fu, fX11_motion_63 (nI kk) (nI j) (nI ax) (fu + 1) (nI f0) (nI kk) σ1 = some (res, σ1) := by
        have l122 := m122 (ncl D j + ax) x48
        have l209 := k5 (ncl D j + ax) x48
        have ldb := i5 (ncl D j + ax)
        by_cases u : S.2.2.1 (ncl D j + ax) = 60
        · rw [u] at l122 l209
          by_cases u2 : ncl D j + ax = f0
          · refine ⟨1, ?_, fun fu => ?_⟩
            · rw [fX4_motionAt, nI_clamp (show j < 2 ^ 31 by omega), gg_ix (by omega) (by decide), m121 j hj, eG, if_neg g, if_neg (nI_nN (by omega)), bnd_r, nI_add, clx, gg_ix (by omega) (by decide), l122, show eL 60 = -1000000 from rfl, if_pos rfl, nI_clamp (show kk < 2 ^ 31 by omega), gg_ix (by omega) (by decide), free, if_pos (by rw [u2]), fX4_motionAt_55]
            · rw [fX11_motion_63, if_pos (nI_le (Nat.le_refl kk) (by omega)), nI_clamp (show j < 2 ^ 31 by omega), gg_ix (by omega) (by decide), bnd_r, k6 j hj, nI_add, clx, gg_ix (by omega) (by decide), l209, show eQ 60 = -1 from rfl, if_neg (by decide), if_pos (by rw [u2]), fX11_motion_127]
          · refine ⟨0, ?_, fun fu => ?_⟩
            · rw [fX4_motionAt, nI_clamp (show j < 2 ^ 31 by omega), gg_ix (by omega) (by decide), m121 j hj, eG, if_neg g, if_neg (nI_nN (by omega)), bnd_r, nI_add, clx, gg_ix (by omega) (by decide), l122, show eL 60 = -1000000 from rfl, if_pos rfl, nI_clamp (show kk < 2 ^ 31 by omega), gg_ix (by omega) (by decide), free, if_neg (fun y => u2 ((nI_eq (by omega) (by omega)).mp y)), fX4_motionAt_55]
            · rw [fX11_motion_63, if_pos (nI_le (Nat.le_refl kk) (by omega)), nI_clamp (show j < 2 ^ 31 by omega), gg_ix (by omega) (by decide), bnd_r, k6 j hj, nI_add, clx, gg_ix (by omega) (by decide), l209, show eQ 60 = -1 from rfl, if_neg (by decide), if_neg (fun y => u2 ((nI_eq (by omega) (by omega)).mp y)), fX11_motion_127]
        · have ldl := (ldb.resolve_left u).1
          have eLl : eL (S.2.2.1 (ncl D j + ax)) = nI (S.2.2.1 (ncl D j + ax)) := if_neg u
          have eQl : eQ (S.2.2.1 (ncl D j + ax)) = nI (S.2.2.1 (ncl D j + ax)) := if_neg u
          rw [eLl] at l122
          rw [eQl] at l209
          generalize S.2.2.1 (ncl D j + ax) = L at *
          have mL := i1 L f0
          have cell := mM L f0 (by omega) f01
          have cellR := k4 L f0 (by omega) f01
          have ng := neg32 (a := nI (S.1 L f0)) (by rw [nI_toInt (by omega)]; omega)
          rw [nI_toInt (by omega)] at ng
          refine ⟨nI (md (-(S.1 L f0 : Int))), ?_, fun fu => ?_⟩
          · rw [fX4_motionAt, nI_clamp (show j < 2 ^ 31 by omega), gg_ix (by omega) (by decide), m121 j hj, eG, if_neg g, if_neg (nI_nN (by omega)), bnd_r, nI_add, clx, gg_ix (by omega) (by decide), l122, if_neg (nI_nN (by omega)), nI_clamp (show L < 2 ^ 31 by omega), gg_ix (by omega) (by decide), bnd_r, gg_t (hF.1 L (by omega)), nI_clamp (show kk < 2 ^ 31 by omega), gg_ix (by omega) (by decide), free, nI_clamp (show f0 < 2 ^ 31 by omega), gg_ix (by omega) (by decide), cell, fmC (by rw [ng]; omega) (by rw [ng]; omega), bd_r, ng]
          · have cl2 : (nI (48 * L + f0)).toNatClampNeg = 48 * L + f0 := nI_clamp (by omega)
            rw [fX11_motion_63, if_pos (nI_le (Nat.le_refl kk) (by omega)), nI_clamp (show j < 2 ^ 31 by omega), gg_ix (by omega) (by decide), bnd_r, k6 j hj, nI_add, clx, gg_ix (by omega) (by decide), l209, if_pos (nI_pos' (by omega)), gg_ix (by omega) (by decide), bnd_r, e48, cl2, gg_ix (by omega) (by decide), cellR, show (1000003 : Int64) - lN (S.1 L f0) = lN (1000003 - S.1 L f0) from lN_sub (a := 1000003) (Nat.le_of_lt mL), rm (by omega), lN_i]
            congr 2
            congr 1
            unfold md
            omega
      obtain ⟨res, a1, a2⟩ := ans
      refine Ok.mk (r := res) (r' := res) (σ1 := σ) (σ2 := σ1) ?_ ?_ rfl k3.F
      · rw [head, a1, bd_r]
      · rw [headR, if_neg g]
        exact scanR (C := ncl D (dn D 0)) (ld := S.2.2.1) (by omega) k5 (fun x hx => by
          rcases i5 x with y | y
          · exact Or.inl y
          · exact Or.inr (by omega)) (by omega) (fun f fu b1 b2 b3 => by rw [uniq f b1 b2 b3]; exact a2 fu) (ncl D (dn D 0)) 0 2000 (by omega) (by omega) (Nat.zero_le _)
  · exact bad z
end PUB2

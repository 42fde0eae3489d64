/-! the reference's rank -/
def frX (σ σ' : gS) : Prop := ∀ x y, ¬ (x = 168 ∧ (y = 63 ∨ y = 67)) → x ≠ 206 → x ≠ 208 → x ≠ 209 → sm σ σ' x y
theorem frX.t {σ τ υ : gS} (h : frX σ τ) (h' : frX τ υ) : frX σ υ := fun x y a b c d => sm_t (h x y a b c d) (h' x y a b c d)
theorem frX.r (σ : gS) : frX σ σ := fun x y _ _ _ _ => sm_r σ x y
def eQ (x : Nat) : Int32 := if x = 60 then -1 else nI x
def LMx (σ : gS) (R C : Nat) (M : Nat → Nat → Nat) : Prop := ∀ r k, r < R → k < C → σ.2.1 208 (48 * r + k) = lN (M r k)
theorem e48 (r k : Nat) : 48 * nI r + nI k = nI (48 * r + k) := by rw [show (48 : Int32) = nI 48 from rfl, pk_mul, nI_add]
section RNK
variable {σ σ' : gS} {D : DT}
theorem RD0.x (h : RD0 σ D) (hf : frX σ σ') : RD0 σ' D := h.keep (fun x y z => (hf x y (by unfold pR0 at z; omega) (by unfold pR0 at z; omega) (by unfold pR0 at z; omega) (by unfold pR0 at z; omega)).1)
theorem colR (w : WFa D) : ∀ (k j fu : Nat) (σ : gS), j + k = dn D 0 → k < fu → RD0 σ D → σ.1 168 63 = nI (ncl D j) → (∀ i, i < j → σ.1 206 i = nI (ncl D i)) → ∃ σ', fX11_findRankB_7 fu (nI j) σ = fX11_findRank_56 4000 0 σ' ∧ σ'.1 168 63 = nI (ncl D (dn D 0)) ∧ (∀ i, i < dn D 0 → σ'.1 206 i = nI (ncl D i)) ∧ frX σ σ' := by
  have w4 := w.n4
  intro k
  induction k with
  | zero =>
    intro j fu σ e hfu h0 h63 h206
    obtain ⟨fu, rfl⟩ : ∃ y, fu = y + 1 := ⟨fu - 1, by omega⟩
    have ej : j = dn D 0 := by omega
    have e0 : σ.1 168 0 = nI (dn D 0) := h0.1 0 (by decide)
    refine ⟨σ, ?_, by rw [← ej]; exact h63, by rw [← ej]; exact h206, frX.r σ⟩
    rw [fX11_findRankB_7, e0, if_pos (nI_le (by omega) (by omega))]
  | succ k ih =>
    intro j fu σ e hfu h0 h63 h206
    obtain ⟨fu, rfl⟩ : ∃ y, fu = y + 1 := ⟨fu - 1, by omega⟩
    have e0 : σ.1 168 0 = nI (dn D 0) := h0.1 0 (by decide)
    have nj : ncl D (j + 1) = ncl D j + (if dk D (dm D 0 j) = 1 then 0 else 2) := rfl
    have go : ∀ s : Int32, nI (ncl D j) + s = nI (ncl D (j + 1)) → ∃ σ', fX11_findRank_44 (fun v1 σ => fX11_findRankB_7 fu v1 σ) (nI j) (nI (ncl D j)) s (gsI σ 206 j (nI (ncl D j))) = fX11_findRank_56 4000 0 σ' ∧ σ'.1 168 63 = nI (ncl D (dn D 0)) ∧ (∀ i, i < dn D 0 → σ'.1 206 i = nI (ncl D i)) ∧ frX σ σ' := by
      intro s hs
      have fr : frX σ (gsI (gsI σ 206 j (nI (ncl D j))) 168 63 (nI (ncl D (j + 1)))) := fun x y a b c d => sm_I (sm_I (sm_r σ x y) (by omega) rfl) (by omega) rfl
      obtain ⟨σ', z1, z2, z3, z4⟩ := ih (j + 1) fu _ (by omega) (by omega) (h0.x fr) rI_s (fun i hi => by
        rw [rI_o (by omega)]
        by_cases q : i = j
        · subst q; rw [rI_s]
        · rw [rI_o (by omega)]; exact h206 i (by omega))
      refine ⟨σ', ?_, z2, z3, fr.t z4⟩
      rw [fX11_findRank_44, bnd_r, bnd_r, nI_1, hs]
      exact z1
    rw [fX11_findRankB_7, e0, if_neg (nI_ge (by omega) (by omega)), nI_clamp (show j < 2 ^ 31 by omega), gg_ix (by omega) (by decide), bnd_r, gg_ix (by omega) (by decide), rI_o (by omega), h0.2.2.2.2.1 j (by omega), rI_o (by omega), h63]
    by_cases q : dk D (dm D 0 j) = 1
    · rw [if_pos q] at nj ⊢
      rw [i10]
      exact go 0 (by rw [nj]; exact Int32.add_zero _)
    · rw [if_neg q] at nj ⊢
      rw [i00]
      exact go 2 (by rw [nj]; exact nI_add _ 2)
theorem clrR {R : Nat} (hR : R ≤ 60) : ∀ (k i fu : Nat) (σ : gS), i + k = 48 * R → k < fu → σ.1 168 9 = nI R → (∀ x, x < i → σ.2.1 208 x = 0) → ∃ σ', fX11_findRank_56 fu (nI i) σ = fX11_findRank_82 2000 0 σ' ∧ (∀ x, x < 48 * R → σ'.2.1 208 x = 0) ∧ ∀ x y, x ≠ 208 → sm σ σ' x y := by
  intro k
  induction k with
  | zero =>
    intro i fu σ e hfu h9 hz
    obtain ⟨fu, rfl⟩ : ∃ y, fu = y + 1 := ⟨fu - 1, by omega⟩
    refine ⟨σ, ?_, fun x hx => hz x (by omega), fun x y _ => sm_r σ x y⟩
    rw [fX11_findRank_56, h9, show (48 : Int32) = nI 48 from rfl, pk_mul, if_pos (nI_le (by omega) (by omega))]
  | succ k ih =>
    intro i fu σ e hfu h9 hz
    obtain ⟨fu, rfl⟩ : ∃ y, fu = y + 1 := ⟨fu - 1, by omega⟩
    obtain ⟨σ', z1, z2, z3⟩ := ih (i + 1) fu (gsJ σ 208 i 0) (by omega) (by omega) h9 (fun x hx => by
      by_cases q : x = i
      · subst q; rw [rJ_s]
      · rw [rJ_o (by omega)]; exact hz x (by omega))
    refine ⟨σ', ?_, z2, fun x y q => sm_t (sm_J (sm_r σ x y) (by omega) rfl) (z3 x y q)⟩
    rw [fX11_findRank_56, h9, show (48 : Int32) = nI 48 from rfl, pk_mul, if_neg (nI_ge (by omega) (by omega)), nI_clamp (show i < 2 ^ 31 by omega), gg_ix (by omega) (by decide), bnd_r, bnd_r, nI_1]
    exact z1
theorem enterR {r j : Nat} {x y : Int64} {f : Nat → Nat} (w : WFa D) (hr : r < 60) (hj : j < dn D 0) (h0 : RD0 σ D) (h206 : ∀ i, i < dn D 0 → σ.1 206 i = nI (ncl D i)) (hx : -1000003 < x.toInt ∧ x.toInt < 1000003) (hy : -1000003 < y.toInt ∧ y.toInt < 1000003) (hf : ∀ k, k < 48 → σ.2.1 208 (48 * r + k) = lN (f k)) :
    Wp (fX11_enter (nI r) (nI j) x y σ) (fun _ σ' => (∀ k, k < 48 → σ'.2.1 208 (48 * r + k) = lN (wrM D f j x.toInt y.toInt k)) ∧ (∀ a c, ¬ (a = 208 ∧ 48 * r ≤ c ∧ c < 48 * r + 48) → sm σ σ' a c)) := by
  have w4 := w.n4
  have nl := ncl_le D (dn D 0)
  rw [fX11_enter, nI_clamp (show j < 2 ^ 31 by omega), gg_ix (by omega) (by decide), h0.2.2.2.2.1 j hj]
  unfold wrM
  by_cases q : dk D (dm D 0 j) = 1
  · rw [if_pos q, if_pos q, i10, fX11_enter_70]
    exact wp_r ⟨hf, fun a c _ => sm_r σ a c⟩
  · have nj := ncl_in hj q
    have cl1 : (nI (48 * r + ncl D j)).toNatClampNeg = 48 * r + ncl D j := nI_clamp (by omega)
    have cl2 : (nI (48 * r + ncl D j + 1)).toNatClampNeg = 48 * r + ncl D j + 1 := nI_clamp (by omega)
    rw [if_neg q, if_neg q, i00, gg_ix (by omega) (by decide), h206 j hj, e48, cl1, gg_ix (by omega) (by decide), bnd_r, gg_ix (by omega) (by decide), rIJ, h206 j hj, e48, nI_1, cl2, gg_ix (by omega) (by decide), bnd_r, fX11_enter_70, fmR hx.1 hx.2, fmR hy.1 hy.2]
    refine wp_r ⟨fun k hk => ?_, fun a c z => sm_J (sm_J (sm_r σ a c) (by omega) rfl) (by omega) rfl⟩
    by_cases z : k = ncl D j + 1
    · subst z; rw [show 48 * r + (ncl D j + 1) = 48 * r + ncl D j + 1 by omega, rJ_s, up_s]
    · rw [rJ_o (by omega), up_o z]
      by_cases z2 : k = ncl D j
      · subst z2; rw [rJ_s, up_s]
      · rw [rJ_o (by omega), up_o z2]; exact hf k hk
theorem rowsR (w : WFa D) (v : WFb D) : ∀ (k r fu : Nat) (σ : gS), r + k = dn D 1 → k < fu → RD0 σ D → (∀ i, i < dn D 0 → σ.1 206 i = nI (ncl D i)) → (∀ r' x, r' < r → x < 48 → σ.2.1 208 (48 * r' + x) = lN (M0 D r' x)) → (∀ r' x, r ≤ r' → r' < dn D 1 → x < 48 → σ.2.1 208 (48 * r' + x) = 0) →
    ∃ σ', fX11_findRank_82 fu (nI r) σ = fX11_findRank_171 2000 0 σ' ∧ (∀ r' x, r' < dn D 1 → x < 48 → σ'.2.1 208 (48 * r' + x) = lN (M0 D r' x)) ∧ σ'.1 168 67 = 0 ∧ ∀ x y, x ≠ 208 → ¬ (x = 168 ∧ y = 67) → sm σ σ' x y := by
  have w4 := w.n4
  intro k
  induction k with
  | zero =>
    intro r fu σ e hfu h0 h206 hM hz
    obtain ⟨fu, rfl⟩ : ∃ y, fu = y + 1 := ⟨fu - 1, by omega⟩
    have er : r = dn D 1 := by omega
    have e9 : σ.1 168 9 = nI (dn D 1) := h0.1 1 (by decide)
    refine ⟨gsI σ 168 67 0, ?_, fun r' x h1 h2 => hM r' x (by omega) h2, rI_s, fun x y _ z => sm_I (sm_r σ x y) z rfl⟩
    rw [fX11_findRank_82, e9, if_pos (nI_le (by omega) (by omega)), bnd_r]
  | succ k ih =>
    intro r fu σ e hfu h0 h206 hM hz
    obtain ⟨fu, rfl⟩ : ∃ y, fu = y + 1 := ⟨fu - 1, by omega⟩
    have hr : r < dn D 1 := by omega
    have e9 : σ.1 168 9 = nI (dn D 1) := h0.1 1 (by decide)
    obtain ⟨b1, b2, b3, b4, b5, b6⟩ := bAB w v hr
    have a1 : σ.1 176 r = nI (bA D r) := (h0.2.2.2.1 1 r (by decide) hr).1.trans b4
    have a2 : σ.1 177 r = nI (bB D r) := (h0.2.2.2.1 1 r (by decide) hr).2.trans b5
    have x1 : σ.1 170 (bA D r) = dx D (dm D 0 (bA D r)) := (h0.2.2.2.1 0 _ (by decide) b1).1
    have x2 : σ.1 170 (bB D r) = dx D (dm D 0 (bB D r)) := (h0.2.2.2.1 0 _ (by decide) b2).1
    have y1 : σ.1 171 (bA D r) = dy D (dm D 0 (bA D r)) := (h0.2.2.2.1 0 _ (by decide) b1).2
    have y2 : σ.1 171 (bB D r) = dy D (dm D 0 (bB D r)) := (h0.2.2.2.1 0 _ (by decide) b2).2
    obtain ⟨v1, v2, v3, v4⟩ := v.1 _ b1
    obtain ⟨u1, u2, u3, u4⟩ := v.1 _ b2
    obtain ⟨dx1, dx2, dx3⟩ := dif (x1 := dx D (dm D 0 (bA D r))) (x2 := dx D (dm D 0 (bB D r))) ⟨v1, v2⟩ ⟨u1, u2⟩
    obtain ⟨dy1, dy2, dy3⟩ := dif (x1 := dy D (dm D 0 (bA D r))) (x2 := dy D (dm D 0 (bB D r))) ⟨v3, v4⟩ ⟨u3, u4⟩
    have lx : ((dx D (dm D 0 (bA D r)) - dx D (dm D 0 (bB D r))).toInt64).toInt = dX D r := by rw [l32, dx1]; rfl
    have ly : ((dy D (dm D 0 (bA D r)) - dy D (dm D 0 (bB D r))).toInt64).toInt = dY D r := by rw [l32, dy1]; rfl
    have bx : -2000 ≤ dX D r ∧ dX D r ≤ 2000 := by unfold dX; omega
    have by' : -2000 ≤ dY D r ∧ dY D r ≤ 2000 := by unfold dY; omega
    have ndx := neg64 (a := (dx D (dm D 0 (bA D r)) - dx D (dm D 0 (bB D r))).toInt64) (by omega)
    have ndy := neg64 (a := (dy D (dm D 0 (bA D r)) - dy D (dm D 0 (bB D r))).toInt64) (by omega)
    rw [lx] at ndx
    rw [ly] at ndy
    obtain ⟨_, σ1, e3, f1, f2⟩ := enterR (σ := σ) (r := r) (j := bA D r) (x := (dx D (dm D 0 (bA D r)) - dx D (dm D 0 (bB D r))).toInt64) (y := (dy D (dm D 0 (bA D r)) - dy D (dm D 0 (bB D r))).toInt64) (f := fun _ => 0) w (by omega) b1 h0 h206 (by omega) (by omega) (fun k hk => by rw [hz r k (Nat.le_refl r) hr hk]; rfl)
    rw [lx, ly] at f1
    obtain ⟨_, σ2, e4, g1, g2⟩ := enterR (σ := σ1) (r := r) (j := bB D r) (x := -(dx D (dm D 0 (bA D r)) - dx D (dm D 0 (bB D r))).toInt64) (y := -(dy D (dm D 0 (bA D r)) - dy D (dm D 0 (bB D r))).toInt64) (f := wrM D (fun _ => 0) (bA D r) (dX D r) (dY D r)) w (by omega) b2 (h0.keep (fun x y z => (f2 x y (by unfold pR0 at z; omega)).1)) (fun i hi => by rw [(f2 206 i (by omega)).1]; exact h206 i hi) (by omega) (by omega) f1
    rw [ndx, ndy] at g1
    have fr : ∀ a c, ¬ (a = 208 ∧ 48 * r ≤ c ∧ c < 48 * r + 48) → sm σ σ2 a c := fun a c z => sm_t (f2 a c z) (g2 a c z)
    obtain ⟨σ', z1, z2, z3, z4⟩ := ih (r + 1) fu σ2 (by omega) (by omega) (h0.keep (fun x y z => (fr x y (by unfold pR0 at z; omega)).1)) (fun i hi => by rw [(fr 206 i (by omega)).1]; exact h206 i hi) (fun r' x h1 h2 => by
      by_cases q : r' = r
      · subst q; exact g1 x h2
      · rw [(fr 208 _ (by omega)).2.1]; exact hM r' x (by omega) h2) (fun r' x h1 h2 h3 => by rw [(fr 208 _ (by omega)).2.1]; exact hz r' x (by omega) h2 h3)
    refine ⟨σ', ?_, z2, z3, fun x y q1 q2 => sm_t (fr x y (by omega)) (z4 x y q1 q2)⟩
    rw [fX11_findRank_82, e9, if_neg (nI_ge (by omega) (by omega)), nI_clamp (show r < 2 ^ 31 by omega), gg_ix (by omega) (by decide), gg_ix (by omega) (by decide), a1, a2, nI_clamp (show bA D r < 2 ^ 31 by omega), nI_clamp (show bB D r < 2 ^ 31 by omega), gg_ix (by omega) (by decide), gg_ix (by omega) (by decide), bnd_r, gg_ix (by omega) (by decide), gg_ix (by omega) (by decide), bnd_r, x1, x2, y1, y2, e3, bd_r, e4, bd_r, bnd_r, nI_1]
    exact z1
/-! a column of the reference -/
theorem leadR {M : Nat → Nat → Nat} {R C c rk p : Nat} (hR : R ≤ 60) (hC : C ≤ 48) (h9 : σ.1 168 9 = nI R) (h63 : σ.1 168 63 = nI C) (h67 : σ.1 168 67 = nI rk) (hrk : rk < R) (hp : p < R) (hc : c < C) (hP : ∀ r k, M r k < 1000003) (hM : LMx σ R C M) :
    Wp (fX11_lead (nI p) (nI c) σ) (fun _ σ' => LMx σ' R C (stp M c rk p) ∧ σ'.1 209 c = nI rk ∧ σ'.1 168 67 = nI (rk + 1) ∧ ∀ x y, x ≠ 208 → ¬ (x = 209 ∧ y = c) → ¬ (x = 168 ∧ y = 67) → sm σ σ' x y) := by
  have hpc := hP p c
  have iv : ivP (M p c) < 1000003 := ivN_lt 20 0 1 (M p c) (by decide)
  have cl : ∀ r k, r < 60 → k < 48 → (nI (48 * r + k)).toNatClampNeg = 48 * r + k ∧ 48 * r + k < 2880 := fun r k h1 h2 => ⟨nI_clamp (by omega), by omega⟩
  have ne48 : ∀ r r' k k', k < 48 → k' < 48 → 48 * r + k = 48 * r' + k' → r = r' ∧ k = k' := fun r r' k k' h1 h2 h3 => by omega
  rw [fX11_lead, bnd_r, e48, (cl p c (by omega) (by omega)).1, gg_ix (cl p c (by omega) (by omega)).2 (by decide), hM p c hp hc, invR hpc, bd_r]
  -- rows changed about and scaled
  have scale : ∀ (n i fu : Nat) (σ1 : gS), i + n = C → n < fu → (∀ x y, x ≠ 208 → sm σ σ1 x y) → (∀ r k, r < R → k < C → σ1.2.1 208 (48 * r + k) = lN (if k < i then (if r = rk then M p k * ivP (M p c) % 1000003 else (if r = p then M rk else M r) k) else M r k)) →
      ∃ σ2, fX11_lead_18 (nI p) (nI c) fu (lN (ivP (M p c))) (nI i) σ1 = fX11_lead_100 (nI p) (nI c) 2000 0 σ2 ∧ (∀ x y, x ≠ 208 → sm σ σ2 x y) ∧ ∀ r k, r < R → k < C → σ2.2.1 208 (48 * r + k) = lN (if r = rk then M p k * ivP (M p c) % 1000003 else (if r = p then M rk else M r) k) := by
    intro n
    induction n with
    | zero =>
      intro i fu σ1 e hfu f1 k1
      obtain ⟨fu, rfl⟩ : ∃ y, fu = y + 1 := ⟨fu - 1, by omega⟩
      refine ⟨σ1, ?_, f1, fun r k h1 h2 => by rw [k1 r k h1 h2, if_pos (by omega)]⟩
      rw [fX11_lead_18, (f1 168 63 (by omega)).1, h63, if_pos (nI_le (by omega) (by omega))]
    | succ n ih =>
      intro i fu σ1 e hfu f1 k1
      obtain ⟨fu, rfl⟩ : ∃ y, fu = y + 1 := ⟨fu - 1, by omega⟩
      obtain ⟨cp1, cp2⟩ := cl p i (by omega) (by omega)
      obtain ⟨cr1, cr2⟩ := cl rk i (by omega) (by omega)
      have vp := k1 p i hp (by omega)
      have vr := k1 rk i hrk (by omega)
      rw [if_neg (show ¬ i < i by omega)] at vp vr
      have mp := mul_P (hP p i) iv
      obtain ⟨σ2, z1, z2, z3⟩ := ih (i + 1) fu (gsJ (gsJ σ1 208 (48 * p + i) (lN (M rk i))) 208 (48 * rk + i) (lN (M p i * ivP (M p c) % 1000003))) (by omega) (by omega) (fun x y q => sm_J (sm_J (f1 x y q) (by omega) rfl) (by omega) rfl) (fun r k h1 h2 => by
        by_cases q : k = i
        · subst q
          rw [if_pos (show k < k + 1 by omega)]
          by_cases q1 : r = rk
          · subst q1; rw [rJ_s, if_pos rfl]
          · rw [rJ_o (fun y => q1 (ne48 r rk k k (by omega) (by omega) y.2).1), if_neg q1]
            by_cases q2 : r = p
            · subst q2; rw [rJ_s, if_pos rfl]
            · rw [rJ_o (fun y => q2 (ne48 r p k k (by omega) (by omega) y.2).1), if_neg q2, k1 r k h1 h2, if_neg (show ¬ k < k by omega)]
        · rw [rJ_o (fun y => q (ne48 r rk k i (by omega) (by omega) y.2).2), rJ_o (fun y => q (ne48 r p k i (by omega) (by omega) y.2).2), k1 r k h1 h2]
          by_cases q2 : k < i
          · rw [if_pos q2, if_pos (show k < i + 1 by omega)]
          · rw [if_neg q2, if_neg (show ¬ k < i + 1 by omega)])
      refine ⟨σ2, ?_, z2, z3⟩
      rw [fX11_lead_18, (f1 168 63 (by omega)).1, h63, if_neg (nI_ge (by omega) (by omega)), bnd_r, e48, cp1, gg_ix cp2 (by decide), bnd_r, (f1 168 67 (by omega)).1, h67, e48, cr1, gg_ix cr2 (by decide), gg_ix cp2 (by decide), bnd_r, rIJ, (f1 168 67 (by omega)).1, h67, e48, cr1, gg_ix cr2 (by decide), bnd_r, bnd_r, nI_1, vp, vr, mm (by omega)]
      exact z1
  obtain ⟨σ2, e2, f2, k2⟩ := scale C 0 2000 σ (by omega) (by omega) (fun x y _ => sm_r σ x y) (fun r k h1 h2 => by rw [hM r k h1 h2, if_neg (by omega)])
  rw [show fX11_lead_18 (nI p) (nI c) 2000 (lN (ivP (M p c))) 0 σ = _ from e2]
  have rows : ∀ (n r fu : Nat) (σ1 : gS), r + n = R → n < fu → (∀ x y, x ≠ 208 → sm σ σ1 x y) → (∀ r' k, r' < R → k < C → σ1.2.1 208 (48 * r' + k) = lN (if r' < r then stp M c rk p r' k else if r' = rk then M p k * ivP (M p c) % 1000003 else (if r' = p then M rk else M r') k)) →
      Wp (fX11_lead_100 (nI p) (nI c) fu (nI r) σ1) (fun _ σ' => LMx σ' R C (stp M c rk p) ∧ σ'.1 209 c = nI rk ∧ σ'.1 168 67 = nI (rk + 1) ∧ ∀ x y, x ≠ 208 → ¬ (x = 209 ∧ y = c) → ¬ (x = 168 ∧ y = 67) → sm σ σ' x y) := by
    intro n
    induction n with
    | zero =>
      intro r fu σ1 e hfu f1 k1
      obtain ⟨fu, rfl⟩ : ∃ y, fu = y + 1 := ⟨fu - 1, by omega⟩
      rw [fX11_lead_100, (f1 168 9 (by omega)).1, h9, if_pos (nI_le (by omega) (by omega)), nI_clamp (show c < 2 ^ 31 by omega), gg_ix (by omega) (by decide), bnd_r, bnd_r, rI_o (by omega), (f1 168 67 (by omega)).1, h67, nI_1]
      refine wp_r ⟨fun r' k h1 h2 => ?_, ?_, rI_s, fun x y a b d => sm_I (sm_I (f1 x y a) (by omega) rfl) (by omega) rfl⟩
      · rw [rJI, rJI, k1 r' k h1 h2, if_pos (by omega)]
      · rw [rI_o (by omega), rI_s]
    | succ n ih =>
      intro r fu σ1 e hfu f1 k1
      obtain ⟨fu, rfl⟩ : ∃ y, fu = y + 1 := ⟨fu - 1, by omega⟩
      have cur : ∀ k, k < C → σ1.2.1 208 (48 * r + k) = lN (if r = rk then M p k * ivP (M p c) % 1000003 else (if r = p then M rk else M r) k) := fun k hk => by rw [k1 r k (by omega) hk, if_neg (show ¬ r < r by omega)]
      have next : ∀ σ3 : gS, (∀ x y, x ≠ 208 → sm σ σ3 x y) → (∀ r' k, r' < R → r' ≠ r → k < C → σ3.2.1 208 (48 * r' + k) = σ1.2.1 208 (48 * r' + k)) → (∀ k, k < C → σ3.2.1 208 (48 * r + k) = lN (stp M c rk p r k)) → Wp (fX11_lead_210 (nI p) (nI c) (fun v5 σ => fX11_lead_100 (nI p) (nI c) fu v5 σ) (nI r) σ3) (fun _ σ' => LMx σ' R C (stp M c rk p) ∧ σ'.1 209 c = nI rk ∧ σ'.1 168 67 = nI (rk + 1) ∧ ∀ x y, x ≠ 208 → ¬ (x = 209 ∧ y = c) → ¬ (x = 168 ∧ y = 67) → sm σ σ' x y) := by
        intro σ3 a1 a3 a4
        rw [fX11_lead_210, bnd_r, nI_1]
        refine ih (r + 1) fu σ3 (by omega) (by omega) a1 (fun r' k b1 b2 => ?_)
        by_cases z : r' = r
        · subst z; rw [a4 k b2, if_pos (show r' < r' + 1 by omega)]
        · rw [a3 r' k b1 z b2, k1 r' k b1 b2]
          by_cases z2 : r' < r
          · rw [if_pos z2, if_pos (show r' < r + 1 by omega)]
          · rw [if_neg z2, if_neg (show ¬ r' < r + 1 by omega)]
      obtain ⟨cc1, cc2⟩ := cl r c (by omega) (by omega)
      rw [fX11_lead_100, (f1 168 9 (by omega)).1, h9, if_neg (nI_ge (by omega) (by omega)), bnd_r, e48, cc1, gg_ix cc2 (by decide), cur c hc]
      by_cases z : r = rk
      · rw [fX11_lead_126, (f1 168 63 (by omega)).1, h63, (f1 168 67 (by omega)).1, h67, if_neg (show ¬ nI C ≤ 0 from nI_nle (by omega) (by omega)), if_pos (by rw [z])]
        refine next σ1 f1 (fun _ _ _ _ _ => rfl) (fun k hk => ?_)
        rw [cur k hk, if_pos z]
        unfold stp
        rw [if_pos z]
      · rw [if_neg z]
        have sk : ∀ k, stp M c rk p r k = (if (if r = p then M rk else M r) c = 0 then (if r = p then M rk else M r) k else ((if r = p then M rk else M r) k + (1000003 - (if r = p then M rk else M r) c) * (M p k * ivP (M p c) % 1000003)) % 1000003) := fun k => by unfold stp; rw [if_neg z]
        have ok : ∀ k, (if r = p then M rk else M r) k < 1000003 := fun k => by
          by_cases z2 : r = p
          · rw [if_pos z2]; exact hP _ _
          · rw [if_neg z2]; exact hP _ _
        have cur' : ∀ k, k < C → σ1.2.1 208 (48 * r + k) = lN ((if r = p then M rk else M r) k) := fun k hk => by rw [cur k hk, if_neg z]
        generalize (if r = p then M rk else M r) = o at *
        have oc := ok c
        have zr : ¬ nI r = nI rk := fun y => z ((nI_eq (by omega) (by omega)).mp y)
        by_cases y : o c = 0
        · rw [fX11_lead_126, (f1 168 63 (by omega)).1, h63, (f1 168 67 (by omega)).1, h67, if_neg (show ¬ nI C ≤ 0 from nI_nle (by omega) (by omega)), if_neg zr, if_pos (by rw [y]; decide)]
          refine next σ1 f1 (fun _ _ _ _ _ => rfl) (fun k hk => ?_)
          rw [cur' k hk, sk k, if_pos y]
        · have lead : ∀ (τ : gS), (∀ k, k < 48 → τ.2.1 208 (48 * rk + k) = σ1.2.1 208 (48 * rk + k)) → ∀ k, k < C → τ.2.1 208 (48 * rk + k) = lN (M p k * ivP (M p c) % 1000003) := fun τ ht k hk => by
            rw [ht k (by omega), k1 rk k hrk hk]
            by_cases w : rk < r
            · rw [if_pos w]; unfold stp; rw [if_pos rfl]
            · rw [if_neg w, if_pos rfl]
          have elim : ∀ (m i gu : Nat) (σ3 : gS), i + m = C → m < gu → (∀ x c, ¬ (x = 208 ∧ 48 * r ≤ c ∧ c < 48 * r + 48) → sm σ1 σ3 x c) → (∀ k, k < C → σ3.2.1 208 (48 * r + k) = lN (if k < i then (o k + (1000003 - o c) * (M p k * ivP (M p c) % 1000003)) % 1000003 else o k)) → Wp (fX11_lead_126 (nI p) (nI c) (fun v5 σ => fX11_lead_100 (nI p) (nI c) fu v5 σ) gu (nI r) (lN (o c)) (nI i) σ3) (fun _ σ' => LMx σ' R C (stp M c rk p) ∧ σ'.1 209 c = nI rk ∧ σ'.1 168 67 = nI (rk + 1) ∧ ∀ x y, x ≠ 208 → ¬ (x = 209 ∧ y = c) → ¬ (x = 168 ∧ y = 67) → sm σ σ' x y) := by
            intro m
            induction m with
            | zero =>
              intro i gu σ3 e' hgu f3 k3
              obtain ⟨gu, rfl⟩ : ∃ y, gu = y + 1 := ⟨gu - 1, by omega⟩
              rw [fX11_lead_126, (f3 168 63 (by omega)).1, (f1 168 63 (by omega)).1, h63, if_pos (nI_le (by omega) (by omega))]
              refine next σ3 (fun x y w => sm_t (f1 x y w) (f3 x y (by omega))) (fun r' k b1 b2 b3 => (f3 208 _ (by omega)).2.1) (fun k hk => ?_)
              rw [k3 k hk, if_pos (by omega), sk k, if_neg y]
            | succ m ihm =>
              intro i gu σ3 e' hgu f3 k3
              obtain ⟨gu, rfl⟩ : ∃ y, gu = y + 1 := ⟨gu - 1, by omega⟩
              obtain ⟨c1, c2⟩ := cl r i (by omega) (by omega)
              obtain ⟨d1, d2⟩ := cl rk i (by omega) (by omega)
              have ci := k3 i (by omega)
              rw [if_neg (by omega)] at ci
              have li := lead σ3 (fun k hk => (f3 208 _ (by omega)).2.1) i (by omega)
              have oi := ok i
              have ml : M p i * ivP (M p c) % 1000003 < 1000003 := Nat.mod_lt _ (by decide)
              generalize hlv : M p i * ivP (M p c) % 1000003 = lv at *
              have mb : (1000003 - o c) * lv < 1000003 * 1000003 := mul_P (by omega) ml
              have nz : ¬ lg_cmp (lN (o c)) 0 = 0 := fun w => y ((pk_lEQ (b := 0) (by omega) (by decide)).mp (cmp_eq.mp w))
              rw [fX11_lead_126, (f3 168 63 (by omega)).1, (f1 168 63 (by omega)).1, h63, if_neg (nI_ge (by omega) (by omega)), (f3 168 67 (by omega)).1, (f1 168 67 (by omega)).1, h67, if_neg zr, if_neg nz, bnd_r, e48, c1, gg_ix c2 (by decide), bnd_r, e48, d1, gg_ix d2 (by decide), gg_ix c2 (by decide), bnd_r, bnd_r, nI_1, ci, li, show (1000003 : Int64) - lN (o c) = lN (1000003 - o c) from lN_sub (a := 1000003) (Nat.le_of_lt oc), lN_mul, lN_add, rm (by omega)]
              refine ihm (i + 1) gu _ (by omega) (by omega) (fun x y w => sm_J (f3 x y w) (by omega) rfl) (fun k hk => ?_)
              by_cases w : k = i
              · subst w; rw [rJ_s, if_pos (by omega), hlv]
              · rw [rJ_o (by omega), k3 k hk]
                by_cases w2 : k < i
                · rw [if_pos w2, if_pos (by omega)]
                · rw [if_neg w2, if_neg (by omega)]
          exact elim C 0 2000 σ1 (by omega) (by omega) (fun x y _ => sm_r σ1 x y) (fun k hk => by rw [cur' k hk, if_neg (by omega)])
  exact rows R 0 2000 σ2 (by omega) (by omega) f2 (fun r' k b1 b2 => by rw [if_neg (by omega)]; exact k2 r' k b1 b2)
def KRc (σ : gS) (D : DT) (c : Nat) : Prop := RD0 σ D ∧ σ.1 168 63 = nI (ncl D (dn D 0)) ∧ σ.1 168 67 = nI (redS D c).2.1 ∧ LMx σ (dn D 1) (ncl D (dn D 0)) (redS D c).1 ∧ (∀ x, x < c → σ.1 209 x = eQ ((redS D c).2.2.1 x)) ∧ ∀ i, i < dn D 0 → σ.1 206 i = nI (ncl D i)
theorem reduceR (w : WFa D) : ∀ (k c fu : Nat) (σ : gS), c + k = ncl D (dn D 0) → k < fu → KRc σ D c → Wp (fX11_findRank_171 fu (nI c) σ) (fun _ σ' => KRc σ' D (ncl D (dn D 0)) ∧ frX σ σ') := by
  have w4 := w.n4
  have nl := ncl_le D (dn D 0)
  intro k
  induction k with
  | zero =>
    intro c fu σ e hfu h
    obtain ⟨fu, rfl⟩ : ∃ y, fu = y + 1 := ⟨fu - 1, by omega⟩
    have ec : c = ncl D (dn D 0) := by omega
    rw [fX11_findRank_171, h.2.1, if_pos (nI_le (by omega) (by omega))]
    rw [ec] at h
    exact wp_r ⟨h, frX.r σ⟩
  | succ k ih =>
    intro c fu σ e hfu h
    obtain ⟨fu, rfl⟩ : ∃ y, fu = y + 1 := ⟨fu - 1, by omega⟩
    obtain ⟨h0, h63, h67, hM, h209, h206⟩ := h
    obtain ⟨i1, i2, i3, i4, i5, i6, i7⟩ := red_ok w c
    obtain ⟨p1, p2, p3⟩ := pvt_ok (M := (redS D c).1) (c := c) i3
    have e9 : σ.1 168 9 = nI (dn D 1) := h0.1 1 (by decide)
    have rs : redS D (c + 1) = if pvt (redS D c).1 c (redS D c).2.1 (dn D 1) < dn D 1 then
      (stp (redS D c).1 c (redS D c).2.1 (pvt (redS D c).1 c (redS D c).2.1 (dn D 1)), (redS D c).2.1 + 1, up (redS D c).2.2.1 c (redS D c).2.1, (redS D c).2.2.2)
      else ((redS D c).1, (redS D c).2.1, (redS D c).2.2.1, up (redS D c).2.2.2 (c - (redS D c).2.1) c) := rfl
    have ldc : (redS D c).2.2.1 c = 60 := (i5 c).resolve_right (fun z => by omega)
    have kc : ∀ s : MT, redS D (c + 1) = s → ∀ σ' : gS, RD0 σ' D → σ'.1 168 63 = nI (ncl D (dn D 0)) → σ'.1 168 67 = nI s.2.1 → LMx σ' (dn D 1) (ncl D (dn D 0)) s.1 → (∀ x, x < c + 1 → σ'.1 209 x = eQ (s.2.2.1 x)) → (∀ i, i < dn D 0 → σ'.1 206 i = nI (ncl D i)) → KRc σ' D (c + 1) := by
      rintro s rfl σ' a1 a2 a3 a4 a5 a6
      exact ⟨a1, a2, a3, a4, a5, a6⟩
    have f3 : frX σ (gsI σ 209 c (-1)) := fun x y a b d e => sm_I (sm_r σ x y) (by omega) rfl
    -- the row that leads
    have find : ∀ (n i gu : Nat), i + n = dn D 1 → n < gu → fX11_findRank_191 (fun v1 σ => fX11_findRank_171 fu v1 σ) gu (nI c) (nI i) (gsI σ 209 c (-1)) = fX11_findRank_221 (fun v1 σ => fX11_findRank_171 fu v1 σ) (nI c) (nI (fP (fun p => (redS D c).1 p c ≠ 0) n i)) (gsI σ 209 c (-1)) := by
      intro n
      induction n with
      | zero =>
        intro i gu e' hgu
        obtain ⟨gu, rfl⟩ : ∃ y, gu = y + 1 := ⟨gu - 1, by omega⟩
        rw [fX11_findRank_191, rI_o (by omega), e9, if_pos (nI_le (by omega) (by omega)), fP]
      | succ n ihn =>
        intro i gu e' hgu
        obtain ⟨gu, rfl⟩ : ∃ y, gu = y + 1 := ⟨gu - 1, by omega⟩
        have := i1 i c
        have cl : (nI (48 * i + c)).toNatClampNeg = 48 * i + c := nI_clamp (by omega)
        rw [fX11_findRank_191, rI_o (by omega), e9, if_neg (nI_ge (by omega) (by omega)), bnd_r, e48, cl, gg_ix (by omega) (by decide), rJI, hM i c (by omega) (by omega), fP]
        by_cases q : (redS D c).1 i c ≠ 0
        · rw [cif_t q, if_neg (show ¬ lg_cmp (lN ((redS D c).1 i c)) 0 = 0 from fun z => q ((pk_lEQ (b := 0) (by omega) (by decide)).mp (cmp_eq.mp z)))]
        · have z : (redS D c).1 i c = 0 := by omega
          rw [cif_f q, if_pos (by rw [z]; decide), bnd_r, nI_1]
          exact ihn (i + 1) gu (by omega) (by omega)
    have fd := find (dn D 1 - (redS D c).2.1) (redS D c).2.1 2000 (by omega) (by omega)
    change fX11_findRank_191 (fun v1 σ => fX11_findRank_171 fu v1 σ) 2000 (nI c) (nI (redS D c).2.1) (gsI σ 209 c (-1)) = fX11_findRank_221 (fun v1 σ => fX11_findRank_171 fu v1 σ) (nI c) (nI (pvt (redS D c).1 c (redS D c).2.1 (dn D 1))) (gsI σ 209 c (-1)) at fd
    rw [fX11_findRank_171, h63, if_neg (nI_ge (by omega) (by omega)), nI_clamp (show c < 2 ^ 31 by omega), gg_ix (show c < 48 by omega) (by decide), bnd_r, rI_o (by omega), h67, fd, fX11_findRank_221, rI_o (by omega), e9]
    generalize hp : pvt (redS D c).1 c (redS D c).2.1 (dn D 1) = p at *
    generalize redS D c = s at *
    by_cases q : p < dn D 1
    · rw [if_pos q] at rs
      rw [if_neg (nI_ge q (by omega))]
      refine wp_bw (leadR (σ := gsI σ 209 c (-1)) (M := s.1) (R := dn D 1) (C := ncl D (dn D 0)) (c := c) (rk := s.2.1) (p := p) (by omega) (by omega) (by rw [rI_o (by omega)]; exact e9) (by rw [rI_o (by omega)]; exact h63) (by rw [rI_o (by omega)]; exact h67) (by omega) q (by omega) i1 hM) ?_
      rintro _ σ4 ⟨m1, m2, m3, m4⟩
      have f4 : frX σ σ4 := fun x y a b d e => sm_t (f3 x y a b d e) (m4 x y d (by omega) (by omega))
      rw [fX11_findRank_235, bnd_r, nI_1]
      have nxt : KRc σ4 D (c + 1) := by
        refine kc _ rs _ (h0.x f4) ?_ m3 m1 (fun x hx => ?_) (fun i hi => ?_)
        · rw [(m4 168 63 (by omega) (by omega) (by omega)).1, rI_o (by omega)]; exact h63
        · show _ = eQ (up s.2.2.1 c s.2.1 x)
          by_cases z : x = c
          · subst z; rw [m2, up_s]; unfold eQ; rw [if_neg (by omega)]
          · rw [(m4 209 x (by omega) (by omega) (by omega)).1, rI_o (by omega), up_o z]; exact h209 x (by omega)
        · rw [(m4 206 i (by omega) (by omega) (by omega)).1, rI_o (by omega)]; exact h206 i hi
      refine wp_m (ih (c + 1) fu σ4 (by omega) (by omega) nxt) ?_
      rintro _ σ5 ⟨d1, d2⟩
      exact ⟨d1, f4.t d2⟩
    · rw [if_neg q] at rs
      rw [if_pos (nI_le (by omega) (by omega)), fX11_findRank_235, bnd_r, nI_1]
      have nxt : KRc (gsI σ 209 c (-1)) D (c + 1) := by
        refine kc _ rs _ (h0.x f3) ?_ ?_ hM (fun x hx => ?_) (fun i hi => ?_)
        · rw [rI_o (by omega)]; exact h63
        · rw [rI_o (by omega)]; exact h67
        · show _ = eQ (s.2.2.1 x)
          by_cases z : x = c
          · subst z; rw [rI_s, ldc]; rfl
          · rw [rI_o (by omega)]; exact h209 x (by omega)
        · rw [rI_o (by omega)]; exact h206 i hi
      refine wp_m (ih (c + 1) fu _ (by omega) (by omega) nxt) ?_
      rintro _ σ5 ⟨d1, d2⟩
      exact ⟨d1, f3.t d2⟩
theorem rankR (w : WFa D) (v : WFb D) (h0 : RD0 σ D) : Wp (fX11_findRankB σ) (fun _ σ' => KRc σ' D (ncl D (dn D 0)) ∧ frX σ σ') := by
  have w4 := w.n4
  have nl := ncl_le D (dn D 0)
  rw [fX11_findRankB, bnd_r]
  have fr : frX σ (gsI σ 168 63 0) := fun x y a b d e => sm_I (sm_r σ x y) (by omega) rfl
  obtain ⟨σ1, e1, a1, a2, a3⟩ := colR w (dn D 0) 0 2000 (gsI σ 168 63 0) (by omega) (by omega) (h0.x fr) rI_s (fun i hi => by omega)
  rw [show fX11_findRankB_7 2000 0 (gsI σ 168 63 0) = _ from e1]
  have g1 := (h0.x fr).x a3
  obtain ⟨σ2, e2, b1, b2⟩ := clrR (R := dn D 1) (by omega) (48 * dn D 1) 0 4000 σ1 (by omega) (by omega) (g1.1 1 (by decide)) (fun x hx => by omega)
  rw [show fX11_findRank_56 4000 0 σ1 = _ from e2]
  have f2 : frX σ1 σ2 := fun x y a b d e => b2 x y d
  obtain ⟨σ3, e3, c1, c2, c3⟩ := rowsR w v (dn D 1) 0 2000 σ2 (by omega) (by omega) (g1.x f2) (fun i hi => by rw [(b2 206 i (by omega)).1]; exact a2 i hi) (fun r' x h => by omega) (fun r' x _ h1 h2 => b1 _ (by omega))
  rw [show fX11_findRank_82 2000 0 σ2 = _ from e3]
  have f3 : frX σ2 σ3 := fun x y a b d e => c3 x y d (by omega)
  refine wp_m (reduceR w (ncl D (dn D 0)) 0 2000 σ3 (by omega) (by omega) ⟨(g1.x f2).x f3, ?_, by rw [c2]; rfl, fun r x hr hx => c1 r x hr (by omega), fun x hx => by omega, fun i hi => ?_⟩) ?_
  · rw [(c3 168 63 (by omega) (by omega)).1, (b2 168 63 (by omega)).1]; exact a1
  · rw [(c3 206 i (by omega) (by omega)).1, (b2 206 i (by omega)).1]; exact a2 i hi
  · rintro _ σ4 ⟨d1, d2⟩
    exact ⟨d1, (((fr.t a3).t f2).t f3).t d2⟩
end RNK

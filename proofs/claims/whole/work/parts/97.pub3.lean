/-! pose, at, why, order, flip -/
def IPo (σ : gS) (D : DT) : Prop := (σ.1 0 6 = 0 ∧ σ.1 168 81 = 0) ∨ (σ.1 0 6 = 1 ∧ σ.1 168 81 = 1 ∧ ∃ P : PT, (∀ j, j < dn D 0 → pW P j ≤ 3) ∧ PCg σ D 133 134 135 P ∧ PCg σ D 219 220 221 P)
def KTu (σ : gS) (D : DT) (O : OT) : Prop := KTC σ D O ∧ KTR σ D O ∧ GOr D O
def pXp (h k : Nat) : Prop := ¬ (h = 0 ∧ k = 6) ∧ ¬ (132 ≤ h ∧ h ≤ 135) ∧ ¬ (h = 168 ∧ k = 81) ∧ ¬ (216 ≤ h ∧ h ≤ 221)
theorem stepC {p : Int32} (σ : gS) : fX10_isStep p σ = some (if 0 ≤ p.toInt ∧ p.toInt < 256 then 1 else 0, σ) := by
  have e : (256 : Int32).toInt = 256 := rfl
  rw [fX10_isStep]
  by_cases h1 : p < 0
  · have := lt32.mp h1
    rw [z32] at this
    rw [if_pos h1, fX10_isStep_15, fX10_isStep_16, gg_t (Or.inl rfl), if_neg (by omega)]
  · have a1 := mt lt32.mpr h1
    rw [z32] at a1
    rw [if_neg h1]
    by_cases h2 : 256 ≤ p
    · have := le32.mp h2
      rw [e] at this
      rw [if_pos h2, fX10_isStep_15, fX10_isStep_16, gg_t (Or.inl rfl), if_neg (by omega)]
    · have a2 := mt le32.mpr h2
      rw [e] at a2
      rw [if_neg h2, fX10_isStep_16, gg_t (Or.inr rfl), if_pos (by omega)]
theorem stepM {p : Int32} (σ : gS) : fX11_in p.toInt64 0 255 σ = some (if 0 ≤ p.toInt ∧ p.toInt < 256 then 1 else 0, σ) := by
  have e : (255 : Int64).toInt = 255 := rfl
  by_cases h : 0 ≤ p.toInt ∧ p.toInt < 256
  · rw [in_t (by rw [l32, z64, e]; omega), if_pos h]
  · rw [in_f (by rw [l32, z64, e]; omega), if_neg h]
def pcN (P : PT) (n : Nat) : Nat := sN (fun j => if pW P j = 0 then 1 else 0) n
section PUB4
variable {σ : gS} {t : Nat} {D : DT} {O : OT} {P : PT}
theorem hmC (w : WFa D) {pl : Nat} {hx hy : Nat} (hP : ∀ j, j < dn D 0 → pW P j ≤ 3) (hp : PCg σ D hx hy (pl + 3) P) : fX5_howMany pl (nI (dn D 0)) σ = some (nI (pcN P (dn D 0)), σ) := by
  have w4 := w.n4
  have key : ∀ (m i fu : Nat), i + m = dn D 0 → m < fu → fX5_howMany_4 pl (nI (dn D 0)) fu (nI (pcN P i)) (nI i) σ = some (nI (pcN P (dn D 0)), σ) := by
    intro m
    induction m with
    | zero =>
      intro i fu e hf
      obtain ⟨fu, rfl⟩ : ∃ y, fu = y + 1 := ⟨fu - 1, by omega⟩
      have : i = dn D 0 := by omega
      rw [fX5_howMany_4, if_pos (nI_le (by omega) (by omega)), this]
    | succ m ih =>
      intro i fu e hf
      obtain ⟨fu, rfl⟩ : ∃ y, fu = y + 1 := ⟨fu - 1, by omega⟩
      have h3 := hP i (by omega)
      have st : pcN P (i + 1) = pcN P i + (if pW P i = 0 then 1 else 0) := rfl
      rw [fX5_howMany_4, if_neg (nI_ge (by omega) (by omega)), nI_clamp (show i < 2 ^ 31 by omega), gg_ix (by omega) (by decide), (hp i (by omega)).1]
      by_cases q : pW P i = 0
      · rw [if_pos q] at st
        rw [if_pos (by rw [q]; rfl), bnd_r, fX5_howMany_21, bnd_r, nI_1, nI_1, ← st]
        exact ih (i + 1) fu (by omega) (by omega)
      · rw [if_neg q] at st
        have st : pcN P (i + 1) = pcN P i := st
        rw [if_neg (nI_ne (by omega) (by omega)), fX5_howMany_21, bnd_r, nI_1, ← st]
        exact ih (i + 1) fu (by omega) (by omega)
  rw [fX5_howMany]
  exact key (dn D 0) 0 2000 (by omega) (by omega)
theorem plcM (w : WFa D) (k : RD0 σ D) {hx hy : Nat} (hP : ∀ j, j < dn D 0 → pW P j ≤ 3) (hp : PCg σ D hx hy 218 P) : fX11_placed σ = some (nI (pcN P (dn D 0)), σ) := by
  have w4 := w.n4
  have e0 : σ.1 168 0 = nI (dn D 0) := k.1 0 (by decide)
  have key : ∀ (m i fu : Nat), i + m = dn D 0 → m < fu → fX11_placed_4 fu (nI (pcN P i)) (nI i) σ = some (nI (pcN P (dn D 0)), σ) := by
    intro m
    induction m with
    | zero =>
      intro i fu e hf
      obtain ⟨fu, rfl⟩ : ∃ y, fu = y + 1 := ⟨fu - 1, by omega⟩
      have : i = dn D 0 := by omega
      rw [fX11_placed_4, e0, if_pos (nI_le (by omega) (by omega)), this]
    | succ m ih =>
      intro i fu e hf
      obtain ⟨fu, rfl⟩ : ∃ y, fu = y + 1 := ⟨fu - 1, by omega⟩
      have h3 := hP i (by omega)
      have st : pcN P (i + 1) = pcN P i + (if pW P i = 0 then 1 else 0) := rfl
      rw [fX11_placed_4, e0, if_neg (nI_ge (by omega) (by omega)), nI_clamp (show i < 2 ^ 31 by omega), gg_ix (by omega) (by decide), (hp i (by omega)).1]
      by_cases q : pW P i = 0
      · rw [if_pos q] at st
        rw [if_pos (by rw [q]; rfl), fX11_placed_27, bnd_r, bnd_r, nI_1, nI_1, ← st]
        exact ih (i + 1) fu (by omega) (by omega)
      · rw [if_neg q] at st
        have st : pcN P (i + 1) = pcN P i := st
        rw [if_neg (nI_ne (by omega) (by omega)), fX11_placed_27, bnd_r, bnd_r, nI_1, Int32.add_zero, ← st]
        exact ih (i + 1) fu (by omega) (by omega)
  rw [fX11_placed]
  exact key (dn D 0) 0 2000 (by omega) (by omega)
theorem LkD.cd (h : LkD σ t D) : CD σ t D := h.2.2.2.2.2.1
theorem LkD.rd (h : LkD σ t D) : RD0 σ D := h.2.2.2.2.2.2
theorem pose_eq (h : LkD σ t D) (hK : KTu σ D O) (hI : IPo σ D) (p : Int32) : Ok (fX10_pose p σ) (fX11_pose p) (fun σ' => IPo σ' D ∧ Fr pXp σ σ') := by
  obtain ⟨h4, h1, h2, w, v, c, r⟩ := h
  obtain ⟨kc, kr, g⟩ := hK
  have w4 := w.n4
  by_cases hp : 0 ≤ p.toInt ∧ p.toInt < 256
  · obtain ⟨s, hs, rfl⟩ := nI_get (n := 256) hp.1 hp.2 (by omega)
    rcases hd : dd D with _ | ⟨a, b⟩
    · refine Ok.mk (r := -1000002) (r' := -1000002) (σ1 := σ) (σ2 := σ) ?_ ?_ rfl ⟨hI, fr_r _ σ⟩
      · rw [fX10_pose, stepC, if_pos hp, bd_r, i10, bnd_r, h1, gg_t h4, (c.2.2.2.2.1 hd).1, if_pos rfl]
      · rw [fX11_pose, stepM, if_pos hp, bd_r, i10, (r.2.2.2.2.2.2.1 hd).1, if_neg (by decide)]
    · obtain ⟨ha, hb, -, -, -⟩ := v.2.2.2.2 a b hd
      have n2 := onn_le w v g (by rw [hd]; simp)
      refine wp_ok ?_
      rw [fX10_pose, stepC, if_pos hp, bd_r, i10, bnd_r, h1, gg_t h4, (c.2.2.2.2.2 a b hd).1, if_neg (nI_nN (by omega)), bnd_r, gg_t h4, kc.1]
      refine wp_bw (arrC h4 w v c kc g hd hs (Or.inl rfl) (Nat.le_refl _)) ?_
      rintro _ σ1 ⟨p1, f1⟩
      have pb := arP_b w v g hd hs (onn O) (Nat.le_refl _)
      have p3 : ∀ j, j < dn D 0 → pW (arP D O s a b (onn O)) j ≤ 3 := fun j hj => (pb j hj).1
      have e1 : (gsI σ1 0 6 1).2.2 0 1 = t := by
        show σ1.2.2 0 1 = t
        rw [(f1 0 0 (by omega) (by omega) (by omega)).2.2]; exact h1
      have c1 : CD (gsI σ1 0 6 1) t D := (f1.cd (Or.inl rfl) h4 c).keep (fun x y a b => by rw [rI_h (by omega)])
      have s0 : fX3_size t 0 (gsI σ1 0 6 1) = some (nI (dn D 0), gsI σ1 0 6 1) := sizeD (f := 0) c1 (by decide)
      have p2 : PCg (gsI σ1 0 6 1) D 133 134 135 (arP D O s a b (onn O)) := p1.keep (fun x _ => by rw [rI_h (by decide)]) (fun x _ => rfl) (fun x _ => rfl)
      rw [bnd_r, bnd_r, e1, gg_t h4, s0, bd_r, hmC (pl := 132) w p3 p2, bd_r]
      refine wp_r ?_
      have f2 : ∀ x y, ¬ (x = 0 ∧ y = 6) → ¬ (132 ≤ x ∧ x ≤ 135) → sm σ (gsI σ1 0 6 1) x y := fun x y z1 z2 => sm_I (f1 x y (by omega) (by omega) (by omega)) (by omega) rfl
      have r1 : RD0 (gsI σ1 0 6 1) D := r.keep (fun x y z => (f2 x y (by unfold pR0 at z; omega) (by unfold pR0 at z; omega)).1)
      have kr1 : KTR (gsI σ1 0 6 1) D O := by
        have f : ∀ x y, 168 ≤ x → sm σ (gsI σ1 0 6 1) x y := fun x y z => f2 x y (by omega) (by omega)
        refine ⟨by rw [(f 168 69 (by omega)).1]; exact kr.1, fun i hi => by rw [(f 210 i (by omega)).1]; exact kr.2.1 i hi, fun j hj => ?_⟩
        rw [(f 211 j (by omega)).1, (f 212 j (by omega)).1, (f 213 j (by omega)).1, (f 215 j (by omega)).1]
        exact kr.2.2 j hj
      rw [fX11_pose, stepM, if_pos hp, bd_r, i10, (r1.2.2.2.2.2.2.2 a b hd).1, if_pos (nI_pos' (by omega))]
      refine wp_bw (turnM w v r1 kr1 g hd hs) ?_
      rintro _ σ2 ⟨q1, g1⟩
      rw [bnd_r]
      have key : ∀ (m i fu : Nat) (τ : gS), i + m = dn D 0 → m < fu → RD0 τ D → PCg τ D 216 217 218 (arP D O s a b (onn O)) → (∀ x y, ¬ (219 ≤ x ∧ x ≤ 221) → sm (gsI σ2 168 81 1) τ x y) → (∀ x, x < i → τ.1 221 x = τ.1 218 x ∧ τ.2.1 219 x = τ.2.1 216 x ∧ τ.2.1 220 x = τ.2.1 217 x) → Wp (fX11_pose_38 (nI s) fu (nI i) τ) (fun r' σ2 => r' = nI (pcN (arP D O s a b (onn O)) (dn D 0)) ∧ IPo σ2 D ∧ Fr pXp σ σ2) := by
        intro m
        induction m with
        | zero =>
          intro i fu τ e hf k q fr hx
          obtain ⟨fu, rfl⟩ : ∃ y, fu = y + 1 := ⟨fu - 1, by omega⟩
          have e0 : τ.1 168 0 = nI (dn D 0) := k.1 0 (by decide)
          rw [fX11_pose_38, e0, if_pos (nI_le (by omega) (by omega)), plcM w k p3 q, bd_r]
          refine wp_r ⟨rfl, Or.inr ⟨?_, ?_, arP D O s a b (onn O), p3, ?_, ?_⟩, fun x y z => ?_⟩
          · rw [(fr 0 6 (by omega)).1, rI_h (by decide), (g1 0 6 (by omega) (by omega) (by omega)).1, rI_s]
          · rw [(fr 168 81 (by omega)).1, rI_s]
          · refine p2.keep (fun x _ => ?_) (fun x _ => ?_) (fun x _ => ?_)
            · rw [(fr 135 x (by omega)).1, rI_h (by decide), (g1 135 x (by omega) (by omega) (by omega)).1]
            · rw [(fr 133 x (by omega)).2.1]; exact (g1 133 x (by omega) (by omega) (by omega)).2.1
            · rw [(fr 134 x (by omega)).2.1]; exact (g1 134 x (by omega) (by omega) (by omega)).2.1
          · intro x hx'
            obtain ⟨z1, z2, z3⟩ := hx x (by omega)
            rw [z1, z2, z3]
            exact q x hx'
          · obtain ⟨z1, z2, z3, z4⟩ := z
            have a1 := f2 x y z1 z2
            have a2 := g1 x y (by omega) (by omega) (by omega)
            have a3 := sm_t (sm_t a1 (sm_I a2 (show ¬ (x = 168 ∧ y = 81) by omega) rfl)) (fr x y (by omega))
            exact ⟨a3.1, a3.2.1, by rw [a3.2.2]⟩
        | succ m ih =>
          intro i fu τ e hf k q fr hx
          obtain ⟨fu, rfl⟩ : ∃ y, fu = y + 1 := ⟨fu - 1, by omega⟩
          have hi : i < dn D 0 := by omega
          have e0 : τ.1 168 0 = nI (dn D 0) := k.1 0 (by decide)
          have cli : (nI i).toNatClampNeg = i := nI_clamp (by omega)
          rw [fX11_pose_38, e0, if_neg (nI_ge (by omega) (by omega)), cli, gg_ix (by omega) (by decide), gg_ix (by omega) (by decide), bnd_r, gg_ix (by omega) (by decide), gg_ix (by omega) (by decide), bnd_r, gg_ix (by omega) (by decide), gg_ix (by omega) (by decide), bnd_r, bnd_r, nI_1, rJ_h (show (217 : Nat) ≠ 219 by decide), gsJ_1, gsJ_1]
          have ff : ∀ x y, ¬ (219 ≤ x ∧ x ≤ 221) → sm τ (gsI (gsJ (gsJ τ 219 i (τ.2.1 216 i)) 220 i (τ.2.1 217 i)) 221 i (τ.1 218 i)) x y := fun x y z => sm_I (sm_J (sm_J (sm_r τ x y) (by omega) rfl) (by omega) rfl) (by omega) rfl
          refine ih (i + 1) fu _ (by omega) (by omega) (k.keep (fun x y z => (ff x y (by unfold pR0 at z; omega)).1)) (q.keep (fun x _ => (ff 218 x (by omega)).1) (fun x _ => (ff 216 x (by omega)).2.1) (fun x _ => (ff 217 x (by omega)).2.1)) (fun x y z => sm_t (fr x y z) (ff x y z)) (fun x hx' => ?_)
          rw [(ff 218 x (by omega)).1, (ff 216 x (by omega)).2.1, (ff 217 x (by omega)).2.1, gsI_2]
          by_cases z : x = i
          · subst z
            rw [rI_s, rJ_h (show (219 : Nat) ≠ 220 by decide), rJ_s, rJ_s]
            exact ⟨rfl, rfl, rfl⟩
          · rw [rI_k z, gsJ_1, gsJ_1, rJ_k z, rJ_k z, rJ_k z, rJ_k z]
            exact hx x (by omega)
      have g2 : ∀ x y, ¬ (216 ≤ x ∧ x ≤ 218) → ¬ (x = 168 ∧ y = 81) → sm (gsI σ1 0 6 1) (gsI σ2 168 81 1) x y := fun x y z1 z2 => sm_I (g1 x y (by omega) (by omega) (by omega)) (by omega) rfl
      exact key (dn D 0) 0 2000 (gsI σ2 168 81 1) (by omega) (by omega) (r1.keep (fun x y z => (g2 x y (by unfold pR0 at z; omega) (by unfold pR0 at z; omega)).1)) (q1.keep (fun x _ => by rw [rI_h (by decide)]) (fun x _ => rfl) (fun x _ => rfl)) (fun x y _ => sm_r _ x y) (fun x h => absurd h (Nat.not_lt_zero x))
  · refine Ok.mk (r := -1000001) (r' := -1000001) (σ1 := σ) (σ2 := σ) ?_ ?_ rfl ⟨hI, fr_r _ σ⟩
    · rw [fX10_pose, stepC, if_neg hp, bd_r, i00]
    · rw [fX11_pose, stepM, if_neg hp, bd_r, i00]
theorem ax01 {p : Int32} (σ : gS) : fX11_in p.toInt64 0 1 σ = some (if 0 ≤ p.toInt ∧ p.toInt ≤ 1 then 1 else 0, σ) := by
  have e : (1 : Int64).toInt = 1 := rfl
  by_cases h : 0 ≤ p.toInt ∧ p.toInt ≤ 1
  · rw [in_t (by rw [l32, z64, e]; omega), if_pos h]
  · rw [in_f (by rw [l32, z64, e]; omega), if_neg h]
theorem at_eq (h : LkD σ t D) (hI : IPo σ D) (p q : Int32) : Ok (fX10_at p q σ) (fX11_at p q) (fun σ' => σ' = σ) := by
  have k := h.k
  have w4 := h.2.2.2.1.n4
  by_cases hp : 0 ≤ p.toInt ∧ p.toInt < dn D 0
  · obtain ⟨j, hj, rfl⟩ := nI_get (n := dn D 0) hp.1 hp.2 (by omega)
    have m1 : fX10_isMember 0 (nI j) σ = some (1, σ) := isM_yes (f := 0) k (by decide) hj
    have clj : (nI j).toNatClampNeg = j := nI_clamp (by omega)
    by_cases hq : 0 ≤ q.toInt ∧ q.toInt ≤ 1
    · rcases hI with ⟨i1, i2⟩ | ⟨i1, i2, P, hP, q1, q2⟩
      · refine Ok.mk (r := -1000002) (r' := -1000002) (σ1 := σ) (σ2 := σ) ?_ ?_ rfl rfl
        · rw [fX10_at, m1, bd_r, i10, axisC, bd_r, if_pos hq, i10, i1, i00]
        · rw [fX11_at, isJ_yes k hj, bd_r, i10, ax01, if_pos hq, bd_r, i10, i2, i00, fX11_at_69]
      · have b3 := hP j hj
        by_cases z : pW P j = 0
        · by_cases q0 : q = 0
          · refine Ok.mk (r := pX P j) (r' := pX P j) (σ1 := σ) (σ2 := σ) ?_ ?_ rfl rfl
            · rw [fX10_at, m1, bd_r, i10, axisC, bd_r, if_pos hq, i10, i1, i10, clj, gg_ix (by omega) (by decide), (q1 j hj).1, if_pos (by rw [z]; rfl), if_pos q0, gg_ix (by omega) (by decide), ((q1 j hj).2 z).1, fX10_at_72]
            · rw [fX11_at, isJ_yes k hj, bd_r, i10, ax01, if_pos hq, bd_r, i10, i2, i10, clj, gg_ix (by omega) (by decide), (q2 j hj).1, if_pos (by rw [z]; rfl), if_pos q0, gg_ix (by omega) (by decide), ((q2 j hj).2 z).1, fX11_at_69]
          · refine Ok.mk (r := pY P j) (r' := pY P j) (σ1 := σ) (σ2 := σ) ?_ ?_ rfl rfl
            · rw [fX10_at, m1, bd_r, i10, axisC, bd_r, if_pos hq, i10, i1, i10, clj, gg_ix (by omega) (by decide), (q1 j hj).1, if_pos (by rw [z]; rfl), if_neg q0, gg_ix (by omega) (by decide), ((q1 j hj).2 z).2, fX10_at_72]
            · rw [fX11_at, isJ_yes k hj, bd_r, i10, ax01, if_pos hq, bd_r, i10, i2, i10, clj, gg_ix (by omega) (by decide), (q2 j hj).1, if_pos (by rw [z]; rfl), if_neg q0, gg_ix (by omega) (by decide), ((q2 j hj).2 z).2, fX11_at_69]
        · refine Ok.mk (r := -1000000) (r' := -1000000) (σ1 := σ) (σ2 := σ) ?_ ?_ rfl rfl
          · rw [fX10_at, m1, bd_r, i10, axisC, bd_r, if_pos hq, i10, i1, i10, clj, gg_ix (by omega) (by decide), (q1 j hj).1, if_neg (nI_ne (by omega) (by omega))]
          · rw [fX11_at, isJ_yes k hj, bd_r, i10, ax01, if_pos hq, bd_r, i10, i2, i10, clj, gg_ix (by omega) (by decide), (q2 j hj).1, if_neg (nI_ne (by omega) (by omega)), fX11_at_69]
    · refine Ok.mk (r := -1000001) (r' := -1000001) (σ1 := σ) (σ2 := σ) ?_ ?_ rfl rfl
      · rw [fX10_at, m1, bd_r, i10, axisC, bd_r, if_neg hq, i00, fX10_at_16]
      · rw [fX11_at, isJ_yes k hj, bd_r, i10, ax01, if_neg hq, bd_r, i00, fX11_at_18]
  · have m1 : fX10_isMember 0 p σ = some (0, σ) := isM_no (f := 0) k (by decide) hp
    refine Ok.mk (r := -1000001) (r' := -1000001) (σ1 := σ) (σ2 := σ) ?_ ?_ rfl rfl
    · rw [fX10_at, m1, bd_r, i00, fX10_at_16]
    · rw [fX11_at, isJ_no k hp, bd_r, i00, fX11_at_18]
theorem why_eq (h : LkD σ t D) (hI : IPo σ D) (p : Int32) : Ok (fX10_why p σ) (fX11_why p) (fun σ' => σ' = σ) := by
  have k := h.k
  have w4 := h.2.2.2.1.n4
  by_cases hp : 0 ≤ p.toInt ∧ p.toInt < dn D 0
  · obtain ⟨j, hj, rfl⟩ := nI_get (n := dn D 0) hp.1 hp.2 (by omega)
    have m1 : fX10_isMember 0 (nI j) σ = some (1, σ) := isM_yes (f := 0) k (by decide) hj
    have clj : (nI j).toNatClampNeg = j := nI_clamp (by omega)
    rcases hI with ⟨i1, i2⟩ | ⟨i1, i2, P, hP, q1, q2⟩
    · refine Ok.mk (r := -1000002) (r' := -1000002) (σ1 := σ) (σ2 := σ) ?_ ?_ rfl rfl
      · rw [fX10_why, m1, bd_r, i10, i1, i00, fX10_why_33]
      · rw [fX11_why, isJ_yes k hj, bd_r, i10, i2, i00, fX11_why_32]
    · refine Ok.mk (r := nI (pW P j)) (r' := nI (pW P j)) (σ1 := σ) (σ2 := σ) ?_ ?_ rfl rfl
      · rw [fX10_why, m1, bd_r, i10, i1, i10, clj, gg_ix (by omega) (by decide), (q1 j hj).1, fX10_why_33]
      · rw [fX11_why, isJ_yes k hj, bd_r, i10, i2, i10, clj, gg_ix (by omega) (by decide), (q2 j hj).1, fX11_why_32]
  · have m1 : fX10_isMember 0 p σ = some (0, σ) := isM_no (f := 0) k (by decide) hp
    refine Ok.mk (r := -1000001) (r' := -1000001) (σ1 := σ) (σ2 := σ) ?_ ?_ rfl rfl
    · rw [fX10_why, m1, bd_r, i00]
    · rw [fX11_why, isJ_no k hp, bd_r, i00, fX11_why_32]
theorem order_eq (h : LkD σ t D) (hK : KTu σ D O) (p q : Int32) : Ok (fX10_order p q σ) (fX11_order p q) (fun σ' => σ' = σ) := by
  obtain ⟨h4, h1, h2, w, v, c, r⟩ := h
  obtain ⟨kc, kr, g⟩ := hK
  have w4 := w.n4
  have n24 := onn_24 w g
  have e2 : (2 : Int32).toInt = 2 := rfl
  have e2' : (2 : Int64).toInt = 2 := rfl
  by_cases hq : 0 ≤ q.toInt ∧ q.toInt ≤ 2
  · have q1 : ¬ q < 0 := fun z => by have := lt32.mp z; rw [z32] at this; omega
    have q2 : q ≤ 2 := le32.mpr (by rw [e2]; exact hq.2)
    have q3 : fX11_in q.toInt64 0 2 σ = some (1, σ) := in_t (by rw [l32, z64, e2']; exact hq)
    rcases hd : dd D with _ | ⟨a, b⟩
    · refine Ok.mk (r := -1000002) (r' := -1000002) (σ1 := σ) (σ2 := σ) ?_ ?_ rfl rfl
      · rw [fX10_order, if_neg q1, if_pos q2, bnd_r, h1, gg_t h4, (c.2.2.2.2.1 hd).1, if_pos rfl]
      · rw [fX11_order, q3, bd_r, i10, (r.2.2.2.2.2.2.1 hd).1, if_neg (by decide)]
    · obtain ⟨ha, hb, -, -, -⟩ := v.2.2.2.2 a b hd
      have n2 := onn_le w v g (by rw [hd]; simp)
      have c8 := (c.2.2.2.2.2 a b hd).1
      have r8 := (r.2.2.2.2.2.2.2 a b hd).1
      by_cases hp : 0 ≤ p.toInt ∧ p.toInt < onn O
      · obtain ⟨i, hi, rfl⟩ := nI_get (n := onn O) hp.1 hp.2 (by omega)
        have cli : (nI i).toNatClampNeg = i := nI_clamp (by omega)
        obtain ⟨g1, g2, g3⟩ := g.2.1 i hi
        have clq : (nI (osq O i)).toNatClampNeg = osq O i := nI_clamp (by omega)
        obtain ⟨-, k2⟩ := kc.2.2 (osq O i) g1
        obtain ⟨c7, c8', -, -, -⟩ := k2 g3
        obtain ⟨-, k3⟩ := kr.2.2 (osq O i) g1
        obtain ⟨-, r7, r8', -⟩ := k3 g3
        have lt : nI i < nI (onn O) := nI_lt hi (by omega)
        by_cases z0 : q = 0
        · refine Ok.mk (r := nI (osq O i)) (r' := nI (osq O i)) (σ1 := σ) (σ2 := σ) ?_ ?_ rfl rfl
          · rw [fX10_order, if_neg q1, if_pos q2, bnd_r, h1, gg_t h4, c8, if_neg (nI_nN (by omega)), if_neg (nI_pos (by omega)), kc.1, if_pos lt, cli, gg_ix (by omega) (by decide), if_pos z0, kc.2.1 i hi]
          · rw [fX11_order, q3, bd_r, i10, r8, if_pos (nI_pos' (by omega)), kr.1, inM (by omega), if_pos hp, bd_r, i10, cli, gg_ix (by omega) (by decide), if_pos z0, kr.2.1 i hi, fX11_order_80]
        · by_cases z1 : q = 1
          · refine Ok.mk (r := nI (oA O (osq O i))) (r' := nI (oA O (osq O i))) (σ1 := σ) (σ2 := σ) ?_ ?_ rfl rfl
            · rw [fX10_order, if_neg q1, if_pos q2, bnd_r, h1, gg_t h4, c8, if_neg (nI_nN (by omega)), if_neg (nI_pos (by omega)), kc.1, if_pos lt, cli, gg_ix (by omega) (by decide), if_neg z0, if_pos z1, kc.2.1 i hi, clq, gg_ix (by omega) (by decide), c7]
            · rw [fX11_order, q3, bd_r, i10, r8, if_pos (nI_pos' (by omega)), kr.1, inM (by omega), if_pos hp, bd_r, i10, cli, gg_ix (by omega) (by decide), if_neg z0, if_pos z1, kr.2.1 i hi, clq, gg_ix (by omega) (by decide), r7, fX11_order_80]
          · refine Ok.mk (r := nI (oB O (osq O i))) (r' := nI (oB O (osq O i))) (σ1 := σ) (σ2 := σ) ?_ ?_ rfl rfl
            · rw [fX10_order, if_neg q1, if_pos q2, bnd_r, h1, gg_t h4, c8, if_neg (nI_nN (by omega)), if_neg (nI_pos (by omega)), kc.1, if_pos lt, cli, gg_ix (by omega) (by decide), if_neg z0, if_neg z1, kc.2.1 i hi, clq, gg_ix (by omega) (by decide), c8']
            · rw [fX11_order, q3, bd_r, i10, r8, if_pos (nI_pos' (by omega)), kr.1, inM (by omega), if_pos hp, bd_r, i10, cli, gg_ix (by omega) (by decide), if_neg z0, if_neg z1, kr.2.1 i hi, clq, gg_ix (by omega) (by decide), r8', fX11_order_80]
      · refine Ok.mk (r := -1000000) (r' := -1000000) (σ1 := σ) (σ2 := σ) ?_ ?_ rfl rfl
        · rw [fX10_order, if_neg q1, if_pos q2, bnd_r, h1, gg_t h4, c8, if_neg (nI_nN (by omega)), kc.1]
          by_cases y : p < 0
          · rw [if_pos y, fX10_order_42]
          · have := mt lt32.mpr y
            rw [z32] at this
            rw [if_neg y, if_neg (fun z => by have := lt32.mp z; rw [nI_toInt (by omega)] at this; omega), fX10_order_42]
        · rw [fX11_order, q3, bd_r, i10, r8, if_pos (nI_pos' (by omega)), kr.1, inM (by omega), if_neg hp, bd_r, i00]
  · refine Ok.mk (r := -1000001) (r' := -1000001) (σ1 := σ) (σ2 := σ) ?_ ?_ rfl rfl
    · rw [fX10_order]
      by_cases y : q < 0
      · rw [if_pos y, fX10_order_9]
      · have := mt lt32.mpr y
        rw [z32] at this
        rw [if_neg y, if_neg (fun z => by have := le32.mp z; rw [e2] at this; omega), fX10_order_9]
    · rw [fX11_order, in_f (by rw [l32, z64, e2']; exact hq), bd_r, i00]
def pXf (h _k : Nat) : Prop := h ≠ 129 ∧ h ≠ 215
theorem neg1 {x : Int32} (h : x = 1 ∨ x = -1) : -x = 1 ∨ -x = -1 := by
  rcases h with rfl | rfl
  · exact Or.inr rfl
  · exact Or.inl rfl
theorem flip_eq (h : LkD σ t D) (hK : KTu σ D O) (p : Int32) : Ok (fX10_flip p σ) (fX11_flip p) (fun σ' => (∃ O', KTu σ' D O') ∧ Fr pXf σ σ') := by
  have k := h.k
  obtain ⟨h4, h1, h2, w, v, c, r⟩ := h
  have hK0 := hK
  obtain ⟨kc, kr, g⟩ := hK
  have w4 := w.n4
  by_cases hp : 0 ≤ p.toInt ∧ p.toInt < dn D 0
  · obtain ⟨j, hj, rfl⟩ := nI_get (n := dn D 0) hp.1 hp.2 (by omega)
    have m1 : fX10_isMember 0 (nI j) σ = some (1, σ) := isM_yes (f := 0) k (by decide) hj
    have clj : (nI j).toNatClampNeg = j := nI_clamp (by omega)
    rcases hd : dd D with _ | ⟨a, b⟩
    · refine Ok.mk (r := -1000002) (r' := -1000002) (σ1 := σ) (σ2 := σ) ?_ ?_ rfl ⟨⟨O, hK0⟩, fr_r _ σ⟩
      · rw [fX10_flip, m1, bd_r, i10, bnd_r, h1, gg_t h4, (c.2.2.2.2.1 hd).1, if_pos rfl, fX10_flip_38]
      · rw [fX11_flip, isJ_yes k hj, bd_r, i10, (r.2.2.2.2.2.2.1 hd).1, if_pos (by decide), fX11_flip_27]
    · obtain ⟨ha, hb, -, -, -⟩ := v.2.2.2.2 a b hd
      have c8 := (c.2.2.2.2.2 a b hd).1
      have r8 := (r.2.2.2.2.2.2.2 a b hd).1
      rcases g.2.2.2.1 j with z | ⟨-, z1, z2, z3⟩
      · refine Ok.mk (r := -1000002) (r' := -1000002) (σ1 := σ) (σ2 := σ) ?_ ?_ rfl ⟨⟨O, hK0⟩, fr_r _ σ⟩
        · rw [fX10_flip, m1, bd_r, i10, bnd_r, h1, gg_t h4, c8, if_neg (nI_nN (by omega)), clj, gg_ix (by omega) (by decide), (kc.2.2 j hj).1 z, if_pos rfl, fX10_flip_38]
        · rw [fX11_flip, isJ_yes k hj, bd_r, i10, r8, if_neg (nI_pos (by omega)), clj, gg_ix (by omega) (by decide), (kr.2.2 j hj).1 z, if_pos rfl, fX11_flip_27]
      · have hA : oA O j < 24 := by omega
        obtain ⟨c7, c8', c9, c10, c11⟩ := (kc.2.2 j hj).2 hA
        obtain ⟨r6, r7, r8', r9⟩ := (kr.2.2 j hj).2 hA
        refine Ok.mk (r := -(osd O j)) (r' := -(osd O j)) (σ1 := gsI σ 129 j (-(osd O j))) (σ2 := gsI (gsI σ 129 j (-(osd O j))) 215 j (-(osd O j))) ?_ ?_ rfl ⟨⟨(oth O, onn O, osq O, oA O, oB O, up (osd O) j (-(osd O j))), ?_, ?_, ?_⟩, fun x y ⟨x1, x2⟩ => ⟨by rw [rI_h x2, rI_h x1], rfl, rfl⟩⟩
        · rw [fX10_flip, m1, bd_r, i10, bnd_r, h1, gg_t h4, c8, if_neg (nI_nN (by omega)), clj, gg_ix (by omega) (by decide), c7, if_neg (nI_nN (by omega)), gg_ix (by omega) (by decide), gg_ix (by omega) (by decide), bnd_r, gg_ix (by omega) (by decide), c9, rI_s]
        · have k1 : Lk (gsI σ 129 j (-(osd O j))) t (dn D) (dk D) (du D) (dm D) := k.keep (fun x y z => by rw [rI_h (by unfold pLkU at z; omega)]) rfl rfl
          rw [fX11_flip, isJ_yes k1 hj, bd_r, i10, rI_h (show (168 : Nat) ≠ 129 by decide), r8, if_neg (nI_pos (by omega)), clj, gg_ix (by omega) (by decide), rI_h (show (213 : Nat) ≠ 129 by decide), r6, i10, gg_ix (by omega) (by decide), gg_ix (by omega) (by decide), bnd_r, gg_ix (by omega) (by decide), rI_h (show (215 : Nat) ≠ 129 by decide), r9, rI_s]
        · refine ⟨by rw [rI_h (by decide), rI_h (by decide)]; exact kc.1, fun i hi => by rw [rI_h (by decide), rI_h (by decide)]; exact kc.2.1 i hi, fun x hx => ?_⟩
          rw [rI_h (show (127 : Nat) ≠ 215 by decide), rI_h (show (127 : Nat) ≠ 129 by decide), rI_h (show (128 : Nat) ≠ 215 by decide), rI_h (show (128 : Nat) ≠ 129 by decide), rI_h (show (129 : Nat) ≠ 215 by decide), gsI_2, gsI_2]
          refine ⟨(kc.2.2 x hx).1, fun q => ?_⟩
          obtain ⟨d7, d8, d9, d10, d11⟩ := (kc.2.2 x hx).2 q
          refine ⟨d7, d8, ?_, d10, d11⟩
          show _ = up (osd O) j (-(osd O j)) x
          by_cases y : x = j
          · subst y; rw [rI_s, up_s]
          · rw [rI_k y, up_o y]; exact d9
        · refine ⟨by rw [rI_h (by decide), rI_h (by decide)]; exact kr.1, fun i hi => by rw [rI_h (by decide), rI_h (by decide)]; exact kr.2.1 i hi, fun x hx => ?_⟩
          rw [rI_h (show (213 : Nat) ≠ 215 by decide), rI_h (show (213 : Nat) ≠ 129 by decide), rI_h (show (211 : Nat) ≠ 215 by decide), rI_h (show (211 : Nat) ≠ 129 by decide), rI_h (show (212 : Nat) ≠ 215 by decide), rI_h (show (212 : Nat) ≠ 129 by decide)]
          refine ⟨(kr.2.2 x hx).1, fun q => ?_⟩
          obtain ⟨d6, d7, d8, d9⟩ := (kr.2.2 x hx).2 q
          refine ⟨d6, d7, d8, ?_⟩
          show _ = up (osd O) j (-(osd O j)) x
          by_cases y : x = j
          · subst y; rw [rI_s, up_s]
          · rw [rI_k y, up_o y, rI_k y]; exact d9
        · refine ⟨g.1, g.2.1, g.2.2.1, fun x => ?_, g.2.2.2.2⟩
          rcases g.2.2.2.1 x with y | ⟨y0, y1, y2, y3⟩
          · exact Or.inl y
          · refine Or.inr ⟨y0, y1, y2, ?_⟩
            show up (osd O) j (-(osd O j)) x = 1 ∨ up (osd O) j (-(osd O j)) x = -1
            by_cases yy : x = j
            · subst yy; rw [up_s]; exact neg1 y3
            · rw [up_o yy]; exact y3
  · have m1 : fX10_isMember 0 p σ = some (0, σ) := isM_no (f := 0) k (by decide) hp
    refine Ok.mk (r := -1000001) (r' := -1000001) (σ1 := σ) (σ2 := σ) ?_ ?_ rfl ⟨⟨O, hK0⟩, fr_r _ σ⟩
    · rw [fX10_flip, m1, bd_r, i00]
    · rw [fX11_flip, isJ_no k hp, bd_r, i00]
end PUB4

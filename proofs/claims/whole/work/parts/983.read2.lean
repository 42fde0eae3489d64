/-! the invariant; what each part of it rests on -/
def eqA (σ σ' : gS) (x y : Nat) : Prop := σ'.1 x y = σ.1 x y ∧ σ'.2.1 x y = σ.2.1 x y ∧ σ'.2.2 x y = σ.2.2 x y
def Inv (σ : gS) : Prop := ∃ (t : Nat) (D : DT) (O : OT), LkD σ t D ∧ KC σ D ∧ KR σ D ∧ KM σ D ∧ KTu σ D O ∧ IPo σ D ∧ ICu σ ∧ iRows σ ∧ iTape σ ∧ (∀ w, w < 12 → σ.1 3 w = nI (c27 (WL w))) ∧ σ.1 1 9 = σ.1 168 50 ∧ iAsk σ
section KEEP
variable {σ σ' : gS} {t : Nat} {D : DT} {O : OT}
theorem LkD.keep (h : LkD σ t D) (f : ∀ x y, (x = 0 ∧ y = 1) ∨ (x = 1 ∧ y = 3) ∨ (4 ≤ x ∧ x ≤ 27) ∨ pR0 x y → eqA σ σ' x y) : LkD σ' t D := by
  obtain ⟨h4, h1, h2, w, v, c, r⟩ := h
  exact ⟨h4, by rw [(f 0 1 (by omega)).2.2]; exact h1, by rw [(f 1 3 (by omega)).2.2]; exact h2, w, v, c.keep (fun x y a b => (f x y (by omega)).1), r.keep (fun x y a => (f x y (Or.inr (Or.inr (Or.inr a)))).1)⟩
theorem KC.keep (h : KC σ D) (f : ∀ x y, 28 ≤ x → x ≤ 58 → σ'.1 x y = σ.1 x y) : KC σ' D := by
  unfold KC TB at h ⊢
  rw [f 28 7 (by omega) (by omega), f 28 6 (by omega) (by omega), f 28 8 (by omega) (by omega), f 28 9 (by omega) (by omega)]
  simp only [f 56 _ (by omega) (by omega), f 57 _ (by omega) (by omega), f 58 _ (by omega) (by omega)]
  exact h
theorem KR.keep (h : KR σ D) (f : ∀ x y, (x = 168 ∧ (y = 52 ∨ y = 57)) ∨ x = 200 ∨ x = 202 → σ'.1 x y = σ.1 x y) : KR σ' D := by
  unfold KR at h ⊢
  rw [f 168 52 (by omega), f 168 57 (by omega)]
  simp only [f 200 _ (Or.inr (Or.inl rfl)), f 202 _ (Or.inr (Or.inr rfl))]
  exact h
theorem RF.keep (h : RF σ) (f : ∀ y, σ'.2.2 60 y = σ.2.2 60 y) : RF σ' := by
  unfold RF at h ⊢
  simp only [f]
  exact h
theorem KM.keep (h : KM σ D) (w : WFa D) (f : ∀ x y, 59 ≤ x → x ≤ 123 → σ'.1 x y = σ.1 x y) (g : ∀ y, σ'.2.2 60 y = σ.2.2 60 y) : KM σ' D := by
  obtain ⟨⟨h1, h2, h3, h4, h5, h6, h7⟩, h8⟩ := h
  have w4 := w.n4
  refine ⟨⟨h1.keep g, by rw [f 59 1 (by omega) (by omega)]; exact h2, by rw [f 59 2 (by omega) (by omega)]; exact h3, by rw [f 59 3 (by omega) (by omega)]; exact h4, fun r k hr hk => ?_, fun x hx => by rw [f 122 x (by omega) (by omega)]; exact h6 x hx, fun y hy => by rw [f 123 y (by omega) (by omega)]; exact h7 y hy⟩, fun i hi => by rw [f 121 i (by omega) (by omega)]; exact h8 i hi⟩
  have hr' : r < dn D 1 := hr
  have b := h1.1 r (by omega)
  rw [g, f _ k (by omega) (by omega)]
  exact h5 r k hr hk
theorem KTC.keep (h : KTC σ D O) (f : ∀ x y, 124 ≤ x → x ≤ 131 → eqA σ σ' x y) : KTC σ' D O := by
  refine ⟨by rw [(f 124 1 (by omega) (by omega)).1]; exact h.1, fun i hi => by rw [(f 125 i (by omega) (by omega)).1]; exact h.2.1 i hi, fun j hj => ?_⟩
  rw [(f 127 j (by omega) (by omega)).1, (f 128 j (by omega) (by omega)).1, (f 129 j (by omega) (by omega)).1, (f 130 j (by omega) (by omega)).2.1, (f 131 j (by omega) (by omega)).2.1]
  exact h.2.2 j hj
theorem KTR.keep (h : KTR σ D O) (f : ∀ x y, (x = 168 ∧ y = 69) ∨ (210 ≤ x ∧ x ≤ 215) → σ'.1 x y = σ.1 x y) : KTR σ' D O := by
  refine ⟨by rw [f 168 69 (by omega)]; exact h.1, fun i hi => by rw [f 210 i (by omega)]; exact h.2.1 i hi, fun j hj => ?_⟩
  rw [f 211 j (by omega), f 212 j (by omega), f 213 j (by omega), f 215 j (by omega)]
  exact h.2.2 j hj
theorem KTu.keep (h : KTu σ D O) (f : ∀ x y, (124 ≤ x ∧ x ≤ 131) ∨ (x = 168 ∧ y = 69) ∨ (210 ≤ x ∧ x ≤ 215) → eqA σ σ' x y) : KTu σ' D O := ⟨h.1.keep (fun x y a b => f x y (by omega)), h.2.1.keep (fun x y a => (f x y (by omega)).1), h.2.2⟩
theorem IPo.keep (h : IPo σ D) (f : ∀ x y, (x = 0 ∧ y = 6) ∨ (x = 168 ∧ y = 81) ∨ (133 ≤ x ∧ x ≤ 135) ∨ (219 ≤ x ∧ x ≤ 221) → eqA σ σ' x y) : IPo σ' D := by
  unfold IPo at h ⊢
  rw [(f 0 6 (by omega)).1, (f 168 81 (by omega)).1]
  rcases h with h | ⟨a, b, P, c, d, e⟩
  · exact Or.inl h
  · exact Or.inr ⟨a, b, P, c, d.keep (fun x _ => (f 135 x (by omega)).1) (fun x _ => (f 133 x (by omega)).2.1) (fun x _ => (f 134 x (by omega)).2.1), e.keep (fun x _ => (f 221 x (by omega)).1) (fun x _ => (f 219 x (by omega)).2.1) (fun x _ => (f 220 x (by omega)).2.1)⟩
theorem ICu.keep (h : ICu σ) (f : ∀ x y, (x = 136 ∧ y = 0) ∨ (x = 168 ∧ y = 85) ∨ (137 ≤ x ∧ x ≤ 139) ∨ (222 ≤ x ∧ x ≤ 224) → eqA σ σ' x y) : ICu σ' := by
  unfold ICu at h ⊢
  rw [(f 136 0 (by omega)).1, (f 168 85 (by omega)).1]
  rcases h with h | ⟨a, b, c⟩
  · exact Or.inl h
  · refine Or.inr ⟨a, b, fun s hs => ?_⟩
    rw [(f 139 s (by omega)).1, (f 224 s (by omega)).1, (f 137 s (by omega)).2.1, (f 138 s (by omega)).2.1, (f 222 s (by omega)).2.1, (f 223 s (by omega)).2.1]
    exact c s hs
theorem iRows.keep (h : iRows σ) (f : ∀ x y, (x = 0 ∧ y = 11) ∨ (x = 168 ∧ y = 94) ∨ (152 ≤ x ∧ x ≤ 167) ∨ (229 ≤ x ∧ x ≤ 231) → eqA σ σ' x y) : iRows σ' :=
  ⟨by rw [(f 0 11 (by omega)).1, (f 168 94 (by omega)).1]; exact h.1, fun i hi => iRow_keep2 (h.2 i hi) (fun k => ⟨(f _ k (by omega)).1, (f 229 i (by omega)).1, (f 230 i (by omega)).1⟩) (fun j hj => ⟨(f _ j (by omega)).2.1, (f 231 _ (by omega)).2.1⟩)⟩
theorem iTape.keep (h : iTape σ) (f : ∀ x y, (x = 1 ∧ y = 1) ∨ x = 2 ∨ (x = 168 ∧ y = 43) ∨ x = 197 → eqA σ σ' x y) : iTape σ' := by
  obtain ⟨m, a, b, c, d⟩ := h
  refine ⟨m, a, by rw [(f 1 1 (by omega)).1]; exact b, by rw [(f 168 43 (by omega)).1]; exact c, fun i hi => ?_⟩
  rw [(f 197 i (by omega)).1, (f 2 i (by omega)).1]
  exact d i hi
theorem iAsk.keep (h : iAsk σ) (f : ∀ x y, x = 149 ∨ x = 150 ∨ (x = 168 ∧ y = 96) ∨ x = 228 → eqA σ σ' x y) : iAsk σ' := by
  obtain ⟨k, a, b, c, d⟩ := h
  refine ⟨k, a, by rw [(f 149 1 (by omega)).1]; exact b, by rw [(f 168 96 (by omega)).1]; exact c, fun i hi => ?_⟩
  rw [(f 150 i (by omega)).1, (f 228 i (by omega)).1]
  exact d i hi
end KEEP
theorem sm_A {σ σ' : gS} {x y : Nat} (h : sm σ σ' x y) : eqA σ σ' x y := ⟨h.1, h.2.1, by rw [h.2.2]⟩
theorem iTape.tp {σ : gS} (h : iTape σ) (hw : ∀ w, w < 12 → σ.1 3 w = nI (c27 (WL w))) : ∃ b m, TP σ b m := by
  obtain ⟨m, a, c, d, e⟩ := h
  refine ⟨fun i => (σ.1 197 i).toInt.toNat, m, a, c, d, fun i hi => ?_, hw⟩
  obtain ⟨b, b1, b2, b3⟩ := e i hi
  have : (σ.1 197 i).toInt.toNat = b := by rw [b2, nI_toInt (by omega)]; omega
  show (σ.1 197 i).toInt.toNat < 256 ∧ σ.1 197 i = nI (σ.1 197 i).toInt.toNat ∧ σ.1 2 i = b8 (σ.1 197 i).toInt.toNat
  rw [this]
  exact ⟨b1, b2, b3⟩
/-- the reference begins to read -/
theorem rdR {σ : gS} {b : Nat → Nat} {m : Nat} (hT : TPr σ b m) : ∃ σ1, fX11_read σ = fX11_read_180 σ1 ∧ OLR σ (spL b m (m + 1) dE 0) σ1 := by
  have hm := hT.1
  rw [fX11_read, bnd_r, bnd_r, bnd_r, bnd_r, bnd_r, bnd_r, bnd_r, bnd_r, bnd_r, bnd_r]
  generalize hσ0 : gsI (gsI (gsI (gsI (gsI (gsI (gsI (gsI (gsI (gsI σ 168 44 0) 168 49 0) 168 50 (-1000000)) 168 21 0) 168 26 0) 168 30 0) 168 33 0) 168 37 0) 168 40 (-1)) 168 41 (-1) = σ0
  have f0 : frS σ σ0 := fun x y q1 q2 => by
    unfold pRD at q2
    rw [← hσ0]
    exact sm_I (sm_I (sm_I (sm_I (sm_I (sm_I (sm_I (sm_I (sm_I (sm_I (sm_r σ x y) (by omega) rfl) (by omega) rfl) (by omega) rfl) (by omega) rfl) (by omega) rfl) (by omega) rfl) (by omega) rfl) (by omega) rfl) (by omega) rfl) (by omega) rfl
  have z44 : σ0.1 168 44 = nI 0 := by rw [← hσ0]; simp (disch := omega) only [rI_k, rI_s]; rfl
  have z49 : σ0.1 168 49 = 0 := by rw [← hσ0]; simp (disch := omega) only [rI_k, rI_s]
  have z50 : σ0.1 168 50 = -1000000 := by rw [← hσ0]; simp (disch := omega) only [rI_k, rI_s]
  have T0 : TPr σ0 b m := hT.keep (f0 168 43 (by omega) (by unfold pRD; omega)).1 (fun i => (f0 197 i (by omega) (by unfold pRD; omega)).1)
  have R0 : RD σ0 dE := by
    refine ⟨fun f hf => ?_, ?_, fun p hp => absurd hp (Nat.not_lt_zero p), fun f i _ hi => absurd hi (Nat.not_lt_zero i), fun i hi => absurd hi (Nat.not_lt_zero i), fun i hi => absurd hi (Nat.not_lt_zero i), fun i hi => absurd hi (Nat.not_lt_zero i), fun _ => ?_, fun a c z => (nomatch z)⟩
    · rw [← hσ0]
      rcases (show f = 0 ∨ f = 1 ∨ f = 2 ∨ f = 3 by omega) with rfl | rfl | rfl | rfl
      · show (gsI _ _ _ _).1 168 21 = _
        simp (disch := omega) only [rI_k, rI_s]; rfl
      · show (gsI _ _ _ _).1 168 30 = _
        simp (disch := omega) only [rI_k, rI_s]; rfl
      · show (gsI _ _ _ _).1 168 26 = _
        simp (disch := omega) only [rI_k, rI_s]; rfl
      · show (gsI _ _ _ _).1 168 33 = _
        simp (disch := omega) only [rI_k, rI_s]; rfl
    · rw [← hσ0]
      simp (disch := omega) only [rI_k, rI_s]; rfl
    · rw [← hσ0]
      simp (disch := omega) only [rI_k, rI_s, and_self]
  obtain ⟨_, σ1, e1, ⟨kk, s, e, h1, h2⟩, f1⟩ := nextM σ0 T0 (Nat.zero_le m) z44
  obtain ⟨k1, k2, k3, k4⟩ := tk_ok h1
  have g1 : frR σ0 σ1 := fun x y q => f1 x y (by omega) (by omega)
  have P1 : PR σ1 b m 0 := ⟨g1.tp T0, ⟨Nat.zero_le _, by rw [(f1 168 50 (by omega) (by omega)).1]; exact z50⟩, by unfold LM; rw [k2, k3, k4]; exact h2, by rw [(f1 168 49 (by omega) (by omega)).1]; exact z49, k1⟩
  obtain ⟨σ2, e2, o2⟩ := loopR (m + 1) 2000 0 dE σ1 (by omega) (by omega) (R0.keep (fun x y q => by have := f1 x y (by unfold pRD at q; omega) (by unfold pRD at q; omega); exact ⟨this.1, this.2.1⟩)) dE_a dE_b P1
  refine ⟨σ2, ?_, o2.t (f0.t g1.S)⟩
  rw [e1, bd_r]
  exact e2
theorem read_eq {σ : gS} (h : Inv σ) : Ok (fX10_read σ) fX11_read Inv := by
  obtain ⟨t, D, O, lk, kc, kr, km, kt, ip, ic, ir, it, iw, pl, ia⟩ := h
  obtain ⟨h4, h1, h2, w, v, c, r⟩ := lk
  obtain ⟨b, m, hT⟩ := it.tp iw
  have h4' : 20 - t = 4 ∨ 20 - t = 16 := by omega
  refine wp_ok ?_
  rw [fX10_read]
  refine wp_bw (readC h4' h2 hT) ?_
  rintro x1 σ1 ⟨o1, o2, o3, o4⟩
  rcases hs : spL b m (m + 1) dE 0 with e | D'
  · rw [hs] at o4
    obtain ⟨q1, q2, q3, q4⟩ := o4
    rw [if_neg (show ¬ x1 = 0 by rw [o2, q1]; exact nI_ne (by omega) (by omega))]
    refine wp_r ?_
    obtain ⟨σ2, e2, o⟩ := rdR (hT.r.keep (σ' := σ1) (o3 168 43 (by omega) (by omega) (by omega)).1 (fun i => (o3 197 i (by omega) (by omega) (by omega)).1))
    rw [hs] at o
    obtain ⟨p1, p2, p3, p4, p5⟩ := o
    rw [e2, fX11_read_180, bnd_r, goodM_n (show ¬ (gsI σ2 168 43 0).1 168 49 = 0 by rw [rI_k (by decide), p1]; exact nI_ne (by omega) (by omega)), bd_r, i00]
    have fr : ∀ x y, ¬ (x = 1 ∧ (y = 1 ∨ (4 ≤ y ∧ y ≤ 9))) → ¬ (20 - t ≤ x ∧ x ≤ 20 - t + 11) → ¬ (x = 168 ∧ 21 ≤ y ∧ y ≤ 51) → ¬ (183 ≤ x ∧ x ≤ 196) → sm σ (gsI σ2 168 43 0) x y := fun x y z1 z2 z3 z4 => sm_I (sm_t (o3 x y (by omega) (by omega) z2) (p5 x y (by omega) (by unfold pRD; omega))) (by omega) rfl
    have frA : ∀ x y, ¬ (x = 1 ∧ (y = 1 ∨ (4 ≤ y ∧ y ≤ 9))) → ¬ (20 - t ≤ x ∧ x ≤ 20 - t + 11) → ¬ (x = 168 ∧ 21 ≤ y ∧ y ≤ 51) → ¬ (183 ≤ x ∧ x ≤ 196) → eqA σ (gsI σ2 168 43 0) x y := fun x y z1 z2 z3 z4 => sm_A (fr x y z1 z2 z3 z4)
    have i1 : (gsI σ2 168 43 0).1 1 1 = 0 := by rw [rI_h (by decide), (p5 1 1 (by omega) (by unfold pRD; omega)).1, o1]
    refine wp_r ⟨by rw [rI_k (by decide), p1, o2, q1], t, D, O, ⟨h4, by rw [(fr 0 0 (by omega) (by omega) (by omega) (by omega)).2.2]; exact h1, by rw [(fr 0 0 (by omega) (by omega) (by omega) (by omega)).2.2]; exact h2, w, v, c.keep (fun x y a b => (fr x y (by omega) (by omega) (by omega) (by omega)).1), r.keep (fun x y a => (fr x y (by unfold pR0 at a; omega) (by unfold pR0 at a; omega) (by unfold pR0 at a; omega) (by unfold pR0 at a; omega)).1)⟩, kc.keep (fun x y a b => (fr x y (by omega) (by omega) (by omega) (by omega)).1), kr.keep (fun x y a => (fr x y (by omega) (by omega) (by omega) (by omega)).1), km.keep w (fun x y a b => (fr x y (by omega) (by omega) (by omega) (by omega)).1) (fun y => by rw [(fr 0 0 (by omega) (by omega) (by omega) (by omega)).2.2]), kt.keep (fun x y a => frA x y (by omega) (by omega) (by omega) (by omega)), ip.keep (fun x y a => frA x y (by omega) (by omega) (by omega) (by omega)), ic.keep (fun x y a => frA x y (by omega) (by omega) (by omega) (by omega)), ir.keep (fun x y a => frA x y (by omega) (by omega) (by omega) (by omega)), ⟨0, by omega, by rw [i1]; rfl, by rw [rI_s]; rfl, fun i hi => absurd hi (Nat.not_lt_zero i)⟩, fun u hu => by rw [(fr 3 u (by omega) (by omega) (by omega) (by omega)).1]; exact iw u hu, ?_, ia.keep (fun x y a => frA x y (by omega) (by omega) (by omega) (by omega))⟩
    rw [rI_h (by decide), rI_k (by decide), p2, (p5 1 9 (by omega) (by unfold pRD; omega)).1, q2]
  · rw [hs] at o4
    obtain ⟨⟨-, d1, w', c'⟩, v', q1, q2⟩ := o4
    have e01 : σ1.2.2 0 1 = t := by rw [(o3 0 0 (by omega) (by omega) (by omega)).2.2]; exact h1
    rw [if_pos (show x1 = 0 by rw [o2, q1]), bnd_r, e01, gg_t h4, fX6_exchange, bnd_r, d1, gg_t h4', bnd_r, bd_r, bnd_r, bnd_r, rR_s, gg_t h4']
    generalize ht' : 20 - t = t' at *
    have c2 : CD (gsR (gsR σ1 1 3 t) 0 1 t') t' D' := c'.keep (fun x y a b => rfl)
    have r01 : (gsR (gsR σ1 1 3 t) 0 1 t').2.2 0 1 = t' := rR_s
    have r13 : (gsR (gsR σ1 1 3 t) 0 1 t').2.2 1 3 = t := by rw [rR_h (by decide), rR_s]
    refine wp_bw (workC1 h4' w' v' c2) ?_
    rintro _ σ3 ⟨k3, f3⟩
    have r01' : σ3.2.2 = (gsR (gsR σ1 1 3 t) 0 1 t').2.2 := (f3 0 0 (by omega)).2.2
    rw [bnd_r, r01', r01, gg_t h4']
    have c3 : CD σ3 t' D' := c2.keep (fun x y a b => (f3 x y (by omega)).1)
    have rf3 : RF σ3 := km.1.1.keep (fun y => by rw [r01', rR_h (by decide), rR_h (by decide), (o3 0 0 (by omega) (by omega) (by omega)).2.2])
    refine wp_bw (workC4 h4' w' v' c3 rf3) ?_
    rintro _ σ4 ⟨k4, f4, f4'⟩
    have r4 : ∀ x y, x ≠ 60 → σ4.2.2 x y = (gsR (gsR σ1 1 3 t) 0 1 t').2.2 x y := fun x y z => by rw [f4' x y z, r01']
    rw [bnd_r, r4 0 1 (by decide), r01, gg_t h4']
    have c4 : CD σ4 t' D' := c3.keep (fun x y a b => (f4 x y (by omega)).1)
    refine wp_bw (orderC h4' w' v' c4) ?_
    rintro _ σ5 ⟨k5, f5⟩
    have r5 : σ5.2.2 = σ4.2.2 := (f5 0 0 (by omega)).2.2
    have c5 : CD σ5 t' D' := f5.cd h4' c4
    have e24 : (gsI (gsI σ5 0 6 0) 136 0 0).2.2 0 1 = t' := by
      show σ5.2.2 0 1 = t'
      rw [r5, r4 0 1 (by decide), r01]
    rw [bnd_r, bnd_r, bnd_r, e24, gg_t h4']
    refine wp_r ?_
    have fc : ∀ x y, ¬ (x = 1 ∧ (y = 1 ∨ (4 ≤ y ∧ y ≤ 9))) → ¬ (t' ≤ x ∧ x ≤ t' + 11) → ¬ (28 ≤ x ∧ x ≤ 131) → ¬ (x = 0 ∧ y = 6) → ¬ (x = 136 ∧ y = 0) → (gsI (gsI σ5 0 6 0) 136 0 0).1 x y = σ.1 x y ∧ (gsI (gsI σ5 0 6 0) 136 0 0).2.1 x y = σ.2.1 x y := fun x y z1 z2 z3 z4 z5 => by
      have a1 := o3 x y (by omega) (by omega) z2
      have a3 := f3 x y (by omega)
      have a4 := f4 x y (by omega)
      have a5 := f5 x y (by omega)
      refine ⟨?_, ?_⟩
      · rw [rI_o (by omega), rI_o (by omega), a5.1, a4.1, a3.1]; exact a1.1
      · show σ5.2.1 x y = _
        rw [a5.2.1, a4.2, a3.2.1]; exact a1.2.1
    obtain ⟨σ6, e6, o⟩ := rdR (hT.r.keep (σ' := gsI (gsI σ5 0 6 0) 136 0 0) (fc 168 43 (by omega) (by omega) (by omega) (by omega) (by omega)).1 (fun i => (fc 197 i (by omega) (by omega) (by omega) (by omega) (by omega)).1))
    rw [hs] at o
    obtain ⟨p1, -, -, p4, p5, p6⟩ := o
    rw [e6, fX11_read_180, bnd_r, goodM (show (gsI σ6 168 43 0).1 168 49 = 0 by rw [rI_k (by decide)]; exact p4), bd_r, i10]
    refine wp_bw (takeR w' v' (p1.keep (σ' := gsI σ6 168 43 0) (fun x y z => ⟨rI_o (by unfold pRD at z; omega), rfl⟩))) ?_
    rintro _ σ7 ⟨u1, u2, u3, u4, u5, u6⟩
    have cR : ∀ x y, ¬ (x = 168 ∧ (y ≤ 57 ∨ y = 69 ∨ y = 76 ∨ y = 77 ∨ y = 81 ∨ y = 85)) → ¬ (169 ≤ x ∧ x ≤ 196) → ¬ (198 ≤ x ∧ x ≤ 205) → ¬ (210 ≤ x ∧ x ≤ 215) → sm (gsI (gsI σ5 0 6 0) 136 0 0) σ7 x y := fun x y z1 z2 z3 z4 => sm_t (sm_I (p6 x y (by omega) (by unfold pRD; omega)) (show ¬ (x = 168 ∧ y = 43) by omega) rfl) (u6 x y (by omega) (by omega) (by omega) (by omega) z3 z4)
    have all : ∀ x y, ¬ (x = 1 ∧ (y = 1 ∨ (4 ≤ y ∧ y ≤ 9))) → ¬ (t' ≤ x ∧ x ≤ t' + 11) → ¬ (28 ≤ x ∧ x ≤ 131) → ¬ (x = 0 ∧ y = 6) → ¬ (x = 136 ∧ y = 0) → ¬ (x = 168 ∧ (y ≤ 57 ∨ y = 69 ∨ y = 76 ∨ y = 77 ∨ y = 81 ∨ y = 85)) → ¬ (169 ≤ x ∧ x ≤ 196) → ¬ (198 ≤ x ∧ x ≤ 205) → ¬ (210 ≤ x ∧ x ≤ 215) → σ7.1 x y = σ.1 x y ∧ σ7.2.1 x y = σ.2.1 x y := fun x y a1 a2 a3 a4 a5 a6 a7 a8 a9 => by
      have b1 := fc x y a1 a2 a3 a4 a5
      have b2 := cR x y a6 a7 a8 a9
      exact ⟨b2.1.trans b1.1, b2.2.1.trans b1.2⟩
    have s7 : σ7.2.2 = σ4.2.2 := (cR 0 0 (by omega) (by omega) (by omega) (by omega)).2.2.trans r5
    have cl : ∀ x y, x ≤ 167 → ¬ (x = 0 ∧ y = 6) → ¬ (x = 136 ∧ y = 0) → σ7.1 x y = σ5.1 x y ∧ σ7.2.1 x y = σ5.2.1 x y := fun x y a1 a2 a3 => by
      have b2 := cR x y (by omega) (by omega) (by omega) (by omega)
      exact ⟨b2.1.trans (by rw [rI_o (by omega), rI_o (by omega)]), b2.2.1⟩
    have aA : ∀ x y, ¬ (x = 1 ∧ (y = 1 ∨ (4 ≤ y ∧ y ≤ 9))) → ¬ (4 ≤ x ∧ x ≤ 131) → ¬ (x = 0 ∧ (y = 1 ∨ y = 6)) → ¬ (x = 136 ∧ y = 0) → ¬ (x = 168 ∧ (y ≤ 57 ∨ y = 69 ∨ y = 76 ∨ y = 77 ∨ y = 81 ∨ y = 85)) → ¬ (169 ≤ x ∧ x ≤ 196) → ¬ (198 ≤ x ∧ x ≤ 205) → ¬ (210 ≤ x ∧ x ≤ 215) → x ≠ 1 → eqA σ σ7 x y := fun x y a1 a2 a4 a5 a6 a7 a8 a9 a10 => by
      have b1 := all x y a1 (by omega) (by omega) (by omega) a5 a6 a7 a8 a9
      refine ⟨b1.1, b1.2, ?_⟩
      rw [s7, r4 x y (by omega), (o3 0 0 (by omega) (by omega) (by omega)).2.2.symm]
      show (gsR (gsR σ1 1 3 t) 0 1 t').2.2 x y = σ1.2.2 x y
      by_cases x0 : x = 0
      · subst x0
        rw [rR_k (by omega), rR_h (by decide)]
      · rw [rR_h x0, rR_h a10]
    have pp := w'.np
    refine wp_r ⟨?_, t', D', orD D', ⟨h4', ?_, ?_, w', v', c5.keep (fun x y a b => (cl x y (by omega) (by omega) (by omega)).1), u1⟩, ?_, u2, ?_, ⟨k5.keep ?_, u3, orD_g w' v'⟩, Or.inl ⟨?_, u4⟩, Or.inl ⟨?_, u5⟩, ir.keep (fun x y a => aA x y (by omega) (by omega) (by omega) (by omega) (by omega) (by omega) (by omega) (by omega) (by omega)), ⟨0, by omega, ?_, ?_, fun i hi => absurd hi (Nat.not_lt_zero i)⟩, fun u hu => ?_, ?_, ia.keep (fun x y a => aA x y (by omega) (by omega) (by omega) (by omega) (by omega) (by omega) (by omega) (by omega) (by omega))⟩
    · rw [u1.2.1]
      show _ = (gsI (gsI σ5 0 6 0) 136 0 0).1 t' 7
      rw [rI_h (by omega), rI_h (by omega), c5.2.1]
    · rw [s7, r4 0 1 (by decide), r01]
    · rw [s7, r4 1 3 (by decide), r13]; omega
    · refine k3.keep (fun x y a b => ?_)
      rw [(cl x y (by omega) (by omega) (by omega)).1, (f5 x y (by omega)).1, (f4 x y (by omega)).1]
    · refine k4.keep w' (fun x y a b => ?_) (fun y => by rw [s7])
      rw [(cl x y (by omega) (by omega) (by omega)).1, (f5 x y (by omega)).1]
    · exact fun x y a b => ⟨(cl x y (by omega) (by omega) (by omega)).1, (cl x y (by omega) (by omega) (by omega)).2, by rw [s7, r5]⟩
    · rw [(cR 0 6 (by omega) (by omega) (by omega) (by omega)).1, rI_h (by decide), rI_s]
    · rw [(cR 136 0 (by omega) (by omega) (by omega) (by omega)).1, rI_s]
    · rw [(cl 1 1 (by omega) (by omega) (by omega)).1, (f5 1 1 (by omega)).1, (f4 1 1 (by omega)).1, (f3 1 1 (by omega)).1]
      exact o1
    · rw [(u6 168 43 (by omega) (by omega) (by omega) (by omega) (by omega) (by omega)).1, rI_s]; rfl
    · rw [(all 3 u (by omega) (by omega) (by omega) (by omega) (by omega) (by omega) (by omega) (by omega) (by omega)).1]; exact iw u hu
    · rw [(cl 1 9 (by omega) (by omega) (by omega)).1, (f5 1 9 (by omega)).1, (f4 1 9 (by omega)).1, (f3 1 9 (by omega)).1, (u6 168 50 (by omega) (by omega) (by omega) (by omega) (by omega) (by omega)).1, rI_k (by decide), p5]
      exact q2

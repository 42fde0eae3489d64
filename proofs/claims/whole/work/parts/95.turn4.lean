/-! TURNING: one joint is hung, by both -/
def PCg (σ : gS) (D : DT) (hx hy hw : Nat) (P : PT) : Prop := ∀ j, j < dn D 0 → σ.1 hw j = nI (pW P j) ∧ (pW P j = 0 → σ.2.1 hx j = pX P j ∧ σ.2.1 hy j = pY P j)
theorem cmp_le0 {x y : Int64} : lg_cmp x y ≤ 0 ↔ x.toInt ≤ y.toInt := by
  constructor
  · intro h
    refine Classical.byContradiction fun z => ?_
    have a := lt32.mp (cmp_gt.mpr (lt64.mpr (show y.toInt < x.toInt by omega)))
    have b := le32.mp h
    omega
  · intro h
    refine Classical.byContradiction fun z => ?_
    have a : 0 < lg_cmp x y := lt32.mpr (by have := mt le32.mpr z; omega)
    have b := lt64.mp (cmp_gt.mp a)
    omega
theorem lN_on {x : Int64} (h : 0 ≤ x.toInt) : lN x.toInt.toNat = x := by
  have l := Int64.toInt_lt x
  rw [eq64, pk_lT (by omega)]
  omega
section HG2
variable {σ : gS} {D : DT} {O : OT} {P : PT} {j m : Nat} {hx hy hw : Nat}
theorem PCg.uR {r : Nat} (hr : r ≠ 0) (h : PCg σ D hx hy hw P) : PCg (gsI σ hw j (nI r)) D hx hy hw (uR P j r) := by
  intro x hx'
  show _ = nI (up (pW P) j r x) ∧ (up (pW P) j r x = 0 → σ.2.1 hx x = pX P x ∧ σ.2.1 hy x = pY P x)
  by_cases z : x = j
  · subst z
    rw [rI_s, up_s]
    exact ⟨rfl, fun y => absurd y hr⟩
  · rw [rI_k z, up_o z]
    exact h x hx'
theorem PCg.ne (h : PCg σ D hx hy hw P) {x r : Nat} (hx' : x < dn D 0) (hr : pW P x ≤ 3) (hz : pW P x ≠ 0) : ¬ σ.1 hw x = 0 := by
  rw [(h x hx').1]
  exact nI_ne (by omega) (by omega)
theorem hangC (w : WFa D) (v : WFb D) (hK : KTC σ D O) (g : GOr D O) {pl : Nat} (hpl : pl = 132 ∨ pl = 140) (hj : j < dn D 0) (hA : oA O j < 24) (hm : m ≤ 65942510) (hP : pBd D P m) (hp : PCg σ D (pl + 1) (pl + 2) (pl + 3) P) : Wp (fX9_hang (nI j) pl σ) (fun _ σ' => PCg σ' D (pl + 1) (pl + 2) (pl + 3) (hgP D O P j) ∧ ∀ x y, x ≠ pl + 1 → x ≠ pl + 2 → x ≠ pl + 3 → sm σ σ' x y) := by
  refine wp_fr ?_ (fun r σ' e x y q1 q2 q3 => wX9_hang q1 q2 q3 e)
  have w4 := w.n4
  obtain ⟨-, ha, hb, hs⟩ := (g.2.2.2.1 j).resolve_left (by omega)
  obtain ⟨-, k2⟩ := hK.2.2 j hj
  obtain ⟨e7, e8, e9, e0, e1⟩ := k2 hA
  have clj : (nI j).toNatClampNeg = j := nI_clamp (by omega)
  unfold hgP
  generalize oA O j = a at *
  generalize oB O j = b at *
  generalize osd O j = s at *
  have cla : (nI a).toNatClampNeg = a := nI_clamp (by omega)
  have clb : (nI b).toNatClampNeg = b := nI_clamp (by omega)
  have pa := hp a ha
  have pb := hp b hb
  have ba := hP a ha
  have bb := hP b hb
  rw [fX9_hang, clj, gg_ix (by omega) (by decide), gg_ix (by omega) (by decide), e7, e8, cla, clb, gg_ix (by omega) (by decide), pa.1, pb.1]
  have r3 : Wp (fX9_hang_34 (nI j) pl σ) (fun _ σ' => PCg σ' D (pl + 1) (pl + 2) (pl + 3) (uR P j 3)) := by
    rw [fX9_hang_34, clj, gg_ix (by omega) (by decide), bnd_r]
    exact wp_r (hp.uR (by decide))
  by_cases wa : pW P a = 0
  · rw [if_pos (show nI (pW P a) = 0 by rw [wa]; rfl), gg_ix (by omega) (by decide)]
    by_cases wb : pW P b = 0
    · have r2 : PCg (gsI σ (pl + 3) j 2) D (pl + 1) (pl + 2) (pl + 3) (uR P j 2) := hp.uR (r := 2) (by decide)
      obtain ⟨wx, wy, ef, f0, f1, d1, d2⟩ := meet v hj ha hb hm hP wa wb
      rw [if_pos (show nI (pW P b) = 0 by rw [wb]; rfl), gg_ix (by omega) (by decide), bnd_r, gg_ix (by omega) (by decide), gg_ix (by omega) (by decide), bnd_r, gg_ix (by omega) (by decide), gg_ix (by omega) (by decide), bnd_r, bnd_r, gsI_2, (pb.2 wb).1, (pa.2 wa).1, (pb.2 wb).2, (pa.2 wa).2]
      rw [show (pX P b - pX P a) * (pX P b - pX P a) + (pY P b - pY P a) * (pY P b - pY P a) = farI P a b from rfl]
      rw [if_neg (show ¬ (pW P a ≠ 0 ∨ pW P b ≠ 0) from fun z => z.elim (fun z => z wa) (fun z => z wb))]
      by_cases q2 : (farI P a b).toInt < 1048576
      · rw [if_pos q2, if_neg (show ¬ 0 ≤ lg_cmp (farI P a b) 1048576 from fun z => by have := le64.mp (cmp_ge0.mp z); rw [show (1048576 : Int64).toInt = 1048576 from rfl] at this; omega)]
        exact wp_r r2
      · rw [if_neg q2, if_pos (show 0 ≤ lg_cmp (farI P a b) 1048576 from cmp_ge0.mpr (le64.mpr (by rw [show (1048576 : Int64).toInt = 1048576 from rfl]; omega))), gg_ix (by omega) (by decide), gg_ix (by omega) (by decide), e0, e1, floorC (by omega) d1 d2, bd_r, bnd_r]
        rw [show 32768 + fdv (32768 * (lN (1048576 * sqJ D j a) - lN (1048576 * sqJ D j b))) (farI P a b) = alg D P j a b from rfl]
        by_cases q3 : (alg D P j a b).toInt < -268435456
        · rw [if_pos (Or.inl q3), if_pos (show lg_cmp (alg D P j a b) (-268435456) < 0 from cmp_lt.mpr (lt64.mpr q3)), fX9_hang_158]
          exact wp_r r2
        · rw [if_neg (show ¬ lg_cmp (alg D P j a b) (-268435456) < 0 from fun z => q3 (lt64.mp (cmp_lt.mp z)))]
          by_cases q3' : 268435456 < (alg D P j a b).toInt
          · rw [if_pos (Or.inr q3'), if_neg (show ¬ lg_cmp (alg D P j a b) 268435456 ≤ 0 from fun z => by have := cmp_le0.mp z; rw [show (268435456 : Int64).toInt = 268435456 from rfl] at this; omega), fX9_hang_158]
            exact wp_r r2
          · obtain ⟨rl, mt2⟩ := meet2 v hj ha hb hm hP wa wb hs (by omega) (by omega) (by omega)
            have s1 := sqJ_b v hj ha
            have hq : fX9_squareScaled (lN (1048576 * sqJ D j a)) (farI P a b) (gsI σ (pl + 3) j 2) = some (lN (2 ^ 32 * (1048576 * sqJ D j a) / (farI P a b).toInt.toNat), gsI σ (pl + 3) j 2) := by
              have := hqC (σ := gsI σ (pl + 3) j 2) (p := 1048576 * sqJ D j a) (d := (farI P a b).toInt.toNat) (by omega) (by omega) (by omega)
              rw [lN_on f0] at this
              exact this
            rw [if_neg (show ¬ ((alg D P j a b).toInt < -268435456 ∨ 268435456 < (alg D P j a b).toInt) by omega), if_pos (show lg_cmp (alg D P j a b) 268435456 ≤ 0 from cmp_le0.mpr (by rw [show (268435456 : Int64).toInt = 268435456 from rfl]; omega)), hq, bd_r, bnd_r]
            rw [show lN (2 ^ 32 * (1048576 * sqJ D j a) / (farI P a b).toInt.toNat) - alg D P j a b * alg D P j a b = rst D P j a b from rfl]
            by_cases q4 : (rst D P j a b).toInt < 0
            · rw [if_pos q4, if_neg (show ¬ 0 ≤ lg_cmp (rst D P j a b) 0 from fun z => by have := le64.mp (cmp_ge0.mp z); rw [z64] at this; omega)]
              exact wp_r r2
            · obtain ⟨n1, n2, n3, n4, -, -⟩ := mt2 (by omega)
              have rt : fX10_rootDown (rst D P j a b) (gsI σ (pl + 3) j 2) = some (lN (rtN (rst D P j a b).toInt.toNat), gsI σ (pl + 3) j 2) := by
                have := rootC (n := (rst D P j a b).toInt.toNat) (by omega) (rtN_R _) (gsI σ (pl + 3) j 2)
                rw [lN_on (by omega)] at this
                exact this
              rw [if_neg q4, if_pos (show 0 ≤ lg_cmp (rst D P j a b) 0 from cmp_ge0.mpr (le64.mpr (by rw [z64]; omega))), gg_ix (by omega) (by decide), rt, bd_r, bnd_r, rI_h (show (129 : Nat) ≠ pl + 3 by omega), e9]
              rw [show s.toInt64 * lN (rtN (rst D P j a b).toInt.toNat) = ofs D P j a b s from rfl]
              rw [gg_ix (by omega) (by decide), floorC (by decide) n1 n2, bd_r, gg_ix (by omega) (by decide), floorC (by decide) n3 n4, bd_r, gsI_2, (pa.2 wa).1, (pa.2 wa).2]
              rw [show pX P a + fdv (alg D P j a b * (pX P b - pX P a) - ofs D P j a b s * (pY P b - pY P a)) 65536 = hnX D P j a b s from rfl, show pY P a + fdv (alg D P j a b * (pY P b - pY P a) + ofs D P j a b s * (pX P b - pX P a)) 65536 = hnY D P j a b s from rfl]
              rw [fX5_set, clj, gg_ix (by omega) (by decide), bnd_r, gg_ix (by omega) (by decide), bnd_r, gg_ix (by omega) (by decide), bnd_r, bd_r]
              refine wp_r (fun x hx' => ?_)
              show _ = nI (up (pW P) j 0 x) ∧ (up (pW P) j 0 x = 0 → _ = up (pX P) j _ x ∧ _ = up (pY P) j _ x)
              rw [gsI_2]
              by_cases z : x = j
              · subst z
                rw [rI_s, up_s, up_s, up_s, rJ_h (show pl + 1 ≠ pl + 2 by omega), rJ_s, rJ_s]
                exact ⟨rfl, fun _ => ⟨rfl, rfl⟩⟩
              · rw [rI_k z, gsJ_1, gsJ_1, rI_k z, up_o z, up_o z, up_o z, rJ_k z, rJ_k z, rJ_k z, rJ_k z, gsI_2]
                exact hp x hx'
    · rw [if_neg (show ¬ nI (pW P b) = 0 from nI_ne (by omega) (by omega)), if_pos (show pW P a ≠ 0 ∨ pW P b ≠ 0 from Or.inr wb)]
      exact r3
  · rw [if_neg (show ¬ nI (pW P a) = 0 from nI_ne (by omega) (by omega)), if_pos (show pW P a ≠ 0 ∨ pW P b ≠ 0 from Or.inl wa)]
    exact r3
theorem hangR (w : WFa D) (v : WFb D) (k : RD0 σ D) (hK : KTR σ D O) (g : GOr D O) (hj : j < dn D 0) (hA : oA O j < 24) (hm : m ≤ 65942510) (hP : pBd D P m) (hp : PCg σ D 216 217 218 P) : Wp (fX11_hang (nI j) σ) (fun _ σ' => PCg σ' D 216 217 218 (hgP D O P j) ∧ ∀ x y, x ≠ 216 → x ≠ 217 → x ≠ 218 → sm σ σ' x y) := by
  refine wp_fr ?_ (fun r σ' e x y q1 q2 q3 => wX11_hang q1 q2 q3 e)
  have w4 := w.n4
  obtain ⟨-, ha, hb, hs⟩ := (g.2.2.2.1 j).resolve_left (by omega)
  obtain ⟨-, k2⟩ := hK.2.2 j hj
  obtain ⟨-, e7, e8, e9⟩ := k2 hA
  have clj : (nI j).toNatClampNeg = j := nI_clamp (by omega)
  have x0 : ∀ x, x < dn D 0 → σ.1 170 x = jX D x ∧ σ.1 171 x = jY D x := fun x hx => k.2.2.2.1 0 x (by decide) hx
  unfold hgP
  generalize oA O j = a at *
  generalize oB O j = b at *
  generalize osd O j = s at *
  have cla : (nI a).toNatClampNeg = a := nI_clamp (by omega)
  have clb : (nI b).toNatClampNeg = b := nI_clamp (by omega)
  have pa := hp a ha
  have pb := hp b hb
  have ba := hP a ha
  have bb := hP b hb
  rw [fX11_hang, clj, gg_ix (by omega) (by decide), gg_ix (by omega) (by decide), e7, e8, cla, clb, gg_ix (by omega) (by decide), pa.1, pb.1]
  have r3 : Wp (fX11_hang_32 (nI j) σ) (fun _ σ' => PCg σ' D 216 217 218 (uR P j 3)) := by
    rw [fX11_hang_32, clj, gg_ix (by omega) (by decide), bnd_r]
    exact wp_r (hp.uR (by decide))
  by_cases wa : pW P a = 0
  · rw [if_pos (show nI (pW P a) = 0 by rw [wa]; rfl), gg_ix (by omega) (by decide)]
    by_cases wb : pW P b = 0
    · have r2 : PCg (gsI σ 218 j 2) D 216 217 218 (uR P j 2) := hp.uR (r := 2) (by decide)
      obtain ⟨wx, wy, ef, f0, f1, d1, d2⟩ := meet v hj ha hb hm hP wa wb
      have s1 := sqJ_b v hj ha
      have s2 := sqJ_b v hj hb
      have y0 : ∀ x, x < dn D 0 → (gsI σ 218 j 2).1 170 x = jX D x ∧ (gsI σ 218 j 2).1 171 x = jY D x := fun x hx => by rw [rI_h (by decide), rI_h (by decide)]; exact x0 x hx
      have q1 : ∀ b, b < dn D 0 → fX11_square ((jX D j - jX D b).toInt64) ((jY D j - jY D b).toInt64) (gsI σ 218 j 2) = some (lN (sqJ D j b), gsI σ 218 j 2) := fun b hb => by
        rw [fX11_square, sq64 (jXY v hj).1 (jXY v hb).1 (jXY v hj).2 (jXY v hb).2]; rfl
      rw [if_pos (show nI (pW P b) = 0 by rw [wb]; rfl), gg_ix (by omega) (by decide), bnd_r, gg_ix (by omega) (by decide), gg_ix (by omega) (by decide), gg_ix (by omega) (by decide), gg_ix (by omega) (by decide), (y0 j hj).1, (y0 j hj).2, (y0 a ha).1, (y0 a ha).2, q1 a ha, bd_r, bnd_r, shl_20 (by omega), gg_ix (by omega) (by decide), gg_ix (by omega) (by decide), gg_ix (by omega) (by decide), gg_ix (by omega) (by decide), (y0 j hj).1, (y0 j hj).2, (y0 b hb).1, (y0 b hb).2, q1 b hb, bd_r, bnd_r, shl_20 (by omega)]
      rw [gg_ix (by omega) (by decide), gg_ix (by omega) (by decide), bnd_r, gg_ix (by omega) (by decide), gg_ix (by omega) (by decide), bnd_r, gsI_2, (pb.2 wb).1, (pa.2 wa).1, (pb.2 wb).2, (pa.2 wa).2]
      rw [show fX11_square (pX P b - pX P a) (pY P b - pY P a) (gsI σ 218 j 2) = some (farI P a b, gsI σ 218 j 2) from rfl, bd_r]
      rw [if_neg (show ¬ (pW P a ≠ 0 ∨ pW P b ≠ 0) from fun z => z.elim (fun z => z wa) (fun z => z wb))]
      by_cases q2 : (farI P a b).toInt < 1048576
      · rw [if_pos q2, if_neg (show ¬ 0 ≤ lg_cmp (farI P a b) 1048576 from fun z => by have := le64.mp (cmp_ge0.mp z); rw [show (1048576 : Int64).toInt = 1048576 from rfl] at this; omega)]
        exact wp_r r2
      · rw [if_neg q2, if_pos (show 0 ≤ lg_cmp (farI P a b) 1048576 from cmp_ge0.mpr (le64.mpr (by rw [show (1048576 : Int64).toInt = 1048576 from rfl]; omega))), downR (by omega) d1 d2, bd_r, bnd_r]
        rw [show 32768 + fdv (32768 * (lN (1048576 * sqJ D j a) - lN (1048576 * sqJ D j b))) (farI P a b) = alg D P j a b from rfl]
        by_cases q3 : (alg D P j a b).toInt < -268435456 ∨ 268435456 < (alg D P j a b).toInt
        · rw [if_pos q3, in_f (by rw [show (-268435456 : Int64).toInt = -268435456 from rfl, show (268435456 : Int64).toInt = 268435456 from rfl]; omega), bd_r, i00]
          exact wp_r r2
        · obtain ⟨rl, mt2⟩ := meet2 v hj ha hb hm hP wa wb hs (by omega) (by omega) (by omega)
          have hq : fX11_highQuotient (lN (1048576 * sqJ D j a)) (farI P a b) (gsI σ 218 j 2) = some (lN (2 ^ 32 * (1048576 * sqJ D j a) / (farI P a b).toInt.toNat), gsI σ 218 j 2) := by
            have := hqR (σ := gsI σ 218 j 2) (p := 1048576 * sqJ D j a) (d := (farI P a b).toInt.toNat) (by omega) (by omega) (by omega)
            rw [lN_on f0] at this
            exact this
          rw [if_neg q3, in_t (by rw [show (-268435456 : Int64).toInt = -268435456 from rfl, show (268435456 : Int64).toInt = 268435456 from rfl]; omega), bd_r, i10, hq, bd_r, bnd_r]
          rw [show lN (2 ^ 32 * (1048576 * sqJ D j a) / (farI P a b).toInt.toNat) - alg D P j a b * alg D P j a b = rst D P j a b from rfl]
          by_cases q4 : (rst D P j a b).toInt < 0
          · rw [if_pos q4, if_neg (show ¬ 0 ≤ lg_cmp (rst D P j a b) 0 from fun z => by have := le64.mp (cmp_ge0.mp z); rw [z64] at this; omega)]
            exact wp_r r2
          · obtain ⟨n1, n2, n3, n4, -, -⟩ := mt2 (by omega)
            have rt : fX11_root (rst D P j a b) (gsI σ 218 j 2) = some (lN (rtN (rst D P j a b).toInt.toNat), gsI σ 218 j 2) := by
              have := rootM (v := (rst D P j a b).toInt.toNat) (by omega) (rtN_R _) (gsI σ 218 j 2)
              rw [lN_on (by omega)] at this
              exact this
            rw [if_neg q4, if_pos (show 0 ≤ lg_cmp (rst D P j a b) 0 from cmp_ge0.mpr (le64.mpr (by rw [z64]; omega))), gg_ix (by omega) (by decide), rt, bd_r, bnd_r, rI_h (show (215 : Nat) ≠ 218 by omega), e9]
            rw [show s.toInt64 * lN (rtN (rst D P j a b).toInt.toNat) = ofs D P j a b s from rfl]
            rw [gg_ix (by omega) (by decide), bnd_r, gg_ix (by omega) (by decide), downR (by decide) n1 n2, bd_r, gg_ix (by omega) (by decide), bnd_r, gg_ix (by omega) (by decide), downR (by decide) n3 n4, bd_r, gg_ix (by omega) (by decide), bnd_r]
            rw [rJ_h (show (217 : Nat) ≠ 216 by decide), gsI_2, gsI_2, (pa.2 wa).1, (pa.2 wa).2]
            rw [show pX P a + fdv (alg D P j a b * (pX P b - pX P a) - ofs D P j a b s * (pY P b - pY P a)) 65536 = hnX D P j a b s from rfl, show pY P a + fdv (alg D P j a b * (pY P b - pY P a) + ofs D P j a b s * (pX P b - pX P a)) 65536 = hnY D P j a b s from rfl]
            refine wp_r (fun x hx' => ?_)
            show _ = nI (up (pW P) j 0 x) ∧ (up (pW P) j 0 x = 0 → _ = up (pX P) j _ x ∧ _ = up (pY P) j _ x)
            by_cases z : x = j
            · subst z
              rw [gsJ_1, gsJ_1, rI_s, up_s, up_s, up_s, rJ_h (show (216 : Nat) ≠ 217 by omega), rJ_s, rJ_s]
              exact ⟨rfl, fun _ => ⟨rfl, rfl⟩⟩
            · rw [gsJ_1, gsJ_1, rI_k z, rI_k z, up_o z, up_o z, up_o z, rJ_k z, rJ_k z, rJ_k z, rJ_k z, gsI_2, gsI_2]
              exact hp x hx'
    · rw [if_neg (show ¬ nI (pW P b) = 0 from nI_ne (by omega) (by omega)), if_pos (show pW P a ≠ 0 ∨ pW P b ≠ 0 from Or.inr wb)]
      exact r3
  · rw [if_neg (show ¬ nI (pW P a) = 0 from nI_ne (by omega) (by omega)), if_pos (show pW P a ≠ 0 ∨ pW P b ≠ 0 from Or.inl wa)]
    exact r3
end HG2

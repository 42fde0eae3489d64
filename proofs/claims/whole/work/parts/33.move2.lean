set_option maxRecDepth 10000 in
set_option maxHeartbeats 2000000 in
theorem move_eq {σ : gS} (h : iRows σ) (p1 p2 p3 p4 p5 : Int32) : Ok (fX10_move p1 p2 p3 p4 p5 σ) (fX11_move p1 p2 p3 p4 p5) (fun σ' => iRows σ' ∧ Fr pRow σ σ') := by
  have h0 := h
  obtain ⟨hs, hr⟩ := h
  have n10 : ¬ ((1 : Int32) = 0) := by decide
  have bad : ∀ (A : Option (Int32 × gS)) (B : gS → Option (Int32 × gS)), A = some (-1000001, σ) → B σ = some (-1000001, σ) → Ok A B (fun σ' => iRows σ' ∧ Fr pRow σ σ') := fun A B hA hB => Ok.mk hA hB rfl ⟨h0, fun _ _ _ => ⟨rfl, rfl, rfl⟩⟩
  by_cases hp : 0 ≤ p1.toInt ∧ p1.toInt < 8
  · obtain ⟨a, ha, rfl⟩ := nI_get (n := 8) hp.1 hp.2 (by decide)
    obtain ⟨hca, hga, hga'⟩ := row_ix ha
    by_cases hq : 0 ≤ p3.toInt ∧ p3.toInt < 8
    · obtain ⟨b, hb, rfl⟩ := nI_get (n := 8) hq.1 hq.2 (by decide)
      obtain ⟨hcb, hgb, hgb'⟩ := row_ix hb
      have null : (σ.1 (152 + 2 * a) 0 = 0 ∧ σ.1 229 a = 0) ∨ (¬ σ.1 (152 + 2 * a) 0 = 0 ∧ ¬ σ.1 229 a = 0 ∧ σ.1 (152 + 2 * b) 0 = 0 ∧ σ.1 229 b = 0) → Ok (fX10_move (nI a) p2 (nI b) p4 p5 σ) (fX11_move (nI a) p2 (nI b) p4 p5) (fun σ' => iRows σ' ∧ Fr pRow σ σ') := by
        intro z
        refine Ok.mk (r := -1000010 - 1) (r' := -1000010 - 1) (σ1 := gsI σ 0 11 1) (σ2 := gsI (gsI (gsI σ 0 11 1) 168 94 0) 168 94 1) ?_ ?_ rfl (find_ok h0 1)
        · rcases z with ⟨z1, z2⟩ | ⟨z1, z2, z3, z4⟩
          · simp only [fX10_move, fX10_move_49, fX10_found, (isRow_yes ha σ).1, (isRow_yes hb σ).1, bd_r, bnd_r, i10, hca, hcb, gg_t hga', gg_t hgb', z1, if_true]
          · simp only [fX10_move, fX10_move_49, fX10_found, (isRow_yes ha σ).1, (isRow_yes hb σ).1, bd_r, bnd_r, i10, hca, hcb, gg_t hga', gg_t hgb', if_neg z1, z3, if_true]
        · rcases z with ⟨z1, z2⟩ | ⟨z1, z2, z3, z4⟩
          · rw [fX11_move, (isRow_yes ha _).2, bd_r, if_neg n10, (isRow_yes hb _).2, bd_r, if_neg n10, bnd_r, hca, hcb, gg_t hga', if_pos (by rw [rI_o (by omega), rI_o (by omega)]; exact z2), fX11_move_40, fX11_finds, bnd_r, bd_r]
          · rw [fX11_move, (isRow_yes ha _).2, bd_r, if_neg n10, (isRow_yes hb _).2, bd_r, if_neg n10, bnd_r, hca, hcb, gg_t hga', if_neg (by rw [rI_o (by omega), rI_o (by omega)]; exact z2), gg_t hgb', if_pos (by rw [rI_o (by omega), rI_o (by omega)]; exact z4), fX11_move_40, fX11_finds, bnd_r, bd_r]
      rcases hr a ha with ⟨h1, h2⟩ | ⟨h1, la, na, hla, hna, h2, h3, h4, h5, h6⟩
      · exact null (Or.inl ⟨h1, h2⟩)
      · have A1 : ¬ σ.1 (152 + 2 * a) 0 = 0 := by rw [h1]; decide
        have A2 : ¬ σ.1 229 a = 0 := by rw [h3]; exact nI_ne (by omega) (by omega)
        rcases hr b hb with ⟨g1, g2⟩ | ⟨g1, lb, nb, hlb, hnb, g2, g3, g4, g5, g6⟩
        · exact null (Or.inr ⟨A1, A2, g1, g2⟩)
        · have B1 : ¬ σ.1 (152 + 2 * b) 0 = 0 := by rw [g1]; decide
          have B2 : ¬ σ.1 229 b = 0 := by rw [g3]; exact nI_ne (by omega) (by omega)
          by_cases hl : la = lb
          · subst hl
            by_cases ok : (0 ≤ p2.toInt ∧ 0 ≤ p5.toInt ∧ p2.toInt + p5.toInt ≤ na) ∧ (0 ≤ p4.toInt ∧ 0 ≤ p5.toInt ∧ p4.toInt + p5.toInt ≤ nb)
            · obtain ⟨i, hi, rfl⟩ := nI_get (p := p2) (n := 301) ok.1.1 (by omega) (by decide)
              obtain ⟨j, hj, rfl⟩ := nI_get (p := p4) (n := 301) ok.2.1 (by omega) (by decide)
              obtain ⟨n, hn, rfl⟩ := nI_get (p := p5) (n := 301) ok.1.2.1 (by omega) (by decide)
              rw [nI_toInt (by omega), nI_toInt (by omega), nI_toInt (by omega)] at ok
              have c1 : (nI i).toNatClampNeg = i := nI_clamp (by omega)
              have c2 : (nI j).toNatClampNeg = j := nI_clamp (by omega)
              have c3 : (nI n).toNatClampNeg = n := nI_clamp (by omega)
              have gd : ¬ nI i < 0 ∧ ¬ nI j < 0 ∧ ¬ nI n < 0 ∧ i + n ≤ 300 ∧ j + n ≤ 300 := ⟨nI_pos (by omega), nI_pos (by omega), nI_pos (by omega), by omega, by omega⟩
              have eA : ∀ τ : gS, τ.1 (152 + 2 * a) 2 = nI na → fX7_holds (152 + 2 * a) (nI i) (nI n) τ = some (1, τ) := fun τ hτ => by rw [holdsC hτ hna, if_pos (by rw [nI_toInt (by omega), nI_toInt (by omega)]; omega)]
              have eB : ∀ τ : gS, τ.1 (152 + 2 * b) 2 = nI nb → fX7_holds (152 + 2 * b) (nI j) (nI n) τ = some (1, τ) := fun τ hτ => by rw [holdsC hτ hnb, if_pos (by rw [nI_toInt (by omega), nI_toInt (by omega)]; omega)]
              have kA : ¬ 0 < lg_cmp ((nI i).toInt64 + (nI n).toInt64) (nI na).toInt64 := fun z => by
                have := lt64.mp (cmp_gt.mp z)
                rw [lg_i2l_add, l32, nI_toInt (by omega), nI_toInt (by omega), nI_toInt (by omega)] at this
                omega
              have kB : lg_cmp ((nI j).toInt64 + (nI n).toInt64) (nI nb).toInt64 ≤ 0 := by
                refine Int32.not_lt.mp (fun z => ?_)
                have := lt64.mp (cmp_gt.mp z)
                rw [lg_i2l_add, l32, nI_toInt (by omega), nI_toInt (by omega), nI_toInt (by omega)] at this
                omega
              refine Ok.mk (r := nI n) (r' := nI n) (σ1 := gsI (gcp σ (152 + 2 * a + 1) i (152 + 2 * b + 1) j n) 0 11 0) (σ2 := gwJ (gwJ (gsI (gsI (gcp σ (152 + 2 * a + 1) i (152 + 2 * b + 1) j n) 0 11 0) 168 94 0) 232 0 0 n (fun y => σ.2.1 231 (300 * a + i + y))) 231 (300 * b + j) 0 n (fun y => σ.2.1 231 (300 * a + i + y))) ?_ ?_ rfl ⟨⟨?_, fun x hx => ?_⟩, fun u k hP => ?_⟩
              · simp only [fX10_move, (isRow_yes ha σ).1, (isRow_yes hb σ).1, bd_r, bnd_r, i10, hca, hcb, gg_t hga', gg_t hgb', if_neg A1, if_neg B1, h2, g2, if_true, eA σ h4, eB σ g4, c1, c2, c3, gg_t gd, fX10_fine]
              · have r1 : (gsI (gsI (gcp σ (152 + 2 * a + 1) i (152 + 2 * b + 1) j n) 0 11 0) 168 94 0).1 229 a = nI (la + 1) := by simp (disch := omega) only [rI_o, gcp_1]; exact h3
                have r2 : (gsI (gsI (gcp σ (152 + 2 * a + 1) i (152 + 2 * b + 1) j n) 0 11 0) 168 94 0).1 229 b = nI (la + 1) := by simp (disch := omega) only [rI_o, gcp_1]; exact g3
                have r3 : (gsI (gsI (gcp σ (152 + 2 * a + 1) i (152 + 2 * b + 1) j n) 0 11 0) 168 94 0).1 230 a = nI na := by simp (disch := omega) only [rI_o, gcp_1]; exact h5
                have r4 : (gsI (gsI (gcp σ (152 + 2 * a + 1) i (152 + 2 * b + 1) j n) 0 11 0) 168 94 0).1 230 b = nI nb := by simp (disch := omega) only [rI_o, gcp_1]; exact g5
                have z0 : (0 : Int32) = nI 0 := rfl
                have ne1 : ¬ nI (la + 1) = 0 := nI_ne (by omega) (by omega)
                rw [fX11_move, (isRow_yes ha _).2, bd_r, if_neg n10, (isRow_yes hb _).2, bd_r, if_neg n10, bnd_r, hca, hcb, gg_t hga', r1, if_neg ne1, gg_t hgb', r2, if_neg ne1, gg_t hga', gg_t hgb', if_pos rfl, if_neg gd.1, if_neg gd.2.1, if_neg gd.2.2.1, gg_t hga', r3, if_neg kA, gg_t hgb', r4, if_pos kB]
                have m1 := mv126 (i := i) (b := b) (j := j) (n := n) (a := a) (g := fun y => σ.2.1 231 (300 * a + i + y)) (by omega) ha (by omega) n 2000 0 (gsI (gsI (gcp σ (152 + 2 * a + 1) i (152 + 2 * b + 1) j n) 0 11 0) 168 94 0) (by omega) (by omega) (fun y hy => by simp (disch := omega) only [gsI_2, gcp_o])
                have m2 := mv164 (a := a) (i := i) (b := b) (j := j) (n := n) (g := fun y => σ.2.1 231 (300 * a + i + y)) (by omega) hb (by omega) n 2000 0 (gwJ (gsI (gsI (gcp σ (152 + 2 * a + 1) i (152 + 2 * b + 1) j n) 0 11 0) 168 94 0) 232 0 0 n (fun y => σ.2.1 231 (300 * a + i + y))) (by omega) (by omega) (fun y hy => by rw [wJ_i (by omega), Nat.sub_zero])
                exact m1.trans m2
              · simp (disch := omega) only [wJ_1, rI_s, rI_o]
              · have keep : ∀ k, (gwJ (gwJ (gsI (gsI (gcp σ (152 + 2 * a + 1) i (152 + 2 * b + 1) j n) 0 11 0) 168 94 0) 232 0 0 n (fun y => σ.2.1 231 (300 * a + i + y))) 231 (300 * b + j) 0 n (fun y => σ.2.1 231 (300 * a + i + y))).1 (152 + 2 * x) k = σ.1 (152 + 2 * x) k := fun k => by simp (disch := omega) only [wJ_1, rI_o, gcp_1]
                by_cases hx2 : x = b
                · subst hx2
                  refine Or.inr ⟨(keep 0).trans g1, la, nb, hlb, hnb, (keep 1).trans g2, ?_, (keep 2).trans g4, ?_, fun y hy => ?_⟩
                  · simp (disch := omega) only [wJ_1, rI_o, gcp_1]; exact g3
                  · simp (disch := omega) only [wJ_1, rI_o, gcp_1]; exact g5
                  · rw [show 153 + 2 * x = 152 + 2 * x + 1 by omega]
                    by_cases hy2 : j ≤ y ∧ y < j + n
                    · simp (disch := omega) only [wJ_o, wJ_i, gsI_2, gcp_i]
                      rw [show 152 + 2 * a + 1 = 153 + 2 * a by omega, h6 (i + (y - j)) (by omega)]
                      rw [show 300 * a + i + (300 * x + y - (300 * x + j)) = 300 * a + (i + (y - j)) by omega]
                    · simp (disch := omega) only [wJ_o, gsI_2, gcp_o]
                      rw [show 152 + 2 * x + 1 = 153 + 2 * x by omega]
                      exact g6 y hy
                · refine iRow_keep2 (hr x hx) (fun k => ⟨keep k, ?_, ?_⟩) (fun y hy => ?_)
                  · simp (disch := omega) only [wJ_1, rI_o, gcp_1]
                  · simp (disch := omega) only [wJ_1, rI_o, gcp_1]
                  · simp (disch := omega) only [wJ_o, gsI_2, gcp_o, and_self]
              · obtain ⟨a1, a2, a3, a4⟩ := hP
                refine ⟨?_, ?_, rfl⟩
                · simp (disch := omega) only [wJ_1, rI_o, gcp_1]
                · simp (disch := omega) only [wJ_o, gsI_2, gcp_o]
            · have gA : ∀ τ : gS, τ.1 (152 + 2 * a) 2 = nI na → fX7_holds (152 + 2 * a) p2 p5 τ = some (if 0 ≤ p2.toInt ∧ 0 ≤ p5.toInt ∧ p2.toInt + p5.toInt ≤ na then 1 else 0, τ) := fun τ hτ => holdsC hτ hna p2 p5
              have gB : ∀ τ : gS, τ.1 (152 + 2 * b) 2 = nI nb → fX7_holds (152 + 2 * b) p4 p5 τ = some (if 0 ≤ p4.toInt ∧ 0 ≤ p5.toInt ∧ p4.toInt + p5.toInt ≤ nb then 1 else 0, τ) := fun τ hτ => holdsC hτ hnb p4 p5
              refine Ok.mk (r := -1000010 - 2) (r' := -1000010 - 2) (σ1 := gsI σ 0 11 2) (σ2 := gsI (gsI (gsI σ 0 11 2) 168 94 0) 168 94 2) ?_ ?_ rfl (find_ok h0 2)
              · rw [fX10_move, (isRow_yes ha _).1, bd_r, if_neg n10, (isRow_yes hb _).1, bd_r, if_neg n10, hca, hcb, gg_t hga', bnd_r, gg_t hgb', bnd_r, if_neg A1, if_neg B1, h2, g2, if_pos rfl, gA σ h4, bd_r]
                by_cases okA : 0 ≤ p2.toInt ∧ 0 ≤ p5.toInt ∧ p2.toInt + p5.toInt ≤ na
                · rw [if_pos okA, if_neg n10, gB σ g4, bd_r, if_neg (fun z => ok ⟨okA, z⟩), if_pos rfl, fX10_move_98, fX10_found, bnd_r, bd_r]
                · rw [if_neg okA, if_pos rfl, fX10_move_98, fX10_found, bnd_r, bd_r]
              · have r1 : (gsI (gsI σ 0 11 2) 168 94 0).1 229 a = nI (la + 1) := by simp (disch := omega) only [rI_o]; exact h3
                have r2 : (gsI (gsI σ 0 11 2) 168 94 0).1 229 b = nI (la + 1) := by simp (disch := omega) only [rI_o]; exact g3
                have r3 : (gsI (gsI σ 0 11 2) 168 94 0).1 230 a = nI na := by simp (disch := omega) only [rI_o]; exact h5
                have r4 : (gsI (gsI σ 0 11 2) 168 94 0).1 230 b = nI nb := by simp (disch := omega) only [rI_o]; exact g5
                have ne1 : ¬ nI (la + 1) = 0 := nI_ne (by omega) (by omega)
                have fin : fX11_move_117 (nI a) p2 (nI b) p4 p5 (gsI (gsI σ 0 11 2) 168 94 0) = some (-1000010 - 2, gsI (gsI (gsI σ 0 11 2) 168 94 0) 168 94 2) := by rw [fX11_move_117, fX11_finds, bnd_r, bd_r]
                rw [fX11_move, (isRow_yes ha _).2, bd_r, if_neg n10, (isRow_yes hb _).2, bd_r, if_neg n10, bnd_r, hca, hcb, gg_t hga', r1, if_neg ne1, gg_t hgb', r2, if_neg ne1, gg_t hga', gg_t hgb', if_pos rfl]
                by_cases k1 : p2 < 0
                · rw [if_pos k1, fin]
                · rw [if_neg k1]
                  by_cases k2 : p4 < 0
                  · rw [if_pos k2, fin]
                  · rw [if_neg k2]
                    by_cases k3 : p5 < 0
                    · rw [if_pos k3, fin]
                    · rw [if_neg k3, gg_t hga', r3]
                      have w1 := mt lt32.mpr k1
                      have w2 := mt lt32.mpr k2
                      have w3 := mt lt32.mpr k3
                      rw [z32] at w1 w2 w3
                      by_cases k4 : (nI na).toInt64 < p2.toInt64 + p5.toInt64
                      · rw [if_pos (cmp_gt.mpr k4), fin]
                      · rw [if_neg (mt cmp_gt.mp k4), gg_t hgb', r4, if_neg, fin]
                        intro z
                        have w4 := mt lt64.mpr k4
                        rw [lg_i2l_add, l32, nI_toInt (by omega)] at w4
                        have w5 := mt lt64.mpr (mt cmp_gt.mpr (Int32.not_lt.mpr z))
                        rw [lg_i2l_add, l32, nI_toInt (by omega)] at w5
                        exact ok ⟨⟨by omega, by omega, by omega⟩, ⟨by omega, by omega, by omega⟩⟩
          · have nl : ¬ nI la = nI lb := fun z => hl ((nI_eq (by omega) (by omega)).mp z)
            have nl2 : ¬ nI (la + 1) = nI (lb + 1) := fun z => hl (by have := (nI_eq (by omega) (by omega)).mp z; omega)
            refine Ok.mk (r := -1000010 - 6) (r' := -1000010 - 6) (σ1 := gsI σ 0 11 6) (σ2 := gsI (gsI (gsI σ 0 11 6) 168 94 0) 168 94 6) ?_ ?_ rfl (find_ok h0 6)
            · rw [fX10_move, (isRow_yes ha _).1, bd_r, if_neg n10, (isRow_yes hb _).1, bd_r, if_neg n10, hca, hcb, gg_t hga', bnd_r, gg_t hgb', bnd_r, if_neg A1, if_neg B1, h2, g2, if_neg nl, fX10_found, bnd_r, bd_r]
            · have r1 : (gsI (gsI σ 0 11 6) 168 94 0).1 229 a = nI (la + 1) := by simp (disch := omega) only [rI_o]; exact h3
              have r2 : (gsI (gsI σ 0 11 6) 168 94 0).1 229 b = nI (lb + 1) := by simp (disch := omega) only [rI_o]; exact g3
              rw [fX11_move, (isRow_yes ha _).2, bd_r, if_neg n10, (isRow_yes hb _).2, bd_r, if_neg n10, bnd_r, hca, hcb, gg_t hga', r1, if_neg (nI_ne (by omega) (by omega)), gg_t hgb', r2, if_neg (nI_ne (by omega) (by omega)), gg_t hga', gg_t hgb', if_neg nl2, fX11_finds, bnd_r, bd_r]
    · refine bad _ _ ?_ ?_
      · rw [fX10_move, (isRow_yes ha _).1, bd_r, if_neg n10, (isRow_no hq _).1, bd_r, if_pos rfl, fX10_move_14]
      · rw [fX11_move, (isRow_yes ha _).2, bd_r, if_neg n10, (isRow_no hq _).2, bd_r, if_pos rfl, fX11_move_14]
  · refine bad _ _ ?_ ?_
    · rw [fX10_move, (isRow_no hp _).1, bd_r, if_pos rfl, fX10_move_14]
    · rw [fX11_move, (isRow_no hp _).2, bd_r, if_pos rfl, fX11_move_14]

/-! the reference's loop over the statements -/
def OLR (σ : gS) (o : Except (Nat × Nat) DT) (σ1 : gS) : Prop := match o with
  | .error e => BS σ σ1 e.1 e.2
  | .ok D => RD σ1 D ∧ WFa D ∧ WFb D ∧ σ1.1 168 49 = 0 ∧ σ1.1 168 50 = -1000000 ∧ frS σ σ1
section RDL
variable {b : Nat → Nat} {m : Nat}
theorem read_n {σ : gS} {n : Nat} (h : ¬ σ.1 168 49 = 0) : fX11_read_55 (n + 1) σ = fX11_read_180 σ := by
  rw [fX11_read_55, goodM_n h, bd_r, i00]
theorem OLR.t {σ τ σ1 : gS} {o : Except (Nat × Nat) DT} (hf : frS τ σ) (h : OLR σ o σ1) : OLR τ o σ1 := by
  cases o with
  | error e => exact ⟨h.1, h.2.1, h.2.2.1, h.2.2.2.1, hf.t h.2.2.2.2⟩
  | ok D => exact ⟨h.1, h.2.1, h.2.2.1, h.2.2.2.1, h.2.2.2.2.1, hf.t h.2.2.2.2.2⟩
set_option maxHeartbeats 1000000 in
theorem loopR : ∀ (k fu p : Nat) (D : DT) (σ : gS), m - p < k → k < fu → RD σ D → WFa D → WFb D → PR σ b m p → ∃ σ1, fX11_read_55 fu σ = fX11_read_180 σ1 ∧ OLR σ (spL b m k D p) σ1 := by
  intro k
  induction k with
  | zero => intro fu p D σ h1; omega
  | succ k ih =>
    intro fu p D σ h1 h2 hD w v h
    obtain ⟨fu, rfl⟩ : ∃ y, fu = y + 1 := ⟨fu - 1, by omega⟩
    obtain ⟨fu, rfl⟩ : ∃ y, fu = y + 1 := ⟨fu - 1, by omega⟩
    have h9 := h.2.2.2.1
    have hk := h.2.2.2.2
    have hpm := h.2.1.1
    rw [fX11_read_55, goodM h9, bd_r, i10, spL]
    by_cases q : tK b m p = 0
    · rw [if_pos (h.2.2.1.2.2.1 q), if_pos q]
      exact ⟨σ, rfl, hD, w, v, h9, h.2.1.2, frS.r σ⟩
    rw [if_neg (lm_n0 hk h.2.2.1 q), if_neg q]
    have lt := TKo.lt hk hpm q
    by_cases z : σ.1 168 45 = 1
    · obtain ⟨u, w1, w2, w3⟩ := lm_nW hk h.2.2.1 z
      have no : ∀ x, x < 12 → x ≠ u → ¬ isW b m p x := fun x h1 h2 h3 => h2 (isW_u h1 w1 h3 w2)
      rw [wantM_ok h9 z, bd_r, goodM h9, bd_r, i10, w3, spS]
      obtain ⟨_, σ5, e5, g5⟩ := h.nx
      have D5 := hD.fr g5.2
      have fin : ∀ (K : gS → Option (Unit × gS)) (o : RS), Wp (K σ5) (fun _ σ' => OR b m (tE b m p) σ5 o σ') → ∃ σ1, (bd (K σ5) fun _ σ15 => fX11_read_177 (fun σ => fX11_read_55 (fu + 1) σ) σ15) = fX11_read_180 σ1 ∧ OLR σ (match o with
          | .error e => .error e
          | .ok q => spL b m k q.1 q.2) σ1 := by
        rintro K o ⟨_, σ6, e6, o6⟩
        rw [e6, bd_r, fX11_read_177]
        rcases o with e | ⟨D', p'⟩
        · rw [read_n (BS.nz o6)]
          exact ⟨σ6, rfl, o6.1, o6.2.1, o6.2.2.1, o6.2.2.2.1, g5.2.S.t o6.2.2.2.2⟩
        · obtain ⟨c1, c2, c3, c4, c5, c6⟩ := o6
          have c5 : tE b m p ≤ p' := c5
          obtain ⟨σ1, s1, s2⟩ := ih (fu + 1) p' D' σ6 (by omega) (by omega) c1 c2 c3 c4
          exact ⟨σ1, s1, s2.t (g5.2.S.t c6)⟩
      rcases k12 w1 with rfl | rfl | rfl | rfl | rfl | rfl | rfl | rfl | rfl | rfl | rfl | rfl
      · rw [if_pos (by decide), cif_t w2, fX11_read_97, goodM h9, bd_r, i10, e5, bd_r, if_neg (by decide), if_pos (by decide), fX11_read_124]
        exact fin (fX11_readJoint 1) _ (jointR (g := 1) (by decide) D5 w v g5.1)
      · rw [if_pos (by decide), cif_f (no 0 (by decide) (by decide)), cif_t w2, fX11_read_97, goodM h9, bd_r, i10, e5, bd_r, if_neg (by decide), if_neg (by decide), fX11_read_124]
        exact fin (fX11_readJoint 0) _ (jointR (g := 0) (by decide) D5 w v g5.1)
      · rw [if_pos (by decide), cif_f (no 0 (by decide) (by decide)), cif_f (no 1 (by decide) (by decide)), cif_t w2, fX11_read_97, goodM h9, bd_r, i10, e5, bd_r, if_pos (by decide), if_neg (by decide)]
        exact fin (fX11_readBars 3) _ (oneBarR D5 w v g5.1)
      · rw [if_pos (by decide), cif_f (no 0 (by decide) (by decide)), cif_f (no 1 (by decide) (by decide)), cif_f (no 2 (by decide) (by decide)), cif_t w2, fX11_read_97, goodM h9, bd_r, i10, e5, bd_r, if_pos (by decide), if_neg (by decide)]
        exact fin (fX11_readBars (nI 4)) _ (chainR (wh := 4) (Or.inl ⟨rfl, rfl, rfl⟩) (by omega) D5 w v g5.1)
      · rw [if_pos (by decide), cif_f (no 0 (by decide) (by decide)), cif_f (no 1 (by decide) (by decide)), cif_f (no 2 (by decide) (by decide)), cif_f (no 3 (by decide) (by decide)), cif_t w2, fX11_read_97, goodM h9, bd_r, i10, e5, bd_r, if_pos (by decide), if_neg (by decide)]
        exact fin (fX11_readBars (nI 5)) _ (chainR (wh := 5) (Or.inr ⟨rfl, rfl, rfl⟩) (by omega) D5 w v g5.1)
      · rw [if_pos (by decide), cif_f (no 0 (by decide) (by decide)), cif_f (no 1 (by decide) (by decide)), cif_f (no 2 (by decide) (by decide)), cif_f (no 3 (by decide) (by decide)), cif_f (no 4 (by decide) (by decide)), cif_t w2, fX11_read_97, goodM h9, bd_r, i10, e5, bd_r, if_pos (by decide), if_pos (by decide), if_pos (by decide)]
        exact fin fX11_readWheel _ (wheelR D5 w v g5.1)
      · rw [if_neg (by decide), cif_f (no 0 (by decide) (by decide)), cif_f (no 1 (by decide) (by decide)), cif_f (no 2 (by decide) (by decide)), cif_f (no 3 (by decide) (by decide)), cif_f (no 4 (by decide) (by decide)), cif_f (no 5 (by decide) (by decide)), cif_f (no 7 (by decide) (by decide)), cif_f (no 8 (by decide) (by decide)), cif_f (no 9 (by decide) (by decide)), cif_f (no 10 (by decide) (by decide))]
        have ef : uf b m p = 2 := if_neg (by rw [w2.1]; decide)
        have hb : BR σ (gsI (gsI σ 168 49 (nI 2)) 168 50 (σ.1 168 46)) 2 (tS b m p) := br_of h.2.2.1 (frR.r σ) (by decide) (by decide)
        rw [show (2 : Int32) = nI 2 from rfl, badM h9, bd_r, fX11_read_97, goodM_n hb.nz, bd_r, i00, fX11_read_177, read_n hb.nz, ef]
        exact ⟨_, rfl, BS_of (frS.r σ) hb⟩
      · rw [if_pos (by decide), cif_f (no 0 (by decide) (by decide)), cif_f (no 1 (by decide) (by decide)), cif_f (no 2 (by decide) (by decide)), cif_f (no 3 (by decide) (by decide)), cif_f (no 4 (by decide) (by decide)), cif_f (no 5 (by decide) (by decide)), cif_t w2, fX11_read_97, goodM h9, bd_r, i10, e5, bd_r, if_pos (by decide), if_pos (by decide), if_neg (by decide), if_neg (by decide), show nI (rwW 7) - 3 = nI 4 from by decide]
        exact fin (fX11_readCoupling (nI 4)) _ (coupR (k := 4) (by decide) (by decide) D5 w v g5.1)
      · rw [if_pos (by decide), cif_f (no 0 (by decide) (by decide)), cif_f (no 1 (by decide) (by decide)), cif_f (no 2 (by decide) (by decide)), cif_f (no 3 (by decide) (by decide)), cif_f (no 4 (by decide) (by decide)), cif_f (no 5 (by decide) (by decide)), cif_f (no 7 (by decide) (by decide)), cif_t w2, fX11_read_97, goodM h9, bd_r, i10, e5, bd_r, if_pos (by decide), if_pos (by decide), if_neg (by decide), if_neg (by decide), show nI (rwW 8) - 3 = nI 5 from by decide]
        exact fin (fX11_readCoupling (nI 5)) _ (coupR (k := 5) (by decide) (by decide) D5 w v g5.1)
      · rw [if_pos (by decide), cif_f (no 0 (by decide) (by decide)), cif_f (no 1 (by decide) (by decide)), cif_f (no 2 (by decide) (by decide)), cif_f (no 3 (by decide) (by decide)), cif_f (no 4 (by decide) (by decide)), cif_f (no 5 (by decide) (by decide)), cif_f (no 7 (by decide) (by decide)), cif_f (no 8 (by decide) (by decide)), cif_t w2, fX11_read_97, goodM h9, bd_r, i10, e5, bd_r, if_pos (by decide), if_pos (by decide), if_neg (by decide), if_neg (by decide), show nI (rwW 9) - 3 = nI 6 from by decide]
        exact fin (fX11_readCoupling (nI 6)) _ (coupR (k := 6) (by decide) (by decide) D5 w v g5.1)
      · rw [if_pos (by decide), cif_f (no 0 (by decide) (by decide)), cif_f (no 1 (by decide) (by decide)), cif_f (no 2 (by decide) (by decide)), cif_f (no 3 (by decide) (by decide)), cif_f (no 4 (by decide) (by decide)), cif_f (no 5 (by decide) (by decide)), cif_f (no 7 (by decide) (by decide)), cif_f (no 8 (by decide) (by decide)), cif_f (no 9 (by decide) (by decide)), cif_t w2, fX11_read_97, goodM h9, bd_r, i10, e5, bd_r, if_pos (by decide), if_pos (by decide), if_neg (by decide), if_pos (by decide)]
        exact fin fX11_readDrive _ (driveR D5 w v g5.1)
      · rw [if_neg (by decide), cif_f (no 0 (by decide) (by decide)), cif_f (no 1 (by decide) (by decide)), cif_f (no 2 (by decide) (by decide)), cif_f (no 3 (by decide) (by decide)), cif_f (no 4 (by decide) (by decide)), cif_f (no 5 (by decide) (by decide)), cif_f (no 7 (by decide) (by decide)), cif_f (no 8 (by decide) (by decide)), cif_f (no 9 (by decide) (by decide)), cif_f (no 10 (by decide) (by decide))]
        have ef : uf b m p = 2 := if_neg (by rw [w2.1]; decide)
        have hb : BR σ (gsI (gsI σ 168 49 (nI 2)) 168 50 (σ.1 168 46)) 2 (tS b m p) := br_of h.2.2.1 (frR.r σ) (by decide) (by decide)
        rw [show (2 : Int32) = nI 2 from rfl, badM h9, bd_r, fX11_read_97, goodM_n hb.nz, bd_r, i00, fX11_read_177, read_n hb.nz, ef]
        exact ⟨_, rfl, BS_of (frS.r σ) hb⟩
    · have no : ∀ x, x < 12 → ¬ isW b m p x := fun x h1 h2 => z (lm_W h.2.2.1 h1 h2).1
      obtain ⟨_, σ1, e1, hb⟩ := wantM_bad h z
      rw [e1, bd_r, goodM_n hb.nz, bd_r, i00, fX11_read_97, goodM_n hb.nz, bd_r, i00, fX11_read_177, read_n hb.nz, spS, cif_f (no 0 (by decide)), cif_f (no 1 (by decide)), cif_f (no 2 (by decide)), cif_f (no 3 (by decide)), cif_f (no 4 (by decide)), cif_f (no 5 (by decide)), cif_f (no 7 (by decide)), cif_f (no 8 (by decide)), cif_f (no 9 (by decide)), cif_f (no 10 (by decide))]
      exact ⟨σ1, rfl, BS_of (frS.r σ) hb⟩
end RDL

/-! the reference's search for an owner that has room -/
def SR (A B own : Nat → Nat) (n J j kp m : Nat) (qu cb : Nat → Nat) (cm : Nat → Bool) : Prop :=
  (1 ≤ m ∧ m ≤ sz cm) ∧ qu 0 = j ∧ (∀ i, i < m → qu i < J ∧ cm (qu i) = true) ∧ (∀ i i', i < m → i' < m → qu i = qu i' → i = i') ∧ (cm j = true ∧ cm kp = true) ∧ (∀ v, cm v = true → v < J ∧ (v = kp ∨ ∃ i, i < m ∧ qu i = v)) ∧
  (∀ i, 0 < i → i < m → qu i ≠ kp ∧ 2 ≤ ow own n (qu i) ∧ cb i < n ∧ ∃ i', i' < i ∧ own (cb i) = qu i' ∧ (A (cb i) = qu i ∨ B (cb i) = qu i))
def SX (σ : gS) (J m : Nat) (qu cb : Nat → Nat) (cm : Nat → Bool) : Prop := (∀ v, v < J → σ.1 204 v = if cm v = true then 1 else 0) ∧ (∀ i, i < m → σ.1 205 i = nI (qu i)) ∧ (∀ i, 0 < i → i < m → σ.1 203 (qu i) = nI (cb i))
def FR (E : List (Nat × Nat)) (J n : Nat) (A B own : Nat → Nat) (j kp : Nat) (σ : gS) (r : Int32) (σ' : gS) : Prop := ∃ own', RI σ' J n A B own' ∧ RW σ' J (ow own' n) ∧ GO E J n A B own' ∧ frQ n σ σ' ∧ (∀ i, i < n → (own' i = 24 ↔ own i = 24)) ∧
  ((r = 1 ∧ ∃ e, e < J ∧ e ≠ j ∧ e ≠ kp ∧ ∀ v, v < 24 → ow own' n v + bq v j = ow own n v + bq v e) ∨
   (r = 0 ∧ own' = own ∧ ∃ R : Nat → Bool, R j = true ∧ R kp = true ∧ (∀ v, R v = true → v < J) ∧ (∀ v, R v = true → v ≠ j → v ≠ kp → 2 ≤ ow own n v) ∧ ∀ i, i < n → R (own i) = true → (own i = j ∨ own i ≠ kp) → R (A i) = true ∧ R (B i) = true))
theorem sz_lt {cm : Nat → Bool} {x : Nat} (hx : x < 24) (h : ¬ cm x = true) : sz cm ≤ 23 := by
  have e := sN_u (f := fun v => b1 (cm v)) (x := 1) hx
  have : sN (up (fun v => b1 (cm v)) x 1) 24 ≤ sN (fun _ => 1) 24 := sN_le (fun i _ => by
    unfold up
    split
    · omega
    · show b1 (cm i) ≤ 1
      unfold b1
      split <;> omega)
  have c : sN (fun _ => 1) 24 = 24 := rfl
  have z : b1 (cm x) = 0 := if_neg h
  rw [z] at e
  unfold sz
  omega
theorem sz_up {cm : Nat → Bool} {x : Nat} (hx : x < 24) (h : ¬ cm x = true) : sz (up cm x true) = sz cm + 1 := by
  have e := sN_u (f := fun v => b1 (cm v)) (x := 1) hx
  have c : sz (up cm x true) = sN (up (fun v => b1 (cm v)) x 1) 24 := sN_c (fun v _ => by
    unfold up
    by_cases q : v = x
    · rw [if_pos q, if_pos q]; rfl
    · rw [if_neg q, if_neg q])
  have z : b1 (cm x) = 0 := if_neg h
  rw [z] at e
  rw [c]
  exact e
section FRS
variable {σ σ' : gS} {E : List (Nat × Nat)} {J n j kp : Nat} {A B own : Nat → Nat}
theorem SR.new {m I c x : Nat} {qu cb : Nat → Nat} {cm : Nat → Bool} (hJ : J ≤ 24) (s : SR A B own n J j kp m qu cb cm) (hI : I < m) (hc : c < n) (hx : x < J) (ho : own c = qu I) (hl : A c = x ∨ B c = x) (hm : ¬ cm x = true) :
    x ≠ j ∧ x ≠ kp ∧ m < 24 ∧ up qu m x 0 = j ∧ (∀ i, i ≤ m → up qu m x i < J) ∧ (∀ i i', i ≤ m → i' ≤ m → up qu m x i = up qu m x i' → i = i') ∧ (∀ i, i < m → qu i ≠ x) ∧ (∀ i, 0 < i → i ≤ m → up cb m c i < n ∧ ∃ i', i' < i ∧ own (up cb m c i) = up qu m x i' ∧ (A (up cb m c i) = up qu m x i ∨ B (up cb m c i) = up qu m x i)) ∧
    (2 ≤ ow own n x → SR A B own n J j kp (m + 1) (up qu m x) (up cb m c) (up cm x true)) := by
  obtain ⟨⟨a1, a2⟩, b, cq, d, ⟨e1, e2⟩, f, k⟩ := s
  have mk := sz_lt (show x < 24 by omega) hm
  have nx : ∀ i, i < m → qu i ≠ x := fun i hi z => hm (by rw [← z]; exact (cq i hi).2)
  have xj : x ≠ j := fun z => hm (by rw [z]; exact e1)
  have xh : x ≠ kp := fun z => hm (by rw [z]; exact e2)
  have q0 : up qu m x 0 = j := by rw [up_o (by omega)]; exact b
  have r1 : ∀ i, i ≤ m → up qu m x i < J := by
    intro i hi
    by_cases z : i = m
    · rw [z, up_s]; exact hx
    · rw [up_o z]; exact (cq i (by omega)).1
  have r2 : ∀ i i', i ≤ m → i' ≤ m → up qu m x i = up qu m x i' → i = i' := by
    intro i i' hi hi' z
    by_cases y : i = m
    · by_cases y' : i' = m
      · omega
      · rw [y, up_s, up_o y'] at z; exact absurd z.symm (nx i' (by omega))
    · by_cases y' : i' = m
      · rw [y', up_s, up_o y] at z; exact absurd z (nx i (by omega))
      · rw [up_o y, up_o y'] at z; exact d i i' (by omega) (by omega) z
  have r3 : ∀ i, 0 < i → i ≤ m → up cb m c i < n ∧ ∃ i', i' < i ∧ own (up cb m c i) = up qu m x i' ∧ (A (up cb m c i) = up qu m x i ∨ B (up cb m c i) = up qu m x i) := by
    intro i hi hi'
    by_cases z : i = m
    · rw [z, up_s, up_s]
      exact ⟨hc, I, by omega, by rw [up_o (by omega)]; exact ho, hl⟩
    · obtain ⟨-, -, w0, i', w1, w2, w3⟩ := k i hi (by omega)
      rw [up_o z, up_o z]
      exact ⟨w0, i', w1, by rw [up_o (by omega)]; exact w2, w3⟩
  refine ⟨xj, xh, by omega, q0, r1, r2, nx, r3, fun hf => ⟨⟨by omega, by rw [sz_up (by omega) hm]; omega⟩, q0, fun i hi => ⟨r1 i (by omega), ?_⟩, fun i i' hi hi' z => r2 i i' (by omega) (by omega) z, ⟨by rw [up_o (fun z => xj z.symm)]; exact e1, by rw [up_o (fun z => xh z.symm)]; exact e2⟩, fun v hv => ?_, fun i hi hi' => ⟨?_, ?_, r3 i hi (by omega)⟩⟩⟩
  · by_cases z : i = m
    · rw [z, up_s, up_s]
    · rw [up_o z, up_o (nx i (by omega))]; exact (cq i (by omega)).2
  · by_cases z : v = x
    · exact ⟨by omega, Or.inr ⟨m, by omega, by rw [up_s, z]⟩⟩
    · rw [up_o z] at hv
      obtain ⟨y1, y2⟩ := f v hv
      refine ⟨y1, ?_⟩
      rcases y2 with y | ⟨i, i1, i2⟩
      · exact Or.inl y
      · exact Or.inr ⟨i, by omega, by rw [up_o (by omega)]; exact i2⟩
  · by_cases z : i = m
    · rw [z, up_s]; exact xh
    · rw [up_o z]; exact (k i hi (by omega)).1
  · by_cases z : i = m
    · rw [z, up_s]; exact hf
    · rw [up_o z]; exact (k i hi (by omega)).2.1
theorem RI.keep (h : RI σ J n A B own) (hk : ∀ y, σ'.1 198 y = σ.1 198 y ∧ σ'.1 199 y = σ.1 199 y ∧ σ'.1 200 y = σ.1 200 y) (h0 : σ'.1 168 0 = σ.1 168 0) (h1 : σ'.1 168 53 = σ.1 168 53) : RI σ' J n A B own := by
  obtain ⟨a, b, c⟩ := h
  refine ⟨by rw [h0]; exact a, ⟨by rw [h1]; exact b.1, b.2⟩, fun i hi => ?_⟩
  obtain ⟨k1, k2, k3⟩ := hk i
  rw [k1, k2, k3]
  exact c i hi
theorem RW.keep {W : Nat → Nat} (h : RW σ J W) (hk : ∀ y, σ'.1 201 y = σ.1 201 y) : RW σ' J W := fun v hv => by rw [hk]; exact h v hv
/-- one was found -/
theorem foundR {m x : Nat} {Q cb : Nat → Nat} (hI : RI σ J n A B own) (hW : RW σ J (ow own n)) (hG : GO E J n A B own) (hj : j < J) (hj1 : 1 ≤ ow own n j) (hx : x < J) (xj : x ≠ j) (xk : x ≠ kp) (hx2 : ow own n x < 2) (m24 : m < 24) (hQ0 : Q 0 = j) (hQm : Q m = x) (hQ : ∀ k, k ≤ m → Q k < J) (inj : ∀ k k', k ≤ m → k' ≤ m → Q k = Q k' → k = k') (hp : ∀ k, 0 < k → k ≤ m → σ.1 203 (Q k) = nI (cb k) ∧ cb k < n ∧ ∃ k', k' < k ∧ own (cb k) = Q k' ∧ (A (cb k) = Q k ∨ B (cb k) = Q k)) : Wp (fX11_frees_209 (nI j) (nI kp) (nI x) σ) (fun r σ' => FR E J n A B own j kp σ r σ') := by
  obtain ⟨hJ, hi, h2, hS⟩ := hG
  have o2 := h2 j (by omega)
  rw [fX11_frees_209, if_pos (nI_pos' (by omega)), nI_clamp (show x < 2 ^ 31 by omega), gg_ix (show x < 24 by omega) (by decide), gg_ix (show x < 24 by omega) (by decide), bnd_r, nI_clamp (show j < 2 ^ 31 by omega), gg_ix (show j < 24 by omega) (by decide), gg_ix (show j < 24 by omega) (by decide), bnd_r, hW x hx, nI_1, rI_o (show ¬ (201 = 201 ∧ j = x) from fun z => xj z.2.symm), hW j hj, show nI (ow own n j) - 1 = nI (ow own n j - 1) from by rw [show ow own n j = (ow own n j - 1) + 1 by omega, nI_pred]; rfl, ← hQm]
  have tc := turnR (E := E) (kp := kp) (n := n) (A := A) (B := B) (cb := cb) (W := fun v => if v = j then ow own n j - 1 else if v = x then ow own n x + 1 else ow own n v) hQ0 hQ inj m 2000 (gsI (gsI σ 201 (Q m) (nI (ow own n (Q m) + 1))) 201 j (nI (ow own n j - 1))) own (Nat.le_refl m) (by omega) (hI.keep (fun y => ⟨by rw [rI_o (by omega), rI_o (by omega)], by rw [rI_o (by omega), rI_o (by omega)], by rw [rI_o (by omega), rI_o (by omega)]⟩) (by rw [rI_o (by omega), rI_o (by omega)]) (by rw [rI_o (by omega), rI_o (by omega)])) (fun v hv => ?_) ⟨hJ, hi, hS⟩ (fun v hv => ?_) (fun k k1 k2 => ?_)
  · refine wp_m tc ?_
    rintro r σ' ⟨d1, own', d2, d3, d4, d5, d6, d7, d8⟩
    have wv : ∀ v, v < 24 → ow own' n v = (if v = j then ow own n j - 1 else if v = x then ow own n x + 1 else ow own n v) := fun v hv => (d4 v hv).symm
    refine ⟨own', d2, fun v hv => ?_, ⟨hJ, fun i hi' => ⟨(hi i hi').1, (hi i hi').2.1, (hi i hi').2.2.1, d5 i hi'⟩, fun v hv => ?_, d6⟩, fun a c w => sm_t (sm_I (sm_I (sm_r σ a c) (by omega) rfl) (by omega) rfl) (d7 a c w), d8, Or.inl ⟨d1, x, hx, xj, xk, fun v hv => ?_⟩⟩
    · rw [d3 v hv, wv v (by omega)]
    · rw [wv v hv]
      have := h2 v hv
      by_cases y : v = j
      · rw [if_pos y]; omega
      · rw [if_neg y]
        by_cases y2 : v = x
        · rw [if_pos y2]; omega
        · rw [if_neg y2]; exact this
    · rw [wv v hv]
      by_cases y : v = j
      · subst y
        rw [if_pos rfl, bq_s, bq_o (fun z => xj z.symm)]; omega
      · rw [if_neg y, bq_o y]
        by_cases y2 : v = x
        · subst y2; rw [if_pos rfl, bq_s]
        · rw [if_neg y2, bq_o y2]
  · by_cases y : v = j
    · subst y
      rw [rI_s]
      show _ = nI (if v = v then ow own n v - 1 else _)
      rw [if_pos rfl]
    · rw [rI_o (by omega)]
      show _ = nI (if v = j then ow own n j - 1 else if v = x then ow own n x + 1 else ow own n v)
      rw [if_neg y]
      by_cases y2 : v = x
      · rw [if_pos y2, y2, hQm, rI_s]
      · rw [if_neg y2, hQm, rI_o (by omega)]; exact hW v hv
  · show (if v = j then ow own n j - 1 else if v = x then ow own n x + 1 else ow own n v) + bq v j = ow own n v + bq v (Q m)
    rw [hQm]
    by_cases y : v = j
    · subst y
      rw [if_pos rfl, bq_s, bq_o (fun z => xj z.symm)]; omega
    · rw [if_neg y, bq_o y]
      by_cases y2 : v = x
      · subst y2; rw [if_pos rfl, bq_s]
      · rw [if_neg y2, bq_o y2]
  · rw [rI_o (by omega), rI_o (by omega)]
    exact hp k k1 k2
theorem found_j {K : Int32 → Int32 → Int32 → gS → Option (Int32 × gS)} {x gu : Nat} {v3 v5 v6 : Int32} (hx : x < 24) (hK : ∀ u v τ, K u (nI x) v τ = fX11_frees_209 (nI j) (nI kp) (nI x) τ) : fX11_frees_73 (nI j) (nI kp) K (gu + 1) v3 (nI x) v5 v6 σ = fX11_frees_209 (nI j) (nI kp) (nI x) σ := by
  rw [fX11_frees_73]
  by_cases c : σ.1 168 53 ≤ v6
  · rw [if_pos c, fX11_frees_203, bnd_r, hK]
  · rw [if_neg c, if_pos (nI_pos' (by omega)), fX11_frees_203, bnd_r, hK]
theorem found_k {x fu : Nat} {u v : Int32} (hx : x < 24) : fX11_frees_59 (nI j) (nI kp) (fu + 1) u (nI x) v σ = fX11_frees_209 (nI j) (nI kp) (nI x) σ := by
  rw [fX11_frees_59]
  by_cases c : u ≤ v
  · rw [if_pos c]
  · rw [if_neg c, if_pos (nI_pos' (by omega))]
theorem freR (hj : j < J) (hG : GO E J n A B own) (hj1 : 1 ≤ ow own n j) : ∀ (k I m fu : Nat) (qu cb : Nat → Nat) (cm : Nat → Bool) (σ : gS), 24 - I < k → k < fu → I ≤ m → RI σ J n A B own → RW σ J (ow own n) → SR A B own n J j kp m qu cb cm → SX σ J m qu cb cm → (∀ r i, r < I → r < m → i < n → own i = qu r → cm (A i) = true ∧ cm (B i) = true) →
    Wp (fX11_frees_59 (nI j) (nI kp) fu (nI m) (-1) (nI I) σ) (fun r σ' => FR E J n A B own j kp σ r σ') := by
  have hJ := hG.1
  intro k
  induction k with
  | zero => intro I m fu qu cb cm σ h1; omega
  | succ k ih =>
    intro I m fu qu cb cm σ h1 h2 hIm hI hW s sx hx
    obtain ⟨fu, rfl⟩ : ∃ y, fu = y + 1 := ⟨fu - 1, by omega⟩
    have m24 : m ≤ 24 := by
      have : sz cm ≤ sN (fun _ => 1) 24 := sN_le (fun i _ => by unfold b1; split <;> omega)
      have c : sN (fun _ => 1) 24 = 24 := rfl
      have := s.1.2
      omega
    rw [fX11_frees_59]
    by_cases z : m ≤ I
    · rw [if_pos (nI_le z (by omega)), fX11_frees_209, if_neg (by decide)]
      obtain ⟨a, b, c, d, ⟨e1, e2⟩, f, kk⟩ := s
      refine wp_r ⟨own, hI, hW, hG, fun x y _ => sm_r σ x y, fun i _ => Iff.rfl, Or.inr ⟨rfl, rfl, cm, e1, e2, fun v hv => (f v hv).1, fun v hv v1 v2 => ?_, fun i hi hr ho => ?_⟩⟩
      · rcases (f v hv).2 with y | ⟨i, i1, rfl⟩
        · exact absurd y v2
        · exact (kk i (by apply Nat.pos_of_ne_zero; rintro rfl; exact v1 b) i1).2.1
      · have : ∃ r, r < m ∧ qu r = own i := by
          rcases ho with y | y
          · exact ⟨0, a.1, by rw [b, y]⟩
          · rcases (f _ hr).2 with w | w
            · exact absurd w y
            · exact w
        obtain ⟨r, r1, r2⟩ := this
        exact hx r i (by omega) r1 hi r2.symm
    · rw [if_neg (nI_ge (by omega) (by omega)), if_neg (by decide)]
      obtain ⟨fu, rfl⟩ : ∃ y, fu = y + 1 := ⟨fu - 1, by omega⟩
      have inner : ∀ (r i m gu : Nat) (qu cb : Nat → Nat) (cm : Nat → Bool) (σ1 : gS), i + r = n → r + 1 < gu → frQ n σ σ1 → RI σ1 J n A B own → RW σ1 J (ow own n) → SR A B own n J j kp m qu cb cm → SX σ1 J m qu cb cm → I < m → (∀ r i, r < I → r < m → i < n → own i = qu r → cm (A i) = true ∧ cm (B i) = true) → (∀ i', i' < i → own i' = qu I → cm (A i') = true ∧ cm (B i') = true) →
          Wp (fX11_frees_73 (nI j) (nI kp) (fun v3 v4 v5 σ => fX11_frees_59 (nI j) (nI kp) (fu + 1) v3 v4 v5 σ) gu (nI m) (-1) (nI I) (nI i) σ1) (fun r σ' => FR E J n A B own j kp σ r σ') := by
        intro r
        induction r with
        | zero =>
          intro i m gu qu cb cm σ1 e1 e2 f1 I1 W1 s1 x1 hI' hx1 hx2
          obtain ⟨gu, rfl⟩ : ∃ y, gu = y + 1 := ⟨gu - 1, by omega⟩
          have n106 := I1.2.1.2
          rw [fX11_frees_73, I1.2.1.1, if_pos (nI_le (by omega) (by omega)), fX11_frees_203, bnd_r, nI_1]
          refine wp_m (ih (I + 1) m (fu + 1) qu cb cm σ1 (by omega) (by omega) (by omega) I1 W1 s1 x1 (fun r i' r1 r2 i1 io => ?_)) ?_
          · by_cases y : r = I
            · subst y; exact hx2 i' (by omega) io
            · exact hx1 r i' (by omega) r2 i1 io
          · rintro rr σ' ⟨own', c1, c2, c3, c4, c5⟩
            exact ⟨own', c1, c2, c3, f1.t c4, c5⟩
        | succ r ihr =>
          intro i m gu qu cb cm σ1 e1 e2 f1 I1 W1 s1 x1 hI' hx1 hx2
          obtain ⟨gu, rfl⟩ : ∃ y, gu = y + 1 := ⟨gu - 1, by omega⟩
          have n106 := I1.2.1.2
          have hin : i < n := by omega
          obtain ⟨ia, ib, io⟩ := I1.2.2 i hin
          obtain ⟨ga, gb, gab, go⟩ := hG.2.1 i hin
          have u24 := (s1.2.2.1 I hI').1
          have um := (s1.2.2.1 I hI').2
          have I24 : I < 24 := by
            have : sz cm ≤ sN (fun _ => 1) 24 := sN_le (fun i _ => by unfold b1; split <;> omega)
            have c : sN (fun _ => 1) 24 = 24 := rfl
            have := s1.1.2
            omega
          have o24 : own i ≤ 24 := by omega
          rw [fX11_frees_73, I1.2.1.1, if_neg (nI_ge (by omega) (by omega)), if_neg (by decide), nI_clamp (show i < 2 ^ 31 by omega), gg_ix (show i < 106 by omega) (by decide), nI_clamp (show I < 2 ^ 31 by omega), gg_ix I24 (by decide), io, x1.2.1 I hI']
          by_cases y : own i = qu I
          · rw [if_pos ((eo_eq o24 (by omega)).mpr y), gg_ix (show i < 106 by omega) (by decide), gg_ix I24 (by decide), ia, ib]
            have body : ∀ x, x < J → (A i = x ∨ B i = x) → ((cm x = true) → cm (A i) = true ∧ cm (B i) = true) → (∀ c : Nat → Bool, c (qu I) = true → c x = true → c (A i) = true ∧ c (B i) = true) → Wp (fX11_frees_138 (nI j) (nI kp) (fun v3 v4 v5 σ => fX11_frees_59 (nI j) (nI kp) (fu + 1) v3 v4 v5 σ) (fun v3 v4 v5 v6 σ => fX11_frees_73 (nI j) (nI kp) (fun v3 v4 v5 σ => fX11_frees_59 (nI j) (nI kp) (fu + 1) v3 v4 v5 σ) gu v3 v4 v5 v6 σ) (nI m) (-1) (nI I) (nI i) (nI x) σ1) (fun r σ' => FR E J n A B own j kp σ r σ') := by
              intro x xJ xe xm xc
              rw [fX11_frees_138, nI_clamp (show x < 2 ^ 31 by omega), gg_ix (show x < 24 by omega) (by decide), x1.1 x xJ]
              by_cases yc : cm x = true
              · rw [if_pos yc, i10, fX11_frees_197, bnd_r, nI_1]
                exact ihr (i + 1) m gu qu cb cm σ1 (by omega) (by omega) f1 I1 W1 s1 x1 hI' hx1 (fun i' i1 i2 => by
                  by_cases w : i' = i
                  · subst w; exact xm yc
                  · exact hx2 i' (by omega) i2)
              · obtain ⟨xj, xk, mlt, q0, r1, r2, nx, r3, sn⟩ := s1.new hJ hI' hin xJ y xe yc
                rw [if_neg yc, i00, gg_ix (show x < 24 by omega) (by decide), bnd_r, gg_ix (show x < 24 by omega) (by decide), bnd_r, nI_clamp (show m < 2 ^ 31 by omega), gg_ix mlt (by decide), bnd_r, bnd_r, nI_1, gg_ix (show x < 24 by omega) (by decide), show vp_nar .boolean 1 = 1 from rfl]
                have W2 : (gsI (gsI (gsI σ1 204 x 1) 203 x (nI i)) 205 m (nI x)).1 201 x = nI (ow own n x) := by rw [rI_o (by omega), rI_o (by omega), rI_o (by omega)]; exact W1 x xJ
                have I2 : RI (gsI (gsI (gsI σ1 204 x 1) 203 x (nI i)) 205 m (nI x)) J n A B own := I1.keep (fun y => ⟨by rw [rI_o (by omega), rI_o (by omega), rI_o (by omega)], by rw [rI_o (by omega), rI_o (by omega), rI_o (by omega)], by rw [rI_o (by omega), rI_o (by omega), rI_o (by omega)]⟩) (by rw [rI_o (by omega), rI_o (by omega), rI_o (by omega)]) (by rw [rI_o (by omega), rI_o (by omega), rI_o (by omega)])
                have RW2 : RW (gsI (gsI (gsI σ1 204 x 1) 203 x (nI i)) 205 m (nI x)) J (ow own n) := W1.keep (fun y => by rw [rI_o (by omega), rI_o (by omega), rI_o (by omega)])
                have f2 : frQ n σ (gsI (gsI (gsI σ1 204 x 1) 203 x (nI i)) 205 m (nI x)) := fun a c w => sm_I (sm_I (sm_I (f1 a c w) (by omega) rfl) (by omega) rfl) (by omega) rfl
                have c203 : ∀ k, 0 < k → k ≤ m → (gsI (gsI (gsI σ1 204 x 1) 203 x (nI i)) 205 m (nI x)).1 203 (up qu m x k) = nI (up cb m i k) := by
                  intro k k1 k2
                  rw [rI_o (by omega)]
                  by_cases w : k = m
                  · rw [w, up_s, up_s, rI_s]
                  · rw [up_o w, up_o w, rI_o (fun q => nx k (by omega) q.2), rI_o (by omega)]
                    exact x1.2.2 k k1 (by omega)
                rw [W2]
                have l2 := hG.2.2.1 x (by omega)
                by_cases yw : 2 ≤ ow own n x
                · rw [if_pos (show 2 ≤ nI (ow own n x) from nI_le (a := 2) yw (by omega)), fX11_frees_195, fX11_frees_197, bnd_r, nI_1]
                  refine ihr (i + 1) (m + 1) gu (up qu m x) (up cb m i) (up cm x true) _ (by omega) (by omega) f2 I2 RW2 (sn yw) ⟨fun v hv => ?_, fun k hk => ?_, fun k k1 k2 => c203 k k1 (by omega)⟩ (by omega) (fun r i' g1 g2 g3 g4 => ?_) (fun i' g1 g2 => ?_)
                  · rw [rI_o (by omega), rI_o (by omega)]
                    by_cases w : v = x
                    · subst w; rw [rI_s, up_s, if_pos rfl]
                    · rw [rI_o (by omega), up_o w]; exact x1.1 v hv
                  · by_cases w : k = m
                    · subst w; rw [rI_s, up_s]
                    · rw [rI_o (by omega), rI_o (by omega), rI_o (by omega), up_o w]; exact x1.2.1 k (by omega)
                  · rw [up_o (by omega)] at g4
                    obtain ⟨t1, t2⟩ := hx1 r i' g1 (by omega) g3 g4
                    refine ⟨?_, ?_⟩
                    · by_cases w : A i' = x
                      · rw [w, up_s]
                      · rw [up_o w]; exact t1
                    · by_cases w : B i' = x
                      · rw [w, up_s]
                      · rw [up_o w]; exact t2
                  · rw [up_o (show I ≠ m by omega)] at g2
                    by_cases w0 : i' = i
                    · subst w0
                      refine xc _ ?_ up_s
                      rw [up_o (nx I hI')]; exact um
                    · obtain ⟨t1, t2⟩ := hx2 i' (by omega) g2
                      refine ⟨?_, ?_⟩
                      · by_cases w : A i' = x
                        · rw [w, up_s]
                        · rw [up_o w]; exact t1
                      · by_cases w : B i' = x
                        · rw [w, up_s]
                        · rw [up_o w]; exact t2
                · obtain ⟨gu, rfl⟩ : ∃ y, gu = y + 1 := ⟨gu - 1, by omega⟩
                  rw [if_neg (show ¬ 2 ≤ nI (ow own n x) from nI_ge (b := 2) (by omega) (by decide)), fX11_frees_195, fX11_frees_197, bnd_r, found_j (show x < 24 by omega) (fun u v τ => found_k (show x < 24 by omega))]
                  refine wp_m (foundR (E := E) (Q := up qu m x) (cb := up cb m i) I2 RW2 hG hj hj1 xJ xj xk (by omega) mlt q0 up_s r1 r2 (fun k k1 k2 => ⟨c203 k k1 k2, (r3 k k1 k2).1, (r3 k k1 k2).2⟩)) ?_
                  rintro rr σ' ⟨own', c1, c2, c3, c4, c5⟩
                  exact ⟨own', c1, c2, c3, f2.t c4, c5⟩
            rw [gg_ix (show i < 106 by omega) (by decide)]
            by_cases ya : A i = qu I
            · rw [if_pos (by rw [ya])]
              exact body (B i) gb (Or.inr rfl) (fun w => ⟨by rw [ya]; exact um, w⟩) (fun c c1 c2 => ⟨by rw [ya]; exact c1, c2⟩)
            · have yb : B i = qu I := by omega
              rw [if_neg (fun w => ya ((nI_eq (by omega) (by omega)).mp w)), gg_ix (show i < 106 by omega) (by decide)]
              exact body (A i) ga (Or.inl rfl) (fun w => ⟨w, by rw [yb]; exact um⟩) (fun c c1 c2 => ⟨c2, by rw [yb]; exact c1⟩)
          · rw [if_neg (fun w => y ((eo_eq o24 (by omega)).mp w)), fX11_frees_197, bnd_r, nI_1]
            exact ihr (i + 1) m gu qu cb cm σ1 (by omega) (by omega) f1 I1 W1 s1 x1 hI' hx1 (fun i' i1 i2 => by
              by_cases w : i' = i
              · subst w; exact absurd i2 y
              · exact hx2 i' (by omega) i2)
      have n106 := hI.2.1.2
      exact inner n 0 m 2000 qu cb cm σ (by omega) (by omega) (fun x y _ => sm_r σ x y) hI hW s sx (by omega) hx (fun i' h => by omega)
theorem freesR (hj : j < J) (hk : kp < J) (hG : GO E J n A B own) (hj1 : 1 ≤ ow own n j) (hI : RI σ J n A B own) (hW : RW σ J (ow own n)) : Wp (fX11_frees (nI j) (nI kp) σ) (fun r σ' => FR E J n A B own j kp σ r σ') := by
  have hJ := hG.1
  have loop : ∀ (k i fu : Nat) (σ1 : gS), i + k = J → k < fu → frQ n σ σ1 → RI σ1 J n A B own → RW σ1 J (ow own n) → (∀ v, v < i → σ1.1 204 v = if (decide (v = j ∨ v = kp)) = true then 1 else 0) → Wp (fX11_frees_2 (nI j) (nI kp) fu (nI i) σ1) (fun r σ' => FR E J n A B own j kp σ r σ') := by
    intro k
    induction k with
    | zero =>
      intro i fu σ1 e hfu f1 I1 W1 h4
      obtain ⟨fu, rfl⟩ : ∃ y, fu = y + 1 := ⟨fu - 1, by omega⟩
      have : i = J := by omega
      subst this
      rw [fX11_frees_2, I1.1, if_pos (nI_le (by omega) (by omega)), bnd_r, show (0 : Int32).toNatClampNeg = 0 from rfl]
      have s0 : SR A B own n i j kp 1 (fun _ => j) (fun _ => 0) (fun v => decide (v = j ∨ v = kp)) := by
        refine ⟨⟨Nat.le_refl 1, ?_⟩, rfl, fun x _ => ⟨hj, decide_eq_true (Or.inl rfl)⟩, fun x y hx hy _ => by omega, ⟨decide_eq_true (Or.inl rfl), decide_eq_true (Or.inr rfl)⟩, fun v hv => ?_, fun x h1 h2 => by omega⟩
        · refine Nat.le_trans (Nat.le_of_eq (sN_1 (show j < 24 by omega)).symm) (sN_le (fun v hv => ?_))
          by_cases w : v = j
          · rw [if_pos w]
            show 1 ≤ b1 (decide (v = j ∨ v = kp))
            rw [decide_eq_true (Or.inl w)]
            exact Nat.le_refl 1
          · rw [if_neg w]; omega
        · rcases of_decide_eq_true hv with w | w
          · exact ⟨by omega, Or.inr ⟨0, by omega, w.symm⟩⟩
          · exact ⟨by omega, Or.inl w⟩
      refine wp_m (freR hj hG hj1 25 0 1 2000 (fun _ => j) (fun _ => 0) (fun v => decide (v = j ∨ v = kp)) (gsI σ1 205 0 (nI j)) (by omega) (by omega) (by omega) (I1.keep (fun y => ⟨by rw [rI_o (by omega)], by rw [rI_o (by omega)], by rw [rI_o (by omega)]⟩) (by rw [rI_o (by omega)]) (by rw [rI_o (by omega)])) (W1.keep (fun y => by rw [rI_o (by omega)])) s0 ⟨fun v hv => by rw [rI_o (by omega)]; exact h4 v hv, fun x hx => ?_, fun x h1 h2 => by omega⟩ (fun r x h1 => by omega)) ?_
      · have : x = 0 := by omega
        subst this
        rw [rI_s]
      · rintro rr σ' ⟨own', c1, c2, c3, c4, c5⟩
        exact ⟨own', c1, c2, c3, fun a c w => sm_t (sm_I (f1 a c w) (by omega) rfl) (c4 a c w), c5⟩
    | succ k ih =>
      intro i fu σ1 e hfu f1 I1 W1 h4
      obtain ⟨fu, rfl⟩ : ∃ y, fu = y + 1 := ⟨fu - 1, by omega⟩
      rw [fX11_frees_2, I1.1, if_neg (nI_ge (by omega) (by omega))]
      have body : ∀ s : Int32, vp_nar .boolean s = s → (s = if (decide (i = j ∨ i = kp)) = true then 1 else 0) → Wp (fX11_frees_30 (nI j) (nI kp) (fun v3 σ => fX11_frees_2 (nI j) (nI kp) fu v3 σ) (nI i) (nI i) s σ1) (fun r σ' => FR E J n A B own j kp σ r σ') := by
        intro s s1 s2
        rw [fX11_frees_30, nI_clamp (show i < 2 ^ 31 by omega), gg_ix (show i < 24 by omega) (by decide), bnd_r, gg_ix (show i < 24 by omega) (by decide), bnd_r, bnd_r, nI_1, s1]
        refine ih (i + 1) fu _ (by omega) (by omega) (fun a c w => sm_I (sm_I (f1 a c w) (by omega) rfl) (by omega) rfl) (I1.keep (fun y => ⟨by rw [rI_o (by omega), rI_o (by omega)], by rw [rI_o (by omega), rI_o (by omega)], by rw [rI_o (by omega), rI_o (by omega)]⟩) (by rw [rI_o (by omega), rI_o (by omega)]) (by rw [rI_o (by omega), rI_o (by omega)])) (W1.keep (fun y => by rw [rI_o (by omega), rI_o (by omega)])) (fun v hv => ?_)
        rw [rI_o (by omega)]
        by_cases w : v = i
        · subst w; rw [rI_s]; exact s2
        · rw [rI_o (by omega)]; exact h4 v (by omega)
      by_cases q1 : i = j
      · rw [if_pos (by rw [q1]), fX11_frees_25]
        exact body 1 rfl (by rw [decide_eq_true (Or.inl q1), if_pos rfl])
      · rw [if_neg (fun z => q1 ((nI_eq (by omega) (by omega)).mp z))]
        by_cases q2 : i = kp
        · rw [if_pos (by rw [q2]), fX11_frees_25]
          exact body 1 rfl (by rw [decide_eq_true (Or.inr q2), if_pos rfl])
        · rw [if_neg (fun z => q2 ((nI_eq (by omega) (by omega)).mp z))]
          exact body 0 rfl (by rw [decide_eq_false (fun z => z.elim q1 q2), if_neg (by decide)])
  rw [fX11_frees]
  exact loop J 0 2000 σ (by omega) (by omega) (fun x y _ => sm_r σ x y) hI hW (fun v hv => by omega)
end FRS

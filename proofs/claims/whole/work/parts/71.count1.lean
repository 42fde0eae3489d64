/-! the class's search for a free pebble -/
def en (x : Nat) : Int32 := if x = 24 then -1000000 else nI x
theorem en_24 : en 24 = -1000000 := if_pos rfl
theorem en_n {x : Nat} (h : x < 24) : en x = nI x := if_neg (by omega)
theorem nI_nN {x : Nat} (h : x < 2 ^ 31) : ¬ nI x = -1000000 := fun z => nI_pos h (by rw [z]; decide)
theorem en_eq {x : Nat} (h : x ≤ 24) : en x = -1000000 ↔ x = 24 := by
  constructor
  · intro z
    apply Classical.byContradiction
    intro q
    rw [en_n (by omega)] at z
    exact nI_nN (by omega) z
  · rintro rfl; exact en_24
def CL (σ : gS) (L : Nat → Nat → Nat) : Prop := ∀ v q, v < 24 → q < 2 → L v q ≤ 24 ∧ σ.1 (30 + v) q = en (L v q)
def frL (σ σ' : gS) : Prop := ∀ x y, ¬ (30 ≤ x ∧ x < 56) → sm σ σ' x y
def bq (v e : Nat) : Nat := if v = e then 1 else 0
section FET
variable {σ σ' : gS} {L : Nat → Nat → Nat} {E : List (Nat × Nat)}
theorem CL.u {v q x : Nat} (h : CL σ L) (hx : x ≤ 24) : CL (gsI σ (30 + v) q (en x)) (upL L v q x) := by
  intro w r hw hr
  by_cases z : w = v ∧ r = q
  · obtain ⟨rfl, rfl⟩ := z
    rw [upL_s, rI_s]
    exact ⟨hx, rfl⟩
  · rw [upL_o z, rI_o (by omega)]
    exact h w r hw hr
theorem CL.keep (h : CL σ L) (hk : ∀ v q, v < 24 → q < 2 → σ'.1 (30 + v) q = σ.1 (30 + v) q) : CL σ' L := by
  intro v q hv hq
  rw [hk v q hv hq]
  exact h v q hv hq
theorem freeC (h : CL σ L) {v : Nat} (hv : v < 24) : fX1_freePebbles (nI v) σ = some (nI (frp L v), σ) := by
  obtain ⟨a0, e0⟩ := h v 0 hv (by omega)
  obtain ⟨a1, e1⟩ := h v 1 hv (by omega)
  have s : ∀ s0 : Nat, fX1_freePebbles_18 (nI v) (nI s0) σ = some (nI (s0 + f1 (L v 1)), σ) := by
    intro s0
    rw [fX1_freePebbles_18, nI_clamp (by omega), gg_ix hv (by decide), Nat.one_mul, show (1 : Int32).toNatClampNeg = 1 from rfl, e1]
    unfold f1
    by_cases q : L v 1 = 24
    · rw [if_pos ((en_eq a1).mpr q), if_pos q, fX1_freePebbles_36, show (1 : Int32) = nI 1 from rfl, nI_add]
    · rw [if_neg (fun z => q ((en_eq a1).mp z)), if_neg q, fX1_freePebbles_36, show (0 : Int32) = nI 0 from rfl, nI_add]
  rw [fX1_freePebbles, nI_clamp (by omega), gg_ix hv (by decide), Nat.one_mul, show (0 : Int32).toNatClampNeg = 0 from rfl, e0]
  unfold frp
  by_cases q : L v 0 = 24
  · rw [if_pos ((en_eq a0).mpr q), show f1 (L v 0) = 1 from if_pos q]
    exact s 1
  · rw [if_neg (fun z => q ((en_eq a0).mp z)), show f1 (L v 0) = 0 from if_neg q]
    exact s 0
theorem bq_s {v : Nat} : bq v v = 1 := if_pos rfl
theorem bq_o {v e : Nat} (h : v ≠ e) : bq v e = 0 := if_neg h
theorem f1_24 : f1 24 = 1 := rfl
theorem f1_n {x : Nat} (h : x ≠ 24) : f1 x = 0 := if_neg h
/-- the path turned about, from its far end Q i to its start Q 0 -/
theorem turnC {j e n : Nat} {Q : Nat → Nat} {L0 : Nat → Nat → Nat} (hQ0 : Q 0 = j) (hQ : ∀ k, k ≤ n → Q k < 24) (inj : ∀ k k', k ≤ n → k' ≤ n → Q k = Q k' → k = k') (he : 1 ≤ frp L0 e) :
    ∀ (i c fu : Nat) (σ : gS) (L : Nat → Nat → Nat), i ≤ n → c + i ≤ 23 → i < fu → CL σ L → GL E L → (∀ v, v < 24 → frp L v + bq v e = frp L0 v + bq v (Q i)) → (∀ k, 0 < k → k ≤ i → ∃ k', k' < k ∧ σ.1 54 (Q k) = nI (Q k') ∧ ∃ q, q < 2 ∧ L (Q k') q = Q k) →
    Wp (fX1_turnPath_5 (nI j) (nI e) fu (nI (Q i)) (nI c) σ) (fun _ σ' => ∃ L', CL σ' L' ∧ GL E L' ∧ (∀ v, v < 24 → frp L' v + bq v e = frp L0 v + bq v j) ∧ frL σ σ') := by
  intro i
  induction i using Nat.strongRecOn with
  | ind i ih =>
    intro c fu σ L hin hc hfu hC hG hf hp
    obtain ⟨fu, rfl⟩ : ∃ y, fu = y + 1 := ⟨fu - 1, by omega⟩
    have q24 := hQ i hin
    rw [fX1_turnPath_5, if_neg (show ¬ 24 ≤ nI c from nI_ge (b := 24) (by omega) (by decide))]
    by_cases z : i = 0
    · subst z
      rw [if_pos (by rw [hQ0]), fX1_turnPath_89]
      rw [hQ0] at hf
      exact wp_r ⟨L, hC, hG, hf, fun x y _ => sm_r σ x y⟩
    · have ne : ¬ Q i = j := fun y => z (inj i 0 hin (by omega) (by rw [hQ0]; exact y))
      obtain ⟨k', k1, k2, r, r1, r2⟩ := hp i (by omega) (Nat.le_refl i)
      have b24 := hQ k' (by omega)
      have nab : Q i ≠ Q k' := fun y => by have := inj i k' hin (by omega) y; omega
      obtain ⟨a0, e0⟩ := hC (Q i) 0 q24 (by omega)
      obtain ⟨a1, e1⟩ := hC (Q i) 1 q24 (by omega)
      have fat : 1 ≤ frp L (Q i) := by
        have := hf (Q i) q24
        rw [bq_s] at this
        by_cases y : Q i = e
        · rw [y] at this ⊢; rw [bq_s] at this; omega
        · rw [bq_o y] at this; omega
      rw [if_neg (fun y => ne ((nI_eq (by omega) (by have := hQ 0 (by omega); omega)).mp y)), nI_clamp (by omega), gg_ix q24 (by decide), gg_ix q24 (by decide), gg_ix q24 (by decide), Nat.one_mul, show (0 : Int32).toNatClampNeg = 0 from rfl, e0, k2]
      have body : ∀ s, s < 2 → L (Q i) s = 24 → Wp (fX1_turnPath_49 (nI j) (nI e) (fun v3 v4 σ => fX1_turnPath_5 (nI j) (nI e) fu v3 v4 σ) (nI (Q i)) (nI c) (nI (Q k')) (30 + Q i) (nI s) σ) (fun _ σ' => ∃ L', CL σ' L' ∧ GL E L' ∧ (∀ v, v < 24 → frp L' v + bq v e = frp L0 v + bq v j) ∧ frL σ σ') := by
        intro s hs hfree
        have C1 : CL (gsI σ (30 + Q i) s (nI (Q k'))) (upL L (Q i) s (Q k')) := by
          have := hC.u (v := Q i) (q := s) (x := Q k') (by omega)
          rw [en_n b24] at this
          exact this
        rw [fX1_turnPath_49, gg_t (show 30 ≤ 30 + Q i ∧ 30 + Q i < 54 by omega), nI_clamp (show s < 2 ^ 31 by omega), gg_ix hs (by decide), bnd_r, nI_clamp (show Q k' < 2 ^ 31 by omega), gg_ix b24 (by decide), gg_ix b24 (by decide), Nat.one_mul, show (0 : Int32).toNatClampNeg = 0 from rfl]
        have fin : ∀ r, r < 2 → L (Q k') r = Q i → Wp (fX1_turnPath_77 (nI j) (nI e) (fun v3 v4 σ => fX1_turnPath_5 (nI j) (nI e) fu v3 v4 σ) (nI c) (nI (Q k')) (30 + Q k') (nI r) (gsI σ (30 + Q i) s (nI (Q k')))) (fun _ σ' => ∃ L', CL σ' L' ∧ GL E L' ∧ (∀ v, v < 24 → frp L' v + bq v e = frp L0 v + bq v j) ∧ frL σ σ') := by
          intro r hr hlead
          have C2 : CL (gsI (gsI σ (30 + Q i) s (nI (Q k'))) (30 + Q k') r (-1000000)) (upL (upL L (Q i) s (Q k')) (Q k') r 24) := C1.u (v := Q k') (q := r) (x := 24) (by omega)
          have G2 := hG.turn q24 b24 nab hs hr hfree hlead
          rw [fX1_turnPath_77, gg_t (show 30 ≤ 30 + Q k' ∧ 30 + Q k' < 54 by omega), nI_clamp (show r < 2 ^ 31 by omega), gg_ix hr (by decide), bnd_r, bnd_r, nI_1]
          have l' : upL L (Q i) s (Q k') (Q k') r = Q i := by rw [upL_o (fun y => nab y.1.symm)]; exact hlead
          refine wp_m (ih k' k1 (c + 1) fu _ _ (by omega) (by omega) (by omega) C2 G2 (fun v hv => ?_) (fun k k3 k4 => ?_)) ?_
          · have hv' := hf v hv
            by_cases y1 : v = Q i
            · subst y1
              have u1 := frp_u (L := L) (v := Q i) (q := s) (x := Q k') hs
              rw [frp_o nab]
              rw [hfree, f1_24, f1_n (by omega)] at u1
              rw [bq_s] at hv'
              rw [bq_o nab]
              omega
            · by_cases y2 : v = Q k'
              · subst y2
                have u2 := frp_u (L := upL L (Q i) s (Q k')) (v := Q k') (q := r) (x := 24) hr
                rw [l', f1_24, f1_n (by omega), frp_o (fun y => nab y.symm)] at u2
                rw [bq_o (fun y => nab y.symm)] at hv'
                rw [bq_s]
                omega
              · rw [frp_o y2, frp_o y1, bq_o y2]
                rw [bq_o y1] at hv'
                exact hv'
          · obtain ⟨k'', m1, m2, q, m3, m4⟩ := hp k k3 (by omega)
            have d1 : Q k'' ≠ Q i := fun y => by have := inj k'' i (by omega) hin y; omega
            have d2 : Q k'' ≠ Q k' := fun y => by have := inj k'' k' (by omega) (by omega) y; omega
            refine ⟨k'', m1, ?_, q, m3, ?_⟩
            · rw [rI_o (by omega), rI_o (by omega)]; exact m2
            · rw [upL_o (fun y => d2 y.1), upL_o (fun y => d1 y.1)]; exact m4
          · rintro _ σ' ⟨L', c1, c2, c3, c4⟩
            exact ⟨L', c1, c2, c3, fun x y h => sm_t (sm_I (sm_I (sm_r σ x y) (by omega) rfl) (by omega) rfl) (c4 x y h)⟩
        obtain ⟨b0, eb0⟩ := hC (Q k') 0 b24 (by omega)
        rw [rI_o (by omega), eb0]
        by_cases y : L (Q k') 0 = Q i
        · rw [if_pos (by rw [y, en_n q24])]
          exact fin 0 (by omega) y
        · have e2 : ¬ en (L (Q k') 0) = nI (Q i) := by
            intro w
            by_cases w2 : L (Q k') 0 = 24
            · rw [w2, en_24] at w
              exact nI_nN (show Q i < 2 ^ 31 by omega) w.symm
            · rw [en_n (by omega)] at w
              exact y ((nI_eq (by omega) (by omega)).mp w)
          have r1' : r = 1 := by
            rcases (show r = 0 ∨ r = 1 by omega) with rfl | rfl
            · exact absurd r2 y
            · rfl
          rw [if_neg e2]
          exact fin 1 (by omega) (by rw [← r1']; exact r2)
      by_cases y : L (Q i) 0 = 24
      · rw [if_pos ((en_eq a0).mpr y)]
        exact body 0 (by omega) y
      · have y1 : L (Q i) 1 = 24 := by
          unfold frp f1 at fat
          rw [if_neg y] at fat
          apply Classical.byContradiction
          intro w
          rw [if_neg w] at fat
          omega
        rw [if_neg (fun w => y ((en_eq a0).mp w))]
        exact body 1 (by omega) y1
/-- the search so far -/
def SI (L : Nat → Nat → Nat) (j h n : Nat) (qu cf : Nat → Nat) : Prop :=
  (1 ≤ n ∧ n ≤ sN (fun v => if cf v < 24 then 1 else 0) 24) ∧ qu 0 = j ∧ (∀ i, i < n → qu i < 24 ∧ cf (qu i) < 24) ∧ (∀ i i', i < n → i' < n → qu i = qu i' → i = i') ∧
  (cf j = j ∧ cf h = h) ∧ (∀ v, v < 24 → cf v < 24 → v = h ∨ ∃ i, i < n ∧ qu i = v) ∧ (∀ v, v < 24 → cf v ≤ 24) ∧
  (∀ i, 0 < i → i < n → qu i ≠ h ∧ frp L (qu i) = 0 ∧ ∃ i', i' < i ∧ cf (qu i) = qu i' ∧ ∃ q, q < 2 ∧ L (qu i') q = qu i)
def SS (σ : gS) (n : Nat) (qu cf : Nat → Nat) : Prop := (∀ v, v < 24 → σ.1 54 v = en (cf v)) ∧ (∀ i, i < n → σ.1 55 i = nI (qu i))
/-- what the search ends with -/
def FP (E : List (Nat × Nat)) (j h : Nat) (L : Nat → Nat → Nat) (σ σ' : gS) : Prop := ∃ L', CL σ' L' ∧ GL E L' ∧ frL σ σ' ∧
  ((∃ e, e < 24 ∧ e ≠ j ∧ e ≠ h ∧ 1 ≤ frp L e ∧ ∀ v, v < 24 → frp L' v + bq v e = frp L v + bq v j) ∨
   (L' = L ∧ ∃ R : Nat → Bool, R j = true ∧ R h = true ∧ (∀ v, v < 24 → R v = true → v ≠ j → v ≠ h → frp L v = 0) ∧ ∀ v q, v < 24 → q < 2 → R v = true → (v = j ∨ v ≠ h) → L v q < 24 → R (L v q) = true))
theorem mk_lt {cf : Nat → Nat} {x : Nat} (hx : x < 24) (h : ¬ cf x < 24) : sN (fun v => if cf v < 24 then 1 else 0) 24 ≤ 23 := by
  have e := sN_u (f := fun v => if cf v < 24 then 1 else 0) (x := 1) hx
  have : sN (up (fun v => if cf v < 24 then 1 else 0) x 1) 24 ≤ sN (fun _ => 1) 24 := sN_le (fun i _ => by
    unfold up
    split
    · omega
    · show (if cf i < 24 then 1 else 0) ≤ 1
      split <;> omega)
  have c : sN (fun _ => 1) 24 = 24 := rfl
  rw [if_neg h] at e
  omega
theorem mk_up {cf : Nat → Nat} {x u : Nat} (hx : x < 24) (h : ¬ cf x < 24) (hu : u < 24) : sN (fun v => if up cf x u v < 24 then 1 else 0) 24 = sN (fun v => if cf v < 24 then 1 else 0) 24 + 1 := by
  have e := sN_u (f := fun v => if cf v < 24 then 1 else 0) (x := 1) hx
  have c : sN (fun v => if up cf x u v < 24 then 1 else 0) 24 = sN (up (fun v => if cf v < 24 then 1 else 0) x 1) 24 := sN_c (fun v _ => by
    unfold up
    by_cases q : v = x
    · rw [if_pos q, if_pos q, if_pos hu]
    · rw [if_neg q, if_neg q])
  rw [if_neg h] at e
  rw [c]
  omega
/-- a new joint reached from Q I -/
theorem SI.new {j h n I q x : Nat} {qu cf : Nat → Nat} (s : SI L j h n qu cf) (hI : I < n) (hq : q < 2) (hx : x < 24) (hl : L (qu I) q = x) (hc : ¬ cf x < 24) :
    x ≠ j ∧ x ≠ h ∧ n < 24 ∧ up qu n x 0 = j ∧ (∀ i, i ≤ n → up qu n x i < 24) ∧ (∀ i i', i ≤ n → i' ≤ n → up qu n x i = up qu n x i' → i = i') ∧ (∀ i, 0 < i → i ≤ n → ∃ i', i' < i ∧ up cf x (qu I) (up qu n x i) = up qu n x i' ∧ ∃ q, q < 2 ∧ L (up qu n x i') q = up qu n x i) ∧
    (frp L x = 0 → SI L j h (n + 1) (up qu n x) (up cf x (qu I))) := by
  obtain ⟨⟨a1, a2⟩, b, c, d, ⟨e1, e2⟩, f, g, k⟩ := s
  have m := mk_lt hx hc
  have u24 := (c I hI).1
  have nx : ∀ i, i < n → qu i ≠ x := fun i hi z => hc (by rw [← z]; exact (c i hi).2)
  have xj : x ≠ j := fun z => nx 0 (by omega) (by rw [b]; exact z.symm)
  have xh : x ≠ h := fun z => hc (by rw [z, e2, ← z]; exact hx)
  have q0 : up qu n x 0 = j := by rw [up_o (by omega)]; exact b
  have r1 : ∀ i, i ≤ n → up qu n x i < 24 := by
    intro i hi
    by_cases z : i = n
    · rw [z, up_s]; exact hx
    · rw [up_o z]; exact (c i (by omega)).1
  have r2 : ∀ i i', i ≤ n → i' ≤ n → up qu n x i = up qu n x i' → i = i' := by
    intro i i' hi hi' z
    by_cases y : i = n
    · by_cases y' : i' = n
      · omega
      · rw [y, up_s, up_o y'] at z; exact absurd z.symm (nx i' (by omega))
    · by_cases y' : i' = n
      · rw [y', up_s, up_o y] at z; exact absurd z (nx i (by omega))
      · rw [up_o y, up_o y'] at z; exact d i i' (by omega) (by omega) z
  have r3 : ∀ i, 0 < i → i ≤ n → ∃ i', i' < i ∧ up cf x (qu I) (up qu n x i) = up qu n x i' ∧ ∃ q, q < 2 ∧ L (up qu n x i') q = up qu n x i := by
    intro i hi hi'
    by_cases z : i = n
    · refine ⟨I, by omega, ?_, q, hq, ?_⟩
      · rw [z, up_s, up_s, up_o (by omega)]
      · rw [z, up_s, up_o (by omega)]; exact hl
    · obtain ⟨-, -, i', w1, w2, q', w3, w4⟩ := k i hi (by omega)
      refine ⟨i', w1, ?_, q', w3, ?_⟩
      · rw [up_o z, up_o (nx i (by omega)), up_o (show i' ≠ n by omega)]; exact w2
      · rw [up_o z, up_o (show i' ≠ n by omega)]; exact w4
  refine ⟨xj, xh, by omega, q0, r1, r2, r3, fun hf => ⟨⟨by omega, by rw [mk_up hx hc u24]; omega⟩, q0, fun i hi => ⟨r1 i (by omega), ?_⟩, fun i i' hi hi' z => r2 i i' (by omega) (by omega) z, ⟨by rw [up_o (fun z => xj z.symm)]; exact e1, by rw [up_o (fun z => xh z.symm)]; exact e2⟩, fun v hv hv2 => ?_, fun v hv => ?_, fun i hi hi' => ⟨?_, ?_, r3 i hi (by omega)⟩⟩⟩
  · by_cases z : i = n
    · rw [z, up_s, up_s]; exact u24
    · rw [up_o z, up_o (nx i (by omega))]; exact (c i (by omega)).2
  · by_cases z : v = x
    · exact Or.inr ⟨n, by omega, by rw [up_s, z]⟩
    · rw [up_o z] at hv2
      rcases f v hv hv2 with y | ⟨i, i1, i2⟩
      · exact Or.inl y
      · exact Or.inr ⟨i, by omega, by rw [up_o (by omega)]; exact i2⟩
  · by_cases z : v = x
    · rw [z, up_s]; omega
    · rw [up_o z]; exact g v hv
  · by_cases z : i = n
    · rw [z, up_s]; exact xh
    · rw [up_o z]; exact (k i hi (by omega)).1
  · by_cases z : i = n
    · rw [z, up_s]; exact hf
    · rw [up_o z]; exact (k i hi (by omega)).2.1
theorem fetC {j h : Nat} (hj : j < 24) (hh : h < 24) (hG : GL E L) : ∀ (k I n fu : Nat) (qu cf : Nat → Nat) (σ : gS), 24 - I < k → k < fu → I ≤ n → CL σ L → SI L j h n qu cf → SS σ n qu cf → (∀ i q, i < I → i < n → q < 2 → L (qu i) q < 24 → cf (L (qu i) q) < 24) →
    Wp (fX1_fetch_35 (nI j) (nI h) fu (nI n) (nI I) σ) (fun _ σ' => FP E j h L σ σ') := by
  intro k
  induction k with
  | zero => intro I n fu qu cf σ h1; omega
  | succ k ih =>
    intro I n fu qu cf σ h1 h2 hIn hC s ss hx
    obtain ⟨fu, rfl⟩ : ∃ y, fu = y + 1 := ⟨fu - 1, by omega⟩
    have n24 : n ≤ 24 := by
      have : sN (fun v => if cf v < 24 then 1 else 0) 24 ≤ sN (fun _ => 1) 24 := sN_le (fun i _ => by split <;> omega)
      have c : sN (fun _ => 1) 24 = 24 := rfl
      have := s.1.2
      omega
    rw [fX1_fetch_35]
    by_cases z : n ≤ I
    · have fin : FP E j h L σ σ := by
        obtain ⟨a, b, c, d, ⟨e1, e2⟩, f, g, kk⟩ := s
        refine ⟨L, hC, hG, fun x y _ => sm_r σ x y, Or.inr ⟨rfl, fun v => decide (cf v < 24), ?_, ?_, fun v hv hr h1 h2 => ?_, fun v q hv hq hr h1 h2 => ?_⟩⟩
        · exact decide_eq_true (by rw [e1]; exact hj)
        · exact decide_eq_true (by rw [e2]; exact hh)
        · rcases f v hv (of_decide_eq_true hr) with y | ⟨i, i1, rfl⟩
          · exact absurd y h2
          · exact (kk i (by apply Nat.pos_of_ne_zero; rintro rfl; exact h1 b) i1).2.1
        · apply decide_eq_true
          have : ∃ i, i < n ∧ qu i = v := by
            rcases h1 with y | y
            · exact ⟨0, a.1, by rw [b, y]⟩
            · rcases f v hv (of_decide_eq_true hr) with w | w
              · exact absurd w y
              · exact w
          obtain ⟨i, i1, rfl⟩ := this
          exact hx i q (by omega) i1 hq h2
      rw [if_pos (nI_le z (by omega)), fX1_fetch_150]
      exact wp_r fin
    · rw [if_neg (nI_ge (by omega) (by omega)), if_neg (show ¬ 24 ≤ nI I from nI_ge (b := 24) (by omega) (by decide))]
      have inner : ∀ (r q n gu : Nat) (qu cf : Nat → Nat) (σ1 : gS), q + r = 2 → r < gu → frL σ σ1 → CL σ1 L → SI L j h n qu cf → SS σ1 n qu cf → I < n → (∀ i q, i < I → i < n → q < 2 → L (qu i) q < 24 → cf (L (qu i) q) < 24) → (∀ p, p < q → L (qu I) p < 24 → cf (L (qu I) p) < 24) →
          Wp (fX1_fetch_51 (nI j) (nI h) (fun v3 v4 σ => fX1_fetch_35 (nI j) (nI h) fu v3 v4 σ) gu (nI n) (nI I) (nI q) σ1) (fun _ σ' => FP E j h L σ σ') := by
        intro r
        induction r with
        | zero =>
          intro q n gu qu cf σ1 e1 e2 f1 C1 s1 ss1 hI hx1 hx2
          obtain ⟨gu, rfl⟩ : ∃ y, gu = y + 1 := ⟨gu - 1, by omega⟩
          rw [fX1_fetch_51, if_pos (show 2 ≤ nI q from nI_le (a := 2) (by omega) (by omega)), bnd_r, nI_1]
          refine wp_m (ih (I + 1) n fu qu cf σ1 (by omega) (by omega) (by omega) C1 s1 ss1 (fun i p i1 i2 p2 l => ?_)) ?_
          · by_cases y : i = I
            · subst y; exact hx2 p (by omega) l
            · exact hx1 i p (by omega) i2 p2 l
          · rintro _ σ' ⟨L', c1, c2, c3, c4⟩
            exact ⟨L', c1, c2, fun x y w => sm_t (f1 x y w) (c3 x y w), c4⟩
        | succ r ihr =>
          intro q n gu qu cf σ1 e1 e2 f1 C1 s1 ss1 hI hx1 hx2
          obtain ⟨gu, rfl⟩ : ∃ y, gu = y + 1 := ⟨gu - 1, by omega⟩
          have u24 := (s1.2.2.1 I hI).1
          obtain ⟨la, le⟩ := C1 (qu I) q u24 (by omega)
          rw [fX1_fetch_51, if_neg (show ¬ 2 ≤ nI q from nI_ge (b := 2) (by omega) (by decide)), nI_clamp (show I < 2 ^ 31 by omega), gg_ix (show I < 24 by omega) (by decide), ss1.2 I hI, nI_clamp (show qu I < 2 ^ 31 by omega), gg_ix u24 (by decide), nI_clamp (show q < 2 ^ 31 by omega), gg_ix (show q < 2 by omega) (by decide), Nat.one_mul, le]
          by_cases y : L (qu I) q = 24
          · rw [if_pos ((en_eq la).mpr y), fX1_fetch_138, bnd_r, nI_1]
            exact ihr (q + 1) n gu qu cf σ1 (by omega) (by omega) f1 C1 s1 ss1 hI hx1 (fun p p1 p2 => by
              by_cases w : p = q
              · subst w; omega
              · exact hx2 p (by omega) p2)
          · have x24 : L (qu I) q < 24 := by omega
            have cx := s1.2.2.2.2.2.2.1 _ x24
            rw [if_neg (fun w => y ((en_eq la).mp w)), en_n x24, nI_clamp (show L (qu I) q < 2 ^ 31 by omega), gg_ix x24 (by decide), ss1.1 _ x24]
            by_cases yc : cf (L (qu I) q) < 24
            · rw [if_neg (fun w => by have := (en_eq cx).mp w; omega), fX1_fetch_138, bnd_r, nI_1]
              exact ihr (q + 1) n gu qu cf σ1 (by omega) (by omega) f1 C1 s1 ss1 hI hx1 (fun p p1 p2 => by
                by_cases w : p = q
                · subst w; exact yc
                · exact hx2 p (by omega) p2)
            · obtain ⟨xj, xh, nlt, q0, r1, r2, r3, sn⟩ := s1.new hI (by omega) x24 rfl yc
              generalize hX : L (qu I) q = X at *
              rw [if_pos ((en_eq cx).mpr (by omega)), gg_ix (show I < 24 by omega) (by decide), gg_ix x24 (by decide), bnd_r]
              have C2 : CL (gsI σ1 54 X (nI (qu I))) L := C1.keep (fun v p hv hp => rI_o (by omega))
              have S2 : ∀ v, v < 24 → (gsI σ1 54 X (nI (qu I))).1 54 v = en (up cf X (qu I) v) := by
                intro v hv
                by_cases w : v = X
                · subst w; rw [rI_s, up_s, en_n u24]
                · rw [rI_o (by omega), up_o w]; exact ss1.1 v hv
              rw [freeC C2 x24, bd_r]
              have fl : frL σ (gsI σ1 54 X (nI (qu I))) := fun x y w => sm_I (f1 x y w) (by omega) rfl
              by_cases yf : frp L X = 0
              · rw [yf, if_pos (show nI 0 ≤ 0 by decide), nI_clamp (show n < 2 ^ 31 by omega), gg_ix nlt (by decide), bnd_r, bnd_r, nI_1, fX1_fetch_138, bnd_r, nI_1]
                refine ihr (q + 1) (n + 1) gu (up qu n X) (up cf X (qu I)) _ (by omega) (by omega) (fun x y w => sm_I (fl x y w) (by omega) rfl) (C2.keep (fun v p hv hp => rI_o (by omega))) (sn yf) ⟨fun v hv => ?_, fun i hi => ?_⟩ (by omega) (fun i p i1 i2 p2 l => ?_) (fun p p1 l => ?_)
                · rw [rI_o (by omega)]; exact S2 v hv
                · by_cases w : i = n
                  · subst w; rw [rI_s, up_s]
                  · rw [rI_o (by omega), rI_o (by omega), up_o w]; exact ss1.2 i (by omega)
                · have w : i ≠ n := by omega
                  rw [up_o w] at l ⊢
                  by_cases w2 : L (qu i) p = X
                  · rw [w2, up_s]; exact u24
                  · rw [up_o w2]; exact hx1 i p i1 (by omega) p2 l
                · have w : I ≠ n := by omega
                  rw [up_o w] at l ⊢
                  by_cases w2 : L (qu I) p = X
                  · rw [w2, up_s]; exact u24
                  · rw [up_o w2]
                    refine hx2 p ?_ l
                    apply Classical.byContradiction
                    intro w3
                    have : p = q := by omega
                    rw [this] at w2
                    exact w2 hX
              · rw [if_neg (show ¬ nI (frp L X) ≤ 0 from nI_nle (by omega) (by have := frp_le (L := L) (v := X); omega)), fX1_turnPath]
                have eX : nI X = nI (up qu n X n) := by rw [up_s]
                have tc := turnC (E := E) (e := X) (L0 := L) q0 r1 r2 (by omega) n 0 2000 (gsI σ1 54 X (nI (qu I))) L (Nat.le_refl n) (by omega) (by omega) C2 hG (fun v hv => by rw [up_s]) (fun kk k1 k2 => by
                  obtain ⟨i', i1, i2, i3⟩ := r3 kk k1 k2
                  refine ⟨i', i1, ?_, i3⟩
                  rw [S2 _ (r1 kk k2), i2, en_n (r1 i' (by omega))])
                rw [← eX] at tc
                refine wp_bw tc ?_
                rintro _ σ' ⟨L', c1, c2, c3, c4⟩
                exact wp_r ⟨L', c1, c2, fun x y w => sm_t (fl x y w) (c4 x y w), Or.inl ⟨X, x24, xj, xh, by omega, c3⟩⟩
      exact inner 2 0 n 2000 qu cf σ (by omega) (by omega) (fun x y _ => sm_r σ x y) hC s ss (by omega) hx (fun p hp => by omega)
theorem fetchC {j h : Nat} (hj : j < 24) (hh : h < 24) (hG : GL E L) (hC : CL σ L) : Wp (fX1_fetch (nI j) (nI h) σ) (fun _ σ' => FP E j h L σ σ') := by
  rw [fX1_fetch]
  refine wp_bw (fillX (by decide)) ?_
  rintro _ σ1 ⟨f1, f2⟩
  rw [nI_clamp (show j < 2 ^ 31 by omega), gg_ix hj (by decide), bnd_r, nI_clamp (show h < 2 ^ 31 by omega), gg_ix hh (by decide), bnd_r, show (0 : Int32).toNatClampNeg = 0 from rfl, bnd_r]
  have fl : frL σ (gsI (gsI (gsI σ1 54 j (nI j)) 54 h (nI h)) 55 0 (nI j)) := fun x y w => sm_I (sm_I (sm_I (f2 x y (by omega)) (by omega) rfl) (by omega) rfl) (by omega) rfl
  have C1 : CL (gsI (gsI (gsI σ1 54 j (nI j)) 54 h (nI h)) 55 0 (nI j)) L := hC.keep (fun v q hv hq => by rw [rI_o (by omega), rI_o (by omega), rI_o (by omega)]; exact (f2 _ _ (by omega)).1)
  have ss : SS (gsI (gsI (gsI σ1 54 j (nI j)) 54 h (nI h)) 55 0 (nI j)) 1 (fun _ => j) (up (up (fun _ => 24) j j) h h) := by
    refine ⟨fun v hv => ?_, fun i hi => ?_⟩
    · rw [rI_o (by omega)]
      by_cases w : v = h
      · subst w; rw [rI_s, up_s, en_n hv]
      · rw [rI_o (by omega), up_o w]
        by_cases w2 : v = j
        · subst w2; rw [rI_s, up_s, en_n hv]
        · rw [rI_o (by omega), up_o w2, f1 v hv, en_24]
    · have : i = 0 := by omega
      subst this
      rw [rI_s]
  have cj : up (up (fun _ => 24) j j) h h j = j := by
    by_cases w : j = h
    · subst w; rw [up_s]
    · rw [up_o w, up_s]
  have s : SI L j h 1 (fun _ => j) (up (up (fun _ => 24) j j) h h) := by
    refine ⟨⟨Nat.le_refl 1, ?_⟩, rfl, fun i hi => ⟨hj, by rw [cj]; exact hj⟩, fun i i' hi hi' _ => by omega, ⟨cj, up_s⟩, fun v hv hv2 => ?_, fun v hv => ?_, fun i h1 h2 => by omega⟩
    · refine Nat.le_trans (Nat.le_of_eq (sN_1 hj).symm) (sN_le (fun v hv => ?_))
      by_cases w : v = j
      · subst w; rw [if_pos rfl, cj, if_pos hj]; exact Nat.le_refl 1
      · rw [if_neg w]; omega
    · by_cases w : v = h
      · exact Or.inl w
      · by_cases w2 : v = j
        · exact Or.inr ⟨0, by omega, w2.symm⟩
        · rw [up_o w, up_o w2] at hv2; omega
    · by_cases w : v = h
      · rw [w, up_s]; omega
      · rw [up_o w]
        by_cases w2 : v = j
        · rw [w2, up_s]; omega
        · rw [up_o w2]; omega
  refine wp_m (fetC hj hh hG 25 0 1 2000 _ _ _ (by omega) (by omega) (by omega) C1 s ss (fun i q h1 => by omega)) ?_
  rintro _ σ' ⟨L', c1, c2, c3, c4⟩
  exact ⟨L', c1, c2, fun x y w => sm_t (fl x y w) (c3 x y w), c4⟩
end FET

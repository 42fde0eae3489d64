/-! COUNTS of the reference: owners of items -/
def ow (own : Nat → Nat) (n v : Nat) : Nat := sN (fun i => if own i = v then 1 else 0) n
theorem ow_up {own : Nat → Nat} {n c x v : Nat} (hc : c < n) : ow (up own c x) n v + (if own c = v then 1 else 0) = ow own n v + (if x = v then 1 else 0) := by
  have e := sN_u (f := fun i => if own i = v then 1 else 0) (x := if x = v then 1 else 0) hc
  have c' : ow (up own c x) n v = sN (up (fun i => if own i = v then 1 else 0) c (if x = v then 1 else 0)) n := sN_c (fun i _ => by
    unfold up
    by_cases q : i = c
    · rw [if_pos q, if_pos q]
    · rw [if_neg q, if_neg q])
  rw [c']
  exact e
/-- owners counted over a set of joints -/
theorem ow_dc {own : Nat → Nat} {S : Nat → Bool} : ∀ n, sN (fun v => if S v = true then ow own n v else 0) 24 = sN (fun i => if own i < 24 ∧ S (own i) = true then 1 else 0) n
  | 0 => by
    have : sN (fun v => if S v = true then ow own 0 v else 0) 24 = sN (fun _ => 0) 24 := sN_c (fun v _ => by split <;> rfl)
    rw [this, sN_0]; rfl
  | n + 1 => by
    have ih := ow_dc (own := own) (S := S) n
    have e : sN (fun v => if S v = true then ow own (n + 1) v else 0) 24 = sN (fun v => (if S v = true then ow own n v else 0) + (if S v = true ∧ own n = v then 1 else 0)) 24 := sN_c (fun v _ => by
      by_cases q : S v = true
      · rw [if_pos q, if_pos q]
        show ow own n v + (if own n = v then 1 else 0) = _
        by_cases z : own n = v
        · rw [if_pos z, if_pos ⟨q, z⟩]
        · rw [if_neg z, if_neg (fun y => z y.2)]
      · rw [if_neg q, if_neg q, if_neg (fun y => q y.1)])
    rw [e, sN_a, ih]
    show _ = sN (fun i => if own i < 24 ∧ S (own i) = true then 1 else 0) n + (if own n < 24 ∧ S (own n) = true then 1 else 0)
    congr 1
    by_cases q : own n < 24 ∧ S (own n) = true
    · rw [if_pos q]
      have : sN (fun v => if S v = true ∧ own n = v then 1 else 0) 24 = sN (fun v => if v = own n then 1 else 0) 24 := sN_c (fun v _ => by
        by_cases z : v = own n
        · subst z; rw [if_pos ⟨q.2, rfl⟩, if_pos rfl]
        · rw [if_neg (fun y => z y.2.symm), if_neg z])
      rw [this, sN_1 q.1]
    · rw [if_neg q]
      have : sN (fun v => if S v = true ∧ own n = v then 1 else 0) 24 = sN (fun _ => 0) 24 := sN_c (fun v hv => by
        rw [if_neg (fun y => q ⟨by omega, by rw [y.2]; exact y.1⟩)])
      rw [this, sN_0]
/-- items, their ends and owners (24: none) -/
def GO (E : List (Nat × Nat)) (J n : Nat) (A B own : Nat → Nat) : Prop :=
  J ≤ 24 ∧ (∀ i, i < n → A i < J ∧ B i < J ∧ A i ≠ B i ∧ (own i = 24 ∨ own i = A i ∨ own i = B i)) ∧ (∀ v, v < 24 → ow own n v ≤ 2) ∧
  ∀ S, cnt E S = sN (fun i => if own i < 24 ∧ S (A i) = true ∧ S (B i) = true then 1 else 0) n
section GOS
variable {E : List (Nat × Nat)} {J n : Nat} {A B own : Nat → Nat} {a b : Nat}
theorem GO.yes (h : GO E J n A B own) (ha : a < 24) (hb : b < 24) (hab : a ≠ b) (h1 : ow own n a = 0) (h2 : ow own n b = 0) : ¬ Tight E a b := by
  rintro ⟨S, s1, s2, s3⟩
  obtain ⟨hJ, hi, h2', hS⟩ := h
  have e := two_w (u := 0) (w := 0) ha hb hab s1 s2
  have l1 : cnt E S ≤ sN (fun i => if own i < 24 ∧ S (own i) = true then 1 else 0) n := by
    rw [hS S]
    refine sN_le (fun i hi' => ?_)
    obtain ⟨-, -, -, q⟩ := hi i hi'
    by_cases z : own i < 24 ∧ S (A i) = true ∧ S (B i) = true
    · rw [if_pos z, if_pos ⟨z.1, by
        rcases q with q | q | q
        · omega
        · rw [q]; exact z.2.1
        · rw [q]; exact z.2.2⟩]
      exact Nat.le_refl _
    · rw [if_neg z]; omega
  rw [← ow_dc n] at l1
  have l2 : sN (fun v => if S v = true then ow own n v else 0) 24 ≤ sN (fun v => if S v = true then (if v = a then 0 else if v = b then 0 else 2) else 0) 24 := sN_le (fun v hv => by
    by_cases q : S v = true
    · rw [if_pos q, if_pos q]
      by_cases qa : v = a
      · subst qa; rw [if_pos rfl, h1]; omega
      · by_cases qb : v = b
        · subst qb; rw [if_neg qa, if_pos rfl, h2]; omega
        · rw [if_neg qa, if_neg qb]
          exact h2' v hv
    · rw [if_neg q, if_neg q]; omega)
  omega
theorem GO.no (h : GO E J n A B own) (ha : a < 24) (hb : b < 24) (hab : a ≠ b) {U : Nat → Bool} (u1 : U a = true) (u2 : U b = true) (h0 : ∀ v, v < 24 → U v = true → v ≠ a → v ≠ b → 2 ≤ ow own n v) (hc : ∀ i, i < n → own i < 24 → U (own i) = true → U (A i) = true ∧ U (B i) = true) (hf : 1 ≤ ow own n a + ow own n b) : Tight E a b := by
  refine ⟨U, u1, u2, ?_⟩
  obtain ⟨hJ, hi, h2', hS⟩ := h
  have e := two_w (u := ow own n a) (w := ow own n b) ha hb hab u1 u2
  have l1 : sN (fun i => if own i < 24 ∧ U (own i) = true then 1 else 0) n = cnt E U := by
    rw [hS U]
    refine sN_c (fun i hi' => ?_)
    obtain ⟨-, -, -, q⟩ := hi i hi'
    by_cases z : own i < 24 ∧ U (own i) = true
    · rw [if_pos z, if_pos ⟨z.1, hc i hi' z.1 z.2⟩]
    · rw [if_neg z, if_neg (fun y => z ⟨y.1, by
        rcases q with q | q | q
        · omega
        · rw [q]; exact y.2.1
        · rw [q]; exact y.2.2⟩)]
  rw [← ow_dc n] at l1
  have l2 : sN (fun v => if U v = true then (if v = a then ow own n a else if v = b then ow own n b else 2) else 0) 24 ≤ sN (fun v => if U v = true then ow own n v else 0) 24 := sN_le (fun v hv => by
    by_cases q : U v = true
    · rw [if_pos q, if_pos q]
      by_cases qa : v = a
      · subst qa; rw [if_pos rfl]; exact Nat.le_refl _
      · by_cases qb : v = b
        · subst qb; rw [if_neg qa, if_pos rfl]; exact Nat.le_refl _
        · rw [if_neg qa, if_neg qb]; exact h0 v hv q qa qb
    · rw [if_neg q, if_neg q]; omega)
  omega
theorem ow_ge (h : ∀ i, i < n → own i ≠ a) : ow own n a = 0 := by
  unfold ow
  have : sN (fun i => if own i = a then 1 else 0) n = sN (fun _ => 0) n := sN_c (fun i hi => if_neg (h i hi))
  rw [this, sN_0]
theorem ow_0 (h : ow own n a = 0) {i : Nat} (hi : i < n) : own i ≠ a := by
  intro z
  have e := sN_u (f := fun i => if own i = a then 1 else 0) (x := 0) hi
  unfold ow at h
  rw [h, if_pos z] at e
  omega
end GOS
/-- the reference's cells -/
def eo (x : Nat) : Int32 := if x = 24 then -1 else nI x
theorem eo_n {x : Nat} (h : x < 24) : eo x = nI x := if_neg (by omega)
theorem eo_24 : eo 24 = -1 := if_pos rfl
theorem eo_eq {x v : Nat} (hx : x ≤ 24) (hv : v < 24) : eo x = nI v ↔ x = v := by
  by_cases q : x = 24
  · rw [q, eo_24]
    refine ⟨fun z => absurd z (fun z => nI_pos (show v < 2 ^ 31 by omega) (by rw [← z]; decide)), fun z => by omega⟩
  · rw [eo_n (by omega), nI_eq (by omega) (by omega)]
def RI (σ : gS) (J n : Nat) (A B own : Nat → Nat) : Prop := σ.1 168 0 = nI J ∧ (σ.1 168 53 = nI n ∧ n ≤ 106) ∧ ∀ i, i < n → σ.1 198 i = nI (A i) ∧ σ.1 199 i = nI (B i) ∧ σ.1 200 i = eo (own i)
def RW (σ : gS) (J : Nat) (W : Nat → Nat) : Prop := ∀ v, v < J → σ.1 201 v = nI (W v)
def frQ (n : Nat) (σ σ' : gS) : Prop := ∀ x y, ¬ ((x = 200 ∧ y < n) ∨ x = 201 ∨ x = 203 ∨ x = 204 ∨ x = 205) → sm σ σ' x y
theorem frQ.t {n : Nat} {σ τ υ : gS} (h : frQ n σ τ) (h' : frQ n τ υ) : frQ n σ υ := fun x y z => sm_t (h x y z) (h' x y z)
section FRE
variable {σ σ' : gS} {E : List (Nat × Nat)} {J n : Nat} {A B own : Nat → Nat}
/-- owners turned about along the path -/
theorem turnR {j kp N : Nat} {Q cb W : Nat → Nat} (hQ0 : Q 0 = j) (hQ : ∀ k, k ≤ N → Q k < J) (inj : ∀ k k', k ≤ N → k' ≤ N → Q k = Q k' → k = k') :
    ∀ (x fu : Nat) (σ : gS) (own : Nat → Nat), x ≤ N → x < fu → RI σ J n A B own → RW σ J W → (J ≤ 24 ∧ (∀ i, i < n → A i < J ∧ B i < J ∧ A i ≠ B i ∧ (own i = 24 ∨ own i = A i ∨ own i = B i)) ∧ ∀ S, cnt E S = sN (fun i => if own i < 24 ∧ S (A i) = true ∧ S (B i) = true then 1 else 0) n) →
    (∀ v, v < 24 → W v + bq v j = ow own n v + bq v (Q x)) → (∀ k, 0 < k → k ≤ x → σ.1 203 (Q k) = nI (cb k) ∧ cb k < n ∧ ∃ k', k' < k ∧ own (cb k) = Q k' ∧ (A (cb k) = Q k ∨ B (cb k) = Q k)) →
    Wp (fX11_frees_241 (nI j) (nI kp) fu (nI (Q x)) σ) (fun r σ' => r = 1 ∧ ∃ own', RI σ' J n A B own' ∧ RW σ' J W ∧ (∀ v, v < 24 → W v = ow own' n v) ∧ (∀ i, i < n → (own' i = 24 ∨ own' i = A i ∨ own' i = B i)) ∧ (∀ S, cnt E S = sN (fun i => if own' i < 24 ∧ S (A i) = true ∧ S (B i) = true then 1 else 0) n) ∧ frQ n σ σ' ∧ ∀ i, i < n → (own' i = 24 ↔ own i = 24)) := by
  intro x
  induction x using Nat.strongRecOn with
  | ind x ih =>
    intro fu σ own hx hfu hI hW hG hw hp
    obtain ⟨fu, rfl⟩ : ∃ y, fu = y + 1 := ⟨fu - 1, by omega⟩
    obtain ⟨hJ, hi, hS⟩ := hG
    have q24 := hQ x hx
    have j24 := hQ 0 (by omega)
    rw [hQ0] at j24
    rw [fX11_frees_241]
    by_cases z : x = 0
    · subst z
      rw [if_pos (by rw [hQ0])]
      rw [hQ0] at hw
      exact wp_r ⟨rfl, own, hI, hW, fun v hv => by have := hw v hv; omega, fun i hi' => (hi i hi').2.2.2, hS, fun x y _ => sm_r σ x y, fun i _ => Iff.rfl⟩
    · have ne : ¬ Q x = j := fun y => z (inj x 0 hx (by omega) (by rw [hQ0]; exact y))
      obtain ⟨e1, c1, k', k1, k2, k3⟩ := hp x (by omega) (Nat.le_refl x)
      have n106 := hI.2.1.2
      have b24 := hQ k' (by omega)
      have e2 := (hI.2.2 (cb x) c1).2.2
      rw [k2, eo_n (by omega)] at e2
      have nab : Q k' ≠ Q x := fun y => by have := inj k' x (by omega) hx y; omega
      rw [if_neg (fun y => ne ((nI_eq (by omega) (by omega)).mp y)), nI_clamp (show Q x < 2 ^ 31 by omega), gg_ix (show Q x < 24 by omega) (by decide), e1, nI_clamp (show cb x < 2 ^ 31 by omega), gg_ix (show cb x < 106 by omega) (by decide), gg_ix (show cb x < 106 by omega) (by decide), bnd_r, e2]
      have oth : ∀ k, 0 < k → k ≤ k' → cb k ≠ cb x := by
        intro k g1 g2 y
        obtain ⟨-, -, k'', m1, m2, -⟩ := hp k g1 (by omega)
        rw [y, k2] at m2
        have := inj k' k'' (by omega) (by omega) m2
        omega
      refine wp_m (ih k' k1 fu (gsI σ 200 (cb x) (nI (Q x))) (up own (cb x) (Q x)) (by omega) (by omega) ⟨?_, ⟨?_, n106⟩, fun i hi' => ?_⟩ (fun v hv => ?_) ⟨hJ, fun i hi' => ?_, fun S => ?_⟩ (fun v hv => ?_) (fun k g1 g2 => ?_)) ?_
      · rw [rI_o (by omega)]; exact hI.1
      · rw [rI_o (by omega)]; exact hI.2.1.1
      · obtain ⟨a1, a2, a3⟩ := hI.2.2 i hi'
        refine ⟨by rw [rI_o (by omega)]; exact a1, by rw [rI_o (by omega)]; exact a2, ?_⟩
        by_cases y : i = cb x
        · subst y; rw [rI_s, up_s, eo_n (by omega)]
        · rw [rI_o (by omega), up_o y]; exact a3
      · rw [rI_o (by omega)]; exact hW v hv
      · obtain ⟨a1, a2, a3, a4⟩ := hi i hi'
        refine ⟨a1, a2, a3, ?_⟩
        by_cases y : i = cb x
        · subst y; rw [up_s]; exact Or.inr (k3.imp (fun w => w.symm) (fun w => w.symm))
        · rw [up_o y]; exact a4
      · rw [hS S]
        refine sN_c (fun i hi' => ?_)
        by_cases y : i = cb x
        · subst y
          rw [up_s, k2]
          by_cases w : S (A (cb x)) = true ∧ S (B (cb x)) = true
          · rw [if_pos ⟨by omega, w⟩, if_pos ⟨by omega, w⟩]
          · rw [if_neg (fun u => w u.2), if_neg (fun u => w u.2)]
        · rw [up_o y]
      · have u := ow_up (own := own) (x := Q x) (v := v) c1
        rw [k2] at u
        have hw' := hw v hv
        have r1 : (if Q k' = v then 1 else 0) = bq v (Q k') := by
          unfold bq
          by_cases y : v = Q k'
          · rw [if_pos y.symm, if_pos y]
          · rw [if_neg (fun w => y w.symm), if_neg y]
        have r2 : (if Q x = v then 1 else 0) = bq v (Q x) := by
          unfold bq
          by_cases y : v = Q x
          · rw [if_pos y.symm, if_pos y]
          · rw [if_neg (fun w => y w.symm), if_neg y]
        rw [r1, r2] at u
        omega
      · obtain ⟨m0, m1, k'', m2, m3, m4⟩ := hp k g1 (by omega)
        refine ⟨by rw [rI_o (by omega)]; exact m0, m1, k'', m2, ?_, m4⟩
        rw [up_o (oth k g1 g2)]; exact m3
      · rintro r σ' ⟨d1, own', d2, d3, d4, d5, d6, d7, d8⟩
        refine ⟨d1, own', d2, d3, d4, d5, d6, fun x y w => sm_t (sm_I (sm_r σ x y) (by omega) rfl) (d7 x y w), fun i hi' => ?_⟩
        rw [d8 i hi']
        by_cases y : i = cb x
        · subst y; rw [up_s, k2]; omega
        · rw [up_o y]
end FRE

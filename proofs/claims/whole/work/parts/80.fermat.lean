/-! the prime 1000003: powers, and what an inverse is -/
def bc : Nat → Nat → Nat
  | _, 0 => 1
  | 0, _ + 1 => 0
  | n + 1, k + 1 => bc n k + bc n (k + 1)
theorem bc_0 (n : Nat) : bc n 0 = 1 := by cases n <;> rfl
theorem bc_s (n k : Nat) : bc (n + 1) (k + 1) = bc n k + bc n (k + 1) := rfl
theorem bc_gt : ∀ (n k : Nat), n < k → bc n k = 0
  | 0, 0, h => absurd h (by decide)
  | 0, k + 1, _ => rfl
  | n + 1, 0, h => absurd h (by omega)
  | n + 1, k + 1, h => by rw [bc_s, bc_gt n k (by omega), bc_gt n (k + 1) (by omega)]
theorem bc_n : ∀ n, bc n n = 1
  | 0 => rfl
  | n + 1 => by rw [bc_s, bc_n n, bc_gt n (n + 1) (by omega)]
theorem bc_mul : ∀ (n k : Nat), (k + 1) * bc (n + 1) (k + 1) = (n + 1) * bc n k
  | 0, 0 => rfl
  | 0, k + 1 => by
    rw [bc_s, bc_gt 0 (k + 1) (by omega), bc_gt 0 (k + 1 + 1) (by omega)]
    omega
  | n + 1, 0 => by
    have ih := bc_mul n 0
    rw [bc_0] at ih
    rw [bc_s, bc_0]
    omega
  | n + 1, k + 1 => by
    have h1 := bc_mul n k
    have h2 := bc_mul n (k + 1)
    rw [bc_s (n + 1) (k + 1)]
    have e : bc (n + 1) (k + 1) = bc n k + bc n (k + 1) := bc_s n k
    calc (k + 1 + 1) * (bc (n + 1) (k + 1) + bc (n + 1) (k + 1 + 1))
        = (k + 1) * bc (n + 1) (k + 1) + bc (n + 1) (k + 1) + (k + 1 + 1) * bc (n + 1) (k + 1 + 1) := by
          rw [Nat.mul_add, Nat.add_mul (k + 1) 1, Nat.one_mul]
      _ = (n + 1) * bc n k + bc (n + 1) (k + 1) + (n + 1) * bc n (k + 1) := by rw [h1, h2]
      _ = (n + 1) * (bc n k + bc n (k + 1)) + bc (n + 1) (k + 1) := by rw [Nat.mul_add]; omega
      _ = (n + 1 + 1) * bc (n + 1) (k + 1) := by rw [← e, Nat.add_mul (n + 1) 1, Nat.one_mul]
theorem sN_first {f : Nat → Nat} : ∀ n, sN f (n + 1) = f 0 + sN (fun k => f (k + 1)) n
  | 0 => by show 0 + f 0 = f 0 + 0; omega
  | n + 1 => by
    have ih := sN_first (f := f) n
    rw [sN, ih]
    show f 0 + sN (fun k => f (k + 1)) n + f (n + 1) = f 0 + (sN (fun k => f (k + 1)) n + f (n + 1))
    omega
theorem sN_mul {f : Nat → Nat} {c : Nat} : ∀ n, sN (fun k => c * f k) n = c * sN f n
  | 0 => by show 0 = c * 0; omega
  | n + 1 => by
    rw [sN, sN_mul n, sN, Nat.mul_add]
theorem binom (x : Nat) : ∀ n, (x + 1) ^ n = sN (fun k => bc n k * x ^ k) (n + 1)
  | 0 => by
    show 1 = 0 + bc 0 0 * x ^ 0
    rw [bc_0, Nat.pow_zero]
  | n + 1 => by
    have ih := binom x n
    rw [sN_first (f := fun k => bc (n + 1) k * x ^ k)]
    have e1 : sN (fun k => bc (n + 1) (k + 1) * x ^ (k + 1)) (n + 1) = sN (fun k => x * (bc n k * x ^ k) + bc n (k + 1) * x ^ (k + 1)) (n + 1) := sN_c (fun k _ => by
      rw [bc_s, Nat.add_mul, Nat.pow_succ, ← Nat.mul_assoc, Nat.mul_comm (bc n k * x ^ k) x])
    rw [e1, sN_a, sN_mul]
    have e2 := sN_first (f := fun k => bc n k * x ^ k) (n + 1)
    have e3 : sN (fun k => bc n k * x ^ k) (n + 1 + 1) = sN (fun k => bc n k * x ^ k) (n + 1) + bc n (n + 1) * x ^ (n + 1) := rfl
    rw [bc_gt n (n + 1) (by omega), Nat.zero_mul] at e3
    rw [← ih] at e3 ⊢
    rw [bc_0, Nat.pow_zero, Nat.one_mul] at e2 ⊢
    rw [Nat.pow_succ, Nat.mul_add, Nat.mul_one, Nat.mul_comm ((x + 1) ^ n) x]
    omega
/-- a prime, as far as it is wanted -/
def isPr (p : Nat) : Prop := 1 < p ∧ ∀ k, 0 < k → k < p → Nat.Coprime p k
theorem bc_dvd {p k : Nat} (h : isPr p) (h0 : 0 < k) (h1 : k < p) : p ∣ bc p k := by
  obtain ⟨q, rfl⟩ : ∃ q, p = q + 1 := ⟨p - 1, by omega⟩
  obtain ⟨j, rfl⟩ : ∃ j, k = j + 1 := ⟨k - 1, by omega⟩
  have e := bc_mul q j
  exact (h.2 (j + 1) h0 h1).dvd_of_dvd_mul_left ⟨bc q j, e⟩
theorem sN_dvd {f : Nat → Nat} {p : Nat} : ∀ n, (∀ k, k < n → p ∣ f k) → p ∣ sN f n
  | 0, _ => ⟨0, rfl⟩
  | n + 1, h => Nat.dvd_add (sN_dvd n (fun k hk => h k (by omega))) (h n (by omega))
theorem frm_s {p : Nat} (h : isPr p) (x : Nat) : ∃ c, (x + 1) ^ p = x ^ p + 1 + p * c := by
  obtain ⟨q, rfl⟩ : ∃ q, p = q + 1 := ⟨p - 1, by have := h.1; omega⟩
  have e : (x + 1) ^ (q + 1) = sN (fun k => bc (q + 1) k * x ^ k) (q + 1) + bc (q + 1) (q + 1) * x ^ (q + 1) := binom x (q + 1)
  rw [sN_first] at e
  obtain ⟨c, hc⟩ := sN_dvd (f := fun k => bc (q + 1) (k + 1) * x ^ (k + 1)) (p := q + 1) q (fun k hk => Nat.dvd_trans (bc_dvd h (by omega) (by omega)) ⟨_, rfl⟩)
  refine ⟨c, ?_⟩
  rw [hc, bc_n, bc_0, Nat.pow_zero, Nat.one_mul, Nat.one_mul] at e
  omega
theorem frm {p : Nat} (h : isPr p) : ∀ x, x ^ p % p = x % p
  | 0 => by rw [Nat.zero_pow (by have := h.1; omega)]
  | x + 1 => by
    have ih := frm h x
    obtain ⟨c, hc⟩ := frm_s h x
    rw [hc, Nat.add_mul_mod_self_left, Nat.add_mod, ih, ← Nat.add_mod]
theorem frm1 {p x : Nat} (h : isPr p) (h0 : 0 < x) (h1 : x < p) : x ^ (p - 1) % p = 1 := by
  have e := frm h x
  obtain ⟨q, rfl⟩ : ∃ q, p = q + 1 := ⟨p - 1, by have := h.1; omega⟩
  have hx : 1 ≤ x ^ q := Nat.one_le_pow _ _ h0
  have d : (q + 1) ∣ x * (x ^ q - 1) := by
    have : (q + 1) ∣ x ^ (q + 1) - x := Nat.dvd_of_mod_eq_zero (Nat.sub_mod_eq_zero_of_mod_eq e)
    rw [Nat.mul_sub, Nat.mul_one, Nat.mul_comm x, ← Nat.pow_succ]
    exact this
  have d2 := (h.2 x h0 h1).dvd_of_dvd_mul_left d
  obtain ⟨c, hc⟩ := d2
  show x ^ q % (q + 1) = 1
  have : x ^ q = 1 + (q + 1) * c := by omega
  rw [this, Nat.add_mul_mod_self_left, Nat.mod_eq_of_lt h.1]
theorem pr_small : ∀ d, d < 999 → 1000003 % (d + 2) ≠ 0 := by decide +kernel
theorem prP : isPr 1000003 := by
  refine ⟨by decide, fun k h0 h1 => ?_⟩
  have g1 : Nat.gcd 1000003 k ∣ 1000003 := Nat.gcd_dvd_left _ _
  have g2 : Nat.gcd 1000003 k ≤ k := Nat.gcd_le_right _ h0
  show Nat.gcd 1000003 k = 1
  generalize hg : Nat.gcd 1000003 k = g at *
  obtain ⟨c, hc⟩ := g1
  have g0 : g ≠ 0 := by rintro rfl; omega
  apply Classical.byContradiction
  intro ne
  by_cases q : g ≤ 1000
  · refine pr_small (g - 2) (by omega) ?_
    rw [show g - 2 + 2 = g by omega, hc, Nat.mul_mod_right]
  · have c1 : c ≤ 1000 := by
      apply Classical.byContradiction
      intro z
      have : 1001 * 1001 ≤ g * c := Nat.mul_le_mul (by omega) (by omega)
      omega
    have c2 : 2 ≤ c := by
      apply Classical.byContradiction
      intro z
      have : g * c ≤ g * 1 := Nat.mul_le_mul_left g (by omega)
      omega
    refine pr_small (c - 2) (by omega) ?_
    rw [show c - 2 + 2 = c by omega, hc, Nat.mul_mod_left]
/-- the loop of both: the power 1000001 -/
def ivN : Nat → Nat → Nat → Nat → Nat
  | 0, _, r, _ => r
  | k + 1, i, r, b => ivN k (i + 1) (if 1000001 / 2 ^ i % 2 = 1 then r * b % 1000003 else r) (b * b % 1000003)
def ivP (x : Nat) : Nat := ivN 20 0 1 x
theorem ivN_lt : ∀ (k i r b : Nat), r < 1000003 → ivN k i r b < 1000003
  | 0, _, _, _, h => h
  | k + 1, i, r, b, h => ivN_lt k (i + 1) _ _ (by split; exact Nat.mod_lt _ (by decide); exact h)
theorem ivN_pow : ∀ (k i r b : Nat), i + k = 20 → r < 1000003 → ivN k i r b = r * b ^ (1000001 / 2 ^ i) % 1000003 ∨ False
  | 0, i, r, b, e, h => by
    have : i = 20 := by omega
    subst this
    left
    rw [show 1000001 / 2 ^ 20 = 0 from by decide, Nat.pow_zero, Nat.mul_one, Nat.mod_eq_of_lt h]
    rfl
  | k + 1, i, r, b, e, h => by
    left
    have ih := (ivN_pow k (i + 1) (if 1000001 / 2 ^ i % 2 = 1 then r * b % 1000003 else r) (b * b % 1000003) (by omega) (by split; exact Nat.mod_lt _ (by decide); exact h)).resolve_right id
    have e2 : 1000001 / 2 ^ (i + 1) = 1000001 / 2 ^ i / 2 := by rw [Nat.pow_succ, Nat.div_div_eq_div_mul]
    rw [ivN, ih, e2]
    generalize 1000001 / 2 ^ i = E
    have s : (b * b % 1000003) ^ (E / 2) % 1000003 = b ^ (2 * (E / 2)) % 1000003 := by rw [← Nat.pow_mod, ← Nat.pow_two, ← Nat.pow_mul]
    by_cases q : E % 2 = 1
    · rw [if_pos q, Nat.mul_mod, s, Nat.mod_mod, ← Nat.mul_mod, Nat.mul_assoc, ← Nat.pow_succ']
      congr 3
      omega
    · rw [if_neg q, Nat.mul_mod, s, ← Nat.mul_mod]
      congr 3
      omega
theorem ivP_ok {x : Nat} (h0 : 0 < x) (h1 : x < 1000003) : x * ivP x % 1000003 = 1 ∧ ivP x < 1000003 := by
  refine ⟨?_, ivN_lt 20 0 1 x (by decide)⟩
  have e := (ivN_pow 20 0 1 x rfl (by decide)).resolve_right id
  have e' : ivP x = x ^ 1000001 % 1000003 := by
    show ivN 20 0 1 x = _
    rw [e, Nat.one_mul]
  have f : x ^ (1000003 - 1) % 1000003 = 1 := frm1 prP h0 h1
  rw [e', Nat.mul_mod, Nat.mod_mod, ← Nat.mul_mod, ← Nat.pow_succ']
  exact f

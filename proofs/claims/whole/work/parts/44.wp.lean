/-! a result, and what holds of it -/
def Wp {α : Type} (m : Option (α × gS)) (Q : α → gS → Prop) : Prop := ∃ r σ', m = some (r, σ') ∧ Q r σ'
section WP
variable {α β : Type} {a : α} {σ σ' : gS} {m : Option (α × gS)} {P Q : α → gS → Prop} {R : β → gS → Prop} {f : α → gS → Option (β × gS)} {x y : Option (α × gS)} {c : Prop}
theorem wp_r (h : Q a σ) : Wp (some (a, σ)) Q := ⟨a, σ, rfl, h⟩
theorem wp_e (h : m = some (a, σ)) (q : Q a σ) : Wp m Q := ⟨a, σ, h, q⟩
theorem wp_m (h : Wp m P) (k : ∀ a σ', P a σ' → Q a σ') : Wp m Q := by
  obtain ⟨r, s, e, h2⟩ := h
  exact ⟨r, s, e, k r s h2⟩
theorem wp_be (h : m = some (a, σ)) (k : Wp (f a σ) R) : Wp (bd m f) R := by
  rw [h, bd_r]
  exact k
theorem wp_bw (h : Wp m P) (k : ∀ a σ', P a σ' → Wp (f a σ') R) : Wp (bd m f) R := by
  obtain ⟨r, s, e, h2⟩ := h
  rw [e, bd_r]
  exact k r s h2
theorem wp_b {γ : Type} {b : γ} {g : γ → Option (β × gS)} (k : Wp (g b) R) : Wp (bnd b g) R := k
theorem wp_g {i : Decidable c} (h : c) (k : Wp x Q) : Wp (@gg (α × gS) c i x) Q := by
  rw [gg_t h]
  exact k
theorem wp_t {i : Decidable c} (h : c) (k : Wp x Q) : Wp (@ite (Option (α × gS)) c i x y) Q := by
  rw [if_pos h]
  exact k
theorem wp_f {i : Decidable c} (h : ¬ c) (k : Wp y Q) : Wp (@ite (Option (α × gS)) c i x y) Q := by
  rw [if_neg h]
  exact k
theorem wp_i {i : Decidable c} (h : c → Wp x Q) (k : ¬ c → Wp y Q) : Wp (@ite (Option (α × gS)) c i x y) Q := by
  by_cases q : c
  · rw [if_pos q]; exact h q
  · rw [if_neg q]; exact k q
theorem wp_ok {B : gS → Option (α × gS)} {T : gS → Prop} (h : Wp m (fun r σ1 => Wp (B σ1) (fun r' σ2 => r' = r ∧ T σ2))) : Ok m B T := by
  obtain ⟨r, s, e, r2, s2, e2, h2, h3⟩ := h
  exact Ok.mk e e2 h2 h3
theorem ok_wp {B : gS → Option (α × gS)} {T : gS → Prop} (h : Ok m B T) : Wp m (fun r σ1 => Wp (B σ1) (fun r' σ2 => r' = r ∧ T σ2)) := by
  obtain ⟨r, s1, s2, e1, e2, h3⟩ := h
  exact ⟨r, s1, e1, r, s2, e2, rfl, h3⟩
end WP
theorem ok_m {α : Type} {A : Option (α × gS)} {B : gS → Option (α × gS)} {P Q : gS → Prop} (h : Ok A B P) (k : ∀ σ, P σ → Q σ) : Ok A B Q := by
  obtain ⟨r, s1, s2, e1, e2, h3⟩ := h
  exact ⟨r, s1, s2, e1, e2, k s2 h3⟩
/-- an index that is a number -/
theorem g_ix {k n : Nat} (h : k < n) (hn : n < 2 ^ 31) : ¬ (nI k < 0 ∨ n ≤ (nI k).toNatClampNeg) := ix_nI h hn
/-- what a number is, if it is not below 0 and below a bound -/
theorem nI_some {p : Int32} (h0 : ¬ p < 0) : ∃ k : Nat, k < 2 ^ 31 ∧ p = nI k := nI_of h0
theorem inM {k : Nat} (hk : k < 2 ^ 30) (p : Int32) (σ : gS) : fX11_in p.toInt64 0 ((nI k - 1).toInt64) σ = some (if 0 ≤ p.toInt ∧ p.toInt < k then 1 else 0, σ) := by
  by_cases h : 0 ≤ p.toInt ∧ p.toInt < k
  · rw [in_t (by rw [l32, l32, z64, m1I hk]; omega), if_pos h]
  · rw [in_f (by rw [l32, l32, z64, m1I hk]; omega), if_neg h]
theorem b01 (c : Prop) [Decidable c] : ((if c then 1 else 0 : Int32) = 0 ∨ (if c then 1 else 0 : Int32) = 1) := by
  by_cases h : c
  · rw [if_pos h]; exact Or.inr rfl
  · rw [if_neg h]; exact Or.inl rfl

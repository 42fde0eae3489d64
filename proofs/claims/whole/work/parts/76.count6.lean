/-! the reference: whether an item is free; its needed items -/
def FA (J n : Nat) (A B own : Nat → Nat) (j kp : Nat) : Prop := ∃ R : Nat → Bool, R j = true ∧ R kp = true ∧ (∀ v, R v = true → v < J) ∧ (∀ v, R v = true → v ≠ j → v ≠ kp → 2 ≤ ow own n v) ∧ ∀ i, i < n → R (own i) = true → (own i = j ∨ own i ≠ kp) → R (A i) = true ∧ R (B i) = true
def IFR (E : List (Nat × Nat)) (J n : Nat) (A B own : Nat → Nat) (a b : Nat) (σ : gS) (r : Int32) (σ' : gS) : Prop := ∃ own', RI σ' J n A B own' ∧ RW σ' J (ow own' n) ∧ GO E J n A B own' ∧ frQ n σ σ' ∧ (∀ i, i < n → (own' i = 24 ↔ own i = 24)) ∧ ((r = 1 ∧ ¬ Tight E a b ∧ ow own' n a = 0 ∧ ow own' n b = 0) ∨ (r = 0 ∧ Tight E a b))
section ISF
variable {σ σ' : gS} {E : List (Nat × Nat)} {J n a b : Nat} {A B own : Nat → Nat}
theorem FA.tight (ha : a < J) (hb : b < J) (hab : a ≠ b) (hG : GO E J n A B own) (h1 : ow own n a = 0 ∨ FA J n A B own a b) (h2 : ow own n b = 0 ∨ FA J n A B own b a) (hf : 1 ≤ ow own n a + ow own n b) : Tight E a b := by
  have hJ := hG.1
  rcases h1 with z1 | ⟨R, r1, r2, r3, r4, r5⟩
  · rcases h2 with z2 | ⟨U, u1, u2, u3, u4, u5⟩
    · omega
    · refine hG.no (by omega) (by omega) hab u2 u1 (fun v _ hv h1 h2 => u4 v hv h2 h1) (fun i hi _ hu => u5 i hi hu (Or.inr (ow_0 z1 hi))) hf
  · rcases h2 with z2 | ⟨U, u1, u2, u3, u4, u5⟩
    · exact hG.no (by omega) (by omega) hab r1 r2 (fun v _ hv h1 h2 => r4 v hv h1 h2) (fun i hi _ hu => r5 i hi hu (Or.inr (ow_0 z2 hi))) hf
    · refine hG.no (U := fun v => R v || U v) (by omega) (by omega) hab (by simp [r1]) (by simp [r2]) (fun v _ hv h1 h2 => ?_) (fun i hi _ hu => ?_) hf
      · rcases Bool.or_eq_true _ _ ▸ hv with w | w
        · exact r4 v w h1 h2
        · exact u4 v w h2 h1
      · have fin : (R (A i) = true ∧ R (B i) = true) ∨ (U (A i) = true ∧ U (B i) = true) := by
          by_cases wb : own i = b
          · exact Or.inr (u5 i hi (by rw [wb]; exact u1) (Or.inl wb))
          · by_cases wa : own i = a
            · exact Or.inl (r5 i hi (by rw [wa]; exact r1) (Or.inl wa))
            · rcases Bool.or_eq_true _ _ ▸ hu with w | w
              · exact Or.inl (r5 i hi w (Or.inr wb))
              · exact Or.inr (u5 i hi w (Or.inr wa))
        rcases fin with ⟨w1, w2⟩ | ⟨w1, w2⟩
        · simp [w1, w2]
        · simp [w1, w2]
theorem isF_fin (ha : a < J) (hb : b < J) (hab : a ≠ b) (hI : RI σ J n A B own) (hW : RW σ J (ow own n)) (hG : GO E J n A B own) (h1 : ow own n a = 0 ∨ FA J n A B own a b) (h2 : ow own n b = 0 ∨ FA J n A B own b a) {fu : Nat} : Wp (fX11_isFree_2 (nI a) (nI b) (fu + 1) 0 σ) (fun r σ' => IFR E J n A B own a b σ r σ') := by
  have hJ := hG.1
  have la := hG.2.2.1 a (by omega)
  have lb := hG.2.2.1 b (by omega)
  rw [fX11_isFree_2, if_pos rfl, nI_clamp (show a < 2 ^ 31 by omega), gg_ix (show a < 24 by omega) (by decide), hW a ha]
  by_cases z1 : ow own n a = 0
  · rw [if_pos (show nI (ow own n a) = 0 by rw [z1]; rfl), nI_clamp (show b < 2 ^ 31 by omega), gg_ix (show b < 24 by omega) (by decide), hW b hb]
    by_cases z2 : ow own n b = 0
    · rw [if_pos (show nI (ow own n b) = 0 by rw [z2]; rfl), fX11_isFree_84, gg_t (Or.inr rfl)]
      exact wp_r ⟨own, hI, hW, hG, fun x y _ => sm_r σ x y, fun i _ => Iff.rfl, Or.inl ⟨rfl, hG.yes (by omega) (by omega) hab z1 z2, z1, z2⟩⟩
    · rw [if_neg (nI_ne0 (by omega) (by omega)), fX11_isFree_83, fX11_isFree_84, gg_t (Or.inl rfl)]
      exact wp_r ⟨own, hI, hW, hG, fun x y _ => sm_r σ x y, fun i _ => Iff.rfl, Or.inr ⟨rfl, FA.tight ha hb hab hG h1 h2 (by omega)⟩⟩
  · rw [if_neg (nI_ne0 (by omega) (by omega)), fX11_isFree_83, fX11_isFree_84, gg_t (Or.inl rfl)]
    exact wp_r ⟨own, hI, hW, hG, fun x y _ => sm_r σ x y, fun i _ => Iff.rfl, Or.inr ⟨rfl, FA.tight ha hb hab hG h1 h2 (by omega)⟩⟩
theorem IFR.t {own0 : Nat → Nat} {τ : gS} {r : Int32} (h : IFR E J n A B own a b σ r σ') (hf : frQ n τ σ) (ho : ∀ i, i < n → (own i = 24 ↔ own0 i = 24)) : IFR E J n A B own0 a b τ r σ' := by
  obtain ⟨own', c1, c2, c3, c4, c5, c6⟩ := h
  exact ⟨own', c1, c2, c3, hf.t c4, fun i hi => (c5 i hi).trans (ho i hi), c6⟩
theorem isF_1 (ha : a < J) (hb : b < J) (hab : a ≠ b) : ∀ (k fu : Nat) (σ : gS) (own : Nat → Nat), ow own n a + ow own n b < k → k < fu → RI σ J n A B own → RW σ J (ow own n) → GO E J n A B own → Wp (fX11_isFree_2 (nI a) (nI b) fu 1 σ) (fun r σ' => IFR E J n A B own a b σ r σ') := by
  intro k
  induction k with
  | zero => intro fu σ own h; omega
  | succ k ih =>
    intro fu σ own h1 h2 hI hW hG
    have hJ := hG.1
    obtain ⟨fu, rfl⟩ : ∃ y, fu = y + 1 := ⟨fu - 1, by omega⟩
    obtain ⟨fu, rfl⟩ : ∃ y, fu = y + 1 := ⟨fu - 1, by omega⟩
    have la := hG.2.2.1 a (by omega)
    have lb := hG.2.2.1 b (by omega)
    have second : ∀ (σ1 : gS), frQ n σ σ1 → RI σ1 J n A B own → RW σ1 J (ow own n) → (ow own n a = 0 ∨ FA J n A B own a b) → Wp (fX11_isFree_28 (nI a) (nI b) (fun v3 σ => fX11_isFree_2 (nI a) (nI b) (fu + 1) v3 σ) σ1) (fun r σ' => IFR E J n A B own a b σ r σ') := by
      intro σ1 f1 I1 W1 hA
      rw [fX11_isFree_28, fX11_isFree_29, if_pos rfl, nI_clamp (show b < 2 ^ 31 by omega), gg_ix (show b < 24 by omega) (by decide), W1 b hb]
      by_cases z2 : ow own n b = 0
      · rw [if_pos (show nI (ow own n b) ≤ 0 by rw [z2]; decide), fX11_isFree_56, fX11_isFree_57]
        exact wp_m (isF_fin ha hb hab I1 W1 hG hA (Or.inl z2)) (fun r σ' w => w.t f1 (fun i _ => Iff.rfl))
      · rw [if_neg (nI_nle (by omega) (by omega))]
        refine wp_bw (freesR hb ha hG (by omega) I1 W1) ?_
        rintro r σ2 ⟨own', c1, c2, c3, c4, c5, c6⟩
        rcases c6 with ⟨rfl, e, e1, e2, e3, e4⟩ | ⟨rfl, rfl, R, rr⟩
        · rw [i10, fX11_isFree_52, fX11_isFree_57]
          have wa := e4 a (by omega)
          have wb := e4 b (by omega)
          rw [bq_o hab, bq_o (fun w => e3 w.symm)] at wa
          rw [bq_s, bq_o (fun w => e2 w.symm)] at wb
          exact wp_m (ih (fu + 1) σ2 own' (by omega) (by omega) c1 c2 c3) (fun r σ' w => w.t (f1.t c4) c5)
        · rw [i00, fX11_isFree_56, fX11_isFree_57]
          exact wp_m (isF_fin ha hb hab c1 c2 hG hA (Or.inr ⟨R, rr⟩)) (fun r σ' w => w.t (f1.t c4) (fun i _ => Iff.rfl))
    rw [fX11_isFree_2, if_neg (show ¬ (1 : Int32) = 0 by decide), nI_clamp (show a < 2 ^ 31 by omega), gg_ix (show a < 24 by omega) (by decide), hW a ha]
    by_cases z1 : ow own n a = 0
    · rw [if_pos (show nI (ow own n a) ≤ 0 by rw [z1]; decide)]
      exact second σ (fun x y _ => sm_r σ x y) hI hW (Or.inl z1)
    · rw [if_neg (nI_nle (by omega) (by omega))]
      refine wp_bw (freesR ha hb hG (by omega) hI hW) ?_
      rintro r σ2 ⟨own', c1, c2, c3, c4, c5, c6⟩
      rcases c6 with ⟨rfl, e, e1, e2, e3, e4⟩ | ⟨rfl, rfl, R, rr⟩
      · rw [i10, fX11_isFree_29, if_neg (show ¬ (1 : Int32) = 0 by decide), fX11_isFree_52, fX11_isFree_57]
        have wa := e4 a (by omega)
        have wb := e4 b (by omega)
        rw [bq_s, bq_o (fun w => e2 w.symm)] at wa
        rw [bq_o (fun w => hab w.symm), bq_o (fun w => e3 w.symm)] at wb
        exact wp_m (ih (fu + 1) σ2 own' (by omega) (by omega) c1 c2 c3) (fun r σ' w => w.t c4 c5)
      · rw [i00]
        exact second σ2 c4 c1 c2 (Or.inr ⟨R, rr⟩)
theorem isFreeR (ha : a < J) (hb : b < J) (hab : a ≠ b) (hI : RI σ J n A B own) (hW : RW σ J (ow own n)) (hG : GO E J n A B own) : Wp (fX11_isFree (nI a) (nI b) σ) (fun r σ' => IFR E J n A B own a b σ r σ') := by
  have hJ := hG.1
  have la := hG.2.2.1 a (by omega)
  have lb := hG.2.2.1 b (by omega)
  rw [fX11_isFree]
  exact isF_1 ha hb hab 5 2000 σ own (by omega) (by omega) hI hW hG
end ISF
/-! the reference's own linkage -/
def RD0 (σ : gS) (D : DT) : Prop :=
  (∀ f, f < 4 → σ.1 168 (szF f) = nI (dn D f)) ∧ σ.1 168 16 = nI (dP D) ∧
  (∀ p, p < dP D → σ.1 181 p = nI (dk D p) ∧ σ.1 182 p = nI (du D p)) ∧
  (∀ f i, f < 4 → i < dn D f → σ.1 (h1F f) i = dx D (dm D f i) ∧ σ.1 (h2F f) i = dy D (dm D f i)) ∧
  (∀ i, i < dn D 0 → σ.1 172 i = (if dk D (dm D 0 i) = 1 then 1 else 0)) ∧
  (∀ i, i < dn D 3 → σ.1 178 i = nI (dk D (dm D 3 i))) ∧
  (dd D = none → σ.1 168 19 = -1 ∧ σ.1 168 20 = -1) ∧
  (∀ a b, dd D = some (a, b) → σ.1 168 19 = nI a ∧ σ.1 168 20 = nI b)
/-- where it lies -/
def pR0 (x y : Nat) : Prop := (x = 168 ∧ y ≤ 20) ∨ (170 ≤ x ∧ x ≤ 182)
theorem RD0.keep {σ σ' : gS} {D : DT} (h : RD0 σ D) (hk : ∀ x y, pR0 x y → σ'.1 x y = σ.1 x y) : RD0 σ' D := by
  obtain ⟨a, c, e, g, k, m, n, o⟩ := h
  have k1 : ∀ y, y ≤ 20 → σ'.1 168 y = σ.1 168 y := fun y h1 => hk 168 y (Or.inl ⟨rfl, h1⟩)
  have k2 : ∀ x y, 170 ≤ x → x ≤ 182 → σ'.1 x y = σ.1 x y := fun x y h1 h2 => hk x y (Or.inr ⟨h1, h2⟩)
  refine ⟨fun f hf => ?_, by rw [k1 _ (by omega)]; exact c, fun q hq => ?_, fun f i hf hi => ?_, fun i hi => ?_, fun i hi => ?_, ?_, ?_⟩
  · have := szF_le f
    rw [k1 _ (by omega)]; exact a f hf
  · rw [k2 _ _ (by omega) (by omega), k2 _ _ (by omega) (by omega)]; exact e q hq
  · have := h1F_b hf
    have := h2F_b hf
    rw [k2 _ _ (by omega) (by omega), k2 _ _ (by omega) (by omega)]; exact g f i hf hi
  · rw [k2 _ _ (by omega) (by omega)]; exact k i hi
  · rw [k2 _ _ (by omega) (by omega)]; exact m i hi
  · rw [k1 _ (by omega), k1 _ (by omega)]; exact n
  · rw [k1 _ (by omega), k1 _ (by omega)]; exact o
/-! items by their numbers -/
theorem gDl {α : Type} {l : List α} {i : Nat} {d : α} (h : i < l.length) : l.getD i d = l[i] := by rw [List.getD_eq_getElem?_getD, List.getElem?_eq_getElem h]; rfl
def lA (l : List (Nat × Nat)) (i : Nat) : Nat := (l.getD i (0, 0)).1
def lB (l : List (Nat × Nat)) (i : Nat) : Nat := (l.getD i (0, 0)).2
def itA (D : DT) (i : Nat) : Nat := if i < (tiD D).length then lA (tiD D) i else bA D (i - (tiD D).length)
def itB (D : DT) (i : Nat) : Nat := if i < (tiD D).length then lB (tiD D) i else bB D (i - (tiD D).length)
noncomputable def itE (D : DT) : Nat → List (Nat × Nat)
  | 0 => []
  | i + 1 => acc (itE D i) (itA D i) (itB D i)
theorem itE_take (D : DT) : ∀ i, i ≤ (tiD D).length → itE D i = accL [] ((tiD D).take i)
  | 0, _ => rfl
  | i + 1, h => by
    have ih := itE_take D i (by omega)
    have hi : i < (tiD D).length := by omega
    rw [itE, ih, List.take_succ_eq_append_getElem hi, accL_app]
    have ga : itA D i = ((tiD D)[i]).1 := by unfold itA lA; rw [if_pos hi, gDl hi]
    have gb : itB D i = ((tiD D)[i]).2 := by unfold itB lB; rw [if_pos hi, gDl hi]
    rw [ga, gb]
    rfl
theorem itE_T (D : DT) : itE D (tiD D).length = barE D 0 := by
  rw [itE_take D _ (Nat.le_refl _), List.take_length]
  rfl
theorem itE_bar (D : DT) : ∀ k, itE D ((tiD D).length + k) = barE D k
  | 0 => itE_T D
  | k + 1 => by
    show acc (itE D ((tiD D).length + k)) (itA D ((tiD D).length + k)) (itB D ((tiD D).length + k)) = acc (barE D k) (bA D k) (bB D k)
    rw [itE_bar D k]
    unfold itA itB
    rw [if_neg (by omega), if_neg (by omega), Nat.add_sub_cancel_left]
theorem it_ok {D : DT} (w : WFa D) (v : WFb D) {i : Nat} (hi : i < (tiD D).length + dn D 1) : itA D i < dn D 0 ∧ itB D i < dn D 0 ∧ itA D i ≠ itB D i := by
  have w4 := w.n4
  unfold itA itB
  by_cases q : i < (tiD D).length
  · rw [if_pos q, if_pos q]
    unfold lA lB
    rw [gDl q]
    exact (tieA_ok (grD D) (dn D 0) w4.1).2.2 _ (List.getElem_mem q)
  · rw [if_neg q, if_neg q]
    obtain ⟨a, b, c, -⟩ := bAB w v (show i - (tiD D).length < dn D 1 by omega)
    exact ⟨a, b, c⟩
theorem tiD_len {D : DT} (w : WFa D) : (tiD D).length ≤ 45 := by
  have w4 := w.n4
  have key : ∀ g n, n ≤ 24 → (tieA g n).2.2.length + 3 ≤ 2 * n ∨ (tieA g n).2.2.length = 0 ∨ ((tieA g n).2.2.length ≤ 45 ∧ (tieA g n).2.1 < n ∧ (tieA g n).2.2.length + 3 ≤ 2 * n) := by
    intro g n
    induction n with
    | zero => exact fun _ => Or.inr (Or.inl rfl)
    | succ n ih =>
      intro hn
      have ih := ih (by omega)
      have ok := (tieA_ok g n (by omega)).1
      rw [tieA]
      by_cases q : g n = true
      · rw [if_pos q]
        by_cases q1 : (tieA g n).1 = 24
        · rw [if_pos q1]
          show (tieA g n).2.2.length + 3 ≤ _ ∨ (tieA g n).2.2.length = 0 ∨ _
          rcases ok with ⟨a, b, c⟩ | ⟨a, b, c⟩ | ⟨a, b, c⟩
          · rw [c]; exact Or.inr (Or.inl rfl)
          · rw [c]; exact Or.inr (Or.inl rfl)
          · omega
        · rw [if_neg q1]
          by_cases q2 : (tieA g n).2.1 = 24
          · rw [if_pos q2]
            show ((tieA g n).2.2 ++ [((tieA g n).1, n)]).length + 3 ≤ _ ∨ _
            rcases ok with ⟨a, b, c⟩ | ⟨a, b, c⟩ | ⟨a, b, c⟩
            · omega
            · rw [c]
              refine Or.inl ?_
              show 1 + 3 ≤ _
              omega
            · omega
          · rw [if_neg q2]
            show ((tieA g n).2.2 ++ [(n, (tieA g n).1), (n, (tieA g n).2.1)]).length + 3 ≤ _ ∨ _
            rw [List.length_append]
            show (_ + 2) + 3 ≤ _ ∨ _
            rcases ok with ⟨a, b, c⟩ | ⟨a, b, c⟩ | ⟨a, b, c⟩
            · omega
            · omega
            · refine Or.inl ?_
              omega
      · rw [if_neg q]
        rcases ih with h | h | h
        · exact Or.inl (by omega)
        · exact Or.inr (Or.inl h)
        · exact Or.inl (by omega)
  have := key (grD D) (dn D 0) w4.1
  unfold tiD
  omega

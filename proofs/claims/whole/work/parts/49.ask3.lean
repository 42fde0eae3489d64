/-! ASK, TRAIL, IS, AS -/
def iAsk (σ : gS) : Prop := ∃ k : Nat, k ≤ 16 ∧ σ.1 149 1 = nI k ∧ σ.1 168 96 = nI k ∧ ∀ i, i < k → σ.1 150 i = σ.1 228 i
def pAsk (h k : Nat) : Prop := h ≠ 149 ∧ h ≠ 150 ∧ ¬ (h = 0 ∧ k = 11) ∧ ¬ (h = 168 ∧ k = 94) ∧ ¬ (h = 168 ∧ k = 96) ∧ h ≠ 228
def ask0 (σ : gS) (k : Nat) (s : Int32) : gS := gsI (gsI (gsI (gsI σ 149 3 (nI k)) 149 4 s) 149 1 0) 149 2 0
def ask1 (σ : gS) (k : Nat) (s : Int32) (L : List Int32) (nt : Bool) : gS := gsI (if nt then gsI (begs 150 149 1 (ask0 σ k s) 0 L) 149 2 1 else begs 150 149 1 (ask0 σ k s) 0 L) 0 11 (if nt then 5 else 0)
def ask2 (σ : gS) : gS := gsI (gsI σ 168 96 0) 168 94 0
def ask3 (σ : gS) (L : List Int32) (nt : Bool) : gS := if nt then gsI (begs 228 168 96 (ask2 σ) 0 L) 168 94 5 else begs 228 168 96 (ask2 σ) 0 L
section ASK
variable {σ : gS} {t : Nat} {n kd num : Nat → Nat} {mem : Nat → Nat → Nat}
theorem ask1_o {k : Nat} {s : Int32} {L : List Int32} {nt : Bool} {x y : Nat} (h1 : x ≠ 149) (h2 : x ≠ 150) (h3 : ¬ (x = 0 ∧ y = 11)) : (ask1 σ k s L nt).1 x y = σ.1 x y := by
  unfold ask1 ask0
  cases nt
  · simp (disch := omega) only [rI_o, begs_o, if_false, Bool.false_eq_true]
  · simp (disch := omega) only [rI_o, begs_o, if_true]
theorem ask1_2 {k : Nat} {s : Int32} {L : List Int32} {nt : Bool} : (ask1 σ k s L nt).2 = σ.2 := by
  unfold ask1 ask0
  cases nt
  · simp only [gsI_2, begs_2, if_false, Bool.false_eq_true]
  · simp only [gsI_2, begs_2, if_true]
theorem ask_fin {k : Nat} {s : Int32} {L : List Int32} {nt : Bool} (hL : L.length ≤ 16) : iAsk (ask3 (ask1 σ k s L nt) L nt) ∧ (ask3 (ask1 σ k s L nt) L nt).1 0 11 = (ask3 (ask1 σ k s L nt) L nt).1 168 94 ∧ Fr pAsk σ (ask3 (ask1 σ k s L nt) L nt) := by
  have n1 : (begs 150 149 1 (ask0 σ k s) 0 L).1 149 1 = nI L.length := by
    have := begs_n (hA := 150) (hO := 149) (k := 1) L 0 (ask0 σ k s) (by unfold ask0; simp (disch := omega) only [rI_o, rI_s]; rfl)
    rw [Nat.zero_add] at this
    exact this
  have a1 : ∀ j, j < L.length → (begs 150 149 1 (ask0 σ k s) 0 L).1 150 j = L.getD j 0 := fun j hj => by
    have := begs_at (hA := 150) (hO := 149) (k := 1) (by decide) L 0 (ask0 σ k s) j hj
    rw [Nat.zero_add] at this
    exact this
  have n2 : ∀ τ : gS, (begs 228 168 96 (ask2 τ) 0 L).1 168 96 = nI L.length := fun τ => by
    have := begs_n (hA := 228) (hO := 168) (k := 96) L 0 (ask2 τ) (by unfold ask2; simp (disch := omega) only [rI_o, rI_s]; rfl)
    rw [Nat.zero_add] at this
    exact this
  have a2 : ∀ (τ : gS) j, j < L.length → (begs 228 168 96 (ask2 τ) 0 L).1 228 j = L.getD j 0 := fun τ j hj => by
    have := begs_at (hA := 228) (hO := 168) (k := 96) (by decide) L 0 (ask2 τ) j hj
    rw [Nat.zero_add] at this
    exact this
  unfold ask3
  cases nt
  · simp only [if_false, Bool.false_eq_true]
    refine ⟨⟨L.length, hL, ?_, n2 _, fun i hi => ?_⟩, ?_, fun h k hP => ?_⟩
    · rw [begs_o (by decide) (by decide)]
      unfold ask2 ask1
      simp (disch := omega) only [rI_o, if_false, Bool.false_eq_true]
      exact n1
    · rw [a2 _ i hi, begs_o (by decide) (by omega)]
      unfold ask2 ask1
      simp (disch := omega) only [rI_o, if_false, Bool.false_eq_true]
      exact a1 i hi
    · rw [begs_o (by decide) (by decide), begs_o (by decide) (by decide)]
      unfold ask2 ask1
      simp (disch := omega) only [rI_o, rI_s, if_false, Bool.false_eq_true]
    · obtain ⟨p1, p2, p3, p4, p5, p6⟩ := hP
      refine ⟨?_, ?_, ?_⟩
      · rw [begs_o p6 p5]
        unfold ask2
        simp (disch := omega) only [rI_o, ask1_o]
      · rw [begs_2]
        unfold ask2
        rw [gsI_2, gsI_2, ask1_2]
      · rw [begs_2]
        unfold ask2
        rw [gsI_2, gsI_2, ask1_2]
  · simp only [if_true]
    refine ⟨⟨L.length, hL, ?_, by rw [rI_o (by decide)]; exact n2 _, fun i hi => ?_⟩, ?_, fun h k hP => ?_⟩
    · rw [rI_o (by decide), begs_o (by decide) (by decide)]
      unfold ask2 ask1
      simp (disch := omega) only [rI_o, if_true]
      exact n1
    · rw [rI_o (by omega), rI_o (by omega), a2 _ i hi, begs_o (by decide) (by omega)]
      unfold ask2 ask1
      simp (disch := omega) only [rI_o, if_true]
      exact a1 i hi
    · rw [rI_s, rI_o (by decide), begs_o (by decide) (by decide)]
      unfold ask2 ask1
      simp (disch := omega) only [rI_o, rI_s, if_true]
    · obtain ⟨p1, p2, p3, p4, p5, p6⟩ := hP
      refine ⟨?_, ?_, ?_⟩
      · rw [rI_o p4, begs_o p6 p5]
        unfold ask2
        simp (disch := omega) only [rI_o, ask1_o]
      · rw [gsI_2, begs_2]
        unfold ask2
        rw [gsI_2, gsI_2, ask1_2]
      · rw [gsI_2, begs_2]
        unfold ask2
        rw [gsI_2, gsI_2, ask1_2]
theorem ask0_1 {k : Nat} {s : Int32} : (ask0 σ k s).1 149 1 = nI 0 := by unfold ask0; simp (disch := omega) only [rI_o, rI_s]; rfl
theorem ask0_2 {k : Nat} {s : Int32} : (ask0 σ k s).1 149 2 = 0 := by unfold ask0; simp (disch := omega) only [rI_s]
theorem ask0_3 {k : Nat} {s : Int32} : (ask0 σ k s).1 149 3 = nI k := by unfold ask0; simp (disch := omega) only [rI_o, rI_s]
theorem ask0_4 {k : Nat} {s : Int32} : (ask0 σ k s).1 149 4 = s := by unfold ask0; simp (disch := omega) only [rI_o, rI_s]
def askL (q k : Nat) : List Int32 := if q = 0 then freL k else if q = 1 then masL k else losL k
def askV (q k : Nat) (s : Int32) : Int32 := if q = 0 then freV k else if q = 1 then masV k s else if k = 1 then -1000010 - 5 else losV k
def askN (q k : Nat) : Bool := decide (q = 2 ∧ k = 1)
theorem askN2 {k : Nat} (h : ¬ k = 1) : askN 2 k = false := by
  unfold askN
  simp only [h, and_false, decide_false]
theorem askV2 {k : Nat} {s : Int32} (h : ¬ k = 1) : askV 2 k s = losV k := by
  unfold askV
  rw [if_neg (by decide), if_neg (by decide), if_neg h]
theorem askL_len {q k : Nat} (hk : k < 7) : (askL q k).length ≤ 16 := by
  unfold askL
  rcases k7 hk with rfl | rfl | rfl | rfl | rfl | rfl | rfl <;> (split; (decide); split <;> decide)
theorem askC (h : Lk σ t n kd num mem) {i q : Nat} (hi : i < npF n) (hq : q < 3) : ∃ s : Int32, (fX10_ask (nI i) (nI q) σ = some (askV q (kd i) s, ask1 σ (kd i) s (askL q (kd i)) (askN q (kd i)))) ∧ (kd i = 2 → ∃ a b r, a < n 0 ∧ b < n 0 ∧ σ.1 176 (num i) = nI a ∧ σ.1 177 (num i) = nI b ∧ isR (sqN (σ.1 170 a) (σ.1 170 b) (σ.1 171 a) (σ.1 171 b)) r ∧ s = nI r) ∧ (kd i = 3 → s = σ.1 175 (num i)) := by
  obtain ⟨s, hs, hs2, hs3⟩ := sizeOfC h hi
  refine ⟨s, ?_, hs2, hs3⟩
  obtain ⟨k7', nu, c, d, e, f, g, k⟩ := h.part hi
  have hn := h.2.2.2.1.np
  have hc : (nI i).toNatClampNeg = i := nI_clamp (by omega)
  have g1 := g_ix (show i < 130 by omega) (by decide)
  rw [fX10_ask, (isP_yes h hi).1, bd_r, i10, if_neg (nI_pos (by omega)), if_pos (show nI q ≤ 2 from nI_le (b := 2) (by omega) (by decide)), bnd_r, h.2.1, gg_t h.1, gg_t g1, bnd_r, gg_t h.1, hs, bd_r, hc, c]
  rw [show fX0_start (nI (kd i)) s σ = some ((), ask0 σ (kd i) s) from rfl, bd_r]
  rcases (show q = 0 ∨ q = 1 ∨ q = 2 by omega) with rfl | rfl | rfl
  · rw [if_pos (by decide), freC ask0_1 (by omega) ask0_3 k7', bd_r, fX10_ask_102, begs_o (by decide) (by decide), ask0_2, if_pos rfl, fX10_fine, bnd_r, bd_r, fX10_ask_125]
    rfl
  · rw [if_neg (by decide), if_pos (by decide), masC ask0_1 (by omega) ask0_3 k7', bd_r, fX10_ask_102, begs_o (by decide) (by decide), ask0_2, if_pos rfl, fX10_fine, bnd_r, bd_r, fX10_ask_125, ask0_4]
    rfl
  · rw [if_neg (by decide), if_neg (by decide), losC ask0_1 ask0_3 k7', bd_r, fX10_ask_102]
    by_cases k1 : kd i = 1
    · rw [k1, if_pos rfl, rI_s, if_neg (by decide), fX10_found, bnd_r, bd_r, fX10_ask_125]
      rfl
    · rw [if_neg k1, begs_o (by decide) (by decide), ask0_2, if_pos rfl, fX10_fine, bnd_r, bd_r, fX10_ask_125]
      rw [askN2 k1, askV2 k1]
      rfl
theorem askM (h : Lk σ t n kd num mem) {i q : Nat} {s : Int32} (hi : i < npF n) (hq : q < 3) (hs2 : kd i = 2 → ∃ a b r, a < n 0 ∧ b < n 0 ∧ σ.1 176 (num i) = nI a ∧ σ.1 177 (num i) = nI b ∧ isR (sqN (σ.1 170 a) (σ.1 170 b) (σ.1 171 a) (σ.1 171 b)) r ∧ s = nI r) (hs3 : kd i = 3 → s = σ.1 175 (num i)) : fX11_ask (nI i) (nI q) σ = some (askV q (kd i) s, ask3 σ (askL q (kd i)) (askN q (kd i))) := by
  obtain ⟨k7', nu, c, d, e, f, g, k⟩ := h.part hi
  have hn := h.2.2.2.1.np
  obtain ⟨n0, n1, n2, n3⟩ := h.2.2.2.1.n4
  have hu6 : num i < 60 := Nat.lt_of_lt_of_le nu (h.2.2.2.1.nf (fam_lt k7'))
  have hc : (nI i).toNatClampNeg = i := nI_clamp (by omega)
  have g1 := g_ix (show i < 130 by omega) (by decide)
  have z : (ask2 σ).1 168 96 = nI 0 := by unfold ask2; simp (disch := omega) only [rI_o, rI_s]; rfl
  have o : ∀ x y, x ≠ 168 → (ask2 σ).1 x y = σ.1 x y := fun x y hx => by unfold ask2; rw [rI_h hx, rI_h hx]
  rw [fX11_ask, (isP_yes h hi).2, bd_r, i10, in_t (by rw [l32, nI_toInt (by omega), z64, show (2 : Int64).toInt = 2 from rfl]; omega), bd_r, i10, bnd_r, bnd_r]
  rw [show gsI (gsI σ 168 96 0) 168 94 0 = ask2 σ from rfl]
  rcases (show q = 0 ∨ q = 1 ∨ q = 2 by omega) with rfl | rfl | rfl
  · rw [if_pos (by decide), gg_t g1, hc, o 181 i (by decide), d, freM z (by omega) k7', bd_r, fX11_ask_68]
    rfl
  · rw [if_neg (by decide), if_pos (by decide), masM (s := s) z (by omega) (by omega) ((o 181 i (by decide)).trans d) k7' ((o 182 i (by decide)).trans f) hu6 ?_ ?_, bd_r, fX11_ask_68]
    · rfl
    · intro q2
      obtain ⟨a, b, r, ha, hb, ea, eb, hr, er⟩ := hs2 q2
      refine ⟨a, b, r, by omega, by omega, ?_, ?_, ?_, ?_, ?_, ?_, ?_, er⟩
      · rw [o _ _ (by decide)]; exact ea
      · rw [o _ _ (by decide)]; exact eb
      · rw [o _ _ (by decide), o _ _ (by decide), o _ _ (by decide), o _ _ (by decide)]; exact hr
      · rw [o _ _ (by decide)]; exact (h.pt ha).1
      · rw [o _ _ (by decide)]; exact (h.pt hb).1
      · rw [o _ _ (by decide)]; exact (h.pt ha).2
      · rw [o _ _ (by decide)]; exact (h.pt hb).2
    · intro q3
      rw [q3] at nu
      exact ⟨Nat.lt_of_lt_of_le nu n2, by rw [o _ _ (by decide)]; exact hs3 q3⟩
  · rw [if_neg (by decide), if_neg (by decide), losM z (by omega) ((o 181 i (by decide)).trans d) k7' ((o 182 i (by decide)).trans f) hu6, bd_r, fX11_ask_68]
    by_cases k1 : kd i = 1
    · rw [k1, if_pos rfl, if_pos rfl]
      rfl
    · rw [if_neg k1, if_neg k1]
      rw [askN2 k1, askV2 k1]
      rfl
theorem ask_eq (h : Lk σ t n kd num mem) (ha : iAsk σ) (hst : σ.1 0 11 = σ.1 168 94) (p q : Int32) : Ok (fX10_ask p q σ) (fX11_ask p q) (fun σ' => iAsk σ' ∧ σ'.1 0 11 = σ'.1 168 94 ∧ Fr pAsk σ σ') := by
  by_cases hp : 0 ≤ p.toInt ∧ p.toInt < npF n
  · have hn := h.2.2.2.1.np
    obtain ⟨i, hi, rfl⟩ := nI_get (n := npF n) hp.1 hp.2 (by omega)
    by_cases hq : 0 ≤ q.toInt ∧ q.toInt < (3 : Nat)
    · obtain ⟨j, hj, rfl⟩ := nI_get (n := 3) hq.1 hq.2 (by decide)
      obtain ⟨s, e1, hs2, hs3⟩ := askC h hi hj
      have o : ∀ x y, 168 ≤ x → (ask1 σ (kd i) s (askL j (kd i)) (askN j (kd i))).1 x y = σ.1 x y := fun x y hx => ask1_o (by omega) (by omega) (by omega)
      have h' : Lk (ask1 σ (kd i) s (askL j (kd i)) (askN j (kd i))) t n kd num mem := by
        refine h.keep (fun x y hx => ask1_o ?_ ?_ ?_) ?_ ?_
        · unfold pLkU at hx; omega
        · unfold pLkU at hx; omega
        · unfold pLkU at hx; omega
        · rw [ask1_2]
        · rw [ask1_2]
      have e2 := askM (s := s) h' hi hj (fun q2 => by
        obtain ⟨a, b, r, ha, hb, ea, eb, hr, er⟩ := hs2 q2
        refine ⟨a, b, r, ha, hb, ?_, ?_, ?_, er⟩
        · rw [o _ _ (by decide)]; exact ea
        · rw [o _ _ (by decide)]; exact eb
        · rw [o _ _ (by decide), o _ _ (by decide), o _ _ (by decide), o _ _ (by decide)]; exact hr) (fun q3 => by rw [o _ _ (by decide)]; exact hs3 q3)
      exact Ok.mk e1 e2 rfl (ask_fin (askL_len (h.part hi).1))
    · refine Ok.mk (r := -1000001) (r' := -1000001) (σ1 := σ) (σ2 := σ) ?_ ?_ rfl ⟨ha, hst, fun _ _ _ => ⟨rfl, rfl, rfl⟩⟩
      · rw [fX10_ask, (isP_yes h hi).1, bd_r, i10]
        by_cases q1 : q < 0
        · rw [if_pos q1, fX10_ask_17]
        · have := mt lt32.mpr q1
          rw [z32] at this
          rw [if_neg q1, if_neg (show ¬ q ≤ 2 from fun z => by have := le32.mp z; rw [show (2 : Int32).toInt = 2 from rfl] at this; omega), fX10_ask_17]
      · rw [fX11_ask, (isP_yes h hi).2, bd_r, i10, in_f (by rw [l32, z64, show (2 : Int64).toInt = 2 from rfl]; omega), bd_r, i00, fX11_ask_20]
  · refine Ok.mk (r := -1000001) (r' := -1000001) (σ1 := σ) (σ2 := σ) ?_ ?_ rfl ⟨ha, hst, fun _ _ _ => ⟨rfl, rfl, rfl⟩⟩
    · rw [fX10_ask, (isP_no h hp).1, bd_r, i00, fX10_ask_17]
    · rw [fX11_ask, (isP_no h hp).2, bd_r, i00, fX11_ask_20]
theorem trail_eq (ha : iAsk σ) (p : Int32) : Ok (fX10_trail p σ) (fX11_trail p) (fun σ' => σ' = σ) := by
  obtain ⟨k, hk, e1, e2, e3⟩ := ha
  by_cases hp : 0 ≤ p.toInt ∧ p.toInt < k
  · obtain ⟨i, hi, rfl⟩ := nI_get (n := k) hp.1 hp.2 (by omega)
    have hc : (nI i).toNatClampNeg = i := nI_clamp (by omega)
    have g1 := g_ix (show i < 16 by omega) (by decide)
    refine Ok.mk (r := σ.1 150 i) (r' := σ.1 228 i) (σ1 := σ) (σ2 := σ) ?_ ?_ (e3 i hi).symm rfl
    · rw [fX10_trail, if_neg (nI_pos (by omega)), e1, if_neg (nI_ge hi (by omega)), gg_t g1, hc, fX10_trail_29]
    · rw [fX11_trail, e2, inM (by omega), if_pos hp, bd_r, i10, gg_t g1, hc, fX11_trail_27]
  · refine Ok.mk (r := -1000000) (r' := -1000000) (σ1 := σ) (σ2 := σ) ?_ ?_ rfl rfl
    · rw [fX10_trail]
      by_cases q1 : p < 0
      · rw [if_pos q1, fX10_trail_27, fX10_trail_29]
      · have := mt lt32.mpr q1
        rw [z32] at this
        rw [if_neg q1, e1, if_pos (le32.mpr (by rw [nI_toInt (by omega)]; omega)), fX10_trail_27, fX10_trail_29]
    · rw [fX11_trail, e2, inM (by omega), if_neg hp, bd_r, i00, fX11_trail_27]
def isK (a b : Nat) : Int32 := if a = b ∨ (b = 0 ∧ a = 1) ∨ (b = 4 ∧ 4 < a) ∨ (b = 5 ∧ a = 6) then 1 else 0
theorem isKC {i k q : Nat} (hk : k < 7) (hq : q < 7) (hi : i < 130) (e : σ.1 (t + 1) i = nI k) : fX3_isOfKind t (nI i) (nI q) σ = some (isK k q, σ) := by
  have hc : (nI i).toNatClampNeg = i := nI_clamp (by omega)
  have g1 := g_ix hi (by decide)
  rw [fX3_isOfKind, gg_t g1, hc, e]
  rcases k7 hk with rfl | rfl | rfl | rfl | rfl | rfl | rfl <;> rcases k7 hq with rfl | rfl | rfl | rfl | rfl | rfl | rfl <;> rfl
theorem isKM {k q : Nat} (hk : k < 7) (hq : q < 7) : fX11_isOf (nI k) (nI q) σ = some (isK k q, σ) := by
  rcases k7 hk with rfl | rfl | rfl | rfl | rfl | rfl | rfl <;> rcases k7 hq with rfl | rfl | rfl | rfl | rfl | rfl | rfl <;> rfl
theorem isKd_no {q : Int32} (h : ¬ (0 ≤ q.toInt ∧ q.toInt < (7 : Nat))) (τ : gS) : fX10_isKind q τ = some (0, τ) ∧ fX11_in q.toInt64 0 6 τ = some (0, τ) := by
  refine ⟨?_, in_f (by rw [l32, z64, show (6 : Int64).toInt = 6 from rfl]; omega)⟩
  rw [fX10_isKind]
  by_cases q1 : q < 0
  · rw [if_pos q1, fX10_isKind_14, fX10_isKind_15, gg_t (Or.inl rfl)]
  · have := mt lt32.mpr q1
    rw [z32] at this
    rw [if_neg q1, if_pos (show (7 : Int32) ≤ q from le32.mpr (by rw [show (7 : Int32).toInt = 7 from rfl]; omega)), fX10_isKind_14, fX10_isKind_15, gg_t (Or.inl rfl)]
theorem isKd_yes {q : Nat} (h : q < 7) (τ : gS) : fX10_isKind (nI q) τ = some (1, τ) ∧ fX11_in (nI q).toInt64 0 6 τ = some (1, τ) := by
  refine ⟨?_, in_t (by rw [l32, nI_toInt (by omega), z64, show (6 : Int64).toInt = 6 from rfl]; omega)⟩
  rw [fX10_isKind, if_neg (nI_pos (by omega)), if_neg (show ¬ (7 : Int32) ≤ nI q from nI_ge (b := 7) h (by decide)), fX10_isKind_15, gg_t (Or.inr rfl)]
theorem isK01 (a b : Nat) : isK a b = 0 ∨ isK a b = 1 := by
  unfold isK
  split
  · exact Or.inr rfl
  · exact Or.inl rfl
theorem is_eq (h : Lk σ t n kd num mem) (p q : Int32) : Ok (fX10_is p q σ) (fX11_is p q) (fun σ' => σ' = σ) := by
  by_cases hp : 0 ≤ p.toInt ∧ p.toInt < npF n
  · have hn := h.2.2.2.1.np
    obtain ⟨i, hi, rfl⟩ := nI_get (n := npF n) hp.1 hp.2 (by omega)
    obtain ⟨k7', nu, c, d, e, f, g, k⟩ := h.part hi
    have hc : (nI i).toNatClampNeg = i := nI_clamp (by omega)
    have g1 := g_ix (show i < 130 by omega) (by decide)
    by_cases hq : 0 ≤ q.toInt ∧ q.toInt < (7 : Nat)
    · obtain ⟨j, hj, rfl⟩ := nI_get (n := 7) hq.1 hq.2 (by decide)
      refine Ok.mk (r := isK (kd i) j) (r' := isK (kd i) j) (σ1 := σ) (σ2 := σ) ?_ ?_ rfl rfl
      · rw [fX10_is, (isP_yes h hi).1, bd_r, i10, (isKd_yes hj σ).1, bd_r, i10, bnd_r, h.2.1, gg_t h.1, isKC k7' hj (by omega) c, bd_r]
        rcases isK01 (kd i) j with z | z
        · rw [z, i00, fX10_is_35]
        · rw [z, i10, fX10_is_35]
      · rw [fX11_is, (isP_yes h hi).2, bd_r, i10, (isKd_yes hj σ).2, bd_r, i10, gg_t g1, hc, d, isKM k7' hj, bd_r]
        rcases isK01 (kd i) j with z | z
        · rw [z, i00, fX11_is_43]
        · rw [z, i10, fX11_is_43]
    · refine Ok.mk (r := -1000001) (r' := -1000001) (σ1 := σ) (σ2 := σ) ?_ ?_ rfl rfl
      · rw [fX10_is, (isP_yes h hi).1, bd_r, i10, (isKd_no hq σ).1, bd_r, i00, fX10_is_15]
      · rw [fX11_is, (isP_yes h hi).2, bd_r, i10, (isKd_no hq σ).2, bd_r, i00, fX11_is_20, fX11_is_43]
  · refine Ok.mk (r := -1000001) (r' := -1000001) (σ1 := σ) (σ2 := σ) ?_ ?_ rfl rfl
    · rw [fX10_is, (isP_no h hp).1, bd_r, i00, fX10_is_15]
    · rw [fX11_is, (isP_no h hp).2, bd_r, i00, fX11_is_20, fX11_is_43]
def pSt (h k : Nat) : Prop := ¬ (h = 0 ∧ k = 11) ∧ ¬ (h = 168 ∧ k = 94)
theorem as_eq (h : Lk σ t n kd num mem) (hst : σ.1 0 11 = σ.1 168 94) (p q : Int32) : Ok (fX10_as p q σ) (fX11_as p q) (fun σ' => σ'.1 0 11 = σ'.1 168 94 ∧ Fr pSt σ σ') := by
  by_cases hp : 0 ≤ p.toInt ∧ p.toInt < npF n
  · have hn := h.2.2.2.1.np
    obtain ⟨i, hi, rfl⟩ := nI_get (n := npF n) hp.1 hp.2 (by omega)
    obtain ⟨k7', nu, c, d, e, f, g, k⟩ := h.part hi
    have hc : (nI i).toNatClampNeg = i := nI_clamp (by omega)
    have g1 := g_ix (show i < 130 by omega) (by decide)
    have lk : ∀ v : Int32, Lk (gsI σ 0 11 v) t n kd num mem := fun v => h.keep (fun x y hx => rI_h (by unfold pLkU at hx; omega)) rfl rfl
    by_cases hq : 0 ≤ q.toInt ∧ q.toInt < (7 : Nat)
    · obtain ⟨j, hj, rfl⟩ := nI_get (n := 7) hq.1 hq.2 (by decide)
      rcases isK01 (kd i) j with z | z
      · refine Ok.mk (r := -1000010 - 3) (r' := -1000010 - 3) (σ1 := gsI σ 0 11 3) (σ2 := gsI (gsI (gsI σ 0 11 3) 168 94 0) 168 94 3) ?_ ?_ rfl ⟨?_, fun x y hP => ⟨?_, rfl, rfl⟩⟩
        · rw [fX10_as, (isP_yes h hi).1, bd_r, i10, (isKd_yes hj σ).1, bd_r, i10, bnd_r, h.2.1, gg_t h.1, isKC k7' hj (by omega) c, bd_r, z, i00, fX10_found, bnd_r, bd_r, fX10_as_51]
        · rw [fX11_as, (isP_yes (lk 3) hi).2, bd_r, i10, (isKd_yes hj _).2, bd_r, i10, bnd_r, gg_t g1, hc, rI_o (by omega), rI_o (by omega), d, isKM k7' hj, bd_r, z, i00, fX11_finds, bnd_r, bd_r, fX11_as_55]
        · simp (disch := omega) only [rI_s, rI_o]
        · obtain ⟨p1, p2⟩ := hP
          simp (disch := omega) only [rI_o]
      · refine Ok.mk (r := nI (num i)) (r' := nI (num i)) (σ1 := gsI σ 0 11 0) (σ2 := gsI (gsI σ 0 11 0) 168 94 0) ?_ ?_ rfl ⟨?_, fun x y hP => ⟨?_, rfl, rfl⟩⟩
        · rw [fX10_as, (isP_yes h hi).1, bd_r, i10, (isKd_yes hj σ).1, bd_r, i10, bnd_r, h.2.1, gg_t h.1, isKC k7' hj (by omega) c, bd_r, z, i10, bnd_r, h.2.1, gg_t h.1, gg_t g1, hc, e, fX10_fine, bnd_r, bd_r, fX10_as_51]
        · rw [fX11_as, (isP_yes (lk 0) hi).2, bd_r, i10, (isKd_yes hj _).2, bd_r, i10, bnd_r, gg_t g1, hc, rI_o (by omega), rI_o (by omega), d, isKM k7' hj, bd_r, z, i10, gg_t (by rw [hc] at g1; exact g1), rI_o (by omega), rI_o (by omega), f, fX11_as_55]
        · simp (disch := omega) only [rI_s, rI_o]
        · obtain ⟨p1, p2⟩ := hP
          simp (disch := omega) only [rI_o]
    · refine Ok.mk (r := -1000001) (r' := -1000001) (σ1 := σ) (σ2 := σ) ?_ ?_ rfl ⟨hst, fun _ _ _ => ⟨rfl, rfl, rfl⟩⟩
      · rw [fX10_as, (isP_yes h hi).1, bd_r, i10, (isKd_no hq σ).1, bd_r, i00, fX10_as_15]
      · rw [fX11_as, (isP_yes h hi).2, bd_r, i10, (isKd_no hq σ).2, bd_r, i00, fX11_as_20]
  · refine Ok.mk (r := -1000001) (r' := -1000001) (σ1 := σ) (σ2 := σ) ?_ ?_ rfl ⟨hst, fun _ _ _ => ⟨rfl, rfl, rfl⟩⟩
    · rw [fX10_as, (isP_no h hp).1, bd_r, i00, fX10_as_15]
    · rw [fX11_as, (isP_no h hp).2, bd_r, i00, fX11_as_20]
end ASK

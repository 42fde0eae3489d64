/-! ratio and lock -/
def pXt (h k : Nat) : Prop := (h < 144 ∨ 148 < h) ∧ ¬ (h = 168 ∧ (k = 92 ∨ k = 93)) ∧ ¬ (225 ≤ h ∧ h ≤ 227)
theorem frT_F {σ σ1 σ2 : gS} (h1 : frTw σ σ1) (h2 : frTu σ1 σ2) : Fr pXt σ σ2 := fun x y ⟨a, b, c⟩ => by
  have p := h1 x y a
  have q := h2 x y b c
  exact ⟨q.1.trans p.1, q.2.1.trans p.2.1, by rw [q.2.2, p.2.2]⟩
theorem fr_r (P : Nat → Nat → Prop) (σ : gS) : Fr P σ σ := fun _ _ _ => ⟨rfl, rfl, rfl⟩
theorem frTw.rd {σ σ' : gS} {D : DT} (h : frTw σ σ') (k : RD0 σ D) : RD0 σ' D := k.keep (fun x y a => (h x y (by unfold pR0 at a; omega)).1)
theorem frTu.cd {σ σ' : gS} {t : Nat} {D : DT} (h : frTu σ σ') (h4 : t = 4 ∨ t = 16) (k : CD σ t D) : CD σ' t D := k.keep (fun x y a b => (h x y (by omega) (by omega)).1)
theorem fP_cg {P Q : Nat → Prop} : ∀ (k i : Nat), (∀ j, i ≤ j → j < i + k → (P j ↔ Q j)) → fP P k i = fP Q k i
  | 0, i, _ => rfl
  | k + 1, i, h => by
    rw [fP, fP, fP_cg k (i + 1) (fun j h1 h2 => h j (by omega) (by omega))]
    by_cases q : P i
    · rw [cif_t q, cif_t ((h i (by omega) (by omega)).mp q)]
    · rw [cif_f q, cif_f (fun z => q ((h i (by omega) (by omega)).mpr z))]
theorem fP_or {P Q : Nat → Prop} : ∀ (k i : Nat), fP (fun j => P j ∨ Q j) k i = min (fP P k i) (fP Q k i)
  | 0, i => by rw [fP, fP, fP]; omega
  | k + 1, i => by
    have a := fP_b P k (i + 1)
    have b := fP_b Q k (i + 1)
    rw [fP, fP, fP, fP_or k (i + 1)]
    by_cases p : P i
    · rw [cif_t (Or.inl p), cif_t p]
      by_cases q : Q i
      · rw [cif_t q]; omega
      · rw [cif_f q]; omega
    · rw [cif_f p]
      by_cases q : Q i
      · rw [cif_t (Or.inr q), cif_t q]; omega
      · rw [cif_f (fun z => z.elim p q), cif_f q]
section PUB3
variable {σ : gS} {t : Nat} {D : DT}
theorem ratio_eq (h : LkD σ t D) (p q s : Int32) : Ok (fX10_ratio p q s σ) (fX11_ratio p q s) (fun σ' => Fr pXt σ σ') := by
  have k := h.k
  obtain ⟨h4, h1, h2, w, v, c, r⟩ := h
  have w4 := w.n4
  have e5 : σ.1 168 5 = nI (dn D 2) := r.1 2 (by decide)
  have e1s : (1 : Int64).toInt = 1 := rfl
  have e1i : (1 : Int32).toInt = 1 := rfl
  by_cases hp : 0 ≤ p.toInt ∧ p.toInt < dn D 2
  · obtain ⟨a, ha, rfl⟩ := nI_get (n := dn D 2) hp.1 hp.2 (by omega)
    have m1 : fX10_isMember 2 (nI a) σ = some (1, σ) := isM_yes (f := 2) k (by decide) ha
    by_cases hq : 0 ≤ q.toInt ∧ q.toInt < dn D 2
    · obtain ⟨b, hb, rfl⟩ := nI_get (n := dn D 2) hq.1 hq.2 (by omega)
      have m2 : fX10_isMember 2 (nI b) σ = some (1, σ) := isM_yes (f := 2) k (by decide) hb
      have clb : (nI b).toNatClampNeg = b := nI_clamp (by omega)
      by_cases hs : 0 ≤ s.toInt ∧ s.toInt ≤ 1
      · refine wp_ok ?_
        rw [fX10_ratio, m1, bd_r, i10, m2, bd_r, i10, if_neg (fun z => by have := lt32.mp z; rw [z32] at this; omega), if_pos (le32.mpr (by rw [e1i]; exact hs.2)), bnd_r, h1, gg_t h4]
        refine wp_bw (sprC h4 w v c ha) ?_
        rintro _ σ1 ⟨t1, f1⟩
        obtain ⟨G, -⟩ := sprW_ok w v ha
        have gb := G b
        have tb := t1 b (by omega)
        obtain ⟨_, σ2, e2, t2, f2⟩ := sprR w v (f1.w.rd r) ha
        have tb2 := t2 b hb
        have e5' : σ1.1 168 5 = nI (dn D 2) := by rw [(f1 168 5 (by omega)).1]; exact e5
        have FF := frT_F f1.w f2
        have main : ∀ (res : Int64), ((gg (¬ (nI b < 0 ∨ 16 ≤ (nI b).toNatClampNeg)) (
          if (σ2.1 227 (nI b).toNatClampNeg) = 0 then
            fX11_ratio_99 (nI a) (nI b) s (-1000000) σ2
          else
            gg (¬ (nI b < 0 ∨ 16 ≤ (nI b).toNatClampNeg)) (
            if (σ2.1 227 (nI b).toNatClampNeg) = 2 then
              fX11_ratio_99 (nI a) (nI b) s 0 σ2
            else
              if s = 0 then
                gg (¬ (nI b < 0 ∨ 16 ≤ (nI b).toNatClampNeg)) (
                fX11_ratio_99 (nI a) (nI b) s (σ2.2.1 225 (nI b).toNatClampNeg) σ2)
              else
                gg (¬ (nI b < 0 ∨ 16 ≤ (nI b).toNatClampNeg)) (
                fX11_ratio_99 (nI a) (nI b) s (σ2.2.1 226 (nI b).toNatClampNeg) σ2)))) = some (res, σ2)) → Wp (some (res, σ1)) (fun r σ1 => Wp (fX11_ratio (nI a) (nI b) s σ1) (fun r' σ2 => r' = r ∧ Fr pXt σ σ2)) := by
          intro res he
          refine wp_r ?_
          rw [fX11_ratio, e5', inM (by omega), if_pos (by rw [nI_toInt (by omega)]; omega), bd_r, i10, e5', inM (by omega), if_pos (by rw [nI_toInt (by omega)]; omega), bd_r, i10, in_t (by rw [l32, z64, e1s]; exact hs), bd_r, i10, e2, bd_r, he]
          exact wp_r ⟨rfl, FF⟩
        rw [clb, gg_ix (by omega) (by decide), tb.1]
        rw [clb, gg_ix (by omega) (by decide), tb2.1] at main
        by_cases z0 : (sprW D a).1 b = 0
        · rw [if_pos (by rw [z0]; rfl)]
          exact main _ (by rw [if_pos (by rw [z0]; rfl), fX11_ratio_99])
        · have n0 : ¬ nI ((sprW D a).1 b) = 0 := nI_ne (by omega) (by omega)
          rw [if_neg n0]
          by_cases z2 : (sprW D a).1 b = 2
          · rw [if_pos (by rw [z2]; rfl)]
            exact main _ (by rw [if_neg n0, gg_ix (by omega) (by decide), if_pos (by rw [z2]; rfl), fX11_ratio_99])
          · have n2 : ¬ nI ((sprW D a).1 b) = 2 := fun y => z2 ((nI_eq (b := 2) (by omega) (by decide)).mp y)
            have one : (sprW D a).1 b = 1 := by omega
            rw [if_neg n2]
            by_cases s0 : s = 0
            · rw [if_pos s0, gg_ix (by omega) (by decide), fX10_ratio_111, (tb.2 one).1]
              exact main _ (by rw [if_neg n0, gg_ix (by omega) (by decide), if_neg n2, if_pos s0, gg_ix (by omega) (by decide), fX11_ratio_99, (tb2.2 one).1])
            · rw [if_neg s0, gg_ix (by omega) (by decide), fX10_ratio_111, (tb.2 one).2]
              exact main _ (by rw [if_neg n0, gg_ix (by omega) (by decide), if_neg n2, if_neg s0, gg_ix (by omega) (by decide), fX11_ratio_99, (tb2.2 one).2])
      · refine Ok.mk (r := -1000001) (r' := -1000001) (σ1 := σ) (σ2 := σ) ?_ ?_ rfl (fr_r _ σ)
        · rw [fX10_ratio, m1, bd_r, i10, m2, bd_r, i10]
          by_cases y : s < 0
          · rw [if_pos y, fX10_ratio_27]
          · have := mt lt32.mpr y
            rw [z32] at this
            rw [if_neg y, if_neg (fun z => by have := le32.mp z; rw [e1i] at this; omega), fX10_ratio_27]
        · rw [fX11_ratio, e5, inM (by omega), if_pos (by rw [nI_toInt (by omega)]; omega), bd_r, i10, e5, inM (by omega), if_pos (by rw [nI_toInt (by omega)]; omega), bd_r, i10, in_f (by rw [l32, z64, e1s]; exact hs), bd_r, i00, fX11_ratio_42]
    · have m2 : fX10_isMember 2 q σ = some (0, σ) := isM_no (f := 2) k (by decide) hq
      refine Ok.mk (r := -1000001) (r' := -1000001) (σ1 := σ) (σ2 := σ) ?_ ?_ rfl (fr_r _ σ)
      · rw [fX10_ratio, m1, bd_r, i10, m2, bd_r, i00, fX10_ratio_27]
      · rw [fX11_ratio, e5, inM (by omega), if_pos (by rw [nI_toInt (by omega)]; omega), bd_r, i10, e5, inM (by omega), if_neg hq, bd_r, i00, fX11_ratio_42]
  · have m1 : fX10_isMember 2 p σ = some (0, σ) := isM_no (f := 2) k (by decide) hp
    refine Ok.mk (r := -1000001) (r' := -1000001) (σ1 := σ) (σ2 := σ) ?_ ?_ rfl (fr_r _ σ)
    · rw [fX10_ratio, m1, bd_r, i00, fX10_ratio_27]
    · rw [fX11_ratio, e5, inM (by omega), if_neg hp, bd_r, i00, fX11_ratio_42]
/-! lock: by the least wheels of what hangs together -/
noncomputable def rtD (D : DT) (a : Nat) : Nat := fP (fun x => Con D x a) (dn D 2) 0
def bdL (D : DT) (c : Nat) : Prop := nHd D (sprW D (rtD D (cpA D c))) c
def rtW (D : DT) (x : Nat) : Prop := ∀ y, y < x → ¬ Con D y x
def bL (D : DT) (n c : Nat) : Prop := ∃ x, x < n ∧ rtW D x ∧ nHd D (sprW D x) c
theorem rtD_ok {a : Nat} (ha : a < dn D 2) : rtD D a ≤ a ∧ Con D (rtD D a) a ∧ ∀ y, y < rtD D a → ¬ Con D y a := by
  obtain ⟨h1, h2⟩ := fP_spec (fun x => Con D x a) (dn D 2) 0
  have le : rtD D a ≤ a := Classical.byContradiction fun z => h2 a (by omega) (by unfold rtD at z; omega) (Con.rf a)
  exact ⟨le, h1 (by unfold rtD at le; omega), fun y hy => h2 y (by omega) hy⟩
theorem bL_all (w : WFa D) (v : WFb D) {c : Nat} (hc : c < dn D 3) : bL D (dn D 2) c ↔ bdL D c := by
  obtain ⟨a1, a2, a3, -⟩ := cpAB w v hc
  obtain ⟨r1, r2, r3⟩ := rtD_ok (D := D) a1
  constructor
  · rintro ⟨x, x1, x2, x3⟩
    have cx : Con D x (cpA D c) := ((sprW_ok w v x1).2 _).mp (by rw [x3.1]; decide)
    have : rtD D (cpA D c) = x := by
      rcases Nat.lt_trichotomy (rtD D (cpA D c)) x with y | y | y
      · exact absurd (r2.tr cx.sy) (x2 _ y)
      · exact y
      · exact absurd cx (r3 x y)
    unfold bdL
    rw [this]; exact x3
  · intro h
    exact ⟨rtD D (cpA D c), by omega, fun y hy z => r3 y hy (z.tr r2), h⟩
def stl (σ : gS) (D : DT) (n : Nat) : Prop := ∀ x, x < 16 → σ.1 148 x = cif (∃ y, y < n ∧ Con D y x) 1 0
noncomputable def fst3 (D : DT) (P : Nat → Prop) : Int32 := cif (fP P (dn D 3) 0 < dn D 3) (nI (fP P (dn D 3) 0)) (-1000000)
theorem or01 : vp_nar .boolean ((0 : Int32) ||| 0) = 0 ∧ vp_nar .boolean ((0 : Int32) ||| 1) = 1 ∧ vp_nar .boolean ((1 : Int32) ||| 0) = 1 ∧ vp_nar .boolean ((1 : Int32) ||| 1) = 1 := ⟨rfl, rfl, rfl, rfl⟩
theorem lockC (h4 : t = 4 ∨ t = 16) (w : WFa D) (v : WFb D) (k : CD σ t D) : Wp (fX8_firstLock t σ) (fun r σ' => r = fst3 D (bL D (dn D 2)) ∧ frTw σ σ') := by
  have w4 := w.n4
  -- the loop that marks what is reached, from wheel n
  have key56 : ∀ (n : Nat) (hn : n < dn D 2) (hr : rtW D n) (K : Int32 → Int32 → gS → Option (Int32 × gS)) (Q : Int32 → gS → Prop) (HK : ∀ τ', CD τ' t D → stl τ' D (n + 1) → frTw σ τ' → Wp (K (fst3 D (bL D (n + 1))) (nI (n + 1)) τ') Q) (m i fu : Nat) (τ : gS), i + m = 16 → m < fu → CD τ t D → frTw σ τ → TC τ (sprW D n) → (∀ x, x < 16 → τ.1 148 x = cif (∃ y, y < (if x < i then n + 1 else n) ∧ Con D y x) 1 0) → Wp (fX8_firstLock_56 t K fu (fst3 D (bL D n)) (nI n) (nI i) τ) Q := by
    intro n hn hr K Q HK m
    obtain ⟨G, C⟩ := sprW_ok w v hn
    induction m with
    | zero =>
      intro i fu τ e hf k fr hT hs
      obtain ⟨fu, rfl⟩ : ∃ y, fu = y + 1 := ⟨fu - 1, by omega⟩
      rw [fX8_firstLock_56, if_pos (show 16 ≤ nI i from nI_le (a := 16) (by omega) (by omega))]
      refine wp_bw (fnhC h4 w v G k hT) ?_
      rintro x2 τ1 ⟨e2, t2, fv⟩
      have st : stl τ1 D (n + 1) := fun x hx => by
        rw [(fv 148 x (by decide)).1, hs x hx, if_pos (by omega)]
      have fr1 : frTw σ τ1 := fr.t fv.w.w
      have eB : fP (bL D (n + 1)) (dn D 3) 0 = min (fP (bL D n) (dn D 3) 0) (fP (nHd D (sprW D n)) (dn D 3) 0) := by
        rw [← fP_or]
        refine fP_cg _ _ (fun j _ _ => ⟨?_, ?_⟩)
        · rintro ⟨x, x1, x2, x3⟩
          by_cases q : x = n
          · subst q; exact Or.inr x3
          · exact Or.inl ⟨x, by omega, x2, x3⟩
        · rintro (⟨x, x1, x2, x3⟩ | x3)
          · exact ⟨x, by omega, x2, x3⟩
          · exact ⟨n, by omega, hr, x3⟩
      have go : Wp (K (fst3 D (bL D (n + 1))) (nI (n + 1)) τ1) Q := HK τ1 (fv.w.cd h4 k) st fr1
      have b1 := fP_b (bL D n) (dn D 3) 0
      have b2 := fP_b (nHd D (sprW D n)) (dn D 3) 0
      subst e2
      by_cases q2 : fP (nHd D (sprW D n)) (dn D 3) 0 < dn D 3
      · rw [if_pos q2, if_neg (nI_nN (by omega))]
        by_cases q1 : fP (bL D n) (dn D 3) 0 < dn D 3
        · have ef : fst3 D (bL D n) = nI (fP (bL D n) (dn D 3) 0) := cif_t q1
          rw [ef, if_neg (nI_nN (by omega))]
          by_cases q3 : fP (bL D n) (dn D 3) 0 ≤ fP (nHd D (sprW D n)) (dn D 3) 0
          · rw [if_pos (nI_le q3 (by omega)), fX8_firstLock_123, bnd_r, nI_1]
            have : fst3 D (bL D (n + 1)) = nI (fP (bL D n) (dn D 3) 0) := by
              unfold fst3; rw [eB, Nat.min_eq_left q3, cif_t q1]
            rw [← this]; exact go
          · rw [if_neg (nI_ge (by omega) (by omega)), fX8_firstLock_120, fX8_firstLock_123, bnd_r, nI_1]
            have : fst3 D (bL D (n + 1)) = nI (fP (nHd D (sprW D n)) (dn D 3) 0) := by
              unfold fst3; rw [eB, Nat.min_eq_right (by omega), cif_t q2]
            rw [← this]; exact go
        · have ef : fst3 D (bL D n) = -1000000 := cif_f q1
          rw [ef, if_pos rfl, fX8_firstLock_120, fX8_firstLock_123, bnd_r, nI_1]
          have : fst3 D (bL D (n + 1)) = nI (fP (nHd D (sprW D n)) (dn D 3) 0) := by
            unfold fst3; rw [eB, Nat.min_eq_right (by omega), cif_t q2]
          rw [← this]; exact go
      · rw [if_neg q2, if_pos rfl, fX8_firstLock_123, bnd_r, nI_1]
        have : fst3 D (bL D (n + 1)) = fst3 D (bL D n) := by
          unfold fst3; rw [eB, Nat.min_eq_left (by omega)]
        rw [← this]; exact go
    | succ m ih =>
      intro i fu τ e hf k fr hT hs
      obtain ⟨fu, rfl⟩ : ∃ y, fu = y + 1 := ⟨fu - 1, by omega⟩
      have cli : (nI i).toNatClampNeg = i := nI_clamp (by omega)
      have ti := (hT i (by omega)).1
      have gi := (G i).1
      have si := hs i (by omega)
      rw [if_neg (by omega)] at si
      have go : ∀ (s : Int32), s = cif (∃ y, y < n + 1 ∧ Con D y i) 1 0 → Wp (bnd (gsI τ 148 i s) fun σ2 => bnd (nI i + 1) fun x3 => fX8_firstLock_56 t K fu (fst3 D (bL D n)) (nI n) x3 σ2) Q := by
        intro s es
        rw [bnd_r, bnd_r, nI_1]
        have f2 : frTw τ (gsI τ 148 i s) := fun x y q => sm_I (sm_r τ x y) (by omega) rfl
        refine ih (i + 1) fu _ (by omega) (by omega) (f2.cd h4 k) (fr.t f2) (fun x hx => ?_) (fun x hx => ?_)
        · rw [rI_h (by decide)]
          exact hT x hx
        · by_cases z : x = i
          · subst z
            rw [rI_s, if_pos (by omega)]
            exact es
          · rw [rI_k z, hs x hx]
            by_cases y : x < i
            · rw [if_pos y, if_pos (by omega)]
            · rw [if_neg y, if_neg (by omega)]
      rw [fX8_firstLock_56, if_neg (show ¬ 16 ≤ nI i from nI_ge (b := 16) (by omega) (by decide)), cli, gg_ix (by omega) (by decide), gg_ix (by omega) (by decide), ti]
      obtain ⟨o1, o2, o3, o4⟩ := or01
      by_cases q : (sprW D n).1 i = 0
      · have nc : ¬ Con D n i := fun z => ((C i).mpr z) q
        rw [if_pos (by rw [q]; rfl), fX8_firstLock_86, cli, gg_ix (by omega) (by decide), si]
        by_cases y : ∃ y, y < n ∧ Con D y i
        · rw [cif_t y, o3]
          exact go 1 (by rw [cif_t]; obtain ⟨y, y1, y2⟩ := y; exact ⟨y, by omega, y2⟩)
        · rw [cif_f y, o1]
          refine go 0 ?_
          rw [cif_f]
          rintro ⟨x, x1, x2⟩
          by_cases z : x = n
          · subst z; exact nc x2
          · exact y ⟨x, by omega, x2⟩
      · have yc : Con D n i := (C i).mp q
        rw [if_neg (nI_ne (by omega) (by omega)), fX8_firstLock_86, cli, gg_ix (by omega) (by decide), si]
        have e1 : (1 : Int32) = cif (∃ y, y < n + 1 ∧ Con D y i) 1 0 := by rw [cif_t]; exact ⟨n, by omega, yc⟩
        by_cases y : ∃ y, y < n ∧ Con D y i
        · rw [cif_t y, o4]
          exact go 1 e1
        · rw [cif_f y, o2]
          exact go 1 e1
  have key26 : ∀ (m n fu : Nat) (τ : gS), n + m = dn D 2 → m < fu → CD τ t D → stl τ D n → frTw σ τ → Wp (fX8_firstLock_26 t fu (fst3 D (bL D n)) (nI n) τ) (fun r σ' => r = fst3 D (bL D (dn D 2)) ∧ frTw σ σ') := by
    intro m
    induction m with
    | zero =>
      intro n fu τ e hf k hs fr
      obtain ⟨fu, rfl⟩ : ∃ y, fu = y + 1 := ⟨fu - 1, by omega⟩
      have s2 : fX3_size t 2 τ = some (nI (dn D 2), τ) := sizeD (f := 2) k (by decide)
      have : n = dn D 2 := by omega
      rw [fX8_firstLock_26, s2, bd_r, if_pos (nI_le (by omega) (by omega)), this]
      exact wp_r ⟨rfl, fr⟩
    | succ m ih =>
      intro n fu τ e hf k hs fr
      obtain ⟨fu, rfl⟩ : ∃ y, fu = y + 1 := ⟨fu - 1, by omega⟩
      have s2 : fX3_size t 2 τ = some (nI (dn D 2), τ) := sizeD (f := 2) k (by decide)
      have hn : n < dn D 2 := by omega
      have cln : (nI n).toNatClampNeg = n := nI_clamp (by omega)
      rw [fX8_firstLock_26, s2, bd_r, if_neg (nI_ge (by omega) (by omega)), cln, gg_ix (by omega) (by decide), hs n (by omega)]
      by_cases q : ∃ y, y < n ∧ Con D y n
      · rw [cif_t q, i10, fX8_firstLock_123, bnd_r, nI_1]
        obtain ⟨y0, y1, y2⟩ := q
        have eb : fst3 D (bL D (n + 1)) = fst3 D (bL D n) := by
          unfold fst3
          rw [fP_cg (P := bL D (n + 1)) (Q := bL D n) (dn D 3) 0 (fun j _ _ => ⟨?_, ?_⟩)]
          · rintro ⟨x, x1, x2, x3⟩
            by_cases z : x = n
            · subst z; exact absurd y2 (x2 _ y1)
            · exact ⟨x, by omega, x2, x3⟩
          · rintro ⟨x, x1, x2, x3⟩
            exact ⟨x, by omega, x2, x3⟩
        rw [← eb]
        refine ih (n + 1) fu τ (by omega) (by omega) k (fun x hx => ?_) fr
        rw [hs x hx]
        by_cases z : ∃ y, y < n ∧ Con D y x
        · rw [cif_t z, cif_t]
          obtain ⟨y, z1, z2⟩ := z
          exact ⟨y, by omega, z2⟩
        · rw [cif_f z, cif_f]
          rintro ⟨y, z1, z2⟩
          by_cases yy : y = n
          · subst yy; exact z ⟨y0, y1, y2.tr z2⟩
          · exact z ⟨y, by omega, z2⟩
      · have hr : rtW D n := fun y hy z => q ⟨y, hy, z⟩
        rw [cif_f q, i00]
        refine wp_bw (sprC h4 w v k hn) ?_
        rintro _ τ1 ⟨t1, f1⟩
        have f1' : ∀ x, τ1.1 148 x = τ.1 148 x := fun x => (f1 148 x (by omega)).1
        refine key56 n hn hr _ _ (fun τ' c1 c2 c3 => ih (n + 1) fu τ' (by omega) (by omega) c1 c2 c3) 16 0 2000 τ1 (by omega) (by omega) (f1.cd h4 k) (fr.t f1.w) t1 (fun x hx => ?_)
        rw [if_neg (by omega), f1' x]
        exact hs x hx
  have key5 : ∀ (m i fu : Nat) (τ : gS), i + m = 16 → m < fu → CD τ t D → frTw σ τ → (∀ x, x < i → τ.1 148 x = 0) → Wp (fX8_firstLock_5 t fu (-1000000) (nI i) τ) (fun r σ' => r = fst3 D (bL D (dn D 2)) ∧ frTw σ σ') := by
    intro m
    induction m with
    | zero =>
      intro i fu τ e hf k fr hx
      obtain ⟨fu, rfl⟩ : ∃ y, fu = y + 1 := ⟨fu - 1, by omega⟩
      rw [fX8_firstLock_5, if_pos (show 16 ≤ nI i from nI_le (a := 16) (by omega) (by omega))]
      have n0 : ∀ c, ¬ bL D 0 c := fun c ⟨x, x1, _⟩ => absurd x1 (Nat.not_lt_zero x)
      have e0 : fst3 D (bL D 0) = -1000000 := by
        refine cif_f (fun z => ?_)
        exact n0 _ ((fP_spec (bL D 0) (dn D 3) 0).1 (by omega))
      have := key26 (dn D 2) 0 2000 τ (by omega) (by omega) k (fun x hxx => by
        rw [hx x (by omega), cif_f (fun ⟨y, y1, _⟩ => absurd y1 (Nat.not_lt_zero y))]) fr
      rw [e0] at this
      exact this
    | succ m ih =>
      intro i fu τ e hf k fr hx
      obtain ⟨fu, rfl⟩ : ∃ y, fu = y + 1 := ⟨fu - 1, by omega⟩
      have cli : (nI i).toNatClampNeg = i := nI_clamp (by omega)
      rw [fX8_firstLock_5, if_neg (show ¬ 16 ≤ nI i from nI_ge (b := 16) (by omega) (by decide)), cli, gg_ix (by omega) (by decide), bnd_r, bnd_r, nI_1]
      have f2 : frTw τ (gsI τ 148 i (vp_nar .boolean 0)) := fun x y q => sm_I (sm_r τ x y) (by omega) rfl
      refine ih (i + 1) fu _ (by omega) (by omega) (f2.cd h4 k) (fr.t f2) (fun x h1 => ?_)
      by_cases z : x = i
      · subst z; rw [rI_s]; rfl
      · rw [rI_k z]; exact hx x (by omega)
  rw [fX8_firstLock]
  exact key5 16 0 2000 σ (by omega) (by omega) k (fun x y _ => sm_r σ x y) (fun x h => absurd h (Nat.not_lt_zero x))
theorem lockR (w : WFa D) (v : WFb D) (k : RD0 σ D) : Wp (fX11_lock σ) (fun r σ' => r = fst3 D (bdL D) ∧ frTu σ σ') := by
  have w4 := w.n4
  have key : ∀ (m i fu : Nat) (τ : gS), i + m = dn D 3 → m < fu → RD0 τ D → frTu σ τ → Wp (fX11_lock_2 fu (nI i) τ) (fun r σ' => r = cif (fP (bdL D) m i < dn D 3) (nI (fP (bdL D) m i)) (-1000000) ∧ frTu σ σ') := by
    intro m
    induction m with
    | zero =>
      intro i fu τ e hf k fr
      obtain ⟨fu, rfl⟩ : ∃ y, fu = y + 1 := ⟨fu - 1, by omega⟩
      have e12 : τ.1 168 12 = nI (dn D 3) := k.1 3 (by decide)
      rw [fX11_lock_2, e12, if_pos (nI_le (by omega) (by omega)), fP, cif_f (by omega)]
      exact wp_r ⟨rfl, fr⟩
    | succ m ih =>
      intro i fu τ e hf k fr
      obtain ⟨fu, rfl⟩ : ∃ y, fu = y + 1 := ⟨fu - 1, by omega⟩
      have e12 : τ.1 168 12 = nI (dn D 3) := k.1 3 (by decide)
      have hi : i < dn D 3 := by omega
      obtain ⟨a1, a2, a3, a4, a5, a6, a7⟩ := cpAB w v hi
      obtain ⟨r1, r2, r3⟩ := rtD_ok (D := D) a1
      have eA : τ.1 179 i = nI (cpA D i) := ((k.2.2.2.1 3 i (by decide) hi).1).trans a4
      have cli : (nI i).toNatClampNeg = i := nI_clamp (by omega)
      have clA : (nI (cpA D i)).toNatClampNeg = cpA D i := nI_clamp (by omega)
      have clB : (nI (cpB D i)).toNatClampNeg = cpB D i := nI_clamp (by omega)
      have loop : ∀ (j n gu : Nat) (υ : gS), n + j = rtD D (cpA D i) → j < gu → RD0 υ D → frTu σ υ → TR υ D (sprW D n) → Wp (fX11_lock_24 (fun v1 σ => fX11_lock_2 fu v1 σ) gu (nI i) (nI (cpA D i)) (nI n) υ) (fun r σ' => r = cif (fP (bdL D) (m + 1) i < dn D 3) (nI (fP (bdL D) (m + 1) i)) (-1000000) ∧ frTu σ σ') := by
        intro j
        induction j with
        | zero =>
          intro n gu υ e hg k fr hT
          obtain ⟨gu, rfl⟩ : ∃ y, gu = y + 1 := ⟨gu - 1, by omega⟩
          have en : n = rtD D (cpA D i) := by omega
          have hn : n < dn D 2 := by omega
          obtain ⟨G, C⟩ := sprW_ok w v hn
          have nz : (sprW D n).1 (cpA D i) ≠ 0 := (C _).mpr (by rw [en]; exact r2)
          have gA := G (cpA D i)
          have gB := G (cpB D i)
          have tA := hT (cpA D i) a1
          have tB := hT (cpB D i) a2
          have eB : υ.1 180 i = nI (cpB D i) := ((k.2.2.2.1 3 i (by decide) hi).2).trans a5
          have nx : ∀ υ' : gS, RD0 υ' D → frTu σ υ' → ¬ bdL D i → Wp (fX11_lock_113 (fun v1 σ => fX11_lock_2 fu v1 σ) (nI i) υ') (fun r σ' => r = cif (fP (bdL D) (m + 1) i < dn D 3) (nI (fP (bdL D) (m + 1) i)) (-1000000) ∧ frTu σ σ') := by
            intro υ' k' fr' z
            rw [fX11_lock_113, bnd_r, nI_1, fP, cif_f z]
            exact ih (i + 1) fu υ' (by omega) (by omega) k' fr'
          have fd : ∀ υ' : gS, frTu σ υ' → bdL D i → Wp (fX11_lock_111 (nI i) υ') (fun r σ' => r = cif (fP (bdL D) (m + 1) i < dn D 3) (nI (fP (bdL D) (m + 1) i)) (-1000000) ∧ frTu σ σ') := by
            intro υ' fr' z
            rw [fX11_lock_111, fP, cif_t z, cif_t hi]
            exact wp_r ⟨rfl, fr'⟩
          have eb : bdL D i = nHd D (sprW D n) i := by unfold bdL; rw [← en]
          rw [eb] at nx fd
          rw [fX11_lock_24, clA, gg_ix (by omega) (by decide), tA.1, if_neg (nI_ne (by omega) (by omega)), cli, gg_ix (by omega) (by decide), gg_ix (by omega) (by decide)]
          by_cases qA : (sprW D n).1 (cpA D i) = 1
          · rw [if_pos (by rw [qA]; rfl), eB, clB, gg_ix (by omega) (by decide), tB.1]
            by_cases qB : (sprW D n).1 (cpB D i) = 1
            · rw [if_pos (by rw [qB]; rfl)]
              refine wp_bw (rbR w v k hi a1 a2 (tA.2 qA).1 (tA.2 qA).2 (gA.2.2 qA)) ?_
              rintro _ υ1 ⟨⟨c1, c2⟩, fv⟩
              have b1 : υ1.2.1 225 (cpB D i) = _ := (fv 225 (cpB D i) (by omega)).2.1.trans (tB.2 qB).1
              have b2 : υ1.2.1 226 (cpB D i) = _ := (fv 226 (cpB D i) (by omega)).2.1.trans (tB.2 qB).2
              rw [gg_ix (by omega) (by decide), c1, b1]
              by_cases z1 : crU D i (cpA D i) (cpB D i) ((sprW D n).2.1 (cpA D i)) ((sprW D n).2.2 (cpA D i)) = (sprW D n).2.1 (cpB D i)
              · rw [if_pos (cmp_eq.mpr z1), gg_ix (by omega) (by decide), c2, b2]
                by_cases z2 : crL D i (cpA D i) (cpB D i) ((sprW D n).2.1 (cpA D i)) ((sprW D n).2.2 (cpA D i)) = (sprW D n).2.2 (cpB D i)
                · rw [if_pos (cmp_eq.mpr z2)]
                  exact nx υ1 (fv.w.rd k) (fr.t fv.w) (fun z => z.2.2 ⟨z1, z2⟩)
                · rw [if_neg (mt cmp_eq.mp z2)]
                  exact fd υ1 (fr.t fv.w) ⟨qA, qB, fun z => z2 z.2⟩
              · rw [if_neg (mt cmp_eq.mp z1)]
                exact fd υ1 (fr.t fv.w) ⟨qA, qB, fun z => z1 z.1⟩
            · rw [if_neg (nI_neq (x := 1) (k := 1) rfl (by omega) (by decide) qB)]
              exact nx υ k fr (fun z => qB z.2.1)
          · rw [if_neg (nI_neq (x := 1) (k := 1) rfl (by omega) (by decide) qA)]
            exact nx υ k fr (fun z => qA z.1)
        | succ j ihj =>
          intro n gu υ e hg k fr hT
          obtain ⟨gu, rfl⟩ : ∃ y, gu = y + 1 := ⟨gu - 1, by omega⟩
          have hn : n < dn D 2 := by omega
          obtain ⟨G, C⟩ := sprW_ok w v hn
          have z0 : (sprW D n).1 (cpA D i) = 0 := Classical.byContradiction fun z => r3 n (by omega) ((C _).mp z)
          rw [fX11_lock_24, clA, gg_ix (by omega) (by decide), (hT (cpA D i) a1).1, if_pos (by rw [z0]; rfl), bnd_r, nI_1]
          refine wp_bw (sprR w v k (show n + 1 < dn D 2 by omega)) ?_
          rintro _ υ1 ⟨t1, f1⟩
          exact ihj (n + 1) gu υ1 (by omega) (by omega) (f1.rd k) (fr.t f1) t1
      rw [fX11_lock_2, e12, if_neg (nI_ge (by omega) (by omega)), cli, gg_ix (by omega) (by decide), eA]
      refine wp_bw (sprR (a := 0) w v k (by omega)) ?_
      rintro _ υ1 ⟨t1, f1⟩
      exact loop (rtD D (cpA D i)) 0 2000 υ1 (by omega) (by omega) (f1.rd k) (fr.t f1) t1
  rw [fX11_lock]
  exact key (dn D 3) 0 2000 σ (by omega) (by omega) k (frTu.r σ)
theorem lock_eq (h : LkD σ t D) : Ok (fX10_lock σ) (fX11_lock) (fun σ' => Fr pXt σ σ') := by
  obtain ⟨h4, h1, h2, w, v, c, r⟩ := h
  refine wp_ok ?_
  rw [fX10_lock, bnd_r, h1, gg_t h4]
  refine wp_bw (lockC h4 w v c) ?_
  rintro r1 σ1 ⟨e1, f1⟩
  refine wp_r (wp_m (lockR w v (f1.rd r)) ?_)
  rintro r2 σ2 ⟨e2, f2⟩
  refine ⟨?_, frT_F f1 f2⟩
  rw [e2, e1]
  unfold fst3
  rw [fP_cg (P := bL D (dn D 2)) (Q := bdL D) (dn D 3) 0 (fun j _ hj => bL_all w v (by omega))]
end PUB3

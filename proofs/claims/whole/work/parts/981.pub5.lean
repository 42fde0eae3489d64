section CUR
variable {σ : gS}
theorem curve_eq (hI : ICu σ) (p q : Int32) : Ok (fX10_curve p q σ) (fX11_curve p q) (fun σ' => σ' = σ) := by
  by_cases hp : 0 ≤ p.toInt ∧ p.toInt < 256
  · obtain ⟨s, hs, rfl⟩ := nI_get (n := 256) hp.1 hp.2 (by omega)
    have cls : (nI s).toNatClampNeg = s := nI_clamp (by omega)
    by_cases hq : 0 ≤ q.toInt ∧ q.toInt ≤ 1
    · rcases hI with ⟨i1, i2⟩ | ⟨i1, i2, i3⟩
      · refine Ok.mk (r := -1000002) (r' := -1000002) (σ1 := σ) (σ2 := σ) ?_ ?_ rfl rfl
        · rw [fX10_curve, stepC, if_pos hp, bd_r, i10, axisC, bd_r, if_pos hq, i10, i1, i00]
        · rw [fX11_curve, stepM, if_pos hp, bd_r, i10, ax01, if_pos hq, bd_r, i10, i2, if_neg (by decide), fX11_curve_45]
      · have j0 : 0 ≤ σ.1 168 85 := le32.mpr (by have := mt lt32.mpr i2; rw [z32] at this ⊢; omega)
        obtain ⟨o, h01, o1, o2, o3⟩ := i3 s hs
        rcases h01 with rfl | rfl
        · refine Ok.mk (r := -1000000) (r' := -1000000) (σ1 := σ) (σ2 := σ) ?_ ?_ rfl rfl
          · rw [fX10_curve, stepC, if_pos hp, bd_r, i10, axisC, bd_r, if_pos hq, i10, i1, i10, cls, gg_ix (by omega) (by decide), o1, if_pos (show nI 0 = 0 from rfl), fX10_curve_60]
          · rw [fX11_curve, stepM, if_pos hp, bd_r, i10, ax01, if_pos hq, bd_r, i10, if_pos j0, fX11_curveAt, cls, gg_ix (by omega) (by decide), o2, if_pos (show nI 0 = 0 from rfl), fX11_curveAt_34, bd_r, fX11_curve_45]
        · obtain ⟨c1, c2, -, -⟩ := o3 rfl
          by_cases q0 : q = 0
          · refine Ok.mk (r := σ.2.1 137 s) (r' := σ.2.1 137 s) (σ1 := σ) (σ2 := σ) ?_ ?_ rfl rfl
            · rw [fX10_curve, stepC, if_pos hp, bd_r, i10, axisC, bd_r, if_pos hq, i10, i1, i10, cls, gg_ix (by omega) (by decide), o1, if_neg (by decide), fX2_valuesOf, if_pos q0, fX2_valuesOf_15, bd_r, gg_t (Or.inl rfl), gg_ix (by omega) (by decide), fX10_curve_60]
            · rw [fX11_curve, stepM, if_pos hp, bd_r, i10, ax01, if_pos hq, bd_r, i10, if_pos j0, fX11_curveAt, cls, gg_ix (by omega) (by decide), o2, if_neg (by decide), if_pos q0, gg_ix (by omega) (by decide), fX11_curveAt_34, bd_r, fX11_curve_45, c1]
          · refine Ok.mk (r := σ.2.1 138 s) (r' := σ.2.1 138 s) (σ1 := σ) (σ2 := σ) ?_ ?_ rfl rfl
            · rw [fX10_curve, stepC, if_pos hp, bd_r, i10, axisC, bd_r, if_pos hq, i10, i1, i10, cls, gg_ix (by omega) (by decide), o1, if_neg (by decide), fX2_valuesOf, if_neg q0, fX2_valuesOf_15, bd_r, gg_t (Or.inr rfl), gg_ix (by omega) (by decide), fX10_curve_60]
            · rw [fX11_curve, stepM, if_pos hp, bd_r, i10, ax01, if_pos hq, bd_r, i10, if_pos j0, fX11_curveAt, cls, gg_ix (by omega) (by decide), o2, if_neg (by decide), if_neg q0, gg_ix (by omega) (by decide), fX11_curveAt_34, bd_r, fX11_curve_45, c2]
    · refine Ok.mk (r := -1000001) (r' := -1000001) (σ1 := σ) (σ2 := σ) ?_ ?_ rfl rfl
      · rw [fX10_curve, stepC, if_pos hp, bd_r, i10, axisC, bd_r, if_neg hq, i00, fX10_curve_14]
      · rw [fX11_curve, stepM, if_pos hp, bd_r, i10, ax01, if_neg hq, bd_r, i00, fX11_curve_22]
  · refine Ok.mk (r := -1000001) (r' := -1000001) (σ1 := σ) (σ2 := σ) ?_ ?_ rfl rfl
    · rw [fX10_curve, stepC, if_neg hp, bd_r, i00, fX10_curve_14]
    · rw [fX11_curve, stepM, if_neg hp, bd_r, i00, fX11_curve_22]
/-- THE CURVE as both hold it -/
def CuD (σ : gS) (o : Nat → Nat) (X Y : Nat → Int64) : Prop := ∀ s, s < 256 → (o s = 0 ∨ o s = 1) ∧ σ.1 139 s = nI (o s) ∧ σ.1 224 s = nI (o s) ∧ (o s = 1 → σ.2.1 137 s = X s ∧ σ.2.1 222 s = X s ∧ σ.2.1 138 s = Y s ∧ σ.2.1 223 s = Y s ∧ (X s).toInt.natAbs ≤ 100000000 ∧ (Y s).toInt.natAbs ≤ 100000000)
theorem ICu.dat (h : ∀ s, s < 256 → ∃ o : Nat, (o = 0 ∨ o = 1) ∧ σ.1 139 s = nI o ∧ σ.1 224 s = nI o ∧ (o = 1 → σ.2.1 137 s = σ.2.1 222 s ∧ σ.2.1 138 s = σ.2.1 223 s ∧ (σ.2.1 137 s).toInt.natAbs ≤ 100000000 ∧ (σ.2.1 138 s).toInt.natAbs ≤ 100000000)) : ∃ o, CuD σ o (σ.2.1 137) (σ.2.1 138) := by
  refine ⟨fun s => (σ.1 139 s).toInt.toNat, fun s hs => ?_⟩
  obtain ⟨o, h1, h2, h3, h4⟩ := h s hs
  have e : (σ.1 139 s).toInt.toNat = o := by rw [h2, nI_toInt (by omega)]; omega
  show ((σ.1 139 s).toInt.toNat = 0 ∨ (σ.1 139 s).toInt.toNat = 1) ∧ σ.1 139 s = nI (σ.1 139 s).toInt.toNat ∧ σ.1 224 s = nI (σ.1 139 s).toInt.toNat ∧ ((σ.1 139 s).toInt.toNat = 1 → _)
  rw [e]
  refine ⟨h1, h2, h3, fun z => ?_⟩
  obtain ⟨a, b, c, d⟩ := h4 z
  exact ⟨rfl, a.symm, rfl, b.symm, c, d⟩
/-- how often it begins -/
def bgN (o : Nat → Nat) (n : Nat) : Nat := sN (fun s => if o s = 1 ∧ o ((s + 255) % 256) = 0 then 1 else 0) n
/-- the farthest yet -/
def frsT (o : Nat → Nat) (V : Nat → Int64) (w : Int) : Nat → Option Nat
  | 0 => none
  | n + 1 => match frsT o V w n with
    | none => if o n = 1 then some n else none
    | some b => if o n = 1 ∧ w * (V b).toInt < w * (V n).toInt then some n else some b
def eO (b : Option Nat) : Int32 := match b with
  | none => -1000000
  | some b => nI b
theorem frsT_b {o : Nat → Nat} {V : Nat → Int64} {w : Int} : ∀ (n b : Nat), frsT o V w n = some b → b < n ∧ o b = 1
  | 0, b, h => by rw [frsT] at h; exact absurd h (by simp)
  | n + 1, b, h => by
    rw [frsT] at h
    rcases q : frsT o V w n with _ | c
    · rw [q] at h
      by_cases z : o n = 1
      · simp only [if_pos z] at h
        have := Option.some.inj h
        exact ⟨by omega, by rw [← this]; exact z⟩
      · simp only [if_neg z] at h
        exact absurd h (by simp)
    · rw [q] at h
      have ih := frsT_b n c q
      by_cases z : o n = 1 ∧ w * (V c).toInt < w * (V n).toInt
      · simp only [if_pos z] at h
        have := Option.some.inj h
        exact ⟨by omega, by rw [← this]; exact z.1⟩
      · simp only [if_neg z] at h
        have := Option.some.inj h
        exact ⟨by omega, by rw [← this]; exact ih.2⟩
theorem frsT_n {o : Nat → Nat} {V : Nat → Int64} {w : Int} {i : Nat} (q : frsT o V w i = none) : frsT o V w (i + 1) = if o i = 1 then some i else none := by rw [frsT, q]
theorem frsT_s {o : Nat → Nat} {V : Nat → Int64} {w : Int} {i b : Nat} (q : frsT o V w i = some b) : frsT o V w (i + 1) = if o i = 1 ∧ w * (V b).toInt < w * (V i).toInt then some i else some b := by rw [frsT, q]
section TOLD
variable {o : Nat → Nat} {X Y : Nat → Int64}
theorem begCu (h : CuD σ o X Y) : fX2_beginnings σ = some (nI (bgN o 256), σ) := by
  have key : ∀ (m i fu : Nat), i + m = 256 → m < fu → fX2_beginnings_13 fu (nI (bgN o i)) (nI (o ((i + 255) % 256))) (nI i) σ = some (nI (bgN o 256), σ) := by
    intro m
    induction m with
    | zero =>
      intro i fu e hf
      obtain ⟨fu, rfl⟩ : ∃ y, fu = y + 1 := ⟨fu - 1, by omega⟩
      have : i = 256 := by omega
      rw [fX2_beginnings_13, if_pos (show 256 ≤ nI i from nI_le (a := 256) (by omega) (by omega)), this]
    | succ m ih =>
      intro i fu e hf
      obtain ⟨fu, rfl⟩ : ∃ y, fu = y + 1 := ⟨fu - 1, by omega⟩
      obtain ⟨h01, h1, h2, -⟩ := h i (by omega)
      have cli : (nI i).toNatClampNeg = i := nI_clamp (by omega)
      have st : bgN o (i + 1) = bgN o i + (if o i = 1 ∧ o ((i + 255) % 256) = 0 then 1 else 0) := rfl
      have p01 := (h ((i + 255) % 256) (Nat.mod_lt _ (by decide))).1
      have em : (i + 1 + 255) % 256 = i := by omega
      have nx := ih (i + 1) fu (by omega) (by omega)
      rw [em] at nx
      rw [fX2_beginnings_13, if_neg (show ¬ 256 ≤ nI i from nI_ge (b := 256) (by omega) (by decide)), cli, gg_ix (by omega) (by decide), h1]
      by_cases q : o i = 0
      · rw [if_neg (fun z => by omega)] at st
        have st : bgN o (i + 1) = bgN o i := st
        rw [if_pos (by rw [q]; rfl), fX2_beginnings_36, cli, gg_ix (by omega) (by decide), bnd_r, nI_1, h1, ← st]
        exact nx
      · rw [if_neg (nI_ne (by omega) (by omega))]
        by_cases q2 : o ((i + 255) % 256) = 0
        · rw [if_pos ⟨by omega, q2⟩] at st
          rw [if_pos (by rw [q2]; rfl), bnd_r, fX2_beginnings_36, cli, gg_ix (by omega) (by decide), bnd_r, nI_1, nI_1, h1, ← st]
          exact nx
        · rw [if_neg (fun z => q2 z.2)] at st
          have st : bgN o (i + 1) = bgN o i := st
          rw [if_neg (nI_ne (by omega) (by omega)), fX2_beginnings_36, cli, gg_ix (by omega) (by decide), bnd_r, nI_1, h1, ← st]
          exact nx
  have e0 := (h 255 (by decide)).2.1
  rw [fX2_beginnings, show (255 : Int32).toNatClampNeg = 255 from rfl, e0]
  exact key 256 0 2000 (by omega) (by omega)
theorem farC (h : CuD σ o X Y) {V : Nat → Int64} {hv : Nat} {p1 p2 : Int32} (hhv : hv = 137 ∨ hv = 138) (hV : ∀ s, s < 256 → o s = 1 → σ.2.1 hv s = V s ∧ (V s).toInt.natAbs ≤ 100000000) (h2 : p2 = 1 ∨ p2 = -1) : fX2_firstFarthest_13 p1 p2 2000 hv (-1000000) 0 σ = some (eO (frsT o V p2.toInt 256), σ) := by
  have pv : ∀ x : Int64, x.toInt.natAbs ≤ 100000000 → (p2.toInt64 * x).toInt = p2.toInt * x.toInt := fun x hx => by
    rcases h2 with rfl | rfl
    · rw [show (1 : Int32).toInt64 = 1 from rfl, Int64.one_mul, show (1 : Int32).toInt = 1 from rfl, Int.one_mul]
    · rw [show (-1 : Int32).toInt64 = -1 from rfl, Int64.neg_mul, Int64.one_mul, neg64 (by omega), show (-1 : Int32).toInt = -1 from rfl]; omega
  have key : ∀ (m i fu : Nat), i + m = 256 → m < fu → fX2_firstFarthest_13 p1 p2 fu hv (eO (frsT o V p2.toInt i)) (nI i) σ = some (eO (frsT o V p2.toInt 256), σ) := by
    intro m
    induction m with
    | zero =>
      intro i fu e hf
      obtain ⟨fu, rfl⟩ : ∃ y, fu = y + 1 := ⟨fu - 1, by omega⟩
      have : i = 256 := by omega
      rw [fX2_firstFarthest_13, if_pos (show 256 ≤ nI i from nI_le (a := 256) (by omega) (by omega)), this]
    | succ m ih =>
      intro i fu e hf
      obtain ⟨fu, rfl⟩ : ∃ y, fu = y + 1 := ⟨fu - 1, by omega⟩
      have hi : i < 256 := by omega
      obtain ⟨h01, h1, -, -⟩ := h i hi
      have cli : (nI i).toNatClampNeg = i := nI_clamp (by omega)
      have nx := ih (i + 1) fu (by omega) (by omega)
      rw [fX2_firstFarthest_13, if_neg (show ¬ 256 ≤ nI i from nI_ge (b := 256) (by omega) (by decide)), cli, gg_ix (by omega) (by decide), h1]
      rcases q : frsT o V p2.toInt i with _ | b
      · have st := frsT_n q
        by_cases z : o i = 0
        · rw [if_neg (by omega)] at st
          rw [if_pos (by rw [z]; rfl), fX2_firstFarthest_60, bnd_r, nI_1]
          rw [st] at nx
          exact nx
        · rw [if_pos (by omega)] at st
          rw [if_neg (nI_ne (by omega) (by omega)), if_pos (show eO none = -1000000 from rfl), fX2_firstFarthest_56, fX2_firstFarthest_60, bnd_r, nI_1]
          rw [st] at nx
          exact nx
      · obtain ⟨b1, b2⟩ := frsT_b i b q
        have st := frsT_s q
        by_cases z : o i = 0
        · rw [if_neg (by omega)] at st
          rw [if_pos (by rw [z]; rfl), fX2_firstFarthest_60, bnd_r, nI_1]
          rw [st] at nx
          exact nx
        · obtain ⟨v1, v2⟩ := hV i hi (by omega)
          obtain ⟨v3, v4⟩ := hV b (by omega) b2
          rw [if_neg (nI_ne (by omega) (by omega)), show eO (some b) = nI b from rfl, if_neg (nI_nN (by omega)), gg_t hhv, gg_ix (by omega) (by decide), gg_t hhv, nI_clamp (show b < 2 ^ 31 by omega), gg_ix (by omega) (by decide), v1, v3]
          by_cases y : p2.toInt * (V b).toInt < p2.toInt * (V i).toInt
          · rw [if_pos ⟨by omega, y⟩] at st
            rw [if_neg (fun zz => by have := cmp_le0.mp zz; rw [pv _ v2, pv _ v4] at this; omega), fX2_firstFarthest_56, fX2_firstFarthest_60, bnd_r, nI_1]
            rw [st] at nx
            exact nx
          · rw [if_neg (fun zz => y zz.2)] at st
            rw [if_pos (cmp_le0.mpr (by rw [pv _ v2, pv _ v4]; omega)), fX2_firstFarthest_60, bnd_r, nI_1]
            rw [st] at nx
            exact nx
  exact key 256 0 2000 (by omega) (by omega)
theorem atR (h : CuD σ o X Y) {s : Nat} (hs : s < 256) (ho : o s = 1) (ax : Int32) : fX11_curveAt (nI s) ax σ = some (if ax = 0 then X s else Y s, σ) := by
  obtain ⟨-, -, h2, h3⟩ := h s hs
  obtain ⟨-, h5, -, h6, -⟩ := h3 ho
  have cls : (nI s).toNatClampNeg = s := nI_clamp (by omega)
  rw [fX11_curveAt, cls, gg_ix (by omega) (by decide), h2, if_neg (nI_ne (by omega) (by omega))]
  by_cases q : ax = 0
  · rw [if_pos q, gg_ix (by omega) (by decide), h5, fX11_curveAt_34, if_pos q]
  · rw [if_neg q, gg_ix (by omega) (by decide), h6, fX11_curveAt_34, if_neg q]
/-- what the reference tells: p is 0 .. 4 -/
theorem tolR (h : CuD σ o X Y) {p : Nat} (hp : p ≤ 4) {ax : Int32} {V : Nat → Int64} (hV : V = fun s => if ax = 0 then X s else Y s) {wy : Int} (hw : (p % 2 = 1 ∧ wy = -1) ∨ (p % 2 = 0 ∧ wy = 1)) : fX11_told_46 (nI p) 2000 0 (-1000000) ax 0 σ = some (if p = 0 then nI (bgN o 256) else eO (frsT o V wy 256), σ) := by
  have pr : nI p - nI p / 2 * 2 = nI (p % 2) := pk_rem (d := 2) (by omega) (by decide) (by decide)
  have key : ∀ (m i fu : Nat), i + m = 256 → m < fu → fX11_told_46 (nI p) fu (nI (bgN o i)) (eO (frsT o V wy i)) ax (nI i) σ = some (if p = 0 then nI (bgN o 256) else eO (frsT o V wy 256), σ) := by
    intro m
    induction m with
    | zero =>
      intro i fu e hf
      obtain ⟨fu, rfl⟩ : ∃ y, fu = y + 1 := ⟨fu - 1, by omega⟩
      have : i = 256 := by omega
      subst this
      rw [fX11_told_46, if_pos (show 256 ≤ nI 256 from nI_le (a := 256) (by omega) (by omega))]
      by_cases q : p = 0
      · rw [if_pos (show nI p = 0 by rw [q]; rfl), if_pos q, fX11_told_194]
      · rw [if_neg (show ¬ nI p = 0 from nI_ne (by omega) (by omega)), if_neg q, fX11_told_194]
    | succ m ih =>
      intro i fu e hf
      obtain ⟨fu, rfl⟩ : ∃ y, fu = y + 1 := ⟨fu - 1, by omega⟩
      have hi : i < 256 := by omega
      obtain ⟨h01, -, h2, -⟩ := h i hi
      obtain ⟨p01, -, ph2, -⟩ := h ((i + 255) % 256) (Nat.mod_lt _ (by decide))
      have cli : (nI i).toNatClampNeg = i := nI_clamp (by omega)
      have nx := ih (i + 1) fu (by omega) (by omega)
      have stb : bgN o (i + 1) = bgN o i + (if o i = 1 ∧ o ((i + 255) % 256) = 0 then 1 else 0) := rfl
      have body : ∀ d : Nat, bgN o (i + 1) = bgN o i + d → fX11_told_88 (nI p) (fun v2 v3 v4 v5 σ => fX11_told_46 (nI p) fu v2 v3 v4 v5 σ) (eO (frsT o V wy i)) ax (nI i) (nI (bgN o i)) (nI d) σ = some (if p = 0 then nI (bgN o 256) else eO (frsT o V wy 256), σ) := by
        intro d hd
        rw [fX11_told_88, bnd_r, nI_add, ← hd, cli, gg_ix (by omega) (by decide), h2]
        rcases q : frsT o V wy i with _ | b
        · have stf := frsT_n q
          by_cases z : o i = 0
          · rw [if_neg (by omega)] at stf
            rw [if_pos (show nI (o i) = 0 by rw [z]; rfl), fX11_told_179, bnd_r, nI_1]
            rw [stf] at nx
            exact nx
          · rw [if_pos (by omega)] at stf
            rw [if_neg (show ¬ nI (o i) = 0 from nI_ne (by omega) (by omega)), atR h hi (by omega), bd_r, if_pos (show eO none = -1000000 from rfl), fX11_told_121, if_neg (by decide), fX11_told_139, if_neg (by decide), fX11_told_172, fX11_told_178, fX11_told_179, bnd_r, nI_1]
            rw [stf] at nx
            exact nx
        · obtain ⟨b1, b2⟩ := frsT_b i b q
          have stf := frsT_s q
          by_cases z : o i = 0
          · rw [if_neg (by omega)] at stf
            rw [if_pos (show nI (o i) = 0 by rw [z]; rfl), fX11_told_179, bnd_r, nI_1]
            rw [stf] at nx
            exact nx
          · have eVi : V i = (if ax = 0 then X i else Y i) := by rw [hV]
            have eVb : V b = (if ax = 0 then X b else Y b) := by rw [hV]
            rw [if_neg (show ¬ nI (o i) = 0 from nI_ne (by omega) (by omega)), atR h hi (by omega), bd_r, show eO (some b) = nI b from rfl, if_neg (show ¬ nI b = -1000000 from nI_nN (by omega)), fX11_told_121, if_pos rfl, atR h (show b < 256 by omega) b2, bd_r, fX11_told_139, if_pos rfl, pr, ← eVi, ← eVb]
            rcases hw with ⟨po, rfl⟩ | ⟨po, rfl⟩
            · rw [if_pos (show nI (p % 2) = 1 by rw [po]; rfl)]
              by_cases y : (V b).toInt ≤ (V i).toInt
              · rw [if_neg (fun zz => by have := zz.2; omega)] at stf
                rw [if_pos (show 0 ≤ lg_cmp (V i) (V b) from cmp_ge0.mpr (le64.mpr y)), fX11_told_177, fX11_told_178, fX11_told_179, bnd_r, nI_1]
                rw [stf] at nx
                exact nx
              · rw [if_pos ⟨by omega, by omega⟩] at stf
                rw [if_neg (show ¬ 0 ≤ lg_cmp (V i) (V b) from fun zz => y (le64.mp (cmp_ge0.mp zz))), fX11_told_172, fX11_told_178, fX11_told_179, bnd_r, nI_1]
                rw [stf] at nx
                exact nx
            · rw [if_neg (show ¬ nI (p % 2) = 1 by rw [po]; decide)]
              by_cases y : (V i).toInt ≤ (V b).toInt
              · rw [if_neg (fun zz => by have := zz.2; omega)] at stf
                rw [if_pos (show lg_cmp (V i) (V b) ≤ 0 from cmp_le0.mpr y), fX11_told_177, fX11_told_178, fX11_told_179, bnd_r, nI_1]
                rw [stf] at nx
                exact nx
              · rw [if_pos ⟨by omega, by omega⟩] at stf
                rw [if_neg (show ¬ lg_cmp (V i) (V b) ≤ 0 from fun zz => y (cmp_le0.mp zz)), fX11_told_172, fX11_told_178, fX11_told_179, bnd_r, nI_1]
                rw [stf] at nx
                exact nx
      rw [fX11_told_46, if_neg (show ¬ 256 ≤ nI i from nI_ge (b := 256) (by omega) (by decide)), cli, gg_ix (by omega) (by decide), h2]
      by_cases z : o i = 0
      · rw [if_neg (fun zz => by omega)] at stb
        rw [if_pos (show nI (o i) = 0 by rw [z]; rfl), fX11_told_87]
        exact body 0 stb
      · have ei : nI i + 255 - (nI i + 255) / 256 * 256 = nI ((i + 255) % 256) := by
          rw [show (255 : Int32) = nI 255 from rfl, nI_add]
          exact pk_rem (d := 256) (by omega) (by decide) (by decide)
        have ml : (i + 255) % 256 < 256 := Nat.mod_lt _ (by decide)
        rw [if_neg (show ¬ nI (o i) = 0 from nI_ne (by omega) (by omega)), bnd_r, ei, nI_clamp (show (i + 255) % 256 < 2 ^ 31 by omega), gg_ix ml (by decide), ph2]
        by_cases z2 : o ((i + 255) % 256) = 0
        · rw [if_pos ⟨by omega, z2⟩] at stb
          rw [if_pos (show nI (o ((i + 255) % 256)) = 0 by rw [z2]; rfl)]
          exact body 1 stb
        · rw [if_neg (fun zz => z2 zz.2)] at stb
          rw [if_neg (show ¬ nI (o ((i + 255) % 256)) = 0 from nI_ne (by omega) (by omega)), fX11_told_87]
          exact body 0 stb
  exact key 256 0 2000 (by omega) (by omega)
end TOLD
theorem told_eq (hI : ICu σ) (p : Int32) : Ok (fX10_told p σ) (fX11_told p) (fun σ' => σ' = σ) := by
  have e4 : (4 : Int64).toInt = 4 := rfl
  have e4' : (4 : Int32).toInt = 4 := rfl
  by_cases hp : 0 ≤ p.toInt ∧ p.toInt ≤ 4
  · obtain ⟨k, hk, rfl⟩ := nI_get (n := 5) hp.1 (by omega) (by omega)
    have q1 : ¬ nI k < 0 := nI_pos (by omega)
    have q2 : nI k ≤ 4 := nI_le (b := 4) (by omega) (by decide)
    have q3 : fX11_in (nI k).toInt64 0 4 σ = some (1, σ) := in_t (by rw [l32, z64, e4]; exact hp)
    rcases hI with ⟨i1, i2⟩ | ⟨i1, i2, i3⟩
    · refine Ok.mk (r := -1000002) (r' := -1000002) (σ1 := σ) (σ2 := σ) ?_ ?_ rfl rfl
      · rw [fX10_told, if_neg q1, if_pos q2, i1, i00]
      · rw [fX11_told, q3, bd_r, i10, i2, if_neg (by decide)]
    · have j0 : 0 ≤ σ.1 168 85 := le32.mpr (by have := mt lt32.mpr i2; rw [z32] at this ⊢; omega)
      obtain ⟨o, C⟩ := ICu.dat i3
      have vX : ∀ s, s < 256 → o s = 1 → σ.2.1 137 s = σ.2.1 137 s ∧ (σ.2.1 137 s).toInt.natAbs ≤ 100000000 := fun s hs ho => ⟨rfl, ((C s hs).2.2.2 ho).2.2.2.2.1⟩
      have vY : ∀ s, s < 256 → o s = 1 → σ.2.1 138 s = σ.2.1 138 s ∧ (σ.2.1 138 s).toInt.natAbs ≤ 100000000 := fun s hs ho => ⟨rfl, ((C s hs).2.2.2 ho).2.2.2.2.2⟩
      rcases (show k = 0 ∨ k = 1 ∨ k = 2 ∨ k = 3 ∨ k = 4 by omega) with rfl | rfl | rfl | rfl | rfl
      · refine Ok.mk (r := nI (bgN o 256)) (r' := nI (bgN o 256)) (σ1 := σ) (σ2 := σ) ?_ ?_ rfl rfl
        · rw [fX10_told, if_neg q1, if_pos q2, i1, i10, if_pos (show nI 0 = 0 from rfl), begCu C, bd_r]
        · rw [fX11_told, q3, bd_r, i10, if_pos j0, if_neg (by decide), fX11_told_41, tolR C (p := 0) (ax := 0) (V := σ.2.1 137) (wy := 1) (by omega) (by funext s; rfl) (Or.inr ⟨rfl, rfl⟩), if_pos rfl]
      · refine Ok.mk (r := eO (frsT o (σ.2.1 137) (-1) 256)) (r' := eO (frsT o (σ.2.1 137) (-1) 256)) (σ1 := σ) (σ2 := σ) ?_ ?_ rfl rfl
        · rw [fX10_told, if_neg q1, if_pos q2, i1, i10, if_neg (by decide), if_pos (show nI 1 = 1 from rfl), fX2_firstFarthest, fX2_valuesOf, if_pos rfl, fX2_valuesOf_15, bd_r, farC C (V := σ.2.1 137) (Or.inl rfl) vX (Or.inr rfl), bd_r]
          rfl
        · rw [fX11_told, q3, bd_r, i10, if_pos j0, if_neg (by decide), fX11_told_41, tolR C (p := 1) (ax := 0) (V := σ.2.1 137) (wy := -1) (by omega) (by funext s; rfl) (Or.inl ⟨rfl, rfl⟩), if_neg (by decide)]
      · refine Ok.mk (r := eO (frsT o (σ.2.1 137) 1 256)) (r' := eO (frsT o (σ.2.1 137) 1 256)) (σ1 := σ) (σ2 := σ) ?_ ?_ rfl rfl
        · rw [fX10_told, if_neg q1, if_pos q2, i1, i10, if_neg (by decide), if_neg (by decide), if_pos (show nI 2 = 2 from rfl), fX2_firstFarthest, fX2_valuesOf, if_pos rfl, fX2_valuesOf_15, bd_r, farC C (V := σ.2.1 137) (Or.inl rfl) vX (Or.inl rfl), bd_r]
          rfl
        · rw [fX11_told, q3, bd_r, i10, if_pos j0, if_neg (by decide), fX11_told_41, tolR C (p := 2) (ax := 0) (V := σ.2.1 137) (wy := 1) (by omega) (by funext s; rfl) (Or.inr ⟨rfl, rfl⟩), if_neg (by decide)]
      · refine Ok.mk (r := eO (frsT o (σ.2.1 138) (-1) 256)) (r' := eO (frsT o (σ.2.1 138) (-1) 256)) (σ1 := σ) (σ2 := σ) ?_ ?_ rfl rfl
        · rw [fX10_told, if_neg q1, if_pos q2, i1, i10, if_neg (by decide), if_neg (by decide), if_neg (by decide), if_pos (show nI 3 = 3 from rfl), fX2_firstFarthest, fX2_valuesOf, if_neg (by decide), fX2_valuesOf_15, bd_r, farC C (V := σ.2.1 138) (Or.inr rfl) vY (Or.inr rfl), bd_r]
          rfl
        · rw [fX11_told, q3, bd_r, i10, if_pos j0, if_pos (by decide), fX11_told_41, tolR C (p := 3) (ax := 1) (V := σ.2.1 138) (wy := -1) (by omega) (by funext s; rfl) (Or.inl ⟨rfl, rfl⟩), if_neg (by decide)]
      · refine Ok.mk (r := eO (frsT o (σ.2.1 138) 1 256)) (r' := eO (frsT o (σ.2.1 138) 1 256)) (σ1 := σ) (σ2 := σ) ?_ ?_ rfl rfl
        · rw [fX10_told, if_neg q1, if_pos q2, i1, i10, if_neg (by decide), if_neg (by decide), if_neg (by decide), if_neg (by decide), fX2_firstFarthest, fX2_valuesOf, if_neg (by decide), fX2_valuesOf_15, bd_r, farC C (V := σ.2.1 138) (Or.inr rfl) vY (Or.inl rfl), bd_r]
          rfl
        · rw [fX11_told, q3, bd_r, i10, if_pos j0, if_pos (by decide), fX11_told_41, tolR C (p := 4) (ax := 1) (V := σ.2.1 138) (wy := 1) (by omega) (by funext s; rfl) (Or.inr ⟨rfl, rfl⟩), if_neg (by decide)]
  · refine Ok.mk (r := -1000001) (r' := -1000001) (σ1 := σ) (σ2 := σ) ?_ ?_ rfl rfl
    · rw [fX10_told]
      by_cases y : p < 0
      · rw [if_pos y, fX10_told_9]
      · have := mt lt32.mpr y
        rw [z32] at this
        rw [if_neg y, if_neg (fun z => by have := le32.mp z; rw [e4'] at this; omega), fX10_told_9]
    · rw [fX11_told, in_f (by rw [l32, z64, e4]; exact hp), bd_r, i00]
theorem cutL0 : ∀ l, l < 4 → cutL l 0 = 0 := by decide
theorem keep_eq (hr0 : iRows σ) (hI : ICu σ) (p q : Int32) : Ok (fX10_keep p q σ) (fX11_keep p q) (fun σ' => iRows σ' ∧ Fr pRow σ σ') := by
  have hr1 := hr0
  obtain ⟨hs, hr⟩ := hr0
  by_cases hp : 0 ≤ p.toInt ∧ p.toInt < 8
  · obtain ⟨i, hi, rfl⟩ := nI_get (n := 8) hp.1 hp.2 (by decide)
    have cli : (nI i).toNatClampNeg = i := nI_clamp (by omega)
    by_cases hq : 0 ≤ q.toInt ∧ q.toInt ≤ 1
    · rcases hI with ⟨i1, i2⟩ | ⟨i1, i2, i3⟩
      · refine Ok.mk (r := -1000002) (r' := -1000002) (σ1 := σ) (σ2 := σ) ?_ ?_ rfl ⟨hr1, fr_r _ σ⟩
        · rw [fX10_keep, (isRow_yes hi σ).1, bd_r, i10, axisC, bd_r, if_pos hq, i10, i1, i00]
        · rw [fX11_keep, (isRow_yes hi σ).2, bd_r, i10, ax01, if_pos hq, bd_r, i10, i2, if_neg (by decide)]
      · have j0 : 0 ≤ σ.1 168 85 := le32.mpr (by have := mt lt32.mpr i2; rw [z32] at this ⊢; omega)
        rcases hr i hi with ⟨h1, h2⟩ | ⟨h1, l, n, hl, hn, h2, h3, h4, h5, h6⟩
        · refine Ok.mk (r := -1000010 - 1) (r' := -1000010 - 1) (σ1 := gsI σ 0 11 1) (σ2 := gsI (gsI (gsI σ 0 11 1) 168 94 0) 168 94 1) ?_ ?_ rfl (find_ok hr1 1)
          · rw [fX10_keep, (isRow_yes hi σ).1, bd_r, i10, axisC, bd_r, if_pos hq, i10, i1, i10, cli, gg_ix (by omega) (by decide), bnd_r, h1, i00, fX10_found, bnd_r, bd_r]
          · rw [fX11_keep, (isRow_yes hi _).2, bd_r, i10, ax01, if_pos hq, bd_r, i10, rI_h (show (168 : Nat) ≠ 0 by decide), if_pos j0, bnd_r, cli, gg_ix (by omega) (by decide), rI_h (show (229 : Nat) ≠ 168 by decide), rI_h (show (229 : Nat) ≠ 0 by decide), h2, i00, fX11_finds, bnd_r, bd_r]
        · obtain ⟨o, C⟩ := ICu.dat i3
          -- what comes to item s
          let V : Nat → Int64 := fun s => if o s = 1 then (if q = 0 then σ.2.1 137 s else σ.2.1 138 s) else 0
          let N : Nat := min 256 n
          have hN : N ≤ 256 ∧ N ≤ n := ⟨Nat.min_le_left _ _, Nat.min_le_right _ _⟩
          have kC : ∀ (m s fu : Nat) (τ : gS), s + m = N → m < fu → τ.1 (152 + 2 * i) 1 = nI l → (∀ x, τ.1 139 x = σ.1 139 x) → τ.2.1 137 = σ.2.1 137 → τ.2.1 138 = σ.2.1 138 → fX10_keep_77 (nI i) q fu (if q = 0 then 137 else 138) (nI N) (nI s) τ = some (nI N, gsI (gwJ τ (152 + 2 * i + 1) 0 s N (fun x => cutL l (V x))) 0 11 0) := by
            intro m
            induction m with
            | zero =>
              intro s fu τ e hf t1 t2 t3 t4
              obtain ⟨fu, rfl⟩ : ∃ y, fu = y + 1 := ⟨fu - 1, by omega⟩
              have : s = N := by omega
              rw [fX10_keep_77, if_pos (nI_le (by omega) (by omega)), fX10_fine, bnd_r, bd_r, this, gwJ_end]
            | succ m ih =>
              intro s fu τ e hf t1 t2 t3 t4
              obtain ⟨fu, rfl⟩ : ∃ y, fu = y + 1 := ⟨fu - 1, by omega⟩
              have hs' : s < 256 := by omega
              have cls : (nI s).toNatClampNeg = s := nI_clamp (by omega)
              obtain ⟨h01, o1, -, -⟩ := C s hs'
              have go : fX10_keep_113 (nI i) q (fun v3 v4 v5 σ => fX10_keep_77 (nI i) q fu v3 v4 v5 σ) (if q = 0 then 137 else 138) (nI N) (nI s) (152 + 2 * i) (nI s) (V s) τ = some (nI N, gsI (gwJ τ (152 + 2 * i + 1) 0 s N (fun x => cutL l (V x))) 0 11 0) := by
                rw [fX10_keep_113, gg_t (show 152 ≤ 152 + 2 * i ∧ 152 + 2 * i ≤ 166 ∧ (152 + 2 * i) % 2 = 0 by omega), storeC (t := 152 + 2 * i) t1 hl (by omega), bd_r, bnd_r, nI_1]
                have hh := ih (s + 1) fu (gsJ τ (152 + 2 * i + 1) s (cutL l (V s))) (by omega) (by omega) t1 t2 (by funext x; rw [rJ_h (show (137 : Nat) ≠ 152 + 2 * i + 1 by omega), t3]) (by funext x; rw [rJ_h (show (138 : Nat) ≠ 152 + 2 * i + 1 by omega), t4])
                have gs := gwJ_step (σ := τ) (h := 152 + 2 * i + 1) (b := 0) (g := fun x => cutL l (V x)) (show s < N by omega)
                rw [Nat.zero_add] at gs
                rw [gs] at hh
                exact hh
              rw [fX10_keep_77, if_neg (nI_ge (by omega) (by omega)), cli, gg_ix (by omega) (by decide), bnd_r, cls, gg_ix (by omega) (by decide), t2, o1]
              by_cases z : o s = 0
              · have vs : V s = 0 := if_neg (by omega)
                rw [vs] at go
                rw [if_pos (show nI (o s) = 0 by rw [z]; rfl)]
                exact go
              · rw [if_neg (show ¬ nI (o s) = 0 from nI_ne (by omega) (by omega))]
                by_cases q0 : q = 0
                · have vs : V s = σ.2.1 137 s := (if_pos (by omega)).trans (if_pos q0)
                  rw [if_pos q0] at go ⊢
                  rw [gg_t (Or.inl rfl), gg_ix (by omega) (by decide), t3, ← vs]
                  exact go
                · have vs : V s = σ.2.1 138 s := (if_pos (by omega)).trans (if_neg q0)
                  rw [if_neg q0] at go ⊢
                  rw [gg_t (Or.inr rfl), gg_ix (by omega) (by decide), t4, ← vs]
                  exact go
          have kM : ∀ (m s fu : Nat) (τ : gS), s + m = N → m < fu → τ.1 229 i = nI (l + 1) → CuD τ o (σ.2.1 137) (σ.2.1 138) → fX11_keep_79 (nI i) q fu (nI N) (nI s) τ = some (nI N, gwJ τ 231 (300 * i) s N (fun x => cutL l (V x))) := by
            intro m
            induction m with
            | zero =>
              intro s fu τ e hf t1 t2
              obtain ⟨fu, rfl⟩ : ∃ y, fu = y + 1 := ⟨fu - 1, by omega⟩
              have : s = N := by omega
              rw [fX11_keep_79, if_pos (nI_le (by omega) (by omega)), this, gwJ_end]
            | succ m ih =>
              intro s fu τ e hf t1 t2
              obtain ⟨fu, rfl⟩ : ∃ y, fu = y + 1 := ⟨fu - 1, by omega⟩
              have hs' : s < 256 := by omega
              have cls : (nI s).toNatClampNeg = s := nI_clamp (by omega)
              obtain ⟨h01, -, o2, -⟩ := t2 s hs'
              obtain ⟨x1, x2, x3⟩ := it_ix hi (show s < 300 by omega)
              have go : fX11_keep_127 (nI i) q (fun v3 v4 σ => fX11_keep_79 (nI i) q fu v3 v4 σ) (nI N) (nI s) (300 * nI i + nI s) (cutL l (V s)) τ = some (nI N, gwJ τ 231 (300 * i) s N (fun x => cutL l (V x))) := by
                rw [fX11_keep_127, x1, gg_t x3, bnd_r, bnd_r, nI_1, x2]
                have hh := ih (s + 1) fu (gsJ τ 231 (300 * i + s) (cutL l (V s))) (by omega) (by omega) t1 (fun x hx => by
                  rw [rJ_h (show (137 : Nat) ≠ 231 by decide), rJ_h (show (222 : Nat) ≠ 231 by decide), rJ_h (show (138 : Nat) ≠ 231 by decide), rJ_h (show (223 : Nat) ≠ 231 by decide)]
                  exact t2 x hx)
                rw [gwJ_step (σ := τ) (h := 231) (b := 300 * i) (g := fun x => cutL l (V x)) (show s < N by omega)] at hh
                exact hh
              rw [fX11_keep_79, if_neg (nI_ge (by omega) (by omega)), cls, gg_ix (by omega) (by decide), o2]
              by_cases z : o s = 0
              · have vs : V s = 0 := if_neg (by omega)
                rw [vs, cutL0 l hl] at go
                rw [if_pos (show nI (o s) = 0 by rw [z]; rfl)]
                exact go
              · have vs : (if q = 0 then σ.2.1 137 s else σ.2.1 138 s) = V s := (if_pos (by omega)).symm
                rw [if_neg (show ¬ nI (o s) = 0 from nI_ne (by omega) (by omega)), cli, gg_ix (by omega) (by decide), atR t2 hs' (by omega), bd_r, t1, cutM hl, bd_r, vs]
                exact go
          refine Ok.mk (r := nI N) (r' := nI N) (σ1 := gsI (gwJ σ (152 + 2 * i + 1) 0 0 N (fun x => cutL l (V x))) 0 11 0) (σ2 := gwJ (gsI (gsI (gwJ σ (152 + 2 * i + 1) 0 0 N (fun x => cutL l (V x))) 0 11 0) 168 94 0) 231 (300 * i) 0 N (fun x => cutL l (V x))) ?_ ?_ rfl ⟨⟨?_, fun x hx => ?_⟩, fun a k hP => ?_⟩
          · have vo : fX2_valuesOf q σ = some ((if q = 0 then 137 else 138), σ) := by
              rw [fX2_valuesOf]
              by_cases q0 : q = 0
              · rw [if_pos q0, if_pos q0, fX2_valuesOf_15]
              · rw [if_neg q0, if_neg q0, fX2_valuesOf_15]
            have mn : fJ9_min_7cf53 256 (nI n) σ = some (nI N, σ) := minE (a := 256) (by omega) (by omega) σ
            rw [fX10_keep, (isRow_yes hi σ).1, bd_r, i10, axisC, bd_r, if_pos hq, i10, i1, i10, cli, gg_ix (by omega) (by decide), bnd_r, h1, i10, vo, bd_r, gg_ix (by omega) (by decide), bnd_r, h4, mn, bd_r]
            exact kC N 0 2000 σ (by omega) (by omega) h2 (fun _ => rfl) rfl rfl
          · have C2 : CuD (gsI (gsI (gwJ σ (152 + 2 * i + 1) 0 0 N (fun x => cutL l (V x))) 0 11 0) 168 94 0) o (σ.2.1 137) (σ.2.1 138) := fun s hs' => by
              rw [gsI_2, gsI_2, rI_h (show (139 : Nat) ≠ 168 by decide), rI_h (show (139 : Nat) ≠ 0 by decide), rI_h (show (224 : Nat) ≠ 168 by decide), rI_h (show (224 : Nat) ≠ 0 by decide), wJ_1, wJ_o (show ¬ (137 = 152 + 2 * i + 1 ∧ _) from fun z => by omega), wJ_o (show ¬ (222 = 152 + 2 * i + 1 ∧ _) from fun z => by omega), wJ_o (show ¬ (138 = 152 + 2 * i + 1 ∧ _) from fun z => by omega), wJ_o (show ¬ (223 = 152 + 2 * i + 1 ∧ _) from fun z => by omega)]
              exact C s hs'
            have kk := kM N 0 2000 (gsI (gsI (gwJ σ (152 + 2 * i + 1) 0 0 N (fun x => cutL l (V x))) 0 11 0) 168 94 0) (by omega) (by omega) (by rw [rI_h (by decide), rI_h (by decide), wJ_1]; exact h3) C2
            rw [fX11_keep, (isRow_yes hi _).2, bd_r, i10, ax01, if_pos hq, bd_r, i10, rI_h (show (168 : Nat) ≠ 0 by decide), wJ_1, if_pos j0, bnd_r, cli, gg_ix (by omega) (by decide), rI_h (show (229 : Nat) ≠ 168 by decide), rI_h (show (229 : Nat) ≠ 0 by decide), wJ_1, h3, if_neg (nI_ne (by omega) (by omega)), gg_ix (by omega) (by decide), rI_h (show (230 : Nat) ≠ 168 by decide), rI_h (show (230 : Nat) ≠ 0 by decide), wJ_1, h5]
            by_cases z : 256 ≤ n
            · have eN : N = 256 := Nat.min_eq_left z
              rw [if_pos (show 256 ≤ nI n from nI_le (a := 256) z (by omega)), fX11_keep_75]
              rw [eN] at kk ⊢
              exact kk
            · have eN : N = n := Nat.min_eq_right (by omega)
              rw [if_neg (show ¬ 256 ≤ nI n from nI_ge (b := 256) (by omega) (by decide)), gg_ix (by omega) (by decide), fX11_keep_75]
              rw [eN] at kk ⊢
              exact kk
          · rw [wJ_1, rI_h (by decide), rI_s, rI_s]
          · by_cases hx2 : x = i
            · subst hx2
              refine Or.inr ⟨?_, l, n, hl, hn, ?_, ?_, ?_, ?_, fun y hy => ?_⟩
              · rw [wJ_1, rI_o (by omega), rI_o (by omega), wJ_1]; exact h1
              · rw [wJ_1, rI_o (by omega), rI_o (by omega), wJ_1]; exact h2
              · rw [wJ_1, rI_o (by omega), rI_o (by omega), wJ_1]; exact h3
              · rw [wJ_1, rI_o (by omega), rI_o (by omega), wJ_1]; exact h4
              · rw [wJ_1, rI_o (by omega), rI_o (by omega), wJ_1]; exact h5
              · rw [wJ_o (show ¬ (153 + 2 * x = 231 ∧ _) from fun z => by omega), gsI_2, gsI_2, show 153 + 2 * x = 152 + 2 * x + 1 by omega]
                by_cases z : y < N
                · rw [wJ_i ⟨by omega, by omega⟩, wJ_i ⟨by omega, by omega⟩, Nat.sub_zero, show 300 * x + y - 300 * x = y by omega]
                · rw [wJ_o (show ¬ (_ ∧ 0 + 0 ≤ y ∧ y < 0 + N) from fun zz => by omega), wJ_o (show ¬ (_ ∧ 300 * x + 0 ≤ 300 * x + y ∧ 300 * x + y < 300 * x + N) from fun zz => by omega), gsI_2, gsI_2, wJ_o (show ¬ (231 = 152 + 2 * x + 1 ∧ _) from fun zz => by omega), show 152 + 2 * x + 1 = 153 + 2 * x by omega]
                  exact h6 y hy
            · refine iRow_keep2 (hr x hx) (fun k => ?_) (fun y hy => ?_)
              · rw [wJ_1, rI_o (by omega), rI_o (by omega), wJ_1, rI_o (by omega), rI_o (by omega), rI_o (by omega), rI_o (by omega)]
                exact ⟨rfl, rfl, rfl⟩
              · rw [wJ_o (show ¬ (153 + 2 * x = 231 ∧ _) from fun z => by omega), gsI_2, gsI_2, wJ_o (show ¬ (153 + 2 * x = 152 + 2 * i + 1 ∧ _) from fun z => by omega), wJ_o (show ¬ (_ ∧ 300 * i + 0 ≤ 300 * x + y ∧ 300 * x + y < 300 * i + N) from fun zz => by omega), gsI_2, gsI_2, wJ_o (show ¬ (231 = 152 + 2 * i + 1 ∧ _) from fun zz => by omega)]
                exact ⟨rfl, rfl⟩
          · obtain ⟨a1, a2, a3, a4⟩ := hP
            refine ⟨?_, ?_, rfl⟩
            · rw [wJ_1, rI_o (by omega), rI_o (by omega), wJ_1]
            · rw [wJ_o (show ¬ (a = 231 ∧ _) from fun z => by omega), gsI_2, gsI_2, wJ_o (show ¬ (a = 152 + 2 * i + 1 ∧ _) from fun z => by omega)]
    · refine Ok.mk (r := -1000001) (r' := -1000001) (σ1 := σ) (σ2 := σ) ?_ ?_ rfl ⟨hr1, fr_r _ σ⟩
      · rw [fX10_keep, (isRow_yes hi σ).1, bd_r, i10, axisC, bd_r, if_neg hq, i00, fX10_keep_14]
      · rw [fX11_keep, (isRow_yes hi σ).2, bd_r, i10, ax01, if_neg hq, bd_r, i00, fX11_keep_17]
  · refine Ok.mk (r := -1000001) (r' := -1000001) (σ1 := σ) (σ2 := σ) ?_ ?_ rfl ⟨hr1, fr_r _ σ⟩
    · rw [fX10_keep, (isRow_no hp σ).1, bd_r, i00, fX10_keep_14]
    · rw [fX11_keep, (isRow_no hp σ).2, bd_r, i00, fX11_keep_17]
end CUR

/-! what the constructors leave, as a state of the cells -/
def s0f (f : Nat → Int32) : gS := (fun h => if h = 3 then f else if h = 4 then (fun k => if k = 8 then -1000000 else if k = 9 then -1000000 else 0) else if h = 16 then (fun k => if k = 8 then -1000000 else if k = 9 then -1000000 else 0) else if h = 1 then (fun k => if k = 9 then -1000000 else 0) else if h = 168 then (fun k => if k = 19 then -1 else if k = 20 then -1 else if k = 50 then -1000000 else if k = 85 then -1 else 0) else fun _ => 0, fun _ _ => 0, fun h => if h = 60 then (fun i => 61 + 1 * i) else if h = 0 then (fun _ => 16) else fun _ => 4)
def s0 : gS := s0f fWd
theorem s0_0 {h : Nat} (h1 : ¬ h = 3) (h2 : ¬ h = 4) (h3 : ¬ h = 16) (h4 : ¬ h = 1) (h5 : ¬ h = 168) (k : Nat) : s0.1 h k = 0 := by
  show (if h = 3 then fWd else _) k = 0
  rw [if_neg h1, if_neg h2, if_neg h3, if_neg h4, if_neg h5]
theorem s0f_3 (f : Nat → Int32) (w : Nat) : (s0f f).1 3 w = f w := rfl
theorem s0_3 (w : Nat) : s0.1 3 w = fWd w := s0f_3 fWd w
theorem s0_L : LkD s0 16 dE := by
  refine ⟨Or.inr rfl, rfl, rfl, dE_a, dE_b, ⟨fun f _ => s0_0 (by omega) (by omega) (by omega) (by omega) (by omega) f, rfl, fun p h => absurd h (Nat.not_lt_zero p), fun f i _ h => absurd h (Nat.not_lt_zero i), fun _ => ⟨rfl, rfl⟩, fun a b h => (by cases h)⟩, ?_⟩
  refine ⟨fun f hf => ?_, rfl, fun p h => absurd h (Nat.not_lt_zero p), fun f i _ h => absurd h (Nat.not_lt_zero i), fun i h => absurd h (Nat.not_lt_zero i), fun i h => absurd h (Nat.not_lt_zero i), fun _ => ⟨rfl, rfl⟩, fun a b h => (by cases h)⟩
  have : f = 0 ∨ f = 1 ∨ f = 2 ∨ f = 3 := by omega
  rcases this with rfl | rfl | rfl | rfl <;> rfl
theorem s0_C : KC s0 dE := by
  refine ⟨rfl, rfl, fun i h => absurd h (Nat.not_lt_zero i), rfl, fun c i hc hi => ⟨fun h => ?_, fun h => absurd h.1 (Nat.not_lt_zero c)⟩, rfl, fun i h => absurd h (Nat.not_lt_zero i)⟩
  exfalso
  have e : s0.1 57 c = 0 := s0_0 (by omega) (by omega) (by omega) (by omega) (by omega) c
  rw [e] at h
  simp [bt] at h
theorem s0_R : KR s0 dE := ⟨rfl, rfl, fun i h => absurd h (Nat.not_lt_zero i), fun a b h => absurd h (Nat.not_lt_zero a)⟩
theorem s0_M : KM s0 dE := by
  refine ⟨⟨⟨fun r hr => ?_, fun r r' hr hr' h => ?_⟩, rfl, rfl, rfl, fun r k h => absurd h (Nat.not_lt_zero r), fun x h => absurd h (Nat.not_lt_zero x), fun y h => absurd h (Nat.not_lt_zero y)⟩, fun i h => absurd h (Nat.not_lt_zero i)⟩
  · show 61 ≤ 61 + 1 * r ∧ 61 + 1 * r < 121
    omega
  · have h' : 61 + 1 * r = 61 + 1 * r' := h
    omega
theorem s0_T : KTu s0 dE (inO dE) := ⟨⟨rfl, fun i h => absurd h (Nat.not_lt_zero i), fun i h => absurd h (Nat.not_lt_zero i)⟩, ⟨rfl, fun i h => absurd h (Nat.not_lt_zero i), fun i h => absurd h (Nat.not_lt_zero i)⟩, inO_g⟩
theorem s0_rows : iRows s0 := by
  refine ⟨rfl, fun i hi => Or.inl ⟨?_, ?_⟩⟩
  · exact s0_0 (by omega) (by omega) (by omega) (by omega) (by omega) 0
  · exact s0_0 (by omega) (by omega) (by omega) (by omega) (by omega) i
theorem s0_inv : Inv s0 := ⟨16, dE, inO dE, s0_L, s0_C, s0_R, s0_M, s0_T, Or.inl ⟨rfl, rfl⟩, Or.inl ⟨rfl, rfl⟩, s0_rows, ⟨0, Nat.zero_le _, rfl, rfl, fun i h => absurd h (Nat.not_lt_zero i)⟩, fun w hw => (s0_3 w).trans (fWd_ok w hw), rfl, ⟨0, Nat.zero_le _, rfl, rfl, fun i h => absurd h (Nat.not_lt_zero i)⟩⟩
/-! the cells that the constructors leave are this state's -/
theorem nc_gfv (ad : Nat → Nat) (σ : gS) (h k : Nat) (s : Nat) : gv ad (gfv (fun x => x) σ h k s) = gfv ad σ h k s := by
  match s with
  | 0 => rfl
  | 1 => rfl
  | 2 => rfl
  | n + 3 => rfl
theorem nc_glay (cy : Nat → ClassId) (ad : Nat → Nat) (σ : gS) (h : Nat) : ncE ad (glay cy (fun x => x) σ h) = glay cy ad σ h := by
  unfold glay
  split
  · show Sum.inr (_, (gfs _ σ h _).map (gv ad)) = _
    simp [gfs, nc_gfv, Function.comp_def]
  · rename_i q hq
    unfold gar
    split
    · rfl
    · split
      · rfl
      · rfl
theorem nws_gws (cy : Nat → ClassId) (ad : Nat → Nat) (σ : gS) {Mm : List va_E} (h : Mm = (List.range gNH).map (glay cy (fun x => x) σ)) : nws ad Mm = gws cy ad σ := by
  subst h
  apply List.ext_getElem?
  intro i
  simp only [nws, gws, List.getElem?_mapIdx, List.getElem?_map]
  by_cases hi : i < gNH
  · simp [List.getElem?_range hi, nc_glay]
  · rw [List.getElem?_eq_none (by simp; omega)]
    rfl

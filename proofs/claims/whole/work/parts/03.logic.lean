/-! THE STATE of all cells: numbers, longs, references, each by its cell and its place in it -/
abbrev gS : Type := (Nat → Nat → Int32) × (Nat → Nat → Int64) × (Nat → Nat → Nat)
def gu {α : Type} (f : Nat → Nat → α) (h k : Nat) (v : α) : Nat → Nat → α := fun a b => if a = h then (if b = k then v else f a b) else f a b
def gsI (σ : gS) (h k : Nat) (v : Int32) : gS := (gu σ.1 h k v, σ.2.1, σ.2.2)
def gsJ (σ : gS) (h k : Nat) (v : Int64) : gS := (σ.1, gu σ.2.1 h k v, σ.2.2)
def gsR (σ : gS) (h k : Nat) (v : Nat) : gS := (σ.1, σ.2.1, gu σ.2.2 h k v)
theorem gu_ne {α : Type} {f : Nat → Nat → α} {h k a : Nat} {v : α} (hn : a ≠ h) : gu f h k v a = f a := by funext b; simp [gu, hn]
theorem gu_s {α : Type} {f : Nat → Nat → α} {h k : Nat} {v : α} : gu f h k v h k = v := by simp [gu]
theorem gu_o {α : Type} {f : Nat → Nat → α} {h k b : Nat} {v : α} (hn : b ≠ k) : gu f h k v h b = f h b := by simp [gu, hn]
/-- what a field is -/
def gfv (ad : Nat → Nat) (σ : gS) (h k : Nat) : Nat → Value
  | 0 => .int (σ.1 h k)
  | 1 => .long (σ.2.1 h k)
  | 2 => .ref (ad (σ.2.2 h k))
  | n + 3 => .ref (ad n)
def gfs (ad : Nat → Nat) (σ : gS) (h : Nat) (ss : List Nat) : List Value := (List.range ss.length).map (fun k => gfv ad σ h k (ss.getD k 0))
def gel (σ : gS) (h : Nat) (c : Option (Nat × Nat)) (i : Nat) : Nat := match c with
  | none => σ.2.2 h i
  | some q => q.1 + q.2 * i
def gar (ad : Nat → Nat) (σ : gS) (h ty : Nat) (c : Option (Nat × Nat)) : (Nat → Int32) ⊕ (Nat → Int64) ⊕ (Nat → UInt32) ⊕ (Nat → UInt64) ⊕ (Nat → Option Nat) :=
  if ty = 1 then .inr (.inl (σ.2.1 h)) else if ty < 4 then .inl (σ.1 h) else .inr (.inr (.inr (.inr (fun i => some (ad (gel σ h c i))))))
def glay (cy : Nat → ClassId) (ad : Nat → Nat) (σ : gS) (h : Nat) : va_E := match gI h with
  | .inl q => .inr (q.1, gfs ad σ h q.2)
  | .inr q => .inl (cy q.1, q.2.1, gar ad σ h q.1 q.2.2)
def gws (cy : Nat → ClassId) (ad : Nat → Nat) (σ : gS) : va_W := (List.range gNH).map (fun h => (ad h, glay cy ad σ h))
def gA (ad : Nat → Nat) : Nat → Prop := fun q => ∃ h, h < gNH ∧ ad h = q
def gInj (ad : Nat → Nat) : Prop := ∀ h k, h < gNH → k < gNH → ad h = ad k → h = k
theorem gws_get {cy : Nat → ClassId} {ad : Nat → Nat} {σ : gS} {h : Nat} (hh : h < gNH) : (gws cy ad σ)[h]? = some (ad h, glay cy ad σ h) := by
  simp [gws, List.getElem?_map, List.getElem?_range hh]
theorem gws_len {cy : Nat → ClassId} {ad : Nat → Nat} {σ : gS} : (gws cy ad σ).length = gNH := by simp [gws]
theorem gws_set {cy : Nat → ClassId} {ad : Nat → Nat} {σ σ' : gS} {h : Nat} {e : va_E} (hh : h < gNH) (he : glay cy ad σ' h = e) (ho : ∀ a, a ≠ h → glay cy ad σ' a = glay cy ad σ a) : (gws cy ad σ).set h (ad h, e) = gws cy ad σ' := by
  apply List.ext_getElem?
  intro i
  by_cases hi : i = h
  · subst hi
    rw [List.getElem?_set_self (by rw [gws_len]; exact hh), gws_get hh, he]
  · rw [List.getElem?_set_ne (Ne.symm hi)]
    by_cases hl : i < gNH
    · rw [gws_get hl, gws_get hl, ho i hi]
    · rw [List.getElem?_eq_none (by rw [gws_len]; omega), List.getElem?_eq_none (by rw [gws_len]; omega)]
theorem gws_D {cy : Nat → ClassId} {ad : Nat → Nat} {σ : gS} (hi : gInj ad) : va_D (gA ad) (gws cy ad σ) := by
  have key : ∀ (k : Nat) (q : Nat × va_E), (gws cy ad σ)[k]? = some q → k < gNH ∧ q.1 = ad k := by
    intro k q hk
    have hl : k < gNH := by rw [← gws_len (cy := cy) (ad := ad) (σ := σ)]; exact (List.getElem?_eq_some_iff.mp hk).1
    rw [gws_get hl] at hk
    cases hk
    exact ⟨hl, rfl⟩
  refine ⟨fun i j p q hi' hj' hpq => ?_, fun k q hk => ?_⟩
  · obtain ⟨a1, a2⟩ := key i p hi'
    obtain ⟨b1, b2⟩ := key j q hj'
    exact hi i j a1 b1 (by rw [← a2, ← b2]; exact hpq)
  · obtain ⟨a1, a2⟩ := key k q hk
    exact ⟨k, a1, a2.symm⟩
theorem gfs_get {ad : Nat → Nat} {σ : gS} {h k s : Nat} {ss : List Nat} (hs : ss[k]? = some s) : (gfs ad σ h ss)[k]? = some (gfv ad σ h k s) := by
  have hl : k < ss.length := (List.getElem?_eq_some_iff.mp hs).1
  simp [gfs, List.getElem?_map, List.getElem?_range hl, List.getD_eq_getElem?_getD, hs]
theorem gfs_len {ad : Nat → Nat} {σ : gS} {h : Nat} {ss : List Nat} : (gfs ad σ h ss).length = ss.length := by simp [gfs]
theorem gfs_set {ad : Nat → Nat} {σ σ' : gS} {h k s : Nat} {ss : List Nat} {v : Value} (hs : ss[k]? = some s) (hv : gfv ad σ' h k s = v) (ho : ∀ j t, j ≠ k → ss[j]? = some t → gfv ad σ' h j t = gfv ad σ h j t) : gfs ad σ' h ss = (gfs ad σ h ss).set k v := by
  have hl : k < ss.length := (List.getElem?_eq_some_iff.mp hs).1
  apply List.ext_getElem?
  intro i
  by_cases hi : i = k
  · subst hi
    rw [List.getElem?_set_self (by rw [gfs_len]; exact hl), gfs_get hs, hv]
  · rw [List.getElem?_set_ne (Ne.symm hi)]
    by_cases hli : i < ss.length
    · have ht : ss[i]? = some ss[i] := List.getElem?_eq_getElem hli
      rw [gfs_get ht, gfs_get ht, ho i _ hi ht]
    · rw [List.getElem?_eq_none (by rw [gfs_len]; omega), List.getElem?_eq_none (by rw [gfs_len]; omega)]
theorem glay_o {cy : Nat → ClassId} {ad : Nat → Nat} {σ : gS} {h ci : Nat} {ss : List Nat} (hi : gI h = .inl (ci, ss)) : glay cy ad σ h = .inr (ci, gfs ad σ h ss) := by simp [glay, hi]
theorem glay_a {cy : Nat → ClassId} {ad : Nat → Nat} {σ : gS} {h ty n : Nat} {c : Option (Nat × Nat)} (hi : gI h = .inr (ty, n, c)) : glay cy ad σ h = .inl (cy ty, n, gar ad σ h ty c) := by simp [glay, hi]
theorem gI_lt {h ci : Nat} {ss : List Nat} (hi : gI h = .inl (ci, ss)) : h < gNH := by
  rcases Nat.lt_or_ge h gNH with q | q
  · exact q
  · have : gIL.length ≤ h := Nat.le_trans (by decide +kernel) q
    rw [gI, List.getD_eq_getElem?_getD, List.getElem?_eq_none this] at hi
    cases hi
theorem gI_ltA {h ty n : Nat} {c : Option (Nat × Nat)} (hi : gI h = .inr (ty, n, c)) (hn : 0 < n) : h < gNH := by
  rcases Nat.lt_or_ge h gNH with q | q
  · exact q
  · have : gIL.length ≤ h := Nat.le_trans (by decide +kernel) q
    rw [gI, List.getD_eq_getElem?_getD, List.getElem?_eq_none this] at hi
    cases hi
    omega
/-- a change of one place of one cell leaves the other cells -/
theorem glay_ne {cy : Nat → ClassId} {ad : Nat → Nat} {σ σ' : gS} {h : Nat} (h1 : ∀ a, a ≠ h → σ'.1 a = σ.1 a) (h2 : ∀ a, a ≠ h → σ'.2.1 a = σ.2.1 a) (h3 : ∀ a, a ≠ h → σ'.2.2 a = σ.2.2 a) (a : Nat) (ha : a ≠ h) : glay cy ad σ' a = glay cy ad σ a := by
  have e : ∀ k s, gfv ad σ' a k s = gfv ad σ a k s := by
    intro k s
    match s with
    | 0 => simp [gfv, h1 a ha]
    | 1 => simp [gfv, h2 a ha]
    | 2 => simp [gfv, h3 a ha]
    | n + 3 => rfl
  have e2 : ∀ c i, gel σ' a c i = gel σ a c i := by
    intro c i
    cases c with
    | none => simp [gel, h3 a ha]
    | some q => rfl
  unfold glay
  split
  · simp [gfs, e]
  · simp [gar, h1 a ha, h2 a ha, e2]
def gv (ad : Nat → Nat) (v : Value) : Value := match v with
  | .ref h => .ref (ad h)
  | w => w
def gl (ad : Nat → Nat) (lv : List (Nat × Value)) : List (Nat × Value) := lv.map (fun q => (q.1, gv ad q.2))
theorem gv_cat (ad : Nat → Nat) (v : Value) : (gv ad v).category = v.category := by cases v <;> rfl
theorem gl_at {ad : Nat → Nat} {lv : List (Nat × Value)} {k i : Nat} {v : Value} (h : lv[k]? = some (i, v)) : (gl ad lv)[k]? = some (i, gv ad v) := by simp [gl, List.getElem?_map, h]
theorem gl_f1 {ad : Nat → Nat} {lv : List (Nat × Value)} {i : Nat} : (gl ad lv).filter (fun q => !(q.1 == i) && !(q.1 + 1 == i && q.2.category == 2)) = gl ad (lv.filter (fun q => !(q.1 == i) && !(q.1 + 1 == i && q.2.category == 2))) := by
  simp only [gl, List.filter_map]
  congr 1
  apply List.filter_congr
  intro x _
  simp [gv_cat]
theorem gl_f2 {ad : Nat → Nat} {lv : List (Nat × Value)} {i : Nat} : (gl ad lv).filter (fun q => !(q.1 == i) && (!(q.1 == i + 1) && !(q.1 + 1 == i && q.2.category == 2))) = gl ad (lv.filter (fun q => !(q.1 == i) && (!(q.1 == i + 1) && !(q.1 + 1 == i && q.2.category == 2)))) := by
  simp only [gl, List.filter_map]
  congr 1
  apply List.filter_congr
  intro x _
  simp [gv_cat]
theorem gl_args {ad : Nat → Nat} : ∀ (vs : List Value) (i : Nat), lv_args i (vs.map (gv ad)) = gl ad (lv_args i vs)
  | [], _ => rfl
  | v :: vs, i => by
    simp only [List.map_cons, lv_args, gl, gv_cat]
    rw [gl_args vs]
    rfl
theorem gl_pick {ad : Nat → Nat} {lv : List (Nat × Value)} : ∀ (ks : List Nat), lv_pick (gl ad lv) ks = gl ad (lv_pick lv ks)
  | [] => rfl
  | k :: ks => by
    have ih := gl_pick (ad := ad) (lv := lv) ks
    unfold lv_pick at ih ⊢
    cases hk : lv[k]? with
    | none =>
      have h2 : (gl ad lv)[k]? = none := by simp [gl, List.getElem?_map, hk]
      rw [List.filterMap_cons_none (by simpa using h2), List.filterMap_cons_none (by simpa using hk), ih]
    | some q =>
      have h2 : (gl ad lv)[k]? = some (q.1, gv ad q.2) := by simp [gl, List.getElem?_map, hk]
      rw [List.filterMap_cons_some (by simpa using h2), List.filterMap_cons_some (by simpa using hk), ih]
      rfl

/-! COUNTS: sums, sets of joints, items within a set -/
def sN (f : Nat → Nat) : Nat → Nat
  | 0 => 0
  | n + 1 => sN f n + f n
theorem sN_c {f g : Nat → Nat} : ∀ {n : Nat}, (∀ i, i < n → f i = g i) → sN f n = sN g n
  | 0, _ => rfl
  | n + 1, h => by rw [sN, sN, sN_c (fun i hi => h i (by omega)), h n (by omega)]
theorem sN_le {f g : Nat → Nat} : ∀ {n : Nat}, (∀ i, i < n → f i ≤ g i) → sN f n ≤ sN g n
  | 0, _ => Nat.le_refl _
  | n + 1, h => by
    have := sN_le (fun i hi => h i (by omega) : ∀ i, i < n → f i ≤ g i)
    have := h n (by omega)
    rw [sN, sN]
    omega
theorem sN_a {f g : Nat → Nat} : ∀ {n : Nat}, sN (fun i => f i + g i) n = sN f n + sN g n
  | 0 => rfl
  | n + 1 => by
    have := sN_a (f := f) (g := g) (n := n)
    rw [sN, sN, sN]
    omega
theorem sN_0 : ∀ {n : Nat}, sN (fun _ => 0) n = 0
  | 0 => rfl
  | n + 1 => by rw [sN, sN_0]
theorem sN_u {f : Nat → Nat} {i x : Nat} : ∀ {n : Nat}, i < n → sN (up f i x) n + f i = sN f n + x
  | 0, h => by omega
  | n + 1, h => by
    rw [sN, sN]
    by_cases q : i = n
    · subst q
      have : sN (up f i x) i = sN f i := sN_c (fun j hj => up_o (by omega))
      rw [this, up_s]
      omega
    · have := sN_u (f := f) (i := i) (x := x) (n := n) (by omega)
      rw [up_o (show n ≠ i by omega)]
      omega
theorem sN_1 {i : Nat} : ∀ {n : Nat}, i < n → sN (fun v => if v = i then 1 else 0) n = 1 := by
  intro n h
  have e := sN_u (f := fun _ => 0) (x := 1) h
  have c : sN (fun v => if v = i then 1 else 0) n = sN (up (fun _ => 0) i 1) n := sN_c (fun j _ => rfl)
  rw [sN_0] at e
  rw [c]
  exact e
def b1 (b : Bool) : Nat := if b = true then 1 else 0
/-- how many joints a set has -/
def sz (S : Nat → Bool) : Nat := sN (fun v => b1 (S v)) 24
/-- how many items lie within it -/
def cnt : List (Nat × Nat) → (Nat → Bool) → Nat
  | [], _ => 0
  | (a, b) :: E, S => cnt E S + (if S a = true ∧ S b = true then 1 else 0)
def Tight (E : List (Nat × Nat)) (a b : Nat) : Prop := ∃ S : Nat → Bool, S a = true ∧ S b = true ∧ 2 * sz S ≤ cnt E S + 3
def Sparse (E : List (Nat × Nat)) : Prop := ∀ (S : Nat → Bool) (a b : Nat), a < 24 → b < 24 → a ≠ b → S a = true → S b = true → cnt E S + 3 ≤ 2 * sz S
theorem Tight.sym {E : List (Nat × Nat)} {a b : Nat} (h : Tight E a b) : Tight E b a := by
  obtain ⟨S, h1, h2, h3⟩ := h
  exact ⟨S, h2, h1, h3⟩
theorem sz2 {S : Nat → Bool} : sN (fun v => if S v = true then 2 else 0) 24 = 2 * sz S := by
  have e : sN (fun v => if S v = true then 2 else 0) 24 = sN (fun v => b1 (S v) + b1 (S v)) 24 := sN_c (fun v _ => by unfold b1; by_cases q : S v = true <;> simp [q])
  rw [e, sN_a]
  unfold sz
  omega
theorem sz_two {S : Nat → Bool} {a b : Nat} (ha : a < 24) (hb : b < 24) (hab : a ≠ b) (h1 : S a = true) (h2 : S b = true) : 2 ≤ sz S := by
  have : sN (fun v => (if v = a then 1 else 0) + (if v = b then 1 else 0)) 24 ≤ sz S := sN_le (fun v _ => by
    unfold b1
    by_cases q1 : v = a
    · subst q1
      rw [if_pos rfl, if_neg hab, h1, if_pos rfl]; omega
    · by_cases q2 : v = b
      · subst q2
        rw [if_neg q1, if_pos rfl, h2, if_pos rfl]; omega
      · rw [if_neg q1, if_neg q2]; omega)
  rw [sN_a, sN_1 ha, sN_1 hb] at this
  omega
theorem Sparse.nil : Sparse [] := by
  intro S a b ha hb hab h1 h2
  have := sz_two ha hb hab h1 h2
  show 0 + 3 ≤ _
  omega
theorem Sparse.add {E : List (Nat × Nat)} {a b : Nat} (h : Sparse E) (ht : ¬ Tight E a b) : Sparse ((a, b) :: E) := by
  intro S c d hc hd hcd h1 h2
  have e := h S c d hc hd hcd h1 h2
  show cnt E S + (if S a = true ∧ S b = true then 1 else 0) + 3 ≤ _
  by_cases q : S a = true ∧ S b = true
  · rw [if_pos q]
    have : ¬ 2 * sz S ≤ cnt E S + 3 := fun z => ht ⟨S, q.1, q.2, z⟩
    omega
  · rw [if_neg q]
    omega
/-- weights: 2 for each joint of a set but two, which have less -/
theorem two_w {S : Nat → Bool} {a b u w : Nat} (ha : a < 24) (hb : b < 24) (hab : a ≠ b) (h1 : S a = true) (h2 : S b = true) : sN (fun v => if S v = true then (if v = a then u else if v = b then w else 2) else 0) 24 + 4 = 2 * sz S + u + w := by
  have e : sN (fun v => if S v = true then (if v = a then u else if v = b then w else 2) else 0) 24 = sN (up (up (fun v => if S v = true then 2 else 0) a u) b w) 24 := sN_c (fun v _ => by
    unfold up
    by_cases q2 : v = b
    · subst q2
      rw [if_pos h2, if_neg (fun z => hab z.symm), if_pos rfl, if_pos rfl]
    · by_cases q1 : v = a
      · subst q1
        rw [if_pos h1, if_pos rfl, if_neg q2, if_pos rfl]
      · rw [if_neg q1, if_neg q2, if_neg q2, if_neg q1])
  have e1 := sN_u (f := up (fun v => if S v = true then 2 else 0) a u) (x := w) hb
  have e2 := sN_u (f := fun v => if S v = true then 2 else 0) (x := u) ha
  rw [up_o (fun z => hab z.symm)] at e1
  rw [if_pos h2] at e1
  rw [if_pos h1, sz2] at e2
  rw [e]
  omega
theorem one_w {S : Nat → Bool} {a u : Nat} (ha : a < 24) (h1 : S a = true) : sN (fun v => if S v = true then (if v = a then u else 2) else 0) 24 + 2 = 2 * sz S + u := by
  have e : sN (fun v => if S v = true then (if v = a then u else 2) else 0) 24 = sN (up (fun v => if S v = true then 2 else 0) a u) 24 := sN_c (fun v _ => by
    unfold up
    by_cases q1 : v = a
    · subst q1
      rw [if_pos h1, if_pos rfl, if_pos rfl]
    · rw [if_neg q1, if_neg q1])
  have e2 := sN_u (f := fun v => if S v = true then 2 else 0) (x := u) ha
  rw [if_pos h1, sz2] at e2
  rw [e]
  omega
/-! pebbles: where they lead; 24: free -/
def pI (L : Nat → Nat → Nat) (S : Nat → Bool) (v q : Nat) : Nat := if S v = true ∧ L v q < 24 ∧ S (L v q) = true then 1 else 0
def ins (L : Nat → Nat → Nat) (S : Nat → Bool) : Nat := sN (fun v => pI L S v 0 + pI L S v 1) 24
def f1 (x : Nat) : Nat := if x = 24 then 1 else 0
theorem f1_le {x : Nat} : f1 x ≤ 1 := by unfold f1; split <;> omega
def frp (L : Nat → Nat → Nat) (v : Nat) : Nat := f1 (L v 0) + f1 (L v 1)
def GL (E : List (Nat × Nat)) (L : Nat → Nat → Nat) : Prop := (∀ v q, v < 24 → q < 2 → L v q ≤ 24 ∧ L v q ≠ v) ∧ ∀ S, ins L S = cnt E S
theorem pI_le {L : Nat → Nat → Nat} {S : Nat → Bool} {v q : Nat} : pI L S v q ≤ 1 - f1 (L v q) := by
  unfold pI f1
  by_cases z : L v q = 24
  · rw [if_pos z, if_neg (fun y => by omega)]; omega
  · rw [if_neg z]; split <;> omega
theorem GL.yes {E : List (Nat × Nat)} {L : Nat → Nat → Nat} {a b : Nat} (h : GL E L) (ha : a < 24) (hb : b < 24) (hab : a ≠ b) (h1 : frp L a = 2) (h2 : frp L b = 2) : ¬ Tight E a b := by
  rintro ⟨S, s1, s2, s3⟩
  have e := two_w (u := 0) (w := 0) ha hb hab s1 s2
  have le : ins L S ≤ sN (fun v => if S v = true then (if v = a then 0 else if v = b then 0 else 2) else 0) 24 := sN_le (fun v hv => by
    have p0 := pI_le (L := L) (S := S) (v := v) (q := 0)
    have p1 := pI_le (L := L) (S := S) (v := v) (q := 1)
    have l0 := f1_le (x := L v 0)
    have l1 := f1_le (x := L v 1)
    by_cases q : S v = true
    · rw [if_pos q]
      by_cases qa : v = a
      · subst qa
        rw [if_pos rfl]
        unfold frp at h1
        omega
      · by_cases qb : v = b
        · subst qb
          rw [if_neg qa, if_pos rfl]
          unfold frp at h2
          omega
        · rw [if_neg qa, if_neg qb]
          omega
    · rw [if_neg q]
      unfold pI
      rw [if_neg (fun z => q z.1), if_neg (fun z => q z.1)]
      omega)
  rw [h.2 S] at le
  omega
/-- a set that no pebble leads out of -/
def clo (L : Nat → Nat → Nat) (R : Nat → Bool) : Prop := ∀ v q, v < 24 → q < 2 → R v = true → L v q < 24 → R (L v q) = true
theorem clo_in {E : List (Nat × Nat)} {L : Nat → Nat → Nat} {R : Nat → Bool} (h : GL E L) (hc : clo L R) : ins L R = sN (fun v => if R v = true then 2 - frp L v else 0) 24 := sN_c (fun v hv => by
  have one : ∀ q, q < 2 → R v = true → pI L R v q = 1 - f1 (L v q) := by
    intro q hq hr
    have b := (h.1 v q hv hq).1
    unfold pI f1
    by_cases z : L v q = 24
    · rw [if_pos z, if_neg (fun y => by omega)]
    · rw [if_neg z, if_pos ⟨hr, by omega, hc v q hv hq hr (by omega)⟩]
  by_cases q : R v = true
  · rw [if_pos q, one 0 (by omega) q, one 1 (by omega) q]
    have : f1 (L v 0) ≤ 1 := by unfold f1; split <;> omega
    have : f1 (L v 1) ≤ 1 := by unfold f1; split <;> omega
    unfold frp
    omega
  · rw [if_neg q]
    unfold pI
    rw [if_neg (fun z => q z.1), if_neg (fun z => q z.1)])
theorem GL.no2 {E : List (Nat × Nat)} {L : Nat → Nat → Nat} {R : Nat → Bool} {a b : Nat} (h : GL E L) (hc : clo L R) (ha : a < 24) (hb : b < 24) (hab : a ≠ b) (h1 : R a = true) (h2 : R b = true) (h0 : ∀ v, v < 24 → R v = true → v ≠ a → v ≠ b → frp L v = 0) (hf : frp L a + frp L b ≤ 3) : Tight E a b := by
  refine ⟨R, h1, h2, ?_⟩
  have f2 : ∀ v, frp L v ≤ 2 := fun v => by
    have : f1 (L v 0) ≤ 1 := by unfold f1; split <;> omega
    have : f1 (L v 1) ≤ 1 := by unfold f1; split <;> omega
    unfold frp
    omega
  have e := two_w (u := 2 - frp L a) (w := 2 - frp L b) ha hb hab h1 h2
  have c : sN (fun v => if R v = true then (if v = a then 2 - frp L a else if v = b then 2 - frp L b else 2) else 0) 24 = sN (fun v => if R v = true then 2 - frp L v else 0) 24 := sN_c (fun v hv => by
    by_cases q : R v = true
    · rw [if_pos q, if_pos q]
      by_cases qa : v = a
      · subst qa; rw [if_pos rfl]
      · by_cases qb : v = b
        · subst qb; rw [if_neg qa, if_pos rfl]
        · rw [if_neg qa, if_neg qb, h0 v hv q qa qb]
    · rw [if_neg q, if_neg q])
  rw [c, ← clo_in h hc, h.2 R] at e
  have := f2 a
  have := f2 b
  omega
theorem GL.no1 {E : List (Nat × Nat)} {L : Nat → Nat → Nat} {R : Nat → Bool} {a : Nat} (hs : Sparse E) (h : GL E L) (hc : clo L R) (ha : a < 24) (h1 : R a = true) (h0 : ∀ v, v < 24 → R v = true → v ≠ a → frp L v = 0) (hf : frp L a < 2) : False := by
  have nx : ∃ q, q < 2 ∧ L a q < 24 := by
    have b0 := (h.1 a 0 ha (by omega)).1
    have b1 := (h.1 a 1 ha (by omega)).1
    unfold frp f1 at hf
    by_cases z0 : L a 0 = 24
    · by_cases z1 : L a 1 = 24
      · rw [if_pos z0, if_pos z1] at hf; omega
      · exact ⟨1, by omega, by omega⟩
    · exact ⟨0, by omega, by omega⟩
  obtain ⟨q, q2, q3⟩ := nx
  have sp := hs R a (L a q) ha q3 (fun z => (h.1 a q ha q2).2 z.symm) h1 (hc a q ha q2 h1 q3)
  have e := one_w (u := 2 - frp L a) ha h1
  have c : sN (fun v => if R v = true then (if v = a then 2 - frp L a else 2) else 0) 24 = sN (fun v => if R v = true then 2 - frp L v else 0) 24 := sN_c (fun v hv => by
    by_cases q : R v = true
    · rw [if_pos q, if_pos q]
      by_cases qa : v = a
      · subst qa; rw [if_pos rfl]
      · rw [if_neg qa, h0 v hv q qa]
    · rw [if_neg q, if_neg q])
  rw [c, ← clo_in h hc, h.2 R] at e
  omega
/-- one pebble more or turned: what lies within a set -/
def upL (L : Nat → Nat → Nat) (v q x : Nat) : Nat → Nat → Nat := up L v (up (L v) q x)
theorem upL_s {L : Nat → Nat → Nat} {v q x : Nat} : upL L v q x v q = x := by unfold upL; rw [up_s, up_s]
theorem upL_o {L : Nat → Nat → Nat} {v q x w p : Nat} (h : ¬ (w = v ∧ p = q)) : upL L v q x w p = L w p := by
  unfold upL
  by_cases z : w = v
  · subst z; rw [up_s, up_o (fun y => h ⟨rfl, y⟩)]
  · rw [up_o z]
theorem ins_u {L : Nat → Nat → Nat} {S : Nat → Bool} {v q x : Nat} (hv : v < 24) (hq : q < 2) : ins (upL L v q x) S + pI L S v q = ins L S + (if S v = true ∧ x < 24 ∧ S x = true then 1 else 0) := by
  have c : ins (upL L v q x) S = sN (up (fun w => pI L S w 0 + pI L S w 1) v (pI (upL L v q x) S v 0 + pI (upL L v q x) S v 1)) 24 := sN_c (fun w hw => by
    by_cases z : w = v
    · subst z; rw [up_s]
    · rw [up_o z]
      unfold pI
      rw [upL_o (fun y => z y.1), upL_o (fun y => z y.1)])
  have e := sN_u (f := fun w => pI L S w 0 + pI L S w 1) (x := pI (upL L v q x) S v 0 + pI (upL L v q x) S v 1) hv
  rw [← c] at e
  have new : pI (upL L v q x) S v q = (if S v = true ∧ x < 24 ∧ S x = true then 1 else 0) := by unfold pI; rw [upL_s]
  rcases (show q = 0 ∨ q = 1 by omega) with rfl | rfl
  · have old : pI (upL L v 0 x) S v 1 = pI L S v 1 := by unfold pI; rw [upL_o (by omega)]
    rw [old, new] at e
    have e : ins (upL L v 0 x) S + (pI L S v 0 + pI L S v 1) = ins L S + ((if S v = true ∧ x < 24 ∧ S x = true then 1 else 0) + pI L S v 1) := e
    omega
  · have old : pI (upL L v 1 x) S v 0 = pI L S v 0 := by unfold pI; rw [upL_o (by omega)]
    rw [old, new] at e
    have e : ins (upL L v 1 x) S + (pI L S v 0 + pI L S v 1) = ins L S + (pI L S v 0 + (if S v = true ∧ x < 24 ∧ S x = true then 1 else 0)) := e
    omega
theorem GL.offer {E : List (Nat × Nat)} {L : Nat → Nat → Nat} {a b : Nat} (h : GL E L) (ha : a < 24) (hb : b < 24) (hab : a ≠ b) (hf : L a 0 = 24) : GL ((a, b) :: E) (upL L a 0 b) := by
  refine ⟨fun v q hv hq => ?_, fun S => ?_⟩
  · by_cases z : v = a ∧ q = 0
    · obtain ⟨rfl, rfl⟩ := z
      rw [upL_s]
      exact ⟨by omega, fun z => hab z.symm⟩
    · rw [upL_o z]; exact h.1 v q hv hq
  · have e := ins_u (L := L) (S := S) (x := b) ha (show 0 < 2 by omega)
    have z : pI L S a 0 = 0 := by unfold pI; rw [if_neg (fun y => by omega)]
    rw [z, h.2 S] at e
    show _ = cnt E S + _
    by_cases q : S a = true ∧ S b = true
    · rw [if_pos ⟨q.1, hb, q.2⟩] at e
      rw [if_pos q]; omega
    · rw [if_neg (fun y => q ⟨y.1, y.2.2⟩)] at e
      rw [if_neg q]; omega
/-- an item turned about -/
theorem GL.turn {E : List (Nat × Nat)} {L : Nat → Nat → Nat} {v w q r : Nat} (h : GL E L) (hv : v < 24) (hw : w < 24) (hvw : v ≠ w) (hq : q < 2) (hr : r < 2) (h1 : L v q = 24) (h2 : L w r = v) : GL E (upL (upL L v q w) w r 24) := by
  refine ⟨fun u s hu hs => ?_, fun S => ?_⟩
  · by_cases z : u = w ∧ s = r
    · obtain ⟨rfl, rfl⟩ := z
      rw [upL_s]; omega
    · rw [upL_o z]
      by_cases y : u = v ∧ s = q
      · obtain ⟨rfl, rfl⟩ := y
        rw [upL_s]
        exact ⟨by omega, fun z => hvw z.symm⟩
      · rw [upL_o y]; exact h.1 u s hu hs
  · have e1 := ins_u (L := L) (S := S) (x := w) hv hq
    have e2 := ins_u (L := upL L v q w) (S := S) (x := 24) hw hr
    have z1 : pI L S v q = 0 := by unfold pI; rw [if_neg (fun y => by omega)]
    have z2 : pI (upL L v q w) S w r = (if S w = true ∧ v < 24 ∧ S v = true then 1 else 0) := by unfold pI; rw [upL_o (fun y => hvw y.1.symm), h2]
    rw [if_neg (fun y => by omega), z2] at e2
    rw [z1, h.2 S] at e1
    by_cases q : S v = true ∧ S w = true
    · rw [if_pos ⟨q.1, hw, q.2⟩] at e1
      rw [if_pos ⟨q.2, hv, q.1⟩] at e2
      omega
    · rw [if_neg (fun y => q ⟨y.1, y.2.2⟩)] at e1
      rw [if_neg (fun y => q ⟨y.2.2, y.1⟩)] at e2
      omega
theorem frp_le {L : Nat → Nat → Nat} {v : Nat} : frp L v ≤ 2 := by
  have : f1 (L v 0) ≤ 1 := by unfold f1; split <;> omega
  have : f1 (L v 1) ≤ 1 := by unfold f1; split <;> omega
  unfold frp
  omega
theorem frp_u {L : Nat → Nat → Nat} {v q x : Nat} (hq : q < 2) : frp (upL L v q x) v + f1 (L v q) = frp L v + f1 x := by
  unfold frp
  rcases (show q = 0 ∨ q = 1 by omega) with rfl | rfl
  · rw [upL_s, upL_o (by omega)]; omega
  · rw [upL_s, upL_o (by omega)]; omega
theorem frp_o {L : Nat → Nat → Nat} {v q x w : Nat} (h : w ≠ v) : frp (upL L v q x) w = frp L w := by
  unfold frp
  rw [upL_o (fun z => h z.1), upL_o (fun z => h z.1)]

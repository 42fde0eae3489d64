/-! TURNING: places as data; one joint is hung -/
abbrev PT : Type := (Nat → Int64) × (Nat → Int64) × (Nat → Nat)
abbrev pX (P : PT) : Nat → Int64 := P.1
abbrev pY (P : PT) : Nat → Int64 := P.2.1
abbrev pW (P : PT) : Nat → Nat := P.2.2
def uR (P : PT) (j r : Nat) : PT := (pX P, pY P, up (pW P) j r)
def uP (P : PT) (j : Nat) (x y : Int64) : PT := (up (pX P) j x, up (pY P) j y, up (pW P) j 0)
def farI (P : PT) (a b : Nat) : Int64 := (pX P b - pX P a) * (pX P b - pX P a) + (pY P b - pY P a) * (pY P b - pY P a)
def alg (D : DT) (P : PT) (j a b : Nat) : Int64 := 32768 + fdv (32768 * (lN (1048576 * sqJ D j a) - lN (1048576 * sqJ D j b))) (farI P a b)
def rst (D : DT) (P : PT) (j a b : Nat) : Int64 := lN (2 ^ 32 * (1048576 * sqJ D j a) / (farI P a b).toInt.toNat) - alg D P j a b * alg D P j a b
noncomputable def ofs (D : DT) (P : PT) (j a b : Nat) (s : Int32) : Int64 := s.toInt64 * lN (rtN (rst D P j a b).toInt.toNat)
noncomputable def hnX (D : DT) (P : PT) (j a b : Nat) (s : Int32) : Int64 := pX P a + fdv (alg D P j a b * (pX P b - pX P a) - ofs D P j a b s * (pY P b - pY P a)) 65536
noncomputable def hnY (D : DT) (P : PT) (j a b : Nat) (s : Int32) : Int64 := pY P a + fdv (alg D P j a b * (pY P b - pY P a) + ofs D P j a b s * (pX P b - pX P a)) 65536
noncomputable def hgP (D : DT) (O : OT) (P : PT) (j : Nat) : PT :=
  if pW P (oA O j) ≠ 0 ∨ pW P (oB O j) ≠ 0 then uR P j 3 else
  if (farI P (oA O j) (oB O j)).toInt < 1048576 then uR P j 2 else
  if (alg D P j (oA O j) (oB O j)).toInt < -268435456 ∨ 268435456 < (alg D P j (oA O j) (oB O j)).toInt then uR P j 2 else
  if (rst D P j (oA O j) (oB O j)).toInt < 0 then uR P j 2 else
  uP P j (hnX D P j (oA O j) (oB O j) (osd O j)) (hnY D P j (oA O j) (oB O j) (osd O j))
/-- all that are placed are within m -/
def pBd (D : DT) (P : PT) (m : Nat) : Prop := ∀ j, j < dn D 0 → (pW P j ≤ 3) ∧ (pW P j = 0 → (pX P j).toInt.natAbs ≤ m ∧ (pY P j).toInt.natAbs ≤ m)
section HNG
variable {D : DT} {O : OT} {P : PT} {j a b m : Nat}
/-- the numbers of one meet: none is too large -/
theorem meet (v : WFb D) (hj : j < dn D 0) (ha : a < dn D 0) (hb : b < dn D 0) (hm : m ≤ 65942510) (hP : pBd D P m) (wa : pW P a = 0) (wb : pW P b = 0) :
    (pX P b - pX P a).toInt.natAbs ≤ 131885020 ∧ (pY P b - pY P a).toInt.natAbs ≤ 131885020 ∧
    (farI P a b).toInt = (pX P b - pX P a).toInt * (pX P b - pX P a).toInt + (pY P b - pY P a).toInt * (pY P b - pY P a).toInt ∧ 0 ≤ (farI P a b).toInt ∧ (farI P a b).toInt < 36028797018963968 ∧
    -4611686018427387904 < (32768 * (lN (1048576 * sqJ D j a) - lN (1048576 * sqJ D j b))).toInt ∧ (32768 * (lN (1048576 * sqJ D j a) - lN (1048576 * sqJ D j b))).toInt < 4611686018427387904 := by
  obtain ⟨a1, a2⟩ := (hP a ha).2 wa
  obtain ⟨b1, b2⟩ := (hP b hb).2 wb
  have ex := sub64 (a := pX P b) (b := pX P a) (by omega) (by omega)
  have ey := sub64 (a := pY P b) (b := pY P a) (by omega) (by omega)
  have wx : (pX P b - pX P a).toInt.natAbs ≤ 131885020 := by rw [ex]; omega
  have wy : (pY P b - pY P a).toInt.natAbs ≤ 131885020 := by rw [ey]; omega
  have mx := mulN wx wx
  have my := mulN wy wy
  have sx := sq_0 (pX P b - pX P a).toInt
  have sy := sq_0 (pY P b - pY P a).toInt
  have fx := mul64 (a := pX P b - pX P a) (b := pX P b - pX P a) (by omega) (by omega)
  have fy := mul64 (a := pY P b - pY P a) (b := pY P b - pY P a) (by omega) (by omega)
  have ef : (farI P a b).toInt = (pX P b - pX P a).toInt * (pX P b - pX P a).toInt + (pY P b - pY P a).toInt * (pY P b - pY P a).toInt := by
    unfold farI
    rw [add64 (by rw [fx, fy]; omega) (by rw [fx, fy]; omega), fx, fy]
  have s1 := sqJ_b v hj ha
  have s2 := sqJ_b v hj hb
  have l1 := pk_lT (n := 1048576 * sqJ D j a) (by omega)
  have l2 := pk_lT (n := 1048576 * sqJ D j b) (by omega)
  have e1 := sub64 (a := lN (1048576 * sqJ D j a)) (b := lN (1048576 * sqJ D j b)) (by rw [l1, l2]; omega) (by rw [l1, l2]; omega)
  have c3 : (32768 : Int64).toInt = 32768 := rfl
  have e2 := mul64 (a := 32768) (b := lN (1048576 * sqJ D j a) - lN (1048576 * sqJ D j b)) (by rw [e1, l1, l2, c3]; omega) (by rw [e1, l1, l2, c3]; omega)
  rw [e2, e1, l1, l2, c3, ef]
  exact ⟨wx, wy, rfl, by omega, by omega, by omega, by omega⟩
theorem nb62 {t : Int} (h : t.natAbs ≤ 189812572160) : -4611686018427387904 < t ∧ t < 4611686018427387904 := by omega
theorem pos_b {x z : Int64} {t : Int} (h : x.toInt.natAbs ≤ m) (hm : m ≤ 65942510) (ht : t.natAbs ≤ 189812572160) (hz : z.toInt = t / 65536) : (x + z).toInt.natAbs ≤ m + 2896310 := by
  have : z.toInt.natAbs ≤ 2896310 := by omega
  rw [add64 (by omega) (by omega)]
  omega
theorem ms64 {a b c d : Int64} (ha : a.toInt.natAbs ≤ 268435456) (hb : b.toInt.natAbs ≤ 131885020) (hc : c.toInt.natAbs ≤ 268435456) (hd : d.toInt.natAbs ≤ 131885020) : (a * b - c * d).toInt = a.toInt * b.toInt - c.toInt * d.toInt ∧ (a * b + c * d).toInt = a.toInt * b.toInt + c.toInt * d.toInt := by
  have m1 := mulN ha hb
  have m2 := mulN hc hd
  have e1 := mul64 (a := a) (b := b) (by omega) (by omega)
  have e2 := mul64 (a := c) (b := d) (by omega) (by omega)
  exact ⟨by rw [sub64 (by rw [e1, e2]; omega) (by rw [e1, e2]; omega), e1, e2], by rw [add64 (by rw [e1, e2]; omega) (by rw [e1, e2]; omega), e1, e2]⟩
theorem two_sq {p q aa vv F W : Int} {s : Nat} (L : p * p + q * q = (aa + vv) * F) (h1 : vv ≤ W - aa) (hF : 0 ≤ F) (h2 : W * F ≤ (2 ^ 32 * (1048576 * s) : Nat)) (hs : s ≤ 8000000) : p.natAbs ≤ 189812572160 ∧ q.natAbs ≤ 189812572160 := by
  have lim : (aa + vv) * F ≤ W * F := Int.mul_le_mul_of_nonneg_right (by omega) hF
  have q1 := sq_0 p
  have q2 := sq_0 q
  exact ⟨sq_lt (by omega), sq_lt (by omega)⟩
theorem rt_b {n : Nat} (h : n < 36028797018963968) : rtN n ≤ 268435456 := by
  refine Nat.le_of_not_lt fun z => ?_
  have := Nat.mul_le_mul (show 268435457 ≤ rtN n from z) (show 268435457 ≤ rtN n from z)
  have := (rtN_R n).1
  omega
/-- where it comes: not far from A -/
theorem meet2 (v : WFb D) (hj : j < dn D 0) (ha : a < dn D 0) (hb : b < dn D 0) (hm : m ≤ 65942510) (hP : pBd D P m) (wa : pW P a = 0) (wb : pW P b = 0) {s : Int32} (hs : s = 1 ∨ s = -1) (h1 : 1048576 ≤ (farI P a b).toInt) (h2 : -268435456 ≤ (alg D P j a b).toInt) (h3 : (alg D P j a b).toInt ≤ 268435456) :
    (rst D P j a b).toInt < 36028797018963968 ∧ (0 ≤ (rst D P j a b).toInt →
      -4611686018427387904 < (alg D P j a b * (pX P b - pX P a) - ofs D P j a b s * (pY P b - pY P a)).toInt ∧ (alg D P j a b * (pX P b - pX P a) - ofs D P j a b s * (pY P b - pY P a)).toInt < 4611686018427387904 ∧
      -4611686018427387904 < (alg D P j a b * (pY P b - pY P a) + ofs D P j a b s * (pX P b - pX P a)).toInt ∧ (alg D P j a b * (pY P b - pY P a) + ofs D P j a b s * (pX P b - pX P a)).toInt < 4611686018427387904 ∧
      (hnX D P j a b s).toInt.natAbs ≤ m + 2896310 ∧ (hnY D P j a b s).toInt.natAbs ≤ m + 2896310) := by
  obtain ⟨wx, wy, ef, f0, f1, -, -⟩ := meet v hj ha hb hm hP wa wb
  obtain ⟨a1, a2⟩ := (hP a ha).2 wa
  have s1 := sqJ_b v hj ha
  have al : (alg D P j a b).toInt.natAbs ≤ 268435456 := by omega
  have aa := mulN al al
  have a0 := sq_0 (alg D P j a b).toInt
  have ea := mul64 (a := alg D P j a b) (b := alg D P j a b) (by omega) (by omega)
  have dN : ((farI P a b).toInt.toNat : Int) = (farI P a b).toInt := Int.toNat_of_nonneg f0
  have W1 : 2 ^ 32 * (1048576 * sqJ D j a) / (farI P a b).toInt.toNat ≤ 2 ^ 32 * (1048576 * sqJ D j a) / 1048576 := Nat.div_le_div_left (by omega) (by decide)
  have W2 : 2 ^ 32 * (1048576 * sqJ D j a) / 1048576 = 2 ^ 32 * sqJ D j a := by rw [Nat.mul_left_comm, Nat.mul_div_cancel_left _ (by decide)]
  have W3 : 2 ^ 32 * (1048576 * sqJ D j a) / (farI P a b).toInt.toNat * (farI P a b).toInt.toNat ≤ 2 ^ 32 * (1048576 * sqJ D j a) := Nat.div_mul_le_self _ _
  generalize hW : 2 ^ 32 * (1048576 * sqJ D j a) / (farI P a b).toInt.toNat = W at *
  have lW := pk_lT (n := W) (by omega)
  have er : (rst D P j a b).toInt = W - (alg D P j a b).toInt * (alg D P j a b).toInt := by
    unfold rst
    rw [hW, sub64 (by rw [ea, lW]; omega) (by rw [ea, lW]; omega), ea, lW]
  have rl : (rst D P j a b).toInt < 36028797018963968 := by rw [er]; omega
  refine ⟨rl, fun r0 => ?_⟩
  have W4 : (W : Int) * (farI P a b).toInt ≤ (2 ^ 32 * (1048576 * sqJ D j a) : Nat) := by
    rw [← dN, ← Int.natCast_mul]
    exact Int.ofNat_le.mpr W3
  have hV : rtN (rst D P j a b).toInt.toNat * rtN (rst D P j a b).toInt.toNat ≤ (rst D P j a b).toInt.toNat := (rtN_R (rst D P j a b).toInt.toNat).1
  have vb := rt_b (n := (rst D P j a b).toInt.toNat) (by omega)
  have vv : ((rtN (rst D P j a b).toInt.toNat * rtN (rst D P j a b).toInt.toNat : Nat) : Int) ≤ W - (alg D P j a b).toInt * (alg D P j a b).toInt := by omega
  clear W1 W2 W3 hW lW er rl ea a0 aa dN f1 hV
  have eo : (ofs D P j a b s).toInt.natAbs ≤ 268435456 ∧ (ofs D P j a b s).toInt * (ofs D P j a b s).toInt = (rtN (rst D P j a b).toInt.toNat * rtN (rst D P j a b).toInt.toNat : Nat) := by
    unfold ofs
    generalize rtN (rst D P j a b).toInt.toNat = V at *
    have lV := pk_lT (n := V) (by omega)
    rcases hs with rfl | rfl
    · rw [show (1 : Int32).toInt64 = 1 from rfl, Int64.one_mul, lV]
      exact ⟨by omega, (Int.natCast_mul V V).symm⟩
    · rw [show (-1 : Int32).toInt64 = -1 from rfl, Int64.neg_mul, Int64.one_mul, neg64 (by rw [lV]; omega), lV, Int.neg_mul_neg]
      exact ⟨by omega, (Int.natCast_mul V V).symm⟩
  have g1 := (ms64 al wx eo.1 wy).1
  have g2 := (ms64 al wy eo.1 wx).2
  have L := lagr (alg D P j a b).toInt (ofs D P j a b s).toInt (pX P b - pX P a).toInt (pY P b - pY P a).toInt
  rw [← g1, ← g2, ← ef, eo.2] at L
  obtain ⟨t1, t2⟩ := two_sq L vv f0 W4 s1
  obtain ⟨n1, n2⟩ := nb62 t1
  obtain ⟨n3, n4⟩ := nb62 t2
  have d1 := (fdv_I (a := alg D P j a b * (pX P b - pX P a) - ofs D P j a b s * (pY P b - pY P a)) (b := 65536) (by decide) n1 n2).1
  have d2 := (fdv_I (a := alg D P j a b * (pY P b - pY P a) + ofs D P j a b s * (pX P b - pX P a)) (b := 65536) (by decide) n3 n4).1
  exact ⟨n1, n2, n3, n4, pos_b a1 hm t1 d1, pos_b a2 hm t2 d2⟩
theorem uR_b {r : Nat} (hr : r = 2 ∨ r = 3) {m' : Nat} (h : m ≤ m') (hP : pBd D P m) : pBd D (uR P j r) m' := by
  intro x hx
  show up (pW P) j r x ≤ 3 ∧ (up (pW P) j r x = 0 → _)
  by_cases z : x = j
  · subst z
    rw [up_s]
    exact ⟨by omega, fun y => by omega⟩
  · rw [up_o z]
    have q := hP x hx
    exact ⟨q.1, fun y => by have := q.2 y; exact ⟨Nat.le_trans this.1 h, Nat.le_trans this.2 h⟩⟩
theorem hgP_b (v : WFb D) (hj : j < dn D 0) (ha : oA O j < dn D 0) (hb : oB O j < dn D 0) (hs : osd O j = 1 ∨ osd O j = -1) (hm : m ≤ 65942510) (hP : pBd D P m) : pBd D (hgP D O P j) (m + 2896310) := by
  unfold hgP
  by_cases q1 : pW P (oA O j) ≠ 0 ∨ pW P (oB O j) ≠ 0
  · rw [if_pos q1]; exact uR_b (Or.inr rfl) (by omega) hP
  · have wa : pW P (oA O j) = 0 := Classical.byContradiction fun z => q1 (Or.inl z)
    have wb : pW P (oB O j) = 0 := Classical.byContradiction fun z => q1 (Or.inr z)
    rw [if_neg q1]
    by_cases q2 : (farI P (oA O j) (oB O j)).toInt < 1048576
    · rw [if_pos q2]; exact uR_b (Or.inl rfl) (by omega) hP
    · rw [if_neg q2]
      by_cases q3 : (alg D P j (oA O j) (oB O j)).toInt < -268435456 ∨ 268435456 < (alg D P j (oA O j) (oB O j)).toInt
      · rw [if_pos q3]; exact uR_b (Or.inl rfl) (by omega) hP
      · rw [if_neg q3]
        by_cases q4 : (rst D P j (oA O j) (oB O j)).toInt < 0
        · rw [if_pos q4]; exact uR_b (Or.inl rfl) (by omega) hP
        · rw [if_neg q4]
          obtain ⟨-, k⟩ := meet2 v hj ha hb hm hP wa wb hs (by omega) (by omega) (by omega)
          obtain ⟨-, -, -, -, k5, k6⟩ := k (by omega)
          intro x hx
          show up (pW P) j 0 x ≤ 3 ∧ (up (pW P) j 0 x = 0 → (up (pX P) j _ x).toInt.natAbs ≤ _ ∧ (up (pY P) j _ x).toInt.natAbs ≤ _)
          by_cases z : x = j
          · subst z
            rw [up_s, up_s, up_s]
            exact ⟨by omega, fun _ => ⟨k5, k6⟩⟩
          · rw [up_o z, up_o z, up_o z]
            have q := hP x hx
            exact ⟨q.1, fun y => by have := q.2 y; exact ⟨by omega, by omega⟩⟩
/-- others stay -/
theorem hgP_o {x : Nat} (hx : x ≠ j) : pW (hgP D O P j) x = pW P x ∧ pX (hgP D O P j) x = pX P x ∧ pY (hgP D O P j) x = pY P x := by
  have r : ∀ r, pW (uR P j r) x = pW P x ∧ pX (uR P j r) x = pX P x ∧ pY (uR P j r) x = pY P x := fun r => ⟨up_o hx, rfl, rfl⟩
  have q : ∀ a b, pW (uP P j a b) x = pW P x ∧ pX (uP P j a b) x = pX P x ∧ pY (uP P j a b) x = pY P x := fun a b => ⟨up_o hx, up_o hx, up_o hx⟩
  unfold hgP
  split
  · exact r 3
  · split
    · exact r 2
    · split
      · exact r 2
      · split
        · exact r 2
        · exact q _ _
end HNG

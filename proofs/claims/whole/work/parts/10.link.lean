theorem fl_RX3_32 : gFl RX3 32 3 6 := ⟨RX3, TX3, 10, rfl, by decide, ux_3, Or.inl (gm 159 (by decide +kernel) rfl)⟩
def mX3_size : gM := (yX3_size, cX3_size, RX3, 2, (some .int), 0, 0)
theorem dX3_size_0 : decode mX3_size.2.1 0 = .ok (.aload_n 0, 1) := by decide +kernel
theorem dX3_size_1 : decode mX3_size.2.1 1 = .ok (.getfield 32, 3) := by decide +kernel
theorem dX3_size_4 : decode mX3_size.2.1 4 = .ok (.iload_n 1, 1) := by decide +kernel
theorem dX3_size_5 : decode mX3_size.2.1 5 = .ok (.iaload, 1) := by decide +kernel
theorem dX3_size_6 : decode mX3_size.2.1 6 = .ok (.ireturn, 1) := by decide +kernel
def fX3_size (t : Nat) (p1 : Int32) (σ : gS) : Option (Int32 × gS) :=
  gg (¬ (p1 < 0 ∨ 4 ≤ p1.toNatClampNeg)) (
  some (σ.1 (t + 11) p1.toNatClampNeg, σ))
set_option maxHeartbeats 4000000 in
set_option maxRecDepth 100000 in
theorem pX3_size {E : gE} {t : Nat} {p1 : Int32} {r : Int32} {σ' : gS} {σ : gS} (ht : gLk t) (h : fX3_size t p1 σ = some (r, σ')) : gG E mX3_size 0 [(0, .ref t), (1, .int p1)] [] σ (some (.int r)) σ' := by
  unfold fX3_size at h
  refine g_aload_n dX3_size_0 rfl 0 rfl ?_
  refine g_getC (n := (t + 11)) dX3_size_1 (gi_lk ht) rfl fl_RX3_32 ?_
  refine g_iload_n dX3_size_4 rfl 1 rfl ?_
  obtain ⟨g1, h⟩ := gg_some h
  refine g_iald dX3_size_5 (gi_lk11 ht) g1 ?_
  cases h
  exact g_iret dX3_size_6 rfl
theorem zX3_size {E : gE} {t : Nat} {p1 : Int32} {r : Int32} {σ σ' : gS} (ht : gLk t) (h : fX3_size t p1 σ = some (r, σ')) : gC E mX3_size [.ref t, .int p1] σ (some (.int r)) σ' :=
  gC_of (by decide +kernel) rfl (Nat.le_of_ble_eq_true rfl) (pX3_size ht h)
theorem fl_RX3_18 : gFl RX3 18 3 2 := ⟨RX3, TX3, 10, rfl, by decide, ux_3, Or.inl (gm 153 (by decide +kernel) rfl)⟩
theorem fl_RX3_29 : gFl RX3 29 3 5 := ⟨RX3, TX3, 10, rfl, by decide, ux_3, Or.inl (gm 158 (by decide +kernel) rfl)⟩
def mX3_firstOf : gM := (yX3_firstOf, cX3_firstOf, RX3, 3, (some .int), 0, 0)
theorem dX3_firstOf_0 : decode mX3_firstOf.2.1 0 = .ok (.aload_n 0, 1) := by decide +kernel
theorem dX3_firstOf_1 : decode mX3_firstOf.2.1 1 = .ok (.getfield 18, 3) := by decide +kernel
theorem dX3_firstOf_4 : decode mX3_firstOf.2.1 4 = .ok (.aload_n 0, 1) := by decide +kernel
theorem dX3_firstOf_5 : decode mX3_firstOf.2.1 5 = .ok (.getfield 29, 3) := by decide +kernel
theorem dX3_firstOf_8 : decode mX3_firstOf.2.1 8 = .ok (.iload_n 1, 1) := by decide +kernel
theorem dX3_firstOf_9 : decode mX3_firstOf.2.1 9 = .ok (.aaload, 1) := by decide +kernel
theorem dX3_firstOf_10 : decode mX3_firstOf.2.1 10 = .ok (.iload_n 2, 1) := by decide +kernel
theorem dX3_firstOf_11 : decode mX3_firstOf.2.1 11 = .ok (.iaload, 1) := by decide +kernel
theorem dX3_firstOf_12 : decode mX3_firstOf.2.1 12 = .ok (.iaload, 1) := by decide +kernel
theorem dX3_firstOf_13 : decode mX3_firstOf.2.1 13 = .ok (.ireturn, 1) := by decide +kernel
def fX3_firstOf (t : Nat) (p1 : Int32) (p2 : Int32) (σ : gS) : Option (Int32 × gS) :=
  gg (¬ (p1 < 0 ∨ 4 ≤ p1.toNatClampNeg)) (
  gg (¬ (p2 < 0 ∨ 60 ≤ p2.toNatClampNeg)) (
  gg (¬ (σ.1 (t + 7 + 1 * p1.toNatClampNeg) p2.toNatClampNeg < 0 ∨ 130 ≤ (σ.1 (t + 7 + 1 * p1.toNatClampNeg) p2.toNatClampNeg).toNatClampNeg)) (
  some (σ.1 (t + 3) ((σ.1 (t + 7 + 1 * p1.toNatClampNeg) p2.toNatClampNeg).toNatClampNeg), σ))))
set_option maxHeartbeats 4000000 in
set_option maxRecDepth 100000 in
theorem pX3_firstOf {E : gE} {t : Nat} {p1 : Int32} {p2 : Int32} {r : Int32} {σ' : gS} {σ : gS} (ht : gLk t) (h : fX3_firstOf t p1 p2 σ = some (r, σ')) : gG E mX3_firstOf 0 [(0, .ref t), (1, .int p1), (2, .int p2)] [] σ (some (.int r)) σ' := by
  unfold fX3_firstOf at h
  refine g_aload_n dX3_firstOf_0 rfl 0 rfl ?_
  refine g_getC (n := (t + 3)) dX3_firstOf_1 (gi_lk ht) rfl fl_RX3_18 ?_
  refine g_aload_n dX3_firstOf_4 rfl 0 rfl ?_
  refine g_getC (n := (t + 6)) dX3_firstOf_5 (gi_lk ht) rfl fl_RX3_29 ?_
  refine g_iload_n dX3_firstOf_8 rfl 1 rfl ?_
  obtain ⟨g1, h⟩ := gg_some h
  refine g_aaldA dX3_firstOf_9 (gi_lk6 ht) g1 ?_
  refine g_topr (y := (t + 7 + 1 * p1.toNatClampNeg)) rfl ?_
  refine g_iload_n dX3_firstOf_10 rfl 2 rfl ?_
  obtain ⟨g2, h⟩ := gg_some h
  refine g_iald dX3_firstOf_11 (gi_lkm ht (vp_lt g1)) g2 ?_
  obtain ⟨g3, h⟩ := gg_some h
  refine g_iald dX3_firstOf_12 (gi_lk3 ht) g3 ?_
  cases h
  exact g_iret dX3_firstOf_13 rfl
theorem zX3_firstOf {E : gE} {t : Nat} {p1 : Int32} {p2 : Int32} {r : Int32} {σ σ' : gS} (ht : gLk t) (h : fX3_firstOf t p1 p2 σ = some (r, σ')) : gC E mX3_firstOf [.ref t, .int p1, .int p2] σ (some (.int r)) σ' :=
  gC_of (by decide +kernel) rfl (Nat.le_of_ble_eq_true rfl) (pX3_firstOf ht h)
def mX3_x : gM := (yX3_x, cX3_x, RX3, 2, (some .int), 1, 22)
theorem dX3_x_0 : decode mX3_x.2.1 0 = .ok (.aload_n 0, 1) := by decide +kernel
theorem dX3_x_1 : decode mX3_x.2.1 1 = .ok (.iconst 0, 1) := by decide +kernel
theorem dX3_x_2 : decode mX3_x.2.1 2 = .ok (.iload_n 1, 1) := by decide +kernel
theorem dX3_x_3 : decode mX3_x.2.1 3 = .ok (.invokevirtual 62, 3) := by decide +kernel
theorem dX3_x_6 : decode mX3_x.2.1 6 = .ok (.ireturn, 1) := by decide +kernel
theorem okX3_x_62 : gOkV mX3_x mX3_firstOf 62 2 := ⟨List.forall_mem_cons.mpr ⟨(gm 680 (by decide +kernel) rfl), List.forall_mem_cons.mpr ⟨(gm 677 (by decide +kernel) rfl), List.forall_mem_cons.mpr ⟨(gm 678 (by decide +kernel) rfl), List.forall_mem_cons.mpr ⟨(gm 679 (by decide +kernel) rfl), List.forall_mem_cons.mpr ⟨(gm 109 (by decide +kernel) rfl), fun _ h => absurd h List.not_mem_nil⟩⟩⟩⟩⟩, by decide +kernel, by decide +kernel, by decide +kernel⟩
def fX3_x (t : Nat) (p1 : Int32) (σ : gS) : Option (Int32 × gS) :=
  bd (fX3_firstOf t 0 p1 σ) fun x1 σ2 =>
  some (x1, σ2)
set_option maxHeartbeats 4000000 in
set_option maxRecDepth 100000 in
theorem pX3_x {E : gE} {t : Nat} {p1 : Int32} {r : Int32} {σ' : gS} {σ : gS} (ht : gLk t) (h : fX3_x t p1 σ = some (r, σ')) : gG E mX3_x 0 [(0, .ref t), (1, .int p1)] [] σ (some (.int r)) σ' := by
  unfold fX3_x at h
  refine g_aload_n dX3_x_0 rfl 0 rfl ?_
  refine g_iconst (v := 0) dX3_x_1 (by decide) ?_
  refine g_iload_n dX3_x_2 rfl 1 rfl ?_
  obtain ⟨x1, σ2, y3, h⟩ := bd_some h
  refine g_callVr (as := [.int 0, .int p1]) (st := []) (zX3_firstOf ht y3) dX3_x_3 (gi_lk ht) rfl okX3_x_62 (by decide) ?_
  cases h
  exact g_iret dX3_x_6 rfl
theorem zX3_x {E : gE} {t : Nat} {p1 : Int32} {r : Int32} {σ σ' : gS} (ht : gLk t) (h : fX3_x t p1 σ = some (r, σ')) : gC E mX3_x [.ref t, .int p1] σ (some (.int r)) σ' :=
  gC_of (by decide +kernel) rfl (Nat.le_of_ble_eq_true rfl) (pX3_x ht h)
def mX3_isFull : gM := (yX3_isFull, cX3_isFull, RX3, 2, (some .boolean), 0, 0)
theorem dX3_isFull_0 : decode mX3_isFull.2.1 0 = .ok (.aload_n 0, 1) := by decide +kernel
theorem dX3_isFull_1 : decode mX3_isFull.2.1 1 = .ok (.getfield 32, 3) := by decide +kernel
theorem dX3_isFull_4 : decode mX3_isFull.2.1 4 = .ok (.iload_n 1, 1) := by decide +kernel
theorem dX3_isFull_5 : decode mX3_isFull.2.1 5 = .ok (.iaload, 1) := by decide +kernel
theorem dX3_isFull_6 : decode mX3_isFull.2.1 6 = .ok (.getstatic 52, 3) := by decide +kernel
theorem dX3_isFull_9 : decode mX3_isFull.2.1 9 = .ok (.iload_n 1, 1) := by decide +kernel
theorem dX3_isFull_10 : decode mX3_isFull.2.1 10 = .ok (.iaload, 1) := by decide +kernel
theorem dX3_isFull_11 : decode mX3_isFull.2.1 11 = .ok (.if_icmp .lt 7, 3) := by decide +kernel
theorem dX3_isFull_14 : decode mX3_isFull.2.1 14 = .ok (.iconst 1, 1) := by decide +kernel
theorem dX3_isFull_15 : decode mX3_isFull.2.1 15 = .ok (.goto 4, 3) := by decide +kernel
theorem dX3_isFull_18 : decode mX3_isFull.2.1 18 = .ok (.iconst 0, 1) := by decide +kernel
theorem dX3_isFull_19 : decode mX3_isFull.2.1 19 = .ok (.ireturn, 1) := by decide +kernel
def fX3_isFull_19 (t : Nat) (p1 : Int32) (s0 : Int32) (σ : gS) : Option (Int32 × gS) :=
  gg (s0 = 0 ∨ s0 = 1) (
  some (s0, σ))
set_option maxHeartbeats 4000000 in
set_option maxRecDepth 100000 in
theorem pX3_isFull_19 {E : gE} {t : Nat} {p1 : Int32} {r : Int32} {σ' : gS} {s0 : Int32} {σ : gS} (ht : gLk t) (h : fX3_isFull_19 t p1 s0 σ = some (r, σ')) : gG E mX3_isFull 19 [] [.int s0] σ (some (.int r)) σ' := by
  unfold fX3_isFull_19 at h
  obtain ⟨g1, h⟩ := gg_some h
  cases h
  exact g_zret dX3_isFull_19 rfl g1
def fX3_isFull (t : Nat) (p1 : Int32) (σ : gS) : Option (Int32 × gS) :=
  gg (¬ (p1 < 0 ∨ 4 ≤ p1.toNatClampNeg)) (
  gg (¬ (p1 < 0 ∨ 4 ≤ p1.toNatClampNeg)) (
  if (σ.1 (t + 11) p1.toNatClampNeg) < (gW2 p1.toNatClampNeg) then
    fX3_isFull_19 t p1 0 σ
  else
    fX3_isFull_19 t p1 1 σ))
set_option maxHeartbeats 4000000 in
set_option maxRecDepth 100000 in
theorem pX3_isFull {E : gE} {t : Nat} {p1 : Int32} {r : Int32} {σ' : gS} {σ : gS} (ht : gLk t) (h : fX3_isFull t p1 σ = some (r, σ')) : gG E mX3_isFull 0 [(0, .ref t), (1, .int p1)] [] σ (some (.int r)) σ' := by
  unfold fX3_isFull at h
  refine g_aload_n dX3_isFull_0 rfl 0 rfl ?_
  refine g_getC (n := (t + 11)) dX3_isFull_1 (gi_lk ht) rfl fl_RX3_32 ?_
  refine g_iload_n dX3_isFull_4 rfl 1 rfl ?_
  obtain ⟨g1, h⟩ := gg_some h
  refine g_iald dX3_isFull_5 (gi_lk11 ht) g1 ?_
  refine g_gets2 dX3_isFull_6 (by decide +kernel) ?_
  refine g_iload_n dX3_isFull_9 rfl 1 rfl ?_
  obtain ⟨g2, h⟩ := gg_some h
  refine g_tld2 dX3_isFull_10 g2 ?_
  refine g_icmp_lt (t := 18) dX3_isFull_11 (by decide) (fun c3 => ?_) (fun c3 => ?_)
  · replace h := if_t h c3
    refine g_iconst (v := 0) dX3_isFull_18 (by decide) ?_
    refine g_sub [] rfl ?_
    exact pX3_isFull_19 ht h
  · replace h := if_f h c3
    refine g_iconst (v := 1) dX3_isFull_14 (by decide) ?_
    refine g_goto (t := 19) dX3_isFull_15 (by decide) ?_
    refine g_sub [] rfl ?_
    exact pX3_isFull_19 ht h
theorem zX3_isFull {E : gE} {t : Nat} {p1 : Int32} {r : Int32} {σ σ' : gS} (ht : gLk t) (h : fX3_isFull t p1 σ = some (r, σ')) : gC E mX3_isFull [.ref t, .int p1] σ (some (.int r)) σ' :=
  gC_of (by decide +kernel) rfl (Nat.le_of_ble_eq_true rfl) (pX3_isFull ht h)

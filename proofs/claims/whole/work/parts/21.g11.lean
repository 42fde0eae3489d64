def mX11_mobility : gM := (yX11_mobility, cX11_mobility, RX11, 1, (some .int), 0, 0)
theorem dX11_mobility_0 : decode mX11_mobility.2.1 0 = .ok (.aload_n 0, 1) := by decide +kernel
theorem dX11_mobility_1 : decode mX11_mobility.2.1 1 = .ok (.getfield 374, 3) := by decide +kernel
theorem dX11_mobility_4 : decode mX11_mobility.2.1 4 = .ok (.iconst 2, 1) := by decide +kernel
theorem dX11_mobility_5 : decode mX11_mobility.2.1 5 = .ok (.if_icmp .ge 7, 3) := by decide +kernel
theorem dX11_mobility_8 : decode mX11_mobility.2.1 8 = .ok (.iconst 0, 1) := by decide +kernel
theorem dX11_mobility_9 : decode mX11_mobility.2.1 9 = .ok (.goto 16, 3) := by decide +kernel
theorem dX11_mobility_12 : decode mX11_mobility.2.1 12 = .ok (.iconst 2, 1) := by decide +kernel
theorem dX11_mobility_13 : decode mX11_mobility.2.1 13 = .ok (.aload_n 0, 1) := by decide +kernel
theorem dX11_mobility_14 : decode mX11_mobility.2.1 14 = .ok (.getfield 374, 3) := by decide +kernel
theorem dX11_mobility_17 : decode mX11_mobility.2.1 17 = .ok (.imul, 1) := by decide +kernel
theorem dX11_mobility_18 : decode mX11_mobility.2.1 18 = .ok (.iconst 3, 1) := by decide +kernel
theorem dX11_mobility_19 : decode mX11_mobility.2.1 19 = .ok (.isub, 1) := by decide +kernel
theorem dX11_mobility_20 : decode mX11_mobility.2.1 20 = .ok (.aload_n 0, 1) := by decide +kernel
theorem dX11_mobility_21 : decode mX11_mobility.2.1 21 = .ok (.getfield 410, 3) := by decide +kernel
theorem dX11_mobility_24 : decode mX11_mobility.2.1 24 = .ok (.isub, 1) := by decide +kernel
theorem dX11_mobility_25 : decode mX11_mobility.2.1 25 = .ok (.ireturn, 1) := by decide +kernel
def fX11_mobility_25 (s0 : Int32) (σ : gS) : Option (Int32 × gS) :=
  some (s0, σ)
set_option maxHeartbeats 4000000 in
set_option maxRecDepth 100000 in
theorem pX11_mobility_25 {E : gE} {r : Int32} {σ' : gS} {s0 : Int32} {σ : gS} (h : fX11_mobility_25 s0 σ = some (r, σ')) : gG E mX11_mobility 25 [] [.int s0] σ (some (.int r)) σ' := by
  unfold fX11_mobility_25 at h
  obtain ⟨rfl, rfl⟩ := so_inj h
  exact g_iret dX11_mobility_25 rfl
def fX11_mobility (σ : gS) : Option (Int32 × gS) :=
  if 2 ≤ (σ.1 168 0) then
    fX11_mobility_25 (((2 * (σ.1 168 0)) - 3) - (σ.1 168 57)) σ
  else
    fX11_mobility_25 0 σ
set_option maxHeartbeats 4000000 in
set_option maxRecDepth 100000 in
theorem pX11_mobility {E : gE} {r : Int32} {σ' : gS} {σ : gS} (h : fX11_mobility σ = some (r, σ')) : gG E mX11_mobility 0 [(0, .ref 168)] [] σ (some (.int r)) σ' := by
  unfold fX11_mobility at h
  refine g_aload_n dX11_mobility_0 rfl 0 rfl ?_
  refine g_getI dX11_mobility_1 gi_168 rfl fl_RX11_374 ?_
  refine g_iconst (v := 2) dX11_mobility_4 (by decide) ?_
  refine g_icmp_ge (t := 12) dX11_mobility_5 (by decide) (fun c1 => ?_) (fun c1 => ?_)
  · replace h := if_t h c1
    refine g_iconst (v := 2) dX11_mobility_12 (by decide) ?_
    refine g_aload_n dX11_mobility_13 rfl 0 rfl ?_
    refine g_getI dX11_mobility_14 gi_168 rfl fl_RX11_374 ?_
    refine g_imul dX11_mobility_17 ?_
    refine g_iconst (v := 3) dX11_mobility_18 (by decide) ?_
    refine g_isub dX11_mobility_19 ?_
    refine g_aload_n dX11_mobility_20 rfl 0 rfl ?_
    refine g_getI dX11_mobility_21 gi_168 rfl fl_RX11_410 ?_
    refine g_isub dX11_mobility_24 ?_
    refine g_sub [] rfl ?_
    exact pX11_mobility_25 h
  · replace h := if_f h c1
    refine g_iconst (v := 0) dX11_mobility_8 (by decide) ?_
    refine g_goto (t := 25) dX11_mobility_9 (by decide) ?_
    refine g_sub [] rfl ?_
    exact pX11_mobility_25 h
theorem zX11_mobility {E : gE} {r : Int32} {σ σ' : gS} (h : fX11_mobility σ = some (r, σ')) : gC E mX11_mobility [.ref 168] σ (some (.int r)) σ' :=
  gC_of (by decide +kernel) rfl (Nat.le_of_ble_eq_true rfl) (pX11_mobility h)
theorem wl_RX11_429 : Cond.constantLong RX11 429 1000003 ∈ gWS := (gm 1728 (by decide +kernel) rfl)
theorem wl_RX11_427 : Cond.constantLong RX11 427 1000001 ∈ gWS := (gm 1736 (by decide +kernel) rfl)
def mX11_inverse : gM := (yX11_inverse, cX11_inverse, RX11, 8, (some .long), 0, 0)
theorem dX11_inverse_0 : decode mX11_inverse.2.1 0 = .ok (.lconst 1, 1) := by decide +kernel
theorem dX11_inverse_1 : decode mX11_inverse.2.1 1 = .ok (.lstore_n 2, 1) := by decide +kernel
theorem dX11_inverse_2 : decode mX11_inverse.2.1 2 = .ok (.lload_n 0, 1) := by decide +kernel
theorem dX11_inverse_3 : decode mX11_inverse.2.1 3 = .ok (.lstore 4, 2) := by decide +kernel
theorem dX11_inverse_5 : decode mX11_inverse.2.1 5 = .ok (.ldc2_w 427, 3) := by decide +kernel
theorem dX11_inverse_8 : decode mX11_inverse.2.1 8 = .ok (.lstore 6, 2) := by decide +kernel
theorem dX11_inverse_10 : decode mX11_inverse.2.1 10 = .ok (.lload 6, 2) := by decide +kernel
theorem dX11_inverse_12 : decode mX11_inverse.2.1 12 = .ok (.lconst 0, 1) := by decide +kernel
theorem dX11_inverse_13 : decode mX11_inverse.2.1 13 = .ok (.lcmp, 1) := by decide +kernel
theorem dX11_inverse_14 : decode mX11_inverse.2.1 14 = .ok (.ifCond .le 45, 3) := by decide +kernel
theorem dX11_inverse_17 : decode mX11_inverse.2.1 17 = .ok (.lload 6, 2) := by decide +kernel
theorem dX11_inverse_19 : decode mX11_inverse.2.1 19 = .ok (.lconst 1, 1) := by decide +kernel
theorem dX11_inverse_20 : decode mX11_inverse.2.1 20 = .ok (.land, 1) := by decide +kernel
theorem dX11_inverse_21 : decode mX11_inverse.2.1 21 = .ok (.lconst 1, 1) := by decide +kernel
theorem dX11_inverse_22 : decode mX11_inverse.2.1 22 = .ok (.lcmp, 1) := by decide +kernel
theorem dX11_inverse_23 : decode mX11_inverse.2.1 23 = .ok (.ifCond .ne 14, 3) := by decide +kernel
theorem dX11_inverse_26 : decode mX11_inverse.2.1 26 = .ok (.lload_n 2, 1) := by decide +kernel
theorem dX11_inverse_27 : decode mX11_inverse.2.1 27 = .ok (.lload 4, 2) := by decide +kernel
theorem dX11_inverse_29 : decode mX11_inverse.2.1 29 = .ok (.lmul, 1) := by decide +kernel
theorem dX11_inverse_30 : decode mX11_inverse.2.1 30 = .ok (.ldc2_w 429, 3) := by decide +kernel
theorem dX11_inverse_33 : decode mX11_inverse.2.1 33 = .ok (.lrem, 1) := by decide +kernel
theorem dX11_inverse_34 : decode mX11_inverse.2.1 34 = .ok (.goto 4, 3) := by decide +kernel
theorem dX11_inverse_37 : decode mX11_inverse.2.1 37 = .ok (.lload_n 2, 1) := by decide +kernel
theorem dX11_inverse_38 : decode mX11_inverse.2.1 38 = .ok (.lstore_n 2, 1) := by decide +kernel
theorem dX11_inverse_39 : decode mX11_inverse.2.1 39 = .ok (.lload 4, 2) := by decide +kernel
theorem dX11_inverse_41 : decode mX11_inverse.2.1 41 = .ok (.lload 4, 2) := by decide +kernel
theorem dX11_inverse_43 : decode mX11_inverse.2.1 43 = .ok (.lmul, 1) := by decide +kernel
theorem dX11_inverse_44 : decode mX11_inverse.2.1 44 = .ok (.ldc2_w 429, 3) := by decide +kernel
theorem dX11_inverse_47 : decode mX11_inverse.2.1 47 = .ok (.lrem, 1) := by decide +kernel
theorem dX11_inverse_48 : decode mX11_inverse.2.1 48 = .ok (.lstore 4, 2) := by decide +kernel
theorem dX11_inverse_50 : decode mX11_inverse.2.1 50 = .ok (.lload 6, 2) := by decide +kernel
theorem dX11_inverse_52 : decode mX11_inverse.2.1 52 = .ok (.iconst 1, 1) := by decide +kernel
theorem dX11_inverse_53 : decode mX11_inverse.2.1 53 = .ok (.lshr, 1) := by decide +kernel
theorem dX11_inverse_54 : decode mX11_inverse.2.1 54 = .ok (.lstore 6, 2) := by decide +kernel
theorem dX11_inverse_56 : decode mX11_inverse.2.1 56 = .ok (.goto (-46), 3) := by decide +kernel
theorem dX11_inverse_59 : decode mX11_inverse.2.1 59 = .ok (.lload_n 2, 1) := by decide +kernel
theorem dX11_inverse_60 : decode mX11_inverse.2.1 60 = .ok (.lreturn, 1) := by decide +kernel
def fX11_inverse_38 (p1 : Int64) (k10 : Int64 → Int64 → Int64 → gS → Option (Int64 × gS)) (v4 : Int64) (v6 : Int64) (s0 : Int64) (σ : gS) : Option (Int64 × gS) :=
  bnd ((v4 * v4) - (v4 * v4) / 1000003 * 1000003) fun x1 =>
  bnd (v6 >>> ((1 : Int32).toInt64 &&& 63)) fun x2 =>
  k10 s0 x1 x2 σ
set_option maxHeartbeats 4000000 in
set_option maxRecDepth 100000 in
theorem pX11_inverse_38 {E : gE} {p1 : Int64} {k10 : Int64 → Int64 → Int64 → gS → Option (Int64 × gS)} {r : Int64} {σ' : gS} {v4 : Int64} {v6 : Int64} {s0 : Int64} {σ : gS} (hk10 : ∀ (v2 : Int64) (v4 : Int64) (v6 : Int64) (σ : gS), k10 v2 v4 v6 σ = some (r, σ') → gG E mX11_inverse 10 [(2, .long v2), (4, .long v4), (6, .long v6)] [] σ (some (.long r)) σ') (h : fX11_inverse_38 p1 k10 v4 v6 s0 σ = some (r, σ')) : gG E mX11_inverse 38 [(4, .long v4), (6, .long v6)] [.long s0] σ (some (.long r)) σ' := by
  unfold fX11_inverse_38 at h
  refine g_lstore_n (lv' := [(2, .long s0), (4, .long v4), (6, .long v6)]) dX11_inverse_38 rfl (Nat.le_of_ble_eq_true rfl) rfl ?_
  refine g_lload dX11_inverse_39 1 rfl ?_
  refine g_lload dX11_inverse_41 1 rfl ?_
  refine g_lmul dX11_inverse_43 ?_
  refine g_ldc2 (v := 1000003) dX11_inverse_44 wl_RX11_429 ?_
  refine g_lrem dX11_inverse_47 (by decide) ?_
  obtain ⟨x1, ex1, h⟩ := bnd_nm h
  refine g_topl ex1 ?_
  refine g_lstore (lv' := [(4, .long x1), (2, .long s0), (6, .long v6)]) dX11_inverse_48 (Nat.le_of_ble_eq_true rfl) rfl ?_
  refine g_lload dX11_inverse_50 2 rfl ?_
  refine g_iconst (v := 1) dX11_inverse_52 (by decide) ?_
  refine g_lshr dX11_inverse_53 ?_
  obtain ⟨x2, ex2, h⟩ := bnd_nm h
  refine g_topl ex2 ?_
  refine g_lstore (lv' := [(6, .long x2), (4, .long x1), (2, .long s0)]) dX11_inverse_54 (Nat.le_of_ble_eq_true rfl) rfl ?_
  refine g_goto (t := 10) dX11_inverse_56 (by decide) ?_
  refine g_sub [2, 1, 0] rfl ?_
  exact hk10 s0 x1 x2 σ h
def fX11_inverse_10 (p1 : Int64) : Nat → Int64 → Int64 → Int64 → gS → Option (Int64 × gS)
  | 0, _, _, _, _ => none
  | n + 1, v2, v4, v6, σ => if (lg_cmp v6 0) ≤ 0 then
    some (v2, σ)
  else
    if (lg_cmp (v6 &&& 1) 1) = 0 then
      fX11_inverse_38 p1 (fun v2 v4 v6 σ => fX11_inverse_10 p1 n v2 v4 v6 σ) v4 v6 ((v2 * v4) - (v2 * v4) / 1000003 * 1000003) σ
    else
      fX11_inverse_38 p1 (fun v2 v4 v6 σ => fX11_inverse_10 p1 n v2 v4 v6 σ) v4 v6 v2 σ
set_option maxHeartbeats 4000000 in
set_option maxRecDepth 100000 in
theorem pX11_inverse_10 {E : gE} {p1 : Int64} {r : Int64} {σ' : gS} : ∀ (n : Nat) (v2 : Int64) (v4 : Int64) (v6 : Int64) (σ : gS), fX11_inverse_10 p1 n v2 v4 v6 σ = some (r, σ') → gG E mX11_inverse 10 [(2, .long v2), (4, .long v4), (6, .long v6)] [] σ (some (.long r)) σ' := by
  intro n
  induction n with
  | zero => intro v2 v4 v6 σ h; exact absurd (show none = some (r, σ') from h) (by intro q; cases q)
  | succ n ih =>
  intro v2 v4 v6 σ h
  unfold fX11_inverse_10 at h
  refine g_lload dX11_inverse_10 2 rfl ?_
  refine g_lconst (v := 0) dX11_inverse_12 (by decide) ?_
  refine g_lcmp dX11_inverse_13 ?_
  refine g_if_le (t := 59) dX11_inverse_14 (by decide) (fun c1 => ?_) (fun c1 => ?_)
  · replace h := if_t h c1
    refine g_lload_n dX11_inverse_59 rfl 0 rfl ?_
    obtain ⟨rfl, rfl⟩ := so_inj h
    exact g_lret dX11_inverse_60 rfl
  · replace h := if_f h c1
    refine g_lload dX11_inverse_17 2 rfl ?_
    refine g_lconst (v := 1) dX11_inverse_19 (by decide) ?_
    refine g_land dX11_inverse_20 ?_
    refine g_lconst (v := 1) dX11_inverse_21 (by decide) ?_
    refine g_lcmp dX11_inverse_22 ?_
    refine g_if_ne (t := 37) dX11_inverse_23 (by decide) (fun c2 => ?_) (fun c2 => ?_)
    · replace h := if_f h c2
      refine g_lload_n dX11_inverse_37 rfl 0 rfl ?_
      refine g_sub [1, 2] rfl ?_
      exact pX11_inverse_38 (fun v2 v4 v6 σ h => ih v2 v4 v6 σ h) h
    · replace h := if_t h c2
      refine g_lload_n dX11_inverse_26 rfl 0 rfl ?_
      refine g_lload dX11_inverse_27 1 rfl ?_
      refine g_lmul dX11_inverse_29 ?_
      refine g_ldc2 (v := 1000003) dX11_inverse_30 wl_RX11_429 ?_
      refine g_lrem dX11_inverse_33 (by decide) ?_
      refine g_goto (t := 38) dX11_inverse_34 (by decide) ?_
      refine g_sub [1, 2] rfl ?_
      exact pX11_inverse_38 (fun v2 v4 v6 σ h => ih v2 v4 v6 σ h) h
def fX11_inverse (p1 : Int64) (σ : gS) : Option (Int64 × gS) :=
  fX11_inverse_10 p1 2000 1 p1 1000001 σ
set_option maxHeartbeats 4000000 in
set_option maxRecDepth 100000 in
theorem pX11_inverse {E : gE} {p1 : Int64} {r : Int64} {σ' : gS} {σ : gS} (h : fX11_inverse p1 σ = some (r, σ')) : gG E mX11_inverse 0 [(0, .long p1)] [] σ (some (.long r)) σ' := by
  unfold fX11_inverse at h
  refine g_lconst (v := 1) dX11_inverse_0 (by decide) ?_
  refine g_lstore_n (lv' := [(2, .long 1), (0, .long p1)]) dX11_inverse_1 rfl (Nat.le_of_ble_eq_true rfl) rfl ?_
  refine g_lload_n dX11_inverse_2 rfl 1 rfl ?_
  refine g_lstore (lv' := [(4, .long p1), (2, .long 1), (0, .long p1)]) dX11_inverse_3 (Nat.le_of_ble_eq_true rfl) rfl ?_
  refine g_ldc2 (v := 1000001) dX11_inverse_5 wl_RX11_427 ?_
  refine g_lstore (lv' := [(6, .long 1000001), (4, .long p1), (2, .long 1), (0, .long p1)]) dX11_inverse_8 (Nat.le_of_ble_eq_true rfl) rfl ?_
  refine g_sub [2, 1, 0] rfl ?_
  exact pX11_inverse_10 2000 1 p1 1000001 σ h
theorem zX11_inverse {E : gE} {p1 : Int64} {r : Int64} {σ σ' : gS} (h : fX11_inverse p1 σ = some (r, σ')) : gC E mX11_inverse [.long p1] σ (some (.long r)) σ' :=
  gC_of (by decide +kernel) rfl (Nat.le_of_ble_eq_true rfl) (pX11_inverse h)
theorem fl_RX11_140 : gFl RX11 140 11 66 := ⟨RX11, TX11, 101, rfl, by decide, ux_11, Or.inl (gm 1294 (by decide +kernel) rfl)⟩
theorem fl_RX11_134 : gFl RX11 134 11 64 := ⟨RX11, TX11, 101, rfl, by decide, ux_11, Or.inl (gm 1292 (by decide +kernel) rfl)⟩
def mX11_enter : gM := (yX11_enter, cX11_enter, RX11, 7, none, 0, 0)
theorem dX11_enter_0 : decode mX11_enter.2.1 0 = .ok (.aload_n 0, 1) := by decide +kernel
theorem dX11_enter_1 : decode mX11_enter.2.1 1 = .ok (.getfield 20, 3) := by decide +kernel
theorem dX11_enter_4 : decode mX11_enter.2.1 4 = .ok (.iload_n 2, 1) := by decide +kernel
theorem dX11_enter_5 : decode mX11_enter.2.1 5 = .ok (.baload, 1) := by decide +kernel
theorem dX11_enter_6 : decode mX11_enter.2.1 6 = .ok (.ifCond .ne 64, 3) := by decide +kernel
theorem dX11_enter_9 : decode mX11_enter.2.1 9 = .ok (.aload_n 0, 1) := by decide +kernel
theorem dX11_enter_10 : decode mX11_enter.2.1 10 = .ok (.getfield 140, 3) := by decide +kernel
theorem dX11_enter_13 : decode mX11_enter.2.1 13 = .ok (.bipush 48, 2) := by decide +kernel
theorem dX11_enter_15 : decode mX11_enter.2.1 15 = .ok (.iload_n 1, 1) := by decide +kernel
theorem dX11_enter_16 : decode mX11_enter.2.1 16 = .ok (.imul, 1) := by decide +kernel
theorem dX11_enter_17 : decode mX11_enter.2.1 17 = .ok (.aload_n 0, 1) := by decide +kernel
theorem dX11_enter_18 : decode mX11_enter.2.1 18 = .ok (.getfield 134, 3) := by decide +kernel
theorem dX11_enter_21 : decode mX11_enter.2.1 21 = .ok (.iload_n 2, 1) := by decide +kernel
theorem dX11_enter_22 : decode mX11_enter.2.1 22 = .ok (.iaload, 1) := by decide +kernel
theorem dX11_enter_23 : decode mX11_enter.2.1 23 = .ok (.iadd, 1) := by decide +kernel
theorem dX11_enter_24 : decode mX11_enter.2.1 24 = .ok (.lload_n 3, 1) := by decide +kernel
theorem dX11_enter_25 : decode mX11_enter.2.1 25 = .ok (.ldc2_w 429, 3) := by decide +kernel
theorem dX11_enter_28 : decode mX11_enter.2.1 28 = .ok (.lrem, 1) := by decide +kernel
theorem dX11_enter_29 : decode mX11_enter.2.1 29 = .ok (.ldc2_w 429, 3) := by decide +kernel
theorem dX11_enter_32 : decode mX11_enter.2.1 32 = .ok (.ladd, 1) := by decide +kernel
theorem dX11_enter_33 : decode mX11_enter.2.1 33 = .ok (.ldc2_w 429, 3) := by decide +kernel
theorem dX11_enter_36 : decode mX11_enter.2.1 36 = .ok (.lrem, 1) := by decide +kernel
theorem dX11_enter_37 : decode mX11_enter.2.1 37 = .ok (.lastore, 1) := by decide +kernel
theorem dX11_enter_38 : decode mX11_enter.2.1 38 = .ok (.aload_n 0, 1) := by decide +kernel
theorem dX11_enter_39 : decode mX11_enter.2.1 39 = .ok (.getfield 140, 3) := by decide +kernel
theorem dX11_enter_42 : decode mX11_enter.2.1 42 = .ok (.bipush 48, 2) := by decide +kernel
theorem dX11_enter_44 : decode mX11_enter.2.1 44 = .ok (.iload_n 1, 1) := by decide +kernel
theorem dX11_enter_45 : decode mX11_enter.2.1 45 = .ok (.imul, 1) := by decide +kernel
theorem dX11_enter_46 : decode mX11_enter.2.1 46 = .ok (.aload_n 0, 1) := by decide +kernel
theorem dX11_enter_47 : decode mX11_enter.2.1 47 = .ok (.getfield 134, 3) := by decide +kernel
theorem dX11_enter_50 : decode mX11_enter.2.1 50 = .ok (.iload_n 2, 1) := by decide +kernel
theorem dX11_enter_51 : decode mX11_enter.2.1 51 = .ok (.iaload, 1) := by decide +kernel
theorem dX11_enter_52 : decode mX11_enter.2.1 52 = .ok (.iadd, 1) := by decide +kernel
theorem dX11_enter_53 : decode mX11_enter.2.1 53 = .ok (.iconst 1, 1) := by decide +kernel
theorem dX11_enter_54 : decode mX11_enter.2.1 54 = .ok (.iadd, 1) := by decide +kernel
theorem dX11_enter_55 : decode mX11_enter.2.1 55 = .ok (.lload 5, 2) := by decide +kernel
theorem dX11_enter_57 : decode mX11_enter.2.1 57 = .ok (.ldc2_w 429, 3) := by decide +kernel
theorem dX11_enter_60 : decode mX11_enter.2.1 60 = .ok (.lrem, 1) := by decide +kernel
theorem dX11_enter_61 : decode mX11_enter.2.1 61 = .ok (.ldc2_w 429, 3) := by decide +kernel
theorem dX11_enter_64 : decode mX11_enter.2.1 64 = .ok (.ladd, 1) := by decide +kernel
theorem dX11_enter_65 : decode mX11_enter.2.1 65 = .ok (.ldc2_w 429, 3) := by decide +kernel
theorem dX11_enter_68 : decode mX11_enter.2.1 68 = .ok (.lrem, 1) := by decide +kernel
theorem dX11_enter_69 : decode mX11_enter.2.1 69 = .ok (.lastore, 1) := by decide +kernel
theorem dX11_enter_70 : decode mX11_enter.2.1 70 = .ok (.return_, 1) := by decide +kernel
def fX11_enter_70 (p1 : Int32) (p2 : Int32) (p3 : Int64) (p4 : Int64) (σ : gS) : Option (Unit × gS) :=
  some ((), σ)
set_option maxHeartbeats 4000000 in
set_option maxRecDepth 100000 in
theorem pX11_enter_70 {E : gE} {p1 : Int32} {p2 : Int32} {p3 : Int64} {p4 : Int64} {r : Unit} {σ' : gS} {σ : gS} (h : fX11_enter_70 p1 p2 p3 p4 σ = some (r, σ')) : gG E mX11_enter 70 [] [] σ (none) σ' := by
  unfold fX11_enter_70 at h
  obtain ⟨rfl, rfl⟩ := so_inj h
  exact g_vret dX11_enter_70 rfl
def fX11_enter (p1 : Int32) (p2 : Int32) (p3 : Int64) (p4 : Int64) (σ : gS) : Option (Unit × gS) :=
  gg (¬ (p2 < 0 ∨ 24 ≤ p2.toNatClampNeg)) (
  if (σ.1 172 p2.toNatClampNeg) = 0 then
    gg (¬ (p2 < 0 ∨ 24 ≤ p2.toNatClampNeg)) (
    gg (¬ ((48 * p1) + (σ.1 206 p2.toNatClampNeg) < 0 ∨ 2880 ≤ ((48 * p1) + (σ.1 206 p2.toNatClampNeg)).toNatClampNeg)) (
    bnd (gsJ σ 208 (((48 * p1) + (σ.1 206 p2.toNatClampNeg)).toNatClampNeg) (((p3 - p3 / 1000003 * 1000003) + 1000003) - ((p3 - p3 / 1000003 * 1000003) + 1000003) / 1000003 * 1000003)) fun σ5 =>
    gg (¬ (p2 < 0 ∨ 24 ≤ p2.toNatClampNeg)) (
    gg (¬ (((48 * p1) + (σ5.1 206 p2.toNatClampNeg)) + 1 < 0 ∨ 2880 ≤ (((48 * p1) + (σ5.1 206 p2.toNatClampNeg)) + 1).toNatClampNeg)) (
    bnd (gsJ σ5 208 ((((48 * p1) + (σ5.1 206 p2.toNatClampNeg)) + 1).toNatClampNeg) (((p4 - p4 / 1000003 * 1000003) + 1000003) - ((p4 - p4 / 1000003 * 1000003) + 1000003) / 1000003 * 1000003)) fun σ8 =>
    fX11_enter_70 p1 p2 p3 p4 σ8))))
  else
    fX11_enter_70 p1 p2 p3 p4 σ)
set_option maxHeartbeats 4000000 in
set_option maxRecDepth 100000 in
theorem pX11_enter {E : gE} {p1 : Int32} {p2 : Int32} {p3 : Int64} {p4 : Int64} {r : Unit} {σ' : gS} {σ : gS} (h : fX11_enter p1 p2 p3 p4 σ = some (r, σ')) : gG E mX11_enter 0 [(0, .ref 168), (1, .int p1), (2, .int p2), (3, .long p3), (5, .long p4)] [] σ (none) σ' := by
  unfold fX11_enter at h
  refine g_aload_n dX11_enter_0 rfl 0 rfl ?_
  refine g_getC (n := 172) dX11_enter_1 gi_168 rfl fl_RX11_20 ?_
  refine g_iload_n dX11_enter_4 rfl 2 rfl ?_
  obtain ⟨g1, h⟩ := gg_some h
  refine g_zald dX11_enter_5 gi_172 g1 ?_
  refine g_if_ne (t := 70) dX11_enter_6 (by decide) (fun c2 => ?_) (fun c2 => ?_)
  · replace h := if_f h c2
    refine g_sub [] rfl ?_
    exact pX11_enter_70 h
  · replace h := if_t h c2
    refine g_aload_n dX11_enter_9 rfl 0 rfl ?_
    refine g_getC (n := 208) dX11_enter_10 gi_168 rfl fl_RX11_140 ?_
    refine g_bipush (v := 48) dX11_enter_13 (by decide) ?_
    refine g_iload_n dX11_enter_15 rfl 1 rfl ?_
    refine g_imul dX11_enter_16 ?_
    refine g_aload_n dX11_enter_17 rfl 0 rfl ?_
    refine g_getC (n := 206) dX11_enter_18 gi_168 rfl fl_RX11_134 ?_
    refine g_iload_n dX11_enter_21 rfl 2 rfl ?_
    obtain ⟨g3, h⟩ := gg_some h
    refine g_iald dX11_enter_22 gi_206 g3 ?_
    refine g_iadd dX11_enter_23 ?_
    refine g_lload_n dX11_enter_24 rfl 3 rfl ?_
    refine g_ldc2 (v := 1000003) dX11_enter_25 wl_RX11_429 ?_
    refine g_lrem dX11_enter_28 (by decide) ?_
    refine g_ldc2 (v := 1000003) dX11_enter_29 wl_RX11_429 ?_
    refine g_ladd dX11_enter_32 ?_
    refine g_ldc2 (v := 1000003) dX11_enter_33 wl_RX11_429 ?_
    refine g_lrem dX11_enter_36 (by decide) ?_
    obtain ⟨g4, h⟩ := gg_some h
    obtain ⟨σ5, eσ5, h⟩ := bnd_nm h
    refine g_last dX11_enter_37 gi_208 g4 (g_st eσ5 ?_)
    refine g_aload_n dX11_enter_38 rfl 0 rfl ?_
    refine g_getC (n := 208) dX11_enter_39 gi_168 rfl fl_RX11_140 ?_
    refine g_bipush (v := 48) dX11_enter_42 (by decide) ?_
    refine g_iload_n dX11_enter_44 rfl 1 rfl ?_
    refine g_imul dX11_enter_45 ?_
    refine g_aload_n dX11_enter_46 rfl 0 rfl ?_
    refine g_getC (n := 206) dX11_enter_47 gi_168 rfl fl_RX11_134 ?_
    refine g_iload_n dX11_enter_50 rfl 2 rfl ?_
    obtain ⟨g6, h⟩ := gg_some h
    refine g_iald dX11_enter_51 gi_206 g6 ?_
    refine g_iadd dX11_enter_52 ?_
    refine g_iconst (v := 1) dX11_enter_53 (by decide) ?_
    refine g_iadd dX11_enter_54 ?_
    refine g_lload dX11_enter_55 4 rfl ?_
    refine g_ldc2 (v := 1000003) dX11_enter_57 wl_RX11_429 ?_
    refine g_lrem dX11_enter_60 (by decide) ?_
    refine g_ldc2 (v := 1000003) dX11_enter_61 wl_RX11_429 ?_
    refine g_ladd dX11_enter_64 ?_
    refine g_ldc2 (v := 1000003) dX11_enter_65 wl_RX11_429 ?_
    refine g_lrem dX11_enter_68 (by decide) ?_
    obtain ⟨g7, h⟩ := gg_some h
    obtain ⟨σ8, eσ8, h⟩ := bnd_nm h
    refine g_last dX11_enter_69 gi_208 g7 (g_st eσ8 ?_)
    refine g_sub [] rfl ?_
    exact pX11_enter_70 h
theorem zX11_enter {E : gE} {p1 : Int32} {p2 : Int32} {p3 : Int64} {p4 : Int64} {r : Unit} {σ σ' : gS} (h : fX11_enter p1 p2 p3 p4 σ = some (r, σ')) : gC E mX11_enter [.ref 168, .int p1, .int p2, .long p3, .long p4] σ (none) σ' :=
  gC_of (by decide +kernel) rfl (Nat.le_of_ble_eq_true rfl) (pX11_enter h)
theorem fl_RX11_431 : gFl RX11 431 11 63 := ⟨RX11, TX11, 101, rfl, by decide, ux_11, Or.inl (gm 1291 (by decide +kernel) rfl)⟩
theorem fl_RX11_438 : gFl RX11 438 11 67 := ⟨RX11, TX11, 101, rfl, by decide, ux_11, Or.inl (gm 1295 (by decide +kernel) rfl)⟩
theorem fl_RX11_143 : gFl RX11 143 11 68 := ⟨RX11, TX11, 101, rfl, by decide, ux_11, Or.inl (gm 1296 (by decide +kernel) rfl)⟩
theorem fp_RX11_438 : gFp RX11 438 11 67 .int := ⟨RX11, TX11, 101, rfl, by decide, ux_11, Or.inl (gm 1295 (by decide +kernel) rfl), rfl, by decide +kernel, ⟨tyX11, tyX11_ok⟩, nmX11⟩
def mX11_lead : gM := (yX11_lead, cX11_lead, RX11, 9, none, 1, 27)
theorem dX11_lead_0 : decode mX11_lead.2.1 0 = .ok (.aload_n 0, 1) := by decide +kernel
theorem dX11_lead_1 : decode mX11_lead.2.1 1 = .ok (.getfield 140, 3) := by decide +kernel
theorem dX11_lead_4 : decode mX11_lead.2.1 4 = .ok (.bipush 48, 2) := by decide +kernel
theorem dX11_lead_6 : decode mX11_lead.2.1 6 = .ok (.iload_n 1, 1) := by decide +kernel
theorem dX11_lead_7 : decode mX11_lead.2.1 7 = .ok (.imul, 1) := by decide +kernel
theorem dX11_lead_8 : decode mX11_lead.2.1 8 = .ok (.iload_n 2, 1) := by decide +kernel
theorem dX11_lead_9 : decode mX11_lead.2.1 9 = .ok (.iadd, 1) := by decide +kernel
theorem dX11_lead_10 : decode mX11_lead.2.1 10 = .ok (.laload, 1) := by decide +kernel
theorem dX11_lead_11 : decode mX11_lead.2.1 11 = .ok (.invokestatic 444, 3) := by decide +kernel
theorem dX11_lead_14 : decode mX11_lead.2.1 14 = .ok (.lstore_n 3, 1) := by decide +kernel
theorem dX11_lead_15 : decode mX11_lead.2.1 15 = .ok (.iconst 0, 1) := by decide +kernel
theorem dX11_lead_16 : decode mX11_lead.2.1 16 = .ok (.istore 5, 2) := by decide +kernel
theorem dX11_lead_18 : decode mX11_lead.2.1 18 = .ok (.iload 5, 2) := by decide +kernel
theorem dX11_lead_20 : decode mX11_lead.2.1 20 = .ok (.aload_n 0, 1) := by decide +kernel
theorem dX11_lead_21 : decode mX11_lead.2.1 21 = .ok (.getfield 431, 3) := by decide +kernel
theorem dX11_lead_24 : decode mX11_lead.2.1 24 = .ok (.if_icmp .ge 73, 3) := by decide +kernel
theorem dX11_lead_27 : decode mX11_lead.2.1 27 = .ok (.aload_n 0, 1) := by decide +kernel
theorem dX11_lead_28 : decode mX11_lead.2.1 28 = .ok (.getfield 140, 3) := by decide +kernel
theorem dX11_lead_31 : decode mX11_lead.2.1 31 = .ok (.bipush 48, 2) := by decide +kernel
theorem dX11_lead_33 : decode mX11_lead.2.1 33 = .ok (.iload_n 1, 1) := by decide +kernel
theorem dX11_lead_34 : decode mX11_lead.2.1 34 = .ok (.imul, 1) := by decide +kernel
theorem dX11_lead_35 : decode mX11_lead.2.1 35 = .ok (.iload 5, 2) := by decide +kernel
theorem dX11_lead_37 : decode mX11_lead.2.1 37 = .ok (.iadd, 1) := by decide +kernel
theorem dX11_lead_38 : decode mX11_lead.2.1 38 = .ok (.laload, 1) := by decide +kernel
theorem dX11_lead_39 : decode mX11_lead.2.1 39 = .ok (.lstore 6, 2) := by decide +kernel
theorem dX11_lead_41 : decode mX11_lead.2.1 41 = .ok (.aload_n 0, 1) := by decide +kernel
theorem dX11_lead_42 : decode mX11_lead.2.1 42 = .ok (.getfield 140, 3) := by decide +kernel
theorem dX11_lead_45 : decode mX11_lead.2.1 45 = .ok (.bipush 48, 2) := by decide +kernel
theorem dX11_lead_47 : decode mX11_lead.2.1 47 = .ok (.iload_n 1, 1) := by decide +kernel
theorem dX11_lead_48 : decode mX11_lead.2.1 48 = .ok (.imul, 1) := by decide +kernel
theorem dX11_lead_49 : decode mX11_lead.2.1 49 = .ok (.iload 5, 2) := by decide +kernel
theorem dX11_lead_51 : decode mX11_lead.2.1 51 = .ok (.iadd, 1) := by decide +kernel
theorem dX11_lead_52 : decode mX11_lead.2.1 52 = .ok (.aload_n 0, 1) := by decide +kernel
theorem dX11_lead_53 : decode mX11_lead.2.1 53 = .ok (.getfield 140, 3) := by decide +kernel
theorem dX11_lead_56 : decode mX11_lead.2.1 56 = .ok (.bipush 48, 2) := by decide +kernel
theorem dX11_lead_58 : decode mX11_lead.2.1 58 = .ok (.aload_n 0, 1) := by decide +kernel
theorem dX11_lead_59 : decode mX11_lead.2.1 59 = .ok (.getfield 438, 3) := by decide +kernel
theorem dX11_lead_62 : decode mX11_lead.2.1 62 = .ok (.imul, 1) := by decide +kernel
theorem dX11_lead_63 : decode mX11_lead.2.1 63 = .ok (.iload 5, 2) := by decide +kernel
theorem dX11_lead_65 : decode mX11_lead.2.1 65 = .ok (.iadd, 1) := by decide +kernel
theorem dX11_lead_66 : decode mX11_lead.2.1 66 = .ok (.laload, 1) := by decide +kernel
theorem dX11_lead_67 : decode mX11_lead.2.1 67 = .ok (.lastore, 1) := by decide +kernel
theorem dX11_lead_68 : decode mX11_lead.2.1 68 = .ok (.aload_n 0, 1) := by decide +kernel
theorem dX11_lead_69 : decode mX11_lead.2.1 69 = .ok (.getfield 140, 3) := by decide +kernel
theorem dX11_lead_72 : decode mX11_lead.2.1 72 = .ok (.bipush 48, 2) := by decide +kernel
theorem dX11_lead_74 : decode mX11_lead.2.1 74 = .ok (.aload_n 0, 1) := by decide +kernel
theorem dX11_lead_75 : decode mX11_lead.2.1 75 = .ok (.getfield 438, 3) := by decide +kernel
theorem dX11_lead_78 : decode mX11_lead.2.1 78 = .ok (.imul, 1) := by decide +kernel
theorem dX11_lead_79 : decode mX11_lead.2.1 79 = .ok (.iload 5, 2) := by decide +kernel
theorem dX11_lead_81 : decode mX11_lead.2.1 81 = .ok (.iadd, 1) := by decide +kernel
theorem dX11_lead_82 : decode mX11_lead.2.1 82 = .ok (.lload 6, 2) := by decide +kernel
theorem dX11_lead_84 : decode mX11_lead.2.1 84 = .ok (.lload_n 3, 1) := by decide +kernel
theorem dX11_lead_85 : decode mX11_lead.2.1 85 = .ok (.lmul, 1) := by decide +kernel
theorem dX11_lead_86 : decode mX11_lead.2.1 86 = .ok (.ldc2_w 429, 3) := by decide +kernel
theorem dX11_lead_89 : decode mX11_lead.2.1 89 = .ok (.lrem, 1) := by decide +kernel
theorem dX11_lead_90 : decode mX11_lead.2.1 90 = .ok (.lastore, 1) := by decide +kernel
theorem dX11_lead_91 : decode mX11_lead.2.1 91 = .ok (.iinc 5 1, 3) := by decide +kernel
theorem dX11_lead_94 : decode mX11_lead.2.1 94 = .ok (.goto (-76), 3) := by decide +kernel
theorem dX11_lead_97 : decode mX11_lead.2.1 97 = .ok (.iconst 0, 1) := by decide +kernel
theorem dX11_lead_98 : decode mX11_lead.2.1 98 = .ok (.istore 5, 2) := by decide +kernel
theorem dX11_lead_100 : decode mX11_lead.2.1 100 = .ok (.iload 5, 2) := by decide +kernel
theorem dX11_lead_102 : decode mX11_lead.2.1 102 = .ok (.aload_n 0, 1) := by decide +kernel
theorem dX11_lead_103 : decode mX11_lead.2.1 103 = .ok (.getfield 380, 3) := by decide +kernel
theorem dX11_lead_106 : decode mX11_lead.2.1 106 = .ok (.if_icmp .ge 110, 3) := by decide +kernel
theorem dX11_lead_109 : decode mX11_lead.2.1 109 = .ok (.aload_n 0, 1) := by decide +kernel
theorem dX11_lead_110 : decode mX11_lead.2.1 110 = .ok (.getfield 140, 3) := by decide +kernel
theorem dX11_lead_113 : decode mX11_lead.2.1 113 = .ok (.bipush 48, 2) := by decide +kernel
theorem dX11_lead_115 : decode mX11_lead.2.1 115 = .ok (.iload 5, 2) := by decide +kernel
theorem dX11_lead_117 : decode mX11_lead.2.1 117 = .ok (.imul, 1) := by decide +kernel
theorem dX11_lead_118 : decode mX11_lead.2.1 118 = .ok (.iload_n 2, 1) := by decide +kernel
theorem dX11_lead_119 : decode mX11_lead.2.1 119 = .ok (.iadd, 1) := by decide +kernel
theorem dX11_lead_120 : decode mX11_lead.2.1 120 = .ok (.laload, 1) := by decide +kernel
theorem dX11_lead_121 : decode mX11_lead.2.1 121 = .ok (.lstore 6, 2) := by decide +kernel
theorem dX11_lead_123 : decode mX11_lead.2.1 123 = .ok (.iconst 0, 1) := by decide +kernel
theorem dX11_lead_124 : decode mX11_lead.2.1 124 = .ok (.istore 8, 2) := by decide +kernel
theorem dX11_lead_126 : decode mX11_lead.2.1 126 = .ok (.iload 8, 2) := by decide +kernel
theorem dX11_lead_128 : decode mX11_lead.2.1 128 = .ok (.aload_n 0, 1) := by decide +kernel
theorem dX11_lead_129 : decode mX11_lead.2.1 129 = .ok (.getfield 431, 3) := by decide +kernel
theorem dX11_lead_132 : decode mX11_lead.2.1 132 = .ok (.if_icmp .ge 78, 3) := by decide +kernel
theorem dX11_lead_135 : decode mX11_lead.2.1 135 = .ok (.iload 5, 2) := by decide +kernel
theorem dX11_lead_137 : decode mX11_lead.2.1 137 = .ok (.aload_n 0, 1) := by decide +kernel
theorem dX11_lead_138 : decode mX11_lead.2.1 138 = .ok (.getfield 438, 3) := by decide +kernel
theorem dX11_lead_141 : decode mX11_lead.2.1 141 = .ok (.if_icmp .eq 69, 3) := by decide +kernel
theorem dX11_lead_144 : decode mX11_lead.2.1 144 = .ok (.lload 6, 2) := by decide +kernel
theorem dX11_lead_146 : decode mX11_lead.2.1 146 = .ok (.lconst 0, 1) := by decide +kernel
theorem dX11_lead_147 : decode mX11_lead.2.1 147 = .ok (.lcmp, 1) := by decide +kernel
theorem dX11_lead_148 : decode mX11_lead.2.1 148 = .ok (.ifCond .eq 62, 3) := by decide +kernel
theorem dX11_lead_151 : decode mX11_lead.2.1 151 = .ok (.aload_n 0, 1) := by decide +kernel
theorem dX11_lead_152 : decode mX11_lead.2.1 152 = .ok (.getfield 140, 3) := by decide +kernel
theorem dX11_lead_155 : decode mX11_lead.2.1 155 = .ok (.bipush 48, 2) := by decide +kernel
theorem dX11_lead_157 : decode mX11_lead.2.1 157 = .ok (.iload 5, 2) := by decide +kernel
theorem dX11_lead_159 : decode mX11_lead.2.1 159 = .ok (.imul, 1) := by decide +kernel
theorem dX11_lead_160 : decode mX11_lead.2.1 160 = .ok (.iload 8, 2) := by decide +kernel
theorem dX11_lead_162 : decode mX11_lead.2.1 162 = .ok (.iadd, 1) := by decide +kernel
theorem dX11_lead_163 : decode mX11_lead.2.1 163 = .ok (.aload_n 0, 1) := by decide +kernel
theorem dX11_lead_164 : decode mX11_lead.2.1 164 = .ok (.getfield 140, 3) := by decide +kernel
theorem dX11_lead_167 : decode mX11_lead.2.1 167 = .ok (.bipush 48, 2) := by decide +kernel
theorem dX11_lead_169 : decode mX11_lead.2.1 169 = .ok (.iload 5, 2) := by decide +kernel
theorem dX11_lead_171 : decode mX11_lead.2.1 171 = .ok (.imul, 1) := by decide +kernel
theorem dX11_lead_172 : decode mX11_lead.2.1 172 = .ok (.iload 8, 2) := by decide +kernel
theorem dX11_lead_174 : decode mX11_lead.2.1 174 = .ok (.iadd, 1) := by decide +kernel
theorem dX11_lead_175 : decode mX11_lead.2.1 175 = .ok (.laload, 1) := by decide +kernel
theorem dX11_lead_176 : decode mX11_lead.2.1 176 = .ok (.ldc2_w 429, 3) := by decide +kernel
theorem dX11_lead_179 : decode mX11_lead.2.1 179 = .ok (.lload 6, 2) := by decide +kernel
theorem dX11_lead_181 : decode mX11_lead.2.1 181 = .ok (.lsub, 1) := by decide +kernel
theorem dX11_lead_182 : decode mX11_lead.2.1 182 = .ok (.aload_n 0, 1) := by decide +kernel
theorem dX11_lead_183 : decode mX11_lead.2.1 183 = .ok (.getfield 140, 3) := by decide +kernel
theorem dX11_lead_186 : decode mX11_lead.2.1 186 = .ok (.bipush 48, 2) := by decide +kernel
theorem dX11_lead_188 : decode mX11_lead.2.1 188 = .ok (.aload_n 0, 1) := by decide +kernel
theorem dX11_lead_189 : decode mX11_lead.2.1 189 = .ok (.getfield 438, 3) := by decide +kernel
theorem dX11_lead_192 : decode mX11_lead.2.1 192 = .ok (.imul, 1) := by decide +kernel
theorem dX11_lead_193 : decode mX11_lead.2.1 193 = .ok (.iload 8, 2) := by decide +kernel
theorem dX11_lead_195 : decode mX11_lead.2.1 195 = .ok (.iadd, 1) := by decide +kernel
theorem dX11_lead_196 : decode mX11_lead.2.1 196 = .ok (.laload, 1) := by decide +kernel
theorem dX11_lead_197 : decode mX11_lead.2.1 197 = .ok (.lmul, 1) := by decide +kernel
theorem dX11_lead_198 : decode mX11_lead.2.1 198 = .ok (.ladd, 1) := by decide +kernel
theorem dX11_lead_199 : decode mX11_lead.2.1 199 = .ok (.ldc2_w 429, 3) := by decide +kernel
theorem dX11_lead_202 : decode mX11_lead.2.1 202 = .ok (.lrem, 1) := by decide +kernel
theorem dX11_lead_203 : decode mX11_lead.2.1 203 = .ok (.lastore, 1) := by decide +kernel
theorem dX11_lead_204 : decode mX11_lead.2.1 204 = .ok (.iinc 8 1, 3) := by decide +kernel
theorem dX11_lead_207 : decode mX11_lead.2.1 207 = .ok (.goto (-81), 3) := by decide +kernel
theorem dX11_lead_210 : decode mX11_lead.2.1 210 = .ok (.iinc 5 1, 3) := by decide +kernel
theorem dX11_lead_213 : decode mX11_lead.2.1 213 = .ok (.goto (-113), 3) := by decide +kernel
theorem dX11_lead_216 : decode mX11_lead.2.1 216 = .ok (.aload_n 0, 1) := by decide +kernel
theorem dX11_lead_217 : decode mX11_lead.2.1 217 = .ok (.getfield 143, 3) := by decide +kernel
theorem dX11_lead_220 : decode mX11_lead.2.1 220 = .ok (.iload_n 2, 1) := by decide +kernel
theorem dX11_lead_221 : decode mX11_lead.2.1 221 = .ok (.aload_n 0, 1) := by decide +kernel
theorem dX11_lead_222 : decode mX11_lead.2.1 222 = .ok (.getfield 438, 3) := by decide +kernel
theorem dX11_lead_225 : decode mX11_lead.2.1 225 = .ok (.iastore, 1) := by decide +kernel
theorem dX11_lead_226 : decode mX11_lead.2.1 226 = .ok (.aload_n 0, 1) := by decide +kernel
theorem dX11_lead_227 : decode mX11_lead.2.1 227 = .ok (.dup, 1) := by decide +kernel
theorem dX11_lead_228 : decode mX11_lead.2.1 228 = .ok (.getfield 438, 3) := by decide +kernel
theorem dX11_lead_231 : decode mX11_lead.2.1 231 = .ok (.iconst 1, 1) := by decide +kernel
theorem dX11_lead_232 : decode mX11_lead.2.1 232 = .ok (.iadd, 1) := by decide +kernel
theorem dX11_lead_233 : decode mX11_lead.2.1 233 = .ok (.putfield 438, 3) := by decide +kernel
theorem dX11_lead_236 : decode mX11_lead.2.1 236 = .ok (.return_, 1) := by decide +kernel
theorem okX11_lead_444 : gOkS mX11_lead mX11_inverse 444 1 := ⟨List.forall_mem_cons.mpr ⟨(gm 1735 (by decide +kernel) rfl), List.forall_mem_cons.mpr ⟨(gm 1733 (by decide +kernel) rfl), List.forall_mem_cons.mpr ⟨(gm 1734 (by decide +kernel) rfl), List.forall_mem_cons.mpr ⟨(gm 122 (by decide +kernel) rfl), fun _ h => absurd h List.not_mem_nil⟩⟩⟩⟩, by decide +kernel, by decide +kernel, by decide +kernel⟩
def fX11_lead_210 (p1 : Int32) (p2 : Int32) (k100 : Int32 → gS → Option (Unit × gS)) (v5 : Int32) (σ : gS) : Option (Unit × gS) :=
  bnd (v5 + 1) fun x1 =>
  k100 x1 σ
set_option maxHeartbeats 4000000 in
set_option maxRecDepth 100000 in
theorem pX11_lead_210 {E : gE} {p1 : Int32} {p2 : Int32} {k100 : Int32 → gS → Option (Unit × gS)} {r : Unit} {σ' : gS} {v5 : Int32} {σ : gS} (hk100 : ∀ (v5 : Int32) (σ : gS), k100 v5 σ = some (r, σ') → gG E mX11_lead 100 [(0, .ref 168), (2, .int p2), (5, .int v5)] [] σ (none) σ') (h : fX11_lead_210 p1 p2 k100 v5 σ = some (r, σ')) : gG E mX11_lead 210 [(0, .ref 168), (2, .int p2), (5, .int v5)] [] σ (none) σ' := by
  unfold fX11_lead_210 at h
  obtain ⟨x1, ex1, h⟩ := bnd_nm h
  refine g_iinc (j := 2) (v := x1) (lv' := [(5, .int x1), (0, .ref 168), (2, .int p2)]) dX11_lead_210 rfl (by rw [ex1]; rfl) (Nat.le_of_ble_eq_true rfl) rfl ?_
  refine g_goto (t := 100) dX11_lead_213 (by decide) ?_
  refine g_sub [1, 2, 0] rfl ?_
  exact hk100 x1 σ h
def fX11_lead_126 (p1 : Int32) (p2 : Int32) (k100 : Int32 → gS → Option (Unit × gS)) : Nat → Int32 → Int64 → Int32 → gS → Option (Unit × gS)
  | 0, _, _, _, _ => none
  | n + 1, v5, v6, v8, σ => if (σ.1 168 63) ≤ v8 then
    fX11_lead_210 p1 p2 k100 v5 σ
  else
    if v5 = (σ.1 168 67) then
      fX11_lead_210 p1 p2 k100 v5 σ
    else
      if (lg_cmp v6 0) = 0 then
        fX11_lead_210 p1 p2 k100 v5 σ
      else
        bnd ((48 * v5) + v8) fun x4 =>
        gg (¬ (x4 < 0 ∨ 2880 ≤ x4.toNatClampNeg)) (
        bnd ((48 * (σ.1 168 67)) + v8) fun x6 =>
        gg (¬ (x6 < 0 ∨ 2880 ≤ x6.toNatClampNeg)) (
        gg (¬ ((48 * v5) + v8 < 0 ∨ 2880 ≤ ((48 * v5) + v8).toNatClampNeg)) (
        bnd (gsJ σ 208 (((48 * v5) + v8).toNatClampNeg) (((σ.2.1 208 x4.toNatClampNeg) + ((1000003 - v6) * (σ.2.1 208 x6.toNatClampNeg))) - ((σ.2.1 208 x4.toNatClampNeg) + ((1000003 - v6) * (σ.2.1 208 x6.toNatClampNeg))) / 1000003 * 1000003)) fun σ9 =>
        bnd (v8 + 1) fun x10 =>
        fX11_lead_126 p1 p2 k100 n v5 v6 x10 σ9)))
set_option maxHeartbeats 4000000 in
set_option maxRecDepth 100000 in
theorem pX11_lead_126 {E : gE} {p1 : Int32} {p2 : Int32} {k100 : Int32 → gS → Option (Unit × gS)} {r : Unit} {σ' : gS} (hk100 : ∀ (v5 : Int32) (σ : gS), k100 v5 σ = some (r, σ') → gG E mX11_lead 100 [(0, .ref 168), (2, .int p2), (5, .int v5)] [] σ (none) σ') : ∀ (n : Nat) (v5 : Int32) (v6 : Int64) (v8 : Int32) (σ : gS), fX11_lead_126 p1 p2 k100 n v5 v6 v8 σ = some (r, σ') → gG E mX11_lead 126 [(0, .ref 168), (2, .int p2), (5, .int v5), (6, .long v6), (8, .int v8)] [] σ (none) σ' := by
  intro n
  induction n with
  | zero => intro v5 v6 v8 σ h; exact absurd (show none = some (r, σ') from h) (by intro q; cases q)
  | succ n ih =>
  intro v5 v6 v8 σ h
  unfold fX11_lead_126 at h
  refine g_iload dX11_lead_126 4 rfl ?_
  refine g_aload_n dX11_lead_128 rfl 0 rfl ?_
  refine g_getI dX11_lead_129 gi_168 rfl fl_RX11_431 ?_
  refine g_icmp_ge (t := 210) dX11_lead_132 (by decide) (fun c1 => ?_) (fun c1 => ?_)
  · replace h := if_t h c1
    refine g_sub [0, 1, 2] rfl ?_
    exact pX11_lead_210 hk100 h
  · replace h := if_f h c1
    refine g_iload dX11_lead_135 2 rfl ?_
    refine g_aload_n dX11_lead_137 rfl 0 rfl ?_
    refine g_getI dX11_lead_138 gi_168 rfl fl_RX11_438 ?_
    refine g_icmp_eq (t := 210) dX11_lead_141 (by decide) (fun c2 => ?_) (fun c2 => ?_)
    · replace h := if_t h c2
      refine g_sub [0, 1, 2] rfl ?_
      exact pX11_lead_210 hk100 h
    · replace h := if_f h c2
      refine g_lload dX11_lead_144 3 rfl ?_
      refine g_lconst (v := 0) dX11_lead_146 (by decide) ?_
      refine g_lcmp dX11_lead_147 ?_
      refine g_if_eq (t := 210) dX11_lead_148 (by decide) (fun c3 => ?_) (fun c3 => ?_)
      · replace h := if_t h c3
        refine g_sub [0, 1, 2] rfl ?_
        exact pX11_lead_210 hk100 h
      · replace h := if_f h c3
        refine g_aload_n dX11_lead_151 rfl 0 rfl ?_
        refine g_getC (n := 208) dX11_lead_152 gi_168 rfl fl_RX11_140 ?_
        refine g_bipush (v := 48) dX11_lead_155 (by decide) ?_
        refine g_iload dX11_lead_157 2 rfl ?_
        refine g_imul dX11_lead_159 ?_
        refine g_iload dX11_lead_160 4 rfl ?_
        refine g_iadd dX11_lead_162 ?_
        refine g_aload_n dX11_lead_163 rfl 0 rfl ?_
        refine g_getC (n := 208) dX11_lead_164 gi_168 rfl fl_RX11_140 ?_
        refine g_bipush (v := 48) dX11_lead_167 (by decide) ?_
        refine g_iload dX11_lead_169 2 rfl ?_
        refine g_imul dX11_lead_171 ?_
        refine g_iload dX11_lead_172 4 rfl ?_
        refine g_iadd dX11_lead_174 ?_
        obtain ⟨x4, ex4, h⟩ := bnd_nm h
        refine g_topi ex4 ?_
        obtain ⟨g5, h⟩ := gg_some h
        refine g_lald dX11_lead_175 gi_208 g5 ?_
        refine g_ldc2 (v := 1000003) dX11_lead_176 wl_RX11_429 ?_
        refine g_lload dX11_lead_179 3 rfl ?_
        refine g_lsub dX11_lead_181 ?_
        refine g_aload_n dX11_lead_182 rfl 0 rfl ?_
        refine g_getC (n := 208) dX11_lead_183 gi_168 rfl fl_RX11_140 ?_
        refine g_bipush (v := 48) dX11_lead_186 (by decide) ?_
        refine g_aload_n dX11_lead_188 rfl 0 rfl ?_
        refine g_getI dX11_lead_189 gi_168 rfl fl_RX11_438 ?_
        refine g_imul dX11_lead_192 ?_
        refine g_iload dX11_lead_193 4 rfl ?_
        refine g_iadd dX11_lead_195 ?_
        obtain ⟨x6, ex6, h⟩ := bnd_nm h
        refine g_topi ex6 ?_
        obtain ⟨g7, h⟩ := gg_some h
        refine g_lald dX11_lead_196 gi_208 g7 ?_
        refine g_lmul dX11_lead_197 ?_
        refine g_ladd dX11_lead_198 ?_
        refine g_ldc2 (v := 1000003) dX11_lead_199 wl_RX11_429 ?_
        refine g_lrem dX11_lead_202 (by decide) ?_
        obtain ⟨g8, h⟩ := gg_some h
        obtain ⟨σ9, eσ9, h⟩ := bnd_nm h
        refine g_last dX11_lead_203 gi_208 g8 (g_st eσ9 ?_)
        obtain ⟨x10, ex10, h⟩ := bnd_nm h
        refine g_iinc (j := 4) (v := x10) (lv' := [(8, .int x10), (0, .ref 168), (2, .int p2), (5, .int v5), (6, .long v6)]) dX11_lead_204 rfl (by rw [ex10]; rfl) (Nat.le_of_ble_eq_true rfl) rfl ?_
        refine g_goto (t := 126) dX11_lead_207 (by decide) ?_
        refine g_sub [1, 2, 3, 4, 0] rfl ?_
        exact ih v5 v6 x10 σ9 h
def fX11_lead_100 (p1 : Int32) (p2 : Int32) : Nat → Int32 → gS → Option (Unit × gS)
  | 0, _, _ => none
  | n + 1, v5, σ => if (σ.1 168 9) ≤ v5 then
    gg (¬ (p2 < 0 ∨ 48 ≤ p2.toNatClampNeg)) (
    bnd (gsI σ 209 p2.toNatClampNeg (σ.1 168 67)) fun σ3 =>
    bnd (gsI σ3 168 67 ((σ3.1 168 67) + 1)) fun σ4 =>
    some ((), σ4))
  else
    bnd ((48 * v5) + p2) fun x5 =>
    gg (¬ (x5 < 0 ∨ 2880 ≤ x5.toNatClampNeg)) (
    fX11_lead_126 p1 p2 (fun v5 σ => fX11_lead_100 p1 p2 n v5 σ) 2000 v5 (σ.2.1 208 x5.toNatClampNeg) 0 σ)
set_option maxHeartbeats 4000000 in
set_option maxRecDepth 100000 in
theorem pX11_lead_100 {E : gE} {p1 : Int32} {p2 : Int32} {r : Unit} {σ' : gS} : ∀ (n : Nat) (v5 : Int32) (σ : gS), fX11_lead_100 p1 p2 n v5 σ = some (r, σ') → gG E mX11_lead 100 [(0, .ref 168), (2, .int p2), (5, .int v5)] [] σ (none) σ' := by
  intro n
  induction n with
  | zero => intro v5 σ h; exact absurd (show none = some (r, σ') from h) (by intro q; cases q)
  | succ n ih =>
  intro v5 σ h
  unfold fX11_lead_100 at h
  refine g_iload dX11_lead_100 2 rfl ?_
  refine g_aload_n dX11_lead_102 rfl 0 rfl ?_
  refine g_getI dX11_lead_103 gi_168 rfl fl_RX11_380 ?_
  refine g_icmp_ge (t := 216) dX11_lead_106 (by decide) (fun c1 => ?_) (fun c1 => ?_)
  · replace h := if_t h c1
    refine g_aload_n dX11_lead_216 rfl 0 rfl ?_
    refine g_getC (n := 209) dX11_lead_217 gi_168 rfl fl_RX11_143 ?_
    refine g_iload_n dX11_lead_220 rfl 1 rfl ?_
    refine g_aload_n dX11_lead_221 rfl 0 rfl ?_
    refine g_getI dX11_lead_222 gi_168 rfl fl_RX11_438 ?_
    obtain ⟨g2, h⟩ := gg_some h
    obtain ⟨σ3, eσ3, h⟩ := bnd_nm h
    refine g_iast dX11_lead_225 gi_209 g2 (g_st eσ3 ?_)
    refine g_aload_n dX11_lead_226 rfl 0 rfl ?_
    refine g_dup dX11_lead_227 rfl ?_
    refine g_getI dX11_lead_228 gi_168 rfl fl_RX11_438 ?_
    refine g_iconst (v := 1) dX11_lead_231 (by decide) ?_
    refine g_iadd dX11_lead_232 ?_
    obtain ⟨σ4, eσ4, h⟩ := bnd_nm h
    refine g_putI dX11_lead_233 gi_168 rfl fp_RX11_438 (g_st eσ4 ?_)
    obtain ⟨rfl, rfl⟩ := so_inj h
    exact g_vret dX11_lead_236 rfl
  · replace h := if_f h c1
    refine g_aload_n dX11_lead_109 rfl 0 rfl ?_
    refine g_getC (n := 208) dX11_lead_110 gi_168 rfl fl_RX11_140 ?_
    refine g_bipush (v := 48) dX11_lead_113 (by decide) ?_
    refine g_iload dX11_lead_115 2 rfl ?_
    refine g_imul dX11_lead_117 ?_
    refine g_iload_n dX11_lead_118 rfl 1 rfl ?_
    refine g_iadd dX11_lead_119 ?_
    obtain ⟨x5, ex5, h⟩ := bnd_nm h
    refine g_topi ex5 ?_
    obtain ⟨g6, h⟩ := gg_some h
    refine g_lald dX11_lead_120 gi_208 g6 ?_
    refine g_lstore (lv' := [(6, .long (σ.2.1 208 x5.toNatClampNeg)), (0, .ref 168), (2, .int p2), (5, .int v5)]) dX11_lead_121 (Nat.le_of_ble_eq_true rfl) rfl ?_
    refine g_iconst (v := 0) dX11_lead_123 (by decide) ?_
    refine g_istore (lv' := [(8, .int 0), (6, .long (σ.2.1 208 x5.toNatClampNeg)), (0, .ref 168), (2, .int p2), (5, .int v5)]) dX11_lead_124 (Nat.le_of_ble_eq_true rfl) rfl ?_
    refine g_sub [2, 3, 4, 1, 0] rfl ?_
    exact pX11_lead_126 (fun v5 σ h => ih v5 σ h) 2000 v5 (σ.2.1 208 x5.toNatClampNeg) 0 σ h
def fX11_lead_18 (p1 : Int32) (p2 : Int32) : Nat → Int64 → Int32 → gS → Option (Unit × gS)
  | 0, _, _, _ => none
  | n + 1, v3, v5, σ => if (σ.1 168 63) ≤ v5 then
    fX11_lead_100 p1 p2 2000 0 σ
  else
    bnd ((48 * p1) + v5) fun x2 =>
    gg (¬ (x2 < 0 ∨ 2880 ≤ x2.toNatClampNeg)) (
    bnd ((48 * (σ.1 168 67)) + v5) fun x4 =>
    gg (¬ (x4 < 0 ∨ 2880 ≤ x4.toNatClampNeg)) (
    gg (¬ ((48 * p1) + v5 < 0 ∨ 2880 ≤ ((48 * p1) + v5).toNatClampNeg)) (
    bnd (gsJ σ 208 (((48 * p1) + v5).toNatClampNeg) (σ.2.1 208 x4.toNatClampNeg)) fun σ7 =>
    gg (¬ ((48 * (σ7.1 168 67)) + v5 < 0 ∨ 2880 ≤ ((48 * (σ7.1 168 67)) + v5).toNatClampNeg)) (
    bnd (gsJ σ7 208 (((48 * (σ7.1 168 67)) + v5).toNatClampNeg) (((σ.2.1 208 x2.toNatClampNeg) * v3) - ((σ.2.1 208 x2.toNatClampNeg) * v3) / 1000003 * 1000003)) fun σ9 =>
    bnd (v5 + 1) fun x10 =>
    fX11_lead_18 p1 p2 n v3 x10 σ9))))
set_option maxHeartbeats 4000000 in
set_option maxRecDepth 100000 in
theorem pX11_lead_18 {E : gE} {p1 : Int32} {p2 : Int32} {r : Unit} {σ' : gS} : ∀ (n : Nat) (v3 : Int64) (v5 : Int32) (σ : gS), fX11_lead_18 p1 p2 n v3 v5 σ = some (r, σ') → gG E mX11_lead 18 [(0, .ref 168), (1, .int p1), (2, .int p2), (3, .long v3), (5, .int v5)] [] σ (none) σ' := by
  intro n
  induction n with
  | zero => intro v3 v5 σ h; exact absurd (show none = some (r, σ') from h) (by intro q; cases q)
  | succ n ih =>
  intro v3 v5 σ h
  unfold fX11_lead_18 at h
  refine g_iload dX11_lead_18 4 rfl ?_
  refine g_aload_n dX11_lead_20 rfl 0 rfl ?_
  refine g_getI dX11_lead_21 gi_168 rfl fl_RX11_431 ?_
  refine g_icmp_ge (t := 97) dX11_lead_24 (by decide) (fun c1 => ?_) (fun c1 => ?_)
  · replace h := if_t h c1
    refine g_iconst (v := 0) dX11_lead_97 (by decide) ?_
    refine g_istore (lv' := [(5, .int 0), (0, .ref 168), (1, .int p1), (2, .int p2), (3, .long v3)]) dX11_lead_98 (Nat.le_of_ble_eq_true rfl) rfl ?_
    refine g_sub [1, 3, 0] rfl ?_
    exact pX11_lead_100 2000 0 σ h
  · replace h := if_f h c1
    refine g_aload_n dX11_lead_27 rfl 0 rfl ?_
    refine g_getC (n := 208) dX11_lead_28 gi_168 rfl fl_RX11_140 ?_
    refine g_bipush (v := 48) dX11_lead_31 (by decide) ?_
    refine g_iload_n dX11_lead_33 rfl 1 rfl ?_
    refine g_imul dX11_lead_34 ?_
    refine g_iload dX11_lead_35 4 rfl ?_
    refine g_iadd dX11_lead_37 ?_
    obtain ⟨x2, ex2, h⟩ := bnd_nm h
    refine g_topi ex2 ?_
    obtain ⟨g3, h⟩ := gg_some h
    refine g_lald dX11_lead_38 gi_208 g3 ?_
    refine g_lstore (lv' := [(6, .long (σ.2.1 208 x2.toNatClampNeg)), (0, .ref 168), (1, .int p1), (2, .int p2), (3, .long v3), (5, .int v5)]) dX11_lead_39 (Nat.le_of_ble_eq_true rfl) rfl ?_
    refine g_aload_n dX11_lead_41 rfl 1 rfl ?_
    refine g_getC (n := 208) dX11_lead_42 gi_168 rfl fl_RX11_140 ?_
    refine g_bipush (v := 48) dX11_lead_45 (by decide) ?_
    refine g_iload_n dX11_lead_47 rfl 2 rfl ?_
    refine g_imul dX11_lead_48 ?_
    refine g_iload dX11_lead_49 5 rfl ?_
    refine g_iadd dX11_lead_51 ?_
    refine g_aload_n dX11_lead_52 rfl 1 rfl ?_
    refine g_getC (n := 208) dX11_lead_53 gi_168 rfl fl_RX11_140 ?_
    refine g_bipush (v := 48) dX11_lead_56 (by decide) ?_
    refine g_aload_n dX11_lead_58 rfl 1 rfl ?_
    refine g_getI dX11_lead_59 gi_168 rfl fl_RX11_438 ?_
    refine g_imul dX11_lead_62 ?_
    refine g_iload dX11_lead_63 5 rfl ?_
    refine g_iadd dX11_lead_65 ?_
    obtain ⟨x4, ex4, h⟩ := bnd_nm h
    refine g_topi ex4 ?_
    obtain ⟨g5, h⟩ := gg_some h
    refine g_lald dX11_lead_66 gi_208 g5 ?_
    obtain ⟨g6, h⟩ := gg_some h
    obtain ⟨σ7, eσ7, h⟩ := bnd_nm h
    refine g_last dX11_lead_67 gi_208 g6 (g_st eσ7 ?_)
    refine g_aload_n dX11_lead_68 rfl 1 rfl ?_
    refine g_getC (n := 208) dX11_lead_69 gi_168 rfl fl_RX11_140 ?_
    refine g_bipush (v := 48) dX11_lead_72 (by decide) ?_
    refine g_aload_n dX11_lead_74 rfl 1 rfl ?_
    refine g_getI dX11_lead_75 gi_168 rfl fl_RX11_438 ?_
    refine g_imul dX11_lead_78 ?_
    refine g_iload dX11_lead_79 5 rfl ?_
    refine g_iadd dX11_lead_81 ?_
    refine g_lload dX11_lead_82 0 rfl ?_
    refine g_lload_n dX11_lead_84 rfl 4 rfl ?_
    refine g_lmul dX11_lead_85 ?_
    refine g_ldc2 (v := 1000003) dX11_lead_86 wl_RX11_429 ?_
    refine g_lrem dX11_lead_89 (by decide) ?_
    obtain ⟨g8, h⟩ := gg_some h
    obtain ⟨σ9, eσ9, h⟩ := bnd_nm h
    refine g_last dX11_lead_90 gi_208 g8 (g_st eσ9 ?_)
    obtain ⟨x10, ex10, h⟩ := bnd_nm h
    refine g_iinc (j := 5) (v := x10) (lv' := [(5, .int x10), (6, .long (σ.2.1 208 x2.toNatClampNeg)), (0, .ref 168), (1, .int p1), (2, .int p2), (3, .long v3)]) dX11_lead_91 rfl (by rw [ex10]; rfl) (Nat.le_of_ble_eq_true rfl) rfl ?_
    refine g_goto (t := 18) dX11_lead_94 (by decide) ?_
    refine g_sub [2, 3, 4, 5, 0] rfl ?_
    exact ih v3 x10 σ9 h
def fX11_lead (p1 : Int32) (p2 : Int32) (σ : gS) : Option (Unit × gS) :=
  bnd ((48 * p1) + p2) fun x1 =>
  gg (¬ (x1 < 0 ∨ 2880 ≤ x1.toNatClampNeg)) (
  bd (fX11_inverse (σ.2.1 208 x1.toNatClampNeg) σ) fun x3 σ4 =>
  fX11_lead_18 p1 p2 2000 x3 0 σ4)
set_option maxHeartbeats 4000000 in
set_option maxRecDepth 100000 in
theorem pX11_lead {E : gE} {p1 : Int32} {p2 : Int32} {r : Unit} {σ' : gS} {σ : gS} (h : fX11_lead p1 p2 σ = some (r, σ')) : gG E mX11_lead 0 [(0, .ref 168), (1, .int p1), (2, .int p2)] [] σ (none) σ' := by
  unfold fX11_lead at h
  refine g_aload_n dX11_lead_0 rfl 0 rfl ?_
  refine g_getC (n := 208) dX11_lead_1 gi_168 rfl fl_RX11_140 ?_
  refine g_bipush (v := 48) dX11_lead_4 (by decide) ?_
  refine g_iload_n dX11_lead_6 rfl 1 rfl ?_
  refine g_imul dX11_lead_7 ?_
  refine g_iload_n dX11_lead_8 rfl 2 rfl ?_
  refine g_iadd dX11_lead_9 ?_
  obtain ⟨x1, ex1, h⟩ := bnd_nm h
  refine g_topi ex1 ?_
  obtain ⟨g2, h⟩ := gg_some h
  refine g_lald dX11_lead_10 gi_208 g2 ?_
  obtain ⟨x3, σ4, y5, h⟩ := bd_some h
  refine g_callSr (as := [.long (σ.2.1 208 x1.toNatClampNeg)]) (st := []) (zX11_inverse y5) dX11_lead_11 okX11_lead_444 (Nat.le_of_ble_eq_true rfl) ?_
  refine g_lstore_n (lv' := [(3, .long x3), (0, .ref 168), (1, .int p1), (2, .int p2)]) dX11_lead_14 rfl (Nat.le_of_ble_eq_true rfl) rfl ?_
  refine g_iconst (v := 0) dX11_lead_15 (by decide) ?_
  refine g_istore (lv' := [(5, .int 0), (3, .long x3), (0, .ref 168), (1, .int p1), (2, .int p2)]) dX11_lead_16 (Nat.le_of_ble_eq_true rfl) rfl ?_
  refine g_sub [2, 3, 4, 1, 0] rfl ?_
  exact pX11_lead_18 2000 x3 0 σ4 h
theorem zX11_lead {E : gE} {p1 : Int32} {p2 : Int32} {r : Unit} {σ σ' : gS} (h : fX11_lead p1 p2 σ = some (r, σ')) : gC E mX11_lead [.ref 168, .int p1, .int p2] σ (none) σ' :=
  gC_of (by decide +kernel) rfl (Nat.le_of_ble_eq_true rfl) (pX11_lead h)
theorem fp_RX11_431 : gFp RX11 431 11 63 .int := ⟨RX11, TX11, 101, rfl, by decide, ux_11, Or.inl (gm 1291 (by decide +kernel) rfl), rfl, by decide +kernel, ⟨tyX11, tyX11_ok⟩, nmX11⟩
def mX11_findRank : gM := (yX11_findRank, cX11_findRank, RX11, 8, none, 2, 55)
theorem dX11_findRank_0 : decode mX11_findRank.2.1 0 = .ok (.aload_n 0, 1) := by decide +kernel
theorem dX11_findRank_1 : decode mX11_findRank.2.1 1 = .ok (.iconst 0, 1) := by decide +kernel
theorem dX11_findRank_2 : decode mX11_findRank.2.1 2 = .ok (.putfield 431, 3) := by decide +kernel
theorem dX11_findRank_5 : decode mX11_findRank.2.1 5 = .ok (.iconst 0, 1) := by decide +kernel
theorem dX11_findRank_6 : decode mX11_findRank.2.1 6 = .ok (.istore_n 1, 1) := by decide +kernel
theorem dX11_findRank_7 : decode mX11_findRank.2.1 7 = .ok (.iload_n 1, 1) := by decide +kernel
theorem dX11_findRank_8 : decode mX11_findRank.2.1 8 = .ok (.aload_n 0, 1) := by decide +kernel
theorem dX11_findRank_9 : decode mX11_findRank.2.1 9 = .ok (.getfield 374, 3) := by decide +kernel
theorem dX11_findRank_12 : decode mX11_findRank.2.1 12 = .ok (.if_icmp .ge 42, 3) := by decide +kernel
theorem dX11_findRank_15 : decode mX11_findRank.2.1 15 = .ok (.aload_n 0, 1) := by decide +kernel
theorem dX11_findRank_16 : decode mX11_findRank.2.1 16 = .ok (.getfield 134, 3) := by decide +kernel
theorem dX11_findRank_19 : decode mX11_findRank.2.1 19 = .ok (.iload_n 1, 1) := by decide +kernel
theorem dX11_findRank_20 : decode mX11_findRank.2.1 20 = .ok (.aload_n 0, 1) := by decide +kernel
theorem dX11_findRank_21 : decode mX11_findRank.2.1 21 = .ok (.getfield 431, 3) := by decide +kernel
theorem dX11_findRank_24 : decode mX11_findRank.2.1 24 = .ok (.iastore, 1) := by decide +kernel
theorem dX11_findRank_25 : decode mX11_findRank.2.1 25 = .ok (.aload_n 0, 1) := by decide +kernel
theorem dX11_findRank_26 : decode mX11_findRank.2.1 26 = .ok (.dup, 1) := by decide +kernel
theorem dX11_findRank_27 : decode mX11_findRank.2.1 27 = .ok (.getfield 431, 3) := by decide +kernel
theorem dX11_findRank_30 : decode mX11_findRank.2.1 30 = .ok (.aload_n 0, 1) := by decide +kernel
theorem dX11_findRank_31 : decode mX11_findRank.2.1 31 = .ok (.getfield 20, 3) := by decide +kernel
theorem dX11_findRank_34 : decode mX11_findRank.2.1 34 = .ok (.iload_n 1, 1) := by decide +kernel
theorem dX11_findRank_35 : decode mX11_findRank.2.1 35 = .ok (.baload, 1) := by decide +kernel
theorem dX11_findRank_36 : decode mX11_findRank.2.1 36 = .ok (.ifCond .eq 7, 3) := by decide +kernel
theorem dX11_findRank_39 : decode mX11_findRank.2.1 39 = .ok (.iconst 0, 1) := by decide +kernel
theorem dX11_findRank_40 : decode mX11_findRank.2.1 40 = .ok (.goto 4, 3) := by decide +kernel
theorem dX11_findRank_43 : decode mX11_findRank.2.1 43 = .ok (.iconst 2, 1) := by decide +kernel
theorem dX11_findRank_44 : decode mX11_findRank.2.1 44 = .ok (.iadd, 1) := by decide +kernel
theorem dX11_findRank_45 : decode mX11_findRank.2.1 45 = .ok (.putfield 431, 3) := by decide +kernel
theorem dX11_findRank_48 : decode mX11_findRank.2.1 48 = .ok (.iinc 1 1, 3) := by decide +kernel
theorem dX11_findRank_51 : decode mX11_findRank.2.1 51 = .ok (.goto (-44), 3) := by decide +kernel
theorem dX11_findRank_54 : decode mX11_findRank.2.1 54 = .ok (.iconst 0, 1) := by decide +kernel
theorem dX11_findRank_55 : decode mX11_findRank.2.1 55 = .ok (.istore_n 1, 1) := by decide +kernel
theorem dX11_findRank_56 : decode mX11_findRank.2.1 56 = .ok (.iload_n 1, 1) := by decide +kernel
theorem dX11_findRank_57 : decode mX11_findRank.2.1 57 = .ok (.bipush 48, 2) := by decide +kernel
theorem dX11_findRank_59 : decode mX11_findRank.2.1 59 = .ok (.aload_n 0, 1) := by decide +kernel
theorem dX11_findRank_60 : decode mX11_findRank.2.1 60 = .ok (.getfield 380, 3) := by decide +kernel
theorem dX11_findRank_63 : decode mX11_findRank.2.1 63 = .ok (.imul, 1) := by decide +kernel
theorem dX11_findRank_64 : decode mX11_findRank.2.1 64 = .ok (.if_icmp .ge 16, 3) := by decide +kernel
theorem dX11_findRank_67 : decode mX11_findRank.2.1 67 = .ok (.aload_n 0, 1) := by decide +kernel
theorem dX11_findRank_68 : decode mX11_findRank.2.1 68 = .ok (.getfield 140, 3) := by decide +kernel
theorem dX11_findRank_71 : decode mX11_findRank.2.1 71 = .ok (.iload_n 1, 1) := by decide +kernel
theorem dX11_findRank_72 : decode mX11_findRank.2.1 72 = .ok (.lconst 0, 1) := by decide +kernel
theorem dX11_findRank_73 : decode mX11_findRank.2.1 73 = .ok (.lastore, 1) := by decide +kernel
theorem dX11_findRank_74 : decode mX11_findRank.2.1 74 = .ok (.iinc 1 1, 3) := by decide +kernel
theorem dX11_findRank_77 : decode mX11_findRank.2.1 77 = .ok (.goto (-21), 3) := by decide +kernel
theorem dX11_findRank_80 : decode mX11_findRank.2.1 80 = .ok (.iconst 0, 1) := by decide +kernel
theorem dX11_findRank_81 : decode mX11_findRank.2.1 81 = .ok (.istore_n 1, 1) := by decide +kernel
theorem dX11_findRank_82 : decode mX11_findRank.2.1 82 = .ok (.iload_n 1, 1) := by decide +kernel
theorem dX11_findRank_83 : decode mX11_findRank.2.1 83 = .ok (.aload_n 0, 1) := by decide +kernel
theorem dX11_findRank_84 : decode mX11_findRank.2.1 84 = .ok (.getfield 380, 3) := by decide +kernel
theorem dX11_findRank_87 : decode mX11_findRank.2.1 87 = .ok (.if_icmp .ge 77, 3) := by decide +kernel
theorem dX11_findRank_90 : decode mX11_findRank.2.1 90 = .ok (.aload_n 0, 1) := by decide +kernel
theorem dX11_findRank_91 : decode mX11_findRank.2.1 91 = .ok (.getfield 33, 3) := by decide +kernel
theorem dX11_findRank_94 : decode mX11_findRank.2.1 94 = .ok (.iload_n 1, 1) := by decide +kernel
theorem dX11_findRank_95 : decode mX11_findRank.2.1 95 = .ok (.iaload, 1) := by decide +kernel
theorem dX11_findRank_96 : decode mX11_findRank.2.1 96 = .ok (.istore_n 2, 1) := by decide +kernel
theorem dX11_findRank_97 : decode mX11_findRank.2.1 97 = .ok (.aload_n 0, 1) := by decide +kernel
theorem dX11_findRank_98 : decode mX11_findRank.2.1 98 = .ok (.getfield 36, 3) := by decide +kernel
theorem dX11_findRank_101 : decode mX11_findRank.2.1 101 = .ok (.iload_n 1, 1) := by decide +kernel
theorem dX11_findRank_102 : decode mX11_findRank.2.1 102 = .ok (.iaload, 1) := by decide +kernel
theorem dX11_findRank_103 : decode mX11_findRank.2.1 103 = .ok (.istore_n 3, 1) := by decide +kernel
theorem dX11_findRank_104 : decode mX11_findRank.2.1 104 = .ok (.aload_n 0, 1) := by decide +kernel
theorem dX11_findRank_105 : decode mX11_findRank.2.1 105 = .ok (.getfield 13, 3) := by decide +kernel
theorem dX11_findRank_108 : decode mX11_findRank.2.1 108 = .ok (.iload_n 2, 1) := by decide +kernel
theorem dX11_findRank_109 : decode mX11_findRank.2.1 109 = .ok (.iaload, 1) := by decide +kernel
theorem dX11_findRank_110 : decode mX11_findRank.2.1 110 = .ok (.aload_n 0, 1) := by decide +kernel
theorem dX11_findRank_111 : decode mX11_findRank.2.1 111 = .ok (.getfield 13, 3) := by decide +kernel
theorem dX11_findRank_114 : decode mX11_findRank.2.1 114 = .ok (.iload_n 3, 1) := by decide +kernel
theorem dX11_findRank_115 : decode mX11_findRank.2.1 115 = .ok (.iaload, 1) := by decide +kernel
theorem dX11_findRank_116 : decode mX11_findRank.2.1 116 = .ok (.isub, 1) := by decide +kernel
theorem dX11_findRank_117 : decode mX11_findRank.2.1 117 = .ok (.i2l, 1) := by decide +kernel
theorem dX11_findRank_118 : decode mX11_findRank.2.1 118 = .ok (.lstore 4, 2) := by decide +kernel
theorem dX11_findRank_120 : decode mX11_findRank.2.1 120 = .ok (.aload_n 0, 1) := by decide +kernel
theorem dX11_findRank_121 : decode mX11_findRank.2.1 121 = .ok (.getfield 17, 3) := by decide +kernel
theorem dX11_findRank_124 : decode mX11_findRank.2.1 124 = .ok (.iload_n 2, 1) := by decide +kernel
theorem dX11_findRank_125 : decode mX11_findRank.2.1 125 = .ok (.iaload, 1) := by decide +kernel
theorem dX11_findRank_126 : decode mX11_findRank.2.1 126 = .ok (.aload_n 0, 1) := by decide +kernel
theorem dX11_findRank_127 : decode mX11_findRank.2.1 127 = .ok (.getfield 17, 3) := by decide +kernel
theorem dX11_findRank_130 : decode mX11_findRank.2.1 130 = .ok (.iload_n 3, 1) := by decide +kernel
theorem dX11_findRank_131 : decode mX11_findRank.2.1 131 = .ok (.iaload, 1) := by decide +kernel
theorem dX11_findRank_132 : decode mX11_findRank.2.1 132 = .ok (.isub, 1) := by decide +kernel
theorem dX11_findRank_133 : decode mX11_findRank.2.1 133 = .ok (.i2l, 1) := by decide +kernel
theorem dX11_findRank_134 : decode mX11_findRank.2.1 134 = .ok (.lstore 6, 2) := by decide +kernel
theorem dX11_findRank_136 : decode mX11_findRank.2.1 136 = .ok (.aload_n 0, 1) := by decide +kernel
theorem dX11_findRank_137 : decode mX11_findRank.2.1 137 = .ok (.iload_n 1, 1) := by decide +kernel
theorem dX11_findRank_138 : decode mX11_findRank.2.1 138 = .ok (.iload_n 2, 1) := by decide +kernel
theorem dX11_findRank_139 : decode mX11_findRank.2.1 139 = .ok (.lload 4, 2) := by decide +kernel
theorem dX11_findRank_141 : decode mX11_findRank.2.1 141 = .ok (.lload 6, 2) := by decide +kernel
theorem dX11_findRank_143 : decode mX11_findRank.2.1 143 = .ok (.invokevirtual 434, 3) := by decide +kernel
theorem dX11_findRank_146 : decode mX11_findRank.2.1 146 = .ok (.aload_n 0, 1) := by decide +kernel
theorem dX11_findRank_147 : decode mX11_findRank.2.1 147 = .ok (.iload_n 1, 1) := by decide +kernel
theorem dX11_findRank_148 : decode mX11_findRank.2.1 148 = .ok (.iload_n 3, 1) := by decide +kernel
theorem dX11_findRank_149 : decode mX11_findRank.2.1 149 = .ok (.lload 4, 2) := by decide +kernel
theorem dX11_findRank_151 : decode mX11_findRank.2.1 151 = .ok (.lneg, 1) := by decide +kernel
theorem dX11_findRank_152 : decode mX11_findRank.2.1 152 = .ok (.lload 6, 2) := by decide +kernel
theorem dX11_findRank_154 : decode mX11_findRank.2.1 154 = .ok (.lneg, 1) := by decide +kernel
theorem dX11_findRank_155 : decode mX11_findRank.2.1 155 = .ok (.invokevirtual 434, 3) := by decide +kernel
theorem dX11_findRank_158 : decode mX11_findRank.2.1 158 = .ok (.iinc 1 1, 3) := by decide +kernel
theorem dX11_findRank_161 : decode mX11_findRank.2.1 161 = .ok (.goto (-79), 3) := by decide +kernel
theorem dX11_findRank_164 : decode mX11_findRank.2.1 164 = .ok (.aload_n 0, 1) := by decide +kernel
theorem dX11_findRank_165 : decode mX11_findRank.2.1 165 = .ok (.iconst 0, 1) := by decide +kernel
theorem dX11_findRank_166 : decode mX11_findRank.2.1 166 = .ok (.putfield 438, 3) := by decide +kernel
theorem dX11_findRank_169 : decode mX11_findRank.2.1 169 = .ok (.iconst 0, 1) := by decide +kernel
theorem dX11_findRank_170 : decode mX11_findRank.2.1 170 = .ok (.istore_n 1, 1) := by decide +kernel
theorem dX11_findRank_171 : decode mX11_findRank.2.1 171 = .ok (.iload_n 1, 1) := by decide +kernel
theorem dX11_findRank_172 : decode mX11_findRank.2.1 172 = .ok (.aload_n 0, 1) := by decide +kernel
theorem dX11_findRank_173 : decode mX11_findRank.2.1 173 = .ok (.getfield 431, 3) := by decide +kernel
theorem dX11_findRank_176 : decode mX11_findRank.2.1 176 = .ok (.if_icmp .ge 65, 3) := by decide +kernel
theorem dX11_findRank_179 : decode mX11_findRank.2.1 179 = .ok (.aload_n 0, 1) := by decide +kernel
theorem dX11_findRank_180 : decode mX11_findRank.2.1 180 = .ok (.getfield 143, 3) := by decide +kernel
theorem dX11_findRank_183 : decode mX11_findRank.2.1 183 = .ok (.iload_n 1, 1) := by decide +kernel
theorem dX11_findRank_184 : decode mX11_findRank.2.1 184 = .ok (.iconst (-1), 1) := by decide +kernel
theorem dX11_findRank_185 : decode mX11_findRank.2.1 185 = .ok (.iastore, 1) := by decide +kernel
theorem dX11_findRank_186 : decode mX11_findRank.2.1 186 = .ok (.aload_n 0, 1) := by decide +kernel
theorem dX11_findRank_187 : decode mX11_findRank.2.1 187 = .ok (.getfield 438, 3) := by decide +kernel
theorem dX11_findRank_190 : decode mX11_findRank.2.1 190 = .ok (.istore_n 2, 1) := by decide +kernel
theorem dX11_findRank_191 : decode mX11_findRank.2.1 191 = .ok (.iload_n 2, 1) := by decide +kernel
theorem dX11_findRank_192 : decode mX11_findRank.2.1 192 = .ok (.aload_n 0, 1) := by decide +kernel
theorem dX11_findRank_193 : decode mX11_findRank.2.1 193 = .ok (.getfield 380, 3) := by decide +kernel
theorem dX11_findRank_196 : decode mX11_findRank.2.1 196 = .ok (.if_icmp .ge 25, 3) := by decide +kernel
theorem dX11_findRank_199 : decode mX11_findRank.2.1 199 = .ok (.aload_n 0, 1) := by decide +kernel
theorem dX11_findRank_200 : decode mX11_findRank.2.1 200 = .ok (.getfield 140, 3) := by decide +kernel
theorem dX11_findRank_203 : decode mX11_findRank.2.1 203 = .ok (.bipush 48, 2) := by decide +kernel
theorem dX11_findRank_205 : decode mX11_findRank.2.1 205 = .ok (.iload_n 2, 1) := by decide +kernel
theorem dX11_findRank_206 : decode mX11_findRank.2.1 206 = .ok (.imul, 1) := by decide +kernel
theorem dX11_findRank_207 : decode mX11_findRank.2.1 207 = .ok (.iload_n 1, 1) := by decide +kernel
theorem dX11_findRank_208 : decode mX11_findRank.2.1 208 = .ok (.iadd, 1) := by decide +kernel
theorem dX11_findRank_209 : decode mX11_findRank.2.1 209 = .ok (.laload, 1) := by decide +kernel
theorem dX11_findRank_210 : decode mX11_findRank.2.1 210 = .ok (.lconst 0, 1) := by decide +kernel
theorem dX11_findRank_211 : decode mX11_findRank.2.1 211 = .ok (.lcmp, 1) := by decide +kernel
theorem dX11_findRank_212 : decode mX11_findRank.2.1 212 = .ok (.ifCond .ne 9, 3) := by decide +kernel
theorem dX11_findRank_215 : decode mX11_findRank.2.1 215 = .ok (.iinc 2 1, 3) := by decide +kernel
theorem dX11_findRank_218 : decode mX11_findRank.2.1 218 = .ok (.goto (-27), 3) := by decide +kernel
theorem dX11_findRank_221 : decode mX11_findRank.2.1 221 = .ok (.iload_n 2, 1) := by decide +kernel
theorem dX11_findRank_222 : decode mX11_findRank.2.1 222 = .ok (.aload_n 0, 1) := by decide +kernel
theorem dX11_findRank_223 : decode mX11_findRank.2.1 223 = .ok (.getfield 380, 3) := by decide +kernel
theorem dX11_findRank_226 : decode mX11_findRank.2.1 226 = .ok (.if_icmp .ge 9, 3) := by decide +kernel
theorem dX11_findRank_229 : decode mX11_findRank.2.1 229 = .ok (.aload_n 0, 1) := by decide +kernel
theorem dX11_findRank_230 : decode mX11_findRank.2.1 230 = .ok (.iload_n 2, 1) := by decide +kernel
theorem dX11_findRank_231 : decode mX11_findRank.2.1 231 = .ok (.iload_n 1, 1) := by decide +kernel
theorem dX11_findRank_232 : decode mX11_findRank.2.1 232 = .ok (.invokevirtual 441, 3) := by decide +kernel
theorem dX11_findRank_235 : decode mX11_findRank.2.1 235 = .ok (.iinc 1 1, 3) := by decide +kernel
theorem dX11_findRank_238 : decode mX11_findRank.2.1 238 = .ok (.goto (-67), 3) := by decide +kernel
theorem dX11_findRank_241 : decode mX11_findRank.2.1 241 = .ok (.return_, 1) := by decide +kernel
theorem okX11_findRank_441 : gOkV mX11_findRank mX11_lead 441 2 := ⟨List.forall_mem_cons.mpr ⟨(gm 1732 (by decide +kernel) rfl), List.forall_mem_cons.mpr ⟨(gm 1729 (by decide +kernel) rfl), List.forall_mem_cons.mpr ⟨(gm 1731 (by decide +kernel) rfl), List.forall_mem_cons.mpr ⟨(gm 92 (by decide +kernel) rfl), List.forall_mem_cons.mpr ⟨(gm 122 (by decide +kernel) rfl), fun _ h => absurd h List.not_mem_nil⟩⟩⟩⟩⟩, by decide +kernel, by decide +kernel, by decide +kernel⟩
theorem okX11_findRank_434 : gOkV mX11_findRank mX11_enter 434 4 := ⟨List.forall_mem_cons.mpr ⟨(gm 1727 (by decide +kernel) rfl), List.forall_mem_cons.mpr ⟨(gm 1724 (by decide +kernel) rfl), List.forall_mem_cons.mpr ⟨(gm 1726 (by decide +kernel) rfl), List.forall_mem_cons.mpr ⟨(gm 91 (by decide +kernel) rfl), List.forall_mem_cons.mpr ⟨(gm 122 (by decide +kernel) rfl), fun _ h => absurd h List.not_mem_nil⟩⟩⟩⟩⟩, by decide +kernel, by decide +kernel, by decide +kernel⟩
def fX11_findRank_44 (k7 : Int32 → gS → Option (Unit × gS)) (v1 : Int32) (s1 : Int32) (s2 : Int32) (σ : gS) : Option (Unit × gS) :=
  bnd (gsI σ 168 63 (s1 + s2)) fun σ1 =>
  bnd (v1 + 1) fun x2 =>
  k7 x2 σ1
set_option maxHeartbeats 4000000 in
set_option maxRecDepth 100000 in
theorem pX11_findRank_44 {E : gE} {k7 : Int32 → gS → Option (Unit × gS)} {r : Unit} {σ' : gS} {v1 : Int32} {s1 : Int32} {s2 : Int32} {σ : gS} (hk7 : ∀ (v1 : Int32) (σ : gS), k7 v1 σ = some (r, σ') → gG E mX11_findRank 7 [(0, .ref 168), (1, .int v1)] [] σ (none) σ') (h : fX11_findRank_44 k7 v1 s1 s2 σ = some (r, σ')) : gG E mX11_findRank 44 [(0, .ref 168), (1, .int v1)] [.int s2, .int s1, .ref 168] σ (none) σ' := by
  unfold fX11_findRank_44 at h
  refine g_iadd dX11_findRank_44 ?_
  obtain ⟨σ1, eσ1, h⟩ := bnd_nm h
  refine g_putI dX11_findRank_45 gi_168 rfl fp_RX11_431 (g_st eσ1 ?_)
  obtain ⟨x2, ex2, h⟩ := bnd_nm h
  refine g_iinc (j := 1) (v := x2) (lv' := [(1, .int x2), (0, .ref 168)]) dX11_findRank_48 rfl (by rw [ex2]; rfl) (Nat.le_of_ble_eq_true rfl) rfl ?_
  refine g_goto (t := 7) dX11_findRank_51 (by decide) ?_
  refine g_sub [1, 0] rfl ?_
  exact hk7 x2 σ1 h
def fX11_findRank_235 (k171 : Int32 → gS → Option (Unit × gS)) (v1 : Int32) (σ : gS) : Option (Unit × gS) :=
  bnd (v1 + 1) fun x1 =>
  k171 x1 σ
set_option maxHeartbeats 4000000 in
set_option maxRecDepth 100000 in
theorem pX11_findRank_235 {E : gE} {k171 : Int32 → gS → Option (Unit × gS)} {r : Unit} {σ' : gS} {v1 : Int32} {σ : gS} (hk171 : ∀ (v1 : Int32) (σ : gS), k171 v1 σ = some (r, σ') → gG E mX11_findRank 171 [(0, .ref 168), (1, .int v1)] [] σ (none) σ') (h : fX11_findRank_235 k171 v1 σ = some (r, σ')) : gG E mX11_findRank 235 [(0, .ref 168), (1, .int v1)] [] σ (none) σ' := by
  unfold fX11_findRank_235 at h
  obtain ⟨x1, ex1, h⟩ := bnd_nm h
  refine g_iinc (j := 1) (v := x1) (lv' := [(1, .int x1), (0, .ref 168)]) dX11_findRank_235 rfl (by rw [ex1]; rfl) (Nat.le_of_ble_eq_true rfl) rfl ?_
  refine g_goto (t := 171) dX11_findRank_238 (by decide) ?_
  refine g_sub [1, 0] rfl ?_
  exact hk171 x1 σ h
def fX11_findRank_221 (k171 : Int32 → gS → Option (Unit × gS)) (v1 : Int32) (v2 : Int32) (σ : gS) : Option (Unit × gS) :=
  if (σ.1 168 9) ≤ v2 then
    fX11_findRank_235 k171 v1 σ
  else
    bd (fX11_lead v2 v1 σ) fun _ σ2 =>
    fX11_findRank_235 k171 v1 σ2
set_option maxHeartbeats 4000000 in
set_option maxRecDepth 100000 in
theorem pX11_findRank_221 {E : gE} {k171 : Int32 → gS → Option (Unit × gS)} {r : Unit} {σ' : gS} {v1 : Int32} {v2 : Int32} {σ : gS} (hk171 : ∀ (v1 : Int32) (σ : gS), k171 v1 σ = some (r, σ') → gG E mX11_findRank 171 [(0, .ref 168), (1, .int v1)] [] σ (none) σ') (h : fX11_findRank_221 k171 v1 v2 σ = some (r, σ')) : gG E mX11_findRank 221 [(0, .ref 168), (1, .int v1), (2, .int v2)] [] σ (none) σ' := by
  unfold fX11_findRank_221 at h
  refine g_iload_n dX11_findRank_221 rfl 2 rfl ?_
  refine g_aload_n dX11_findRank_222 rfl 0 rfl ?_
  refine g_getI dX11_findRank_223 gi_168 rfl fl_RX11_380 ?_
  refine g_icmp_ge (t := 235) dX11_findRank_226 (by decide) (fun c1 => ?_) (fun c1 => ?_)
  · replace h := if_t h c1
    refine g_sub [0, 1] rfl ?_
    exact pX11_findRank_235 hk171 h
  · replace h := if_f h c1
    refine g_aload_n dX11_findRank_229 rfl 0 rfl ?_
    refine g_iload_n dX11_findRank_230 rfl 2 rfl ?_
    refine g_iload_n dX11_findRank_231 rfl 1 rfl ?_
    obtain ⟨_, σ2, y3, h⟩ := bd_some h
    refine g_callVv (as := [.int v2, .int v1]) (st := []) (zX11_lead y3) dX11_findRank_232 gi_168 rfl okX11_findRank_441 (Nat.le_of_ble_eq_true rfl) ?_
    refine g_sub [0, 1] rfl ?_
    exact pX11_findRank_235 hk171 h
def fX11_findRank_191 (k171 : Int32 → gS → Option (Unit × gS)) : Nat → Int32 → Int32 → gS → Option (Unit × gS)
  | 0, _, _, _ => none
  | n + 1, v1, v2, σ => if (σ.1 168 9) ≤ v2 then
    fX11_findRank_221 k171 v1 v2 σ
  else
    bnd ((48 * v2) + v1) fun x2 =>
    gg (¬ (x2 < 0 ∨ 2880 ≤ x2.toNatClampNeg)) (
    if (lg_cmp (σ.2.1 208 x2.toNatClampNeg) 0) = 0 then
      bnd (v2 + 1) fun x5 =>
      fX11_findRank_191 k171 n v1 x5 σ
    else
      fX11_findRank_221 k171 v1 v2 σ)
set_option maxHeartbeats 4000000 in
set_option maxRecDepth 100000 in
theorem pX11_findRank_191 {E : gE} {k171 : Int32 → gS → Option (Unit × gS)} {r : Unit} {σ' : gS} (hk171 : ∀ (v1 : Int32) (σ : gS), k171 v1 σ = some (r, σ') → gG E mX11_findRank 171 [(0, .ref 168), (1, .int v1)] [] σ (none) σ') : ∀ (n : Nat) (v1 : Int32) (v2 : Int32) (σ : gS), fX11_findRank_191 k171 n v1 v2 σ = some (r, σ') → gG E mX11_findRank 191 [(0, .ref 168), (1, .int v1), (2, .int v2)] [] σ (none) σ' := by
  intro n
  induction n with
  | zero => intro v1 v2 σ h; exact absurd (show none = some (r, σ') from h) (by intro q; cases q)
  | succ n ih =>
  intro v1 v2 σ h
  unfold fX11_findRank_191 at h
  refine g_iload_n dX11_findRank_191 rfl 2 rfl ?_
  refine g_aload_n dX11_findRank_192 rfl 0 rfl ?_
  refine g_getI dX11_findRank_193 gi_168 rfl fl_RX11_380 ?_
  refine g_icmp_ge (t := 221) dX11_findRank_196 (by decide) (fun c1 => ?_) (fun c1 => ?_)
  · replace h := if_t h c1
    exact pX11_findRank_221 hk171 h
  · replace h := if_f h c1
    refine g_aload_n dX11_findRank_199 rfl 0 rfl ?_
    refine g_getC (n := 208) dX11_findRank_200 gi_168 rfl fl_RX11_140 ?_
    refine g_bipush (v := 48) dX11_findRank_203 (by decide) ?_
    refine g_iload_n dX11_findRank_205 rfl 2 rfl ?_
    refine g_imul dX11_findRank_206 ?_
    refine g_iload_n dX11_findRank_207 rfl 1 rfl ?_
    refine g_iadd dX11_findRank_208 ?_
    obtain ⟨x2, ex2, h⟩ := bnd_nm h
    refine g_topi ex2 ?_
    obtain ⟨g3, h⟩ := gg_some h
    refine g_lald dX11_findRank_209 gi_208 g3 ?_
    refine g_lconst (v := 0) dX11_findRank_210 (by decide) ?_
    refine g_lcmp dX11_findRank_211 ?_
    refine g_if_ne (t := 221) dX11_findRank_212 (by decide) (fun c4 => ?_) (fun c4 => ?_)
    · replace h := if_f h c4
      exact pX11_findRank_221 hk171 h
    · replace h := if_t h c4
      obtain ⟨x5, ex5, h⟩ := bnd_nm h
      refine g_iinc (j := 2) (v := x5) (lv' := [(2, .int x5), (0, .ref 168), (1, .int v1)]) dX11_findRank_215 rfl (by rw [ex5]; rfl) (Nat.le_of_ble_eq_true rfl) rfl ?_
      refine g_goto (t := 191) dX11_findRank_218 (by decide) ?_
      refine g_sub [1, 2, 0] rfl ?_
      exact ih v1 x5 σ h
def fX11_findRank_171 : Nat → Int32 → gS → Option (Unit × gS)
  | 0, _, _ => none
  | n + 1, v1, σ => if (σ.1 168 63) ≤ v1 then
    some ((), σ)
  else
    gg (¬ (v1 < 0 ∨ 48 ≤ v1.toNatClampNeg)) (
    bnd (gsI σ 209 v1.toNatClampNeg (-1)) fun σ3 =>
    fX11_findRank_191 (fun v1 σ => fX11_findRank_171 n v1 σ) 2000 v1 (σ3.1 168 67) σ3)
set_option maxHeartbeats 4000000 in
set_option maxRecDepth 100000 in
theorem pX11_findRank_171 {E : gE} {r : Unit} {σ' : gS} : ∀ (n : Nat) (v1 : Int32) (σ : gS), fX11_findRank_171 n v1 σ = some (r, σ') → gG E mX11_findRank 171 [(0, .ref 168), (1, .int v1)] [] σ (none) σ' := by
  intro n
  induction n with
  | zero => intro v1 σ h; exact absurd (show none = some (r, σ') from h) (by intro q; cases q)
  | succ n ih =>
  intro v1 σ h
  unfold fX11_findRank_171 at h
  refine g_iload_n dX11_findRank_171 rfl 1 rfl ?_
  refine g_aload_n dX11_findRank_172 rfl 0 rfl ?_
  refine g_getI dX11_findRank_173 gi_168 rfl fl_RX11_431 ?_
  refine g_icmp_ge (t := 241) dX11_findRank_176 (by decide) (fun c1 => ?_) (fun c1 => ?_)
  · replace h := if_t h c1
    obtain ⟨rfl, rfl⟩ := so_inj h
    exact g_vret dX11_findRank_241 rfl
  · replace h := if_f h c1
    refine g_aload_n dX11_findRank_179 rfl 0 rfl ?_
    refine g_getC (n := 209) dX11_findRank_180 gi_168 rfl fl_RX11_143 ?_
    refine g_iload_n dX11_findRank_183 rfl 1 rfl ?_
    refine g_iconst (v := (-1)) dX11_findRank_184 (by decide) ?_
    obtain ⟨g2, h⟩ := gg_some h
    obtain ⟨σ3, eσ3, h⟩ := bnd_nm h
    refine g_iast dX11_findRank_185 gi_209 g2 (g_st eσ3 ?_)
    refine g_aload_n dX11_findRank_186 rfl 0 rfl ?_
    refine g_getI dX11_findRank_187 gi_168 rfl fl_RX11_438 ?_
    refine g_istore_n (lv' := [(2, .int (σ3.1 168 67)), (0, .ref 168), (1, .int v1)]) dX11_findRank_190 rfl (Nat.le_of_ble_eq_true rfl) rfl ?_
    refine g_sub [1, 2, 0] rfl ?_
    exact pX11_findRank_191 (fun v1 σ h => ih v1 σ h) 2000 v1 (σ3.1 168 67) σ3 h
def fX11_findRank_82 : Nat → Int32 → gS → Option (Unit × gS)
  | 0, _, _ => none
  | n + 1, v1, σ => if (σ.1 168 9) ≤ v1 then
    bnd (gsI σ 168 67 0) fun σ2 =>
    fX11_findRank_171 2000 0 σ2
  else
    gg (¬ (v1 < 0 ∨ 60 ≤ v1.toNatClampNeg)) (
    gg (¬ (v1 < 0 ∨ 60 ≤ v1.toNatClampNeg)) (
    gg (¬ (σ.1 176 v1.toNatClampNeg < 0 ∨ 24 ≤ (σ.1 176 v1.toNatClampNeg).toNatClampNeg)) (
    gg (¬ (σ.1 177 v1.toNatClampNeg < 0 ∨ 24 ≤ (σ.1 177 v1.toNatClampNeg).toNatClampNeg)) (
    bnd (((σ.1 170 ((σ.1 176 v1.toNatClampNeg).toNatClampNeg)) - (σ.1 170 ((σ.1 177 v1.toNatClampNeg).toNatClampNeg))).toInt64) fun x7 =>
    gg (¬ (σ.1 176 v1.toNatClampNeg < 0 ∨ 24 ≤ (σ.1 176 v1.toNatClampNeg).toNatClampNeg)) (
    gg (¬ (σ.1 177 v1.toNatClampNeg < 0 ∨ 24 ≤ (σ.1 177 v1.toNatClampNeg).toNatClampNeg)) (
    bnd (((σ.1 171 ((σ.1 176 v1.toNatClampNeg).toNatClampNeg)) - (σ.1 171 ((σ.1 177 v1.toNatClampNeg).toNatClampNeg))).toInt64) fun x10 =>
    bd (fX11_enter v1 (σ.1 176 v1.toNatClampNeg) x7 x10 σ) fun _ σ11 =>
    bd (fX11_enter v1 (σ.1 177 v1.toNatClampNeg) (-x7) (-x10) σ11) fun _ σ13 =>
    bnd (v1 + 1) fun x15 =>
    fX11_findRank_82 n x15 σ13))))))
set_option maxHeartbeats 4000000 in
set_option maxRecDepth 100000 in
theorem pX11_findRank_82 {E : gE} {r : Unit} {σ' : gS} : ∀ (n : Nat) (v1 : Int32) (σ : gS), fX11_findRank_82 n v1 σ = some (r, σ') → gG E mX11_findRank 82 [(0, .ref 168), (1, .int v1)] [] σ (none) σ' := by
  intro n
  induction n with
  | zero => intro v1 σ h; exact absurd (show none = some (r, σ') from h) (by intro q; cases q)
  | succ n ih =>
  intro v1 σ h
  unfold fX11_findRank_82 at h
  refine g_iload_n dX11_findRank_82 rfl 1 rfl ?_
  refine g_aload_n dX11_findRank_83 rfl 0 rfl ?_
  refine g_getI dX11_findRank_84 gi_168 rfl fl_RX11_380 ?_
  refine g_icmp_ge (t := 164) dX11_findRank_87 (by decide) (fun c1 => ?_) (fun c1 => ?_)
  · replace h := if_t h c1
    refine g_aload_n dX11_findRank_164 rfl 0 rfl ?_
    refine g_iconst (v := 0) dX11_findRank_165 (by decide) ?_
    obtain ⟨σ2, eσ2, h⟩ := bnd_nm h
    refine g_putI dX11_findRank_166 gi_168 rfl fp_RX11_438 (g_st eσ2 ?_)
    refine g_iconst (v := 0) dX11_findRank_169 (by decide) ?_
    refine g_istore_n (lv' := [(1, .int 0), (0, .ref 168)]) dX11_findRank_170 rfl (Nat.le_of_ble_eq_true rfl) rfl ?_
    refine g_sub [1, 0] rfl ?_
    exact pX11_findRank_171 2000 0 σ2 h
  · replace h := if_f h c1
    refine g_aload_n dX11_findRank_90 rfl 0 rfl ?_
    refine g_getC (n := 176) dX11_findRank_91 gi_168 rfl fl_RX11_33 ?_
    refine g_iload_n dX11_findRank_94 rfl 1 rfl ?_
    obtain ⟨g3, h⟩ := gg_some h
    refine g_iald dX11_findRank_95 gi_176 g3 ?_
    refine g_istore_n (lv' := [(2, .int (σ.1 176 v1.toNatClampNeg)), (0, .ref 168), (1, .int v1)]) dX11_findRank_96 rfl (Nat.le_of_ble_eq_true rfl) rfl ?_
    refine g_aload_n dX11_findRank_97 rfl 1 rfl ?_
    refine g_getC (n := 177) dX11_findRank_98 gi_168 rfl fl_RX11_36 ?_
    refine g_iload_n dX11_findRank_101 rfl 2 rfl ?_
    obtain ⟨g4, h⟩ := gg_some h
    refine g_iald dX11_findRank_102 gi_177 g4 ?_
    refine g_istore_n (lv' := [(3, .int (σ.1 177 v1.toNatClampNeg)), (2, .int (σ.1 176 v1.toNatClampNeg)), (0, .ref 168), (1, .int v1)]) dX11_findRank_103 rfl (Nat.le_of_ble_eq_true rfl) rfl ?_
    refine g_aload_n dX11_findRank_104 rfl 2 rfl ?_
    refine g_getC (n := 170) dX11_findRank_105 gi_168 rfl fl_RX11_13 ?_
    refine g_iload_n dX11_findRank_108 rfl 1 rfl ?_
    obtain ⟨g5, h⟩ := gg_some h
    refine g_iald dX11_findRank_109 gi_170 g5 ?_
    refine g_aload_n dX11_findRank_110 rfl 2 rfl ?_
    refine g_getC (n := 170) dX11_findRank_111 gi_168 rfl fl_RX11_13 ?_
    refine g_iload_n dX11_findRank_114 rfl 0 rfl ?_
    obtain ⟨g6, h⟩ := gg_some h
    refine g_iald dX11_findRank_115 gi_170 g6 ?_
    refine g_isub dX11_findRank_116 ?_
    refine g_i2l dX11_findRank_117 ?_
    obtain ⟨x7, ex7, h⟩ := bnd_nm h
    refine g_topl ex7 ?_
    refine g_lstore (lv' := [(4, .long x7), (3, .int (σ.1 177 v1.toNatClampNeg)), (2, .int (σ.1 176 v1.toNatClampNeg)), (0, .ref 168), (1, .int v1)]) dX11_findRank_118 (Nat.le_of_ble_eq_true rfl) rfl ?_
    refine g_aload_n dX11_findRank_120 rfl 3 rfl ?_
    refine g_getC (n := 171) dX11_findRank_121 gi_168 rfl fl_RX11_17 ?_
    refine g_iload_n dX11_findRank_124 rfl 2 rfl ?_
    obtain ⟨g8, h⟩ := gg_some h
    refine g_iald dX11_findRank_125 gi_171 g8 ?_
    refine g_aload_n dX11_findRank_126 rfl 3 rfl ?_
    refine g_getC (n := 171) dX11_findRank_127 gi_168 rfl fl_RX11_17 ?_
    refine g_iload_n dX11_findRank_130 rfl 1 rfl ?_
    obtain ⟨g9, h⟩ := gg_some h
    refine g_iald dX11_findRank_131 gi_171 g9 ?_
    refine g_isub dX11_findRank_132 ?_
    refine g_i2l dX11_findRank_133 ?_
    obtain ⟨x10, ex10, h⟩ := bnd_nm h
    refine g_topl ex10 ?_
    refine g_lstore (lv' := [(6, .long x10), (4, .long x7), (3, .int (σ.1 177 v1.toNatClampNeg)), (2, .int (σ.1 176 v1.toNatClampNeg)), (0, .ref 168), (1, .int v1)]) dX11_findRank_134 (Nat.le_of_ble_eq_true rfl) rfl ?_
    refine g_aload_n dX11_findRank_136 rfl 4 rfl ?_
    refine g_iload_n dX11_findRank_137 rfl 5 rfl ?_
    refine g_iload_n dX11_findRank_138 rfl 3 rfl ?_
    refine g_lload dX11_findRank_139 1 rfl ?_
    refine g_lload dX11_findRank_141 0 rfl ?_
    obtain ⟨_, σ11, y12, h⟩ := bd_some h
    refine g_callVv (as := [.int v1, .int (σ.1 176 v1.toNatClampNeg), .long x7, .long x10]) (st := []) (zX11_enter y12) dX11_findRank_143 gi_168 rfl okX11_findRank_434 (Nat.le_of_ble_eq_true rfl) ?_
    refine g_aload_n dX11_findRank_146 rfl 4 rfl ?_
    refine g_iload_n dX11_findRank_147 rfl 5 rfl ?_
    refine g_iload_n dX11_findRank_148 rfl 2 rfl ?_
    refine g_lload dX11_findRank_149 1 rfl ?_
    refine g_lneg dX11_findRank_151 ?_
    refine g_lload dX11_findRank_152 0 rfl ?_
    refine g_lneg dX11_findRank_154 ?_
    obtain ⟨_, σ13, y14, h⟩ := bd_some h
    refine g_callVv (as := [.int v1, .int (σ.1 177 v1.toNatClampNeg), .long (-x7), .long (-x10)]) (st := []) (zX11_enter y14) dX11_findRank_155 gi_168 rfl okX11_findRank_434 (Nat.le_of_ble_eq_true rfl) ?_
    obtain ⟨x15, ex15, h⟩ := bnd_nm h
    refine g_iinc (j := 5) (v := x15) (lv' := [(1, .int x15), (6, .long x10), (4, .long x7), (3, .int (σ.1 177 v1.toNatClampNeg)), (2, .int (σ.1 176 v1.toNatClampNeg)), (0, .ref 168)]) dX11_findRank_158 rfl (by rw [ex15]; rfl) (Nat.le_of_ble_eq_true rfl) rfl ?_
    refine g_goto (t := 82) dX11_findRank_161 (by decide) ?_
    refine g_sub [5, 0] rfl ?_
    exact ih x15 σ13 h
def fX11_findRank_56 : Nat → Int32 → gS → Option (Unit × gS)
  | 0, _, _ => none
  | n + 1, v1, σ => if (48 * (σ.1 168 9)) ≤ v1 then
    fX11_findRank_82 2000 0 σ
  else
    gg (¬ (v1 < 0 ∨ 2880 ≤ v1.toNatClampNeg)) (
    bnd (gsJ σ 208 v1.toNatClampNeg 0) fun σ3 =>
    bnd (v1 + 1) fun x4 =>
    fX11_findRank_56 n x4 σ3)
set_option maxHeartbeats 4000000 in
set_option maxRecDepth 100000 in
theorem pX11_findRank_56 {E : gE} {r : Unit} {σ' : gS} : ∀ (n : Nat) (v1 : Int32) (σ : gS), fX11_findRank_56 n v1 σ = some (r, σ') → gG E mX11_findRank 56 [(0, .ref 168), (1, .int v1)] [] σ (none) σ' := by
  intro n
  induction n with
  | zero => intro v1 σ h; exact absurd (show none = some (r, σ') from h) (by intro q; cases q)
  | succ n ih =>
  intro v1 σ h
  unfold fX11_findRank_56 at h
  refine g_iload_n dX11_findRank_56 rfl 1 rfl ?_
  refine g_bipush (v := 48) dX11_findRank_57 (by decide) ?_
  refine g_aload_n dX11_findRank_59 rfl 0 rfl ?_
  refine g_getI dX11_findRank_60 gi_168 rfl fl_RX11_380 ?_
  refine g_imul dX11_findRank_63 ?_
  refine g_icmp_ge (t := 80) dX11_findRank_64 (by decide) (fun c1 => ?_) (fun c1 => ?_)
  · replace h := if_t h c1
    refine g_iconst (v := 0) dX11_findRank_80 (by decide) ?_
    refine g_istore_n (lv' := [(1, .int 0), (0, .ref 168)]) dX11_findRank_81 rfl (Nat.le_of_ble_eq_true rfl) rfl ?_
    refine g_sub [1, 0] rfl ?_
    exact pX11_findRank_82 2000 0 σ h
  · replace h := if_f h c1
    refine g_aload_n dX11_findRank_67 rfl 0 rfl ?_
    refine g_getC (n := 208) dX11_findRank_68 gi_168 rfl fl_RX11_140 ?_
    refine g_iload_n dX11_findRank_71 rfl 1 rfl ?_
    refine g_lconst (v := 0) dX11_findRank_72 (by decide) ?_
    obtain ⟨g2, h⟩ := gg_some h
    obtain ⟨σ3, eσ3, h⟩ := bnd_nm h
    refine g_last dX11_findRank_73 gi_208 g2 (g_st eσ3 ?_)
    obtain ⟨x4, ex4, h⟩ := bnd_nm h
    refine g_iinc (j := 1) (v := x4) (lv' := [(1, .int x4), (0, .ref 168)]) dX11_findRank_74 rfl (by rw [ex4]; rfl) (Nat.le_of_ble_eq_true rfl) rfl ?_
    refine g_goto (t := 56) dX11_findRank_77 (by decide) ?_
    refine g_sub [1, 0] rfl ?_
    exact ih x4 σ3 h
def fX11_findRank_7 : Nat → Int32 → gS → Option (Unit × gS)
  | 0, _, _ => none
  | n + 1, v1, σ => if (σ.1 168 0) ≤ v1 then
    fX11_findRank_56 2000 0 σ
  else
    gg (¬ (v1 < 0 ∨ 24 ≤ v1.toNatClampNeg)) (
    bnd (gsI σ 206 v1.toNatClampNeg (σ.1 168 63)) fun σ3 =>
    gg (¬ (v1 < 0 ∨ 24 ≤ v1.toNatClampNeg)) (
    if (σ3.1 172 v1.toNatClampNeg) = 0 then
      fX11_findRank_44 (fun v1 σ => fX11_findRank_7 n v1 σ) v1 (σ3.1 168 63) 2 σ3
    else
      fX11_findRank_44 (fun v1 σ => fX11_findRank_7 n v1 σ) v1 (σ3.1 168 63) 0 σ3))
set_option maxHeartbeats 4000000 in
set_option maxRecDepth 100000 in
theorem pX11_findRank_7 {E : gE} {r : Unit} {σ' : gS} : ∀ (n : Nat) (v1 : Int32) (σ : gS), fX11_findRank_7 n v1 σ = some (r, σ') → gG E mX11_findRank 7 [(0, .ref 168), (1, .int v1)] [] σ (none) σ' := by
  intro n
  induction n with
  | zero => intro v1 σ h; exact absurd (show none = some (r, σ') from h) (by intro q; cases q)
  | succ n ih =>
  intro v1 σ h
  unfold fX11_findRank_7 at h
  refine g_iload_n dX11_findRank_7 rfl 1 rfl ?_
  refine g_aload_n dX11_findRank_8 rfl 0 rfl ?_
  refine g_getI dX11_findRank_9 gi_168 rfl fl_RX11_374 ?_
  refine g_icmp_ge (t := 54) dX11_findRank_12 (by decide) (fun c1 => ?_) (fun c1 => ?_)
  · replace h := if_t h c1
    refine g_iconst (v := 0) dX11_findRank_54 (by decide) ?_
    refine g_istore_n (lv' := [(1, .int 0), (0, .ref 168)]) dX11_findRank_55 rfl (Nat.le_of_ble_eq_true rfl) rfl ?_
    refine g_sub [1, 0] rfl ?_
    exact pX11_findRank_56 2000 0 σ h
  · replace h := if_f h c1
    refine g_aload_n dX11_findRank_15 rfl 0 rfl ?_
    refine g_getC (n := 206) dX11_findRank_16 gi_168 rfl fl_RX11_134 ?_
    refine g_iload_n dX11_findRank_19 rfl 1 rfl ?_
    refine g_aload_n dX11_findRank_20 rfl 0 rfl ?_
    refine g_getI dX11_findRank_21 gi_168 rfl fl_RX11_431 ?_
    obtain ⟨g2, h⟩ := gg_some h
    obtain ⟨σ3, eσ3, h⟩ := bnd_nm h
    refine g_iast dX11_findRank_24 gi_206 g2 (g_st eσ3 ?_)
    refine g_aload_n dX11_findRank_25 rfl 0 rfl ?_
    refine g_dup dX11_findRank_26 rfl ?_
    refine g_getI dX11_findRank_27 gi_168 rfl fl_RX11_431 ?_
    refine g_aload_n dX11_findRank_30 rfl 0 rfl ?_
    refine g_getC (n := 172) dX11_findRank_31 gi_168 rfl fl_RX11_20 ?_
    refine g_iload_n dX11_findRank_34 rfl 1 rfl ?_
    obtain ⟨g4, h⟩ := gg_some h
    refine g_zald dX11_findRank_35 gi_172 g4 ?_
    refine g_if_eq (t := 43) dX11_findRank_36 (by decide) (fun c5 => ?_) (fun c5 => ?_)
    · replace h := if_t h c5
      refine g_iconst (v := 2) dX11_findRank_43 (by decide) ?_
      exact pX11_findRank_44 (fun v1 σ h => ih v1 σ h) h
    · replace h := if_f h c5
      refine g_iconst (v := 0) dX11_findRank_39 (by decide) ?_
      refine g_goto (t := 44) dX11_findRank_40 (by decide) ?_
      exact pX11_findRank_44 (fun v1 σ h => ih v1 σ h) h
def fX11_findRank (σ : gS) : Option (Unit × gS) :=
  bnd (gsI σ 168 63 0) fun σ1 =>
  fX11_findRank_7 2000 0 σ1
set_option maxHeartbeats 4000000 in
set_option maxRecDepth 100000 in
theorem pX11_findRank {E : gE} {r : Unit} {σ' : gS} {σ : gS} (h : fX11_findRank σ = some (r, σ')) : gG E mX11_findRank 0 [(0, .ref 168)] [] σ (none) σ' := by
  unfold fX11_findRank at h
  refine g_aload_n dX11_findRank_0 rfl 0 rfl ?_
  refine g_iconst (v := 0) dX11_findRank_1 (by decide) ?_
  obtain ⟨σ1, eσ1, h⟩ := bnd_nm h
  refine g_putI dX11_findRank_2 gi_168 rfl fp_RX11_431 (g_st eσ1 ?_)
  refine g_iconst (v := 0) dX11_findRank_5 (by decide) ?_
  refine g_istore_n (lv' := [(1, .int 0), (0, .ref 168)]) dX11_findRank_6 rfl (Nat.le_of_ble_eq_true rfl) rfl ?_
  refine g_sub [1, 0] rfl ?_
  exact pX11_findRank_7 2000 0 σ1 h
theorem zX11_findRank {E : gE} {r : Unit} {σ σ' : gS} (h : fX11_findRank σ = some (r, σ')) : gC E mX11_findRank [.ref 168] σ (none) σ' :=
  gC_of (by decide +kernel) rfl (Nat.le_of_ble_eq_true rfl) (pX11_findRank h)
theorem wl_RX11_448 : Cond.constantLong RX11 448 2 ∈ gWS := (gm 1719 (by decide +kernel) rfl)
def mX11_rank : gM := (yX11_rank, cX11_rank, RX11, 2, (some .int), 3, 82)
theorem dX11_rank_0 : decode mX11_rank.2.1 0 = .ok (.iload_n 1, 1) := by decide +kernel
theorem dX11_rank_1 : decode mX11_rank.2.1 1 = .ok (.i2l, 1) := by decide +kernel
theorem dX11_rank_2 : decode mX11_rank.2.1 2 = .ok (.lconst 0, 1) := by decide +kernel
theorem dX11_rank_3 : decode mX11_rank.2.1 3 = .ok (.ldc2_w 448, 3) := by decide +kernel
theorem dX11_rank_6 : decode mX11_rank.2.1 6 = .ok (.invokestatic 220, 3) := by decide +kernel
theorem dX11_rank_9 : decode mX11_rank.2.1 9 = .ok (.ifCond .ne 6, 3) := by decide +kernel
theorem dX11_rank_12 : decode mX11_rank.2.1 12 = .ok (.ldc 224, 2) := by decide +kernel
theorem dX11_rank_14 : decode mX11_rank.2.1 14 = .ok (.ireturn, 1) := by decide +kernel
theorem dX11_rank_15 : decode mX11_rank.2.1 15 = .ok (.aload_n 0, 1) := by decide +kernel
theorem dX11_rank_16 : decode mX11_rank.2.1 16 = .ok (.invokevirtual 450, 3) := by decide +kernel
theorem dX11_rank_19 : decode mX11_rank.2.1 19 = .ok (.iload_n 1, 1) := by decide +kernel
theorem dX11_rank_20 : decode mX11_rank.2.1 20 = .ok (.ifCond .ne 10, 3) := by decide +kernel
theorem dX11_rank_23 : decode mX11_rank.2.1 23 = .ok (.aload_n 0, 1) := by decide +kernel
theorem dX11_rank_24 : decode mX11_rank.2.1 24 = .ok (.getfield 438, 3) := by decide +kernel
theorem dX11_rank_27 : decode mX11_rank.2.1 27 = .ok (.goto 29, 3) := by decide +kernel
theorem dX11_rank_30 : decode mX11_rank.2.1 30 = .ok (.iload_n 1, 1) := by decide +kernel
theorem dX11_rank_31 : decode mX11_rank.2.1 31 = .ok (.iconst 1, 1) := by decide +kernel
theorem dX11_rank_32 : decode mX11_rank.2.1 32 = .ok (.if_icmp .ne 15, 3) := by decide +kernel
theorem dX11_rank_35 : decode mX11_rank.2.1 35 = .ok (.aload_n 0, 1) := by decide +kernel
theorem dX11_rank_36 : decode mX11_rank.2.1 36 = .ok (.getfield 431, 3) := by decide +kernel
theorem dX11_rank_39 : decode mX11_rank.2.1 39 = .ok (.aload_n 0, 1) := by decide +kernel
theorem dX11_rank_40 : decode mX11_rank.2.1 40 = .ok (.getfield 438, 3) := by decide +kernel
theorem dX11_rank_43 : decode mX11_rank.2.1 43 = .ok (.isub, 1) := by decide +kernel
theorem dX11_rank_44 : decode mX11_rank.2.1 44 = .ok (.goto 12, 3) := by decide +kernel
theorem dX11_rank_47 : decode mX11_rank.2.1 47 = .ok (.aload_n 0, 1) := by decide +kernel
theorem dX11_rank_48 : decode mX11_rank.2.1 48 = .ok (.getfield 380, 3) := by decide +kernel
theorem dX11_rank_51 : decode mX11_rank.2.1 51 = .ok (.aload_n 0, 1) := by decide +kernel
theorem dX11_rank_52 : decode mX11_rank.2.1 52 = .ok (.getfield 438, 3) := by decide +kernel
theorem dX11_rank_55 : decode mX11_rank.2.1 55 = .ok (.isub, 1) := by decide +kernel
theorem dX11_rank_56 : decode mX11_rank.2.1 56 = .ok (.ireturn, 1) := by decide +kernel
theorem okX11_rank_220 : gOkS mX11_rank mX11_in 220 3 := ⟨List.forall_mem_cons.mpr ⟨(gm 1539 (by decide +kernel) rfl), List.forall_mem_cons.mpr ⟨(gm 1537 (by decide +kernel) rfl), List.forall_mem_cons.mpr ⟨(gm 1538 (by decide +kernel) rfl), List.forall_mem_cons.mpr ⟨(gm 122 (by decide +kernel) rfl), fun _ h => absurd h List.not_mem_nil⟩⟩⟩⟩, by decide +kernel, by decide +kernel, by decide +kernel⟩
theorem okX11_rank_450 : gOkV mX11_rank mX11_findRank 450 0 := ⟨List.forall_mem_cons.mpr ⟨(gm 1723 (by decide +kernel) rfl), List.forall_mem_cons.mpr ⟨(gm 1720 (by decide +kernel) rfl), List.forall_mem_cons.mpr ⟨(gm 1722 (by decide +kernel) rfl), List.forall_mem_cons.mpr ⟨(gm 90 (by decide +kernel) rfl), List.forall_mem_cons.mpr ⟨(gm 122 (by decide +kernel) rfl), fun _ h => absurd h List.not_mem_nil⟩⟩⟩⟩⟩, by decide +kernel, by decide +kernel, by decide +kernel⟩
def fX11_rank_56 (p1 : Int32) (s0 : Int32) (σ : gS) : Option (Int32 × gS) :=
  some (s0, σ)
set_option maxHeartbeats 4000000 in
set_option maxRecDepth 100000 in
theorem pX11_rank_56 {E : gE} {p1 : Int32} {r : Int32} {σ' : gS} {s0 : Int32} {σ : gS} (h : fX11_rank_56 p1 s0 σ = some (r, σ')) : gG E mX11_rank 56 [] [.int s0] σ (some (.int r)) σ' := by
  unfold fX11_rank_56 at h
  obtain ⟨rfl, rfl⟩ := so_inj h
  exact g_iret dX11_rank_56 rfl
def fX11_rank (p1 : Int32) (σ : gS) : Option (Int32 × gS) :=
  bd (fX11_in p1.toInt64 0 2 σ) fun x1 σ2 =>
  if x1 = 0 then
    some ((-1000001), σ2)
  else
    bd (fX11_findRank σ2) fun _ σ5 =>
    if p1 = 0 then
      fX11_rank_56 p1 (σ5.1 168 67) σ5
    else
      if p1 = 1 then
        fX11_rank_56 p1 ((σ5.1 168 63) - (σ5.1 168 67)) σ5
      else
        fX11_rank_56 p1 ((σ5.1 168 9) - (σ5.1 168 67)) σ5
set_option maxHeartbeats 4000000 in
set_option maxRecDepth 100000 in
theorem pX11_rank {E : gE} {p1 : Int32} {r : Int32} {σ' : gS} {σ : gS} (h : fX11_rank p1 σ = some (r, σ')) : gG E mX11_rank 0 [(0, .ref 168), (1, .int p1)] [] σ (some (.int r)) σ' := by
  unfold fX11_rank at h
  refine g_iload_n dX11_rank_0 rfl 1 rfl ?_
  refine g_i2l dX11_rank_1 ?_
  refine g_lconst (v := 0) dX11_rank_2 (by decide) ?_
  refine g_ldc2 (v := 2) dX11_rank_3 wl_RX11_448 ?_
  obtain ⟨x1, σ2, y3, h⟩ := bd_some h
  refine g_callSr (as := [.long p1.toInt64, .long 0, .long 2]) (st := []) (zX11_in y3) dX11_rank_6 okX11_rank_220 (Nat.le_of_ble_eq_true rfl) ?_
  refine g_if_ne (t := 15) dX11_rank_9 (by decide) (fun c4 => ?_) (fun c4 => ?_)
  · replace h := if_f h c4
    refine g_aload_n dX11_rank_15 rfl 0 rfl ?_
    obtain ⟨_, σ5, y6, h⟩ := bd_some h
    refine g_callVv (as := []) (st := []) (zX11_findRank y6) dX11_rank_16 gi_168 rfl okX11_rank_450 (Nat.le_of_ble_eq_true rfl) ?_
    refine g_iload_n dX11_rank_19 rfl 1 rfl ?_
    refine g_if_ne (t := 30) dX11_rank_20 (by decide) (fun c7 => ?_) (fun c7 => ?_)
    · replace h := if_f h c7
      refine g_iload_n dX11_rank_30 rfl 1 rfl ?_
      refine g_iconst (v := 1) dX11_rank_31 (by decide) ?_
      refine g_icmp_ne (t := 47) dX11_rank_32 (by decide) (fun c8 => ?_) (fun c8 => ?_)
      · replace h := if_f h c8
        refine g_aload_n dX11_rank_47 rfl 0 rfl ?_
        refine g_getI dX11_rank_48 gi_168 rfl fl_RX11_380 ?_
        refine g_aload_n dX11_rank_51 rfl 0 rfl ?_
        refine g_getI dX11_rank_52 gi_168 rfl fl_RX11_438 ?_
        refine g_isub dX11_rank_55 ?_
        refine g_sub [] rfl ?_
        exact pX11_rank_56 h
      · replace h := if_t h c8
        refine g_aload_n dX11_rank_35 rfl 0 rfl ?_
        refine g_getI dX11_rank_36 gi_168 rfl fl_RX11_431 ?_
        refine g_aload_n dX11_rank_39 rfl 0 rfl ?_
        refine g_getI dX11_rank_40 gi_168 rfl fl_RX11_438 ?_
        refine g_isub dX11_rank_43 ?_
        refine g_goto (t := 56) dX11_rank_44 (by decide) ?_
        refine g_sub [] rfl ?_
        exact pX11_rank_56 h
    · replace h := if_t h c7
      refine g_aload_n dX11_rank_23 rfl 0 rfl ?_
      refine g_getI dX11_rank_24 gi_168 rfl fl_RX11_438 ?_
      refine g_goto (t := 56) dX11_rank_27 (by decide) ?_
      refine g_sub [] rfl ?_
      exact pX11_rank_56 h
  · replace h := if_t h c4
    refine g_ldc (v := (-1000001)) dX11_rank_12 wc_RX11_224 ?_
    obtain ⟨rfl, rfl⟩ := so_inj h
    exact g_iret dX11_rank_14 rfl
theorem zX11_rank {E : gE} {p1 : Int32} {r : Int32} {σ σ' : gS} (h : fX11_rank p1 σ = some (r, σ')) : gC E mX11_rank [.ref 168, .int p1] σ (some (.int r)) σ' :=
  gC_of (by decide +kernel) rfl (Nat.le_of_ble_eq_true rfl) (pX11_rank h)
def mX11_motion : gM := (yX11_motion, cX11_motion, RX11, 7, (some .int), 3, 82)
theorem dX11_motion_0 : decode mX11_motion.2.1 0 = .ok (.aload_n 0, 1) := by decide +kernel
theorem dX11_motion_1 : decode mX11_motion.2.1 1 = .ok (.invokevirtual 450, 3) := by decide +kernel
theorem dX11_motion_4 : decode mX11_motion.2.1 4 = .ok (.iload_n 1, 1) := by decide +kernel
theorem dX11_motion_5 : decode mX11_motion.2.1 5 = .ok (.i2l, 1) := by decide +kernel
theorem dX11_motion_6 : decode mX11_motion.2.1 6 = .ok (.lconst 0, 1) := by decide +kernel
theorem dX11_motion_7 : decode mX11_motion.2.1 7 = .ok (.aload_n 0, 1) := by decide +kernel
theorem dX11_motion_8 : decode mX11_motion.2.1 8 = .ok (.getfield 431, 3) := by decide +kernel
theorem dX11_motion_11 : decode mX11_motion.2.1 11 = .ok (.aload_n 0, 1) := by decide +kernel
theorem dX11_motion_12 : decode mX11_motion.2.1 12 = .ok (.getfield 438, 3) := by decide +kernel
theorem dX11_motion_15 : decode mX11_motion.2.1 15 = .ok (.isub, 1) := by decide +kernel
theorem dX11_motion_16 : decode mX11_motion.2.1 16 = .ok (.iconst 1, 1) := by decide +kernel
theorem dX11_motion_17 : decode mX11_motion.2.1 17 = .ok (.isub, 1) := by decide +kernel
theorem dX11_motion_18 : decode mX11_motion.2.1 18 = .ok (.i2l, 1) := by decide +kernel
theorem dX11_motion_19 : decode mX11_motion.2.1 19 = .ok (.invokestatic 220, 3) := by decide +kernel
theorem dX11_motion_22 : decode mX11_motion.2.1 22 = .ok (.ifCond .eq 21, 3) := by decide +kernel
theorem dX11_motion_25 : decode mX11_motion.2.1 25 = .ok (.aload_n 0, 1) := by decide +kernel
theorem dX11_motion_26 : decode mX11_motion.2.1 26 = .ok (.iload_n 2, 1) := by decide +kernel
theorem dX11_motion_27 : decode mX11_motion.2.1 27 = .ok (.invokevirtual 420, 3) := by decide +kernel
theorem dX11_motion_30 : decode mX11_motion.2.1 30 = .ok (.ifCond .eq 13, 3) := by decide +kernel
theorem dX11_motion_33 : decode mX11_motion.2.1 33 = .ok (.iload_n 3, 1) := by decide +kernel
theorem dX11_motion_34 : decode mX11_motion.2.1 34 = .ok (.i2l, 1) := by decide +kernel
theorem dX11_motion_35 : decode mX11_motion.2.1 35 = .ok (.lconst 0, 1) := by decide +kernel
theorem dX11_motion_36 : decode mX11_motion.2.1 36 = .ok (.lconst 1, 1) := by decide +kernel
theorem dX11_motion_37 : decode mX11_motion.2.1 37 = .ok (.invokestatic 220, 3) := by decide +kernel
theorem dX11_motion_40 : decode mX11_motion.2.1 40 = .ok (.ifCond .ne 6, 3) := by decide +kernel
theorem dX11_motion_43 : decode mX11_motion.2.1 43 = .ok (.ldc 224, 2) := by decide +kernel
theorem dX11_motion_45 : decode mX11_motion.2.1 45 = .ok (.ireturn, 1) := by decide +kernel
theorem dX11_motion_46 : decode mX11_motion.2.1 46 = .ok (.aload_n 0, 1) := by decide +kernel
theorem dX11_motion_47 : decode mX11_motion.2.1 47 = .ok (.getfield 20, 3) := by decide +kernel
theorem dX11_motion_50 : decode mX11_motion.2.1 50 = .ok (.iload_n 2, 1) := by decide +kernel
theorem dX11_motion_51 : decode mX11_motion.2.1 51 = .ok (.baload, 1) := by decide +kernel
theorem dX11_motion_52 : decode mX11_motion.2.1 52 = .ok (.ifCond .eq 5, 3) := by decide +kernel
theorem dX11_motion_55 : decode mX11_motion.2.1 55 = .ok (.iconst 0, 1) := by decide +kernel
theorem dX11_motion_56 : decode mX11_motion.2.1 56 = .ok (.ireturn, 1) := by decide +kernel
theorem dX11_motion_57 : decode mX11_motion.2.1 57 = .ok (.iconst (-1), 1) := by decide +kernel
theorem dX11_motion_58 : decode mX11_motion.2.1 58 = .ok (.istore 4, 2) := by decide +kernel
theorem dX11_motion_60 : decode mX11_motion.2.1 60 = .ok (.iconst (-1), 1) := by decide +kernel
theorem dX11_motion_61 : decode mX11_motion.2.1 61 = .ok (.istore 5, 2) := by decide +kernel
theorem dX11_motion_63 : decode mX11_motion.2.1 63 = .ok (.iload 5, 2) := by decide +kernel
theorem dX11_motion_65 : decode mX11_motion.2.1 65 = .ok (.iload_n 1, 1) := by decide +kernel
theorem dX11_motion_66 : decode mX11_motion.2.1 66 = .ok (.if_icmp .ge 29, 3) := by decide +kernel
theorem dX11_motion_69 : decode mX11_motion.2.1 69 = .ok (.iinc 4 1, 3) := by decide +kernel
theorem dX11_motion_72 : decode mX11_motion.2.1 72 = .ok (.iload 5, 2) := by decide +kernel
theorem dX11_motion_74 : decode mX11_motion.2.1 74 = .ok (.aload_n 0, 1) := by decide +kernel
theorem dX11_motion_75 : decode mX11_motion.2.1 75 = .ok (.getfield 143, 3) := by decide +kernel
theorem dX11_motion_78 : decode mX11_motion.2.1 78 = .ok (.iload 4, 2) := by decide +kernel
theorem dX11_motion_80 : decode mX11_motion.2.1 80 = .ok (.iaload, 1) := by decide +kernel
theorem dX11_motion_81 : decode mX11_motion.2.1 81 = .ok (.ifCond .ge 7, 3) := by decide +kernel
theorem dX11_motion_84 : decode mX11_motion.2.1 84 = .ok (.iconst 1, 1) := by decide +kernel
theorem dX11_motion_85 : decode mX11_motion.2.1 85 = .ok (.goto 4, 3) := by decide +kernel
theorem dX11_motion_88 : decode mX11_motion.2.1 88 = .ok (.iconst 0, 1) := by decide +kernel
theorem dX11_motion_89 : decode mX11_motion.2.1 89 = .ok (.iadd, 1) := by decide +kernel
theorem dX11_motion_90 : decode mX11_motion.2.1 90 = .ok (.istore 5, 2) := by decide +kernel
theorem dX11_motion_92 : decode mX11_motion.2.1 92 = .ok (.goto (-29), 3) := by decide +kernel
theorem dX11_motion_95 : decode mX11_motion.2.1 95 = .ok (.aload_n 0, 1) := by decide +kernel
theorem dX11_motion_96 : decode mX11_motion.2.1 96 = .ok (.getfield 134, 3) := by decide +kernel
theorem dX11_motion_99 : decode mX11_motion.2.1 99 = .ok (.iload_n 2, 1) := by decide +kernel
theorem dX11_motion_100 : decode mX11_motion.2.1 100 = .ok (.iaload, 1) := by decide +kernel
theorem dX11_motion_101 : decode mX11_motion.2.1 101 = .ok (.iload_n 3, 1) := by decide +kernel
theorem dX11_motion_102 : decode mX11_motion.2.1 102 = .ok (.iadd, 1) := by decide +kernel
theorem dX11_motion_103 : decode mX11_motion.2.1 103 = .ok (.istore 6, 2) := by decide +kernel
theorem dX11_motion_105 : decode mX11_motion.2.1 105 = .ok (.aload_n 0, 1) := by decide +kernel
theorem dX11_motion_106 : decode mX11_motion.2.1 106 = .ok (.getfield 143, 3) := by decide +kernel
theorem dX11_motion_109 : decode mX11_motion.2.1 109 = .ok (.iload 6, 2) := by decide +kernel
theorem dX11_motion_111 : decode mX11_motion.2.1 111 = .ok (.iaload, 1) := by decide +kernel
theorem dX11_motion_112 : decode mX11_motion.2.1 112 = .ok (.ifCond .ge 16, 3) := by decide +kernel
theorem dX11_motion_115 : decode mX11_motion.2.1 115 = .ok (.iload 6, 2) := by decide +kernel
theorem dX11_motion_117 : decode mX11_motion.2.1 117 = .ok (.iload 4, 2) := by decide +kernel
theorem dX11_motion_119 : decode mX11_motion.2.1 119 = .ok (.if_icmp .ne 7, 3) := by decide +kernel
theorem dX11_motion_122 : decode mX11_motion.2.1 122 = .ok (.iconst 1, 1) := by decide +kernel
theorem dX11_motion_123 : decode mX11_motion.2.1 123 = .ok (.goto 4, 3) := by decide +kernel
theorem dX11_motion_126 : decode mX11_motion.2.1 126 = .ok (.iconst 0, 1) := by decide +kernel
theorem dX11_motion_127 : decode mX11_motion.2.1 127 = .ok (.ireturn, 1) := by decide +kernel
theorem dX11_motion_128 : decode mX11_motion.2.1 128 = .ok (.ldc2_w 429, 3) := by decide +kernel
theorem dX11_motion_131 : decode mX11_motion.2.1 131 = .ok (.aload_n 0, 1) := by decide +kernel
theorem dX11_motion_132 : decode mX11_motion.2.1 132 = .ok (.getfield 140, 3) := by decide +kernel
theorem dX11_motion_135 : decode mX11_motion.2.1 135 = .ok (.bipush 48, 2) := by decide +kernel
theorem dX11_motion_137 : decode mX11_motion.2.1 137 = .ok (.aload_n 0, 1) := by decide +kernel
theorem dX11_motion_138 : decode mX11_motion.2.1 138 = .ok (.getfield 143, 3) := by decide +kernel
theorem dX11_motion_141 : decode mX11_motion.2.1 141 = .ok (.iload 6, 2) := by decide +kernel
theorem dX11_motion_143 : decode mX11_motion.2.1 143 = .ok (.iaload, 1) := by decide +kernel
theorem dX11_motion_144 : decode mX11_motion.2.1 144 = .ok (.imul, 1) := by decide +kernel
theorem dX11_motion_145 : decode mX11_motion.2.1 145 = .ok (.iload 4, 2) := by decide +kernel
theorem dX11_motion_147 : decode mX11_motion.2.1 147 = .ok (.iadd, 1) := by decide +kernel
theorem dX11_motion_148 : decode mX11_motion.2.1 148 = .ok (.laload, 1) := by decide +kernel
theorem dX11_motion_149 : decode mX11_motion.2.1 149 = .ok (.lsub, 1) := by decide +kernel
theorem dX11_motion_150 : decode mX11_motion.2.1 150 = .ok (.ldc2_w 429, 3) := by decide +kernel
theorem dX11_motion_153 : decode mX11_motion.2.1 153 = .ok (.lrem, 1) := by decide +kernel
theorem dX11_motion_154 : decode mX11_motion.2.1 154 = .ok (.l2i, 1) := by decide +kernel
theorem dX11_motion_155 : decode mX11_motion.2.1 155 = .ok (.ireturn, 1) := by decide +kernel
theorem okX11_motion_450 : gOkV mX11_motion mX11_findRank 450 0 := ⟨List.forall_mem_cons.mpr ⟨(gm 1723 (by decide +kernel) rfl), List.forall_mem_cons.mpr ⟨(gm 1720 (by decide +kernel) rfl), List.forall_mem_cons.mpr ⟨(gm 1722 (by decide +kernel) rfl), List.forall_mem_cons.mpr ⟨(gm 90 (by decide +kernel) rfl), List.forall_mem_cons.mpr ⟨(gm 122 (by decide +kernel) rfl), fun _ h => absurd h List.not_mem_nil⟩⟩⟩⟩⟩, by decide +kernel, by decide +kernel, by decide +kernel⟩
theorem okX11_motion_220 : gOkS mX11_motion mX11_in 220 3 := ⟨List.forall_mem_cons.mpr ⟨(gm 1539 (by decide +kernel) rfl), List.forall_mem_cons.mpr ⟨(gm 1537 (by decide +kernel) rfl), List.forall_mem_cons.mpr ⟨(gm 1538 (by decide +kernel) rfl), List.forall_mem_cons.mpr ⟨(gm 122 (by decide +kernel) rfl), fun _ h => absurd h List.not_mem_nil⟩⟩⟩⟩, by decide +kernel, by decide +kernel, by decide +kernel⟩
theorem okX11_motion_420 : gOkV mX11_motion mX11_isJoint 420 1 := ⟨List.forall_mem_cons.mpr ⟨(gm 1702 (by decide +kernel) rfl), List.forall_mem_cons.mpr ⟨(gm 1699 (by decide +kernel) rfl), List.forall_mem_cons.mpr ⟨(gm 1701 (by decide +kernel) rfl), List.forall_mem_cons.mpr ⟨(gm 88 (by decide +kernel) rfl), List.forall_mem_cons.mpr ⟨(gm 122 (by decide +kernel) rfl), fun _ h => absurd h List.not_mem_nil⟩⟩⟩⟩⟩, by decide +kernel, by decide +kernel, by decide +kernel⟩
def fX11_motion_43 (p1 : Int32) (p2 : Int32) (p3 : Int32) (σ : gS) : Option (Int32 × gS) :=
  some ((-1000001), σ)
set_option maxHeartbeats 4000000 in
set_option maxRecDepth 100000 in
theorem pX11_motion_43 {E : gE} {p1 : Int32} {p2 : Int32} {p3 : Int32} {r : Int32} {σ' : gS} {σ : gS} (h : fX11_motion_43 p1 p2 p3 σ = some (r, σ')) : gG E mX11_motion 43 [] [] σ (some (.int r)) σ' := by
  unfold fX11_motion_43 at h
  refine g_ldc (v := (-1000001)) dX11_motion_43 wc_RX11_224 ?_
  obtain ⟨rfl, rfl⟩ := so_inj h
  exact g_iret dX11_motion_45 rfl
def fX11_motion_89 (p1 : Int32) (p2 : Int32) (p3 : Int32) (k63 : Int32 → Int32 → gS → Option (Int32 × gS)) (v4 : Int32) (s0 : Int32) (s1 : Int32) (σ : gS) : Option (Int32 × gS) :=
  bnd (s0 + s1) fun x1 =>
  k63 v4 x1 σ
set_option maxHeartbeats 4000000 in
set_option maxRecDepth 100000 in
theorem pX11_motion_89 {E : gE} {p1 : Int32} {p2 : Int32} {p3 : Int32} {k63 : Int32 → Int32 → gS → Option (Int32 × gS)} {r : Int32} {σ' : gS} {v4 : Int32} {s0 : Int32} {s1 : Int32} {σ : gS} (hk63 : ∀ (v4 : Int32) (v5 : Int32) (σ : gS), k63 v4 v5 σ = some (r, σ') → gG E mX11_motion 63 [(0, .ref 168), (1, .int p1), (2, .int p2), (3, .int p3), (4, .int v4), (5, .int v5)] [] σ (some (.int r)) σ') (h : fX11_motion_89 p1 p2 p3 k63 v4 s0 s1 σ = some (r, σ')) : gG E mX11_motion 89 [(0, .ref 168), (1, .int p1), (2, .int p2), (3, .int p3), (4, .int v4)] [.int s1, .int s0] σ (some (.int r)) σ' := by
  unfold fX11_motion_89 at h
  refine g_iadd dX11_motion_89 ?_
  obtain ⟨x1, ex1, h⟩ := bnd_nm h
  refine g_topi ex1 ?_
  refine g_istore (lv' := [(5, .int x1), (0, .ref 168), (1, .int p1), (2, .int p2), (3, .int p3), (4, .int v4)]) dX11_motion_90 (Nat.le_of_ble_eq_true rfl) rfl ?_
  refine g_goto (t := 63) dX11_motion_92 (by decide) ?_
  refine g_sub [1, 2, 3, 4, 5, 0] rfl ?_
  exact hk63 v4 x1 σ h
def fX11_motion_127 (p1 : Int32) (p2 : Int32) (p3 : Int32) (s0 : Int32) (σ : gS) : Option (Int32 × gS) :=
  some (s0, σ)
set_option maxHeartbeats 4000000 in
set_option maxRecDepth 100000 in
theorem pX11_motion_127 {E : gE} {p1 : Int32} {p2 : Int32} {p3 : Int32} {r : Int32} {σ' : gS} {s0 : Int32} {σ : gS} (h : fX11_motion_127 p1 p2 p3 s0 σ = some (r, σ')) : gG E mX11_motion 127 [] [.int s0] σ (some (.int r)) σ' := by
  unfold fX11_motion_127 at h
  obtain ⟨rfl, rfl⟩ := so_inj h
  exact g_iret dX11_motion_127 rfl
def fX11_motion_63 (p1 : Int32) (p2 : Int32) (p3 : Int32) : Nat → Int32 → Int32 → gS → Option (Int32 × gS)
  | 0, _, _, _ => none
  | n + 1, v4, v5, σ => if p1 ≤ v5 then
    gg (¬ (p2 < 0 ∨ 24 ≤ p2.toNatClampNeg)) (
    bnd ((σ.1 206 p2.toNatClampNeg) + p3) fun x3 =>
    gg (¬ (x3 < 0 ∨ 48 ≤ x3.toNatClampNeg)) (
    if 0 ≤ (σ.1 209 x3.toNatClampNeg) then
      gg (¬ (x3 < 0 ∨ 48 ≤ x3.toNatClampNeg)) (
      bnd ((48 * (σ.1 209 x3.toNatClampNeg)) + v4) fun x7 =>
      gg (¬ (x7 < 0 ∨ 2880 ≤ x7.toNatClampNeg)) (
      some (((1000003 - (σ.2.1 208 x7.toNatClampNeg)) - (1000003 - (σ.2.1 208 x7.toNatClampNeg)) / 1000003 * 1000003).toInt32, σ)))
    else
      if x3 = v4 then
        fX11_motion_127 p1 p2 p3 1 σ
      else
        fX11_motion_127 p1 p2 p3 0 σ))
  else
    bnd (v4 + 1) fun x10 =>
    gg (¬ (x10 < 0 ∨ 48 ≤ x10.toNatClampNeg)) (
    if 0 ≤ (σ.1 209 x10.toNatClampNeg) then
      fX11_motion_89 p1 p2 p3 (fun v4 v5 σ => fX11_motion_63 p1 p2 p3 n v4 v5 σ) x10 v5 0 σ
    else
      fX11_motion_89 p1 p2 p3 (fun v4 v5 σ => fX11_motion_63 p1 p2 p3 n v4 v5 σ) x10 v5 1 σ)
set_option maxHeartbeats 4000000 in
set_option maxRecDepth 100000 in
theorem pX11_motion_63 {E : gE} {p1 : Int32} {p2 : Int32} {p3 : Int32} {r : Int32} {σ' : gS} : ∀ (n : Nat) (v4 : Int32) (v5 : Int32) (σ : gS), fX11_motion_63 p1 p2 p3 n v4 v5 σ = some (r, σ') → gG E mX11_motion 63 [(0, .ref 168), (1, .int p1), (2, .int p2), (3, .int p3), (4, .int v4), (5, .int v5)] [] σ (some (.int r)) σ' := by
  intro n
  induction n with
  | zero => intro v4 v5 σ h; exact absurd (show none = some (r, σ') from h) (by intro q; cases q)
  | succ n ih =>
  intro v4 v5 σ h
  unfold fX11_motion_63 at h
  refine g_iload dX11_motion_63 5 rfl ?_
  refine g_iload_n dX11_motion_65 rfl 1 rfl ?_
  refine g_icmp_ge (t := 95) dX11_motion_66 (by decide) (fun c1 => ?_) (fun c1 => ?_)
  · replace h := if_t h c1
    refine g_aload_n dX11_motion_95 rfl 0 rfl ?_
    refine g_getC (n := 206) dX11_motion_96 gi_168 rfl fl_RX11_134 ?_
    refine g_iload_n dX11_motion_99 rfl 2 rfl ?_
    obtain ⟨g2, h⟩ := gg_some h
    refine g_iald dX11_motion_100 gi_206 g2 ?_
    refine g_iload_n dX11_motion_101 rfl 3 rfl ?_
    refine g_iadd dX11_motion_102 ?_
    obtain ⟨x3, ex3, h⟩ := bnd_nm h
    refine g_topi ex3 ?_
    refine g_istore (lv' := [(6, .int x3), (0, .ref 168), (1, .int p1), (2, .int p2), (3, .int p3), (4, .int v4), (5, .int v5)]) dX11_motion_103 (Nat.le_of_ble_eq_true rfl) rfl ?_
    refine g_aload_n dX11_motion_105 rfl 1 rfl ?_
    refine g_getC (n := 209) dX11_motion_106 gi_168 rfl fl_RX11_143 ?_
    refine g_iload dX11_motion_109 0 rfl ?_
    obtain ⟨g4, h⟩ := gg_some h
    refine g_iald dX11_motion_111 gi_209 g4 ?_
    refine g_if_ge (t := 128) dX11_motion_112 (by decide) (fun c5 => ?_) (fun c5 => ?_)
    · replace h := if_t h c5
      refine g_ldc2 (v := 1000003) dX11_motion_128 wl_RX11_429 ?_
      refine g_aload_n dX11_motion_131 rfl 1 rfl ?_
      refine g_getC (n := 208) dX11_motion_132 gi_168 rfl fl_RX11_140 ?_
      refine g_bipush (v := 48) dX11_motion_135 (by decide) ?_
      refine g_aload_n dX11_motion_137 rfl 1 rfl ?_
      refine g_getC (n := 209) dX11_motion_138 gi_168 rfl fl_RX11_143 ?_
      refine g_iload dX11_motion_141 0 rfl ?_
      obtain ⟨g6, h⟩ := gg_some h
      refine g_iald dX11_motion_143 gi_209 g6 ?_
      refine g_imul dX11_motion_144 ?_
      refine g_iload dX11_motion_145 5 rfl ?_
      refine g_iadd dX11_motion_147 ?_
      obtain ⟨x7, ex7, h⟩ := bnd_nm h
      refine g_topi ex7 ?_
      obtain ⟨g8, h⟩ := gg_some h
      refine g_lald dX11_motion_148 gi_208 g8 ?_
      refine g_lsub dX11_motion_149 ?_
      refine g_ldc2 (v := 1000003) dX11_motion_150 wl_RX11_429 ?_
      refine g_lrem dX11_motion_153 (by decide) ?_
      refine g_l2i dX11_motion_154 ?_
      obtain ⟨rfl, rfl⟩ := so_inj h
      exact g_iret dX11_motion_155 rfl
    · replace h := if_f h c5
      refine g_iload dX11_motion_115 0 rfl ?_
      refine g_iload dX11_motion_117 5 rfl ?_
      refine g_icmp_ne (t := 126) dX11_motion_119 (by decide) (fun c9 => ?_) (fun c9 => ?_)
      · replace h := if_f h c9
        refine g_iconst (v := 0) dX11_motion_126 (by decide) ?_
        refine g_sub [] rfl ?_
        exact pX11_motion_127 h
      · replace h := if_t h c9
        refine g_iconst (v := 1) dX11_motion_122 (by decide) ?_
        refine g_goto (t := 127) dX11_motion_123 (by decide) ?_
        refine g_sub [] rfl ?_
        exact pX11_motion_127 h
  · replace h := if_f h c1
    obtain ⟨x10, ex10, h⟩ := bnd_nm h
    refine g_iinc (j := 4) (v := x10) (lv' := [(4, .int x10), (0, .ref 168), (1, .int p1), (2, .int p2), (3, .int p3), (5, .int v5)]) dX11_motion_69 rfl (by rw [ex10]; rfl) (Nat.le_of_ble_eq_true rfl) rfl ?_
    refine g_iload dX11_motion_72 5 rfl ?_
    refine g_aload_n dX11_motion_74 rfl 1 rfl ?_
    refine g_getC (n := 209) dX11_motion_75 gi_168 rfl fl_RX11_143 ?_
    refine g_iload dX11_motion_78 0 rfl ?_
    obtain ⟨g11, h⟩ := gg_some h
    refine g_iald dX11_motion_80 gi_209 g11 ?_
    refine g_if_ge (t := 88) dX11_motion_81 (by decide) (fun c12 => ?_) (fun c12 => ?_)
    · replace h := if_t h c12
      refine g_iconst (v := 0) dX11_motion_88 (by decide) ?_
      refine g_sub [1, 2, 3, 4, 0] rfl ?_
      exact pX11_motion_89 (fun v4 v5 σ h => ih v4 v5 σ h) h
    · replace h := if_f h c12
      refine g_iconst (v := 1) dX11_motion_84 (by decide) ?_
      refine g_goto (t := 89) dX11_motion_85 (by decide) ?_
      refine g_sub [1, 2, 3, 4, 0] rfl ?_
      exact pX11_motion_89 (fun v4 v5 σ h => ih v4 v5 σ h) h
def fX11_motion (p1 : Int32) (p2 : Int32) (p3 : Int32) (σ : gS) : Option (Int32 × gS) :=
  bd (fX11_findRank σ) fun _ σ1 =>
  bd (fX11_in p1.toInt64 0 ((((σ1.1 168 63) - (σ1.1 168 67)) - 1).toInt64) σ1) fun x3 σ4 =>
  if x3 = 0 then
    fX11_motion_43 p1 p2 p3 σ4
  else
    bd (fX11_isJoint p2 σ4) fun x7 σ8 =>
    if x7 = 0 then
      fX11_motion_43 p1 p2 p3 σ8
    else
      bd (fX11_in p3.toInt64 0 1 σ8) fun x11 σ12 =>
      if x11 = 0 then
        fX11_motion_43 p1 p2 p3 σ12
      else
        gg (¬ (p2 < 0 ∨ 24 ≤ p2.toNatClampNeg)) (
        if (σ12.1 172 p2.toNatClampNeg) = 0 then
          fX11_motion_63 p1 p2 p3 2000 (-1) (-1) σ12
        else
          some (0, σ12))
set_option maxHeartbeats 4000000 in
set_option maxRecDepth 100000 in
theorem pX11_motion {E : gE} {p1 : Int32} {p2 : Int32} {p3 : Int32} {r : Int32} {σ' : gS} {σ : gS} (h : fX11_motion p1 p2 p3 σ = some (r, σ')) : gG E mX11_motion 0 [(0, .ref 168), (1, .int p1), (2, .int p2), (3, .int p3)] [] σ (some (.int r)) σ' := by
  unfold fX11_motion at h
  refine g_aload_n dX11_motion_0 rfl 0 rfl ?_
  obtain ⟨_, σ1, y2, h⟩ := bd_some h
  refine g_callVv (as := []) (st := []) (zX11_findRank y2) dX11_motion_1 gi_168 rfl okX11_motion_450 (Nat.le_of_ble_eq_true rfl) ?_
  refine g_iload_n dX11_motion_4 rfl 1 rfl ?_
  refine g_i2l dX11_motion_5 ?_
  refine g_lconst (v := 0) dX11_motion_6 (by decide) ?_
  refine g_aload_n dX11_motion_7 rfl 0 rfl ?_
  refine g_getI dX11_motion_8 gi_168 rfl fl_RX11_431 ?_
  refine g_aload_n dX11_motion_11 rfl 0 rfl ?_
  refine g_getI dX11_motion_12 gi_168 rfl fl_RX11_438 ?_
  refine g_isub dX11_motion_15 ?_
  refine g_iconst (v := 1) dX11_motion_16 (by decide) ?_
  refine g_isub dX11_motion_17 ?_
  refine g_i2l dX11_motion_18 ?_
  obtain ⟨x3, σ4, y5, h⟩ := bd_some h
  refine g_callSr (as := [.long p1.toInt64, .long 0, .long ((((σ1.1 168 63) - (σ1.1 168 67)) - 1).toInt64)]) (st := []) (zX11_in y5) dX11_motion_19 okX11_motion_220 (Nat.le_of_ble_eq_true rfl) ?_
  refine g_if_eq (t := 43) dX11_motion_22 (by decide) (fun c6 => ?_) (fun c6 => ?_)
  · replace h := if_t h c6
    refine g_sub [] rfl ?_
    exact pX11_motion_43 h
  · replace h := if_f h c6
    refine g_aload_n dX11_motion_25 rfl 0 rfl ?_
    refine g_iload_n dX11_motion_26 rfl 2 rfl ?_
    obtain ⟨x7, σ8, y9, h⟩ := bd_some h
    refine g_callVr (as := [.int p2]) (st := []) (zX11_isJoint y9) dX11_motion_27 gi_168 rfl okX11_motion_420 (Nat.le_of_ble_eq_true rfl) ?_
    refine g_if_eq (t := 43) dX11_motion_30 (by decide) (fun c10 => ?_) (fun c10 => ?_)
    · replace h := if_t h c10
      refine g_sub [] rfl ?_
      exact pX11_motion_43 h
    · replace h := if_f h c10
      refine g_iload_n dX11_motion_33 rfl 3 rfl ?_
      refine g_i2l dX11_motion_34 ?_
      refine g_lconst (v := 0) dX11_motion_35 (by decide) ?_
      refine g_lconst (v := 1) dX11_motion_36 (by decide) ?_
      obtain ⟨x11, σ12, y13, h⟩ := bd_some h
      refine g_callSr (as := [.long p3.toInt64, .long 0, .long 1]) (st := []) (zX11_in y13) dX11_motion_37 okX11_motion_220 (Nat.le_of_ble_eq_true rfl) ?_
      refine g_if_ne (t := 46) dX11_motion_40 (by decide) (fun c14 => ?_) (fun c14 => ?_)
      · replace h := if_f h c14
        refine g_aload_n dX11_motion_46 rfl 0 rfl ?_
        refine g_getC (n := 172) dX11_motion_47 gi_168 rfl fl_RX11_20 ?_
        refine g_iload_n dX11_motion_50 rfl 2 rfl ?_
        obtain ⟨g15, h⟩ := gg_some h
        refine g_zald dX11_motion_51 gi_172 g15 ?_
        refine g_if_eq (t := 57) dX11_motion_52 (by decide) (fun c16 => ?_) (fun c16 => ?_)
        · replace h := if_t h c16
          refine g_iconst (v := (-1)) dX11_motion_57 (by decide) ?_
          refine g_istore (lv' := [(4, .int (-1)), (0, .ref 168), (1, .int p1), (2, .int p2), (3, .int p3)]) dX11_motion_58 (Nat.le_of_ble_eq_true rfl) rfl ?_
          refine g_iconst (v := (-1)) dX11_motion_60 (by decide) ?_
          refine g_istore (lv' := [(5, .int (-1)), (4, .int (-1)), (0, .ref 168), (1, .int p1), (2, .int p2), (3, .int p3)]) dX11_motion_61 (Nat.le_of_ble_eq_true rfl) rfl ?_
          refine g_sub [2, 3, 4, 5, 1, 0] rfl ?_
          exact pX11_motion_63 2000 (-1) (-1) σ12 h
        · replace h := if_f h c16
          refine g_iconst (v := 0) dX11_motion_55 (by decide) ?_
          obtain ⟨rfl, rfl⟩ := so_inj h
          exact g_iret dX11_motion_56 rfl
      · replace h := if_t h c14
        refine g_sub [] rfl ?_
        exact pX11_motion_43 h
theorem zX11_motion {E : gE} {p1 : Int32} {p2 : Int32} {p3 : Int32} {r : Int32} {σ σ' : gS} (h : fX11_motion p1 p2 p3 σ = some (r, σ')) : gC E mX11_motion [.ref 168, .int p1, .int p2, .int p3] σ (some (.int r)) σ' :=
  gC_of (by decide +kernel) rfl (Nat.le_of_ble_eq_true rfl) (pX11_motion h)
def mX11_down : gM := (yX11_down, cX11_down, RX11, 6, (some .long), 0, 0)
theorem dX11_down_0 : decode mX11_down.2.1 0 = .ok (.lload_n 0, 1) := by decide +kernel
theorem dX11_down_1 : decode mX11_down.2.1 1 = .ok (.lload_n 2, 1) := by decide +kernel
theorem dX11_down_2 : decode mX11_down.2.1 2 = .ok (.ldiv, 1) := by decide +kernel
theorem dX11_down_3 : decode mX11_down.2.1 3 = .ok (.lstore 4, 2) := by decide +kernel
theorem dX11_down_5 : decode mX11_down.2.1 5 = .ok (.lload_n 0, 1) := by decide +kernel
theorem dX11_down_6 : decode mX11_down.2.1 6 = .ok (.lload_n 2, 1) := by decide +kernel
theorem dX11_down_7 : decode mX11_down.2.1 7 = .ok (.lrem, 1) := by decide +kernel
theorem dX11_down_8 : decode mX11_down.2.1 8 = .ok (.lconst 0, 1) := by decide +kernel
theorem dX11_down_9 : decode mX11_down.2.1 9 = .ok (.lcmp, 1) := by decide +kernel
theorem dX11_down_10 : decode mX11_down.2.1 10 = .ok (.ifCond .eq 35, 3) := by decide +kernel
theorem dX11_down_13 : decode mX11_down.2.1 13 = .ok (.lload_n 0, 1) := by decide +kernel
theorem dX11_down_14 : decode mX11_down.2.1 14 = .ok (.lconst 0, 1) := by decide +kernel
theorem dX11_down_15 : decode mX11_down.2.1 15 = .ok (.lcmp, 1) := by decide +kernel
theorem dX11_down_16 : decode mX11_down.2.1 16 = .ok (.ifCond .ge 7, 3) := by decide +kernel
theorem dX11_down_19 : decode mX11_down.2.1 19 = .ok (.iconst 1, 1) := by decide +kernel
theorem dX11_down_20 : decode mX11_down.2.1 20 = .ok (.goto 4, 3) := by decide +kernel
theorem dX11_down_23 : decode mX11_down.2.1 23 = .ok (.iconst 0, 1) := by decide +kernel
theorem dX11_down_24 : decode mX11_down.2.1 24 = .ok (.lload_n 2, 1) := by decide +kernel
theorem dX11_down_25 : decode mX11_down.2.1 25 = .ok (.lconst 0, 1) := by decide +kernel
theorem dX11_down_26 : decode mX11_down.2.1 26 = .ok (.lcmp, 1) := by decide +kernel
theorem dX11_down_27 : decode mX11_down.2.1 27 = .ok (.ifCond .ge 7, 3) := by decide +kernel
theorem dX11_down_30 : decode mX11_down.2.1 30 = .ok (.iconst 1, 1) := by decide +kernel
theorem dX11_down_31 : decode mX11_down.2.1 31 = .ok (.goto 4, 3) := by decide +kernel
theorem dX11_down_34 : decode mX11_down.2.1 34 = .ok (.iconst 0, 1) := by decide +kernel
theorem dX11_down_35 : decode mX11_down.2.1 35 = .ok (.if_icmp .eq 10, 3) := by decide +kernel
theorem dX11_down_38 : decode mX11_down.2.1 38 = .ok (.lload 4, 2) := by decide +kernel
theorem dX11_down_40 : decode mX11_down.2.1 40 = .ok (.lconst 1, 1) := by decide +kernel
theorem dX11_down_41 : decode mX11_down.2.1 41 = .ok (.lsub, 1) := by decide +kernel
theorem dX11_down_42 : decode mX11_down.2.1 42 = .ok (.goto 5, 3) := by decide +kernel
theorem dX11_down_45 : decode mX11_down.2.1 45 = .ok (.lload 4, 2) := by decide +kernel
theorem dX11_down_47 : decode mX11_down.2.1 47 = .ok (.lreturn, 1) := by decide +kernel
def fX11_down_47 (p1 : Int64) (p2 : Int64) (s0 : Int64) (σ : gS) : Option (Int64 × gS) :=
  some (s0, σ)
set_option maxHeartbeats 4000000 in
set_option maxRecDepth 100000 in
theorem pX11_down_47 {E : gE} {p1 : Int64} {p2 : Int64} {r : Int64} {σ' : gS} {s0 : Int64} {σ : gS} (h : fX11_down_47 p1 p2 s0 σ = some (r, σ')) : gG E mX11_down 47 [] [.long s0] σ (some (.long r)) σ' := by
  unfold fX11_down_47 at h
  obtain ⟨rfl, rfl⟩ := so_inj h
  exact g_lret dX11_down_47 rfl
def fX11_down_45 (p1 : Int64) (p2 : Int64) (v4 : Int64) (σ : gS) : Option (Int64 × gS) :=
  fX11_down_47 p1 p2 v4 σ
set_option maxHeartbeats 4000000 in
set_option maxRecDepth 100000 in
theorem pX11_down_45 {E : gE} {p1 : Int64} {p2 : Int64} {r : Int64} {σ' : gS} {v4 : Int64} {σ : gS} (h : fX11_down_45 p1 p2 v4 σ = some (r, σ')) : gG E mX11_down 45 [(4, .long v4)] [] σ (some (.long r)) σ' := by
  unfold fX11_down_45 at h
  refine g_lload dX11_down_45 0 rfl ?_
  refine g_sub [] rfl ?_
  exact pX11_down_47 h
def fX11_down_35 (p1 : Int64) (p2 : Int64) (v4 : Int64) (s0 : Int32) (s1 : Int32) (σ : gS) : Option (Int64 × gS) :=
  if s0 = s1 then
    fX11_down_45 p1 p2 v4 σ
  else
    fX11_down_47 p1 p2 (v4 - 1) σ
set_option maxHeartbeats 4000000 in
set_option maxRecDepth 100000 in
theorem pX11_down_35 {E : gE} {p1 : Int64} {p2 : Int64} {r : Int64} {σ' : gS} {v4 : Int64} {s0 : Int32} {s1 : Int32} {σ : gS} (h : fX11_down_35 p1 p2 v4 s0 s1 σ = some (r, σ')) : gG E mX11_down 35 [(4, .long v4)] [.int s1, .int s0] σ (some (.long r)) σ' := by
  unfold fX11_down_35 at h
  refine g_icmp_eq (t := 45) dX11_down_35 (by decide) (fun c1 => ?_) (fun c1 => ?_)
  · replace h := if_t h c1
    exact pX11_down_45 h
  · replace h := if_f h c1
    refine g_lload dX11_down_38 0 rfl ?_
    refine g_lconst (v := 1) dX11_down_40 (by decide) ?_
    refine g_lsub dX11_down_41 ?_
    refine g_goto (t := 47) dX11_down_42 (by decide) ?_
    refine g_sub [] rfl ?_
    exact pX11_down_47 h
def fX11_down_24 (p1 : Int64) (p2 : Int64) (v4 : Int64) (s0 : Int32) (σ : gS) : Option (Int64 × gS) :=
  if 0 ≤ (lg_cmp p2 0) then
    fX11_down_35 p1 p2 v4 s0 0 σ
  else
    fX11_down_35 p1 p2 v4 s0 1 σ
set_option maxHeartbeats 4000000 in
set_option maxRecDepth 100000 in
theorem pX11_down_24 {E : gE} {p1 : Int64} {p2 : Int64} {r : Int64} {σ' : gS} {v4 : Int64} {s0 : Int32} {σ : gS} (h : fX11_down_24 p1 p2 v4 s0 σ = some (r, σ')) : gG E mX11_down 24 [(2, .long p2), (4, .long v4)] [.int s0] σ (some (.long r)) σ' := by
  unfold fX11_down_24 at h
  refine g_lload_n dX11_down_24 rfl 0 rfl ?_
  refine g_lconst (v := 0) dX11_down_25 (by decide) ?_
  refine g_lcmp dX11_down_26 ?_
  refine g_if_ge (t := 34) dX11_down_27 (by decide) (fun c1 => ?_) (fun c1 => ?_)
  · replace h := if_t h c1
    refine g_iconst (v := 0) dX11_down_34 (by decide) ?_
    refine g_sub [1] rfl ?_
    exact pX11_down_35 h
  · replace h := if_f h c1
    refine g_iconst (v := 1) dX11_down_30 (by decide) ?_
    refine g_goto (t := 35) dX11_down_31 (by decide) ?_
    refine g_sub [1] rfl ?_
    exact pX11_down_35 h
def fX11_down (p1 : Int64) (p2 : Int64) (σ : gS) : Option (Int64 × gS) :=
  gg (¬ p2 = 0) (
  bnd (p1 / p2) fun x2 =>
  gg (¬ p2 = 0) (
  if (lg_cmp (p1 - p1 / p2 * p2) 0) = 0 then
    fX11_down_45 p1 p2 x2 σ
  else
    if 0 ≤ (lg_cmp p1 0) then
      fX11_down_24 p1 p2 x2 0 σ
    else
      fX11_down_24 p1 p2 x2 1 σ))
set_option maxHeartbeats 4000000 in
set_option maxRecDepth 100000 in
theorem pX11_down {E : gE} {p1 : Int64} {p2 : Int64} {r : Int64} {σ' : gS} {σ : gS} (h : fX11_down p1 p2 σ = some (r, σ')) : gG E mX11_down 0 [(0, .long p1), (2, .long p2)] [] σ (some (.long r)) σ' := by
  unfold fX11_down at h
  refine g_lload_n dX11_down_0 rfl 0 rfl ?_
  refine g_lload_n dX11_down_1 rfl 1 rfl ?_
  obtain ⟨g1, h⟩ := gg_some h
  refine g_ldiv dX11_down_2 g1 ?_
  obtain ⟨x2, ex2, h⟩ := bnd_nm h
  refine g_topl ex2 ?_
  refine g_lstore (lv' := [(4, .long x2), (0, .long p1), (2, .long p2)]) dX11_down_3 (Nat.le_of_ble_eq_true rfl) rfl ?_
  refine g_lload_n dX11_down_5 rfl 1 rfl ?_
  refine g_lload_n dX11_down_6 rfl 2 rfl ?_
  obtain ⟨g3, h⟩ := gg_some h
  refine g_lrem dX11_down_7 g3 ?_
  refine g_lconst (v := 0) dX11_down_8 (by decide) ?_
  refine g_lcmp dX11_down_9 ?_
  refine g_if_eq (t := 45) dX11_down_10 (by decide) (fun c4 => ?_) (fun c4 => ?_)
  · replace h := if_t h c4
    refine g_sub [0] rfl ?_
    exact pX11_down_45 h
  · replace h := if_f h c4
    refine g_lload_n dX11_down_13 rfl 1 rfl ?_
    refine g_lconst (v := 0) dX11_down_14 (by decide) ?_
    refine g_lcmp dX11_down_15 ?_
    refine g_if_ge (t := 23) dX11_down_16 (by decide) (fun c5 => ?_) (fun c5 => ?_)
    · replace h := if_t h c5
      refine g_iconst (v := 0) dX11_down_23 (by decide) ?_
      refine g_sub [2, 0] rfl ?_
      exact pX11_down_24 h
    · replace h := if_f h c5
      refine g_iconst (v := 1) dX11_down_19 (by decide) ?_
      refine g_goto (t := 24) dX11_down_20 (by decide) ?_
      refine g_sub [2, 0] rfl ?_
      exact pX11_down_24 h
theorem zX11_down {E : gE} {p1 : Int64} {p2 : Int64} {r : Int64} {σ σ' : gS} (h : fX11_down p1 p2 σ = some (r, σ')) : gC E mX11_down [.long p1, .long p2] σ (some (.long r)) σ' :=
  gC_of (by decide +kernel) rfl (Nat.le_of_ble_eq_true rfl) (pX11_down h)
def mX11_highQuotient : gM := (yX11_highQuotient, cX11_highQuotient, RX11, 9, (some .long), 0, 0)
theorem dX11_highQuotient_0 : decode mX11_highQuotient.2.1 0 = .ok (.lload_n 0, 1) := by decide +kernel
theorem dX11_highQuotient_1 : decode mX11_highQuotient.2.1 1 = .ok (.lload_n 2, 1) := by decide +kernel
theorem dX11_highQuotient_2 : decode mX11_highQuotient.2.1 2 = .ok (.ldiv, 1) := by decide +kernel
theorem dX11_highQuotient_3 : decode mX11_highQuotient.2.1 3 = .ok (.lstore 4, 2) := by decide +kernel
theorem dX11_highQuotient_5 : decode mX11_highQuotient.2.1 5 = .ok (.lload_n 0, 1) := by decide +kernel
theorem dX11_highQuotient_6 : decode mX11_highQuotient.2.1 6 = .ok (.lload_n 2, 1) := by decide +kernel
theorem dX11_highQuotient_7 : decode mX11_highQuotient.2.1 7 = .ok (.lrem, 1) := by decide +kernel
theorem dX11_highQuotient_8 : decode mX11_highQuotient.2.1 8 = .ok (.lstore 6, 2) := by decide +kernel
theorem dX11_highQuotient_10 : decode mX11_highQuotient.2.1 10 = .ok (.iconst 0, 1) := by decide +kernel
theorem dX11_highQuotient_11 : decode mX11_highQuotient.2.1 11 = .ok (.istore 8, 2) := by decide +kernel
theorem dX11_highQuotient_13 : decode mX11_highQuotient.2.1 13 = .ok (.iload 8, 2) := by decide +kernel
theorem dX11_highQuotient_15 : decode mX11_highQuotient.2.1 15 = .ok (.bipush 32, 2) := by decide +kernel
theorem dX11_highQuotient_17 : decode mX11_highQuotient.2.1 17 = .ok (.if_icmp .ge 40, 3) := by decide +kernel
theorem dX11_highQuotient_20 : decode mX11_highQuotient.2.1 20 = .ok (.lload 4, 2) := by decide +kernel
theorem dX11_highQuotient_22 : decode mX11_highQuotient.2.1 22 = .ok (.iconst 1, 1) := by decide +kernel
theorem dX11_highQuotient_23 : decode mX11_highQuotient.2.1 23 = .ok (.lshl, 1) := by decide +kernel
theorem dX11_highQuotient_24 : decode mX11_highQuotient.2.1 24 = .ok (.lstore 4, 2) := by decide +kernel
theorem dX11_highQuotient_26 : decode mX11_highQuotient.2.1 26 = .ok (.lload 6, 2) := by decide +kernel
theorem dX11_highQuotient_28 : decode mX11_highQuotient.2.1 28 = .ok (.iconst 1, 1) := by decide +kernel
theorem dX11_highQuotient_29 : decode mX11_highQuotient.2.1 29 = .ok (.lshl, 1) := by decide +kernel
theorem dX11_highQuotient_30 : decode mX11_highQuotient.2.1 30 = .ok (.lstore 6, 2) := by decide +kernel
theorem dX11_highQuotient_32 : decode mX11_highQuotient.2.1 32 = .ok (.lload 6, 2) := by decide +kernel
theorem dX11_highQuotient_34 : decode mX11_highQuotient.2.1 34 = .ok (.lload_n 2, 1) := by decide +kernel
theorem dX11_highQuotient_35 : decode mX11_highQuotient.2.1 35 = .ok (.lcmp, 1) := by decide +kernel
theorem dX11_highQuotient_36 : decode mX11_highQuotient.2.1 36 = .ok (.ifCond .lt 15, 3) := by decide +kernel
theorem dX11_highQuotient_39 : decode mX11_highQuotient.2.1 39 = .ok (.lload 6, 2) := by decide +kernel
theorem dX11_highQuotient_41 : decode mX11_highQuotient.2.1 41 = .ok (.lload_n 2, 1) := by decide +kernel
theorem dX11_highQuotient_42 : decode mX11_highQuotient.2.1 42 = .ok (.lsub, 1) := by decide +kernel
theorem dX11_highQuotient_43 : decode mX11_highQuotient.2.1 43 = .ok (.lstore 6, 2) := by decide +kernel
theorem dX11_highQuotient_45 : decode mX11_highQuotient.2.1 45 = .ok (.lload 4, 2) := by decide +kernel
theorem dX11_highQuotient_47 : decode mX11_highQuotient.2.1 47 = .ok (.lconst 1, 1) := by decide +kernel
theorem dX11_highQuotient_48 : decode mX11_highQuotient.2.1 48 = .ok (.ladd, 1) := by decide +kernel
theorem dX11_highQuotient_49 : decode mX11_highQuotient.2.1 49 = .ok (.lstore 4, 2) := by decide +kernel
theorem dX11_highQuotient_51 : decode mX11_highQuotient.2.1 51 = .ok (.iinc 8 1, 3) := by decide +kernel
theorem dX11_highQuotient_54 : decode mX11_highQuotient.2.1 54 = .ok (.goto (-41), 3) := by decide +kernel
theorem dX11_highQuotient_57 : decode mX11_highQuotient.2.1 57 = .ok (.lload 4, 2) := by decide +kernel
theorem dX11_highQuotient_59 : decode mX11_highQuotient.2.1 59 = .ok (.lreturn, 1) := by decide +kernel
def fX11_highQuotient_51 (p1 : Int64) (p2 : Int64) (k13 : Int64 → Int64 → Int32 → gS → Option (Int64 × gS)) (v4 : Int64) (v6 : Int64) (v8 : Int32) (σ : gS) : Option (Int64 × gS) :=
  bnd (v8 + 1) fun x1 =>
  k13 v4 v6 x1 σ
set_option maxHeartbeats 4000000 in
set_option maxRecDepth 100000 in
theorem pX11_highQuotient_51 {E : gE} {p1 : Int64} {p2 : Int64} {k13 : Int64 → Int64 → Int32 → gS → Option (Int64 × gS)} {r : Int64} {σ' : gS} {v4 : Int64} {v6 : Int64} {v8 : Int32} {σ : gS} (hk13 : ∀ (v4 : Int64) (v6 : Int64) (v8 : Int32) (σ : gS), k13 v4 v6 v8 σ = some (r, σ') → gG E mX11_highQuotient 13 [(2, .long p2), (4, .long v4), (6, .long v6), (8, .int v8)] [] σ (some (.long r)) σ') (h : fX11_highQuotient_51 p1 p2 k13 v4 v6 v8 σ = some (r, σ')) : gG E mX11_highQuotient 51 [(2, .long p2), (4, .long v4), (6, .long v6), (8, .int v8)] [] σ (some (.long r)) σ' := by
  unfold fX11_highQuotient_51 at h
  obtain ⟨x1, ex1, h⟩ := bnd_nm h
  refine g_iinc (j := 3) (v := x1) (lv' := [(8, .int x1), (2, .long p2), (4, .long v4), (6, .long v6)]) dX11_highQuotient_51 rfl (by rw [ex1]; rfl) (Nat.le_of_ble_eq_true rfl) rfl ?_
  refine g_goto (t := 13) dX11_highQuotient_54 (by decide) ?_
  refine g_sub [1, 2, 3, 0] rfl ?_
  exact hk13 v4 v6 x1 σ h
def fX11_highQuotient_13 (p1 : Int64) (p2 : Int64) : Nat → Int64 → Int64 → Int32 → gS → Option (Int64 × gS)
  | 0, _, _, _, _ => none
  | n + 1, v4, v6, v8, σ => if 32 ≤ v8 then
    some (v4, σ)
  else
    bnd (v4 <<< ((1 : Int32).toInt64 &&& 63)) fun x2 =>
    bnd (v6 <<< ((1 : Int32).toInt64 &&& 63)) fun x3 =>
    if (lg_cmp x3 p2) < 0 then
      fX11_highQuotient_51 p1 p2 (fun v4 v6 v8 σ => fX11_highQuotient_13 p1 p2 n v4 v6 v8 σ) x2 x3 v8 σ
    else
      bnd (x3 - p2) fun x5 =>
      bnd (x2 + 1) fun x6 =>
      fX11_highQuotient_51 p1 p2 (fun v4 v6 v8 σ => fX11_highQuotient_13 p1 p2 n v4 v6 v8 σ) x6 x5 v8 σ
set_option maxHeartbeats 4000000 in
set_option maxRecDepth 100000 in
theorem pX11_highQuotient_13 {E : gE} {p1 : Int64} {p2 : Int64} {r : Int64} {σ' : gS} : ∀ (n : Nat) (v4 : Int64) (v6 : Int64) (v8 : Int32) (σ : gS), fX11_highQuotient_13 p1 p2 n v4 v6 v8 σ = some (r, σ') → gG E mX11_highQuotient 13 [(2, .long p2), (4, .long v4), (6, .long v6), (8, .int v8)] [] σ (some (.long r)) σ' := by
  intro n
  induction n with
  | zero => intro v4 v6 v8 σ h; exact absurd (show none = some (r, σ') from h) (by intro q; cases q)
  | succ n ih =>
  intro v4 v6 v8 σ h
  unfold fX11_highQuotient_13 at h
  refine g_iload dX11_highQuotient_13 3 rfl ?_
  refine g_bipush (v := 32) dX11_highQuotient_15 (by decide) ?_
  refine g_icmp_ge (t := 57) dX11_highQuotient_17 (by decide) (fun c1 => ?_) (fun c1 => ?_)
  · replace h := if_t h c1
    refine g_lload dX11_highQuotient_57 1 rfl ?_
    obtain ⟨rfl, rfl⟩ := so_inj h
    exact g_lret dX11_highQuotient_59 rfl
  · replace h := if_f h c1
    refine g_lload dX11_highQuotient_20 1 rfl ?_
    refine g_iconst (v := 1) dX11_highQuotient_22 (by decide) ?_
    refine g_lshl dX11_highQuotient_23 ?_
    obtain ⟨x2, ex2, h⟩ := bnd_nm h
    refine g_topl ex2 ?_
    refine g_lstore (lv' := [(4, .long x2), (2, .long p2), (6, .long v6), (8, .int v8)]) dX11_highQuotient_24 (Nat.le_of_ble_eq_true rfl) rfl ?_
    refine g_lload dX11_highQuotient_26 2 rfl ?_
    refine g_iconst (v := 1) dX11_highQuotient_28 (by decide) ?_
    refine g_lshl dX11_highQuotient_29 ?_
    obtain ⟨x3, ex3, h⟩ := bnd_nm h
    refine g_topl ex3 ?_
    refine g_lstore (lv' := [(6, .long x3), (4, .long x2), (2, .long p2), (8, .int v8)]) dX11_highQuotient_30 (Nat.le_of_ble_eq_true rfl) rfl ?_
    refine g_lload dX11_highQuotient_32 0 rfl ?_
    refine g_lload_n dX11_highQuotient_34 rfl 2 rfl ?_
    refine g_lcmp dX11_highQuotient_35 ?_
    refine g_if_lt (t := 51) dX11_highQuotient_36 (by decide) (fun c4 => ?_) (fun c4 => ?_)
    · replace h := if_t h c4
      refine g_sub [2, 1, 0, 3] rfl ?_
      exact pX11_highQuotient_51 (fun v4 v6 v8 σ h => ih v4 v6 v8 σ h) h
    · replace h := if_f h c4
      refine g_lload dX11_highQuotient_39 0 rfl ?_
      refine g_lload_n dX11_highQuotient_41 rfl 2 rfl ?_
      refine g_lsub dX11_highQuotient_42 ?_
      obtain ⟨x5, ex5, h⟩ := bnd_nm h
      refine g_topl ex5 ?_
      refine g_lstore (lv' := [(6, .long x5), (4, .long x2), (2, .long p2), (8, .int v8)]) dX11_highQuotient_43 (Nat.le_of_ble_eq_true rfl) rfl ?_
      refine g_lload dX11_highQuotient_45 1 rfl ?_
      refine g_lconst (v := 1) dX11_highQuotient_47 (by decide) ?_
      refine g_ladd dX11_highQuotient_48 ?_
      obtain ⟨x6, ex6, h⟩ := bnd_nm h
      refine g_topl ex6 ?_
      refine g_lstore (lv' := [(4, .long x6), (6, .long x5), (2, .long p2), (8, .int v8)]) dX11_highQuotient_49 (Nat.le_of_ble_eq_true rfl) rfl ?_
      refine g_sub [2, 0, 1, 3] rfl ?_
      exact pX11_highQuotient_51 (fun v4 v6 v8 σ h => ih v4 v6 v8 σ h) h
def fX11_highQuotient (p1 : Int64) (p2 : Int64) (σ : gS) : Option (Int64 × gS) :=
  gg (¬ p2 = 0) (
  bnd (p1 / p2) fun x2 =>
  gg (¬ p2 = 0) (
  bnd (p1 - p1 / p2 * p2) fun x4 =>
  fX11_highQuotient_13 p1 p2 2000 x2 x4 0 σ))
set_option maxHeartbeats 4000000 in
set_option maxRecDepth 100000 in
theorem pX11_highQuotient {E : gE} {p1 : Int64} {p2 : Int64} {r : Int64} {σ' : gS} {σ : gS} (h : fX11_highQuotient p1 p2 σ = some (r, σ')) : gG E mX11_highQuotient 0 [(0, .long p1), (2, .long p2)] [] σ (some (.long r)) σ' := by
  unfold fX11_highQuotient at h
  refine g_lload_n dX11_highQuotient_0 rfl 0 rfl ?_
  refine g_lload_n dX11_highQuotient_1 rfl 1 rfl ?_
  obtain ⟨g1, h⟩ := gg_some h
  refine g_ldiv dX11_highQuotient_2 g1 ?_
  obtain ⟨x2, ex2, h⟩ := bnd_nm h
  refine g_topl ex2 ?_
  refine g_lstore (lv' := [(4, .long x2), (0, .long p1), (2, .long p2)]) dX11_highQuotient_3 (Nat.le_of_ble_eq_true rfl) rfl ?_
  refine g_lload_n dX11_highQuotient_5 rfl 1 rfl ?_
  refine g_lload_n dX11_highQuotient_6 rfl 2 rfl ?_
  obtain ⟨g3, h⟩ := gg_some h
  refine g_lrem dX11_highQuotient_7 g3 ?_
  obtain ⟨x4, ex4, h⟩ := bnd_nm h
  refine g_topl ex4 ?_
  refine g_lstore (lv' := [(6, .long x4), (4, .long x2), (0, .long p1), (2, .long p2)]) dX11_highQuotient_8 (Nat.le_of_ble_eq_true rfl) rfl ?_
  refine g_iconst (v := 0) dX11_highQuotient_10 (by decide) ?_
  refine g_istore (lv' := [(8, .int 0), (6, .long x4), (4, .long x2), (0, .long p1), (2, .long p2)]) dX11_highQuotient_11 (Nat.le_of_ble_eq_true rfl) rfl ?_
  refine g_sub [4, 2, 1, 0] rfl ?_
  exact pX11_highQuotient_13 2000 x2 x4 0 σ h
theorem zX11_highQuotient {E : gE} {p1 : Int64} {p2 : Int64} {r : Int64} {σ σ' : gS} (h : fX11_highQuotient p1 p2 σ = some (r, σ')) : gC E mX11_highQuotient [.long p1, .long p2] σ (some (.long r)) σ' :=
  gC_of (by decide +kernel) rfl (Nat.le_of_ble_eq_true rfl) (pX11_highQuotient h)
theorem wl_RX11_467 : Cond.constantLong RX11 467 3037000499 ∈ gWS := (gm 1776 (by decide +kernel) rfl)
theorem wl_RX11_465 : Cond.constantLong RX11 465 2147483648 ∈ gWS := (gm 1775 (by decide +kernel) rfl)
def mX11_root : gM := (yX11_root, cX11_root, RX11, 8, (some .long), 0, 0)
theorem dX11_root_0 : decode mX11_root.2.1 0 = .ok (.lconst 0, 1) := by decide +kernel
theorem dX11_root_1 : decode mX11_root.2.1 1 = .ok (.lstore_n 2, 1) := by decide +kernel
theorem dX11_root_2 : decode mX11_root.2.1 2 = .ok (.ldc2_w 465, 3) := by decide +kernel
theorem dX11_root_5 : decode mX11_root.2.1 5 = .ok (.lstore 4, 2) := by decide +kernel
theorem dX11_root_7 : decode mX11_root.2.1 7 = .ok (.lload 4, 2) := by decide +kernel
theorem dX11_root_9 : decode mX11_root.2.1 9 = .ok (.lconst 0, 1) := by decide +kernel
theorem dX11_root_10 : decode mX11_root.2.1 10 = .ok (.lcmp, 1) := by decide +kernel
theorem dX11_root_11 : decode mX11_root.2.1 11 = .ok (.ifCond .le 44, 3) := by decide +kernel
theorem dX11_root_14 : decode mX11_root.2.1 14 = .ok (.lload_n 2, 1) := by decide +kernel
theorem dX11_root_15 : decode mX11_root.2.1 15 = .ok (.lload 4, 2) := by decide +kernel
theorem dX11_root_17 : decode mX11_root.2.1 17 = .ok (.ladd, 1) := by decide +kernel
theorem dX11_root_18 : decode mX11_root.2.1 18 = .ok (.lstore 6, 2) := by decide +kernel
theorem dX11_root_20 : decode mX11_root.2.1 20 = .ok (.lload 6, 2) := by decide +kernel
theorem dX11_root_22 : decode mX11_root.2.1 22 = .ok (.ldc2_w 467, 3) := by decide +kernel
theorem dX11_root_25 : decode mX11_root.2.1 25 = .ok (.lcmp, 1) := by decide +kernel
theorem dX11_root_26 : decode mX11_root.2.1 26 = .ok (.ifCond .gt 18, 3) := by decide +kernel
theorem dX11_root_29 : decode mX11_root.2.1 29 = .ok (.lload 6, 2) := by decide +kernel
theorem dX11_root_31 : decode mX11_root.2.1 31 = .ok (.lload 6, 2) := by decide +kernel
theorem dX11_root_33 : decode mX11_root.2.1 33 = .ok (.lmul, 1) := by decide +kernel
theorem dX11_root_34 : decode mX11_root.2.1 34 = .ok (.lload_n 0, 1) := by decide +kernel
theorem dX11_root_35 : decode mX11_root.2.1 35 = .ok (.lcmp, 1) := by decide +kernel
theorem dX11_root_36 : decode mX11_root.2.1 36 = .ok (.ifCond .gt 8, 3) := by decide +kernel
theorem dX11_root_39 : decode mX11_root.2.1 39 = .ok (.lload 6, 2) := by decide +kernel
theorem dX11_root_41 : decode mX11_root.2.1 41 = .ok (.goto 4, 3) := by decide +kernel
theorem dX11_root_44 : decode mX11_root.2.1 44 = .ok (.lload_n 2, 1) := by decide +kernel
theorem dX11_root_45 : decode mX11_root.2.1 45 = .ok (.lstore_n 2, 1) := by decide +kernel
theorem dX11_root_46 : decode mX11_root.2.1 46 = .ok (.lload 4, 2) := by decide +kernel
theorem dX11_root_48 : decode mX11_root.2.1 48 = .ok (.iconst 1, 1) := by decide +kernel
theorem dX11_root_49 : decode mX11_root.2.1 49 = .ok (.lshr, 1) := by decide +kernel
theorem dX11_root_50 : decode mX11_root.2.1 50 = .ok (.lstore 4, 2) := by decide +kernel
theorem dX11_root_52 : decode mX11_root.2.1 52 = .ok (.goto (-45), 3) := by decide +kernel
theorem dX11_root_55 : decode mX11_root.2.1 55 = .ok (.lload_n 2, 1) := by decide +kernel
theorem dX11_root_56 : decode mX11_root.2.1 56 = .ok (.lreturn, 1) := by decide +kernel
def fX11_root_45 (p1 : Int64) (k7 : Int64 → Int64 → gS → Option (Int64 × gS)) (v4 : Int64) (s0 : Int64) (σ : gS) : Option (Int64 × gS) :=
  bnd (v4 >>> ((1 : Int32).toInt64 &&& 63)) fun x1 =>
  k7 s0 x1 σ
set_option maxHeartbeats 4000000 in
set_option maxRecDepth 100000 in
theorem pX11_root_45 {E : gE} {p1 : Int64} {k7 : Int64 → Int64 → gS → Option (Int64 × gS)} {r : Int64} {σ' : gS} {v4 : Int64} {s0 : Int64} {σ : gS} (hk7 : ∀ (v2 : Int64) (v4 : Int64) (σ : gS), k7 v2 v4 σ = some (r, σ') → gG E mX11_root 7 [(0, .long p1), (2, .long v2), (4, .long v4)] [] σ (some (.long r)) σ') (h : fX11_root_45 p1 k7 v4 s0 σ = some (r, σ')) : gG E mX11_root 45 [(0, .long p1), (4, .long v4)] [.long s0] σ (some (.long r)) σ' := by
  unfold fX11_root_45 at h
  refine g_lstore_n (lv' := [(2, .long s0), (0, .long p1), (4, .long v4)]) dX11_root_45 rfl (Nat.le_of_ble_eq_true rfl) rfl ?_
  refine g_lload dX11_root_46 2 rfl ?_
  refine g_iconst (v := 1) dX11_root_48 (by decide) ?_
  refine g_lshr dX11_root_49 ?_
  obtain ⟨x1, ex1, h⟩ := bnd_nm h
  refine g_topl ex1 ?_
  refine g_lstore (lv' := [(4, .long x1), (2, .long s0), (0, .long p1)]) dX11_root_50 (Nat.le_of_ble_eq_true rfl) rfl ?_
  refine g_goto (t := 7) dX11_root_52 (by decide) ?_
  refine g_sub [2, 1, 0] rfl ?_
  exact hk7 s0 x1 σ h
def fX11_root_44 (p1 : Int64) (k7 : Int64 → Int64 → gS → Option (Int64 × gS)) (v2 : Int64) (v4 : Int64) (σ : gS) : Option (Int64 × gS) :=
  fX11_root_45 p1 k7 v4 v2 σ
set_option maxHeartbeats 4000000 in
set_option maxRecDepth 100000 in
theorem pX11_root_44 {E : gE} {p1 : Int64} {k7 : Int64 → Int64 → gS → Option (Int64 × gS)} {r : Int64} {σ' : gS} {v2 : Int64} {v4 : Int64} {σ : gS} (hk7 : ∀ (v2 : Int64) (v4 : Int64) (σ : gS), k7 v2 v4 σ = some (r, σ') → gG E mX11_root 7 [(0, .long p1), (2, .long v2), (4, .long v4)] [] σ (some (.long r)) σ') (h : fX11_root_44 p1 k7 v2 v4 σ = some (r, σ')) : gG E mX11_root 44 [(0, .long p1), (2, .long v2), (4, .long v4)] [] σ (some (.long r)) σ' := by
  unfold fX11_root_44 at h
  refine g_lload_n dX11_root_44 rfl 1 rfl ?_
  refine g_sub [0, 2] rfl ?_
  exact pX11_root_45 hk7 h
def fX11_root_7 (p1 : Int64) : Nat → Int64 → Int64 → gS → Option (Int64 × gS)
  | 0, _, _, _ => none
  | n + 1, v2, v4, σ => if (lg_cmp v4 0) ≤ 0 then
    some (v2, σ)
  else
    bnd (v2 + v4) fun x2 =>
    if 0 < (lg_cmp x2 3037000499) then
      fX11_root_44 p1 (fun v2 v4 σ => fX11_root_7 p1 n v2 v4 σ) v2 v4 σ
    else
      if 0 < (lg_cmp (x2 * x2) p1) then
        fX11_root_44 p1 (fun v2 v4 σ => fX11_root_7 p1 n v2 v4 σ) v2 v4 σ
      else
        fX11_root_45 p1 (fun v2 v4 σ => fX11_root_7 p1 n v2 v4 σ) v4 x2 σ
set_option maxHeartbeats 4000000 in
set_option maxRecDepth 100000 in
theorem pX11_root_7 {E : gE} {p1 : Int64} {r : Int64} {σ' : gS} : ∀ (n : Nat) (v2 : Int64) (v4 : Int64) (σ : gS), fX11_root_7 p1 n v2 v4 σ = some (r, σ') → gG E mX11_root 7 [(0, .long p1), (2, .long v2), (4, .long v4)] [] σ (some (.long r)) σ' := by
  intro n
  induction n with
  | zero => intro v2 v4 σ h; exact absurd (show none = some (r, σ') from h) (by intro q; cases q)
  | succ n ih =>
  intro v2 v4 σ h
  unfold fX11_root_7 at h
  refine g_lload dX11_root_7 2 rfl ?_
  refine g_lconst (v := 0) dX11_root_9 (by decide) ?_
  refine g_lcmp dX11_root_10 ?_
  refine g_if_le (t := 55) dX11_root_11 (by decide) (fun c1 => ?_) (fun c1 => ?_)
  · replace h := if_t h c1
    refine g_lload_n dX11_root_55 rfl 1 rfl ?_
    obtain ⟨rfl, rfl⟩ := so_inj h
    exact g_lret dX11_root_56 rfl
  · replace h := if_f h c1
    refine g_lload_n dX11_root_14 rfl 1 rfl ?_
    refine g_lload dX11_root_15 2 rfl ?_
    refine g_ladd dX11_root_17 ?_
    obtain ⟨x2, ex2, h⟩ := bnd_nm h
    refine g_topl ex2 ?_
    refine g_lstore (lv' := [(6, .long x2), (0, .long p1), (2, .long v2), (4, .long v4)]) dX11_root_18 (Nat.le_of_ble_eq_true rfl) rfl ?_
    refine g_lload dX11_root_20 0 rfl ?_
    refine g_ldc2 (v := 3037000499) dX11_root_22 wl_RX11_467 ?_
    refine g_lcmp dX11_root_25 ?_
    refine g_if_gt (t := 44) dX11_root_26 (by decide) (fun c3 => ?_) (fun c3 => ?_)
    · replace h := if_t h c3
      refine g_sub [1, 2, 3] rfl ?_
      exact pX11_root_44 (fun v2 v4 σ h => ih v2 v4 σ h) h
    · replace h := if_f h c3
      refine g_lload dX11_root_29 0 rfl ?_
      refine g_lload dX11_root_31 0 rfl ?_
      refine g_lmul dX11_root_33 ?_
      refine g_lload_n dX11_root_34 rfl 1 rfl ?_
      refine g_lcmp dX11_root_35 ?_
      refine g_if_gt (t := 44) dX11_root_36 (by decide) (fun c4 => ?_) (fun c4 => ?_)
      · replace h := if_t h c4
        refine g_sub [1, 2, 3] rfl ?_
        exact pX11_root_44 (fun v2 v4 σ h => ih v2 v4 σ h) h
      · replace h := if_f h c4
        refine g_lload dX11_root_39 0 rfl ?_
        refine g_goto (t := 45) dX11_root_41 (by decide) ?_
        refine g_sub [1, 3] rfl ?_
        exact pX11_root_45 (fun v2 v4 σ h => ih v2 v4 σ h) h
def fX11_root (p1 : Int64) (σ : gS) : Option (Int64 × gS) :=
  fX11_root_7 p1 2000 0 2147483648 σ
set_option maxHeartbeats 4000000 in
set_option maxRecDepth 100000 in
theorem pX11_root {E : gE} {p1 : Int64} {r : Int64} {σ' : gS} {σ : gS} (h : fX11_root p1 σ = some (r, σ')) : gG E mX11_root 0 [(0, .long p1)] [] σ (some (.long r)) σ' := by
  unfold fX11_root at h
  refine g_lconst (v := 0) dX11_root_0 (by decide) ?_
  refine g_lstore_n (lv' := [(2, .long 0), (0, .long p1)]) dX11_root_1 rfl (Nat.le_of_ble_eq_true rfl) rfl ?_
  refine g_ldc2 (v := 2147483648) dX11_root_2 wl_RX11_465 ?_
  refine g_lstore (lv' := [(4, .long 2147483648), (2, .long 0), (0, .long p1)]) dX11_root_5 (Nat.le_of_ble_eq_true rfl) rfl ?_
  refine g_sub [2, 1, 0] rfl ?_
  exact pX11_root_7 2000 0 2147483648 σ h
theorem zX11_root {E : gE} {p1 : Int64} {r : Int64} {σ σ' : gS} (h : fX11_root p1 σ = some (r, σ')) : gC E mX11_root [.long p1] σ (some (.long r)) σ' :=
  gC_of (by decide +kernel) rfl (Nat.le_of_ble_eq_true rfl) (pX11_root h)
def mX11_square : gM := (yX11_square, cX11_square, RX11, 4, (some .long), 0, 0)
theorem dX11_square_0 : decode mX11_square.2.1 0 = .ok (.lload_n 0, 1) := by decide +kernel
theorem dX11_square_1 : decode mX11_square.2.1 1 = .ok (.lload_n 0, 1) := by decide +kernel
theorem dX11_square_2 : decode mX11_square.2.1 2 = .ok (.lmul, 1) := by decide +kernel
theorem dX11_square_3 : decode mX11_square.2.1 3 = .ok (.lload_n 2, 1) := by decide +kernel
theorem dX11_square_4 : decode mX11_square.2.1 4 = .ok (.lload_n 2, 1) := by decide +kernel
theorem dX11_square_5 : decode mX11_square.2.1 5 = .ok (.lmul, 1) := by decide +kernel
theorem dX11_square_6 : decode mX11_square.2.1 6 = .ok (.ladd, 1) := by decide +kernel
theorem dX11_square_7 : decode mX11_square.2.1 7 = .ok (.lreturn, 1) := by decide +kernel
def fX11_square (p1 : Int64) (p2 : Int64) (σ : gS) : Option (Int64 × gS) :=
  some ((p1 * p1) + (p2 * p2), σ)
set_option maxHeartbeats 4000000 in
set_option maxRecDepth 100000 in
theorem pX11_square {E : gE} {p1 : Int64} {p2 : Int64} {r : Int64} {σ' : gS} {σ : gS} (h : fX11_square p1 p2 σ = some (r, σ')) : gG E mX11_square 0 [(0, .long p1), (2, .long p2)] [] σ (some (.long r)) σ' := by
  unfold fX11_square at h
  refine g_lload_n dX11_square_0 rfl 0 rfl ?_
  refine g_lload_n dX11_square_1 rfl 0 rfl ?_
  refine g_lmul dX11_square_2 ?_
  refine g_lload_n dX11_square_3 rfl 1 rfl ?_
  refine g_lload_n dX11_square_4 rfl 1 rfl ?_
  refine g_lmul dX11_square_5 ?_
  refine g_ladd dX11_square_6 ?_
  obtain ⟨rfl, rfl⟩ := so_inj h
  exact g_lret dX11_square_7 rfl
theorem zX11_square {E : gE} {p1 : Int64} {p2 : Int64} {r : Int64} {σ σ' : gS} (h : fX11_square p1 p2 σ = some (r, σ')) : gC E mX11_square [.long p1, .long p2] σ (some (.long r)) σ' :=
  gC_of (by decide +kernel) rfl (Nat.le_of_ble_eq_true rfl) (pX11_square h)

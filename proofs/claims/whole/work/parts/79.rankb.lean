/-! the reference's rank with room for its longest loop -/
def fX11_findRankB_7 : Nat → Int32 → gS → Option (Unit × gS)
  | 0, _, _ => none
  | n + 1, v1, σ => if (σ.1 168 0) ≤ v1 then
    fX11_findRank_56 4000 0 σ
  else
    gg (¬ (v1 < 0 ∨ 24 ≤ v1.toNatClampNeg)) (
    bnd (gsI σ 206 v1.toNatClampNeg (σ.1 168 63)) fun σ3 =>
    gg (¬ (v1 < 0 ∨ 24 ≤ v1.toNatClampNeg)) (
    if (σ3.1 172 v1.toNatClampNeg) = 0 then
      fX11_findRank_44 (fun v1 σ => fX11_findRankB_7 n v1 σ) v1 (σ3.1 168 63) 2 σ3
    else
      fX11_findRank_44 (fun v1 σ => fX11_findRankB_7 n v1 σ) v1 (σ3.1 168 63) 0 σ3))
set_option maxHeartbeats 4000000 in
set_option maxRecDepth 100000 in
theorem pX11_findRankB_7 {E : gE} {r : Unit} {σ' : gS} : ∀ (n : Nat) (v1 : Int32) (σ : gS), fX11_findRankB_7 n v1 σ = some (r, σ') → gG E mX11_findRank 7 [(0, .ref 168), (1, .int v1)] [] σ (none) σ' := by
  intro n
  induction n with
  | zero => intro v1 σ h; exact absurd (show none = some (r, σ') from h) (by intro q; cases q)
  | succ n ih =>
  intro v1 σ h
  unfold fX11_findRankB_7 at h
  refine g_iload_n dX11_findRank_7 rfl 1 rfl ?_
  refine g_aload_n dX11_findRank_8 rfl 0 rfl ?_
  refine g_getI dX11_findRank_9 gi_168 rfl fl_RX11_374 ?_
  refine g_icmp_ge (t := 54) dX11_findRank_12 (by decide) (fun c1 => ?_) (fun c1 => ?_)
  · replace h := if_t h c1
    refine g_iconst (v := 0) dX11_findRank_54 (by decide) ?_
    refine g_istore_n (lv' := [(1, .int 0), (0, .ref 168)]) dX11_findRank_55 rfl (Nat.le_of_ble_eq_true rfl) rfl ?_
    refine g_sub [1, 0] rfl ?_
    exact pX11_findRank_56 4000 0 σ h
  · replace h := if_f h c1
    refine g_aload_n dX11_findRank_15 rfl 0 rfl ?_
    refine g_getC (n := 206) dX11_findRank_16 gi_168 rfl fl_RX11_134 ?_
    refine g_iload_n dX11_findRank_19 rfl 1 rfl ?_
    refine g_aload_n dX11_findRank_20 rfl 0 rfl ?_
    refine g_getI dX11_findRank_21 gi_168 rfl fl_RX11_431 ?_
    obtain ⟨g2, h⟩ := gg_some h
    obtain ⟨σ3, eσ3, h⟩ := bnd_nm h
    refine g_iast dX11_findRank_24 gi_206 g2 (g_st eσ3 ?_)
    refine g_aload_n dX11_findRank_25 rfl 0 rfl ?_
    refine g_dup dX11_findRank_26 rfl ?_
    refine g_getI dX11_findRank_27 gi_168 rfl fl_RX11_431 ?_
    refine g_aload_n dX11_findRank_30 rfl 0 rfl ?_
    refine g_getC (n := 172) dX11_findRank_31 gi_168 rfl fl_RX11_20 ?_
    refine g_iload_n dX11_findRank_34 rfl 1 rfl ?_
    obtain ⟨g4, h⟩ := gg_some h
    refine g_zald dX11_findRank_35 gi_172 g4 ?_
    refine g_if_eq (t := 43) dX11_findRank_36 (by decide) (fun c5 => ?_) (fun c5 => ?_)
    · replace h := if_t h c5
      refine g_iconst (v := 2) dX11_findRank_43 (by decide) ?_
      exact pX11_findRank_44 (fun v1 σ h => ih v1 σ h) h
    · replace h := if_f h c5
      refine g_iconst (v := 0) dX11_findRank_39 (by decide) ?_
      refine g_goto (t := 44) dX11_findRank_40 (by decide) ?_
      exact pX11_findRank_44 (fun v1 σ h => ih v1 σ h) h
def fX11_findRankB (σ : gS) : Option (Unit × gS) :=
  bnd (gsI σ 168 63 0) fun σ1 =>
  fX11_findRankB_7 2000 0 σ1
set_option maxHeartbeats 4000000 in
set_option maxRecDepth 100000 in
theorem pX11_findRankB {E : gE} {r : Unit} {σ' : gS} {σ : gS} (h : fX11_findRankB σ = some (r, σ')) : gG E mX11_findRank 0 [(0, .ref 168)] [] σ (none) σ' := by
  unfold fX11_findRankB at h
  refine g_aload_n dX11_findRank_0 rfl 0 rfl ?_
  refine g_iconst (v := 0) dX11_findRank_1 (by decide) ?_
  obtain ⟨σ1, eσ1, h⟩ := bnd_nm h
  refine g_putI dX11_findRank_2 gi_168 rfl fp_RX11_431 (g_st eσ1 ?_)
  refine g_iconst (v := 0) dX11_findRank_5 (by decide) ?_
  refine g_istore_n (lv' := [(1, .int 0), (0, .ref 168)]) dX11_findRank_6 rfl (Nat.le_of_ble_eq_true rfl) rfl ?_
  refine g_sub [1, 0] rfl ?_
  exact pX11_findRankB_7 2000 0 σ1 h
theorem zX11_findRankB {E : gE} {r : Unit} {σ σ' : gS} (h : fX11_findRankB σ = some (r, σ')) : gC E mX11_findRank [.ref 168] σ (none) σ' :=
  gC_of (by decide +kernel) rfl (Nat.le_of_ble_eq_true rfl) (pX11_findRankB h)
def fX11_rankB (p1 : Int32) (σ : gS) : Option (Int32 × gS) :=
  bd (fX11_in p1.toInt64 0 2 σ) fun x1 σ2 =>
  if x1 = 0 then
    some ((-1000001), σ2)
  else
    bd (fX11_findRankB σ2) fun _ σ5 =>
    if p1 = 0 then
      fX11_rank_56 p1 (σ5.1 168 67) σ5
    else
      if p1 = 1 then
        fX11_rank_56 p1 ((σ5.1 168 63) - (σ5.1 168 67)) σ5
      else
        fX11_rank_56 p1 ((σ5.1 168 9) - (σ5.1 168 67)) σ5
set_option maxHeartbeats 4000000 in
set_option maxRecDepth 100000 in
theorem pX11_rankB {E : gE} {p1 : Int32} {r : Int32} {σ' : gS} {σ : gS} (h : fX11_rankB p1 σ = some (r, σ')) : gG E mX11_rank 0 [(0, .ref 168), (1, .int p1)] [] σ (some (.int r)) σ' := by
  unfold fX11_rankB at h
  refine g_iload_n dX11_rank_0 rfl 1 rfl ?_
  refine g_i2l dX11_rank_1 ?_
  refine g_lconst (v := 0) dX11_rank_2 (by decide) ?_
  refine g_ldc2 (v := 2) dX11_rank_3 wl_RX11_448 ?_
  obtain ⟨x1, σ2, y3, h⟩ := bd_some h
  refine g_callSr (as := [.long p1.toInt64, .long 0, .long 2]) (st := []) (zX11_in y3) dX11_rank_6 okX11_rank_220 (Nat.le_of_ble_eq_true rfl) ?_
  refine g_if_ne (t := 15) dX11_rank_9 (by decide) (fun c4 => ?_) (fun c4 => ?_)
  · replace h := if_f h c4
    refine g_aload_n dX11_rank_15 rfl 0 rfl ?_
    obtain ⟨_, σ5, y6, h⟩ := bd_some h
    refine g_callVv (as := []) (st := []) (zX11_findRankB y6) dX11_rank_16 gi_168 rfl okX11_rank_450 (Nat.le_of_ble_eq_true rfl) ?_
    refine g_iload_n dX11_rank_19 rfl 1 rfl ?_
    refine g_if_ne (t := 30) dX11_rank_20 (by decide) (fun c7 => ?_) (fun c7 => ?_)
    · replace h := if_f h c7
      refine g_iload_n dX11_rank_30 rfl 1 rfl ?_
      refine g_iconst (v := 1) dX11_rank_31 (by decide) ?_
      refine g_icmp_ne (t := 47) dX11_rank_32 (by decide) (fun c8 => ?_) (fun c8 => ?_)
      · replace h := if_f h c8
        refine g_aload_n dX11_rank_47 rfl 0 rfl ?_
        refine g_getI dX11_rank_48 gi_168 rfl fl_RX11_380 ?_
        refine g_aload_n dX11_rank_51 rfl 0 rfl ?_
        refine g_getI dX11_rank_52 gi_168 rfl fl_RX11_438 ?_
        refine g_isub dX11_rank_55 ?_
        refine g_sub [] rfl ?_
        exact pX11_rank_56 h
      · replace h := if_t h c8
        refine g_aload_n dX11_rank_35 rfl 0 rfl ?_
        refine g_getI dX11_rank_36 gi_168 rfl fl_RX11_431 ?_
        refine g_aload_n dX11_rank_39 rfl 0 rfl ?_
        refine g_getI dX11_rank_40 gi_168 rfl fl_RX11_438 ?_
        refine g_isub dX11_rank_43 ?_
        refine g_goto (t := 56) dX11_rank_44 (by decide) ?_
        refine g_sub [] rfl ?_
        exact pX11_rank_56 h
    · replace h := if_t h c7
      refine g_aload_n dX11_rank_23 rfl 0 rfl ?_
      refine g_getI dX11_rank_24 gi_168 rfl fl_RX11_438 ?_
      refine g_goto (t := 56) dX11_rank_27 (by decide) ?_
      refine g_sub [] rfl ?_
      exact pX11_rank_56 h
  · replace h := if_t h c4
    refine g_ldc (v := (-1000001)) dX11_rank_12 wc_RX11_224 ?_
    obtain ⟨rfl, rfl⟩ := so_inj h
    exact g_iret dX11_rank_14 rfl
theorem zX11_rankB {E : gE} {p1 : Int32} {r : Int32} {σ σ' : gS} (h : fX11_rankB p1 σ = some (r, σ')) : gC E mX11_rank [.ref 168, .int p1] σ (some (.int r)) σ' :=
  gC_of (by decide +kernel) rfl (Nat.le_of_ble_eq_true rfl) (pX11_rankB h)
def fX11_motionB (p1 : Int32) (p2 : Int32) (p3 : Int32) (σ : gS) : Option (Int32 × gS) :=
  bd (fX11_findRankB σ) fun _ σ1 =>
  bd (fX11_in p1.toInt64 0 ((((σ1.1 168 63) - (σ1.1 168 67)) - 1).toInt64) σ1) fun x3 σ4 =>
  if x3 = 0 then
    fX11_motion_43 p1 p2 p3 σ4
  else
    bd (fX11_isJoint p2 σ4) fun x7 σ8 =>
    if x7 = 0 then
      fX11_motion_43 p1 p2 p3 σ8
    else
      bd (fX11_in p3.toInt64 0 1 σ8) fun x11 σ12 =>
      if x11 = 0 then
        fX11_motion_43 p1 p2 p3 σ12
      else
        gg (¬ (p2 < 0 ∨ 24 ≤ p2.toNatClampNeg)) (
        if (σ12.1 172 p2.toNatClampNeg) = 0 then
          fX11_motion_63 p1 p2 p3 2000 (-1) (-1) σ12
        else
          some (0, σ12))
set_option maxHeartbeats 4000000 in
set_option maxRecDepth 100000 in
theorem pX11_motionB {E : gE} {p1 : Int32} {p2 : Int32} {p3 : Int32} {r : Int32} {σ' : gS} {σ : gS} (h : fX11_motionB p1 p2 p3 σ = some (r, σ')) : gG E mX11_motion 0 [(0, .ref 168), (1, .int p1), (2, .int p2), (3, .int p3)] [] σ (some (.int r)) σ' := by
  unfold fX11_motionB at h
  refine g_aload_n dX11_motion_0 rfl 0 rfl ?_
  obtain ⟨_, σ1, y2, h⟩ := bd_some h
  refine g_callVv (as := []) (st := []) (zX11_findRankB y2) dX11_motion_1 gi_168 rfl okX11_motion_450 (Nat.le_of_ble_eq_true rfl) ?_
  refine g_iload_n dX11_motion_4 rfl 1 rfl ?_
  refine g_i2l dX11_motion_5 ?_
  refine g_lconst (v := 0) dX11_motion_6 (by decide) ?_
  refine g_aload_n dX11_motion_7 rfl 0 rfl ?_
  refine g_getI dX11_motion_8 gi_168 rfl fl_RX11_431 ?_
  refine g_aload_n dX11_motion_11 rfl 0 rfl ?_
  refine g_getI dX11_motion_12 gi_168 rfl fl_RX11_438 ?_
  refine g_isub dX11_motion_15 ?_
  refine g_iconst (v := 1) dX11_motion_16 (by decide) ?_
  refine g_isub dX11_motion_17 ?_
  refine g_i2l dX11_motion_18 ?_
  obtain ⟨x3, σ4, y5, h⟩ := bd_some h
  refine g_callSr (as := [.long p1.toInt64, .long 0, .long ((((σ1.1 168 63) - (σ1.1 168 67)) - 1).toInt64)]) (st := []) (zX11_in y5) dX11_motion_19 okX11_motion_220 (Nat.le_of_ble_eq_true rfl) ?_
  refine g_if_eq (t := 43) dX11_motion_22 (by decide) (fun c6 => ?_) (fun c6 => ?_)
  · replace h := if_t h c6
    refine g_sub [] rfl ?_
    exact pX11_motion_43 h
  · replace h := if_f h c6
    refine g_aload_n dX11_motion_25 rfl 0 rfl ?_
    refine g_iload_n dX11_motion_26 rfl 2 rfl ?_
    obtain ⟨x7, σ8, y9, h⟩ := bd_some h
    refine g_callVr (as := [.int p2]) (st := []) (zX11_isJoint y9) dX11_motion_27 gi_168 rfl okX11_motion_420 (Nat.le_of_ble_eq_true rfl) ?_
    refine g_if_eq (t := 43) dX11_motion_30 (by decide) (fun c10 => ?_) (fun c10 => ?_)
    · replace h := if_t h c10
      refine g_sub [] rfl ?_
      exact pX11_motion_43 h
    · replace h := if_f h c10
      refine g_iload_n dX11_motion_33 rfl 3 rfl ?_
      refine g_i2l dX11_motion_34 ?_
      refine g_lconst (v := 0) dX11_motion_35 (by decide) ?_
      refine g_lconst (v := 1) dX11_motion_36 (by decide) ?_
      obtain ⟨x11, σ12, y13, h⟩ := bd_some h
      refine g_callSr (as := [.long p3.toInt64, .long 0, .long 1]) (st := []) (zX11_in y13) dX11_motion_37 okX11_motion_220 (Nat.le_of_ble_eq_true rfl) ?_
      refine g_if_ne (t := 46) dX11_motion_40 (by decide) (fun c14 => ?_) (fun c14 => ?_)
      · replace h := if_f h c14
        refine g_aload_n dX11_motion_46 rfl 0 rfl ?_
        refine g_getC (n := 172) dX11_motion_47 gi_168 rfl fl_RX11_20 ?_
        refine g_iload_n dX11_motion_50 rfl 2 rfl ?_
        obtain ⟨g15, h⟩ := gg_some h
        refine g_zald dX11_motion_51 gi_172 g15 ?_
        refine g_if_eq (t := 57) dX11_motion_52 (by decide) (fun c16 => ?_) (fun c16 => ?_)
        · replace h := if_t h c16
          refine g_iconst (v := (-1)) dX11_motion_57 (by decide) ?_
          refine g_istore (lv' := [(4, .int (-1)), (0, .ref 168), (1, .int p1), (2, .int p2), (3, .int p3)]) dX11_motion_58 (Nat.le_of_ble_eq_true rfl) rfl ?_
          refine g_iconst (v := (-1)) dX11_motion_60 (by decide) ?_
          refine g_istore (lv' := [(5, .int (-1)), (4, .int (-1)), (0, .ref 168), (1, .int p1), (2, .int p2), (3, .int p3)]) dX11_motion_61 (Nat.le_of_ble_eq_true rfl) rfl ?_
          refine g_sub [2, 3, 4, 5, 1, 0] rfl ?_
          exact pX11_motion_63 2000 (-1) (-1) σ12 h
        · replace h := if_f h c16
          refine g_iconst (v := 0) dX11_motion_55 (by decide) ?_
          obtain ⟨rfl, rfl⟩ := so_inj h
          exact g_iret dX11_motion_56 rfl
      · replace h := if_t h c14
        refine g_sub [] rfl ?_
        exact pX11_motion_43 h
theorem zX11_motionB {E : gE} {p1 : Int32} {p2 : Int32} {p3 : Int32} {r : Int32} {σ σ' : gS} (h : fX11_motionB p1 p2 p3 σ = some (r, σ')) : gC E mX11_motion [.ref 168, .int p1, .int p2, .int p3] σ (some (.int r)) σ' :=
  gC_of (by decide +kernel) rfl (Nat.le_of_ble_eq_true rfl) (pX11_motionB h)

theorem fl_RX6_156 : gFl RX6 156 3 8 := ⟨RX3, TX3, 10, rfl, by decide, ux_3, Or.inr ⟨"LinkageCurves", by decide +kernel⟩⟩
theorem fp_RX6_156 : gFp RX6 156 3 8 .int := ⟨RX3, TX3, 10, rfl, by decide, ux_3, Or.inr ⟨"LinkageCurves", by decide +kernel⟩, rfl, by decide +kernel, ⟨tyX3, tyX3_ok⟩, nmX3⟩
theorem fp_RX6_159 : gFp RX6 159 3 9 .int := ⟨RX3, TX3, 10, rfl, by decide, ux_3, Or.inr ⟨"LinkageCurves", by decide +kernel⟩, rfl, by decide +kernel, ⟨tyX3, tyX3_ok⟩, nmX3⟩
def mX6_drive : gM := (yX6_drive, cX6_drive, RX6, 3, none, 4, 85)
theorem dX6_drive_0 : decode mX6_drive.2.1 0 = .ok (.aload_n 0, 1) := by decide +kernel
theorem dX6_drive_1 : decode mX6_drive.2.1 1 = .ok (.iconst 0, 1) := by decide +kernel
theorem dX6_drive_2 : decode mX6_drive.2.1 2 = .ok (.invokevirtual 127, 3) := by decide +kernel
theorem dX6_drive_5 : decode mX6_drive.2.1 5 = .ok (.istore_n 1, 1) := by decide +kernel
theorem dX6_drive_6 : decode mX6_drive.2.1 6 = .ok (.aload_n 0, 1) := by decide +kernel
theorem dX6_drive_7 : decode mX6_drive.2.1 7 = .ok (.bipush 11, 2) := by decide +kernel
theorem dX6_drive_9 : decode mX6_drive.2.1 9 = .ok (.invokevirtual 147, 3) := by decide +kernel
theorem dX6_drive_12 : decode mX6_drive.2.1 12 = .ok (.aload_n 0, 1) := by decide +kernel
theorem dX6_drive_13 : decode mX6_drive.2.1 13 = .ok (.iconst 0, 1) := by decide +kernel
theorem dX6_drive_14 : decode mX6_drive.2.1 14 = .ok (.invokevirtual 127, 3) := by decide +kernel
theorem dX6_drive_17 : decode mX6_drive.2.1 17 = .ok (.istore_n 2, 1) := by decide +kernel
theorem dX6_drive_18 : decode mX6_drive.2.1 18 = .ok (.aload_n 0, 1) := by decide +kernel
theorem dX6_drive_19 : decode mX6_drive.2.1 19 = .ok (.getfield 56, 3) := by decide +kernel
theorem dX6_drive_22 : decode mX6_drive.2.1 22 = .ok (.ifCond .eq 4, 3) := by decide +kernel
theorem dX6_drive_25 : decode mX6_drive.2.1 25 = .ok (.return_, 1) := by decide +kernel
theorem dX6_drive_26 : decode mX6_drive.2.1 26 = .ok (.aload_n 0, 1) := by decide +kernel
theorem dX6_drive_27 : decode mX6_drive.2.1 27 = .ok (.getfield 22, 3) := by decide +kernel
theorem dX6_drive_30 : decode mX6_drive.2.1 30 = .ok (.iload_n 2, 1) := by decide +kernel
theorem dX6_drive_31 : decode mX6_drive.2.1 31 = .ok (.invokevirtual 153, 3) := by decide +kernel
theorem dX6_drive_34 : decode mX6_drive.2.1 34 = .ok (.ifCond .eq 38, 3) := by decide +kernel
theorem dX6_drive_37 : decode mX6_drive.2.1 37 = .ok (.aload_n 0, 1) := by decide +kernel
theorem dX6_drive_38 : decode mX6_drive.2.1 38 = .ok (.getfield 22, 3) := by decide +kernel
theorem dX6_drive_41 : decode mX6_drive.2.1 41 = .ok (.iload_n 1, 1) := by decide +kernel
theorem dX6_drive_42 : decode mX6_drive.2.1 42 = .ok (.invokevirtual 153, 3) := by decide +kernel
theorem dX6_drive_45 : decode mX6_drive.2.1 45 = .ok (.ifCond .ne 27, 3) := by decide +kernel
theorem dX6_drive_48 : decode mX6_drive.2.1 48 = .ok (.aload_n 0, 1) := by decide +kernel
theorem dX6_drive_49 : decode mX6_drive.2.1 49 = .ok (.getfield 22, 3) := by decide +kernel
theorem dX6_drive_52 : decode mX6_drive.2.1 52 = .ok (.iload_n 1, 1) := by decide +kernel
theorem dX6_drive_53 : decode mX6_drive.2.1 53 = .ok (.iload_n 2, 1) := by decide +kernel
theorem dX6_drive_54 : decode mX6_drive.2.1 54 = .ok (.invokevirtual 143, 3) := by decide +kernel
theorem dX6_drive_57 : decode mX6_drive.2.1 57 = .ok (.ifCond .eq 15, 3) := by decide +kernel
theorem dX6_drive_60 : decode mX6_drive.2.1 60 = .ok (.aload_n 0, 1) := by decide +kernel
theorem dX6_drive_61 : decode mX6_drive.2.1 61 = .ok (.getfield 22, 3) := by decide +kernel
theorem dX6_drive_64 : decode mX6_drive.2.1 64 = .ok (.getfield 156, 3) := by decide +kernel
theorem dX6_drive_67 : decode mX6_drive.2.1 67 = .ok (.ldc 26, 2) := by decide +kernel
theorem dX6_drive_69 : decode mX6_drive.2.1 69 = .ok (.if_icmp .eq 10, 3) := by decide +kernel
theorem dX6_drive_72 : decode mX6_drive.2.1 72 = .ok (.aload_n 0, 1) := by decide +kernel
theorem dX6_drive_73 : decode mX6_drive.2.1 73 = .ok (.bipush 8, 2) := by decide +kernel
theorem dX6_drive_75 : decode mX6_drive.2.1 75 = .ok (.invokevirtual 87, 3) := by decide +kernel
theorem dX6_drive_78 : decode mX6_drive.2.1 78 = .ok (.return_, 1) := by decide +kernel
theorem dX6_drive_79 : decode mX6_drive.2.1 79 = .ok (.aload_n 0, 1) := by decide +kernel
theorem dX6_drive_80 : decode mX6_drive.2.1 80 = .ok (.getfield 22, 3) := by decide +kernel
theorem dX6_drive_83 : decode mX6_drive.2.1 83 = .ok (.iload_n 1, 1) := by decide +kernel
theorem dX6_drive_84 : decode mX6_drive.2.1 84 = .ok (.putfield 156, 3) := by decide +kernel
theorem dX6_drive_87 : decode mX6_drive.2.1 87 = .ok (.aload_n 0, 1) := by decide +kernel
theorem dX6_drive_88 : decode mX6_drive.2.1 88 = .ok (.getfield 22, 3) := by decide +kernel
theorem dX6_drive_91 : decode mX6_drive.2.1 91 = .ok (.iload_n 2, 1) := by decide +kernel
theorem dX6_drive_92 : decode mX6_drive.2.1 92 = .ok (.putfield 159, 3) := by decide +kernel
theorem dX6_drive_95 : decode mX6_drive.2.1 95 = .ok (.aload_n 0, 1) := by decide +kernel
theorem dX6_drive_96 : decode mX6_drive.2.1 96 = .ok (.invokevirtual 120, 3) := by decide +kernel
theorem dX6_drive_99 : decode mX6_drive.2.1 99 = .ok (.return_, 1) := by decide +kernel
theorem okX6_drive_87 : gOkV mX6_drive mX6_fail 87 1 := ⟨List.forall_mem_cons.mpr ⟨(gm 619 (by decide +kernel) rfl), List.forall_mem_cons.mpr ⟨(gm 616 (by decide +kernel) rfl), List.forall_mem_cons.mpr ⟨(gm 618 (by decide +kernel) rfl), List.forall_mem_cons.mpr ⟨(gm 7 (by decide +kernel) rfl), List.forall_mem_cons.mpr ⟨(gm 108 (by decide +kernel) rfl), fun _ h => absurd h List.not_mem_nil⟩⟩⟩⟩⟩, by decide +kernel, by decide +kernel, by decide +kernel⟩
theorem okX6_drive_127 : gOkV mX6_drive mX6_knownName 127 1 := ⟨List.forall_mem_cons.mpr ⟨(gm 660 (by decide +kernel) rfl), List.forall_mem_cons.mpr ⟨(gm 657 (by decide +kernel) rfl), List.forall_mem_cons.mpr ⟨(gm 659 (by decide +kernel) rfl), List.forall_mem_cons.mpr ⟨(gm 13 (by decide +kernel) rfl), List.forall_mem_cons.mpr ⟨(gm 108 (by decide +kernel) rfl), fun _ h => absurd h List.not_mem_nil⟩⟩⟩⟩⟩, by decide +kernel, by decide +kernel, by decide +kernel⟩
theorem okX6_drive_147 : gOkV mX6_drive mX6_expectWord 147 1 := ⟨List.forall_mem_cons.mpr ⟨(gm 708 (by decide +kernel) rfl), List.forall_mem_cons.mpr ⟨(gm 705 (by decide +kernel) rfl), List.forall_mem_cons.mpr ⟨(gm 707 (by decide +kernel) rfl), List.forall_mem_cons.mpr ⟨(gm 18 (by decide +kernel) rfl), List.forall_mem_cons.mpr ⟨(gm 108 (by decide +kernel) rfl), fun _ h => absurd h List.not_mem_nil⟩⟩⟩⟩⟩, by decide +kernel, by decide +kernel, by decide +kernel⟩
theorem okX6_drive_153 : gOkV mX6_drive mX3_isGround 153 1 := ⟨List.forall_mem_cons.mpr ⟨(gm 721 (by decide +kernel) rfl), List.forall_mem_cons.mpr ⟨(gm 718 (by decide +kernel) rfl), List.forall_mem_cons.mpr ⟨(gm 719 (by decide +kernel) rfl), List.forall_mem_cons.mpr ⟨(gm 720 (by decide +kernel) rfl), List.forall_mem_cons.mpr ⟨(gm 109 (by decide +kernel) rfl), fun _ h => absurd h List.not_mem_nil⟩⟩⟩⟩⟩, by decide +kernel, by decide +kernel, by decide +kernel⟩
theorem okX6_drive_143 : gOkV mX6_drive mX3_hasBar 143 2 := ⟨List.forall_mem_cons.mpr ⟨(gm 692 (by decide +kernel) rfl), List.forall_mem_cons.mpr ⟨(gm 689 (by decide +kernel) rfl), List.forall_mem_cons.mpr ⟨(gm 690 (by decide +kernel) rfl), List.forall_mem_cons.mpr ⟨(gm 691 (by decide +kernel) rfl), List.forall_mem_cons.mpr ⟨(gm 109 (by decide +kernel) rfl), fun _ h => absurd h List.not_mem_nil⟩⟩⟩⟩⟩, by decide +kernel, by decide +kernel, by decide +kernel⟩
theorem okX6_drive_120 : gOkV mX6_drive mX6_expectSign 120 0 := ⟨List.forall_mem_cons.mpr ⟨(gm 645 (by decide +kernel) rfl), List.forall_mem_cons.mpr ⟨(gm 642 (by decide +kernel) rfl), List.forall_mem_cons.mpr ⟨(gm 644 (by decide +kernel) rfl), List.forall_mem_cons.mpr ⟨(gm 11 (by decide +kernel) rfl), List.forall_mem_cons.mpr ⟨(gm 108 (by decide +kernel) rfl), fun _ h => absurd h List.not_mem_nil⟩⟩⟩⟩⟩, by decide +kernel, by decide +kernel, by decide +kernel⟩
def fX6_drive_72 (σ : gS) : Option (Unit × gS) :=
  bd (fX6_fail 8 σ) fun _ σ1 =>
  some ((), σ1)
set_option maxHeartbeats 4000000 in
set_option maxRecDepth 100000 in
theorem pX6_drive_72 {E : gE} {r : Unit} {σ' : gS} {σ : gS} (h : fX6_drive_72 σ = some (r, σ')) : gG E mX6_drive 72 [(0, .ref 1)] [] σ (none) σ' := by
  unfold fX6_drive_72 at h
  refine g_aload_n dX6_drive_72 rfl 0 rfl ?_
  refine g_bipush (v := 8) dX6_drive_73 (by decide) ?_
  obtain ⟨_, σ1, y2, h⟩ := bd_some h
  refine g_callVv (as := [.int 8]) (st := []) (zX6_fail y2) dX6_drive_75 gi_1 rfl okX6_drive_87 (Nat.le_of_ble_eq_true rfl) ?_
  obtain ⟨rfl, rfl⟩ := so_inj h
  exact g_vret dX6_drive_78 rfl
def fX6_drive (σ : gS) : Option (Unit × gS) :=
  bd (fX6_knownName 0 σ) fun x1 σ2 =>
  bd (fX6_expectWord 11 σ2) fun _ σ4 =>
  bd (fX6_knownName 0 σ4) fun x6 σ7 =>
  if (σ7.1 1 8) = 0 then
    bnd (σ7.2.2 1 3) fun x10 =>
    gg (x10 = 4 ∨ x10 = 16) (
    bd (fX3_isGround x10 x6 σ7) fun x12 σ13 =>
    if x12 = 0 then
      fX6_drive_72 σ13
    else
      bnd (σ13.2.2 1 3) fun x16 =>
      gg (x16 = 4 ∨ x16 = 16) (
      bd (fX3_isGround x16 x1 σ13) fun x18 σ19 =>
      if x18 = 0 then
        bnd (σ19.2.2 1 3) fun x22 =>
        gg (x22 = 4 ∨ x22 = 16) (
        bd (fX3_hasBar x22 x1 x6 σ19) fun x24 σ25 =>
        if x24 = 0 then
          fX6_drive_72 σ25
        else
          bnd (σ25.2.2 1 3) fun x28 =>
          gg (x28 = 4 ∨ x28 = 16) (
          if (σ25.1 x28 8) = (-1000000) then
            bnd (σ25.2.2 1 3) fun x31 =>
            gg (x31 = 4 ∨ x31 = 16) (
            bnd (gsI σ25 x31 8 x1) fun σ33 =>
            bnd (σ33.2.2 1 3) fun x34 =>
            gg (x34 = 4 ∨ x34 = 16) (
            bnd (gsI σ33 x34 9 x6) fun σ36 =>
            bd (fX6_expectSign σ36) fun _ σ37 =>
            some ((), σ37)))
          else
            fX6_drive_72 σ25))
      else
        fX6_drive_72 σ19))
  else
    some ((), σ7)
set_option maxHeartbeats 4000000 in
set_option maxRecDepth 100000 in
theorem pX6_drive {E : gE} {r : Unit} {σ' : gS} {σ : gS} (h : fX6_drive σ = some (r, σ')) : gG E mX6_drive 0 [(0, .ref 1)] [] σ (none) σ' := by
  unfold fX6_drive at h
  refine g_aload_n dX6_drive_0 rfl 0 rfl ?_
  refine g_iconst (v := 0) dX6_drive_1 (by decide) ?_
  obtain ⟨x1, σ2, y3, h⟩ := bd_some h
  refine g_callVr (as := [.int 0]) (st := []) (zX6_knownName y3) dX6_drive_2 gi_1 rfl okX6_drive_127 (Nat.le_of_ble_eq_true rfl) ?_
  refine g_istore_n (lv' := [(1, .int x1), (0, .ref 1)]) dX6_drive_5 rfl (Nat.le_of_ble_eq_true rfl) rfl ?_
  refine g_aload_n dX6_drive_6 rfl 1 rfl ?_
  refine g_bipush (v := 11) dX6_drive_7 (by decide) ?_
  obtain ⟨_, σ4, y5, h⟩ := bd_some h
  refine g_callVv (as := [.int 11]) (st := []) (zX6_expectWord y5) dX6_drive_9 gi_1 rfl okX6_drive_147 (Nat.le_of_ble_eq_true rfl) ?_
  refine g_aload_n dX6_drive_12 rfl 1 rfl ?_
  refine g_iconst (v := 0) dX6_drive_13 (by decide) ?_
  obtain ⟨x6, σ7, y8, h⟩ := bd_some h
  refine g_callVr (as := [.int 0]) (st := []) (zX6_knownName y8) dX6_drive_14 gi_1 rfl okX6_drive_127 (Nat.le_of_ble_eq_true rfl) ?_
  refine g_istore_n (lv' := [(2, .int x6), (1, .int x1), (0, .ref 1)]) dX6_drive_17 rfl (Nat.le_of_ble_eq_true rfl) rfl ?_
  refine g_aload_n dX6_drive_18 rfl 2 rfl ?_
  refine g_getI dX6_drive_19 gi_1 rfl fl_RX6_56 ?_
  refine g_if_eq (t := 26) dX6_drive_22 (by decide) (fun c9 => ?_) (fun c9 => ?_)
  · replace h := if_t h c9
    refine g_aload_n dX6_drive_26 rfl 2 rfl ?_
    refine g_getR dX6_drive_27 gi_1 rfl fl_RX6_22 ?_
    obtain ⟨x10, ex10, h⟩ := bnd_nm h
    refine g_topr ex10 ?_
    obtain ⟨g11, h⟩ := gg_some h
    refine g_iload_n dX6_drive_30 rfl 0 rfl ?_
    obtain ⟨x12, σ13, y14, h⟩ := bd_some h
    refine g_callVr (as := [.int x6]) (st := []) (zX3_isGround g11 y14) dX6_drive_31 (gi_lk g11) rfl okX6_drive_153 (Nat.le_of_ble_eq_true rfl) ?_
    refine g_if_eq (t := 72) dX6_drive_34 (by decide) (fun c15 => ?_) (fun c15 => ?_)
    · replace h := if_t h c15
      refine g_sub [2] rfl ?_
      exact pX6_drive_72 h
    · replace h := if_f h c15
      refine g_aload_n dX6_drive_37 rfl 2 rfl ?_
      refine g_getR dX6_drive_38 gi_1 rfl fl_RX6_22 ?_
      obtain ⟨x16, ex16, h⟩ := bnd_nm h
      refine g_topr ex16 ?_
      obtain ⟨g17, h⟩ := gg_some h
      refine g_iload_n dX6_drive_41 rfl 1 rfl ?_
      obtain ⟨x18, σ19, y20, h⟩ := bd_some h
      refine g_callVr (as := [.int x1]) (st := []) (zX3_isGround g17 y20) dX6_drive_42 (gi_lk g17) rfl okX6_drive_153 (Nat.le_of_ble_eq_true rfl) ?_
      refine g_if_ne (t := 72) dX6_drive_45 (by decide) (fun c21 => ?_) (fun c21 => ?_)
      · replace h := if_f h c21
        refine g_sub [2] rfl ?_
        exact pX6_drive_72 h
      · replace h := if_t h c21
        refine g_aload_n dX6_drive_48 rfl 2 rfl ?_
        refine g_getR dX6_drive_49 gi_1 rfl fl_RX6_22 ?_
        obtain ⟨x22, ex22, h⟩ := bnd_nm h
        refine g_topr ex22 ?_
        obtain ⟨g23, h⟩ := gg_some h
        refine g_iload_n dX6_drive_52 rfl 1 rfl ?_
        refine g_iload_n dX6_drive_53 rfl 0 rfl ?_
        obtain ⟨x24, σ25, y26, h⟩ := bd_some h
        refine g_callVr (as := [.int x1, .int x6]) (st := []) (zX3_hasBar g23 y26) dX6_drive_54 (gi_lk g23) rfl okX6_drive_143 (Nat.le_of_ble_eq_true rfl) ?_
        refine g_if_eq (t := 72) dX6_drive_57 (by decide) (fun c27 => ?_) (fun c27 => ?_)
        · replace h := if_t h c27
          refine g_sub [2] rfl ?_
          exact pX6_drive_72 h
        · replace h := if_f h c27
          refine g_aload_n dX6_drive_60 rfl 2 rfl ?_
          refine g_getR dX6_drive_61 gi_1 rfl fl_RX6_22 ?_
          obtain ⟨x28, ex28, h⟩ := bnd_nm h
          refine g_topr ex28 ?_
          obtain ⟨g29, h⟩ := gg_some h
          refine g_getI dX6_drive_64 (gi_lk g29) rfl fl_RX6_156 ?_
          refine g_ldc (v := (-1000000)) dX6_drive_67 wc_RX6_26 ?_
          refine g_icmp_eq (t := 79) dX6_drive_69 (by decide) (fun c30 => ?_) (fun c30 => ?_)
          · replace h := if_t h c30
            refine g_aload_n dX6_drive_79 rfl 2 rfl ?_
            refine g_getR dX6_drive_80 gi_1 rfl fl_RX6_22 ?_
            obtain ⟨x31, ex31, h⟩ := bnd_nm h
            refine g_topr ex31 ?_
            obtain ⟨g32, h⟩ := gg_some h
            refine g_iload_n dX6_drive_83 rfl 1 rfl ?_
            obtain ⟨σ33, eσ33, h⟩ := bnd_nm h
            refine g_putI dX6_drive_84 (gi_lk g32) rfl fp_RX6_156 (g_st eσ33 ?_)
            refine g_aload_n dX6_drive_87 rfl 2 rfl ?_
            refine g_getR dX6_drive_88 gi_1 rfl fl_RX6_22 ?_
            obtain ⟨x34, ex34, h⟩ := bnd_nm h
            refine g_topr ex34 ?_
            obtain ⟨g35, h⟩ := gg_some h
            refine g_iload_n dX6_drive_91 rfl 0 rfl ?_
            obtain ⟨σ36, eσ36, h⟩ := bnd_nm h
            refine g_putI dX6_drive_92 (gi_lk g35) rfl fp_RX6_159 (g_st eσ36 ?_)
            refine g_aload_n dX6_drive_95 rfl 2 rfl ?_
            obtain ⟨_, σ37, y38, h⟩ := bd_some h
            refine g_callVv (as := []) (st := []) (zX6_expectSign y38) dX6_drive_96 gi_1 rfl okX6_drive_120 (Nat.le_of_ble_eq_true rfl) ?_
            obtain ⟨rfl, rfl⟩ := so_inj h
            exact g_vret dX6_drive_99 rfl
          · replace h := if_f h c30
            refine g_sub [2] rfl ?_
            exact pX6_drive_72 h
  · replace h := if_f h c9
    obtain ⟨rfl, rfl⟩ := so_inj h
    exact g_vret dX6_drive_25 rfl
theorem zX6_drive {E : gE} {r : Unit} {σ σ' : gS} (h : fX6_drive σ = some (r, σ')) : gC E mX6_drive [.ref 1] σ (none) σ' :=
  gC_of (by decide +kernel) rfl (Nat.le_of_ble_eq_true rfl) (pX6_drive h)
def mX6_statement : gM := (yX6_statement, cX6_statement, RX6, 1, none, 5, 117)
theorem dX6_statement_0 : decode mX6_statement.2.1 0 = .ok (.aload_n 0, 1) := by decide +kernel
theorem dX6_statement_1 : decode mX6_statement.2.1 1 = .ok (.getfield 62, 3) := by decide +kernel
theorem dX6_statement_4 : decode mX6_statement.2.1 4 = .ok (.iconst 2, 1) := by decide +kernel
theorem dX6_statement_5 : decode mX6_statement.2.1 5 = .ok (.if_icmp .eq 8, 3) := by decide +kernel
theorem dX6_statement_8 : decode mX6_statement.2.1 8 = .ok (.aload_n 0, 1) := by decide +kernel
theorem dX6_statement_9 : decode mX6_statement.2.1 9 = .ok (.invokevirtual 91, 3) := by decide +kernel
theorem dX6_statement_12 : decode mX6_statement.2.1 12 = .ok (.return_, 1) := by decide +kernel
theorem dX6_statement_13 : decode mX6_statement.2.1 13 = .ok (.aload_n 0, 1) := by decide +kernel
theorem dX6_statement_14 : decode mX6_statement.2.1 14 = .ok (.getfield 84, 3) := by decide +kernel
theorem dX6_statement_17 : decode mX6_statement.2.1 17 = .ok (.tableswitch 139 0 10 #[59, 67, 75, 82, 91, 100, 139, 107, 115, 123, 132], 59) := by decide +kernel
theorem dX6_statement_76 : decode mX6_statement.2.1 76 = .ok (.aload_n 0, 1) := by decide +kernel
theorem dX6_statement_77 : decode mX6_statement.2.1 77 = .ok (.iconst 1, 1) := by decide +kernel
theorem dX6_statement_78 : decode mX6_statement.2.1 78 = .ok (.invokevirtual 94, 3) := by decide +kernel
theorem dX6_statement_81 : decode mX6_statement.2.1 81 = .ok (.goto 79, 3) := by decide +kernel
theorem dX6_statement_84 : decode mX6_statement.2.1 84 = .ok (.aload_n 0, 1) := by decide +kernel
theorem dX6_statement_85 : decode mX6_statement.2.1 85 = .ok (.iconst 0, 1) := by decide +kernel
theorem dX6_statement_86 : decode mX6_statement.2.1 86 = .ok (.invokevirtual 94, 3) := by decide +kernel
theorem dX6_statement_89 : decode mX6_statement.2.1 89 = .ok (.goto 71, 3) := by decide +kernel
theorem dX6_statement_92 : decode mX6_statement.2.1 92 = .ok (.aload_n 0, 1) := by decide +kernel
theorem dX6_statement_93 : decode mX6_statement.2.1 93 = .ok (.invokevirtual 97, 3) := by decide +kernel
theorem dX6_statement_96 : decode mX6_statement.2.1 96 = .ok (.goto 64, 3) := by decide +kernel
theorem dX6_statement_99 : decode mX6_statement.2.1 99 = .ok (.aload_n 0, 1) := by decide +kernel
theorem dX6_statement_100 : decode mX6_statement.2.1 100 = .ok (.iconst 2, 1) := by decide +kernel
theorem dX6_statement_101 : decode mX6_statement.2.1 101 = .ok (.iconst 0, 1) := by decide +kernel
theorem dX6_statement_102 : decode mX6_statement.2.1 102 = .ok (.invokevirtual 100, 3) := by decide +kernel
theorem dX6_statement_105 : decode mX6_statement.2.1 105 = .ok (.goto 55, 3) := by decide +kernel
theorem dX6_statement_108 : decode mX6_statement.2.1 108 = .ok (.aload_n 0, 1) := by decide +kernel
theorem dX6_statement_109 : decode mX6_statement.2.1 109 = .ok (.iconst 3, 1) := by decide +kernel
theorem dX6_statement_110 : decode mX6_statement.2.1 110 = .ok (.iconst 1, 1) := by decide +kernel
theorem dX6_statement_111 : decode mX6_statement.2.1 111 = .ok (.invokevirtual 100, 3) := by decide +kernel
theorem dX6_statement_114 : decode mX6_statement.2.1 114 = .ok (.goto 46, 3) := by decide +kernel
theorem dX6_statement_117 : decode mX6_statement.2.1 117 = .ok (.aload_n 0, 1) := by decide +kernel
theorem dX6_statement_118 : decode mX6_statement.2.1 118 = .ok (.invokevirtual 104, 3) := by decide +kernel
theorem dX6_statement_121 : decode mX6_statement.2.1 121 = .ok (.goto 39, 3) := by decide +kernel
theorem dX6_statement_124 : decode mX6_statement.2.1 124 = .ok (.aload_n 0, 1) := by decide +kernel
theorem dX6_statement_125 : decode mX6_statement.2.1 125 = .ok (.iconst 4, 1) := by decide +kernel
theorem dX6_statement_126 : decode mX6_statement.2.1 126 = .ok (.invokevirtual 107, 3) := by decide +kernel
theorem dX6_statement_129 : decode mX6_statement.2.1 129 = .ok (.goto 31, 3) := by decide +kernel
theorem dX6_statement_132 : decode mX6_statement.2.1 132 = .ok (.aload_n 0, 1) := by decide +kernel
theorem dX6_statement_133 : decode mX6_statement.2.1 133 = .ok (.iconst 5, 1) := by decide +kernel
theorem dX6_statement_134 : decode mX6_statement.2.1 134 = .ok (.invokevirtual 107, 3) := by decide +kernel
theorem dX6_statement_137 : decode mX6_statement.2.1 137 = .ok (.goto 23, 3) := by decide +kernel
theorem dX6_statement_140 : decode mX6_statement.2.1 140 = .ok (.aload_n 0, 1) := by decide +kernel
theorem dX6_statement_141 : decode mX6_statement.2.1 141 = .ok (.bipush 6, 2) := by decide +kernel
theorem dX6_statement_143 : decode mX6_statement.2.1 143 = .ok (.invokevirtual 107, 3) := by decide +kernel
theorem dX6_statement_146 : decode mX6_statement.2.1 146 = .ok (.goto 14, 3) := by decide +kernel
theorem dX6_statement_149 : decode mX6_statement.2.1 149 = .ok (.aload_n 0, 1) := by decide +kernel
theorem dX6_statement_150 : decode mX6_statement.2.1 150 = .ok (.invokevirtual 110, 3) := by decide +kernel
theorem dX6_statement_153 : decode mX6_statement.2.1 153 = .ok (.goto 7, 3) := by decide +kernel
theorem dX6_statement_156 : decode mX6_statement.2.1 156 = .ok (.aload_n 0, 1) := by decide +kernel
theorem dX6_statement_157 : decode mX6_statement.2.1 157 = .ok (.invokevirtual 91, 3) := by decide +kernel
theorem dX6_statement_160 : decode mX6_statement.2.1 160 = .ok (.return_, 1) := by decide +kernel
theorem okX6_statement_91 : gOkV mX6_statement mX6_failUnfit 91 0 := ⟨List.forall_mem_cons.mpr ⟨(gm 615 (by decide +kernel) rfl), List.forall_mem_cons.mpr ⟨(gm 612 (by decide +kernel) rfl), List.forall_mem_cons.mpr ⟨(gm 614 (by decide +kernel) rfl), List.forall_mem_cons.mpr ⟨(gm 6 (by decide +kernel) rfl), List.forall_mem_cons.mpr ⟨(gm 108 (by decide +kernel) rfl), fun _ h => absurd h List.not_mem_nil⟩⟩⟩⟩⟩, by decide +kernel, by decide +kernel, by decide +kernel⟩
theorem okX6_statement_94 : gOkV mX6_statement mX6_joint 94 1 := ⟨List.forall_mem_cons.mpr ⟨(gm 623 (by decide +kernel) rfl), List.forall_mem_cons.mpr ⟨(gm 620 (by decide +kernel) rfl), List.forall_mem_cons.mpr ⟨(gm 622 (by decide +kernel) rfl), List.forall_mem_cons.mpr ⟨(gm 8 (by decide +kernel) rfl), List.forall_mem_cons.mpr ⟨(gm 108 (by decide +kernel) rfl), fun _ h => absurd h List.not_mem_nil⟩⟩⟩⟩⟩, by decide +kernel, by decide +kernel, by decide +kernel⟩
theorem okX6_statement_97 : gOkV mX6_statement mX6_oneBar 97 0 := ⟨List.forall_mem_cons.mpr ⟨(gm 656 (by decide +kernel) rfl), List.forall_mem_cons.mpr ⟨(gm 653 (by decide +kernel) rfl), List.forall_mem_cons.mpr ⟨(gm 655 (by decide +kernel) rfl), List.forall_mem_cons.mpr ⟨(gm 12 (by decide +kernel) rfl), List.forall_mem_cons.mpr ⟨(gm 108 (by decide +kernel) rfl), fun _ h => absurd h List.not_mem_nil⟩⟩⟩⟩⟩, by decide +kernel, by decide +kernel, by decide +kernel⟩
theorem okX6_statement_100 : gOkV mX6_statement mX6_manyBars 100 2 := ⟨List.forall_mem_cons.mpr ⟨(gm 700 (by decide +kernel) rfl), List.forall_mem_cons.mpr ⟨(gm 697 (by decide +kernel) rfl), List.forall_mem_cons.mpr ⟨(gm 699 (by decide +kernel) rfl), List.forall_mem_cons.mpr ⟨(gm 16 (by decide +kernel) rfl), List.forall_mem_cons.mpr ⟨(gm 108 (by decide +kernel) rfl), fun _ h => absurd h List.not_mem_nil⟩⟩⟩⟩⟩, by decide +kernel, by decide +kernel, by decide +kernel⟩
theorem okX6_statement_104 : gOkV mX6_statement mX6_wheel 104 0 := ⟨List.forall_mem_cons.mpr ⟨(gm 704 (by decide +kernel) rfl), List.forall_mem_cons.mpr ⟨(gm 701 (by decide +kernel) rfl), List.forall_mem_cons.mpr ⟨(gm 703 (by decide +kernel) rfl), List.forall_mem_cons.mpr ⟨(gm 17 (by decide +kernel) rfl), List.forall_mem_cons.mpr ⟨(gm 108 (by decide +kernel) rfl), fun _ h => absurd h List.not_mem_nil⟩⟩⟩⟩⟩, by decide +kernel, by decide +kernel, by decide +kernel⟩
theorem okX6_statement_107 : gOkV mX6_statement mX6_coupling 107 1 := ⟨List.forall_mem_cons.mpr ⟨(gm 712 (by decide +kernel) rfl), List.forall_mem_cons.mpr ⟨(gm 709 (by decide +kernel) rfl), List.forall_mem_cons.mpr ⟨(gm 711 (by decide +kernel) rfl), List.forall_mem_cons.mpr ⟨(gm 19 (by decide +kernel) rfl), List.forall_mem_cons.mpr ⟨(gm 108 (by decide +kernel) rfl), fun _ h => absurd h List.not_mem_nil⟩⟩⟩⟩⟩, by decide +kernel, by decide +kernel, by decide +kernel⟩
theorem okX6_statement_110 : gOkV mX6_statement mX6_drive 110 0 := ⟨List.forall_mem_cons.mpr ⟨(gm 717 (by decide +kernel) rfl), List.forall_mem_cons.mpr ⟨(gm 714 (by decide +kernel) rfl), List.forall_mem_cons.mpr ⟨(gm 716 (by decide +kernel) rfl), List.forall_mem_cons.mpr ⟨(gm 20 (by decide +kernel) rfl), List.forall_mem_cons.mpr ⟨(gm 108 (by decide +kernel) rfl), fun _ h => absurd h List.not_mem_nil⟩⟩⟩⟩⟩, by decide +kernel, by decide +kernel, by decide +kernel⟩
def fX6_statement_160 (σ : gS) : Option (Unit × gS) :=
  some ((), σ)
set_option maxHeartbeats 4000000 in
set_option maxRecDepth 100000 in
theorem pX6_statement_160 {E : gE} {r : Unit} {σ' : gS} {σ : gS} (h : fX6_statement_160 σ = some (r, σ')) : gG E mX6_statement 160 [] [] σ (none) σ' := by
  unfold fX6_statement_160 at h
  obtain ⟨rfl, rfl⟩ := so_inj h
  exact g_vret dX6_statement_160 rfl
def fX6_statement_156 (σ : gS) : Option (Unit × gS) :=
  bd (fX6_failUnfit σ) fun _ σ1 =>
  fX6_statement_160 σ1
set_option maxHeartbeats 4000000 in
set_option maxRecDepth 100000 in
theorem pX6_statement_156 {E : gE} {r : Unit} {σ' : gS} {σ : gS} (h : fX6_statement_156 σ = some (r, σ')) : gG E mX6_statement 156 [(0, .ref 1)] [] σ (none) σ' := by
  unfold fX6_statement_156 at h
  refine g_aload_n dX6_statement_156 rfl 0 rfl ?_
  obtain ⟨_, σ1, y2, h⟩ := bd_some h
  refine g_callVv (as := []) (st := []) (zX6_failUnfit y2) dX6_statement_157 gi_1 rfl okX6_statement_91 (Nat.le_of_ble_eq_true rfl) ?_
  refine g_sub [] rfl ?_
  exact pX6_statement_160 h
def fX6_statement (σ : gS) : Option (Unit × gS) :=
  if (σ.1 1 5) = 2 then
    if (σ.1 1 7) = 0 then
      bd (fX6_joint 1 σ) fun _ σ3 =>
      fX6_statement_160 σ3
    else
      if (σ.1 1 7) = 1 then
      bd (fX6_joint 0 σ) fun _ σ6 =>
        fX6_statement_160 σ6
    else
      if (σ.1 1 7) = 2 then
      bd (fX6_oneBar σ) fun _ σ9 =>
          fX6_statement_160 σ9
    else
      if (σ.1 1 7) = 3 then
      bd (fX6_manyBars 2 0 σ) fun _ σ12 =>
            fX6_statement_160 σ12
    else
      if (σ.1 1 7) = 4 then
      bd (fX6_manyBars 3 1 σ) fun _ σ15 =>
              fX6_statement_160 σ15
    else
      if (σ.1 1 7) = 5 then
      bd (fX6_wheel σ) fun _ σ18 =>
                fX6_statement_160 σ18
    else
      if (σ.1 1 7) = 6 then
      fX6_statement_156 σ
    else
      if (σ.1 1 7) = 7 then
      bd (fX6_coupling 4 σ) fun _ σ22 =>
                    fX6_statement_160 σ22
    else
      if (σ.1 1 7) = 8 then
      bd (fX6_coupling 5 σ) fun _ σ25 =>
                      fX6_statement_160 σ25
    else
      if (σ.1 1 7) = 9 then
      bd (fX6_coupling 6 σ) fun _ σ28 =>
                        fX6_statement_160 σ28
    else
      if (σ.1 1 7) = 10 then
      bd (fX6_drive σ) fun _ σ31 =>
                          fX6_statement_160 σ31
    else
      fX6_statement_156 σ
  else
    bd (fX6_failUnfit σ) fun _ σ33 =>
    some ((), σ33)
set_option maxHeartbeats 4000000 in
set_option maxRecDepth 100000 in
theorem pX6_statement {E : gE} {r : Unit} {σ' : gS} {σ : gS} (h : fX6_statement σ = some (r, σ')) : gG E mX6_statement 0 [(0, .ref 1)] [] σ (none) σ' := by
  unfold fX6_statement at h
  refine g_aload_n dX6_statement_0 rfl 0 rfl ?_
  refine g_getI dX6_statement_1 gi_1 rfl fl_RX6_62 ?_
  refine g_iconst (v := 2) dX6_statement_4 (by decide) ?_
  refine g_icmp_eq (t := 13) dX6_statement_5 (by decide) (fun c1 => ?_) (fun c1 => ?_)
  · replace h := if_t h c1
    refine g_aload_n dX6_statement_13 rfl 0 rfl ?_
    refine g_getI dX6_statement_14 gi_1 rfl fl_RX6_84 ?_
    by_cases c2 : (σ.1 1 7) = 0
    · replace h := if_t h c2
      refine g_tabIn (off := 59) (t := 76) dX6_statement_17 (by rw [c2]; decide) (by rw [c2]; decide) (by rw [c2]; first | done | rfl) (by decide) ?_
      refine g_aload_n dX6_statement_76 rfl 0 rfl ?_
      refine g_iconst (v := 1) dX6_statement_77 (by decide) ?_
      obtain ⟨_, σ3, y4, h⟩ := bd_some h
      refine g_callVv (as := [.int 1]) (st := []) (zX6_joint y4) dX6_statement_78 gi_1 rfl okX6_statement_94 (Nat.le_of_ble_eq_true rfl) ?_
      refine g_goto (t := 160) dX6_statement_81 (by decide) ?_
      refine g_sub [] rfl ?_
      exact pX6_statement_160 h
    · replace h := if_f h c2
      by_cases c5 : (σ.1 1 7) = 1
      · replace h := if_t h c5
        refine g_tabIn (off := 67) (t := 84) dX6_statement_17 (by rw [c5]; decide) (by rw [c5]; decide) (by rw [c5]; first | done | rfl) (by decide) ?_
        refine g_aload_n dX6_statement_84 rfl 0 rfl ?_
        refine g_iconst (v := 0) dX6_statement_85 (by decide) ?_
        obtain ⟨_, σ6, y7, h⟩ := bd_some h
        refine g_callVv (as := [.int 0]) (st := []) (zX6_joint y7) dX6_statement_86 gi_1 rfl okX6_statement_94 (Nat.le_of_ble_eq_true rfl) ?_
        refine g_goto (t := 160) dX6_statement_89 (by decide) ?_
        refine g_sub [] rfl ?_
        exact pX6_statement_160 h
      · replace h := if_f h c5
        by_cases c8 : (σ.1 1 7) = 2
        · replace h := if_t h c8
          refine g_tabIn (off := 75) (t := 92) dX6_statement_17 (by rw [c8]; decide) (by rw [c8]; decide) (by rw [c8]; first | done | rfl) (by decide) ?_
          refine g_aload_n dX6_statement_92 rfl 0 rfl ?_
          obtain ⟨_, σ9, y10, h⟩ := bd_some h
          refine g_callVv (as := []) (st := []) (zX6_oneBar y10) dX6_statement_93 gi_1 rfl okX6_statement_97 (Nat.le_of_ble_eq_true rfl) ?_
          refine g_goto (t := 160) dX6_statement_96 (by decide) ?_
          refine g_sub [] rfl ?_
          exact pX6_statement_160 h
        · replace h := if_f h c8
          by_cases c11 : (σ.1 1 7) = 3
          · replace h := if_t h c11
            refine g_tabIn (off := 82) (t := 99) dX6_statement_17 (by rw [c11]; decide) (by rw [c11]; decide) (by rw [c11]; first | done | rfl) (by decide) ?_
            refine g_aload_n dX6_statement_99 rfl 0 rfl ?_
            refine g_iconst (v := 2) dX6_statement_100 (by decide) ?_
            refine g_iconst (v := 0) dX6_statement_101 (by decide) ?_
            obtain ⟨_, σ12, y13, h⟩ := bd_some h
            refine g_callVv (as := [.int 2, .int 0]) (st := []) (zX6_manyBars y13) dX6_statement_102 gi_1 rfl okX6_statement_100 (Nat.le_of_ble_eq_true rfl) ?_
            refine g_goto (t := 160) dX6_statement_105 (by decide) ?_
            refine g_sub [] rfl ?_
            exact pX6_statement_160 h
          · replace h := if_f h c11
            by_cases c14 : (σ.1 1 7) = 4
            · replace h := if_t h c14
              refine g_tabIn (off := 91) (t := 108) dX6_statement_17 (by rw [c14]; decide) (by rw [c14]; decide) (by rw [c14]; first | done | rfl) (by decide) ?_
              refine g_aload_n dX6_statement_108 rfl 0 rfl ?_
              refine g_iconst (v := 3) dX6_statement_109 (by decide) ?_
              refine g_iconst (v := 1) dX6_statement_110 (by decide) ?_
              obtain ⟨_, σ15, y16, h⟩ := bd_some h
              refine g_callVv (as := [.int 3, .int 1]) (st := []) (zX6_manyBars y16) dX6_statement_111 gi_1 rfl okX6_statement_100 (Nat.le_of_ble_eq_true rfl) ?_
              refine g_goto (t := 160) dX6_statement_114 (by decide) ?_
              refine g_sub [] rfl ?_
              exact pX6_statement_160 h
            · replace h := if_f h c14
              by_cases c17 : (σ.1 1 7) = 5
              · replace h := if_t h c17
                refine g_tabIn (off := 100) (t := 117) dX6_statement_17 (by rw [c17]; decide) (by rw [c17]; decide) (by rw [c17]; first | done | rfl) (by decide) ?_
                refine g_aload_n dX6_statement_117 rfl 0 rfl ?_
                obtain ⟨_, σ18, y19, h⟩ := bd_some h
                refine g_callVv (as := []) (st := []) (zX6_wheel y19) dX6_statement_118 gi_1 rfl okX6_statement_104 (Nat.le_of_ble_eq_true rfl) ?_
                refine g_goto (t := 160) dX6_statement_121 (by decide) ?_
                refine g_sub [] rfl ?_
                exact pX6_statement_160 h
              · replace h := if_f h c17
                by_cases c20 : (σ.1 1 7) = 6
                · replace h := if_t h c20
                  refine g_tabIn (off := 139) (t := 156) dX6_statement_17 (by rw [c20]; decide) (by rw [c20]; decide) (by rw [c20]; first | done | rfl) (by decide) ?_
                  exact pX6_statement_156 h
                · replace h := if_f h c20
                  by_cases c21 : (σ.1 1 7) = 7
                  · replace h := if_t h c21
                    refine g_tabIn (off := 107) (t := 124) dX6_statement_17 (by rw [c21]; decide) (by rw [c21]; decide) (by rw [c21]; first | done | rfl) (by decide) ?_
                    refine g_aload_n dX6_statement_124 rfl 0 rfl ?_
                    refine g_iconst (v := 4) dX6_statement_125 (by decide) ?_
                    obtain ⟨_, σ22, y23, h⟩ := bd_some h
                    refine g_callVv (as := [.int 4]) (st := []) (zX6_coupling y23) dX6_statement_126 gi_1 rfl okX6_statement_107 (Nat.le_of_ble_eq_true rfl) ?_
                    refine g_goto (t := 160) dX6_statement_129 (by decide) ?_
                    refine g_sub [] rfl ?_
                    exact pX6_statement_160 h
                  · replace h := if_f h c21
                    by_cases c24 : (σ.1 1 7) = 8
                    · replace h := if_t h c24
                      refine g_tabIn (off := 115) (t := 132) dX6_statement_17 (by rw [c24]; decide) (by rw [c24]; decide) (by rw [c24]; first | done | rfl) (by decide) ?_
                      refine g_aload_n dX6_statement_132 rfl 0 rfl ?_
                      refine g_iconst (v := 5) dX6_statement_133 (by decide) ?_
                      obtain ⟨_, σ25, y26, h⟩ := bd_some h
                      refine g_callVv (as := [.int 5]) (st := []) (zX6_coupling y26) dX6_statement_134 gi_1 rfl okX6_statement_107 (Nat.le_of_ble_eq_true rfl) ?_
                      refine g_goto (t := 160) dX6_statement_137 (by decide) ?_
                      refine g_sub [] rfl ?_
                      exact pX6_statement_160 h
                    · replace h := if_f h c24
                      by_cases c27 : (σ.1 1 7) = 9
                      · replace h := if_t h c27
                        refine g_tabIn (off := 123) (t := 140) dX6_statement_17 (by rw [c27]; decide) (by rw [c27]; decide) (by rw [c27]; first | done | rfl) (by decide) ?_
                        refine g_aload_n dX6_statement_140 rfl 0 rfl ?_
                        refine g_bipush (v := 6) dX6_statement_141 (by decide) ?_
                        obtain ⟨_, σ28, y29, h⟩ := bd_some h
                        refine g_callVv (as := [.int 6]) (st := []) (zX6_coupling y29) dX6_statement_143 gi_1 rfl okX6_statement_107 (Nat.le_of_ble_eq_true rfl) ?_
                        refine g_goto (t := 160) dX6_statement_146 (by decide) ?_
                        refine g_sub [] rfl ?_
                        exact pX6_statement_160 h
                      · replace h := if_f h c27
                        by_cases c30 : (σ.1 1 7) = 10
                        · replace h := if_t h c30
                          refine g_tabIn (off := 132) (t := 149) dX6_statement_17 (by rw [c30]; decide) (by rw [c30]; decide) (by rw [c30]; first | done | rfl) (by decide) ?_
                          refine g_aload_n dX6_statement_149 rfl 0 rfl ?_
                          obtain ⟨_, σ31, y32, h⟩ := bd_some h
                          refine g_callVv (as := []) (st := []) (zX6_drive y32) dX6_statement_150 gi_1 rfl okX6_statement_110 (Nat.le_of_ble_eq_true rfl) ?_
                          refine g_goto (t := 160) dX6_statement_153 (by decide) ?_
                          refine g_sub [] rfl ?_
                          exact pX6_statement_160 h
                        · replace h := if_f h c30
                          have nc2 := lv_neT (a := 0) c2 (by decide)
                          have nc5 := lv_neT (a := 1) c5 (by decide)
                          have nc8 := lv_neT (a := 2) c8 (by decide)
                          have nc11 := lv_neT (a := 3) c11 (by decide)
                          have nc14 := lv_neT (a := 4) c14 (by decide)
                          have nc17 := lv_neT (a := 5) c17 (by decide)
                          have nc20 := lv_neT (a := 6) c20 (by decide)
                          have nc21 := lv_neT (a := 7) c21 (by decide)
                          have nc24 := lv_neT (a := 8) c24 (by decide)
                          have nc27 := lv_neT (a := 9) c27 (by decide)
                          have nc30 := lv_neT (a := 10) c30 (by decide)
                          refine g_tabOut (t := 156) dX6_statement_17 (by omega) (by decide) ?_
                          exact pX6_statement_156 h
  · replace h := if_f h c1
    refine g_aload_n dX6_statement_8 rfl 0 rfl ?_
    obtain ⟨_, σ33, y34, h⟩ := bd_some h
    refine g_callVv (as := []) (st := []) (zX6_failUnfit y34) dX6_statement_9 gi_1 rfl okX6_statement_91 (Nat.le_of_ble_eq_true rfl) ?_
    obtain ⟨rfl, rfl⟩ := so_inj h
    exact g_vret dX6_statement_12 rfl
theorem zX6_statement {E : gE} {r : Unit} {σ σ' : gS} (h : fX6_statement σ = some (r, σ')) : gC E mX6_statement [.ref 1] σ (none) σ' :=
  gC_of (by decide +kernel) rfl (Nat.le_of_ble_eq_true rfl) (pX6_statement h)
def mX6_readTape : gM := (yX6_readTape, cX6_readTape, RX6, 2, (some .int), 6, 137)
theorem dX6_readTape_0 : decode mX6_readTape.2.1 0 = .ok (.aload_n 0, 1) := by decide +kernel
theorem dX6_readTape_1 : decode mX6_readTape.2.1 1 = .ok (.getfield 22, 3) := by decide +kernel
theorem dX6_readTape_4 : decode mX6_readTape.2.1 4 = .ok (.invokevirtual 50, 3) := by decide +kernel
theorem dX6_readTape_7 : decode mX6_readTape.2.1 7 = .ok (.aload_n 0, 1) := by decide +kernel
theorem dX6_readTape_8 : decode mX6_readTape.2.1 8 = .ok (.iconst 0, 1) := by decide +kernel
theorem dX6_readTape_9 : decode mX6_readTape.2.1 9 = .ok (.putfield 53, 3) := by decide +kernel
theorem dX6_readTape_12 : decode mX6_readTape.2.1 12 = .ok (.aload_n 0, 1) := by decide +kernel
theorem dX6_readTape_13 : decode mX6_readTape.2.1 13 = .ok (.iconst 0, 1) := by decide +kernel
theorem dX6_readTape_14 : decode mX6_readTape.2.1 14 = .ok (.putfield 56, 3) := by decide +kernel
theorem dX6_readTape_17 : decode mX6_readTape.2.1 17 = .ok (.aload_n 0, 1) := by decide +kernel
theorem dX6_readTape_18 : decode mX6_readTape.2.1 18 = .ok (.ldc 26, 2) := by decide +kernel
theorem dX6_readTape_20 : decode mX6_readTape.2.1 20 = .ok (.putfield 27, 3) := by decide +kernel
theorem dX6_readTape_23 : decode mX6_readTape.2.1 23 = .ok (.iconst 0, 1) := by decide +kernel
theorem dX6_readTape_24 : decode mX6_readTape.2.1 24 = .ok (.istore_n 1, 1) := by decide +kernel
theorem dX6_readTape_25 : decode mX6_readTape.2.1 25 = .ok (.iload_n 1, 1) := by decide +kernel
theorem dX6_readTape_26 : decode mX6_readTape.2.1 26 = .ok (.sipush 1200, 3) := by decide +kernel
theorem dX6_readTape_29 : decode mX6_readTape.2.1 29 = .ok (.if_icmp .gt 34, 3) := by decide +kernel
theorem dX6_readTape_32 : decode mX6_readTape.2.1 32 = .ok (.aload_n 0, 1) := by decide +kernel
theorem dX6_readTape_33 : decode mX6_readTape.2.1 33 = .ok (.getfield 56, 3) := by decide +kernel
theorem dX6_readTape_36 : decode mX6_readTape.2.1 36 = .ok (.ifCond .ne 27, 3) := by decide +kernel
theorem dX6_readTape_39 : decode mX6_readTape.2.1 39 = .ok (.aload_n 0, 1) := by decide +kernel
theorem dX6_readTape_40 : decode mX6_readTape.2.1 40 = .ok (.invokevirtual 59, 3) := by decide +kernel
theorem dX6_readTape_43 : decode mX6_readTape.2.1 43 = .ok (.aload_n 0, 1) := by decide +kernel
theorem dX6_readTape_44 : decode mX6_readTape.2.1 44 = .ok (.getfield 62, 3) := by decide +kernel
theorem dX6_readTape_47 : decode mX6_readTape.2.1 47 = .ok (.ifCond .ne 6, 3) := by decide +kernel
theorem dX6_readTape_50 : decode mX6_readTape.2.1 50 = .ok (.goto 13, 3) := by decide +kernel
theorem dX6_readTape_53 : decode mX6_readTape.2.1 53 = .ok (.aload_n 0, 1) := by decide +kernel
theorem dX6_readTape_54 : decode mX6_readTape.2.1 54 = .ok (.invokevirtual 65, 3) := by decide +kernel
theorem dX6_readTape_57 : decode mX6_readTape.2.1 57 = .ok (.iinc 1 1, 3) := by decide +kernel
theorem dX6_readTape_60 : decode mX6_readTape.2.1 60 = .ok (.goto (-35), 3) := by decide +kernel
theorem dX6_readTape_63 : decode mX6_readTape.2.1 63 = .ok (.aload_n 0, 1) := by decide +kernel
theorem dX6_readTape_64 : decode mX6_readTape.2.1 64 = .ok (.iconst 0, 1) := by decide +kernel
theorem dX6_readTape_65 : decode mX6_readTape.2.1 65 = .ok (.putfield 47, 3) := by decide +kernel
theorem dX6_readTape_68 : decode mX6_readTape.2.1 68 = .ok (.aload_n 0, 1) := by decide +kernel
theorem dX6_readTape_69 : decode mX6_readTape.2.1 69 = .ok (.getfield 56, 3) := by decide +kernel
theorem dX6_readTape_72 : decode mX6_readTape.2.1 72 = .ok (.ireturn, 1) := by decide +kernel
theorem okX6_readTape_59 : gOkV mX6_readTape mX6_next 59 0 := ⟨List.forall_mem_cons.mpr ⟨(gm 591 (by decide +kernel) rfl), List.forall_mem_cons.mpr ⟨(gm 588 (by decide +kernel) rfl), List.forall_mem_cons.mpr ⟨(gm 590 (by decide +kernel) rfl), List.forall_mem_cons.mpr ⟨(gm 0 (by decide +kernel) rfl), List.forall_mem_cons.mpr ⟨(gm 108 (by decide +kernel) rfl), fun _ h => absurd h List.not_mem_nil⟩⟩⟩⟩⟩, by decide +kernel, by decide +kernel, by decide +kernel⟩
theorem okX6_readTape_65 : gOkV mX6_readTape mX6_statement 65 0 := ⟨List.forall_mem_cons.mpr ⟨(gm 611 (by decide +kernel) rfl), List.forall_mem_cons.mpr ⟨(gm 608 (by decide +kernel) rfl), List.forall_mem_cons.mpr ⟨(gm 610 (by decide +kernel) rfl), List.forall_mem_cons.mpr ⟨(gm 5 (by decide +kernel) rfl), List.forall_mem_cons.mpr ⟨(gm 108 (by decide +kernel) rfl), fun _ h => absurd h List.not_mem_nil⟩⟩⟩⟩⟩, by decide +kernel, by decide +kernel, by decide +kernel⟩
theorem okX6_readTape_50 : gOkV mX6_readTape mX3_clear 50 0 := ⟨List.forall_mem_cons.mpr ⟨(gm 584 (by decide +kernel) rfl), List.forall_mem_cons.mpr ⟨(gm 581 (by decide +kernel) rfl), List.forall_mem_cons.mpr ⟨(gm 582 (by decide +kernel) rfl), List.forall_mem_cons.mpr ⟨(gm 583 (by decide +kernel) rfl), List.forall_mem_cons.mpr ⟨(gm 109 (by decide +kernel) rfl), fun _ h => absurd h List.not_mem_nil⟩⟩⟩⟩⟩, by decide +kernel, by decide +kernel, by decide +kernel⟩
def fX6_readTape_63 (σ : gS) : Option (Int32 × gS) :=
  bnd (gsI σ 1 1 0) fun σ1 =>
  some (σ1.1 1 8, σ1)
set_option maxHeartbeats 4000000 in
set_option maxRecDepth 100000 in
theorem pX6_readTape_63 {E : gE} {r : Int32} {σ' : gS} {σ : gS} (h : fX6_readTape_63 σ = some (r, σ')) : gG E mX6_readTape 63 [(0, .ref 1)] [] σ (some (.int r)) σ' := by
  unfold fX6_readTape_63 at h
  refine g_aload_n dX6_readTape_63 rfl 0 rfl ?_
  refine g_iconst (v := 0) dX6_readTape_64 (by decide) ?_
  obtain ⟨σ1, eσ1, h⟩ := bnd_nm h
  refine g_putI dX6_readTape_65 gi_1 rfl fp_RX6_47 (g_st eσ1 ?_)
  refine g_aload_n dX6_readTape_68 rfl 0 rfl ?_
  refine g_getI dX6_readTape_69 gi_1 rfl fl_RX6_56 ?_
  obtain ⟨rfl, rfl⟩ := so_inj h
  exact g_iret dX6_readTape_72 rfl
def fX6_readTape_25 : Nat → Int32 → gS → Option (Int32 × gS)
  | 0, _, _ => none
  | n + 1, v1, σ => if 1200 < v1 then
    fX6_readTape_63 σ
  else
    if (σ.1 1 8) = 0 then
      bd (fX6_next σ) fun _ σ3 =>
      if (σ3.1 1 5) = 0 then
        fX6_readTape_63 σ3
      else
        bd (fX6_statement σ3) fun _ σ6 =>
        bnd (v1 + 1) fun x8 =>
        fX6_readTape_25 n x8 σ6
    else
      fX6_readTape_63 σ
set_option maxHeartbeats 4000000 in
set_option maxRecDepth 100000 in
theorem pX6_readTape_25 {E : gE} {r : Int32} {σ' : gS} : ∀ (n : Nat) (v1 : Int32) (σ : gS), fX6_readTape_25 n v1 σ = some (r, σ') → gG E mX6_readTape 25 [(0, .ref 1), (1, .int v1)] [] σ (some (.int r)) σ' := by
  intro n
  induction n with
  | zero => intro v1 σ h; exact absurd (show none = some (r, σ') from h) (by intro q; cases q)
  | succ n ih =>
  intro v1 σ h
  unfold fX6_readTape_25 at h
  refine g_iload_n dX6_readTape_25 rfl 1 rfl ?_
  refine g_sipush (v := 1200) dX6_readTape_26 (by decide) ?_
  refine g_icmp_gt (t := 63) dX6_readTape_29 (by decide) (fun c1 => ?_) (fun c1 => ?_)
  · replace h := if_t h c1
    refine g_sub [0] rfl ?_
    exact pX6_readTape_63 h
  · replace h := if_f h c1
    refine g_aload_n dX6_readTape_32 rfl 0 rfl ?_
    refine g_getI dX6_readTape_33 gi_1 rfl fl_RX6_56 ?_
    refine g_if_ne (t := 63) dX6_readTape_36 (by decide) (fun c2 => ?_) (fun c2 => ?_)
    · replace h := if_f h c2
      refine g_sub [0] rfl ?_
      exact pX6_readTape_63 h
    · replace h := if_t h c2
      refine g_aload_n dX6_readTape_39 rfl 0 rfl ?_
      obtain ⟨_, σ3, y4, h⟩ := bd_some h
      refine g_callVv (as := []) (st := []) (zX6_next y4) dX6_readTape_40 gi_1 rfl okX6_readTape_59 (Nat.le_of_ble_eq_true rfl) ?_
      refine g_aload_n dX6_readTape_43 rfl 0 rfl ?_
      refine g_getI dX6_readTape_44 gi_1 rfl fl_RX6_62 ?_
      refine g_if_ne (t := 53) dX6_readTape_47 (by decide) (fun c5 => ?_) (fun c5 => ?_)
      · replace h := if_f h c5
        refine g_aload_n dX6_readTape_53 rfl 0 rfl ?_
        obtain ⟨_, σ6, y7, h⟩ := bd_some h
        refine g_callVv (as := []) (st := []) (zX6_statement y7) dX6_readTape_54 gi_1 rfl okX6_readTape_65 (Nat.le_of_ble_eq_true rfl) ?_
        obtain ⟨x8, ex8, h⟩ := bnd_nm h
        refine g_iinc (j := 1) (v := x8) (lv' := [(1, .int x8), (0, .ref 1)]) dX6_readTape_57 rfl (by rw [ex8]; rfl) (Nat.le_of_ble_eq_true rfl) rfl ?_
        refine g_goto (t := 25) dX6_readTape_60 (by decide) ?_
        refine g_sub [1, 0] rfl ?_
        exact ih x8 σ6 h
      · replace h := if_t h c5
        refine g_goto (t := 63) dX6_readTape_50 (by decide) ?_
        refine g_sub [0] rfl ?_
        exact pX6_readTape_63 h
def fX6_readTape (σ : gS) : Option (Int32 × gS) :=
  bnd (σ.2.2 1 3) fun x1 =>
  gg (x1 = 4 ∨ x1 = 16) (
  bd (fX3_clear x1 σ) fun _ σ3 =>
  bnd (gsI σ3 1 4 0) fun σ5 =>
  bnd (gsI σ5 1 8 0) fun σ6 =>
  bnd (gsI σ6 1 9 (-1000000)) fun σ7 =>
  fX6_readTape_25 2000 0 σ7)
set_option maxHeartbeats 4000000 in
set_option maxRecDepth 100000 in
theorem pX6_readTape {E : gE} {r : Int32} {σ' : gS} {σ : gS} (h : fX6_readTape σ = some (r, σ')) : gG E mX6_readTape 0 [(0, .ref 1)] [] σ (some (.int r)) σ' := by
  unfold fX6_readTape at h
  refine g_aload_n dX6_readTape_0 rfl 0 rfl ?_
  refine g_getR dX6_readTape_1 gi_1 rfl fl_RX6_22 ?_
  obtain ⟨x1, ex1, h⟩ := bnd_nm h
  refine g_topr ex1 ?_
  obtain ⟨g2, h⟩ := gg_some h
  obtain ⟨_, σ3, y4, h⟩ := bd_some h
  refine g_callVv (as := []) (st := []) (zX3_clear g2 y4) dX6_readTape_4 (gi_lk g2) rfl okX6_readTape_50 (Nat.le_of_ble_eq_true rfl) ?_
  refine g_aload_n dX6_readTape_7 rfl 0 rfl ?_
  refine g_iconst (v := 0) dX6_readTape_8 (by decide) ?_
  obtain ⟨σ5, eσ5, h⟩ := bnd_nm h
  refine g_putI dX6_readTape_9 gi_1 rfl fp_RX6_53 (g_st eσ5 ?_)
  refine g_aload_n dX6_readTape_12 rfl 0 rfl ?_
  refine g_iconst (v := 0) dX6_readTape_13 (by decide) ?_
  obtain ⟨σ6, eσ6, h⟩ := bnd_nm h
  refine g_putI dX6_readTape_14 gi_1 rfl fp_RX6_56 (g_st eσ6 ?_)
  refine g_aload_n dX6_readTape_17 rfl 0 rfl ?_
  refine g_ldc (v := (-1000000)) dX6_readTape_18 wc_RX6_26 ?_
  obtain ⟨σ7, eσ7, h⟩ := bnd_nm h
  refine g_putI dX6_readTape_20 gi_1 rfl fp_RX6_27 (g_st eσ7 ?_)
  refine g_iconst (v := 0) dX6_readTape_23 (by decide) ?_
  refine g_istore_n (lv' := [(1, .int 0), (0, .ref 1)]) dX6_readTape_24 rfl (Nat.le_of_ble_eq_true rfl) rfl ?_
  refine g_sub [1, 0] rfl ?_
  exact pX6_readTape_25 2000 0 σ7 h
theorem zX6_readTape {E : gE} {r : Int32} {σ σ' : gS} (h : fX6_readTape σ = some (r, σ')) : gC E mX6_readTape [.ref 1] σ (some (.int r)) σ' :=
  gC_of (by decide +kernel) rfl (Nat.le_of_ble_eq_true rfl) (pX6_readTape h)
theorem fp_RX6_22 : gFp RX6 22 6 3 (.object "LinkageCurves$Linkage") := ⟨RX6, TX6, 10, rfl, by decide, ux_6, Or.inl (gm 250 (by decide +kernel) rfl), rfl, by decide +kernel, ⟨tyX6, tyX6_ok⟩, nmX6⟩
def mX6_exchange : gM := (yX6_exchange, cX6_exchange, RX6, 3, (some (.object "LinkageCurves$Linkage")), 0, 0)
theorem dX6_exchange_0 : decode mX6_exchange.2.1 0 = .ok (.aload_n 0, 1) := by decide +kernel
theorem dX6_exchange_1 : decode mX6_exchange.2.1 1 = .ok (.getfield 22, 3) := by decide +kernel
theorem dX6_exchange_4 : decode mX6_exchange.2.1 4 = .ok (.astore_n 2, 1) := by decide +kernel
theorem dX6_exchange_5 : decode mX6_exchange.2.1 5 = .ok (.aload_n 0, 1) := by decide +kernel
theorem dX6_exchange_6 : decode mX6_exchange.2.1 6 = .ok (.aload_n 1, 1) := by decide +kernel
theorem dX6_exchange_7 : decode mX6_exchange.2.1 7 = .ok (.putfield 22, 3) := by decide +kernel
theorem dX6_exchange_10 : decode mX6_exchange.2.1 10 = .ok (.aload_n 2, 1) := by decide +kernel
theorem dX6_exchange_11 : decode mX6_exchange.2.1 11 = .ok (.areturn, 1) := by decide +kernel
def fX6_exchange (p1 : Nat) (σ : gS) : Option (Nat × gS) :=
  bnd (σ.2.2 1 3) fun x1 =>
  gg (x1 = 4 ∨ x1 = 16) (
  bnd (gsR σ 1 3 p1) fun σ3 =>
  some (x1, σ3))
set_option maxHeartbeats 4000000 in
set_option maxRecDepth 100000 in
theorem pX6_exchange {E : gE} {p1 : Nat} {r : Nat} {σ' : gS} {σ : gS} (hp1 : gLk p1) (h : fX6_exchange p1 σ = some (r, σ')) : gG E mX6_exchange 0 [(0, .ref 1), (1, .ref p1)] [] σ (some (.ref r)) σ' := by
  unfold fX6_exchange at h
  refine g_aload_n dX6_exchange_0 rfl 0 rfl ?_
  refine g_getR dX6_exchange_1 gi_1 rfl fl_RX6_22 ?_
  obtain ⟨x1, ex1, h⟩ := bnd_nm h
  refine g_topr ex1 ?_
  obtain ⟨g2, h⟩ := gg_some h
  refine g_astore_n (lv' := [(2, .ref x1), (0, .ref 1), (1, .ref p1)]) dX6_exchange_4 rfl (Nat.le_of_ble_eq_true rfl) rfl ?_
  refine g_aload_n dX6_exchange_5 rfl 1 rfl ?_
  refine g_aload_n dX6_exchange_6 rfl 2 rfl ?_
  obtain ⟨σ3, eσ3, h⟩ := bnd_nm h
  refine g_putR dX6_exchange_7 gi_1 rfl fp_RX6_22 (g_st eσ3 ?_)
  refine g_aload_n dX6_exchange_10 rfl 0 rfl ?_
  obtain ⟨rfl, rfl⟩ := so_inj h
  exact g_aret dX6_exchange_11 rfl (Or.inl ⟨_, rfl⟩)
theorem zX6_exchange {E : gE} {p1 : Nat} {r : Nat} {σ σ' : gS} (hp1 : gLk p1) (h : fX6_exchange p1 σ = some (r, σ')) : gC E mX6_exchange [.ref 1, .ref p1] σ (some (.ref r)) σ' :=
  gC_of (by decide +kernel) rfl (Nat.le_of_ble_eq_true rfl) (pX6_exchange hp1 h)
def mJ7_fill_d0a16 : gM := (yJ7_fill_d0a16, cJ7_fill_d0a16, RJ7, 5, none, 0, 0)
theorem dJ7_fill_d0a16_0 : decode mJ7_fill_d0a16.2.1 0 = .ok (.iconst 0, 1) := by decide +kernel
theorem dJ7_fill_d0a16_1 : decode mJ7_fill_d0a16.2.1 1 = .ok (.istore_n 3, 1) := by decide +kernel
theorem dJ7_fill_d0a16_2 : decode mJ7_fill_d0a16.2.1 2 = .ok (.aload_n 0, 1) := by decide +kernel
theorem dJ7_fill_d0a16_3 : decode mJ7_fill_d0a16.2.1 3 = .ok (.arraylength, 1) := by decide +kernel
theorem dJ7_fill_d0a16_4 : decode mJ7_fill_d0a16.2.1 4 = .ok (.istore 4, 2) := by decide +kernel
theorem dJ7_fill_d0a16_6 : decode mJ7_fill_d0a16.2.1 6 = .ok (.iload_n 3, 1) := by decide +kernel
theorem dJ7_fill_d0a16_7 : decode mJ7_fill_d0a16.2.1 7 = .ok (.iload 4, 2) := by decide +kernel
theorem dJ7_fill_d0a16_9 : decode mJ7_fill_d0a16.2.1 9 = .ok (.if_icmp .ge 13, 3) := by decide +kernel
theorem dJ7_fill_d0a16_12 : decode mJ7_fill_d0a16.2.1 12 = .ok (.aload_n 0, 1) := by decide +kernel
theorem dJ7_fill_d0a16_13 : decode mJ7_fill_d0a16.2.1 13 = .ok (.iload_n 3, 1) := by decide +kernel
theorem dJ7_fill_d0a16_14 : decode mJ7_fill_d0a16.2.1 14 = .ok (.lload_n 1, 1) := by decide +kernel
theorem dJ7_fill_d0a16_15 : decode mJ7_fill_d0a16.2.1 15 = .ok (.lastore, 1) := by decide +kernel
theorem dJ7_fill_d0a16_16 : decode mJ7_fill_d0a16.2.1 16 = .ok (.iinc 3 1, 3) := by decide +kernel
theorem dJ7_fill_d0a16_19 : decode mJ7_fill_d0a16.2.1 19 = .ok (.goto (-13), 3) := by decide +kernel
theorem dJ7_fill_d0a16_22 : decode mJ7_fill_d0a16.2.1 22 = .ok (.return_, 1) := by decide +kernel
def fJ7_fill_d0a16_6 (p1 : Nat) (p1n : Nat) (p2 : Int64) : Nat → Int32 → Int32 → gS → Option (Unit × gS)
  | 0, _, _, _ => none
  | n + 1, v3, v4, σ => if v4 ≤ v3 then
    some ((), σ)
  else
    gg (¬ (v3 < 0 ∨ p1n ≤ v3.toNatClampNeg)) (
    bnd (gsJ σ p1 v3.toNatClampNeg p2) fun σ3 =>
    bnd (v3 + 1) fun x4 =>
    fJ7_fill_d0a16_6 p1 p1n p2 n x4 v4 σ3)
set_option maxHeartbeats 4000000 in
set_option maxRecDepth 100000 in
theorem pJ7_fill_d0a16_6 {E : gE} {p1 : Nat} {p1n : Nat} {p2 : Int64} {r : Unit} {σ' : gS} (hp1 : gI p1 = .inr (1, p1n, none)) (hp10 : 0 < p1n) : ∀ (n : Nat) (v3 : Int32) (v4 : Int32) (σ : gS), fJ7_fill_d0a16_6 p1 p1n p2 n v3 v4 σ = some (r, σ') → gG E mJ7_fill_d0a16 6 [(0, .ref p1), (1, .long p2), (3, .int v3), (4, .int v4)] [] σ (none) σ' := by
  intro n
  induction n with
  | zero => intro v3 v4 σ h; exact absurd (show none = some (r, σ') from h) (by intro q; cases q)
  | succ n ih =>
  intro v3 v4 σ h
  unfold fJ7_fill_d0a16_6 at h
  refine g_iload_n dJ7_fill_d0a16_6 rfl 2 rfl ?_
  refine g_iload dJ7_fill_d0a16_7 3 rfl ?_
  refine g_icmp_ge (t := 22) dJ7_fill_d0a16_9 (by decide) (fun c1 => ?_) (fun c1 => ?_)
  · replace h := if_t h c1
    obtain ⟨rfl, rfl⟩ := so_inj h
    exact g_vret dJ7_fill_d0a16_22 rfl
  · replace h := if_f h c1
    refine g_aload_n dJ7_fill_d0a16_12 rfl 0 rfl ?_
    refine g_iload_n dJ7_fill_d0a16_13 rfl 2 rfl ?_
    refine g_lload_n dJ7_fill_d0a16_14 rfl 1 rfl ?_
    obtain ⟨g2, h⟩ := gg_some h
    obtain ⟨σ3, eσ3, h⟩ := bnd_nm h
    refine g_last dJ7_fill_d0a16_15 hp1 g2 (g_st eσ3 ?_)
    obtain ⟨x4, ex4, h⟩ := bnd_nm h
    refine g_iinc (j := 2) (v := x4) (lv' := [(3, .int x4), (0, .ref p1), (1, .long p2), (4, .int v4)]) dJ7_fill_d0a16_16 rfl (by rw [ex4]; rfl) (Nat.le_of_ble_eq_true rfl) rfl ?_
    refine g_goto (t := 6) dJ7_fill_d0a16_19 (by decide) ?_
    refine g_sub [1, 2, 0, 3] rfl ?_
    exact ih x4 v4 σ3 h
def fJ7_fill_d0a16 (p1 : Nat) (p1n : Nat) (p2 : Int64) (σ : gS) : Option (Unit × gS) :=
  bnd (Int32.ofNat p1n) fun x1 =>
  fJ7_fill_d0a16_6 p1 p1n p2 2000 0 x1 σ
set_option maxHeartbeats 4000000 in
set_option maxRecDepth 100000 in
theorem pJ7_fill_d0a16 {E : gE} {p1 : Nat} {p1n : Nat} {p2 : Int64} {r : Unit} {σ' : gS} {σ : gS} (hp1 : gI p1 = .inr (1, p1n, none)) (hp10 : 0 < p1n) (h : fJ7_fill_d0a16 p1 p1n p2 σ = some (r, σ')) : gG E mJ7_fill_d0a16 0 [(0, .ref p1), (1, .long p2)] [] σ (none) σ' := by
  unfold fJ7_fill_d0a16 at h
  refine g_iconst (v := 0) dJ7_fill_d0a16_0 (by decide) ?_
  refine g_istore_n (lv' := [(3, .int 0), (0, .ref p1), (1, .long p2)]) dJ7_fill_d0a16_1 rfl (Nat.le_of_ble_eq_true rfl) rfl ?_
  refine g_aload_n dJ7_fill_d0a16_2 rfl 1 rfl ?_
  refine g_alenJ dJ7_fill_d0a16_3 hp1 hp10 ?_
  obtain ⟨x1, ex1, h⟩ := bnd_nm h
  refine g_topi ex1 ?_
  refine g_istore (lv' := [(4, .int x1), (3, .int 0), (0, .ref p1), (1, .long p2)]) dJ7_fill_d0a16_4 (Nat.le_of_ble_eq_true rfl) rfl ?_
  refine g_sub [2, 3, 1, 0] rfl ?_
  exact pJ7_fill_d0a16_6 hp1 hp10 2000 0 x1 σ h
theorem zJ7_fill_d0a16 {E : gE} {p1 : Nat} {p1n : Nat} {p2 : Int64} {r : Unit} {σ σ' : gS} (hp1 : gI p1 = .inr (1, p1n, none)) (hp10 : 0 < p1n) (h : fJ7_fill_d0a16 p1 p1n p2 σ = some (r, σ')) : gC E mJ7_fill_d0a16 [.ref p1, .long p2] σ (none) σ' :=
  gC_ofF (by decide +kernel) rfl (Nat.le_of_ble_eq_true rfl) (pJ7_fill_d0a16 hp1 hp10 h)
theorem fp_RX7_15 : gFp RX7 15 7 0 .boolean := ⟨RX7, TX7, 4, rfl, by decide, ux_7, Or.inl (gm 509 (by decide +kernel) rfl), rfl, by decide +kernel, ⟨tyX7, tyX7_ok⟩, nmX7⟩
theorem fp_RX7_19 : gFp RX7 19 7 1 .int := ⟨RX7, TX7, 4, rfl, by decide, ux_7, Or.inl (gm 511 (by decide +kernel) rfl), rfl, by decide +kernel, ⟨tyX7, tyX7_ok⟩, nmX7⟩
theorem fp_RX7_23 : gFp RX7 23 7 2 .int := ⟨RX7, TX7, 4, rfl, by decide, ux_7, Or.inl (gm 513 (by decide +kernel) rfl), rfl, by decide +kernel, ⟨tyX7, tyX7_ok⟩, nmX7⟩
theorem fl_RX7_9 : gFl RX7 9 7 3 := ⟨RX7, TX7, 4, rfl, by decide, ux_7, Or.inl (gm 515 (by decide +kernel) rfl)⟩
def mX7_renew : gM := (yX7_renew, cX7_renew, RX7, 3, none, 1, 24)
theorem dX7_renew_0 : decode mX7_renew.2.1 0 = .ok (.aload_n 0, 1) := by decide +kernel
theorem dX7_renew_1 : decode mX7_renew.2.1 1 = .ok (.iconst 1, 1) := by decide +kernel
theorem dX7_renew_2 : decode mX7_renew.2.1 2 = .ok (.putfield 15, 3) := by decide +kernel
theorem dX7_renew_5 : decode mX7_renew.2.1 5 = .ok (.aload_n 0, 1) := by decide +kernel
theorem dX7_renew_6 : decode mX7_renew.2.1 6 = .ok (.iload_n 1, 1) := by decide +kernel
theorem dX7_renew_7 : decode mX7_renew.2.1 7 = .ok (.putfield 19, 3) := by decide +kernel
theorem dX7_renew_10 : decode mX7_renew.2.1 10 = .ok (.aload_n 0, 1) := by decide +kernel
theorem dX7_renew_11 : decode mX7_renew.2.1 11 = .ok (.iload_n 2, 1) := by decide +kernel
theorem dX7_renew_12 : decode mX7_renew.2.1 12 = .ok (.putfield 23, 3) := by decide +kernel
theorem dX7_renew_15 : decode mX7_renew.2.1 15 = .ok (.aload_n 0, 1) := by decide +kernel
theorem dX7_renew_16 : decode mX7_renew.2.1 16 = .ok (.getfield 9, 3) := by decide +kernel
theorem dX7_renew_19 : decode mX7_renew.2.1 19 = .ok (.lconst 0, 1) := by decide +kernel
theorem dX7_renew_20 : decode mX7_renew.2.1 20 = .ok (.invokestatic 26, 3) := by decide +kernel
theorem dX7_renew_23 : decode mX7_renew.2.1 23 = .ok (.return_, 1) := by decide +kernel
theorem okX7_renew_26 : gOkS mX7_renew mJ7_fill_d0a16 26 2 := ⟨List.forall_mem_cons.mpr ⟨(gm 1153 (by decide +kernel) rfl), List.forall_mem_cons.mpr ⟨(gm 1151 (by decide +kernel) rfl), List.forall_mem_cons.mpr ⟨(gm 1152 (by decide +kernel) rfl), List.forall_mem_cons.mpr ⟨(gm 123 (by decide +kernel) rfl), fun _ h => absurd h List.not_mem_nil⟩⟩⟩⟩, by decide +kernel, by decide +kernel, by decide +kernel⟩
def fX7_renew (t : Nat) (p1 : Int32) (p2 : Int32) (σ : gS) : Option (Unit × gS) :=
  bnd (gsI σ t 0 1) fun σ1 =>
  bnd (gsI σ1 t 1 p1) fun σ2 =>
  bnd (gsI σ2 t 2 p2) fun σ3 =>
  bd (fJ7_fill_d0a16 (t + 1) 300 0 σ3) fun _ σ4 =>
  some ((), σ4)
set_option maxHeartbeats 4000000 in
set_option maxRecDepth 100000 in
theorem pX7_renew {E : gE} {t : Nat} {p1 : Int32} {p2 : Int32} {r : Unit} {σ' : gS} {σ : gS} (ht : gRo t) (h : fX7_renew t p1 p2 σ = some (r, σ')) : gG E mX7_renew 0 [(0, .ref t), (1, .int p1), (2, .int p2)] [] σ (none) σ' := by
  unfold fX7_renew at h
  refine g_aload_n dX7_renew_0 rfl 0 rfl ?_
  refine g_iconst (v := 1) dX7_renew_1 (by decide) ?_
  obtain ⟨σ1, eσ1, h⟩ := bnd_nm h
  refine g_putZ dX7_renew_2 (gi_ro ht) rfl fp_RX7_15 (Or.inr rfl) (g_st eσ1 ?_)
  refine g_aload_n dX7_renew_5 rfl 0 rfl ?_
  refine g_iload_n dX7_renew_6 rfl 1 rfl ?_
  obtain ⟨σ2, eσ2, h⟩ := bnd_nm h
  refine g_putI dX7_renew_7 (gi_ro ht) rfl fp_RX7_19 (g_st eσ2 ?_)
  refine g_aload_n dX7_renew_10 rfl 0 rfl ?_
  refine g_iload_n dX7_renew_11 rfl 2 rfl ?_
  obtain ⟨σ3, eσ3, h⟩ := bnd_nm h
  refine g_putI dX7_renew_12 (gi_ro ht) rfl fp_RX7_23 (g_st eσ3 ?_)
  refine g_aload_n dX7_renew_15 rfl 0 rfl ?_
  refine g_getC (n := (t + 1)) dX7_renew_16 (gi_ro ht) rfl fl_RX7_9 ?_
  refine g_lconst (v := 0) dX7_renew_19 (by decide) ?_
  obtain ⟨_, σ4, y5, h⟩ := bd_some h
  refine g_callSv (as := [.ref (t + 1), .long 0]) (st := []) (zJ7_fill_d0a16 (gi_ro1 ht) (by decide) y5) dX7_renew_20 okX7_renew_26 (Nat.le_of_ble_eq_true rfl) ?_
  obtain ⟨rfl, rfl⟩ := so_inj h
  exact g_vret dX7_renew_23 rfl
theorem zX7_renew {E : gE} {t : Nat} {p1 : Int32} {p2 : Int32} {r : Unit} {σ σ' : gS} (ht : gRo t) (h : fX7_renew t p1 p2 σ = some (r, σ')) : gC E mX7_renew [.ref t, .int p1, .int p2] σ (none) σ' :=
  gC_of (by decide +kernel) rfl (Nat.le_of_ble_eq_true rfl) (pX7_renew ht h)
theorem fl_RX7_19 : gFl RX7 19 7 1 := ⟨RX7, TX7, 4, rfl, by decide, ux_7, Or.inl (gm 511 (by decide +kernel) rfl)⟩
def mX7_cutToLane : gM := (yX7_cutToLane, cX7_cutToLane, RX7, 3, (some .long), 0, 0)
theorem dX7_cutToLane_0 : decode mX7_cutToLane.2.1 0 = .ok (.aload_n 0, 1) := by decide +kernel
theorem dX7_cutToLane_1 : decode mX7_cutToLane.2.1 1 = .ok (.getfield 19, 3) := by decide +kernel
theorem dX7_cutToLane_4 : decode mX7_cutToLane.2.1 4 = .ok (.tableswitch 42 0 2 #[28, 33, 38], 28) := by decide +kernel
theorem dX7_cutToLane_32 : decode mX7_cutToLane.2.1 32 = .ok (.lload_n 1, 1) := by decide +kernel
theorem dX7_cutToLane_33 : decode mX7_cutToLane.2.1 33 = .ok (.l2i, 1) := by decide +kernel
theorem dX7_cutToLane_34 : decode mX7_cutToLane.2.1 34 = .ok (.i2b, 1) := by decide +kernel
theorem dX7_cutToLane_35 : decode mX7_cutToLane.2.1 35 = .ok (.i2l, 1) := by decide +kernel
theorem dX7_cutToLane_36 : decode mX7_cutToLane.2.1 36 = .ok (.lreturn, 1) := by decide +kernel
theorem dX7_cutToLane_37 : decode mX7_cutToLane.2.1 37 = .ok (.lload_n 1, 1) := by decide +kernel
theorem dX7_cutToLane_38 : decode mX7_cutToLane.2.1 38 = .ok (.l2i, 1) := by decide +kernel
theorem dX7_cutToLane_39 : decode mX7_cutToLane.2.1 39 = .ok (.i2s, 1) := by decide +kernel
theorem dX7_cutToLane_40 : decode mX7_cutToLane.2.1 40 = .ok (.i2l, 1) := by decide +kernel
theorem dX7_cutToLane_41 : decode mX7_cutToLane.2.1 41 = .ok (.lreturn, 1) := by decide +kernel
theorem dX7_cutToLane_42 : decode mX7_cutToLane.2.1 42 = .ok (.lload_n 1, 1) := by decide +kernel
theorem dX7_cutToLane_43 : decode mX7_cutToLane.2.1 43 = .ok (.l2i, 1) := by decide +kernel
theorem dX7_cutToLane_44 : decode mX7_cutToLane.2.1 44 = .ok (.i2l, 1) := by decide +kernel
theorem dX7_cutToLane_45 : decode mX7_cutToLane.2.1 45 = .ok (.lreturn, 1) := by decide +kernel
theorem dX7_cutToLane_46 : decode mX7_cutToLane.2.1 46 = .ok (.lload_n 1, 1) := by decide +kernel
theorem dX7_cutToLane_47 : decode mX7_cutToLane.2.1 47 = .ok (.lreturn, 1) := by decide +kernel
def fX7_cutToLane (t : Nat) (p1 : Int64) (σ : gS) : Option (Int64 × gS) :=
  if (σ.1 t 1) = 0 then
    some (p1.toInt32.toInt8.toInt32.toInt64, σ)
  else
    if (σ.1 t 1) = 1 then
    some (p1.toInt32.toInt16.toInt32.toInt64, σ)
  else
    if (σ.1 t 1) = 2 then
    some (p1.toInt32.toInt64, σ)
  else
    some (p1, σ)
set_option maxHeartbeats 4000000 in
set_option maxRecDepth 100000 in
theorem pX7_cutToLane {E : gE} {t : Nat} {p1 : Int64} {r : Int64} {σ' : gS} {σ : gS} (ht : gRo t) (h : fX7_cutToLane t p1 σ = some (r, σ')) : gG E mX7_cutToLane 0 [(0, .ref t), (1, .long p1)] [] σ (some (.long r)) σ' := by
  unfold fX7_cutToLane at h
  refine g_aload_n dX7_cutToLane_0 rfl 0 rfl ?_
  refine g_getI dX7_cutToLane_1 (gi_ro ht) rfl fl_RX7_19 ?_
  by_cases c1 : (σ.1 t 1) = 0
  · replace h := if_t h c1
    refine g_tabIn (off := 28) (t := 32) dX7_cutToLane_4 (by rw [c1]; decide) (by rw [c1]; decide) (by rw [c1]; first | done | rfl) (by decide) ?_
    refine g_lload_n dX7_cutToLane_32 rfl 1 rfl ?_
    refine g_l2i dX7_cutToLane_33 ?_
    refine g_i2b dX7_cutToLane_34 ?_
    refine g_i2l dX7_cutToLane_35 ?_
    obtain ⟨rfl, rfl⟩ := so_inj h
    exact g_lret dX7_cutToLane_36 rfl
  · replace h := if_f h c1
    by_cases c2 : (σ.1 t 1) = 1
    · replace h := if_t h c2
      refine g_tabIn (off := 33) (t := 37) dX7_cutToLane_4 (by rw [c2]; decide) (by rw [c2]; decide) (by rw [c2]; first | done | rfl) (by decide) ?_
      refine g_lload_n dX7_cutToLane_37 rfl 1 rfl ?_
      refine g_l2i dX7_cutToLane_38 ?_
      refine g_i2s dX7_cutToLane_39 ?_
      refine g_i2l dX7_cutToLane_40 ?_
      obtain ⟨rfl, rfl⟩ := so_inj h
      exact g_lret dX7_cutToLane_41 rfl
    · replace h := if_f h c2
      by_cases c3 : (σ.1 t 1) = 2
      · replace h := if_t h c3
        refine g_tabIn (off := 38) (t := 42) dX7_cutToLane_4 (by rw [c3]; decide) (by rw [c3]; decide) (by rw [c3]; first | done | rfl) (by decide) ?_
        refine g_lload_n dX7_cutToLane_42 rfl 1 rfl ?_
        refine g_l2i dX7_cutToLane_43 ?_
        refine g_i2l dX7_cutToLane_44 ?_
        obtain ⟨rfl, rfl⟩ := so_inj h
        exact g_lret dX7_cutToLane_45 rfl
      · replace h := if_f h c3
        have nc1 := lv_neT (a := 0) c1 (by decide)
        have nc2 := lv_neT (a := 1) c2 (by decide)
        have nc3 := lv_neT (a := 2) c3 (by decide)
        refine g_tabOut (t := 46) dX7_cutToLane_4 (by omega) (by decide) ?_
        refine g_lload_n dX7_cutToLane_46 rfl 1 rfl ?_
        obtain ⟨rfl, rfl⟩ := so_inj h
        exact g_lret dX7_cutToLane_47 rfl
theorem zX7_cutToLane {E : gE} {t : Nat} {p1 : Int64} {r : Int64} {σ σ' : gS} (ht : gRo t) (h : fX7_cutToLane t p1 σ = some (r, σ')) : gC E mX7_cutToLane [.ref t, .long p1] σ (some (.long r)) σ' :=
  gC_of (by decide +kernel) rfl (Nat.le_of_ble_eq_true rfl) (pX7_cutToLane ht h)
def mX7_store : gM := (yX7_store, cX7_store, RX7, 4, (some .long), 1, 22)
theorem dX7_store_0 : decode mX7_store.2.1 0 = .ok (.aload_n 0, 1) := by decide +kernel
theorem dX7_store_1 : decode mX7_store.2.1 1 = .ok (.getfield 9, 3) := by decide +kernel
theorem dX7_store_4 : decode mX7_store.2.1 4 = .ok (.iload_n 1, 1) := by decide +kernel
theorem dX7_store_5 : decode mX7_store.2.1 5 = .ok (.aload_n 0, 1) := by decide +kernel
theorem dX7_store_6 : decode mX7_store.2.1 6 = .ok (.lload_n 2, 1) := by decide +kernel
theorem dX7_store_7 : decode mX7_store.2.1 7 = .ok (.invokevirtual 32, 3) := by decide +kernel
theorem dX7_store_10 : decode mX7_store.2.1 10 = .ok (.lastore, 1) := by decide +kernel
theorem dX7_store_11 : decode mX7_store.2.1 11 = .ok (.aload_n 0, 1) := by decide +kernel
theorem dX7_store_12 : decode mX7_store.2.1 12 = .ok (.getfield 9, 3) := by decide +kernel
theorem dX7_store_15 : decode mX7_store.2.1 15 = .ok (.iload_n 1, 1) := by decide +kernel
theorem dX7_store_16 : decode mX7_store.2.1 16 = .ok (.laload, 1) := by decide +kernel
theorem dX7_store_17 : decode mX7_store.2.1 17 = .ok (.lreturn, 1) := by decide +kernel
theorem okX7_store_32 : gOkV mX7_store mX7_cutToLane 32 1 := ⟨List.forall_mem_cons.mpr ⟨(gm 1173 (by decide +kernel) rfl), List.forall_mem_cons.mpr ⟨(gm 1170 (by decide +kernel) rfl), List.forall_mem_cons.mpr ⟨(gm 1172 (by decide +kernel) rfl), List.forall_mem_cons.mpr ⟨(gm 55 (by decide +kernel) rfl), List.forall_mem_cons.mpr ⟨(gm 121 (by decide +kernel) rfl), fun _ h => absurd h List.not_mem_nil⟩⟩⟩⟩⟩, by decide +kernel, by decide +kernel, by decide +kernel⟩
def fX7_store (t : Nat) (p1 : Int32) (p2 : Int64) (σ : gS) : Option (Int64 × gS) :=
  bd (fX7_cutToLane t p2 σ) fun x1 σ2 =>
  gg (¬ (p1 < 0 ∨ 300 ≤ p1.toNatClampNeg)) (
  bnd (gsJ σ2 (t + 1) p1.toNatClampNeg x1) fun σ5 =>
  gg (¬ (p1 < 0 ∨ 300 ≤ p1.toNatClampNeg)) (
  some (σ5.2.1 (t + 1) p1.toNatClampNeg, σ5)))
set_option maxHeartbeats 4000000 in
set_option maxRecDepth 100000 in
theorem pX7_store {E : gE} {t : Nat} {p1 : Int32} {p2 : Int64} {r : Int64} {σ' : gS} {σ : gS} (ht : gRo t) (h : fX7_store t p1 p2 σ = some (r, σ')) : gG E mX7_store 0 [(0, .ref t), (1, .int p1), (2, .long p2)] [] σ (some (.long r)) σ' := by
  unfold fX7_store at h
  refine g_aload_n dX7_store_0 rfl 0 rfl ?_
  refine g_getC (n := (t + 1)) dX7_store_1 (gi_ro ht) rfl fl_RX7_9 ?_
  refine g_iload_n dX7_store_4 rfl 1 rfl ?_
  refine g_aload_n dX7_store_5 rfl 0 rfl ?_
  refine g_lload_n dX7_store_6 rfl 2 rfl ?_
  obtain ⟨x1, σ2, y3, h⟩ := bd_some h
  refine g_callVr (as := [.long p2]) (st := [.int p1, .ref (t + 1)]) (zX7_cutToLane ht y3) dX7_store_7 (gi_ro ht) rfl okX7_store_32 (Nat.le_of_ble_eq_true rfl) ?_
  obtain ⟨g4, h⟩ := gg_some h
  obtain ⟨σ5, eσ5, h⟩ := bnd_nm h
  refine g_last dX7_store_10 (gi_ro1 ht) g4 (g_st eσ5 ?_)
  refine g_aload_n dX7_store_11 rfl 0 rfl ?_
  refine g_getC (n := (t + 1)) dX7_store_12 (gi_ro ht) rfl fl_RX7_9 ?_
  refine g_iload_n dX7_store_15 rfl 1 rfl ?_
  obtain ⟨g6, h⟩ := gg_some h
  refine g_lald dX7_store_16 (gi_ro1 ht) g6 ?_
  obtain ⟨rfl, rfl⟩ := so_inj h
  exact g_lret dX7_store_17 rfl
theorem zX7_store {E : gE} {t : Nat} {p1 : Int32} {p2 : Int64} {r : Int64} {σ σ' : gS} (ht : gRo t) (h : fX7_store t p1 p2 σ = some (r, σ')) : gC E mX7_store [.ref t, .int p1, .long p2] σ (some (.long r)) σ' :=
  gC_of (by decide +kernel) rfl (Nat.le_of_ble_eq_true rfl) (pX7_store ht h)
theorem fl_RX7_23 : gFl RX7 23 7 2 := ⟨RX7, TX7, 4, rfl, by decide, ux_7, Or.inl (gm 513 (by decide +kernel) rfl)⟩
def mX7_holds : gM := (yX7_holds, cX7_holds, RX7, 3, (some .boolean), 0, 0)
theorem dX7_holds_0 : decode mX7_holds.2.1 0 = .ok (.iload_n 1, 1) := by decide +kernel
theorem dX7_holds_1 : decode mX7_holds.2.1 1 = .ok (.ifCond .lt 25, 3) := by decide +kernel
theorem dX7_holds_4 : decode mX7_holds.2.1 4 = .ok (.iload_n 2, 1) := by decide +kernel
theorem dX7_holds_5 : decode mX7_holds.2.1 5 = .ok (.ifCond .lt 21, 3) := by decide +kernel
theorem dX7_holds_8 : decode mX7_holds.2.1 8 = .ok (.iload_n 1, 1) := by decide +kernel
theorem dX7_holds_9 : decode mX7_holds.2.1 9 = .ok (.i2l, 1) := by decide +kernel
theorem dX7_holds_10 : decode mX7_holds.2.1 10 = .ok (.iload_n 2, 1) := by decide +kernel
theorem dX7_holds_11 : decode mX7_holds.2.1 11 = .ok (.i2l, 1) := by decide +kernel
theorem dX7_holds_12 : decode mX7_holds.2.1 12 = .ok (.ladd, 1) := by decide +kernel
theorem dX7_holds_13 : decode mX7_holds.2.1 13 = .ok (.aload_n 0, 1) := by decide +kernel
theorem dX7_holds_14 : decode mX7_holds.2.1 14 = .ok (.getfield 23, 3) := by decide +kernel
theorem dX7_holds_17 : decode mX7_holds.2.1 17 = .ok (.i2l, 1) := by decide +kernel
theorem dX7_holds_18 : decode mX7_holds.2.1 18 = .ok (.lcmp, 1) := by decide +kernel
theorem dX7_holds_19 : decode mX7_holds.2.1 19 = .ok (.ifCond .gt 7, 3) := by decide +kernel
theorem dX7_holds_22 : decode mX7_holds.2.1 22 = .ok (.iconst 1, 1) := by decide +kernel
theorem dX7_holds_23 : decode mX7_holds.2.1 23 = .ok (.goto 4, 3) := by decide +kernel
theorem dX7_holds_26 : decode mX7_holds.2.1 26 = .ok (.iconst 0, 1) := by decide +kernel
theorem dX7_holds_27 : decode mX7_holds.2.1 27 = .ok (.ireturn, 1) := by decide +kernel
def fX7_holds_27 (t : Nat) (p1 : Int32) (p2 : Int32) (s0 : Int32) (σ : gS) : Option (Int32 × gS) :=
  gg (s0 = 0 ∨ s0 = 1) (
  some (s0, σ))
set_option maxHeartbeats 4000000 in
set_option maxRecDepth 100000 in
theorem pX7_holds_27 {E : gE} {t : Nat} {p1 : Int32} {p2 : Int32} {r : Int32} {σ' : gS} {s0 : Int32} {σ : gS} (ht : gRo t) (h : fX7_holds_27 t p1 p2 s0 σ = some (r, σ')) : gG E mX7_holds 27 [] [.int s0] σ (some (.int r)) σ' := by
  unfold fX7_holds_27 at h
  obtain ⟨g1, h⟩ := gg_some h
  obtain ⟨rfl, rfl⟩ := so_inj h
  exact g_zret dX7_holds_27 rfl g1
def fX7_holds_26 (t : Nat) (p1 : Int32) (p2 : Int32) (σ : gS) : Option (Int32 × gS) :=
  fX7_holds_27 t p1 p2 0 σ
set_option maxHeartbeats 4000000 in
set_option maxRecDepth 100000 in
theorem pX7_holds_26 {E : gE} {t : Nat} {p1 : Int32} {p2 : Int32} {r : Int32} {σ' : gS} {σ : gS} (ht : gRo t) (h : fX7_holds_26 t p1 p2 σ = some (r, σ')) : gG E mX7_holds 26 [] [] σ (some (.int r)) σ' := by
  unfold fX7_holds_26 at h
  refine g_iconst (v := 0) dX7_holds_26 (by decide) ?_
  exact pX7_holds_27 ht h
def fX7_holds (t : Nat) (p1 : Int32) (p2 : Int32) (σ : gS) : Option (Int32 × gS) :=
  if p1 < 0 then
    fX7_holds_26 t p1 p2 σ
  else
    if p2 < 0 then
      fX7_holds_26 t p1 p2 σ
    else
      if 0 < (lg_cmp (p1.toInt64 + p2.toInt64) ((σ.1 t 2).toInt64)) then
        fX7_holds_26 t p1 p2 σ
      else
        fX7_holds_27 t p1 p2 1 σ
set_option maxHeartbeats 4000000 in
set_option maxRecDepth 100000 in
theorem pX7_holds {E : gE} {t : Nat} {p1 : Int32} {p2 : Int32} {r : Int32} {σ' : gS} {σ : gS} (ht : gRo t) (h : fX7_holds t p1 p2 σ = some (r, σ')) : gG E mX7_holds 0 [(0, .ref t), (1, .int p1), (2, .int p2)] [] σ (some (.int r)) σ' := by
  unfold fX7_holds at h
  refine g_iload_n dX7_holds_0 rfl 1 rfl ?_
  refine g_if_lt (t := 26) dX7_holds_1 (by decide) (fun c1 => ?_) (fun c1 => ?_)
  · replace h := if_t h c1
    refine g_sub [] rfl ?_
    exact pX7_holds_26 ht h
  · replace h := if_f h c1
    refine g_iload_n dX7_holds_4 rfl 2 rfl ?_
    refine g_if_lt (t := 26) dX7_holds_5 (by decide) (fun c2 => ?_) (fun c2 => ?_)
    · replace h := if_t h c2
      refine g_sub [] rfl ?_
      exact pX7_holds_26 ht h
    · replace h := if_f h c2
      refine g_iload_n dX7_holds_8 rfl 1 rfl ?_
      refine g_i2l dX7_holds_9 ?_
      refine g_iload_n dX7_holds_10 rfl 2 rfl ?_
      refine g_i2l dX7_holds_11 ?_
      refine g_ladd dX7_holds_12 ?_
      refine g_aload_n dX7_holds_13 rfl 0 rfl ?_
      refine g_getI dX7_holds_14 (gi_ro ht) rfl fl_RX7_23 ?_
      refine g_i2l dX7_holds_17 ?_
      refine g_lcmp dX7_holds_18 ?_
      refine g_if_gt (t := 26) dX7_holds_19 (by decide) (fun c3 => ?_) (fun c3 => ?_)
      · replace h := if_t h c3
        refine g_sub [] rfl ?_
        exact pX7_holds_26 ht h
      · replace h := if_f h c3
        refine g_iconst (v := 1) dX7_holds_22 (by decide) ?_
        refine g_goto (t := 27) dX7_holds_23 (by decide) ?_
        refine g_sub [] rfl ?_
        exact pX7_holds_27 ht h
theorem zX7_holds {E : gE} {t : Nat} {p1 : Int32} {p2 : Int32} {r : Int32} {σ σ' : gS} (ht : gRo t) (h : fX7_holds t p1 p2 σ = some (r, σ')) : gC E mX7_holds [.ref t, .int p1, .int p2] σ (some (.int r)) σ' :=
  gC_of (by decide +kernel) rfl (Nat.le_of_ble_eq_true rfl) (pX7_holds ht h)
theorem wl_RX7_36 : Cond.constantLong RX7 36 31 ∈ gWS := (gm 1220 (by decide +kernel) rfl)
theorem fl_RX7_15 : gFl RX7 15 7 0 := ⟨RX7, TX7, 4, rfl, by decide, ux_7, Or.inl (gm 509 (by decide +kernel) rfl)⟩
def mX7_mixedInto : gM := (yX7_mixedInto, cX7_mixedInto, RX7, 6, (some .long), 0, 0)
theorem dX7_mixedInto_0 : decode mX7_mixedInto.2.1 0 = .ok (.aload_n 0, 1) := by decide +kernel
theorem dX7_mixedInto_1 : decode mX7_mixedInto.2.1 1 = .ok (.getfield 15, 3) := by decide +kernel
theorem dX7_mixedInto_4 : decode mX7_mixedInto.2.1 4 = .ok (.ifCond .ne 9, 3) := by decide +kernel
theorem dX7_mixedInto_7 : decode mX7_mixedInto.2.1 7 = .ok (.ldc2_w 36, 3) := by decide +kernel
theorem dX7_mixedInto_10 : decode mX7_mixedInto.2.1 10 = .ok (.lload_n 1, 1) := by decide +kernel
theorem dX7_mixedInto_11 : decode mX7_mixedInto.2.1 11 = .ok (.lmul, 1) := by decide +kernel
theorem dX7_mixedInto_12 : decode mX7_mixedInto.2.1 12 = .ok (.lreturn, 1) := by decide +kernel
theorem dX7_mixedInto_13 : decode mX7_mixedInto.2.1 13 = .ok (.ldc2_w 36, 3) := by decide +kernel
theorem dX7_mixedInto_16 : decode mX7_mixedInto.2.1 16 = .ok (.lload_n 1, 1) := by decide +kernel
theorem dX7_mixedInto_17 : decode mX7_mixedInto.2.1 17 = .ok (.lmul, 1) := by decide +kernel
theorem dX7_mixedInto_18 : decode mX7_mixedInto.2.1 18 = .ok (.aload_n 0, 1) := by decide +kernel
theorem dX7_mixedInto_19 : decode mX7_mixedInto.2.1 19 = .ok (.getfield 19, 3) := by decide +kernel
theorem dX7_mixedInto_22 : decode mX7_mixedInto.2.1 22 = .ok (.i2l, 1) := by decide +kernel
theorem dX7_mixedInto_23 : decode mX7_mixedInto.2.1 23 = .ok (.ladd, 1) := by decide +kernel
theorem dX7_mixedInto_24 : decode mX7_mixedInto.2.1 24 = .ok (.lconst 1, 1) := by decide +kernel
theorem dX7_mixedInto_25 : decode mX7_mixedInto.2.1 25 = .ok (.ladd, 1) := by decide +kernel
theorem dX7_mixedInto_26 : decode mX7_mixedInto.2.1 26 = .ok (.lstore_n 3, 1) := by decide +kernel
theorem dX7_mixedInto_27 : decode mX7_mixedInto.2.1 27 = .ok (.iconst 0, 1) := by decide +kernel
theorem dX7_mixedInto_28 : decode mX7_mixedInto.2.1 28 = .ok (.istore 5, 2) := by decide +kernel
theorem dX7_mixedInto_30 : decode mX7_mixedInto.2.1 30 = .ok (.iload 5, 2) := by decide +kernel
theorem dX7_mixedInto_32 : decode mX7_mixedInto.2.1 32 = .ok (.aload_n 0, 1) := by decide +kernel
theorem dX7_mixedInto_33 : decode mX7_mixedInto.2.1 33 = .ok (.getfield 23, 3) := by decide +kernel
theorem dX7_mixedInto_36 : decode mX7_mixedInto.2.1 36 = .ok (.if_icmp .ge 23, 3) := by decide +kernel
theorem dX7_mixedInto_39 : decode mX7_mixedInto.2.1 39 = .ok (.ldc2_w 36, 3) := by decide +kernel
theorem dX7_mixedInto_42 : decode mX7_mixedInto.2.1 42 = .ok (.lload_n 3, 1) := by decide +kernel
theorem dX7_mixedInto_43 : decode mX7_mixedInto.2.1 43 = .ok (.lmul, 1) := by decide +kernel
theorem dX7_mixedInto_44 : decode mX7_mixedInto.2.1 44 = .ok (.aload_n 0, 1) := by decide +kernel
theorem dX7_mixedInto_45 : decode mX7_mixedInto.2.1 45 = .ok (.getfield 9, 3) := by decide +kernel
theorem dX7_mixedInto_48 : decode mX7_mixedInto.2.1 48 = .ok (.iload 5, 2) := by decide +kernel
theorem dX7_mixedInto_50 : decode mX7_mixedInto.2.1 50 = .ok (.laload, 1) := by decide +kernel
theorem dX7_mixedInto_51 : decode mX7_mixedInto.2.1 51 = .ok (.ladd, 1) := by decide +kernel
theorem dX7_mixedInto_52 : decode mX7_mixedInto.2.1 52 = .ok (.lstore_n 3, 1) := by decide +kernel
theorem dX7_mixedInto_53 : decode mX7_mixedInto.2.1 53 = .ok (.iinc 5 1, 3) := by decide +kernel
theorem dX7_mixedInto_56 : decode mX7_mixedInto.2.1 56 = .ok (.goto (-26), 3) := by decide +kernel
theorem dX7_mixedInto_59 : decode mX7_mixedInto.2.1 59 = .ok (.lload_n 3, 1) := by decide +kernel
theorem dX7_mixedInto_60 : decode mX7_mixedInto.2.1 60 = .ok (.lreturn, 1) := by decide +kernel
def fX7_mixedInto_30 (t : Nat) (p1 : Int64) : Nat → Int64 → Int32 → gS → Option (Int64 × gS)
  | 0, _, _, _ => none
  | n + 1, v3, v5, σ => if (σ.1 t 2) ≤ v5 then
    some (v3, σ)
  else
    gg (¬ (v5 < 0 ∨ 300 ≤ v5.toNatClampNeg)) (
    bnd ((31 * v3) + (σ.2.1 (t + 1) v5.toNatClampNeg)) fun x3 =>
    bnd (v5 + 1) fun x4 =>
    fX7_mixedInto_30 t p1 n x3 x4 σ)
set_option maxHeartbeats 4000000 in
set_option maxRecDepth 100000 in
theorem pX7_mixedInto_30 {E : gE} {t : Nat} {p1 : Int64} {r : Int64} {σ' : gS} (ht : gRo t) : ∀ (n : Nat) (v3 : Int64) (v5 : Int32) (σ : gS), fX7_mixedInto_30 t p1 n v3 v5 σ = some (r, σ') → gG E mX7_mixedInto 30 [(0, .ref t), (3, .long v3), (5, .int v5)] [] σ (some (.long r)) σ' := by
  intro n
  induction n with
  | zero => intro v3 v5 σ h; exact absurd (show none = some (r, σ') from h) (by intro q; cases q)
  | succ n ih =>
  intro v3 v5 σ h
  unfold fX7_mixedInto_30 at h
  refine g_iload dX7_mixedInto_30 2 rfl ?_
  refine g_aload_n dX7_mixedInto_32 rfl 0 rfl ?_
  refine g_getI dX7_mixedInto_33 (gi_ro ht) rfl fl_RX7_23 ?_
  refine g_icmp_ge (t := 59) dX7_mixedInto_36 (by decide) (fun c1 => ?_) (fun c1 => ?_)
  · replace h := if_t h c1
    refine g_lload_n dX7_mixedInto_59 rfl 1 rfl ?_
    obtain ⟨rfl, rfl⟩ := so_inj h
    exact g_lret dX7_mixedInto_60 rfl
  · replace h := if_f h c1
    refine g_ldc2 (v := 31) dX7_mixedInto_39 wl_RX7_36 ?_
    refine g_lload_n dX7_mixedInto_42 rfl 1 rfl ?_
    refine g_lmul dX7_mixedInto_43 ?_
    refine g_aload_n dX7_mixedInto_44 rfl 0 rfl ?_
    refine g_getC (n := (t + 1)) dX7_mixedInto_45 (gi_ro ht) rfl fl_RX7_9 ?_
    refine g_iload dX7_mixedInto_48 2 rfl ?_
    obtain ⟨g2, h⟩ := gg_some h
    refine g_lald dX7_mixedInto_50 (gi_ro1 ht) g2 ?_
    refine g_ladd dX7_mixedInto_51 ?_
    obtain ⟨x3, ex3, h⟩ := bnd_nm h
    refine g_topl ex3 ?_
    refine g_lstore_n (lv' := [(3, .long x3), (0, .ref t), (5, .int v5)]) dX7_mixedInto_52 rfl (Nat.le_of_ble_eq_true rfl) rfl ?_
    obtain ⟨x4, ex4, h⟩ := bnd_nm h
    refine g_iinc (j := 2) (v := x4) (lv' := [(5, .int x4), (3, .long x3), (0, .ref t)]) dX7_mixedInto_53 rfl (by rw [ex4]; rfl) (Nat.le_of_ble_eq_true rfl) rfl ?_
    refine g_goto (t := 30) dX7_mixedInto_56 (by decide) ?_
    refine g_sub [2, 1, 0] rfl ?_
    exact ih x3 x4 σ h
def fX7_mixedInto (t : Nat) (p1 : Int64) (σ : gS) : Option (Int64 × gS) :=
  if (σ.1 t 0) = 0 then
    some (31 * p1, σ)
  else
    bnd (((31 * p1) + ((σ.1 t 1).toInt64)) + 1) fun x2 =>
    fX7_mixedInto_30 t p1 2000 x2 0 σ
set_option maxHeartbeats 4000000 in
set_option maxRecDepth 100000 in
theorem pX7_mixedInto {E : gE} {t : Nat} {p1 : Int64} {r : Int64} {σ' : gS} {σ : gS} (ht : gRo t) (h : fX7_mixedInto t p1 σ = some (r, σ')) : gG E mX7_mixedInto 0 [(0, .ref t), (1, .long p1)] [] σ (some (.long r)) σ' := by
  unfold fX7_mixedInto at h
  refine g_aload_n dX7_mixedInto_0 rfl 0 rfl ?_
  refine g_getI dX7_mixedInto_1 (gi_ro ht) rfl fl_RX7_15 ?_
  refine g_if_ne (t := 13) dX7_mixedInto_4 (by decide) (fun c1 => ?_) (fun c1 => ?_)
  · replace h := if_f h c1
    refine g_ldc2 (v := 31) dX7_mixedInto_13 wl_RX7_36 ?_
    refine g_lload_n dX7_mixedInto_16 rfl 1 rfl ?_
    refine g_lmul dX7_mixedInto_17 ?_
    refine g_aload_n dX7_mixedInto_18 rfl 0 rfl ?_
    refine g_getI dX7_mixedInto_19 (gi_ro ht) rfl fl_RX7_19 ?_
    refine g_i2l dX7_mixedInto_22 ?_
    refine g_ladd dX7_mixedInto_23 ?_
    refine g_lconst (v := 1) dX7_mixedInto_24 (by decide) ?_
    refine g_ladd dX7_mixedInto_25 ?_
    obtain ⟨x2, ex2, h⟩ := bnd_nm h
    refine g_topl ex2 ?_
    refine g_lstore_n (lv' := [(3, .long x2), (0, .ref t), (1, .long p1)]) dX7_mixedInto_26 rfl (Nat.le_of_ble_eq_true rfl) rfl ?_
    refine g_iconst (v := 0) dX7_mixedInto_27 (by decide) ?_
    refine g_istore (lv' := [(5, .int 0), (3, .long x2), (0, .ref t), (1, .long p1)]) dX7_mixedInto_28 (Nat.le_of_ble_eq_true rfl) rfl ?_
    refine g_sub [2, 1, 0] rfl ?_
    exact pX7_mixedInto_30 ht 2000 x2 0 σ h
  · replace h := if_t h c1
    refine g_ldc2 (v := 31) dX7_mixedInto_7 wl_RX7_36 ?_
    refine g_lload_n dX7_mixedInto_10 rfl 1 rfl ?_
    refine g_lmul dX7_mixedInto_11 ?_
    obtain ⟨rfl, rfl⟩ := so_inj h
    exact g_lret dX7_mixedInto_12 rfl
theorem zX7_mixedInto {E : gE} {t : Nat} {p1 : Int64} {r : Int64} {σ σ' : gS} (ht : gRo t) (h : fX7_mixedInto t p1 σ = some (r, σ')) : gC E mX7_mixedInto [.ref t, .long p1] σ (some (.long r)) σ' :=
  gC_of (by decide +kernel) rfl (Nat.le_of_ble_eq_true rfl) (pX7_mixedInto ht h)
theorem fl_RX8_9 : gFl RX8 9 8 0 := ⟨RX8, TX8, 6, rfl, by decide, ux_8, Or.inl (gm 455 (by decide +kernel) rfl)⟩
theorem wc_RX8_36 : Cond.constant RX8 36 (-1000000) ∈ gWS := (gm 1015 (by decide +kernel) rfl)
def mX8_firstToReach : gM := (yX8_firstToReach, cX8_firstToReach, RX8, 5, (some .int), 1, 22)
theorem dX8_firstToReach_0 : decode mX8_firstToReach.2.1 0 = .ok (.iconst 0, 1) := by decide +kernel
theorem dX8_firstToReach_1 : decode mX8_firstToReach.2.1 1 = .ok (.istore_n 2, 1) := by decide +kernel
theorem dX8_firstToReach_2 : decode mX8_firstToReach.2.1 2 = .ok (.iload_n 2, 1) := by decide +kernel
theorem dX8_firstToReach_3 : decode mX8_firstToReach.2.1 3 = .ok (.aload_n 1, 1) := by decide +kernel
theorem dX8_firstToReach_4 : decode mX8_firstToReach.2.1 4 = .ok (.iconst 3, 1) := by decide +kernel
theorem dX8_firstToReach_5 : decode mX8_firstToReach.2.1 5 = .ok (.invokevirtual 41, 3) := by decide +kernel
theorem dX8_firstToReach_8 : decode mX8_firstToReach.2.1 8 = .ok (.if_icmp .ge 58, 3) := by decide +kernel
theorem dX8_firstToReach_11 : decode mX8_firstToReach.2.1 11 = .ok (.aload_n 0, 1) := by decide +kernel
theorem dX8_firstToReach_12 : decode mX8_firstToReach.2.1 12 = .ok (.getfield 9, 3) := by decide +kernel
theorem dX8_firstToReach_15 : decode mX8_firstToReach.2.1 15 = .ok (.aload_n 1, 1) := by decide +kernel
theorem dX8_firstToReach_16 : decode mX8_firstToReach.2.1 16 = .ok (.iconst 3, 1) := by decide +kernel
theorem dX8_firstToReach_17 : decode mX8_firstToReach.2.1 17 = .ok (.iload_n 2, 1) := by decide +kernel
theorem dX8_firstToReach_18 : decode mX8_firstToReach.2.1 18 = .ok (.invokevirtual 53, 3) := by decide +kernel
theorem dX8_firstToReach_21 : decode mX8_firstToReach.2.1 21 = .ok (.iaload, 1) := by decide +kernel
theorem dX8_firstToReach_22 : decode mX8_firstToReach.2.1 22 = .ok (.ifCond .eq 7, 3) := by decide +kernel
theorem dX8_firstToReach_25 : decode mX8_firstToReach.2.1 25 = .ok (.iconst 1, 1) := by decide +kernel
theorem dX8_firstToReach_26 : decode mX8_firstToReach.2.1 26 = .ok (.goto 4, 3) := by decide +kernel
theorem dX8_firstToReach_29 : decode mX8_firstToReach.2.1 29 = .ok (.iconst 0, 1) := by decide +kernel
theorem dX8_firstToReach_30 : decode mX8_firstToReach.2.1 30 = .ok (.istore_n 3, 1) := by decide +kernel
theorem dX8_firstToReach_31 : decode mX8_firstToReach.2.1 31 = .ok (.aload_n 0, 1) := by decide +kernel
theorem dX8_firstToReach_32 : decode mX8_firstToReach.2.1 32 = .ok (.getfield 9, 3) := by decide +kernel
theorem dX8_firstToReach_35 : decode mX8_firstToReach.2.1 35 = .ok (.aload_n 1, 1) := by decide +kernel
theorem dX8_firstToReach_36 : decode mX8_firstToReach.2.1 36 = .ok (.iconst 3, 1) := by decide +kernel
theorem dX8_firstToReach_37 : decode mX8_firstToReach.2.1 37 = .ok (.iload_n 2, 1) := by decide +kernel
theorem dX8_firstToReach_38 : decode mX8_firstToReach.2.1 38 = .ok (.invokevirtual 57, 3) := by decide +kernel
theorem dX8_firstToReach_41 : decode mX8_firstToReach.2.1 41 = .ok (.iaload, 1) := by decide +kernel
theorem dX8_firstToReach_42 : decode mX8_firstToReach.2.1 42 = .ok (.ifCond .eq 7, 3) := by decide +kernel
theorem dX8_firstToReach_45 : decode mX8_firstToReach.2.1 45 = .ok (.iconst 1, 1) := by decide +kernel
theorem dX8_firstToReach_46 : decode mX8_firstToReach.2.1 46 = .ok (.goto 4, 3) := by decide +kernel
theorem dX8_firstToReach_49 : decode mX8_firstToReach.2.1 49 = .ok (.iconst 0, 1) := by decide +kernel
theorem dX8_firstToReach_50 : decode mX8_firstToReach.2.1 50 = .ok (.istore 4, 2) := by decide +kernel
theorem dX8_firstToReach_52 : decode mX8_firstToReach.2.1 52 = .ok (.iload_n 3, 1) := by decide +kernel
theorem dX8_firstToReach_53 : decode mX8_firstToReach.2.1 53 = .ok (.iload 4, 2) := by decide +kernel
theorem dX8_firstToReach_55 : decode mX8_firstToReach.2.1 55 = .ok (.if_icmp .eq 5, 3) := by decide +kernel
theorem dX8_firstToReach_58 : decode mX8_firstToReach.2.1 58 = .ok (.iload_n 2, 1) := by decide +kernel
theorem dX8_firstToReach_59 : decode mX8_firstToReach.2.1 59 = .ok (.ireturn, 1) := by decide +kernel
theorem dX8_firstToReach_60 : decode mX8_firstToReach.2.1 60 = .ok (.iinc 2 1, 3) := by decide +kernel
theorem dX8_firstToReach_63 : decode mX8_firstToReach.2.1 63 = .ok (.goto (-61), 3) := by decide +kernel
theorem dX8_firstToReach_66 : decode mX8_firstToReach.2.1 66 = .ok (.ldc 36, 2) := by decide +kernel
theorem dX8_firstToReach_68 : decode mX8_firstToReach.2.1 68 = .ok (.ireturn, 1) := by decide +kernel
theorem okX8_firstToReach_57 : gOkV mX8_firstToReach mX3_secondOf 57 2 := ⟨List.forall_mem_cons.mpr ⟨(gm 688 (by decide +kernel) rfl), List.forall_mem_cons.mpr ⟨(gm 1014 (by decide +kernel) rfl), List.forall_mem_cons.mpr ⟨(gm 686 (by decide +kernel) rfl), List.forall_mem_cons.mpr ⟨(gm 687 (by decide +kernel) rfl), List.forall_mem_cons.mpr ⟨(gm 109 (by decide +kernel) rfl), fun _ h => absurd h List.not_mem_nil⟩⟩⟩⟩⟩, by decide +kernel, by decide +kernel, by decide +kernel⟩
theorem okX8_firstToReach_41 : gOkV mX8_firstToReach mX3_size 41 1 := ⟨List.forall_mem_cons.mpr ⟨(gm 737 (by decide +kernel) rfl), List.forall_mem_cons.mpr ⟨(gm 1012 (by decide +kernel) rfl), List.forall_mem_cons.mpr ⟨(gm 735 (by decide +kernel) rfl), List.forall_mem_cons.mpr ⟨(gm 736 (by decide +kernel) rfl), List.forall_mem_cons.mpr ⟨(gm 109 (by decide +kernel) rfl), fun _ h => absurd h List.not_mem_nil⟩⟩⟩⟩⟩, by decide +kernel, by decide +kernel, by decide +kernel⟩
theorem okX8_firstToReach_53 : gOkV mX8_firstToReach mX3_firstOf 53 2 := ⟨List.forall_mem_cons.mpr ⟨(gm 680 (by decide +kernel) rfl), List.forall_mem_cons.mpr ⟨(gm 1013 (by decide +kernel) rfl), List.forall_mem_cons.mpr ⟨(gm 678 (by decide +kernel) rfl), List.forall_mem_cons.mpr ⟨(gm 679 (by decide +kernel) rfl), List.forall_mem_cons.mpr ⟨(gm 109 (by decide +kernel) rfl), fun _ h => absurd h List.not_mem_nil⟩⟩⟩⟩⟩, by decide +kernel, by decide +kernel, by decide +kernel⟩
def fX8_firstToReach_50 (p1 : Nat) (k2 : Int32 → gS → Option (Int32 × gS)) (v2 : Int32) (v3 : Int32) (s0 : Int32) (σ : gS) : Option (Int32 × gS) :=
  if v3 = s0 then
    bnd (v2 + 1) fun x2 =>
    k2 x2 σ
  else
    some (v2, σ)
set_option maxHeartbeats 4000000 in
set_option maxRecDepth 100000 in
theorem pX8_firstToReach_50 {E : gE} {p1 : Nat} {k2 : Int32 → gS → Option (Int32 × gS)} {r : Int32} {σ' : gS} {v2 : Int32} {v3 : Int32} {s0 : Int32} {σ : gS} (hp1 : gLk p1) (hk2 : ∀ (v2 : Int32) (σ : gS), k2 v2 σ = some (r, σ') → gG E mX8_firstToReach 2 [(0, .ref 144), (1, .ref p1), (2, .int v2)] [] σ (some (.int r)) σ') (h : fX8_firstToReach_50 p1 k2 v2 v3 s0 σ = some (r, σ')) : gG E mX8_firstToReach 50 [(0, .ref 144), (1, .ref p1), (2, .int v2), (3, .int v3)] [.int s0] σ (some (.int r)) σ' := by
  unfold fX8_firstToReach_50 at h
  refine g_istore (lv' := [(4, .int s0), (0, .ref 144), (1, .ref p1), (2, .int v2), (3, .int v3)]) dX8_firstToReach_50 (Nat.le_of_ble_eq_true rfl) rfl ?_
  refine g_iload_n dX8_firstToReach_52 rfl 4 rfl ?_
  refine g_iload dX8_firstToReach_53 0 rfl ?_
  refine g_icmp_eq (t := 60) dX8_firstToReach_55 (by decide) (fun c1 => ?_) (fun c1 => ?_)
  · replace h := if_t h c1
    obtain ⟨x2, ex2, h⟩ := bnd_nm h
    refine g_iinc (j := 3) (v := x2) (lv' := [(2, .int x2), (4, .int s0), (0, .ref 144), (1, .ref p1), (3, .int v3)]) dX8_firstToReach_60 rfl (by rw [ex2]; rfl) (Nat.le_of_ble_eq_true rfl) rfl ?_
    refine g_goto (t := 2) dX8_firstToReach_63 (by decide) ?_
    refine g_sub [2, 3, 0] rfl ?_
    exact hk2 x2 σ h
  · replace h := if_f h c1
    refine g_iload_n dX8_firstToReach_58 rfl 3 rfl ?_
    obtain ⟨rfl, rfl⟩ := so_inj h
    exact g_iret dX8_firstToReach_59 rfl
def fX8_firstToReach_30 (p1 : Nat) (k2 : Int32 → gS → Option (Int32 × gS)) (v2 : Int32) (s0 : Int32) (σ : gS) : Option (Int32 × gS) :=
  bd (fX3_secondOf p1 3 v2 σ) fun x1 σ2 =>
  gg (¬ (x1 < 0 ∨ 16 ≤ x1.toNatClampNeg)) (
  if (σ2.1 145 x1.toNatClampNeg) = 0 then
    fX8_firstToReach_50 p1 k2 v2 s0 0 σ2
  else
    fX8_firstToReach_50 p1 k2 v2 s0 1 σ2)
set_option maxHeartbeats 4000000 in
set_option maxRecDepth 100000 in
theorem pX8_firstToReach_30 {E : gE} {p1 : Nat} {k2 : Int32 → gS → Option (Int32 × gS)} {r : Int32} {σ' : gS} {v2 : Int32} {s0 : Int32} {σ : gS} (hp1 : gLk p1) (hk2 : ∀ (v2 : Int32) (σ : gS), k2 v2 σ = some (r, σ') → gG E mX8_firstToReach 2 [(0, .ref 144), (1, .ref p1), (2, .int v2)] [] σ (some (.int r)) σ') (h : fX8_firstToReach_30 p1 k2 v2 s0 σ = some (r, σ')) : gG E mX8_firstToReach 30 [(0, .ref 144), (1, .ref p1), (2, .int v2)] [.int s0] σ (some (.int r)) σ' := by
  unfold fX8_firstToReach_30 at h
  refine g_istore_n (lv' := [(3, .int s0), (0, .ref 144), (1, .ref p1), (2, .int v2)]) dX8_firstToReach_30 rfl (Nat.le_of_ble_eq_true rfl) rfl ?_
  refine g_aload_n dX8_firstToReach_31 rfl 1 rfl ?_
  refine g_getC (n := 145) dX8_firstToReach_32 gi_144 rfl fl_RX8_9 ?_
  refine g_aload_n dX8_firstToReach_35 rfl 2 rfl ?_
  refine g_iconst (v := 3) dX8_firstToReach_36 (by decide) ?_
  refine g_iload_n dX8_firstToReach_37 rfl 3 rfl ?_
  obtain ⟨x1, σ2, y3, h⟩ := bd_some h
  refine g_callVr (as := [.int 3, .int v2]) (st := [.ref 145]) (zX3_secondOf hp1 y3) dX8_firstToReach_38 (gi_lk hp1) rfl okX8_firstToReach_57 (Nat.le_of_ble_eq_true rfl) ?_
  obtain ⟨g4, h⟩ := gg_some h
  refine g_iald dX8_firstToReach_41 gi_145 g4 ?_
  refine g_if_eq (t := 49) dX8_firstToReach_42 (by decide) (fun c5 => ?_) (fun c5 => ?_)
  · replace h := if_t h c5
    refine g_iconst (v := 0) dX8_firstToReach_49 (by decide) ?_
    refine g_sub [1, 2, 3, 0] rfl ?_
    exact pX8_firstToReach_50 hp1 hk2 h
  · replace h := if_f h c5
    refine g_iconst (v := 1) dX8_firstToReach_45 (by decide) ?_
    refine g_goto (t := 50) dX8_firstToReach_46 (by decide) ?_
    refine g_sub [1, 2, 3, 0] rfl ?_
    exact pX8_firstToReach_50 hp1 hk2 h
def fX8_firstToReach_2 (p1 : Nat) : Nat → Int32 → gS → Option (Int32 × gS)
  | 0, _, _ => none
  | n + 1, v2, σ => bd (fX3_size p1 3 σ) fun x1 σ2 =>
  if x1 ≤ v2 then
    some ((-1000000), σ2)
  else
    bd (fX3_firstOf p1 3 v2 σ2) fun x5 σ6 =>
    gg (¬ (x5 < 0 ∨ 16 ≤ x5.toNatClampNeg)) (
    if (σ6.1 145 x5.toNatClampNeg) = 0 then
      fX8_firstToReach_30 p1 (fun v2 σ => fX8_firstToReach_2 p1 n v2 σ) v2 0 σ6
    else
      fX8_firstToReach_30 p1 (fun v2 σ => fX8_firstToReach_2 p1 n v2 σ) v2 1 σ6)
set_option maxHeartbeats 4000000 in
set_option maxRecDepth 100000 in
theorem pX8_firstToReach_2 {E : gE} {p1 : Nat} {r : Int32} {σ' : gS} (hp1 : gLk p1) : ∀ (n : Nat) (v2 : Int32) (σ : gS), fX8_firstToReach_2 p1 n v2 σ = some (r, σ') → gG E mX8_firstToReach 2 [(0, .ref 144), (1, .ref p1), (2, .int v2)] [] σ (some (.int r)) σ' := by
  intro n
  induction n with
  | zero => intro v2 σ h; exact absurd (show none = some (r, σ') from h) (by intro q; cases q)
  | succ n ih =>
  intro v2 σ h
  unfold fX8_firstToReach_2 at h
  refine g_iload_n dX8_firstToReach_2 rfl 2 rfl ?_
  refine g_aload_n dX8_firstToReach_3 rfl 1 rfl ?_
  refine g_iconst (v := 3) dX8_firstToReach_4 (by decide) ?_
  obtain ⟨x1, σ2, y3, h⟩ := bd_some h
  refine g_callVr (as := [.int 3]) (st := [.int v2]) (zX3_size hp1 y3) dX8_firstToReach_5 (gi_lk hp1) rfl okX8_firstToReach_41 (Nat.le_of_ble_eq_true rfl) ?_
  refine g_icmp_ge (t := 66) dX8_firstToReach_8 (by decide) (fun c4 => ?_) (fun c4 => ?_)
  · replace h := if_t h c4
    refine g_ldc (v := (-1000000)) dX8_firstToReach_66 wc_RX8_36 ?_
    obtain ⟨rfl, rfl⟩ := so_inj h
    exact g_iret dX8_firstToReach_68 rfl
  · replace h := if_f h c4
    refine g_aload_n dX8_firstToReach_11 rfl 0 rfl ?_
    refine g_getC (n := 145) dX8_firstToReach_12 gi_144 rfl fl_RX8_9 ?_
    refine g_aload_n dX8_firstToReach_15 rfl 1 rfl ?_
    refine g_iconst (v := 3) dX8_firstToReach_16 (by decide) ?_
    refine g_iload_n dX8_firstToReach_17 rfl 2 rfl ?_
    obtain ⟨x5, σ6, y7, h⟩ := bd_some h
    refine g_callVr (as := [.int 3, .int v2]) (st := [.ref 145]) (zX3_firstOf hp1 y7) dX8_firstToReach_18 (gi_lk hp1) rfl okX8_firstToReach_53 (Nat.le_of_ble_eq_true rfl) ?_
    obtain ⟨g8, h⟩ := gg_some h
    refine g_iald dX8_firstToReach_21 gi_145 g8 ?_
    refine g_if_eq (t := 29) dX8_firstToReach_22 (by decide) (fun c9 => ?_) (fun c9 => ?_)
    · replace h := if_t h c9
      refine g_iconst (v := 0) dX8_firstToReach_29 (by decide) ?_
      exact pX8_firstToReach_30 hp1 (fun v2 σ h => ih v2 σ h) h
    · replace h := if_f h c9
      refine g_iconst (v := 1) dX8_firstToReach_25 (by decide) ?_
      refine g_goto (t := 30) dX8_firstToReach_26 (by decide) ?_
      exact pX8_firstToReach_30 hp1 (fun v2 σ h => ih v2 σ h) h
def fX8_firstToReach (p1 : Nat) (σ : gS) : Option (Int32 × gS) :=
  fX8_firstToReach_2 p1 2000 0 σ
set_option maxHeartbeats 4000000 in
set_option maxRecDepth 100000 in
theorem pX8_firstToReach {E : gE} {p1 : Nat} {r : Int32} {σ' : gS} {σ : gS} (hp1 : gLk p1) (h : fX8_firstToReach p1 σ = some (r, σ')) : gG E mX8_firstToReach 0 [(0, .ref 144), (1, .ref p1)] [] σ (some (.int r)) σ' := by
  unfold fX8_firstToReach at h
  refine g_iconst (v := 0) dX8_firstToReach_0 (by decide) ?_
  refine g_istore_n (lv' := [(2, .int 0), (0, .ref 144), (1, .ref p1)]) dX8_firstToReach_1 rfl (Nat.le_of_ble_eq_true rfl) rfl ?_
  refine g_sub [1, 2, 0] rfl ?_
  exact pX8_firstToReach_2 hp1 2000 0 σ h
theorem zX8_firstToReach {E : gE} {p1 : Nat} {r : Int32} {σ σ' : gS} (hp1 : gLk p1) (h : fX8_firstToReach p1 σ = some (r, σ')) : gC E mX8_firstToReach [.ref 144, .ref p1] σ (some (.int r)) σ' :=
  gC_of (by decide +kernel) rfl (Nat.le_of_ble_eq_true rfl) (pX8_firstToReach hp1 h)
def mJ9_abs_067f4 : gM := (yJ9_abs_067f4, cJ9_abs_067f4, RJ9, 2, (some .long), 0, 0)
theorem dJ9_abs_067f4_0 : decode mJ9_abs_067f4.2.1 0 = .ok (.lload_n 0, 1) := by decide +kernel
theorem dJ9_abs_067f4_1 : decode mJ9_abs_067f4.2.1 1 = .ok (.lconst 0, 1) := by decide +kernel
theorem dJ9_abs_067f4_2 : decode mJ9_abs_067f4.2.1 2 = .ok (.lcmp, 1) := by decide +kernel
theorem dJ9_abs_067f4_3 : decode mJ9_abs_067f4.2.1 3 = .ok (.ifCond .ge 8, 3) := by decide +kernel
theorem dJ9_abs_067f4_6 : decode mJ9_abs_067f4.2.1 6 = .ok (.lload_n 0, 1) := by decide +kernel
theorem dJ9_abs_067f4_7 : decode mJ9_abs_067f4.2.1 7 = .ok (.lneg, 1) := by decide +kernel
theorem dJ9_abs_067f4_8 : decode mJ9_abs_067f4.2.1 8 = .ok (.goto 4, 3) := by decide +kernel
theorem dJ9_abs_067f4_11 : decode mJ9_abs_067f4.2.1 11 = .ok (.lload_n 0, 1) := by decide +kernel
theorem dJ9_abs_067f4_12 : decode mJ9_abs_067f4.2.1 12 = .ok (.lreturn, 1) := by decide +kernel
def fJ9_abs_067f4_12 (p1 : Int64) (s0 : Int64) (σ : gS) : Option (Int64 × gS) :=
  some (s0, σ)
set_option maxHeartbeats 4000000 in
set_option maxRecDepth 100000 in
theorem pJ9_abs_067f4_12 {E : gE} {p1 : Int64} {r : Int64} {σ' : gS} {s0 : Int64} {σ : gS} (h : fJ9_abs_067f4_12 p1 s0 σ = some (r, σ')) : gG E mJ9_abs_067f4 12 [] [.long s0] σ (some (.long r)) σ' := by
  unfold fJ9_abs_067f4_12 at h
  obtain ⟨rfl, rfl⟩ := so_inj h
  exact g_lret dJ9_abs_067f4_12 rfl
def fJ9_abs_067f4 (p1 : Int64) (σ : gS) : Option (Int64 × gS) :=
  if 0 ≤ (lg_cmp p1 0) then
    fJ9_abs_067f4_12 p1 p1 σ
  else
    fJ9_abs_067f4_12 p1 (-p1) σ
set_option maxHeartbeats 4000000 in
set_option maxRecDepth 100000 in
theorem pJ9_abs_067f4 {E : gE} {p1 : Int64} {r : Int64} {σ' : gS} {σ : gS} (h : fJ9_abs_067f4 p1 σ = some (r, σ')) : gG E mJ9_abs_067f4 0 [(0, .long p1)] [] σ (some (.long r)) σ' := by
  unfold fJ9_abs_067f4 at h
  refine g_lload_n dJ9_abs_067f4_0 rfl 0 rfl ?_
  refine g_lconst (v := 0) dJ9_abs_067f4_1 (by decide) ?_
  refine g_lcmp dJ9_abs_067f4_2 ?_
  refine g_if_ge (t := 11) dJ9_abs_067f4_3 (by decide) (fun c1 => ?_) (fun c1 => ?_)
  · replace h := if_t h c1
    refine g_lload_n dJ9_abs_067f4_11 rfl 0 rfl ?_
    refine g_sub [] rfl ?_
    exact pJ9_abs_067f4_12 h
  · replace h := if_f h c1
    refine g_lload_n dJ9_abs_067f4_6 rfl 0 rfl ?_
    refine g_lneg dJ9_abs_067f4_7 ?_
    refine g_goto (t := 12) dJ9_abs_067f4_8 (by decide) ?_
    refine g_sub [] rfl ?_
    exact pJ9_abs_067f4_12 h
theorem zJ9_abs_067f4 {E : gE} {p1 : Int64} {r : Int64} {σ σ' : gS} (h : fJ9_abs_067f4 p1 σ = some (r, σ')) : gC E mJ9_abs_067f4 [.long p1] σ (some (.long r)) σ' :=
  gC_ofF (by decide +kernel) rfl (Nat.le_of_ble_eq_true rfl) (pJ9_abs_067f4 h)
def mX8_commonDivisor : gM := (yX8_commonDivisor, cX8_commonDivisor, RX8, 11, (some .long), 0, 0)
theorem dX8_commonDivisor_0 : decode mX8_commonDivisor.2.1 0 = .ok (.lload_n 0, 1) := by decide +kernel
theorem dX8_commonDivisor_1 : decode mX8_commonDivisor.2.1 1 = .ok (.lstore 4, 2) := by decide +kernel
theorem dX8_commonDivisor_3 : decode mX8_commonDivisor.2.1 3 = .ok (.lload_n 2, 1) := by decide +kernel
theorem dX8_commonDivisor_4 : decode mX8_commonDivisor.2.1 4 = .ok (.lstore 6, 2) := by decide +kernel
theorem dX8_commonDivisor_6 : decode mX8_commonDivisor.2.1 6 = .ok (.iconst 0, 1) := by decide +kernel
theorem dX8_commonDivisor_7 : decode mX8_commonDivisor.2.1 7 = .ok (.istore 8, 2) := by decide +kernel
theorem dX8_commonDivisor_9 : decode mX8_commonDivisor.2.1 9 = .ok (.iload 8, 2) := by decide +kernel
theorem dX8_commonDivisor_11 : decode mX8_commonDivisor.2.1 11 = .ok (.bipush 100, 2) := by decide +kernel
theorem dX8_commonDivisor_13 : decode mX8_commonDivisor.2.1 13 = .ok (.if_icmp .ge 31, 3) := by decide +kernel
theorem dX8_commonDivisor_16 : decode mX8_commonDivisor.2.1 16 = .ok (.lload 6, 2) := by decide +kernel
theorem dX8_commonDivisor_18 : decode mX8_commonDivisor.2.1 18 = .ok (.lconst 0, 1) := by decide +kernel
theorem dX8_commonDivisor_19 : decode mX8_commonDivisor.2.1 19 = .ok (.lcmp, 1) := by decide +kernel
theorem dX8_commonDivisor_20 : decode mX8_commonDivisor.2.1 20 = .ok (.ifCond .eq 24, 3) := by decide +kernel
theorem dX8_commonDivisor_23 : decode mX8_commonDivisor.2.1 23 = .ok (.lload 4, 2) := by decide +kernel
theorem dX8_commonDivisor_25 : decode mX8_commonDivisor.2.1 25 = .ok (.lload 6, 2) := by decide +kernel
theorem dX8_commonDivisor_27 : decode mX8_commonDivisor.2.1 27 = .ok (.lrem, 1) := by decide +kernel
theorem dX8_commonDivisor_28 : decode mX8_commonDivisor.2.1 28 = .ok (.lstore 9, 2) := by decide +kernel
theorem dX8_commonDivisor_30 : decode mX8_commonDivisor.2.1 30 = .ok (.lload 6, 2) := by decide +kernel
theorem dX8_commonDivisor_32 : decode mX8_commonDivisor.2.1 32 = .ok (.lstore 4, 2) := by decide +kernel
theorem dX8_commonDivisor_34 : decode mX8_commonDivisor.2.1 34 = .ok (.lload 9, 2) := by decide +kernel
theorem dX8_commonDivisor_36 : decode mX8_commonDivisor.2.1 36 = .ok (.lstore 6, 2) := by decide +kernel
theorem dX8_commonDivisor_38 : decode mX8_commonDivisor.2.1 38 = .ok (.iinc 8 1, 3) := by decide +kernel
theorem dX8_commonDivisor_41 : decode mX8_commonDivisor.2.1 41 = .ok (.goto (-32), 3) := by decide +kernel
theorem dX8_commonDivisor_44 : decode mX8_commonDivisor.2.1 44 = .ok (.lload 4, 2) := by decide +kernel
theorem dX8_commonDivisor_46 : decode mX8_commonDivisor.2.1 46 = .ok (.lreturn, 1) := by decide +kernel
def fX8_commonDivisor_44 (p1 : Int64) (p2 : Int64) (v4 : Int64) (σ : gS) : Option (Int64 × gS) :=
  some (v4, σ)
set_option maxHeartbeats 4000000 in
set_option maxRecDepth 100000 in
theorem pX8_commonDivisor_44 {E : gE} {p1 : Int64} {p2 : Int64} {r : Int64} {σ' : gS} {v4 : Int64} {σ : gS} (h : fX8_commonDivisor_44 p1 p2 v4 σ = some (r, σ')) : gG E mX8_commonDivisor 44 [(4, .long v4)] [] σ (some (.long r)) σ' := by
  unfold fX8_commonDivisor_44 at h
  refine g_lload dX8_commonDivisor_44 0 rfl ?_
  obtain ⟨rfl, rfl⟩ := so_inj h
  exact g_lret dX8_commonDivisor_46 rfl
def fX8_commonDivisor_9 (p1 : Int64) (p2 : Int64) : Nat → Int64 → Int64 → Int32 → gS → Option (Int64 × gS)
  | 0, _, _, _, _ => none
  | n + 1, v4, v6, v8, σ => if 100 ≤ v8 then
    fX8_commonDivisor_44 p1 p2 v4 σ
  else
    if (lg_cmp v6 0) = 0 then
      fX8_commonDivisor_44 p1 p2 v4 σ
    else
      gg (¬ v6 = 0) (
      bnd (v4 - v4 / v6 * v6) fun x4 =>
      bnd (v8 + 1) fun x5 =>
      fX8_commonDivisor_9 p1 p2 n v6 x4 x5 σ)
set_option maxHeartbeats 4000000 in
set_option maxRecDepth 100000 in
theorem pX8_commonDivisor_9 {E : gE} {p1 : Int64} {p2 : Int64} {r : Int64} {σ' : gS} : ∀ (n : Nat) (v4 : Int64) (v6 : Int64) (v8 : Int32) (σ : gS), fX8_commonDivisor_9 p1 p2 n v4 v6 v8 σ = some (r, σ') → gG E mX8_commonDivisor 9 [(4, .long v4), (6, .long v6), (8, .int v8)] [] σ (some (.long r)) σ' := by
  intro n
  induction n with
  | zero => intro v4 v6 v8 σ h; exact absurd (show none = some (r, σ') from h) (by intro q; cases q)
  | succ n ih =>
  intro v4 v6 v8 σ h
  unfold fX8_commonDivisor_9 at h
  refine g_iload dX8_commonDivisor_9 2 rfl ?_
  refine g_bipush (v := 100) dX8_commonDivisor_11 (by decide) ?_
  refine g_icmp_ge (t := 44) dX8_commonDivisor_13 (by decide) (fun c1 => ?_) (fun c1 => ?_)
  · replace h := if_t h c1
    refine g_sub [0] rfl ?_
    exact pX8_commonDivisor_44 h
  · replace h := if_f h c1
    refine g_lload dX8_commonDivisor_16 1 rfl ?_
    refine g_lconst (v := 0) dX8_commonDivisor_18 (by decide) ?_
    refine g_lcmp dX8_commonDivisor_19 ?_
    refine g_if_eq (t := 44) dX8_commonDivisor_20 (by decide) (fun c2 => ?_) (fun c2 => ?_)
    · replace h := if_t h c2
      refine g_sub [0] rfl ?_
      exact pX8_commonDivisor_44 h
    · replace h := if_f h c2
      refine g_lload dX8_commonDivisor_23 0 rfl ?_
      refine g_lload dX8_commonDivisor_25 1 rfl ?_
      obtain ⟨g3, h⟩ := gg_some h
      refine g_lrem dX8_commonDivisor_27 g3 ?_
      obtain ⟨x4, ex4, h⟩ := bnd_nm h
      refine g_topl ex4 ?_
      refine g_lstore (lv' := [(9, .long x4), (4, .long v4), (6, .long v6), (8, .int v8)]) dX8_commonDivisor_28 (Nat.le_of_ble_eq_true rfl) rfl ?_
      refine g_lload dX8_commonDivisor_30 2 rfl ?_
      refine g_lstore (lv' := [(4, .long v6), (9, .long x4), (6, .long v6), (8, .int v8)]) dX8_commonDivisor_32 (Nat.le_of_ble_eq_true rfl) rfl ?_
      refine g_lload dX8_commonDivisor_34 1 rfl ?_
      refine g_lstore (lv' := [(6, .long x4), (4, .long v6), (9, .long x4), (8, .int v8)]) dX8_commonDivisor_36 (Nat.le_of_ble_eq_true rfl) rfl ?_
      obtain ⟨x5, ex5, h⟩ := bnd_nm h
      refine g_iinc (j := 3) (v := x5) (lv' := [(8, .int x5), (6, .long x4), (4, .long v6), (9, .long x4)]) dX8_commonDivisor_38 rfl (by rw [ex5]; rfl) (Nat.le_of_ble_eq_true rfl) rfl ?_
      refine g_goto (t := 9) dX8_commonDivisor_41 (by decide) ?_
      refine g_sub [2, 1, 0] rfl ?_
      exact ih v6 x4 x5 σ h
def fX8_commonDivisor (p1 : Int64) (p2 : Int64) (σ : gS) : Option (Int64 × gS) :=
  fX8_commonDivisor_9 p1 p2 2000 p1 p2 0 σ
set_option maxHeartbeats 4000000 in
set_option maxRecDepth 100000 in
theorem pX8_commonDivisor {E : gE} {p1 : Int64} {p2 : Int64} {r : Int64} {σ' : gS} {σ : gS} (h : fX8_commonDivisor p1 p2 σ = some (r, σ')) : gG E mX8_commonDivisor 0 [(0, .long p1), (2, .long p2)] [] σ (some (.long r)) σ' := by
  unfold fX8_commonDivisor at h
  refine g_lload_n dX8_commonDivisor_0 rfl 0 rfl ?_
  refine g_lstore (lv' := [(4, .long p1), (0, .long p1), (2, .long p2)]) dX8_commonDivisor_1 (Nat.le_of_ble_eq_true rfl) rfl ?_
  refine g_lload_n dX8_commonDivisor_3 rfl 2 rfl ?_
  refine g_lstore (lv' := [(6, .long p2), (4, .long p1), (0, .long p1), (2, .long p2)]) dX8_commonDivisor_4 (Nat.le_of_ble_eq_true rfl) rfl ?_
  refine g_iconst (v := 0) dX8_commonDivisor_6 (by decide) ?_
  refine g_istore (lv' := [(8, .int 0), (6, .long p2), (4, .long p1), (0, .long p1), (2, .long p2)]) dX8_commonDivisor_7 (Nat.le_of_ble_eq_true rfl) rfl ?_
  refine g_sub [2, 1, 0] rfl ?_
  exact pX8_commonDivisor_9 2000 p1 p2 0 σ h
theorem zX8_commonDivisor {E : gE} {p1 : Int64} {p2 : Int64} {r : Int64} {σ σ' : gS} (h : fX8_commonDivisor p1 p2 σ = some (r, σ')) : gC E mX8_commonDivisor [.long p1, .long p2] σ (some (.long r)) σ' :=
  gC_of (by decide +kernel) rfl (Nat.le_of_ble_eq_true rfl) (pX8_commonDivisor h)
theorem fl_RX8_67 : gFl RX8 67 8 4 := ⟨RX8, TX8, 6, rfl, by decide, ux_8, Or.inl (gm 462 (by decide +kernel) rfl)⟩
theorem fl_RX8_71 : gFl RX8 71 8 5 := ⟨RX8, TX8, 6, rfl, by decide, ux_8, Or.inl (gm 463 (by decide +kernel) rfl)⟩
theorem fp_RX8_67 : gFp RX8 67 8 4 .long := ⟨RX8, TX8, 6, rfl, by decide, ux_8, Or.inl (gm 462 (by decide +kernel) rfl), rfl, by decide +kernel, ⟨tyX8, tyX8_ok⟩, nmX8⟩
theorem fp_RX8_71 : gFp RX8 71 8 5 .long := ⟨RX8, TX8, 6, rfl, by decide, ux_8, Or.inl (gm 463 (by decide +kernel) rfl), rfl, by decide +kernel, ⟨tyX8, tyX8_ok⟩, nmX8⟩
theorem fl_RX8_15 : gFl RX8 15 8 1 := ⟨RX8, TX8, 6, rfl, by decide, ux_8, Or.inl (gm 457 (by decide +kernel) rfl)⟩
theorem fl_RX8_19 : gFl RX8 19 8 2 := ⟨RX8, TX8, 6, rfl, by decide, ux_8, Or.inl (gm 459 (by decide +kernel) rfl)⟩
def mX8_carry : gM := (yX8_carry, cX8_carry, RX8, 7, none, 1, 30)
theorem dX8_carry_0 : decode mX8_carry.2.1 0 = .ok (.aload_n 0, 1) := by decide +kernel
theorem dX8_carry_1 : decode mX8_carry.2.1 1 = .ok (.aload_n 0, 1) := by decide +kernel
theorem dX8_carry_2 : decode mX8_carry.2.1 2 = .ok (.getfield 15, 3) := by decide +kernel
theorem dX8_carry_5 : decode mX8_carry.2.1 5 = .ok (.iload_n 3, 1) := by decide +kernel
theorem dX8_carry_6 : decode mX8_carry.2.1 6 = .ok (.laload, 1) := by decide +kernel
theorem dX8_carry_7 : decode mX8_carry.2.1 7 = .ok (.putfield 67, 3) := by decide +kernel
theorem dX8_carry_10 : decode mX8_carry.2.1 10 = .ok (.aload_n 0, 1) := by decide +kernel
theorem dX8_carry_11 : decode mX8_carry.2.1 11 = .ok (.aload_n 0, 1) := by decide +kernel
theorem dX8_carry_12 : decode mX8_carry.2.1 12 = .ok (.getfield 19, 3) := by decide +kernel
theorem dX8_carry_15 : decode mX8_carry.2.1 15 = .ok (.iload_n 3, 1) := by decide +kernel
theorem dX8_carry_16 : decode mX8_carry.2.1 16 = .ok (.laload, 1) := by decide +kernel
theorem dX8_carry_17 : decode mX8_carry.2.1 17 = .ok (.putfield 71, 3) := by decide +kernel
theorem dX8_carry_20 : decode mX8_carry.2.1 20 = .ok (.iload_n 2, 1) := by decide +kernel
theorem dX8_carry_21 : decode mX8_carry.2.1 21 = .ok (.bipush 6, 2) := by decide +kernel
theorem dX8_carry_23 : decode mX8_carry.2.1 23 = .ok (.if_icmp .ne 4, 3) := by decide +kernel
theorem dX8_carry_26 : decode mX8_carry.2.1 26 = .ok (.return_, 1) := by decide +kernel
theorem dX8_carry_27 : decode mX8_carry.2.1 27 = .ok (.aload_n 0, 1) := by decide +kernel
theorem dX8_carry_28 : decode mX8_carry.2.1 28 = .ok (.dup, 1) := by decide +kernel
theorem dX8_carry_29 : decode mX8_carry.2.1 29 = .ok (.getfield 67, 3) := by decide +kernel
theorem dX8_carry_32 : decode mX8_carry.2.1 32 = .ok (.aload_n 1, 1) := by decide +kernel
theorem dX8_carry_33 : decode mX8_carry.2.1 33 = .ok (.iconst 2, 1) := by decide +kernel
theorem dX8_carry_34 : decode mX8_carry.2.1 34 = .ok (.iload_n 3, 1) := by decide +kernel
theorem dX8_carry_35 : decode mX8_carry.2.1 35 = .ok (.invokevirtual 57, 3) := by decide +kernel
theorem dX8_carry_38 : decode mX8_carry.2.1 38 = .ok (.i2l, 1) := by decide +kernel
theorem dX8_carry_39 : decode mX8_carry.2.1 39 = .ok (.lmul, 1) := by decide +kernel
theorem dX8_carry_40 : decode mX8_carry.2.1 40 = .ok (.putfield 67, 3) := by decide +kernel
theorem dX8_carry_43 : decode mX8_carry.2.1 43 = .ok (.aload_n 0, 1) := by decide +kernel
theorem dX8_carry_44 : decode mX8_carry.2.1 44 = .ok (.dup, 1) := by decide +kernel
theorem dX8_carry_45 : decode mX8_carry.2.1 45 = .ok (.getfield 71, 3) := by decide +kernel
theorem dX8_carry_48 : decode mX8_carry.2.1 48 = .ok (.aload_n 1, 1) := by decide +kernel
theorem dX8_carry_49 : decode mX8_carry.2.1 49 = .ok (.iconst 2, 1) := by decide +kernel
theorem dX8_carry_50 : decode mX8_carry.2.1 50 = .ok (.iload 4, 2) := by decide +kernel
theorem dX8_carry_52 : decode mX8_carry.2.1 52 = .ok (.invokevirtual 57, 3) := by decide +kernel
theorem dX8_carry_55 : decode mX8_carry.2.1 55 = .ok (.i2l, 1) := by decide +kernel
theorem dX8_carry_56 : decode mX8_carry.2.1 56 = .ok (.lmul, 1) := by decide +kernel
theorem dX8_carry_57 : decode mX8_carry.2.1 57 = .ok (.putfield 71, 3) := by decide +kernel
theorem dX8_carry_60 : decode mX8_carry.2.1 60 = .ok (.iload_n 2, 1) := by decide +kernel
theorem dX8_carry_61 : decode mX8_carry.2.1 61 = .ok (.iconst 4, 1) := by decide +kernel
theorem dX8_carry_62 : decode mX8_carry.2.1 62 = .ok (.if_icmp .ne 12, 3) := by decide +kernel
theorem dX8_carry_65 : decode mX8_carry.2.1 65 = .ok (.aload_n 0, 1) := by decide +kernel
theorem dX8_carry_66 : decode mX8_carry.2.1 66 = .ok (.aload_n 0, 1) := by decide +kernel
theorem dX8_carry_67 : decode mX8_carry.2.1 67 = .ok (.getfield 67, 3) := by decide +kernel
theorem dX8_carry_70 : decode mX8_carry.2.1 70 = .ok (.lneg, 1) := by decide +kernel
theorem dX8_carry_71 : decode mX8_carry.2.1 71 = .ok (.putfield 67, 3) := by decide +kernel
theorem dX8_carry_74 : decode mX8_carry.2.1 74 = .ok (.aload_n 0, 1) := by decide +kernel
theorem dX8_carry_75 : decode mX8_carry.2.1 75 = .ok (.getfield 67, 3) := by decide +kernel
theorem dX8_carry_78 : decode mX8_carry.2.1 78 = .ok (.invokestatic 74, 3) := by decide +kernel
theorem dX8_carry_81 : decode mX8_carry.2.1 81 = .ok (.aload_n 0, 1) := by decide +kernel
theorem dX8_carry_82 : decode mX8_carry.2.1 82 = .ok (.getfield 71, 3) := by decide +kernel
theorem dX8_carry_85 : decode mX8_carry.2.1 85 = .ok (.invokestatic 82, 3) := by decide +kernel
theorem dX8_carry_88 : decode mX8_carry.2.1 88 = .ok (.lstore 5, 2) := by decide +kernel
theorem dX8_carry_90 : decode mX8_carry.2.1 90 = .ok (.lload 5, 2) := by decide +kernel
theorem dX8_carry_92 : decode mX8_carry.2.1 92 = .ok (.lconst 1, 1) := by decide +kernel
theorem dX8_carry_93 : decode mX8_carry.2.1 93 = .ok (.lcmp, 1) := by decide +kernel
theorem dX8_carry_94 : decode mX8_carry.2.1 94 = .ok (.ifCond .le 25, 3) := by decide +kernel
theorem dX8_carry_97 : decode mX8_carry.2.1 97 = .ok (.aload_n 0, 1) := by decide +kernel
theorem dX8_carry_98 : decode mX8_carry.2.1 98 = .ok (.dup, 1) := by decide +kernel
theorem dX8_carry_99 : decode mX8_carry.2.1 99 = .ok (.getfield 67, 3) := by decide +kernel
theorem dX8_carry_102 : decode mX8_carry.2.1 102 = .ok (.lload 5, 2) := by decide +kernel
theorem dX8_carry_104 : decode mX8_carry.2.1 104 = .ok (.ldiv, 1) := by decide +kernel
theorem dX8_carry_105 : decode mX8_carry.2.1 105 = .ok (.putfield 67, 3) := by decide +kernel
theorem dX8_carry_108 : decode mX8_carry.2.1 108 = .ok (.aload_n 0, 1) := by decide +kernel
theorem dX8_carry_109 : decode mX8_carry.2.1 109 = .ok (.dup, 1) := by decide +kernel
theorem dX8_carry_110 : decode mX8_carry.2.1 110 = .ok (.getfield 71, 3) := by decide +kernel
theorem dX8_carry_113 : decode mX8_carry.2.1 113 = .ok (.lload 5, 2) := by decide +kernel
theorem dX8_carry_115 : decode mX8_carry.2.1 115 = .ok (.ldiv, 1) := by decide +kernel
theorem dX8_carry_116 : decode mX8_carry.2.1 116 = .ok (.putfield 71, 3) := by decide +kernel
theorem dX8_carry_119 : decode mX8_carry.2.1 119 = .ok (.return_, 1) := by decide +kernel
theorem okX8_carry_74 : gOkS mX8_carry mJ9_abs_067f4 74 1 := ⟨List.forall_mem_cons.mpr ⟨(gm 1027 (by decide +kernel) rfl), List.forall_mem_cons.mpr ⟨(gm 1025 (by decide +kernel) rfl), List.forall_mem_cons.mpr ⟨(gm 1026 (by decide +kernel) rfl), List.forall_mem_cons.mpr ⟨(gm 124 (by decide +kernel) rfl), fun _ h => absurd h List.not_mem_nil⟩⟩⟩⟩, by decide +kernel, by decide +kernel, by decide +kernel⟩
theorem okX8_carry_82 : gOkS mX8_carry mX8_commonDivisor 82 2 := ⟨List.forall_mem_cons.mpr ⟨(gm 1030 (by decide +kernel) rfl), List.forall_mem_cons.mpr ⟨(gm 1028 (by decide +kernel) rfl), List.forall_mem_cons.mpr ⟨(gm 1029 (by decide +kernel) rfl), List.forall_mem_cons.mpr ⟨(gm 119 (by decide +kernel) rfl), fun _ h => absurd h List.not_mem_nil⟩⟩⟩⟩, by decide +kernel, by decide +kernel, by decide +kernel⟩
theorem okX8_carry_57 : gOkV mX8_carry mX3_secondOf 57 2 := ⟨List.forall_mem_cons.mpr ⟨(gm 688 (by decide +kernel) rfl), List.forall_mem_cons.mpr ⟨(gm 1014 (by decide +kernel) rfl), List.forall_mem_cons.mpr ⟨(gm 686 (by decide +kernel) rfl), List.forall_mem_cons.mpr ⟨(gm 687 (by decide +kernel) rfl), List.forall_mem_cons.mpr ⟨(gm 109 (by decide +kernel) rfl), fun _ h => absurd h List.not_mem_nil⟩⟩⟩⟩⟩, by decide +kernel, by decide +kernel, by decide +kernel⟩
def fX8_carry_119 (p1 : Nat) (p2 : Int32) (p3 : Int32) (p4 : Int32) (σ : gS) : Option (Unit × gS) :=
  some ((), σ)
set_option maxHeartbeats 4000000 in
set_option maxRecDepth 100000 in
theorem pX8_carry_119 {E : gE} {p1 : Nat} {p2 : Int32} {p3 : Int32} {p4 : Int32} {r : Unit} {σ' : gS} {σ : gS} (hp1 : gLk p1) (h : fX8_carry_119 p1 p2 p3 p4 σ = some (r, σ')) : gG E mX8_carry 119 [] [] σ (none) σ' := by
  unfold fX8_carry_119 at h
  obtain ⟨rfl, rfl⟩ := so_inj h
  exact g_vret dX8_carry_119 rfl
def fX8_carry_74 (p1 : Nat) (p2 : Int32) (p3 : Int32) (p4 : Int32) (σ : gS) : Option (Unit × gS) :=
  bd (fJ9_abs_067f4 (σ.2.1 144 4) σ) fun x1 σ2 =>
  bd (fX8_commonDivisor x1 (σ2.2.1 144 5) σ2) fun x4 σ5 =>
  if (lg_cmp x4 1) ≤ 0 then
    fX8_carry_119 p1 p2 p3 p4 σ5
  else
    gg (¬ x4 = 0) (
    bnd (gsJ σ5 144 4 ((σ5.2.1 144 4) / x4)) fun σ9 =>
    gg (¬ x4 = 0) (
    bnd (gsJ σ9 144 5 ((σ9.2.1 144 5) / x4)) fun σ11 =>
    fX8_carry_119 p1 p2 p3 p4 σ11))
set_option maxHeartbeats 4000000 in
set_option maxRecDepth 100000 in
theorem pX8_carry_74 {E : gE} {p1 : Nat} {p2 : Int32} {p3 : Int32} {p4 : Int32} {r : Unit} {σ' : gS} {σ : gS} (hp1 : gLk p1) (h : fX8_carry_74 p1 p2 p3 p4 σ = some (r, σ')) : gG E mX8_carry 74 [(0, .ref 144)] [] σ (none) σ' := by
  unfold fX8_carry_74 at h
  refine g_aload_n dX8_carry_74 rfl 0 rfl ?_
  refine g_getJ dX8_carry_75 gi_144 rfl fl_RX8_67 ?_
  obtain ⟨x1, σ2, y3, h⟩ := bd_some h
  refine g_callSr (as := [.long (σ.2.1 144 4)]) (st := []) (zJ9_abs_067f4 y3) dX8_carry_78 okX8_carry_74 (Nat.le_of_ble_eq_true rfl) ?_
  refine g_aload_n dX8_carry_81 rfl 0 rfl ?_
  refine g_getJ dX8_carry_82 gi_144 rfl fl_RX8_71 ?_
  obtain ⟨x4, σ5, y6, h⟩ := bd_some h
  refine g_callSr (as := [.long x1, .long (σ2.2.1 144 5)]) (st := []) (zX8_commonDivisor y6) dX8_carry_85 okX8_carry_82 (Nat.le_of_ble_eq_true rfl) ?_
  refine g_lstore (lv' := [(5, .long x4), (0, .ref 144)]) dX8_carry_88 (Nat.le_of_ble_eq_true rfl) rfl ?_
  refine g_lload dX8_carry_90 0 rfl ?_
  refine g_lconst (v := 1) dX8_carry_92 (by decide) ?_
  refine g_lcmp dX8_carry_93 ?_
  refine g_if_le (t := 119) dX8_carry_94 (by decide) (fun c7 => ?_) (fun c7 => ?_)
  · replace h := if_t h c7
    refine g_sub [] rfl ?_
    exact pX8_carry_119 hp1 h
  · replace h := if_f h c7
    refine g_aload_n dX8_carry_97 rfl 1 rfl ?_
    refine g_dup dX8_carry_98 rfl ?_
    refine g_getJ dX8_carry_99 gi_144 rfl fl_RX8_67 ?_
    refine g_lload dX8_carry_102 0 rfl ?_
    obtain ⟨g8, h⟩ := gg_some h
    refine g_ldiv dX8_carry_104 g8 ?_
    obtain ⟨σ9, eσ9, h⟩ := bnd_nm h
    refine g_putJ dX8_carry_105 gi_144 rfl fp_RX8_67 (g_st eσ9 ?_)
    refine g_aload_n dX8_carry_108 rfl 1 rfl ?_
    refine g_dup dX8_carry_109 rfl ?_
    refine g_getJ dX8_carry_110 gi_144 rfl fl_RX8_71 ?_
    refine g_lload dX8_carry_113 0 rfl ?_
    obtain ⟨g10, h⟩ := gg_some h
    refine g_ldiv dX8_carry_115 g10 ?_
    obtain ⟨σ11, eσ11, h⟩ := bnd_nm h
    refine g_putJ dX8_carry_116 gi_144 rfl fp_RX8_71 (g_st eσ11 ?_)
    refine g_sub [] rfl ?_
    exact pX8_carry_119 hp1 h
def fX8_carry (p1 : Nat) (p2 : Int32) (p3 : Int32) (p4 : Int32) (σ : gS) : Option (Unit × gS) :=
  gg (¬ (p3 < 0 ∨ 16 ≤ p3.toNatClampNeg)) (
  bnd (gsJ σ 144 4 (σ.2.1 146 p3.toNatClampNeg)) fun σ2 =>
  gg (¬ (p3 < 0 ∨ 16 ≤ p3.toNatClampNeg)) (
  bnd (gsJ σ2 144 5 (σ2.2.1 147 p3.toNatClampNeg)) fun σ4 =>
  if p2 = 6 then
    some ((), σ4)
  else
    bd (fX3_secondOf p1 2 p3 σ4) fun x6 σ7 =>
    bnd (gsJ σ7 144 4 ((σ4.2.1 144 4) * x6.toInt64)) fun σ9 =>
    bd (fX3_secondOf p1 2 p4 σ9) fun x10 σ11 =>
    bnd (gsJ σ11 144 5 ((σ9.2.1 144 5) * x10.toInt64)) fun σ13 =>
    if p2 = 4 then
      bnd (gsJ σ13 144 4 (-(σ13.2.1 144 4))) fun σ15 =>
      fX8_carry_74 p1 p2 p3 p4 σ15
    else
      fX8_carry_74 p1 p2 p3 p4 σ13))
set_option maxHeartbeats 4000000 in
set_option maxRecDepth 100000 in
theorem pX8_carry {E : gE} {p1 : Nat} {p2 : Int32} {p3 : Int32} {p4 : Int32} {r : Unit} {σ' : gS} {σ : gS} (hp1 : gLk p1) (h : fX8_carry p1 p2 p3 p4 σ = some (r, σ')) : gG E mX8_carry 0 [(0, .ref 144), (1, .ref p1), (2, .int p2), (3, .int p3), (4, .int p4)] [] σ (none) σ' := by
  unfold fX8_carry at h
  refine g_aload_n dX8_carry_0 rfl 0 rfl ?_
  refine g_aload_n dX8_carry_1 rfl 0 rfl ?_
  refine g_getC (n := 146) dX8_carry_2 gi_144 rfl fl_RX8_15 ?_
  refine g_iload_n dX8_carry_5 rfl 3 rfl ?_
  obtain ⟨g1, h⟩ := gg_some h
  refine g_lald dX8_carry_6 gi_146 g1 ?_
  obtain ⟨σ2, eσ2, h⟩ := bnd_nm h
  refine g_putJ dX8_carry_7 gi_144 rfl fp_RX8_67 (g_st eσ2 ?_)
  refine g_aload_n dX8_carry_10 rfl 0 rfl ?_
  refine g_aload_n dX8_carry_11 rfl 0 rfl ?_
  refine g_getC (n := 147) dX8_carry_12 gi_144 rfl fl_RX8_19 ?_
  refine g_iload_n dX8_carry_15 rfl 3 rfl ?_
  obtain ⟨g3, h⟩ := gg_some h
  refine g_lald dX8_carry_16 gi_147 g3 ?_
  obtain ⟨σ4, eσ4, h⟩ := bnd_nm h
  refine g_putJ dX8_carry_17 gi_144 rfl fp_RX8_71 (g_st eσ4 ?_)
  refine g_iload_n dX8_carry_20 rfl 2 rfl ?_
  refine g_bipush (v := 6) dX8_carry_21 (by decide) ?_
  refine g_icmp_ne (t := 27) dX8_carry_23 (by decide) (fun c5 => ?_) (fun c5 => ?_)
  · replace h := if_f h c5
    refine g_aload_n dX8_carry_27 rfl 0 rfl ?_
    refine g_dup dX8_carry_28 rfl ?_
    refine g_getJ dX8_carry_29 gi_144 rfl fl_RX8_67 ?_
    refine g_aload_n dX8_carry_32 rfl 1 rfl ?_
    refine g_iconst (v := 2) dX8_carry_33 (by decide) ?_
    refine g_iload_n dX8_carry_34 rfl 3 rfl ?_
    obtain ⟨x6, σ7, y8, h⟩ := bd_some h
    refine g_callVr (as := [.int 2, .int p3]) (st := [.long (σ4.2.1 144 4), .ref 144]) (zX3_secondOf hp1 y8) dX8_carry_35 (gi_lk hp1) rfl okX8_carry_57 (Nat.le_of_ble_eq_true rfl) ?_
    refine g_i2l dX8_carry_38 ?_
    refine g_lmul dX8_carry_39 ?_
    obtain ⟨σ9, eσ9, h⟩ := bnd_nm h
    refine g_putJ dX8_carry_40 gi_144 rfl fp_RX8_67 (g_st eσ9 ?_)
    refine g_aload_n dX8_carry_43 rfl 0 rfl ?_
    refine g_dup dX8_carry_44 rfl ?_
    refine g_getJ dX8_carry_45 gi_144 rfl fl_RX8_71 ?_
    refine g_aload_n dX8_carry_48 rfl 1 rfl ?_
    refine g_iconst (v := 2) dX8_carry_49 (by decide) ?_
    refine g_iload dX8_carry_50 4 rfl ?_
    obtain ⟨x10, σ11, y12, h⟩ := bd_some h
    refine g_callVr (as := [.int 2, .int p4]) (st := [.long (σ9.2.1 144 5), .ref 144]) (zX3_secondOf hp1 y12) dX8_carry_52 (gi_lk hp1) rfl okX8_carry_57 (Nat.le_of_ble_eq_true rfl) ?_
    refine g_i2l dX8_carry_55 ?_
    refine g_lmul dX8_carry_56 ?_
    obtain ⟨σ13, eσ13, h⟩ := bnd_nm h
    refine g_putJ dX8_carry_57 gi_144 rfl fp_RX8_71 (g_st eσ13 ?_)
    refine g_iload_n dX8_carry_60 rfl 2 rfl ?_
    refine g_iconst (v := 4) dX8_carry_61 (by decide) ?_
    refine g_icmp_ne (t := 74) dX8_carry_62 (by decide) (fun c14 => ?_) (fun c14 => ?_)
    · replace h := if_f h c14
      refine g_sub [0] rfl ?_
      exact pX8_carry_74 hp1 h
    · replace h := if_t h c14
      refine g_aload_n dX8_carry_65 rfl 0 rfl ?_
      refine g_aload_n dX8_carry_66 rfl 0 rfl ?_
      refine g_getJ dX8_carry_67 gi_144 rfl fl_RX8_67 ?_
      refine g_lneg dX8_carry_70 ?_
      obtain ⟨σ15, eσ15, h⟩ := bnd_nm h
      refine g_putJ dX8_carry_71 gi_144 rfl fp_RX8_67 (g_st eσ15 ?_)
      refine g_sub [0] rfl ?_
      exact pX8_carry_74 hp1 h
  · replace h := if_t h c5
    obtain ⟨rfl, rfl⟩ := so_inj h
    exact g_vret dX8_carry_26 rfl
theorem zX8_carry {E : gE} {p1 : Nat} {p2 : Int32} {p3 : Int32} {p4 : Int32} {r : Unit} {σ σ' : gS} (hp1 : gLk p1) (h : fX8_carry p1 p2 p3 p4 σ = some (r, σ')) : gC E mX8_carry [.ref 144, .ref p1, .int p2, .int p3, .int p4] σ (none) σ' :=
  gC_of (by decide +kernel) rfl (Nat.le_of_ble_eq_true rfl) (pX8_carry hp1 h)
theorem wl_RX8_80 : Cond.constantLong RX8 80 1000000000000 ∈ gWS := (gm 1031 (by decide +kernel) rfl)
def mX8_reachThrough : gM := (yX8_reachThrough, cX8_reachThrough, RX8, 6, none, 2, 56)
theorem dX8_reachThrough_0 : decode mX8_reachThrough.2.1 0 = .ok (.aload_n 1, 1) := by decide +kernel
theorem dX8_reachThrough_1 : decode mX8_reachThrough.2.1 1 = .ok (.iconst 3, 1) := by decide +kernel
theorem dX8_reachThrough_2 : decode mX8_reachThrough.2.1 2 = .ok (.iload_n 2, 1) := by decide +kernel
theorem dX8_reachThrough_3 : decode mX8_reachThrough.2.1 3 = .ok (.invokevirtual 53, 3) := by decide +kernel
theorem dX8_reachThrough_6 : decode mX8_reachThrough.2.1 6 = .ok (.istore_n 3, 1) := by decide +kernel
theorem dX8_reachThrough_7 : decode mX8_reachThrough.2.1 7 = .ok (.aload_n 1, 1) := by decide +kernel
theorem dX8_reachThrough_8 : decode mX8_reachThrough.2.1 8 = .ok (.iconst 3, 1) := by decide +kernel
theorem dX8_reachThrough_9 : decode mX8_reachThrough.2.1 9 = .ok (.iload_n 2, 1) := by decide +kernel
theorem dX8_reachThrough_10 : decode mX8_reachThrough.2.1 10 = .ok (.invokevirtual 57, 3) := by decide +kernel
theorem dX8_reachThrough_13 : decode mX8_reachThrough.2.1 13 = .ok (.istore 4, 2) := by decide +kernel
theorem dX8_reachThrough_15 : decode mX8_reachThrough.2.1 15 = .ok (.aload_n 0, 1) := by decide +kernel
theorem dX8_reachThrough_16 : decode mX8_reachThrough.2.1 16 = .ok (.getfield 9, 3) := by decide +kernel
theorem dX8_reachThrough_19 : decode mX8_reachThrough.2.1 19 = .ok (.iload_n 3, 1) := by decide +kernel
theorem dX8_reachThrough_20 : decode mX8_reachThrough.2.1 20 = .ok (.iaload, 1) := by decide +kernel
theorem dX8_reachThrough_21 : decode mX8_reachThrough.2.1 21 = .ok (.ifCond .ne 13, 3) := by decide +kernel
theorem dX8_reachThrough_24 : decode mX8_reachThrough.2.1 24 = .ok (.iload_n 3, 1) := by decide +kernel
theorem dX8_reachThrough_25 : decode mX8_reachThrough.2.1 25 = .ok (.istore 5, 2) := by decide +kernel
theorem dX8_reachThrough_27 : decode mX8_reachThrough.2.1 27 = .ok (.iload 4, 2) := by decide +kernel
theorem dX8_reachThrough_29 : decode mX8_reachThrough.2.1 29 = .ok (.istore_n 3, 1) := by decide +kernel
theorem dX8_reachThrough_30 : decode mX8_reachThrough.2.1 30 = .ok (.iload 5, 2) := by decide +kernel
theorem dX8_reachThrough_32 : decode mX8_reachThrough.2.1 32 = .ok (.istore 4, 2) := by decide +kernel
theorem dX8_reachThrough_34 : decode mX8_reachThrough.2.1 34 = .ok (.aload_n 0, 1) := by decide +kernel
theorem dX8_reachThrough_35 : decode mX8_reachThrough.2.1 35 = .ok (.getfield 9, 3) := by decide +kernel
theorem dX8_reachThrough_38 : decode mX8_reachThrough.2.1 38 = .ok (.iload_n 3, 1) := by decide +kernel
theorem dX8_reachThrough_39 : decode mX8_reachThrough.2.1 39 = .ok (.iaload, 1) := by decide +kernel
theorem dX8_reachThrough_40 : decode mX8_reachThrough.2.1 40 = .ok (.iconst 2, 1) := by decide +kernel
theorem dX8_reachThrough_41 : decode mX8_reachThrough.2.1 41 = .ok (.if_icmp .ne 12, 3) := by decide +kernel
theorem dX8_reachThrough_44 : decode mX8_reachThrough.2.1 44 = .ok (.aload_n 0, 1) := by decide +kernel
theorem dX8_reachThrough_45 : decode mX8_reachThrough.2.1 45 = .ok (.getfield 9, 3) := by decide +kernel
theorem dX8_reachThrough_48 : decode mX8_reachThrough.2.1 48 = .ok (.iload 4, 2) := by decide +kernel
theorem dX8_reachThrough_50 : decode mX8_reachThrough.2.1 50 = .ok (.iconst 2, 1) := by decide +kernel
theorem dX8_reachThrough_51 : decode mX8_reachThrough.2.1 51 = .ok (.iastore, 1) := by decide +kernel
theorem dX8_reachThrough_52 : decode mX8_reachThrough.2.1 52 = .ok (.return_, 1) := by decide +kernel
theorem dX8_reachThrough_53 : decode mX8_reachThrough.2.1 53 = .ok (.aload_n 0, 1) := by decide +kernel
theorem dX8_reachThrough_54 : decode mX8_reachThrough.2.1 54 = .ok (.aload_n 1, 1) := by decide +kernel
theorem dX8_reachThrough_55 : decode mX8_reachThrough.2.1 55 = .ok (.aload_n 1, 1) := by decide +kernel
theorem dX8_reachThrough_56 : decode mX8_reachThrough.2.1 56 = .ok (.iconst 3, 1) := by decide +kernel
theorem dX8_reachThrough_57 : decode mX8_reachThrough.2.1 57 = .ok (.iload_n 2, 1) := by decide +kernel
theorem dX8_reachThrough_58 : decode mX8_reachThrough.2.1 58 = .ok (.invokevirtual 60, 3) := by decide +kernel
theorem dX8_reachThrough_61 : decode mX8_reachThrough.2.1 61 = .ok (.iload_n 3, 1) := by decide +kernel
theorem dX8_reachThrough_62 : decode mX8_reachThrough.2.1 62 = .ok (.iload 4, 2) := by decide +kernel
theorem dX8_reachThrough_64 : decode mX8_reachThrough.2.1 64 = .ok (.invokevirtual 63, 3) := by decide +kernel
theorem dX8_reachThrough_67 : decode mX8_reachThrough.2.1 67 = .ok (.aload_n 0, 1) := by decide +kernel
theorem dX8_reachThrough_68 : decode mX8_reachThrough.2.1 68 = .ok (.getfield 15, 3) := by decide +kernel
theorem dX8_reachThrough_71 : decode mX8_reachThrough.2.1 71 = .ok (.iload 4, 2) := by decide +kernel
theorem dX8_reachThrough_73 : decode mX8_reachThrough.2.1 73 = .ok (.aload_n 0, 1) := by decide +kernel
theorem dX8_reachThrough_74 : decode mX8_reachThrough.2.1 74 = .ok (.getfield 67, 3) := by decide +kernel
theorem dX8_reachThrough_77 : decode mX8_reachThrough.2.1 77 = .ok (.lastore, 1) := by decide +kernel
theorem dX8_reachThrough_78 : decode mX8_reachThrough.2.1 78 = .ok (.aload_n 0, 1) := by decide +kernel
theorem dX8_reachThrough_79 : decode mX8_reachThrough.2.1 79 = .ok (.getfield 19, 3) := by decide +kernel
theorem dX8_reachThrough_82 : decode mX8_reachThrough.2.1 82 = .ok (.iload 4, 2) := by decide +kernel
theorem dX8_reachThrough_84 : decode mX8_reachThrough.2.1 84 = .ok (.aload_n 0, 1) := by decide +kernel
theorem dX8_reachThrough_85 : decode mX8_reachThrough.2.1 85 = .ok (.getfield 71, 3) := by decide +kernel
theorem dX8_reachThrough_88 : decode mX8_reachThrough.2.1 88 = .ok (.lastore, 1) := by decide +kernel
theorem dX8_reachThrough_89 : decode mX8_reachThrough.2.1 89 = .ok (.aload_n 0, 1) := by decide +kernel
theorem dX8_reachThrough_90 : decode mX8_reachThrough.2.1 90 = .ok (.getfield 9, 3) := by decide +kernel
theorem dX8_reachThrough_93 : decode mX8_reachThrough.2.1 93 = .ok (.iload 4, 2) := by decide +kernel
theorem dX8_reachThrough_95 : decode mX8_reachThrough.2.1 95 = .ok (.aload_n 0, 1) := by decide +kernel
theorem dX8_reachThrough_96 : decode mX8_reachThrough.2.1 96 = .ok (.getfield 67, 3) := by decide +kernel
theorem dX8_reachThrough_99 : decode mX8_reachThrough.2.1 99 = .ok (.invokestatic 74, 3) := by decide +kernel
theorem dX8_reachThrough_102 : decode mX8_reachThrough.2.1 102 = .ok (.ldc2_w 80, 3) := by decide +kernel
theorem dX8_reachThrough_105 : decode mX8_reachThrough.2.1 105 = .ok (.lcmp, 1) := by decide +kernel
theorem dX8_reachThrough_106 : decode mX8_reachThrough.2.1 106 = .ok (.ifCond .gt 14, 3) := by decide +kernel
theorem dX8_reachThrough_109 : decode mX8_reachThrough.2.1 109 = .ok (.aload_n 0, 1) := by decide +kernel
theorem dX8_reachThrough_110 : decode mX8_reachThrough.2.1 110 = .ok (.getfield 71, 3) := by decide +kernel
theorem dX8_reachThrough_113 : decode mX8_reachThrough.2.1 113 = .ok (.ldc2_w 80, 3) := by decide +kernel
theorem dX8_reachThrough_116 : decode mX8_reachThrough.2.1 116 = .ok (.lcmp, 1) := by decide +kernel
theorem dX8_reachThrough_117 : decode mX8_reachThrough.2.1 117 = .ok (.ifCond .le 7, 3) := by decide +kernel
theorem dX8_reachThrough_120 : decode mX8_reachThrough.2.1 120 = .ok (.iconst 2, 1) := by decide +kernel
theorem dX8_reachThrough_121 : decode mX8_reachThrough.2.1 121 = .ok (.goto 4, 3) := by decide +kernel
theorem dX8_reachThrough_124 : decode mX8_reachThrough.2.1 124 = .ok (.iconst 1, 1) := by decide +kernel
theorem dX8_reachThrough_125 : decode mX8_reachThrough.2.1 125 = .ok (.iastore, 1) := by decide +kernel
theorem dX8_reachThrough_126 : decode mX8_reachThrough.2.1 126 = .ok (.return_, 1) := by decide +kernel
theorem okX8_reachThrough_60 : gOkV mX8_reachThrough mX3_kindOf 60 2 := ⟨List.forall_mem_cons.mpr ⟨(gm 725 (by decide +kernel) rfl), List.forall_mem_cons.mpr ⟨(gm 1020 (by decide +kernel) rfl), List.forall_mem_cons.mpr ⟨(gm 723 (by decide +kernel) rfl), List.forall_mem_cons.mpr ⟨(gm 724 (by decide +kernel) rfl), List.forall_mem_cons.mpr ⟨(gm 109 (by decide +kernel) rfl), fun _ h => absurd h List.not_mem_nil⟩⟩⟩⟩⟩, by decide +kernel, by decide +kernel, by decide +kernel⟩
theorem okX8_reachThrough_63 : gOkV mX8_reachThrough mX8_carry 63 4 := ⟨List.forall_mem_cons.mpr ⟨(gm 1024 (by decide +kernel) rfl), List.forall_mem_cons.mpr ⟨(gm 1021 (by decide +kernel) rfl), List.forall_mem_cons.mpr ⟨(gm 1023 (by decide +kernel) rfl), List.forall_mem_cons.mpr ⟨(gm 44 (by decide +kernel) rfl), List.forall_mem_cons.mpr ⟨(gm 119 (by decide +kernel) rfl), fun _ h => absurd h List.not_mem_nil⟩⟩⟩⟩⟩, by decide +kernel, by decide +kernel, by decide +kernel⟩
theorem okX8_reachThrough_74 : gOkS mX8_reachThrough mJ9_abs_067f4 74 1 := ⟨List.forall_mem_cons.mpr ⟨(gm 1027 (by decide +kernel) rfl), List.forall_mem_cons.mpr ⟨(gm 1025 (by decide +kernel) rfl), List.forall_mem_cons.mpr ⟨(gm 1026 (by decide +kernel) rfl), List.forall_mem_cons.mpr ⟨(gm 124 (by decide +kernel) rfl), fun _ h => absurd h List.not_mem_nil⟩⟩⟩⟩, by decide +kernel, by decide +kernel, by decide +kernel⟩
theorem okX8_reachThrough_53 : gOkV mX8_reachThrough mX3_firstOf 53 2 := ⟨List.forall_mem_cons.mpr ⟨(gm 680 (by decide +kernel) rfl), List.forall_mem_cons.mpr ⟨(gm 1013 (by decide +kernel) rfl), List.forall_mem_cons.mpr ⟨(gm 678 (by decide +kernel) rfl), List.forall_mem_cons.mpr ⟨(gm 679 (by decide +kernel) rfl), List.forall_mem_cons.mpr ⟨(gm 109 (by decide +kernel) rfl), fun _ h => absurd h List.not_mem_nil⟩⟩⟩⟩⟩, by decide +kernel, by decide +kernel, by decide +kernel⟩
theorem okX8_reachThrough_57 : gOkV mX8_reachThrough mX3_secondOf 57 2 := ⟨List.forall_mem_cons.mpr ⟨(gm 688 (by decide +kernel) rfl), List.forall_mem_cons.mpr ⟨(gm 1014 (by decide +kernel) rfl), List.forall_mem_cons.mpr ⟨(gm 686 (by decide +kernel) rfl), List.forall_mem_cons.mpr ⟨(gm 687 (by decide +kernel) rfl), List.forall_mem_cons.mpr ⟨(gm 109 (by decide +kernel) rfl), fun _ h => absurd h List.not_mem_nil⟩⟩⟩⟩⟩, by decide +kernel, by decide +kernel, by decide +kernel⟩
def fX8_reachThrough_125 (p1 : Nat) (p2 : Int32) (s1 : Int32) (s2 : Int32) (σ : gS) : Option (Unit × gS) :=
  gg (¬ (s1 < 0 ∨ 16 ≤ s1.toNatClampNeg)) (
  bnd (gsI σ 145 s1.toNatClampNeg s2) fun σ2 =>
  some ((), σ2))
set_option maxHeartbeats 4000000 in
set_option maxRecDepth 100000 in
theorem pX8_reachThrough_125 {E : gE} {p1 : Nat} {p2 : Int32} {r : Unit} {σ' : gS} {s1 : Int32} {s2 : Int32} {σ : gS} (hp1 : gLk p1) (h : fX8_reachThrough_125 p1 p2 s1 s2 σ = some (r, σ')) : gG E mX8_reachThrough 125 [] [.int s2, .int s1, .ref 145] σ (none) σ' := by
  unfold fX8_reachThrough_125 at h
  obtain ⟨g1, h⟩ := gg_some h
  obtain ⟨σ2, eσ2, h⟩ := bnd_nm h
  refine g_iast dX8_reachThrough_125 gi_145 g1 (g_st eσ2 ?_)
  obtain ⟨rfl, rfl⟩ := so_inj h
  exact g_vret dX8_reachThrough_126 rfl
def fX8_reachThrough_120 (p1 : Nat) (p2 : Int32) (s1 : Int32) (σ : gS) : Option (Unit × gS) :=
  fX8_reachThrough_125 p1 p2 s1 2 σ
set_option maxHeartbeats 4000000 in
set_option maxRecDepth 100000 in
theorem pX8_reachThrough_120 {E : gE} {p1 : Nat} {p2 : Int32} {r : Unit} {σ' : gS} {s1 : Int32} {σ : gS} (hp1 : gLk p1) (h : fX8_reachThrough_120 p1 p2 s1 σ = some (r, σ')) : gG E mX8_reachThrough 120 [] [.int s1, .ref 145] σ (none) σ' := by
  unfold fX8_reachThrough_120 at h
  refine g_iconst (v := 2) dX8_reachThrough_120 (by decide) ?_
  refine g_goto (t := 125) dX8_reachThrough_121 (by decide) ?_
  exact pX8_reachThrough_125 hp1 h
def fX8_reachThrough_34 (p1 : Nat) (p2 : Int32) (v3 : Int32) (v4 : Int32) (σ : gS) : Option (Unit × gS) :=
  gg (¬ (v3 < 0 ∨ 16 ≤ v3.toNatClampNeg)) (
  if (σ.1 145 v3.toNatClampNeg) = 2 then
    gg (¬ (v4 < 0 ∨ 16 ≤ v4.toNatClampNeg)) (
    bnd (gsI σ 145 v4.toNatClampNeg 2) fun σ18 =>
    some ((), σ18))
  else
    bd (fX3_kindOf p1 3 p2 σ) fun x3 σ4 =>
    bd (fX8_carry p1 x3 v3 v4 σ4) fun _ σ6 =>
    gg (¬ (v4 < 0 ∨ 16 ≤ v4.toNatClampNeg)) (
    bnd (gsJ σ6 146 v4.toNatClampNeg (σ6.2.1 144 4)) fun σ9 =>
    gg (¬ (v4 < 0 ∨ 16 ≤ v4.toNatClampNeg)) (
    bnd (gsJ σ9 147 v4.toNatClampNeg (σ9.2.1 144 5)) fun σ11 =>
    bd (fJ9_abs_067f4 (σ11.2.1 144 4) σ11) fun x12 σ13 =>
    if 0 < (lg_cmp x12 1000000000000) then
      fX8_reachThrough_120 p1 p2 v4 σ13
    else
      if (lg_cmp (σ13.2.1 144 5) 1000000000000) ≤ 0 then
        fX8_reachThrough_125 p1 p2 v4 1 σ13
      else
        fX8_reachThrough_120 p1 p2 v4 σ13)))
set_option maxHeartbeats 4000000 in
set_option maxRecDepth 100000 in
theorem pX8_reachThrough_34 {E : gE} {p1 : Nat} {p2 : Int32} {r : Unit} {σ' : gS} {v3 : Int32} {v4 : Int32} {σ : gS} (hp1 : gLk p1) (h : fX8_reachThrough_34 p1 p2 v3 v4 σ = some (r, σ')) : gG E mX8_reachThrough 34 [(0, .ref 144), (1, .ref p1), (2, .int p2), (3, .int v3), (4, .int v4)] [] σ (none) σ' := by
  unfold fX8_reachThrough_34 at h
  refine g_aload_n dX8_reachThrough_34 rfl 0 rfl ?_
  refine g_getC (n := 145) dX8_reachThrough_35 gi_144 rfl fl_RX8_9 ?_
  refine g_iload_n dX8_reachThrough_38 rfl 3 rfl ?_
  obtain ⟨g1, h⟩ := gg_some h
  refine g_iald dX8_reachThrough_39 gi_145 g1 ?_
  refine g_iconst (v := 2) dX8_reachThrough_40 (by decide) ?_
  refine g_icmp_ne (t := 53) dX8_reachThrough_41 (by decide) (fun c2 => ?_) (fun c2 => ?_)
  · replace h := if_f h c2
    refine g_aload_n dX8_reachThrough_53 rfl 0 rfl ?_
    refine g_aload_n dX8_reachThrough_54 rfl 1 rfl ?_
    refine g_aload_n dX8_reachThrough_55 rfl 1 rfl ?_
    refine g_iconst (v := 3) dX8_reachThrough_56 (by decide) ?_
    refine g_iload_n dX8_reachThrough_57 rfl 2 rfl ?_
    obtain ⟨x3, σ4, y5, h⟩ := bd_some h
    refine g_callVr (as := [.int 3, .int p2]) (st := [.ref p1, .ref 144]) (zX3_kindOf hp1 y5) dX8_reachThrough_58 (gi_lk hp1) rfl okX8_reachThrough_60 (Nat.le_of_ble_eq_true rfl) ?_
    refine g_iload_n dX8_reachThrough_61 rfl 3 rfl ?_
    refine g_iload dX8_reachThrough_62 4 rfl ?_
    obtain ⟨_, σ6, y7, h⟩ := bd_some h
    refine g_callVv (as := [.ref p1, .int x3, .int v3, .int v4]) (st := []) (zX8_carry hp1 y7) dX8_reachThrough_64 gi_144 rfl okX8_reachThrough_63 (Nat.le_of_ble_eq_true rfl) ?_
    refine g_aload_n dX8_reachThrough_67 rfl 0 rfl ?_
    refine g_getC (n := 146) dX8_reachThrough_68 gi_144 rfl fl_RX8_15 ?_
    refine g_iload dX8_reachThrough_71 4 rfl ?_
    refine g_aload_n dX8_reachThrough_73 rfl 0 rfl ?_
    refine g_getJ dX8_reachThrough_74 gi_144 rfl fl_RX8_67 ?_
    obtain ⟨g8, h⟩ := gg_some h
    obtain ⟨σ9, eσ9, h⟩ := bnd_nm h
    refine g_last dX8_reachThrough_77 gi_146 g8 (g_st eσ9 ?_)
    refine g_aload_n dX8_reachThrough_78 rfl 0 rfl ?_
    refine g_getC (n := 147) dX8_reachThrough_79 gi_144 rfl fl_RX8_19 ?_
    refine g_iload dX8_reachThrough_82 4 rfl ?_
    refine g_aload_n dX8_reachThrough_84 rfl 0 rfl ?_
    refine g_getJ dX8_reachThrough_85 gi_144 rfl fl_RX8_71 ?_
    obtain ⟨g10, h⟩ := gg_some h
    obtain ⟨σ11, eσ11, h⟩ := bnd_nm h
    refine g_last dX8_reachThrough_88 gi_147 g10 (g_st eσ11 ?_)
    refine g_aload_n dX8_reachThrough_89 rfl 0 rfl ?_
    refine g_getC (n := 145) dX8_reachThrough_90 gi_144 rfl fl_RX8_9 ?_
    refine g_iload dX8_reachThrough_93 4 rfl ?_
    refine g_aload_n dX8_reachThrough_95 rfl 0 rfl ?_
    refine g_getJ dX8_reachThrough_96 gi_144 rfl fl_RX8_67 ?_
    obtain ⟨x12, σ13, y14, h⟩ := bd_some h
    refine g_callSr (as := [.long (σ11.2.1 144 4)]) (st := [.int v4, .ref 145]) (zJ9_abs_067f4 y14) dX8_reachThrough_99 okX8_reachThrough_74 (Nat.le_of_ble_eq_true rfl) ?_
    refine g_ldc2 (v := 1000000000000) dX8_reachThrough_102 wl_RX8_80 ?_
    refine g_lcmp dX8_reachThrough_105 ?_
    refine g_if_gt (t := 120) dX8_reachThrough_106 (by decide) (fun c15 => ?_) (fun c15 => ?_)
    · replace h := if_t h c15
      refine g_sub [] rfl ?_
      exact pX8_reachThrough_120 hp1 h
    · replace h := if_f h c15
      refine g_aload_n dX8_reachThrough_109 rfl 0 rfl ?_
      refine g_getJ dX8_reachThrough_110 gi_144 rfl fl_RX8_71 ?_
      refine g_ldc2 (v := 1000000000000) dX8_reachThrough_113 wl_RX8_80 ?_
      refine g_lcmp dX8_reachThrough_116 ?_
      refine g_if_le (t := 124) dX8_reachThrough_117 (by decide) (fun c16 => ?_) (fun c16 => ?_)
      · replace h := if_t h c16
        refine g_iconst (v := 1) dX8_reachThrough_124 (by decide) ?_
        refine g_sub [] rfl ?_
        exact pX8_reachThrough_125 hp1 h
      · replace h := if_f h c16
        refine g_sub [] rfl ?_
        exact pX8_reachThrough_120 hp1 h
  · replace h := if_t h c2
    refine g_aload_n dX8_reachThrough_44 rfl 0 rfl ?_
    refine g_getC (n := 145) dX8_reachThrough_45 gi_144 rfl fl_RX8_9 ?_
    refine g_iload dX8_reachThrough_48 4 rfl ?_
    refine g_iconst (v := 2) dX8_reachThrough_50 (by decide) ?_
    obtain ⟨g17, h⟩ := gg_some h
    obtain ⟨σ18, eσ18, h⟩ := bnd_nm h
    refine g_iast dX8_reachThrough_51 gi_145 g17 (g_st eσ18 ?_)
    obtain ⟨rfl, rfl⟩ := so_inj h
    exact g_vret dX8_reachThrough_52 rfl
def fX8_reachThrough (p1 : Nat) (p2 : Int32) (σ : gS) : Option (Unit × gS) :=
  bd (fX3_firstOf p1 3 p2 σ) fun x1 σ2 =>
  bd (fX3_secondOf p1 3 p2 σ2) fun x4 σ5 =>
  gg (¬ (x1 < 0 ∨ 16 ≤ x1.toNatClampNeg)) (
  if (σ5.1 145 x1.toNatClampNeg) = 0 then
    fX8_reachThrough_34 p1 p2 x4 x1 σ5
  else
    fX8_reachThrough_34 p1 p2 x1 x4 σ5)
set_option maxHeartbeats 4000000 in
set_option maxRecDepth 100000 in
theorem pX8_reachThrough {E : gE} {p1 : Nat} {p2 : Int32} {r : Unit} {σ' : gS} {σ : gS} (hp1 : gLk p1) (h : fX8_reachThrough p1 p2 σ = some (r, σ')) : gG E mX8_reachThrough 0 [(0, .ref 144), (1, .ref p1), (2, .int p2)] [] σ (none) σ' := by
  unfold fX8_reachThrough at h
  refine g_aload_n dX8_reachThrough_0 rfl 1 rfl ?_
  refine g_iconst (v := 3) dX8_reachThrough_1 (by decide) ?_
  refine g_iload_n dX8_reachThrough_2 rfl 2 rfl ?_
  obtain ⟨x1, σ2, y3, h⟩ := bd_some h
  refine g_callVr (as := [.int 3, .int p2]) (st := []) (zX3_firstOf hp1 y3) dX8_reachThrough_3 (gi_lk hp1) rfl okX8_reachThrough_53 (Nat.le_of_ble_eq_true rfl) ?_
  refine g_istore_n (lv' := [(3, .int x1), (0, .ref 144), (1, .ref p1), (2, .int p2)]) dX8_reachThrough_6 rfl (Nat.le_of_ble_eq_true rfl) rfl ?_
  refine g_aload_n dX8_reachThrough_7 rfl 2 rfl ?_
  refine g_iconst (v := 3) dX8_reachThrough_8 (by decide) ?_
  refine g_iload_n dX8_reachThrough_9 rfl 3 rfl ?_
  obtain ⟨x4, σ5, y6, h⟩ := bd_some h
  refine g_callVr (as := [.int 3, .int p2]) (st := []) (zX3_secondOf hp1 y6) dX8_reachThrough_10 (gi_lk hp1) rfl okX8_reachThrough_57 (Nat.le_of_ble_eq_true rfl) ?_
  refine g_istore (lv' := [(4, .int x4), (3, .int x1), (0, .ref 144), (1, .ref p1), (2, .int p2)]) dX8_reachThrough_13 (Nat.le_of_ble_eq_true rfl) rfl ?_
  refine g_aload_n dX8_reachThrough_15 rfl 2 rfl ?_
  refine g_getC (n := 145) dX8_reachThrough_16 gi_144 rfl fl_RX8_9 ?_
  refine g_iload_n dX8_reachThrough_19 rfl 1 rfl ?_
  obtain ⟨g7, h⟩ := gg_some h
  refine g_iald dX8_reachThrough_20 gi_145 g7 ?_
  refine g_if_ne (t := 34) dX8_reachThrough_21 (by decide) (fun c8 => ?_) (fun c8 => ?_)
  · replace h := if_f h c8
    refine g_sub [2, 3, 4, 1, 0] rfl ?_
    exact pX8_reachThrough_34 hp1 h
  · replace h := if_t h c8
    refine g_iload_n dX8_reachThrough_24 rfl 1 rfl ?_
    refine g_istore (lv' := [(5, .int x1), (4, .int x4), (3, .int x1), (0, .ref 144), (1, .ref p1), (2, .int p2)]) dX8_reachThrough_25 (Nat.le_of_ble_eq_true rfl) rfl ?_
    refine g_iload dX8_reachThrough_27 1 rfl ?_
    refine g_istore_n (lv' := [(3, .int x4), (5, .int x1), (4, .int x4), (0, .ref 144), (1, .ref p1), (2, .int p2)]) dX8_reachThrough_29 rfl (Nat.le_of_ble_eq_true rfl) rfl ?_
    refine g_iload dX8_reachThrough_30 1 rfl ?_
    refine g_istore (lv' := [(4, .int x1), (3, .int x4), (5, .int x1), (0, .ref 144), (1, .ref p1), (2, .int p2)]) dX8_reachThrough_32 (Nat.le_of_ble_eq_true rfl) rfl ?_
    refine g_sub [3, 4, 5, 1, 0] rfl ?_
    exact pX8_reachThrough_34 hp1 h
theorem zX8_reachThrough {E : gE} {p1 : Nat} {p2 : Int32} {r : Unit} {σ σ' : gS} (hp1 : gLk p1) (h : fX8_reachThrough p1 p2 σ = some (r, σ')) : gC E mX8_reachThrough [.ref 144, .ref p1, .int p2] σ (none) σ' :=
  gC_of (by decide +kernel) rfl (Nat.le_of_ble_eq_true rfl) (pX8_reachThrough hp1 h)
def mX8_spread : gM := (yX8_spread, cX8_spread, RX8, 5, none, 3, 81)
theorem dX8_spread_0 : decode mX8_spread.2.1 0 = .ok (.aload_n 0, 1) := by decide +kernel
theorem dX8_spread_1 : decode mX8_spread.2.1 1 = .ok (.getfield 9, 3) := by decide +kernel
theorem dX8_spread_4 : decode mX8_spread.2.1 4 = .ok (.iconst 0, 1) := by decide +kernel
theorem dX8_spread_5 : decode mX8_spread.2.1 5 = .ok (.invokestatic 26, 3) := by decide +kernel
theorem dX8_spread_8 : decode mX8_spread.2.1 8 = .ok (.aload_n 0, 1) := by decide +kernel
theorem dX8_spread_9 : decode mX8_spread.2.1 9 = .ok (.getfield 9, 3) := by decide +kernel
theorem dX8_spread_12 : decode mX8_spread.2.1 12 = .ok (.iload_n 2, 1) := by decide +kernel
theorem dX8_spread_13 : decode mX8_spread.2.1 13 = .ok (.iconst 1, 1) := by decide +kernel
theorem dX8_spread_14 : decode mX8_spread.2.1 14 = .ok (.iastore, 1) := by decide +kernel
theorem dX8_spread_15 : decode mX8_spread.2.1 15 = .ok (.aload_n 0, 1) := by decide +kernel
theorem dX8_spread_16 : decode mX8_spread.2.1 16 = .ok (.getfield 15, 3) := by decide +kernel
theorem dX8_spread_19 : decode mX8_spread.2.1 19 = .ok (.iload_n 2, 1) := by decide +kernel
theorem dX8_spread_20 : decode mX8_spread.2.1 20 = .ok (.lconst 1, 1) := by decide +kernel
theorem dX8_spread_21 : decode mX8_spread.2.1 21 = .ok (.lastore, 1) := by decide +kernel
theorem dX8_spread_22 : decode mX8_spread.2.1 22 = .ok (.aload_n 0, 1) := by decide +kernel
theorem dX8_spread_23 : decode mX8_spread.2.1 23 = .ok (.getfield 19, 3) := by decide +kernel
theorem dX8_spread_26 : decode mX8_spread.2.1 26 = .ok (.iload_n 2, 1) := by decide +kernel
theorem dX8_spread_27 : decode mX8_spread.2.1 27 = .ok (.lconst 1, 1) := by decide +kernel
theorem dX8_spread_28 : decode mX8_spread.2.1 28 = .ok (.lastore, 1) := by decide +kernel
theorem dX8_spread_29 : decode mX8_spread.2.1 29 = .ok (.iconst 0, 1) := by decide +kernel
theorem dX8_spread_30 : decode mX8_spread.2.1 30 = .ok (.istore_n 3, 1) := by decide +kernel
theorem dX8_spread_31 : decode mX8_spread.2.1 31 = .ok (.iload_n 3, 1) := by decide +kernel
theorem dX8_spread_32 : decode mX8_spread.2.1 32 = .ok (.bipush 16, 2) := by decide +kernel
theorem dX8_spread_34 : decode mX8_spread.2.1 34 = .ok (.if_icmp .ge 33, 3) := by decide +kernel
theorem dX8_spread_37 : decode mX8_spread.2.1 37 = .ok (.aload_n 0, 1) := by decide +kernel
theorem dX8_spread_38 : decode mX8_spread.2.1 38 = .ok (.aload_n 1, 1) := by decide +kernel
theorem dX8_spread_39 : decode mX8_spread.2.1 39 = .ok (.invokevirtual 32, 3) := by decide +kernel
theorem dX8_spread_42 : decode mX8_spread.2.1 42 = .ok (.istore 4, 2) := by decide +kernel
theorem dX8_spread_44 : decode mX8_spread.2.1 44 = .ok (.iload 4, 2) := by decide +kernel
theorem dX8_spread_46 : decode mX8_spread.2.1 46 = .ok (.ldc 36, 2) := by decide +kernel
theorem dX8_spread_48 : decode mX8_spread.2.1 48 = .ok (.if_icmp .ne 6, 3) := by decide +kernel
theorem dX8_spread_51 : decode mX8_spread.2.1 51 = .ok (.goto 16, 3) := by decide +kernel
theorem dX8_spread_54 : decode mX8_spread.2.1 54 = .ok (.aload_n 0, 1) := by decide +kernel
theorem dX8_spread_55 : decode mX8_spread.2.1 55 = .ok (.aload_n 1, 1) := by decide +kernel
theorem dX8_spread_56 : decode mX8_spread.2.1 56 = .ok (.iload 4, 2) := by decide +kernel
theorem dX8_spread_58 : decode mX8_spread.2.1 58 = .ok (.invokevirtual 37, 3) := by decide +kernel
theorem dX8_spread_61 : decode mX8_spread.2.1 61 = .ok (.iinc 3 1, 3) := by decide +kernel
theorem dX8_spread_64 : decode mX8_spread.2.1 64 = .ok (.goto (-33), 3) := by decide +kernel
theorem dX8_spread_67 : decode mX8_spread.2.1 67 = .ok (.return_, 1) := by decide +kernel
theorem okX8_spread_32 : gOkV mX8_spread mX8_firstToReach 32 1 := ⟨List.forall_mem_cons.mpr ⟨(gm 1011 (by decide +kernel) rfl), List.forall_mem_cons.mpr ⟨(gm 1008 (by decide +kernel) rfl), List.forall_mem_cons.mpr ⟨(gm 1010 (by decide +kernel) rfl), List.forall_mem_cons.mpr ⟨(gm 42 (by decide +kernel) rfl), List.forall_mem_cons.mpr ⟨(gm 119 (by decide +kernel) rfl), fun _ h => absurd h List.not_mem_nil⟩⟩⟩⟩⟩, by decide +kernel, by decide +kernel, by decide +kernel⟩
theorem okX8_spread_37 : gOkV mX8_spread mX8_reachThrough 37 2 := ⟨List.forall_mem_cons.mpr ⟨(gm 1019 (by decide +kernel) rfl), List.forall_mem_cons.mpr ⟨(gm 1016 (by decide +kernel) rfl), List.forall_mem_cons.mpr ⟨(gm 1018 (by decide +kernel) rfl), List.forall_mem_cons.mpr ⟨(gm 43 (by decide +kernel) rfl), List.forall_mem_cons.mpr ⟨(gm 119 (by decide +kernel) rfl), fun _ h => absurd h List.not_mem_nil⟩⟩⟩⟩⟩, by decide +kernel, by decide +kernel, by decide +kernel⟩
theorem okX8_spread_26 : gOkS mX8_spread mJ7_fill_53178 26 2 := ⟨List.forall_mem_cons.mpr ⟨(gm 587 (by decide +kernel) rfl), List.forall_mem_cons.mpr ⟨(gm 1007 (by decide +kernel) rfl), List.forall_mem_cons.mpr ⟨(gm 586 (by decide +kernel) rfl), List.forall_mem_cons.mpr ⟨(gm 123 (by decide +kernel) rfl), fun _ h => absurd h List.not_mem_nil⟩⟩⟩⟩, by decide +kernel, by decide +kernel, by decide +kernel⟩
def fX8_spread_67 (p1 : Nat) (p2 : Int32) (σ : gS) : Option (Unit × gS) :=
  some ((), σ)
set_option maxHeartbeats 4000000 in
set_option maxRecDepth 100000 in
theorem pX8_spread_67 {E : gE} {p1 : Nat} {p2 : Int32} {r : Unit} {σ' : gS} {σ : gS} (hp1 : gLk p1) (h : fX8_spread_67 p1 p2 σ = some (r, σ')) : gG E mX8_spread 67 [] [] σ (none) σ' := by
  unfold fX8_spread_67 at h
  obtain ⟨rfl, rfl⟩ := so_inj h
  exact g_vret dX8_spread_67 rfl
def fX8_spread_31 (p1 : Nat) (p2 : Int32) : Nat → Int32 → gS → Option (Unit × gS)
  | 0, _, _ => none
  | n + 1, v3, σ => if 16 ≤ v3 then
    fX8_spread_67 p1 p2 σ
  else
    bd (fX8_firstToReach p1 σ) fun x2 σ3 =>
    if x2 = (-1000000) then
      fX8_spread_67 p1 p2 σ3
    else
      bd (fX8_reachThrough p1 x2 σ3) fun _ σ6 =>
      bnd (v3 + 1) fun x8 =>
      fX8_spread_31 p1 p2 n x8 σ6
set_option maxHeartbeats 4000000 in
set_option maxRecDepth 100000 in
theorem pX8_spread_31 {E : gE} {p1 : Nat} {p2 : Int32} {r : Unit} {σ' : gS} (hp1 : gLk p1) : ∀ (n : Nat) (v3 : Int32) (σ : gS), fX8_spread_31 p1 p2 n v3 σ = some (r, σ') → gG E mX8_spread 31 [(0, .ref 144), (1, .ref p1), (3, .int v3)] [] σ (none) σ' := by
  intro n
  induction n with
  | zero => intro v3 σ h; exact absurd (show none = some (r, σ') from h) (by intro q; cases q)
  | succ n ih =>
  intro v3 σ h
  unfold fX8_spread_31 at h
  refine g_iload_n dX8_spread_31 rfl 2 rfl ?_
  refine g_bipush (v := 16) dX8_spread_32 (by decide) ?_
  refine g_icmp_ge (t := 67) dX8_spread_34 (by decide) (fun c1 => ?_) (fun c1 => ?_)
  · replace h := if_t h c1
    refine g_sub [] rfl ?_
    exact pX8_spread_67 hp1 h
  · replace h := if_f h c1
    refine g_aload_n dX8_spread_37 rfl 0 rfl ?_
    refine g_aload_n dX8_spread_38 rfl 1 rfl ?_
    obtain ⟨x2, σ3, y4, h⟩ := bd_some h
    refine g_callVr (as := [.ref p1]) (st := []) (zX8_firstToReach hp1 y4) dX8_spread_39 gi_144 rfl okX8_spread_32 (Nat.le_of_ble_eq_true rfl) ?_
    refine g_istore (lv' := [(4, .int x2), (0, .ref 144), (1, .ref p1), (3, .int v3)]) dX8_spread_42 (Nat.le_of_ble_eq_true rfl) rfl ?_
    refine g_iload dX8_spread_44 0 rfl ?_
    refine g_ldc (v := (-1000000)) dX8_spread_46 wc_RX8_36 ?_
    refine g_icmp_ne (t := 54) dX8_spread_48 (by decide) (fun c5 => ?_) (fun c5 => ?_)
    · replace h := if_f h c5
      refine g_aload_n dX8_spread_54 rfl 1 rfl ?_
      refine g_aload_n dX8_spread_55 rfl 2 rfl ?_
      refine g_iload dX8_spread_56 0 rfl ?_
      obtain ⟨_, σ6, y7, h⟩ := bd_some h
      refine g_callVv (as := [.ref p1, .int x2]) (st := []) (zX8_reachThrough hp1 y7) dX8_spread_58 gi_144 rfl okX8_spread_37 (Nat.le_of_ble_eq_true rfl) ?_
      obtain ⟨x8, ex8, h⟩ := bnd_nm h
      refine g_iinc (j := 3) (v := x8) (lv' := [(3, .int x8), (4, .int x2), (0, .ref 144), (1, .ref p1)]) dX8_spread_61 rfl (by rw [ex8]; rfl) (Nat.le_of_ble_eq_true rfl) rfl ?_
      refine g_goto (t := 31) dX8_spread_64 (by decide) ?_
      refine g_sub [2, 3, 0] rfl ?_
      exact ih x8 σ6 h
    · replace h := if_t h c5
      refine g_goto (t := 67) dX8_spread_51 (by decide) ?_
      refine g_sub [] rfl ?_
      exact pX8_spread_67 hp1 h
def fX8_spread (p1 : Nat) (p2 : Int32) (σ : gS) : Option (Unit × gS) :=
  bd (fJ7_fill_53178 145 16 0 σ) fun _ σ1 =>
  gg (¬ (p2 < 0 ∨ 16 ≤ p2.toNatClampNeg)) (
  bnd (gsI σ1 145 p2.toNatClampNeg 1) fun σ4 =>
  gg (¬ (p2 < 0 ∨ 16 ≤ p2.toNatClampNeg)) (
  bnd (gsJ σ4 146 p2.toNatClampNeg 1) fun σ6 =>
  gg (¬ (p2 < 0 ∨ 16 ≤ p2.toNatClampNeg)) (
  bnd (gsJ σ6 147 p2.toNatClampNeg 1) fun σ8 =>
  fX8_spread_31 p1 p2 2000 0 σ8)))
set_option maxHeartbeats 4000000 in
set_option maxRecDepth 100000 in
theorem pX8_spread {E : gE} {p1 : Nat} {p2 : Int32} {r : Unit} {σ' : gS} {σ : gS} (hp1 : gLk p1) (h : fX8_spread p1 p2 σ = some (r, σ')) : gG E mX8_spread 0 [(0, .ref 144), (1, .ref p1), (2, .int p2)] [] σ (none) σ' := by
  unfold fX8_spread at h
  refine g_aload_n dX8_spread_0 rfl 0 rfl ?_
  refine g_getC (n := 145) dX8_spread_1 gi_144 rfl fl_RX8_9 ?_
  refine g_iconst (v := 0) dX8_spread_4 (by decide) ?_
  obtain ⟨_, σ1, y2, h⟩ := bd_some h
  refine g_callSv (as := [.ref 145, .int 0]) (st := []) (zJ7_fill_53178 gi_145 (by decide) y2) dX8_spread_5 okX8_spread_26 (Nat.le_of_ble_eq_true rfl) ?_
  refine g_aload_n dX8_spread_8 rfl 0 rfl ?_
  refine g_getC (n := 145) dX8_spread_9 gi_144 rfl fl_RX8_9 ?_
  refine g_iload_n dX8_spread_12 rfl 2 rfl ?_
  refine g_iconst (v := 1) dX8_spread_13 (by decide) ?_
  obtain ⟨g3, h⟩ := gg_some h
  obtain ⟨σ4, eσ4, h⟩ := bnd_nm h
  refine g_iast dX8_spread_14 gi_145 g3 (g_st eσ4 ?_)
  refine g_aload_n dX8_spread_15 rfl 0 rfl ?_
  refine g_getC (n := 146) dX8_spread_16 gi_144 rfl fl_RX8_15 ?_
  refine g_iload_n dX8_spread_19 rfl 2 rfl ?_
  refine g_lconst (v := 1) dX8_spread_20 (by decide) ?_
  obtain ⟨g5, h⟩ := gg_some h
  obtain ⟨σ6, eσ6, h⟩ := bnd_nm h
  refine g_last dX8_spread_21 gi_146 g5 (g_st eσ6 ?_)
  refine g_aload_n dX8_spread_22 rfl 0 rfl ?_
  refine g_getC (n := 147) dX8_spread_23 gi_144 rfl fl_RX8_19 ?_
  refine g_iload_n dX8_spread_26 rfl 2 rfl ?_
  refine g_lconst (v := 1) dX8_spread_27 (by decide) ?_
  obtain ⟨g7, h⟩ := gg_some h
  obtain ⟨σ8, eσ8, h⟩ := bnd_nm h
  refine g_last dX8_spread_28 gi_147 g7 (g_st eσ8 ?_)
  refine g_iconst (v := 0) dX8_spread_29 (by decide) ?_
  refine g_istore_n (lv' := [(3, .int 0), (0, .ref 144), (1, .ref p1), (2, .int p2)]) dX8_spread_30 rfl (Nat.le_of_ble_eq_true rfl) rfl ?_
  refine g_sub [1, 2, 0] rfl ?_
  exact pX8_spread_31 hp1 2000 0 σ8 h
theorem zX8_spread {E : gE} {p1 : Nat} {p2 : Int32} {r : Unit} {σ σ' : gS} (hp1 : gLk p1) (h : fX8_spread p1 p2 σ = some (r, σ')) : gC E mX8_spread [.ref 144, .ref p1, .int p2] σ (none) σ' :=
  gC_of (by decide +kernel) rfl (Nat.le_of_ble_eq_true rfl) (pX8_spread hp1 h)
def mX8_firstNotHeld : gM := (yX8_firstNotHeld, cX8_firstNotHeld, RX8, 5, (some .int), 2, 56)
theorem dX8_firstNotHeld_0 : decode mX8_firstNotHeld.2.1 0 = .ok (.iconst 0, 1) := by decide +kernel
theorem dX8_firstNotHeld_1 : decode mX8_firstNotHeld.2.1 1 = .ok (.istore_n 2, 1) := by decide +kernel
theorem dX8_firstNotHeld_2 : decode mX8_firstNotHeld.2.1 2 = .ok (.iload_n 2, 1) := by decide +kernel
theorem dX8_firstNotHeld_3 : decode mX8_firstNotHeld.2.1 3 = .ok (.aload_n 1, 1) := by decide +kernel
theorem dX8_firstNotHeld_4 : decode mX8_firstNotHeld.2.1 4 = .ok (.iconst 3, 1) := by decide +kernel
theorem dX8_firstNotHeld_5 : decode mX8_firstNotHeld.2.1 5 = .ok (.invokevirtual 41, 3) := by decide +kernel
theorem dX8_firstNotHeld_8 : decode mX8_firstNotHeld.2.1 8 = .ok (.if_icmp .ge 94, 3) := by decide +kernel
theorem dX8_firstNotHeld_11 : decode mX8_firstNotHeld.2.1 11 = .ok (.aload_n 1, 1) := by decide +kernel
theorem dX8_firstNotHeld_12 : decode mX8_firstNotHeld.2.1 12 = .ok (.iconst 3, 1) := by decide +kernel
theorem dX8_firstNotHeld_13 : decode mX8_firstNotHeld.2.1 13 = .ok (.iload_n 2, 1) := by decide +kernel
theorem dX8_firstNotHeld_14 : decode mX8_firstNotHeld.2.1 14 = .ok (.invokevirtual 53, 3) := by decide +kernel
theorem dX8_firstNotHeld_17 : decode mX8_firstNotHeld.2.1 17 = .ok (.istore_n 3, 1) := by decide +kernel
theorem dX8_firstNotHeld_18 : decode mX8_firstNotHeld.2.1 18 = .ok (.aload_n 1, 1) := by decide +kernel
theorem dX8_firstNotHeld_19 : decode mX8_firstNotHeld.2.1 19 = .ok (.iconst 3, 1) := by decide +kernel
theorem dX8_firstNotHeld_20 : decode mX8_firstNotHeld.2.1 20 = .ok (.iload_n 2, 1) := by decide +kernel
theorem dX8_firstNotHeld_21 : decode mX8_firstNotHeld.2.1 21 = .ok (.invokevirtual 57, 3) := by decide +kernel
theorem dX8_firstNotHeld_24 : decode mX8_firstNotHeld.2.1 24 = .ok (.istore 4, 2) := by decide +kernel
theorem dX8_firstNotHeld_26 : decode mX8_firstNotHeld.2.1 26 = .ok (.aload_n 0, 1) := by decide +kernel
theorem dX8_firstNotHeld_27 : decode mX8_firstNotHeld.2.1 27 = .ok (.getfield 9, 3) := by decide +kernel
theorem dX8_firstNotHeld_30 : decode mX8_firstNotHeld.2.1 30 = .ok (.iload_n 3, 1) := by decide +kernel
theorem dX8_firstNotHeld_31 : decode mX8_firstNotHeld.2.1 31 = .ok (.iaload, 1) := by decide +kernel
theorem dX8_firstNotHeld_32 : decode mX8_firstNotHeld.2.1 32 = .ok (.iconst 1, 1) := by decide +kernel
theorem dX8_firstNotHeld_33 : decode mX8_firstNotHeld.2.1 33 = .ok (.if_icmp .ne 63, 3) := by decide +kernel
theorem dX8_firstNotHeld_36 : decode mX8_firstNotHeld.2.1 36 = .ok (.aload_n 0, 1) := by decide +kernel
theorem dX8_firstNotHeld_37 : decode mX8_firstNotHeld.2.1 37 = .ok (.getfield 9, 3) := by decide +kernel
theorem dX8_firstNotHeld_40 : decode mX8_firstNotHeld.2.1 40 = .ok (.iload 4, 2) := by decide +kernel
theorem dX8_firstNotHeld_42 : decode mX8_firstNotHeld.2.1 42 = .ok (.iaload, 1) := by decide +kernel
theorem dX8_firstNotHeld_43 : decode mX8_firstNotHeld.2.1 43 = .ok (.iconst 1, 1) := by decide +kernel
theorem dX8_firstNotHeld_44 : decode mX8_firstNotHeld.2.1 44 = .ok (.if_icmp .eq 6, 3) := by decide +kernel
theorem dX8_firstNotHeld_47 : decode mX8_firstNotHeld.2.1 47 = .ok (.goto 49, 3) := by decide +kernel
theorem dX8_firstNotHeld_50 : decode mX8_firstNotHeld.2.1 50 = .ok (.aload_n 0, 1) := by decide +kernel
theorem dX8_firstNotHeld_51 : decode mX8_firstNotHeld.2.1 51 = .ok (.aload_n 1, 1) := by decide +kernel
theorem dX8_firstNotHeld_52 : decode mX8_firstNotHeld.2.1 52 = .ok (.aload_n 1, 1) := by decide +kernel
theorem dX8_firstNotHeld_53 : decode mX8_firstNotHeld.2.1 53 = .ok (.iconst 3, 1) := by decide +kernel
theorem dX8_firstNotHeld_54 : decode mX8_firstNotHeld.2.1 54 = .ok (.iload_n 2, 1) := by decide +kernel
theorem dX8_firstNotHeld_55 : decode mX8_firstNotHeld.2.1 55 = .ok (.invokevirtual 60, 3) := by decide +kernel
theorem dX8_firstNotHeld_58 : decode mX8_firstNotHeld.2.1 58 = .ok (.iload_n 3, 1) := by decide +kernel
theorem dX8_firstNotHeld_59 : decode mX8_firstNotHeld.2.1 59 = .ok (.iload 4, 2) := by decide +kernel
theorem dX8_firstNotHeld_61 : decode mX8_firstNotHeld.2.1 61 = .ok (.invokevirtual 63, 3) := by decide +kernel
theorem dX8_firstNotHeld_64 : decode mX8_firstNotHeld.2.1 64 = .ok (.aload_n 0, 1) := by decide +kernel
theorem dX8_firstNotHeld_65 : decode mX8_firstNotHeld.2.1 65 = .ok (.getfield 67, 3) := by decide +kernel
theorem dX8_firstNotHeld_68 : decode mX8_firstNotHeld.2.1 68 = .ok (.aload_n 0, 1) := by decide +kernel
theorem dX8_firstNotHeld_69 : decode mX8_firstNotHeld.2.1 69 = .ok (.getfield 15, 3) := by decide +kernel
theorem dX8_firstNotHeld_72 : decode mX8_firstNotHeld.2.1 72 = .ok (.iload 4, 2) := by decide +kernel
theorem dX8_firstNotHeld_74 : decode mX8_firstNotHeld.2.1 74 = .ok (.laload, 1) := by decide +kernel
theorem dX8_firstNotHeld_75 : decode mX8_firstNotHeld.2.1 75 = .ok (.lcmp, 1) := by decide +kernel
theorem dX8_firstNotHeld_76 : decode mX8_firstNotHeld.2.1 76 = .ok (.ifCond .ne 18, 3) := by decide +kernel
theorem dX8_firstNotHeld_79 : decode mX8_firstNotHeld.2.1 79 = .ok (.aload_n 0, 1) := by decide +kernel
theorem dX8_firstNotHeld_80 : decode mX8_firstNotHeld.2.1 80 = .ok (.getfield 71, 3) := by decide +kernel
theorem dX8_firstNotHeld_83 : decode mX8_firstNotHeld.2.1 83 = .ok (.aload_n 0, 1) := by decide +kernel
theorem dX8_firstNotHeld_84 : decode mX8_firstNotHeld.2.1 84 = .ok (.getfield 19, 3) := by decide +kernel
theorem dX8_firstNotHeld_87 : decode mX8_firstNotHeld.2.1 87 = .ok (.iload 4, 2) := by decide +kernel
theorem dX8_firstNotHeld_89 : decode mX8_firstNotHeld.2.1 89 = .ok (.laload, 1) := by decide +kernel
theorem dX8_firstNotHeld_90 : decode mX8_firstNotHeld.2.1 90 = .ok (.lcmp, 1) := by decide +kernel
theorem dX8_firstNotHeld_91 : decode mX8_firstNotHeld.2.1 91 = .ok (.ifCond .eq 5, 3) := by decide +kernel
theorem dX8_firstNotHeld_94 : decode mX8_firstNotHeld.2.1 94 = .ok (.iload_n 2, 1) := by decide +kernel
theorem dX8_firstNotHeld_95 : decode mX8_firstNotHeld.2.1 95 = .ok (.ireturn, 1) := by decide +kernel
theorem dX8_firstNotHeld_96 : decode mX8_firstNotHeld.2.1 96 = .ok (.iinc 2 1, 3) := by decide +kernel
theorem dX8_firstNotHeld_99 : decode mX8_firstNotHeld.2.1 99 = .ok (.goto (-97), 3) := by decide +kernel
theorem dX8_firstNotHeld_102 : decode mX8_firstNotHeld.2.1 102 = .ok (.ldc 36, 2) := by decide +kernel
theorem dX8_firstNotHeld_104 : decode mX8_firstNotHeld.2.1 104 = .ok (.ireturn, 1) := by decide +kernel
theorem okX8_firstNotHeld_41 : gOkV mX8_firstNotHeld mX3_size 41 1 := ⟨List.forall_mem_cons.mpr ⟨(gm 737 (by decide +kernel) rfl), List.forall_mem_cons.mpr ⟨(gm 1012 (by decide +kernel) rfl), List.forall_mem_cons.mpr ⟨(gm 735 (by decide +kernel) rfl), List.forall_mem_cons.mpr ⟨(gm 736 (by decide +kernel) rfl), List.forall_mem_cons.mpr ⟨(gm 109 (by decide +kernel) rfl), fun _ h => absurd h List.not_mem_nil⟩⟩⟩⟩⟩, by decide +kernel, by decide +kernel, by decide +kernel⟩
theorem okX8_firstNotHeld_53 : gOkV mX8_firstNotHeld mX3_firstOf 53 2 := ⟨List.forall_mem_cons.mpr ⟨(gm 680 (by decide +kernel) rfl), List.forall_mem_cons.mpr ⟨(gm 1013 (by decide +kernel) rfl), List.forall_mem_cons.mpr ⟨(gm 678 (by decide +kernel) rfl), List.forall_mem_cons.mpr ⟨(gm 679 (by decide +kernel) rfl), List.forall_mem_cons.mpr ⟨(gm 109 (by decide +kernel) rfl), fun _ h => absurd h List.not_mem_nil⟩⟩⟩⟩⟩, by decide +kernel, by decide +kernel, by decide +kernel⟩
theorem okX8_firstNotHeld_57 : gOkV mX8_firstNotHeld mX3_secondOf 57 2 := ⟨List.forall_mem_cons.mpr ⟨(gm 688 (by decide +kernel) rfl), List.forall_mem_cons.mpr ⟨(gm 1014 (by decide +kernel) rfl), List.forall_mem_cons.mpr ⟨(gm 686 (by decide +kernel) rfl), List.forall_mem_cons.mpr ⟨(gm 687 (by decide +kernel) rfl), List.forall_mem_cons.mpr ⟨(gm 109 (by decide +kernel) rfl), fun _ h => absurd h List.not_mem_nil⟩⟩⟩⟩⟩, by decide +kernel, by decide +kernel, by decide +kernel⟩
theorem okX8_firstNotHeld_60 : gOkV mX8_firstNotHeld mX3_kindOf 60 2 := ⟨List.forall_mem_cons.mpr ⟨(gm 725 (by decide +kernel) rfl), List.forall_mem_cons.mpr ⟨(gm 1020 (by decide +kernel) rfl), List.forall_mem_cons.mpr ⟨(gm 723 (by decide +kernel) rfl), List.forall_mem_cons.mpr ⟨(gm 724 (by decide +kernel) rfl), List.forall_mem_cons.mpr ⟨(gm 109 (by decide +kernel) rfl), fun _ h => absurd h List.not_mem_nil⟩⟩⟩⟩⟩, by decide +kernel, by decide +kernel, by decide +kernel⟩
theorem okX8_firstNotHeld_63 : gOkV mX8_firstNotHeld mX8_carry 63 4 := ⟨List.forall_mem_cons.mpr ⟨(gm 1024 (by decide +kernel) rfl), List.forall_mem_cons.mpr ⟨(gm 1021 (by decide +kernel) rfl), List.forall_mem_cons.mpr ⟨(gm 1023 (by decide +kernel) rfl), List.forall_mem_cons.mpr ⟨(gm 44 (by decide +kernel) rfl), List.forall_mem_cons.mpr ⟨(gm 119 (by decide +kernel) rfl), fun _ h => absurd h List.not_mem_nil⟩⟩⟩⟩⟩, by decide +kernel, by decide +kernel, by decide +kernel⟩
def fX8_firstNotHeld_94 (p1 : Nat) (v2 : Int32) (σ : gS) : Option (Int32 × gS) :=
  some (v2, σ)
set_option maxHeartbeats 4000000 in
set_option maxRecDepth 100000 in
theorem pX8_firstNotHeld_94 {E : gE} {p1 : Nat} {r : Int32} {σ' : gS} {v2 : Int32} {σ : gS} (hp1 : gLk p1) (h : fX8_firstNotHeld_94 p1 v2 σ = some (r, σ')) : gG E mX8_firstNotHeld 94 [(2, .int v2)] [] σ (some (.int r)) σ' := by
  unfold fX8_firstNotHeld_94 at h
  refine g_iload_n dX8_firstNotHeld_94 rfl 0 rfl ?_
  obtain ⟨rfl, rfl⟩ := so_inj h
  exact g_iret dX8_firstNotHeld_95 rfl
def fX8_firstNotHeld_96 (p1 : Nat) (k2 : Int32 → gS → Option (Int32 × gS)) (v2 : Int32) (σ : gS) : Option (Int32 × gS) :=
  bnd (v2 + 1) fun x1 =>
  k2 x1 σ
set_option maxHeartbeats 4000000 in
set_option maxRecDepth 100000 in
theorem pX8_firstNotHeld_96 {E : gE} {p1 : Nat} {k2 : Int32 → gS → Option (Int32 × gS)} {r : Int32} {σ' : gS} {v2 : Int32} {σ : gS} (hp1 : gLk p1) (hk2 : ∀ (v2 : Int32) (σ : gS), k2 v2 σ = some (r, σ') → gG E mX8_firstNotHeld 2 [(0, .ref 144), (1, .ref p1), (2, .int v2)] [] σ (some (.int r)) σ') (h : fX8_firstNotHeld_96 p1 k2 v2 σ = some (r, σ')) : gG E mX8_firstNotHeld 96 [(0, .ref 144), (1, .ref p1), (2, .int v2)] [] σ (some (.int r)) σ' := by
  unfold fX8_firstNotHeld_96 at h
  obtain ⟨x1, ex1, h⟩ := bnd_nm h
  refine g_iinc (j := 2) (v := x1) (lv' := [(2, .int x1), (0, .ref 144), (1, .ref p1)]) dX8_firstNotHeld_96 rfl (by rw [ex1]; rfl) (Nat.le_of_ble_eq_true rfl) rfl ?_
  refine g_goto (t := 2) dX8_firstNotHeld_99 (by decide) ?_
  refine g_sub [1, 2, 0] rfl ?_
  exact hk2 x1 σ h
def fX8_firstNotHeld_2 (p1 : Nat) : Nat → Int32 → gS → Option (Int32 × gS)
  | 0, _, _ => none
  | n + 1, v2, σ => bd (fX3_size p1 3 σ) fun x1 σ2 =>
  if x1 ≤ v2 then
    some ((-1000000), σ2)
  else
    bd (fX3_firstOf p1 3 v2 σ2) fun x5 σ6 =>
    bd (fX3_secondOf p1 3 v2 σ6) fun x8 σ9 =>
    gg (¬ (x5 < 0 ∨ 16 ≤ x5.toNatClampNeg)) (
    if (σ9.1 145 x5.toNatClampNeg) = 1 then
      gg (¬ (x8 < 0 ∨ 16 ≤ x8.toNatClampNeg)) (
      if (σ9.1 145 x8.toNatClampNeg) = 1 then
        bd (fX3_kindOf p1 3 v2 σ9) fun x15 σ16 =>
        bd (fX8_carry p1 x15 x5 x8 σ16) fun _ σ18 =>
        gg (¬ (x8 < 0 ∨ 16 ≤ x8.toNatClampNeg)) (
        if (lg_cmp (σ18.2.1 144 4) (σ18.2.1 146 x8.toNatClampNeg)) = 0 then
          gg (¬ (x8 < 0 ∨ 16 ≤ x8.toNatClampNeg)) (
          if (lg_cmp (σ18.2.1 144 5) (σ18.2.1 147 x8.toNatClampNeg)) = 0 then
            fX8_firstNotHeld_96 p1 (fun v2 σ => fX8_firstNotHeld_2 p1 n v2 σ) v2 σ18
          else
            fX8_firstNotHeld_94 p1 v2 σ18)
        else
          fX8_firstNotHeld_94 p1 v2 σ18)
      else
        fX8_firstNotHeld_96 p1 (fun v2 σ => fX8_firstNotHeld_2 p1 n v2 σ) v2 σ9)
    else
      fX8_firstNotHeld_96 p1 (fun v2 σ => fX8_firstNotHeld_2 p1 n v2 σ) v2 σ9)
set_option maxHeartbeats 4000000 in
set_option maxRecDepth 100000 in
theorem pX8_firstNotHeld_2 {E : gE} {p1 : Nat} {r : Int32} {σ' : gS} (hp1 : gLk p1) : ∀ (n : Nat) (v2 : Int32) (σ : gS), fX8_firstNotHeld_2 p1 n v2 σ = some (r, σ') → gG E mX8_firstNotHeld 2 [(0, .ref 144), (1, .ref p1), (2, .int v2)] [] σ (some (.int r)) σ' := by
  intro n
  induction n with
  | zero => intro v2 σ h; exact absurd (show none = some (r, σ') from h) (by intro q; cases q)
  | succ n ih =>
  intro v2 σ h
  unfold fX8_firstNotHeld_2 at h
  refine g_iload_n dX8_firstNotHeld_2 rfl 2 rfl ?_
  refine g_aload_n dX8_firstNotHeld_3 rfl 1 rfl ?_
  refine g_iconst (v := 3) dX8_firstNotHeld_4 (by decide) ?_
  obtain ⟨x1, σ2, y3, h⟩ := bd_some h
  refine g_callVr (as := [.int 3]) (st := [.int v2]) (zX3_size hp1 y3) dX8_firstNotHeld_5 (gi_lk hp1) rfl okX8_firstNotHeld_41 (Nat.le_of_ble_eq_true rfl) ?_
  refine g_icmp_ge (t := 102) dX8_firstNotHeld_8 (by decide) (fun c4 => ?_) (fun c4 => ?_)
  · replace h := if_t h c4
    refine g_ldc (v := (-1000000)) dX8_firstNotHeld_102 wc_RX8_36 ?_
    obtain ⟨rfl, rfl⟩ := so_inj h
    exact g_iret dX8_firstNotHeld_104 rfl
  · replace h := if_f h c4
    refine g_aload_n dX8_firstNotHeld_11 rfl 1 rfl ?_
    refine g_iconst (v := 3) dX8_firstNotHeld_12 (by decide) ?_
    refine g_iload_n dX8_firstNotHeld_13 rfl 2 rfl ?_
    obtain ⟨x5, σ6, y7, h⟩ := bd_some h
    refine g_callVr (as := [.int 3, .int v2]) (st := []) (zX3_firstOf hp1 y7) dX8_firstNotHeld_14 (gi_lk hp1) rfl okX8_firstNotHeld_53 (Nat.le_of_ble_eq_true rfl) ?_
    refine g_istore_n (lv' := [(3, .int x5), (0, .ref 144), (1, .ref p1), (2, .int v2)]) dX8_firstNotHeld_17 rfl (Nat.le_of_ble_eq_true rfl) rfl ?_
    refine g_aload_n dX8_firstNotHeld_18 rfl 2 rfl ?_
    refine g_iconst (v := 3) dX8_firstNotHeld_19 (by decide) ?_
    refine g_iload_n dX8_firstNotHeld_20 rfl 3 rfl ?_
    obtain ⟨x8, σ9, y10, h⟩ := bd_some h
    refine g_callVr (as := [.int 3, .int v2]) (st := []) (zX3_secondOf hp1 y10) dX8_firstNotHeld_21 (gi_lk hp1) rfl okX8_firstNotHeld_57 (Nat.le_of_ble_eq_true rfl) ?_
    refine g_istore (lv' := [(4, .int x8), (3, .int x5), (0, .ref 144), (1, .ref p1), (2, .int v2)]) dX8_firstNotHeld_24 (Nat.le_of_ble_eq_true rfl) rfl ?_
    refine g_aload_n dX8_firstNotHeld_26 rfl 2 rfl ?_
    refine g_getC (n := 145) dX8_firstNotHeld_27 gi_144 rfl fl_RX8_9 ?_
    refine g_iload_n dX8_firstNotHeld_30 rfl 1 rfl ?_
    obtain ⟨g11, h⟩ := gg_some h
    refine g_iald dX8_firstNotHeld_31 gi_145 g11 ?_
    refine g_iconst (v := 1) dX8_firstNotHeld_32 (by decide) ?_
    refine g_icmp_ne (t := 96) dX8_firstNotHeld_33 (by decide) (fun c12 => ?_) (fun c12 => ?_)
    · replace h := if_f h c12
      refine g_sub [2, 3, 4] rfl ?_
      exact pX8_firstNotHeld_96 hp1 (fun v2 σ h => ih v2 σ h) h
    · replace h := if_t h c12
      refine g_aload_n dX8_firstNotHeld_36 rfl 2 rfl ?_
      refine g_getC (n := 145) dX8_firstNotHeld_37 gi_144 rfl fl_RX8_9 ?_
      refine g_iload dX8_firstNotHeld_40 0 rfl ?_
      obtain ⟨g13, h⟩ := gg_some h
      refine g_iald dX8_firstNotHeld_42 gi_145 g13 ?_
      refine g_iconst (v := 1) dX8_firstNotHeld_43 (by decide) ?_
      refine g_icmp_eq (t := 50) dX8_firstNotHeld_44 (by decide) (fun c14 => ?_) (fun c14 => ?_)
      · replace h := if_t h c14
        refine g_aload_n dX8_firstNotHeld_50 rfl 2 rfl ?_
        refine g_aload_n dX8_firstNotHeld_51 rfl 3 rfl ?_
        refine g_aload_n dX8_firstNotHeld_52 rfl 3 rfl ?_
        refine g_iconst (v := 3) dX8_firstNotHeld_53 (by decide) ?_
        refine g_iload_n dX8_firstNotHeld_54 rfl 4 rfl ?_
        obtain ⟨x15, σ16, y17, h⟩ := bd_some h
        refine g_callVr (as := [.int 3, .int v2]) (st := [.ref p1, .ref 144]) (zX3_kindOf hp1 y17) dX8_firstNotHeld_55 (gi_lk hp1) rfl okX8_firstNotHeld_60 (Nat.le_of_ble_eq_true rfl) ?_
        refine g_iload_n dX8_firstNotHeld_58 rfl 1 rfl ?_
        refine g_iload dX8_firstNotHeld_59 0 rfl ?_
        obtain ⟨_, σ18, y19, h⟩ := bd_some h
        refine g_callVv (as := [.ref p1, .int x15, .int x5, .int x8]) (st := []) (zX8_carry hp1 y19) dX8_firstNotHeld_61 gi_144 rfl okX8_firstNotHeld_63 (Nat.le_of_ble_eq_true rfl) ?_
        refine g_aload_n dX8_firstNotHeld_64 rfl 2 rfl ?_
        refine g_getJ dX8_firstNotHeld_65 gi_144 rfl fl_RX8_67 ?_
        refine g_aload_n dX8_firstNotHeld_68 rfl 2 rfl ?_
        refine g_getC (n := 146) dX8_firstNotHeld_69 gi_144 rfl fl_RX8_15 ?_
        refine g_iload dX8_firstNotHeld_72 0 rfl ?_
        obtain ⟨g20, h⟩ := gg_some h
        refine g_lald dX8_firstNotHeld_74 gi_146 g20 ?_
        refine g_lcmp dX8_firstNotHeld_75 ?_
        refine g_if_ne (t := 94) dX8_firstNotHeld_76 (by decide) (fun c21 => ?_) (fun c21 => ?_)
        · replace h := if_f h c21
          refine g_sub [4] rfl ?_
          exact pX8_firstNotHeld_94 hp1 h
        · replace h := if_t h c21
          refine g_aload_n dX8_firstNotHeld_79 rfl 2 rfl ?_
          refine g_getJ dX8_firstNotHeld_80 gi_144 rfl fl_RX8_71 ?_
          refine g_aload_n dX8_firstNotHeld_83 rfl 2 rfl ?_
          refine g_getC (n := 147) dX8_firstNotHeld_84 gi_144 rfl fl_RX8_19 ?_
          refine g_iload dX8_firstNotHeld_87 0 rfl ?_
          obtain ⟨g22, h⟩ := gg_some h
          refine g_lald dX8_firstNotHeld_89 gi_147 g22 ?_
          refine g_lcmp dX8_firstNotHeld_90 ?_
          refine g_if_eq (t := 96) dX8_firstNotHeld_91 (by decide) (fun c23 => ?_) (fun c23 => ?_)
          · replace h := if_t h c23
            refine g_sub [2, 3, 4] rfl ?_
            exact pX8_firstNotHeld_96 hp1 (fun v2 σ h => ih v2 σ h) h
          · replace h := if_f h c23
            refine g_sub [4] rfl ?_
            exact pX8_firstNotHeld_94 hp1 h
      · replace h := if_f h c14
        refine g_goto (t := 96) dX8_firstNotHeld_47 (by decide) ?_
        refine g_sub [2, 3, 4] rfl ?_
        exact pX8_firstNotHeld_96 hp1 (fun v2 σ h => ih v2 σ h) h
def fX8_firstNotHeld (p1 : Nat) (σ : gS) : Option (Int32 × gS) :=
  fX8_firstNotHeld_2 p1 2000 0 σ
set_option maxHeartbeats 4000000 in
set_option maxRecDepth 100000 in
theorem pX8_firstNotHeld {E : gE} {p1 : Nat} {r : Int32} {σ' : gS} {σ : gS} (hp1 : gLk p1) (h : fX8_firstNotHeld p1 σ = some (r, σ')) : gG E mX8_firstNotHeld 0 [(0, .ref 144), (1, .ref p1)] [] σ (some (.int r)) σ' := by
  unfold fX8_firstNotHeld at h
  refine g_iconst (v := 0) dX8_firstNotHeld_0 (by decide) ?_
  refine g_istore_n (lv' := [(2, .int 0), (0, .ref 144), (1, .ref p1)]) dX8_firstNotHeld_1 rfl (Nat.le_of_ble_eq_true rfl) rfl ?_
  refine g_sub [1, 2, 0] rfl ?_
  exact pX8_firstNotHeld_2 hp1 2000 0 σ h
theorem zX8_firstNotHeld {E : gE} {p1 : Nat} {r : Int32} {σ σ' : gS} (hp1 : gLk p1) (h : fX8_firstNotHeld p1 σ = some (r, σ')) : gC E mX8_firstNotHeld [.ref 144, .ref p1] σ (some (.int r)) σ' :=
  gC_of (by decide +kernel) rfl (Nat.le_of_ble_eq_true rfl) (pX8_firstNotHeld hp1 h)
theorem fl_RX8_22 : gFl RX8 22 8 3 := ⟨RX8, TX8, 6, rfl, by decide, ux_8, Or.inl (gm 461 (by decide +kernel) rfl)⟩
def mX8_firstLock : gM := (yX8_firstLock, cX8_firstLock, RX8, 5, (some .int), 4, 105)
theorem dX8_firstLock_0 : decode mX8_firstLock.2.1 0 = .ok (.ldc 36, 2) := by decide +kernel
theorem dX8_firstLock_2 : decode mX8_firstLock.2.1 2 = .ok (.istore_n 2, 1) := by decide +kernel
theorem dX8_firstLock_3 : decode mX8_firstLock.2.1 3 = .ok (.iconst 0, 1) := by decide +kernel
theorem dX8_firstLock_4 : decode mX8_firstLock.2.1 4 = .ok (.istore_n 3, 1) := by decide +kernel
theorem dX8_firstLock_5 : decode mX8_firstLock.2.1 5 = .ok (.iload_n 3, 1) := by decide +kernel
theorem dX8_firstLock_6 : decode mX8_firstLock.2.1 6 = .ok (.bipush 16, 2) := by decide +kernel
theorem dX8_firstLock_8 : decode mX8_firstLock.2.1 8 = .ok (.if_icmp .ge 16, 3) := by decide +kernel
theorem dX8_firstLock_11 : decode mX8_firstLock.2.1 11 = .ok (.aload_n 0, 1) := by decide +kernel
theorem dX8_firstLock_12 : decode mX8_firstLock.2.1 12 = .ok (.getfield 22, 3) := by decide +kernel
theorem dX8_firstLock_15 : decode mX8_firstLock.2.1 15 = .ok (.iload_n 3, 1) := by decide +kernel
theorem dX8_firstLock_16 : decode mX8_firstLock.2.1 16 = .ok (.iconst 0, 1) := by decide +kernel
theorem dX8_firstLock_17 : decode mX8_firstLock.2.1 17 = .ok (.bastore, 1) := by decide +kernel
theorem dX8_firstLock_18 : decode mX8_firstLock.2.1 18 = .ok (.iinc 3 1, 3) := by decide +kernel
theorem dX8_firstLock_21 : decode mX8_firstLock.2.1 21 = .ok (.goto (-16), 3) := by decide +kernel
theorem dX8_firstLock_24 : decode mX8_firstLock.2.1 24 = .ok (.iconst 0, 1) := by decide +kernel
theorem dX8_firstLock_25 : decode mX8_firstLock.2.1 25 = .ok (.istore_n 3, 1) := by decide +kernel
theorem dX8_firstLock_26 : decode mX8_firstLock.2.1 26 = .ok (.iload_n 3, 1) := by decide +kernel
theorem dX8_firstLock_27 : decode mX8_firstLock.2.1 27 = .ok (.aload_n 1, 1) := by decide +kernel
theorem dX8_firstLock_28 : decode mX8_firstLock.2.1 28 = .ok (.iconst 2, 1) := by decide +kernel
theorem dX8_firstLock_29 : decode mX8_firstLock.2.1 29 = .ok (.invokevirtual 41, 3) := by decide +kernel
theorem dX8_firstLock_32 : decode mX8_firstLock.2.1 32 = .ok (.if_icmp .ge 97, 3) := by decide +kernel
theorem dX8_firstLock_35 : decode mX8_firstLock.2.1 35 = .ok (.aload_n 0, 1) := by decide +kernel
theorem dX8_firstLock_36 : decode mX8_firstLock.2.1 36 = .ok (.getfield 22, 3) := by decide +kernel
theorem dX8_firstLock_39 : decode mX8_firstLock.2.1 39 = .ok (.iload_n 3, 1) := by decide +kernel
theorem dX8_firstLock_40 : decode mX8_firstLock.2.1 40 = .ok (.baload, 1) := by decide +kernel
theorem dX8_firstLock_41 : decode mX8_firstLock.2.1 41 = .ok (.ifCond .eq 6, 3) := by decide +kernel
theorem dX8_firstLock_44 : decode mX8_firstLock.2.1 44 = .ok (.goto 79, 3) := by decide +kernel
theorem dX8_firstLock_47 : decode mX8_firstLock.2.1 47 = .ok (.aload_n 0, 1) := by decide +kernel
theorem dX8_firstLock_48 : decode mX8_firstLock.2.1 48 = .ok (.aload_n 1, 1) := by decide +kernel
theorem dX8_firstLock_49 : decode mX8_firstLock.2.1 49 = .ok (.iload_n 3, 1) := by decide +kernel
theorem dX8_firstLock_50 : decode mX8_firstLock.2.1 50 = .ok (.invokevirtual 47, 3) := by decide +kernel
theorem dX8_firstLock_53 : decode mX8_firstLock.2.1 53 = .ok (.iconst 0, 1) := by decide +kernel
theorem dX8_firstLock_54 : decode mX8_firstLock.2.1 54 = .ok (.istore 4, 2) := by decide +kernel
theorem dX8_firstLock_56 : decode mX8_firstLock.2.1 56 = .ok (.iload 4, 2) := by decide +kernel
theorem dX8_firstLock_58 : decode mX8_firstLock.2.1 58 = .ok (.bipush 16, 2) := by decide +kernel
theorem dX8_firstLock_60 : decode mX8_firstLock.2.1 60 = .ok (.if_icmp .ge 34, 3) := by decide +kernel
theorem dX8_firstLock_63 : decode mX8_firstLock.2.1 63 = .ok (.aload_n 0, 1) := by decide +kernel
theorem dX8_firstLock_64 : decode mX8_firstLock.2.1 64 = .ok (.getfield 22, 3) := by decide +kernel
theorem dX8_firstLock_67 : decode mX8_firstLock.2.1 67 = .ok (.iload 4, 2) := by decide +kernel
theorem dX8_firstLock_69 : decode mX8_firstLock.2.1 69 = .ok (.dup2, 1) := by decide +kernel
theorem dX8_firstLock_70 : decode mX8_firstLock.2.1 70 = .ok (.baload, 1) := by decide +kernel
theorem dX8_firstLock_71 : decode mX8_firstLock.2.1 71 = .ok (.aload_n 0, 1) := by decide +kernel
theorem dX8_firstLock_72 : decode mX8_firstLock.2.1 72 = .ok (.getfield 9, 3) := by decide +kernel
theorem dX8_firstLock_75 : decode mX8_firstLock.2.1 75 = .ok (.iload 4, 2) := by decide +kernel
theorem dX8_firstLock_77 : decode mX8_firstLock.2.1 77 = .ok (.iaload, 1) := by decide +kernel
theorem dX8_firstLock_78 : decode mX8_firstLock.2.1 78 = .ok (.ifCond .eq 7, 3) := by decide +kernel
theorem dX8_firstLock_81 : decode mX8_firstLock.2.1 81 = .ok (.iconst 1, 1) := by decide +kernel
theorem dX8_firstLock_82 : decode mX8_firstLock.2.1 82 = .ok (.goto 4, 3) := by decide +kernel
theorem dX8_firstLock_85 : decode mX8_firstLock.2.1 85 = .ok (.iconst 0, 1) := by decide +kernel
theorem dX8_firstLock_86 : decode mX8_firstLock.2.1 86 = .ok (.ior, 1) := by decide +kernel
theorem dX8_firstLock_87 : decode mX8_firstLock.2.1 87 = .ok (.bastore, 1) := by decide +kernel
theorem dX8_firstLock_88 : decode mX8_firstLock.2.1 88 = .ok (.iinc 4 1, 3) := by decide +kernel
theorem dX8_firstLock_91 : decode mX8_firstLock.2.1 91 = .ok (.goto (-35), 3) := by decide +kernel
theorem dX8_firstLock_94 : decode mX8_firstLock.2.1 94 = .ok (.aload_n 0, 1) := by decide +kernel
theorem dX8_firstLock_95 : decode mX8_firstLock.2.1 95 = .ok (.aload_n 1, 1) := by decide +kernel
theorem dX8_firstLock_96 : decode mX8_firstLock.2.1 96 = .ok (.invokevirtual 50, 3) := by decide +kernel
theorem dX8_firstLock_99 : decode mX8_firstLock.2.1 99 = .ok (.istore 4, 2) := by decide +kernel
theorem dX8_firstLock_101 : decode mX8_firstLock.2.1 101 = .ok (.iload 4, 2) := by decide +kernel
theorem dX8_firstLock_103 : decode mX8_firstLock.2.1 103 = .ok (.ldc 36, 2) := by decide +kernel
theorem dX8_firstLock_105 : decode mX8_firstLock.2.1 105 = .ok (.if_icmp .eq 18, 3) := by decide +kernel
theorem dX8_firstLock_108 : decode mX8_firstLock.2.1 108 = .ok (.iload_n 2, 1) := by decide +kernel
theorem dX8_firstLock_109 : decode mX8_firstLock.2.1 109 = .ok (.ldc 36, 2) := by decide +kernel
theorem dX8_firstLock_111 : decode mX8_firstLock.2.1 111 = .ok (.if_icmp .eq 9, 3) := by decide +kernel
theorem dX8_firstLock_114 : decode mX8_firstLock.2.1 114 = .ok (.iload 4, 2) := by decide +kernel
theorem dX8_firstLock_116 : decode mX8_firstLock.2.1 116 = .ok (.iload_n 2, 1) := by decide +kernel
theorem dX8_firstLock_117 : decode mX8_firstLock.2.1 117 = .ok (.if_icmp .ge 6, 3) := by decide +kernel
theorem dX8_firstLock_120 : decode mX8_firstLock.2.1 120 = .ok (.iload 4, 2) := by decide +kernel
theorem dX8_firstLock_122 : decode mX8_firstLock.2.1 122 = .ok (.istore_n 2, 1) := by decide +kernel
theorem dX8_firstLock_123 : decode mX8_firstLock.2.1 123 = .ok (.iinc 3 1, 3) := by decide +kernel
theorem dX8_firstLock_126 : decode mX8_firstLock.2.1 126 = .ok (.goto (-100), 3) := by decide +kernel
theorem dX8_firstLock_129 : decode mX8_firstLock.2.1 129 = .ok (.iload_n 2, 1) := by decide +kernel
theorem dX8_firstLock_130 : decode mX8_firstLock.2.1 130 = .ok (.ireturn, 1) := by decide +kernel
theorem okX8_firstLock_50 : gOkV mX8_firstLock mX8_firstNotHeld 50 1 := ⟨List.forall_mem_cons.mpr ⟨(gm 1044 (by decide +kernel) rfl), List.forall_mem_cons.mpr ⟨(gm 1041 (by decide +kernel) rfl), List.forall_mem_cons.mpr ⟨(gm 1043 (by decide +kernel) rfl), List.forall_mem_cons.mpr ⟨(gm 45 (by decide +kernel) rfl), List.forall_mem_cons.mpr ⟨(gm 119 (by decide +kernel) rfl), fun _ h => absurd h List.not_mem_nil⟩⟩⟩⟩⟩, by decide +kernel, by decide +kernel, by decide +kernel⟩
theorem okX8_firstLock_41 : gOkV mX8_firstLock mX3_size 41 1 := ⟨List.forall_mem_cons.mpr ⟨(gm 737 (by decide +kernel) rfl), List.forall_mem_cons.mpr ⟨(gm 1012 (by decide +kernel) rfl), List.forall_mem_cons.mpr ⟨(gm 735 (by decide +kernel) rfl), List.forall_mem_cons.mpr ⟨(gm 736 (by decide +kernel) rfl), List.forall_mem_cons.mpr ⟨(gm 109 (by decide +kernel) rfl), fun _ h => absurd h List.not_mem_nil⟩⟩⟩⟩⟩, by decide +kernel, by decide +kernel, by decide +kernel⟩
theorem okX8_firstLock_47 : gOkV mX8_firstLock mX8_spread 47 2 := ⟨List.forall_mem_cons.mpr ⟨(gm 1006 (by decide +kernel) rfl), List.forall_mem_cons.mpr ⟨(gm 1040 (by decide +kernel) rfl), List.forall_mem_cons.mpr ⟨(gm 1004 (by decide +kernel) rfl), List.forall_mem_cons.mpr ⟨(gm 1005 (by decide +kernel) rfl), List.forall_mem_cons.mpr ⟨(gm 119 (by decide +kernel) rfl), fun _ h => absurd h List.not_mem_nil⟩⟩⟩⟩⟩, by decide +kernel, by decide +kernel, by decide +kernel⟩
def fX8_firstLock_86 (p1 : Nat) (k26 : Int32 → Int32 → gS → Option (Int32 × gS)) (k56 : Int32 → Int32 → Int32 → gS → Option (Int32 × gS)) (v2 : Int32) (v3 : Int32) (v4 : Int32) (s1 : Int32) (s2 : Int32) (s3 : Int32) (σ : gS) : Option (Int32 × gS) :=
  gg (¬ (s1 < 0 ∨ 16 ≤ s1.toNatClampNeg)) (
  bnd (gsI σ 148 s1.toNatClampNeg (vp_nar .boolean (s2 ||| s3))) fun σ2 =>
  bnd (v4 + 1) fun x3 =>
  k56 v2 v3 x3 σ2)
set_option maxHeartbeats 4000000 in
set_option maxRecDepth 100000 in
theorem pX8_firstLock_86 {E : gE} {p1 : Nat} {k26 : Int32 → Int32 → gS → Option (Int32 × gS)} {k56 : Int32 → Int32 → Int32 → gS → Option (Int32 × gS)} {r : Int32} {σ' : gS} {v2 : Int32} {v3 : Int32} {v4 : Int32} {s1 : Int32} {s2 : Int32} {s3 : Int32} {σ : gS} (hp1 : gLk p1) (hk26 : ∀ (v2 : Int32) (v3 : Int32) (σ : gS), k26 v2 v3 σ = some (r, σ') → gG E mX8_firstLock 26 [(0, .ref 144), (1, .ref p1), (2, .int v2), (3, .int v3)] [] σ (some (.int r)) σ') (hk56 : ∀ (v2 : Int32) (v3 : Int32) (v4 : Int32) (σ : gS), k56 v2 v3 v4 σ = some (r, σ') → gG E mX8_firstLock 56 [(0, .ref 144), (1, .ref p1), (2, .int v2), (3, .int v3), (4, .int v4)] [] σ (some (.int r)) σ') (h : fX8_firstLock_86 p1 k26 k56 v2 v3 v4 s1 s2 s3 σ = some (r, σ')) : gG E mX8_firstLock 86 [(0, .ref 144), (1, .ref p1), (2, .int v2), (3, .int v3), (4, .int v4)] [.int s3, .int s2, .int s1, .ref 148] σ (some (.int r)) σ' := by
  unfold fX8_firstLock_86 at h
  refine g_ior dX8_firstLock_86 ?_
  obtain ⟨g1, h⟩ := gg_some h
  obtain ⟨σ2, eσ2, h⟩ := bnd_nm h
  refine g_zast dX8_firstLock_87 gi_148 g1 (g_st eσ2 ?_)
  obtain ⟨x3, ex3, h⟩ := bnd_nm h
  refine g_iinc (j := 4) (v := x3) (lv' := [(4, .int x3), (0, .ref 144), (1, .ref p1), (2, .int v2), (3, .int v3)]) dX8_firstLock_88 rfl (by rw [ex3]; rfl) (Nat.le_of_ble_eq_true rfl) rfl ?_
  refine g_goto (t := 56) dX8_firstLock_91 (by decide) ?_
  refine g_sub [1, 2, 3, 4, 0] rfl ?_
  exact hk56 v2 v3 x3 σ2 h
def fX8_firstLock_123 (p1 : Nat) (k26 : Int32 → Int32 → gS → Option (Int32 × gS)) (v2 : Int32) (v3 : Int32) (σ : gS) : Option (Int32 × gS) :=
  bnd (v3 + 1) fun x1 =>
  k26 v2 x1 σ
set_option maxHeartbeats 4000000 in
set_option maxRecDepth 100000 in
theorem pX8_firstLock_123 {E : gE} {p1 : Nat} {k26 : Int32 → Int32 → gS → Option (Int32 × gS)} {r : Int32} {σ' : gS} {v2 : Int32} {v3 : Int32} {σ : gS} (hp1 : gLk p1) (hk26 : ∀ (v2 : Int32) (v3 : Int32) (σ : gS), k26 v2 v3 σ = some (r, σ') → gG E mX8_firstLock 26 [(0, .ref 144), (1, .ref p1), (2, .int v2), (3, .int v3)] [] σ (some (.int r)) σ') (h : fX8_firstLock_123 p1 k26 v2 v3 σ = some (r, σ')) : gG E mX8_firstLock 123 [(0, .ref 144), (1, .ref p1), (2, .int v2), (3, .int v3)] [] σ (some (.int r)) σ' := by
  unfold fX8_firstLock_123 at h
  obtain ⟨x1, ex1, h⟩ := bnd_nm h
  refine g_iinc (j := 3) (v := x1) (lv' := [(3, .int x1), (0, .ref 144), (1, .ref p1), (2, .int v2)]) dX8_firstLock_123 rfl (by rw [ex1]; rfl) (Nat.le_of_ble_eq_true rfl) rfl ?_
  refine g_goto (t := 26) dX8_firstLock_126 (by decide) ?_
  refine g_sub [1, 2, 3, 0] rfl ?_
  exact hk26 v2 x1 σ h
def fX8_firstLock_120 (p1 : Nat) (k26 : Int32 → Int32 → gS → Option (Int32 × gS)) (v3 : Int32) (v4 : Int32) (σ : gS) : Option (Int32 × gS) :=
  fX8_firstLock_123 p1 k26 v4 v3 σ
set_option maxHeartbeats 4000000 in
set_option maxRecDepth 100000 in
theorem pX8_firstLock_120 {E : gE} {p1 : Nat} {k26 : Int32 → Int32 → gS → Option (Int32 × gS)} {r : Int32} {σ' : gS} {v3 : Int32} {v4 : Int32} {σ : gS} (hp1 : gLk p1) (hk26 : ∀ (v2 : Int32) (v3 : Int32) (σ : gS), k26 v2 v3 σ = some (r, σ') → gG E mX8_firstLock 26 [(0, .ref 144), (1, .ref p1), (2, .int v2), (3, .int v3)] [] σ (some (.int r)) σ') (h : fX8_firstLock_120 p1 k26 v3 v4 σ = some (r, σ')) : gG E mX8_firstLock 120 [(0, .ref 144), (1, .ref p1), (3, .int v3), (4, .int v4)] [] σ (some (.int r)) σ' := by
  unfold fX8_firstLock_120 at h
  refine g_iload dX8_firstLock_120 3 rfl ?_
  refine g_istore_n (lv' := [(2, .int v4), (0, .ref 144), (1, .ref p1), (3, .int v3), (4, .int v4)]) dX8_firstLock_122 rfl (Nat.le_of_ble_eq_true rfl) rfl ?_
  refine g_sub [1, 2, 0, 3] rfl ?_
  exact pX8_firstLock_123 hp1 hk26 h
def fX8_firstLock_56 (p1 : Nat) (k26 : Int32 → Int32 → gS → Option (Int32 × gS)) : Nat → Int32 → Int32 → Int32 → gS → Option (Int32 × gS)
  | 0, _, _, _, _ => none
  | n + 1, v2, v3, v4, σ => if 16 ≤ v4 then
    bd (fX8_firstNotHeld p1 σ) fun x2 σ3 =>
    if x2 = (-1000000) then
      fX8_firstLock_123 p1 k26 v2 v3 σ3
    else
      if v2 = (-1000000) then
        fX8_firstLock_120 p1 k26 v3 x2 σ3
      else
        if v2 ≤ x2 then
          fX8_firstLock_123 p1 k26 v2 v3 σ3
        else
          fX8_firstLock_120 p1 k26 v3 x2 σ3
  else
    gg (¬ (v4 < 0 ∨ 16 ≤ v4.toNatClampNeg)) (
    gg (¬ (v4 < 0 ∨ 16 ≤ v4.toNatClampNeg)) (
    if (σ.1 145 v4.toNatClampNeg) = 0 then
      fX8_firstLock_86 p1 k26 (fun v2 v3 v4 σ => fX8_firstLock_56 p1 k26 n v2 v3 v4 σ) v2 v3 v4 v4 (σ.1 148 v4.toNatClampNeg) 0 σ
    else
      fX8_firstLock_86 p1 k26 (fun v2 v3 v4 σ => fX8_firstLock_56 p1 k26 n v2 v3 v4 σ) v2 v3 v4 v4 (σ.1 148 v4.toNatClampNeg) 1 σ))
set_option maxHeartbeats 4000000 in
set_option maxRecDepth 100000 in
theorem pX8_firstLock_56 {E : gE} {p1 : Nat} {k26 : Int32 → Int32 → gS → Option (Int32 × gS)} {r : Int32} {σ' : gS} (hp1 : gLk p1) (hk26 : ∀ (v2 : Int32) (v3 : Int32) (σ : gS), k26 v2 v3 σ = some (r, σ') → gG E mX8_firstLock 26 [(0, .ref 144), (1, .ref p1), (2, .int v2), (3, .int v3)] [] σ (some (.int r)) σ') : ∀ (n : Nat) (v2 : Int32) (v3 : Int32) (v4 : Int32) (σ : gS), fX8_firstLock_56 p1 k26 n v2 v3 v4 σ = some (r, σ') → gG E mX8_firstLock 56 [(0, .ref 144), (1, .ref p1), (2, .int v2), (3, .int v3), (4, .int v4)] [] σ (some (.int r)) σ' := by
  intro n
  induction n with
  | zero => intro v2 v3 v4 σ h; exact absurd (show none = some (r, σ') from h) (by intro q; cases q)
  | succ n ih =>
  intro v2 v3 v4 σ h
  unfold fX8_firstLock_56 at h
  refine g_iload dX8_firstLock_56 4 rfl ?_
  refine g_bipush (v := 16) dX8_firstLock_58 (by decide) ?_
  refine g_icmp_ge (t := 94) dX8_firstLock_60 (by decide) (fun c1 => ?_) (fun c1 => ?_)
  · replace h := if_t h c1
    refine g_aload_n dX8_firstLock_94 rfl 0 rfl ?_
    refine g_aload_n dX8_firstLock_95 rfl 1 rfl ?_
    obtain ⟨x2, σ3, y4, h⟩ := bd_some h
    refine g_callVr (as := [.ref p1]) (st := []) (zX8_firstNotHeld hp1 y4) dX8_firstLock_96 gi_144 rfl okX8_firstLock_50 (Nat.le_of_ble_eq_true rfl) ?_
    refine g_istore (lv' := [(4, .int x2), (0, .ref 144), (1, .ref p1), (2, .int v2), (3, .int v3)]) dX8_firstLock_99 (Nat.le_of_ble_eq_true rfl) rfl ?_
    refine g_iload dX8_firstLock_101 0 rfl ?_
    refine g_ldc (v := (-1000000)) dX8_firstLock_103 wc_RX8_36 ?_
    refine g_icmp_eq (t := 123) dX8_firstLock_105 (by decide) (fun c5 => ?_) (fun c5 => ?_)
    · replace h := if_t h c5
      refine g_sub [1, 2, 3, 4] rfl ?_
      exact pX8_firstLock_123 hp1 hk26 h
    · replace h := if_f h c5
      refine g_iload_n dX8_firstLock_108 rfl 3 rfl ?_
      refine g_ldc (v := (-1000000)) dX8_firstLock_109 wc_RX8_36 ?_
      refine g_icmp_eq (t := 120) dX8_firstLock_111 (by decide) (fun c6 => ?_) (fun c6 => ?_)
      · replace h := if_t h c6
        refine g_sub [1, 2, 4, 0] rfl ?_
        exact pX8_firstLock_120 hp1 hk26 h
      · replace h := if_f h c6
        refine g_iload dX8_firstLock_114 0 rfl ?_
        refine g_iload_n dX8_firstLock_116 rfl 3 rfl ?_
        refine g_icmp_ge (t := 123) dX8_firstLock_117 (by decide) (fun c7 => ?_) (fun c7 => ?_)
        · replace h := if_t h c7
          refine g_sub [1, 2, 3, 4] rfl ?_
          exact pX8_firstLock_123 hp1 hk26 h
        · replace h := if_f h c7
          refine g_sub [1, 2, 4, 0] rfl ?_
          exact pX8_firstLock_120 hp1 hk26 h
  · replace h := if_f h c1
    refine g_aload_n dX8_firstLock_63 rfl 0 rfl ?_
    refine g_getC (n := 148) dX8_firstLock_64 gi_144 rfl fl_RX8_22 ?_
    refine g_iload dX8_firstLock_67 4 rfl ?_
    refine g_dup2 dX8_firstLock_69 rfl rfl ?_
    obtain ⟨g8, h⟩ := gg_some h
    refine g_zald dX8_firstLock_70 gi_148 g8 ?_
    refine g_aload_n dX8_firstLock_71 rfl 0 rfl ?_
    refine g_getC (n := 145) dX8_firstLock_72 gi_144 rfl fl_RX8_9 ?_
    refine g_iload dX8_firstLock_75 4 rfl ?_
    obtain ⟨g9, h⟩ := gg_some h
    refine g_iald dX8_firstLock_77 gi_145 g9 ?_
    refine g_if_eq (t := 85) dX8_firstLock_78 (by decide) (fun c10 => ?_) (fun c10 => ?_)
    · replace h := if_t h c10
      refine g_iconst (v := 0) dX8_firstLock_85 (by decide) ?_
      exact pX8_firstLock_86 hp1 hk26 (fun v2 v3 v4 σ h => ih v2 v3 v4 σ h) h
    · replace h := if_f h c10
      refine g_iconst (v := 1) dX8_firstLock_81 (by decide) ?_
      refine g_goto (t := 86) dX8_firstLock_82 (by decide) ?_
      exact pX8_firstLock_86 hp1 hk26 (fun v2 v3 v4 σ h => ih v2 v3 v4 σ h) h
def fX8_firstLock_26 (p1 : Nat) : Nat → Int32 → Int32 → gS → Option (Int32 × gS)
  | 0, _, _, _ => none
  | n + 1, v2, v3, σ => bd (fX3_size p1 2 σ) fun x1 σ2 =>
  if x1 ≤ v3 then
    some (v2, σ2)
  else
    gg (¬ (v3 < 0 ∨ 16 ≤ v3.toNatClampNeg)) (
    if (σ2.1 148 v3.toNatClampNeg) = 0 then
      bd (fX8_spread p1 v3 σ2) fun _ σ7 =>
      fX8_firstLock_56 p1 (fun v2 v3 σ => fX8_firstLock_26 p1 n v2 v3 σ) 2000 v2 v3 0 σ7
    else
      fX8_firstLock_123 p1 (fun v2 v3 σ => fX8_firstLock_26 p1 n v2 v3 σ) v2 v3 σ2)
set_option maxHeartbeats 4000000 in
set_option maxRecDepth 100000 in
theorem pX8_firstLock_26 {E : gE} {p1 : Nat} {r : Int32} {σ' : gS} (hp1 : gLk p1) : ∀ (n : Nat) (v2 : Int32) (v3 : Int32) (σ : gS), fX8_firstLock_26 p1 n v2 v3 σ = some (r, σ') → gG E mX8_firstLock 26 [(0, .ref 144), (1, .ref p1), (2, .int v2), (3, .int v3)] [] σ (some (.int r)) σ' := by
  intro n
  induction n with
  | zero => intro v2 v3 σ h; exact absurd (show none = some (r, σ') from h) (by intro q; cases q)
  | succ n ih =>
  intro v2 v3 σ h
  unfold fX8_firstLock_26 at h
  refine g_iload_n dX8_firstLock_26 rfl 3 rfl ?_
  refine g_aload_n dX8_firstLock_27 rfl 1 rfl ?_
  refine g_iconst (v := 2) dX8_firstLock_28 (by decide) ?_
  obtain ⟨x1, σ2, y3, h⟩ := bd_some h
  refine g_callVr (as := [.int 2]) (st := [.int v3]) (zX3_size hp1 y3) dX8_firstLock_29 (gi_lk hp1) rfl okX8_firstLock_41 (Nat.le_of_ble_eq_true rfl) ?_
  refine g_icmp_ge (t := 129) dX8_firstLock_32 (by decide) (fun c4 => ?_) (fun c4 => ?_)
  · replace h := if_t h c4
    refine g_iload_n dX8_firstLock_129 rfl 2 rfl ?_
    obtain ⟨rfl, rfl⟩ := so_inj h
    exact g_iret dX8_firstLock_130 rfl
  · replace h := if_f h c4
    refine g_aload_n dX8_firstLock_35 rfl 0 rfl ?_
    refine g_getC (n := 148) dX8_firstLock_36 gi_144 rfl fl_RX8_22 ?_
    refine g_iload_n dX8_firstLock_39 rfl 3 rfl ?_
    obtain ⟨g5, h⟩ := gg_some h
    refine g_zald dX8_firstLock_40 gi_148 g5 ?_
    refine g_if_eq (t := 47) dX8_firstLock_41 (by decide) (fun c6 => ?_) (fun c6 => ?_)
    · replace h := if_t h c6
      refine g_aload_n dX8_firstLock_47 rfl 0 rfl ?_
      refine g_aload_n dX8_firstLock_48 rfl 1 rfl ?_
      refine g_iload_n dX8_firstLock_49 rfl 3 rfl ?_
      obtain ⟨_, σ7, y8, h⟩ := bd_some h
      refine g_callVv (as := [.ref p1, .int v3]) (st := []) (zX8_spread hp1 y8) dX8_firstLock_50 gi_144 rfl okX8_firstLock_47 (Nat.le_of_ble_eq_true rfl) ?_
      refine g_iconst (v := 0) dX8_firstLock_53 (by decide) ?_
      refine g_istore (lv' := [(4, .int 0), (0, .ref 144), (1, .ref p1), (2, .int v2), (3, .int v3)]) dX8_firstLock_54 (Nat.le_of_ble_eq_true rfl) rfl ?_
      refine g_sub [1, 2, 3, 4, 0] rfl ?_
      exact pX8_firstLock_56 hp1 (fun v2 v3 σ h => ih v2 v3 σ h) 2000 v2 v3 0 σ7 h
    · replace h := if_f h c6
      refine g_goto (t := 123) dX8_firstLock_44 (by decide) ?_
      exact pX8_firstLock_123 hp1 (fun v2 v3 σ h => ih v2 v3 σ h) h
def fX8_firstLock_5 (p1 : Nat) : Nat → Int32 → Int32 → gS → Option (Int32 × gS)
  | 0, _, _, _ => none
  | n + 1, v2, v3, σ => if 16 ≤ v3 then
    fX8_firstLock_26 p1 2000 v2 0 σ
  else
    gg (¬ (v3 < 0 ∨ 16 ≤ v3.toNatClampNeg)) (
    bnd (gsI σ 148 v3.toNatClampNeg (vp_nar .boolean 0)) fun σ3 =>
    bnd (v3 + 1) fun x4 =>
    fX8_firstLock_5 p1 n v2 x4 σ3)
set_option maxHeartbeats 4000000 in
set_option maxRecDepth 100000 in
theorem pX8_firstLock_5 {E : gE} {p1 : Nat} {r : Int32} {σ' : gS} (hp1 : gLk p1) : ∀ (n : Nat) (v2 : Int32) (v3 : Int32) (σ : gS), fX8_firstLock_5 p1 n v2 v3 σ = some (r, σ') → gG E mX8_firstLock 5 [(0, .ref 144), (1, .ref p1), (2, .int v2), (3, .int v3)] [] σ (some (.int r)) σ' := by
  intro n
  induction n with
  | zero => intro v2 v3 σ h; exact absurd (show none = some (r, σ') from h) (by intro q; cases q)
  | succ n ih =>
  intro v2 v3 σ h
  unfold fX8_firstLock_5 at h
  refine g_iload_n dX8_firstLock_5 rfl 3 rfl ?_
  refine g_bipush (v := 16) dX8_firstLock_6 (by decide) ?_
  refine g_icmp_ge (t := 24) dX8_firstLock_8 (by decide) (fun c1 => ?_) (fun c1 => ?_)
  · replace h := if_t h c1
    refine g_iconst (v := 0) dX8_firstLock_24 (by decide) ?_
    refine g_istore_n (lv' := [(3, .int 0), (0, .ref 144), (1, .ref p1), (2, .int v2)]) dX8_firstLock_25 rfl (Nat.le_of_ble_eq_true rfl) rfl ?_
    refine g_sub [1, 2, 3, 0] rfl ?_
    exact pX8_firstLock_26 hp1 2000 v2 0 σ h
  · replace h := if_f h c1
    refine g_aload_n dX8_firstLock_11 rfl 0 rfl ?_
    refine g_getC (n := 148) dX8_firstLock_12 gi_144 rfl fl_RX8_22 ?_
    refine g_iload_n dX8_firstLock_15 rfl 3 rfl ?_
    refine g_iconst (v := 0) dX8_firstLock_16 (by decide) ?_
    obtain ⟨g2, h⟩ := gg_some h
    obtain ⟨σ3, eσ3, h⟩ := bnd_nm h
    refine g_zast dX8_firstLock_17 gi_148 g2 (g_st eσ3 ?_)
    obtain ⟨x4, ex4, h⟩ := bnd_nm h
    refine g_iinc (j := 3) (v := x4) (lv' := [(3, .int x4), (0, .ref 144), (1, .ref p1), (2, .int v2)]) dX8_firstLock_18 rfl (by rw [ex4]; rfl) (Nat.le_of_ble_eq_true rfl) rfl ?_
    refine g_goto (t := 5) dX8_firstLock_21 (by decide) ?_
    refine g_sub [1, 2, 3, 0] rfl ?_
    exact ih v2 x4 σ3 h
def fX8_firstLock (p1 : Nat) (σ : gS) : Option (Int32 × gS) :=
  fX8_firstLock_5 p1 2000 (-1000000) 0 σ
set_option maxHeartbeats 4000000 in
set_option maxRecDepth 100000 in
theorem pX8_firstLock {E : gE} {p1 : Nat} {r : Int32} {σ' : gS} {σ : gS} (hp1 : gLk p1) (h : fX8_firstLock p1 σ = some (r, σ')) : gG E mX8_firstLock 0 [(0, .ref 144), (1, .ref p1)] [] σ (some (.int r)) σ' := by
  unfold fX8_firstLock at h
  refine g_ldc (v := (-1000000)) dX8_firstLock_0 wc_RX8_36 ?_
  refine g_istore_n (lv' := [(2, .int (-1000000)), (0, .ref 144), (1, .ref p1)]) dX8_firstLock_2 rfl (Nat.le_of_ble_eq_true rfl) rfl ?_
  refine g_iconst (v := 0) dX8_firstLock_3 (by decide) ?_
  refine g_istore_n (lv' := [(3, .int 0), (2, .int (-1000000)), (0, .ref 144), (1, .ref p1)]) dX8_firstLock_4 rfl (Nat.le_of_ble_eq_true rfl) rfl ?_
  refine g_sub [2, 3, 1, 0] rfl ?_
  exact pX8_firstLock_5 hp1 2000 (-1000000) 0 σ h
theorem zX8_firstLock {E : gE} {p1 : Nat} {r : Int32} {σ σ' : gS} (hp1 : gLk p1) (h : fX8_firstLock p1 σ = some (r, σ')) : gC E mX8_firstLock [.ref 144, .ref p1] σ (some (.int r)) σ' :=
  gC_of (by decide +kernel) rfl (Nat.le_of_ble_eq_true rfl) (pX8_firstLock hp1 h)

theorem fp_RX11_347 : gFp RX11 347 11 40 .int := ⟨RX11, TX11, 101, rfl, by decide, ux_11, Or.inl (gm 1268 (by decide +kernel) rfl), rfl, by decide +kernel, ⟨tyX11, tyX11_ok⟩, nmX11⟩
theorem fp_RX11_350 : gFp RX11 350 11 41 .int := ⟨RX11, TX11, 101, rfl, by decide, ux_11, Or.inl (gm 1269 (by decide +kernel) rfl), rfl, by decide +kernel, ⟨tyX11, tyX11_ok⟩, nmX11⟩
theorem fl_RX11_347 : gFl RX11 347 11 40 := ⟨RX11, TX11, 101, rfl, by decide, ux_11, Or.inl (gm 1268 (by decide +kernel) rfl)⟩
def mX11_readDrive : gM := (yX11_readDrive, cX11_readDrive, RX11, 3, none, 4, 93)
theorem dX11_readDrive_0 : decode mX11_readDrive.2.1 0 = .ok (.aload_n 0, 1) := by decide +kernel
theorem dX11_readDrive_1 : decode mX11_readDrive.2.1 1 = .ok (.invokevirtual 332, 3) := by decide +kernel
theorem dX11_readDrive_4 : decode mX11_readDrive.2.1 4 = .ok (.istore_n 1, 1) := by decide +kernel
theorem dX11_readDrive_5 : decode mX11_readDrive.2.1 5 = .ok (.aload_n 0, 1) := by decide +kernel
theorem dX11_readDrive_6 : decode mX11_readDrive.2.1 6 = .ok (.invokevirtual 282, 3) := by decide +kernel
theorem dX11_readDrive_9 : decode mX11_readDrive.2.1 9 = .ok (.ifCond .eq 7, 3) := by decide +kernel
theorem dX11_readDrive_12 : decode mX11_readDrive.2.1 12 = .ok (.aload_n 0, 1) := by decide +kernel
theorem dX11_readDrive_13 : decode mX11_readDrive.2.1 13 = .ok (.invokevirtual 292, 3) := by decide +kernel
theorem dX11_readDrive_16 : decode mX11_readDrive.2.1 16 = .ok (.aload_n 0, 1) := by decide +kernel
theorem dX11_readDrive_17 : decode mX11_readDrive.2.1 17 = .ok (.bipush 12, 2) := by decide +kernel
theorem dX11_readDrive_19 : decode mX11_readDrive.2.1 19 = .ok (.invokevirtual 338, 3) := by decide +kernel
theorem dX11_readDrive_22 : decode mX11_readDrive.2.1 22 = .ok (.aload_n 0, 1) := by decide +kernel
theorem dX11_readDrive_23 : decode mX11_readDrive.2.1 23 = .ok (.invokevirtual 282, 3) := by decide +kernel
theorem dX11_readDrive_26 : decode mX11_readDrive.2.1 26 = .ok (.ifCond .eq 10, 3) := by decide +kernel
theorem dX11_readDrive_29 : decode mX11_readDrive.2.1 29 = .ok (.aload_n 0, 1) := by decide +kernel
theorem dX11_readDrive_30 : decode mX11_readDrive.2.1 30 = .ok (.invokevirtual 332, 3) := by decide +kernel
theorem dX11_readDrive_33 : decode mX11_readDrive.2.1 33 = .ok (.goto 4, 3) := by decide +kernel
theorem dX11_readDrive_36 : decode mX11_readDrive.2.1 36 = .ok (.iconst (-1), 1) := by decide +kernel
theorem dX11_readDrive_37 : decode mX11_readDrive.2.1 37 = .ok (.istore_n 2, 1) := by decide +kernel
theorem dX11_readDrive_38 : decode mX11_readDrive.2.1 38 = .ok (.aload_n 0, 1) := by decide +kernel
theorem dX11_readDrive_39 : decode mX11_readDrive.2.1 39 = .ok (.invokevirtual 282, 3) := by decide +kernel
theorem dX11_readDrive_42 : decode mX11_readDrive.2.1 42 = .ok (.ifCond .eq 43, 3) := by decide +kernel
theorem dX11_readDrive_45 : decode mX11_readDrive.2.1 45 = .ok (.aload_n 0, 1) := by decide +kernel
theorem dX11_readDrive_46 : decode mX11_readDrive.2.1 46 = .ok (.getfield 70, 3) := by decide +kernel
theorem dX11_readDrive_49 : decode mX11_readDrive.2.1 49 = .ok (.iload_n 2, 1) := by decide +kernel
theorem dX11_readDrive_50 : decode mX11_readDrive.2.1 50 = .ok (.baload, 1) := by decide +kernel
theorem dX11_readDrive_51 : decode mX11_readDrive.2.1 51 = .ok (.ifCond .eq 28, 3) := by decide +kernel
theorem dX11_readDrive_54 : decode mX11_readDrive.2.1 54 = .ok (.aload_n 0, 1) := by decide +kernel
theorem dX11_readDrive_55 : decode mX11_readDrive.2.1 55 = .ok (.getfield 70, 3) := by decide +kernel
theorem dX11_readDrive_58 : decode mX11_readDrive.2.1 58 = .ok (.iload_n 1, 1) := by decide +kernel
theorem dX11_readDrive_59 : decode mX11_readDrive.2.1 59 = .ok (.baload, 1) := by decide +kernel
theorem dX11_readDrive_60 : decode mX11_readDrive.2.1 60 = .ok (.ifCond .ne 19, 3) := by decide +kernel
theorem dX11_readDrive_63 : decode mX11_readDrive.2.1 63 = .ok (.aload_n 0, 1) := by decide +kernel
theorem dX11_readDrive_64 : decode mX11_readDrive.2.1 64 = .ok (.iload_n 1, 1) := by decide +kernel
theorem dX11_readDrive_65 : decode mX11_readDrive.2.1 65 = .ok (.iload_n 2, 1) := by decide +kernel
theorem dX11_readDrive_66 : decode mX11_readDrive.2.1 66 = .ok (.invokevirtual 328, 3) := by decide +kernel
theorem dX11_readDrive_69 : decode mX11_readDrive.2.1 69 = .ok (.ifCond .eq 10, 3) := by decide +kernel
theorem dX11_readDrive_72 : decode mX11_readDrive.2.1 72 = .ok (.aload_n 0, 1) := by decide +kernel
theorem dX11_readDrive_73 : decode mX11_readDrive.2.1 73 = .ok (.getfield 347, 3) := by decide +kernel
theorem dX11_readDrive_76 : decode mX11_readDrive.2.1 76 = .ok (.ifCond .lt 9, 3) := by decide +kernel
theorem dX11_readDrive_79 : decode mX11_readDrive.2.1 79 = .ok (.aload_n 0, 1) := by decide +kernel
theorem dX11_readDrive_80 : decode mX11_readDrive.2.1 80 = .ok (.bipush 8, 2) := by decide +kernel
theorem dX11_readDrive_82 : decode mX11_readDrive.2.1 82 = .ok (.invokevirtual 285, 3) := by decide +kernel
theorem dX11_readDrive_85 : decode mX11_readDrive.2.1 85 = .ok (.aload_n 0, 1) := by decide +kernel
theorem dX11_readDrive_86 : decode mX11_readDrive.2.1 86 = .ok (.invokevirtual 282, 3) := by decide +kernel
theorem dX11_readDrive_89 : decode mX11_readDrive.2.1 89 = .ok (.ifCond .eq 17, 3) := by decide +kernel
theorem dX11_readDrive_92 : decode mX11_readDrive.2.1 92 = .ok (.aload_n 0, 1) := by decide +kernel
theorem dX11_readDrive_93 : decode mX11_readDrive.2.1 93 = .ok (.iload_n 1, 1) := by decide +kernel
theorem dX11_readDrive_94 : decode mX11_readDrive.2.1 94 = .ok (.putfield 347, 3) := by decide +kernel
theorem dX11_readDrive_97 : decode mX11_readDrive.2.1 97 = .ok (.aload_n 0, 1) := by decide +kernel
theorem dX11_readDrive_98 : decode mX11_readDrive.2.1 98 = .ok (.iload_n 2, 1) := by decide +kernel
theorem dX11_readDrive_99 : decode mX11_readDrive.2.1 99 = .ok (.putfield 350, 3) := by decide +kernel
theorem dX11_readDrive_102 : decode mX11_readDrive.2.1 102 = .ok (.aload_n 0, 1) := by decide +kernel
theorem dX11_readDrive_103 : decode mX11_readDrive.2.1 103 = .ok (.invokevirtual 292, 3) := by decide +kernel
theorem dX11_readDrive_106 : decode mX11_readDrive.2.1 106 = .ok (.aload_n 0, 1) := by decide +kernel
theorem dX11_readDrive_107 : decode mX11_readDrive.2.1 107 = .ok (.invokevirtual 322, 3) := by decide +kernel
theorem dX11_readDrive_110 : decode mX11_readDrive.2.1 110 = .ok (.return_, 1) := by decide +kernel
theorem okX11_readDrive_322 : gOkV mX11_readDrive mX11_stop 322 0 := ⟨List.forall_mem_cons.mpr ⟨(gm 1613 (by decide +kernel) rfl), List.forall_mem_cons.mpr ⟨(gm 1610 (by decide +kernel) rfl), List.forall_mem_cons.mpr ⟨(gm 1612 (by decide +kernel) rfl), List.forall_mem_cons.mpr ⟨(gm 70 (by decide +kernel) rfl), List.forall_mem_cons.mpr ⟨(gm 122 (by decide +kernel) rfl), fun _ h => absurd h List.not_mem_nil⟩⟩⟩⟩⟩, by decide +kernel, by decide +kernel, by decide +kernel⟩
theorem okX11_readDrive_282 : gOkV mX11_readDrive mX11_good 282 0 := ⟨List.forall_mem_cons.mpr ⟨(gm 1577 (by decide +kernel) rfl), List.forall_mem_cons.mpr ⟨(gm 1574 (by decide +kernel) rfl), List.forall_mem_cons.mpr ⟨(gm 1576 (by decide +kernel) rfl), List.forall_mem_cons.mpr ⟨(gm 61 (by decide +kernel) rfl), List.forall_mem_cons.mpr ⟨(gm 122 (by decide +kernel) rfl), fun _ h => absurd h List.not_mem_nil⟩⟩⟩⟩⟩, by decide +kernel, by decide +kernel, by decide +kernel⟩
theorem okX11_readDrive_292 : gOkV mX11_readDrive mX11_next 292 0 := ⟨List.forall_mem_cons.mpr ⟨(gm 1550 (by decide +kernel) rfl), List.forall_mem_cons.mpr ⟨(gm 1547 (by decide +kernel) rfl), List.forall_mem_cons.mpr ⟨(gm 1549 (by decide +kernel) rfl), List.forall_mem_cons.mpr ⟨(gm 57 (by decide +kernel) rfl), List.forall_mem_cons.mpr ⟨(gm 122 (by decide +kernel) rfl), fun _ h => absurd h List.not_mem_nil⟩⟩⟩⟩⟩, by decide +kernel, by decide +kernel, by decide +kernel⟩
theorem okX11_readDrive_285 : gOkV mX11_readDrive mX11_bad 285 1 := ⟨List.forall_mem_cons.mpr ⟨(gm 1585 (by decide +kernel) rfl), List.forall_mem_cons.mpr ⟨(gm 1582 (by decide +kernel) rfl), List.forall_mem_cons.mpr ⟨(gm 1584 (by decide +kernel) rfl), List.forall_mem_cons.mpr ⟨(gm 63 (by decide +kernel) rfl), List.forall_mem_cons.mpr ⟨(gm 122 (by decide +kernel) rfl), fun _ h => absurd h List.not_mem_nil⟩⟩⟩⟩⟩, by decide +kernel, by decide +kernel, by decide +kernel⟩
theorem okX11_readDrive_328 : gOkV mX11_readDrive mX11_hasBar 328 2 := ⟨List.forall_mem_cons.mpr ⟨(gm 1629 (by decide +kernel) rfl), List.forall_mem_cons.mpr ⟨(gm 1626 (by decide +kernel) rfl), List.forall_mem_cons.mpr ⟨(gm 1628 (by decide +kernel) rfl), List.forall_mem_cons.mpr ⟨(gm 74 (by decide +kernel) rfl), List.forall_mem_cons.mpr ⟨(gm 122 (by decide +kernel) rfl), fun _ h => absurd h List.not_mem_nil⟩⟩⟩⟩⟩, by decide +kernel, by decide +kernel, by decide +kernel⟩
theorem okX11_readDrive_338 : gOkV mX11_readDrive mX11_wantWord 338 1 := ⟨List.forall_mem_cons.mpr ⟨(gm 1637 (by decide +kernel) rfl), List.forall_mem_cons.mpr ⟨(gm 1634 (by decide +kernel) rfl), List.forall_mem_cons.mpr ⟨(gm 1636 (by decide +kernel) rfl), List.forall_mem_cons.mpr ⟨(gm 76 (by decide +kernel) rfl), List.forall_mem_cons.mpr ⟨(gm 122 (by decide +kernel) rfl), fun _ h => absurd h List.not_mem_nil⟩⟩⟩⟩⟩, by decide +kernel, by decide +kernel, by decide +kernel⟩
theorem okX11_readDrive_332 : gOkV mX11_readDrive mX11_oldJoint 332 0 := ⟨List.forall_mem_cons.mpr ⟨(gm 1621 (by decide +kernel) rfl), List.forall_mem_cons.mpr ⟨(gm 1618 (by decide +kernel) rfl), List.forall_mem_cons.mpr ⟨(gm 1620 (by decide +kernel) rfl), List.forall_mem_cons.mpr ⟨(gm 72 (by decide +kernel) rfl), List.forall_mem_cons.mpr ⟨(gm 122 (by decide +kernel) rfl), fun _ h => absurd h List.not_mem_nil⟩⟩⟩⟩⟩, by decide +kernel, by decide +kernel, by decide +kernel⟩
def fX11_readDrive_106 (σ : gS) : Option (Unit × gS) :=
  bd (fX11_stop σ) fun _ σ1 =>
  some ((), σ1)
set_option maxHeartbeats 4000000 in
set_option maxRecDepth 100000 in
theorem pX11_readDrive_106 {E : gE} {r : Unit} {σ' : gS} {σ : gS} (h : fX11_readDrive_106 σ = some (r, σ')) : gG E mX11_readDrive 106 [(0, .ref 168)] [] σ (none) σ' := by
  unfold fX11_readDrive_106 at h
  refine g_aload_n dX11_readDrive_106 rfl 0 rfl ?_
  obtain ⟨_, σ1, y2, h⟩ := bd_some h
  refine g_callVv (as := []) (st := []) (zX11_stop y2) dX11_readDrive_107 gi_168 rfl okX11_readDrive_322 (Nat.le_of_ble_eq_true rfl) ?_
  obtain ⟨rfl, rfl⟩ := so_inj h
  exact g_vret dX11_readDrive_110 rfl
def fX11_readDrive_85 (v1 : Int32) (v2 : Int32) (σ : gS) : Option (Unit × gS) :=
  bd (fX11_good σ) fun x1 σ2 =>
  if x1 = 0 then
    fX11_readDrive_106 σ2
  else
    bnd (gsI σ2 168 40 v1) fun σ5 =>
    bnd (gsI σ5 168 41 v2) fun σ6 =>
    bd (fX11_next σ6) fun _ σ7 =>
    fX11_readDrive_106 σ7
set_option maxHeartbeats 4000000 in
set_option maxRecDepth 100000 in
theorem pX11_readDrive_85 {E : gE} {r : Unit} {σ' : gS} {v1 : Int32} {v2 : Int32} {σ : gS} (h : fX11_readDrive_85 v1 v2 σ = some (r, σ')) : gG E mX11_readDrive 85 [(0, .ref 168), (1, .int v1), (2, .int v2)] [] σ (none) σ' := by
  unfold fX11_readDrive_85 at h
  refine g_aload_n dX11_readDrive_85 rfl 0 rfl ?_
  obtain ⟨x1, σ2, y3, h⟩ := bd_some h
  refine g_callVr (as := []) (st := []) (zX11_good y3) dX11_readDrive_86 gi_168 rfl okX11_readDrive_282 (Nat.le_of_ble_eq_true rfl) ?_
  refine g_if_eq (t := 106) dX11_readDrive_89 (by decide) (fun c4 => ?_) (fun c4 => ?_)
  · replace h := if_t h c4
    refine g_sub [0] rfl ?_
    exact pX11_readDrive_106 h
  · replace h := if_f h c4
    refine g_aload_n dX11_readDrive_92 rfl 0 rfl ?_
    refine g_iload_n dX11_readDrive_93 rfl 1 rfl ?_
    obtain ⟨σ5, eσ5, h⟩ := bnd_nm h
    refine g_putI dX11_readDrive_94 gi_168 rfl fp_RX11_347 (g_st eσ5 ?_)
    refine g_aload_n dX11_readDrive_97 rfl 0 rfl ?_
    refine g_iload_n dX11_readDrive_98 rfl 2 rfl ?_
    obtain ⟨σ6, eσ6, h⟩ := bnd_nm h
    refine g_putI dX11_readDrive_99 gi_168 rfl fp_RX11_350 (g_st eσ6 ?_)
    refine g_aload_n dX11_readDrive_102 rfl 0 rfl ?_
    obtain ⟨_, σ7, y8, h⟩ := bd_some h
    refine g_callVv (as := []) (st := []) (zX11_next y8) dX11_readDrive_103 gi_168 rfl okX11_readDrive_292 (Nat.le_of_ble_eq_true rfl) ?_
    refine g_sub [0] rfl ?_
    exact pX11_readDrive_106 h
def fX11_readDrive_79 (v1 : Int32) (v2 : Int32) (σ : gS) : Option (Unit × gS) :=
  bd (fX11_bad 8 σ) fun _ σ1 =>
  fX11_readDrive_85 v1 v2 σ1
set_option maxHeartbeats 4000000 in
set_option maxRecDepth 100000 in
theorem pX11_readDrive_79 {E : gE} {r : Unit} {σ' : gS} {v1 : Int32} {v2 : Int32} {σ : gS} (h : fX11_readDrive_79 v1 v2 σ = some (r, σ')) : gG E mX11_readDrive 79 [(0, .ref 168), (1, .int v1), (2, .int v2)] [] σ (none) σ' := by
  unfold fX11_readDrive_79 at h
  refine g_aload_n dX11_readDrive_79 rfl 0 rfl ?_
  refine g_bipush (v := 8) dX11_readDrive_80 (by decide) ?_
  obtain ⟨_, σ1, y2, h⟩ := bd_some h
  refine g_callVv (as := [.int 8]) (st := []) (zX11_bad y2) dX11_readDrive_82 gi_168 rfl okX11_readDrive_285 (Nat.le_of_ble_eq_true rfl) ?_
  exact pX11_readDrive_85 h
def fX11_readDrive_37 (v1 : Int32) (s0 : Int32) (σ : gS) : Option (Unit × gS) :=
  bd (fX11_good σ) fun x1 σ2 =>
  if x1 = 0 then
    fX11_readDrive_85 v1 s0 σ2
  else
    gg (¬ (s0 < 0 ∨ 24 ≤ s0.toNatClampNeg)) (
    if (σ2.1 186 s0.toNatClampNeg) = 0 then
      fX11_readDrive_79 v1 s0 σ2
    else
      gg (¬ (v1 < 0 ∨ 24 ≤ v1.toNatClampNeg)) (
      if (σ2.1 186 v1.toNatClampNeg) = 0 then
        bd (fX11_hasBar v1 s0 σ2) fun x9 σ10 =>
        if x9 = 0 then
          fX11_readDrive_79 v1 s0 σ10
        else
          if (σ10.1 168 40) < 0 then
            fX11_readDrive_85 v1 s0 σ10
          else
            fX11_readDrive_79 v1 s0 σ10
      else
        fX11_readDrive_79 v1 s0 σ2))
set_option maxHeartbeats 4000000 in
set_option maxRecDepth 100000 in
theorem pX11_readDrive_37 {E : gE} {r : Unit} {σ' : gS} {v1 : Int32} {s0 : Int32} {σ : gS} (h : fX11_readDrive_37 v1 s0 σ = some (r, σ')) : gG E mX11_readDrive 37 [(0, .ref 168), (1, .int v1)] [.int s0] σ (none) σ' := by
  unfold fX11_readDrive_37 at h
  refine g_istore_n (lv' := [(2, .int s0), (0, .ref 168), (1, .int v1)]) dX11_readDrive_37 rfl (Nat.le_of_ble_eq_true rfl) rfl ?_
  refine g_aload_n dX11_readDrive_38 rfl 1 rfl ?_
  obtain ⟨x1, σ2, y3, h⟩ := bd_some h
  refine g_callVr (as := []) (st := []) (zX11_good y3) dX11_readDrive_39 gi_168 rfl okX11_readDrive_282 (Nat.le_of_ble_eq_true rfl) ?_
  refine g_if_eq (t := 85) dX11_readDrive_42 (by decide) (fun c4 => ?_) (fun c4 => ?_)
  · replace h := if_t h c4
    refine g_sub [1, 2, 0] rfl ?_
    exact pX11_readDrive_85 h
  · replace h := if_f h c4
    refine g_aload_n dX11_readDrive_45 rfl 1 rfl ?_
    refine g_getC (n := 186) dX11_readDrive_46 gi_168 rfl fl_RX11_70 ?_
    refine g_iload_n dX11_readDrive_49 rfl 0 rfl ?_
    obtain ⟨g5, h⟩ := gg_some h
    refine g_zald dX11_readDrive_50 gi_186 g5 ?_
    refine g_if_eq (t := 79) dX11_readDrive_51 (by decide) (fun c6 => ?_) (fun c6 => ?_)
    · replace h := if_t h c6
      refine g_sub [1, 2, 0] rfl ?_
      exact pX11_readDrive_79 h
    · replace h := if_f h c6
      refine g_aload_n dX11_readDrive_54 rfl 1 rfl ?_
      refine g_getC (n := 186) dX11_readDrive_55 gi_168 rfl fl_RX11_70 ?_
      refine g_iload_n dX11_readDrive_58 rfl 2 rfl ?_
      obtain ⟨g7, h⟩ := gg_some h
      refine g_zald dX11_readDrive_59 gi_186 g7 ?_
      refine g_if_ne (t := 79) dX11_readDrive_60 (by decide) (fun c8 => ?_) (fun c8 => ?_)
      · replace h := if_f h c8
        refine g_sub [1, 2, 0] rfl ?_
        exact pX11_readDrive_79 h
      · replace h := if_t h c8
        refine g_aload_n dX11_readDrive_63 rfl 1 rfl ?_
        refine g_iload_n dX11_readDrive_64 rfl 2 rfl ?_
        refine g_iload_n dX11_readDrive_65 rfl 0 rfl ?_
        obtain ⟨x9, σ10, y11, h⟩ := bd_some h
        refine g_callVr (as := [.int v1, .int s0]) (st := []) (zX11_hasBar y11) dX11_readDrive_66 gi_168 rfl okX11_readDrive_328 (Nat.le_of_ble_eq_true rfl) ?_
        refine g_if_eq (t := 79) dX11_readDrive_69 (by decide) (fun c12 => ?_) (fun c12 => ?_)
        · replace h := if_t h c12
          refine g_sub [1, 2, 0] rfl ?_
          exact pX11_readDrive_79 h
        · replace h := if_f h c12
          refine g_aload_n dX11_readDrive_72 rfl 1 rfl ?_
          refine g_getI dX11_readDrive_73 gi_168 rfl fl_RX11_347 ?_
          refine g_if_lt (t := 85) dX11_readDrive_76 (by decide) (fun c13 => ?_) (fun c13 => ?_)
          · replace h := if_t h c13
            refine g_sub [1, 2, 0] rfl ?_
            exact pX11_readDrive_85 h
          · replace h := if_f h c13
            refine g_sub [1, 2, 0] rfl ?_
            exact pX11_readDrive_79 h
def fX11_readDrive_16 (v1 : Int32) (σ : gS) : Option (Unit × gS) :=
  bd (fX11_wantWord 12 σ) fun _ σ1 =>
  bd (fX11_good σ1) fun x3 σ4 =>
  if x3 = 0 then
    fX11_readDrive_37 v1 (-1) σ4
  else
    bd (fX11_oldJoint σ4) fun x7 σ8 =>
    fX11_readDrive_37 v1 x7 σ8
set_option maxHeartbeats 4000000 in
set_option maxRecDepth 100000 in
theorem pX11_readDrive_16 {E : gE} {r : Unit} {σ' : gS} {v1 : Int32} {σ : gS} (h : fX11_readDrive_16 v1 σ = some (r, σ')) : gG E mX11_readDrive 16 [(0, .ref 168), (1, .int v1)] [] σ (none) σ' := by
  unfold fX11_readDrive_16 at h
  refine g_aload_n dX11_readDrive_16 rfl 0 rfl ?_
  refine g_bipush (v := 12) dX11_readDrive_17 (by decide) ?_
  obtain ⟨_, σ1, y2, h⟩ := bd_some h
  refine g_callVv (as := [.int 12]) (st := []) (zX11_wantWord y2) dX11_readDrive_19 gi_168 rfl okX11_readDrive_338 (Nat.le_of_ble_eq_true rfl) ?_
  refine g_aload_n dX11_readDrive_22 rfl 0 rfl ?_
  obtain ⟨x3, σ4, y5, h⟩ := bd_some h
  refine g_callVr (as := []) (st := []) (zX11_good y5) dX11_readDrive_23 gi_168 rfl okX11_readDrive_282 (Nat.le_of_ble_eq_true rfl) ?_
  refine g_if_eq (t := 36) dX11_readDrive_26 (by decide) (fun c6 => ?_) (fun c6 => ?_)
  · replace h := if_t h c6
    refine g_iconst (v := (-1)) dX11_readDrive_36 (by decide) ?_
    exact pX11_readDrive_37 h
  · replace h := if_f h c6
    refine g_aload_n dX11_readDrive_29 rfl 0 rfl ?_
    obtain ⟨x7, σ8, y9, h⟩ := bd_some h
    refine g_callVr (as := []) (st := []) (zX11_oldJoint y9) dX11_readDrive_30 gi_168 rfl okX11_readDrive_332 (Nat.le_of_ble_eq_true rfl) ?_
    refine g_goto (t := 37) dX11_readDrive_33 (by decide) ?_
    exact pX11_readDrive_37 h
def fX11_readDrive (σ : gS) : Option (Unit × gS) :=
  bd (fX11_oldJoint σ) fun x1 σ2 =>
  bd (fX11_good σ2) fun x4 σ5 =>
  if x4 = 0 then
    fX11_readDrive_16 x1 σ5
  else
    bd (fX11_next σ5) fun _ σ8 =>
    fX11_readDrive_16 x1 σ8
set_option maxHeartbeats 4000000 in
set_option maxRecDepth 100000 in
theorem pX11_readDrive {E : gE} {r : Unit} {σ' : gS} {σ : gS} (h : fX11_readDrive σ = some (r, σ')) : gG E mX11_readDrive 0 [(0, .ref 168)] [] σ (none) σ' := by
  unfold fX11_readDrive at h
  refine g_aload_n dX11_readDrive_0 rfl 0 rfl ?_
  obtain ⟨x1, σ2, y3, h⟩ := bd_some h
  refine g_callVr (as := []) (st := []) (zX11_oldJoint y3) dX11_readDrive_1 gi_168 rfl okX11_readDrive_332 (Nat.le_of_ble_eq_true rfl) ?_
  refine g_istore_n (lv' := [(1, .int x1), (0, .ref 168)]) dX11_readDrive_4 rfl (Nat.le_of_ble_eq_true rfl) rfl ?_
  refine g_aload_n dX11_readDrive_5 rfl 1 rfl ?_
  obtain ⟨x4, σ5, y6, h⟩ := bd_some h
  refine g_callVr (as := []) (st := []) (zX11_good y6) dX11_readDrive_6 gi_168 rfl okX11_readDrive_282 (Nat.le_of_ble_eq_true rfl) ?_
  refine g_if_eq (t := 16) dX11_readDrive_9 (by decide) (fun c7 => ?_) (fun c7 => ?_)
  · replace h := if_t h c7
    refine g_sub [1, 0] rfl ?_
    exact pX11_readDrive_16 h
  · replace h := if_f h c7
    refine g_aload_n dX11_readDrive_12 rfl 1 rfl ?_
    obtain ⟨_, σ8, y9, h⟩ := bd_some h
    refine g_callVv (as := []) (st := []) (zX11_next y9) dX11_readDrive_13 gi_168 rfl okX11_readDrive_292 (Nat.le_of_ble_eq_true rfl) ?_
    refine g_sub [1, 0] rfl ?_
    exact pX11_readDrive_16 h
theorem zX11_readDrive {E : gE} {r : Unit} {σ σ' : gS} (h : fX11_readDrive σ = some (r, σ')) : gC E mX11_readDrive [.ref 168] σ (none) σ' :=
  gC_of (by decide +kernel) rfl (Nat.le_of_ble_eq_true rfl) (pX11_readDrive h)
theorem fl_RX11_110 : gFl RX11 110 11 54 := ⟨RX11, TX11, 101, rfl, by decide, ux_11, Or.inl (gm 1282 (by decide +kernel) rfl)⟩
theorem fl_RX11_398 : gFl RX11 398 11 53 := ⟨RX11, TX11, 101, rfl, by decide, ux_11, Or.inl (gm 1281 (by decide +kernel) rfl)⟩
theorem fl_RX11_113 : gFl RX11 113 11 55 := ⟨RX11, TX11, 101, rfl, by decide, ux_11, Or.inl (gm 1283 (by decide +kernel) rfl)⟩
theorem fl_RX11_116 : gFl RX11 116 11 56 := ⟨RX11, TX11, 101, rfl, by decide, ux_11, Or.inl (gm 1284 (by decide +kernel) rfl)⟩
theorem fp_RX11_398 : gFp RX11 398 11 53 .int := ⟨RX11, TX11, 101, rfl, by decide, ux_11, Or.inl (gm 1281 (by decide +kernel) rfl), rfl, by decide +kernel, ⟨tyX11, tyX11_ok⟩, nmX11⟩
def mX11_addItem : gM := (yX11_addItem, cX11_addItem, RX11, 3, none, 0, 0)
theorem dX11_addItem_0 : decode mX11_addItem.2.1 0 = .ok (.aload_n 0, 1) := by decide +kernel
theorem dX11_addItem_1 : decode mX11_addItem.2.1 1 = .ok (.getfield 110, 3) := by decide +kernel
theorem dX11_addItem_4 : decode mX11_addItem.2.1 4 = .ok (.aload_n 0, 1) := by decide +kernel
theorem dX11_addItem_5 : decode mX11_addItem.2.1 5 = .ok (.getfield 398, 3) := by decide +kernel
theorem dX11_addItem_8 : decode mX11_addItem.2.1 8 = .ok (.iload_n 1, 1) := by decide +kernel
theorem dX11_addItem_9 : decode mX11_addItem.2.1 9 = .ok (.iastore, 1) := by decide +kernel
theorem dX11_addItem_10 : decode mX11_addItem.2.1 10 = .ok (.aload_n 0, 1) := by decide +kernel
theorem dX11_addItem_11 : decode mX11_addItem.2.1 11 = .ok (.getfield 113, 3) := by decide +kernel
theorem dX11_addItem_14 : decode mX11_addItem.2.1 14 = .ok (.aload_n 0, 1) := by decide +kernel
theorem dX11_addItem_15 : decode mX11_addItem.2.1 15 = .ok (.getfield 398, 3) := by decide +kernel
theorem dX11_addItem_18 : decode mX11_addItem.2.1 18 = .ok (.iload_n 2, 1) := by decide +kernel
theorem dX11_addItem_19 : decode mX11_addItem.2.1 19 = .ok (.iastore, 1) := by decide +kernel
theorem dX11_addItem_20 : decode mX11_addItem.2.1 20 = .ok (.aload_n 0, 1) := by decide +kernel
theorem dX11_addItem_21 : decode mX11_addItem.2.1 21 = .ok (.getfield 116, 3) := by decide +kernel
theorem dX11_addItem_24 : decode mX11_addItem.2.1 24 = .ok (.aload_n 0, 1) := by decide +kernel
theorem dX11_addItem_25 : decode mX11_addItem.2.1 25 = .ok (.getfield 398, 3) := by decide +kernel
theorem dX11_addItem_28 : decode mX11_addItem.2.1 28 = .ok (.iconst (-1), 1) := by decide +kernel
theorem dX11_addItem_29 : decode mX11_addItem.2.1 29 = .ok (.iastore, 1) := by decide +kernel
theorem dX11_addItem_30 : decode mX11_addItem.2.1 30 = .ok (.aload_n 0, 1) := by decide +kernel
theorem dX11_addItem_31 : decode mX11_addItem.2.1 31 = .ok (.dup, 1) := by decide +kernel
theorem dX11_addItem_32 : decode mX11_addItem.2.1 32 = .ok (.getfield 398, 3) := by decide +kernel
theorem dX11_addItem_35 : decode mX11_addItem.2.1 35 = .ok (.iconst 1, 1) := by decide +kernel
theorem dX11_addItem_36 : decode mX11_addItem.2.1 36 = .ok (.iadd, 1) := by decide +kernel
theorem dX11_addItem_37 : decode mX11_addItem.2.1 37 = .ok (.putfield 398, 3) := by decide +kernel
theorem dX11_addItem_40 : decode mX11_addItem.2.1 40 = .ok (.return_, 1) := by decide +kernel
def fX11_addItem (p1 : Int32) (p2 : Int32) (σ : gS) : Option (Unit × gS) :=
  gg (¬ (σ.1 168 53 < 0 ∨ 106 ≤ (σ.1 168 53).toNatClampNeg)) (
  bnd (gsI σ 198 ((σ.1 168 53).toNatClampNeg) p1) fun σ2 =>
  gg (¬ (σ2.1 168 53 < 0 ∨ 106 ≤ (σ2.1 168 53).toNatClampNeg)) (
  bnd (gsI σ2 199 ((σ2.1 168 53).toNatClampNeg) p2) fun σ4 =>
  gg (¬ (σ4.1 168 53 < 0 ∨ 106 ≤ (σ4.1 168 53).toNatClampNeg)) (
  bnd (gsI σ4 200 ((σ4.1 168 53).toNatClampNeg) (-1)) fun σ6 =>
  bnd (gsI σ6 168 53 ((σ6.1 168 53) + 1)) fun σ7 =>
  some ((), σ7))))
set_option maxHeartbeats 4000000 in
set_option maxRecDepth 100000 in
theorem pX11_addItem {E : gE} {p1 : Int32} {p2 : Int32} {r : Unit} {σ' : gS} {σ : gS} (h : fX11_addItem p1 p2 σ = some (r, σ')) : gG E mX11_addItem 0 [(0, .ref 168), (1, .int p1), (2, .int p2)] [] σ (none) σ' := by
  unfold fX11_addItem at h
  refine g_aload_n dX11_addItem_0 rfl 0 rfl ?_
  refine g_getC (n := 198) dX11_addItem_1 gi_168 rfl fl_RX11_110 ?_
  refine g_aload_n dX11_addItem_4 rfl 0 rfl ?_
  refine g_getI dX11_addItem_5 gi_168 rfl fl_RX11_398 ?_
  refine g_iload_n dX11_addItem_8 rfl 1 rfl ?_
  obtain ⟨g1, h⟩ := gg_some h
  obtain ⟨σ2, eσ2, h⟩ := bnd_nm h
  refine g_iast dX11_addItem_9 gi_198 g1 (g_st eσ2 ?_)
  refine g_aload_n dX11_addItem_10 rfl 0 rfl ?_
  refine g_getC (n := 199) dX11_addItem_11 gi_168 rfl fl_RX11_113 ?_
  refine g_aload_n dX11_addItem_14 rfl 0 rfl ?_
  refine g_getI dX11_addItem_15 gi_168 rfl fl_RX11_398 ?_
  refine g_iload_n dX11_addItem_18 rfl 2 rfl ?_
  obtain ⟨g3, h⟩ := gg_some h
  obtain ⟨σ4, eσ4, h⟩ := bnd_nm h
  refine g_iast dX11_addItem_19 gi_199 g3 (g_st eσ4 ?_)
  refine g_aload_n dX11_addItem_20 rfl 0 rfl ?_
  refine g_getC (n := 200) dX11_addItem_21 gi_168 rfl fl_RX11_116 ?_
  refine g_aload_n dX11_addItem_24 rfl 0 rfl ?_
  refine g_getI dX11_addItem_25 gi_168 rfl fl_RX11_398 ?_
  refine g_iconst (v := (-1)) dX11_addItem_28 (by decide) ?_
  obtain ⟨g5, h⟩ := gg_some h
  obtain ⟨σ6, eσ6, h⟩ := bnd_nm h
  refine g_iast dX11_addItem_29 gi_200 g5 (g_st eσ6 ?_)
  refine g_aload_n dX11_addItem_30 rfl 0 rfl ?_
  refine g_dup dX11_addItem_31 rfl ?_
  refine g_getI dX11_addItem_32 gi_168 rfl fl_RX11_398 ?_
  refine g_iconst (v := 1) dX11_addItem_35 (by decide) ?_
  refine g_iadd dX11_addItem_36 ?_
  obtain ⟨σ7, eσ7, h⟩ := bnd_nm h
  refine g_putI dX11_addItem_37 gi_168 rfl fp_RX11_398 (g_st eσ7 ?_)
  obtain ⟨rfl, rfl⟩ := so_inj h
  exact g_vret dX11_addItem_40 rfl
theorem zX11_addItem {E : gE} {p1 : Int32} {p2 : Int32} {r : Unit} {σ σ' : gS} (h : fX11_addItem p1 p2 σ = some (r, σ')) : gC E mX11_addItem [.ref 168, .int p1, .int p2] σ (none) σ' :=
  gC_of (by decide +kernel) rfl (Nat.le_of_ble_eq_true rfl) (pX11_addItem h)
theorem fl_RX11_125 : gFl RX11 125 11 60 := ⟨RX11, TX11, 101, rfl, by decide, ux_11, Or.inl (gm 1288 (by decide +kernel) rfl)⟩
theorem fl_RX11_128 : gFl RX11 128 11 61 := ⟨RX11, TX11, 101, rfl, by decide, ux_11, Or.inl (gm 1289 (by decide +kernel) rfl)⟩
theorem fl_RX11_131 : gFl RX11 131 11 62 := ⟨RX11, TX11, 101, rfl, by decide, ux_11, Or.inl (gm 1290 (by decide +kernel) rfl)⟩
theorem fl_RX11_119 : gFl RX11 119 11 58 := ⟨RX11, TX11, 101, rfl, by decide, ux_11, Or.inl (gm 1286 (by decide +kernel) rfl)⟩
theorem fl_RX11_374 : gFl RX11 374 11 0 := ⟨RX11, TX11, 101, rfl, by decide, ux_11, Or.inl (gm 1228 (by decide +kernel) rfl)⟩
def mX11_frees : gM := (yX11_frees, cX11_frees, RX11, 8, (some .boolean), 0, 0)
theorem dX11_frees_0 : decode mX11_frees.2.1 0 = .ok (.iconst 0, 1) := by decide +kernel
theorem dX11_frees_1 : decode mX11_frees.2.1 1 = .ok (.istore_n 3, 1) := by decide +kernel
theorem dX11_frees_2 : decode mX11_frees.2.1 2 = .ok (.iload_n 3, 1) := by decide +kernel
theorem dX11_frees_3 : decode mX11_frees.2.1 3 = .ok (.aload_n 0, 1) := by decide +kernel
theorem dX11_frees_4 : decode mX11_frees.2.1 4 = .ok (.getfield 374, 3) := by decide +kernel
theorem dX11_frees_7 : decode mX11_frees.2.1 7 = .ok (.if_icmp .ge 37, 3) := by decide +kernel
theorem dX11_frees_10 : decode mX11_frees.2.1 10 = .ok (.aload_n 0, 1) := by decide +kernel
theorem dX11_frees_11 : decode mX11_frees.2.1 11 = .ok (.getfield 128, 3) := by decide +kernel
theorem dX11_frees_14 : decode mX11_frees.2.1 14 = .ok (.iload_n 3, 1) := by decide +kernel
theorem dX11_frees_15 : decode mX11_frees.2.1 15 = .ok (.iload_n 3, 1) := by decide +kernel
theorem dX11_frees_16 : decode mX11_frees.2.1 16 = .ok (.iload_n 1, 1) := by decide +kernel
theorem dX11_frees_17 : decode mX11_frees.2.1 17 = .ok (.if_icmp .eq 8, 3) := by decide +kernel
theorem dX11_frees_20 : decode mX11_frees.2.1 20 = .ok (.iload_n 3, 1) := by decide +kernel
theorem dX11_frees_21 : decode mX11_frees.2.1 21 = .ok (.iload_n 2, 1) := by decide +kernel
theorem dX11_frees_22 : decode mX11_frees.2.1 22 = .ok (.if_icmp .ne 7, 3) := by decide +kernel
theorem dX11_frees_25 : decode mX11_frees.2.1 25 = .ok (.iconst 1, 1) := by decide +kernel
theorem dX11_frees_26 : decode mX11_frees.2.1 26 = .ok (.goto 4, 3) := by decide +kernel
theorem dX11_frees_29 : decode mX11_frees.2.1 29 = .ok (.iconst 0, 1) := by decide +kernel
theorem dX11_frees_30 : decode mX11_frees.2.1 30 = .ok (.bastore, 1) := by decide +kernel
theorem dX11_frees_31 : decode mX11_frees.2.1 31 = .ok (.aload_n 0, 1) := by decide +kernel
theorem dX11_frees_32 : decode mX11_frees.2.1 32 = .ok (.getfield 125, 3) := by decide +kernel
theorem dX11_frees_35 : decode mX11_frees.2.1 35 = .ok (.iload_n 3, 1) := by decide +kernel
theorem dX11_frees_36 : decode mX11_frees.2.1 36 = .ok (.iconst (-1), 1) := by decide +kernel
theorem dX11_frees_37 : decode mX11_frees.2.1 37 = .ok (.iastore, 1) := by decide +kernel
theorem dX11_frees_38 : decode mX11_frees.2.1 38 = .ok (.iinc 3 1, 3) := by decide +kernel
theorem dX11_frees_41 : decode mX11_frees.2.1 41 = .ok (.goto (-39), 3) := by decide +kernel
theorem dX11_frees_44 : decode mX11_frees.2.1 44 = .ok (.aload_n 0, 1) := by decide +kernel
theorem dX11_frees_45 : decode mX11_frees.2.1 45 = .ok (.getfield 131, 3) := by decide +kernel
theorem dX11_frees_48 : decode mX11_frees.2.1 48 = .ok (.iconst 0, 1) := by decide +kernel
theorem dX11_frees_49 : decode mX11_frees.2.1 49 = .ok (.iload_n 1, 1) := by decide +kernel
theorem dX11_frees_50 : decode mX11_frees.2.1 50 = .ok (.iastore, 1) := by decide +kernel
theorem dX11_frees_51 : decode mX11_frees.2.1 51 = .ok (.iconst 1, 1) := by decide +kernel
theorem dX11_frees_52 : decode mX11_frees.2.1 52 = .ok (.istore_n 3, 1) := by decide +kernel
theorem dX11_frees_53 : decode mX11_frees.2.1 53 = .ok (.iconst (-1), 1) := by decide +kernel
theorem dX11_frees_54 : decode mX11_frees.2.1 54 = .ok (.istore 4, 2) := by decide +kernel
theorem dX11_frees_56 : decode mX11_frees.2.1 56 = .ok (.iconst 0, 1) := by decide +kernel
theorem dX11_frees_57 : decode mX11_frees.2.1 57 = .ok (.istore 5, 2) := by decide +kernel
theorem dX11_frees_59 : decode mX11_frees.2.1 59 = .ok (.iload 5, 2) := by decide +kernel
theorem dX11_frees_61 : decode mX11_frees.2.1 61 = .ok (.iload_n 3, 1) := by decide +kernel
theorem dX11_frees_62 : decode mX11_frees.2.1 62 = .ok (.if_icmp .ge 147, 3) := by decide +kernel
theorem dX11_frees_65 : decode mX11_frees.2.1 65 = .ok (.iload 4, 2) := by decide +kernel
theorem dX11_frees_67 : decode mX11_frees.2.1 67 = .ok (.ifCond .ge 142, 3) := by decide +kernel
theorem dX11_frees_70 : decode mX11_frees.2.1 70 = .ok (.iconst 0, 1) := by decide +kernel
theorem dX11_frees_71 : decode mX11_frees.2.1 71 = .ok (.istore 6, 2) := by decide +kernel
theorem dX11_frees_73 : decode mX11_frees.2.1 73 = .ok (.iload 6, 2) := by decide +kernel
theorem dX11_frees_75 : decode mX11_frees.2.1 75 = .ok (.aload_n 0, 1) := by decide +kernel
theorem dX11_frees_76 : decode mX11_frees.2.1 76 = .ok (.getfield 398, 3) := by decide +kernel
theorem dX11_frees_79 : decode mX11_frees.2.1 79 = .ok (.if_icmp .ge 124, 3) := by decide +kernel
theorem dX11_frees_82 : decode mX11_frees.2.1 82 = .ok (.iload 4, 2) := by decide +kernel
theorem dX11_frees_84 : decode mX11_frees.2.1 84 = .ok (.ifCond .ge 119, 3) := by decide +kernel
theorem dX11_frees_87 : decode mX11_frees.2.1 87 = .ok (.aload_n 0, 1) := by decide +kernel
theorem dX11_frees_88 : decode mX11_frees.2.1 88 = .ok (.getfield 116, 3) := by decide +kernel
theorem dX11_frees_91 : decode mX11_frees.2.1 91 = .ok (.iload 6, 2) := by decide +kernel
theorem dX11_frees_93 : decode mX11_frees.2.1 93 = .ok (.iaload, 1) := by decide +kernel
theorem dX11_frees_94 : decode mX11_frees.2.1 94 = .ok (.aload_n 0, 1) := by decide +kernel
theorem dX11_frees_95 : decode mX11_frees.2.1 95 = .ok (.getfield 131, 3) := by decide +kernel
theorem dX11_frees_98 : decode mX11_frees.2.1 98 = .ok (.iload 5, 2) := by decide +kernel
theorem dX11_frees_100 : decode mX11_frees.2.1 100 = .ok (.iaload, 1) := by decide +kernel
theorem dX11_frees_101 : decode mX11_frees.2.1 101 = .ok (.if_icmp .ne 96, 3) := by decide +kernel
theorem dX11_frees_104 : decode mX11_frees.2.1 104 = .ok (.aload_n 0, 1) := by decide +kernel
theorem dX11_frees_105 : decode mX11_frees.2.1 105 = .ok (.getfield 110, 3) := by decide +kernel
theorem dX11_frees_108 : decode mX11_frees.2.1 108 = .ok (.iload 6, 2) := by decide +kernel
theorem dX11_frees_110 : decode mX11_frees.2.1 110 = .ok (.iaload, 1) := by decide +kernel
theorem dX11_frees_111 : decode mX11_frees.2.1 111 = .ok (.aload_n 0, 1) := by decide +kernel
theorem dX11_frees_112 : decode mX11_frees.2.1 112 = .ok (.getfield 131, 3) := by decide +kernel
theorem dX11_frees_115 : decode mX11_frees.2.1 115 = .ok (.iload 5, 2) := by decide +kernel
theorem dX11_frees_117 : decode mX11_frees.2.1 117 = .ok (.iaload, 1) := by decide +kernel
theorem dX11_frees_118 : decode mX11_frees.2.1 118 = .ok (.if_icmp .ne 13, 3) := by decide +kernel
theorem dX11_frees_121 : decode mX11_frees.2.1 121 = .ok (.aload_n 0, 1) := by decide +kernel
theorem dX11_frees_122 : decode mX11_frees.2.1 122 = .ok (.getfield 113, 3) := by decide +kernel
theorem dX11_frees_125 : decode mX11_frees.2.1 125 = .ok (.iload 6, 2) := by decide +kernel
theorem dX11_frees_127 : decode mX11_frees.2.1 127 = .ok (.iaload, 1) := by decide +kernel
theorem dX11_frees_128 : decode mX11_frees.2.1 128 = .ok (.goto 10, 3) := by decide +kernel
theorem dX11_frees_131 : decode mX11_frees.2.1 131 = .ok (.aload_n 0, 1) := by decide +kernel
theorem dX11_frees_132 : decode mX11_frees.2.1 132 = .ok (.getfield 110, 3) := by decide +kernel
theorem dX11_frees_135 : decode mX11_frees.2.1 135 = .ok (.iload 6, 2) := by decide +kernel
theorem dX11_frees_137 : decode mX11_frees.2.1 137 = .ok (.iaload, 1) := by decide +kernel
theorem dX11_frees_138 : decode mX11_frees.2.1 138 = .ok (.istore 7, 2) := by decide +kernel
theorem dX11_frees_140 : decode mX11_frees.2.1 140 = .ok (.aload_n 0, 1) := by decide +kernel
theorem dX11_frees_141 : decode mX11_frees.2.1 141 = .ok (.getfield 128, 3) := by decide +kernel
theorem dX11_frees_144 : decode mX11_frees.2.1 144 = .ok (.iload 7, 2) := by decide +kernel
theorem dX11_frees_146 : decode mX11_frees.2.1 146 = .ok (.baload, 1) := by decide +kernel
theorem dX11_frees_147 : decode mX11_frees.2.1 147 = .ok (.ifCond .ne 50, 3) := by decide +kernel
theorem dX11_frees_150 : decode mX11_frees.2.1 150 = .ok (.aload_n 0, 1) := by decide +kernel
theorem dX11_frees_151 : decode mX11_frees.2.1 151 = .ok (.getfield 128, 3) := by decide +kernel
theorem dX11_frees_154 : decode mX11_frees.2.1 154 = .ok (.iload 7, 2) := by decide +kernel
theorem dX11_frees_156 : decode mX11_frees.2.1 156 = .ok (.iconst 1, 1) := by decide +kernel
theorem dX11_frees_157 : decode mX11_frees.2.1 157 = .ok (.bastore, 1) := by decide +kernel
theorem dX11_frees_158 : decode mX11_frees.2.1 158 = .ok (.aload_n 0, 1) := by decide +kernel
theorem dX11_frees_159 : decode mX11_frees.2.1 159 = .ok (.getfield 125, 3) := by decide +kernel
theorem dX11_frees_162 : decode mX11_frees.2.1 162 = .ok (.iload 7, 2) := by decide +kernel
theorem dX11_frees_164 : decode mX11_frees.2.1 164 = .ok (.iload 6, 2) := by decide +kernel
theorem dX11_frees_166 : decode mX11_frees.2.1 166 = .ok (.iastore, 1) := by decide +kernel
theorem dX11_frees_167 : decode mX11_frees.2.1 167 = .ok (.aload_n 0, 1) := by decide +kernel
theorem dX11_frees_168 : decode mX11_frees.2.1 168 = .ok (.getfield 131, 3) := by decide +kernel
theorem dX11_frees_171 : decode mX11_frees.2.1 171 = .ok (.iload_n 3, 1) := by decide +kernel
theorem dX11_frees_172 : decode mX11_frees.2.1 172 = .ok (.iload 7, 2) := by decide +kernel
theorem dX11_frees_174 : decode mX11_frees.2.1 174 = .ok (.iastore, 1) := by decide +kernel
theorem dX11_frees_175 : decode mX11_frees.2.1 175 = .ok (.iinc 3 1, 3) := by decide +kernel
theorem dX11_frees_178 : decode mX11_frees.2.1 178 = .ok (.aload_n 0, 1) := by decide +kernel
theorem dX11_frees_179 : decode mX11_frees.2.1 179 = .ok (.getfield 119, 3) := by decide +kernel
theorem dX11_frees_182 : decode mX11_frees.2.1 182 = .ok (.iload 7, 2) := by decide +kernel
theorem dX11_frees_184 : decode mX11_frees.2.1 184 = .ok (.iaload, 1) := by decide +kernel
theorem dX11_frees_185 : decode mX11_frees.2.1 185 = .ok (.iconst 2, 1) := by decide +kernel
theorem dX11_frees_186 : decode mX11_frees.2.1 186 = .ok (.if_icmp .ge 8, 3) := by decide +kernel
theorem dX11_frees_189 : decode mX11_frees.2.1 189 = .ok (.iload 7, 2) := by decide +kernel
theorem dX11_frees_191 : decode mX11_frees.2.1 191 = .ok (.goto 4, 3) := by decide +kernel
theorem dX11_frees_194 : decode mX11_frees.2.1 194 = .ok (.iconst (-1), 1) := by decide +kernel
theorem dX11_frees_195 : decode mX11_frees.2.1 195 = .ok (.istore 4, 2) := by decide +kernel
theorem dX11_frees_197 : decode mX11_frees.2.1 197 = .ok (.iinc 6 1, 3) := by decide +kernel
theorem dX11_frees_200 : decode mX11_frees.2.1 200 = .ok (.goto (-127), 3) := by decide +kernel
theorem dX11_frees_203 : decode mX11_frees.2.1 203 = .ok (.iinc 5 1, 3) := by decide +kernel
theorem dX11_frees_206 : decode mX11_frees.2.1 206 = .ok (.goto (-147), 3) := by decide +kernel
theorem dX11_frees_209 : decode mX11_frees.2.1 209 = .ok (.iload 4, 2) := by decide +kernel
theorem dX11_frees_211 : decode mX11_frees.2.1 211 = .ok (.ifCond .ge 5, 3) := by decide +kernel
theorem dX11_frees_214 : decode mX11_frees.2.1 214 = .ok (.iconst 0, 1) := by decide +kernel
theorem dX11_frees_215 : decode mX11_frees.2.1 215 = .ok (.ireturn, 1) := by decide +kernel
theorem dX11_frees_216 : decode mX11_frees.2.1 216 = .ok (.aload_n 0, 1) := by decide +kernel
theorem dX11_frees_217 : decode mX11_frees.2.1 217 = .ok (.getfield 119, 3) := by decide +kernel
theorem dX11_frees_220 : decode mX11_frees.2.1 220 = .ok (.iload 4, 2) := by decide +kernel
theorem dX11_frees_222 : decode mX11_frees.2.1 222 = .ok (.dup2, 1) := by decide +kernel
theorem dX11_frees_223 : decode mX11_frees.2.1 223 = .ok (.iaload, 1) := by decide +kernel
theorem dX11_frees_224 : decode mX11_frees.2.1 224 = .ok (.iconst 1, 1) := by decide +kernel
theorem dX11_frees_225 : decode mX11_frees.2.1 225 = .ok (.iadd, 1) := by decide +kernel
theorem dX11_frees_226 : decode mX11_frees.2.1 226 = .ok (.iastore, 1) := by decide +kernel
theorem dX11_frees_227 : decode mX11_frees.2.1 227 = .ok (.aload_n 0, 1) := by decide +kernel
theorem dX11_frees_228 : decode mX11_frees.2.1 228 = .ok (.getfield 119, 3) := by decide +kernel
theorem dX11_frees_231 : decode mX11_frees.2.1 231 = .ok (.iload_n 1, 1) := by decide +kernel
theorem dX11_frees_232 : decode mX11_frees.2.1 232 = .ok (.dup2, 1) := by decide +kernel
theorem dX11_frees_233 : decode mX11_frees.2.1 233 = .ok (.iaload, 1) := by decide +kernel
theorem dX11_frees_234 : decode mX11_frees.2.1 234 = .ok (.iconst 1, 1) := by decide +kernel
theorem dX11_frees_235 : decode mX11_frees.2.1 235 = .ok (.isub, 1) := by decide +kernel
theorem dX11_frees_236 : decode mX11_frees.2.1 236 = .ok (.iastore, 1) := by decide +kernel
theorem dX11_frees_237 : decode mX11_frees.2.1 237 = .ok (.iload 4, 2) := by decide +kernel
theorem dX11_frees_239 : decode mX11_frees.2.1 239 = .ok (.istore 5, 2) := by decide +kernel
theorem dX11_frees_241 : decode mX11_frees.2.1 241 = .ok (.iload 5, 2) := by decide +kernel
theorem dX11_frees_243 : decode mX11_frees.2.1 243 = .ok (.iload_n 1, 1) := by decide +kernel
theorem dX11_frees_244 : decode mX11_frees.2.1 244 = .ok (.if_icmp .eq 37, 3) := by decide +kernel
theorem dX11_frees_247 : decode mX11_frees.2.1 247 = .ok (.aload_n 0, 1) := by decide +kernel
theorem dX11_frees_248 : decode mX11_frees.2.1 248 = .ok (.getfield 125, 3) := by decide +kernel
theorem dX11_frees_251 : decode mX11_frees.2.1 251 = .ok (.iload 5, 2) := by decide +kernel
theorem dX11_frees_253 : decode mX11_frees.2.1 253 = .ok (.iaload, 1) := by decide +kernel
theorem dX11_frees_254 : decode mX11_frees.2.1 254 = .ok (.istore 6, 2) := by decide +kernel
theorem dX11_frees_256 : decode mX11_frees.2.1 256 = .ok (.aload_n 0, 1) := by decide +kernel
theorem dX11_frees_257 : decode mX11_frees.2.1 257 = .ok (.getfield 116, 3) := by decide +kernel
theorem dX11_frees_260 : decode mX11_frees.2.1 260 = .ok (.iload 6, 2) := by decide +kernel
theorem dX11_frees_262 : decode mX11_frees.2.1 262 = .ok (.iaload, 1) := by decide +kernel
theorem dX11_frees_263 : decode mX11_frees.2.1 263 = .ok (.istore 7, 2) := by decide +kernel
theorem dX11_frees_265 : decode mX11_frees.2.1 265 = .ok (.aload_n 0, 1) := by decide +kernel
theorem dX11_frees_266 : decode mX11_frees.2.1 266 = .ok (.getfield 116, 3) := by decide +kernel
theorem dX11_frees_269 : decode mX11_frees.2.1 269 = .ok (.iload 6, 2) := by decide +kernel
theorem dX11_frees_271 : decode mX11_frees.2.1 271 = .ok (.iload 5, 2) := by decide +kernel
theorem dX11_frees_273 : decode mX11_frees.2.1 273 = .ok (.iastore, 1) := by decide +kernel
theorem dX11_frees_274 : decode mX11_frees.2.1 274 = .ok (.iload 7, 2) := by decide +kernel
theorem dX11_frees_276 : decode mX11_frees.2.1 276 = .ok (.istore 5, 2) := by decide +kernel
theorem dX11_frees_278 : decode mX11_frees.2.1 278 = .ok (.goto (-37), 3) := by decide +kernel
theorem dX11_frees_281 : decode mX11_frees.2.1 281 = .ok (.iconst 1, 1) := by decide +kernel
theorem dX11_frees_282 : decode mX11_frees.2.1 282 = .ok (.ireturn, 1) := by decide +kernel
def fX11_frees_30 (p1 : Int32) (p2 : Int32) (k2 : Int32 → gS → Option (Int32 × gS)) (v3 : Int32) (s1 : Int32) (s2 : Int32) (σ : gS) : Option (Int32 × gS) :=
  gg (¬ (s1 < 0 ∨ 24 ≤ s1.toNatClampNeg)) (
  bnd (gsI σ 204 s1.toNatClampNeg (vp_nar .boolean s2)) fun σ2 =>
  gg (¬ (v3 < 0 ∨ 24 ≤ v3.toNatClampNeg)) (
  bnd (gsI σ2 203 v3.toNatClampNeg (-1)) fun σ4 =>
  bnd (v3 + 1) fun x5 =>
  k2 x5 σ4))
set_option maxHeartbeats 4000000 in
set_option maxRecDepth 100000 in
theorem pX11_frees_30 {E : gE} {p1 : Int32} {p2 : Int32} {k2 : Int32 → gS → Option (Int32 × gS)} {r : Int32} {σ' : gS} {v3 : Int32} {s1 : Int32} {s2 : Int32} {σ : gS} (hk2 : ∀ (v3 : Int32) (σ : gS), k2 v3 σ = some (r, σ') → gG E mX11_frees 2 [(0, .ref 168), (1, .int p1), (2, .int p2), (3, .int v3)] [] σ (some (.int r)) σ') (h : fX11_frees_30 p1 p2 k2 v3 s1 s2 σ = some (r, σ')) : gG E mX11_frees 30 [(0, .ref 168), (1, .int p1), (2, .int p2), (3, .int v3)] [.int s2, .int s1, .ref 204] σ (some (.int r)) σ' := by
  unfold fX11_frees_30 at h
  obtain ⟨g1, h⟩ := gg_some h
  obtain ⟨σ2, eσ2, h⟩ := bnd_nm h
  refine g_zast dX11_frees_30 gi_204 g1 (g_st eσ2 ?_)
  refine g_aload_n dX11_frees_31 rfl 0 rfl ?_
  refine g_getC (n := 203) dX11_frees_32 gi_168 rfl fl_RX11_125 ?_
  refine g_iload_n dX11_frees_35 rfl 3 rfl ?_
  refine g_iconst (v := (-1)) dX11_frees_36 (by decide) ?_
  obtain ⟨g3, h⟩ := gg_some h
  obtain ⟨σ4, eσ4, h⟩ := bnd_nm h
  refine g_iast dX11_frees_37 gi_203 g3 (g_st eσ4 ?_)
  obtain ⟨x5, ex5, h⟩ := bnd_nm h
  refine g_iinc (j := 3) (v := x5) (lv' := [(3, .int x5), (0, .ref 168), (1, .int p1), (2, .int p2)]) dX11_frees_38 rfl (by rw [ex5]; rfl) (Nat.le_of_ble_eq_true rfl) rfl ?_
  refine g_goto (t := 2) dX11_frees_41 (by decide) ?_
  refine g_sub [1, 2, 3, 0] rfl ?_
  exact hk2 x5 σ4 h
def fX11_frees_25 (p1 : Int32) (p2 : Int32) (k2 : Int32 → gS → Option (Int32 × gS)) (v3 : Int32) (s1 : Int32) (σ : gS) : Option (Int32 × gS) :=
  fX11_frees_30 p1 p2 k2 v3 s1 1 σ
set_option maxHeartbeats 4000000 in
set_option maxRecDepth 100000 in
theorem pX11_frees_25 {E : gE} {p1 : Int32} {p2 : Int32} {k2 : Int32 → gS → Option (Int32 × gS)} {r : Int32} {σ' : gS} {v3 : Int32} {s1 : Int32} {σ : gS} (hk2 : ∀ (v3 : Int32) (σ : gS), k2 v3 σ = some (r, σ') → gG E mX11_frees 2 [(0, .ref 168), (1, .int p1), (2, .int p2), (3, .int v3)] [] σ (some (.int r)) σ') (h : fX11_frees_25 p1 p2 k2 v3 s1 σ = some (r, σ')) : gG E mX11_frees 25 [(0, .ref 168), (1, .int p1), (2, .int p2), (3, .int v3)] [.int s1, .ref 204] σ (some (.int r)) σ' := by
  unfold fX11_frees_25 at h
  refine g_iconst (v := 1) dX11_frees_25 (by decide) ?_
  refine g_goto (t := 30) dX11_frees_26 (by decide) ?_
  exact pX11_frees_30 hk2 h
def fX11_frees_197 (p1 : Int32) (p2 : Int32) (k59 : Int32 → Int32 → Int32 → gS → Option (Int32 × gS)) (k73 : Int32 → Int32 → Int32 → Int32 → gS → Option (Int32 × gS)) (v3 : Int32) (v4 : Int32) (v5 : Int32) (v6 : Int32) (σ : gS) : Option (Int32 × gS) :=
  bnd (v6 + 1) fun x1 =>
  k73 v3 v4 v5 x1 σ
set_option maxHeartbeats 4000000 in
set_option maxRecDepth 100000 in
theorem pX11_frees_197 {E : gE} {p1 : Int32} {p2 : Int32} {k59 : Int32 → Int32 → Int32 → gS → Option (Int32 × gS)} {k73 : Int32 → Int32 → Int32 → Int32 → gS → Option (Int32 × gS)} {r : Int32} {σ' : gS} {v3 : Int32} {v4 : Int32} {v5 : Int32} {v6 : Int32} {σ : gS} (hk59 : ∀ (v3 : Int32) (v4 : Int32) (v5 : Int32) (σ : gS), k59 v3 v4 v5 σ = some (r, σ') → gG E mX11_frees 59 [(0, .ref 168), (1, .int p1), (3, .int v3), (4, .int v4), (5, .int v5)] [] σ (some (.int r)) σ') (hk73 : ∀ (v3 : Int32) (v4 : Int32) (v5 : Int32) (v6 : Int32) (σ : gS), k73 v3 v4 v5 v6 σ = some (r, σ') → gG E mX11_frees 73 [(0, .ref 168), (1, .int p1), (3, .int v3), (4, .int v4), (5, .int v5), (6, .int v6)] [] σ (some (.int r)) σ') (h : fX11_frees_197 p1 p2 k59 k73 v3 v4 v5 v6 σ = some (r, σ')) : gG E mX11_frees 197 [(0, .ref 168), (1, .int p1), (3, .int v3), (4, .int v4), (5, .int v5), (6, .int v6)] [] σ (some (.int r)) σ' := by
  unfold fX11_frees_197 at h
  obtain ⟨x1, ex1, h⟩ := bnd_nm h
  refine g_iinc (j := 5) (v := x1) (lv' := [(6, .int x1), (0, .ref 168), (1, .int p1), (3, .int v3), (4, .int v4), (5, .int v5)]) dX11_frees_197 rfl (by rw [ex1]; rfl) (Nat.le_of_ble_eq_true rfl) rfl ?_
  refine g_goto (t := 73) dX11_frees_200 (by decide) ?_
  refine g_sub [1, 2, 3, 4, 5, 0] rfl ?_
  exact hk73 v3 v4 v5 x1 σ h
def fX11_frees_195 (p1 : Int32) (p2 : Int32) (k59 : Int32 → Int32 → Int32 → gS → Option (Int32 × gS)) (k73 : Int32 → Int32 → Int32 → Int32 → gS → Option (Int32 × gS)) (v3 : Int32) (v5 : Int32) (v6 : Int32) (s0 : Int32) (σ : gS) : Option (Int32 × gS) :=
  fX11_frees_197 p1 p2 k59 k73 v3 s0 v5 v6 σ
set_option maxHeartbeats 4000000 in
set_option maxRecDepth 100000 in
theorem pX11_frees_195 {E : gE} {p1 : Int32} {p2 : Int32} {k59 : Int32 → Int32 → Int32 → gS → Option (Int32 × gS)} {k73 : Int32 → Int32 → Int32 → Int32 → gS → Option (Int32 × gS)} {r : Int32} {σ' : gS} {v3 : Int32} {v5 : Int32} {v6 : Int32} {s0 : Int32} {σ : gS} (hk59 : ∀ (v3 : Int32) (v4 : Int32) (v5 : Int32) (σ : gS), k59 v3 v4 v5 σ = some (r, σ') → gG E mX11_frees 59 [(0, .ref 168), (1, .int p1), (3, .int v3), (4, .int v4), (5, .int v5)] [] σ (some (.int r)) σ') (hk73 : ∀ (v3 : Int32) (v4 : Int32) (v5 : Int32) (v6 : Int32) (σ : gS), k73 v3 v4 v5 v6 σ = some (r, σ') → gG E mX11_frees 73 [(0, .ref 168), (1, .int p1), (3, .int v3), (4, .int v4), (5, .int v5), (6, .int v6)] [] σ (some (.int r)) σ') (h : fX11_frees_195 p1 p2 k59 k73 v3 v5 v6 s0 σ = some (r, σ')) : gG E mX11_frees 195 [(0, .ref 168), (1, .int p1), (3, .int v3), (5, .int v5), (6, .int v6)] [.int s0] σ (some (.int r)) σ' := by
  unfold fX11_frees_195 at h
  refine g_istore (lv' := [(4, .int s0), (0, .ref 168), (1, .int p1), (3, .int v3), (5, .int v5), (6, .int v6)]) dX11_frees_195 (Nat.le_of_ble_eq_true rfl) rfl ?_
  refine g_sub [1, 2, 3, 0, 4, 5] rfl ?_
  exact pX11_frees_197 hk59 hk73 h
def fX11_frees_138 (p1 : Int32) (p2 : Int32) (k59 : Int32 → Int32 → Int32 → gS → Option (Int32 × gS)) (k73 : Int32 → Int32 → Int32 → Int32 → gS → Option (Int32 × gS)) (v3 : Int32) (v4 : Int32) (v5 : Int32) (v6 : Int32) (s0 : Int32) (σ : gS) : Option (Int32 × gS) :=
  gg (¬ (s0 < 0 ∨ 24 ≤ s0.toNatClampNeg)) (
  if (σ.1 204 s0.toNatClampNeg) = 0 then
    gg (¬ (s0 < 0 ∨ 24 ≤ s0.toNatClampNeg)) (
    bnd (gsI σ 204 s0.toNatClampNeg (vp_nar .boolean 1)) fun σ4 =>
    gg (¬ (s0 < 0 ∨ 24 ≤ s0.toNatClampNeg)) (
    bnd (gsI σ4 203 s0.toNatClampNeg v6) fun σ6 =>
    gg (¬ (v3 < 0 ∨ 24 ≤ v3.toNatClampNeg)) (
    bnd (gsI σ6 205 v3.toNatClampNeg s0) fun σ8 =>
    bnd (v3 + 1) fun x9 =>
    gg (¬ (s0 < 0 ∨ 24 ≤ s0.toNatClampNeg)) (
    if 2 ≤ (σ8.1 201 s0.toNatClampNeg) then
      fX11_frees_195 p1 p2 k59 k73 x9 v5 v6 (-1) σ8
    else
      fX11_frees_195 p1 p2 k59 k73 x9 v5 v6 s0 σ8))))
  else
    fX11_frees_197 p1 p2 k59 k73 v3 v4 v5 v6 σ)
set_option maxHeartbeats 4000000 in
set_option maxRecDepth 100000 in
theorem pX11_frees_138 {E : gE} {p1 : Int32} {p2 : Int32} {k59 : Int32 → Int32 → Int32 → gS → Option (Int32 × gS)} {k73 : Int32 → Int32 → Int32 → Int32 → gS → Option (Int32 × gS)} {r : Int32} {σ' : gS} {v3 : Int32} {v4 : Int32} {v5 : Int32} {v6 : Int32} {s0 : Int32} {σ : gS} (hk59 : ∀ (v3 : Int32) (v4 : Int32) (v5 : Int32) (σ : gS), k59 v3 v4 v5 σ = some (r, σ') → gG E mX11_frees 59 [(0, .ref 168), (1, .int p1), (3, .int v3), (4, .int v4), (5, .int v5)] [] σ (some (.int r)) σ') (hk73 : ∀ (v3 : Int32) (v4 : Int32) (v5 : Int32) (v6 : Int32) (σ : gS), k73 v3 v4 v5 v6 σ = some (r, σ') → gG E mX11_frees 73 [(0, .ref 168), (1, .int p1), (3, .int v3), (4, .int v4), (5, .int v5), (6, .int v6)] [] σ (some (.int r)) σ') (h : fX11_frees_138 p1 p2 k59 k73 v3 v4 v5 v6 s0 σ = some (r, σ')) : gG E mX11_frees 138 [(0, .ref 168), (1, .int p1), (3, .int v3), (4, .int v4), (5, .int v5), (6, .int v6)] [.int s0] σ (some (.int r)) σ' := by
  unfold fX11_frees_138 at h
  refine g_istore (lv' := [(7, .int s0), (0, .ref 168), (1, .int p1), (3, .int v3), (4, .int v4), (5, .int v5), (6, .int v6)]) dX11_frees_138 (Nat.le_of_ble_eq_true rfl) rfl ?_
  refine g_aload_n dX11_frees_140 rfl 1 rfl ?_
  refine g_getC (n := 204) dX11_frees_141 gi_168 rfl fl_RX11_128 ?_
  refine g_iload dX11_frees_144 0 rfl ?_
  obtain ⟨g1, h⟩ := gg_some h
  refine g_zald dX11_frees_146 gi_204 g1 ?_
  refine g_if_ne (t := 197) dX11_frees_147 (by decide) (fun c2 => ?_) (fun c2 => ?_)
  · replace h := if_f h c2
    refine g_sub [1, 2, 3, 4, 5, 6] rfl ?_
    exact pX11_frees_197 hk59 hk73 h
  · replace h := if_t h c2
    refine g_aload_n dX11_frees_150 rfl 1 rfl ?_
    refine g_getC (n := 204) dX11_frees_151 gi_168 rfl fl_RX11_128 ?_
    refine g_iload dX11_frees_154 0 rfl ?_
    refine g_iconst (v := 1) dX11_frees_156 (by decide) ?_
    obtain ⟨g3, h⟩ := gg_some h
    obtain ⟨σ4, eσ4, h⟩ := bnd_nm h
    refine g_zast dX11_frees_157 gi_204 g3 (g_st eσ4 ?_)
    refine g_aload_n dX11_frees_158 rfl 1 rfl ?_
    refine g_getC (n := 203) dX11_frees_159 gi_168 rfl fl_RX11_125 ?_
    refine g_iload dX11_frees_162 0 rfl ?_
    refine g_iload dX11_frees_164 6 rfl ?_
    obtain ⟨g5, h⟩ := gg_some h
    obtain ⟨σ6, eσ6, h⟩ := bnd_nm h
    refine g_iast dX11_frees_166 gi_203 g5 (g_st eσ6 ?_)
    refine g_aload_n dX11_frees_167 rfl 1 rfl ?_
    refine g_getC (n := 205) dX11_frees_168 gi_168 rfl fl_RX11_131 ?_
    refine g_iload_n dX11_frees_171 rfl 3 rfl ?_
    refine g_iload dX11_frees_172 0 rfl ?_
    obtain ⟨g7, h⟩ := gg_some h
    obtain ⟨σ8, eσ8, h⟩ := bnd_nm h
    refine g_iast dX11_frees_174 gi_205 g7 (g_st eσ8 ?_)
    obtain ⟨x9, ex9, h⟩ := bnd_nm h
    refine g_iinc (j := 3) (v := x9) (lv' := [(3, .int x9), (7, .int s0), (0, .ref 168), (1, .int p1), (4, .int v4), (5, .int v5), (6, .int v6)]) dX11_frees_175 rfl (by rw [ex9]; rfl) (Nat.le_of_ble_eq_true rfl) rfl ?_
    refine g_aload_n dX11_frees_178 rfl 2 rfl ?_
    refine g_getC (n := 201) dX11_frees_179 gi_168 rfl fl_RX11_119 ?_
    refine g_iload dX11_frees_182 1 rfl ?_
    obtain ⟨g10, h⟩ := gg_some h
    refine g_iald dX11_frees_184 gi_201 g10 ?_
    refine g_iconst (v := 2) dX11_frees_185 (by decide) ?_
    refine g_icmp_ge (t := 194) dX11_frees_186 (by decide) (fun c11 => ?_) (fun c11 => ?_)
    · replace h := if_t h c11
      refine g_iconst (v := (-1)) dX11_frees_194 (by decide) ?_
      refine g_sub [2, 3, 0, 5, 6] rfl ?_
      exact pX11_frees_195 hk59 hk73 h
    · replace h := if_f h c11
      refine g_iload dX11_frees_189 1 rfl ?_
      refine g_goto (t := 195) dX11_frees_191 (by decide) ?_
      refine g_sub [2, 3, 0, 5, 6] rfl ?_
      exact pX11_frees_195 hk59 hk73 h
def fX11_frees_203 (p1 : Int32) (p2 : Int32) (k59 : Int32 → Int32 → Int32 → gS → Option (Int32 × gS)) (v3 : Int32) (v4 : Int32) (v5 : Int32) (σ : gS) : Option (Int32 × gS) :=
  bnd (v5 + 1) fun x1 =>
  k59 v3 v4 x1 σ
set_option maxHeartbeats 4000000 in
set_option maxRecDepth 100000 in
theorem pX11_frees_203 {E : gE} {p1 : Int32} {p2 : Int32} {k59 : Int32 → Int32 → Int32 → gS → Option (Int32 × gS)} {r : Int32} {σ' : gS} {v3 : Int32} {v4 : Int32} {v5 : Int32} {σ : gS} (hk59 : ∀ (v3 : Int32) (v4 : Int32) (v5 : Int32) (σ : gS), k59 v3 v4 v5 σ = some (r, σ') → gG E mX11_frees 59 [(0, .ref 168), (1, .int p1), (3, .int v3), (4, .int v4), (5, .int v5)] [] σ (some (.int r)) σ') (h : fX11_frees_203 p1 p2 k59 v3 v4 v5 σ = some (r, σ')) : gG E mX11_frees 203 [(0, .ref 168), (1, .int p1), (3, .int v3), (4, .int v4), (5, .int v5)] [] σ (some (.int r)) σ' := by
  unfold fX11_frees_203 at h
  obtain ⟨x1, ex1, h⟩ := bnd_nm h
  refine g_iinc (j := 4) (v := x1) (lv' := [(5, .int x1), (0, .ref 168), (1, .int p1), (3, .int v3), (4, .int v4)]) dX11_frees_203 rfl (by rw [ex1]; rfl) (Nat.le_of_ble_eq_true rfl) rfl ?_
  refine g_goto (t := 59) dX11_frees_206 (by decide) ?_
  refine g_sub [1, 2, 3, 4, 0] rfl ?_
  exact hk59 v3 v4 x1 σ h
def fX11_frees_73 (p1 : Int32) (p2 : Int32) (k59 : Int32 → Int32 → Int32 → gS → Option (Int32 × gS)) : Nat → Int32 → Int32 → Int32 → Int32 → gS → Option (Int32 × gS)
  | 0, _, _, _, _, _ => none
  | n + 1, v3, v4, v5, v6, σ => if (σ.1 168 53) ≤ v6 then
    fX11_frees_203 p1 p2 k59 v3 v4 v5 σ
  else
    if 0 ≤ v4 then
      fX11_frees_203 p1 p2 k59 v3 v4 v5 σ
    else
      gg (¬ (v6 < 0 ∨ 106 ≤ v6.toNatClampNeg)) (
      gg (¬ (v5 < 0 ∨ 24 ≤ v5.toNatClampNeg)) (
      if (σ.1 200 v6.toNatClampNeg) = (σ.1 205 v5.toNatClampNeg) then
        gg (¬ (v6 < 0 ∨ 106 ≤ v6.toNatClampNeg)) (
        gg (¬ (v5 < 0 ∨ 24 ≤ v5.toNatClampNeg)) (
        if (σ.1 198 v6.toNatClampNeg) = (σ.1 205 v5.toNatClampNeg) then
          gg (¬ (v6 < 0 ∨ 106 ≤ v6.toNatClampNeg)) (
          fX11_frees_138 p1 p2 k59 (fun v3 v4 v5 v6 σ => fX11_frees_73 p1 p2 k59 n v3 v4 v5 v6 σ) v3 v4 v5 v6 (σ.1 199 v6.toNatClampNeg) σ)
        else
          gg (¬ (v6 < 0 ∨ 106 ≤ v6.toNatClampNeg)) (
          fX11_frees_138 p1 p2 k59 (fun v3 v4 v5 v6 σ => fX11_frees_73 p1 p2 k59 n v3 v4 v5 v6 σ) v3 v4 v5 v6 (σ.1 198 v6.toNatClampNeg) σ)))
      else
        fX11_frees_197 p1 p2 k59 (fun v3 v4 v5 v6 σ => fX11_frees_73 p1 p2 k59 n v3 v4 v5 v6 σ) v3 v4 v5 v6 σ))
set_option maxHeartbeats 4000000 in
set_option maxRecDepth 100000 in
theorem pX11_frees_73 {E : gE} {p1 : Int32} {p2 : Int32} {k59 : Int32 → Int32 → Int32 → gS → Option (Int32 × gS)} {r : Int32} {σ' : gS} (hk59 : ∀ (v3 : Int32) (v4 : Int32) (v5 : Int32) (σ : gS), k59 v3 v4 v5 σ = some (r, σ') → gG E mX11_frees 59 [(0, .ref 168), (1, .int p1), (3, .int v3), (4, .int v4), (5, .int v5)] [] σ (some (.int r)) σ') : ∀ (n : Nat) (v3 : Int32) (v4 : Int32) (v5 : Int32) (v6 : Int32) (σ : gS), fX11_frees_73 p1 p2 k59 n v3 v4 v5 v6 σ = some (r, σ') → gG E mX11_frees 73 [(0, .ref 168), (1, .int p1), (3, .int v3), (4, .int v4), (5, .int v5), (6, .int v6)] [] σ (some (.int r)) σ' := by
  intro n
  induction n with
  | zero => intro v3 v4 v5 v6 σ h; exact absurd (show none = some (r, σ') from h) (by intro q; cases q)
  | succ n ih =>
  intro v3 v4 v5 v6 σ h
  unfold fX11_frees_73 at h
  refine g_iload dX11_frees_73 5 rfl ?_
  refine g_aload_n dX11_frees_75 rfl 0 rfl ?_
  refine g_getI dX11_frees_76 gi_168 rfl fl_RX11_398 ?_
  refine g_icmp_ge (t := 203) dX11_frees_79 (by decide) (fun c1 => ?_) (fun c1 => ?_)
  · replace h := if_t h c1
    refine g_sub [0, 1, 2, 3, 4] rfl ?_
    exact pX11_frees_203 hk59 h
  · replace h := if_f h c1
    refine g_iload dX11_frees_82 3 rfl ?_
    refine g_if_ge (t := 203) dX11_frees_84 (by decide) (fun c2 => ?_) (fun c2 => ?_)
    · replace h := if_t h c2
      refine g_sub [0, 1, 2, 3, 4] rfl ?_
      exact pX11_frees_203 hk59 h
    · replace h := if_f h c2
      refine g_aload_n dX11_frees_87 rfl 0 rfl ?_
      refine g_getC (n := 200) dX11_frees_88 gi_168 rfl fl_RX11_116 ?_
      refine g_iload dX11_frees_91 5 rfl ?_
      obtain ⟨g3, h⟩ := gg_some h
      refine g_iald dX11_frees_93 gi_200 g3 ?_
      refine g_aload_n dX11_frees_94 rfl 0 rfl ?_
      refine g_getC (n := 205) dX11_frees_95 gi_168 rfl fl_RX11_131 ?_
      refine g_iload dX11_frees_98 4 rfl ?_
      obtain ⟨g4, h⟩ := gg_some h
      refine g_iald dX11_frees_100 gi_205 g4 ?_
      refine g_icmp_ne (t := 197) dX11_frees_101 (by decide) (fun c5 => ?_) (fun c5 => ?_)
      · replace h := if_f h c5
        exact pX11_frees_197 hk59 (fun v3 v4 v5 v6 σ h => ih v3 v4 v5 v6 σ h) h
      · replace h := if_t h c5
        refine g_aload_n dX11_frees_104 rfl 0 rfl ?_
        refine g_getC (n := 198) dX11_frees_105 gi_168 rfl fl_RX11_110 ?_
        refine g_iload dX11_frees_108 5 rfl ?_
        obtain ⟨g6, h⟩ := gg_some h
        refine g_iald dX11_frees_110 gi_198 g6 ?_
        refine g_aload_n dX11_frees_111 rfl 0 rfl ?_
        refine g_getC (n := 205) dX11_frees_112 gi_168 rfl fl_RX11_131 ?_
        refine g_iload dX11_frees_115 4 rfl ?_
        obtain ⟨g7, h⟩ := gg_some h
        refine g_iald dX11_frees_117 gi_205 g7 ?_
        refine g_icmp_ne (t := 131) dX11_frees_118 (by decide) (fun c8 => ?_) (fun c8 => ?_)
        · replace h := if_f h c8
          refine g_aload_n dX11_frees_131 rfl 0 rfl ?_
          refine g_getC (n := 198) dX11_frees_132 gi_168 rfl fl_RX11_110 ?_
          refine g_iload dX11_frees_135 5 rfl ?_
          obtain ⟨g9, h⟩ := gg_some h
          refine g_iald dX11_frees_137 gi_198 g9 ?_
          exact pX11_frees_138 hk59 (fun v3 v4 v5 v6 σ h => ih v3 v4 v5 v6 σ h) h
        · replace h := if_t h c8
          refine g_aload_n dX11_frees_121 rfl 0 rfl ?_
          refine g_getC (n := 199) dX11_frees_122 gi_168 rfl fl_RX11_113 ?_
          refine g_iload dX11_frees_125 5 rfl ?_
          obtain ⟨g10, h⟩ := gg_some h
          refine g_iald dX11_frees_127 gi_199 g10 ?_
          refine g_goto (t := 138) dX11_frees_128 (by decide) ?_
          exact pX11_frees_138 hk59 (fun v3 v4 v5 v6 σ h => ih v3 v4 v5 v6 σ h) h
def fX11_frees_241 (p1 : Int32) (p2 : Int32) : Nat → Int32 → gS → Option (Int32 × gS)
  | 0, _, _ => none
  | n + 1, v5, σ => if v5 = p1 then
    some (1, σ)
  else
    gg (¬ (v5 < 0 ∨ 24 ≤ v5.toNatClampNeg)) (
    gg (¬ (σ.1 203 v5.toNatClampNeg < 0 ∨ 106 ≤ (σ.1 203 v5.toNatClampNeg).toNatClampNeg)) (
    gg (¬ (σ.1 203 v5.toNatClampNeg < 0 ∨ 106 ≤ (σ.1 203 v5.toNatClampNeg).toNatClampNeg)) (
    bnd (gsI σ 200 ((σ.1 203 v5.toNatClampNeg).toNatClampNeg) v5) fun σ5 =>
    fX11_frees_241 p1 p2 n (σ.1 200 ((σ.1 203 v5.toNatClampNeg).toNatClampNeg)) σ5)))
set_option maxHeartbeats 4000000 in
set_option maxRecDepth 100000 in
theorem pX11_frees_241 {E : gE} {p1 : Int32} {p2 : Int32} {r : Int32} {σ' : gS} : ∀ (n : Nat) (v5 : Int32) (σ : gS), fX11_frees_241 p1 p2 n v5 σ = some (r, σ') → gG E mX11_frees 241 [(0, .ref 168), (1, .int p1), (5, .int v5)] [] σ (some (.int r)) σ' := by
  intro n
  induction n with
  | zero => intro v5 σ h; exact absurd (show none = some (r, σ') from h) (by intro q; cases q)
  | succ n ih =>
  intro v5 σ h
  unfold fX11_frees_241 at h
  refine g_iload dX11_frees_241 2 rfl ?_
  refine g_iload_n dX11_frees_243 rfl 1 rfl ?_
  refine g_icmp_eq (t := 281) dX11_frees_244 (by decide) (fun c1 => ?_) (fun c1 => ?_)
  · replace h := if_t h c1
    refine g_iconst (v := 1) dX11_frees_281 (by decide) ?_
    obtain ⟨rfl, rfl⟩ := so_inj h
    exact g_zret dX11_frees_282 rfl (Or.inr rfl)
  · replace h := if_f h c1
    refine g_aload_n dX11_frees_247 rfl 0 rfl ?_
    refine g_getC (n := 203) dX11_frees_248 gi_168 rfl fl_RX11_125 ?_
    refine g_iload dX11_frees_251 2 rfl ?_
    obtain ⟨g2, h⟩ := gg_some h
    refine g_iald dX11_frees_253 gi_203 g2 ?_
    refine g_istore (lv' := [(6, .int (σ.1 203 v5.toNatClampNeg)), (0, .ref 168), (1, .int p1), (5, .int v5)]) dX11_frees_254 (Nat.le_of_ble_eq_true rfl) rfl ?_
    refine g_aload_n dX11_frees_256 rfl 1 rfl ?_
    refine g_getC (n := 200) dX11_frees_257 gi_168 rfl fl_RX11_116 ?_
    refine g_iload dX11_frees_260 0 rfl ?_
    obtain ⟨g3, h⟩ := gg_some h
    refine g_iald dX11_frees_262 gi_200 g3 ?_
    refine g_istore (lv' := [(7, .int (σ.1 200 ((σ.1 203 v5.toNatClampNeg).toNatClampNeg))), (6, .int (σ.1 203 v5.toNatClampNeg)), (0, .ref 168), (1, .int p1), (5, .int v5)]) dX11_frees_263 (Nat.le_of_ble_eq_true rfl) rfl ?_
    refine g_aload_n dX11_frees_265 rfl 2 rfl ?_
    refine g_getC (n := 200) dX11_frees_266 gi_168 rfl fl_RX11_116 ?_
    refine g_iload dX11_frees_269 1 rfl ?_
    refine g_iload dX11_frees_271 4 rfl ?_
    obtain ⟨g4, h⟩ := gg_some h
    obtain ⟨σ5, eσ5, h⟩ := bnd_nm h
    refine g_iast dX11_frees_273 gi_200 g4 (g_st eσ5 ?_)
    refine g_iload dX11_frees_274 0 rfl ?_
    refine g_istore (lv' := [(5, .int (σ.1 200 ((σ.1 203 v5.toNatClampNeg).toNatClampNeg))), (7, .int (σ.1 200 ((σ.1 203 v5.toNatClampNeg).toNatClampNeg))), (6, .int (σ.1 203 v5.toNatClampNeg)), (0, .ref 168), (1, .int p1)]) dX11_frees_276 (Nat.le_of_ble_eq_true rfl) rfl ?_
    refine g_goto (t := 241) dX11_frees_278 (by decide) ?_
    refine g_sub [3, 4, 0] rfl ?_
    exact ih (σ.1 200 ((σ.1 203 v5.toNatClampNeg).toNatClampNeg)) σ5 h
def fX11_frees_209 (p1 : Int32) (p2 : Int32) (v4 : Int32) (σ : gS) : Option (Int32 × gS) :=
  if 0 ≤ v4 then
    gg (¬ (v4 < 0 ∨ 24 ≤ v4.toNatClampNeg)) (
    gg (¬ (v4 < 0 ∨ 24 ≤ v4.toNatClampNeg)) (
    bnd (gsI σ 201 v4.toNatClampNeg ((σ.1 201 v4.toNatClampNeg) + 1)) fun σ4 =>
    gg (¬ (p1 < 0 ∨ 24 ≤ p1.toNatClampNeg)) (
    gg (¬ (p1 < 0 ∨ 24 ≤ p1.toNatClampNeg)) (
    bnd (gsI σ4 201 p1.toNatClampNeg ((σ4.1 201 p1.toNatClampNeg) - 1)) fun σ7 =>
    fX11_frees_241 p1 p2 2000 v4 σ7))))
  else
    some (0, σ)
set_option maxHeartbeats 4000000 in
set_option maxRecDepth 100000 in
theorem pX11_frees_209 {E : gE} {p1 : Int32} {p2 : Int32} {r : Int32} {σ' : gS} {v4 : Int32} {σ : gS} (h : fX11_frees_209 p1 p2 v4 σ = some (r, σ')) : gG E mX11_frees 209 [(0, .ref 168), (1, .int p1), (4, .int v4)] [] σ (some (.int r)) σ' := by
  unfold fX11_frees_209 at h
  refine g_iload dX11_frees_209 2 rfl ?_
  refine g_if_ge (t := 216) dX11_frees_211 (by decide) (fun c1 => ?_) (fun c1 => ?_)
  · replace h := if_t h c1
    refine g_aload_n dX11_frees_216 rfl 0 rfl ?_
    refine g_getC (n := 201) dX11_frees_217 gi_168 rfl fl_RX11_119 ?_
    refine g_iload dX11_frees_220 2 rfl ?_
    refine g_dup2 dX11_frees_222 rfl rfl ?_
    obtain ⟨g2, h⟩ := gg_some h
    refine g_iald dX11_frees_223 gi_201 g2 ?_
    refine g_iconst (v := 1) dX11_frees_224 (by decide) ?_
    refine g_iadd dX11_frees_225 ?_
    obtain ⟨g3, h⟩ := gg_some h
    obtain ⟨σ4, eσ4, h⟩ := bnd_nm h
    refine g_iast dX11_frees_226 gi_201 g3 (g_st eσ4 ?_)
    refine g_aload_n dX11_frees_227 rfl 0 rfl ?_
    refine g_getC (n := 201) dX11_frees_228 gi_168 rfl fl_RX11_119 ?_
    refine g_iload_n dX11_frees_231 rfl 1 rfl ?_
    refine g_dup2 dX11_frees_232 rfl rfl ?_
    obtain ⟨g5, h⟩ := gg_some h
    refine g_iald dX11_frees_233 gi_201 g5 ?_
    refine g_iconst (v := 1) dX11_frees_234 (by decide) ?_
    refine g_isub dX11_frees_235 ?_
    obtain ⟨g6, h⟩ := gg_some h
    obtain ⟨σ7, eσ7, h⟩ := bnd_nm h
    refine g_iast dX11_frees_236 gi_201 g6 (g_st eσ7 ?_)
    refine g_iload dX11_frees_237 2 rfl ?_
    refine g_istore (lv' := [(5, .int v4), (0, .ref 168), (1, .int p1), (4, .int v4)]) dX11_frees_239 (Nat.le_of_ble_eq_true rfl) rfl ?_
    refine g_sub [1, 2, 0] rfl ?_
    exact pX11_frees_241 2000 v4 σ7 h
  · replace h := if_f h c1
    refine g_iconst (v := 0) dX11_frees_214 (by decide) ?_
    obtain ⟨rfl, rfl⟩ := so_inj h
    exact g_zret dX11_frees_215 rfl (Or.inl rfl)
def fX11_frees_59 (p1 : Int32) (p2 : Int32) : Nat → Int32 → Int32 → Int32 → gS → Option (Int32 × gS)
  | 0, _, _, _, _ => none
  | n + 1, v3, v4, v5, σ => if v3 ≤ v5 then
    fX11_frees_209 p1 p2 v4 σ
  else
    if 0 ≤ v4 then
      fX11_frees_209 p1 p2 v4 σ
    else
      fX11_frees_73 p1 p2 (fun v3 v4 v5 σ => fX11_frees_59 p1 p2 n v3 v4 v5 σ) 2000 v3 v4 v5 0 σ
set_option maxHeartbeats 4000000 in
set_option maxRecDepth 100000 in
theorem pX11_frees_59 {E : gE} {p1 : Int32} {p2 : Int32} {r : Int32} {σ' : gS} : ∀ (n : Nat) (v3 : Int32) (v4 : Int32) (v5 : Int32) (σ : gS), fX11_frees_59 p1 p2 n v3 v4 v5 σ = some (r, σ') → gG E mX11_frees 59 [(0, .ref 168), (1, .int p1), (3, .int v3), (4, .int v4), (5, .int v5)] [] σ (some (.int r)) σ' := by
  intro n
  induction n with
  | zero => intro v3 v4 v5 σ h; exact absurd (show none = some (r, σ') from h) (by intro q; cases q)
  | succ n ih =>
  intro v3 v4 v5 σ h
  unfold fX11_frees_59 at h
  refine g_iload dX11_frees_59 4 rfl ?_
  refine g_iload_n dX11_frees_61 rfl 2 rfl ?_
  refine g_icmp_ge (t := 209) dX11_frees_62 (by decide) (fun c1 => ?_) (fun c1 => ?_)
  · replace h := if_t h c1
    refine g_sub [0, 1, 3] rfl ?_
    exact pX11_frees_209 h
  · replace h := if_f h c1
    refine g_iload dX11_frees_65 3 rfl ?_
    refine g_if_ge (t := 209) dX11_frees_67 (by decide) (fun c2 => ?_) (fun c2 => ?_)
    · replace h := if_t h c2
      refine g_sub [0, 1, 3] rfl ?_
      exact pX11_frees_209 h
    · replace h := if_f h c2
      refine g_iconst (v := 0) dX11_frees_70 (by decide) ?_
      refine g_istore (lv' := [(6, .int 0), (0, .ref 168), (1, .int p1), (3, .int v3), (4, .int v4), (5, .int v5)]) dX11_frees_71 (Nat.le_of_ble_eq_true rfl) rfl ?_
      refine g_sub [1, 2, 3, 4, 5, 0] rfl ?_
      exact pX11_frees_73 (fun v3 v4 v5 σ h => ih v3 v4 v5 σ h) 2000 v3 v4 v5 0 σ h
def fX11_frees_2 (p1 : Int32) (p2 : Int32) : Nat → Int32 → gS → Option (Int32 × gS)
  | 0, _, _ => none
  | n + 1, v3, σ => if (σ.1 168 0) ≤ v3 then
    bnd (gsI σ 205 ((0 : Int32).toNatClampNeg) p1) fun σ2 =>
    fX11_frees_59 p1 p2 2000 1 (-1) 0 σ2
  else
    if v3 = p1 then
      fX11_frees_25 p1 p2 (fun v3 σ => fX11_frees_2 p1 p2 n v3 σ) v3 v3 σ
    else
      if v3 = p2 then
        fX11_frees_25 p1 p2 (fun v3 σ => fX11_frees_2 p1 p2 n v3 σ) v3 v3 σ
      else
        fX11_frees_30 p1 p2 (fun v3 σ => fX11_frees_2 p1 p2 n v3 σ) v3 v3 0 σ
set_option maxHeartbeats 4000000 in
set_option maxRecDepth 100000 in
theorem pX11_frees_2 {E : gE} {p1 : Int32} {p2 : Int32} {r : Int32} {σ' : gS} : ∀ (n : Nat) (v3 : Int32) (σ : gS), fX11_frees_2 p1 p2 n v3 σ = some (r, σ') → gG E mX11_frees 2 [(0, .ref 168), (1, .int p1), (2, .int p2), (3, .int v3)] [] σ (some (.int r)) σ' := by
  intro n
  induction n with
  | zero => intro v3 σ h; exact absurd (show none = some (r, σ') from h) (by intro q; cases q)
  | succ n ih =>
  intro v3 σ h
  unfold fX11_frees_2 at h
  refine g_iload_n dX11_frees_2 rfl 3 rfl ?_
  refine g_aload_n dX11_frees_3 rfl 0 rfl ?_
  refine g_getI dX11_frees_4 gi_168 rfl fl_RX11_374 ?_
  refine g_icmp_ge (t := 44) dX11_frees_7 (by decide) (fun c1 => ?_) (fun c1 => ?_)
  · replace h := if_t h c1
    refine g_aload_n dX11_frees_44 rfl 0 rfl ?_
    refine g_getC (n := 205) dX11_frees_45 gi_168 rfl fl_RX11_131 ?_
    refine g_iconst (v := 0) dX11_frees_48 (by decide) ?_
    refine g_iload_n dX11_frees_49 rfl 1 rfl ?_
    obtain ⟨σ2, eσ2, h⟩ := bnd_nm h
    refine g_iast dX11_frees_50 gi_205 (by unfold vp_in; decide) (g_st eσ2 ?_)
    refine g_iconst (v := 1) dX11_frees_51 (by decide) ?_
    refine g_istore_n (lv' := [(3, .int 1), (0, .ref 168), (1, .int p1), (2, .int p2)]) dX11_frees_52 rfl (Nat.le_of_ble_eq_true rfl) rfl ?_
    refine g_iconst (v := (-1)) dX11_frees_53 (by decide) ?_
    refine g_istore (lv' := [(4, .int (-1)), (3, .int 1), (0, .ref 168), (1, .int p1), (2, .int p2)]) dX11_frees_54 (Nat.le_of_ble_eq_true rfl) rfl ?_
    refine g_iconst (v := 0) dX11_frees_56 (by decide) ?_
    refine g_istore (lv' := [(5, .int 0), (4, .int (-1)), (3, .int 1), (0, .ref 168), (1, .int p1), (2, .int p2)]) dX11_frees_57 (Nat.le_of_ble_eq_true rfl) rfl ?_
    refine g_sub [3, 4, 2, 1, 0] rfl ?_
    exact pX11_frees_59 2000 1 (-1) 0 σ2 h
  · replace h := if_f h c1
    refine g_aload_n dX11_frees_10 rfl 0 rfl ?_
    refine g_getC (n := 204) dX11_frees_11 gi_168 rfl fl_RX11_128 ?_
    refine g_iload_n dX11_frees_14 rfl 3 rfl ?_
    refine g_iload_n dX11_frees_15 rfl 3 rfl ?_
    refine g_iload_n dX11_frees_16 rfl 1 rfl ?_
    refine g_icmp_eq (t := 25) dX11_frees_17 (by decide) (fun c3 => ?_) (fun c3 => ?_)
    · replace h := if_t h c3
      exact pX11_frees_25 (fun v3 σ h => ih v3 σ h) h
    · replace h := if_f h c3
      refine g_iload_n dX11_frees_20 rfl 3 rfl ?_
      refine g_iload_n dX11_frees_21 rfl 2 rfl ?_
      refine g_icmp_ne (t := 29) dX11_frees_22 (by decide) (fun c4 => ?_) (fun c4 => ?_)
      · replace h := if_f h c4
        refine g_iconst (v := 0) dX11_frees_29 (by decide) ?_
        exact pX11_frees_30 (fun v3 σ h => ih v3 σ h) h
      · replace h := if_t h c4
        exact pX11_frees_25 (fun v3 σ h => ih v3 σ h) h
def fX11_frees (p1 : Int32) (p2 : Int32) (σ : gS) : Option (Int32 × gS) :=
  fX11_frees_2 p1 p2 2000 0 σ
set_option maxHeartbeats 4000000 in
set_option maxRecDepth 100000 in
theorem pX11_frees {E : gE} {p1 : Int32} {p2 : Int32} {r : Int32} {σ' : gS} {σ : gS} (h : fX11_frees p1 p2 σ = some (r, σ')) : gG E mX11_frees 0 [(0, .ref 168), (1, .int p1), (2, .int p2)] [] σ (some (.int r)) σ' := by
  unfold fX11_frees at h
  refine g_iconst (v := 0) dX11_frees_0 (by decide) ?_
  refine g_istore_n (lv' := [(3, .int 0), (0, .ref 168), (1, .int p1), (2, .int p2)]) dX11_frees_1 rfl (Nat.le_of_ble_eq_true rfl) rfl ?_
  refine g_sub [1, 2, 3, 0] rfl ?_
  exact pX11_frees_2 2000 0 σ h
theorem zX11_frees {E : gE} {p1 : Int32} {p2 : Int32} {r : Int32} {σ σ' : gS} (h : fX11_frees p1 p2 σ = some (r, σ')) : gC E mX11_frees [.ref 168, .int p1, .int p2] σ (some (.int r)) σ' :=
  gC_of (by decide +kernel) rfl (Nat.le_of_ble_eq_true rfl) (pX11_frees h)
def mX11_isFree : gM := (yX11_isFree, cX11_isFree, RX11, 4, (some .boolean), 1, 27)
theorem dX11_isFree_0 : decode mX11_isFree.2.1 0 = .ok (.iconst 1, 1) := by decide +kernel
theorem dX11_isFree_1 : decode mX11_isFree.2.1 1 = .ok (.istore_n 3, 1) := by decide +kernel
theorem dX11_isFree_2 : decode mX11_isFree.2.1 2 = .ok (.iload_n 3, 1) := by decide +kernel
theorem dX11_isFree_3 : decode mX11_isFree.2.1 3 = .ok (.ifCond .eq 58, 3) := by decide +kernel
theorem dX11_isFree_6 : decode mX11_isFree.2.1 6 = .ok (.aload_n 0, 1) := by decide +kernel
theorem dX11_isFree_7 : decode mX11_isFree.2.1 7 = .ok (.getfield 119, 3) := by decide +kernel
theorem dX11_isFree_10 : decode mX11_isFree.2.1 10 = .ok (.iload_n 1, 1) := by decide +kernel
theorem dX11_isFree_11 : decode mX11_isFree.2.1 11 = .ok (.iaload, 1) := by decide +kernel
theorem dX11_isFree_12 : decode mX11_isFree.2.1 12 = .ok (.ifCond .le 16, 3) := by decide +kernel
theorem dX11_isFree_15 : decode mX11_isFree.2.1 15 = .ok (.aload_n 0, 1) := by decide +kernel
theorem dX11_isFree_16 : decode mX11_isFree.2.1 16 = .ok (.iload_n 1, 1) := by decide +kernel
theorem dX11_isFree_17 : decode mX11_isFree.2.1 17 = .ok (.iload_n 2, 1) := by decide +kernel
theorem dX11_isFree_18 : decode mX11_isFree.2.1 18 = .ok (.invokevirtual 401, 3) := by decide +kernel
theorem dX11_isFree_21 : decode mX11_isFree.2.1 21 = .ok (.ifCond .eq 7, 3) := by decide +kernel
theorem dX11_isFree_24 : decode mX11_isFree.2.1 24 = .ok (.iconst 1, 1) := by decide +kernel
theorem dX11_isFree_25 : decode mX11_isFree.2.1 25 = .ok (.goto 4, 3) := by decide +kernel
theorem dX11_isFree_28 : decode mX11_isFree.2.1 28 = .ok (.iconst 0, 1) := by decide +kernel
theorem dX11_isFree_29 : decode mX11_isFree.2.1 29 = .ok (.istore_n 3, 1) := by decide +kernel
theorem dX11_isFree_30 : decode mX11_isFree.2.1 30 = .ok (.iload_n 3, 1) := by decide +kernel
theorem dX11_isFree_31 : decode mX11_isFree.2.1 31 = .ok (.ifCond .ne 21, 3) := by decide +kernel
theorem dX11_isFree_34 : decode mX11_isFree.2.1 34 = .ok (.aload_n 0, 1) := by decide +kernel
theorem dX11_isFree_35 : decode mX11_isFree.2.1 35 = .ok (.getfield 119, 3) := by decide +kernel
theorem dX11_isFree_38 : decode mX11_isFree.2.1 38 = .ok (.iload_n 2, 1) := by decide +kernel
theorem dX11_isFree_39 : decode mX11_isFree.2.1 39 = .ok (.iaload, 1) := by decide +kernel
theorem dX11_isFree_40 : decode mX11_isFree.2.1 40 = .ok (.ifCond .le 16, 3) := by decide +kernel
theorem dX11_isFree_43 : decode mX11_isFree.2.1 43 = .ok (.aload_n 0, 1) := by decide +kernel
theorem dX11_isFree_44 : decode mX11_isFree.2.1 44 = .ok (.iload_n 2, 1) := by decide +kernel
theorem dX11_isFree_45 : decode mX11_isFree.2.1 45 = .ok (.iload_n 1, 1) := by decide +kernel
theorem dX11_isFree_46 : decode mX11_isFree.2.1 46 = .ok (.invokevirtual 401, 3) := by decide +kernel
theorem dX11_isFree_49 : decode mX11_isFree.2.1 49 = .ok (.ifCond .eq 7, 3) := by decide +kernel
theorem dX11_isFree_52 : decode mX11_isFree.2.1 52 = .ok (.iconst 1, 1) := by decide +kernel
theorem dX11_isFree_53 : decode mX11_isFree.2.1 53 = .ok (.goto 4, 3) := by decide +kernel
theorem dX11_isFree_56 : decode mX11_isFree.2.1 56 = .ok (.iconst 0, 1) := by decide +kernel
theorem dX11_isFree_57 : decode mX11_isFree.2.1 57 = .ok (.istore_n 3, 1) := by decide +kernel
theorem dX11_isFree_58 : decode mX11_isFree.2.1 58 = .ok (.goto (-56), 3) := by decide +kernel
theorem dX11_isFree_61 : decode mX11_isFree.2.1 61 = .ok (.aload_n 0, 1) := by decide +kernel
theorem dX11_isFree_62 : decode mX11_isFree.2.1 62 = .ok (.getfield 119, 3) := by decide +kernel
theorem dX11_isFree_65 : decode mX11_isFree.2.1 65 = .ok (.iload_n 1, 1) := by decide +kernel
theorem dX11_isFree_66 : decode mX11_isFree.2.1 66 = .ok (.iaload, 1) := by decide +kernel
theorem dX11_isFree_67 : decode mX11_isFree.2.1 67 = .ok (.ifCond .ne 16, 3) := by decide +kernel
theorem dX11_isFree_70 : decode mX11_isFree.2.1 70 = .ok (.aload_n 0, 1) := by decide +kernel
theorem dX11_isFree_71 : decode mX11_isFree.2.1 71 = .ok (.getfield 119, 3) := by decide +kernel
theorem dX11_isFree_74 : decode mX11_isFree.2.1 74 = .ok (.iload_n 2, 1) := by decide +kernel
theorem dX11_isFree_75 : decode mX11_isFree.2.1 75 = .ok (.iaload, 1) := by decide +kernel
theorem dX11_isFree_76 : decode mX11_isFree.2.1 76 = .ok (.ifCond .ne 7, 3) := by decide +kernel
theorem dX11_isFree_79 : decode mX11_isFree.2.1 79 = .ok (.iconst 1, 1) := by decide +kernel
theorem dX11_isFree_80 : decode mX11_isFree.2.1 80 = .ok (.goto 4, 3) := by decide +kernel
theorem dX11_isFree_83 : decode mX11_isFree.2.1 83 = .ok (.iconst 0, 1) := by decide +kernel
theorem dX11_isFree_84 : decode mX11_isFree.2.1 84 = .ok (.ireturn, 1) := by decide +kernel
theorem okX11_isFree_401 : gOkV mX11_isFree mX11_frees 401 2 := ⟨List.forall_mem_cons.mpr ⟨(gm 1669 (by decide +kernel) rfl), List.forall_mem_cons.mpr ⟨(gm 1666 (by decide +kernel) rfl), List.forall_mem_cons.mpr ⟨(gm 1668 (by decide +kernel) rfl), List.forall_mem_cons.mpr ⟨(gm 84 (by decide +kernel) rfl), List.forall_mem_cons.mpr ⟨(gm 122 (by decide +kernel) rfl), fun _ h => absurd h List.not_mem_nil⟩⟩⟩⟩⟩, by decide +kernel, by decide +kernel, by decide +kernel⟩
def fX11_isFree_57 (p1 : Int32) (p2 : Int32) (k2 : Int32 → gS → Option (Int32 × gS)) (s0 : Int32) (σ : gS) : Option (Int32 × gS) :=
  k2 s0 σ
set_option maxHeartbeats 4000000 in
set_option maxRecDepth 100000 in
theorem pX11_isFree_57 {E : gE} {p1 : Int32} {p2 : Int32} {k2 : Int32 → gS → Option (Int32 × gS)} {r : Int32} {σ' : gS} {s0 : Int32} {σ : gS} (hk2 : ∀ (v3 : Int32) (σ : gS), k2 v3 σ = some (r, σ') → gG E mX11_isFree 2 [(0, .ref 168), (1, .int p1), (2, .int p2), (3, .int v3)] [] σ (some (.int r)) σ') (h : fX11_isFree_57 p1 p2 k2 s0 σ = some (r, σ')) : gG E mX11_isFree 57 [(0, .ref 168), (1, .int p1), (2, .int p2)] [.int s0] σ (some (.int r)) σ' := by
  unfold fX11_isFree_57 at h
  refine g_istore_n (lv' := [(3, .int s0), (0, .ref 168), (1, .int p1), (2, .int p2)]) dX11_isFree_57 rfl (Nat.le_of_ble_eq_true rfl) rfl ?_
  refine g_goto (t := 2) dX11_isFree_58 (by decide) ?_
  refine g_sub [1, 2, 3, 0] rfl ?_
  exact hk2 s0 σ h
def fX11_isFree_52 (p1 : Int32) (p2 : Int32) (k2 : Int32 → gS → Option (Int32 × gS)) (σ : gS) : Option (Int32 × gS) :=
  fX11_isFree_57 p1 p2 k2 1 σ
set_option maxHeartbeats 4000000 in
set_option maxRecDepth 100000 in
theorem pX11_isFree_52 {E : gE} {p1 : Int32} {p2 : Int32} {k2 : Int32 → gS → Option (Int32 × gS)} {r : Int32} {σ' : gS} {σ : gS} (hk2 : ∀ (v3 : Int32) (σ : gS), k2 v3 σ = some (r, σ') → gG E mX11_isFree 2 [(0, .ref 168), (1, .int p1), (2, .int p2), (3, .int v3)] [] σ (some (.int r)) σ') (h : fX11_isFree_52 p1 p2 k2 σ = some (r, σ')) : gG E mX11_isFree 52 [(0, .ref 168), (1, .int p1), (2, .int p2)] [] σ (some (.int r)) σ' := by
  unfold fX11_isFree_52 at h
  refine g_iconst (v := 1) dX11_isFree_52 (by decide) ?_
  refine g_goto (t := 57) dX11_isFree_53 (by decide) ?_
  exact pX11_isFree_57 hk2 h
def fX11_isFree_56 (p1 : Int32) (p2 : Int32) (k2 : Int32 → gS → Option (Int32 × gS)) (σ : gS) : Option (Int32 × gS) :=
  fX11_isFree_57 p1 p2 k2 0 σ
set_option maxHeartbeats 4000000 in
set_option maxRecDepth 100000 in
theorem pX11_isFree_56 {E : gE} {p1 : Int32} {p2 : Int32} {k2 : Int32 → gS → Option (Int32 × gS)} {r : Int32} {σ' : gS} {σ : gS} (hk2 : ∀ (v3 : Int32) (σ : gS), k2 v3 σ = some (r, σ') → gG E mX11_isFree 2 [(0, .ref 168), (1, .int p1), (2, .int p2), (3, .int v3)] [] σ (some (.int r)) σ') (h : fX11_isFree_56 p1 p2 k2 σ = some (r, σ')) : gG E mX11_isFree 56 [(0, .ref 168), (1, .int p1), (2, .int p2)] [] σ (some (.int r)) σ' := by
  unfold fX11_isFree_56 at h
  refine g_iconst (v := 0) dX11_isFree_56 (by decide) ?_
  exact pX11_isFree_57 hk2 h
def fX11_isFree_29 (p1 : Int32) (p2 : Int32) (k2 : Int32 → gS → Option (Int32 × gS)) (s0 : Int32) (σ : gS) : Option (Int32 × gS) :=
  if s0 = 0 then
    gg (¬ (p2 < 0 ∨ 24 ≤ p2.toNatClampNeg)) (
    if (σ.1 201 p2.toNatClampNeg) ≤ 0 then
      fX11_isFree_56 p1 p2 k2 σ
    else
      bd (fX11_frees p2 p1 σ) fun x4 σ5 =>
      if x4 = 0 then
        fX11_isFree_56 p1 p2 k2 σ5
      else
        fX11_isFree_52 p1 p2 k2 σ5)
  else
    fX11_isFree_52 p1 p2 k2 σ
set_option maxHeartbeats 4000000 in
set_option maxRecDepth 100000 in
theorem pX11_isFree_29 {E : gE} {p1 : Int32} {p2 : Int32} {k2 : Int32 → gS → Option (Int32 × gS)} {r : Int32} {σ' : gS} {s0 : Int32} {σ : gS} (hk2 : ∀ (v3 : Int32) (σ : gS), k2 v3 σ = some (r, σ') → gG E mX11_isFree 2 [(0, .ref 168), (1, .int p1), (2, .int p2), (3, .int v3)] [] σ (some (.int r)) σ') (h : fX11_isFree_29 p1 p2 k2 s0 σ = some (r, σ')) : gG E mX11_isFree 29 [(0, .ref 168), (1, .int p1), (2, .int p2)] [.int s0] σ (some (.int r)) σ' := by
  unfold fX11_isFree_29 at h
  refine g_istore_n (lv' := [(3, .int s0), (0, .ref 168), (1, .int p1), (2, .int p2)]) dX11_isFree_29 rfl (Nat.le_of_ble_eq_true rfl) rfl ?_
  refine g_iload_n dX11_isFree_30 rfl 0 rfl ?_
  refine g_if_ne (t := 52) dX11_isFree_31 (by decide) (fun c1 => ?_) (fun c1 => ?_)
  · replace h := if_f h c1
    refine g_sub [1, 2, 3] rfl ?_
    exact pX11_isFree_52 hk2 h
  · replace h := if_t h c1
    refine g_aload_n dX11_isFree_34 rfl 1 rfl ?_
    refine g_getC (n := 201) dX11_isFree_35 gi_168 rfl fl_RX11_119 ?_
    refine g_iload_n dX11_isFree_38 rfl 3 rfl ?_
    obtain ⟨g2, h⟩ := gg_some h
    refine g_iald dX11_isFree_39 gi_201 g2 ?_
    refine g_if_le (t := 56) dX11_isFree_40 (by decide) (fun c3 => ?_) (fun c3 => ?_)
    · replace h := if_t h c3
      refine g_sub [1, 2, 3] rfl ?_
      exact pX11_isFree_56 hk2 h
    · replace h := if_f h c3
      refine g_aload_n dX11_isFree_43 rfl 1 rfl ?_
      refine g_iload_n dX11_isFree_44 rfl 3 rfl ?_
      refine g_iload_n dX11_isFree_45 rfl 2 rfl ?_
      obtain ⟨x4, σ5, y6, h⟩ := bd_some h
      refine g_callVr (as := [.int p2, .int p1]) (st := []) (zX11_frees y6) dX11_isFree_46 gi_168 rfl okX11_isFree_401 (Nat.le_of_ble_eq_true rfl) ?_
      refine g_if_eq (t := 56) dX11_isFree_49 (by decide) (fun c7 => ?_) (fun c7 => ?_)
      · replace h := if_t h c7
        refine g_sub [1, 2, 3] rfl ?_
        exact pX11_isFree_56 hk2 h
      · replace h := if_f h c7
        refine g_sub [1, 2, 3] rfl ?_
        exact pX11_isFree_52 hk2 h
def fX11_isFree_28 (p1 : Int32) (p2 : Int32) (k2 : Int32 → gS → Option (Int32 × gS)) (σ : gS) : Option (Int32 × gS) :=
  fX11_isFree_29 p1 p2 k2 0 σ
set_option maxHeartbeats 4000000 in
set_option maxRecDepth 100000 in
theorem pX11_isFree_28 {E : gE} {p1 : Int32} {p2 : Int32} {k2 : Int32 → gS → Option (Int32 × gS)} {r : Int32} {σ' : gS} {σ : gS} (hk2 : ∀ (v3 : Int32) (σ : gS), k2 v3 σ = some (r, σ') → gG E mX11_isFree 2 [(0, .ref 168), (1, .int p1), (2, .int p2), (3, .int v3)] [] σ (some (.int r)) σ') (h : fX11_isFree_28 p1 p2 k2 σ = some (r, σ')) : gG E mX11_isFree 28 [(0, .ref 168), (1, .int p1), (2, .int p2)] [] σ (some (.int r)) σ' := by
  unfold fX11_isFree_28 at h
  refine g_iconst (v := 0) dX11_isFree_28 (by decide) ?_
  exact pX11_isFree_29 hk2 h
def fX11_isFree_84 (p1 : Int32) (p2 : Int32) (s0 : Int32) (σ : gS) : Option (Int32 × gS) :=
  gg (s0 = 0 ∨ s0 = 1) (
  some (s0, σ))
set_option maxHeartbeats 4000000 in
set_option maxRecDepth 100000 in
theorem pX11_isFree_84 {E : gE} {p1 : Int32} {p2 : Int32} {r : Int32} {σ' : gS} {s0 : Int32} {σ : gS} (h : fX11_isFree_84 p1 p2 s0 σ = some (r, σ')) : gG E mX11_isFree 84 [] [.int s0] σ (some (.int r)) σ' := by
  unfold fX11_isFree_84 at h
  obtain ⟨g1, h⟩ := gg_some h
  obtain ⟨rfl, rfl⟩ := so_inj h
  exact g_zret dX11_isFree_84 rfl g1
def fX11_isFree_83 (p1 : Int32) (p2 : Int32) (σ : gS) : Option (Int32 × gS) :=
  fX11_isFree_84 p1 p2 0 σ
set_option maxHeartbeats 4000000 in
set_option maxRecDepth 100000 in
theorem pX11_isFree_83 {E : gE} {p1 : Int32} {p2 : Int32} {r : Int32} {σ' : gS} {σ : gS} (h : fX11_isFree_83 p1 p2 σ = some (r, σ')) : gG E mX11_isFree 83 [] [] σ (some (.int r)) σ' := by
  unfold fX11_isFree_83 at h
  refine g_iconst (v := 0) dX11_isFree_83 (by decide) ?_
  exact pX11_isFree_84 h
def fX11_isFree_2 (p1 : Int32) (p2 : Int32) : Nat → Int32 → gS → Option (Int32 × gS)
  | 0, _, _ => none
  | n + 1, v3, σ => if v3 = 0 then
    gg (¬ (p1 < 0 ∨ 24 ≤ p1.toNatClampNeg)) (
    if (σ.1 201 p1.toNatClampNeg) = 0 then
      gg (¬ (p2 < 0 ∨ 24 ≤ p2.toNatClampNeg)) (
      if (σ.1 201 p2.toNatClampNeg) = 0 then
        fX11_isFree_84 p1 p2 1 σ
      else
        fX11_isFree_83 p1 p2 σ)
    else
      fX11_isFree_83 p1 p2 σ)
  else
    gg (¬ (p1 < 0 ∨ 24 ≤ p1.toNatClampNeg)) (
    if (σ.1 201 p1.toNatClampNeg) ≤ 0 then
      fX11_isFree_28 p1 p2 (fun v3 σ => fX11_isFree_2 p1 p2 n v3 σ) σ
    else
      bd (fX11_frees p1 p2 σ) fun x8 σ9 =>
      if x8 = 0 then
        fX11_isFree_28 p1 p2 (fun v3 σ => fX11_isFree_2 p1 p2 n v3 σ) σ9
      else
        fX11_isFree_29 p1 p2 (fun v3 σ => fX11_isFree_2 p1 p2 n v3 σ) 1 σ9)
set_option maxHeartbeats 4000000 in
set_option maxRecDepth 100000 in
theorem pX11_isFree_2 {E : gE} {p1 : Int32} {p2 : Int32} {r : Int32} {σ' : gS} : ∀ (n : Nat) (v3 : Int32) (σ : gS), fX11_isFree_2 p1 p2 n v3 σ = some (r, σ') → gG E mX11_isFree 2 [(0, .ref 168), (1, .int p1), (2, .int p2), (3, .int v3)] [] σ (some (.int r)) σ' := by
  intro n
  induction n with
  | zero => intro v3 σ h; exact absurd (show none = some (r, σ') from h) (by intro q; cases q)
  | succ n ih =>
  intro v3 σ h
  unfold fX11_isFree_2 at h
  refine g_iload_n dX11_isFree_2 rfl 3 rfl ?_
  refine g_if_eq (t := 61) dX11_isFree_3 (by decide) (fun c1 => ?_) (fun c1 => ?_)
  · replace h := if_t h c1
    refine g_aload_n dX11_isFree_61 rfl 0 rfl ?_
    refine g_getC (n := 201) dX11_isFree_62 gi_168 rfl fl_RX11_119 ?_
    refine g_iload_n dX11_isFree_65 rfl 1 rfl ?_
    obtain ⟨g2, h⟩ := gg_some h
    refine g_iald dX11_isFree_66 gi_201 g2 ?_
    refine g_if_ne (t := 83) dX11_isFree_67 (by decide) (fun c3 => ?_) (fun c3 => ?_)
    · replace h := if_f h c3
      refine g_sub [] rfl ?_
      exact pX11_isFree_83 h
    · replace h := if_t h c3
      refine g_aload_n dX11_isFree_70 rfl 0 rfl ?_
      refine g_getC (n := 201) dX11_isFree_71 gi_168 rfl fl_RX11_119 ?_
      refine g_iload_n dX11_isFree_74 rfl 2 rfl ?_
      obtain ⟨g4, h⟩ := gg_some h
      refine g_iald dX11_isFree_75 gi_201 g4 ?_
      refine g_if_ne (t := 83) dX11_isFree_76 (by decide) (fun c5 => ?_) (fun c5 => ?_)
      · replace h := if_f h c5
        refine g_sub [] rfl ?_
        exact pX11_isFree_83 h
      · replace h := if_t h c5
        refine g_iconst (v := 1) dX11_isFree_79 (by decide) ?_
        refine g_goto (t := 84) dX11_isFree_80 (by decide) ?_
        refine g_sub [] rfl ?_
        exact pX11_isFree_84 h
  · replace h := if_f h c1
    refine g_aload_n dX11_isFree_6 rfl 0 rfl ?_
    refine g_getC (n := 201) dX11_isFree_7 gi_168 rfl fl_RX11_119 ?_
    refine g_iload_n dX11_isFree_10 rfl 1 rfl ?_
    obtain ⟨g6, h⟩ := gg_some h
    refine g_iald dX11_isFree_11 gi_201 g6 ?_
    refine g_if_le (t := 28) dX11_isFree_12 (by decide) (fun c7 => ?_) (fun c7 => ?_)
    · replace h := if_t h c7
      refine g_sub [0, 1, 2] rfl ?_
      exact pX11_isFree_28 (fun v3 σ h => ih v3 σ h) h
    · replace h := if_f h c7
      refine g_aload_n dX11_isFree_15 rfl 0 rfl ?_
      refine g_iload_n dX11_isFree_16 rfl 1 rfl ?_
      refine g_iload_n dX11_isFree_17 rfl 2 rfl ?_
      obtain ⟨x8, σ9, y10, h⟩ := bd_some h
      refine g_callVr (as := [.int p1, .int p2]) (st := []) (zX11_frees y10) dX11_isFree_18 gi_168 rfl okX11_isFree_401 (Nat.le_of_ble_eq_true rfl) ?_
      refine g_if_eq (t := 28) dX11_isFree_21 (by decide) (fun c11 => ?_) (fun c11 => ?_)
      · replace h := if_t h c11
        refine g_sub [0, 1, 2] rfl ?_
        exact pX11_isFree_28 (fun v3 σ h => ih v3 σ h) h
      · replace h := if_f h c11
        refine g_iconst (v := 1) dX11_isFree_24 (by decide) ?_
        refine g_goto (t := 29) dX11_isFree_25 (by decide) ?_
        refine g_sub [0, 1, 2] rfl ?_
        exact pX11_isFree_29 (fun v3 σ h => ih v3 σ h) h
def fX11_isFree (p1 : Int32) (p2 : Int32) (σ : gS) : Option (Int32 × gS) :=
  fX11_isFree_2 p1 p2 2000 1 σ
set_option maxHeartbeats 4000000 in
set_option maxRecDepth 100000 in
theorem pX11_isFree {E : gE} {p1 : Int32} {p2 : Int32} {r : Int32} {σ' : gS} {σ : gS} (h : fX11_isFree p1 p2 σ = some (r, σ')) : gG E mX11_isFree 0 [(0, .ref 168), (1, .int p1), (2, .int p2)] [] σ (some (.int r)) σ' := by
  unfold fX11_isFree at h
  refine g_iconst (v := 1) dX11_isFree_0 (by decide) ?_
  refine g_istore_n (lv' := [(3, .int 1), (0, .ref 168), (1, .int p1), (2, .int p2)]) dX11_isFree_1 rfl (Nat.le_of_ble_eq_true rfl) rfl ?_
  refine g_sub [1, 2, 3, 0] rfl ?_
  exact pX11_isFree_2 2000 1 σ h
theorem zX11_isFree {E : gE} {p1 : Int32} {p2 : Int32} {r : Int32} {σ σ' : gS} (h : fX11_isFree p1 p2 σ = some (r, σ')) : gC E mX11_isFree [.ref 168, .int p1, .int p2] σ (some (.int r)) σ' :=
  gC_of (by decide +kernel) rfl (Nat.le_of_ble_eq_true rfl) (pX11_isFree h)
theorem fl_RX11_410 : gFl RX11 410 11 57 := ⟨RX11, TX11, 101, rfl, by decide, ux_11, Or.inl (gm 1285 (by decide +kernel) rfl)⟩
theorem fp_RX11_410 : gFp RX11 410 11 57 .int := ⟨RX11, TX11, 101, rfl, by decide, ux_11, Or.inl (gm 1285 (by decide +kernel) rfl), rfl, by decide +kernel, ⟨tyX11, tyX11_ok⟩, nmX11⟩
theorem fl_RX11_122 : gFl RX11 122 11 59 := ⟨RX11, TX11, 101, rfl, by decide, ux_11, Or.inl (gm 1287 (by decide +kernel) rfl)⟩
theorem fl_RX11_407 : gFl RX11 407 11 52 := ⟨RX11, TX11, 101, rfl, by decide, ux_11, Or.inl (gm 1280 (by decide +kernel) rfl)⟩
theorem fl_RX11_33 : gFl RX11 33 11 10 := ⟨RX11, TX11, 101, rfl, by decide, ux_11, Or.inl (gm 1238 (by decide +kernel) rfl)⟩
theorem fl_RX11_36 : gFl RX11 36 11 11 := ⟨RX11, TX11, 101, rfl, by decide, ux_11, Or.inl (gm 1239 (by decide +kernel) rfl)⟩
theorem fp_RX11_407 : gFp RX11 407 11 52 .int := ⟨RX11, TX11, 101, rfl, by decide, ux_11, Or.inl (gm 1280 (by decide +kernel) rfl), rfl, by decide +kernel, ⟨tyX11, tyX11_ok⟩, nmX11⟩
theorem fl_RX11_380 : gFl RX11 380 11 9 := ⟨RX11, TX11, 101, rfl, by decide, ux_11, Or.inl (gm 1237 (by decide +kernel) rfl)⟩
theorem fl_RX11_20 : gFl RX11 20 11 4 := ⟨RX11, TX11, 101, rfl, by decide, ux_11, Or.inl (gm 1232 (by decide +kernel) rfl)⟩
def mX11_findNeeded : gM := (yX11_findNeeded, cX11_findNeeded, RX11, 6, none, 2, 50)
theorem dX11_findNeeded_0 : decode mX11_findNeeded.2.1 0 = .ok (.aload_n 0, 1) := by decide +kernel
theorem dX11_findNeeded_1 : decode mX11_findNeeded.2.1 1 = .ok (.iconst 0, 1) := by decide +kernel
theorem dX11_findNeeded_2 : decode mX11_findNeeded.2.1 2 = .ok (.putfield 398, 3) := by decide +kernel
theorem dX11_findNeeded_5 : decode mX11_findNeeded.2.1 5 = .ok (.iconst (-1), 1) := by decide +kernel
theorem dX11_findNeeded_6 : decode mX11_findNeeded.2.1 6 = .ok (.istore_n 1, 1) := by decide +kernel
theorem dX11_findNeeded_7 : decode mX11_findNeeded.2.1 7 = .ok (.iconst (-1), 1) := by decide +kernel
theorem dX11_findNeeded_8 : decode mX11_findNeeded.2.1 8 = .ok (.istore_n 2, 1) := by decide +kernel
theorem dX11_findNeeded_9 : decode mX11_findNeeded.2.1 9 = .ok (.iconst 0, 1) := by decide +kernel
theorem dX11_findNeeded_10 : decode mX11_findNeeded.2.1 10 = .ok (.istore_n 3, 1) := by decide +kernel
theorem dX11_findNeeded_11 : decode mX11_findNeeded.2.1 11 = .ok (.iload_n 3, 1) := by decide +kernel
theorem dX11_findNeeded_12 : decode mX11_findNeeded.2.1 12 = .ok (.aload_n 0, 1) := by decide +kernel
theorem dX11_findNeeded_13 : decode mX11_findNeeded.2.1 13 = .ok (.getfield 374, 3) := by decide +kernel
theorem dX11_findNeeded_16 : decode mX11_findNeeded.2.1 16 = .ok (.if_icmp .ge 61, 3) := by decide +kernel
theorem dX11_findNeeded_19 : decode mX11_findNeeded.2.1 19 = .ok (.aload_n 0, 1) := by decide +kernel
theorem dX11_findNeeded_20 : decode mX11_findNeeded.2.1 20 = .ok (.getfield 119, 3) := by decide +kernel
theorem dX11_findNeeded_23 : decode mX11_findNeeded.2.1 23 = .ok (.iload_n 3, 1) := by decide +kernel
theorem dX11_findNeeded_24 : decode mX11_findNeeded.2.1 24 = .ok (.iconst 0, 1) := by decide +kernel
theorem dX11_findNeeded_25 : decode mX11_findNeeded.2.1 25 = .ok (.iastore, 1) := by decide +kernel
theorem dX11_findNeeded_26 : decode mX11_findNeeded.2.1 26 = .ok (.aload_n 0, 1) := by decide +kernel
theorem dX11_findNeeded_27 : decode mX11_findNeeded.2.1 27 = .ok (.getfield 20, 3) := by decide +kernel
theorem dX11_findNeeded_30 : decode mX11_findNeeded.2.1 30 = .ok (.iload_n 3, 1) := by decide +kernel
theorem dX11_findNeeded_31 : decode mX11_findNeeded.2.1 31 = .ok (.baload, 1) := by decide +kernel
theorem dX11_findNeeded_32 : decode mX11_findNeeded.2.1 32 = .ok (.ifCond .eq 39, 3) := by decide +kernel
theorem dX11_findNeeded_35 : decode mX11_findNeeded.2.1 35 = .ok (.iload_n 1, 1) := by decide +kernel
theorem dX11_findNeeded_36 : decode mX11_findNeeded.2.1 36 = .ok (.ifCond .ge 8, 3) := by decide +kernel
theorem dX11_findNeeded_39 : decode mX11_findNeeded.2.1 39 = .ok (.iload_n 3, 1) := by decide +kernel
theorem dX11_findNeeded_40 : decode mX11_findNeeded.2.1 40 = .ok (.istore_n 1, 1) := by decide +kernel
theorem dX11_findNeeded_41 : decode mX11_findNeeded.2.1 41 = .ok (.goto 30, 3) := by decide +kernel
theorem dX11_findNeeded_44 : decode mX11_findNeeded.2.1 44 = .ok (.iload_n 2, 1) := by decide +kernel
theorem dX11_findNeeded_45 : decode mX11_findNeeded.2.1 45 = .ok (.ifCond .ge 14, 3) := by decide +kernel
theorem dX11_findNeeded_48 : decode mX11_findNeeded.2.1 48 = .ok (.iload_n 3, 1) := by decide +kernel
theorem dX11_findNeeded_49 : decode mX11_findNeeded.2.1 49 = .ok (.istore_n 2, 1) := by decide +kernel
theorem dX11_findNeeded_50 : decode mX11_findNeeded.2.1 50 = .ok (.aload_n 0, 1) := by decide +kernel
theorem dX11_findNeeded_51 : decode mX11_findNeeded.2.1 51 = .ok (.iload_n 1, 1) := by decide +kernel
theorem dX11_findNeeded_52 : decode mX11_findNeeded.2.1 52 = .ok (.iload_n 3, 1) := by decide +kernel
theorem dX11_findNeeded_53 : decode mX11_findNeeded.2.1 53 = .ok (.invokevirtual 404, 3) := by decide +kernel
theorem dX11_findNeeded_56 : decode mX11_findNeeded.2.1 56 = .ok (.goto 15, 3) := by decide +kernel
theorem dX11_findNeeded_59 : decode mX11_findNeeded.2.1 59 = .ok (.aload_n 0, 1) := by decide +kernel
theorem dX11_findNeeded_60 : decode mX11_findNeeded.2.1 60 = .ok (.iload_n 3, 1) := by decide +kernel
theorem dX11_findNeeded_61 : decode mX11_findNeeded.2.1 61 = .ok (.iload_n 1, 1) := by decide +kernel
theorem dX11_findNeeded_62 : decode mX11_findNeeded.2.1 62 = .ok (.invokevirtual 404, 3) := by decide +kernel
theorem dX11_findNeeded_65 : decode mX11_findNeeded.2.1 65 = .ok (.aload_n 0, 1) := by decide +kernel
theorem dX11_findNeeded_66 : decode mX11_findNeeded.2.1 66 = .ok (.iload_n 3, 1) := by decide +kernel
theorem dX11_findNeeded_67 : decode mX11_findNeeded.2.1 67 = .ok (.iload_n 2, 1) := by decide +kernel
theorem dX11_findNeeded_68 : decode mX11_findNeeded.2.1 68 = .ok (.invokevirtual 404, 3) := by decide +kernel
theorem dX11_findNeeded_71 : decode mX11_findNeeded.2.1 71 = .ok (.iinc 3 1, 3) := by decide +kernel
theorem dX11_findNeeded_74 : decode mX11_findNeeded.2.1 74 = .ok (.goto (-63), 3) := by decide +kernel
theorem dX11_findNeeded_77 : decode mX11_findNeeded.2.1 77 = .ok (.aload_n 0, 1) := by decide +kernel
theorem dX11_findNeeded_78 : decode mX11_findNeeded.2.1 78 = .ok (.aload_n 0, 1) := by decide +kernel
theorem dX11_findNeeded_79 : decode mX11_findNeeded.2.1 79 = .ok (.getfield 398, 3) := by decide +kernel
theorem dX11_findNeeded_82 : decode mX11_findNeeded.2.1 82 = .ok (.putfield 407, 3) := by decide +kernel
theorem dX11_findNeeded_85 : decode mX11_findNeeded.2.1 85 = .ok (.aload_n 0, 1) := by decide +kernel
theorem dX11_findNeeded_86 : decode mX11_findNeeded.2.1 86 = .ok (.getfield 407, 3) := by decide +kernel
theorem dX11_findNeeded_89 : decode mX11_findNeeded.2.1 89 = .ok (.aload_n 0, 1) := by decide +kernel
theorem dX11_findNeeded_90 : decode mX11_findNeeded.2.1 90 = .ok (.getfield 380, 3) := by decide +kernel
theorem dX11_findNeeded_93 : decode mX11_findNeeded.2.1 93 = .ok (.iadd, 1) := by decide +kernel
theorem dX11_findNeeded_94 : decode mX11_findNeeded.2.1 94 = .ok (.istore_n 3, 1) := by decide +kernel
theorem dX11_findNeeded_95 : decode mX11_findNeeded.2.1 95 = .ok (.aload_n 0, 1) := by decide +kernel
theorem dX11_findNeeded_96 : decode mX11_findNeeded.2.1 96 = .ok (.iconst 0, 1) := by decide +kernel
theorem dX11_findNeeded_97 : decode mX11_findNeeded.2.1 97 = .ok (.putfield 410, 3) := by decide +kernel
theorem dX11_findNeeded_100 : decode mX11_findNeeded.2.1 100 = .ok (.aload_n 0, 1) := by decide +kernel
theorem dX11_findNeeded_101 : decode mX11_findNeeded.2.1 101 = .ok (.iconst 0, 1) := by decide +kernel
theorem dX11_findNeeded_102 : decode mX11_findNeeded.2.1 102 = .ok (.putfield 398, 3) := by decide +kernel
theorem dX11_findNeeded_105 : decode mX11_findNeeded.2.1 105 = .ok (.iconst 0, 1) := by decide +kernel
theorem dX11_findNeeded_106 : decode mX11_findNeeded.2.1 106 = .ok (.istore 4, 2) := by decide +kernel
theorem dX11_findNeeded_108 : decode mX11_findNeeded.2.1 108 = .ok (.iload 4, 2) := by decide +kernel
theorem dX11_findNeeded_110 : decode mX11_findNeeded.2.1 110 = .ok (.iload_n 3, 1) := by decide +kernel
theorem dX11_findNeeded_111 : decode mX11_findNeeded.2.1 111 = .ok (.if_icmp .ge 133, 3) := by decide +kernel
theorem dX11_findNeeded_114 : decode mX11_findNeeded.2.1 114 = .ok (.iload 4, 2) := by decide +kernel
theorem dX11_findNeeded_116 : decode mX11_findNeeded.2.1 116 = .ok (.aload_n 0, 1) := by decide +kernel
theorem dX11_findNeeded_117 : decode mX11_findNeeded.2.1 117 = .ok (.getfield 407, 3) := by decide +kernel
theorem dX11_findNeeded_120 : decode mX11_findNeeded.2.1 120 = .ok (.if_icmp .lt 49, 3) := by decide +kernel
theorem dX11_findNeeded_123 : decode mX11_findNeeded.2.1 123 = .ok (.aload_n 0, 1) := by decide +kernel
theorem dX11_findNeeded_124 : decode mX11_findNeeded.2.1 124 = .ok (.getfield 110, 3) := by decide +kernel
theorem dX11_findNeeded_127 : decode mX11_findNeeded.2.1 127 = .ok (.iload 4, 2) := by decide +kernel
theorem dX11_findNeeded_129 : decode mX11_findNeeded.2.1 129 = .ok (.aload_n 0, 1) := by decide +kernel
theorem dX11_findNeeded_130 : decode mX11_findNeeded.2.1 130 = .ok (.getfield 33, 3) := by decide +kernel
theorem dX11_findNeeded_133 : decode mX11_findNeeded.2.1 133 = .ok (.iload 4, 2) := by decide +kernel
theorem dX11_findNeeded_135 : decode mX11_findNeeded.2.1 135 = .ok (.aload_n 0, 1) := by decide +kernel
theorem dX11_findNeeded_136 : decode mX11_findNeeded.2.1 136 = .ok (.getfield 407, 3) := by decide +kernel
theorem dX11_findNeeded_139 : decode mX11_findNeeded.2.1 139 = .ok (.isub, 1) := by decide +kernel
theorem dX11_findNeeded_140 : decode mX11_findNeeded.2.1 140 = .ok (.iaload, 1) := by decide +kernel
theorem dX11_findNeeded_141 : decode mX11_findNeeded.2.1 141 = .ok (.iastore, 1) := by decide +kernel
theorem dX11_findNeeded_142 : decode mX11_findNeeded.2.1 142 = .ok (.aload_n 0, 1) := by decide +kernel
theorem dX11_findNeeded_143 : decode mX11_findNeeded.2.1 143 = .ok (.getfield 113, 3) := by decide +kernel
theorem dX11_findNeeded_146 : decode mX11_findNeeded.2.1 146 = .ok (.iload 4, 2) := by decide +kernel
theorem dX11_findNeeded_148 : decode mX11_findNeeded.2.1 148 = .ok (.aload_n 0, 1) := by decide +kernel
theorem dX11_findNeeded_149 : decode mX11_findNeeded.2.1 149 = .ok (.getfield 36, 3) := by decide +kernel
theorem dX11_findNeeded_152 : decode mX11_findNeeded.2.1 152 = .ok (.iload 4, 2) := by decide +kernel
theorem dX11_findNeeded_154 : decode mX11_findNeeded.2.1 154 = .ok (.aload_n 0, 1) := by decide +kernel
theorem dX11_findNeeded_155 : decode mX11_findNeeded.2.1 155 = .ok (.getfield 407, 3) := by decide +kernel
theorem dX11_findNeeded_158 : decode mX11_findNeeded.2.1 158 = .ok (.isub, 1) := by decide +kernel
theorem dX11_findNeeded_159 : decode mX11_findNeeded.2.1 159 = .ok (.iaload, 1) := by decide +kernel
theorem dX11_findNeeded_160 : decode mX11_findNeeded.2.1 160 = .ok (.iastore, 1) := by decide +kernel
theorem dX11_findNeeded_161 : decode mX11_findNeeded.2.1 161 = .ok (.aload_n 0, 1) := by decide +kernel
theorem dX11_findNeeded_162 : decode mX11_findNeeded.2.1 162 = .ok (.getfield 116, 3) := by decide +kernel
theorem dX11_findNeeded_165 : decode mX11_findNeeded.2.1 165 = .ok (.iload 4, 2) := by decide +kernel
theorem dX11_findNeeded_167 : decode mX11_findNeeded.2.1 167 = .ok (.iconst (-1), 1) := by decide +kernel
theorem dX11_findNeeded_168 : decode mX11_findNeeded.2.1 168 = .ok (.iastore, 1) := by decide +kernel
theorem dX11_findNeeded_169 : decode mX11_findNeeded.2.1 169 = .ok (.aload_n 0, 1) := by decide +kernel
theorem dX11_findNeeded_170 : decode mX11_findNeeded.2.1 170 = .ok (.aload_n 0, 1) := by decide +kernel
theorem dX11_findNeeded_171 : decode mX11_findNeeded.2.1 171 = .ok (.getfield 110, 3) := by decide +kernel
theorem dX11_findNeeded_174 : decode mX11_findNeeded.2.1 174 = .ok (.iload 4, 2) := by decide +kernel
theorem dX11_findNeeded_176 : decode mX11_findNeeded.2.1 176 = .ok (.iaload, 1) := by decide +kernel
theorem dX11_findNeeded_177 : decode mX11_findNeeded.2.1 177 = .ok (.aload_n 0, 1) := by decide +kernel
theorem dX11_findNeeded_178 : decode mX11_findNeeded.2.1 178 = .ok (.getfield 113, 3) := by decide +kernel
theorem dX11_findNeeded_181 : decode mX11_findNeeded.2.1 181 = .ok (.iload 4, 2) := by decide +kernel
theorem dX11_findNeeded_183 : decode mX11_findNeeded.2.1 183 = .ok (.iaload, 1) := by decide +kernel
theorem dX11_findNeeded_184 : decode mX11_findNeeded.2.1 184 = .ok (.invokevirtual 413, 3) := by decide +kernel
theorem dX11_findNeeded_187 : decode mX11_findNeeded.2.1 187 = .ok (.ifCond .eq 43, 3) := by decide +kernel
theorem dX11_findNeeded_190 : decode mX11_findNeeded.2.1 190 = .ok (.aload_n 0, 1) := by decide +kernel
theorem dX11_findNeeded_191 : decode mX11_findNeeded.2.1 191 = .ok (.getfield 116, 3) := by decide +kernel
theorem dX11_findNeeded_194 : decode mX11_findNeeded.2.1 194 = .ok (.iload 4, 2) := by decide +kernel
theorem dX11_findNeeded_196 : decode mX11_findNeeded.2.1 196 = .ok (.aload_n 0, 1) := by decide +kernel
theorem dX11_findNeeded_197 : decode mX11_findNeeded.2.1 197 = .ok (.getfield 110, 3) := by decide +kernel
theorem dX11_findNeeded_200 : decode mX11_findNeeded.2.1 200 = .ok (.iload 4, 2) := by decide +kernel
theorem dX11_findNeeded_202 : decode mX11_findNeeded.2.1 202 = .ok (.iaload, 1) := by decide +kernel
theorem dX11_findNeeded_203 : decode mX11_findNeeded.2.1 203 = .ok (.iastore, 1) := by decide +kernel
theorem dX11_findNeeded_204 : decode mX11_findNeeded.2.1 204 = .ok (.aload_n 0, 1) := by decide +kernel
theorem dX11_findNeeded_205 : decode mX11_findNeeded.2.1 205 = .ok (.getfield 119, 3) := by decide +kernel
theorem dX11_findNeeded_208 : decode mX11_findNeeded.2.1 208 = .ok (.aload_n 0, 1) := by decide +kernel
theorem dX11_findNeeded_209 : decode mX11_findNeeded.2.1 209 = .ok (.getfield 110, 3) := by decide +kernel
theorem dX11_findNeeded_212 : decode mX11_findNeeded.2.1 212 = .ok (.iload 4, 2) := by decide +kernel
theorem dX11_findNeeded_214 : decode mX11_findNeeded.2.1 214 = .ok (.iaload, 1) := by decide +kernel
theorem dX11_findNeeded_215 : decode mX11_findNeeded.2.1 215 = .ok (.dup2, 1) := by decide +kernel
theorem dX11_findNeeded_216 : decode mX11_findNeeded.2.1 216 = .ok (.iaload, 1) := by decide +kernel
theorem dX11_findNeeded_217 : decode mX11_findNeeded.2.1 217 = .ok (.iconst 1, 1) := by decide +kernel
theorem dX11_findNeeded_218 : decode mX11_findNeeded.2.1 218 = .ok (.iadd, 1) := by decide +kernel
theorem dX11_findNeeded_219 : decode mX11_findNeeded.2.1 219 = .ok (.iastore, 1) := by decide +kernel
theorem dX11_findNeeded_220 : decode mX11_findNeeded.2.1 220 = .ok (.aload_n 0, 1) := by decide +kernel
theorem dX11_findNeeded_221 : decode mX11_findNeeded.2.1 221 = .ok (.dup, 1) := by decide +kernel
theorem dX11_findNeeded_222 : decode mX11_findNeeded.2.1 222 = .ok (.getfield 410, 3) := by decide +kernel
theorem dX11_findNeeded_225 : decode mX11_findNeeded.2.1 225 = .ok (.iconst 1, 1) := by decide +kernel
theorem dX11_findNeeded_226 : decode mX11_findNeeded.2.1 226 = .ok (.iadd, 1) := by decide +kernel
theorem dX11_findNeeded_227 : decode mX11_findNeeded.2.1 227 = .ok (.putfield 410, 3) := by decide +kernel
theorem dX11_findNeeded_230 : decode mX11_findNeeded.2.1 230 = .ok (.aload_n 0, 1) := by decide +kernel
theorem dX11_findNeeded_231 : decode mX11_findNeeded.2.1 231 = .ok (.iload 4, 2) := by decide +kernel
theorem dX11_findNeeded_233 : decode mX11_findNeeded.2.1 233 = .ok (.iconst 1, 1) := by decide +kernel
theorem dX11_findNeeded_234 : decode mX11_findNeeded.2.1 234 = .ok (.iadd, 1) := by decide +kernel
theorem dX11_findNeeded_235 : decode mX11_findNeeded.2.1 235 = .ok (.putfield 398, 3) := by decide +kernel
theorem dX11_findNeeded_238 : decode mX11_findNeeded.2.1 238 = .ok (.iinc 4 1, 3) := by decide +kernel
theorem dX11_findNeeded_241 : decode mX11_findNeeded.2.1 241 = .ok (.goto (-133), 3) := by decide +kernel
theorem dX11_findNeeded_244 : decode mX11_findNeeded.2.1 244 = .ok (.iconst 0, 1) := by decide +kernel
theorem dX11_findNeeded_245 : decode mX11_findNeeded.2.1 245 = .ok (.istore 4, 2) := by decide +kernel
theorem dX11_findNeeded_247 : decode mX11_findNeeded.2.1 247 = .ok (.iload 4, 2) := by decide +kernel
theorem dX11_findNeeded_249 : decode mX11_findNeeded.2.1 249 = .ok (.aload_n 0, 1) := by decide +kernel
theorem dX11_findNeeded_250 : decode mX11_findNeeded.2.1 250 = .ok (.getfield 374, 3) := by decide +kernel
theorem dX11_findNeeded_253 : decode mX11_findNeeded.2.1 253 = .ok (.if_icmp .ge 63, 3) := by decide +kernel
theorem dX11_findNeeded_256 : decode mX11_findNeeded.2.1 256 = .ok (.iconst 0, 1) := by decide +kernel
theorem dX11_findNeeded_257 : decode mX11_findNeeded.2.1 257 = .ok (.istore 5, 2) := by decide +kernel
theorem dX11_findNeeded_259 : decode mX11_findNeeded.2.1 259 = .ok (.iload 5, 2) := by decide +kernel
theorem dX11_findNeeded_261 : decode mX11_findNeeded.2.1 261 = .ok (.aload_n 0, 1) := by decide +kernel
theorem dX11_findNeeded_262 : decode mX11_findNeeded.2.1 262 = .ok (.getfield 374, 3) := by decide +kernel
theorem dX11_findNeeded_265 : decode mX11_findNeeded.2.1 265 = .ok (.if_icmp .ge 45, 3) := by decide +kernel
theorem dX11_findNeeded_268 : decode mX11_findNeeded.2.1 268 = .ok (.aload_n 0, 1) := by decide +kernel
theorem dX11_findNeeded_269 : decode mX11_findNeeded.2.1 269 = .ok (.getfield 122, 3) := by decide +kernel
theorem dX11_findNeeded_272 : decode mX11_findNeeded.2.1 272 = .ok (.bipush 24, 2) := by decide +kernel
theorem dX11_findNeeded_274 : decode mX11_findNeeded.2.1 274 = .ok (.iload 4, 2) := by decide +kernel
theorem dX11_findNeeded_276 : decode mX11_findNeeded.2.1 276 = .ok (.imul, 1) := by decide +kernel
theorem dX11_findNeeded_277 : decode mX11_findNeeded.2.1 277 = .ok (.iload 5, 2) := by decide +kernel
theorem dX11_findNeeded_279 : decode mX11_findNeeded.2.1 279 = .ok (.iadd, 1) := by decide +kernel
theorem dX11_findNeeded_280 : decode mX11_findNeeded.2.1 280 = .ok (.iload 4, 2) := by decide +kernel
theorem dX11_findNeeded_282 : decode mX11_findNeeded.2.1 282 = .ok (.iload 5, 2) := by decide +kernel
theorem dX11_findNeeded_284 : decode mX11_findNeeded.2.1 284 = .ok (.if_icmp .eq 14, 3) := by decide +kernel
theorem dX11_findNeeded_287 : decode mX11_findNeeded.2.1 287 = .ok (.aload_n 0, 1) := by decide +kernel
theorem dX11_findNeeded_288 : decode mX11_findNeeded.2.1 288 = .ok (.iload 4, 2) := by decide +kernel
theorem dX11_findNeeded_290 : decode mX11_findNeeded.2.1 290 = .ok (.iload 5, 2) := by decide +kernel
theorem dX11_findNeeded_292 : decode mX11_findNeeded.2.1 292 = .ok (.invokevirtual 413, 3) := by decide +kernel
theorem dX11_findNeeded_295 : decode mX11_findNeeded.2.1 295 = .ok (.ifCond .ne 7, 3) := by decide +kernel
theorem dX11_findNeeded_298 : decode mX11_findNeeded.2.1 298 = .ok (.iconst 1, 1) := by decide +kernel
theorem dX11_findNeeded_299 : decode mX11_findNeeded.2.1 299 = .ok (.goto 4, 3) := by decide +kernel
theorem dX11_findNeeded_302 : decode mX11_findNeeded.2.1 302 = .ok (.iconst 0, 1) := by decide +kernel
theorem dX11_findNeeded_303 : decode mX11_findNeeded.2.1 303 = .ok (.bastore, 1) := by decide +kernel
theorem dX11_findNeeded_304 : decode mX11_findNeeded.2.1 304 = .ok (.iinc 5 1, 3) := by decide +kernel
theorem dX11_findNeeded_307 : decode mX11_findNeeded.2.1 307 = .ok (.goto (-48), 3) := by decide +kernel
theorem dX11_findNeeded_310 : decode mX11_findNeeded.2.1 310 = .ok (.iinc 4 1, 3) := by decide +kernel
theorem dX11_findNeeded_313 : decode mX11_findNeeded.2.1 313 = .ok (.goto (-66), 3) := by decide +kernel
theorem dX11_findNeeded_316 : decode mX11_findNeeded.2.1 316 = .ok (.return_, 1) := by decide +kernel
theorem okX11_findNeeded_413 : gOkV mX11_findNeeded mX11_isFree 413 2 := ⟨List.forall_mem_cons.mpr ⟨(gm 1665 (by decide +kernel) rfl), List.forall_mem_cons.mpr ⟨(gm 1662 (by decide +kernel) rfl), List.forall_mem_cons.mpr ⟨(gm 1664 (by decide +kernel) rfl), List.forall_mem_cons.mpr ⟨(gm 83 (by decide +kernel) rfl), List.forall_mem_cons.mpr ⟨(gm 122 (by decide +kernel) rfl), fun _ h => absurd h List.not_mem_nil⟩⟩⟩⟩⟩, by decide +kernel, by decide +kernel, by decide +kernel⟩
theorem okX11_findNeeded_404 : gOkV mX11_findNeeded mX11_addItem 404 2 := ⟨List.forall_mem_cons.mpr ⟨(gm 1661 (by decide +kernel) rfl), List.forall_mem_cons.mpr ⟨(gm 1658 (by decide +kernel) rfl), List.forall_mem_cons.mpr ⟨(gm 1660 (by decide +kernel) rfl), List.forall_mem_cons.mpr ⟨(gm 82 (by decide +kernel) rfl), List.forall_mem_cons.mpr ⟨(gm 122 (by decide +kernel) rfl), fun _ h => absurd h List.not_mem_nil⟩⟩⟩⟩⟩, by decide +kernel, by decide +kernel, by decide +kernel⟩
def fX11_findNeeded_71 (k11 : Int32 → Int32 → Int32 → gS → Option (Unit × gS)) (v1 : Int32) (v2 : Int32) (v3 : Int32) (σ : gS) : Option (Unit × gS) :=
  bnd (v3 + 1) fun x1 =>
  k11 v1 v2 x1 σ
set_option maxHeartbeats 4000000 in
set_option maxRecDepth 100000 in
theorem pX11_findNeeded_71 {E : gE} {k11 : Int32 → Int32 → Int32 → gS → Option (Unit × gS)} {r : Unit} {σ' : gS} {v1 : Int32} {v2 : Int32} {v3 : Int32} {σ : gS} (hk11 : ∀ (v1 : Int32) (v2 : Int32) (v3 : Int32) (σ : gS), k11 v1 v2 v3 σ = some (r, σ') → gG E mX11_findNeeded 11 [(0, .ref 168), (1, .int v1), (2, .int v2), (3, .int v3)] [] σ (none) σ') (h : fX11_findNeeded_71 k11 v1 v2 v3 σ = some (r, σ')) : gG E mX11_findNeeded 71 [(0, .ref 168), (1, .int v1), (2, .int v2), (3, .int v3)] [] σ (none) σ' := by
  unfold fX11_findNeeded_71 at h
  obtain ⟨x1, ex1, h⟩ := bnd_nm h
  refine g_iinc (j := 3) (v := x1) (lv' := [(3, .int x1), (0, .ref 168), (1, .int v1), (2, .int v2)]) dX11_findNeeded_71 rfl (by rw [ex1]; rfl) (Nat.le_of_ble_eq_true rfl) rfl ?_
  refine g_goto (t := 11) dX11_findNeeded_74 (by decide) ?_
  refine g_sub [1, 2, 3, 0] rfl ?_
  exact hk11 v1 v2 x1 σ h
def fX11_findNeeded_230 (k108 : Int32 → Int32 → gS → Option (Unit × gS)) (v3 : Int32) (v4 : Int32) (σ : gS) : Option (Unit × gS) :=
  bnd (gsI σ 168 53 (v4 + 1)) fun σ1 =>
  bnd (v4 + 1) fun x2 =>
  k108 v3 x2 σ1
set_option maxHeartbeats 4000000 in
set_option maxRecDepth 100000 in
theorem pX11_findNeeded_230 {E : gE} {k108 : Int32 → Int32 → gS → Option (Unit × gS)} {r : Unit} {σ' : gS} {v3 : Int32} {v4 : Int32} {σ : gS} (hk108 : ∀ (v3 : Int32) (v4 : Int32) (σ : gS), k108 v3 v4 σ = some (r, σ') → gG E mX11_findNeeded 108 [(0, .ref 168), (3, .int v3), (4, .int v4)] [] σ (none) σ') (h : fX11_findNeeded_230 k108 v3 v4 σ = some (r, σ')) : gG E mX11_findNeeded 230 [(0, .ref 168), (3, .int v3), (4, .int v4)] [] σ (none) σ' := by
  unfold fX11_findNeeded_230 at h
  refine g_aload_n dX11_findNeeded_230 rfl 0 rfl ?_
  refine g_iload dX11_findNeeded_231 2 rfl ?_
  refine g_iconst (v := 1) dX11_findNeeded_233 (by decide) ?_
  refine g_iadd dX11_findNeeded_234 ?_
  obtain ⟨σ1, eσ1, h⟩ := bnd_nm h
  refine g_putI dX11_findNeeded_235 gi_168 rfl fp_RX11_398 (g_st eσ1 ?_)
  obtain ⟨x2, ex2, h⟩ := bnd_nm h
  refine g_iinc (j := 2) (v := x2) (lv' := [(4, .int x2), (0, .ref 168), (3, .int v3)]) dX11_findNeeded_238 rfl (by rw [ex2]; rfl) (Nat.le_of_ble_eq_true rfl) rfl ?_
  refine g_goto (t := 108) dX11_findNeeded_241 (by decide) ?_
  refine g_sub [1, 2, 0] rfl ?_
  exact hk108 v3 x2 σ1 h
def fX11_findNeeded_169 (k108 : Int32 → Int32 → gS → Option (Unit × gS)) (v3 : Int32) (v4 : Int32) (σ : gS) : Option (Unit × gS) :=
  gg (¬ (v4 < 0 ∨ 106 ≤ v4.toNatClampNeg)) (
  gg (¬ (v4 < 0 ∨ 106 ≤ v4.toNatClampNeg)) (
  bd (fX11_isFree (σ.1 198 v4.toNatClampNeg) (σ.1 199 v4.toNatClampNeg) σ) fun x3 σ4 =>
  if x3 = 0 then
    fX11_findNeeded_230 k108 v3 v4 σ4
  else
    gg (¬ (v4 < 0 ∨ 106 ≤ v4.toNatClampNeg)) (
    gg (¬ (v4 < 0 ∨ 106 ≤ v4.toNatClampNeg)) (
    bnd (gsI σ4 200 v4.toNatClampNeg (σ4.1 198 v4.toNatClampNeg)) fun σ9 =>
    gg (¬ (v4 < 0 ∨ 106 ≤ v4.toNatClampNeg)) (
    gg (¬ (σ9.1 198 v4.toNatClampNeg < 0 ∨ 24 ≤ (σ9.1 198 v4.toNatClampNeg).toNatClampNeg)) (
    gg (¬ (σ9.1 198 v4.toNatClampNeg < 0 ∨ 24 ≤ (σ9.1 198 v4.toNatClampNeg).toNatClampNeg)) (
    bnd (gsI σ9 201 ((σ9.1 198 v4.toNatClampNeg).toNatClampNeg) ((σ9.1 201 ((σ9.1 198 v4.toNatClampNeg).toNatClampNeg)) + 1)) fun σ13 =>
    bnd (gsI σ13 168 57 ((σ13.1 168 57) + 1)) fun σ14 =>
    fX11_findNeeded_230 k108 v3 v4 σ14)))))))
set_option maxHeartbeats 4000000 in
set_option maxRecDepth 100000 in
theorem pX11_findNeeded_169 {E : gE} {k108 : Int32 → Int32 → gS → Option (Unit × gS)} {r : Unit} {σ' : gS} {v3 : Int32} {v4 : Int32} {σ : gS} (hk108 : ∀ (v3 : Int32) (v4 : Int32) (σ : gS), k108 v3 v4 σ = some (r, σ') → gG E mX11_findNeeded 108 [(0, .ref 168), (3, .int v3), (4, .int v4)] [] σ (none) σ') (h : fX11_findNeeded_169 k108 v3 v4 σ = some (r, σ')) : gG E mX11_findNeeded 169 [(0, .ref 168), (3, .int v3), (4, .int v4)] [] σ (none) σ' := by
  unfold fX11_findNeeded_169 at h
  refine g_aload_n dX11_findNeeded_169 rfl 0 rfl ?_
  refine g_aload_n dX11_findNeeded_170 rfl 0 rfl ?_
  refine g_getC (n := 198) dX11_findNeeded_171 gi_168 rfl fl_RX11_110 ?_
  refine g_iload dX11_findNeeded_174 2 rfl ?_
  obtain ⟨g1, h⟩ := gg_some h
  refine g_iald dX11_findNeeded_176 gi_198 g1 ?_
  refine g_aload_n dX11_findNeeded_177 rfl 0 rfl ?_
  refine g_getC (n := 199) dX11_findNeeded_178 gi_168 rfl fl_RX11_113 ?_
  refine g_iload dX11_findNeeded_181 2 rfl ?_
  obtain ⟨g2, h⟩ := gg_some h
  refine g_iald dX11_findNeeded_183 gi_199 g2 ?_
  obtain ⟨x3, σ4, y5, h⟩ := bd_some h
  refine g_callVr (as := [.int (σ.1 198 v4.toNatClampNeg), .int (σ.1 199 v4.toNatClampNeg)]) (st := []) (zX11_isFree y5) dX11_findNeeded_184 gi_168 rfl okX11_findNeeded_413 (Nat.le_of_ble_eq_true rfl) ?_
  refine g_if_eq (t := 230) dX11_findNeeded_187 (by decide) (fun c6 => ?_) (fun c6 => ?_)
  · replace h := if_t h c6
    exact pX11_findNeeded_230 hk108 h
  · replace h := if_f h c6
    refine g_aload_n dX11_findNeeded_190 rfl 0 rfl ?_
    refine g_getC (n := 200) dX11_findNeeded_191 gi_168 rfl fl_RX11_116 ?_
    refine g_iload dX11_findNeeded_194 2 rfl ?_
    refine g_aload_n dX11_findNeeded_196 rfl 0 rfl ?_
    refine g_getC (n := 198) dX11_findNeeded_197 gi_168 rfl fl_RX11_110 ?_
    refine g_iload dX11_findNeeded_200 2 rfl ?_
    obtain ⟨g7, h⟩ := gg_some h
    refine g_iald dX11_findNeeded_202 gi_198 g7 ?_
    obtain ⟨g8, h⟩ := gg_some h
    obtain ⟨σ9, eσ9, h⟩ := bnd_nm h
    refine g_iast dX11_findNeeded_203 gi_200 g8 (g_st eσ9 ?_)
    refine g_aload_n dX11_findNeeded_204 rfl 0 rfl ?_
    refine g_getC (n := 201) dX11_findNeeded_205 gi_168 rfl fl_RX11_119 ?_
    refine g_aload_n dX11_findNeeded_208 rfl 0 rfl ?_
    refine g_getC (n := 198) dX11_findNeeded_209 gi_168 rfl fl_RX11_110 ?_
    refine g_iload dX11_findNeeded_212 2 rfl ?_
    obtain ⟨g10, h⟩ := gg_some h
    refine g_iald dX11_findNeeded_214 gi_198 g10 ?_
    refine g_dup2 dX11_findNeeded_215 rfl rfl ?_
    obtain ⟨g11, h⟩ := gg_some h
    refine g_iald dX11_findNeeded_216 gi_201 g11 ?_
    refine g_iconst (v := 1) dX11_findNeeded_217 (by decide) ?_
    refine g_iadd dX11_findNeeded_218 ?_
    obtain ⟨g12, h⟩ := gg_some h
    obtain ⟨σ13, eσ13, h⟩ := bnd_nm h
    refine g_iast dX11_findNeeded_219 gi_201 g12 (g_st eσ13 ?_)
    refine g_aload_n dX11_findNeeded_220 rfl 0 rfl ?_
    refine g_dup dX11_findNeeded_221 rfl ?_
    refine g_getI dX11_findNeeded_222 gi_168 rfl fl_RX11_410 ?_
    refine g_iconst (v := 1) dX11_findNeeded_225 (by decide) ?_
    refine g_iadd dX11_findNeeded_226 ?_
    obtain ⟨σ14, eσ14, h⟩ := bnd_nm h
    refine g_putI dX11_findNeeded_227 gi_168 rfl fp_RX11_410 (g_st eσ14 ?_)
    exact pX11_findNeeded_230 hk108 h
def fX11_findNeeded_303 (k247 : Int32 → gS → Option (Unit × gS)) (k259 : Int32 → Int32 → gS → Option (Unit × gS)) (v4 : Int32) (v5 : Int32) (s1 : Int32) (s2 : Int32) (σ : gS) : Option (Unit × gS) :=
  gg (¬ (s1 < 0 ∨ 576 ≤ s1.toNatClampNeg)) (
  bnd (gsI σ 202 s1.toNatClampNeg (vp_nar .boolean s2)) fun σ2 =>
  bnd (v5 + 1) fun x3 =>
  k259 v4 x3 σ2)
set_option maxHeartbeats 4000000 in
set_option maxRecDepth 100000 in
theorem pX11_findNeeded_303 {E : gE} {k247 : Int32 → gS → Option (Unit × gS)} {k259 : Int32 → Int32 → gS → Option (Unit × gS)} {r : Unit} {σ' : gS} {v4 : Int32} {v5 : Int32} {s1 : Int32} {s2 : Int32} {σ : gS} (hk247 : ∀ (v4 : Int32) (σ : gS), k247 v4 σ = some (r, σ') → gG E mX11_findNeeded 247 [(0, .ref 168), (4, .int v4)] [] σ (none) σ') (hk259 : ∀ (v4 : Int32) (v5 : Int32) (σ : gS), k259 v4 v5 σ = some (r, σ') → gG E mX11_findNeeded 259 [(0, .ref 168), (4, .int v4), (5, .int v5)] [] σ (none) σ') (h : fX11_findNeeded_303 k247 k259 v4 v5 s1 s2 σ = some (r, σ')) : gG E mX11_findNeeded 303 [(0, .ref 168), (4, .int v4), (5, .int v5)] [.int s2, .int s1, .ref 202] σ (none) σ' := by
  unfold fX11_findNeeded_303 at h
  obtain ⟨g1, h⟩ := gg_some h
  obtain ⟨σ2, eσ2, h⟩ := bnd_nm h
  refine g_zast dX11_findNeeded_303 gi_202 g1 (g_st eσ2 ?_)
  obtain ⟨x3, ex3, h⟩ := bnd_nm h
  refine g_iinc (j := 2) (v := x3) (lv' := [(5, .int x3), (0, .ref 168), (4, .int v4)]) dX11_findNeeded_304 rfl (by rw [ex3]; rfl) (Nat.le_of_ble_eq_true rfl) rfl ?_
  refine g_goto (t := 259) dX11_findNeeded_307 (by decide) ?_
  refine g_sub [1, 2, 0] rfl ?_
  exact hk259 v4 x3 σ2 h
def fX11_findNeeded_298 (k247 : Int32 → gS → Option (Unit × gS)) (k259 : Int32 → Int32 → gS → Option (Unit × gS)) (v4 : Int32) (v5 : Int32) (s1 : Int32) (σ : gS) : Option (Unit × gS) :=
  fX11_findNeeded_303 k247 k259 v4 v5 s1 1 σ
set_option maxHeartbeats 4000000 in
set_option maxRecDepth 100000 in
theorem pX11_findNeeded_298 {E : gE} {k247 : Int32 → gS → Option (Unit × gS)} {k259 : Int32 → Int32 → gS → Option (Unit × gS)} {r : Unit} {σ' : gS} {v4 : Int32} {v5 : Int32} {s1 : Int32} {σ : gS} (hk247 : ∀ (v4 : Int32) (σ : gS), k247 v4 σ = some (r, σ') → gG E mX11_findNeeded 247 [(0, .ref 168), (4, .int v4)] [] σ (none) σ') (hk259 : ∀ (v4 : Int32) (v5 : Int32) (σ : gS), k259 v4 v5 σ = some (r, σ') → gG E mX11_findNeeded 259 [(0, .ref 168), (4, .int v4), (5, .int v5)] [] σ (none) σ') (h : fX11_findNeeded_298 k247 k259 v4 v5 s1 σ = some (r, σ')) : gG E mX11_findNeeded 298 [(0, .ref 168), (4, .int v4), (5, .int v5)] [.int s1, .ref 202] σ (none) σ' := by
  unfold fX11_findNeeded_298 at h
  refine g_iconst (v := 1) dX11_findNeeded_298 (by decide) ?_
  refine g_goto (t := 303) dX11_findNeeded_299 (by decide) ?_
  exact pX11_findNeeded_303 hk247 hk259 h
def fX11_findNeeded_259 (k247 : Int32 → gS → Option (Unit × gS)) : Nat → Int32 → Int32 → gS → Option (Unit × gS)
  | 0, _, _, _ => none
  | n + 1, v4, v5, σ => if (σ.1 168 0) ≤ v5 then
    bnd (v4 + 1) fun x2 =>
    k247 x2 σ
  else
    if v4 = v5 then
      fX11_findNeeded_298 k247 (fun v4 v5 σ => fX11_findNeeded_259 k247 n v4 v5 σ) v4 v5 ((24 * v4) + v5) σ
    else
      bd (fX11_isFree v4 v5 σ) fun x4 σ5 =>
      if x4 = 0 then
        fX11_findNeeded_298 k247 (fun v4 v5 σ => fX11_findNeeded_259 k247 n v4 v5 σ) v4 v5 ((24 * v4) + v5) σ5
      else
        fX11_findNeeded_303 k247 (fun v4 v5 σ => fX11_findNeeded_259 k247 n v4 v5 σ) v4 v5 ((24 * v4) + v5) 0 σ5
set_option maxHeartbeats 4000000 in
set_option maxRecDepth 100000 in
theorem pX11_findNeeded_259 {E : gE} {k247 : Int32 → gS → Option (Unit × gS)} {r : Unit} {σ' : gS} (hk247 : ∀ (v4 : Int32) (σ : gS), k247 v4 σ = some (r, σ') → gG E mX11_findNeeded 247 [(0, .ref 168), (4, .int v4)] [] σ (none) σ') : ∀ (n : Nat) (v4 : Int32) (v5 : Int32) (σ : gS), fX11_findNeeded_259 k247 n v4 v5 σ = some (r, σ') → gG E mX11_findNeeded 259 [(0, .ref 168), (4, .int v4), (5, .int v5)] [] σ (none) σ' := by
  intro n
  induction n with
  | zero => intro v4 v5 σ h; exact absurd (show none = some (r, σ') from h) (by intro q; cases q)
  | succ n ih =>
  intro v4 v5 σ h
  unfold fX11_findNeeded_259 at h
  refine g_iload dX11_findNeeded_259 2 rfl ?_
  refine g_aload_n dX11_findNeeded_261 rfl 0 rfl ?_
  refine g_getI dX11_findNeeded_262 gi_168 rfl fl_RX11_374 ?_
  refine g_icmp_ge (t := 310) dX11_findNeeded_265 (by decide) (fun c1 => ?_) (fun c1 => ?_)
  · replace h := if_t h c1
    obtain ⟨x2, ex2, h⟩ := bnd_nm h
    refine g_iinc (j := 1) (v := x2) (lv' := [(4, .int x2), (0, .ref 168), (5, .int v5)]) dX11_findNeeded_310 rfl (by rw [ex2]; rfl) (Nat.le_of_ble_eq_true rfl) rfl ?_
    refine g_goto (t := 247) dX11_findNeeded_313 (by decide) ?_
    refine g_sub [1, 0] rfl ?_
    exact hk247 x2 σ h
  · replace h := if_f h c1
    refine g_aload_n dX11_findNeeded_268 rfl 0 rfl ?_
    refine g_getC (n := 202) dX11_findNeeded_269 gi_168 rfl fl_RX11_122 ?_
    refine g_bipush (v := 24) dX11_findNeeded_272 (by decide) ?_
    refine g_iload dX11_findNeeded_274 1 rfl ?_
    refine g_imul dX11_findNeeded_276 ?_
    refine g_iload dX11_findNeeded_277 2 rfl ?_
    refine g_iadd dX11_findNeeded_279 ?_
    refine g_iload dX11_findNeeded_280 1 rfl ?_
    refine g_iload dX11_findNeeded_282 2 rfl ?_
    refine g_icmp_eq (t := 298) dX11_findNeeded_284 (by decide) (fun c3 => ?_) (fun c3 => ?_)
    · replace h := if_t h c3
      exact pX11_findNeeded_298 hk247 (fun v4 v5 σ h => ih v4 v5 σ h) h
    · replace h := if_f h c3
      refine g_aload_n dX11_findNeeded_287 rfl 0 rfl ?_
      refine g_iload dX11_findNeeded_288 1 rfl ?_
      refine g_iload dX11_findNeeded_290 2 rfl ?_
      obtain ⟨x4, σ5, y6, h⟩ := bd_some h
      refine g_callVr (as := [.int v4, .int v5]) (st := [.int ((24 * v4) + v5), .ref 202]) (zX11_isFree y6) dX11_findNeeded_292 gi_168 rfl okX11_findNeeded_413 (Nat.le_of_ble_eq_true rfl) ?_
      refine g_if_ne (t := 302) dX11_findNeeded_295 (by decide) (fun c7 => ?_) (fun c7 => ?_)
      · replace h := if_f h c7
        refine g_iconst (v := 0) dX11_findNeeded_302 (by decide) ?_
        exact pX11_findNeeded_303 hk247 (fun v4 v5 σ h => ih v4 v5 σ h) h
      · replace h := if_t h c7
        exact pX11_findNeeded_298 hk247 (fun v4 v5 σ h => ih v4 v5 σ h) h
def fX11_findNeeded_247 : Nat → Int32 → gS → Option (Unit × gS)
  | 0, _, _ => none
  | n + 1, v4, σ => if (σ.1 168 0) ≤ v4 then
    some ((), σ)
  else
    fX11_findNeeded_259 (fun v4 σ => fX11_findNeeded_247 n v4 σ) 2000 v4 0 σ
set_option maxHeartbeats 4000000 in
set_option maxRecDepth 100000 in
theorem pX11_findNeeded_247 {E : gE} {r : Unit} {σ' : gS} : ∀ (n : Nat) (v4 : Int32) (σ : gS), fX11_findNeeded_247 n v4 σ = some (r, σ') → gG E mX11_findNeeded 247 [(0, .ref 168), (4, .int v4)] [] σ (none) σ' := by
  intro n
  induction n with
  | zero => intro v4 σ h; exact absurd (show none = some (r, σ') from h) (by intro q; cases q)
  | succ n ih =>
  intro v4 σ h
  unfold fX11_findNeeded_247 at h
  refine g_iload dX11_findNeeded_247 1 rfl ?_
  refine g_aload_n dX11_findNeeded_249 rfl 0 rfl ?_
  refine g_getI dX11_findNeeded_250 gi_168 rfl fl_RX11_374 ?_
  refine g_icmp_ge (t := 316) dX11_findNeeded_253 (by decide) (fun c1 => ?_) (fun c1 => ?_)
  · replace h := if_t h c1
    obtain ⟨rfl, rfl⟩ := so_inj h
    exact g_vret dX11_findNeeded_316 rfl
  · replace h := if_f h c1
    refine g_iconst (v := 0) dX11_findNeeded_256 (by decide) ?_
    refine g_istore (lv' := [(5, .int 0), (0, .ref 168), (4, .int v4)]) dX11_findNeeded_257 (Nat.le_of_ble_eq_true rfl) rfl ?_
    refine g_sub [1, 2, 0] rfl ?_
    exact pX11_findNeeded_259 (fun v4 σ h => ih v4 σ h) 2000 v4 0 σ h
def fX11_findNeeded_108 : Nat → Int32 → Int32 → gS → Option (Unit × gS)
  | 0, _, _, _ => none
  | n + 1, v3, v4, σ => if v3 ≤ v4 then
    fX11_findNeeded_247 2000 0 σ
  else
    if v4 < (σ.1 168 52) then
      fX11_findNeeded_169 (fun v3 v4 σ => fX11_findNeeded_108 n v3 v4 σ) v3 v4 σ
    else
      bnd (v4 - (σ.1 168 52)) fun x3 =>
      gg (¬ (x3 < 0 ∨ 60 ≤ x3.toNatClampNeg)) (
      gg (¬ (v4 < 0 ∨ 106 ≤ v4.toNatClampNeg)) (
      bnd (gsI σ 198 v4.toNatClampNeg (σ.1 176 x3.toNatClampNeg)) fun σ6 =>
      bnd (v4 - (σ6.1 168 52)) fun x7 =>
      gg (¬ (x7 < 0 ∨ 60 ≤ x7.toNatClampNeg)) (
      gg (¬ (v4 < 0 ∨ 106 ≤ v4.toNatClampNeg)) (
      bnd (gsI σ6 199 v4.toNatClampNeg (σ6.1 177 x7.toNatClampNeg)) fun σ10 =>
      gg (¬ (v4 < 0 ∨ 106 ≤ v4.toNatClampNeg)) (
      bnd (gsI σ10 200 v4.toNatClampNeg (-1)) fun σ12 =>
      fX11_findNeeded_169 (fun v3 v4 σ => fX11_findNeeded_108 n v3 v4 σ) v3 v4 σ12)))))
set_option maxHeartbeats 4000000 in
set_option maxRecDepth 100000 in
theorem pX11_findNeeded_108 {E : gE} {r : Unit} {σ' : gS} : ∀ (n : Nat) (v3 : Int32) (v4 : Int32) (σ : gS), fX11_findNeeded_108 n v3 v4 σ = some (r, σ') → gG E mX11_findNeeded 108 [(0, .ref 168), (3, .int v3), (4, .int v4)] [] σ (none) σ' := by
  intro n
  induction n with
  | zero => intro v3 v4 σ h; exact absurd (show none = some (r, σ') from h) (by intro q; cases q)
  | succ n ih =>
  intro v3 v4 σ h
  unfold fX11_findNeeded_108 at h
  refine g_iload dX11_findNeeded_108 2 rfl ?_
  refine g_iload_n dX11_findNeeded_110 rfl 1 rfl ?_
  refine g_icmp_ge (t := 244) dX11_findNeeded_111 (by decide) (fun c1 => ?_) (fun c1 => ?_)
  · replace h := if_t h c1
    refine g_iconst (v := 0) dX11_findNeeded_244 (by decide) ?_
    refine g_istore (lv' := [(4, .int 0), (0, .ref 168), (3, .int v3)]) dX11_findNeeded_245 (Nat.le_of_ble_eq_true rfl) rfl ?_
    refine g_sub [1, 0] rfl ?_
    exact pX11_findNeeded_247 2000 0 σ h
  · replace h := if_f h c1
    refine g_iload dX11_findNeeded_114 2 rfl ?_
    refine g_aload_n dX11_findNeeded_116 rfl 0 rfl ?_
    refine g_getI dX11_findNeeded_117 gi_168 rfl fl_RX11_407 ?_
    refine g_icmp_lt (t := 169) dX11_findNeeded_120 (by decide) (fun c2 => ?_) (fun c2 => ?_)
    · replace h := if_t h c2
      exact pX11_findNeeded_169 (fun v3 v4 σ h => ih v3 v4 σ h) h
    · replace h := if_f h c2
      refine g_aload_n dX11_findNeeded_123 rfl 0 rfl ?_
      refine g_getC (n := 198) dX11_findNeeded_124 gi_168 rfl fl_RX11_110 ?_
      refine g_iload dX11_findNeeded_127 2 rfl ?_
      refine g_aload_n dX11_findNeeded_129 rfl 0 rfl ?_
      refine g_getC (n := 176) dX11_findNeeded_130 gi_168 rfl fl_RX11_33 ?_
      refine g_iload dX11_findNeeded_133 2 rfl ?_
      refine g_aload_n dX11_findNeeded_135 rfl 0 rfl ?_
      refine g_getI dX11_findNeeded_136 gi_168 rfl fl_RX11_407 ?_
      refine g_isub dX11_findNeeded_139 ?_
      obtain ⟨x3, ex3, h⟩ := bnd_nm h
      refine g_topi ex3 ?_
      obtain ⟨g4, h⟩ := gg_some h
      refine g_iald dX11_findNeeded_140 gi_176 g4 ?_
      obtain ⟨g5, h⟩ := gg_some h
      obtain ⟨σ6, eσ6, h⟩ := bnd_nm h
      refine g_iast dX11_findNeeded_141 gi_198 g5 (g_st eσ6 ?_)
      refine g_aload_n dX11_findNeeded_142 rfl 0 rfl ?_
      refine g_getC (n := 199) dX11_findNeeded_143 gi_168 rfl fl_RX11_113 ?_
      refine g_iload dX11_findNeeded_146 2 rfl ?_
      refine g_aload_n dX11_findNeeded_148 rfl 0 rfl ?_
      refine g_getC (n := 177) dX11_findNeeded_149 gi_168 rfl fl_RX11_36 ?_
      refine g_iload dX11_findNeeded_152 2 rfl ?_
      refine g_aload_n dX11_findNeeded_154 rfl 0 rfl ?_
      refine g_getI dX11_findNeeded_155 gi_168 rfl fl_RX11_407 ?_
      refine g_isub dX11_findNeeded_158 ?_
      obtain ⟨x7, ex7, h⟩ := bnd_nm h
      refine g_topi ex7 ?_
      obtain ⟨g8, h⟩ := gg_some h
      refine g_iald dX11_findNeeded_159 gi_177 g8 ?_
      obtain ⟨g9, h⟩ := gg_some h
      obtain ⟨σ10, eσ10, h⟩ := bnd_nm h
      refine g_iast dX11_findNeeded_160 gi_199 g9 (g_st eσ10 ?_)
      refine g_aload_n dX11_findNeeded_161 rfl 0 rfl ?_
      refine g_getC (n := 200) dX11_findNeeded_162 gi_168 rfl fl_RX11_116 ?_
      refine g_iload dX11_findNeeded_165 2 rfl ?_
      refine g_iconst (v := (-1)) dX11_findNeeded_167 (by decide) ?_
      obtain ⟨g11, h⟩ := gg_some h
      obtain ⟨σ12, eσ12, h⟩ := bnd_nm h
      refine g_iast dX11_findNeeded_168 gi_200 g11 (g_st eσ12 ?_)
      exact pX11_findNeeded_169 (fun v3 v4 σ h => ih v3 v4 σ h) h
def fX11_findNeeded_11 : Nat → Int32 → Int32 → Int32 → gS → Option (Unit × gS)
  | 0, _, _, _, _ => none
  | n + 1, v1, v2, v3, σ => if (σ.1 168 0) ≤ v3 then
    bnd (gsI σ 168 52 (σ.1 168 53)) fun σ2 =>
    bnd ((σ2.1 168 52) + (σ2.1 168 9)) fun x3 =>
    bnd (gsI σ2 168 57 0) fun σ4 =>
    bnd (gsI σ4 168 53 0) fun σ5 =>
    fX11_findNeeded_108 2000 x3 0 σ5
  else
    gg (¬ (v3 < 0 ∨ 24 ≤ v3.toNatClampNeg)) (
    bnd (gsI σ 201 v3.toNatClampNeg 0) fun σ7 =>
    gg (¬ (v3 < 0 ∨ 24 ≤ v3.toNatClampNeg)) (
    if (σ7.1 172 v3.toNatClampNeg) = 0 then
      fX11_findNeeded_71 (fun v1 v2 v3 σ => fX11_findNeeded_11 n v1 v2 v3 σ) v1 v2 v3 σ7
    else
      if 0 ≤ v1 then
        if 0 ≤ v2 then
          bd (fX11_addItem v3 v1 σ7) fun _ σ12 =>
          bd (fX11_addItem v3 v2 σ12) fun _ σ14 =>
          fX11_findNeeded_71 (fun v1 v2 v3 σ => fX11_findNeeded_11 n v1 v2 v3 σ) v1 v2 v3 σ14
        else
          bd (fX11_addItem v1 v3 σ7) fun _ σ16 =>
          fX11_findNeeded_71 (fun v1 v2 v3 σ => fX11_findNeeded_11 n v1 v2 v3 σ) v1 v3 v3 σ16
      else
        fX11_findNeeded_71 (fun v1 v2 v3 σ => fX11_findNeeded_11 n v1 v2 v3 σ) v3 v2 v3 σ7))
set_option maxHeartbeats 4000000 in
set_option maxRecDepth 100000 in
theorem pX11_findNeeded_11 {E : gE} {r : Unit} {σ' : gS} : ∀ (n : Nat) (v1 : Int32) (v2 : Int32) (v3 : Int32) (σ : gS), fX11_findNeeded_11 n v1 v2 v3 σ = some (r, σ') → gG E mX11_findNeeded 11 [(0, .ref 168), (1, .int v1), (2, .int v2), (3, .int v3)] [] σ (none) σ' := by
  intro n
  induction n with
  | zero => intro v1 v2 v3 σ h; exact absurd (show none = some (r, σ') from h) (by intro q; cases q)
  | succ n ih =>
  intro v1 v2 v3 σ h
  unfold fX11_findNeeded_11 at h
  refine g_iload_n dX11_findNeeded_11 rfl 3 rfl ?_
  refine g_aload_n dX11_findNeeded_12 rfl 0 rfl ?_
  refine g_getI dX11_findNeeded_13 gi_168 rfl fl_RX11_374 ?_
  refine g_icmp_ge (t := 77) dX11_findNeeded_16 (by decide) (fun c1 => ?_) (fun c1 => ?_)
  · replace h := if_t h c1
    refine g_aload_n dX11_findNeeded_77 rfl 0 rfl ?_
    refine g_aload_n dX11_findNeeded_78 rfl 0 rfl ?_
    refine g_getI dX11_findNeeded_79 gi_168 rfl fl_RX11_398 ?_
    obtain ⟨σ2, eσ2, h⟩ := bnd_nm h
    refine g_putI dX11_findNeeded_82 gi_168 rfl fp_RX11_407 (g_st eσ2 ?_)
    refine g_aload_n dX11_findNeeded_85 rfl 0 rfl ?_
    refine g_getI dX11_findNeeded_86 gi_168 rfl fl_RX11_407 ?_
    refine g_aload_n dX11_findNeeded_89 rfl 0 rfl ?_
    refine g_getI dX11_findNeeded_90 gi_168 rfl fl_RX11_380 ?_
    refine g_iadd dX11_findNeeded_93 ?_
    obtain ⟨x3, ex3, h⟩ := bnd_nm h
    refine g_topi ex3 ?_
    refine g_istore_n (lv' := [(3, .int x3), (0, .ref 168), (1, .int v1), (2, .int v2)]) dX11_findNeeded_94 rfl (Nat.le_of_ble_eq_true rfl) rfl ?_
    refine g_aload_n dX11_findNeeded_95 rfl 1 rfl ?_
    refine g_iconst (v := 0) dX11_findNeeded_96 (by decide) ?_
    obtain ⟨σ4, eσ4, h⟩ := bnd_nm h
    refine g_putI dX11_findNeeded_97 gi_168 rfl fp_RX11_410 (g_st eσ4 ?_)
    refine g_aload_n dX11_findNeeded_100 rfl 1 rfl ?_
    refine g_iconst (v := 0) dX11_findNeeded_101 (by decide) ?_
    obtain ⟨σ5, eσ5, h⟩ := bnd_nm h
    refine g_putI dX11_findNeeded_102 gi_168 rfl fp_RX11_398 (g_st eσ5 ?_)
    refine g_iconst (v := 0) dX11_findNeeded_105 (by decide) ?_
    refine g_istore (lv' := [(4, .int 0), (3, .int x3), (0, .ref 168), (1, .int v1), (2, .int v2)]) dX11_findNeeded_106 (Nat.le_of_ble_eq_true rfl) rfl ?_
    refine g_sub [2, 1, 0] rfl ?_
    exact pX11_findNeeded_108 2000 x3 0 σ5 h
  · replace h := if_f h c1
    refine g_aload_n dX11_findNeeded_19 rfl 0 rfl ?_
    refine g_getC (n := 201) dX11_findNeeded_20 gi_168 rfl fl_RX11_119 ?_
    refine g_iload_n dX11_findNeeded_23 rfl 3 rfl ?_
    refine g_iconst (v := 0) dX11_findNeeded_24 (by decide) ?_
    obtain ⟨g6, h⟩ := gg_some h
    obtain ⟨σ7, eσ7, h⟩ := bnd_nm h
    refine g_iast dX11_findNeeded_25 gi_201 g6 (g_st eσ7 ?_)
    refine g_aload_n dX11_findNeeded_26 rfl 0 rfl ?_
    refine g_getC (n := 172) dX11_findNeeded_27 gi_168 rfl fl_RX11_20 ?_
    refine g_iload_n dX11_findNeeded_30 rfl 3 rfl ?_
    obtain ⟨g8, h⟩ := gg_some h
    refine g_zald dX11_findNeeded_31 gi_172 g8 ?_
    refine g_if_eq (t := 71) dX11_findNeeded_32 (by decide) (fun c9 => ?_) (fun c9 => ?_)
    · replace h := if_t h c9
      exact pX11_findNeeded_71 (fun v1 v2 v3 σ h => ih v1 v2 v3 σ h) h
    · replace h := if_f h c9
      refine g_iload_n dX11_findNeeded_35 rfl 1 rfl ?_
      refine g_if_ge (t := 44) dX11_findNeeded_36 (by decide) (fun c10 => ?_) (fun c10 => ?_)
      · replace h := if_t h c10
        refine g_iload_n dX11_findNeeded_44 rfl 2 rfl ?_
        refine g_if_ge (t := 59) dX11_findNeeded_45 (by decide) (fun c11 => ?_) (fun c11 => ?_)
        · replace h := if_t h c11
          refine g_aload_n dX11_findNeeded_59 rfl 0 rfl ?_
          refine g_iload_n dX11_findNeeded_60 rfl 3 rfl ?_
          refine g_iload_n dX11_findNeeded_61 rfl 1 rfl ?_
          obtain ⟨_, σ12, y13, h⟩ := bd_some h
          refine g_callVv (as := [.int v3, .int v1]) (st := []) (zX11_addItem y13) dX11_findNeeded_62 gi_168 rfl okX11_findNeeded_404 (Nat.le_of_ble_eq_true rfl) ?_
          refine g_aload_n dX11_findNeeded_65 rfl 0 rfl ?_
          refine g_iload_n dX11_findNeeded_66 rfl 3 rfl ?_
          refine g_iload_n dX11_findNeeded_67 rfl 2 rfl ?_
          obtain ⟨_, σ14, y15, h⟩ := bd_some h
          refine g_callVv (as := [.int v3, .int v2]) (st := []) (zX11_addItem y15) dX11_findNeeded_68 gi_168 rfl okX11_findNeeded_404 (Nat.le_of_ble_eq_true rfl) ?_
          exact pX11_findNeeded_71 (fun v1 v2 v3 σ h => ih v1 v2 v3 σ h) h
        · replace h := if_f h c11
          refine g_iload_n dX11_findNeeded_48 rfl 3 rfl ?_
          refine g_istore_n (lv' := [(2, .int v3), (0, .ref 168), (1, .int v1), (3, .int v3)]) dX11_findNeeded_49 rfl (Nat.le_of_ble_eq_true rfl) rfl ?_
          refine g_aload_n dX11_findNeeded_50 rfl 1 rfl ?_
          refine g_iload_n dX11_findNeeded_51 rfl 2 rfl ?_
          refine g_iload_n dX11_findNeeded_52 rfl 3 rfl ?_
          obtain ⟨_, σ16, y17, h⟩ := bd_some h
          refine g_callVv (as := [.int v1, .int v3]) (st := []) (zX11_addItem y17) dX11_findNeeded_53 gi_168 rfl okX11_findNeeded_404 (Nat.le_of_ble_eq_true rfl) ?_
          refine g_goto (t := 71) dX11_findNeeded_56 (by decide) ?_
          refine g_sub [1, 2, 0, 3] rfl ?_
          exact pX11_findNeeded_71 (fun v1 v2 v3 σ h => ih v1 v2 v3 σ h) h
      · replace h := if_f h c10
        refine g_iload_n dX11_findNeeded_39 rfl 3 rfl ?_
        refine g_istore_n (lv' := [(1, .int v3), (0, .ref 168), (2, .int v2), (3, .int v3)]) dX11_findNeeded_40 rfl (Nat.le_of_ble_eq_true rfl) rfl ?_
        refine g_goto (t := 71) dX11_findNeeded_41 (by decide) ?_
        refine g_sub [1, 0, 2, 3] rfl ?_
        exact pX11_findNeeded_71 (fun v1 v2 v3 σ h => ih v1 v2 v3 σ h) h
def fX11_findNeeded (σ : gS) : Option (Unit × gS) :=
  bnd (gsI σ 168 53 0) fun σ1 =>
  fX11_findNeeded_11 2000 (-1) (-1) 0 σ1
set_option maxHeartbeats 4000000 in
set_option maxRecDepth 100000 in
theorem pX11_findNeeded {E : gE} {r : Unit} {σ' : gS} {σ : gS} (h : fX11_findNeeded σ = some (r, σ')) : gG E mX11_findNeeded 0 [(0, .ref 168)] [] σ (none) σ' := by
  unfold fX11_findNeeded at h
  refine g_aload_n dX11_findNeeded_0 rfl 0 rfl ?_
  refine g_iconst (v := 0) dX11_findNeeded_1 (by decide) ?_
  obtain ⟨σ1, eσ1, h⟩ := bnd_nm h
  refine g_putI dX11_findNeeded_2 gi_168 rfl fp_RX11_398 (g_st eσ1 ?_)
  refine g_iconst (v := (-1)) dX11_findNeeded_5 (by decide) ?_
  refine g_istore_n (lv' := [(1, .int (-1)), (0, .ref 168)]) dX11_findNeeded_6 rfl (Nat.le_of_ble_eq_true rfl) rfl ?_
  refine g_iconst (v := (-1)) dX11_findNeeded_7 (by decide) ?_
  refine g_istore_n (lv' := [(2, .int (-1)), (1, .int (-1)), (0, .ref 168)]) dX11_findNeeded_8 rfl (Nat.le_of_ble_eq_true rfl) rfl ?_
  refine g_iconst (v := 0) dX11_findNeeded_9 (by decide) ?_
  refine g_istore_n (lv' := [(3, .int 0), (2, .int (-1)), (1, .int (-1)), (0, .ref 168)]) dX11_findNeeded_10 rfl (Nat.le_of_ble_eq_true rfl) rfl ?_
  refine g_sub [3, 2, 1, 0] rfl ?_
  exact pX11_findNeeded_11 2000 (-1) (-1) 0 σ1 h
theorem zX11_findNeeded {E : gE} {r : Unit} {σ σ' : gS} (h : fX11_findNeeded σ = some (r, σ')) : gC E mX11_findNeeded [.ref 168] σ (none) σ' :=
  gC_of (by decide +kernel) rfl (Nat.le_of_ble_eq_true rfl) (pX11_findNeeded h)
theorem fp_RX11_453 : gFp RX11 453 11 76 .int := ⟨RX11, TX11, 101, rfl, by decide, ux_11, Or.inl (gm 1304 (by decide +kernel) rfl), rfl, by decide +kernel, ⟨tyX11, tyX11_ok⟩, nmX11⟩
theorem fp_RX11_456 : gFp RX11 456 11 77 .int := ⟨RX11, TX11, 101, rfl, by decide, ux_11, Or.inl (gm 1305 (by decide +kernel) rfl), rfl, by decide +kernel, ⟨tyX11, tyX11_ok⟩, nmX11⟩
theorem fl_RX11_158 : gFl RX11 158 11 74 := ⟨RX11, TX11, 101, rfl, by decide, ux_11, Or.inl (gm 1302 (by decide +kernel) rfl)⟩
theorem fl_RX11_453 : gFl RX11 453 11 76 := ⟨RX11, TX11, 101, rfl, by decide, ux_11, Or.inl (gm 1304 (by decide +kernel) rfl)⟩
def mX11_hasTwo : gM := (yX11_hasTwo, cX11_hasTwo, RX11, 5, (some .boolean), 0, 0)
theorem dX11_hasTwo_0 : decode mX11_hasTwo.2.1 0 = .ok (.iconst 0, 1) := by decide +kernel
theorem dX11_hasTwo_1 : decode mX11_hasTwo.2.1 1 = .ok (.istore_n 2, 1) := by decide +kernel
theorem dX11_hasTwo_2 : decode mX11_hasTwo.2.1 2 = .ok (.iconst 0, 1) := by decide +kernel
theorem dX11_hasTwo_3 : decode mX11_hasTwo.2.1 3 = .ok (.istore_n 3, 1) := by decide +kernel
theorem dX11_hasTwo_4 : decode mX11_hasTwo.2.1 4 = .ok (.iload_n 3, 1) := by decide +kernel
theorem dX11_hasTwo_5 : decode mX11_hasTwo.2.1 5 = .ok (.aload_n 0, 1) := by decide +kernel
theorem dX11_hasTwo_6 : decode mX11_hasTwo.2.1 6 = .ok (.getfield 380, 3) := by decide +kernel
theorem dX11_hasTwo_9 : decode mX11_hasTwo.2.1 9 = .ok (.if_icmp .ge 96, 3) := by decide +kernel
theorem dX11_hasTwo_12 : decode mX11_hasTwo.2.1 12 = .ok (.iload_n 2, 1) := by decide +kernel
theorem dX11_hasTwo_13 : decode mX11_hasTwo.2.1 13 = .ok (.iconst 2, 1) := by decide +kernel
theorem dX11_hasTwo_14 : decode mX11_hasTwo.2.1 14 = .ok (.if_icmp .ge 91, 3) := by decide +kernel
theorem dX11_hasTwo_17 : decode mX11_hasTwo.2.1 17 = .ok (.aload_n 0, 1) := by decide +kernel
theorem dX11_hasTwo_18 : decode mX11_hasTwo.2.1 18 = .ok (.getfield 33, 3) := by decide +kernel
theorem dX11_hasTwo_21 : decode mX11_hasTwo.2.1 21 = .ok (.iload_n 3, 1) := by decide +kernel
theorem dX11_hasTwo_22 : decode mX11_hasTwo.2.1 22 = .ok (.iaload, 1) := by decide +kernel
theorem dX11_hasTwo_23 : decode mX11_hasTwo.2.1 23 = .ok (.iload_n 1, 1) := by decide +kernel
theorem dX11_hasTwo_24 : decode mX11_hasTwo.2.1 24 = .ok (.if_icmp .ne 12, 3) := by decide +kernel
theorem dX11_hasTwo_27 : decode mX11_hasTwo.2.1 27 = .ok (.aload_n 0, 1) := by decide +kernel
theorem dX11_hasTwo_28 : decode mX11_hasTwo.2.1 28 = .ok (.getfield 36, 3) := by decide +kernel
theorem dX11_hasTwo_31 : decode mX11_hasTwo.2.1 31 = .ok (.iload_n 3, 1) := by decide +kernel
theorem dX11_hasTwo_32 : decode mX11_hasTwo.2.1 32 = .ok (.iaload, 1) := by decide +kernel
theorem dX11_hasTwo_33 : decode mX11_hasTwo.2.1 33 = .ok (.goto 23, 3) := by decide +kernel
theorem dX11_hasTwo_36 : decode mX11_hasTwo.2.1 36 = .ok (.aload_n 0, 1) := by decide +kernel
theorem dX11_hasTwo_37 : decode mX11_hasTwo.2.1 37 = .ok (.getfield 36, 3) := by decide +kernel
theorem dX11_hasTwo_40 : decode mX11_hasTwo.2.1 40 = .ok (.iload_n 3, 1) := by decide +kernel
theorem dX11_hasTwo_41 : decode mX11_hasTwo.2.1 41 = .ok (.iaload, 1) := by decide +kernel
theorem dX11_hasTwo_42 : decode mX11_hasTwo.2.1 42 = .ok (.iload_n 1, 1) := by decide +kernel
theorem dX11_hasTwo_43 : decode mX11_hasTwo.2.1 43 = .ok (.if_icmp .ne 12, 3) := by decide +kernel
theorem dX11_hasTwo_46 : decode mX11_hasTwo.2.1 46 = .ok (.aload_n 0, 1) := by decide +kernel
theorem dX11_hasTwo_47 : decode mX11_hasTwo.2.1 47 = .ok (.getfield 33, 3) := by decide +kernel
theorem dX11_hasTwo_50 : decode mX11_hasTwo.2.1 50 = .ok (.iload_n 3, 1) := by decide +kernel
theorem dX11_hasTwo_51 : decode mX11_hasTwo.2.1 51 = .ok (.iaload, 1) := by decide +kernel
theorem dX11_hasTwo_52 : decode mX11_hasTwo.2.1 52 = .ok (.goto 4, 3) := by decide +kernel
theorem dX11_hasTwo_55 : decode mX11_hasTwo.2.1 55 = .ok (.iconst (-1), 1) := by decide +kernel
theorem dX11_hasTwo_56 : decode mX11_hasTwo.2.1 56 = .ok (.istore 4, 2) := by decide +kernel
theorem dX11_hasTwo_58 : decode mX11_hasTwo.2.1 58 = .ok (.iload 4, 2) := by decide +kernel
theorem dX11_hasTwo_60 : decode mX11_hasTwo.2.1 60 = .ok (.ifCond .lt 39, 3) := by decide +kernel
theorem dX11_hasTwo_63 : decode mX11_hasTwo.2.1 63 = .ok (.aload_n 0, 1) := by decide +kernel
theorem dX11_hasTwo_64 : decode mX11_hasTwo.2.1 64 = .ok (.getfield 158, 3) := by decide +kernel
theorem dX11_hasTwo_67 : decode mX11_hasTwo.2.1 67 = .ok (.iload 4, 2) := by decide +kernel
theorem dX11_hasTwo_69 : decode mX11_hasTwo.2.1 69 = .ok (.baload, 1) := by decide +kernel
theorem dX11_hasTwo_70 : decode mX11_hasTwo.2.1 70 = .ok (.ifCond .eq 29, 3) := by decide +kernel
theorem dX11_hasTwo_73 : decode mX11_hasTwo.2.1 73 = .ok (.aload_n 0, 1) := by decide +kernel
theorem dX11_hasTwo_74 : decode mX11_hasTwo.2.1 74 = .ok (.iload_n 2, 1) := by decide +kernel
theorem dX11_hasTwo_75 : decode mX11_hasTwo.2.1 75 = .ok (.ifCond .ne 8, 3) := by decide +kernel
theorem dX11_hasTwo_78 : decode mX11_hasTwo.2.1 78 = .ok (.iload 4, 2) := by decide +kernel
theorem dX11_hasTwo_80 : decode mX11_hasTwo.2.1 80 = .ok (.goto 7, 3) := by decide +kernel
theorem dX11_hasTwo_83 : decode mX11_hasTwo.2.1 83 = .ok (.aload_n 0, 1) := by decide +kernel
theorem dX11_hasTwo_84 : decode mX11_hasTwo.2.1 84 = .ok (.getfield 453, 3) := by decide +kernel
theorem dX11_hasTwo_87 : decode mX11_hasTwo.2.1 87 = .ok (.putfield 453, 3) := by decide +kernel
theorem dX11_hasTwo_90 : decode mX11_hasTwo.2.1 90 = .ok (.aload_n 0, 1) := by decide +kernel
theorem dX11_hasTwo_91 : decode mX11_hasTwo.2.1 91 = .ok (.iload 4, 2) := by decide +kernel
theorem dX11_hasTwo_93 : decode mX11_hasTwo.2.1 93 = .ok (.putfield 456, 3) := by decide +kernel
theorem dX11_hasTwo_96 : decode mX11_hasTwo.2.1 96 = .ok (.iinc 2 1, 3) := by decide +kernel
theorem dX11_hasTwo_99 : decode mX11_hasTwo.2.1 99 = .ok (.iinc 3 1, 3) := by decide +kernel
theorem dX11_hasTwo_102 : decode mX11_hasTwo.2.1 102 = .ok (.goto (-98), 3) := by decide +kernel
theorem dX11_hasTwo_105 : decode mX11_hasTwo.2.1 105 = .ok (.iload_n 2, 1) := by decide +kernel
theorem dX11_hasTwo_106 : decode mX11_hasTwo.2.1 106 = .ok (.iconst 2, 1) := by decide +kernel
theorem dX11_hasTwo_107 : decode mX11_hasTwo.2.1 107 = .ok (.if_icmp .ne 7, 3) := by decide +kernel
theorem dX11_hasTwo_110 : decode mX11_hasTwo.2.1 110 = .ok (.iconst 1, 1) := by decide +kernel
theorem dX11_hasTwo_111 : decode mX11_hasTwo.2.1 111 = .ok (.goto 4, 3) := by decide +kernel
theorem dX11_hasTwo_114 : decode mX11_hasTwo.2.1 114 = .ok (.iconst 0, 1) := by decide +kernel
theorem dX11_hasTwo_115 : decode mX11_hasTwo.2.1 115 = .ok (.ireturn, 1) := by decide +kernel
def fX11_hasTwo_99 (p1 : Int32) (k4 : Int32 → Int32 → gS → Option (Int32 × gS)) (v2 : Int32) (v3 : Int32) (σ : gS) : Option (Int32 × gS) :=
  bnd (v3 + 1) fun x1 =>
  k4 v2 x1 σ
set_option maxHeartbeats 4000000 in
set_option maxRecDepth 100000 in
theorem pX11_hasTwo_99 {E : gE} {p1 : Int32} {k4 : Int32 → Int32 → gS → Option (Int32 × gS)} {r : Int32} {σ' : gS} {v2 : Int32} {v3 : Int32} {σ : gS} (hk4 : ∀ (v2 : Int32) (v3 : Int32) (σ : gS), k4 v2 v3 σ = some (r, σ') → gG E mX11_hasTwo 4 [(0, .ref 168), (1, .int p1), (2, .int v2), (3, .int v3)] [] σ (some (.int r)) σ') (h : fX11_hasTwo_99 p1 k4 v2 v3 σ = some (r, σ')) : gG E mX11_hasTwo 99 [(0, .ref 168), (1, .int p1), (2, .int v2), (3, .int v3)] [] σ (some (.int r)) σ' := by
  unfold fX11_hasTwo_99 at h
  obtain ⟨x1, ex1, h⟩ := bnd_nm h
  refine g_iinc (j := 3) (v := x1) (lv' := [(3, .int x1), (0, .ref 168), (1, .int p1), (2, .int v2)]) dX11_hasTwo_99 rfl (by rw [ex1]; rfl) (Nat.le_of_ble_eq_true rfl) rfl ?_
  refine g_goto (t := 4) dX11_hasTwo_102 (by decide) ?_
  refine g_sub [1, 2, 3, 0] rfl ?_
  exact hk4 v2 x1 σ h
def fX11_hasTwo_87 (p1 : Int32) (k4 : Int32 → Int32 → gS → Option (Int32 × gS)) (v2 : Int32) (v3 : Int32) (v4 : Int32) (s1 : Int32) (σ : gS) : Option (Int32 × gS) :=
  bnd (gsI σ 168 76 s1) fun σ1 =>
  bnd (gsI σ1 168 77 v4) fun σ2 =>
  bnd (v2 + 1) fun x3 =>
  fX11_hasTwo_99 p1 k4 x3 v3 σ2
set_option maxHeartbeats 4000000 in
set_option maxRecDepth 100000 in
theorem pX11_hasTwo_87 {E : gE} {p1 : Int32} {k4 : Int32 → Int32 → gS → Option (Int32 × gS)} {r : Int32} {σ' : gS} {v2 : Int32} {v3 : Int32} {v4 : Int32} {s1 : Int32} {σ : gS} (hk4 : ∀ (v2 : Int32) (v3 : Int32) (σ : gS), k4 v2 v3 σ = some (r, σ') → gG E mX11_hasTwo 4 [(0, .ref 168), (1, .int p1), (2, .int v2), (3, .int v3)] [] σ (some (.int r)) σ') (h : fX11_hasTwo_87 p1 k4 v2 v3 v4 s1 σ = some (r, σ')) : gG E mX11_hasTwo 87 [(0, .ref 168), (1, .int p1), (2, .int v2), (3, .int v3), (4, .int v4)] [.int s1, .ref 168] σ (some (.int r)) σ' := by
  unfold fX11_hasTwo_87 at h
  obtain ⟨σ1, eσ1, h⟩ := bnd_nm h
  refine g_putI dX11_hasTwo_87 gi_168 rfl fp_RX11_453 (g_st eσ1 ?_)
  refine g_aload_n dX11_hasTwo_90 rfl 0 rfl ?_
  refine g_iload dX11_hasTwo_91 4 rfl ?_
  obtain ⟨σ2, eσ2, h⟩ := bnd_nm h
  refine g_putI dX11_hasTwo_93 gi_168 rfl fp_RX11_456 (g_st eσ2 ?_)
  obtain ⟨x3, ex3, h⟩ := bnd_nm h
  refine g_iinc (j := 2) (v := x3) (lv' := [(2, .int x3), (0, .ref 168), (1, .int p1), (3, .int v3), (4, .int v4)]) dX11_hasTwo_96 rfl (by rw [ex3]; rfl) (Nat.le_of_ble_eq_true rfl) rfl ?_
  refine g_sub [1, 2, 0, 3] rfl ?_
  exact pX11_hasTwo_99 hk4 h
def fX11_hasTwo_56 (p1 : Int32) (k4 : Int32 → Int32 → gS → Option (Int32 × gS)) (v2 : Int32) (v3 : Int32) (s0 : Int32) (σ : gS) : Option (Int32 × gS) :=
  if s0 < 0 then
    fX11_hasTwo_99 p1 k4 v2 v3 σ
  else
    gg (¬ (s0 < 0 ∨ 24 ≤ s0.toNatClampNeg)) (
    if (σ.1 214 s0.toNatClampNeg) = 0 then
      fX11_hasTwo_99 p1 k4 v2 v3 σ
    else
      if v2 = 0 then
        fX11_hasTwo_87 p1 k4 v2 v3 s0 s0 σ
      else
        fX11_hasTwo_87 p1 k4 v2 v3 s0 (σ.1 168 76) σ)
set_option maxHeartbeats 4000000 in
set_option maxRecDepth 100000 in
theorem pX11_hasTwo_56 {E : gE} {p1 : Int32} {k4 : Int32 → Int32 → gS → Option (Int32 × gS)} {r : Int32} {σ' : gS} {v2 : Int32} {v3 : Int32} {s0 : Int32} {σ : gS} (hk4 : ∀ (v2 : Int32) (v3 : Int32) (σ : gS), k4 v2 v3 σ = some (r, σ') → gG E mX11_hasTwo 4 [(0, .ref 168), (1, .int p1), (2, .int v2), (3, .int v3)] [] σ (some (.int r)) σ') (h : fX11_hasTwo_56 p1 k4 v2 v3 s0 σ = some (r, σ')) : gG E mX11_hasTwo 56 [(0, .ref 168), (1, .int p1), (2, .int v2), (3, .int v3)] [.int s0] σ (some (.int r)) σ' := by
  unfold fX11_hasTwo_56 at h
  refine g_istore (lv' := [(4, .int s0), (0, .ref 168), (1, .int p1), (2, .int v2), (3, .int v3)]) dX11_hasTwo_56 (Nat.le_of_ble_eq_true rfl) rfl ?_
  refine g_iload dX11_hasTwo_58 0 rfl ?_
  refine g_if_lt (t := 99) dX11_hasTwo_60 (by decide) (fun c1 => ?_) (fun c1 => ?_)
  · replace h := if_t h c1
    refine g_sub [1, 2, 3, 4] rfl ?_
    exact pX11_hasTwo_99 hk4 h
  · replace h := if_f h c1
    refine g_aload_n dX11_hasTwo_63 rfl 1 rfl ?_
    refine g_getC (n := 214) dX11_hasTwo_64 gi_168 rfl fl_RX11_158 ?_
    refine g_iload dX11_hasTwo_67 0 rfl ?_
    obtain ⟨g2, h⟩ := gg_some h
    refine g_zald dX11_hasTwo_69 gi_214 g2 ?_
    refine g_if_eq (t := 99) dX11_hasTwo_70 (by decide) (fun c3 => ?_) (fun c3 => ?_)
    · replace h := if_t h c3
      refine g_sub [1, 2, 3, 4] rfl ?_
      exact pX11_hasTwo_99 hk4 h
    · replace h := if_f h c3
      refine g_aload_n dX11_hasTwo_73 rfl 1 rfl ?_
      refine g_iload_n dX11_hasTwo_74 rfl 3 rfl ?_
      refine g_if_ne (t := 83) dX11_hasTwo_75 (by decide) (fun c4 => ?_) (fun c4 => ?_)
      · replace h := if_f h c4
        refine g_aload_n dX11_hasTwo_83 rfl 1 rfl ?_
        refine g_getI dX11_hasTwo_84 gi_168 rfl fl_RX11_453 ?_
        refine g_sub [1, 2, 3, 4, 0] rfl ?_
        exact pX11_hasTwo_87 hk4 h
      · replace h := if_t h c4
        refine g_iload dX11_hasTwo_78 0 rfl ?_
        refine g_goto (t := 87) dX11_hasTwo_80 (by decide) ?_
        refine g_sub [1, 2, 3, 4, 0] rfl ?_
        exact pX11_hasTwo_87 hk4 h
def fX11_hasTwo_115 (p1 : Int32) (s0 : Int32) (σ : gS) : Option (Int32 × gS) :=
  gg (s0 = 0 ∨ s0 = 1) (
  some (s0, σ))
set_option maxHeartbeats 4000000 in
set_option maxRecDepth 100000 in
theorem pX11_hasTwo_115 {E : gE} {p1 : Int32} {r : Int32} {σ' : gS} {s0 : Int32} {σ : gS} (h : fX11_hasTwo_115 p1 s0 σ = some (r, σ')) : gG E mX11_hasTwo 115 [] [.int s0] σ (some (.int r)) σ' := by
  unfold fX11_hasTwo_115 at h
  obtain ⟨g1, h⟩ := gg_some h
  obtain ⟨rfl, rfl⟩ := so_inj h
  exact g_zret dX11_hasTwo_115 rfl g1
def fX11_hasTwo_105 (p1 : Int32) (v2 : Int32) (σ : gS) : Option (Int32 × gS) :=
  if v2 = 2 then
    fX11_hasTwo_115 p1 1 σ
  else
    fX11_hasTwo_115 p1 0 σ
set_option maxHeartbeats 4000000 in
set_option maxRecDepth 100000 in
theorem pX11_hasTwo_105 {E : gE} {p1 : Int32} {r : Int32} {σ' : gS} {v2 : Int32} {σ : gS} (h : fX11_hasTwo_105 p1 v2 σ = some (r, σ')) : gG E mX11_hasTwo 105 [(2, .int v2)] [] σ (some (.int r)) σ' := by
  unfold fX11_hasTwo_105 at h
  refine g_iload_n dX11_hasTwo_105 rfl 0 rfl ?_
  refine g_iconst (v := 2) dX11_hasTwo_106 (by decide) ?_
  refine g_icmp_ne (t := 114) dX11_hasTwo_107 (by decide) (fun c1 => ?_) (fun c1 => ?_)
  · replace h := if_f h c1
    refine g_iconst (v := 0) dX11_hasTwo_114 (by decide) ?_
    refine g_sub [] rfl ?_
    exact pX11_hasTwo_115 h
  · replace h := if_t h c1
    refine g_iconst (v := 1) dX11_hasTwo_110 (by decide) ?_
    refine g_goto (t := 115) dX11_hasTwo_111 (by decide) ?_
    refine g_sub [] rfl ?_
    exact pX11_hasTwo_115 h
def fX11_hasTwo_4 (p1 : Int32) : Nat → Int32 → Int32 → gS → Option (Int32 × gS)
  | 0, _, _, _ => none
  | n + 1, v2, v3, σ => if (σ.1 168 9) ≤ v3 then
    fX11_hasTwo_105 p1 v2 σ
  else
    if 2 ≤ v2 then
      fX11_hasTwo_105 p1 v2 σ
    else
      gg (¬ (v3 < 0 ∨ 60 ≤ v3.toNatClampNeg)) (
      if (σ.1 176 v3.toNatClampNeg) = p1 then
        gg (¬ (v3 < 0 ∨ 60 ≤ v3.toNatClampNeg)) (
        fX11_hasTwo_56 p1 (fun v2 v3 σ => fX11_hasTwo_4 p1 n v2 v3 σ) v2 v3 (σ.1 177 v3.toNatClampNeg) σ)
      else
        gg (¬ (v3 < 0 ∨ 60 ≤ v3.toNatClampNeg)) (
        if (σ.1 177 v3.toNatClampNeg) = p1 then
          gg (¬ (v3 < 0 ∨ 60 ≤ v3.toNatClampNeg)) (
          fX11_hasTwo_56 p1 (fun v2 v3 σ => fX11_hasTwo_4 p1 n v2 v3 σ) v2 v3 (σ.1 176 v3.toNatClampNeg) σ)
        else
          fX11_hasTwo_56 p1 (fun v2 v3 σ => fX11_hasTwo_4 p1 n v2 v3 σ) v2 v3 (-1) σ))
set_option maxHeartbeats 4000000 in
set_option maxRecDepth 100000 in
theorem pX11_hasTwo_4 {E : gE} {p1 : Int32} {r : Int32} {σ' : gS} : ∀ (n : Nat) (v2 : Int32) (v3 : Int32) (σ : gS), fX11_hasTwo_4 p1 n v2 v3 σ = some (r, σ') → gG E mX11_hasTwo 4 [(0, .ref 168), (1, .int p1), (2, .int v2), (3, .int v3)] [] σ (some (.int r)) σ' := by
  intro n
  induction n with
  | zero => intro v2 v3 σ h; exact absurd (show none = some (r, σ') from h) (by intro q; cases q)
  | succ n ih =>
  intro v2 v3 σ h
  unfold fX11_hasTwo_4 at h
  refine g_iload_n dX11_hasTwo_4 rfl 3 rfl ?_
  refine g_aload_n dX11_hasTwo_5 rfl 0 rfl ?_
  refine g_getI dX11_hasTwo_6 gi_168 rfl fl_RX11_380 ?_
  refine g_icmp_ge (t := 105) dX11_hasTwo_9 (by decide) (fun c1 => ?_) (fun c1 => ?_)
  · replace h := if_t h c1
    refine g_sub [2] rfl ?_
    exact pX11_hasTwo_105 h
  · replace h := if_f h c1
    refine g_iload_n dX11_hasTwo_12 rfl 2 rfl ?_
    refine g_iconst (v := 2) dX11_hasTwo_13 (by decide) ?_
    refine g_icmp_ge (t := 105) dX11_hasTwo_14 (by decide) (fun c2 => ?_) (fun c2 => ?_)
    · replace h := if_t h c2
      refine g_sub [2] rfl ?_
      exact pX11_hasTwo_105 h
    · replace h := if_f h c2
      refine g_aload_n dX11_hasTwo_17 rfl 0 rfl ?_
      refine g_getC (n := 176) dX11_hasTwo_18 gi_168 rfl fl_RX11_33 ?_
      refine g_iload_n dX11_hasTwo_21 rfl 3 rfl ?_
      obtain ⟨g3, h⟩ := gg_some h
      refine g_iald dX11_hasTwo_22 gi_176 g3 ?_
      refine g_iload_n dX11_hasTwo_23 rfl 1 rfl ?_
      refine g_icmp_ne (t := 36) dX11_hasTwo_24 (by decide) (fun c4 => ?_) (fun c4 => ?_)
      · replace h := if_f h c4
        refine g_aload_n dX11_hasTwo_36 rfl 0 rfl ?_
        refine g_getC (n := 177) dX11_hasTwo_37 gi_168 rfl fl_RX11_36 ?_
        refine g_iload_n dX11_hasTwo_40 rfl 3 rfl ?_
        obtain ⟨g5, h⟩ := gg_some h
        refine g_iald dX11_hasTwo_41 gi_177 g5 ?_
        refine g_iload_n dX11_hasTwo_42 rfl 1 rfl ?_
        refine g_icmp_ne (t := 55) dX11_hasTwo_43 (by decide) (fun c6 => ?_) (fun c6 => ?_)
        · replace h := if_f h c6
          refine g_iconst (v := (-1)) dX11_hasTwo_55 (by decide) ?_
          exact pX11_hasTwo_56 (fun v2 v3 σ h => ih v2 v3 σ h) h
        · replace h := if_t h c6
          refine g_aload_n dX11_hasTwo_46 rfl 0 rfl ?_
          refine g_getC (n := 176) dX11_hasTwo_47 gi_168 rfl fl_RX11_33 ?_
          refine g_iload_n dX11_hasTwo_50 rfl 3 rfl ?_
          obtain ⟨g7, h⟩ := gg_some h
          refine g_iald dX11_hasTwo_51 gi_176 g7 ?_
          refine g_goto (t := 56) dX11_hasTwo_52 (by decide) ?_
          exact pX11_hasTwo_56 (fun v2 v3 σ h => ih v2 v3 σ h) h
      · replace h := if_t h c4
        refine g_aload_n dX11_hasTwo_27 rfl 0 rfl ?_
        refine g_getC (n := 177) dX11_hasTwo_28 gi_168 rfl fl_RX11_36 ?_
        refine g_iload_n dX11_hasTwo_31 rfl 3 rfl ?_
        obtain ⟨g8, h⟩ := gg_some h
        refine g_iald dX11_hasTwo_32 gi_177 g8 ?_
        refine g_goto (t := 56) dX11_hasTwo_33 (by decide) ?_
        exact pX11_hasTwo_56 (fun v2 v3 σ h => ih v2 v3 σ h) h
def fX11_hasTwo (p1 : Int32) (σ : gS) : Option (Int32 × gS) :=
  fX11_hasTwo_4 p1 2000 0 0 σ
set_option maxHeartbeats 4000000 in
set_option maxRecDepth 100000 in
theorem pX11_hasTwo {E : gE} {p1 : Int32} {r : Int32} {σ' : gS} {σ : gS} (h : fX11_hasTwo p1 σ = some (r, σ')) : gG E mX11_hasTwo 0 [(0, .ref 168), (1, .int p1)] [] σ (some (.int r)) σ' := by
  unfold fX11_hasTwo at h
  refine g_iconst (v := 0) dX11_hasTwo_0 (by decide) ?_
  refine g_istore_n (lv' := [(2, .int 0), (0, .ref 168), (1, .int p1)]) dX11_hasTwo_1 rfl (Nat.le_of_ble_eq_true rfl) rfl ?_
  refine g_iconst (v := 0) dX11_hasTwo_2 (by decide) ?_
  refine g_istore_n (lv' := [(3, .int 0), (2, .int 0), (0, .ref 168), (1, .int p1)]) dX11_hasTwo_3 rfl (Nat.le_of_ble_eq_true rfl) rfl ?_
  refine g_sub [2, 3, 1, 0] rfl ?_
  exact pX11_hasTwo_4 2000 0 0 σ h
theorem zX11_hasTwo {E : gE} {p1 : Int32} {r : Int32} {σ σ' : gS} (h : fX11_hasTwo p1 σ = some (r, σ')) : gC E mX11_hasTwo [.ref 168, .int p1] σ (some (.int r)) σ' :=
  gC_of (by decide +kernel) rfl (Nat.le_of_ble_eq_true rfl) (pX11_hasTwo h)

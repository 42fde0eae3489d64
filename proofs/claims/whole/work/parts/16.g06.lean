theorem fl_RX10_215 : gFl RX10 215 2 1 := ⟨RX2, TX2, 6, rfl, by decide, ux_2, Or.inr ⟨"LinkageCurves", by decide +kernel⟩⟩
def mX10_trace : gM := (yX10_trace, cX10_trace, RX10, 2, (some .int), 5, 123)
theorem dX10_trace_0 : decode mX10_trace.2.1 0 = .ok (.aload_n 0, 1) := by decide +kernel
theorem dX10_trace_1 : decode mX10_trace.2.1 1 = .ok (.iconst 0, 1) := by decide +kernel
theorem dX10_trace_2 : decode mX10_trace.2.1 2 = .ok (.iload_n 1, 1) := by decide +kernel
theorem dX10_trace_3 : decode mX10_trace.2.1 3 = .ok (.invokevirtual 129, 3) := by decide +kernel
theorem dX10_trace_6 : decode mX10_trace.2.1 6 = .ok (.ifCond .ne 6, 3) := by decide +kernel
theorem dX10_trace_9 : decode mX10_trace.2.1 9 = .ok (.ldc 79, 2) := by decide +kernel
theorem dX10_trace_11 : decode mX10_trace.2.1 11 = .ok (.ireturn, 1) := by decide +kernel
theorem dX10_trace_12 : decode mX10_trace.2.1 12 = .ok (.aload_n 0, 1) := by decide +kernel
theorem dX10_trace_13 : decode mX10_trace.2.1 13 = .ok (.getfield 19, 3) := by decide +kernel
theorem dX10_trace_16 : decode mX10_trace.2.1 16 = .ok (.getfield 164, 3) := by decide +kernel
theorem dX10_trace_19 : decode mX10_trace.2.1 19 = .ok (.ldc 167, 2) := by decide +kernel
theorem dX10_trace_21 : decode mX10_trace.2.1 21 = .ok (.if_icmp .ne 6, 3) := by decide +kernel
theorem dX10_trace_24 : decode mX10_trace.2.1 24 = .ok (.ldc 168, 2) := by decide +kernel
theorem dX10_trace_26 : decode mX10_trace.2.1 26 = .ok (.ireturn, 1) := by decide +kernel
theorem dX10_trace_27 : decode mX10_trace.2.1 27 = .ok (.aload_n 0, 1) := by decide +kernel
theorem dX10_trace_28 : decode mX10_trace.2.1 28 = .ok (.getfield 54, 3) := by decide +kernel
theorem dX10_trace_31 : decode mX10_trace.2.1 31 = .ok (.aload_n 0, 1) := by decide +kernel
theorem dX10_trace_32 : decode mX10_trace.2.1 32 = .ok (.getfield 19, 3) := by decide +kernel
theorem dX10_trace_35 : decode mX10_trace.2.1 35 = .ok (.aload_n 0, 1) := by decide +kernel
theorem dX10_trace_36 : decode mX10_trace.2.1 36 = .ok (.getfield 40, 3) := by decide +kernel
theorem dX10_trace_39 : decode mX10_trace.2.1 39 = .ok (.iload_n 1, 1) := by decide +kernel
theorem dX10_trace_40 : decode mX10_trace.2.1 40 = .ok (.invokevirtual 211, 3) := by decide +kernel
theorem dX10_trace_43 : decode mX10_trace.2.1 43 = .ok (.aload_n 0, 1) := by decide +kernel
theorem dX10_trace_44 : decode mX10_trace.2.1 44 = .ok (.getfield 54, 3) := by decide +kernel
theorem dX10_trace_47 : decode mX10_trace.2.1 47 = .ok (.getfield 215, 3) := by decide +kernel
theorem dX10_trace_50 : decode mX10_trace.2.1 50 = .ok (.ireturn, 1) := by decide +kernel
theorem okX10_trace_129 : gOkV mX10_trace mX10_isMember 129 2 := ⟨List.forall_mem_cons.mpr ⟨(gm 863 (by decide +kernel) rfl), List.forall_mem_cons.mpr ⟨(gm 860 (by decide +kernel) rfl), List.forall_mem_cons.mpr ⟨(gm 862 (by decide +kernel) rfl), List.forall_mem_cons.mpr ⟨(gm 39 (by decide +kernel) rfl), List.forall_mem_cons.mpr ⟨(gm 107 (by decide +kernel) rfl), fun _ h => absurd h List.not_mem_nil⟩⟩⟩⟩⟩, by decide +kernel, by decide +kernel, by decide +kernel⟩
theorem okX10_trace_211 : gOkV mX10_trace mX2_draw 211 3 := ⟨List.forall_mem_cons.mpr ⟨(gm 971 (by decide +kernel) rfl), List.forall_mem_cons.mpr ⟨(gm 968 (by decide +kernel) rfl), List.forall_mem_cons.mpr ⟨(gm 969 (by decide +kernel) rfl), List.forall_mem_cons.mpr ⟨(gm 970 (by decide +kernel) rfl), List.forall_mem_cons.mpr ⟨(gm 118 (by decide +kernel) rfl), fun _ h => absurd h List.not_mem_nil⟩⟩⟩⟩⟩, by decide +kernel, by decide +kernel, by decide +kernel⟩
def fX10_trace (p1 : Int32) (σ : gS) : Option (Int32 × gS) :=
  bd (fX10_isMember 0 p1 σ) fun x1 σ2 =>
  if x1 = 0 then
    some ((-1000001), σ2)
  else
    bnd (σ2.2.2 0 1) fun x5 =>
    gg (x5 = 4 ∨ x5 = 16) (
    if (σ2.1 x5 8) = (-1000000) then
      some ((-1000002), σ2)
    else
      bnd (σ2.2.2 0 1) fun x8 =>
      gg (x8 = 4 ∨ x8 = 16) (
      bd (fX2_draw x8 p1 σ2) fun _ σ10 =>
      some (σ10.1 136 1, σ10)))
set_option maxHeartbeats 4000000 in
set_option maxRecDepth 100000 in
theorem pX10_trace {E : gE} {p1 : Int32} {r : Int32} {σ' : gS} {σ : gS} (h : fX10_trace p1 σ = some (r, σ')) : gG E mX10_trace 0 [(0, .ref 0), (1, .int p1)] [] σ (some (.int r)) σ' := by
  unfold fX10_trace at h
  refine g_aload_n dX10_trace_0 rfl 0 rfl ?_
  refine g_iconst (v := 0) dX10_trace_1 (by decide) ?_
  refine g_iload_n dX10_trace_2 rfl 1 rfl ?_
  obtain ⟨x1, σ2, y3, h⟩ := bd_some h
  refine g_callVr (as := [.int 0, .int p1]) (st := []) (zX10_isMember y3) dX10_trace_3 gi_0 rfl okX10_trace_129 (Nat.le_of_ble_eq_true rfl) ?_
  refine g_if_ne (t := 12) dX10_trace_6 (by decide) (fun c4 => ?_) (fun c4 => ?_)
  · replace h := if_f h c4
    refine g_aload_n dX10_trace_12 rfl 0 rfl ?_
    refine g_getR dX10_trace_13 gi_0 rfl fl_RX10_19 ?_
    obtain ⟨x5, ex5, h⟩ := bnd_nm h
    refine g_topr ex5 ?_
    obtain ⟨g6, h⟩ := gg_some h
    refine g_getI dX10_trace_16 (gi_lk g6) rfl fl_RX10_164 ?_
    refine g_ldc (v := (-1000000)) dX10_trace_19 wc_RX10_167 ?_
    refine g_icmp_ne (t := 27) dX10_trace_21 (by decide) (fun c7 => ?_) (fun c7 => ?_)
    · replace h := if_f h c7
      refine g_aload_n dX10_trace_27 rfl 0 rfl ?_
      refine g_getC (n := 136) dX10_trace_28 gi_0 rfl fl_RX10_54 ?_
      refine g_aload_n dX10_trace_31 rfl 0 rfl ?_
      refine g_getR dX10_trace_32 gi_0 rfl fl_RX10_19 ?_
      obtain ⟨x8, ex8, h⟩ := bnd_nm h
      refine g_topr ex8 ?_
      obtain ⟨g9, h⟩ := gg_some h
      refine g_aload_n dX10_trace_35 rfl 0 rfl ?_
      refine g_getC (n := 124) dX10_trace_36 gi_0 rfl fl_RX10_40 ?_
      refine g_iload_n dX10_trace_39 rfl 1 rfl ?_
      obtain ⟨_, σ10, y11, h⟩ := bd_some h
      refine g_callVv (as := [.ref x8, .ref 124, .int p1]) (st := []) (zX2_draw g9 y11) dX10_trace_40 gi_136 rfl okX10_trace_211 (Nat.le_of_ble_eq_true rfl) ?_
      refine g_aload_n dX10_trace_43 rfl 0 rfl ?_
      refine g_getC (n := 136) dX10_trace_44 gi_0 rfl fl_RX10_54 ?_
      refine g_getI dX10_trace_47 gi_136 rfl fl_RX10_215 ?_
      obtain ⟨rfl, rfl⟩ := so_inj h
      exact g_iret dX10_trace_50 rfl
    · replace h := if_t h c7
      refine g_ldc (v := (-1000002)) dX10_trace_24 wc_RX10_168 ?_
      obtain ⟨rfl, rfl⟩ := so_inj h
      exact g_iret dX10_trace_26 rfl
  · replace h := if_t h c4
    refine g_ldc (v := (-1000001)) dX10_trace_9 wc_RX10_79 ?_
    obtain ⟨rfl, rfl⟩ := so_inj h
    exact g_iret dX10_trace_11 rfl
theorem zX10_trace {E : gE} {p1 : Int32} {r : Int32} {σ σ' : gS} (h : fX10_trace p1 σ = some (r, σ')) : gC E mX10_trace [.ref 0, .int p1] σ (some (.int r)) σ' :=
  gC_of (by decide +kernel) rfl (Nat.le_of_ble_eq_true rfl) (pX10_trace h)
theorem fl_RX10_102 : gFl RX10 102 2 0 := ⟨RX2, TX2, 6, rfl, by decide, ux_2, Or.inr ⟨"LinkageCurves", by decide +kernel⟩⟩
theorem fl_RX10_217 : gFl RX10 217 2 4 := ⟨RX2, TX2, 6, rfl, by decide, ux_2, Or.inr ⟨"LinkageCurves", by decide +kernel⟩⟩
def mX10_curve : gM := (yX10_curve, cX10_curve, RX10, 3, (some .long), 1, 21)
theorem dX10_curve_0 : decode mX10_curve.2.1 0 = .ok (.iload_n 1, 1) := by decide +kernel
theorem dX10_curve_1 : decode mX10_curve.2.1 1 = .ok (.invokestatic 161, 3) := by decide +kernel
theorem dX10_curve_4 : decode mX10_curve.2.1 4 = .ok (.ifCond .eq 10, 3) := by decide +kernel
theorem dX10_curve_7 : decode mX10_curve.2.1 7 = .ok (.iload_n 2, 1) := by decide +kernel
theorem dX10_curve_8 : decode mX10_curve.2.1 8 = .ok (.invokestatic 154, 3) := by decide +kernel
theorem dX10_curve_11 : decode mX10_curve.2.1 11 = .ok (.ifCond .ne 7, 3) := by decide +kernel
theorem dX10_curve_14 : decode mX10_curve.2.1 14 = .ok (.ldc2_w 183, 3) := by decide +kernel
theorem dX10_curve_17 : decode mX10_curve.2.1 17 = .ok (.lreturn, 1) := by decide +kernel
theorem dX10_curve_18 : decode mX10_curve.2.1 18 = .ok (.aload_n 0, 1) := by decide +kernel
theorem dX10_curve_19 : decode mX10_curve.2.1 19 = .ok (.getfield 54, 3) := by decide +kernel
theorem dX10_curve_22 : decode mX10_curve.2.1 22 = .ok (.getfield 102, 3) := by decide +kernel
theorem dX10_curve_25 : decode mX10_curve.2.1 25 = .ok (.ifCond .ne 7, 3) := by decide +kernel
theorem dX10_curve_28 : decode mX10_curve.2.1 28 = .ok (.ldc2_w 185, 3) := by decide +kernel
theorem dX10_curve_31 : decode mX10_curve.2.1 31 = .ok (.lreturn, 1) := by decide +kernel
theorem dX10_curve_32 : decode mX10_curve.2.1 32 = .ok (.aload_n 0, 1) := by decide +kernel
theorem dX10_curve_33 : decode mX10_curve.2.1 33 = .ok (.getfield 54, 3) := by decide +kernel
theorem dX10_curve_36 : decode mX10_curve.2.1 36 = .ok (.getfield 217, 3) := by decide +kernel
theorem dX10_curve_39 : decode mX10_curve.2.1 39 = .ok (.iload_n 1, 1) := by decide +kernel
theorem dX10_curve_40 : decode mX10_curve.2.1 40 = .ok (.baload, 1) := by decide +kernel
theorem dX10_curve_41 : decode mX10_curve.2.1 41 = .ok (.ifCond .eq 16, 3) := by decide +kernel
theorem dX10_curve_44 : decode mX10_curve.2.1 44 = .ok (.aload_n 0, 1) := by decide +kernel
theorem dX10_curve_45 : decode mX10_curve.2.1 45 = .ok (.getfield 54, 3) := by decide +kernel
theorem dX10_curve_48 : decode mX10_curve.2.1 48 = .ok (.iload_n 2, 1) := by decide +kernel
theorem dX10_curve_49 : decode mX10_curve.2.1 49 = .ok (.invokevirtual 220, 3) := by decide +kernel
theorem dX10_curve_52 : decode mX10_curve.2.1 52 = .ok (.iload_n 1, 1) := by decide +kernel
theorem dX10_curve_53 : decode mX10_curve.2.1 53 = .ok (.laload, 1) := by decide +kernel
theorem dX10_curve_54 : decode mX10_curve.2.1 54 = .ok (.goto 6, 3) := by decide +kernel
theorem dX10_curve_57 : decode mX10_curve.2.1 57 = .ok (.ldc2_w 190, 3) := by decide +kernel
theorem dX10_curve_60 : decode mX10_curve.2.1 60 = .ok (.lreturn, 1) := by decide +kernel
theorem okX10_curve_161 : gOkS mX10_curve mX10_isStep 161 1 := ⟨List.forall_mem_cons.mpr ⟨(gm 902 (by decide +kernel) rfl), List.forall_mem_cons.mpr ⟨(gm 900 (by decide +kernel) rfl), List.forall_mem_cons.mpr ⟨(gm 901 (by decide +kernel) rfl), List.forall_mem_cons.mpr ⟨(gm 107 (by decide +kernel) rfl), fun _ h => absurd h List.not_mem_nil⟩⟩⟩⟩, by decide +kernel, by decide +kernel, by decide +kernel⟩
theorem okX10_curve_154 : gOkS mX10_curve mX10_isAxis 154 1 := ⟨List.forall_mem_cons.mpr ⟨(gm 891 (by decide +kernel) rfl), List.forall_mem_cons.mpr ⟨(gm 889 (by decide +kernel) rfl), List.forall_mem_cons.mpr ⟨(gm 890 (by decide +kernel) rfl), List.forall_mem_cons.mpr ⟨(gm 107 (by decide +kernel) rfl), fun _ h => absurd h List.not_mem_nil⟩⟩⟩⟩, by decide +kernel, by decide +kernel, by decide +kernel⟩
theorem okX10_curve_220 : gOkV mX10_curve mX2_valuesOf 220 1 := ⟨List.forall_mem_cons.mpr ⟨(gm 984 (by decide +kernel) rfl), List.forall_mem_cons.mpr ⟨(gm 981 (by decide +kernel) rfl), List.forall_mem_cons.mpr ⟨(gm 982 (by decide +kernel) rfl), List.forall_mem_cons.mpr ⟨(gm 983 (by decide +kernel) rfl), List.forall_mem_cons.mpr ⟨(gm 118 (by decide +kernel) rfl), fun _ h => absurd h List.not_mem_nil⟩⟩⟩⟩⟩, by decide +kernel, by decide +kernel, by decide +kernel⟩
def fX10_curve_14 (p1 : Int32) (p2 : Int32) (σ : gS) : Option (Int64 × gS) :=
  some ((-1000001), σ)
set_option maxHeartbeats 4000000 in
set_option maxRecDepth 100000 in
theorem pX10_curve_14 {E : gE} {p1 : Int32} {p2 : Int32} {r : Int64} {σ' : gS} {σ : gS} (h : fX10_curve_14 p1 p2 σ = some (r, σ')) : gG E mX10_curve 14 [] [] σ (some (.long r)) σ' := by
  unfold fX10_curve_14 at h
  refine g_ldc2 (v := (-1000001)) dX10_curve_14 wl_RX10_183 ?_
  obtain ⟨rfl, rfl⟩ := so_inj h
  exact g_lret dX10_curve_17 rfl
def fX10_curve_60 (p1 : Int32) (p2 : Int32) (s0 : Int64) (σ : gS) : Option (Int64 × gS) :=
  some (s0, σ)
set_option maxHeartbeats 4000000 in
set_option maxRecDepth 100000 in
theorem pX10_curve_60 {E : gE} {p1 : Int32} {p2 : Int32} {r : Int64} {σ' : gS} {s0 : Int64} {σ : gS} (h : fX10_curve_60 p1 p2 s0 σ = some (r, σ')) : gG E mX10_curve 60 [] [.long s0] σ (some (.long r)) σ' := by
  unfold fX10_curve_60 at h
  obtain ⟨rfl, rfl⟩ := so_inj h
  exact g_lret dX10_curve_60 rfl
def fX10_curve (p1 : Int32) (p2 : Int32) (σ : gS) : Option (Int64 × gS) :=
  bd (fX10_isStep p1 σ) fun x1 σ2 =>
  if x1 = 0 then
    fX10_curve_14 p1 p2 σ2
  else
    bd (fX10_isAxis p2 σ2) fun x5 σ6 =>
    if x5 = 0 then
      fX10_curve_14 p1 p2 σ6
    else
      if (σ6.1 136 0) = 0 then
        some ((-1000002), σ6)
      else
        gg (¬ (p1 < 0 ∨ 256 ≤ p1.toNatClampNeg)) (
        if (σ6.1 139 p1.toNatClampNeg) = 0 then
          fX10_curve_60 p1 p2 (-1000000) σ6
        else
          bd (fX2_valuesOf p2 σ6) fun x12 σ13 =>
          gg (x12 = 137 ∨ x12 = 138) (
          gg (¬ (p1 < 0 ∨ 256 ≤ p1.toNatClampNeg)) (
          fX10_curve_60 p1 p2 (σ13.2.1 x12 p1.toNatClampNeg) σ13)))
set_option maxHeartbeats 4000000 in
set_option maxRecDepth 100000 in
theorem pX10_curve {E : gE} {p1 : Int32} {p2 : Int32} {r : Int64} {σ' : gS} {σ : gS} (h : fX10_curve p1 p2 σ = some (r, σ')) : gG E mX10_curve 0 [(0, .ref 0), (1, .int p1), (2, .int p2)] [] σ (some (.long r)) σ' := by
  unfold fX10_curve at h
  refine g_iload_n dX10_curve_0 rfl 1 rfl ?_
  obtain ⟨x1, σ2, y3, h⟩ := bd_some h
  refine g_callSr (as := [.int p1]) (st := []) (zX10_isStep y3) dX10_curve_1 okX10_curve_161 (Nat.le_of_ble_eq_true rfl) ?_
  refine g_if_eq (t := 14) dX10_curve_4 (by decide) (fun c4 => ?_) (fun c4 => ?_)
  · replace h := if_t h c4
    refine g_sub [] rfl ?_
    exact pX10_curve_14 h
  · replace h := if_f h c4
    refine g_iload_n dX10_curve_7 rfl 2 rfl ?_
    obtain ⟨x5, σ6, y7, h⟩ := bd_some h
    refine g_callSr (as := [.int p2]) (st := []) (zX10_isAxis y7) dX10_curve_8 okX10_curve_154 (Nat.le_of_ble_eq_true rfl) ?_
    refine g_if_ne (t := 18) dX10_curve_11 (by decide) (fun c8 => ?_) (fun c8 => ?_)
    · replace h := if_f h c8
      refine g_aload_n dX10_curve_18 rfl 0 rfl ?_
      refine g_getC (n := 136) dX10_curve_19 gi_0 rfl fl_RX10_54 ?_
      refine g_getI dX10_curve_22 gi_136 rfl fl_RX10_102 ?_
      refine g_if_ne (t := 32) dX10_curve_25 (by decide) (fun c9 => ?_) (fun c9 => ?_)
      · replace h := if_f h c9
        refine g_aload_n dX10_curve_32 rfl 0 rfl ?_
        refine g_getC (n := 136) dX10_curve_33 gi_0 rfl fl_RX10_54 ?_
        refine g_getC (n := 139) dX10_curve_36 gi_136 rfl fl_RX10_217 ?_
        refine g_iload_n dX10_curve_39 rfl 1 rfl ?_
        obtain ⟨g10, h⟩ := gg_some h
        refine g_zald dX10_curve_40 gi_139 g10 ?_
        refine g_if_eq (t := 57) dX10_curve_41 (by decide) (fun c11 => ?_) (fun c11 => ?_)
        · replace h := if_t h c11
          refine g_ldc2 (v := (-1000000)) dX10_curve_57 wl_RX10_190 ?_
          refine g_sub [] rfl ?_
          exact pX10_curve_60 h
        · replace h := if_f h c11
          refine g_aload_n dX10_curve_44 rfl 0 rfl ?_
          refine g_getC (n := 136) dX10_curve_45 gi_0 rfl fl_RX10_54 ?_
          refine g_iload_n dX10_curve_48 rfl 2 rfl ?_
          obtain ⟨x12, σ13, y14, h⟩ := bd_some h
          refine g_callVr (as := [.int p2]) (st := []) (zX2_valuesOf y14) dX10_curve_49 gi_136 rfl okX10_curve_220 (Nat.le_of_ble_eq_true rfl) ?_
          refine g_iload_n dX10_curve_52 rfl 1 rfl ?_
          obtain ⟨g15, h⟩ := gg_some h
          obtain ⟨g16, h⟩ := gg_some h
          refine g_lald dX10_curve_53 (gi_vs g15) g16 ?_
          refine g_goto (t := 60) dX10_curve_54 (by decide) ?_
          refine g_sub [] rfl ?_
          exact pX10_curve_60 h
      · replace h := if_t h c9
        refine g_ldc2 (v := (-1000002)) dX10_curve_28 wl_RX10_185 ?_
        obtain ⟨rfl, rfl⟩ := so_inj h
        exact g_lret dX10_curve_31 rfl
    · replace h := if_t h c8
      refine g_sub [] rfl ?_
      exact pX10_curve_14 h
theorem zX10_curve {E : gE} {p1 : Int32} {p2 : Int32} {r : Int64} {σ σ' : gS} (h : fX10_curve p1 p2 σ = some (r, σ')) : gC E mX10_curve [.ref 0, .int p1, .int p2] σ (some (.long r)) σ' :=
  gC_of (by decide +kernel) rfl (Nat.le_of_ble_eq_true rfl) (pX10_curve h)
def mX10_told : gM := (yX10_told, cX10_told, RX10, 2, (some .int), 2, 46)
theorem dX10_told_0 : decode mX10_told.2.1 0 = .ok (.iload_n 1, 1) := by decide +kernel
theorem dX10_told_1 : decode mX10_told.2.1 1 = .ok (.ifCond .lt 8, 3) := by decide +kernel
theorem dX10_told_4 : decode mX10_told.2.1 4 = .ok (.iload_n 1, 1) := by decide +kernel
theorem dX10_told_5 : decode mX10_told.2.1 5 = .ok (.iconst 4, 1) := by decide +kernel
theorem dX10_told_6 : decode mX10_told.2.1 6 = .ok (.if_icmp .le 6, 3) := by decide +kernel
theorem dX10_told_9 : decode mX10_told.2.1 9 = .ok (.ldc 79, 2) := by decide +kernel
theorem dX10_told_11 : decode mX10_told.2.1 11 = .ok (.ireturn, 1) := by decide +kernel
theorem dX10_told_12 : decode mX10_told.2.1 12 = .ok (.aload_n 0, 1) := by decide +kernel
theorem dX10_told_13 : decode mX10_told.2.1 13 = .ok (.getfield 54, 3) := by decide +kernel
theorem dX10_told_16 : decode mX10_told.2.1 16 = .ok (.getfield 102, 3) := by decide +kernel
theorem dX10_told_19 : decode mX10_told.2.1 19 = .ok (.ifCond .ne 6, 3) := by decide +kernel
theorem dX10_told_22 : decode mX10_told.2.1 22 = .ok (.ldc 168, 2) := by decide +kernel
theorem dX10_told_24 : decode mX10_told.2.1 24 = .ok (.ireturn, 1) := by decide +kernel
theorem dX10_told_25 : decode mX10_told.2.1 25 = .ok (.iload_n 1, 1) := by decide +kernel
theorem dX10_told_26 : decode mX10_told.2.1 26 = .ok (.tableswitch 68 0 3 #[30, 38, 48, 58], 30) := by decide +kernel
theorem dX10_told_56 : decode mX10_told.2.1 56 = .ok (.aload_n 0, 1) := by decide +kernel
theorem dX10_told_57 : decode mX10_told.2.1 57 = .ok (.getfield 54, 3) := by decide +kernel
theorem dX10_told_60 : decode mX10_told.2.1 60 = .ok (.invokevirtual 224, 3) := by decide +kernel
theorem dX10_told_63 : decode mX10_told.2.1 63 = .ok (.ireturn, 1) := by decide +kernel
theorem dX10_told_64 : decode mX10_told.2.1 64 = .ok (.aload_n 0, 1) := by decide +kernel
theorem dX10_told_65 : decode mX10_told.2.1 65 = .ok (.getfield 54, 3) := by decide +kernel
theorem dX10_told_68 : decode mX10_told.2.1 68 = .ok (.iconst 0, 1) := by decide +kernel
theorem dX10_told_69 : decode mX10_told.2.1 69 = .ok (.iconst (-1), 1) := by decide +kernel
theorem dX10_told_70 : decode mX10_told.2.1 70 = .ok (.invokevirtual 227, 3) := by decide +kernel
theorem dX10_told_73 : decode mX10_told.2.1 73 = .ok (.ireturn, 1) := by decide +kernel
theorem dX10_told_74 : decode mX10_told.2.1 74 = .ok (.aload_n 0, 1) := by decide +kernel
theorem dX10_told_75 : decode mX10_told.2.1 75 = .ok (.getfield 54, 3) := by decide +kernel
theorem dX10_told_78 : decode mX10_told.2.1 78 = .ok (.iconst 0, 1) := by decide +kernel
theorem dX10_told_79 : decode mX10_told.2.1 79 = .ok (.iconst 1, 1) := by decide +kernel
theorem dX10_told_80 : decode mX10_told.2.1 80 = .ok (.invokevirtual 227, 3) := by decide +kernel
theorem dX10_told_83 : decode mX10_told.2.1 83 = .ok (.ireturn, 1) := by decide +kernel
theorem dX10_told_84 : decode mX10_told.2.1 84 = .ok (.aload_n 0, 1) := by decide +kernel
theorem dX10_told_85 : decode mX10_told.2.1 85 = .ok (.getfield 54, 3) := by decide +kernel
theorem dX10_told_88 : decode mX10_told.2.1 88 = .ok (.iconst 1, 1) := by decide +kernel
theorem dX10_told_89 : decode mX10_told.2.1 89 = .ok (.iconst (-1), 1) := by decide +kernel
theorem dX10_told_90 : decode mX10_told.2.1 90 = .ok (.invokevirtual 227, 3) := by decide +kernel
theorem dX10_told_93 : decode mX10_told.2.1 93 = .ok (.ireturn, 1) := by decide +kernel
theorem dX10_told_94 : decode mX10_told.2.1 94 = .ok (.aload_n 0, 1) := by decide +kernel
theorem dX10_told_95 : decode mX10_told.2.1 95 = .ok (.getfield 54, 3) := by decide +kernel
theorem dX10_told_98 : decode mX10_told.2.1 98 = .ok (.iconst 1, 1) := by decide +kernel
theorem dX10_told_99 : decode mX10_told.2.1 99 = .ok (.iconst 1, 1) := by decide +kernel
theorem dX10_told_100 : decode mX10_told.2.1 100 = .ok (.invokevirtual 227, 3) := by decide +kernel
theorem dX10_told_103 : decode mX10_told.2.1 103 = .ok (.ireturn, 1) := by decide +kernel
theorem okX10_told_224 : gOkV mX10_told mX2_beginnings 224 0 := ⟨List.forall_mem_cons.mpr ⟨(gm 992 (by decide +kernel) rfl), List.forall_mem_cons.mpr ⟨(gm 989 (by decide +kernel) rfl), List.forall_mem_cons.mpr ⟨(gm 990 (by decide +kernel) rfl), List.forall_mem_cons.mpr ⟨(gm 991 (by decide +kernel) rfl), List.forall_mem_cons.mpr ⟨(gm 118 (by decide +kernel) rfl), fun _ h => absurd h List.not_mem_nil⟩⟩⟩⟩⟩, by decide +kernel, by decide +kernel, by decide +kernel⟩
theorem okX10_told_227 : gOkV mX10_told mX2_firstFarthest 227 2 := ⟨List.forall_mem_cons.mpr ⟨(gm 996 (by decide +kernel) rfl), List.forall_mem_cons.mpr ⟨(gm 993 (by decide +kernel) rfl), List.forall_mem_cons.mpr ⟨(gm 994 (by decide +kernel) rfl), List.forall_mem_cons.mpr ⟨(gm 995 (by decide +kernel) rfl), List.forall_mem_cons.mpr ⟨(gm 118 (by decide +kernel) rfl), fun _ h => absurd h List.not_mem_nil⟩⟩⟩⟩⟩, by decide +kernel, by decide +kernel, by decide +kernel⟩
def fX10_told_9 (p1 : Int32) (σ : gS) : Option (Int32 × gS) :=
  some ((-1000001), σ)
set_option maxHeartbeats 4000000 in
set_option maxRecDepth 100000 in
theorem pX10_told_9 {E : gE} {p1 : Int32} {r : Int32} {σ' : gS} {σ : gS} (h : fX10_told_9 p1 σ = some (r, σ')) : gG E mX10_told 9 [] [] σ (some (.int r)) σ' := by
  unfold fX10_told_9 at h
  refine g_ldc (v := (-1000001)) dX10_told_9 wc_RX10_79 ?_
  obtain ⟨rfl, rfl⟩ := so_inj h
  exact g_iret dX10_told_11 rfl
def fX10_told (p1 : Int32) (σ : gS) : Option (Int32 × gS) :=
  if p1 < 0 then
    fX10_told_9 p1 σ
  else
    if p1 ≤ 4 then
      if (σ.1 136 0) = 0 then
        some ((-1000002), σ)
      else
        if p1 = 0 then
          bd (fX2_beginnings σ) fun x5 σ6 =>
          some (x5, σ6)
        else
          if p1 = 1 then
          bd (fX2_firstFarthest 0 (-1) σ) fun x9 σ10 =>
            some (x9, σ10)
        else
          if p1 = 2 then
          bd (fX2_firstFarthest 0 1 σ) fun x13 σ14 =>
              some (x13, σ14)
        else
          if p1 = 3 then
          bd (fX2_firstFarthest 1 (-1) σ) fun x17 σ18 =>
                some (x17, σ18)
        else
          bd (fX2_firstFarthest 1 1 σ) fun x20 σ21 =>
                some (x20, σ21)
    else
      fX10_told_9 p1 σ
set_option maxHeartbeats 4000000 in
set_option maxRecDepth 100000 in
theorem pX10_told {E : gE} {p1 : Int32} {r : Int32} {σ' : gS} {σ : gS} (h : fX10_told p1 σ = some (r, σ')) : gG E mX10_told 0 [(0, .ref 0), (1, .int p1)] [] σ (some (.int r)) σ' := by
  unfold fX10_told at h
  refine g_iload_n dX10_told_0 rfl 1 rfl ?_
  refine g_if_lt (t := 9) dX10_told_1 (by decide) (fun c1 => ?_) (fun c1 => ?_)
  · replace h := if_t h c1
    refine g_sub [] rfl ?_
    exact pX10_told_9 h
  · replace h := if_f h c1
    refine g_iload_n dX10_told_4 rfl 1 rfl ?_
    refine g_iconst (v := 4) dX10_told_5 (by decide) ?_
    refine g_icmp_le (t := 12) dX10_told_6 (by decide) (fun c2 => ?_) (fun c2 => ?_)
    · replace h := if_t h c2
      refine g_aload_n dX10_told_12 rfl 0 rfl ?_
      refine g_getC (n := 136) dX10_told_13 gi_0 rfl fl_RX10_54 ?_
      refine g_getI dX10_told_16 gi_136 rfl fl_RX10_102 ?_
      refine g_if_ne (t := 25) dX10_told_19 (by decide) (fun c3 => ?_) (fun c3 => ?_)
      · replace h := if_f h c3
        refine g_iload_n dX10_told_25 rfl 1 rfl ?_
        by_cases c4 : p1 = 0
        · replace h := if_t h c4
          refine g_tabIn (off := 30) (t := 56) dX10_told_26 (by rw [c4]; decide) (by rw [c4]; decide) (by rw [c4]; first | done | rfl) (by decide) ?_
          refine g_aload_n dX10_told_56 rfl 0 rfl ?_
          refine g_getC (n := 136) dX10_told_57 gi_0 rfl fl_RX10_54 ?_
          obtain ⟨x5, σ6, y7, h⟩ := bd_some h
          refine g_callVr (as := []) (st := []) (zX2_beginnings y7) dX10_told_60 gi_136 rfl okX10_told_224 (Nat.le_of_ble_eq_true rfl) ?_
          obtain ⟨rfl, rfl⟩ := so_inj h
          exact g_iret dX10_told_63 rfl
        · replace h := if_f h c4
          by_cases c8 : p1 = 1
          · replace h := if_t h c8
            refine g_tabIn (off := 38) (t := 64) dX10_told_26 (by rw [c8]; decide) (by rw [c8]; decide) (by rw [c8]; first | done | rfl) (by decide) ?_
            refine g_aload_n dX10_told_64 rfl 0 rfl ?_
            refine g_getC (n := 136) dX10_told_65 gi_0 rfl fl_RX10_54 ?_
            refine g_iconst (v := 0) dX10_told_68 (by decide) ?_
            refine g_iconst (v := (-1)) dX10_told_69 (by decide) ?_
            obtain ⟨x9, σ10, y11, h⟩ := bd_some h
            refine g_callVr (as := [.int 0, .int (-1)]) (st := []) (zX2_firstFarthest y11) dX10_told_70 gi_136 rfl okX10_told_227 (Nat.le_of_ble_eq_true rfl) ?_
            obtain ⟨rfl, rfl⟩ := so_inj h
            exact g_iret dX10_told_73 rfl
          · replace h := if_f h c8
            by_cases c12 : p1 = 2
            · replace h := if_t h c12
              refine g_tabIn (off := 48) (t := 74) dX10_told_26 (by rw [c12]; decide) (by rw [c12]; decide) (by rw [c12]; first | done | rfl) (by decide) ?_
              refine g_aload_n dX10_told_74 rfl 0 rfl ?_
              refine g_getC (n := 136) dX10_told_75 gi_0 rfl fl_RX10_54 ?_
              refine g_iconst (v := 0) dX10_told_78 (by decide) ?_
              refine g_iconst (v := 1) dX10_told_79 (by decide) ?_
              obtain ⟨x13, σ14, y15, h⟩ := bd_some h
              refine g_callVr (as := [.int 0, .int 1]) (st := []) (zX2_firstFarthest y15) dX10_told_80 gi_136 rfl okX10_told_227 (Nat.le_of_ble_eq_true rfl) ?_
              obtain ⟨rfl, rfl⟩ := so_inj h
              exact g_iret dX10_told_83 rfl
            · replace h := if_f h c12
              by_cases c16 : p1 = 3
              · replace h := if_t h c16
                refine g_tabIn (off := 58) (t := 84) dX10_told_26 (by rw [c16]; decide) (by rw [c16]; decide) (by rw [c16]; first | done | rfl) (by decide) ?_
                refine g_aload_n dX10_told_84 rfl 0 rfl ?_
                refine g_getC (n := 136) dX10_told_85 gi_0 rfl fl_RX10_54 ?_
                refine g_iconst (v := 1) dX10_told_88 (by decide) ?_
                refine g_iconst (v := (-1)) dX10_told_89 (by decide) ?_
                obtain ⟨x17, σ18, y19, h⟩ := bd_some h
                refine g_callVr (as := [.int 1, .int (-1)]) (st := []) (zX2_firstFarthest y19) dX10_told_90 gi_136 rfl okX10_told_227 (Nat.le_of_ble_eq_true rfl) ?_
                obtain ⟨rfl, rfl⟩ := so_inj h
                exact g_iret dX10_told_93 rfl
              · replace h := if_f h c16
                have nc4 := lv_neT (a := 0) c4 (by decide)
                have nc8 := lv_neT (a := 1) c8 (by decide)
                have nc12 := lv_neT (a := 2) c12 (by decide)
                have nc16 := lv_neT (a := 3) c16 (by decide)
                refine g_tabOut (t := 94) dX10_told_26 (by omega) (by decide) ?_
                refine g_aload_n dX10_told_94 rfl 0 rfl ?_
                refine g_getC (n := 136) dX10_told_95 gi_0 rfl fl_RX10_54 ?_
                refine g_iconst (v := 1) dX10_told_98 (by decide) ?_
                refine g_iconst (v := 1) dX10_told_99 (by decide) ?_
                obtain ⟨x20, σ21, y22, h⟩ := bd_some h
                refine g_callVr (as := [.int 1, .int 1]) (st := []) (zX2_firstFarthest y22) dX10_told_100 gi_136 rfl okX10_told_227 (Nat.le_of_ble_eq_true rfl) ?_
                obtain ⟨rfl, rfl⟩ := so_inj h
                exact g_iret dX10_told_103 rfl
      · replace h := if_t h c3
        refine g_ldc (v := (-1000002)) dX10_told_22 wc_RX10_168 ?_
        obtain ⟨rfl, rfl⟩ := so_inj h
        exact g_iret dX10_told_24 rfl
    · replace h := if_f h c2
      refine g_sub [] rfl ?_
      exact pX10_told_9 h
theorem zX10_told {E : gE} {p1 : Int32} {r : Int32} {σ σ' : gS} (h : fX10_told p1 σ = some (r, σ')) : gC E mX10_told [.ref 0, .int p1] σ (some (.int r)) σ' :=
  gC_of (by decide +kernel) rfl (Nat.le_of_ble_eq_true rfl) (pX10_told h)
theorem fl_RX10_61 : gFl RX10 61 10 8 := ⟨RX10, TX10, 12, rfl, by decide, ux_10, Or.inl (gm 534 (by decide +kernel) rfl)⟩
theorem fl_RX10_235 : gFl RX10 235 8 0 := ⟨RX8, TX8, 6, rfl, by decide, ux_8, Or.inr ⟨"LinkageCurves", by decide +kernel⟩⟩
theorem fl_RX10_241 : gFl RX10 241 8 2 := ⟨RX8, TX8, 6, rfl, by decide, ux_8, Or.inr ⟨"LinkageCurves", by decide +kernel⟩⟩
theorem fl_RX10_238 : gFl RX10 238 8 1 := ⟨RX8, TX8, 6, rfl, by decide, ux_8, Or.inr ⟨"LinkageCurves", by decide +kernel⟩⟩
def mX10_ratio : gM := (yX10_ratio, cX10_ratio, RX10, 4, (some .long), 4, 105)
theorem dX10_ratio_0 : decode mX10_ratio.2.1 0 = .ok (.aload_n 0, 1) := by decide +kernel
theorem dX10_ratio_1 : decode mX10_ratio.2.1 1 = .ok (.iconst 2, 1) := by decide +kernel
theorem dX10_ratio_2 : decode mX10_ratio.2.1 2 = .ok (.iload_n 1, 1) := by decide +kernel
theorem dX10_ratio_3 : decode mX10_ratio.2.1 3 = .ok (.invokevirtual 129, 3) := by decide +kernel
theorem dX10_ratio_6 : decode mX10_ratio.2.1 6 = .ok (.ifCond .eq 21, 3) := by decide +kernel
theorem dX10_ratio_9 : decode mX10_ratio.2.1 9 = .ok (.aload_n 0, 1) := by decide +kernel
theorem dX10_ratio_10 : decode mX10_ratio.2.1 10 = .ok (.iconst 2, 1) := by decide +kernel
theorem dX10_ratio_11 : decode mX10_ratio.2.1 11 = .ok (.iload_n 2, 1) := by decide +kernel
theorem dX10_ratio_12 : decode mX10_ratio.2.1 12 = .ok (.invokevirtual 129, 3) := by decide +kernel
theorem dX10_ratio_15 : decode mX10_ratio.2.1 15 = .ok (.ifCond .eq 12, 3) := by decide +kernel
theorem dX10_ratio_18 : decode mX10_ratio.2.1 18 = .ok (.iload_n 3, 1) := by decide +kernel
theorem dX10_ratio_19 : decode mX10_ratio.2.1 19 = .ok (.ifCond .lt 8, 3) := by decide +kernel
theorem dX10_ratio_22 : decode mX10_ratio.2.1 22 = .ok (.iload_n 3, 1) := by decide +kernel
theorem dX10_ratio_23 : decode mX10_ratio.2.1 23 = .ok (.iconst 1, 1) := by decide +kernel
theorem dX10_ratio_24 : decode mX10_ratio.2.1 24 = .ok (.if_icmp .le 7, 3) := by decide +kernel
theorem dX10_ratio_27 : decode mX10_ratio.2.1 27 = .ok (.ldc2_w 183, 3) := by decide +kernel
theorem dX10_ratio_30 : decode mX10_ratio.2.1 30 = .ok (.lreturn, 1) := by decide +kernel
theorem dX10_ratio_31 : decode mX10_ratio.2.1 31 = .ok (.aload_n 0, 1) := by decide +kernel
theorem dX10_ratio_32 : decode mX10_ratio.2.1 32 = .ok (.getfield 61, 3) := by decide +kernel
theorem dX10_ratio_35 : decode mX10_ratio.2.1 35 = .ok (.aload_n 0, 1) := by decide +kernel
theorem dX10_ratio_36 : decode mX10_ratio.2.1 36 = .ok (.getfield 19, 3) := by decide +kernel
theorem dX10_ratio_39 : decode mX10_ratio.2.1 39 = .ok (.iload_n 1, 1) := by decide +kernel
theorem dX10_ratio_40 : decode mX10_ratio.2.1 40 = .ok (.invokevirtual 231, 3) := by decide +kernel
theorem dX10_ratio_43 : decode mX10_ratio.2.1 43 = .ok (.aload_n 0, 1) := by decide +kernel
theorem dX10_ratio_44 : decode mX10_ratio.2.1 44 = .ok (.getfield 61, 3) := by decide +kernel
theorem dX10_ratio_47 : decode mX10_ratio.2.1 47 = .ok (.getfield 235, 3) := by decide +kernel
theorem dX10_ratio_50 : decode mX10_ratio.2.1 50 = .ok (.iload_n 2, 1) := by decide +kernel
theorem dX10_ratio_51 : decode mX10_ratio.2.1 51 = .ok (.iaload, 1) := by decide +kernel
theorem dX10_ratio_52 : decode mX10_ratio.2.1 52 = .ok (.lookupswitch 34 #[(0, 28), (2, 32)], 28) := by decide +kernel
theorem dX10_ratio_80 : decode mX10_ratio.2.1 80 = .ok (.ldc2_w 190, 3) := by decide +kernel
theorem dX10_ratio_83 : decode mX10_ratio.2.1 83 = .ok (.lreturn, 1) := by decide +kernel
theorem dX10_ratio_84 : decode mX10_ratio.2.1 84 = .ok (.lconst 0, 1) := by decide +kernel
theorem dX10_ratio_85 : decode mX10_ratio.2.1 85 = .ok (.lreturn, 1) := by decide +kernel
theorem dX10_ratio_86 : decode mX10_ratio.2.1 86 = .ok (.iload_n 3, 1) := by decide +kernel
theorem dX10_ratio_87 : decode mX10_ratio.2.1 87 = .ok (.ifCond .ne 15, 3) := by decide +kernel
theorem dX10_ratio_90 : decode mX10_ratio.2.1 90 = .ok (.aload_n 0, 1) := by decide +kernel
theorem dX10_ratio_91 : decode mX10_ratio.2.1 91 = .ok (.getfield 61, 3) := by decide +kernel
theorem dX10_ratio_94 : decode mX10_ratio.2.1 94 = .ok (.getfield 238, 3) := by decide +kernel
theorem dX10_ratio_97 : decode mX10_ratio.2.1 97 = .ok (.iload_n 2, 1) := by decide +kernel
theorem dX10_ratio_98 : decode mX10_ratio.2.1 98 = .ok (.laload, 1) := by decide +kernel
theorem dX10_ratio_99 : decode mX10_ratio.2.1 99 = .ok (.goto 12, 3) := by decide +kernel
theorem dX10_ratio_102 : decode mX10_ratio.2.1 102 = .ok (.aload_n 0, 1) := by decide +kernel
theorem dX10_ratio_103 : decode mX10_ratio.2.1 103 = .ok (.getfield 61, 3) := by decide +kernel
theorem dX10_ratio_106 : decode mX10_ratio.2.1 106 = .ok (.getfield 241, 3) := by decide +kernel
theorem dX10_ratio_109 : decode mX10_ratio.2.1 109 = .ok (.iload_n 2, 1) := by decide +kernel
theorem dX10_ratio_110 : decode mX10_ratio.2.1 110 = .ok (.laload, 1) := by decide +kernel
theorem dX10_ratio_111 : decode mX10_ratio.2.1 111 = .ok (.lreturn, 1) := by decide +kernel
theorem okX10_ratio_129 : gOkV mX10_ratio mX10_isMember 129 2 := ⟨List.forall_mem_cons.mpr ⟨(gm 863 (by decide +kernel) rfl), List.forall_mem_cons.mpr ⟨(gm 860 (by decide +kernel) rfl), List.forall_mem_cons.mpr ⟨(gm 862 (by decide +kernel) rfl), List.forall_mem_cons.mpr ⟨(gm 39 (by decide +kernel) rfl), List.forall_mem_cons.mpr ⟨(gm 107 (by decide +kernel) rfl), fun _ h => absurd h List.not_mem_nil⟩⟩⟩⟩⟩, by decide +kernel, by decide +kernel, by decide +kernel⟩
theorem okX10_ratio_231 : gOkV mX10_ratio mX8_spread 231 2 := ⟨List.forall_mem_cons.mpr ⟨(gm 1006 (by decide +kernel) rfl), List.forall_mem_cons.mpr ⟨(gm 1003 (by decide +kernel) rfl), List.forall_mem_cons.mpr ⟨(gm 1004 (by decide +kernel) rfl), List.forall_mem_cons.mpr ⟨(gm 1005 (by decide +kernel) rfl), List.forall_mem_cons.mpr ⟨(gm 119 (by decide +kernel) rfl), fun _ h => absurd h List.not_mem_nil⟩⟩⟩⟩⟩, by decide +kernel, by decide +kernel, by decide +kernel⟩
def fX10_ratio_27 (p1 : Int32) (p2 : Int32) (p3 : Int32) (σ : gS) : Option (Int64 × gS) :=
  some ((-1000001), σ)
set_option maxHeartbeats 4000000 in
set_option maxRecDepth 100000 in
theorem pX10_ratio_27 {E : gE} {p1 : Int32} {p2 : Int32} {p3 : Int32} {r : Int64} {σ' : gS} {σ : gS} (h : fX10_ratio_27 p1 p2 p3 σ = some (r, σ')) : gG E mX10_ratio 27 [] [] σ (some (.long r)) σ' := by
  unfold fX10_ratio_27 at h
  refine g_ldc2 (v := (-1000001)) dX10_ratio_27 wl_RX10_183 ?_
  obtain ⟨rfl, rfl⟩ := so_inj h
  exact g_lret dX10_ratio_30 rfl
def fX10_ratio_111 (p1 : Int32) (p2 : Int32) (p3 : Int32) (s0 : Int64) (σ : gS) : Option (Int64 × gS) :=
  some (s0, σ)
set_option maxHeartbeats 4000000 in
set_option maxRecDepth 100000 in
theorem pX10_ratio_111 {E : gE} {p1 : Int32} {p2 : Int32} {p3 : Int32} {r : Int64} {σ' : gS} {s0 : Int64} {σ : gS} (h : fX10_ratio_111 p1 p2 p3 s0 σ = some (r, σ')) : gG E mX10_ratio 111 [] [.long s0] σ (some (.long r)) σ' := by
  unfold fX10_ratio_111 at h
  obtain ⟨rfl, rfl⟩ := so_inj h
  exact g_lret dX10_ratio_111 rfl
def fX10_ratio (p1 : Int32) (p2 : Int32) (p3 : Int32) (σ : gS) : Option (Int64 × gS) :=
  bd (fX10_isMember 2 p1 σ) fun x1 σ2 =>
  if x1 = 0 then
    fX10_ratio_27 p1 p2 p3 σ2
  else
    bd (fX10_isMember 2 p2 σ2) fun x5 σ6 =>
    if x5 = 0 then
      fX10_ratio_27 p1 p2 p3 σ6
    else
      if p3 < 0 then
        fX10_ratio_27 p1 p2 p3 σ6
      else
        if p3 ≤ 1 then
          bnd (σ6.2.2 0 1) fun x11 =>
          gg (x11 = 4 ∨ x11 = 16) (
          bd (fX8_spread x11 p1 σ6) fun _ σ13 =>
          gg (¬ (p2 < 0 ∨ 16 ≤ p2.toNatClampNeg)) (
          if (σ13.1 145 p2.toNatClampNeg) = 0 then
            some ((-1000000), σ13)
          else
            if (σ13.1 145 p2.toNatClampNeg) = 2 then
            some (0, σ13)
          else
            if p3 = 0 then
                gg (¬ (p2 < 0 ∨ 16 ≤ p2.toNatClampNeg)) (
                fX10_ratio_111 p1 p2 p3 (σ13.2.1 146 p2.toNatClampNeg) σ13)
              else
                gg (¬ (p2 < 0 ∨ 16 ≤ p2.toNatClampNeg)) (
                fX10_ratio_111 p1 p2 p3 (σ13.2.1 147 p2.toNatClampNeg) σ13)))
        else
          fX10_ratio_27 p1 p2 p3 σ6
set_option maxHeartbeats 4000000 in
set_option maxRecDepth 100000 in
theorem pX10_ratio {E : gE} {p1 : Int32} {p2 : Int32} {p3 : Int32} {r : Int64} {σ' : gS} {σ : gS} (h : fX10_ratio p1 p2 p3 σ = some (r, σ')) : gG E mX10_ratio 0 [(0, .ref 0), (1, .int p1), (2, .int p2), (3, .int p3)] [] σ (some (.long r)) σ' := by
  unfold fX10_ratio at h
  refine g_aload_n dX10_ratio_0 rfl 0 rfl ?_
  refine g_iconst (v := 2) dX10_ratio_1 (by decide) ?_
  refine g_iload_n dX10_ratio_2 rfl 1 rfl ?_
  obtain ⟨x1, σ2, y3, h⟩ := bd_some h
  refine g_callVr (as := [.int 2, .int p1]) (st := []) (zX10_isMember y3) dX10_ratio_3 gi_0 rfl okX10_ratio_129 (Nat.le_of_ble_eq_true rfl) ?_
  refine g_if_eq (t := 27) dX10_ratio_6 (by decide) (fun c4 => ?_) (fun c4 => ?_)
  · replace h := if_t h c4
    refine g_sub [] rfl ?_
    exact pX10_ratio_27 h
  · replace h := if_f h c4
    refine g_aload_n dX10_ratio_9 rfl 0 rfl ?_
    refine g_iconst (v := 2) dX10_ratio_10 (by decide) ?_
    refine g_iload_n dX10_ratio_11 rfl 2 rfl ?_
    obtain ⟨x5, σ6, y7, h⟩ := bd_some h
    refine g_callVr (as := [.int 2, .int p2]) (st := []) (zX10_isMember y7) dX10_ratio_12 gi_0 rfl okX10_ratio_129 (Nat.le_of_ble_eq_true rfl) ?_
    refine g_if_eq (t := 27) dX10_ratio_15 (by decide) (fun c8 => ?_) (fun c8 => ?_)
    · replace h := if_t h c8
      refine g_sub [] rfl ?_
      exact pX10_ratio_27 h
    · replace h := if_f h c8
      refine g_iload_n dX10_ratio_18 rfl 3 rfl ?_
      refine g_if_lt (t := 27) dX10_ratio_19 (by decide) (fun c9 => ?_) (fun c9 => ?_)
      · replace h := if_t h c9
        refine g_sub [] rfl ?_
        exact pX10_ratio_27 h
      · replace h := if_f h c9
        refine g_iload_n dX10_ratio_22 rfl 3 rfl ?_
        refine g_iconst (v := 1) dX10_ratio_23 (by decide) ?_
        refine g_icmp_le (t := 31) dX10_ratio_24 (by decide) (fun c10 => ?_) (fun c10 => ?_)
        · replace h := if_t h c10
          refine g_aload_n dX10_ratio_31 rfl 0 rfl ?_
          refine g_getC (n := 144) dX10_ratio_32 gi_0 rfl fl_RX10_61 ?_
          refine g_aload_n dX10_ratio_35 rfl 0 rfl ?_
          refine g_getR dX10_ratio_36 gi_0 rfl fl_RX10_19 ?_
          obtain ⟨x11, ex11, h⟩ := bnd_nm h
          refine g_topr ex11 ?_
          obtain ⟨g12, h⟩ := gg_some h
          refine g_iload_n dX10_ratio_39 rfl 1 rfl ?_
          obtain ⟨_, σ13, y14, h⟩ := bd_some h
          refine g_callVv (as := [.ref x11, .int p1]) (st := []) (zX8_spread g12 y14) dX10_ratio_40 gi_144 rfl okX10_ratio_231 (Nat.le_of_ble_eq_true rfl) ?_
          refine g_aload_n dX10_ratio_43 rfl 0 rfl ?_
          refine g_getC (n := 144) dX10_ratio_44 gi_0 rfl fl_RX10_61 ?_
          refine g_getC (n := 145) dX10_ratio_47 gi_144 rfl fl_RX10_235 ?_
          refine g_iload_n dX10_ratio_50 rfl 2 rfl ?_
          obtain ⟨g15, h⟩ := gg_some h
          refine g_iald dX10_ratio_51 gi_145 g15 ?_
          by_cases c16 : (σ13.1 145 p2.toNatClampNeg) = 0
          · replace h := if_t h c16
            refine g_look (off := 28) (t := 80) dX10_ratio_52 (by decide) (by rw [c16]; first | done | rfl) (by decide) ?_
            refine g_ldc2 (v := (-1000000)) dX10_ratio_80 wl_RX10_190 ?_
            obtain ⟨rfl, rfl⟩ := so_inj h
            exact g_lret dX10_ratio_83 rfl
          · replace h := if_f h c16
            by_cases c17 : (σ13.1 145 p2.toNatClampNeg) = 2
            · replace h := if_t h c17
              refine g_look (off := 32) (t := 84) dX10_ratio_52 (by decide) (by rw [c17]; first | done | rfl) (by decide) ?_
              refine g_lconst (v := 0) dX10_ratio_84 (by decide) ?_
              obtain ⟨rfl, rfl⟩ := so_inj h
              exact g_lret dX10_ratio_85 rfl
            · replace h := if_f h c17
              refine g_look (off := 34) (t := 86) dX10_ratio_52 (by decide) (by rw [lv_osw c16 (by decide), lv_osw c17 (by decide)]; first | done | rfl) (by decide) ?_
              refine g_iload_n dX10_ratio_86 rfl 3 rfl ?_
              refine g_if_ne (t := 102) dX10_ratio_87 (by decide) (fun c18 => ?_) (fun c18 => ?_)
              · replace h := if_f h c18
                refine g_aload_n dX10_ratio_102 rfl 0 rfl ?_
                refine g_getC (n := 144) dX10_ratio_103 gi_0 rfl fl_RX10_61 ?_
                refine g_getC (n := 147) dX10_ratio_106 gi_144 rfl fl_RX10_241 ?_
                refine g_iload_n dX10_ratio_109 rfl 2 rfl ?_
                obtain ⟨g19, h⟩ := gg_some h
                refine g_lald dX10_ratio_110 gi_147 g19 ?_
                refine g_sub [] rfl ?_
                exact pX10_ratio_111 h
              · replace h := if_t h c18
                refine g_aload_n dX10_ratio_90 rfl 0 rfl ?_
                refine g_getC (n := 144) dX10_ratio_91 gi_0 rfl fl_RX10_61 ?_
                refine g_getC (n := 146) dX10_ratio_94 gi_144 rfl fl_RX10_238 ?_
                refine g_iload_n dX10_ratio_97 rfl 2 rfl ?_
                obtain ⟨g20, h⟩ := gg_some h
                refine g_lald dX10_ratio_98 gi_146 g20 ?_
                refine g_goto (t := 111) dX10_ratio_99 (by decide) ?_
                refine g_sub [] rfl ?_
                exact pX10_ratio_111 h
        · replace h := if_f h c10
          refine g_sub [] rfl ?_
          exact pX10_ratio_27 h
theorem zX10_ratio {E : gE} {p1 : Int32} {p2 : Int32} {p3 : Int32} {r : Int64} {σ σ' : gS} (h : fX10_ratio p1 p2 p3 σ = some (r, σ')) : gC E mX10_ratio [.ref 0, .int p1, .int p2, .int p3] σ (some (.long r)) σ' :=
  gC_of (by decide +kernel) rfl (Nat.le_of_ble_eq_true rfl) (pX10_ratio h)
def mX10_lock : gM := (yX10_lock, cX10_lock, RX10, 1, (some .int), 5, 129)
theorem dX10_lock_0 : decode mX10_lock.2.1 0 = .ok (.aload_n 0, 1) := by decide +kernel
theorem dX10_lock_1 : decode mX10_lock.2.1 1 = .ok (.getfield 61, 3) := by decide +kernel
theorem dX10_lock_4 : decode mX10_lock.2.1 4 = .ok (.aload_n 0, 1) := by decide +kernel
theorem dX10_lock_5 : decode mX10_lock.2.1 5 = .ok (.getfield 19, 3) := by decide +kernel
theorem dX10_lock_8 : decode mX10_lock.2.1 8 = .ok (.invokevirtual 244, 3) := by decide +kernel
theorem dX10_lock_11 : decode mX10_lock.2.1 11 = .ok (.ireturn, 1) := by decide +kernel
theorem okX10_lock_244 : gOkV mX10_lock mX8_firstLock 244 1 := ⟨List.forall_mem_cons.mpr ⟨(gm 1039 (by decide +kernel) rfl), List.forall_mem_cons.mpr ⟨(gm 1036 (by decide +kernel) rfl), List.forall_mem_cons.mpr ⟨(gm 1037 (by decide +kernel) rfl), List.forall_mem_cons.mpr ⟨(gm 1038 (by decide +kernel) rfl), List.forall_mem_cons.mpr ⟨(gm 119 (by decide +kernel) rfl), fun _ h => absurd h List.not_mem_nil⟩⟩⟩⟩⟩, by decide +kernel, by decide +kernel, by decide +kernel⟩
def fX10_lock (σ : gS) : Option (Int32 × gS) :=
  bnd (σ.2.2 0 1) fun x1 =>
  gg (x1 = 4 ∨ x1 = 16) (
  bd (fX8_firstLock x1 σ) fun x3 σ4 =>
  some (x3, σ4))
set_option maxHeartbeats 4000000 in
set_option maxRecDepth 100000 in
theorem pX10_lock {E : gE} {r : Int32} {σ' : gS} {σ : gS} (h : fX10_lock σ = some (r, σ')) : gG E mX10_lock 0 [(0, .ref 0)] [] σ (some (.int r)) σ' := by
  unfold fX10_lock at h
  refine g_aload_n dX10_lock_0 rfl 0 rfl ?_
  refine g_getC (n := 144) dX10_lock_1 gi_0 rfl fl_RX10_61 ?_
  refine g_aload_n dX10_lock_4 rfl 0 rfl ?_
  refine g_getR dX10_lock_5 gi_0 rfl fl_RX10_19 ?_
  obtain ⟨x1, ex1, h⟩ := bnd_nm h
  refine g_topr ex1 ?_
  obtain ⟨g2, h⟩ := gg_some h
  obtain ⟨x3, σ4, y5, h⟩ := bd_some h
  refine g_callVr (as := [.ref x1]) (st := []) (zX8_firstLock g2 y5) dX10_lock_8 gi_144 rfl okX10_lock_244 (Nat.le_of_ble_eq_true rfl) ?_
  obtain ⟨rfl, rfl⟩ := so_inj h
  exact g_iret dX10_lock_11 rfl
theorem zX10_lock {E : gE} {r : Int32} {σ σ' : gS} (h : fX10_lock σ = some (r, σ')) : gC E mX10_lock [.ref 0] σ (some (.int r)) σ' :=
  gC_of (by decide +kernel) rfl (Nat.le_of_ble_eq_true rfl) (pX10_lock h)
def mX10_isLength : gM := (yX10_isLength, cX10_isLength, RX10, 1, (some .boolean), 0, 0)
theorem dX10_isLength_0 : decode mX10_isLength.2.1 0 = .ok (.iload_n 0, 1) := by decide +kernel
theorem dX10_isLength_1 : decode mX10_isLength.2.1 1 = .ok (.iconst 1, 1) := by decide +kernel
theorem dX10_isLength_2 : decode mX10_isLength.2.1 2 = .ok (.if_icmp .lt 14, 3) := by decide +kernel
theorem dX10_isLength_5 : decode mX10_isLength.2.1 5 = .ok (.iload_n 0, 1) := by decide +kernel
theorem dX10_isLength_6 : decode mX10_isLength.2.1 6 = .ok (.sipush 10000, 3) := by decide +kernel
theorem dX10_isLength_9 : decode mX10_isLength.2.1 9 = .ok (.if_icmp .gt 7, 3) := by decide +kernel
theorem dX10_isLength_12 : decode mX10_isLength.2.1 12 = .ok (.iconst 1, 1) := by decide +kernel
theorem dX10_isLength_13 : decode mX10_isLength.2.1 13 = .ok (.goto 4, 3) := by decide +kernel
theorem dX10_isLength_16 : decode mX10_isLength.2.1 16 = .ok (.iconst 0, 1) := by decide +kernel
theorem dX10_isLength_17 : decode mX10_isLength.2.1 17 = .ok (.ireturn, 1) := by decide +kernel
def fX10_isLength_17 (p1 : Int32) (s0 : Int32) (σ : gS) : Option (Int32 × gS) :=
  gg (s0 = 0 ∨ s0 = 1) (
  some (s0, σ))
set_option maxHeartbeats 4000000 in
set_option maxRecDepth 100000 in
theorem pX10_isLength_17 {E : gE} {p1 : Int32} {r : Int32} {σ' : gS} {s0 : Int32} {σ : gS} (h : fX10_isLength_17 p1 s0 σ = some (r, σ')) : gG E mX10_isLength 17 [] [.int s0] σ (some (.int r)) σ' := by
  unfold fX10_isLength_17 at h
  obtain ⟨g1, h⟩ := gg_some h
  obtain ⟨rfl, rfl⟩ := so_inj h
  exact g_zret dX10_isLength_17 rfl g1
def fX10_isLength_16 (p1 : Int32) (σ : gS) : Option (Int32 × gS) :=
  fX10_isLength_17 p1 0 σ
set_option maxHeartbeats 4000000 in
set_option maxRecDepth 100000 in
theorem pX10_isLength_16 {E : gE} {p1 : Int32} {r : Int32} {σ' : gS} {σ : gS} (h : fX10_isLength_16 p1 σ = some (r, σ')) : gG E mX10_isLength 16 [] [] σ (some (.int r)) σ' := by
  unfold fX10_isLength_16 at h
  refine g_iconst (v := 0) dX10_isLength_16 (by decide) ?_
  exact pX10_isLength_17 h
def fX10_isLength (p1 : Int32) (σ : gS) : Option (Int32 × gS) :=
  if p1 < 1 then
    fX10_isLength_16 p1 σ
  else
    if 10000 < p1 then
      fX10_isLength_16 p1 σ
    else
      fX10_isLength_17 p1 1 σ
set_option maxHeartbeats 4000000 in
set_option maxRecDepth 100000 in
theorem pX10_isLength {E : gE} {p1 : Int32} {r : Int32} {σ' : gS} {σ : gS} (h : fX10_isLength p1 σ = some (r, σ')) : gG E mX10_isLength 0 [(0, .int p1)] [] σ (some (.int r)) σ' := by
  unfold fX10_isLength at h
  refine g_iload_n dX10_isLength_0 rfl 0 rfl ?_
  refine g_iconst (v := 1) dX10_isLength_1 (by decide) ?_
  refine g_icmp_lt (t := 16) dX10_isLength_2 (by decide) (fun c1 => ?_) (fun c1 => ?_)
  · replace h := if_t h c1
    refine g_sub [] rfl ?_
    exact pX10_isLength_16 h
  · replace h := if_f h c1
    refine g_iload_n dX10_isLength_5 rfl 0 rfl ?_
    refine g_sipush (v := 10000) dX10_isLength_6 (by decide) ?_
    refine g_icmp_gt (t := 16) dX10_isLength_9 (by decide) (fun c2 => ?_) (fun c2 => ?_)
    · replace h := if_t h c2
      refine g_sub [] rfl ?_
      exact pX10_isLength_16 h
    · replace h := if_f h c2
      refine g_iconst (v := 1) dX10_isLength_12 (by decide) ?_
      refine g_goto (t := 17) dX10_isLength_13 (by decide) ?_
      refine g_sub [] rfl ?_
      exact pX10_isLength_17 h
theorem zX10_isLength {E : gE} {p1 : Int32} {r : Int32} {σ σ' : gS} (h : fX10_isLength p1 σ = some (r, σ')) : gC E mX10_isLength [.int p1] σ (some (.int r)) σ' :=
  gC_of (by decide +kernel) rfl (Nat.le_of_ble_eq_true rfl) (pX10_isLength h)
def mJ9_max_7cf53 : gM := (yJ9_max_7cf53, cJ9_max_7cf53, RJ9, 2, (some .int), 0, 0)
theorem dJ9_max_7cf53_0 : decode mJ9_max_7cf53.2.1 0 = .ok (.iload_n 0, 1) := by decide +kernel
theorem dJ9_max_7cf53_1 : decode mJ9_max_7cf53.2.1 1 = .ok (.iload_n 1, 1) := by decide +kernel
theorem dJ9_max_7cf53_2 : decode mJ9_max_7cf53.2.1 2 = .ok (.if_icmp .lt 7, 3) := by decide +kernel
theorem dJ9_max_7cf53_5 : decode mJ9_max_7cf53.2.1 5 = .ok (.iload_n 0, 1) := by decide +kernel
theorem dJ9_max_7cf53_6 : decode mJ9_max_7cf53.2.1 6 = .ok (.goto 4, 3) := by decide +kernel
theorem dJ9_max_7cf53_9 : decode mJ9_max_7cf53.2.1 9 = .ok (.iload_n 1, 1) := by decide +kernel
theorem dJ9_max_7cf53_10 : decode mJ9_max_7cf53.2.1 10 = .ok (.ireturn, 1) := by decide +kernel
def fJ9_max_7cf53_10 (p1 : Int32) (p2 : Int32) (s0 : Int32) (σ : gS) : Option (Int32 × gS) :=
  some (s0, σ)
set_option maxHeartbeats 4000000 in
set_option maxRecDepth 100000 in
theorem pJ9_max_7cf53_10 {E : gE} {p1 : Int32} {p2 : Int32} {r : Int32} {σ' : gS} {s0 : Int32} {σ : gS} (h : fJ9_max_7cf53_10 p1 p2 s0 σ = some (r, σ')) : gG E mJ9_max_7cf53 10 [] [.int s0] σ (some (.int r)) σ' := by
  unfold fJ9_max_7cf53_10 at h
  obtain ⟨rfl, rfl⟩ := so_inj h
  exact g_iret dJ9_max_7cf53_10 rfl
def fJ9_max_7cf53 (p1 : Int32) (p2 : Int32) (σ : gS) : Option (Int32 × gS) :=
  if p1 < p2 then
    fJ9_max_7cf53_10 p1 p2 p2 σ
  else
    fJ9_max_7cf53_10 p1 p2 p1 σ
set_option maxHeartbeats 4000000 in
set_option maxRecDepth 100000 in
theorem pJ9_max_7cf53 {E : gE} {p1 : Int32} {p2 : Int32} {r : Int32} {σ' : gS} {σ : gS} (h : fJ9_max_7cf53 p1 p2 σ = some (r, σ')) : gG E mJ9_max_7cf53 0 [(0, .int p1), (1, .int p2)] [] σ (some (.int r)) σ' := by
  unfold fJ9_max_7cf53 at h
  refine g_iload_n dJ9_max_7cf53_0 rfl 0 rfl ?_
  refine g_iload_n dJ9_max_7cf53_1 rfl 1 rfl ?_
  refine g_icmp_lt (t := 9) dJ9_max_7cf53_2 (by decide) (fun c1 => ?_) (fun c1 => ?_)
  · replace h := if_t h c1
    refine g_iload_n dJ9_max_7cf53_9 rfl 1 rfl ?_
    refine g_sub [] rfl ?_
    exact pJ9_max_7cf53_10 h
  · replace h := if_f h c1
    refine g_iload_n dJ9_max_7cf53_5 rfl 0 rfl ?_
    refine g_goto (t := 10) dJ9_max_7cf53_6 (by decide) ?_
    refine g_sub [] rfl ?_
    exact pJ9_max_7cf53_10 h
theorem zJ9_max_7cf53 {E : gE} {p1 : Int32} {p2 : Int32} {r : Int32} {σ σ' : gS} (h : fJ9_max_7cf53 p1 p2 σ = some (r, σ')) : gC E mJ9_max_7cf53 [.int p1, .int p2] σ (some (.int r)) σ' :=
  gC_ofF (by decide +kernel) rfl (Nat.le_of_ble_eq_true rfl) (pJ9_max_7cf53 h)
def mJ9_min_7cf53 : gM := (yJ9_min_7cf53, cJ9_min_7cf53, RJ9, 2, (some .int), 0, 0)
theorem dJ9_min_7cf53_0 : decode mJ9_min_7cf53.2.1 0 = .ok (.iload_n 0, 1) := by decide +kernel
theorem dJ9_min_7cf53_1 : decode mJ9_min_7cf53.2.1 1 = .ok (.iload_n 1, 1) := by decide +kernel
theorem dJ9_min_7cf53_2 : decode mJ9_min_7cf53.2.1 2 = .ok (.if_icmp .gt 7, 3) := by decide +kernel
theorem dJ9_min_7cf53_5 : decode mJ9_min_7cf53.2.1 5 = .ok (.iload_n 0, 1) := by decide +kernel
theorem dJ9_min_7cf53_6 : decode mJ9_min_7cf53.2.1 6 = .ok (.goto 4, 3) := by decide +kernel
theorem dJ9_min_7cf53_9 : decode mJ9_min_7cf53.2.1 9 = .ok (.iload_n 1, 1) := by decide +kernel
theorem dJ9_min_7cf53_10 : decode mJ9_min_7cf53.2.1 10 = .ok (.ireturn, 1) := by decide +kernel
def fJ9_min_7cf53_10 (p1 : Int32) (p2 : Int32) (s0 : Int32) (σ : gS) : Option (Int32 × gS) :=
  some (s0, σ)
set_option maxHeartbeats 4000000 in
set_option maxRecDepth 100000 in
theorem pJ9_min_7cf53_10 {E : gE} {p1 : Int32} {p2 : Int32} {r : Int32} {σ' : gS} {s0 : Int32} {σ : gS} (h : fJ9_min_7cf53_10 p1 p2 s0 σ = some (r, σ')) : gG E mJ9_min_7cf53 10 [] [.int s0] σ (some (.int r)) σ' := by
  unfold fJ9_min_7cf53_10 at h
  obtain ⟨rfl, rfl⟩ := so_inj h
  exact g_iret dJ9_min_7cf53_10 rfl
def fJ9_min_7cf53 (p1 : Int32) (p2 : Int32) (σ : gS) : Option (Int32 × gS) :=
  if p2 < p1 then
    fJ9_min_7cf53_10 p1 p2 p2 σ
  else
    fJ9_min_7cf53_10 p1 p2 p1 σ
set_option maxHeartbeats 4000000 in
set_option maxRecDepth 100000 in
theorem pJ9_min_7cf53 {E : gE} {p1 : Int32} {p2 : Int32} {r : Int32} {σ' : gS} {σ : gS} (h : fJ9_min_7cf53 p1 p2 σ = some (r, σ')) : gG E mJ9_min_7cf53 0 [(0, .int p1), (1, .int p2)] [] σ (some (.int r)) σ' := by
  unfold fJ9_min_7cf53 at h
  refine g_iload_n dJ9_min_7cf53_0 rfl 0 rfl ?_
  refine g_iload_n dJ9_min_7cf53_1 rfl 1 rfl ?_
  refine g_icmp_gt (t := 9) dJ9_min_7cf53_2 (by decide) (fun c1 => ?_) (fun c1 => ?_)
  · replace h := if_t h c1
    refine g_iload_n dJ9_min_7cf53_9 rfl 1 rfl ?_
    refine g_sub [] rfl ?_
    exact pJ9_min_7cf53_10 h
  · replace h := if_f h c1
    refine g_iload_n dJ9_min_7cf53_5 rfl 0 rfl ?_
    refine g_goto (t := 10) dJ9_min_7cf53_6 (by decide) ?_
    refine g_sub [] rfl ?_
    exact pJ9_min_7cf53_10 h
theorem zJ9_min_7cf53 {E : gE} {p1 : Int32} {p2 : Int32} {r : Int32} {σ σ' : gS} (h : fJ9_min_7cf53 p1 p2 σ = some (r, σ')) : gC E mJ9_min_7cf53 [.int p1, .int p2] σ (some (.int r)) σ' :=
  gC_ofF (by decide +kernel) rfl (Nat.le_of_ble_eq_true rfl) (pJ9_min_7cf53 h)
def mX10_fourBars : gM := (yX10_fourBars, cX10_fourBars, RX10, 9, (some .int), 1, 21)
theorem dX10_fourBars_0 : decode mX10_fourBars.2.1 0 = .ok (.iload_n 1, 1) := by decide +kernel
theorem dX10_fourBars_1 : decode mX10_fourBars.2.1 1 = .ok (.invokestatic 248, 3) := by decide +kernel
theorem dX10_fourBars_4 : decode mX10_fourBars.2.1 4 = .ok (.ifCond .eq 25, 3) := by decide +kernel
theorem dX10_fourBars_7 : decode mX10_fourBars.2.1 7 = .ok (.iload_n 2, 1) := by decide +kernel
theorem dX10_fourBars_8 : decode mX10_fourBars.2.1 8 = .ok (.invokestatic 248, 3) := by decide +kernel
theorem dX10_fourBars_11 : decode mX10_fourBars.2.1 11 = .ok (.ifCond .eq 18, 3) := by decide +kernel
theorem dX10_fourBars_14 : decode mX10_fourBars.2.1 14 = .ok (.iload_n 3, 1) := by decide +kernel
theorem dX10_fourBars_15 : decode mX10_fourBars.2.1 15 = .ok (.invokestatic 248, 3) := by decide +kernel
theorem dX10_fourBars_18 : decode mX10_fourBars.2.1 18 = .ok (.ifCond .eq 11, 3) := by decide +kernel
theorem dX10_fourBars_21 : decode mX10_fourBars.2.1 21 = .ok (.iload 4, 2) := by decide +kernel
theorem dX10_fourBars_23 : decode mX10_fourBars.2.1 23 = .ok (.invokestatic 248, 3) := by decide +kernel
theorem dX10_fourBars_26 : decode mX10_fourBars.2.1 26 = .ok (.ifCond .ne 6, 3) := by decide +kernel
theorem dX10_fourBars_29 : decode mX10_fourBars.2.1 29 = .ok (.ldc 79, 2) := by decide +kernel
theorem dX10_fourBars_31 : decode mX10_fourBars.2.1 31 = .ok (.ireturn, 1) := by decide +kernel
theorem dX10_fourBars_32 : decode mX10_fourBars.2.1 32 = .ok (.iload_n 1, 1) := by decide +kernel
theorem dX10_fourBars_33 : decode mX10_fourBars.2.1 33 = .ok (.iload_n 2, 1) := by decide +kernel
theorem dX10_fourBars_34 : decode mX10_fourBars.2.1 34 = .ok (.iadd, 1) := by decide +kernel
theorem dX10_fourBars_35 : decode mX10_fourBars.2.1 35 = .ok (.iload_n 3, 1) := by decide +kernel
theorem dX10_fourBars_36 : decode mX10_fourBars.2.1 36 = .ok (.iadd, 1) := by decide +kernel
theorem dX10_fourBars_37 : decode mX10_fourBars.2.1 37 = .ok (.iload 4, 2) := by decide +kernel
theorem dX10_fourBars_39 : decode mX10_fourBars.2.1 39 = .ok (.iadd, 1) := by decide +kernel
theorem dX10_fourBars_40 : decode mX10_fourBars.2.1 40 = .ok (.istore 5, 2) := by decide +kernel
theorem dX10_fourBars_42 : decode mX10_fourBars.2.1 42 = .ok (.iload_n 1, 1) := by decide +kernel
theorem dX10_fourBars_43 : decode mX10_fourBars.2.1 43 = .ok (.iload_n 2, 1) := by decide +kernel
theorem dX10_fourBars_44 : decode mX10_fourBars.2.1 44 = .ok (.invokestatic 251, 3) := by decide +kernel
theorem dX10_fourBars_47 : decode mX10_fourBars.2.1 47 = .ok (.iload_n 3, 1) := by decide +kernel
theorem dX10_fourBars_48 : decode mX10_fourBars.2.1 48 = .ok (.iload 4, 2) := by decide +kernel
theorem dX10_fourBars_50 : decode mX10_fourBars.2.1 50 = .ok (.invokestatic 251, 3) := by decide +kernel
theorem dX10_fourBars_53 : decode mX10_fourBars.2.1 53 = .ok (.invokestatic 251, 3) := by decide +kernel
theorem dX10_fourBars_56 : decode mX10_fourBars.2.1 56 = .ok (.istore 6, 2) := by decide +kernel
theorem dX10_fourBars_58 : decode mX10_fourBars.2.1 58 = .ok (.iload_n 1, 1) := by decide +kernel
theorem dX10_fourBars_59 : decode mX10_fourBars.2.1 59 = .ok (.iload_n 2, 1) := by decide +kernel
theorem dX10_fourBars_60 : decode mX10_fourBars.2.1 60 = .ok (.invokestatic 256, 3) := by decide +kernel
theorem dX10_fourBars_63 : decode mX10_fourBars.2.1 63 = .ok (.iload_n 3, 1) := by decide +kernel
theorem dX10_fourBars_64 : decode mX10_fourBars.2.1 64 = .ok (.iload 4, 2) := by decide +kernel
theorem dX10_fourBars_66 : decode mX10_fourBars.2.1 66 = .ok (.invokestatic 256, 3) := by decide +kernel
theorem dX10_fourBars_69 : decode mX10_fourBars.2.1 69 = .ok (.invokestatic 256, 3) := by decide +kernel
theorem dX10_fourBars_72 : decode mX10_fourBars.2.1 72 = .ok (.istore 7, 2) := by decide +kernel
theorem dX10_fourBars_74 : decode mX10_fourBars.2.1 74 = .ok (.iload 5, 2) := by decide +kernel
theorem dX10_fourBars_76 : decode mX10_fourBars.2.1 76 = .ok (.iload 6, 2) := by decide +kernel
theorem dX10_fourBars_78 : decode mX10_fourBars.2.1 78 = .ok (.isub, 1) := by decide +kernel
theorem dX10_fourBars_79 : decode mX10_fourBars.2.1 79 = .ok (.iload 7, 2) := by decide +kernel
theorem dX10_fourBars_81 : decode mX10_fourBars.2.1 81 = .ok (.isub, 1) := by decide +kernel
theorem dX10_fourBars_82 : decode mX10_fourBars.2.1 82 = .ok (.istore 8, 2) := by decide +kernel
theorem dX10_fourBars_84 : decode mX10_fourBars.2.1 84 = .ok (.iload 6, 2) := by decide +kernel
theorem dX10_fourBars_86 : decode mX10_fourBars.2.1 86 = .ok (.iload 5, 2) := by decide +kernel
theorem dX10_fourBars_88 : decode mX10_fourBars.2.1 88 = .ok (.iload 6, 2) := by decide +kernel
theorem dX10_fourBars_90 : decode mX10_fourBars.2.1 90 = .ok (.isub, 1) := by decide +kernel
theorem dX10_fourBars_91 : decode mX10_fourBars.2.1 91 = .ok (.if_icmp .lt 5, 3) := by decide +kernel
theorem dX10_fourBars_94 : decode mX10_fourBars.2.1 94 = .ok (.iconst 0, 1) := by decide +kernel
theorem dX10_fourBars_95 : decode mX10_fourBars.2.1 95 = .ok (.ireturn, 1) := by decide +kernel
theorem dX10_fourBars_96 : decode mX10_fourBars.2.1 96 = .ok (.iload 7, 2) := by decide +kernel
theorem dX10_fourBars_98 : decode mX10_fourBars.2.1 98 = .ok (.iload 6, 2) := by decide +kernel
theorem dX10_fourBars_100 : decode mX10_fourBars.2.1 100 = .ok (.iadd, 1) := by decide +kernel
theorem dX10_fourBars_101 : decode mX10_fourBars.2.1 101 = .ok (.iload 8, 2) := by decide +kernel
theorem dX10_fourBars_103 : decode mX10_fourBars.2.1 103 = .ok (.if_icmp .lt 19, 3) := by decide +kernel
theorem dX10_fourBars_106 : decode mX10_fourBars.2.1 106 = .ok (.iload 7, 2) := by decide +kernel
theorem dX10_fourBars_108 : decode mX10_fourBars.2.1 108 = .ok (.iload 6, 2) := by decide +kernel
theorem dX10_fourBars_110 : decode mX10_fourBars.2.1 110 = .ok (.iadd, 1) := by decide +kernel
theorem dX10_fourBars_111 : decode mX10_fourBars.2.1 111 = .ok (.iload 8, 2) := by decide +kernel
theorem dX10_fourBars_113 : decode mX10_fourBars.2.1 113 = .ok (.if_icmp .le 7, 3) := by decide +kernel
theorem dX10_fourBars_116 : decode mX10_fourBars.2.1 116 = .ok (.iconst 1, 1) := by decide +kernel
theorem dX10_fourBars_117 : decode mX10_fourBars.2.1 117 = .ok (.goto 4, 3) := by decide +kernel
theorem dX10_fourBars_120 : decode mX10_fourBars.2.1 120 = .ok (.iconst 2, 1) := by decide +kernel
theorem dX10_fourBars_121 : decode mX10_fourBars.2.1 121 = .ok (.ireturn, 1) := by decide +kernel
theorem dX10_fourBars_122 : decode mX10_fourBars.2.1 122 = .ok (.iload 7, 2) := by decide +kernel
theorem dX10_fourBars_124 : decode mX10_fourBars.2.1 124 = .ok (.iload_n 1, 1) := by decide +kernel
theorem dX10_fourBars_125 : decode mX10_fourBars.2.1 125 = .ok (.if_icmp .ne 5, 3) := by decide +kernel
theorem dX10_fourBars_128 : decode mX10_fourBars.2.1 128 = .ok (.iconst 3, 1) := by decide +kernel
theorem dX10_fourBars_129 : decode mX10_fourBars.2.1 129 = .ok (.ireturn, 1) := by decide +kernel
theorem dX10_fourBars_130 : decode mX10_fourBars.2.1 130 = .ok (.iload 7, 2) := by decide +kernel
theorem dX10_fourBars_132 : decode mX10_fourBars.2.1 132 = .ok (.iload_n 2, 1) := by decide +kernel
theorem dX10_fourBars_133 : decode mX10_fourBars.2.1 133 = .ok (.if_icmp .ne 5, 3) := by decide +kernel
theorem dX10_fourBars_136 : decode mX10_fourBars.2.1 136 = .ok (.iconst 4, 1) := by decide +kernel
theorem dX10_fourBars_137 : decode mX10_fourBars.2.1 137 = .ok (.ireturn, 1) := by decide +kernel
theorem dX10_fourBars_138 : decode mX10_fourBars.2.1 138 = .ok (.iload 7, 2) := by decide +kernel
theorem dX10_fourBars_140 : decode mX10_fourBars.2.1 140 = .ok (.iload_n 3, 1) := by decide +kernel
theorem dX10_fourBars_141 : decode mX10_fourBars.2.1 141 = .ok (.if_icmp .ne 7, 3) := by decide +kernel
theorem dX10_fourBars_144 : decode mX10_fourBars.2.1 144 = .ok (.iconst 5, 1) := by decide +kernel
theorem dX10_fourBars_145 : decode mX10_fourBars.2.1 145 = .ok (.goto 5, 3) := by decide +kernel
theorem dX10_fourBars_148 : decode mX10_fourBars.2.1 148 = .ok (.bipush 6, 2) := by decide +kernel
theorem dX10_fourBars_150 : decode mX10_fourBars.2.1 150 = .ok (.ireturn, 1) := by decide +kernel
theorem okX10_fourBars_248 : gOkS mX10_fourBars mX10_isLength 248 1 := ⟨List.forall_mem_cons.mpr ⟨(gm 1051 (by decide +kernel) rfl), List.forall_mem_cons.mpr ⟨(gm 1049 (by decide +kernel) rfl), List.forall_mem_cons.mpr ⟨(gm 1050 (by decide +kernel) rfl), List.forall_mem_cons.mpr ⟨(gm 107 (by decide +kernel) rfl), fun _ h => absurd h List.not_mem_nil⟩⟩⟩⟩, by decide +kernel, by decide +kernel, by decide +kernel⟩
theorem okX10_fourBars_251 : gOkS mX10_fourBars mJ9_max_7cf53 251 2 := ⟨List.forall_mem_cons.mpr ⟨(gm 1054 (by decide +kernel) rfl), List.forall_mem_cons.mpr ⟨(gm 1052 (by decide +kernel) rfl), List.forall_mem_cons.mpr ⟨(gm 1053 (by decide +kernel) rfl), List.forall_mem_cons.mpr ⟨(gm 124 (by decide +kernel) rfl), fun _ h => absurd h List.not_mem_nil⟩⟩⟩⟩, by decide +kernel, by decide +kernel, by decide +kernel⟩
theorem okX10_fourBars_256 : gOkS mX10_fourBars mJ9_min_7cf53 256 2 := ⟨List.forall_mem_cons.mpr ⟨(gm 1057 (by decide +kernel) rfl), List.forall_mem_cons.mpr ⟨(gm 1055 (by decide +kernel) rfl), List.forall_mem_cons.mpr ⟨(gm 1056 (by decide +kernel) rfl), List.forall_mem_cons.mpr ⟨(gm 124 (by decide +kernel) rfl), fun _ h => absurd h List.not_mem_nil⟩⟩⟩⟩, by decide +kernel, by decide +kernel, by decide +kernel⟩
def fX10_fourBars_29 (p1 : Int32) (p2 : Int32) (p3 : Int32) (p4 : Int32) (σ : gS) : Option (Int32 × gS) :=
  some ((-1000001), σ)
set_option maxHeartbeats 4000000 in
set_option maxRecDepth 100000 in
theorem pX10_fourBars_29 {E : gE} {p1 : Int32} {p2 : Int32} {p3 : Int32} {p4 : Int32} {r : Int32} {σ' : gS} {σ : gS} (h : fX10_fourBars_29 p1 p2 p3 p4 σ = some (r, σ')) : gG E mX10_fourBars 29 [] [] σ (some (.int r)) σ' := by
  unfold fX10_fourBars_29 at h
  refine g_ldc (v := (-1000001)) dX10_fourBars_29 wc_RX10_79 ?_
  obtain ⟨rfl, rfl⟩ := so_inj h
  exact g_iret dX10_fourBars_31 rfl
def fX10_fourBars_121 (p1 : Int32) (p2 : Int32) (p3 : Int32) (p4 : Int32) (s0 : Int32) (σ : gS) : Option (Int32 × gS) :=
  some (s0, σ)
set_option maxHeartbeats 4000000 in
set_option maxRecDepth 100000 in
theorem pX10_fourBars_121 {E : gE} {p1 : Int32} {p2 : Int32} {p3 : Int32} {p4 : Int32} {r : Int32} {σ' : gS} {s0 : Int32} {σ : gS} (h : fX10_fourBars_121 p1 p2 p3 p4 s0 σ = some (r, σ')) : gG E mX10_fourBars 121 [] [.int s0] σ (some (.int r)) σ' := by
  unfold fX10_fourBars_121 at h
  obtain ⟨rfl, rfl⟩ := so_inj h
  exact g_iret dX10_fourBars_121 rfl
def fX10_fourBars_150 (p1 : Int32) (p2 : Int32) (p3 : Int32) (p4 : Int32) (s0 : Int32) (σ : gS) : Option (Int32 × gS) :=
  some (s0, σ)
set_option maxHeartbeats 4000000 in
set_option maxRecDepth 100000 in
theorem pX10_fourBars_150 {E : gE} {p1 : Int32} {p2 : Int32} {p3 : Int32} {p4 : Int32} {r : Int32} {σ' : gS} {s0 : Int32} {σ : gS} (h : fX10_fourBars_150 p1 p2 p3 p4 s0 σ = some (r, σ')) : gG E mX10_fourBars 150 [] [.int s0] σ (some (.int r)) σ' := by
  unfold fX10_fourBars_150 at h
  obtain ⟨rfl, rfl⟩ := so_inj h
  exact g_iret dX10_fourBars_150 rfl
def fX10_fourBars (p1 : Int32) (p2 : Int32) (p3 : Int32) (p4 : Int32) (σ : gS) : Option (Int32 × gS) :=
  bd (fX10_isLength p1 σ) fun x1 σ2 =>
  if x1 = 0 then
    fX10_fourBars_29 p1 p2 p3 p4 σ2
  else
    bd (fX10_isLength p2 σ2) fun x5 σ6 =>
    if x5 = 0 then
      fX10_fourBars_29 p1 p2 p3 p4 σ6
    else
      bd (fX10_isLength p3 σ6) fun x9 σ10 =>
      if x9 = 0 then
        fX10_fourBars_29 p1 p2 p3 p4 σ10
      else
        bd (fX10_isLength p4 σ10) fun x13 σ14 =>
        if x13 = 0 then
          fX10_fourBars_29 p1 p2 p3 p4 σ14
        else
          bnd (((p1 + p2) + p3) + p4) fun x17 =>
          bd (fJ9_max_7cf53 p1 p2 σ14) fun x18 σ19 =>
          bd (fJ9_max_7cf53 p3 p4 σ19) fun x21 σ22 =>
          bd (fJ9_max_7cf53 x18 x21 σ22) fun x24 σ25 =>
          bd (fJ9_min_7cf53 p1 p2 σ25) fun x27 σ28 =>
          bd (fJ9_min_7cf53 p3 p4 σ28) fun x30 σ31 =>
          bd (fJ9_min_7cf53 x27 x30 σ31) fun x33 σ34 =>
          bnd ((x17 - x24) - x33) fun x36 =>
          if x24 < (x17 - x24) then
            if (x33 + x24) < x36 then
              if x33 = p1 then
                some (3, σ34)
              else
                if x33 = p2 then
                  some (4, σ34)
                else
                  if x33 = p3 then
                    fX10_fourBars_150 p1 p2 p3 p4 5 σ34
                  else
                    fX10_fourBars_150 p1 p2 p3 p4 6 σ34
            else
              if (x33 + x24) ≤ x36 then
                fX10_fourBars_121 p1 p2 p3 p4 2 σ34
              else
                fX10_fourBars_121 p1 p2 p3 p4 1 σ34
          else
            some (0, σ34)
set_option maxHeartbeats 4000000 in
set_option maxRecDepth 100000 in
theorem pX10_fourBars {E : gE} {p1 : Int32} {p2 : Int32} {p3 : Int32} {p4 : Int32} {r : Int32} {σ' : gS} {σ : gS} (h : fX10_fourBars p1 p2 p3 p4 σ = some (r, σ')) : gG E mX10_fourBars 0 [(0, .ref 0), (1, .int p1), (2, .int p2), (3, .int p3), (4, .int p4)] [] σ (some (.int r)) σ' := by
  unfold fX10_fourBars at h
  refine g_iload_n dX10_fourBars_0 rfl 1 rfl ?_
  obtain ⟨x1, σ2, y3, h⟩ := bd_some h
  refine g_callSr (as := [.int p1]) (st := []) (zX10_isLength y3) dX10_fourBars_1 okX10_fourBars_248 (Nat.le_of_ble_eq_true rfl) ?_
  refine g_if_eq (t := 29) dX10_fourBars_4 (by decide) (fun c4 => ?_) (fun c4 => ?_)
  · replace h := if_t h c4
    refine g_sub [] rfl ?_
    exact pX10_fourBars_29 h
  · replace h := if_f h c4
    refine g_iload_n dX10_fourBars_7 rfl 2 rfl ?_
    obtain ⟨x5, σ6, y7, h⟩ := bd_some h
    refine g_callSr (as := [.int p2]) (st := []) (zX10_isLength y7) dX10_fourBars_8 okX10_fourBars_248 (Nat.le_of_ble_eq_true rfl) ?_
    refine g_if_eq (t := 29) dX10_fourBars_11 (by decide) (fun c8 => ?_) (fun c8 => ?_)
    · replace h := if_t h c8
      refine g_sub [] rfl ?_
      exact pX10_fourBars_29 h
    · replace h := if_f h c8
      refine g_iload_n dX10_fourBars_14 rfl 3 rfl ?_
      obtain ⟨x9, σ10, y11, h⟩ := bd_some h
      refine g_callSr (as := [.int p3]) (st := []) (zX10_isLength y11) dX10_fourBars_15 okX10_fourBars_248 (Nat.le_of_ble_eq_true rfl) ?_
      refine g_if_eq (t := 29) dX10_fourBars_18 (by decide) (fun c12 => ?_) (fun c12 => ?_)
      · replace h := if_t h c12
        refine g_sub [] rfl ?_
        exact pX10_fourBars_29 h
      · replace h := if_f h c12
        refine g_iload dX10_fourBars_21 4 rfl ?_
        obtain ⟨x13, σ14, y15, h⟩ := bd_some h
        refine g_callSr (as := [.int p4]) (st := []) (zX10_isLength y15) dX10_fourBars_23 okX10_fourBars_248 (Nat.le_of_ble_eq_true rfl) ?_
        refine g_if_ne (t := 32) dX10_fourBars_26 (by decide) (fun c16 => ?_) (fun c16 => ?_)
        · replace h := if_f h c16
          refine g_iload_n dX10_fourBars_32 rfl 1 rfl ?_
          refine g_iload_n dX10_fourBars_33 rfl 2 rfl ?_
          refine g_iadd dX10_fourBars_34 ?_
          refine g_iload_n dX10_fourBars_35 rfl 3 rfl ?_
          refine g_iadd dX10_fourBars_36 ?_
          refine g_iload dX10_fourBars_37 4 rfl ?_
          refine g_iadd dX10_fourBars_39 ?_
          obtain ⟨x17, ex17, h⟩ := bnd_nm h
          refine g_topi ex17 ?_
          refine g_istore (lv' := [(5, .int x17), (0, .ref 0), (1, .int p1), (2, .int p2), (3, .int p3), (4, .int p4)]) dX10_fourBars_40 (Nat.le_of_ble_eq_true rfl) rfl ?_
          refine g_iload_n dX10_fourBars_42 rfl 2 rfl ?_
          refine g_iload_n dX10_fourBars_43 rfl 3 rfl ?_
          obtain ⟨x18, σ19, y20, h⟩ := bd_some h
          refine g_callSr (as := [.int p1, .int p2]) (st := []) (zJ9_max_7cf53 y20) dX10_fourBars_44 okX10_fourBars_251 (Nat.le_of_ble_eq_true rfl) ?_
          refine g_iload_n dX10_fourBars_47 rfl 4 rfl ?_
          refine g_iload dX10_fourBars_48 5 rfl ?_
          obtain ⟨x21, σ22, y23, h⟩ := bd_some h
          refine g_callSr (as := [.int p3, .int p4]) (st := [.int x18]) (zJ9_max_7cf53 y23) dX10_fourBars_50 okX10_fourBars_251 (Nat.le_of_ble_eq_true rfl) ?_
          obtain ⟨x24, σ25, y26, h⟩ := bd_some h
          refine g_callSr (as := [.int x18, .int x21]) (st := []) (zJ9_max_7cf53 y26) dX10_fourBars_53 okX10_fourBars_251 (Nat.le_of_ble_eq_true rfl) ?_
          refine g_istore (lv' := [(6, .int x24), (5, .int x17), (0, .ref 0), (1, .int p1), (2, .int p2), (3, .int p3), (4, .int p4)]) dX10_fourBars_56 (Nat.le_of_ble_eq_true rfl) rfl ?_
          refine g_iload_n dX10_fourBars_58 rfl 3 rfl ?_
          refine g_iload_n dX10_fourBars_59 rfl 4 rfl ?_
          obtain ⟨x27, σ28, y29, h⟩ := bd_some h
          refine g_callSr (as := [.int p1, .int p2]) (st := []) (zJ9_min_7cf53 y29) dX10_fourBars_60 okX10_fourBars_256 (Nat.le_of_ble_eq_true rfl) ?_
          refine g_iload_n dX10_fourBars_63 rfl 5 rfl ?_
          refine g_iload dX10_fourBars_64 6 rfl ?_
          obtain ⟨x30, σ31, y32, h⟩ := bd_some h
          refine g_callSr (as := [.int p3, .int p4]) (st := [.int x27]) (zJ9_min_7cf53 y32) dX10_fourBars_66 okX10_fourBars_256 (Nat.le_of_ble_eq_true rfl) ?_
          obtain ⟨x33, σ34, y35, h⟩ := bd_some h
          refine g_callSr (as := [.int x27, .int x30]) (st := []) (zJ9_min_7cf53 y35) dX10_fourBars_69 okX10_fourBars_256 (Nat.le_of_ble_eq_true rfl) ?_
          refine g_istore (lv' := [(7, .int x33), (6, .int x24), (5, .int x17), (0, .ref 0), (1, .int p1), (2, .int p2), (3, .int p3), (4, .int p4)]) dX10_fourBars_72 (Nat.le_of_ble_eq_true rfl) rfl ?_
          refine g_iload dX10_fourBars_74 2 rfl ?_
          refine g_iload dX10_fourBars_76 1 rfl ?_
          refine g_isub dX10_fourBars_78 ?_
          refine g_iload dX10_fourBars_79 0 rfl ?_
          refine g_isub dX10_fourBars_81 ?_
          obtain ⟨x36, ex36, h⟩ := bnd_nm h
          refine g_topi ex36 ?_
          refine g_istore (lv' := [(8, .int x36), (7, .int x33), (6, .int x24), (5, .int x17), (0, .ref 0), (1, .int p1), (2, .int p2), (3, .int p3), (4, .int p4)]) dX10_fourBars_82 (Nat.le_of_ble_eq_true rfl) rfl ?_
          refine g_iload dX10_fourBars_84 2 rfl ?_
          refine g_iload dX10_fourBars_86 3 rfl ?_
          refine g_iload dX10_fourBars_88 2 rfl ?_
          refine g_isub dX10_fourBars_90 ?_
          refine g_icmp_lt (t := 96) dX10_fourBars_91 (by decide) (fun c37 => ?_) (fun c37 => ?_)
          · replace h := if_t h c37
            refine g_iload dX10_fourBars_96 1 rfl ?_
            refine g_iload dX10_fourBars_98 2 rfl ?_
            refine g_iadd dX10_fourBars_100 ?_
            refine g_iload dX10_fourBars_101 0 rfl ?_
            refine g_icmp_lt (t := 122) dX10_fourBars_103 (by decide) (fun c38 => ?_) (fun c38 => ?_)
            · replace h := if_t h c38
              refine g_iload dX10_fourBars_122 1 rfl ?_
              refine g_iload_n dX10_fourBars_124 rfl 5 rfl ?_
              refine g_icmp_ne (t := 130) dX10_fourBars_125 (by decide) (fun c39 => ?_) (fun c39 => ?_)
              · replace h := if_f h c39
                refine g_iload dX10_fourBars_130 1 rfl ?_
                refine g_iload_n dX10_fourBars_132 rfl 6 rfl ?_
                refine g_icmp_ne (t := 138) dX10_fourBars_133 (by decide) (fun c40 => ?_) (fun c40 => ?_)
                · replace h := if_f h c40
                  refine g_iload dX10_fourBars_138 1 rfl ?_
                  refine g_iload_n dX10_fourBars_140 rfl 7 rfl ?_
                  refine g_icmp_ne (t := 148) dX10_fourBars_141 (by decide) (fun c41 => ?_) (fun c41 => ?_)
                  · replace h := if_f h c41
                    refine g_bipush (v := 6) dX10_fourBars_148 (by decide) ?_
                    refine g_sub [] rfl ?_
                    exact pX10_fourBars_150 h
                  · replace h := if_t h c41
                    refine g_iconst (v := 5) dX10_fourBars_144 (by decide) ?_
                    refine g_goto (t := 150) dX10_fourBars_145 (by decide) ?_
                    refine g_sub [] rfl ?_
                    exact pX10_fourBars_150 h
                · replace h := if_t h c40
                  refine g_iconst (v := 4) dX10_fourBars_136 (by decide) ?_
                  obtain ⟨rfl, rfl⟩ := so_inj h
                  exact g_iret dX10_fourBars_137 rfl
              · replace h := if_t h c39
                refine g_iconst (v := 3) dX10_fourBars_128 (by decide) ?_
                obtain ⟨rfl, rfl⟩ := so_inj h
                exact g_iret dX10_fourBars_129 rfl
            · replace h := if_f h c38
              refine g_iload dX10_fourBars_106 1 rfl ?_
              refine g_iload dX10_fourBars_108 2 rfl ?_
              refine g_iadd dX10_fourBars_110 ?_
              refine g_iload dX10_fourBars_111 0 rfl ?_
              refine g_icmp_le (t := 120) dX10_fourBars_113 (by decide) (fun c42 => ?_) (fun c42 => ?_)
              · replace h := if_t h c42
                refine g_iconst (v := 2) dX10_fourBars_120 (by decide) ?_
                refine g_sub [] rfl ?_
                exact pX10_fourBars_121 h
              · replace h := if_f h c42
                refine g_iconst (v := 1) dX10_fourBars_116 (by decide) ?_
                refine g_goto (t := 121) dX10_fourBars_117 (by decide) ?_
                refine g_sub [] rfl ?_
                exact pX10_fourBars_121 h
          · replace h := if_f h c37
            refine g_iconst (v := 0) dX10_fourBars_94 (by decide) ?_
            obtain ⟨rfl, rfl⟩ := so_inj h
            exact g_iret dX10_fourBars_95 rfl
        · replace h := if_t h c16
          refine g_sub [] rfl ?_
          exact pX10_fourBars_29 h
theorem zX10_fourBars {E : gE} {p1 : Int32} {p2 : Int32} {p3 : Int32} {p4 : Int32} {r : Int32} {σ σ' : gS} (h : fX10_fourBars p1 p2 p3 p4 σ = some (r, σ')) : gC E mX10_fourBars [.ref 0, .int p1, .int p2, .int p3, .int p4] σ (some (.int r)) σ' :=
  gC_of (by decide +kernel) rfl (Nat.le_of_ble_eq_true rfl) (pX10_fourBars h)
theorem fp_RX10_347 : gFp RX10 347 10 11 .int := ⟨RX10, TX10, 12, rfl, by decide, ux_10, Or.inl (gm 537 (by decide +kernel) rfl), rfl, by decide +kernel, ⟨tyX10, tyX10_ok⟩, nmX10⟩
theorem wc_RX10_358 : Cond.constant RX10 358 (-1000010) ∈ gWS := (gm 1114 (by decide +kernel) rfl)
def mX10_found : gM := (yX10_found, cX10_found, RX10, 2, (some .int), 0, 0)
theorem dX10_found_0 : decode mX10_found.2.1 0 = .ok (.aload_n 0, 1) := by decide +kernel
theorem dX10_found_1 : decode mX10_found.2.1 1 = .ok (.iload_n 1, 1) := by decide +kernel
theorem dX10_found_2 : decode mX10_found.2.1 2 = .ok (.putfield 347, 3) := by decide +kernel
theorem dX10_found_5 : decode mX10_found.2.1 5 = .ok (.ldc_w 358, 3) := by decide +kernel
theorem dX10_found_8 : decode mX10_found.2.1 8 = .ok (.iload_n 1, 1) := by decide +kernel
theorem dX10_found_9 : decode mX10_found.2.1 9 = .ok (.isub, 1) := by decide +kernel
theorem dX10_found_10 : decode mX10_found.2.1 10 = .ok (.ireturn, 1) := by decide +kernel
def fX10_found (p1 : Int32) (σ : gS) : Option (Int32 × gS) :=
  bnd (gsI σ 0 11 p1) fun σ1 =>
  some ((-1000010) - p1, σ1)
set_option maxHeartbeats 4000000 in
set_option maxRecDepth 100000 in
theorem pX10_found {E : gE} {p1 : Int32} {r : Int32} {σ' : gS} {σ : gS} (h : fX10_found p1 σ = some (r, σ')) : gG E mX10_found 0 [(0, .ref 0), (1, .int p1)] [] σ (some (.int r)) σ' := by
  unfold fX10_found at h
  refine g_aload_n dX10_found_0 rfl 0 rfl ?_
  refine g_iload_n dX10_found_1 rfl 1 rfl ?_
  obtain ⟨σ1, eσ1, h⟩ := bnd_nm h
  refine g_putI dX10_found_2 gi_0 rfl fp_RX10_347 (g_st eσ1 ?_)
  refine g_ldcw (v := (-1000010)) dX10_found_5 wc_RX10_358 ?_
  refine g_iload_n dX10_found_8 rfl 1 rfl ?_
  refine g_isub dX10_found_9 ?_
  obtain ⟨rfl, rfl⟩ := so_inj h
  exact g_iret dX10_found_10 rfl
theorem zX10_found {E : gE} {p1 : Int32} {r : Int32} {σ σ' : gS} (h : fX10_found p1 σ = some (r, σ')) : gC E mX10_found [.ref 0, .int p1] σ (some (.int r)) σ' :=
  gC_of (by decide +kernel) rfl (Nat.le_of_ble_eq_true rfl) (pX10_found h)
def mX10_fine : gM := (yX10_fine, cX10_fine, RX10, 2, (some .int), 0, 0)
theorem dX10_fine_0 : decode mX10_fine.2.1 0 = .ok (.aload_n 0, 1) := by decide +kernel
theorem dX10_fine_1 : decode mX10_fine.2.1 1 = .ok (.iconst 0, 1) := by decide +kernel
theorem dX10_fine_2 : decode mX10_fine.2.1 2 = .ok (.putfield 347, 3) := by decide +kernel
theorem dX10_fine_5 : decode mX10_fine.2.1 5 = .ok (.iload_n 1, 1) := by decide +kernel
theorem dX10_fine_6 : decode mX10_fine.2.1 6 = .ok (.ireturn, 1) := by decide +kernel
def fX10_fine (p1 : Int32) (σ : gS) : Option (Int32 × gS) :=
  bnd (gsI σ 0 11 0) fun σ1 =>
  some (p1, σ1)
set_option maxHeartbeats 4000000 in
set_option maxRecDepth 100000 in
theorem pX10_fine {E : gE} {p1 : Int32} {r : Int32} {σ' : gS} {σ : gS} (h : fX10_fine p1 σ = some (r, σ')) : gG E mX10_fine 0 [(0, .ref 0), (1, .int p1)] [] σ (some (.int r)) σ' := by
  unfold fX10_fine at h
  refine g_aload_n dX10_fine_0 rfl 0 rfl ?_
  refine g_iconst (v := 0) dX10_fine_1 (by decide) ?_
  obtain ⟨σ1, eσ1, h⟩ := bnd_nm h
  refine g_putI dX10_fine_2 gi_0 rfl fp_RX10_347 (g_st eσ1 ?_)
  refine g_iload_n dX10_fine_5 rfl 1 rfl ?_
  obtain ⟨rfl, rfl⟩ := so_inj h
  exact g_iret dX10_fine_6 rfl
theorem zX10_fine {E : gE} {p1 : Int32} {r : Int32} {σ σ' : gS} (h : fX10_fine p1 σ = some (r, σ')) : gC E mX10_fine [.ref 0, .int p1] σ (some (.int r)) σ' :=
  gC_of (by decide +kernel) rfl (Nat.le_of_ble_eq_true rfl) (pX10_fine h)
theorem fl_RX10_68 : gFl RX10 68 10 9 := ⟨RX10, TX10, 12, rfl, by decide, ux_10, Or.inl (gm 535 (by decide +kernel) rfl)⟩
theorem fl_RX10_275 : gFl RX10 275 0 2 := ⟨RX0, TX0, 5, rfl, by decide, ux_0, Or.inr ⟨"LinkageCurves", by decide +kernel⟩⟩
def mX10_ask : gM := (yX10_ask, cX10_ask, RX10, 4, (some .int), 5, 102)
theorem dX10_ask_0 : decode mX10_ask.2.1 0 = .ok (.aload_n 0, 1) := by decide +kernel
theorem dX10_ask_1 : decode mX10_ask.2.1 1 = .ok (.iload_n 1, 1) := by decide +kernel
theorem dX10_ask_2 : decode mX10_ask.2.1 2 = .ok (.invokevirtual 112, 3) := by decide +kernel
theorem dX10_ask_5 : decode mX10_ask.2.1 5 = .ok (.ifCond .eq 12, 3) := by decide +kernel
theorem dX10_ask_8 : decode mX10_ask.2.1 8 = .ok (.iload_n 2, 1) := by decide +kernel
theorem dX10_ask_9 : decode mX10_ask.2.1 9 = .ok (.ifCond .lt 8, 3) := by decide +kernel
theorem dX10_ask_12 : decode mX10_ask.2.1 12 = .ok (.iload_n 2, 1) := by decide +kernel
theorem dX10_ask_13 : decode mX10_ask.2.1 13 = .ok (.iconst 2, 1) := by decide +kernel
theorem dX10_ask_14 : decode mX10_ask.2.1 14 = .ok (.if_icmp .le 6, 3) := by decide +kernel
theorem dX10_ask_17 : decode mX10_ask.2.1 17 = .ok (.ldc 79, 2) := by decide +kernel
theorem dX10_ask_19 : decode mX10_ask.2.1 19 = .ok (.ireturn, 1) := by decide +kernel
theorem dX10_ask_20 : decode mX10_ask.2.1 20 = .ok (.aload_n 0, 1) := by decide +kernel
theorem dX10_ask_21 : decode mX10_ask.2.1 21 = .ok (.getfield 68, 3) := by decide +kernel
theorem dX10_ask_24 : decode mX10_ask.2.1 24 = .ok (.aload_n 0, 1) := by decide +kernel
theorem dX10_ask_25 : decode mX10_ask.2.1 25 = .ok (.getfield 19, 3) := by decide +kernel
theorem dX10_ask_28 : decode mX10_ask.2.1 28 = .ok (.getfield 116, 3) := by decide +kernel
theorem dX10_ask_31 : decode mX10_ask.2.1 31 = .ok (.iload_n 1, 1) := by decide +kernel
theorem dX10_ask_32 : decode mX10_ask.2.1 32 = .ok (.iaload, 1) := by decide +kernel
theorem dX10_ask_33 : decode mX10_ask.2.1 33 = .ok (.aload_n 0, 1) := by decide +kernel
theorem dX10_ask_34 : decode mX10_ask.2.1 34 = .ok (.getfield 19, 3) := by decide +kernel
theorem dX10_ask_37 : decode mX10_ask.2.1 37 = .ok (.iload_n 1, 1) := by decide +kernel
theorem dX10_ask_38 : decode mX10_ask.2.1 38 = .ok (.invokevirtual 259, 3) := by decide +kernel
theorem dX10_ask_41 : decode mX10_ask.2.1 41 = .ok (.invokevirtual 262, 3) := by decide +kernel
theorem dX10_ask_44 : decode mX10_ask.2.1 44 = .ok (.iload_n 2, 1) := by decide +kernel
theorem dX10_ask_45 : decode mX10_ask.2.1 45 = .ok (.lookupswitch 49 #[(0, 27), (1, 38)], 27) := by decide +kernel
theorem dX10_ask_72 : decode mX10_ask.2.1 72 = .ok (.aload_n 0, 1) := by decide +kernel
theorem dX10_ask_73 : decode mX10_ask.2.1 73 = .ok (.getfield 68, 3) := by decide +kernel
theorem dX10_ask_76 : decode mX10_ask.2.1 76 = .ok (.invokevirtual 266, 3) := by decide +kernel
theorem dX10_ask_79 : decode mX10_ask.2.1 79 = .ok (.istore_n 3, 1) := by decide +kernel
theorem dX10_ask_80 : decode mX10_ask.2.1 80 = .ok (.goto 22, 3) := by decide +kernel
theorem dX10_ask_83 : decode mX10_ask.2.1 83 = .ok (.aload_n 0, 1) := by decide +kernel
theorem dX10_ask_84 : decode mX10_ask.2.1 84 = .ok (.getfield 68, 3) := by decide +kernel
theorem dX10_ask_87 : decode mX10_ask.2.1 87 = .ok (.invokevirtual 269, 3) := by decide +kernel
theorem dX10_ask_90 : decode mX10_ask.2.1 90 = .ok (.istore_n 3, 1) := by decide +kernel
theorem dX10_ask_91 : decode mX10_ask.2.1 91 = .ok (.goto 11, 3) := by decide +kernel
theorem dX10_ask_94 : decode mX10_ask.2.1 94 = .ok (.aload_n 0, 1) := by decide +kernel
theorem dX10_ask_95 : decode mX10_ask.2.1 95 = .ok (.getfield 68, 3) := by decide +kernel
theorem dX10_ask_98 : decode mX10_ask.2.1 98 = .ok (.invokevirtual 272, 3) := by decide +kernel
theorem dX10_ask_101 : decode mX10_ask.2.1 101 = .ok (.istore_n 3, 1) := by decide +kernel
theorem dX10_ask_102 : decode mX10_ask.2.1 102 = .ok (.aload_n 0, 1) := by decide +kernel
theorem dX10_ask_103 : decode mX10_ask.2.1 103 = .ok (.getfield 68, 3) := by decide +kernel
theorem dX10_ask_106 : decode mX10_ask.2.1 106 = .ok (.getfield 275, 3) := by decide +kernel
theorem dX10_ask_109 : decode mX10_ask.2.1 109 = .ok (.ifCond .eq 11, 3) := by decide +kernel
theorem dX10_ask_112 : decode mX10_ask.2.1 112 = .ok (.aload_n 0, 1) := by decide +kernel
theorem dX10_ask_113 : decode mX10_ask.2.1 113 = .ok (.iconst 5, 1) := by decide +kernel
theorem dX10_ask_114 : decode mX10_ask.2.1 114 = .ok (.invokevirtual 278, 3) := by decide +kernel
theorem dX10_ask_117 : decode mX10_ask.2.1 117 = .ok (.goto 8, 3) := by decide +kernel
theorem dX10_ask_120 : decode mX10_ask.2.1 120 = .ok (.aload_n 0, 1) := by decide +kernel
theorem dX10_ask_121 : decode mX10_ask.2.1 121 = .ok (.iload_n 3, 1) := by decide +kernel
theorem dX10_ask_122 : decode mX10_ask.2.1 122 = .ok (.invokevirtual 281, 3) := by decide +kernel
theorem dX10_ask_125 : decode mX10_ask.2.1 125 = .ok (.ireturn, 1) := by decide +kernel
theorem okX10_ask_281 : gOkV mX10_ask mX10_fine 281 1 := ⟨List.forall_mem_cons.mpr ⟨(gm 1118 (by decide +kernel) rfl), List.forall_mem_cons.mpr ⟨(gm 1115 (by decide +kernel) rfl), List.forall_mem_cons.mpr ⟨(gm 1117 (by decide +kernel) rfl), List.forall_mem_cons.mpr ⟨(gm 53 (by decide +kernel) rfl), List.forall_mem_cons.mpr ⟨(gm 107 (by decide +kernel) rfl), fun _ h => absurd h List.not_mem_nil⟩⟩⟩⟩⟩, by decide +kernel, by decide +kernel, by decide +kernel⟩
theorem okX10_ask_278 : gOkV mX10_ask mX10_found 278 1 := ⟨List.forall_mem_cons.mpr ⟨(gm 1113 (by decide +kernel) rfl), List.forall_mem_cons.mpr ⟨(gm 1110 (by decide +kernel) rfl), List.forall_mem_cons.mpr ⟨(gm 1112 (by decide +kernel) rfl), List.forall_mem_cons.mpr ⟨(gm 52 (by decide +kernel) rfl), List.forall_mem_cons.mpr ⟨(gm 107 (by decide +kernel) rfl), fun _ h => absurd h List.not_mem_nil⟩⟩⟩⟩⟩, by decide +kernel, by decide +kernel, by decide +kernel⟩
theorem okX10_ask_112 : gOkV mX10_ask mX10_isPart 112 1 := ⟨List.forall_mem_cons.mpr ⟨(gm 855 (by decide +kernel) rfl), List.forall_mem_cons.mpr ⟨(gm 852 (by decide +kernel) rfl), List.forall_mem_cons.mpr ⟨(gm 854 (by decide +kernel) rfl), List.forall_mem_cons.mpr ⟨(gm 38 (by decide +kernel) rfl), List.forall_mem_cons.mpr ⟨(gm 107 (by decide +kernel) rfl), fun _ h => absurd h List.not_mem_nil⟩⟩⟩⟩⟩, by decide +kernel, by decide +kernel, by decide +kernel⟩
theorem okX10_ask_259 : gOkV mX10_ask mX3_sizeOf 259 1 := ⟨List.forall_mem_cons.mpr ⟨(gm 1065 (by decide +kernel) rfl), List.forall_mem_cons.mpr ⟨(gm 1062 (by decide +kernel) rfl), List.forall_mem_cons.mpr ⟨(gm 1063 (by decide +kernel) rfl), List.forall_mem_cons.mpr ⟨(gm 1064 (by decide +kernel) rfl), List.forall_mem_cons.mpr ⟨(gm 109 (by decide +kernel) rfl), fun _ h => absurd h List.not_mem_nil⟩⟩⟩⟩⟩, by decide +kernel, by decide +kernel, by decide +kernel⟩
theorem okX10_ask_262 : gOkV mX10_ask mX0_start 262 2 := ⟨List.forall_mem_cons.mpr ⟨(gm 1071 (by decide +kernel) rfl), List.forall_mem_cons.mpr ⟨(gm 1068 (by decide +kernel) rfl), List.forall_mem_cons.mpr ⟨(gm 1069 (by decide +kernel) rfl), List.forall_mem_cons.mpr ⟨(gm 1070 (by decide +kernel) rfl), List.forall_mem_cons.mpr ⟨(gm 120 (by decide +kernel) rfl), fun _ h => absurd h List.not_mem_nil⟩⟩⟩⟩⟩, by decide +kernel, by decide +kernel, by decide +kernel⟩
theorem okX10_ask_266 : gOkV mX10_ask mX0_freedom 266 0 := ⟨List.forall_mem_cons.mpr ⟨(gm 1075 (by decide +kernel) rfl), List.forall_mem_cons.mpr ⟨(gm 1072 (by decide +kernel) rfl), List.forall_mem_cons.mpr ⟨(gm 1073 (by decide +kernel) rfl), List.forall_mem_cons.mpr ⟨(gm 1074 (by decide +kernel) rfl), List.forall_mem_cons.mpr ⟨(gm 120 (by decide +kernel) rfl), fun _ h => absurd h List.not_mem_nil⟩⟩⟩⟩⟩, by decide +kernel, by decide +kernel, by decide +kernel⟩
theorem okX10_ask_269 : gOkV mX10_ask mX0_mass 269 0 := ⟨List.forall_mem_cons.mpr ⟨(gm 1091 (by decide +kernel) rfl), List.forall_mem_cons.mpr ⟨(gm 1088 (by decide +kernel) rfl), List.forall_mem_cons.mpr ⟨(gm 1089 (by decide +kernel) rfl), List.forall_mem_cons.mpr ⟨(gm 1090 (by decide +kernel) rfl), List.forall_mem_cons.mpr ⟨(gm 120 (by decide +kernel) rfl), fun _ h => absurd h List.not_mem_nil⟩⟩⟩⟩⟩, by decide +kernel, by decide +kernel, by decide +kernel⟩
theorem okX10_ask_272 : gOkV mX10_ask mX0_loss 272 0 := ⟨List.forall_mem_cons.mpr ⟨(gm 1103 (by decide +kernel) rfl), List.forall_mem_cons.mpr ⟨(gm 1100 (by decide +kernel) rfl), List.forall_mem_cons.mpr ⟨(gm 1101 (by decide +kernel) rfl), List.forall_mem_cons.mpr ⟨(gm 1102 (by decide +kernel) rfl), List.forall_mem_cons.mpr ⟨(gm 120 (by decide +kernel) rfl), fun _ h => absurd h List.not_mem_nil⟩⟩⟩⟩⟩, by decide +kernel, by decide +kernel, by decide +kernel⟩
def fX10_ask_17 (p1 : Int32) (p2 : Int32) (σ : gS) : Option (Int32 × gS) :=
  some ((-1000001), σ)
set_option maxHeartbeats 4000000 in
set_option maxRecDepth 100000 in
theorem pX10_ask_17 {E : gE} {p1 : Int32} {p2 : Int32} {r : Int32} {σ' : gS} {σ : gS} (h : fX10_ask_17 p1 p2 σ = some (r, σ')) : gG E mX10_ask 17 [] [] σ (some (.int r)) σ' := by
  unfold fX10_ask_17 at h
  refine g_ldc (v := (-1000001)) dX10_ask_17 wc_RX10_79 ?_
  obtain ⟨rfl, rfl⟩ := so_inj h
  exact g_iret dX10_ask_19 rfl
def fX10_ask_125 (p1 : Int32) (p2 : Int32) (s0 : Int32) (σ : gS) : Option (Int32 × gS) :=
  some (s0, σ)
set_option maxHeartbeats 4000000 in
set_option maxRecDepth 100000 in
theorem pX10_ask_125 {E : gE} {p1 : Int32} {p2 : Int32} {r : Int32} {σ' : gS} {s0 : Int32} {σ : gS} (h : fX10_ask_125 p1 p2 s0 σ = some (r, σ')) : gG E mX10_ask 125 [] [.int s0] σ (some (.int r)) σ' := by
  unfold fX10_ask_125 at h
  obtain ⟨rfl, rfl⟩ := so_inj h
  exact g_iret dX10_ask_125 rfl
def fX10_ask_102 (p1 : Int32) (p2 : Int32) (v3 : Int32) (σ : gS) : Option (Int32 × gS) :=
  if (σ.1 149 2) = 0 then
    bd (fX10_fine v3 σ) fun x2 σ3 =>
    fX10_ask_125 p1 p2 x2 σ3
  else
    bd (fX10_found 5 σ) fun x5 σ6 =>
    fX10_ask_125 p1 p2 x5 σ6
set_option maxHeartbeats 4000000 in
set_option maxRecDepth 100000 in
theorem pX10_ask_102 {E : gE} {p1 : Int32} {p2 : Int32} {r : Int32} {σ' : gS} {v3 : Int32} {σ : gS} (h : fX10_ask_102 p1 p2 v3 σ = some (r, σ')) : gG E mX10_ask 102 [(0, .ref 0), (3, .int v3)] [] σ (some (.int r)) σ' := by
  unfold fX10_ask_102 at h
  refine g_aload_n dX10_ask_102 rfl 0 rfl ?_
  refine g_getC (n := 149) dX10_ask_103 gi_0 rfl fl_RX10_68 ?_
  refine g_getI dX10_ask_106 gi_149 rfl fl_RX10_275 ?_
  refine g_if_eq (t := 120) dX10_ask_109 (by decide) (fun c1 => ?_) (fun c1 => ?_)
  · replace h := if_t h c1
    refine g_aload_n dX10_ask_120 rfl 0 rfl ?_
    refine g_iload_n dX10_ask_121 rfl 1 rfl ?_
    obtain ⟨x2, σ3, y4, h⟩ := bd_some h
    refine g_callVr (as := [.int v3]) (st := []) (zX10_fine y4) dX10_ask_122 gi_0 rfl okX10_ask_281 (Nat.le_of_ble_eq_true rfl) ?_
    refine g_sub [] rfl ?_
    exact pX10_ask_125 h
  · replace h := if_f h c1
    refine g_aload_n dX10_ask_112 rfl 0 rfl ?_
    refine g_iconst (v := 5) dX10_ask_113 (by decide) ?_
    obtain ⟨x5, σ6, y7, h⟩ := bd_some h
    refine g_callVr (as := [.int 5]) (st := []) (zX10_found y7) dX10_ask_114 gi_0 rfl okX10_ask_278 (Nat.le_of_ble_eq_true rfl) ?_
    refine g_goto (t := 125) dX10_ask_117 (by decide) ?_
    refine g_sub [] rfl ?_
    exact pX10_ask_125 h
def fX10_ask (p1 : Int32) (p2 : Int32) (σ : gS) : Option (Int32 × gS) :=
  bd (fX10_isPart p1 σ) fun x1 σ2 =>
  if x1 = 0 then
    fX10_ask_17 p1 p2 σ2
  else
    if p2 < 0 then
      fX10_ask_17 p1 p2 σ2
    else
      if p2 ≤ 2 then
        bnd (σ2.2.2 0 1) fun x7 =>
        gg (x7 = 4 ∨ x7 = 16) (
        gg (¬ (p1 < 0 ∨ 130 ≤ p1.toNatClampNeg)) (
        bnd (σ2.2.2 0 1) fun x10 =>
        gg (x10 = 4 ∨ x10 = 16) (
        bd (fX3_sizeOf x10 p1 σ2) fun x12 σ13 =>
        bd (fX0_start (σ2.1 (x7 + 1) p1.toNatClampNeg) x12 σ13) fun _ σ15 =>
        if p2 = 0 then
          bd (fX0_freedom σ15) fun x18 σ19 =>
          fX10_ask_102 p1 p2 x18 σ19
        else
          if p2 = 1 then
          bd (fX0_mass σ15) fun x22 σ23 =>
            fX10_ask_102 p1 p2 x22 σ23
        else
          bd (fX0_loss σ15) fun x25 σ26 =>
            fX10_ask_102 p1 p2 x25 σ26)))
      else
        fX10_ask_17 p1 p2 σ2
set_option maxHeartbeats 4000000 in
set_option maxRecDepth 100000 in
theorem pX10_ask {E : gE} {p1 : Int32} {p2 : Int32} {r : Int32} {σ' : gS} {σ : gS} (h : fX10_ask p1 p2 σ = some (r, σ')) : gG E mX10_ask 0 [(0, .ref 0), (1, .int p1), (2, .int p2)] [] σ (some (.int r)) σ' := by
  unfold fX10_ask at h
  refine g_aload_n dX10_ask_0 rfl 0 rfl ?_
  refine g_iload_n dX10_ask_1 rfl 1 rfl ?_
  obtain ⟨x1, σ2, y3, h⟩ := bd_some h
  refine g_callVr (as := [.int p1]) (st := []) (zX10_isPart y3) dX10_ask_2 gi_0 rfl okX10_ask_112 (Nat.le_of_ble_eq_true rfl) ?_
  refine g_if_eq (t := 17) dX10_ask_5 (by decide) (fun c4 => ?_) (fun c4 => ?_)
  · replace h := if_t h c4
    refine g_sub [] rfl ?_
    exact pX10_ask_17 h
  · replace h := if_f h c4
    refine g_iload_n dX10_ask_8 rfl 2 rfl ?_
    refine g_if_lt (t := 17) dX10_ask_9 (by decide) (fun c5 => ?_) (fun c5 => ?_)
    · replace h := if_t h c5
      refine g_sub [] rfl ?_
      exact pX10_ask_17 h
    · replace h := if_f h c5
      refine g_iload_n dX10_ask_12 rfl 2 rfl ?_
      refine g_iconst (v := 2) dX10_ask_13 (by decide) ?_
      refine g_icmp_le (t := 20) dX10_ask_14 (by decide) (fun c6 => ?_) (fun c6 => ?_)
      · replace h := if_t h c6
        refine g_aload_n dX10_ask_20 rfl 0 rfl ?_
        refine g_getC (n := 149) dX10_ask_21 gi_0 rfl fl_RX10_68 ?_
        refine g_aload_n dX10_ask_24 rfl 0 rfl ?_
        refine g_getR dX10_ask_25 gi_0 rfl fl_RX10_19 ?_
        obtain ⟨x7, ex7, h⟩ := bnd_nm h
        refine g_topr ex7 ?_
        obtain ⟨g8, h⟩ := gg_some h
        refine g_getC (n := (x7 + 1)) dX10_ask_28 (gi_lk g8) rfl fl_RX10_116 ?_
        refine g_iload_n dX10_ask_31 rfl 1 rfl ?_
        obtain ⟨g9, h⟩ := gg_some h
        refine g_iald dX10_ask_32 (gi_lk1 g8) g9 ?_
        refine g_aload_n dX10_ask_33 rfl 0 rfl ?_
        refine g_getR dX10_ask_34 gi_0 rfl fl_RX10_19 ?_
        obtain ⟨x10, ex10, h⟩ := bnd_nm h
        refine g_topr ex10 ?_
        obtain ⟨g11, h⟩ := gg_some h
        refine g_iload_n dX10_ask_37 rfl 1 rfl ?_
        obtain ⟨x12, σ13, y14, h⟩ := bd_some h
        refine g_callVr (as := [.int p1]) (st := [.int (σ2.1 (x7 + 1) p1.toNatClampNeg), .ref 149]) (zX3_sizeOf g11 y14) dX10_ask_38 (gi_lk g11) rfl okX10_ask_259 (Nat.le_of_ble_eq_true rfl) ?_
        obtain ⟨_, σ15, y16, h⟩ := bd_some h
        refine g_callVv (as := [.int (σ2.1 (x7 + 1) p1.toNatClampNeg), .int x12]) (st := []) (zX0_start y16) dX10_ask_41 gi_149 rfl okX10_ask_262 (Nat.le_of_ble_eq_true rfl) ?_
        refine g_iload_n dX10_ask_44 rfl 2 rfl ?_
        by_cases c17 : p2 = 0
        · replace h := if_t h c17
          refine g_look (off := 27) (t := 72) dX10_ask_45 (by decide) (by rw [c17]; first | done | rfl) (by decide) ?_
          refine g_aload_n dX10_ask_72 rfl 0 rfl ?_
          refine g_getC (n := 149) dX10_ask_73 gi_0 rfl fl_RX10_68 ?_
          obtain ⟨x18, σ19, y20, h⟩ := bd_some h
          refine g_callVr (as := []) (st := []) (zX0_freedom y20) dX10_ask_76 gi_149 rfl okX10_ask_266 (Nat.le_of_ble_eq_true rfl) ?_
          refine g_istore_n (lv' := [(3, .int x18), (0, .ref 0), (1, .int p1), (2, .int p2)]) dX10_ask_79 rfl (Nat.le_of_ble_eq_true rfl) rfl ?_
          refine g_goto (t := 102) dX10_ask_80 (by decide) ?_
          refine g_sub [1, 0] rfl ?_
          exact pX10_ask_102 h
        · replace h := if_f h c17
          by_cases c21 : p2 = 1
          · replace h := if_t h c21
            refine g_look (off := 38) (t := 83) dX10_ask_45 (by decide) (by rw [c21]; first | done | rfl) (by decide) ?_
            refine g_aload_n dX10_ask_83 rfl 0 rfl ?_
            refine g_getC (n := 149) dX10_ask_84 gi_0 rfl fl_RX10_68 ?_
            obtain ⟨x22, σ23, y24, h⟩ := bd_some h
            refine g_callVr (as := []) (st := []) (zX0_mass y24) dX10_ask_87 gi_149 rfl okX10_ask_269 (Nat.le_of_ble_eq_true rfl) ?_
            refine g_istore_n (lv' := [(3, .int x22), (0, .ref 0), (1, .int p1), (2, .int p2)]) dX10_ask_90 rfl (Nat.le_of_ble_eq_true rfl) rfl ?_
            refine g_goto (t := 102) dX10_ask_91 (by decide) ?_
            refine g_sub [1, 0] rfl ?_
            exact pX10_ask_102 h
          · replace h := if_f h c21
            refine g_look (off := 49) (t := 94) dX10_ask_45 (by decide) (by rw [lv_osw c17 (by decide), lv_osw c21 (by decide)]; first | done | rfl) (by decide) ?_
            refine g_aload_n dX10_ask_94 rfl 0 rfl ?_
            refine g_getC (n := 149) dX10_ask_95 gi_0 rfl fl_RX10_68 ?_
            obtain ⟨x25, σ26, y27, h⟩ := bd_some h
            refine g_callVr (as := []) (st := []) (zX0_loss y27) dX10_ask_98 gi_149 rfl okX10_ask_272 (Nat.le_of_ble_eq_true rfl) ?_
            refine g_istore_n (lv' := [(3, .int x25), (0, .ref 0), (1, .int p1), (2, .int p2)]) dX10_ask_101 rfl (Nat.le_of_ble_eq_true rfl) rfl ?_
            refine g_sub [1, 0] rfl ?_
            exact pX10_ask_102 h
      · replace h := if_f h c6
        refine g_sub [] rfl ?_
        exact pX10_ask_17 h
theorem zX10_ask {E : gE} {p1 : Int32} {p2 : Int32} {r : Int32} {σ σ' : gS} (h : fX10_ask p1 p2 σ = some (r, σ')) : gC E mX10_ask [.ref 0, .int p1, .int p2] σ (some (.int r)) σ' :=
  gC_of (by decide +kernel) rfl (Nat.le_of_ble_eq_true rfl) (pX10_ask h)
theorem fl_RX10_284 : gFl RX10 284 0 1 := ⟨RX0, TX0, 5, rfl, by decide, ux_0, Or.inr ⟨"LinkageCurves", by decide +kernel⟩⟩
theorem fl_RX10_287 : gFl RX10 287 0 0 := ⟨RX0, TX0, 5, rfl, by decide, ux_0, Or.inr ⟨"LinkageCurves", by decide +kernel⟩⟩
def mX10_trail : gM := (yX10_trail, cX10_trail, RX10, 2, (some .int), 0, 0)
theorem dX10_trail_0 : decode mX10_trail.2.1 0 = .ok (.iload_n 1, 1) := by decide +kernel
theorem dX10_trail_1 : decode mX10_trail.2.1 1 = .ok (.ifCond .lt 26, 3) := by decide +kernel
theorem dX10_trail_4 : decode mX10_trail.2.1 4 = .ok (.iload_n 1, 1) := by decide +kernel
theorem dX10_trail_5 : decode mX10_trail.2.1 5 = .ok (.aload_n 0, 1) := by decide +kernel
theorem dX10_trail_6 : decode mX10_trail.2.1 6 = .ok (.getfield 68, 3) := by decide +kernel
theorem dX10_trail_9 : decode mX10_trail.2.1 9 = .ok (.getfield 284, 3) := by decide +kernel
theorem dX10_trail_12 : decode mX10_trail.2.1 12 = .ok (.if_icmp .ge 15, 3) := by decide +kernel
theorem dX10_trail_15 : decode mX10_trail.2.1 15 = .ok (.aload_n 0, 1) := by decide +kernel
theorem dX10_trail_16 : decode mX10_trail.2.1 16 = .ok (.getfield 68, 3) := by decide +kernel
theorem dX10_trail_19 : decode mX10_trail.2.1 19 = .ok (.getfield 287, 3) := by decide +kernel
theorem dX10_trail_22 : decode mX10_trail.2.1 22 = .ok (.iload_n 1, 1) := by decide +kernel
theorem dX10_trail_23 : decode mX10_trail.2.1 23 = .ok (.iaload, 1) := by decide +kernel
theorem dX10_trail_24 : decode mX10_trail.2.1 24 = .ok (.goto 5, 3) := by decide +kernel
theorem dX10_trail_27 : decode mX10_trail.2.1 27 = .ok (.ldc 167, 2) := by decide +kernel
theorem dX10_trail_29 : decode mX10_trail.2.1 29 = .ok (.ireturn, 1) := by decide +kernel
def fX10_trail_29 (p1 : Int32) (s0 : Int32) (σ : gS) : Option (Int32 × gS) :=
  some (s0, σ)
set_option maxHeartbeats 4000000 in
set_option maxRecDepth 100000 in
theorem pX10_trail_29 {E : gE} {p1 : Int32} {r : Int32} {σ' : gS} {s0 : Int32} {σ : gS} (h : fX10_trail_29 p1 s0 σ = some (r, σ')) : gG E mX10_trail 29 [] [.int s0] σ (some (.int r)) σ' := by
  unfold fX10_trail_29 at h
  obtain ⟨rfl, rfl⟩ := so_inj h
  exact g_iret dX10_trail_29 rfl
def fX10_trail_27 (p1 : Int32) (σ : gS) : Option (Int32 × gS) :=
  fX10_trail_29 p1 (-1000000) σ
set_option maxHeartbeats 4000000 in
set_option maxRecDepth 100000 in
theorem pX10_trail_27 {E : gE} {p1 : Int32} {r : Int32} {σ' : gS} {σ : gS} (h : fX10_trail_27 p1 σ = some (r, σ')) : gG E mX10_trail 27 [] [] σ (some (.int r)) σ' := by
  unfold fX10_trail_27 at h
  refine g_ldc (v := (-1000000)) dX10_trail_27 wc_RX10_167 ?_
  exact pX10_trail_29 h
def fX10_trail (p1 : Int32) (σ : gS) : Option (Int32 × gS) :=
  if p1 < 0 then
    fX10_trail_27 p1 σ
  else
    if (σ.1 149 1) ≤ p1 then
      fX10_trail_27 p1 σ
    else
      gg (¬ (p1 < 0 ∨ 16 ≤ p1.toNatClampNeg)) (
      fX10_trail_29 p1 (σ.1 150 p1.toNatClampNeg) σ)
set_option maxHeartbeats 4000000 in
set_option maxRecDepth 100000 in
theorem pX10_trail {E : gE} {p1 : Int32} {r : Int32} {σ' : gS} {σ : gS} (h : fX10_trail p1 σ = some (r, σ')) : gG E mX10_trail 0 [(0, .ref 0), (1, .int p1)] [] σ (some (.int r)) σ' := by
  unfold fX10_trail at h
  refine g_iload_n dX10_trail_0 rfl 1 rfl ?_
  refine g_if_lt (t := 27) dX10_trail_1 (by decide) (fun c1 => ?_) (fun c1 => ?_)
  · replace h := if_t h c1
    refine g_sub [] rfl ?_
    exact pX10_trail_27 h
  · replace h := if_f h c1
    refine g_iload_n dX10_trail_4 rfl 1 rfl ?_
    refine g_aload_n dX10_trail_5 rfl 0 rfl ?_
    refine g_getC (n := 149) dX10_trail_6 gi_0 rfl fl_RX10_68 ?_
    refine g_getI dX10_trail_9 gi_149 rfl fl_RX10_284 ?_
    refine g_icmp_ge (t := 27) dX10_trail_12 (by decide) (fun c2 => ?_) (fun c2 => ?_)
    · replace h := if_t h c2
      refine g_sub [] rfl ?_
      exact pX10_trail_27 h
    · replace h := if_f h c2
      refine g_aload_n dX10_trail_15 rfl 0 rfl ?_
      refine g_getC (n := 149) dX10_trail_16 gi_0 rfl fl_RX10_68 ?_
      refine g_getC (n := 150) dX10_trail_19 gi_149 rfl fl_RX10_287 ?_
      refine g_iload_n dX10_trail_22 rfl 1 rfl ?_
      obtain ⟨g3, h⟩ := gg_some h
      refine g_iald dX10_trail_23 gi_150 g3 ?_
      refine g_goto (t := 29) dX10_trail_24 (by decide) ?_
      refine g_sub [] rfl ?_
      exact pX10_trail_29 h
theorem zX10_trail {E : gE} {p1 : Int32} {r : Int32} {σ σ' : gS} (h : fX10_trail p1 σ = some (r, σ')) : gC E mX10_trail [.ref 0, .int p1] σ (some (.int r)) σ' :=
  gC_of (by decide +kernel) rfl (Nat.le_of_ble_eq_true rfl) (pX10_trail h)
def mX10_isKind : gM := (yX10_isKind, cX10_isKind, RX10, 1, (some .boolean), 0, 0)
theorem dX10_isKind_0 : decode mX10_isKind.2.1 0 = .ok (.iload_n 0, 1) := by decide +kernel
theorem dX10_isKind_1 : decode mX10_isKind.2.1 1 = .ok (.ifCond .lt 13, 3) := by decide +kernel
theorem dX10_isKind_4 : decode mX10_isKind.2.1 4 = .ok (.iload_n 0, 1) := by decide +kernel
theorem dX10_isKind_5 : decode mX10_isKind.2.1 5 = .ok (.bipush 7, 2) := by decide +kernel
theorem dX10_isKind_7 : decode mX10_isKind.2.1 7 = .ok (.if_icmp .ge 7, 3) := by decide +kernel
theorem dX10_isKind_10 : decode mX10_isKind.2.1 10 = .ok (.iconst 1, 1) := by decide +kernel
theorem dX10_isKind_11 : decode mX10_isKind.2.1 11 = .ok (.goto 4, 3) := by decide +kernel
theorem dX10_isKind_14 : decode mX10_isKind.2.1 14 = .ok (.iconst 0, 1) := by decide +kernel
theorem dX10_isKind_15 : decode mX10_isKind.2.1 15 = .ok (.ireturn, 1) := by decide +kernel
def fX10_isKind_15 (p1 : Int32) (s0 : Int32) (σ : gS) : Option (Int32 × gS) :=
  gg (s0 = 0 ∨ s0 = 1) (
  some (s0, σ))
set_option maxHeartbeats 4000000 in
set_option maxRecDepth 100000 in
theorem pX10_isKind_15 {E : gE} {p1 : Int32} {r : Int32} {σ' : gS} {s0 : Int32} {σ : gS} (h : fX10_isKind_15 p1 s0 σ = some (r, σ')) : gG E mX10_isKind 15 [] [.int s0] σ (some (.int r)) σ' := by
  unfold fX10_isKind_15 at h
  obtain ⟨g1, h⟩ := gg_some h
  obtain ⟨rfl, rfl⟩ := so_inj h
  exact g_zret dX10_isKind_15 rfl g1
def fX10_isKind_14 (p1 : Int32) (σ : gS) : Option (Int32 × gS) :=
  fX10_isKind_15 p1 0 σ
set_option maxHeartbeats 4000000 in
set_option maxRecDepth 100000 in
theorem pX10_isKind_14 {E : gE} {p1 : Int32} {r : Int32} {σ' : gS} {σ : gS} (h : fX10_isKind_14 p1 σ = some (r, σ')) : gG E mX10_isKind 14 [] [] σ (some (.int r)) σ' := by
  unfold fX10_isKind_14 at h
  refine g_iconst (v := 0) dX10_isKind_14 (by decide) ?_
  exact pX10_isKind_15 h
def fX10_isKind (p1 : Int32) (σ : gS) : Option (Int32 × gS) :=
  if p1 < 0 then
    fX10_isKind_14 p1 σ
  else
    if 7 ≤ p1 then
      fX10_isKind_14 p1 σ
    else
      fX10_isKind_15 p1 1 σ
set_option maxHeartbeats 4000000 in
set_option maxRecDepth 100000 in
theorem pX10_isKind {E : gE} {p1 : Int32} {r : Int32} {σ' : gS} {σ : gS} (h : fX10_isKind p1 σ = some (r, σ')) : gG E mX10_isKind 0 [(0, .int p1)] [] σ (some (.int r)) σ' := by
  unfold fX10_isKind at h
  refine g_iload_n dX10_isKind_0 rfl 0 rfl ?_
  refine g_if_lt (t := 14) dX10_isKind_1 (by decide) (fun c1 => ?_) (fun c1 => ?_)
  · replace h := if_t h c1
    refine g_sub [] rfl ?_
    exact pX10_isKind_14 h
  · replace h := if_f h c1
    refine g_iload_n dX10_isKind_4 rfl 0 rfl ?_
    refine g_bipush (v := 7) dX10_isKind_5 (by decide) ?_
    refine g_icmp_ge (t := 14) dX10_isKind_7 (by decide) (fun c2 => ?_) (fun c2 => ?_)
    · replace h := if_t h c2
      refine g_sub [] rfl ?_
      exact pX10_isKind_14 h
    · replace h := if_f h c2
      refine g_iconst (v := 1) dX10_isKind_10 (by decide) ?_
      refine g_goto (t := 15) dX10_isKind_11 (by decide) ?_
      refine g_sub [] rfl ?_
      exact pX10_isKind_15 h
theorem zX10_isKind {E : gE} {p1 : Int32} {r : Int32} {σ σ' : gS} (h : fX10_isKind p1 σ = some (r, σ')) : gC E mX10_isKind [.int p1] σ (some (.int r)) σ' :=
  gC_of (by decide +kernel) rfl (Nat.le_of_ble_eq_true rfl) (pX10_isKind h)
def mX10_is : gM := (yX10_is, cX10_is, RX10, 3, (some .int), 1, 24)
theorem dX10_is_0 : decode mX10_is.2.1 0 = .ok (.aload_n 0, 1) := by decide +kernel
theorem dX10_is_1 : decode mX10_is.2.1 1 = .ok (.iload_n 1, 1) := by decide +kernel
theorem dX10_is_2 : decode mX10_is.2.1 2 = .ok (.invokevirtual 112, 3) := by decide +kernel
theorem dX10_is_5 : decode mX10_is.2.1 5 = .ok (.ifCond .eq 10, 3) := by decide +kernel
theorem dX10_is_8 : decode mX10_is.2.1 8 = .ok (.iload_n 2, 1) := by decide +kernel
theorem dX10_is_9 : decode mX10_is.2.1 9 = .ok (.invokestatic 290, 3) := by decide +kernel
theorem dX10_is_12 : decode mX10_is.2.1 12 = .ok (.ifCond .ne 6, 3) := by decide +kernel
theorem dX10_is_15 : decode mX10_is.2.1 15 = .ok (.ldc 79, 2) := by decide +kernel
theorem dX10_is_17 : decode mX10_is.2.1 17 = .ok (.ireturn, 1) := by decide +kernel
theorem dX10_is_18 : decode mX10_is.2.1 18 = .ok (.aload_n 0, 1) := by decide +kernel
theorem dX10_is_19 : decode mX10_is.2.1 19 = .ok (.getfield 19, 3) := by decide +kernel
theorem dX10_is_22 : decode mX10_is.2.1 22 = .ok (.iload_n 1, 1) := by decide +kernel
theorem dX10_is_23 : decode mX10_is.2.1 23 = .ok (.iload_n 2, 1) := by decide +kernel
theorem dX10_is_24 : decode mX10_is.2.1 24 = .ok (.invokevirtual 293, 3) := by decide +kernel
theorem dX10_is_27 : decode mX10_is.2.1 27 = .ok (.ifCond .eq 7, 3) := by decide +kernel
theorem dX10_is_30 : decode mX10_is.2.1 30 = .ok (.iconst 1, 1) := by decide +kernel
theorem dX10_is_31 : decode mX10_is.2.1 31 = .ok (.goto 4, 3) := by decide +kernel
theorem dX10_is_34 : decode mX10_is.2.1 34 = .ok (.iconst 0, 1) := by decide +kernel
theorem dX10_is_35 : decode mX10_is.2.1 35 = .ok (.ireturn, 1) := by decide +kernel
theorem okX10_is_112 : gOkV mX10_is mX10_isPart 112 1 := ⟨List.forall_mem_cons.mpr ⟨(gm 855 (by decide +kernel) rfl), List.forall_mem_cons.mpr ⟨(gm 852 (by decide +kernel) rfl), List.forall_mem_cons.mpr ⟨(gm 854 (by decide +kernel) rfl), List.forall_mem_cons.mpr ⟨(gm 38 (by decide +kernel) rfl), List.forall_mem_cons.mpr ⟨(gm 107 (by decide +kernel) rfl), fun _ h => absurd h List.not_mem_nil⟩⟩⟩⟩⟩, by decide +kernel, by decide +kernel, by decide +kernel⟩
theorem okX10_is_290 : gOkS mX10_is mX10_isKind 290 1 := ⟨List.forall_mem_cons.mpr ⟨(gm 1129 (by decide +kernel) rfl), List.forall_mem_cons.mpr ⟨(gm 1127 (by decide +kernel) rfl), List.forall_mem_cons.mpr ⟨(gm 1128 (by decide +kernel) rfl), List.forall_mem_cons.mpr ⟨(gm 107 (by decide +kernel) rfl), fun _ h => absurd h List.not_mem_nil⟩⟩⟩⟩, by decide +kernel, by decide +kernel, by decide +kernel⟩
theorem okX10_is_293 : gOkV mX10_is mX3_isOfKind 293 2 := ⟨List.forall_mem_cons.mpr ⟨(gm 1133 (by decide +kernel) rfl), List.forall_mem_cons.mpr ⟨(gm 1130 (by decide +kernel) rfl), List.forall_mem_cons.mpr ⟨(gm 1131 (by decide +kernel) rfl), List.forall_mem_cons.mpr ⟨(gm 1132 (by decide +kernel) rfl), List.forall_mem_cons.mpr ⟨(gm 109 (by decide +kernel) rfl), fun _ h => absurd h List.not_mem_nil⟩⟩⟩⟩⟩, by decide +kernel, by decide +kernel, by decide +kernel⟩
def fX10_is_15 (p1 : Int32) (p2 : Int32) (σ : gS) : Option (Int32 × gS) :=
  some ((-1000001), σ)
set_option maxHeartbeats 4000000 in
set_option maxRecDepth 100000 in
theorem pX10_is_15 {E : gE} {p1 : Int32} {p2 : Int32} {r : Int32} {σ' : gS} {σ : gS} (h : fX10_is_15 p1 p2 σ = some (r, σ')) : gG E mX10_is 15 [] [] σ (some (.int r)) σ' := by
  unfold fX10_is_15 at h
  refine g_ldc (v := (-1000001)) dX10_is_15 wc_RX10_79 ?_
  obtain ⟨rfl, rfl⟩ := so_inj h
  exact g_iret dX10_is_17 rfl
def fX10_is_35 (p1 : Int32) (p2 : Int32) (s0 : Int32) (σ : gS) : Option (Int32 × gS) :=
  some (s0, σ)
set_option maxHeartbeats 4000000 in
set_option maxRecDepth 100000 in
theorem pX10_is_35 {E : gE} {p1 : Int32} {p2 : Int32} {r : Int32} {σ' : gS} {s0 : Int32} {σ : gS} (h : fX10_is_35 p1 p2 s0 σ = some (r, σ')) : gG E mX10_is 35 [] [.int s0] σ (some (.int r)) σ' := by
  unfold fX10_is_35 at h
  obtain ⟨rfl, rfl⟩ := so_inj h
  exact g_iret dX10_is_35 rfl
def fX10_is (p1 : Int32) (p2 : Int32) (σ : gS) : Option (Int32 × gS) :=
  bd (fX10_isPart p1 σ) fun x1 σ2 =>
  if x1 = 0 then
    fX10_is_15 p1 p2 σ2
  else
    bd (fX10_isKind p2 σ2) fun x5 σ6 =>
    if x5 = 0 then
      fX10_is_15 p1 p2 σ6
    else
      bnd (σ6.2.2 0 1) fun x9 =>
      gg (x9 = 4 ∨ x9 = 16) (
      bd (fX3_isOfKind x9 p1 p2 σ6) fun x11 σ12 =>
      if x11 = 0 then
        fX10_is_35 p1 p2 0 σ12
      else
        fX10_is_35 p1 p2 1 σ12)
set_option maxHeartbeats 4000000 in
set_option maxRecDepth 100000 in
theorem pX10_is {E : gE} {p1 : Int32} {p2 : Int32} {r : Int32} {σ' : gS} {σ : gS} (h : fX10_is p1 p2 σ = some (r, σ')) : gG E mX10_is 0 [(0, .ref 0), (1, .int p1), (2, .int p2)] [] σ (some (.int r)) σ' := by
  unfold fX10_is at h
  refine g_aload_n dX10_is_0 rfl 0 rfl ?_
  refine g_iload_n dX10_is_1 rfl 1 rfl ?_
  obtain ⟨x1, σ2, y3, h⟩ := bd_some h
  refine g_callVr (as := [.int p1]) (st := []) (zX10_isPart y3) dX10_is_2 gi_0 rfl okX10_is_112 (Nat.le_of_ble_eq_true rfl) ?_
  refine g_if_eq (t := 15) dX10_is_5 (by decide) (fun c4 => ?_) (fun c4 => ?_)
  · replace h := if_t h c4
    refine g_sub [] rfl ?_
    exact pX10_is_15 h
  · replace h := if_f h c4
    refine g_iload_n dX10_is_8 rfl 2 rfl ?_
    obtain ⟨x5, σ6, y7, h⟩ := bd_some h
    refine g_callSr (as := [.int p2]) (st := []) (zX10_isKind y7) dX10_is_9 okX10_is_290 (Nat.le_of_ble_eq_true rfl) ?_
    refine g_if_ne (t := 18) dX10_is_12 (by decide) (fun c8 => ?_) (fun c8 => ?_)
    · replace h := if_f h c8
      refine g_aload_n dX10_is_18 rfl 0 rfl ?_
      refine g_getR dX10_is_19 gi_0 rfl fl_RX10_19 ?_
      obtain ⟨x9, ex9, h⟩ := bnd_nm h
      refine g_topr ex9 ?_
      obtain ⟨g10, h⟩ := gg_some h
      refine g_iload_n dX10_is_22 rfl 1 rfl ?_
      refine g_iload_n dX10_is_23 rfl 2 rfl ?_
      obtain ⟨x11, σ12, y13, h⟩ := bd_some h
      refine g_callVr (as := [.int p1, .int p2]) (st := []) (zX3_isOfKind g10 y13) dX10_is_24 (gi_lk g10) rfl okX10_is_293 (Nat.le_of_ble_eq_true rfl) ?_
      refine g_if_eq (t := 34) dX10_is_27 (by decide) (fun c14 => ?_) (fun c14 => ?_)
      · replace h := if_t h c14
        refine g_iconst (v := 0) dX10_is_34 (by decide) ?_
        refine g_sub [] rfl ?_
        exact pX10_is_35 h
      · replace h := if_f h c14
        refine g_iconst (v := 1) dX10_is_30 (by decide) ?_
        refine g_goto (t := 35) dX10_is_31 (by decide) ?_
        refine g_sub [] rfl ?_
        exact pX10_is_35 h
    · replace h := if_t h c8
      refine g_sub [] rfl ?_
      exact pX10_is_15 h
theorem zX10_is {E : gE} {p1 : Int32} {p2 : Int32} {r : Int32} {σ σ' : gS} (h : fX10_is p1 p2 σ = some (r, σ')) : gC E mX10_is [.ref 0, .int p1, .int p2] σ (some (.int r)) σ' :=
  gC_of (by decide +kernel) rfl (Nat.le_of_ble_eq_true rfl) (pX10_is h)
def mX10_as : gM := (yX10_as, cX10_as, RX10, 3, (some .int), 1, 24)
theorem dX10_as_0 : decode mX10_as.2.1 0 = .ok (.aload_n 0, 1) := by decide +kernel
theorem dX10_as_1 : decode mX10_as.2.1 1 = .ok (.iload_n 1, 1) := by decide +kernel
theorem dX10_as_2 : decode mX10_as.2.1 2 = .ok (.invokevirtual 112, 3) := by decide +kernel
theorem dX10_as_5 : decode mX10_as.2.1 5 = .ok (.ifCond .eq 10, 3) := by decide +kernel
theorem dX10_as_8 : decode mX10_as.2.1 8 = .ok (.iload_n 2, 1) := by decide +kernel
theorem dX10_as_9 : decode mX10_as.2.1 9 = .ok (.invokestatic 290, 3) := by decide +kernel
theorem dX10_as_12 : decode mX10_as.2.1 12 = .ok (.ifCond .ne 6, 3) := by decide +kernel
theorem dX10_as_15 : decode mX10_as.2.1 15 = .ok (.ldc 79, 2) := by decide +kernel
theorem dX10_as_17 : decode mX10_as.2.1 17 = .ok (.ireturn, 1) := by decide +kernel
theorem dX10_as_18 : decode mX10_as.2.1 18 = .ok (.aload_n 0, 1) := by decide +kernel
theorem dX10_as_19 : decode mX10_as.2.1 19 = .ok (.getfield 19, 3) := by decide +kernel
theorem dX10_as_22 : decode mX10_as.2.1 22 = .ok (.iload_n 1, 1) := by decide +kernel
theorem dX10_as_23 : decode mX10_as.2.1 23 = .ok (.iload_n 2, 1) := by decide +kernel
theorem dX10_as_24 : decode mX10_as.2.1 24 = .ok (.invokevirtual 293, 3) := by decide +kernel
theorem dX10_as_27 : decode mX10_as.2.1 27 = .ok (.ifCond .eq 19, 3) := by decide +kernel
theorem dX10_as_30 : decode mX10_as.2.1 30 = .ok (.aload_n 0, 1) := by decide +kernel
theorem dX10_as_31 : decode mX10_as.2.1 31 = .ok (.aload_n 0, 1) := by decide +kernel
theorem dX10_as_32 : decode mX10_as.2.1 32 = .ok (.getfield 19, 3) := by decide +kernel
theorem dX10_as_35 : decode mX10_as.2.1 35 = .ok (.getfield 120, 3) := by decide +kernel
theorem dX10_as_38 : decode mX10_as.2.1 38 = .ok (.iload_n 1, 1) := by decide +kernel
theorem dX10_as_39 : decode mX10_as.2.1 39 = .ok (.iaload, 1) := by decide +kernel
theorem dX10_as_40 : decode mX10_as.2.1 40 = .ok (.invokevirtual 281, 3) := by decide +kernel
theorem dX10_as_43 : decode mX10_as.2.1 43 = .ok (.goto 8, 3) := by decide +kernel
theorem dX10_as_46 : decode mX10_as.2.1 46 = .ok (.aload_n 0, 1) := by decide +kernel
theorem dX10_as_47 : decode mX10_as.2.1 47 = .ok (.iconst 3, 1) := by decide +kernel
theorem dX10_as_48 : decode mX10_as.2.1 48 = .ok (.invokevirtual 278, 3) := by decide +kernel
theorem dX10_as_51 : decode mX10_as.2.1 51 = .ok (.ireturn, 1) := by decide +kernel
theorem okX10_as_112 : gOkV mX10_as mX10_isPart 112 1 := ⟨List.forall_mem_cons.mpr ⟨(gm 855 (by decide +kernel) rfl), List.forall_mem_cons.mpr ⟨(gm 852 (by decide +kernel) rfl), List.forall_mem_cons.mpr ⟨(gm 854 (by decide +kernel) rfl), List.forall_mem_cons.mpr ⟨(gm 38 (by decide +kernel) rfl), List.forall_mem_cons.mpr ⟨(gm 107 (by decide +kernel) rfl), fun _ h => absurd h List.not_mem_nil⟩⟩⟩⟩⟩, by decide +kernel, by decide +kernel, by decide +kernel⟩
theorem okX10_as_290 : gOkS mX10_as mX10_isKind 290 1 := ⟨List.forall_mem_cons.mpr ⟨(gm 1129 (by decide +kernel) rfl), List.forall_mem_cons.mpr ⟨(gm 1127 (by decide +kernel) rfl), List.forall_mem_cons.mpr ⟨(gm 1128 (by decide +kernel) rfl), List.forall_mem_cons.mpr ⟨(gm 107 (by decide +kernel) rfl), fun _ h => absurd h List.not_mem_nil⟩⟩⟩⟩, by decide +kernel, by decide +kernel, by decide +kernel⟩
theorem okX10_as_293 : gOkV mX10_as mX3_isOfKind 293 2 := ⟨List.forall_mem_cons.mpr ⟨(gm 1133 (by decide +kernel) rfl), List.forall_mem_cons.mpr ⟨(gm 1130 (by decide +kernel) rfl), List.forall_mem_cons.mpr ⟨(gm 1131 (by decide +kernel) rfl), List.forall_mem_cons.mpr ⟨(gm 1132 (by decide +kernel) rfl), List.forall_mem_cons.mpr ⟨(gm 109 (by decide +kernel) rfl), fun _ h => absurd h List.not_mem_nil⟩⟩⟩⟩⟩, by decide +kernel, by decide +kernel, by decide +kernel⟩
theorem okX10_as_278 : gOkV mX10_as mX10_found 278 1 := ⟨List.forall_mem_cons.mpr ⟨(gm 1113 (by decide +kernel) rfl), List.forall_mem_cons.mpr ⟨(gm 1110 (by decide +kernel) rfl), List.forall_mem_cons.mpr ⟨(gm 1112 (by decide +kernel) rfl), List.forall_mem_cons.mpr ⟨(gm 52 (by decide +kernel) rfl), List.forall_mem_cons.mpr ⟨(gm 107 (by decide +kernel) rfl), fun _ h => absurd h List.not_mem_nil⟩⟩⟩⟩⟩, by decide +kernel, by decide +kernel, by decide +kernel⟩
theorem okX10_as_281 : gOkV mX10_as mX10_fine 281 1 := ⟨List.forall_mem_cons.mpr ⟨(gm 1118 (by decide +kernel) rfl), List.forall_mem_cons.mpr ⟨(gm 1115 (by decide +kernel) rfl), List.forall_mem_cons.mpr ⟨(gm 1117 (by decide +kernel) rfl), List.forall_mem_cons.mpr ⟨(gm 53 (by decide +kernel) rfl), List.forall_mem_cons.mpr ⟨(gm 107 (by decide +kernel) rfl), fun _ h => absurd h List.not_mem_nil⟩⟩⟩⟩⟩, by decide +kernel, by decide +kernel, by decide +kernel⟩
def fX10_as_15 (p1 : Int32) (p2 : Int32) (σ : gS) : Option (Int32 × gS) :=
  some ((-1000001), σ)
set_option maxHeartbeats 4000000 in
set_option maxRecDepth 100000 in
theorem pX10_as_15 {E : gE} {p1 : Int32} {p2 : Int32} {r : Int32} {σ' : gS} {σ : gS} (h : fX10_as_15 p1 p2 σ = some (r, σ')) : gG E mX10_as 15 [] [] σ (some (.int r)) σ' := by
  unfold fX10_as_15 at h
  refine g_ldc (v := (-1000001)) dX10_as_15 wc_RX10_79 ?_
  obtain ⟨rfl, rfl⟩ := so_inj h
  exact g_iret dX10_as_17 rfl
def fX10_as_51 (p1 : Int32) (p2 : Int32) (s0 : Int32) (σ : gS) : Option (Int32 × gS) :=
  some (s0, σ)
set_option maxHeartbeats 4000000 in
set_option maxRecDepth 100000 in
theorem pX10_as_51 {E : gE} {p1 : Int32} {p2 : Int32} {r : Int32} {σ' : gS} {s0 : Int32} {σ : gS} (h : fX10_as_51 p1 p2 s0 σ = some (r, σ')) : gG E mX10_as 51 [] [.int s0] σ (some (.int r)) σ' := by
  unfold fX10_as_51 at h
  obtain ⟨rfl, rfl⟩ := so_inj h
  exact g_iret dX10_as_51 rfl
def fX10_as (p1 : Int32) (p2 : Int32) (σ : gS) : Option (Int32 × gS) :=
  bd (fX10_isPart p1 σ) fun x1 σ2 =>
  if x1 = 0 then
    fX10_as_15 p1 p2 σ2
  else
    bd (fX10_isKind p2 σ2) fun x5 σ6 =>
    if x5 = 0 then
      fX10_as_15 p1 p2 σ6
    else
      bnd (σ6.2.2 0 1) fun x9 =>
      gg (x9 = 4 ∨ x9 = 16) (
      bd (fX3_isOfKind x9 p1 p2 σ6) fun x11 σ12 =>
      if x11 = 0 then
        bd (fX10_found 3 σ12) fun x15 σ16 =>
        fX10_as_51 p1 p2 x15 σ16
      else
        bnd (σ12.2.2 0 1) fun x18 =>
        gg (x18 = 4 ∨ x18 = 16) (
        gg (¬ (p1 < 0 ∨ 130 ≤ p1.toNatClampNeg)) (
        bd (fX10_fine (σ12.1 (x18 + 2) p1.toNatClampNeg) σ12) fun x21 σ22 =>
        fX10_as_51 p1 p2 x21 σ22)))
set_option maxHeartbeats 4000000 in
set_option maxRecDepth 100000 in
theorem pX10_as {E : gE} {p1 : Int32} {p2 : Int32} {r : Int32} {σ' : gS} {σ : gS} (h : fX10_as p1 p2 σ = some (r, σ')) : gG E mX10_as 0 [(0, .ref 0), (1, .int p1), (2, .int p2)] [] σ (some (.int r)) σ' := by
  unfold fX10_as at h
  refine g_aload_n dX10_as_0 rfl 0 rfl ?_
  refine g_iload_n dX10_as_1 rfl 1 rfl ?_
  obtain ⟨x1, σ2, y3, h⟩ := bd_some h
  refine g_callVr (as := [.int p1]) (st := []) (zX10_isPart y3) dX10_as_2 gi_0 rfl okX10_as_112 (Nat.le_of_ble_eq_true rfl) ?_
  refine g_if_eq (t := 15) dX10_as_5 (by decide) (fun c4 => ?_) (fun c4 => ?_)
  · replace h := if_t h c4
    refine g_sub [] rfl ?_
    exact pX10_as_15 h
  · replace h := if_f h c4
    refine g_iload_n dX10_as_8 rfl 2 rfl ?_
    obtain ⟨x5, σ6, y7, h⟩ := bd_some h
    refine g_callSr (as := [.int p2]) (st := []) (zX10_isKind y7) dX10_as_9 okX10_as_290 (Nat.le_of_ble_eq_true rfl) ?_
    refine g_if_ne (t := 18) dX10_as_12 (by decide) (fun c8 => ?_) (fun c8 => ?_)
    · replace h := if_f h c8
      refine g_aload_n dX10_as_18 rfl 0 rfl ?_
      refine g_getR dX10_as_19 gi_0 rfl fl_RX10_19 ?_
      obtain ⟨x9, ex9, h⟩ := bnd_nm h
      refine g_topr ex9 ?_
      obtain ⟨g10, h⟩ := gg_some h
      refine g_iload_n dX10_as_22 rfl 1 rfl ?_
      refine g_iload_n dX10_as_23 rfl 2 rfl ?_
      obtain ⟨x11, σ12, y13, h⟩ := bd_some h
      refine g_callVr (as := [.int p1, .int p2]) (st := []) (zX3_isOfKind g10 y13) dX10_as_24 (gi_lk g10) rfl okX10_as_293 (Nat.le_of_ble_eq_true rfl) ?_
      refine g_if_eq (t := 46) dX10_as_27 (by decide) (fun c14 => ?_) (fun c14 => ?_)
      · replace h := if_t h c14
        refine g_aload_n dX10_as_46 rfl 0 rfl ?_
        refine g_iconst (v := 3) dX10_as_47 (by decide) ?_
        obtain ⟨x15, σ16, y17, h⟩ := bd_some h
        refine g_callVr (as := [.int 3]) (st := []) (zX10_found y17) dX10_as_48 gi_0 rfl okX10_as_278 (Nat.le_of_ble_eq_true rfl) ?_
        refine g_sub [] rfl ?_
        exact pX10_as_51 h
      · replace h := if_f h c14
        refine g_aload_n dX10_as_30 rfl 0 rfl ?_
        refine g_aload_n dX10_as_31 rfl 0 rfl ?_
        refine g_getR dX10_as_32 gi_0 rfl fl_RX10_19 ?_
        obtain ⟨x18, ex18, h⟩ := bnd_nm h
        refine g_topr ex18 ?_
        obtain ⟨g19, h⟩ := gg_some h
        refine g_getC (n := (x18 + 2)) dX10_as_35 (gi_lk g19) rfl fl_RX10_120 ?_
        refine g_iload_n dX10_as_38 rfl 1 rfl ?_
        obtain ⟨g20, h⟩ := gg_some h
        refine g_iald dX10_as_39 (gi_lk2 g19) g20 ?_
        obtain ⟨x21, σ22, y23, h⟩ := bd_some h
        refine g_callVr (as := [.int (σ12.1 (x18 + 2) p1.toNatClampNeg)]) (st := []) (zX10_fine y23) dX10_as_40 gi_0 rfl okX10_as_281 (Nat.le_of_ble_eq_true rfl) ?_
        refine g_goto (t := 51) dX10_as_43 (by decide) ?_
        refine g_sub [] rfl ?_
        exact pX10_as_51 h
    · replace h := if_t h c8
      refine g_sub [] rfl ?_
      exact pX10_as_15 h
theorem zX10_as {E : gE} {p1 : Int32} {p2 : Int32} {r : Int32} {σ σ' : gS} (h : fX10_as p1 p2 σ = some (r, σ')) : gC E mX10_as [.ref 0, .int p1, .int p2] σ (some (.int r)) σ' :=
  gC_of (by decide +kernel) rfl (Nat.le_of_ble_eq_true rfl) (pX10_as h)
def mX10_isRow : gM := (yX10_isRow, cX10_isRow, RX10, 1, (some .boolean), 0, 0)
theorem dX10_isRow_0 : decode mX10_isRow.2.1 0 = .ok (.iload_n 0, 1) := by decide +kernel
theorem dX10_isRow_1 : decode mX10_isRow.2.1 1 = .ok (.ifCond .lt 13, 3) := by decide +kernel
theorem dX10_isRow_4 : decode mX10_isRow.2.1 4 = .ok (.iload_n 0, 1) := by decide +kernel
theorem dX10_isRow_5 : decode mX10_isRow.2.1 5 = .ok (.bipush 8, 2) := by decide +kernel
theorem dX10_isRow_7 : decode mX10_isRow.2.1 7 = .ok (.if_icmp .ge 7, 3) := by decide +kernel
theorem dX10_isRow_10 : decode mX10_isRow.2.1 10 = .ok (.iconst 1, 1) := by decide +kernel
theorem dX10_isRow_11 : decode mX10_isRow.2.1 11 = .ok (.goto 4, 3) := by decide +kernel
theorem dX10_isRow_14 : decode mX10_isRow.2.1 14 = .ok (.iconst 0, 1) := by decide +kernel
theorem dX10_isRow_15 : decode mX10_isRow.2.1 15 = .ok (.ireturn, 1) := by decide +kernel
def fX10_isRow_15 (p1 : Int32) (s0 : Int32) (σ : gS) : Option (Int32 × gS) :=
  gg (s0 = 0 ∨ s0 = 1) (
  some (s0, σ))
set_option maxHeartbeats 4000000 in
set_option maxRecDepth 100000 in
theorem pX10_isRow_15 {E : gE} {p1 : Int32} {r : Int32} {σ' : gS} {s0 : Int32} {σ : gS} (h : fX10_isRow_15 p1 s0 σ = some (r, σ')) : gG E mX10_isRow 15 [] [.int s0] σ (some (.int r)) σ' := by
  unfold fX10_isRow_15 at h
  obtain ⟨g1, h⟩ := gg_some h
  obtain ⟨rfl, rfl⟩ := so_inj h
  exact g_zret dX10_isRow_15 rfl g1
def fX10_isRow_14 (p1 : Int32) (σ : gS) : Option (Int32 × gS) :=
  fX10_isRow_15 p1 0 σ
set_option maxHeartbeats 4000000 in
set_option maxRecDepth 100000 in
theorem pX10_isRow_14 {E : gE} {p1 : Int32} {r : Int32} {σ' : gS} {σ : gS} (h : fX10_isRow_14 p1 σ = some (r, σ')) : gG E mX10_isRow 14 [] [] σ (some (.int r)) σ' := by
  unfold fX10_isRow_14 at h
  refine g_iconst (v := 0) dX10_isRow_14 (by decide) ?_
  exact pX10_isRow_15 h
def fX10_isRow (p1 : Int32) (σ : gS) : Option (Int32 × gS) :=
  if p1 < 0 then
    fX10_isRow_14 p1 σ
  else
    if 8 ≤ p1 then
      fX10_isRow_14 p1 σ
    else
      fX10_isRow_15 p1 1 σ
set_option maxHeartbeats 4000000 in
set_option maxRecDepth 100000 in
theorem pX10_isRow {E : gE} {p1 : Int32} {r : Int32} {σ' : gS} {σ : gS} (h : fX10_isRow p1 σ = some (r, σ')) : gG E mX10_isRow 0 [(0, .int p1)] [] σ (some (.int r)) σ' := by
  unfold fX10_isRow at h
  refine g_iload_n dX10_isRow_0 rfl 0 rfl ?_
  refine g_if_lt (t := 14) dX10_isRow_1 (by decide) (fun c1 => ?_) (fun c1 => ?_)
  · replace h := if_t h c1
    refine g_sub [] rfl ?_
    exact pX10_isRow_14 h
  · replace h := if_f h c1
    refine g_iload_n dX10_isRow_4 rfl 0 rfl ?_
    refine g_bipush (v := 8) dX10_isRow_5 (by decide) ?_
    refine g_icmp_ge (t := 14) dX10_isRow_7 (by decide) (fun c2 => ?_) (fun c2 => ?_)
    · replace h := if_t h c2
      refine g_sub [] rfl ?_
      exact pX10_isRow_14 h
    · replace h := if_f h c2
      refine g_iconst (v := 1) dX10_isRow_10 (by decide) ?_
      refine g_goto (t := 15) dX10_isRow_11 (by decide) ?_
      refine g_sub [] rfl ?_
      exact pX10_isRow_15 h
theorem zX10_isRow {E : gE} {p1 : Int32} {r : Int32} {σ σ' : gS} (h : fX10_isRow p1 σ = some (r, σ')) : gC E mX10_isRow [.int p1] σ (some (.int r)) σ' :=
  gC_of (by decide +kernel) rfl (Nat.le_of_ble_eq_true rfl) (pX10_isRow h)
theorem fl_RX10_74 : gFl RX10 74 10 10 := ⟨RX10, TX10, 12, rfl, by decide, ux_10, Or.inl (gm 536 (by decide +kernel) rfl)⟩
def mX10_lay : gM := (yX10_lay, cX10_lay, RX10, 4, (some .int), 2, 46)
theorem dX10_lay_0 : decode mX10_lay.2.1 0 = .ok (.iload_n 1, 1) := by decide +kernel
theorem dX10_lay_1 : decode mX10_lay.2.1 1 = .ok (.invokestatic 296, 3) := by decide +kernel
theorem dX10_lay_4 : decode mX10_lay.2.1 4 = .ok (.ifCond .eq 19, 3) := by decide +kernel
theorem dX10_lay_7 : decode mX10_lay.2.1 7 = .ok (.iload_n 2, 1) := by decide +kernel
theorem dX10_lay_8 : decode mX10_lay.2.1 8 = .ok (.ifCond .lt 15, 3) := by decide +kernel
theorem dX10_lay_11 : decode mX10_lay.2.1 11 = .ok (.iload_n 2, 1) := by decide +kernel
theorem dX10_lay_12 : decode mX10_lay.2.1 12 = .ok (.iconst 4, 1) := by decide +kernel
theorem dX10_lay_13 : decode mX10_lay.2.1 13 = .ok (.if_icmp .ge 10, 3) := by decide +kernel
theorem dX10_lay_16 : decode mX10_lay.2.1 16 = .ok (.iload_n 3, 1) := by decide +kernel
theorem dX10_lay_17 : decode mX10_lay.2.1 17 = .ok (.sipush 300, 3) := by decide +kernel
theorem dX10_lay_20 : decode mX10_lay.2.1 20 = .ok (.if_icmp .le 6, 3) := by decide +kernel
theorem dX10_lay_23 : decode mX10_lay.2.1 23 = .ok (.ldc 79, 2) := by decide +kernel
theorem dX10_lay_25 : decode mX10_lay.2.1 25 = .ok (.ireturn, 1) := by decide +kernel
theorem dX10_lay_26 : decode mX10_lay.2.1 26 = .ok (.iload_n 3, 1) := by decide +kernel
theorem dX10_lay_27 : decode mX10_lay.2.1 27 = .ok (.ifCond .ge 9, 3) := by decide +kernel
theorem dX10_lay_30 : decode mX10_lay.2.1 30 = .ok (.aload_n 0, 1) := by decide +kernel
theorem dX10_lay_31 : decode mX10_lay.2.1 31 = .ok (.iconst 4, 1) := by decide +kernel
theorem dX10_lay_32 : decode mX10_lay.2.1 32 = .ok (.invokevirtual 278, 3) := by decide +kernel
theorem dX10_lay_35 : decode mX10_lay.2.1 35 = .ok (.ireturn, 1) := by decide +kernel
theorem dX10_lay_36 : decode mX10_lay.2.1 36 = .ok (.aload_n 0, 1) := by decide +kernel
theorem dX10_lay_37 : decode mX10_lay.2.1 37 = .ok (.getfield 74, 3) := by decide +kernel
theorem dX10_lay_40 : decode mX10_lay.2.1 40 = .ok (.iload_n 1, 1) := by decide +kernel
theorem dX10_lay_41 : decode mX10_lay.2.1 41 = .ok (.aaload, 1) := by decide +kernel
theorem dX10_lay_42 : decode mX10_lay.2.1 42 = .ok (.iload_n 2, 1) := by decide +kernel
theorem dX10_lay_43 : decode mX10_lay.2.1 43 = .ok (.iload_n 3, 1) := by decide +kernel
theorem dX10_lay_44 : decode mX10_lay.2.1 44 = .ok (.invokevirtual 299, 3) := by decide +kernel
theorem dX10_lay_47 : decode mX10_lay.2.1 47 = .ok (.aload_n 0, 1) := by decide +kernel
theorem dX10_lay_48 : decode mX10_lay.2.1 48 = .ok (.iload_n 3, 1) := by decide +kernel
theorem dX10_lay_49 : decode mX10_lay.2.1 49 = .ok (.invokevirtual 281, 3) := by decide +kernel
theorem dX10_lay_52 : decode mX10_lay.2.1 52 = .ok (.ireturn, 1) := by decide +kernel
theorem okX10_lay_296 : gOkS mX10_lay mX10_isRow 296 1 := ⟨List.forall_mem_cons.mpr ⟨(gm 1146 (by decide +kernel) rfl), List.forall_mem_cons.mpr ⟨(gm 1144 (by decide +kernel) rfl), List.forall_mem_cons.mpr ⟨(gm 1145 (by decide +kernel) rfl), List.forall_mem_cons.mpr ⟨(gm 107 (by decide +kernel) rfl), fun _ h => absurd h List.not_mem_nil⟩⟩⟩⟩, by decide +kernel, by decide +kernel, by decide +kernel⟩
theorem okX10_lay_299 : gOkV mX10_lay mX7_renew 299 2 := ⟨List.forall_mem_cons.mpr ⟨(gm 1150 (by decide +kernel) rfl), List.forall_mem_cons.mpr ⟨(gm 1147 (by decide +kernel) rfl), List.forall_mem_cons.mpr ⟨(gm 1148 (by decide +kernel) rfl), List.forall_mem_cons.mpr ⟨(gm 1149 (by decide +kernel) rfl), List.forall_mem_cons.mpr ⟨(gm 121 (by decide +kernel) rfl), fun _ h => absurd h List.not_mem_nil⟩⟩⟩⟩⟩, by decide +kernel, by decide +kernel, by decide +kernel⟩
theorem okX10_lay_281 : gOkV mX10_lay mX10_fine 281 1 := ⟨List.forall_mem_cons.mpr ⟨(gm 1118 (by decide +kernel) rfl), List.forall_mem_cons.mpr ⟨(gm 1115 (by decide +kernel) rfl), List.forall_mem_cons.mpr ⟨(gm 1117 (by decide +kernel) rfl), List.forall_mem_cons.mpr ⟨(gm 53 (by decide +kernel) rfl), List.forall_mem_cons.mpr ⟨(gm 107 (by decide +kernel) rfl), fun _ h => absurd h List.not_mem_nil⟩⟩⟩⟩⟩, by decide +kernel, by decide +kernel, by decide +kernel⟩
theorem okX10_lay_278 : gOkV mX10_lay mX10_found 278 1 := ⟨List.forall_mem_cons.mpr ⟨(gm 1113 (by decide +kernel) rfl), List.forall_mem_cons.mpr ⟨(gm 1110 (by decide +kernel) rfl), List.forall_mem_cons.mpr ⟨(gm 1112 (by decide +kernel) rfl), List.forall_mem_cons.mpr ⟨(gm 52 (by decide +kernel) rfl), List.forall_mem_cons.mpr ⟨(gm 107 (by decide +kernel) rfl), fun _ h => absurd h List.not_mem_nil⟩⟩⟩⟩⟩, by decide +kernel, by decide +kernel, by decide +kernel⟩
def fX10_lay_23 (p1 : Int32) (p2 : Int32) (p3 : Int32) (σ : gS) : Option (Int32 × gS) :=
  some ((-1000001), σ)
set_option maxHeartbeats 4000000 in
set_option maxRecDepth 100000 in
theorem pX10_lay_23 {E : gE} {p1 : Int32} {p2 : Int32} {p3 : Int32} {r : Int32} {σ' : gS} {σ : gS} (h : fX10_lay_23 p1 p2 p3 σ = some (r, σ')) : gG E mX10_lay 23 [] [] σ (some (.int r)) σ' := by
  unfold fX10_lay_23 at h
  refine g_ldc (v := (-1000001)) dX10_lay_23 wc_RX10_79 ?_
  obtain ⟨rfl, rfl⟩ := so_inj h
  exact g_iret dX10_lay_25 rfl
def fX10_lay (p1 : Int32) (p2 : Int32) (p3 : Int32) (σ : gS) : Option (Int32 × gS) :=
  bd (fX10_isRow p1 σ) fun x1 σ2 =>
  if x1 = 0 then
    fX10_lay_23 p1 p2 p3 σ2
  else
    if p2 < 0 then
      fX10_lay_23 p1 p2 p3 σ2
    else
      if 4 ≤ p2 then
        fX10_lay_23 p1 p2 p3 σ2
      else
        if p3 ≤ 300 then
          if 0 ≤ p3 then
            gg (¬ (p1 < 0 ∨ 8 ≤ p1.toNatClampNeg)) (
            bnd (152 + 2 * p1.toNatClampNeg) fun x10 =>
            bd (fX7_renew x10 p2 p3 σ2) fun _ σ12 =>
            bd (fX10_fine p3 σ12) fun x14 σ15 =>
            some (x14, σ15))
          else
            bd (fX10_found 4 σ2) fun x17 σ18 =>
            some (x17, σ18)
        else
          fX10_lay_23 p1 p2 p3 σ2
set_option maxHeartbeats 4000000 in
set_option maxRecDepth 100000 in
theorem pX10_lay {E : gE} {p1 : Int32} {p2 : Int32} {p3 : Int32} {r : Int32} {σ' : gS} {σ : gS} (h : fX10_lay p1 p2 p3 σ = some (r, σ')) : gG E mX10_lay 0 [(0, .ref 0), (1, .int p1), (2, .int p2), (3, .int p3)] [] σ (some (.int r)) σ' := by
  unfold fX10_lay at h
  refine g_iload_n dX10_lay_0 rfl 1 rfl ?_
  obtain ⟨x1, σ2, y3, h⟩ := bd_some h
  refine g_callSr (as := [.int p1]) (st := []) (zX10_isRow y3) dX10_lay_1 okX10_lay_296 (Nat.le_of_ble_eq_true rfl) ?_
  refine g_if_eq (t := 23) dX10_lay_4 (by decide) (fun c4 => ?_) (fun c4 => ?_)
  · replace h := if_t h c4
    refine g_sub [] rfl ?_
    exact pX10_lay_23 h
  · replace h := if_f h c4
    refine g_iload_n dX10_lay_7 rfl 2 rfl ?_
    refine g_if_lt (t := 23) dX10_lay_8 (by decide) (fun c5 => ?_) (fun c5 => ?_)
    · replace h := if_t h c5
      refine g_sub [] rfl ?_
      exact pX10_lay_23 h
    · replace h := if_f h c5
      refine g_iload_n dX10_lay_11 rfl 2 rfl ?_
      refine g_iconst (v := 4) dX10_lay_12 (by decide) ?_
      refine g_icmp_ge (t := 23) dX10_lay_13 (by decide) (fun c6 => ?_) (fun c6 => ?_)
      · replace h := if_t h c6
        refine g_sub [] rfl ?_
        exact pX10_lay_23 h
      · replace h := if_f h c6
        refine g_iload_n dX10_lay_16 rfl 3 rfl ?_
        refine g_sipush (v := 300) dX10_lay_17 (by decide) ?_
        refine g_icmp_le (t := 26) dX10_lay_20 (by decide) (fun c7 => ?_) (fun c7 => ?_)
        · replace h := if_t h c7
          refine g_iload_n dX10_lay_26 rfl 3 rfl ?_
          refine g_if_ge (t := 36) dX10_lay_27 (by decide) (fun c8 => ?_) (fun c8 => ?_)
          · replace h := if_t h c8
            refine g_aload_n dX10_lay_36 rfl 0 rfl ?_
            refine g_getC (n := 151) dX10_lay_37 gi_0 rfl fl_RX10_74 ?_
            refine g_iload_n dX10_lay_40 rfl 1 rfl ?_
            obtain ⟨g9, h⟩ := gg_some h
            refine g_aaldO dX10_lay_41 gi_151 g9 ?_
            obtain ⟨x10, ex10, h⟩ := bnd_nm h
            refine g_topr ex10 ?_
            have q11 : gRo x10 := ex10 ▸ gRo_i (vp_lt g9)
            refine g_iload_n dX10_lay_42 rfl 2 rfl ?_
            refine g_iload_n dX10_lay_43 rfl 3 rfl ?_
            obtain ⟨_, σ12, y13, h⟩ := bd_some h
            refine g_callVv (as := [.int p2, .int p3]) (st := []) (zX7_renew q11 y13) dX10_lay_44 (gi_ro q11) rfl okX10_lay_299 (Nat.le_of_ble_eq_true rfl) ?_
            refine g_aload_n dX10_lay_47 rfl 0 rfl ?_
            refine g_iload_n dX10_lay_48 rfl 3 rfl ?_
            obtain ⟨x14, σ15, y16, h⟩ := bd_some h
            refine g_callVr (as := [.int p3]) (st := []) (zX10_fine y16) dX10_lay_49 gi_0 rfl okX10_lay_281 (Nat.le_of_ble_eq_true rfl) ?_
            obtain ⟨rfl, rfl⟩ := so_inj h
            exact g_iret dX10_lay_52 rfl
          · replace h := if_f h c8
            refine g_aload_n dX10_lay_30 rfl 0 rfl ?_
            refine g_iconst (v := 4) dX10_lay_31 (by decide) ?_
            obtain ⟨x17, σ18, y19, h⟩ := bd_some h
            refine g_callVr (as := [.int 4]) (st := []) (zX10_found y19) dX10_lay_32 gi_0 rfl okX10_lay_278 (Nat.le_of_ble_eq_true rfl) ?_
            obtain ⟨rfl, rfl⟩ := so_inj h
            exact g_iret dX10_lay_35 rfl
        · replace h := if_f h c7
          refine g_sub [] rfl ?_
          exact pX10_lay_23 h
theorem zX10_lay {E : gE} {p1 : Int32} {p2 : Int32} {p3 : Int32} {r : Int32} {σ σ' : gS} (h : fX10_lay p1 p2 p3 σ = some (r, σ')) : gC E mX10_lay [.ref 0, .int p1, .int p2, .int p3] σ (some (.int r)) σ' :=
  gC_of (by decide +kernel) rfl (Nat.le_of_ble_eq_true rfl) (pX10_lay h)
theorem fl_RX10_302 : gFl RX10 302 7 0 := ⟨RX7, TX7, 4, rfl, by decide, ux_7, Or.inr ⟨"LinkageCurves", by decide +kernel⟩⟩
theorem fp_RX10_302 : gFp RX10 302 7 0 .boolean := ⟨RX7, TX7, 4, rfl, by decide, ux_7, Or.inr ⟨"LinkageCurves", by decide +kernel⟩, rfl, by decide +kernel, ⟨tyX7, tyX7_ok⟩, nmX7⟩
theorem fl_RX10_305 : gFl RX10 305 7 2 := ⟨RX7, TX7, 4, rfl, by decide, ux_7, Or.inr ⟨"LinkageCurves", by decide +kernel⟩⟩
def mX10_drop : gM := (yX10_drop, cX10_drop, RX10, 2, (some .int), 1, 21)
theorem dX10_drop_0 : decode mX10_drop.2.1 0 = .ok (.iload_n 1, 1) := by decide +kernel
theorem dX10_drop_1 : decode mX10_drop.2.1 1 = .ok (.invokestatic 296, 3) := by decide +kernel
theorem dX10_drop_4 : decode mX10_drop.2.1 4 = .ok (.ifCond .ne 6, 3) := by decide +kernel
theorem dX10_drop_7 : decode mX10_drop.2.1 7 = .ok (.ldc 79, 2) := by decide +kernel
theorem dX10_drop_9 : decode mX10_drop.2.1 9 = .ok (.ireturn, 1) := by decide +kernel
theorem dX10_drop_10 : decode mX10_drop.2.1 10 = .ok (.aload_n 0, 1) := by decide +kernel
theorem dX10_drop_11 : decode mX10_drop.2.1 11 = .ok (.getfield 74, 3) := by decide +kernel
theorem dX10_drop_14 : decode mX10_drop.2.1 14 = .ok (.iload_n 1, 1) := by decide +kernel
theorem dX10_drop_15 : decode mX10_drop.2.1 15 = .ok (.aaload, 1) := by decide +kernel
theorem dX10_drop_16 : decode mX10_drop.2.1 16 = .ok (.getfield 302, 3) := by decide +kernel
theorem dX10_drop_19 : decode mX10_drop.2.1 19 = .ok (.ifCond .ne 9, 3) := by decide +kernel
theorem dX10_drop_22 : decode mX10_drop.2.1 22 = .ok (.aload_n 0, 1) := by decide +kernel
theorem dX10_drop_23 : decode mX10_drop.2.1 23 = .ok (.iconst 1, 1) := by decide +kernel
theorem dX10_drop_24 : decode mX10_drop.2.1 24 = .ok (.invokevirtual 278, 3) := by decide +kernel
theorem dX10_drop_27 : decode mX10_drop.2.1 27 = .ok (.ireturn, 1) := by decide +kernel
theorem dX10_drop_28 : decode mX10_drop.2.1 28 = .ok (.aload_n 0, 1) := by decide +kernel
theorem dX10_drop_29 : decode mX10_drop.2.1 29 = .ok (.getfield 74, 3) := by decide +kernel
theorem dX10_drop_32 : decode mX10_drop.2.1 32 = .ok (.iload_n 1, 1) := by decide +kernel
theorem dX10_drop_33 : decode mX10_drop.2.1 33 = .ok (.aaload, 1) := by decide +kernel
theorem dX10_drop_34 : decode mX10_drop.2.1 34 = .ok (.iconst 0, 1) := by decide +kernel
theorem dX10_drop_35 : decode mX10_drop.2.1 35 = .ok (.putfield 302, 3) := by decide +kernel
theorem dX10_drop_38 : decode mX10_drop.2.1 38 = .ok (.aload_n 0, 1) := by decide +kernel
theorem dX10_drop_39 : decode mX10_drop.2.1 39 = .ok (.aload_n 0, 1) := by decide +kernel
theorem dX10_drop_40 : decode mX10_drop.2.1 40 = .ok (.getfield 74, 3) := by decide +kernel
theorem dX10_drop_43 : decode mX10_drop.2.1 43 = .ok (.iload_n 1, 1) := by decide +kernel
theorem dX10_drop_44 : decode mX10_drop.2.1 44 = .ok (.aaload, 1) := by decide +kernel
theorem dX10_drop_45 : decode mX10_drop.2.1 45 = .ok (.getfield 305, 3) := by decide +kernel
theorem dX10_drop_48 : decode mX10_drop.2.1 48 = .ok (.invokevirtual 281, 3) := by decide +kernel
theorem dX10_drop_51 : decode mX10_drop.2.1 51 = .ok (.ireturn, 1) := by decide +kernel
theorem okX10_drop_296 : gOkS mX10_drop mX10_isRow 296 1 := ⟨List.forall_mem_cons.mpr ⟨(gm 1146 (by decide +kernel) rfl), List.forall_mem_cons.mpr ⟨(gm 1144 (by decide +kernel) rfl), List.forall_mem_cons.mpr ⟨(gm 1145 (by decide +kernel) rfl), List.forall_mem_cons.mpr ⟨(gm 107 (by decide +kernel) rfl), fun _ h => absurd h List.not_mem_nil⟩⟩⟩⟩, by decide +kernel, by decide +kernel, by decide +kernel⟩
theorem okX10_drop_281 : gOkV mX10_drop mX10_fine 281 1 := ⟨List.forall_mem_cons.mpr ⟨(gm 1118 (by decide +kernel) rfl), List.forall_mem_cons.mpr ⟨(gm 1115 (by decide +kernel) rfl), List.forall_mem_cons.mpr ⟨(gm 1117 (by decide +kernel) rfl), List.forall_mem_cons.mpr ⟨(gm 53 (by decide +kernel) rfl), List.forall_mem_cons.mpr ⟨(gm 107 (by decide +kernel) rfl), fun _ h => absurd h List.not_mem_nil⟩⟩⟩⟩⟩, by decide +kernel, by decide +kernel, by decide +kernel⟩
theorem okX10_drop_278 : gOkV mX10_drop mX10_found 278 1 := ⟨List.forall_mem_cons.mpr ⟨(gm 1113 (by decide +kernel) rfl), List.forall_mem_cons.mpr ⟨(gm 1110 (by decide +kernel) rfl), List.forall_mem_cons.mpr ⟨(gm 1112 (by decide +kernel) rfl), List.forall_mem_cons.mpr ⟨(gm 52 (by decide +kernel) rfl), List.forall_mem_cons.mpr ⟨(gm 107 (by decide +kernel) rfl), fun _ h => absurd h List.not_mem_nil⟩⟩⟩⟩⟩, by decide +kernel, by decide +kernel, by decide +kernel⟩
def fX10_drop (p1 : Int32) (σ : gS) : Option (Int32 × gS) :=
  bd (fX10_isRow p1 σ) fun x1 σ2 =>
  if x1 = 0 then
    some ((-1000001), σ2)
  else
    gg (¬ (p1 < 0 ∨ 8 ≤ p1.toNatClampNeg)) (
    bnd (152 + 2 * p1.toNatClampNeg) fun x6 =>
    if (σ2.1 x6 0) = 0 then
      bd (fX10_found 1 σ2) fun x19 σ20 =>
      some (x19, σ20)
    else
      gg (¬ (p1 < 0 ∨ 8 ≤ p1.toNatClampNeg)) (
      bnd (152 + 2 * p1.toNatClampNeg) fun x10 =>
      bnd (gsI σ2 x10 0 0) fun σ12 =>
      gg (¬ (p1 < 0 ∨ 8 ≤ p1.toNatClampNeg)) (
      bnd (152 + 2 * p1.toNatClampNeg) fun x14 =>
      bd (fX10_fine (σ12.1 x14 2) σ12) fun x16 σ17 =>
      some (x16, σ17))))
set_option maxHeartbeats 4000000 in
set_option maxRecDepth 100000 in
theorem pX10_drop {E : gE} {p1 : Int32} {r : Int32} {σ' : gS} {σ : gS} (h : fX10_drop p1 σ = some (r, σ')) : gG E mX10_drop 0 [(0, .ref 0), (1, .int p1)] [] σ (some (.int r)) σ' := by
  unfold fX10_drop at h
  refine g_iload_n dX10_drop_0 rfl 1 rfl ?_
  obtain ⟨x1, σ2, y3, h⟩ := bd_some h
  refine g_callSr (as := [.int p1]) (st := []) (zX10_isRow y3) dX10_drop_1 okX10_drop_296 (Nat.le_of_ble_eq_true rfl) ?_
  refine g_if_ne (t := 10) dX10_drop_4 (by decide) (fun c4 => ?_) (fun c4 => ?_)
  · replace h := if_f h c4
    refine g_aload_n dX10_drop_10 rfl 0 rfl ?_
    refine g_getC (n := 151) dX10_drop_11 gi_0 rfl fl_RX10_74 ?_
    refine g_iload_n dX10_drop_14 rfl 1 rfl ?_
    obtain ⟨g5, h⟩ := gg_some h
    refine g_aaldO dX10_drop_15 gi_151 g5 ?_
    obtain ⟨x6, ex6, h⟩ := bnd_nm h
    refine g_topr ex6 ?_
    have q7 : gRo x6 := ex6 ▸ gRo_i (vp_lt g5)
    refine g_getI dX10_drop_16 (gi_ro q7) rfl fl_RX10_302 ?_
    refine g_if_ne (t := 28) dX10_drop_19 (by decide) (fun c8 => ?_) (fun c8 => ?_)
    · replace h := if_f h c8
      refine g_aload_n dX10_drop_28 rfl 0 rfl ?_
      refine g_getC (n := 151) dX10_drop_29 gi_0 rfl fl_RX10_74 ?_
      refine g_iload_n dX10_drop_32 rfl 1 rfl ?_
      obtain ⟨g9, h⟩ := gg_some h
      refine g_aaldO dX10_drop_33 gi_151 g9 ?_
      obtain ⟨x10, ex10, h⟩ := bnd_nm h
      refine g_topr ex10 ?_
      have q11 : gRo x10 := ex10 ▸ gRo_i (vp_lt g9)
      refine g_iconst (v := 0) dX10_drop_34 (by decide) ?_
      obtain ⟨σ12, eσ12, h⟩ := bnd_nm h
      refine g_putZ dX10_drop_35 (gi_ro q11) rfl fp_RX10_302 (Or.inl rfl) (g_st eσ12 ?_)
      refine g_aload_n dX10_drop_38 rfl 0 rfl ?_
      refine g_aload_n dX10_drop_39 rfl 0 rfl ?_
      refine g_getC (n := 151) dX10_drop_40 gi_0 rfl fl_RX10_74 ?_
      refine g_iload_n dX10_drop_43 rfl 1 rfl ?_
      obtain ⟨g13, h⟩ := gg_some h
      refine g_aaldO dX10_drop_44 gi_151 g13 ?_
      obtain ⟨x14, ex14, h⟩ := bnd_nm h
      refine g_topr ex14 ?_
      have q15 : gRo x14 := ex14 ▸ gRo_i (vp_lt g13)
      refine g_getI dX10_drop_45 (gi_ro q15) rfl fl_RX10_305 ?_
      obtain ⟨x16, σ17, y18, h⟩ := bd_some h
      refine g_callVr (as := [.int (σ12.1 x14 2)]) (st := []) (zX10_fine y18) dX10_drop_48 gi_0 rfl okX10_drop_281 (Nat.le_of_ble_eq_true rfl) ?_
      obtain ⟨rfl, rfl⟩ := so_inj h
      exact g_iret dX10_drop_51 rfl
    · replace h := if_t h c8
      refine g_aload_n dX10_drop_22 rfl 0 rfl ?_
      refine g_iconst (v := 1) dX10_drop_23 (by decide) ?_
      obtain ⟨x19, σ20, y21, h⟩ := bd_some h
      refine g_callVr (as := [.int 1]) (st := []) (zX10_found y21) dX10_drop_24 gi_0 rfl okX10_drop_278 (Nat.le_of_ble_eq_true rfl) ?_
      obtain ⟨rfl, rfl⟩ := so_inj h
      exact g_iret dX10_drop_27 rfl
  · replace h := if_t h c4
    refine g_ldc (v := (-1000001)) dX10_drop_7 wc_RX10_79 ?_
    obtain ⟨rfl, rfl⟩ := so_inj h
    exact g_iret dX10_drop_9 rfl
theorem zX10_drop {E : gE} {p1 : Int32} {r : Int32} {σ σ' : gS} (h : fX10_drop p1 σ = some (r, σ')) : gC E mX10_drop [.ref 0, .int p1] σ (some (.int r)) σ' :=
  gC_of (by decide +kernel) rfl (Nat.le_of_ble_eq_true rfl) (pX10_drop h)
def mX10_refusalAt : gM := (yX10_refusalAt, cX10_refusalAt, RX10, 3, (some .int), 1, 21)
theorem dX10_refusalAt_0 : decode mX10_refusalAt.2.1 0 = .ok (.iload_n 1, 1) := by decide +kernel
theorem dX10_refusalAt_1 : decode mX10_refusalAt.2.1 1 = .ok (.invokestatic 296, 3) := by decide +kernel
theorem dX10_refusalAt_4 : decode mX10_refusalAt.2.1 4 = .ok (.ifCond .ne 6, 3) := by decide +kernel
theorem dX10_refusalAt_7 : decode mX10_refusalAt.2.1 7 = .ok (.ldc 79, 2) := by decide +kernel
theorem dX10_refusalAt_9 : decode mX10_refusalAt.2.1 9 = .ok (.ireturn, 1) := by decide +kernel
theorem dX10_refusalAt_10 : decode mX10_refusalAt.2.1 10 = .ok (.aload_n 0, 1) := by decide +kernel
theorem dX10_refusalAt_11 : decode mX10_refusalAt.2.1 11 = .ok (.getfield 74, 3) := by decide +kernel
theorem dX10_refusalAt_14 : decode mX10_refusalAt.2.1 14 = .ok (.iload_n 1, 1) := by decide +kernel
theorem dX10_refusalAt_15 : decode mX10_refusalAt.2.1 15 = .ok (.aaload, 1) := by decide +kernel
theorem dX10_refusalAt_16 : decode mX10_refusalAt.2.1 16 = .ok (.getfield 302, 3) := by decide +kernel
theorem dX10_refusalAt_19 : decode mX10_refusalAt.2.1 19 = .ok (.ifCond .ne 9, 3) := by decide +kernel
theorem dX10_refusalAt_22 : decode mX10_refusalAt.2.1 22 = .ok (.aload_n 0, 1) := by decide +kernel
theorem dX10_refusalAt_23 : decode mX10_refusalAt.2.1 23 = .ok (.iconst 1, 1) := by decide +kernel
theorem dX10_refusalAt_24 : decode mX10_refusalAt.2.1 24 = .ok (.invokevirtual 278, 3) := by decide +kernel
theorem dX10_refusalAt_27 : decode mX10_refusalAt.2.1 27 = .ok (.ireturn, 1) := by decide +kernel
theorem dX10_refusalAt_28 : decode mX10_refusalAt.2.1 28 = .ok (.iload_n 2, 1) := by decide +kernel
theorem dX10_refusalAt_29 : decode mX10_refusalAt.2.1 29 = .ok (.ifCond .lt 16, 3) := by decide +kernel
theorem dX10_refusalAt_32 : decode mX10_refusalAt.2.1 32 = .ok (.iload_n 2, 1) := by decide +kernel
theorem dX10_refusalAt_33 : decode mX10_refusalAt.2.1 33 = .ok (.aload_n 0, 1) := by decide +kernel
theorem dX10_refusalAt_34 : decode mX10_refusalAt.2.1 34 = .ok (.getfield 74, 3) := by decide +kernel
theorem dX10_refusalAt_37 : decode mX10_refusalAt.2.1 37 = .ok (.iload_n 1, 1) := by decide +kernel
theorem dX10_refusalAt_38 : decode mX10_refusalAt.2.1 38 = .ok (.aaload, 1) := by decide +kernel
theorem dX10_refusalAt_39 : decode mX10_refusalAt.2.1 39 = .ok (.getfield 305, 3) := by decide +kernel
theorem dX10_refusalAt_42 : decode mX10_refusalAt.2.1 42 = .ok (.if_icmp .lt 11, 3) := by decide +kernel
theorem dX10_refusalAt_45 : decode mX10_refusalAt.2.1 45 = .ok (.aload_n 0, 1) := by decide +kernel
theorem dX10_refusalAt_46 : decode mX10_refusalAt.2.1 46 = .ok (.iconst 2, 1) := by decide +kernel
theorem dX10_refusalAt_47 : decode mX10_refusalAt.2.1 47 = .ok (.invokevirtual 278, 3) := by decide +kernel
theorem dX10_refusalAt_50 : decode mX10_refusalAt.2.1 50 = .ok (.goto 8, 3) := by decide +kernel
theorem dX10_refusalAt_53 : decode mX10_refusalAt.2.1 53 = .ok (.aload_n 0, 1) := by decide +kernel
theorem dX10_refusalAt_54 : decode mX10_refusalAt.2.1 54 = .ok (.iconst 0, 1) := by decide +kernel
theorem dX10_refusalAt_55 : decode mX10_refusalAt.2.1 55 = .ok (.invokevirtual 281, 3) := by decide +kernel
theorem dX10_refusalAt_58 : decode mX10_refusalAt.2.1 58 = .ok (.ireturn, 1) := by decide +kernel
theorem okX10_refusalAt_278 : gOkV mX10_refusalAt mX10_found 278 1 := ⟨List.forall_mem_cons.mpr ⟨(gm 1113 (by decide +kernel) rfl), List.forall_mem_cons.mpr ⟨(gm 1110 (by decide +kernel) rfl), List.forall_mem_cons.mpr ⟨(gm 1112 (by decide +kernel) rfl), List.forall_mem_cons.mpr ⟨(gm 52 (by decide +kernel) rfl), List.forall_mem_cons.mpr ⟨(gm 107 (by decide +kernel) rfl), fun _ h => absurd h List.not_mem_nil⟩⟩⟩⟩⟩, by decide +kernel, by decide +kernel, by decide +kernel⟩
theorem okX10_refusalAt_296 : gOkS mX10_refusalAt mX10_isRow 296 1 := ⟨List.forall_mem_cons.mpr ⟨(gm 1146 (by decide +kernel) rfl), List.forall_mem_cons.mpr ⟨(gm 1144 (by decide +kernel) rfl), List.forall_mem_cons.mpr ⟨(gm 1145 (by decide +kernel) rfl), List.forall_mem_cons.mpr ⟨(gm 107 (by decide +kernel) rfl), fun _ h => absurd h List.not_mem_nil⟩⟩⟩⟩, by decide +kernel, by decide +kernel, by decide +kernel⟩
theorem okX10_refusalAt_281 : gOkV mX10_refusalAt mX10_fine 281 1 := ⟨List.forall_mem_cons.mpr ⟨(gm 1118 (by decide +kernel) rfl), List.forall_mem_cons.mpr ⟨(gm 1115 (by decide +kernel) rfl), List.forall_mem_cons.mpr ⟨(gm 1117 (by decide +kernel) rfl), List.forall_mem_cons.mpr ⟨(gm 53 (by decide +kernel) rfl), List.forall_mem_cons.mpr ⟨(gm 107 (by decide +kernel) rfl), fun _ h => absurd h List.not_mem_nil⟩⟩⟩⟩⟩, by decide +kernel, by decide +kernel, by decide +kernel⟩
def fX10_refusalAt_58 (p1 : Int32) (p2 : Int32) (s0 : Int32) (σ : gS) : Option (Int32 × gS) :=
  some (s0, σ)
set_option maxHeartbeats 4000000 in
set_option maxRecDepth 100000 in
theorem pX10_refusalAt_58 {E : gE} {p1 : Int32} {p2 : Int32} {r : Int32} {σ' : gS} {s0 : Int32} {σ : gS} (h : fX10_refusalAt_58 p1 p2 s0 σ = some (r, σ')) : gG E mX10_refusalAt 58 [] [.int s0] σ (some (.int r)) σ' := by
  unfold fX10_refusalAt_58 at h
  obtain ⟨rfl, rfl⟩ := so_inj h
  exact g_iret dX10_refusalAt_58 rfl
def fX10_refusalAt_45 (p1 : Int32) (p2 : Int32) (σ : gS) : Option (Int32 × gS) :=
  bd (fX10_found 2 σ) fun x1 σ2 =>
  fX10_refusalAt_58 p1 p2 x1 σ2
set_option maxHeartbeats 4000000 in
set_option maxRecDepth 100000 in
theorem pX10_refusalAt_45 {E : gE} {p1 : Int32} {p2 : Int32} {r : Int32} {σ' : gS} {σ : gS} (h : fX10_refusalAt_45 p1 p2 σ = some (r, σ')) : gG E mX10_refusalAt 45 [(0, .ref 0)] [] σ (some (.int r)) σ' := by
  unfold fX10_refusalAt_45 at h
  refine g_aload_n dX10_refusalAt_45 rfl 0 rfl ?_
  refine g_iconst (v := 2) dX10_refusalAt_46 (by decide) ?_
  obtain ⟨x1, σ2, y3, h⟩ := bd_some h
  refine g_callVr (as := [.int 2]) (st := []) (zX10_found y3) dX10_refusalAt_47 gi_0 rfl okX10_refusalAt_278 (Nat.le_of_ble_eq_true rfl) ?_
  refine g_goto (t := 58) dX10_refusalAt_50 (by decide) ?_
  refine g_sub [] rfl ?_
  exact pX10_refusalAt_58 h
def fX10_refusalAt (p1 : Int32) (p2 : Int32) (σ : gS) : Option (Int32 × gS) :=
  bd (fX10_isRow p1 σ) fun x1 σ2 =>
  if x1 = 0 then
    some ((-1000001), σ2)
  else
    gg (¬ (p1 < 0 ∨ 8 ≤ p1.toNatClampNeg)) (
    bnd (152 + 2 * p1.toNatClampNeg) fun x6 =>
    if (σ2.1 x6 0) = 0 then
      bd (fX10_found 1 σ2) fun x17 σ18 =>
      some (x17, σ18)
    else
      if p2 < 0 then
        fX10_refusalAt_45 p1 p2 σ2
      else
        gg (¬ (p1 < 0 ∨ 8 ≤ p1.toNatClampNeg)) (
        bnd (152 + 2 * p1.toNatClampNeg) fun x11 =>
        if p2 < (σ2.1 x11 2) then
          bd (fX10_fine 0 σ2) fun x14 σ15 =>
          fX10_refusalAt_58 p1 p2 x14 σ15
        else
          fX10_refusalAt_45 p1 p2 σ2))
set_option maxHeartbeats 4000000 in
set_option maxRecDepth 100000 in
theorem pX10_refusalAt {E : gE} {p1 : Int32} {p2 : Int32} {r : Int32} {σ' : gS} {σ : gS} (h : fX10_refusalAt p1 p2 σ = some (r, σ')) : gG E mX10_refusalAt 0 [(0, .ref 0), (1, .int p1), (2, .int p2)] [] σ (some (.int r)) σ' := by
  unfold fX10_refusalAt at h
  refine g_iload_n dX10_refusalAt_0 rfl 1 rfl ?_
  obtain ⟨x1, σ2, y3, h⟩ := bd_some h
  refine g_callSr (as := [.int p1]) (st := []) (zX10_isRow y3) dX10_refusalAt_1 okX10_refusalAt_296 (Nat.le_of_ble_eq_true rfl) ?_
  refine g_if_ne (t := 10) dX10_refusalAt_4 (by decide) (fun c4 => ?_) (fun c4 => ?_)
  · replace h := if_f h c4
    refine g_aload_n dX10_refusalAt_10 rfl 0 rfl ?_
    refine g_getC (n := 151) dX10_refusalAt_11 gi_0 rfl fl_RX10_74 ?_
    refine g_iload_n dX10_refusalAt_14 rfl 1 rfl ?_
    obtain ⟨g5, h⟩ := gg_some h
    refine g_aaldO dX10_refusalAt_15 gi_151 g5 ?_
    obtain ⟨x6, ex6, h⟩ := bnd_nm h
    refine g_topr ex6 ?_
    have q7 : gRo x6 := ex6 ▸ gRo_i (vp_lt g5)
    refine g_getI dX10_refusalAt_16 (gi_ro q7) rfl fl_RX10_302 ?_
    refine g_if_ne (t := 28) dX10_refusalAt_19 (by decide) (fun c8 => ?_) (fun c8 => ?_)
    · replace h := if_f h c8
      refine g_iload_n dX10_refusalAt_28 rfl 2 rfl ?_
      refine g_if_lt (t := 45) dX10_refusalAt_29 (by decide) (fun c9 => ?_) (fun c9 => ?_)
      · replace h := if_t h c9
        refine g_sub [0] rfl ?_
        exact pX10_refusalAt_45 h
      · replace h := if_f h c9
        refine g_iload_n dX10_refusalAt_32 rfl 2 rfl ?_
        refine g_aload_n dX10_refusalAt_33 rfl 0 rfl ?_
        refine g_getC (n := 151) dX10_refusalAt_34 gi_0 rfl fl_RX10_74 ?_
        refine g_iload_n dX10_refusalAt_37 rfl 1 rfl ?_
        obtain ⟨g10, h⟩ := gg_some h
        refine g_aaldO dX10_refusalAt_38 gi_151 g10 ?_
        obtain ⟨x11, ex11, h⟩ := bnd_nm h
        refine g_topr ex11 ?_
        have q12 : gRo x11 := ex11 ▸ gRo_i (vp_lt g10)
        refine g_getI dX10_refusalAt_39 (gi_ro q12) rfl fl_RX10_305 ?_
        refine g_icmp_lt (t := 53) dX10_refusalAt_42 (by decide) (fun c13 => ?_) (fun c13 => ?_)
        · replace h := if_t h c13
          refine g_aload_n dX10_refusalAt_53 rfl 0 rfl ?_
          refine g_iconst (v := 0) dX10_refusalAt_54 (by decide) ?_
          obtain ⟨x14, σ15, y16, h⟩ := bd_some h
          refine g_callVr (as := [.int 0]) (st := []) (zX10_fine y16) dX10_refusalAt_55 gi_0 rfl okX10_refusalAt_281 (Nat.le_of_ble_eq_true rfl) ?_
          refine g_sub [] rfl ?_
          exact pX10_refusalAt_58 h
        · replace h := if_f h c13
          refine g_sub [0] rfl ?_
          exact pX10_refusalAt_45 h
    · replace h := if_t h c8
      refine g_aload_n dX10_refusalAt_22 rfl 0 rfl ?_
      refine g_iconst (v := 1) dX10_refusalAt_23 (by decide) ?_
      obtain ⟨x17, σ18, y19, h⟩ := bd_some h
      refine g_callVr (as := [.int 1]) (st := []) (zX10_found y19) dX10_refusalAt_24 gi_0 rfl okX10_refusalAt_278 (Nat.le_of_ble_eq_true rfl) ?_
      obtain ⟨rfl, rfl⟩ := so_inj h
      exact g_iret dX10_refusalAt_27 rfl
  · replace h := if_t h c4
    refine g_ldc (v := (-1000001)) dX10_refusalAt_7 wc_RX10_79 ?_
    obtain ⟨rfl, rfl⟩ := so_inj h
    exact g_iret dX10_refusalAt_9 rfl
theorem zX10_refusalAt {E : gE} {p1 : Int32} {p2 : Int32} {r : Int32} {σ σ' : gS} (h : fX10_refusalAt p1 p2 σ = some (r, σ')) : gC E mX10_refusalAt [.ref 0, .int p1, .int p2] σ (some (.int r)) σ' :=
  gC_of (by decide +kernel) rfl (Nat.le_of_ble_eq_true rfl) (pX10_refusalAt h)
def mX10_put : gM := (yX10_put, cX10_put, RX10, 6, (some .long), 2, 45)
theorem dX10_put_0 : decode mX10_put.2.1 0 = .ok (.aload_n 0, 1) := by decide +kernel
theorem dX10_put_1 : decode mX10_put.2.1 1 = .ok (.iload_n 1, 1) := by decide +kernel
theorem dX10_put_2 : decode mX10_put.2.1 2 = .ok (.iload_n 2, 1) := by decide +kernel
theorem dX10_put_3 : decode mX10_put.2.1 3 = .ok (.invokevirtual 307, 3) := by decide +kernel
theorem dX10_put_6 : decode mX10_put.2.1 6 = .ok (.istore 5, 2) := by decide +kernel
theorem dX10_put_8 : decode mX10_put.2.1 8 = .ok (.iload 5, 2) := by decide +kernel
theorem dX10_put_10 : decode mX10_put.2.1 10 = .ok (.ifCond .eq 9, 3) := by decide +kernel
theorem dX10_put_13 : decode mX10_put.2.1 13 = .ok (.iload 5, 2) := by decide +kernel
theorem dX10_put_15 : decode mX10_put.2.1 15 = .ok (.i2l, 1) := by decide +kernel
theorem dX10_put_16 : decode mX10_put.2.1 16 = .ok (.goto 14, 3) := by decide +kernel
theorem dX10_put_19 : decode mX10_put.2.1 19 = .ok (.aload_n 0, 1) := by decide +kernel
theorem dX10_put_20 : decode mX10_put.2.1 20 = .ok (.getfield 74, 3) := by decide +kernel
theorem dX10_put_23 : decode mX10_put.2.1 23 = .ok (.iload_n 1, 1) := by decide +kernel
theorem dX10_put_24 : decode mX10_put.2.1 24 = .ok (.aaload, 1) := by decide +kernel
theorem dX10_put_25 : decode mX10_put.2.1 25 = .ok (.iload_n 2, 1) := by decide +kernel
theorem dX10_put_26 : decode mX10_put.2.1 26 = .ok (.lload_n 3, 1) := by decide +kernel
theorem dX10_put_27 : decode mX10_put.2.1 27 = .ok (.invokevirtual 310, 3) := by decide +kernel
theorem dX10_put_30 : decode mX10_put.2.1 30 = .ok (.lreturn, 1) := by decide +kernel
theorem okX10_put_307 : gOkV mX10_put mX10_refusalAt 307 2 := ⟨List.forall_mem_cons.mpr ⟨(gm 1165 (by decide +kernel) rfl), List.forall_mem_cons.mpr ⟨(gm 1162 (by decide +kernel) rfl), List.forall_mem_cons.mpr ⟨(gm 1164 (by decide +kernel) rfl), List.forall_mem_cons.mpr ⟨(gm 54 (by decide +kernel) rfl), List.forall_mem_cons.mpr ⟨(gm 107 (by decide +kernel) rfl), fun _ h => absurd h List.not_mem_nil⟩⟩⟩⟩⟩, by decide +kernel, by decide +kernel, by decide +kernel⟩
theorem okX10_put_310 : gOkV mX10_put mX7_store 310 2 := ⟨List.forall_mem_cons.mpr ⟨(gm 1169 (by decide +kernel) rfl), List.forall_mem_cons.mpr ⟨(gm 1166 (by decide +kernel) rfl), List.forall_mem_cons.mpr ⟨(gm 1167 (by decide +kernel) rfl), List.forall_mem_cons.mpr ⟨(gm 1168 (by decide +kernel) rfl), List.forall_mem_cons.mpr ⟨(gm 121 (by decide +kernel) rfl), fun _ h => absurd h List.not_mem_nil⟩⟩⟩⟩⟩, by decide +kernel, by decide +kernel, by decide +kernel⟩
def fX10_put_30 (p1 : Int32) (p2 : Int32) (p3 : Int64) (s0 : Int64) (σ : gS) : Option (Int64 × gS) :=
  some (s0, σ)
set_option maxHeartbeats 4000000 in
set_option maxRecDepth 100000 in
theorem pX10_put_30 {E : gE} {p1 : Int32} {p2 : Int32} {p3 : Int64} {r : Int64} {σ' : gS} {s0 : Int64} {σ : gS} (h : fX10_put_30 p1 p2 p3 s0 σ = some (r, σ')) : gG E mX10_put 30 [] [.long s0] σ (some (.long r)) σ' := by
  unfold fX10_put_30 at h
  obtain ⟨rfl, rfl⟩ := so_inj h
  exact g_lret dX10_put_30 rfl
def fX10_put (p1 : Int32) (p2 : Int32) (p3 : Int64) (σ : gS) : Option (Int64 × gS) :=
  bd (fX10_refusalAt p1 p2 σ) fun x1 σ2 =>
  if x1 = 0 then
    gg (¬ (p1 < 0 ∨ 8 ≤ p1.toNatClampNeg)) (
    bnd (152 + 2 * p1.toNatClampNeg) fun x6 =>
    bd (fX7_store x6 p2 p3 σ2) fun x8 σ9 =>
    fX10_put_30 p1 p2 p3 x8 σ9)
  else
    fX10_put_30 p1 p2 p3 x1.toInt64 σ2
set_option maxHeartbeats 4000000 in
set_option maxRecDepth 100000 in
theorem pX10_put {E : gE} {p1 : Int32} {p2 : Int32} {p3 : Int64} {r : Int64} {σ' : gS} {σ : gS} (h : fX10_put p1 p2 p3 σ = some (r, σ')) : gG E mX10_put 0 [(0, .ref 0), (1, .int p1), (2, .int p2), (3, .long p3)] [] σ (some (.long r)) σ' := by
  unfold fX10_put at h
  refine g_aload_n dX10_put_0 rfl 0 rfl ?_
  refine g_iload_n dX10_put_1 rfl 1 rfl ?_
  refine g_iload_n dX10_put_2 rfl 2 rfl ?_
  obtain ⟨x1, σ2, y3, h⟩ := bd_some h
  refine g_callVr (as := [.int p1, .int p2]) (st := []) (zX10_refusalAt y3) dX10_put_3 gi_0 rfl okX10_put_307 (Nat.le_of_ble_eq_true rfl) ?_
  refine g_istore (lv' := [(5, .int x1), (0, .ref 0), (1, .int p1), (2, .int p2), (3, .long p3)]) dX10_put_6 (Nat.le_of_ble_eq_true rfl) rfl ?_
  refine g_iload dX10_put_8 0 rfl ?_
  refine g_if_eq (t := 19) dX10_put_10 (by decide) (fun c4 => ?_) (fun c4 => ?_)
  · replace h := if_t h c4
    refine g_aload_n dX10_put_19 rfl 1 rfl ?_
    refine g_getC (n := 151) dX10_put_20 gi_0 rfl fl_RX10_74 ?_
    refine g_iload_n dX10_put_23 rfl 2 rfl ?_
    obtain ⟨g5, h⟩ := gg_some h
    refine g_aaldO dX10_put_24 gi_151 g5 ?_
    obtain ⟨x6, ex6, h⟩ := bnd_nm h
    refine g_topr ex6 ?_
    have q7 : gRo x6 := ex6 ▸ gRo_i (vp_lt g5)
    refine g_iload_n dX10_put_25 rfl 3 rfl ?_
    refine g_lload_n dX10_put_26 rfl 4 rfl ?_
    obtain ⟨x8, σ9, y10, h⟩ := bd_some h
    refine g_callVr (as := [.int p2, .long p3]) (st := []) (zX7_store q7 y10) dX10_put_27 (gi_ro q7) rfl okX10_put_310 (Nat.le_of_ble_eq_true rfl) ?_
    refine g_sub [] rfl ?_
    exact pX10_put_30 h
  · replace h := if_f h c4
    refine g_iload dX10_put_13 0 rfl ?_
    refine g_i2l dX10_put_15 ?_
    refine g_goto (t := 30) dX10_put_16 (by decide) ?_
    refine g_sub [] rfl ?_
    exact pX10_put_30 h
theorem zX10_put {E : gE} {p1 : Int32} {p2 : Int32} {p3 : Int64} {r : Int64} {σ σ' : gS} (h : fX10_put p1 p2 p3 σ = some (r, σ')) : gC E mX10_put [.ref 0, .int p1, .int p2, .long p3] σ (some (.long r)) σ' :=
  gC_of (by decide +kernel) rfl (Nat.le_of_ble_eq_true rfl) (pX10_put h)
theorem fl_RX10_314 : gFl RX10 314 7 3 := ⟨RX7, TX7, 4, rfl, by decide, ux_7, Or.inr ⟨"LinkageCurves", by decide +kernel⟩⟩
def mX10_get : gM := (yX10_get, cX10_get, RX10, 4, (some .long), 2, 43)
theorem dX10_get_0 : decode mX10_get.2.1 0 = .ok (.aload_n 0, 1) := by decide +kernel
theorem dX10_get_1 : decode mX10_get.2.1 1 = .ok (.iload_n 1, 1) := by decide +kernel
theorem dX10_get_2 : decode mX10_get.2.1 2 = .ok (.iload_n 2, 1) := by decide +kernel
theorem dX10_get_3 : decode mX10_get.2.1 3 = .ok (.invokevirtual 307, 3) := by decide +kernel
theorem dX10_get_6 : decode mX10_get.2.1 6 = .ok (.istore_n 3, 1) := by decide +kernel
theorem dX10_get_7 : decode mX10_get.2.1 7 = .ok (.iload_n 3, 1) := by decide +kernel
theorem dX10_get_8 : decode mX10_get.2.1 8 = .ok (.ifCond .eq 8, 3) := by decide +kernel
theorem dX10_get_11 : decode mX10_get.2.1 11 = .ok (.iload_n 3, 1) := by decide +kernel
theorem dX10_get_12 : decode mX10_get.2.1 12 = .ok (.i2l, 1) := by decide +kernel
theorem dX10_get_13 : decode mX10_get.2.1 13 = .ok (.goto 14, 3) := by decide +kernel
theorem dX10_get_16 : decode mX10_get.2.1 16 = .ok (.aload_n 0, 1) := by decide +kernel
theorem dX10_get_17 : decode mX10_get.2.1 17 = .ok (.getfield 74, 3) := by decide +kernel
theorem dX10_get_20 : decode mX10_get.2.1 20 = .ok (.iload_n 1, 1) := by decide +kernel
theorem dX10_get_21 : decode mX10_get.2.1 21 = .ok (.aaload, 1) := by decide +kernel
theorem dX10_get_22 : decode mX10_get.2.1 22 = .ok (.getfield 314, 3) := by decide +kernel
theorem dX10_get_25 : decode mX10_get.2.1 25 = .ok (.iload_n 2, 1) := by decide +kernel
theorem dX10_get_26 : decode mX10_get.2.1 26 = .ok (.laload, 1) := by decide +kernel
theorem dX10_get_27 : decode mX10_get.2.1 27 = .ok (.lreturn, 1) := by decide +kernel
theorem okX10_get_307 : gOkV mX10_get mX10_refusalAt 307 2 := ⟨List.forall_mem_cons.mpr ⟨(gm 1165 (by decide +kernel) rfl), List.forall_mem_cons.mpr ⟨(gm 1162 (by decide +kernel) rfl), List.forall_mem_cons.mpr ⟨(gm 1164 (by decide +kernel) rfl), List.forall_mem_cons.mpr ⟨(gm 54 (by decide +kernel) rfl), List.forall_mem_cons.mpr ⟨(gm 107 (by decide +kernel) rfl), fun _ h => absurd h List.not_mem_nil⟩⟩⟩⟩⟩, by decide +kernel, by decide +kernel, by decide +kernel⟩
def fX10_get_27 (p1 : Int32) (p2 : Int32) (s0 : Int64) (σ : gS) : Option (Int64 × gS) :=
  some (s0, σ)
set_option maxHeartbeats 4000000 in
set_option maxRecDepth 100000 in
theorem pX10_get_27 {E : gE} {p1 : Int32} {p2 : Int32} {r : Int64} {σ' : gS} {s0 : Int64} {σ : gS} (h : fX10_get_27 p1 p2 s0 σ = some (r, σ')) : gG E mX10_get 27 [] [.long s0] σ (some (.long r)) σ' := by
  unfold fX10_get_27 at h
  obtain ⟨rfl, rfl⟩ := so_inj h
  exact g_lret dX10_get_27 rfl
def fX10_get (p1 : Int32) (p2 : Int32) (σ : gS) : Option (Int64 × gS) :=
  bd (fX10_refusalAt p1 p2 σ) fun x1 σ2 =>
  if x1 = 0 then
    gg (¬ (p1 < 0 ∨ 8 ≤ p1.toNatClampNeg)) (
    bnd (152 + 2 * p1.toNatClampNeg) fun x6 =>
    gg (¬ (p2 < 0 ∨ 300 ≤ p2.toNatClampNeg)) (
    fX10_get_27 p1 p2 (σ2.2.1 (x6 + 1) p2.toNatClampNeg) σ2))
  else
    fX10_get_27 p1 p2 x1.toInt64 σ2
set_option maxHeartbeats 4000000 in
set_option maxRecDepth 100000 in
theorem pX10_get {E : gE} {p1 : Int32} {p2 : Int32} {r : Int64} {σ' : gS} {σ : gS} (h : fX10_get p1 p2 σ = some (r, σ')) : gG E mX10_get 0 [(0, .ref 0), (1, .int p1), (2, .int p2)] [] σ (some (.long r)) σ' := by
  unfold fX10_get at h
  refine g_aload_n dX10_get_0 rfl 0 rfl ?_
  refine g_iload_n dX10_get_1 rfl 1 rfl ?_
  refine g_iload_n dX10_get_2 rfl 2 rfl ?_
  obtain ⟨x1, σ2, y3, h⟩ := bd_some h
  refine g_callVr (as := [.int p1, .int p2]) (st := []) (zX10_refusalAt y3) dX10_get_3 gi_0 rfl okX10_get_307 (Nat.le_of_ble_eq_true rfl) ?_
  refine g_istore_n (lv' := [(3, .int x1), (0, .ref 0), (1, .int p1), (2, .int p2)]) dX10_get_6 rfl (Nat.le_of_ble_eq_true rfl) rfl ?_
  refine g_iload_n dX10_get_7 rfl 0 rfl ?_
  refine g_if_eq (t := 16) dX10_get_8 (by decide) (fun c4 => ?_) (fun c4 => ?_)
  · replace h := if_t h c4
    refine g_aload_n dX10_get_16 rfl 1 rfl ?_
    refine g_getC (n := 151) dX10_get_17 gi_0 rfl fl_RX10_74 ?_
    refine g_iload_n dX10_get_20 rfl 2 rfl ?_
    obtain ⟨g5, h⟩ := gg_some h
    refine g_aaldO dX10_get_21 gi_151 g5 ?_
    obtain ⟨x6, ex6, h⟩ := bnd_nm h
    refine g_topr ex6 ?_
    have q7 : gRo x6 := ex6 ▸ gRo_i (vp_lt g5)
    refine g_getC (n := (x6 + 1)) dX10_get_22 (gi_ro q7) rfl fl_RX10_314 ?_
    refine g_iload_n dX10_get_25 rfl 3 rfl ?_
    obtain ⟨g8, h⟩ := gg_some h
    refine g_lald dX10_get_26 (gi_ro1 q7) g8 ?_
    refine g_sub [] rfl ?_
    exact pX10_get_27 h
  · replace h := if_f h c4
    refine g_iload_n dX10_get_11 rfl 0 rfl ?_
    refine g_i2l dX10_get_12 ?_
    refine g_goto (t := 27) dX10_get_13 (by decide) ?_
    refine g_sub [] rfl ?_
    exact pX10_get_27 h
theorem zX10_get {E : gE} {p1 : Int32} {p2 : Int32} {r : Int64} {σ σ' : gS} (h : fX10_get p1 p2 σ = some (r, σ')) : gC E mX10_get [.ref 0, .int p1, .int p2] σ (some (.long r)) σ' :=
  gC_of (by decide +kernel) rfl (Nat.le_of_ble_eq_true rfl) (pX10_get h)
theorem fl_RX10_317 : gFl RX10 317 7 1 := ⟨RX7, TX7, 4, rfl, by decide, ux_7, Or.inr ⟨"LinkageCurves", by decide +kernel⟩⟩
theorem acw_RX10_323 : gIn [.methodLink RX10 323 arraycopyName, .native arraycopyName, .static arraycopyName, .initialized "java/lang/System"] := List.forall_mem_cons.mpr ⟨(gm 1186 (by decide +kernel) rfl), List.forall_mem_cons.mpr ⟨(gm 1188 (by decide +kernel) rfl), List.forall_mem_cons.mpr ⟨(gm 1187 (by decide +kernel) rfl), List.forall_mem_cons.mpr ⟨(gm 125 (by decide +kernel) rfl), fun _ h => absurd h List.not_mem_nil⟩⟩⟩⟩
def mX10_move : gM := (yX10_move, cX10_move, RX10, 8, (some .int), 1, 40)
theorem dX10_move_0 : decode mX10_move.2.1 0 = .ok (.iload_n 1, 1) := by decide +kernel
theorem dX10_move_1 : decode mX10_move.2.1 1 = .ok (.invokestatic 296, 3) := by decide +kernel
theorem dX10_move_4 : decode mX10_move.2.1 4 = .ok (.ifCond .eq 10, 3) := by decide +kernel
theorem dX10_move_7 : decode mX10_move.2.1 7 = .ok (.iload_n 3, 1) := by decide +kernel
theorem dX10_move_8 : decode mX10_move.2.1 8 = .ok (.invokestatic 296, 3) := by decide +kernel
theorem dX10_move_11 : decode mX10_move.2.1 11 = .ok (.ifCond .ne 6, 3) := by decide +kernel
theorem dX10_move_14 : decode mX10_move.2.1 14 = .ok (.ldc 79, 2) := by decide +kernel
theorem dX10_move_16 : decode mX10_move.2.1 16 = .ok (.ireturn, 1) := by decide +kernel
theorem dX10_move_17 : decode mX10_move.2.1 17 = .ok (.aload_n 0, 1) := by decide +kernel
theorem dX10_move_18 : decode mX10_move.2.1 18 = .ok (.getfield 74, 3) := by decide +kernel
theorem dX10_move_21 : decode mX10_move.2.1 21 = .ok (.iload_n 1, 1) := by decide +kernel
theorem dX10_move_22 : decode mX10_move.2.1 22 = .ok (.aaload, 1) := by decide +kernel
theorem dX10_move_23 : decode mX10_move.2.1 23 = .ok (.astore 6, 2) := by decide +kernel
theorem dX10_move_25 : decode mX10_move.2.1 25 = .ok (.aload_n 0, 1) := by decide +kernel
theorem dX10_move_26 : decode mX10_move.2.1 26 = .ok (.getfield 74, 3) := by decide +kernel
theorem dX10_move_29 : decode mX10_move.2.1 29 = .ok (.iload_n 3, 1) := by decide +kernel
theorem dX10_move_30 : decode mX10_move.2.1 30 = .ok (.aaload, 1) := by decide +kernel
theorem dX10_move_31 : decode mX10_move.2.1 31 = .ok (.astore 7, 2) := by decide +kernel
theorem dX10_move_33 : decode mX10_move.2.1 33 = .ok (.aload 6, 2) := by decide +kernel
theorem dX10_move_35 : decode mX10_move.2.1 35 = .ok (.getfield 302, 3) := by decide +kernel
theorem dX10_move_38 : decode mX10_move.2.1 38 = .ok (.ifCond .eq 11, 3) := by decide +kernel
theorem dX10_move_41 : decode mX10_move.2.1 41 = .ok (.aload 7, 2) := by decide +kernel
theorem dX10_move_43 : decode mX10_move.2.1 43 = .ok (.getfield 302, 3) := by decide +kernel
theorem dX10_move_46 : decode mX10_move.2.1 46 = .ok (.ifCond .ne 9, 3) := by decide +kernel
theorem dX10_move_49 : decode mX10_move.2.1 49 = .ok (.aload_n 0, 1) := by decide +kernel
theorem dX10_move_50 : decode mX10_move.2.1 50 = .ok (.iconst 1, 1) := by decide +kernel
theorem dX10_move_51 : decode mX10_move.2.1 51 = .ok (.invokevirtual 278, 3) := by decide +kernel
theorem dX10_move_54 : decode mX10_move.2.1 54 = .ok (.ireturn, 1) := by decide +kernel
theorem dX10_move_55 : decode mX10_move.2.1 55 = .ok (.aload 6, 2) := by decide +kernel
theorem dX10_move_57 : decode mX10_move.2.1 57 = .ok (.getfield 317, 3) := by decide +kernel
theorem dX10_move_60 : decode mX10_move.2.1 60 = .ok (.aload 7, 2) := by decide +kernel
theorem dX10_move_62 : decode mX10_move.2.1 62 = .ok (.getfield 317, 3) := by decide +kernel
theorem dX10_move_65 : decode mX10_move.2.1 65 = .ok (.if_icmp .eq 10, 3) := by decide +kernel
theorem dX10_move_68 : decode mX10_move.2.1 68 = .ok (.aload_n 0, 1) := by decide +kernel
theorem dX10_move_69 : decode mX10_move.2.1 69 = .ok (.bipush 6, 2) := by decide +kernel
theorem dX10_move_71 : decode mX10_move.2.1 71 = .ok (.invokevirtual 278, 3) := by decide +kernel
theorem dX10_move_74 : decode mX10_move.2.1 74 = .ok (.ireturn, 1) := by decide +kernel
theorem dX10_move_75 : decode mX10_move.2.1 75 = .ok (.aload 6, 2) := by decide +kernel
theorem dX10_move_77 : decode mX10_move.2.1 77 = .ok (.iload_n 2, 1) := by decide +kernel
theorem dX10_move_78 : decode mX10_move.2.1 78 = .ok (.iload 5, 2) := by decide +kernel
theorem dX10_move_80 : decode mX10_move.2.1 80 = .ok (.invokevirtual 320, 3) := by decide +kernel
theorem dX10_move_83 : decode mX10_move.2.1 83 = .ok (.ifCond .eq 15, 3) := by decide +kernel
theorem dX10_move_86 : decode mX10_move.2.1 86 = .ok (.aload 7, 2) := by decide +kernel
theorem dX10_move_88 : decode mX10_move.2.1 88 = .ok (.iload 4, 2) := by decide +kernel
theorem dX10_move_90 : decode mX10_move.2.1 90 = .ok (.iload 5, 2) := by decide +kernel
theorem dX10_move_92 : decode mX10_move.2.1 92 = .ok (.invokevirtual 320, 3) := by decide +kernel
theorem dX10_move_95 : decode mX10_move.2.1 95 = .ok (.ifCond .ne 9, 3) := by decide +kernel
theorem dX10_move_98 : decode mX10_move.2.1 98 = .ok (.aload_n 0, 1) := by decide +kernel
theorem dX10_move_99 : decode mX10_move.2.1 99 = .ok (.iconst 2, 1) := by decide +kernel
theorem dX10_move_100 : decode mX10_move.2.1 100 = .ok (.invokevirtual 278, 3) := by decide +kernel
theorem dX10_move_103 : decode mX10_move.2.1 103 = .ok (.ireturn, 1) := by decide +kernel
theorem dX10_move_104 : decode mX10_move.2.1 104 = .ok (.aload 6, 2) := by decide +kernel
theorem dX10_move_106 : decode mX10_move.2.1 106 = .ok (.getfield 314, 3) := by decide +kernel
theorem dX10_move_109 : decode mX10_move.2.1 109 = .ok (.iload_n 2, 1) := by decide +kernel
theorem dX10_move_110 : decode mX10_move.2.1 110 = .ok (.aload 7, 2) := by decide +kernel
theorem dX10_move_112 : decode mX10_move.2.1 112 = .ok (.getfield 314, 3) := by decide +kernel
theorem dX10_move_115 : decode mX10_move.2.1 115 = .ok (.iload 4, 2) := by decide +kernel
theorem dX10_move_117 : decode mX10_move.2.1 117 = .ok (.iload 5, 2) := by decide +kernel
theorem dX10_move_119 : decode mX10_move.2.1 119 = .ok (.invokestatic 323, 3) := by decide +kernel
theorem dX10_move_122 : decode mX10_move.2.1 122 = .ok (.aload_n 0, 1) := by decide +kernel
theorem dX10_move_123 : decode mX10_move.2.1 123 = .ok (.iload 5, 2) := by decide +kernel
theorem dX10_move_125 : decode mX10_move.2.1 125 = .ok (.invokevirtual 281, 3) := by decide +kernel
theorem dX10_move_128 : decode mX10_move.2.1 128 = .ok (.ireturn, 1) := by decide +kernel
theorem okX10_move_278 : gOkV mX10_move mX10_found 278 1 := ⟨List.forall_mem_cons.mpr ⟨(gm 1113 (by decide +kernel) rfl), List.forall_mem_cons.mpr ⟨(gm 1110 (by decide +kernel) rfl), List.forall_mem_cons.mpr ⟨(gm 1112 (by decide +kernel) rfl), List.forall_mem_cons.mpr ⟨(gm 52 (by decide +kernel) rfl), List.forall_mem_cons.mpr ⟨(gm 107 (by decide +kernel) rfl), fun _ h => absurd h List.not_mem_nil⟩⟩⟩⟩⟩, by decide +kernel, by decide +kernel, by decide +kernel⟩
theorem okX10_move_296 : gOkS mX10_move mX10_isRow 296 1 := ⟨List.forall_mem_cons.mpr ⟨(gm 1146 (by decide +kernel) rfl), List.forall_mem_cons.mpr ⟨(gm 1144 (by decide +kernel) rfl), List.forall_mem_cons.mpr ⟨(gm 1145 (by decide +kernel) rfl), List.forall_mem_cons.mpr ⟨(gm 107 (by decide +kernel) rfl), fun _ h => absurd h List.not_mem_nil⟩⟩⟩⟩, by decide +kernel, by decide +kernel, by decide +kernel⟩
theorem okX10_move_320 : gOkV mX10_move mX7_holds 320 2 := ⟨List.forall_mem_cons.mpr ⟨(gm 1185 (by decide +kernel) rfl), List.forall_mem_cons.mpr ⟨(gm 1182 (by decide +kernel) rfl), List.forall_mem_cons.mpr ⟨(gm 1183 (by decide +kernel) rfl), List.forall_mem_cons.mpr ⟨(gm 1184 (by decide +kernel) rfl), List.forall_mem_cons.mpr ⟨(gm 121 (by decide +kernel) rfl), fun _ h => absurd h List.not_mem_nil⟩⟩⟩⟩⟩, by decide +kernel, by decide +kernel, by decide +kernel⟩
theorem okX10_move_281 : gOkV mX10_move mX10_fine 281 1 := ⟨List.forall_mem_cons.mpr ⟨(gm 1118 (by decide +kernel) rfl), List.forall_mem_cons.mpr ⟨(gm 1115 (by decide +kernel) rfl), List.forall_mem_cons.mpr ⟨(gm 1117 (by decide +kernel) rfl), List.forall_mem_cons.mpr ⟨(gm 53 (by decide +kernel) rfl), List.forall_mem_cons.mpr ⟨(gm 107 (by decide +kernel) rfl), fun _ h => absurd h List.not_mem_nil⟩⟩⟩⟩⟩, by decide +kernel, by decide +kernel, by decide +kernel⟩
def fX10_move_14 (p1 : Int32) (p2 : Int32) (p3 : Int32) (p4 : Int32) (p5 : Int32) (σ : gS) : Option (Int32 × gS) :=
  some ((-1000001), σ)
set_option maxHeartbeats 4000000 in
set_option maxRecDepth 100000 in
theorem pX10_move_14 {E : gE} {p1 : Int32} {p2 : Int32} {p3 : Int32} {p4 : Int32} {p5 : Int32} {r : Int32} {σ' : gS} {σ : gS} (h : fX10_move_14 p1 p2 p3 p4 p5 σ = some (r, σ')) : gG E mX10_move 14 [] [] σ (some (.int r)) σ' := by
  unfold fX10_move_14 at h
  refine g_ldc (v := (-1000001)) dX10_move_14 wc_RX10_79 ?_
  obtain ⟨rfl, rfl⟩ := so_inj h
  exact g_iret dX10_move_16 rfl
def fX10_move_49 (p1 : Int32) (p2 : Int32) (p3 : Int32) (p4 : Int32) (p5 : Int32) (σ : gS) : Option (Int32 × gS) :=
  bd (fX10_found 1 σ) fun x1 σ2 =>
  some (x1, σ2)
set_option maxHeartbeats 4000000 in
set_option maxRecDepth 100000 in
theorem pX10_move_49 {E : gE} {p1 : Int32} {p2 : Int32} {p3 : Int32} {p4 : Int32} {p5 : Int32} {r : Int32} {σ' : gS} {σ : gS} (h : fX10_move_49 p1 p2 p3 p4 p5 σ = some (r, σ')) : gG E mX10_move 49 [(0, .ref 0)] [] σ (some (.int r)) σ' := by
  unfold fX10_move_49 at h
  refine g_aload_n dX10_move_49 rfl 0 rfl ?_
  refine g_iconst (v := 1) dX10_move_50 (by decide) ?_
  obtain ⟨x1, σ2, y3, h⟩ := bd_some h
  refine g_callVr (as := [.int 1]) (st := []) (zX10_found y3) dX10_move_51 gi_0 rfl okX10_move_278 (Nat.le_of_ble_eq_true rfl) ?_
  obtain ⟨rfl, rfl⟩ := so_inj h
  exact g_iret dX10_move_54 rfl
def fX10_move_98 (p1 : Int32) (p2 : Int32) (p3 : Int32) (p4 : Int32) (p5 : Int32) (σ : gS) : Option (Int32 × gS) :=
  bd (fX10_found 2 σ) fun x1 σ2 =>
  some (x1, σ2)
set_option maxHeartbeats 4000000 in
set_option maxRecDepth 100000 in
theorem pX10_move_98 {E : gE} {p1 : Int32} {p2 : Int32} {p3 : Int32} {p4 : Int32} {p5 : Int32} {r : Int32} {σ' : gS} {σ : gS} (h : fX10_move_98 p1 p2 p3 p4 p5 σ = some (r, σ')) : gG E mX10_move 98 [(0, .ref 0)] [] σ (some (.int r)) σ' := by
  unfold fX10_move_98 at h
  refine g_aload_n dX10_move_98 rfl 0 rfl ?_
  refine g_iconst (v := 2) dX10_move_99 (by decide) ?_
  obtain ⟨x1, σ2, y3, h⟩ := bd_some h
  refine g_callVr (as := [.int 2]) (st := []) (zX10_found y3) dX10_move_100 gi_0 rfl okX10_move_278 (Nat.le_of_ble_eq_true rfl) ?_
  obtain ⟨rfl, rfl⟩ := so_inj h
  exact g_iret dX10_move_103 rfl
def fX10_move (p1 : Int32) (p2 : Int32) (p3 : Int32) (p4 : Int32) (p5 : Int32) (σ : gS) : Option (Int32 × gS) :=
  bd (fX10_isRow p1 σ) fun x1 σ2 =>
  if x1 = 0 then
    fX10_move_14 p1 p2 p3 p4 p5 σ2
  else
    bd (fX10_isRow p3 σ2) fun x5 σ6 =>
    if x5 = 0 then
      fX10_move_14 p1 p2 p3 p4 p5 σ6
    else
      gg (¬ (p1 < 0 ∨ 8 ≤ p1.toNatClampNeg)) (
      bnd (152 + 2 * p1.toNatClampNeg) fun x10 =>
      gg (¬ (p3 < 0 ∨ 8 ≤ p3.toNatClampNeg)) (
      bnd (152 + 2 * p3.toNatClampNeg) fun x13 =>
      if (σ6.1 x10 0) = 0 then
        fX10_move_49 p1 p2 p3 p4 p5 σ6
      else
        if (σ6.1 x13 0) = 0 then
          fX10_move_49 p1 p2 p3 p4 p5 σ6
        else
          if (σ6.1 x10 1) = (σ6.1 x13 1) then
            bd (fX7_holds x10 p2 p5 σ6) fun x18 σ19 =>
            if x18 = 0 then
              fX10_move_98 p1 p2 p3 p4 p5 σ19
            else
              bd (fX7_holds x13 p4 p5 σ19) fun x22 σ23 =>
              if x22 = 0 then
                fX10_move_98 p1 p2 p3 p4 p5 σ23
              else
                gg (¬ p2 < 0 ∧ ¬ p4 < 0 ∧ ¬ p5 < 0 ∧ p2.toNatClampNeg + p5.toNatClampNeg ≤ 300 ∧ p4.toNatClampNeg + p5.toNatClampNeg ≤ 300) (
                bnd (gcp σ23 (x10 + 1) p2.toNatClampNeg (x13 + 1) p4.toNatClampNeg p5.toNatClampNeg) fun σ27 =>
                bd (fX10_fine p5 σ27) fun x28 σ29 =>
                some (x28, σ29))
          else
            bd (fX10_found 6 σ6) fun x31 σ32 =>
            some (x31, σ32)))
set_option maxHeartbeats 4000000 in
set_option maxRecDepth 100000 in
theorem pX10_move {E : gE} {p1 : Int32} {p2 : Int32} {p3 : Int32} {p4 : Int32} {p5 : Int32} {r : Int32} {σ' : gS} {σ : gS} (h : fX10_move p1 p2 p3 p4 p5 σ = some (r, σ')) : gG E mX10_move 0 [(0, .ref 0), (1, .int p1), (2, .int p2), (3, .int p3), (4, .int p4), (5, .int p5)] [] σ (some (.int r)) σ' := by
  unfold fX10_move at h
  refine g_iload_n dX10_move_0 rfl 1 rfl ?_
  obtain ⟨x1, σ2, y3, h⟩ := bd_some h
  refine g_callSr (as := [.int p1]) (st := []) (zX10_isRow y3) dX10_move_1 okX10_move_296 (Nat.le_of_ble_eq_true rfl) ?_
  refine g_if_eq (t := 14) dX10_move_4 (by decide) (fun c4 => ?_) (fun c4 => ?_)
  · replace h := if_t h c4
    refine g_sub [] rfl ?_
    exact pX10_move_14 h
  · replace h := if_f h c4
    refine g_iload_n dX10_move_7 rfl 3 rfl ?_
    obtain ⟨x5, σ6, y7, h⟩ := bd_some h
    refine g_callSr (as := [.int p3]) (st := []) (zX10_isRow y7) dX10_move_8 okX10_move_296 (Nat.le_of_ble_eq_true rfl) ?_
    refine g_if_ne (t := 17) dX10_move_11 (by decide) (fun c8 => ?_) (fun c8 => ?_)
    · replace h := if_f h c8
      refine g_aload_n dX10_move_17 rfl 0 rfl ?_
      refine g_getC (n := 151) dX10_move_18 gi_0 rfl fl_RX10_74 ?_
      refine g_iload_n dX10_move_21 rfl 1 rfl ?_
      obtain ⟨g9, h⟩ := gg_some h
      refine g_aaldO dX10_move_22 gi_151 g9 ?_
      obtain ⟨x10, ex10, h⟩ := bnd_nm h
      refine g_topr ex10 ?_
      have q11 : gRo x10 := ex10 ▸ gRo_i (vp_lt g9)
      refine g_astore (lv' := [(6, .ref x10), (0, .ref 0), (1, .int p1), (2, .int p2), (3, .int p3), (4, .int p4), (5, .int p5)]) dX10_move_23 (Nat.le_of_ble_eq_true rfl) rfl ?_
      refine g_aload_n dX10_move_25 rfl 1 rfl ?_
      refine g_getC (n := 151) dX10_move_26 gi_0 rfl fl_RX10_74 ?_
      refine g_iload_n dX10_move_29 rfl 4 rfl ?_
      obtain ⟨g12, h⟩ := gg_some h
      refine g_aaldO dX10_move_30 gi_151 g12 ?_
      obtain ⟨x13, ex13, h⟩ := bnd_nm h
      refine g_topr ex13 ?_
      have q14 : gRo x13 := ex13 ▸ gRo_i (vp_lt g12)
      refine g_astore (lv' := [(7, .ref x13), (6, .ref x10), (0, .ref 0), (1, .int p1), (2, .int p2), (3, .int p3), (4, .int p4), (5, .int p5)]) dX10_move_31 (Nat.le_of_ble_eq_true rfl) rfl ?_
      refine g_aload dX10_move_33 1 rfl ?_
      refine g_getI dX10_move_35 (gi_ro q11) rfl fl_RX10_302 ?_
      refine g_if_eq (t := 49) dX10_move_38 (by decide) (fun c15 => ?_) (fun c15 => ?_)
      · replace h := if_t h c15
        refine g_sub [2] rfl ?_
        exact pX10_move_49 h
      · replace h := if_f h c15
        refine g_aload dX10_move_41 0 rfl ?_
        refine g_getI dX10_move_43 (gi_ro q14) rfl fl_RX10_302 ?_
        refine g_if_ne (t := 55) dX10_move_46 (by decide) (fun c16 => ?_) (fun c16 => ?_)
        · replace h := if_f h c16
          refine g_aload dX10_move_55 1 rfl ?_
          refine g_getI dX10_move_57 (gi_ro q11) rfl fl_RX10_317 ?_
          refine g_aload dX10_move_60 0 rfl ?_
          refine g_getI dX10_move_62 (gi_ro q14) rfl fl_RX10_317 ?_
          refine g_icmp_eq (t := 75) dX10_move_65 (by decide) (fun c17 => ?_) (fun c17 => ?_)
          · replace h := if_t h c17
            refine g_aload dX10_move_75 1 rfl ?_
            refine g_iload_n dX10_move_77 rfl 4 rfl ?_
            refine g_iload dX10_move_78 7 rfl ?_
            obtain ⟨x18, σ19, y20, h⟩ := bd_some h
            refine g_callVr (as := [.int p2, .int p5]) (st := []) (zX7_holds q11 y20) dX10_move_80 (gi_ro q11) rfl okX10_move_320 (Nat.le_of_ble_eq_true rfl) ?_
            refine g_if_eq (t := 98) dX10_move_83 (by decide) (fun c21 => ?_) (fun c21 => ?_)
            · replace h := if_t h c21
              refine g_sub [2] rfl ?_
              exact pX10_move_98 h
            · replace h := if_f h c21
              refine g_aload dX10_move_86 0 rfl ?_
              refine g_iload dX10_move_88 6 rfl ?_
              refine g_iload dX10_move_90 7 rfl ?_
              obtain ⟨x22, σ23, y24, h⟩ := bd_some h
              refine g_callVr (as := [.int p4, .int p5]) (st := []) (zX7_holds q14 y24) dX10_move_92 (gi_ro q14) rfl okX10_move_320 (Nat.le_of_ble_eq_true rfl) ?_
              refine g_if_ne (t := 104) dX10_move_95 (by decide) (fun c25 => ?_) (fun c25 => ?_)
              · replace h := if_f h c25
                refine g_aload dX10_move_104 1 rfl ?_
                refine g_getC (n := (x10 + 1)) dX10_move_106 (gi_ro q11) rfl fl_RX10_314 ?_
                refine g_iload_n dX10_move_109 rfl 4 rfl ?_
                refine g_aload dX10_move_110 0 rfl ?_
                refine g_getC (n := (x13 + 1)) dX10_move_112 (gi_ro q14) rfl fl_RX10_314 ?_
                refine g_iload dX10_move_115 6 rfl ?_
                refine g_iload dX10_move_117 7 rfl ?_
                obtain ⟨g26, h⟩ := gg_some h
                obtain ⟨σ27, eσ27, h⟩ := bnd_nm h
                refine g_acopy dX10_move_119 acw_RX10_323 (gi_ro1 q11) (gi_ro1 q14) (by decide) g26 (by decide +kernel) (Nat.le_of_ble_eq_true rfl) (by decide +kernel) (g_st eσ27 ?_)
                refine g_aload_n dX10_move_122 rfl 2 rfl ?_
                refine g_iload dX10_move_123 7 rfl ?_
                obtain ⟨x28, σ29, y30, h⟩ := bd_some h
                refine g_callVr (as := [.int p5]) (st := []) (zX10_fine y30) dX10_move_125 gi_0 rfl okX10_move_281 (Nat.le_of_ble_eq_true rfl) ?_
                obtain ⟨rfl, rfl⟩ := so_inj h
                exact g_iret dX10_move_128 rfl
              · replace h := if_t h c25
                refine g_sub [2] rfl ?_
                exact pX10_move_98 h
          · replace h := if_f h c17
            refine g_aload_n dX10_move_68 rfl 2 rfl ?_
            refine g_bipush (v := 6) dX10_move_69 (by decide) ?_
            obtain ⟨x31, σ32, y33, h⟩ := bd_some h
            refine g_callVr (as := [.int 6]) (st := []) (zX10_found y33) dX10_move_71 gi_0 rfl okX10_move_278 (Nat.le_of_ble_eq_true rfl) ?_
            obtain ⟨rfl, rfl⟩ := so_inj h
            exact g_iret dX10_move_74 rfl
        · replace h := if_t h c16
          refine g_sub [2] rfl ?_
          exact pX10_move_49 h
    · replace h := if_t h c8
      refine g_sub [] rfl ?_
      exact pX10_move_14 h
theorem zX10_move {E : gE} {p1 : Int32} {p2 : Int32} {p3 : Int32} {p4 : Int32} {p5 : Int32} {r : Int32} {σ σ' : gS} (h : fX10_move p1 p2 p3 p4 p5 σ = some (r, σ')) : gC E mX10_move [.ref 0, .int p1, .int p2, .int p3, .int p4, .int p5] σ (some (.int r)) σ' :=
  gC_of (by decide +kernel) rfl (Nat.le_of_ble_eq_true rfl) (pX10_move h)

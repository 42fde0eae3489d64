theorem fp_RX0_15 : gFp RX0 15 0 3 .int := ⟨RX0, TX0, 5, rfl, by decide, ux_0, Or.inl (gm 489 (by decide +kernel) rfl), rfl, by decide +kernel, ⟨tyX0, tyX0_ok⟩, nmX0⟩
theorem fp_RX0_19 : gFp RX0 19 0 4 .int := ⟨RX0, TX0, 5, rfl, by decide, ux_0, Or.inl (gm 490 (by decide +kernel) rfl), rfl, by decide +kernel, ⟨tyX0, tyX0_ok⟩, nmX0⟩
theorem fp_RX0_22 : gFp RX0 22 0 1 .int := ⟨RX0, TX0, 5, rfl, by decide, ux_0, Or.inl (gm 485 (by decide +kernel) rfl), rfl, by decide +kernel, ⟨tyX0, tyX0_ok⟩, nmX0⟩
theorem fp_RX0_25 : gFp RX0 25 0 2 .boolean := ⟨RX0, TX0, 5, rfl, by decide, ux_0, Or.inl (gm 487 (by decide +kernel) rfl), rfl, by decide +kernel, ⟨tyX0, tyX0_ok⟩, nmX0⟩
def mX0_start : gM := (yX0_start, cX0_start, RX0, 3, none, 0, 0)
theorem dX0_start_0 : decode mX0_start.2.1 0 = .ok (.aload_n 0, 1) := by decide +kernel
theorem dX0_start_1 : decode mX0_start.2.1 1 = .ok (.iload_n 1, 1) := by decide +kernel
theorem dX0_start_2 : decode mX0_start.2.1 2 = .ok (.putfield 15, 3) := by decide +kernel
theorem dX0_start_5 : decode mX0_start.2.1 5 = .ok (.aload_n 0, 1) := by decide +kernel
theorem dX0_start_6 : decode mX0_start.2.1 6 = .ok (.iload_n 2, 1) := by decide +kernel
theorem dX0_start_7 : decode mX0_start.2.1 7 = .ok (.putfield 19, 3) := by decide +kernel
theorem dX0_start_10 : decode mX0_start.2.1 10 = .ok (.aload_n 0, 1) := by decide +kernel
theorem dX0_start_11 : decode mX0_start.2.1 11 = .ok (.iconst 0, 1) := by decide +kernel
theorem dX0_start_12 : decode mX0_start.2.1 12 = .ok (.putfield 22, 3) := by decide +kernel
theorem dX0_start_15 : decode mX0_start.2.1 15 = .ok (.aload_n 0, 1) := by decide +kernel
theorem dX0_start_16 : decode mX0_start.2.1 16 = .ok (.iconst 0, 1) := by decide +kernel
theorem dX0_start_17 : decode mX0_start.2.1 17 = .ok (.putfield 25, 3) := by decide +kernel
theorem dX0_start_20 : decode mX0_start.2.1 20 = .ok (.return_, 1) := by decide +kernel
def fX0_start (p1 : Int32) (p2 : Int32) (σ : gS) : Option (Unit × gS) :=
  bnd (gsI σ 149 3 p1) fun σ1 =>
  bnd (gsI σ1 149 4 p2) fun σ2 =>
  bnd (gsI σ2 149 1 0) fun σ3 =>
  bnd (gsI σ3 149 2 0) fun σ4 =>
  some ((), σ4)
set_option maxHeartbeats 4000000 in
set_option maxRecDepth 100000 in
theorem pX0_start {E : gE} {p1 : Int32} {p2 : Int32} {r : Unit} {σ' : gS} {σ : gS} (h : fX0_start p1 p2 σ = some (r, σ')) : gG E mX0_start 0 [(0, .ref 149), (1, .int p1), (2, .int p2)] [] σ (none) σ' := by
  unfold fX0_start at h
  refine g_aload_n dX0_start_0 rfl 0 rfl ?_
  refine g_iload_n dX0_start_1 rfl 1 rfl ?_
  obtain ⟨σ1, eσ1, h⟩ := bnd_nm h
  refine g_putI dX0_start_2 gi_149 rfl fp_RX0_15 (g_st eσ1 ?_)
  refine g_aload_n dX0_start_5 rfl 0 rfl ?_
  refine g_iload_n dX0_start_6 rfl 2 rfl ?_
  obtain ⟨σ2, eσ2, h⟩ := bnd_nm h
  refine g_putI dX0_start_7 gi_149 rfl fp_RX0_19 (g_st eσ2 ?_)
  refine g_aload_n dX0_start_10 rfl 0 rfl ?_
  refine g_iconst (v := 0) dX0_start_11 (by decide) ?_
  obtain ⟨σ3, eσ3, h⟩ := bnd_nm h
  refine g_putI dX0_start_12 gi_149 rfl fp_RX0_22 (g_st eσ3 ?_)
  refine g_aload_n dX0_start_15 rfl 0 rfl ?_
  refine g_iconst (v := 0) dX0_start_16 (by decide) ?_
  obtain ⟨σ4, eσ4, h⟩ := bnd_nm h
  refine g_putZ dX0_start_17 gi_149 rfl fp_RX0_25 (Or.inl rfl) (g_st eσ4 ?_)
  obtain ⟨rfl, rfl⟩ := so_inj h
  exact g_vret dX0_start_20 rfl
theorem zX0_start {E : gE} {p1 : Int32} {p2 : Int32} {r : Unit} {σ σ' : gS} (h : fX0_start p1 p2 σ = some (r, σ')) : gC E mX0_start [.ref 149, .int p1, .int p2] σ (none) σ' :=
  gC_of (by decide +kernel) rfl (Nat.le_of_ble_eq_true rfl) (pX0_start h)
theorem fl_RX0_22 : gFl RX0 22 0 1 := ⟨RX0, TX0, 5, rfl, by decide, ux_0, Or.inl (gm 485 (by decide +kernel) rfl)⟩
theorem fl_RX0_11 : gFl RX0 11 0 0 := ⟨RX0, TX0, 5, rfl, by decide, ux_0, Or.inl (gm 483 (by decide +kernel) rfl)⟩
def mX0_begin : gM := (yX0_begin, cX0_begin, RX0, 2, none, 0, 0)
theorem dX0_begin_0 : decode mX0_begin.2.1 0 = .ok (.aload_n 0, 1) := by decide +kernel
theorem dX0_begin_1 : decode mX0_begin.2.1 1 = .ok (.getfield 22, 3) := by decide +kernel
theorem dX0_begin_4 : decode mX0_begin.2.1 4 = .ok (.bipush 16, 2) := by decide +kernel
theorem dX0_begin_6 : decode mX0_begin.2.1 6 = .ok (.if_icmp .ge 23, 3) := by decide +kernel
theorem dX0_begin_9 : decode mX0_begin.2.1 9 = .ok (.aload_n 0, 1) := by decide +kernel
theorem dX0_begin_10 : decode mX0_begin.2.1 10 = .ok (.getfield 11, 3) := by decide +kernel
theorem dX0_begin_13 : decode mX0_begin.2.1 13 = .ok (.aload_n 0, 1) := by decide +kernel
theorem dX0_begin_14 : decode mX0_begin.2.1 14 = .ok (.getfield 22, 3) := by decide +kernel
theorem dX0_begin_17 : decode mX0_begin.2.1 17 = .ok (.iload_n 1, 1) := by decide +kernel
theorem dX0_begin_18 : decode mX0_begin.2.1 18 = .ok (.iastore, 1) := by decide +kernel
theorem dX0_begin_19 : decode mX0_begin.2.1 19 = .ok (.aload_n 0, 1) := by decide +kernel
theorem dX0_begin_20 : decode mX0_begin.2.1 20 = .ok (.dup, 1) := by decide +kernel
theorem dX0_begin_21 : decode mX0_begin.2.1 21 = .ok (.getfield 22, 3) := by decide +kernel
theorem dX0_begin_24 : decode mX0_begin.2.1 24 = .ok (.iconst 1, 1) := by decide +kernel
theorem dX0_begin_25 : decode mX0_begin.2.1 25 = .ok (.iadd, 1) := by decide +kernel
theorem dX0_begin_26 : decode mX0_begin.2.1 26 = .ok (.putfield 22, 3) := by decide +kernel
theorem dX0_begin_29 : decode mX0_begin.2.1 29 = .ok (.return_, 1) := by decide +kernel
def fX0_begin_29 (p1 : Int32) (σ : gS) : Option (Unit × gS) :=
  some ((), σ)
set_option maxHeartbeats 4000000 in
set_option maxRecDepth 100000 in
theorem pX0_begin_29 {E : gE} {p1 : Int32} {r : Unit} {σ' : gS} {σ : gS} (h : fX0_begin_29 p1 σ = some (r, σ')) : gG E mX0_begin 29 [] [] σ (none) σ' := by
  unfold fX0_begin_29 at h
  obtain ⟨rfl, rfl⟩ := so_inj h
  exact g_vret dX0_begin_29 rfl
def fX0_begin (p1 : Int32) (σ : gS) : Option (Unit × gS) :=
  if 16 ≤ (σ.1 149 1) then
    fX0_begin_29 p1 σ
  else
    gg (¬ (σ.1 149 1 < 0 ∨ 16 ≤ (σ.1 149 1).toNatClampNeg)) (
    bnd (gsI σ 150 ((σ.1 149 1).toNatClampNeg) p1) fun σ3 =>
    bnd (gsI σ3 149 1 ((σ3.1 149 1) + 1)) fun σ4 =>
    fX0_begin_29 p1 σ4)
set_option maxHeartbeats 4000000 in
set_option maxRecDepth 100000 in
theorem pX0_begin {E : gE} {p1 : Int32} {r : Unit} {σ' : gS} {σ : gS} (h : fX0_begin p1 σ = some (r, σ')) : gG E mX0_begin 0 [(0, .ref 149), (1, .int p1)] [] σ (none) σ' := by
  unfold fX0_begin at h
  refine g_aload_n dX0_begin_0 rfl 0 rfl ?_
  refine g_getI dX0_begin_1 gi_149 rfl fl_RX0_22 ?_
  refine g_bipush (v := 16) dX0_begin_4 (by decide) ?_
  refine g_icmp_ge (t := 29) dX0_begin_6 (by decide) (fun c1 => ?_) (fun c1 => ?_)
  · replace h := if_t h c1
    refine g_sub [] rfl ?_
    exact pX0_begin_29 h
  · replace h := if_f h c1
    refine g_aload_n dX0_begin_9 rfl 0 rfl ?_
    refine g_getC (n := 150) dX0_begin_10 gi_149 rfl fl_RX0_11 ?_
    refine g_aload_n dX0_begin_13 rfl 0 rfl ?_
    refine g_getI dX0_begin_14 gi_149 rfl fl_RX0_22 ?_
    refine g_iload_n dX0_begin_17 rfl 1 rfl ?_
    obtain ⟨g2, h⟩ := gg_some h
    obtain ⟨σ3, eσ3, h⟩ := bnd_nm h
    refine g_iast dX0_begin_18 gi_150 g2 (g_st eσ3 ?_)
    refine g_aload_n dX0_begin_19 rfl 0 rfl ?_
    refine g_dup dX0_begin_20 rfl ?_
    refine g_getI dX0_begin_21 gi_149 rfl fl_RX0_22 ?_
    refine g_iconst (v := 1) dX0_begin_24 (by decide) ?_
    refine g_iadd dX0_begin_25 ?_
    obtain ⟨σ4, eσ4, h⟩ := bnd_nm h
    refine g_putI dX0_begin_26 gi_149 rfl fp_RX0_22 (g_st eσ4 ?_)
    refine g_sub [] rfl ?_
    exact pX0_begin_29 h
theorem zX0_begin {E : gE} {p1 : Int32} {r : Unit} {σ σ' : gS} (h : fX0_begin p1 σ = some (r, σ')) : gC E mX0_begin [.ref 149, .int p1] σ (none) σ' :=
  gC_of (by decide +kernel) rfl (Nat.le_of_ble_eq_true rfl) (pX0_begin h)
def mX0_pinFreedom : gM := (yX0_pinFreedom, cX0_pinFreedom, RX0, 1, (some .int), 1, 21)
theorem dX0_pinFreedom_0 : decode mX0_pinFreedom.2.1 0 = .ok (.aload_n 0, 1) := by decide +kernel
theorem dX0_pinFreedom_1 : decode mX0_pinFreedom.2.1 1 = .ok (.bipush 11, 2) := by decide +kernel
theorem dX0_pinFreedom_3 : decode mX0_pinFreedom.2.1 3 = .ok (.invokevirtual 33, 3) := by decide +kernel
theorem dX0_pinFreedom_6 : decode mX0_pinFreedom.2.1 6 = .ok (.iconst 2, 1) := by decide +kernel
theorem dX0_pinFreedom_7 : decode mX0_pinFreedom.2.1 7 = .ok (.ireturn, 1) := by decide +kernel
theorem okX0_pinFreedom_33 : gOkV mX0_pinFreedom mX0_begin 33 1 := ⟨List.forall_mem_cons.mpr ⟨(gm 1083 (by decide +kernel) rfl), List.forall_mem_cons.mpr ⟨(gm 1080 (by decide +kernel) rfl), List.forall_mem_cons.mpr ⟨(gm 1082 (by decide +kernel) rfl), List.forall_mem_cons.mpr ⟨(gm 47 (by decide +kernel) rfl), List.forall_mem_cons.mpr ⟨(gm 120 (by decide +kernel) rfl), fun _ h => absurd h List.not_mem_nil⟩⟩⟩⟩⟩, by decide +kernel, by decide +kernel, by decide +kernel⟩
def fX0_pinFreedom (σ : gS) : Option (Int32 × gS) :=
  bd (fX0_begin 11 σ) fun _ σ1 =>
  some (2, σ1)
set_option maxHeartbeats 4000000 in
set_option maxRecDepth 100000 in
theorem pX0_pinFreedom {E : gE} {r : Int32} {σ' : gS} {σ : gS} (h : fX0_pinFreedom σ = some (r, σ')) : gG E mX0_pinFreedom 0 [(0, .ref 149)] [] σ (some (.int r)) σ' := by
  unfold fX0_pinFreedom at h
  refine g_aload_n dX0_pinFreedom_0 rfl 0 rfl ?_
  refine g_bipush (v := 11) dX0_pinFreedom_1 (by decide) ?_
  obtain ⟨_, σ1, y2, h⟩ := bd_some h
  refine g_callVv (as := [.int 11]) (st := []) (zX0_begin y2) dX0_pinFreedom_3 gi_149 rfl okX0_pinFreedom_33 (Nat.le_of_ble_eq_true rfl) ?_
  refine g_iconst (v := 2) dX0_pinFreedom_6 (by decide) ?_
  obtain ⟨rfl, rfl⟩ := so_inj h
  exact g_iret dX0_pinFreedom_7 rfl
theorem zX0_pinFreedom {E : gE} {r : Int32} {σ σ' : gS} (h : fX0_pinFreedom σ = some (r, σ')) : gC E mX0_pinFreedom [.ref 149] σ (some (.int r)) σ' :=
  gC_of (by decide +kernel) rfl (Nat.le_of_ble_eq_true rfl) (pX0_pinFreedom h)
def mX0_lentFreedom : gM := (yX0_lentFreedom, cX0_lentFreedom, RX0, 1, (some .int), 1, 21)
theorem dX0_lentFreedom_0 : decode mX0_lentFreedom.2.1 0 = .ok (.aload_n 0, 1) := by decide +kernel
theorem dX0_lentFreedom_1 : decode mX0_lentFreedom.2.1 1 = .ok (.bipush 10, 2) := by decide +kernel
theorem dX0_lentFreedom_3 : decode mX0_lentFreedom.2.1 3 = .ok (.invokevirtual 33, 3) := by decide +kernel
theorem dX0_lentFreedom_6 : decode mX0_lentFreedom.2.1 6 = .ok (.iconst 0, 1) := by decide +kernel
theorem dX0_lentFreedom_7 : decode mX0_lentFreedom.2.1 7 = .ok (.ireturn, 1) := by decide +kernel
theorem okX0_lentFreedom_33 : gOkV mX0_lentFreedom mX0_begin 33 1 := ⟨List.forall_mem_cons.mpr ⟨(gm 1083 (by decide +kernel) rfl), List.forall_mem_cons.mpr ⟨(gm 1080 (by decide +kernel) rfl), List.forall_mem_cons.mpr ⟨(gm 1082 (by decide +kernel) rfl), List.forall_mem_cons.mpr ⟨(gm 47 (by decide +kernel) rfl), List.forall_mem_cons.mpr ⟨(gm 120 (by decide +kernel) rfl), fun _ h => absurd h List.not_mem_nil⟩⟩⟩⟩⟩, by decide +kernel, by decide +kernel, by decide +kernel⟩
def fX0_lentFreedom (σ : gS) : Option (Int32 × gS) :=
  bd (fX0_begin 10 σ) fun _ σ1 =>
  some (0, σ1)
set_option maxHeartbeats 4000000 in
set_option maxRecDepth 100000 in
theorem pX0_lentFreedom {E : gE} {r : Int32} {σ' : gS} {σ : gS} (h : fX0_lentFreedom σ = some (r, σ')) : gG E mX0_lentFreedom 0 [(0, .ref 149)] [] σ (some (.int r)) σ' := by
  unfold fX0_lentFreedom at h
  refine g_aload_n dX0_lentFreedom_0 rfl 0 rfl ?_
  refine g_bipush (v := 10) dX0_lentFreedom_1 (by decide) ?_
  obtain ⟨_, σ1, y2, h⟩ := bd_some h
  refine g_callVv (as := [.int 10]) (st := []) (zX0_begin y2) dX0_lentFreedom_3 gi_149 rfl okX0_lentFreedom_33 (Nat.le_of_ble_eq_true rfl) ?_
  refine g_iconst (v := 0) dX0_lentFreedom_6 (by decide) ?_
  obtain ⟨rfl, rfl⟩ := so_inj h
  exact g_iret dX0_lentFreedom_7 rfl
theorem zX0_lentFreedom {E : gE} {r : Int32} {σ σ' : gS} (h : fX0_lentFreedom σ = some (r, σ')) : gC E mX0_lentFreedom [.ref 149] σ (some (.int r)) σ' :=
  gC_of (by decide +kernel) rfl (Nat.le_of_ble_eq_true rfl) (pX0_lentFreedom h)
theorem fl_RX0_15 : gFl RX0 15 0 3 := ⟨RX0, TX0, 5, rfl, by decide, ux_0, Or.inl (gm 489 (by decide +kernel) rfl)⟩
def mX0_freedom : gM := (yX0_freedom, cX0_freedom, RX0, 1, (some .int), 2, 41)
theorem dX0_freedom_0 : decode mX0_freedom.2.1 0 = .ok (.aload_n 0, 1) := by decide +kernel
theorem dX0_freedom_1 : decode mX0_freedom.2.1 1 = .ok (.getfield 15, 3) := by decide +kernel
theorem dX0_freedom_4 : decode mX0_freedom.2.1 4 = .ok (.tableswitch 71 0 3 #[32, 37, 50, 63], 32) := by decide +kernel
theorem dX0_freedom_36 : decode mX0_freedom.2.1 36 = .ok (.aload_n 0, 1) := by decide +kernel
theorem dX0_freedom_37 : decode mX0_freedom.2.1 37 = .ok (.invokevirtual 29, 3) := by decide +kernel
theorem dX0_freedom_40 : decode mX0_freedom.2.1 40 = .ok (.ireturn, 1) := by decide +kernel
theorem dX0_freedom_41 : decode mX0_freedom.2.1 41 = .ok (.aload_n 0, 1) := by decide +kernel
theorem dX0_freedom_42 : decode mX0_freedom.2.1 42 = .ok (.bipush 12, 2) := by decide +kernel
theorem dX0_freedom_44 : decode mX0_freedom.2.1 44 = .ok (.invokevirtual 33, 3) := by decide +kernel
theorem dX0_freedom_47 : decode mX0_freedom.2.1 47 = .ok (.aload_n 0, 1) := by decide +kernel
theorem dX0_freedom_48 : decode mX0_freedom.2.1 48 = .ok (.invokevirtual 29, 3) := by decide +kernel
theorem dX0_freedom_51 : decode mX0_freedom.2.1 51 = .ok (.iconst 2, 1) := by decide +kernel
theorem dX0_freedom_52 : decode mX0_freedom.2.1 52 = .ok (.isub, 1) := by decide +kernel
theorem dX0_freedom_53 : decode mX0_freedom.2.1 53 = .ok (.ireturn, 1) := by decide +kernel
theorem dX0_freedom_54 : decode mX0_freedom.2.1 54 = .ok (.aload_n 0, 1) := by decide +kernel
theorem dX0_freedom_55 : decode mX0_freedom.2.1 55 = .ok (.bipush 13, 2) := by decide +kernel
theorem dX0_freedom_57 : decode mX0_freedom.2.1 57 = .ok (.invokevirtual 33, 3) := by decide +kernel
theorem dX0_freedom_60 : decode mX0_freedom.2.1 60 = .ok (.aload_n 0, 1) := by decide +kernel
theorem dX0_freedom_61 : decode mX0_freedom.2.1 61 = .ok (.invokevirtual 37, 3) := by decide +kernel
theorem dX0_freedom_64 : decode mX0_freedom.2.1 64 = .ok (.iconst 1, 1) := by decide +kernel
theorem dX0_freedom_65 : decode mX0_freedom.2.1 65 = .ok (.isub, 1) := by decide +kernel
theorem dX0_freedom_66 : decode mX0_freedom.2.1 66 = .ok (.ireturn, 1) := by decide +kernel
theorem dX0_freedom_67 : decode mX0_freedom.2.1 67 = .ok (.aload_n 0, 1) := by decide +kernel
theorem dX0_freedom_68 : decode mX0_freedom.2.1 68 = .ok (.bipush 14, 2) := by decide +kernel
theorem dX0_freedom_70 : decode mX0_freedom.2.1 70 = .ok (.invokevirtual 33, 3) := by decide +kernel
theorem dX0_freedom_73 : decode mX0_freedom.2.1 73 = .ok (.iconst 1, 1) := by decide +kernel
theorem dX0_freedom_74 : decode mX0_freedom.2.1 74 = .ok (.ireturn, 1) := by decide +kernel
theorem dX0_freedom_75 : decode mX0_freedom.2.1 75 = .ok (.aload_n 0, 1) := by decide +kernel
theorem dX0_freedom_76 : decode mX0_freedom.2.1 76 = .ok (.bipush 15, 2) := by decide +kernel
theorem dX0_freedom_78 : decode mX0_freedom.2.1 78 = .ok (.invokevirtual 33, 3) := by decide +kernel
theorem dX0_freedom_81 : decode mX0_freedom.2.1 81 = .ok (.aload_n 0, 1) := by decide +kernel
theorem dX0_freedom_82 : decode mX0_freedom.2.1 82 = .ok (.invokevirtual 37, 3) := by decide +kernel
theorem dX0_freedom_85 : decode mX0_freedom.2.1 85 = .ok (.iconst 1, 1) := by decide +kernel
theorem dX0_freedom_86 : decode mX0_freedom.2.1 86 = .ok (.isub, 1) := by decide +kernel
theorem dX0_freedom_87 : decode mX0_freedom.2.1 87 = .ok (.ireturn, 1) := by decide +kernel
theorem okX0_freedom_29 : gOkV mX0_freedom mX0_pinFreedom 29 0 := ⟨List.forall_mem_cons.mpr ⟨(gm 1079 (by decide +kernel) rfl), List.forall_mem_cons.mpr ⟨(gm 1076 (by decide +kernel) rfl), List.forall_mem_cons.mpr ⟨(gm 1078 (by decide +kernel) rfl), List.forall_mem_cons.mpr ⟨(gm 46 (by decide +kernel) rfl), List.forall_mem_cons.mpr ⟨(gm 120 (by decide +kernel) rfl), fun _ h => absurd h List.not_mem_nil⟩⟩⟩⟩⟩, by decide +kernel, by decide +kernel, by decide +kernel⟩
theorem okX0_freedom_33 : gOkV mX0_freedom mX0_begin 33 1 := ⟨List.forall_mem_cons.mpr ⟨(gm 1083 (by decide +kernel) rfl), List.forall_mem_cons.mpr ⟨(gm 1080 (by decide +kernel) rfl), List.forall_mem_cons.mpr ⟨(gm 1082 (by decide +kernel) rfl), List.forall_mem_cons.mpr ⟨(gm 47 (by decide +kernel) rfl), List.forall_mem_cons.mpr ⟨(gm 120 (by decide +kernel) rfl), fun _ h => absurd h List.not_mem_nil⟩⟩⟩⟩⟩, by decide +kernel, by decide +kernel, by decide +kernel⟩
theorem okX0_freedom_37 : gOkV mX0_freedom mX0_lentFreedom 37 0 := ⟨List.forall_mem_cons.mpr ⟨(gm 1087 (by decide +kernel) rfl), List.forall_mem_cons.mpr ⟨(gm 1084 (by decide +kernel) rfl), List.forall_mem_cons.mpr ⟨(gm 1086 (by decide +kernel) rfl), List.forall_mem_cons.mpr ⟨(gm 48 (by decide +kernel) rfl), List.forall_mem_cons.mpr ⟨(gm 120 (by decide +kernel) rfl), fun _ h => absurd h List.not_mem_nil⟩⟩⟩⟩⟩, by decide +kernel, by decide +kernel, by decide +kernel⟩
def fX0_freedom (σ : gS) : Option (Int32 × gS) :=
  if (σ.1 149 3) = 0 then
    bd (fX0_pinFreedom σ) fun x2 σ3 =>
    some (x2, σ3)
  else
    if (σ.1 149 3) = 1 then
    bd (fX0_begin 12 σ) fun _ σ6 =>
      bd (fX0_pinFreedom σ6) fun x8 σ9 =>
      some (x8 - 2, σ9)
  else
    if (σ.1 149 3) = 2 then
    bd (fX0_begin 13 σ) fun _ σ12 =>
        bd (fX0_lentFreedom σ12) fun x14 σ15 =>
        some (x14 - 1, σ15)
  else
    if (σ.1 149 3) = 3 then
    bd (fX0_begin 14 σ) fun _ σ18 =>
          some (1, σ18)
  else
    bd (fX0_begin 15 σ) fun _ σ20 =>
          bd (fX0_lentFreedom σ20) fun x22 σ23 =>
          some (x22 - 1, σ23)
set_option maxHeartbeats 4000000 in
set_option maxRecDepth 100000 in
theorem pX0_freedom {E : gE} {r : Int32} {σ' : gS} {σ : gS} (h : fX0_freedom σ = some (r, σ')) : gG E mX0_freedom 0 [(0, .ref 149)] [] σ (some (.int r)) σ' := by
  unfold fX0_freedom at h
  refine g_aload_n dX0_freedom_0 rfl 0 rfl ?_
  refine g_getI dX0_freedom_1 gi_149 rfl fl_RX0_15 ?_
  by_cases c1 : (σ.1 149 3) = 0
  · replace h := if_t h c1
    refine g_tabIn (off := 32) (t := 36) dX0_freedom_4 (by rw [c1]; decide) (by rw [c1]; decide) (by rw [c1]; first | done | rfl) (by decide) ?_
    refine g_aload_n dX0_freedom_36 rfl 0 rfl ?_
    obtain ⟨x2, σ3, y4, h⟩ := bd_some h
    refine g_callVr (as := []) (st := []) (zX0_pinFreedom y4) dX0_freedom_37 gi_149 rfl okX0_freedom_29 (Nat.le_of_ble_eq_true rfl) ?_
    obtain ⟨rfl, rfl⟩ := so_inj h
    exact g_iret dX0_freedom_40 rfl
  · replace h := if_f h c1
    by_cases c5 : (σ.1 149 3) = 1
    · replace h := if_t h c5
      refine g_tabIn (off := 37) (t := 41) dX0_freedom_4 (by rw [c5]; decide) (by rw [c5]; decide) (by rw [c5]; first | done | rfl) (by decide) ?_
      refine g_aload_n dX0_freedom_41 rfl 0 rfl ?_
      refine g_bipush (v := 12) dX0_freedom_42 (by decide) ?_
      obtain ⟨_, σ6, y7, h⟩ := bd_some h
      refine g_callVv (as := [.int 12]) (st := []) (zX0_begin y7) dX0_freedom_44 gi_149 rfl okX0_freedom_33 (Nat.le_of_ble_eq_true rfl) ?_
      refine g_aload_n dX0_freedom_47 rfl 0 rfl ?_
      obtain ⟨x8, σ9, y10, h⟩ := bd_some h
      refine g_callVr (as := []) (st := []) (zX0_pinFreedom y10) dX0_freedom_48 gi_149 rfl okX0_freedom_29 (Nat.le_of_ble_eq_true rfl) ?_
      refine g_iconst (v := 2) dX0_freedom_51 (by decide) ?_
      refine g_isub dX0_freedom_52 ?_
      obtain ⟨rfl, rfl⟩ := so_inj h
      exact g_iret dX0_freedom_53 rfl
    · replace h := if_f h c5
      by_cases c11 : (σ.1 149 3) = 2
      · replace h := if_t h c11
        refine g_tabIn (off := 50) (t := 54) dX0_freedom_4 (by rw [c11]; decide) (by rw [c11]; decide) (by rw [c11]; first | done | rfl) (by decide) ?_
        refine g_aload_n dX0_freedom_54 rfl 0 rfl ?_
        refine g_bipush (v := 13) dX0_freedom_55 (by decide) ?_
        obtain ⟨_, σ12, y13, h⟩ := bd_some h
        refine g_callVv (as := [.int 13]) (st := []) (zX0_begin y13) dX0_freedom_57 gi_149 rfl okX0_freedom_33 (Nat.le_of_ble_eq_true rfl) ?_
        refine g_aload_n dX0_freedom_60 rfl 0 rfl ?_
        obtain ⟨x14, σ15, y16, h⟩ := bd_some h
        refine g_callVr (as := []) (st := []) (zX0_lentFreedom y16) dX0_freedom_61 gi_149 rfl okX0_freedom_37 (Nat.le_of_ble_eq_true rfl) ?_
        refine g_iconst (v := 1) dX0_freedom_64 (by decide) ?_
        refine g_isub dX0_freedom_65 ?_
        obtain ⟨rfl, rfl⟩ := so_inj h
        exact g_iret dX0_freedom_66 rfl
      · replace h := if_f h c11
        by_cases c17 : (σ.1 149 3) = 3
        · replace h := if_t h c17
          refine g_tabIn (off := 63) (t := 67) dX0_freedom_4 (by rw [c17]; decide) (by rw [c17]; decide) (by rw [c17]; first | done | rfl) (by decide) ?_
          refine g_aload_n dX0_freedom_67 rfl 0 rfl ?_
          refine g_bipush (v := 14) dX0_freedom_68 (by decide) ?_
          obtain ⟨_, σ18, y19, h⟩ := bd_some h
          refine g_callVv (as := [.int 14]) (st := []) (zX0_begin y19) dX0_freedom_70 gi_149 rfl okX0_freedom_33 (Nat.le_of_ble_eq_true rfl) ?_
          refine g_iconst (v := 1) dX0_freedom_73 (by decide) ?_
          obtain ⟨rfl, rfl⟩ := so_inj h
          exact g_iret dX0_freedom_74 rfl
        · replace h := if_f h c17
          have nc1 := lv_neT (a := 0) c1 (by decide)
          have nc5 := lv_neT (a := 1) c5 (by decide)
          have nc11 := lv_neT (a := 2) c11 (by decide)
          have nc17 := lv_neT (a := 3) c17 (by decide)
          refine g_tabOut (t := 75) dX0_freedom_4 (by omega) (by decide) ?_
          refine g_aload_n dX0_freedom_75 rfl 0 rfl ?_
          refine g_bipush (v := 15) dX0_freedom_76 (by decide) ?_
          obtain ⟨_, σ20, y21, h⟩ := bd_some h
          refine g_callVv (as := [.int 15]) (st := []) (zX0_begin y21) dX0_freedom_78 gi_149 rfl okX0_freedom_33 (Nat.le_of_ble_eq_true rfl) ?_
          refine g_aload_n dX0_freedom_81 rfl 0 rfl ?_
          obtain ⟨x22, σ23, y24, h⟩ := bd_some h
          refine g_callVr (as := []) (st := []) (zX0_lentFreedom y24) dX0_freedom_82 gi_149 rfl okX0_freedom_37 (Nat.le_of_ble_eq_true rfl) ?_
          refine g_iconst (v := 1) dX0_freedom_85 (by decide) ?_
          refine g_isub dX0_freedom_86 ?_
          obtain ⟨rfl, rfl⟩ := so_inj h
          exact g_iret dX0_freedom_87 rfl
theorem zX0_freedom {E : gE} {r : Int32} {σ σ' : gS} (h : fX0_freedom σ = some (r, σ')) : gC E mX0_freedom [.ref 149] σ (some (.int r)) σ' :=
  gC_of (by decide +kernel) rfl (Nat.le_of_ble_eq_true rfl) (pX0_freedom h)
def mX0_lentMass : gM := (yX0_lentMass, cX0_lentMass, RX0, 1, (some .int), 1, 21)
theorem dX0_lentMass_0 : decode mX0_lentMass.2.1 0 = .ok (.aload_n 0, 1) := by decide +kernel
theorem dX0_lentMass_1 : decode mX0_lentMass.2.1 1 = .ok (.bipush 20, 2) := by decide +kernel
theorem dX0_lentMass_3 : decode mX0_lentMass.2.1 3 = .ok (.invokevirtual 33, 3) := by decide +kernel
theorem dX0_lentMass_6 : decode mX0_lentMass.2.1 6 = .ok (.iconst 1, 1) := by decide +kernel
theorem dX0_lentMass_7 : decode mX0_lentMass.2.1 7 = .ok (.ireturn, 1) := by decide +kernel
theorem okX0_lentMass_33 : gOkV mX0_lentMass mX0_begin 33 1 := ⟨List.forall_mem_cons.mpr ⟨(gm 1083 (by decide +kernel) rfl), List.forall_mem_cons.mpr ⟨(gm 1080 (by decide +kernel) rfl), List.forall_mem_cons.mpr ⟨(gm 1082 (by decide +kernel) rfl), List.forall_mem_cons.mpr ⟨(gm 47 (by decide +kernel) rfl), List.forall_mem_cons.mpr ⟨(gm 120 (by decide +kernel) rfl), fun _ h => absurd h List.not_mem_nil⟩⟩⟩⟩⟩, by decide +kernel, by decide +kernel, by decide +kernel⟩
def fX0_lentMass (σ : gS) : Option (Int32 × gS) :=
  bd (fX0_begin 20 σ) fun _ σ1 =>
  some (1, σ1)
set_option maxHeartbeats 4000000 in
set_option maxRecDepth 100000 in
theorem pX0_lentMass {E : gE} {r : Int32} {σ' : gS} {σ : gS} (h : fX0_lentMass σ = some (r, σ')) : gG E mX0_lentMass 0 [(0, .ref 149)] [] σ (some (.int r)) σ' := by
  unfold fX0_lentMass at h
  refine g_aload_n dX0_lentMass_0 rfl 0 rfl ?_
  refine g_bipush (v := 20) dX0_lentMass_1 (by decide) ?_
  obtain ⟨_, σ1, y2, h⟩ := bd_some h
  refine g_callVv (as := [.int 20]) (st := []) (zX0_begin y2) dX0_lentMass_3 gi_149 rfl okX0_lentMass_33 (Nat.le_of_ble_eq_true rfl) ?_
  refine g_iconst (v := 1) dX0_lentMass_6 (by decide) ?_
  obtain ⟨rfl, rfl⟩ := so_inj h
  exact g_iret dX0_lentMass_7 rfl
theorem zX0_lentMass {E : gE} {r : Int32} {σ σ' : gS} (h : fX0_lentMass σ = some (r, σ')) : gC E mX0_lentMass [.ref 149] σ (some (.int r)) σ' :=
  gC_of (by decide +kernel) rfl (Nat.le_of_ble_eq_true rfl) (pX0_lentMass h)
def mX0_beltMass : gM := (yX0_beltMass, cX0_beltMass, RX0, 1, (some .int), 2, 41)
theorem dX0_beltMass_0 : decode mX0_beltMass.2.1 0 = .ok (.aload_n 0, 1) := by decide +kernel
theorem dX0_beltMass_1 : decode mX0_beltMass.2.1 1 = .ok (.bipush 23, 2) := by decide +kernel
theorem dX0_beltMass_3 : decode mX0_beltMass.2.1 3 = .ok (.invokevirtual 33, 3) := by decide +kernel
theorem dX0_beltMass_6 : decode mX0_beltMass.2.1 6 = .ok (.aload_n 0, 1) := by decide +kernel
theorem dX0_beltMass_7 : decode mX0_beltMass.2.1 7 = .ok (.invokevirtual 43, 3) := by decide +kernel
theorem dX0_beltMass_10 : decode mX0_beltMass.2.1 10 = .ok (.iconst 5, 1) := by decide +kernel
theorem dX0_beltMass_11 : decode mX0_beltMass.2.1 11 = .ok (.iadd, 1) := by decide +kernel
theorem dX0_beltMass_12 : decode mX0_beltMass.2.1 12 = .ok (.ireturn, 1) := by decide +kernel
theorem okX0_beltMass_33 : gOkV mX0_beltMass mX0_begin 33 1 := ⟨List.forall_mem_cons.mpr ⟨(gm 1083 (by decide +kernel) rfl), List.forall_mem_cons.mpr ⟨(gm 1080 (by decide +kernel) rfl), List.forall_mem_cons.mpr ⟨(gm 1082 (by decide +kernel) rfl), List.forall_mem_cons.mpr ⟨(gm 47 (by decide +kernel) rfl), List.forall_mem_cons.mpr ⟨(gm 120 (by decide +kernel) rfl), fun _ h => absurd h List.not_mem_nil⟩⟩⟩⟩⟩, by decide +kernel, by decide +kernel, by decide +kernel⟩
theorem okX0_beltMass_43 : gOkV mX0_beltMass mX0_lentMass 43 0 := ⟨List.forall_mem_cons.mpr ⟨(gm 1099 (by decide +kernel) rfl), List.forall_mem_cons.mpr ⟨(gm 1096 (by decide +kernel) rfl), List.forall_mem_cons.mpr ⟨(gm 1098 (by decide +kernel) rfl), List.forall_mem_cons.mpr ⟨(gm 50 (by decide +kernel) rfl), List.forall_mem_cons.mpr ⟨(gm 120 (by decide +kernel) rfl), fun _ h => absurd h List.not_mem_nil⟩⟩⟩⟩⟩, by decide +kernel, by decide +kernel, by decide +kernel⟩
def fX0_beltMass (σ : gS) : Option (Int32 × gS) :=
  bd (fX0_begin 23 σ) fun _ σ1 =>
  bd (fX0_lentMass σ1) fun x3 σ4 =>
  some (x3 + 5, σ4)
set_option maxHeartbeats 4000000 in
set_option maxRecDepth 100000 in
theorem pX0_beltMass {E : gE} {r : Int32} {σ' : gS} {σ : gS} (h : fX0_beltMass σ = some (r, σ')) : gG E mX0_beltMass 0 [(0, .ref 149)] [] σ (some (.int r)) σ' := by
  unfold fX0_beltMass at h
  refine g_aload_n dX0_beltMass_0 rfl 0 rfl ?_
  refine g_bipush (v := 23) dX0_beltMass_1 (by decide) ?_
  obtain ⟨_, σ1, y2, h⟩ := bd_some h
  refine g_callVv (as := [.int 23]) (st := []) (zX0_begin y2) dX0_beltMass_3 gi_149 rfl okX0_beltMass_33 (Nat.le_of_ble_eq_true rfl) ?_
  refine g_aload_n dX0_beltMass_6 rfl 0 rfl ?_
  obtain ⟨x3, σ4, y5, h⟩ := bd_some h
  refine g_callVr (as := []) (st := []) (zX0_lentMass y5) dX0_beltMass_7 gi_149 rfl okX0_beltMass_43 (Nat.le_of_ble_eq_true rfl) ?_
  refine g_iconst (v := 5) dX0_beltMass_10 (by decide) ?_
  refine g_iadd dX0_beltMass_11 ?_
  obtain ⟨rfl, rfl⟩ := so_inj h
  exact g_iret dX0_beltMass_12 rfl
theorem zX0_beltMass {E : gE} {r : Int32} {σ σ' : gS} (h : fX0_beltMass σ = some (r, σ')) : gC E mX0_beltMass [.ref 149] σ (some (.int r)) σ' :=
  gC_of (by decide +kernel) rfl (Nat.le_of_ble_eq_true rfl) (pX0_beltMass h)
theorem fl_RX0_19 : gFl RX0 19 0 4 := ⟨RX0, TX0, 5, rfl, by decide, ux_0, Or.inl (gm 490 (by decide +kernel) rfl)⟩
def mX0_mass : gM := (yX0_mass, cX0_mass, RX0, 1, (some .int), 3, 61)
theorem dX0_mass_0 : decode mX0_mass.2.1 0 = .ok (.aload_n 0, 1) := by decide +kernel
theorem dX0_mass_1 : decode mX0_mass.2.1 1 = .ok (.getfield 15, 3) := by decide +kernel
theorem dX0_mass_4 : decode mX0_mass.2.1 4 = .ok (.tableswitch 63 2 6 #[36, 47, 63, 58, 58], 36) := by decide +kernel
theorem dX0_mass_40 : decode mX0_mass.2.1 40 = .ok (.aload_n 0, 1) := by decide +kernel
theorem dX0_mass_41 : decode mX0_mass.2.1 41 = .ok (.bipush 21, 2) := by decide +kernel
theorem dX0_mass_43 : decode mX0_mass.2.1 43 = .ok (.invokevirtual 33, 3) := by decide +kernel
theorem dX0_mass_46 : decode mX0_mass.2.1 46 = .ok (.aload_n 0, 1) := by decide +kernel
theorem dX0_mass_47 : decode mX0_mass.2.1 47 = .ok (.getfield 19, 3) := by decide +kernel
theorem dX0_mass_50 : decode mX0_mass.2.1 50 = .ok (.ireturn, 1) := by decide +kernel
theorem dX0_mass_51 : decode mX0_mass.2.1 51 = .ok (.aload_n 0, 1) := by decide +kernel
theorem dX0_mass_52 : decode mX0_mass.2.1 52 = .ok (.bipush 22, 2) := by decide +kernel
theorem dX0_mass_54 : decode mX0_mass.2.1 54 = .ok (.invokevirtual 33, 3) := by decide +kernel
theorem dX0_mass_57 : decode mX0_mass.2.1 57 = .ok (.aload_n 0, 1) := by decide +kernel
theorem dX0_mass_58 : decode mX0_mass.2.1 58 = .ok (.getfield 19, 3) := by decide +kernel
theorem dX0_mass_61 : decode mX0_mass.2.1 61 = .ok (.ireturn, 1) := by decide +kernel
theorem dX0_mass_62 : decode mX0_mass.2.1 62 = .ok (.aload_n 0, 1) := by decide +kernel
theorem dX0_mass_63 : decode mX0_mass.2.1 63 = .ok (.invokevirtual 40, 3) := by decide +kernel
theorem dX0_mass_66 : decode mX0_mass.2.1 66 = .ok (.ireturn, 1) := by decide +kernel
theorem dX0_mass_67 : decode mX0_mass.2.1 67 = .ok (.aload_n 0, 1) := by decide +kernel
theorem dX0_mass_68 : decode mX0_mass.2.1 68 = .ok (.invokevirtual 43, 3) := by decide +kernel
theorem dX0_mass_71 : decode mX0_mass.2.1 71 = .ok (.ireturn, 1) := by decide +kernel
theorem okX0_mass_40 : gOkV mX0_mass mX0_beltMass 40 0 := ⟨List.forall_mem_cons.mpr ⟨(gm 1095 (by decide +kernel) rfl), List.forall_mem_cons.mpr ⟨(gm 1092 (by decide +kernel) rfl), List.forall_mem_cons.mpr ⟨(gm 1094 (by decide +kernel) rfl), List.forall_mem_cons.mpr ⟨(gm 49 (by decide +kernel) rfl), List.forall_mem_cons.mpr ⟨(gm 120 (by decide +kernel) rfl), fun _ h => absurd h List.not_mem_nil⟩⟩⟩⟩⟩, by decide +kernel, by decide +kernel, by decide +kernel⟩
theorem okX0_mass_43 : gOkV mX0_mass mX0_lentMass 43 0 := ⟨List.forall_mem_cons.mpr ⟨(gm 1099 (by decide +kernel) rfl), List.forall_mem_cons.mpr ⟨(gm 1096 (by decide +kernel) rfl), List.forall_mem_cons.mpr ⟨(gm 1098 (by decide +kernel) rfl), List.forall_mem_cons.mpr ⟨(gm 50 (by decide +kernel) rfl), List.forall_mem_cons.mpr ⟨(gm 120 (by decide +kernel) rfl), fun _ h => absurd h List.not_mem_nil⟩⟩⟩⟩⟩, by decide +kernel, by decide +kernel, by decide +kernel⟩
theorem okX0_mass_33 : gOkV mX0_mass mX0_begin 33 1 := ⟨List.forall_mem_cons.mpr ⟨(gm 1083 (by decide +kernel) rfl), List.forall_mem_cons.mpr ⟨(gm 1080 (by decide +kernel) rfl), List.forall_mem_cons.mpr ⟨(gm 1082 (by decide +kernel) rfl), List.forall_mem_cons.mpr ⟨(gm 47 (by decide +kernel) rfl), List.forall_mem_cons.mpr ⟨(gm 120 (by decide +kernel) rfl), fun _ h => absurd h List.not_mem_nil⟩⟩⟩⟩⟩, by decide +kernel, by decide +kernel, by decide +kernel⟩
def fX0_mass_62 (σ : gS) : Option (Int32 × gS) :=
  bd (fX0_beltMass σ) fun x1 σ2 =>
  some (x1, σ2)
set_option maxHeartbeats 4000000 in
set_option maxRecDepth 100000 in
theorem pX0_mass_62 {E : gE} {r : Int32} {σ' : gS} {σ : gS} (h : fX0_mass_62 σ = some (r, σ')) : gG E mX0_mass 62 [(0, .ref 149)] [] σ (some (.int r)) σ' := by
  unfold fX0_mass_62 at h
  refine g_aload_n dX0_mass_62 rfl 0 rfl ?_
  obtain ⟨x1, σ2, y3, h⟩ := bd_some h
  refine g_callVr (as := []) (st := []) (zX0_beltMass y3) dX0_mass_63 gi_149 rfl okX0_mass_40 (Nat.le_of_ble_eq_true rfl) ?_
  obtain ⟨rfl, rfl⟩ := so_inj h
  exact g_iret dX0_mass_66 rfl
def fX0_mass_67 (σ : gS) : Option (Int32 × gS) :=
  bd (fX0_lentMass σ) fun x1 σ2 =>
  some (x1, σ2)
set_option maxHeartbeats 4000000 in
set_option maxRecDepth 100000 in
theorem pX0_mass_67 {E : gE} {r : Int32} {σ' : gS} {σ : gS} (h : fX0_mass_67 σ = some (r, σ')) : gG E mX0_mass 67 [(0, .ref 149)] [] σ (some (.int r)) σ' := by
  unfold fX0_mass_67 at h
  refine g_aload_n dX0_mass_67 rfl 0 rfl ?_
  obtain ⟨x1, σ2, y3, h⟩ := bd_some h
  refine g_callVr (as := []) (st := []) (zX0_lentMass y3) dX0_mass_68 gi_149 rfl okX0_mass_43 (Nat.le_of_ble_eq_true rfl) ?_
  obtain ⟨rfl, rfl⟩ := so_inj h
  exact g_iret dX0_mass_71 rfl
def fX0_mass (σ : gS) : Option (Int32 × gS) :=
  if (σ.1 149 3) = 2 then
    bd (fX0_begin 21 σ) fun _ σ2 =>
    some (σ2.1 149 4, σ2)
  else
    if (σ.1 149 3) = 3 then
    bd (fX0_begin 22 σ) fun _ σ5 =>
      some (σ5.1 149 4, σ5)
  else
    if (σ.1 149 3) = 4 then
    fX0_mass_67 σ
  else
    if (σ.1 149 3) = 5 then
    fX0_mass_62 σ
  else
    if (σ.1 149 3) = 6 then
    fX0_mass_62 σ
  else
    fX0_mass_67 σ
set_option maxHeartbeats 4000000 in
set_option maxRecDepth 100000 in
theorem pX0_mass {E : gE} {r : Int32} {σ' : gS} {σ : gS} (h : fX0_mass σ = some (r, σ')) : gG E mX0_mass 0 [(0, .ref 149)] [] σ (some (.int r)) σ' := by
  unfold fX0_mass at h
  refine g_aload_n dX0_mass_0 rfl 0 rfl ?_
  refine g_getI dX0_mass_1 gi_149 rfl fl_RX0_15 ?_
  by_cases c1 : (σ.1 149 3) = 2
  · replace h := if_t h c1
    refine g_tabIn (off := 36) (t := 40) dX0_mass_4 (by rw [c1]; decide) (by rw [c1]; decide) (by rw [c1]; first | done | rfl) (by decide) ?_
    refine g_aload_n dX0_mass_40 rfl 0 rfl ?_
    refine g_bipush (v := 21) dX0_mass_41 (by decide) ?_
    obtain ⟨_, σ2, y3, h⟩ := bd_some h
    refine g_callVv (as := [.int 21]) (st := []) (zX0_begin y3) dX0_mass_43 gi_149 rfl okX0_mass_33 (Nat.le_of_ble_eq_true rfl) ?_
    refine g_aload_n dX0_mass_46 rfl 0 rfl ?_
    refine g_getI dX0_mass_47 gi_149 rfl fl_RX0_19 ?_
    obtain ⟨rfl, rfl⟩ := so_inj h
    exact g_iret dX0_mass_50 rfl
  · replace h := if_f h c1
    by_cases c4 : (σ.1 149 3) = 3
    · replace h := if_t h c4
      refine g_tabIn (off := 47) (t := 51) dX0_mass_4 (by rw [c4]; decide) (by rw [c4]; decide) (by rw [c4]; first | done | rfl) (by decide) ?_
      refine g_aload_n dX0_mass_51 rfl 0 rfl ?_
      refine g_bipush (v := 22) dX0_mass_52 (by decide) ?_
      obtain ⟨_, σ5, y6, h⟩ := bd_some h
      refine g_callVv (as := [.int 22]) (st := []) (zX0_begin y6) dX0_mass_54 gi_149 rfl okX0_mass_33 (Nat.le_of_ble_eq_true rfl) ?_
      refine g_aload_n dX0_mass_57 rfl 0 rfl ?_
      refine g_getI dX0_mass_58 gi_149 rfl fl_RX0_19 ?_
      obtain ⟨rfl, rfl⟩ := so_inj h
      exact g_iret dX0_mass_61 rfl
    · replace h := if_f h c4
      by_cases c7 : (σ.1 149 3) = 4
      · replace h := if_t h c7
        refine g_tabIn (off := 63) (t := 67) dX0_mass_4 (by rw [c7]; decide) (by rw [c7]; decide) (by rw [c7]; first | done | rfl) (by decide) ?_
        exact pX0_mass_67 h
      · replace h := if_f h c7
        by_cases c8 : (σ.1 149 3) = 5
        · replace h := if_t h c8
          refine g_tabIn (off := 58) (t := 62) dX0_mass_4 (by rw [c8]; decide) (by rw [c8]; decide) (by rw [c8]; first | done | rfl) (by decide) ?_
          exact pX0_mass_62 h
        · replace h := if_f h c8
          by_cases c9 : (σ.1 149 3) = 6
          · replace h := if_t h c9
            refine g_tabIn (off := 58) (t := 62) dX0_mass_4 (by rw [c9]; decide) (by rw [c9]; decide) (by rw [c9]; first | done | rfl) (by decide) ?_
            exact pX0_mass_62 h
          · replace h := if_f h c9
            have nc1 := lv_neT (a := 2) c1 (by decide)
            have nc4 := lv_neT (a := 3) c4 (by decide)
            have nc7 := lv_neT (a := 4) c7 (by decide)
            have nc8 := lv_neT (a := 5) c8 (by decide)
            have nc9 := lv_neT (a := 6) c9 (by decide)
            refine g_tabOut (t := 67) dX0_mass_4 (by omega) (by decide) ?_
            exact pX0_mass_67 h
theorem zX0_mass {E : gE} {r : Int32} {σ σ' : gS} (h : fX0_mass σ = some (r, σ')) : gC E mX0_mass [.ref 149] σ (some (.int r)) σ' :=
  gC_of (by decide +kernel) rfl (Nat.le_of_ble_eq_true rfl) (pX0_mass h)
def mX0_lentLoss : gM := (yX0_lentLoss, cX0_lentLoss, RX0, 2, (some .int), 3, 61)
theorem dX0_lentLoss_0 : decode mX0_lentLoss.2.1 0 = .ok (.aload_n 0, 1) := by decide +kernel
theorem dX0_lentLoss_1 : decode mX0_lentLoss.2.1 1 = .ok (.bipush 30, 2) := by decide +kernel
theorem dX0_lentLoss_3 : decode mX0_lentLoss.2.1 3 = .ok (.invokevirtual 33, 3) := by decide +kernel
theorem dX0_lentLoss_6 : decode mX0_lentLoss.2.1 6 = .ok (.aload_n 0, 1) := by decide +kernel
theorem dX0_lentLoss_7 : decode mX0_lentLoss.2.1 7 = .ok (.invokevirtual 52, 3) := by decide +kernel
theorem dX0_lentLoss_10 : decode mX0_lentLoss.2.1 10 = .ok (.istore_n 1, 1) := by decide +kernel
theorem dX0_lentLoss_11 : decode mX0_lentLoss.2.1 11 = .ok (.iload_n 1, 1) := by decide +kernel
theorem dX0_lentLoss_12 : decode mX0_lentLoss.2.1 12 = .ok (.ifCond .ne 10, 3) := by decide +kernel
theorem dX0_lentLoss_15 : decode mX0_lentLoss.2.1 15 = .ok (.aload_n 0, 1) := by decide +kernel
theorem dX0_lentLoss_16 : decode mX0_lentLoss.2.1 16 = .ok (.iconst 1, 1) := by decide +kernel
theorem dX0_lentLoss_17 : decode mX0_lentLoss.2.1 17 = .ok (.putfield 25, 3) := by decide +kernel
theorem dX0_lentLoss_20 : decode mX0_lentLoss.2.1 20 = .ok (.iconst 0, 1) := by decide +kernel
theorem dX0_lentLoss_21 : decode mX0_lentLoss.2.1 21 = .ok (.ireturn, 1) := by decide +kernel
theorem dX0_lentLoss_22 : decode mX0_lentLoss.2.1 22 = .ok (.sipush 1000, 3) := by decide +kernel
theorem dX0_lentLoss_25 : decode mX0_lentLoss.2.1 25 = .ok (.iload_n 1, 1) := by decide +kernel
theorem dX0_lentLoss_26 : decode mX0_lentLoss.2.1 26 = .ok (.idiv, 1) := by decide +kernel
theorem dX0_lentLoss_27 : decode mX0_lentLoss.2.1 27 = .ok (.ireturn, 1) := by decide +kernel
theorem okX0_lentLoss_33 : gOkV mX0_lentLoss mX0_begin 33 1 := ⟨List.forall_mem_cons.mpr ⟨(gm 1083 (by decide +kernel) rfl), List.forall_mem_cons.mpr ⟨(gm 1080 (by decide +kernel) rfl), List.forall_mem_cons.mpr ⟨(gm 1082 (by decide +kernel) rfl), List.forall_mem_cons.mpr ⟨(gm 47 (by decide +kernel) rfl), List.forall_mem_cons.mpr ⟨(gm 120 (by decide +kernel) rfl), fun _ h => absurd h List.not_mem_nil⟩⟩⟩⟩⟩, by decide +kernel, by decide +kernel, by decide +kernel⟩
theorem okX0_lentLoss_52 : gOkV mX0_lentLoss mX0_freedom 52 0 := ⟨List.forall_mem_cons.mpr ⟨(gm 1075 (by decide +kernel) rfl), List.forall_mem_cons.mpr ⟨(gm 1109 (by decide +kernel) rfl), List.forall_mem_cons.mpr ⟨(gm 1073 (by decide +kernel) rfl), List.forall_mem_cons.mpr ⟨(gm 1074 (by decide +kernel) rfl), List.forall_mem_cons.mpr ⟨(gm 120 (by decide +kernel) rfl), fun _ h => absurd h List.not_mem_nil⟩⟩⟩⟩⟩, by decide +kernel, by decide +kernel, by decide +kernel⟩
def fX0_lentLoss (σ : gS) : Option (Int32 × gS) :=
  bd (fX0_begin 30 σ) fun _ σ1 =>
  bd (fX0_freedom σ1) fun x3 σ4 =>
  if x3 = 0 then
    bnd (gsI σ4 149 2 1) fun σ8 =>
    some (0, σ8)
  else
    gg (¬ x3 = 0) (
    some (1000 / x3, σ4))
set_option maxHeartbeats 4000000 in
set_option maxRecDepth 100000 in
theorem pX0_lentLoss {E : gE} {r : Int32} {σ' : gS} {σ : gS} (h : fX0_lentLoss σ = some (r, σ')) : gG E mX0_lentLoss 0 [(0, .ref 149)] [] σ (some (.int r)) σ' := by
  unfold fX0_lentLoss at h
  refine g_aload_n dX0_lentLoss_0 rfl 0 rfl ?_
  refine g_bipush (v := 30) dX0_lentLoss_1 (by decide) ?_
  obtain ⟨_, σ1, y2, h⟩ := bd_some h
  refine g_callVv (as := [.int 30]) (st := []) (zX0_begin y2) dX0_lentLoss_3 gi_149 rfl okX0_lentLoss_33 (Nat.le_of_ble_eq_true rfl) ?_
  refine g_aload_n dX0_lentLoss_6 rfl 0 rfl ?_
  obtain ⟨x3, σ4, y5, h⟩ := bd_some h
  refine g_callVr (as := []) (st := []) (zX0_freedom y5) dX0_lentLoss_7 gi_149 rfl okX0_lentLoss_52 (Nat.le_of_ble_eq_true rfl) ?_
  refine g_istore_n (lv' := [(1, .int x3), (0, .ref 149)]) dX0_lentLoss_10 rfl (Nat.le_of_ble_eq_true rfl) rfl ?_
  refine g_iload_n dX0_lentLoss_11 rfl 0 rfl ?_
  refine g_if_ne (t := 22) dX0_lentLoss_12 (by decide) (fun c6 => ?_) (fun c6 => ?_)
  · replace h := if_f h c6
    refine g_sipush (v := 1000) dX0_lentLoss_22 (by decide) ?_
    refine g_iload_n dX0_lentLoss_25 rfl 0 rfl ?_
    obtain ⟨g7, h⟩ := gg_some h
    refine g_idiv dX0_lentLoss_26 g7 ?_
    obtain ⟨rfl, rfl⟩ := so_inj h
    exact g_iret dX0_lentLoss_27 rfl
  · replace h := if_t h c6
    refine g_aload_n dX0_lentLoss_15 rfl 1 rfl ?_
    refine g_iconst (v := 1) dX0_lentLoss_16 (by decide) ?_
    obtain ⟨σ8, eσ8, h⟩ := bnd_nm h
    refine g_putZ dX0_lentLoss_17 gi_149 rfl fp_RX0_25 (Or.inr rfl) (g_st eσ8 ?_)
    refine g_iconst (v := 0) dX0_lentLoss_20 (by decide) ?_
    obtain ⟨rfl, rfl⟩ := so_inj h
    exact g_iret dX0_lentLoss_21 rfl
theorem zX0_lentLoss {E : gE} {r : Int32} {σ σ' : gS} (h : fX0_lentLoss σ = some (r, σ')) : gC E mX0_lentLoss [.ref 149] σ (some (.int r)) σ' :=
  gC_of (by decide +kernel) rfl (Nat.le_of_ble_eq_true rfl) (pX0_lentLoss h)
def mX0_loss : gM := (yX0_loss, cX0_loss, RX0, 1, (some .int), 4, 82)
theorem dX0_loss_0 : decode mX0_loss.2.1 0 = .ok (.aload_n 0, 1) := by decide +kernel
theorem dX0_loss_1 : decode mX0_loss.2.1 1 = .ok (.getfield 15, 3) := by decide +kernel
theorem dX0_loss_4 : decode mX0_loss.2.1 4 = .ok (.lookupswitch 57 #[(1, 28), (6, 44)], 28) := by decide +kernel
theorem dX0_loss_32 : decode mX0_loss.2.1 32 = .ok (.aload_n 0, 1) := by decide +kernel
theorem dX0_loss_33 : decode mX0_loss.2.1 33 = .ok (.bipush 31, 2) := by decide +kernel
theorem dX0_loss_35 : decode mX0_loss.2.1 35 = .ok (.invokevirtual 33, 3) := by decide +kernel
theorem dX0_loss_38 : decode mX0_loss.2.1 38 = .ok (.aload_n 0, 1) := by decide +kernel
theorem dX0_loss_39 : decode mX0_loss.2.1 39 = .ok (.invokevirtual 46, 3) := by decide +kernel
theorem dX0_loss_42 : decode mX0_loss.2.1 42 = .ok (.aload_n 0, 1) := by decide +kernel
theorem dX0_loss_43 : decode mX0_loss.2.1 43 = .ok (.invokevirtual 49, 3) := by decide +kernel
theorem dX0_loss_46 : decode mX0_loss.2.1 46 = .ok (.iadd, 1) := by decide +kernel
theorem dX0_loss_47 : decode mX0_loss.2.1 47 = .ok (.ireturn, 1) := by decide +kernel
theorem dX0_loss_48 : decode mX0_loss.2.1 48 = .ok (.aload_n 0, 1) := by decide +kernel
theorem dX0_loss_49 : decode mX0_loss.2.1 49 = .ok (.bipush 32, 2) := by decide +kernel
theorem dX0_loss_51 : decode mX0_loss.2.1 51 = .ok (.invokevirtual 33, 3) := by decide +kernel
theorem dX0_loss_54 : decode mX0_loss.2.1 54 = .ok (.iconst 3, 1) := by decide +kernel
theorem dX0_loss_55 : decode mX0_loss.2.1 55 = .ok (.aload_n 0, 1) := by decide +kernel
theorem dX0_loss_56 : decode mX0_loss.2.1 56 = .ok (.invokevirtual 40, 3) := by decide +kernel
theorem dX0_loss_59 : decode mX0_loss.2.1 59 = .ok (.imul, 1) := by decide +kernel
theorem dX0_loss_60 : decode mX0_loss.2.1 60 = .ok (.ireturn, 1) := by decide +kernel
theorem dX0_loss_61 : decode mX0_loss.2.1 61 = .ok (.aload_n 0, 1) := by decide +kernel
theorem dX0_loss_62 : decode mX0_loss.2.1 62 = .ok (.invokevirtual 49, 3) := by decide +kernel
theorem dX0_loss_65 : decode mX0_loss.2.1 65 = .ok (.ireturn, 1) := by decide +kernel
theorem okX0_loss_33 : gOkV mX0_loss mX0_begin 33 1 := ⟨List.forall_mem_cons.mpr ⟨(gm 1083 (by decide +kernel) rfl), List.forall_mem_cons.mpr ⟨(gm 1080 (by decide +kernel) rfl), List.forall_mem_cons.mpr ⟨(gm 1082 (by decide +kernel) rfl), List.forall_mem_cons.mpr ⟨(gm 47 (by decide +kernel) rfl), List.forall_mem_cons.mpr ⟨(gm 120 (by decide +kernel) rfl), fun _ h => absurd h List.not_mem_nil⟩⟩⟩⟩⟩, by decide +kernel, by decide +kernel, by decide +kernel⟩
theorem okX0_loss_46 : gOkV mX0_loss mX0_mass 46 0 := ⟨List.forall_mem_cons.mpr ⟨(gm 1091 (by decide +kernel) rfl), List.forall_mem_cons.mpr ⟨(gm 1104 (by decide +kernel) rfl), List.forall_mem_cons.mpr ⟨(gm 1089 (by decide +kernel) rfl), List.forall_mem_cons.mpr ⟨(gm 1090 (by decide +kernel) rfl), List.forall_mem_cons.mpr ⟨(gm 120 (by decide +kernel) rfl), fun _ h => absurd h List.not_mem_nil⟩⟩⟩⟩⟩, by decide +kernel, by decide +kernel, by decide +kernel⟩
theorem okX0_loss_49 : gOkV mX0_loss mX0_lentLoss 49 0 := ⟨List.forall_mem_cons.mpr ⟨(gm 1108 (by decide +kernel) rfl), List.forall_mem_cons.mpr ⟨(gm 1105 (by decide +kernel) rfl), List.forall_mem_cons.mpr ⟨(gm 1107 (by decide +kernel) rfl), List.forall_mem_cons.mpr ⟨(gm 51 (by decide +kernel) rfl), List.forall_mem_cons.mpr ⟨(gm 120 (by decide +kernel) rfl), fun _ h => absurd h List.not_mem_nil⟩⟩⟩⟩⟩, by decide +kernel, by decide +kernel, by decide +kernel⟩
theorem okX0_loss_40 : gOkV mX0_loss mX0_beltMass 40 0 := ⟨List.forall_mem_cons.mpr ⟨(gm 1095 (by decide +kernel) rfl), List.forall_mem_cons.mpr ⟨(gm 1092 (by decide +kernel) rfl), List.forall_mem_cons.mpr ⟨(gm 1094 (by decide +kernel) rfl), List.forall_mem_cons.mpr ⟨(gm 49 (by decide +kernel) rfl), List.forall_mem_cons.mpr ⟨(gm 120 (by decide +kernel) rfl), fun _ h => absurd h List.not_mem_nil⟩⟩⟩⟩⟩, by decide +kernel, by decide +kernel, by decide +kernel⟩
def fX0_loss (σ : gS) : Option (Int32 × gS) :=
  if (σ.1 149 3) = 1 then
    bd (fX0_begin 31 σ) fun _ σ2 =>
    bd (fX0_mass σ2) fun x4 σ5 =>
    bd (fX0_lentLoss σ5) fun x7 σ8 =>
    some (x4 + x7, σ8)
  else
    if (σ.1 149 3) = 6 then
    bd (fX0_begin 32 σ) fun _ σ11 =>
      bd (fX0_beltMass σ11) fun x13 σ14 =>
      some (3 * x13, σ14)
  else
    bd (fX0_lentLoss σ) fun x16 σ17 =>
      some (x16, σ17)
set_option maxHeartbeats 4000000 in
set_option maxRecDepth 100000 in
theorem pX0_loss {E : gE} {r : Int32} {σ' : gS} {σ : gS} (h : fX0_loss σ = some (r, σ')) : gG E mX0_loss 0 [(0, .ref 149)] [] σ (some (.int r)) σ' := by
  unfold fX0_loss at h
  refine g_aload_n dX0_loss_0 rfl 0 rfl ?_
  refine g_getI dX0_loss_1 gi_149 rfl fl_RX0_15 ?_
  by_cases c1 : (σ.1 149 3) = 1
  · replace h := if_t h c1
    refine g_look (off := 28) (t := 32) dX0_loss_4 (by decide) (by rw [c1]; first | done | rfl) (by decide) ?_
    refine g_aload_n dX0_loss_32 rfl 0 rfl ?_
    refine g_bipush (v := 31) dX0_loss_33 (by decide) ?_
    obtain ⟨_, σ2, y3, h⟩ := bd_some h
    refine g_callVv (as := [.int 31]) (st := []) (zX0_begin y3) dX0_loss_35 gi_149 rfl okX0_loss_33 (Nat.le_of_ble_eq_true rfl) ?_
    refine g_aload_n dX0_loss_38 rfl 0 rfl ?_
    obtain ⟨x4, σ5, y6, h⟩ := bd_some h
    refine g_callVr (as := []) (st := []) (zX0_mass y6) dX0_loss_39 gi_149 rfl okX0_loss_46 (Nat.le_of_ble_eq_true rfl) ?_
    refine g_aload_n dX0_loss_42 rfl 0 rfl ?_
    obtain ⟨x7, σ8, y9, h⟩ := bd_some h
    refine g_callVr (as := []) (st := [.int x4]) (zX0_lentLoss y9) dX0_loss_43 gi_149 rfl okX0_loss_49 (Nat.le_of_ble_eq_true rfl) ?_
    refine g_iadd dX0_loss_46 ?_
    obtain ⟨rfl, rfl⟩ := so_inj h
    exact g_iret dX0_loss_47 rfl
  · replace h := if_f h c1
    by_cases c10 : (σ.1 149 3) = 6
    · replace h := if_t h c10
      refine g_look (off := 44) (t := 48) dX0_loss_4 (by decide) (by rw [c10]; first | done | rfl) (by decide) ?_
      refine g_aload_n dX0_loss_48 rfl 0 rfl ?_
      refine g_bipush (v := 32) dX0_loss_49 (by decide) ?_
      obtain ⟨_, σ11, y12, h⟩ := bd_some h
      refine g_callVv (as := [.int 32]) (st := []) (zX0_begin y12) dX0_loss_51 gi_149 rfl okX0_loss_33 (Nat.le_of_ble_eq_true rfl) ?_
      refine g_iconst (v := 3) dX0_loss_54 (by decide) ?_
      refine g_aload_n dX0_loss_55 rfl 0 rfl ?_
      obtain ⟨x13, σ14, y15, h⟩ := bd_some h
      refine g_callVr (as := []) (st := [.int 3]) (zX0_beltMass y15) dX0_loss_56 gi_149 rfl okX0_loss_40 (Nat.le_of_ble_eq_true rfl) ?_
      refine g_imul dX0_loss_59 ?_
      obtain ⟨rfl, rfl⟩ := so_inj h
      exact g_iret dX0_loss_60 rfl
    · replace h := if_f h c10
      refine g_look (off := 57) (t := 61) dX0_loss_4 (by decide) (by rw [lv_osw c1 (by decide), lv_osw c10 (by decide)]; first | done | rfl) (by decide) ?_
      refine g_aload_n dX0_loss_61 rfl 0 rfl ?_
      obtain ⟨x16, σ17, y18, h⟩ := bd_some h
      refine g_callVr (as := []) (st := []) (zX0_lentLoss y18) dX0_loss_62 gi_149 rfl okX0_loss_49 (Nat.le_of_ble_eq_true rfl) ?_
      obtain ⟨rfl, rfl⟩ := so_inj h
      exact g_iret dX0_loss_65 rfl
theorem zX0_loss {E : gE} {r : Int32} {σ σ' : gS} (h : fX0_loss σ = some (r, σ')) : gC E mX0_loss [.ref 149] σ (some (.int r)) σ' :=
  gC_of (by decide +kernel) rfl (Nat.le_of_ble_eq_true rfl) (pX0_loss h)
theorem fl_RX3_32 : gFl RX3 32 3 6 := ⟨RX3, TX3, 10, rfl, by decide, ux_3, Or.inl (gm 159 (by decide +kernel) rfl)⟩
def mX3_size : gM := (yX3_size, cX3_size, RX3, 2, (some .int), 0, 0)
theorem dX3_size_0 : decode mX3_size.2.1 0 = .ok (.aload_n 0, 1) := by decide +kernel
theorem dX3_size_1 : decode mX3_size.2.1 1 = .ok (.getfield 32, 3) := by decide +kernel
theorem dX3_size_4 : decode mX3_size.2.1 4 = .ok (.iload_n 1, 1) := by decide +kernel
theorem dX3_size_5 : decode mX3_size.2.1 5 = .ok (.iaload, 1) := by decide +kernel
theorem dX3_size_6 : decode mX3_size.2.1 6 = .ok (.ireturn, 1) := by decide +kernel
def fX3_size (t : Nat) (p1 : Int32) (σ : gS) : Option (Int32 × gS) :=
  gg (¬ (p1 < 0 ∨ 4 ≤ p1.toNatClampNeg)) (
  some (σ.1 (t + 11) p1.toNatClampNeg, σ))
set_option maxHeartbeats 4000000 in
set_option maxRecDepth 100000 in
theorem pX3_size {E : gE} {t : Nat} {p1 : Int32} {r : Int32} {σ' : gS} {σ : gS} (ht : gLk t) (h : fX3_size t p1 σ = some (r, σ')) : gG E mX3_size 0 [(0, .ref t), (1, .int p1)] [] σ (some (.int r)) σ' := by
  unfold fX3_size at h
  refine g_aload_n dX3_size_0 rfl 0 rfl ?_
  refine g_getC (n := (t + 11)) dX3_size_1 (gi_lk ht) rfl fl_RX3_32 ?_
  refine g_iload_n dX3_size_4 rfl 1 rfl ?_
  obtain ⟨g1, h⟩ := gg_some h
  refine g_iald dX3_size_5 (gi_lk11 ht) g1 ?_
  obtain ⟨rfl, rfl⟩ := so_inj h
  exact g_iret dX3_size_6 rfl
theorem zX3_size {E : gE} {t : Nat} {p1 : Int32} {r : Int32} {σ σ' : gS} (ht : gLk t) (h : fX3_size t p1 σ = some (r, σ')) : gC E mX3_size [.ref t, .int p1] σ (some (.int r)) σ' :=
  gC_of (by decide +kernel) rfl (Nat.le_of_ble_eq_true rfl) (pX3_size ht h)
def mJ7_fill_53178 : gM := (yJ7_fill_53178, cJ7_fill_53178, RJ7, 4, none, 0, 0)
theorem dJ7_fill_53178_0 : decode mJ7_fill_53178.2.1 0 = .ok (.iconst 0, 1) := by decide +kernel
theorem dJ7_fill_53178_1 : decode mJ7_fill_53178.2.1 1 = .ok (.istore_n 2, 1) := by decide +kernel
theorem dJ7_fill_53178_2 : decode mJ7_fill_53178.2.1 2 = .ok (.aload_n 0, 1) := by decide +kernel
theorem dJ7_fill_53178_3 : decode mJ7_fill_53178.2.1 3 = .ok (.arraylength, 1) := by decide +kernel
theorem dJ7_fill_53178_4 : decode mJ7_fill_53178.2.1 4 = .ok (.istore_n 3, 1) := by decide +kernel
theorem dJ7_fill_53178_5 : decode mJ7_fill_53178.2.1 5 = .ok (.iload_n 2, 1) := by decide +kernel
theorem dJ7_fill_53178_6 : decode mJ7_fill_53178.2.1 6 = .ok (.iload_n 3, 1) := by decide +kernel
theorem dJ7_fill_53178_7 : decode mJ7_fill_53178.2.1 7 = .ok (.if_icmp .ge 13, 3) := by decide +kernel
theorem dJ7_fill_53178_10 : decode mJ7_fill_53178.2.1 10 = .ok (.aload_n 0, 1) := by decide +kernel
theorem dJ7_fill_53178_11 : decode mJ7_fill_53178.2.1 11 = .ok (.iload_n 2, 1) := by decide +kernel
theorem dJ7_fill_53178_12 : decode mJ7_fill_53178.2.1 12 = .ok (.iload_n 1, 1) := by decide +kernel
theorem dJ7_fill_53178_13 : decode mJ7_fill_53178.2.1 13 = .ok (.iastore, 1) := by decide +kernel
theorem dJ7_fill_53178_14 : decode mJ7_fill_53178.2.1 14 = .ok (.iinc 2 1, 3) := by decide +kernel
theorem dJ7_fill_53178_17 : decode mJ7_fill_53178.2.1 17 = .ok (.goto (-12), 3) := by decide +kernel
theorem dJ7_fill_53178_20 : decode mJ7_fill_53178.2.1 20 = .ok (.return_, 1) := by decide +kernel
def fJ7_fill_53178_5 (p1 : Nat) (p1n : Nat) (p2 : Int32) : Nat → Int32 → Int32 → gS → Option (Unit × gS)
  | 0, _, _, _ => none
  | n + 1, v2, v3, σ => if v3 ≤ v2 then
    some ((), σ)
  else
    gg (¬ (v2 < 0 ∨ p1n ≤ v2.toNatClampNeg)) (
    bnd (gsI σ p1 v2.toNatClampNeg p2) fun σ3 =>
    bnd (v2 + 1) fun x4 =>
    fJ7_fill_53178_5 p1 p1n p2 n x4 v3 σ3)
set_option maxHeartbeats 4000000 in
set_option maxRecDepth 100000 in
theorem pJ7_fill_53178_5 {E : gE} {p1 : Nat} {p1n : Nat} {p2 : Int32} {r : Unit} {σ' : gS} (hp1 : gI p1 = .inr (0, p1n, none)) (hp10 : 0 < p1n) : ∀ (n : Nat) (v2 : Int32) (v3 : Int32) (σ : gS), fJ7_fill_53178_5 p1 p1n p2 n v2 v3 σ = some (r, σ') → gG E mJ7_fill_53178 5 [(0, .ref p1), (1, .int p2), (2, .int v2), (3, .int v3)] [] σ (none) σ' := by
  intro n
  induction n with
  | zero => intro v2 v3 σ h; exact absurd (show none = some (r, σ') from h) (by intro q; cases q)
  | succ n ih =>
  intro v2 v3 σ h
  unfold fJ7_fill_53178_5 at h
  refine g_iload_n dJ7_fill_53178_5 rfl 2 rfl ?_
  refine g_iload_n dJ7_fill_53178_6 rfl 3 rfl ?_
  refine g_icmp_ge (t := 20) dJ7_fill_53178_7 (by decide) (fun c1 => ?_) (fun c1 => ?_)
  · replace h := if_t h c1
    obtain ⟨rfl, rfl⟩ := so_inj h
    exact g_vret dJ7_fill_53178_20 rfl
  · replace h := if_f h c1
    refine g_aload_n dJ7_fill_53178_10 rfl 0 rfl ?_
    refine g_iload_n dJ7_fill_53178_11 rfl 2 rfl ?_
    refine g_iload_n dJ7_fill_53178_12 rfl 1 rfl ?_
    obtain ⟨g2, h⟩ := gg_some h
    obtain ⟨σ3, eσ3, h⟩ := bnd_nm h
    refine g_iast dJ7_fill_53178_13 hp1 g2 (g_st eσ3 ?_)
    obtain ⟨x4, ex4, h⟩ := bnd_nm h
    refine g_iinc (j := 2) (v := x4) (lv' := [(2, .int x4), (0, .ref p1), (1, .int p2), (3, .int v3)]) dJ7_fill_53178_14 rfl (by rw [ex4]; rfl) (Nat.le_of_ble_eq_true rfl) rfl ?_
    refine g_goto (t := 5) dJ7_fill_53178_17 (by decide) ?_
    refine g_sub [1, 2, 0, 3] rfl ?_
    exact ih x4 v3 σ3 h
def fJ7_fill_53178 (p1 : Nat) (p1n : Nat) (p2 : Int32) (σ : gS) : Option (Unit × gS) :=
  bnd (Int32.ofNat p1n) fun x1 =>
  fJ7_fill_53178_5 p1 p1n p2 2000 0 x1 σ
set_option maxHeartbeats 4000000 in
set_option maxRecDepth 100000 in
theorem pJ7_fill_53178 {E : gE} {p1 : Nat} {p1n : Nat} {p2 : Int32} {r : Unit} {σ' : gS} {σ : gS} (hp1 : gI p1 = .inr (0, p1n, none)) (hp10 : 0 < p1n) (h : fJ7_fill_53178 p1 p1n p2 σ = some (r, σ')) : gG E mJ7_fill_53178 0 [(0, .ref p1), (1, .int p2)] [] σ (none) σ' := by
  unfold fJ7_fill_53178 at h
  refine g_iconst (v := 0) dJ7_fill_53178_0 (by decide) ?_
  refine g_istore_n (lv' := [(2, .int 0), (0, .ref p1), (1, .int p2)]) dJ7_fill_53178_1 rfl (Nat.le_of_ble_eq_true rfl) rfl ?_
  refine g_aload_n dJ7_fill_53178_2 rfl 1 rfl ?_
  refine g_alenI dJ7_fill_53178_3 hp1 hp10 ?_
  obtain ⟨x1, ex1, h⟩ := bnd_nm h
  refine g_topi ex1 ?_
  refine g_istore_n (lv' := [(3, .int x1), (2, .int 0), (0, .ref p1), (1, .int p2)]) dJ7_fill_53178_4 rfl (Nat.le_of_ble_eq_true rfl) rfl ?_
  refine g_sub [2, 3, 1, 0] rfl ?_
  exact pJ7_fill_53178_5 hp1 hp10 2000 0 x1 σ h
theorem zJ7_fill_53178 {E : gE} {p1 : Nat} {p1n : Nat} {p2 : Int32} {r : Unit} {σ σ' : gS} (hp1 : gI p1 = .inr (0, p1n, none)) (hp10 : 0 < p1n) (h : fJ7_fill_53178 p1 p1n p2 σ = some (r, σ')) : gC E mJ7_fill_53178 [.ref p1, .int p2] σ (none) σ' :=
  gC_ofF (by decide +kernel) rfl (Nat.le_of_ble_eq_true rfl) (pJ7_fill_53178 hp1 hp10 h)
theorem fl_RX3_9 : gFl RX3 9 3 0 := ⟨RX3, TX3, 10, rfl, by decide, ux_3, Or.inl (gm 149 (by decide +kernel) rfl)⟩
theorem fl_RX3_29 : gFl RX3 29 3 5 := ⟨RX3, TX3, 10, rfl, by decide, ux_3, Or.inl (gm 158 (by decide +kernel) rfl)⟩
def mX3_kindOf : gM := (yX3_kindOf, cX3_kindOf, RX3, 3, (some .int), 0, 0)
theorem dX3_kindOf_0 : decode mX3_kindOf.2.1 0 = .ok (.aload_n 0, 1) := by decide +kernel
theorem dX3_kindOf_1 : decode mX3_kindOf.2.1 1 = .ok (.getfield 9, 3) := by decide +kernel
theorem dX3_kindOf_4 : decode mX3_kindOf.2.1 4 = .ok (.aload_n 0, 1) := by decide +kernel
theorem dX3_kindOf_5 : decode mX3_kindOf.2.1 5 = .ok (.getfield 29, 3) := by decide +kernel
theorem dX3_kindOf_8 : decode mX3_kindOf.2.1 8 = .ok (.iload_n 1, 1) := by decide +kernel
theorem dX3_kindOf_9 : decode mX3_kindOf.2.1 9 = .ok (.aaload, 1) := by decide +kernel
theorem dX3_kindOf_10 : decode mX3_kindOf.2.1 10 = .ok (.iload_n 2, 1) := by decide +kernel
theorem dX3_kindOf_11 : decode mX3_kindOf.2.1 11 = .ok (.iaload, 1) := by decide +kernel
theorem dX3_kindOf_12 : decode mX3_kindOf.2.1 12 = .ok (.iaload, 1) := by decide +kernel
theorem dX3_kindOf_13 : decode mX3_kindOf.2.1 13 = .ok (.ireturn, 1) := by decide +kernel
def fX3_kindOf (t : Nat) (p1 : Int32) (p2 : Int32) (σ : gS) : Option (Int32 × gS) :=
  gg (¬ (p1 < 0 ∨ 4 ≤ p1.toNatClampNeg)) (
  gg (¬ (p2 < 0 ∨ 60 ≤ p2.toNatClampNeg)) (
  gg (¬ (σ.1 (t + 7 + 1 * p1.toNatClampNeg) p2.toNatClampNeg < 0 ∨ 130 ≤ (σ.1 (t + 7 + 1 * p1.toNatClampNeg) p2.toNatClampNeg).toNatClampNeg)) (
  some (σ.1 (t + 1) ((σ.1 (t + 7 + 1 * p1.toNatClampNeg) p2.toNatClampNeg).toNatClampNeg), σ))))
set_option maxHeartbeats 4000000 in
set_option maxRecDepth 100000 in
theorem pX3_kindOf {E : gE} {t : Nat} {p1 : Int32} {p2 : Int32} {r : Int32} {σ' : gS} {σ : gS} (ht : gLk t) (h : fX3_kindOf t p1 p2 σ = some (r, σ')) : gG E mX3_kindOf 0 [(0, .ref t), (1, .int p1), (2, .int p2)] [] σ (some (.int r)) σ' := by
  unfold fX3_kindOf at h
  refine g_aload_n dX3_kindOf_0 rfl 0 rfl ?_
  refine g_getC (n := (t + 1)) dX3_kindOf_1 (gi_lk ht) rfl fl_RX3_9 ?_
  refine g_aload_n dX3_kindOf_4 rfl 0 rfl ?_
  refine g_getC (n := (t + 6)) dX3_kindOf_5 (gi_lk ht) rfl fl_RX3_29 ?_
  refine g_iload_n dX3_kindOf_8 rfl 1 rfl ?_
  obtain ⟨g1, h⟩ := gg_some h
  refine g_aaldA dX3_kindOf_9 (gi_lk6 ht) g1 ?_
  refine g_topr (y := (t + 7 + 1 * p1.toNatClampNeg)) rfl ?_
  refine g_iload_n dX3_kindOf_10 rfl 2 rfl ?_
  obtain ⟨g2, h⟩ := gg_some h
  refine g_iald dX3_kindOf_11 (gi_lkm ht (vp_lt g1)) g2 ?_
  obtain ⟨g3, h⟩ := gg_some h
  refine g_iald dX3_kindOf_12 (gi_lk1 ht) g3 ?_
  obtain ⟨rfl, rfl⟩ := so_inj h
  exact g_iret dX3_kindOf_13 rfl
theorem zX3_kindOf {E : gE} {t : Nat} {p1 : Int32} {p2 : Int32} {r : Int32} {σ σ' : gS} (ht : gLk t) (h : fX3_kindOf t p1 p2 σ = some (r, σ')) : gC E mX3_kindOf [.ref t, .int p1, .int p2] σ (some (.int r)) σ' :=
  gC_of (by decide +kernel) rfl (Nat.le_of_ble_eq_true rfl) (pX3_kindOf ht h)
def mX3_isGround : gM := (yX3_isGround, cX3_isGround, RX3, 2, (some .boolean), 1, 22)
theorem dX3_isGround_0 : decode mX3_isGround.2.1 0 = .ok (.aload_n 0, 1) := by decide +kernel
theorem dX3_isGround_1 : decode mX3_isGround.2.1 1 = .ok (.iconst 0, 1) := by decide +kernel
theorem dX3_isGround_2 : decode mX3_isGround.2.1 2 = .ok (.iload_n 1, 1) := by decide +kernel
theorem dX3_isGround_3 : decode mX3_isGround.2.1 3 = .ok (.invokevirtual 69, 3) := by decide +kernel
theorem dX3_isGround_6 : decode mX3_isGround.2.1 6 = .ok (.iconst 1, 1) := by decide +kernel
theorem dX3_isGround_7 : decode mX3_isGround.2.1 7 = .ok (.if_icmp .ne 7, 3) := by decide +kernel
theorem dX3_isGround_10 : decode mX3_isGround.2.1 10 = .ok (.iconst 1, 1) := by decide +kernel
theorem dX3_isGround_11 : decode mX3_isGround.2.1 11 = .ok (.goto 4, 3) := by decide +kernel
theorem dX3_isGround_14 : decode mX3_isGround.2.1 14 = .ok (.iconst 0, 1) := by decide +kernel
theorem dX3_isGround_15 : decode mX3_isGround.2.1 15 = .ok (.ireturn, 1) := by decide +kernel
theorem okX3_isGround_69 : gOkV mX3_isGround mX3_kindOf 69 2 := ⟨List.forall_mem_cons.mpr ⟨(gm 725 (by decide +kernel) rfl), List.forall_mem_cons.mpr ⟨(gm 722 (by decide +kernel) rfl), List.forall_mem_cons.mpr ⟨(gm 723 (by decide +kernel) rfl), List.forall_mem_cons.mpr ⟨(gm 724 (by decide +kernel) rfl), List.forall_mem_cons.mpr ⟨(gm 109 (by decide +kernel) rfl), fun _ h => absurd h List.not_mem_nil⟩⟩⟩⟩⟩, by decide +kernel, by decide +kernel, by decide +kernel⟩
def fX3_isGround_15 (t : Nat) (p1 : Int32) (s0 : Int32) (σ : gS) : Option (Int32 × gS) :=
  gg (s0 = 0 ∨ s0 = 1) (
  some (s0, σ))
set_option maxHeartbeats 4000000 in
set_option maxRecDepth 100000 in
theorem pX3_isGround_15 {E : gE} {t : Nat} {p1 : Int32} {r : Int32} {σ' : gS} {s0 : Int32} {σ : gS} (ht : gLk t) (h : fX3_isGround_15 t p1 s0 σ = some (r, σ')) : gG E mX3_isGround 15 [] [.int s0] σ (some (.int r)) σ' := by
  unfold fX3_isGround_15 at h
  obtain ⟨g1, h⟩ := gg_some h
  obtain ⟨rfl, rfl⟩ := so_inj h
  exact g_zret dX3_isGround_15 rfl g1
def fX3_isGround (t : Nat) (p1 : Int32) (σ : gS) : Option (Int32 × gS) :=
  bd (fX3_kindOf t 0 p1 σ) fun x1 σ2 =>
  if x1 = 1 then
    fX3_isGround_15 t p1 1 σ2
  else
    fX3_isGround_15 t p1 0 σ2
set_option maxHeartbeats 4000000 in
set_option maxRecDepth 100000 in
theorem pX3_isGround {E : gE} {t : Nat} {p1 : Int32} {r : Int32} {σ' : gS} {σ : gS} (ht : gLk t) (h : fX3_isGround t p1 σ = some (r, σ')) : gG E mX3_isGround 0 [(0, .ref t), (1, .int p1)] [] σ (some (.int r)) σ' := by
  unfold fX3_isGround at h
  refine g_aload_n dX3_isGround_0 rfl 0 rfl ?_
  refine g_iconst (v := 0) dX3_isGround_1 (by decide) ?_
  refine g_iload_n dX3_isGround_2 rfl 1 rfl ?_
  obtain ⟨x1, σ2, y3, h⟩ := bd_some h
  refine g_callVr (as := [.int 0, .int p1]) (st := []) (zX3_kindOf ht y3) dX3_isGround_3 (gi_lk ht) rfl okX3_isGround_69 (Nat.le_of_ble_eq_true rfl) ?_
  refine g_iconst (v := 1) dX3_isGround_6 (by decide) ?_
  refine g_icmp_ne (t := 14) dX3_isGround_7 (by decide) (fun c4 => ?_) (fun c4 => ?_)
  · replace h := if_f h c4
    refine g_iconst (v := 0) dX3_isGround_14 (by decide) ?_
    refine g_sub [] rfl ?_
    exact pX3_isGround_15 ht h
  · replace h := if_t h c4
    refine g_iconst (v := 1) dX3_isGround_10 (by decide) ?_
    refine g_goto (t := 15) dX3_isGround_11 (by decide) ?_
    refine g_sub [] rfl ?_
    exact pX3_isGround_15 ht h
theorem zX3_isGround {E : gE} {t : Nat} {p1 : Int32} {r : Int32} {σ σ' : gS} (ht : gLk t) (h : fX3_isGround t p1 σ = some (r, σ')) : gC E mX3_isGround [.ref t, .int p1] σ (some (.int r)) σ' :=
  gC_of (by decide +kernel) rfl (Nat.le_of_ble_eq_true rfl) (pX3_isGround ht h)
theorem fl_RX1_11 : gFl RX1 11 1 0 := ⟨RX1, TX1, 10, rfl, by decide, ux_1, Or.inl (gm 288 (by decide +kernel) rfl)⟩
theorem wc_RX1_39 : Cond.constant RX1 39 (-1000000) ∈ gWS := (gm 738 (by decide +kernel) rfl)
def mX1_freePebbles : gM := (yX1_freePebbles, cX1_freePebbles, RX1, 2, (some .int), 0, 0)
theorem dX1_freePebbles_0 : decode mX1_freePebbles.2.1 0 = .ok (.aload_n 0, 1) := by decide +kernel
theorem dX1_freePebbles_1 : decode mX1_freePebbles.2.1 1 = .ok (.getfield 11, 3) := by decide +kernel
theorem dX1_freePebbles_4 : decode mX1_freePebbles.2.1 4 = .ok (.iload_n 1, 1) := by decide +kernel
theorem dX1_freePebbles_5 : decode mX1_freePebbles.2.1 5 = .ok (.aaload, 1) := by decide +kernel
theorem dX1_freePebbles_6 : decode mX1_freePebbles.2.1 6 = .ok (.iconst 0, 1) := by decide +kernel
theorem dX1_freePebbles_7 : decode mX1_freePebbles.2.1 7 = .ok (.iaload, 1) := by decide +kernel
theorem dX1_freePebbles_8 : decode mX1_freePebbles.2.1 8 = .ok (.ldc 39, 2) := by decide +kernel
theorem dX1_freePebbles_10 : decode mX1_freePebbles.2.1 10 = .ok (.if_icmp .ne 7, 3) := by decide +kernel
theorem dX1_freePebbles_13 : decode mX1_freePebbles.2.1 13 = .ok (.iconst 1, 1) := by decide +kernel
theorem dX1_freePebbles_14 : decode mX1_freePebbles.2.1 14 = .ok (.goto 4, 3) := by decide +kernel
theorem dX1_freePebbles_17 : decode mX1_freePebbles.2.1 17 = .ok (.iconst 0, 1) := by decide +kernel
theorem dX1_freePebbles_18 : decode mX1_freePebbles.2.1 18 = .ok (.aload_n 0, 1) := by decide +kernel
theorem dX1_freePebbles_19 : decode mX1_freePebbles.2.1 19 = .ok (.getfield 11, 3) := by decide +kernel
theorem dX1_freePebbles_22 : decode mX1_freePebbles.2.1 22 = .ok (.iload_n 1, 1) := by decide +kernel
theorem dX1_freePebbles_23 : decode mX1_freePebbles.2.1 23 = .ok (.aaload, 1) := by decide +kernel
theorem dX1_freePebbles_24 : decode mX1_freePebbles.2.1 24 = .ok (.iconst 1, 1) := by decide +kernel
theorem dX1_freePebbles_25 : decode mX1_freePebbles.2.1 25 = .ok (.iaload, 1) := by decide +kernel
theorem dX1_freePebbles_26 : decode mX1_freePebbles.2.1 26 = .ok (.ldc 39, 2) := by decide +kernel
theorem dX1_freePebbles_28 : decode mX1_freePebbles.2.1 28 = .ok (.if_icmp .ne 7, 3) := by decide +kernel
theorem dX1_freePebbles_31 : decode mX1_freePebbles.2.1 31 = .ok (.iconst 1, 1) := by decide +kernel
theorem dX1_freePebbles_32 : decode mX1_freePebbles.2.1 32 = .ok (.goto 4, 3) := by decide +kernel
theorem dX1_freePebbles_35 : decode mX1_freePebbles.2.1 35 = .ok (.iconst 0, 1) := by decide +kernel
theorem dX1_freePebbles_36 : decode mX1_freePebbles.2.1 36 = .ok (.iadd, 1) := by decide +kernel
theorem dX1_freePebbles_37 : decode mX1_freePebbles.2.1 37 = .ok (.ireturn, 1) := by decide +kernel
def fX1_freePebbles_36 (p1 : Int32) (s0 : Int32) (s1 : Int32) (σ : gS) : Option (Int32 × gS) :=
  some (s0 + s1, σ)
set_option maxHeartbeats 4000000 in
set_option maxRecDepth 100000 in
theorem pX1_freePebbles_36 {E : gE} {p1 : Int32} {r : Int32} {σ' : gS} {s0 : Int32} {s1 : Int32} {σ : gS} (h : fX1_freePebbles_36 p1 s0 s1 σ = some (r, σ')) : gG E mX1_freePebbles 36 [] [.int s1, .int s0] σ (some (.int r)) σ' := by
  unfold fX1_freePebbles_36 at h
  refine g_iadd dX1_freePebbles_36 ?_
  obtain ⟨rfl, rfl⟩ := so_inj h
  exact g_iret dX1_freePebbles_37 rfl
def fX1_freePebbles_18 (p1 : Int32) (s0 : Int32) (σ : gS) : Option (Int32 × gS) :=
  gg (¬ (p1 < 0 ∨ 24 ≤ p1.toNatClampNeg)) (
  if (σ.1 (30 + 1 * p1.toNatClampNeg) ((1 : Int32).toNatClampNeg)) = (-1000000) then
    fX1_freePebbles_36 p1 s0 1 σ
  else
    fX1_freePebbles_36 p1 s0 0 σ)
set_option maxHeartbeats 4000000 in
set_option maxRecDepth 100000 in
theorem pX1_freePebbles_18 {E : gE} {p1 : Int32} {r : Int32} {σ' : gS} {s0 : Int32} {σ : gS} (h : fX1_freePebbles_18 p1 s0 σ = some (r, σ')) : gG E mX1_freePebbles 18 [(0, .ref 28), (1, .int p1)] [.int s0] σ (some (.int r)) σ' := by
  unfold fX1_freePebbles_18 at h
  refine g_aload_n dX1_freePebbles_18 rfl 0 rfl ?_
  refine g_getC (n := 29) dX1_freePebbles_19 gi_28 rfl fl_RX1_11 ?_
  refine g_iload_n dX1_freePebbles_22 rfl 1 rfl ?_
  obtain ⟨g1, h⟩ := gg_some h
  refine g_aaldA dX1_freePebbles_23 gi_29 g1 ?_
  refine g_topr (y := (30 + 1 * p1.toNatClampNeg)) rfl ?_
  refine g_iconst (v := 1) dX1_freePebbles_24 (by decide) ?_
  refine g_iald dX1_freePebbles_25 (gi_ld (vp_lt g1)) (by unfold vp_in; decide) ?_
  refine g_ldc (v := (-1000000)) dX1_freePebbles_26 wc_RX1_39 ?_
  refine g_icmp_ne (t := 35) dX1_freePebbles_28 (by decide) (fun c2 => ?_) (fun c2 => ?_)
  · replace h := if_f h c2
    refine g_iconst (v := 0) dX1_freePebbles_35 (by decide) ?_
    refine g_sub [] rfl ?_
    exact pX1_freePebbles_36 h
  · replace h := if_t h c2
    refine g_iconst (v := 1) dX1_freePebbles_31 (by decide) ?_
    refine g_goto (t := 36) dX1_freePebbles_32 (by decide) ?_
    refine g_sub [] rfl ?_
    exact pX1_freePebbles_36 h
def fX1_freePebbles (p1 : Int32) (σ : gS) : Option (Int32 × gS) :=
  gg (¬ (p1 < 0 ∨ 24 ≤ p1.toNatClampNeg)) (
  if (σ.1 (30 + 1 * p1.toNatClampNeg) ((0 : Int32).toNatClampNeg)) = (-1000000) then
    fX1_freePebbles_18 p1 1 σ
  else
    fX1_freePebbles_18 p1 0 σ)
set_option maxHeartbeats 4000000 in
set_option maxRecDepth 100000 in
theorem pX1_freePebbles {E : gE} {p1 : Int32} {r : Int32} {σ' : gS} {σ : gS} (h : fX1_freePebbles p1 σ = some (r, σ')) : gG E mX1_freePebbles 0 [(0, .ref 28), (1, .int p1)] [] σ (some (.int r)) σ' := by
  unfold fX1_freePebbles at h
  refine g_aload_n dX1_freePebbles_0 rfl 0 rfl ?_
  refine g_getC (n := 29) dX1_freePebbles_1 gi_28 rfl fl_RX1_11 ?_
  refine g_iload_n dX1_freePebbles_4 rfl 1 rfl ?_
  obtain ⟨g1, h⟩ := gg_some h
  refine g_aaldA dX1_freePebbles_5 gi_29 g1 ?_
  refine g_topr (y := (30 + 1 * p1.toNatClampNeg)) rfl ?_
  refine g_iconst (v := 0) dX1_freePebbles_6 (by decide) ?_
  refine g_iald dX1_freePebbles_7 (gi_ld (vp_lt g1)) (by unfold vp_in; decide) ?_
  refine g_ldc (v := (-1000000)) dX1_freePebbles_8 wc_RX1_39 ?_
  refine g_icmp_ne (t := 17) dX1_freePebbles_10 (by decide) (fun c2 => ?_) (fun c2 => ?_)
  · replace h := if_f h c2
    refine g_iconst (v := 0) dX1_freePebbles_17 (by decide) ?_
    exact pX1_freePebbles_18 h
  · replace h := if_t h c2
    refine g_iconst (v := 1) dX1_freePebbles_13 (by decide) ?_
    refine g_goto (t := 18) dX1_freePebbles_14 (by decide) ?_
    exact pX1_freePebbles_18 h
theorem zX1_freePebbles {E : gE} {p1 : Int32} {r : Int32} {σ σ' : gS} (h : fX1_freePebbles p1 σ = some (r, σ')) : gC E mX1_freePebbles [.ref 28, .int p1] σ (some (.int r)) σ' :=
  gC_of (by decide +kernel) rfl (Nat.le_of_ble_eq_true rfl) (pX1_freePebbles h)
theorem fl_RX1_16 : gFl RX1 16 1 1 := ⟨RX1, TX1, 10, rfl, by decide, ux_1, Or.inl (gm 289 (by decide +kernel) rfl)⟩
def mX1_turnPath : gM := (yX1_turnPath, cX1_turnPath, RX1, 6, none, 0, 0)
theorem dX1_turnPath_0 : decode mX1_turnPath.2.1 0 = .ok (.iload_n 2, 1) := by decide +kernel
theorem dX1_turnPath_1 : decode mX1_turnPath.2.1 1 = .ok (.istore_n 3, 1) := by decide +kernel
theorem dX1_turnPath_2 : decode mX1_turnPath.2.1 2 = .ok (.iconst 0, 1) := by decide +kernel
theorem dX1_turnPath_3 : decode mX1_turnPath.2.1 3 = .ok (.istore 4, 2) := by decide +kernel
theorem dX1_turnPath_5 : decode mX1_turnPath.2.1 5 = .ok (.iload 4, 2) := by decide +kernel
theorem dX1_turnPath_7 : decode mX1_turnPath.2.1 7 = .ok (.bipush 24, 2) := by decide +kernel
theorem dX1_turnPath_9 : decode mX1_turnPath.2.1 9 = .ok (.if_icmp .ge 80, 3) := by decide +kernel
theorem dX1_turnPath_12 : decode mX1_turnPath.2.1 12 = .ok (.iload_n 3, 1) := by decide +kernel
theorem dX1_turnPath_13 : decode mX1_turnPath.2.1 13 = .ok (.iload_n 1, 1) := by decide +kernel
theorem dX1_turnPath_14 : decode mX1_turnPath.2.1 14 = .ok (.if_icmp .eq 75, 3) := by decide +kernel
theorem dX1_turnPath_17 : decode mX1_turnPath.2.1 17 = .ok (.aload_n 0, 1) := by decide +kernel
theorem dX1_turnPath_18 : decode mX1_turnPath.2.1 18 = .ok (.getfield 16, 3) := by decide +kernel
theorem dX1_turnPath_21 : decode mX1_turnPath.2.1 21 = .ok (.iload_n 3, 1) := by decide +kernel
theorem dX1_turnPath_22 : decode mX1_turnPath.2.1 22 = .ok (.iaload, 1) := by decide +kernel
theorem dX1_turnPath_23 : decode mX1_turnPath.2.1 23 = .ok (.istore 5, 2) := by decide +kernel
theorem dX1_turnPath_25 : decode mX1_turnPath.2.1 25 = .ok (.aload_n 0, 1) := by decide +kernel
theorem dX1_turnPath_26 : decode mX1_turnPath.2.1 26 = .ok (.getfield 11, 3) := by decide +kernel
theorem dX1_turnPath_29 : decode mX1_turnPath.2.1 29 = .ok (.iload_n 3, 1) := by decide +kernel
theorem dX1_turnPath_30 : decode mX1_turnPath.2.1 30 = .ok (.aaload, 1) := by decide +kernel
theorem dX1_turnPath_31 : decode mX1_turnPath.2.1 31 = .ok (.aload_n 0, 1) := by decide +kernel
theorem dX1_turnPath_32 : decode mX1_turnPath.2.1 32 = .ok (.getfield 11, 3) := by decide +kernel
theorem dX1_turnPath_35 : decode mX1_turnPath.2.1 35 = .ok (.iload_n 3, 1) := by decide +kernel
theorem dX1_turnPath_36 : decode mX1_turnPath.2.1 36 = .ok (.aaload, 1) := by decide +kernel
theorem dX1_turnPath_37 : decode mX1_turnPath.2.1 37 = .ok (.iconst 0, 1) := by decide +kernel
theorem dX1_turnPath_38 : decode mX1_turnPath.2.1 38 = .ok (.iaload, 1) := by decide +kernel
theorem dX1_turnPath_39 : decode mX1_turnPath.2.1 39 = .ok (.ldc 39, 2) := by decide +kernel
theorem dX1_turnPath_41 : decode mX1_turnPath.2.1 41 = .ok (.if_icmp .ne 7, 3) := by decide +kernel
theorem dX1_turnPath_44 : decode mX1_turnPath.2.1 44 = .ok (.iconst 0, 1) := by decide +kernel
theorem dX1_turnPath_45 : decode mX1_turnPath.2.1 45 = .ok (.goto 4, 3) := by decide +kernel
theorem dX1_turnPath_48 : decode mX1_turnPath.2.1 48 = .ok (.iconst 1, 1) := by decide +kernel
theorem dX1_turnPath_49 : decode mX1_turnPath.2.1 49 = .ok (.iload 5, 2) := by decide +kernel
theorem dX1_turnPath_51 : decode mX1_turnPath.2.1 51 = .ok (.iastore, 1) := by decide +kernel
theorem dX1_turnPath_52 : decode mX1_turnPath.2.1 52 = .ok (.aload_n 0, 1) := by decide +kernel
theorem dX1_turnPath_53 : decode mX1_turnPath.2.1 53 = .ok (.getfield 11, 3) := by decide +kernel
theorem dX1_turnPath_56 : decode mX1_turnPath.2.1 56 = .ok (.iload 5, 2) := by decide +kernel
theorem dX1_turnPath_58 : decode mX1_turnPath.2.1 58 = .ok (.aaload, 1) := by decide +kernel
theorem dX1_turnPath_59 : decode mX1_turnPath.2.1 59 = .ok (.aload_n 0, 1) := by decide +kernel
theorem dX1_turnPath_60 : decode mX1_turnPath.2.1 60 = .ok (.getfield 11, 3) := by decide +kernel
theorem dX1_turnPath_63 : decode mX1_turnPath.2.1 63 = .ok (.iload 5, 2) := by decide +kernel
theorem dX1_turnPath_65 : decode mX1_turnPath.2.1 65 = .ok (.aaload, 1) := by decide +kernel
theorem dX1_turnPath_66 : decode mX1_turnPath.2.1 66 = .ok (.iconst 0, 1) := by decide +kernel
theorem dX1_turnPath_67 : decode mX1_turnPath.2.1 67 = .ok (.iaload, 1) := by decide +kernel
theorem dX1_turnPath_68 : decode mX1_turnPath.2.1 68 = .ok (.iload_n 3, 1) := by decide +kernel
theorem dX1_turnPath_69 : decode mX1_turnPath.2.1 69 = .ok (.if_icmp .ne 7, 3) := by decide +kernel
theorem dX1_turnPath_72 : decode mX1_turnPath.2.1 72 = .ok (.iconst 0, 1) := by decide +kernel
theorem dX1_turnPath_73 : decode mX1_turnPath.2.1 73 = .ok (.goto 4, 3) := by decide +kernel
theorem dX1_turnPath_76 : decode mX1_turnPath.2.1 76 = .ok (.iconst 1, 1) := by decide +kernel
theorem dX1_turnPath_77 : decode mX1_turnPath.2.1 77 = .ok (.ldc 39, 2) := by decide +kernel
theorem dX1_turnPath_79 : decode mX1_turnPath.2.1 79 = .ok (.iastore, 1) := by decide +kernel
theorem dX1_turnPath_80 : decode mX1_turnPath.2.1 80 = .ok (.iload 5, 2) := by decide +kernel
theorem dX1_turnPath_82 : decode mX1_turnPath.2.1 82 = .ok (.istore_n 3, 1) := by decide +kernel
theorem dX1_turnPath_83 : decode mX1_turnPath.2.1 83 = .ok (.iinc 4 1, 3) := by decide +kernel
theorem dX1_turnPath_86 : decode mX1_turnPath.2.1 86 = .ok (.goto (-81), 3) := by decide +kernel
theorem dX1_turnPath_89 : decode mX1_turnPath.2.1 89 = .ok (.return_, 1) := by decide +kernel
def fX1_turnPath_77 (p1 : Int32) (p2 : Int32) (k5 : Int32 → Int32 → gS → Option (Unit × gS)) (v4 : Int32) (v5 : Int32) (s0 : Nat) (s1 : Int32) (σ : gS) : Option (Unit × gS) :=
  gg (30 ≤ s0 ∧ s0 < 54) (
  gg (¬ (s1 < 0 ∨ 2 ≤ s1.toNatClampNeg)) (
  bnd (gsI σ s0 s1.toNatClampNeg (-1000000)) fun σ3 =>
  bnd (v4 + 1) fun x4 =>
  k5 v5 x4 σ3))
set_option maxHeartbeats 4000000 in
set_option maxRecDepth 100000 in
theorem pX1_turnPath_77 {E : gE} {p1 : Int32} {p2 : Int32} {k5 : Int32 → Int32 → gS → Option (Unit × gS)} {r : Unit} {σ' : gS} {v4 : Int32} {v5 : Int32} {s0 : Nat} {s1 : Int32} {σ : gS} (hk5 : ∀ (v3 : Int32) (v4 : Int32) (σ : gS), k5 v3 v4 σ = some (r, σ') → gG E mX1_turnPath 5 [(0, .ref 28), (1, .int p1), (3, .int v3), (4, .int v4)] [] σ (none) σ') (h : fX1_turnPath_77 p1 p2 k5 v4 v5 s0 s1 σ = some (r, σ')) : gG E mX1_turnPath 77 [(0, .ref 28), (1, .int p1), (4, .int v4), (5, .int v5)] [.int s1, .ref s0] σ (none) σ' := by
  unfold fX1_turnPath_77 at h
  refine g_ldc (v := (-1000000)) dX1_turnPath_77 wc_RX1_39 ?_
  obtain ⟨g1, h⟩ := gg_some h
  obtain ⟨g2, h⟩ := gg_some h
  obtain ⟨σ3, eσ3, h⟩ := bnd_nm h
  refine g_iast dX1_turnPath_79 (gi_ldv g1) g2 (g_st eσ3 ?_)
  refine g_iload dX1_turnPath_80 3 rfl ?_
  refine g_istore_n (lv' := [(3, .int v5), (0, .ref 28), (1, .int p1), (4, .int v4), (5, .int v5)]) dX1_turnPath_82 rfl (Nat.le_of_ble_eq_true rfl) rfl ?_
  obtain ⟨x4, ex4, h⟩ := bnd_nm h
  refine g_iinc (j := 3) (v := x4) (lv' := [(4, .int x4), (3, .int v5), (0, .ref 28), (1, .int p1), (5, .int v5)]) dX1_turnPath_83 rfl (by rw [ex4]; rfl) (Nat.le_of_ble_eq_true rfl) rfl ?_
  refine g_goto (t := 5) dX1_turnPath_86 (by decide) ?_
  refine g_sub [2, 3, 1, 0] rfl ?_
  exact hk5 v5 x4 σ3 h
def fX1_turnPath_49 (p1 : Int32) (p2 : Int32) (k5 : Int32 → Int32 → gS → Option (Unit × gS)) (v3 : Int32) (v4 : Int32) (v5 : Int32) (s0 : Nat) (s1 : Int32) (σ : gS) : Option (Unit × gS) :=
  gg (30 ≤ s0 ∧ s0 < 54) (
  gg (¬ (s1 < 0 ∨ 2 ≤ s1.toNatClampNeg)) (
  bnd (gsI σ s0 s1.toNatClampNeg v5) fun σ3 =>
  gg (¬ (v5 < 0 ∨ 24 ≤ v5.toNatClampNeg)) (
  gg (¬ (v5 < 0 ∨ 24 ≤ v5.toNatClampNeg)) (
  if (σ3.1 (30 + 1 * v5.toNatClampNeg) ((0 : Int32).toNatClampNeg)) = v3 then
    fX1_turnPath_77 p1 p2 k5 v4 v5 (30 + 1 * v5.toNatClampNeg) 0 σ3
  else
    fX1_turnPath_77 p1 p2 k5 v4 v5 (30 + 1 * v5.toNatClampNeg) 1 σ3))))
set_option maxHeartbeats 4000000 in
set_option maxRecDepth 100000 in
theorem pX1_turnPath_49 {E : gE} {p1 : Int32} {p2 : Int32} {k5 : Int32 → Int32 → gS → Option (Unit × gS)} {r : Unit} {σ' : gS} {v3 : Int32} {v4 : Int32} {v5 : Int32} {s0 : Nat} {s1 : Int32} {σ : gS} (hk5 : ∀ (v3 : Int32) (v4 : Int32) (σ : gS), k5 v3 v4 σ = some (r, σ') → gG E mX1_turnPath 5 [(0, .ref 28), (1, .int p1), (3, .int v3), (4, .int v4)] [] σ (none) σ') (h : fX1_turnPath_49 p1 p2 k5 v3 v4 v5 s0 s1 σ = some (r, σ')) : gG E mX1_turnPath 49 [(0, .ref 28), (1, .int p1), (3, .int v3), (4, .int v4), (5, .int v5)] [.int s1, .ref s0] σ (none) σ' := by
  unfold fX1_turnPath_49 at h
  refine g_iload dX1_turnPath_49 4 rfl ?_
  obtain ⟨g1, h⟩ := gg_some h
  obtain ⟨g2, h⟩ := gg_some h
  obtain ⟨σ3, eσ3, h⟩ := bnd_nm h
  refine g_iast dX1_turnPath_51 (gi_ldv g1) g2 (g_st eσ3 ?_)
  refine g_aload_n dX1_turnPath_52 rfl 0 rfl ?_
  refine g_getC (n := 29) dX1_turnPath_53 gi_28 rfl fl_RX1_11 ?_
  refine g_iload dX1_turnPath_56 4 rfl ?_
  obtain ⟨g4, h⟩ := gg_some h
  refine g_aaldA dX1_turnPath_58 gi_29 g4 ?_
  refine g_topr (y := (30 + 1 * v5.toNatClampNeg)) rfl ?_
  refine g_aload_n dX1_turnPath_59 rfl 0 rfl ?_
  refine g_getC (n := 29) dX1_turnPath_60 gi_28 rfl fl_RX1_11 ?_
  refine g_iload dX1_turnPath_63 4 rfl ?_
  obtain ⟨g5, h⟩ := gg_some h
  refine g_aaldA dX1_turnPath_65 gi_29 g5 ?_
  refine g_topr (y := (30 + 1 * v5.toNatClampNeg)) rfl ?_
  refine g_iconst (v := 0) dX1_turnPath_66 (by decide) ?_
  refine g_iald dX1_turnPath_67 (gi_ld (vp_lt g5)) (by unfold vp_in; decide) ?_
  refine g_iload_n dX1_turnPath_68 rfl 2 rfl ?_
  refine g_icmp_ne (t := 76) dX1_turnPath_69 (by decide) (fun c6 => ?_) (fun c6 => ?_)
  · replace h := if_f h c6
    refine g_iconst (v := 1) dX1_turnPath_76 (by decide) ?_
    refine g_sub [0, 1, 3, 4] rfl ?_
    exact pX1_turnPath_77 hk5 h
  · replace h := if_t h c6
    refine g_iconst (v := 0) dX1_turnPath_72 (by decide) ?_
    refine g_goto (t := 77) dX1_turnPath_73 (by decide) ?_
    refine g_sub [0, 1, 3, 4] rfl ?_
    exact pX1_turnPath_77 hk5 h
def fX1_turnPath_89 (p1 : Int32) (p2 : Int32) (σ : gS) : Option (Unit × gS) :=
  some ((), σ)
set_option maxHeartbeats 4000000 in
set_option maxRecDepth 100000 in
theorem pX1_turnPath_89 {E : gE} {p1 : Int32} {p2 : Int32} {r : Unit} {σ' : gS} {σ : gS} (h : fX1_turnPath_89 p1 p2 σ = some (r, σ')) : gG E mX1_turnPath 89 [] [] σ (none) σ' := by
  unfold fX1_turnPath_89 at h
  obtain ⟨rfl, rfl⟩ := so_inj h
  exact g_vret dX1_turnPath_89 rfl
def fX1_turnPath_5 (p1 : Int32) (p2 : Int32) : Nat → Int32 → Int32 → gS → Option (Unit × gS)
  | 0, _, _, _ => none
  | n + 1, v3, v4, σ => if 24 ≤ v4 then
    fX1_turnPath_89 p1 p2 σ
  else
    if v3 = p1 then
      fX1_turnPath_89 p1 p2 σ
    else
      gg (¬ (v3 < 0 ∨ 24 ≤ v3.toNatClampNeg)) (
      gg (¬ (v3 < 0 ∨ 24 ≤ v3.toNatClampNeg)) (
      gg (¬ (v3 < 0 ∨ 24 ≤ v3.toNatClampNeg)) (
      if (σ.1 (30 + 1 * v3.toNatClampNeg) ((0 : Int32).toNatClampNeg)) = (-1000000) then
        fX1_turnPath_49 p1 p2 (fun v3 v4 σ => fX1_turnPath_5 p1 p2 n v3 v4 σ) v3 v4 (σ.1 54 v3.toNatClampNeg) (30 + 1 * v3.toNatClampNeg) 0 σ
      else
        fX1_turnPath_49 p1 p2 (fun v3 v4 σ => fX1_turnPath_5 p1 p2 n v3 v4 σ) v3 v4 (σ.1 54 v3.toNatClampNeg) (30 + 1 * v3.toNatClampNeg) 1 σ)))
set_option maxHeartbeats 4000000 in
set_option maxRecDepth 100000 in
theorem pX1_turnPath_5 {E : gE} {p1 : Int32} {p2 : Int32} {r : Unit} {σ' : gS} : ∀ (n : Nat) (v3 : Int32) (v4 : Int32) (σ : gS), fX1_turnPath_5 p1 p2 n v3 v4 σ = some (r, σ') → gG E mX1_turnPath 5 [(0, .ref 28), (1, .int p1), (3, .int v3), (4, .int v4)] [] σ (none) σ' := by
  intro n
  induction n with
  | zero => intro v3 v4 σ h; exact absurd (show none = some (r, σ') from h) (by intro q; cases q)
  | succ n ih =>
  intro v3 v4 σ h
  unfold fX1_turnPath_5 at h
  refine g_iload dX1_turnPath_5 3 rfl ?_
  refine g_bipush (v := 24) dX1_turnPath_7 (by decide) ?_
  refine g_icmp_ge (t := 89) dX1_turnPath_9 (by decide) (fun c1 => ?_) (fun c1 => ?_)
  · replace h := if_t h c1
    refine g_sub [] rfl ?_
    exact pX1_turnPath_89 h
  · replace h := if_f h c1
    refine g_iload_n dX1_turnPath_12 rfl 2 rfl ?_
    refine g_iload_n dX1_turnPath_13 rfl 1 rfl ?_
    refine g_icmp_eq (t := 89) dX1_turnPath_14 (by decide) (fun c2 => ?_) (fun c2 => ?_)
    · replace h := if_t h c2
      refine g_sub [] rfl ?_
      exact pX1_turnPath_89 h
    · replace h := if_f h c2
      refine g_aload_n dX1_turnPath_17 rfl 0 rfl ?_
      refine g_getC (n := 54) dX1_turnPath_18 gi_28 rfl fl_RX1_16 ?_
      refine g_iload_n dX1_turnPath_21 rfl 2 rfl ?_
      obtain ⟨g3, h⟩ := gg_some h
      refine g_iald dX1_turnPath_22 gi_54 g3 ?_
      refine g_istore (lv' := [(5, .int (σ.1 54 v3.toNatClampNeg)), (0, .ref 28), (1, .int p1), (3, .int v3), (4, .int v4)]) dX1_turnPath_23 (Nat.le_of_ble_eq_true rfl) rfl ?_
      refine g_aload_n dX1_turnPath_25 rfl 1 rfl ?_
      refine g_getC (n := 29) dX1_turnPath_26 gi_28 rfl fl_RX1_11 ?_
      refine g_iload_n dX1_turnPath_29 rfl 3 rfl ?_
      obtain ⟨g4, h⟩ := gg_some h
      refine g_aaldA dX1_turnPath_30 gi_29 g4 ?_
      refine g_topr (y := (30 + 1 * v3.toNatClampNeg)) rfl ?_
      refine g_aload_n dX1_turnPath_31 rfl 1 rfl ?_
      refine g_getC (n := 29) dX1_turnPath_32 gi_28 rfl fl_RX1_11 ?_
      refine g_iload_n dX1_turnPath_35 rfl 3 rfl ?_
      obtain ⟨g5, h⟩ := gg_some h
      refine g_aaldA dX1_turnPath_36 gi_29 g5 ?_
      refine g_topr (y := (30 + 1 * v3.toNatClampNeg)) rfl ?_
      refine g_iconst (v := 0) dX1_turnPath_37 (by decide) ?_
      refine g_iald dX1_turnPath_38 (gi_ld (vp_lt g5)) (by unfold vp_in; decide) ?_
      refine g_ldc (v := (-1000000)) dX1_turnPath_39 wc_RX1_39 ?_
      refine g_icmp_ne (t := 48) dX1_turnPath_41 (by decide) (fun c6 => ?_) (fun c6 => ?_)
      · replace h := if_f h c6
        refine g_iconst (v := 1) dX1_turnPath_48 (by decide) ?_
        refine g_sub [1, 2, 3, 4, 0] rfl ?_
        exact pX1_turnPath_49 (fun v3 v4 σ h => ih v3 v4 σ h) h
      · replace h := if_t h c6
        refine g_iconst (v := 0) dX1_turnPath_44 (by decide) ?_
        refine g_goto (t := 49) dX1_turnPath_45 (by decide) ?_
        refine g_sub [1, 2, 3, 4, 0] rfl ?_
        exact pX1_turnPath_49 (fun v3 v4 σ h => ih v3 v4 σ h) h
def fX1_turnPath (p1 : Int32) (p2 : Int32) (σ : gS) : Option (Unit × gS) :=
  fX1_turnPath_5 p1 p2 2000 p2 0 σ
set_option maxHeartbeats 4000000 in
set_option maxRecDepth 100000 in
theorem pX1_turnPath {E : gE} {p1 : Int32} {p2 : Int32} {r : Unit} {σ' : gS} {σ : gS} (h : fX1_turnPath p1 p2 σ = some (r, σ')) : gG E mX1_turnPath 0 [(0, .ref 28), (1, .int p1), (2, .int p2)] [] σ (none) σ' := by
  unfold fX1_turnPath at h
  refine g_iload_n dX1_turnPath_0 rfl 2 rfl ?_
  refine g_istore_n (lv' := [(3, .int p2), (0, .ref 28), (1, .int p1), (2, .int p2)]) dX1_turnPath_1 rfl (Nat.le_of_ble_eq_true rfl) rfl ?_
  refine g_iconst (v := 0) dX1_turnPath_2 (by decide) ?_
  refine g_istore (lv' := [(4, .int 0), (3, .int p2), (0, .ref 28), (1, .int p1), (2, .int p2)]) dX1_turnPath_3 (Nat.le_of_ble_eq_true rfl) rfl ?_
  refine g_sub [2, 3, 1, 0] rfl ?_
  exact pX1_turnPath_5 2000 p2 0 σ h
theorem zX1_turnPath {E : gE} {p1 : Int32} {p2 : Int32} {r : Unit} {σ σ' : gS} (h : fX1_turnPath p1 p2 σ = some (r, σ')) : gC E mX1_turnPath [.ref 28, .int p1, .int p2] σ (none) σ' :=
  gC_of (by decide +kernel) rfl (Nat.le_of_ble_eq_true rfl) (pX1_turnPath h)
theorem fl_RX1_20 : gFl RX1 20 1 2 := ⟨RX1, TX1, 10, rfl, by decide, ux_1, Or.inl (gm 290 (by decide +kernel) rfl)⟩
def mX1_fetch : gM := (yX1_fetch, cX1_fetch, RX1, 7, none, 1, 25)
theorem dX1_fetch_0 : decode mX1_fetch.2.1 0 = .ok (.aload_n 0, 1) := by decide +kernel
theorem dX1_fetch_1 : decode mX1_fetch.2.1 1 = .ok (.getfield 16, 3) := by decide +kernel
theorem dX1_fetch_4 : decode mX1_fetch.2.1 4 = .ok (.ldc 39, 2) := by decide +kernel
theorem dX1_fetch_6 : decode mX1_fetch.2.1 6 = .ok (.invokestatic 40, 3) := by decide +kernel
theorem dX1_fetch_9 : decode mX1_fetch.2.1 9 = .ok (.aload_n 0, 1) := by decide +kernel
theorem dX1_fetch_10 : decode mX1_fetch.2.1 10 = .ok (.getfield 16, 3) := by decide +kernel
theorem dX1_fetch_13 : decode mX1_fetch.2.1 13 = .ok (.iload_n 1, 1) := by decide +kernel
theorem dX1_fetch_14 : decode mX1_fetch.2.1 14 = .ok (.iload_n 1, 1) := by decide +kernel
theorem dX1_fetch_15 : decode mX1_fetch.2.1 15 = .ok (.iastore, 1) := by decide +kernel
theorem dX1_fetch_16 : decode mX1_fetch.2.1 16 = .ok (.aload_n 0, 1) := by decide +kernel
theorem dX1_fetch_17 : decode mX1_fetch.2.1 17 = .ok (.getfield 16, 3) := by decide +kernel
theorem dX1_fetch_20 : decode mX1_fetch.2.1 20 = .ok (.iload_n 2, 1) := by decide +kernel
theorem dX1_fetch_21 : decode mX1_fetch.2.1 21 = .ok (.iload_n 2, 1) := by decide +kernel
theorem dX1_fetch_22 : decode mX1_fetch.2.1 22 = .ok (.iastore, 1) := by decide +kernel
theorem dX1_fetch_23 : decode mX1_fetch.2.1 23 = .ok (.aload_n 0, 1) := by decide +kernel
theorem dX1_fetch_24 : decode mX1_fetch.2.1 24 = .ok (.getfield 20, 3) := by decide +kernel
theorem dX1_fetch_27 : decode mX1_fetch.2.1 27 = .ok (.iconst 0, 1) := by decide +kernel
theorem dX1_fetch_28 : decode mX1_fetch.2.1 28 = .ok (.iload_n 1, 1) := by decide +kernel
theorem dX1_fetch_29 : decode mX1_fetch.2.1 29 = .ok (.iastore, 1) := by decide +kernel
theorem dX1_fetch_30 : decode mX1_fetch.2.1 30 = .ok (.iconst 1, 1) := by decide +kernel
theorem dX1_fetch_31 : decode mX1_fetch.2.1 31 = .ok (.istore_n 3, 1) := by decide +kernel
theorem dX1_fetch_32 : decode mX1_fetch.2.1 32 = .ok (.iconst 0, 1) := by decide +kernel
theorem dX1_fetch_33 : decode mX1_fetch.2.1 33 = .ok (.istore 4, 2) := by decide +kernel
theorem dX1_fetch_35 : decode mX1_fetch.2.1 35 = .ok (.iload 4, 2) := by decide +kernel
theorem dX1_fetch_37 : decode mX1_fetch.2.1 37 = .ok (.iload_n 3, 1) := by decide +kernel
theorem dX1_fetch_38 : decode mX1_fetch.2.1 38 = .ok (.if_icmp .ge 112, 3) := by decide +kernel
theorem dX1_fetch_41 : decode mX1_fetch.2.1 41 = .ok (.iload 4, 2) := by decide +kernel
theorem dX1_fetch_43 : decode mX1_fetch.2.1 43 = .ok (.bipush 24, 2) := by decide +kernel
theorem dX1_fetch_45 : decode mX1_fetch.2.1 45 = .ok (.if_icmp .ge 105, 3) := by decide +kernel
theorem dX1_fetch_48 : decode mX1_fetch.2.1 48 = .ok (.iconst 0, 1) := by decide +kernel
theorem dX1_fetch_49 : decode mX1_fetch.2.1 49 = .ok (.istore 5, 2) := by decide +kernel
theorem dX1_fetch_51 : decode mX1_fetch.2.1 51 = .ok (.iload 5, 2) := by decide +kernel
theorem dX1_fetch_53 : decode mX1_fetch.2.1 53 = .ok (.iconst 2, 1) := by decide +kernel
theorem dX1_fetch_54 : decode mX1_fetch.2.1 54 = .ok (.if_icmp .ge 90, 3) := by decide +kernel
theorem dX1_fetch_57 : decode mX1_fetch.2.1 57 = .ok (.aload_n 0, 1) := by decide +kernel
theorem dX1_fetch_58 : decode mX1_fetch.2.1 58 = .ok (.getfield 11, 3) := by decide +kernel
theorem dX1_fetch_61 : decode mX1_fetch.2.1 61 = .ok (.aload_n 0, 1) := by decide +kernel
theorem dX1_fetch_62 : decode mX1_fetch.2.1 62 = .ok (.getfield 20, 3) := by decide +kernel
theorem dX1_fetch_65 : decode mX1_fetch.2.1 65 = .ok (.iload 4, 2) := by decide +kernel
theorem dX1_fetch_67 : decode mX1_fetch.2.1 67 = .ok (.iaload, 1) := by decide +kernel
theorem dX1_fetch_68 : decode mX1_fetch.2.1 68 = .ok (.aaload, 1) := by decide +kernel
theorem dX1_fetch_69 : decode mX1_fetch.2.1 69 = .ok (.iload 5, 2) := by decide +kernel
theorem dX1_fetch_71 : decode mX1_fetch.2.1 71 = .ok (.iaload, 1) := by decide +kernel
theorem dX1_fetch_72 : decode mX1_fetch.2.1 72 = .ok (.istore 6, 2) := by decide +kernel
theorem dX1_fetch_74 : decode mX1_fetch.2.1 74 = .ok (.iload 6, 2) := by decide +kernel
theorem dX1_fetch_76 : decode mX1_fetch.2.1 76 = .ok (.ldc 39, 2) := by decide +kernel
theorem dX1_fetch_78 : decode mX1_fetch.2.1 78 = .ok (.if_icmp .eq 60, 3) := by decide +kernel
theorem dX1_fetch_81 : decode mX1_fetch.2.1 81 = .ok (.aload_n 0, 1) := by decide +kernel
theorem dX1_fetch_82 : decode mX1_fetch.2.1 82 = .ok (.getfield 16, 3) := by decide +kernel
theorem dX1_fetch_85 : decode mX1_fetch.2.1 85 = .ok (.iload 6, 2) := by decide +kernel
theorem dX1_fetch_87 : decode mX1_fetch.2.1 87 = .ok (.iaload, 1) := by decide +kernel
theorem dX1_fetch_88 : decode mX1_fetch.2.1 88 = .ok (.ldc 39, 2) := by decide +kernel
theorem dX1_fetch_90 : decode mX1_fetch.2.1 90 = .ok (.if_icmp .eq 6, 3) := by decide +kernel
theorem dX1_fetch_93 : decode mX1_fetch.2.1 93 = .ok (.goto 45, 3) := by decide +kernel
theorem dX1_fetch_96 : decode mX1_fetch.2.1 96 = .ok (.aload_n 0, 1) := by decide +kernel
theorem dX1_fetch_97 : decode mX1_fetch.2.1 97 = .ok (.getfield 16, 3) := by decide +kernel
theorem dX1_fetch_100 : decode mX1_fetch.2.1 100 = .ok (.iload 6, 2) := by decide +kernel
theorem dX1_fetch_102 : decode mX1_fetch.2.1 102 = .ok (.aload_n 0, 1) := by decide +kernel
theorem dX1_fetch_103 : decode mX1_fetch.2.1 103 = .ok (.getfield 20, 3) := by decide +kernel
theorem dX1_fetch_106 : decode mX1_fetch.2.1 106 = .ok (.iload 4, 2) := by decide +kernel
theorem dX1_fetch_108 : decode mX1_fetch.2.1 108 = .ok (.iaload, 1) := by decide +kernel
theorem dX1_fetch_109 : decode mX1_fetch.2.1 109 = .ok (.iastore, 1) := by decide +kernel
theorem dX1_fetch_110 : decode mX1_fetch.2.1 110 = .ok (.aload_n 0, 1) := by decide +kernel
theorem dX1_fetch_111 : decode mX1_fetch.2.1 111 = .ok (.iload 6, 2) := by decide +kernel
theorem dX1_fetch_113 : decode mX1_fetch.2.1 113 = .ok (.invokevirtual 85, 3) := by decide +kernel
theorem dX1_fetch_116 : decode mX1_fetch.2.1 116 = .ok (.ifCond .le 11, 3) := by decide +kernel
theorem dX1_fetch_119 : decode mX1_fetch.2.1 119 = .ok (.aload_n 0, 1) := by decide +kernel
theorem dX1_fetch_120 : decode mX1_fetch.2.1 120 = .ok (.iload_n 1, 1) := by decide +kernel
theorem dX1_fetch_121 : decode mX1_fetch.2.1 121 = .ok (.iload 6, 2) := by decide +kernel
theorem dX1_fetch_123 : decode mX1_fetch.2.1 123 = .ok (.invokevirtual 92, 3) := by decide +kernel
theorem dX1_fetch_126 : decode mX1_fetch.2.1 126 = .ok (.return_, 1) := by decide +kernel
theorem dX1_fetch_127 : decode mX1_fetch.2.1 127 = .ok (.aload_n 0, 1) := by decide +kernel
theorem dX1_fetch_128 : decode mX1_fetch.2.1 128 = .ok (.getfield 20, 3) := by decide +kernel
theorem dX1_fetch_131 : decode mX1_fetch.2.1 131 = .ok (.iload_n 3, 1) := by decide +kernel
theorem dX1_fetch_132 : decode mX1_fetch.2.1 132 = .ok (.iload 6, 2) := by decide +kernel
theorem dX1_fetch_134 : decode mX1_fetch.2.1 134 = .ok (.iastore, 1) := by decide +kernel
theorem dX1_fetch_135 : decode mX1_fetch.2.1 135 = .ok (.iinc 3 1, 3) := by decide +kernel
theorem dX1_fetch_138 : decode mX1_fetch.2.1 138 = .ok (.iinc 5 1, 3) := by decide +kernel
theorem dX1_fetch_141 : decode mX1_fetch.2.1 141 = .ok (.goto (-90), 3) := by decide +kernel
theorem dX1_fetch_144 : decode mX1_fetch.2.1 144 = .ok (.iinc 4 1, 3) := by decide +kernel
theorem dX1_fetch_147 : decode mX1_fetch.2.1 147 = .ok (.goto (-112), 3) := by decide +kernel
theorem dX1_fetch_150 : decode mX1_fetch.2.1 150 = .ok (.return_, 1) := by decide +kernel
theorem okX1_fetch_85 : gOkV mX1_fetch mX1_freePebbles 85 1 := ⟨List.forall_mem_cons.mpr ⟨(gm 756 (by decide +kernel) rfl), List.forall_mem_cons.mpr ⟨(gm 753 (by decide +kernel) rfl), List.forall_mem_cons.mpr ⟨(gm 755 (by decide +kernel) rfl), List.forall_mem_cons.mpr ⟨(gm 24 (by decide +kernel) rfl), List.forall_mem_cons.mpr ⟨(gm 114 (by decide +kernel) rfl), fun _ h => absurd h List.not_mem_nil⟩⟩⟩⟩⟩, by decide +kernel, by decide +kernel, by decide +kernel⟩
theorem okX1_fetch_92 : gOkV mX1_fetch mX1_turnPath 92 2 := ⟨List.forall_mem_cons.mpr ⟨(gm 764 (by decide +kernel) rfl), List.forall_mem_cons.mpr ⟨(gm 761 (by decide +kernel) rfl), List.forall_mem_cons.mpr ⟨(gm 763 (by decide +kernel) rfl), List.forall_mem_cons.mpr ⟨(gm 26 (by decide +kernel) rfl), List.forall_mem_cons.mpr ⟨(gm 114 (by decide +kernel) rfl), fun _ h => absurd h List.not_mem_nil⟩⟩⟩⟩⟩, by decide +kernel, by decide +kernel, by decide +kernel⟩
theorem okX1_fetch_40 : gOkS mX1_fetch mJ7_fill_53178 40 2 := ⟨List.forall_mem_cons.mpr ⟨(gm 587 (by decide +kernel) rfl), List.forall_mem_cons.mpr ⟨(gm 739 (by decide +kernel) rfl), List.forall_mem_cons.mpr ⟨(gm 586 (by decide +kernel) rfl), List.forall_mem_cons.mpr ⟨(gm 123 (by decide +kernel) rfl), fun _ h => absurd h List.not_mem_nil⟩⟩⟩⟩, by decide +kernel, by decide +kernel, by decide +kernel⟩
def fX1_fetch_138 (p1 : Int32) (p2 : Int32) (k35 : Int32 → Int32 → gS → Option (Unit × gS)) (k51 : Int32 → Int32 → Int32 → gS → Option (Unit × gS)) (v3 : Int32) (v4 : Int32) (v5 : Int32) (σ : gS) : Option (Unit × gS) :=
  bnd (v5 + 1) fun x1 =>
  k51 v3 v4 x1 σ
set_option maxHeartbeats 4000000 in
set_option maxRecDepth 100000 in
theorem pX1_fetch_138 {E : gE} {p1 : Int32} {p2 : Int32} {k35 : Int32 → Int32 → gS → Option (Unit × gS)} {k51 : Int32 → Int32 → Int32 → gS → Option (Unit × gS)} {r : Unit} {σ' : gS} {v3 : Int32} {v4 : Int32} {v5 : Int32} {σ : gS} (hk35 : ∀ (v3 : Int32) (v4 : Int32) (σ : gS), k35 v3 v4 σ = some (r, σ') → gG E mX1_fetch 35 [(0, .ref 28), (1, .int p1), (3, .int v3), (4, .int v4)] [] σ (none) σ') (hk51 : ∀ (v3 : Int32) (v4 : Int32) (v5 : Int32) (σ : gS), k51 v3 v4 v5 σ = some (r, σ') → gG E mX1_fetch 51 [(0, .ref 28), (1, .int p1), (3, .int v3), (4, .int v4), (5, .int v5)] [] σ (none) σ') (h : fX1_fetch_138 p1 p2 k35 k51 v3 v4 v5 σ = some (r, σ')) : gG E mX1_fetch 138 [(0, .ref 28), (1, .int p1), (3, .int v3), (4, .int v4), (5, .int v5)] [] σ (none) σ' := by
  unfold fX1_fetch_138 at h
  obtain ⟨x1, ex1, h⟩ := bnd_nm h
  refine g_iinc (j := 4) (v := x1) (lv' := [(5, .int x1), (0, .ref 28), (1, .int p1), (3, .int v3), (4, .int v4)]) dX1_fetch_138 rfl (by rw [ex1]; rfl) (Nat.le_of_ble_eq_true rfl) rfl ?_
  refine g_goto (t := 51) dX1_fetch_141 (by decide) ?_
  refine g_sub [1, 2, 3, 4, 0] rfl ?_
  exact hk51 v3 v4 x1 σ h
def fX1_fetch_51 (p1 : Int32) (p2 : Int32) (k35 : Int32 → Int32 → gS → Option (Unit × gS)) : Nat → Int32 → Int32 → Int32 → gS → Option (Unit × gS)
  | 0, _, _, _, _ => none
  | n + 1, v3, v4, v5, σ => if 2 ≤ v5 then
    bnd (v4 + 1) fun x2 =>
    k35 v3 x2 σ
  else
    gg (¬ (v4 < 0 ∨ 24 ≤ v4.toNatClampNeg)) (
    gg (¬ (σ.1 55 v4.toNatClampNeg < 0 ∨ 24 ≤ (σ.1 55 v4.toNatClampNeg).toNatClampNeg)) (
    gg (¬ (v5 < 0 ∨ 2 ≤ v5.toNatClampNeg)) (
    if (σ.1 (30 + 1 * (σ.1 55 v4.toNatClampNeg).toNatClampNeg) v5.toNatClampNeg) = (-1000000) then
      fX1_fetch_138 p1 p2 k35 (fun v3 v4 v5 σ => fX1_fetch_51 p1 p2 k35 n v3 v4 v5 σ) v3 v4 v5 σ
    else
      gg (¬ (σ.1 (30 + 1 * (σ.1 55 v4.toNatClampNeg).toNatClampNeg) v5.toNatClampNeg < 0 ∨ 24 ≤ (σ.1 (30 + 1 * (σ.1 55 v4.toNatClampNeg).toNatClampNeg) v5.toNatClampNeg).toNatClampNeg)) (
      if (σ.1 54 ((σ.1 (30 + 1 * (σ.1 55 v4.toNatClampNeg).toNatClampNeg) v5.toNatClampNeg).toNatClampNeg)) = (-1000000) then
        gg (¬ (v4 < 0 ∨ 24 ≤ v4.toNatClampNeg)) (
        gg (¬ (σ.1 (30 + 1 * (σ.1 55 v4.toNatClampNeg).toNatClampNeg) v5.toNatClampNeg < 0 ∨ 24 ≤ (σ.1 (30 + 1 * (σ.1 55 v4.toNatClampNeg).toNatClampNeg) v5.toNatClampNeg).toNatClampNeg)) (
        bnd (gsI σ 54 ((σ.1 (30 + 1 * (σ.1 55 v4.toNatClampNeg).toNatClampNeg) v5.toNatClampNeg).toNatClampNeg) (σ.1 55 v4.toNatClampNeg)) fun σ11 =>
        bd (fX1_freePebbles (σ.1 (30 + 1 * (σ.1 55 v4.toNatClampNeg).toNatClampNeg) v5.toNatClampNeg) σ11) fun x12 σ13 =>
        if x12 ≤ 0 then
          gg (¬ (v3 < 0 ∨ 24 ≤ v3.toNatClampNeg)) (
          bnd (gsI σ13 55 v3.toNatClampNeg (σ.1 (30 + 1 * (σ.1 55 v4.toNatClampNeg).toNatClampNeg) v5.toNatClampNeg)) fun σ17 =>
          bnd (v3 + 1) fun x18 =>
          fX1_fetch_138 p1 p2 k35 (fun v3 v4 v5 σ => fX1_fetch_51 p1 p2 k35 n v3 v4 v5 σ) x18 v4 v5 σ17)
        else
          bd (fX1_turnPath p1 (σ.1 (30 + 1 * (σ.1 55 v4.toNatClampNeg).toNatClampNeg) v5.toNatClampNeg) σ13) fun _ σ19 =>
          some ((), σ19)))
      else
        fX1_fetch_138 p1 p2 k35 (fun v3 v4 v5 σ => fX1_fetch_51 p1 p2 k35 n v3 v4 v5 σ) v3 v4 v5 σ))))
set_option maxHeartbeats 4000000 in
set_option maxRecDepth 100000 in
theorem pX1_fetch_51 {E : gE} {p1 : Int32} {p2 : Int32} {k35 : Int32 → Int32 → gS → Option (Unit × gS)} {r : Unit} {σ' : gS} (hk35 : ∀ (v3 : Int32) (v4 : Int32) (σ : gS), k35 v3 v4 σ = some (r, σ') → gG E mX1_fetch 35 [(0, .ref 28), (1, .int p1), (3, .int v3), (4, .int v4)] [] σ (none) σ') : ∀ (n : Nat) (v3 : Int32) (v4 : Int32) (v5 : Int32) (σ : gS), fX1_fetch_51 p1 p2 k35 n v3 v4 v5 σ = some (r, σ') → gG E mX1_fetch 51 [(0, .ref 28), (1, .int p1), (3, .int v3), (4, .int v4), (5, .int v5)] [] σ (none) σ' := by
  intro n
  induction n with
  | zero => intro v3 v4 v5 σ h; exact absurd (show none = some (r, σ') from h) (by intro q; cases q)
  | succ n ih =>
  intro v3 v4 v5 σ h
  unfold fX1_fetch_51 at h
  refine g_iload dX1_fetch_51 4 rfl ?_
  refine g_iconst (v := 2) dX1_fetch_53 (by decide) ?_
  refine g_icmp_ge (t := 144) dX1_fetch_54 (by decide) (fun c1 => ?_) (fun c1 => ?_)
  · replace h := if_t h c1
    obtain ⟨x2, ex2, h⟩ := bnd_nm h
    refine g_iinc (j := 3) (v := x2) (lv' := [(4, .int x2), (0, .ref 28), (1, .int p1), (3, .int v3), (5, .int v5)]) dX1_fetch_144 rfl (by rw [ex2]; rfl) (Nat.le_of_ble_eq_true rfl) rfl ?_
    refine g_goto (t := 35) dX1_fetch_147 (by decide) ?_
    refine g_sub [1, 2, 3, 0] rfl ?_
    exact hk35 v3 x2 σ h
  · replace h := if_f h c1
    refine g_aload_n dX1_fetch_57 rfl 0 rfl ?_
    refine g_getC (n := 29) dX1_fetch_58 gi_28 rfl fl_RX1_11 ?_
    refine g_aload_n dX1_fetch_61 rfl 0 rfl ?_
    refine g_getC (n := 55) dX1_fetch_62 gi_28 rfl fl_RX1_20 ?_
    refine g_iload dX1_fetch_65 3 rfl ?_
    obtain ⟨g3, h⟩ := gg_some h
    refine g_iald dX1_fetch_67 gi_55 g3 ?_
    obtain ⟨g4, h⟩ := gg_some h
    refine g_aaldA dX1_fetch_68 gi_29 g4 ?_
    refine g_topr (y := (30 + 1 * (σ.1 55 v4.toNatClampNeg).toNatClampNeg)) rfl ?_
    refine g_iload dX1_fetch_69 4 rfl ?_
    obtain ⟨g5, h⟩ := gg_some h
    refine g_iald dX1_fetch_71 (gi_ld (vp_lt g4)) g5 ?_
    refine g_istore (lv' := [(6, .int (σ.1 (30 + 1 * (σ.1 55 v4.toNatClampNeg).toNatClampNeg) v5.toNatClampNeg)), (0, .ref 28), (1, .int p1), (3, .int v3), (4, .int v4), (5, .int v5)]) dX1_fetch_72 (Nat.le_of_ble_eq_true rfl) rfl ?_
    refine g_iload dX1_fetch_74 0 rfl ?_
    refine g_ldc (v := (-1000000)) dX1_fetch_76 wc_RX1_39 ?_
    refine g_icmp_eq (t := 138) dX1_fetch_78 (by decide) (fun c6 => ?_) (fun c6 => ?_)
    · replace h := if_t h c6
      refine g_sub [1, 2, 3, 4, 5] rfl ?_
      exact pX1_fetch_138 hk35 (fun v3 v4 v5 σ h => ih v3 v4 v5 σ h) h
    · replace h := if_f h c6
      refine g_aload_n dX1_fetch_81 rfl 1 rfl ?_
      refine g_getC (n := 54) dX1_fetch_82 gi_28 rfl fl_RX1_16 ?_
      refine g_iload dX1_fetch_85 0 rfl ?_
      obtain ⟨g7, h⟩ := gg_some h
      refine g_iald dX1_fetch_87 gi_54 g7 ?_
      refine g_ldc (v := (-1000000)) dX1_fetch_88 wc_RX1_39 ?_
      refine g_icmp_eq (t := 96) dX1_fetch_90 (by decide) (fun c8 => ?_) (fun c8 => ?_)
      · replace h := if_t h c8
        refine g_aload_n dX1_fetch_96 rfl 1 rfl ?_
        refine g_getC (n := 54) dX1_fetch_97 gi_28 rfl fl_RX1_16 ?_
        refine g_iload dX1_fetch_100 0 rfl ?_
        refine g_aload_n dX1_fetch_102 rfl 1 rfl ?_
        refine g_getC (n := 55) dX1_fetch_103 gi_28 rfl fl_RX1_20 ?_
        refine g_iload dX1_fetch_106 4 rfl ?_
        obtain ⟨g9, h⟩ := gg_some h
        refine g_iald dX1_fetch_108 gi_55 g9 ?_
        obtain ⟨g10, h⟩ := gg_some h
        obtain ⟨σ11, eσ11, h⟩ := bnd_nm h
        refine g_iast dX1_fetch_109 gi_54 g10 (g_st eσ11 ?_)
        refine g_aload_n dX1_fetch_110 rfl 1 rfl ?_
        refine g_iload dX1_fetch_111 0 rfl ?_
        obtain ⟨x12, σ13, y14, h⟩ := bd_some h
        refine g_callVr (as := [.int (σ.1 (30 + 1 * (σ.1 55 v4.toNatClampNeg).toNatClampNeg) v5.toNatClampNeg)]) (st := []) (zX1_freePebbles y14) dX1_fetch_113 gi_28 rfl okX1_fetch_85 (Nat.le_of_ble_eq_true rfl) ?_
        refine g_if_le (t := 127) dX1_fetch_116 (by decide) (fun c15 => ?_) (fun c15 => ?_)
        · replace h := if_t h c15
          refine g_aload_n dX1_fetch_127 rfl 1 rfl ?_
          refine g_getC (n := 55) dX1_fetch_128 gi_28 rfl fl_RX1_20 ?_
          refine g_iload_n dX1_fetch_131 rfl 3 rfl ?_
          refine g_iload dX1_fetch_132 0 rfl ?_
          obtain ⟨g16, h⟩ := gg_some h
          obtain ⟨σ17, eσ17, h⟩ := bnd_nm h
          refine g_iast dX1_fetch_134 gi_55 g16 (g_st eσ17 ?_)
          obtain ⟨x18, ex18, h⟩ := bnd_nm h
          refine g_iinc (j := 3) (v := x18) (lv' := [(3, .int x18), (6, .int (σ.1 (30 + 1 * (σ.1 55 v4.toNatClampNeg).toNatClampNeg) v5.toNatClampNeg)), (0, .ref 28), (1, .int p1), (4, .int v4), (5, .int v5)]) dX1_fetch_135 rfl (by rw [ex18]; rfl) (Nat.le_of_ble_eq_true rfl) rfl ?_
          refine g_sub [2, 3, 0, 4, 5] rfl ?_
          exact pX1_fetch_138 hk35 (fun v3 v4 v5 σ h => ih v3 v4 v5 σ h) h
        · replace h := if_f h c15
          refine g_aload_n dX1_fetch_119 rfl 1 rfl ?_
          refine g_iload_n dX1_fetch_120 rfl 2 rfl ?_
          refine g_iload dX1_fetch_121 0 rfl ?_
          obtain ⟨_, σ19, y20, h⟩ := bd_some h
          refine g_callVv (as := [.int p1, .int (σ.1 (30 + 1 * (σ.1 55 v4.toNatClampNeg).toNatClampNeg) v5.toNatClampNeg)]) (st := []) (zX1_turnPath y20) dX1_fetch_123 gi_28 rfl okX1_fetch_92 (Nat.le_of_ble_eq_true rfl) ?_
          obtain ⟨rfl, rfl⟩ := so_inj h
          exact g_vret dX1_fetch_126 rfl
      · replace h := if_f h c8
        refine g_goto (t := 138) dX1_fetch_93 (by decide) ?_
        refine g_sub [1, 2, 3, 4, 5] rfl ?_
        exact pX1_fetch_138 hk35 (fun v3 v4 v5 σ h => ih v3 v4 v5 σ h) h
def fX1_fetch_150 (p1 : Int32) (p2 : Int32) (σ : gS) : Option (Unit × gS) :=
  some ((), σ)
set_option maxHeartbeats 4000000 in
set_option maxRecDepth 100000 in
theorem pX1_fetch_150 {E : gE} {p1 : Int32} {p2 : Int32} {r : Unit} {σ' : gS} {σ : gS} (h : fX1_fetch_150 p1 p2 σ = some (r, σ')) : gG E mX1_fetch 150 [] [] σ (none) σ' := by
  unfold fX1_fetch_150 at h
  obtain ⟨rfl, rfl⟩ := so_inj h
  exact g_vret dX1_fetch_150 rfl
def fX1_fetch_35 (p1 : Int32) (p2 : Int32) : Nat → Int32 → Int32 → gS → Option (Unit × gS)
  | 0, _, _, _ => none
  | n + 1, v3, v4, σ => if v3 ≤ v4 then
    fX1_fetch_150 p1 p2 σ
  else
    if 24 ≤ v4 then
      fX1_fetch_150 p1 p2 σ
    else
      fX1_fetch_51 p1 p2 (fun v3 v4 σ => fX1_fetch_35 p1 p2 n v3 v4 σ) 2000 v3 v4 0 σ
set_option maxHeartbeats 4000000 in
set_option maxRecDepth 100000 in
theorem pX1_fetch_35 {E : gE} {p1 : Int32} {p2 : Int32} {r : Unit} {σ' : gS} : ∀ (n : Nat) (v3 : Int32) (v4 : Int32) (σ : gS), fX1_fetch_35 p1 p2 n v3 v4 σ = some (r, σ') → gG E mX1_fetch 35 [(0, .ref 28), (1, .int p1), (3, .int v3), (4, .int v4)] [] σ (none) σ' := by
  intro n
  induction n with
  | zero => intro v3 v4 σ h; exact absurd (show none = some (r, σ') from h) (by intro q; cases q)
  | succ n ih =>
  intro v3 v4 σ h
  unfold fX1_fetch_35 at h
  refine g_iload dX1_fetch_35 3 rfl ?_
  refine g_iload_n dX1_fetch_37 rfl 2 rfl ?_
  refine g_icmp_ge (t := 150) dX1_fetch_38 (by decide) (fun c1 => ?_) (fun c1 => ?_)
  · replace h := if_t h c1
    refine g_sub [] rfl ?_
    exact pX1_fetch_150 h
  · replace h := if_f h c1
    refine g_iload dX1_fetch_41 3 rfl ?_
    refine g_bipush (v := 24) dX1_fetch_43 (by decide) ?_
    refine g_icmp_ge (t := 150) dX1_fetch_45 (by decide) (fun c2 => ?_) (fun c2 => ?_)
    · replace h := if_t h c2
      refine g_sub [] rfl ?_
      exact pX1_fetch_150 h
    · replace h := if_f h c2
      refine g_iconst (v := 0) dX1_fetch_48 (by decide) ?_
      refine g_istore (lv' := [(5, .int 0), (0, .ref 28), (1, .int p1), (3, .int v3), (4, .int v4)]) dX1_fetch_49 (Nat.le_of_ble_eq_true rfl) rfl ?_
      refine g_sub [1, 2, 3, 4, 0] rfl ?_
      exact pX1_fetch_51 (fun v3 v4 σ h => ih v3 v4 σ h) 2000 v3 v4 0 σ h
def fX1_fetch (p1 : Int32) (p2 : Int32) (σ : gS) : Option (Unit × gS) :=
  bd (fJ7_fill_53178 54 24 (-1000000) σ) fun _ σ1 =>
  gg (¬ (p1 < 0 ∨ 24 ≤ p1.toNatClampNeg)) (
  bnd (gsI σ1 54 p1.toNatClampNeg p1) fun σ4 =>
  gg (¬ (p2 < 0 ∨ 24 ≤ p2.toNatClampNeg)) (
  bnd (gsI σ4 54 p2.toNatClampNeg p2) fun σ6 =>
  bnd (gsI σ6 55 ((0 : Int32).toNatClampNeg) p1) fun σ7 =>
  fX1_fetch_35 p1 p2 2000 1 0 σ7))
set_option maxHeartbeats 4000000 in
set_option maxRecDepth 100000 in
theorem pX1_fetch {E : gE} {p1 : Int32} {p2 : Int32} {r : Unit} {σ' : gS} {σ : gS} (h : fX1_fetch p1 p2 σ = some (r, σ')) : gG E mX1_fetch 0 [(0, .ref 28), (1, .int p1), (2, .int p2)] [] σ (none) σ' := by
  unfold fX1_fetch at h
  refine g_aload_n dX1_fetch_0 rfl 0 rfl ?_
  refine g_getC (n := 54) dX1_fetch_1 gi_28 rfl fl_RX1_16 ?_
  refine g_ldc (v := (-1000000)) dX1_fetch_4 wc_RX1_39 ?_
  obtain ⟨_, σ1, y2, h⟩ := bd_some h
  refine g_callSv (as := [.ref 54, .int (-1000000)]) (st := []) (zJ7_fill_53178 gi_54 (by decide) y2) dX1_fetch_6 okX1_fetch_40 (Nat.le_of_ble_eq_true rfl) ?_
  refine g_aload_n dX1_fetch_9 rfl 0 rfl ?_
  refine g_getC (n := 54) dX1_fetch_10 gi_28 rfl fl_RX1_16 ?_
  refine g_iload_n dX1_fetch_13 rfl 1 rfl ?_
  refine g_iload_n dX1_fetch_14 rfl 1 rfl ?_
  obtain ⟨g3, h⟩ := gg_some h
  obtain ⟨σ4, eσ4, h⟩ := bnd_nm h
  refine g_iast dX1_fetch_15 gi_54 g3 (g_st eσ4 ?_)
  refine g_aload_n dX1_fetch_16 rfl 0 rfl ?_
  refine g_getC (n := 54) dX1_fetch_17 gi_28 rfl fl_RX1_16 ?_
  refine g_iload_n dX1_fetch_20 rfl 2 rfl ?_
  refine g_iload_n dX1_fetch_21 rfl 2 rfl ?_
  obtain ⟨g5, h⟩ := gg_some h
  obtain ⟨σ6, eσ6, h⟩ := bnd_nm h
  refine g_iast dX1_fetch_22 gi_54 g5 (g_st eσ6 ?_)
  refine g_aload_n dX1_fetch_23 rfl 0 rfl ?_
  refine g_getC (n := 55) dX1_fetch_24 gi_28 rfl fl_RX1_20 ?_
  refine g_iconst (v := 0) dX1_fetch_27 (by decide) ?_
  refine g_iload_n dX1_fetch_28 rfl 1 rfl ?_
  obtain ⟨σ7, eσ7, h⟩ := bnd_nm h
  refine g_iast dX1_fetch_29 gi_55 (by unfold vp_in; decide) (g_st eσ7 ?_)
  refine g_iconst (v := 1) dX1_fetch_30 (by decide) ?_
  refine g_istore_n (lv' := [(3, .int 1), (0, .ref 28), (1, .int p1), (2, .int p2)]) dX1_fetch_31 rfl (Nat.le_of_ble_eq_true rfl) rfl ?_
  refine g_iconst (v := 0) dX1_fetch_32 (by decide) ?_
  refine g_istore (lv' := [(4, .int 0), (3, .int 1), (0, .ref 28), (1, .int p1), (2, .int p2)]) dX1_fetch_33 (Nat.le_of_ble_eq_true rfl) rfl ?_
  refine g_sub [2, 3, 1, 0] rfl ?_
  exact pX1_fetch_35 2000 1 0 σ7 h
theorem zX1_fetch {E : gE} {p1 : Int32} {p2 : Int32} {r : Unit} {σ σ' : gS} (h : fX1_fetch p1 p2 σ = some (r, σ')) : gC E mX1_fetch [.ref 28, .int p1, .int p2] σ (none) σ' :=
  gC_of (by decide +kernel) rfl (Nat.le_of_ble_eq_true rfl) (pX1_fetch h)
def mX1_wouldBeNeeded : gM := (yX1_wouldBeNeeded, cX1_wouldBeNeeded, RX1, 4, (some .boolean), 2, 51)
theorem dX1_wouldBeNeeded_0 : decode mX1_wouldBeNeeded.2.1 0 = .ok (.iconst 0, 1) := by decide +kernel
theorem dX1_wouldBeNeeded_1 : decode mX1_wouldBeNeeded.2.1 1 = .ok (.istore_n 3, 1) := by decide +kernel
theorem dX1_wouldBeNeeded_2 : decode mX1_wouldBeNeeded.2.1 2 = .ok (.iload_n 3, 1) := by decide +kernel
theorem dX1_wouldBeNeeded_3 : decode mX1_wouldBeNeeded.2.1 3 = .ok (.iconst 2, 1) := by decide +kernel
theorem dX1_wouldBeNeeded_4 : decode mX1_wouldBeNeeded.2.1 4 = .ok (.if_icmp .ge 24, 3) := by decide +kernel
theorem dX1_wouldBeNeeded_7 : decode mX1_wouldBeNeeded.2.1 7 = .ok (.aload_n 0, 1) := by decide +kernel
theorem dX1_wouldBeNeeded_8 : decode mX1_wouldBeNeeded.2.1 8 = .ok (.iload_n 1, 1) := by decide +kernel
theorem dX1_wouldBeNeeded_9 : decode mX1_wouldBeNeeded.2.1 9 = .ok (.invokevirtual 85, 3) := by decide +kernel
theorem dX1_wouldBeNeeded_12 : decode mX1_wouldBeNeeded.2.1 12 = .ok (.iconst 2, 1) := by decide +kernel
theorem dX1_wouldBeNeeded_13 : decode mX1_wouldBeNeeded.2.1 13 = .ok (.if_icmp .ge 15, 3) := by decide +kernel
theorem dX1_wouldBeNeeded_16 : decode mX1_wouldBeNeeded.2.1 16 = .ok (.aload_n 0, 1) := by decide +kernel
theorem dX1_wouldBeNeeded_17 : decode mX1_wouldBeNeeded.2.1 17 = .ok (.iload_n 1, 1) := by decide +kernel
theorem dX1_wouldBeNeeded_18 : decode mX1_wouldBeNeeded.2.1 18 = .ok (.iload_n 1, 1) := by decide +kernel
theorem dX1_wouldBeNeeded_19 : decode mX1_wouldBeNeeded.2.1 19 = .ok (.invokevirtual 88, 3) := by decide +kernel
theorem dX1_wouldBeNeeded_22 : decode mX1_wouldBeNeeded.2.1 22 = .ok (.iinc 3 1, 3) := by decide +kernel
theorem dX1_wouldBeNeeded_25 : decode mX1_wouldBeNeeded.2.1 25 = .ok (.goto (-23), 3) := by decide +kernel
theorem dX1_wouldBeNeeded_28 : decode mX1_wouldBeNeeded.2.1 28 = .ok (.iconst 0, 1) := by decide +kernel
theorem dX1_wouldBeNeeded_29 : decode mX1_wouldBeNeeded.2.1 29 = .ok (.istore_n 3, 1) := by decide +kernel
theorem dX1_wouldBeNeeded_30 : decode mX1_wouldBeNeeded.2.1 30 = .ok (.iload_n 3, 1) := by decide +kernel
theorem dX1_wouldBeNeeded_31 : decode mX1_wouldBeNeeded.2.1 31 = .ok (.iconst 2, 1) := by decide +kernel
theorem dX1_wouldBeNeeded_32 : decode mX1_wouldBeNeeded.2.1 32 = .ok (.if_icmp .ge 24, 3) := by decide +kernel
theorem dX1_wouldBeNeeded_35 : decode mX1_wouldBeNeeded.2.1 35 = .ok (.aload_n 0, 1) := by decide +kernel
theorem dX1_wouldBeNeeded_36 : decode mX1_wouldBeNeeded.2.1 36 = .ok (.iload_n 2, 1) := by decide +kernel
theorem dX1_wouldBeNeeded_37 : decode mX1_wouldBeNeeded.2.1 37 = .ok (.invokevirtual 85, 3) := by decide +kernel
theorem dX1_wouldBeNeeded_40 : decode mX1_wouldBeNeeded.2.1 40 = .ok (.iconst 2, 1) := by decide +kernel
theorem dX1_wouldBeNeeded_41 : decode mX1_wouldBeNeeded.2.1 41 = .ok (.if_icmp .ge 15, 3) := by decide +kernel
theorem dX1_wouldBeNeeded_44 : decode mX1_wouldBeNeeded.2.1 44 = .ok (.aload_n 0, 1) := by decide +kernel
theorem dX1_wouldBeNeeded_45 : decode mX1_wouldBeNeeded.2.1 45 = .ok (.iload_n 2, 1) := by decide +kernel
theorem dX1_wouldBeNeeded_46 : decode mX1_wouldBeNeeded.2.1 46 = .ok (.iload_n 1, 1) := by decide +kernel
theorem dX1_wouldBeNeeded_47 : decode mX1_wouldBeNeeded.2.1 47 = .ok (.invokevirtual 88, 3) := by decide +kernel
theorem dX1_wouldBeNeeded_50 : decode mX1_wouldBeNeeded.2.1 50 = .ok (.iinc 3 1, 3) := by decide +kernel
theorem dX1_wouldBeNeeded_53 : decode mX1_wouldBeNeeded.2.1 53 = .ok (.goto (-23), 3) := by decide +kernel
theorem dX1_wouldBeNeeded_56 : decode mX1_wouldBeNeeded.2.1 56 = .ok (.aload_n 0, 1) := by decide +kernel
theorem dX1_wouldBeNeeded_57 : decode mX1_wouldBeNeeded.2.1 57 = .ok (.iload_n 1, 1) := by decide +kernel
theorem dX1_wouldBeNeeded_58 : decode mX1_wouldBeNeeded.2.1 58 = .ok (.invokevirtual 85, 3) := by decide +kernel
theorem dX1_wouldBeNeeded_61 : decode mX1_wouldBeNeeded.2.1 61 = .ok (.iconst 2, 1) := by decide +kernel
theorem dX1_wouldBeNeeded_62 : decode mX1_wouldBeNeeded.2.1 62 = .ok (.if_icmp .ne 16, 3) := by decide +kernel
theorem dX1_wouldBeNeeded_65 : decode mX1_wouldBeNeeded.2.1 65 = .ok (.aload_n 0, 1) := by decide +kernel
theorem dX1_wouldBeNeeded_66 : decode mX1_wouldBeNeeded.2.1 66 = .ok (.iload_n 2, 1) := by decide +kernel
theorem dX1_wouldBeNeeded_67 : decode mX1_wouldBeNeeded.2.1 67 = .ok (.invokevirtual 85, 3) := by decide +kernel
theorem dX1_wouldBeNeeded_70 : decode mX1_wouldBeNeeded.2.1 70 = .ok (.iconst 2, 1) := by decide +kernel
theorem dX1_wouldBeNeeded_71 : decode mX1_wouldBeNeeded.2.1 71 = .ok (.if_icmp .ne 7, 3) := by decide +kernel
theorem dX1_wouldBeNeeded_74 : decode mX1_wouldBeNeeded.2.1 74 = .ok (.iconst 1, 1) := by decide +kernel
theorem dX1_wouldBeNeeded_75 : decode mX1_wouldBeNeeded.2.1 75 = .ok (.goto 4, 3) := by decide +kernel
theorem dX1_wouldBeNeeded_78 : decode mX1_wouldBeNeeded.2.1 78 = .ok (.iconst 0, 1) := by decide +kernel
theorem dX1_wouldBeNeeded_79 : decode mX1_wouldBeNeeded.2.1 79 = .ok (.ireturn, 1) := by decide +kernel
theorem okX1_wouldBeNeeded_85 : gOkV mX1_wouldBeNeeded mX1_freePebbles 85 1 := ⟨List.forall_mem_cons.mpr ⟨(gm 756 (by decide +kernel) rfl), List.forall_mem_cons.mpr ⟨(gm 753 (by decide +kernel) rfl), List.forall_mem_cons.mpr ⟨(gm 755 (by decide +kernel) rfl), List.forall_mem_cons.mpr ⟨(gm 24 (by decide +kernel) rfl), List.forall_mem_cons.mpr ⟨(gm 114 (by decide +kernel) rfl), fun _ h => absurd h List.not_mem_nil⟩⟩⟩⟩⟩, by decide +kernel, by decide +kernel, by decide +kernel⟩
theorem okX1_wouldBeNeeded_88 : gOkV mX1_wouldBeNeeded mX1_fetch 88 2 := ⟨List.forall_mem_cons.mpr ⟨(gm 760 (by decide +kernel) rfl), List.forall_mem_cons.mpr ⟨(gm 757 (by decide +kernel) rfl), List.forall_mem_cons.mpr ⟨(gm 759 (by decide +kernel) rfl), List.forall_mem_cons.mpr ⟨(gm 25 (by decide +kernel) rfl), List.forall_mem_cons.mpr ⟨(gm 114 (by decide +kernel) rfl), fun _ h => absurd h List.not_mem_nil⟩⟩⟩⟩⟩, by decide +kernel, by decide +kernel, by decide +kernel⟩
def fX1_wouldBeNeeded_79 (p1 : Int32) (p2 : Int32) (s0 : Int32) (σ : gS) : Option (Int32 × gS) :=
  gg (s0 = 0 ∨ s0 = 1) (
  some (s0, σ))
set_option maxHeartbeats 4000000 in
set_option maxRecDepth 100000 in
theorem pX1_wouldBeNeeded_79 {E : gE} {p1 : Int32} {p2 : Int32} {r : Int32} {σ' : gS} {s0 : Int32} {σ : gS} (h : fX1_wouldBeNeeded_79 p1 p2 s0 σ = some (r, σ')) : gG E mX1_wouldBeNeeded 79 [] [.int s0] σ (some (.int r)) σ' := by
  unfold fX1_wouldBeNeeded_79 at h
  obtain ⟨g1, h⟩ := gg_some h
  obtain ⟨rfl, rfl⟩ := so_inj h
  exact g_zret dX1_wouldBeNeeded_79 rfl g1
def fX1_wouldBeNeeded_78 (p1 : Int32) (p2 : Int32) (σ : gS) : Option (Int32 × gS) :=
  fX1_wouldBeNeeded_79 p1 p2 0 σ
set_option maxHeartbeats 4000000 in
set_option maxRecDepth 100000 in
theorem pX1_wouldBeNeeded_78 {E : gE} {p1 : Int32} {p2 : Int32} {r : Int32} {σ' : gS} {σ : gS} (h : fX1_wouldBeNeeded_78 p1 p2 σ = some (r, σ')) : gG E mX1_wouldBeNeeded 78 [] [] σ (some (.int r)) σ' := by
  unfold fX1_wouldBeNeeded_78 at h
  refine g_iconst (v := 0) dX1_wouldBeNeeded_78 (by decide) ?_
  exact pX1_wouldBeNeeded_79 h
def fX1_wouldBeNeeded_56 (p1 : Int32) (p2 : Int32) (σ : gS) : Option (Int32 × gS) :=
  bd (fX1_freePebbles p1 σ) fun x1 σ2 =>
  if x1 = 2 then
    bd (fX1_freePebbles p2 σ2) fun x5 σ6 =>
    if x5 = 2 then
      fX1_wouldBeNeeded_79 p1 p2 1 σ6
    else
      fX1_wouldBeNeeded_78 p1 p2 σ6
  else
    fX1_wouldBeNeeded_78 p1 p2 σ2
set_option maxHeartbeats 4000000 in
set_option maxRecDepth 100000 in
theorem pX1_wouldBeNeeded_56 {E : gE} {p1 : Int32} {p2 : Int32} {r : Int32} {σ' : gS} {σ : gS} (h : fX1_wouldBeNeeded_56 p1 p2 σ = some (r, σ')) : gG E mX1_wouldBeNeeded 56 [(0, .ref 28), (1, .int p1), (2, .int p2)] [] σ (some (.int r)) σ' := by
  unfold fX1_wouldBeNeeded_56 at h
  refine g_aload_n dX1_wouldBeNeeded_56 rfl 0 rfl ?_
  refine g_iload_n dX1_wouldBeNeeded_57 rfl 1 rfl ?_
  obtain ⟨x1, σ2, y3, h⟩ := bd_some h
  refine g_callVr (as := [.int p1]) (st := []) (zX1_freePebbles y3) dX1_wouldBeNeeded_58 gi_28 rfl okX1_wouldBeNeeded_85 (Nat.le_of_ble_eq_true rfl) ?_
  refine g_iconst (v := 2) dX1_wouldBeNeeded_61 (by decide) ?_
  refine g_icmp_ne (t := 78) dX1_wouldBeNeeded_62 (by decide) (fun c4 => ?_) (fun c4 => ?_)
  · replace h := if_f h c4
    refine g_sub [] rfl ?_
    exact pX1_wouldBeNeeded_78 h
  · replace h := if_t h c4
    refine g_aload_n dX1_wouldBeNeeded_65 rfl 0 rfl ?_
    refine g_iload_n dX1_wouldBeNeeded_66 rfl 2 rfl ?_
    obtain ⟨x5, σ6, y7, h⟩ := bd_some h
    refine g_callVr (as := [.int p2]) (st := []) (zX1_freePebbles y7) dX1_wouldBeNeeded_67 gi_28 rfl okX1_wouldBeNeeded_85 (Nat.le_of_ble_eq_true rfl) ?_
    refine g_iconst (v := 2) dX1_wouldBeNeeded_70 (by decide) ?_
    refine g_icmp_ne (t := 78) dX1_wouldBeNeeded_71 (by decide) (fun c8 => ?_) (fun c8 => ?_)
    · replace h := if_f h c8
      refine g_sub [] rfl ?_
      exact pX1_wouldBeNeeded_78 h
    · replace h := if_t h c8
      refine g_iconst (v := 1) dX1_wouldBeNeeded_74 (by decide) ?_
      refine g_goto (t := 79) dX1_wouldBeNeeded_75 (by decide) ?_
      refine g_sub [] rfl ?_
      exact pX1_wouldBeNeeded_79 h
def fX1_wouldBeNeeded_30 (p1 : Int32) (p2 : Int32) : Nat → Int32 → gS → Option (Int32 × gS)
  | 0, _, _ => none
  | n + 1, v3, σ => if 2 ≤ v3 then
    fX1_wouldBeNeeded_56 p1 p2 σ
  else
    bd (fX1_freePebbles p2 σ) fun x2 σ3 =>
    if 2 ≤ x2 then
      fX1_wouldBeNeeded_56 p1 p2 σ3
    else
      bd (fX1_fetch p2 p1 σ3) fun _ σ6 =>
      bnd (v3 + 1) fun x8 =>
      fX1_wouldBeNeeded_30 p1 p2 n x8 σ6
set_option maxHeartbeats 4000000 in
set_option maxRecDepth 100000 in
theorem pX1_wouldBeNeeded_30 {E : gE} {p1 : Int32} {p2 : Int32} {r : Int32} {σ' : gS} : ∀ (n : Nat) (v3 : Int32) (σ : gS), fX1_wouldBeNeeded_30 p1 p2 n v3 σ = some (r, σ') → gG E mX1_wouldBeNeeded 30 [(0, .ref 28), (1, .int p1), (2, .int p2), (3, .int v3)] [] σ (some (.int r)) σ' := by
  intro n
  induction n with
  | zero => intro v3 σ h; exact absurd (show none = some (r, σ') from h) (by intro q; cases q)
  | succ n ih =>
  intro v3 σ h
  unfold fX1_wouldBeNeeded_30 at h
  refine g_iload_n dX1_wouldBeNeeded_30 rfl 3 rfl ?_
  refine g_iconst (v := 2) dX1_wouldBeNeeded_31 (by decide) ?_
  refine g_icmp_ge (t := 56) dX1_wouldBeNeeded_32 (by decide) (fun c1 => ?_) (fun c1 => ?_)
  · replace h := if_t h c1
    refine g_sub [0, 1, 2] rfl ?_
    exact pX1_wouldBeNeeded_56 h
  · replace h := if_f h c1
    refine g_aload_n dX1_wouldBeNeeded_35 rfl 0 rfl ?_
    refine g_iload_n dX1_wouldBeNeeded_36 rfl 2 rfl ?_
    obtain ⟨x2, σ3, y4, h⟩ := bd_some h
    refine g_callVr (as := [.int p2]) (st := []) (zX1_freePebbles y4) dX1_wouldBeNeeded_37 gi_28 rfl okX1_wouldBeNeeded_85 (Nat.le_of_ble_eq_true rfl) ?_
    refine g_iconst (v := 2) dX1_wouldBeNeeded_40 (by decide) ?_
    refine g_icmp_ge (t := 56) dX1_wouldBeNeeded_41 (by decide) (fun c5 => ?_) (fun c5 => ?_)
    · replace h := if_t h c5
      refine g_sub [0, 1, 2] rfl ?_
      exact pX1_wouldBeNeeded_56 h
    · replace h := if_f h c5
      refine g_aload_n dX1_wouldBeNeeded_44 rfl 0 rfl ?_
      refine g_iload_n dX1_wouldBeNeeded_45 rfl 2 rfl ?_
      refine g_iload_n dX1_wouldBeNeeded_46 rfl 1 rfl ?_
      obtain ⟨_, σ6, y7, h⟩ := bd_some h
      refine g_callVv (as := [.int p2, .int p1]) (st := []) (zX1_fetch y7) dX1_wouldBeNeeded_47 gi_28 rfl okX1_wouldBeNeeded_88 (Nat.le_of_ble_eq_true rfl) ?_
      obtain ⟨x8, ex8, h⟩ := bnd_nm h
      refine g_iinc (j := 3) (v := x8) (lv' := [(3, .int x8), (0, .ref 28), (1, .int p1), (2, .int p2)]) dX1_wouldBeNeeded_50 rfl (by rw [ex8]; rfl) (Nat.le_of_ble_eq_true rfl) rfl ?_
      refine g_goto (t := 30) dX1_wouldBeNeeded_53 (by decide) ?_
      refine g_sub [1, 2, 3, 0] rfl ?_
      exact ih x8 σ6 h
def fX1_wouldBeNeeded_28 (p1 : Int32) (p2 : Int32) (σ : gS) : Option (Int32 × gS) :=
  fX1_wouldBeNeeded_30 p1 p2 2000 0 σ
set_option maxHeartbeats 4000000 in
set_option maxRecDepth 100000 in
theorem pX1_wouldBeNeeded_28 {E : gE} {p1 : Int32} {p2 : Int32} {r : Int32} {σ' : gS} {σ : gS} (h : fX1_wouldBeNeeded_28 p1 p2 σ = some (r, σ')) : gG E mX1_wouldBeNeeded 28 [(0, .ref 28), (1, .int p1), (2, .int p2)] [] σ (some (.int r)) σ' := by
  unfold fX1_wouldBeNeeded_28 at h
  refine g_iconst (v := 0) dX1_wouldBeNeeded_28 (by decide) ?_
  refine g_istore_n (lv' := [(3, .int 0), (0, .ref 28), (1, .int p1), (2, .int p2)]) dX1_wouldBeNeeded_29 rfl (Nat.le_of_ble_eq_true rfl) rfl ?_
  refine g_sub [1, 2, 3, 0] rfl ?_
  exact pX1_wouldBeNeeded_30 2000 0 σ h
def fX1_wouldBeNeeded_2 (p1 : Int32) (p2 : Int32) : Nat → Int32 → gS → Option (Int32 × gS)
  | 0, _, _ => none
  | n + 1, v3, σ => if 2 ≤ v3 then
    fX1_wouldBeNeeded_28 p1 p2 σ
  else
    bd (fX1_freePebbles p1 σ) fun x2 σ3 =>
    if 2 ≤ x2 then
      fX1_wouldBeNeeded_28 p1 p2 σ3
    else
      bd (fX1_fetch p1 p1 σ3) fun _ σ6 =>
      bnd (v3 + 1) fun x8 =>
      fX1_wouldBeNeeded_2 p1 p2 n x8 σ6
set_option maxHeartbeats 4000000 in
set_option maxRecDepth 100000 in
theorem pX1_wouldBeNeeded_2 {E : gE} {p1 : Int32} {p2 : Int32} {r : Int32} {σ' : gS} : ∀ (n : Nat) (v3 : Int32) (σ : gS), fX1_wouldBeNeeded_2 p1 p2 n v3 σ = some (r, σ') → gG E mX1_wouldBeNeeded 2 [(0, .ref 28), (1, .int p1), (2, .int p2), (3, .int v3)] [] σ (some (.int r)) σ' := by
  intro n
  induction n with
  | zero => intro v3 σ h; exact absurd (show none = some (r, σ') from h) (by intro q; cases q)
  | succ n ih =>
  intro v3 σ h
  unfold fX1_wouldBeNeeded_2 at h
  refine g_iload_n dX1_wouldBeNeeded_2 rfl 3 rfl ?_
  refine g_iconst (v := 2) dX1_wouldBeNeeded_3 (by decide) ?_
  refine g_icmp_ge (t := 28) dX1_wouldBeNeeded_4 (by decide) (fun c1 => ?_) (fun c1 => ?_)
  · replace h := if_t h c1
    refine g_sub [0, 1, 2] rfl ?_
    exact pX1_wouldBeNeeded_28 h
  · replace h := if_f h c1
    refine g_aload_n dX1_wouldBeNeeded_7 rfl 0 rfl ?_
    refine g_iload_n dX1_wouldBeNeeded_8 rfl 1 rfl ?_
    obtain ⟨x2, σ3, y4, h⟩ := bd_some h
    refine g_callVr (as := [.int p1]) (st := []) (zX1_freePebbles y4) dX1_wouldBeNeeded_9 gi_28 rfl okX1_wouldBeNeeded_85 (Nat.le_of_ble_eq_true rfl) ?_
    refine g_iconst (v := 2) dX1_wouldBeNeeded_12 (by decide) ?_
    refine g_icmp_ge (t := 28) dX1_wouldBeNeeded_13 (by decide) (fun c5 => ?_) (fun c5 => ?_)
    · replace h := if_t h c5
      refine g_sub [0, 1, 2] rfl ?_
      exact pX1_wouldBeNeeded_28 h
    · replace h := if_f h c5
      refine g_aload_n dX1_wouldBeNeeded_16 rfl 0 rfl ?_
      refine g_iload_n dX1_wouldBeNeeded_17 rfl 1 rfl ?_
      refine g_iload_n dX1_wouldBeNeeded_18 rfl 1 rfl ?_
      obtain ⟨_, σ6, y7, h⟩ := bd_some h
      refine g_callVv (as := [.int p1, .int p1]) (st := []) (zX1_fetch y7) dX1_wouldBeNeeded_19 gi_28 rfl okX1_wouldBeNeeded_88 (Nat.le_of_ble_eq_true rfl) ?_
      obtain ⟨x8, ex8, h⟩ := bnd_nm h
      refine g_iinc (j := 3) (v := x8) (lv' := [(3, .int x8), (0, .ref 28), (1, .int p1), (2, .int p2)]) dX1_wouldBeNeeded_22 rfl (by rw [ex8]; rfl) (Nat.le_of_ble_eq_true rfl) rfl ?_
      refine g_goto (t := 2) dX1_wouldBeNeeded_25 (by decide) ?_
      refine g_sub [1, 2, 3, 0] rfl ?_
      exact ih x8 σ6 h
def fX1_wouldBeNeeded (p1 : Int32) (p2 : Int32) (σ : gS) : Option (Int32 × gS) :=
  fX1_wouldBeNeeded_2 p1 p2 2000 0 σ
set_option maxHeartbeats 4000000 in
set_option maxRecDepth 100000 in
theorem pX1_wouldBeNeeded {E : gE} {p1 : Int32} {p2 : Int32} {r : Int32} {σ' : gS} {σ : gS} (h : fX1_wouldBeNeeded p1 p2 σ = some (r, σ')) : gG E mX1_wouldBeNeeded 0 [(0, .ref 28), (1, .int p1), (2, .int p2)] [] σ (some (.int r)) σ' := by
  unfold fX1_wouldBeNeeded at h
  refine g_iconst (v := 0) dX1_wouldBeNeeded_0 (by decide) ?_
  refine g_istore_n (lv' := [(3, .int 0), (0, .ref 28), (1, .int p1), (2, .int p2)]) dX1_wouldBeNeeded_1 rfl (Nat.le_of_ble_eq_true rfl) rfl ?_
  refine g_sub [1, 2, 3, 0] rfl ?_
  exact pX1_wouldBeNeeded_2 2000 0 σ h
theorem zX1_wouldBeNeeded {E : gE} {p1 : Int32} {p2 : Int32} {r : Int32} {σ σ' : gS} (h : fX1_wouldBeNeeded p1 p2 σ = some (r, σ')) : gC E mX1_wouldBeNeeded [.ref 28, .int p1, .int p2] σ (some (.int r)) σ' :=
  gC_of (by decide +kernel) rfl (Nat.le_of_ble_eq_true rfl) (pX1_wouldBeNeeded h)
theorem fl_RX1_50 : gFl RX1 50 1 7 := ⟨RX1, TX1, 10, rfl, by decide, ux_1, Or.inl (gm 298 (by decide +kernel) rfl)⟩
theorem fp_RX1_50 : gFp RX1 50 1 7 .int := ⟨RX1, TX1, 10, rfl, by decide, ux_1, Or.inl (gm 298 (by decide +kernel) rfl), rfl, by decide +kernel, ⟨tyX1, tyX1_ok⟩, nmX1⟩
def mX1_offer : gM := (yX1_offer, cX1_offer, RX1, 3, (some .boolean), 3, 74)
theorem dX1_offer_0 : decode mX1_offer.2.1 0 = .ok (.aload_n 0, 1) := by decide +kernel
theorem dX1_offer_1 : decode mX1_offer.2.1 1 = .ok (.iload_n 1, 1) := by decide +kernel
theorem dX1_offer_2 : decode mX1_offer.2.1 2 = .ok (.iload_n 2, 1) := by decide +kernel
theorem dX1_offer_3 : decode mX1_offer.2.1 3 = .ok (.invokevirtual 82, 3) := by decide +kernel
theorem dX1_offer_6 : decode mX1_offer.2.1 6 = .ok (.ifCond .ne 5, 3) := by decide +kernel
theorem dX1_offer_9 : decode mX1_offer.2.1 9 = .ok (.iconst 0, 1) := by decide +kernel
theorem dX1_offer_10 : decode mX1_offer.2.1 10 = .ok (.ireturn, 1) := by decide +kernel
theorem dX1_offer_11 : decode mX1_offer.2.1 11 = .ok (.aload_n 0, 1) := by decide +kernel
theorem dX1_offer_12 : decode mX1_offer.2.1 12 = .ok (.getfield 11, 3) := by decide +kernel
theorem dX1_offer_15 : decode mX1_offer.2.1 15 = .ok (.iload_n 1, 1) := by decide +kernel
theorem dX1_offer_16 : decode mX1_offer.2.1 16 = .ok (.aaload, 1) := by decide +kernel
theorem dX1_offer_17 : decode mX1_offer.2.1 17 = .ok (.iconst 0, 1) := by decide +kernel
theorem dX1_offer_18 : decode mX1_offer.2.1 18 = .ok (.iload_n 2, 1) := by decide +kernel
theorem dX1_offer_19 : decode mX1_offer.2.1 19 = .ok (.iastore, 1) := by decide +kernel
theorem dX1_offer_20 : decode mX1_offer.2.1 20 = .ok (.aload_n 0, 1) := by decide +kernel
theorem dX1_offer_21 : decode mX1_offer.2.1 21 = .ok (.dup, 1) := by decide +kernel
theorem dX1_offer_22 : decode mX1_offer.2.1 22 = .ok (.getfield 50, 3) := by decide +kernel
theorem dX1_offer_25 : decode mX1_offer.2.1 25 = .ok (.iconst 1, 1) := by decide +kernel
theorem dX1_offer_26 : decode mX1_offer.2.1 26 = .ok (.iadd, 1) := by decide +kernel
theorem dX1_offer_27 : decode mX1_offer.2.1 27 = .ok (.putfield 50, 3) := by decide +kernel
theorem dX1_offer_30 : decode mX1_offer.2.1 30 = .ok (.iconst 1, 1) := by decide +kernel
theorem dX1_offer_31 : decode mX1_offer.2.1 31 = .ok (.ireturn, 1) := by decide +kernel
theorem okX1_offer_82 : gOkV mX1_offer mX1_wouldBeNeeded 82 2 := ⟨List.forall_mem_cons.mpr ⟨(gm 752 (by decide +kernel) rfl), List.forall_mem_cons.mpr ⟨(gm 749 (by decide +kernel) rfl), List.forall_mem_cons.mpr ⟨(gm 751 (by decide +kernel) rfl), List.forall_mem_cons.mpr ⟨(gm 23 (by decide +kernel) rfl), List.forall_mem_cons.mpr ⟨(gm 114 (by decide +kernel) rfl), fun _ h => absurd h List.not_mem_nil⟩⟩⟩⟩⟩, by decide +kernel, by decide +kernel, by decide +kernel⟩
def fX1_offer (p1 : Int32) (p2 : Int32) (σ : gS) : Option (Int32 × gS) :=
  bd (fX1_wouldBeNeeded p1 p2 σ) fun x1 σ2 =>
  if x1 = 0 then
    some (0, σ2)
  else
    gg (¬ (p1 < 0 ∨ 24 ≤ p1.toNatClampNeg)) (
    bnd (gsI σ2 (30 + 1 * p1.toNatClampNeg) ((0 : Int32).toNatClampNeg) p2) fun σ6 =>
    bnd (gsI σ6 28 7 ((σ6.1 28 7) + 1)) fun σ7 =>
    some (1, σ7))
set_option maxHeartbeats 4000000 in
set_option maxRecDepth 100000 in
theorem pX1_offer {E : gE} {p1 : Int32} {p2 : Int32} {r : Int32} {σ' : gS} {σ : gS} (h : fX1_offer p1 p2 σ = some (r, σ')) : gG E mX1_offer 0 [(0, .ref 28), (1, .int p1), (2, .int p2)] [] σ (some (.int r)) σ' := by
  unfold fX1_offer at h
  refine g_aload_n dX1_offer_0 rfl 0 rfl ?_
  refine g_iload_n dX1_offer_1 rfl 1 rfl ?_
  refine g_iload_n dX1_offer_2 rfl 2 rfl ?_
  obtain ⟨x1, σ2, y3, h⟩ := bd_some h
  refine g_callVr (as := [.int p1, .int p2]) (st := []) (zX1_wouldBeNeeded y3) dX1_offer_3 gi_28 rfl okX1_offer_82 (Nat.le_of_ble_eq_true rfl) ?_
  refine g_if_ne (t := 11) dX1_offer_6 (by decide) (fun c4 => ?_) (fun c4 => ?_)
  · replace h := if_f h c4
    refine g_aload_n dX1_offer_11 rfl 0 rfl ?_
    refine g_getC (n := 29) dX1_offer_12 gi_28 rfl fl_RX1_11 ?_
    refine g_iload_n dX1_offer_15 rfl 1 rfl ?_
    obtain ⟨g5, h⟩ := gg_some h
    refine g_aaldA dX1_offer_16 gi_29 g5 ?_
    refine g_topr (y := (30 + 1 * p1.toNatClampNeg)) rfl ?_
    refine g_iconst (v := 0) dX1_offer_17 (by decide) ?_
    refine g_iload_n dX1_offer_18 rfl 2 rfl ?_
    obtain ⟨σ6, eσ6, h⟩ := bnd_nm h
    refine g_iast dX1_offer_19 (gi_ld (vp_lt g5)) (by unfold vp_in; decide) (g_st eσ6 ?_)
    refine g_aload_n dX1_offer_20 rfl 0 rfl ?_
    refine g_dup dX1_offer_21 rfl ?_
    refine g_getI dX1_offer_22 gi_28 rfl fl_RX1_50 ?_
    refine g_iconst (v := 1) dX1_offer_25 (by decide) ?_
    refine g_iadd dX1_offer_26 ?_
    obtain ⟨σ7, eσ7, h⟩ := bnd_nm h
    refine g_putI dX1_offer_27 gi_28 rfl fp_RX1_50 (g_st eσ7 ?_)
    refine g_iconst (v := 1) dX1_offer_30 (by decide) ?_
    obtain ⟨rfl, rfl⟩ := so_inj h
    exact g_zret dX1_offer_31 rfl (Or.inr rfl)
  · replace h := if_t h c4
    refine g_iconst (v := 0) dX1_offer_9 (by decide) ?_
    obtain ⟨rfl, rfl⟩ := so_inj h
    exact g_zret dX1_offer_10 rfl (Or.inl rfl)
theorem zX1_offer {E : gE} {p1 : Int32} {p2 : Int32} {r : Int32} {σ σ' : gS} (h : fX1_offer p1 p2 σ = some (r, σ')) : gC E mX1_offer [.ref 28, .int p1, .int p2] σ (some (.int r)) σ' :=
  gC_of (by decide +kernel) rfl (Nat.le_of_ble_eq_true rfl) (pX1_offer h)
theorem fl_RX1_46 : gFl RX1 46 1 6 := ⟨RX1, TX1, 10, rfl, by decide, ux_1, Or.inl (gm 296 (by decide +kernel) rfl)⟩
theorem fp_RX1_46 : gFp RX1 46 1 6 .int := ⟨RX1, TX1, 10, rfl, by decide, ux_1, Or.inl (gm 296 (by decide +kernel) rfl), rfl, by decide +kernel, ⟨tyX1, tyX1_ok⟩, nmX1⟩
def mX1_offerTies : gM := (yX1_offerTies, cX1_offerTies, RX1, 5, none, 4, 96)
theorem dX1_offerTies_0 : decode mX1_offerTies.2.1 0 = .ok (.ldc 39, 2) := by decide +kernel
theorem dX1_offerTies_2 : decode mX1_offerTies.2.1 2 = .ok (.istore_n 2, 1) := by decide +kernel
theorem dX1_offerTies_3 : decode mX1_offerTies.2.1 3 = .ok (.ldc 39, 2) := by decide +kernel
theorem dX1_offerTies_5 : decode mX1_offerTies.2.1 5 = .ok (.istore_n 3, 1) := by decide +kernel
theorem dX1_offerTies_6 : decode mX1_offerTies.2.1 6 = .ok (.iconst 0, 1) := by decide +kernel
theorem dX1_offerTies_7 : decode mX1_offerTies.2.1 7 = .ok (.istore 4, 2) := by decide +kernel
theorem dX1_offerTies_9 : decode mX1_offerTies.2.1 9 = .ok (.iload 4, 2) := by decide +kernel
theorem dX1_offerTies_11 : decode mX1_offerTies.2.1 11 = .ok (.aload_n 1, 1) := by decide +kernel
theorem dX1_offerTies_12 : decode mX1_offerTies.2.1 12 = .ok (.iconst 0, 1) := by decide +kernel
theorem dX1_offerTies_13 : decode mX1_offerTies.2.1 13 = .ok (.invokevirtual 33, 3) := by decide +kernel
theorem dX1_offerTies_16 : decode mX1_offerTies.2.1 16 = .ok (.if_icmp .ge 83, 3) := by decide +kernel
theorem dX1_offerTies_19 : decode mX1_offerTies.2.1 19 = .ok (.aload_n 1, 1) := by decide +kernel
theorem dX1_offerTies_20 : decode mX1_offerTies.2.1 20 = .ok (.iload 4, 2) := by decide +kernel
theorem dX1_offerTies_22 : decode mX1_offerTies.2.1 22 = .ok (.invokevirtual 78, 3) := by decide +kernel
theorem dX1_offerTies_25 : decode mX1_offerTies.2.1 25 = .ok (.ifCond .ne 6, 3) := by decide +kernel
theorem dX1_offerTies_28 : decode mX1_offerTies.2.1 28 = .ok (.goto 65, 3) := by decide +kernel
theorem dX1_offerTies_31 : decode mX1_offerTies.2.1 31 = .ok (.iload_n 2, 1) := by decide +kernel
theorem dX1_offerTies_32 : decode mX1_offerTies.2.1 32 = .ok (.ldc 39, 2) := by decide +kernel
theorem dX1_offerTies_34 : decode mX1_offerTies.2.1 34 = .ok (.if_icmp .ne 9, 3) := by decide +kernel
theorem dX1_offerTies_37 : decode mX1_offerTies.2.1 37 = .ok (.iload 4, 2) := by decide +kernel
theorem dX1_offerTies_39 : decode mX1_offerTies.2.1 39 = .ok (.istore_n 2, 1) := by decide +kernel
theorem dX1_offerTies_40 : decode mX1_offerTies.2.1 40 = .ok (.goto 53, 3) := by decide +kernel
theorem dX1_offerTies_43 : decode mX1_offerTies.2.1 43 = .ok (.iload_n 3, 1) := by decide +kernel
theorem dX1_offerTies_44 : decode mX1_offerTies.2.1 44 = .ok (.ldc 39, 2) := by decide +kernel
theorem dX1_offerTies_46 : decode mX1_offerTies.2.1 46 = .ok (.if_icmp .ne 21, 3) := by decide +kernel
theorem dX1_offerTies_49 : decode mX1_offerTies.2.1 49 = .ok (.iload 4, 2) := by decide +kernel
theorem dX1_offerTies_51 : decode mX1_offerTies.2.1 51 = .ok (.istore_n 3, 1) := by decide +kernel
theorem dX1_offerTies_52 : decode mX1_offerTies.2.1 52 = .ok (.aload_n 0, 1) := by decide +kernel
theorem dX1_offerTies_53 : decode mX1_offerTies.2.1 53 = .ok (.iload_n 2, 1) := by decide +kernel
theorem dX1_offerTies_54 : decode mX1_offerTies.2.1 54 = .ok (.iload_n 3, 1) := by decide +kernel
theorem dX1_offerTies_55 : decode mX1_offerTies.2.1 55 = .ok (.invokevirtual 64, 3) := by decide +kernel
theorem dX1_offerTies_58 : decode mX1_offerTies.2.1 58 = .ok (.pop, 1) := by decide +kernel
theorem dX1_offerTies_59 : decode mX1_offerTies.2.1 59 = .ok (.aload_n 0, 1) := by decide +kernel
theorem dX1_offerTies_60 : decode mX1_offerTies.2.1 60 = .ok (.iconst 1, 1) := by decide +kernel
theorem dX1_offerTies_61 : decode mX1_offerTies.2.1 61 = .ok (.putfield 46, 3) := by decide +kernel
theorem dX1_offerTies_64 : decode mX1_offerTies.2.1 64 = .ok (.goto 29, 3) := by decide +kernel
theorem dX1_offerTies_67 : decode mX1_offerTies.2.1 67 = .ok (.aload_n 0, 1) := by decide +kernel
theorem dX1_offerTies_68 : decode mX1_offerTies.2.1 68 = .ok (.iload 4, 2) := by decide +kernel
theorem dX1_offerTies_70 : decode mX1_offerTies.2.1 70 = .ok (.iload_n 2, 1) := by decide +kernel
theorem dX1_offerTies_71 : decode mX1_offerTies.2.1 71 = .ok (.invokevirtual 64, 3) := by decide +kernel
theorem dX1_offerTies_74 : decode mX1_offerTies.2.1 74 = .ok (.pop, 1) := by decide +kernel
theorem dX1_offerTies_75 : decode mX1_offerTies.2.1 75 = .ok (.aload_n 0, 1) := by decide +kernel
theorem dX1_offerTies_76 : decode mX1_offerTies.2.1 76 = .ok (.iload 4, 2) := by decide +kernel
theorem dX1_offerTies_78 : decode mX1_offerTies.2.1 78 = .ok (.iload_n 3, 1) := by decide +kernel
theorem dX1_offerTies_79 : decode mX1_offerTies.2.1 79 = .ok (.invokevirtual 64, 3) := by decide +kernel
theorem dX1_offerTies_82 : decode mX1_offerTies.2.1 82 = .ok (.pop, 1) := by decide +kernel
theorem dX1_offerTies_83 : decode mX1_offerTies.2.1 83 = .ok (.aload_n 0, 1) := by decide +kernel
theorem dX1_offerTies_84 : decode mX1_offerTies.2.1 84 = .ok (.dup, 1) := by decide +kernel
theorem dX1_offerTies_85 : decode mX1_offerTies.2.1 85 = .ok (.getfield 46, 3) := by decide +kernel
theorem dX1_offerTies_88 : decode mX1_offerTies.2.1 88 = .ok (.iconst 2, 1) := by decide +kernel
theorem dX1_offerTies_89 : decode mX1_offerTies.2.1 89 = .ok (.iadd, 1) := by decide +kernel
theorem dX1_offerTies_90 : decode mX1_offerTies.2.1 90 = .ok (.putfield 46, 3) := by decide +kernel
theorem dX1_offerTies_93 : decode mX1_offerTies.2.1 93 = .ok (.iinc 4 1, 3) := by decide +kernel
theorem dX1_offerTies_96 : decode mX1_offerTies.2.1 96 = .ok (.goto (-87), 3) := by decide +kernel
theorem dX1_offerTies_99 : decode mX1_offerTies.2.1 99 = .ok (.return_, 1) := by decide +kernel
theorem okX1_offerTies_33 : gOkV mX1_offerTies mX3_size 33 1 := ⟨List.forall_mem_cons.mpr ⟨(gm 737 (by decide +kernel) rfl), List.forall_mem_cons.mpr ⟨(gm 734 (by decide +kernel) rfl), List.forall_mem_cons.mpr ⟨(gm 735 (by decide +kernel) rfl), List.forall_mem_cons.mpr ⟨(gm 736 (by decide +kernel) rfl), List.forall_mem_cons.mpr ⟨(gm 109 (by decide +kernel) rfl), fun _ h => absurd h List.not_mem_nil⟩⟩⟩⟩⟩, by decide +kernel, by decide +kernel, by decide +kernel⟩
theorem okX1_offerTies_78 : gOkV mX1_offerTies mX3_isGround 78 1 := ⟨List.forall_mem_cons.mpr ⟨(gm 721 (by decide +kernel) rfl), List.forall_mem_cons.mpr ⟨(gm 744 (by decide +kernel) rfl), List.forall_mem_cons.mpr ⟨(gm 719 (by decide +kernel) rfl), List.forall_mem_cons.mpr ⟨(gm 720 (by decide +kernel) rfl), List.forall_mem_cons.mpr ⟨(gm 109 (by decide +kernel) rfl), fun _ h => absurd h List.not_mem_nil⟩⟩⟩⟩⟩, by decide +kernel, by decide +kernel, by decide +kernel⟩
theorem okX1_offerTies_64 : gOkV mX1_offerTies mX1_offer 64 2 := ⟨List.forall_mem_cons.mpr ⟨(gm 748 (by decide +kernel) rfl), List.forall_mem_cons.mpr ⟨(gm 745 (by decide +kernel) rfl), List.forall_mem_cons.mpr ⟨(gm 747 (by decide +kernel) rfl), List.forall_mem_cons.mpr ⟨(gm 22 (by decide +kernel) rfl), List.forall_mem_cons.mpr ⟨(gm 114 (by decide +kernel) rfl), fun _ h => absurd h List.not_mem_nil⟩⟩⟩⟩⟩, by decide +kernel, by decide +kernel, by decide +kernel⟩
def fX1_offerTies_93 (p1 : Nat) (k9 : Int32 → Int32 → Int32 → gS → Option (Unit × gS)) (v2 : Int32) (v3 : Int32) (v4 : Int32) (σ : gS) : Option (Unit × gS) :=
  bnd (v4 + 1) fun x1 =>
  k9 v2 v3 x1 σ
set_option maxHeartbeats 4000000 in
set_option maxRecDepth 100000 in
theorem pX1_offerTies_93 {E : gE} {p1 : Nat} {k9 : Int32 → Int32 → Int32 → gS → Option (Unit × gS)} {r : Unit} {σ' : gS} {v2 : Int32} {v3 : Int32} {v4 : Int32} {σ : gS} (hp1 : gLk p1) (hk9 : ∀ (v2 : Int32) (v3 : Int32) (v4 : Int32) (σ : gS), k9 v2 v3 v4 σ = some (r, σ') → gG E mX1_offerTies 9 [(0, .ref 28), (1, .ref p1), (2, .int v2), (3, .int v3), (4, .int v4)] [] σ (none) σ') (h : fX1_offerTies_93 p1 k9 v2 v3 v4 σ = some (r, σ')) : gG E mX1_offerTies 93 [(0, .ref 28), (1, .ref p1), (2, .int v2), (3, .int v3), (4, .int v4)] [] σ (none) σ' := by
  unfold fX1_offerTies_93 at h
  obtain ⟨x1, ex1, h⟩ := bnd_nm h
  refine g_iinc (j := 4) (v := x1) (lv' := [(4, .int x1), (0, .ref 28), (1, .ref p1), (2, .int v2), (3, .int v3)]) dX1_offerTies_93 rfl (by rw [ex1]; rfl) (Nat.le_of_ble_eq_true rfl) rfl ?_
  refine g_goto (t := 9) dX1_offerTies_96 (by decide) ?_
  refine g_sub [1, 2, 3, 4, 0] rfl ?_
  exact hk9 v2 v3 x1 σ h
def fX1_offerTies_9 (p1 : Nat) : Nat → Int32 → Int32 → Int32 → gS → Option (Unit × gS)
  | 0, _, _, _, _ => none
  | n + 1, v2, v3, v4, σ => bd (fX3_size p1 0 σ) fun x1 σ2 =>
  if x1 ≤ v4 then
    some ((), σ2)
  else
    bd (fX3_isGround p1 v4 σ2) fun x5 σ6 =>
    if x5 = 0 then
      fX1_offerTies_93 p1 (fun v2 v3 v4 σ => fX1_offerTies_9 p1 n v2 v3 v4 σ) v2 v3 v4 σ6
    else
      if v2 = (-1000000) then
        fX1_offerTies_93 p1 (fun v2 v3 v4 σ => fX1_offerTies_9 p1 n v2 v3 v4 σ) v4 v3 v4 σ6
      else
        if v3 = (-1000000) then
          bd (fX1_offer v2 v4 σ6) fun x18 σ19 =>
          bnd (gsI σ19 28 6 1) fun σ21 =>
          fX1_offerTies_93 p1 (fun v2 v3 v4 σ => fX1_offerTies_9 p1 n v2 v3 v4 σ) v2 v4 v4 σ21
        else
          bd (fX1_offer v4 v2 σ6) fun x11 σ12 =>
          bd (fX1_offer v4 v3 σ12) fun x14 σ15 =>
          bnd (gsI σ15 28 6 ((σ15.1 28 6) + 2)) fun σ17 =>
          fX1_offerTies_93 p1 (fun v2 v3 v4 σ => fX1_offerTies_9 p1 n v2 v3 v4 σ) v2 v3 v4 σ17
set_option maxHeartbeats 4000000 in
set_option maxRecDepth 100000 in
theorem pX1_offerTies_9 {E : gE} {p1 : Nat} {r : Unit} {σ' : gS} (hp1 : gLk p1) : ∀ (n : Nat) (v2 : Int32) (v3 : Int32) (v4 : Int32) (σ : gS), fX1_offerTies_9 p1 n v2 v3 v4 σ = some (r, σ') → gG E mX1_offerTies 9 [(0, .ref 28), (1, .ref p1), (2, .int v2), (3, .int v3), (4, .int v4)] [] σ (none) σ' := by
  intro n
  induction n with
  | zero => intro v2 v3 v4 σ h; exact absurd (show none = some (r, σ') from h) (by intro q; cases q)
  | succ n ih =>
  intro v2 v3 v4 σ h
  unfold fX1_offerTies_9 at h
  refine g_iload dX1_offerTies_9 4 rfl ?_
  refine g_aload_n dX1_offerTies_11 rfl 1 rfl ?_
  refine g_iconst (v := 0) dX1_offerTies_12 (by decide) ?_
  obtain ⟨x1, σ2, y3, h⟩ := bd_some h
  refine g_callVr (as := [.int 0]) (st := [.int v4]) (zX3_size hp1 y3) dX1_offerTies_13 (gi_lk hp1) rfl okX1_offerTies_33 (Nat.le_of_ble_eq_true rfl) ?_
  refine g_icmp_ge (t := 99) dX1_offerTies_16 (by decide) (fun c4 => ?_) (fun c4 => ?_)
  · replace h := if_t h c4
    obtain ⟨rfl, rfl⟩ := so_inj h
    exact g_vret dX1_offerTies_99 rfl
  · replace h := if_f h c4
    refine g_aload_n dX1_offerTies_19 rfl 1 rfl ?_
    refine g_iload dX1_offerTies_20 4 rfl ?_
    obtain ⟨x5, σ6, y7, h⟩ := bd_some h
    refine g_callVr (as := [.int v4]) (st := []) (zX3_isGround hp1 y7) dX1_offerTies_22 (gi_lk hp1) rfl okX1_offerTies_78 (Nat.le_of_ble_eq_true rfl) ?_
    refine g_if_ne (t := 31) dX1_offerTies_25 (by decide) (fun c8 => ?_) (fun c8 => ?_)
    · replace h := if_f h c8
      refine g_iload_n dX1_offerTies_31 rfl 2 rfl ?_
      refine g_ldc (v := (-1000000)) dX1_offerTies_32 wc_RX1_39 ?_
      refine g_icmp_ne (t := 43) dX1_offerTies_34 (by decide) (fun c9 => ?_) (fun c9 => ?_)
      · replace h := if_f h c9
        refine g_iload_n dX1_offerTies_43 rfl 3 rfl ?_
        refine g_ldc (v := (-1000000)) dX1_offerTies_44 wc_RX1_39 ?_
        refine g_icmp_ne (t := 67) dX1_offerTies_46 (by decide) (fun c10 => ?_) (fun c10 => ?_)
        · replace h := if_f h c10
          refine g_aload_n dX1_offerTies_67 rfl 0 rfl ?_
          refine g_iload dX1_offerTies_68 4 rfl ?_
          refine g_iload_n dX1_offerTies_70 rfl 2 rfl ?_
          obtain ⟨x11, σ12, y13, h⟩ := bd_some h
          refine g_callVr (as := [.int v4, .int v2]) (st := []) (zX1_offer y13) dX1_offerTies_71 gi_28 rfl okX1_offerTies_64 (Nat.le_of_ble_eq_true rfl) ?_
          refine g_pop dX1_offerTies_74 rfl ?_
          refine g_aload_n dX1_offerTies_75 rfl 0 rfl ?_
          refine g_iload dX1_offerTies_76 4 rfl ?_
          refine g_iload_n dX1_offerTies_78 rfl 3 rfl ?_
          obtain ⟨x14, σ15, y16, h⟩ := bd_some h
          refine g_callVr (as := [.int v4, .int v3]) (st := []) (zX1_offer y16) dX1_offerTies_79 gi_28 rfl okX1_offerTies_64 (Nat.le_of_ble_eq_true rfl) ?_
          refine g_pop dX1_offerTies_82 rfl ?_
          refine g_aload_n dX1_offerTies_83 rfl 0 rfl ?_
          refine g_dup dX1_offerTies_84 rfl ?_
          refine g_getI dX1_offerTies_85 gi_28 rfl fl_RX1_46 ?_
          refine g_iconst (v := 2) dX1_offerTies_88 (by decide) ?_
          refine g_iadd dX1_offerTies_89 ?_
          obtain ⟨σ17, eσ17, h⟩ := bnd_nm h
          refine g_putI dX1_offerTies_90 gi_28 rfl fp_RX1_46 (g_st eσ17 ?_)
          exact pX1_offerTies_93 hp1 (fun v2 v3 v4 σ h => ih v2 v3 v4 σ h) h
        · replace h := if_t h c10
          refine g_iload dX1_offerTies_49 4 rfl ?_
          refine g_istore_n (lv' := [(3, .int v4), (0, .ref 28), (1, .ref p1), (2, .int v2), (4, .int v4)]) dX1_offerTies_51 rfl (Nat.le_of_ble_eq_true rfl) rfl ?_
          refine g_aload_n dX1_offerTies_52 rfl 1 rfl ?_
          refine g_iload_n dX1_offerTies_53 rfl 3 rfl ?_
          refine g_iload_n dX1_offerTies_54 rfl 0 rfl ?_
          obtain ⟨x18, σ19, y20, h⟩ := bd_some h
          refine g_callVr (as := [.int v2, .int v4]) (st := []) (zX1_offer y20) dX1_offerTies_55 gi_28 rfl okX1_offerTies_64 (Nat.le_of_ble_eq_true rfl) ?_
          refine g_pop dX1_offerTies_58 rfl ?_
          refine g_aload_n dX1_offerTies_59 rfl 1 rfl ?_
          refine g_iconst (v := 1) dX1_offerTies_60 (by decide) ?_
          obtain ⟨σ21, eσ21, h⟩ := bnd_nm h
          refine g_putI dX1_offerTies_61 gi_28 rfl fp_RX1_46 (g_st eσ21 ?_)
          refine g_goto (t := 93) dX1_offerTies_64 (by decide) ?_
          refine g_sub [1, 2, 3, 0, 4] rfl ?_
          exact pX1_offerTies_93 hp1 (fun v2 v3 v4 σ h => ih v2 v3 v4 σ h) h
      · replace h := if_t h c9
        refine g_iload dX1_offerTies_37 4 rfl ?_
        refine g_istore_n (lv' := [(2, .int v4), (0, .ref 28), (1, .ref p1), (3, .int v3), (4, .int v4)]) dX1_offerTies_39 rfl (Nat.le_of_ble_eq_true rfl) rfl ?_
        refine g_goto (t := 93) dX1_offerTies_40 (by decide) ?_
        refine g_sub [1, 2, 0, 3, 4] rfl ?_
        exact pX1_offerTies_93 hp1 (fun v2 v3 v4 σ h => ih v2 v3 v4 σ h) h
    · replace h := if_t h c8
      refine g_goto (t := 93) dX1_offerTies_28 (by decide) ?_
      exact pX1_offerTies_93 hp1 (fun v2 v3 v4 σ h => ih v2 v3 v4 σ h) h
def fX1_offerTies (p1 : Nat) (σ : gS) : Option (Unit × gS) :=
  fX1_offerTies_9 p1 2000 (-1000000) (-1000000) 0 σ
set_option maxHeartbeats 4000000 in
set_option maxRecDepth 100000 in
theorem pX1_offerTies {E : gE} {p1 : Nat} {r : Unit} {σ' : gS} {σ : gS} (hp1 : gLk p1) (h : fX1_offerTies p1 σ = some (r, σ')) : gG E mX1_offerTies 0 [(0, .ref 28), (1, .ref p1)] [] σ (none) σ' := by
  unfold fX1_offerTies at h
  refine g_ldc (v := (-1000000)) dX1_offerTies_0 wc_RX1_39 ?_
  refine g_istore_n (lv' := [(2, .int (-1000000)), (0, .ref 28), (1, .ref p1)]) dX1_offerTies_2 rfl (Nat.le_of_ble_eq_true rfl) rfl ?_
  refine g_ldc (v := (-1000000)) dX1_offerTies_3 wc_RX1_39 ?_
  refine g_istore_n (lv' := [(3, .int (-1000000)), (2, .int (-1000000)), (0, .ref 28), (1, .ref p1)]) dX1_offerTies_5 rfl (Nat.le_of_ble_eq_true rfl) rfl ?_
  refine g_iconst (v := 0) dX1_offerTies_6 (by decide) ?_
  refine g_istore (lv' := [(4, .int 0), (3, .int (-1000000)), (2, .int (-1000000)), (0, .ref 28), (1, .ref p1)]) dX1_offerTies_7 (Nat.le_of_ble_eq_true rfl) rfl ?_
  refine g_sub [3, 4, 2, 1, 0] rfl ?_
  exact pX1_offerTies_9 hp1 2000 (-1000000) (-1000000) 0 σ h
theorem zX1_offerTies {E : gE} {p1 : Nat} {r : Unit} {σ σ' : gS} (hp1 : gLk p1) (h : fX1_offerTies p1 σ = some (r, σ')) : gC E mX1_offerTies [.ref 28, .ref p1] σ (none) σ' :=
  gC_of (by decide +kernel) rfl (Nat.le_of_ble_eq_true rfl) (pX1_offerTies hp1 h)
theorem fl_RX3_18 : gFl RX3 18 3 2 := ⟨RX3, TX3, 10, rfl, by decide, ux_3, Or.inl (gm 153 (by decide +kernel) rfl)⟩
def mX3_firstOf : gM := (yX3_firstOf, cX3_firstOf, RX3, 3, (some .int), 0, 0)
theorem dX3_firstOf_0 : decode mX3_firstOf.2.1 0 = .ok (.aload_n 0, 1) := by decide +kernel
theorem dX3_firstOf_1 : decode mX3_firstOf.2.1 1 = .ok (.getfield 18, 3) := by decide +kernel
theorem dX3_firstOf_4 : decode mX3_firstOf.2.1 4 = .ok (.aload_n 0, 1) := by decide +kernel
theorem dX3_firstOf_5 : decode mX3_firstOf.2.1 5 = .ok (.getfield 29, 3) := by decide +kernel
theorem dX3_firstOf_8 : decode mX3_firstOf.2.1 8 = .ok (.iload_n 1, 1) := by decide +kernel
theorem dX3_firstOf_9 : decode mX3_firstOf.2.1 9 = .ok (.aaload, 1) := by decide +kernel
theorem dX3_firstOf_10 : decode mX3_firstOf.2.1 10 = .ok (.iload_n 2, 1) := by decide +kernel
theorem dX3_firstOf_11 : decode mX3_firstOf.2.1 11 = .ok (.iaload, 1) := by decide +kernel
theorem dX3_firstOf_12 : decode mX3_firstOf.2.1 12 = .ok (.iaload, 1) := by decide +kernel
theorem dX3_firstOf_13 : decode mX3_firstOf.2.1 13 = .ok (.ireturn, 1) := by decide +kernel
def fX3_firstOf (t : Nat) (p1 : Int32) (p2 : Int32) (σ : gS) : Option (Int32 × gS) :=
  gg (¬ (p1 < 0 ∨ 4 ≤ p1.toNatClampNeg)) (
  gg (¬ (p2 < 0 ∨ 60 ≤ p2.toNatClampNeg)) (
  gg (¬ (σ.1 (t + 7 + 1 * p1.toNatClampNeg) p2.toNatClampNeg < 0 ∨ 130 ≤ (σ.1 (t + 7 + 1 * p1.toNatClampNeg) p2.toNatClampNeg).toNatClampNeg)) (
  some (σ.1 (t + 3) ((σ.1 (t + 7 + 1 * p1.toNatClampNeg) p2.toNatClampNeg).toNatClampNeg), σ))))
set_option maxHeartbeats 4000000 in
set_option maxRecDepth 100000 in
theorem pX3_firstOf {E : gE} {t : Nat} {p1 : Int32} {p2 : Int32} {r : Int32} {σ' : gS} {σ : gS} (ht : gLk t) (h : fX3_firstOf t p1 p2 σ = some (r, σ')) : gG E mX3_firstOf 0 [(0, .ref t), (1, .int p1), (2, .int p2)] [] σ (some (.int r)) σ' := by
  unfold fX3_firstOf at h
  refine g_aload_n dX3_firstOf_0 rfl 0 rfl ?_
  refine g_getC (n := (t + 3)) dX3_firstOf_1 (gi_lk ht) rfl fl_RX3_18 ?_
  refine g_aload_n dX3_firstOf_4 rfl 0 rfl ?_
  refine g_getC (n := (t + 6)) dX3_firstOf_5 (gi_lk ht) rfl fl_RX3_29 ?_
  refine g_iload_n dX3_firstOf_8 rfl 1 rfl ?_
  obtain ⟨g1, h⟩ := gg_some h
  refine g_aaldA dX3_firstOf_9 (gi_lk6 ht) g1 ?_
  refine g_topr (y := (t + 7 + 1 * p1.toNatClampNeg)) rfl ?_
  refine g_iload_n dX3_firstOf_10 rfl 2 rfl ?_
  obtain ⟨g2, h⟩ := gg_some h
  refine g_iald dX3_firstOf_11 (gi_lkm ht (vp_lt g1)) g2 ?_
  obtain ⟨g3, h⟩ := gg_some h
  refine g_iald dX3_firstOf_12 (gi_lk3 ht) g3 ?_
  obtain ⟨rfl, rfl⟩ := so_inj h
  exact g_iret dX3_firstOf_13 rfl
theorem zX3_firstOf {E : gE} {t : Nat} {p1 : Int32} {p2 : Int32} {r : Int32} {σ σ' : gS} (ht : gLk t) (h : fX3_firstOf t p1 p2 σ = some (r, σ')) : gC E mX3_firstOf [.ref t, .int p1, .int p2] σ (some (.int r)) σ' :=
  gC_of (by decide +kernel) rfl (Nat.le_of_ble_eq_true rfl) (pX3_firstOf ht h)
theorem fl_RX3_21 : gFl RX3 21 3 3 := ⟨RX3, TX3, 10, rfl, by decide, ux_3, Or.inl (gm 155 (by decide +kernel) rfl)⟩
def mX3_secondOf : gM := (yX3_secondOf, cX3_secondOf, RX3, 3, (some .int), 0, 0)
theorem dX3_secondOf_0 : decode mX3_secondOf.2.1 0 = .ok (.aload_n 0, 1) := by decide +kernel
theorem dX3_secondOf_1 : decode mX3_secondOf.2.1 1 = .ok (.getfield 21, 3) := by decide +kernel
theorem dX3_secondOf_4 : decode mX3_secondOf.2.1 4 = .ok (.aload_n 0, 1) := by decide +kernel
theorem dX3_secondOf_5 : decode mX3_secondOf.2.1 5 = .ok (.getfield 29, 3) := by decide +kernel
theorem dX3_secondOf_8 : decode mX3_secondOf.2.1 8 = .ok (.iload_n 1, 1) := by decide +kernel
theorem dX3_secondOf_9 : decode mX3_secondOf.2.1 9 = .ok (.aaload, 1) := by decide +kernel
theorem dX3_secondOf_10 : decode mX3_secondOf.2.1 10 = .ok (.iload_n 2, 1) := by decide +kernel
theorem dX3_secondOf_11 : decode mX3_secondOf.2.1 11 = .ok (.iaload, 1) := by decide +kernel
theorem dX3_secondOf_12 : decode mX3_secondOf.2.1 12 = .ok (.iaload, 1) := by decide +kernel
theorem dX3_secondOf_13 : decode mX3_secondOf.2.1 13 = .ok (.ireturn, 1) := by decide +kernel
def fX3_secondOf (t : Nat) (p1 : Int32) (p2 : Int32) (σ : gS) : Option (Int32 × gS) :=
  gg (¬ (p1 < 0 ∨ 4 ≤ p1.toNatClampNeg)) (
  gg (¬ (p2 < 0 ∨ 60 ≤ p2.toNatClampNeg)) (
  gg (¬ (σ.1 (t + 7 + 1 * p1.toNatClampNeg) p2.toNatClampNeg < 0 ∨ 130 ≤ (σ.1 (t + 7 + 1 * p1.toNatClampNeg) p2.toNatClampNeg).toNatClampNeg)) (
  some (σ.1 (t + 4) ((σ.1 (t + 7 + 1 * p1.toNatClampNeg) p2.toNatClampNeg).toNatClampNeg), σ))))
set_option maxHeartbeats 4000000 in
set_option maxRecDepth 100000 in
theorem pX3_secondOf {E : gE} {t : Nat} {p1 : Int32} {p2 : Int32} {r : Int32} {σ' : gS} {σ : gS} (ht : gLk t) (h : fX3_secondOf t p1 p2 σ = some (r, σ')) : gG E mX3_secondOf 0 [(0, .ref t), (1, .int p1), (2, .int p2)] [] σ (some (.int r)) σ' := by
  unfold fX3_secondOf at h
  refine g_aload_n dX3_secondOf_0 rfl 0 rfl ?_
  refine g_getC (n := (t + 4)) dX3_secondOf_1 (gi_lk ht) rfl fl_RX3_21 ?_
  refine g_aload_n dX3_secondOf_4 rfl 0 rfl ?_
  refine g_getC (n := (t + 6)) dX3_secondOf_5 (gi_lk ht) rfl fl_RX3_29 ?_
  refine g_iload_n dX3_secondOf_8 rfl 1 rfl ?_
  obtain ⟨g1, h⟩ := gg_some h
  refine g_aaldA dX3_secondOf_9 (gi_lk6 ht) g1 ?_
  refine g_topr (y := (t + 7 + 1 * p1.toNatClampNeg)) rfl ?_
  refine g_iload_n dX3_secondOf_10 rfl 2 rfl ?_
  obtain ⟨g2, h⟩ := gg_some h
  refine g_iald dX3_secondOf_11 (gi_lkm ht (vp_lt g1)) g2 ?_
  obtain ⟨g3, h⟩ := gg_some h
  refine g_iald dX3_secondOf_12 (gi_lk4 ht) g3 ?_
  obtain ⟨rfl, rfl⟩ := so_inj h
  exact g_iret dX3_secondOf_13 rfl
theorem zX3_secondOf {E : gE} {t : Nat} {p1 : Int32} {p2 : Int32} {r : Int32} {σ σ' : gS} (ht : gLk t) (h : fX3_secondOf t p1 p2 σ = some (r, σ')) : gC E mX3_secondOf [.ref t, .int p1, .int p2] σ (some (.int r)) σ' :=
  gC_of (by decide +kernel) rfl (Nat.le_of_ble_eq_true rfl) (pX3_secondOf ht h)
theorem fl_RX1_27 : gFl RX1 27 1 4 := ⟨RX1, TX1, 10, rfl, by decide, ux_1, Or.inl (gm 293 (by decide +kernel) rfl)⟩
def mX1_findTogether : gM := (yX1_findTogether, cX1_findTogether, RX1, 4, none, 3, 74)
theorem dX1_findTogether_0 : decode mX1_findTogether.2.1 0 = .ok (.aload_n 0, 1) := by decide +kernel
theorem dX1_findTogether_1 : decode mX1_findTogether.2.1 1 = .ok (.getfield 27, 3) := by decide +kernel
theorem dX1_findTogether_4 : decode mX1_findTogether.2.1 4 = .ok (.iconst 0, 1) := by decide +kernel
theorem dX1_findTogether_5 : decode mX1_findTogether.2.1 5 = .ok (.invokestatic 40, 3) := by decide +kernel
theorem dX1_findTogether_8 : decode mX1_findTogether.2.1 8 = .ok (.iconst 0, 1) := by decide +kernel
theorem dX1_findTogether_9 : decode mX1_findTogether.2.1 9 = .ok (.istore_n 2, 1) := by decide +kernel
theorem dX1_findTogether_10 : decode mX1_findTogether.2.1 10 = .ok (.iload_n 2, 1) := by decide +kernel
theorem dX1_findTogether_11 : decode mX1_findTogether.2.1 11 = .ok (.iload_n 1, 1) := by decide +kernel
theorem dX1_findTogether_12 : decode mX1_findTogether.2.1 12 = .ok (.if_icmp .ge 67, 3) := by decide +kernel
theorem dX1_findTogether_15 : decode mX1_findTogether.2.1 15 = .ok (.aload_n 0, 1) := by decide +kernel
theorem dX1_findTogether_16 : decode mX1_findTogether.2.1 16 = .ok (.getfield 27, 3) := by decide +kernel
theorem dX1_findTogether_19 : decode mX1_findTogether.2.1 19 = .ok (.iload_n 2, 1) := by decide +kernel
theorem dX1_findTogether_20 : decode mX1_findTogether.2.1 20 = .ok (.dup2, 1) := by decide +kernel
theorem dX1_findTogether_21 : decode mX1_findTogether.2.1 21 = .ok (.iaload, 1) := by decide +kernel
theorem dX1_findTogether_22 : decode mX1_findTogether.2.1 22 = .ok (.iconst 1, 1) := by decide +kernel
theorem dX1_findTogether_23 : decode mX1_findTogether.2.1 23 = .ok (.iload_n 2, 1) := by decide +kernel
theorem dX1_findTogether_24 : decode mX1_findTogether.2.1 24 = .ok (.ishl, 1) := by decide +kernel
theorem dX1_findTogether_25 : decode mX1_findTogether.2.1 25 = .ok (.ior, 1) := by decide +kernel
theorem dX1_findTogether_26 : decode mX1_findTogether.2.1 26 = .ok (.iastore, 1) := by decide +kernel
theorem dX1_findTogether_27 : decode mX1_findTogether.2.1 27 = .ok (.iconst 0, 1) := by decide +kernel
theorem dX1_findTogether_28 : decode mX1_findTogether.2.1 28 = .ok (.istore_n 3, 1) := by decide +kernel
theorem dX1_findTogether_29 : decode mX1_findTogether.2.1 29 = .ok (.iload_n 3, 1) := by decide +kernel
theorem dX1_findTogether_30 : decode mX1_findTogether.2.1 30 = .ok (.iload_n 2, 1) := by decide +kernel
theorem dX1_findTogether_31 : decode mX1_findTogether.2.1 31 = .ok (.if_icmp .ge 42, 3) := by decide +kernel
theorem dX1_findTogether_34 : decode mX1_findTogether.2.1 34 = .ok (.aload_n 0, 1) := by decide +kernel
theorem dX1_findTogether_35 : decode mX1_findTogether.2.1 35 = .ok (.iload_n 2, 1) := by decide +kernel
theorem dX1_findTogether_36 : decode mX1_findTogether.2.1 36 = .ok (.iload_n 3, 1) := by decide +kernel
theorem dX1_findTogether_37 : decode mX1_findTogether.2.1 37 = .ok (.invokevirtual 82, 3) := by decide +kernel
theorem dX1_findTogether_40 : decode mX1_findTogether.2.1 40 = .ok (.ifCond .ne 27, 3) := by decide +kernel
theorem dX1_findTogether_43 : decode mX1_findTogether.2.1 43 = .ok (.aload_n 0, 1) := by decide +kernel
theorem dX1_findTogether_44 : decode mX1_findTogether.2.1 44 = .ok (.getfield 27, 3) := by decide +kernel
theorem dX1_findTogether_47 : decode mX1_findTogether.2.1 47 = .ok (.iload_n 2, 1) := by decide +kernel
theorem dX1_findTogether_48 : decode mX1_findTogether.2.1 48 = .ok (.dup2, 1) := by decide +kernel
theorem dX1_findTogether_49 : decode mX1_findTogether.2.1 49 = .ok (.iaload, 1) := by decide +kernel
theorem dX1_findTogether_50 : decode mX1_findTogether.2.1 50 = .ok (.iconst 1, 1) := by decide +kernel
theorem dX1_findTogether_51 : decode mX1_findTogether.2.1 51 = .ok (.iload_n 3, 1) := by decide +kernel
theorem dX1_findTogether_52 : decode mX1_findTogether.2.1 52 = .ok (.ishl, 1) := by decide +kernel
theorem dX1_findTogether_53 : decode mX1_findTogether.2.1 53 = .ok (.ior, 1) := by decide +kernel
theorem dX1_findTogether_54 : decode mX1_findTogether.2.1 54 = .ok (.iastore, 1) := by decide +kernel
theorem dX1_findTogether_55 : decode mX1_findTogether.2.1 55 = .ok (.aload_n 0, 1) := by decide +kernel
theorem dX1_findTogether_56 : decode mX1_findTogether.2.1 56 = .ok (.getfield 27, 3) := by decide +kernel
theorem dX1_findTogether_59 : decode mX1_findTogether.2.1 59 = .ok (.iload_n 3, 1) := by decide +kernel
theorem dX1_findTogether_60 : decode mX1_findTogether.2.1 60 = .ok (.dup2, 1) := by decide +kernel
theorem dX1_findTogether_61 : decode mX1_findTogether.2.1 61 = .ok (.iaload, 1) := by decide +kernel
theorem dX1_findTogether_62 : decode mX1_findTogether.2.1 62 = .ok (.iconst 1, 1) := by decide +kernel
theorem dX1_findTogether_63 : decode mX1_findTogether.2.1 63 = .ok (.iload_n 2, 1) := by decide +kernel
theorem dX1_findTogether_64 : decode mX1_findTogether.2.1 64 = .ok (.ishl, 1) := by decide +kernel
theorem dX1_findTogether_65 : decode mX1_findTogether.2.1 65 = .ok (.ior, 1) := by decide +kernel
theorem dX1_findTogether_66 : decode mX1_findTogether.2.1 66 = .ok (.iastore, 1) := by decide +kernel
theorem dX1_findTogether_67 : decode mX1_findTogether.2.1 67 = .ok (.iinc 3 1, 3) := by decide +kernel
theorem dX1_findTogether_70 : decode mX1_findTogether.2.1 70 = .ok (.goto (-41), 3) := by decide +kernel
theorem dX1_findTogether_73 : decode mX1_findTogether.2.1 73 = .ok (.iinc 2 1, 3) := by decide +kernel
theorem dX1_findTogether_76 : decode mX1_findTogether.2.1 76 = .ok (.goto (-66), 3) := by decide +kernel
theorem dX1_findTogether_79 : decode mX1_findTogether.2.1 79 = .ok (.return_, 1) := by decide +kernel
theorem okX1_findTogether_82 : gOkV mX1_findTogether mX1_wouldBeNeeded 82 2 := ⟨List.forall_mem_cons.mpr ⟨(gm 752 (by decide +kernel) rfl), List.forall_mem_cons.mpr ⟨(gm 749 (by decide +kernel) rfl), List.forall_mem_cons.mpr ⟨(gm 751 (by decide +kernel) rfl), List.forall_mem_cons.mpr ⟨(gm 23 (by decide +kernel) rfl), List.forall_mem_cons.mpr ⟨(gm 114 (by decide +kernel) rfl), fun _ h => absurd h List.not_mem_nil⟩⟩⟩⟩⟩, by decide +kernel, by decide +kernel, by decide +kernel⟩
theorem okX1_findTogether_40 : gOkS mX1_findTogether mJ7_fill_53178 40 2 := ⟨List.forall_mem_cons.mpr ⟨(gm 587 (by decide +kernel) rfl), List.forall_mem_cons.mpr ⟨(gm 739 (by decide +kernel) rfl), List.forall_mem_cons.mpr ⟨(gm 586 (by decide +kernel) rfl), List.forall_mem_cons.mpr ⟨(gm 123 (by decide +kernel) rfl), fun _ h => absurd h List.not_mem_nil⟩⟩⟩⟩, by decide +kernel, by decide +kernel, by decide +kernel⟩
def fX1_findTogether_67 (p1 : Int32) (k10 : Int32 → gS → Option (Unit × gS)) (k29 : Int32 → Int32 → gS → Option (Unit × gS)) (v2 : Int32) (v3 : Int32) (σ : gS) : Option (Unit × gS) :=
  bnd (v3 + 1) fun x1 =>
  k29 v2 x1 σ
set_option maxHeartbeats 4000000 in
set_option maxRecDepth 100000 in
theorem pX1_findTogether_67 {E : gE} {p1 : Int32} {k10 : Int32 → gS → Option (Unit × gS)} {k29 : Int32 → Int32 → gS → Option (Unit × gS)} {r : Unit} {σ' : gS} {v2 : Int32} {v3 : Int32} {σ : gS} (hk10 : ∀ (v2 : Int32) (σ : gS), k10 v2 σ = some (r, σ') → gG E mX1_findTogether 10 [(0, .ref 28), (1, .int p1), (2, .int v2)] [] σ (none) σ') (hk29 : ∀ (v2 : Int32) (v3 : Int32) (σ : gS), k29 v2 v3 σ = some (r, σ') → gG E mX1_findTogether 29 [(0, .ref 28), (1, .int p1), (2, .int v2), (3, .int v3)] [] σ (none) σ') (h : fX1_findTogether_67 p1 k10 k29 v2 v3 σ = some (r, σ')) : gG E mX1_findTogether 67 [(0, .ref 28), (1, .int p1), (2, .int v2), (3, .int v3)] [] σ (none) σ' := by
  unfold fX1_findTogether_67 at h
  obtain ⟨x1, ex1, h⟩ := bnd_nm h
  refine g_iinc (j := 3) (v := x1) (lv' := [(3, .int x1), (0, .ref 28), (1, .int p1), (2, .int v2)]) dX1_findTogether_67 rfl (by rw [ex1]; rfl) (Nat.le_of_ble_eq_true rfl) rfl ?_
  refine g_goto (t := 29) dX1_findTogether_70 (by decide) ?_
  refine g_sub [1, 2, 3, 0] rfl ?_
  exact hk29 v2 x1 σ h
def fX1_findTogether_29 (p1 : Int32) (k10 : Int32 → gS → Option (Unit × gS)) : Nat → Int32 → Int32 → gS → Option (Unit × gS)
  | 0, _, _, _ => none
  | n + 1, v2, v3, σ => if v2 ≤ v3 then
    bnd (v2 + 1) fun x2 =>
    k10 x2 σ
  else
    bd (fX1_wouldBeNeeded v2 v3 σ) fun x3 σ4 =>
    if x3 = 0 then
      gg (¬ (v2 < 0 ∨ 24 ≤ v2.toNatClampNeg)) (
      gg (¬ (v2 < 0 ∨ 24 ≤ v2.toNatClampNeg)) (
      bnd (gsI σ4 57 v2.toNatClampNeg ((σ4.1 57 v2.toNatClampNeg) ||| (1 <<< (v3 &&& 31)))) fun σ9 =>
      gg (¬ (v3 < 0 ∨ 24 ≤ v3.toNatClampNeg)) (
      gg (¬ (v3 < 0 ∨ 24 ≤ v3.toNatClampNeg)) (
      bnd (gsI σ9 57 v3.toNatClampNeg ((σ9.1 57 v3.toNatClampNeg) ||| (1 <<< (v2 &&& 31)))) fun σ12 =>
      fX1_findTogether_67 p1 k10 (fun v2 v3 σ => fX1_findTogether_29 p1 k10 n v2 v3 σ) v2 v3 σ12))))
    else
      fX1_findTogether_67 p1 k10 (fun v2 v3 σ => fX1_findTogether_29 p1 k10 n v2 v3 σ) v2 v3 σ4
set_option maxHeartbeats 4000000 in
set_option maxRecDepth 100000 in
theorem pX1_findTogether_29 {E : gE} {p1 : Int32} {k10 : Int32 → gS → Option (Unit × gS)} {r : Unit} {σ' : gS} (hk10 : ∀ (v2 : Int32) (σ : gS), k10 v2 σ = some (r, σ') → gG E mX1_findTogether 10 [(0, .ref 28), (1, .int p1), (2, .int v2)] [] σ (none) σ') : ∀ (n : Nat) (v2 : Int32) (v3 : Int32) (σ : gS), fX1_findTogether_29 p1 k10 n v2 v3 σ = some (r, σ') → gG E mX1_findTogether 29 [(0, .ref 28), (1, .int p1), (2, .int v2), (3, .int v3)] [] σ (none) σ' := by
  intro n
  induction n with
  | zero => intro v2 v3 σ h; exact absurd (show none = some (r, σ') from h) (by intro q; cases q)
  | succ n ih =>
  intro v2 v3 σ h
  unfold fX1_findTogether_29 at h
  refine g_iload_n dX1_findTogether_29 rfl 3 rfl ?_
  refine g_iload_n dX1_findTogether_30 rfl 2 rfl ?_
  refine g_icmp_ge (t := 73) dX1_findTogether_31 (by decide) (fun c1 => ?_) (fun c1 => ?_)
  · replace h := if_t h c1
    obtain ⟨x2, ex2, h⟩ := bnd_nm h
    refine g_iinc (j := 2) (v := x2) (lv' := [(2, .int x2), (0, .ref 28), (1, .int p1), (3, .int v3)]) dX1_findTogether_73 rfl (by rw [ex2]; rfl) (Nat.le_of_ble_eq_true rfl) rfl ?_
    refine g_goto (t := 10) dX1_findTogether_76 (by decide) ?_
    refine g_sub [1, 2, 0] rfl ?_
    exact hk10 x2 σ h
  · replace h := if_f h c1
    refine g_aload_n dX1_findTogether_34 rfl 0 rfl ?_
    refine g_iload_n dX1_findTogether_35 rfl 2 rfl ?_
    refine g_iload_n dX1_findTogether_36 rfl 3 rfl ?_
    obtain ⟨x3, σ4, y5, h⟩ := bd_some h
    refine g_callVr (as := [.int v2, .int v3]) (st := []) (zX1_wouldBeNeeded y5) dX1_findTogether_37 gi_28 rfl okX1_findTogether_82 (Nat.le_of_ble_eq_true rfl) ?_
    refine g_if_ne (t := 67) dX1_findTogether_40 (by decide) (fun c6 => ?_) (fun c6 => ?_)
    · replace h := if_f h c6
      exact pX1_findTogether_67 hk10 (fun v2 v3 σ h => ih v2 v3 σ h) h
    · replace h := if_t h c6
      refine g_aload_n dX1_findTogether_43 rfl 0 rfl ?_
      refine g_getC (n := 57) dX1_findTogether_44 gi_28 rfl fl_RX1_27 ?_
      refine g_iload_n dX1_findTogether_47 rfl 2 rfl ?_
      refine g_dup2 dX1_findTogether_48 rfl rfl ?_
      obtain ⟨g7, h⟩ := gg_some h
      refine g_iald dX1_findTogether_49 gi_57 g7 ?_
      refine g_iconst (v := 1) dX1_findTogether_50 (by decide) ?_
      refine g_iload_n dX1_findTogether_51 rfl 3 rfl ?_
      refine g_ishl dX1_findTogether_52 ?_
      refine g_ior dX1_findTogether_53 ?_
      obtain ⟨g8, h⟩ := gg_some h
      obtain ⟨σ9, eσ9, h⟩ := bnd_nm h
      refine g_iast dX1_findTogether_54 gi_57 g8 (g_st eσ9 ?_)
      refine g_aload_n dX1_findTogether_55 rfl 0 rfl ?_
      refine g_getC (n := 57) dX1_findTogether_56 gi_28 rfl fl_RX1_27 ?_
      refine g_iload_n dX1_findTogether_59 rfl 3 rfl ?_
      refine g_dup2 dX1_findTogether_60 rfl rfl ?_
      obtain ⟨g10, h⟩ := gg_some h
      refine g_iald dX1_findTogether_61 gi_57 g10 ?_
      refine g_iconst (v := 1) dX1_findTogether_62 (by decide) ?_
      refine g_iload_n dX1_findTogether_63 rfl 2 rfl ?_
      refine g_ishl dX1_findTogether_64 ?_
      refine g_ior dX1_findTogether_65 ?_
      obtain ⟨g11, h⟩ := gg_some h
      obtain ⟨σ12, eσ12, h⟩ := bnd_nm h
      refine g_iast dX1_findTogether_66 gi_57 g11 (g_st eσ12 ?_)
      exact pX1_findTogether_67 hk10 (fun v2 v3 σ h => ih v2 v3 σ h) h
def fX1_findTogether_10 (p1 : Int32) : Nat → Int32 → gS → Option (Unit × gS)
  | 0, _, _ => none
  | n + 1, v2, σ => if p1 ≤ v2 then
    some ((), σ)
  else
    gg (¬ (v2 < 0 ∨ 24 ≤ v2.toNatClampNeg)) (
    gg (¬ (v2 < 0 ∨ 24 ≤ v2.toNatClampNeg)) (
    bnd (gsI σ 57 v2.toNatClampNeg ((σ.1 57 v2.toNatClampNeg) ||| (1 <<< (v2 &&& 31)))) fun σ4 =>
    fX1_findTogether_29 p1 (fun v2 σ => fX1_findTogether_10 p1 n v2 σ) 2000 v2 0 σ4))
set_option maxHeartbeats 4000000 in
set_option maxRecDepth 100000 in
theorem pX1_findTogether_10 {E : gE} {p1 : Int32} {r : Unit} {σ' : gS} : ∀ (n : Nat) (v2 : Int32) (σ : gS), fX1_findTogether_10 p1 n v2 σ = some (r, σ') → gG E mX1_findTogether 10 [(0, .ref 28), (1, .int p1), (2, .int v2)] [] σ (none) σ' := by
  intro n
  induction n with
  | zero => intro v2 σ h; exact absurd (show none = some (r, σ') from h) (by intro q; cases q)
  | succ n ih =>
  intro v2 σ h
  unfold fX1_findTogether_10 at h
  refine g_iload_n dX1_findTogether_10 rfl 2 rfl ?_
  refine g_iload_n dX1_findTogether_11 rfl 1 rfl ?_
  refine g_icmp_ge (t := 79) dX1_findTogether_12 (by decide) (fun c1 => ?_) (fun c1 => ?_)
  · replace h := if_t h c1
    obtain ⟨rfl, rfl⟩ := so_inj h
    exact g_vret dX1_findTogether_79 rfl
  · replace h := if_f h c1
    refine g_aload_n dX1_findTogether_15 rfl 0 rfl ?_
    refine g_getC (n := 57) dX1_findTogether_16 gi_28 rfl fl_RX1_27 ?_
    refine g_iload_n dX1_findTogether_19 rfl 2 rfl ?_
    refine g_dup2 dX1_findTogether_20 rfl rfl ?_
    obtain ⟨g2, h⟩ := gg_some h
    refine g_iald dX1_findTogether_21 gi_57 g2 ?_
    refine g_iconst (v := 1) dX1_findTogether_22 (by decide) ?_
    refine g_iload_n dX1_findTogether_23 rfl 2 rfl ?_
    refine g_ishl dX1_findTogether_24 ?_
    refine g_ior dX1_findTogether_25 ?_
    obtain ⟨g3, h⟩ := gg_some h
    obtain ⟨σ4, eσ4, h⟩ := bnd_nm h
    refine g_iast dX1_findTogether_26 gi_57 g3 (g_st eσ4 ?_)
    refine g_iconst (v := 0) dX1_findTogether_27 (by decide) ?_
    refine g_istore_n (lv' := [(3, .int 0), (0, .ref 28), (1, .int p1), (2, .int v2)]) dX1_findTogether_28 rfl (Nat.le_of_ble_eq_true rfl) rfl ?_
    refine g_sub [1, 2, 3, 0] rfl ?_
    exact pX1_findTogether_29 (fun v2 σ h => ih v2 σ h) 2000 v2 0 σ4 h
def fX1_findTogether (p1 : Int32) (σ : gS) : Option (Unit × gS) :=
  bd (fJ7_fill_53178 57 24 0 σ) fun _ σ1 =>
  fX1_findTogether_10 p1 2000 0 σ1
set_option maxHeartbeats 4000000 in
set_option maxRecDepth 100000 in
theorem pX1_findTogether {E : gE} {p1 : Int32} {r : Unit} {σ' : gS} {σ : gS} (h : fX1_findTogether p1 σ = some (r, σ')) : gG E mX1_findTogether 0 [(0, .ref 28), (1, .int p1)] [] σ (none) σ' := by
  unfold fX1_findTogether at h
  refine g_aload_n dX1_findTogether_0 rfl 0 rfl ?_
  refine g_getC (n := 57) dX1_findTogether_1 gi_28 rfl fl_RX1_27 ?_
  refine g_iconst (v := 0) dX1_findTogether_4 (by decide) ?_
  obtain ⟨_, σ1, y2, h⟩ := bd_some h
  refine g_callSv (as := [.ref 57, .int 0]) (st := []) (zJ7_fill_53178 gi_57 (by decide) y2) dX1_findTogether_5 okX1_findTogether_40 (Nat.le_of_ble_eq_true rfl) ?_
  refine g_iconst (v := 0) dX1_findTogether_8 (by decide) ?_
  refine g_istore_n (lv' := [(2, .int 0), (0, .ref 28), (1, .int p1)]) dX1_findTogether_9 rfl (Nat.le_of_ble_eq_true rfl) rfl ?_
  refine g_sub [1, 2, 0] rfl ?_
  exact pX1_findTogether_10 2000 0 σ1 h
theorem zX1_findTogether {E : gE} {p1 : Int32} {r : Unit} {σ σ' : gS} (h : fX1_findTogether p1 σ = some (r, σ')) : gC E mX1_findTogether [.ref 28, .int p1] σ (none) σ' :=
  gC_of (by decide +kernel) rfl (Nat.le_of_ble_eq_true rfl) (pX1_findTogether h)
def mX1_areOneCluster : gM := (yX1_areOneCluster, cX1_areOneCluster, RX1, 6, (some .boolean), 1, 22)
theorem dX1_areOneCluster_0 : decode mX1_areOneCluster.2.1 0 = .ok (.iconst 1, 1) := by decide +kernel
theorem dX1_areOneCluster_1 : decode mX1_areOneCluster.2.1 1 = .ok (.aload_n 1, 1) := by decide +kernel
theorem dX1_areOneCluster_2 : decode mX1_areOneCluster.2.1 2 = .ok (.iconst 1, 1) := by decide +kernel
theorem dX1_areOneCluster_3 : decode mX1_areOneCluster.2.1 3 = .ok (.iload_n 2, 1) := by decide +kernel
theorem dX1_areOneCluster_4 : decode mX1_areOneCluster.2.1 4 = .ok (.invokevirtual 57, 3) := by decide +kernel
theorem dX1_areOneCluster_7 : decode mX1_areOneCluster.2.1 7 = .ok (.ishl, 1) := by decide +kernel
theorem dX1_areOneCluster_8 : decode mX1_areOneCluster.2.1 8 = .ok (.iconst 1, 1) := by decide +kernel
theorem dX1_areOneCluster_9 : decode mX1_areOneCluster.2.1 9 = .ok (.aload_n 1, 1) := by decide +kernel
theorem dX1_areOneCluster_10 : decode mX1_areOneCluster.2.1 10 = .ok (.iconst 1, 1) := by decide +kernel
theorem dX1_areOneCluster_11 : decode mX1_areOneCluster.2.1 11 = .ok (.iload_n 2, 1) := by decide +kernel
theorem dX1_areOneCluster_12 : decode mX1_areOneCluster.2.1 12 = .ok (.invokevirtual 61, 3) := by decide +kernel
theorem dX1_areOneCluster_15 : decode mX1_areOneCluster.2.1 15 = .ok (.ishl, 1) := by decide +kernel
theorem dX1_areOneCluster_16 : decode mX1_areOneCluster.2.1 16 = .ok (.ior, 1) := by decide +kernel
theorem dX1_areOneCluster_17 : decode mX1_areOneCluster.2.1 17 = .ok (.istore 4, 2) := by decide +kernel
theorem dX1_areOneCluster_19 : decode mX1_areOneCluster.2.1 19 = .ok (.aload_n 0, 1) := by decide +kernel
theorem dX1_areOneCluster_20 : decode mX1_areOneCluster.2.1 20 = .ok (.getfield 27, 3) := by decide +kernel
theorem dX1_areOneCluster_23 : decode mX1_areOneCluster.2.1 23 = .ok (.aload_n 1, 1) := by decide +kernel
theorem dX1_areOneCluster_24 : decode mX1_areOneCluster.2.1 24 = .ok (.iconst 1, 1) := by decide +kernel
theorem dX1_areOneCluster_25 : decode mX1_areOneCluster.2.1 25 = .ok (.iload_n 3, 1) := by decide +kernel
theorem dX1_areOneCluster_26 : decode mX1_areOneCluster.2.1 26 = .ok (.invokevirtual 57, 3) := by decide +kernel
theorem dX1_areOneCluster_29 : decode mX1_areOneCluster.2.1 29 = .ok (.iaload, 1) := by decide +kernel
theorem dX1_areOneCluster_30 : decode mX1_areOneCluster.2.1 30 = .ok (.aload_n 0, 1) := by decide +kernel
theorem dX1_areOneCluster_31 : decode mX1_areOneCluster.2.1 31 = .ok (.getfield 27, 3) := by decide +kernel
theorem dX1_areOneCluster_34 : decode mX1_areOneCluster.2.1 34 = .ok (.aload_n 1, 1) := by decide +kernel
theorem dX1_areOneCluster_35 : decode mX1_areOneCluster.2.1 35 = .ok (.iconst 1, 1) := by decide +kernel
theorem dX1_areOneCluster_36 : decode mX1_areOneCluster.2.1 36 = .ok (.iload_n 3, 1) := by decide +kernel
theorem dX1_areOneCluster_37 : decode mX1_areOneCluster.2.1 37 = .ok (.invokevirtual 61, 3) := by decide +kernel
theorem dX1_areOneCluster_40 : decode mX1_areOneCluster.2.1 40 = .ok (.iaload, 1) := by decide +kernel
theorem dX1_areOneCluster_41 : decode mX1_areOneCluster.2.1 41 = .ok (.iand, 1) := by decide +kernel
theorem dX1_areOneCluster_42 : decode mX1_areOneCluster.2.1 42 = .ok (.istore 5, 2) := by decide +kernel
theorem dX1_areOneCluster_44 : decode mX1_areOneCluster.2.1 44 = .ok (.iload 5, 2) := by decide +kernel
theorem dX1_areOneCluster_46 : decode mX1_areOneCluster.2.1 46 = .ok (.iload 4, 2) := by decide +kernel
theorem dX1_areOneCluster_48 : decode mX1_areOneCluster.2.1 48 = .ok (.iand, 1) := by decide +kernel
theorem dX1_areOneCluster_49 : decode mX1_areOneCluster.2.1 49 = .ok (.iload 4, 2) := by decide +kernel
theorem dX1_areOneCluster_51 : decode mX1_areOneCluster.2.1 51 = .ok (.if_icmp .ne 7, 3) := by decide +kernel
theorem dX1_areOneCluster_54 : decode mX1_areOneCluster.2.1 54 = .ok (.iconst 1, 1) := by decide +kernel
theorem dX1_areOneCluster_55 : decode mX1_areOneCluster.2.1 55 = .ok (.goto 4, 3) := by decide +kernel
theorem dX1_areOneCluster_58 : decode mX1_areOneCluster.2.1 58 = .ok (.iconst 0, 1) := by decide +kernel
theorem dX1_areOneCluster_59 : decode mX1_areOneCluster.2.1 59 = .ok (.ireturn, 1) := by decide +kernel
theorem okX1_areOneCluster_57 : gOkV mX1_areOneCluster mX3_firstOf 57 2 := ⟨List.forall_mem_cons.mpr ⟨(gm 680 (by decide +kernel) rfl), List.forall_mem_cons.mpr ⟨(gm 765 (by decide +kernel) rfl), List.forall_mem_cons.mpr ⟨(gm 678 (by decide +kernel) rfl), List.forall_mem_cons.mpr ⟨(gm 679 (by decide +kernel) rfl), List.forall_mem_cons.mpr ⟨(gm 109 (by decide +kernel) rfl), fun _ h => absurd h List.not_mem_nil⟩⟩⟩⟩⟩, by decide +kernel, by decide +kernel, by decide +kernel⟩
theorem okX1_areOneCluster_61 : gOkV mX1_areOneCluster mX3_secondOf 61 2 := ⟨List.forall_mem_cons.mpr ⟨(gm 688 (by decide +kernel) rfl), List.forall_mem_cons.mpr ⟨(gm 766 (by decide +kernel) rfl), List.forall_mem_cons.mpr ⟨(gm 686 (by decide +kernel) rfl), List.forall_mem_cons.mpr ⟨(gm 687 (by decide +kernel) rfl), List.forall_mem_cons.mpr ⟨(gm 109 (by decide +kernel) rfl), fun _ h => absurd h List.not_mem_nil⟩⟩⟩⟩⟩, by decide +kernel, by decide +kernel, by decide +kernel⟩
def fX1_areOneCluster_59 (p1 : Nat) (p2 : Int32) (p3 : Int32) (s0 : Int32) (σ : gS) : Option (Int32 × gS) :=
  gg (s0 = 0 ∨ s0 = 1) (
  some (s0, σ))
set_option maxHeartbeats 4000000 in
set_option maxRecDepth 100000 in
theorem pX1_areOneCluster_59 {E : gE} {p1 : Nat} {p2 : Int32} {p3 : Int32} {r : Int32} {σ' : gS} {s0 : Int32} {σ : gS} (hp1 : gLk p1) (h : fX1_areOneCluster_59 p1 p2 p3 s0 σ = some (r, σ')) : gG E mX1_areOneCluster 59 [] [.int s0] σ (some (.int r)) σ' := by
  unfold fX1_areOneCluster_59 at h
  obtain ⟨g1, h⟩ := gg_some h
  obtain ⟨rfl, rfl⟩ := so_inj h
  exact g_zret dX1_areOneCluster_59 rfl g1
def fX1_areOneCluster (p1 : Nat) (p2 : Int32) (p3 : Int32) (σ : gS) : Option (Int32 × gS) :=
  bd (fX3_firstOf p1 1 p2 σ) fun x1 σ2 =>
  bd (fX3_secondOf p1 1 p2 σ2) fun x4 σ5 =>
  bnd ((1 <<< (x1 &&& 31)) ||| (1 <<< (x4 &&& 31))) fun x7 =>
  bd (fX3_firstOf p1 1 p3 σ5) fun x8 σ9 =>
  gg (¬ (x8 < 0 ∨ 24 ≤ x8.toNatClampNeg)) (
  bd (fX3_secondOf p1 1 p3 σ9) fun x12 σ13 =>
  gg (¬ (x12 < 0 ∨ 24 ≤ x12.toNatClampNeg)) (
  bnd ((σ9.1 57 x8.toNatClampNeg) &&& (σ13.1 57 x12.toNatClampNeg)) fun x16 =>
  if (x16 &&& x7) = x7 then
    fX1_areOneCluster_59 p1 p2 p3 1 σ13
  else
    fX1_areOneCluster_59 p1 p2 p3 0 σ13))
set_option maxHeartbeats 4000000 in
set_option maxRecDepth 100000 in
theorem pX1_areOneCluster {E : gE} {p1 : Nat} {p2 : Int32} {p3 : Int32} {r : Int32} {σ' : gS} {σ : gS} (hp1 : gLk p1) (h : fX1_areOneCluster p1 p2 p3 σ = some (r, σ')) : gG E mX1_areOneCluster 0 [(0, .ref 28), (1, .ref p1), (2, .int p2), (3, .int p3)] [] σ (some (.int r)) σ' := by
  unfold fX1_areOneCluster at h
  refine g_iconst (v := 1) dX1_areOneCluster_0 (by decide) ?_
  refine g_aload_n dX1_areOneCluster_1 rfl 1 rfl ?_
  refine g_iconst (v := 1) dX1_areOneCluster_2 (by decide) ?_
  refine g_iload_n dX1_areOneCluster_3 rfl 2 rfl ?_
  obtain ⟨x1, σ2, y3, h⟩ := bd_some h
  refine g_callVr (as := [.int 1, .int p2]) (st := [.int 1]) (zX3_firstOf hp1 y3) dX1_areOneCluster_4 (gi_lk hp1) rfl okX1_areOneCluster_57 (Nat.le_of_ble_eq_true rfl) ?_
  refine g_ishl dX1_areOneCluster_7 ?_
  refine g_iconst (v := 1) dX1_areOneCluster_8 (by decide) ?_
  refine g_aload_n dX1_areOneCluster_9 rfl 1 rfl ?_
  refine g_iconst (v := 1) dX1_areOneCluster_10 (by decide) ?_
  refine g_iload_n dX1_areOneCluster_11 rfl 2 rfl ?_
  obtain ⟨x4, σ5, y6, h⟩ := bd_some h
  refine g_callVr (as := [.int 1, .int p2]) (st := [.int 1, .int (1 <<< (x1 &&& 31))]) (zX3_secondOf hp1 y6) dX1_areOneCluster_12 (gi_lk hp1) rfl okX1_areOneCluster_61 (Nat.le_of_ble_eq_true rfl) ?_
  refine g_ishl dX1_areOneCluster_15 ?_
  refine g_ior dX1_areOneCluster_16 ?_
  obtain ⟨x7, ex7, h⟩ := bnd_nm h
  refine g_topi ex7 ?_
  refine g_istore (lv' := [(4, .int x7), (0, .ref 28), (1, .ref p1), (2, .int p2), (3, .int p3)]) dX1_areOneCluster_17 (Nat.le_of_ble_eq_true rfl) rfl ?_
  refine g_aload_n dX1_areOneCluster_19 rfl 1 rfl ?_
  refine g_getC (n := 57) dX1_areOneCluster_20 gi_28 rfl fl_RX1_27 ?_
  refine g_aload_n dX1_areOneCluster_23 rfl 2 rfl ?_
  refine g_iconst (v := 1) dX1_areOneCluster_24 (by decide) ?_
  refine g_iload_n dX1_areOneCluster_25 rfl 4 rfl ?_
  obtain ⟨x8, σ9, y10, h⟩ := bd_some h
  refine g_callVr (as := [.int 1, .int p3]) (st := [.ref 57]) (zX3_firstOf hp1 y10) dX1_areOneCluster_26 (gi_lk hp1) rfl okX1_areOneCluster_57 (Nat.le_of_ble_eq_true rfl) ?_
  obtain ⟨g11, h⟩ := gg_some h
  refine g_iald dX1_areOneCluster_29 gi_57 g11 ?_
  refine g_aload_n dX1_areOneCluster_30 rfl 1 rfl ?_
  refine g_getC (n := 57) dX1_areOneCluster_31 gi_28 rfl fl_RX1_27 ?_
  refine g_aload_n dX1_areOneCluster_34 rfl 2 rfl ?_
  refine g_iconst (v := 1) dX1_areOneCluster_35 (by decide) ?_
  refine g_iload_n dX1_areOneCluster_36 rfl 4 rfl ?_
  obtain ⟨x12, σ13, y14, h⟩ := bd_some h
  refine g_callVr (as := [.int 1, .int p3]) (st := [.ref 57, .int (σ9.1 57 x8.toNatClampNeg)]) (zX3_secondOf hp1 y14) dX1_areOneCluster_37 (gi_lk hp1) rfl okX1_areOneCluster_61 (Nat.le_of_ble_eq_true rfl) ?_
  obtain ⟨g15, h⟩ := gg_some h
  refine g_iald dX1_areOneCluster_40 gi_57 g15 ?_
  refine g_iand dX1_areOneCluster_41 ?_
  obtain ⟨x16, ex16, h⟩ := bnd_nm h
  refine g_topi ex16 ?_
  refine g_istore (lv' := [(5, .int x16), (4, .int x7), (0, .ref 28), (1, .ref p1), (2, .int p2), (3, .int p3)]) dX1_areOneCluster_42 (Nat.le_of_ble_eq_true rfl) rfl ?_
  refine g_iload dX1_areOneCluster_44 0 rfl ?_
  refine g_iload dX1_areOneCluster_46 1 rfl ?_
  refine g_iand dX1_areOneCluster_48 ?_
  refine g_iload dX1_areOneCluster_49 1 rfl ?_
  refine g_icmp_ne (t := 58) dX1_areOneCluster_51 (by decide) (fun c17 => ?_) (fun c17 => ?_)
  · replace h := if_f h c17
    refine g_iconst (v := 0) dX1_areOneCluster_58 (by decide) ?_
    refine g_sub [] rfl ?_
    exact pX1_areOneCluster_59 hp1 h
  · replace h := if_t h c17
    refine g_iconst (v := 1) dX1_areOneCluster_54 (by decide) ?_
    refine g_goto (t := 59) dX1_areOneCluster_55 (by decide) ?_
    refine g_sub [] rfl ?_
    exact pX1_areOneCluster_59 hp1 h
theorem zX1_areOneCluster {E : gE} {p1 : Nat} {p2 : Int32} {p3 : Int32} {r : Int32} {σ σ' : gS} (hp1 : gLk p1) (h : fX1_areOneCluster p1 p2 p3 σ = some (r, σ')) : gC E mX1_areOneCluster [.ref 28, .ref p1, .int p2, .int p3] σ (some (.int r)) σ' :=
  gC_of (by decide +kernel) rfl (Nat.le_of_ble_eq_true rfl) (pX1_areOneCluster hp1 h)
theorem fl_RX1_30 : gFl RX1 30 1 5 := ⟨RX1, TX1, 10, rfl, by decide, ux_1, Or.inl (gm 294 (by decide +kernel) rfl)⟩
theorem fl_RX1_95 : gFl RX1 95 1 9 := ⟨RX1, TX1, 10, rfl, by decide, ux_1, Or.inl (gm 301 (by decide +kernel) rfl)⟩
theorem fp_RX1_95 : gFp RX1 95 1 9 .int := ⟨RX1, TX1, 10, rfl, by decide, ux_1, Or.inl (gm 301 (by decide +kernel) rfl), rfl, by decide +kernel, ⟨tyX1, tyX1_ok⟩, nmX1⟩
def mX1_findClusters : gM := (yX1_findClusters, cX1_findClusters, RX1, 4, none, 2, 47)
theorem dX1_findClusters_0 : decode mX1_findClusters.2.1 0 = .ok (.aload_n 0, 1) := by decide +kernel
theorem dX1_findClusters_1 : decode mX1_findClusters.2.1 1 = .ok (.iconst 0, 1) := by decide +kernel
theorem dX1_findClusters_2 : decode mX1_findClusters.2.1 2 = .ok (.putfield 95, 3) := by decide +kernel
theorem dX1_findClusters_5 : decode mX1_findClusters.2.1 5 = .ok (.iconst 0, 1) := by decide +kernel
theorem dX1_findClusters_6 : decode mX1_findClusters.2.1 6 = .ok (.istore_n 2, 1) := by decide +kernel
theorem dX1_findClusters_7 : decode mX1_findClusters.2.1 7 = .ok (.iload_n 2, 1) := by decide +kernel
theorem dX1_findClusters_8 : decode mX1_findClusters.2.1 8 = .ok (.aload_n 1, 1) := by decide +kernel
theorem dX1_findClusters_9 : decode mX1_findClusters.2.1 9 = .ok (.iconst 1, 1) := by decide +kernel
theorem dX1_findClusters_10 : decode mX1_findClusters.2.1 10 = .ok (.invokevirtual 33, 3) := by decide +kernel
theorem dX1_findClusters_13 : decode mX1_findClusters.2.1 13 = .ok (.if_icmp .ge 76, 3) := by decide +kernel
theorem dX1_findClusters_16 : decode mX1_findClusters.2.1 16 = .ok (.aload_n 0, 1) := by decide +kernel
theorem dX1_findClusters_17 : decode mX1_findClusters.2.1 17 = .ok (.getfield 30, 3) := by decide +kernel
theorem dX1_findClusters_20 : decode mX1_findClusters.2.1 20 = .ok (.iload_n 2, 1) := by decide +kernel
theorem dX1_findClusters_21 : decode mX1_findClusters.2.1 21 = .ok (.iload_n 2, 1) := by decide +kernel
theorem dX1_findClusters_22 : decode mX1_findClusters.2.1 22 = .ok (.iastore, 1) := by decide +kernel
theorem dX1_findClusters_23 : decode mX1_findClusters.2.1 23 = .ok (.iconst 0, 1) := by decide +kernel
theorem dX1_findClusters_24 : decode mX1_findClusters.2.1 24 = .ok (.istore_n 3, 1) := by decide +kernel
theorem dX1_findClusters_25 : decode mX1_findClusters.2.1 25 = .ok (.iload_n 3, 1) := by decide +kernel
theorem dX1_findClusters_26 : decode mX1_findClusters.2.1 26 = .ok (.iload_n 2, 1) := by decide +kernel
theorem dX1_findClusters_27 : decode mX1_findClusters.2.1 27 = .ok (.if_icmp .ge 36, 3) := by decide +kernel
theorem dX1_findClusters_30 : decode mX1_findClusters.2.1 30 = .ok (.aload_n 0, 1) := by decide +kernel
theorem dX1_findClusters_31 : decode mX1_findClusters.2.1 31 = .ok (.getfield 30, 3) := by decide +kernel
theorem dX1_findClusters_34 : decode mX1_findClusters.2.1 34 = .ok (.iload_n 2, 1) := by decide +kernel
theorem dX1_findClusters_35 : decode mX1_findClusters.2.1 35 = .ok (.iaload, 1) := by decide +kernel
theorem dX1_findClusters_36 : decode mX1_findClusters.2.1 36 = .ok (.iload_n 2, 1) := by decide +kernel
theorem dX1_findClusters_37 : decode mX1_findClusters.2.1 37 = .ok (.if_icmp .ne 26, 3) := by decide +kernel
theorem dX1_findClusters_40 : decode mX1_findClusters.2.1 40 = .ok (.aload_n 0, 1) := by decide +kernel
theorem dX1_findClusters_41 : decode mX1_findClusters.2.1 41 = .ok (.aload_n 1, 1) := by decide +kernel
theorem dX1_findClusters_42 : decode mX1_findClusters.2.1 42 = .ok (.iload_n 2, 1) := by decide +kernel
theorem dX1_findClusters_43 : decode mX1_findClusters.2.1 43 = .ok (.iload_n 3, 1) := by decide +kernel
theorem dX1_findClusters_44 : decode mX1_findClusters.2.1 44 = .ok (.invokevirtual 98, 3) := by decide +kernel
theorem dX1_findClusters_47 : decode mX1_findClusters.2.1 47 = .ok (.ifCond .eq 10, 3) := by decide +kernel
theorem dX1_findClusters_50 : decode mX1_findClusters.2.1 50 = .ok (.aload_n 0, 1) := by decide +kernel
theorem dX1_findClusters_51 : decode mX1_findClusters.2.1 51 = .ok (.getfield 30, 3) := by decide +kernel
theorem dX1_findClusters_54 : decode mX1_findClusters.2.1 54 = .ok (.iload_n 2, 1) := by decide +kernel
theorem dX1_findClusters_55 : decode mX1_findClusters.2.1 55 = .ok (.iload_n 3, 1) := by decide +kernel
theorem dX1_findClusters_56 : decode mX1_findClusters.2.1 56 = .ok (.iastore, 1) := by decide +kernel
theorem dX1_findClusters_57 : decode mX1_findClusters.2.1 57 = .ok (.iinc 3 1, 3) := by decide +kernel
theorem dX1_findClusters_60 : decode mX1_findClusters.2.1 60 = .ok (.goto (-35), 3) := by decide +kernel
theorem dX1_findClusters_63 : decode mX1_findClusters.2.1 63 = .ok (.aload_n 0, 1) := by decide +kernel
theorem dX1_findClusters_64 : decode mX1_findClusters.2.1 64 = .ok (.getfield 30, 3) := by decide +kernel
theorem dX1_findClusters_67 : decode mX1_findClusters.2.1 67 = .ok (.iload_n 2, 1) := by decide +kernel
theorem dX1_findClusters_68 : decode mX1_findClusters.2.1 68 = .ok (.iaload, 1) := by decide +kernel
theorem dX1_findClusters_69 : decode mX1_findClusters.2.1 69 = .ok (.iload_n 2, 1) := by decide +kernel
theorem dX1_findClusters_70 : decode mX1_findClusters.2.1 70 = .ok (.if_icmp .ne 13, 3) := by decide +kernel
theorem dX1_findClusters_73 : decode mX1_findClusters.2.1 73 = .ok (.aload_n 0, 1) := by decide +kernel
theorem dX1_findClusters_74 : decode mX1_findClusters.2.1 74 = .ok (.dup, 1) := by decide +kernel
theorem dX1_findClusters_75 : decode mX1_findClusters.2.1 75 = .ok (.getfield 95, 3) := by decide +kernel
theorem dX1_findClusters_78 : decode mX1_findClusters.2.1 78 = .ok (.iconst 1, 1) := by decide +kernel
theorem dX1_findClusters_79 : decode mX1_findClusters.2.1 79 = .ok (.iadd, 1) := by decide +kernel
theorem dX1_findClusters_80 : decode mX1_findClusters.2.1 80 = .ok (.putfield 95, 3) := by decide +kernel
theorem dX1_findClusters_83 : decode mX1_findClusters.2.1 83 = .ok (.iinc 2 1, 3) := by decide +kernel
theorem dX1_findClusters_86 : decode mX1_findClusters.2.1 86 = .ok (.goto (-79), 3) := by decide +kernel
theorem dX1_findClusters_89 : decode mX1_findClusters.2.1 89 = .ok (.return_, 1) := by decide +kernel
theorem okX1_findClusters_98 : gOkV mX1_findClusters mX1_areOneCluster 98 3 := ⟨List.forall_mem_cons.mpr ⟨(gm 778 (by decide +kernel) rfl), List.forall_mem_cons.mpr ⟨(gm 775 (by decide +kernel) rfl), List.forall_mem_cons.mpr ⟨(gm 777 (by decide +kernel) rfl), List.forall_mem_cons.mpr ⟨(gm 29 (by decide +kernel) rfl), List.forall_mem_cons.mpr ⟨(gm 114 (by decide +kernel) rfl), fun _ h => absurd h List.not_mem_nil⟩⟩⟩⟩⟩, by decide +kernel, by decide +kernel, by decide +kernel⟩
theorem okX1_findClusters_33 : gOkV mX1_findClusters mX3_size 33 1 := ⟨List.forall_mem_cons.mpr ⟨(gm 737 (by decide +kernel) rfl), List.forall_mem_cons.mpr ⟨(gm 734 (by decide +kernel) rfl), List.forall_mem_cons.mpr ⟨(gm 735 (by decide +kernel) rfl), List.forall_mem_cons.mpr ⟨(gm 736 (by decide +kernel) rfl), List.forall_mem_cons.mpr ⟨(gm 109 (by decide +kernel) rfl), fun _ h => absurd h List.not_mem_nil⟩⟩⟩⟩⟩, by decide +kernel, by decide +kernel, by decide +kernel⟩
def fX1_findClusters_57 (p1 : Nat) (k7 : Int32 → gS → Option (Unit × gS)) (k25 : Int32 → Int32 → gS → Option (Unit × gS)) (v2 : Int32) (v3 : Int32) (σ : gS) : Option (Unit × gS) :=
  bnd (v3 + 1) fun x1 =>
  k25 v2 x1 σ
set_option maxHeartbeats 4000000 in
set_option maxRecDepth 100000 in
theorem pX1_findClusters_57 {E : gE} {p1 : Nat} {k7 : Int32 → gS → Option (Unit × gS)} {k25 : Int32 → Int32 → gS → Option (Unit × gS)} {r : Unit} {σ' : gS} {v2 : Int32} {v3 : Int32} {σ : gS} (hp1 : gLk p1) (hk7 : ∀ (v2 : Int32) (σ : gS), k7 v2 σ = some (r, σ') → gG E mX1_findClusters 7 [(0, .ref 28), (1, .ref p1), (2, .int v2)] [] σ (none) σ') (hk25 : ∀ (v2 : Int32) (v3 : Int32) (σ : gS), k25 v2 v3 σ = some (r, σ') → gG E mX1_findClusters 25 [(0, .ref 28), (1, .ref p1), (2, .int v2), (3, .int v3)] [] σ (none) σ') (h : fX1_findClusters_57 p1 k7 k25 v2 v3 σ = some (r, σ')) : gG E mX1_findClusters 57 [(0, .ref 28), (1, .ref p1), (2, .int v2), (3, .int v3)] [] σ (none) σ' := by
  unfold fX1_findClusters_57 at h
  obtain ⟨x1, ex1, h⟩ := bnd_nm h
  refine g_iinc (j := 3) (v := x1) (lv' := [(3, .int x1), (0, .ref 28), (1, .ref p1), (2, .int v2)]) dX1_findClusters_57 rfl (by rw [ex1]; rfl) (Nat.le_of_ble_eq_true rfl) rfl ?_
  refine g_goto (t := 25) dX1_findClusters_60 (by decide) ?_
  refine g_sub [1, 2, 3, 0] rfl ?_
  exact hk25 v2 x1 σ h
def fX1_findClusters_83 (p1 : Nat) (k7 : Int32 → gS → Option (Unit × gS)) (v2 : Int32) (σ : gS) : Option (Unit × gS) :=
  bnd (v2 + 1) fun x1 =>
  k7 x1 σ
set_option maxHeartbeats 4000000 in
set_option maxRecDepth 100000 in
theorem pX1_findClusters_83 {E : gE} {p1 : Nat} {k7 : Int32 → gS → Option (Unit × gS)} {r : Unit} {σ' : gS} {v2 : Int32} {σ : gS} (hp1 : gLk p1) (hk7 : ∀ (v2 : Int32) (σ : gS), k7 v2 σ = some (r, σ') → gG E mX1_findClusters 7 [(0, .ref 28), (1, .ref p1), (2, .int v2)] [] σ (none) σ') (h : fX1_findClusters_83 p1 k7 v2 σ = some (r, σ')) : gG E mX1_findClusters 83 [(0, .ref 28), (1, .ref p1), (2, .int v2)] [] σ (none) σ' := by
  unfold fX1_findClusters_83 at h
  obtain ⟨x1, ex1, h⟩ := bnd_nm h
  refine g_iinc (j := 2) (v := x1) (lv' := [(2, .int x1), (0, .ref 28), (1, .ref p1)]) dX1_findClusters_83 rfl (by rw [ex1]; rfl) (Nat.le_of_ble_eq_true rfl) rfl ?_
  refine g_goto (t := 7) dX1_findClusters_86 (by decide) ?_
  refine g_sub [1, 2, 0] rfl ?_
  exact hk7 x1 σ h
def fX1_findClusters_63 (p1 : Nat) (k7 : Int32 → gS → Option (Unit × gS)) (v2 : Int32) (σ : gS) : Option (Unit × gS) :=
  gg (¬ (v2 < 0 ∨ 60 ≤ v2.toNatClampNeg)) (
  if (σ.1 58 v2.toNatClampNeg) = v2 then
    bnd (gsI σ 28 9 ((σ.1 28 9) + 1)) fun σ3 =>
    fX1_findClusters_83 p1 k7 v2 σ3
  else
    fX1_findClusters_83 p1 k7 v2 σ)
set_option maxHeartbeats 4000000 in
set_option maxRecDepth 100000 in
theorem pX1_findClusters_63 {E : gE} {p1 : Nat} {k7 : Int32 → gS → Option (Unit × gS)} {r : Unit} {σ' : gS} {v2 : Int32} {σ : gS} (hp1 : gLk p1) (hk7 : ∀ (v2 : Int32) (σ : gS), k7 v2 σ = some (r, σ') → gG E mX1_findClusters 7 [(0, .ref 28), (1, .ref p1), (2, .int v2)] [] σ (none) σ') (h : fX1_findClusters_63 p1 k7 v2 σ = some (r, σ')) : gG E mX1_findClusters 63 [(0, .ref 28), (1, .ref p1), (2, .int v2)] [] σ (none) σ' := by
  unfold fX1_findClusters_63 at h
  refine g_aload_n dX1_findClusters_63 rfl 0 rfl ?_
  refine g_getC (n := 58) dX1_findClusters_64 gi_28 rfl fl_RX1_30 ?_
  refine g_iload_n dX1_findClusters_67 rfl 2 rfl ?_
  obtain ⟨g1, h⟩ := gg_some h
  refine g_iald dX1_findClusters_68 gi_58 g1 ?_
  refine g_iload_n dX1_findClusters_69 rfl 2 rfl ?_
  refine g_icmp_ne (t := 83) dX1_findClusters_70 (by decide) (fun c2 => ?_) (fun c2 => ?_)
  · replace h := if_f h c2
    exact pX1_findClusters_83 hp1 hk7 h
  · replace h := if_t h c2
    refine g_aload_n dX1_findClusters_73 rfl 0 rfl ?_
    refine g_dup dX1_findClusters_74 rfl ?_
    refine g_getI dX1_findClusters_75 gi_28 rfl fl_RX1_95 ?_
    refine g_iconst (v := 1) dX1_findClusters_78 (by decide) ?_
    refine g_iadd dX1_findClusters_79 ?_
    obtain ⟨σ3, eσ3, h⟩ := bnd_nm h
    refine g_putI dX1_findClusters_80 gi_28 rfl fp_RX1_95 (g_st eσ3 ?_)
    exact pX1_findClusters_83 hp1 hk7 h
def fX1_findClusters_25 (p1 : Nat) (k7 : Int32 → gS → Option (Unit × gS)) : Nat → Int32 → Int32 → gS → Option (Unit × gS)
  | 0, _, _, _ => none
  | n + 1, v2, v3, σ => if v2 ≤ v3 then
    fX1_findClusters_63 p1 k7 v2 σ
  else
    gg (¬ (v2 < 0 ∨ 60 ≤ v2.toNatClampNeg)) (
    if (σ.1 58 v2.toNatClampNeg) = v2 then
      bd (fX1_areOneCluster p1 v2 v3 σ) fun x4 σ5 =>
      if x4 = 0 then
        fX1_findClusters_57 p1 k7 (fun v2 v3 σ => fX1_findClusters_25 p1 k7 n v2 v3 σ) v2 v3 σ5
      else
        gg (¬ (v2 < 0 ∨ 60 ≤ v2.toNatClampNeg)) (
        bnd (gsI σ5 58 v2.toNatClampNeg v3) fun σ9 =>
        fX1_findClusters_57 p1 k7 (fun v2 v3 σ => fX1_findClusters_25 p1 k7 n v2 v3 σ) v2 v3 σ9)
    else
      fX1_findClusters_63 p1 k7 v2 σ)
set_option maxHeartbeats 4000000 in
set_option maxRecDepth 100000 in
theorem pX1_findClusters_25 {E : gE} {p1 : Nat} {k7 : Int32 → gS → Option (Unit × gS)} {r : Unit} {σ' : gS} (hp1 : gLk p1) (hk7 : ∀ (v2 : Int32) (σ : gS), k7 v2 σ = some (r, σ') → gG E mX1_findClusters 7 [(0, .ref 28), (1, .ref p1), (2, .int v2)] [] σ (none) σ') : ∀ (n : Nat) (v2 : Int32) (v3 : Int32) (σ : gS), fX1_findClusters_25 p1 k7 n v2 v3 σ = some (r, σ') → gG E mX1_findClusters 25 [(0, .ref 28), (1, .ref p1), (2, .int v2), (3, .int v3)] [] σ (none) σ' := by
  intro n
  induction n with
  | zero => intro v2 v3 σ h; exact absurd (show none = some (r, σ') from h) (by intro q; cases q)
  | succ n ih =>
  intro v2 v3 σ h
  unfold fX1_findClusters_25 at h
  refine g_iload_n dX1_findClusters_25 rfl 3 rfl ?_
  refine g_iload_n dX1_findClusters_26 rfl 2 rfl ?_
  refine g_icmp_ge (t := 63) dX1_findClusters_27 (by decide) (fun c1 => ?_) (fun c1 => ?_)
  · replace h := if_t h c1
    refine g_sub [0, 1, 2] rfl ?_
    exact pX1_findClusters_63 hp1 hk7 h
  · replace h := if_f h c1
    refine g_aload_n dX1_findClusters_30 rfl 0 rfl ?_
    refine g_getC (n := 58) dX1_findClusters_31 gi_28 rfl fl_RX1_30 ?_
    refine g_iload_n dX1_findClusters_34 rfl 2 rfl ?_
    obtain ⟨g2, h⟩ := gg_some h
    refine g_iald dX1_findClusters_35 gi_58 g2 ?_
    refine g_iload_n dX1_findClusters_36 rfl 2 rfl ?_
    refine g_icmp_ne (t := 63) dX1_findClusters_37 (by decide) (fun c3 => ?_) (fun c3 => ?_)
    · replace h := if_f h c3
      refine g_sub [0, 1, 2] rfl ?_
      exact pX1_findClusters_63 hp1 hk7 h
    · replace h := if_t h c3
      refine g_aload_n dX1_findClusters_40 rfl 0 rfl ?_
      refine g_aload_n dX1_findClusters_41 rfl 1 rfl ?_
      refine g_iload_n dX1_findClusters_42 rfl 2 rfl ?_
      refine g_iload_n dX1_findClusters_43 rfl 3 rfl ?_
      obtain ⟨x4, σ5, y6, h⟩ := bd_some h
      refine g_callVr (as := [.ref p1, .int v2, .int v3]) (st := []) (zX1_areOneCluster hp1 y6) dX1_findClusters_44 gi_28 rfl okX1_findClusters_98 (Nat.le_of_ble_eq_true rfl) ?_
      refine g_if_eq (t := 57) dX1_findClusters_47 (by decide) (fun c7 => ?_) (fun c7 => ?_)
      · replace h := if_t h c7
        exact pX1_findClusters_57 hp1 hk7 (fun v2 v3 σ h => ih v2 v3 σ h) h
      · replace h := if_f h c7
        refine g_aload_n dX1_findClusters_50 rfl 0 rfl ?_
        refine g_getC (n := 58) dX1_findClusters_51 gi_28 rfl fl_RX1_30 ?_
        refine g_iload_n dX1_findClusters_54 rfl 2 rfl ?_
        refine g_iload_n dX1_findClusters_55 rfl 3 rfl ?_
        obtain ⟨g8, h⟩ := gg_some h
        obtain ⟨σ9, eσ9, h⟩ := bnd_nm h
        refine g_iast dX1_findClusters_56 gi_58 g8 (g_st eσ9 ?_)
        exact pX1_findClusters_57 hp1 hk7 (fun v2 v3 σ h => ih v2 v3 σ h) h
def fX1_findClusters_7 (p1 : Nat) : Nat → Int32 → gS → Option (Unit × gS)
  | 0, _, _ => none
  | n + 1, v2, σ => bd (fX3_size p1 1 σ) fun x1 σ2 =>
  if x1 ≤ v2 then
    some ((), σ2)
  else
    gg (¬ (v2 < 0 ∨ 60 ≤ v2.toNatClampNeg)) (
    bnd (gsI σ2 58 v2.toNatClampNeg v2) fun σ6 =>
    fX1_findClusters_25 p1 (fun v2 σ => fX1_findClusters_7 p1 n v2 σ) 2000 v2 0 σ6)
set_option maxHeartbeats 4000000 in
set_option maxRecDepth 100000 in
theorem pX1_findClusters_7 {E : gE} {p1 : Nat} {r : Unit} {σ' : gS} (hp1 : gLk p1) : ∀ (n : Nat) (v2 : Int32) (σ : gS), fX1_findClusters_7 p1 n v2 σ = some (r, σ') → gG E mX1_findClusters 7 [(0, .ref 28), (1, .ref p1), (2, .int v2)] [] σ (none) σ' := by
  intro n
  induction n with
  | zero => intro v2 σ h; exact absurd (show none = some (r, σ') from h) (by intro q; cases q)
  | succ n ih =>
  intro v2 σ h
  unfold fX1_findClusters_7 at h
  refine g_iload_n dX1_findClusters_7 rfl 2 rfl ?_
  refine g_aload_n dX1_findClusters_8 rfl 1 rfl ?_
  refine g_iconst (v := 1) dX1_findClusters_9 (by decide) ?_
  obtain ⟨x1, σ2, y3, h⟩ := bd_some h
  refine g_callVr (as := [.int 1]) (st := [.int v2]) (zX3_size hp1 y3) dX1_findClusters_10 (gi_lk hp1) rfl okX1_findClusters_33 (Nat.le_of_ble_eq_true rfl) ?_
  refine g_icmp_ge (t := 89) dX1_findClusters_13 (by decide) (fun c4 => ?_) (fun c4 => ?_)
  · replace h := if_t h c4
    obtain ⟨rfl, rfl⟩ := so_inj h
    exact g_vret dX1_findClusters_89 rfl
  · replace h := if_f h c4
    refine g_aload_n dX1_findClusters_16 rfl 0 rfl ?_
    refine g_getC (n := 58) dX1_findClusters_17 gi_28 rfl fl_RX1_30 ?_
    refine g_iload_n dX1_findClusters_20 rfl 2 rfl ?_
    refine g_iload_n dX1_findClusters_21 rfl 2 rfl ?_
    obtain ⟨g5, h⟩ := gg_some h
    obtain ⟨σ6, eσ6, h⟩ := bnd_nm h
    refine g_iast dX1_findClusters_22 gi_58 g5 (g_st eσ6 ?_)
    refine g_iconst (v := 0) dX1_findClusters_23 (by decide) ?_
    refine g_istore_n (lv' := [(3, .int 0), (0, .ref 28), (1, .ref p1), (2, .int v2)]) dX1_findClusters_24 rfl (Nat.le_of_ble_eq_true rfl) rfl ?_
    refine g_sub [1, 2, 3, 0] rfl ?_
    exact pX1_findClusters_25 hp1 (fun v2 σ h => ih v2 σ h) 2000 v2 0 σ6 h
def fX1_findClusters (p1 : Nat) (σ : gS) : Option (Unit × gS) :=
  bnd (gsI σ 28 9 0) fun σ1 =>
  fX1_findClusters_7 p1 2000 0 σ1
set_option maxHeartbeats 4000000 in
set_option maxRecDepth 100000 in
theorem pX1_findClusters {E : gE} {p1 : Nat} {r : Unit} {σ' : gS} {σ : gS} (hp1 : gLk p1) (h : fX1_findClusters p1 σ = some (r, σ')) : gG E mX1_findClusters 0 [(0, .ref 28), (1, .ref p1)] [] σ (none) σ' := by
  unfold fX1_findClusters at h
  refine g_aload_n dX1_findClusters_0 rfl 0 rfl ?_
  refine g_iconst (v := 0) dX1_findClusters_1 (by decide) ?_
  obtain ⟨σ1, eσ1, h⟩ := bnd_nm h
  refine g_putI dX1_findClusters_2 gi_28 rfl fp_RX1_95 (g_st eσ1 ?_)
  refine g_iconst (v := 0) dX1_findClusters_5 (by decide) ?_
  refine g_istore_n (lv' := [(2, .int 0), (0, .ref 28), (1, .ref p1)]) dX1_findClusters_6 rfl (Nat.le_of_ble_eq_true rfl) rfl ?_
  refine g_sub [1, 2, 0] rfl ?_
  exact pX1_findClusters_7 hp1 2000 0 σ1 h
theorem zX1_findClusters {E : gE} {p1 : Nat} {r : Unit} {σ σ' : gS} (hp1 : gLk p1) (h : fX1_findClusters p1 σ = some (r, σ')) : gC E mX1_findClusters [.ref 28, .ref p1] σ (none) σ' :=
  gC_of (by decide +kernel) rfl (Nat.le_of_ble_eq_true rfl) (pX1_findClusters hp1 h)

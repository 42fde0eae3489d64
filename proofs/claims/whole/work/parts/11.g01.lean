theorem fp_RX1_68 : gFp RX1 68 1 8 .int := ⟨RX1, TX1, 10, rfl, by decide, ux_1, Or.inl (gm 299 (by decide +kernel) rfl), rfl, by decide +kernel, ⟨tyX1, tyX1_ok⟩, nmX1⟩
theorem fl_RX1_23 : gFl RX1 23 1 3 := ⟨RX1, TX1, 10, rfl, by decide, ux_1, Or.inl (gm 291 (by decide +kernel) rfl)⟩
def mX1_work : gM := (yX1_work, cX1_work, RX1, 4, none, 5, 120)
theorem dX1_work_0 : decode mX1_work.2.1 0 = .ok (.aload_n 1, 1) := by decide +kernel
theorem dX1_work_1 : decode mX1_work.2.1 1 = .ok (.iconst 0, 1) := by decide +kernel
theorem dX1_work_2 : decode mX1_work.2.1 2 = .ok (.invokevirtual 33, 3) := by decide +kernel
theorem dX1_work_5 : decode mX1_work.2.1 5 = .ok (.istore_n 2, 1) := by decide +kernel
theorem dX1_work_6 : decode mX1_work.2.1 6 = .ok (.iconst 0, 1) := by decide +kernel
theorem dX1_work_7 : decode mX1_work.2.1 7 = .ok (.istore_n 3, 1) := by decide +kernel
theorem dX1_work_8 : decode mX1_work.2.1 8 = .ok (.iload_n 3, 1) := by decide +kernel
theorem dX1_work_9 : decode mX1_work.2.1 9 = .ok (.bipush 24, 2) := by decide +kernel
theorem dX1_work_11 : decode mX1_work.2.1 11 = .ok (.if_icmp .ge 20, 3) := by decide +kernel
theorem dX1_work_14 : decode mX1_work.2.1 14 = .ok (.aload_n 0, 1) := by decide +kernel
theorem dX1_work_15 : decode mX1_work.2.1 15 = .ok (.getfield 11, 3) := by decide +kernel
theorem dX1_work_18 : decode mX1_work.2.1 18 = .ok (.iload_n 3, 1) := by decide +kernel
theorem dX1_work_19 : decode mX1_work.2.1 19 = .ok (.aaload, 1) := by decide +kernel
theorem dX1_work_20 : decode mX1_work.2.1 20 = .ok (.ldc 39, 2) := by decide +kernel
theorem dX1_work_22 : decode mX1_work.2.1 22 = .ok (.invokestatic 40, 3) := by decide +kernel
theorem dX1_work_25 : decode mX1_work.2.1 25 = .ok (.iinc 3 1, 3) := by decide +kernel
theorem dX1_work_28 : decode mX1_work.2.1 28 = .ok (.goto (-20), 3) := by decide +kernel
theorem dX1_work_31 : decode mX1_work.2.1 31 = .ok (.aload_n 0, 1) := by decide +kernel
theorem dX1_work_32 : decode mX1_work.2.1 32 = .ok (.iconst 0, 1) := by decide +kernel
theorem dX1_work_33 : decode mX1_work.2.1 33 = .ok (.putfield 46, 3) := by decide +kernel
theorem dX1_work_36 : decode mX1_work.2.1 36 = .ok (.aload_n 0, 1) := by decide +kernel
theorem dX1_work_37 : decode mX1_work.2.1 37 = .ok (.iconst 0, 1) := by decide +kernel
theorem dX1_work_38 : decode mX1_work.2.1 38 = .ok (.putfield 50, 3) := by decide +kernel
theorem dX1_work_41 : decode mX1_work.2.1 41 = .ok (.aload_n 0, 1) := by decide +kernel
theorem dX1_work_42 : decode mX1_work.2.1 42 = .ok (.aload_n 1, 1) := by decide +kernel
theorem dX1_work_43 : decode mX1_work.2.1 43 = .ok (.invokevirtual 53, 3) := by decide +kernel
theorem dX1_work_46 : decode mX1_work.2.1 46 = .ok (.iconst 0, 1) := by decide +kernel
theorem dX1_work_47 : decode mX1_work.2.1 47 = .ok (.istore_n 3, 1) := by decide +kernel
theorem dX1_work_48 : decode mX1_work.2.1 48 = .ok (.iload_n 3, 1) := by decide +kernel
theorem dX1_work_49 : decode mX1_work.2.1 49 = .ok (.aload_n 1, 1) := by decide +kernel
theorem dX1_work_50 : decode mX1_work.2.1 50 = .ok (.iconst 1, 1) := by decide +kernel
theorem dX1_work_51 : decode mX1_work.2.1 51 = .ok (.invokevirtual 33, 3) := by decide +kernel
theorem dX1_work_54 : decode mX1_work.2.1 54 = .ok (.if_icmp .ge 31, 3) := by decide +kernel
theorem dX1_work_57 : decode mX1_work.2.1 57 = .ok (.aload_n 0, 1) := by decide +kernel
theorem dX1_work_58 : decode mX1_work.2.1 58 = .ok (.getfield 23, 3) := by decide +kernel
theorem dX1_work_61 : decode mX1_work.2.1 61 = .ok (.iload_n 3, 1) := by decide +kernel
theorem dX1_work_62 : decode mX1_work.2.1 62 = .ok (.aload_n 0, 1) := by decide +kernel
theorem dX1_work_63 : decode mX1_work.2.1 63 = .ok (.aload_n 1, 1) := by decide +kernel
theorem dX1_work_64 : decode mX1_work.2.1 64 = .ok (.iconst 1, 1) := by decide +kernel
theorem dX1_work_65 : decode mX1_work.2.1 65 = .ok (.iload_n 3, 1) := by decide +kernel
theorem dX1_work_66 : decode mX1_work.2.1 66 = .ok (.invokevirtual 57, 3) := by decide +kernel
theorem dX1_work_69 : decode mX1_work.2.1 69 = .ok (.aload_n 1, 1) := by decide +kernel
theorem dX1_work_70 : decode mX1_work.2.1 70 = .ok (.iconst 1, 1) := by decide +kernel
theorem dX1_work_71 : decode mX1_work.2.1 71 = .ok (.iload_n 3, 1) := by decide +kernel
theorem dX1_work_72 : decode mX1_work.2.1 72 = .ok (.invokevirtual 61, 3) := by decide +kernel
theorem dX1_work_75 : decode mX1_work.2.1 75 = .ok (.invokevirtual 64, 3) := by decide +kernel
theorem dX1_work_78 : decode mX1_work.2.1 78 = .ok (.bastore, 1) := by decide +kernel
theorem dX1_work_79 : decode mX1_work.2.1 79 = .ok (.iinc 3 1, 3) := by decide +kernel
theorem dX1_work_82 : decode mX1_work.2.1 82 = .ok (.goto (-34), 3) := by decide +kernel
theorem dX1_work_85 : decode mX1_work.2.1 85 = .ok (.aload_n 0, 1) := by decide +kernel
theorem dX1_work_86 : decode mX1_work.2.1 86 = .ok (.iload_n 2, 1) := by decide +kernel
theorem dX1_work_87 : decode mX1_work.2.1 87 = .ok (.iconst 2, 1) := by decide +kernel
theorem dX1_work_88 : decode mX1_work.2.1 88 = .ok (.if_icmp .ge 7, 3) := by decide +kernel
theorem dX1_work_91 : decode mX1_work.2.1 91 = .ok (.iconst 0, 1) := by decide +kernel
theorem dX1_work_92 : decode mX1_work.2.1 92 = .ok (.goto 13, 3) := by decide +kernel
theorem dX1_work_95 : decode mX1_work.2.1 95 = .ok (.iconst 2, 1) := by decide +kernel
theorem dX1_work_96 : decode mX1_work.2.1 96 = .ok (.iload_n 2, 1) := by decide +kernel
theorem dX1_work_97 : decode mX1_work.2.1 97 = .ok (.imul, 1) := by decide +kernel
theorem dX1_work_98 : decode mX1_work.2.1 98 = .ok (.iconst 3, 1) := by decide +kernel
theorem dX1_work_99 : decode mX1_work.2.1 99 = .ok (.isub, 1) := by decide +kernel
theorem dX1_work_100 : decode mX1_work.2.1 100 = .ok (.aload_n 0, 1) := by decide +kernel
theorem dX1_work_101 : decode mX1_work.2.1 101 = .ok (.getfield 50, 3) := by decide +kernel
theorem dX1_work_104 : decode mX1_work.2.1 104 = .ok (.isub, 1) := by decide +kernel
theorem dX1_work_105 : decode mX1_work.2.1 105 = .ok (.putfield 68, 3) := by decide +kernel
theorem dX1_work_108 : decode mX1_work.2.1 108 = .ok (.aload_n 0, 1) := by decide +kernel
theorem dX1_work_109 : decode mX1_work.2.1 109 = .ok (.iload_n 2, 1) := by decide +kernel
theorem dX1_work_110 : decode mX1_work.2.1 110 = .ok (.invokevirtual 71, 3) := by decide +kernel
theorem dX1_work_113 : decode mX1_work.2.1 113 = .ok (.aload_n 0, 1) := by decide +kernel
theorem dX1_work_114 : decode mX1_work.2.1 114 = .ok (.aload_n 1, 1) := by decide +kernel
theorem dX1_work_115 : decode mX1_work.2.1 115 = .ok (.invokevirtual 75, 3) := by decide +kernel
theorem dX1_work_118 : decode mX1_work.2.1 118 = .ok (.return_, 1) := by decide +kernel
theorem okX1_work_71 : gOkV mX1_work mX1_findTogether 71 1 := ⟨List.forall_mem_cons.mpr ⟨(gm 770 (by decide +kernel) rfl), List.forall_mem_cons.mpr ⟨(gm 767 (by decide +kernel) rfl), List.forall_mem_cons.mpr ⟨(gm 769 (by decide +kernel) rfl), List.forall_mem_cons.mpr ⟨(gm 27 (by decide +kernel) rfl), List.forall_mem_cons.mpr ⟨(gm 114 (by decide +kernel) rfl), fun _ h => absurd h List.not_mem_nil⟩⟩⟩⟩⟩, by decide +kernel, by decide +kernel, by decide +kernel⟩
theorem okX1_work_75 : gOkV mX1_work mX1_findClusters 75 1 := ⟨List.forall_mem_cons.mpr ⟨(gm 774 (by decide +kernel) rfl), List.forall_mem_cons.mpr ⟨(gm 771 (by decide +kernel) rfl), List.forall_mem_cons.mpr ⟨(gm 773 (by decide +kernel) rfl), List.forall_mem_cons.mpr ⟨(gm 28 (by decide +kernel) rfl), List.forall_mem_cons.mpr ⟨(gm 114 (by decide +kernel) rfl), fun _ h => absurd h List.not_mem_nil⟩⟩⟩⟩⟩, by decide +kernel, by decide +kernel, by decide +kernel⟩
theorem okX1_work_33 : gOkV mX1_work mX3_size 33 1 := ⟨List.forall_mem_cons.mpr ⟨(gm 737 (by decide +kernel) rfl), List.forall_mem_cons.mpr ⟨(gm 734 (by decide +kernel) rfl), List.forall_mem_cons.mpr ⟨(gm 735 (by decide +kernel) rfl), List.forall_mem_cons.mpr ⟨(gm 736 (by decide +kernel) rfl), List.forall_mem_cons.mpr ⟨(gm 109 (by decide +kernel) rfl), fun _ h => absurd h List.not_mem_nil⟩⟩⟩⟩⟩, by decide +kernel, by decide +kernel, by decide +kernel⟩
theorem okX1_work_57 : gOkV mX1_work mX3_firstOf 57 2 := ⟨List.forall_mem_cons.mpr ⟨(gm 680 (by decide +kernel) rfl), List.forall_mem_cons.mpr ⟨(gm 765 (by decide +kernel) rfl), List.forall_mem_cons.mpr ⟨(gm 678 (by decide +kernel) rfl), List.forall_mem_cons.mpr ⟨(gm 679 (by decide +kernel) rfl), List.forall_mem_cons.mpr ⟨(gm 109 (by decide +kernel) rfl), fun _ h => absurd h List.not_mem_nil⟩⟩⟩⟩⟩, by decide +kernel, by decide +kernel, by decide +kernel⟩
theorem okX1_work_61 : gOkV mX1_work mX3_secondOf 61 2 := ⟨List.forall_mem_cons.mpr ⟨(gm 688 (by decide +kernel) rfl), List.forall_mem_cons.mpr ⟨(gm 766 (by decide +kernel) rfl), List.forall_mem_cons.mpr ⟨(gm 686 (by decide +kernel) rfl), List.forall_mem_cons.mpr ⟨(gm 687 (by decide +kernel) rfl), List.forall_mem_cons.mpr ⟨(gm 109 (by decide +kernel) rfl), fun _ h => absurd h List.not_mem_nil⟩⟩⟩⟩⟩, by decide +kernel, by decide +kernel, by decide +kernel⟩
theorem okX1_work_64 : gOkV mX1_work mX1_offer 64 2 := ⟨List.forall_mem_cons.mpr ⟨(gm 748 (by decide +kernel) rfl), List.forall_mem_cons.mpr ⟨(gm 745 (by decide +kernel) rfl), List.forall_mem_cons.mpr ⟨(gm 747 (by decide +kernel) rfl), List.forall_mem_cons.mpr ⟨(gm 22 (by decide +kernel) rfl), List.forall_mem_cons.mpr ⟨(gm 114 (by decide +kernel) rfl), fun _ h => absurd h List.not_mem_nil⟩⟩⟩⟩⟩, by decide +kernel, by decide +kernel, by decide +kernel⟩
theorem okX1_work_53 : gOkV mX1_work mX1_offerTies 53 1 := ⟨List.forall_mem_cons.mpr ⟨(gm 743 (by decide +kernel) rfl), List.forall_mem_cons.mpr ⟨(gm 740 (by decide +kernel) rfl), List.forall_mem_cons.mpr ⟨(gm 742 (by decide +kernel) rfl), List.forall_mem_cons.mpr ⟨(gm 21 (by decide +kernel) rfl), List.forall_mem_cons.mpr ⟨(gm 114 (by decide +kernel) rfl), fun _ h => absurd h List.not_mem_nil⟩⟩⟩⟩⟩, by decide +kernel, by decide +kernel, by decide +kernel⟩
theorem okX1_work_40 : gOkS mX1_work mJ7_fill_53178 40 2 := ⟨List.forall_mem_cons.mpr ⟨(gm 587 (by decide +kernel) rfl), List.forall_mem_cons.mpr ⟨(gm 739 (by decide +kernel) rfl), List.forall_mem_cons.mpr ⟨(gm 586 (by decide +kernel) rfl), List.forall_mem_cons.mpr ⟨(gm 123 (by decide +kernel) rfl), fun _ h => absurd h List.not_mem_nil⟩⟩⟩⟩, by decide +kernel, by decide +kernel, by decide +kernel⟩
def fX1_work_105 (p1 : Nat) (v2 : Int32) (s1 : Int32) (σ : gS) : Option (Unit × gS) :=
  bnd (gsI σ 28 8 s1) fun σ1 =>
  bd (fX1_findTogether v2 σ1) fun _ σ2 =>
  bd (fX1_findClusters p1 σ2) fun _ σ4 =>
  some ((), σ4)
set_option maxHeartbeats 4000000 in
set_option maxRecDepth 100000 in
theorem pX1_work_105 {E : gE} {p1 : Nat} {r : Unit} {σ' : gS} {v2 : Int32} {s1 : Int32} {σ : gS} (hp1 : gLk p1) (h : fX1_work_105 p1 v2 s1 σ = some (r, σ')) : gG E mX1_work 105 [(0, .ref 28), (1, .ref p1), (2, .int v2)] [.int s1, .ref 28] σ (none) σ' := by
  unfold fX1_work_105 at h
  obtain ⟨σ1, eσ1, h⟩ := bnd_nm h
  refine g_putI dX1_work_105 gi_28 rfl fp_RX1_68 (g_st eσ1 ?_)
  refine g_aload_n dX1_work_108 rfl 0 rfl ?_
  refine g_iload_n dX1_work_109 rfl 2 rfl ?_
  obtain ⟨_, σ2, y3, h⟩ := bd_some h
  refine g_callVv (as := [.int v2]) (st := []) (zX1_findTogether y3) dX1_work_110 gi_28 rfl okX1_work_71 (Nat.le_of_ble_eq_true rfl) ?_
  refine g_aload_n dX1_work_113 rfl 0 rfl ?_
  refine g_aload_n dX1_work_114 rfl 1 rfl ?_
  obtain ⟨_, σ4, y5, h⟩ := bd_some h
  refine g_callVv (as := [.ref p1]) (st := []) (zX1_findClusters hp1 y5) dX1_work_115 gi_28 rfl okX1_work_75 (Nat.le_of_ble_eq_true rfl) ?_
  obtain ⟨rfl, rfl⟩ := so_inj h
  exact g_vret dX1_work_118 rfl
def fX1_work_48 (p1 : Nat) : Nat → Int32 → Int32 → gS → Option (Unit × gS)
  | 0, _, _, _ => none
  | n + 1, v2, v3, σ => bd (fX3_size p1 1 σ) fun x1 σ2 =>
  if x1 ≤ v3 then
    if 2 ≤ v2 then
      fX1_work_105 p1 v2 (((2 * v2) - 3) - (σ2.1 28 7)) σ2
    else
      fX1_work_105 p1 v2 0 σ2
  else
    bd (fX3_firstOf p1 1 v3 σ2) fun x6 σ7 =>
    bd (fX3_secondOf p1 1 v3 σ7) fun x9 σ10 =>
    bd (fX1_offer x6 x9 σ10) fun x12 σ13 =>
    gg (¬ (v3 < 0 ∨ 60 ≤ v3.toNatClampNeg)) (
    bnd (gsI σ13 56 v3.toNatClampNeg (vp_nar .boolean x12)) fun σ16 =>
    bnd (v3 + 1) fun x17 =>
    fX1_work_48 p1 n v2 x17 σ16)
set_option maxHeartbeats 4000000 in
set_option maxRecDepth 100000 in
theorem pX1_work_48 {E : gE} {p1 : Nat} {r : Unit} {σ' : gS} (hp1 : gLk p1) : ∀ (n : Nat) (v2 : Int32) (v3 : Int32) (σ : gS), fX1_work_48 p1 n v2 v3 σ = some (r, σ') → gG E mX1_work 48 [(0, .ref 28), (1, .ref p1), (2, .int v2), (3, .int v3)] [] σ (none) σ' := by
  intro n
  induction n with
  | zero => intro v2 v3 σ h; exact absurd (show none = some (r, σ') from h) (by intro q; cases q)
  | succ n ih =>
  intro v2 v3 σ h
  unfold fX1_work_48 at h
  refine g_iload_n dX1_work_48 rfl 3 rfl ?_
  refine g_aload_n dX1_work_49 rfl 1 rfl ?_
  refine g_iconst (v := 1) dX1_work_50 (by decide) ?_
  obtain ⟨x1, σ2, y3, h⟩ := bd_some h
  refine g_callVr (as := [.int 1]) (st := [.int v3]) (zX3_size hp1 y3) dX1_work_51 (gi_lk hp1) rfl okX1_work_33 (Nat.le_of_ble_eq_true rfl) ?_
  refine g_icmp_ge (t := 85) dX1_work_54 (by decide) (fun c4 => ?_) (fun c4 => ?_)
  · replace h := if_t h c4
    refine g_aload_n dX1_work_85 rfl 0 rfl ?_
    refine g_iload_n dX1_work_86 rfl 2 rfl ?_
    refine g_iconst (v := 2) dX1_work_87 (by decide) ?_
    refine g_icmp_ge (t := 95) dX1_work_88 (by decide) (fun c5 => ?_) (fun c5 => ?_)
    · replace h := if_t h c5
      refine g_iconst (v := 2) dX1_work_95 (by decide) ?_
      refine g_iload_n dX1_work_96 rfl 2 rfl ?_
      refine g_imul dX1_work_97 ?_
      refine g_iconst (v := 3) dX1_work_98 (by decide) ?_
      refine g_isub dX1_work_99 ?_
      refine g_aload_n dX1_work_100 rfl 0 rfl ?_
      refine g_getI dX1_work_101 gi_28 rfl fl_RX1_50 ?_
      refine g_isub dX1_work_104 ?_
      refine g_sub [0, 1, 2] rfl ?_
      exact pX1_work_105 hp1 h
    · replace h := if_f h c5
      refine g_iconst (v := 0) dX1_work_91 (by decide) ?_
      refine g_goto (t := 105) dX1_work_92 (by decide) ?_
      refine g_sub [0, 1, 2] rfl ?_
      exact pX1_work_105 hp1 h
  · replace h := if_f h c4
    refine g_aload_n dX1_work_57 rfl 0 rfl ?_
    refine g_getC (n := 56) dX1_work_58 gi_28 rfl fl_RX1_23 ?_
    refine g_iload_n dX1_work_61 rfl 3 rfl ?_
    refine g_aload_n dX1_work_62 rfl 0 rfl ?_
    refine g_aload_n dX1_work_63 rfl 1 rfl ?_
    refine g_iconst (v := 1) dX1_work_64 (by decide) ?_
    refine g_iload_n dX1_work_65 rfl 3 rfl ?_
    obtain ⟨x6, σ7, y8, h⟩ := bd_some h
    refine g_callVr (as := [.int 1, .int v3]) (st := [.ref 28, .int v3, .ref 56]) (zX3_firstOf hp1 y8) dX1_work_66 (gi_lk hp1) rfl okX1_work_57 (Nat.le_of_ble_eq_true rfl) ?_
    refine g_aload_n dX1_work_69 rfl 1 rfl ?_
    refine g_iconst (v := 1) dX1_work_70 (by decide) ?_
    refine g_iload_n dX1_work_71 rfl 3 rfl ?_
    obtain ⟨x9, σ10, y11, h⟩ := bd_some h
    refine g_callVr (as := [.int 1, .int v3]) (st := [.int x6, .ref 28, .int v3, .ref 56]) (zX3_secondOf hp1 y11) dX1_work_72 (gi_lk hp1) rfl okX1_work_61 (Nat.le_of_ble_eq_true rfl) ?_
    obtain ⟨x12, σ13, y14, h⟩ := bd_some h
    refine g_callVr (as := [.int x6, .int x9]) (st := [.int v3, .ref 56]) (zX1_offer y14) dX1_work_75 gi_28 rfl okX1_work_64 (Nat.le_of_ble_eq_true rfl) ?_
    obtain ⟨g15, h⟩ := gg_some h
    obtain ⟨σ16, eσ16, h⟩ := bnd_nm h
    refine g_zast dX1_work_78 gi_56 g15 (g_st eσ16 ?_)
    obtain ⟨x17, ex17, h⟩ := bnd_nm h
    refine g_iinc (j := 3) (v := x17) (lv' := [(3, .int x17), (0, .ref 28), (1, .ref p1), (2, .int v2)]) dX1_work_79 rfl (by rw [ex17]; rfl) (Nat.le_of_ble_eq_true rfl) rfl ?_
    refine g_goto (t := 48) dX1_work_82 (by decide) ?_
    refine g_sub [1, 2, 3, 0] rfl ?_
    exact ih v2 x17 σ16 h
def fX1_work_8 (p1 : Nat) : Nat → Int32 → Int32 → gS → Option (Unit × gS)
  | 0, _, _, _ => none
  | n + 1, v2, v3, σ => if 24 ≤ v3 then
    bnd (gsI σ 28 6 0) fun σ2 =>
    bnd (gsI σ2 28 7 0) fun σ3 =>
    bd (fX1_offerTies p1 σ3) fun _ σ4 =>
    fX1_work_48 p1 2000 v2 0 σ4
  else
    gg (¬ (v3 < 0 ∨ 24 ≤ v3.toNatClampNeg)) (
    bd (fJ7_fill_53178 (30 + 1 * v3.toNatClampNeg) 2 (-1000000) σ) fun _ σ7 =>
    bnd (v3 + 1) fun x9 =>
    fX1_work_8 p1 n v2 x9 σ7)
set_option maxHeartbeats 4000000 in
set_option maxRecDepth 100000 in
theorem pX1_work_8 {E : gE} {p1 : Nat} {r : Unit} {σ' : gS} (hp1 : gLk p1) : ∀ (n : Nat) (v2 : Int32) (v3 : Int32) (σ : gS), fX1_work_8 p1 n v2 v3 σ = some (r, σ') → gG E mX1_work 8 [(0, .ref 28), (1, .ref p1), (2, .int v2), (3, .int v3)] [] σ (none) σ' := by
  intro n
  induction n with
  | zero => intro v2 v3 σ h; exact absurd (show none = some (r, σ') from h) (by intro q; cases q)
  | succ n ih =>
  intro v2 v3 σ h
  unfold fX1_work_8 at h
  refine g_iload_n dX1_work_8 rfl 3 rfl ?_
  refine g_bipush (v := 24) dX1_work_9 (by decide) ?_
  refine g_icmp_ge (t := 31) dX1_work_11 (by decide) (fun c1 => ?_) (fun c1 => ?_)
  · replace h := if_t h c1
    refine g_aload_n dX1_work_31 rfl 0 rfl ?_
    refine g_iconst (v := 0) dX1_work_32 (by decide) ?_
    obtain ⟨σ2, eσ2, h⟩ := bnd_nm h
    refine g_putI dX1_work_33 gi_28 rfl fp_RX1_46 (g_st eσ2 ?_)
    refine g_aload_n dX1_work_36 rfl 0 rfl ?_
    refine g_iconst (v := 0) dX1_work_37 (by decide) ?_
    obtain ⟨σ3, eσ3, h⟩ := bnd_nm h
    refine g_putI dX1_work_38 gi_28 rfl fp_RX1_50 (g_st eσ3 ?_)
    refine g_aload_n dX1_work_41 rfl 0 rfl ?_
    refine g_aload_n dX1_work_42 rfl 1 rfl ?_
    obtain ⟨_, σ4, y5, h⟩ := bd_some h
    refine g_callVv (as := [.ref p1]) (st := []) (zX1_offerTies hp1 y5) dX1_work_43 gi_28 rfl okX1_work_53 (Nat.le_of_ble_eq_true rfl) ?_
    refine g_iconst (v := 0) dX1_work_46 (by decide) ?_
    refine g_istore_n (lv' := [(3, .int 0), (0, .ref 28), (1, .ref p1), (2, .int v2)]) dX1_work_47 rfl (Nat.le_of_ble_eq_true rfl) rfl ?_
    refine g_sub [1, 2, 3, 0] rfl ?_
    exact pX1_work_48 hp1 2000 v2 0 σ4 h
  · replace h := if_f h c1
    refine g_aload_n dX1_work_14 rfl 0 rfl ?_
    refine g_getC (n := 29) dX1_work_15 gi_28 rfl fl_RX1_11 ?_
    refine g_iload_n dX1_work_18 rfl 3 rfl ?_
    obtain ⟨g6, h⟩ := gg_some h
    refine g_aaldA dX1_work_19 gi_29 g6 ?_
    refine g_topr (y := (30 + 1 * v3.toNatClampNeg)) rfl ?_
    refine g_ldc (v := (-1000000)) dX1_work_20 wc_RX1_39 ?_
    obtain ⟨_, σ7, y8, h⟩ := bd_some h
    refine g_callSv (as := [.ref (30 + 1 * v3.toNatClampNeg), .int (-1000000)]) (st := []) (zJ7_fill_53178 (gi_ld (vp_lt g6)) (by decide) y8) dX1_work_22 okX1_work_40 (Nat.le_of_ble_eq_true rfl) ?_
    obtain ⟨x9, ex9, h⟩ := bnd_nm h
    refine g_iinc (j := 3) (v := x9) (lv' := [(3, .int x9), (0, .ref 28), (1, .ref p1), (2, .int v2)]) dX1_work_25 rfl (by rw [ex9]; rfl) (Nat.le_of_ble_eq_true rfl) rfl ?_
    refine g_goto (t := 8) dX1_work_28 (by decide) ?_
    refine g_sub [1, 2, 3, 0] rfl ?_
    exact ih v2 x9 σ7 h
def fX1_work (p1 : Nat) (σ : gS) : Option (Unit × gS) :=
  bd (fX3_size p1 0 σ) fun x1 σ2 =>
  fX1_work_8 p1 2000 x1 0 σ2
set_option maxHeartbeats 4000000 in
set_option maxRecDepth 100000 in
theorem pX1_work {E : gE} {p1 : Nat} {r : Unit} {σ' : gS} {σ : gS} (hp1 : gLk p1) (h : fX1_work p1 σ = some (r, σ')) : gG E mX1_work 0 [(0, .ref 28), (1, .ref p1)] [] σ (none) σ' := by
  unfold fX1_work at h
  refine g_aload_n dX1_work_0 rfl 1 rfl ?_
  refine g_iconst (v := 0) dX1_work_1 (by decide) ?_
  obtain ⟨x1, σ2, y3, h⟩ := bd_some h
  refine g_callVr (as := [.int 0]) (st := []) (zX3_size hp1 y3) dX1_work_2 (gi_lk hp1) rfl okX1_work_33 (Nat.le_of_ble_eq_true rfl) ?_
  refine g_istore_n (lv' := [(2, .int x1), (0, .ref 28), (1, .ref p1)]) dX1_work_5 rfl (Nat.le_of_ble_eq_true rfl) rfl ?_
  refine g_iconst (v := 0) dX1_work_6 (by decide) ?_
  refine g_istore_n (lv' := [(3, .int 0), (2, .int x1), (0, .ref 28), (1, .ref p1)]) dX1_work_7 rfl (Nat.le_of_ble_eq_true rfl) rfl ?_
  refine g_sub [2, 3, 1, 0] rfl ?_
  exact pX1_work_8 hp1 2000 x1 0 σ2 h
theorem zX1_work {E : gE} {p1 : Nat} {r : Unit} {σ σ' : gS} (hp1 : gLk p1) (h : fX1_work p1 σ = some (r, σ')) : gC E mX1_work [.ref 28, .ref p1] σ (none) σ' :=
  gC_of (by decide +kernel) rfl (Nat.le_of_ble_eq_true rfl) (pX1_work hp1 h)
def mX1_areTogether : gM := (yX1_areTogether, cX1_areTogether, RX1, 3, (some .boolean), 0, 0)
theorem dX1_areTogether_0 : decode mX1_areTogether.2.1 0 = .ok (.aload_n 0, 1) := by decide +kernel
theorem dX1_areTogether_1 : decode mX1_areTogether.2.1 1 = .ok (.getfield 27, 3) := by decide +kernel
theorem dX1_areTogether_4 : decode mX1_areTogether.2.1 4 = .ok (.iload_n 1, 1) := by decide +kernel
theorem dX1_areTogether_5 : decode mX1_areTogether.2.1 5 = .ok (.iaload, 1) := by decide +kernel
theorem dX1_areTogether_6 : decode mX1_areTogether.2.1 6 = .ok (.iload_n 2, 1) := by decide +kernel
theorem dX1_areTogether_7 : decode mX1_areTogether.2.1 7 = .ok (.ishr, 1) := by decide +kernel
theorem dX1_areTogether_8 : decode mX1_areTogether.2.1 8 = .ok (.iconst 1, 1) := by decide +kernel
theorem dX1_areTogether_9 : decode mX1_areTogether.2.1 9 = .ok (.iand, 1) := by decide +kernel
theorem dX1_areTogether_10 : decode mX1_areTogether.2.1 10 = .ok (.ifCond .eq 7, 3) := by decide +kernel
theorem dX1_areTogether_13 : decode mX1_areTogether.2.1 13 = .ok (.iconst 1, 1) := by decide +kernel
theorem dX1_areTogether_14 : decode mX1_areTogether.2.1 14 = .ok (.goto 4, 3) := by decide +kernel
theorem dX1_areTogether_17 : decode mX1_areTogether.2.1 17 = .ok (.iconst 0, 1) := by decide +kernel
theorem dX1_areTogether_18 : decode mX1_areTogether.2.1 18 = .ok (.ireturn, 1) := by decide +kernel
def fX1_areTogether_18 (p1 : Int32) (p2 : Int32) (s0 : Int32) (σ : gS) : Option (Int32 × gS) :=
  gg (s0 = 0 ∨ s0 = 1) (
  some (s0, σ))
set_option maxHeartbeats 4000000 in
set_option maxRecDepth 100000 in
theorem pX1_areTogether_18 {E : gE} {p1 : Int32} {p2 : Int32} {r : Int32} {σ' : gS} {s0 : Int32} {σ : gS} (h : fX1_areTogether_18 p1 p2 s0 σ = some (r, σ')) : gG E mX1_areTogether 18 [] [.int s0] σ (some (.int r)) σ' := by
  unfold fX1_areTogether_18 at h
  obtain ⟨g1, h⟩ := gg_some h
  obtain ⟨rfl, rfl⟩ := so_inj h
  exact g_zret dX1_areTogether_18 rfl g1
def fX1_areTogether (p1 : Int32) (p2 : Int32) (σ : gS) : Option (Int32 × gS) :=
  gg (¬ (p1 < 0 ∨ 24 ≤ p1.toNatClampNeg)) (
  if (((σ.1 57 p1.toNatClampNeg) >>> (p2 &&& 31)) &&& 1) = 0 then
    fX1_areTogether_18 p1 p2 0 σ
  else
    fX1_areTogether_18 p1 p2 1 σ)
set_option maxHeartbeats 4000000 in
set_option maxRecDepth 100000 in
theorem pX1_areTogether {E : gE} {p1 : Int32} {p2 : Int32} {r : Int32} {σ' : gS} {σ : gS} (h : fX1_areTogether p1 p2 σ = some (r, σ')) : gG E mX1_areTogether 0 [(0, .ref 28), (1, .int p1), (2, .int p2)] [] σ (some (.int r)) σ' := by
  unfold fX1_areTogether at h
  refine g_aload_n dX1_areTogether_0 rfl 0 rfl ?_
  refine g_getC (n := 57) dX1_areTogether_1 gi_28 rfl fl_RX1_27 ?_
  refine g_iload_n dX1_areTogether_4 rfl 1 rfl ?_
  obtain ⟨g1, h⟩ := gg_some h
  refine g_iald dX1_areTogether_5 gi_57 g1 ?_
  refine g_iload_n dX1_areTogether_6 rfl 2 rfl ?_
  refine g_ishr dX1_areTogether_7 ?_
  refine g_iconst (v := 1) dX1_areTogether_8 (by decide) ?_
  refine g_iand dX1_areTogether_9 ?_
  refine g_if_eq (t := 17) dX1_areTogether_10 (by decide) (fun c2 => ?_) (fun c2 => ?_)
  · replace h := if_t h c2
    refine g_iconst (v := 0) dX1_areTogether_17 (by decide) ?_
    refine g_sub [] rfl ?_
    exact pX1_areTogether_18 h
  · replace h := if_f h c2
    refine g_iconst (v := 1) dX1_areTogether_13 (by decide) ?_
    refine g_goto (t := 18) dX1_areTogether_14 (by decide) ?_
    refine g_sub [] rfl ?_
    exact pX1_areTogether_18 h
theorem zX1_areTogether {E : gE} {p1 : Int32} {p2 : Int32} {r : Int32} {σ σ' : gS} (h : fX1_areTogether p1 p2 σ = some (r, σ')) : gC E mX1_areTogether [.ref 28, .int p1, .int p2] σ (some (.int r)) σ' :=
  gC_of (by decide +kernel) rfl (Nat.le_of_ble_eq_true rfl) (pX1_areTogether h)
theorem fl_RX9_35 : gFl RX9 35 9 1 := ⟨RX9, TX9, 8, rfl, by decide, ux_9, Or.inl (gm 365 (by decide +kernel) rfl)⟩
theorem fl_RX9_9 : gFl RX9 9 9 0 := ⟨RX9, TX9, 8, rfl, by decide, ux_9, Or.inl (gm 363 (by decide +kernel) rfl)⟩
def mX9_depthOf : gM := (yX9_depthOf, cX9_depthOf, RX9, 3, (some .int), 0, 0)
theorem dX9_depthOf_0 : decode mX9_depthOf.2.1 0 = .ok (.iconst 0, 1) := by decide +kernel
theorem dX9_depthOf_1 : decode mX9_depthOf.2.1 1 = .ok (.istore_n 2, 1) := by decide +kernel
theorem dX9_depthOf_2 : decode mX9_depthOf.2.1 2 = .ok (.iload_n 2, 1) := by decide +kernel
theorem dX9_depthOf_3 : decode mX9_depthOf.2.1 3 = .ok (.aload_n 0, 1) := by decide +kernel
theorem dX9_depthOf_4 : decode mX9_depthOf.2.1 4 = .ok (.getfield 35, 3) := by decide +kernel
theorem dX9_depthOf_7 : decode mX9_depthOf.2.1 7 = .ok (.if_icmp .ge 23, 3) := by decide +kernel
theorem dX9_depthOf_10 : decode mX9_depthOf.2.1 10 = .ok (.aload_n 0, 1) := by decide +kernel
theorem dX9_depthOf_11 : decode mX9_depthOf.2.1 11 = .ok (.getfield 9, 3) := by decide +kernel
theorem dX9_depthOf_14 : decode mX9_depthOf.2.1 14 = .ok (.iload_n 2, 1) := by decide +kernel
theorem dX9_depthOf_15 : decode mX9_depthOf.2.1 15 = .ok (.iaload, 1) := by decide +kernel
theorem dX9_depthOf_16 : decode mX9_depthOf.2.1 16 = .ok (.iload_n 1, 1) := by decide +kernel
theorem dX9_depthOf_17 : decode mX9_depthOf.2.1 17 = .ok (.if_icmp .ne 7, 3) := by decide +kernel
theorem dX9_depthOf_20 : decode mX9_depthOf.2.1 20 = .ok (.iload_n 2, 1) := by decide +kernel
theorem dX9_depthOf_21 : decode mX9_depthOf.2.1 21 = .ok (.iconst 1, 1) := by decide +kernel
theorem dX9_depthOf_22 : decode mX9_depthOf.2.1 22 = .ok (.iadd, 1) := by decide +kernel
theorem dX9_depthOf_23 : decode mX9_depthOf.2.1 23 = .ok (.ireturn, 1) := by decide +kernel
theorem dX9_depthOf_24 : decode mX9_depthOf.2.1 24 = .ok (.iinc 2 1, 3) := by decide +kernel
theorem dX9_depthOf_27 : decode mX9_depthOf.2.1 27 = .ok (.goto (-25), 3) := by decide +kernel
theorem dX9_depthOf_30 : decode mX9_depthOf.2.1 30 = .ok (.iconst 0, 1) := by decide +kernel
theorem dX9_depthOf_31 : decode mX9_depthOf.2.1 31 = .ok (.ireturn, 1) := by decide +kernel
def fX9_depthOf_2 (p1 : Int32) : Nat → Int32 → gS → Option (Int32 × gS)
  | 0, _, _ => none
  | n + 1, v2, σ => if (σ.1 124 1) ≤ v2 then
    some (0, σ)
  else
    gg (¬ (v2 < 0 ∨ 24 ≤ v2.toNatClampNeg)) (
    if (σ.1 125 v2.toNatClampNeg) = p1 then
      some (v2 + 1, σ)
    else
      bnd (v2 + 1) fun x4 =>
      fX9_depthOf_2 p1 n x4 σ)
set_option maxHeartbeats 4000000 in
set_option maxRecDepth 100000 in
theorem pX9_depthOf_2 {E : gE} {p1 : Int32} {r : Int32} {σ' : gS} : ∀ (n : Nat) (v2 : Int32) (σ : gS), fX9_depthOf_2 p1 n v2 σ = some (r, σ') → gG E mX9_depthOf 2 [(0, .ref 124), (1, .int p1), (2, .int v2)] [] σ (some (.int r)) σ' := by
  intro n
  induction n with
  | zero => intro v2 σ h; exact absurd (show none = some (r, σ') from h) (by intro q; cases q)
  | succ n ih =>
  intro v2 σ h
  unfold fX9_depthOf_2 at h
  refine g_iload_n dX9_depthOf_2 rfl 2 rfl ?_
  refine g_aload_n dX9_depthOf_3 rfl 0 rfl ?_
  refine g_getI dX9_depthOf_4 gi_124 rfl fl_RX9_35 ?_
  refine g_icmp_ge (t := 30) dX9_depthOf_7 (by decide) (fun c1 => ?_) (fun c1 => ?_)
  · replace h := if_t h c1
    refine g_iconst (v := 0) dX9_depthOf_30 (by decide) ?_
    obtain ⟨rfl, rfl⟩ := so_inj h
    exact g_iret dX9_depthOf_31 rfl
  · replace h := if_f h c1
    refine g_aload_n dX9_depthOf_10 rfl 0 rfl ?_
    refine g_getC (n := 125) dX9_depthOf_11 gi_124 rfl fl_RX9_9 ?_
    refine g_iload_n dX9_depthOf_14 rfl 2 rfl ?_
    obtain ⟨g2, h⟩ := gg_some h
    refine g_iald dX9_depthOf_15 gi_125 g2 ?_
    refine g_iload_n dX9_depthOf_16 rfl 1 rfl ?_
    refine g_icmp_ne (t := 24) dX9_depthOf_17 (by decide) (fun c3 => ?_) (fun c3 => ?_)
    · replace h := if_f h c3
      obtain ⟨x4, ex4, h⟩ := bnd_nm h
      refine g_iinc (j := 2) (v := x4) (lv' := [(2, .int x4), (0, .ref 124), (1, .int p1)]) dX9_depthOf_24 rfl (by rw [ex4]; rfl) (Nat.le_of_ble_eq_true rfl) rfl ?_
      refine g_goto (t := 2) dX9_depthOf_27 (by decide) ?_
      refine g_sub [1, 2, 0] rfl ?_
      exact ih x4 σ h
    · replace h := if_t h c3
      refine g_iload_n dX9_depthOf_20 rfl 2 rfl ?_
      refine g_iconst (v := 1) dX9_depthOf_21 (by decide) ?_
      refine g_iadd dX9_depthOf_22 ?_
      obtain ⟨rfl, rfl⟩ := so_inj h
      exact g_iret dX9_depthOf_23 rfl
def fX9_depthOf (p1 : Int32) (σ : gS) : Option (Int32 × gS) :=
  fX9_depthOf_2 p1 2000 0 σ
set_option maxHeartbeats 4000000 in
set_option maxRecDepth 100000 in
theorem pX9_depthOf {E : gE} {p1 : Int32} {r : Int32} {σ' : gS} {σ : gS} (h : fX9_depthOf p1 σ = some (r, σ')) : gG E mX9_depthOf 0 [(0, .ref 124), (1, .int p1)] [] σ (some (.int r)) σ' := by
  unfold fX9_depthOf at h
  refine g_iconst (v := 0) dX9_depthOf_0 (by decide) ?_
  refine g_istore_n (lv' := [(2, .int 0), (0, .ref 124), (1, .int p1)]) dX9_depthOf_1 rfl (Nat.le_of_ble_eq_true rfl) rfl ?_
  refine g_sub [1, 2, 0] rfl ?_
  exact pX9_depthOf_2 2000 0 σ h
theorem zX9_depthOf {E : gE} {p1 : Int32} {r : Int32} {σ σ' : gS} (h : fX9_depthOf p1 σ = some (r, σ')) : gC E mX9_depthOf [.ref 124, .int p1] σ (some (.int r)) σ' :=
  gC_of (by decide +kernel) rfl (Nat.le_of_ble_eq_true rfl) (pX9_depthOf h)
def mX3_x : gM := (yX3_x, cX3_x, RX3, 2, (some .int), 1, 22)
theorem dX3_x_0 : decode mX3_x.2.1 0 = .ok (.aload_n 0, 1) := by decide +kernel
theorem dX3_x_1 : decode mX3_x.2.1 1 = .ok (.iconst 0, 1) := by decide +kernel
theorem dX3_x_2 : decode mX3_x.2.1 2 = .ok (.iload_n 1, 1) := by decide +kernel
theorem dX3_x_3 : decode mX3_x.2.1 3 = .ok (.invokevirtual 62, 3) := by decide +kernel
theorem dX3_x_6 : decode mX3_x.2.1 6 = .ok (.ireturn, 1) := by decide +kernel
theorem okX3_x_62 : gOkV mX3_x mX3_firstOf 62 2 := ⟨List.forall_mem_cons.mpr ⟨(gm 680 (by decide +kernel) rfl), List.forall_mem_cons.mpr ⟨(gm 677 (by decide +kernel) rfl), List.forall_mem_cons.mpr ⟨(gm 678 (by decide +kernel) rfl), List.forall_mem_cons.mpr ⟨(gm 679 (by decide +kernel) rfl), List.forall_mem_cons.mpr ⟨(gm 109 (by decide +kernel) rfl), fun _ h => absurd h List.not_mem_nil⟩⟩⟩⟩⟩, by decide +kernel, by decide +kernel, by decide +kernel⟩
def fX3_x (t : Nat) (p1 : Int32) (σ : gS) : Option (Int32 × gS) :=
  bd (fX3_firstOf t 0 p1 σ) fun x1 σ2 =>
  some (x1, σ2)
set_option maxHeartbeats 4000000 in
set_option maxRecDepth 100000 in
theorem pX3_x {E : gE} {t : Nat} {p1 : Int32} {r : Int32} {σ' : gS} {σ : gS} (ht : gLk t) (h : fX3_x t p1 σ = some (r, σ')) : gG E mX3_x 0 [(0, .ref t), (1, .int p1)] [] σ (some (.int r)) σ' := by
  unfold fX3_x at h
  refine g_aload_n dX3_x_0 rfl 0 rfl ?_
  refine g_iconst (v := 0) dX3_x_1 (by decide) ?_
  refine g_iload_n dX3_x_2 rfl 1 rfl ?_
  obtain ⟨x1, σ2, y3, h⟩ := bd_some h
  refine g_callVr (as := [.int 0, .int p1]) (st := []) (zX3_firstOf ht y3) dX3_x_3 (gi_lk ht) rfl okX3_x_62 (Nat.le_of_ble_eq_true rfl) ?_
  obtain ⟨rfl, rfl⟩ := so_inj h
  exact g_iret dX3_x_6 rfl
theorem zX3_x {E : gE} {t : Nat} {p1 : Int32} {r : Int32} {σ σ' : gS} (ht : gLk t) (h : fX3_x t p1 σ = some (r, σ')) : gC E mX3_x [.ref t, .int p1] σ (some (.int r)) σ' :=
  gC_of (by decide +kernel) rfl (Nat.le_of_ble_eq_true rfl) (pX3_x ht h)
def mX3_y : gM := (yX3_y, cX3_y, RX3, 2, (some .int), 1, 22)
theorem dX3_y_0 : decode mX3_y.2.1 0 = .ok (.aload_n 0, 1) := by decide +kernel
theorem dX3_y_1 : decode mX3_y.2.1 1 = .ok (.iconst 0, 1) := by decide +kernel
theorem dX3_y_2 : decode mX3_y.2.1 2 = .ok (.iload_n 1, 1) := by decide +kernel
theorem dX3_y_3 : decode mX3_y.2.1 3 = .ok (.invokevirtual 66, 3) := by decide +kernel
theorem dX3_y_6 : decode mX3_y.2.1 6 = .ok (.ireturn, 1) := by decide +kernel
theorem okX3_y_66 : gOkV mX3_y mX3_secondOf 66 2 := ⟨List.forall_mem_cons.mpr ⟨(gm 688 (by decide +kernel) rfl), List.forall_mem_cons.mpr ⟨(gm 685 (by decide +kernel) rfl), List.forall_mem_cons.mpr ⟨(gm 686 (by decide +kernel) rfl), List.forall_mem_cons.mpr ⟨(gm 687 (by decide +kernel) rfl), List.forall_mem_cons.mpr ⟨(gm 109 (by decide +kernel) rfl), fun _ h => absurd h List.not_mem_nil⟩⟩⟩⟩⟩, by decide +kernel, by decide +kernel, by decide +kernel⟩
def fX3_y (t : Nat) (p1 : Int32) (σ : gS) : Option (Int32 × gS) :=
  bd (fX3_secondOf t 0 p1 σ) fun x1 σ2 =>
  some (x1, σ2)
set_option maxHeartbeats 4000000 in
set_option maxRecDepth 100000 in
theorem pX3_y {E : gE} {t : Nat} {p1 : Int32} {r : Int32} {σ' : gS} {σ : gS} (ht : gLk t) (h : fX3_y t p1 σ = some (r, σ')) : gG E mX3_y 0 [(0, .ref t), (1, .int p1)] [] σ (some (.int r)) σ' := by
  unfold fX3_y at h
  refine g_aload_n dX3_y_0 rfl 0 rfl ?_
  refine g_iconst (v := 0) dX3_y_1 (by decide) ?_
  refine g_iload_n dX3_y_2 rfl 1 rfl ?_
  obtain ⟨x1, σ2, y3, h⟩ := bd_some h
  refine g_callVr (as := [.int 0, .int p1]) (st := []) (zX3_secondOf ht y3) dX3_y_3 (gi_lk ht) rfl okX3_y_66 (Nat.le_of_ble_eq_true rfl) ?_
  obtain ⟨rfl, rfl⟩ := so_inj h
  exact g_iret dX3_y_6 rfl
theorem zX3_y {E : gE} {t : Nat} {p1 : Int32} {r : Int32} {σ σ' : gS} (ht : gLk t) (h : fX3_y t p1 σ = some (r, σ')) : gC E mX3_y [.ref t, .int p1] σ (some (.int r)) σ' :=
  gC_of (by decide +kernel) rfl (Nat.le_of_ble_eq_true rfl) (pX3_y ht h)
theorem fl_RX5_9 : gFl RX5 9 5 0 := ⟨RX5, TX5, 3, rfl, by decide, ux_5, Or.inl (gm 400 (by decide +kernel) rfl)⟩
theorem fl_RX5_15 : gFl RX5 15 5 1 := ⟨RX5, TX5, 3, rfl, by decide, ux_5, Or.inl (gm 404 (by decide +kernel) rfl)⟩
theorem fl_RX5_18 : gFl RX5 18 5 2 := ⟨RX5, TX5, 3, rfl, by decide, ux_5, Or.inl (gm 408 (by decide +kernel) rfl)⟩
def mX5_set : gM := (yX5_set, cX5_set, RX5, 6, none, 0, 0)
theorem dX5_set_0 : decode mX5_set.2.1 0 = .ok (.aload_n 0, 1) := by decide +kernel
theorem dX5_set_1 : decode mX5_set.2.1 1 = .ok (.getfield 9, 3) := by decide +kernel
theorem dX5_set_4 : decode mX5_set.2.1 4 = .ok (.iload_n 1, 1) := by decide +kernel
theorem dX5_set_5 : decode mX5_set.2.1 5 = .ok (.lload_n 2, 1) := by decide +kernel
theorem dX5_set_6 : decode mX5_set.2.1 6 = .ok (.lastore, 1) := by decide +kernel
theorem dX5_set_7 : decode mX5_set.2.1 7 = .ok (.aload_n 0, 1) := by decide +kernel
theorem dX5_set_8 : decode mX5_set.2.1 8 = .ok (.getfield 15, 3) := by decide +kernel
theorem dX5_set_11 : decode mX5_set.2.1 11 = .ok (.iload_n 1, 1) := by decide +kernel
theorem dX5_set_12 : decode mX5_set.2.1 12 = .ok (.lload 4, 2) := by decide +kernel
theorem dX5_set_14 : decode mX5_set.2.1 14 = .ok (.lastore, 1) := by decide +kernel
theorem dX5_set_15 : decode mX5_set.2.1 15 = .ok (.aload_n 0, 1) := by decide +kernel
theorem dX5_set_16 : decode mX5_set.2.1 16 = .ok (.getfield 18, 3) := by decide +kernel
theorem dX5_set_19 : decode mX5_set.2.1 19 = .ok (.iload_n 1, 1) := by decide +kernel
theorem dX5_set_20 : decode mX5_set.2.1 20 = .ok (.iconst 0, 1) := by decide +kernel
theorem dX5_set_21 : decode mX5_set.2.1 21 = .ok (.iastore, 1) := by decide +kernel
theorem dX5_set_22 : decode mX5_set.2.1 22 = .ok (.return_, 1) := by decide +kernel
def fX5_set (t : Nat) (p1 : Int32) (p2 : Int64) (p3 : Int64) (σ : gS) : Option (Unit × gS) :=
  gg (¬ (p1 < 0 ∨ 24 ≤ p1.toNatClampNeg)) (
  bnd (gsJ σ (t + 1) p1.toNatClampNeg p2) fun σ2 =>
  gg (¬ (p1 < 0 ∨ 24 ≤ p1.toNatClampNeg)) (
  bnd (gsJ σ2 (t + 2) p1.toNatClampNeg p3) fun σ4 =>
  gg (¬ (p1 < 0 ∨ 24 ≤ p1.toNatClampNeg)) (
  bnd (gsI σ4 (t + 3) p1.toNatClampNeg 0) fun σ6 =>
  some ((), σ6))))
set_option maxHeartbeats 4000000 in
set_option maxRecDepth 100000 in
theorem pX5_set {E : gE} {t : Nat} {p1 : Int32} {p2 : Int64} {p3 : Int64} {r : Unit} {σ' : gS} {σ : gS} (ht : gPl t) (h : fX5_set t p1 p2 p3 σ = some (r, σ')) : gG E mX5_set 0 [(0, .ref t), (1, .int p1), (2, .long p2), (4, .long p3)] [] σ (none) σ' := by
  unfold fX5_set at h
  refine g_aload_n dX5_set_0 rfl 0 rfl ?_
  refine g_getC (n := (t + 1)) dX5_set_1 (gi_pl ht) rfl fl_RX5_9 ?_
  refine g_iload_n dX5_set_4 rfl 1 rfl ?_
  refine g_lload_n dX5_set_5 rfl 2 rfl ?_
  obtain ⟨g1, h⟩ := gg_some h
  obtain ⟨σ2, eσ2, h⟩ := bnd_nm h
  refine g_last dX5_set_6 (gi_pl1 ht) g1 (g_st eσ2 ?_)
  refine g_aload_n dX5_set_7 rfl 0 rfl ?_
  refine g_getC (n := (t + 2)) dX5_set_8 (gi_pl ht) rfl fl_RX5_15 ?_
  refine g_iload_n dX5_set_11 rfl 1 rfl ?_
  refine g_lload dX5_set_12 3 rfl ?_
  obtain ⟨g3, h⟩ := gg_some h
  obtain ⟨σ4, eσ4, h⟩ := bnd_nm h
  refine g_last dX5_set_14 (gi_pl2 ht) g3 (g_st eσ4 ?_)
  refine g_aload_n dX5_set_15 rfl 0 rfl ?_
  refine g_getC (n := (t + 3)) dX5_set_16 (gi_pl ht) rfl fl_RX5_18 ?_
  refine g_iload_n dX5_set_19 rfl 1 rfl ?_
  refine g_iconst (v := 0) dX5_set_20 (by decide) ?_
  obtain ⟨g5, h⟩ := gg_some h
  obtain ⟨σ6, eσ6, h⟩ := bnd_nm h
  refine g_iast dX5_set_21 (gi_pl3 ht) g5 (g_st eσ6 ?_)
  obtain ⟨rfl, rfl⟩ := so_inj h
  exact g_vret dX5_set_22 rfl
theorem zX5_set {E : gE} {t : Nat} {p1 : Int32} {p2 : Int64} {p3 : Int64} {r : Unit} {σ σ' : gS} (ht : gPl t) (h : fX5_set t p1 p2 p3 σ = some (r, σ')) : gC E mX5_set [.ref t, .int p1, .long p2, .long p3] σ (none) σ' :=
  gC_of (by decide +kernel) rfl (Nat.le_of_ble_eq_true rfl) (pX5_set ht h)
def mJ9_floorDiv_7cf53 : gM := (yJ9_floorDiv_7cf53, cJ9_floorDiv_7cf53, RJ9, 3, (some .int), 0, 0)
theorem dJ9_floorDiv_7cf53_0 : decode mJ9_floorDiv_7cf53.2.1 0 = .ok (.iload_n 0, 1) := by decide +kernel
theorem dJ9_floorDiv_7cf53_1 : decode mJ9_floorDiv_7cf53.2.1 1 = .ok (.iload_n 1, 1) := by decide +kernel
theorem dJ9_floorDiv_7cf53_2 : decode mJ9_floorDiv_7cf53.2.1 2 = .ok (.idiv, 1) := by decide +kernel
theorem dJ9_floorDiv_7cf53_3 : decode mJ9_floorDiv_7cf53.2.1 3 = .ok (.istore_n 2, 1) := by decide +kernel
theorem dJ9_floorDiv_7cf53_4 : decode mJ9_floorDiv_7cf53.2.1 4 = .ok (.iload_n 0, 1) := by decide +kernel
theorem dJ9_floorDiv_7cf53_5 : decode mJ9_floorDiv_7cf53.2.1 5 = .ok (.iload_n 1, 1) := by decide +kernel
theorem dJ9_floorDiv_7cf53_6 : decode mJ9_floorDiv_7cf53.2.1 6 = .ok (.ixor, 1) := by decide +kernel
theorem dJ9_floorDiv_7cf53_7 : decode mJ9_floorDiv_7cf53.2.1 7 = .ok (.ifCond .ge 14, 3) := by decide +kernel
theorem dJ9_floorDiv_7cf53_10 : decode mJ9_floorDiv_7cf53.2.1 10 = .ok (.iload_n 2, 1) := by decide +kernel
theorem dJ9_floorDiv_7cf53_11 : decode mJ9_floorDiv_7cf53.2.1 11 = .ok (.iload_n 1, 1) := by decide +kernel
theorem dJ9_floorDiv_7cf53_12 : decode mJ9_floorDiv_7cf53.2.1 12 = .ok (.imul, 1) := by decide +kernel
theorem dJ9_floorDiv_7cf53_13 : decode mJ9_floorDiv_7cf53.2.1 13 = .ok (.iload_n 0, 1) := by decide +kernel
theorem dJ9_floorDiv_7cf53_14 : decode mJ9_floorDiv_7cf53.2.1 14 = .ok (.if_icmp .eq 7, 3) := by decide +kernel
theorem dJ9_floorDiv_7cf53_17 : decode mJ9_floorDiv_7cf53.2.1 17 = .ok (.iload_n 2, 1) := by decide +kernel
theorem dJ9_floorDiv_7cf53_18 : decode mJ9_floorDiv_7cf53.2.1 18 = .ok (.iconst 1, 1) := by decide +kernel
theorem dJ9_floorDiv_7cf53_19 : decode mJ9_floorDiv_7cf53.2.1 19 = .ok (.isub, 1) := by decide +kernel
theorem dJ9_floorDiv_7cf53_20 : decode mJ9_floorDiv_7cf53.2.1 20 = .ok (.ireturn, 1) := by decide +kernel
theorem dJ9_floorDiv_7cf53_21 : decode mJ9_floorDiv_7cf53.2.1 21 = .ok (.iload_n 2, 1) := by decide +kernel
theorem dJ9_floorDiv_7cf53_22 : decode mJ9_floorDiv_7cf53.2.1 22 = .ok (.ireturn, 1) := by decide +kernel
def fJ9_floorDiv_7cf53_21 (p1 : Int32) (p2 : Int32) (v2 : Int32) (σ : gS) : Option (Int32 × gS) :=
  some (v2, σ)
set_option maxHeartbeats 4000000 in
set_option maxRecDepth 100000 in
theorem pJ9_floorDiv_7cf53_21 {E : gE} {p1 : Int32} {p2 : Int32} {r : Int32} {σ' : gS} {v2 : Int32} {σ : gS} (h : fJ9_floorDiv_7cf53_21 p1 p2 v2 σ = some (r, σ')) : gG E mJ9_floorDiv_7cf53 21 [(2, .int v2)] [] σ (some (.int r)) σ' := by
  unfold fJ9_floorDiv_7cf53_21 at h
  refine g_iload_n dJ9_floorDiv_7cf53_21 rfl 0 rfl ?_
  obtain ⟨rfl, rfl⟩ := so_inj h
  exact g_iret dJ9_floorDiv_7cf53_22 rfl
def fJ9_floorDiv_7cf53 (p1 : Int32) (p2 : Int32) (σ : gS) : Option (Int32 × gS) :=
  gg (¬ p2 = 0) (
  bnd (p1 / p2) fun x2 =>
  if 0 ≤ (p1 ^^^ p2) then
    fJ9_floorDiv_7cf53_21 p1 p2 x2 σ
  else
    if (x2 * p2) = p1 then
      fJ9_floorDiv_7cf53_21 p1 p2 x2 σ
    else
      some (x2 - 1, σ))
set_option maxHeartbeats 4000000 in
set_option maxRecDepth 100000 in
theorem pJ9_floorDiv_7cf53 {E : gE} {p1 : Int32} {p2 : Int32} {r : Int32} {σ' : gS} {σ : gS} (h : fJ9_floorDiv_7cf53 p1 p2 σ = some (r, σ')) : gG E mJ9_floorDiv_7cf53 0 [(0, .int p1), (1, .int p2)] [] σ (some (.int r)) σ' := by
  unfold fJ9_floorDiv_7cf53 at h
  refine g_iload_n dJ9_floorDiv_7cf53_0 rfl 0 rfl ?_
  refine g_iload_n dJ9_floorDiv_7cf53_1 rfl 1 rfl ?_
  obtain ⟨g1, h⟩ := gg_some h
  refine g_idiv dJ9_floorDiv_7cf53_2 g1 ?_
  obtain ⟨x2, ex2, h⟩ := bnd_nm h
  refine g_topi ex2 ?_
  refine g_istore_n (lv' := [(2, .int x2), (0, .int p1), (1, .int p2)]) dJ9_floorDiv_7cf53_3 rfl (Nat.le_of_ble_eq_true rfl) rfl ?_
  refine g_iload_n dJ9_floorDiv_7cf53_4 rfl 1 rfl ?_
  refine g_iload_n dJ9_floorDiv_7cf53_5 rfl 2 rfl ?_
  refine g_ixor dJ9_floorDiv_7cf53_6 ?_
  refine g_if_ge (t := 21) dJ9_floorDiv_7cf53_7 (by decide) (fun c3 => ?_) (fun c3 => ?_)
  · replace h := if_t h c3
    refine g_sub [0] rfl ?_
    exact pJ9_floorDiv_7cf53_21 h
  · replace h := if_f h c3
    refine g_iload_n dJ9_floorDiv_7cf53_10 rfl 0 rfl ?_
    refine g_iload_n dJ9_floorDiv_7cf53_11 rfl 2 rfl ?_
    refine g_imul dJ9_floorDiv_7cf53_12 ?_
    refine g_iload_n dJ9_floorDiv_7cf53_13 rfl 1 rfl ?_
    refine g_icmp_eq (t := 21) dJ9_floorDiv_7cf53_14 (by decide) (fun c4 => ?_) (fun c4 => ?_)
    · replace h := if_t h c4
      refine g_sub [0] rfl ?_
      exact pJ9_floorDiv_7cf53_21 h
    · replace h := if_f h c4
      refine g_iload_n dJ9_floorDiv_7cf53_17 rfl 0 rfl ?_
      refine g_iconst (v := 1) dJ9_floorDiv_7cf53_18 (by decide) ?_
      refine g_isub dJ9_floorDiv_7cf53_19 ?_
      obtain ⟨rfl, rfl⟩ := so_inj h
      exact g_iret dJ9_floorDiv_7cf53_20 rfl
theorem zJ9_floorDiv_7cf53 {E : gE} {p1 : Int32} {p2 : Int32} {r : Int32} {σ σ' : gS} (h : fJ9_floorDiv_7cf53 p1 p2 σ = some (r, σ')) : gC E mJ9_floorDiv_7cf53 [.int p1, .int p2] σ (some (.int r)) σ' :=
  gC_ofF (by decide +kernel) rfl (Nat.le_of_ble_eq_true rfl) (pJ9_floorDiv_7cf53 h)
theorem fl_RX9_49 : gFl RX9 49 3 8 := ⟨RX3, TX3, 10, rfl, by decide, ux_3, Or.inr ⟨"LinkageCurves", by decide +kernel⟩⟩
theorem fl_RX9_99 : gFl RX9 99 3 9 := ⟨RX3, TX3, 10, rfl, by decide, ux_3, Or.inr ⟨"LinkageCurves", by decide +kernel⟩⟩
theorem fl_RX9_102 : gFl RX9 102 5 0 := ⟨RX5, TX5, 3, rfl, by decide, ux_5, Or.inr ⟨"LinkageCurves", by decide +kernel⟩⟩
theorem fl_RX9_109 : gFl RX9 109 5 1 := ⟨RX5, TX5, 3, rfl, by decide, ux_5, Or.inr ⟨"LinkageCurves", by decide +kernel⟩⟩
theorem wc_RX9_97 : Cond.constant RX9 97 65536 ∈ gWS := (gm 917 (by decide +kernel) rfl)
theorem wc_RX9_98 : Cond.constant RX9 98 8388608 ∈ gWS := (gm 918 (by decide +kernel) rfl)
def mX9_placeDriven : gM := (yX9_placeDriven, cX9_placeDriven, RX9, 11, none, 2, 43)
theorem dX9_placeDriven_0 : decode mX9_placeDriven.2.1 0 = .ok (.iload_n 2, 1) := by decide +kernel
theorem dX9_placeDriven_1 : decode mX9_placeDriven.2.1 1 = .ok (.bipush 64, 2) := by decide +kernel
theorem dX9_placeDriven_3 : decode mX9_placeDriven.2.1 3 = .ok (.irem, 1) := by decide +kernel
theorem dX9_placeDriven_4 : decode mX9_placeDriven.2.1 4 = .ok (.istore 4, 2) := by decide +kernel
theorem dX9_placeDriven_6 : decode mX9_placeDriven.2.1 6 = .ok (.ldc 97, 2) := by decide +kernel
theorem dX9_placeDriven_8 : decode mX9_placeDriven.2.1 8 = .ok (.sipush 4096, 3) := by decide +kernel
theorem dX9_placeDriven_11 : decode mX9_placeDriven.2.1 11 = .ok (.iload 4, 2) := by decide +kernel
theorem dX9_placeDriven_13 : decode mX9_placeDriven.2.1 13 = .ok (.iload 4, 2) := by decide +kernel
theorem dX9_placeDriven_15 : decode mX9_placeDriven.2.1 15 = .ok (.imul, 1) := by decide +kernel
theorem dX9_placeDriven_16 : decode mX9_placeDriven.2.1 16 = .ok (.isub, 1) := by decide +kernel
theorem dX9_placeDriven_17 : decode mX9_placeDriven.2.1 17 = .ok (.imul, 1) := by decide +kernel
theorem dX9_placeDriven_18 : decode mX9_placeDriven.2.1 18 = .ok (.sipush 4096, 3) := by decide +kernel
theorem dX9_placeDriven_21 : decode mX9_placeDriven.2.1 21 = .ok (.iload 4, 2) := by decide +kernel
theorem dX9_placeDriven_23 : decode mX9_placeDriven.2.1 23 = .ok (.iload 4, 2) := by decide +kernel
theorem dX9_placeDriven_25 : decode mX9_placeDriven.2.1 25 = .ok (.imul, 1) := by decide +kernel
theorem dX9_placeDriven_26 : decode mX9_placeDriven.2.1 26 = .ok (.iadd, 1) := by decide +kernel
theorem dX9_placeDriven_27 : decode mX9_placeDriven.2.1 27 = .ok (.idiv, 1) := by decide +kernel
theorem dX9_placeDriven_28 : decode mX9_placeDriven.2.1 28 = .ok (.istore 5, 2) := by decide +kernel
theorem dX9_placeDriven_30 : decode mX9_placeDriven.2.1 30 = .ok (.ldc 98, 2) := by decide +kernel
theorem dX9_placeDriven_32 : decode mX9_placeDriven.2.1 32 = .ok (.iload 4, 2) := by decide +kernel
theorem dX9_placeDriven_34 : decode mX9_placeDriven.2.1 34 = .ok (.imul, 1) := by decide +kernel
theorem dX9_placeDriven_35 : decode mX9_placeDriven.2.1 35 = .ok (.sipush 4096, 3) := by decide +kernel
theorem dX9_placeDriven_38 : decode mX9_placeDriven.2.1 38 = .ok (.iload 4, 2) := by decide +kernel
theorem dX9_placeDriven_40 : decode mX9_placeDriven.2.1 40 = .ok (.iload 4, 2) := by decide +kernel
theorem dX9_placeDriven_42 : decode mX9_placeDriven.2.1 42 = .ok (.imul, 1) := by decide +kernel
theorem dX9_placeDriven_43 : decode mX9_placeDriven.2.1 43 = .ok (.iadd, 1) := by decide +kernel
theorem dX9_placeDriven_44 : decode mX9_placeDriven.2.1 44 = .ok (.idiv, 1) := by decide +kernel
theorem dX9_placeDriven_45 : decode mX9_placeDriven.2.1 45 = .ok (.istore 6, 2) := by decide +kernel
theorem dX9_placeDriven_47 : decode mX9_placeDriven.2.1 47 = .ok (.iconst 0, 1) := by decide +kernel
theorem dX9_placeDriven_48 : decode mX9_placeDriven.2.1 48 = .ok (.istore 7, 2) := by decide +kernel
theorem dX9_placeDriven_50 : decode mX9_placeDriven.2.1 50 = .ok (.iload 7, 2) := by decide +kernel
theorem dX9_placeDriven_52 : decode mX9_placeDriven.2.1 52 = .ok (.iload_n 2, 1) := by decide +kernel
theorem dX9_placeDriven_53 : decode mX9_placeDriven.2.1 53 = .ok (.bipush 64, 2) := by decide +kernel
theorem dX9_placeDriven_55 : decode mX9_placeDriven.2.1 55 = .ok (.idiv, 1) := by decide +kernel
theorem dX9_placeDriven_56 : decode mX9_placeDriven.2.1 56 = .ok (.if_icmp .ge 22, 3) := by decide +kernel
theorem dX9_placeDriven_59 : decode mX9_placeDriven.2.1 59 = .ok (.iload 5, 2) := by decide +kernel
theorem dX9_placeDriven_61 : decode mX9_placeDriven.2.1 61 = .ok (.istore 8, 2) := by decide +kernel
theorem dX9_placeDriven_63 : decode mX9_placeDriven.2.1 63 = .ok (.iload 6, 2) := by decide +kernel
theorem dX9_placeDriven_65 : decode mX9_placeDriven.2.1 65 = .ok (.ineg, 1) := by decide +kernel
theorem dX9_placeDriven_66 : decode mX9_placeDriven.2.1 66 = .ok (.istore 5, 2) := by decide +kernel
theorem dX9_placeDriven_68 : decode mX9_placeDriven.2.1 68 = .ok (.iload 8, 2) := by decide +kernel
theorem dX9_placeDriven_70 : decode mX9_placeDriven.2.1 70 = .ok (.istore 6, 2) := by decide +kernel
theorem dX9_placeDriven_72 : decode mX9_placeDriven.2.1 72 = .ok (.iinc 7 1, 3) := by decide +kernel
theorem dX9_placeDriven_75 : decode mX9_placeDriven.2.1 75 = .ok (.goto (-25), 3) := by decide +kernel
theorem dX9_placeDriven_78 : decode mX9_placeDriven.2.1 78 = .ok (.aload_n 1, 1) := by decide +kernel
theorem dX9_placeDriven_79 : decode mX9_placeDriven.2.1 79 = .ok (.getfield 49, 3) := by decide +kernel
theorem dX9_placeDriven_82 : decode mX9_placeDriven.2.1 82 = .ok (.istore 7, 2) := by decide +kernel
theorem dX9_placeDriven_84 : decode mX9_placeDriven.2.1 84 = .ok (.aload_n 1, 1) := by decide +kernel
theorem dX9_placeDriven_85 : decode mX9_placeDriven.2.1 85 = .ok (.getfield 99, 3) := by decide +kernel
theorem dX9_placeDriven_88 : decode mX9_placeDriven.2.1 88 = .ok (.istore 8, 2) := by decide +kernel
theorem dX9_placeDriven_90 : decode mX9_placeDriven.2.1 90 = .ok (.aload_n 1, 1) := by decide +kernel
theorem dX9_placeDriven_91 : decode mX9_placeDriven.2.1 91 = .ok (.iload 7, 2) := by decide +kernel
theorem dX9_placeDriven_93 : decode mX9_placeDriven.2.1 93 = .ok (.invokevirtual 74, 3) := by decide +kernel
theorem dX9_placeDriven_96 : decode mX9_placeDriven.2.1 96 = .ok (.aload_n 1, 1) := by decide +kernel
theorem dX9_placeDriven_97 : decode mX9_placeDriven.2.1 97 = .ok (.iload 8, 2) := by decide +kernel
theorem dX9_placeDriven_99 : decode mX9_placeDriven.2.1 99 = .ok (.invokevirtual 74, 3) := by decide +kernel
theorem dX9_placeDriven_102 : decode mX9_placeDriven.2.1 102 = .ok (.isub, 1) := by decide +kernel
theorem dX9_placeDriven_103 : decode mX9_placeDriven.2.1 103 = .ok (.istore 9, 2) := by decide +kernel
theorem dX9_placeDriven_105 : decode mX9_placeDriven.2.1 105 = .ok (.aload_n 1, 1) := by decide +kernel
theorem dX9_placeDriven_106 : decode mX9_placeDriven.2.1 106 = .ok (.iload 7, 2) := by decide +kernel
theorem dX9_placeDriven_108 : decode mX9_placeDriven.2.1 108 = .ok (.invokevirtual 77, 3) := by decide +kernel
theorem dX9_placeDriven_111 : decode mX9_placeDriven.2.1 111 = .ok (.aload_n 1, 1) := by decide +kernel
theorem dX9_placeDriven_112 : decode mX9_placeDriven.2.1 112 = .ok (.iload 8, 2) := by decide +kernel
theorem dX9_placeDriven_114 : decode mX9_placeDriven.2.1 114 = .ok (.invokevirtual 77, 3) := by decide +kernel
theorem dX9_placeDriven_117 : decode mX9_placeDriven.2.1 117 = .ok (.isub, 1) := by decide +kernel
theorem dX9_placeDriven_118 : decode mX9_placeDriven.2.1 118 = .ok (.istore 10, 2) := by decide +kernel
theorem dX9_placeDriven_120 : decode mX9_placeDriven.2.1 120 = .ok (.aload_n 3, 1) := by decide +kernel
theorem dX9_placeDriven_121 : decode mX9_placeDriven.2.1 121 = .ok (.iload 7, 2) := by decide +kernel
theorem dX9_placeDriven_123 : decode mX9_placeDriven.2.1 123 = .ok (.aload_n 3, 1) := by decide +kernel
theorem dX9_placeDriven_124 : decode mX9_placeDriven.2.1 124 = .ok (.getfield 102, 3) := by decide +kernel
theorem dX9_placeDriven_127 : decode mX9_placeDriven.2.1 127 = .ok (.iload 8, 2) := by decide +kernel
theorem dX9_placeDriven_129 : decode mX9_placeDriven.2.1 129 = .ok (.laload, 1) := by decide +kernel
theorem dX9_placeDriven_130 : decode mX9_placeDriven.2.1 130 = .ok (.iload 5, 2) := by decide +kernel
theorem dX9_placeDriven_132 : decode mX9_placeDriven.2.1 132 = .ok (.iload 9, 2) := by decide +kernel
theorem dX9_placeDriven_134 : decode mX9_placeDriven.2.1 134 = .ok (.imul, 1) := by decide +kernel
theorem dX9_placeDriven_135 : decode mX9_placeDriven.2.1 135 = .ok (.iload 6, 2) := by decide +kernel
theorem dX9_placeDriven_137 : decode mX9_placeDriven.2.1 137 = .ok (.iload 10, 2) := by decide +kernel
theorem dX9_placeDriven_139 : decode mX9_placeDriven.2.1 139 = .ok (.imul, 1) := by decide +kernel
theorem dX9_placeDriven_140 : decode mX9_placeDriven.2.1 140 = .ok (.isub, 1) := by decide +kernel
theorem dX9_placeDriven_141 : decode mX9_placeDriven.2.1 141 = .ok (.bipush 64, 2) := by decide +kernel
theorem dX9_placeDriven_143 : decode mX9_placeDriven.2.1 143 = .ok (.invokestatic 104, 3) := by decide +kernel
theorem dX9_placeDriven_146 : decode mX9_placeDriven.2.1 146 = .ok (.i2l, 1) := by decide +kernel
theorem dX9_placeDriven_147 : decode mX9_placeDriven.2.1 147 = .ok (.ladd, 1) := by decide +kernel
theorem dX9_placeDriven_148 : decode mX9_placeDriven.2.1 148 = .ok (.aload_n 3, 1) := by decide +kernel
theorem dX9_placeDriven_149 : decode mX9_placeDriven.2.1 149 = .ok (.getfield 109, 3) := by decide +kernel
theorem dX9_placeDriven_152 : decode mX9_placeDriven.2.1 152 = .ok (.iload 8, 2) := by decide +kernel
theorem dX9_placeDriven_154 : decode mX9_placeDriven.2.1 154 = .ok (.laload, 1) := by decide +kernel
theorem dX9_placeDriven_155 : decode mX9_placeDriven.2.1 155 = .ok (.iload 6, 2) := by decide +kernel
theorem dX9_placeDriven_157 : decode mX9_placeDriven.2.1 157 = .ok (.iload 9, 2) := by decide +kernel
theorem dX9_placeDriven_159 : decode mX9_placeDriven.2.1 159 = .ok (.imul, 1) := by decide +kernel
theorem dX9_placeDriven_160 : decode mX9_placeDriven.2.1 160 = .ok (.iload 5, 2) := by decide +kernel
theorem dX9_placeDriven_162 : decode mX9_placeDriven.2.1 162 = .ok (.iload 10, 2) := by decide +kernel
theorem dX9_placeDriven_164 : decode mX9_placeDriven.2.1 164 = .ok (.imul, 1) := by decide +kernel
theorem dX9_placeDriven_165 : decode mX9_placeDriven.2.1 165 = .ok (.iadd, 1) := by decide +kernel
theorem dX9_placeDriven_166 : decode mX9_placeDriven.2.1 166 = .ok (.bipush 64, 2) := by decide +kernel
theorem dX9_placeDriven_168 : decode mX9_placeDriven.2.1 168 = .ok (.invokestatic 104, 3) := by decide +kernel
theorem dX9_placeDriven_171 : decode mX9_placeDriven.2.1 171 = .ok (.i2l, 1) := by decide +kernel
theorem dX9_placeDriven_172 : decode mX9_placeDriven.2.1 172 = .ok (.ladd, 1) := by decide +kernel
theorem dX9_placeDriven_173 : decode mX9_placeDriven.2.1 173 = .ok (.invokevirtual 85, 3) := by decide +kernel
theorem dX9_placeDriven_176 : decode mX9_placeDriven.2.1 176 = .ok (.return_, 1) := by decide +kernel
theorem okX9_placeDriven_74 : gOkV mX9_placeDriven mX3_x 74 1 := ⟨List.forall_mem_cons.mpr ⟨(gm 676 (by decide +kernel) rfl), List.forall_mem_cons.mpr ⟨(gm 840 (by decide +kernel) rfl), List.forall_mem_cons.mpr ⟨(gm 674 (by decide +kernel) rfl), List.forall_mem_cons.mpr ⟨(gm 675 (by decide +kernel) rfl), List.forall_mem_cons.mpr ⟨(gm 109 (by decide +kernel) rfl), fun _ h => absurd h List.not_mem_nil⟩⟩⟩⟩⟩, by decide +kernel, by decide +kernel, by decide +kernel⟩
theorem okX9_placeDriven_77 : gOkV mX9_placeDriven mX3_y 77 1 := ⟨List.forall_mem_cons.mpr ⟨(gm 684 (by decide +kernel) rfl), List.forall_mem_cons.mpr ⟨(gm 841 (by decide +kernel) rfl), List.forall_mem_cons.mpr ⟨(gm 682 (by decide +kernel) rfl), List.forall_mem_cons.mpr ⟨(gm 683 (by decide +kernel) rfl), List.forall_mem_cons.mpr ⟨(gm 109 (by decide +kernel) rfl), fun _ h => absurd h List.not_mem_nil⟩⟩⟩⟩⟩, by decide +kernel, by decide +kernel, by decide +kernel⟩
theorem okX9_placeDriven_104 : gOkS mX9_placeDriven mJ9_floorDiv_7cf53 104 2 := ⟨List.forall_mem_cons.mpr ⟨(gm 921 (by decide +kernel) rfl), List.forall_mem_cons.mpr ⟨(gm 919 (by decide +kernel) rfl), List.forall_mem_cons.mpr ⟨(gm 920 (by decide +kernel) rfl), List.forall_mem_cons.mpr ⟨(gm 124 (by decide +kernel) rfl), fun _ h => absurd h List.not_mem_nil⟩⟩⟩⟩, by decide +kernel, by decide +kernel, by decide +kernel⟩
theorem okX9_placeDriven_85 : gOkV mX9_placeDriven mX5_set 85 3 := ⟨List.forall_mem_cons.mpr ⟨(gm 912 (by decide +kernel) rfl), List.forall_mem_cons.mpr ⟨(gm 909 (by decide +kernel) rfl), List.forall_mem_cons.mpr ⟨(gm 910 (by decide +kernel) rfl), List.forall_mem_cons.mpr ⟨(gm 911 (by decide +kernel) rfl), List.forall_mem_cons.mpr ⟨(gm 117 (by decide +kernel) rfl), fun _ h => absurd h List.not_mem_nil⟩⟩⟩⟩⟩, by decide +kernel, by decide +kernel, by decide +kernel⟩
def fX9_placeDriven_50 (p1 : Nat) (p2 : Int32) (p3 : Nat) : Nat → Int32 → Int32 → Int32 → gS → Option (Unit × gS)
  | 0, _, _, _, _ => none
  | n + 1, v5, v6, v7, σ => if (p2 / 64) ≤ v7 then
    bd (fX3_x p1 (σ.1 p1 8) σ) fun x2 σ3 =>
    bd (fX3_x p1 (σ.1 p1 9) σ3) fun x5 σ6 =>
    bnd (x2 - x5) fun x8 =>
    bd (fX3_y p1 (σ.1 p1 8) σ6) fun x9 σ10 =>
    bd (fX3_y p1 (σ.1 p1 9) σ10) fun x12 σ13 =>
    bnd (x9 - x12) fun x15 =>
    gg (¬ (σ.1 p1 9 < 0 ∨ 24 ≤ (σ.1 p1 9).toNatClampNeg)) (
    bd (fJ9_floorDiv_7cf53 ((v5 * x8) - (v6 * x15)) 64 σ13) fun x17 σ18 =>
    gg (¬ (σ.1 p1 9 < 0 ∨ 24 ≤ (σ.1 p1 9).toNatClampNeg)) (
    bd (fJ9_floorDiv_7cf53 ((v6 * x8) + (v5 * x15)) 64 σ18) fun x21 σ22 =>
    bd (fX5_set p3 (σ.1 p1 8) ((σ13.2.1 (p3 + 1) ((σ.1 p1 9).toNatClampNeg)) + x17.toInt64) ((σ18.2.1 (p3 + 2) ((σ.1 p1 9).toNatClampNeg)) + x21.toInt64) σ22) fun _ σ24 =>
    some ((), σ24)))
  else
    bnd (-v6) fun x26 =>
    bnd (v7 + 1) fun x27 =>
    fX9_placeDriven_50 p1 p2 p3 n x26 v5 x27 σ
set_option maxHeartbeats 4000000 in
set_option maxRecDepth 100000 in
theorem pX9_placeDriven_50 {E : gE} {p1 : Nat} {p2 : Int32} {p3 : Nat} {r : Unit} {σ' : gS} (hp1 : gLk p1) (hp3 : gPl p3) : ∀ (n : Nat) (v5 : Int32) (v6 : Int32) (v7 : Int32) (σ : gS), fX9_placeDriven_50 p1 p2 p3 n v5 v6 v7 σ = some (r, σ') → gG E mX9_placeDriven 50 [(1, .ref p1), (2, .int p2), (3, .ref p3), (5, .int v5), (6, .int v6), (7, .int v7)] [] σ (none) σ' := by
  intro n
  induction n with
  | zero => intro v5 v6 v7 σ h; exact absurd (show none = some (r, σ') from h) (by intro q; cases q)
  | succ n ih =>
  intro v5 v6 v7 σ h
  unfold fX9_placeDriven_50 at h
  refine g_iload dX9_placeDriven_50 5 rfl ?_
  refine g_iload_n dX9_placeDriven_52 rfl 1 rfl ?_
  refine g_bipush (v := 64) dX9_placeDriven_53 (by decide) ?_
  refine g_idiv dX9_placeDriven_55 (by decide) ?_
  refine g_icmp_ge (t := 78) dX9_placeDriven_56 (by decide) (fun c1 => ?_) (fun c1 => ?_)
  · replace h := if_t h c1
    refine g_aload_n dX9_placeDriven_78 rfl 0 rfl ?_
    refine g_getI dX9_placeDriven_79 (gi_lk hp1) rfl fl_RX9_49 ?_
    refine g_istore (lv' := [(7, .int (σ.1 p1 8)), (1, .ref p1), (2, .int p2), (3, .ref p3), (5, .int v5), (6, .int v6)]) dX9_placeDriven_82 (Nat.le_of_ble_eq_true rfl) rfl ?_
    refine g_aload_n dX9_placeDriven_84 rfl 1 rfl ?_
    refine g_getI dX9_placeDriven_85 (gi_lk hp1) rfl fl_RX9_99 ?_
    refine g_istore (lv' := [(8, .int (σ.1 p1 9)), (7, .int (σ.1 p1 8)), (1, .ref p1), (2, .int p2), (3, .ref p3), (5, .int v5), (6, .int v6)]) dX9_placeDriven_88 (Nat.le_of_ble_eq_true rfl) rfl ?_
    refine g_aload_n dX9_placeDriven_90 rfl 2 rfl ?_
    refine g_iload dX9_placeDriven_91 1 rfl ?_
    obtain ⟨x2, σ3, y4, h⟩ := bd_some h
    refine g_callVr (as := [.int (σ.1 p1 8)]) (st := []) (zX3_x hp1 y4) dX9_placeDriven_93 (gi_lk hp1) rfl okX9_placeDriven_74 (Nat.le_of_ble_eq_true rfl) ?_
    refine g_aload_n dX9_placeDriven_96 rfl 2 rfl ?_
    refine g_iload dX9_placeDriven_97 0 rfl ?_
    obtain ⟨x5, σ6, y7, h⟩ := bd_some h
    refine g_callVr (as := [.int (σ.1 p1 9)]) (st := [.int x2]) (zX3_x hp1 y7) dX9_placeDriven_99 (gi_lk hp1) rfl okX9_placeDriven_74 (Nat.le_of_ble_eq_true rfl) ?_
    refine g_isub dX9_placeDriven_102 ?_
    obtain ⟨x8, ex8, h⟩ := bnd_nm h
    refine g_topi ex8 ?_
    refine g_istore (lv' := [(9, .int x8), (8, .int (σ.1 p1 9)), (7, .int (σ.1 p1 8)), (1, .ref p1), (2, .int p2), (3, .ref p3), (5, .int v5), (6, .int v6)]) dX9_placeDriven_103 (Nat.le_of_ble_eq_true rfl) rfl ?_
    refine g_aload_n dX9_placeDriven_105 rfl 3 rfl ?_
    refine g_iload dX9_placeDriven_106 2 rfl ?_
    obtain ⟨x9, σ10, y11, h⟩ := bd_some h
    refine g_callVr (as := [.int (σ.1 p1 8)]) (st := []) (zX3_y hp1 y11) dX9_placeDriven_108 (gi_lk hp1) rfl okX9_placeDriven_77 (Nat.le_of_ble_eq_true rfl) ?_
    refine g_aload_n dX9_placeDriven_111 rfl 3 rfl ?_
    refine g_iload dX9_placeDriven_112 1 rfl ?_
    obtain ⟨x12, σ13, y14, h⟩ := bd_some h
    refine g_callVr (as := [.int (σ.1 p1 9)]) (st := [.int x9]) (zX3_y hp1 y14) dX9_placeDriven_114 (gi_lk hp1) rfl okX9_placeDriven_77 (Nat.le_of_ble_eq_true rfl) ?_
    refine g_isub dX9_placeDriven_117 ?_
    obtain ⟨x15, ex15, h⟩ := bnd_nm h
    refine g_topi ex15 ?_
    refine g_istore (lv' := [(10, .int x15), (9, .int x8), (8, .int (σ.1 p1 9)), (7, .int (σ.1 p1 8)), (1, .ref p1), (2, .int p2), (3, .ref p3), (5, .int v5), (6, .int v6)]) dX9_placeDriven_118 (Nat.le_of_ble_eq_true rfl) rfl ?_
    refine g_aload_n dX9_placeDriven_120 rfl 6 rfl ?_
    refine g_iload dX9_placeDriven_121 3 rfl ?_
    refine g_aload_n dX9_placeDriven_123 rfl 6 rfl ?_
    refine g_getC (n := (p3 + 1)) dX9_placeDriven_124 (gi_pl hp3) rfl fl_RX9_102 ?_
    refine g_iload dX9_placeDriven_127 2 rfl ?_
    obtain ⟨g16, h⟩ := gg_some h
    refine g_lald dX9_placeDriven_129 (gi_pl1 hp3) g16 ?_
    refine g_iload dX9_placeDriven_130 7 rfl ?_
    refine g_iload dX9_placeDriven_132 1 rfl ?_
    refine g_imul dX9_placeDriven_134 ?_
    refine g_iload dX9_placeDriven_135 8 rfl ?_
    refine g_iload dX9_placeDriven_137 0 rfl ?_
    refine g_imul dX9_placeDriven_139 ?_
    refine g_isub dX9_placeDriven_140 ?_
    refine g_bipush (v := 64) dX9_placeDriven_141 (by decide) ?_
    obtain ⟨x17, σ18, y19, h⟩ := bd_some h
    refine g_callSr (as := [.int ((v5 * x8) - (v6 * x15)), .int 64]) (st := [.long (σ13.2.1 (p3 + 1) ((σ.1 p1 9).toNatClampNeg)), .int (σ.1 p1 8), .ref p3]) (zJ9_floorDiv_7cf53 y19) dX9_placeDriven_143 okX9_placeDriven_104 (Nat.le_of_ble_eq_true rfl) ?_
    refine g_i2l dX9_placeDriven_146 ?_
    refine g_ladd dX9_placeDriven_147 ?_
    refine g_aload_n dX9_placeDriven_148 rfl 6 rfl ?_
    refine g_getC (n := (p3 + 2)) dX9_placeDriven_149 (gi_pl hp3) rfl fl_RX9_109 ?_
    refine g_iload dX9_placeDriven_152 2 rfl ?_
    obtain ⟨g20, h⟩ := gg_some h
    refine g_lald dX9_placeDriven_154 (gi_pl2 hp3) g20 ?_
    refine g_iload dX9_placeDriven_155 8 rfl ?_
    refine g_iload dX9_placeDriven_157 1 rfl ?_
    refine g_imul dX9_placeDriven_159 ?_
    refine g_iload dX9_placeDriven_160 7 rfl ?_
    refine g_iload dX9_placeDriven_162 0 rfl ?_
    refine g_imul dX9_placeDriven_164 ?_
    refine g_iadd dX9_placeDriven_165 ?_
    refine g_bipush (v := 64) dX9_placeDriven_166 (by decide) ?_
    obtain ⟨x21, σ22, y23, h⟩ := bd_some h
    refine g_callSr (as := [.int ((v6 * x8) + (v5 * x15)), .int 64]) (st := [.long (σ18.2.1 (p3 + 2) ((σ.1 p1 9).toNatClampNeg)), .long ((σ13.2.1 (p3 + 1) ((σ.1 p1 9).toNatClampNeg)) + x17.toInt64), .int (σ.1 p1 8), .ref p3]) (zJ9_floorDiv_7cf53 y23) dX9_placeDriven_168 okX9_placeDriven_104 (Nat.le_of_ble_eq_true rfl) ?_
    refine g_i2l dX9_placeDriven_171 ?_
    refine g_ladd dX9_placeDriven_172 ?_
    obtain ⟨_, σ24, y25, h⟩ := bd_some h
    refine g_callVv (as := [.int (σ.1 p1 8), .long ((σ13.2.1 (p3 + 1) ((σ.1 p1 9).toNatClampNeg)) + x17.toInt64), .long ((σ18.2.1 (p3 + 2) ((σ.1 p1 9).toNatClampNeg)) + x21.toInt64)]) (st := []) (zX5_set hp3 y25) dX9_placeDriven_173 (gi_pl hp3) rfl okX9_placeDriven_85 (Nat.le_of_ble_eq_true rfl) ?_
    obtain ⟨rfl, rfl⟩ := so_inj h
    exact g_vret dX9_placeDriven_176 rfl
  · replace h := if_f h c1
    refine g_iload dX9_placeDriven_59 3 rfl ?_
    refine g_istore (lv' := [(8, .int v5), (1, .ref p1), (2, .int p2), (3, .ref p3), (5, .int v5), (6, .int v6), (7, .int v7)]) dX9_placeDriven_61 (Nat.le_of_ble_eq_true rfl) rfl ?_
    refine g_iload dX9_placeDriven_63 5 rfl ?_
    refine g_ineg dX9_placeDriven_65 ?_
    obtain ⟨x26, ex26, h⟩ := bnd_nm h
    refine g_topi ex26 ?_
    refine g_istore (lv' := [(5, .int x26), (8, .int v5), (1, .ref p1), (2, .int p2), (3, .ref p3), (6, .int v6), (7, .int v7)]) dX9_placeDriven_66 (Nat.le_of_ble_eq_true rfl) rfl ?_
    refine g_iload dX9_placeDriven_68 1 rfl ?_
    refine g_istore (lv' := [(6, .int v5), (5, .int x26), (8, .int v5), (1, .ref p1), (2, .int p2), (3, .ref p3), (7, .int v7)]) dX9_placeDriven_70 (Nat.le_of_ble_eq_true rfl) rfl ?_
    obtain ⟨x27, ex27, h⟩ := bnd_nm h
    refine g_iinc (j := 6) (v := x27) (lv' := [(7, .int x27), (6, .int v5), (5, .int x26), (8, .int v5), (1, .ref p1), (2, .int p2), (3, .ref p3)]) dX9_placeDriven_72 rfl (by rw [ex27]; rfl) (Nat.le_of_ble_eq_true rfl) rfl ?_
    refine g_goto (t := 50) dX9_placeDriven_75 (by decide) ?_
    refine g_sub [4, 5, 6, 2, 1, 0] rfl ?_
    exact ih x26 v5 x27 σ h
def fX9_placeDriven (p1 : Nat) (p2 : Int32) (p3 : Nat) (σ : gS) : Option (Unit × gS) :=
  bnd (p2 - p2 / 64 * 64) fun x1 =>
  gg (¬ 4096 + (x1 * x1) = 0) (
  bnd ((65536 * (4096 - (x1 * x1))) / (4096 + (x1 * x1))) fun x3 =>
  gg (¬ 4096 + (x1 * x1) = 0) (
  bnd ((8388608 * x1) / (4096 + (x1 * x1))) fun x5 =>
  fX9_placeDriven_50 p1 p2 p3 2000 x3 x5 0 σ))
set_option maxHeartbeats 4000000 in
set_option maxRecDepth 100000 in
theorem pX9_placeDriven {E : gE} {p1 : Nat} {p2 : Int32} {p3 : Nat} {r : Unit} {σ' : gS} {σ : gS} (hp1 : gLk p1) (hp3 : gPl p3) (h : fX9_placeDriven p1 p2 p3 σ = some (r, σ')) : gG E mX9_placeDriven 0 [(0, .ref 124), (1, .ref p1), (2, .int p2), (3, .ref p3)] [] σ (none) σ' := by
  unfold fX9_placeDriven at h
  refine g_iload_n dX9_placeDriven_0 rfl 2 rfl ?_
  refine g_bipush (v := 64) dX9_placeDriven_1 (by decide) ?_
  refine g_irem dX9_placeDriven_3 (by decide) ?_
  obtain ⟨x1, ex1, h⟩ := bnd_nm h
  refine g_topi ex1 ?_
  refine g_istore (lv' := [(4, .int x1), (0, .ref 124), (1, .ref p1), (2, .int p2), (3, .ref p3)]) dX9_placeDriven_4 (Nat.le_of_ble_eq_true rfl) rfl ?_
  refine g_ldc (v := 65536) dX9_placeDriven_6 wc_RX9_97 ?_
  refine g_sipush (v := 4096) dX9_placeDriven_8 (by decide) ?_
  refine g_iload dX9_placeDriven_11 0 rfl ?_
  refine g_iload dX9_placeDriven_13 0 rfl ?_
  refine g_imul dX9_placeDriven_15 ?_
  refine g_isub dX9_placeDriven_16 ?_
  refine g_imul dX9_placeDriven_17 ?_
  refine g_sipush (v := 4096) dX9_placeDriven_18 (by decide) ?_
  refine g_iload dX9_placeDriven_21 0 rfl ?_
  refine g_iload dX9_placeDriven_23 0 rfl ?_
  refine g_imul dX9_placeDriven_25 ?_
  refine g_iadd dX9_placeDriven_26 ?_
  obtain ⟨g2, h⟩ := gg_some h
  refine g_idiv dX9_placeDriven_27 g2 ?_
  obtain ⟨x3, ex3, h⟩ := bnd_nm h
  refine g_topi ex3 ?_
  refine g_istore (lv' := [(5, .int x3), (4, .int x1), (0, .ref 124), (1, .ref p1), (2, .int p2), (3, .ref p3)]) dX9_placeDriven_28 (Nat.le_of_ble_eq_true rfl) rfl ?_
  refine g_ldc (v := 8388608) dX9_placeDriven_30 wc_RX9_98 ?_
  refine g_iload dX9_placeDriven_32 1 rfl ?_
  refine g_imul dX9_placeDriven_34 ?_
  refine g_sipush (v := 4096) dX9_placeDriven_35 (by decide) ?_
  refine g_iload dX9_placeDriven_38 1 rfl ?_
  refine g_iload dX9_placeDriven_40 1 rfl ?_
  refine g_imul dX9_placeDriven_42 ?_
  refine g_iadd dX9_placeDriven_43 ?_
  obtain ⟨g4, h⟩ := gg_some h
  refine g_idiv dX9_placeDriven_44 g4 ?_
  obtain ⟨x5, ex5, h⟩ := bnd_nm h
  refine g_topi ex5 ?_
  refine g_istore (lv' := [(6, .int x5), (5, .int x3), (4, .int x1), (0, .ref 124), (1, .ref p1), (2, .int p2), (3, .ref p3)]) dX9_placeDriven_45 (Nat.le_of_ble_eq_true rfl) rfl ?_
  refine g_iconst (v := 0) dX9_placeDriven_47 (by decide) ?_
  refine g_istore (lv' := [(7, .int 0), (6, .int x5), (5, .int x3), (4, .int x1), (0, .ref 124), (1, .ref p1), (2, .int p2), (3, .ref p3)]) dX9_placeDriven_48 (Nat.le_of_ble_eq_true rfl) rfl ?_
  refine g_sub [5, 6, 7, 2, 1, 0] rfl ?_
  exact pX9_placeDriven_50 hp1 hp3 2000 x3 x5 0 σ h
theorem zX9_placeDriven {E : gE} {p1 : Nat} {p2 : Int32} {p3 : Nat} {r : Unit} {σ σ' : gS} (hp1 : gLk p1) (hp3 : gPl p3) (h : fX9_placeDriven p1 p2 p3 σ = some (r, σ')) : gC E mX9_placeDriven [.ref 124, .ref p1, .int p2, .ref p3] σ (none) σ' :=
  gC_of (by decide +kernel) rfl (Nat.le_of_ble_eq_true rfl) (pX9_placeDriven hp1 hp3 h)
def mJ9_floorDiv_f86c9 : gM := (yJ9_floorDiv_f86c9, cJ9_floorDiv_f86c9, RJ9, 6, (some .long), 0, 0)
theorem dJ9_floorDiv_f86c9_0 : decode mJ9_floorDiv_f86c9.2.1 0 = .ok (.lload_n 0, 1) := by decide +kernel
theorem dJ9_floorDiv_f86c9_1 : decode mJ9_floorDiv_f86c9.2.1 1 = .ok (.lload_n 2, 1) := by decide +kernel
theorem dJ9_floorDiv_f86c9_2 : decode mJ9_floorDiv_f86c9.2.1 2 = .ok (.ldiv, 1) := by decide +kernel
theorem dJ9_floorDiv_f86c9_3 : decode mJ9_floorDiv_f86c9.2.1 3 = .ok (.lstore 4, 2) := by decide +kernel
theorem dJ9_floorDiv_f86c9_5 : decode mJ9_floorDiv_f86c9.2.1 5 = .ok (.lload_n 0, 1) := by decide +kernel
theorem dJ9_floorDiv_f86c9_6 : decode mJ9_floorDiv_f86c9.2.1 6 = .ok (.lload_n 2, 1) := by decide +kernel
theorem dJ9_floorDiv_f86c9_7 : decode mJ9_floorDiv_f86c9.2.1 7 = .ok (.lxor, 1) := by decide +kernel
theorem dJ9_floorDiv_f86c9_8 : decode mJ9_floorDiv_f86c9.2.1 8 = .ok (.lconst 0, 1) := by decide +kernel
theorem dJ9_floorDiv_f86c9_9 : decode mJ9_floorDiv_f86c9.2.1 9 = .ok (.lcmp, 1) := by decide +kernel
theorem dJ9_floorDiv_f86c9_10 : decode mJ9_floorDiv_f86c9.2.1 10 = .ok (.ifCond .ge 17, 3) := by decide +kernel
theorem dJ9_floorDiv_f86c9_13 : decode mJ9_floorDiv_f86c9.2.1 13 = .ok (.lload 4, 2) := by decide +kernel
theorem dJ9_floorDiv_f86c9_15 : decode mJ9_floorDiv_f86c9.2.1 15 = .ok (.lload_n 2, 1) := by decide +kernel
theorem dJ9_floorDiv_f86c9_16 : decode mJ9_floorDiv_f86c9.2.1 16 = .ok (.lmul, 1) := by decide +kernel
theorem dJ9_floorDiv_f86c9_17 : decode mJ9_floorDiv_f86c9.2.1 17 = .ok (.lload_n 0, 1) := by decide +kernel
theorem dJ9_floorDiv_f86c9_18 : decode mJ9_floorDiv_f86c9.2.1 18 = .ok (.lcmp, 1) := by decide +kernel
theorem dJ9_floorDiv_f86c9_19 : decode mJ9_floorDiv_f86c9.2.1 19 = .ok (.ifCond .eq 8, 3) := by decide +kernel
theorem dJ9_floorDiv_f86c9_22 : decode mJ9_floorDiv_f86c9.2.1 22 = .ok (.lload 4, 2) := by decide +kernel
theorem dJ9_floorDiv_f86c9_24 : decode mJ9_floorDiv_f86c9.2.1 24 = .ok (.lconst 1, 1) := by decide +kernel
theorem dJ9_floorDiv_f86c9_25 : decode mJ9_floorDiv_f86c9.2.1 25 = .ok (.lsub, 1) := by decide +kernel
theorem dJ9_floorDiv_f86c9_26 : decode mJ9_floorDiv_f86c9.2.1 26 = .ok (.lreturn, 1) := by decide +kernel
theorem dJ9_floorDiv_f86c9_27 : decode mJ9_floorDiv_f86c9.2.1 27 = .ok (.lload 4, 2) := by decide +kernel
theorem dJ9_floorDiv_f86c9_29 : decode mJ9_floorDiv_f86c9.2.1 29 = .ok (.lreturn, 1) := by decide +kernel
def fJ9_floorDiv_f86c9_27 (p1 : Int64) (p2 : Int64) (v4 : Int64) (σ : gS) : Option (Int64 × gS) :=
  some (v4, σ)
set_option maxHeartbeats 4000000 in
set_option maxRecDepth 100000 in
theorem pJ9_floorDiv_f86c9_27 {E : gE} {p1 : Int64} {p2 : Int64} {r : Int64} {σ' : gS} {v4 : Int64} {σ : gS} (h : fJ9_floorDiv_f86c9_27 p1 p2 v4 σ = some (r, σ')) : gG E mJ9_floorDiv_f86c9 27 [(4, .long v4)] [] σ (some (.long r)) σ' := by
  unfold fJ9_floorDiv_f86c9_27 at h
  refine g_lload dJ9_floorDiv_f86c9_27 0 rfl ?_
  obtain ⟨rfl, rfl⟩ := so_inj h
  exact g_lret dJ9_floorDiv_f86c9_29 rfl
def fJ9_floorDiv_f86c9 (p1 : Int64) (p2 : Int64) (σ : gS) : Option (Int64 × gS) :=
  gg (¬ p2 = 0) (
  bnd (p1 / p2) fun x2 =>
  if 0 ≤ (lg_cmp (p1 ^^^ p2) 0) then
    fJ9_floorDiv_f86c9_27 p1 p2 x2 σ
  else
    if (lg_cmp (x2 * p2) p1) = 0 then
      fJ9_floorDiv_f86c9_27 p1 p2 x2 σ
    else
      some (x2 - 1, σ))
set_option maxHeartbeats 4000000 in
set_option maxRecDepth 100000 in
theorem pJ9_floorDiv_f86c9 {E : gE} {p1 : Int64} {p2 : Int64} {r : Int64} {σ' : gS} {σ : gS} (h : fJ9_floorDiv_f86c9 p1 p2 σ = some (r, σ')) : gG E mJ9_floorDiv_f86c9 0 [(0, .long p1), (2, .long p2)] [] σ (some (.long r)) σ' := by
  unfold fJ9_floorDiv_f86c9 at h
  refine g_lload_n dJ9_floorDiv_f86c9_0 rfl 0 rfl ?_
  refine g_lload_n dJ9_floorDiv_f86c9_1 rfl 1 rfl ?_
  obtain ⟨g1, h⟩ := gg_some h
  refine g_ldiv dJ9_floorDiv_f86c9_2 g1 ?_
  obtain ⟨x2, ex2, h⟩ := bnd_nm h
  refine g_topl ex2 ?_
  refine g_lstore (lv' := [(4, .long x2), (0, .long p1), (2, .long p2)]) dJ9_floorDiv_f86c9_3 (Nat.le_of_ble_eq_true rfl) rfl ?_
  refine g_lload_n dJ9_floorDiv_f86c9_5 rfl 1 rfl ?_
  refine g_lload_n dJ9_floorDiv_f86c9_6 rfl 2 rfl ?_
  refine g_lxor dJ9_floorDiv_f86c9_7 ?_
  refine g_lconst (v := 0) dJ9_floorDiv_f86c9_8 (by decide) ?_
  refine g_lcmp dJ9_floorDiv_f86c9_9 ?_
  refine g_if_ge (t := 27) dJ9_floorDiv_f86c9_10 (by decide) (fun c3 => ?_) (fun c3 => ?_)
  · replace h := if_t h c3
    refine g_sub [0] rfl ?_
    exact pJ9_floorDiv_f86c9_27 h
  · replace h := if_f h c3
    refine g_lload dJ9_floorDiv_f86c9_13 0 rfl ?_
    refine g_lload_n dJ9_floorDiv_f86c9_15 rfl 2 rfl ?_
    refine g_lmul dJ9_floorDiv_f86c9_16 ?_
    refine g_lload_n dJ9_floorDiv_f86c9_17 rfl 1 rfl ?_
    refine g_lcmp dJ9_floorDiv_f86c9_18 ?_
    refine g_if_eq (t := 27) dJ9_floorDiv_f86c9_19 (by decide) (fun c4 => ?_) (fun c4 => ?_)
    · replace h := if_t h c4
      refine g_sub [0] rfl ?_
      exact pJ9_floorDiv_f86c9_27 h
    · replace h := if_f h c4
      refine g_lload dJ9_floorDiv_f86c9_22 0 rfl ?_
      refine g_lconst (v := 1) dJ9_floorDiv_f86c9_24 (by decide) ?_
      refine g_lsub dJ9_floorDiv_f86c9_25 ?_
      obtain ⟨rfl, rfl⟩ := so_inj h
      exact g_lret dJ9_floorDiv_f86c9_26 rfl
theorem zJ9_floorDiv_f86c9 {E : gE} {p1 : Int64} {p2 : Int64} {r : Int64} {σ σ' : gS} (h : fJ9_floorDiv_f86c9 p1 p2 σ = some (r, σ')) : gC E mJ9_floorDiv_f86c9 [.long p1, .long p2] σ (some (.long r)) σ' :=
  gC_ofF (by decide +kernel) rfl (Nat.le_of_ble_eq_true rfl) (pJ9_floorDiv_f86c9 h)
theorem wl_RX9_129 : Cond.constantLong RX9 129 256 ∈ gWS := (gm 935 (by decide +kernel) rfl)
def mX9_squareScaled : gM := (yX9_squareScaled, cX9_squareScaled, RX9, 9, (some .long), 0, 0)
theorem dX9_squareScaled_0 : decode mX9_squareScaled.2.1 0 = .ok (.lload_n 2, 1) := by decide +kernel
theorem dX9_squareScaled_1 : decode mX9_squareScaled.2.1 1 = .ok (.lconst 0, 1) := by decide +kernel
theorem dX9_squareScaled_2 : decode mX9_squareScaled.2.1 2 = .ok (.lcmp, 1) := by decide +kernel
theorem dX9_squareScaled_3 : decode mX9_squareScaled.2.1 3 = .ok (.ifCond .gt 5, 3) := by decide +kernel
theorem dX9_squareScaled_6 : decode mX9_squareScaled.2.1 6 = .ok (.lconst 0, 1) := by decide +kernel
theorem dX9_squareScaled_7 : decode mX9_squareScaled.2.1 7 = .ok (.lreturn, 1) := by decide +kernel
theorem dX9_squareScaled_8 : decode mX9_squareScaled.2.1 8 = .ok (.lload_n 0, 1) := by decide +kernel
theorem dX9_squareScaled_9 : decode mX9_squareScaled.2.1 9 = .ok (.lload_n 2, 1) := by decide +kernel
theorem dX9_squareScaled_10 : decode mX9_squareScaled.2.1 10 = .ok (.ldiv, 1) := by decide +kernel
theorem dX9_squareScaled_11 : decode mX9_squareScaled.2.1 11 = .ok (.lstore 4, 2) := by decide +kernel
theorem dX9_squareScaled_13 : decode mX9_squareScaled.2.1 13 = .ok (.lload_n 0, 1) := by decide +kernel
theorem dX9_squareScaled_14 : decode mX9_squareScaled.2.1 14 = .ok (.lload_n 2, 1) := by decide +kernel
theorem dX9_squareScaled_15 : decode mX9_squareScaled.2.1 15 = .ok (.lrem, 1) := by decide +kernel
theorem dX9_squareScaled_16 : decode mX9_squareScaled.2.1 16 = .ok (.lstore 6, 2) := by decide +kernel
theorem dX9_squareScaled_18 : decode mX9_squareScaled.2.1 18 = .ok (.iconst 0, 1) := by decide +kernel
theorem dX9_squareScaled_19 : decode mX9_squareScaled.2.1 19 = .ok (.istore 8, 2) := by decide +kernel
theorem dX9_squareScaled_21 : decode mX9_squareScaled.2.1 21 = .ok (.iload 8, 2) := by decide +kernel
theorem dX9_squareScaled_23 : decode mX9_squareScaled.2.1 23 = .ok (.iconst 4, 1) := by decide +kernel
theorem dX9_squareScaled_24 : decode mX9_squareScaled.2.1 24 = .ok (.if_icmp .ge 36, 3) := by decide +kernel
theorem dX9_squareScaled_27 : decode mX9_squareScaled.2.1 27 = .ok (.lload 6, 2) := by decide +kernel
theorem dX9_squareScaled_29 : decode mX9_squareScaled.2.1 29 = .ok (.ldc2_w 129, 3) := by decide +kernel
theorem dX9_squareScaled_32 : decode mX9_squareScaled.2.1 32 = .ok (.lmul, 1) := by decide +kernel
theorem dX9_squareScaled_33 : decode mX9_squareScaled.2.1 33 = .ok (.lstore 6, 2) := by decide +kernel
theorem dX9_squareScaled_35 : decode mX9_squareScaled.2.1 35 = .ok (.ldc2_w 129, 3) := by decide +kernel
theorem dX9_squareScaled_38 : decode mX9_squareScaled.2.1 38 = .ok (.lload 4, 2) := by decide +kernel
theorem dX9_squareScaled_40 : decode mX9_squareScaled.2.1 40 = .ok (.lmul, 1) := by decide +kernel
theorem dX9_squareScaled_41 : decode mX9_squareScaled.2.1 41 = .ok (.lload 6, 2) := by decide +kernel
theorem dX9_squareScaled_43 : decode mX9_squareScaled.2.1 43 = .ok (.lload_n 2, 1) := by decide +kernel
theorem dX9_squareScaled_44 : decode mX9_squareScaled.2.1 44 = .ok (.ldiv, 1) := by decide +kernel
theorem dX9_squareScaled_45 : decode mX9_squareScaled.2.1 45 = .ok (.ladd, 1) := by decide +kernel
theorem dX9_squareScaled_46 : decode mX9_squareScaled.2.1 46 = .ok (.lstore 4, 2) := by decide +kernel
theorem dX9_squareScaled_48 : decode mX9_squareScaled.2.1 48 = .ok (.lload 6, 2) := by decide +kernel
theorem dX9_squareScaled_50 : decode mX9_squareScaled.2.1 50 = .ok (.lload_n 2, 1) := by decide +kernel
theorem dX9_squareScaled_51 : decode mX9_squareScaled.2.1 51 = .ok (.lrem, 1) := by decide +kernel
theorem dX9_squareScaled_52 : decode mX9_squareScaled.2.1 52 = .ok (.lstore 6, 2) := by decide +kernel
theorem dX9_squareScaled_54 : decode mX9_squareScaled.2.1 54 = .ok (.iinc 8 1, 3) := by decide +kernel
theorem dX9_squareScaled_57 : decode mX9_squareScaled.2.1 57 = .ok (.goto (-36), 3) := by decide +kernel
theorem dX9_squareScaled_60 : decode mX9_squareScaled.2.1 60 = .ok (.lload 4, 2) := by decide +kernel
theorem dX9_squareScaled_62 : decode mX9_squareScaled.2.1 62 = .ok (.lreturn, 1) := by decide +kernel
def fX9_squareScaled_21 (p1 : Int64) (p2 : Int64) : Nat → Int64 → Int64 → Int32 → gS → Option (Int64 × gS)
  | 0, _, _, _, _ => none
  | n + 1, v4, v6, v8, σ => if 4 ≤ v8 then
    some (v4, σ)
  else
    bnd (v6 * 256) fun x2 =>
    gg (¬ p2 = 0) (
    bnd ((256 * v4) + (x2 / p2)) fun x4 =>
    gg (¬ p2 = 0) (
    bnd (x2 - x2 / p2 * p2) fun x6 =>
    bnd (v8 + 1) fun x7 =>
    fX9_squareScaled_21 p1 p2 n x4 x6 x7 σ))
set_option maxHeartbeats 4000000 in
set_option maxRecDepth 100000 in
theorem pX9_squareScaled_21 {E : gE} {p1 : Int64} {p2 : Int64} {r : Int64} {σ' : gS} : ∀ (n : Nat) (v4 : Int64) (v6 : Int64) (v8 : Int32) (σ : gS), fX9_squareScaled_21 p1 p2 n v4 v6 v8 σ = some (r, σ') → gG E mX9_squareScaled 21 [(2, .long p2), (4, .long v4), (6, .long v6), (8, .int v8)] [] σ (some (.long r)) σ' := by
  intro n
  induction n with
  | zero => intro v4 v6 v8 σ h; exact absurd (show none = some (r, σ') from h) (by intro q; cases q)
  | succ n ih =>
  intro v4 v6 v8 σ h
  unfold fX9_squareScaled_21 at h
  refine g_iload dX9_squareScaled_21 3 rfl ?_
  refine g_iconst (v := 4) dX9_squareScaled_23 (by decide) ?_
  refine g_icmp_ge (t := 60) dX9_squareScaled_24 (by decide) (fun c1 => ?_) (fun c1 => ?_)
  · replace h := if_t h c1
    refine g_lload dX9_squareScaled_60 1 rfl ?_
    obtain ⟨rfl, rfl⟩ := so_inj h
    exact g_lret dX9_squareScaled_62 rfl
  · replace h := if_f h c1
    refine g_lload dX9_squareScaled_27 2 rfl ?_
    refine g_ldc2 (v := 256) dX9_squareScaled_29 wl_RX9_129 ?_
    refine g_lmul dX9_squareScaled_32 ?_
    obtain ⟨x2, ex2, h⟩ := bnd_nm h
    refine g_topl ex2 ?_
    refine g_lstore (lv' := [(6, .long x2), (2, .long p2), (4, .long v4), (8, .int v8)]) dX9_squareScaled_33 (Nat.le_of_ble_eq_true rfl) rfl ?_
    refine g_ldc2 (v := 256) dX9_squareScaled_35 wl_RX9_129 ?_
    refine g_lload dX9_squareScaled_38 2 rfl ?_
    refine g_lmul dX9_squareScaled_40 ?_
    refine g_lload dX9_squareScaled_41 0 rfl ?_
    refine g_lload_n dX9_squareScaled_43 rfl 1 rfl ?_
    obtain ⟨g3, h⟩ := gg_some h
    refine g_ldiv dX9_squareScaled_44 g3 ?_
    refine g_ladd dX9_squareScaled_45 ?_
    obtain ⟨x4, ex4, h⟩ := bnd_nm h
    refine g_topl ex4 ?_
    refine g_lstore (lv' := [(4, .long x4), (6, .long x2), (2, .long p2), (8, .int v8)]) dX9_squareScaled_46 (Nat.le_of_ble_eq_true rfl) rfl ?_
    refine g_lload dX9_squareScaled_48 1 rfl ?_
    refine g_lload_n dX9_squareScaled_50 rfl 2 rfl ?_
    obtain ⟨g5, h⟩ := gg_some h
    refine g_lrem dX9_squareScaled_51 g5 ?_
    obtain ⟨x6, ex6, h⟩ := bnd_nm h
    refine g_topl ex6 ?_
    refine g_lstore (lv' := [(6, .long x6), (4, .long x4), (2, .long p2), (8, .int v8)]) dX9_squareScaled_52 (Nat.le_of_ble_eq_true rfl) rfl ?_
    obtain ⟨x7, ex7, h⟩ := bnd_nm h
    refine g_iinc (j := 3) (v := x7) (lv' := [(8, .int x7), (6, .long x6), (4, .long x4), (2, .long p2)]) dX9_squareScaled_54 rfl (by rw [ex7]; rfl) (Nat.le_of_ble_eq_true rfl) rfl ?_
    refine g_goto (t := 21) dX9_squareScaled_57 (by decide) ?_
    refine g_sub [3, 2, 1, 0] rfl ?_
    exact ih x4 x6 x7 σ h
def fX9_squareScaled (p1 : Int64) (p2 : Int64) (σ : gS) : Option (Int64 × gS) :=
  if 0 < (lg_cmp p2 0) then
    gg (¬ p2 = 0) (
    bnd (p1 / p2) fun x3 =>
    gg (¬ p2 = 0) (
    bnd (p1 - p1 / p2 * p2) fun x5 =>
    fX9_squareScaled_21 p1 p2 2000 x3 x5 0 σ))
  else
    some (0, σ)
set_option maxHeartbeats 4000000 in
set_option maxRecDepth 100000 in
theorem pX9_squareScaled {E : gE} {p1 : Int64} {p2 : Int64} {r : Int64} {σ' : gS} {σ : gS} (h : fX9_squareScaled p1 p2 σ = some (r, σ')) : gG E mX9_squareScaled 0 [(0, .long p1), (2, .long p2)] [] σ (some (.long r)) σ' := by
  unfold fX9_squareScaled at h
  refine g_lload_n dX9_squareScaled_0 rfl 1 rfl ?_
  refine g_lconst (v := 0) dX9_squareScaled_1 (by decide) ?_
  refine g_lcmp dX9_squareScaled_2 ?_
  refine g_if_gt (t := 8) dX9_squareScaled_3 (by decide) (fun c1 => ?_) (fun c1 => ?_)
  · replace h := if_t h c1
    refine g_lload_n dX9_squareScaled_8 rfl 0 rfl ?_
    refine g_lload_n dX9_squareScaled_9 rfl 1 rfl ?_
    obtain ⟨g2, h⟩ := gg_some h
    refine g_ldiv dX9_squareScaled_10 g2 ?_
    obtain ⟨x3, ex3, h⟩ := bnd_nm h
    refine g_topl ex3 ?_
    refine g_lstore (lv' := [(4, .long x3), (0, .long p1), (2, .long p2)]) dX9_squareScaled_11 (Nat.le_of_ble_eq_true rfl) rfl ?_
    refine g_lload_n dX9_squareScaled_13 rfl 1 rfl ?_
    refine g_lload_n dX9_squareScaled_14 rfl 2 rfl ?_
    obtain ⟨g4, h⟩ := gg_some h
    refine g_lrem dX9_squareScaled_15 g4 ?_
    obtain ⟨x5, ex5, h⟩ := bnd_nm h
    refine g_topl ex5 ?_
    refine g_lstore (lv' := [(6, .long x5), (4, .long x3), (0, .long p1), (2, .long p2)]) dX9_squareScaled_16 (Nat.le_of_ble_eq_true rfl) rfl ?_
    refine g_iconst (v := 0) dX9_squareScaled_18 (by decide) ?_
    refine g_istore (lv' := [(8, .int 0), (6, .long x5), (4, .long x3), (0, .long p1), (2, .long p2)]) dX9_squareScaled_19 (Nat.le_of_ble_eq_true rfl) rfl ?_
    refine g_sub [4, 2, 1, 0] rfl ?_
    exact pX9_squareScaled_21 2000 x3 x5 0 σ h
  · replace h := if_f h c1
    refine g_lconst (v := 0) dX9_squareScaled_6 (by decide) ?_
    obtain ⟨rfl, rfl⟩ := so_inj h
    exact g_lret dX9_squareScaled_7 rfl
theorem zX9_squareScaled {E : gE} {p1 : Int64} {p2 : Int64} {r : Int64} {σ σ' : gS} (h : fX9_squareScaled p1 p2 σ = some (r, σ')) : gC E mX9_squareScaled [.long p1, .long p2] σ (some (.long r)) σ' :=
  gC_of (by decide +kernel) rfl (Nat.le_of_ble_eq_true rfl) (pX9_squareScaled h)
theorem wl_RX10_359 : Cond.constantLong RX10 359 2 ∈ gWS := (gm 939 (by decide +kernel) rfl)
def mX10_rootDown : gM := (yX10_rootDown, cX10_rootDown, RX10, 7, (some .long), 0, 0)
theorem dX10_rootDown_0 : decode mX10_rootDown.2.1 0 = .ok (.lload_n 0, 1) := by decide +kernel
theorem dX10_rootDown_1 : decode mX10_rootDown.2.1 1 = .ok (.lconst 0, 1) := by decide +kernel
theorem dX10_rootDown_2 : decode mX10_rootDown.2.1 2 = .ok (.lcmp, 1) := by decide +kernel
theorem dX10_rootDown_3 : decode mX10_rootDown.2.1 3 = .ok (.ifCond .gt 5, 3) := by decide +kernel
theorem dX10_rootDown_6 : decode mX10_rootDown.2.1 6 = .ok (.lconst 0, 1) := by decide +kernel
theorem dX10_rootDown_7 : decode mX10_rootDown.2.1 7 = .ok (.lreturn, 1) := by decide +kernel
theorem dX10_rootDown_8 : decode mX10_rootDown.2.1 8 = .ok (.lconst 1, 1) := by decide +kernel
theorem dX10_rootDown_9 : decode mX10_rootDown.2.1 9 = .ok (.lstore_n 2, 1) := by decide +kernel
theorem dX10_rootDown_10 : decode mX10_rootDown.2.1 10 = .ok (.iconst 0, 1) := by decide +kernel
theorem dX10_rootDown_11 : decode mX10_rootDown.2.1 11 = .ok (.istore 4, 2) := by decide +kernel
theorem dX10_rootDown_13 : decode mX10_rootDown.2.1 13 = .ok (.iload 4, 2) := by decide +kernel
theorem dX10_rootDown_15 : decode mX10_rootDown.2.1 15 = .ok (.bipush 30, 2) := by decide +kernel
theorem dX10_rootDown_17 : decode mX10_rootDown.2.1 17 = .ok (.if_icmp .ge 23, 3) := by decide +kernel
theorem dX10_rootDown_20 : decode mX10_rootDown.2.1 20 = .ok (.lload_n 2, 1) := by decide +kernel
theorem dX10_rootDown_21 : decode mX10_rootDown.2.1 21 = .ok (.lload_n 2, 1) := by decide +kernel
theorem dX10_rootDown_22 : decode mX10_rootDown.2.1 22 = .ok (.lmul, 1) := by decide +kernel
theorem dX10_rootDown_23 : decode mX10_rootDown.2.1 23 = .ok (.lload_n 0, 1) := by decide +kernel
theorem dX10_rootDown_24 : decode mX10_rootDown.2.1 24 = .ok (.lcmp, 1) := by decide +kernel
theorem dX10_rootDown_25 : decode mX10_rootDown.2.1 25 = .ok (.ifCond .ge 15, 3) := by decide +kernel
theorem dX10_rootDown_28 : decode mX10_rootDown.2.1 28 = .ok (.lload_n 2, 1) := by decide +kernel
theorem dX10_rootDown_29 : decode mX10_rootDown.2.1 29 = .ok (.ldc2_w 359, 3) := by decide +kernel
theorem dX10_rootDown_32 : decode mX10_rootDown.2.1 32 = .ok (.lmul, 1) := by decide +kernel
theorem dX10_rootDown_33 : decode mX10_rootDown.2.1 33 = .ok (.lstore_n 2, 1) := by decide +kernel
theorem dX10_rootDown_34 : decode mX10_rootDown.2.1 34 = .ok (.iinc 4 1, 3) := by decide +kernel
theorem dX10_rootDown_37 : decode mX10_rootDown.2.1 37 = .ok (.goto (-24), 3) := by decide +kernel
theorem dX10_rootDown_40 : decode mX10_rootDown.2.1 40 = .ok (.iconst 0, 1) := by decide +kernel
theorem dX10_rootDown_41 : decode mX10_rootDown.2.1 41 = .ok (.istore 4, 2) := by decide +kernel
theorem dX10_rootDown_43 : decode mX10_rootDown.2.1 43 = .ok (.iload 4, 2) := by decide +kernel
theorem dX10_rootDown_45 : decode mX10_rootDown.2.1 45 = .ok (.bipush 64, 2) := by decide +kernel
theorem dX10_rootDown_47 : decode mX10_rootDown.2.1 47 = .ok (.if_icmp .ge 33, 3) := by decide +kernel
theorem dX10_rootDown_50 : decode mX10_rootDown.2.1 50 = .ok (.lload_n 2, 1) := by decide +kernel
theorem dX10_rootDown_51 : decode mX10_rootDown.2.1 51 = .ok (.lload_n 0, 1) := by decide +kernel
theorem dX10_rootDown_52 : decode mX10_rootDown.2.1 52 = .ok (.lload_n 2, 1) := by decide +kernel
theorem dX10_rootDown_53 : decode mX10_rootDown.2.1 53 = .ok (.ldiv, 1) := by decide +kernel
theorem dX10_rootDown_54 : decode mX10_rootDown.2.1 54 = .ok (.ladd, 1) := by decide +kernel
theorem dX10_rootDown_55 : decode mX10_rootDown.2.1 55 = .ok (.ldc2_w 359, 3) := by decide +kernel
theorem dX10_rootDown_58 : decode mX10_rootDown.2.1 58 = .ok (.ldiv, 1) := by decide +kernel
theorem dX10_rootDown_59 : decode mX10_rootDown.2.1 59 = .ok (.lstore 5, 2) := by decide +kernel
theorem dX10_rootDown_61 : decode mX10_rootDown.2.1 61 = .ok (.lload 5, 2) := by decide +kernel
theorem dX10_rootDown_63 : decode mX10_rootDown.2.1 63 = .ok (.lload_n 2, 1) := by decide +kernel
theorem dX10_rootDown_64 : decode mX10_rootDown.2.1 64 = .ok (.lcmp, 1) := by decide +kernel
theorem dX10_rootDown_65 : decode mX10_rootDown.2.1 65 = .ok (.ifCond .lt 6, 3) := by decide +kernel
theorem dX10_rootDown_68 : decode mX10_rootDown.2.1 68 = .ok (.goto 12, 3) := by decide +kernel
theorem dX10_rootDown_71 : decode mX10_rootDown.2.1 71 = .ok (.lload 5, 2) := by decide +kernel
theorem dX10_rootDown_73 : decode mX10_rootDown.2.1 73 = .ok (.lstore_n 2, 1) := by decide +kernel
theorem dX10_rootDown_74 : decode mX10_rootDown.2.1 74 = .ok (.iinc 4 1, 3) := by decide +kernel
theorem dX10_rootDown_77 : decode mX10_rootDown.2.1 77 = .ok (.goto (-34), 3) := by decide +kernel
theorem dX10_rootDown_80 : decode mX10_rootDown.2.1 80 = .ok (.lload_n 2, 1) := by decide +kernel
theorem dX10_rootDown_81 : decode mX10_rootDown.2.1 81 = .ok (.lreturn, 1) := by decide +kernel
def fX10_rootDown_80 (p1 : Int64) (v2 : Int64) (σ : gS) : Option (Int64 × gS) :=
  some (v2, σ)
set_option maxHeartbeats 4000000 in
set_option maxRecDepth 100000 in
theorem pX10_rootDown_80 {E : gE} {p1 : Int64} {r : Int64} {σ' : gS} {v2 : Int64} {σ : gS} (h : fX10_rootDown_80 p1 v2 σ = some (r, σ')) : gG E mX10_rootDown 80 [(2, .long v2)] [] σ (some (.long r)) σ' := by
  unfold fX10_rootDown_80 at h
  refine g_lload_n dX10_rootDown_80 rfl 0 rfl ?_
  obtain ⟨rfl, rfl⟩ := so_inj h
  exact g_lret dX10_rootDown_81 rfl
def fX10_rootDown_43 (p1 : Int64) : Nat → Int64 → Int32 → gS → Option (Int64 × gS)
  | 0, _, _, _ => none
  | n + 1, v2, v4, σ => if 64 ≤ v4 then
    fX10_rootDown_80 p1 v2 σ
  else
    gg (¬ v2 = 0) (
    bnd ((v2 + (p1 / v2)) / 2) fun x3 =>
    if (lg_cmp x3 v2) < 0 then
      bnd (v4 + 1) fun x5 =>
      fX10_rootDown_43 p1 n x3 x5 σ
    else
      fX10_rootDown_80 p1 v2 σ)
set_option maxHeartbeats 4000000 in
set_option maxRecDepth 100000 in
theorem pX10_rootDown_43 {E : gE} {p1 : Int64} {r : Int64} {σ' : gS} : ∀ (n : Nat) (v2 : Int64) (v4 : Int32) (σ : gS), fX10_rootDown_43 p1 n v2 v4 σ = some (r, σ') → gG E mX10_rootDown 43 [(0, .long p1), (2, .long v2), (4, .int v4)] [] σ (some (.long r)) σ' := by
  intro n
  induction n with
  | zero => intro v2 v4 σ h; exact absurd (show none = some (r, σ') from h) (by intro q; cases q)
  | succ n ih =>
  intro v2 v4 σ h
  unfold fX10_rootDown_43 at h
  refine g_iload dX10_rootDown_43 2 rfl ?_
  refine g_bipush (v := 64) dX10_rootDown_45 (by decide) ?_
  refine g_icmp_ge (t := 80) dX10_rootDown_47 (by decide) (fun c1 => ?_) (fun c1 => ?_)
  · replace h := if_t h c1
    refine g_sub [1] rfl ?_
    exact pX10_rootDown_80 h
  · replace h := if_f h c1
    refine g_lload_n dX10_rootDown_50 rfl 1 rfl ?_
    refine g_lload_n dX10_rootDown_51 rfl 0 rfl ?_
    refine g_lload_n dX10_rootDown_52 rfl 1 rfl ?_
    obtain ⟨g2, h⟩ := gg_some h
    refine g_ldiv dX10_rootDown_53 g2 ?_
    refine g_ladd dX10_rootDown_54 ?_
    refine g_ldc2 (v := 2) dX10_rootDown_55 wl_RX10_359 ?_
    refine g_ldiv dX10_rootDown_58 (by decide) ?_
    obtain ⟨x3, ex3, h⟩ := bnd_nm h
    refine g_topl ex3 ?_
    refine g_lstore (lv' := [(5, .long x3), (0, .long p1), (2, .long v2), (4, .int v4)]) dX10_rootDown_59 (Nat.le_of_ble_eq_true rfl) rfl ?_
    refine g_lload dX10_rootDown_61 0 rfl ?_
    refine g_lload_n dX10_rootDown_63 rfl 2 rfl ?_
    refine g_lcmp dX10_rootDown_64 ?_
    refine g_if_lt (t := 71) dX10_rootDown_65 (by decide) (fun c4 => ?_) (fun c4 => ?_)
    · replace h := if_t h c4
      refine g_lload dX10_rootDown_71 0 rfl ?_
      refine g_lstore_n (lv' := [(2, .long x3), (5, .long x3), (0, .long p1), (4, .int v4)]) dX10_rootDown_73 rfl (Nat.le_of_ble_eq_true rfl) rfl ?_
      obtain ⟨x5, ex5, h⟩ := bnd_nm h
      refine g_iinc (j := 3) (v := x5) (lv' := [(4, .int x5), (2, .long x3), (5, .long x3), (0, .long p1)]) dX10_rootDown_74 rfl (by rw [ex5]; rfl) (Nat.le_of_ble_eq_true rfl) rfl ?_
      refine g_goto (t := 43) dX10_rootDown_77 (by decide) ?_
      refine g_sub [3, 1, 0] rfl ?_
      exact ih x3 x5 σ h
    · replace h := if_f h c4
      refine g_goto (t := 80) dX10_rootDown_68 (by decide) ?_
      refine g_sub [2] rfl ?_
      exact pX10_rootDown_80 h
def fX10_rootDown_40 (p1 : Int64) (v2 : Int64) (σ : gS) : Option (Int64 × gS) :=
  fX10_rootDown_43 p1 2000 v2 0 σ
set_option maxHeartbeats 4000000 in
set_option maxRecDepth 100000 in
theorem pX10_rootDown_40 {E : gE} {p1 : Int64} {r : Int64} {σ' : gS} {v2 : Int64} {σ : gS} (h : fX10_rootDown_40 p1 v2 σ = some (r, σ')) : gG E mX10_rootDown 40 [(0, .long p1), (2, .long v2)] [] σ (some (.long r)) σ' := by
  unfold fX10_rootDown_40 at h
  refine g_iconst (v := 0) dX10_rootDown_40 (by decide) ?_
  refine g_istore (lv' := [(4, .int 0), (0, .long p1), (2, .long v2)]) dX10_rootDown_41 (Nat.le_of_ble_eq_true rfl) rfl ?_
  refine g_sub [1, 2, 0] rfl ?_
  exact pX10_rootDown_43 2000 v2 0 σ h
def fX10_rootDown_13 (p1 : Int64) : Nat → Int64 → Int32 → gS → Option (Int64 × gS)
  | 0, _, _, _ => none
  | n + 1, v2, v4, σ => if 30 ≤ v4 then
    fX10_rootDown_40 p1 v2 σ
  else
    if 0 ≤ (lg_cmp (v2 * v2) p1) then
      fX10_rootDown_40 p1 v2 σ
    else
      bnd (v2 * 2) fun x3 =>
      bnd (v4 + 1) fun x4 =>
      fX10_rootDown_13 p1 n x3 x4 σ
set_option maxHeartbeats 4000000 in
set_option maxRecDepth 100000 in
theorem pX10_rootDown_13 {E : gE} {p1 : Int64} {r : Int64} {σ' : gS} : ∀ (n : Nat) (v2 : Int64) (v4 : Int32) (σ : gS), fX10_rootDown_13 p1 n v2 v4 σ = some (r, σ') → gG E mX10_rootDown 13 [(0, .long p1), (2, .long v2), (4, .int v4)] [] σ (some (.long r)) σ' := by
  intro n
  induction n with
  | zero => intro v2 v4 σ h; exact absurd (show none = some (r, σ') from h) (by intro q; cases q)
  | succ n ih =>
  intro v2 v4 σ h
  unfold fX10_rootDown_13 at h
  refine g_iload dX10_rootDown_13 2 rfl ?_
  refine g_bipush (v := 30) dX10_rootDown_15 (by decide) ?_
  refine g_icmp_ge (t := 40) dX10_rootDown_17 (by decide) (fun c1 => ?_) (fun c1 => ?_)
  · replace h := if_t h c1
    refine g_sub [0, 1] rfl ?_
    exact pX10_rootDown_40 h
  · replace h := if_f h c1
    refine g_lload_n dX10_rootDown_20 rfl 1 rfl ?_
    refine g_lload_n dX10_rootDown_21 rfl 1 rfl ?_
    refine g_lmul dX10_rootDown_22 ?_
    refine g_lload_n dX10_rootDown_23 rfl 0 rfl ?_
    refine g_lcmp dX10_rootDown_24 ?_
    refine g_if_ge (t := 40) dX10_rootDown_25 (by decide) (fun c2 => ?_) (fun c2 => ?_)
    · replace h := if_t h c2
      refine g_sub [0, 1] rfl ?_
      exact pX10_rootDown_40 h
    · replace h := if_f h c2
      refine g_lload_n dX10_rootDown_28 rfl 1 rfl ?_
      refine g_ldc2 (v := 2) dX10_rootDown_29 wl_RX10_359 ?_
      refine g_lmul dX10_rootDown_32 ?_
      obtain ⟨x3, ex3, h⟩ := bnd_nm h
      refine g_topl ex3 ?_
      refine g_lstore_n (lv' := [(2, .long x3), (0, .long p1), (4, .int v4)]) dX10_rootDown_33 rfl (Nat.le_of_ble_eq_true rfl) rfl ?_
      obtain ⟨x4, ex4, h⟩ := bnd_nm h
      refine g_iinc (j := 2) (v := x4) (lv' := [(4, .int x4), (2, .long x3), (0, .long p1)]) dX10_rootDown_34 rfl (by rw [ex4]; rfl) (Nat.le_of_ble_eq_true rfl) rfl ?_
      refine g_goto (t := 13) dX10_rootDown_37 (by decide) ?_
      refine g_sub [2, 1, 0] rfl ?_
      exact ih x3 x4 σ h
def fX10_rootDown (p1 : Int64) (σ : gS) : Option (Int64 × gS) :=
  if 0 < (lg_cmp p1 0) then
    fX10_rootDown_13 p1 2000 1 0 σ
  else
    some (0, σ)
set_option maxHeartbeats 4000000 in
set_option maxRecDepth 100000 in
theorem pX10_rootDown {E : gE} {p1 : Int64} {r : Int64} {σ' : gS} {σ : gS} (h : fX10_rootDown p1 σ = some (r, σ')) : gG E mX10_rootDown 0 [(0, .long p1)] [] σ (some (.long r)) σ' := by
  unfold fX10_rootDown at h
  refine g_lload_n dX10_rootDown_0 rfl 0 rfl ?_
  refine g_lconst (v := 0) dX10_rootDown_1 (by decide) ?_
  refine g_lcmp dX10_rootDown_2 ?_
  refine g_if_gt (t := 8) dX10_rootDown_3 (by decide) (fun c1 => ?_) (fun c1 => ?_)
  · replace h := if_t h c1
    refine g_lconst (v := 1) dX10_rootDown_8 (by decide) ?_
    refine g_lstore_n (lv' := [(2, .long 1), (0, .long p1)]) dX10_rootDown_9 rfl (Nat.le_of_ble_eq_true rfl) rfl ?_
    refine g_iconst (v := 0) dX10_rootDown_10 (by decide) ?_
    refine g_istore (lv' := [(4, .int 0), (2, .long 1), (0, .long p1)]) dX10_rootDown_11 (Nat.le_of_ble_eq_true rfl) rfl ?_
    refine g_sub [2, 1, 0] rfl ?_
    exact pX10_rootDown_13 2000 1 0 σ h
  · replace h := if_f h c1
    refine g_lconst (v := 0) dX10_rootDown_6 (by decide) ?_
    obtain ⟨rfl, rfl⟩ := so_inj h
    exact g_lret dX10_rootDown_7 rfl
theorem zX10_rootDown {E : gE} {p1 : Int64} {r : Int64} {σ σ' : gS} (h : fX10_rootDown p1 σ = some (r, σ')) : gC E mX10_rootDown [.long p1] σ (some (.long r)) σ' :=
  gC_of (by decide +kernel) rfl (Nat.le_of_ble_eq_true rfl) (pX10_rootDown h)
theorem fl_RX9_80 : gFl RX9 80 5 2 := ⟨RX5, TX5, 3, rfl, by decide, ux_5, Or.inr ⟨"LinkageCurves", by decide +kernel⟩⟩
theorem fl_RX9_19 : gFl RX9 19 9 3 := ⟨RX9, TX9, 8, rfl, by decide, ux_9, Or.inl (gm 368 (by decide +kernel) rfl)⟩
theorem fl_RX9_22 : gFl RX9 22 9 4 := ⟨RX9, TX9, 8, rfl, by decide, ux_9, Or.inl (gm 370 (by decide +kernel) rfl)⟩
theorem wl_RX9_61 : Cond.constantLong RX9 61 1048576 ∈ gWS := (gm 842 (by decide +kernel) rfl)
theorem fl_RX9_28 : gFl RX9 28 9 6 := ⟨RX9, TX9, 8, rfl, by decide, ux_9, Or.inl (gm 374 (by decide +kernel) rfl)⟩
theorem fl_RX9_32 : gFl RX9 32 9 7 := ⟨RX9, TX9, 8, rfl, by decide, ux_9, Or.inl (gm 375 (by decide +kernel) rfl)⟩
theorem wl_RX9_111 : Cond.constantLong RX9 111 32768 ∈ gWS := (gm 926 (by decide +kernel) rfl)
theorem wl_RX9_116 : Cond.constantLong RX9 116 (-268435456) ∈ gWS := (gm 930 (by decide +kernel) rfl)
theorem wl_RX9_118 : Cond.constantLong RX9 118 268435456 ∈ gWS := (gm 931 (by decide +kernel) rfl)
theorem fl_RX9_25 : gFl RX9 25 9 5 := ⟨RX9, TX9, 8, rfl, by decide, ux_9, Or.inl (gm 372 (by decide +kernel) rfl)⟩
theorem wl_RX9_127 : Cond.constantLong RX9 127 65536 ∈ gWS := (gm 940 (by decide +kernel) rfl)
def mX9_hang : gM := (yX9_hang, cX9_hang, RX9, 21, none, 1, 28)
theorem dX9_hang_0 : decode mX9_hang.2.1 0 = .ok (.aload_n 0, 1) := by decide +kernel
theorem dX9_hang_1 : decode mX9_hang.2.1 1 = .ok (.getfield 19, 3) := by decide +kernel
theorem dX9_hang_4 : decode mX9_hang.2.1 4 = .ok (.iload_n 1, 1) := by decide +kernel
theorem dX9_hang_5 : decode mX9_hang.2.1 5 = .ok (.iaload, 1) := by decide +kernel
theorem dX9_hang_6 : decode mX9_hang.2.1 6 = .ok (.istore_n 3, 1) := by decide +kernel
theorem dX9_hang_7 : decode mX9_hang.2.1 7 = .ok (.aload_n 0, 1) := by decide +kernel
theorem dX9_hang_8 : decode mX9_hang.2.1 8 = .ok (.getfield 22, 3) := by decide +kernel
theorem dX9_hang_11 : decode mX9_hang.2.1 11 = .ok (.iload_n 1, 1) := by decide +kernel
theorem dX9_hang_12 : decode mX9_hang.2.1 12 = .ok (.iaload, 1) := by decide +kernel
theorem dX9_hang_13 : decode mX9_hang.2.1 13 = .ok (.istore 4, 2) := by decide +kernel
theorem dX9_hang_15 : decode mX9_hang.2.1 15 = .ok (.aload_n 2, 1) := by decide +kernel
theorem dX9_hang_16 : decode mX9_hang.2.1 16 = .ok (.getfield 80, 3) := by decide +kernel
theorem dX9_hang_19 : decode mX9_hang.2.1 19 = .ok (.iload_n 3, 1) := by decide +kernel
theorem dX9_hang_20 : decode mX9_hang.2.1 20 = .ok (.iaload, 1) := by decide +kernel
theorem dX9_hang_21 : decode mX9_hang.2.1 21 = .ok (.ifCond .ne 13, 3) := by decide +kernel
theorem dX9_hang_24 : decode mX9_hang.2.1 24 = .ok (.aload_n 2, 1) := by decide +kernel
theorem dX9_hang_25 : decode mX9_hang.2.1 25 = .ok (.getfield 80, 3) := by decide +kernel
theorem dX9_hang_28 : decode mX9_hang.2.1 28 = .ok (.iload 4, 2) := by decide +kernel
theorem dX9_hang_30 : decode mX9_hang.2.1 30 = .ok (.iaload, 1) := by decide +kernel
theorem dX9_hang_31 : decode mX9_hang.2.1 31 = .ok (.ifCond .eq 11, 3) := by decide +kernel
theorem dX9_hang_34 : decode mX9_hang.2.1 34 = .ok (.aload_n 2, 1) := by decide +kernel
theorem dX9_hang_35 : decode mX9_hang.2.1 35 = .ok (.getfield 80, 3) := by decide +kernel
theorem dX9_hang_38 : decode mX9_hang.2.1 38 = .ok (.iload_n 1, 1) := by decide +kernel
theorem dX9_hang_39 : decode mX9_hang.2.1 39 = .ok (.iconst 3, 1) := by decide +kernel
theorem dX9_hang_40 : decode mX9_hang.2.1 40 = .ok (.iastore, 1) := by decide +kernel
theorem dX9_hang_41 : decode mX9_hang.2.1 41 = .ok (.return_, 1) := by decide +kernel
theorem dX9_hang_42 : decode mX9_hang.2.1 42 = .ok (.aload_n 2, 1) := by decide +kernel
theorem dX9_hang_43 : decode mX9_hang.2.1 43 = .ok (.getfield 80, 3) := by decide +kernel
theorem dX9_hang_46 : decode mX9_hang.2.1 46 = .ok (.iload_n 1, 1) := by decide +kernel
theorem dX9_hang_47 : decode mX9_hang.2.1 47 = .ok (.iconst 2, 1) := by decide +kernel
theorem dX9_hang_48 : decode mX9_hang.2.1 48 = .ok (.iastore, 1) := by decide +kernel
theorem dX9_hang_49 : decode mX9_hang.2.1 49 = .ok (.aload_n 2, 1) := by decide +kernel
theorem dX9_hang_50 : decode mX9_hang.2.1 50 = .ok (.getfield 102, 3) := by decide +kernel
theorem dX9_hang_53 : decode mX9_hang.2.1 53 = .ok (.iload 4, 2) := by decide +kernel
theorem dX9_hang_55 : decode mX9_hang.2.1 55 = .ok (.laload, 1) := by decide +kernel
theorem dX9_hang_56 : decode mX9_hang.2.1 56 = .ok (.aload_n 2, 1) := by decide +kernel
theorem dX9_hang_57 : decode mX9_hang.2.1 57 = .ok (.getfield 102, 3) := by decide +kernel
theorem dX9_hang_60 : decode mX9_hang.2.1 60 = .ok (.iload_n 3, 1) := by decide +kernel
theorem dX9_hang_61 : decode mX9_hang.2.1 61 = .ok (.laload, 1) := by decide +kernel
theorem dX9_hang_62 : decode mX9_hang.2.1 62 = .ok (.lsub, 1) := by decide +kernel
theorem dX9_hang_63 : decode mX9_hang.2.1 63 = .ok (.lstore 5, 2) := by decide +kernel
theorem dX9_hang_65 : decode mX9_hang.2.1 65 = .ok (.aload_n 2, 1) := by decide +kernel
theorem dX9_hang_66 : decode mX9_hang.2.1 66 = .ok (.getfield 109, 3) := by decide +kernel
theorem dX9_hang_69 : decode mX9_hang.2.1 69 = .ok (.iload 4, 2) := by decide +kernel
theorem dX9_hang_71 : decode mX9_hang.2.1 71 = .ok (.laload, 1) := by decide +kernel
theorem dX9_hang_72 : decode mX9_hang.2.1 72 = .ok (.aload_n 2, 1) := by decide +kernel
theorem dX9_hang_73 : decode mX9_hang.2.1 73 = .ok (.getfield 109, 3) := by decide +kernel
theorem dX9_hang_76 : decode mX9_hang.2.1 76 = .ok (.iload_n 3, 1) := by decide +kernel
theorem dX9_hang_77 : decode mX9_hang.2.1 77 = .ok (.laload, 1) := by decide +kernel
theorem dX9_hang_78 : decode mX9_hang.2.1 78 = .ok (.lsub, 1) := by decide +kernel
theorem dX9_hang_79 : decode mX9_hang.2.1 79 = .ok (.lstore 7, 2) := by decide +kernel
theorem dX9_hang_81 : decode mX9_hang.2.1 81 = .ok (.lload 5, 2) := by decide +kernel
theorem dX9_hang_83 : decode mX9_hang.2.1 83 = .ok (.lload 5, 2) := by decide +kernel
theorem dX9_hang_85 : decode mX9_hang.2.1 85 = .ok (.lmul, 1) := by decide +kernel
theorem dX9_hang_86 : decode mX9_hang.2.1 86 = .ok (.lload 7, 2) := by decide +kernel
theorem dX9_hang_88 : decode mX9_hang.2.1 88 = .ok (.lload 7, 2) := by decide +kernel
theorem dX9_hang_90 : decode mX9_hang.2.1 90 = .ok (.lmul, 1) := by decide +kernel
theorem dX9_hang_91 : decode mX9_hang.2.1 91 = .ok (.ladd, 1) := by decide +kernel
theorem dX9_hang_92 : decode mX9_hang.2.1 92 = .ok (.lstore 9, 2) := by decide +kernel
theorem dX9_hang_94 : decode mX9_hang.2.1 94 = .ok (.lload 9, 2) := by decide +kernel
theorem dX9_hang_96 : decode mX9_hang.2.1 96 = .ok (.ldc2_w 61, 3) := by decide +kernel
theorem dX9_hang_99 : decode mX9_hang.2.1 99 = .ok (.lcmp, 1) := by decide +kernel
theorem dX9_hang_100 : decode mX9_hang.2.1 100 = .ok (.ifCond .ge 4, 3) := by decide +kernel
theorem dX9_hang_103 : decode mX9_hang.2.1 103 = .ok (.return_, 1) := by decide +kernel
theorem dX9_hang_104 : decode mX9_hang.2.1 104 = .ok (.aload_n 0, 1) := by decide +kernel
theorem dX9_hang_105 : decode mX9_hang.2.1 105 = .ok (.getfield 28, 3) := by decide +kernel
theorem dX9_hang_108 : decode mX9_hang.2.1 108 = .ok (.iload_n 1, 1) := by decide +kernel
theorem dX9_hang_109 : decode mX9_hang.2.1 109 = .ok (.laload, 1) := by decide +kernel
theorem dX9_hang_110 : decode mX9_hang.2.1 110 = .ok (.lstore 11, 2) := by decide +kernel
theorem dX9_hang_112 : decode mX9_hang.2.1 112 = .ok (.aload_n 0, 1) := by decide +kernel
theorem dX9_hang_113 : decode mX9_hang.2.1 113 = .ok (.getfield 32, 3) := by decide +kernel
theorem dX9_hang_116 : decode mX9_hang.2.1 116 = .ok (.iload_n 1, 1) := by decide +kernel
theorem dX9_hang_117 : decode mX9_hang.2.1 117 = .ok (.laload, 1) := by decide +kernel
theorem dX9_hang_118 : decode mX9_hang.2.1 118 = .ok (.lstore 13, 2) := by decide +kernel
theorem dX9_hang_120 : decode mX9_hang.2.1 120 = .ok (.ldc2_w 111, 3) := by decide +kernel
theorem dX9_hang_123 : decode mX9_hang.2.1 123 = .ok (.ldc2_w 111, 3) := by decide +kernel
theorem dX9_hang_126 : decode mX9_hang.2.1 126 = .ok (.lload 11, 2) := by decide +kernel
theorem dX9_hang_128 : decode mX9_hang.2.1 128 = .ok (.lload 13, 2) := by decide +kernel
theorem dX9_hang_130 : decode mX9_hang.2.1 130 = .ok (.lsub, 1) := by decide +kernel
theorem dX9_hang_131 : decode mX9_hang.2.1 131 = .ok (.lmul, 1) := by decide +kernel
theorem dX9_hang_132 : decode mX9_hang.2.1 132 = .ok (.lload 9, 2) := by decide +kernel
theorem dX9_hang_134 : decode mX9_hang.2.1 134 = .ok (.invokestatic 113, 3) := by decide +kernel
theorem dX9_hang_137 : decode mX9_hang.2.1 137 = .ok (.ladd, 1) := by decide +kernel
theorem dX9_hang_138 : decode mX9_hang.2.1 138 = .ok (.lstore 15, 2) := by decide +kernel
theorem dX9_hang_140 : decode mX9_hang.2.1 140 = .ok (.lload 15, 2) := by decide +kernel
theorem dX9_hang_142 : decode mX9_hang.2.1 142 = .ok (.ldc2_w 116, 3) := by decide +kernel
theorem dX9_hang_145 : decode mX9_hang.2.1 145 = .ok (.lcmp, 1) := by decide +kernel
theorem dX9_hang_146 : decode mX9_hang.2.1 146 = .ok (.ifCond .lt 12, 3) := by decide +kernel
theorem dX9_hang_149 : decode mX9_hang.2.1 149 = .ok (.lload 15, 2) := by decide +kernel
theorem dX9_hang_151 : decode mX9_hang.2.1 151 = .ok (.ldc2_w 118, 3) := by decide +kernel
theorem dX9_hang_154 : decode mX9_hang.2.1 154 = .ok (.lcmp, 1) := by decide +kernel
theorem dX9_hang_155 : decode mX9_hang.2.1 155 = .ok (.ifCond .le 4, 3) := by decide +kernel
theorem dX9_hang_158 : decode mX9_hang.2.1 158 = .ok (.return_, 1) := by decide +kernel
theorem dX9_hang_159 : decode mX9_hang.2.1 159 = .ok (.lload 11, 2) := by decide +kernel
theorem dX9_hang_161 : decode mX9_hang.2.1 161 = .ok (.lload 9, 2) := by decide +kernel
theorem dX9_hang_163 : decode mX9_hang.2.1 163 = .ok (.invokestatic 120, 3) := by decide +kernel
theorem dX9_hang_166 : decode mX9_hang.2.1 166 = .ok (.lload 15, 2) := by decide +kernel
theorem dX9_hang_168 : decode mX9_hang.2.1 168 = .ok (.lload 15, 2) := by decide +kernel
theorem dX9_hang_170 : decode mX9_hang.2.1 170 = .ok (.lmul, 1) := by decide +kernel
theorem dX9_hang_171 : decode mX9_hang.2.1 171 = .ok (.lsub, 1) := by decide +kernel
theorem dX9_hang_172 : decode mX9_hang.2.1 172 = .ok (.lstore 17, 2) := by decide +kernel
theorem dX9_hang_174 : decode mX9_hang.2.1 174 = .ok (.lload 17, 2) := by decide +kernel
theorem dX9_hang_176 : decode mX9_hang.2.1 176 = .ok (.lconst 0, 1) := by decide +kernel
theorem dX9_hang_177 : decode mX9_hang.2.1 177 = .ok (.lcmp, 1) := by decide +kernel
theorem dX9_hang_178 : decode mX9_hang.2.1 178 = .ok (.ifCond .ge 4, 3) := by decide +kernel
theorem dX9_hang_181 : decode mX9_hang.2.1 181 = .ok (.return_, 1) := by decide +kernel
theorem dX9_hang_182 : decode mX9_hang.2.1 182 = .ok (.aload_n 0, 1) := by decide +kernel
theorem dX9_hang_183 : decode mX9_hang.2.1 183 = .ok (.getfield 25, 3) := by decide +kernel
theorem dX9_hang_186 : decode mX9_hang.2.1 186 = .ok (.iload_n 1, 1) := by decide +kernel
theorem dX9_hang_187 : decode mX9_hang.2.1 187 = .ok (.iaload, 1) := by decide +kernel
theorem dX9_hang_188 : decode mX9_hang.2.1 188 = .ok (.i2l, 1) := by decide +kernel
theorem dX9_hang_189 : decode mX9_hang.2.1 189 = .ok (.lload 17, 2) := by decide +kernel
theorem dX9_hang_191 : decode mX9_hang.2.1 191 = .ok (.invokestatic 123, 3) := by decide +kernel
theorem dX9_hang_194 : decode mX9_hang.2.1 194 = .ok (.lmul, 1) := by decide +kernel
theorem dX9_hang_195 : decode mX9_hang.2.1 195 = .ok (.lstore 19, 2) := by decide +kernel
theorem dX9_hang_197 : decode mX9_hang.2.1 197 = .ok (.aload_n 2, 1) := by decide +kernel
theorem dX9_hang_198 : decode mX9_hang.2.1 198 = .ok (.iload_n 1, 1) := by decide +kernel
theorem dX9_hang_199 : decode mX9_hang.2.1 199 = .ok (.aload_n 2, 1) := by decide +kernel
theorem dX9_hang_200 : decode mX9_hang.2.1 200 = .ok (.getfield 102, 3) := by decide +kernel
theorem dX9_hang_203 : decode mX9_hang.2.1 203 = .ok (.iload_n 3, 1) := by decide +kernel
theorem dX9_hang_204 : decode mX9_hang.2.1 204 = .ok (.laload, 1) := by decide +kernel
theorem dX9_hang_205 : decode mX9_hang.2.1 205 = .ok (.lload 15, 2) := by decide +kernel
theorem dX9_hang_207 : decode mX9_hang.2.1 207 = .ok (.lload 5, 2) := by decide +kernel
theorem dX9_hang_209 : decode mX9_hang.2.1 209 = .ok (.lmul, 1) := by decide +kernel
theorem dX9_hang_210 : decode mX9_hang.2.1 210 = .ok (.lload 19, 2) := by decide +kernel
theorem dX9_hang_212 : decode mX9_hang.2.1 212 = .ok (.lload 7, 2) := by decide +kernel
theorem dX9_hang_214 : decode mX9_hang.2.1 214 = .ok (.lmul, 1) := by decide +kernel
theorem dX9_hang_215 : decode mX9_hang.2.1 215 = .ok (.lsub, 1) := by decide +kernel
theorem dX9_hang_216 : decode mX9_hang.2.1 216 = .ok (.ldc2_w 127, 3) := by decide +kernel
theorem dX9_hang_219 : decode mX9_hang.2.1 219 = .ok (.invokestatic 113, 3) := by decide +kernel
theorem dX9_hang_222 : decode mX9_hang.2.1 222 = .ok (.ladd, 1) := by decide +kernel
theorem dX9_hang_223 : decode mX9_hang.2.1 223 = .ok (.aload_n 2, 1) := by decide +kernel
theorem dX9_hang_224 : decode mX9_hang.2.1 224 = .ok (.getfield 109, 3) := by decide +kernel
theorem dX9_hang_227 : decode mX9_hang.2.1 227 = .ok (.iload_n 3, 1) := by decide +kernel
theorem dX9_hang_228 : decode mX9_hang.2.1 228 = .ok (.laload, 1) := by decide +kernel
theorem dX9_hang_229 : decode mX9_hang.2.1 229 = .ok (.lload 15, 2) := by decide +kernel
theorem dX9_hang_231 : decode mX9_hang.2.1 231 = .ok (.lload 7, 2) := by decide +kernel
theorem dX9_hang_233 : decode mX9_hang.2.1 233 = .ok (.lmul, 1) := by decide +kernel
theorem dX9_hang_234 : decode mX9_hang.2.1 234 = .ok (.lload 19, 2) := by decide +kernel
theorem dX9_hang_236 : decode mX9_hang.2.1 236 = .ok (.lload 5, 2) := by decide +kernel
theorem dX9_hang_238 : decode mX9_hang.2.1 238 = .ok (.lmul, 1) := by decide +kernel
theorem dX9_hang_239 : decode mX9_hang.2.1 239 = .ok (.ladd, 1) := by decide +kernel
theorem dX9_hang_240 : decode mX9_hang.2.1 240 = .ok (.ldc2_w 127, 3) := by decide +kernel
theorem dX9_hang_243 : decode mX9_hang.2.1 243 = .ok (.invokestatic 113, 3) := by decide +kernel
theorem dX9_hang_246 : decode mX9_hang.2.1 246 = .ok (.ladd, 1) := by decide +kernel
theorem dX9_hang_247 : decode mX9_hang.2.1 247 = .ok (.invokevirtual 85, 3) := by decide +kernel
theorem dX9_hang_250 : decode mX9_hang.2.1 250 = .ok (.return_, 1) := by decide +kernel
theorem okX9_hang_113 : gOkS mX9_hang mJ9_floorDiv_f86c9 113 2 := ⟨List.forall_mem_cons.mpr ⟨(gm 929 (by decide +kernel) rfl), List.forall_mem_cons.mpr ⟨(gm 927 (by decide +kernel) rfl), List.forall_mem_cons.mpr ⟨(gm 928 (by decide +kernel) rfl), List.forall_mem_cons.mpr ⟨(gm 124 (by decide +kernel) rfl), fun _ h => absurd h List.not_mem_nil⟩⟩⟩⟩, by decide +kernel, by decide +kernel, by decide +kernel⟩
theorem okX9_hang_120 : gOkS mX9_hang mX9_squareScaled 120 2 := ⟨List.forall_mem_cons.mpr ⟨(gm 934 (by decide +kernel) rfl), List.forall_mem_cons.mpr ⟨(gm 932 (by decide +kernel) rfl), List.forall_mem_cons.mpr ⟨(gm 933 (by decide +kernel) rfl), List.forall_mem_cons.mpr ⟨(gm 116 (by decide +kernel) rfl), fun _ h => absurd h List.not_mem_nil⟩⟩⟩⟩, by decide +kernel, by decide +kernel, by decide +kernel⟩
theorem okX9_hang_123 : gOkN mX9_hang mX10_rootDown 123 1 "LinkageCurves" := ⟨List.forall_mem_cons.mpr ⟨(gm 938 (by decide +kernel) rfl), List.forall_mem_cons.mpr ⟨(gm 937 (by decide +kernel) rfl), List.forall_mem_cons.mpr ⟨(gm 107 (by decide +kernel) rfl), fun _ h => absurd h List.not_mem_nil⟩⟩⟩, by decide +kernel, by decide +kernel, by decide +kernel, by decide +kernel⟩
theorem okX9_hang_85 : gOkV mX9_hang mX5_set 85 3 := ⟨List.forall_mem_cons.mpr ⟨(gm 912 (by decide +kernel) rfl), List.forall_mem_cons.mpr ⟨(gm 909 (by decide +kernel) rfl), List.forall_mem_cons.mpr ⟨(gm 910 (by decide +kernel) rfl), List.forall_mem_cons.mpr ⟨(gm 911 (by decide +kernel) rfl), List.forall_mem_cons.mpr ⟨(gm 117 (by decide +kernel) rfl), fun _ h => absurd h List.not_mem_nil⟩⟩⟩⟩⟩, by decide +kernel, by decide +kernel, by decide +kernel⟩
def fX9_hang_34 (p1 : Int32) (p2 : Nat) (σ : gS) : Option (Unit × gS) :=
  gg (¬ (p1 < 0 ∨ 24 ≤ p1.toNatClampNeg)) (
  bnd (gsI σ (p2 + 3) p1.toNatClampNeg 3) fun σ2 =>
  some ((), σ2))
set_option maxHeartbeats 4000000 in
set_option maxRecDepth 100000 in
theorem pX9_hang_34 {E : gE} {p1 : Int32} {p2 : Nat} {r : Unit} {σ' : gS} {σ : gS} (hp2 : gPl p2) (h : fX9_hang_34 p1 p2 σ = some (r, σ')) : gG E mX9_hang 34 [(1, .int p1), (2, .ref p2)] [] σ (none) σ' := by
  unfold fX9_hang_34 at h
  refine g_aload_n dX9_hang_34 rfl 1 rfl ?_
  refine g_getC (n := (p2 + 3)) dX9_hang_35 (gi_pl hp2) rfl fl_RX9_80 ?_
  refine g_iload_n dX9_hang_38 rfl 0 rfl ?_
  refine g_iconst (v := 3) dX9_hang_39 (by decide) ?_
  obtain ⟨g1, h⟩ := gg_some h
  obtain ⟨σ2, eσ2, h⟩ := bnd_nm h
  refine g_iast dX9_hang_40 (gi_pl3 hp2) g1 (g_st eσ2 ?_)
  obtain ⟨rfl, rfl⟩ := so_inj h
  exact g_vret dX9_hang_41 rfl
def fX9_hang_158 (p1 : Int32) (p2 : Nat) (σ : gS) : Option (Unit × gS) :=
  some ((), σ)
set_option maxHeartbeats 4000000 in
set_option maxRecDepth 100000 in
theorem pX9_hang_158 {E : gE} {p1 : Int32} {p2 : Nat} {r : Unit} {σ' : gS} {σ : gS} (hp2 : gPl p2) (h : fX9_hang_158 p1 p2 σ = some (r, σ')) : gG E mX9_hang 158 [] [] σ (none) σ' := by
  unfold fX9_hang_158 at h
  obtain ⟨rfl, rfl⟩ := so_inj h
  exact g_vret dX9_hang_158 rfl
def fX9_hang (p1 : Int32) (p2 : Nat) (σ : gS) : Option (Unit × gS) :=
  gg (¬ (p1 < 0 ∨ 24 ≤ p1.toNatClampNeg)) (
  gg (¬ (p1 < 0 ∨ 24 ≤ p1.toNatClampNeg)) (
  gg (¬ (σ.1 127 p1.toNatClampNeg < 0 ∨ 24 ≤ (σ.1 127 p1.toNatClampNeg).toNatClampNeg)) (
  if (σ.1 (p2 + 3) ((σ.1 127 p1.toNatClampNeg).toNatClampNeg)) = 0 then
    gg (¬ (σ.1 128 p1.toNatClampNeg < 0 ∨ 24 ≤ (σ.1 128 p1.toNatClampNeg).toNatClampNeg)) (
    if (σ.1 (p2 + 3) ((σ.1 128 p1.toNatClampNeg).toNatClampNeg)) = 0 then
      gg (¬ (p1 < 0 ∨ 24 ≤ p1.toNatClampNeg)) (
      bnd (gsI σ (p2 + 3) p1.toNatClampNeg 2) fun σ8 =>
      gg (¬ (σ.1 128 p1.toNatClampNeg < 0 ∨ 24 ≤ (σ.1 128 p1.toNatClampNeg).toNatClampNeg)) (
      gg (¬ (σ.1 127 p1.toNatClampNeg < 0 ∨ 24 ≤ (σ.1 127 p1.toNatClampNeg).toNatClampNeg)) (
      bnd ((σ8.2.1 (p2 + 1) ((σ.1 128 p1.toNatClampNeg).toNatClampNeg)) - (σ8.2.1 (p2 + 1) ((σ.1 127 p1.toNatClampNeg).toNatClampNeg))) fun x11 =>
      gg (¬ (σ.1 128 p1.toNatClampNeg < 0 ∨ 24 ≤ (σ.1 128 p1.toNatClampNeg).toNatClampNeg)) (
      gg (¬ (σ.1 127 p1.toNatClampNeg < 0 ∨ 24 ≤ (σ.1 127 p1.toNatClampNeg).toNatClampNeg)) (
      bnd ((σ8.2.1 (p2 + 2) ((σ.1 128 p1.toNatClampNeg).toNatClampNeg)) - (σ8.2.1 (p2 + 2) ((σ.1 127 p1.toNatClampNeg).toNatClampNeg))) fun x14 =>
      bnd ((x11 * x11) + (x14 * x14)) fun x15 =>
      if 0 ≤ (lg_cmp x15 1048576) then
        gg (¬ (p1 < 0 ∨ 24 ≤ p1.toNatClampNeg)) (
        gg (¬ (p1 < 0 ∨ 24 ≤ p1.toNatClampNeg)) (
        bd (fJ9_floorDiv_f86c9 (32768 * ((σ8.2.1 130 p1.toNatClampNeg) - (σ8.2.1 131 p1.toNatClampNeg))) x15 σ8) fun x19 σ20 =>
        bnd (32768 + x19) fun x22 =>
        if (lg_cmp x22 (-268435456)) < 0 then
          fX9_hang_158 p1 p2 σ20
        else
          if (lg_cmp x22 268435456) ≤ 0 then
            bd (fX9_squareScaled (σ8.2.1 130 p1.toNatClampNeg) x15 σ20) fun x25 σ26 =>
            bnd (x25 - (x22 * x22)) fun x28 =>
            if 0 ≤ (lg_cmp x28 0) then
              gg (¬ (p1 < 0 ∨ 24 ≤ p1.toNatClampNeg)) (
              bd (fX10_rootDown x28 σ26) fun x31 σ32 =>
              bnd (((σ26.1 129 p1.toNatClampNeg).toInt64) * x31) fun x34 =>
              gg (¬ (σ.1 127 p1.toNatClampNeg < 0 ∨ 24 ≤ (σ.1 127 p1.toNatClampNeg).toNatClampNeg)) (
              bd (fJ9_floorDiv_f86c9 ((x22 * x11) - (x34 * x14)) 65536 σ32) fun x36 σ37 =>
              gg (¬ (σ.1 127 p1.toNatClampNeg < 0 ∨ 24 ≤ (σ.1 127 p1.toNatClampNeg).toNatClampNeg)) (
              bd (fJ9_floorDiv_f86c9 ((x22 * x14) + (x34 * x11)) 65536 σ37) fun x40 σ41 =>
              bd (fX5_set p2 p1 ((σ32.2.1 (p2 + 1) ((σ.1 127 p1.toNatClampNeg).toNatClampNeg)) + x36) ((σ37.2.1 (p2 + 2) ((σ.1 127 p1.toNatClampNeg).toNatClampNeg)) + x40) σ41) fun _ σ43 =>
              some ((), σ43))))
            else
              some ((), σ26)
          else
            fX9_hang_158 p1 p2 σ20))
      else
        some ((), σ8))))))
    else
      fX9_hang_34 p1 p2 σ)
  else
    fX9_hang_34 p1 p2 σ)))
set_option maxHeartbeats 4000000 in
set_option maxRecDepth 100000 in
theorem pX9_hang {E : gE} {p1 : Int32} {p2 : Nat} {r : Unit} {σ' : gS} {σ : gS} (hp2 : gPl p2) (h : fX9_hang p1 p2 σ = some (r, σ')) : gG E mX9_hang 0 [(0, .ref 124), (1, .int p1), (2, .ref p2)] [] σ (none) σ' := by
  unfold fX9_hang at h
  refine g_aload_n dX9_hang_0 rfl 0 rfl ?_
  refine g_getC (n := 127) dX9_hang_1 gi_124 rfl fl_RX9_19 ?_
  refine g_iload_n dX9_hang_4 rfl 1 rfl ?_
  obtain ⟨g1, h⟩ := gg_some h
  refine g_iald dX9_hang_5 gi_127 g1 ?_
  refine g_istore_n (lv' := [(3, .int (σ.1 127 p1.toNatClampNeg)), (0, .ref 124), (1, .int p1), (2, .ref p2)]) dX9_hang_6 rfl (Nat.le_of_ble_eq_true rfl) rfl ?_
  refine g_aload_n dX9_hang_7 rfl 1 rfl ?_
  refine g_getC (n := 128) dX9_hang_8 gi_124 rfl fl_RX9_22 ?_
  refine g_iload_n dX9_hang_11 rfl 2 rfl ?_
  obtain ⟨g2, h⟩ := gg_some h
  refine g_iald dX9_hang_12 gi_128 g2 ?_
  refine g_istore (lv' := [(4, .int (σ.1 128 p1.toNatClampNeg)), (3, .int (σ.1 127 p1.toNatClampNeg)), (0, .ref 124), (1, .int p1), (2, .ref p2)]) dX9_hang_13 (Nat.le_of_ble_eq_true rfl) rfl ?_
  refine g_aload_n dX9_hang_15 rfl 4 rfl ?_
  refine g_getC (n := (p2 + 3)) dX9_hang_16 (gi_pl hp2) rfl fl_RX9_80 ?_
  refine g_iload_n dX9_hang_19 rfl 1 rfl ?_
  obtain ⟨g3, h⟩ := gg_some h
  refine g_iald dX9_hang_20 (gi_pl3 hp2) g3 ?_
  refine g_if_ne (t := 34) dX9_hang_21 (by decide) (fun c4 => ?_) (fun c4 => ?_)
  · replace h := if_f h c4
    refine g_sub [3, 4] rfl ?_
    exact pX9_hang_34 hp2 h
  · replace h := if_t h c4
    refine g_aload_n dX9_hang_24 rfl 4 rfl ?_
    refine g_getC (n := (p2 + 3)) dX9_hang_25 (gi_pl hp2) rfl fl_RX9_80 ?_
    refine g_iload dX9_hang_28 0 rfl ?_
    obtain ⟨g5, h⟩ := gg_some h
    refine g_iald dX9_hang_30 (gi_pl3 hp2) g5 ?_
    refine g_if_eq (t := 42) dX9_hang_31 (by decide) (fun c6 => ?_) (fun c6 => ?_)
    · replace h := if_t h c6
      refine g_aload_n dX9_hang_42 rfl 4 rfl ?_
      refine g_getC (n := (p2 + 3)) dX9_hang_43 (gi_pl hp2) rfl fl_RX9_80 ?_
      refine g_iload_n dX9_hang_46 rfl 3 rfl ?_
      refine g_iconst (v := 2) dX9_hang_47 (by decide) ?_
      obtain ⟨g7, h⟩ := gg_some h
      obtain ⟨σ8, eσ8, h⟩ := bnd_nm h
      refine g_iast dX9_hang_48 (gi_pl3 hp2) g7 (g_st eσ8 ?_)
      refine g_aload_n dX9_hang_49 rfl 4 rfl ?_
      refine g_getC (n := (p2 + 1)) dX9_hang_50 (gi_pl hp2) rfl fl_RX9_102 ?_
      refine g_iload dX9_hang_53 0 rfl ?_
      obtain ⟨g9, h⟩ := gg_some h
      refine g_lald dX9_hang_55 (gi_pl1 hp2) g9 ?_
      refine g_aload_n dX9_hang_56 rfl 4 rfl ?_
      refine g_getC (n := (p2 + 1)) dX9_hang_57 (gi_pl hp2) rfl fl_RX9_102 ?_
      refine g_iload_n dX9_hang_60 rfl 1 rfl ?_
      obtain ⟨g10, h⟩ := gg_some h
      refine g_lald dX9_hang_61 (gi_pl1 hp2) g10 ?_
      refine g_lsub dX9_hang_62 ?_
      obtain ⟨x11, ex11, h⟩ := bnd_nm h
      refine g_topl ex11 ?_
      refine g_lstore (lv' := [(5, .long x11), (4, .int (σ.1 128 p1.toNatClampNeg)), (3, .int (σ.1 127 p1.toNatClampNeg)), (0, .ref 124), (1, .int p1), (2, .ref p2)]) dX9_hang_63 (Nat.le_of_ble_eq_true rfl) rfl ?_
      refine g_aload_n dX9_hang_65 rfl 5 rfl ?_
      refine g_getC (n := (p2 + 2)) dX9_hang_66 (gi_pl hp2) rfl fl_RX9_109 ?_
      refine g_iload dX9_hang_69 1 rfl ?_
      obtain ⟨g12, h⟩ := gg_some h
      refine g_lald dX9_hang_71 (gi_pl2 hp2) g12 ?_
      refine g_aload_n dX9_hang_72 rfl 5 rfl ?_
      refine g_getC (n := (p2 + 2)) dX9_hang_73 (gi_pl hp2) rfl fl_RX9_109 ?_
      refine g_iload_n dX9_hang_76 rfl 2 rfl ?_
      obtain ⟨g13, h⟩ := gg_some h
      refine g_lald dX9_hang_77 (gi_pl2 hp2) g13 ?_
      refine g_lsub dX9_hang_78 ?_
      obtain ⟨x14, ex14, h⟩ := bnd_nm h
      refine g_topl ex14 ?_
      refine g_lstore (lv' := [(7, .long x14), (5, .long x11), (4, .int (σ.1 128 p1.toNatClampNeg)), (3, .int (σ.1 127 p1.toNatClampNeg)), (0, .ref 124), (1, .int p1), (2, .ref p2)]) dX9_hang_79 (Nat.le_of_ble_eq_true rfl) rfl ?_
      refine g_lload dX9_hang_81 1 rfl ?_
      refine g_lload dX9_hang_83 1 rfl ?_
      refine g_lmul dX9_hang_85 ?_
      refine g_lload dX9_hang_86 0 rfl ?_
      refine g_lload dX9_hang_88 0 rfl ?_
      refine g_lmul dX9_hang_90 ?_
      refine g_ladd dX9_hang_91 ?_
      obtain ⟨x15, ex15, h⟩ := bnd_nm h
      refine g_topl ex15 ?_
      refine g_lstore (lv' := [(9, .long x15), (7, .long x14), (5, .long x11), (4, .int (σ.1 128 p1.toNatClampNeg)), (3, .int (σ.1 127 p1.toNatClampNeg)), (0, .ref 124), (1, .int p1), (2, .ref p2)]) dX9_hang_92 (Nat.le_of_ble_eq_true rfl) rfl ?_
      refine g_lload dX9_hang_94 0 rfl ?_
      refine g_ldc2 (v := 1048576) dX9_hang_96 wl_RX9_61 ?_
      refine g_lcmp dX9_hang_99 ?_
      refine g_if_ge (t := 104) dX9_hang_100 (by decide) (fun c16 => ?_) (fun c16 => ?_)
      · replace h := if_t h c16
        refine g_aload_n dX9_hang_104 rfl 5 rfl ?_
        refine g_getC (n := 130) dX9_hang_105 gi_124 rfl fl_RX9_28 ?_
        refine g_iload_n dX9_hang_108 rfl 6 rfl ?_
        obtain ⟨g17, h⟩ := gg_some h
        refine g_lald dX9_hang_109 gi_130 g17 ?_
        refine g_lstore (lv' := [(11, .long (σ8.2.1 130 p1.toNatClampNeg)), (9, .long x15), (7, .long x14), (5, .long x11), (4, .int (σ.1 128 p1.toNatClampNeg)), (3, .int (σ.1 127 p1.toNatClampNeg)), (0, .ref 124), (1, .int p1), (2, .ref p2)]) dX9_hang_110 (Nat.le_of_ble_eq_true rfl) rfl ?_
        refine g_aload_n dX9_hang_112 rfl 6 rfl ?_
        refine g_getC (n := 131) dX9_hang_113 gi_124 rfl fl_RX9_32 ?_
        refine g_iload_n dX9_hang_116 rfl 7 rfl ?_
        obtain ⟨g18, h⟩ := gg_some h
        refine g_lald dX9_hang_117 gi_131 g18 ?_
        refine g_lstore (lv' := [(13, .long (σ8.2.1 131 p1.toNatClampNeg)), (11, .long (σ8.2.1 130 p1.toNatClampNeg)), (9, .long x15), (7, .long x14), (5, .long x11), (4, .int (σ.1 128 p1.toNatClampNeg)), (3, .int (σ.1 127 p1.toNatClampNeg)), (0, .ref 124), (1, .int p1), (2, .ref p2)]) dX9_hang_118 (Nat.le_of_ble_eq_true rfl) rfl ?_
        refine g_ldc2 (v := 32768) dX9_hang_120 wl_RX9_111 ?_
        refine g_ldc2 (v := 32768) dX9_hang_123 wl_RX9_111 ?_
        refine g_lload dX9_hang_126 1 rfl ?_
        refine g_lload dX9_hang_128 0 rfl ?_
        refine g_lsub dX9_hang_130 ?_
        refine g_lmul dX9_hang_131 ?_
        refine g_lload dX9_hang_132 2 rfl ?_
        obtain ⟨x19, σ20, y21, h⟩ := bd_some h
        refine g_callSr (as := [.long (32768 * ((σ8.2.1 130 p1.toNatClampNeg) - (σ8.2.1 131 p1.toNatClampNeg))), .long x15]) (st := [.long 32768]) (zJ9_floorDiv_f86c9 y21) dX9_hang_134 okX9_hang_113 (Nat.le_of_ble_eq_true rfl) ?_
        refine g_ladd dX9_hang_137 ?_
        obtain ⟨x22, ex22, h⟩ := bnd_nm h
        refine g_topl ex22 ?_
        refine g_lstore (lv' := [(15, .long x22), (13, .long (σ8.2.1 131 p1.toNatClampNeg)), (11, .long (σ8.2.1 130 p1.toNatClampNeg)), (9, .long x15), (7, .long x14), (5, .long x11), (4, .int (σ.1 128 p1.toNatClampNeg)), (3, .int (σ.1 127 p1.toNatClampNeg)), (0, .ref 124), (1, .int p1), (2, .ref p2)]) dX9_hang_138 (Nat.le_of_ble_eq_true rfl) rfl ?_
        refine g_lload dX9_hang_140 0 rfl ?_
        refine g_ldc2 (v := (-268435456)) dX9_hang_142 wl_RX9_116 ?_
        refine g_lcmp dX9_hang_145 ?_
        refine g_if_lt (t := 158) dX9_hang_146 (by decide) (fun c23 => ?_) (fun c23 => ?_)
        · replace h := if_t h c23
          refine g_sub [] rfl ?_
          exact pX9_hang_158 hp2 h
        · replace h := if_f h c23
          refine g_lload dX9_hang_149 0 rfl ?_
          refine g_ldc2 (v := 268435456) dX9_hang_151 wl_RX9_118 ?_
          refine g_lcmp dX9_hang_154 ?_
          refine g_if_le (t := 159) dX9_hang_155 (by decide) (fun c24 => ?_) (fun c24 => ?_)
          · replace h := if_t h c24
            refine g_lload dX9_hang_159 2 rfl ?_
            refine g_lload dX9_hang_161 3 rfl ?_
            obtain ⟨x25, σ26, y27, h⟩ := bd_some h
            refine g_callSr (as := [.long (σ8.2.1 130 p1.toNatClampNeg), .long x15]) (st := []) (zX9_squareScaled y27) dX9_hang_163 okX9_hang_120 (Nat.le_of_ble_eq_true rfl) ?_
            refine g_lload dX9_hang_166 0 rfl ?_
            refine g_lload dX9_hang_168 0 rfl ?_
            refine g_lmul dX9_hang_170 ?_
            refine g_lsub dX9_hang_171 ?_
            obtain ⟨x28, ex28, h⟩ := bnd_nm h
            refine g_topl ex28 ?_
            refine g_lstore (lv' := [(17, .long x28), (15, .long x22), (13, .long (σ8.2.1 131 p1.toNatClampNeg)), (11, .long (σ8.2.1 130 p1.toNatClampNeg)), (9, .long x15), (7, .long x14), (5, .long x11), (4, .int (σ.1 128 p1.toNatClampNeg)), (3, .int (σ.1 127 p1.toNatClampNeg)), (0, .ref 124), (1, .int p1), (2, .ref p2)]) dX9_hang_172 (Nat.le_of_ble_eq_true rfl) rfl ?_
            refine g_lload dX9_hang_174 0 rfl ?_
            refine g_lconst (v := 0) dX9_hang_176 (by decide) ?_
            refine g_lcmp dX9_hang_177 ?_
            refine g_if_ge (t := 182) dX9_hang_178 (by decide) (fun c29 => ?_) (fun c29 => ?_)
            · replace h := if_t h c29
              refine g_aload_n dX9_hang_182 rfl 9 rfl ?_
              refine g_getC (n := 129) dX9_hang_183 gi_124 rfl fl_RX9_25 ?_
              refine g_iload_n dX9_hang_186 rfl 10 rfl ?_
              obtain ⟨g30, h⟩ := gg_some h
              refine g_iald dX9_hang_187 gi_129 g30 ?_
              refine g_i2l dX9_hang_188 ?_
              refine g_lload dX9_hang_189 0 rfl ?_
              obtain ⟨x31, σ32, y33, h⟩ := bd_some h
              refine g_callNr (as := [.long x28]) (st := [.long ((σ26.1 129 p1.toNatClampNeg).toInt64)]) (zX10_rootDown y33) dX9_hang_191 okX9_hang_123 (Nat.le_of_ble_eq_true rfl) ?_
              refine g_lmul dX9_hang_194 ?_
              obtain ⟨x34, ex34, h⟩ := bnd_nm h
              refine g_topl ex34 ?_
              refine g_lstore (lv' := [(19, .long x34), (17, .long x28), (15, .long x22), (13, .long (σ8.2.1 131 p1.toNatClampNeg)), (11, .long (σ8.2.1 130 p1.toNatClampNeg)), (9, .long x15), (7, .long x14), (5, .long x11), (4, .int (σ.1 128 p1.toNatClampNeg)), (3, .int (σ.1 127 p1.toNatClampNeg)), (0, .ref 124), (1, .int p1), (2, .ref p2)]) dX9_hang_195 (Nat.le_of_ble_eq_true rfl) rfl ?_
              refine g_aload_n dX9_hang_197 rfl 12 rfl ?_
              refine g_iload_n dX9_hang_198 rfl 11 rfl ?_
              refine g_aload_n dX9_hang_199 rfl 12 rfl ?_
              refine g_getC (n := (p2 + 1)) dX9_hang_200 (gi_pl hp2) rfl fl_RX9_102 ?_
              refine g_iload_n dX9_hang_203 rfl 9 rfl ?_
              obtain ⟨g35, h⟩ := gg_some h
              refine g_lald dX9_hang_204 (gi_pl1 hp2) g35 ?_
              refine g_lload dX9_hang_205 2 rfl ?_
              refine g_lload dX9_hang_207 7 rfl ?_
              refine g_lmul dX9_hang_209 ?_
              refine g_lload dX9_hang_210 0 rfl ?_
              refine g_lload dX9_hang_212 6 rfl ?_
              refine g_lmul dX9_hang_214 ?_
              refine g_lsub dX9_hang_215 ?_
              refine g_ldc2 (v := 65536) dX9_hang_216 wl_RX9_127 ?_
              obtain ⟨x36, σ37, y38, h⟩ := bd_some h
              refine g_callSr (as := [.long ((x22 * x11) - (x34 * x14)), .long 65536]) (st := [.long (σ32.2.1 (p2 + 1) ((σ.1 127 p1.toNatClampNeg).toNatClampNeg)), .int p1, .ref p2]) (zJ9_floorDiv_f86c9 y38) dX9_hang_219 okX9_hang_113 (Nat.le_of_ble_eq_true rfl) ?_
              refine g_ladd dX9_hang_222 ?_
              refine g_aload_n dX9_hang_223 rfl 12 rfl ?_
              refine g_getC (n := (p2 + 2)) dX9_hang_224 (gi_pl hp2) rfl fl_RX9_109 ?_
              refine g_iload_n dX9_hang_227 rfl 9 rfl ?_
              obtain ⟨g39, h⟩ := gg_some h
              refine g_lald dX9_hang_228 (gi_pl2 hp2) g39 ?_
              refine g_lload dX9_hang_229 2 rfl ?_
              refine g_lload dX9_hang_231 6 rfl ?_
              refine g_lmul dX9_hang_233 ?_
              refine g_lload dX9_hang_234 0 rfl ?_
              refine g_lload dX9_hang_236 7 rfl ?_
              refine g_lmul dX9_hang_238 ?_
              refine g_ladd dX9_hang_239 ?_
              refine g_ldc2 (v := 65536) dX9_hang_240 wl_RX9_127 ?_
              obtain ⟨x40, σ41, y42, h⟩ := bd_some h
              refine g_callSr (as := [.long ((x22 * x14) + (x34 * x11)), .long 65536]) (st := [.long (σ37.2.1 (p2 + 2) ((σ.1 127 p1.toNatClampNeg).toNatClampNeg)), .long ((σ32.2.1 (p2 + 1) ((σ.1 127 p1.toNatClampNeg).toNatClampNeg)) + x36), .int p1, .ref p2]) (zJ9_floorDiv_f86c9 y42) dX9_hang_243 okX9_hang_113 (Nat.le_of_ble_eq_true rfl) ?_
              refine g_ladd dX9_hang_246 ?_
              obtain ⟨_, σ43, y44, h⟩ := bd_some h
              refine g_callVv (as := [.int p1, .long ((σ32.2.1 (p2 + 1) ((σ.1 127 p1.toNatClampNeg).toNatClampNeg)) + x36), .long ((σ37.2.1 (p2 + 2) ((σ.1 127 p1.toNatClampNeg).toNatClampNeg)) + x40)]) (st := []) (zX5_set hp2 y44) dX9_hang_247 (gi_pl hp2) rfl okX9_hang_85 (Nat.le_of_ble_eq_true rfl) ?_
              obtain ⟨rfl, rfl⟩ := so_inj h
              exact g_vret dX9_hang_250 rfl
            · replace h := if_f h c29
              obtain ⟨rfl, rfl⟩ := so_inj h
              exact g_vret dX9_hang_181 rfl
          · replace h := if_f h c24
            refine g_sub [] rfl ?_
            exact pX9_hang_158 hp2 h
      · replace h := if_f h c16
        obtain ⟨rfl, rfl⟩ := so_inj h
        exact g_vret dX9_hang_103 rfl
    · replace h := if_f h c6
      refine g_sub [3, 4] rfl ?_
      exact pX9_hang_34 hp2 h
theorem zX9_hang {E : gE} {p1 : Int32} {p2 : Nat} {r : Unit} {σ σ' : gS} (hp2 : gPl p2) (h : fX9_hang p1 p2 σ = some (r, σ')) : gC E mX9_hang [.ref 124, .int p1, .ref p2] σ (none) σ' :=
  gC_of (by decide +kernel) rfl (Nat.le_of_ble_eq_true rfl) (pX9_hang hp2 h)
def mX9_arrange : gM := (yX9_arrange, cX9_arrange, RX9, 6, none, 3, 73)
theorem dX9_arrange_0 : decode mX9_arrange.2.1 0 = .ok (.iconst 0, 1) := by decide +kernel
theorem dX9_arrange_1 : decode mX9_arrange.2.1 1 = .ok (.istore 5, 2) := by decide +kernel
theorem dX9_arrange_3 : decode mX9_arrange.2.1 3 = .ok (.iload 5, 2) := by decide +kernel
theorem dX9_arrange_5 : decode mX9_arrange.2.1 5 = .ok (.aload_n 1, 1) := by decide +kernel
theorem dX9_arrange_6 : decode mX9_arrange.2.1 6 = .ok (.iconst 0, 1) := by decide +kernel
theorem dX9_arrange_7 : decode mX9_arrange.2.1 7 = .ok (.invokevirtual 39, 3) := by decide +kernel
theorem dX9_arrange_10 : decode mX9_arrange.2.1 10 = .ok (.if_icmp .ge 56, 3) := by decide +kernel
theorem dX9_arrange_13 : decode mX9_arrange.2.1 13 = .ok (.aload 4, 2) := by decide +kernel
theorem dX9_arrange_15 : decode mX9_arrange.2.1 15 = .ok (.getfield 80, 3) := by decide +kernel
theorem dX9_arrange_18 : decode mX9_arrange.2.1 18 = .ok (.iload 5, 2) := by decide +kernel
theorem dX9_arrange_20 : decode mX9_arrange.2.1 20 = .ok (.iconst 1, 1) := by decide +kernel
theorem dX9_arrange_21 : decode mX9_arrange.2.1 21 = .ok (.iastore, 1) := by decide +kernel
theorem dX9_arrange_22 : decode mX9_arrange.2.1 22 = .ok (.aload_n 1, 1) := by decide +kernel
theorem dX9_arrange_23 : decode mX9_arrange.2.1 23 = .ok (.iload 5, 2) := by decide +kernel
theorem dX9_arrange_25 : decode mX9_arrange.2.1 25 = .ok (.invokevirtual 45, 3) := by decide +kernel
theorem dX9_arrange_28 : decode mX9_arrange.2.1 28 = .ok (.ifCond .eq 32, 3) := by decide +kernel
theorem dX9_arrange_31 : decode mX9_arrange.2.1 31 = .ok (.aload 4, 2) := by decide +kernel
theorem dX9_arrange_33 : decode mX9_arrange.2.1 33 = .ok (.iload 5, 2) := by decide +kernel
theorem dX9_arrange_35 : decode mX9_arrange.2.1 35 = .ok (.sipush 1024, 3) := by decide +kernel
theorem dX9_arrange_38 : decode mX9_arrange.2.1 38 = .ok (.aload_n 1, 1) := by decide +kernel
theorem dX9_arrange_39 : decode mX9_arrange.2.1 39 = .ok (.iload 5, 2) := by decide +kernel
theorem dX9_arrange_41 : decode mX9_arrange.2.1 41 = .ok (.invokevirtual 74, 3) := by decide +kernel
theorem dX9_arrange_44 : decode mX9_arrange.2.1 44 = .ok (.imul, 1) := by decide +kernel
theorem dX9_arrange_45 : decode mX9_arrange.2.1 45 = .ok (.i2l, 1) := by decide +kernel
theorem dX9_arrange_46 : decode mX9_arrange.2.1 46 = .ok (.sipush 1024, 3) := by decide +kernel
theorem dX9_arrange_49 : decode mX9_arrange.2.1 49 = .ok (.aload_n 1, 1) := by decide +kernel
theorem dX9_arrange_50 : decode mX9_arrange.2.1 50 = .ok (.iload 5, 2) := by decide +kernel
theorem dX9_arrange_52 : decode mX9_arrange.2.1 52 = .ok (.invokevirtual 77, 3) := by decide +kernel
theorem dX9_arrange_55 : decode mX9_arrange.2.1 55 = .ok (.imul, 1) := by decide +kernel
theorem dX9_arrange_56 : decode mX9_arrange.2.1 56 = .ok (.i2l, 1) := by decide +kernel
theorem dX9_arrange_57 : decode mX9_arrange.2.1 57 = .ok (.invokevirtual 85, 3) := by decide +kernel
theorem dX9_arrange_60 : decode mX9_arrange.2.1 60 = .ok (.iinc 5 1, 3) := by decide +kernel
theorem dX9_arrange_63 : decode mX9_arrange.2.1 63 = .ok (.goto (-60), 3) := by decide +kernel
theorem dX9_arrange_66 : decode mX9_arrange.2.1 66 = .ok (.aload_n 0, 1) := by decide +kernel
theorem dX9_arrange_67 : decode mX9_arrange.2.1 67 = .ok (.aload_n 1, 1) := by decide +kernel
theorem dX9_arrange_68 : decode mX9_arrange.2.1 68 = .ok (.iload_n 2, 1) := by decide +kernel
theorem dX9_arrange_69 : decode mX9_arrange.2.1 69 = .ok (.aload 4, 2) := by decide +kernel
theorem dX9_arrange_71 : decode mX9_arrange.2.1 71 = .ok (.invokevirtual 89, 3) := by decide +kernel
theorem dX9_arrange_74 : decode mX9_arrange.2.1 74 = .ok (.iconst 0, 1) := by decide +kernel
theorem dX9_arrange_75 : decode mX9_arrange.2.1 75 = .ok (.istore 5, 2) := by decide +kernel
theorem dX9_arrange_77 : decode mX9_arrange.2.1 77 = .ok (.iload 5, 2) := by decide +kernel
theorem dX9_arrange_79 : decode mX9_arrange.2.1 79 = .ok (.iload_n 3, 1) := by decide +kernel
theorem dX9_arrange_80 : decode mX9_arrange.2.1 80 = .ok (.if_icmp .ge 22, 3) := by decide +kernel
theorem dX9_arrange_83 : decode mX9_arrange.2.1 83 = .ok (.aload_n 0, 1) := by decide +kernel
theorem dX9_arrange_84 : decode mX9_arrange.2.1 84 = .ok (.aload_n 0, 1) := by decide +kernel
theorem dX9_arrange_85 : decode mX9_arrange.2.1 85 = .ok (.getfield 9, 3) := by decide +kernel
theorem dX9_arrange_88 : decode mX9_arrange.2.1 88 = .ok (.iload 5, 2) := by decide +kernel
theorem dX9_arrange_90 : decode mX9_arrange.2.1 90 = .ok (.iaload, 1) := by decide +kernel
theorem dX9_arrange_91 : decode mX9_arrange.2.1 91 = .ok (.aload 4, 2) := by decide +kernel
theorem dX9_arrange_93 : decode mX9_arrange.2.1 93 = .ok (.invokevirtual 93, 3) := by decide +kernel
theorem dX9_arrange_96 : decode mX9_arrange.2.1 96 = .ok (.iinc 5 1, 3) := by decide +kernel
theorem dX9_arrange_99 : decode mX9_arrange.2.1 99 = .ok (.goto (-22), 3) := by decide +kernel
theorem dX9_arrange_102 : decode mX9_arrange.2.1 102 = .ok (.return_, 1) := by decide +kernel
theorem okX9_arrange_93 : gOkV mX9_arrange mX9_hang 93 2 := ⟨List.forall_mem_cons.mpr ⟨(gm 925 (by decide +kernel) rfl), List.forall_mem_cons.mpr ⟨(gm 922 (by decide +kernel) rfl), List.forall_mem_cons.mpr ⟨(gm 924 (by decide +kernel) rfl), List.forall_mem_cons.mpr ⟨(gm 41 (by decide +kernel) rfl), List.forall_mem_cons.mpr ⟨(gm 116 (by decide +kernel) rfl), fun _ h => absurd h List.not_mem_nil⟩⟩⟩⟩⟩, by decide +kernel, by decide +kernel, by decide +kernel⟩
theorem okX9_arrange_39 : gOkV mX9_arrange mX3_size 39 1 := ⟨List.forall_mem_cons.mpr ⟨(gm 737 (by decide +kernel) rfl), List.forall_mem_cons.mpr ⟨(gm 824 (by decide +kernel) rfl), List.forall_mem_cons.mpr ⟨(gm 735 (by decide +kernel) rfl), List.forall_mem_cons.mpr ⟨(gm 736 (by decide +kernel) rfl), List.forall_mem_cons.mpr ⟨(gm 109 (by decide +kernel) rfl), fun _ h => absurd h List.not_mem_nil⟩⟩⟩⟩⟩, by decide +kernel, by decide +kernel, by decide +kernel⟩
theorem okX9_arrange_89 : gOkV mX9_arrange mX9_placeDriven 89 3 := ⟨List.forall_mem_cons.mpr ⟨(gm 916 (by decide +kernel) rfl), List.forall_mem_cons.mpr ⟨(gm 913 (by decide +kernel) rfl), List.forall_mem_cons.mpr ⟨(gm 915 (by decide +kernel) rfl), List.forall_mem_cons.mpr ⟨(gm 40 (by decide +kernel) rfl), List.forall_mem_cons.mpr ⟨(gm 116 (by decide +kernel) rfl), fun _ h => absurd h List.not_mem_nil⟩⟩⟩⟩⟩, by decide +kernel, by decide +kernel, by decide +kernel⟩
theorem okX9_arrange_45 : gOkV mX9_arrange mX3_isGround 45 1 := ⟨List.forall_mem_cons.mpr ⟨(gm 721 (by decide +kernel) rfl), List.forall_mem_cons.mpr ⟨(gm 825 (by decide +kernel) rfl), List.forall_mem_cons.mpr ⟨(gm 719 (by decide +kernel) rfl), List.forall_mem_cons.mpr ⟨(gm 720 (by decide +kernel) rfl), List.forall_mem_cons.mpr ⟨(gm 109 (by decide +kernel) rfl), fun _ h => absurd h List.not_mem_nil⟩⟩⟩⟩⟩, by decide +kernel, by decide +kernel, by decide +kernel⟩
theorem okX9_arrange_74 : gOkV mX9_arrange mX3_x 74 1 := ⟨List.forall_mem_cons.mpr ⟨(gm 676 (by decide +kernel) rfl), List.forall_mem_cons.mpr ⟨(gm 840 (by decide +kernel) rfl), List.forall_mem_cons.mpr ⟨(gm 674 (by decide +kernel) rfl), List.forall_mem_cons.mpr ⟨(gm 675 (by decide +kernel) rfl), List.forall_mem_cons.mpr ⟨(gm 109 (by decide +kernel) rfl), fun _ h => absurd h List.not_mem_nil⟩⟩⟩⟩⟩, by decide +kernel, by decide +kernel, by decide +kernel⟩
theorem okX9_arrange_77 : gOkV mX9_arrange mX3_y 77 1 := ⟨List.forall_mem_cons.mpr ⟨(gm 684 (by decide +kernel) rfl), List.forall_mem_cons.mpr ⟨(gm 841 (by decide +kernel) rfl), List.forall_mem_cons.mpr ⟨(gm 682 (by decide +kernel) rfl), List.forall_mem_cons.mpr ⟨(gm 683 (by decide +kernel) rfl), List.forall_mem_cons.mpr ⟨(gm 109 (by decide +kernel) rfl), fun _ h => absurd h List.not_mem_nil⟩⟩⟩⟩⟩, by decide +kernel, by decide +kernel, by decide +kernel⟩
theorem okX9_arrange_85 : gOkV mX9_arrange mX5_set 85 3 := ⟨List.forall_mem_cons.mpr ⟨(gm 912 (by decide +kernel) rfl), List.forall_mem_cons.mpr ⟨(gm 909 (by decide +kernel) rfl), List.forall_mem_cons.mpr ⟨(gm 910 (by decide +kernel) rfl), List.forall_mem_cons.mpr ⟨(gm 911 (by decide +kernel) rfl), List.forall_mem_cons.mpr ⟨(gm 117 (by decide +kernel) rfl), fun _ h => absurd h List.not_mem_nil⟩⟩⟩⟩⟩, by decide +kernel, by decide +kernel, by decide +kernel⟩
def fX9_arrange_60 (p1 : Nat) (p2 : Int32) (p3 : Int32) (p4 : Nat) (k3 : Int32 → gS → Option (Unit × gS)) (v5 : Int32) (σ : gS) : Option (Unit × gS) :=
  bnd (v5 + 1) fun x1 =>
  k3 x1 σ
set_option maxHeartbeats 4000000 in
set_option maxRecDepth 100000 in
theorem pX9_arrange_60 {E : gE} {p1 : Nat} {p2 : Int32} {p3 : Int32} {p4 : Nat} {k3 : Int32 → gS → Option (Unit × gS)} {r : Unit} {σ' : gS} {v5 : Int32} {σ : gS} (hp1 : gLk p1) (hp4 : gPl p4) (hk3 : ∀ (v5 : Int32) (σ : gS), k3 v5 σ = some (r, σ') → gG E mX9_arrange 3 [(0, .ref 124), (1, .ref p1), (2, .int p2), (3, .int p3), (4, .ref p4), (5, .int v5)] [] σ (none) σ') (h : fX9_arrange_60 p1 p2 p3 p4 k3 v5 σ = some (r, σ')) : gG E mX9_arrange 60 [(0, .ref 124), (1, .ref p1), (2, .int p2), (3, .int p3), (4, .ref p4), (5, .int v5)] [] σ (none) σ' := by
  unfold fX9_arrange_60 at h
  obtain ⟨x1, ex1, h⟩ := bnd_nm h
  refine g_iinc (j := 5) (v := x1) (lv' := [(5, .int x1), (0, .ref 124), (1, .ref p1), (2, .int p2), (3, .int p3), (4, .ref p4)]) dX9_arrange_60 rfl (by rw [ex1]; rfl) (Nat.le_of_ble_eq_true rfl) rfl ?_
  refine g_goto (t := 3) dX9_arrange_63 (by decide) ?_
  refine g_sub [1, 2, 3, 4, 5, 0] rfl ?_
  exact hk3 x1 σ h
def fX9_arrange_77 (p1 : Nat) (p2 : Int32) (p3 : Int32) (p4 : Nat) : Nat → Int32 → gS → Option (Unit × gS)
  | 0, _, _ => none
  | n + 1, v5, σ => if p3 ≤ v5 then
    some ((), σ)
  else
    gg (¬ (v5 < 0 ∨ 24 ≤ v5.toNatClampNeg)) (
    bd (fX9_hang (σ.1 125 v5.toNatClampNeg) p4 σ) fun _ σ3 =>
    bnd (v5 + 1) fun x5 =>
    fX9_arrange_77 p1 p2 p3 p4 n x5 σ3)
set_option maxHeartbeats 4000000 in
set_option maxRecDepth 100000 in
theorem pX9_arrange_77 {E : gE} {p1 : Nat} {p2 : Int32} {p3 : Int32} {p4 : Nat} {r : Unit} {σ' : gS} (hp1 : gLk p1) (hp4 : gPl p4) : ∀ (n : Nat) (v5 : Int32) (σ : gS), fX9_arrange_77 p1 p2 p3 p4 n v5 σ = some (r, σ') → gG E mX9_arrange 77 [(0, .ref 124), (3, .int p3), (4, .ref p4), (5, .int v5)] [] σ (none) σ' := by
  intro n
  induction n with
  | zero => intro v5 σ h; exact absurd (show none = some (r, σ') from h) (by intro q; cases q)
  | succ n ih =>
  intro v5 σ h
  unfold fX9_arrange_77 at h
  refine g_iload dX9_arrange_77 3 rfl ?_
  refine g_iload_n dX9_arrange_79 rfl 1 rfl ?_
  refine g_icmp_ge (t := 102) dX9_arrange_80 (by decide) (fun c1 => ?_) (fun c1 => ?_)
  · replace h := if_t h c1
    obtain ⟨rfl, rfl⟩ := so_inj h
    exact g_vret dX9_arrange_102 rfl
  · replace h := if_f h c1
    refine g_aload_n dX9_arrange_83 rfl 0 rfl ?_
    refine g_aload_n dX9_arrange_84 rfl 0 rfl ?_
    refine g_getC (n := 125) dX9_arrange_85 gi_124 rfl fl_RX9_9 ?_
    refine g_iload dX9_arrange_88 3 rfl ?_
    obtain ⟨g2, h⟩ := gg_some h
    refine g_iald dX9_arrange_90 gi_125 g2 ?_
    refine g_aload dX9_arrange_91 2 rfl ?_
    obtain ⟨_, σ3, y4, h⟩ := bd_some h
    refine g_callVv (as := [.int (σ.1 125 v5.toNatClampNeg), .ref p4]) (st := []) (zX9_hang hp4 y4) dX9_arrange_93 gi_124 rfl okX9_arrange_93 (Nat.le_of_ble_eq_true rfl) ?_
    obtain ⟨x5, ex5, h⟩ := bnd_nm h
    refine g_iinc (j := 3) (v := x5) (lv' := [(5, .int x5), (0, .ref 124), (3, .int p3), (4, .ref p4)]) dX9_arrange_96 rfl (by rw [ex5]; rfl) (Nat.le_of_ble_eq_true rfl) rfl ?_
    refine g_goto (t := 77) dX9_arrange_99 (by decide) ?_
    refine g_sub [1, 2, 3, 0] rfl ?_
    exact ih x5 σ3 h
def fX9_arrange_3 (p1 : Nat) (p2 : Int32) (p3 : Int32) (p4 : Nat) : Nat → Int32 → gS → Option (Unit × gS)
  | 0, _, _ => none
  | n + 1, v5, σ => bd (fX3_size p1 0 σ) fun x1 σ2 =>
  if x1 ≤ v5 then
    bd (fX9_placeDriven p1 p2 p4 σ2) fun _ σ5 =>
    fX9_arrange_77 p1 p2 p3 p4 2000 0 σ5
  else
    gg (¬ (v5 < 0 ∨ 24 ≤ v5.toNatClampNeg)) (
    bnd (gsI σ2 (p4 + 3) v5.toNatClampNeg 1) fun σ8 =>
    bd (fX3_isGround p1 v5 σ8) fun x9 σ10 =>
    if x9 = 0 then
      fX9_arrange_60 p1 p2 p3 p4 (fun v5 σ => fX9_arrange_3 p1 p2 p3 p4 n v5 σ) v5 σ10
    else
      bd (fX3_x p1 v5 σ10) fun x13 σ14 =>
      bd (fX3_y p1 v5 σ14) fun x16 σ17 =>
      bd (fX5_set p4 v5 ((1024 * x13).toInt64) ((1024 * x16).toInt64) σ17) fun _ σ19 =>
      fX9_arrange_60 p1 p2 p3 p4 (fun v5 σ => fX9_arrange_3 p1 p2 p3 p4 n v5 σ) v5 σ19)
set_option maxHeartbeats 4000000 in
set_option maxRecDepth 100000 in
theorem pX9_arrange_3 {E : gE} {p1 : Nat} {p2 : Int32} {p3 : Int32} {p4 : Nat} {r : Unit} {σ' : gS} (hp1 : gLk p1) (hp4 : gPl p4) : ∀ (n : Nat) (v5 : Int32) (σ : gS), fX9_arrange_3 p1 p2 p3 p4 n v5 σ = some (r, σ') → gG E mX9_arrange 3 [(0, .ref 124), (1, .ref p1), (2, .int p2), (3, .int p3), (4, .ref p4), (5, .int v5)] [] σ (none) σ' := by
  intro n
  induction n with
  | zero => intro v5 σ h; exact absurd (show none = some (r, σ') from h) (by intro q; cases q)
  | succ n ih =>
  intro v5 σ h
  unfold fX9_arrange_3 at h
  refine g_iload dX9_arrange_3 5 rfl ?_
  refine g_aload_n dX9_arrange_5 rfl 1 rfl ?_
  refine g_iconst (v := 0) dX9_arrange_6 (by decide) ?_
  obtain ⟨x1, σ2, y3, h⟩ := bd_some h
  refine g_callVr (as := [.int 0]) (st := [.int v5]) (zX3_size hp1 y3) dX9_arrange_7 (gi_lk hp1) rfl okX9_arrange_39 (Nat.le_of_ble_eq_true rfl) ?_
  refine g_icmp_ge (t := 66) dX9_arrange_10 (by decide) (fun c4 => ?_) (fun c4 => ?_)
  · replace h := if_t h c4
    refine g_aload_n dX9_arrange_66 rfl 0 rfl ?_
    refine g_aload_n dX9_arrange_67 rfl 1 rfl ?_
    refine g_iload_n dX9_arrange_68 rfl 2 rfl ?_
    refine g_aload dX9_arrange_69 4 rfl ?_
    obtain ⟨_, σ5, y6, h⟩ := bd_some h
    refine g_callVv (as := [.ref p1, .int p2, .ref p4]) (st := []) (zX9_placeDriven hp1 hp4 y6) dX9_arrange_71 gi_124 rfl okX9_arrange_89 (Nat.le_of_ble_eq_true rfl) ?_
    refine g_iconst (v := 0) dX9_arrange_74 (by decide) ?_
    refine g_istore (lv' := [(5, .int 0), (0, .ref 124), (1, .ref p1), (2, .int p2), (3, .int p3), (4, .ref p4)]) dX9_arrange_75 (Nat.le_of_ble_eq_true rfl) rfl ?_
    refine g_sub [1, 4, 5, 0] rfl ?_
    exact pX9_arrange_77 hp1 hp4 2000 0 σ5 h
  · replace h := if_f h c4
    refine g_aload dX9_arrange_13 4 rfl ?_
    refine g_getC (n := (p4 + 3)) dX9_arrange_15 (gi_pl hp4) rfl fl_RX9_80 ?_
    refine g_iload dX9_arrange_18 5 rfl ?_
    refine g_iconst (v := 1) dX9_arrange_20 (by decide) ?_
    obtain ⟨g7, h⟩ := gg_some h
    obtain ⟨σ8, eσ8, h⟩ := bnd_nm h
    refine g_iast dX9_arrange_21 (gi_pl3 hp4) g7 (g_st eσ8 ?_)
    refine g_aload_n dX9_arrange_22 rfl 1 rfl ?_
    refine g_iload dX9_arrange_23 5 rfl ?_
    obtain ⟨x9, σ10, y11, h⟩ := bd_some h
    refine g_callVr (as := [.int v5]) (st := []) (zX3_isGround hp1 y11) dX9_arrange_25 (gi_lk hp1) rfl okX9_arrange_45 (Nat.le_of_ble_eq_true rfl) ?_
    refine g_if_eq (t := 60) dX9_arrange_28 (by decide) (fun c12 => ?_) (fun c12 => ?_)
    · replace h := if_t h c12
      exact pX9_arrange_60 hp1 hp4 (fun v5 σ h => ih v5 σ h) h
    · replace h := if_f h c12
      refine g_aload dX9_arrange_31 4 rfl ?_
      refine g_iload dX9_arrange_33 5 rfl ?_
      refine g_sipush (v := 1024) dX9_arrange_35 (by decide) ?_
      refine g_aload_n dX9_arrange_38 rfl 1 rfl ?_
      refine g_iload dX9_arrange_39 5 rfl ?_
      obtain ⟨x13, σ14, y15, h⟩ := bd_some h
      refine g_callVr (as := [.int v5]) (st := [.int 1024, .int v5, .ref p4]) (zX3_x hp1 y15) dX9_arrange_41 (gi_lk hp1) rfl okX9_arrange_74 (Nat.le_of_ble_eq_true rfl) ?_
      refine g_imul dX9_arrange_44 ?_
      refine g_i2l dX9_arrange_45 ?_
      refine g_sipush (v := 1024) dX9_arrange_46 (by decide) ?_
      refine g_aload_n dX9_arrange_49 rfl 1 rfl ?_
      refine g_iload dX9_arrange_50 5 rfl ?_
      obtain ⟨x16, σ17, y18, h⟩ := bd_some h
      refine g_callVr (as := [.int v5]) (st := [.int 1024, .long ((1024 * x13).toInt64), .int v5, .ref p4]) (zX3_y hp1 y18) dX9_arrange_52 (gi_lk hp1) rfl okX9_arrange_77 (Nat.le_of_ble_eq_true rfl) ?_
      refine g_imul dX9_arrange_55 ?_
      refine g_i2l dX9_arrange_56 ?_
      obtain ⟨_, σ19, y20, h⟩ := bd_some h
      refine g_callVv (as := [.int v5, .long ((1024 * x13).toInt64), .long ((1024 * x16).toInt64)]) (st := []) (zX5_set hp4 y20) dX9_arrange_57 (gi_pl hp4) rfl okX9_arrange_85 (Nat.le_of_ble_eq_true rfl) ?_
      exact pX9_arrange_60 hp1 hp4 (fun v5 σ h => ih v5 σ h) h
def fX9_arrange (p1 : Nat) (p2 : Int32) (p3 : Int32) (p4 : Nat) (σ : gS) : Option (Unit × gS) :=
  fX9_arrange_3 p1 p2 p3 p4 2000 0 σ
set_option maxHeartbeats 4000000 in
set_option maxRecDepth 100000 in
theorem pX9_arrange {E : gE} {p1 : Nat} {p2 : Int32} {p3 : Int32} {p4 : Nat} {r : Unit} {σ' : gS} {σ : gS} (hp1 : gLk p1) (hp4 : gPl p4) (h : fX9_arrange p1 p2 p3 p4 σ = some (r, σ')) : gG E mX9_arrange 0 [(0, .ref 124), (1, .ref p1), (2, .int p2), (3, .int p3), (4, .ref p4)] [] σ (none) σ' := by
  unfold fX9_arrange at h
  refine g_iconst (v := 0) dX9_arrange_0 (by decide) ?_
  refine g_istore (lv' := [(5, .int 0), (0, .ref 124), (1, .ref p1), (2, .int p2), (3, .int p3), (4, .ref p4)]) dX9_arrange_1 (Nat.le_of_ble_eq_true rfl) rfl ?_
  refine g_sub [1, 2, 3, 4, 5, 0] rfl ?_
  exact pX9_arrange_3 hp1 hp4 2000 0 σ h
theorem zX9_arrange {E : gE} {p1 : Nat} {p2 : Int32} {p3 : Int32} {p4 : Nat} {r : Unit} {σ σ' : gS} (hp1 : gLk p1) (hp4 : gPl p4) (h : fX9_arrange p1 p2 p3 p4 σ = some (r, σ')) : gC E mX9_arrange [.ref 124, .ref p1, .int p2, .int p3, .ref p4] σ (none) σ' :=
  gC_of (by decide +kernel) rfl (Nat.le_of_ble_eq_true rfl) (pX9_arrange hp1 hp4 h)
theorem fl_RX2_9 : gFl RX2 9 2 2 := ⟨RX2, TX2, 6, rfl, by decide, ux_2, Or.inl (gm 431 (by decide +kernel) rfl)⟩
theorem fl_RX2_25 : gFl RX2 25 2 5 := ⟨RX2, TX2, 6, rfl, by decide, ux_2, Or.inl (gm 435 (by decide +kernel) rfl)⟩
theorem fl_RX2_51 : gFl RX2 51 5 0 := ⟨RX5, TX5, 3, rfl, by decide, ux_5, Or.inr ⟨"LinkageCurves", by decide +kernel⟩⟩
theorem fl_RX2_15 : gFl RX2 15 2 3 := ⟨RX2, TX2, 6, rfl, by decide, ux_2, Or.inl (gm 432 (by decide +kernel) rfl)⟩
theorem fl_RX2_52 : gFl RX2 52 5 1 := ⟨RX5, TX5, 3, rfl, by decide, ux_5, Or.inr ⟨"LinkageCurves", by decide +kernel⟩⟩
theorem fl_RX2_18 : gFl RX2 18 2 4 := ⟨RX2, TX2, 6, rfl, by decide, ux_2, Or.inl (gm 433 (by decide +kernel) rfl)⟩
theorem fl_RX2_39 : gFl RX2 39 2 1 := ⟨RX2, TX2, 6, rfl, by decide, ux_2, Or.inl (gm 429 (by decide +kernel) rfl)⟩
theorem fp_RX2_39 : gFp RX2 39 2 1 .int := ⟨RX2, TX2, 6, rfl, by decide, ux_2, Or.inl (gm 429 (by decide +kernel) rfl), rfl, by decide +kernel, ⟨tyX2, tyX2_ok⟩, nmX2⟩
theorem fl_RX2_47 : gFl RX2 47 5 2 := ⟨RX5, TX5, 3, rfl, by decide, ux_5, Or.inr ⟨"LinkageCurves", by decide +kernel⟩⟩
theorem fp_RX2_35 : gFp RX2 35 2 0 .boolean := ⟨RX2, TX2, 6, rfl, by decide, ux_2, Or.inl (gm 427 (by decide +kernel) rfl), rfl, by decide +kernel, ⟨tyX2, tyX2_ok⟩, nmX2⟩
def mX2_draw : gM := (yX2_draw, cX2_draw, RX2, 6, none, 4, 98)
theorem dX2_draw_0 : decode mX2_draw.2.1 0 = .ok (.aload_n 2, 1) := by decide +kernel
theorem dX2_draw_1 : decode mX2_draw.2.1 1 = .ok (.iload_n 3, 1) := by decide +kernel
theorem dX2_draw_2 : decode mX2_draw.2.1 2 = .ok (.invokevirtual 29, 3) := by decide +kernel
theorem dX2_draw_5 : decode mX2_draw.2.1 5 = .ok (.istore 4, 2) := by decide +kernel
theorem dX2_draw_7 : decode mX2_draw.2.1 7 = .ok (.aload_n 0, 1) := by decide +kernel
theorem dX2_draw_8 : decode mX2_draw.2.1 8 = .ok (.iconst 1, 1) := by decide +kernel
theorem dX2_draw_9 : decode mX2_draw.2.1 9 = .ok (.putfield 35, 3) := by decide +kernel
theorem dX2_draw_12 : decode mX2_draw.2.1 12 = .ok (.aload_n 0, 1) := by decide +kernel
theorem dX2_draw_13 : decode mX2_draw.2.1 13 = .ok (.iconst 0, 1) := by decide +kernel
theorem dX2_draw_14 : decode mX2_draw.2.1 14 = .ok (.putfield 39, 3) := by decide +kernel
theorem dX2_draw_17 : decode mX2_draw.2.1 17 = .ok (.iconst 0, 1) := by decide +kernel
theorem dX2_draw_18 : decode mX2_draw.2.1 18 = .ok (.istore 5, 2) := by decide +kernel
theorem dX2_draw_20 : decode mX2_draw.2.1 20 = .ok (.iload 5, 2) := by decide +kernel
theorem dX2_draw_22 : decode mX2_draw.2.1 22 = .ok (.sipush 256, 3) := by decide +kernel
theorem dX2_draw_25 : decode mX2_draw.2.1 25 = .ok (.if_icmp .ge 98, 3) := by decide +kernel
theorem dX2_draw_28 : decode mX2_draw.2.1 28 = .ok (.aload_n 2, 1) := by decide +kernel
theorem dX2_draw_29 : decode mX2_draw.2.1 29 = .ok (.aload_n 1, 1) := by decide +kernel
theorem dX2_draw_30 : decode mX2_draw.2.1 30 = .ok (.iload 5, 2) := by decide +kernel
theorem dX2_draw_32 : decode mX2_draw.2.1 32 = .ok (.iload 4, 2) := by decide +kernel
theorem dX2_draw_34 : decode mX2_draw.2.1 34 = .ok (.aload_n 0, 1) := by decide +kernel
theorem dX2_draw_35 : decode mX2_draw.2.1 35 = .ok (.getfield 25, 3) := by decide +kernel
theorem dX2_draw_38 : decode mX2_draw.2.1 38 = .ok (.invokevirtual 43, 3) := by decide +kernel
theorem dX2_draw_41 : decode mX2_draw.2.1 41 = .ok (.aload_n 0, 1) := by decide +kernel
theorem dX2_draw_42 : decode mX2_draw.2.1 42 = .ok (.getfield 18, 3) := by decide +kernel
theorem dX2_draw_45 : decode mX2_draw.2.1 45 = .ok (.iload 5, 2) := by decide +kernel
theorem dX2_draw_47 : decode mX2_draw.2.1 47 = .ok (.aload_n 0, 1) := by decide +kernel
theorem dX2_draw_48 : decode mX2_draw.2.1 48 = .ok (.getfield 25, 3) := by decide +kernel
theorem dX2_draw_51 : decode mX2_draw.2.1 51 = .ok (.getfield 47, 3) := by decide +kernel
theorem dX2_draw_54 : decode mX2_draw.2.1 54 = .ok (.iload_n 3, 1) := by decide +kernel
theorem dX2_draw_55 : decode mX2_draw.2.1 55 = .ok (.iaload, 1) := by decide +kernel
theorem dX2_draw_56 : decode mX2_draw.2.1 56 = .ok (.ifCond .ne 7, 3) := by decide +kernel
theorem dX2_draw_59 : decode mX2_draw.2.1 59 = .ok (.iconst 1, 1) := by decide +kernel
theorem dX2_draw_60 : decode mX2_draw.2.1 60 = .ok (.goto 4, 3) := by decide +kernel
theorem dX2_draw_63 : decode mX2_draw.2.1 63 = .ok (.iconst 0, 1) := by decide +kernel
theorem dX2_draw_64 : decode mX2_draw.2.1 64 = .ok (.bastore, 1) := by decide +kernel
theorem dX2_draw_65 : decode mX2_draw.2.1 65 = .ok (.aload_n 0, 1) := by decide +kernel
theorem dX2_draw_66 : decode mX2_draw.2.1 66 = .ok (.getfield 9, 3) := by decide +kernel
theorem dX2_draw_69 : decode mX2_draw.2.1 69 = .ok (.iload 5, 2) := by decide +kernel
theorem dX2_draw_71 : decode mX2_draw.2.1 71 = .ok (.aload_n 0, 1) := by decide +kernel
theorem dX2_draw_72 : decode mX2_draw.2.1 72 = .ok (.getfield 25, 3) := by decide +kernel
theorem dX2_draw_75 : decode mX2_draw.2.1 75 = .ok (.getfield 51, 3) := by decide +kernel
theorem dX2_draw_78 : decode mX2_draw.2.1 78 = .ok (.iload_n 3, 1) := by decide +kernel
theorem dX2_draw_79 : decode mX2_draw.2.1 79 = .ok (.laload, 1) := by decide +kernel
theorem dX2_draw_80 : decode mX2_draw.2.1 80 = .ok (.lastore, 1) := by decide +kernel
theorem dX2_draw_81 : decode mX2_draw.2.1 81 = .ok (.aload_n 0, 1) := by decide +kernel
theorem dX2_draw_82 : decode mX2_draw.2.1 82 = .ok (.getfield 15, 3) := by decide +kernel
theorem dX2_draw_85 : decode mX2_draw.2.1 85 = .ok (.iload 5, 2) := by decide +kernel
theorem dX2_draw_87 : decode mX2_draw.2.1 87 = .ok (.aload_n 0, 1) := by decide +kernel
theorem dX2_draw_88 : decode mX2_draw.2.1 88 = .ok (.getfield 25, 3) := by decide +kernel
theorem dX2_draw_91 : decode mX2_draw.2.1 91 = .ok (.getfield 52, 3) := by decide +kernel
theorem dX2_draw_94 : decode mX2_draw.2.1 94 = .ok (.iload_n 3, 1) := by decide +kernel
theorem dX2_draw_95 : decode mX2_draw.2.1 95 = .ok (.laload, 1) := by decide +kernel
theorem dX2_draw_96 : decode mX2_draw.2.1 96 = .ok (.lastore, 1) := by decide +kernel
theorem dX2_draw_97 : decode mX2_draw.2.1 97 = .ok (.aload_n 0, 1) := by decide +kernel
theorem dX2_draw_98 : decode mX2_draw.2.1 98 = .ok (.getfield 18, 3) := by decide +kernel
theorem dX2_draw_101 : decode mX2_draw.2.1 101 = .ok (.iload 5, 2) := by decide +kernel
theorem dX2_draw_103 : decode mX2_draw.2.1 103 = .ok (.baload, 1) := by decide +kernel
theorem dX2_draw_104 : decode mX2_draw.2.1 104 = .ok (.ifCond .eq 13, 3) := by decide +kernel
theorem dX2_draw_107 : decode mX2_draw.2.1 107 = .ok (.aload_n 0, 1) := by decide +kernel
theorem dX2_draw_108 : decode mX2_draw.2.1 108 = .ok (.dup, 1) := by decide +kernel
theorem dX2_draw_109 : decode mX2_draw.2.1 109 = .ok (.getfield 39, 3) := by decide +kernel
theorem dX2_draw_112 : decode mX2_draw.2.1 112 = .ok (.iconst 1, 1) := by decide +kernel
theorem dX2_draw_113 : decode mX2_draw.2.1 113 = .ok (.iadd, 1) := by decide +kernel
theorem dX2_draw_114 : decode mX2_draw.2.1 114 = .ok (.putfield 39, 3) := by decide +kernel
theorem dX2_draw_117 : decode mX2_draw.2.1 117 = .ok (.iinc 5 1, 3) := by decide +kernel
theorem dX2_draw_120 : decode mX2_draw.2.1 120 = .ok (.goto (-100), 3) := by decide +kernel
theorem dX2_draw_123 : decode mX2_draw.2.1 123 = .ok (.return_, 1) := by decide +kernel
theorem okX2_draw_43 : gOkV mX2_draw mX9_arrange 43 4 := ⟨List.forall_mem_cons.mpr ⟨(gm 908 (by decide +kernel) rfl), List.forall_mem_cons.mpr ⟨(gm 976 (by decide +kernel) rfl), List.forall_mem_cons.mpr ⟨(gm 906 (by decide +kernel) rfl), List.forall_mem_cons.mpr ⟨(gm 907 (by decide +kernel) rfl), List.forall_mem_cons.mpr ⟨(gm 116 (by decide +kernel) rfl), fun _ h => absurd h List.not_mem_nil⟩⟩⟩⟩⟩, by decide +kernel, by decide +kernel, by decide +kernel⟩
theorem okX2_draw_29 : gOkV mX2_draw mX9_depthOf 29 1 := ⟨List.forall_mem_cons.mpr ⟨(gm 975 (by decide +kernel) rfl), List.forall_mem_cons.mpr ⟨(gm 972 (by decide +kernel) rfl), List.forall_mem_cons.mpr ⟨(gm 973 (by decide +kernel) rfl), List.forall_mem_cons.mpr ⟨(gm 974 (by decide +kernel) rfl), List.forall_mem_cons.mpr ⟨(gm 116 (by decide +kernel) rfl), fun _ h => absurd h List.not_mem_nil⟩⟩⟩⟩⟩, by decide +kernel, by decide +kernel, by decide +kernel⟩
def fX2_draw_117 (p1 : Nat) (p3 : Int32) (k20 : Int32 → Int32 → gS → Option (Unit × gS)) (v4 : Int32) (v5 : Int32) (σ : gS) : Option (Unit × gS) :=
  bnd (v5 + 1) fun x1 =>
  k20 v4 x1 σ
set_option maxHeartbeats 4000000 in
set_option maxRecDepth 100000 in
theorem pX2_draw_117 {E : gE} {p1 : Nat} {p3 : Int32} {k20 : Int32 → Int32 → gS → Option (Unit × gS)} {r : Unit} {σ' : gS} {v4 : Int32} {v5 : Int32} {σ : gS} (hp1 : gLk p1) (hk20 : ∀ (v4 : Int32) (v5 : Int32) (σ : gS), k20 v4 v5 σ = some (r, σ') → gG E mX2_draw 20 [(0, .ref 136), (1, .ref p1), (2, .ref 124), (3, .int p3), (4, .int v4), (5, .int v5)] [] σ (none) σ') (h : fX2_draw_117 p1 p3 k20 v4 v5 σ = some (r, σ')) : gG E mX2_draw 117 [(0, .ref 136), (1, .ref p1), (2, .ref 124), (3, .int p3), (4, .int v4), (5, .int v5)] [] σ (none) σ' := by
  unfold fX2_draw_117 at h
  obtain ⟨x1, ex1, h⟩ := bnd_nm h
  refine g_iinc (j := 5) (v := x1) (lv' := [(5, .int x1), (0, .ref 136), (1, .ref p1), (2, .ref 124), (3, .int p3), (4, .int v4)]) dX2_draw_117 rfl (by rw [ex1]; rfl) (Nat.le_of_ble_eq_true rfl) rfl ?_
  refine g_goto (t := 20) dX2_draw_120 (by decide) ?_
  refine g_sub [1, 2, 3, 4, 5, 0] rfl ?_
  exact hk20 v4 x1 σ h
def fX2_draw_64 (p1 : Nat) (p3 : Int32) (k20 : Int32 → Int32 → gS → Option (Unit × gS)) (v4 : Int32) (v5 : Int32) (s1 : Int32) (s2 : Int32) (σ : gS) : Option (Unit × gS) :=
  gg (¬ (s1 < 0 ∨ 256 ≤ s1.toNatClampNeg)) (
  bnd (gsI σ 139 s1.toNatClampNeg (vp_nar .boolean s2)) fun σ2 =>
  gg (¬ (p3 < 0 ∨ 24 ≤ p3.toNatClampNeg)) (
  gg (¬ (v5 < 0 ∨ 256 ≤ v5.toNatClampNeg)) (
  bnd (gsJ σ2 137 v5.toNatClampNeg (σ2.2.1 141 p3.toNatClampNeg)) fun σ5 =>
  gg (¬ (p3 < 0 ∨ 24 ≤ p3.toNatClampNeg)) (
  gg (¬ (v5 < 0 ∨ 256 ≤ v5.toNatClampNeg)) (
  bnd (gsJ σ5 138 v5.toNatClampNeg (σ5.2.1 142 p3.toNatClampNeg)) fun σ8 =>
  gg (¬ (v5 < 0 ∨ 256 ≤ v5.toNatClampNeg)) (
  if (σ8.1 139 v5.toNatClampNeg) = 0 then
    fX2_draw_117 p1 p3 k20 v4 v5 σ8
  else
    bnd (gsI σ8 136 1 ((σ8.1 136 1) + 1)) fun σ11 =>
    fX2_draw_117 p1 p3 k20 v4 v5 σ11))))))
set_option maxHeartbeats 4000000 in
set_option maxRecDepth 100000 in
theorem pX2_draw_64 {E : gE} {p1 : Nat} {p3 : Int32} {k20 : Int32 → Int32 → gS → Option (Unit × gS)} {r : Unit} {σ' : gS} {v4 : Int32} {v5 : Int32} {s1 : Int32} {s2 : Int32} {σ : gS} (hp1 : gLk p1) (hk20 : ∀ (v4 : Int32) (v5 : Int32) (σ : gS), k20 v4 v5 σ = some (r, σ') → gG E mX2_draw 20 [(0, .ref 136), (1, .ref p1), (2, .ref 124), (3, .int p3), (4, .int v4), (5, .int v5)] [] σ (none) σ') (h : fX2_draw_64 p1 p3 k20 v4 v5 s1 s2 σ = some (r, σ')) : gG E mX2_draw 64 [(0, .ref 136), (1, .ref p1), (2, .ref 124), (3, .int p3), (4, .int v4), (5, .int v5)] [.int s2, .int s1, .ref 139] σ (none) σ' := by
  unfold fX2_draw_64 at h
  obtain ⟨g1, h⟩ := gg_some h
  obtain ⟨σ2, eσ2, h⟩ := bnd_nm h
  refine g_zast dX2_draw_64 gi_139 g1 (g_st eσ2 ?_)
  refine g_aload_n dX2_draw_65 rfl 0 rfl ?_
  refine g_getC (n := 137) dX2_draw_66 gi_136 rfl fl_RX2_9 ?_
  refine g_iload dX2_draw_69 5 rfl ?_
  refine g_aload_n dX2_draw_71 rfl 0 rfl ?_
  refine g_getC (n := 140) dX2_draw_72 gi_136 rfl fl_RX2_25 ?_
  refine g_getC (n := 141) dX2_draw_75 gi_140 rfl fl_RX2_51 ?_
  refine g_iload_n dX2_draw_78 rfl 3 rfl ?_
  obtain ⟨g3, h⟩ := gg_some h
  refine g_lald dX2_draw_79 gi_141 g3 ?_
  obtain ⟨g4, h⟩ := gg_some h
  obtain ⟨σ5, eσ5, h⟩ := bnd_nm h
  refine g_last dX2_draw_80 gi_137 g4 (g_st eσ5 ?_)
  refine g_aload_n dX2_draw_81 rfl 0 rfl ?_
  refine g_getC (n := 138) dX2_draw_82 gi_136 rfl fl_RX2_15 ?_
  refine g_iload dX2_draw_85 5 rfl ?_
  refine g_aload_n dX2_draw_87 rfl 0 rfl ?_
  refine g_getC (n := 140) dX2_draw_88 gi_136 rfl fl_RX2_25 ?_
  refine g_getC (n := 142) dX2_draw_91 gi_140 rfl fl_RX2_52 ?_
  refine g_iload_n dX2_draw_94 rfl 3 rfl ?_
  obtain ⟨g6, h⟩ := gg_some h
  refine g_lald dX2_draw_95 gi_142 g6 ?_
  obtain ⟨g7, h⟩ := gg_some h
  obtain ⟨σ8, eσ8, h⟩ := bnd_nm h
  refine g_last dX2_draw_96 gi_138 g7 (g_st eσ8 ?_)
  refine g_aload_n dX2_draw_97 rfl 0 rfl ?_
  refine g_getC (n := 139) dX2_draw_98 gi_136 rfl fl_RX2_18 ?_
  refine g_iload dX2_draw_101 5 rfl ?_
  obtain ⟨g9, h⟩ := gg_some h
  refine g_zald dX2_draw_103 gi_139 g9 ?_
  refine g_if_eq (t := 117) dX2_draw_104 (by decide) (fun c10 => ?_) (fun c10 => ?_)
  · replace h := if_t h c10
    exact pX2_draw_117 hp1 hk20 h
  · replace h := if_f h c10
    refine g_aload_n dX2_draw_107 rfl 0 rfl ?_
    refine g_dup dX2_draw_108 rfl ?_
    refine g_getI dX2_draw_109 gi_136 rfl fl_RX2_39 ?_
    refine g_iconst (v := 1) dX2_draw_112 (by decide) ?_
    refine g_iadd dX2_draw_113 ?_
    obtain ⟨σ11, eσ11, h⟩ := bnd_nm h
    refine g_putI dX2_draw_114 gi_136 rfl fp_RX2_39 (g_st eσ11 ?_)
    exact pX2_draw_117 hp1 hk20 h
def fX2_draw_20 (p1 : Nat) (p3 : Int32) : Nat → Int32 → Int32 → gS → Option (Unit × gS)
  | 0, _, _, _ => none
  | n + 1, v4, v5, σ => if 256 ≤ v5 then
    some ((), σ)
  else
    bd (fX9_arrange p1 v5 v4 140 σ) fun _ σ2 =>
    gg (¬ (p3 < 0 ∨ 24 ≤ p3.toNatClampNeg)) (
    if (σ2.1 143 p3.toNatClampNeg) = 0 then
      fX2_draw_64 p1 p3 (fun v4 v5 σ => fX2_draw_20 p1 p3 n v4 v5 σ) v4 v5 v5 1 σ2
    else
      fX2_draw_64 p1 p3 (fun v4 v5 σ => fX2_draw_20 p1 p3 n v4 v5 σ) v4 v5 v5 0 σ2)
set_option maxHeartbeats 4000000 in
set_option maxRecDepth 100000 in
theorem pX2_draw_20 {E : gE} {p1 : Nat} {p3 : Int32} {r : Unit} {σ' : gS} (hp1 : gLk p1) : ∀ (n : Nat) (v4 : Int32) (v5 : Int32) (σ : gS), fX2_draw_20 p1 p3 n v4 v5 σ = some (r, σ') → gG E mX2_draw 20 [(0, .ref 136), (1, .ref p1), (2, .ref 124), (3, .int p3), (4, .int v4), (5, .int v5)] [] σ (none) σ' := by
  intro n
  induction n with
  | zero => intro v4 v5 σ h; exact absurd (show none = some (r, σ') from h) (by intro q; cases q)
  | succ n ih =>
  intro v4 v5 σ h
  unfold fX2_draw_20 at h
  refine g_iload dX2_draw_20 5 rfl ?_
  refine g_sipush (v := 256) dX2_draw_22 (by decide) ?_
  refine g_icmp_ge (t := 123) dX2_draw_25 (by decide) (fun c1 => ?_) (fun c1 => ?_)
  · replace h := if_t h c1
    obtain ⟨rfl, rfl⟩ := so_inj h
    exact g_vret dX2_draw_123 rfl
  · replace h := if_f h c1
    refine g_aload_n dX2_draw_28 rfl 2 rfl ?_
    refine g_aload_n dX2_draw_29 rfl 1 rfl ?_
    refine g_iload dX2_draw_30 5 rfl ?_
    refine g_iload dX2_draw_32 4 rfl ?_
    refine g_aload_n dX2_draw_34 rfl 0 rfl ?_
    refine g_getC (n := 140) dX2_draw_35 gi_136 rfl fl_RX2_25 ?_
    obtain ⟨_, σ2, y3, h⟩ := bd_some h
    refine g_callVv (as := [.ref p1, .int v5, .int v4, .ref 140]) (st := []) (zX9_arrange hp1 (show gPl 140 from Or.inr rfl) y3) dX2_draw_38 gi_124 rfl okX2_draw_43 (Nat.le_of_ble_eq_true rfl) ?_
    refine g_aload_n dX2_draw_41 rfl 0 rfl ?_
    refine g_getC (n := 139) dX2_draw_42 gi_136 rfl fl_RX2_18 ?_
    refine g_iload dX2_draw_45 5 rfl ?_
    refine g_aload_n dX2_draw_47 rfl 0 rfl ?_
    refine g_getC (n := 140) dX2_draw_48 gi_136 rfl fl_RX2_25 ?_
    refine g_getC (n := 143) dX2_draw_51 gi_140 rfl fl_RX2_47 ?_
    refine g_iload_n dX2_draw_54 rfl 3 rfl ?_
    obtain ⟨g4, h⟩ := gg_some h
    refine g_iald dX2_draw_55 gi_143 g4 ?_
    refine g_if_ne (t := 63) dX2_draw_56 (by decide) (fun c5 => ?_) (fun c5 => ?_)
    · replace h := if_f h c5
      refine g_iconst (v := 0) dX2_draw_63 (by decide) ?_
      exact pX2_draw_64 hp1 (fun v4 v5 σ h => ih v4 v5 σ h) h
    · replace h := if_t h c5
      refine g_iconst (v := 1) dX2_draw_59 (by decide) ?_
      refine g_goto (t := 64) dX2_draw_60 (by decide) ?_
      exact pX2_draw_64 hp1 (fun v4 v5 σ h => ih v4 v5 σ h) h
def fX2_draw (p1 : Nat) (p3 : Int32) (σ : gS) : Option (Unit × gS) :=
  bd (fX9_depthOf p3 σ) fun x1 σ2 =>
  bnd (gsI σ2 136 0 1) fun σ4 =>
  bnd (gsI σ4 136 1 0) fun σ5 =>
  fX2_draw_20 p1 p3 2000 x1 0 σ5
set_option maxHeartbeats 4000000 in
set_option maxRecDepth 100000 in
theorem pX2_draw {E : gE} {p1 : Nat} {p3 : Int32} {r : Unit} {σ' : gS} {σ : gS} (hp1 : gLk p1) (h : fX2_draw p1 p3 σ = some (r, σ')) : gG E mX2_draw 0 [(0, .ref 136), (1, .ref p1), (2, .ref 124), (3, .int p3)] [] σ (none) σ' := by
  unfold fX2_draw at h
  refine g_aload_n dX2_draw_0 rfl 2 rfl ?_
  refine g_iload_n dX2_draw_1 rfl 3 rfl ?_
  obtain ⟨x1, σ2, y3, h⟩ := bd_some h
  refine g_callVr (as := [.int p3]) (st := []) (zX9_depthOf y3) dX2_draw_2 gi_124 rfl okX2_draw_29 (Nat.le_of_ble_eq_true rfl) ?_
  refine g_istore (lv' := [(4, .int x1), (0, .ref 136), (1, .ref p1), (2, .ref 124), (3, .int p3)]) dX2_draw_5 (Nat.le_of_ble_eq_true rfl) rfl ?_
  refine g_aload_n dX2_draw_7 rfl 1 rfl ?_
  refine g_iconst (v := 1) dX2_draw_8 (by decide) ?_
  obtain ⟨σ4, eσ4, h⟩ := bnd_nm h
  refine g_putZ dX2_draw_9 gi_136 rfl fp_RX2_35 (Or.inr rfl) (g_st eσ4 ?_)
  refine g_aload_n dX2_draw_12 rfl 1 rfl ?_
  refine g_iconst (v := 0) dX2_draw_13 (by decide) ?_
  obtain ⟨σ5, eσ5, h⟩ := bnd_nm h
  refine g_putI dX2_draw_14 gi_136 rfl fp_RX2_39 (g_st eσ5 ?_)
  refine g_iconst (v := 0) dX2_draw_17 (by decide) ?_
  refine g_istore (lv' := [(5, .int 0), (4, .int x1), (0, .ref 136), (1, .ref p1), (2, .ref 124), (3, .int p3)]) dX2_draw_18 (Nat.le_of_ble_eq_true rfl) rfl ?_
  refine g_sub [2, 3, 4, 5, 1, 0] rfl ?_
  exact pX2_draw_20 hp1 2000 x1 0 σ5 h
theorem zX2_draw {E : gE} {p1 : Nat} {p3 : Int32} {r : Unit} {σ σ' : gS} (hp1 : gLk p1) (h : fX2_draw p1 p3 σ = some (r, σ')) : gC E mX2_draw [.ref 136, .ref p1, .ref 124, .int p3] σ (none) σ' :=
  gC_of (by decide +kernel) rfl (Nat.le_of_ble_eq_true rfl) (pX2_draw hp1 h)
def mX2_valuesOf : gM := (yX2_valuesOf, cX2_valuesOf, RX2, 2, (some (.array .long)), 0, 0)
theorem dX2_valuesOf_0 : decode mX2_valuesOf.2.1 0 = .ok (.iload_n 1, 1) := by decide +kernel
theorem dX2_valuesOf_1 : decode mX2_valuesOf.2.1 1 = .ok (.ifCond .ne 10, 3) := by decide +kernel
theorem dX2_valuesOf_4 : decode mX2_valuesOf.2.1 4 = .ok (.aload_n 0, 1) := by decide +kernel
theorem dX2_valuesOf_5 : decode mX2_valuesOf.2.1 5 = .ok (.getfield 9, 3) := by decide +kernel
theorem dX2_valuesOf_8 : decode mX2_valuesOf.2.1 8 = .ok (.goto 7, 3) := by decide +kernel
theorem dX2_valuesOf_11 : decode mX2_valuesOf.2.1 11 = .ok (.aload_n 0, 1) := by decide +kernel
theorem dX2_valuesOf_12 : decode mX2_valuesOf.2.1 12 = .ok (.getfield 15, 3) := by decide +kernel
theorem dX2_valuesOf_15 : decode mX2_valuesOf.2.1 15 = .ok (.areturn, 1) := by decide +kernel
def fX2_valuesOf_15 (p1 : Int32) (s0 : Nat) (σ : gS) : Option (Nat × gS) :=
  some (s0, σ)
set_option maxHeartbeats 4000000 in
set_option maxRecDepth 100000 in
theorem pX2_valuesOf_15 {E : gE} {p1 : Int32} {r : Nat} {σ' : gS} {s0 : Nat} {σ : gS} (h : fX2_valuesOf_15 p1 s0 σ = some (r, σ')) : gG E mX2_valuesOf 15 [] [.ref s0] σ (some (.ref r)) σ' := by
  unfold fX2_valuesOf_15 at h
  obtain ⟨rfl, rfl⟩ := so_inj h
  exact g_aret dX2_valuesOf_15 rfl (Or.inr ⟨_, rfl⟩)
def fX2_valuesOf (p1 : Int32) (σ : gS) : Option (Nat × gS) :=
  if p1 = 0 then
    fX2_valuesOf_15 p1 137 σ
  else
    fX2_valuesOf_15 p1 138 σ
set_option maxHeartbeats 4000000 in
set_option maxRecDepth 100000 in
theorem pX2_valuesOf {E : gE} {p1 : Int32} {r : Nat} {σ' : gS} {σ : gS} (h : fX2_valuesOf p1 σ = some (r, σ')) : gG E mX2_valuesOf 0 [(0, .ref 136), (1, .int p1)] [] σ (some (.ref r)) σ' := by
  unfold fX2_valuesOf at h
  refine g_iload_n dX2_valuesOf_0 rfl 1 rfl ?_
  refine g_if_ne (t := 11) dX2_valuesOf_1 (by decide) (fun c1 => ?_) (fun c1 => ?_)
  · replace h := if_f h c1
    refine g_aload_n dX2_valuesOf_11 rfl 0 rfl ?_
    refine g_getC (n := 138) dX2_valuesOf_12 gi_136 rfl fl_RX2_15 ?_
    refine g_sub [] rfl ?_
    exact pX2_valuesOf_15 h
  · replace h := if_t h c1
    refine g_aload_n dX2_valuesOf_4 rfl 0 rfl ?_
    refine g_getC (n := 137) dX2_valuesOf_5 gi_136 rfl fl_RX2_9 ?_
    refine g_goto (t := 15) dX2_valuesOf_8 (by decide) ?_
    refine g_sub [] rfl ?_
    exact pX2_valuesOf_15 h
theorem zX2_valuesOf {E : gE} {p1 : Int32} {r : Nat} {σ σ' : gS} (h : fX2_valuesOf p1 σ = some (r, σ')) : gC E mX2_valuesOf [.ref 136, .int p1] σ (some (.ref r)) σ' :=
  gC_of (by decide +kernel) rfl (Nat.le_of_ble_eq_true rfl) (pX2_valuesOf h)
def mX2_beginnings : gM := (yX2_beginnings, cX2_beginnings, RX2, 4, (some .int), 0, 0)
theorem dX2_beginnings_0 : decode mX2_beginnings.2.1 0 = .ok (.iconst 0, 1) := by decide +kernel
theorem dX2_beginnings_1 : decode mX2_beginnings.2.1 1 = .ok (.istore_n 1, 1) := by decide +kernel
theorem dX2_beginnings_2 : decode mX2_beginnings.2.1 2 = .ok (.aload_n 0, 1) := by decide +kernel
theorem dX2_beginnings_3 : decode mX2_beginnings.2.1 3 = .ok (.getfield 18, 3) := by decide +kernel
theorem dX2_beginnings_6 : decode mX2_beginnings.2.1 6 = .ok (.sipush 255, 3) := by decide +kernel
theorem dX2_beginnings_9 : decode mX2_beginnings.2.1 9 = .ok (.baload, 1) := by decide +kernel
theorem dX2_beginnings_10 : decode mX2_beginnings.2.1 10 = .ok (.istore_n 2, 1) := by decide +kernel
theorem dX2_beginnings_11 : decode mX2_beginnings.2.1 11 = .ok (.iconst 0, 1) := by decide +kernel
theorem dX2_beginnings_12 : decode mX2_beginnings.2.1 12 = .ok (.istore_n 3, 1) := by decide +kernel
theorem dX2_beginnings_13 : decode mX2_beginnings.2.1 13 = .ok (.iload_n 3, 1) := by decide +kernel
theorem dX2_beginnings_14 : decode mX2_beginnings.2.1 14 = .ok (.sipush 256, 3) := by decide +kernel
theorem dX2_beginnings_17 : decode mX2_beginnings.2.1 17 = .ok (.if_icmp .ge 32, 3) := by decide +kernel
theorem dX2_beginnings_20 : decode mX2_beginnings.2.1 20 = .ok (.aload_n 0, 1) := by decide +kernel
theorem dX2_beginnings_21 : decode mX2_beginnings.2.1 21 = .ok (.getfield 18, 3) := by decide +kernel
theorem dX2_beginnings_24 : decode mX2_beginnings.2.1 24 = .ok (.iload_n 3, 1) := by decide +kernel
theorem dX2_beginnings_25 : decode mX2_beginnings.2.1 25 = .ok (.baload, 1) := by decide +kernel
theorem dX2_beginnings_26 : decode mX2_beginnings.2.1 26 = .ok (.ifCond .eq 10, 3) := by decide +kernel
theorem dX2_beginnings_29 : decode mX2_beginnings.2.1 29 = .ok (.iload_n 2, 1) := by decide +kernel
theorem dX2_beginnings_30 : decode mX2_beginnings.2.1 30 = .ok (.ifCond .ne 6, 3) := by decide +kernel
theorem dX2_beginnings_33 : decode mX2_beginnings.2.1 33 = .ok (.iinc 1 1, 3) := by decide +kernel
theorem dX2_beginnings_36 : decode mX2_beginnings.2.1 36 = .ok (.aload_n 0, 1) := by decide +kernel
theorem dX2_beginnings_37 : decode mX2_beginnings.2.1 37 = .ok (.getfield 18, 3) := by decide +kernel
theorem dX2_beginnings_40 : decode mX2_beginnings.2.1 40 = .ok (.iload_n 3, 1) := by decide +kernel
theorem dX2_beginnings_41 : decode mX2_beginnings.2.1 41 = .ok (.baload, 1) := by decide +kernel
theorem dX2_beginnings_42 : decode mX2_beginnings.2.1 42 = .ok (.istore_n 2, 1) := by decide +kernel
theorem dX2_beginnings_43 : decode mX2_beginnings.2.1 43 = .ok (.iinc 3 1, 3) := by decide +kernel
theorem dX2_beginnings_46 : decode mX2_beginnings.2.1 46 = .ok (.goto (-33), 3) := by decide +kernel
theorem dX2_beginnings_49 : decode mX2_beginnings.2.1 49 = .ok (.iload_n 1, 1) := by decide +kernel
theorem dX2_beginnings_50 : decode mX2_beginnings.2.1 50 = .ok (.ireturn, 1) := by decide +kernel
def fX2_beginnings_36 (k13 : Int32 → Int32 → Int32 → gS → Option (Int32 × gS)) (v1 : Int32) (v3 : Int32) (σ : gS) : Option (Int32 × gS) :=
  gg (¬ (v3 < 0 ∨ 256 ≤ v3.toNatClampNeg)) (
  bnd (v3 + 1) fun x2 =>
  k13 v1 (σ.1 139 v3.toNatClampNeg) x2 σ)
set_option maxHeartbeats 4000000 in
set_option maxRecDepth 100000 in
theorem pX2_beginnings_36 {E : gE} {k13 : Int32 → Int32 → Int32 → gS → Option (Int32 × gS)} {r : Int32} {σ' : gS} {v1 : Int32} {v3 : Int32} {σ : gS} (hk13 : ∀ (v1 : Int32) (v2 : Int32) (v3 : Int32) (σ : gS), k13 v1 v2 v3 σ = some (r, σ') → gG E mX2_beginnings 13 [(0, .ref 136), (1, .int v1), (2, .int v2), (3, .int v3)] [] σ (some (.int r)) σ') (h : fX2_beginnings_36 k13 v1 v3 σ = some (r, σ')) : gG E mX2_beginnings 36 [(0, .ref 136), (1, .int v1), (3, .int v3)] [] σ (some (.int r)) σ' := by
  unfold fX2_beginnings_36 at h
  refine g_aload_n dX2_beginnings_36 rfl 0 rfl ?_
  refine g_getC (n := 139) dX2_beginnings_37 gi_136 rfl fl_RX2_18 ?_
  refine g_iload_n dX2_beginnings_40 rfl 2 rfl ?_
  obtain ⟨g1, h⟩ := gg_some h
  refine g_zald dX2_beginnings_41 gi_139 g1 ?_
  refine g_istore_n (lv' := [(2, .int (σ.1 139 v3.toNatClampNeg)), (0, .ref 136), (1, .int v1), (3, .int v3)]) dX2_beginnings_42 rfl (Nat.le_of_ble_eq_true rfl) rfl ?_
  obtain ⟨x2, ex2, h⟩ := bnd_nm h
  refine g_iinc (j := 3) (v := x2) (lv' := [(3, .int x2), (2, .int (σ.1 139 v3.toNatClampNeg)), (0, .ref 136), (1, .int v1)]) dX2_beginnings_43 rfl (by rw [ex2]; rfl) (Nat.le_of_ble_eq_true rfl) rfl ?_
  refine g_goto (t := 13) dX2_beginnings_46 (by decide) ?_
  refine g_sub [2, 3, 1, 0] rfl ?_
  exact hk13 v1 (σ.1 139 v3.toNatClampNeg) x2 σ h
def fX2_beginnings_13 : Nat → Int32 → Int32 → Int32 → gS → Option (Int32 × gS)
  | 0, _, _, _, _ => none
  | n + 1, v1, v2, v3, σ => if 256 ≤ v3 then
    some (v1, σ)
  else
    gg (¬ (v3 < 0 ∨ 256 ≤ v3.toNatClampNeg)) (
    if (σ.1 139 v3.toNatClampNeg) = 0 then
      fX2_beginnings_36 (fun v1 v2 v3 σ => fX2_beginnings_13 n v1 v2 v3 σ) v1 v3 σ
    else
      if v2 = 0 then
        bnd (v1 + 1) fun x5 =>
        fX2_beginnings_36 (fun v1 v2 v3 σ => fX2_beginnings_13 n v1 v2 v3 σ) x5 v3 σ
      else
        fX2_beginnings_36 (fun v1 v2 v3 σ => fX2_beginnings_13 n v1 v2 v3 σ) v1 v3 σ)
set_option maxHeartbeats 4000000 in
set_option maxRecDepth 100000 in
theorem pX2_beginnings_13 {E : gE} {r : Int32} {σ' : gS} : ∀ (n : Nat) (v1 : Int32) (v2 : Int32) (v3 : Int32) (σ : gS), fX2_beginnings_13 n v1 v2 v3 σ = some (r, σ') → gG E mX2_beginnings 13 [(0, .ref 136), (1, .int v1), (2, .int v2), (3, .int v3)] [] σ (some (.int r)) σ' := by
  intro n
  induction n with
  | zero => intro v1 v2 v3 σ h; exact absurd (show none = some (r, σ') from h) (by intro q; cases q)
  | succ n ih =>
  intro v1 v2 v3 σ h
  unfold fX2_beginnings_13 at h
  refine g_iload_n dX2_beginnings_13 rfl 3 rfl ?_
  refine g_sipush (v := 256) dX2_beginnings_14 (by decide) ?_
  refine g_icmp_ge (t := 49) dX2_beginnings_17 (by decide) (fun c1 => ?_) (fun c1 => ?_)
  · replace h := if_t h c1
    refine g_iload_n dX2_beginnings_49 rfl 1 rfl ?_
    obtain ⟨rfl, rfl⟩ := so_inj h
    exact g_iret dX2_beginnings_50 rfl
  · replace h := if_f h c1
    refine g_aload_n dX2_beginnings_20 rfl 0 rfl ?_
    refine g_getC (n := 139) dX2_beginnings_21 gi_136 rfl fl_RX2_18 ?_
    refine g_iload_n dX2_beginnings_24 rfl 3 rfl ?_
    obtain ⟨g2, h⟩ := gg_some h
    refine g_zald dX2_beginnings_25 gi_139 g2 ?_
    refine g_if_eq (t := 36) dX2_beginnings_26 (by decide) (fun c3 => ?_) (fun c3 => ?_)
    · replace h := if_t h c3
      refine g_sub [0, 1, 3] rfl ?_
      exact pX2_beginnings_36 (fun v1 v2 v3 σ h => ih v1 v2 v3 σ h) h
    · replace h := if_f h c3
      refine g_iload_n dX2_beginnings_29 rfl 2 rfl ?_
      refine g_if_ne (t := 36) dX2_beginnings_30 (by decide) (fun c4 => ?_) (fun c4 => ?_)
      · replace h := if_f h c4
        refine g_sub [0, 1, 3] rfl ?_
        exact pX2_beginnings_36 (fun v1 v2 v3 σ h => ih v1 v2 v3 σ h) h
      · replace h := if_t h c4
        obtain ⟨x5, ex5, h⟩ := bnd_nm h
        refine g_iinc (j := 1) (v := x5) (lv' := [(1, .int x5), (0, .ref 136), (2, .int v2), (3, .int v3)]) dX2_beginnings_33 rfl (by rw [ex5]; rfl) (Nat.le_of_ble_eq_true rfl) rfl ?_
        refine g_sub [1, 0, 3] rfl ?_
        exact pX2_beginnings_36 (fun v1 v2 v3 σ h => ih v1 v2 v3 σ h) h
def fX2_beginnings (σ : gS) : Option (Int32 × gS) :=
  fX2_beginnings_13 2000 0 (σ.1 139 ((255 : Int32).toNatClampNeg)) 0 σ
set_option maxHeartbeats 4000000 in
set_option maxRecDepth 100000 in
theorem pX2_beginnings {E : gE} {r : Int32} {σ' : gS} {σ : gS} (h : fX2_beginnings σ = some (r, σ')) : gG E mX2_beginnings 0 [(0, .ref 136)] [] σ (some (.int r)) σ' := by
  unfold fX2_beginnings at h
  refine g_iconst (v := 0) dX2_beginnings_0 (by decide) ?_
  refine g_istore_n (lv' := [(1, .int 0), (0, .ref 136)]) dX2_beginnings_1 rfl (Nat.le_of_ble_eq_true rfl) rfl ?_
  refine g_aload_n dX2_beginnings_2 rfl 1 rfl ?_
  refine g_getC (n := 139) dX2_beginnings_3 gi_136 rfl fl_RX2_18 ?_
  refine g_sipush (v := 255) dX2_beginnings_6 (by decide) ?_
  refine g_zald dX2_beginnings_9 gi_139 (by unfold vp_in; decide) ?_
  refine g_istore_n (lv' := [(2, .int (σ.1 139 ((255 : Int32).toNatClampNeg))), (1, .int 0), (0, .ref 136)]) dX2_beginnings_10 rfl (Nat.le_of_ble_eq_true rfl) rfl ?_
  refine g_iconst (v := 0) dX2_beginnings_11 (by decide) ?_
  refine g_istore_n (lv' := [(3, .int 0), (2, .int (σ.1 139 ((255 : Int32).toNatClampNeg))), (1, .int 0), (0, .ref 136)]) dX2_beginnings_12 rfl (Nat.le_of_ble_eq_true rfl) rfl ?_
  refine g_sub [3, 2, 1, 0] rfl ?_
  exact pX2_beginnings_13 2000 0 (σ.1 139 ((255 : Int32).toNatClampNeg)) 0 σ h
theorem zX2_beginnings {E : gE} {r : Int32} {σ σ' : gS} (h : fX2_beginnings σ = some (r, σ')) : gC E mX2_beginnings [.ref 136] σ (some (.int r)) σ' :=
  gC_of (by decide +kernel) rfl (Nat.le_of_ble_eq_true rfl) (pX2_beginnings h)
theorem wc_RX2_57 : Cond.constant RX2 57 (-1000000) ∈ gWS := (gm 998 (by decide +kernel) rfl)
def mX2_firstFarthest : gM := (yX2_firstFarthest, cX2_firstFarthest, RX2, 6, (some .int), 1, 21)
theorem dX2_firstFarthest_0 : decode mX2_firstFarthest.2.1 0 = .ok (.aload_n 0, 1) := by decide +kernel
theorem dX2_firstFarthest_1 : decode mX2_firstFarthest.2.1 1 = .ok (.iload_n 1, 1) := by decide +kernel
theorem dX2_firstFarthest_2 : decode mX2_firstFarthest.2.1 2 = .ok (.invokevirtual 53, 3) := by decide +kernel
theorem dX2_firstFarthest_5 : decode mX2_firstFarthest.2.1 5 = .ok (.astore_n 3, 1) := by decide +kernel
theorem dX2_firstFarthest_6 : decode mX2_firstFarthest.2.1 6 = .ok (.ldc 57, 2) := by decide +kernel
theorem dX2_firstFarthest_8 : decode mX2_firstFarthest.2.1 8 = .ok (.istore 4, 2) := by decide +kernel
theorem dX2_firstFarthest_10 : decode mX2_firstFarthest.2.1 10 = .ok (.iconst 0, 1) := by decide +kernel
theorem dX2_firstFarthest_11 : decode mX2_firstFarthest.2.1 11 = .ok (.istore 5, 2) := by decide +kernel
theorem dX2_firstFarthest_13 : decode mX2_firstFarthest.2.1 13 = .ok (.iload 5, 2) := by decide +kernel
theorem dX2_firstFarthest_15 : decode mX2_firstFarthest.2.1 15 = .ok (.sipush 256, 3) := by decide +kernel
theorem dX2_firstFarthest_18 : decode mX2_firstFarthest.2.1 18 = .ok (.if_icmp .ge 48, 3) := by decide +kernel
theorem dX2_firstFarthest_21 : decode mX2_firstFarthest.2.1 21 = .ok (.aload_n 0, 1) := by decide +kernel
theorem dX2_firstFarthest_22 : decode mX2_firstFarthest.2.1 22 = .ok (.getfield 18, 3) := by decide +kernel
theorem dX2_firstFarthest_25 : decode mX2_firstFarthest.2.1 25 = .ok (.iload 5, 2) := by decide +kernel
theorem dX2_firstFarthest_27 : decode mX2_firstFarthest.2.1 27 = .ok (.baload, 1) := by decide +kernel
theorem dX2_firstFarthest_28 : decode mX2_firstFarthest.2.1 28 = .ok (.ifCond .eq 32, 3) := by decide +kernel
theorem dX2_firstFarthest_31 : decode mX2_firstFarthest.2.1 31 = .ok (.iload 4, 2) := by decide +kernel
theorem dX2_firstFarthest_33 : decode mX2_firstFarthest.2.1 33 = .ok (.ldc 57, 2) := by decide +kernel
theorem dX2_firstFarthest_35 : decode mX2_firstFarthest.2.1 35 = .ok (.if_icmp .eq 21, 3) := by decide +kernel
theorem dX2_firstFarthest_38 : decode mX2_firstFarthest.2.1 38 = .ok (.iload_n 2, 1) := by decide +kernel
theorem dX2_firstFarthest_39 : decode mX2_firstFarthest.2.1 39 = .ok (.i2l, 1) := by decide +kernel
theorem dX2_firstFarthest_40 : decode mX2_firstFarthest.2.1 40 = .ok (.aload_n 3, 1) := by decide +kernel
theorem dX2_firstFarthest_41 : decode mX2_firstFarthest.2.1 41 = .ok (.iload 5, 2) := by decide +kernel
theorem dX2_firstFarthest_43 : decode mX2_firstFarthest.2.1 43 = .ok (.laload, 1) := by decide +kernel
theorem dX2_firstFarthest_44 : decode mX2_firstFarthest.2.1 44 = .ok (.lmul, 1) := by decide +kernel
theorem dX2_firstFarthest_45 : decode mX2_firstFarthest.2.1 45 = .ok (.iload_n 2, 1) := by decide +kernel
theorem dX2_firstFarthest_46 : decode mX2_firstFarthest.2.1 46 = .ok (.i2l, 1) := by decide +kernel
theorem dX2_firstFarthest_47 : decode mX2_firstFarthest.2.1 47 = .ok (.aload_n 3, 1) := by decide +kernel
theorem dX2_firstFarthest_48 : decode mX2_firstFarthest.2.1 48 = .ok (.iload 4, 2) := by decide +kernel
theorem dX2_firstFarthest_50 : decode mX2_firstFarthest.2.1 50 = .ok (.laload, 1) := by decide +kernel
theorem dX2_firstFarthest_51 : decode mX2_firstFarthest.2.1 51 = .ok (.lmul, 1) := by decide +kernel
theorem dX2_firstFarthest_52 : decode mX2_firstFarthest.2.1 52 = .ok (.lcmp, 1) := by decide +kernel
theorem dX2_firstFarthest_53 : decode mX2_firstFarthest.2.1 53 = .ok (.ifCond .le 7, 3) := by decide +kernel
theorem dX2_firstFarthest_56 : decode mX2_firstFarthest.2.1 56 = .ok (.iload 5, 2) := by decide +kernel
theorem dX2_firstFarthest_58 : decode mX2_firstFarthest.2.1 58 = .ok (.istore 4, 2) := by decide +kernel
theorem dX2_firstFarthest_60 : decode mX2_firstFarthest.2.1 60 = .ok (.iinc 5 1, 3) := by decide +kernel
theorem dX2_firstFarthest_63 : decode mX2_firstFarthest.2.1 63 = .ok (.goto (-50), 3) := by decide +kernel
theorem dX2_firstFarthest_66 : decode mX2_firstFarthest.2.1 66 = .ok (.iload 4, 2) := by decide +kernel
theorem dX2_firstFarthest_68 : decode mX2_firstFarthest.2.1 68 = .ok (.ireturn, 1) := by decide +kernel
theorem okX2_firstFarthest_53 : gOkV mX2_firstFarthest mX2_valuesOf 53 1 := ⟨List.forall_mem_cons.mpr ⟨(gm 984 (by decide +kernel) rfl), List.forall_mem_cons.mpr ⟨(gm 997 (by decide +kernel) rfl), List.forall_mem_cons.mpr ⟨(gm 982 (by decide +kernel) rfl), List.forall_mem_cons.mpr ⟨(gm 983 (by decide +kernel) rfl), List.forall_mem_cons.mpr ⟨(gm 118 (by decide +kernel) rfl), fun _ h => absurd h List.not_mem_nil⟩⟩⟩⟩⟩, by decide +kernel, by decide +kernel, by decide +kernel⟩
def fX2_firstFarthest_60 (p1 : Int32) (p2 : Int32) (k13 : Nat → Int32 → Int32 → gS → Option (Int32 × gS)) (v3 : Nat) (v4 : Int32) (v5 : Int32) (σ : gS) : Option (Int32 × gS) :=
  bnd (v5 + 1) fun x1 =>
  k13 v3 v4 x1 σ
set_option maxHeartbeats 4000000 in
set_option maxRecDepth 100000 in
theorem pX2_firstFarthest_60 {E : gE} {p1 : Int32} {p2 : Int32} {k13 : Nat → Int32 → Int32 → gS → Option (Int32 × gS)} {r : Int32} {σ' : gS} {v3 : Nat} {v4 : Int32} {v5 : Int32} {σ : gS} (hk13 : ∀ (v3 : Nat) (v4 : Int32) (v5 : Int32) (σ : gS), k13 v3 v4 v5 σ = some (r, σ') → gG E mX2_firstFarthest 13 [(0, .ref 136), (2, .int p2), (3, .ref v3), (4, .int v4), (5, .int v5)] [] σ (some (.int r)) σ') (h : fX2_firstFarthest_60 p1 p2 k13 v3 v4 v5 σ = some (r, σ')) : gG E mX2_firstFarthest 60 [(0, .ref 136), (2, .int p2), (3, .ref v3), (4, .int v4), (5, .int v5)] [] σ (some (.int r)) σ' := by
  unfold fX2_firstFarthest_60 at h
  obtain ⟨x1, ex1, h⟩ := bnd_nm h
  refine g_iinc (j := 4) (v := x1) (lv' := [(5, .int x1), (0, .ref 136), (2, .int p2), (3, .ref v3), (4, .int v4)]) dX2_firstFarthest_60 rfl (by rw [ex1]; rfl) (Nat.le_of_ble_eq_true rfl) rfl ?_
  refine g_goto (t := 13) dX2_firstFarthest_63 (by decide) ?_
  refine g_sub [1, 2, 3, 4, 0] rfl ?_
  exact hk13 v3 v4 x1 σ h
def fX2_firstFarthest_56 (p1 : Int32) (p2 : Int32) (k13 : Nat → Int32 → Int32 → gS → Option (Int32 × gS)) (v3 : Nat) (v5 : Int32) (σ : gS) : Option (Int32 × gS) :=
  fX2_firstFarthest_60 p1 p2 k13 v3 v5 v5 σ
set_option maxHeartbeats 4000000 in
set_option maxRecDepth 100000 in
theorem pX2_firstFarthest_56 {E : gE} {p1 : Int32} {p2 : Int32} {k13 : Nat → Int32 → Int32 → gS → Option (Int32 × gS)} {r : Int32} {σ' : gS} {v3 : Nat} {v5 : Int32} {σ : gS} (hk13 : ∀ (v3 : Nat) (v4 : Int32) (v5 : Int32) (σ : gS), k13 v3 v4 v5 σ = some (r, σ') → gG E mX2_firstFarthest 13 [(0, .ref 136), (2, .int p2), (3, .ref v3), (4, .int v4), (5, .int v5)] [] σ (some (.int r)) σ') (h : fX2_firstFarthest_56 p1 p2 k13 v3 v5 σ = some (r, σ')) : gG E mX2_firstFarthest 56 [(0, .ref 136), (2, .int p2), (3, .ref v3), (5, .int v5)] [] σ (some (.int r)) σ' := by
  unfold fX2_firstFarthest_56 at h
  refine g_iload dX2_firstFarthest_56 3 rfl ?_
  refine g_istore (lv' := [(4, .int v5), (0, .ref 136), (2, .int p2), (3, .ref v3), (5, .int v5)]) dX2_firstFarthest_58 (Nat.le_of_ble_eq_true rfl) rfl ?_
  refine g_sub [1, 2, 3, 0, 4] rfl ?_
  exact pX2_firstFarthest_60 hk13 h
def fX2_firstFarthest_13 (p1 : Int32) (p2 : Int32) : Nat → Nat → Int32 → Int32 → gS → Option (Int32 × gS)
  | 0, _, _, _, _ => none
  | n + 1, v3, v4, v5, σ => if 256 ≤ v5 then
    some (v4, σ)
  else
    gg (¬ (v5 < 0 ∨ 256 ≤ v5.toNatClampNeg)) (
    if (σ.1 139 v5.toNatClampNeg) = 0 then
      fX2_firstFarthest_60 p1 p2 (fun v3 v4 v5 σ => fX2_firstFarthest_13 p1 p2 n v3 v4 v5 σ) v3 v4 v5 σ
    else
      if v4 = (-1000000) then
        fX2_firstFarthest_56 p1 p2 (fun v3 v4 v5 σ => fX2_firstFarthest_13 p1 p2 n v3 v4 v5 σ) v3 v5 σ
      else
        gg (v3 = 137 ∨ v3 = 138) (
        gg (¬ (v5 < 0 ∨ 256 ≤ v5.toNatClampNeg)) (
        gg (v3 = 137 ∨ v3 = 138) (
        gg (¬ (v4 < 0 ∨ 256 ≤ v4.toNatClampNeg)) (
        if (lg_cmp (p2.toInt64 * (σ.2.1 v3 v5.toNatClampNeg)) (p2.toInt64 * (σ.2.1 v3 v4.toNatClampNeg))) ≤ 0 then
          fX2_firstFarthest_60 p1 p2 (fun v3 v4 v5 σ => fX2_firstFarthest_13 p1 p2 n v3 v4 v5 σ) v3 v4 v5 σ
        else
          fX2_firstFarthest_56 p1 p2 (fun v3 v4 v5 σ => fX2_firstFarthest_13 p1 p2 n v3 v4 v5 σ) v3 v5 σ)))))
set_option maxHeartbeats 4000000 in
set_option maxRecDepth 100000 in
theorem pX2_firstFarthest_13 {E : gE} {p1 : Int32} {p2 : Int32} {r : Int32} {σ' : gS} : ∀ (n : Nat) (v3 : Nat) (v4 : Int32) (v5 : Int32) (σ : gS), fX2_firstFarthest_13 p1 p2 n v3 v4 v5 σ = some (r, σ') → gG E mX2_firstFarthest 13 [(0, .ref 136), (2, .int p2), (3, .ref v3), (4, .int v4), (5, .int v5)] [] σ (some (.int r)) σ' := by
  intro n
  induction n with
  | zero => intro v3 v4 v5 σ h; exact absurd (show none = some (r, σ') from h) (by intro q; cases q)
  | succ n ih =>
  intro v3 v4 v5 σ h
  unfold fX2_firstFarthest_13 at h
  refine g_iload dX2_firstFarthest_13 4 rfl ?_
  refine g_sipush (v := 256) dX2_firstFarthest_15 (by decide) ?_
  refine g_icmp_ge (t := 66) dX2_firstFarthest_18 (by decide) (fun c1 => ?_) (fun c1 => ?_)
  · replace h := if_t h c1
    refine g_iload dX2_firstFarthest_66 3 rfl ?_
    obtain ⟨rfl, rfl⟩ := so_inj h
    exact g_iret dX2_firstFarthest_68 rfl
  · replace h := if_f h c1
    refine g_aload_n dX2_firstFarthest_21 rfl 0 rfl ?_
    refine g_getC (n := 139) dX2_firstFarthest_22 gi_136 rfl fl_RX2_18 ?_
    refine g_iload dX2_firstFarthest_25 4 rfl ?_
    obtain ⟨g2, h⟩ := gg_some h
    refine g_zald dX2_firstFarthest_27 gi_139 g2 ?_
    refine g_if_eq (t := 60) dX2_firstFarthest_28 (by decide) (fun c3 => ?_) (fun c3 => ?_)
    · replace h := if_t h c3
      exact pX2_firstFarthest_60 (fun v3 v4 v5 σ h => ih v3 v4 v5 σ h) h
    · replace h := if_f h c3
      refine g_iload dX2_firstFarthest_31 3 rfl ?_
      refine g_ldc (v := (-1000000)) dX2_firstFarthest_33 wc_RX2_57 ?_
      refine g_icmp_eq (t := 56) dX2_firstFarthest_35 (by decide) (fun c4 => ?_) (fun c4 => ?_)
      · replace h := if_t h c4
        refine g_sub [0, 1, 2, 4] rfl ?_
        exact pX2_firstFarthest_56 (fun v3 v4 v5 σ h => ih v3 v4 v5 σ h) h
      · replace h := if_f h c4
        refine g_iload_n dX2_firstFarthest_38 rfl 1 rfl ?_
        refine g_i2l dX2_firstFarthest_39 ?_
        refine g_aload_n dX2_firstFarthest_40 rfl 2 rfl ?_
        refine g_iload dX2_firstFarthest_41 4 rfl ?_
        obtain ⟨g5, h⟩ := gg_some h
        obtain ⟨g6, h⟩ := gg_some h
        refine g_lald dX2_firstFarthest_43 (gi_vs g5) g6 ?_
        refine g_lmul dX2_firstFarthest_44 ?_
        refine g_iload_n dX2_firstFarthest_45 rfl 1 rfl ?_
        refine g_i2l dX2_firstFarthest_46 ?_
        refine g_aload_n dX2_firstFarthest_47 rfl 2 rfl ?_
        refine g_iload dX2_firstFarthest_48 3 rfl ?_
        obtain ⟨g7, h⟩ := gg_some h
        obtain ⟨g8, h⟩ := gg_some h
        refine g_lald dX2_firstFarthest_50 (gi_vs g7) g8 ?_
        refine g_lmul dX2_firstFarthest_51 ?_
        refine g_lcmp dX2_firstFarthest_52 ?_
        refine g_if_le (t := 60) dX2_firstFarthest_53 (by decide) (fun c9 => ?_) (fun c9 => ?_)
        · replace h := if_t h c9
          exact pX2_firstFarthest_60 (fun v3 v4 v5 σ h => ih v3 v4 v5 σ h) h
        · replace h := if_f h c9
          refine g_sub [0, 1, 2, 4] rfl ?_
          exact pX2_firstFarthest_56 (fun v3 v4 v5 σ h => ih v3 v4 v5 σ h) h
def fX2_firstFarthest (p1 : Int32) (p2 : Int32) (σ : gS) : Option (Int32 × gS) :=
  bd (fX2_valuesOf p1 σ) fun x1 σ2 =>
  fX2_firstFarthest_13 p1 p2 2000 x1 (-1000000) 0 σ2
set_option maxHeartbeats 4000000 in
set_option maxRecDepth 100000 in
theorem pX2_firstFarthest {E : gE} {p1 : Int32} {p2 : Int32} {r : Int32} {σ' : gS} {σ : gS} (h : fX2_firstFarthest p1 p2 σ = some (r, σ')) : gG E mX2_firstFarthest 0 [(0, .ref 136), (1, .int p1), (2, .int p2)] [] σ (some (.int r)) σ' := by
  unfold fX2_firstFarthest at h
  refine g_aload_n dX2_firstFarthest_0 rfl 0 rfl ?_
  refine g_iload_n dX2_firstFarthest_1 rfl 1 rfl ?_
  obtain ⟨x1, σ2, y3, h⟩ := bd_some h
  refine g_callVr (as := [.int p1]) (st := []) (zX2_valuesOf y3) dX2_firstFarthest_2 gi_136 rfl okX2_firstFarthest_53 (Nat.le_of_ble_eq_true rfl) ?_
  refine g_astore_n (lv' := [(3, .ref x1), (0, .ref 136), (1, .int p1), (2, .int p2)]) dX2_firstFarthest_5 rfl (Nat.le_of_ble_eq_true rfl) rfl ?_
  refine g_ldc (v := (-1000000)) dX2_firstFarthest_6 wc_RX2_57 ?_
  refine g_istore (lv' := [(4, .int (-1000000)), (3, .ref x1), (0, .ref 136), (1, .int p1), (2, .int p2)]) dX2_firstFarthest_8 (Nat.le_of_ble_eq_true rfl) rfl ?_
  refine g_iconst (v := 0) dX2_firstFarthest_10 (by decide) ?_
  refine g_istore (lv' := [(5, .int 0), (4, .int (-1000000)), (3, .ref x1), (0, .ref 136), (1, .int p1), (2, .int p2)]) dX2_firstFarthest_11 (Nat.le_of_ble_eq_true rfl) rfl ?_
  refine g_sub [3, 5, 2, 1, 0] rfl ?_
  exact pX2_firstFarthest_13 2000 x1 (-1000000) 0 σ2 h
theorem zX2_firstFarthest {E : gE} {p1 : Int32} {p2 : Int32} {r : Int32} {σ σ' : gS} (h : fX2_firstFarthest p1 p2 σ = some (r, σ')) : gC E mX2_firstFarthest [.ref 136, .int p1, .int p2] σ (some (.int r)) σ' :=
  gC_of (by decide +kernel) rfl (Nat.le_of_ble_eq_true rfl) (pX2_firstFarthest h)
theorem fp_RX3_49 : gFp RX3 49 3 7 .int := ⟨RX3, TX3, 10, rfl, by decide, ux_3, Or.inl (gm 160 (by decide +kernel) rfl), rfl, by decide +kernel, ⟨tyX3, tyX3_ok⟩, nmX3⟩
theorem wc_RX3_35 : Cond.constant RX3 35 (-1000000) ∈ gWS := (gm 148 (by decide +kernel) rfl)
theorem fp_RX3_36 : gFp RX3 36 3 8 .int := ⟨RX3, TX3, 10, rfl, by decide, ux_3, Or.inl (gm 162 (by decide +kernel) rfl), rfl, by decide +kernel, ⟨tyX3, tyX3_ok⟩, nmX3⟩
theorem fp_RX3_40 : gFp RX3 40 3 9 .int := ⟨RX3, TX3, 10, rfl, by decide, ux_3, Or.inl (gm 166 (by decide +kernel) rfl), rfl, by decide +kernel, ⟨tyX3, tyX3_ok⟩, nmX3⟩
def mX3_clear : gM := (yX3_clear, cX3_clear, RX3, 1, none, 1, 23)
theorem dX3_clear_0 : decode mX3_clear.2.1 0 = .ok (.aload_n 0, 1) := by decide +kernel
theorem dX3_clear_1 : decode mX3_clear.2.1 1 = .ok (.getfield 32, 3) := by decide +kernel
theorem dX3_clear_4 : decode mX3_clear.2.1 4 = .ok (.iconst 0, 1) := by decide +kernel
theorem dX3_clear_5 : decode mX3_clear.2.1 5 = .ok (.invokestatic 43, 3) := by decide +kernel
theorem dX3_clear_8 : decode mX3_clear.2.1 8 = .ok (.aload_n 0, 1) := by decide +kernel
theorem dX3_clear_9 : decode mX3_clear.2.1 9 = .ok (.iconst 0, 1) := by decide +kernel
theorem dX3_clear_10 : decode mX3_clear.2.1 10 = .ok (.putfield 49, 3) := by decide +kernel
theorem dX3_clear_13 : decode mX3_clear.2.1 13 = .ok (.aload_n 0, 1) := by decide +kernel
theorem dX3_clear_14 : decode mX3_clear.2.1 14 = .ok (.ldc 35, 2) := by decide +kernel
theorem dX3_clear_16 : decode mX3_clear.2.1 16 = .ok (.putfield 36, 3) := by decide +kernel
theorem dX3_clear_19 : decode mX3_clear.2.1 19 = .ok (.aload_n 0, 1) := by decide +kernel
theorem dX3_clear_20 : decode mX3_clear.2.1 20 = .ok (.ldc 35, 2) := by decide +kernel
theorem dX3_clear_22 : decode mX3_clear.2.1 22 = .ok (.putfield 40, 3) := by decide +kernel
theorem dX3_clear_25 : decode mX3_clear.2.1 25 = .ok (.return_, 1) := by decide +kernel
theorem okX3_clear_43 : gOkS mX3_clear mJ7_fill_53178 43 2 := ⟨List.forall_mem_cons.mpr ⟨(gm 587 (by decide +kernel) rfl), List.forall_mem_cons.mpr ⟨(gm 585 (by decide +kernel) rfl), List.forall_mem_cons.mpr ⟨(gm 586 (by decide +kernel) rfl), List.forall_mem_cons.mpr ⟨(gm 123 (by decide +kernel) rfl), fun _ h => absurd h List.not_mem_nil⟩⟩⟩⟩, by decide +kernel, by decide +kernel, by decide +kernel⟩
def fX3_clear (t : Nat) (σ : gS) : Option (Unit × gS) :=
  bd (fJ7_fill_53178 (t + 11) 4 0 σ) fun _ σ1 =>
  bnd (gsI σ1 t 7 0) fun σ3 =>
  bnd (gsI σ3 t 8 (-1000000)) fun σ4 =>
  bnd (gsI σ4 t 9 (-1000000)) fun σ5 =>
  some ((), σ5)
set_option maxHeartbeats 4000000 in
set_option maxRecDepth 100000 in
theorem pX3_clear {E : gE} {t : Nat} {r : Unit} {σ' : gS} {σ : gS} (ht : gLk t) (h : fX3_clear t σ = some (r, σ')) : gG E mX3_clear 0 [(0, .ref t)] [] σ (none) σ' := by
  unfold fX3_clear at h
  refine g_aload_n dX3_clear_0 rfl 0 rfl ?_
  refine g_getC (n := (t + 11)) dX3_clear_1 (gi_lk ht) rfl fl_RX3_32 ?_
  refine g_iconst (v := 0) dX3_clear_4 (by decide) ?_
  obtain ⟨_, σ1, y2, h⟩ := bd_some h
  refine g_callSv (as := [.ref (t + 11), .int 0]) (st := []) (zJ7_fill_53178 (gi_lk11 ht) (by decide) y2) dX3_clear_5 okX3_clear_43 (Nat.le_of_ble_eq_true rfl) ?_
  refine g_aload_n dX3_clear_8 rfl 0 rfl ?_
  refine g_iconst (v := 0) dX3_clear_9 (by decide) ?_
  obtain ⟨σ3, eσ3, h⟩ := bnd_nm h
  refine g_putI dX3_clear_10 (gi_lk ht) rfl fp_RX3_49 (g_st eσ3 ?_)
  refine g_aload_n dX3_clear_13 rfl 0 rfl ?_
  refine g_ldc (v := (-1000000)) dX3_clear_14 wc_RX3_35 ?_
  obtain ⟨σ4, eσ4, h⟩ := bnd_nm h
  refine g_putI dX3_clear_16 (gi_lk ht) rfl fp_RX3_36 (g_st eσ4 ?_)
  refine g_aload_n dX3_clear_19 rfl 0 rfl ?_
  refine g_ldc (v := (-1000000)) dX3_clear_20 wc_RX3_35 ?_
  obtain ⟨σ5, eσ5, h⟩ := bnd_nm h
  refine g_putI dX3_clear_22 (gi_lk ht) rfl fp_RX3_40 (g_st eσ5 ?_)
  obtain ⟨rfl, rfl⟩ := so_inj h
  exact g_vret dX3_clear_25 rfl
theorem zX3_clear {E : gE} {t : Nat} {r : Unit} {σ σ' : gS} (ht : gLk t) (h : fX3_clear t σ = some (r, σ')) : gC E mX3_clear [.ref t] σ (none) σ' :=
  gC_of (by decide +kernel) rfl (Nat.le_of_ble_eq_true rfl) (pX3_clear ht h)
def mX3_isFull : gM := (yX3_isFull, cX3_isFull, RX3, 2, (some .boolean), 0, 0)
theorem dX3_isFull_0 : decode mX3_isFull.2.1 0 = .ok (.aload_n 0, 1) := by decide +kernel
theorem dX3_isFull_1 : decode mX3_isFull.2.1 1 = .ok (.getfield 32, 3) := by decide +kernel
theorem dX3_isFull_4 : decode mX3_isFull.2.1 4 = .ok (.iload_n 1, 1) := by decide +kernel
theorem dX3_isFull_5 : decode mX3_isFull.2.1 5 = .ok (.iaload, 1) := by decide +kernel
theorem dX3_isFull_6 : decode mX3_isFull.2.1 6 = .ok (.getstatic 52, 3) := by decide +kernel
theorem dX3_isFull_9 : decode mX3_isFull.2.1 9 = .ok (.iload_n 1, 1) := by decide +kernel
theorem dX3_isFull_10 : decode mX3_isFull.2.1 10 = .ok (.iaload, 1) := by decide +kernel
theorem dX3_isFull_11 : decode mX3_isFull.2.1 11 = .ok (.if_icmp .lt 7, 3) := by decide +kernel
theorem dX3_isFull_14 : decode mX3_isFull.2.1 14 = .ok (.iconst 1, 1) := by decide +kernel
theorem dX3_isFull_15 : decode mX3_isFull.2.1 15 = .ok (.goto 4, 3) := by decide +kernel
theorem dX3_isFull_18 : decode mX3_isFull.2.1 18 = .ok (.iconst 0, 1) := by decide +kernel
theorem dX3_isFull_19 : decode mX3_isFull.2.1 19 = .ok (.ireturn, 1) := by decide +kernel
def fX3_isFull_19 (t : Nat) (p1 : Int32) (s0 : Int32) (σ : gS) : Option (Int32 × gS) :=
  gg (s0 = 0 ∨ s0 = 1) (
  some (s0, σ))
set_option maxHeartbeats 4000000 in
set_option maxRecDepth 100000 in
theorem pX3_isFull_19 {E : gE} {t : Nat} {p1 : Int32} {r : Int32} {σ' : gS} {s0 : Int32} {σ : gS} (ht : gLk t) (h : fX3_isFull_19 t p1 s0 σ = some (r, σ')) : gG E mX3_isFull 19 [] [.int s0] σ (some (.int r)) σ' := by
  unfold fX3_isFull_19 at h
  obtain ⟨g1, h⟩ := gg_some h
  obtain ⟨rfl, rfl⟩ := so_inj h
  exact g_zret dX3_isFull_19 rfl g1
def fX3_isFull (t : Nat) (p1 : Int32) (σ : gS) : Option (Int32 × gS) :=
  gg (¬ (p1 < 0 ∨ 4 ≤ p1.toNatClampNeg)) (
  gg (¬ (p1 < 0 ∨ 4 ≤ p1.toNatClampNeg)) (
  if (σ.1 (t + 11) p1.toNatClampNeg) < (gW2 p1.toNatClampNeg) then
    fX3_isFull_19 t p1 0 σ
  else
    fX3_isFull_19 t p1 1 σ))
set_option maxHeartbeats 4000000 in
set_option maxRecDepth 100000 in
theorem pX3_isFull {E : gE} {t : Nat} {p1 : Int32} {r : Int32} {σ' : gS} {σ : gS} (ht : gLk t) (h : fX3_isFull t p1 σ = some (r, σ')) : gG E mX3_isFull 0 [(0, .ref t), (1, .int p1)] [] σ (some (.int r)) σ' := by
  unfold fX3_isFull at h
  refine g_aload_n dX3_isFull_0 rfl 0 rfl ?_
  refine g_getC (n := (t + 11)) dX3_isFull_1 (gi_lk ht) rfl fl_RX3_32 ?_
  refine g_iload_n dX3_isFull_4 rfl 1 rfl ?_
  obtain ⟨g1, h⟩ := gg_some h
  refine g_iald dX3_isFull_5 (gi_lk11 ht) g1 ?_
  refine g_gets2 dX3_isFull_6 (by decide +kernel) ?_
  refine g_iload_n dX3_isFull_9 rfl 1 rfl ?_
  obtain ⟨g2, h⟩ := gg_some h
  refine g_tld2 dX3_isFull_10 g2 ?_
  refine g_icmp_lt (t := 18) dX3_isFull_11 (by decide) (fun c3 => ?_) (fun c3 => ?_)
  · replace h := if_t h c3
    refine g_iconst (v := 0) dX3_isFull_18 (by decide) ?_
    refine g_sub [] rfl ?_
    exact pX3_isFull_19 ht h
  · replace h := if_f h c3
    refine g_iconst (v := 1) dX3_isFull_14 (by decide) ?_
    refine g_goto (t := 19) dX3_isFull_15 (by decide) ?_
    refine g_sub [] rfl ?_
    exact pX3_isFull_19 ht h
theorem zX3_isFull {E : gE} {t : Nat} {p1 : Int32} {r : Int32} {σ σ' : gS} (ht : gLk t) (h : fX3_isFull t p1 σ = some (r, σ')) : gC E mX3_isFull [.ref t, .int p1] σ (some (.int r)) σ' :=
  gC_of (by decide +kernel) rfl (Nat.le_of_ble_eq_true rfl) (pX3_isFull ht h)

theorem fl_RX3_49 : gFl RX3 49 3 7 := ⟨RX3, TX3, 10, rfl, by decide, ux_3, Or.inl (gm 160 (by decide +kernel) rfl)⟩
theorem fl_RX3_15 : gFl RX3 15 3 1 := ⟨RX3, TX3, 10, rfl, by decide, ux_3, Or.inl (gm 151 (by decide +kernel) rfl)⟩
theorem fl_RX3_24 : gFl RX3 24 3 4 := ⟨RX3, TX3, 10, rfl, by decide, ux_3, Or.inl (gm 157 (by decide +kernel) rfl)⟩
def mX3_add : gM := (yX3_add, cX3_add, RX3, 6, none, 1, 21)
theorem dX3_add_0 : decode mX3_add.2.1 0 = .ok (.getstatic 55, 3) := by decide +kernel
theorem dX3_add_3 : decode mX3_add.2.1 3 = .ok (.iload_n 1, 1) := by decide +kernel
theorem dX3_add_4 : decode mX3_add.2.1 4 = .ok (.iaload, 1) := by decide +kernel
theorem dX3_add_5 : decode mX3_add.2.1 5 = .ok (.istore 5, 2) := by decide +kernel
theorem dX3_add_7 : decode mX3_add.2.1 7 = .ok (.aload_n 0, 1) := by decide +kernel
theorem dX3_add_8 : decode mX3_add.2.1 8 = .ok (.iload 5, 2) := by decide +kernel
theorem dX3_add_10 : decode mX3_add.2.1 10 = .ok (.invokevirtual 58, 3) := by decide +kernel
theorem dX3_add_13 : decode mX3_add.2.1 13 = .ok (.ifCond .eq 4, 3) := by decide +kernel
theorem dX3_add_16 : decode mX3_add.2.1 16 = .ok (.return_, 1) := by decide +kernel
theorem dX3_add_17 : decode mX3_add.2.1 17 = .ok (.aload_n 0, 1) := by decide +kernel
theorem dX3_add_18 : decode mX3_add.2.1 18 = .ok (.getfield 9, 3) := by decide +kernel
theorem dX3_add_21 : decode mX3_add.2.1 21 = .ok (.aload_n 0, 1) := by decide +kernel
theorem dX3_add_22 : decode mX3_add.2.1 22 = .ok (.getfield 49, 3) := by decide +kernel
theorem dX3_add_25 : decode mX3_add.2.1 25 = .ok (.iload_n 1, 1) := by decide +kernel
theorem dX3_add_26 : decode mX3_add.2.1 26 = .ok (.iastore, 1) := by decide +kernel
theorem dX3_add_27 : decode mX3_add.2.1 27 = .ok (.aload_n 0, 1) := by decide +kernel
theorem dX3_add_28 : decode mX3_add.2.1 28 = .ok (.getfield 15, 3) := by decide +kernel
theorem dX3_add_31 : decode mX3_add.2.1 31 = .ok (.aload_n 0, 1) := by decide +kernel
theorem dX3_add_32 : decode mX3_add.2.1 32 = .ok (.getfield 49, 3) := by decide +kernel
theorem dX3_add_35 : decode mX3_add.2.1 35 = .ok (.aload_n 0, 1) := by decide +kernel
theorem dX3_add_36 : decode mX3_add.2.1 36 = .ok (.getfield 32, 3) := by decide +kernel
theorem dX3_add_39 : decode mX3_add.2.1 39 = .ok (.iload 5, 2) := by decide +kernel
theorem dX3_add_41 : decode mX3_add.2.1 41 = .ok (.iaload, 1) := by decide +kernel
theorem dX3_add_42 : decode mX3_add.2.1 42 = .ok (.iastore, 1) := by decide +kernel
theorem dX3_add_43 : decode mX3_add.2.1 43 = .ok (.aload_n 0, 1) := by decide +kernel
theorem dX3_add_44 : decode mX3_add.2.1 44 = .ok (.getfield 24, 3) := by decide +kernel
theorem dX3_add_47 : decode mX3_add.2.1 47 = .ok (.aload_n 0, 1) := by decide +kernel
theorem dX3_add_48 : decode mX3_add.2.1 48 = .ok (.getfield 49, 3) := by decide +kernel
theorem dX3_add_51 : decode mX3_add.2.1 51 = .ok (.iload_n 2, 1) := by decide +kernel
theorem dX3_add_52 : decode mX3_add.2.1 52 = .ok (.iastore, 1) := by decide +kernel
theorem dX3_add_53 : decode mX3_add.2.1 53 = .ok (.aload_n 0, 1) := by decide +kernel
theorem dX3_add_54 : decode mX3_add.2.1 54 = .ok (.getfield 18, 3) := by decide +kernel
theorem dX3_add_57 : decode mX3_add.2.1 57 = .ok (.aload_n 0, 1) := by decide +kernel
theorem dX3_add_58 : decode mX3_add.2.1 58 = .ok (.getfield 49, 3) := by decide +kernel
theorem dX3_add_61 : decode mX3_add.2.1 61 = .ok (.iload_n 3, 1) := by decide +kernel
theorem dX3_add_62 : decode mX3_add.2.1 62 = .ok (.iastore, 1) := by decide +kernel
theorem dX3_add_63 : decode mX3_add.2.1 63 = .ok (.aload_n 0, 1) := by decide +kernel
theorem dX3_add_64 : decode mX3_add.2.1 64 = .ok (.getfield 21, 3) := by decide +kernel
theorem dX3_add_67 : decode mX3_add.2.1 67 = .ok (.aload_n 0, 1) := by decide +kernel
theorem dX3_add_68 : decode mX3_add.2.1 68 = .ok (.getfield 49, 3) := by decide +kernel
theorem dX3_add_71 : decode mX3_add.2.1 71 = .ok (.iload 4, 2) := by decide +kernel
theorem dX3_add_73 : decode mX3_add.2.1 73 = .ok (.iastore, 1) := by decide +kernel
theorem dX3_add_74 : decode mX3_add.2.1 74 = .ok (.aload_n 0, 1) := by decide +kernel
theorem dX3_add_75 : decode mX3_add.2.1 75 = .ok (.getfield 29, 3) := by decide +kernel
theorem dX3_add_78 : decode mX3_add.2.1 78 = .ok (.iload 5, 2) := by decide +kernel
theorem dX3_add_80 : decode mX3_add.2.1 80 = .ok (.aaload, 1) := by decide +kernel
theorem dX3_add_81 : decode mX3_add.2.1 81 = .ok (.aload_n 0, 1) := by decide +kernel
theorem dX3_add_82 : decode mX3_add.2.1 82 = .ok (.getfield 32, 3) := by decide +kernel
theorem dX3_add_85 : decode mX3_add.2.1 85 = .ok (.iload 5, 2) := by decide +kernel
theorem dX3_add_87 : decode mX3_add.2.1 87 = .ok (.iaload, 1) := by decide +kernel
theorem dX3_add_88 : decode mX3_add.2.1 88 = .ok (.aload_n 0, 1) := by decide +kernel
theorem dX3_add_89 : decode mX3_add.2.1 89 = .ok (.getfield 49, 3) := by decide +kernel
theorem dX3_add_92 : decode mX3_add.2.1 92 = .ok (.iastore, 1) := by decide +kernel
theorem dX3_add_93 : decode mX3_add.2.1 93 = .ok (.aload_n 0, 1) := by decide +kernel
theorem dX3_add_94 : decode mX3_add.2.1 94 = .ok (.getfield 32, 3) := by decide +kernel
theorem dX3_add_97 : decode mX3_add.2.1 97 = .ok (.iload 5, 2) := by decide +kernel
theorem dX3_add_99 : decode mX3_add.2.1 99 = .ok (.dup2, 1) := by decide +kernel
theorem dX3_add_100 : decode mX3_add.2.1 100 = .ok (.iaload, 1) := by decide +kernel
theorem dX3_add_101 : decode mX3_add.2.1 101 = .ok (.iconst 1, 1) := by decide +kernel
theorem dX3_add_102 : decode mX3_add.2.1 102 = .ok (.iadd, 1) := by decide +kernel
theorem dX3_add_103 : decode mX3_add.2.1 103 = .ok (.iastore, 1) := by decide +kernel
theorem dX3_add_104 : decode mX3_add.2.1 104 = .ok (.aload_n 0, 1) := by decide +kernel
theorem dX3_add_105 : decode mX3_add.2.1 105 = .ok (.dup, 1) := by decide +kernel
theorem dX3_add_106 : decode mX3_add.2.1 106 = .ok (.getfield 49, 3) := by decide +kernel
theorem dX3_add_109 : decode mX3_add.2.1 109 = .ok (.iconst 1, 1) := by decide +kernel
theorem dX3_add_110 : decode mX3_add.2.1 110 = .ok (.iadd, 1) := by decide +kernel
theorem dX3_add_111 : decode mX3_add.2.1 111 = .ok (.putfield 49, 3) := by decide +kernel
theorem dX3_add_114 : decode mX3_add.2.1 114 = .ok (.return_, 1) := by decide +kernel
theorem okX3_add_58 : gOkV mX3_add mX3_isFull 58 1 := ⟨List.forall_mem_cons.mpr ⟨(gm 635 (by decide +kernel) rfl), List.forall_mem_cons.mpr ⟨(gm 652 (by decide +kernel) rfl), List.forall_mem_cons.mpr ⟨(gm 633 (by decide +kernel) rfl), List.forall_mem_cons.mpr ⟨(gm 634 (by decide +kernel) rfl), List.forall_mem_cons.mpr ⟨(gm 109 (by decide +kernel) rfl), fun _ h => absurd h List.not_mem_nil⟩⟩⟩⟩⟩, by decide +kernel, by decide +kernel, by decide +kernel⟩
def fX3_add (t : Nat) (p1 : Int32) (p2 : Int32) (p3 : Int32) (p4 : Int32) (σ : gS) : Option (Unit × gS) :=
  gg (¬ (p1 < 0 ∨ 7 ≤ p1.toNatClampNeg)) (
  bd (fX3_isFull t (gW1 p1.toNatClampNeg) σ) fun x2 σ3 =>
  if x2 = 0 then
    gg (¬ (σ3.1 t 7 < 0 ∨ 130 ≤ (σ3.1 t 7).toNatClampNeg)) (
    bnd (gsI σ3 (t + 1) ((σ3.1 t 7).toNatClampNeg) p1) fun σ7 =>
    gg (¬ (gW1 p1.toNatClampNeg < 0 ∨ 4 ≤ (gW1 p1.toNatClampNeg).toNatClampNeg)) (
    gg (¬ (σ7.1 t 7 < 0 ∨ 130 ≤ (σ7.1 t 7).toNatClampNeg)) (
    bnd (gsI σ7 (t + 2) ((σ7.1 t 7).toNatClampNeg) (σ7.1 (t + 11) ((gW1 p1.toNatClampNeg).toNatClampNeg))) fun σ10 =>
    gg (¬ (σ10.1 t 7 < 0 ∨ 130 ≤ (σ10.1 t 7).toNatClampNeg)) (
    bnd (gsI σ10 (t + 5) ((σ10.1 t 7).toNatClampNeg) p2) fun σ12 =>
    gg (¬ (σ12.1 t 7 < 0 ∨ 130 ≤ (σ12.1 t 7).toNatClampNeg)) (
    bnd (gsI σ12 (t + 3) ((σ12.1 t 7).toNatClampNeg) p3) fun σ14 =>
    gg (¬ (σ14.1 t 7 < 0 ∨ 130 ≤ (σ14.1 t 7).toNatClampNeg)) (
    bnd (gsI σ14 (t + 4) ((σ14.1 t 7).toNatClampNeg) p4) fun σ16 =>
    gg (¬ (gW1 p1.toNatClampNeg < 0 ∨ 4 ≤ (gW1 p1.toNatClampNeg).toNatClampNeg)) (
    gg (¬ (gW1 p1.toNatClampNeg < 0 ∨ 4 ≤ (gW1 p1.toNatClampNeg).toNatClampNeg)) (
    gg (¬ (σ16.1 (t + 11) ((gW1 p1.toNatClampNeg).toNatClampNeg) < 0 ∨ 60 ≤ (σ16.1 (t + 11) ((gW1 p1.toNatClampNeg).toNatClampNeg)).toNatClampNeg)) (
    bnd (gsI σ16 (t + 7 + 1 * (gW1 p1.toNatClampNeg).toNatClampNeg) ((σ16.1 (t + 11) ((gW1 p1.toNatClampNeg).toNatClampNeg)).toNatClampNeg) (σ16.1 t 7)) fun σ20 =>
    gg (¬ (gW1 p1.toNatClampNeg < 0 ∨ 4 ≤ (gW1 p1.toNatClampNeg).toNatClampNeg)) (
    gg (¬ (gW1 p1.toNatClampNeg < 0 ∨ 4 ≤ (gW1 p1.toNatClampNeg).toNatClampNeg)) (
    bnd (gsI σ20 (t + 11) ((gW1 p1.toNatClampNeg).toNatClampNeg) ((σ20.1 (t + 11) ((gW1 p1.toNatClampNeg).toNatClampNeg)) + 1)) fun σ23 =>
    bnd (gsI σ23 t 7 ((σ23.1 t 7) + 1)) fun σ24 =>
    some ((), σ24))))))))))))
  else
    some ((), σ3))
set_option maxHeartbeats 4000000 in
set_option maxRecDepth 100000 in
theorem pX3_add {E : gE} {t : Nat} {p1 : Int32} {p2 : Int32} {p3 : Int32} {p4 : Int32} {r : Unit} {σ' : gS} {σ : gS} (ht : gLk t) (h : fX3_add t p1 p2 p3 p4 σ = some (r, σ')) : gG E mX3_add 0 [(0, .ref t), (1, .int p1), (2, .int p2), (3, .int p3), (4, .int p4)] [] σ (none) σ' := by
  unfold fX3_add at h
  refine g_gets1 dX3_add_0 (by decide +kernel) ?_
  refine g_iload_n dX3_add_3 rfl 1 rfl ?_
  obtain ⟨g1, h⟩ := gg_some h
  refine g_tld1 dX3_add_4 g1 ?_
  refine g_istore (lv' := [(5, .int (gW1 p1.toNatClampNeg)), (0, .ref t), (1, .int p1), (2, .int p2), (3, .int p3), (4, .int p4)]) dX3_add_5 (Nat.le_of_ble_eq_true rfl) rfl ?_
  refine g_aload_n dX3_add_7 rfl 1 rfl ?_
  refine g_iload dX3_add_8 0 rfl ?_
  obtain ⟨x2, σ3, y4, h⟩ := bd_some h
  refine g_callVr (as := [.int (gW1 p1.toNatClampNeg)]) (st := []) (zX3_isFull ht y4) dX3_add_10 (gi_lk ht) rfl okX3_add_58 (Nat.le_of_ble_eq_true rfl) ?_
  refine g_if_eq (t := 17) dX3_add_13 (by decide) (fun c5 => ?_) (fun c5 => ?_)
  · replace h := if_t h c5
    refine g_aload_n dX3_add_17 rfl 1 rfl ?_
    refine g_getC (n := (t + 1)) dX3_add_18 (gi_lk ht) rfl fl_RX3_9 ?_
    refine g_aload_n dX3_add_21 rfl 1 rfl ?_
    refine g_getI dX3_add_22 (gi_lk ht) rfl fl_RX3_49 ?_
    refine g_iload_n dX3_add_25 rfl 2 rfl ?_
    obtain ⟨g6, h⟩ := gg_some h
    obtain ⟨σ7, eσ7, h⟩ := bnd_nm h
    refine g_iast dX3_add_26 (gi_lk1 ht) g6 (g_st eσ7 ?_)
    refine g_aload_n dX3_add_27 rfl 1 rfl ?_
    refine g_getC (n := (t + 2)) dX3_add_28 (gi_lk ht) rfl fl_RX3_15 ?_
    refine g_aload_n dX3_add_31 rfl 1 rfl ?_
    refine g_getI dX3_add_32 (gi_lk ht) rfl fl_RX3_49 ?_
    refine g_aload_n dX3_add_35 rfl 1 rfl ?_
    refine g_getC (n := (t + 11)) dX3_add_36 (gi_lk ht) rfl fl_RX3_32 ?_
    refine g_iload dX3_add_39 0 rfl ?_
    obtain ⟨g8, h⟩ := gg_some h
    refine g_iald dX3_add_41 (gi_lk11 ht) g8 ?_
    obtain ⟨g9, h⟩ := gg_some h
    obtain ⟨σ10, eσ10, h⟩ := bnd_nm h
    refine g_iast dX3_add_42 (gi_lk2 ht) g9 (g_st eσ10 ?_)
    refine g_aload_n dX3_add_43 rfl 1 rfl ?_
    refine g_getC (n := (t + 5)) dX3_add_44 (gi_lk ht) rfl fl_RX3_24 ?_
    refine g_aload_n dX3_add_47 rfl 1 rfl ?_
    refine g_getI dX3_add_48 (gi_lk ht) rfl fl_RX3_49 ?_
    refine g_iload_n dX3_add_51 rfl 3 rfl ?_
    obtain ⟨g11, h⟩ := gg_some h
    obtain ⟨σ12, eσ12, h⟩ := bnd_nm h
    refine g_iast dX3_add_52 (gi_lk5 ht) g11 (g_st eσ12 ?_)
    refine g_aload_n dX3_add_53 rfl 1 rfl ?_
    refine g_getC (n := (t + 3)) dX3_add_54 (gi_lk ht) rfl fl_RX3_18 ?_
    refine g_aload_n dX3_add_57 rfl 1 rfl ?_
    refine g_getI dX3_add_58 (gi_lk ht) rfl fl_RX3_49 ?_
    refine g_iload_n dX3_add_61 rfl 4 rfl ?_
    obtain ⟨g13, h⟩ := gg_some h
    obtain ⟨σ14, eσ14, h⟩ := bnd_nm h
    refine g_iast dX3_add_62 (gi_lk3 ht) g13 (g_st eσ14 ?_)
    refine g_aload_n dX3_add_63 rfl 1 rfl ?_
    refine g_getC (n := (t + 4)) dX3_add_64 (gi_lk ht) rfl fl_RX3_21 ?_
    refine g_aload_n dX3_add_67 rfl 1 rfl ?_
    refine g_getI dX3_add_68 (gi_lk ht) rfl fl_RX3_49 ?_
    refine g_iload dX3_add_71 5 rfl ?_
    obtain ⟨g15, h⟩ := gg_some h
    obtain ⟨σ16, eσ16, h⟩ := bnd_nm h
    refine g_iast dX3_add_73 (gi_lk4 ht) g15 (g_st eσ16 ?_)
    refine g_aload_n dX3_add_74 rfl 1 rfl ?_
    refine g_getC (n := (t + 6)) dX3_add_75 (gi_lk ht) rfl fl_RX3_29 ?_
    refine g_iload dX3_add_78 0 rfl ?_
    obtain ⟨g17, h⟩ := gg_some h
    refine g_aaldA dX3_add_80 (gi_lk6 ht) g17 ?_
    refine g_topr (y := (t + 7 + 1 * (gW1 p1.toNatClampNeg).toNatClampNeg)) rfl ?_
    refine g_aload_n dX3_add_81 rfl 1 rfl ?_
    refine g_getC (n := (t + 11)) dX3_add_82 (gi_lk ht) rfl fl_RX3_32 ?_
    refine g_iload dX3_add_85 0 rfl ?_
    obtain ⟨g18, h⟩ := gg_some h
    refine g_iald dX3_add_87 (gi_lk11 ht) g18 ?_
    refine g_aload_n dX3_add_88 rfl 1 rfl ?_
    refine g_getI dX3_add_89 (gi_lk ht) rfl fl_RX3_49 ?_
    obtain ⟨g19, h⟩ := gg_some h
    obtain ⟨σ20, eσ20, h⟩ := bnd_nm h
    refine g_iast dX3_add_92 (gi_lkm ht (vp_lt g17)) g19 (g_st eσ20 ?_)
    refine g_aload_n dX3_add_93 rfl 1 rfl ?_
    refine g_getC (n := (t + 11)) dX3_add_94 (gi_lk ht) rfl fl_RX3_32 ?_
    refine g_iload dX3_add_97 0 rfl ?_
    refine g_dup2 dX3_add_99 rfl rfl ?_
    obtain ⟨g21, h⟩ := gg_some h
    refine g_iald dX3_add_100 (gi_lk11 ht) g21 ?_
    refine g_iconst (v := 1) dX3_add_101 (by decide) ?_
    refine g_iadd dX3_add_102 ?_
    obtain ⟨g22, h⟩ := gg_some h
    obtain ⟨σ23, eσ23, h⟩ := bnd_nm h
    refine g_iast dX3_add_103 (gi_lk11 ht) g22 (g_st eσ23 ?_)
    refine g_aload_n dX3_add_104 rfl 1 rfl ?_
    refine g_dup dX3_add_105 rfl ?_
    refine g_getI dX3_add_106 (gi_lk ht) rfl fl_RX3_49 ?_
    refine g_iconst (v := 1) dX3_add_109 (by decide) ?_
    refine g_iadd dX3_add_110 ?_
    obtain ⟨σ24, eσ24, h⟩ := bnd_nm h
    refine g_putI dX3_add_111 (gi_lk ht) rfl fp_RX3_49 (g_st eσ24 ?_)
    obtain ⟨rfl, rfl⟩ := so_inj h
    exact g_vret dX3_add_114 rfl
  · replace h := if_f h c5
    obtain ⟨rfl, rfl⟩ := so_inj h
    exact g_vret dX3_add_16 rfl
theorem zX3_add {E : gE} {t : Nat} {p1 : Int32} {p2 : Int32} {p3 : Int32} {p4 : Int32} {r : Unit} {σ σ' : gS} (ht : gLk t) (h : fX3_add t p1 p2 p3 p4 σ = some (r, σ')) : gC E mX3_add [.ref t, .int p1, .int p2, .int p3, .int p4] σ (none) σ' :=
  gC_of (by decide +kernel) rfl (Nat.le_of_ble_eq_true rfl) (pX3_add ht h)
def mX3_numberOf : gM := (yX3_numberOf, cX3_numberOf, RX3, 4, (some .int), 0, 0)
theorem dX3_numberOf_0 : decode mX3_numberOf.2.1 0 = .ok (.iconst 0, 1) := by decide +kernel
theorem dX3_numberOf_1 : decode mX3_numberOf.2.1 1 = .ok (.istore_n 3, 1) := by decide +kernel
theorem dX3_numberOf_2 : decode mX3_numberOf.2.1 2 = .ok (.iload_n 3, 1) := by decide +kernel
theorem dX3_numberOf_3 : decode mX3_numberOf.2.1 3 = .ok (.aload_n 0, 1) := by decide +kernel
theorem dX3_numberOf_4 : decode mX3_numberOf.2.1 4 = .ok (.getfield 32, 3) := by decide +kernel
theorem dX3_numberOf_7 : decode mX3_numberOf.2.1 7 = .ok (.iload_n 1, 1) := by decide +kernel
theorem dX3_numberOf_8 : decode mX3_numberOf.2.1 8 = .ok (.iaload, 1) := by decide +kernel
theorem dX3_numberOf_9 : decode mX3_numberOf.2.1 9 = .ok (.if_icmp .ge 28, 3) := by decide +kernel
theorem dX3_numberOf_12 : decode mX3_numberOf.2.1 12 = .ok (.aload_n 0, 1) := by decide +kernel
theorem dX3_numberOf_13 : decode mX3_numberOf.2.1 13 = .ok (.getfield 24, 3) := by decide +kernel
theorem dX3_numberOf_16 : decode mX3_numberOf.2.1 16 = .ok (.aload_n 0, 1) := by decide +kernel
theorem dX3_numberOf_17 : decode mX3_numberOf.2.1 17 = .ok (.getfield 29, 3) := by decide +kernel
theorem dX3_numberOf_20 : decode mX3_numberOf.2.1 20 = .ok (.iload_n 1, 1) := by decide +kernel
theorem dX3_numberOf_21 : decode mX3_numberOf.2.1 21 = .ok (.aaload, 1) := by decide +kernel
theorem dX3_numberOf_22 : decode mX3_numberOf.2.1 22 = .ok (.iload_n 3, 1) := by decide +kernel
theorem dX3_numberOf_23 : decode mX3_numberOf.2.1 23 = .ok (.iaload, 1) := by decide +kernel
theorem dX3_numberOf_24 : decode mX3_numberOf.2.1 24 = .ok (.iaload, 1) := by decide +kernel
theorem dX3_numberOf_25 : decode mX3_numberOf.2.1 25 = .ok (.iload_n 2, 1) := by decide +kernel
theorem dX3_numberOf_26 : decode mX3_numberOf.2.1 26 = .ok (.if_icmp .ne 5, 3) := by decide +kernel
theorem dX3_numberOf_29 : decode mX3_numberOf.2.1 29 = .ok (.iload_n 3, 1) := by decide +kernel
theorem dX3_numberOf_30 : decode mX3_numberOf.2.1 30 = .ok (.ireturn, 1) := by decide +kernel
theorem dX3_numberOf_31 : decode mX3_numberOf.2.1 31 = .ok (.iinc 3 1, 3) := by decide +kernel
theorem dX3_numberOf_34 : decode mX3_numberOf.2.1 34 = .ok (.goto (-32), 3) := by decide +kernel
theorem dX3_numberOf_37 : decode mX3_numberOf.2.1 37 = .ok (.ldc 35, 2) := by decide +kernel
theorem dX3_numberOf_39 : decode mX3_numberOf.2.1 39 = .ok (.ireturn, 1) := by decide +kernel
def fX3_numberOf_2 (t : Nat) (p1 : Int32) (p2 : Int32) : Nat → Int32 → gS → Option (Int32 × gS)
  | 0, _, _ => none
  | n + 1, v3, σ => gg (¬ (p1 < 0 ∨ 4 ≤ p1.toNatClampNeg)) (
  if (σ.1 (t + 11) p1.toNatClampNeg) ≤ v3 then
    some ((-1000000), σ)
  else
    gg (¬ (p1 < 0 ∨ 4 ≤ p1.toNatClampNeg)) (
    gg (¬ (v3 < 0 ∨ 60 ≤ v3.toNatClampNeg)) (
    gg (¬ (σ.1 (t + 7 + 1 * p1.toNatClampNeg) v3.toNatClampNeg < 0 ∨ 130 ≤ (σ.1 (t + 7 + 1 * p1.toNatClampNeg) v3.toNatClampNeg).toNatClampNeg)) (
    if (σ.1 (t + 5) ((σ.1 (t + 7 + 1 * p1.toNatClampNeg) v3.toNatClampNeg).toNatClampNeg)) = p2 then
      some (v3, σ)
    else
      bnd (v3 + 1) fun x7 =>
      fX3_numberOf_2 t p1 p2 n x7 σ))))
set_option maxHeartbeats 4000000 in
set_option maxRecDepth 100000 in
theorem pX3_numberOf_2 {E : gE} {t : Nat} {p1 : Int32} {p2 : Int32} {r : Int32} {σ' : gS} (ht : gLk t) : ∀ (n : Nat) (v3 : Int32) (σ : gS), fX3_numberOf_2 t p1 p2 n v3 σ = some (r, σ') → gG E mX3_numberOf 2 [(0, .ref t), (1, .int p1), (2, .int p2), (3, .int v3)] [] σ (some (.int r)) σ' := by
  intro n
  induction n with
  | zero => intro v3 σ h; exact absurd (show none = some (r, σ') from h) (by intro q; cases q)
  | succ n ih =>
  intro v3 σ h
  unfold fX3_numberOf_2 at h
  refine g_iload_n dX3_numberOf_2 rfl 3 rfl ?_
  refine g_aload_n dX3_numberOf_3 rfl 0 rfl ?_
  refine g_getC (n := (t + 11)) dX3_numberOf_4 (gi_lk ht) rfl fl_RX3_32 ?_
  refine g_iload_n dX3_numberOf_7 rfl 1 rfl ?_
  obtain ⟨g1, h⟩ := gg_some h
  refine g_iald dX3_numberOf_8 (gi_lk11 ht) g1 ?_
  refine g_icmp_ge (t := 37) dX3_numberOf_9 (by decide) (fun c2 => ?_) (fun c2 => ?_)
  · replace h := if_t h c2
    refine g_ldc (v := (-1000000)) dX3_numberOf_37 wc_RX3_35 ?_
    obtain ⟨rfl, rfl⟩ := so_inj h
    exact g_iret dX3_numberOf_39 rfl
  · replace h := if_f h c2
    refine g_aload_n dX3_numberOf_12 rfl 0 rfl ?_
    refine g_getC (n := (t + 5)) dX3_numberOf_13 (gi_lk ht) rfl fl_RX3_24 ?_
    refine g_aload_n dX3_numberOf_16 rfl 0 rfl ?_
    refine g_getC (n := (t + 6)) dX3_numberOf_17 (gi_lk ht) rfl fl_RX3_29 ?_
    refine g_iload_n dX3_numberOf_20 rfl 1 rfl ?_
    obtain ⟨g3, h⟩ := gg_some h
    refine g_aaldA dX3_numberOf_21 (gi_lk6 ht) g3 ?_
    refine g_topr (y := (t + 7 + 1 * p1.toNatClampNeg)) rfl ?_
    refine g_iload_n dX3_numberOf_22 rfl 3 rfl ?_
    obtain ⟨g4, h⟩ := gg_some h
    refine g_iald dX3_numberOf_23 (gi_lkm ht (vp_lt g3)) g4 ?_
    obtain ⟨g5, h⟩ := gg_some h
    refine g_iald dX3_numberOf_24 (gi_lk5 ht) g5 ?_
    refine g_iload_n dX3_numberOf_25 rfl 2 rfl ?_
    refine g_icmp_ne (t := 31) dX3_numberOf_26 (by decide) (fun c6 => ?_) (fun c6 => ?_)
    · replace h := if_f h c6
      obtain ⟨x7, ex7, h⟩ := bnd_nm h
      refine g_iinc (j := 3) (v := x7) (lv' := [(3, .int x7), (0, .ref t), (1, .int p1), (2, .int p2)]) dX3_numberOf_31 rfl (by rw [ex7]; rfl) (Nat.le_of_ble_eq_true rfl) rfl ?_
      refine g_goto (t := 2) dX3_numberOf_34 (by decide) ?_
      refine g_sub [1, 2, 3, 0] rfl ?_
      exact ih x7 σ h
    · replace h := if_t h c6
      refine g_iload_n dX3_numberOf_29 rfl 3 rfl ?_
      obtain ⟨rfl, rfl⟩ := so_inj h
      exact g_iret dX3_numberOf_30 rfl
def fX3_numberOf (t : Nat) (p1 : Int32) (p2 : Int32) (σ : gS) : Option (Int32 × gS) :=
  fX3_numberOf_2 t p1 p2 2000 0 σ
set_option maxHeartbeats 4000000 in
set_option maxRecDepth 100000 in
theorem pX3_numberOf {E : gE} {t : Nat} {p1 : Int32} {p2 : Int32} {r : Int32} {σ' : gS} {σ : gS} (ht : gLk t) (h : fX3_numberOf t p1 p2 σ = some (r, σ')) : gG E mX3_numberOf 0 [(0, .ref t), (1, .int p1), (2, .int p2)] [] σ (some (.int r)) σ' := by
  unfold fX3_numberOf at h
  refine g_iconst (v := 0) dX3_numberOf_0 (by decide) ?_
  refine g_istore_n (lv' := [(3, .int 0), (0, .ref t), (1, .int p1), (2, .int p2)]) dX3_numberOf_1 rfl (Nat.le_of_ble_eq_true rfl) rfl ?_
  refine g_sub [1, 2, 3, 0] rfl ?_
  exact pX3_numberOf_2 ht 2000 0 σ h
theorem zX3_numberOf {E : gE} {t : Nat} {p1 : Int32} {p2 : Int32} {r : Int32} {σ σ' : gS} (ht : gLk t) (h : fX3_numberOf t p1 p2 σ = some (r, σ')) : gC E mX3_numberOf [.ref t, .int p1, .int p2] σ (some (.int r)) σ' :=
  gC_of (by decide +kernel) rfl (Nat.le_of_ble_eq_true rfl) (pX3_numberOf ht h)
def mX3_grounds : gM := (yX3_grounds, cX3_grounds, RX3, 3, (some .int), 2, 43)
theorem dX3_grounds_0 : decode mX3_grounds.2.1 0 = .ok (.iconst 0, 1) := by decide +kernel
theorem dX3_grounds_1 : decode mX3_grounds.2.1 1 = .ok (.istore_n 1, 1) := by decide +kernel
theorem dX3_grounds_2 : decode mX3_grounds.2.1 2 = .ok (.iconst 0, 1) := by decide +kernel
theorem dX3_grounds_3 : decode mX3_grounds.2.1 3 = .ok (.istore_n 2, 1) := by decide +kernel
theorem dX3_grounds_4 : decode mX3_grounds.2.1 4 = .ok (.iload_n 2, 1) := by decide +kernel
theorem dX3_grounds_5 : decode mX3_grounds.2.1 5 = .ok (.aload_n 0, 1) := by decide +kernel
theorem dX3_grounds_6 : decode mX3_grounds.2.1 6 = .ok (.getfield 32, 3) := by decide +kernel
theorem dX3_grounds_9 : decode mX3_grounds.2.1 9 = .ok (.iconst 0, 1) := by decide +kernel
theorem dX3_grounds_10 : decode mX3_grounds.2.1 10 = .ok (.iaload, 1) := by decide +kernel
theorem dX3_grounds_11 : decode mX3_grounds.2.1 11 = .ok (.if_icmp .ge 20, 3) := by decide +kernel
theorem dX3_grounds_14 : decode mX3_grounds.2.1 14 = .ok (.aload_n 0, 1) := by decide +kernel
theorem dX3_grounds_15 : decode mX3_grounds.2.1 15 = .ok (.iload_n 2, 1) := by decide +kernel
theorem dX3_grounds_16 : decode mX3_grounds.2.1 16 = .ok (.invokevirtual 72, 3) := by decide +kernel
theorem dX3_grounds_19 : decode mX3_grounds.2.1 19 = .ok (.ifCond .eq 6, 3) := by decide +kernel
theorem dX3_grounds_22 : decode mX3_grounds.2.1 22 = .ok (.iinc 1 1, 3) := by decide +kernel
theorem dX3_grounds_25 : decode mX3_grounds.2.1 25 = .ok (.iinc 2 1, 3) := by decide +kernel
theorem dX3_grounds_28 : decode mX3_grounds.2.1 28 = .ok (.goto (-24), 3) := by decide +kernel
theorem dX3_grounds_31 : decode mX3_grounds.2.1 31 = .ok (.iload_n 1, 1) := by decide +kernel
theorem dX3_grounds_32 : decode mX3_grounds.2.1 32 = .ok (.ireturn, 1) := by decide +kernel
theorem okX3_grounds_72 : gOkV mX3_grounds mX3_isGround 72 1 := ⟨List.forall_mem_cons.mpr ⟨(gm 721 (by decide +kernel) rfl), List.forall_mem_cons.mpr ⟨(gm 1201 (by decide +kernel) rfl), List.forall_mem_cons.mpr ⟨(gm 719 (by decide +kernel) rfl), List.forall_mem_cons.mpr ⟨(gm 720 (by decide +kernel) rfl), List.forall_mem_cons.mpr ⟨(gm 109 (by decide +kernel) rfl), fun _ h => absurd h List.not_mem_nil⟩⟩⟩⟩⟩, by decide +kernel, by decide +kernel, by decide +kernel⟩
def fX3_grounds_25 (t : Nat) (k4 : Int32 → Int32 → gS → Option (Int32 × gS)) (v1 : Int32) (v2 : Int32) (σ : gS) : Option (Int32 × gS) :=
  bnd (v2 + 1) fun x1 =>
  k4 v1 x1 σ
set_option maxHeartbeats 4000000 in
set_option maxRecDepth 100000 in
theorem pX3_grounds_25 {E : gE} {t : Nat} {k4 : Int32 → Int32 → gS → Option (Int32 × gS)} {r : Int32} {σ' : gS} {v1 : Int32} {v2 : Int32} {σ : gS} (ht : gLk t) (hk4 : ∀ (v1 : Int32) (v2 : Int32) (σ : gS), k4 v1 v2 σ = some (r, σ') → gG E mX3_grounds 4 [(0, .ref t), (1, .int v1), (2, .int v2)] [] σ (some (.int r)) σ') (h : fX3_grounds_25 t k4 v1 v2 σ = some (r, σ')) : gG E mX3_grounds 25 [(0, .ref t), (1, .int v1), (2, .int v2)] [] σ (some (.int r)) σ' := by
  unfold fX3_grounds_25 at h
  obtain ⟨x1, ex1, h⟩ := bnd_nm h
  refine g_iinc (j := 2) (v := x1) (lv' := [(2, .int x1), (0, .ref t), (1, .int v1)]) dX3_grounds_25 rfl (by rw [ex1]; rfl) (Nat.le_of_ble_eq_true rfl) rfl ?_
  refine g_goto (t := 4) dX3_grounds_28 (by decide) ?_
  refine g_sub [1, 2, 0] rfl ?_
  exact hk4 v1 x1 σ h
def fX3_grounds_4 (t : Nat) : Nat → Int32 → Int32 → gS → Option (Int32 × gS)
  | 0, _, _, _ => none
  | n + 1, v1, v2, σ => if (σ.1 (t + 11) ((0 : Int32).toNatClampNeg)) ≤ v2 then
    some (v1, σ)
  else
    bd (fX3_isGround t v2 σ) fun x2 σ3 =>
    if x2 = 0 then
      fX3_grounds_25 t (fun v1 v2 σ => fX3_grounds_4 t n v1 v2 σ) v1 v2 σ3
    else
      bnd (v1 + 1) fun x6 =>
      fX3_grounds_25 t (fun v1 v2 σ => fX3_grounds_4 t n v1 v2 σ) x6 v2 σ3
set_option maxHeartbeats 4000000 in
set_option maxRecDepth 100000 in
theorem pX3_grounds_4 {E : gE} {t : Nat} {r : Int32} {σ' : gS} (ht : gLk t) : ∀ (n : Nat) (v1 : Int32) (v2 : Int32) (σ : gS), fX3_grounds_4 t n v1 v2 σ = some (r, σ') → gG E mX3_grounds 4 [(0, .ref t), (1, .int v1), (2, .int v2)] [] σ (some (.int r)) σ' := by
  intro n
  induction n with
  | zero => intro v1 v2 σ h; exact absurd (show none = some (r, σ') from h) (by intro q; cases q)
  | succ n ih =>
  intro v1 v2 σ h
  unfold fX3_grounds_4 at h
  refine g_iload_n dX3_grounds_4 rfl 2 rfl ?_
  refine g_aload_n dX3_grounds_5 rfl 0 rfl ?_
  refine g_getC (n := (t + 11)) dX3_grounds_6 (gi_lk ht) rfl fl_RX3_32 ?_
  refine g_iconst (v := 0) dX3_grounds_9 (by decide) ?_
  refine g_iald dX3_grounds_10 (gi_lk11 ht) (by unfold vp_in; decide) ?_
  refine g_icmp_ge (t := 31) dX3_grounds_11 (by decide) (fun c1 => ?_) (fun c1 => ?_)
  · replace h := if_t h c1
    refine g_iload_n dX3_grounds_31 rfl 1 rfl ?_
    obtain ⟨rfl, rfl⟩ := so_inj h
    exact g_iret dX3_grounds_32 rfl
  · replace h := if_f h c1
    refine g_aload_n dX3_grounds_14 rfl 0 rfl ?_
    refine g_iload_n dX3_grounds_15 rfl 2 rfl ?_
    obtain ⟨x2, σ3, y4, h⟩ := bd_some h
    refine g_callVr (as := [.int v2]) (st := []) (zX3_isGround ht y4) dX3_grounds_16 (gi_lk ht) rfl okX3_grounds_72 (Nat.le_of_ble_eq_true rfl) ?_
    refine g_if_eq (t := 25) dX3_grounds_19 (by decide) (fun c5 => ?_) (fun c5 => ?_)
    · replace h := if_t h c5
      exact pX3_grounds_25 ht (fun v1 v2 σ h => ih v1 v2 σ h) h
    · replace h := if_f h c5
      obtain ⟨x6, ex6, h⟩ := bnd_nm h
      refine g_iinc (j := 1) (v := x6) (lv' := [(1, .int x6), (0, .ref t), (2, .int v2)]) dX3_grounds_22 rfl (by rw [ex6]; rfl) (Nat.le_of_ble_eq_true rfl) rfl ?_
      refine g_sub [1, 0, 2] rfl ?_
      exact pX3_grounds_25 ht (fun v1 v2 σ h => ih v1 v2 σ h) h
def fX3_grounds (t : Nat) (σ : gS) : Option (Int32 × gS) :=
  fX3_grounds_4 t 2000 0 0 σ
set_option maxHeartbeats 4000000 in
set_option maxRecDepth 100000 in
theorem pX3_grounds {E : gE} {t : Nat} {r : Int32} {σ' : gS} {σ : gS} (ht : gLk t) (h : fX3_grounds t σ = some (r, σ')) : gG E mX3_grounds 0 [(0, .ref t)] [] σ (some (.int r)) σ' := by
  unfold fX3_grounds at h
  refine g_iconst (v := 0) dX3_grounds_0 (by decide) ?_
  refine g_istore_n (lv' := [(1, .int 0), (0, .ref t)]) dX3_grounds_1 rfl (Nat.le_of_ble_eq_true rfl) rfl ?_
  refine g_iconst (v := 0) dX3_grounds_2 (by decide) ?_
  refine g_istore_n (lv' := [(2, .int 0), (1, .int 0), (0, .ref t)]) dX3_grounds_3 rfl (Nat.le_of_ble_eq_true rfl) rfl ?_
  refine g_sub [2, 1, 0] rfl ?_
  exact pX3_grounds_4 ht 2000 0 0 σ h
theorem zX3_grounds {E : gE} {t : Nat} {r : Int32} {σ σ' : gS} (ht : gLk t) (h : fX3_grounds t σ = some (r, σ')) : gC E mX3_grounds [.ref t] σ (some (.int r)) σ' :=
  gC_of (by decide +kernel) rfl (Nat.le_of_ble_eq_true rfl) (pX3_grounds ht h)
def mX3_acrossBar : gM := (yX3_acrossBar, cX3_acrossBar, RX3, 5, (some .int), 1, 22)
theorem dX3_acrossBar_0 : decode mX3_acrossBar.2.1 0 = .ok (.aload_n 0, 1) := by decide +kernel
theorem dX3_acrossBar_1 : decode mX3_acrossBar.2.1 1 = .ok (.iconst 1, 1) := by decide +kernel
theorem dX3_acrossBar_2 : decode mX3_acrossBar.2.1 2 = .ok (.iload_n 1, 1) := by decide +kernel
theorem dX3_acrossBar_3 : decode mX3_acrossBar.2.1 3 = .ok (.invokevirtual 62, 3) := by decide +kernel
theorem dX3_acrossBar_6 : decode mX3_acrossBar.2.1 6 = .ok (.istore_n 3, 1) := by decide +kernel
theorem dX3_acrossBar_7 : decode mX3_acrossBar.2.1 7 = .ok (.aload_n 0, 1) := by decide +kernel
theorem dX3_acrossBar_8 : decode mX3_acrossBar.2.1 8 = .ok (.iconst 1, 1) := by decide +kernel
theorem dX3_acrossBar_9 : decode mX3_acrossBar.2.1 9 = .ok (.iload_n 1, 1) := by decide +kernel
theorem dX3_acrossBar_10 : decode mX3_acrossBar.2.1 10 = .ok (.invokevirtual 66, 3) := by decide +kernel
theorem dX3_acrossBar_13 : decode mX3_acrossBar.2.1 13 = .ok (.istore 4, 2) := by decide +kernel
theorem dX3_acrossBar_15 : decode mX3_acrossBar.2.1 15 = .ok (.iload_n 3, 1) := by decide +kernel
theorem dX3_acrossBar_16 : decode mX3_acrossBar.2.1 16 = .ok (.iload_n 2, 1) := by decide +kernel
theorem dX3_acrossBar_17 : decode mX3_acrossBar.2.1 17 = .ok (.if_icmp .ne 6, 3) := by decide +kernel
theorem dX3_acrossBar_20 : decode mX3_acrossBar.2.1 20 = .ok (.iload 4, 2) := by decide +kernel
theorem dX3_acrossBar_22 : decode mX3_acrossBar.2.1 22 = .ok (.ireturn, 1) := by decide +kernel
theorem dX3_acrossBar_23 : decode mX3_acrossBar.2.1 23 = .ok (.iload 4, 2) := by decide +kernel
theorem dX3_acrossBar_25 : decode mX3_acrossBar.2.1 25 = .ok (.iload_n 2, 1) := by decide +kernel
theorem dX3_acrossBar_26 : decode mX3_acrossBar.2.1 26 = .ok (.if_icmp .ne 7, 3) := by decide +kernel
theorem dX3_acrossBar_29 : decode mX3_acrossBar.2.1 29 = .ok (.iload_n 3, 1) := by decide +kernel
theorem dX3_acrossBar_30 : decode mX3_acrossBar.2.1 30 = .ok (.goto 5, 3) := by decide +kernel
theorem dX3_acrossBar_33 : decode mX3_acrossBar.2.1 33 = .ok (.ldc 35, 2) := by decide +kernel
theorem dX3_acrossBar_35 : decode mX3_acrossBar.2.1 35 = .ok (.ireturn, 1) := by decide +kernel
theorem okX3_acrossBar_62 : gOkV mX3_acrossBar mX3_firstOf 62 2 := ⟨List.forall_mem_cons.mpr ⟨(gm 680 (by decide +kernel) rfl), List.forall_mem_cons.mpr ⟨(gm 677 (by decide +kernel) rfl), List.forall_mem_cons.mpr ⟨(gm 678 (by decide +kernel) rfl), List.forall_mem_cons.mpr ⟨(gm 679 (by decide +kernel) rfl), List.forall_mem_cons.mpr ⟨(gm 109 (by decide +kernel) rfl), fun _ h => absurd h List.not_mem_nil⟩⟩⟩⟩⟩, by decide +kernel, by decide +kernel, by decide +kernel⟩
theorem okX3_acrossBar_66 : gOkV mX3_acrossBar mX3_secondOf 66 2 := ⟨List.forall_mem_cons.mpr ⟨(gm 688 (by decide +kernel) rfl), List.forall_mem_cons.mpr ⟨(gm 685 (by decide +kernel) rfl), List.forall_mem_cons.mpr ⟨(gm 686 (by decide +kernel) rfl), List.forall_mem_cons.mpr ⟨(gm 687 (by decide +kernel) rfl), List.forall_mem_cons.mpr ⟨(gm 109 (by decide +kernel) rfl), fun _ h => absurd h List.not_mem_nil⟩⟩⟩⟩⟩, by decide +kernel, by decide +kernel, by decide +kernel⟩
def fX3_acrossBar_35 (t : Nat) (p1 : Int32) (p2 : Int32) (s0 : Int32) (σ : gS) : Option (Int32 × gS) :=
  some (s0, σ)
set_option maxHeartbeats 4000000 in
set_option maxRecDepth 100000 in
theorem pX3_acrossBar_35 {E : gE} {t : Nat} {p1 : Int32} {p2 : Int32} {r : Int32} {σ' : gS} {s0 : Int32} {σ : gS} (ht : gLk t) (h : fX3_acrossBar_35 t p1 p2 s0 σ = some (r, σ')) : gG E mX3_acrossBar 35 [] [.int s0] σ (some (.int r)) σ' := by
  unfold fX3_acrossBar_35 at h
  obtain ⟨rfl, rfl⟩ := so_inj h
  exact g_iret dX3_acrossBar_35 rfl
def fX3_acrossBar (t : Nat) (p1 : Int32) (p2 : Int32) (σ : gS) : Option (Int32 × gS) :=
  bd (fX3_firstOf t 1 p1 σ) fun x1 σ2 =>
  bd (fX3_secondOf t 1 p1 σ2) fun x4 σ5 =>
  if x1 = p2 then
    some (x4, σ5)
  else
    if x4 = p2 then
      fX3_acrossBar_35 t p1 p2 x1 σ5
    else
      fX3_acrossBar_35 t p1 p2 (-1000000) σ5
set_option maxHeartbeats 4000000 in
set_option maxRecDepth 100000 in
theorem pX3_acrossBar {E : gE} {t : Nat} {p1 : Int32} {p2 : Int32} {r : Int32} {σ' : gS} {σ : gS} (ht : gLk t) (h : fX3_acrossBar t p1 p2 σ = some (r, σ')) : gG E mX3_acrossBar 0 [(0, .ref t), (1, .int p1), (2, .int p2)] [] σ (some (.int r)) σ' := by
  unfold fX3_acrossBar at h
  refine g_aload_n dX3_acrossBar_0 rfl 0 rfl ?_
  refine g_iconst (v := 1) dX3_acrossBar_1 (by decide) ?_
  refine g_iload_n dX3_acrossBar_2 rfl 1 rfl ?_
  obtain ⟨x1, σ2, y3, h⟩ := bd_some h
  refine g_callVr (as := [.int 1, .int p1]) (st := []) (zX3_firstOf ht y3) dX3_acrossBar_3 (gi_lk ht) rfl okX3_acrossBar_62 (Nat.le_of_ble_eq_true rfl) ?_
  refine g_istore_n (lv' := [(3, .int x1), (0, .ref t), (1, .int p1), (2, .int p2)]) dX3_acrossBar_6 rfl (Nat.le_of_ble_eq_true rfl) rfl ?_
  refine g_aload_n dX3_acrossBar_7 rfl 1 rfl ?_
  refine g_iconst (v := 1) dX3_acrossBar_8 (by decide) ?_
  refine g_iload_n dX3_acrossBar_9 rfl 2 rfl ?_
  obtain ⟨x4, σ5, y6, h⟩ := bd_some h
  refine g_callVr (as := [.int 1, .int p1]) (st := []) (zX3_secondOf ht y6) dX3_acrossBar_10 (gi_lk ht) rfl okX3_acrossBar_66 (Nat.le_of_ble_eq_true rfl) ?_
  refine g_istore (lv' := [(4, .int x4), (3, .int x1), (0, .ref t), (1, .int p1), (2, .int p2)]) dX3_acrossBar_13 (Nat.le_of_ble_eq_true rfl) rfl ?_
  refine g_iload_n dX3_acrossBar_15 rfl 1 rfl ?_
  refine g_iload_n dX3_acrossBar_16 rfl 4 rfl ?_
  refine g_icmp_ne (t := 23) dX3_acrossBar_17 (by decide) (fun c7 => ?_) (fun c7 => ?_)
  · replace h := if_f h c7
    refine g_iload dX3_acrossBar_23 0 rfl ?_
    refine g_iload_n dX3_acrossBar_25 rfl 4 rfl ?_
    refine g_icmp_ne (t := 33) dX3_acrossBar_26 (by decide) (fun c8 => ?_) (fun c8 => ?_)
    · replace h := if_f h c8
      refine g_ldc (v := (-1000000)) dX3_acrossBar_33 wc_RX3_35 ?_
      refine g_sub [] rfl ?_
      exact pX3_acrossBar_35 ht h
    · replace h := if_t h c8
      refine g_iload_n dX3_acrossBar_29 rfl 1 rfl ?_
      refine g_goto (t := 35) dX3_acrossBar_30 (by decide) ?_
      refine g_sub [] rfl ?_
      exact pX3_acrossBar_35 ht h
  · replace h := if_t h c7
    refine g_iload dX3_acrossBar_20 0 rfl ?_
    obtain ⟨rfl, rfl⟩ := so_inj h
    exact g_iret dX3_acrossBar_22 rfl
theorem zX3_acrossBar {E : gE} {t : Nat} {p1 : Int32} {p2 : Int32} {r : Int32} {σ σ' : gS} (ht : gLk t) (h : fX3_acrossBar t p1 p2 σ = some (r, σ')) : gC E mX3_acrossBar [.ref t, .int p1, .int p2] σ (some (.int r)) σ' :=
  gC_of (by decide +kernel) rfl (Nat.le_of_ble_eq_true rfl) (pX3_acrossBar ht h)
def mX3_hasBar : gM := (yX3_hasBar, cX3_hasBar, RX3, 4, (some .boolean), 2, 46)
theorem dX3_hasBar_0 : decode mX3_hasBar.2.1 0 = .ok (.iconst 0, 1) := by decide +kernel
theorem dX3_hasBar_1 : decode mX3_hasBar.2.1 1 = .ok (.istore_n 3, 1) := by decide +kernel
theorem dX3_hasBar_2 : decode mX3_hasBar.2.1 2 = .ok (.iload_n 3, 1) := by decide +kernel
theorem dX3_hasBar_3 : decode mX3_hasBar.2.1 3 = .ok (.aload_n 0, 1) := by decide +kernel
theorem dX3_hasBar_4 : decode mX3_hasBar.2.1 4 = .ok (.getfield 32, 3) := by decide +kernel
theorem dX3_hasBar_7 : decode mX3_hasBar.2.1 7 = .ok (.iconst 1, 1) := by decide +kernel
theorem dX3_hasBar_8 : decode mX3_hasBar.2.1 8 = .ok (.iaload, 1) := by decide +kernel
theorem dX3_hasBar_9 : decode mX3_hasBar.2.1 9 = .ok (.if_icmp .ge 21, 3) := by decide +kernel
theorem dX3_hasBar_12 : decode mX3_hasBar.2.1 12 = .ok (.aload_n 0, 1) := by decide +kernel
theorem dX3_hasBar_13 : decode mX3_hasBar.2.1 13 = .ok (.iload_n 3, 1) := by decide +kernel
theorem dX3_hasBar_14 : decode mX3_hasBar.2.1 14 = .ok (.iload_n 1, 1) := by decide +kernel
theorem dX3_hasBar_15 : decode mX3_hasBar.2.1 15 = .ok (.invokevirtual 75, 3) := by decide +kernel
theorem dX3_hasBar_18 : decode mX3_hasBar.2.1 18 = .ok (.iload_n 2, 1) := by decide +kernel
theorem dX3_hasBar_19 : decode mX3_hasBar.2.1 19 = .ok (.if_icmp .ne 5, 3) := by decide +kernel
theorem dX3_hasBar_22 : decode mX3_hasBar.2.1 22 = .ok (.iconst 1, 1) := by decide +kernel
theorem dX3_hasBar_23 : decode mX3_hasBar.2.1 23 = .ok (.ireturn, 1) := by decide +kernel
theorem dX3_hasBar_24 : decode mX3_hasBar.2.1 24 = .ok (.iinc 3 1, 3) := by decide +kernel
theorem dX3_hasBar_27 : decode mX3_hasBar.2.1 27 = .ok (.goto (-25), 3) := by decide +kernel
theorem dX3_hasBar_30 : decode mX3_hasBar.2.1 30 = .ok (.iconst 0, 1) := by decide +kernel
theorem dX3_hasBar_31 : decode mX3_hasBar.2.1 31 = .ok (.ireturn, 1) := by decide +kernel
theorem okX3_hasBar_75 : gOkV mX3_hasBar mX3_acrossBar 75 2 := ⟨List.forall_mem_cons.mpr ⟨(gm 696 (by decide +kernel) rfl), List.forall_mem_cons.mpr ⟨(gm 693 (by decide +kernel) rfl), List.forall_mem_cons.mpr ⟨(gm 694 (by decide +kernel) rfl), List.forall_mem_cons.mpr ⟨(gm 695 (by decide +kernel) rfl), List.forall_mem_cons.mpr ⟨(gm 109 (by decide +kernel) rfl), fun _ h => absurd h List.not_mem_nil⟩⟩⟩⟩⟩, by decide +kernel, by decide +kernel, by decide +kernel⟩
def fX3_hasBar_2 (t : Nat) (p1 : Int32) (p2 : Int32) : Nat → Int32 → gS → Option (Int32 × gS)
  | 0, _, _ => none
  | n + 1, v3, σ => if (σ.1 (t + 11) ((1 : Int32).toNatClampNeg)) ≤ v3 then
    some (0, σ)
  else
    bd (fX3_acrossBar t v3 p1 σ) fun x2 σ3 =>
    if x2 = p2 then
      some (1, σ3)
    else
      bnd (v3 + 1) fun x6 =>
      fX3_hasBar_2 t p1 p2 n x6 σ3
set_option maxHeartbeats 4000000 in
set_option maxRecDepth 100000 in
theorem pX3_hasBar_2 {E : gE} {t : Nat} {p1 : Int32} {p2 : Int32} {r : Int32} {σ' : gS} (ht : gLk t) : ∀ (n : Nat) (v3 : Int32) (σ : gS), fX3_hasBar_2 t p1 p2 n v3 σ = some (r, σ') → gG E mX3_hasBar 2 [(0, .ref t), (1, .int p1), (2, .int p2), (3, .int v3)] [] σ (some (.int r)) σ' := by
  intro n
  induction n with
  | zero => intro v3 σ h; exact absurd (show none = some (r, σ') from h) (by intro q; cases q)
  | succ n ih =>
  intro v3 σ h
  unfold fX3_hasBar_2 at h
  refine g_iload_n dX3_hasBar_2 rfl 3 rfl ?_
  refine g_aload_n dX3_hasBar_3 rfl 0 rfl ?_
  refine g_getC (n := (t + 11)) dX3_hasBar_4 (gi_lk ht) rfl fl_RX3_32 ?_
  refine g_iconst (v := 1) dX3_hasBar_7 (by decide) ?_
  refine g_iald dX3_hasBar_8 (gi_lk11 ht) (by unfold vp_in; decide) ?_
  refine g_icmp_ge (t := 30) dX3_hasBar_9 (by decide) (fun c1 => ?_) (fun c1 => ?_)
  · replace h := if_t h c1
    refine g_iconst (v := 0) dX3_hasBar_30 (by decide) ?_
    obtain ⟨rfl, rfl⟩ := so_inj h
    exact g_zret dX3_hasBar_31 rfl (Or.inl rfl)
  · replace h := if_f h c1
    refine g_aload_n dX3_hasBar_12 rfl 0 rfl ?_
    refine g_iload_n dX3_hasBar_13 rfl 3 rfl ?_
    refine g_iload_n dX3_hasBar_14 rfl 1 rfl ?_
    obtain ⟨x2, σ3, y4, h⟩ := bd_some h
    refine g_callVr (as := [.int v3, .int p1]) (st := []) (zX3_acrossBar ht y4) dX3_hasBar_15 (gi_lk ht) rfl okX3_hasBar_75 (Nat.le_of_ble_eq_true rfl) ?_
    refine g_iload_n dX3_hasBar_18 rfl 2 rfl ?_
    refine g_icmp_ne (t := 24) dX3_hasBar_19 (by decide) (fun c5 => ?_) (fun c5 => ?_)
    · replace h := if_f h c5
      obtain ⟨x6, ex6, h⟩ := bnd_nm h
      refine g_iinc (j := 3) (v := x6) (lv' := [(3, .int x6), (0, .ref t), (1, .int p1), (2, .int p2)]) dX3_hasBar_24 rfl (by rw [ex6]; rfl) (Nat.le_of_ble_eq_true rfl) rfl ?_
      refine g_goto (t := 2) dX3_hasBar_27 (by decide) ?_
      refine g_sub [1, 2, 3, 0] rfl ?_
      exact ih x6 σ3 h
    · replace h := if_t h c5
      refine g_iconst (v := 1) dX3_hasBar_22 (by decide) ?_
      obtain ⟨rfl, rfl⟩ := so_inj h
      exact g_zret dX3_hasBar_23 rfl (Or.inr rfl)
def fX3_hasBar (t : Nat) (p1 : Int32) (p2 : Int32) (σ : gS) : Option (Int32 × gS) :=
  fX3_hasBar_2 t p1 p2 2000 0 σ
set_option maxHeartbeats 4000000 in
set_option maxRecDepth 100000 in
theorem pX3_hasBar {E : gE} {t : Nat} {p1 : Int32} {p2 : Int32} {r : Int32} {σ' : gS} {σ : gS} (ht : gLk t) (h : fX3_hasBar t p1 p2 σ = some (r, σ')) : gG E mX3_hasBar 0 [(0, .ref t), (1, .int p1), (2, .int p2)] [] σ (some (.int r)) σ' := by
  unfold fX3_hasBar at h
  refine g_iconst (v := 0) dX3_hasBar_0 (by decide) ?_
  refine g_istore_n (lv' := [(3, .int 0), (0, .ref t), (1, .int p1), (2, .int p2)]) dX3_hasBar_1 rfl (Nat.le_of_ble_eq_true rfl) rfl ?_
  refine g_sub [1, 2, 3, 0] rfl ?_
  exact pX3_hasBar_2 ht 2000 0 σ h
theorem zX3_hasBar {E : gE} {t : Nat} {p1 : Int32} {p2 : Int32} {r : Int32} {σ σ' : gS} (ht : gLk t) (h : fX3_hasBar t p1 p2 σ = some (r, σ')) : gC E mX3_hasBar [.ref t, .int p1, .int p2] σ (some (.int r)) σ' :=
  gC_of (by decide +kernel) rfl (Nat.le_of_ble_eq_true rfl) (pX3_hasBar ht h)
def mX3_squareApart : gM := (yX3_squareApart, cX3_squareApart, RX3, 5, (some .int), 2, 43)
theorem dX3_squareApart_0 : decode mX3_squareApart.2.1 0 = .ok (.aload_n 0, 1) := by decide +kernel
theorem dX3_squareApart_1 : decode mX3_squareApart.2.1 1 = .ok (.iload_n 1, 1) := by decide +kernel
theorem dX3_squareApart_2 : decode mX3_squareApart.2.1 2 = .ok (.invokevirtual 78, 3) := by decide +kernel
theorem dX3_squareApart_5 : decode mX3_squareApart.2.1 5 = .ok (.aload_n 0, 1) := by decide +kernel
theorem dX3_squareApart_6 : decode mX3_squareApart.2.1 6 = .ok (.iload_n 2, 1) := by decide +kernel
theorem dX3_squareApart_7 : decode mX3_squareApart.2.1 7 = .ok (.invokevirtual 78, 3) := by decide +kernel
theorem dX3_squareApart_10 : decode mX3_squareApart.2.1 10 = .ok (.isub, 1) := by decide +kernel
theorem dX3_squareApart_11 : decode mX3_squareApart.2.1 11 = .ok (.istore_n 3, 1) := by decide +kernel
theorem dX3_squareApart_12 : decode mX3_squareApart.2.1 12 = .ok (.aload_n 0, 1) := by decide +kernel
theorem dX3_squareApart_13 : decode mX3_squareApart.2.1 13 = .ok (.iload_n 1, 1) := by decide +kernel
theorem dX3_squareApart_14 : decode mX3_squareApart.2.1 14 = .ok (.invokevirtual 82, 3) := by decide +kernel
theorem dX3_squareApart_17 : decode mX3_squareApart.2.1 17 = .ok (.aload_n 0, 1) := by decide +kernel
theorem dX3_squareApart_18 : decode mX3_squareApart.2.1 18 = .ok (.iload_n 2, 1) := by decide +kernel
theorem dX3_squareApart_19 : decode mX3_squareApart.2.1 19 = .ok (.invokevirtual 82, 3) := by decide +kernel
theorem dX3_squareApart_22 : decode mX3_squareApart.2.1 22 = .ok (.isub, 1) := by decide +kernel
theorem dX3_squareApart_23 : decode mX3_squareApart.2.1 23 = .ok (.istore 4, 2) := by decide +kernel
theorem dX3_squareApart_25 : decode mX3_squareApart.2.1 25 = .ok (.iload_n 3, 1) := by decide +kernel
theorem dX3_squareApart_26 : decode mX3_squareApart.2.1 26 = .ok (.iload_n 3, 1) := by decide +kernel
theorem dX3_squareApart_27 : decode mX3_squareApart.2.1 27 = .ok (.imul, 1) := by decide +kernel
theorem dX3_squareApart_28 : decode mX3_squareApart.2.1 28 = .ok (.iload 4, 2) := by decide +kernel
theorem dX3_squareApart_30 : decode mX3_squareApart.2.1 30 = .ok (.iload 4, 2) := by decide +kernel
theorem dX3_squareApart_32 : decode mX3_squareApart.2.1 32 = .ok (.imul, 1) := by decide +kernel
theorem dX3_squareApart_33 : decode mX3_squareApart.2.1 33 = .ok (.iadd, 1) := by decide +kernel
theorem dX3_squareApart_34 : decode mX3_squareApart.2.1 34 = .ok (.ireturn, 1) := by decide +kernel
theorem okX3_squareApart_78 : gOkV mX3_squareApart mX3_x 78 1 := ⟨List.forall_mem_cons.mpr ⟨(gm 676 (by decide +kernel) rfl), List.forall_mem_cons.mpr ⟨(gm 673 (by decide +kernel) rfl), List.forall_mem_cons.mpr ⟨(gm 674 (by decide +kernel) rfl), List.forall_mem_cons.mpr ⟨(gm 675 (by decide +kernel) rfl), List.forall_mem_cons.mpr ⟨(gm 109 (by decide +kernel) rfl), fun _ h => absurd h List.not_mem_nil⟩⟩⟩⟩⟩, by decide +kernel, by decide +kernel, by decide +kernel⟩
theorem okX3_squareApart_82 : gOkV mX3_squareApart mX3_y 82 1 := ⟨List.forall_mem_cons.mpr ⟨(gm 684 (by decide +kernel) rfl), List.forall_mem_cons.mpr ⟨(gm 681 (by decide +kernel) rfl), List.forall_mem_cons.mpr ⟨(gm 682 (by decide +kernel) rfl), List.forall_mem_cons.mpr ⟨(gm 683 (by decide +kernel) rfl), List.forall_mem_cons.mpr ⟨(gm 109 (by decide +kernel) rfl), fun _ h => absurd h List.not_mem_nil⟩⟩⟩⟩⟩, by decide +kernel, by decide +kernel, by decide +kernel⟩
def fX3_squareApart (t : Nat) (p1 : Int32) (p2 : Int32) (σ : gS) : Option (Int32 × gS) :=
  bd (fX3_x t p1 σ) fun x1 σ2 =>
  bd (fX3_x t p2 σ2) fun x4 σ5 =>
  bnd (x1 - x4) fun x7 =>
  bd (fX3_y t p1 σ5) fun x8 σ9 =>
  bd (fX3_y t p2 σ9) fun x11 σ12 =>
  bnd (x8 - x11) fun x14 =>
  some ((x7 * x7) + (x14 * x14), σ12)
set_option maxHeartbeats 4000000 in
set_option maxRecDepth 100000 in
theorem pX3_squareApart {E : gE} {t : Nat} {p1 : Int32} {p2 : Int32} {r : Int32} {σ' : gS} {σ : gS} (ht : gLk t) (h : fX3_squareApart t p1 p2 σ = some (r, σ')) : gG E mX3_squareApart 0 [(0, .ref t), (1, .int p1), (2, .int p2)] [] σ (some (.int r)) σ' := by
  unfold fX3_squareApart at h
  refine g_aload_n dX3_squareApart_0 rfl 0 rfl ?_
  refine g_iload_n dX3_squareApart_1 rfl 1 rfl ?_
  obtain ⟨x1, σ2, y3, h⟩ := bd_some h
  refine g_callVr (as := [.int p1]) (st := []) (zX3_x ht y3) dX3_squareApart_2 (gi_lk ht) rfl okX3_squareApart_78 (Nat.le_of_ble_eq_true rfl) ?_
  refine g_aload_n dX3_squareApart_5 rfl 0 rfl ?_
  refine g_iload_n dX3_squareApart_6 rfl 2 rfl ?_
  obtain ⟨x4, σ5, y6, h⟩ := bd_some h
  refine g_callVr (as := [.int p2]) (st := [.int x1]) (zX3_x ht y6) dX3_squareApart_7 (gi_lk ht) rfl okX3_squareApart_78 (Nat.le_of_ble_eq_true rfl) ?_
  refine g_isub dX3_squareApart_10 ?_
  obtain ⟨x7, ex7, h⟩ := bnd_nm h
  refine g_topi ex7 ?_
  refine g_istore_n (lv' := [(3, .int x7), (0, .ref t), (1, .int p1), (2, .int p2)]) dX3_squareApart_11 rfl (Nat.le_of_ble_eq_true rfl) rfl ?_
  refine g_aload_n dX3_squareApart_12 rfl 1 rfl ?_
  refine g_iload_n dX3_squareApart_13 rfl 2 rfl ?_
  obtain ⟨x8, σ9, y10, h⟩ := bd_some h
  refine g_callVr (as := [.int p1]) (st := []) (zX3_y ht y10) dX3_squareApart_14 (gi_lk ht) rfl okX3_squareApart_82 (Nat.le_of_ble_eq_true rfl) ?_
  refine g_aload_n dX3_squareApart_17 rfl 1 rfl ?_
  refine g_iload_n dX3_squareApart_18 rfl 3 rfl ?_
  obtain ⟨x11, σ12, y13, h⟩ := bd_some h
  refine g_callVr (as := [.int p2]) (st := [.int x8]) (zX3_y ht y13) dX3_squareApart_19 (gi_lk ht) rfl okX3_squareApart_82 (Nat.le_of_ble_eq_true rfl) ?_
  refine g_isub dX3_squareApart_22 ?_
  obtain ⟨x14, ex14, h⟩ := bnd_nm h
  refine g_topi ex14 ?_
  refine g_istore (lv' := [(4, .int x14), (3, .int x7), (0, .ref t), (1, .int p1), (2, .int p2)]) dX3_squareApart_23 (Nat.le_of_ble_eq_true rfl) rfl ?_
  refine g_iload_n dX3_squareApart_25 rfl 1 rfl ?_
  refine g_iload_n dX3_squareApart_26 rfl 1 rfl ?_
  refine g_imul dX3_squareApart_27 ?_
  refine g_iload dX3_squareApart_28 0 rfl ?_
  refine g_iload dX3_squareApart_30 0 rfl ?_
  refine g_imul dX3_squareApart_32 ?_
  refine g_iadd dX3_squareApart_33 ?_
  obtain ⟨rfl, rfl⟩ := so_inj h
  exact g_iret dX3_squareApart_34 rfl
theorem zX3_squareApart {E : gE} {t : Nat} {p1 : Int32} {p2 : Int32} {r : Int32} {σ σ' : gS} (ht : gLk t) (h : fX3_squareApart t p1 p2 σ = some (r, σ')) : gC E mX3_squareApart [.ref t, .int p1, .int p2] σ (some (.int r)) σ' :=
  gC_of (by decide +kernel) rfl (Nat.le_of_ble_eq_true rfl) (pX3_squareApart ht h)
def mX3_sizeOf : gM := (yX3_sizeOf, cX3_sizeOf, RX3, 2, (some .int), 3, 67)
theorem dX3_sizeOf_0 : decode mX3_sizeOf.2.1 0 = .ok (.aload_n 0, 1) := by decide +kernel
theorem dX3_sizeOf_1 : decode mX3_sizeOf.2.1 1 = .ok (.getfield 9, 3) := by decide +kernel
theorem dX3_sizeOf_4 : decode mX3_sizeOf.2.1 4 = .ok (.iload_n 1, 1) := by decide +kernel
theorem dX3_sizeOf_5 : decode mX3_sizeOf.2.1 5 = .ok (.iaload, 1) := by decide +kernel
theorem dX3_sizeOf_6 : decode mX3_sizeOf.2.1 6 = .ok (.lookupswitch 55 #[(2, 26), (3, 48)], 26) := by decide +kernel
theorem dX3_sizeOf_32 : decode mX3_sizeOf.2.1 32 = .ok (.aload_n 0, 1) := by decide +kernel
theorem dX3_sizeOf_33 : decode mX3_sizeOf.2.1 33 = .ok (.aload_n 0, 1) := by decide +kernel
theorem dX3_sizeOf_34 : decode mX3_sizeOf.2.1 34 = .ok (.getfield 18, 3) := by decide +kernel
theorem dX3_sizeOf_37 : decode mX3_sizeOf.2.1 37 = .ok (.iload_n 1, 1) := by decide +kernel
theorem dX3_sizeOf_38 : decode mX3_sizeOf.2.1 38 = .ok (.iaload, 1) := by decide +kernel
theorem dX3_sizeOf_39 : decode mX3_sizeOf.2.1 39 = .ok (.aload_n 0, 1) := by decide +kernel
theorem dX3_sizeOf_40 : decode mX3_sizeOf.2.1 40 = .ok (.getfield 21, 3) := by decide +kernel
theorem dX3_sizeOf_43 : decode mX3_sizeOf.2.1 43 = .ok (.iload_n 1, 1) := by decide +kernel
theorem dX3_sizeOf_44 : decode mX3_sizeOf.2.1 44 = .ok (.iaload, 1) := by decide +kernel
theorem dX3_sizeOf_45 : decode mX3_sizeOf.2.1 45 = .ok (.invokevirtual 85, 3) := by decide +kernel
theorem dX3_sizeOf_48 : decode mX3_sizeOf.2.1 48 = .ok (.i2l, 1) := by decide +kernel
theorem dX3_sizeOf_49 : decode mX3_sizeOf.2.1 49 = .ok (.invokestatic 88, 3) := by decide +kernel
theorem dX3_sizeOf_52 : decode mX3_sizeOf.2.1 52 = .ok (.l2i, 1) := by decide +kernel
theorem dX3_sizeOf_53 : decode mX3_sizeOf.2.1 53 = .ok (.ireturn, 1) := by decide +kernel
theorem dX3_sizeOf_54 : decode mX3_sizeOf.2.1 54 = .ok (.aload_n 0, 1) := by decide +kernel
theorem dX3_sizeOf_55 : decode mX3_sizeOf.2.1 55 = .ok (.getfield 21, 3) := by decide +kernel
theorem dX3_sizeOf_58 : decode mX3_sizeOf.2.1 58 = .ok (.iload_n 1, 1) := by decide +kernel
theorem dX3_sizeOf_59 : decode mX3_sizeOf.2.1 59 = .ok (.iaload, 1) := by decide +kernel
theorem dX3_sizeOf_60 : decode mX3_sizeOf.2.1 60 = .ok (.ireturn, 1) := by decide +kernel
theorem dX3_sizeOf_61 : decode mX3_sizeOf.2.1 61 = .ok (.iconst 0, 1) := by decide +kernel
theorem dX3_sizeOf_62 : decode mX3_sizeOf.2.1 62 = .ok (.ireturn, 1) := by decide +kernel
theorem okX3_sizeOf_85 : gOkV mX3_sizeOf mX3_squareApart 85 2 := ⟨List.forall_mem_cons.mpr ⟨(gm 672 (by decide +kernel) rfl), List.forall_mem_cons.mpr ⟨(gm 1066 (by decide +kernel) rfl), List.forall_mem_cons.mpr ⟨(gm 670 (by decide +kernel) rfl), List.forall_mem_cons.mpr ⟨(gm 671 (by decide +kernel) rfl), List.forall_mem_cons.mpr ⟨(gm 109 (by decide +kernel) rfl), fun _ h => absurd h List.not_mem_nil⟩⟩⟩⟩⟩, by decide +kernel, by decide +kernel, by decide +kernel⟩
theorem okX3_sizeOf_88 : gOkN mX3_sizeOf mX10_rootDown 88 1 "LinkageCurves" := ⟨List.forall_mem_cons.mpr ⟨(gm 938 (by decide +kernel) rfl), List.forall_mem_cons.mpr ⟨(gm 937 (by decide +kernel) rfl), List.forall_mem_cons.mpr ⟨(gm 107 (by decide +kernel) rfl), fun _ h => absurd h List.not_mem_nil⟩⟩⟩, by decide +kernel, by decide +kernel, by decide +kernel, by decide +kernel⟩
def fX3_sizeOf (t : Nat) (p1 : Int32) (σ : gS) : Option (Int32 × gS) :=
  gg (¬ (p1 < 0 ∨ 130 ≤ p1.toNatClampNeg)) (
  if (σ.1 (t + 1) p1.toNatClampNeg) = 2 then
    gg (¬ (p1 < 0 ∨ 130 ≤ p1.toNatClampNeg)) (
    gg (¬ (p1 < 0 ∨ 130 ≤ p1.toNatClampNeg)) (
    bd (fX3_squareApart t (σ.1 (t + 3) p1.toNatClampNeg) (σ.1 (t + 4) p1.toNatClampNeg) σ) fun x5 σ6 =>
    bd (fX10_rootDown x5.toInt64 σ6) fun x8 σ9 =>
    some (x8.toInt32, σ9)))
  else
    if (σ.1 (t + 1) p1.toNatClampNeg) = 3 then
    gg (¬ (p1 < 0 ∨ 130 ≤ p1.toNatClampNeg)) (
      some (σ.1 (t + 4) p1.toNatClampNeg, σ))
  else
    some (0, σ))
set_option maxHeartbeats 4000000 in
set_option maxRecDepth 100000 in
theorem pX3_sizeOf {E : gE} {t : Nat} {p1 : Int32} {r : Int32} {σ' : gS} {σ : gS} (ht : gLk t) (h : fX3_sizeOf t p1 σ = some (r, σ')) : gG E mX3_sizeOf 0 [(0, .ref t), (1, .int p1)] [] σ (some (.int r)) σ' := by
  unfold fX3_sizeOf at h
  refine g_aload_n dX3_sizeOf_0 rfl 0 rfl ?_
  refine g_getC (n := (t + 1)) dX3_sizeOf_1 (gi_lk ht) rfl fl_RX3_9 ?_
  refine g_iload_n dX3_sizeOf_4 rfl 1 rfl ?_
  obtain ⟨g1, h⟩ := gg_some h
  refine g_iald dX3_sizeOf_5 (gi_lk1 ht) g1 ?_
  by_cases c2 : (σ.1 (t + 1) p1.toNatClampNeg) = 2
  · replace h := if_t h c2
    refine g_look (off := 26) (t := 32) dX3_sizeOf_6 (by decide) (by rw [c2]; first | done | rfl) (by decide) ?_
    refine g_aload_n dX3_sizeOf_32 rfl 0 rfl ?_
    refine g_aload_n dX3_sizeOf_33 rfl 0 rfl ?_
    refine g_getC (n := (t + 3)) dX3_sizeOf_34 (gi_lk ht) rfl fl_RX3_18 ?_
    refine g_iload_n dX3_sizeOf_37 rfl 1 rfl ?_
    obtain ⟨g3, h⟩ := gg_some h
    refine g_iald dX3_sizeOf_38 (gi_lk3 ht) g3 ?_
    refine g_aload_n dX3_sizeOf_39 rfl 0 rfl ?_
    refine g_getC (n := (t + 4)) dX3_sizeOf_40 (gi_lk ht) rfl fl_RX3_21 ?_
    refine g_iload_n dX3_sizeOf_43 rfl 1 rfl ?_
    obtain ⟨g4, h⟩ := gg_some h
    refine g_iald dX3_sizeOf_44 (gi_lk4 ht) g4 ?_
    obtain ⟨x5, σ6, y7, h⟩ := bd_some h
    refine g_callVr (as := [.int (σ.1 (t + 3) p1.toNatClampNeg), .int (σ.1 (t + 4) p1.toNatClampNeg)]) (st := []) (zX3_squareApart ht y7) dX3_sizeOf_45 (gi_lk ht) rfl okX3_sizeOf_85 (Nat.le_of_ble_eq_true rfl) ?_
    refine g_i2l dX3_sizeOf_48 ?_
    obtain ⟨x8, σ9, y10, h⟩ := bd_some h
    refine g_callNr (as := [.long x5.toInt64]) (st := []) (zX10_rootDown y10) dX3_sizeOf_49 okX3_sizeOf_88 (Nat.le_of_ble_eq_true rfl) ?_
    refine g_l2i dX3_sizeOf_52 ?_
    obtain ⟨rfl, rfl⟩ := so_inj h
    exact g_iret dX3_sizeOf_53 rfl
  · replace h := if_f h c2
    by_cases c11 : (σ.1 (t + 1) p1.toNatClampNeg) = 3
    · replace h := if_t h c11
      refine g_look (off := 48) (t := 54) dX3_sizeOf_6 (by decide) (by rw [c11]; first | done | rfl) (by decide) ?_
      refine g_aload_n dX3_sizeOf_54 rfl 0 rfl ?_
      refine g_getC (n := (t + 4)) dX3_sizeOf_55 (gi_lk ht) rfl fl_RX3_21 ?_
      refine g_iload_n dX3_sizeOf_58 rfl 1 rfl ?_
      obtain ⟨g12, h⟩ := gg_some h
      refine g_iald dX3_sizeOf_59 (gi_lk4 ht) g12 ?_
      obtain ⟨rfl, rfl⟩ := so_inj h
      exact g_iret dX3_sizeOf_60 rfl
    · replace h := if_f h c11
      refine g_look (off := 55) (t := 61) dX3_sizeOf_6 (by decide) (by rw [lv_osw c2 (by decide), lv_osw c11 (by decide)]; first | done | rfl) (by decide) ?_
      refine g_iconst (v := 0) dX3_sizeOf_61 (by decide) ?_
      obtain ⟨rfl, rfl⟩ := so_inj h
      exact g_iret dX3_sizeOf_62 rfl
theorem zX3_sizeOf {E : gE} {t : Nat} {p1 : Int32} {r : Int32} {σ σ' : gS} (ht : gLk t) (h : fX3_sizeOf t p1 σ = some (r, σ')) : gC E mX3_sizeOf [.ref t, .int p1] σ (some (.int r)) σ' :=
  gC_of (by decide +kernel) rfl (Nat.le_of_ble_eq_true rfl) (pX3_sizeOf ht h)
def mX3_isOfKind : gM := (yX3_isOfKind, cX3_isOfKind, RX3, 5, (some .boolean), 0, 0)
theorem dX3_isOfKind_0 : decode mX3_isOfKind.2.1 0 = .ok (.aload_n 0, 1) := by decide +kernel
theorem dX3_isOfKind_1 : decode mX3_isOfKind.2.1 1 = .ok (.getfield 9, 3) := by decide +kernel
theorem dX3_isOfKind_4 : decode mX3_isOfKind.2.1 4 = .ok (.iload_n 1, 1) := by decide +kernel
theorem dX3_isOfKind_5 : decode mX3_isOfKind.2.1 5 = .ok (.iaload, 1) := by decide +kernel
theorem dX3_isOfKind_6 : decode mX3_isOfKind.2.1 6 = .ok (.istore_n 3, 1) := by decide +kernel
theorem dX3_isOfKind_7 : decode mX3_isOfKind.2.1 7 = .ok (.iconst 0, 1) := by decide +kernel
theorem dX3_isOfKind_8 : decode mX3_isOfKind.2.1 8 = .ok (.istore 4, 2) := by decide +kernel
theorem dX3_isOfKind_10 : decode mX3_isOfKind.2.1 10 = .ok (.iload 4, 2) := by decide +kernel
theorem dX3_isOfKind_12 : decode mX3_isOfKind.2.1 12 = .ok (.bipush 7, 2) := by decide +kernel
theorem dX3_isOfKind_14 : decode mX3_isOfKind.2.1 14 = .ok (.if_icmp .ge 28, 3) := by decide +kernel
theorem dX3_isOfKind_17 : decode mX3_isOfKind.2.1 17 = .ok (.iload_n 3, 1) := by decide +kernel
theorem dX3_isOfKind_18 : decode mX3_isOfKind.2.1 18 = .ok (.ldc 35, 2) := by decide +kernel
theorem dX3_isOfKind_20 : decode mX3_isOfKind.2.1 20 = .ok (.if_icmp .eq 22, 3) := by decide +kernel
theorem dX3_isOfKind_23 : decode mX3_isOfKind.2.1 23 = .ok (.iload_n 3, 1) := by decide +kernel
theorem dX3_isOfKind_24 : decode mX3_isOfKind.2.1 24 = .ok (.iload_n 2, 1) := by decide +kernel
theorem dX3_isOfKind_25 : decode mX3_isOfKind.2.1 25 = .ok (.if_icmp .ne 5, 3) := by decide +kernel
theorem dX3_isOfKind_28 : decode mX3_isOfKind.2.1 28 = .ok (.iconst 1, 1) := by decide +kernel
theorem dX3_isOfKind_29 : decode mX3_isOfKind.2.1 29 = .ok (.ireturn, 1) := by decide +kernel
theorem dX3_isOfKind_30 : decode mX3_isOfKind.2.1 30 = .ok (.getstatic 92, 3) := by decide +kernel
theorem dX3_isOfKind_33 : decode mX3_isOfKind.2.1 33 = .ok (.iload_n 3, 1) := by decide +kernel
theorem dX3_isOfKind_34 : decode mX3_isOfKind.2.1 34 = .ok (.iaload, 1) := by decide +kernel
theorem dX3_isOfKind_35 : decode mX3_isOfKind.2.1 35 = .ok (.istore_n 3, 1) := by decide +kernel
theorem dX3_isOfKind_36 : decode mX3_isOfKind.2.1 36 = .ok (.iinc 4 1, 3) := by decide +kernel
theorem dX3_isOfKind_39 : decode mX3_isOfKind.2.1 39 = .ok (.goto (-29), 3) := by decide +kernel
theorem dX3_isOfKind_42 : decode mX3_isOfKind.2.1 42 = .ok (.iconst 0, 1) := by decide +kernel
theorem dX3_isOfKind_43 : decode mX3_isOfKind.2.1 43 = .ok (.ireturn, 1) := by decide +kernel
def fX3_isOfKind_42 (t : Nat) (p1 : Int32) (p2 : Int32) (σ : gS) : Option (Int32 × gS) :=
  some (0, σ)
set_option maxHeartbeats 4000000 in
set_option maxRecDepth 100000 in
theorem pX3_isOfKind_42 {E : gE} {t : Nat} {p1 : Int32} {p2 : Int32} {r : Int32} {σ' : gS} {σ : gS} (ht : gLk t) (h : fX3_isOfKind_42 t p1 p2 σ = some (r, σ')) : gG E mX3_isOfKind 42 [] [] σ (some (.int r)) σ' := by
  unfold fX3_isOfKind_42 at h
  refine g_iconst (v := 0) dX3_isOfKind_42 (by decide) ?_
  obtain ⟨rfl, rfl⟩ := so_inj h
  exact g_zret dX3_isOfKind_43 rfl (Or.inl rfl)
def fX3_isOfKind_10 (t : Nat) (p1 : Int32) (p2 : Int32) : Nat → Int32 → Int32 → gS → Option (Int32 × gS)
  | 0, _, _, _ => none
  | n + 1, v3, v4, σ => if 7 ≤ v4 then
    fX3_isOfKind_42 t p1 p2 σ
  else
    if v3 = (-1000000) then
      fX3_isOfKind_42 t p1 p2 σ
    else
      if v3 = p2 then
        some (1, σ)
      else
        gg (¬ (v3 < 0 ∨ 7 ≤ v3.toNatClampNeg)) (
        bnd (v4 + 1) fun x5 =>
        fX3_isOfKind_10 t p1 p2 n (gW0 v3.toNatClampNeg) x5 σ)
set_option maxHeartbeats 4000000 in
set_option maxRecDepth 100000 in
theorem pX3_isOfKind_10 {E : gE} {t : Nat} {p1 : Int32} {p2 : Int32} {r : Int32} {σ' : gS} (ht : gLk t) : ∀ (n : Nat) (v3 : Int32) (v4 : Int32) (σ : gS), fX3_isOfKind_10 t p1 p2 n v3 v4 σ = some (r, σ') → gG E mX3_isOfKind 10 [(2, .int p2), (3, .int v3), (4, .int v4)] [] σ (some (.int r)) σ' := by
  intro n
  induction n with
  | zero => intro v3 v4 σ h; exact absurd (show none = some (r, σ') from h) (by intro q; cases q)
  | succ n ih =>
  intro v3 v4 σ h
  unfold fX3_isOfKind_10 at h
  refine g_iload dX3_isOfKind_10 2 rfl ?_
  refine g_bipush (v := 7) dX3_isOfKind_12 (by decide) ?_
  refine g_icmp_ge (t := 42) dX3_isOfKind_14 (by decide) (fun c1 => ?_) (fun c1 => ?_)
  · replace h := if_t h c1
    refine g_sub [] rfl ?_
    exact pX3_isOfKind_42 ht h
  · replace h := if_f h c1
    refine g_iload_n dX3_isOfKind_17 rfl 1 rfl ?_
    refine g_ldc (v := (-1000000)) dX3_isOfKind_18 wc_RX3_35 ?_
    refine g_icmp_eq (t := 42) dX3_isOfKind_20 (by decide) (fun c2 => ?_) (fun c2 => ?_)
    · replace h := if_t h c2
      refine g_sub [] rfl ?_
      exact pX3_isOfKind_42 ht h
    · replace h := if_f h c2
      refine g_iload_n dX3_isOfKind_23 rfl 1 rfl ?_
      refine g_iload_n dX3_isOfKind_24 rfl 0 rfl ?_
      refine g_icmp_ne (t := 30) dX3_isOfKind_25 (by decide) (fun c3 => ?_) (fun c3 => ?_)
      · replace h := if_f h c3
        refine g_gets0 dX3_isOfKind_30 (by decide +kernel) ?_
        refine g_iload_n dX3_isOfKind_33 rfl 1 rfl ?_
        obtain ⟨g4, h⟩ := gg_some h
        refine g_tld0 dX3_isOfKind_34 g4 ?_
        refine g_istore_n (lv' := [(3, .int (gW0 v3.toNatClampNeg)), (2, .int p2), (4, .int v4)]) dX3_isOfKind_35 rfl (Nat.le_of_ble_eq_true rfl) rfl ?_
        obtain ⟨x5, ex5, h⟩ := bnd_nm h
        refine g_iinc (j := 2) (v := x5) (lv' := [(4, .int x5), (3, .int (gW0 v3.toNatClampNeg)), (2, .int p2)]) dX3_isOfKind_36 rfl (by rw [ex5]; rfl) (Nat.le_of_ble_eq_true rfl) rfl ?_
        refine g_goto (t := 10) dX3_isOfKind_39 (by decide) ?_
        refine g_sub [2, 1, 0] rfl ?_
        exact ih (gW0 v3.toNatClampNeg) x5 σ h
      · replace h := if_t h c3
        refine g_iconst (v := 1) dX3_isOfKind_28 (by decide) ?_
        obtain ⟨rfl, rfl⟩ := so_inj h
        exact g_zret dX3_isOfKind_29 rfl (Or.inr rfl)
def fX3_isOfKind (t : Nat) (p1 : Int32) (p2 : Int32) (σ : gS) : Option (Int32 × gS) :=
  gg (¬ (p1 < 0 ∨ 130 ≤ p1.toNatClampNeg)) (
  fX3_isOfKind_10 t p1 p2 2000 (σ.1 (t + 1) p1.toNatClampNeg) 0 σ)
set_option maxHeartbeats 4000000 in
set_option maxRecDepth 100000 in
theorem pX3_isOfKind {E : gE} {t : Nat} {p1 : Int32} {p2 : Int32} {r : Int32} {σ' : gS} {σ : gS} (ht : gLk t) (h : fX3_isOfKind t p1 p2 σ = some (r, σ')) : gG E mX3_isOfKind 0 [(0, .ref t), (1, .int p1), (2, .int p2)] [] σ (some (.int r)) σ' := by
  unfold fX3_isOfKind at h
  refine g_aload_n dX3_isOfKind_0 rfl 0 rfl ?_
  refine g_getC (n := (t + 1)) dX3_isOfKind_1 (gi_lk ht) rfl fl_RX3_9 ?_
  refine g_iload_n dX3_isOfKind_4 rfl 1 rfl ?_
  obtain ⟨g1, h⟩ := gg_some h
  refine g_iald dX3_isOfKind_5 (gi_lk1 ht) g1 ?_
  refine g_istore_n (lv' := [(3, .int (σ.1 (t + 1) p1.toNatClampNeg)), (0, .ref t), (1, .int p1), (2, .int p2)]) dX3_isOfKind_6 rfl (Nat.le_of_ble_eq_true rfl) rfl ?_
  refine g_iconst (v := 0) dX3_isOfKind_7 (by decide) ?_
  refine g_istore (lv' := [(4, .int 0), (3, .int (σ.1 (t + 1) p1.toNatClampNeg)), (0, .ref t), (1, .int p1), (2, .int p2)]) dX3_isOfKind_8 (Nat.le_of_ble_eq_true rfl) rfl ?_
  refine g_sub [4, 1, 0] rfl ?_
  exact pX3_isOfKind_10 ht 2000 (σ.1 (t + 1) p1.toNatClampNeg) 0 σ h
theorem zX3_isOfKind {E : gE} {t : Nat} {p1 : Int32} {p2 : Int32} {r : Int32} {σ σ' : gS} (ht : gLk t) (h : fX3_isOfKind t p1 p2 σ = some (r, σ')) : gC E mX3_isOfKind [.ref t, .int p1, .int p2] σ (some (.int r)) σ' :=
  gC_of (by decide +kernel) rfl (Nat.le_of_ble_eq_true rfl) (pX3_isOfKind ht h)
theorem fl_RX4_16 : gFl RX4 16 4 4 := ⟨RX4, TX4, 7, rfl, by decide, ux_4, Or.inl (gm 339 (by decide +kernel) rfl)⟩
theorem wc_RX4_66 : Cond.constant RX4 66 (-1000000) ∈ gWS := (gm 788 (by decide +kernel) rfl)
theorem fl_RX4_73 : gFl RX4 73 4 2 := ⟨RX4, TX4, 7, rfl, by decide, ux_4, Or.inl (gm 335 (by decide +kernel) rfl)⟩
theorem fp_RX4_73 : gFp RX4 73 4 2 .int := ⟨RX4, TX4, 7, rfl, by decide, ux_4, Or.inl (gm 335 (by decide +kernel) rfl), rfl, by decide +kernel, ⟨tyX4, tyX4_ok⟩, nmX4⟩
def mX4_layColumns : gM := (yX4_layColumns, cX4_layColumns, RX4, 3, none, 2, 43)
theorem dX4_layColumns_0 : decode mX4_layColumns.2.1 0 = .ok (.aload_n 0, 1) := by decide +kernel
theorem dX4_layColumns_1 : decode mX4_layColumns.2.1 1 = .ok (.iconst 0, 1) := by decide +kernel
theorem dX4_layColumns_2 : decode mX4_layColumns.2.1 2 = .ok (.putfield 73, 3) := by decide +kernel
theorem dX4_layColumns_5 : decode mX4_layColumns.2.1 5 = .ok (.iconst 0, 1) := by decide +kernel
theorem dX4_layColumns_6 : decode mX4_layColumns.2.1 6 = .ok (.istore_n 2, 1) := by decide +kernel
theorem dX4_layColumns_7 : decode mX4_layColumns.2.1 7 = .ok (.iload_n 2, 1) := by decide +kernel
theorem dX4_layColumns_8 : decode mX4_layColumns.2.1 8 = .ok (.aload_n 1, 1) := by decide +kernel
theorem dX4_layColumns_9 : decode mX4_layColumns.2.1 9 = .ok (.iconst 0, 1) := by decide +kernel
theorem dX4_layColumns_10 : decode mX4_layColumns.2.1 10 = .ok (.invokevirtual 30, 3) := by decide +kernel
theorem dX4_layColumns_13 : decode mX4_layColumns.2.1 13 = .ok (.if_icmp .ge 45, 3) := by decide +kernel
theorem dX4_layColumns_16 : decode mX4_layColumns.2.1 16 = .ok (.aload_n 0, 1) := by decide +kernel
theorem dX4_layColumns_17 : decode mX4_layColumns.2.1 17 = .ok (.getfield 16, 3) := by decide +kernel
theorem dX4_layColumns_20 : decode mX4_layColumns.2.1 20 = .ok (.iload_n 2, 1) := by decide +kernel
theorem dX4_layColumns_21 : decode mX4_layColumns.2.1 21 = .ok (.ldc 66, 2) := by decide +kernel
theorem dX4_layColumns_23 : decode mX4_layColumns.2.1 23 = .ok (.iastore, 1) := by decide +kernel
theorem dX4_layColumns_24 : decode mX4_layColumns.2.1 24 = .ok (.aload_n 1, 1) := by decide +kernel
theorem dX4_layColumns_25 : decode mX4_layColumns.2.1 25 = .ok (.iload_n 2, 1) := by decide +kernel
theorem dX4_layColumns_26 : decode mX4_layColumns.2.1 26 = .ok (.invokevirtual 76, 3) := by decide +kernel
theorem dX4_layColumns_29 : decode mX4_layColumns.2.1 29 = .ok (.ifCond .ne 23, 3) := by decide +kernel
theorem dX4_layColumns_32 : decode mX4_layColumns.2.1 32 = .ok (.aload_n 0, 1) := by decide +kernel
theorem dX4_layColumns_33 : decode mX4_layColumns.2.1 33 = .ok (.getfield 16, 3) := by decide +kernel
theorem dX4_layColumns_36 : decode mX4_layColumns.2.1 36 = .ok (.iload_n 2, 1) := by decide +kernel
theorem dX4_layColumns_37 : decode mX4_layColumns.2.1 37 = .ok (.aload_n 0, 1) := by decide +kernel
theorem dX4_layColumns_38 : decode mX4_layColumns.2.1 38 = .ok (.getfield 73, 3) := by decide +kernel
theorem dX4_layColumns_41 : decode mX4_layColumns.2.1 41 = .ok (.iastore, 1) := by decide +kernel
theorem dX4_layColumns_42 : decode mX4_layColumns.2.1 42 = .ok (.aload_n 0, 1) := by decide +kernel
theorem dX4_layColumns_43 : decode mX4_layColumns.2.1 43 = .ok (.dup, 1) := by decide +kernel
theorem dX4_layColumns_44 : decode mX4_layColumns.2.1 44 = .ok (.getfield 73, 3) := by decide +kernel
theorem dX4_layColumns_47 : decode mX4_layColumns.2.1 47 = .ok (.iconst 2, 1) := by decide +kernel
theorem dX4_layColumns_48 : decode mX4_layColumns.2.1 48 = .ok (.iadd, 1) := by decide +kernel
theorem dX4_layColumns_49 : decode mX4_layColumns.2.1 49 = .ok (.putfield 73, 3) := by decide +kernel
theorem dX4_layColumns_52 : decode mX4_layColumns.2.1 52 = .ok (.iinc 2 1, 3) := by decide +kernel
theorem dX4_layColumns_55 : decode mX4_layColumns.2.1 55 = .ok (.goto (-48), 3) := by decide +kernel
theorem dX4_layColumns_58 : decode mX4_layColumns.2.1 58 = .ok (.return_, 1) := by decide +kernel
theorem okX4_layColumns_30 : gOkV mX4_layColumns mX3_size 30 1 := ⟨List.forall_mem_cons.mpr ⟨(gm 737 (by decide +kernel) rfl), List.forall_mem_cons.mpr ⟨(gm 787 (by decide +kernel) rfl), List.forall_mem_cons.mpr ⟨(gm 735 (by decide +kernel) rfl), List.forall_mem_cons.mpr ⟨(gm 736 (by decide +kernel) rfl), List.forall_mem_cons.mpr ⟨(gm 109 (by decide +kernel) rfl), fun _ h => absurd h List.not_mem_nil⟩⟩⟩⟩⟩, by decide +kernel, by decide +kernel, by decide +kernel⟩
theorem okX4_layColumns_76 : gOkV mX4_layColumns mX3_isGround 76 1 := ⟨List.forall_mem_cons.mpr ⟨(gm 721 (by decide +kernel) rfl), List.forall_mem_cons.mpr ⟨(gm 789 (by decide +kernel) rfl), List.forall_mem_cons.mpr ⟨(gm 719 (by decide +kernel) rfl), List.forall_mem_cons.mpr ⟨(gm 720 (by decide +kernel) rfl), List.forall_mem_cons.mpr ⟨(gm 109 (by decide +kernel) rfl), fun _ h => absurd h List.not_mem_nil⟩⟩⟩⟩⟩, by decide +kernel, by decide +kernel, by decide +kernel⟩
def fX4_layColumns_52 (p1 : Nat) (k7 : Int32 → gS → Option (Unit × gS)) (v2 : Int32) (σ : gS) : Option (Unit × gS) :=
  bnd (v2 + 1) fun x1 =>
  k7 x1 σ
set_option maxHeartbeats 4000000 in
set_option maxRecDepth 100000 in
theorem pX4_layColumns_52 {E : gE} {p1 : Nat} {k7 : Int32 → gS → Option (Unit × gS)} {r : Unit} {σ' : gS} {v2 : Int32} {σ : gS} (hp1 : gLk p1) (hk7 : ∀ (v2 : Int32) (σ : gS), k7 v2 σ = some (r, σ') → gG E mX4_layColumns 7 [(0, .ref 59), (1, .ref p1), (2, .int v2)] [] σ (none) σ') (h : fX4_layColumns_52 p1 k7 v2 σ = some (r, σ')) : gG E mX4_layColumns 52 [(0, .ref 59), (1, .ref p1), (2, .int v2)] [] σ (none) σ' := by
  unfold fX4_layColumns_52 at h
  obtain ⟨x1, ex1, h⟩ := bnd_nm h
  refine g_iinc (j := 2) (v := x1) (lv' := [(2, .int x1), (0, .ref 59), (1, .ref p1)]) dX4_layColumns_52 rfl (by rw [ex1]; rfl) (Nat.le_of_ble_eq_true rfl) rfl ?_
  refine g_goto (t := 7) dX4_layColumns_55 (by decide) ?_
  refine g_sub [1, 2, 0] rfl ?_
  exact hk7 x1 σ h
def fX4_layColumns_7 (p1 : Nat) : Nat → Int32 → gS → Option (Unit × gS)
  | 0, _, _ => none
  | n + 1, v2, σ => bd (fX3_size p1 0 σ) fun x1 σ2 =>
  if x1 ≤ v2 then
    some ((), σ2)
  else
    gg (¬ (v2 < 0 ∨ 24 ≤ v2.toNatClampNeg)) (
    bnd (gsI σ2 121 v2.toNatClampNeg (-1000000)) fun σ6 =>
    bd (fX3_isGround p1 v2 σ6) fun x7 σ8 =>
    if x7 = 0 then
      gg (¬ (v2 < 0 ∨ 24 ≤ v2.toNatClampNeg)) (
      bnd (gsI σ8 121 v2.toNatClampNeg (σ8.1 59 2)) fun σ12 =>
      bnd (gsI σ12 59 2 ((σ12.1 59 2) + 2)) fun σ13 =>
      fX4_layColumns_52 p1 (fun v2 σ => fX4_layColumns_7 p1 n v2 σ) v2 σ13)
    else
      fX4_layColumns_52 p1 (fun v2 σ => fX4_layColumns_7 p1 n v2 σ) v2 σ8)
set_option maxHeartbeats 4000000 in
set_option maxRecDepth 100000 in
theorem pX4_layColumns_7 {E : gE} {p1 : Nat} {r : Unit} {σ' : gS} (hp1 : gLk p1) : ∀ (n : Nat) (v2 : Int32) (σ : gS), fX4_layColumns_7 p1 n v2 σ = some (r, σ') → gG E mX4_layColumns 7 [(0, .ref 59), (1, .ref p1), (2, .int v2)] [] σ (none) σ' := by
  intro n
  induction n with
  | zero => intro v2 σ h; exact absurd (show none = some (r, σ') from h) (by intro q; cases q)
  | succ n ih =>
  intro v2 σ h
  unfold fX4_layColumns_7 at h
  refine g_iload_n dX4_layColumns_7 rfl 2 rfl ?_
  refine g_aload_n dX4_layColumns_8 rfl 1 rfl ?_
  refine g_iconst (v := 0) dX4_layColumns_9 (by decide) ?_
  obtain ⟨x1, σ2, y3, h⟩ := bd_some h
  refine g_callVr (as := [.int 0]) (st := [.int v2]) (zX3_size hp1 y3) dX4_layColumns_10 (gi_lk hp1) rfl okX4_layColumns_30 (Nat.le_of_ble_eq_true rfl) ?_
  refine g_icmp_ge (t := 58) dX4_layColumns_13 (by decide) (fun c4 => ?_) (fun c4 => ?_)
  · replace h := if_t h c4
    obtain ⟨rfl, rfl⟩ := so_inj h
    exact g_vret dX4_layColumns_58 rfl
  · replace h := if_f h c4
    refine g_aload_n dX4_layColumns_16 rfl 0 rfl ?_
    refine g_getC (n := 121) dX4_layColumns_17 gi_59 rfl fl_RX4_16 ?_
    refine g_iload_n dX4_layColumns_20 rfl 2 rfl ?_
    refine g_ldc (v := (-1000000)) dX4_layColumns_21 wc_RX4_66 ?_
    obtain ⟨g5, h⟩ := gg_some h
    obtain ⟨σ6, eσ6, h⟩ := bnd_nm h
    refine g_iast dX4_layColumns_23 gi_121 g5 (g_st eσ6 ?_)
    refine g_aload_n dX4_layColumns_24 rfl 1 rfl ?_
    refine g_iload_n dX4_layColumns_25 rfl 2 rfl ?_
    obtain ⟨x7, σ8, y9, h⟩ := bd_some h
    refine g_callVr (as := [.int v2]) (st := []) (zX3_isGround hp1 y9) dX4_layColumns_26 (gi_lk hp1) rfl okX4_layColumns_76 (Nat.le_of_ble_eq_true rfl) ?_
    refine g_if_ne (t := 52) dX4_layColumns_29 (by decide) (fun c10 => ?_) (fun c10 => ?_)
    · replace h := if_f h c10
      exact pX4_layColumns_52 hp1 (fun v2 σ h => ih v2 σ h) h
    · replace h := if_t h c10
      refine g_aload_n dX4_layColumns_32 rfl 0 rfl ?_
      refine g_getC (n := 121) dX4_layColumns_33 gi_59 rfl fl_RX4_16 ?_
      refine g_iload_n dX4_layColumns_36 rfl 2 rfl ?_
      refine g_aload_n dX4_layColumns_37 rfl 0 rfl ?_
      refine g_getI dX4_layColumns_38 gi_59 rfl fl_RX4_73 ?_
      obtain ⟨g11, h⟩ := gg_some h
      obtain ⟨σ12, eσ12, h⟩ := bnd_nm h
      refine g_iast dX4_layColumns_41 gi_121 g11 (g_st eσ12 ?_)
      refine g_aload_n dX4_layColumns_42 rfl 0 rfl ?_
      refine g_dup dX4_layColumns_43 rfl ?_
      refine g_getI dX4_layColumns_44 gi_59 rfl fl_RX4_73 ?_
      refine g_iconst (v := 2) dX4_layColumns_47 (by decide) ?_
      refine g_iadd dX4_layColumns_48 ?_
      obtain ⟨σ13, eσ13, h⟩ := bnd_nm h
      refine g_putI dX4_layColumns_49 gi_59 rfl fp_RX4_73 (g_st eσ13 ?_)
      exact pX4_layColumns_52 hp1 (fun v2 σ h => ih v2 σ h) h
def fX4_layColumns (p1 : Nat) (σ : gS) : Option (Unit × gS) :=
  bnd (gsI σ 59 2 0) fun σ1 =>
  fX4_layColumns_7 p1 2000 0 σ1
set_option maxHeartbeats 4000000 in
set_option maxRecDepth 100000 in
theorem pX4_layColumns {E : gE} {p1 : Nat} {r : Unit} {σ' : gS} {σ : gS} (hp1 : gLk p1) (h : fX4_layColumns p1 σ = some (r, σ')) : gG E mX4_layColumns 0 [(0, .ref 59), (1, .ref p1)] [] σ (none) σ' := by
  unfold fX4_layColumns at h
  refine g_aload_n dX4_layColumns_0 rfl 0 rfl ?_
  refine g_iconst (v := 0) dX4_layColumns_1 (by decide) ?_
  obtain ⟨σ1, eσ1, h⟩ := bnd_nm h
  refine g_putI dX4_layColumns_2 gi_59 rfl fp_RX4_73 (g_st eσ1 ?_)
  refine g_iconst (v := 0) dX4_layColumns_5 (by decide) ?_
  refine g_istore_n (lv' := [(2, .int 0), (0, .ref 59), (1, .ref p1)]) dX4_layColumns_6 rfl (Nat.le_of_ble_eq_true rfl) rfl ?_
  refine g_sub [1, 2, 0] rfl ?_
  exact pX4_layColumns_7 hp1 2000 0 σ1 h
theorem zX4_layColumns {E : gE} {p1 : Nat} {r : Unit} {σ σ' : gS} (hp1 : gLk p1) (h : fX4_layColumns p1 σ = some (r, σ')) : gC E mX4_layColumns [.ref 59, .ref p1] σ (none) σ' :=
  gC_of (by decide +kernel) rfl (Nat.le_of_ble_eq_true rfl) (pX4_layColumns hp1 h)
def mJ9_floorMod_7cf53 : gM := (yJ9_floorMod_7cf53, cJ9_floorMod_7cf53, RJ9, 3, (some .int), 0, 0)
theorem dJ9_floorMod_7cf53_0 : decode mJ9_floorMod_7cf53.2.1 0 = .ok (.iload_n 0, 1) := by decide +kernel
theorem dJ9_floorMod_7cf53_1 : decode mJ9_floorMod_7cf53.2.1 1 = .ok (.iload_n 1, 1) := by decide +kernel
theorem dJ9_floorMod_7cf53_2 : decode mJ9_floorMod_7cf53.2.1 2 = .ok (.irem, 1) := by decide +kernel
theorem dJ9_floorMod_7cf53_3 : decode mJ9_floorMod_7cf53.2.1 3 = .ok (.istore_n 2, 1) := by decide +kernel
theorem dJ9_floorMod_7cf53_4 : decode mJ9_floorMod_7cf53.2.1 4 = .ok (.iload_n 0, 1) := by decide +kernel
theorem dJ9_floorMod_7cf53_5 : decode mJ9_floorMod_7cf53.2.1 5 = .ok (.iload_n 1, 1) := by decide +kernel
theorem dJ9_floorMod_7cf53_6 : decode mJ9_floorMod_7cf53.2.1 6 = .ok (.ixor, 1) := by decide +kernel
theorem dJ9_floorMod_7cf53_7 : decode mJ9_floorMod_7cf53.2.1 7 = .ok (.ifCond .ge 11, 3) := by decide +kernel
theorem dJ9_floorMod_7cf53_10 : decode mJ9_floorMod_7cf53.2.1 10 = .ok (.iload_n 2, 1) := by decide +kernel
theorem dJ9_floorMod_7cf53_11 : decode mJ9_floorMod_7cf53.2.1 11 = .ok (.ifCond .eq 7, 3) := by decide +kernel
theorem dJ9_floorMod_7cf53_14 : decode mJ9_floorMod_7cf53.2.1 14 = .ok (.iload_n 2, 1) := by decide +kernel
theorem dJ9_floorMod_7cf53_15 : decode mJ9_floorMod_7cf53.2.1 15 = .ok (.iload_n 1, 1) := by decide +kernel
theorem dJ9_floorMod_7cf53_16 : decode mJ9_floorMod_7cf53.2.1 16 = .ok (.iadd, 1) := by decide +kernel
theorem dJ9_floorMod_7cf53_17 : decode mJ9_floorMod_7cf53.2.1 17 = .ok (.ireturn, 1) := by decide +kernel
theorem dJ9_floorMod_7cf53_18 : decode mJ9_floorMod_7cf53.2.1 18 = .ok (.iload_n 2, 1) := by decide +kernel
theorem dJ9_floorMod_7cf53_19 : decode mJ9_floorMod_7cf53.2.1 19 = .ok (.ireturn, 1) := by decide +kernel
def fJ9_floorMod_7cf53_18 (p1 : Int32) (p2 : Int32) (v2 : Int32) (σ : gS) : Option (Int32 × gS) :=
  some (v2, σ)
set_option maxHeartbeats 4000000 in
set_option maxRecDepth 100000 in
theorem pJ9_floorMod_7cf53_18 {E : gE} {p1 : Int32} {p2 : Int32} {r : Int32} {σ' : gS} {v2 : Int32} {σ : gS} (h : fJ9_floorMod_7cf53_18 p1 p2 v2 σ = some (r, σ')) : gG E mJ9_floorMod_7cf53 18 [(2, .int v2)] [] σ (some (.int r)) σ' := by
  unfold fJ9_floorMod_7cf53_18 at h
  refine g_iload_n dJ9_floorMod_7cf53_18 rfl 0 rfl ?_
  obtain ⟨rfl, rfl⟩ := so_inj h
  exact g_iret dJ9_floorMod_7cf53_19 rfl
def fJ9_floorMod_7cf53 (p1 : Int32) (p2 : Int32) (σ : gS) : Option (Int32 × gS) :=
  gg (¬ p2 = 0) (
  bnd (p1 - p1 / p2 * p2) fun x2 =>
  if 0 ≤ (p1 ^^^ p2) then
    fJ9_floorMod_7cf53_18 p1 p2 x2 σ
  else
    if x2 = 0 then
      fJ9_floorMod_7cf53_18 p1 p2 x2 σ
    else
      some (x2 + p2, σ))
set_option maxHeartbeats 4000000 in
set_option maxRecDepth 100000 in
theorem pJ9_floorMod_7cf53 {E : gE} {p1 : Int32} {p2 : Int32} {r : Int32} {σ' : gS} {σ : gS} (h : fJ9_floorMod_7cf53 p1 p2 σ = some (r, σ')) : gG E mJ9_floorMod_7cf53 0 [(0, .int p1), (1, .int p2)] [] σ (some (.int r)) σ' := by
  unfold fJ9_floorMod_7cf53 at h
  refine g_iload_n dJ9_floorMod_7cf53_0 rfl 0 rfl ?_
  refine g_iload_n dJ9_floorMod_7cf53_1 rfl 1 rfl ?_
  obtain ⟨g1, h⟩ := gg_some h
  refine g_irem dJ9_floorMod_7cf53_2 g1 ?_
  obtain ⟨x2, ex2, h⟩ := bnd_nm h
  refine g_topi ex2 ?_
  refine g_istore_n (lv' := [(2, .int x2), (0, .int p1), (1, .int p2)]) dJ9_floorMod_7cf53_3 rfl (Nat.le_of_ble_eq_true rfl) rfl ?_
  refine g_iload_n dJ9_floorMod_7cf53_4 rfl 1 rfl ?_
  refine g_iload_n dJ9_floorMod_7cf53_5 rfl 2 rfl ?_
  refine g_ixor dJ9_floorMod_7cf53_6 ?_
  refine g_if_ge (t := 18) dJ9_floorMod_7cf53_7 (by decide) (fun c3 => ?_) (fun c3 => ?_)
  · replace h := if_t h c3
    refine g_sub [0] rfl ?_
    exact pJ9_floorMod_7cf53_18 h
  · replace h := if_f h c3
    refine g_iload_n dJ9_floorMod_7cf53_10 rfl 0 rfl ?_
    refine g_if_eq (t := 18) dJ9_floorMod_7cf53_11 (by decide) (fun c4 => ?_) (fun c4 => ?_)
    · replace h := if_t h c4
      refine g_sub [0] rfl ?_
      exact pJ9_floorMod_7cf53_18 h
    · replace h := if_f h c4
      refine g_iload_n dJ9_floorMod_7cf53_14 rfl 0 rfl ?_
      refine g_iload_n dJ9_floorMod_7cf53_15 rfl 2 rfl ?_
      refine g_iadd dJ9_floorMod_7cf53_16 ?_
      obtain ⟨rfl, rfl⟩ := so_inj h
      exact g_iret dJ9_floorMod_7cf53_17 rfl
theorem zJ9_floorMod_7cf53 {E : gE} {p1 : Int32} {p2 : Int32} {r : Int32} {σ σ' : gS} (h : fJ9_floorMod_7cf53 p1 p2 σ = some (r, σ')) : gC E mJ9_floorMod_7cf53 [.int p1, .int p2] σ (some (.int r)) σ' :=
  gC_ofF (by decide +kernel) rfl (Nat.le_of_ble_eq_true rfl) (pJ9_floorMod_7cf53 h)
theorem fl_RX4_13 : gFl RX4 13 4 0 := ⟨RX4, TX4, 7, rfl, by decide, ux_4, Or.inl (gm 332 (by decide +kernel) rfl)⟩
theorem wc_RX4_67 : Cond.constant RX4 67 1000003 ∈ gWS := (gm 799 (by decide +kernel) rfl)
def mX4_write : gM := (yX4_write, cX4_write, RX4, 6, none, 1, 22)
theorem dX4_write_0 : decode mX4_write.2.1 0 = .ok (.aload_n 0, 1) := by decide +kernel
theorem dX4_write_1 : decode mX4_write.2.1 1 = .ok (.getfield 16, 3) := by decide +kernel
theorem dX4_write_4 : decode mX4_write.2.1 4 = .ok (.iload_n 2, 1) := by decide +kernel
theorem dX4_write_5 : decode mX4_write.2.1 5 = .ok (.iaload, 1) := by decide +kernel
theorem dX4_write_6 : decode mX4_write.2.1 6 = .ok (.istore 5, 2) := by decide +kernel
theorem dX4_write_8 : decode mX4_write.2.1 8 = .ok (.iload 5, 2) := by decide +kernel
theorem dX4_write_10 : decode mX4_write.2.1 10 = .ok (.ldc 66, 2) := by decide +kernel
theorem dX4_write_12 : decode mX4_write.2.1 12 = .ok (.if_icmp .eq 36, 3) := by decide +kernel
theorem dX4_write_15 : decode mX4_write.2.1 15 = .ok (.aload_n 0, 1) := by decide +kernel
theorem dX4_write_16 : decode mX4_write.2.1 16 = .ok (.getfield 13, 3) := by decide +kernel
theorem dX4_write_19 : decode mX4_write.2.1 19 = .ok (.iload_n 1, 1) := by decide +kernel
theorem dX4_write_20 : decode mX4_write.2.1 20 = .ok (.aaload, 1) := by decide +kernel
theorem dX4_write_21 : decode mX4_write.2.1 21 = .ok (.iload 5, 2) := by decide +kernel
theorem dX4_write_23 : decode mX4_write.2.1 23 = .ok (.iload_n 3, 1) := by decide +kernel
theorem dX4_write_24 : decode mX4_write.2.1 24 = .ok (.ldc 67, 2) := by decide +kernel
theorem dX4_write_26 : decode mX4_write.2.1 26 = .ok (.invokestatic 68, 3) := by decide +kernel
theorem dX4_write_29 : decode mX4_write.2.1 29 = .ok (.iastore, 1) := by decide +kernel
theorem dX4_write_30 : decode mX4_write.2.1 30 = .ok (.aload_n 0, 1) := by decide +kernel
theorem dX4_write_31 : decode mX4_write.2.1 31 = .ok (.getfield 13, 3) := by decide +kernel
theorem dX4_write_34 : decode mX4_write.2.1 34 = .ok (.iload_n 1, 1) := by decide +kernel
theorem dX4_write_35 : decode mX4_write.2.1 35 = .ok (.aaload, 1) := by decide +kernel
theorem dX4_write_36 : decode mX4_write.2.1 36 = .ok (.iload 5, 2) := by decide +kernel
theorem dX4_write_38 : decode mX4_write.2.1 38 = .ok (.iconst 1, 1) := by decide +kernel
theorem dX4_write_39 : decode mX4_write.2.1 39 = .ok (.iadd, 1) := by decide +kernel
theorem dX4_write_40 : decode mX4_write.2.1 40 = .ok (.iload 4, 2) := by decide +kernel
theorem dX4_write_42 : decode mX4_write.2.1 42 = .ok (.ldc 67, 2) := by decide +kernel
theorem dX4_write_44 : decode mX4_write.2.1 44 = .ok (.invokestatic 68, 3) := by decide +kernel
theorem dX4_write_47 : decode mX4_write.2.1 47 = .ok (.iastore, 1) := by decide +kernel
theorem dX4_write_48 : decode mX4_write.2.1 48 = .ok (.return_, 1) := by decide +kernel
theorem okX4_write_68 : gOkS mX4_write mJ9_floorMod_7cf53 68 2 := ⟨List.forall_mem_cons.mpr ⟨(gm 802 (by decide +kernel) rfl), List.forall_mem_cons.mpr ⟨(gm 800 (by decide +kernel) rfl), List.forall_mem_cons.mpr ⟨(gm 801 (by decide +kernel) rfl), List.forall_mem_cons.mpr ⟨(gm 124 (by decide +kernel) rfl), fun _ h => absurd h List.not_mem_nil⟩⟩⟩⟩, by decide +kernel, by decide +kernel, by decide +kernel⟩
def fX4_write_48 (p1 : Int32) (p2 : Int32) (p3 : Int32) (p4 : Int32) (σ : gS) : Option (Unit × gS) :=
  some ((), σ)
set_option maxHeartbeats 4000000 in
set_option maxRecDepth 100000 in
theorem pX4_write_48 {E : gE} {p1 : Int32} {p2 : Int32} {p3 : Int32} {p4 : Int32} {r : Unit} {σ' : gS} {σ : gS} (h : fX4_write_48 p1 p2 p3 p4 σ = some (r, σ')) : gG E mX4_write 48 [] [] σ (none) σ' := by
  unfold fX4_write_48 at h
  obtain ⟨rfl, rfl⟩ := so_inj h
  exact g_vret dX4_write_48 rfl
def fX4_write (p1 : Int32) (p2 : Int32) (p3 : Int32) (p4 : Int32) (σ : gS) : Option (Unit × gS) :=
  gg (¬ (p2 < 0 ∨ 24 ≤ p2.toNatClampNeg)) (
  if (σ.1 121 p2.toNatClampNeg) = (-1000000) then
    fX4_write_48 p1 p2 p3 p4 σ
  else
    gg (¬ (p1 < 0 ∨ 60 ≤ p1.toNatClampNeg)) (
    bnd (σ.2.2 60 p1.toNatClampNeg) fun x4 =>
    gg (61 ≤ x4 ∧ x4 < 121) (
    bd (fJ9_floorMod_7cf53 p3 1000003 σ) fun x6 σ7 =>
    gg (¬ (σ.1 121 p2.toNatClampNeg < 0 ∨ 48 ≤ (σ.1 121 p2.toNatClampNeg).toNatClampNeg)) (
    bnd (gsI σ7 x4 ((σ.1 121 p2.toNatClampNeg).toNatClampNeg) x6) fun σ10 =>
    gg (¬ (p1 < 0 ∨ 60 ≤ p1.toNatClampNeg)) (
    bnd (σ10.2.2 60 p1.toNatClampNeg) fun x12 =>
    gg (61 ≤ x12 ∧ x12 < 121) (
    bd (fJ9_floorMod_7cf53 p4 1000003 σ10) fun x14 σ15 =>
    gg (¬ ((σ.1 121 p2.toNatClampNeg) + 1 < 0 ∨ 48 ≤ ((σ.1 121 p2.toNatClampNeg) + 1).toNatClampNeg)) (
    bnd (gsI σ15 x12 (((σ.1 121 p2.toNatClampNeg) + 1).toNatClampNeg) x14) fun σ18 =>
    fX4_write_48 p1 p2 p3 p4 σ18)))))))
set_option maxHeartbeats 4000000 in
set_option maxRecDepth 100000 in
theorem pX4_write {E : gE} {p1 : Int32} {p2 : Int32} {p3 : Int32} {p4 : Int32} {r : Unit} {σ' : gS} {σ : gS} (h : fX4_write p1 p2 p3 p4 σ = some (r, σ')) : gG E mX4_write 0 [(0, .ref 59), (1, .int p1), (2, .int p2), (3, .int p3), (4, .int p4)] [] σ (none) σ' := by
  unfold fX4_write at h
  refine g_aload_n dX4_write_0 rfl 0 rfl ?_
  refine g_getC (n := 121) dX4_write_1 gi_59 rfl fl_RX4_16 ?_
  refine g_iload_n dX4_write_4 rfl 2 rfl ?_
  obtain ⟨g1, h⟩ := gg_some h
  refine g_iald dX4_write_5 gi_121 g1 ?_
  refine g_istore (lv' := [(5, .int (σ.1 121 p2.toNatClampNeg)), (0, .ref 59), (1, .int p1), (2, .int p2), (3, .int p3), (4, .int p4)]) dX4_write_6 (Nat.le_of_ble_eq_true rfl) rfl ?_
  refine g_iload dX4_write_8 0 rfl ?_
  refine g_ldc (v := (-1000000)) dX4_write_10 wc_RX4_66 ?_
  refine g_icmp_eq (t := 48) dX4_write_12 (by decide) (fun c2 => ?_) (fun c2 => ?_)
  · replace h := if_t h c2
    refine g_sub [] rfl ?_
    exact pX4_write_48 h
  · replace h := if_f h c2
    refine g_aload_n dX4_write_15 rfl 1 rfl ?_
    refine g_getC (n := 60) dX4_write_16 gi_59 rfl fl_RX4_13 ?_
    refine g_iload_n dX4_write_19 rfl 2 rfl ?_
    obtain ⟨g3, h⟩ := gg_some h
    refine g_aaldA dX4_write_20 gi_60 g3 ?_
    obtain ⟨x4, ex4, h⟩ := bnd_nm h
    refine g_topr ex4 ?_
    obtain ⟨g5, h⟩ := gg_some h
    refine g_iload dX4_write_21 0 rfl ?_
    refine g_iload_n dX4_write_23 rfl 4 rfl ?_
    refine g_ldc (v := 1000003) dX4_write_24 wc_RX4_67 ?_
    obtain ⟨x6, σ7, y8, h⟩ := bd_some h
    refine g_callSr (as := [.int p3, .int 1000003]) (st := [.int (σ.1 121 p2.toNatClampNeg), .ref x4]) (zJ9_floorMod_7cf53 y8) dX4_write_26 okX4_write_68 (Nat.le_of_ble_eq_true rfl) ?_
    obtain ⟨g9, h⟩ := gg_some h
    obtain ⟨σ10, eσ10, h⟩ := bnd_nm h
    refine g_iast dX4_write_29 (gi_rw g5) g9 (g_st eσ10 ?_)
    refine g_aload_n dX4_write_30 rfl 1 rfl ?_
    refine g_getC (n := 60) dX4_write_31 gi_59 rfl fl_RX4_13 ?_
    refine g_iload_n dX4_write_34 rfl 2 rfl ?_
    obtain ⟨g11, h⟩ := gg_some h
    refine g_aaldA dX4_write_35 gi_60 g11 ?_
    obtain ⟨x12, ex12, h⟩ := bnd_nm h
    refine g_topr ex12 ?_
    obtain ⟨g13, h⟩ := gg_some h
    refine g_iload dX4_write_36 0 rfl ?_
    refine g_iconst (v := 1) dX4_write_38 (by decide) ?_
    refine g_iadd dX4_write_39 ?_
    refine g_iload dX4_write_40 5 rfl ?_
    refine g_ldc (v := 1000003) dX4_write_42 wc_RX4_67 ?_
    obtain ⟨x14, σ15, y16, h⟩ := bd_some h
    refine g_callSr (as := [.int p4, .int 1000003]) (st := [.int ((σ.1 121 p2.toNatClampNeg) + 1), .ref x12]) (zJ9_floorMod_7cf53 y16) dX4_write_44 okX4_write_68 (Nat.le_of_ble_eq_true rfl) ?_
    obtain ⟨g17, h⟩ := gg_some h
    obtain ⟨σ18, eσ18, h⟩ := bnd_nm h
    refine g_iast dX4_write_47 (gi_rw g13) g17 (g_st eσ18 ?_)
    refine g_sub [] rfl ?_
    exact pX4_write_48 h
theorem zX4_write {E : gE} {p1 : Int32} {p2 : Int32} {p3 : Int32} {p4 : Int32} {r : Unit} {σ σ' : gS} (h : fX4_write p1 p2 p3 p4 σ = some (r, σ')) : gC E mX4_write [.ref 59, .int p1, .int p2, .int p3, .int p4] σ (none) σ' :=
  gC_of (by decide +kernel) rfl (Nat.le_of_ble_eq_true rfl) (pX4_write h)
theorem fl_RX4_36 : gFl RX4 36 4 1 := ⟨RX4, TX4, 7, rfl, by decide, ux_4, Or.inl (gm 333 (by decide +kernel) rfl)⟩
theorem fl_RX4_80 : gFl RX4 80 4 3 := ⟨RX4, TX4, 7, rfl, by decide, ux_4, Or.inl (gm 337 (by decide +kernel) rfl)⟩
def mX4_rowToLead : gM := (yX4_rowToLead, cX4_rowToLead, RX4, 3, (some .int), 0, 0)
theorem dX4_rowToLead_0 : decode mX4_rowToLead.2.1 0 = .ok (.aload_n 0, 1) := by decide +kernel
theorem dX4_rowToLead_1 : decode mX4_rowToLead.2.1 1 = .ok (.getfield 80, 3) := by decide +kernel
theorem dX4_rowToLead_4 : decode mX4_rowToLead.2.1 4 = .ok (.istore_n 2, 1) := by decide +kernel
theorem dX4_rowToLead_5 : decode mX4_rowToLead.2.1 5 = .ok (.iload_n 2, 1) := by decide +kernel
theorem dX4_rowToLead_6 : decode mX4_rowToLead.2.1 6 = .ok (.aload_n 0, 1) := by decide +kernel
theorem dX4_rowToLead_7 : decode mX4_rowToLead.2.1 7 = .ok (.getfield 36, 3) := by decide +kernel
theorem dX4_rowToLead_10 : decode mX4_rowToLead.2.1 10 = .ok (.if_icmp .ge 22, 3) := by decide +kernel
theorem dX4_rowToLead_13 : decode mX4_rowToLead.2.1 13 = .ok (.aload_n 0, 1) := by decide +kernel
theorem dX4_rowToLead_14 : decode mX4_rowToLead.2.1 14 = .ok (.getfield 13, 3) := by decide +kernel
theorem dX4_rowToLead_17 : decode mX4_rowToLead.2.1 17 = .ok (.iload_n 2, 1) := by decide +kernel
theorem dX4_rowToLead_18 : decode mX4_rowToLead.2.1 18 = .ok (.aaload, 1) := by decide +kernel
theorem dX4_rowToLead_19 : decode mX4_rowToLead.2.1 19 = .ok (.iload_n 1, 1) := by decide +kernel
theorem dX4_rowToLead_20 : decode mX4_rowToLead.2.1 20 = .ok (.iaload, 1) := by decide +kernel
theorem dX4_rowToLead_21 : decode mX4_rowToLead.2.1 21 = .ok (.ifCond .eq 5, 3) := by decide +kernel
theorem dX4_rowToLead_24 : decode mX4_rowToLead.2.1 24 = .ok (.iload_n 2, 1) := by decide +kernel
theorem dX4_rowToLead_25 : decode mX4_rowToLead.2.1 25 = .ok (.ireturn, 1) := by decide +kernel
theorem dX4_rowToLead_26 : decode mX4_rowToLead.2.1 26 = .ok (.iinc 2 1, 3) := by decide +kernel
theorem dX4_rowToLead_29 : decode mX4_rowToLead.2.1 29 = .ok (.goto (-24), 3) := by decide +kernel
theorem dX4_rowToLead_32 : decode mX4_rowToLead.2.1 32 = .ok (.ldc 66, 2) := by decide +kernel
theorem dX4_rowToLead_34 : decode mX4_rowToLead.2.1 34 = .ok (.ireturn, 1) := by decide +kernel
def fX4_rowToLead_5 (p1 : Int32) : Nat → Int32 → gS → Option (Int32 × gS)
  | 0, _, _ => none
  | n + 1, v2, σ => if (σ.1 59 1) ≤ v2 then
    some ((-1000000), σ)
  else
    gg (¬ (v2 < 0 ∨ 60 ≤ v2.toNatClampNeg)) (
    bnd (σ.2.2 60 v2.toNatClampNeg) fun x3 =>
    gg (61 ≤ x3 ∧ x3 < 121) (
    gg (¬ (p1 < 0 ∨ 48 ≤ p1.toNatClampNeg)) (
    if (σ.1 x3 p1.toNatClampNeg) = 0 then
      bnd (v2 + 1) fun x7 =>
      fX4_rowToLead_5 p1 n x7 σ
    else
      some (v2, σ))))
set_option maxHeartbeats 4000000 in
set_option maxRecDepth 100000 in
theorem pX4_rowToLead_5 {E : gE} {p1 : Int32} {r : Int32} {σ' : gS} : ∀ (n : Nat) (v2 : Int32) (σ : gS), fX4_rowToLead_5 p1 n v2 σ = some (r, σ') → gG E mX4_rowToLead 5 [(0, .ref 59), (1, .int p1), (2, .int v2)] [] σ (some (.int r)) σ' := by
  intro n
  induction n with
  | zero => intro v2 σ h; exact absurd (show none = some (r, σ') from h) (by intro q; cases q)
  | succ n ih =>
  intro v2 σ h
  unfold fX4_rowToLead_5 at h
  refine g_iload_n dX4_rowToLead_5 rfl 2 rfl ?_
  refine g_aload_n dX4_rowToLead_6 rfl 0 rfl ?_
  refine g_getI dX4_rowToLead_7 gi_59 rfl fl_RX4_36 ?_
  refine g_icmp_ge (t := 32) dX4_rowToLead_10 (by decide) (fun c1 => ?_) (fun c1 => ?_)
  · replace h := if_t h c1
    refine g_ldc (v := (-1000000)) dX4_rowToLead_32 wc_RX4_66 ?_
    obtain ⟨rfl, rfl⟩ := so_inj h
    exact g_iret dX4_rowToLead_34 rfl
  · replace h := if_f h c1
    refine g_aload_n dX4_rowToLead_13 rfl 0 rfl ?_
    refine g_getC (n := 60) dX4_rowToLead_14 gi_59 rfl fl_RX4_13 ?_
    refine g_iload_n dX4_rowToLead_17 rfl 2 rfl ?_
    obtain ⟨g2, h⟩ := gg_some h
    refine g_aaldA dX4_rowToLead_18 gi_60 g2 ?_
    obtain ⟨x3, ex3, h⟩ := bnd_nm h
    refine g_topr ex3 ?_
    obtain ⟨g4, h⟩ := gg_some h
    refine g_iload_n dX4_rowToLead_19 rfl 1 rfl ?_
    obtain ⟨g5, h⟩ := gg_some h
    refine g_iald dX4_rowToLead_20 (gi_rw g4) g5 ?_
    refine g_if_eq (t := 26) dX4_rowToLead_21 (by decide) (fun c6 => ?_) (fun c6 => ?_)
    · replace h := if_t h c6
      obtain ⟨x7, ex7, h⟩ := bnd_nm h
      refine g_iinc (j := 2) (v := x7) (lv' := [(2, .int x7), (0, .ref 59), (1, .int p1)]) dX4_rowToLead_26 rfl (by rw [ex7]; rfl) (Nat.le_of_ble_eq_true rfl) rfl ?_
      refine g_goto (t := 5) dX4_rowToLead_29 (by decide) ?_
      refine g_sub [1, 2, 0] rfl ?_
      exact ih x7 σ h
    · replace h := if_f h c6
      refine g_iload_n dX4_rowToLead_24 rfl 2 rfl ?_
      obtain ⟨rfl, rfl⟩ := so_inj h
      exact g_iret dX4_rowToLead_25 rfl
def fX4_rowToLead (p1 : Int32) (σ : gS) : Option (Int32 × gS) :=
  fX4_rowToLead_5 p1 2000 (σ.1 59 3) σ
set_option maxHeartbeats 4000000 in
set_option maxRecDepth 100000 in
theorem pX4_rowToLead {E : gE} {p1 : Int32} {r : Int32} {σ' : gS} {σ : gS} (h : fX4_rowToLead p1 σ = some (r, σ')) : gG E mX4_rowToLead 0 [(0, .ref 59), (1, .int p1)] [] σ (some (.int r)) σ' := by
  unfold fX4_rowToLead at h
  refine g_aload_n dX4_rowToLead_0 rfl 0 rfl ?_
  refine g_getI dX4_rowToLead_1 gi_59 rfl fl_RX4_80 ?_
  refine g_istore_n (lv' := [(2, .int (σ.1 59 3)), (0, .ref 59), (1, .int p1)]) dX4_rowToLead_4 rfl (Nat.le_of_ble_eq_true rfl) rfl ?_
  refine g_sub [1, 2, 0] rfl ?_
  exact pX4_rowToLead_5 2000 (σ.1 59 3) σ h
theorem zX4_rowToLead {E : gE} {p1 : Int32} {r : Int32} {σ σ' : gS} (h : fX4_rowToLead p1 σ = some (r, σ')) : gC E mX4_rowToLead [.ref 59, .int p1] σ (some (.int r)) σ' :=
  gC_of (by decide +kernel) rfl (Nat.le_of_ble_eq_true rfl) (pX4_rowToLead h)
theorem wl_RX4_94 : Cond.constantLong RX4 94 1000003 ∈ gWS := (gm 819 (by decide +kernel) rfl)
theorem wc_RX4_96 : Cond.constant RX4 96 1000001 ∈ gWS := (gm 818 (by decide +kernel) rfl)
def mX4_inverseOf : gM := (yX4_inverseOf, cX4_inverseOf, RX4, 7, (some .long), 0, 0)
theorem dX4_inverseOf_0 : decode mX4_inverseOf.2.1 0 = .ok (.lload_n 0, 1) := by decide +kernel
theorem dX4_inverseOf_1 : decode mX4_inverseOf.2.1 1 = .ok (.lstore_n 2, 1) := by decide +kernel
theorem dX4_inverseOf_2 : decode mX4_inverseOf.2.1 2 = .ok (.lconst 1, 1) := by decide +kernel
theorem dX4_inverseOf_3 : decode mX4_inverseOf.2.1 3 = .ok (.lstore 4, 2) := by decide +kernel
theorem dX4_inverseOf_5 : decode mX4_inverseOf.2.1 5 = .ok (.ldc 96, 2) := by decide +kernel
theorem dX4_inverseOf_7 : decode mX4_inverseOf.2.1 7 = .ok (.istore 6, 2) := by decide +kernel
theorem dX4_inverseOf_9 : decode mX4_inverseOf.2.1 9 = .ok (.iload 6, 2) := by decide +kernel
theorem dX4_inverseOf_11 : decode mX4_inverseOf.2.1 11 = .ok (.ifCond .le 37, 3) := by decide +kernel
theorem dX4_inverseOf_14 : decode mX4_inverseOf.2.1 14 = .ok (.iload 6, 2) := by decide +kernel
theorem dX4_inverseOf_16 : decode mX4_inverseOf.2.1 16 = .ok (.iconst 1, 1) := by decide +kernel
theorem dX4_inverseOf_17 : decode mX4_inverseOf.2.1 17 = .ok (.iand, 1) := by decide +kernel
theorem dX4_inverseOf_18 : decode mX4_inverseOf.2.1 18 = .ok (.ifCond .eq 13, 3) := by decide +kernel
theorem dX4_inverseOf_21 : decode mX4_inverseOf.2.1 21 = .ok (.lload 4, 2) := by decide +kernel
theorem dX4_inverseOf_23 : decode mX4_inverseOf.2.1 23 = .ok (.lload_n 2, 1) := by decide +kernel
theorem dX4_inverseOf_24 : decode mX4_inverseOf.2.1 24 = .ok (.lmul, 1) := by decide +kernel
theorem dX4_inverseOf_25 : decode mX4_inverseOf.2.1 25 = .ok (.ldc2_w 94, 3) := by decide +kernel
theorem dX4_inverseOf_28 : decode mX4_inverseOf.2.1 28 = .ok (.lrem, 1) := by decide +kernel
theorem dX4_inverseOf_29 : decode mX4_inverseOf.2.1 29 = .ok (.lstore 4, 2) := by decide +kernel
theorem dX4_inverseOf_31 : decode mX4_inverseOf.2.1 31 = .ok (.lload_n 2, 1) := by decide +kernel
theorem dX4_inverseOf_32 : decode mX4_inverseOf.2.1 32 = .ok (.lload_n 2, 1) := by decide +kernel
theorem dX4_inverseOf_33 : decode mX4_inverseOf.2.1 33 = .ok (.lmul, 1) := by decide +kernel
theorem dX4_inverseOf_34 : decode mX4_inverseOf.2.1 34 = .ok (.ldc2_w 94, 3) := by decide +kernel
theorem dX4_inverseOf_37 : decode mX4_inverseOf.2.1 37 = .ok (.lrem, 1) := by decide +kernel
theorem dX4_inverseOf_38 : decode mX4_inverseOf.2.1 38 = .ok (.lstore_n 2, 1) := by decide +kernel
theorem dX4_inverseOf_39 : decode mX4_inverseOf.2.1 39 = .ok (.iload 6, 2) := by decide +kernel
theorem dX4_inverseOf_41 : decode mX4_inverseOf.2.1 41 = .ok (.iconst 1, 1) := by decide +kernel
theorem dX4_inverseOf_42 : decode mX4_inverseOf.2.1 42 = .ok (.ishr, 1) := by decide +kernel
theorem dX4_inverseOf_43 : decode mX4_inverseOf.2.1 43 = .ok (.istore 6, 2) := by decide +kernel
theorem dX4_inverseOf_45 : decode mX4_inverseOf.2.1 45 = .ok (.goto (-36), 3) := by decide +kernel
theorem dX4_inverseOf_48 : decode mX4_inverseOf.2.1 48 = .ok (.lload 4, 2) := by decide +kernel
theorem dX4_inverseOf_50 : decode mX4_inverseOf.2.1 50 = .ok (.lreturn, 1) := by decide +kernel
def fX4_inverseOf_31 (p1 : Int64) (k9 : Int64 → Int64 → Int32 → gS → Option (Int64 × gS)) (v2 : Int64) (v4 : Int64) (v6 : Int32) (σ : gS) : Option (Int64 × gS) :=
  bnd ((v2 * v2) - (v2 * v2) / 1000003 * 1000003) fun x1 =>
  bnd (v6 >>> (1 &&& 31)) fun x2 =>
  k9 x1 v4 x2 σ
set_option maxHeartbeats 4000000 in
set_option maxRecDepth 100000 in
theorem pX4_inverseOf_31 {E : gE} {p1 : Int64} {k9 : Int64 → Int64 → Int32 → gS → Option (Int64 × gS)} {r : Int64} {σ' : gS} {v2 : Int64} {v4 : Int64} {v6 : Int32} {σ : gS} (hk9 : ∀ (v2 : Int64) (v4 : Int64) (v6 : Int32) (σ : gS), k9 v2 v4 v6 σ = some (r, σ') → gG E mX4_inverseOf 9 [(2, .long v2), (4, .long v4), (6, .int v6)] [] σ (some (.long r)) σ') (h : fX4_inverseOf_31 p1 k9 v2 v4 v6 σ = some (r, σ')) : gG E mX4_inverseOf 31 [(2, .long v2), (4, .long v4), (6, .int v6)] [] σ (some (.long r)) σ' := by
  unfold fX4_inverseOf_31 at h
  refine g_lload_n dX4_inverseOf_31 rfl 0 rfl ?_
  refine g_lload_n dX4_inverseOf_32 rfl 0 rfl ?_
  refine g_lmul dX4_inverseOf_33 ?_
  refine g_ldc2 (v := 1000003) dX4_inverseOf_34 wl_RX4_94 ?_
  refine g_lrem dX4_inverseOf_37 (by decide) ?_
  obtain ⟨x1, ex1, h⟩ := bnd_nm h
  refine g_topl ex1 ?_
  refine g_lstore_n (lv' := [(2, .long x1), (4, .long v4), (6, .int v6)]) dX4_inverseOf_38 rfl (Nat.le_of_ble_eq_true rfl) rfl ?_
  refine g_iload dX4_inverseOf_39 2 rfl ?_
  refine g_iconst (v := 1) dX4_inverseOf_41 (by decide) ?_
  refine g_ishr dX4_inverseOf_42 ?_
  obtain ⟨x2, ex2, h⟩ := bnd_nm h
  refine g_topi ex2 ?_
  refine g_istore (lv' := [(6, .int x2), (2, .long x1), (4, .long v4)]) dX4_inverseOf_43 (Nat.le_of_ble_eq_true rfl) rfl ?_
  refine g_goto (t := 9) dX4_inverseOf_45 (by decide) ?_
  refine g_sub [1, 2, 0] rfl ?_
  exact hk9 x1 v4 x2 σ h
def fX4_inverseOf_9 (p1 : Int64) : Nat → Int64 → Int64 → Int32 → gS → Option (Int64 × gS)
  | 0, _, _, _, _ => none
  | n + 1, v2, v4, v6, σ => if v6 ≤ 0 then
    some (v4, σ)
  else
    if (v6 &&& 1) = 0 then
      fX4_inverseOf_31 p1 (fun v2 v4 v6 σ => fX4_inverseOf_9 p1 n v2 v4 v6 σ) v2 v4 v6 σ
    else
      bnd ((v4 * v2) - (v4 * v2) / 1000003 * 1000003) fun x3 =>
      fX4_inverseOf_31 p1 (fun v2 v4 v6 σ => fX4_inverseOf_9 p1 n v2 v4 v6 σ) v2 x3 v6 σ
set_option maxHeartbeats 4000000 in
set_option maxRecDepth 100000 in
theorem pX4_inverseOf_9 {E : gE} {p1 : Int64} {r : Int64} {σ' : gS} : ∀ (n : Nat) (v2 : Int64) (v4 : Int64) (v6 : Int32) (σ : gS), fX4_inverseOf_9 p1 n v2 v4 v6 σ = some (r, σ') → gG E mX4_inverseOf 9 [(2, .long v2), (4, .long v4), (6, .int v6)] [] σ (some (.long r)) σ' := by
  intro n
  induction n with
  | zero => intro v2 v4 v6 σ h; exact absurd (show none = some (r, σ') from h) (by intro q; cases q)
  | succ n ih =>
  intro v2 v4 v6 σ h
  unfold fX4_inverseOf_9 at h
  refine g_iload dX4_inverseOf_9 2 rfl ?_
  refine g_if_le (t := 48) dX4_inverseOf_11 (by decide) (fun c1 => ?_) (fun c1 => ?_)
  · replace h := if_t h c1
    refine g_lload dX4_inverseOf_48 1 rfl ?_
    obtain ⟨rfl, rfl⟩ := so_inj h
    exact g_lret dX4_inverseOf_50 rfl
  · replace h := if_f h c1
    refine g_iload dX4_inverseOf_14 2 rfl ?_
    refine g_iconst (v := 1) dX4_inverseOf_16 (by decide) ?_
    refine g_iand dX4_inverseOf_17 ?_
    refine g_if_eq (t := 31) dX4_inverseOf_18 (by decide) (fun c2 => ?_) (fun c2 => ?_)
    · replace h := if_t h c2
      exact pX4_inverseOf_31 (fun v2 v4 v6 σ h => ih v2 v4 v6 σ h) h
    · replace h := if_f h c2
      refine g_lload dX4_inverseOf_21 1 rfl ?_
      refine g_lload_n dX4_inverseOf_23 rfl 0 rfl ?_
      refine g_lmul dX4_inverseOf_24 ?_
      refine g_ldc2 (v := 1000003) dX4_inverseOf_25 wl_RX4_94 ?_
      refine g_lrem dX4_inverseOf_28 (by decide) ?_
      obtain ⟨x3, ex3, h⟩ := bnd_nm h
      refine g_topl ex3 ?_
      refine g_lstore (lv' := [(4, .long x3), (2, .long v2), (6, .int v6)]) dX4_inverseOf_29 (Nat.le_of_ble_eq_true rfl) rfl ?_
      refine g_sub [1, 0, 2] rfl ?_
      exact pX4_inverseOf_31 (fun v2 v4 v6 σ h => ih v2 v4 v6 σ h) h
def fX4_inverseOf (p1 : Int64) (σ : gS) : Option (Int64 × gS) :=
  fX4_inverseOf_9 p1 2000 p1 1 1000001 σ
set_option maxHeartbeats 4000000 in
set_option maxRecDepth 100000 in
theorem pX4_inverseOf {E : gE} {p1 : Int64} {r : Int64} {σ' : gS} {σ : gS} (h : fX4_inverseOf p1 σ = some (r, σ')) : gG E mX4_inverseOf 0 [(0, .long p1)] [] σ (some (.long r)) σ' := by
  unfold fX4_inverseOf at h
  refine g_lload_n dX4_inverseOf_0 rfl 0 rfl ?_
  refine g_lstore_n (lv' := [(2, .long p1), (0, .long p1)]) dX4_inverseOf_1 rfl (Nat.le_of_ble_eq_true rfl) rfl ?_
  refine g_lconst (v := 1) dX4_inverseOf_2 (by decide) ?_
  refine g_lstore (lv' := [(4, .long 1), (2, .long p1), (0, .long p1)]) dX4_inverseOf_3 (Nat.le_of_ble_eq_true rfl) rfl ?_
  refine g_ldc (v := 1000001) dX4_inverseOf_5 wc_RX4_96 ?_
  refine g_istore (lv' := [(6, .int 1000001), (4, .long 1), (2, .long p1), (0, .long p1)]) dX4_inverseOf_7 (Nat.le_of_ble_eq_true rfl) rfl ?_
  refine g_sub [2, 1, 0] rfl ?_
  exact pX4_inverseOf_9 2000 p1 1 1000001 σ h
theorem zX4_inverseOf {E : gE} {p1 : Int64} {r : Int64} {σ σ' : gS} (h : fX4_inverseOf p1 σ = some (r, σ')) : gC E mX4_inverseOf [.long p1] σ (some (.long r)) σ' :=
  gC_of (by decide +kernel) rfl (Nat.le_of_ble_eq_true rfl) (pX4_inverseOf h)
def mX4_makeLead : gM := (yX4_makeLead, cX4_makeLead, RX4, 10, none, 1, 26)
theorem dX4_makeLead_0 : decode mX4_makeLead.2.1 0 = .ok (.aload_n 0, 1) := by decide +kernel
theorem dX4_makeLead_1 : decode mX4_makeLead.2.1 1 = .ok (.getfield 13, 3) := by decide +kernel
theorem dX4_makeLead_4 : decode mX4_makeLead.2.1 4 = .ok (.aload_n 0, 1) := by decide +kernel
theorem dX4_makeLead_5 : decode mX4_makeLead.2.1 5 = .ok (.getfield 80, 3) := by decide +kernel
theorem dX4_makeLead_8 : decode mX4_makeLead.2.1 8 = .ok (.aaload, 1) := by decide +kernel
theorem dX4_makeLead_9 : decode mX4_makeLead.2.1 9 = .ok (.astore_n 2, 1) := by decide +kernel
theorem dX4_makeLead_10 : decode mX4_makeLead.2.1 10 = .ok (.aload_n 2, 1) := by decide +kernel
theorem dX4_makeLead_11 : decode mX4_makeLead.2.1 11 = .ok (.iload_n 1, 1) := by decide +kernel
theorem dX4_makeLead_12 : decode mX4_makeLead.2.1 12 = .ok (.iaload, 1) := by decide +kernel
theorem dX4_makeLead_13 : decode mX4_makeLead.2.1 13 = .ok (.i2l, 1) := by decide +kernel
theorem dX4_makeLead_14 : decode mX4_makeLead.2.1 14 = .ok (.invokestatic 90, 3) := by decide +kernel
theorem dX4_makeLead_17 : decode mX4_makeLead.2.1 17 = .ok (.lstore_n 3, 1) := by decide +kernel
theorem dX4_makeLead_18 : decode mX4_makeLead.2.1 18 = .ok (.iload_n 1, 1) := by decide +kernel
theorem dX4_makeLead_19 : decode mX4_makeLead.2.1 19 = .ok (.istore 5, 2) := by decide +kernel
theorem dX4_makeLead_21 : decode mX4_makeLead.2.1 21 = .ok (.iload 5, 2) := by decide +kernel
theorem dX4_makeLead_23 : decode mX4_makeLead.2.1 23 = .ok (.aload_n 0, 1) := by decide +kernel
theorem dX4_makeLead_24 : decode mX4_makeLead.2.1 24 = .ok (.getfield 73, 3) := by decide +kernel
theorem dX4_makeLead_27 : decode mX4_makeLead.2.1 27 = .ok (.if_icmp .ge 25, 3) := by decide +kernel
theorem dX4_makeLead_30 : decode mX4_makeLead.2.1 30 = .ok (.aload_n 2, 1) := by decide +kernel
theorem dX4_makeLead_31 : decode mX4_makeLead.2.1 31 = .ok (.iload 5, 2) := by decide +kernel
theorem dX4_makeLead_33 : decode mX4_makeLead.2.1 33 = .ok (.aload_n 2, 1) := by decide +kernel
theorem dX4_makeLead_34 : decode mX4_makeLead.2.1 34 = .ok (.iload 5, 2) := by decide +kernel
theorem dX4_makeLead_36 : decode mX4_makeLead.2.1 36 = .ok (.iaload, 1) := by decide +kernel
theorem dX4_makeLead_37 : decode mX4_makeLead.2.1 37 = .ok (.i2l, 1) := by decide +kernel
theorem dX4_makeLead_38 : decode mX4_makeLead.2.1 38 = .ok (.lload_n 3, 1) := by decide +kernel
theorem dX4_makeLead_39 : decode mX4_makeLead.2.1 39 = .ok (.lmul, 1) := by decide +kernel
theorem dX4_makeLead_40 : decode mX4_makeLead.2.1 40 = .ok (.ldc2_w 94, 3) := by decide +kernel
theorem dX4_makeLead_43 : decode mX4_makeLead.2.1 43 = .ok (.lrem, 1) := by decide +kernel
theorem dX4_makeLead_44 : decode mX4_makeLead.2.1 44 = .ok (.l2i, 1) := by decide +kernel
theorem dX4_makeLead_45 : decode mX4_makeLead.2.1 45 = .ok (.iastore, 1) := by decide +kernel
theorem dX4_makeLead_46 : decode mX4_makeLead.2.1 46 = .ok (.iinc 5 1, 3) := by decide +kernel
theorem dX4_makeLead_49 : decode mX4_makeLead.2.1 49 = .ok (.goto (-28), 3) := by decide +kernel
theorem dX4_makeLead_52 : decode mX4_makeLead.2.1 52 = .ok (.iconst 0, 1) := by decide +kernel
theorem dX4_makeLead_53 : decode mX4_makeLead.2.1 53 = .ok (.istore 5, 2) := by decide +kernel
theorem dX4_makeLead_55 : decode mX4_makeLead.2.1 55 = .ok (.iload 5, 2) := by decide +kernel
theorem dX4_makeLead_57 : decode mX4_makeLead.2.1 57 = .ok (.aload_n 0, 1) := by decide +kernel
theorem dX4_makeLead_58 : decode mX4_makeLead.2.1 58 = .ok (.getfield 36, 3) := by decide +kernel
theorem dX4_makeLead_61 : decode mX4_makeLead.2.1 61 = .ok (.if_icmp .ge 92, 3) := by decide +kernel
theorem dX4_makeLead_64 : decode mX4_makeLead.2.1 64 = .ok (.aload_n 0, 1) := by decide +kernel
theorem dX4_makeLead_65 : decode mX4_makeLead.2.1 65 = .ok (.getfield 13, 3) := by decide +kernel
theorem dX4_makeLead_68 : decode mX4_makeLead.2.1 68 = .ok (.iload 5, 2) := by decide +kernel
theorem dX4_makeLead_70 : decode mX4_makeLead.2.1 70 = .ok (.aaload, 1) := by decide +kernel
theorem dX4_makeLead_71 : decode mX4_makeLead.2.1 71 = .ok (.astore 6, 2) := by decide +kernel
theorem dX4_makeLead_73 : decode mX4_makeLead.2.1 73 = .ok (.ldc 67, 2) := by decide +kernel
theorem dX4_makeLead_75 : decode mX4_makeLead.2.1 75 = .ok (.aload 6, 2) := by decide +kernel
theorem dX4_makeLead_77 : decode mX4_makeLead.2.1 77 = .ok (.iload_n 1, 1) := by decide +kernel
theorem dX4_makeLead_78 : decode mX4_makeLead.2.1 78 = .ok (.iaload, 1) := by decide +kernel
theorem dX4_makeLead_79 : decode mX4_makeLead.2.1 79 = .ok (.isub, 1) := by decide +kernel
theorem dX4_makeLead_80 : decode mX4_makeLead.2.1 80 = .ok (.i2l, 1) := by decide +kernel
theorem dX4_makeLead_81 : decode mX4_makeLead.2.1 81 = .ok (.lstore 7, 2) := by decide +kernel
theorem dX4_makeLead_83 : decode mX4_makeLead.2.1 83 = .ok (.iload 5, 2) := by decide +kernel
theorem dX4_makeLead_85 : decode mX4_makeLead.2.1 85 = .ok (.aload_n 0, 1) := by decide +kernel
theorem dX4_makeLead_86 : decode mX4_makeLead.2.1 86 = .ok (.getfield 80, 3) := by decide +kernel
theorem dX4_makeLead_89 : decode mX4_makeLead.2.1 89 = .ok (.if_icmp .eq 58, 3) := by decide +kernel
theorem dX4_makeLead_92 : decode mX4_makeLead.2.1 92 = .ok (.lload 7, 2) := by decide +kernel
theorem dX4_makeLead_94 : decode mX4_makeLead.2.1 94 = .ok (.ldc2_w 94, 3) := by decide +kernel
theorem dX4_makeLead_97 : decode mX4_makeLead.2.1 97 = .ok (.lcmp, 1) := by decide +kernel
theorem dX4_makeLead_98 : decode mX4_makeLead.2.1 98 = .ok (.ifCond .ne 6, 3) := by decide +kernel
theorem dX4_makeLead_101 : decode mX4_makeLead.2.1 101 = .ok (.goto 46, 3) := by decide +kernel
theorem dX4_makeLead_104 : decode mX4_makeLead.2.1 104 = .ok (.iload_n 1, 1) := by decide +kernel
theorem dX4_makeLead_105 : decode mX4_makeLead.2.1 105 = .ok (.istore 9, 2) := by decide +kernel
theorem dX4_makeLead_107 : decode mX4_makeLead.2.1 107 = .ok (.iload 9, 2) := by decide +kernel
theorem dX4_makeLead_109 : decode mX4_makeLead.2.1 109 = .ok (.aload_n 0, 1) := by decide +kernel
theorem dX4_makeLead_110 : decode mX4_makeLead.2.1 110 = .ok (.getfield 73, 3) := by decide +kernel
theorem dX4_makeLead_113 : decode mX4_makeLead.2.1 113 = .ok (.if_icmp .ge 34, 3) := by decide +kernel
theorem dX4_makeLead_116 : decode mX4_makeLead.2.1 116 = .ok (.aload 6, 2) := by decide +kernel
theorem dX4_makeLead_118 : decode mX4_makeLead.2.1 118 = .ok (.iload 9, 2) := by decide +kernel
theorem dX4_makeLead_120 : decode mX4_makeLead.2.1 120 = .ok (.aload 6, 2) := by decide +kernel
theorem dX4_makeLead_122 : decode mX4_makeLead.2.1 122 = .ok (.iload 9, 2) := by decide +kernel
theorem dX4_makeLead_124 : decode mX4_makeLead.2.1 124 = .ok (.iaload, 1) := by decide +kernel
theorem dX4_makeLead_125 : decode mX4_makeLead.2.1 125 = .ok (.i2l, 1) := by decide +kernel
theorem dX4_makeLead_126 : decode mX4_makeLead.2.1 126 = .ok (.lload 7, 2) := by decide +kernel
theorem dX4_makeLead_128 : decode mX4_makeLead.2.1 128 = .ok (.aload_n 2, 1) := by decide +kernel
theorem dX4_makeLead_129 : decode mX4_makeLead.2.1 129 = .ok (.iload 9, 2) := by decide +kernel
theorem dX4_makeLead_131 : decode mX4_makeLead.2.1 131 = .ok (.iaload, 1) := by decide +kernel
theorem dX4_makeLead_132 : decode mX4_makeLead.2.1 132 = .ok (.i2l, 1) := by decide +kernel
theorem dX4_makeLead_133 : decode mX4_makeLead.2.1 133 = .ok (.lmul, 1) := by decide +kernel
theorem dX4_makeLead_134 : decode mX4_makeLead.2.1 134 = .ok (.ladd, 1) := by decide +kernel
theorem dX4_makeLead_135 : decode mX4_makeLead.2.1 135 = .ok (.ldc2_w 94, 3) := by decide +kernel
theorem dX4_makeLead_138 : decode mX4_makeLead.2.1 138 = .ok (.lrem, 1) := by decide +kernel
theorem dX4_makeLead_139 : decode mX4_makeLead.2.1 139 = .ok (.l2i, 1) := by decide +kernel
theorem dX4_makeLead_140 : decode mX4_makeLead.2.1 140 = .ok (.iastore, 1) := by decide +kernel
theorem dX4_makeLead_141 : decode mX4_makeLead.2.1 141 = .ok (.iinc 9 1, 3) := by decide +kernel
theorem dX4_makeLead_144 : decode mX4_makeLead.2.1 144 = .ok (.goto (-37), 3) := by decide +kernel
theorem dX4_makeLead_147 : decode mX4_makeLead.2.1 147 = .ok (.iinc 5 1, 3) := by decide +kernel
theorem dX4_makeLead_150 : decode mX4_makeLead.2.1 150 = .ok (.goto (-95), 3) := by decide +kernel
theorem dX4_makeLead_153 : decode mX4_makeLead.2.1 153 = .ok (.return_, 1) := by decide +kernel
theorem okX4_makeLead_90 : gOkS mX4_makeLead mX4_inverseOf 90 1 := ⟨List.forall_mem_cons.mpr ⟨(gm 817 (by decide +kernel) rfl), List.forall_mem_cons.mpr ⟨(gm 815 (by decide +kernel) rfl), List.forall_mem_cons.mpr ⟨(gm 816 (by decide +kernel) rfl), List.forall_mem_cons.mpr ⟨(gm 115 (by decide +kernel) rfl), fun _ h => absurd h List.not_mem_nil⟩⟩⟩⟩, by decide +kernel, by decide +kernel, by decide +kernel⟩
def fX4_makeLead_147 (p1 : Int32) (k55 : Nat → Int32 → gS → Option (Unit × gS)) (v2 : Nat) (v5 : Int32) (σ : gS) : Option (Unit × gS) :=
  bnd (v5 + 1) fun x1 =>
  k55 v2 x1 σ
set_option maxHeartbeats 4000000 in
set_option maxRecDepth 100000 in
theorem pX4_makeLead_147 {E : gE} {p1 : Int32} {k55 : Nat → Int32 → gS → Option (Unit × gS)} {r : Unit} {σ' : gS} {v2 : Nat} {v5 : Int32} {σ : gS} (hk55 : ∀ (v2 : Nat) (v5 : Int32) (σ : gS), k55 v2 v5 σ = some (r, σ') → gG E mX4_makeLead 55 [(0, .ref 59), (1, .int p1), (2, .ref v2), (5, .int v5)] [] σ (none) σ') (h : fX4_makeLead_147 p1 k55 v2 v5 σ = some (r, σ')) : gG E mX4_makeLead 147 [(0, .ref 59), (1, .int p1), (2, .ref v2), (5, .int v5)] [] σ (none) σ' := by
  unfold fX4_makeLead_147 at h
  obtain ⟨x1, ex1, h⟩ := bnd_nm h
  refine g_iinc (j := 3) (v := x1) (lv' := [(5, .int x1), (0, .ref 59), (1, .int p1), (2, .ref v2)]) dX4_makeLead_147 rfl (by rw [ex1]; rfl) (Nat.le_of_ble_eq_true rfl) rfl ?_
  refine g_goto (t := 55) dX4_makeLead_150 (by decide) ?_
  refine g_sub [1, 2, 3, 0] rfl ?_
  exact hk55 v2 x1 σ h
def fX4_makeLead_107 (p1 : Int32) (k55 : Nat → Int32 → gS → Option (Unit × gS)) : Nat → Nat → Int32 → Nat → Int64 → Int32 → gS → Option (Unit × gS)
  | 0, _, _, _, _, _, _ => none
  | n + 1, v2, v5, v6, v7, v9, σ => if (σ.1 59 2) ≤ v9 then
    fX4_makeLead_147 p1 k55 v2 v5 σ
  else
    gg (61 ≤ v6 ∧ v6 < 121) (
    gg (¬ (v9 < 0 ∨ 48 ≤ v9.toNatClampNeg)) (
    gg (61 ≤ v2 ∧ v2 < 121) (
    gg (¬ (v9 < 0 ∨ 48 ≤ v9.toNatClampNeg)) (
    gg (61 ≤ v6 ∧ v6 < 121) (
    gg (¬ (v9 < 0 ∨ 48 ≤ v9.toNatClampNeg)) (
    bnd (gsI σ v6 v9.toNatClampNeg (((((σ.1 v6 v9.toNatClampNeg).toInt64) + (v7 * ((σ.1 v2 v9.toNatClampNeg).toInt64))) - (((σ.1 v6 v9.toNatClampNeg).toInt64) + (v7 * ((σ.1 v2 v9.toNatClampNeg).toInt64))) / 1000003 * 1000003).toInt32)) fun σ8 =>
    bnd (v9 + 1) fun x9 =>
    fX4_makeLead_107 p1 k55 n v2 v5 v6 v7 x9 σ8))))))
set_option maxHeartbeats 4000000 in
set_option maxRecDepth 100000 in
theorem pX4_makeLead_107 {E : gE} {p1 : Int32} {k55 : Nat → Int32 → gS → Option (Unit × gS)} {r : Unit} {σ' : gS} (hk55 : ∀ (v2 : Nat) (v5 : Int32) (σ : gS), k55 v2 v5 σ = some (r, σ') → gG E mX4_makeLead 55 [(0, .ref 59), (1, .int p1), (2, .ref v2), (5, .int v5)] [] σ (none) σ') : ∀ (n : Nat) (v2 : Nat) (v5 : Int32) (v6 : Nat) (v7 : Int64) (v9 : Int32) (σ : gS), fX4_makeLead_107 p1 k55 n v2 v5 v6 v7 v9 σ = some (r, σ') → gG E mX4_makeLead 107 [(0, .ref 59), (1, .int p1), (2, .ref v2), (5, .int v5), (6, .ref v6), (7, .long v7), (9, .int v9)] [] σ (none) σ' := by
  intro n
  induction n with
  | zero => intro v2 v5 v6 v7 v9 σ h; exact absurd (show none = some (r, σ') from h) (by intro q; cases q)
  | succ n ih =>
  intro v2 v5 v6 v7 v9 σ h
  unfold fX4_makeLead_107 at h
  refine g_iload dX4_makeLead_107 6 rfl ?_
  refine g_aload_n dX4_makeLead_109 rfl 0 rfl ?_
  refine g_getI dX4_makeLead_110 gi_59 rfl fl_RX4_73 ?_
  refine g_icmp_ge (t := 147) dX4_makeLead_113 (by decide) (fun c1 => ?_) (fun c1 => ?_)
  · replace h := if_t h c1
    refine g_sub [0, 1, 2, 3] rfl ?_
    exact pX4_makeLead_147 hk55 h
  · replace h := if_f h c1
    refine g_aload dX4_makeLead_116 4 rfl ?_
    refine g_iload dX4_makeLead_118 6 rfl ?_
    refine g_aload dX4_makeLead_120 4 rfl ?_
    refine g_iload dX4_makeLead_122 6 rfl ?_
    obtain ⟨g2, h⟩ := gg_some h
    obtain ⟨g3, h⟩ := gg_some h
    refine g_iald dX4_makeLead_124 (gi_rw g2) g3 ?_
    refine g_i2l dX4_makeLead_125 ?_
    refine g_lload dX4_makeLead_126 5 rfl ?_
    refine g_aload_n dX4_makeLead_128 rfl 2 rfl ?_
    refine g_iload dX4_makeLead_129 6 rfl ?_
    obtain ⟨g4, h⟩ := gg_some h
    obtain ⟨g5, h⟩ := gg_some h
    refine g_iald dX4_makeLead_131 (gi_rw g4) g5 ?_
    refine g_i2l dX4_makeLead_132 ?_
    refine g_lmul dX4_makeLead_133 ?_
    refine g_ladd dX4_makeLead_134 ?_
    refine g_ldc2 (v := 1000003) dX4_makeLead_135 wl_RX4_94 ?_
    refine g_lrem dX4_makeLead_138 (by decide) ?_
    refine g_l2i dX4_makeLead_139 ?_
    obtain ⟨g6, h⟩ := gg_some h
    obtain ⟨g7, h⟩ := gg_some h
    obtain ⟨σ8, eσ8, h⟩ := bnd_nm h
    refine g_iast dX4_makeLead_140 (gi_rw g6) g7 (g_st eσ8 ?_)
    obtain ⟨x9, ex9, h⟩ := bnd_nm h
    refine g_iinc (j := 6) (v := x9) (lv' := [(9, .int x9), (0, .ref 59), (1, .int p1), (2, .ref v2), (5, .int v5), (6, .ref v6), (7, .long v7)]) dX4_makeLead_141 rfl (by rw [ex9]; rfl) (Nat.le_of_ble_eq_true rfl) rfl ?_
    refine g_goto (t := 107) dX4_makeLead_144 (by decide) ?_
    refine g_sub [1, 2, 3, 4, 5, 6, 0] rfl ?_
    exact ih v2 v5 v6 v7 x9 σ8 h
def fX4_makeLead_55 (p1 : Int32) : Nat → Nat → Int32 → gS → Option (Unit × gS)
  | 0, _, _, _ => none
  | n + 1, v2, v5, σ => if (σ.1 59 1) ≤ v5 then
    some ((), σ)
  else
    gg (¬ (v5 < 0 ∨ 60 ≤ v5.toNatClampNeg)) (
    bnd (σ.2.2 60 v5.toNatClampNeg) fun x3 =>
    gg (61 ≤ x3 ∧ x3 < 121) (
    gg (¬ (p1 < 0 ∨ 48 ≤ p1.toNatClampNeg)) (
    bnd ((1000003 - (σ.1 x3 p1.toNatClampNeg)).toInt64) fun x6 =>
    if v5 = (σ.1 59 3) then
      fX4_makeLead_147 p1 (fun v2 v5 σ => fX4_makeLead_55 p1 n v2 v5 σ) v2 v5 σ
    else
      if (lg_cmp x6 1000003) = 0 then
        fX4_makeLead_147 p1 (fun v2 v5 σ => fX4_makeLead_55 p1 n v2 v5 σ) v2 v5 σ
      else
        fX4_makeLead_107 p1 (fun v2 v5 σ => fX4_makeLead_55 p1 n v2 v5 σ) 2000 v2 v5 x3 x6 p1 σ)))
set_option maxHeartbeats 4000000 in
set_option maxRecDepth 100000 in
theorem pX4_makeLead_55 {E : gE} {p1 : Int32} {r : Unit} {σ' : gS} : ∀ (n : Nat) (v2 : Nat) (v5 : Int32) (σ : gS), fX4_makeLead_55 p1 n v2 v5 σ = some (r, σ') → gG E mX4_makeLead 55 [(0, .ref 59), (1, .int p1), (2, .ref v2), (5, .int v5)] [] σ (none) σ' := by
  intro n
  induction n with
  | zero => intro v2 v5 σ h; exact absurd (show none = some (r, σ') from h) (by intro q; cases q)
  | succ n ih =>
  intro v2 v5 σ h
  unfold fX4_makeLead_55 at h
  refine g_iload dX4_makeLead_55 3 rfl ?_
  refine g_aload_n dX4_makeLead_57 rfl 0 rfl ?_
  refine g_getI dX4_makeLead_58 gi_59 rfl fl_RX4_36 ?_
  refine g_icmp_ge (t := 153) dX4_makeLead_61 (by decide) (fun c1 => ?_) (fun c1 => ?_)
  · replace h := if_t h c1
    obtain ⟨rfl, rfl⟩ := so_inj h
    exact g_vret dX4_makeLead_153 rfl
  · replace h := if_f h c1
    refine g_aload_n dX4_makeLead_64 rfl 0 rfl ?_
    refine g_getC (n := 60) dX4_makeLead_65 gi_59 rfl fl_RX4_13 ?_
    refine g_iload dX4_makeLead_68 3 rfl ?_
    obtain ⟨g2, h⟩ := gg_some h
    refine g_aaldA dX4_makeLead_70 gi_60 g2 ?_
    obtain ⟨x3, ex3, h⟩ := bnd_nm h
    refine g_topr ex3 ?_
    obtain ⟨g4, h⟩ := gg_some h
    refine g_astore (lv' := [(6, .ref x3), (0, .ref 59), (1, .int p1), (2, .ref v2), (5, .int v5)]) dX4_makeLead_71 (Nat.le_of_ble_eq_true rfl) rfl ?_
    refine g_ldc (v := 1000003) dX4_makeLead_73 wc_RX4_67 ?_
    refine g_aload dX4_makeLead_75 0 rfl ?_
    refine g_iload_n dX4_makeLead_77 rfl 2 rfl ?_
    obtain ⟨g5, h⟩ := gg_some h
    refine g_iald dX4_makeLead_78 (gi_rw g4) g5 ?_
    refine g_isub dX4_makeLead_79 ?_
    refine g_i2l dX4_makeLead_80 ?_
    obtain ⟨x6, ex6, h⟩ := bnd_nm h
    refine g_topl ex6 ?_
    refine g_lstore (lv' := [(7, .long x6), (6, .ref x3), (0, .ref 59), (1, .int p1), (2, .ref v2), (5, .int v5)]) dX4_makeLead_81 (Nat.le_of_ble_eq_true rfl) rfl ?_
    refine g_iload dX4_makeLead_83 5 rfl ?_
    refine g_aload_n dX4_makeLead_85 rfl 2 rfl ?_
    refine g_getI dX4_makeLead_86 gi_59 rfl fl_RX4_80 ?_
    refine g_icmp_eq (t := 147) dX4_makeLead_89 (by decide) (fun c7 => ?_) (fun c7 => ?_)
    · replace h := if_t h c7
      refine g_sub [2, 3, 4, 5] rfl ?_
      exact pX4_makeLead_147 (fun v2 v5 σ h => ih v2 v5 σ h) h
    · replace h := if_f h c7
      refine g_lload dX4_makeLead_92 0 rfl ?_
      refine g_ldc2 (v := 1000003) dX4_makeLead_94 wl_RX4_94 ?_
      refine g_lcmp dX4_makeLead_97 ?_
      refine g_if_ne (t := 104) dX4_makeLead_98 (by decide) (fun c8 => ?_) (fun c8 => ?_)
      · replace h := if_f h c8
        refine g_iload_n dX4_makeLead_104 rfl 3 rfl ?_
        refine g_istore (lv' := [(9, .int p1), (7, .long x6), (6, .ref x3), (0, .ref 59), (1, .int p1), (2, .ref v2), (5, .int v5)]) dX4_makeLead_105 (Nat.le_of_ble_eq_true rfl) rfl ?_
        refine g_sub [3, 4, 5, 6, 2, 1, 0] rfl ?_
        exact pX4_makeLead_107 (fun v2 v5 σ h => ih v2 v5 σ h) 2000 v2 v5 x3 x6 p1 σ h
      · replace h := if_t h c8
        refine g_goto (t := 147) dX4_makeLead_101 (by decide) ?_
        refine g_sub [2, 3, 4, 5] rfl ?_
        exact pX4_makeLead_147 (fun v2 v5 σ h => ih v2 v5 σ h) h
def fX4_makeLead_21 (p1 : Int32) : Nat → Nat → Int64 → Int32 → gS → Option (Unit × gS)
  | 0, _, _, _, _ => none
  | n + 1, v2, v3, v5, σ => if (σ.1 59 2) ≤ v5 then
    fX4_makeLead_55 p1 2000 v2 0 σ
  else
    gg (61 ≤ v2 ∧ v2 < 121) (
    gg (¬ (v5 < 0 ∨ 48 ≤ v5.toNatClampNeg)) (
    gg (61 ≤ v2 ∧ v2 < 121) (
    gg (¬ (v5 < 0 ∨ 48 ≤ v5.toNatClampNeg)) (
    bnd (gsI σ v2 v5.toNatClampNeg (((((σ.1 v2 v5.toNatClampNeg).toInt64) * v3) - (((σ.1 v2 v5.toNatClampNeg).toInt64) * v3) / 1000003 * 1000003).toInt32)) fun σ6 =>
    bnd (v5 + 1) fun x7 =>
    fX4_makeLead_21 p1 n v2 v3 x7 σ6))))
set_option maxHeartbeats 4000000 in
set_option maxRecDepth 100000 in
theorem pX4_makeLead_21 {E : gE} {p1 : Int32} {r : Unit} {σ' : gS} : ∀ (n : Nat) (v2 : Nat) (v3 : Int64) (v5 : Int32) (σ : gS), fX4_makeLead_21 p1 n v2 v3 v5 σ = some (r, σ') → gG E mX4_makeLead 21 [(0, .ref 59), (1, .int p1), (2, .ref v2), (3, .long v3), (5, .int v5)] [] σ (none) σ' := by
  intro n
  induction n with
  | zero => intro v2 v3 v5 σ h; exact absurd (show none = some (r, σ') from h) (by intro q; cases q)
  | succ n ih =>
  intro v2 v3 v5 σ h
  unfold fX4_makeLead_21 at h
  refine g_iload dX4_makeLead_21 4 rfl ?_
  refine g_aload_n dX4_makeLead_23 rfl 0 rfl ?_
  refine g_getI dX4_makeLead_24 gi_59 rfl fl_RX4_73 ?_
  refine g_icmp_ge (t := 52) dX4_makeLead_27 (by decide) (fun c1 => ?_) (fun c1 => ?_)
  · replace h := if_t h c1
    refine g_iconst (v := 0) dX4_makeLead_52 (by decide) ?_
    refine g_istore (lv' := [(5, .int 0), (0, .ref 59), (1, .int p1), (2, .ref v2), (3, .long v3)]) dX4_makeLead_53 (Nat.le_of_ble_eq_true rfl) rfl ?_
    refine g_sub [1, 2, 3, 0] rfl ?_
    exact pX4_makeLead_55 2000 v2 0 σ h
  · replace h := if_f h c1
    refine g_aload_n dX4_makeLead_30 rfl 2 rfl ?_
    refine g_iload dX4_makeLead_31 4 rfl ?_
    refine g_aload_n dX4_makeLead_33 rfl 2 rfl ?_
    refine g_iload dX4_makeLead_34 4 rfl ?_
    obtain ⟨g2, h⟩ := gg_some h
    obtain ⟨g3, h⟩ := gg_some h
    refine g_iald dX4_makeLead_36 (gi_rw g2) g3 ?_
    refine g_i2l dX4_makeLead_37 ?_
    refine g_lload_n dX4_makeLead_38 rfl 3 rfl ?_
    refine g_lmul dX4_makeLead_39 ?_
    refine g_ldc2 (v := 1000003) dX4_makeLead_40 wl_RX4_94 ?_
    refine g_lrem dX4_makeLead_43 (by decide) ?_
    refine g_l2i dX4_makeLead_44 ?_
    obtain ⟨g4, h⟩ := gg_some h
    obtain ⟨g5, h⟩ := gg_some h
    obtain ⟨σ6, eσ6, h⟩ := bnd_nm h
    refine g_iast dX4_makeLead_45 (gi_rw g4) g5 (g_st eσ6 ?_)
    obtain ⟨x7, ex7, h⟩ := bnd_nm h
    refine g_iinc (j := 4) (v := x7) (lv' := [(5, .int x7), (0, .ref 59), (1, .int p1), (2, .ref v2), (3, .long v3)]) dX4_makeLead_46 rfl (by rw [ex7]; rfl) (Nat.le_of_ble_eq_true rfl) rfl ?_
    refine g_goto (t := 21) dX4_makeLead_49 (by decide) ?_
    refine g_sub [1, 2, 3, 4, 0] rfl ?_
    exact ih v2 v3 x7 σ6 h
def fX4_makeLead (p1 : Int32) (σ : gS) : Option (Unit × gS) :=
  gg (¬ (σ.1 59 3 < 0 ∨ 60 ≤ (σ.1 59 3).toNatClampNeg)) (
  bnd (σ.2.2 60 ((σ.1 59 3).toNatClampNeg)) fun x2 =>
  gg (61 ≤ x2 ∧ x2 < 121) (
  gg (¬ (p1 < 0 ∨ 48 ≤ p1.toNatClampNeg)) (
  bd (fX4_inverseOf ((σ.1 x2 p1.toNatClampNeg).toInt64) σ) fun x5 σ6 =>
  fX4_makeLead_21 p1 2000 x2 x5 p1 σ6)))
set_option maxHeartbeats 4000000 in
set_option maxRecDepth 100000 in
theorem pX4_makeLead {E : gE} {p1 : Int32} {r : Unit} {σ' : gS} {σ : gS} (h : fX4_makeLead p1 σ = some (r, σ')) : gG E mX4_makeLead 0 [(0, .ref 59), (1, .int p1)] [] σ (none) σ' := by
  unfold fX4_makeLead at h
  refine g_aload_n dX4_makeLead_0 rfl 0 rfl ?_
  refine g_getC (n := 60) dX4_makeLead_1 gi_59 rfl fl_RX4_13 ?_
  refine g_aload_n dX4_makeLead_4 rfl 0 rfl ?_
  refine g_getI dX4_makeLead_5 gi_59 rfl fl_RX4_80 ?_
  obtain ⟨g1, h⟩ := gg_some h
  refine g_aaldA dX4_makeLead_8 gi_60 g1 ?_
  obtain ⟨x2, ex2, h⟩ := bnd_nm h
  refine g_topr ex2 ?_
  obtain ⟨g3, h⟩ := gg_some h
  refine g_astore_n (lv' := [(2, .ref x2), (0, .ref 59), (1, .int p1)]) dX4_makeLead_9 rfl (Nat.le_of_ble_eq_true rfl) rfl ?_
  refine g_aload_n dX4_makeLead_10 rfl 0 rfl ?_
  refine g_iload_n dX4_makeLead_11 rfl 2 rfl ?_
  obtain ⟨g4, h⟩ := gg_some h
  refine g_iald dX4_makeLead_12 (gi_rw g3) g4 ?_
  refine g_i2l dX4_makeLead_13 ?_
  obtain ⟨x5, σ6, y7, h⟩ := bd_some h
  refine g_callSr (as := [.long ((σ.1 x2 p1.toNatClampNeg).toInt64)]) (st := []) (zX4_inverseOf y7) dX4_makeLead_14 okX4_makeLead_90 (Nat.le_of_ble_eq_true rfl) ?_
  refine g_lstore_n (lv' := [(3, .long x5), (2, .ref x2), (0, .ref 59), (1, .int p1)]) dX4_makeLead_17 rfl (Nat.le_of_ble_eq_true rfl) rfl ?_
  refine g_iload_n dX4_makeLead_18 rfl 3 rfl ?_
  refine g_istore (lv' := [(5, .int p1), (3, .long x5), (2, .ref x2), (0, .ref 59), (1, .int p1)]) dX4_makeLead_19 (Nat.le_of_ble_eq_true rfl) rfl ?_
  refine g_sub [3, 4, 2, 1, 0] rfl ?_
  exact pX4_makeLead_21 2000 x2 x5 p1 σ6 h
theorem zX4_makeLead {E : gE} {p1 : Int32} {r : Unit} {σ σ' : gS} (h : fX4_makeLead p1 σ = some (r, σ')) : gC E mX4_makeLead [.ref 59, .int p1] σ (none) σ' :=
  gC_of (by decide +kernel) rfl (Nat.le_of_ble_eq_true rfl) (pX4_makeLead h)
theorem fp_RX4_80 : gFp RX4 80 4 3 .int := ⟨RX4, TX4, 7, rfl, by decide, ux_4, Or.inl (gm 337 (by decide +kernel) rfl), rfl, by decide +kernel, ⟨tyX4, tyX4_ok⟩, nmX4⟩
theorem fl_RX4_23 : gFl RX4 23 4 6 := ⟨RX4, TX4, 7, rfl, by decide, ux_4, Or.inl (gm 341 (by decide +kernel) rfl)⟩
theorem fl_RX4_20 : gFl RX4 20 4 5 := ⟨RX4, TX4, 7, rfl, by decide, ux_4, Or.inl (gm 340 (by decide +kernel) rfl)⟩
def mX4_reduce : gM := (yX4_reduce, cX4_reduce, RX4, 4, none, 2, 55)
theorem dX4_reduce_0 : decode mX4_reduce.2.1 0 = .ok (.aload_n 0, 1) := by decide +kernel
theorem dX4_reduce_1 : decode mX4_reduce.2.1 1 = .ok (.iconst 0, 1) := by decide +kernel
theorem dX4_reduce_2 : decode mX4_reduce.2.1 2 = .ok (.putfield 80, 3) := by decide +kernel
theorem dX4_reduce_5 : decode mX4_reduce.2.1 5 = .ok (.iconst 0, 1) := by decide +kernel
theorem dX4_reduce_6 : decode mX4_reduce.2.1 6 = .ok (.istore_n 1, 1) := by decide +kernel
theorem dX4_reduce_7 : decode mX4_reduce.2.1 7 = .ok (.iload_n 1, 1) := by decide +kernel
theorem dX4_reduce_8 : decode mX4_reduce.2.1 8 = .ok (.aload_n 0, 1) := by decide +kernel
theorem dX4_reduce_9 : decode mX4_reduce.2.1 9 = .ok (.getfield 73, 3) := by decide +kernel
theorem dX4_reduce_12 : decode mX4_reduce.2.1 12 = .ok (.if_icmp .ge 104, 3) := by decide +kernel
theorem dX4_reduce_15 : decode mX4_reduce.2.1 15 = .ok (.aload_n 0, 1) := by decide +kernel
theorem dX4_reduce_16 : decode mX4_reduce.2.1 16 = .ok (.iload_n 1, 1) := by decide +kernel
theorem dX4_reduce_17 : decode mX4_reduce.2.1 17 = .ok (.invokevirtual 83, 3) := by decide +kernel
theorem dX4_reduce_20 : decode mX4_reduce.2.1 20 = .ok (.istore_n 2, 1) := by decide +kernel
theorem dX4_reduce_21 : decode mX4_reduce.2.1 21 = .ok (.aload_n 0, 1) := by decide +kernel
theorem dX4_reduce_22 : decode mX4_reduce.2.1 22 = .ok (.getfield 20, 3) := by decide +kernel
theorem dX4_reduce_25 : decode mX4_reduce.2.1 25 = .ok (.iload_n 1, 1) := by decide +kernel
theorem dX4_reduce_26 : decode mX4_reduce.2.1 26 = .ok (.iload_n 2, 1) := by decide +kernel
theorem dX4_reduce_27 : decode mX4_reduce.2.1 27 = .ok (.ldc 66, 2) := by decide +kernel
theorem dX4_reduce_29 : decode mX4_reduce.2.1 29 = .ok (.if_icmp .ne 8, 3) := by decide +kernel
theorem dX4_reduce_32 : decode mX4_reduce.2.1 32 = .ok (.ldc 66, 2) := by decide +kernel
theorem dX4_reduce_34 : decode mX4_reduce.2.1 34 = .ok (.goto 7, 3) := by decide +kernel
theorem dX4_reduce_37 : decode mX4_reduce.2.1 37 = .ok (.aload_n 0, 1) := by decide +kernel
theorem dX4_reduce_38 : decode mX4_reduce.2.1 38 = .ok (.getfield 80, 3) := by decide +kernel
theorem dX4_reduce_41 : decode mX4_reduce.2.1 41 = .ok (.iastore, 1) := by decide +kernel
theorem dX4_reduce_42 : decode mX4_reduce.2.1 42 = .ok (.iload_n 2, 1) := by decide +kernel
theorem dX4_reduce_43 : decode mX4_reduce.2.1 43 = .ok (.ldc 66, 2) := by decide +kernel
theorem dX4_reduce_45 : decode mX4_reduce.2.1 45 = .ok (.if_icmp .ne 18, 3) := by decide +kernel
theorem dX4_reduce_48 : decode mX4_reduce.2.1 48 = .ok (.aload_n 0, 1) := by decide +kernel
theorem dX4_reduce_49 : decode mX4_reduce.2.1 49 = .ok (.getfield 23, 3) := by decide +kernel
theorem dX4_reduce_52 : decode mX4_reduce.2.1 52 = .ok (.iload_n 1, 1) := by decide +kernel
theorem dX4_reduce_53 : decode mX4_reduce.2.1 53 = .ok (.aload_n 0, 1) := by decide +kernel
theorem dX4_reduce_54 : decode mX4_reduce.2.1 54 = .ok (.getfield 80, 3) := by decide +kernel
theorem dX4_reduce_57 : decode mX4_reduce.2.1 57 = .ok (.isub, 1) := by decide +kernel
theorem dX4_reduce_58 : decode mX4_reduce.2.1 58 = .ok (.iload_n 1, 1) := by decide +kernel
theorem dX4_reduce_59 : decode mX4_reduce.2.1 59 = .ok (.iastore, 1) := by decide +kernel
theorem dX4_reduce_60 : decode mX4_reduce.2.1 60 = .ok (.goto 50, 3) := by decide +kernel
theorem dX4_reduce_63 : decode mX4_reduce.2.1 63 = .ok (.aload_n 0, 1) := by decide +kernel
theorem dX4_reduce_64 : decode mX4_reduce.2.1 64 = .ok (.getfield 13, 3) := by decide +kernel
theorem dX4_reduce_67 : decode mX4_reduce.2.1 67 = .ok (.iload_n 2, 1) := by decide +kernel
theorem dX4_reduce_68 : decode mX4_reduce.2.1 68 = .ok (.aaload, 1) := by decide +kernel
theorem dX4_reduce_69 : decode mX4_reduce.2.1 69 = .ok (.astore_n 3, 1) := by decide +kernel
theorem dX4_reduce_70 : decode mX4_reduce.2.1 70 = .ok (.aload_n 0, 1) := by decide +kernel
theorem dX4_reduce_71 : decode mX4_reduce.2.1 71 = .ok (.getfield 13, 3) := by decide +kernel
theorem dX4_reduce_74 : decode mX4_reduce.2.1 74 = .ok (.iload_n 2, 1) := by decide +kernel
theorem dX4_reduce_75 : decode mX4_reduce.2.1 75 = .ok (.aload_n 0, 1) := by decide +kernel
theorem dX4_reduce_76 : decode mX4_reduce.2.1 76 = .ok (.getfield 13, 3) := by decide +kernel
theorem dX4_reduce_79 : decode mX4_reduce.2.1 79 = .ok (.aload_n 0, 1) := by decide +kernel
theorem dX4_reduce_80 : decode mX4_reduce.2.1 80 = .ok (.getfield 80, 3) := by decide +kernel
theorem dX4_reduce_83 : decode mX4_reduce.2.1 83 = .ok (.aaload, 1) := by decide +kernel
theorem dX4_reduce_84 : decode mX4_reduce.2.1 84 = .ok (.aastore, 1) := by decide +kernel
theorem dX4_reduce_85 : decode mX4_reduce.2.1 85 = .ok (.aload_n 0, 1) := by decide +kernel
theorem dX4_reduce_86 : decode mX4_reduce.2.1 86 = .ok (.getfield 13, 3) := by decide +kernel
theorem dX4_reduce_89 : decode mX4_reduce.2.1 89 = .ok (.aload_n 0, 1) := by decide +kernel
theorem dX4_reduce_90 : decode mX4_reduce.2.1 90 = .ok (.getfield 80, 3) := by decide +kernel
theorem dX4_reduce_93 : decode mX4_reduce.2.1 93 = .ok (.aload_n 3, 1) := by decide +kernel
theorem dX4_reduce_94 : decode mX4_reduce.2.1 94 = .ok (.aastore, 1) := by decide +kernel
theorem dX4_reduce_95 : decode mX4_reduce.2.1 95 = .ok (.aload_n 0, 1) := by decide +kernel
theorem dX4_reduce_96 : decode mX4_reduce.2.1 96 = .ok (.iload_n 1, 1) := by decide +kernel
theorem dX4_reduce_97 : decode mX4_reduce.2.1 97 = .ok (.invokevirtual 86, 3) := by decide +kernel
theorem dX4_reduce_100 : decode mX4_reduce.2.1 100 = .ok (.aload_n 0, 1) := by decide +kernel
theorem dX4_reduce_101 : decode mX4_reduce.2.1 101 = .ok (.dup, 1) := by decide +kernel
theorem dX4_reduce_102 : decode mX4_reduce.2.1 102 = .ok (.getfield 80, 3) := by decide +kernel
theorem dX4_reduce_105 : decode mX4_reduce.2.1 105 = .ok (.iconst 1, 1) := by decide +kernel
theorem dX4_reduce_106 : decode mX4_reduce.2.1 106 = .ok (.iadd, 1) := by decide +kernel
theorem dX4_reduce_107 : decode mX4_reduce.2.1 107 = .ok (.putfield 80, 3) := by decide +kernel
theorem dX4_reduce_110 : decode mX4_reduce.2.1 110 = .ok (.iinc 1 1, 3) := by decide +kernel
theorem dX4_reduce_113 : decode mX4_reduce.2.1 113 = .ok (.goto (-106), 3) := by decide +kernel
theorem dX4_reduce_116 : decode mX4_reduce.2.1 116 = .ok (.return_, 1) := by decide +kernel
theorem okX4_reduce_86 : gOkV mX4_reduce mX4_makeLead 86 1 := ⟨List.forall_mem_cons.mpr ⟨(gm 814 (by decide +kernel) rfl), List.forall_mem_cons.mpr ⟨(gm 811 (by decide +kernel) rfl), List.forall_mem_cons.mpr ⟨(gm 813 (by decide +kernel) rfl), List.forall_mem_cons.mpr ⟨(gm 34 (by decide +kernel) rfl), List.forall_mem_cons.mpr ⟨(gm 115 (by decide +kernel) rfl), fun _ h => absurd h List.not_mem_nil⟩⟩⟩⟩⟩, by decide +kernel, by decide +kernel, by decide +kernel⟩
theorem okX4_reduce_83 : gOkV mX4_reduce mX4_rowToLead 83 1 := ⟨List.forall_mem_cons.mpr ⟨(gm 810 (by decide +kernel) rfl), List.forall_mem_cons.mpr ⟨(gm 807 (by decide +kernel) rfl), List.forall_mem_cons.mpr ⟨(gm 809 (by decide +kernel) rfl), List.forall_mem_cons.mpr ⟨(gm 33 (by decide +kernel) rfl), List.forall_mem_cons.mpr ⟨(gm 115 (by decide +kernel) rfl), fun _ h => absurd h List.not_mem_nil⟩⟩⟩⟩⟩, by decide +kernel, by decide +kernel, by decide +kernel⟩
def fX4_reduce_110 (k7 : Int32 → gS → Option (Unit × gS)) (v1 : Int32) (σ : gS) : Option (Unit × gS) :=
  bnd (v1 + 1) fun x1 =>
  k7 x1 σ
set_option maxHeartbeats 4000000 in
set_option maxRecDepth 100000 in
theorem pX4_reduce_110 {E : gE} {k7 : Int32 → gS → Option (Unit × gS)} {r : Unit} {σ' : gS} {v1 : Int32} {σ : gS} (hk7 : ∀ (v1 : Int32) (σ : gS), k7 v1 σ = some (r, σ') → gG E mX4_reduce 7 [(0, .ref 59), (1, .int v1)] [] σ (none) σ') (h : fX4_reduce_110 k7 v1 σ = some (r, σ')) : gG E mX4_reduce 110 [(0, .ref 59), (1, .int v1)] [] σ (none) σ' := by
  unfold fX4_reduce_110 at h
  obtain ⟨x1, ex1, h⟩ := bnd_nm h
  refine g_iinc (j := 1) (v := x1) (lv' := [(1, .int x1), (0, .ref 59)]) dX4_reduce_110 rfl (by rw [ex1]; rfl) (Nat.le_of_ble_eq_true rfl) rfl ?_
  refine g_goto (t := 7) dX4_reduce_113 (by decide) ?_
  refine g_sub [1, 0] rfl ?_
  exact hk7 x1 σ h
def fX4_reduce_41 (k7 : Int32 → gS → Option (Unit × gS)) (v1 : Int32) (v2 : Int32) (s1 : Int32) (s2 : Int32) (σ : gS) : Option (Unit × gS) :=
  gg (¬ (s1 < 0 ∨ 48 ≤ s1.toNatClampNeg)) (
  bnd (gsI σ 122 s1.toNatClampNeg s2) fun σ2 =>
  if v2 = (-1000000) then
    gg (¬ (v1 - (σ2.1 59 3) < 0 ∨ 48 ≤ (v1 - (σ2.1 59 3)).toNatClampNeg)) (
    bnd (gsI σ2 123 ((v1 - (σ2.1 59 3)).toNatClampNeg) v1) fun σ18 =>
    fX4_reduce_110 k7 v1 σ18)
  else
    gg (¬ (v2 < 0 ∨ 60 ≤ v2.toNatClampNeg)) (
    bnd (σ2.2.2 60 v2.toNatClampNeg) fun x5 =>
    gg (61 ≤ x5 ∧ x5 < 121) (
    gg (¬ (σ2.1 59 3 < 0 ∨ 60 ≤ (σ2.1 59 3).toNatClampNeg)) (
    bnd (σ2.2.2 60 ((σ2.1 59 3).toNatClampNeg)) fun x8 =>
    gg (61 ≤ x8 ∧ x8 < 121) (
    gg (¬ (v2 < 0 ∨ 60 ≤ v2.toNatClampNeg)) (
    bnd (gsR σ2 60 v2.toNatClampNeg x8) fun σ11 =>
    gg (¬ (σ11.1 59 3 < 0 ∨ 60 ≤ (σ11.1 59 3).toNatClampNeg)) (
    bnd (gsR σ11 60 ((σ11.1 59 3).toNatClampNeg) x5) fun σ13 =>
    bd (fX4_makeLead v1 σ13) fun _ σ14 =>
    bnd (gsI σ14 59 3 ((σ14.1 59 3) + 1)) fun σ16 =>
    fX4_reduce_110 k7 v1 σ16)))))))
set_option maxHeartbeats 4000000 in
set_option maxRecDepth 100000 in
theorem pX4_reduce_41 {E : gE} {k7 : Int32 → gS → Option (Unit × gS)} {r : Unit} {σ' : gS} {v1 : Int32} {v2 : Int32} {s1 : Int32} {s2 : Int32} {σ : gS} (hk7 : ∀ (v1 : Int32) (σ : gS), k7 v1 σ = some (r, σ') → gG E mX4_reduce 7 [(0, .ref 59), (1, .int v1)] [] σ (none) σ') (h : fX4_reduce_41 k7 v1 v2 s1 s2 σ = some (r, σ')) : gG E mX4_reduce 41 [(0, .ref 59), (1, .int v1), (2, .int v2)] [.int s2, .int s1, .ref 122] σ (none) σ' := by
  unfold fX4_reduce_41 at h
  obtain ⟨g1, h⟩ := gg_some h
  obtain ⟨σ2, eσ2, h⟩ := bnd_nm h
  refine g_iast dX4_reduce_41 gi_122 g1 (g_st eσ2 ?_)
  refine g_iload_n dX4_reduce_42 rfl 2 rfl ?_
  refine g_ldc (v := (-1000000)) dX4_reduce_43 wc_RX4_66 ?_
  refine g_icmp_ne (t := 63) dX4_reduce_45 (by decide) (fun c3 => ?_) (fun c3 => ?_)
  · replace h := if_f h c3
    refine g_aload_n dX4_reduce_63 rfl 0 rfl ?_
    refine g_getC (n := 60) dX4_reduce_64 gi_59 rfl fl_RX4_13 ?_
    refine g_iload_n dX4_reduce_67 rfl 2 rfl ?_
    obtain ⟨g4, h⟩ := gg_some h
    refine g_aaldA dX4_reduce_68 gi_60 g4 ?_
    obtain ⟨x5, ex5, h⟩ := bnd_nm h
    refine g_topr ex5 ?_
    obtain ⟨g6, h⟩ := gg_some h
    refine g_astore_n (lv' := [(3, .ref x5), (0, .ref 59), (1, .int v1), (2, .int v2)]) dX4_reduce_69 rfl (Nat.le_of_ble_eq_true rfl) rfl ?_
    refine g_aload_n dX4_reduce_70 rfl 1 rfl ?_
    refine g_getC (n := 60) dX4_reduce_71 gi_59 rfl fl_RX4_13 ?_
    refine g_iload_n dX4_reduce_74 rfl 3 rfl ?_
    refine g_aload_n dX4_reduce_75 rfl 1 rfl ?_
    refine g_getC (n := 60) dX4_reduce_76 gi_59 rfl fl_RX4_13 ?_
    refine g_aload_n dX4_reduce_79 rfl 1 rfl ?_
    refine g_getI dX4_reduce_80 gi_59 rfl fl_RX4_80 ?_
    obtain ⟨g7, h⟩ := gg_some h
    refine g_aaldA dX4_reduce_83 gi_60 g7 ?_
    obtain ⟨x8, ex8, h⟩ := bnd_nm h
    refine g_topr ex8 ?_
    obtain ⟨g9, h⟩ := gg_some h
    obtain ⟨g10, h⟩ := gg_some h
    obtain ⟨σ11, eσ11, h⟩ := bnd_nm h
    refine g_aast dX4_reduce_84 (gi_rw g9) g10 (g_st eσ11 ?_)
    refine g_aload_n dX4_reduce_85 rfl 1 rfl ?_
    refine g_getC (n := 60) dX4_reduce_86 gi_59 rfl fl_RX4_13 ?_
    refine g_aload_n dX4_reduce_89 rfl 1 rfl ?_
    refine g_getI dX4_reduce_90 gi_59 rfl fl_RX4_80 ?_
    refine g_aload_n dX4_reduce_93 rfl 0 rfl ?_
    obtain ⟨g12, h⟩ := gg_some h
    obtain ⟨σ13, eσ13, h⟩ := bnd_nm h
    refine g_aast dX4_reduce_94 (gi_rw g6) g12 (g_st eσ13 ?_)
    refine g_aload_n dX4_reduce_95 rfl 1 rfl ?_
    refine g_iload_n dX4_reduce_96 rfl 2 rfl ?_
    obtain ⟨_, σ14, y15, h⟩ := bd_some h
    refine g_callVv (as := [.int v1]) (st := []) (zX4_makeLead y15) dX4_reduce_97 gi_59 rfl okX4_reduce_86 (Nat.le_of_ble_eq_true rfl) ?_
    refine g_aload_n dX4_reduce_100 rfl 1 rfl ?_
    refine g_dup dX4_reduce_101 rfl ?_
    refine g_getI dX4_reduce_102 gi_59 rfl fl_RX4_80 ?_
    refine g_iconst (v := 1) dX4_reduce_105 (by decide) ?_
    refine g_iadd dX4_reduce_106 ?_
    obtain ⟨σ16, eσ16, h⟩ := bnd_nm h
    refine g_putI dX4_reduce_107 gi_59 rfl fp_RX4_80 (g_st eσ16 ?_)
    refine g_sub [1, 2] rfl ?_
    exact pX4_reduce_110 hk7 h
  · replace h := if_t h c3
    refine g_aload_n dX4_reduce_48 rfl 0 rfl ?_
    refine g_getC (n := 123) dX4_reduce_49 gi_59 rfl fl_RX4_23 ?_
    refine g_iload_n dX4_reduce_52 rfl 1 rfl ?_
    refine g_aload_n dX4_reduce_53 rfl 0 rfl ?_
    refine g_getI dX4_reduce_54 gi_59 rfl fl_RX4_80 ?_
    refine g_isub dX4_reduce_57 ?_
    refine g_iload_n dX4_reduce_58 rfl 1 rfl ?_
    obtain ⟨g17, h⟩ := gg_some h
    obtain ⟨σ18, eσ18, h⟩ := bnd_nm h
    refine g_iast dX4_reduce_59 gi_123 g17 (g_st eσ18 ?_)
    refine g_goto (t := 110) dX4_reduce_60 (by decide) ?_
    refine g_sub [0, 1] rfl ?_
    exact pX4_reduce_110 hk7 h
def fX4_reduce_7 : Nat → Int32 → gS → Option (Unit × gS)
  | 0, _, _ => none
  | n + 1, v1, σ => if (σ.1 59 2) ≤ v1 then
    some ((), σ)
  else
    bd (fX4_rowToLead v1 σ) fun x2 σ3 =>
    if x2 = (-1000000) then
      fX4_reduce_41 (fun v1 σ => fX4_reduce_7 n v1 σ) v1 x2 v1 (-1000000) σ3
    else
      fX4_reduce_41 (fun v1 σ => fX4_reduce_7 n v1 σ) v1 x2 v1 (σ3.1 59 3) σ3
set_option maxHeartbeats 4000000 in
set_option maxRecDepth 100000 in
theorem pX4_reduce_7 {E : gE} {r : Unit} {σ' : gS} : ∀ (n : Nat) (v1 : Int32) (σ : gS), fX4_reduce_7 n v1 σ = some (r, σ') → gG E mX4_reduce 7 [(0, .ref 59), (1, .int v1)] [] σ (none) σ' := by
  intro n
  induction n with
  | zero => intro v1 σ h; exact absurd (show none = some (r, σ') from h) (by intro q; cases q)
  | succ n ih =>
  intro v1 σ h
  unfold fX4_reduce_7 at h
  refine g_iload_n dX4_reduce_7 rfl 1 rfl ?_
  refine g_aload_n dX4_reduce_8 rfl 0 rfl ?_
  refine g_getI dX4_reduce_9 gi_59 rfl fl_RX4_73 ?_
  refine g_icmp_ge (t := 116) dX4_reduce_12 (by decide) (fun c1 => ?_) (fun c1 => ?_)
  · replace h := if_t h c1
    obtain ⟨rfl, rfl⟩ := so_inj h
    exact g_vret dX4_reduce_116 rfl
  · replace h := if_f h c1
    refine g_aload_n dX4_reduce_15 rfl 0 rfl ?_
    refine g_iload_n dX4_reduce_16 rfl 1 rfl ?_
    obtain ⟨x2, σ3, y4, h⟩ := bd_some h
    refine g_callVr (as := [.int v1]) (st := []) (zX4_rowToLead y4) dX4_reduce_17 gi_59 rfl okX4_reduce_83 (Nat.le_of_ble_eq_true rfl) ?_
    refine g_istore_n (lv' := [(2, .int x2), (0, .ref 59), (1, .int v1)]) dX4_reduce_20 rfl (Nat.le_of_ble_eq_true rfl) rfl ?_
    refine g_aload_n dX4_reduce_21 rfl 1 rfl ?_
    refine g_getC (n := 122) dX4_reduce_22 gi_59 rfl fl_RX4_20 ?_
    refine g_iload_n dX4_reduce_25 rfl 2 rfl ?_
    refine g_iload_n dX4_reduce_26 rfl 0 rfl ?_
    refine g_ldc (v := (-1000000)) dX4_reduce_27 wc_RX4_66 ?_
    refine g_icmp_ne (t := 37) dX4_reduce_29 (by decide) (fun c5 => ?_) (fun c5 => ?_)
    · replace h := if_f h c5
      refine g_aload_n dX4_reduce_37 rfl 1 rfl ?_
      refine g_getI dX4_reduce_38 gi_59 rfl fl_RX4_80 ?_
      refine g_sub [1, 2, 0] rfl ?_
      exact pX4_reduce_41 (fun v1 σ h => ih v1 σ h) h
    · replace h := if_t h c5
      refine g_ldc (v := (-1000000)) dX4_reduce_32 wc_RX4_66 ?_
      refine g_goto (t := 41) dX4_reduce_34 (by decide) ?_
      refine g_sub [1, 2, 0] rfl ?_
      exact pX4_reduce_41 (fun v1 σ h => ih v1 σ h) h
def fX4_reduce (σ : gS) : Option (Unit × gS) :=
  bnd (gsI σ 59 3 0) fun σ1 =>
  fX4_reduce_7 2000 0 σ1
set_option maxHeartbeats 4000000 in
set_option maxRecDepth 100000 in
theorem pX4_reduce {E : gE} {r : Unit} {σ' : gS} {σ : gS} (h : fX4_reduce σ = some (r, σ')) : gG E mX4_reduce 0 [(0, .ref 59)] [] σ (none) σ' := by
  unfold fX4_reduce at h
  refine g_aload_n dX4_reduce_0 rfl 0 rfl ?_
  refine g_iconst (v := 0) dX4_reduce_1 (by decide) ?_
  obtain ⟨σ1, eσ1, h⟩ := bnd_nm h
  refine g_putI dX4_reduce_2 gi_59 rfl fp_RX4_80 (g_st eσ1 ?_)
  refine g_iconst (v := 0) dX4_reduce_5 (by decide) ?_
  refine g_istore_n (lv' := [(1, .int 0), (0, .ref 59)]) dX4_reduce_6 rfl (Nat.le_of_ble_eq_true rfl) rfl ?_
  refine g_sub [1, 0] rfl ?_
  exact pX4_reduce_7 2000 0 σ1 h
theorem zX4_reduce {E : gE} {r : Unit} {σ σ' : gS} (h : fX4_reduce σ = some (r, σ')) : gC E mX4_reduce [.ref 59] σ (none) σ' :=
  gC_of (by decide +kernel) rfl (Nat.le_of_ble_eq_true rfl) (pX4_reduce h)
theorem fp_RX4_36 : gFp RX4 36 4 1 .int := ⟨RX4, TX4, 7, rfl, by decide, ux_4, Or.inl (gm 333 (by decide +kernel) rfl), rfl, by decide +kernel, ⟨tyX4, tyX4_ok⟩, nmX4⟩
def mX4_work : gM := (yX4_work, cX4_work, RX4, 7, none, 3, 78)
theorem dX4_work_0 : decode mX4_work.2.1 0 = .ok (.aload_n 0, 1) := by decide +kernel
theorem dX4_work_1 : decode mX4_work.2.1 1 = .ok (.aload_n 1, 1) := by decide +kernel
theorem dX4_work_2 : decode mX4_work.2.1 2 = .ok (.invokevirtual 26, 3) := by decide +kernel
theorem dX4_work_5 : decode mX4_work.2.1 5 = .ok (.aload_n 0, 1) := by decide +kernel
theorem dX4_work_6 : decode mX4_work.2.1 6 = .ok (.aload_n 1, 1) := by decide +kernel
theorem dX4_work_7 : decode mX4_work.2.1 7 = .ok (.iconst 1, 1) := by decide +kernel
theorem dX4_work_8 : decode mX4_work.2.1 8 = .ok (.invokevirtual 30, 3) := by decide +kernel
theorem dX4_work_11 : decode mX4_work.2.1 11 = .ok (.putfield 36, 3) := by decide +kernel
theorem dX4_work_14 : decode mX4_work.2.1 14 = .ok (.iconst 0, 1) := by decide +kernel
theorem dX4_work_15 : decode mX4_work.2.1 15 = .ok (.istore_n 2, 1) := by decide +kernel
theorem dX4_work_16 : decode mX4_work.2.1 16 = .ok (.iload_n 2, 1) := by decide +kernel
theorem dX4_work_17 : decode mX4_work.2.1 17 = .ok (.aload_n 0, 1) := by decide +kernel
theorem dX4_work_18 : decode mX4_work.2.1 18 = .ok (.getfield 36, 3) := by decide +kernel
theorem dX4_work_21 : decode mX4_work.2.1 21 = .ok (.if_icmp .ge 85, 3) := by decide +kernel
theorem dX4_work_24 : decode mX4_work.2.1 24 = .ok (.aload_n 1, 1) := by decide +kernel
theorem dX4_work_25 : decode mX4_work.2.1 25 = .ok (.iconst 1, 1) := by decide +kernel
theorem dX4_work_26 : decode mX4_work.2.1 26 = .ok (.iload_n 2, 1) := by decide +kernel
theorem dX4_work_27 : decode mX4_work.2.1 27 = .ok (.invokevirtual 40, 3) := by decide +kernel
theorem dX4_work_30 : decode mX4_work.2.1 30 = .ok (.istore_n 3, 1) := by decide +kernel
theorem dX4_work_31 : decode mX4_work.2.1 31 = .ok (.aload_n 1, 1) := by decide +kernel
theorem dX4_work_32 : decode mX4_work.2.1 32 = .ok (.iconst 1, 1) := by decide +kernel
theorem dX4_work_33 : decode mX4_work.2.1 33 = .ok (.iload_n 2, 1) := by decide +kernel
theorem dX4_work_34 : decode mX4_work.2.1 34 = .ok (.invokevirtual 44, 3) := by decide +kernel
theorem dX4_work_37 : decode mX4_work.2.1 37 = .ok (.istore 4, 2) := by decide +kernel
theorem dX4_work_39 : decode mX4_work.2.1 39 = .ok (.aload_n 1, 1) := by decide +kernel
theorem dX4_work_40 : decode mX4_work.2.1 40 = .ok (.iload_n 3, 1) := by decide +kernel
theorem dX4_work_41 : decode mX4_work.2.1 41 = .ok (.invokevirtual 47, 3) := by decide +kernel
theorem dX4_work_44 : decode mX4_work.2.1 44 = .ok (.aload_n 1, 1) := by decide +kernel
theorem dX4_work_45 : decode mX4_work.2.1 45 = .ok (.iload 4, 2) := by decide +kernel
theorem dX4_work_47 : decode mX4_work.2.1 47 = .ok (.invokevirtual 47, 3) := by decide +kernel
theorem dX4_work_50 : decode mX4_work.2.1 50 = .ok (.isub, 1) := by decide +kernel
theorem dX4_work_51 : decode mX4_work.2.1 51 = .ok (.istore 5, 2) := by decide +kernel
theorem dX4_work_53 : decode mX4_work.2.1 53 = .ok (.aload_n 1, 1) := by decide +kernel
theorem dX4_work_54 : decode mX4_work.2.1 54 = .ok (.iload_n 3, 1) := by decide +kernel
theorem dX4_work_55 : decode mX4_work.2.1 55 = .ok (.invokevirtual 50, 3) := by decide +kernel
theorem dX4_work_58 : decode mX4_work.2.1 58 = .ok (.aload_n 1, 1) := by decide +kernel
theorem dX4_work_59 : decode mX4_work.2.1 59 = .ok (.iload 4, 2) := by decide +kernel
theorem dX4_work_61 : decode mX4_work.2.1 61 = .ok (.invokevirtual 50, 3) := by decide +kernel
theorem dX4_work_64 : decode mX4_work.2.1 64 = .ok (.isub, 1) := by decide +kernel
theorem dX4_work_65 : decode mX4_work.2.1 65 = .ok (.istore 6, 2) := by decide +kernel
theorem dX4_work_67 : decode mX4_work.2.1 67 = .ok (.aload_n 0, 1) := by decide +kernel
theorem dX4_work_68 : decode mX4_work.2.1 68 = .ok (.getfield 13, 3) := by decide +kernel
theorem dX4_work_71 : decode mX4_work.2.1 71 = .ok (.iload_n 2, 1) := by decide +kernel
theorem dX4_work_72 : decode mX4_work.2.1 72 = .ok (.aaload, 1) := by decide +kernel
theorem dX4_work_73 : decode mX4_work.2.1 73 = .ok (.iconst 0, 1) := by decide +kernel
theorem dX4_work_74 : decode mX4_work.2.1 74 = .ok (.invokestatic 53, 3) := by decide +kernel
theorem dX4_work_77 : decode mX4_work.2.1 77 = .ok (.aload_n 0, 1) := by decide +kernel
theorem dX4_work_78 : decode mX4_work.2.1 78 = .ok (.iload_n 2, 1) := by decide +kernel
theorem dX4_work_79 : decode mX4_work.2.1 79 = .ok (.iload_n 3, 1) := by decide +kernel
theorem dX4_work_80 : decode mX4_work.2.1 80 = .ok (.iload 5, 2) := by decide +kernel
theorem dX4_work_82 : decode mX4_work.2.1 82 = .ok (.iload 6, 2) := by decide +kernel
theorem dX4_work_84 : decode mX4_work.2.1 84 = .ok (.invokevirtual 59, 3) := by decide +kernel
theorem dX4_work_87 : decode mX4_work.2.1 87 = .ok (.aload_n 0, 1) := by decide +kernel
theorem dX4_work_88 : decode mX4_work.2.1 88 = .ok (.iload_n 2, 1) := by decide +kernel
theorem dX4_work_89 : decode mX4_work.2.1 89 = .ok (.iload 4, 2) := by decide +kernel
theorem dX4_work_91 : decode mX4_work.2.1 91 = .ok (.iload 5, 2) := by decide +kernel
theorem dX4_work_93 : decode mX4_work.2.1 93 = .ok (.ineg, 1) := by decide +kernel
theorem dX4_work_94 : decode mX4_work.2.1 94 = .ok (.iload 6, 2) := by decide +kernel
theorem dX4_work_96 : decode mX4_work.2.1 96 = .ok (.ineg, 1) := by decide +kernel
theorem dX4_work_97 : decode mX4_work.2.1 97 = .ok (.invokevirtual 59, 3) := by decide +kernel
theorem dX4_work_100 : decode mX4_work.2.1 100 = .ok (.iinc 2 1, 3) := by decide +kernel
theorem dX4_work_103 : decode mX4_work.2.1 103 = .ok (.goto (-87), 3) := by decide +kernel
theorem dX4_work_106 : decode mX4_work.2.1 106 = .ok (.aload_n 0, 1) := by decide +kernel
theorem dX4_work_107 : decode mX4_work.2.1 107 = .ok (.invokevirtual 63, 3) := by decide +kernel
theorem dX4_work_110 : decode mX4_work.2.1 110 = .ok (.return_, 1) := by decide +kernel
theorem okX4_work_63 : gOkV mX4_work mX4_reduce 63 0 := ⟨List.forall_mem_cons.mpr ⟨(gm 806 (by decide +kernel) rfl), List.forall_mem_cons.mpr ⟨(gm 803 (by decide +kernel) rfl), List.forall_mem_cons.mpr ⟨(gm 805 (by decide +kernel) rfl), List.forall_mem_cons.mpr ⟨(gm 32 (by decide +kernel) rfl), List.forall_mem_cons.mpr ⟨(gm 115 (by decide +kernel) rfl), fun _ h => absurd h List.not_mem_nil⟩⟩⟩⟩⟩, by decide +kernel, by decide +kernel, by decide +kernel⟩
theorem okX4_work_40 : gOkV mX4_work mX3_firstOf 40 2 := ⟨List.forall_mem_cons.mpr ⟨(gm 680 (by decide +kernel) rfl), List.forall_mem_cons.mpr ⟨(gm 790 (by decide +kernel) rfl), List.forall_mem_cons.mpr ⟨(gm 678 (by decide +kernel) rfl), List.forall_mem_cons.mpr ⟨(gm 679 (by decide +kernel) rfl), List.forall_mem_cons.mpr ⟨(gm 109 (by decide +kernel) rfl), fun _ h => absurd h List.not_mem_nil⟩⟩⟩⟩⟩, by decide +kernel, by decide +kernel, by decide +kernel⟩
theorem okX4_work_44 : gOkV mX4_work mX3_secondOf 44 2 := ⟨List.forall_mem_cons.mpr ⟨(gm 688 (by decide +kernel) rfl), List.forall_mem_cons.mpr ⟨(gm 791 (by decide +kernel) rfl), List.forall_mem_cons.mpr ⟨(gm 686 (by decide +kernel) rfl), List.forall_mem_cons.mpr ⟨(gm 687 (by decide +kernel) rfl), List.forall_mem_cons.mpr ⟨(gm 109 (by decide +kernel) rfl), fun _ h => absurd h List.not_mem_nil⟩⟩⟩⟩⟩, by decide +kernel, by decide +kernel, by decide +kernel⟩
theorem okX4_work_47 : gOkV mX4_work mX3_x 47 1 := ⟨List.forall_mem_cons.mpr ⟨(gm 676 (by decide +kernel) rfl), List.forall_mem_cons.mpr ⟨(gm 792 (by decide +kernel) rfl), List.forall_mem_cons.mpr ⟨(gm 674 (by decide +kernel) rfl), List.forall_mem_cons.mpr ⟨(gm 675 (by decide +kernel) rfl), List.forall_mem_cons.mpr ⟨(gm 109 (by decide +kernel) rfl), fun _ h => absurd h List.not_mem_nil⟩⟩⟩⟩⟩, by decide +kernel, by decide +kernel, by decide +kernel⟩
theorem okX4_work_50 : gOkV mX4_work mX3_y 50 1 := ⟨List.forall_mem_cons.mpr ⟨(gm 684 (by decide +kernel) rfl), List.forall_mem_cons.mpr ⟨(gm 793 (by decide +kernel) rfl), List.forall_mem_cons.mpr ⟨(gm 682 (by decide +kernel) rfl), List.forall_mem_cons.mpr ⟨(gm 683 (by decide +kernel) rfl), List.forall_mem_cons.mpr ⟨(gm 109 (by decide +kernel) rfl), fun _ h => absurd h List.not_mem_nil⟩⟩⟩⟩⟩, by decide +kernel, by decide +kernel, by decide +kernel⟩
theorem okX4_work_53 : gOkS mX4_work mJ7_fill_53178 53 2 := ⟨List.forall_mem_cons.mpr ⟨(gm 587 (by decide +kernel) rfl), List.forall_mem_cons.mpr ⟨(gm 794 (by decide +kernel) rfl), List.forall_mem_cons.mpr ⟨(gm 586 (by decide +kernel) rfl), List.forall_mem_cons.mpr ⟨(gm 123 (by decide +kernel) rfl), fun _ h => absurd h List.not_mem_nil⟩⟩⟩⟩, by decide +kernel, by decide +kernel, by decide +kernel⟩
theorem okX4_work_59 : gOkV mX4_work mX4_write 59 4 := ⟨List.forall_mem_cons.mpr ⟨(gm 798 (by decide +kernel) rfl), List.forall_mem_cons.mpr ⟨(gm 795 (by decide +kernel) rfl), List.forall_mem_cons.mpr ⟨(gm 797 (by decide +kernel) rfl), List.forall_mem_cons.mpr ⟨(gm 31 (by decide +kernel) rfl), List.forall_mem_cons.mpr ⟨(gm 115 (by decide +kernel) rfl), fun _ h => absurd h List.not_mem_nil⟩⟩⟩⟩⟩, by decide +kernel, by decide +kernel, by decide +kernel⟩
theorem okX4_work_26 : gOkV mX4_work mX4_layColumns 26 1 := ⟨List.forall_mem_cons.mpr ⟨(gm 786 (by decide +kernel) rfl), List.forall_mem_cons.mpr ⟨(gm 783 (by decide +kernel) rfl), List.forall_mem_cons.mpr ⟨(gm 785 (by decide +kernel) rfl), List.forall_mem_cons.mpr ⟨(gm 30 (by decide +kernel) rfl), List.forall_mem_cons.mpr ⟨(gm 115 (by decide +kernel) rfl), fun _ h => absurd h List.not_mem_nil⟩⟩⟩⟩⟩, by decide +kernel, by decide +kernel, by decide +kernel⟩
theorem okX4_work_30 : gOkV mX4_work mX3_size 30 1 := ⟨List.forall_mem_cons.mpr ⟨(gm 737 (by decide +kernel) rfl), List.forall_mem_cons.mpr ⟨(gm 787 (by decide +kernel) rfl), List.forall_mem_cons.mpr ⟨(gm 735 (by decide +kernel) rfl), List.forall_mem_cons.mpr ⟨(gm 736 (by decide +kernel) rfl), List.forall_mem_cons.mpr ⟨(gm 109 (by decide +kernel) rfl), fun _ h => absurd h List.not_mem_nil⟩⟩⟩⟩⟩, by decide +kernel, by decide +kernel, by decide +kernel⟩
def fX4_work_16 (p1 : Nat) : Nat → Int32 → gS → Option (Unit × gS)
  | 0, _, _ => none
  | n + 1, v2, σ => if (σ.1 59 1) ≤ v2 then
    bd (fX4_reduce σ) fun _ σ2 =>
    some ((), σ2)
  else
    bd (fX3_firstOf p1 1 v2 σ) fun x4 σ5 =>
    bd (fX3_secondOf p1 1 v2 σ5) fun x7 σ8 =>
    bd (fX3_x p1 x4 σ8) fun x10 σ11 =>
    bd (fX3_x p1 x7 σ11) fun x13 σ14 =>
    bnd (x10 - x13) fun x16 =>
    bd (fX3_y p1 x4 σ14) fun x17 σ18 =>
    bd (fX3_y p1 x7 σ18) fun x20 σ21 =>
    bnd (x17 - x20) fun x23 =>
    gg (¬ (v2 < 0 ∨ 60 ≤ v2.toNatClampNeg)) (
    bnd (σ21.2.2 60 v2.toNatClampNeg) fun x25 =>
    gg (61 ≤ x25 ∧ x25 < 121) (
    bd (fJ7_fill_53178 x25 48 0 σ21) fun _ σ27 =>
    bd (fX4_write v2 x4 x16 x23 σ27) fun _ σ29 =>
    bd (fX4_write v2 x7 (-x16) (-x23) σ29) fun _ σ31 =>
    bnd (v2 + 1) fun x33 =>
    fX4_work_16 p1 n x33 σ31))
set_option maxHeartbeats 4000000 in
set_option maxRecDepth 100000 in
theorem pX4_work_16 {E : gE} {p1 : Nat} {r : Unit} {σ' : gS} (hp1 : gLk p1) : ∀ (n : Nat) (v2 : Int32) (σ : gS), fX4_work_16 p1 n v2 σ = some (r, σ') → gG E mX4_work 16 [(0, .ref 59), (1, .ref p1), (2, .int v2)] [] σ (none) σ' := by
  intro n
  induction n with
  | zero => intro v2 σ h; exact absurd (show none = some (r, σ') from h) (by intro q; cases q)
  | succ n ih =>
  intro v2 σ h
  unfold fX4_work_16 at h
  refine g_iload_n dX4_work_16 rfl 2 rfl ?_
  refine g_aload_n dX4_work_17 rfl 0 rfl ?_
  refine g_getI dX4_work_18 gi_59 rfl fl_RX4_36 ?_
  refine g_icmp_ge (t := 106) dX4_work_21 (by decide) (fun c1 => ?_) (fun c1 => ?_)
  · replace h := if_t h c1
    refine g_aload_n dX4_work_106 rfl 0 rfl ?_
    obtain ⟨_, σ2, y3, h⟩ := bd_some h
    refine g_callVv (as := []) (st := []) (zX4_reduce y3) dX4_work_107 gi_59 rfl okX4_work_63 (Nat.le_of_ble_eq_true rfl) ?_
    obtain ⟨rfl, rfl⟩ := so_inj h
    exact g_vret dX4_work_110 rfl
  · replace h := if_f h c1
    refine g_aload_n dX4_work_24 rfl 1 rfl ?_
    refine g_iconst (v := 1) dX4_work_25 (by decide) ?_
    refine g_iload_n dX4_work_26 rfl 2 rfl ?_
    obtain ⟨x4, σ5, y6, h⟩ := bd_some h
    refine g_callVr (as := [.int 1, .int v2]) (st := []) (zX3_firstOf hp1 y6) dX4_work_27 (gi_lk hp1) rfl okX4_work_40 (Nat.le_of_ble_eq_true rfl) ?_
    refine g_istore_n (lv' := [(3, .int x4), (0, .ref 59), (1, .ref p1), (2, .int v2)]) dX4_work_30 rfl (Nat.le_of_ble_eq_true rfl) rfl ?_
    refine g_aload_n dX4_work_31 rfl 2 rfl ?_
    refine g_iconst (v := 1) dX4_work_32 (by decide) ?_
    refine g_iload_n dX4_work_33 rfl 3 rfl ?_
    obtain ⟨x7, σ8, y9, h⟩ := bd_some h
    refine g_callVr (as := [.int 1, .int v2]) (st := []) (zX3_secondOf hp1 y9) dX4_work_34 (gi_lk hp1) rfl okX4_work_44 (Nat.le_of_ble_eq_true rfl) ?_
    refine g_istore (lv' := [(4, .int x7), (3, .int x4), (0, .ref 59), (1, .ref p1), (2, .int v2)]) dX4_work_37 (Nat.le_of_ble_eq_true rfl) rfl ?_
    refine g_aload_n dX4_work_39 rfl 3 rfl ?_
    refine g_iload_n dX4_work_40 rfl 1 rfl ?_
    obtain ⟨x10, σ11, y12, h⟩ := bd_some h
    refine g_callVr (as := [.int x4]) (st := []) (zX3_x hp1 y12) dX4_work_41 (gi_lk hp1) rfl okX4_work_47 (Nat.le_of_ble_eq_true rfl) ?_
    refine g_aload_n dX4_work_44 rfl 3 rfl ?_
    refine g_iload dX4_work_45 0 rfl ?_
    obtain ⟨x13, σ14, y15, h⟩ := bd_some h
    refine g_callVr (as := [.int x7]) (st := [.int x10]) (zX3_x hp1 y15) dX4_work_47 (gi_lk hp1) rfl okX4_work_47 (Nat.le_of_ble_eq_true rfl) ?_
    refine g_isub dX4_work_50 ?_
    obtain ⟨x16, ex16, h⟩ := bnd_nm h
    refine g_topi ex16 ?_
    refine g_istore (lv' := [(5, .int x16), (4, .int x7), (3, .int x4), (0, .ref 59), (1, .ref p1), (2, .int v2)]) dX4_work_51 (Nat.le_of_ble_eq_true rfl) rfl ?_
    refine g_aload_n dX4_work_53 rfl 4 rfl ?_
    refine g_iload_n dX4_work_54 rfl 2 rfl ?_
    obtain ⟨x17, σ18, y19, h⟩ := bd_some h
    refine g_callVr (as := [.int x4]) (st := []) (zX3_y hp1 y19) dX4_work_55 (gi_lk hp1) rfl okX4_work_50 (Nat.le_of_ble_eq_true rfl) ?_
    refine g_aload_n dX4_work_58 rfl 4 rfl ?_
    refine g_iload dX4_work_59 1 rfl ?_
    obtain ⟨x20, σ21, y22, h⟩ := bd_some h
    refine g_callVr (as := [.int x7]) (st := [.int x17]) (zX3_y hp1 y22) dX4_work_61 (gi_lk hp1) rfl okX4_work_50 (Nat.le_of_ble_eq_true rfl) ?_
    refine g_isub dX4_work_64 ?_
    obtain ⟨x23, ex23, h⟩ := bnd_nm h
    refine g_topi ex23 ?_
    refine g_istore (lv' := [(6, .int x23), (5, .int x16), (4, .int x7), (3, .int x4), (0, .ref 59), (1, .ref p1), (2, .int v2)]) dX4_work_65 (Nat.le_of_ble_eq_true rfl) rfl ?_
    refine g_aload_n dX4_work_67 rfl 4 rfl ?_
    refine g_getC (n := 60) dX4_work_68 gi_59 rfl fl_RX4_13 ?_
    refine g_iload_n dX4_work_71 rfl 6 rfl ?_
    obtain ⟨g24, h⟩ := gg_some h
    refine g_aaldA dX4_work_72 gi_60 g24 ?_
    obtain ⟨x25, ex25, h⟩ := bnd_nm h
    refine g_topr ex25 ?_
    obtain ⟨g26, h⟩ := gg_some h
    refine g_iconst (v := 0) dX4_work_73 (by decide) ?_
    obtain ⟨_, σ27, y28, h⟩ := bd_some h
    refine g_callSv (as := [.ref x25, .int 0]) (st := []) (zJ7_fill_53178 (gi_rw g26) (by decide) y28) dX4_work_74 okX4_work_53 (Nat.le_of_ble_eq_true rfl) ?_
    refine g_aload_n dX4_work_77 rfl 4 rfl ?_
    refine g_iload_n dX4_work_78 rfl 6 rfl ?_
    refine g_iload_n dX4_work_79 rfl 3 rfl ?_
    refine g_iload dX4_work_80 1 rfl ?_
    refine g_iload dX4_work_82 0 rfl ?_
    obtain ⟨_, σ29, y30, h⟩ := bd_some h
    refine g_callVv (as := [.int v2, .int x4, .int x16, .int x23]) (st := []) (zX4_write y30) dX4_work_84 gi_59 rfl okX4_work_59 (Nat.le_of_ble_eq_true rfl) ?_
    refine g_aload_n dX4_work_87 rfl 4 rfl ?_
    refine g_iload_n dX4_work_88 rfl 6 rfl ?_
    refine g_iload dX4_work_89 2 rfl ?_
    refine g_iload dX4_work_91 1 rfl ?_
    refine g_ineg dX4_work_93 ?_
    refine g_iload dX4_work_94 0 rfl ?_
    refine g_ineg dX4_work_96 ?_
    obtain ⟨_, σ31, y32, h⟩ := bd_some h
    refine g_callVv (as := [.int v2, .int x7, .int (-x16), .int (-x23)]) (st := []) (zX4_write y32) dX4_work_97 gi_59 rfl okX4_work_59 (Nat.le_of_ble_eq_true rfl) ?_
    obtain ⟨x33, ex33, h⟩ := bnd_nm h
    refine g_iinc (j := 6) (v := x33) (lv' := [(2, .int x33), (6, .int x23), (5, .int x16), (4, .int x7), (3, .int x4), (0, .ref 59), (1, .ref p1)]) dX4_work_100 rfl (by rw [ex33]; rfl) (Nat.le_of_ble_eq_true rfl) rfl ?_
    refine g_goto (t := 16) dX4_work_103 (by decide) ?_
    refine g_sub [5, 6, 0] rfl ?_
    exact ih x33 σ31 h
def fX4_work (p1 : Nat) (σ : gS) : Option (Unit × gS) :=
  bd (fX4_layColumns p1 σ) fun _ σ1 =>
  bd (fX3_size p1 1 σ1) fun x3 σ4 =>
  bnd (gsI σ4 59 1 x3) fun σ6 =>
  fX4_work_16 p1 2000 0 σ6
set_option maxHeartbeats 4000000 in
set_option maxRecDepth 100000 in
theorem pX4_work {E : gE} {p1 : Nat} {r : Unit} {σ' : gS} {σ : gS} (hp1 : gLk p1) (h : fX4_work p1 σ = some (r, σ')) : gG E mX4_work 0 [(0, .ref 59), (1, .ref p1)] [] σ (none) σ' := by
  unfold fX4_work at h
  refine g_aload_n dX4_work_0 rfl 0 rfl ?_
  refine g_aload_n dX4_work_1 rfl 1 rfl ?_
  obtain ⟨_, σ1, y2, h⟩ := bd_some h
  refine g_callVv (as := [.ref p1]) (st := []) (zX4_layColumns hp1 y2) dX4_work_2 gi_59 rfl okX4_work_26 (Nat.le_of_ble_eq_true rfl) ?_
  refine g_aload_n dX4_work_5 rfl 0 rfl ?_
  refine g_aload_n dX4_work_6 rfl 1 rfl ?_
  refine g_iconst (v := 1) dX4_work_7 (by decide) ?_
  obtain ⟨x3, σ4, y5, h⟩ := bd_some h
  refine g_callVr (as := [.int 1]) (st := [.ref 59]) (zX3_size hp1 y5) dX4_work_8 (gi_lk hp1) rfl okX4_work_30 (Nat.le_of_ble_eq_true rfl) ?_
  obtain ⟨σ6, eσ6, h⟩ := bnd_nm h
  refine g_putI dX4_work_11 gi_59 rfl fp_RX4_36 (g_st eσ6 ?_)
  refine g_iconst (v := 0) dX4_work_14 (by decide) ?_
  refine g_istore_n (lv' := [(2, .int 0), (0, .ref 59), (1, .ref p1)]) dX4_work_15 rfl (Nat.le_of_ble_eq_true rfl) rfl ?_
  refine g_sub [1, 2, 0] rfl ?_
  exact pX4_work_16 hp1 2000 0 σ6 h
theorem zX4_work {E : gE} {p1 : Nat} {r : Unit} {σ σ' : gS} (hp1 : gLk p1) (h : fX4_work p1 σ = some (r, σ')) : gC E mX4_work [.ref 59, .ref p1] σ (none) σ' :=
  gC_of (by decide +kernel) rfl (Nat.le_of_ble_eq_true rfl) (pX4_work hp1 h)
def mX4_motionAt : gM := (yX4_motionAt, cX4_motionAt, RX4, 6, (some .int), 1, 22)
theorem dX4_motionAt_0 : decode mX4_motionAt.2.1 0 = .ok (.aload_n 0, 1) := by decide +kernel
theorem dX4_motionAt_1 : decode mX4_motionAt.2.1 1 = .ok (.getfield 16, 3) := by decide +kernel
theorem dX4_motionAt_4 : decode mX4_motionAt.2.1 4 = .ok (.iload_n 2, 1) := by decide +kernel
theorem dX4_motionAt_5 : decode mX4_motionAt.2.1 5 = .ok (.iaload, 1) := by decide +kernel
theorem dX4_motionAt_6 : decode mX4_motionAt.2.1 6 = .ok (.istore 4, 2) := by decide +kernel
theorem dX4_motionAt_8 : decode mX4_motionAt.2.1 8 = .ok (.iload 4, 2) := by decide +kernel
theorem dX4_motionAt_10 : decode mX4_motionAt.2.1 10 = .ok (.ldc 66, 2) := by decide +kernel
theorem dX4_motionAt_12 : decode mX4_motionAt.2.1 12 = .ok (.if_icmp .ne 5, 3) := by decide +kernel
theorem dX4_motionAt_15 : decode mX4_motionAt.2.1 15 = .ok (.iconst 0, 1) := by decide +kernel
theorem dX4_motionAt_16 : decode mX4_motionAt.2.1 16 = .ok (.ireturn, 1) := by decide +kernel
theorem dX4_motionAt_17 : decode mX4_motionAt.2.1 17 = .ok (.iload 4, 2) := by decide +kernel
theorem dX4_motionAt_19 : decode mX4_motionAt.2.1 19 = .ok (.iload_n 3, 1) := by decide +kernel
theorem dX4_motionAt_20 : decode mX4_motionAt.2.1 20 = .ok (.iadd, 1) := by decide +kernel
theorem dX4_motionAt_21 : decode mX4_motionAt.2.1 21 = .ok (.istore 4, 2) := by decide +kernel
theorem dX4_motionAt_23 : decode mX4_motionAt.2.1 23 = .ok (.aload_n 0, 1) := by decide +kernel
theorem dX4_motionAt_24 : decode mX4_motionAt.2.1 24 = .ok (.getfield 20, 3) := by decide +kernel
theorem dX4_motionAt_27 : decode mX4_motionAt.2.1 27 = .ok (.iload 4, 2) := by decide +kernel
theorem dX4_motionAt_29 : decode mX4_motionAt.2.1 29 = .ok (.iaload, 1) := by decide +kernel
theorem dX4_motionAt_30 : decode mX4_motionAt.2.1 30 = .ok (.istore 5, 2) := by decide +kernel
theorem dX4_motionAt_32 : decode mX4_motionAt.2.1 32 = .ok (.iload 5, 2) := by decide +kernel
theorem dX4_motionAt_34 : decode mX4_motionAt.2.1 34 = .ok (.ldc 66, 2) := by decide +kernel
theorem dX4_motionAt_36 : decode mX4_motionAt.2.1 36 = .ok (.if_icmp .ne 20, 3) := by decide +kernel
theorem dX4_motionAt_39 : decode mX4_motionAt.2.1 39 = .ok (.iload 4, 2) := by decide +kernel
theorem dX4_motionAt_41 : decode mX4_motionAt.2.1 41 = .ok (.aload_n 0, 1) := by decide +kernel
theorem dX4_motionAt_42 : decode mX4_motionAt.2.1 42 = .ok (.getfield 23, 3) := by decide +kernel
theorem dX4_motionAt_45 : decode mX4_motionAt.2.1 45 = .ok (.iload_n 1, 1) := by decide +kernel
theorem dX4_motionAt_46 : decode mX4_motionAt.2.1 46 = .ok (.iaload, 1) := by decide +kernel
theorem dX4_motionAt_47 : decode mX4_motionAt.2.1 47 = .ok (.if_icmp .ne 7, 3) := by decide +kernel
theorem dX4_motionAt_50 : decode mX4_motionAt.2.1 50 = .ok (.iconst 1, 1) := by decide +kernel
theorem dX4_motionAt_51 : decode mX4_motionAt.2.1 51 = .ok (.goto 4, 3) := by decide +kernel
theorem dX4_motionAt_54 : decode mX4_motionAt.2.1 54 = .ok (.iconst 0, 1) := by decide +kernel
theorem dX4_motionAt_55 : decode mX4_motionAt.2.1 55 = .ok (.ireturn, 1) := by decide +kernel
theorem dX4_motionAt_56 : decode mX4_motionAt.2.1 56 = .ok (.aload_n 0, 1) := by decide +kernel
theorem dX4_motionAt_57 : decode mX4_motionAt.2.1 57 = .ok (.getfield 13, 3) := by decide +kernel
theorem dX4_motionAt_60 : decode mX4_motionAt.2.1 60 = .ok (.iload 5, 2) := by decide +kernel
theorem dX4_motionAt_62 : decode mX4_motionAt.2.1 62 = .ok (.aaload, 1) := by decide +kernel
theorem dX4_motionAt_63 : decode mX4_motionAt.2.1 63 = .ok (.aload_n 0, 1) := by decide +kernel
theorem dX4_motionAt_64 : decode mX4_motionAt.2.1 64 = .ok (.getfield 23, 3) := by decide +kernel
theorem dX4_motionAt_67 : decode mX4_motionAt.2.1 67 = .ok (.iload_n 1, 1) := by decide +kernel
theorem dX4_motionAt_68 : decode mX4_motionAt.2.1 68 = .ok (.iaload, 1) := by decide +kernel
theorem dX4_motionAt_69 : decode mX4_motionAt.2.1 69 = .ok (.iaload, 1) := by decide +kernel
theorem dX4_motionAt_70 : decode mX4_motionAt.2.1 70 = .ok (.ineg, 1) := by decide +kernel
theorem dX4_motionAt_71 : decode mX4_motionAt.2.1 71 = .ok (.ldc 67, 2) := by decide +kernel
theorem dX4_motionAt_73 : decode mX4_motionAt.2.1 73 = .ok (.invokestatic 68, 3) := by decide +kernel
theorem dX4_motionAt_76 : decode mX4_motionAt.2.1 76 = .ok (.ireturn, 1) := by decide +kernel
theorem okX4_motionAt_68 : gOkS mX4_motionAt mJ9_floorMod_7cf53 68 2 := ⟨List.forall_mem_cons.mpr ⟨(gm 802 (by decide +kernel) rfl), List.forall_mem_cons.mpr ⟨(gm 800 (by decide +kernel) rfl), List.forall_mem_cons.mpr ⟨(gm 801 (by decide +kernel) rfl), List.forall_mem_cons.mpr ⟨(gm 124 (by decide +kernel) rfl), fun _ h => absurd h List.not_mem_nil⟩⟩⟩⟩, by decide +kernel, by decide +kernel, by decide +kernel⟩
def fX4_motionAt_55 (p1 : Int32) (p2 : Int32) (p3 : Int32) (s0 : Int32) (σ : gS) : Option (Int32 × gS) :=
  some (s0, σ)
set_option maxHeartbeats 4000000 in
set_option maxRecDepth 100000 in
theorem pX4_motionAt_55 {E : gE} {p1 : Int32} {p2 : Int32} {p3 : Int32} {r : Int32} {σ' : gS} {s0 : Int32} {σ : gS} (h : fX4_motionAt_55 p1 p2 p3 s0 σ = some (r, σ')) : gG E mX4_motionAt 55 [] [.int s0] σ (some (.int r)) σ' := by
  unfold fX4_motionAt_55 at h
  obtain ⟨rfl, rfl⟩ := so_inj h
  exact g_iret dX4_motionAt_55 rfl
def fX4_motionAt (p1 : Int32) (p2 : Int32) (p3 : Int32) (σ : gS) : Option (Int32 × gS) :=
  gg (¬ (p2 < 0 ∨ 24 ≤ p2.toNatClampNeg)) (
  if (σ.1 121 p2.toNatClampNeg) = (-1000000) then
    some (0, σ)
  else
    bnd ((σ.1 121 p2.toNatClampNeg) + p3) fun x3 =>
    gg (¬ (x3 < 0 ∨ 48 ≤ x3.toNatClampNeg)) (
    if (σ.1 122 x3.toNatClampNeg) = (-1000000) then
      gg (¬ (p1 < 0 ∨ 48 ≤ p1.toNatClampNeg)) (
      if x3 = (σ.1 123 p1.toNatClampNeg) then
        fX4_motionAt_55 p1 p2 p3 1 σ
      else
        fX4_motionAt_55 p1 p2 p3 0 σ)
    else
      gg (¬ (σ.1 122 x3.toNatClampNeg < 0 ∨ 60 ≤ (σ.1 122 x3.toNatClampNeg).toNatClampNeg)) (
      bnd (σ.2.2 60 ((σ.1 122 x3.toNatClampNeg).toNatClampNeg)) fun x7 =>
      gg (61 ≤ x7 ∧ x7 < 121) (
      gg (¬ (p1 < 0 ∨ 48 ≤ p1.toNatClampNeg)) (
      gg (¬ (σ.1 123 p1.toNatClampNeg < 0 ∨ 48 ≤ (σ.1 123 p1.toNatClampNeg).toNatClampNeg)) (
      bd (fJ9_floorMod_7cf53 (-(σ.1 x7 ((σ.1 123 p1.toNatClampNeg).toNatClampNeg))) 1000003 σ) fun x11 σ12 =>
      some (x11, σ12)))))))
set_option maxHeartbeats 4000000 in
set_option maxRecDepth 100000 in
theorem pX4_motionAt {E : gE} {p1 : Int32} {p2 : Int32} {p3 : Int32} {r : Int32} {σ' : gS} {σ : gS} (h : fX4_motionAt p1 p2 p3 σ = some (r, σ')) : gG E mX4_motionAt 0 [(0, .ref 59), (1, .int p1), (2, .int p2), (3, .int p3)] [] σ (some (.int r)) σ' := by
  unfold fX4_motionAt at h
  refine g_aload_n dX4_motionAt_0 rfl 0 rfl ?_
  refine g_getC (n := 121) dX4_motionAt_1 gi_59 rfl fl_RX4_16 ?_
  refine g_iload_n dX4_motionAt_4 rfl 2 rfl ?_
  obtain ⟨g1, h⟩ := gg_some h
  refine g_iald dX4_motionAt_5 gi_121 g1 ?_
  refine g_istore (lv' := [(4, .int (σ.1 121 p2.toNatClampNeg)), (0, .ref 59), (1, .int p1), (2, .int p2), (3, .int p3)]) dX4_motionAt_6 (Nat.le_of_ble_eq_true rfl) rfl ?_
  refine g_iload dX4_motionAt_8 0 rfl ?_
  refine g_ldc (v := (-1000000)) dX4_motionAt_10 wc_RX4_66 ?_
  refine g_icmp_ne (t := 17) dX4_motionAt_12 (by decide) (fun c2 => ?_) (fun c2 => ?_)
  · replace h := if_f h c2
    refine g_iload dX4_motionAt_17 0 rfl ?_
    refine g_iload_n dX4_motionAt_19 rfl 4 rfl ?_
    refine g_iadd dX4_motionAt_20 ?_
    obtain ⟨x3, ex3, h⟩ := bnd_nm h
    refine g_topi ex3 ?_
    refine g_istore (lv' := [(4, .int x3), (0, .ref 59), (1, .int p1), (2, .int p2), (3, .int p3)]) dX4_motionAt_21 (Nat.le_of_ble_eq_true rfl) rfl ?_
    refine g_aload_n dX4_motionAt_23 rfl 1 rfl ?_
    refine g_getC (n := 122) dX4_motionAt_24 gi_59 rfl fl_RX4_20 ?_
    refine g_iload dX4_motionAt_27 0 rfl ?_
    obtain ⟨g4, h⟩ := gg_some h
    refine g_iald dX4_motionAt_29 gi_122 g4 ?_
    refine g_istore (lv' := [(5, .int (σ.1 122 x3.toNatClampNeg)), (4, .int x3), (0, .ref 59), (1, .int p1), (2, .int p2), (3, .int p3)]) dX4_motionAt_30 (Nat.le_of_ble_eq_true rfl) rfl ?_
    refine g_iload dX4_motionAt_32 0 rfl ?_
    refine g_ldc (v := (-1000000)) dX4_motionAt_34 wc_RX4_66 ?_
    refine g_icmp_ne (t := 56) dX4_motionAt_36 (by decide) (fun c5 => ?_) (fun c5 => ?_)
    · replace h := if_f h c5
      refine g_aload_n dX4_motionAt_56 rfl 2 rfl ?_
      refine g_getC (n := 60) dX4_motionAt_57 gi_59 rfl fl_RX4_13 ?_
      refine g_iload dX4_motionAt_60 0 rfl ?_
      obtain ⟨g6, h⟩ := gg_some h
      refine g_aaldA dX4_motionAt_62 gi_60 g6 ?_
      obtain ⟨x7, ex7, h⟩ := bnd_nm h
      refine g_topr ex7 ?_
      obtain ⟨g8, h⟩ := gg_some h
      refine g_aload_n dX4_motionAt_63 rfl 2 rfl ?_
      refine g_getC (n := 123) dX4_motionAt_64 gi_59 rfl fl_RX4_23 ?_
      refine g_iload_n dX4_motionAt_67 rfl 3 rfl ?_
      obtain ⟨g9, h⟩ := gg_some h
      refine g_iald dX4_motionAt_68 gi_123 g9 ?_
      obtain ⟨g10, h⟩ := gg_some h
      refine g_iald dX4_motionAt_69 (gi_rw g8) g10 ?_
      refine g_ineg dX4_motionAt_70 ?_
      refine g_ldc (v := 1000003) dX4_motionAt_71 wc_RX4_67 ?_
      obtain ⟨x11, σ12, y13, h⟩ := bd_some h
      refine g_callSr (as := [.int (-(σ.1 x7 ((σ.1 123 p1.toNatClampNeg).toNatClampNeg))), .int 1000003]) (st := []) (zJ9_floorMod_7cf53 y13) dX4_motionAt_73 okX4_motionAt_68 (Nat.le_of_ble_eq_true rfl) ?_
      obtain ⟨rfl, rfl⟩ := so_inj h
      exact g_iret dX4_motionAt_76 rfl
    · replace h := if_t h c5
      refine g_iload dX4_motionAt_39 1 rfl ?_
      refine g_aload_n dX4_motionAt_41 rfl 2 rfl ?_
      refine g_getC (n := 123) dX4_motionAt_42 gi_59 rfl fl_RX4_23 ?_
      refine g_iload_n dX4_motionAt_45 rfl 3 rfl ?_
      obtain ⟨g14, h⟩ := gg_some h
      refine g_iald dX4_motionAt_46 gi_123 g14 ?_
      refine g_icmp_ne (t := 54) dX4_motionAt_47 (by decide) (fun c15 => ?_) (fun c15 => ?_)
      · replace h := if_f h c15
        refine g_iconst (v := 0) dX4_motionAt_54 (by decide) ?_
        refine g_sub [] rfl ?_
        exact pX4_motionAt_55 h
      · replace h := if_t h c15
        refine g_iconst (v := 1) dX4_motionAt_50 (by decide) ?_
        refine g_goto (t := 55) dX4_motionAt_51 (by decide) ?_
        refine g_sub [] rfl ?_
        exact pX4_motionAt_55 h
  · replace h := if_t h c2
    refine g_iconst (v := 0) dX4_motionAt_15 (by decide) ?_
    obtain ⟨rfl, rfl⟩ := so_inj h
    exact g_iret dX4_motionAt_16 rfl
theorem zX4_motionAt {E : gE} {p1 : Int32} {p2 : Int32} {p3 : Int32} {r : Int32} {σ σ' : gS} (h : fX4_motionAt p1 p2 p3 σ = some (r, σ')) : gC E mX4_motionAt [.ref 59, .int p1, .int p2, .int p3] σ (some (.int r)) σ' :=
  gC_of (by decide +kernel) rfl (Nat.le_of_ble_eq_true rfl) (pX4_motionAt h)
def mX5_howMany : gM := (yX5_howMany, cX5_howMany, RX5, 4, (some .int), 0, 0)
theorem dX5_howMany_0 : decode mX5_howMany.2.1 0 = .ok (.iconst 0, 1) := by decide +kernel
theorem dX5_howMany_1 : decode mX5_howMany.2.1 1 = .ok (.istore_n 2, 1) := by decide +kernel
theorem dX5_howMany_2 : decode mX5_howMany.2.1 2 = .ok (.iconst 0, 1) := by decide +kernel
theorem dX5_howMany_3 : decode mX5_howMany.2.1 3 = .ok (.istore_n 3, 1) := by decide +kernel
theorem dX5_howMany_4 : decode mX5_howMany.2.1 4 = .ok (.iload_n 3, 1) := by decide +kernel
theorem dX5_howMany_5 : decode mX5_howMany.2.1 5 = .ok (.iload_n 1, 1) := by decide +kernel
theorem dX5_howMany_6 : decode mX5_howMany.2.1 6 = .ok (.if_icmp .ge 21, 3) := by decide +kernel
theorem dX5_howMany_9 : decode mX5_howMany.2.1 9 = .ok (.aload_n 0, 1) := by decide +kernel
theorem dX5_howMany_10 : decode mX5_howMany.2.1 10 = .ok (.getfield 18, 3) := by decide +kernel
theorem dX5_howMany_13 : decode mX5_howMany.2.1 13 = .ok (.iload_n 3, 1) := by decide +kernel
theorem dX5_howMany_14 : decode mX5_howMany.2.1 14 = .ok (.iaload, 1) := by decide +kernel
theorem dX5_howMany_15 : decode mX5_howMany.2.1 15 = .ok (.ifCond .ne 6, 3) := by decide +kernel
theorem dX5_howMany_18 : decode mX5_howMany.2.1 18 = .ok (.iinc 2 1, 3) := by decide +kernel
theorem dX5_howMany_21 : decode mX5_howMany.2.1 21 = .ok (.iinc 3 1, 3) := by decide +kernel
theorem dX5_howMany_24 : decode mX5_howMany.2.1 24 = .ok (.goto (-20), 3) := by decide +kernel
theorem dX5_howMany_27 : decode mX5_howMany.2.1 27 = .ok (.iload_n 2, 1) := by decide +kernel
theorem dX5_howMany_28 : decode mX5_howMany.2.1 28 = .ok (.ireturn, 1) := by decide +kernel
def fX5_howMany_21 (t : Nat) (p1 : Int32) (k4 : Int32 → Int32 → gS → Option (Int32 × gS)) (v2 : Int32) (v3 : Int32) (σ : gS) : Option (Int32 × gS) :=
  bnd (v3 + 1) fun x1 =>
  k4 v2 x1 σ
set_option maxHeartbeats 4000000 in
set_option maxRecDepth 100000 in
theorem pX5_howMany_21 {E : gE} {t : Nat} {p1 : Int32} {k4 : Int32 → Int32 → gS → Option (Int32 × gS)} {r : Int32} {σ' : gS} {v2 : Int32} {v3 : Int32} {σ : gS} (ht : gPl t) (hk4 : ∀ (v2 : Int32) (v3 : Int32) (σ : gS), k4 v2 v3 σ = some (r, σ') → gG E mX5_howMany 4 [(0, .ref t), (1, .int p1), (2, .int v2), (3, .int v3)] [] σ (some (.int r)) σ') (h : fX5_howMany_21 t p1 k4 v2 v3 σ = some (r, σ')) : gG E mX5_howMany 21 [(0, .ref t), (1, .int p1), (2, .int v2), (3, .int v3)] [] σ (some (.int r)) σ' := by
  unfold fX5_howMany_21 at h
  obtain ⟨x1, ex1, h⟩ := bnd_nm h
  refine g_iinc (j := 3) (v := x1) (lv' := [(3, .int x1), (0, .ref t), (1, .int p1), (2, .int v2)]) dX5_howMany_21 rfl (by rw [ex1]; rfl) (Nat.le_of_ble_eq_true rfl) rfl ?_
  refine g_goto (t := 4) dX5_howMany_24 (by decide) ?_
  refine g_sub [1, 2, 3, 0] rfl ?_
  exact hk4 v2 x1 σ h
def fX5_howMany_4 (t : Nat) (p1 : Int32) : Nat → Int32 → Int32 → gS → Option (Int32 × gS)
  | 0, _, _, _ => none
  | n + 1, v2, v3, σ => if p1 ≤ v3 then
    some (v2, σ)
  else
    gg (¬ (v3 < 0 ∨ 24 ≤ v3.toNatClampNeg)) (
    if (σ.1 (t + 3) v3.toNatClampNeg) = 0 then
      bnd (v2 + 1) fun x4 =>
      fX5_howMany_21 t p1 (fun v2 v3 σ => fX5_howMany_4 t p1 n v2 v3 σ) x4 v3 σ
    else
      fX5_howMany_21 t p1 (fun v2 v3 σ => fX5_howMany_4 t p1 n v2 v3 σ) v2 v3 σ)
set_option maxHeartbeats 4000000 in
set_option maxRecDepth 100000 in
theorem pX5_howMany_4 {E : gE} {t : Nat} {p1 : Int32} {r : Int32} {σ' : gS} (ht : gPl t) : ∀ (n : Nat) (v2 : Int32) (v3 : Int32) (σ : gS), fX5_howMany_4 t p1 n v2 v3 σ = some (r, σ') → gG E mX5_howMany 4 [(0, .ref t), (1, .int p1), (2, .int v2), (3, .int v3)] [] σ (some (.int r)) σ' := by
  intro n
  induction n with
  | zero => intro v2 v3 σ h; exact absurd (show none = some (r, σ') from h) (by intro q; cases q)
  | succ n ih =>
  intro v2 v3 σ h
  unfold fX5_howMany_4 at h
  refine g_iload_n dX5_howMany_4 rfl 3 rfl ?_
  refine g_iload_n dX5_howMany_5 rfl 1 rfl ?_
  refine g_icmp_ge (t := 27) dX5_howMany_6 (by decide) (fun c1 => ?_) (fun c1 => ?_)
  · replace h := if_t h c1
    refine g_iload_n dX5_howMany_27 rfl 2 rfl ?_
    obtain ⟨rfl, rfl⟩ := so_inj h
    exact g_iret dX5_howMany_28 rfl
  · replace h := if_f h c1
    refine g_aload_n dX5_howMany_9 rfl 0 rfl ?_
    refine g_getC (n := (t + 3)) dX5_howMany_10 (gi_pl ht) rfl fl_RX5_18 ?_
    refine g_iload_n dX5_howMany_13 rfl 3 rfl ?_
    obtain ⟨g2, h⟩ := gg_some h
    refine g_iald dX5_howMany_14 (gi_pl3 ht) g2 ?_
    refine g_if_ne (t := 21) dX5_howMany_15 (by decide) (fun c3 => ?_) (fun c3 => ?_)
    · replace h := if_f h c3
      exact pX5_howMany_21 ht (fun v2 v3 σ h => ih v2 v3 σ h) h
    · replace h := if_t h c3
      obtain ⟨x4, ex4, h⟩ := bnd_nm h
      refine g_iinc (j := 2) (v := x4) (lv' := [(2, .int x4), (0, .ref t), (1, .int p1), (3, .int v3)]) dX5_howMany_18 rfl (by rw [ex4]; rfl) (Nat.le_of_ble_eq_true rfl) rfl ?_
      refine g_sub [1, 2, 0, 3] rfl ?_
      exact pX5_howMany_21 ht (fun v2 v3 σ h => ih v2 v3 σ h) h
def fX5_howMany (t : Nat) (p1 : Int32) (σ : gS) : Option (Int32 × gS) :=
  fX5_howMany_4 t p1 2000 0 0 σ
set_option maxHeartbeats 4000000 in
set_option maxRecDepth 100000 in
theorem pX5_howMany {E : gE} {t : Nat} {p1 : Int32} {r : Int32} {σ' : gS} {σ : gS} (ht : gPl t) (h : fX5_howMany t p1 σ = some (r, σ')) : gG E mX5_howMany 0 [(0, .ref t), (1, .int p1)] [] σ (some (.int r)) σ' := by
  unfold fX5_howMany at h
  refine g_iconst (v := 0) dX5_howMany_0 (by decide) ?_
  refine g_istore_n (lv' := [(2, .int 0), (0, .ref t), (1, .int p1)]) dX5_howMany_1 rfl (Nat.le_of_ble_eq_true rfl) rfl ?_
  refine g_iconst (v := 0) dX5_howMany_2 (by decide) ?_
  refine g_istore_n (lv' := [(3, .int 0), (2, .int 0), (0, .ref t), (1, .int p1)]) dX5_howMany_3 rfl (Nat.le_of_ble_eq_true rfl) rfl ?_
  refine g_sub [2, 3, 1, 0] rfl ?_
  exact pX5_howMany_4 ht 2000 0 0 σ h
theorem zX5_howMany {E : gE} {t : Nat} {p1 : Int32} {r : Int32} {σ σ' : gS} (ht : gPl t) (h : fX5_howMany t p1 σ = some (r, σ')) : gC E mX5_howMany [.ref t, .int p1] σ (some (.int r)) σ' :=
  gC_of (by decide +kernel) rfl (Nat.le_of_ble_eq_true rfl) (pX5_howMany ht h)
theorem fl_RX6_47 : gFl RX6 47 6 1 := ⟨RX6, TX6, 10, rfl, by decide, ux_6, Or.inl (gm 247 (by decide +kernel) rfl)⟩
theorem fl_RX6_11 : gFl RX6 11 6 0 := ⟨RX6, TX6, 10, rfl, by decide, ux_6, Or.inl (gm 246 (by decide +kernel) rfl)⟩
theorem fp_RX6_47 : gFp RX6 47 6 1 .int := ⟨RX6, TX6, 10, rfl, by decide, ux_6, Or.inl (gm 247 (by decide +kernel) rfl), rfl, by decide +kernel, ⟨tyX6, tyX6_ok⟩, nmX6⟩
theorem wc_RX6_49 : Cond.constant RX6 49 (-1000003) ∈ gWS := (gm 572 (by decide +kernel) rfl)
def mX6_append : gM := (yX6_append, cX6_append, RX6, 5, (some .int), 0, 0)
theorem dX6_append_0 : decode mX6_append.2.1 0 = .ok (.aload_n 0, 1) := by decide +kernel
theorem dX6_append_1 : decode mX6_append.2.1 1 = .ok (.getfield 47, 3) := by decide +kernel
theorem dX6_append_4 : decode mX6_append.2.1 4 = .ok (.iload_n 1, 1) := by decide +kernel
theorem dX6_append_5 : decode mX6_append.2.1 5 = .ok (.iadd, 1) := by decide +kernel
theorem dX6_append_6 : decode mX6_append.2.1 6 = .ok (.sipush 1200, 3) := by decide +kernel
theorem dX6_append_9 : decode mX6_append.2.1 9 = .ok (.if_icmp .le 6, 3) := by decide +kernel
theorem dX6_append_12 : decode mX6_append.2.1 12 = .ok (.ldc 49, 2) := by decide +kernel
theorem dX6_append_14 : decode mX6_append.2.1 14 = .ok (.ireturn, 1) := by decide +kernel
theorem dX6_append_15 : decode mX6_append.2.1 15 = .ok (.iconst 0, 1) := by decide +kernel
theorem dX6_append_16 : decode mX6_append.2.1 16 = .ok (.istore 4, 2) := by decide +kernel
theorem dX6_append_18 : decode mX6_append.2.1 18 = .ok (.iload 4, 2) := by decide +kernel
theorem dX6_append_20 : decode mX6_append.2.1 20 = .ok (.iload_n 1, 1) := by decide +kernel
theorem dX6_append_21 : decode mX6_append.2.1 21 = .ok (.if_icmp .ge 37, 3) := by decide +kernel
theorem dX6_append_24 : decode mX6_append.2.1 24 = .ok (.aload_n 0, 1) := by decide +kernel
theorem dX6_append_25 : decode mX6_append.2.1 25 = .ok (.getfield 11, 3) := by decide +kernel
theorem dX6_append_28 : decode mX6_append.2.1 28 = .ok (.aload_n 0, 1) := by decide +kernel
theorem dX6_append_29 : decode mX6_append.2.1 29 = .ok (.getfield 47, 3) := by decide +kernel
theorem dX6_append_32 : decode mX6_append.2.1 32 = .ok (.lload_n 2, 1) := by decide +kernel
theorem dX6_append_33 : decode mX6_append.2.1 33 = .ok (.bipush 8, 2) := by decide +kernel
theorem dX6_append_35 : decode mX6_append.2.1 35 = .ok (.iload 4, 2) := by decide +kernel
theorem dX6_append_37 : decode mX6_append.2.1 37 = .ok (.imul, 1) := by decide +kernel
theorem dX6_append_38 : decode mX6_append.2.1 38 = .ok (.lushr, 1) := by decide +kernel
theorem dX6_append_39 : decode mX6_append.2.1 39 = .ok (.l2i, 1) := by decide +kernel
theorem dX6_append_40 : decode mX6_append.2.1 40 = .ok (.i2b, 1) := by decide +kernel
theorem dX6_append_41 : decode mX6_append.2.1 41 = .ok (.bastore, 1) := by decide +kernel
theorem dX6_append_42 : decode mX6_append.2.1 42 = .ok (.aload_n 0, 1) := by decide +kernel
theorem dX6_append_43 : decode mX6_append.2.1 43 = .ok (.dup, 1) := by decide +kernel
theorem dX6_append_44 : decode mX6_append.2.1 44 = .ok (.getfield 47, 3) := by decide +kernel
theorem dX6_append_47 : decode mX6_append.2.1 47 = .ok (.iconst 1, 1) := by decide +kernel
theorem dX6_append_48 : decode mX6_append.2.1 48 = .ok (.iadd, 1) := by decide +kernel
theorem dX6_append_49 : decode mX6_append.2.1 49 = .ok (.putfield 47, 3) := by decide +kernel
theorem dX6_append_52 : decode mX6_append.2.1 52 = .ok (.iinc 4 1, 3) := by decide +kernel
theorem dX6_append_55 : decode mX6_append.2.1 55 = .ok (.goto (-37), 3) := by decide +kernel
theorem dX6_append_58 : decode mX6_append.2.1 58 = .ok (.aload_n 0, 1) := by decide +kernel
theorem dX6_append_59 : decode mX6_append.2.1 59 = .ok (.getfield 47, 3) := by decide +kernel
theorem dX6_append_62 : decode mX6_append.2.1 62 = .ok (.ireturn, 1) := by decide +kernel
def fX6_append_18 (p1 : Int32) (p2 : Int64) : Nat → Int32 → gS → Option (Int32 × gS)
  | 0, _, _ => none
  | n + 1, v4, σ => if p1 ≤ v4 then
    some (σ.1 1 1, σ)
  else
    gg (¬ (σ.1 1 1 < 0 ∨ 1200 ≤ (σ.1 1 1).toNatClampNeg)) (
    bnd (gsI σ 2 ((σ.1 1 1).toNatClampNeg) (vp_nar .byte ((((p2.toUInt64 >>> ((8 * v4).toInt64.toUInt64 &&& Int64.toUInt64 63)).toInt64).toInt32).toInt8.toInt32))) fun σ3 =>
    bnd (gsI σ3 1 1 ((σ3.1 1 1) + 1)) fun σ4 =>
    bnd (v4 + 1) fun x5 =>
    fX6_append_18 p1 p2 n x5 σ4)
set_option maxHeartbeats 4000000 in
set_option maxRecDepth 100000 in
theorem pX6_append_18 {E : gE} {p1 : Int32} {p2 : Int64} {r : Int32} {σ' : gS} : ∀ (n : Nat) (v4 : Int32) (σ : gS), fX6_append_18 p1 p2 n v4 σ = some (r, σ') → gG E mX6_append 18 [(0, .ref 1), (1, .int p1), (2, .long p2), (4, .int v4)] [] σ (some (.int r)) σ' := by
  intro n
  induction n with
  | zero => intro v4 σ h; exact absurd (show none = some (r, σ') from h) (by intro q; cases q)
  | succ n ih =>
  intro v4 σ h
  unfold fX6_append_18 at h
  refine g_iload dX6_append_18 3 rfl ?_
  refine g_iload_n dX6_append_20 rfl 1 rfl ?_
  refine g_icmp_ge (t := 58) dX6_append_21 (by decide) (fun c1 => ?_) (fun c1 => ?_)
  · replace h := if_t h c1
    refine g_aload_n dX6_append_58 rfl 0 rfl ?_
    refine g_getI dX6_append_59 gi_1 rfl fl_RX6_47 ?_
    obtain ⟨rfl, rfl⟩ := so_inj h
    exact g_iret dX6_append_62 rfl
  · replace h := if_f h c1
    refine g_aload_n dX6_append_24 rfl 0 rfl ?_
    refine g_getC (n := 2) dX6_append_25 gi_1 rfl fl_RX6_11 ?_
    refine g_aload_n dX6_append_28 rfl 0 rfl ?_
    refine g_getI dX6_append_29 gi_1 rfl fl_RX6_47 ?_
    refine g_lload_n dX6_append_32 rfl 2 rfl ?_
    refine g_bipush (v := 8) dX6_append_33 (by decide) ?_
    refine g_iload dX6_append_35 3 rfl ?_
    refine g_imul dX6_append_37 ?_
    refine g_lushr dX6_append_38 ?_
    refine g_l2i dX6_append_39 ?_
    refine g_i2b dX6_append_40 ?_
    obtain ⟨g2, h⟩ := gg_some h
    obtain ⟨σ3, eσ3, h⟩ := bnd_nm h
    refine g_bast dX6_append_41 gi_2 g2 (g_st eσ3 ?_)
    refine g_aload_n dX6_append_42 rfl 0 rfl ?_
    refine g_dup dX6_append_43 rfl ?_
    refine g_getI dX6_append_44 gi_1 rfl fl_RX6_47 ?_
    refine g_iconst (v := 1) dX6_append_47 (by decide) ?_
    refine g_iadd dX6_append_48 ?_
    obtain ⟨σ4, eσ4, h⟩ := bnd_nm h
    refine g_putI dX6_append_49 gi_1 rfl fp_RX6_47 (g_st eσ4 ?_)
    obtain ⟨x5, ex5, h⟩ := bnd_nm h
    refine g_iinc (j := 3) (v := x5) (lv' := [(4, .int x5), (0, .ref 1), (1, .int p1), (2, .long p2)]) dX6_append_52 rfl (by rw [ex5]; rfl) (Nat.le_of_ble_eq_true rfl) rfl ?_
    refine g_goto (t := 18) dX6_append_55 (by decide) ?_
    refine g_sub [1, 2, 3, 0] rfl ?_
    exact ih x5 σ4 h
def fX6_append (p1 : Int32) (p2 : Int64) (σ : gS) : Option (Int32 × gS) :=
  if ((σ.1 1 1) + p1) ≤ 1200 then
    fX6_append_18 p1 p2 2000 0 σ
  else
    some ((-1000003), σ)
set_option maxHeartbeats 4000000 in
set_option maxRecDepth 100000 in
theorem pX6_append {E : gE} {p1 : Int32} {p2 : Int64} {r : Int32} {σ' : gS} {σ : gS} (h : fX6_append p1 p2 σ = some (r, σ')) : gG E mX6_append 0 [(0, .ref 1), (1, .int p1), (2, .long p2)] [] σ (some (.int r)) σ' := by
  unfold fX6_append at h
  refine g_aload_n dX6_append_0 rfl 0 rfl ?_
  refine g_getI dX6_append_1 gi_1 rfl fl_RX6_47 ?_
  refine g_iload_n dX6_append_4 rfl 1 rfl ?_
  refine g_iadd dX6_append_5 ?_
  refine g_sipush (v := 1200) dX6_append_6 (by decide) ?_
  refine g_icmp_le (t := 15) dX6_append_9 (by decide) (fun c1 => ?_) (fun c1 => ?_)
  · replace h := if_t h c1
    refine g_iconst (v := 0) dX6_append_15 (by decide) ?_
    refine g_istore (lv' := [(4, .int 0), (0, .ref 1), (1, .int p1), (2, .long p2)]) dX6_append_16 (Nat.le_of_ble_eq_true rfl) rfl ?_
    refine g_sub [1, 2, 3, 0] rfl ?_
    exact pX6_append_18 2000 0 σ h
  · replace h := if_f h c1
    refine g_ldc (v := (-1000003)) dX6_append_12 wc_RX6_49 ?_
    obtain ⟨rfl, rfl⟩ := so_inj h
    exact g_iret dX6_append_14 rfl
theorem zX6_append {E : gE} {p1 : Int32} {p2 : Int64} {r : Int32} {σ σ' : gS} (h : fX6_append p1 p2 σ = some (r, σ')) : gC E mX6_append [.ref 1, .int p1, .long p2] σ (some (.int r)) σ' :=
  gC_of (by decide +kernel) rfl (Nat.le_of_ble_eq_true rfl) (pX6_append h)
def mX6_isLetterAt : gM := (yX6_isLetterAt, cX6_isLetterAt, RX6, 2, (some .boolean), 0, 0)
theorem dX6_isLetterAt_0 : decode mX6_isLetterAt.2.1 0 = .ok (.aload_n 0, 1) := by decide +kernel
theorem dX6_isLetterAt_1 : decode mX6_isLetterAt.2.1 1 = .ok (.getfield 11, 3) := by decide +kernel
theorem dX6_isLetterAt_4 : decode mX6_isLetterAt.2.1 4 = .ok (.iload_n 1, 1) := by decide +kernel
theorem dX6_isLetterAt_5 : decode mX6_isLetterAt.2.1 5 = .ok (.baload, 1) := by decide +kernel
theorem dX6_isLetterAt_6 : decode mX6_isLetterAt.2.1 6 = .ok (.bipush 97, 2) := by decide +kernel
theorem dX6_isLetterAt_8 : decode mX6_isLetterAt.2.1 8 = .ok (.if_icmp .lt 18, 3) := by decide +kernel
theorem dX6_isLetterAt_11 : decode mX6_isLetterAt.2.1 11 = .ok (.aload_n 0, 1) := by decide +kernel
theorem dX6_isLetterAt_12 : decode mX6_isLetterAt.2.1 12 = .ok (.getfield 11, 3) := by decide +kernel
theorem dX6_isLetterAt_15 : decode mX6_isLetterAt.2.1 15 = .ok (.iload_n 1, 1) := by decide +kernel
theorem dX6_isLetterAt_16 : decode mX6_isLetterAt.2.1 16 = .ok (.baload, 1) := by decide +kernel
theorem dX6_isLetterAt_17 : decode mX6_isLetterAt.2.1 17 = .ok (.bipush 122, 2) := by decide +kernel
theorem dX6_isLetterAt_19 : decode mX6_isLetterAt.2.1 19 = .ok (.if_icmp .gt 7, 3) := by decide +kernel
theorem dX6_isLetterAt_22 : decode mX6_isLetterAt.2.1 22 = .ok (.iconst 1, 1) := by decide +kernel
theorem dX6_isLetterAt_23 : decode mX6_isLetterAt.2.1 23 = .ok (.goto 4, 3) := by decide +kernel
theorem dX6_isLetterAt_26 : decode mX6_isLetterAt.2.1 26 = .ok (.iconst 0, 1) := by decide +kernel
theorem dX6_isLetterAt_27 : decode mX6_isLetterAt.2.1 27 = .ok (.ireturn, 1) := by decide +kernel
def fX6_isLetterAt_27 (p1 : Int32) (s0 : Int32) (σ : gS) : Option (Int32 × gS) :=
  gg (s0 = 0 ∨ s0 = 1) (
  some (s0, σ))
set_option maxHeartbeats 4000000 in
set_option maxRecDepth 100000 in
theorem pX6_isLetterAt_27 {E : gE} {p1 : Int32} {r : Int32} {σ' : gS} {s0 : Int32} {σ : gS} (h : fX6_isLetterAt_27 p1 s0 σ = some (r, σ')) : gG E mX6_isLetterAt 27 [] [.int s0] σ (some (.int r)) σ' := by
  unfold fX6_isLetterAt_27 at h
  obtain ⟨g1, h⟩ := gg_some h
  obtain ⟨rfl, rfl⟩ := so_inj h
  exact g_zret dX6_isLetterAt_27 rfl g1
def fX6_isLetterAt_26 (p1 : Int32) (σ : gS) : Option (Int32 × gS) :=
  fX6_isLetterAt_27 p1 0 σ
set_option maxHeartbeats 4000000 in
set_option maxRecDepth 100000 in
theorem pX6_isLetterAt_26 {E : gE} {p1 : Int32} {r : Int32} {σ' : gS} {σ : gS} (h : fX6_isLetterAt_26 p1 σ = some (r, σ')) : gG E mX6_isLetterAt 26 [] [] σ (some (.int r)) σ' := by
  unfold fX6_isLetterAt_26 at h
  refine g_iconst (v := 0) dX6_isLetterAt_26 (by decide) ?_
  exact pX6_isLetterAt_27 h
def fX6_isLetterAt (p1 : Int32) (σ : gS) : Option (Int32 × gS) :=
  gg (¬ (p1 < 0 ∨ 1200 ≤ p1.toNatClampNeg)) (
  if (σ.1 2 p1.toNatClampNeg) < 97 then
    fX6_isLetterAt_26 p1 σ
  else
    gg (¬ (p1 < 0 ∨ 1200 ≤ p1.toNatClampNeg)) (
    if 122 < (σ.1 2 p1.toNatClampNeg) then
      fX6_isLetterAt_26 p1 σ
    else
      fX6_isLetterAt_27 p1 1 σ))
set_option maxHeartbeats 4000000 in
set_option maxRecDepth 100000 in
theorem pX6_isLetterAt {E : gE} {p1 : Int32} {r : Int32} {σ' : gS} {σ : gS} (h : fX6_isLetterAt p1 σ = some (r, σ')) : gG E mX6_isLetterAt 0 [(0, .ref 1), (1, .int p1)] [] σ (some (.int r)) σ' := by
  unfold fX6_isLetterAt at h
  refine g_aload_n dX6_isLetterAt_0 rfl 0 rfl ?_
  refine g_getC (n := 2) dX6_isLetterAt_1 gi_1 rfl fl_RX6_11 ?_
  refine g_iload_n dX6_isLetterAt_4 rfl 1 rfl ?_
  obtain ⟨g1, h⟩ := gg_some h
  refine g_bald dX6_isLetterAt_5 gi_2 g1 ?_
  refine g_bipush (v := 97) dX6_isLetterAt_6 (by decide) ?_
  refine g_icmp_lt (t := 26) dX6_isLetterAt_8 (by decide) (fun c2 => ?_) (fun c2 => ?_)
  · replace h := if_t h c2
    refine g_sub [] rfl ?_
    exact pX6_isLetterAt_26 h
  · replace h := if_f h c2
    refine g_aload_n dX6_isLetterAt_11 rfl 0 rfl ?_
    refine g_getC (n := 2) dX6_isLetterAt_12 gi_1 rfl fl_RX6_11 ?_
    refine g_iload_n dX6_isLetterAt_15 rfl 1 rfl ?_
    obtain ⟨g3, h⟩ := gg_some h
    refine g_bald dX6_isLetterAt_16 gi_2 g3 ?_
    refine g_bipush (v := 122) dX6_isLetterAt_17 (by decide) ?_
    refine g_icmp_gt (t := 26) dX6_isLetterAt_19 (by decide) (fun c4 => ?_) (fun c4 => ?_)
    · replace h := if_t h c4
      refine g_sub [] rfl ?_
      exact pX6_isLetterAt_26 h
    · replace h := if_f h c4
      refine g_iconst (v := 1) dX6_isLetterAt_22 (by decide) ?_
      refine g_goto (t := 27) dX6_isLetterAt_23 (by decide) ?_
      refine g_sub [] rfl ?_
      exact pX6_isLetterAt_27 h
theorem zX6_isLetterAt {E : gE} {p1 : Int32} {r : Int32} {σ σ' : gS} (h : fX6_isLetterAt p1 σ = some (r, σ')) : gC E mX6_isLetterAt [.ref 1, .int p1] σ (some (.int r)) σ' :=
  gC_of (by decide +kernel) rfl (Nat.le_of_ble_eq_true rfl) (pX6_isLetterAt h)
def mX6_withLetter : gM := (yX6_withLetter, cX6_withLetter, RX6, 2, (some .int), 0, 0)
theorem dX6_withLetter_0 : decode mX6_withLetter.2.1 0 = .ok (.bipush 27, 2) := by decide +kernel
theorem dX6_withLetter_2 : decode mX6_withLetter.2.1 2 = .ok (.iload_n 0, 1) := by decide +kernel
theorem dX6_withLetter_3 : decode mX6_withLetter.2.1 3 = .ok (.imul, 1) := by decide +kernel
theorem dX6_withLetter_4 : decode mX6_withLetter.2.1 4 = .ok (.iload_n 1, 1) := by decide +kernel
theorem dX6_withLetter_5 : decode mX6_withLetter.2.1 5 = .ok (.bipush 97, 2) := by decide +kernel
theorem dX6_withLetter_7 : decode mX6_withLetter.2.1 7 = .ok (.isub, 1) := by decide +kernel
theorem dX6_withLetter_8 : decode mX6_withLetter.2.1 8 = .ok (.iconst 1, 1) := by decide +kernel
theorem dX6_withLetter_9 : decode mX6_withLetter.2.1 9 = .ok (.iadd, 1) := by decide +kernel
theorem dX6_withLetter_10 : decode mX6_withLetter.2.1 10 = .ok (.iadd, 1) := by decide +kernel
theorem dX6_withLetter_11 : decode mX6_withLetter.2.1 11 = .ok (.ireturn, 1) := by decide +kernel
def fX6_withLetter (p1 : Int32) (p2 : Int32) (σ : gS) : Option (Int32 × gS) :=
  some ((27 * p1) + ((p2 - 97) + 1), σ)
set_option maxHeartbeats 4000000 in
set_option maxRecDepth 100000 in
theorem pX6_withLetter {E : gE} {p1 : Int32} {p2 : Int32} {r : Int32} {σ' : gS} {σ : gS} (h : fX6_withLetter p1 p2 σ = some (r, σ')) : gG E mX6_withLetter 0 [(0, .int p1), (1, .int p2)] [] σ (some (.int r)) σ' := by
  unfold fX6_withLetter at h
  refine g_bipush (v := 27) dX6_withLetter_0 (by decide) ?_
  refine g_iload_n dX6_withLetter_2 rfl 0 rfl ?_
  refine g_imul dX6_withLetter_3 ?_
  refine g_iload_n dX6_withLetter_4 rfl 1 rfl ?_
  refine g_bipush (v := 97) dX6_withLetter_5 (by decide) ?_
  refine g_isub dX6_withLetter_7 ?_
  refine g_iconst (v := 1) dX6_withLetter_8 (by decide) ?_
  refine g_iadd dX6_withLetter_9 ?_
  refine g_iadd dX6_withLetter_10 ?_
  obtain ⟨rfl, rfl⟩ := so_inj h
  exact g_iret dX6_withLetter_11 rfl
theorem zX6_withLetter {E : gE} {p1 : Int32} {p2 : Int32} {r : Int32} {σ σ' : gS} (h : fX6_withLetter p1 p2 σ = some (r, σ')) : gC E mX6_withLetter [.int p1, .int p2] σ (some (.int r)) σ' :=
  gC_of (by decide +kernel) rfl (Nat.le_of_ble_eq_true rfl) (pX6_withLetter h)

theorem wc_RX9_52 : Cond.constant RX9 52 (-1000000) ∈ gWS := (gm 826 (by decide +kernel) rfl)
theorem fl_RX9_15 : gFl RX9 15 9 2 := ⟨RX9, TX9, 8, rfl, by decide, ux_9, Or.inl (gm 367 (by decide +kernel) rfl)⟩
def mX9_canHang : gM := (yX9_canHang, cX9_canHang, RX9, 6, (some .boolean), 2, 46)
theorem dX9_canHang_0 : decode mX9_canHang.2.1 0 = .ok (.ldc 52, 2) := by decide +kernel
theorem dX9_canHang_2 : decode mX9_canHang.2.1 2 = .ok (.istore_n 3, 1) := by decide +kernel
theorem dX9_canHang_3 : decode mX9_canHang.2.1 3 = .ok (.iconst 0, 1) := by decide +kernel
theorem dX9_canHang_4 : decode mX9_canHang.2.1 4 = .ok (.istore 4, 2) := by decide +kernel
theorem dX9_canHang_6 : decode mX9_canHang.2.1 6 = .ok (.iload 4, 2) := by decide +kernel
theorem dX9_canHang_8 : decode mX9_canHang.2.1 8 = .ok (.aload_n 1, 1) := by decide +kernel
theorem dX9_canHang_9 : decode mX9_canHang.2.1 9 = .ok (.iconst 1, 1) := by decide +kernel
theorem dX9_canHang_10 : decode mX9_canHang.2.1 10 = .ok (.invokevirtual 39, 3) := by decide +kernel
theorem dX9_canHang_13 : decode mX9_canHang.2.1 13 = .ok (.if_icmp .ge 64, 3) := by decide +kernel
theorem dX9_canHang_16 : decode mX9_canHang.2.1 16 = .ok (.aload_n 1, 1) := by decide +kernel
theorem dX9_canHang_17 : decode mX9_canHang.2.1 17 = .ok (.iload 4, 2) := by decide +kernel
theorem dX9_canHang_19 : decode mX9_canHang.2.1 19 = .ok (.iload_n 2, 1) := by decide +kernel
theorem dX9_canHang_20 : decode mX9_canHang.2.1 20 = .ok (.invokevirtual 71, 3) := by decide +kernel
theorem dX9_canHang_23 : decode mX9_canHang.2.1 23 = .ok (.istore 5, 2) := by decide +kernel
theorem dX9_canHang_25 : decode mX9_canHang.2.1 25 = .ok (.iload 5, 2) := by decide +kernel
theorem dX9_canHang_27 : decode mX9_canHang.2.1 27 = .ok (.ldc 52, 2) := by decide +kernel
theorem dX9_canHang_29 : decode mX9_canHang.2.1 29 = .ok (.if_icmp .eq 42, 3) := by decide +kernel
theorem dX9_canHang_32 : decode mX9_canHang.2.1 32 = .ok (.aload_n 0, 1) := by decide +kernel
theorem dX9_canHang_33 : decode mX9_canHang.2.1 33 = .ok (.getfield 15, 3) := by decide +kernel
theorem dX9_canHang_36 : decode mX9_canHang.2.1 36 = .ok (.iload 5, 2) := by decide +kernel
theorem dX9_canHang_38 : decode mX9_canHang.2.1 38 = .ok (.baload, 1) := by decide +kernel
theorem dX9_canHang_39 : decode mX9_canHang.2.1 39 = .ok (.ifCond .ne 6, 3) := by decide +kernel
theorem dX9_canHang_42 : decode mX9_canHang.2.1 42 = .ok (.goto 29, 3) := by decide +kernel
theorem dX9_canHang_45 : decode mX9_canHang.2.1 45 = .ok (.iload_n 3, 1) := by decide +kernel
theorem dX9_canHang_46 : decode mX9_canHang.2.1 46 = .ok (.ldc 52, 2) := by decide +kernel
theorem dX9_canHang_48 : decode mX9_canHang.2.1 48 = .ok (.if_icmp .eq 20, 3) := by decide +kernel
theorem dX9_canHang_51 : decode mX9_canHang.2.1 51 = .ok (.aload_n 0, 1) := by decide +kernel
theorem dX9_canHang_52 : decode mX9_canHang.2.1 52 = .ok (.getfield 19, 3) := by decide +kernel
theorem dX9_canHang_55 : decode mX9_canHang.2.1 55 = .ok (.iload_n 2, 1) := by decide +kernel
theorem dX9_canHang_56 : decode mX9_canHang.2.1 56 = .ok (.iload_n 3, 1) := by decide +kernel
theorem dX9_canHang_57 : decode mX9_canHang.2.1 57 = .ok (.iastore, 1) := by decide +kernel
theorem dX9_canHang_58 : decode mX9_canHang.2.1 58 = .ok (.aload_n 0, 1) := by decide +kernel
theorem dX9_canHang_59 : decode mX9_canHang.2.1 59 = .ok (.getfield 22, 3) := by decide +kernel
theorem dX9_canHang_62 : decode mX9_canHang.2.1 62 = .ok (.iload_n 2, 1) := by decide +kernel
theorem dX9_canHang_63 : decode mX9_canHang.2.1 63 = .ok (.iload 5, 2) := by decide +kernel
theorem dX9_canHang_65 : decode mX9_canHang.2.1 65 = .ok (.iastore, 1) := by decide +kernel
theorem dX9_canHang_66 : decode mX9_canHang.2.1 66 = .ok (.iconst 1, 1) := by decide +kernel
theorem dX9_canHang_67 : decode mX9_canHang.2.1 67 = .ok (.ireturn, 1) := by decide +kernel
theorem dX9_canHang_68 : decode mX9_canHang.2.1 68 = .ok (.iload 5, 2) := by decide +kernel
theorem dX9_canHang_70 : decode mX9_canHang.2.1 70 = .ok (.istore_n 3, 1) := by decide +kernel
theorem dX9_canHang_71 : decode mX9_canHang.2.1 71 = .ok (.iinc 4 1, 3) := by decide +kernel
theorem dX9_canHang_74 : decode mX9_canHang.2.1 74 = .ok (.goto (-68), 3) := by decide +kernel
theorem dX9_canHang_77 : decode mX9_canHang.2.1 77 = .ok (.iconst 0, 1) := by decide +kernel
theorem dX9_canHang_78 : decode mX9_canHang.2.1 78 = .ok (.ireturn, 1) := by decide +kernel
theorem okX9_canHang_39 : gOkV mX9_canHang mX3_size 39 1 := ⟨List.forall_mem_cons.mpr ⟨(gm 737 (by decide +kernel) rfl), List.forall_mem_cons.mpr ⟨(gm 824 (by decide +kernel) rfl), List.forall_mem_cons.mpr ⟨(gm 735 (by decide +kernel) rfl), List.forall_mem_cons.mpr ⟨(gm 736 (by decide +kernel) rfl), List.forall_mem_cons.mpr ⟨(gm 109 (by decide +kernel) rfl), fun _ h => absurd h List.not_mem_nil⟩⟩⟩⟩⟩, by decide +kernel, by decide +kernel, by decide +kernel⟩
theorem okX9_canHang_71 : gOkV mX9_canHang mX3_acrossBar 71 2 := ⟨List.forall_mem_cons.mpr ⟨(gm 696 (by decide +kernel) rfl), List.forall_mem_cons.mpr ⟨(gm 835 (by decide +kernel) rfl), List.forall_mem_cons.mpr ⟨(gm 694 (by decide +kernel) rfl), List.forall_mem_cons.mpr ⟨(gm 695 (by decide +kernel) rfl), List.forall_mem_cons.mpr ⟨(gm 109 (by decide +kernel) rfl), fun _ h => absurd h List.not_mem_nil⟩⟩⟩⟩⟩, by decide +kernel, by decide +kernel, by decide +kernel⟩
def fX9_canHang_71 (p1 : Nat) (p2 : Int32) (k6 : Int32 → Int32 → gS → Option (Int32 × gS)) (v3 : Int32) (v4 : Int32) (σ : gS) : Option (Int32 × gS) :=
  bnd (v4 + 1) fun x1 =>
  k6 v3 x1 σ
set_option maxHeartbeats 4000000 in
set_option maxRecDepth 100000 in
theorem pX9_canHang_71 {E : gE} {p1 : Nat} {p2 : Int32} {k6 : Int32 → Int32 → gS → Option (Int32 × gS)} {r : Int32} {σ' : gS} {v3 : Int32} {v4 : Int32} {σ : gS} (hp1 : gLk p1) (hk6 : ∀ (v3 : Int32) (v4 : Int32) (σ : gS), k6 v3 v4 σ = some (r, σ') → gG E mX9_canHang 6 [(0, .ref 124), (1, .ref p1), (2, .int p2), (3, .int v3), (4, .int v4)] [] σ (some (.int r)) σ') (h : fX9_canHang_71 p1 p2 k6 v3 v4 σ = some (r, σ')) : gG E mX9_canHang 71 [(0, .ref 124), (1, .ref p1), (2, .int p2), (3, .int v3), (4, .int v4)] [] σ (some (.int r)) σ' := by
  unfold fX9_canHang_71 at h
  obtain ⟨x1, ex1, h⟩ := bnd_nm h
  refine g_iinc (j := 4) (v := x1) (lv' := [(4, .int x1), (0, .ref 124), (1, .ref p1), (2, .int p2), (3, .int v3)]) dX9_canHang_71 rfl (by rw [ex1]; rfl) (Nat.le_of_ble_eq_true rfl) rfl ?_
  refine g_goto (t := 6) dX9_canHang_74 (by decide) ?_
  refine g_sub [1, 2, 3, 4, 0] rfl ?_
  exact hk6 v3 x1 σ h
def fX9_canHang_6 (p1 : Nat) (p2 : Int32) : Nat → Int32 → Int32 → gS → Option (Int32 × gS)
  | 0, _, _, _ => none
  | n + 1, v3, v4, σ => bd (fX3_size p1 1 σ) fun x1 σ2 =>
  if x1 ≤ v4 then
    some (0, σ2)
  else
    bd (fX3_acrossBar p1 v4 p2 σ2) fun x5 σ6 =>
    if x5 = (-1000000) then
      fX9_canHang_71 p1 p2 (fun v3 v4 σ => fX9_canHang_6 p1 p2 n v3 v4 σ) v3 v4 σ6
    else
      gg (¬ (x5 < 0 ∨ 24 ≤ x5.toNatClampNeg)) (
      if (σ6.1 126 x5.toNatClampNeg) = 0 then
        fX9_canHang_71 p1 p2 (fun v3 v4 σ => fX9_canHang_6 p1 p2 n v3 v4 σ) v3 v4 σ6
      else
        if v3 = (-1000000) then
          fX9_canHang_71 p1 p2 (fun v3 v4 σ => fX9_canHang_6 p1 p2 n v3 v4 σ) x5 v4 σ6
        else
          gg (¬ (p2 < 0 ∨ 24 ≤ p2.toNatClampNeg)) (
          bnd (gsI σ6 127 p2.toNatClampNeg v3) fun σ13 =>
          gg (¬ (p2 < 0 ∨ 24 ≤ p2.toNatClampNeg)) (
          bnd (gsI σ13 128 p2.toNatClampNeg x5) fun σ15 =>
          some (1, σ15))))
set_option maxHeartbeats 4000000 in
set_option maxRecDepth 100000 in
theorem pX9_canHang_6 {E : gE} {p1 : Nat} {p2 : Int32} {r : Int32} {σ' : gS} (hp1 : gLk p1) : ∀ (n : Nat) (v3 : Int32) (v4 : Int32) (σ : gS), fX9_canHang_6 p1 p2 n v3 v4 σ = some (r, σ') → gG E mX9_canHang 6 [(0, .ref 124), (1, .ref p1), (2, .int p2), (3, .int v3), (4, .int v4)] [] σ (some (.int r)) σ' := by
  intro n
  induction n with
  | zero => intro v3 v4 σ h; exact absurd (show none = some (r, σ') from h) (by intro q; cases q)
  | succ n ih =>
  intro v3 v4 σ h
  unfold fX9_canHang_6 at h
  refine g_iload dX9_canHang_6 4 rfl ?_
  refine g_aload_n dX9_canHang_8 rfl 1 rfl ?_
  refine g_iconst (v := 1) dX9_canHang_9 (by decide) ?_
  obtain ⟨x1, σ2, y3, h⟩ := bd_some h
  refine g_callVr (as := [.int 1]) (st := [.int v4]) (zX3_size hp1 y3) dX9_canHang_10 (gi_lk hp1) rfl okX9_canHang_39 (Nat.le_of_ble_eq_true rfl) ?_
  refine g_icmp_ge (t := 77) dX9_canHang_13 (by decide) (fun c4 => ?_) (fun c4 => ?_)
  · replace h := if_t h c4
    refine g_iconst (v := 0) dX9_canHang_77 (by decide) ?_
    obtain ⟨rfl, rfl⟩ := so_inj h
    exact g_zret dX9_canHang_78 rfl (Or.inl rfl)
  · replace h := if_f h c4
    refine g_aload_n dX9_canHang_16 rfl 1 rfl ?_
    refine g_iload dX9_canHang_17 4 rfl ?_
    refine g_iload_n dX9_canHang_19 rfl 2 rfl ?_
    obtain ⟨x5, σ6, y7, h⟩ := bd_some h
    refine g_callVr (as := [.int v4, .int p2]) (st := []) (zX3_acrossBar hp1 y7) dX9_canHang_20 (gi_lk hp1) rfl okX9_canHang_71 (Nat.le_of_ble_eq_true rfl) ?_
    refine g_istore (lv' := [(5, .int x5), (0, .ref 124), (1, .ref p1), (2, .int p2), (3, .int v3), (4, .int v4)]) dX9_canHang_23 (Nat.le_of_ble_eq_true rfl) rfl ?_
    refine g_iload dX9_canHang_25 0 rfl ?_
    refine g_ldc (v := (-1000000)) dX9_canHang_27 wc_RX9_52 ?_
    refine g_icmp_eq (t := 71) dX9_canHang_29 (by decide) (fun c8 => ?_) (fun c8 => ?_)
    · replace h := if_t h c8
      refine g_sub [1, 2, 3, 4, 5] rfl ?_
      exact pX9_canHang_71 hp1 (fun v3 v4 σ h => ih v3 v4 σ h) h
    · replace h := if_f h c8
      refine g_aload_n dX9_canHang_32 rfl 1 rfl ?_
      refine g_getC (n := 126) dX9_canHang_33 gi_124 rfl fl_RX9_15 ?_
      refine g_iload dX9_canHang_36 0 rfl ?_
      obtain ⟨g9, h⟩ := gg_some h
      refine g_zald dX9_canHang_38 gi_126 g9 ?_
      refine g_if_ne (t := 45) dX9_canHang_39 (by decide) (fun c10 => ?_) (fun c10 => ?_)
      · replace h := if_f h c10
        refine g_iload_n dX9_canHang_45 rfl 4 rfl ?_
        refine g_ldc (v := (-1000000)) dX9_canHang_46 wc_RX9_52 ?_
        refine g_icmp_eq (t := 68) dX9_canHang_48 (by decide) (fun c11 => ?_) (fun c11 => ?_)
        · replace h := if_t h c11
          refine g_iload dX9_canHang_68 0 rfl ?_
          refine g_istore_n (lv' := [(3, .int x5), (5, .int x5), (0, .ref 124), (1, .ref p1), (2, .int p2), (4, .int v4)]) dX9_canHang_70 rfl (Nat.le_of_ble_eq_true rfl) rfl ?_
          refine g_sub [2, 3, 4, 0, 5] rfl ?_
          exact pX9_canHang_71 hp1 (fun v3 v4 σ h => ih v3 v4 σ h) h
        · replace h := if_f h c11
          refine g_aload_n dX9_canHang_51 rfl 1 rfl ?_
          refine g_getC (n := 127) dX9_canHang_52 gi_124 rfl fl_RX9_19 ?_
          refine g_iload_n dX9_canHang_55 rfl 3 rfl ?_
          refine g_iload_n dX9_canHang_56 rfl 4 rfl ?_
          obtain ⟨g12, h⟩ := gg_some h
          obtain ⟨σ13, eσ13, h⟩ := bnd_nm h
          refine g_iast dX9_canHang_57 gi_127 g12 (g_st eσ13 ?_)
          refine g_aload_n dX9_canHang_58 rfl 1 rfl ?_
          refine g_getC (n := 128) dX9_canHang_59 gi_124 rfl fl_RX9_22 ?_
          refine g_iload_n dX9_canHang_62 rfl 3 rfl ?_
          refine g_iload dX9_canHang_63 0 rfl ?_
          obtain ⟨g14, h⟩ := gg_some h
          obtain ⟨σ15, eσ15, h⟩ := bnd_nm h
          refine g_iast dX9_canHang_65 gi_128 g14 (g_st eσ15 ?_)
          refine g_iconst (v := 1) dX9_canHang_66 (by decide) ?_
          obtain ⟨rfl, rfl⟩ := so_inj h
          exact g_zret dX9_canHang_67 rfl (Or.inr rfl)
      · replace h := if_t h c10
        refine g_goto (t := 71) dX9_canHang_42 (by decide) ?_
        refine g_sub [1, 2, 3, 4, 5] rfl ?_
        exact pX9_canHang_71 hp1 (fun v3 v4 σ h => ih v3 v4 σ h) h
def fX9_canHang (p1 : Nat) (p2 : Int32) (σ : gS) : Option (Int32 × gS) :=
  fX9_canHang_6 p1 p2 2000 (-1000000) 0 σ
set_option maxHeartbeats 4000000 in
set_option maxRecDepth 100000 in
theorem pX9_canHang {E : gE} {p1 : Nat} {p2 : Int32} {r : Int32} {σ' : gS} {σ : gS} (hp1 : gLk p1) (h : fX9_canHang p1 p2 σ = some (r, σ')) : gG E mX9_canHang 0 [(0, .ref 124), (1, .ref p1), (2, .int p2)] [] σ (some (.int r)) σ' := by
  unfold fX9_canHang at h
  refine g_ldc (v := (-1000000)) dX9_canHang_0 wc_RX9_52 ?_
  refine g_istore_n (lv' := [(3, .int (-1000000)), (0, .ref 124), (1, .ref p1), (2, .int p2)]) dX9_canHang_2 rfl (Nat.le_of_ble_eq_true rfl) rfl ?_
  refine g_iconst (v := 0) dX9_canHang_3 (by decide) ?_
  refine g_istore (lv' := [(4, .int 0), (3, .int (-1000000)), (0, .ref 124), (1, .ref p1), (2, .int p2)]) dX9_canHang_4 (Nat.le_of_ble_eq_true rfl) rfl ?_
  refine g_sub [2, 3, 4, 1, 0] rfl ?_
  exact pX9_canHang_6 hp1 2000 (-1000000) 0 σ h
theorem zX9_canHang {E : gE} {p1 : Nat} {p2 : Int32} {r : Int32} {σ σ' : gS} (hp1 : gLk p1) (h : fX9_canHang p1 p2 σ = some (r, σ')) : gC E mX9_canHang [.ref 124, .ref p1, .int p2] σ (some (.int r)) σ' :=
  gC_of (by decide +kernel) rfl (Nat.le_of_ble_eq_true rfl) (pX9_canHang hp1 h)
def mX9_nextToCome : gM := (yX9_nextToCome, cX9_nextToCome, RX9, 3, (some .int), 3, 71)
theorem dX9_nextToCome_0 : decode mX9_nextToCome.2.1 0 = .ok (.iconst 0, 1) := by decide +kernel
theorem dX9_nextToCome_1 : decode mX9_nextToCome.2.1 1 = .ok (.istore_n 2, 1) := by decide +kernel
theorem dX9_nextToCome_2 : decode mX9_nextToCome.2.1 2 = .ok (.iload_n 2, 1) := by decide +kernel
theorem dX9_nextToCome_3 : decode mX9_nextToCome.2.1 3 = .ok (.aload_n 1, 1) := by decide +kernel
theorem dX9_nextToCome_4 : decode mX9_nextToCome.2.1 4 = .ok (.iconst 0, 1) := by decide +kernel
theorem dX9_nextToCome_5 : decode mX9_nextToCome.2.1 5 = .ok (.invokevirtual 39, 3) := by decide +kernel
theorem dX9_nextToCome_8 : decode mX9_nextToCome.2.1 8 = .ok (.if_icmp .ge 29, 3) := by decide +kernel
theorem dX9_nextToCome_11 : decode mX9_nextToCome.2.1 11 = .ok (.aload_n 0, 1) := by decide +kernel
theorem dX9_nextToCome_12 : decode mX9_nextToCome.2.1 12 = .ok (.getfield 15, 3) := by decide +kernel
theorem dX9_nextToCome_15 : decode mX9_nextToCome.2.1 15 = .ok (.iload_n 2, 1) := by decide +kernel
theorem dX9_nextToCome_16 : decode mX9_nextToCome.2.1 16 = .ok (.baload, 1) := by decide +kernel
theorem dX9_nextToCome_17 : decode mX9_nextToCome.2.1 17 = .ok (.ifCond .ne 14, 3) := by decide +kernel
theorem dX9_nextToCome_20 : decode mX9_nextToCome.2.1 20 = .ok (.aload_n 0, 1) := by decide +kernel
theorem dX9_nextToCome_21 : decode mX9_nextToCome.2.1 21 = .ok (.aload_n 1, 1) := by decide +kernel
theorem dX9_nextToCome_22 : decode mX9_nextToCome.2.1 22 = .ok (.iload_n 2, 1) := by decide +kernel
theorem dX9_nextToCome_23 : decode mX9_nextToCome.2.1 23 = .ok (.invokevirtual 67, 3) := by decide +kernel
theorem dX9_nextToCome_26 : decode mX9_nextToCome.2.1 26 = .ok (.ifCond .eq 5, 3) := by decide +kernel
theorem dX9_nextToCome_29 : decode mX9_nextToCome.2.1 29 = .ok (.iload_n 2, 1) := by decide +kernel
theorem dX9_nextToCome_30 : decode mX9_nextToCome.2.1 30 = .ok (.ireturn, 1) := by decide +kernel
theorem dX9_nextToCome_31 : decode mX9_nextToCome.2.1 31 = .ok (.iinc 2 1, 3) := by decide +kernel
theorem dX9_nextToCome_34 : decode mX9_nextToCome.2.1 34 = .ok (.goto (-32), 3) := by decide +kernel
theorem dX9_nextToCome_37 : decode mX9_nextToCome.2.1 37 = .ok (.ldc 52, 2) := by decide +kernel
theorem dX9_nextToCome_39 : decode mX9_nextToCome.2.1 39 = .ok (.ireturn, 1) := by decide +kernel
theorem okX9_nextToCome_39 : gOkV mX9_nextToCome mX3_size 39 1 := ⟨List.forall_mem_cons.mpr ⟨(gm 737 (by decide +kernel) rfl), List.forall_mem_cons.mpr ⟨(gm 824 (by decide +kernel) rfl), List.forall_mem_cons.mpr ⟨(gm 735 (by decide +kernel) rfl), List.forall_mem_cons.mpr ⟨(gm 736 (by decide +kernel) rfl), List.forall_mem_cons.mpr ⟨(gm 109 (by decide +kernel) rfl), fun _ h => absurd h List.not_mem_nil⟩⟩⟩⟩⟩, by decide +kernel, by decide +kernel, by decide +kernel⟩
theorem okX9_nextToCome_67 : gOkV mX9_nextToCome mX9_canHang 67 2 := ⟨List.forall_mem_cons.mpr ⟨(gm 834 (by decide +kernel) rfl), List.forall_mem_cons.mpr ⟨(gm 831 (by decide +kernel) rfl), List.forall_mem_cons.mpr ⟨(gm 833 (by decide +kernel) rfl), List.forall_mem_cons.mpr ⟨(gm 36 (by decide +kernel) rfl), List.forall_mem_cons.mpr ⟨(gm 116 (by decide +kernel) rfl), fun _ h => absurd h List.not_mem_nil⟩⟩⟩⟩⟩, by decide +kernel, by decide +kernel, by decide +kernel⟩
def fX9_nextToCome_31 (p1 : Nat) (k2 : Int32 → gS → Option (Int32 × gS)) (v2 : Int32) (σ : gS) : Option (Int32 × gS) :=
  bnd (v2 + 1) fun x1 =>
  k2 x1 σ
set_option maxHeartbeats 4000000 in
set_option maxRecDepth 100000 in
theorem pX9_nextToCome_31 {E : gE} {p1 : Nat} {k2 : Int32 → gS → Option (Int32 × gS)} {r : Int32} {σ' : gS} {v2 : Int32} {σ : gS} (hp1 : gLk p1) (hk2 : ∀ (v2 : Int32) (σ : gS), k2 v2 σ = some (r, σ') → gG E mX9_nextToCome 2 [(0, .ref 124), (1, .ref p1), (2, .int v2)] [] σ (some (.int r)) σ') (h : fX9_nextToCome_31 p1 k2 v2 σ = some (r, σ')) : gG E mX9_nextToCome 31 [(0, .ref 124), (1, .ref p1), (2, .int v2)] [] σ (some (.int r)) σ' := by
  unfold fX9_nextToCome_31 at h
  obtain ⟨x1, ex1, h⟩ := bnd_nm h
  refine g_iinc (j := 2) (v := x1) (lv' := [(2, .int x1), (0, .ref 124), (1, .ref p1)]) dX9_nextToCome_31 rfl (by rw [ex1]; rfl) (Nat.le_of_ble_eq_true rfl) rfl ?_
  refine g_goto (t := 2) dX9_nextToCome_34 (by decide) ?_
  refine g_sub [1, 2, 0] rfl ?_
  exact hk2 x1 σ h
def fX9_nextToCome_2 (p1 : Nat) : Nat → Int32 → gS → Option (Int32 × gS)
  | 0, _, _ => none
  | n + 1, v2, σ => bd (fX3_size p1 0 σ) fun x1 σ2 =>
  if x1 ≤ v2 then
    some ((-1000000), σ2)
  else
    gg (¬ (v2 < 0 ∨ 24 ≤ v2.toNatClampNeg)) (
    if (σ2.1 126 v2.toNatClampNeg) = 0 then
      bd (fX9_canHang p1 v2 σ2) fun x7 σ8 =>
      if x7 = 0 then
        fX9_nextToCome_31 p1 (fun v2 σ => fX9_nextToCome_2 p1 n v2 σ) v2 σ8
      else
        some (v2, σ8)
    else
      fX9_nextToCome_31 p1 (fun v2 σ => fX9_nextToCome_2 p1 n v2 σ) v2 σ2)
set_option maxHeartbeats 4000000 in
set_option maxRecDepth 100000 in
theorem pX9_nextToCome_2 {E : gE} {p1 : Nat} {r : Int32} {σ' : gS} (hp1 : gLk p1) : ∀ (n : Nat) (v2 : Int32) (σ : gS), fX9_nextToCome_2 p1 n v2 σ = some (r, σ') → gG E mX9_nextToCome 2 [(0, .ref 124), (1, .ref p1), (2, .int v2)] [] σ (some (.int r)) σ' := by
  intro n
  induction n with
  | zero => intro v2 σ h; exact absurd (show none = some (r, σ') from h) (by intro q; cases q)
  | succ n ih =>
  intro v2 σ h
  unfold fX9_nextToCome_2 at h
  refine g_iload_n dX9_nextToCome_2 rfl 2 rfl ?_
  refine g_aload_n dX9_nextToCome_3 rfl 1 rfl ?_
  refine g_iconst (v := 0) dX9_nextToCome_4 (by decide) ?_
  obtain ⟨x1, σ2, y3, h⟩ := bd_some h
  refine g_callVr (as := [.int 0]) (st := [.int v2]) (zX3_size hp1 y3) dX9_nextToCome_5 (gi_lk hp1) rfl okX9_nextToCome_39 (Nat.le_of_ble_eq_true rfl) ?_
  refine g_icmp_ge (t := 37) dX9_nextToCome_8 (by decide) (fun c4 => ?_) (fun c4 => ?_)
  · replace h := if_t h c4
    refine g_ldc (v := (-1000000)) dX9_nextToCome_37 wc_RX9_52 ?_
    obtain ⟨rfl, rfl⟩ := so_inj h
    exact g_iret dX9_nextToCome_39 rfl
  · replace h := if_f h c4
    refine g_aload_n dX9_nextToCome_11 rfl 0 rfl ?_
    refine g_getC (n := 126) dX9_nextToCome_12 gi_124 rfl fl_RX9_15 ?_
    refine g_iload_n dX9_nextToCome_15 rfl 2 rfl ?_
    obtain ⟨g5, h⟩ := gg_some h
    refine g_zald dX9_nextToCome_16 gi_126 g5 ?_
    refine g_if_ne (t := 31) dX9_nextToCome_17 (by decide) (fun c6 => ?_) (fun c6 => ?_)
    · replace h := if_f h c6
      exact pX9_nextToCome_31 hp1 (fun v2 σ h => ih v2 σ h) h
    · replace h := if_t h c6
      refine g_aload_n dX9_nextToCome_20 rfl 0 rfl ?_
      refine g_aload_n dX9_nextToCome_21 rfl 1 rfl ?_
      refine g_iload_n dX9_nextToCome_22 rfl 2 rfl ?_
      obtain ⟨x7, σ8, y9, h⟩ := bd_some h
      refine g_callVr (as := [.ref p1, .int v2]) (st := []) (zX9_canHang hp1 y9) dX9_nextToCome_23 gi_124 rfl okX9_nextToCome_67 (Nat.le_of_ble_eq_true rfl) ?_
      refine g_if_eq (t := 31) dX9_nextToCome_26 (by decide) (fun c10 => ?_) (fun c10 => ?_)
      · replace h := if_t h c10
        exact pX9_nextToCome_31 hp1 (fun v2 σ h => ih v2 σ h) h
      · replace h := if_f h c10
        refine g_iload_n dX9_nextToCome_29 rfl 2 rfl ?_
        obtain ⟨rfl, rfl⟩ := so_inj h
        exact g_iret dX9_nextToCome_30 rfl
def fX9_nextToCome (p1 : Nat) (σ : gS) : Option (Int32 × gS) :=
  fX9_nextToCome_2 p1 2000 0 σ
set_option maxHeartbeats 4000000 in
set_option maxRecDepth 100000 in
theorem pX9_nextToCome {E : gE} {p1 : Nat} {r : Int32} {σ' : gS} {σ : gS} (hp1 : gLk p1) (h : fX9_nextToCome p1 σ = some (r, σ')) : gG E mX9_nextToCome 0 [(0, .ref 124), (1, .ref p1)] [] σ (some (.int r)) σ' := by
  unfold fX9_nextToCome at h
  refine g_iconst (v := 0) dX9_nextToCome_0 (by decide) ?_
  refine g_istore_n (lv' := [(2, .int 0), (0, .ref 124), (1, .ref p1)]) dX9_nextToCome_1 rfl (Nat.le_of_ble_eq_true rfl) rfl ?_
  refine g_sub [1, 2, 0] rfl ?_
  exact pX9_nextToCome_2 hp1 2000 0 σ h
theorem zX9_nextToCome {E : gE} {p1 : Nat} {r : Int32} {σ σ' : gS} (hp1 : gLk p1) (h : fX9_nextToCome p1 σ = some (r, σ')) : gC E mX9_nextToCome [.ref 124, .ref p1] σ (some (.int r)) σ' :=
  gC_of (by decide +kernel) rfl (Nat.le_of_ble_eq_true rfl) (pX9_nextToCome hp1 h)
def mX9_toldSide : gM := (yX9_toldSide, cX9_toldSide, RX9, 6, (some .int), 2, 43)
theorem dX9_toldSide_0 : decode mX9_toldSide.2.1 0 = .ok (.aload_n 0, 1) := by decide +kernel
theorem dX9_toldSide_1 : decode mX9_toldSide.2.1 1 = .ok (.getfield 19, 3) := by decide +kernel
theorem dX9_toldSide_4 : decode mX9_toldSide.2.1 4 = .ok (.iload_n 2, 1) := by decide +kernel
theorem dX9_toldSide_5 : decode mX9_toldSide.2.1 5 = .ok (.iaload, 1) := by decide +kernel
theorem dX9_toldSide_6 : decode mX9_toldSide.2.1 6 = .ok (.istore_n 3, 1) := by decide +kernel
theorem dX9_toldSide_7 : decode mX9_toldSide.2.1 7 = .ok (.aload_n 0, 1) := by decide +kernel
theorem dX9_toldSide_8 : decode mX9_toldSide.2.1 8 = .ok (.getfield 22, 3) := by decide +kernel
theorem dX9_toldSide_11 : decode mX9_toldSide.2.1 11 = .ok (.iload_n 2, 1) := by decide +kernel
theorem dX9_toldSide_12 : decode mX9_toldSide.2.1 12 = .ok (.iaload, 1) := by decide +kernel
theorem dX9_toldSide_13 : decode mX9_toldSide.2.1 13 = .ok (.istore 4, 2) := by decide +kernel
theorem dX9_toldSide_15 : decode mX9_toldSide.2.1 15 = .ok (.aload_n 1, 1) := by decide +kernel
theorem dX9_toldSide_16 : decode mX9_toldSide.2.1 16 = .ok (.iload 4, 2) := by decide +kernel
theorem dX9_toldSide_18 : decode mX9_toldSide.2.1 18 = .ok (.invokevirtual 74, 3) := by decide +kernel
theorem dX9_toldSide_21 : decode mX9_toldSide.2.1 21 = .ok (.aload_n 1, 1) := by decide +kernel
theorem dX9_toldSide_22 : decode mX9_toldSide.2.1 22 = .ok (.iload_n 3, 1) := by decide +kernel
theorem dX9_toldSide_23 : decode mX9_toldSide.2.1 23 = .ok (.invokevirtual 74, 3) := by decide +kernel
theorem dX9_toldSide_26 : decode mX9_toldSide.2.1 26 = .ok (.isub, 1) := by decide +kernel
theorem dX9_toldSide_27 : decode mX9_toldSide.2.1 27 = .ok (.aload_n 1, 1) := by decide +kernel
theorem dX9_toldSide_28 : decode mX9_toldSide.2.1 28 = .ok (.iload_n 2, 1) := by decide +kernel
theorem dX9_toldSide_29 : decode mX9_toldSide.2.1 29 = .ok (.invokevirtual 77, 3) := by decide +kernel
theorem dX9_toldSide_32 : decode mX9_toldSide.2.1 32 = .ok (.aload_n 1, 1) := by decide +kernel
theorem dX9_toldSide_33 : decode mX9_toldSide.2.1 33 = .ok (.iload_n 3, 1) := by decide +kernel
theorem dX9_toldSide_34 : decode mX9_toldSide.2.1 34 = .ok (.invokevirtual 77, 3) := by decide +kernel
theorem dX9_toldSide_37 : decode mX9_toldSide.2.1 37 = .ok (.isub, 1) := by decide +kernel
theorem dX9_toldSide_38 : decode mX9_toldSide.2.1 38 = .ok (.imul, 1) := by decide +kernel
theorem dX9_toldSide_39 : decode mX9_toldSide.2.1 39 = .ok (.aload_n 1, 1) := by decide +kernel
theorem dX9_toldSide_40 : decode mX9_toldSide.2.1 40 = .ok (.iload 4, 2) := by decide +kernel
theorem dX9_toldSide_42 : decode mX9_toldSide.2.1 42 = .ok (.invokevirtual 77, 3) := by decide +kernel
theorem dX9_toldSide_45 : decode mX9_toldSide.2.1 45 = .ok (.aload_n 1, 1) := by decide +kernel
theorem dX9_toldSide_46 : decode mX9_toldSide.2.1 46 = .ok (.iload_n 3, 1) := by decide +kernel
theorem dX9_toldSide_47 : decode mX9_toldSide.2.1 47 = .ok (.invokevirtual 77, 3) := by decide +kernel
theorem dX9_toldSide_50 : decode mX9_toldSide.2.1 50 = .ok (.isub, 1) := by decide +kernel
theorem dX9_toldSide_51 : decode mX9_toldSide.2.1 51 = .ok (.aload_n 1, 1) := by decide +kernel
theorem dX9_toldSide_52 : decode mX9_toldSide.2.1 52 = .ok (.iload_n 2, 1) := by decide +kernel
theorem dX9_toldSide_53 : decode mX9_toldSide.2.1 53 = .ok (.invokevirtual 74, 3) := by decide +kernel
theorem dX9_toldSide_56 : decode mX9_toldSide.2.1 56 = .ok (.aload_n 1, 1) := by decide +kernel
theorem dX9_toldSide_57 : decode mX9_toldSide.2.1 57 = .ok (.iload_n 3, 1) := by decide +kernel
theorem dX9_toldSide_58 : decode mX9_toldSide.2.1 58 = .ok (.invokevirtual 74, 3) := by decide +kernel
theorem dX9_toldSide_61 : decode mX9_toldSide.2.1 61 = .ok (.isub, 1) := by decide +kernel
theorem dX9_toldSide_62 : decode mX9_toldSide.2.1 62 = .ok (.imul, 1) := by decide +kernel
theorem dX9_toldSide_63 : decode mX9_toldSide.2.1 63 = .ok (.isub, 1) := by decide +kernel
theorem dX9_toldSide_64 : decode mX9_toldSide.2.1 64 = .ok (.istore 5, 2) := by decide +kernel
theorem dX9_toldSide_66 : decode mX9_toldSide.2.1 66 = .ok (.iload 5, 2) := by decide +kernel
theorem dX9_toldSide_68 : decode mX9_toldSide.2.1 68 = .ok (.ifCond .lt 7, 3) := by decide +kernel
theorem dX9_toldSide_71 : decode mX9_toldSide.2.1 71 = .ok (.iconst 1, 1) := by decide +kernel
theorem dX9_toldSide_72 : decode mX9_toldSide.2.1 72 = .ok (.goto 4, 3) := by decide +kernel
theorem dX9_toldSide_75 : decode mX9_toldSide.2.1 75 = .ok (.iconst (-1), 1) := by decide +kernel
theorem dX9_toldSide_76 : decode mX9_toldSide.2.1 76 = .ok (.ireturn, 1) := by decide +kernel
theorem okX9_toldSide_74 : gOkV mX9_toldSide mX3_x 74 1 := ⟨List.forall_mem_cons.mpr ⟨(gm 676 (by decide +kernel) rfl), List.forall_mem_cons.mpr ⟨(gm 840 (by decide +kernel) rfl), List.forall_mem_cons.mpr ⟨(gm 674 (by decide +kernel) rfl), List.forall_mem_cons.mpr ⟨(gm 675 (by decide +kernel) rfl), List.forall_mem_cons.mpr ⟨(gm 109 (by decide +kernel) rfl), fun _ h => absurd h List.not_mem_nil⟩⟩⟩⟩⟩, by decide +kernel, by decide +kernel, by decide +kernel⟩
theorem okX9_toldSide_77 : gOkV mX9_toldSide mX3_y 77 1 := ⟨List.forall_mem_cons.mpr ⟨(gm 684 (by decide +kernel) rfl), List.forall_mem_cons.mpr ⟨(gm 841 (by decide +kernel) rfl), List.forall_mem_cons.mpr ⟨(gm 682 (by decide +kernel) rfl), List.forall_mem_cons.mpr ⟨(gm 683 (by decide +kernel) rfl), List.forall_mem_cons.mpr ⟨(gm 109 (by decide +kernel) rfl), fun _ h => absurd h List.not_mem_nil⟩⟩⟩⟩⟩, by decide +kernel, by decide +kernel, by decide +kernel⟩
def fX9_toldSide_76 (p1 : Nat) (p2 : Int32) (s0 : Int32) (σ : gS) : Option (Int32 × gS) :=
  some (s0, σ)
set_option maxHeartbeats 4000000 in
set_option maxRecDepth 100000 in
theorem pX9_toldSide_76 {E : gE} {p1 : Nat} {p2 : Int32} {r : Int32} {σ' : gS} {s0 : Int32} {σ : gS} (hp1 : gLk p1) (h : fX9_toldSide_76 p1 p2 s0 σ = some (r, σ')) : gG E mX9_toldSide 76 [] [.int s0] σ (some (.int r)) σ' := by
  unfold fX9_toldSide_76 at h
  obtain ⟨rfl, rfl⟩ := so_inj h
  exact g_iret dX9_toldSide_76 rfl
def fX9_toldSide (p1 : Nat) (p2 : Int32) (σ : gS) : Option (Int32 × gS) :=
  gg (¬ (p2 < 0 ∨ 24 ≤ p2.toNatClampNeg)) (
  gg (¬ (p2 < 0 ∨ 24 ≤ p2.toNatClampNeg)) (
  bd (fX3_x p1 (σ.1 128 p2.toNatClampNeg) σ) fun x3 σ4 =>
  bd (fX3_x p1 (σ.1 127 p2.toNatClampNeg) σ4) fun x6 σ7 =>
  bd (fX3_y p1 p2 σ7) fun x9 σ10 =>
  bd (fX3_y p1 (σ.1 127 p2.toNatClampNeg) σ10) fun x12 σ13 =>
  bd (fX3_y p1 (σ.1 128 p2.toNatClampNeg) σ13) fun x15 σ16 =>
  bd (fX3_y p1 (σ.1 127 p2.toNatClampNeg) σ16) fun x18 σ19 =>
  bd (fX3_x p1 p2 σ19) fun x21 σ22 =>
  bd (fX3_x p1 (σ.1 127 p2.toNatClampNeg) σ22) fun x24 σ25 =>
  bnd (((x3 - x6) * (x9 - x12)) - ((x15 - x18) * (x21 - x24))) fun x27 =>
  if x27 < 0 then
    fX9_toldSide_76 p1 p2 (-1) σ25
  else
    fX9_toldSide_76 p1 p2 1 σ25))
set_option maxHeartbeats 4000000 in
set_option maxRecDepth 100000 in
theorem pX9_toldSide {E : gE} {p1 : Nat} {p2 : Int32} {r : Int32} {σ' : gS} {σ : gS} (hp1 : gLk p1) (h : fX9_toldSide p1 p2 σ = some (r, σ')) : gG E mX9_toldSide 0 [(0, .ref 124), (1, .ref p1), (2, .int p2)] [] σ (some (.int r)) σ' := by
  unfold fX9_toldSide at h
  refine g_aload_n dX9_toldSide_0 rfl 0 rfl ?_
  refine g_getC (n := 127) dX9_toldSide_1 gi_124 rfl fl_RX9_19 ?_
  refine g_iload_n dX9_toldSide_4 rfl 2 rfl ?_
  obtain ⟨g1, h⟩ := gg_some h
  refine g_iald dX9_toldSide_5 gi_127 g1 ?_
  refine g_istore_n (lv' := [(3, .int (σ.1 127 p2.toNatClampNeg)), (0, .ref 124), (1, .ref p1), (2, .int p2)]) dX9_toldSide_6 rfl (Nat.le_of_ble_eq_true rfl) rfl ?_
  refine g_aload_n dX9_toldSide_7 rfl 1 rfl ?_
  refine g_getC (n := 128) dX9_toldSide_8 gi_124 rfl fl_RX9_22 ?_
  refine g_iload_n dX9_toldSide_11 rfl 3 rfl ?_
  obtain ⟨g2, h⟩ := gg_some h
  refine g_iald dX9_toldSide_12 gi_128 g2 ?_
  refine g_istore (lv' := [(4, .int (σ.1 128 p2.toNatClampNeg)), (3, .int (σ.1 127 p2.toNatClampNeg)), (0, .ref 124), (1, .ref p1), (2, .int p2)]) dX9_toldSide_13 (Nat.le_of_ble_eq_true rfl) rfl ?_
  refine g_aload_n dX9_toldSide_15 rfl 3 rfl ?_
  refine g_iload dX9_toldSide_16 0 rfl ?_
  obtain ⟨x3, σ4, y5, h⟩ := bd_some h
  refine g_callVr (as := [.int (σ.1 128 p2.toNatClampNeg)]) (st := []) (zX3_x hp1 y5) dX9_toldSide_18 (gi_lk hp1) rfl okX9_toldSide_74 (Nat.le_of_ble_eq_true rfl) ?_
  refine g_aload_n dX9_toldSide_21 rfl 3 rfl ?_
  refine g_iload_n dX9_toldSide_22 rfl 1 rfl ?_
  obtain ⟨x6, σ7, y8, h⟩ := bd_some h
  refine g_callVr (as := [.int (σ.1 127 p2.toNatClampNeg)]) (st := [.int x3]) (zX3_x hp1 y8) dX9_toldSide_23 (gi_lk hp1) rfl okX9_toldSide_74 (Nat.le_of_ble_eq_true rfl) ?_
  refine g_isub dX9_toldSide_26 ?_
  refine g_aload_n dX9_toldSide_27 rfl 3 rfl ?_
  refine g_iload_n dX9_toldSide_28 rfl 4 rfl ?_
  obtain ⟨x9, σ10, y11, h⟩ := bd_some h
  refine g_callVr (as := [.int p2]) (st := [.int (x3 - x6)]) (zX3_y hp1 y11) dX9_toldSide_29 (gi_lk hp1) rfl okX9_toldSide_77 (Nat.le_of_ble_eq_true rfl) ?_
  refine g_aload_n dX9_toldSide_32 rfl 3 rfl ?_
  refine g_iload_n dX9_toldSide_33 rfl 1 rfl ?_
  obtain ⟨x12, σ13, y14, h⟩ := bd_some h
  refine g_callVr (as := [.int (σ.1 127 p2.toNatClampNeg)]) (st := [.int x9, .int (x3 - x6)]) (zX3_y hp1 y14) dX9_toldSide_34 (gi_lk hp1) rfl okX9_toldSide_77 (Nat.le_of_ble_eq_true rfl) ?_
  refine g_isub dX9_toldSide_37 ?_
  refine g_imul dX9_toldSide_38 ?_
  refine g_aload_n dX9_toldSide_39 rfl 3 rfl ?_
  refine g_iload dX9_toldSide_40 0 rfl ?_
  obtain ⟨x15, σ16, y17, h⟩ := bd_some h
  refine g_callVr (as := [.int (σ.1 128 p2.toNatClampNeg)]) (st := [.int ((x3 - x6) * (x9 - x12))]) (zX3_y hp1 y17) dX9_toldSide_42 (gi_lk hp1) rfl okX9_toldSide_77 (Nat.le_of_ble_eq_true rfl) ?_
  refine g_aload_n dX9_toldSide_45 rfl 3 rfl ?_
  refine g_iload_n dX9_toldSide_46 rfl 1 rfl ?_
  obtain ⟨x18, σ19, y20, h⟩ := bd_some h
  refine g_callVr (as := [.int (σ.1 127 p2.toNatClampNeg)]) (st := [.int x15, .int ((x3 - x6) * (x9 - x12))]) (zX3_y hp1 y20) dX9_toldSide_47 (gi_lk hp1) rfl okX9_toldSide_77 (Nat.le_of_ble_eq_true rfl) ?_
  refine g_isub dX9_toldSide_50 ?_
  refine g_aload_n dX9_toldSide_51 rfl 3 rfl ?_
  refine g_iload_n dX9_toldSide_52 rfl 4 rfl ?_
  obtain ⟨x21, σ22, y23, h⟩ := bd_some h
  refine g_callVr (as := [.int p2]) (st := [.int (x15 - x18), .int ((x3 - x6) * (x9 - x12))]) (zX3_x hp1 y23) dX9_toldSide_53 (gi_lk hp1) rfl okX9_toldSide_74 (Nat.le_of_ble_eq_true rfl) ?_
  refine g_aload_n dX9_toldSide_56 rfl 3 rfl ?_
  refine g_iload_n dX9_toldSide_57 rfl 1 rfl ?_
  obtain ⟨x24, σ25, y26, h⟩ := bd_some h
  refine g_callVr (as := [.int (σ.1 127 p2.toNatClampNeg)]) (st := [.int x21, .int (x15 - x18), .int ((x3 - x6) * (x9 - x12))]) (zX3_x hp1 y26) dX9_toldSide_58 (gi_lk hp1) rfl okX9_toldSide_74 (Nat.le_of_ble_eq_true rfl) ?_
  refine g_isub dX9_toldSide_61 ?_
  refine g_imul dX9_toldSide_62 ?_
  refine g_isub dX9_toldSide_63 ?_
  obtain ⟨x27, ex27, h⟩ := bnd_nm h
  refine g_topi ex27 ?_
  refine g_istore (lv' := [(5, .int x27), (4, .int (σ.1 128 p2.toNatClampNeg)), (3, .int (σ.1 127 p2.toNatClampNeg)), (0, .ref 124), (1, .ref p1), (2, .int p2)]) dX9_toldSide_64 (Nat.le_of_ble_eq_true rfl) rfl ?_
  refine g_iload dX9_toldSide_66 0 rfl ?_
  refine g_if_lt (t := 75) dX9_toldSide_68 (by decide) (fun c28 => ?_) (fun c28 => ?_)
  · replace h := if_t h c28
    refine g_iconst (v := (-1)) dX9_toldSide_75 (by decide) ?_
    refine g_sub [] rfl ?_
    exact pX9_toldSide_76 hp1 h
  · replace h := if_f h c28
    refine g_iconst (v := 1) dX9_toldSide_71 (by decide) ?_
    refine g_goto (t := 76) dX9_toldSide_72 (by decide) ?_
    refine g_sub [] rfl ?_
    exact pX9_toldSide_76 hp1 h
theorem zX9_toldSide {E : gE} {p1 : Nat} {p2 : Int32} {r : Int32} {σ σ' : gS} (hp1 : gLk p1) (h : fX9_toldSide p1 p2 σ = some (r, σ')) : gC E mX9_toldSide [.ref 124, .ref p1, .int p2] σ (some (.int r)) σ' :=
  gC_of (by decide +kernel) rfl (Nat.le_of_ble_eq_true rfl) (pX9_toldSide hp1 h)
theorem fp_RX9_35 : gFp RX9 35 9 1 .int := ⟨RX9, TX9, 8, rfl, by decide, ux_9, Or.inl (gm 365 (by decide +kernel) rfl), rfl, by decide +kernel, ⟨tyX9, tyX9_ok⟩, nmX9⟩
def mX9_work : gM := (yX9_work, cX9_work, RX9, 5, none, 4, 93)
theorem dX9_work_0 : decode mX9_work.2.1 0 = .ok (.aload_n 0, 1) := by decide +kernel
theorem dX9_work_1 : decode mX9_work.2.1 1 = .ok (.iconst 0, 1) := by decide +kernel
theorem dX9_work_2 : decode mX9_work.2.1 2 = .ok (.putfield 35, 3) := by decide +kernel
theorem dX9_work_5 : decode mX9_work.2.1 5 = .ok (.aload_n 1, 1) := by decide +kernel
theorem dX9_work_6 : decode mX9_work.2.1 6 = .ok (.iconst 0, 1) := by decide +kernel
theorem dX9_work_7 : decode mX9_work.2.1 7 = .ok (.invokevirtual 39, 3) := by decide +kernel
theorem dX9_work_10 : decode mX9_work.2.1 10 = .ok (.istore_n 2, 1) := by decide +kernel
theorem dX9_work_11 : decode mX9_work.2.1 11 = .ok (.iconst 0, 1) := by decide +kernel
theorem dX9_work_12 : decode mX9_work.2.1 12 = .ok (.istore_n 3, 1) := by decide +kernel
theorem dX9_work_13 : decode mX9_work.2.1 13 = .ok (.iload_n 3, 1) := by decide +kernel
theorem dX9_work_14 : decode mX9_work.2.1 14 = .ok (.iload_n 2, 1) := by decide +kernel
theorem dX9_work_15 : decode mX9_work.2.1 15 = .ok (.if_icmp .ge 52, 3) := by decide +kernel
theorem dX9_work_18 : decode mX9_work.2.1 18 = .ok (.aload_n 0, 1) := by decide +kernel
theorem dX9_work_19 : decode mX9_work.2.1 19 = .ok (.getfield 15, 3) := by decide +kernel
theorem dX9_work_22 : decode mX9_work.2.1 22 = .ok (.iload_n 3, 1) := by decide +kernel
theorem dX9_work_23 : decode mX9_work.2.1 23 = .ok (.aload_n 1, 1) := by decide +kernel
theorem dX9_work_24 : decode mX9_work.2.1 24 = .ok (.iload_n 3, 1) := by decide +kernel
theorem dX9_work_25 : decode mX9_work.2.1 25 = .ok (.invokevirtual 45, 3) := by decide +kernel
theorem dX9_work_28 : decode mX9_work.2.1 28 = .ok (.ifCond .ne 11, 3) := by decide +kernel
theorem dX9_work_31 : decode mX9_work.2.1 31 = .ok (.iload_n 3, 1) := by decide +kernel
theorem dX9_work_32 : decode mX9_work.2.1 32 = .ok (.aload_n 1, 1) := by decide +kernel
theorem dX9_work_33 : decode mX9_work.2.1 33 = .ok (.getfield 49, 3) := by decide +kernel
theorem dX9_work_36 : decode mX9_work.2.1 36 = .ok (.if_icmp .ne 7, 3) := by decide +kernel
theorem dX9_work_39 : decode mX9_work.2.1 39 = .ok (.iconst 1, 1) := by decide +kernel
theorem dX9_work_40 : decode mX9_work.2.1 40 = .ok (.goto 4, 3) := by decide +kernel
theorem dX9_work_43 : decode mX9_work.2.1 43 = .ok (.iconst 0, 1) := by decide +kernel
theorem dX9_work_44 : decode mX9_work.2.1 44 = .ok (.bastore, 1) := by decide +kernel
theorem dX9_work_45 : decode mX9_work.2.1 45 = .ok (.aload_n 0, 1) := by decide +kernel
theorem dX9_work_46 : decode mX9_work.2.1 46 = .ok (.getfield 19, 3) := by decide +kernel
theorem dX9_work_49 : decode mX9_work.2.1 49 = .ok (.iload_n 3, 1) := by decide +kernel
theorem dX9_work_50 : decode mX9_work.2.1 50 = .ok (.ldc 52, 2) := by decide +kernel
theorem dX9_work_52 : decode mX9_work.2.1 52 = .ok (.iastore, 1) := by decide +kernel
theorem dX9_work_53 : decode mX9_work.2.1 53 = .ok (.aload_n 0, 1) := by decide +kernel
theorem dX9_work_54 : decode mX9_work.2.1 54 = .ok (.getfield 22, 3) := by decide +kernel
theorem dX9_work_57 : decode mX9_work.2.1 57 = .ok (.iload_n 3, 1) := by decide +kernel
theorem dX9_work_58 : decode mX9_work.2.1 58 = .ok (.ldc 52, 2) := by decide +kernel
theorem dX9_work_60 : decode mX9_work.2.1 60 = .ok (.iastore, 1) := by decide +kernel
theorem dX9_work_61 : decode mX9_work.2.1 61 = .ok (.iinc 3 1, 3) := by decide +kernel
theorem dX9_work_64 : decode mX9_work.2.1 64 = .ok (.goto (-51), 3) := by decide +kernel
theorem dX9_work_67 : decode mX9_work.2.1 67 = .ok (.iconst 0, 1) := by decide +kernel
theorem dX9_work_68 : decode mX9_work.2.1 68 = .ok (.istore_n 3, 1) := by decide +kernel
theorem dX9_work_69 : decode mX9_work.2.1 69 = .ok (.iload_n 3, 1) := by decide +kernel
theorem dX9_work_70 : decode mX9_work.2.1 70 = .ok (.iload_n 2, 1) := by decide +kernel
theorem dX9_work_71 : decode mX9_work.2.1 71 = .ok (.if_icmp .ge 128, 3) := by decide +kernel
theorem dX9_work_74 : decode mX9_work.2.1 74 = .ok (.aload_n 1, 1) := by decide +kernel
theorem dX9_work_75 : decode mX9_work.2.1 75 = .ok (.getfield 49, 3) := by decide +kernel
theorem dX9_work_78 : decode mX9_work.2.1 78 = .ok (.ldc 52, 2) := by decide +kernel
theorem dX9_work_80 : decode mX9_work.2.1 80 = .ok (.if_icmp .eq 119, 3) := by decide +kernel
theorem dX9_work_83 : decode mX9_work.2.1 83 = .ok (.aload_n 0, 1) := by decide +kernel
theorem dX9_work_84 : decode mX9_work.2.1 84 = .ok (.aload_n 1, 1) := by decide +kernel
theorem dX9_work_85 : decode mX9_work.2.1 85 = .ok (.invokevirtual 53, 3) := by decide +kernel
theorem dX9_work_88 : decode mX9_work.2.1 88 = .ok (.istore 4, 2) := by decide +kernel
theorem dX9_work_90 : decode mX9_work.2.1 90 = .ok (.iload 4, 2) := by decide +kernel
theorem dX9_work_92 : decode mX9_work.2.1 92 = .ok (.ldc 52, 2) := by decide +kernel
theorem dX9_work_94 : decode mX9_work.2.1 94 = .ok (.if_icmp .ne 6, 3) := by decide +kernel
theorem dX9_work_97 : decode mX9_work.2.1 97 = .ok (.goto 102, 3) := by decide +kernel
theorem dX9_work_100 : decode mX9_work.2.1 100 = .ok (.aload_n 0, 1) := by decide +kernel
theorem dX9_work_101 : decode mX9_work.2.1 101 = .ok (.getfield 15, 3) := by decide +kernel
theorem dX9_work_104 : decode mX9_work.2.1 104 = .ok (.iload 4, 2) := by decide +kernel
theorem dX9_work_106 : decode mX9_work.2.1 106 = .ok (.iconst 1, 1) := by decide +kernel
theorem dX9_work_107 : decode mX9_work.2.1 107 = .ok (.bastore, 1) := by decide +kernel
theorem dX9_work_108 : decode mX9_work.2.1 108 = .ok (.aload_n 0, 1) := by decide +kernel
theorem dX9_work_109 : decode mX9_work.2.1 109 = .ok (.getfield 25, 3) := by decide +kernel
theorem dX9_work_112 : decode mX9_work.2.1 112 = .ok (.iload 4, 2) := by decide +kernel
theorem dX9_work_114 : decode mX9_work.2.1 114 = .ok (.aload_n 0, 1) := by decide +kernel
theorem dX9_work_115 : decode mX9_work.2.1 115 = .ok (.aload_n 1, 1) := by decide +kernel
theorem dX9_work_116 : decode mX9_work.2.1 116 = .ok (.iload 4, 2) := by decide +kernel
theorem dX9_work_118 : decode mX9_work.2.1 118 = .ok (.invokevirtual 57, 3) := by decide +kernel
theorem dX9_work_121 : decode mX9_work.2.1 121 = .ok (.iastore, 1) := by decide +kernel
theorem dX9_work_122 : decode mX9_work.2.1 122 = .ok (.aload_n 0, 1) := by decide +kernel
theorem dX9_work_123 : decode mX9_work.2.1 123 = .ok (.getfield 28, 3) := by decide +kernel
theorem dX9_work_126 : decode mX9_work.2.1 126 = .ok (.iload 4, 2) := by decide +kernel
theorem dX9_work_128 : decode mX9_work.2.1 128 = .ok (.ldc2_w 61, 3) := by decide +kernel
theorem dX9_work_131 : decode mX9_work.2.1 131 = .ok (.aload_n 1, 1) := by decide +kernel
theorem dX9_work_132 : decode mX9_work.2.1 132 = .ok (.iload 4, 2) := by decide +kernel
theorem dX9_work_134 : decode mX9_work.2.1 134 = .ok (.aload_n 0, 1) := by decide +kernel
theorem dX9_work_135 : decode mX9_work.2.1 135 = .ok (.getfield 19, 3) := by decide +kernel
theorem dX9_work_138 : decode mX9_work.2.1 138 = .ok (.iload 4, 2) := by decide +kernel
theorem dX9_work_140 : decode mX9_work.2.1 140 = .ok (.iaload, 1) := by decide +kernel
theorem dX9_work_141 : decode mX9_work.2.1 141 = .ok (.invokevirtual 63, 3) := by decide +kernel
theorem dX9_work_144 : decode mX9_work.2.1 144 = .ok (.i2l, 1) := by decide +kernel
theorem dX9_work_145 : decode mX9_work.2.1 145 = .ok (.lmul, 1) := by decide +kernel
theorem dX9_work_146 : decode mX9_work.2.1 146 = .ok (.lastore, 1) := by decide +kernel
theorem dX9_work_147 : decode mX9_work.2.1 147 = .ok (.aload_n 0, 1) := by decide +kernel
theorem dX9_work_148 : decode mX9_work.2.1 148 = .ok (.getfield 32, 3) := by decide +kernel
theorem dX9_work_151 : decode mX9_work.2.1 151 = .ok (.iload 4, 2) := by decide +kernel
theorem dX9_work_153 : decode mX9_work.2.1 153 = .ok (.ldc2_w 61, 3) := by decide +kernel
theorem dX9_work_156 : decode mX9_work.2.1 156 = .ok (.aload_n 1, 1) := by decide +kernel
theorem dX9_work_157 : decode mX9_work.2.1 157 = .ok (.iload 4, 2) := by decide +kernel
theorem dX9_work_159 : decode mX9_work.2.1 159 = .ok (.aload_n 0, 1) := by decide +kernel
theorem dX9_work_160 : decode mX9_work.2.1 160 = .ok (.getfield 22, 3) := by decide +kernel
theorem dX9_work_163 : decode mX9_work.2.1 163 = .ok (.iload 4, 2) := by decide +kernel
theorem dX9_work_165 : decode mX9_work.2.1 165 = .ok (.iaload, 1) := by decide +kernel
theorem dX9_work_166 : decode mX9_work.2.1 166 = .ok (.invokevirtual 63, 3) := by decide +kernel
theorem dX9_work_169 : decode mX9_work.2.1 169 = .ok (.i2l, 1) := by decide +kernel
theorem dX9_work_170 : decode mX9_work.2.1 170 = .ok (.lmul, 1) := by decide +kernel
theorem dX9_work_171 : decode mX9_work.2.1 171 = .ok (.lastore, 1) := by decide +kernel
theorem dX9_work_172 : decode mX9_work.2.1 172 = .ok (.aload_n 0, 1) := by decide +kernel
theorem dX9_work_173 : decode mX9_work.2.1 173 = .ok (.getfield 9, 3) := by decide +kernel
theorem dX9_work_176 : decode mX9_work.2.1 176 = .ok (.aload_n 0, 1) := by decide +kernel
theorem dX9_work_177 : decode mX9_work.2.1 177 = .ok (.getfield 35, 3) := by decide +kernel
theorem dX9_work_180 : decode mX9_work.2.1 180 = .ok (.iload 4, 2) := by decide +kernel
theorem dX9_work_182 : decode mX9_work.2.1 182 = .ok (.iastore, 1) := by decide +kernel
theorem dX9_work_183 : decode mX9_work.2.1 183 = .ok (.aload_n 0, 1) := by decide +kernel
theorem dX9_work_184 : decode mX9_work.2.1 184 = .ok (.dup, 1) := by decide +kernel
theorem dX9_work_185 : decode mX9_work.2.1 185 = .ok (.getfield 35, 3) := by decide +kernel
theorem dX9_work_188 : decode mX9_work.2.1 188 = .ok (.iconst 1, 1) := by decide +kernel
theorem dX9_work_189 : decode mX9_work.2.1 189 = .ok (.iadd, 1) := by decide +kernel
theorem dX9_work_190 : decode mX9_work.2.1 190 = .ok (.putfield 35, 3) := by decide +kernel
theorem dX9_work_193 : decode mX9_work.2.1 193 = .ok (.iinc 3 1, 3) := by decide +kernel
theorem dX9_work_196 : decode mX9_work.2.1 196 = .ok (.goto (-127), 3) := by decide +kernel
theorem dX9_work_199 : decode mX9_work.2.1 199 = .ok (.return_, 1) := by decide +kernel
theorem okX9_work_53 : gOkV mX9_work mX9_nextToCome 53 1 := ⟨List.forall_mem_cons.mpr ⟨(gm 830 (by decide +kernel) rfl), List.forall_mem_cons.mpr ⟨(gm 827 (by decide +kernel) rfl), List.forall_mem_cons.mpr ⟨(gm 829 (by decide +kernel) rfl), List.forall_mem_cons.mpr ⟨(gm 35 (by decide +kernel) rfl), List.forall_mem_cons.mpr ⟨(gm 116 (by decide +kernel) rfl), fun _ h => absurd h List.not_mem_nil⟩⟩⟩⟩⟩, by decide +kernel, by decide +kernel, by decide +kernel⟩
theorem okX9_work_57 : gOkV mX9_work mX9_toldSide 57 2 := ⟨List.forall_mem_cons.mpr ⟨(gm 839 (by decide +kernel) rfl), List.forall_mem_cons.mpr ⟨(gm 836 (by decide +kernel) rfl), List.forall_mem_cons.mpr ⟨(gm 838 (by decide +kernel) rfl), List.forall_mem_cons.mpr ⟨(gm 37 (by decide +kernel) rfl), List.forall_mem_cons.mpr ⟨(gm 116 (by decide +kernel) rfl), fun _ h => absurd h List.not_mem_nil⟩⟩⟩⟩⟩, by decide +kernel, by decide +kernel, by decide +kernel⟩
theorem okX9_work_63 : gOkV mX9_work mX3_squareApart 63 2 := ⟨List.forall_mem_cons.mpr ⟨(gm 672 (by decide +kernel) rfl), List.forall_mem_cons.mpr ⟨(gm 843 (by decide +kernel) rfl), List.forall_mem_cons.mpr ⟨(gm 670 (by decide +kernel) rfl), List.forall_mem_cons.mpr ⟨(gm 671 (by decide +kernel) rfl), List.forall_mem_cons.mpr ⟨(gm 109 (by decide +kernel) rfl), fun _ h => absurd h List.not_mem_nil⟩⟩⟩⟩⟩, by decide +kernel, by decide +kernel, by decide +kernel⟩
theorem okX9_work_45 : gOkV mX9_work mX3_isGround 45 1 := ⟨List.forall_mem_cons.mpr ⟨(gm 721 (by decide +kernel) rfl), List.forall_mem_cons.mpr ⟨(gm 825 (by decide +kernel) rfl), List.forall_mem_cons.mpr ⟨(gm 719 (by decide +kernel) rfl), List.forall_mem_cons.mpr ⟨(gm 720 (by decide +kernel) rfl), List.forall_mem_cons.mpr ⟨(gm 109 (by decide +kernel) rfl), fun _ h => absurd h List.not_mem_nil⟩⟩⟩⟩⟩, by decide +kernel, by decide +kernel, by decide +kernel⟩
theorem okX9_work_39 : gOkV mX9_work mX3_size 39 1 := ⟨List.forall_mem_cons.mpr ⟨(gm 737 (by decide +kernel) rfl), List.forall_mem_cons.mpr ⟨(gm 824 (by decide +kernel) rfl), List.forall_mem_cons.mpr ⟨(gm 735 (by decide +kernel) rfl), List.forall_mem_cons.mpr ⟨(gm 736 (by decide +kernel) rfl), List.forall_mem_cons.mpr ⟨(gm 109 (by decide +kernel) rfl), fun _ h => absurd h List.not_mem_nil⟩⟩⟩⟩⟩, by decide +kernel, by decide +kernel, by decide +kernel⟩
def fX9_work_44 (p1 : Nat) (k13 : Int32 → Int32 → gS → Option (Unit × gS)) (v2 : Int32) (v3 : Int32) (s1 : Int32) (s2 : Int32) (σ : gS) : Option (Unit × gS) :=
  gg (¬ (s1 < 0 ∨ 24 ≤ s1.toNatClampNeg)) (
  bnd (gsI σ 126 s1.toNatClampNeg (vp_nar .boolean s2)) fun σ2 =>
  gg (¬ (v3 < 0 ∨ 24 ≤ v3.toNatClampNeg)) (
  bnd (gsI σ2 127 v3.toNatClampNeg (-1000000)) fun σ4 =>
  gg (¬ (v3 < 0 ∨ 24 ≤ v3.toNatClampNeg)) (
  bnd (gsI σ4 128 v3.toNatClampNeg (-1000000)) fun σ6 =>
  bnd (v3 + 1) fun x7 =>
  k13 v2 x7 σ6)))
set_option maxHeartbeats 4000000 in
set_option maxRecDepth 100000 in
theorem pX9_work_44 {E : gE} {p1 : Nat} {k13 : Int32 → Int32 → gS → Option (Unit × gS)} {r : Unit} {σ' : gS} {v2 : Int32} {v3 : Int32} {s1 : Int32} {s2 : Int32} {σ : gS} (hp1 : gLk p1) (hk13 : ∀ (v2 : Int32) (v3 : Int32) (σ : gS), k13 v2 v3 σ = some (r, σ') → gG E mX9_work 13 [(0, .ref 124), (1, .ref p1), (2, .int v2), (3, .int v3)] [] σ (none) σ') (h : fX9_work_44 p1 k13 v2 v3 s1 s2 σ = some (r, σ')) : gG E mX9_work 44 [(0, .ref 124), (1, .ref p1), (2, .int v2), (3, .int v3)] [.int s2, .int s1, .ref 126] σ (none) σ' := by
  unfold fX9_work_44 at h
  obtain ⟨g1, h⟩ := gg_some h
  obtain ⟨σ2, eσ2, h⟩ := bnd_nm h
  refine g_zast dX9_work_44 gi_126 g1 (g_st eσ2 ?_)
  refine g_aload_n dX9_work_45 rfl 0 rfl ?_
  refine g_getC (n := 127) dX9_work_46 gi_124 rfl fl_RX9_19 ?_
  refine g_iload_n dX9_work_49 rfl 3 rfl ?_
  refine g_ldc (v := (-1000000)) dX9_work_50 wc_RX9_52 ?_
  obtain ⟨g3, h⟩ := gg_some h
  obtain ⟨σ4, eσ4, h⟩ := bnd_nm h
  refine g_iast dX9_work_52 gi_127 g3 (g_st eσ4 ?_)
  refine g_aload_n dX9_work_53 rfl 0 rfl ?_
  refine g_getC (n := 128) dX9_work_54 gi_124 rfl fl_RX9_22 ?_
  refine g_iload_n dX9_work_57 rfl 3 rfl ?_
  refine g_ldc (v := (-1000000)) dX9_work_58 wc_RX9_52 ?_
  obtain ⟨g5, h⟩ := gg_some h
  obtain ⟨σ6, eσ6, h⟩ := bnd_nm h
  refine g_iast dX9_work_60 gi_128 g5 (g_st eσ6 ?_)
  obtain ⟨x7, ex7, h⟩ := bnd_nm h
  refine g_iinc (j := 3) (v := x7) (lv' := [(3, .int x7), (0, .ref 124), (1, .ref p1), (2, .int v2)]) dX9_work_61 rfl (by rw [ex7]; rfl) (Nat.le_of_ble_eq_true rfl) rfl ?_
  refine g_goto (t := 13) dX9_work_64 (by decide) ?_
  refine g_sub [1, 2, 3, 0] rfl ?_
  exact hk13 v2 x7 σ6 h
def fX9_work_39 (p1 : Nat) (k13 : Int32 → Int32 → gS → Option (Unit × gS)) (v2 : Int32) (v3 : Int32) (s1 : Int32) (σ : gS) : Option (Unit × gS) :=
  fX9_work_44 p1 k13 v2 v3 s1 1 σ
set_option maxHeartbeats 4000000 in
set_option maxRecDepth 100000 in
theorem pX9_work_39 {E : gE} {p1 : Nat} {k13 : Int32 → Int32 → gS → Option (Unit × gS)} {r : Unit} {σ' : gS} {v2 : Int32} {v3 : Int32} {s1 : Int32} {σ : gS} (hp1 : gLk p1) (hk13 : ∀ (v2 : Int32) (v3 : Int32) (σ : gS), k13 v2 v3 σ = some (r, σ') → gG E mX9_work 13 [(0, .ref 124), (1, .ref p1), (2, .int v2), (3, .int v3)] [] σ (none) σ') (h : fX9_work_39 p1 k13 v2 v3 s1 σ = some (r, σ')) : gG E mX9_work 39 [(0, .ref 124), (1, .ref p1), (2, .int v2), (3, .int v3)] [.int s1, .ref 126] σ (none) σ' := by
  unfold fX9_work_39 at h
  refine g_iconst (v := 1) dX9_work_39 (by decide) ?_
  refine g_goto (t := 44) dX9_work_40 (by decide) ?_
  exact pX9_work_44 hp1 hk13 h
def fX9_work_199 (p1 : Nat) (σ : gS) : Option (Unit × gS) :=
  some ((), σ)
set_option maxHeartbeats 4000000 in
set_option maxRecDepth 100000 in
theorem pX9_work_199 {E : gE} {p1 : Nat} {r : Unit} {σ' : gS} {σ : gS} (hp1 : gLk p1) (h : fX9_work_199 p1 σ = some (r, σ')) : gG E mX9_work 199 [] [] σ (none) σ' := by
  unfold fX9_work_199 at h
  obtain ⟨rfl, rfl⟩ := so_inj h
  exact g_vret dX9_work_199 rfl
def fX9_work_69 (p1 : Nat) : Nat → Int32 → Int32 → gS → Option (Unit × gS)
  | 0, _, _, _ => none
  | n + 1, v2, v3, σ => if v2 ≤ v3 then
    fX9_work_199 p1 σ
  else
    if (σ.1 p1 8) = (-1000000) then
      fX9_work_199 p1 σ
    else
      bd (fX9_nextToCome p1 σ) fun x3 σ4 =>
      if x3 = (-1000000) then
        fX9_work_199 p1 σ4
      else
        gg (¬ (x3 < 0 ∨ 24 ≤ x3.toNatClampNeg)) (
        bnd (gsI σ4 126 x3.toNatClampNeg (vp_nar .boolean 1)) fun σ8 =>
        bd (fX9_toldSide p1 x3 σ8) fun x9 σ10 =>
        gg (¬ (x3 < 0 ∨ 24 ≤ x3.toNatClampNeg)) (
        bnd (gsI σ10 129 x3.toNatClampNeg x9) fun σ13 =>
        gg (¬ (x3 < 0 ∨ 24 ≤ x3.toNatClampNeg)) (
        bd (fX3_squareApart p1 x3 (σ13.1 127 x3.toNatClampNeg) σ13) fun x15 σ16 =>
        gg (¬ (x3 < 0 ∨ 24 ≤ x3.toNatClampNeg)) (
        bnd (gsJ σ16 130 x3.toNatClampNeg (1048576 * x15.toInt64)) fun σ19 =>
        gg (¬ (x3 < 0 ∨ 24 ≤ x3.toNatClampNeg)) (
        bd (fX3_squareApart p1 x3 (σ19.1 128 x3.toNatClampNeg) σ19) fun x21 σ22 =>
        gg (¬ (x3 < 0 ∨ 24 ≤ x3.toNatClampNeg)) (
        bnd (gsJ σ22 131 x3.toNatClampNeg (1048576 * x21.toInt64)) fun σ25 =>
        gg (¬ (σ25.1 124 1 < 0 ∨ 24 ≤ (σ25.1 124 1).toNatClampNeg)) (
        bnd (gsI σ25 125 ((σ25.1 124 1).toNatClampNeg) x3) fun σ27 =>
        bnd (gsI σ27 124 1 ((σ27.1 124 1) + 1)) fun σ28 =>
        bnd (v3 + 1) fun x29 =>
        fX9_work_69 p1 n v2 x29 σ28)))))))
set_option maxHeartbeats 4000000 in
set_option maxRecDepth 100000 in
theorem pX9_work_69 {E : gE} {p1 : Nat} {r : Unit} {σ' : gS} (hp1 : gLk p1) : ∀ (n : Nat) (v2 : Int32) (v3 : Int32) (σ : gS), fX9_work_69 p1 n v2 v3 σ = some (r, σ') → gG E mX9_work 69 [(0, .ref 124), (1, .ref p1), (2, .int v2), (3, .int v3)] [] σ (none) σ' := by
  intro n
  induction n with
  | zero => intro v2 v3 σ h; exact absurd (show none = some (r, σ') from h) (by intro q; cases q)
  | succ n ih =>
  intro v2 v3 σ h
  unfold fX9_work_69 at h
  refine g_iload_n dX9_work_69 rfl 3 rfl ?_
  refine g_iload_n dX9_work_70 rfl 2 rfl ?_
  refine g_icmp_ge (t := 199) dX9_work_71 (by decide) (fun c1 => ?_) (fun c1 => ?_)
  · replace h := if_t h c1
    refine g_sub [] rfl ?_
    exact pX9_work_199 hp1 h
  · replace h := if_f h c1
    refine g_aload_n dX9_work_74 rfl 1 rfl ?_
    refine g_getI dX9_work_75 (gi_lk hp1) rfl fl_RX9_49 ?_
    refine g_ldc (v := (-1000000)) dX9_work_78 wc_RX9_52 ?_
    refine g_icmp_eq (t := 199) dX9_work_80 (by decide) (fun c2 => ?_) (fun c2 => ?_)
    · replace h := if_t h c2
      refine g_sub [] rfl ?_
      exact pX9_work_199 hp1 h
    · replace h := if_f h c2
      refine g_aload_n dX9_work_83 rfl 0 rfl ?_
      refine g_aload_n dX9_work_84 rfl 1 rfl ?_
      obtain ⟨x3, σ4, y5, h⟩ := bd_some h
      refine g_callVr (as := [.ref p1]) (st := []) (zX9_nextToCome hp1 y5) dX9_work_85 gi_124 rfl okX9_work_53 (Nat.le_of_ble_eq_true rfl) ?_
      refine g_istore (lv' := [(4, .int x3), (0, .ref 124), (1, .ref p1), (2, .int v2), (3, .int v3)]) dX9_work_88 (Nat.le_of_ble_eq_true rfl) rfl ?_
      refine g_iload dX9_work_90 0 rfl ?_
      refine g_ldc (v := (-1000000)) dX9_work_92 wc_RX9_52 ?_
      refine g_icmp_ne (t := 100) dX9_work_94 (by decide) (fun c6 => ?_) (fun c6 => ?_)
      · replace h := if_f h c6
        refine g_aload_n dX9_work_100 rfl 1 rfl ?_
        refine g_getC (n := 126) dX9_work_101 gi_124 rfl fl_RX9_15 ?_
        refine g_iload dX9_work_104 0 rfl ?_
        refine g_iconst (v := 1) dX9_work_106 (by decide) ?_
        obtain ⟨g7, h⟩ := gg_some h
        obtain ⟨σ8, eσ8, h⟩ := bnd_nm h
        refine g_zast dX9_work_107 gi_126 g7 (g_st eσ8 ?_)
        refine g_aload_n dX9_work_108 rfl 1 rfl ?_
        refine g_getC (n := 129) dX9_work_109 gi_124 rfl fl_RX9_25 ?_
        refine g_iload dX9_work_112 0 rfl ?_
        refine g_aload_n dX9_work_114 rfl 1 rfl ?_
        refine g_aload_n dX9_work_115 rfl 2 rfl ?_
        refine g_iload dX9_work_116 0 rfl ?_
        obtain ⟨x9, σ10, y11, h⟩ := bd_some h
        refine g_callVr (as := [.ref p1, .int x3]) (st := [.int x3, .ref 129]) (zX9_toldSide hp1 y11) dX9_work_118 gi_124 rfl okX9_work_57 (Nat.le_of_ble_eq_true rfl) ?_
        obtain ⟨g12, h⟩ := gg_some h
        obtain ⟨σ13, eσ13, h⟩ := bnd_nm h
        refine g_iast dX9_work_121 gi_129 g12 (g_st eσ13 ?_)
        refine g_aload_n dX9_work_122 rfl 1 rfl ?_
        refine g_getC (n := 130) dX9_work_123 gi_124 rfl fl_RX9_28 ?_
        refine g_iload dX9_work_126 0 rfl ?_
        refine g_ldc2 (v := 1048576) dX9_work_128 wl_RX9_61 ?_
        refine g_aload_n dX9_work_131 rfl 2 rfl ?_
        refine g_iload dX9_work_132 0 rfl ?_
        refine g_aload_n dX9_work_134 rfl 1 rfl ?_
        refine g_getC (n := 127) dX9_work_135 gi_124 rfl fl_RX9_19 ?_
        refine g_iload dX9_work_138 0 rfl ?_
        obtain ⟨g14, h⟩ := gg_some h
        refine g_iald dX9_work_140 gi_127 g14 ?_
        obtain ⟨x15, σ16, y17, h⟩ := bd_some h
        refine g_callVr (as := [.int x3, .int (σ13.1 127 x3.toNatClampNeg)]) (st := [.long 1048576, .int x3, .ref 130]) (zX3_squareApart hp1 y17) dX9_work_141 (gi_lk hp1) rfl okX9_work_63 (Nat.le_of_ble_eq_true rfl) ?_
        refine g_i2l dX9_work_144 ?_
        refine g_lmul dX9_work_145 ?_
        obtain ⟨g18, h⟩ := gg_some h
        obtain ⟨σ19, eσ19, h⟩ := bnd_nm h
        refine g_last dX9_work_146 gi_130 g18 (g_st eσ19 ?_)
        refine g_aload_n dX9_work_147 rfl 1 rfl ?_
        refine g_getC (n := 131) dX9_work_148 gi_124 rfl fl_RX9_32 ?_
        refine g_iload dX9_work_151 0 rfl ?_
        refine g_ldc2 (v := 1048576) dX9_work_153 wl_RX9_61 ?_
        refine g_aload_n dX9_work_156 rfl 2 rfl ?_
        refine g_iload dX9_work_157 0 rfl ?_
        refine g_aload_n dX9_work_159 rfl 1 rfl ?_
        refine g_getC (n := 128) dX9_work_160 gi_124 rfl fl_RX9_22 ?_
        refine g_iload dX9_work_163 0 rfl ?_
        obtain ⟨g20, h⟩ := gg_some h
        refine g_iald dX9_work_165 gi_128 g20 ?_
        obtain ⟨x21, σ22, y23, h⟩ := bd_some h
        refine g_callVr (as := [.int x3, .int (σ19.1 128 x3.toNatClampNeg)]) (st := [.long 1048576, .int x3, .ref 131]) (zX3_squareApart hp1 y23) dX9_work_166 (gi_lk hp1) rfl okX9_work_63 (Nat.le_of_ble_eq_true rfl) ?_
        refine g_i2l dX9_work_169 ?_
        refine g_lmul dX9_work_170 ?_
        obtain ⟨g24, h⟩ := gg_some h
        obtain ⟨σ25, eσ25, h⟩ := bnd_nm h
        refine g_last dX9_work_171 gi_131 g24 (g_st eσ25 ?_)
        refine g_aload_n dX9_work_172 rfl 1 rfl ?_
        refine g_getC (n := 125) dX9_work_173 gi_124 rfl fl_RX9_9 ?_
        refine g_aload_n dX9_work_176 rfl 1 rfl ?_
        refine g_getI dX9_work_177 gi_124 rfl fl_RX9_35 ?_
        refine g_iload dX9_work_180 0 rfl ?_
        obtain ⟨g26, h⟩ := gg_some h
        obtain ⟨σ27, eσ27, h⟩ := bnd_nm h
        refine g_iast dX9_work_182 gi_125 g26 (g_st eσ27 ?_)
        refine g_aload_n dX9_work_183 rfl 1 rfl ?_
        refine g_dup dX9_work_184 rfl ?_
        refine g_getI dX9_work_185 gi_124 rfl fl_RX9_35 ?_
        refine g_iconst (v := 1) dX9_work_188 (by decide) ?_
        refine g_iadd dX9_work_189 ?_
        obtain ⟨σ28, eσ28, h⟩ := bnd_nm h
        refine g_putI dX9_work_190 gi_124 rfl fp_RX9_35 (g_st eσ28 ?_)
        obtain ⟨x29, ex29, h⟩ := bnd_nm h
        refine g_iinc (j := 4) (v := x29) (lv' := [(3, .int x29), (4, .int x3), (0, .ref 124), (1, .ref p1), (2, .int v2)]) dX9_work_193 rfl (by rw [ex29]; rfl) (Nat.le_of_ble_eq_true rfl) rfl ?_
        refine g_goto (t := 69) dX9_work_196 (by decide) ?_
        refine g_sub [2, 3, 4, 0] rfl ?_
        exact ih v2 x29 σ28 h
      · replace h := if_t h c6
        refine g_goto (t := 199) dX9_work_97 (by decide) ?_
        refine g_sub [] rfl ?_
        exact pX9_work_199 hp1 h
def fX9_work_13 (p1 : Nat) : Nat → Int32 → Int32 → gS → Option (Unit × gS)
  | 0, _, _, _ => none
  | n + 1, v2, v3, σ => if v2 ≤ v3 then
    fX9_work_69 p1 2000 v2 0 σ
  else
    bd (fX3_isGround p1 v3 σ) fun x2 σ3 =>
    if x2 = 0 then
      if v3 = (σ3.1 p1 8) then
        fX9_work_39 p1 (fun v2 v3 σ => fX9_work_13 p1 n v2 v3 σ) v2 v3 v3 σ3
      else
        fX9_work_44 p1 (fun v2 v3 σ => fX9_work_13 p1 n v2 v3 σ) v2 v3 v3 0 σ3
    else
      fX9_work_39 p1 (fun v2 v3 σ => fX9_work_13 p1 n v2 v3 σ) v2 v3 v3 σ3
set_option maxHeartbeats 4000000 in
set_option maxRecDepth 100000 in
theorem pX9_work_13 {E : gE} {p1 : Nat} {r : Unit} {σ' : gS} (hp1 : gLk p1) : ∀ (n : Nat) (v2 : Int32) (v3 : Int32) (σ : gS), fX9_work_13 p1 n v2 v3 σ = some (r, σ') → gG E mX9_work 13 [(0, .ref 124), (1, .ref p1), (2, .int v2), (3, .int v3)] [] σ (none) σ' := by
  intro n
  induction n with
  | zero => intro v2 v3 σ h; exact absurd (show none = some (r, σ') from h) (by intro q; cases q)
  | succ n ih =>
  intro v2 v3 σ h
  unfold fX9_work_13 at h
  refine g_iload_n dX9_work_13 rfl 3 rfl ?_
  refine g_iload_n dX9_work_14 rfl 2 rfl ?_
  refine g_icmp_ge (t := 67) dX9_work_15 (by decide) (fun c1 => ?_) (fun c1 => ?_)
  · replace h := if_t h c1
    refine g_iconst (v := 0) dX9_work_67 (by decide) ?_
    refine g_istore_n (lv' := [(3, .int 0), (0, .ref 124), (1, .ref p1), (2, .int v2)]) dX9_work_68 rfl (Nat.le_of_ble_eq_true rfl) rfl ?_
    refine g_sub [1, 2, 3, 0] rfl ?_
    exact pX9_work_69 hp1 2000 v2 0 σ h
  · replace h := if_f h c1
    refine g_aload_n dX9_work_18 rfl 0 rfl ?_
    refine g_getC (n := 126) dX9_work_19 gi_124 rfl fl_RX9_15 ?_
    refine g_iload_n dX9_work_22 rfl 3 rfl ?_
    refine g_aload_n dX9_work_23 rfl 1 rfl ?_
    refine g_iload_n dX9_work_24 rfl 3 rfl ?_
    obtain ⟨x2, σ3, y4, h⟩ := bd_some h
    refine g_callVr (as := [.int v3]) (st := [.int v3, .ref 126]) (zX3_isGround hp1 y4) dX9_work_25 (gi_lk hp1) rfl okX9_work_45 (Nat.le_of_ble_eq_true rfl) ?_
    refine g_if_ne (t := 39) dX9_work_28 (by decide) (fun c5 => ?_) (fun c5 => ?_)
    · replace h := if_f h c5
      exact pX9_work_39 hp1 (fun v2 v3 σ h => ih v2 v3 σ h) h
    · replace h := if_t h c5
      refine g_iload_n dX9_work_31 rfl 3 rfl ?_
      refine g_aload_n dX9_work_32 rfl 1 rfl ?_
      refine g_getI dX9_work_33 (gi_lk hp1) rfl fl_RX9_49 ?_
      refine g_icmp_ne (t := 43) dX9_work_36 (by decide) (fun c6 => ?_) (fun c6 => ?_)
      · replace h := if_f h c6
        refine g_iconst (v := 0) dX9_work_43 (by decide) ?_
        exact pX9_work_44 hp1 (fun v2 v3 σ h => ih v2 v3 σ h) h
      · replace h := if_t h c6
        exact pX9_work_39 hp1 (fun v2 v3 σ h => ih v2 v3 σ h) h
def fX9_work (p1 : Nat) (σ : gS) : Option (Unit × gS) :=
  bnd (gsI σ 124 1 0) fun σ1 =>
  bd (fX3_size p1 0 σ1) fun x2 σ3 =>
  fX9_work_13 p1 2000 x2 0 σ3
set_option maxHeartbeats 4000000 in
set_option maxRecDepth 100000 in
theorem pX9_work {E : gE} {p1 : Nat} {r : Unit} {σ' : gS} {σ : gS} (hp1 : gLk p1) (h : fX9_work p1 σ = some (r, σ')) : gG E mX9_work 0 [(0, .ref 124), (1, .ref p1)] [] σ (none) σ' := by
  unfold fX9_work at h
  refine g_aload_n dX9_work_0 rfl 0 rfl ?_
  refine g_iconst (v := 0) dX9_work_1 (by decide) ?_
  obtain ⟨σ1, eσ1, h⟩ := bnd_nm h
  refine g_putI dX9_work_2 gi_124 rfl fp_RX9_35 (g_st eσ1 ?_)
  refine g_aload_n dX9_work_5 rfl 1 rfl ?_
  refine g_iconst (v := 0) dX9_work_6 (by decide) ?_
  obtain ⟨x2, σ3, y4, h⟩ := bd_some h
  refine g_callVr (as := [.int 0]) (st := []) (zX3_size hp1 y4) dX9_work_7 (gi_lk hp1) rfl okX9_work_39 (Nat.le_of_ble_eq_true rfl) ?_
  refine g_istore_n (lv' := [(2, .int x2), (0, .ref 124), (1, .ref p1)]) dX9_work_10 rfl (Nat.le_of_ble_eq_true rfl) rfl ?_
  refine g_iconst (v := 0) dX9_work_11 (by decide) ?_
  refine g_istore_n (lv' := [(3, .int 0), (2, .int x2), (0, .ref 124), (1, .ref p1)]) dX9_work_12 rfl (Nat.le_of_ble_eq_true rfl) rfl ?_
  refine g_sub [2, 3, 1, 0] rfl ?_
  exact pX9_work_13 hp1 2000 x2 0 σ3 h
theorem zX9_work {E : gE} {p1 : Nat} {r : Unit} {σ σ' : gS} (hp1 : gLk p1) (h : fX9_work p1 σ = some (r, σ')) : gC E mX9_work [.ref 124, .ref p1] σ (none) σ' :=
  gC_of (by decide +kernel) rfl (Nat.le_of_ble_eq_true rfl) (pX9_work hp1 h)
theorem wc_RX10_79 : Cond.constant RX10 79 (-1000001) ∈ gWS := (gm 567 (by decide +kernel) rfl)
theorem fl_RX10_10 : gFl RX10 10 10 0 := ⟨RX10, TX10, 12, rfl, by decide, ux_10, Or.inl (gm 526 (by decide +kernel) rfl)⟩
def mX10_feed : gM := (yX10_feed, cX10_feed, RX10, 4, (some .int), 1, 24)
theorem dX10_feed_0 : decode mX10_feed.2.1 0 = .ok (.iload_n 1, 1) := by decide +kernel
theorem dX10_feed_1 : decode mX10_feed.2.1 1 = .ok (.iconst 1, 1) := by decide +kernel
theorem dX10_feed_2 : decode mX10_feed.2.1 2 = .ok (.if_icmp .lt 9, 3) := by decide +kernel
theorem dX10_feed_5 : decode mX10_feed.2.1 5 = .ok (.iload_n 1, 1) := by decide +kernel
theorem dX10_feed_6 : decode mX10_feed.2.1 6 = .ok (.bipush 8, 2) := by decide +kernel
theorem dX10_feed_8 : decode mX10_feed.2.1 8 = .ok (.if_icmp .le 6, 3) := by decide +kernel
theorem dX10_feed_11 : decode mX10_feed.2.1 11 = .ok (.ldc 79, 2) := by decide +kernel
theorem dX10_feed_13 : decode mX10_feed.2.1 13 = .ok (.ireturn, 1) := by decide +kernel
theorem dX10_feed_14 : decode mX10_feed.2.1 14 = .ok (.aload_n 0, 1) := by decide +kernel
theorem dX10_feed_15 : decode mX10_feed.2.1 15 = .ok (.getfield 10, 3) := by decide +kernel
theorem dX10_feed_18 : decode mX10_feed.2.1 18 = .ok (.iload_n 1, 1) := by decide +kernel
theorem dX10_feed_19 : decode mX10_feed.2.1 19 = .ok (.lload_n 2, 1) := by decide +kernel
theorem dX10_feed_20 : decode mX10_feed.2.1 20 = .ok (.invokevirtual 80, 3) := by decide +kernel
theorem dX10_feed_23 : decode mX10_feed.2.1 23 = .ok (.ireturn, 1) := by decide +kernel
theorem okX10_feed_80 : gOkV mX10_feed mX6_append 80 2 := ⟨List.forall_mem_cons.mpr ⟨(gm 571 (by decide +kernel) rfl), List.forall_mem_cons.mpr ⟨(gm 568 (by decide +kernel) rfl), List.forall_mem_cons.mpr ⟨(gm 569 (by decide +kernel) rfl), List.forall_mem_cons.mpr ⟨(gm 570 (by decide +kernel) rfl), List.forall_mem_cons.mpr ⟨(gm 108 (by decide +kernel) rfl), fun _ h => absurd h List.not_mem_nil⟩⟩⟩⟩⟩, by decide +kernel, by decide +kernel, by decide +kernel⟩
def fX10_feed_11 (p1 : Int32) (p2 : Int64) (σ : gS) : Option (Int32 × gS) :=
  some ((-1000001), σ)
set_option maxHeartbeats 4000000 in
set_option maxRecDepth 100000 in
theorem pX10_feed_11 {E : gE} {p1 : Int32} {p2 : Int64} {r : Int32} {σ' : gS} {σ : gS} (h : fX10_feed_11 p1 p2 σ = some (r, σ')) : gG E mX10_feed 11 [] [] σ (some (.int r)) σ' := by
  unfold fX10_feed_11 at h
  refine g_ldc (v := (-1000001)) dX10_feed_11 wc_RX10_79 ?_
  obtain ⟨rfl, rfl⟩ := so_inj h
  exact g_iret dX10_feed_13 rfl
def fX10_feed (p1 : Int32) (p2 : Int64) (σ : gS) : Option (Int32 × gS) :=
  if p1 < 1 then
    fX10_feed_11 p1 p2 σ
  else
    if p1 ≤ 8 then
      bd (fX6_append p1 p2 σ) fun x3 σ4 =>
      some (x3, σ4)
    else
      fX10_feed_11 p1 p2 σ
set_option maxHeartbeats 4000000 in
set_option maxRecDepth 100000 in
theorem pX10_feed {E : gE} {p1 : Int32} {p2 : Int64} {r : Int32} {σ' : gS} {σ : gS} (h : fX10_feed p1 p2 σ = some (r, σ')) : gG E mX10_feed 0 [(0, .ref 0), (1, .int p1), (2, .long p2)] [] σ (some (.int r)) σ' := by
  unfold fX10_feed at h
  refine g_iload_n dX10_feed_0 rfl 1 rfl ?_
  refine g_iconst (v := 1) dX10_feed_1 (by decide) ?_
  refine g_icmp_lt (t := 11) dX10_feed_2 (by decide) (fun c1 => ?_) (fun c1 => ?_)
  · replace h := if_t h c1
    refine g_sub [] rfl ?_
    exact pX10_feed_11 h
  · replace h := if_f h c1
    refine g_iload_n dX10_feed_5 rfl 1 rfl ?_
    refine g_bipush (v := 8) dX10_feed_6 (by decide) ?_
    refine g_icmp_le (t := 14) dX10_feed_8 (by decide) (fun c2 => ?_) (fun c2 => ?_)
    · replace h := if_t h c2
      refine g_aload_n dX10_feed_14 rfl 0 rfl ?_
      refine g_getC (n := 1) dX10_feed_15 gi_0 rfl fl_RX10_10 ?_
      refine g_iload_n dX10_feed_18 rfl 1 rfl ?_
      refine g_lload_n dX10_feed_19 rfl 2 rfl ?_
      obtain ⟨x3, σ4, y5, h⟩ := bd_some h
      refine g_callVr (as := [.int p1, .long p2]) (st := []) (zX6_append y5) dX10_feed_20 gi_1 rfl okX10_feed_80 (Nat.le_of_ble_eq_true rfl) ?_
      obtain ⟨rfl, rfl⟩ := so_inj h
      exact g_iret dX10_feed_23 rfl
    · replace h := if_f h c2
      refine g_sub [] rfl ?_
      exact pX10_feed_11 h
theorem zX10_feed {E : gE} {p1 : Int32} {p2 : Int64} {r : Int32} {σ σ' : gS} (h : fX10_feed p1 p2 σ = some (r, σ')) : gC E mX10_feed [.ref 0, .int p1, .long p2] σ (some (.int r)) σ' :=
  gC_of (by decide +kernel) rfl (Nat.le_of_ble_eq_true rfl) (pX10_feed h)
theorem fl_RX10_19 : gFl RX10 19 10 1 := ⟨RX10, TX10, 12, rfl, by decide, ux_10, Or.inl (gm 527 (by decide +kernel) rfl)⟩
theorem fp_RX10_19 : gFp RX10 19 10 1 (.object "LinkageCurves$Linkage") := ⟨RX10, TX10, 12, rfl, by decide, ux_10, Or.inl (gm 527 (by decide +kernel) rfl), rfl, by decide +kernel, ⟨tyX10, tyX10_ok⟩, nmX10⟩
theorem fl_RX10_26 : gFl RX10 26 10 2 := ⟨RX10, TX10, 12, rfl, by decide, ux_10, Or.inl (gm 528 (by decide +kernel) rfl)⟩
theorem fl_RX10_33 : gFl RX10 33 10 3 := ⟨RX10, TX10, 12, rfl, by decide, ux_10, Or.inl (gm 529 (by decide +kernel) rfl)⟩
theorem fl_RX10_40 : gFl RX10 40 10 4 := ⟨RX10, TX10, 12, rfl, by decide, ux_10, Or.inl (gm 530 (by decide +kernel) rfl)⟩
theorem fp_RX10_98 : gFp RX10 98 10 6 .boolean := ⟨RX10, TX10, 12, rfl, by decide, ux_10, Or.inl (gm 532 (by decide +kernel) rfl), rfl, by decide +kernel, ⟨tyX10, tyX10_ok⟩, nmX10⟩
theorem fl_RX10_54 : gFl RX10 54 10 7 := ⟨RX10, TX10, 12, rfl, by decide, ux_10, Or.inl (gm 533 (by decide +kernel) rfl)⟩
theorem fp_RX10_102 : gFp RX10 102 2 0 .boolean := ⟨RX2, TX2, 6, rfl, by decide, ux_2, Or.inr ⟨"LinkageCurves", by decide +kernel⟩, rfl, by decide +kernel, ⟨tyX2, tyX2_ok⟩, nmX2⟩
theorem fl_RX10_105 : gFl RX10 105 3 7 := ⟨RX3, TX3, 10, rfl, by decide, ux_3, Or.inr ⟨"LinkageCurves", by decide +kernel⟩⟩
def mX10_read : gM := (yX10_read, cX10_read, RX10, 2, (some .int), 7, 158)
theorem dX10_read_0 : decode mX10_read.2.1 0 = .ok (.aload_n 0, 1) := by decide +kernel
theorem dX10_read_1 : decode mX10_read.2.1 1 = .ok (.getfield 10, 3) := by decide +kernel
theorem dX10_read_4 : decode mX10_read.2.1 4 = .ok (.invokevirtual 84, 3) := by decide +kernel
theorem dX10_read_7 : decode mX10_read.2.1 7 = .ok (.istore_n 1, 1) := by decide +kernel
theorem dX10_read_8 : decode mX10_read.2.1 8 = .ok (.iload_n 1, 1) := by decide +kernel
theorem dX10_read_9 : decode mX10_read.2.1 9 = .ok (.ifCond .eq 8, 3) := by decide +kernel
theorem dX10_read_12 : decode mX10_read.2.1 12 = .ok (.bipush (-10), 2) := by decide +kernel
theorem dX10_read_14 : decode mX10_read.2.1 14 = .ok (.iload_n 1, 1) := by decide +kernel
theorem dX10_read_15 : decode mX10_read.2.1 15 = .ok (.isub, 1) := by decide +kernel
theorem dX10_read_16 : decode mX10_read.2.1 16 = .ok (.ireturn, 1) := by decide +kernel
theorem dX10_read_17 : decode mX10_read.2.1 17 = .ok (.aload_n 0, 1) := by decide +kernel
theorem dX10_read_18 : decode mX10_read.2.1 18 = .ok (.aload_n 0, 1) := by decide +kernel
theorem dX10_read_19 : decode mX10_read.2.1 19 = .ok (.getfield 10, 3) := by decide +kernel
theorem dX10_read_22 : decode mX10_read.2.1 22 = .ok (.aload_n 0, 1) := by decide +kernel
theorem dX10_read_23 : decode mX10_read.2.1 23 = .ok (.getfield 19, 3) := by decide +kernel
theorem dX10_read_26 : decode mX10_read.2.1 26 = .ok (.invokevirtual 88, 3) := by decide +kernel
theorem dX10_read_29 : decode mX10_read.2.1 29 = .ok (.putfield 19, 3) := by decide +kernel
theorem dX10_read_32 : decode mX10_read.2.1 32 = .ok (.aload_n 0, 1) := by decide +kernel
theorem dX10_read_33 : decode mX10_read.2.1 33 = .ok (.getfield 26, 3) := by decide +kernel
theorem dX10_read_36 : decode mX10_read.2.1 36 = .ok (.aload_n 0, 1) := by decide +kernel
theorem dX10_read_37 : decode mX10_read.2.1 37 = .ok (.getfield 19, 3) := by decide +kernel
theorem dX10_read_40 : decode mX10_read.2.1 40 = .ok (.invokevirtual 92, 3) := by decide +kernel
theorem dX10_read_43 : decode mX10_read.2.1 43 = .ok (.aload_n 0, 1) := by decide +kernel
theorem dX10_read_44 : decode mX10_read.2.1 44 = .ok (.getfield 33, 3) := by decide +kernel
theorem dX10_read_47 : decode mX10_read.2.1 47 = .ok (.aload_n 0, 1) := by decide +kernel
theorem dX10_read_48 : decode mX10_read.2.1 48 = .ok (.getfield 19, 3) := by decide +kernel
theorem dX10_read_51 : decode mX10_read.2.1 51 = .ok (.invokevirtual 96, 3) := by decide +kernel
theorem dX10_read_54 : decode mX10_read.2.1 54 = .ok (.aload_n 0, 1) := by decide +kernel
theorem dX10_read_55 : decode mX10_read.2.1 55 = .ok (.getfield 40, 3) := by decide +kernel
theorem dX10_read_58 : decode mX10_read.2.1 58 = .ok (.aload_n 0, 1) := by decide +kernel
theorem dX10_read_59 : decode mX10_read.2.1 59 = .ok (.getfield 19, 3) := by decide +kernel
theorem dX10_read_62 : decode mX10_read.2.1 62 = .ok (.invokevirtual 97, 3) := by decide +kernel
theorem dX10_read_65 : decode mX10_read.2.1 65 = .ok (.aload_n 0, 1) := by decide +kernel
theorem dX10_read_66 : decode mX10_read.2.1 66 = .ok (.iconst 0, 1) := by decide +kernel
theorem dX10_read_67 : decode mX10_read.2.1 67 = .ok (.putfield 98, 3) := by decide +kernel
theorem dX10_read_70 : decode mX10_read.2.1 70 = .ok (.aload_n 0, 1) := by decide +kernel
theorem dX10_read_71 : decode mX10_read.2.1 71 = .ok (.getfield 54, 3) := by decide +kernel
theorem dX10_read_74 : decode mX10_read.2.1 74 = .ok (.iconst 0, 1) := by decide +kernel
theorem dX10_read_75 : decode mX10_read.2.1 75 = .ok (.putfield 102, 3) := by decide +kernel
theorem dX10_read_78 : decode mX10_read.2.1 78 = .ok (.aload_n 0, 1) := by decide +kernel
theorem dX10_read_79 : decode mX10_read.2.1 79 = .ok (.getfield 19, 3) := by decide +kernel
theorem dX10_read_82 : decode mX10_read.2.1 82 = .ok (.getfield 105, 3) := by decide +kernel
theorem dX10_read_85 : decode mX10_read.2.1 85 = .ok (.ireturn, 1) := by decide +kernel
theorem okX10_read_84 : gOkV mX10_read mX6_readTape 84 0 := ⟨List.forall_mem_cons.mpr ⟨(gm 580 (by decide +kernel) rfl), List.forall_mem_cons.mpr ⟨(gm 577 (by decide +kernel) rfl), List.forall_mem_cons.mpr ⟨(gm 578 (by decide +kernel) rfl), List.forall_mem_cons.mpr ⟨(gm 579 (by decide +kernel) rfl), List.forall_mem_cons.mpr ⟨(gm 108 (by decide +kernel) rfl), fun _ h => absurd h List.not_mem_nil⟩⟩⟩⟩⟩, by decide +kernel, by decide +kernel, by decide +kernel⟩
theorem okX10_read_88 : gOkV mX10_read mX6_exchange 88 1 := ⟨List.forall_mem_cons.mpr ⟨(gm 729 (by decide +kernel) rfl), List.forall_mem_cons.mpr ⟨(gm 726 (by decide +kernel) rfl), List.forall_mem_cons.mpr ⟨(gm 727 (by decide +kernel) rfl), List.forall_mem_cons.mpr ⟨(gm 728 (by decide +kernel) rfl), List.forall_mem_cons.mpr ⟨(gm 108 (by decide +kernel) rfl), fun _ h => absurd h List.not_mem_nil⟩⟩⟩⟩⟩, by decide +kernel, by decide +kernel, by decide +kernel⟩
theorem okX10_read_92 : gOkV mX10_read mX1_work 92 1 := ⟨List.forall_mem_cons.mpr ⟨(gm 733 (by decide +kernel) rfl), List.forall_mem_cons.mpr ⟨(gm 730 (by decide +kernel) rfl), List.forall_mem_cons.mpr ⟨(gm 731 (by decide +kernel) rfl), List.forall_mem_cons.mpr ⟨(gm 732 (by decide +kernel) rfl), List.forall_mem_cons.mpr ⟨(gm 114 (by decide +kernel) rfl), fun _ h => absurd h List.not_mem_nil⟩⟩⟩⟩⟩, by decide +kernel, by decide +kernel, by decide +kernel⟩
theorem okX10_read_96 : gOkV mX10_read mX4_work 96 1 := ⟨List.forall_mem_cons.mpr ⟨(gm 782 (by decide +kernel) rfl), List.forall_mem_cons.mpr ⟨(gm 779 (by decide +kernel) rfl), List.forall_mem_cons.mpr ⟨(gm 780 (by decide +kernel) rfl), List.forall_mem_cons.mpr ⟨(gm 781 (by decide +kernel) rfl), List.forall_mem_cons.mpr ⟨(gm 115 (by decide +kernel) rfl), fun _ h => absurd h List.not_mem_nil⟩⟩⟩⟩⟩, by decide +kernel, by decide +kernel, by decide +kernel⟩
theorem okX10_read_97 : gOkV mX10_read mX9_work 97 1 := ⟨List.forall_mem_cons.mpr ⟨(gm 823 (by decide +kernel) rfl), List.forall_mem_cons.mpr ⟨(gm 820 (by decide +kernel) rfl), List.forall_mem_cons.mpr ⟨(gm 821 (by decide +kernel) rfl), List.forall_mem_cons.mpr ⟨(gm 822 (by decide +kernel) rfl), List.forall_mem_cons.mpr ⟨(gm 116 (by decide +kernel) rfl), fun _ h => absurd h List.not_mem_nil⟩⟩⟩⟩⟩, by decide +kernel, by decide +kernel, by decide +kernel⟩
def fX10_read (σ : gS) : Option (Int32 × gS) :=
  bd (fX6_readTape σ) fun x1 σ2 =>
  if x1 = 0 then
    bnd (σ2.2.2 0 1) fun x5 =>
    gg (x5 = 4 ∨ x5 = 16) (
    bd (fX6_exchange x5 σ2) fun x7 σ8 =>
    bnd (gsR σ8 0 1 x7) fun σ10 =>
    bnd (σ10.2.2 0 1) fun x11 =>
    gg (x11 = 4 ∨ x11 = 16) (
    bd (fX1_work x11 σ10) fun _ σ13 =>
    bnd (σ13.2.2 0 1) fun x15 =>
    gg (x15 = 4 ∨ x15 = 16) (
    bd (fX4_work x15 σ13) fun _ σ17 =>
    bnd (σ17.2.2 0 1) fun x19 =>
    gg (x19 = 4 ∨ x19 = 16) (
    bd (fX9_work x19 σ17) fun _ σ21 =>
    bnd (gsI σ21 0 6 0) fun σ23 =>
    bnd (gsI σ23 136 0 0) fun σ24 =>
    bnd (σ24.2.2 0 1) fun x25 =>
    gg (x25 = 4 ∨ x25 = 16) (
    some (σ24.1 x25 7, σ24))))))
  else
    some ((-10) - x1, σ2)
set_option maxHeartbeats 4000000 in
set_option maxRecDepth 100000 in
theorem pX10_read {E : gE} {r : Int32} {σ' : gS} {σ : gS} (h : fX10_read σ = some (r, σ')) : gG E mX10_read 0 [(0, .ref 0)] [] σ (some (.int r)) σ' := by
  unfold fX10_read at h
  refine g_aload_n dX10_read_0 rfl 0 rfl ?_
  refine g_getC (n := 1) dX10_read_1 gi_0 rfl fl_RX10_10 ?_
  obtain ⟨x1, σ2, y3, h⟩ := bd_some h
  refine g_callVr (as := []) (st := []) (zX6_readTape y3) dX10_read_4 gi_1 rfl okX10_read_84 (Nat.le_of_ble_eq_true rfl) ?_
  refine g_istore_n (lv' := [(1, .int x1), (0, .ref 0)]) dX10_read_7 rfl (Nat.le_of_ble_eq_true rfl) rfl ?_
  refine g_iload_n dX10_read_8 rfl 0 rfl ?_
  refine g_if_eq (t := 17) dX10_read_9 (by decide) (fun c4 => ?_) (fun c4 => ?_)
  · replace h := if_t h c4
    refine g_aload_n dX10_read_17 rfl 1 rfl ?_
    refine g_aload_n dX10_read_18 rfl 1 rfl ?_
    refine g_getC (n := 1) dX10_read_19 gi_0 rfl fl_RX10_10 ?_
    refine g_aload_n dX10_read_22 rfl 1 rfl ?_
    refine g_getR dX10_read_23 gi_0 rfl fl_RX10_19 ?_
    obtain ⟨x5, ex5, h⟩ := bnd_nm h
    refine g_topr ex5 ?_
    obtain ⟨g6, h⟩ := gg_some h
    obtain ⟨x7, σ8, y9, h⟩ := bd_some h
    refine g_callVr (as := [.ref x5]) (st := [.ref 0]) (zX6_exchange g6 y9) dX10_read_26 gi_1 rfl okX10_read_88 (Nat.le_of_ble_eq_true rfl) ?_
    obtain ⟨σ10, eσ10, h⟩ := bnd_nm h
    refine g_putR dX10_read_29 gi_0 rfl fp_RX10_19 (g_st eσ10 ?_)
    refine g_aload_n dX10_read_32 rfl 1 rfl ?_
    refine g_getC (n := 28) dX10_read_33 gi_0 rfl fl_RX10_26 ?_
    refine g_aload_n dX10_read_36 rfl 1 rfl ?_
    refine g_getR dX10_read_37 gi_0 rfl fl_RX10_19 ?_
    obtain ⟨x11, ex11, h⟩ := bnd_nm h
    refine g_topr ex11 ?_
    obtain ⟨g12, h⟩ := gg_some h
    obtain ⟨_, σ13, y14, h⟩ := bd_some h
    refine g_callVv (as := [.ref x11]) (st := []) (zX1_work g12 y14) dX10_read_40 gi_28 rfl okX10_read_92 (Nat.le_of_ble_eq_true rfl) ?_
    refine g_aload_n dX10_read_43 rfl 1 rfl ?_
    refine g_getC (n := 59) dX10_read_44 gi_0 rfl fl_RX10_33 ?_
    refine g_aload_n dX10_read_47 rfl 1 rfl ?_
    refine g_getR dX10_read_48 gi_0 rfl fl_RX10_19 ?_
    obtain ⟨x15, ex15, h⟩ := bnd_nm h
    refine g_topr ex15 ?_
    obtain ⟨g16, h⟩ := gg_some h
    obtain ⟨_, σ17, y18, h⟩ := bd_some h
    refine g_callVv (as := [.ref x15]) (st := []) (zX4_work g16 y18) dX10_read_51 gi_59 rfl okX10_read_96 (Nat.le_of_ble_eq_true rfl) ?_
    refine g_aload_n dX10_read_54 rfl 1 rfl ?_
    refine g_getC (n := 124) dX10_read_55 gi_0 rfl fl_RX10_40 ?_
    refine g_aload_n dX10_read_58 rfl 1 rfl ?_
    refine g_getR dX10_read_59 gi_0 rfl fl_RX10_19 ?_
    obtain ⟨x19, ex19, h⟩ := bnd_nm h
    refine g_topr ex19 ?_
    obtain ⟨g20, h⟩ := gg_some h
    obtain ⟨_, σ21, y22, h⟩ := bd_some h
    refine g_callVv (as := [.ref x19]) (st := []) (zX9_work g20 y22) dX10_read_62 gi_124 rfl okX10_read_97 (Nat.le_of_ble_eq_true rfl) ?_
    refine g_aload_n dX10_read_65 rfl 1 rfl ?_
    refine g_iconst (v := 0) dX10_read_66 (by decide) ?_
    obtain ⟨σ23, eσ23, h⟩ := bnd_nm h
    refine g_putZ dX10_read_67 gi_0 rfl fp_RX10_98 (Or.inl rfl) (g_st eσ23 ?_)
    refine g_aload_n dX10_read_70 rfl 1 rfl ?_
    refine g_getC (n := 136) dX10_read_71 gi_0 rfl fl_RX10_54 ?_
    refine g_iconst (v := 0) dX10_read_74 (by decide) ?_
    obtain ⟨σ24, eσ24, h⟩ := bnd_nm h
    refine g_putZ dX10_read_75 gi_136 rfl fp_RX10_102 (Or.inl rfl) (g_st eσ24 ?_)
    refine g_aload_n dX10_read_78 rfl 1 rfl ?_
    refine g_getR dX10_read_79 gi_0 rfl fl_RX10_19 ?_
    obtain ⟨x25, ex25, h⟩ := bnd_nm h
    refine g_topr ex25 ?_
    obtain ⟨g26, h⟩ := gg_some h
    refine g_getI dX10_read_82 (gi_lk g26) rfl fl_RX10_105 ?_
    obtain ⟨rfl, rfl⟩ := so_inj h
    exact g_iret dX10_read_85 rfl
  · replace h := if_f h c4
    refine g_bipush (v := (-10)) dX10_read_12 (by decide) ?_
    refine g_iload_n dX10_read_14 rfl 0 rfl ?_
    refine g_isub dX10_read_15 ?_
    obtain ⟨rfl, rfl⟩ := so_inj h
    exact g_iret dX10_read_16 rfl
theorem zX10_read {E : gE} {r : Int32} {σ σ' : gS} (h : fX10_read σ = some (r, σ')) : gC E mX10_read [.ref 0] σ (some (.int r)) σ' :=
  gC_of (by decide +kernel) rfl (Nat.le_of_ble_eq_true rfl) (pX10_read h)
theorem fl_RX10_109 : gFl RX10 109 6 9 := ⟨RX6, TX6, 10, rfl, by decide, ux_6, Or.inr ⟨"LinkageCurves", by decide +kernel⟩⟩
def mX10_place : gM := (yX10_place, cX10_place, RX10, 1, (some .int), 0, 0)
theorem dX10_place_0 : decode mX10_place.2.1 0 = .ok (.aload_n 0, 1) := by decide +kernel
theorem dX10_place_1 : decode mX10_place.2.1 1 = .ok (.getfield 10, 3) := by decide +kernel
theorem dX10_place_4 : decode mX10_place.2.1 4 = .ok (.getfield 109, 3) := by decide +kernel
theorem dX10_place_7 : decode mX10_place.2.1 7 = .ok (.ireturn, 1) := by decide +kernel
def fX10_place (σ : gS) : Option (Int32 × gS) :=
  some (σ.1 1 9, σ)
set_option maxHeartbeats 4000000 in
set_option maxRecDepth 100000 in
theorem pX10_place {E : gE} {r : Int32} {σ' : gS} {σ : gS} (h : fX10_place σ = some (r, σ')) : gG E mX10_place 0 [(0, .ref 0)] [] σ (some (.int r)) σ' := by
  unfold fX10_place at h
  refine g_aload_n dX10_place_0 rfl 0 rfl ?_
  refine g_getC (n := 1) dX10_place_1 gi_0 rfl fl_RX10_10 ?_
  refine g_getI dX10_place_4 gi_1 rfl fl_RX10_109 ?_
  obtain ⟨rfl, rfl⟩ := so_inj h
  exact g_iret dX10_place_7 rfl
theorem zX10_place {E : gE} {r : Int32} {σ σ' : gS} (h : fX10_place σ = some (r, σ')) : gC E mX10_place [.ref 0] σ (some (.int r)) σ' :=
  gC_of (by decide +kernel) rfl (Nat.le_of_ble_eq_true rfl) (pX10_place h)
def mX10_isPart : gM := (yX10_isPart, cX10_isPart, RX10, 2, (some .boolean), 0, 0)
theorem dX10_isPart_0 : decode mX10_isPart.2.1 0 = .ok (.iload_n 1, 1) := by decide +kernel
theorem dX10_isPart_1 : decode mX10_isPart.2.1 1 = .ok (.ifCond .lt 18, 3) := by decide +kernel
theorem dX10_isPart_4 : decode mX10_isPart.2.1 4 = .ok (.iload_n 1, 1) := by decide +kernel
theorem dX10_isPart_5 : decode mX10_isPart.2.1 5 = .ok (.aload_n 0, 1) := by decide +kernel
theorem dX10_isPart_6 : decode mX10_isPart.2.1 6 = .ok (.getfield 19, 3) := by decide +kernel
theorem dX10_isPart_9 : decode mX10_isPart.2.1 9 = .ok (.getfield 105, 3) := by decide +kernel
theorem dX10_isPart_12 : decode mX10_isPart.2.1 12 = .ok (.if_icmp .ge 7, 3) := by decide +kernel
theorem dX10_isPart_15 : decode mX10_isPart.2.1 15 = .ok (.iconst 1, 1) := by decide +kernel
theorem dX10_isPart_16 : decode mX10_isPart.2.1 16 = .ok (.goto 4, 3) := by decide +kernel
theorem dX10_isPart_19 : decode mX10_isPart.2.1 19 = .ok (.iconst 0, 1) := by decide +kernel
theorem dX10_isPart_20 : decode mX10_isPart.2.1 20 = .ok (.ireturn, 1) := by decide +kernel
def fX10_isPart_20 (p1 : Int32) (s0 : Int32) (σ : gS) : Option (Int32 × gS) :=
  gg (s0 = 0 ∨ s0 = 1) (
  some (s0, σ))
set_option maxHeartbeats 4000000 in
set_option maxRecDepth 100000 in
theorem pX10_isPart_20 {E : gE} {p1 : Int32} {r : Int32} {σ' : gS} {s0 : Int32} {σ : gS} (h : fX10_isPart_20 p1 s0 σ = some (r, σ')) : gG E mX10_isPart 20 [] [.int s0] σ (some (.int r)) σ' := by
  unfold fX10_isPart_20 at h
  obtain ⟨g1, h⟩ := gg_some h
  obtain ⟨rfl, rfl⟩ := so_inj h
  exact g_zret dX10_isPart_20 rfl g1
def fX10_isPart_19 (p1 : Int32) (σ : gS) : Option (Int32 × gS) :=
  fX10_isPart_20 p1 0 σ
set_option maxHeartbeats 4000000 in
set_option maxRecDepth 100000 in
theorem pX10_isPart_19 {E : gE} {p1 : Int32} {r : Int32} {σ' : gS} {σ : gS} (h : fX10_isPart_19 p1 σ = some (r, σ')) : gG E mX10_isPart 19 [] [] σ (some (.int r)) σ' := by
  unfold fX10_isPart_19 at h
  refine g_iconst (v := 0) dX10_isPart_19 (by decide) ?_
  exact pX10_isPart_20 h
def fX10_isPart (p1 : Int32) (σ : gS) : Option (Int32 × gS) :=
  if p1 < 0 then
    fX10_isPart_19 p1 σ
  else
    bnd (σ.2.2 0 1) fun x2 =>
    gg (x2 = 4 ∨ x2 = 16) (
    if (σ.1 x2 7) ≤ p1 then
      fX10_isPart_19 p1 σ
    else
      fX10_isPart_20 p1 1 σ)
set_option maxHeartbeats 4000000 in
set_option maxRecDepth 100000 in
theorem pX10_isPart {E : gE} {p1 : Int32} {r : Int32} {σ' : gS} {σ : gS} (h : fX10_isPart p1 σ = some (r, σ')) : gG E mX10_isPart 0 [(0, .ref 0), (1, .int p1)] [] σ (some (.int r)) σ' := by
  unfold fX10_isPart at h
  refine g_iload_n dX10_isPart_0 rfl 1 rfl ?_
  refine g_if_lt (t := 19) dX10_isPart_1 (by decide) (fun c1 => ?_) (fun c1 => ?_)
  · replace h := if_t h c1
    refine g_sub [] rfl ?_
    exact pX10_isPart_19 h
  · replace h := if_f h c1
    refine g_iload_n dX10_isPart_4 rfl 1 rfl ?_
    refine g_aload_n dX10_isPart_5 rfl 0 rfl ?_
    refine g_getR dX10_isPart_6 gi_0 rfl fl_RX10_19 ?_
    obtain ⟨x2, ex2, h⟩ := bnd_nm h
    refine g_topr ex2 ?_
    obtain ⟨g3, h⟩ := gg_some h
    refine g_getI dX10_isPart_9 (gi_lk g3) rfl fl_RX10_105 ?_
    refine g_icmp_ge (t := 19) dX10_isPart_12 (by decide) (fun c4 => ?_) (fun c4 => ?_)
    · replace h := if_t h c4
      refine g_sub [] rfl ?_
      exact pX10_isPart_19 h
    · replace h := if_f h c4
      refine g_iconst (v := 1) dX10_isPart_15 (by decide) ?_
      refine g_goto (t := 20) dX10_isPart_16 (by decide) ?_
      refine g_sub [] rfl ?_
      exact pX10_isPart_20 h
theorem zX10_isPart {E : gE} {p1 : Int32} {r : Int32} {σ σ' : gS} (h : fX10_isPart p1 σ = some (r, σ')) : gC E mX10_isPart [.ref 0, .int p1] σ (some (.int r)) σ' :=
  gC_of (by decide +kernel) rfl (Nat.le_of_ble_eq_true rfl) (pX10_isPart h)
theorem fl_RX10_116 : gFl RX10 116 3 0 := ⟨RX3, TX3, 10, rfl, by decide, ux_3, Or.inr ⟨"LinkageCurves", by decide +kernel⟩⟩
theorem fl_RX10_120 : gFl RX10 120 3 1 := ⟨RX3, TX3, 10, rfl, by decide, ux_3, Or.inr ⟨"LinkageCurves", by decide +kernel⟩⟩
theorem fl_RX10_123 : gFl RX10 123 3 2 := ⟨RX3, TX3, 10, rfl, by decide, ux_3, Or.inr ⟨"LinkageCurves", by decide +kernel⟩⟩
theorem fl_RX10_126 : gFl RX10 126 3 3 := ⟨RX3, TX3, 10, rfl, by decide, ux_3, Or.inr ⟨"LinkageCurves", by decide +kernel⟩⟩
def mX10_part : gM := (yX10_part, cX10_part, RX10, 3, (some .int), 1, 21)
theorem dX10_part_0 : decode mX10_part.2.1 0 = .ok (.aload_n 0, 1) := by decide +kernel
theorem dX10_part_1 : decode mX10_part.2.1 1 = .ok (.iload_n 1, 1) := by decide +kernel
theorem dX10_part_2 : decode mX10_part.2.1 2 = .ok (.invokevirtual 112, 3) := by decide +kernel
theorem dX10_part_5 : decode mX10_part.2.1 5 = .ok (.ifCond .ne 6, 3) := by decide +kernel
theorem dX10_part_8 : decode mX10_part.2.1 8 = .ok (.ldc 79, 2) := by decide +kernel
theorem dX10_part_10 : decode mX10_part.2.1 10 = .ok (.ireturn, 1) := by decide +kernel
theorem dX10_part_11 : decode mX10_part.2.1 11 = .ok (.iload_n 2, 1) := by decide +kernel
theorem dX10_part_12 : decode mX10_part.2.1 12 = .ok (.tableswitch 72 0 3 #[32, 42, 52, 62], 32) := by decide +kernel
theorem dX10_part_44 : decode mX10_part.2.1 44 = .ok (.aload_n 0, 1) := by decide +kernel
theorem dX10_part_45 : decode mX10_part.2.1 45 = .ok (.getfield 19, 3) := by decide +kernel
theorem dX10_part_48 : decode mX10_part.2.1 48 = .ok (.getfield 116, 3) := by decide +kernel
theorem dX10_part_51 : decode mX10_part.2.1 51 = .ok (.iload_n 1, 1) := by decide +kernel
theorem dX10_part_52 : decode mX10_part.2.1 52 = .ok (.iaload, 1) := by decide +kernel
theorem dX10_part_53 : decode mX10_part.2.1 53 = .ok (.ireturn, 1) := by decide +kernel
theorem dX10_part_54 : decode mX10_part.2.1 54 = .ok (.aload_n 0, 1) := by decide +kernel
theorem dX10_part_55 : decode mX10_part.2.1 55 = .ok (.getfield 19, 3) := by decide +kernel
theorem dX10_part_58 : decode mX10_part.2.1 58 = .ok (.getfield 120, 3) := by decide +kernel
theorem dX10_part_61 : decode mX10_part.2.1 61 = .ok (.iload_n 1, 1) := by decide +kernel
theorem dX10_part_62 : decode mX10_part.2.1 62 = .ok (.iaload, 1) := by decide +kernel
theorem dX10_part_63 : decode mX10_part.2.1 63 = .ok (.ireturn, 1) := by decide +kernel
theorem dX10_part_64 : decode mX10_part.2.1 64 = .ok (.aload_n 0, 1) := by decide +kernel
theorem dX10_part_65 : decode mX10_part.2.1 65 = .ok (.getfield 19, 3) := by decide +kernel
theorem dX10_part_68 : decode mX10_part.2.1 68 = .ok (.getfield 123, 3) := by decide +kernel
theorem dX10_part_71 : decode mX10_part.2.1 71 = .ok (.iload_n 1, 1) := by decide +kernel
theorem dX10_part_72 : decode mX10_part.2.1 72 = .ok (.iaload, 1) := by decide +kernel
theorem dX10_part_73 : decode mX10_part.2.1 73 = .ok (.ireturn, 1) := by decide +kernel
theorem dX10_part_74 : decode mX10_part.2.1 74 = .ok (.aload_n 0, 1) := by decide +kernel
theorem dX10_part_75 : decode mX10_part.2.1 75 = .ok (.getfield 19, 3) := by decide +kernel
theorem dX10_part_78 : decode mX10_part.2.1 78 = .ok (.getfield 126, 3) := by decide +kernel
theorem dX10_part_81 : decode mX10_part.2.1 81 = .ok (.iload_n 1, 1) := by decide +kernel
theorem dX10_part_82 : decode mX10_part.2.1 82 = .ok (.iaload, 1) := by decide +kernel
theorem dX10_part_83 : decode mX10_part.2.1 83 = .ok (.ireturn, 1) := by decide +kernel
theorem dX10_part_84 : decode mX10_part.2.1 84 = .ok (.ldc 79, 2) := by decide +kernel
theorem dX10_part_86 : decode mX10_part.2.1 86 = .ok (.ireturn, 1) := by decide +kernel
theorem okX10_part_112 : gOkV mX10_part mX10_isPart 112 1 := ⟨List.forall_mem_cons.mpr ⟨(gm 855 (by decide +kernel) rfl), List.forall_mem_cons.mpr ⟨(gm 852 (by decide +kernel) rfl), List.forall_mem_cons.mpr ⟨(gm 854 (by decide +kernel) rfl), List.forall_mem_cons.mpr ⟨(gm 38 (by decide +kernel) rfl), List.forall_mem_cons.mpr ⟨(gm 107 (by decide +kernel) rfl), fun _ h => absurd h List.not_mem_nil⟩⟩⟩⟩⟩, by decide +kernel, by decide +kernel, by decide +kernel⟩
def fX10_part (p1 : Int32) (p2 : Int32) (σ : gS) : Option (Int32 × gS) :=
  bd (fX10_isPart p1 σ) fun x1 σ2 =>
  if x1 = 0 then
    some ((-1000001), σ2)
  else
    if p2 = 0 then
      bnd (σ2.2.2 0 1) fun x6 =>
      gg (x6 = 4 ∨ x6 = 16) (
      gg (¬ (p1 < 0 ∨ 130 ≤ p1.toNatClampNeg)) (
      some (σ2.1 (x6 + 1) p1.toNatClampNeg, σ2)))
    else
      if p2 = 1 then
      bnd (σ2.2.2 0 1) fun x10 =>
        gg (x10 = 4 ∨ x10 = 16) (
        gg (¬ (p1 < 0 ∨ 130 ≤ p1.toNatClampNeg)) (
        some (σ2.1 (x10 + 2) p1.toNatClampNeg, σ2)))
    else
      if p2 = 2 then
      bnd (σ2.2.2 0 1) fun x14 =>
          gg (x14 = 4 ∨ x14 = 16) (
          gg (¬ (p1 < 0 ∨ 130 ≤ p1.toNatClampNeg)) (
          some (σ2.1 (x14 + 3) p1.toNatClampNeg, σ2)))
    else
      if p2 = 3 then
      bnd (σ2.2.2 0 1) fun x18 =>
            gg (x18 = 4 ∨ x18 = 16) (
            gg (¬ (p1 < 0 ∨ 130 ≤ p1.toNatClampNeg)) (
            some (σ2.1 (x18 + 4) p1.toNatClampNeg, σ2)))
    else
      some ((-1000001), σ2)
set_option maxHeartbeats 4000000 in
set_option maxRecDepth 100000 in
theorem pX10_part {E : gE} {p1 : Int32} {p2 : Int32} {r : Int32} {σ' : gS} {σ : gS} (h : fX10_part p1 p2 σ = some (r, σ')) : gG E mX10_part 0 [(0, .ref 0), (1, .int p1), (2, .int p2)] [] σ (some (.int r)) σ' := by
  unfold fX10_part at h
  refine g_aload_n dX10_part_0 rfl 0 rfl ?_
  refine g_iload_n dX10_part_1 rfl 1 rfl ?_
  obtain ⟨x1, σ2, y3, h⟩ := bd_some h
  refine g_callVr (as := [.int p1]) (st := []) (zX10_isPart y3) dX10_part_2 gi_0 rfl okX10_part_112 (Nat.le_of_ble_eq_true rfl) ?_
  refine g_if_ne (t := 11) dX10_part_5 (by decide) (fun c4 => ?_) (fun c4 => ?_)
  · replace h := if_f h c4
    refine g_iload_n dX10_part_11 rfl 2 rfl ?_
    by_cases c5 : p2 = 0
    · replace h := if_t h c5
      refine g_tabIn (off := 32) (t := 44) dX10_part_12 (by rw [c5]; decide) (by rw [c5]; decide) (by rw [c5]; first | done | rfl) (by decide) ?_
      refine g_aload_n dX10_part_44 rfl 0 rfl ?_
      refine g_getR dX10_part_45 gi_0 rfl fl_RX10_19 ?_
      obtain ⟨x6, ex6, h⟩ := bnd_nm h
      refine g_topr ex6 ?_
      obtain ⟨g7, h⟩ := gg_some h
      refine g_getC (n := (x6 + 1)) dX10_part_48 (gi_lk g7) rfl fl_RX10_116 ?_
      refine g_iload_n dX10_part_51 rfl 1 rfl ?_
      obtain ⟨g8, h⟩ := gg_some h
      refine g_iald dX10_part_52 (gi_lk1 g7) g8 ?_
      obtain ⟨rfl, rfl⟩ := so_inj h
      exact g_iret dX10_part_53 rfl
    · replace h := if_f h c5
      by_cases c9 : p2 = 1
      · replace h := if_t h c9
        refine g_tabIn (off := 42) (t := 54) dX10_part_12 (by rw [c9]; decide) (by rw [c9]; decide) (by rw [c9]; first | done | rfl) (by decide) ?_
        refine g_aload_n dX10_part_54 rfl 0 rfl ?_
        refine g_getR dX10_part_55 gi_0 rfl fl_RX10_19 ?_
        obtain ⟨x10, ex10, h⟩ := bnd_nm h
        refine g_topr ex10 ?_
        obtain ⟨g11, h⟩ := gg_some h
        refine g_getC (n := (x10 + 2)) dX10_part_58 (gi_lk g11) rfl fl_RX10_120 ?_
        refine g_iload_n dX10_part_61 rfl 1 rfl ?_
        obtain ⟨g12, h⟩ := gg_some h
        refine g_iald dX10_part_62 (gi_lk2 g11) g12 ?_
        obtain ⟨rfl, rfl⟩ := so_inj h
        exact g_iret dX10_part_63 rfl
      · replace h := if_f h c9
        by_cases c13 : p2 = 2
        · replace h := if_t h c13
          refine g_tabIn (off := 52) (t := 64) dX10_part_12 (by rw [c13]; decide) (by rw [c13]; decide) (by rw [c13]; first | done | rfl) (by decide) ?_
          refine g_aload_n dX10_part_64 rfl 0 rfl ?_
          refine g_getR dX10_part_65 gi_0 rfl fl_RX10_19 ?_
          obtain ⟨x14, ex14, h⟩ := bnd_nm h
          refine g_topr ex14 ?_
          obtain ⟨g15, h⟩ := gg_some h
          refine g_getC (n := (x14 + 3)) dX10_part_68 (gi_lk g15) rfl fl_RX10_123 ?_
          refine g_iload_n dX10_part_71 rfl 1 rfl ?_
          obtain ⟨g16, h⟩ := gg_some h
          refine g_iald dX10_part_72 (gi_lk3 g15) g16 ?_
          obtain ⟨rfl, rfl⟩ := so_inj h
          exact g_iret dX10_part_73 rfl
        · replace h := if_f h c13
          by_cases c17 : p2 = 3
          · replace h := if_t h c17
            refine g_tabIn (off := 62) (t := 74) dX10_part_12 (by rw [c17]; decide) (by rw [c17]; decide) (by rw [c17]; first | done | rfl) (by decide) ?_
            refine g_aload_n dX10_part_74 rfl 0 rfl ?_
            refine g_getR dX10_part_75 gi_0 rfl fl_RX10_19 ?_
            obtain ⟨x18, ex18, h⟩ := bnd_nm h
            refine g_topr ex18 ?_
            obtain ⟨g19, h⟩ := gg_some h
            refine g_getC (n := (x18 + 4)) dX10_part_78 (gi_lk g19) rfl fl_RX10_126 ?_
            refine g_iload_n dX10_part_81 rfl 1 rfl ?_
            obtain ⟨g20, h⟩ := gg_some h
            refine g_iald dX10_part_82 (gi_lk4 g19) g20 ?_
            obtain ⟨rfl, rfl⟩ := so_inj h
            exact g_iret dX10_part_83 rfl
          · replace h := if_f h c17
            have nc5 := lv_neT (a := 0) c5 (by decide)
            have nc9 := lv_neT (a := 1) c9 (by decide)
            have nc13 := lv_neT (a := 2) c13 (by decide)
            have nc17 := lv_neT (a := 3) c17 (by decide)
            refine g_tabOut (t := 84) dX10_part_12 (by omega) (by decide) ?_
            refine g_ldc (v := (-1000001)) dX10_part_84 wc_RX10_79 ?_
            obtain ⟨rfl, rfl⟩ := so_inj h
            exact g_iret dX10_part_86 rfl
  · replace h := if_t h c4
    refine g_ldc (v := (-1000001)) dX10_part_8 wc_RX10_79 ?_
    obtain ⟨rfl, rfl⟩ := so_inj h
    exact g_iret dX10_part_10 rfl
theorem zX10_part {E : gE} {p1 : Int32} {p2 : Int32} {r : Int32} {σ σ' : gS} (h : fX10_part p1 p2 σ = some (r, σ')) : gC E mX10_part [.ref 0, .int p1, .int p2] σ (some (.int r)) σ' :=
  gC_of (by decide +kernel) rfl (Nat.le_of_ble_eq_true rfl) (pX10_part h)
def mX10_isMember : gM := (yX10_isMember, cX10_isMember, RX10, 3, (some .boolean), 1, 21)
theorem dX10_isMember_0 : decode mX10_isMember.2.1 0 = .ok (.iload_n 2, 1) := by decide +kernel
theorem dX10_isMember_1 : decode mX10_isMember.2.1 1 = .ok (.ifCond .lt 19, 3) := by decide +kernel
theorem dX10_isMember_4 : decode mX10_isMember.2.1 4 = .ok (.iload_n 2, 1) := by decide +kernel
theorem dX10_isMember_5 : decode mX10_isMember.2.1 5 = .ok (.aload_n 0, 1) := by decide +kernel
theorem dX10_isMember_6 : decode mX10_isMember.2.1 6 = .ok (.getfield 19, 3) := by decide +kernel
theorem dX10_isMember_9 : decode mX10_isMember.2.1 9 = .ok (.iload_n 1, 1) := by decide +kernel
theorem dX10_isMember_10 : decode mX10_isMember.2.1 10 = .ok (.invokevirtual 176, 3) := by decide +kernel
theorem dX10_isMember_13 : decode mX10_isMember.2.1 13 = .ok (.if_icmp .ge 7, 3) := by decide +kernel
theorem dX10_isMember_16 : decode mX10_isMember.2.1 16 = .ok (.iconst 1, 1) := by decide +kernel
theorem dX10_isMember_17 : decode mX10_isMember.2.1 17 = .ok (.goto 4, 3) := by decide +kernel
theorem dX10_isMember_20 : decode mX10_isMember.2.1 20 = .ok (.iconst 0, 1) := by decide +kernel
theorem dX10_isMember_21 : decode mX10_isMember.2.1 21 = .ok (.ireturn, 1) := by decide +kernel
theorem okX10_isMember_176 : gOkV mX10_isMember mX3_size 176 1 := ⟨List.forall_mem_cons.mpr ⟨(gm 737 (by decide +kernel) rfl), List.forall_mem_cons.mpr ⟨(gm 864 (by decide +kernel) rfl), List.forall_mem_cons.mpr ⟨(gm 735 (by decide +kernel) rfl), List.forall_mem_cons.mpr ⟨(gm 736 (by decide +kernel) rfl), List.forall_mem_cons.mpr ⟨(gm 109 (by decide +kernel) rfl), fun _ h => absurd h List.not_mem_nil⟩⟩⟩⟩⟩, by decide +kernel, by decide +kernel, by decide +kernel⟩
def fX10_isMember_21 (p1 : Int32) (p2 : Int32) (s0 : Int32) (σ : gS) : Option (Int32 × gS) :=
  gg (s0 = 0 ∨ s0 = 1) (
  some (s0, σ))
set_option maxHeartbeats 4000000 in
set_option maxRecDepth 100000 in
theorem pX10_isMember_21 {E : gE} {p1 : Int32} {p2 : Int32} {r : Int32} {σ' : gS} {s0 : Int32} {σ : gS} (h : fX10_isMember_21 p1 p2 s0 σ = some (r, σ')) : gG E mX10_isMember 21 [] [.int s0] σ (some (.int r)) σ' := by
  unfold fX10_isMember_21 at h
  obtain ⟨g1, h⟩ := gg_some h
  obtain ⟨rfl, rfl⟩ := so_inj h
  exact g_zret dX10_isMember_21 rfl g1
def fX10_isMember_20 (p1 : Int32) (p2 : Int32) (σ : gS) : Option (Int32 × gS) :=
  fX10_isMember_21 p1 p2 0 σ
set_option maxHeartbeats 4000000 in
set_option maxRecDepth 100000 in
theorem pX10_isMember_20 {E : gE} {p1 : Int32} {p2 : Int32} {r : Int32} {σ' : gS} {σ : gS} (h : fX10_isMember_20 p1 p2 σ = some (r, σ')) : gG E mX10_isMember 20 [] [] σ (some (.int r)) σ' := by
  unfold fX10_isMember_20 at h
  refine g_iconst (v := 0) dX10_isMember_20 (by decide) ?_
  exact pX10_isMember_21 h
def fX10_isMember (p1 : Int32) (p2 : Int32) (σ : gS) : Option (Int32 × gS) :=
  if p2 < 0 then
    fX10_isMember_20 p1 p2 σ
  else
    bnd (σ.2.2 0 1) fun x2 =>
    gg (x2 = 4 ∨ x2 = 16) (
    bd (fX3_size x2 p1 σ) fun x4 σ5 =>
    if x4 ≤ p2 then
      fX10_isMember_20 p1 p2 σ5
    else
      fX10_isMember_21 p1 p2 1 σ5)
set_option maxHeartbeats 4000000 in
set_option maxRecDepth 100000 in
theorem pX10_isMember {E : gE} {p1 : Int32} {p2 : Int32} {r : Int32} {σ' : gS} {σ : gS} (h : fX10_isMember p1 p2 σ = some (r, σ')) : gG E mX10_isMember 0 [(0, .ref 0), (1, .int p1), (2, .int p2)] [] σ (some (.int r)) σ' := by
  unfold fX10_isMember at h
  refine g_iload_n dX10_isMember_0 rfl 2 rfl ?_
  refine g_if_lt (t := 20) dX10_isMember_1 (by decide) (fun c1 => ?_) (fun c1 => ?_)
  · replace h := if_t h c1
    refine g_sub [] rfl ?_
    exact pX10_isMember_20 h
  · replace h := if_f h c1
    refine g_iload_n dX10_isMember_4 rfl 2 rfl ?_
    refine g_aload_n dX10_isMember_5 rfl 0 rfl ?_
    refine g_getR dX10_isMember_6 gi_0 rfl fl_RX10_19 ?_
    obtain ⟨x2, ex2, h⟩ := bnd_nm h
    refine g_topr ex2 ?_
    obtain ⟨g3, h⟩ := gg_some h
    refine g_iload_n dX10_isMember_9 rfl 1 rfl ?_
    obtain ⟨x4, σ5, y6, h⟩ := bd_some h
    refine g_callVr (as := [.int p1]) (st := [.int p2]) (zX3_size g3 y6) dX10_isMember_10 (gi_lk g3) rfl okX10_isMember_176 (Nat.le_of_ble_eq_true rfl) ?_
    refine g_icmp_ge (t := 20) dX10_isMember_13 (by decide) (fun c7 => ?_) (fun c7 => ?_)
    · replace h := if_t h c7
      refine g_sub [] rfl ?_
      exact pX10_isMember_20 h
    · replace h := if_f h c7
      refine g_iconst (v := 1) dX10_isMember_16 (by decide) ?_
      refine g_goto (t := 21) dX10_isMember_17 (by decide) ?_
      refine g_sub [] rfl ?_
      exact pX10_isMember_21 h
theorem zX10_isMember {E : gE} {p1 : Int32} {p2 : Int32} {r : Int32} {σ σ' : gS} (h : fX10_isMember p1 p2 σ = some (r, σ')) : gC E mX10_isMember [.ref 0, .int p1, .int p2] σ (some (.int r)) σ' :=
  gC_of (by decide +kernel) rfl (Nat.le_of_ble_eq_true rfl) (pX10_isMember h)
theorem fl_RX10_133 : gFl RX10 133 1 3 := ⟨RX1, TX1, 10, rfl, by decide, ux_1, Or.inr ⟨"LinkageCurves", by decide +kernel⟩⟩
def mX10_needed : gM := (yX10_needed, cX10_needed, RX10, 2, (some .int), 2, 43)
theorem dX10_needed_0 : decode mX10_needed.2.1 0 = .ok (.aload_n 0, 1) := by decide +kernel
theorem dX10_needed_1 : decode mX10_needed.2.1 1 = .ok (.iconst 1, 1) := by decide +kernel
theorem dX10_needed_2 : decode mX10_needed.2.1 2 = .ok (.iload_n 1, 1) := by decide +kernel
theorem dX10_needed_3 : decode mX10_needed.2.1 3 = .ok (.invokevirtual 129, 3) := by decide +kernel
theorem dX10_needed_6 : decode mX10_needed.2.1 6 = .ok (.ifCond .ne 6, 3) := by decide +kernel
theorem dX10_needed_9 : decode mX10_needed.2.1 9 = .ok (.ldc 79, 2) := by decide +kernel
theorem dX10_needed_11 : decode mX10_needed.2.1 11 = .ok (.ireturn, 1) := by decide +kernel
theorem dX10_needed_12 : decode mX10_needed.2.1 12 = .ok (.aload_n 0, 1) := by decide +kernel
theorem dX10_needed_13 : decode mX10_needed.2.1 13 = .ok (.getfield 26, 3) := by decide +kernel
theorem dX10_needed_16 : decode mX10_needed.2.1 16 = .ok (.getfield 133, 3) := by decide +kernel
theorem dX10_needed_19 : decode mX10_needed.2.1 19 = .ok (.iload_n 1, 1) := by decide +kernel
theorem dX10_needed_20 : decode mX10_needed.2.1 20 = .ok (.baload, 1) := by decide +kernel
theorem dX10_needed_21 : decode mX10_needed.2.1 21 = .ok (.ifCond .eq 7, 3) := by decide +kernel
theorem dX10_needed_24 : decode mX10_needed.2.1 24 = .ok (.iconst 1, 1) := by decide +kernel
theorem dX10_needed_25 : decode mX10_needed.2.1 25 = .ok (.goto 4, 3) := by decide +kernel
theorem dX10_needed_28 : decode mX10_needed.2.1 28 = .ok (.iconst 0, 1) := by decide +kernel
theorem dX10_needed_29 : decode mX10_needed.2.1 29 = .ok (.ireturn, 1) := by decide +kernel
theorem okX10_needed_129 : gOkV mX10_needed mX10_isMember 129 2 := ⟨List.forall_mem_cons.mpr ⟨(gm 863 (by decide +kernel) rfl), List.forall_mem_cons.mpr ⟨(gm 860 (by decide +kernel) rfl), List.forall_mem_cons.mpr ⟨(gm 862 (by decide +kernel) rfl), List.forall_mem_cons.mpr ⟨(gm 39 (by decide +kernel) rfl), List.forall_mem_cons.mpr ⟨(gm 107 (by decide +kernel) rfl), fun _ h => absurd h List.not_mem_nil⟩⟩⟩⟩⟩, by decide +kernel, by decide +kernel, by decide +kernel⟩
def fX10_needed_29 (p1 : Int32) (s0 : Int32) (σ : gS) : Option (Int32 × gS) :=
  some (s0, σ)
set_option maxHeartbeats 4000000 in
set_option maxRecDepth 100000 in
theorem pX10_needed_29 {E : gE} {p1 : Int32} {r : Int32} {σ' : gS} {s0 : Int32} {σ : gS} (h : fX10_needed_29 p1 s0 σ = some (r, σ')) : gG E mX10_needed 29 [] [.int s0] σ (some (.int r)) σ' := by
  unfold fX10_needed_29 at h
  obtain ⟨rfl, rfl⟩ := so_inj h
  exact g_iret dX10_needed_29 rfl
def fX10_needed (p1 : Int32) (σ : gS) : Option (Int32 × gS) :=
  bd (fX10_isMember 1 p1 σ) fun x1 σ2 =>
  if x1 = 0 then
    some ((-1000001), σ2)
  else
    gg (¬ (p1 < 0 ∨ 60 ≤ p1.toNatClampNeg)) (
    if (σ2.1 56 p1.toNatClampNeg) = 0 then
      fX10_needed_29 p1 0 σ2
    else
      fX10_needed_29 p1 1 σ2)
set_option maxHeartbeats 4000000 in
set_option maxRecDepth 100000 in
theorem pX10_needed {E : gE} {p1 : Int32} {r : Int32} {σ' : gS} {σ : gS} (h : fX10_needed p1 σ = some (r, σ')) : gG E mX10_needed 0 [(0, .ref 0), (1, .int p1)] [] σ (some (.int r)) σ' := by
  unfold fX10_needed at h
  refine g_aload_n dX10_needed_0 rfl 0 rfl ?_
  refine g_iconst (v := 1) dX10_needed_1 (by decide) ?_
  refine g_iload_n dX10_needed_2 rfl 1 rfl ?_
  obtain ⟨x1, σ2, y3, h⟩ := bd_some h
  refine g_callVr (as := [.int 1, .int p1]) (st := []) (zX10_isMember y3) dX10_needed_3 gi_0 rfl okX10_needed_129 (Nat.le_of_ble_eq_true rfl) ?_
  refine g_if_ne (t := 12) dX10_needed_6 (by decide) (fun c4 => ?_) (fun c4 => ?_)
  · replace h := if_f h c4
    refine g_aload_n dX10_needed_12 rfl 0 rfl ?_
    refine g_getC (n := 28) dX10_needed_13 gi_0 rfl fl_RX10_26 ?_
    refine g_getC (n := 56) dX10_needed_16 gi_28 rfl fl_RX10_133 ?_
    refine g_iload_n dX10_needed_19 rfl 1 rfl ?_
    obtain ⟨g5, h⟩ := gg_some h
    refine g_zald dX10_needed_20 gi_56 g5 ?_
    refine g_if_eq (t := 28) dX10_needed_21 (by decide) (fun c6 => ?_) (fun c6 => ?_)
    · replace h := if_t h c6
      refine g_iconst (v := 0) dX10_needed_28 (by decide) ?_
      refine g_sub [] rfl ?_
      exact pX10_needed_29 h
    · replace h := if_f h c6
      refine g_iconst (v := 1) dX10_needed_24 (by decide) ?_
      refine g_goto (t := 29) dX10_needed_25 (by decide) ?_
      refine g_sub [] rfl ?_
      exact pX10_needed_29 h
  · replace h := if_t h c4
    refine g_ldc (v := (-1000001)) dX10_needed_9 wc_RX10_79 ?_
    obtain ⟨rfl, rfl⟩ := so_inj h
    exact g_iret dX10_needed_11 rfl
theorem zX10_needed {E : gE} {p1 : Int32} {r : Int32} {σ σ' : gS} (h : fX10_needed p1 σ = some (r, σ')) : gC E mX10_needed [.ref 0, .int p1] σ (some (.int r)) σ' :=
  gC_of (by decide +kernel) rfl (Nat.le_of_ble_eq_true rfl) (pX10_needed h)
def mX10_together : gM := (yX10_together, cX10_together, RX10, 3, (some .int), 2, 43)
theorem dX10_together_0 : decode mX10_together.2.1 0 = .ok (.aload_n 0, 1) := by decide +kernel
theorem dX10_together_1 : decode mX10_together.2.1 1 = .ok (.iconst 0, 1) := by decide +kernel
theorem dX10_together_2 : decode mX10_together.2.1 2 = .ok (.iload_n 1, 1) := by decide +kernel
theorem dX10_together_3 : decode mX10_together.2.1 3 = .ok (.invokevirtual 129, 3) := by decide +kernel
theorem dX10_together_6 : decode mX10_together.2.1 6 = .ok (.ifCond .eq 12, 3) := by decide +kernel
theorem dX10_together_9 : decode mX10_together.2.1 9 = .ok (.aload_n 0, 1) := by decide +kernel
theorem dX10_together_10 : decode mX10_together.2.1 10 = .ok (.iconst 0, 1) := by decide +kernel
theorem dX10_together_11 : decode mX10_together.2.1 11 = .ok (.iload_n 2, 1) := by decide +kernel
theorem dX10_together_12 : decode mX10_together.2.1 12 = .ok (.invokevirtual 129, 3) := by decide +kernel
theorem dX10_together_15 : decode mX10_together.2.1 15 = .ok (.ifCond .ne 6, 3) := by decide +kernel
theorem dX10_together_18 : decode mX10_together.2.1 18 = .ok (.ldc 79, 2) := by decide +kernel
theorem dX10_together_20 : decode mX10_together.2.1 20 = .ok (.ireturn, 1) := by decide +kernel
theorem dX10_together_21 : decode mX10_together.2.1 21 = .ok (.aload_n 0, 1) := by decide +kernel
theorem dX10_together_22 : decode mX10_together.2.1 22 = .ok (.getfield 26, 3) := by decide +kernel
theorem dX10_together_25 : decode mX10_together.2.1 25 = .ok (.iload_n 1, 1) := by decide +kernel
theorem dX10_together_26 : decode mX10_together.2.1 26 = .ok (.iload_n 2, 1) := by decide +kernel
theorem dX10_together_27 : decode mX10_together.2.1 27 = .ok (.invokevirtual 137, 3) := by decide +kernel
theorem dX10_together_30 : decode mX10_together.2.1 30 = .ok (.ifCond .eq 7, 3) := by decide +kernel
theorem dX10_together_33 : decode mX10_together.2.1 33 = .ok (.iconst 1, 1) := by decide +kernel
theorem dX10_together_34 : decode mX10_together.2.1 34 = .ok (.goto 4, 3) := by decide +kernel
theorem dX10_together_37 : decode mX10_together.2.1 37 = .ok (.iconst 0, 1) := by decide +kernel
theorem dX10_together_38 : decode mX10_together.2.1 38 = .ok (.ireturn, 1) := by decide +kernel
theorem okX10_together_129 : gOkV mX10_together mX10_isMember 129 2 := ⟨List.forall_mem_cons.mpr ⟨(gm 863 (by decide +kernel) rfl), List.forall_mem_cons.mpr ⟨(gm 860 (by decide +kernel) rfl), List.forall_mem_cons.mpr ⟨(gm 862 (by decide +kernel) rfl), List.forall_mem_cons.mpr ⟨(gm 39 (by decide +kernel) rfl), List.forall_mem_cons.mpr ⟨(gm 107 (by decide +kernel) rfl), fun _ h => absurd h List.not_mem_nil⟩⟩⟩⟩⟩, by decide +kernel, by decide +kernel, by decide +kernel⟩
theorem okX10_together_137 : gOkV mX10_together mX1_areTogether 137 2 := ⟨List.forall_mem_cons.mpr ⟨(gm 872 (by decide +kernel) rfl), List.forall_mem_cons.mpr ⟨(gm 869 (by decide +kernel) rfl), List.forall_mem_cons.mpr ⟨(gm 870 (by decide +kernel) rfl), List.forall_mem_cons.mpr ⟨(gm 871 (by decide +kernel) rfl), List.forall_mem_cons.mpr ⟨(gm 114 (by decide +kernel) rfl), fun _ h => absurd h List.not_mem_nil⟩⟩⟩⟩⟩, by decide +kernel, by decide +kernel, by decide +kernel⟩
def fX10_together_18 (p1 : Int32) (p2 : Int32) (σ : gS) : Option (Int32 × gS) :=
  some ((-1000001), σ)
set_option maxHeartbeats 4000000 in
set_option maxRecDepth 100000 in
theorem pX10_together_18 {E : gE} {p1 : Int32} {p2 : Int32} {r : Int32} {σ' : gS} {σ : gS} (h : fX10_together_18 p1 p2 σ = some (r, σ')) : gG E mX10_together 18 [] [] σ (some (.int r)) σ' := by
  unfold fX10_together_18 at h
  refine g_ldc (v := (-1000001)) dX10_together_18 wc_RX10_79 ?_
  obtain ⟨rfl, rfl⟩ := so_inj h
  exact g_iret dX10_together_20 rfl
def fX10_together_38 (p1 : Int32) (p2 : Int32) (s0 : Int32) (σ : gS) : Option (Int32 × gS) :=
  some (s0, σ)
set_option maxHeartbeats 4000000 in
set_option maxRecDepth 100000 in
theorem pX10_together_38 {E : gE} {p1 : Int32} {p2 : Int32} {r : Int32} {σ' : gS} {s0 : Int32} {σ : gS} (h : fX10_together_38 p1 p2 s0 σ = some (r, σ')) : gG E mX10_together 38 [] [.int s0] σ (some (.int r)) σ' := by
  unfold fX10_together_38 at h
  obtain ⟨rfl, rfl⟩ := so_inj h
  exact g_iret dX10_together_38 rfl
def fX10_together (p1 : Int32) (p2 : Int32) (σ : gS) : Option (Int32 × gS) :=
  bd (fX10_isMember 0 p1 σ) fun x1 σ2 =>
  if x1 = 0 then
    fX10_together_18 p1 p2 σ2
  else
    bd (fX10_isMember 0 p2 σ2) fun x5 σ6 =>
    if x5 = 0 then
      fX10_together_18 p1 p2 σ6
    else
      bd (fX1_areTogether p1 p2 σ6) fun x9 σ10 =>
      if x9 = 0 then
        fX10_together_38 p1 p2 0 σ10
      else
        fX10_together_38 p1 p2 1 σ10
set_option maxHeartbeats 4000000 in
set_option maxRecDepth 100000 in
theorem pX10_together {E : gE} {p1 : Int32} {p2 : Int32} {r : Int32} {σ' : gS} {σ : gS} (h : fX10_together p1 p2 σ = some (r, σ')) : gG E mX10_together 0 [(0, .ref 0), (1, .int p1), (2, .int p2)] [] σ (some (.int r)) σ' := by
  unfold fX10_together at h
  refine g_aload_n dX10_together_0 rfl 0 rfl ?_
  refine g_iconst (v := 0) dX10_together_1 (by decide) ?_
  refine g_iload_n dX10_together_2 rfl 1 rfl ?_
  obtain ⟨x1, σ2, y3, h⟩ := bd_some h
  refine g_callVr (as := [.int 0, .int p1]) (st := []) (zX10_isMember y3) dX10_together_3 gi_0 rfl okX10_together_129 (Nat.le_of_ble_eq_true rfl) ?_
  refine g_if_eq (t := 18) dX10_together_6 (by decide) (fun c4 => ?_) (fun c4 => ?_)
  · replace h := if_t h c4
    refine g_sub [] rfl ?_
    exact pX10_together_18 h
  · replace h := if_f h c4
    refine g_aload_n dX10_together_9 rfl 0 rfl ?_
    refine g_iconst (v := 0) dX10_together_10 (by decide) ?_
    refine g_iload_n dX10_together_11 rfl 2 rfl ?_
    obtain ⟨x5, σ6, y7, h⟩ := bd_some h
    refine g_callVr (as := [.int 0, .int p2]) (st := []) (zX10_isMember y7) dX10_together_12 gi_0 rfl okX10_together_129 (Nat.le_of_ble_eq_true rfl) ?_
    refine g_if_ne (t := 21) dX10_together_15 (by decide) (fun c8 => ?_) (fun c8 => ?_)
    · replace h := if_f h c8
      refine g_aload_n dX10_together_21 rfl 0 rfl ?_
      refine g_getC (n := 28) dX10_together_22 gi_0 rfl fl_RX10_26 ?_
      refine g_iload_n dX10_together_25 rfl 1 rfl ?_
      refine g_iload_n dX10_together_26 rfl 2 rfl ?_
      obtain ⟨x9, σ10, y11, h⟩ := bd_some h
      refine g_callVr (as := [.int p1, .int p2]) (st := []) (zX1_areTogether y11) dX10_together_27 gi_28 rfl okX10_together_137 (Nat.le_of_ble_eq_true rfl) ?_
      refine g_if_eq (t := 37) dX10_together_30 (by decide) (fun c12 => ?_) (fun c12 => ?_)
      · replace h := if_t h c12
        refine g_iconst (v := 0) dX10_together_37 (by decide) ?_
        refine g_sub [] rfl ?_
        exact pX10_together_38 h
      · replace h := if_f h c12
        refine g_iconst (v := 1) dX10_together_33 (by decide) ?_
        refine g_goto (t := 38) dX10_together_34 (by decide) ?_
        refine g_sub [] rfl ?_
        exact pX10_together_38 h
    · replace h := if_t h c8
      refine g_sub [] rfl ?_
      exact pX10_together_18 h
theorem zX10_together {E : gE} {p1 : Int32} {p2 : Int32} {r : Int32} {σ σ' : gS} (h : fX10_together p1 p2 σ = some (r, σ')) : gC E mX10_together [.ref 0, .int p1, .int p2] σ (some (.int r)) σ' :=
  gC_of (by decide +kernel) rfl (Nat.le_of_ble_eq_true rfl) (pX10_together h)
theorem fl_RX10_140 : gFl RX10 140 1 5 := ⟨RX1, TX1, 10, rfl, by decide, ux_1, Or.inr ⟨"LinkageCurves", by decide +kernel⟩⟩
def mX10_cluster : gM := (yX10_cluster, cX10_cluster, RX10, 2, (some .int), 2, 43)
theorem dX10_cluster_0 : decode mX10_cluster.2.1 0 = .ok (.aload_n 0, 1) := by decide +kernel
theorem dX10_cluster_1 : decode mX10_cluster.2.1 1 = .ok (.iconst 1, 1) := by decide +kernel
theorem dX10_cluster_2 : decode mX10_cluster.2.1 2 = .ok (.iload_n 1, 1) := by decide +kernel
theorem dX10_cluster_3 : decode mX10_cluster.2.1 3 = .ok (.invokevirtual 129, 3) := by decide +kernel
theorem dX10_cluster_6 : decode mX10_cluster.2.1 6 = .ok (.ifCond .ne 6, 3) := by decide +kernel
theorem dX10_cluster_9 : decode mX10_cluster.2.1 9 = .ok (.ldc 79, 2) := by decide +kernel
theorem dX10_cluster_11 : decode mX10_cluster.2.1 11 = .ok (.ireturn, 1) := by decide +kernel
theorem dX10_cluster_12 : decode mX10_cluster.2.1 12 = .ok (.aload_n 0, 1) := by decide +kernel
theorem dX10_cluster_13 : decode mX10_cluster.2.1 13 = .ok (.getfield 26, 3) := by decide +kernel
theorem dX10_cluster_16 : decode mX10_cluster.2.1 16 = .ok (.getfield 140, 3) := by decide +kernel
theorem dX10_cluster_19 : decode mX10_cluster.2.1 19 = .ok (.iload_n 1, 1) := by decide +kernel
theorem dX10_cluster_20 : decode mX10_cluster.2.1 20 = .ok (.iaload, 1) := by decide +kernel
theorem dX10_cluster_21 : decode mX10_cluster.2.1 21 = .ok (.ireturn, 1) := by decide +kernel
theorem okX10_cluster_129 : gOkV mX10_cluster mX10_isMember 129 2 := ⟨List.forall_mem_cons.mpr ⟨(gm 863 (by decide +kernel) rfl), List.forall_mem_cons.mpr ⟨(gm 860 (by decide +kernel) rfl), List.forall_mem_cons.mpr ⟨(gm 862 (by decide +kernel) rfl), List.forall_mem_cons.mpr ⟨(gm 39 (by decide +kernel) rfl), List.forall_mem_cons.mpr ⟨(gm 107 (by decide +kernel) rfl), fun _ h => absurd h List.not_mem_nil⟩⟩⟩⟩⟩, by decide +kernel, by decide +kernel, by decide +kernel⟩
def fX10_cluster (p1 : Int32) (σ : gS) : Option (Int32 × gS) :=
  bd (fX10_isMember 1 p1 σ) fun x1 σ2 =>
  if x1 = 0 then
    some ((-1000001), σ2)
  else
    gg (¬ (p1 < 0 ∨ 60 ≤ p1.toNatClampNeg)) (
    some (σ2.1 58 p1.toNatClampNeg, σ2))
set_option maxHeartbeats 4000000 in
set_option maxRecDepth 100000 in
theorem pX10_cluster {E : gE} {p1 : Int32} {r : Int32} {σ' : gS} {σ : gS} (h : fX10_cluster p1 σ = some (r, σ')) : gG E mX10_cluster 0 [(0, .ref 0), (1, .int p1)] [] σ (some (.int r)) σ' := by
  unfold fX10_cluster at h
  refine g_aload_n dX10_cluster_0 rfl 0 rfl ?_
  refine g_iconst (v := 1) dX10_cluster_1 (by decide) ?_
  refine g_iload_n dX10_cluster_2 rfl 1 rfl ?_
  obtain ⟨x1, σ2, y3, h⟩ := bd_some h
  refine g_callVr (as := [.int 1, .int p1]) (st := []) (zX10_isMember y3) dX10_cluster_3 gi_0 rfl okX10_cluster_129 (Nat.le_of_ble_eq_true rfl) ?_
  refine g_if_ne (t := 12) dX10_cluster_6 (by decide) (fun c4 => ?_) (fun c4 => ?_)
  · replace h := if_f h c4
    refine g_aload_n dX10_cluster_12 rfl 0 rfl ?_
    refine g_getC (n := 28) dX10_cluster_13 gi_0 rfl fl_RX10_26 ?_
    refine g_getC (n := 58) dX10_cluster_16 gi_28 rfl fl_RX10_140 ?_
    refine g_iload_n dX10_cluster_19 rfl 1 rfl ?_
    obtain ⟨g5, h⟩ := gg_some h
    refine g_iald dX10_cluster_20 gi_58 g5 ?_
    obtain ⟨rfl, rfl⟩ := so_inj h
    exact g_iret dX10_cluster_21 rfl
  · replace h := if_t h c4
    refine g_ldc (v := (-1000001)) dX10_cluster_9 wc_RX10_79 ?_
    obtain ⟨rfl, rfl⟩ := so_inj h
    exact g_iret dX10_cluster_11 rfl
theorem zX10_cluster {E : gE} {p1 : Int32} {r : Int32} {σ σ' : gS} (h : fX10_cluster p1 σ = some (r, σ')) : gC E mX10_cluster [.ref 0, .int p1] σ (some (.int r)) σ' :=
  gC_of (by decide +kernel) rfl (Nat.le_of_ble_eq_true rfl) (pX10_cluster h)
theorem fl_RX10_143 : gFl RX10 143 1 8 := ⟨RX1, TX1, 10, rfl, by decide, ux_1, Or.inr ⟨"LinkageCurves", by decide +kernel⟩⟩
def mX10_mobility : gM := (yX10_mobility, cX10_mobility, RX10, 1, (some .int), 0, 0)
theorem dX10_mobility_0 : decode mX10_mobility.2.1 0 = .ok (.aload_n 0, 1) := by decide +kernel
theorem dX10_mobility_1 : decode mX10_mobility.2.1 1 = .ok (.getfield 26, 3) := by decide +kernel
theorem dX10_mobility_4 : decode mX10_mobility.2.1 4 = .ok (.getfield 143, 3) := by decide +kernel
theorem dX10_mobility_7 : decode mX10_mobility.2.1 7 = .ok (.ireturn, 1) := by decide +kernel
def fX10_mobility (σ : gS) : Option (Int32 × gS) :=
  some (σ.1 28 8, σ)
set_option maxHeartbeats 4000000 in
set_option maxRecDepth 100000 in
theorem pX10_mobility {E : gE} {r : Int32} {σ' : gS} {σ : gS} (h : fX10_mobility σ = some (r, σ')) : gG E mX10_mobility 0 [(0, .ref 0)] [] σ (some (.int r)) σ' := by
  unfold fX10_mobility at h
  refine g_aload_n dX10_mobility_0 rfl 0 rfl ?_
  refine g_getC (n := 28) dX10_mobility_1 gi_0 rfl fl_RX10_26 ?_
  refine g_getI dX10_mobility_4 gi_28 rfl fl_RX10_143 ?_
  obtain ⟨rfl, rfl⟩ := so_inj h
  exact g_iret dX10_mobility_7 rfl
theorem zX10_mobility {E : gE} {r : Int32} {σ σ' : gS} (h : fX10_mobility σ = some (r, σ')) : gC E mX10_mobility [.ref 0] σ (some (.int r)) σ' :=
  gC_of (by decide +kernel) rfl (Nat.le_of_ble_eq_true rfl) (pX10_mobility h)
theorem fl_RX10_146 : gFl RX10 146 4 3 := ⟨RX4, TX4, 7, rfl, by decide, ux_4, Or.inr ⟨"LinkageCurves", by decide +kernel⟩⟩
theorem fl_RX10_149 : gFl RX10 149 4 2 := ⟨RX4, TX4, 7, rfl, by decide, ux_4, Or.inr ⟨"LinkageCurves", by decide +kernel⟩⟩
theorem fl_RX10_152 : gFl RX10 152 4 1 := ⟨RX4, TX4, 7, rfl, by decide, ux_4, Or.inr ⟨"LinkageCurves", by decide +kernel⟩⟩
def mX10_rank : gM := (yX10_rank, cX10_rank, RX10, 2, (some .int), 0, 0)
theorem dX10_rank_0 : decode mX10_rank.2.1 0 = .ok (.iload_n 1, 1) := by decide +kernel
theorem dX10_rank_1 : decode mX10_rank.2.1 1 = .ok (.tableswitch 67 0 2 #[27, 35, 51], 27) := by decide +kernel
theorem dX10_rank_28 : decode mX10_rank.2.1 28 = .ok (.aload_n 0, 1) := by decide +kernel
theorem dX10_rank_29 : decode mX10_rank.2.1 29 = .ok (.getfield 33, 3) := by decide +kernel
theorem dX10_rank_32 : decode mX10_rank.2.1 32 = .ok (.getfield 146, 3) := by decide +kernel
theorem dX10_rank_35 : decode mX10_rank.2.1 35 = .ok (.ireturn, 1) := by decide +kernel
theorem dX10_rank_36 : decode mX10_rank.2.1 36 = .ok (.aload_n 0, 1) := by decide +kernel
theorem dX10_rank_37 : decode mX10_rank.2.1 37 = .ok (.getfield 33, 3) := by decide +kernel
theorem dX10_rank_40 : decode mX10_rank.2.1 40 = .ok (.getfield 149, 3) := by decide +kernel
theorem dX10_rank_43 : decode mX10_rank.2.1 43 = .ok (.aload_n 0, 1) := by decide +kernel
theorem dX10_rank_44 : decode mX10_rank.2.1 44 = .ok (.getfield 33, 3) := by decide +kernel
theorem dX10_rank_47 : decode mX10_rank.2.1 47 = .ok (.getfield 146, 3) := by decide +kernel
theorem dX10_rank_50 : decode mX10_rank.2.1 50 = .ok (.isub, 1) := by decide +kernel
theorem dX10_rank_51 : decode mX10_rank.2.1 51 = .ok (.ireturn, 1) := by decide +kernel
theorem dX10_rank_52 : decode mX10_rank.2.1 52 = .ok (.aload_n 0, 1) := by decide +kernel
theorem dX10_rank_53 : decode mX10_rank.2.1 53 = .ok (.getfield 33, 3) := by decide +kernel
theorem dX10_rank_56 : decode mX10_rank.2.1 56 = .ok (.getfield 152, 3) := by decide +kernel
theorem dX10_rank_59 : decode mX10_rank.2.1 59 = .ok (.aload_n 0, 1) := by decide +kernel
theorem dX10_rank_60 : decode mX10_rank.2.1 60 = .ok (.getfield 33, 3) := by decide +kernel
theorem dX10_rank_63 : decode mX10_rank.2.1 63 = .ok (.getfield 146, 3) := by decide +kernel
theorem dX10_rank_66 : decode mX10_rank.2.1 66 = .ok (.isub, 1) := by decide +kernel
theorem dX10_rank_67 : decode mX10_rank.2.1 67 = .ok (.ireturn, 1) := by decide +kernel
theorem dX10_rank_68 : decode mX10_rank.2.1 68 = .ok (.ldc 79, 2) := by decide +kernel
theorem dX10_rank_70 : decode mX10_rank.2.1 70 = .ok (.ireturn, 1) := by decide +kernel
def fX10_rank (p1 : Int32) (σ : gS) : Option (Int32 × gS) :=
  if p1 = 0 then
    some (σ.1 59 3, σ)
  else
    if p1 = 1 then
    some ((σ.1 59 2) - (σ.1 59 3), σ)
  else
    if p1 = 2 then
    some ((σ.1 59 1) - (σ.1 59 3), σ)
  else
    some ((-1000001), σ)
set_option maxHeartbeats 4000000 in
set_option maxRecDepth 100000 in
theorem pX10_rank {E : gE} {p1 : Int32} {r : Int32} {σ' : gS} {σ : gS} (h : fX10_rank p1 σ = some (r, σ')) : gG E mX10_rank 0 [(0, .ref 0), (1, .int p1)] [] σ (some (.int r)) σ' := by
  unfold fX10_rank at h
  refine g_iload_n dX10_rank_0 rfl 1 rfl ?_
  by_cases c1 : p1 = 0
  · replace h := if_t h c1
    refine g_tabIn (off := 27) (t := 28) dX10_rank_1 (by rw [c1]; decide) (by rw [c1]; decide) (by rw [c1]; first | done | rfl) (by decide) ?_
    refine g_aload_n dX10_rank_28 rfl 0 rfl ?_
    refine g_getC (n := 59) dX10_rank_29 gi_0 rfl fl_RX10_33 ?_
    refine g_getI dX10_rank_32 gi_59 rfl fl_RX10_146 ?_
    obtain ⟨rfl, rfl⟩ := so_inj h
    exact g_iret dX10_rank_35 rfl
  · replace h := if_f h c1
    by_cases c2 : p1 = 1
    · replace h := if_t h c2
      refine g_tabIn (off := 35) (t := 36) dX10_rank_1 (by rw [c2]; decide) (by rw [c2]; decide) (by rw [c2]; first | done | rfl) (by decide) ?_
      refine g_aload_n dX10_rank_36 rfl 0 rfl ?_
      refine g_getC (n := 59) dX10_rank_37 gi_0 rfl fl_RX10_33 ?_
      refine g_getI dX10_rank_40 gi_59 rfl fl_RX10_149 ?_
      refine g_aload_n dX10_rank_43 rfl 0 rfl ?_
      refine g_getC (n := 59) dX10_rank_44 gi_0 rfl fl_RX10_33 ?_
      refine g_getI dX10_rank_47 gi_59 rfl fl_RX10_146 ?_
      refine g_isub dX10_rank_50 ?_
      obtain ⟨rfl, rfl⟩ := so_inj h
      exact g_iret dX10_rank_51 rfl
    · replace h := if_f h c2
      by_cases c3 : p1 = 2
      · replace h := if_t h c3
        refine g_tabIn (off := 51) (t := 52) dX10_rank_1 (by rw [c3]; decide) (by rw [c3]; decide) (by rw [c3]; first | done | rfl) (by decide) ?_
        refine g_aload_n dX10_rank_52 rfl 0 rfl ?_
        refine g_getC (n := 59) dX10_rank_53 gi_0 rfl fl_RX10_33 ?_
        refine g_getI dX10_rank_56 gi_59 rfl fl_RX10_152 ?_
        refine g_aload_n dX10_rank_59 rfl 0 rfl ?_
        refine g_getC (n := 59) dX10_rank_60 gi_0 rfl fl_RX10_33 ?_
        refine g_getI dX10_rank_63 gi_59 rfl fl_RX10_146 ?_
        refine g_isub dX10_rank_66 ?_
        obtain ⟨rfl, rfl⟩ := so_inj h
        exact g_iret dX10_rank_67 rfl
      · replace h := if_f h c3
        have nc1 := lv_neT (a := 0) c1 (by decide)
        have nc2 := lv_neT (a := 1) c2 (by decide)
        have nc3 := lv_neT (a := 2) c3 (by decide)
        refine g_tabOut (t := 68) dX10_rank_1 (by omega) (by decide) ?_
        refine g_ldc (v := (-1000001)) dX10_rank_68 wc_RX10_79 ?_
        obtain ⟨rfl, rfl⟩ := so_inj h
        exact g_iret dX10_rank_70 rfl
theorem zX10_rank {E : gE} {p1 : Int32} {r : Int32} {σ σ' : gS} (h : fX10_rank p1 σ = some (r, σ')) : gC E mX10_rank [.ref 0, .int p1] σ (some (.int r)) σ' :=
  gC_of (by decide +kernel) rfl (Nat.le_of_ble_eq_true rfl) (pX10_rank h)
def mX10_isAxis : gM := (yX10_isAxis, cX10_isAxis, RX10, 1, (some .boolean), 0, 0)
theorem dX10_isAxis_0 : decode mX10_isAxis.2.1 0 = .ok (.iload_n 0, 1) := by decide +kernel
theorem dX10_isAxis_1 : decode mX10_isAxis.2.1 1 = .ok (.ifCond .eq 8, 3) := by decide +kernel
theorem dX10_isAxis_4 : decode mX10_isAxis.2.1 4 = .ok (.iload_n 0, 1) := by decide +kernel
theorem dX10_isAxis_5 : decode mX10_isAxis.2.1 5 = .ok (.iconst 1, 1) := by decide +kernel
theorem dX10_isAxis_6 : decode mX10_isAxis.2.1 6 = .ok (.if_icmp .ne 7, 3) := by decide +kernel
theorem dX10_isAxis_9 : decode mX10_isAxis.2.1 9 = .ok (.iconst 1, 1) := by decide +kernel
theorem dX10_isAxis_10 : decode mX10_isAxis.2.1 10 = .ok (.goto 4, 3) := by decide +kernel
theorem dX10_isAxis_13 : decode mX10_isAxis.2.1 13 = .ok (.iconst 0, 1) := by decide +kernel
theorem dX10_isAxis_14 : decode mX10_isAxis.2.1 14 = .ok (.ireturn, 1) := by decide +kernel
def fX10_isAxis_14 (p1 : Int32) (s0 : Int32) (σ : gS) : Option (Int32 × gS) :=
  gg (s0 = 0 ∨ s0 = 1) (
  some (s0, σ))
set_option maxHeartbeats 4000000 in
set_option maxRecDepth 100000 in
theorem pX10_isAxis_14 {E : gE} {p1 : Int32} {r : Int32} {σ' : gS} {s0 : Int32} {σ : gS} (h : fX10_isAxis_14 p1 s0 σ = some (r, σ')) : gG E mX10_isAxis 14 [] [.int s0] σ (some (.int r)) σ' := by
  unfold fX10_isAxis_14 at h
  obtain ⟨g1, h⟩ := gg_some h
  obtain ⟨rfl, rfl⟩ := so_inj h
  exact g_zret dX10_isAxis_14 rfl g1
def fX10_isAxis_9 (p1 : Int32) (σ : gS) : Option (Int32 × gS) :=
  fX10_isAxis_14 p1 1 σ
set_option maxHeartbeats 4000000 in
set_option maxRecDepth 100000 in
theorem pX10_isAxis_9 {E : gE} {p1 : Int32} {r : Int32} {σ' : gS} {σ : gS} (h : fX10_isAxis_9 p1 σ = some (r, σ')) : gG E mX10_isAxis 9 [] [] σ (some (.int r)) σ' := by
  unfold fX10_isAxis_9 at h
  refine g_iconst (v := 1) dX10_isAxis_9 (by decide) ?_
  refine g_goto (t := 14) dX10_isAxis_10 (by decide) ?_
  exact pX10_isAxis_14 h
def fX10_isAxis (p1 : Int32) (σ : gS) : Option (Int32 × gS) :=
  if p1 = 0 then
    fX10_isAxis_9 p1 σ
  else
    if p1 = 1 then
      fX10_isAxis_9 p1 σ
    else
      fX10_isAxis_14 p1 0 σ
set_option maxHeartbeats 4000000 in
set_option maxRecDepth 100000 in
theorem pX10_isAxis {E : gE} {p1 : Int32} {r : Int32} {σ' : gS} {σ : gS} (h : fX10_isAxis p1 σ = some (r, σ')) : gG E mX10_isAxis 0 [(0, .int p1)] [] σ (some (.int r)) σ' := by
  unfold fX10_isAxis at h
  refine g_iload_n dX10_isAxis_0 rfl 0 rfl ?_
  refine g_if_eq (t := 9) dX10_isAxis_1 (by decide) (fun c1 => ?_) (fun c1 => ?_)
  · replace h := if_t h c1
    refine g_sub [] rfl ?_
    exact pX10_isAxis_9 h
  · replace h := if_f h c1
    refine g_iload_n dX10_isAxis_4 rfl 0 rfl ?_
    refine g_iconst (v := 1) dX10_isAxis_5 (by decide) ?_
    refine g_icmp_ne (t := 13) dX10_isAxis_6 (by decide) (fun c2 => ?_) (fun c2 => ?_)
    · replace h := if_f h c2
      refine g_iconst (v := 0) dX10_isAxis_13 (by decide) ?_
      refine g_sub [] rfl ?_
      exact pX10_isAxis_14 h
    · replace h := if_t h c2
      refine g_sub [] rfl ?_
      exact pX10_isAxis_9 h
theorem zX10_isAxis {E : gE} {p1 : Int32} {r : Int32} {σ σ' : gS} (h : fX10_isAxis p1 σ = some (r, σ')) : gC E mX10_isAxis [.int p1] σ (some (.int r)) σ' :=
  gC_of (by decide +kernel) rfl (Nat.le_of_ble_eq_true rfl) (pX10_isAxis h)
def mX10_motion : gM := (yX10_motion, cX10_motion, RX10, 4, (some .int), 2, 47)
theorem dX10_motion_0 : decode mX10_motion.2.1 0 = .ok (.iload_n 1, 1) := by decide +kernel
theorem dX10_motion_1 : decode mX10_motion.2.1 1 = .ok (.ifCond .lt 38, 3) := by decide +kernel
theorem dX10_motion_4 : decode mX10_motion.2.1 4 = .ok (.iload_n 1, 1) := by decide +kernel
theorem dX10_motion_5 : decode mX10_motion.2.1 5 = .ok (.aload_n 0, 1) := by decide +kernel
theorem dX10_motion_6 : decode mX10_motion.2.1 6 = .ok (.getfield 33, 3) := by decide +kernel
theorem dX10_motion_9 : decode mX10_motion.2.1 9 = .ok (.getfield 149, 3) := by decide +kernel
theorem dX10_motion_12 : decode mX10_motion.2.1 12 = .ok (.aload_n 0, 1) := by decide +kernel
theorem dX10_motion_13 : decode mX10_motion.2.1 13 = .ok (.getfield 33, 3) := by decide +kernel
theorem dX10_motion_16 : decode mX10_motion.2.1 16 = .ok (.getfield 146, 3) := by decide +kernel
theorem dX10_motion_19 : decode mX10_motion.2.1 19 = .ok (.isub, 1) := by decide +kernel
theorem dX10_motion_20 : decode mX10_motion.2.1 20 = .ok (.if_icmp .ge 19, 3) := by decide +kernel
theorem dX10_motion_23 : decode mX10_motion.2.1 23 = .ok (.aload_n 0, 1) := by decide +kernel
theorem dX10_motion_24 : decode mX10_motion.2.1 24 = .ok (.iconst 0, 1) := by decide +kernel
theorem dX10_motion_25 : decode mX10_motion.2.1 25 = .ok (.iload_n 2, 1) := by decide +kernel
theorem dX10_motion_26 : decode mX10_motion.2.1 26 = .ok (.invokevirtual 129, 3) := by decide +kernel
theorem dX10_motion_29 : decode mX10_motion.2.1 29 = .ok (.ifCond .eq 10, 3) := by decide +kernel
theorem dX10_motion_32 : decode mX10_motion.2.1 32 = .ok (.iload_n 3, 1) := by decide +kernel
theorem dX10_motion_33 : decode mX10_motion.2.1 33 = .ok (.invokestatic 154, 3) := by decide +kernel
theorem dX10_motion_36 : decode mX10_motion.2.1 36 = .ok (.ifCond .ne 6, 3) := by decide +kernel
theorem dX10_motion_39 : decode mX10_motion.2.1 39 = .ok (.ldc 79, 2) := by decide +kernel
theorem dX10_motion_41 : decode mX10_motion.2.1 41 = .ok (.ireturn, 1) := by decide +kernel
theorem dX10_motion_42 : decode mX10_motion.2.1 42 = .ok (.aload_n 0, 1) := by decide +kernel
theorem dX10_motion_43 : decode mX10_motion.2.1 43 = .ok (.getfield 33, 3) := by decide +kernel
theorem dX10_motion_46 : decode mX10_motion.2.1 46 = .ok (.iload_n 1, 1) := by decide +kernel
theorem dX10_motion_47 : decode mX10_motion.2.1 47 = .ok (.iload_n 2, 1) := by decide +kernel
theorem dX10_motion_48 : decode mX10_motion.2.1 48 = .ok (.iload_n 3, 1) := by decide +kernel
theorem dX10_motion_49 : decode mX10_motion.2.1 49 = .ok (.invokevirtual 157, 3) := by decide +kernel
theorem dX10_motion_52 : decode mX10_motion.2.1 52 = .ok (.ireturn, 1) := by decide +kernel
theorem okX10_motion_129 : gOkV mX10_motion mX10_isMember 129 2 := ⟨List.forall_mem_cons.mpr ⟨(gm 863 (by decide +kernel) rfl), List.forall_mem_cons.mpr ⟨(gm 860 (by decide +kernel) rfl), List.forall_mem_cons.mpr ⟨(gm 862 (by decide +kernel) rfl), List.forall_mem_cons.mpr ⟨(gm 39 (by decide +kernel) rfl), List.forall_mem_cons.mpr ⟨(gm 107 (by decide +kernel) rfl), fun _ h => absurd h List.not_mem_nil⟩⟩⟩⟩⟩, by decide +kernel, by decide +kernel, by decide +kernel⟩
theorem okX10_motion_154 : gOkS mX10_motion mX10_isAxis 154 1 := ⟨List.forall_mem_cons.mpr ⟨(gm 891 (by decide +kernel) rfl), List.forall_mem_cons.mpr ⟨(gm 889 (by decide +kernel) rfl), List.forall_mem_cons.mpr ⟨(gm 890 (by decide +kernel) rfl), List.forall_mem_cons.mpr ⟨(gm 107 (by decide +kernel) rfl), fun _ h => absurd h List.not_mem_nil⟩⟩⟩⟩, by decide +kernel, by decide +kernel, by decide +kernel⟩
theorem okX10_motion_157 : gOkV mX10_motion mX4_motionAt 157 3 := ⟨List.forall_mem_cons.mpr ⟨(gm 895 (by decide +kernel) rfl), List.forall_mem_cons.mpr ⟨(gm 892 (by decide +kernel) rfl), List.forall_mem_cons.mpr ⟨(gm 893 (by decide +kernel) rfl), List.forall_mem_cons.mpr ⟨(gm 894 (by decide +kernel) rfl), List.forall_mem_cons.mpr ⟨(gm 115 (by decide +kernel) rfl), fun _ h => absurd h List.not_mem_nil⟩⟩⟩⟩⟩, by decide +kernel, by decide +kernel, by decide +kernel⟩
def fX10_motion_39 (p1 : Int32) (p2 : Int32) (p3 : Int32) (σ : gS) : Option (Int32 × gS) :=
  some ((-1000001), σ)
set_option maxHeartbeats 4000000 in
set_option maxRecDepth 100000 in
theorem pX10_motion_39 {E : gE} {p1 : Int32} {p2 : Int32} {p3 : Int32} {r : Int32} {σ' : gS} {σ : gS} (h : fX10_motion_39 p1 p2 p3 σ = some (r, σ')) : gG E mX10_motion 39 [] [] σ (some (.int r)) σ' := by
  unfold fX10_motion_39 at h
  refine g_ldc (v := (-1000001)) dX10_motion_39 wc_RX10_79 ?_
  obtain ⟨rfl, rfl⟩ := so_inj h
  exact g_iret dX10_motion_41 rfl
def fX10_motion (p1 : Int32) (p2 : Int32) (p3 : Int32) (σ : gS) : Option (Int32 × gS) :=
  if p1 < 0 then
    fX10_motion_39 p1 p2 p3 σ
  else
    if ((σ.1 59 2) - (σ.1 59 3)) ≤ p1 then
      fX10_motion_39 p1 p2 p3 σ
    else
      bd (fX10_isMember 0 p2 σ) fun x3 σ4 =>
      if x3 = 0 then
        fX10_motion_39 p1 p2 p3 σ4
      else
        bd (fX10_isAxis p3 σ4) fun x7 σ8 =>
        if x7 = 0 then
          fX10_motion_39 p1 p2 p3 σ8
        else
          bd (fX4_motionAt p1 p2 p3 σ8) fun x11 σ12 =>
          some (x11, σ12)
set_option maxHeartbeats 4000000 in
set_option maxRecDepth 100000 in
theorem pX10_motion {E : gE} {p1 : Int32} {p2 : Int32} {p3 : Int32} {r : Int32} {σ' : gS} {σ : gS} (h : fX10_motion p1 p2 p3 σ = some (r, σ')) : gG E mX10_motion 0 [(0, .ref 0), (1, .int p1), (2, .int p2), (3, .int p3)] [] σ (some (.int r)) σ' := by
  unfold fX10_motion at h
  refine g_iload_n dX10_motion_0 rfl 1 rfl ?_
  refine g_if_lt (t := 39) dX10_motion_1 (by decide) (fun c1 => ?_) (fun c1 => ?_)
  · replace h := if_t h c1
    refine g_sub [] rfl ?_
    exact pX10_motion_39 h
  · replace h := if_f h c1
    refine g_iload_n dX10_motion_4 rfl 1 rfl ?_
    refine g_aload_n dX10_motion_5 rfl 0 rfl ?_
    refine g_getC (n := 59) dX10_motion_6 gi_0 rfl fl_RX10_33 ?_
    refine g_getI dX10_motion_9 gi_59 rfl fl_RX10_149 ?_
    refine g_aload_n dX10_motion_12 rfl 0 rfl ?_
    refine g_getC (n := 59) dX10_motion_13 gi_0 rfl fl_RX10_33 ?_
    refine g_getI dX10_motion_16 gi_59 rfl fl_RX10_146 ?_
    refine g_isub dX10_motion_19 ?_
    refine g_icmp_ge (t := 39) dX10_motion_20 (by decide) (fun c2 => ?_) (fun c2 => ?_)
    · replace h := if_t h c2
      refine g_sub [] rfl ?_
      exact pX10_motion_39 h
    · replace h := if_f h c2
      refine g_aload_n dX10_motion_23 rfl 0 rfl ?_
      refine g_iconst (v := 0) dX10_motion_24 (by decide) ?_
      refine g_iload_n dX10_motion_25 rfl 2 rfl ?_
      obtain ⟨x3, σ4, y5, h⟩ := bd_some h
      refine g_callVr (as := [.int 0, .int p2]) (st := []) (zX10_isMember y5) dX10_motion_26 gi_0 rfl okX10_motion_129 (Nat.le_of_ble_eq_true rfl) ?_
      refine g_if_eq (t := 39) dX10_motion_29 (by decide) (fun c6 => ?_) (fun c6 => ?_)
      · replace h := if_t h c6
        refine g_sub [] rfl ?_
        exact pX10_motion_39 h
      · replace h := if_f h c6
        refine g_iload_n dX10_motion_32 rfl 3 rfl ?_
        obtain ⟨x7, σ8, y9, h⟩ := bd_some h
        refine g_callSr (as := [.int p3]) (st := []) (zX10_isAxis y9) dX10_motion_33 okX10_motion_154 (Nat.le_of_ble_eq_true rfl) ?_
        refine g_if_ne (t := 42) dX10_motion_36 (by decide) (fun c10 => ?_) (fun c10 => ?_)
        · replace h := if_f h c10
          refine g_aload_n dX10_motion_42 rfl 0 rfl ?_
          refine g_getC (n := 59) dX10_motion_43 gi_0 rfl fl_RX10_33 ?_
          refine g_iload_n dX10_motion_46 rfl 1 rfl ?_
          refine g_iload_n dX10_motion_47 rfl 2 rfl ?_
          refine g_iload_n dX10_motion_48 rfl 3 rfl ?_
          obtain ⟨x11, σ12, y13, h⟩ := bd_some h
          refine g_callVr (as := [.int p1, .int p2, .int p3]) (st := []) (zX4_motionAt y13) dX10_motion_49 gi_59 rfl okX10_motion_157 (Nat.le_of_ble_eq_true rfl) ?_
          obtain ⟨rfl, rfl⟩ := so_inj h
          exact g_iret dX10_motion_52 rfl
        · replace h := if_t h c10
          refine g_sub [] rfl ?_
          exact pX10_motion_39 h
theorem zX10_motion {E : gE} {p1 : Int32} {p2 : Int32} {p3 : Int32} {r : Int32} {σ σ' : gS} (h : fX10_motion p1 p2 p3 σ = some (r, σ')) : gC E mX10_motion [.ref 0, .int p1, .int p2, .int p3] σ (some (.int r)) σ' :=
  gC_of (by decide +kernel) rfl (Nat.le_of_ble_eq_true rfl) (pX10_motion h)
def mX10_isStep : gM := (yX10_isStep, cX10_isStep, RX10, 1, (some .boolean), 0, 0)
theorem dX10_isStep_0 : decode mX10_isStep.2.1 0 = .ok (.iload_n 0, 1) := by decide +kernel
theorem dX10_isStep_1 : decode mX10_isStep.2.1 1 = .ok (.ifCond .lt 14, 3) := by decide +kernel
theorem dX10_isStep_4 : decode mX10_isStep.2.1 4 = .ok (.iload_n 0, 1) := by decide +kernel
theorem dX10_isStep_5 : decode mX10_isStep.2.1 5 = .ok (.sipush 256, 3) := by decide +kernel
theorem dX10_isStep_8 : decode mX10_isStep.2.1 8 = .ok (.if_icmp .ge 7, 3) := by decide +kernel
theorem dX10_isStep_11 : decode mX10_isStep.2.1 11 = .ok (.iconst 1, 1) := by decide +kernel
theorem dX10_isStep_12 : decode mX10_isStep.2.1 12 = .ok (.goto 4, 3) := by decide +kernel
theorem dX10_isStep_15 : decode mX10_isStep.2.1 15 = .ok (.iconst 0, 1) := by decide +kernel
theorem dX10_isStep_16 : decode mX10_isStep.2.1 16 = .ok (.ireturn, 1) := by decide +kernel
def fX10_isStep_16 (p1 : Int32) (s0 : Int32) (σ : gS) : Option (Int32 × gS) :=
  gg (s0 = 0 ∨ s0 = 1) (
  some (s0, σ))
set_option maxHeartbeats 4000000 in
set_option maxRecDepth 100000 in
theorem pX10_isStep_16 {E : gE} {p1 : Int32} {r : Int32} {σ' : gS} {s0 : Int32} {σ : gS} (h : fX10_isStep_16 p1 s0 σ = some (r, σ')) : gG E mX10_isStep 16 [] [.int s0] σ (some (.int r)) σ' := by
  unfold fX10_isStep_16 at h
  obtain ⟨g1, h⟩ := gg_some h
  obtain ⟨rfl, rfl⟩ := so_inj h
  exact g_zret dX10_isStep_16 rfl g1
def fX10_isStep_15 (p1 : Int32) (σ : gS) : Option (Int32 × gS) :=
  fX10_isStep_16 p1 0 σ
set_option maxHeartbeats 4000000 in
set_option maxRecDepth 100000 in
theorem pX10_isStep_15 {E : gE} {p1 : Int32} {r : Int32} {σ' : gS} {σ : gS} (h : fX10_isStep_15 p1 σ = some (r, σ')) : gG E mX10_isStep 15 [] [] σ (some (.int r)) σ' := by
  unfold fX10_isStep_15 at h
  refine g_iconst (v := 0) dX10_isStep_15 (by decide) ?_
  exact pX10_isStep_16 h
def fX10_isStep (p1 : Int32) (σ : gS) : Option (Int32 × gS) :=
  if p1 < 0 then
    fX10_isStep_15 p1 σ
  else
    if 256 ≤ p1 then
      fX10_isStep_15 p1 σ
    else
      fX10_isStep_16 p1 1 σ
set_option maxHeartbeats 4000000 in
set_option maxRecDepth 100000 in
theorem pX10_isStep {E : gE} {p1 : Int32} {r : Int32} {σ' : gS} {σ : gS} (h : fX10_isStep p1 σ = some (r, σ')) : gG E mX10_isStep 0 [(0, .int p1)] [] σ (some (.int r)) σ' := by
  unfold fX10_isStep at h
  refine g_iload_n dX10_isStep_0 rfl 0 rfl ?_
  refine g_if_lt (t := 15) dX10_isStep_1 (by decide) (fun c1 => ?_) (fun c1 => ?_)
  · replace h := if_t h c1
    refine g_sub [] rfl ?_
    exact pX10_isStep_15 h
  · replace h := if_f h c1
    refine g_iload_n dX10_isStep_4 rfl 0 rfl ?_
    refine g_sipush (v := 256) dX10_isStep_5 (by decide) ?_
    refine g_icmp_ge (t := 15) dX10_isStep_8 (by decide) (fun c2 => ?_) (fun c2 => ?_)
    · replace h := if_t h c2
      refine g_sub [] rfl ?_
      exact pX10_isStep_15 h
    · replace h := if_f h c2
      refine g_iconst (v := 1) dX10_isStep_11 (by decide) ?_
      refine g_goto (t := 16) dX10_isStep_12 (by decide) ?_
      refine g_sub [] rfl ?_
      exact pX10_isStep_16 h
theorem zX10_isStep {E : gE} {p1 : Int32} {r : Int32} {σ σ' : gS} (h : fX10_isStep p1 σ = some (r, σ')) : gC E mX10_isStep [.int p1] σ (some (.int r)) σ' :=
  gC_of (by decide +kernel) rfl (Nat.le_of_ble_eq_true rfl) (pX10_isStep h)
theorem fl_RX10_164 : gFl RX10 164 3 8 := ⟨RX3, TX3, 10, rfl, by decide, ux_3, Or.inr ⟨"LinkageCurves", by decide +kernel⟩⟩
theorem wc_RX10_167 : Cond.constant RX10 167 (-1000000) ∈ gWS := (gm 903 (by decide +kernel) rfl)
theorem fl_RX10_169 : gFl RX10 169 9 1 := ⟨RX9, TX9, 8, rfl, by decide, ux_9, Or.inr ⟨"LinkageCurves", by decide +kernel⟩⟩
theorem fl_RX10_47 : gFl RX10 47 10 5 := ⟨RX10, TX10, 12, rfl, by decide, ux_10, Or.inl (gm 531 (by decide +kernel) rfl)⟩
theorem wc_RX10_168 : Cond.constant RX10 168 (-1000002) ∈ gWS := (gm 904 (by decide +kernel) rfl)
def mX10_pose : gM := (yX10_pose, cX10_pose, RX10, 2, (some .int), 4, 98)
theorem dX10_pose_0 : decode mX10_pose.2.1 0 = .ok (.iload_n 1, 1) := by decide +kernel
theorem dX10_pose_1 : decode mX10_pose.2.1 1 = .ok (.invokestatic 161, 3) := by decide +kernel
theorem dX10_pose_4 : decode mX10_pose.2.1 4 = .ok (.ifCond .ne 6, 3) := by decide +kernel
theorem dX10_pose_7 : decode mX10_pose.2.1 7 = .ok (.ldc 79, 2) := by decide +kernel
theorem dX10_pose_9 : decode mX10_pose.2.1 9 = .ok (.ireturn, 1) := by decide +kernel
theorem dX10_pose_10 : decode mX10_pose.2.1 10 = .ok (.aload_n 0, 1) := by decide +kernel
theorem dX10_pose_11 : decode mX10_pose.2.1 11 = .ok (.getfield 19, 3) := by decide +kernel
theorem dX10_pose_14 : decode mX10_pose.2.1 14 = .ok (.getfield 164, 3) := by decide +kernel
theorem dX10_pose_17 : decode mX10_pose.2.1 17 = .ok (.ldc 167, 2) := by decide +kernel
theorem dX10_pose_19 : decode mX10_pose.2.1 19 = .ok (.if_icmp .ne 6, 3) := by decide +kernel
theorem dX10_pose_22 : decode mX10_pose.2.1 22 = .ok (.ldc 168, 2) := by decide +kernel
theorem dX10_pose_24 : decode mX10_pose.2.1 24 = .ok (.ireturn, 1) := by decide +kernel
theorem dX10_pose_25 : decode mX10_pose.2.1 25 = .ok (.aload_n 0, 1) := by decide +kernel
theorem dX10_pose_26 : decode mX10_pose.2.1 26 = .ok (.getfield 40, 3) := by decide +kernel
theorem dX10_pose_29 : decode mX10_pose.2.1 29 = .ok (.aload_n 0, 1) := by decide +kernel
theorem dX10_pose_30 : decode mX10_pose.2.1 30 = .ok (.getfield 19, 3) := by decide +kernel
theorem dX10_pose_33 : decode mX10_pose.2.1 33 = .ok (.iload_n 1, 1) := by decide +kernel
theorem dX10_pose_34 : decode mX10_pose.2.1 34 = .ok (.aload_n 0, 1) := by decide +kernel
theorem dX10_pose_35 : decode mX10_pose.2.1 35 = .ok (.getfield 40, 3) := by decide +kernel
theorem dX10_pose_38 : decode mX10_pose.2.1 38 = .ok (.getfield 169, 3) := by decide +kernel
theorem dX10_pose_41 : decode mX10_pose.2.1 41 = .ok (.aload_n 0, 1) := by decide +kernel
theorem dX10_pose_42 : decode mX10_pose.2.1 42 = .ok (.getfield 47, 3) := by decide +kernel
theorem dX10_pose_45 : decode mX10_pose.2.1 45 = .ok (.invokevirtual 172, 3) := by decide +kernel
theorem dX10_pose_48 : decode mX10_pose.2.1 48 = .ok (.aload_n 0, 1) := by decide +kernel
theorem dX10_pose_49 : decode mX10_pose.2.1 49 = .ok (.iconst 1, 1) := by decide +kernel
theorem dX10_pose_50 : decode mX10_pose.2.1 50 = .ok (.putfield 98, 3) := by decide +kernel
theorem dX10_pose_53 : decode mX10_pose.2.1 53 = .ok (.aload_n 0, 1) := by decide +kernel
theorem dX10_pose_54 : decode mX10_pose.2.1 54 = .ok (.getfield 47, 3) := by decide +kernel
theorem dX10_pose_57 : decode mX10_pose.2.1 57 = .ok (.aload_n 0, 1) := by decide +kernel
theorem dX10_pose_58 : decode mX10_pose.2.1 58 = .ok (.getfield 19, 3) := by decide +kernel
theorem dX10_pose_61 : decode mX10_pose.2.1 61 = .ok (.iconst 0, 1) := by decide +kernel
theorem dX10_pose_62 : decode mX10_pose.2.1 62 = .ok (.invokevirtual 176, 3) := by decide +kernel
theorem dX10_pose_65 : decode mX10_pose.2.1 65 = .ok (.invokevirtual 180, 3) := by decide +kernel
theorem dX10_pose_68 : decode mX10_pose.2.1 68 = .ok (.ireturn, 1) := by decide +kernel
theorem okX10_pose_161 : gOkS mX10_pose mX10_isStep 161 1 := ⟨List.forall_mem_cons.mpr ⟨(gm 902 (by decide +kernel) rfl), List.forall_mem_cons.mpr ⟨(gm 900 (by decide +kernel) rfl), List.forall_mem_cons.mpr ⟨(gm 901 (by decide +kernel) rfl), List.forall_mem_cons.mpr ⟨(gm 107 (by decide +kernel) rfl), fun _ h => absurd h List.not_mem_nil⟩⟩⟩⟩, by decide +kernel, by decide +kernel, by decide +kernel⟩
theorem okX10_pose_172 : gOkV mX10_pose mX9_arrange 172 4 := ⟨List.forall_mem_cons.mpr ⟨(gm 908 (by decide +kernel) rfl), List.forall_mem_cons.mpr ⟨(gm 905 (by decide +kernel) rfl), List.forall_mem_cons.mpr ⟨(gm 906 (by decide +kernel) rfl), List.forall_mem_cons.mpr ⟨(gm 907 (by decide +kernel) rfl), List.forall_mem_cons.mpr ⟨(gm 116 (by decide +kernel) rfl), fun _ h => absurd h List.not_mem_nil⟩⟩⟩⟩⟩, by decide +kernel, by decide +kernel, by decide +kernel⟩
theorem okX10_pose_176 : gOkV mX10_pose mX3_size 176 1 := ⟨List.forall_mem_cons.mpr ⟨(gm 737 (by decide +kernel) rfl), List.forall_mem_cons.mpr ⟨(gm 864 (by decide +kernel) rfl), List.forall_mem_cons.mpr ⟨(gm 735 (by decide +kernel) rfl), List.forall_mem_cons.mpr ⟨(gm 736 (by decide +kernel) rfl), List.forall_mem_cons.mpr ⟨(gm 109 (by decide +kernel) rfl), fun _ h => absurd h List.not_mem_nil⟩⟩⟩⟩⟩, by decide +kernel, by decide +kernel, by decide +kernel⟩
theorem okX10_pose_180 : gOkV mX10_pose mX5_howMany 180 1 := ⟨List.forall_mem_cons.mpr ⟨(gm 944 (by decide +kernel) rfl), List.forall_mem_cons.mpr ⟨(gm 941 (by decide +kernel) rfl), List.forall_mem_cons.mpr ⟨(gm 942 (by decide +kernel) rfl), List.forall_mem_cons.mpr ⟨(gm 943 (by decide +kernel) rfl), List.forall_mem_cons.mpr ⟨(gm 117 (by decide +kernel) rfl), fun _ h => absurd h List.not_mem_nil⟩⟩⟩⟩⟩, by decide +kernel, by decide +kernel, by decide +kernel⟩
def fX10_pose (p1 : Int32) (σ : gS) : Option (Int32 × gS) :=
  bd (fX10_isStep p1 σ) fun x1 σ2 =>
  if x1 = 0 then
    some ((-1000001), σ2)
  else
    bnd (σ2.2.2 0 1) fun x5 =>
    gg (x5 = 4 ∨ x5 = 16) (
    if (σ2.1 x5 8) = (-1000000) then
      some ((-1000002), σ2)
    else
      bnd (σ2.2.2 0 1) fun x8 =>
      gg (x8 = 4 ∨ x8 = 16) (
      bd (fX9_arrange x8 p1 (σ2.1 124 1) 132 σ2) fun _ σ10 =>
      bnd (gsI σ10 0 6 1) fun σ12 =>
      bnd (σ12.2.2 0 1) fun x13 =>
      gg (x13 = 4 ∨ x13 = 16) (
      bd (fX3_size x13 0 σ12) fun x15 σ16 =>
      bd (fX5_howMany 132 x15 σ16) fun x18 σ19 =>
      some (x18, σ19))))
set_option maxHeartbeats 4000000 in
set_option maxRecDepth 100000 in
theorem pX10_pose {E : gE} {p1 : Int32} {r : Int32} {σ' : gS} {σ : gS} (h : fX10_pose p1 σ = some (r, σ')) : gG E mX10_pose 0 [(0, .ref 0), (1, .int p1)] [] σ (some (.int r)) σ' := by
  unfold fX10_pose at h
  refine g_iload_n dX10_pose_0 rfl 1 rfl ?_
  obtain ⟨x1, σ2, y3, h⟩ := bd_some h
  refine g_callSr (as := [.int p1]) (st := []) (zX10_isStep y3) dX10_pose_1 okX10_pose_161 (Nat.le_of_ble_eq_true rfl) ?_
  refine g_if_ne (t := 10) dX10_pose_4 (by decide) (fun c4 => ?_) (fun c4 => ?_)
  · replace h := if_f h c4
    refine g_aload_n dX10_pose_10 rfl 0 rfl ?_
    refine g_getR dX10_pose_11 gi_0 rfl fl_RX10_19 ?_
    obtain ⟨x5, ex5, h⟩ := bnd_nm h
    refine g_topr ex5 ?_
    obtain ⟨g6, h⟩ := gg_some h
    refine g_getI dX10_pose_14 (gi_lk g6) rfl fl_RX10_164 ?_
    refine g_ldc (v := (-1000000)) dX10_pose_17 wc_RX10_167 ?_
    refine g_icmp_ne (t := 25) dX10_pose_19 (by decide) (fun c7 => ?_) (fun c7 => ?_)
    · replace h := if_f h c7
      refine g_aload_n dX10_pose_25 rfl 0 rfl ?_
      refine g_getC (n := 124) dX10_pose_26 gi_0 rfl fl_RX10_40 ?_
      refine g_aload_n dX10_pose_29 rfl 0 rfl ?_
      refine g_getR dX10_pose_30 gi_0 rfl fl_RX10_19 ?_
      obtain ⟨x8, ex8, h⟩ := bnd_nm h
      refine g_topr ex8 ?_
      obtain ⟨g9, h⟩ := gg_some h
      refine g_iload_n dX10_pose_33 rfl 1 rfl ?_
      refine g_aload_n dX10_pose_34 rfl 0 rfl ?_
      refine g_getC (n := 124) dX10_pose_35 gi_0 rfl fl_RX10_40 ?_
      refine g_getI dX10_pose_38 gi_124 rfl fl_RX10_169 ?_
      refine g_aload_n dX10_pose_41 rfl 0 rfl ?_
      refine g_getC (n := 132) dX10_pose_42 gi_0 rfl fl_RX10_47 ?_
      obtain ⟨_, σ10, y11, h⟩ := bd_some h
      refine g_callVv (as := [.ref x8, .int p1, .int (σ2.1 124 1), .ref 132]) (st := []) (zX9_arrange g9 (show gPl 132 from Or.inl rfl) y11) dX10_pose_45 gi_124 rfl okX10_pose_172 (Nat.le_of_ble_eq_true rfl) ?_
      refine g_aload_n dX10_pose_48 rfl 0 rfl ?_
      refine g_iconst (v := 1) dX10_pose_49 (by decide) ?_
      obtain ⟨σ12, eσ12, h⟩ := bnd_nm h
      refine g_putZ dX10_pose_50 gi_0 rfl fp_RX10_98 (Or.inr rfl) (g_st eσ12 ?_)
      refine g_aload_n dX10_pose_53 rfl 0 rfl ?_
      refine g_getC (n := 132) dX10_pose_54 gi_0 rfl fl_RX10_47 ?_
      refine g_aload_n dX10_pose_57 rfl 0 rfl ?_
      refine g_getR dX10_pose_58 gi_0 rfl fl_RX10_19 ?_
      obtain ⟨x13, ex13, h⟩ := bnd_nm h
      refine g_topr ex13 ?_
      obtain ⟨g14, h⟩ := gg_some h
      refine g_iconst (v := 0) dX10_pose_61 (by decide) ?_
      obtain ⟨x15, σ16, y17, h⟩ := bd_some h
      refine g_callVr (as := [.int 0]) (st := [.ref 132]) (zX3_size g14 y17) dX10_pose_62 (gi_lk g14) rfl okX10_pose_176 (Nat.le_of_ble_eq_true rfl) ?_
      obtain ⟨x18, σ19, y20, h⟩ := bd_some h
      refine g_callVr (as := [.int x15]) (st := []) (zX5_howMany (show gPl 132 from Or.inl rfl) y20) dX10_pose_65 gi_132 rfl okX10_pose_180 (Nat.le_of_ble_eq_true rfl) ?_
      obtain ⟨rfl, rfl⟩ := so_inj h
      exact g_iret dX10_pose_68 rfl
    · replace h := if_t h c7
      refine g_ldc (v := (-1000002)) dX10_pose_22 wc_RX10_168 ?_
      obtain ⟨rfl, rfl⟩ := so_inj h
      exact g_iret dX10_pose_24 rfl
  · replace h := if_t h c4
    refine g_ldc (v := (-1000001)) dX10_pose_7 wc_RX10_79 ?_
    obtain ⟨rfl, rfl⟩ := so_inj h
    exact g_iret dX10_pose_9 rfl
theorem zX10_pose {E : gE} {p1 : Int32} {r : Int32} {σ σ' : gS} (h : fX10_pose p1 σ = some (r, σ')) : gC E mX10_pose [.ref 0, .int p1] σ (some (.int r)) σ' :=
  gC_of (by decide +kernel) rfl (Nat.le_of_ble_eq_true rfl) (pX10_pose h)
theorem wl_RX10_183 : Cond.constantLong RX10 183 (-1000001) ∈ gWS := (gm 949 (by decide +kernel) rfl)
theorem fl_RX10_98 : gFl RX10 98 10 6 := ⟨RX10, TX10, 12, rfl, by decide, ux_10, Or.inl (gm 532 (by decide +kernel) rfl)⟩
theorem fl_RX10_187 : gFl RX10 187 5 2 := ⟨RX5, TX5, 3, rfl, by decide, ux_5, Or.inr ⟨"LinkageCurves", by decide +kernel⟩⟩
theorem fl_RX10_196 : gFl RX10 196 5 1 := ⟨RX5, TX5, 3, rfl, by decide, ux_5, Or.inr ⟨"LinkageCurves", by decide +kernel⟩⟩
theorem fl_RX10_192 : gFl RX10 192 5 0 := ⟨RX5, TX5, 3, rfl, by decide, ux_5, Or.inr ⟨"LinkageCurves", by decide +kernel⟩⟩
theorem wl_RX10_190 : Cond.constantLong RX10 190 (-1000000) ∈ gWS := (gm 951 (by decide +kernel) rfl)
theorem wl_RX10_185 : Cond.constantLong RX10 185 (-1000002) ∈ gWS := (gm 950 (by decide +kernel) rfl)
def mX10_at : gM := (yX10_at, cX10_at, RX10, 3, (some .long), 2, 43)
theorem dX10_at_0 : decode mX10_at.2.1 0 = .ok (.aload_n 0, 1) := by decide +kernel
theorem dX10_at_1 : decode mX10_at.2.1 1 = .ok (.iconst 0, 1) := by decide +kernel
theorem dX10_at_2 : decode mX10_at.2.1 2 = .ok (.iload_n 1, 1) := by decide +kernel
theorem dX10_at_3 : decode mX10_at.2.1 3 = .ok (.invokevirtual 129, 3) := by decide +kernel
theorem dX10_at_6 : decode mX10_at.2.1 6 = .ok (.ifCond .eq 10, 3) := by decide +kernel
theorem dX10_at_9 : decode mX10_at.2.1 9 = .ok (.iload_n 2, 1) := by decide +kernel
theorem dX10_at_10 : decode mX10_at.2.1 10 = .ok (.invokestatic 154, 3) := by decide +kernel
theorem dX10_at_13 : decode mX10_at.2.1 13 = .ok (.ifCond .ne 7, 3) := by decide +kernel
theorem dX10_at_16 : decode mX10_at.2.1 16 = .ok (.ldc2_w 183, 3) := by decide +kernel
theorem dX10_at_19 : decode mX10_at.2.1 19 = .ok (.lreturn, 1) := by decide +kernel
theorem dX10_at_20 : decode mX10_at.2.1 20 = .ok (.aload_n 0, 1) := by decide +kernel
theorem dX10_at_21 : decode mX10_at.2.1 21 = .ok (.getfield 98, 3) := by decide +kernel
theorem dX10_at_24 : decode mX10_at.2.1 24 = .ok (.ifCond .ne 7, 3) := by decide +kernel
theorem dX10_at_27 : decode mX10_at.2.1 27 = .ok (.ldc2_w 185, 3) := by decide +kernel
theorem dX10_at_30 : decode mX10_at.2.1 30 = .ok (.lreturn, 1) := by decide +kernel
theorem dX10_at_31 : decode mX10_at.2.1 31 = .ok (.aload_n 0, 1) := by decide +kernel
theorem dX10_at_32 : decode mX10_at.2.1 32 = .ok (.getfield 47, 3) := by decide +kernel
theorem dX10_at_35 : decode mX10_at.2.1 35 = .ok (.getfield 187, 3) := by decide +kernel
theorem dX10_at_38 : decode mX10_at.2.1 38 = .ok (.iload_n 1, 1) := by decide +kernel
theorem dX10_at_39 : decode mX10_at.2.1 39 = .ok (.iaload, 1) := by decide +kernel
theorem dX10_at_40 : decode mX10_at.2.1 40 = .ok (.ifCond .eq 7, 3) := by decide +kernel
theorem dX10_at_43 : decode mX10_at.2.1 43 = .ok (.ldc2_w 190, 3) := by decide +kernel
theorem dX10_at_46 : decode mX10_at.2.1 46 = .ok (.lreturn, 1) := by decide +kernel
theorem dX10_at_47 : decode mX10_at.2.1 47 = .ok (.iload_n 2, 1) := by decide +kernel
theorem dX10_at_48 : decode mX10_at.2.1 48 = .ok (.ifCond .ne 15, 3) := by decide +kernel
theorem dX10_at_51 : decode mX10_at.2.1 51 = .ok (.aload_n 0, 1) := by decide +kernel
theorem dX10_at_52 : decode mX10_at.2.1 52 = .ok (.getfield 47, 3) := by decide +kernel
theorem dX10_at_55 : decode mX10_at.2.1 55 = .ok (.getfield 192, 3) := by decide +kernel
theorem dX10_at_58 : decode mX10_at.2.1 58 = .ok (.iload_n 1, 1) := by decide +kernel
theorem dX10_at_59 : decode mX10_at.2.1 59 = .ok (.laload, 1) := by decide +kernel
theorem dX10_at_60 : decode mX10_at.2.1 60 = .ok (.goto 12, 3) := by decide +kernel
theorem dX10_at_63 : decode mX10_at.2.1 63 = .ok (.aload_n 0, 1) := by decide +kernel
theorem dX10_at_64 : decode mX10_at.2.1 64 = .ok (.getfield 47, 3) := by decide +kernel
theorem dX10_at_67 : decode mX10_at.2.1 67 = .ok (.getfield 196, 3) := by decide +kernel
theorem dX10_at_70 : decode mX10_at.2.1 70 = .ok (.iload_n 1, 1) := by decide +kernel
theorem dX10_at_71 : decode mX10_at.2.1 71 = .ok (.laload, 1) := by decide +kernel
theorem dX10_at_72 : decode mX10_at.2.1 72 = .ok (.lreturn, 1) := by decide +kernel
theorem okX10_at_129 : gOkV mX10_at mX10_isMember 129 2 := ⟨List.forall_mem_cons.mpr ⟨(gm 863 (by decide +kernel) rfl), List.forall_mem_cons.mpr ⟨(gm 860 (by decide +kernel) rfl), List.forall_mem_cons.mpr ⟨(gm 862 (by decide +kernel) rfl), List.forall_mem_cons.mpr ⟨(gm 39 (by decide +kernel) rfl), List.forall_mem_cons.mpr ⟨(gm 107 (by decide +kernel) rfl), fun _ h => absurd h List.not_mem_nil⟩⟩⟩⟩⟩, by decide +kernel, by decide +kernel, by decide +kernel⟩
theorem okX10_at_154 : gOkS mX10_at mX10_isAxis 154 1 := ⟨List.forall_mem_cons.mpr ⟨(gm 891 (by decide +kernel) rfl), List.forall_mem_cons.mpr ⟨(gm 889 (by decide +kernel) rfl), List.forall_mem_cons.mpr ⟨(gm 890 (by decide +kernel) rfl), List.forall_mem_cons.mpr ⟨(gm 107 (by decide +kernel) rfl), fun _ h => absurd h List.not_mem_nil⟩⟩⟩⟩, by decide +kernel, by decide +kernel, by decide +kernel⟩
def fX10_at_16 (p1 : Int32) (p2 : Int32) (σ : gS) : Option (Int64 × gS) :=
  some ((-1000001), σ)
set_option maxHeartbeats 4000000 in
set_option maxRecDepth 100000 in
theorem pX10_at_16 {E : gE} {p1 : Int32} {p2 : Int32} {r : Int64} {σ' : gS} {σ : gS} (h : fX10_at_16 p1 p2 σ = some (r, σ')) : gG E mX10_at 16 [] [] σ (some (.long r)) σ' := by
  unfold fX10_at_16 at h
  refine g_ldc2 (v := (-1000001)) dX10_at_16 wl_RX10_183 ?_
  obtain ⟨rfl, rfl⟩ := so_inj h
  exact g_lret dX10_at_19 rfl
def fX10_at_72 (p1 : Int32) (p2 : Int32) (s0 : Int64) (σ : gS) : Option (Int64 × gS) :=
  some (s0, σ)
set_option maxHeartbeats 4000000 in
set_option maxRecDepth 100000 in
theorem pX10_at_72 {E : gE} {p1 : Int32} {p2 : Int32} {r : Int64} {σ' : gS} {s0 : Int64} {σ : gS} (h : fX10_at_72 p1 p2 s0 σ = some (r, σ')) : gG E mX10_at 72 [] [.long s0] σ (some (.long r)) σ' := by
  unfold fX10_at_72 at h
  obtain ⟨rfl, rfl⟩ := so_inj h
  exact g_lret dX10_at_72 rfl
def fX10_at (p1 : Int32) (p2 : Int32) (σ : gS) : Option (Int64 × gS) :=
  bd (fX10_isMember 0 p1 σ) fun x1 σ2 =>
  if x1 = 0 then
    fX10_at_16 p1 p2 σ2
  else
    bd (fX10_isAxis p2 σ2) fun x5 σ6 =>
    if x5 = 0 then
      fX10_at_16 p1 p2 σ6
    else
      if (σ6.1 0 6) = 0 then
        some ((-1000002), σ6)
      else
        gg (¬ (p1 < 0 ∨ 24 ≤ p1.toNatClampNeg)) (
        if (σ6.1 135 p1.toNatClampNeg) = 0 then
          if p2 = 0 then
            gg (¬ (p1 < 0 ∨ 24 ≤ p1.toNatClampNeg)) (
            fX10_at_72 p1 p2 (σ6.2.1 133 p1.toNatClampNeg) σ6)
          else
            gg (¬ (p1 < 0 ∨ 24 ≤ p1.toNatClampNeg)) (
            fX10_at_72 p1 p2 (σ6.2.1 134 p1.toNatClampNeg) σ6)
        else
          some ((-1000000), σ6))
set_option maxHeartbeats 4000000 in
set_option maxRecDepth 100000 in
theorem pX10_at {E : gE} {p1 : Int32} {p2 : Int32} {r : Int64} {σ' : gS} {σ : gS} (h : fX10_at p1 p2 σ = some (r, σ')) : gG E mX10_at 0 [(0, .ref 0), (1, .int p1), (2, .int p2)] [] σ (some (.long r)) σ' := by
  unfold fX10_at at h
  refine g_aload_n dX10_at_0 rfl 0 rfl ?_
  refine g_iconst (v := 0) dX10_at_1 (by decide) ?_
  refine g_iload_n dX10_at_2 rfl 1 rfl ?_
  obtain ⟨x1, σ2, y3, h⟩ := bd_some h
  refine g_callVr (as := [.int 0, .int p1]) (st := []) (zX10_isMember y3) dX10_at_3 gi_0 rfl okX10_at_129 (Nat.le_of_ble_eq_true rfl) ?_
  refine g_if_eq (t := 16) dX10_at_6 (by decide) (fun c4 => ?_) (fun c4 => ?_)
  · replace h := if_t h c4
    refine g_sub [] rfl ?_
    exact pX10_at_16 h
  · replace h := if_f h c4
    refine g_iload_n dX10_at_9 rfl 2 rfl ?_
    obtain ⟨x5, σ6, y7, h⟩ := bd_some h
    refine g_callSr (as := [.int p2]) (st := []) (zX10_isAxis y7) dX10_at_10 okX10_at_154 (Nat.le_of_ble_eq_true rfl) ?_
    refine g_if_ne (t := 20) dX10_at_13 (by decide) (fun c8 => ?_) (fun c8 => ?_)
    · replace h := if_f h c8
      refine g_aload_n dX10_at_20 rfl 0 rfl ?_
      refine g_getI dX10_at_21 gi_0 rfl fl_RX10_98 ?_
      refine g_if_ne (t := 31) dX10_at_24 (by decide) (fun c9 => ?_) (fun c9 => ?_)
      · replace h := if_f h c9
        refine g_aload_n dX10_at_31 rfl 0 rfl ?_
        refine g_getC (n := 132) dX10_at_32 gi_0 rfl fl_RX10_47 ?_
        refine g_getC (n := 135) dX10_at_35 gi_132 rfl fl_RX10_187 ?_
        refine g_iload_n dX10_at_38 rfl 1 rfl ?_
        obtain ⟨g10, h⟩ := gg_some h
        refine g_iald dX10_at_39 gi_135 g10 ?_
        refine g_if_eq (t := 47) dX10_at_40 (by decide) (fun c11 => ?_) (fun c11 => ?_)
        · replace h := if_t h c11
          refine g_iload_n dX10_at_47 rfl 2 rfl ?_
          refine g_if_ne (t := 63) dX10_at_48 (by decide) (fun c12 => ?_) (fun c12 => ?_)
          · replace h := if_f h c12
            refine g_aload_n dX10_at_63 rfl 0 rfl ?_
            refine g_getC (n := 132) dX10_at_64 gi_0 rfl fl_RX10_47 ?_
            refine g_getC (n := 134) dX10_at_67 gi_132 rfl fl_RX10_196 ?_
            refine g_iload_n dX10_at_70 rfl 1 rfl ?_
            obtain ⟨g13, h⟩ := gg_some h
            refine g_lald dX10_at_71 gi_134 g13 ?_
            refine g_sub [] rfl ?_
            exact pX10_at_72 h
          · replace h := if_t h c12
            refine g_aload_n dX10_at_51 rfl 0 rfl ?_
            refine g_getC (n := 132) dX10_at_52 gi_0 rfl fl_RX10_47 ?_
            refine g_getC (n := 133) dX10_at_55 gi_132 rfl fl_RX10_192 ?_
            refine g_iload_n dX10_at_58 rfl 1 rfl ?_
            obtain ⟨g14, h⟩ := gg_some h
            refine g_lald dX10_at_59 gi_133 g14 ?_
            refine g_goto (t := 72) dX10_at_60 (by decide) ?_
            refine g_sub [] rfl ?_
            exact pX10_at_72 h
        · replace h := if_f h c11
          refine g_ldc2 (v := (-1000000)) dX10_at_43 wl_RX10_190 ?_
          obtain ⟨rfl, rfl⟩ := so_inj h
          exact g_lret dX10_at_46 rfl
      · replace h := if_t h c9
        refine g_ldc2 (v := (-1000002)) dX10_at_27 wl_RX10_185 ?_
        obtain ⟨rfl, rfl⟩ := so_inj h
        exact g_lret dX10_at_30 rfl
    · replace h := if_t h c8
      refine g_sub [] rfl ?_
      exact pX10_at_16 h
theorem zX10_at {E : gE} {p1 : Int32} {p2 : Int32} {r : Int64} {σ σ' : gS} (h : fX10_at p1 p2 σ = some (r, σ')) : gC E mX10_at [.ref 0, .int p1, .int p2] σ (some (.long r)) σ' :=
  gC_of (by decide +kernel) rfl (Nat.le_of_ble_eq_true rfl) (pX10_at h)
def mX10_why : gM := (yX10_why, cX10_why, RX10, 2, (some .int), 2, 43)
theorem dX10_why_0 : decode mX10_why.2.1 0 = .ok (.aload_n 0, 1) := by decide +kernel
theorem dX10_why_1 : decode mX10_why.2.1 1 = .ok (.iconst 0, 1) := by decide +kernel
theorem dX10_why_2 : decode mX10_why.2.1 2 = .ok (.iload_n 1, 1) := by decide +kernel
theorem dX10_why_3 : decode mX10_why.2.1 3 = .ok (.invokevirtual 129, 3) := by decide +kernel
theorem dX10_why_6 : decode mX10_why.2.1 6 = .ok (.ifCond .ne 6, 3) := by decide +kernel
theorem dX10_why_9 : decode mX10_why.2.1 9 = .ok (.ldc 79, 2) := by decide +kernel
theorem dX10_why_11 : decode mX10_why.2.1 11 = .ok (.ireturn, 1) := by decide +kernel
theorem dX10_why_12 : decode mX10_why.2.1 12 = .ok (.aload_n 0, 1) := by decide +kernel
theorem dX10_why_13 : decode mX10_why.2.1 13 = .ok (.getfield 98, 3) := by decide +kernel
theorem dX10_why_16 : decode mX10_why.2.1 16 = .ok (.ifCond .eq 15, 3) := by decide +kernel
theorem dX10_why_19 : decode mX10_why.2.1 19 = .ok (.aload_n 0, 1) := by decide +kernel
theorem dX10_why_20 : decode mX10_why.2.1 20 = .ok (.getfield 47, 3) := by decide +kernel
theorem dX10_why_23 : decode mX10_why.2.1 23 = .ok (.getfield 187, 3) := by decide +kernel
theorem dX10_why_26 : decode mX10_why.2.1 26 = .ok (.iload_n 1, 1) := by decide +kernel
theorem dX10_why_27 : decode mX10_why.2.1 27 = .ok (.iaload, 1) := by decide +kernel
theorem dX10_why_28 : decode mX10_why.2.1 28 = .ok (.goto 5, 3) := by decide +kernel
theorem dX10_why_31 : decode mX10_why.2.1 31 = .ok (.ldc 168, 2) := by decide +kernel
theorem dX10_why_33 : decode mX10_why.2.1 33 = .ok (.ireturn, 1) := by decide +kernel
theorem okX10_why_129 : gOkV mX10_why mX10_isMember 129 2 := ⟨List.forall_mem_cons.mpr ⟨(gm 863 (by decide +kernel) rfl), List.forall_mem_cons.mpr ⟨(gm 860 (by decide +kernel) rfl), List.forall_mem_cons.mpr ⟨(gm 862 (by decide +kernel) rfl), List.forall_mem_cons.mpr ⟨(gm 39 (by decide +kernel) rfl), List.forall_mem_cons.mpr ⟨(gm 107 (by decide +kernel) rfl), fun _ h => absurd h List.not_mem_nil⟩⟩⟩⟩⟩, by decide +kernel, by decide +kernel, by decide +kernel⟩
def fX10_why_33 (p1 : Int32) (s0 : Int32) (σ : gS) : Option (Int32 × gS) :=
  some (s0, σ)
set_option maxHeartbeats 4000000 in
set_option maxRecDepth 100000 in
theorem pX10_why_33 {E : gE} {p1 : Int32} {r : Int32} {σ' : gS} {s0 : Int32} {σ : gS} (h : fX10_why_33 p1 s0 σ = some (r, σ')) : gG E mX10_why 33 [] [.int s0] σ (some (.int r)) σ' := by
  unfold fX10_why_33 at h
  obtain ⟨rfl, rfl⟩ := so_inj h
  exact g_iret dX10_why_33 rfl
def fX10_why (p1 : Int32) (σ : gS) : Option (Int32 × gS) :=
  bd (fX10_isMember 0 p1 σ) fun x1 σ2 =>
  if x1 = 0 then
    some ((-1000001), σ2)
  else
    if (σ2.1 0 6) = 0 then
      fX10_why_33 p1 (-1000002) σ2
    else
      gg (¬ (p1 < 0 ∨ 24 ≤ p1.toNatClampNeg)) (
      fX10_why_33 p1 (σ2.1 135 p1.toNatClampNeg) σ2)
set_option maxHeartbeats 4000000 in
set_option maxRecDepth 100000 in
theorem pX10_why {E : gE} {p1 : Int32} {r : Int32} {σ' : gS} {σ : gS} (h : fX10_why p1 σ = some (r, σ')) : gG E mX10_why 0 [(0, .ref 0), (1, .int p1)] [] σ (some (.int r)) σ' := by
  unfold fX10_why at h
  refine g_aload_n dX10_why_0 rfl 0 rfl ?_
  refine g_iconst (v := 0) dX10_why_1 (by decide) ?_
  refine g_iload_n dX10_why_2 rfl 1 rfl ?_
  obtain ⟨x1, σ2, y3, h⟩ := bd_some h
  refine g_callVr (as := [.int 0, .int p1]) (st := []) (zX10_isMember y3) dX10_why_3 gi_0 rfl okX10_why_129 (Nat.le_of_ble_eq_true rfl) ?_
  refine g_if_ne (t := 12) dX10_why_6 (by decide) (fun c4 => ?_) (fun c4 => ?_)
  · replace h := if_f h c4
    refine g_aload_n dX10_why_12 rfl 0 rfl ?_
    refine g_getI dX10_why_13 gi_0 rfl fl_RX10_98 ?_
    refine g_if_eq (t := 31) dX10_why_16 (by decide) (fun c5 => ?_) (fun c5 => ?_)
    · replace h := if_t h c5
      refine g_ldc (v := (-1000002)) dX10_why_31 wc_RX10_168 ?_
      refine g_sub [] rfl ?_
      exact pX10_why_33 h
    · replace h := if_f h c5
      refine g_aload_n dX10_why_19 rfl 0 rfl ?_
      refine g_getC (n := 132) dX10_why_20 gi_0 rfl fl_RX10_47 ?_
      refine g_getC (n := 135) dX10_why_23 gi_132 rfl fl_RX10_187 ?_
      refine g_iload_n dX10_why_26 rfl 1 rfl ?_
      obtain ⟨g6, h⟩ := gg_some h
      refine g_iald dX10_why_27 gi_135 g6 ?_
      refine g_goto (t := 33) dX10_why_28 (by decide) ?_
      refine g_sub [] rfl ?_
      exact pX10_why_33 h
  · replace h := if_t h c4
    refine g_ldc (v := (-1000001)) dX10_why_9 wc_RX10_79 ?_
    obtain ⟨rfl, rfl⟩ := so_inj h
    exact g_iret dX10_why_11 rfl
theorem zX10_why {E : gE} {p1 : Int32} {r : Int32} {σ σ' : gS} (h : fX10_why p1 σ = some (r, σ')) : gC E mX10_why [.ref 0, .int p1] σ (some (.int r)) σ' :=
  gC_of (by decide +kernel) rfl (Nat.le_of_ble_eq_true rfl) (pX10_why h)
theorem fl_RX10_199 : gFl RX10 199 9 0 := ⟨RX9, TX9, 8, rfl, by decide, ux_9, Or.inr ⟨"LinkageCurves", by decide +kernel⟩⟩
theorem fl_RX10_202 : gFl RX10 202 9 3 := ⟨RX9, TX9, 8, rfl, by decide, ux_9, Or.inr ⟨"LinkageCurves", by decide +kernel⟩⟩
theorem fl_RX10_205 : gFl RX10 205 9 4 := ⟨RX9, TX9, 8, rfl, by decide, ux_9, Or.inr ⟨"LinkageCurves", by decide +kernel⟩⟩
def mX10_order : gM := (yX10_order, cX10_order, RX10, 4, (some .int), 0, 0)
theorem dX10_order_0 : decode mX10_order.2.1 0 = .ok (.iload_n 2, 1) := by decide +kernel
theorem dX10_order_1 : decode mX10_order.2.1 1 = .ok (.ifCond .lt 8, 3) := by decide +kernel
theorem dX10_order_4 : decode mX10_order.2.1 4 = .ok (.iload_n 2, 1) := by decide +kernel
theorem dX10_order_5 : decode mX10_order.2.1 5 = .ok (.iconst 2, 1) := by decide +kernel
theorem dX10_order_6 : decode mX10_order.2.1 6 = .ok (.if_icmp .le 6, 3) := by decide +kernel
theorem dX10_order_9 : decode mX10_order.2.1 9 = .ok (.ldc 79, 2) := by decide +kernel
theorem dX10_order_11 : decode mX10_order.2.1 11 = .ok (.ireturn, 1) := by decide +kernel
theorem dX10_order_12 : decode mX10_order.2.1 12 = .ok (.aload_n 0, 1) := by decide +kernel
theorem dX10_order_13 : decode mX10_order.2.1 13 = .ok (.getfield 19, 3) := by decide +kernel
theorem dX10_order_16 : decode mX10_order.2.1 16 = .ok (.getfield 164, 3) := by decide +kernel
theorem dX10_order_19 : decode mX10_order.2.1 19 = .ok (.ldc 167, 2) := by decide +kernel
theorem dX10_order_21 : decode mX10_order.2.1 21 = .ok (.if_icmp .ne 6, 3) := by decide +kernel
theorem dX10_order_24 : decode mX10_order.2.1 24 = .ok (.ldc 168, 2) := by decide +kernel
theorem dX10_order_26 : decode mX10_order.2.1 26 = .ok (.ireturn, 1) := by decide +kernel
theorem dX10_order_27 : decode mX10_order.2.1 27 = .ok (.iload_n 1, 1) := by decide +kernel
theorem dX10_order_28 : decode mX10_order.2.1 28 = .ok (.ifCond .lt 14, 3) := by decide +kernel
theorem dX10_order_31 : decode mX10_order.2.1 31 = .ok (.iload_n 1, 1) := by decide +kernel
theorem dX10_order_32 : decode mX10_order.2.1 32 = .ok (.aload_n 0, 1) := by decide +kernel
theorem dX10_order_33 : decode mX10_order.2.1 33 = .ok (.getfield 40, 3) := by decide +kernel
theorem dX10_order_36 : decode mX10_order.2.1 36 = .ok (.getfield 169, 3) := by decide +kernel
theorem dX10_order_39 : decode mX10_order.2.1 39 = .ok (.if_icmp .lt 6, 3) := by decide +kernel
theorem dX10_order_42 : decode mX10_order.2.1 42 = .ok (.ldc 167, 2) := by decide +kernel
theorem dX10_order_44 : decode mX10_order.2.1 44 = .ok (.ireturn, 1) := by decide +kernel
theorem dX10_order_45 : decode mX10_order.2.1 45 = .ok (.aload_n 0, 1) := by decide +kernel
theorem dX10_order_46 : decode mX10_order.2.1 46 = .ok (.getfield 40, 3) := by decide +kernel
theorem dX10_order_49 : decode mX10_order.2.1 49 = .ok (.getfield 199, 3) := by decide +kernel
theorem dX10_order_52 : decode mX10_order.2.1 52 = .ok (.iload_n 1, 1) := by decide +kernel
theorem dX10_order_53 : decode mX10_order.2.1 53 = .ok (.iaload, 1) := by decide +kernel
theorem dX10_order_54 : decode mX10_order.2.1 54 = .ok (.istore_n 3, 1) := by decide +kernel
theorem dX10_order_55 : decode mX10_order.2.1 55 = .ok (.iload_n 2, 1) := by decide +kernel
theorem dX10_order_56 : decode mX10_order.2.1 56 = .ok (.lookupswitch 40 #[(0, 28), (1, 30)], 28) := by decide +kernel
theorem dX10_order_84 : decode mX10_order.2.1 84 = .ok (.iload_n 3, 1) := by decide +kernel
theorem dX10_order_85 : decode mX10_order.2.1 85 = .ok (.ireturn, 1) := by decide +kernel
theorem dX10_order_86 : decode mX10_order.2.1 86 = .ok (.aload_n 0, 1) := by decide +kernel
theorem dX10_order_87 : decode mX10_order.2.1 87 = .ok (.getfield 40, 3) := by decide +kernel
theorem dX10_order_90 : decode mX10_order.2.1 90 = .ok (.getfield 202, 3) := by decide +kernel
theorem dX10_order_93 : decode mX10_order.2.1 93 = .ok (.iload_n 3, 1) := by decide +kernel
theorem dX10_order_94 : decode mX10_order.2.1 94 = .ok (.iaload, 1) := by decide +kernel
theorem dX10_order_95 : decode mX10_order.2.1 95 = .ok (.ireturn, 1) := by decide +kernel
theorem dX10_order_96 : decode mX10_order.2.1 96 = .ok (.aload_n 0, 1) := by decide +kernel
theorem dX10_order_97 : decode mX10_order.2.1 97 = .ok (.getfield 40, 3) := by decide +kernel
theorem dX10_order_100 : decode mX10_order.2.1 100 = .ok (.getfield 205, 3) := by decide +kernel
theorem dX10_order_103 : decode mX10_order.2.1 103 = .ok (.iload_n 3, 1) := by decide +kernel
theorem dX10_order_104 : decode mX10_order.2.1 104 = .ok (.iaload, 1) := by decide +kernel
theorem dX10_order_105 : decode mX10_order.2.1 105 = .ok (.ireturn, 1) := by decide +kernel
def fX10_order_9 (p1 : Int32) (p2 : Int32) (σ : gS) : Option (Int32 × gS) :=
  some ((-1000001), σ)
set_option maxHeartbeats 4000000 in
set_option maxRecDepth 100000 in
theorem pX10_order_9 {E : gE} {p1 : Int32} {p2 : Int32} {r : Int32} {σ' : gS} {σ : gS} (h : fX10_order_9 p1 p2 σ = some (r, σ')) : gG E mX10_order 9 [] [] σ (some (.int r)) σ' := by
  unfold fX10_order_9 at h
  refine g_ldc (v := (-1000001)) dX10_order_9 wc_RX10_79 ?_
  obtain ⟨rfl, rfl⟩ := so_inj h
  exact g_iret dX10_order_11 rfl
def fX10_order_42 (p1 : Int32) (p2 : Int32) (σ : gS) : Option (Int32 × gS) :=
  some ((-1000000), σ)
set_option maxHeartbeats 4000000 in
set_option maxRecDepth 100000 in
theorem pX10_order_42 {E : gE} {p1 : Int32} {p2 : Int32} {r : Int32} {σ' : gS} {σ : gS} (h : fX10_order_42 p1 p2 σ = some (r, σ')) : gG E mX10_order 42 [] [] σ (some (.int r)) σ' := by
  unfold fX10_order_42 at h
  refine g_ldc (v := (-1000000)) dX10_order_42 wc_RX10_167 ?_
  obtain ⟨rfl, rfl⟩ := so_inj h
  exact g_iret dX10_order_44 rfl
def fX10_order (p1 : Int32) (p2 : Int32) (σ : gS) : Option (Int32 × gS) :=
  if p2 < 0 then
    fX10_order_9 p1 p2 σ
  else
    if p2 ≤ 2 then
      bnd (σ.2.2 0 1) fun x3 =>
      gg (x3 = 4 ∨ x3 = 16) (
      if (σ.1 x3 8) = (-1000000) then
        some ((-1000002), σ)
      else
        if p1 < 0 then
          fX10_order_42 p1 p2 σ
        else
          if p1 < (σ.1 124 1) then
            gg (¬ (p1 < 0 ∨ 24 ≤ p1.toNatClampNeg)) (
            if p2 = 0 then
              some (σ.1 125 p1.toNatClampNeg, σ)
            else
              if p2 = 1 then
              gg (¬ (σ.1 125 p1.toNatClampNeg < 0 ∨ 24 ≤ (σ.1 125 p1.toNatClampNeg).toNatClampNeg)) (
                some (σ.1 127 ((σ.1 125 p1.toNatClampNeg).toNatClampNeg), σ))
            else
              gg (¬ (σ.1 125 p1.toNatClampNeg < 0 ∨ 24 ≤ (σ.1 125 p1.toNatClampNeg).toNatClampNeg)) (
                some (σ.1 128 ((σ.1 125 p1.toNatClampNeg).toNatClampNeg), σ)))
          else
            fX10_order_42 p1 p2 σ)
    else
      fX10_order_9 p1 p2 σ
set_option maxHeartbeats 4000000 in
set_option maxRecDepth 100000 in
theorem pX10_order {E : gE} {p1 : Int32} {p2 : Int32} {r : Int32} {σ' : gS} {σ : gS} (h : fX10_order p1 p2 σ = some (r, σ')) : gG E mX10_order 0 [(0, .ref 0), (1, .int p1), (2, .int p2)] [] σ (some (.int r)) σ' := by
  unfold fX10_order at h
  refine g_iload_n dX10_order_0 rfl 2 rfl ?_
  refine g_if_lt (t := 9) dX10_order_1 (by decide) (fun c1 => ?_) (fun c1 => ?_)
  · replace h := if_t h c1
    refine g_sub [] rfl ?_
    exact pX10_order_9 h
  · replace h := if_f h c1
    refine g_iload_n dX10_order_4 rfl 2 rfl ?_
    refine g_iconst (v := 2) dX10_order_5 (by decide) ?_
    refine g_icmp_le (t := 12) dX10_order_6 (by decide) (fun c2 => ?_) (fun c2 => ?_)
    · replace h := if_t h c2
      refine g_aload_n dX10_order_12 rfl 0 rfl ?_
      refine g_getR dX10_order_13 gi_0 rfl fl_RX10_19 ?_
      obtain ⟨x3, ex3, h⟩ := bnd_nm h
      refine g_topr ex3 ?_
      obtain ⟨g4, h⟩ := gg_some h
      refine g_getI dX10_order_16 (gi_lk g4) rfl fl_RX10_164 ?_
      refine g_ldc (v := (-1000000)) dX10_order_19 wc_RX10_167 ?_
      refine g_icmp_ne (t := 27) dX10_order_21 (by decide) (fun c5 => ?_) (fun c5 => ?_)
      · replace h := if_f h c5
        refine g_iload_n dX10_order_27 rfl 1 rfl ?_
        refine g_if_lt (t := 42) dX10_order_28 (by decide) (fun c6 => ?_) (fun c6 => ?_)
        · replace h := if_t h c6
          refine g_sub [] rfl ?_
          exact pX10_order_42 h
        · replace h := if_f h c6
          refine g_iload_n dX10_order_31 rfl 1 rfl ?_
          refine g_aload_n dX10_order_32 rfl 0 rfl ?_
          refine g_getC (n := 124) dX10_order_33 gi_0 rfl fl_RX10_40 ?_
          refine g_getI dX10_order_36 gi_124 rfl fl_RX10_169 ?_
          refine g_icmp_lt (t := 45) dX10_order_39 (by decide) (fun c7 => ?_) (fun c7 => ?_)
          · replace h := if_t h c7
            refine g_aload_n dX10_order_45 rfl 0 rfl ?_
            refine g_getC (n := 124) dX10_order_46 gi_0 rfl fl_RX10_40 ?_
            refine g_getC (n := 125) dX10_order_49 gi_124 rfl fl_RX10_199 ?_
            refine g_iload_n dX10_order_52 rfl 1 rfl ?_
            obtain ⟨g8, h⟩ := gg_some h
            refine g_iald dX10_order_53 gi_125 g8 ?_
            refine g_istore_n (lv' := [(3, .int (σ.1 125 p1.toNatClampNeg)), (0, .ref 0), (1, .int p1), (2, .int p2)]) dX10_order_54 rfl (Nat.le_of_ble_eq_true rfl) rfl ?_
            refine g_iload_n dX10_order_55 rfl 3 rfl ?_
            by_cases c9 : p2 = 0
            · replace h := if_t h c9
              refine g_look (off := 28) (t := 84) dX10_order_56 (by decide) (by rw [c9]; first | done | rfl) (by decide) ?_
              refine g_iload_n dX10_order_84 rfl 0 rfl ?_
              obtain ⟨rfl, rfl⟩ := so_inj h
              exact g_iret dX10_order_85 rfl
            · replace h := if_f h c9
              by_cases c10 : p2 = 1
              · replace h := if_t h c10
                refine g_look (off := 30) (t := 86) dX10_order_56 (by decide) (by rw [c10]; first | done | rfl) (by decide) ?_
                refine g_aload_n dX10_order_86 rfl 1 rfl ?_
                refine g_getC (n := 124) dX10_order_87 gi_0 rfl fl_RX10_40 ?_
                refine g_getC (n := 127) dX10_order_90 gi_124 rfl fl_RX10_202 ?_
                refine g_iload_n dX10_order_93 rfl 0 rfl ?_
                obtain ⟨g11, h⟩ := gg_some h
                refine g_iald dX10_order_94 gi_127 g11 ?_
                obtain ⟨rfl, rfl⟩ := so_inj h
                exact g_iret dX10_order_95 rfl
              · replace h := if_f h c10
                refine g_look (off := 40) (t := 96) dX10_order_56 (by decide) (by rw [lv_osw c9 (by decide), lv_osw c10 (by decide)]; first | done | rfl) (by decide) ?_
                refine g_aload_n dX10_order_96 rfl 1 rfl ?_
                refine g_getC (n := 124) dX10_order_97 gi_0 rfl fl_RX10_40 ?_
                refine g_getC (n := 128) dX10_order_100 gi_124 rfl fl_RX10_205 ?_
                refine g_iload_n dX10_order_103 rfl 0 rfl ?_
                obtain ⟨g12, h⟩ := gg_some h
                refine g_iald dX10_order_104 gi_128 g12 ?_
                obtain ⟨rfl, rfl⟩ := so_inj h
                exact g_iret dX10_order_105 rfl
          · replace h := if_f h c7
            refine g_sub [] rfl ?_
            exact pX10_order_42 h
      · replace h := if_t h c5
        refine g_ldc (v := (-1000002)) dX10_order_24 wc_RX10_168 ?_
        obtain ⟨rfl, rfl⟩ := so_inj h
        exact g_iret dX10_order_26 rfl
    · replace h := if_f h c2
      refine g_sub [] rfl ?_
      exact pX10_order_9 h
theorem zX10_order {E : gE} {p1 : Int32} {p2 : Int32} {r : Int32} {σ σ' : gS} (h : fX10_order p1 p2 σ = some (r, σ')) : gC E mX10_order [.ref 0, .int p1, .int p2] σ (some (.int r)) σ' :=
  gC_of (by decide +kernel) rfl (Nat.le_of_ble_eq_true rfl) (pX10_order h)
theorem fl_RX10_208 : gFl RX10 208 9 5 := ⟨RX9, TX9, 8, rfl, by decide, ux_9, Or.inr ⟨"LinkageCurves", by decide +kernel⟩⟩
def mX10_flip : gM := (yX10_flip, cX10_flip, RX10, 2, (some .int), 2, 43)
theorem dX10_flip_0 : decode mX10_flip.2.1 0 = .ok (.aload_n 0, 1) := by decide +kernel
theorem dX10_flip_1 : decode mX10_flip.2.1 1 = .ok (.iconst 0, 1) := by decide +kernel
theorem dX10_flip_2 : decode mX10_flip.2.1 2 = .ok (.iload_n 1, 1) := by decide +kernel
theorem dX10_flip_3 : decode mX10_flip.2.1 3 = .ok (.invokevirtual 129, 3) := by decide +kernel
theorem dX10_flip_6 : decode mX10_flip.2.1 6 = .ok (.ifCond .ne 6, 3) := by decide +kernel
theorem dX10_flip_9 : decode mX10_flip.2.1 9 = .ok (.ldc 79, 2) := by decide +kernel
theorem dX10_flip_11 : decode mX10_flip.2.1 11 = .ok (.ireturn, 1) := by decide +kernel
theorem dX10_flip_12 : decode mX10_flip.2.1 12 = .ok (.aload_n 0, 1) := by decide +kernel
theorem dX10_flip_13 : decode mX10_flip.2.1 13 = .ok (.getfield 19, 3) := by decide +kernel
theorem dX10_flip_16 : decode mX10_flip.2.1 16 = .ok (.getfield 164, 3) := by decide +kernel
theorem dX10_flip_19 : decode mX10_flip.2.1 19 = .ok (.ldc 167, 2) := by decide +kernel
theorem dX10_flip_21 : decode mX10_flip.2.1 21 = .ok (.if_icmp .eq 17, 3) := by decide +kernel
theorem dX10_flip_24 : decode mX10_flip.2.1 24 = .ok (.aload_n 0, 1) := by decide +kernel
theorem dX10_flip_25 : decode mX10_flip.2.1 25 = .ok (.getfield 40, 3) := by decide +kernel
theorem dX10_flip_28 : decode mX10_flip.2.1 28 = .ok (.getfield 202, 3) := by decide +kernel
theorem dX10_flip_31 : decode mX10_flip.2.1 31 = .ok (.iload_n 1, 1) := by decide +kernel
theorem dX10_flip_32 : decode mX10_flip.2.1 32 = .ok (.iaload, 1) := by decide +kernel
theorem dX10_flip_33 : decode mX10_flip.2.1 33 = .ok (.ldc 167, 2) := by decide +kernel
theorem dX10_flip_35 : decode mX10_flip.2.1 35 = .ok (.if_icmp .ne 6, 3) := by decide +kernel
theorem dX10_flip_38 : decode mX10_flip.2.1 38 = .ok (.ldc 168, 2) := by decide +kernel
theorem dX10_flip_40 : decode mX10_flip.2.1 40 = .ok (.ireturn, 1) := by decide +kernel
theorem dX10_flip_41 : decode mX10_flip.2.1 41 = .ok (.aload_n 0, 1) := by decide +kernel
theorem dX10_flip_42 : decode mX10_flip.2.1 42 = .ok (.getfield 40, 3) := by decide +kernel
theorem dX10_flip_45 : decode mX10_flip.2.1 45 = .ok (.getfield 208, 3) := by decide +kernel
theorem dX10_flip_48 : decode mX10_flip.2.1 48 = .ok (.iload_n 1, 1) := by decide +kernel
theorem dX10_flip_49 : decode mX10_flip.2.1 49 = .ok (.aload_n 0, 1) := by decide +kernel
theorem dX10_flip_50 : decode mX10_flip.2.1 50 = .ok (.getfield 40, 3) := by decide +kernel
theorem dX10_flip_53 : decode mX10_flip.2.1 53 = .ok (.getfield 208, 3) := by decide +kernel
theorem dX10_flip_56 : decode mX10_flip.2.1 56 = .ok (.iload_n 1, 1) := by decide +kernel
theorem dX10_flip_57 : decode mX10_flip.2.1 57 = .ok (.iaload, 1) := by decide +kernel
theorem dX10_flip_58 : decode mX10_flip.2.1 58 = .ok (.ineg, 1) := by decide +kernel
theorem dX10_flip_59 : decode mX10_flip.2.1 59 = .ok (.iastore, 1) := by decide +kernel
theorem dX10_flip_60 : decode mX10_flip.2.1 60 = .ok (.aload_n 0, 1) := by decide +kernel
theorem dX10_flip_61 : decode mX10_flip.2.1 61 = .ok (.getfield 40, 3) := by decide +kernel
theorem dX10_flip_64 : decode mX10_flip.2.1 64 = .ok (.getfield 208, 3) := by decide +kernel
theorem dX10_flip_67 : decode mX10_flip.2.1 67 = .ok (.iload_n 1, 1) := by decide +kernel
theorem dX10_flip_68 : decode mX10_flip.2.1 68 = .ok (.iaload, 1) := by decide +kernel
theorem dX10_flip_69 : decode mX10_flip.2.1 69 = .ok (.ireturn, 1) := by decide +kernel
theorem okX10_flip_129 : gOkV mX10_flip mX10_isMember 129 2 := ⟨List.forall_mem_cons.mpr ⟨(gm 863 (by decide +kernel) rfl), List.forall_mem_cons.mpr ⟨(gm 860 (by decide +kernel) rfl), List.forall_mem_cons.mpr ⟨(gm 862 (by decide +kernel) rfl), List.forall_mem_cons.mpr ⟨(gm 39 (by decide +kernel) rfl), List.forall_mem_cons.mpr ⟨(gm 107 (by decide +kernel) rfl), fun _ h => absurd h List.not_mem_nil⟩⟩⟩⟩⟩, by decide +kernel, by decide +kernel, by decide +kernel⟩
def fX10_flip_38 (p1 : Int32) (σ : gS) : Option (Int32 × gS) :=
  some ((-1000002), σ)
set_option maxHeartbeats 4000000 in
set_option maxRecDepth 100000 in
theorem pX10_flip_38 {E : gE} {p1 : Int32} {r : Int32} {σ' : gS} {σ : gS} (h : fX10_flip_38 p1 σ = some (r, σ')) : gG E mX10_flip 38 [] [] σ (some (.int r)) σ' := by
  unfold fX10_flip_38 at h
  refine g_ldc (v := (-1000002)) dX10_flip_38 wc_RX10_168 ?_
  obtain ⟨rfl, rfl⟩ := so_inj h
  exact g_iret dX10_flip_40 rfl
def fX10_flip (p1 : Int32) (σ : gS) : Option (Int32 × gS) :=
  bd (fX10_isMember 0 p1 σ) fun x1 σ2 =>
  if x1 = 0 then
    some ((-1000001), σ2)
  else
    bnd (σ2.2.2 0 1) fun x5 =>
    gg (x5 = 4 ∨ x5 = 16) (
    if (σ2.1 x5 8) = (-1000000) then
      fX10_flip_38 p1 σ2
    else
      gg (¬ (p1 < 0 ∨ 24 ≤ p1.toNatClampNeg)) (
      if (σ2.1 127 p1.toNatClampNeg) = (-1000000) then
        fX10_flip_38 p1 σ2
      else
        gg (¬ (p1 < 0 ∨ 24 ≤ p1.toNatClampNeg)) (
        gg (¬ (p1 < 0 ∨ 24 ≤ p1.toNatClampNeg)) (
        bnd (gsI σ2 129 p1.toNatClampNeg (-(σ2.1 129 p1.toNatClampNeg))) fun σ12 =>
        gg (¬ (p1 < 0 ∨ 24 ≤ p1.toNatClampNeg)) (
        some (σ12.1 129 p1.toNatClampNeg, σ12))))))
set_option maxHeartbeats 4000000 in
set_option maxRecDepth 100000 in
theorem pX10_flip {E : gE} {p1 : Int32} {r : Int32} {σ' : gS} {σ : gS} (h : fX10_flip p1 σ = some (r, σ')) : gG E mX10_flip 0 [(0, .ref 0), (1, .int p1)] [] σ (some (.int r)) σ' := by
  unfold fX10_flip at h
  refine g_aload_n dX10_flip_0 rfl 0 rfl ?_
  refine g_iconst (v := 0) dX10_flip_1 (by decide) ?_
  refine g_iload_n dX10_flip_2 rfl 1 rfl ?_
  obtain ⟨x1, σ2, y3, h⟩ := bd_some h
  refine g_callVr (as := [.int 0, .int p1]) (st := []) (zX10_isMember y3) dX10_flip_3 gi_0 rfl okX10_flip_129 (Nat.le_of_ble_eq_true rfl) ?_
  refine g_if_ne (t := 12) dX10_flip_6 (by decide) (fun c4 => ?_) (fun c4 => ?_)
  · replace h := if_f h c4
    refine g_aload_n dX10_flip_12 rfl 0 rfl ?_
    refine g_getR dX10_flip_13 gi_0 rfl fl_RX10_19 ?_
    obtain ⟨x5, ex5, h⟩ := bnd_nm h
    refine g_topr ex5 ?_
    obtain ⟨g6, h⟩ := gg_some h
    refine g_getI dX10_flip_16 (gi_lk g6) rfl fl_RX10_164 ?_
    refine g_ldc (v := (-1000000)) dX10_flip_19 wc_RX10_167 ?_
    refine g_icmp_eq (t := 38) dX10_flip_21 (by decide) (fun c7 => ?_) (fun c7 => ?_)
    · replace h := if_t h c7
      refine g_sub [] rfl ?_
      exact pX10_flip_38 h
    · replace h := if_f h c7
      refine g_aload_n dX10_flip_24 rfl 0 rfl ?_
      refine g_getC (n := 124) dX10_flip_25 gi_0 rfl fl_RX10_40 ?_
      refine g_getC (n := 127) dX10_flip_28 gi_124 rfl fl_RX10_202 ?_
      refine g_iload_n dX10_flip_31 rfl 1 rfl ?_
      obtain ⟨g8, h⟩ := gg_some h
      refine g_iald dX10_flip_32 gi_127 g8 ?_
      refine g_ldc (v := (-1000000)) dX10_flip_33 wc_RX10_167 ?_
      refine g_icmp_ne (t := 41) dX10_flip_35 (by decide) (fun c9 => ?_) (fun c9 => ?_)
      · replace h := if_f h c9
        refine g_aload_n dX10_flip_41 rfl 0 rfl ?_
        refine g_getC (n := 124) dX10_flip_42 gi_0 rfl fl_RX10_40 ?_
        refine g_getC (n := 129) dX10_flip_45 gi_124 rfl fl_RX10_208 ?_
        refine g_iload_n dX10_flip_48 rfl 1 rfl ?_
        refine g_aload_n dX10_flip_49 rfl 0 rfl ?_
        refine g_getC (n := 124) dX10_flip_50 gi_0 rfl fl_RX10_40 ?_
        refine g_getC (n := 129) dX10_flip_53 gi_124 rfl fl_RX10_208 ?_
        refine g_iload_n dX10_flip_56 rfl 1 rfl ?_
        obtain ⟨g10, h⟩ := gg_some h
        refine g_iald dX10_flip_57 gi_129 g10 ?_
        refine g_ineg dX10_flip_58 ?_
        obtain ⟨g11, h⟩ := gg_some h
        obtain ⟨σ12, eσ12, h⟩ := bnd_nm h
        refine g_iast dX10_flip_59 gi_129 g11 (g_st eσ12 ?_)
        refine g_aload_n dX10_flip_60 rfl 0 rfl ?_
        refine g_getC (n := 124) dX10_flip_61 gi_0 rfl fl_RX10_40 ?_
        refine g_getC (n := 129) dX10_flip_64 gi_124 rfl fl_RX10_208 ?_
        refine g_iload_n dX10_flip_67 rfl 1 rfl ?_
        obtain ⟨g13, h⟩ := gg_some h
        refine g_iald dX10_flip_68 gi_129 g13 ?_
        obtain ⟨rfl, rfl⟩ := so_inj h
        exact g_iret dX10_flip_69 rfl
      · replace h := if_t h c9
        refine g_sub [] rfl ?_
        exact pX10_flip_38 h
  · replace h := if_t h c4
    refine g_ldc (v := (-1000001)) dX10_flip_9 wc_RX10_79 ?_
    obtain ⟨rfl, rfl⟩ := so_inj h
    exact g_iret dX10_flip_11 rfl
theorem zX10_flip {E : gE} {p1 : Int32} {r : Int32} {σ σ' : gS} (h : fX10_flip p1 σ = some (r, σ')) : gC E mX10_flip [.ref 0, .int p1] σ (some (.int r)) σ' :=
  gC_of (by decide +kernel) rfl (Nat.le_of_ble_eq_true rfl) (pX10_flip h)

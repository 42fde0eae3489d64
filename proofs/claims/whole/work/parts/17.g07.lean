def mX10_keep : gM := (yX10_keep, cX10_keep, RX10, 6, (some .int), 2, 45)
theorem dX10_keep_0 : decode mX10_keep.2.1 0 = .ok (.iload_n 1, 1) := by decide +kernel
theorem dX10_keep_1 : decode mX10_keep.2.1 1 = .ok (.invokestatic 296, 3) := by decide +kernel
theorem dX10_keep_4 : decode mX10_keep.2.1 4 = .ok (.ifCond .eq 10, 3) := by decide +kernel
theorem dX10_keep_7 : decode mX10_keep.2.1 7 = .ok (.iload_n 2, 1) := by decide +kernel
theorem dX10_keep_8 : decode mX10_keep.2.1 8 = .ok (.invokestatic 154, 3) := by decide +kernel
theorem dX10_keep_11 : decode mX10_keep.2.1 11 = .ok (.ifCond .ne 6, 3) := by decide +kernel
theorem dX10_keep_14 : decode mX10_keep.2.1 14 = .ok (.ldc 79, 2) := by decide +kernel
theorem dX10_keep_16 : decode mX10_keep.2.1 16 = .ok (.ireturn, 1) := by decide +kernel
theorem dX10_keep_17 : decode mX10_keep.2.1 17 = .ok (.aload_n 0, 1) := by decide +kernel
theorem dX10_keep_18 : decode mX10_keep.2.1 18 = .ok (.getfield 54, 3) := by decide +kernel
theorem dX10_keep_21 : decode mX10_keep.2.1 21 = .ok (.getfield 102, 3) := by decide +kernel
theorem dX10_keep_24 : decode mX10_keep.2.1 24 = .ok (.ifCond .ne 6, 3) := by decide +kernel
theorem dX10_keep_27 : decode mX10_keep.2.1 27 = .ok (.ldc 168, 2) := by decide +kernel
theorem dX10_keep_29 : decode mX10_keep.2.1 29 = .ok (.ireturn, 1) := by decide +kernel
theorem dX10_keep_30 : decode mX10_keep.2.1 30 = .ok (.aload_n 0, 1) := by decide +kernel
theorem dX10_keep_31 : decode mX10_keep.2.1 31 = .ok (.getfield 74, 3) := by decide +kernel
theorem dX10_keep_34 : decode mX10_keep.2.1 34 = .ok (.iload_n 1, 1) := by decide +kernel
theorem dX10_keep_35 : decode mX10_keep.2.1 35 = .ok (.aaload, 1) := by decide +kernel
theorem dX10_keep_36 : decode mX10_keep.2.1 36 = .ok (.getfield 302, 3) := by decide +kernel
theorem dX10_keep_39 : decode mX10_keep.2.1 39 = .ok (.ifCond .ne 9, 3) := by decide +kernel
theorem dX10_keep_42 : decode mX10_keep.2.1 42 = .ok (.aload_n 0, 1) := by decide +kernel
theorem dX10_keep_43 : decode mX10_keep.2.1 43 = .ok (.iconst 1, 1) := by decide +kernel
theorem dX10_keep_44 : decode mX10_keep.2.1 44 = .ok (.invokevirtual 278, 3) := by decide +kernel
theorem dX10_keep_47 : decode mX10_keep.2.1 47 = .ok (.ireturn, 1) := by decide +kernel
theorem dX10_keep_48 : decode mX10_keep.2.1 48 = .ok (.aload_n 0, 1) := by decide +kernel
theorem dX10_keep_49 : decode mX10_keep.2.1 49 = .ok (.getfield 54, 3) := by decide +kernel
theorem dX10_keep_52 : decode mX10_keep.2.1 52 = .ok (.iload_n 2, 1) := by decide +kernel
theorem dX10_keep_53 : decode mX10_keep.2.1 53 = .ok (.invokevirtual 220, 3) := by decide +kernel
theorem dX10_keep_56 : decode mX10_keep.2.1 56 = .ok (.astore_n 3, 1) := by decide +kernel
theorem dX10_keep_57 : decode mX10_keep.2.1 57 = .ok (.sipush 256, 3) := by decide +kernel
theorem dX10_keep_60 : decode mX10_keep.2.1 60 = .ok (.aload_n 0, 1) := by decide +kernel
theorem dX10_keep_61 : decode mX10_keep.2.1 61 = .ok (.getfield 74, 3) := by decide +kernel
theorem dX10_keep_64 : decode mX10_keep.2.1 64 = .ok (.iload_n 1, 1) := by decide +kernel
theorem dX10_keep_65 : decode mX10_keep.2.1 65 = .ok (.aaload, 1) := by decide +kernel
theorem dX10_keep_66 : decode mX10_keep.2.1 66 = .ok (.getfield 305, 3) := by decide +kernel
theorem dX10_keep_69 : decode mX10_keep.2.1 69 = .ok (.invokestatic 256, 3) := by decide +kernel
theorem dX10_keep_72 : decode mX10_keep.2.1 72 = .ok (.istore 4, 2) := by decide +kernel
theorem dX10_keep_74 : decode mX10_keep.2.1 74 = .ok (.iconst 0, 1) := by decide +kernel
theorem dX10_keep_75 : decode mX10_keep.2.1 75 = .ok (.istore 5, 2) := by decide +kernel
theorem dX10_keep_77 : decode mX10_keep.2.1 77 = .ok (.iload 5, 2) := by decide +kernel
theorem dX10_keep_79 : decode mX10_keep.2.1 79 = .ok (.iload 4, 2) := by decide +kernel
theorem dX10_keep_81 : decode mX10_keep.2.1 81 = .ok (.if_icmp .ge 42, 3) := by decide +kernel
theorem dX10_keep_84 : decode mX10_keep.2.1 84 = .ok (.aload_n 0, 1) := by decide +kernel
theorem dX10_keep_85 : decode mX10_keep.2.1 85 = .ok (.getfield 74, 3) := by decide +kernel
theorem dX10_keep_88 : decode mX10_keep.2.1 88 = .ok (.iload_n 1, 1) := by decide +kernel
theorem dX10_keep_89 : decode mX10_keep.2.1 89 = .ok (.aaload, 1) := by decide +kernel
theorem dX10_keep_90 : decode mX10_keep.2.1 90 = .ok (.iload 5, 2) := by decide +kernel
theorem dX10_keep_92 : decode mX10_keep.2.1 92 = .ok (.aload_n 0, 1) := by decide +kernel
theorem dX10_keep_93 : decode mX10_keep.2.1 93 = .ok (.getfield 54, 3) := by decide +kernel
theorem dX10_keep_96 : decode mX10_keep.2.1 96 = .ok (.getfield 217, 3) := by decide +kernel
theorem dX10_keep_99 : decode mX10_keep.2.1 99 = .ok (.iload 5, 2) := by decide +kernel
theorem dX10_keep_101 : decode mX10_keep.2.1 101 = .ok (.baload, 1) := by decide +kernel
theorem dX10_keep_102 : decode mX10_keep.2.1 102 = .ok (.ifCond .eq 10, 3) := by decide +kernel
theorem dX10_keep_105 : decode mX10_keep.2.1 105 = .ok (.aload_n 3, 1) := by decide +kernel
theorem dX10_keep_106 : decode mX10_keep.2.1 106 = .ok (.iload 5, 2) := by decide +kernel
theorem dX10_keep_108 : decode mX10_keep.2.1 108 = .ok (.laload, 1) := by decide +kernel
theorem dX10_keep_109 : decode mX10_keep.2.1 109 = .ok (.goto 4, 3) := by decide +kernel
theorem dX10_keep_112 : decode mX10_keep.2.1 112 = .ok (.lconst 0, 1) := by decide +kernel
theorem dX10_keep_113 : decode mX10_keep.2.1 113 = .ok (.invokevirtual 310, 3) := by decide +kernel
theorem dX10_keep_116 : decode mX10_keep.2.1 116 = .ok (.pop2, 1) := by decide +kernel
theorem dX10_keep_117 : decode mX10_keep.2.1 117 = .ok (.iinc 5 1, 3) := by decide +kernel
theorem dX10_keep_120 : decode mX10_keep.2.1 120 = .ok (.goto (-43), 3) := by decide +kernel
theorem dX10_keep_123 : decode mX10_keep.2.1 123 = .ok (.aload_n 0, 1) := by decide +kernel
theorem dX10_keep_124 : decode mX10_keep.2.1 124 = .ok (.iload 4, 2) := by decide +kernel
theorem dX10_keep_126 : decode mX10_keep.2.1 126 = .ok (.invokevirtual 281, 3) := by decide +kernel
theorem dX10_keep_129 : decode mX10_keep.2.1 129 = .ok (.ireturn, 1) := by decide +kernel
theorem okX10_keep_310 : gOkV mX10_keep mX7_store 310 2 := ⟨List.forall_mem_cons.mpr ⟨(gm 1169 (by decide +kernel) rfl), List.forall_mem_cons.mpr ⟨(gm 1166 (by decide +kernel) rfl), List.forall_mem_cons.mpr ⟨(gm 1167 (by decide +kernel) rfl), List.forall_mem_cons.mpr ⟨(gm 1168 (by decide +kernel) rfl), List.forall_mem_cons.mpr ⟨(gm 121 (by decide +kernel) rfl), fun _ h => absurd h List.not_mem_nil⟩⟩⟩⟩⟩, by decide +kernel, by decide +kernel, by decide +kernel⟩
theorem okX10_keep_281 : gOkV mX10_keep mX10_fine 281 1 := ⟨List.forall_mem_cons.mpr ⟨(gm 1118 (by decide +kernel) rfl), List.forall_mem_cons.mpr ⟨(gm 1115 (by decide +kernel) rfl), List.forall_mem_cons.mpr ⟨(gm 1117 (by decide +kernel) rfl), List.forall_mem_cons.mpr ⟨(gm 53 (by decide +kernel) rfl), List.forall_mem_cons.mpr ⟨(gm 107 (by decide +kernel) rfl), fun _ h => absurd h List.not_mem_nil⟩⟩⟩⟩⟩, by decide +kernel, by decide +kernel, by decide +kernel⟩
theorem okX10_keep_296 : gOkS mX10_keep mX10_isRow 296 1 := ⟨List.forall_mem_cons.mpr ⟨(gm 1146 (by decide +kernel) rfl), List.forall_mem_cons.mpr ⟨(gm 1144 (by decide +kernel) rfl), List.forall_mem_cons.mpr ⟨(gm 1145 (by decide +kernel) rfl), List.forall_mem_cons.mpr ⟨(gm 107 (by decide +kernel) rfl), fun _ h => absurd h List.not_mem_nil⟩⟩⟩⟩, by decide +kernel, by decide +kernel, by decide +kernel⟩
theorem okX10_keep_154 : gOkS mX10_keep mX10_isAxis 154 1 := ⟨List.forall_mem_cons.mpr ⟨(gm 891 (by decide +kernel) rfl), List.forall_mem_cons.mpr ⟨(gm 889 (by decide +kernel) rfl), List.forall_mem_cons.mpr ⟨(gm 890 (by decide +kernel) rfl), List.forall_mem_cons.mpr ⟨(gm 107 (by decide +kernel) rfl), fun _ h => absurd h List.not_mem_nil⟩⟩⟩⟩, by decide +kernel, by decide +kernel, by decide +kernel⟩
theorem okX10_keep_220 : gOkV mX10_keep mX2_valuesOf 220 1 := ⟨List.forall_mem_cons.mpr ⟨(gm 984 (by decide +kernel) rfl), List.forall_mem_cons.mpr ⟨(gm 981 (by decide +kernel) rfl), List.forall_mem_cons.mpr ⟨(gm 982 (by decide +kernel) rfl), List.forall_mem_cons.mpr ⟨(gm 983 (by decide +kernel) rfl), List.forall_mem_cons.mpr ⟨(gm 118 (by decide +kernel) rfl), fun _ h => absurd h List.not_mem_nil⟩⟩⟩⟩⟩, by decide +kernel, by decide +kernel, by decide +kernel⟩
theorem okX10_keep_256 : gOkS mX10_keep mJ9_min_7cf53 256 2 := ⟨List.forall_mem_cons.mpr ⟨(gm 1057 (by decide +kernel) rfl), List.forall_mem_cons.mpr ⟨(gm 1055 (by decide +kernel) rfl), List.forall_mem_cons.mpr ⟨(gm 1056 (by decide +kernel) rfl), List.forall_mem_cons.mpr ⟨(gm 124 (by decide +kernel) rfl), fun _ h => absurd h List.not_mem_nil⟩⟩⟩⟩, by decide +kernel, by decide +kernel, by decide +kernel⟩
theorem okX10_keep_278 : gOkV mX10_keep mX10_found 278 1 := ⟨List.forall_mem_cons.mpr ⟨(gm 1113 (by decide +kernel) rfl), List.forall_mem_cons.mpr ⟨(gm 1110 (by decide +kernel) rfl), List.forall_mem_cons.mpr ⟨(gm 1112 (by decide +kernel) rfl), List.forall_mem_cons.mpr ⟨(gm 52 (by decide +kernel) rfl), List.forall_mem_cons.mpr ⟨(gm 107 (by decide +kernel) rfl), fun _ h => absurd h List.not_mem_nil⟩⟩⟩⟩⟩, by decide +kernel, by decide +kernel, by decide +kernel⟩
def fX10_keep_14 (p1 : Int32) (p2 : Int32) (σ : gS) : Option (Int32 × gS) :=
  some ((-1000001), σ)
set_option maxHeartbeats 4000000 in
set_option maxRecDepth 100000 in
theorem pX10_keep_14 {E : gE} {p1 : Int32} {p2 : Int32} {r : Int32} {σ' : gS} {σ : gS} (h : fX10_keep_14 p1 p2 σ = some (r, σ')) : gG E mX10_keep 14 [] [] σ (some (.int r)) σ' := by
  unfold fX10_keep_14 at h
  refine g_ldc (v := (-1000001)) dX10_keep_14 wc_RX10_79 ?_
  obtain ⟨rfl, rfl⟩ := so_inj h
  exact g_iret dX10_keep_16 rfl
def fX10_keep_113 (p1 : Int32) (p2 : Int32) (k77 : Nat → Int32 → Int32 → gS → Option (Int32 × gS)) (v3 : Nat) (v4 : Int32) (v5 : Int32) (s0 : Nat) (s1 : Int32) (s2 : Int64) (σ : gS) : Option (Int32 × gS) :=
  gg (152 ≤ s0 ∧ s0 ≤ 166 ∧ s0 % 2 = 0) (
  bd (fX7_store s0 s1 s2 σ) fun x2 σ3 =>
  bnd (v5 + 1) fun x5 =>
  k77 v3 v4 x5 σ3)
set_option maxHeartbeats 4000000 in
set_option maxRecDepth 100000 in
theorem pX10_keep_113 {E : gE} {p1 : Int32} {p2 : Int32} {k77 : Nat → Int32 → Int32 → gS → Option (Int32 × gS)} {r : Int32} {σ' : gS} {v3 : Nat} {v4 : Int32} {v5 : Int32} {s0 : Nat} {s1 : Int32} {s2 : Int64} {σ : gS} (hk77 : ∀ (v3 : Nat) (v4 : Int32) (v5 : Int32) (σ : gS), k77 v3 v4 v5 σ = some (r, σ') → gG E mX10_keep 77 [(0, .ref 0), (1, .int p1), (3, .ref v3), (4, .int v4), (5, .int v5)] [] σ (some (.int r)) σ') (h : fX10_keep_113 p1 p2 k77 v3 v4 v5 s0 s1 s2 σ = some (r, σ')) : gG E mX10_keep 113 [(0, .ref 0), (1, .int p1), (3, .ref v3), (4, .int v4), (5, .int v5)] [.long s2, .int s1, .ref s0] σ (some (.int r)) σ' := by
  unfold fX10_keep_113 at h
  obtain ⟨g1, h⟩ := gg_some h
  obtain ⟨x2, σ3, y4, h⟩ := bd_some h
  refine g_callVr (as := [.int s1, .long s2]) (st := []) (zX7_store g1 y4) dX10_keep_113 (gi_ro g1) rfl okX10_keep_310 (Nat.le_of_ble_eq_true rfl) ?_
  refine g_pop2 dX10_keep_116 rfl ?_
  obtain ⟨x5, ex5, h⟩ := bnd_nm h
  refine g_iinc (j := 4) (v := x5) (lv' := [(5, .int x5), (0, .ref 0), (1, .int p1), (3, .ref v3), (4, .int v4)]) dX10_keep_117 rfl (by rw [ex5]; rfl) (Nat.le_of_ble_eq_true rfl) rfl ?_
  refine g_goto (t := 77) dX10_keep_120 (by decide) ?_
  refine g_sub [1, 2, 3, 4, 0] rfl ?_
  exact hk77 v3 v4 x5 σ3 h
def fX10_keep_77 (p1 : Int32) (p2 : Int32) : Nat → Nat → Int32 → Int32 → gS → Option (Int32 × gS)
  | 0, _, _, _, _ => none
  | n + 1, v3, v4, v5, σ => if v4 ≤ v5 then
    bd (fX10_fine v4 σ) fun x2 σ3 =>
    some (x2, σ3)
  else
    gg (¬ (p1 < 0 ∨ 8 ≤ p1.toNatClampNeg)) (
    bnd (152 + 2 * p1.toNatClampNeg) fun x6 =>
    gg (¬ (v5 < 0 ∨ 256 ≤ v5.toNatClampNeg)) (
    if (σ.1 139 v5.toNatClampNeg) = 0 then
      fX10_keep_113 p1 p2 (fun v3 v4 v5 σ => fX10_keep_77 p1 p2 n v3 v4 v5 σ) v3 v4 v5 x6 v5 0 σ
    else
      gg (v3 = 137 ∨ v3 = 138) (
      gg (¬ (v5 < 0 ∨ 256 ≤ v5.toNatClampNeg)) (
      fX10_keep_113 p1 p2 (fun v3 v4 v5 σ => fX10_keep_77 p1 p2 n v3 v4 v5 σ) v3 v4 v5 x6 v5 (σ.2.1 v3 v5.toNatClampNeg) σ))))
set_option maxHeartbeats 4000000 in
set_option maxRecDepth 100000 in
theorem pX10_keep_77 {E : gE} {p1 : Int32} {p2 : Int32} {r : Int32} {σ' : gS} : ∀ (n : Nat) (v3 : Nat) (v4 : Int32) (v5 : Int32) (σ : gS), fX10_keep_77 p1 p2 n v3 v4 v5 σ = some (r, σ') → gG E mX10_keep 77 [(0, .ref 0), (1, .int p1), (3, .ref v3), (4, .int v4), (5, .int v5)] [] σ (some (.int r)) σ' := by
  intro n
  induction n with
  | zero => intro v3 v4 v5 σ h; exact absurd (show none = some (r, σ') from h) (by intro q; cases q)
  | succ n ih =>
  intro v3 v4 v5 σ h
  unfold fX10_keep_77 at h
  refine g_iload dX10_keep_77 4 rfl ?_
  refine g_iload dX10_keep_79 3 rfl ?_
  refine g_icmp_ge (t := 123) dX10_keep_81 (by decide) (fun c1 => ?_) (fun c1 => ?_)
  · replace h := if_t h c1
    refine g_aload_n dX10_keep_123 rfl 0 rfl ?_
    refine g_iload dX10_keep_124 3 rfl ?_
    obtain ⟨x2, σ3, y4, h⟩ := bd_some h
    refine g_callVr (as := [.int v4]) (st := []) (zX10_fine y4) dX10_keep_126 gi_0 rfl okX10_keep_281 (Nat.le_of_ble_eq_true rfl) ?_
    obtain ⟨rfl, rfl⟩ := so_inj h
    exact g_iret dX10_keep_129 rfl
  · replace h := if_f h c1
    refine g_aload_n dX10_keep_84 rfl 0 rfl ?_
    refine g_getC (n := 151) dX10_keep_85 gi_0 rfl fl_RX10_74 ?_
    refine g_iload_n dX10_keep_88 rfl 1 rfl ?_
    obtain ⟨g5, h⟩ := gg_some h
    refine g_aaldO dX10_keep_89 gi_151 g5 ?_
    obtain ⟨x6, ex6, h⟩ := bnd_nm h
    refine g_topr ex6 ?_
    have q7 : gRo x6 := ex6 ▸ gRo_i (vp_lt g5)
    refine g_iload dX10_keep_90 4 rfl ?_
    refine g_aload_n dX10_keep_92 rfl 0 rfl ?_
    refine g_getC (n := 136) dX10_keep_93 gi_0 rfl fl_RX10_54 ?_
    refine g_getC (n := 139) dX10_keep_96 gi_136 rfl fl_RX10_217 ?_
    refine g_iload dX10_keep_99 4 rfl ?_
    obtain ⟨g8, h⟩ := gg_some h
    refine g_zald dX10_keep_101 gi_139 g8 ?_
    refine g_if_eq (t := 112) dX10_keep_102 (by decide) (fun c9 => ?_) (fun c9 => ?_)
    · replace h := if_t h c9
      refine g_lconst (v := 0) dX10_keep_112 (by decide) ?_
      exact pX10_keep_113 (fun v3 v4 v5 σ h => ih v3 v4 v5 σ h) h
    · replace h := if_f h c9
      refine g_aload_n dX10_keep_105 rfl 2 rfl ?_
      refine g_iload dX10_keep_106 4 rfl ?_
      obtain ⟨g10, h⟩ := gg_some h
      obtain ⟨g11, h⟩ := gg_some h
      refine g_lald dX10_keep_108 (gi_vs g10) g11 ?_
      refine g_goto (t := 113) dX10_keep_109 (by decide) ?_
      exact pX10_keep_113 (fun v3 v4 v5 σ h => ih v3 v4 v5 σ h) h
def fX10_keep (p1 : Int32) (p2 : Int32) (σ : gS) : Option (Int32 × gS) :=
  bd (fX10_isRow p1 σ) fun x1 σ2 =>
  if x1 = 0 then
    fX10_keep_14 p1 p2 σ2
  else
    bd (fX10_isAxis p2 σ2) fun x5 σ6 =>
    if x5 = 0 then
      fX10_keep_14 p1 p2 σ6
    else
      if (σ6.1 136 0) = 0 then
        some ((-1000002), σ6)
      else
        gg (¬ (p1 < 0 ∨ 8 ≤ p1.toNatClampNeg)) (
        bnd (152 + 2 * p1.toNatClampNeg) fun x11 =>
        if (σ6.1 x11 0) = 0 then
          bd (fX10_found 1 σ6) fun x23 σ24 =>
          some (x23, σ24)
        else
          bd (fX2_valuesOf p2 σ6) fun x14 σ15 =>
          gg (¬ (p1 < 0 ∨ 8 ≤ p1.toNatClampNeg)) (
          bnd (152 + 2 * p1.toNatClampNeg) fun x18 =>
          bd (fJ9_min_7cf53 256 (σ15.1 x18 2) σ15) fun x20 σ21 =>
          fX10_keep_77 p1 p2 2000 x14 x20 0 σ21))
set_option maxHeartbeats 4000000 in
set_option maxRecDepth 100000 in
theorem pX10_keep {E : gE} {p1 : Int32} {p2 : Int32} {r : Int32} {σ' : gS} {σ : gS} (h : fX10_keep p1 p2 σ = some (r, σ')) : gG E mX10_keep 0 [(0, .ref 0), (1, .int p1), (2, .int p2)] [] σ (some (.int r)) σ' := by
  unfold fX10_keep at h
  refine g_iload_n dX10_keep_0 rfl 1 rfl ?_
  obtain ⟨x1, σ2, y3, h⟩ := bd_some h
  refine g_callSr (as := [.int p1]) (st := []) (zX10_isRow y3) dX10_keep_1 okX10_keep_296 (Nat.le_of_ble_eq_true rfl) ?_
  refine g_if_eq (t := 14) dX10_keep_4 (by decide) (fun c4 => ?_) (fun c4 => ?_)
  · replace h := if_t h c4
    refine g_sub [] rfl ?_
    exact pX10_keep_14 h
  · replace h := if_f h c4
    refine g_iload_n dX10_keep_7 rfl 2 rfl ?_
    obtain ⟨x5, σ6, y7, h⟩ := bd_some h
    refine g_callSr (as := [.int p2]) (st := []) (zX10_isAxis y7) dX10_keep_8 okX10_keep_154 (Nat.le_of_ble_eq_true rfl) ?_
    refine g_if_ne (t := 17) dX10_keep_11 (by decide) (fun c8 => ?_) (fun c8 => ?_)
    · replace h := if_f h c8
      refine g_aload_n dX10_keep_17 rfl 0 rfl ?_
      refine g_getC (n := 136) dX10_keep_18 gi_0 rfl fl_RX10_54 ?_
      refine g_getI dX10_keep_21 gi_136 rfl fl_RX10_102 ?_
      refine g_if_ne (t := 30) dX10_keep_24 (by decide) (fun c9 => ?_) (fun c9 => ?_)
      · replace h := if_f h c9
        refine g_aload_n dX10_keep_30 rfl 0 rfl ?_
        refine g_getC (n := 151) dX10_keep_31 gi_0 rfl fl_RX10_74 ?_
        refine g_iload_n dX10_keep_34 rfl 1 rfl ?_
        obtain ⟨g10, h⟩ := gg_some h
        refine g_aaldO dX10_keep_35 gi_151 g10 ?_
        obtain ⟨x11, ex11, h⟩ := bnd_nm h
        refine g_topr ex11 ?_
        have q12 : gRo x11 := ex11 ▸ gRo_i (vp_lt g10)
        refine g_getI dX10_keep_36 (gi_ro q12) rfl fl_RX10_302 ?_
        refine g_if_ne (t := 48) dX10_keep_39 (by decide) (fun c13 => ?_) (fun c13 => ?_)
        · replace h := if_f h c13
          refine g_aload_n dX10_keep_48 rfl 0 rfl ?_
          refine g_getC (n := 136) dX10_keep_49 gi_0 rfl fl_RX10_54 ?_
          refine g_iload_n dX10_keep_52 rfl 2 rfl ?_
          obtain ⟨x14, σ15, y16, h⟩ := bd_some h
          refine g_callVr (as := [.int p2]) (st := []) (zX2_valuesOf y16) dX10_keep_53 gi_136 rfl okX10_keep_220 (Nat.le_of_ble_eq_true rfl) ?_
          refine g_astore_n (lv' := [(3, .ref x14), (0, .ref 0), (1, .int p1), (2, .int p2)]) dX10_keep_56 rfl (Nat.le_of_ble_eq_true rfl) rfl ?_
          refine g_sipush (v := 256) dX10_keep_57 (by decide) ?_
          refine g_aload_n dX10_keep_60 rfl 1 rfl ?_
          refine g_getC (n := 151) dX10_keep_61 gi_0 rfl fl_RX10_74 ?_
          refine g_iload_n dX10_keep_64 rfl 2 rfl ?_
          obtain ⟨g17, h⟩ := gg_some h
          refine g_aaldO dX10_keep_65 gi_151 g17 ?_
          obtain ⟨x18, ex18, h⟩ := bnd_nm h
          refine g_topr ex18 ?_
          have q19 : gRo x18 := ex18 ▸ gRo_i (vp_lt g17)
          refine g_getI dX10_keep_66 (gi_ro q19) rfl fl_RX10_305 ?_
          obtain ⟨x20, σ21, y22, h⟩ := bd_some h
          refine g_callSr (as := [.int 256, .int (σ15.1 x18 2)]) (st := []) (zJ9_min_7cf53 y22) dX10_keep_69 okX10_keep_256 (Nat.le_of_ble_eq_true rfl) ?_
          refine g_istore (lv' := [(4, .int x20), (3, .ref x14), (0, .ref 0), (1, .int p1), (2, .int p2)]) dX10_keep_72 (Nat.le_of_ble_eq_true rfl) rfl ?_
          refine g_iconst (v := 0) dX10_keep_74 (by decide) ?_
          refine g_istore (lv' := [(5, .int 0), (4, .int x20), (3, .ref x14), (0, .ref 0), (1, .int p1), (2, .int p2)]) dX10_keep_75 (Nat.le_of_ble_eq_true rfl) rfl ?_
          refine g_sub [3, 4, 2, 1, 0] rfl ?_
          exact pX10_keep_77 2000 x14 x20 0 σ21 h
        · replace h := if_t h c13
          refine g_aload_n dX10_keep_42 rfl 0 rfl ?_
          refine g_iconst (v := 1) dX10_keep_43 (by decide) ?_
          obtain ⟨x23, σ24, y25, h⟩ := bd_some h
          refine g_callVr (as := [.int 1]) (st := []) (zX10_found y25) dX10_keep_44 gi_0 rfl okX10_keep_278 (Nat.le_of_ble_eq_true rfl) ?_
          obtain ⟨rfl, rfl⟩ := so_inj h
          exact g_iret dX10_keep_47 rfl
      · replace h := if_t h c9
        refine g_ldc (v := (-1000002)) dX10_keep_27 wc_RX10_168 ?_
        obtain ⟨rfl, rfl⟩ := so_inj h
        exact g_iret dX10_keep_29 rfl
    · replace h := if_t h c8
      refine g_sub [] rfl ?_
      exact pX10_keep_14 h
theorem zX10_keep {E : gE} {p1 : Int32} {p2 : Int32} {r : Int32} {σ σ' : gS} (h : fX10_keep p1 p2 σ = some (r, σ')) : gC E mX10_keep [.ref 0, .int p1, .int p2] σ (some (.int r)) σ' :=
  gC_of (by decide +kernel) rfl (Nat.le_of_ble_eq_true rfl) (pX10_keep h)
def mX10_rowsThere : gM := (yX10_rowsThere, cX10_rowsThere, RX10, 3, (some .int), 0, 0)
theorem dX10_rowsThere_0 : decode mX10_rowsThere.2.1 0 = .ok (.iconst 0, 1) := by decide +kernel
theorem dX10_rowsThere_1 : decode mX10_rowsThere.2.1 1 = .ok (.istore_n 1, 1) := by decide +kernel
theorem dX10_rowsThere_2 : decode mX10_rowsThere.2.1 2 = .ok (.iconst 0, 1) := by decide +kernel
theorem dX10_rowsThere_3 : decode mX10_rowsThere.2.1 3 = .ok (.istore_n 2, 1) := by decide +kernel
theorem dX10_rowsThere_4 : decode mX10_rowsThere.2.1 4 = .ok (.iload_n 2, 1) := by decide +kernel
theorem dX10_rowsThere_5 : decode mX10_rowsThere.2.1 5 = .ok (.bipush 8, 2) := by decide +kernel
theorem dX10_rowsThere_7 : decode mX10_rowsThere.2.1 7 = .ok (.if_icmp .ge 24, 3) := by decide +kernel
theorem dX10_rowsThere_10 : decode mX10_rowsThere.2.1 10 = .ok (.aload_n 0, 1) := by decide +kernel
theorem dX10_rowsThere_11 : decode mX10_rowsThere.2.1 11 = .ok (.getfield 74, 3) := by decide +kernel
theorem dX10_rowsThere_14 : decode mX10_rowsThere.2.1 14 = .ok (.iload_n 2, 1) := by decide +kernel
theorem dX10_rowsThere_15 : decode mX10_rowsThere.2.1 15 = .ok (.aaload, 1) := by decide +kernel
theorem dX10_rowsThere_16 : decode mX10_rowsThere.2.1 16 = .ok (.getfield 302, 3) := by decide +kernel
theorem dX10_rowsThere_19 : decode mX10_rowsThere.2.1 19 = .ok (.ifCond .eq 6, 3) := by decide +kernel
theorem dX10_rowsThere_22 : decode mX10_rowsThere.2.1 22 = .ok (.iinc 1 1, 3) := by decide +kernel
theorem dX10_rowsThere_25 : decode mX10_rowsThere.2.1 25 = .ok (.iinc 2 1, 3) := by decide +kernel
theorem dX10_rowsThere_28 : decode mX10_rowsThere.2.1 28 = .ok (.goto (-24), 3) := by decide +kernel
theorem dX10_rowsThere_31 : decode mX10_rowsThere.2.1 31 = .ok (.iload_n 1, 1) := by decide +kernel
theorem dX10_rowsThere_32 : decode mX10_rowsThere.2.1 32 = .ok (.ireturn, 1) := by decide +kernel
def fX10_rowsThere_25 (k4 : Int32 → Int32 → gS → Option (Int32 × gS)) (v1 : Int32) (v2 : Int32) (σ : gS) : Option (Int32 × gS) :=
  bnd (v2 + 1) fun x1 =>
  k4 v1 x1 σ
set_option maxHeartbeats 4000000 in
set_option maxRecDepth 100000 in
theorem pX10_rowsThere_25 {E : gE} {k4 : Int32 → Int32 → gS → Option (Int32 × gS)} {r : Int32} {σ' : gS} {v1 : Int32} {v2 : Int32} {σ : gS} (hk4 : ∀ (v1 : Int32) (v2 : Int32) (σ : gS), k4 v1 v2 σ = some (r, σ') → gG E mX10_rowsThere 4 [(0, .ref 0), (1, .int v1), (2, .int v2)] [] σ (some (.int r)) σ') (h : fX10_rowsThere_25 k4 v1 v2 σ = some (r, σ')) : gG E mX10_rowsThere 25 [(0, .ref 0), (1, .int v1), (2, .int v2)] [] σ (some (.int r)) σ' := by
  unfold fX10_rowsThere_25 at h
  obtain ⟨x1, ex1, h⟩ := bnd_nm h
  refine g_iinc (j := 2) (v := x1) (lv' := [(2, .int x1), (0, .ref 0), (1, .int v1)]) dX10_rowsThere_25 rfl (by rw [ex1]; rfl) (Nat.le_of_ble_eq_true rfl) rfl ?_
  refine g_goto (t := 4) dX10_rowsThere_28 (by decide) ?_
  refine g_sub [1, 2, 0] rfl ?_
  exact hk4 v1 x1 σ h
def fX10_rowsThere_4 : Nat → Int32 → Int32 → gS → Option (Int32 × gS)
  | 0, _, _, _ => none
  | n + 1, v1, v2, σ => if 8 ≤ v2 then
    some (v1, σ)
  else
    gg (¬ (v2 < 0 ∨ 8 ≤ v2.toNatClampNeg)) (
    bnd (152 + 2 * v2.toNatClampNeg) fun x3 =>
    if (σ.1 x3 0) = 0 then
      fX10_rowsThere_25 (fun v1 v2 σ => fX10_rowsThere_4 n v1 v2 σ) v1 v2 σ
    else
      bnd (v1 + 1) fun x6 =>
      fX10_rowsThere_25 (fun v1 v2 σ => fX10_rowsThere_4 n v1 v2 σ) x6 v2 σ)
set_option maxHeartbeats 4000000 in
set_option maxRecDepth 100000 in
theorem pX10_rowsThere_4 {E : gE} {r : Int32} {σ' : gS} : ∀ (n : Nat) (v1 : Int32) (v2 : Int32) (σ : gS), fX10_rowsThere_4 n v1 v2 σ = some (r, σ') → gG E mX10_rowsThere 4 [(0, .ref 0), (1, .int v1), (2, .int v2)] [] σ (some (.int r)) σ' := by
  intro n
  induction n with
  | zero => intro v1 v2 σ h; exact absurd (show none = some (r, σ') from h) (by intro q; cases q)
  | succ n ih =>
  intro v1 v2 σ h
  unfold fX10_rowsThere_4 at h
  refine g_iload_n dX10_rowsThere_4 rfl 2 rfl ?_
  refine g_bipush (v := 8) dX10_rowsThere_5 (by decide) ?_
  refine g_icmp_ge (t := 31) dX10_rowsThere_7 (by decide) (fun c1 => ?_) (fun c1 => ?_)
  · replace h := if_t h c1
    refine g_iload_n dX10_rowsThere_31 rfl 1 rfl ?_
    obtain ⟨rfl, rfl⟩ := so_inj h
    exact g_iret dX10_rowsThere_32 rfl
  · replace h := if_f h c1
    refine g_aload_n dX10_rowsThere_10 rfl 0 rfl ?_
    refine g_getC (n := 151) dX10_rowsThere_11 gi_0 rfl fl_RX10_74 ?_
    refine g_iload_n dX10_rowsThere_14 rfl 2 rfl ?_
    obtain ⟨g2, h⟩ := gg_some h
    refine g_aaldO dX10_rowsThere_15 gi_151 g2 ?_
    obtain ⟨x3, ex3, h⟩ := bnd_nm h
    refine g_topr ex3 ?_
    have q4 : gRo x3 := ex3 ▸ gRo_i (vp_lt g2)
    refine g_getI dX10_rowsThere_16 (gi_ro q4) rfl fl_RX10_302 ?_
    refine g_if_eq (t := 25) dX10_rowsThere_19 (by decide) (fun c5 => ?_) (fun c5 => ?_)
    · replace h := if_t h c5
      exact pX10_rowsThere_25 (fun v1 v2 σ h => ih v1 v2 σ h) h
    · replace h := if_f h c5
      obtain ⟨x6, ex6, h⟩ := bnd_nm h
      refine g_iinc (j := 1) (v := x6) (lv' := [(1, .int x6), (0, .ref 0), (2, .int v2)]) dX10_rowsThere_22 rfl (by rw [ex6]; rfl) (Nat.le_of_ble_eq_true rfl) rfl ?_
      refine g_sub [1, 0, 2] rfl ?_
      exact pX10_rowsThere_25 (fun v1 v2 σ h => ih v1 v2 σ h) h
def fX10_rowsThere (σ : gS) : Option (Int32 × gS) :=
  fX10_rowsThere_4 2000 0 0 σ
set_option maxHeartbeats 4000000 in
set_option maxRecDepth 100000 in
theorem pX10_rowsThere {E : gE} {r : Int32} {σ' : gS} {σ : gS} (h : fX10_rowsThere σ = some (r, σ')) : gG E mX10_rowsThere 0 [(0, .ref 0)] [] σ (some (.int r)) σ' := by
  unfold fX10_rowsThere at h
  refine g_iconst (v := 0) dX10_rowsThere_0 (by decide) ?_
  refine g_istore_n (lv' := [(1, .int 0), (0, .ref 0)]) dX10_rowsThere_1 rfl (Nat.le_of_ble_eq_true rfl) rfl ?_
  refine g_iconst (v := 0) dX10_rowsThere_2 (by decide) ?_
  refine g_istore_n (lv' := [(2, .int 0), (1, .int 0), (0, .ref 0)]) dX10_rowsThere_3 rfl (Nat.le_of_ble_eq_true rfl) rfl ?_
  refine g_sub [2, 1, 0] rfl ?_
  exact pX10_rowsThere_4 2000 0 0 σ h
theorem zX10_rowsThere {E : gE} {r : Int32} {σ σ' : gS} (h : fX10_rowsThere σ = some (r, σ')) : gC E mX10_rowsThere [.ref 0] σ (some (.int r)) σ' :=
  gC_of (by decide +kernel) rfl (Nat.le_of_ble_eq_true rfl) (pX10_rowsThere h)
theorem fl_RX10_332 : gFl RX10 332 1 6 := ⟨RX1, TX1, 10, rfl, by decide, ux_1, Or.inr ⟨"LinkageCurves", by decide +kernel⟩⟩
theorem fl_RX10_335 : gFl RX10 335 1 9 := ⟨RX1, TX1, 10, rfl, by decide, ux_1, Or.inr ⟨"LinkageCurves", by decide +kernel⟩⟩
theorem fl_RX10_338 : gFl RX10 338 6 1 := ⟨RX6, TX6, 10, rfl, by decide, ux_6, Or.inr ⟨"LinkageCurves", by decide +kernel⟩⟩
theorem fl_RX10_344 : gFl RX10 344 3 9 := ⟨RX3, TX3, 10, rfl, by decide, ux_3, Or.inr ⟨"LinkageCurves", by decide +kernel⟩⟩
def mX10_count : gM := (yX10_count, cX10_count, RX10, 2, (some .int), 3, 65)
theorem dX10_count_0 : decode mX10_count.2.1 0 = .ok (.iload_n 1, 1) := by decide +kernel
theorem dX10_count_1 : decode mX10_count.2.1 1 = .ok (.tableswitch 160 0 11 #[63, 72, 80, 89, 98, 107, 115, 123, 131, 139, 144, 152], 63) := by decide +kernel
theorem dX10_count_64 : decode mX10_count.2.1 64 = .ok (.aload_n 0, 1) := by decide +kernel
theorem dX10_count_65 : decode mX10_count.2.1 65 = .ok (.getfield 19, 3) := by decide +kernel
theorem dX10_count_68 : decode mX10_count.2.1 68 = .ok (.iconst 0, 1) := by decide +kernel
theorem dX10_count_69 : decode mX10_count.2.1 69 = .ok (.invokevirtual 176, 3) := by decide +kernel
theorem dX10_count_72 : decode mX10_count.2.1 72 = .ok (.ireturn, 1) := by decide +kernel
theorem dX10_count_73 : decode mX10_count.2.1 73 = .ok (.aload_n 0, 1) := by decide +kernel
theorem dX10_count_74 : decode mX10_count.2.1 74 = .ok (.getfield 19, 3) := by decide +kernel
theorem dX10_count_77 : decode mX10_count.2.1 77 = .ok (.invokevirtual 329, 3) := by decide +kernel
theorem dX10_count_80 : decode mX10_count.2.1 80 = .ok (.ireturn, 1) := by decide +kernel
theorem dX10_count_81 : decode mX10_count.2.1 81 = .ok (.aload_n 0, 1) := by decide +kernel
theorem dX10_count_82 : decode mX10_count.2.1 82 = .ok (.getfield 19, 3) := by decide +kernel
theorem dX10_count_85 : decode mX10_count.2.1 85 = .ok (.iconst 1, 1) := by decide +kernel
theorem dX10_count_86 : decode mX10_count.2.1 86 = .ok (.invokevirtual 176, 3) := by decide +kernel
theorem dX10_count_89 : decode mX10_count.2.1 89 = .ok (.ireturn, 1) := by decide +kernel
theorem dX10_count_90 : decode mX10_count.2.1 90 = .ok (.aload_n 0, 1) := by decide +kernel
theorem dX10_count_91 : decode mX10_count.2.1 91 = .ok (.getfield 19, 3) := by decide +kernel
theorem dX10_count_94 : decode mX10_count.2.1 94 = .ok (.iconst 2, 1) := by decide +kernel
theorem dX10_count_95 : decode mX10_count.2.1 95 = .ok (.invokevirtual 176, 3) := by decide +kernel
theorem dX10_count_98 : decode mX10_count.2.1 98 = .ok (.ireturn, 1) := by decide +kernel
theorem dX10_count_99 : decode mX10_count.2.1 99 = .ok (.aload_n 0, 1) := by decide +kernel
theorem dX10_count_100 : decode mX10_count.2.1 100 = .ok (.getfield 19, 3) := by decide +kernel
theorem dX10_count_103 : decode mX10_count.2.1 103 = .ok (.iconst 3, 1) := by decide +kernel
theorem dX10_count_104 : decode mX10_count.2.1 104 = .ok (.invokevirtual 176, 3) := by decide +kernel
theorem dX10_count_107 : decode mX10_count.2.1 107 = .ok (.ireturn, 1) := by decide +kernel
theorem dX10_count_108 : decode mX10_count.2.1 108 = .ok (.aload_n 0, 1) := by decide +kernel
theorem dX10_count_109 : decode mX10_count.2.1 109 = .ok (.getfield 19, 3) := by decide +kernel
theorem dX10_count_112 : decode mX10_count.2.1 112 = .ok (.getfield 105, 3) := by decide +kernel
theorem dX10_count_115 : decode mX10_count.2.1 115 = .ok (.ireturn, 1) := by decide +kernel
theorem dX10_count_116 : decode mX10_count.2.1 116 = .ok (.aload_n 0, 1) := by decide +kernel
theorem dX10_count_117 : decode mX10_count.2.1 117 = .ok (.getfield 26, 3) := by decide +kernel
theorem dX10_count_120 : decode mX10_count.2.1 120 = .ok (.getfield 332, 3) := by decide +kernel
theorem dX10_count_123 : decode mX10_count.2.1 123 = .ok (.ireturn, 1) := by decide +kernel
theorem dX10_count_124 : decode mX10_count.2.1 124 = .ok (.aload_n 0, 1) := by decide +kernel
theorem dX10_count_125 : decode mX10_count.2.1 125 = .ok (.getfield 26, 3) := by decide +kernel
theorem dX10_count_128 : decode mX10_count.2.1 128 = .ok (.getfield 335, 3) := by decide +kernel
theorem dX10_count_131 : decode mX10_count.2.1 131 = .ok (.ireturn, 1) := by decide +kernel
theorem dX10_count_132 : decode mX10_count.2.1 132 = .ok (.aload_n 0, 1) := by decide +kernel
theorem dX10_count_133 : decode mX10_count.2.1 133 = .ok (.getfield 10, 3) := by decide +kernel
theorem dX10_count_136 : decode mX10_count.2.1 136 = .ok (.getfield 338, 3) := by decide +kernel
theorem dX10_count_139 : decode mX10_count.2.1 139 = .ok (.ireturn, 1) := by decide +kernel
theorem dX10_count_140 : decode mX10_count.2.1 140 = .ok (.aload_n 0, 1) := by decide +kernel
theorem dX10_count_141 : decode mX10_count.2.1 141 = .ok (.invokevirtual 341, 3) := by decide +kernel
theorem dX10_count_144 : decode mX10_count.2.1 144 = .ok (.ireturn, 1) := by decide +kernel
theorem dX10_count_145 : decode mX10_count.2.1 145 = .ok (.aload_n 0, 1) := by decide +kernel
theorem dX10_count_146 : decode mX10_count.2.1 146 = .ok (.getfield 19, 3) := by decide +kernel
theorem dX10_count_149 : decode mX10_count.2.1 149 = .ok (.getfield 164, 3) := by decide +kernel
theorem dX10_count_152 : decode mX10_count.2.1 152 = .ok (.ireturn, 1) := by decide +kernel
theorem dX10_count_153 : decode mX10_count.2.1 153 = .ok (.aload_n 0, 1) := by decide +kernel
theorem dX10_count_154 : decode mX10_count.2.1 154 = .ok (.getfield 19, 3) := by decide +kernel
theorem dX10_count_157 : decode mX10_count.2.1 157 = .ok (.getfield 344, 3) := by decide +kernel
theorem dX10_count_160 : decode mX10_count.2.1 160 = .ok (.ireturn, 1) := by decide +kernel
theorem dX10_count_161 : decode mX10_count.2.1 161 = .ok (.ldc 79, 2) := by decide +kernel
theorem dX10_count_163 : decode mX10_count.2.1 163 = .ok (.ireturn, 1) := by decide +kernel
theorem okX10_count_176 : gOkV mX10_count mX3_size 176 1 := ⟨List.forall_mem_cons.mpr ⟨(gm 737 (by decide +kernel) rfl), List.forall_mem_cons.mpr ⟨(gm 864 (by decide +kernel) rfl), List.forall_mem_cons.mpr ⟨(gm 735 (by decide +kernel) rfl), List.forall_mem_cons.mpr ⟨(gm 736 (by decide +kernel) rfl), List.forall_mem_cons.mpr ⟨(gm 109 (by decide +kernel) rfl), fun _ h => absurd h List.not_mem_nil⟩⟩⟩⟩⟩, by decide +kernel, by decide +kernel, by decide +kernel⟩
theorem okX10_count_329 : gOkV mX10_count mX3_grounds 329 0 := ⟨List.forall_mem_cons.mpr ⟨(gm 1200 (by decide +kernel) rfl), List.forall_mem_cons.mpr ⟨(gm 1197 (by decide +kernel) rfl), List.forall_mem_cons.mpr ⟨(gm 1198 (by decide +kernel) rfl), List.forall_mem_cons.mpr ⟨(gm 1199 (by decide +kernel) rfl), List.forall_mem_cons.mpr ⟨(gm 109 (by decide +kernel) rfl), fun _ h => absurd h List.not_mem_nil⟩⟩⟩⟩⟩, by decide +kernel, by decide +kernel, by decide +kernel⟩
theorem okX10_count_341 : gOkV mX10_count mX10_rowsThere 341 0 := ⟨List.forall_mem_cons.mpr ⟨(gm 1205 (by decide +kernel) rfl), List.forall_mem_cons.mpr ⟨(gm 1202 (by decide +kernel) rfl), List.forall_mem_cons.mpr ⟨(gm 1204 (by decide +kernel) rfl), List.forall_mem_cons.mpr ⟨(gm 56 (by decide +kernel) rfl), List.forall_mem_cons.mpr ⟨(gm 107 (by decide +kernel) rfl), fun _ h => absurd h List.not_mem_nil⟩⟩⟩⟩⟩, by decide +kernel, by decide +kernel, by decide +kernel⟩
def fX10_count (p1 : Int32) (σ : gS) : Option (Int32 × gS) :=
  if p1 = 0 then
    bnd (σ.2.2 0 1) fun x2 =>
    gg (x2 = 4 ∨ x2 = 16) (
    bd (fX3_size x2 0 σ) fun x4 σ5 =>
    some (x4, σ5))
  else
    if p1 = 1 then
    bnd (σ.2.2 0 1) fun x8 =>
      gg (x8 = 4 ∨ x8 = 16) (
      bd (fX3_grounds x8 σ) fun x10 σ11 =>
      some (x10, σ11))
  else
    if p1 = 2 then
    bnd (σ.2.2 0 1) fun x14 =>
        gg (x14 = 4 ∨ x14 = 16) (
        bd (fX3_size x14 1 σ) fun x16 σ17 =>
        some (x16, σ17))
  else
    if p1 = 3 then
    bnd (σ.2.2 0 1) fun x20 =>
          gg (x20 = 4 ∨ x20 = 16) (
          bd (fX3_size x20 2 σ) fun x22 σ23 =>
          some (x22, σ23))
  else
    if p1 = 4 then
    bnd (σ.2.2 0 1) fun x26 =>
            gg (x26 = 4 ∨ x26 = 16) (
            bd (fX3_size x26 3 σ) fun x28 σ29 =>
            some (x28, σ29))
  else
    if p1 = 5 then
    bnd (σ.2.2 0 1) fun x32 =>
              gg (x32 = 4 ∨ x32 = 16) (
              some (σ.1 x32 7, σ))
  else
    if p1 = 6 then
    some (σ.1 28 6, σ)
  else
    if p1 = 7 then
    some (σ.1 28 9, σ)
  else
    if p1 = 8 then
    some (σ.1 1 1, σ)
  else
    if p1 = 9 then
    bd (fX10_rowsThere σ) fun x38 σ39 =>
                      some (x38, σ39)
  else
    if p1 = 10 then
    bnd (σ.2.2 0 1) fun x42 =>
                        gg (x42 = 4 ∨ x42 = 16) (
                        some (σ.1 x42 8, σ))
  else
    if p1 = 11 then
    bnd (σ.2.2 0 1) fun x45 =>
                          gg (x45 = 4 ∨ x45 = 16) (
                          some (σ.1 x45 9, σ))
  else
    some ((-1000001), σ)
set_option maxHeartbeats 4000000 in
set_option maxRecDepth 100000 in
theorem pX10_count {E : gE} {p1 : Int32} {r : Int32} {σ' : gS} {σ : gS} (h : fX10_count p1 σ = some (r, σ')) : gG E mX10_count 0 [(0, .ref 0), (1, .int p1)] [] σ (some (.int r)) σ' := by
  unfold fX10_count at h
  refine g_iload_n dX10_count_0 rfl 1 rfl ?_
  by_cases c1 : p1 = 0
  · replace h := if_t h c1
    refine g_tabIn (off := 63) (t := 64) dX10_count_1 (by rw [c1]; decide) (by rw [c1]; decide) (by rw [c1]; first | done | rfl) (by decide) ?_
    refine g_aload_n dX10_count_64 rfl 0 rfl ?_
    refine g_getR dX10_count_65 gi_0 rfl fl_RX10_19 ?_
    obtain ⟨x2, ex2, h⟩ := bnd_nm h
    refine g_topr ex2 ?_
    obtain ⟨g3, h⟩ := gg_some h
    refine g_iconst (v := 0) dX10_count_68 (by decide) ?_
    obtain ⟨x4, σ5, y6, h⟩ := bd_some h
    refine g_callVr (as := [.int 0]) (st := []) (zX3_size g3 y6) dX10_count_69 (gi_lk g3) rfl okX10_count_176 (Nat.le_of_ble_eq_true rfl) ?_
    obtain ⟨rfl, rfl⟩ := so_inj h
    exact g_iret dX10_count_72 rfl
  · replace h := if_f h c1
    by_cases c7 : p1 = 1
    · replace h := if_t h c7
      refine g_tabIn (off := 72) (t := 73) dX10_count_1 (by rw [c7]; decide) (by rw [c7]; decide) (by rw [c7]; first | done | rfl) (by decide) ?_
      refine g_aload_n dX10_count_73 rfl 0 rfl ?_
      refine g_getR dX10_count_74 gi_0 rfl fl_RX10_19 ?_
      obtain ⟨x8, ex8, h⟩ := bnd_nm h
      refine g_topr ex8 ?_
      obtain ⟨g9, h⟩ := gg_some h
      obtain ⟨x10, σ11, y12, h⟩ := bd_some h
      refine g_callVr (as := []) (st := []) (zX3_grounds g9 y12) dX10_count_77 (gi_lk g9) rfl okX10_count_329 (Nat.le_of_ble_eq_true rfl) ?_
      obtain ⟨rfl, rfl⟩ := so_inj h
      exact g_iret dX10_count_80 rfl
    · replace h := if_f h c7
      by_cases c13 : p1 = 2
      · replace h := if_t h c13
        refine g_tabIn (off := 80) (t := 81) dX10_count_1 (by rw [c13]; decide) (by rw [c13]; decide) (by rw [c13]; first | done | rfl) (by decide) ?_
        refine g_aload_n dX10_count_81 rfl 0 rfl ?_
        refine g_getR dX10_count_82 gi_0 rfl fl_RX10_19 ?_
        obtain ⟨x14, ex14, h⟩ := bnd_nm h
        refine g_topr ex14 ?_
        obtain ⟨g15, h⟩ := gg_some h
        refine g_iconst (v := 1) dX10_count_85 (by decide) ?_
        obtain ⟨x16, σ17, y18, h⟩ := bd_some h
        refine g_callVr (as := [.int 1]) (st := []) (zX3_size g15 y18) dX10_count_86 (gi_lk g15) rfl okX10_count_176 (Nat.le_of_ble_eq_true rfl) ?_
        obtain ⟨rfl, rfl⟩ := so_inj h
        exact g_iret dX10_count_89 rfl
      · replace h := if_f h c13
        by_cases c19 : p1 = 3
        · replace h := if_t h c19
          refine g_tabIn (off := 89) (t := 90) dX10_count_1 (by rw [c19]; decide) (by rw [c19]; decide) (by rw [c19]; first | done | rfl) (by decide) ?_
          refine g_aload_n dX10_count_90 rfl 0 rfl ?_
          refine g_getR dX10_count_91 gi_0 rfl fl_RX10_19 ?_
          obtain ⟨x20, ex20, h⟩ := bnd_nm h
          refine g_topr ex20 ?_
          obtain ⟨g21, h⟩ := gg_some h
          refine g_iconst (v := 2) dX10_count_94 (by decide) ?_
          obtain ⟨x22, σ23, y24, h⟩ := bd_some h
          refine g_callVr (as := [.int 2]) (st := []) (zX3_size g21 y24) dX10_count_95 (gi_lk g21) rfl okX10_count_176 (Nat.le_of_ble_eq_true rfl) ?_
          obtain ⟨rfl, rfl⟩ := so_inj h
          exact g_iret dX10_count_98 rfl
        · replace h := if_f h c19
          by_cases c25 : p1 = 4
          · replace h := if_t h c25
            refine g_tabIn (off := 98) (t := 99) dX10_count_1 (by rw [c25]; decide) (by rw [c25]; decide) (by rw [c25]; first | done | rfl) (by decide) ?_
            refine g_aload_n dX10_count_99 rfl 0 rfl ?_
            refine g_getR dX10_count_100 gi_0 rfl fl_RX10_19 ?_
            obtain ⟨x26, ex26, h⟩ := bnd_nm h
            refine g_topr ex26 ?_
            obtain ⟨g27, h⟩ := gg_some h
            refine g_iconst (v := 3) dX10_count_103 (by decide) ?_
            obtain ⟨x28, σ29, y30, h⟩ := bd_some h
            refine g_callVr (as := [.int 3]) (st := []) (zX3_size g27 y30) dX10_count_104 (gi_lk g27) rfl okX10_count_176 (Nat.le_of_ble_eq_true rfl) ?_
            obtain ⟨rfl, rfl⟩ := so_inj h
            exact g_iret dX10_count_107 rfl
          · replace h := if_f h c25
            by_cases c31 : p1 = 5
            · replace h := if_t h c31
              refine g_tabIn (off := 107) (t := 108) dX10_count_1 (by rw [c31]; decide) (by rw [c31]; decide) (by rw [c31]; first | done | rfl) (by decide) ?_
              refine g_aload_n dX10_count_108 rfl 0 rfl ?_
              refine g_getR dX10_count_109 gi_0 rfl fl_RX10_19 ?_
              obtain ⟨x32, ex32, h⟩ := bnd_nm h
              refine g_topr ex32 ?_
              obtain ⟨g33, h⟩ := gg_some h
              refine g_getI dX10_count_112 (gi_lk g33) rfl fl_RX10_105 ?_
              obtain ⟨rfl, rfl⟩ := so_inj h
              exact g_iret dX10_count_115 rfl
            · replace h := if_f h c31
              by_cases c34 : p1 = 6
              · replace h := if_t h c34
                refine g_tabIn (off := 115) (t := 116) dX10_count_1 (by rw [c34]; decide) (by rw [c34]; decide) (by rw [c34]; first | done | rfl) (by decide) ?_
                refine g_aload_n dX10_count_116 rfl 0 rfl ?_
                refine g_getC (n := 28) dX10_count_117 gi_0 rfl fl_RX10_26 ?_
                refine g_getI dX10_count_120 gi_28 rfl fl_RX10_332 ?_
                obtain ⟨rfl, rfl⟩ := so_inj h
                exact g_iret dX10_count_123 rfl
              · replace h := if_f h c34
                by_cases c35 : p1 = 7
                · replace h := if_t h c35
                  refine g_tabIn (off := 123) (t := 124) dX10_count_1 (by rw [c35]; decide) (by rw [c35]; decide) (by rw [c35]; first | done | rfl) (by decide) ?_
                  refine g_aload_n dX10_count_124 rfl 0 rfl ?_
                  refine g_getC (n := 28) dX10_count_125 gi_0 rfl fl_RX10_26 ?_
                  refine g_getI dX10_count_128 gi_28 rfl fl_RX10_335 ?_
                  obtain ⟨rfl, rfl⟩ := so_inj h
                  exact g_iret dX10_count_131 rfl
                · replace h := if_f h c35
                  by_cases c36 : p1 = 8
                  · replace h := if_t h c36
                    refine g_tabIn (off := 131) (t := 132) dX10_count_1 (by rw [c36]; decide) (by rw [c36]; decide) (by rw [c36]; first | done | rfl) (by decide) ?_
                    refine g_aload_n dX10_count_132 rfl 0 rfl ?_
                    refine g_getC (n := 1) dX10_count_133 gi_0 rfl fl_RX10_10 ?_
                    refine g_getI dX10_count_136 gi_1 rfl fl_RX10_338 ?_
                    obtain ⟨rfl, rfl⟩ := so_inj h
                    exact g_iret dX10_count_139 rfl
                  · replace h := if_f h c36
                    by_cases c37 : p1 = 9
                    · replace h := if_t h c37
                      refine g_tabIn (off := 139) (t := 140) dX10_count_1 (by rw [c37]; decide) (by rw [c37]; decide) (by rw [c37]; first | done | rfl) (by decide) ?_
                      refine g_aload_n dX10_count_140 rfl 0 rfl ?_
                      obtain ⟨x38, σ39, y40, h⟩ := bd_some h
                      refine g_callVr (as := []) (st := []) (zX10_rowsThere y40) dX10_count_141 gi_0 rfl okX10_count_341 (Nat.le_of_ble_eq_true rfl) ?_
                      obtain ⟨rfl, rfl⟩ := so_inj h
                      exact g_iret dX10_count_144 rfl
                    · replace h := if_f h c37
                      by_cases c41 : p1 = 10
                      · replace h := if_t h c41
                        refine g_tabIn (off := 144) (t := 145) dX10_count_1 (by rw [c41]; decide) (by rw [c41]; decide) (by rw [c41]; first | done | rfl) (by decide) ?_
                        refine g_aload_n dX10_count_145 rfl 0 rfl ?_
                        refine g_getR dX10_count_146 gi_0 rfl fl_RX10_19 ?_
                        obtain ⟨x42, ex42, h⟩ := bnd_nm h
                        refine g_topr ex42 ?_
                        obtain ⟨g43, h⟩ := gg_some h
                        refine g_getI dX10_count_149 (gi_lk g43) rfl fl_RX10_164 ?_
                        obtain ⟨rfl, rfl⟩ := so_inj h
                        exact g_iret dX10_count_152 rfl
                      · replace h := if_f h c41
                        by_cases c44 : p1 = 11
                        · replace h := if_t h c44
                          refine g_tabIn (off := 152) (t := 153) dX10_count_1 (by rw [c44]; decide) (by rw [c44]; decide) (by rw [c44]; first | done | rfl) (by decide) ?_
                          refine g_aload_n dX10_count_153 rfl 0 rfl ?_
                          refine g_getR dX10_count_154 gi_0 rfl fl_RX10_19 ?_
                          obtain ⟨x45, ex45, h⟩ := bnd_nm h
                          refine g_topr ex45 ?_
                          obtain ⟨g46, h⟩ := gg_some h
                          refine g_getI dX10_count_157 (gi_lk g46) rfl fl_RX10_344 ?_
                          obtain ⟨rfl, rfl⟩ := so_inj h
                          exact g_iret dX10_count_160 rfl
                        · replace h := if_f h c44
                          have nc1 := lv_neT (a := 0) c1 (by decide)
                          have nc7 := lv_neT (a := 1) c7 (by decide)
                          have nc13 := lv_neT (a := 2) c13 (by decide)
                          have nc19 := lv_neT (a := 3) c19 (by decide)
                          have nc25 := lv_neT (a := 4) c25 (by decide)
                          have nc31 := lv_neT (a := 5) c31 (by decide)
                          have nc34 := lv_neT (a := 6) c34 (by decide)
                          have nc35 := lv_neT (a := 7) c35 (by decide)
                          have nc36 := lv_neT (a := 8) c36 (by decide)
                          have nc37 := lv_neT (a := 9) c37 (by decide)
                          have nc41 := lv_neT (a := 10) c41 (by decide)
                          have nc44 := lv_neT (a := 11) c44 (by decide)
                          refine g_tabOut (t := 161) dX10_count_1 (by omega) (by decide) ?_
                          refine g_ldc (v := (-1000001)) dX10_count_161 wc_RX10_79 ?_
                          obtain ⟨rfl, rfl⟩ := so_inj h
                          exact g_iret dX10_count_163 rfl
theorem zX10_count {E : gE} {p1 : Int32} {r : Int32} {σ σ' : gS} (h : fX10_count p1 σ = some (r, σ')) : gC E mX10_count [.ref 0, .int p1] σ (some (.int r)) σ' :=
  gC_of (by decide +kernel) rfl (Nat.le_of_ble_eq_true rfl) (pX10_count h)
theorem fl_RX10_347 : gFl RX10 347 10 11 := ⟨RX10, TX10, 12, rfl, by decide, ux_10, Or.inl (gm 537 (by decide +kernel) rfl)⟩
def mX10_status : gM := (yX10_status, cX10_status, RX10, 1, (some .int), 0, 0)
theorem dX10_status_0 : decode mX10_status.2.1 0 = .ok (.aload_n 0, 1) := by decide +kernel
theorem dX10_status_1 : decode mX10_status.2.1 1 = .ok (.getfield 347, 3) := by decide +kernel
theorem dX10_status_4 : decode mX10_status.2.1 4 = .ok (.ireturn, 1) := by decide +kernel
def fX10_status (σ : gS) : Option (Int32 × gS) :=
  some (σ.1 0 11, σ)
set_option maxHeartbeats 4000000 in
set_option maxRecDepth 100000 in
theorem pX10_status {E : gE} {r : Int32} {σ' : gS} {σ : gS} (h : fX10_status σ = some (r, σ')) : gG E mX10_status 0 [(0, .ref 0)] [] σ (some (.int r)) σ' := by
  unfold fX10_status at h
  refine g_aload_n dX10_status_0 rfl 0 rfl ?_
  refine g_getI dX10_status_1 gi_0 rfl fl_RX10_347 ?_
  obtain ⟨rfl, rfl⟩ := so_inj h
  exact g_iret dX10_status_4 rfl
theorem zX10_status {E : gE} {r : Int32} {σ σ' : gS} (h : fX10_status σ = some (r, σ')) : gC E mX10_status [.ref 0] σ (some (.int r)) σ' :=
  gC_of (by decide +kernel) rfl (Nat.le_of_ble_eq_true rfl) (pX10_status h)
theorem wl_RX10_352 : Cond.constantLong RX10 352 31 ∈ gWS := (gm 1215 (by decide +kernel) rfl)
theorem wl_RX10_350 : Cond.constantLong RX10 350 17 ∈ gWS := (gm 1214 (by decide +kernel) rfl)
def mX10_digest : gM := (yX10_digest, cX10_digest, RX10, 4, (some .long), 1, 25)
theorem dX10_digest_0 : decode mX10_digest.2.1 0 = .ok (.ldc2_w 350, 3) := by decide +kernel
theorem dX10_digest_3 : decode mX10_digest.2.1 3 = .ok (.lstore_n 1, 1) := by decide +kernel
theorem dX10_digest_4 : decode mX10_digest.2.1 4 = .ok (.iconst 0, 1) := by decide +kernel
theorem dX10_digest_5 : decode mX10_digest.2.1 5 = .ok (.istore_n 3, 1) := by decide +kernel
theorem dX10_digest_6 : decode mX10_digest.2.1 6 = .ok (.iload_n 3, 1) := by decide +kernel
theorem dX10_digest_7 : decode mX10_digest.2.1 7 = .ok (.aload_n 0, 1) := by decide +kernel
theorem dX10_digest_8 : decode mX10_digest.2.1 8 = .ok (.getfield 19, 3) := by decide +kernel
theorem dX10_digest_11 : decode mX10_digest.2.1 11 = .ok (.getfield 105, 3) := by decide +kernel
theorem dX10_digest_14 : decode mX10_digest.2.1 14 = .ok (.if_icmp .ge 60, 3) := by decide +kernel
theorem dX10_digest_17 : decode mX10_digest.2.1 17 = .ok (.ldc2_w 352, 3) := by decide +kernel
theorem dX10_digest_20 : decode mX10_digest.2.1 20 = .ok (.lload_n 1, 1) := by decide +kernel
theorem dX10_digest_21 : decode mX10_digest.2.1 21 = .ok (.lmul, 1) := by decide +kernel
theorem dX10_digest_22 : decode mX10_digest.2.1 22 = .ok (.aload_n 0, 1) := by decide +kernel
theorem dX10_digest_23 : decode mX10_digest.2.1 23 = .ok (.getfield 19, 3) := by decide +kernel
theorem dX10_digest_26 : decode mX10_digest.2.1 26 = .ok (.getfield 116, 3) := by decide +kernel
theorem dX10_digest_29 : decode mX10_digest.2.1 29 = .ok (.iload_n 3, 1) := by decide +kernel
theorem dX10_digest_30 : decode mX10_digest.2.1 30 = .ok (.iaload, 1) := by decide +kernel
theorem dX10_digest_31 : decode mX10_digest.2.1 31 = .ok (.i2l, 1) := by decide +kernel
theorem dX10_digest_32 : decode mX10_digest.2.1 32 = .ok (.ladd, 1) := by decide +kernel
theorem dX10_digest_33 : decode mX10_digest.2.1 33 = .ok (.lstore_n 1, 1) := by decide +kernel
theorem dX10_digest_34 : decode mX10_digest.2.1 34 = .ok (.ldc2_w 352, 3) := by decide +kernel
theorem dX10_digest_37 : decode mX10_digest.2.1 37 = .ok (.lload_n 1, 1) := by decide +kernel
theorem dX10_digest_38 : decode mX10_digest.2.1 38 = .ok (.lmul, 1) := by decide +kernel
theorem dX10_digest_39 : decode mX10_digest.2.1 39 = .ok (.aload_n 0, 1) := by decide +kernel
theorem dX10_digest_40 : decode mX10_digest.2.1 40 = .ok (.getfield 19, 3) := by decide +kernel
theorem dX10_digest_43 : decode mX10_digest.2.1 43 = .ok (.getfield 123, 3) := by decide +kernel
theorem dX10_digest_46 : decode mX10_digest.2.1 46 = .ok (.iload_n 3, 1) := by decide +kernel
theorem dX10_digest_47 : decode mX10_digest.2.1 47 = .ok (.iaload, 1) := by decide +kernel
theorem dX10_digest_48 : decode mX10_digest.2.1 48 = .ok (.i2l, 1) := by decide +kernel
theorem dX10_digest_49 : decode mX10_digest.2.1 49 = .ok (.ladd, 1) := by decide +kernel
theorem dX10_digest_50 : decode mX10_digest.2.1 50 = .ok (.lstore_n 1, 1) := by decide +kernel
theorem dX10_digest_51 : decode mX10_digest.2.1 51 = .ok (.ldc2_w 352, 3) := by decide +kernel
theorem dX10_digest_54 : decode mX10_digest.2.1 54 = .ok (.lload_n 1, 1) := by decide +kernel
theorem dX10_digest_55 : decode mX10_digest.2.1 55 = .ok (.lmul, 1) := by decide +kernel
theorem dX10_digest_56 : decode mX10_digest.2.1 56 = .ok (.aload_n 0, 1) := by decide +kernel
theorem dX10_digest_57 : decode mX10_digest.2.1 57 = .ok (.getfield 19, 3) := by decide +kernel
theorem dX10_digest_60 : decode mX10_digest.2.1 60 = .ok (.getfield 126, 3) := by decide +kernel
theorem dX10_digest_63 : decode mX10_digest.2.1 63 = .ok (.iload_n 3, 1) := by decide +kernel
theorem dX10_digest_64 : decode mX10_digest.2.1 64 = .ok (.iaload, 1) := by decide +kernel
theorem dX10_digest_65 : decode mX10_digest.2.1 65 = .ok (.i2l, 1) := by decide +kernel
theorem dX10_digest_66 : decode mX10_digest.2.1 66 = .ok (.ladd, 1) := by decide +kernel
theorem dX10_digest_67 : decode mX10_digest.2.1 67 = .ok (.lstore_n 1, 1) := by decide +kernel
theorem dX10_digest_68 : decode mX10_digest.2.1 68 = .ok (.iinc 3 1, 3) := by decide +kernel
theorem dX10_digest_71 : decode mX10_digest.2.1 71 = .ok (.goto (-65), 3) := by decide +kernel
theorem dX10_digest_74 : decode mX10_digest.2.1 74 = .ok (.iconst 0, 1) := by decide +kernel
theorem dX10_digest_75 : decode mX10_digest.2.1 75 = .ok (.istore_n 3, 1) := by decide +kernel
theorem dX10_digest_76 : decode mX10_digest.2.1 76 = .ok (.iload_n 3, 1) := by decide +kernel
theorem dX10_digest_77 : decode mX10_digest.2.1 77 = .ok (.bipush 8, 2) := by decide +kernel
theorem dX10_digest_79 : decode mX10_digest.2.1 79 = .ok (.if_icmp .ge 20, 3) := by decide +kernel
theorem dX10_digest_82 : decode mX10_digest.2.1 82 = .ok (.aload_n 0, 1) := by decide +kernel
theorem dX10_digest_83 : decode mX10_digest.2.1 83 = .ok (.getfield 74, 3) := by decide +kernel
theorem dX10_digest_86 : decode mX10_digest.2.1 86 = .ok (.iload_n 3, 1) := by decide +kernel
theorem dX10_digest_87 : decode mX10_digest.2.1 87 = .ok (.aaload, 1) := by decide +kernel
theorem dX10_digest_88 : decode mX10_digest.2.1 88 = .ok (.lload_n 1, 1) := by decide +kernel
theorem dX10_digest_89 : decode mX10_digest.2.1 89 = .ok (.invokevirtual 354, 3) := by decide +kernel
theorem dX10_digest_92 : decode mX10_digest.2.1 92 = .ok (.lstore_n 1, 1) := by decide +kernel
theorem dX10_digest_93 : decode mX10_digest.2.1 93 = .ok (.iinc 3 1, 3) := by decide +kernel
theorem dX10_digest_96 : decode mX10_digest.2.1 96 = .ok (.goto (-20), 3) := by decide +kernel
theorem dX10_digest_99 : decode mX10_digest.2.1 99 = .ok (.lload_n 1, 1) := by decide +kernel
theorem dX10_digest_100 : decode mX10_digest.2.1 100 = .ok (.lreturn, 1) := by decide +kernel
theorem okX10_digest_354 : gOkV mX10_digest mX7_mixedInto 354 1 := ⟨List.forall_mem_cons.mpr ⟨(gm 1219 (by decide +kernel) rfl), List.forall_mem_cons.mpr ⟨(gm 1216 (by decide +kernel) rfl), List.forall_mem_cons.mpr ⟨(gm 1217 (by decide +kernel) rfl), List.forall_mem_cons.mpr ⟨(gm 1218 (by decide +kernel) rfl), List.forall_mem_cons.mpr ⟨(gm 121 (by decide +kernel) rfl), fun _ h => absurd h List.not_mem_nil⟩⟩⟩⟩⟩, by decide +kernel, by decide +kernel, by decide +kernel⟩
def fX10_digest_76 : Nat → Int64 → Int32 → gS → Option (Int64 × gS)
  | 0, _, _, _ => none
  | n + 1, v1, v3, σ => if 8 ≤ v3 then
    some (v1, σ)
  else
    gg (¬ (v3 < 0 ∨ 8 ≤ v3.toNatClampNeg)) (
    bnd (152 + 2 * v3.toNatClampNeg) fun x3 =>
    bd (fX7_mixedInto x3 v1 σ) fun x5 σ6 =>
    bnd (v3 + 1) fun x8 =>
    fX10_digest_76 n x5 x8 σ6)
set_option maxHeartbeats 4000000 in
set_option maxRecDepth 100000 in
theorem pX10_digest_76 {E : gE} {r : Int64} {σ' : gS} : ∀ (n : Nat) (v1 : Int64) (v3 : Int32) (σ : gS), fX10_digest_76 n v1 v3 σ = some (r, σ') → gG E mX10_digest 76 [(0, .ref 0), (1, .long v1), (3, .int v3)] [] σ (some (.long r)) σ' := by
  intro n
  induction n with
  | zero => intro v1 v3 σ h; exact absurd (show none = some (r, σ') from h) (by intro q; cases q)
  | succ n ih =>
  intro v1 v3 σ h
  unfold fX10_digest_76 at h
  refine g_iload_n dX10_digest_76 rfl 2 rfl ?_
  refine g_bipush (v := 8) dX10_digest_77 (by decide) ?_
  refine g_icmp_ge (t := 99) dX10_digest_79 (by decide) (fun c1 => ?_) (fun c1 => ?_)
  · replace h := if_t h c1
    refine g_lload_n dX10_digest_99 rfl 1 rfl ?_
    obtain ⟨rfl, rfl⟩ := so_inj h
    exact g_lret dX10_digest_100 rfl
  · replace h := if_f h c1
    refine g_aload_n dX10_digest_82 rfl 0 rfl ?_
    refine g_getC (n := 151) dX10_digest_83 gi_0 rfl fl_RX10_74 ?_
    refine g_iload_n dX10_digest_86 rfl 2 rfl ?_
    obtain ⟨g2, h⟩ := gg_some h
    refine g_aaldO dX10_digest_87 gi_151 g2 ?_
    obtain ⟨x3, ex3, h⟩ := bnd_nm h
    refine g_topr ex3 ?_
    have q4 : gRo x3 := ex3 ▸ gRo_i (vp_lt g2)
    refine g_lload_n dX10_digest_88 rfl 1 rfl ?_
    obtain ⟨x5, σ6, y7, h⟩ := bd_some h
    refine g_callVr (as := [.long v1]) (st := []) (zX7_mixedInto q4 y7) dX10_digest_89 (gi_ro q4) rfl okX10_digest_354 (Nat.le_of_ble_eq_true rfl) ?_
    refine g_lstore_n (lv' := [(1, .long x5), (0, .ref 0), (3, .int v3)]) dX10_digest_92 rfl (Nat.le_of_ble_eq_true rfl) rfl ?_
    obtain ⟨x8, ex8, h⟩ := bnd_nm h
    refine g_iinc (j := 2) (v := x8) (lv' := [(3, .int x8), (1, .long x5), (0, .ref 0)]) dX10_digest_93 rfl (by rw [ex8]; rfl) (Nat.le_of_ble_eq_true rfl) rfl ?_
    refine g_goto (t := 76) dX10_digest_96 (by decide) ?_
    refine g_sub [2, 1, 0] rfl ?_
    exact ih x5 x8 σ6 h
def fX10_digest_6 : Nat → Int64 → Int32 → gS → Option (Int64 × gS)
  | 0, _, _, _ => none
  | n + 1, v1, v3, σ => bnd (σ.2.2 0 1) fun x1 =>
  gg (x1 = 4 ∨ x1 = 16) (
  if (σ.1 x1 7) ≤ v3 then
    fX10_digest_76 2000 v1 0 σ
  else
    bnd (σ.2.2 0 1) fun x4 =>
    gg (x4 = 4 ∨ x4 = 16) (
    gg (¬ (v3 < 0 ∨ 130 ≤ v3.toNatClampNeg)) (
    bnd ((31 * v1) + ((σ.1 (x4 + 1) v3.toNatClampNeg).toInt64)) fun x7 =>
    bnd (σ.2.2 0 1) fun x8 =>
    gg (x8 = 4 ∨ x8 = 16) (
    gg (¬ (v3 < 0 ∨ 130 ≤ v3.toNatClampNeg)) (
    bnd ((31 * x7) + ((σ.1 (x8 + 3) v3.toNatClampNeg).toInt64)) fun x11 =>
    bnd (σ.2.2 0 1) fun x12 =>
    gg (x12 = 4 ∨ x12 = 16) (
    gg (¬ (v3 < 0 ∨ 130 ≤ v3.toNatClampNeg)) (
    bnd ((31 * x11) + ((σ.1 (x12 + 4) v3.toNatClampNeg).toInt64)) fun x15 =>
    bnd (v3 + 1) fun x16 =>
    fX10_digest_6 n x15 x16 σ)))))))
set_option maxHeartbeats 4000000 in
set_option maxRecDepth 100000 in
theorem pX10_digest_6 {E : gE} {r : Int64} {σ' : gS} : ∀ (n : Nat) (v1 : Int64) (v3 : Int32) (σ : gS), fX10_digest_6 n v1 v3 σ = some (r, σ') → gG E mX10_digest 6 [(0, .ref 0), (1, .long v1), (3, .int v3)] [] σ (some (.long r)) σ' := by
  intro n
  induction n with
  | zero => intro v1 v3 σ h; exact absurd (show none = some (r, σ') from h) (by intro q; cases q)
  | succ n ih =>
  intro v1 v3 σ h
  unfold fX10_digest_6 at h
  refine g_iload_n dX10_digest_6 rfl 2 rfl ?_
  refine g_aload_n dX10_digest_7 rfl 0 rfl ?_
  refine g_getR dX10_digest_8 gi_0 rfl fl_RX10_19 ?_
  obtain ⟨x1, ex1, h⟩ := bnd_nm h
  refine g_topr ex1 ?_
  obtain ⟨g2, h⟩ := gg_some h
  refine g_getI dX10_digest_11 (gi_lk g2) rfl fl_RX10_105 ?_
  refine g_icmp_ge (t := 74) dX10_digest_14 (by decide) (fun c3 => ?_) (fun c3 => ?_)
  · replace h := if_t h c3
    refine g_iconst (v := 0) dX10_digest_74 (by decide) ?_
    refine g_istore_n (lv' := [(3, .int 0), (0, .ref 0), (1, .long v1)]) dX10_digest_75 rfl (Nat.le_of_ble_eq_true rfl) rfl ?_
    refine g_sub [1, 2, 0] rfl ?_
    exact pX10_digest_76 2000 v1 0 σ h
  · replace h := if_f h c3
    refine g_ldc2 (v := 31) dX10_digest_17 wl_RX10_352 ?_
    refine g_lload_n dX10_digest_20 rfl 1 rfl ?_
    refine g_lmul dX10_digest_21 ?_
    refine g_aload_n dX10_digest_22 rfl 0 rfl ?_
    refine g_getR dX10_digest_23 gi_0 rfl fl_RX10_19 ?_
    obtain ⟨x4, ex4, h⟩ := bnd_nm h
    refine g_topr ex4 ?_
    obtain ⟨g5, h⟩ := gg_some h
    refine g_getC (n := (x4 + 1)) dX10_digest_26 (gi_lk g5) rfl fl_RX10_116 ?_
    refine g_iload_n dX10_digest_29 rfl 2 rfl ?_
    obtain ⟨g6, h⟩ := gg_some h
    refine g_iald dX10_digest_30 (gi_lk1 g5) g6 ?_
    refine g_i2l dX10_digest_31 ?_
    refine g_ladd dX10_digest_32 ?_
    obtain ⟨x7, ex7, h⟩ := bnd_nm h
    refine g_topl ex7 ?_
    refine g_lstore_n (lv' := [(1, .long x7), (0, .ref 0), (3, .int v3)]) dX10_digest_33 rfl (Nat.le_of_ble_eq_true rfl) rfl ?_
    refine g_ldc2 (v := 31) dX10_digest_34 wl_RX10_352 ?_
    refine g_lload_n dX10_digest_37 rfl 0 rfl ?_
    refine g_lmul dX10_digest_38 ?_
    refine g_aload_n dX10_digest_39 rfl 1 rfl ?_
    refine g_getR dX10_digest_40 gi_0 rfl fl_RX10_19 ?_
    obtain ⟨x8, ex8, h⟩ := bnd_nm h
    refine g_topr ex8 ?_
    obtain ⟨g9, h⟩ := gg_some h
    refine g_getC (n := (x8 + 3)) dX10_digest_43 (gi_lk g9) rfl fl_RX10_123 ?_
    refine g_iload_n dX10_digest_46 rfl 2 rfl ?_
    obtain ⟨g10, h⟩ := gg_some h
    refine g_iald dX10_digest_47 (gi_lk3 g9) g10 ?_
    refine g_i2l dX10_digest_48 ?_
    refine g_ladd dX10_digest_49 ?_
    obtain ⟨x11, ex11, h⟩ := bnd_nm h
    refine g_topl ex11 ?_
    refine g_lstore_n (lv' := [(1, .long x11), (0, .ref 0), (3, .int v3)]) dX10_digest_50 rfl (Nat.le_of_ble_eq_true rfl) rfl ?_
    refine g_ldc2 (v := 31) dX10_digest_51 wl_RX10_352 ?_
    refine g_lload_n dX10_digest_54 rfl 0 rfl ?_
    refine g_lmul dX10_digest_55 ?_
    refine g_aload_n dX10_digest_56 rfl 1 rfl ?_
    refine g_getR dX10_digest_57 gi_0 rfl fl_RX10_19 ?_
    obtain ⟨x12, ex12, h⟩ := bnd_nm h
    refine g_topr ex12 ?_
    obtain ⟨g13, h⟩ := gg_some h
    refine g_getC (n := (x12 + 4)) dX10_digest_60 (gi_lk g13) rfl fl_RX10_126 ?_
    refine g_iload_n dX10_digest_63 rfl 2 rfl ?_
    obtain ⟨g14, h⟩ := gg_some h
    refine g_iald dX10_digest_64 (gi_lk4 g13) g14 ?_
    refine g_i2l dX10_digest_65 ?_
    refine g_ladd dX10_digest_66 ?_
    obtain ⟨x15, ex15, h⟩ := bnd_nm h
    refine g_topl ex15 ?_
    refine g_lstore_n (lv' := [(1, .long x15), (0, .ref 0), (3, .int v3)]) dX10_digest_67 rfl (Nat.le_of_ble_eq_true rfl) rfl ?_
    obtain ⟨x16, ex16, h⟩ := bnd_nm h
    refine g_iinc (j := 2) (v := x16) (lv' := [(3, .int x16), (1, .long x15), (0, .ref 0)]) dX10_digest_68 rfl (by rw [ex16]; rfl) (Nat.le_of_ble_eq_true rfl) rfl ?_
    refine g_goto (t := 6) dX10_digest_71 (by decide) ?_
    refine g_sub [2, 1, 0] rfl ?_
    exact ih x15 x16 σ h
def fX10_digest (σ : gS) : Option (Int64 × gS) :=
  fX10_digest_6 2000 17 0 σ
set_option maxHeartbeats 4000000 in
set_option maxRecDepth 100000 in
theorem pX10_digest {E : gE} {r : Int64} {σ' : gS} {σ : gS} (h : fX10_digest σ = some (r, σ')) : gG E mX10_digest 0 [(0, .ref 0)] [] σ (some (.long r)) σ' := by
  unfold fX10_digest at h
  refine g_ldc2 (v := 17) dX10_digest_0 wl_RX10_350 ?_
  refine g_lstore_n (lv' := [(1, .long 17), (0, .ref 0)]) dX10_digest_3 rfl (Nat.le_of_ble_eq_true rfl) rfl ?_
  refine g_iconst (v := 0) dX10_digest_4 (by decide) ?_
  refine g_istore_n (lv' := [(3, .int 0), (1, .long 17), (0, .ref 0)]) dX10_digest_5 rfl (Nat.le_of_ble_eq_true rfl) rfl ?_
  refine g_sub [2, 1, 0] rfl ?_
  exact pX10_digest_6 2000 17 0 σ h
theorem zX10_digest {E : gE} {r : Int64} {σ σ' : gS} (h : fX10_digest σ = some (r, σ')) : gC E mX10_digest [.ref 0] σ (some (.long r)) σ' :=
  gC_of (by decide +kernel) rfl (Nat.le_of_ble_eq_true rfl) (pX10_digest h)
def mX11_in : gM := (yX11_in, cX11_in, RX11, 6, (some .boolean), 0, 0)
theorem dX11_in_0 : decode mX11_in.2.1 0 = .ok (.lload_n 0, 1) := by decide +kernel
theorem dX11_in_1 : decode mX11_in.2.1 1 = .ok (.lload_n 2, 1) := by decide +kernel
theorem dX11_in_2 : decode mX11_in.2.1 2 = .ok (.lcmp, 1) := by decide +kernel
theorem dX11_in_3 : decode mX11_in.2.1 3 = .ok (.ifCond .lt 14, 3) := by decide +kernel
theorem dX11_in_6 : decode mX11_in.2.1 6 = .ok (.lload_n 0, 1) := by decide +kernel
theorem dX11_in_7 : decode mX11_in.2.1 7 = .ok (.lload 4, 2) := by decide +kernel
theorem dX11_in_9 : decode mX11_in.2.1 9 = .ok (.lcmp, 1) := by decide +kernel
theorem dX11_in_10 : decode mX11_in.2.1 10 = .ok (.ifCond .gt 7, 3) := by decide +kernel
theorem dX11_in_13 : decode mX11_in.2.1 13 = .ok (.iconst 1, 1) := by decide +kernel
theorem dX11_in_14 : decode mX11_in.2.1 14 = .ok (.goto 4, 3) := by decide +kernel
theorem dX11_in_17 : decode mX11_in.2.1 17 = .ok (.iconst 0, 1) := by decide +kernel
theorem dX11_in_18 : decode mX11_in.2.1 18 = .ok (.ireturn, 1) := by decide +kernel
def fX11_in_18 (p1 : Int64) (p2 : Int64) (p3 : Int64) (s0 : Int32) (σ : gS) : Option (Int32 × gS) :=
  gg (s0 = 0 ∨ s0 = 1) (
  some (s0, σ))
set_option maxHeartbeats 4000000 in
set_option maxRecDepth 100000 in
theorem pX11_in_18 {E : gE} {p1 : Int64} {p2 : Int64} {p3 : Int64} {r : Int32} {σ' : gS} {s0 : Int32} {σ : gS} (h : fX11_in_18 p1 p2 p3 s0 σ = some (r, σ')) : gG E mX11_in 18 [] [.int s0] σ (some (.int r)) σ' := by
  unfold fX11_in_18 at h
  obtain ⟨g1, h⟩ := gg_some h
  obtain ⟨rfl, rfl⟩ := so_inj h
  exact g_zret dX11_in_18 rfl g1
def fX11_in_17 (p1 : Int64) (p2 : Int64) (p3 : Int64) (σ : gS) : Option (Int32 × gS) :=
  fX11_in_18 p1 p2 p3 0 σ
set_option maxHeartbeats 4000000 in
set_option maxRecDepth 100000 in
theorem pX11_in_17 {E : gE} {p1 : Int64} {p2 : Int64} {p3 : Int64} {r : Int32} {σ' : gS} {σ : gS} (h : fX11_in_17 p1 p2 p3 σ = some (r, σ')) : gG E mX11_in 17 [] [] σ (some (.int r)) σ' := by
  unfold fX11_in_17 at h
  refine g_iconst (v := 0) dX11_in_17 (by decide) ?_
  exact pX11_in_18 h
def fX11_in (p1 : Int64) (p2 : Int64) (p3 : Int64) (σ : gS) : Option (Int32 × gS) :=
  if (lg_cmp p1 p2) < 0 then
    fX11_in_17 p1 p2 p3 σ
  else
    if 0 < (lg_cmp p1 p3) then
      fX11_in_17 p1 p2 p3 σ
    else
      fX11_in_18 p1 p2 p3 1 σ
set_option maxHeartbeats 4000000 in
set_option maxRecDepth 100000 in
theorem pX11_in {E : gE} {p1 : Int64} {p2 : Int64} {p3 : Int64} {r : Int32} {σ' : gS} {σ : gS} (h : fX11_in p1 p2 p3 σ = some (r, σ')) : gG E mX11_in 0 [(0, .long p1), (2, .long p2), (4, .long p3)] [] σ (some (.int r)) σ' := by
  unfold fX11_in at h
  refine g_lload_n dX11_in_0 rfl 0 rfl ?_
  refine g_lload_n dX11_in_1 rfl 1 rfl ?_
  refine g_lcmp dX11_in_2 ?_
  refine g_if_lt (t := 17) dX11_in_3 (by decide) (fun c1 => ?_) (fun c1 => ?_)
  · replace h := if_t h c1
    refine g_sub [] rfl ?_
    exact pX11_in_17 h
  · replace h := if_f h c1
    refine g_lload_n dX11_in_6 rfl 0 rfl ?_
    refine g_lload dX11_in_7 2 rfl ?_
    refine g_lcmp dX11_in_9 ?_
    refine g_if_gt (t := 17) dX11_in_10 (by decide) (fun c2 => ?_) (fun c2 => ?_)
    · replace h := if_t h c2
      refine g_sub [] rfl ?_
      exact pX11_in_17 h
    · replace h := if_f h c2
      refine g_iconst (v := 1) dX11_in_13 (by decide) ?_
      refine g_goto (t := 18) dX11_in_14 (by decide) ?_
      refine g_sub [] rfl ?_
      exact pX11_in_18 h
theorem zX11_in {E : gE} {p1 : Int64} {p2 : Int64} {p3 : Int64} {r : Int32} {σ σ' : gS} (h : fX11_in p1 p2 p3 σ = some (r, σ')) : gC E mX11_in [.long p1, .long p2, .long p3] σ (some (.int r)) σ' :=
  gC_of (by decide +kernel) rfl (Nat.le_of_ble_eq_true rfl) (pX11_in h)
theorem fl_RX11_225 : gFl RX11 225 11 43 := ⟨RX11, TX11, 101, rfl, by decide, ux_11, Or.inl (gm 1271 (by decide +kernel) rfl)⟩
theorem fl_RX11_103 : gFl RX11 103 11 42 := ⟨RX11, TX11, 101, rfl, by decide, ux_11, Or.inl (gm 1270 (by decide +kernel) rfl)⟩
theorem wl_RX11_229 : Cond.constantLong RX11 229 255 ∈ gWS := (gm 1542 (by decide +kernel) rfl)
theorem fp_RX11_225 : gFp RX11 225 11 43 .int := ⟨RX11, TX11, 101, rfl, by decide, ux_11, Or.inl (gm 1271 (by decide +kernel) rfl), rfl, by decide +kernel, ⟨tyX11, tyX11_ok⟩, nmX11⟩
theorem wl_RX11_218 : Cond.constantLong RX11 218 8 ∈ gWS := (gm 1536 (by decide +kernel) rfl)
theorem wc_RX11_228 : Cond.constant RX11 228 (-1000003) ∈ gWS := (gm 1541 (by decide +kernel) rfl)
theorem wc_RX11_224 : Cond.constant RX11 224 (-1000001) ∈ gWS := (gm 1540 (by decide +kernel) rfl)
def mX11_feed : gM := (yX11_feed, cX11_feed, RX11, 5, (some .int), 1, 25)
theorem dX11_feed_0 : decode mX11_feed.2.1 0 = .ok (.iload_n 1, 1) := by decide +kernel
theorem dX11_feed_1 : decode mX11_feed.2.1 1 = .ok (.i2l, 1) := by decide +kernel
theorem dX11_feed_2 : decode mX11_feed.2.1 2 = .ok (.lconst 1, 1) := by decide +kernel
theorem dX11_feed_3 : decode mX11_feed.2.1 3 = .ok (.ldc2_w 218, 3) := by decide +kernel
theorem dX11_feed_6 : decode mX11_feed.2.1 6 = .ok (.invokestatic 220, 3) := by decide +kernel
theorem dX11_feed_9 : decode mX11_feed.2.1 9 = .ok (.ifCond .ne 6, 3) := by decide +kernel
theorem dX11_feed_12 : decode mX11_feed.2.1 12 = .ok (.ldc 224, 2) := by decide +kernel
theorem dX11_feed_14 : decode mX11_feed.2.1 14 = .ok (.ireturn, 1) := by decide +kernel
theorem dX11_feed_15 : decode mX11_feed.2.1 15 = .ok (.aload_n 0, 1) := by decide +kernel
theorem dX11_feed_16 : decode mX11_feed.2.1 16 = .ok (.getfield 225, 3) := by decide +kernel
theorem dX11_feed_19 : decode mX11_feed.2.1 19 = .ok (.iload_n 1, 1) := by decide +kernel
theorem dX11_feed_20 : decode mX11_feed.2.1 20 = .ok (.iadd, 1) := by decide +kernel
theorem dX11_feed_21 : decode mX11_feed.2.1 21 = .ok (.sipush 1200, 3) := by decide +kernel
theorem dX11_feed_24 : decode mX11_feed.2.1 24 = .ok (.if_icmp .le 6, 3) := by decide +kernel
theorem dX11_feed_27 : decode mX11_feed.2.1 27 = .ok (.ldc 228, 2) := by decide +kernel
theorem dX11_feed_29 : decode mX11_feed.2.1 29 = .ok (.ireturn, 1) := by decide +kernel
theorem dX11_feed_30 : decode mX11_feed.2.1 30 = .ok (.iconst 0, 1) := by decide +kernel
theorem dX11_feed_31 : decode mX11_feed.2.1 31 = .ok (.istore 4, 2) := by decide +kernel
theorem dX11_feed_33 : decode mX11_feed.2.1 33 = .ok (.iload 4, 2) := by decide +kernel
theorem dX11_feed_35 : decode mX11_feed.2.1 35 = .ok (.iload_n 1, 1) := by decide +kernel
theorem dX11_feed_36 : decode mX11_feed.2.1 36 = .ok (.if_icmp .ge 40, 3) := by decide +kernel
theorem dX11_feed_39 : decode mX11_feed.2.1 39 = .ok (.aload_n 0, 1) := by decide +kernel
theorem dX11_feed_40 : decode mX11_feed.2.1 40 = .ok (.getfield 103, 3) := by decide +kernel
theorem dX11_feed_43 : decode mX11_feed.2.1 43 = .ok (.aload_n 0, 1) := by decide +kernel
theorem dX11_feed_44 : decode mX11_feed.2.1 44 = .ok (.getfield 225, 3) := by decide +kernel
theorem dX11_feed_47 : decode mX11_feed.2.1 47 = .ok (.lload_n 2, 1) := by decide +kernel
theorem dX11_feed_48 : decode mX11_feed.2.1 48 = .ok (.bipush 8, 2) := by decide +kernel
theorem dX11_feed_50 : decode mX11_feed.2.1 50 = .ok (.iload 4, 2) := by decide +kernel
theorem dX11_feed_52 : decode mX11_feed.2.1 52 = .ok (.imul, 1) := by decide +kernel
theorem dX11_feed_53 : decode mX11_feed.2.1 53 = .ok (.lshr, 1) := by decide +kernel
theorem dX11_feed_54 : decode mX11_feed.2.1 54 = .ok (.ldc2_w 229, 3) := by decide +kernel
theorem dX11_feed_57 : decode mX11_feed.2.1 57 = .ok (.land, 1) := by decide +kernel
theorem dX11_feed_58 : decode mX11_feed.2.1 58 = .ok (.l2i, 1) := by decide +kernel
theorem dX11_feed_59 : decode mX11_feed.2.1 59 = .ok (.iastore, 1) := by decide +kernel
theorem dX11_feed_60 : decode mX11_feed.2.1 60 = .ok (.aload_n 0, 1) := by decide +kernel
theorem dX11_feed_61 : decode mX11_feed.2.1 61 = .ok (.dup, 1) := by decide +kernel
theorem dX11_feed_62 : decode mX11_feed.2.1 62 = .ok (.getfield 225, 3) := by decide +kernel
theorem dX11_feed_65 : decode mX11_feed.2.1 65 = .ok (.iconst 1, 1) := by decide +kernel
theorem dX11_feed_66 : decode mX11_feed.2.1 66 = .ok (.iadd, 1) := by decide +kernel
theorem dX11_feed_67 : decode mX11_feed.2.1 67 = .ok (.putfield 225, 3) := by decide +kernel
theorem dX11_feed_70 : decode mX11_feed.2.1 70 = .ok (.iinc 4 1, 3) := by decide +kernel
theorem dX11_feed_73 : decode mX11_feed.2.1 73 = .ok (.goto (-40), 3) := by decide +kernel
theorem dX11_feed_76 : decode mX11_feed.2.1 76 = .ok (.aload_n 0, 1) := by decide +kernel
theorem dX11_feed_77 : decode mX11_feed.2.1 77 = .ok (.getfield 225, 3) := by decide +kernel
theorem dX11_feed_80 : decode mX11_feed.2.1 80 = .ok (.ireturn, 1) := by decide +kernel
theorem okX11_feed_220 : gOkS mX11_feed mX11_in 220 3 := ⟨List.forall_mem_cons.mpr ⟨(gm 1539 (by decide +kernel) rfl), List.forall_mem_cons.mpr ⟨(gm 1537 (by decide +kernel) rfl), List.forall_mem_cons.mpr ⟨(gm 1538 (by decide +kernel) rfl), List.forall_mem_cons.mpr ⟨(gm 122 (by decide +kernel) rfl), fun _ h => absurd h List.not_mem_nil⟩⟩⟩⟩, by decide +kernel, by decide +kernel, by decide +kernel⟩
def fX11_feed_33 (p1 : Int32) (p2 : Int64) : Nat → Int32 → gS → Option (Int32 × gS)
  | 0, _, _ => none
  | n + 1, v4, σ => if p1 ≤ v4 then
    some (σ.1 168 43, σ)
  else
    gg (¬ (σ.1 168 43 < 0 ∨ 1200 ≤ (σ.1 168 43).toNatClampNeg)) (
    bnd (gsI σ 197 ((σ.1 168 43).toNatClampNeg) (((p2 >>> ((8 * v4).toInt64 &&& 63)) &&& 255).toInt32)) fun σ3 =>
    bnd (gsI σ3 168 43 ((σ3.1 168 43) + 1)) fun σ4 =>
    bnd (v4 + 1) fun x5 =>
    fX11_feed_33 p1 p2 n x5 σ4)
set_option maxHeartbeats 4000000 in
set_option maxRecDepth 100000 in
theorem pX11_feed_33 {E : gE} {p1 : Int32} {p2 : Int64} {r : Int32} {σ' : gS} : ∀ (n : Nat) (v4 : Int32) (σ : gS), fX11_feed_33 p1 p2 n v4 σ = some (r, σ') → gG E mX11_feed 33 [(0, .ref 168), (1, .int p1), (2, .long p2), (4, .int v4)] [] σ (some (.int r)) σ' := by
  intro n
  induction n with
  | zero => intro v4 σ h; exact absurd (show none = some (r, σ') from h) (by intro q; cases q)
  | succ n ih =>
  intro v4 σ h
  unfold fX11_feed_33 at h
  refine g_iload dX11_feed_33 3 rfl ?_
  refine g_iload_n dX11_feed_35 rfl 1 rfl ?_
  refine g_icmp_ge (t := 76) dX11_feed_36 (by decide) (fun c1 => ?_) (fun c1 => ?_)
  · replace h := if_t h c1
    refine g_aload_n dX11_feed_76 rfl 0 rfl ?_
    refine g_getI dX11_feed_77 gi_168 rfl fl_RX11_225 ?_
    obtain ⟨rfl, rfl⟩ := so_inj h
    exact g_iret dX11_feed_80 rfl
  · replace h := if_f h c1
    refine g_aload_n dX11_feed_39 rfl 0 rfl ?_
    refine g_getC (n := 197) dX11_feed_40 gi_168 rfl fl_RX11_103 ?_
    refine g_aload_n dX11_feed_43 rfl 0 rfl ?_
    refine g_getI dX11_feed_44 gi_168 rfl fl_RX11_225 ?_
    refine g_lload_n dX11_feed_47 rfl 2 rfl ?_
    refine g_bipush (v := 8) dX11_feed_48 (by decide) ?_
    refine g_iload dX11_feed_50 3 rfl ?_
    refine g_imul dX11_feed_52 ?_
    refine g_lshr dX11_feed_53 ?_
    refine g_ldc2 (v := 255) dX11_feed_54 wl_RX11_229 ?_
    refine g_land dX11_feed_57 ?_
    refine g_l2i dX11_feed_58 ?_
    obtain ⟨g2, h⟩ := gg_some h
    obtain ⟨σ3, eσ3, h⟩ := bnd_nm h
    refine g_iast dX11_feed_59 gi_197 g2 (g_st eσ3 ?_)
    refine g_aload_n dX11_feed_60 rfl 0 rfl ?_
    refine g_dup dX11_feed_61 rfl ?_
    refine g_getI dX11_feed_62 gi_168 rfl fl_RX11_225 ?_
    refine g_iconst (v := 1) dX11_feed_65 (by decide) ?_
    refine g_iadd dX11_feed_66 ?_
    obtain ⟨σ4, eσ4, h⟩ := bnd_nm h
    refine g_putI dX11_feed_67 gi_168 rfl fp_RX11_225 (g_st eσ4 ?_)
    obtain ⟨x5, ex5, h⟩ := bnd_nm h
    refine g_iinc (j := 3) (v := x5) (lv' := [(4, .int x5), (0, .ref 168), (1, .int p1), (2, .long p2)]) dX11_feed_70 rfl (by rw [ex5]; rfl) (Nat.le_of_ble_eq_true rfl) rfl ?_
    refine g_goto (t := 33) dX11_feed_73 (by decide) ?_
    refine g_sub [1, 2, 3, 0] rfl ?_
    exact ih x5 σ4 h
def fX11_feed (p1 : Int32) (p2 : Int64) (σ : gS) : Option (Int32 × gS) :=
  bd (fX11_in p1.toInt64 1 8 σ) fun x1 σ2 =>
  if x1 = 0 then
    some ((-1000001), σ2)
  else
    if ((σ2.1 168 43) + p1) ≤ 1200 then
      fX11_feed_33 p1 p2 2000 0 σ2
    else
      some ((-1000003), σ2)
set_option maxHeartbeats 4000000 in
set_option maxRecDepth 100000 in
theorem pX11_feed {E : gE} {p1 : Int32} {p2 : Int64} {r : Int32} {σ' : gS} {σ : gS} (h : fX11_feed p1 p2 σ = some (r, σ')) : gG E mX11_feed 0 [(0, .ref 168), (1, .int p1), (2, .long p2)] [] σ (some (.int r)) σ' := by
  unfold fX11_feed at h
  refine g_iload_n dX11_feed_0 rfl 1 rfl ?_
  refine g_i2l dX11_feed_1 ?_
  refine g_lconst (v := 1) dX11_feed_2 (by decide) ?_
  refine g_ldc2 (v := 8) dX11_feed_3 wl_RX11_218 ?_
  obtain ⟨x1, σ2, y3, h⟩ := bd_some h
  refine g_callSr (as := [.long p1.toInt64, .long 1, .long 8]) (st := []) (zX11_in y3) dX11_feed_6 okX11_feed_220 (Nat.le_of_ble_eq_true rfl) ?_
  refine g_if_ne (t := 15) dX11_feed_9 (by decide) (fun c4 => ?_) (fun c4 => ?_)
  · replace h := if_f h c4
    refine g_aload_n dX11_feed_15 rfl 0 rfl ?_
    refine g_getI dX11_feed_16 gi_168 rfl fl_RX11_225 ?_
    refine g_iload_n dX11_feed_19 rfl 1 rfl ?_
    refine g_iadd dX11_feed_20 ?_
    refine g_sipush (v := 1200) dX11_feed_21 (by decide) ?_
    refine g_icmp_le (t := 30) dX11_feed_24 (by decide) (fun c5 => ?_) (fun c5 => ?_)
    · replace h := if_t h c5
      refine g_iconst (v := 0) dX11_feed_30 (by decide) ?_
      refine g_istore (lv' := [(4, .int 0), (0, .ref 168), (1, .int p1), (2, .long p2)]) dX11_feed_31 (Nat.le_of_ble_eq_true rfl) rfl ?_
      refine g_sub [1, 2, 3, 0] rfl ?_
      exact pX11_feed_33 2000 0 σ2 h
    · replace h := if_f h c5
      refine g_ldc (v := (-1000003)) dX11_feed_27 wc_RX11_228 ?_
      obtain ⟨rfl, rfl⟩ := so_inj h
      exact g_iret dX11_feed_29 rfl
  · replace h := if_t h c4
    refine g_ldc (v := (-1000001)) dX11_feed_12 wc_RX11_224 ?_
    obtain ⟨rfl, rfl⟩ := so_inj h
    exact g_iret dX11_feed_14 rfl
theorem zX11_feed {E : gE} {p1 : Int32} {p2 : Int64} {r : Int32} {σ σ' : gS} (h : fX11_feed p1 p2 σ = some (r, σ')) : gC E mX11_feed [.ref 168, .int p1, .long p2] σ (some (.int r)) σ' :=
  gC_of (by decide +kernel) rfl (Nat.le_of_ble_eq_true rfl) (pX11_feed h)
theorem fl_RX11_231 : gFl RX11 231 11 44 := ⟨RX11, TX11, 101, rfl, by decide, ux_11, Or.inl (gm 1272 (by decide +kernel) rfl)⟩
def mX11_look : gM := (yX11_look, cX11_look, RX11, 1, (some .int), 0, 0)
theorem dX11_look_0 : decode mX11_look.2.1 0 = .ok (.aload_n 0, 1) := by decide +kernel
theorem dX11_look_1 : decode mX11_look.2.1 1 = .ok (.getfield 231, 3) := by decide +kernel
theorem dX11_look_4 : decode mX11_look.2.1 4 = .ok (.aload_n 0, 1) := by decide +kernel
theorem dX11_look_5 : decode mX11_look.2.1 5 = .ok (.getfield 225, 3) := by decide +kernel
theorem dX11_look_8 : decode mX11_look.2.1 8 = .ok (.if_icmp .ge 15, 3) := by decide +kernel
theorem dX11_look_11 : decode mX11_look.2.1 11 = .ok (.aload_n 0, 1) := by decide +kernel
theorem dX11_look_12 : decode mX11_look.2.1 12 = .ok (.getfield 103, 3) := by decide +kernel
theorem dX11_look_15 : decode mX11_look.2.1 15 = .ok (.aload_n 0, 1) := by decide +kernel
theorem dX11_look_16 : decode mX11_look.2.1 16 = .ok (.getfield 231, 3) := by decide +kernel
theorem dX11_look_19 : decode mX11_look.2.1 19 = .ok (.iaload, 1) := by decide +kernel
theorem dX11_look_20 : decode mX11_look.2.1 20 = .ok (.goto 4, 3) := by decide +kernel
theorem dX11_look_23 : decode mX11_look.2.1 23 = .ok (.iconst (-1), 1) := by decide +kernel
theorem dX11_look_24 : decode mX11_look.2.1 24 = .ok (.ireturn, 1) := by decide +kernel
def fX11_look_24 (s0 : Int32) (σ : gS) : Option (Int32 × gS) :=
  some (s0, σ)
set_option maxHeartbeats 4000000 in
set_option maxRecDepth 100000 in
theorem pX11_look_24 {E : gE} {r : Int32} {σ' : gS} {s0 : Int32} {σ : gS} (h : fX11_look_24 s0 σ = some (r, σ')) : gG E mX11_look 24 [] [.int s0] σ (some (.int r)) σ' := by
  unfold fX11_look_24 at h
  obtain ⟨rfl, rfl⟩ := so_inj h
  exact g_iret dX11_look_24 rfl
def fX11_look (σ : gS) : Option (Int32 × gS) :=
  if (σ.1 168 43) ≤ (σ.1 168 44) then
    fX11_look_24 (-1) σ
  else
    gg (¬ (σ.1 168 44 < 0 ∨ 1200 ≤ (σ.1 168 44).toNatClampNeg)) (
    fX11_look_24 (σ.1 197 ((σ.1 168 44).toNatClampNeg)) σ)
set_option maxHeartbeats 4000000 in
set_option maxRecDepth 100000 in
theorem pX11_look {E : gE} {r : Int32} {σ' : gS} {σ : gS} (h : fX11_look σ = some (r, σ')) : gG E mX11_look 0 [(0, .ref 168)] [] σ (some (.int r)) σ' := by
  unfold fX11_look at h
  refine g_aload_n dX11_look_0 rfl 0 rfl ?_
  refine g_getI dX11_look_1 gi_168 rfl fl_RX11_231 ?_
  refine g_aload_n dX11_look_4 rfl 0 rfl ?_
  refine g_getI dX11_look_5 gi_168 rfl fl_RX11_225 ?_
  refine g_icmp_ge (t := 23) dX11_look_8 (by decide) (fun c1 => ?_) (fun c1 => ?_)
  · replace h := if_t h c1
    refine g_iconst (v := (-1)) dX11_look_23 (by decide) ?_
    refine g_sub [] rfl ?_
    exact pX11_look_24 h
  · replace h := if_f h c1
    refine g_aload_n dX11_look_11 rfl 0 rfl ?_
    refine g_getC (n := 197) dX11_look_12 gi_168 rfl fl_RX11_103 ?_
    refine g_aload_n dX11_look_15 rfl 0 rfl ?_
    refine g_getI dX11_look_16 gi_168 rfl fl_RX11_231 ?_
    obtain ⟨g2, h⟩ := gg_some h
    refine g_iald dX11_look_19 gi_197 g2 ?_
    refine g_goto (t := 24) dX11_look_20 (by decide) ?_
    refine g_sub [] rfl ?_
    exact pX11_look_24 h
theorem zX11_look {E : gE} {r : Int32} {σ σ' : gS} (h : fX11_look σ = some (r, σ')) : gC E mX11_look [.ref 168] σ (some (.int r)) σ' :=
  gC_of (by decide +kernel) rfl (Nat.le_of_ble_eq_true rfl) (pX11_look h)
theorem wl_RX11_238 : Cond.constantLong RX11 238 97 ∈ gWS := (gm 1559 (by decide +kernel) rfl)
theorem wl_RX11_240 : Cond.constantLong RX11 240 122 ∈ gWS := (gm 1560 (by decide +kernel) rfl)
def mX11_isLetter : gM := (yX11_isLetter, cX11_isLetter, RX11, 1, (some .boolean), 1, 25)
theorem dX11_isLetter_0 : decode mX11_isLetter.2.1 0 = .ok (.aload_n 0, 1) := by decide +kernel
theorem dX11_isLetter_1 : decode mX11_isLetter.2.1 1 = .ok (.invokevirtual 234, 3) := by decide +kernel
theorem dX11_isLetter_4 : decode mX11_isLetter.2.1 4 = .ok (.i2l, 1) := by decide +kernel
theorem dX11_isLetter_5 : decode mX11_isLetter.2.1 5 = .ok (.ldc2_w 238, 3) := by decide +kernel
theorem dX11_isLetter_8 : decode mX11_isLetter.2.1 8 = .ok (.ldc2_w 240, 3) := by decide +kernel
theorem dX11_isLetter_11 : decode mX11_isLetter.2.1 11 = .ok (.invokestatic 220, 3) := by decide +kernel
theorem dX11_isLetter_14 : decode mX11_isLetter.2.1 14 = .ok (.ireturn, 1) := by decide +kernel
theorem okX11_isLetter_234 : gOkV mX11_isLetter mX11_look 234 0 := ⟨List.forall_mem_cons.mpr ⟨(gm 1554 (by decide +kernel) rfl), List.forall_mem_cons.mpr ⟨(gm 1551 (by decide +kernel) rfl), List.forall_mem_cons.mpr ⟨(gm 1553 (by decide +kernel) rfl), List.forall_mem_cons.mpr ⟨(gm 58 (by decide +kernel) rfl), List.forall_mem_cons.mpr ⟨(gm 122 (by decide +kernel) rfl), fun _ h => absurd h List.not_mem_nil⟩⟩⟩⟩⟩, by decide +kernel, by decide +kernel, by decide +kernel⟩
theorem okX11_isLetter_220 : gOkS mX11_isLetter mX11_in 220 3 := ⟨List.forall_mem_cons.mpr ⟨(gm 1539 (by decide +kernel) rfl), List.forall_mem_cons.mpr ⟨(gm 1537 (by decide +kernel) rfl), List.forall_mem_cons.mpr ⟨(gm 1538 (by decide +kernel) rfl), List.forall_mem_cons.mpr ⟨(gm 122 (by decide +kernel) rfl), fun _ h => absurd h List.not_mem_nil⟩⟩⟩⟩, by decide +kernel, by decide +kernel, by decide +kernel⟩
def fX11_isLetter (σ : gS) : Option (Int32 × gS) :=
  bd (fX11_look σ) fun x1 σ2 =>
  bd (fX11_in x1.toInt64 97 122 σ2) fun x4 σ5 =>
  gg (x4 = 0 ∨ x4 = 1) (
  some (x4, σ5))
set_option maxHeartbeats 4000000 in
set_option maxRecDepth 100000 in
theorem pX11_isLetter {E : gE} {r : Int32} {σ' : gS} {σ : gS} (h : fX11_isLetter σ = some (r, σ')) : gG E mX11_isLetter 0 [(0, .ref 168)] [] σ (some (.int r)) σ' := by
  unfold fX11_isLetter at h
  refine g_aload_n dX11_isLetter_0 rfl 0 rfl ?_
  obtain ⟨x1, σ2, y3, h⟩ := bd_some h
  refine g_callVr (as := []) (st := []) (zX11_look y3) dX11_isLetter_1 gi_168 rfl okX11_isLetter_234 (Nat.le_of_ble_eq_true rfl) ?_
  refine g_i2l dX11_isLetter_4 ?_
  refine g_ldc2 (v := 97) dX11_isLetter_5 wl_RX11_238 ?_
  refine g_ldc2 (v := 122) dX11_isLetter_8 wl_RX11_240 ?_
  obtain ⟨x4, σ5, y6, h⟩ := bd_some h
  refine g_callSr (as := [.long x1.toInt64, .long 97, .long 122]) (st := []) (zX11_in y6) dX11_isLetter_11 okX11_isLetter_220 (Nat.le_of_ble_eq_true rfl) ?_
  obtain ⟨g7, h⟩ := gg_some h
  obtain ⟨rfl, rfl⟩ := so_inj h
  exact g_zret dX11_isLetter_14 rfl g7
theorem zX11_isLetter {E : gE} {r : Int32} {σ σ' : gS} (h : fX11_isLetter σ = some (r, σ')) : gC E mX11_isLetter [.ref 168] σ (some (.int r)) σ' :=
  gC_of (by decide +kernel) rfl (Nat.le_of_ble_eq_true rfl) (pX11_isLetter h)
theorem wl_RX11_242 : Cond.constantLong RX11 242 48 ∈ gWS := (gm 1571 (by decide +kernel) rfl)
theorem wl_RX11_244 : Cond.constantLong RX11 244 57 ∈ gWS := (gm 1572 (by decide +kernel) rfl)
def mX11_isFigure : gM := (yX11_isFigure, cX11_isFigure, RX11, 1, (some .boolean), 1, 25)
theorem dX11_isFigure_0 : decode mX11_isFigure.2.1 0 = .ok (.aload_n 0, 1) := by decide +kernel
theorem dX11_isFigure_1 : decode mX11_isFigure.2.1 1 = .ok (.invokevirtual 234, 3) := by decide +kernel
theorem dX11_isFigure_4 : decode mX11_isFigure.2.1 4 = .ok (.i2l, 1) := by decide +kernel
theorem dX11_isFigure_5 : decode mX11_isFigure.2.1 5 = .ok (.ldc2_w 242, 3) := by decide +kernel
theorem dX11_isFigure_8 : decode mX11_isFigure.2.1 8 = .ok (.ldc2_w 244, 3) := by decide +kernel
theorem dX11_isFigure_11 : decode mX11_isFigure.2.1 11 = .ok (.invokestatic 220, 3) := by decide +kernel
theorem dX11_isFigure_14 : decode mX11_isFigure.2.1 14 = .ok (.ireturn, 1) := by decide +kernel
theorem okX11_isFigure_234 : gOkV mX11_isFigure mX11_look 234 0 := ⟨List.forall_mem_cons.mpr ⟨(gm 1554 (by decide +kernel) rfl), List.forall_mem_cons.mpr ⟨(gm 1551 (by decide +kernel) rfl), List.forall_mem_cons.mpr ⟨(gm 1553 (by decide +kernel) rfl), List.forall_mem_cons.mpr ⟨(gm 58 (by decide +kernel) rfl), List.forall_mem_cons.mpr ⟨(gm 122 (by decide +kernel) rfl), fun _ h => absurd h List.not_mem_nil⟩⟩⟩⟩⟩, by decide +kernel, by decide +kernel, by decide +kernel⟩
theorem okX11_isFigure_220 : gOkS mX11_isFigure mX11_in 220 3 := ⟨List.forall_mem_cons.mpr ⟨(gm 1539 (by decide +kernel) rfl), List.forall_mem_cons.mpr ⟨(gm 1537 (by decide +kernel) rfl), List.forall_mem_cons.mpr ⟨(gm 1538 (by decide +kernel) rfl), List.forall_mem_cons.mpr ⟨(gm 122 (by decide +kernel) rfl), fun _ h => absurd h List.not_mem_nil⟩⟩⟩⟩, by decide +kernel, by decide +kernel, by decide +kernel⟩
def fX11_isFigure (σ : gS) : Option (Int32 × gS) :=
  bd (fX11_look σ) fun x1 σ2 =>
  bd (fX11_in x1.toInt64 48 57 σ2) fun x4 σ5 =>
  gg (x4 = 0 ∨ x4 = 1) (
  some (x4, σ5))
set_option maxHeartbeats 4000000 in
set_option maxRecDepth 100000 in
theorem pX11_isFigure {E : gE} {r : Int32} {σ' : gS} {σ : gS} (h : fX11_isFigure σ = some (r, σ')) : gG E mX11_isFigure 0 [(0, .ref 168)] [] σ (some (.int r)) σ' := by
  unfold fX11_isFigure at h
  refine g_aload_n dX11_isFigure_0 rfl 0 rfl ?_
  obtain ⟨x1, σ2, y3, h⟩ := bd_some h
  refine g_callVr (as := []) (st := []) (zX11_look y3) dX11_isFigure_1 gi_168 rfl okX11_isFigure_234 (Nat.le_of_ble_eq_true rfl) ?_
  refine g_i2l dX11_isFigure_4 ?_
  refine g_ldc2 (v := 48) dX11_isFigure_5 wl_RX11_242 ?_
  refine g_ldc2 (v := 57) dX11_isFigure_8 wl_RX11_244 ?_
  obtain ⟨x4, σ5, y6, h⟩ := bd_some h
  refine g_callSr (as := [.long x1.toInt64, .long 48, .long 57]) (st := []) (zX11_in y6) dX11_isFigure_11 okX11_isFigure_220 (Nat.le_of_ble_eq_true rfl) ?_
  obtain ⟨g7, h⟩ := gg_some h
  obtain ⟨rfl, rfl⟩ := so_inj h
  exact g_zret dX11_isFigure_14 rfl g7
theorem zX11_isFigure {E : gE} {r : Int32} {σ σ' : gS} (h : fX11_isFigure σ = some (r, σ')) : gC E mX11_isFigure [.ref 168] σ (some (.int r)) σ' :=
  gC_of (by decide +kernel) rfl (Nat.le_of_ble_eq_true rfl) (pX11_isFigure h)
def mX11_word : gM := (yX11_word, cX11_word, RX11, 8, (some .long), 0, 0)
theorem dX11_word_0 : decode mX11_word.2.1 0 = .ok (.lconst 0, 1) := by decide +kernel
theorem dX11_word_1 : decode mX11_word.2.1 1 = .ok (.lstore 6, 2) := by decide +kernel
theorem dX11_word_3 : decode mX11_word.2.1 3 = .ok (.lload 6, 2) := by decide +kernel
theorem dX11_word_5 : decode mX11_word.2.1 5 = .ok (.bipush 8, 2) := by decide +kernel
theorem dX11_word_7 : decode mX11_word.2.1 7 = .ok (.lshl, 1) := by decide +kernel
theorem dX11_word_8 : decode mX11_word.2.1 8 = .ok (.iload_n 0, 1) := by decide +kernel
theorem dX11_word_9 : decode mX11_word.2.1 9 = .ok (.i2l, 1) := by decide +kernel
theorem dX11_word_10 : decode mX11_word.2.1 10 = .ok (.lor, 1) := by decide +kernel
theorem dX11_word_11 : decode mX11_word.2.1 11 = .ok (.lstore 6, 2) := by decide +kernel
theorem dX11_word_13 : decode mX11_word.2.1 13 = .ok (.lload 6, 2) := by decide +kernel
theorem dX11_word_15 : decode mX11_word.2.1 15 = .ok (.bipush 8, 2) := by decide +kernel
theorem dX11_word_17 : decode mX11_word.2.1 17 = .ok (.lshl, 1) := by decide +kernel
theorem dX11_word_18 : decode mX11_word.2.1 18 = .ok (.iload_n 1, 1) := by decide +kernel
theorem dX11_word_19 : decode mX11_word.2.1 19 = .ok (.i2l, 1) := by decide +kernel
theorem dX11_word_20 : decode mX11_word.2.1 20 = .ok (.lor, 1) := by decide +kernel
theorem dX11_word_21 : decode mX11_word.2.1 21 = .ok (.lstore 6, 2) := by decide +kernel
theorem dX11_word_23 : decode mX11_word.2.1 23 = .ok (.iload_n 2, 1) := by decide +kernel
theorem dX11_word_24 : decode mX11_word.2.1 24 = .ok (.ifCond .le 14, 3) := by decide +kernel
theorem dX11_word_27 : decode mX11_word.2.1 27 = .ok (.lload 6, 2) := by decide +kernel
theorem dX11_word_29 : decode mX11_word.2.1 29 = .ok (.bipush 8, 2) := by decide +kernel
theorem dX11_word_31 : decode mX11_word.2.1 31 = .ok (.lshl, 1) := by decide +kernel
theorem dX11_word_32 : decode mX11_word.2.1 32 = .ok (.iload_n 2, 1) := by decide +kernel
theorem dX11_word_33 : decode mX11_word.2.1 33 = .ok (.i2l, 1) := by decide +kernel
theorem dX11_word_34 : decode mX11_word.2.1 34 = .ok (.lor, 1) := by decide +kernel
theorem dX11_word_35 : decode mX11_word.2.1 35 = .ok (.goto 5, 3) := by decide +kernel
theorem dX11_word_38 : decode mX11_word.2.1 38 = .ok (.lload 6, 2) := by decide +kernel
theorem dX11_word_40 : decode mX11_word.2.1 40 = .ok (.lstore 6, 2) := by decide +kernel
theorem dX11_word_42 : decode mX11_word.2.1 42 = .ok (.iload_n 3, 1) := by decide +kernel
theorem dX11_word_43 : decode mX11_word.2.1 43 = .ok (.ifCond .le 14, 3) := by decide +kernel
theorem dX11_word_46 : decode mX11_word.2.1 46 = .ok (.lload 6, 2) := by decide +kernel
theorem dX11_word_48 : decode mX11_word.2.1 48 = .ok (.bipush 8, 2) := by decide +kernel
theorem dX11_word_50 : decode mX11_word.2.1 50 = .ok (.lshl, 1) := by decide +kernel
theorem dX11_word_51 : decode mX11_word.2.1 51 = .ok (.iload_n 3, 1) := by decide +kernel
theorem dX11_word_52 : decode mX11_word.2.1 52 = .ok (.i2l, 1) := by decide +kernel
theorem dX11_word_53 : decode mX11_word.2.1 53 = .ok (.lor, 1) := by decide +kernel
theorem dX11_word_54 : decode mX11_word.2.1 54 = .ok (.goto 5, 3) := by decide +kernel
theorem dX11_word_57 : decode mX11_word.2.1 57 = .ok (.lload 6, 2) := by decide +kernel
theorem dX11_word_59 : decode mX11_word.2.1 59 = .ok (.lstore 6, 2) := by decide +kernel
theorem dX11_word_61 : decode mX11_word.2.1 61 = .ok (.iload 4, 2) := by decide +kernel
theorem dX11_word_63 : decode mX11_word.2.1 63 = .ok (.ifCond .le 15, 3) := by decide +kernel
theorem dX11_word_66 : decode mX11_word.2.1 66 = .ok (.lload 6, 2) := by decide +kernel
theorem dX11_word_68 : decode mX11_word.2.1 68 = .ok (.bipush 8, 2) := by decide +kernel
theorem dX11_word_70 : decode mX11_word.2.1 70 = .ok (.lshl, 1) := by decide +kernel
theorem dX11_word_71 : decode mX11_word.2.1 71 = .ok (.iload 4, 2) := by decide +kernel
theorem dX11_word_73 : decode mX11_word.2.1 73 = .ok (.i2l, 1) := by decide +kernel
theorem dX11_word_74 : decode mX11_word.2.1 74 = .ok (.lor, 1) := by decide +kernel
theorem dX11_word_75 : decode mX11_word.2.1 75 = .ok (.goto 5, 3) := by decide +kernel
theorem dX11_word_78 : decode mX11_word.2.1 78 = .ok (.lload 6, 2) := by decide +kernel
theorem dX11_word_80 : decode mX11_word.2.1 80 = .ok (.lstore 6, 2) := by decide +kernel
theorem dX11_word_82 : decode mX11_word.2.1 82 = .ok (.iload 5, 2) := by decide +kernel
theorem dX11_word_84 : decode mX11_word.2.1 84 = .ok (.ifCond .le 15, 3) := by decide +kernel
theorem dX11_word_87 : decode mX11_word.2.1 87 = .ok (.lload 6, 2) := by decide +kernel
theorem dX11_word_89 : decode mX11_word.2.1 89 = .ok (.bipush 8, 2) := by decide +kernel
theorem dX11_word_91 : decode mX11_word.2.1 91 = .ok (.lshl, 1) := by decide +kernel
theorem dX11_word_92 : decode mX11_word.2.1 92 = .ok (.iload 5, 2) := by decide +kernel
theorem dX11_word_94 : decode mX11_word.2.1 94 = .ok (.i2l, 1) := by decide +kernel
theorem dX11_word_95 : decode mX11_word.2.1 95 = .ok (.lor, 1) := by decide +kernel
theorem dX11_word_96 : decode mX11_word.2.1 96 = .ok (.goto 5, 3) := by decide +kernel
theorem dX11_word_99 : decode mX11_word.2.1 99 = .ok (.lload 6, 2) := by decide +kernel
theorem dX11_word_101 : decode mX11_word.2.1 101 = .ok (.lreturn, 1) := by decide +kernel
def fX11_word_101 (p1 : Int32) (p2 : Int32) (p3 : Int32) (p4 : Int32) (p5 : Int32) (p6 : Int32) (s0 : Int64) (σ : gS) : Option (Int64 × gS) :=
  some (s0, σ)
set_option maxHeartbeats 4000000 in
set_option maxRecDepth 100000 in
theorem pX11_word_101 {E : gE} {p1 : Int32} {p2 : Int32} {p3 : Int32} {p4 : Int32} {p5 : Int32} {p6 : Int32} {r : Int64} {σ' : gS} {s0 : Int64} {σ : gS} (h : fX11_word_101 p1 p2 p3 p4 p5 p6 s0 σ = some (r, σ')) : gG E mX11_word 101 [] [.long s0] σ (some (.long r)) σ' := by
  unfold fX11_word_101 at h
  obtain ⟨rfl, rfl⟩ := so_inj h
  exact g_lret dX11_word_101 rfl
def fX11_word_80 (p1 : Int32) (p2 : Int32) (p3 : Int32) (p4 : Int32) (p5 : Int32) (p6 : Int32) (s0 : Int64) (σ : gS) : Option (Int64 × gS) :=
  if p6 ≤ 0 then
    fX11_word_101 p1 p2 p3 p4 p5 p6 s0 σ
  else
    fX11_word_101 p1 p2 p3 p4 p5 p6 ((s0 <<< ((8 : Int32).toInt64 &&& 63)) ||| p6.toInt64) σ
set_option maxHeartbeats 4000000 in
set_option maxRecDepth 100000 in
theorem pX11_word_80 {E : gE} {p1 : Int32} {p2 : Int32} {p3 : Int32} {p4 : Int32} {p5 : Int32} {p6 : Int32} {r : Int64} {σ' : gS} {s0 : Int64} {σ : gS} (h : fX11_word_80 p1 p2 p3 p4 p5 p6 s0 σ = some (r, σ')) : gG E mX11_word 80 [(5, .int p6)] [.long s0] σ (some (.long r)) σ' := by
  unfold fX11_word_80 at h
  refine g_lstore (lv' := [(6, .long s0), (5, .int p6)]) dX11_word_80 (Nat.le_of_ble_eq_true rfl) rfl ?_
  refine g_iload dX11_word_82 1 rfl ?_
  refine g_if_le (t := 99) dX11_word_84 (by decide) (fun c1 => ?_) (fun c1 => ?_)
  · replace h := if_t h c1
    refine g_lload dX11_word_99 0 rfl ?_
    refine g_sub [] rfl ?_
    exact pX11_word_101 h
  · replace h := if_f h c1
    refine g_lload dX11_word_87 0 rfl ?_
    refine g_bipush (v := 8) dX11_word_89 (by decide) ?_
    refine g_lshl dX11_word_91 ?_
    refine g_iload dX11_word_92 1 rfl ?_
    refine g_i2l dX11_word_94 ?_
    refine g_lor dX11_word_95 ?_
    refine g_goto (t := 101) dX11_word_96 (by decide) ?_
    refine g_sub [] rfl ?_
    exact pX11_word_101 h
def fX11_word_59 (p1 : Int32) (p2 : Int32) (p3 : Int32) (p4 : Int32) (p5 : Int32) (p6 : Int32) (s0 : Int64) (σ : gS) : Option (Int64 × gS) :=
  if p5 ≤ 0 then
    fX11_word_80 p1 p2 p3 p4 p5 p6 s0 σ
  else
    fX11_word_80 p1 p2 p3 p4 p5 p6 ((s0 <<< ((8 : Int32).toInt64 &&& 63)) ||| p5.toInt64) σ
set_option maxHeartbeats 4000000 in
set_option maxRecDepth 100000 in
theorem pX11_word_59 {E : gE} {p1 : Int32} {p2 : Int32} {p3 : Int32} {p4 : Int32} {p5 : Int32} {p6 : Int32} {r : Int64} {σ' : gS} {s0 : Int64} {σ : gS} (h : fX11_word_59 p1 p2 p3 p4 p5 p6 s0 σ = some (r, σ')) : gG E mX11_word 59 [(4, .int p5), (5, .int p6)] [.long s0] σ (some (.long r)) σ' := by
  unfold fX11_word_59 at h
  refine g_lstore (lv' := [(6, .long s0), (4, .int p5), (5, .int p6)]) dX11_word_59 (Nat.le_of_ble_eq_true rfl) rfl ?_
  refine g_iload dX11_word_61 1 rfl ?_
  refine g_if_le (t := 78) dX11_word_63 (by decide) (fun c1 => ?_) (fun c1 => ?_)
  · replace h := if_t h c1
    refine g_lload dX11_word_78 0 rfl ?_
    refine g_sub [2] rfl ?_
    exact pX11_word_80 h
  · replace h := if_f h c1
    refine g_lload dX11_word_66 0 rfl ?_
    refine g_bipush (v := 8) dX11_word_68 (by decide) ?_
    refine g_lshl dX11_word_70 ?_
    refine g_iload dX11_word_71 1 rfl ?_
    refine g_i2l dX11_word_73 ?_
    refine g_lor dX11_word_74 ?_
    refine g_goto (t := 80) dX11_word_75 (by decide) ?_
    refine g_sub [2] rfl ?_
    exact pX11_word_80 h
def fX11_word_40 (p1 : Int32) (p2 : Int32) (p3 : Int32) (p4 : Int32) (p5 : Int32) (p6 : Int32) (s0 : Int64) (σ : gS) : Option (Int64 × gS) :=
  if p4 ≤ 0 then
    fX11_word_59 p1 p2 p3 p4 p5 p6 s0 σ
  else
    fX11_word_59 p1 p2 p3 p4 p5 p6 ((s0 <<< ((8 : Int32).toInt64 &&& 63)) ||| p4.toInt64) σ
set_option maxHeartbeats 4000000 in
set_option maxRecDepth 100000 in
theorem pX11_word_40 {E : gE} {p1 : Int32} {p2 : Int32} {p3 : Int32} {p4 : Int32} {p5 : Int32} {p6 : Int32} {r : Int64} {σ' : gS} {s0 : Int64} {σ : gS} (h : fX11_word_40 p1 p2 p3 p4 p5 p6 s0 σ = some (r, σ')) : gG E mX11_word 40 [(3, .int p4), (4, .int p5), (5, .int p6)] [.long s0] σ (some (.long r)) σ' := by
  unfold fX11_word_40 at h
  refine g_lstore (lv' := [(6, .long s0), (3, .int p4), (4, .int p5), (5, .int p6)]) dX11_word_40 (Nat.le_of_ble_eq_true rfl) rfl ?_
  refine g_iload_n dX11_word_42 rfl 1 rfl ?_
  refine g_if_le (t := 57) dX11_word_43 (by decide) (fun c1 => ?_) (fun c1 => ?_)
  · replace h := if_t h c1
    refine g_lload dX11_word_57 0 rfl ?_
    refine g_sub [2, 3] rfl ?_
    exact pX11_word_59 h
  · replace h := if_f h c1
    refine g_lload dX11_word_46 0 rfl ?_
    refine g_bipush (v := 8) dX11_word_48 (by decide) ?_
    refine g_lshl dX11_word_50 ?_
    refine g_iload_n dX11_word_51 rfl 1 rfl ?_
    refine g_i2l dX11_word_52 ?_
    refine g_lor dX11_word_53 ?_
    refine g_goto (t := 59) dX11_word_54 (by decide) ?_
    refine g_sub [2, 3] rfl ?_
    exact pX11_word_59 h
def fX11_word (p1 : Int32) (p2 : Int32) (p3 : Int32) (p4 : Int32) (p5 : Int32) (p6 : Int32) (σ : gS) : Option (Int64 × gS) :=
  bnd ((0 <<< ((8 : Int32).toInt64 &&& 63)) ||| p1.toInt64) fun x1 =>
  bnd ((x1 <<< ((8 : Int32).toInt64 &&& 63)) ||| p2.toInt64) fun x2 =>
  if p3 ≤ 0 then
    fX11_word_40 p1 p2 p3 p4 p5 p6 x2 σ
  else
    fX11_word_40 p1 p2 p3 p4 p5 p6 ((x2 <<< ((8 : Int32).toInt64 &&& 63)) ||| p3.toInt64) σ
set_option maxHeartbeats 4000000 in
set_option maxRecDepth 100000 in
theorem pX11_word {E : gE} {p1 : Int32} {p2 : Int32} {p3 : Int32} {p4 : Int32} {p5 : Int32} {p6 : Int32} {r : Int64} {σ' : gS} {σ : gS} (h : fX11_word p1 p2 p3 p4 p5 p6 σ = some (r, σ')) : gG E mX11_word 0 [(0, .int p1), (1, .int p2), (2, .int p3), (3, .int p4), (4, .int p5), (5, .int p6)] [] σ (some (.long r)) σ' := by
  unfold fX11_word at h
  refine g_lconst (v := 0) dX11_word_0 (by decide) ?_
  refine g_lstore (lv' := [(6, .long 0), (0, .int p1), (1, .int p2), (2, .int p3), (3, .int p4), (4, .int p5), (5, .int p6)]) dX11_word_1 (Nat.le_of_ble_eq_true rfl) rfl ?_
  refine g_lload dX11_word_3 0 rfl ?_
  refine g_bipush (v := 8) dX11_word_5 (by decide) ?_
  refine g_lshl dX11_word_7 ?_
  refine g_iload_n dX11_word_8 rfl 1 rfl ?_
  refine g_i2l dX11_word_9 ?_
  refine g_lor dX11_word_10 ?_
  obtain ⟨x1, ex1, h⟩ := bnd_nm h
  refine g_topl ex1 ?_
  refine g_lstore (lv' := [(6, .long x1), (0, .int p1), (1, .int p2), (2, .int p3), (3, .int p4), (4, .int p5), (5, .int p6)]) dX11_word_11 (Nat.le_of_ble_eq_true rfl) rfl ?_
  refine g_lload dX11_word_13 0 rfl ?_
  refine g_bipush (v := 8) dX11_word_15 (by decide) ?_
  refine g_lshl dX11_word_17 ?_
  refine g_iload_n dX11_word_18 rfl 2 rfl ?_
  refine g_i2l dX11_word_19 ?_
  refine g_lor dX11_word_20 ?_
  obtain ⟨x2, ex2, h⟩ := bnd_nm h
  refine g_topl ex2 ?_
  refine g_lstore (lv' := [(6, .long x2), (0, .int p1), (1, .int p2), (2, .int p3), (3, .int p4), (4, .int p5), (5, .int p6)]) dX11_word_21 (Nat.le_of_ble_eq_true rfl) rfl ?_
  refine g_iload_n dX11_word_23 rfl 3 rfl ?_
  refine g_if_le (t := 38) dX11_word_24 (by decide) (fun c3 => ?_) (fun c3 => ?_)
  · replace h := if_t h c3
    refine g_lload dX11_word_38 0 rfl ?_
    refine g_sub [4, 5, 6] rfl ?_
    exact pX11_word_40 h
  · replace h := if_f h c3
    refine g_lload dX11_word_27 0 rfl ?_
    refine g_bipush (v := 8) dX11_word_29 (by decide) ?_
    refine g_lshl dX11_word_31 ?_
    refine g_iload_n dX11_word_32 rfl 3 rfl ?_
    refine g_i2l dX11_word_33 ?_
    refine g_lor dX11_word_34 ?_
    refine g_goto (t := 40) dX11_word_35 (by decide) ?_
    refine g_sub [4, 5, 6] rfl ?_
    exact pX11_word_40 h
theorem zX11_word {E : gE} {p1 : Int32} {p2 : Int32} {p3 : Int32} {p4 : Int32} {p5 : Int32} {p6 : Int32} {r : Int64} {σ σ' : gS} (h : fX11_word p1 p2 p3 p4 p5 p6 σ = some (r, σ')) : gC E mX11_word [.int p1, .int p2, .int p3, .int p4, .int p5, .int p6] σ (some (.long r)) σ' :=
  gC_of (by decide +kernel) rfl (Nat.le_of_ble_eq_true rfl) (pX11_word h)
def mX11_wordOf : gM := (yX11_wordOf, cX11_wordOf, RX11, 2, (some .int), 1, 27)
theorem dX11_wordOf_0 : decode mX11_wordOf.2.1 0 = .ok (.lload_n 0, 1) := by decide +kernel
theorem dX11_wordOf_1 : decode mX11_wordOf.2.1 1 = .ok (.bipush 103, 2) := by decide +kernel
theorem dX11_wordOf_3 : decode mX11_wordOf.2.1 3 = .ok (.bipush 114, 2) := by decide +kernel
theorem dX11_wordOf_5 : decode mX11_wordOf.2.1 5 = .ok (.bipush 111, 2) := by decide +kernel
theorem dX11_wordOf_7 : decode mX11_wordOf.2.1 7 = .ok (.bipush 117, 2) := by decide +kernel
theorem dX11_wordOf_9 : decode mX11_wordOf.2.1 9 = .ok (.bipush 110, 2) := by decide +kernel
theorem dX11_wordOf_11 : decode mX11_wordOf.2.1 11 = .ok (.bipush 100, 2) := by decide +kernel
theorem dX11_wordOf_13 : decode mX11_wordOf.2.1 13 = .ok (.invokestatic 246, 3) := by decide +kernel
theorem dX11_wordOf_16 : decode mX11_wordOf.2.1 16 = .ok (.lcmp, 1) := by decide +kernel
theorem dX11_wordOf_17 : decode mX11_wordOf.2.1 17 = .ok (.ifCond .ne 5, 3) := by decide +kernel
theorem dX11_wordOf_20 : decode mX11_wordOf.2.1 20 = .ok (.iconst 1, 1) := by decide +kernel
theorem dX11_wordOf_21 : decode mX11_wordOf.2.1 21 = .ok (.ireturn, 1) := by decide +kernel
theorem dX11_wordOf_22 : decode mX11_wordOf.2.1 22 = .ok (.lload_n 0, 1) := by decide +kernel
theorem dX11_wordOf_23 : decode mX11_wordOf.2.1 23 = .ok (.bipush 106, 2) := by decide +kernel
theorem dX11_wordOf_25 : decode mX11_wordOf.2.1 25 = .ok (.bipush 111, 2) := by decide +kernel
theorem dX11_wordOf_27 : decode mX11_wordOf.2.1 27 = .ok (.bipush 105, 2) := by decide +kernel
theorem dX11_wordOf_29 : decode mX11_wordOf.2.1 29 = .ok (.bipush 110, 2) := by decide +kernel
theorem dX11_wordOf_31 : decode mX11_wordOf.2.1 31 = .ok (.bipush 116, 2) := by decide +kernel
theorem dX11_wordOf_33 : decode mX11_wordOf.2.1 33 = .ok (.iconst 0, 1) := by decide +kernel
theorem dX11_wordOf_34 : decode mX11_wordOf.2.1 34 = .ok (.invokestatic 246, 3) := by decide +kernel
theorem dX11_wordOf_37 : decode mX11_wordOf.2.1 37 = .ok (.lcmp, 1) := by decide +kernel
theorem dX11_wordOf_38 : decode mX11_wordOf.2.1 38 = .ok (.ifCond .ne 5, 3) := by decide +kernel
theorem dX11_wordOf_41 : decode mX11_wordOf.2.1 41 = .ok (.iconst 2, 1) := by decide +kernel
theorem dX11_wordOf_42 : decode mX11_wordOf.2.1 42 = .ok (.ireturn, 1) := by decide +kernel
theorem dX11_wordOf_43 : decode mX11_wordOf.2.1 43 = .ok (.lload_n 0, 1) := by decide +kernel
theorem dX11_wordOf_44 : decode mX11_wordOf.2.1 44 = .ok (.bipush 98, 2) := by decide +kernel
theorem dX11_wordOf_46 : decode mX11_wordOf.2.1 46 = .ok (.bipush 97, 2) := by decide +kernel
theorem dX11_wordOf_48 : decode mX11_wordOf.2.1 48 = .ok (.bipush 114, 2) := by decide +kernel
theorem dX11_wordOf_50 : decode mX11_wordOf.2.1 50 = .ok (.iconst 0, 1) := by decide +kernel
theorem dX11_wordOf_51 : decode mX11_wordOf.2.1 51 = .ok (.iconst 0, 1) := by decide +kernel
theorem dX11_wordOf_52 : decode mX11_wordOf.2.1 52 = .ok (.iconst 0, 1) := by decide +kernel
theorem dX11_wordOf_53 : decode mX11_wordOf.2.1 53 = .ok (.invokestatic 246, 3) := by decide +kernel
theorem dX11_wordOf_56 : decode mX11_wordOf.2.1 56 = .ok (.lcmp, 1) := by decide +kernel
theorem dX11_wordOf_57 : decode mX11_wordOf.2.1 57 = .ok (.ifCond .ne 5, 3) := by decide +kernel
theorem dX11_wordOf_60 : decode mX11_wordOf.2.1 60 = .ok (.iconst 3, 1) := by decide +kernel
theorem dX11_wordOf_61 : decode mX11_wordOf.2.1 61 = .ok (.ireturn, 1) := by decide +kernel
theorem dX11_wordOf_62 : decode mX11_wordOf.2.1 62 = .ok (.lload_n 0, 1) := by decide +kernel
theorem dX11_wordOf_63 : decode mX11_wordOf.2.1 63 = .ok (.bipush 99, 2) := by decide +kernel
theorem dX11_wordOf_65 : decode mX11_wordOf.2.1 65 = .ok (.bipush 104, 2) := by decide +kernel
theorem dX11_wordOf_67 : decode mX11_wordOf.2.1 67 = .ok (.bipush 97, 2) := by decide +kernel
theorem dX11_wordOf_69 : decode mX11_wordOf.2.1 69 = .ok (.bipush 105, 2) := by decide +kernel
theorem dX11_wordOf_71 : decode mX11_wordOf.2.1 71 = .ok (.bipush 110, 2) := by decide +kernel
theorem dX11_wordOf_73 : decode mX11_wordOf.2.1 73 = .ok (.iconst 0, 1) := by decide +kernel
theorem dX11_wordOf_74 : decode mX11_wordOf.2.1 74 = .ok (.invokestatic 246, 3) := by decide +kernel
theorem dX11_wordOf_77 : decode mX11_wordOf.2.1 77 = .ok (.lcmp, 1) := by decide +kernel
theorem dX11_wordOf_78 : decode mX11_wordOf.2.1 78 = .ok (.ifCond .ne 5, 3) := by decide +kernel
theorem dX11_wordOf_81 : decode mX11_wordOf.2.1 81 = .ok (.iconst 4, 1) := by decide +kernel
theorem dX11_wordOf_82 : decode mX11_wordOf.2.1 82 = .ok (.ireturn, 1) := by decide +kernel
theorem dX11_wordOf_83 : decode mX11_wordOf.2.1 83 = .ok (.lload_n 0, 1) := by decide +kernel
theorem dX11_wordOf_84 : decode mX11_wordOf.2.1 84 = .ok (.bipush 102, 2) := by decide +kernel
theorem dX11_wordOf_86 : decode mX11_wordOf.2.1 86 = .ok (.bipush 114, 2) := by decide +kernel
theorem dX11_wordOf_88 : decode mX11_wordOf.2.1 88 = .ok (.bipush 97, 2) := by decide +kernel
theorem dX11_wordOf_90 : decode mX11_wordOf.2.1 90 = .ok (.bipush 109, 2) := by decide +kernel
theorem dX11_wordOf_92 : decode mX11_wordOf.2.1 92 = .ok (.bipush 101, 2) := by decide +kernel
theorem dX11_wordOf_94 : decode mX11_wordOf.2.1 94 = .ok (.iconst 0, 1) := by decide +kernel
theorem dX11_wordOf_95 : decode mX11_wordOf.2.1 95 = .ok (.invokestatic 246, 3) := by decide +kernel
theorem dX11_wordOf_98 : decode mX11_wordOf.2.1 98 = .ok (.lcmp, 1) := by decide +kernel
theorem dX11_wordOf_99 : decode mX11_wordOf.2.1 99 = .ok (.ifCond .ne 5, 3) := by decide +kernel
theorem dX11_wordOf_102 : decode mX11_wordOf.2.1 102 = .ok (.iconst 5, 1) := by decide +kernel
theorem dX11_wordOf_103 : decode mX11_wordOf.2.1 103 = .ok (.ireturn, 1) := by decide +kernel
theorem dX11_wordOf_104 : decode mX11_wordOf.2.1 104 = .ok (.lload_n 0, 1) := by decide +kernel
theorem dX11_wordOf_105 : decode mX11_wordOf.2.1 105 = .ok (.bipush 119, 2) := by decide +kernel
theorem dX11_wordOf_107 : decode mX11_wordOf.2.1 107 = .ok (.bipush 104, 2) := by decide +kernel
theorem dX11_wordOf_109 : decode mX11_wordOf.2.1 109 = .ok (.bipush 101, 2) := by decide +kernel
theorem dX11_wordOf_111 : decode mX11_wordOf.2.1 111 = .ok (.bipush 101, 2) := by decide +kernel
theorem dX11_wordOf_113 : decode mX11_wordOf.2.1 113 = .ok (.bipush 108, 2) := by decide +kernel
theorem dX11_wordOf_115 : decode mX11_wordOf.2.1 115 = .ok (.iconst 0, 1) := by decide +kernel
theorem dX11_wordOf_116 : decode mX11_wordOf.2.1 116 = .ok (.invokestatic 246, 3) := by decide +kernel
theorem dX11_wordOf_119 : decode mX11_wordOf.2.1 119 = .ok (.lcmp, 1) := by decide +kernel
theorem dX11_wordOf_120 : decode mX11_wordOf.2.1 120 = .ok (.ifCond .ne 6, 3) := by decide +kernel
theorem dX11_wordOf_123 : decode mX11_wordOf.2.1 123 = .ok (.bipush 6, 2) := by decide +kernel
theorem dX11_wordOf_125 : decode mX11_wordOf.2.1 125 = .ok (.ireturn, 1) := by decide +kernel
theorem dX11_wordOf_126 : decode mX11_wordOf.2.1 126 = .ok (.lload_n 0, 1) := by decide +kernel
theorem dX11_wordOf_127 : decode mX11_wordOf.2.1 127 = .ok (.bipush 109, 2) := by decide +kernel
theorem dX11_wordOf_129 : decode mX11_wordOf.2.1 129 = .ok (.bipush 101, 2) := by decide +kernel
theorem dX11_wordOf_131 : decode mX11_wordOf.2.1 131 = .ok (.bipush 115, 2) := by decide +kernel
theorem dX11_wordOf_133 : decode mX11_wordOf.2.1 133 = .ok (.bipush 104, 2) := by decide +kernel
theorem dX11_wordOf_135 : decode mX11_wordOf.2.1 135 = .ok (.iconst 0, 1) := by decide +kernel
theorem dX11_wordOf_136 : decode mX11_wordOf.2.1 136 = .ok (.iconst 0, 1) := by decide +kernel
theorem dX11_wordOf_137 : decode mX11_wordOf.2.1 137 = .ok (.invokestatic 246, 3) := by decide +kernel
theorem dX11_wordOf_140 : decode mX11_wordOf.2.1 140 = .ok (.lcmp, 1) := by decide +kernel
theorem dX11_wordOf_141 : decode mX11_wordOf.2.1 141 = .ok (.ifCond .ne 6, 3) := by decide +kernel
theorem dX11_wordOf_144 : decode mX11_wordOf.2.1 144 = .ok (.bipush 7, 2) := by decide +kernel
theorem dX11_wordOf_146 : decode mX11_wordOf.2.1 146 = .ok (.ireturn, 1) := by decide +kernel
theorem dX11_wordOf_147 : decode mX11_wordOf.2.1 147 = .ok (.lload_n 0, 1) := by decide +kernel
theorem dX11_wordOf_148 : decode mX11_wordOf.2.1 148 = .ok (.bipush 98, 2) := by decide +kernel
theorem dX11_wordOf_150 : decode mX11_wordOf.2.1 150 = .ok (.bipush 101, 2) := by decide +kernel
theorem dX11_wordOf_152 : decode mX11_wordOf.2.1 152 = .ok (.bipush 108, 2) := by decide +kernel
theorem dX11_wordOf_154 : decode mX11_wordOf.2.1 154 = .ok (.bipush 116, 2) := by decide +kernel
theorem dX11_wordOf_156 : decode mX11_wordOf.2.1 156 = .ok (.iconst 0, 1) := by decide +kernel
theorem dX11_wordOf_157 : decode mX11_wordOf.2.1 157 = .ok (.iconst 0, 1) := by decide +kernel
theorem dX11_wordOf_158 : decode mX11_wordOf.2.1 158 = .ok (.invokestatic 246, 3) := by decide +kernel
theorem dX11_wordOf_161 : decode mX11_wordOf.2.1 161 = .ok (.lcmp, 1) := by decide +kernel
theorem dX11_wordOf_162 : decode mX11_wordOf.2.1 162 = .ok (.ifCond .ne 6, 3) := by decide +kernel
theorem dX11_wordOf_165 : decode mX11_wordOf.2.1 165 = .ok (.bipush 8, 2) := by decide +kernel
theorem dX11_wordOf_167 : decode mX11_wordOf.2.1 167 = .ok (.ireturn, 1) := by decide +kernel
theorem dX11_wordOf_168 : decode mX11_wordOf.2.1 168 = .ok (.lload_n 0, 1) := by decide +kernel
theorem dX11_wordOf_169 : decode mX11_wordOf.2.1 169 = .ok (.bipush 115, 2) := by decide +kernel
theorem dX11_wordOf_171 : decode mX11_wordOf.2.1 171 = .ok (.bipush 104, 2) := by decide +kernel
theorem dX11_wordOf_173 : decode mX11_wordOf.2.1 173 = .ok (.bipush 97, 2) := by decide +kernel
theorem dX11_wordOf_175 : decode mX11_wordOf.2.1 175 = .ok (.bipush 102, 2) := by decide +kernel
theorem dX11_wordOf_177 : decode mX11_wordOf.2.1 177 = .ok (.bipush 116, 2) := by decide +kernel
theorem dX11_wordOf_179 : decode mX11_wordOf.2.1 179 = .ok (.iconst 0, 1) := by decide +kernel
theorem dX11_wordOf_180 : decode mX11_wordOf.2.1 180 = .ok (.invokestatic 246, 3) := by decide +kernel
theorem dX11_wordOf_183 : decode mX11_wordOf.2.1 183 = .ok (.lcmp, 1) := by decide +kernel
theorem dX11_wordOf_184 : decode mX11_wordOf.2.1 184 = .ok (.ifCond .ne 6, 3) := by decide +kernel
theorem dX11_wordOf_187 : decode mX11_wordOf.2.1 187 = .ok (.bipush 9, 2) := by decide +kernel
theorem dX11_wordOf_189 : decode mX11_wordOf.2.1 189 = .ok (.ireturn, 1) := by decide +kernel
theorem dX11_wordOf_190 : decode mX11_wordOf.2.1 190 = .ok (.lload_n 0, 1) := by decide +kernel
theorem dX11_wordOf_191 : decode mX11_wordOf.2.1 191 = .ok (.bipush 100, 2) := by decide +kernel
theorem dX11_wordOf_193 : decode mX11_wordOf.2.1 193 = .ok (.bipush 114, 2) := by decide +kernel
theorem dX11_wordOf_195 : decode mX11_wordOf.2.1 195 = .ok (.bipush 105, 2) := by decide +kernel
theorem dX11_wordOf_197 : decode mX11_wordOf.2.1 197 = .ok (.bipush 118, 2) := by decide +kernel
theorem dX11_wordOf_199 : decode mX11_wordOf.2.1 199 = .ok (.bipush 101, 2) := by decide +kernel
theorem dX11_wordOf_201 : decode mX11_wordOf.2.1 201 = .ok (.iconst 0, 1) := by decide +kernel
theorem dX11_wordOf_202 : decode mX11_wordOf.2.1 202 = .ok (.invokestatic 246, 3) := by decide +kernel
theorem dX11_wordOf_205 : decode mX11_wordOf.2.1 205 = .ok (.lcmp, 1) := by decide +kernel
theorem dX11_wordOf_206 : decode mX11_wordOf.2.1 206 = .ok (.ifCond .ne 6, 3) := by decide +kernel
theorem dX11_wordOf_209 : decode mX11_wordOf.2.1 209 = .ok (.bipush 10, 2) := by decide +kernel
theorem dX11_wordOf_211 : decode mX11_wordOf.2.1 211 = .ok (.ireturn, 1) := by decide +kernel
theorem dX11_wordOf_212 : decode mX11_wordOf.2.1 212 = .ok (.lload_n 0, 1) := by decide +kernel
theorem dX11_wordOf_213 : decode mX11_wordOf.2.1 213 = .ok (.bipush 97, 2) := by decide +kernel
theorem dX11_wordOf_215 : decode mX11_wordOf.2.1 215 = .ok (.bipush 116, 2) := by decide +kernel
theorem dX11_wordOf_217 : decode mX11_wordOf.2.1 217 = .ok (.iconst 0, 1) := by decide +kernel
theorem dX11_wordOf_218 : decode mX11_wordOf.2.1 218 = .ok (.iconst 0, 1) := by decide +kernel
theorem dX11_wordOf_219 : decode mX11_wordOf.2.1 219 = .ok (.iconst 0, 1) := by decide +kernel
theorem dX11_wordOf_220 : decode mX11_wordOf.2.1 220 = .ok (.iconst 0, 1) := by decide +kernel
theorem dX11_wordOf_221 : decode mX11_wordOf.2.1 221 = .ok (.invokestatic 246, 3) := by decide +kernel
theorem dX11_wordOf_224 : decode mX11_wordOf.2.1 224 = .ok (.lcmp, 1) := by decide +kernel
theorem dX11_wordOf_225 : decode mX11_wordOf.2.1 225 = .ok (.ifCond .ne 6, 3) := by decide +kernel
theorem dX11_wordOf_228 : decode mX11_wordOf.2.1 228 = .ok (.bipush 11, 2) := by decide +kernel
theorem dX11_wordOf_230 : decode mX11_wordOf.2.1 230 = .ok (.ireturn, 1) := by decide +kernel
theorem dX11_wordOf_231 : decode mX11_wordOf.2.1 231 = .ok (.lload_n 0, 1) := by decide +kernel
theorem dX11_wordOf_232 : decode mX11_wordOf.2.1 232 = .ok (.bipush 97, 2) := by decide +kernel
theorem dX11_wordOf_234 : decode mX11_wordOf.2.1 234 = .ok (.bipush 98, 2) := by decide +kernel
theorem dX11_wordOf_236 : decode mX11_wordOf.2.1 236 = .ok (.bipush 111, 2) := by decide +kernel
theorem dX11_wordOf_238 : decode mX11_wordOf.2.1 238 = .ok (.bipush 117, 2) := by decide +kernel
theorem dX11_wordOf_240 : decode mX11_wordOf.2.1 240 = .ok (.bipush 116, 2) := by decide +kernel
theorem dX11_wordOf_242 : decode mX11_wordOf.2.1 242 = .ok (.iconst 0, 1) := by decide +kernel
theorem dX11_wordOf_243 : decode mX11_wordOf.2.1 243 = .ok (.invokestatic 246, 3) := by decide +kernel
theorem dX11_wordOf_246 : decode mX11_wordOf.2.1 246 = .ok (.lcmp, 1) := by decide +kernel
theorem dX11_wordOf_247 : decode mX11_wordOf.2.1 247 = .ok (.ifCond .ne 8, 3) := by decide +kernel
theorem dX11_wordOf_250 : decode mX11_wordOf.2.1 250 = .ok (.bipush 12, 2) := by decide +kernel
theorem dX11_wordOf_252 : decode mX11_wordOf.2.1 252 = .ok (.goto 4, 3) := by decide +kernel
theorem dX11_wordOf_255 : decode mX11_wordOf.2.1 255 = .ok (.iconst 0, 1) := by decide +kernel
theorem dX11_wordOf_256 : decode mX11_wordOf.2.1 256 = .ok (.ireturn, 1) := by decide +kernel
theorem okX11_wordOf_246 : gOkS mX11_wordOf mX11_word 246 6 := ⟨List.forall_mem_cons.mpr ⟨(gm 1566 (by decide +kernel) rfl), List.forall_mem_cons.mpr ⟨(gm 1564 (by decide +kernel) rfl), List.forall_mem_cons.mpr ⟨(gm 1565 (by decide +kernel) rfl), List.forall_mem_cons.mpr ⟨(gm 122 (by decide +kernel) rfl), fun _ h => absurd h List.not_mem_nil⟩⟩⟩⟩, by decide +kernel, by decide +kernel, by decide +kernel⟩
def fX11_wordOf_256 (p1 : Int64) (s0 : Int32) (σ : gS) : Option (Int32 × gS) :=
  some (s0, σ)
set_option maxHeartbeats 4000000 in
set_option maxRecDepth 100000 in
theorem pX11_wordOf_256 {E : gE} {p1 : Int64} {r : Int32} {σ' : gS} {s0 : Int32} {σ : gS} (h : fX11_wordOf_256 p1 s0 σ = some (r, σ')) : gG E mX11_wordOf 256 [] [.int s0] σ (some (.int r)) σ' := by
  unfold fX11_wordOf_256 at h
  obtain ⟨rfl, rfl⟩ := so_inj h
  exact g_iret dX11_wordOf_256 rfl
def fX11_wordOf (p1 : Int64) (σ : gS) : Option (Int32 × gS) :=
  bd (fX11_word 103 114 111 117 110 100 σ) fun x1 σ2 =>
  if (lg_cmp p1 x1) = 0 then
    some (1, σ2)
  else
    bd (fX11_word 106 111 105 110 116 0 σ2) fun x5 σ6 =>
    if (lg_cmp p1 x5) = 0 then
      some (2, σ6)
    else
      bd (fX11_word 98 97 114 0 0 0 σ6) fun x9 σ10 =>
      if (lg_cmp p1 x9) = 0 then
        some (3, σ10)
      else
        bd (fX11_word 99 104 97 105 110 0 σ10) fun x13 σ14 =>
        if (lg_cmp p1 x13) = 0 then
          some (4, σ14)
        else
          bd (fX11_word 102 114 97 109 101 0 σ14) fun x17 σ18 =>
          if (lg_cmp p1 x17) = 0 then
            some (5, σ18)
          else
            bd (fX11_word 119 104 101 101 108 0 σ18) fun x21 σ22 =>
            if (lg_cmp p1 x21) = 0 then
              some (6, σ22)
            else
              bd (fX11_word 109 101 115 104 0 0 σ22) fun x25 σ26 =>
              if (lg_cmp p1 x25) = 0 then
                some (7, σ26)
              else
                bd (fX11_word 98 101 108 116 0 0 σ26) fun x29 σ30 =>
                if (lg_cmp p1 x29) = 0 then
                  some (8, σ30)
                else
                  bd (fX11_word 115 104 97 102 116 0 σ30) fun x33 σ34 =>
                  if (lg_cmp p1 x33) = 0 then
                    some (9, σ34)
                  else
                    bd (fX11_word 100 114 105 118 101 0 σ34) fun x37 σ38 =>
                    if (lg_cmp p1 x37) = 0 then
                      some (10, σ38)
                    else
                      bd (fX11_word 97 116 0 0 0 0 σ38) fun x41 σ42 =>
                      if (lg_cmp p1 x41) = 0 then
                        some (11, σ42)
                      else
                        bd (fX11_word 97 98 111 117 116 0 σ42) fun x45 σ46 =>
                        if (lg_cmp p1 x45) = 0 then
                          fX11_wordOf_256 p1 12 σ46
                        else
                          fX11_wordOf_256 p1 0 σ46
set_option maxHeartbeats 4000000 in
set_option maxRecDepth 100000 in
theorem pX11_wordOf {E : gE} {p1 : Int64} {r : Int32} {σ' : gS} {σ : gS} (h : fX11_wordOf p1 σ = some (r, σ')) : gG E mX11_wordOf 0 [(0, .long p1)] [] σ (some (.int r)) σ' := by
  unfold fX11_wordOf at h
  refine g_lload_n dX11_wordOf_0 rfl 0 rfl ?_
  refine g_bipush (v := 103) dX11_wordOf_1 (by decide) ?_
  refine g_bipush (v := 114) dX11_wordOf_3 (by decide) ?_
  refine g_bipush (v := 111) dX11_wordOf_5 (by decide) ?_
  refine g_bipush (v := 117) dX11_wordOf_7 (by decide) ?_
  refine g_bipush (v := 110) dX11_wordOf_9 (by decide) ?_
  refine g_bipush (v := 100) dX11_wordOf_11 (by decide) ?_
  obtain ⟨x1, σ2, y3, h⟩ := bd_some h
  refine g_callSr (as := [.int 103, .int 114, .int 111, .int 117, .int 110, .int 100]) (st := [.long p1]) (zX11_word y3) dX11_wordOf_13 okX11_wordOf_246 (Nat.le_of_ble_eq_true rfl) ?_
  refine g_lcmp dX11_wordOf_16 ?_
  refine g_if_ne (t := 22) dX11_wordOf_17 (by decide) (fun c4 => ?_) (fun c4 => ?_)
  · replace h := if_f h c4
    refine g_lload_n dX11_wordOf_22 rfl 0 rfl ?_
    refine g_bipush (v := 106) dX11_wordOf_23 (by decide) ?_
    refine g_bipush (v := 111) dX11_wordOf_25 (by decide) ?_
    refine g_bipush (v := 105) dX11_wordOf_27 (by decide) ?_
    refine g_bipush (v := 110) dX11_wordOf_29 (by decide) ?_
    refine g_bipush (v := 116) dX11_wordOf_31 (by decide) ?_
    refine g_iconst (v := 0) dX11_wordOf_33 (by decide) ?_
    obtain ⟨x5, σ6, y7, h⟩ := bd_some h
    refine g_callSr (as := [.int 106, .int 111, .int 105, .int 110, .int 116, .int 0]) (st := [.long p1]) (zX11_word y7) dX11_wordOf_34 okX11_wordOf_246 (Nat.le_of_ble_eq_true rfl) ?_
    refine g_lcmp dX11_wordOf_37 ?_
    refine g_if_ne (t := 43) dX11_wordOf_38 (by decide) (fun c8 => ?_) (fun c8 => ?_)
    · replace h := if_f h c8
      refine g_lload_n dX11_wordOf_43 rfl 0 rfl ?_
      refine g_bipush (v := 98) dX11_wordOf_44 (by decide) ?_
      refine g_bipush (v := 97) dX11_wordOf_46 (by decide) ?_
      refine g_bipush (v := 114) dX11_wordOf_48 (by decide) ?_
      refine g_iconst (v := 0) dX11_wordOf_50 (by decide) ?_
      refine g_iconst (v := 0) dX11_wordOf_51 (by decide) ?_
      refine g_iconst (v := 0) dX11_wordOf_52 (by decide) ?_
      obtain ⟨x9, σ10, y11, h⟩ := bd_some h
      refine g_callSr (as := [.int 98, .int 97, .int 114, .int 0, .int 0, .int 0]) (st := [.long p1]) (zX11_word y11) dX11_wordOf_53 okX11_wordOf_246 (Nat.le_of_ble_eq_true rfl) ?_
      refine g_lcmp dX11_wordOf_56 ?_
      refine g_if_ne (t := 62) dX11_wordOf_57 (by decide) (fun c12 => ?_) (fun c12 => ?_)
      · replace h := if_f h c12
        refine g_lload_n dX11_wordOf_62 rfl 0 rfl ?_
        refine g_bipush (v := 99) dX11_wordOf_63 (by decide) ?_
        refine g_bipush (v := 104) dX11_wordOf_65 (by decide) ?_
        refine g_bipush (v := 97) dX11_wordOf_67 (by decide) ?_
        refine g_bipush (v := 105) dX11_wordOf_69 (by decide) ?_
        refine g_bipush (v := 110) dX11_wordOf_71 (by decide) ?_
        refine g_iconst (v := 0) dX11_wordOf_73 (by decide) ?_
        obtain ⟨x13, σ14, y15, h⟩ := bd_some h
        refine g_callSr (as := [.int 99, .int 104, .int 97, .int 105, .int 110, .int 0]) (st := [.long p1]) (zX11_word y15) dX11_wordOf_74 okX11_wordOf_246 (Nat.le_of_ble_eq_true rfl) ?_
        refine g_lcmp dX11_wordOf_77 ?_
        refine g_if_ne (t := 83) dX11_wordOf_78 (by decide) (fun c16 => ?_) (fun c16 => ?_)
        · replace h := if_f h c16
          refine g_lload_n dX11_wordOf_83 rfl 0 rfl ?_
          refine g_bipush (v := 102) dX11_wordOf_84 (by decide) ?_
          refine g_bipush (v := 114) dX11_wordOf_86 (by decide) ?_
          refine g_bipush (v := 97) dX11_wordOf_88 (by decide) ?_
          refine g_bipush (v := 109) dX11_wordOf_90 (by decide) ?_
          refine g_bipush (v := 101) dX11_wordOf_92 (by decide) ?_
          refine g_iconst (v := 0) dX11_wordOf_94 (by decide) ?_
          obtain ⟨x17, σ18, y19, h⟩ := bd_some h
          refine g_callSr (as := [.int 102, .int 114, .int 97, .int 109, .int 101, .int 0]) (st := [.long p1]) (zX11_word y19) dX11_wordOf_95 okX11_wordOf_246 (Nat.le_of_ble_eq_true rfl) ?_
          refine g_lcmp dX11_wordOf_98 ?_
          refine g_if_ne (t := 104) dX11_wordOf_99 (by decide) (fun c20 => ?_) (fun c20 => ?_)
          · replace h := if_f h c20
            refine g_lload_n dX11_wordOf_104 rfl 0 rfl ?_
            refine g_bipush (v := 119) dX11_wordOf_105 (by decide) ?_
            refine g_bipush (v := 104) dX11_wordOf_107 (by decide) ?_
            refine g_bipush (v := 101) dX11_wordOf_109 (by decide) ?_
            refine g_bipush (v := 101) dX11_wordOf_111 (by decide) ?_
            refine g_bipush (v := 108) dX11_wordOf_113 (by decide) ?_
            refine g_iconst (v := 0) dX11_wordOf_115 (by decide) ?_
            obtain ⟨x21, σ22, y23, h⟩ := bd_some h
            refine g_callSr (as := [.int 119, .int 104, .int 101, .int 101, .int 108, .int 0]) (st := [.long p1]) (zX11_word y23) dX11_wordOf_116 okX11_wordOf_246 (Nat.le_of_ble_eq_true rfl) ?_
            refine g_lcmp dX11_wordOf_119 ?_
            refine g_if_ne (t := 126) dX11_wordOf_120 (by decide) (fun c24 => ?_) (fun c24 => ?_)
            · replace h := if_f h c24
              refine g_lload_n dX11_wordOf_126 rfl 0 rfl ?_
              refine g_bipush (v := 109) dX11_wordOf_127 (by decide) ?_
              refine g_bipush (v := 101) dX11_wordOf_129 (by decide) ?_
              refine g_bipush (v := 115) dX11_wordOf_131 (by decide) ?_
              refine g_bipush (v := 104) dX11_wordOf_133 (by decide) ?_
              refine g_iconst (v := 0) dX11_wordOf_135 (by decide) ?_
              refine g_iconst (v := 0) dX11_wordOf_136 (by decide) ?_
              obtain ⟨x25, σ26, y27, h⟩ := bd_some h
              refine g_callSr (as := [.int 109, .int 101, .int 115, .int 104, .int 0, .int 0]) (st := [.long p1]) (zX11_word y27) dX11_wordOf_137 okX11_wordOf_246 (Nat.le_of_ble_eq_true rfl) ?_
              refine g_lcmp dX11_wordOf_140 ?_
              refine g_if_ne (t := 147) dX11_wordOf_141 (by decide) (fun c28 => ?_) (fun c28 => ?_)
              · replace h := if_f h c28
                refine g_lload_n dX11_wordOf_147 rfl 0 rfl ?_
                refine g_bipush (v := 98) dX11_wordOf_148 (by decide) ?_
                refine g_bipush (v := 101) dX11_wordOf_150 (by decide) ?_
                refine g_bipush (v := 108) dX11_wordOf_152 (by decide) ?_
                refine g_bipush (v := 116) dX11_wordOf_154 (by decide) ?_
                refine g_iconst (v := 0) dX11_wordOf_156 (by decide) ?_
                refine g_iconst (v := 0) dX11_wordOf_157 (by decide) ?_
                obtain ⟨x29, σ30, y31, h⟩ := bd_some h
                refine g_callSr (as := [.int 98, .int 101, .int 108, .int 116, .int 0, .int 0]) (st := [.long p1]) (zX11_word y31) dX11_wordOf_158 okX11_wordOf_246 (Nat.le_of_ble_eq_true rfl) ?_
                refine g_lcmp dX11_wordOf_161 ?_
                refine g_if_ne (t := 168) dX11_wordOf_162 (by decide) (fun c32 => ?_) (fun c32 => ?_)
                · replace h := if_f h c32
                  refine g_lload_n dX11_wordOf_168 rfl 0 rfl ?_
                  refine g_bipush (v := 115) dX11_wordOf_169 (by decide) ?_
                  refine g_bipush (v := 104) dX11_wordOf_171 (by decide) ?_
                  refine g_bipush (v := 97) dX11_wordOf_173 (by decide) ?_
                  refine g_bipush (v := 102) dX11_wordOf_175 (by decide) ?_
                  refine g_bipush (v := 116) dX11_wordOf_177 (by decide) ?_
                  refine g_iconst (v := 0) dX11_wordOf_179 (by decide) ?_
                  obtain ⟨x33, σ34, y35, h⟩ := bd_some h
                  refine g_callSr (as := [.int 115, .int 104, .int 97, .int 102, .int 116, .int 0]) (st := [.long p1]) (zX11_word y35) dX11_wordOf_180 okX11_wordOf_246 (Nat.le_of_ble_eq_true rfl) ?_
                  refine g_lcmp dX11_wordOf_183 ?_
                  refine g_if_ne (t := 190) dX11_wordOf_184 (by decide) (fun c36 => ?_) (fun c36 => ?_)
                  · replace h := if_f h c36
                    refine g_lload_n dX11_wordOf_190 rfl 0 rfl ?_
                    refine g_bipush (v := 100) dX11_wordOf_191 (by decide) ?_
                    refine g_bipush (v := 114) dX11_wordOf_193 (by decide) ?_
                    refine g_bipush (v := 105) dX11_wordOf_195 (by decide) ?_
                    refine g_bipush (v := 118) dX11_wordOf_197 (by decide) ?_
                    refine g_bipush (v := 101) dX11_wordOf_199 (by decide) ?_
                    refine g_iconst (v := 0) dX11_wordOf_201 (by decide) ?_
                    obtain ⟨x37, σ38, y39, h⟩ := bd_some h
                    refine g_callSr (as := [.int 100, .int 114, .int 105, .int 118, .int 101, .int 0]) (st := [.long p1]) (zX11_word y39) dX11_wordOf_202 okX11_wordOf_246 (Nat.le_of_ble_eq_true rfl) ?_
                    refine g_lcmp dX11_wordOf_205 ?_
                    refine g_if_ne (t := 212) dX11_wordOf_206 (by decide) (fun c40 => ?_) (fun c40 => ?_)
                    · replace h := if_f h c40
                      refine g_lload_n dX11_wordOf_212 rfl 0 rfl ?_
                      refine g_bipush (v := 97) dX11_wordOf_213 (by decide) ?_
                      refine g_bipush (v := 116) dX11_wordOf_215 (by decide) ?_
                      refine g_iconst (v := 0) dX11_wordOf_217 (by decide) ?_
                      refine g_iconst (v := 0) dX11_wordOf_218 (by decide) ?_
                      refine g_iconst (v := 0) dX11_wordOf_219 (by decide) ?_
                      refine g_iconst (v := 0) dX11_wordOf_220 (by decide) ?_
                      obtain ⟨x41, σ42, y43, h⟩ := bd_some h
                      refine g_callSr (as := [.int 97, .int 116, .int 0, .int 0, .int 0, .int 0]) (st := [.long p1]) (zX11_word y43) dX11_wordOf_221 okX11_wordOf_246 (Nat.le_of_ble_eq_true rfl) ?_
                      refine g_lcmp dX11_wordOf_224 ?_
                      refine g_if_ne (t := 231) dX11_wordOf_225 (by decide) (fun c44 => ?_) (fun c44 => ?_)
                      · replace h := if_f h c44
                        refine g_lload_n dX11_wordOf_231 rfl 0 rfl ?_
                        refine g_bipush (v := 97) dX11_wordOf_232 (by decide) ?_
                        refine g_bipush (v := 98) dX11_wordOf_234 (by decide) ?_
                        refine g_bipush (v := 111) dX11_wordOf_236 (by decide) ?_
                        refine g_bipush (v := 117) dX11_wordOf_238 (by decide) ?_
                        refine g_bipush (v := 116) dX11_wordOf_240 (by decide) ?_
                        refine g_iconst (v := 0) dX11_wordOf_242 (by decide) ?_
                        obtain ⟨x45, σ46, y47, h⟩ := bd_some h
                        refine g_callSr (as := [.int 97, .int 98, .int 111, .int 117, .int 116, .int 0]) (st := [.long p1]) (zX11_word y47) dX11_wordOf_243 okX11_wordOf_246 (Nat.le_of_ble_eq_true rfl) ?_
                        refine g_lcmp dX11_wordOf_246 ?_
                        refine g_if_ne (t := 255) dX11_wordOf_247 (by decide) (fun c48 => ?_) (fun c48 => ?_)
                        · replace h := if_f h c48
                          refine g_iconst (v := 0) dX11_wordOf_255 (by decide) ?_
                          refine g_sub [] rfl ?_
                          exact pX11_wordOf_256 h
                        · replace h := if_t h c48
                          refine g_bipush (v := 12) dX11_wordOf_250 (by decide) ?_
                          refine g_goto (t := 256) dX11_wordOf_252 (by decide) ?_
                          refine g_sub [] rfl ?_
                          exact pX11_wordOf_256 h
                      · replace h := if_t h c44
                        refine g_bipush (v := 11) dX11_wordOf_228 (by decide) ?_
                        obtain ⟨rfl, rfl⟩ := so_inj h
                        exact g_iret dX11_wordOf_230 rfl
                    · replace h := if_t h c40
                      refine g_bipush (v := 10) dX11_wordOf_209 (by decide) ?_
                      obtain ⟨rfl, rfl⟩ := so_inj h
                      exact g_iret dX11_wordOf_211 rfl
                  · replace h := if_t h c36
                    refine g_bipush (v := 9) dX11_wordOf_187 (by decide) ?_
                    obtain ⟨rfl, rfl⟩ := so_inj h
                    exact g_iret dX11_wordOf_189 rfl
                · replace h := if_t h c32
                  refine g_bipush (v := 8) dX11_wordOf_165 (by decide) ?_
                  obtain ⟨rfl, rfl⟩ := so_inj h
                  exact g_iret dX11_wordOf_167 rfl
              · replace h := if_t h c28
                refine g_bipush (v := 7) dX11_wordOf_144 (by decide) ?_
                obtain ⟨rfl, rfl⟩ := so_inj h
                exact g_iret dX11_wordOf_146 rfl
            · replace h := if_t h c24
              refine g_bipush (v := 6) dX11_wordOf_123 (by decide) ?_
              obtain ⟨rfl, rfl⟩ := so_inj h
              exact g_iret dX11_wordOf_125 rfl
          · replace h := if_t h c20
            refine g_iconst (v := 5) dX11_wordOf_102 (by decide) ?_
            obtain ⟨rfl, rfl⟩ := so_inj h
            exact g_iret dX11_wordOf_103 rfl
        · replace h := if_t h c16
          refine g_iconst (v := 4) dX11_wordOf_81 (by decide) ?_
          obtain ⟨rfl, rfl⟩ := so_inj h
          exact g_iret dX11_wordOf_82 rfl
      · replace h := if_t h c12
        refine g_iconst (v := 3) dX11_wordOf_60 (by decide) ?_
        obtain ⟨rfl, rfl⟩ := so_inj h
        exact g_iret dX11_wordOf_61 rfl
    · replace h := if_t h c8
      refine g_iconst (v := 2) dX11_wordOf_41 (by decide) ?_
      obtain ⟨rfl, rfl⟩ := so_inj h
      exact g_iret dX11_wordOf_42 rfl
  · replace h := if_t h c4
    refine g_iconst (v := 1) dX11_wordOf_20 (by decide) ?_
    obtain ⟨rfl, rfl⟩ := so_inj h
    exact g_iret dX11_wordOf_21 rfl
theorem zX11_wordOf {E : gE} {p1 : Int64} {r : Int32} {σ σ' : gS} (h : fX11_wordOf p1 σ = some (r, σ')) : gC E mX11_wordOf [.long p1] σ (some (.int r)) σ' :=
  gC_of (by decide +kernel) rfl (Nat.le_of_ble_eq_true rfl) (pX11_wordOf h)
theorem fp_RX11_231 : gFp RX11 231 11 44 .int := ⟨RX11, TX11, 101, rfl, by decide, ux_11, Or.inl (gm 1272 (by decide +kernel) rfl), rfl, by decide +kernel, ⟨tyX11, tyX11_ok⟩, nmX11⟩
theorem fp_RX11_260 : gFp RX11 260 11 47 .long := ⟨RX11, TX11, 101, rfl, by decide, ux_11, Or.inl (gm 1275 (by decide +kernel) rfl), rfl, by decide +kernel, ⟨tyX11, tyX11_ok⟩, nmX11⟩
theorem fp_RX11_253 : gFp RX11 253 11 45 .int := ⟨RX11, TX11, 101, rfl, by decide, ux_11, Or.inl (gm 1273 (by decide +kernel) rfl), rfl, by decide +kernel, ⟨tyX11, tyX11_ok⟩, nmX11⟩
theorem fl_RX11_260 : gFl RX11 260 11 47 := ⟨RX11, TX11, 101, rfl, by decide, ux_11, Or.inl (gm 1275 (by decide +kernel) rfl)⟩
theorem fp_RX11_268 : gFp RX11 268 11 51 .int := ⟨RX11, TX11, 101, rfl, by decide, ux_11, Or.inl (gm 1279 (by decide +kernel) rfl), rfl, by decide +kernel, ⟨tyX11, tyX11_ok⟩, nmX11⟩
theorem fl_RX11_250 : gFl RX11 250 11 46 := ⟨RX11, TX11, 101, rfl, by decide, ux_11, Or.inl (gm 1274 (by decide +kernel) rfl)⟩
theorem fl_RX11_268 : gFl RX11 268 11 51 := ⟨RX11, TX11, 101, rfl, by decide, ux_11, Or.inl (gm 1279 (by decide +kernel) rfl)⟩
theorem fp_RX11_274 : gFp RX11 274 11 48 .int := ⟨RX11, TX11, 101, rfl, by decide, ux_11, Or.inl (gm 1276 (by decide +kernel) rfl), rfl, by decide +kernel, ⟨tyX11, tyX11_ok⟩, nmX11⟩
theorem wl_RX11_277 : Cond.constantLong RX11 277 4 ∈ gWS := (gm 1573 (by decide +kernel) rfl)
theorem fp_RX11_250 : gFp RX11 250 11 46 .int := ⟨RX11, TX11, 101, rfl, by decide, ux_11, Or.inl (gm 1274 (by decide +kernel) rfl), rfl, by decide +kernel, ⟨tyX11, tyX11_ok⟩, nmX11⟩
def mX11_next : gM := (yX11_next, cX11_next, RX11, 5, none, 2, 48)
theorem dX11_next_0 : decode mX11_next.2.1 0 = .ok (.aload_n 0, 1) := by decide +kernel
theorem dX11_next_1 : decode mX11_next.2.1 1 = .ok (.invokevirtual 234, 3) := by decide +kernel
theorem dX11_next_4 : decode mX11_next.2.1 4 = .ok (.bipush 32, 2) := by decide +kernel
theorem dX11_next_6 : decode mX11_next.2.1 6 = .ok (.if_icmp .eq 12, 3) := by decide +kernel
theorem dX11_next_9 : decode mX11_next.2.1 9 = .ok (.aload_n 0, 1) := by decide +kernel
theorem dX11_next_10 : decode mX11_next.2.1 10 = .ok (.invokevirtual 234, 3) := by decide +kernel
theorem dX11_next_13 : decode mX11_next.2.1 13 = .ok (.bipush 10, 2) := by decide +kernel
theorem dX11_next_15 : decode mX11_next.2.1 15 = .ok (.if_icmp .ne 16, 3) := by decide +kernel
theorem dX11_next_18 : decode mX11_next.2.1 18 = .ok (.aload_n 0, 1) := by decide +kernel
theorem dX11_next_19 : decode mX11_next.2.1 19 = .ok (.dup, 1) := by decide +kernel
theorem dX11_next_20 : decode mX11_next.2.1 20 = .ok (.getfield 231, 3) := by decide +kernel
theorem dX11_next_23 : decode mX11_next.2.1 23 = .ok (.iconst 1, 1) := by decide +kernel
theorem dX11_next_24 : decode mX11_next.2.1 24 = .ok (.iadd, 1) := by decide +kernel
theorem dX11_next_25 : decode mX11_next.2.1 25 = .ok (.putfield 231, 3) := by decide +kernel
theorem dX11_next_28 : decode mX11_next.2.1 28 = .ok (.goto (-28), 3) := by decide +kernel
theorem dX11_next_31 : decode mX11_next.2.1 31 = .ok (.aload_n 0, 1) := by decide +kernel
theorem dX11_next_32 : decode mX11_next.2.1 32 = .ok (.aload_n 0, 1) := by decide +kernel
theorem dX11_next_33 : decode mX11_next.2.1 33 = .ok (.getfield 231, 3) := by decide +kernel
theorem dX11_next_36 : decode mX11_next.2.1 36 = .ok (.putfield 250, 3) := by decide +kernel
theorem dX11_next_39 : decode mX11_next.2.1 39 = .ok (.aload_n 0, 1) := by decide +kernel
theorem dX11_next_40 : decode mX11_next.2.1 40 = .ok (.invokevirtual 234, 3) := by decide +kernel
theorem dX11_next_43 : decode mX11_next.2.1 43 = .ok (.istore_n 1, 1) := by decide +kernel
theorem dX11_next_44 : decode mX11_next.2.1 44 = .ok (.iload_n 1, 1) := by decide +kernel
theorem dX11_next_45 : decode mX11_next.2.1 45 = .ok (.ifCond .ge 11, 3) := by decide +kernel
theorem dX11_next_48 : decode mX11_next.2.1 48 = .ok (.aload_n 0, 1) := by decide +kernel
theorem dX11_next_49 : decode mX11_next.2.1 49 = .ok (.iconst 0, 1) := by decide +kernel
theorem dX11_next_50 : decode mX11_next.2.1 50 = .ok (.putfield 253, 3) := by decide +kernel
theorem dX11_next_53 : decode mX11_next.2.1 53 = .ok (.goto 306, 3) := by decide +kernel
theorem dX11_next_56 : decode mX11_next.2.1 56 = .ok (.iload_n 1, 1) := by decide +kernel
theorem dX11_next_57 : decode mX11_next.2.1 57 = .ok (.bipush 59, 2) := by decide +kernel
theorem dX11_next_59 : decode mX11_next.2.1 59 = .ok (.if_icmp .ne 21, 3) := by decide +kernel
theorem dX11_next_62 : decode mX11_next.2.1 62 = .ok (.aload_n 0, 1) := by decide +kernel
theorem dX11_next_63 : decode mX11_next.2.1 63 = .ok (.iconst 4, 1) := by decide +kernel
theorem dX11_next_64 : decode mX11_next.2.1 64 = .ok (.putfield 253, 3) := by decide +kernel
theorem dX11_next_67 : decode mX11_next.2.1 67 = .ok (.aload_n 0, 1) := by decide +kernel
theorem dX11_next_68 : decode mX11_next.2.1 68 = .ok (.dup, 1) := by decide +kernel
theorem dX11_next_69 : decode mX11_next.2.1 69 = .ok (.getfield 231, 3) := by decide +kernel
theorem dX11_next_72 : decode mX11_next.2.1 72 = .ok (.iconst 1, 1) := by decide +kernel
theorem dX11_next_73 : decode mX11_next.2.1 73 = .ok (.iadd, 1) := by decide +kernel
theorem dX11_next_74 : decode mX11_next.2.1 74 = .ok (.putfield 231, 3) := by decide +kernel
theorem dX11_next_77 : decode mX11_next.2.1 77 = .ok (.goto 282, 3) := by decide +kernel
theorem dX11_next_80 : decode mX11_next.2.1 80 = .ok (.aload_n 0, 1) := by decide +kernel
theorem dX11_next_81 : decode mX11_next.2.1 81 = .ok (.invokevirtual 256, 3) := by decide +kernel
theorem dX11_next_84 : decode mX11_next.2.1 84 = .ok (.ifCond .eq 114, 3) := by decide +kernel
theorem dX11_next_87 : decode mX11_next.2.1 87 = .ok (.aload_n 0, 1) := by decide +kernel
theorem dX11_next_88 : decode mX11_next.2.1 88 = .ok (.lconst 0, 1) := by decide +kernel
theorem dX11_next_89 : decode mX11_next.2.1 89 = .ok (.putfield 260, 3) := by decide +kernel
theorem dX11_next_92 : decode mX11_next.2.1 92 = .ok (.aload_n 0, 1) := by decide +kernel
theorem dX11_next_93 : decode mX11_next.2.1 93 = .ok (.invokevirtual 256, 3) := by decide +kernel
theorem dX11_next_96 : decode mX11_next.2.1 96 = .ok (.ifCond .eq 54, 3) := by decide +kernel
theorem dX11_next_99 : decode mX11_next.2.1 99 = .ok (.aload_n 0, 1) := by decide +kernel
theorem dX11_next_100 : decode mX11_next.2.1 100 = .ok (.aload_n 0, 1) := by decide +kernel
theorem dX11_next_101 : decode mX11_next.2.1 101 = .ok (.getfield 231, 3) := by decide +kernel
theorem dX11_next_104 : decode mX11_next.2.1 104 = .ok (.aload_n 0, 1) := by decide +kernel
theorem dX11_next_105 : decode mX11_next.2.1 105 = .ok (.getfield 250, 3) := by decide +kernel
theorem dX11_next_108 : decode mX11_next.2.1 108 = .ok (.isub, 1) := by decide +kernel
theorem dX11_next_109 : decode mX11_next.2.1 109 = .ok (.bipush 6, 2) := by decide +kernel
theorem dX11_next_111 : decode mX11_next.2.1 111 = .ok (.if_icmp .ge 19, 3) := by decide +kernel
theorem dX11_next_114 : decode mX11_next.2.1 114 = .ok (.aload_n 0, 1) := by decide +kernel
theorem dX11_next_115 : decode mX11_next.2.1 115 = .ok (.getfield 260, 3) := by decide +kernel
theorem dX11_next_118 : decode mX11_next.2.1 118 = .ok (.bipush 8, 2) := by decide +kernel
theorem dX11_next_120 : decode mX11_next.2.1 120 = .ok (.lshl, 1) := by decide +kernel
theorem dX11_next_121 : decode mX11_next.2.1 121 = .ok (.aload_n 0, 1) := by decide +kernel
theorem dX11_next_122 : decode mX11_next.2.1 122 = .ok (.invokevirtual 234, 3) := by decide +kernel
theorem dX11_next_125 : decode mX11_next.2.1 125 = .ok (.i2l, 1) := by decide +kernel
theorem dX11_next_126 : decode mX11_next.2.1 126 = .ok (.lor, 1) := by decide +kernel
theorem dX11_next_127 : decode mX11_next.2.1 127 = .ok (.goto 7, 3) := by decide +kernel
theorem dX11_next_130 : decode mX11_next.2.1 130 = .ok (.aload_n 0, 1) := by decide +kernel
theorem dX11_next_131 : decode mX11_next.2.1 131 = .ok (.getfield 260, 3) := by decide +kernel
theorem dX11_next_134 : decode mX11_next.2.1 134 = .ok (.putfield 260, 3) := by decide +kernel
theorem dX11_next_137 : decode mX11_next.2.1 137 = .ok (.aload_n 0, 1) := by decide +kernel
theorem dX11_next_138 : decode mX11_next.2.1 138 = .ok (.dup, 1) := by decide +kernel
theorem dX11_next_139 : decode mX11_next.2.1 139 = .ok (.getfield 231, 3) := by decide +kernel
theorem dX11_next_142 : decode mX11_next.2.1 142 = .ok (.iconst 1, 1) := by decide +kernel
theorem dX11_next_143 : decode mX11_next.2.1 143 = .ok (.iadd, 1) := by decide +kernel
theorem dX11_next_144 : decode mX11_next.2.1 144 = .ok (.putfield 231, 3) := by decide +kernel
theorem dX11_next_147 : decode mX11_next.2.1 147 = .ok (.goto (-55), 3) := by decide +kernel
theorem dX11_next_150 : decode mX11_next.2.1 150 = .ok (.aload_n 0, 1) := by decide +kernel
theorem dX11_next_151 : decode mX11_next.2.1 151 = .ok (.aload_n 0, 1) := by decide +kernel
theorem dX11_next_152 : decode mX11_next.2.1 152 = .ok (.getfield 260, 3) := by decide +kernel
theorem dX11_next_155 : decode mX11_next.2.1 155 = .ok (.invokestatic 264, 3) := by decide +kernel
theorem dX11_next_158 : decode mX11_next.2.1 158 = .ok (.putfield 268, 3) := by decide +kernel
theorem dX11_next_161 : decode mX11_next.2.1 161 = .ok (.aload_n 0, 1) := by decide +kernel
theorem dX11_next_162 : decode mX11_next.2.1 162 = .ok (.aload_n 0, 1) := by decide +kernel
theorem dX11_next_163 : decode mX11_next.2.1 163 = .ok (.getfield 231, 3) := by decide +kernel
theorem dX11_next_166 : decode mX11_next.2.1 166 = .ok (.aload_n 0, 1) := by decide +kernel
theorem dX11_next_167 : decode mX11_next.2.1 167 = .ok (.getfield 250, 3) := by decide +kernel
theorem dX11_next_170 : decode mX11_next.2.1 170 = .ok (.isub, 1) := by decide +kernel
theorem dX11_next_171 : decode mX11_next.2.1 171 = .ok (.bipush 6, 2) := by decide +kernel
theorem dX11_next_173 : decode mX11_next.2.1 173 = .ok (.if_icmp .le 7, 3) := by decide +kernel
theorem dX11_next_176 : decode mX11_next.2.1 176 = .ok (.iconst 5, 1) := by decide +kernel
theorem dX11_next_177 : decode mX11_next.2.1 177 = .ok (.goto 15, 3) := by decide +kernel
theorem dX11_next_180 : decode mX11_next.2.1 180 = .ok (.aload_n 0, 1) := by decide +kernel
theorem dX11_next_181 : decode mX11_next.2.1 181 = .ok (.getfield 268, 3) := by decide +kernel
theorem dX11_next_184 : decode mX11_next.2.1 184 = .ok (.ifCond .le 7, 3) := by decide +kernel
theorem dX11_next_187 : decode mX11_next.2.1 187 = .ok (.iconst 1, 1) := by decide +kernel
theorem dX11_next_188 : decode mX11_next.2.1 188 = .ok (.goto 4, 3) := by decide +kernel
theorem dX11_next_191 : decode mX11_next.2.1 191 = .ok (.iconst 2, 1) := by decide +kernel
theorem dX11_next_192 : decode mX11_next.2.1 192 = .ok (.putfield 253, 3) := by decide +kernel
theorem dX11_next_195 : decode mX11_next.2.1 195 = .ok (.goto 164, 3) := by decide +kernel
theorem dX11_next_198 : decode mX11_next.2.1 198 = .ok (.iload_n 1, 1) := by decide +kernel
theorem dX11_next_199 : decode mX11_next.2.1 199 = .ok (.bipush 45, 2) := by decide +kernel
theorem dX11_next_201 : decode mX11_next.2.1 201 = .ok (.if_icmp .eq 10, 3) := by decide +kernel
theorem dX11_next_204 : decode mX11_next.2.1 204 = .ok (.aload_n 0, 1) := by decide +kernel
theorem dX11_next_205 : decode mX11_next.2.1 205 = .ok (.invokevirtual 271, 3) := by decide +kernel
theorem dX11_next_208 : decode mX11_next.2.1 208 = .ok (.ifCond .eq 136, 3) := by decide +kernel
theorem dX11_next_211 : decode mX11_next.2.1 211 = .ok (.iload_n 1, 1) := by decide +kernel
theorem dX11_next_212 : decode mX11_next.2.1 212 = .ok (.bipush 45, 2) := by decide +kernel
theorem dX11_next_214 : decode mX11_next.2.1 214 = .ok (.if_icmp .ne 7, 3) := by decide +kernel
theorem dX11_next_217 : decode mX11_next.2.1 217 = .ok (.iconst 1, 1) := by decide +kernel
theorem dX11_next_218 : decode mX11_next.2.1 218 = .ok (.goto 4, 3) := by decide +kernel
theorem dX11_next_221 : decode mX11_next.2.1 221 = .ok (.iconst 0, 1) := by decide +kernel
theorem dX11_next_222 : decode mX11_next.2.1 222 = .ok (.istore_n 2, 1) := by decide +kernel
theorem dX11_next_223 : decode mX11_next.2.1 223 = .ok (.aload_n 0, 1) := by decide +kernel
theorem dX11_next_224 : decode mX11_next.2.1 224 = .ok (.dup, 1) := by decide +kernel
theorem dX11_next_225 : decode mX11_next.2.1 225 = .ok (.getfield 231, 3) := by decide +kernel
theorem dX11_next_228 : decode mX11_next.2.1 228 = .ok (.iload_n 2, 1) := by decide +kernel
theorem dX11_next_229 : decode mX11_next.2.1 229 = .ok (.ifCond .eq 7, 3) := by decide +kernel
theorem dX11_next_232 : decode mX11_next.2.1 232 = .ok (.iconst 1, 1) := by decide +kernel
theorem dX11_next_233 : decode mX11_next.2.1 233 = .ok (.goto 4, 3) := by decide +kernel
theorem dX11_next_236 : decode mX11_next.2.1 236 = .ok (.iconst 0, 1) := by decide +kernel
theorem dX11_next_237 : decode mX11_next.2.1 237 = .ok (.iadd, 1) := by decide +kernel
theorem dX11_next_238 : decode mX11_next.2.1 238 = .ok (.putfield 231, 3) := by decide +kernel
theorem dX11_next_241 : decode mX11_next.2.1 241 = .ok (.aload_n 0, 1) := by decide +kernel
theorem dX11_next_242 : decode mX11_next.2.1 242 = .ok (.getfield 231, 3) := by decide +kernel
theorem dX11_next_245 : decode mX11_next.2.1 245 = .ok (.istore_n 3, 1) := by decide +kernel
theorem dX11_next_246 : decode mX11_next.2.1 246 = .ok (.iconst 0, 1) := by decide +kernel
theorem dX11_next_247 : decode mX11_next.2.1 247 = .ok (.istore 4, 2) := by decide +kernel
theorem dX11_next_249 : decode mX11_next.2.1 249 = .ok (.aload_n 0, 1) := by decide +kernel
theorem dX11_next_250 : decode mX11_next.2.1 250 = .ok (.invokevirtual 271, 3) := by decide +kernel
theorem dX11_next_253 : decode mX11_next.2.1 253 = .ok (.ifCond .eq 46, 3) := by decide +kernel
theorem dX11_next_256 : decode mX11_next.2.1 256 = .ok (.aload_n 0, 1) := by decide +kernel
theorem dX11_next_257 : decode mX11_next.2.1 257 = .ok (.getfield 231, 3) := by decide +kernel
theorem dX11_next_260 : decode mX11_next.2.1 260 = .ok (.iload_n 3, 1) := by decide +kernel
theorem dX11_next_261 : decode mX11_next.2.1 261 = .ok (.isub, 1) := by decide +kernel
theorem dX11_next_262 : decode mX11_next.2.1 262 = .ok (.iconst 4, 1) := by decide +kernel
theorem dX11_next_263 : decode mX11_next.2.1 263 = .ok (.if_icmp .ge 19, 3) := by decide +kernel
theorem dX11_next_266 : decode mX11_next.2.1 266 = .ok (.bipush 10, 2) := by decide +kernel
theorem dX11_next_268 : decode mX11_next.2.1 268 = .ok (.iload 4, 2) := by decide +kernel
theorem dX11_next_270 : decode mX11_next.2.1 270 = .ok (.imul, 1) := by decide +kernel
theorem dX11_next_271 : decode mX11_next.2.1 271 = .ok (.aload_n 0, 1) := by decide +kernel
theorem dX11_next_272 : decode mX11_next.2.1 272 = .ok (.invokevirtual 234, 3) := by decide +kernel
theorem dX11_next_275 : decode mX11_next.2.1 275 = .ok (.iadd, 1) := by decide +kernel
theorem dX11_next_276 : decode mX11_next.2.1 276 = .ok (.bipush 48, 2) := by decide +kernel
theorem dX11_next_278 : decode mX11_next.2.1 278 = .ok (.isub, 1) := by decide +kernel
theorem dX11_next_279 : decode mX11_next.2.1 279 = .ok (.goto 5, 3) := by decide +kernel
theorem dX11_next_282 : decode mX11_next.2.1 282 = .ok (.iload 4, 2) := by decide +kernel
theorem dX11_next_284 : decode mX11_next.2.1 284 = .ok (.istore 4, 2) := by decide +kernel
theorem dX11_next_286 : decode mX11_next.2.1 286 = .ok (.aload_n 0, 1) := by decide +kernel
theorem dX11_next_287 : decode mX11_next.2.1 287 = .ok (.dup, 1) := by decide +kernel
theorem dX11_next_288 : decode mX11_next.2.1 288 = .ok (.getfield 231, 3) := by decide +kernel
theorem dX11_next_291 : decode mX11_next.2.1 291 = .ok (.iconst 1, 1) := by decide +kernel
theorem dX11_next_292 : decode mX11_next.2.1 292 = .ok (.iadd, 1) := by decide +kernel
theorem dX11_next_293 : decode mX11_next.2.1 293 = .ok (.putfield 231, 3) := by decide +kernel
theorem dX11_next_296 : decode mX11_next.2.1 296 = .ok (.goto (-47), 3) := by decide +kernel
theorem dX11_next_299 : decode mX11_next.2.1 299 = .ok (.aload_n 0, 1) := by decide +kernel
theorem dX11_next_300 : decode mX11_next.2.1 300 = .ok (.iload_n 2, 1) := by decide +kernel
theorem dX11_next_301 : decode mX11_next.2.1 301 = .ok (.ifCond .eq 9, 3) := by decide +kernel
theorem dX11_next_304 : decode mX11_next.2.1 304 = .ok (.iload 4, 2) := by decide +kernel
theorem dX11_next_306 : decode mX11_next.2.1 306 = .ok (.ineg, 1) := by decide +kernel
theorem dX11_next_307 : decode mX11_next.2.1 307 = .ok (.goto 5, 3) := by decide +kernel
theorem dX11_next_310 : decode mX11_next.2.1 310 = .ok (.iload 4, 2) := by decide +kernel
theorem dX11_next_312 : decode mX11_next.2.1 312 = .ok (.putfield 274, 3) := by decide +kernel
theorem dX11_next_315 : decode mX11_next.2.1 315 = .ok (.aload_n 0, 1) := by decide +kernel
theorem dX11_next_316 : decode mX11_next.2.1 316 = .ok (.aload_n 0, 1) := by decide +kernel
theorem dX11_next_317 : decode mX11_next.2.1 317 = .ok (.getfield 231, 3) := by decide +kernel
theorem dX11_next_320 : decode mX11_next.2.1 320 = .ok (.iload_n 3, 1) := by decide +kernel
theorem dX11_next_321 : decode mX11_next.2.1 321 = .ok (.isub, 1) := by decide +kernel
theorem dX11_next_322 : decode mX11_next.2.1 322 = .ok (.i2l, 1) := by decide +kernel
theorem dX11_next_323 : decode mX11_next.2.1 323 = .ok (.lconst 1, 1) := by decide +kernel
theorem dX11_next_324 : decode mX11_next.2.1 324 = .ok (.ldc2_w 277, 3) := by decide +kernel
theorem dX11_next_327 : decode mX11_next.2.1 327 = .ok (.invokestatic 220, 3) := by decide +kernel
theorem dX11_next_330 : decode mX11_next.2.1 330 = .ok (.ifCond .eq 7, 3) := by decide +kernel
theorem dX11_next_333 : decode mX11_next.2.1 333 = .ok (.iconst 3, 1) := by decide +kernel
theorem dX11_next_334 : decode mX11_next.2.1 334 = .ok (.goto 4, 3) := by decide +kernel
theorem dX11_next_337 : decode mX11_next.2.1 337 = .ok (.iconst 5, 1) := by decide +kernel
theorem dX11_next_338 : decode mX11_next.2.1 338 = .ok (.putfield 253, 3) := by decide +kernel
theorem dX11_next_341 : decode mX11_next.2.1 341 = .ok (.goto 18, 3) := by decide +kernel
theorem dX11_next_344 : decode mX11_next.2.1 344 = .ok (.aload_n 0, 1) := by decide +kernel
theorem dX11_next_345 : decode mX11_next.2.1 345 = .ok (.iconst 5, 1) := by decide +kernel
theorem dX11_next_346 : decode mX11_next.2.1 346 = .ok (.putfield 253, 3) := by decide +kernel
theorem dX11_next_349 : decode mX11_next.2.1 349 = .ok (.aload_n 0, 1) := by decide +kernel
theorem dX11_next_350 : decode mX11_next.2.1 350 = .ok (.dup, 1) := by decide +kernel
theorem dX11_next_351 : decode mX11_next.2.1 351 = .ok (.getfield 231, 3) := by decide +kernel
theorem dX11_next_354 : decode mX11_next.2.1 354 = .ok (.iconst 1, 1) := by decide +kernel
theorem dX11_next_355 : decode mX11_next.2.1 355 = .ok (.iadd, 1) := by decide +kernel
theorem dX11_next_356 : decode mX11_next.2.1 356 = .ok (.putfield 231, 3) := by decide +kernel
theorem dX11_next_359 : decode mX11_next.2.1 359 = .ok (.return_, 1) := by decide +kernel
theorem okX11_next_256 : gOkV mX11_next mX11_isLetter 256 0 := ⟨List.forall_mem_cons.mpr ⟨(gm 1558 (by decide +kernel) rfl), List.forall_mem_cons.mpr ⟨(gm 1555 (by decide +kernel) rfl), List.forall_mem_cons.mpr ⟨(gm 1557 (by decide +kernel) rfl), List.forall_mem_cons.mpr ⟨(gm 59 (by decide +kernel) rfl), List.forall_mem_cons.mpr ⟨(gm 122 (by decide +kernel) rfl), fun _ h => absurd h List.not_mem_nil⟩⟩⟩⟩⟩, by decide +kernel, by decide +kernel, by decide +kernel⟩
theorem okX11_next_264 : gOkS mX11_next mX11_wordOf 264 1 := ⟨List.forall_mem_cons.mpr ⟨(gm 1563 (by decide +kernel) rfl), List.forall_mem_cons.mpr ⟨(gm 1561 (by decide +kernel) rfl), List.forall_mem_cons.mpr ⟨(gm 1562 (by decide +kernel) rfl), List.forall_mem_cons.mpr ⟨(gm 122 (by decide +kernel) rfl), fun _ h => absurd h List.not_mem_nil⟩⟩⟩⟩, by decide +kernel, by decide +kernel, by decide +kernel⟩
theorem okX11_next_234 : gOkV mX11_next mX11_look 234 0 := ⟨List.forall_mem_cons.mpr ⟨(gm 1554 (by decide +kernel) rfl), List.forall_mem_cons.mpr ⟨(gm 1551 (by decide +kernel) rfl), List.forall_mem_cons.mpr ⟨(gm 1553 (by decide +kernel) rfl), List.forall_mem_cons.mpr ⟨(gm 58 (by decide +kernel) rfl), List.forall_mem_cons.mpr ⟨(gm 122 (by decide +kernel) rfl), fun _ h => absurd h List.not_mem_nil⟩⟩⟩⟩⟩, by decide +kernel, by decide +kernel, by decide +kernel⟩
theorem okX11_next_220 : gOkS mX11_next mX11_in 220 3 := ⟨List.forall_mem_cons.mpr ⟨(gm 1539 (by decide +kernel) rfl), List.forall_mem_cons.mpr ⟨(gm 1537 (by decide +kernel) rfl), List.forall_mem_cons.mpr ⟨(gm 1538 (by decide +kernel) rfl), List.forall_mem_cons.mpr ⟨(gm 122 (by decide +kernel) rfl), fun _ h => absurd h List.not_mem_nil⟩⟩⟩⟩, by decide +kernel, by decide +kernel, by decide +kernel⟩
theorem okX11_next_271 : gOkV mX11_next mX11_isFigure 271 0 := ⟨List.forall_mem_cons.mpr ⟨(gm 1570 (by decide +kernel) rfl), List.forall_mem_cons.mpr ⟨(gm 1567 (by decide +kernel) rfl), List.forall_mem_cons.mpr ⟨(gm 1569 (by decide +kernel) rfl), List.forall_mem_cons.mpr ⟨(gm 60 (by decide +kernel) rfl), List.forall_mem_cons.mpr ⟨(gm 122 (by decide +kernel) rfl), fun _ h => absurd h List.not_mem_nil⟩⟩⟩⟩⟩, by decide +kernel, by decide +kernel, by decide +kernel⟩
def fX11_next_18 (k0 : gS → Option (Unit × gS)) (σ : gS) : Option (Unit × gS) :=
  bnd (gsI σ 168 44 ((σ.1 168 44) + 1)) fun σ1 =>
  k0 σ1
set_option maxHeartbeats 4000000 in
set_option maxRecDepth 100000 in
theorem pX11_next_18 {E : gE} {k0 : gS → Option (Unit × gS)} {r : Unit} {σ' : gS} {σ : gS} (hk0 : ∀ (σ : gS), k0 σ = some (r, σ') → gG E mX11_next 0 [(0, .ref 168)] [] σ (none) σ') (h : fX11_next_18 k0 σ = some (r, σ')) : gG E mX11_next 18 [(0, .ref 168)] [] σ (none) σ' := by
  unfold fX11_next_18 at h
  refine g_aload_n dX11_next_18 rfl 0 rfl ?_
  refine g_dup dX11_next_19 rfl ?_
  refine g_getI dX11_next_20 gi_168 rfl fl_RX11_231 ?_
  refine g_iconst (v := 1) dX11_next_23 (by decide) ?_
  refine g_iadd dX11_next_24 ?_
  obtain ⟨σ1, eσ1, h⟩ := bnd_nm h
  refine g_putI dX11_next_25 gi_168 rfl fp_RX11_231 (g_st eσ1 ?_)
  refine g_goto (t := 0) dX11_next_28 (by decide) ?_
  exact hk0 σ1 h
def fX11_next_134 (k92 : gS → Option (Unit × gS)) (s1 : Int64) (σ : gS) : Option (Unit × gS) :=
  bnd (gsJ σ 168 47 s1) fun σ1 =>
  bnd (gsI σ1 168 44 ((σ1.1 168 44) + 1)) fun σ2 =>
  k92 σ2
set_option maxHeartbeats 4000000 in
set_option maxRecDepth 100000 in
theorem pX11_next_134 {E : gE} {k92 : gS → Option (Unit × gS)} {r : Unit} {σ' : gS} {s1 : Int64} {σ : gS} (hk92 : ∀ (σ : gS), k92 σ = some (r, σ') → gG E mX11_next 92 [(0, .ref 168)] [] σ (none) σ') (h : fX11_next_134 k92 s1 σ = some (r, σ')) : gG E mX11_next 134 [(0, .ref 168)] [.long s1, .ref 168] σ (none) σ' := by
  unfold fX11_next_134 at h
  obtain ⟨σ1, eσ1, h⟩ := bnd_nm h
  refine g_putJ dX11_next_134 gi_168 rfl fp_RX11_260 (g_st eσ1 ?_)
  refine g_aload_n dX11_next_137 rfl 0 rfl ?_
  refine g_dup dX11_next_138 rfl ?_
  refine g_getI dX11_next_139 gi_168 rfl fl_RX11_231 ?_
  refine g_iconst (v := 1) dX11_next_142 (by decide) ?_
  refine g_iadd dX11_next_143 ?_
  obtain ⟨σ2, eσ2, h⟩ := bnd_nm h
  refine g_putI dX11_next_144 gi_168 rfl fp_RX11_231 (g_st eσ2 ?_)
  refine g_goto (t := 92) dX11_next_147 (by decide) ?_
  exact hk92 σ2 h
def fX11_next_359 (σ : gS) : Option (Unit × gS) :=
  some ((), σ)
set_option maxHeartbeats 4000000 in
set_option maxRecDepth 100000 in
theorem pX11_next_359 {E : gE} {r : Unit} {σ' : gS} {σ : gS} (h : fX11_next_359 σ = some (r, σ')) : gG E mX11_next 359 [] [] σ (none) σ' := by
  unfold fX11_next_359 at h
  obtain ⟨rfl, rfl⟩ := so_inj h
  exact g_vret dX11_next_359 rfl
def fX11_next_192 (s1 : Int32) (σ : gS) : Option (Unit × gS) :=
  bnd (gsI σ 168 45 s1) fun σ1 =>
  fX11_next_359 σ1
set_option maxHeartbeats 4000000 in
set_option maxRecDepth 100000 in
theorem pX11_next_192 {E : gE} {r : Unit} {σ' : gS} {s1 : Int32} {σ : gS} (h : fX11_next_192 s1 σ = some (r, σ')) : gG E mX11_next 192 [] [.int s1, .ref 168] σ (none) σ' := by
  unfold fX11_next_192 at h
  obtain ⟨σ1, eσ1, h⟩ := bnd_nm h
  refine g_putI dX11_next_192 gi_168 rfl fp_RX11_253 (g_st eσ1 ?_)
  refine g_goto (t := 359) dX11_next_195 (by decide) ?_
  exact pX11_next_359 h
def fX11_next_92 : Nat → gS → Option (Unit × gS)
  | 0, _ => none
  | n + 1, σ => bd (fX11_isLetter σ) fun x1 σ2 =>
  if x1 = 0 then
    bd (fX11_wordOf (σ2.2.1 168 47) σ2) fun x5 σ6 =>
    bnd (gsI σ6 168 51 x5) fun σ8 =>
    if ((σ8.1 168 44) - (σ8.1 168 46)) ≤ 6 then
      if (σ8.1 168 51) ≤ 0 then
        fX11_next_192 2 σ8
      else
        fX11_next_192 1 σ8
    else
      fX11_next_192 5 σ8
  else
    if 6 ≤ ((σ2.1 168 44) - (σ2.1 168 46)) then
      fX11_next_134 (fun σ => fX11_next_92 n σ) (σ2.2.1 168 47) σ2
    else
      bd (fX11_look σ2) fun x12 σ13 =>
      fX11_next_134 (fun σ => fX11_next_92 n σ) (((σ2.2.1 168 47) <<< ((8 : Int32).toInt64 &&& 63)) ||| x12.toInt64) σ13
set_option maxHeartbeats 4000000 in
set_option maxRecDepth 100000 in
theorem pX11_next_92 {E : gE} {r : Unit} {σ' : gS} : ∀ (n : Nat) (σ : gS), fX11_next_92 n σ = some (r, σ') → gG E mX11_next 92 [(0, .ref 168)] [] σ (none) σ' := by
  intro n
  induction n with
  | zero => intro σ h; exact absurd (show none = some (r, σ') from h) (by intro q; cases q)
  | succ n ih =>
  intro σ h
  unfold fX11_next_92 at h
  refine g_aload_n dX11_next_92 rfl 0 rfl ?_
  obtain ⟨x1, σ2, y3, h⟩ := bd_some h
  refine g_callVr (as := []) (st := []) (zX11_isLetter y3) dX11_next_93 gi_168 rfl okX11_next_256 (Nat.le_of_ble_eq_true rfl) ?_
  refine g_if_eq (t := 150) dX11_next_96 (by decide) (fun c4 => ?_) (fun c4 => ?_)
  · replace h := if_t h c4
    refine g_aload_n dX11_next_150 rfl 0 rfl ?_
    refine g_aload_n dX11_next_151 rfl 0 rfl ?_
    refine g_getJ dX11_next_152 gi_168 rfl fl_RX11_260 ?_
    obtain ⟨x5, σ6, y7, h⟩ := bd_some h
    refine g_callSr (as := [.long (σ2.2.1 168 47)]) (st := [.ref 168]) (zX11_wordOf y7) dX11_next_155 okX11_next_264 (Nat.le_of_ble_eq_true rfl) ?_
    obtain ⟨σ8, eσ8, h⟩ := bnd_nm h
    refine g_putI dX11_next_158 gi_168 rfl fp_RX11_268 (g_st eσ8 ?_)
    refine g_aload_n dX11_next_161 rfl 0 rfl ?_
    refine g_aload_n dX11_next_162 rfl 0 rfl ?_
    refine g_getI dX11_next_163 gi_168 rfl fl_RX11_231 ?_
    refine g_aload_n dX11_next_166 rfl 0 rfl ?_
    refine g_getI dX11_next_167 gi_168 rfl fl_RX11_250 ?_
    refine g_isub dX11_next_170 ?_
    refine g_bipush (v := 6) dX11_next_171 (by decide) ?_
    refine g_icmp_le (t := 180) dX11_next_173 (by decide) (fun c9 => ?_) (fun c9 => ?_)
    · replace h := if_t h c9
      refine g_aload_n dX11_next_180 rfl 0 rfl ?_
      refine g_getI dX11_next_181 gi_168 rfl fl_RX11_268 ?_
      refine g_if_le (t := 191) dX11_next_184 (by decide) (fun c10 => ?_) (fun c10 => ?_)
      · replace h := if_t h c10
        refine g_iconst (v := 2) dX11_next_191 (by decide) ?_
        refine g_sub [] rfl ?_
        exact pX11_next_192 h
      · replace h := if_f h c10
        refine g_iconst (v := 1) dX11_next_187 (by decide) ?_
        refine g_goto (t := 192) dX11_next_188 (by decide) ?_
        refine g_sub [] rfl ?_
        exact pX11_next_192 h
    · replace h := if_f h c9
      refine g_iconst (v := 5) dX11_next_176 (by decide) ?_
      refine g_goto (t := 192) dX11_next_177 (by decide) ?_
      refine g_sub [] rfl ?_
      exact pX11_next_192 h
  · replace h := if_f h c4
    refine g_aload_n dX11_next_99 rfl 0 rfl ?_
    refine g_aload_n dX11_next_100 rfl 0 rfl ?_
    refine g_getI dX11_next_101 gi_168 rfl fl_RX11_231 ?_
    refine g_aload_n dX11_next_104 rfl 0 rfl ?_
    refine g_getI dX11_next_105 gi_168 rfl fl_RX11_250 ?_
    refine g_isub dX11_next_108 ?_
    refine g_bipush (v := 6) dX11_next_109 (by decide) ?_
    refine g_icmp_ge (t := 130) dX11_next_111 (by decide) (fun c11 => ?_) (fun c11 => ?_)
    · replace h := if_t h c11
      refine g_aload_n dX11_next_130 rfl 0 rfl ?_
      refine g_getJ dX11_next_131 gi_168 rfl fl_RX11_260 ?_
      exact pX11_next_134 (fun σ h => ih σ h) h
    · replace h := if_f h c11
      refine g_aload_n dX11_next_114 rfl 0 rfl ?_
      refine g_getJ dX11_next_115 gi_168 rfl fl_RX11_260 ?_
      refine g_bipush (v := 8) dX11_next_118 (by decide) ?_
      refine g_lshl dX11_next_120 ?_
      refine g_aload_n dX11_next_121 rfl 0 rfl ?_
      obtain ⟨x12, σ13, y14, h⟩ := bd_some h
      refine g_callVr (as := []) (st := [.long ((σ2.2.1 168 47) <<< ((8 : Int32).toInt64 &&& 63)), .ref 168]) (zX11_look y14) dX11_next_122 gi_168 rfl okX11_next_234 (Nat.le_of_ble_eq_true rfl) ?_
      refine g_i2l dX11_next_125 ?_
      refine g_lor dX11_next_126 ?_
      refine g_goto (t := 134) dX11_next_127 (by decide) ?_
      exact pX11_next_134 (fun σ h => ih σ h) h
def fX11_next_284 (k249 : Int32 → Int32 → Int32 → gS → Option (Unit × gS)) (v2 : Int32) (v3 : Int32) (s0 : Int32) (σ : gS) : Option (Unit × gS) :=
  bnd (gsI σ 168 44 ((σ.1 168 44) + 1)) fun σ1 =>
  k249 v2 v3 s0 σ1
set_option maxHeartbeats 4000000 in
set_option maxRecDepth 100000 in
theorem pX11_next_284 {E : gE} {k249 : Int32 → Int32 → Int32 → gS → Option (Unit × gS)} {r : Unit} {σ' : gS} {v2 : Int32} {v3 : Int32} {s0 : Int32} {σ : gS} (hk249 : ∀ (v2 : Int32) (v3 : Int32) (v4 : Int32) (σ : gS), k249 v2 v3 v4 σ = some (r, σ') → gG E mX11_next 249 [(0, .ref 168), (2, .int v2), (3, .int v3), (4, .int v4)] [] σ (none) σ') (h : fX11_next_284 k249 v2 v3 s0 σ = some (r, σ')) : gG E mX11_next 284 [(0, .ref 168), (2, .int v2), (3, .int v3)] [.int s0] σ (none) σ' := by
  unfold fX11_next_284 at h
  refine g_istore (lv' := [(4, .int s0), (0, .ref 168), (2, .int v2), (3, .int v3)]) dX11_next_284 (Nat.le_of_ble_eq_true rfl) rfl ?_
  refine g_aload_n dX11_next_286 rfl 1 rfl ?_
  refine g_dup dX11_next_287 rfl ?_
  refine g_getI dX11_next_288 gi_168 rfl fl_RX11_231 ?_
  refine g_iconst (v := 1) dX11_next_291 (by decide) ?_
  refine g_iadd dX11_next_292 ?_
  obtain ⟨σ1, eσ1, h⟩ := bnd_nm h
  refine g_putI dX11_next_293 gi_168 rfl fp_RX11_231 (g_st eσ1 ?_)
  refine g_goto (t := 249) dX11_next_296 (by decide) ?_
  refine g_sub [1, 2, 3, 0] rfl ?_
  exact hk249 v2 v3 s0 σ1 h
def fX11_next_338 (s1 : Int32) (σ : gS) : Option (Unit × gS) :=
  bnd (gsI σ 168 45 s1) fun σ1 =>
  fX11_next_359 σ1
set_option maxHeartbeats 4000000 in
set_option maxRecDepth 100000 in
theorem pX11_next_338 {E : gE} {r : Unit} {σ' : gS} {s1 : Int32} {σ : gS} (h : fX11_next_338 s1 σ = some (r, σ')) : gG E mX11_next 338 [] [.int s1, .ref 168] σ (none) σ' := by
  unfold fX11_next_338 at h
  obtain ⟨σ1, eσ1, h⟩ := bnd_nm h
  refine g_putI dX11_next_338 gi_168 rfl fp_RX11_253 (g_st eσ1 ?_)
  refine g_goto (t := 359) dX11_next_341 (by decide) ?_
  exact pX11_next_359 h
def fX11_next_312 (v3 : Int32) (s1 : Int32) (σ : gS) : Option (Unit × gS) :=
  bnd (gsI σ 168 48 s1) fun σ1 =>
  bd (fX11_in (((σ1.1 168 44) - v3).toInt64) 1 4 σ1) fun x2 σ3 =>
  if x2 = 0 then
    fX11_next_338 5 σ3
  else
    fX11_next_338 3 σ3
set_option maxHeartbeats 4000000 in
set_option maxRecDepth 100000 in
theorem pX11_next_312 {E : gE} {r : Unit} {σ' : gS} {v3 : Int32} {s1 : Int32} {σ : gS} (h : fX11_next_312 v3 s1 σ = some (r, σ')) : gG E mX11_next 312 [(0, .ref 168), (3, .int v3)] [.int s1, .ref 168] σ (none) σ' := by
  unfold fX11_next_312 at h
  obtain ⟨σ1, eσ1, h⟩ := bnd_nm h
  refine g_putI dX11_next_312 gi_168 rfl fp_RX11_274 (g_st eσ1 ?_)
  refine g_aload_n dX11_next_315 rfl 0 rfl ?_
  refine g_aload_n dX11_next_316 rfl 0 rfl ?_
  refine g_getI dX11_next_317 gi_168 rfl fl_RX11_231 ?_
  refine g_iload_n dX11_next_320 rfl 1 rfl ?_
  refine g_isub dX11_next_321 ?_
  refine g_i2l dX11_next_322 ?_
  refine g_lconst (v := 1) dX11_next_323 (by decide) ?_
  refine g_ldc2 (v := 4) dX11_next_324 wl_RX11_277 ?_
  obtain ⟨x2, σ3, y4, h⟩ := bd_some h
  refine g_callSr (as := [.long (((σ1.1 168 44) - v3).toInt64), .long 1, .long 4]) (st := [.ref 168]) (zX11_in y4) dX11_next_327 okX11_next_220 (Nat.le_of_ble_eq_true rfl) ?_
  refine g_if_eq (t := 337) dX11_next_330 (by decide) (fun c5 => ?_) (fun c5 => ?_)
  · replace h := if_t h c5
    refine g_iconst (v := 5) dX11_next_337 (by decide) ?_
    refine g_sub [] rfl ?_
    exact pX11_next_338 h
  · replace h := if_f h c5
    refine g_iconst (v := 3) dX11_next_333 (by decide) ?_
    refine g_goto (t := 338) dX11_next_334 (by decide) ?_
    refine g_sub [] rfl ?_
    exact pX11_next_338 h
def fX11_next_249 : Nat → Int32 → Int32 → Int32 → gS → Option (Unit × gS)
  | 0, _, _, _, _ => none
  | n + 1, v2, v3, v4, σ => bd (fX11_isFigure σ) fun x1 σ2 =>
  if x1 = 0 then
    if v2 = 0 then
      fX11_next_312 v3 v4 σ2
    else
      fX11_next_312 v3 (-v4) σ2
  else
    if 4 ≤ ((σ2.1 168 44) - v3) then
      fX11_next_284 (fun v2 v3 v4 σ => fX11_next_249 n v2 v3 v4 σ) v2 v3 v4 σ2
    else
      bd (fX11_look σ2) fun x7 σ8 =>
      fX11_next_284 (fun v2 v3 v4 σ => fX11_next_249 n v2 v3 v4 σ) v2 v3 (((10 * v4) + x7) - 48) σ8
set_option maxHeartbeats 4000000 in
set_option maxRecDepth 100000 in
theorem pX11_next_249 {E : gE} {r : Unit} {σ' : gS} : ∀ (n : Nat) (v2 : Int32) (v3 : Int32) (v4 : Int32) (σ : gS), fX11_next_249 n v2 v3 v4 σ = some (r, σ') → gG E mX11_next 249 [(0, .ref 168), (2, .int v2), (3, .int v3), (4, .int v4)] [] σ (none) σ' := by
  intro n
  induction n with
  | zero => intro v2 v3 v4 σ h; exact absurd (show none = some (r, σ') from h) (by intro q; cases q)
  | succ n ih =>
  intro v2 v3 v4 σ h
  unfold fX11_next_249 at h
  refine g_aload_n dX11_next_249 rfl 0 rfl ?_
  obtain ⟨x1, σ2, y3, h⟩ := bd_some h
  refine g_callVr (as := []) (st := []) (zX11_isFigure y3) dX11_next_250 gi_168 rfl okX11_next_271 (Nat.le_of_ble_eq_true rfl) ?_
  refine g_if_eq (t := 299) dX11_next_253 (by decide) (fun c4 => ?_) (fun c4 => ?_)
  · replace h := if_t h c4
    refine g_aload_n dX11_next_299 rfl 0 rfl ?_
    refine g_iload_n dX11_next_300 rfl 1 rfl ?_
    refine g_if_eq (t := 310) dX11_next_301 (by decide) (fun c5 => ?_) (fun c5 => ?_)
    · replace h := if_t h c5
      refine g_iload dX11_next_310 3 rfl ?_
      refine g_sub [0, 2] rfl ?_
      exact pX11_next_312 h
    · replace h := if_f h c5
      refine g_iload dX11_next_304 3 rfl ?_
      refine g_ineg dX11_next_306 ?_
      refine g_goto (t := 312) dX11_next_307 (by decide) ?_
      refine g_sub [0, 2] rfl ?_
      exact pX11_next_312 h
  · replace h := if_f h c4
    refine g_aload_n dX11_next_256 rfl 0 rfl ?_
    refine g_getI dX11_next_257 gi_168 rfl fl_RX11_231 ?_
    refine g_iload_n dX11_next_260 rfl 2 rfl ?_
    refine g_isub dX11_next_261 ?_
    refine g_iconst (v := 4) dX11_next_262 (by decide) ?_
    refine g_icmp_ge (t := 282) dX11_next_263 (by decide) (fun c6 => ?_) (fun c6 => ?_)
    · replace h := if_t h c6
      refine g_iload dX11_next_282 3 rfl ?_
      refine g_sub [0, 1, 2] rfl ?_
      exact pX11_next_284 (fun v2 v3 v4 σ h => ih v2 v3 v4 σ h) h
    · replace h := if_f h c6
      refine g_bipush (v := 10) dX11_next_266 (by decide) ?_
      refine g_iload dX11_next_268 3 rfl ?_
      refine g_imul dX11_next_270 ?_
      refine g_aload_n dX11_next_271 rfl 0 rfl ?_
      obtain ⟨x7, σ8, y9, h⟩ := bd_some h
      refine g_callVr (as := []) (st := [.int (10 * v4)]) (zX11_look y9) dX11_next_272 gi_168 rfl okX11_next_234 (Nat.le_of_ble_eq_true rfl) ?_
      refine g_iadd dX11_next_275 ?_
      refine g_bipush (v := 48) dX11_next_276 (by decide) ?_
      refine g_isub dX11_next_278 ?_
      refine g_goto (t := 284) dX11_next_279 (by decide) ?_
      refine g_sub [0, 1, 2] rfl ?_
      exact pX11_next_284 (fun v2 v3 v4 σ h => ih v2 v3 v4 σ h) h
def fX11_next_237 (v2 : Int32) (s1 : Int32) (s2 : Int32) (σ : gS) : Option (Unit × gS) :=
  bnd (gsI σ 168 44 (s1 + s2)) fun σ1 =>
  fX11_next_249 2000 v2 (σ1.1 168 44) 0 σ1
set_option maxHeartbeats 4000000 in
set_option maxRecDepth 100000 in
theorem pX11_next_237 {E : gE} {r : Unit} {σ' : gS} {v2 : Int32} {s1 : Int32} {s2 : Int32} {σ : gS} (h : fX11_next_237 v2 s1 s2 σ = some (r, σ')) : gG E mX11_next 237 [(0, .ref 168), (2, .int v2)] [.int s2, .int s1, .ref 168] σ (none) σ' := by
  unfold fX11_next_237 at h
  refine g_iadd dX11_next_237 ?_
  obtain ⟨σ1, eσ1, h⟩ := bnd_nm h
  refine g_putI dX11_next_238 gi_168 rfl fp_RX11_231 (g_st eσ1 ?_)
  refine g_aload_n dX11_next_241 rfl 0 rfl ?_
  refine g_getI dX11_next_242 gi_168 rfl fl_RX11_231 ?_
  refine g_istore_n (lv' := [(3, .int (σ1.1 168 44)), (0, .ref 168), (2, .int v2)]) dX11_next_245 rfl (Nat.le_of_ble_eq_true rfl) rfl ?_
  refine g_iconst (v := 0) dX11_next_246 (by decide) ?_
  refine g_istore (lv' := [(4, .int 0), (3, .int (σ1.1 168 44)), (0, .ref 168), (2, .int v2)]) dX11_next_247 (Nat.le_of_ble_eq_true rfl) rfl ?_
  refine g_sub [2, 3, 1, 0] rfl ?_
  exact pX11_next_249 2000 v2 (σ1.1 168 44) 0 σ1 h
def fX11_next_222 (s0 : Int32) (σ : gS) : Option (Unit × gS) :=
  if s0 = 0 then
    fX11_next_237 s0 (σ.1 168 44) 0 σ
  else
    fX11_next_237 s0 (σ.1 168 44) 1 σ
set_option maxHeartbeats 4000000 in
set_option maxRecDepth 100000 in
theorem pX11_next_222 {E : gE} {r : Unit} {σ' : gS} {s0 : Int32} {σ : gS} (h : fX11_next_222 s0 σ = some (r, σ')) : gG E mX11_next 222 [(0, .ref 168)] [.int s0] σ (none) σ' := by
  unfold fX11_next_222 at h
  refine g_istore_n (lv' := [(2, .int s0), (0, .ref 168)]) dX11_next_222 rfl (Nat.le_of_ble_eq_true rfl) rfl ?_
  refine g_aload_n dX11_next_223 rfl 1 rfl ?_
  refine g_dup dX11_next_224 rfl ?_
  refine g_getI dX11_next_225 gi_168 rfl fl_RX11_231 ?_
  refine g_iload_n dX11_next_228 rfl 0 rfl ?_
  refine g_if_eq (t := 236) dX11_next_229 (by decide) (fun c1 => ?_) (fun c1 => ?_)
  · replace h := if_t h c1
    refine g_iconst (v := 0) dX11_next_236 (by decide) ?_
    refine g_sub [1, 0] rfl ?_
    exact pX11_next_237 h
  · replace h := if_f h c1
    refine g_iconst (v := 1) dX11_next_232 (by decide) ?_
    refine g_goto (t := 237) dX11_next_233 (by decide) ?_
    refine g_sub [1, 0] rfl ?_
    exact pX11_next_237 h
def fX11_next_211 (v1 : Int32) (σ : gS) : Option (Unit × gS) :=
  if v1 = 45 then
    fX11_next_222 1 σ
  else
    fX11_next_222 0 σ
set_option maxHeartbeats 4000000 in
set_option maxRecDepth 100000 in
theorem pX11_next_211 {E : gE} {r : Unit} {σ' : gS} {v1 : Int32} {σ : gS} (h : fX11_next_211 v1 σ = some (r, σ')) : gG E mX11_next 211 [(0, .ref 168), (1, .int v1)] [] σ (none) σ' := by
  unfold fX11_next_211 at h
  refine g_iload_n dX11_next_211 rfl 1 rfl ?_
  refine g_bipush (v := 45) dX11_next_212 (by decide) ?_
  refine g_icmp_ne (t := 221) dX11_next_214 (by decide) (fun c1 => ?_) (fun c1 => ?_)
  · replace h := if_f h c1
    refine g_iconst (v := 0) dX11_next_221 (by decide) ?_
    refine g_sub [0] rfl ?_
    exact pX11_next_222 h
  · replace h := if_t h c1
    refine g_iconst (v := 1) dX11_next_217 (by decide) ?_
    refine g_goto (t := 222) dX11_next_218 (by decide) ?_
    refine g_sub [0] rfl ?_
    exact pX11_next_222 h
def fX11_next_0 : Nat → gS → Option (Unit × gS)
  | 0, _ => none
  | n + 1, σ => bd (fX11_look σ) fun x1 σ2 =>
  if x1 = 32 then
    fX11_next_18 (fun σ => fX11_next_0 n σ) σ2
  else
    bd (fX11_look σ2) fun x5 σ6 =>
    if x5 = 10 then
      fX11_next_18 (fun σ => fX11_next_0 n σ) σ6
    else
      bnd (gsI σ6 168 46 (σ6.1 168 44)) fun σ9 =>
      bd (fX11_look σ9) fun x10 σ11 =>
      if 0 ≤ x10 then
        if x10 = 59 then
          bnd (gsI σ11 168 45 4) fun σ27 =>
          bnd (gsI σ27 168 44 ((σ27.1 168 44) + 1)) fun σ28 =>
          fX11_next_359 σ28
        else
          bd (fX11_isLetter σ11) fun x15 σ16 =>
          if x15 = 0 then
            if x10 = 45 then
              fX11_next_211 x10 σ16
            else
              bd (fX11_isFigure σ16) fun x20 σ21 =>
              if x20 = 0 then
                bnd (gsI σ21 168 45 5) fun σ24 =>
                bnd (gsI σ24 168 44 ((σ24.1 168 44) + 1)) fun σ25 =>
                fX11_next_359 σ25
              else
                fX11_next_211 x10 σ21
          else
            bnd (gsJ σ16 168 47 0) fun σ26 =>
            fX11_next_92 2000 σ26
      else
        bnd (gsI σ11 168 45 0) fun σ29 =>
        fX11_next_359 σ29
set_option maxHeartbeats 4000000 in
set_option maxRecDepth 100000 in
theorem pX11_next_0 {E : gE} {r : Unit} {σ' : gS} : ∀ (n : Nat) (σ : gS), fX11_next_0 n σ = some (r, σ') → gG E mX11_next 0 [(0, .ref 168)] [] σ (none) σ' := by
  intro n
  induction n with
  | zero => intro σ h; exact absurd (show none = some (r, σ') from h) (by intro q; cases q)
  | succ n ih =>
  intro σ h
  unfold fX11_next_0 at h
  refine g_aload_n dX11_next_0 rfl 0 rfl ?_
  obtain ⟨x1, σ2, y3, h⟩ := bd_some h
  refine g_callVr (as := []) (st := []) (zX11_look y3) dX11_next_1 gi_168 rfl okX11_next_234 (Nat.le_of_ble_eq_true rfl) ?_
  refine g_bipush (v := 32) dX11_next_4 (by decide) ?_
  refine g_icmp_eq (t := 18) dX11_next_6 (by decide) (fun c4 => ?_) (fun c4 => ?_)
  · replace h := if_t h c4
    exact pX11_next_18 (fun σ h => ih σ h) h
  · replace h := if_f h c4
    refine g_aload_n dX11_next_9 rfl 0 rfl ?_
    obtain ⟨x5, σ6, y7, h⟩ := bd_some h
    refine g_callVr (as := []) (st := []) (zX11_look y7) dX11_next_10 gi_168 rfl okX11_next_234 (Nat.le_of_ble_eq_true rfl) ?_
    refine g_bipush (v := 10) dX11_next_13 (by decide) ?_
    refine g_icmp_ne (t := 31) dX11_next_15 (by decide) (fun c8 => ?_) (fun c8 => ?_)
    · replace h := if_f h c8
      refine g_aload_n dX11_next_31 rfl 0 rfl ?_
      refine g_aload_n dX11_next_32 rfl 0 rfl ?_
      refine g_getI dX11_next_33 gi_168 rfl fl_RX11_231 ?_
      obtain ⟨σ9, eσ9, h⟩ := bnd_nm h
      refine g_putI dX11_next_36 gi_168 rfl fp_RX11_250 (g_st eσ9 ?_)
      refine g_aload_n dX11_next_39 rfl 0 rfl ?_
      obtain ⟨x10, σ11, y12, h⟩ := bd_some h
      refine g_callVr (as := []) (st := []) (zX11_look y12) dX11_next_40 gi_168 rfl okX11_next_234 (Nat.le_of_ble_eq_true rfl) ?_
      refine g_istore_n (lv' := [(1, .int x10), (0, .ref 168)]) dX11_next_43 rfl (Nat.le_of_ble_eq_true rfl) rfl ?_
      refine g_iload_n dX11_next_44 rfl 0 rfl ?_
      refine g_if_ge (t := 56) dX11_next_45 (by decide) (fun c13 => ?_) (fun c13 => ?_)
      · replace h := if_t h c13
        refine g_iload_n dX11_next_56 rfl 0 rfl ?_
        refine g_bipush (v := 59) dX11_next_57 (by decide) ?_
        refine g_icmp_ne (t := 80) dX11_next_59 (by decide) (fun c14 => ?_) (fun c14 => ?_)
        · replace h := if_f h c14
          refine g_aload_n dX11_next_80 rfl 1 rfl ?_
          obtain ⟨x15, σ16, y17, h⟩ := bd_some h
          refine g_callVr (as := []) (st := []) (zX11_isLetter y17) dX11_next_81 gi_168 rfl okX11_next_256 (Nat.le_of_ble_eq_true rfl) ?_
          refine g_if_eq (t := 198) dX11_next_84 (by decide) (fun c18 => ?_) (fun c18 => ?_)
          · replace h := if_t h c18
            refine g_iload_n dX11_next_198 rfl 0 rfl ?_
            refine g_bipush (v := 45) dX11_next_199 (by decide) ?_
            refine g_icmp_eq (t := 211) dX11_next_201 (by decide) (fun c19 => ?_) (fun c19 => ?_)
            · replace h := if_t h c19
              refine g_sub [1, 0] rfl ?_
              exact pX11_next_211 h
            · replace h := if_f h c19
              refine g_aload_n dX11_next_204 rfl 1 rfl ?_
              obtain ⟨x20, σ21, y22, h⟩ := bd_some h
              refine g_callVr (as := []) (st := []) (zX11_isFigure y22) dX11_next_205 gi_168 rfl okX11_next_271 (Nat.le_of_ble_eq_true rfl) ?_
              refine g_if_eq (t := 344) dX11_next_208 (by decide) (fun c23 => ?_) (fun c23 => ?_)
              · replace h := if_t h c23
                refine g_aload_n dX11_next_344 rfl 1 rfl ?_
                refine g_iconst (v := 5) dX11_next_345 (by decide) ?_
                obtain ⟨σ24, eσ24, h⟩ := bnd_nm h
                refine g_putI dX11_next_346 gi_168 rfl fp_RX11_253 (g_st eσ24 ?_)
                refine g_aload_n dX11_next_349 rfl 1 rfl ?_
                refine g_dup dX11_next_350 rfl ?_
                refine g_getI dX11_next_351 gi_168 rfl fl_RX11_231 ?_
                refine g_iconst (v := 1) dX11_next_354 (by decide) ?_
                refine g_iadd dX11_next_355 ?_
                obtain ⟨σ25, eσ25, h⟩ := bnd_nm h
                refine g_putI dX11_next_356 gi_168 rfl fp_RX11_231 (g_st eσ25 ?_)
                refine g_sub [] rfl ?_
                exact pX11_next_359 h
              · replace h := if_f h c23
                refine g_sub [1, 0] rfl ?_
                exact pX11_next_211 h
          · replace h := if_f h c18
            refine g_aload_n dX11_next_87 rfl 1 rfl ?_
            refine g_lconst (v := 0) dX11_next_88 (by decide) ?_
            obtain ⟨σ26, eσ26, h⟩ := bnd_nm h
            refine g_putJ dX11_next_89 gi_168 rfl fp_RX11_260 (g_st eσ26 ?_)
            refine g_sub [1] rfl ?_
            exact pX11_next_92 2000 σ26 h
        · replace h := if_t h c14
          refine g_aload_n dX11_next_62 rfl 1 rfl ?_
          refine g_iconst (v := 4) dX11_next_63 (by decide) ?_
          obtain ⟨σ27, eσ27, h⟩ := bnd_nm h
          refine g_putI dX11_next_64 gi_168 rfl fp_RX11_253 (g_st eσ27 ?_)
          refine g_aload_n dX11_next_67 rfl 1 rfl ?_
          refine g_dup dX11_next_68 rfl ?_
          refine g_getI dX11_next_69 gi_168 rfl fl_RX11_231 ?_
          refine g_iconst (v := 1) dX11_next_72 (by decide) ?_
          refine g_iadd dX11_next_73 ?_
          obtain ⟨σ28, eσ28, h⟩ := bnd_nm h
          refine g_putI dX11_next_74 gi_168 rfl fp_RX11_231 (g_st eσ28 ?_)
          refine g_goto (t := 359) dX11_next_77 (by decide) ?_
          refine g_sub [] rfl ?_
          exact pX11_next_359 h
      · replace h := if_f h c13
        refine g_aload_n dX11_next_48 rfl 1 rfl ?_
        refine g_iconst (v := 0) dX11_next_49 (by decide) ?_
        obtain ⟨σ29, eσ29, h⟩ := bnd_nm h
        refine g_putI dX11_next_50 gi_168 rfl fp_RX11_253 (g_st eσ29 ?_)
        refine g_goto (t := 359) dX11_next_53 (by decide) ?_
        refine g_sub [] rfl ?_
        exact pX11_next_359 h
    · replace h := if_t h c8
      exact pX11_next_18 (fun σ h => ih σ h) h
def fX11_next (σ : gS) : Option (Unit × gS) := fX11_next_0 2000 σ
theorem pX11_next {E : gE} {r : Unit} {σ' : gS} {σ : gS} (h : fX11_next σ = some (r, σ')) : gG E mX11_next 0 [(0, .ref 168)] [] σ (none) σ' := pX11_next_0 2000 σ h
theorem zX11_next {E : gE} {r : Unit} {σ σ' : gS} (h : fX11_next σ = some (r, σ')) : gC E mX11_next [.ref 168] σ (none) σ' :=
  gC_of (by decide +kernel) rfl (Nat.le_of_ble_eq_true rfl) (pX11_next h)
theorem fl_RX11_279 : gFl RX11 279 11 49 := ⟨RX11, TX11, 101, rfl, by decide, ux_11, Or.inl (gm 1277 (by decide +kernel) rfl)⟩
def mX11_good : gM := (yX11_good, cX11_good, RX11, 1, (some .boolean), 0, 0)
theorem dX11_good_0 : decode mX11_good.2.1 0 = .ok (.aload_n 0, 1) := by decide +kernel
theorem dX11_good_1 : decode mX11_good.2.1 1 = .ok (.getfield 279, 3) := by decide +kernel
theorem dX11_good_4 : decode mX11_good.2.1 4 = .ok (.ifCond .ne 7, 3) := by decide +kernel
theorem dX11_good_7 : decode mX11_good.2.1 7 = .ok (.iconst 1, 1) := by decide +kernel
theorem dX11_good_8 : decode mX11_good.2.1 8 = .ok (.goto 4, 3) := by decide +kernel
theorem dX11_good_11 : decode mX11_good.2.1 11 = .ok (.iconst 0, 1) := by decide +kernel
theorem dX11_good_12 : decode mX11_good.2.1 12 = .ok (.ireturn, 1) := by decide +kernel
def fX11_good_12 (s0 : Int32) (σ : gS) : Option (Int32 × gS) :=
  gg (s0 = 0 ∨ s0 = 1) (
  some (s0, σ))
set_option maxHeartbeats 4000000 in
set_option maxRecDepth 100000 in
theorem pX11_good_12 {E : gE} {r : Int32} {σ' : gS} {s0 : Int32} {σ : gS} (h : fX11_good_12 s0 σ = some (r, σ')) : gG E mX11_good 12 [] [.int s0] σ (some (.int r)) σ' := by
  unfold fX11_good_12 at h
  obtain ⟨g1, h⟩ := gg_some h
  obtain ⟨rfl, rfl⟩ := so_inj h
  exact g_zret dX11_good_12 rfl g1
def fX11_good (σ : gS) : Option (Int32 × gS) :=
  if (σ.1 168 49) = 0 then
    fX11_good_12 1 σ
  else
    fX11_good_12 0 σ
set_option maxHeartbeats 4000000 in
set_option maxRecDepth 100000 in
theorem pX11_good {E : gE} {r : Int32} {σ' : gS} {σ : gS} (h : fX11_good σ = some (r, σ')) : gG E mX11_good 0 [(0, .ref 168)] [] σ (some (.int r)) σ' := by
  unfold fX11_good at h
  refine g_aload_n dX11_good_0 rfl 0 rfl ?_
  refine g_getI dX11_good_1 gi_168 rfl fl_RX11_279 ?_
  refine g_if_ne (t := 11) dX11_good_4 (by decide) (fun c1 => ?_) (fun c1 => ?_)
  · replace h := if_f h c1
    refine g_iconst (v := 0) dX11_good_11 (by decide) ?_
    refine g_sub [] rfl ?_
    exact pX11_good_12 h
  · replace h := if_t h c1
    refine g_iconst (v := 1) dX11_good_7 (by decide) ?_
    refine g_goto (t := 12) dX11_good_8 (by decide) ?_
    refine g_sub [] rfl ?_
    exact pX11_good_12 h
theorem zX11_good {E : gE} {r : Int32} {σ σ' : gS} (h : fX11_good σ = some (r, σ')) : gC E mX11_good [.ref 168] σ (some (.int r)) σ' :=
  gC_of (by decide +kernel) rfl (Nat.le_of_ble_eq_true rfl) (pX11_good h)
theorem fp_RX11_279 : gFp RX11 279 11 49 .int := ⟨RX11, TX11, 101, rfl, by decide, ux_11, Or.inl (gm 1277 (by decide +kernel) rfl), rfl, by decide +kernel, ⟨tyX11, tyX11_ok⟩, nmX11⟩
theorem fp_RX11_107 : gFp RX11 107 11 50 .int := ⟨RX11, TX11, 101, rfl, by decide, ux_11, Or.inl (gm 1278 (by decide +kernel) rfl), rfl, by decide +kernel, ⟨tyX11, tyX11_ok⟩, nmX11⟩
def mX11_bad : gM := (yX11_bad, cX11_bad, RX11, 2, none, 0, 0)
theorem dX11_bad_0 : decode mX11_bad.2.1 0 = .ok (.aload_n 0, 1) := by decide +kernel
theorem dX11_bad_1 : decode mX11_bad.2.1 1 = .ok (.getfield 279, 3) := by decide +kernel
theorem dX11_bad_4 : decode mX11_bad.2.1 4 = .ok (.ifCond .ne 16, 3) := by decide +kernel
theorem dX11_bad_7 : decode mX11_bad.2.1 7 = .ok (.aload_n 0, 1) := by decide +kernel
theorem dX11_bad_8 : decode mX11_bad.2.1 8 = .ok (.iload_n 1, 1) := by decide +kernel
theorem dX11_bad_9 : decode mX11_bad.2.1 9 = .ok (.putfield 279, 3) := by decide +kernel
theorem dX11_bad_12 : decode mX11_bad.2.1 12 = .ok (.aload_n 0, 1) := by decide +kernel
theorem dX11_bad_13 : decode mX11_bad.2.1 13 = .ok (.aload_n 0, 1) := by decide +kernel
theorem dX11_bad_14 : decode mX11_bad.2.1 14 = .ok (.getfield 250, 3) := by decide +kernel
theorem dX11_bad_17 : decode mX11_bad.2.1 17 = .ok (.putfield 107, 3) := by decide +kernel
theorem dX11_bad_20 : decode mX11_bad.2.1 20 = .ok (.return_, 1) := by decide +kernel
def fX11_bad_20 (p1 : Int32) (σ : gS) : Option (Unit × gS) :=
  some ((), σ)
set_option maxHeartbeats 4000000 in
set_option maxRecDepth 100000 in
theorem pX11_bad_20 {E : gE} {p1 : Int32} {r : Unit} {σ' : gS} {σ : gS} (h : fX11_bad_20 p1 σ = some (r, σ')) : gG E mX11_bad 20 [] [] σ (none) σ' := by
  unfold fX11_bad_20 at h
  obtain ⟨rfl, rfl⟩ := so_inj h
  exact g_vret dX11_bad_20 rfl
def fX11_bad (p1 : Int32) (σ : gS) : Option (Unit × gS) :=
  if (σ.1 168 49) = 0 then
    bnd (gsI σ 168 49 p1) fun σ2 =>
    bnd (gsI σ2 168 50 (σ2.1 168 46)) fun σ3 =>
    fX11_bad_20 p1 σ3
  else
    fX11_bad_20 p1 σ
set_option maxHeartbeats 4000000 in
set_option maxRecDepth 100000 in
theorem pX11_bad {E : gE} {p1 : Int32} {r : Unit} {σ' : gS} {σ : gS} (h : fX11_bad p1 σ = some (r, σ')) : gG E mX11_bad 0 [(0, .ref 168), (1, .int p1)] [] σ (none) σ' := by
  unfold fX11_bad at h
  refine g_aload_n dX11_bad_0 rfl 0 rfl ?_
  refine g_getI dX11_bad_1 gi_168 rfl fl_RX11_279 ?_
  refine g_if_ne (t := 20) dX11_bad_4 (by decide) (fun c1 => ?_) (fun c1 => ?_)
  · replace h := if_f h c1
    refine g_sub [] rfl ?_
    exact pX11_bad_20 h
  · replace h := if_t h c1
    refine g_aload_n dX11_bad_7 rfl 0 rfl ?_
    refine g_iload_n dX11_bad_8 rfl 1 rfl ?_
    obtain ⟨σ2, eσ2, h⟩ := bnd_nm h
    refine g_putI dX11_bad_9 gi_168 rfl fp_RX11_279 (g_st eσ2 ?_)
    refine g_aload_n dX11_bad_12 rfl 0 rfl ?_
    refine g_aload_n dX11_bad_13 rfl 0 rfl ?_
    refine g_getI dX11_bad_14 gi_168 rfl fl_RX11_250 ?_
    obtain ⟨σ3, eσ3, h⟩ := bnd_nm h
    refine g_putI dX11_bad_17 gi_168 rfl fp_RX11_107 (g_st eσ3 ?_)
    refine g_sub [] rfl ?_
    exact pX11_bad_20 h
theorem zX11_bad {E : gE} {p1 : Int32} {r : Unit} {σ σ' : gS} (h : fX11_bad p1 σ = some (r, σ')) : gC E mX11_bad [.ref 168, .int p1] σ (none) σ' :=
  gC_of (by decide +kernel) rfl (Nat.le_of_ble_eq_true rfl) (pX11_bad h)

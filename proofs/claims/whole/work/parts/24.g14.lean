def mX11_mass : gM := (yX11_mass, cX11_mass, RX11, 4, (some .int), 1, 27)
theorem dX11_mass_0 : decode mX11_mass.2.1 0 = .ok (.aload_n 0, 1) := by decide +kernel
theorem dX11_mass_1 : decode mX11_mass.2.1 1 = .ok (.getfield 48, 3) := by decide +kernel
theorem dX11_mass_4 : decode mX11_mass.2.1 4 = .ok (.iload_n 1, 1) := by decide +kernel
theorem dX11_mass_5 : decode mX11_mass.2.1 5 = .ok (.iaload, 1) := by decide +kernel
theorem dX11_mass_6 : decode mX11_mass.2.1 6 = .ok (.istore_n 2, 1) := by decide +kernel
theorem dX11_mass_7 : decode mX11_mass.2.1 7 = .ok (.aload_n 0, 1) := by decide +kernel
theorem dX11_mass_8 : decode mX11_mass.2.1 8 = .ok (.getfield 51, 3) := by decide +kernel
theorem dX11_mass_11 : decode mX11_mass.2.1 11 = .ok (.iload_n 1, 1) := by decide +kernel
theorem dX11_mass_12 : decode mX11_mass.2.1 12 = .ok (.iaload, 1) := by decide +kernel
theorem dX11_mass_13 : decode mX11_mass.2.1 13 = .ok (.istore_n 3, 1) := by decide +kernel
theorem dX11_mass_14 : decode mX11_mass.2.1 14 = .ok (.iload_n 2, 1) := by decide +kernel
theorem dX11_mass_15 : decode mX11_mass.2.1 15 = .ok (.iconst 2, 1) := by decide +kernel
theorem dX11_mass_16 : decode mX11_mass.2.1 16 = .ok (.if_icmp .ne 65, 3) := by decide +kernel
theorem dX11_mass_19 : decode mX11_mass.2.1 19 = .ok (.aload_n 0, 1) := by decide +kernel
theorem dX11_mass_20 : decode mX11_mass.2.1 20 = .ok (.bipush 21, 2) := by decide +kernel
theorem dX11_mass_22 : decode mX11_mass.2.1 22 = .ok (.invokevirtual 551, 3) := by decide +kernel
theorem dX11_mass_25 : decode mX11_mass.2.1 25 = .ok (.aload_n 0, 1) := by decide +kernel
theorem dX11_mass_26 : decode mX11_mass.2.1 26 = .ok (.getfield 13, 3) := by decide +kernel
theorem dX11_mass_29 : decode mX11_mass.2.1 29 = .ok (.aload_n 0, 1) := by decide +kernel
theorem dX11_mass_30 : decode mX11_mass.2.1 30 = .ok (.getfield 33, 3) := by decide +kernel
theorem dX11_mass_33 : decode mX11_mass.2.1 33 = .ok (.iload_n 3, 1) := by decide +kernel
theorem dX11_mass_34 : decode mX11_mass.2.1 34 = .ok (.iaload, 1) := by decide +kernel
theorem dX11_mass_35 : decode mX11_mass.2.1 35 = .ok (.iaload, 1) := by decide +kernel
theorem dX11_mass_36 : decode mX11_mass.2.1 36 = .ok (.aload_n 0, 1) := by decide +kernel
theorem dX11_mass_37 : decode mX11_mass.2.1 37 = .ok (.getfield 13, 3) := by decide +kernel
theorem dX11_mass_40 : decode mX11_mass.2.1 40 = .ok (.aload_n 0, 1) := by decide +kernel
theorem dX11_mass_41 : decode mX11_mass.2.1 41 = .ok (.getfield 36, 3) := by decide +kernel
theorem dX11_mass_44 : decode mX11_mass.2.1 44 = .ok (.iload_n 3, 1) := by decide +kernel
theorem dX11_mass_45 : decode mX11_mass.2.1 45 = .ok (.iaload, 1) := by decide +kernel
theorem dX11_mass_46 : decode mX11_mass.2.1 46 = .ok (.iaload, 1) := by decide +kernel
theorem dX11_mass_47 : decode mX11_mass.2.1 47 = .ok (.isub, 1) := by decide +kernel
theorem dX11_mass_48 : decode mX11_mass.2.1 48 = .ok (.i2l, 1) := by decide +kernel
theorem dX11_mass_49 : decode mX11_mass.2.1 49 = .ok (.aload_n 0, 1) := by decide +kernel
theorem dX11_mass_50 : decode mX11_mass.2.1 50 = .ok (.getfield 17, 3) := by decide +kernel
theorem dX11_mass_53 : decode mX11_mass.2.1 53 = .ok (.aload_n 0, 1) := by decide +kernel
theorem dX11_mass_54 : decode mX11_mass.2.1 54 = .ok (.getfield 33, 3) := by decide +kernel
theorem dX11_mass_57 : decode mX11_mass.2.1 57 = .ok (.iload_n 3, 1) := by decide +kernel
theorem dX11_mass_58 : decode mX11_mass.2.1 58 = .ok (.iaload, 1) := by decide +kernel
theorem dX11_mass_59 : decode mX11_mass.2.1 59 = .ok (.iaload, 1) := by decide +kernel
theorem dX11_mass_60 : decode mX11_mass.2.1 60 = .ok (.aload_n 0, 1) := by decide +kernel
theorem dX11_mass_61 : decode mX11_mass.2.1 61 = .ok (.getfield 17, 3) := by decide +kernel
theorem dX11_mass_64 : decode mX11_mass.2.1 64 = .ok (.aload_n 0, 1) := by decide +kernel
theorem dX11_mass_65 : decode mX11_mass.2.1 65 = .ok (.getfield 36, 3) := by decide +kernel
theorem dX11_mass_68 : decode mX11_mass.2.1 68 = .ok (.iload_n 3, 1) := by decide +kernel
theorem dX11_mass_69 : decode mX11_mass.2.1 69 = .ok (.iaload, 1) := by decide +kernel
theorem dX11_mass_70 : decode mX11_mass.2.1 70 = .ok (.iaload, 1) := by decide +kernel
theorem dX11_mass_71 : decode mX11_mass.2.1 71 = .ok (.isub, 1) := by decide +kernel
theorem dX11_mass_72 : decode mX11_mass.2.1 72 = .ok (.i2l, 1) := by decide +kernel
theorem dX11_mass_73 : decode mX11_mass.2.1 73 = .ok (.invokestatic 486, 3) := by decide +kernel
theorem dX11_mass_76 : decode mX11_mass.2.1 76 = .ok (.invokestatic 500, 3) := by decide +kernel
theorem dX11_mass_79 : decode mX11_mass.2.1 79 = .ok (.l2i, 1) := by decide +kernel
theorem dX11_mass_80 : decode mX11_mass.2.1 80 = .ok (.ireturn, 1) := by decide +kernel
theorem dX11_mass_81 : decode mX11_mass.2.1 81 = .ok (.iload_n 2, 1) := by decide +kernel
theorem dX11_mass_82 : decode mX11_mass.2.1 82 = .ok (.iconst 3, 1) := by decide +kernel
theorem dX11_mass_83 : decode mX11_mass.2.1 83 = .ok (.if_icmp .ne 16, 3) := by decide +kernel
theorem dX11_mass_86 : decode mX11_mass.2.1 86 = .ok (.aload_n 0, 1) := by decide +kernel
theorem dX11_mass_87 : decode mX11_mass.2.1 87 = .ok (.bipush 22, 2) := by decide +kernel
theorem dX11_mass_89 : decode mX11_mass.2.1 89 = .ok (.invokevirtual 551, 3) := by decide +kernel
theorem dX11_mass_92 : decode mX11_mass.2.1 92 = .ok (.aload_n 0, 1) := by decide +kernel
theorem dX11_mass_93 : decode mX11_mass.2.1 93 = .ok (.getfield 30, 3) := by decide +kernel
theorem dX11_mass_96 : decode mX11_mass.2.1 96 = .ok (.iload_n 3, 1) := by decide +kernel
theorem dX11_mass_97 : decode mX11_mass.2.1 97 = .ok (.iaload, 1) := by decide +kernel
theorem dX11_mass_98 : decode mX11_mass.2.1 98 = .ok (.ireturn, 1) := by decide +kernel
theorem dX11_mass_99 : decode mX11_mass.2.1 99 = .ok (.iload_n 2, 1) := by decide +kernel
theorem dX11_mass_100 : decode mX11_mass.2.1 100 = .ok (.iconst 4, 1) := by decide +kernel
theorem dX11_mass_101 : decode mX11_mass.2.1 101 = .ok (.if_icmp .le 9, 3) := by decide +kernel
theorem dX11_mass_104 : decode mX11_mass.2.1 104 = .ok (.aload_n 0, 1) := by decide +kernel
theorem dX11_mass_105 : decode mX11_mass.2.1 105 = .ok (.bipush 23, 2) := by decide +kernel
theorem dX11_mass_107 : decode mX11_mass.2.1 107 = .ok (.invokevirtual 551, 3) := by decide +kernel
theorem dX11_mass_110 : decode mX11_mass.2.1 110 = .ok (.aload_n 0, 1) := by decide +kernel
theorem dX11_mass_111 : decode mX11_mass.2.1 111 = .ok (.bipush 20, 2) := by decide +kernel
theorem dX11_mass_113 : decode mX11_mass.2.1 113 = .ok (.invokevirtual 551, 3) := by decide +kernel
theorem dX11_mass_116 : decode mX11_mass.2.1 116 = .ok (.iload_n 2, 1) := by decide +kernel
theorem dX11_mass_117 : decode mX11_mass.2.1 117 = .ok (.iconst 4, 1) := by decide +kernel
theorem dX11_mass_118 : decode mX11_mass.2.1 118 = .ok (.if_icmp .le 8, 3) := by decide +kernel
theorem dX11_mass_121 : decode mX11_mass.2.1 121 = .ok (.bipush 6, 2) := by decide +kernel
theorem dX11_mass_123 : decode mX11_mass.2.1 123 = .ok (.goto 4, 3) := by decide +kernel
theorem dX11_mass_126 : decode mX11_mass.2.1 126 = .ok (.iconst 1, 1) := by decide +kernel
theorem dX11_mass_127 : decode mX11_mass.2.1 127 = .ok (.ireturn, 1) := by decide +kernel
theorem okX11_mass_551 : gOkV mX11_mass mX11_begins 551 1 := ⟨List.forall_mem_cons.mpr ⟨(gm 1858 (by decide +kernel) rfl), List.forall_mem_cons.mpr ⟨(gm 1855 (by decide +kernel) rfl), List.forall_mem_cons.mpr ⟨(gm 1857 (by decide +kernel) rfl), List.forall_mem_cons.mpr ⟨(gm 101 (by decide +kernel) rfl), List.forall_mem_cons.mpr ⟨(gm 122 (by decide +kernel) rfl), fun _ h => absurd h List.not_mem_nil⟩⟩⟩⟩⟩, by decide +kernel, by decide +kernel, by decide +kernel⟩
theorem okX11_mass_486 : gOkS mX11_mass mX11_square 486 2 := ⟨List.forall_mem_cons.mpr ⟨(gm 1764 (by decide +kernel) rfl), List.forall_mem_cons.mpr ⟨(gm 1762 (by decide +kernel) rfl), List.forall_mem_cons.mpr ⟨(gm 1763 (by decide +kernel) rfl), List.forall_mem_cons.mpr ⟨(gm 122 (by decide +kernel) rfl), fun _ h => absurd h List.not_mem_nil⟩⟩⟩⟩, by decide +kernel, by decide +kernel, by decide +kernel⟩
theorem okX11_mass_500 : gOkS mX11_mass mX11_root 500 1 := ⟨List.forall_mem_cons.mpr ⟨(gm 1774 (by decide +kernel) rfl), List.forall_mem_cons.mpr ⟨(gm 1772 (by decide +kernel) rfl), List.forall_mem_cons.mpr ⟨(gm 1773 (by decide +kernel) rfl), List.forall_mem_cons.mpr ⟨(gm 122 (by decide +kernel) rfl), fun _ h => absurd h List.not_mem_nil⟩⟩⟩⟩, by decide +kernel, by decide +kernel, by decide +kernel⟩
def fX11_mass_127 (p1 : Int32) (s0 : Int32) (σ : gS) : Option (Int32 × gS) :=
  some (s0, σ)
set_option maxHeartbeats 4000000 in
set_option maxRecDepth 100000 in
theorem pX11_mass_127 {E : gE} {p1 : Int32} {r : Int32} {σ' : gS} {s0 : Int32} {σ : gS} (h : fX11_mass_127 p1 s0 σ = some (r, σ')) : gG E mX11_mass 127 [] [.int s0] σ (some (.int r)) σ' := by
  unfold fX11_mass_127 at h
  obtain ⟨rfl, rfl⟩ := so_inj h
  exact g_iret dX11_mass_127 rfl
def fX11_mass_110 (p1 : Int32) (v2 : Int32) (σ : gS) : Option (Int32 × gS) :=
  bd (fX11_begins 20 σ) fun _ σ1 =>
  if v2 ≤ 4 then
    fX11_mass_127 p1 1 σ1
  else
    fX11_mass_127 p1 6 σ1
set_option maxHeartbeats 4000000 in
set_option maxRecDepth 100000 in
theorem pX11_mass_110 {E : gE} {p1 : Int32} {r : Int32} {σ' : gS} {v2 : Int32} {σ : gS} (h : fX11_mass_110 p1 v2 σ = some (r, σ')) : gG E mX11_mass 110 [(0, .ref 168), (2, .int v2)] [] σ (some (.int r)) σ' := by
  unfold fX11_mass_110 at h
  refine g_aload_n dX11_mass_110 rfl 0 rfl ?_
  refine g_bipush (v := 20) dX11_mass_111 (by decide) ?_
  obtain ⟨_, σ1, y2, h⟩ := bd_some h
  refine g_callVv (as := [.int 20]) (st := []) (zX11_begins y2) dX11_mass_113 gi_168 rfl okX11_mass_551 (Nat.le_of_ble_eq_true rfl) ?_
  refine g_iload_n dX11_mass_116 rfl 1 rfl ?_
  refine g_iconst (v := 4) dX11_mass_117 (by decide) ?_
  refine g_icmp_le (t := 126) dX11_mass_118 (by decide) (fun c3 => ?_) (fun c3 => ?_)
  · replace h := if_t h c3
    refine g_iconst (v := 1) dX11_mass_126 (by decide) ?_
    refine g_sub [] rfl ?_
    exact pX11_mass_127 h
  · replace h := if_f h c3
    refine g_bipush (v := 6) dX11_mass_121 (by decide) ?_
    refine g_goto (t := 127) dX11_mass_123 (by decide) ?_
    refine g_sub [] rfl ?_
    exact pX11_mass_127 h
def fX11_mass (p1 : Int32) (σ : gS) : Option (Int32 × gS) :=
  gg (¬ (p1 < 0 ∨ 130 ≤ p1.toNatClampNeg)) (
  gg (¬ (p1 < 0 ∨ 130 ≤ p1.toNatClampNeg)) (
  if (σ.1 181 p1.toNatClampNeg) = 2 then
    bd (fX11_begins 21 σ) fun _ σ11 =>
    gg (¬ (σ.1 182 p1.toNatClampNeg < 0 ∨ 60 ≤ (σ.1 182 p1.toNatClampNeg).toNatClampNeg)) (
    gg (¬ (σ11.1 176 ((σ.1 182 p1.toNatClampNeg).toNatClampNeg) < 0 ∨ 24 ≤ (σ11.1 176 ((σ.1 182 p1.toNatClampNeg).toNatClampNeg)).toNatClampNeg)) (
    gg (¬ (σ.1 182 p1.toNatClampNeg < 0 ∨ 60 ≤ (σ.1 182 p1.toNatClampNeg).toNatClampNeg)) (
    gg (¬ (σ11.1 177 ((σ.1 182 p1.toNatClampNeg).toNatClampNeg) < 0 ∨ 24 ≤ (σ11.1 177 ((σ.1 182 p1.toNatClampNeg).toNatClampNeg)).toNatClampNeg)) (
    gg (¬ (σ.1 182 p1.toNatClampNeg < 0 ∨ 60 ≤ (σ.1 182 p1.toNatClampNeg).toNatClampNeg)) (
    gg (¬ (σ11.1 176 ((σ.1 182 p1.toNatClampNeg).toNatClampNeg) < 0 ∨ 24 ≤ (σ11.1 176 ((σ.1 182 p1.toNatClampNeg).toNatClampNeg)).toNatClampNeg)) (
    gg (¬ (σ.1 182 p1.toNatClampNeg < 0 ∨ 60 ≤ (σ.1 182 p1.toNatClampNeg).toNatClampNeg)) (
    gg (¬ (σ11.1 177 ((σ.1 182 p1.toNatClampNeg).toNatClampNeg) < 0 ∨ 24 ≤ (σ11.1 177 ((σ.1 182 p1.toNatClampNeg).toNatClampNeg)).toNatClampNeg)) (
    bd (fX11_square (((σ11.1 170 ((σ11.1 176 ((σ.1 182 p1.toNatClampNeg).toNatClampNeg)).toNatClampNeg)) - (σ11.1 170 ((σ11.1 177 ((σ.1 182 p1.toNatClampNeg).toNatClampNeg)).toNatClampNeg))).toInt64) (((σ11.1 171 ((σ11.1 176 ((σ.1 182 p1.toNatClampNeg).toNatClampNeg)).toNatClampNeg)) - (σ11.1 171 ((σ11.1 177 ((σ.1 182 p1.toNatClampNeg).toNatClampNeg)).toNatClampNeg))).toInt64) σ11) fun x21 σ22 =>
    bd (fX11_root x21 σ22) fun x24 σ25 =>
    some (x24.toInt32, σ25)))))))))
  else
    if (σ.1 181 p1.toNatClampNeg) = 3 then
      bd (fX11_begins 22 σ) fun _ σ8 =>
      gg (¬ (σ.1 182 p1.toNatClampNeg < 0 ∨ 16 ≤ (σ.1 182 p1.toNatClampNeg).toNatClampNeg)) (
      some (σ8.1 175 ((σ.1 182 p1.toNatClampNeg).toNatClampNeg), σ8))
    else
      if (σ.1 181 p1.toNatClampNeg) ≤ 4 then
        fX11_mass_110 p1 (σ.1 181 p1.toNatClampNeg) σ
      else
        bd (fX11_begins 23 σ) fun _ σ6 =>
        fX11_mass_110 p1 (σ.1 181 p1.toNatClampNeg) σ6))
set_option maxHeartbeats 4000000 in
set_option maxRecDepth 100000 in
theorem pX11_mass {E : gE} {p1 : Int32} {r : Int32} {σ' : gS} {σ : gS} (h : fX11_mass p1 σ = some (r, σ')) : gG E mX11_mass 0 [(0, .ref 168), (1, .int p1)] [] σ (some (.int r)) σ' := by
  unfold fX11_mass at h
  refine g_aload_n dX11_mass_0 rfl 0 rfl ?_
  refine g_getC (n := 181) dX11_mass_1 gi_168 rfl fl_RX11_48 ?_
  refine g_iload_n dX11_mass_4 rfl 1 rfl ?_
  obtain ⟨g1, h⟩ := gg_some h
  refine g_iald dX11_mass_5 gi_181 g1 ?_
  refine g_istore_n (lv' := [(2, .int (σ.1 181 p1.toNatClampNeg)), (0, .ref 168), (1, .int p1)]) dX11_mass_6 rfl (Nat.le_of_ble_eq_true rfl) rfl ?_
  refine g_aload_n dX11_mass_7 rfl 1 rfl ?_
  refine g_getC (n := 182) dX11_mass_8 gi_168 rfl fl_RX11_51 ?_
  refine g_iload_n dX11_mass_11 rfl 2 rfl ?_
  obtain ⟨g2, h⟩ := gg_some h
  refine g_iald dX11_mass_12 gi_182 g2 ?_
  refine g_istore_n (lv' := [(3, .int (σ.1 182 p1.toNatClampNeg)), (2, .int (σ.1 181 p1.toNatClampNeg)), (0, .ref 168), (1, .int p1)]) dX11_mass_13 rfl (Nat.le_of_ble_eq_true rfl) rfl ?_
  refine g_iload_n dX11_mass_14 rfl 1 rfl ?_
  refine g_iconst (v := 2) dX11_mass_15 (by decide) ?_
  refine g_icmp_ne (t := 81) dX11_mass_16 (by decide) (fun c3 => ?_) (fun c3 => ?_)
  · replace h := if_f h c3
    refine g_iload_n dX11_mass_81 rfl 1 rfl ?_
    refine g_iconst (v := 3) dX11_mass_82 (by decide) ?_
    refine g_icmp_ne (t := 99) dX11_mass_83 (by decide) (fun c4 => ?_) (fun c4 => ?_)
    · replace h := if_f h c4
      refine g_iload_n dX11_mass_99 rfl 1 rfl ?_
      refine g_iconst (v := 4) dX11_mass_100 (by decide) ?_
      refine g_icmp_le (t := 110) dX11_mass_101 (by decide) (fun c5 => ?_) (fun c5 => ?_)
      · replace h := if_t h c5
        refine g_sub [2, 1] rfl ?_
        exact pX11_mass_110 h
      · replace h := if_f h c5
        refine g_aload_n dX11_mass_104 rfl 2 rfl ?_
        refine g_bipush (v := 23) dX11_mass_105 (by decide) ?_
        obtain ⟨_, σ6, y7, h⟩ := bd_some h
        refine g_callVv (as := [.int 23]) (st := []) (zX11_begins y7) dX11_mass_107 gi_168 rfl okX11_mass_551 (Nat.le_of_ble_eq_true rfl) ?_
        refine g_sub [2, 1] rfl ?_
        exact pX11_mass_110 h
    · replace h := if_t h c4
      refine g_aload_n dX11_mass_86 rfl 2 rfl ?_
      refine g_bipush (v := 22) dX11_mass_87 (by decide) ?_
      obtain ⟨_, σ8, y9, h⟩ := bd_some h
      refine g_callVv (as := [.int 22]) (st := []) (zX11_begins y9) dX11_mass_89 gi_168 rfl okX11_mass_551 (Nat.le_of_ble_eq_true rfl) ?_
      refine g_aload_n dX11_mass_92 rfl 2 rfl ?_
      refine g_getC (n := 175) dX11_mass_93 gi_168 rfl fl_RX11_30 ?_
      refine g_iload_n dX11_mass_96 rfl 0 rfl ?_
      obtain ⟨g10, h⟩ := gg_some h
      refine g_iald dX11_mass_97 gi_175 g10 ?_
      obtain ⟨rfl, rfl⟩ := so_inj h
      exact g_iret dX11_mass_98 rfl
  · replace h := if_t h c3
    refine g_aload_n dX11_mass_19 rfl 2 rfl ?_
    refine g_bipush (v := 21) dX11_mass_20 (by decide) ?_
    obtain ⟨_, σ11, y12, h⟩ := bd_some h
    refine g_callVv (as := [.int 21]) (st := []) (zX11_begins y12) dX11_mass_22 gi_168 rfl okX11_mass_551 (Nat.le_of_ble_eq_true rfl) ?_
    refine g_aload_n dX11_mass_25 rfl 2 rfl ?_
    refine g_getC (n := 170) dX11_mass_26 gi_168 rfl fl_RX11_13 ?_
    refine g_aload_n dX11_mass_29 rfl 2 rfl ?_
    refine g_getC (n := 176) dX11_mass_30 gi_168 rfl fl_RX11_33 ?_
    refine g_iload_n dX11_mass_33 rfl 0 rfl ?_
    obtain ⟨g13, h⟩ := gg_some h
    refine g_iald dX11_mass_34 gi_176 g13 ?_
    obtain ⟨g14, h⟩ := gg_some h
    refine g_iald dX11_mass_35 gi_170 g14 ?_
    refine g_aload_n dX11_mass_36 rfl 2 rfl ?_
    refine g_getC (n := 170) dX11_mass_37 gi_168 rfl fl_RX11_13 ?_
    refine g_aload_n dX11_mass_40 rfl 2 rfl ?_
    refine g_getC (n := 177) dX11_mass_41 gi_168 rfl fl_RX11_36 ?_
    refine g_iload_n dX11_mass_44 rfl 0 rfl ?_
    obtain ⟨g15, h⟩ := gg_some h
    refine g_iald dX11_mass_45 gi_177 g15 ?_
    obtain ⟨g16, h⟩ := gg_some h
    refine g_iald dX11_mass_46 gi_170 g16 ?_
    refine g_isub dX11_mass_47 ?_
    refine g_i2l dX11_mass_48 ?_
    refine g_aload_n dX11_mass_49 rfl 2 rfl ?_
    refine g_getC (n := 171) dX11_mass_50 gi_168 rfl fl_RX11_17 ?_
    refine g_aload_n dX11_mass_53 rfl 2 rfl ?_
    refine g_getC (n := 176) dX11_mass_54 gi_168 rfl fl_RX11_33 ?_
    refine g_iload_n dX11_mass_57 rfl 0 rfl ?_
    obtain ⟨g17, h⟩ := gg_some h
    refine g_iald dX11_mass_58 gi_176 g17 ?_
    obtain ⟨g18, h⟩ := gg_some h
    refine g_iald dX11_mass_59 gi_171 g18 ?_
    refine g_aload_n dX11_mass_60 rfl 2 rfl ?_
    refine g_getC (n := 171) dX11_mass_61 gi_168 rfl fl_RX11_17 ?_
    refine g_aload_n dX11_mass_64 rfl 2 rfl ?_
    refine g_getC (n := 177) dX11_mass_65 gi_168 rfl fl_RX11_36 ?_
    refine g_iload_n dX11_mass_68 rfl 0 rfl ?_
    obtain ⟨g19, h⟩ := gg_some h
    refine g_iald dX11_mass_69 gi_177 g19 ?_
    obtain ⟨g20, h⟩ := gg_some h
    refine g_iald dX11_mass_70 gi_171 g20 ?_
    refine g_isub dX11_mass_71 ?_
    refine g_i2l dX11_mass_72 ?_
    obtain ⟨x21, σ22, y23, h⟩ := bd_some h
    refine g_callSr (as := [.long (((σ11.1 170 ((σ11.1 176 ((σ.1 182 p1.toNatClampNeg).toNatClampNeg)).toNatClampNeg)) - (σ11.1 170 ((σ11.1 177 ((σ.1 182 p1.toNatClampNeg).toNatClampNeg)).toNatClampNeg))).toInt64), .long (((σ11.1 171 ((σ11.1 176 ((σ.1 182 p1.toNatClampNeg).toNatClampNeg)).toNatClampNeg)) - (σ11.1 171 ((σ11.1 177 ((σ.1 182 p1.toNatClampNeg).toNatClampNeg)).toNatClampNeg))).toInt64)]) (st := []) (zX11_square y23) dX11_mass_73 okX11_mass_486 (Nat.le_of_ble_eq_true rfl) ?_
    obtain ⟨x24, σ25, y26, h⟩ := bd_some h
    refine g_callSr (as := [.long x21]) (st := []) (zX11_root y26) dX11_mass_76 okX11_mass_500 (Nat.le_of_ble_eq_true rfl) ?_
    refine g_l2i dX11_mass_79 ?_
    obtain ⟨rfl, rfl⟩ := so_inj h
    exact g_iret dX11_mass_80 rfl
theorem zX11_mass {E : gE} {p1 : Int32} {r : Int32} {σ σ' : gS} (h : fX11_mass p1 σ = some (r, σ')) : gC E mX11_mass [.ref 168, .int p1] σ (some (.int r)) σ' :=
  gC_of (by decide +kernel) rfl (Nat.le_of_ble_eq_true rfl) (pX11_mass h)
def mX11_loss : gM := (yX11_loss, cX11_loss, RX11, 5, (some .int), 2, 50)
theorem dX11_loss_0 : decode mX11_loss.2.1 0 = .ok (.aload_n 0, 1) := by decide +kernel
theorem dX11_loss_1 : decode mX11_loss.2.1 1 = .ok (.getfield 48, 3) := by decide +kernel
theorem dX11_loss_4 : decode mX11_loss.2.1 4 = .ok (.iload_n 1, 1) := by decide +kernel
theorem dX11_loss_5 : decode mX11_loss.2.1 5 = .ok (.iaload, 1) := by decide +kernel
theorem dX11_loss_6 : decode mX11_loss.2.1 6 = .ok (.istore_n 2, 1) := by decide +kernel
theorem dX11_loss_7 : decode mX11_loss.2.1 7 = .ok (.iload_n 2, 1) := by decide +kernel
theorem dX11_loss_8 : decode mX11_loss.2.1 8 = .ok (.bipush 6, 2) := by decide +kernel
theorem dX11_loss_10 : decode mX11_loss.2.1 10 = .ok (.if_icmp .ne 24, 3) := by decide +kernel
theorem dX11_loss_13 : decode mX11_loss.2.1 13 = .ok (.aload_n 0, 1) := by decide +kernel
theorem dX11_loss_14 : decode mX11_loss.2.1 14 = .ok (.bipush 32, 2) := by decide +kernel
theorem dX11_loss_16 : decode mX11_loss.2.1 16 = .ok (.invokevirtual 551, 3) := by decide +kernel
theorem dX11_loss_19 : decode mX11_loss.2.1 19 = .ok (.aload_n 0, 1) := by decide +kernel
theorem dX11_loss_20 : decode mX11_loss.2.1 20 = .ok (.bipush 23, 2) := by decide +kernel
theorem dX11_loss_22 : decode mX11_loss.2.1 22 = .ok (.invokevirtual 551, 3) := by decide +kernel
theorem dX11_loss_25 : decode mX11_loss.2.1 25 = .ok (.aload_n 0, 1) := by decide +kernel
theorem dX11_loss_26 : decode mX11_loss.2.1 26 = .ok (.bipush 20, 2) := by decide +kernel
theorem dX11_loss_28 : decode mX11_loss.2.1 28 = .ok (.invokevirtual 551, 3) := by decide +kernel
theorem dX11_loss_31 : decode mX11_loss.2.1 31 = .ok (.bipush 18, 2) := by decide +kernel
theorem dX11_loss_33 : decode mX11_loss.2.1 33 = .ok (.ireturn, 1) := by decide +kernel
theorem dX11_loss_34 : decode mX11_loss.2.1 34 = .ok (.iconst 0, 1) := by decide +kernel
theorem dX11_loss_35 : decode mX11_loss.2.1 35 = .ok (.istore_n 3, 1) := by decide +kernel
theorem dX11_loss_36 : decode mX11_loss.2.1 36 = .ok (.iload_n 2, 1) := by decide +kernel
theorem dX11_loss_37 : decode mX11_loss.2.1 37 = .ok (.iconst 1, 1) := by decide +kernel
theorem dX11_loss_38 : decode mX11_loss.2.1 38 = .ok (.if_icmp .ne 15, 3) := by decide +kernel
theorem dX11_loss_41 : decode mX11_loss.2.1 41 = .ok (.aload_n 0, 1) := by decide +kernel
theorem dX11_loss_42 : decode mX11_loss.2.1 42 = .ok (.bipush 31, 2) := by decide +kernel
theorem dX11_loss_44 : decode mX11_loss.2.1 44 = .ok (.invokevirtual 551, 3) := by decide +kernel
theorem dX11_loss_47 : decode mX11_loss.2.1 47 = .ok (.aload_n 0, 1) := by decide +kernel
theorem dX11_loss_48 : decode mX11_loss.2.1 48 = .ok (.iload_n 1, 1) := by decide +kernel
theorem dX11_loss_49 : decode mX11_loss.2.1 49 = .ok (.invokevirtual 554, 3) := by decide +kernel
theorem dX11_loss_52 : decode mX11_loss.2.1 52 = .ok (.istore_n 3, 1) := by decide +kernel
theorem dX11_loss_53 : decode mX11_loss.2.1 53 = .ok (.aload_n 0, 1) := by decide +kernel
theorem dX11_loss_54 : decode mX11_loss.2.1 54 = .ok (.bipush 30, 2) := by decide +kernel
theorem dX11_loss_56 : decode mX11_loss.2.1 56 = .ok (.invokevirtual 551, 3) := by decide +kernel
theorem dX11_loss_59 : decode mX11_loss.2.1 59 = .ok (.aload_n 0, 1) := by decide +kernel
theorem dX11_loss_60 : decode mX11_loss.2.1 60 = .ok (.iload_n 2, 1) := by decide +kernel
theorem dX11_loss_61 : decode mX11_loss.2.1 61 = .ok (.invokevirtual 557, 3) := by decide +kernel
theorem dX11_loss_64 : decode mX11_loss.2.1 64 = .ok (.istore 4, 2) := by decide +kernel
theorem dX11_loss_66 : decode mX11_loss.2.1 66 = .ok (.iload 4, 2) := by decide +kernel
theorem dX11_loss_68 : decode mX11_loss.2.1 68 = .ok (.ifCond .ne 11, 3) := by decide +kernel
theorem dX11_loss_71 : decode mX11_loss.2.1 71 = .ok (.aload_n 0, 1) := by decide +kernel
theorem dX11_loss_72 : decode mX11_loss.2.1 72 = .ok (.iconst 5, 1) := by decide +kernel
theorem dX11_loss_73 : decode mX11_loss.2.1 73 = .ok (.invokevirtual 560, 3) := by decide +kernel
theorem dX11_loss_76 : decode mX11_loss.2.1 76 = .ok (.goto 11, 3) := by decide +kernel
theorem dX11_loss_79 : decode mX11_loss.2.1 79 = .ok (.sipush 1000, 3) := by decide +kernel
theorem dX11_loss_82 : decode mX11_loss.2.1 82 = .ok (.iload 4, 2) := by decide +kernel
theorem dX11_loss_84 : decode mX11_loss.2.1 84 = .ok (.idiv, 1) := by decide +kernel
theorem dX11_loss_85 : decode mX11_loss.2.1 85 = .ok (.iload_n 3, 1) := by decide +kernel
theorem dX11_loss_86 : decode mX11_loss.2.1 86 = .ok (.iadd, 1) := by decide +kernel
theorem dX11_loss_87 : decode mX11_loss.2.1 87 = .ok (.ireturn, 1) := by decide +kernel
theorem okX11_loss_551 : gOkV mX11_loss mX11_begins 551 1 := ⟨List.forall_mem_cons.mpr ⟨(gm 1858 (by decide +kernel) rfl), List.forall_mem_cons.mpr ⟨(gm 1855 (by decide +kernel) rfl), List.forall_mem_cons.mpr ⟨(gm 1857 (by decide +kernel) rfl), List.forall_mem_cons.mpr ⟨(gm 101 (by decide +kernel) rfl), List.forall_mem_cons.mpr ⟨(gm 122 (by decide +kernel) rfl), fun _ h => absurd h List.not_mem_nil⟩⟩⟩⟩⟩, by decide +kernel, by decide +kernel, by decide +kernel⟩
theorem okX11_loss_557 : gOkV mX11_loss mX11_freedom 557 1 := ⟨List.forall_mem_cons.mpr ⟨(gm 1854 (by decide +kernel) rfl), List.forall_mem_cons.mpr ⟨(gm 1851 (by decide +kernel) rfl), List.forall_mem_cons.mpr ⟨(gm 1853 (by decide +kernel) rfl), List.forall_mem_cons.mpr ⟨(gm 100 (by decide +kernel) rfl), List.forall_mem_cons.mpr ⟨(gm 122 (by decide +kernel) rfl), fun _ h => absurd h List.not_mem_nil⟩⟩⟩⟩⟩, by decide +kernel, by decide +kernel, by decide +kernel⟩
theorem okX11_loss_560 : gOkV mX11_loss mX11_finds 560 1 := ⟨List.forall_mem_cons.mpr ⟨(gm 1870 (by decide +kernel) rfl), List.forall_mem_cons.mpr ⟨(gm 1867 (by decide +kernel) rfl), List.forall_mem_cons.mpr ⟨(gm 1869 (by decide +kernel) rfl), List.forall_mem_cons.mpr ⟨(gm 104 (by decide +kernel) rfl), List.forall_mem_cons.mpr ⟨(gm 122 (by decide +kernel) rfl), fun _ h => absurd h List.not_mem_nil⟩⟩⟩⟩⟩, by decide +kernel, by decide +kernel, by decide +kernel⟩
theorem okX11_loss_554 : gOkV mX11_loss mX11_mass 554 1 := ⟨List.forall_mem_cons.mpr ⟨(gm 1862 (by decide +kernel) rfl), List.forall_mem_cons.mpr ⟨(gm 1859 (by decide +kernel) rfl), List.forall_mem_cons.mpr ⟨(gm 1861 (by decide +kernel) rfl), List.forall_mem_cons.mpr ⟨(gm 102 (by decide +kernel) rfl), List.forall_mem_cons.mpr ⟨(gm 122 (by decide +kernel) rfl), fun _ h => absurd h List.not_mem_nil⟩⟩⟩⟩⟩, by decide +kernel, by decide +kernel, by decide +kernel⟩
def fX11_loss_87 (p1 : Int32) (s0 : Int32) (σ : gS) : Option (Int32 × gS) :=
  some (s0, σ)
set_option maxHeartbeats 4000000 in
set_option maxRecDepth 100000 in
theorem pX11_loss_87 {E : gE} {p1 : Int32} {r : Int32} {σ' : gS} {s0 : Int32} {σ : gS} (h : fX11_loss_87 p1 s0 σ = some (r, σ')) : gG E mX11_loss 87 [] [.int s0] σ (some (.int r)) σ' := by
  unfold fX11_loss_87 at h
  obtain ⟨rfl, rfl⟩ := so_inj h
  exact g_iret dX11_loss_87 rfl
def fX11_loss_53 (p1 : Int32) (v2 : Int32) (v3 : Int32) (σ : gS) : Option (Int32 × gS) :=
  bd (fX11_begins 30 σ) fun _ σ1 =>
  bd (fX11_freedom v2 σ1) fun x3 σ4 =>
  if x3 = 0 then
    bd (fX11_finds 5 σ4) fun x8 σ9 =>
    fX11_loss_87 p1 x8 σ9
  else
    gg (¬ x3 = 0) (
    fX11_loss_87 p1 ((1000 / x3) + v3) σ4)
set_option maxHeartbeats 4000000 in
set_option maxRecDepth 100000 in
theorem pX11_loss_53 {E : gE} {p1 : Int32} {r : Int32} {σ' : gS} {v2 : Int32} {v3 : Int32} {σ : gS} (h : fX11_loss_53 p1 v2 v3 σ = some (r, σ')) : gG E mX11_loss 53 [(0, .ref 168), (2, .int v2), (3, .int v3)] [] σ (some (.int r)) σ' := by
  unfold fX11_loss_53 at h
  refine g_aload_n dX11_loss_53 rfl 0 rfl ?_
  refine g_bipush (v := 30) dX11_loss_54 (by decide) ?_
  obtain ⟨_, σ1, y2, h⟩ := bd_some h
  refine g_callVv (as := [.int 30]) (st := []) (zX11_begins y2) dX11_loss_56 gi_168 rfl okX11_loss_551 (Nat.le_of_ble_eq_true rfl) ?_
  refine g_aload_n dX11_loss_59 rfl 0 rfl ?_
  refine g_iload_n dX11_loss_60 rfl 1 rfl ?_
  obtain ⟨x3, σ4, y5, h⟩ := bd_some h
  refine g_callVr (as := [.int v2]) (st := []) (zX11_freedom y5) dX11_loss_61 gi_168 rfl okX11_loss_557 (Nat.le_of_ble_eq_true rfl) ?_
  refine g_istore (lv' := [(4, .int x3), (0, .ref 168), (2, .int v2), (3, .int v3)]) dX11_loss_64 (Nat.le_of_ble_eq_true rfl) rfl ?_
  refine g_iload dX11_loss_66 0 rfl ?_
  refine g_if_ne (t := 79) dX11_loss_68 (by decide) (fun c6 => ?_) (fun c6 => ?_)
  · replace h := if_f h c6
    refine g_sipush (v := 1000) dX11_loss_79 (by decide) ?_
    refine g_iload dX11_loss_82 0 rfl ?_
    obtain ⟨g7, h⟩ := gg_some h
    refine g_idiv dX11_loss_84 g7 ?_
    refine g_iload_n dX11_loss_85 rfl 3 rfl ?_
    refine g_iadd dX11_loss_86 ?_
    refine g_sub [] rfl ?_
    exact pX11_loss_87 h
  · replace h := if_t h c6
    refine g_aload_n dX11_loss_71 rfl 1 rfl ?_
    refine g_iconst (v := 5) dX11_loss_72 (by decide) ?_
    obtain ⟨x8, σ9, y10, h⟩ := bd_some h
    refine g_callVr (as := [.int 5]) (st := []) (zX11_finds y10) dX11_loss_73 gi_168 rfl okX11_loss_560 (Nat.le_of_ble_eq_true rfl) ?_
    refine g_goto (t := 87) dX11_loss_76 (by decide) ?_
    refine g_sub [] rfl ?_
    exact pX11_loss_87 h
def fX11_loss (p1 : Int32) (σ : gS) : Option (Int32 × gS) :=
  gg (¬ (p1 < 0 ∨ 130 ≤ p1.toNatClampNeg)) (
  if (σ.1 181 p1.toNatClampNeg) = 6 then
    bd (fX11_begins 32 σ) fun _ σ9 =>
    bd (fX11_begins 23 σ9) fun _ σ11 =>
    bd (fX11_begins 20 σ11) fun _ σ13 =>
    some (18, σ13)
  else
    if (σ.1 181 p1.toNatClampNeg) = 1 then
      bd (fX11_begins 31 σ) fun _ σ4 =>
      bd (fX11_mass p1 σ4) fun x6 σ7 =>
      fX11_loss_53 p1 (σ.1 181 p1.toNatClampNeg) x6 σ7
    else
      fX11_loss_53 p1 (σ.1 181 p1.toNatClampNeg) 0 σ)
set_option maxHeartbeats 4000000 in
set_option maxRecDepth 100000 in
theorem pX11_loss {E : gE} {p1 : Int32} {r : Int32} {σ' : gS} {σ : gS} (h : fX11_loss p1 σ = some (r, σ')) : gG E mX11_loss 0 [(0, .ref 168), (1, .int p1)] [] σ (some (.int r)) σ' := by
  unfold fX11_loss at h
  refine g_aload_n dX11_loss_0 rfl 0 rfl ?_
  refine g_getC (n := 181) dX11_loss_1 gi_168 rfl fl_RX11_48 ?_
  refine g_iload_n dX11_loss_4 rfl 1 rfl ?_
  obtain ⟨g1, h⟩ := gg_some h
  refine g_iald dX11_loss_5 gi_181 g1 ?_
  refine g_istore_n (lv' := [(2, .int (σ.1 181 p1.toNatClampNeg)), (0, .ref 168), (1, .int p1)]) dX11_loss_6 rfl (Nat.le_of_ble_eq_true rfl) rfl ?_
  refine g_iload_n dX11_loss_7 rfl 0 rfl ?_
  refine g_bipush (v := 6) dX11_loss_8 (by decide) ?_
  refine g_icmp_ne (t := 34) dX11_loss_10 (by decide) (fun c2 => ?_) (fun c2 => ?_)
  · replace h := if_f h c2
    refine g_iconst (v := 0) dX11_loss_34 (by decide) ?_
    refine g_istore_n (lv' := [(3, .int 0), (2, .int (σ.1 181 p1.toNatClampNeg)), (0, .ref 168), (1, .int p1)]) dX11_loss_35 rfl (Nat.le_of_ble_eq_true rfl) rfl ?_
    refine g_iload_n dX11_loss_36 rfl 1 rfl ?_
    refine g_iconst (v := 1) dX11_loss_37 (by decide) ?_
    refine g_icmp_ne (t := 53) dX11_loss_38 (by decide) (fun c3 => ?_) (fun c3 => ?_)
    · replace h := if_f h c3
      refine g_sub [2, 1, 0] rfl ?_
      exact pX11_loss_53 h
    · replace h := if_t h c3
      refine g_aload_n dX11_loss_41 rfl 2 rfl ?_
      refine g_bipush (v := 31) dX11_loss_42 (by decide) ?_
      obtain ⟨_, σ4, y5, h⟩ := bd_some h
      refine g_callVv (as := [.int 31]) (st := []) (zX11_begins y5) dX11_loss_44 gi_168 rfl okX11_loss_551 (Nat.le_of_ble_eq_true rfl) ?_
      refine g_aload_n dX11_loss_47 rfl 2 rfl ?_
      refine g_iload_n dX11_loss_48 rfl 3 rfl ?_
      obtain ⟨x6, σ7, y8, h⟩ := bd_some h
      refine g_callVr (as := [.int p1]) (st := []) (zX11_mass y8) dX11_loss_49 gi_168 rfl okX11_loss_554 (Nat.le_of_ble_eq_true rfl) ?_
      refine g_istore_n (lv' := [(3, .int x6), (2, .int (σ.1 181 p1.toNatClampNeg)), (0, .ref 168), (1, .int p1)]) dX11_loss_52 rfl (Nat.le_of_ble_eq_true rfl) rfl ?_
      refine g_sub [2, 1, 0] rfl ?_
      exact pX11_loss_53 h
  · replace h := if_t h c2
    refine g_aload_n dX11_loss_13 rfl 1 rfl ?_
    refine g_bipush (v := 32) dX11_loss_14 (by decide) ?_
    obtain ⟨_, σ9, y10, h⟩ := bd_some h
    refine g_callVv (as := [.int 32]) (st := []) (zX11_begins y10) dX11_loss_16 gi_168 rfl okX11_loss_551 (Nat.le_of_ble_eq_true rfl) ?_
    refine g_aload_n dX11_loss_19 rfl 1 rfl ?_
    refine g_bipush (v := 23) dX11_loss_20 (by decide) ?_
    obtain ⟨_, σ11, y12, h⟩ := bd_some h
    refine g_callVv (as := [.int 23]) (st := []) (zX11_begins y12) dX11_loss_22 gi_168 rfl okX11_loss_551 (Nat.le_of_ble_eq_true rfl) ?_
    refine g_aload_n dX11_loss_25 rfl 1 rfl ?_
    refine g_bipush (v := 20) dX11_loss_26 (by decide) ?_
    obtain ⟨_, σ13, y14, h⟩ := bd_some h
    refine g_callVv (as := [.int 20]) (st := []) (zX11_begins y14) dX11_loss_28 gi_168 rfl okX11_loss_551 (Nat.le_of_ble_eq_true rfl) ?_
    refine g_bipush (v := 18) dX11_loss_31 (by decide) ?_
    obtain ⟨rfl, rfl⟩ := so_inj h
    exact g_iret dX11_loss_33 rfl
theorem zX11_loss {E : gE} {p1 : Int32} {r : Int32} {σ σ' : gS} (h : fX11_loss p1 σ = some (r, σ')) : gC E mX11_loss [.ref 168, .int p1] σ (some (.int r)) σ' :=
  gC_of (by decide +kernel) rfl (Nat.le_of_ble_eq_true rfl) (pX11_loss h)
def mX11_isPart : gM := (yX11_isPart, cX11_isPart, RX11, 2, (some .boolean), 1, 25)
theorem dX11_isPart_0 : decode mX11_isPart.2.1 0 = .ok (.iload_n 1, 1) := by decide +kernel
theorem dX11_isPart_1 : decode mX11_isPart.2.1 1 = .ok (.i2l, 1) := by decide +kernel
theorem dX11_isPart_2 : decode mX11_isPart.2.1 2 = .ok (.lconst 0, 1) := by decide +kernel
theorem dX11_isPart_3 : decode mX11_isPart.2.1 3 = .ok (.aload_n 0, 1) := by decide +kernel
theorem dX11_isPart_4 : decode mX11_isPart.2.1 4 = .ok (.getfield 371, 3) := by decide +kernel
theorem dX11_isPart_7 : decode mX11_isPart.2.1 7 = .ok (.iconst 1, 1) := by decide +kernel
theorem dX11_isPart_8 : decode mX11_isPart.2.1 8 = .ok (.isub, 1) := by decide +kernel
theorem dX11_isPart_9 : decode mX11_isPart.2.1 9 = .ok (.i2l, 1) := by decide +kernel
theorem dX11_isPart_10 : decode mX11_isPart.2.1 10 = .ok (.invokestatic 220, 3) := by decide +kernel
theorem dX11_isPart_13 : decode mX11_isPart.2.1 13 = .ok (.ireturn, 1) := by decide +kernel
theorem okX11_isPart_220 : gOkS mX11_isPart mX11_in 220 3 := ⟨List.forall_mem_cons.mpr ⟨(gm 1539 (by decide +kernel) rfl), List.forall_mem_cons.mpr ⟨(gm 1537 (by decide +kernel) rfl), List.forall_mem_cons.mpr ⟨(gm 1538 (by decide +kernel) rfl), List.forall_mem_cons.mpr ⟨(gm 122 (by decide +kernel) rfl), fun _ h => absurd h List.not_mem_nil⟩⟩⟩⟩, by decide +kernel, by decide +kernel, by decide +kernel⟩
def fX11_isPart (p1 : Int32) (σ : gS) : Option (Int32 × gS) :=
  bd (fX11_in p1.toInt64 0 (((σ.1 168 16) - 1).toInt64) σ) fun x1 σ2 =>
  gg (x1 = 0 ∨ x1 = 1) (
  some (x1, σ2))
set_option maxHeartbeats 4000000 in
set_option maxRecDepth 100000 in
theorem pX11_isPart {E : gE} {p1 : Int32} {r : Int32} {σ' : gS} {σ : gS} (h : fX11_isPart p1 σ = some (r, σ')) : gG E mX11_isPart 0 [(0, .ref 168), (1, .int p1)] [] σ (some (.int r)) σ' := by
  unfold fX11_isPart at h
  refine g_iload_n dX11_isPart_0 rfl 1 rfl ?_
  refine g_i2l dX11_isPart_1 ?_
  refine g_lconst (v := 0) dX11_isPart_2 (by decide) ?_
  refine g_aload_n dX11_isPart_3 rfl 0 rfl ?_
  refine g_getI dX11_isPart_4 gi_168 rfl fl_RX11_371 ?_
  refine g_iconst (v := 1) dX11_isPart_7 (by decide) ?_
  refine g_isub dX11_isPart_8 ?_
  refine g_i2l dX11_isPart_9 ?_
  obtain ⟨x1, σ2, y3, h⟩ := bd_some h
  refine g_callSr (as := [.long p1.toInt64, .long 0, .long (((σ.1 168 16) - 1).toInt64)]) (st := []) (zX11_in y3) dX11_isPart_10 okX11_isPart_220 (Nat.le_of_ble_eq_true rfl) ?_
  obtain ⟨g4, h⟩ := gg_some h
  obtain ⟨rfl, rfl⟩ := so_inj h
  exact g_zret dX11_isPart_13 rfl g4
theorem zX11_isPart {E : gE} {p1 : Int32} {r : Int32} {σ σ' : gS} (h : fX11_isPart p1 σ = some (r, σ')) : gC E mX11_isPart [.ref 168, .int p1] σ (some (.int r)) σ' :=
  gC_of (by decide +kernel) rfl (Nat.le_of_ble_eq_true rfl) (pX11_isPart h)
def mX11_ask : gM := (yX11_ask, cX11_ask, RX11, 3, (some .int), 3, 74)
theorem dX11_ask_0 : decode mX11_ask.2.1 0 = .ok (.aload_n 0, 1) := by decide +kernel
theorem dX11_ask_1 : decode mX11_ask.2.1 1 = .ok (.iload_n 1, 1) := by decide +kernel
theorem dX11_ask_2 : decode mX11_ask.2.1 2 = .ok (.invokevirtual 563, 3) := by decide +kernel
theorem dX11_ask_5 : decode mX11_ask.2.1 5 = .ok (.ifCond .eq 15, 3) := by decide +kernel
theorem dX11_ask_8 : decode mX11_ask.2.1 8 = .ok (.iload_n 2, 1) := by decide +kernel
theorem dX11_ask_9 : decode mX11_ask.2.1 9 = .ok (.i2l, 1) := by decide +kernel
theorem dX11_ask_10 : decode mX11_ask.2.1 10 = .ok (.lconst 0, 1) := by decide +kernel
theorem dX11_ask_11 : decode mX11_ask.2.1 11 = .ok (.ldc2_w 448, 3) := by decide +kernel
theorem dX11_ask_14 : decode mX11_ask.2.1 14 = .ok (.invokestatic 220, 3) := by decide +kernel
theorem dX11_ask_17 : decode mX11_ask.2.1 17 = .ok (.ifCond .ne 6, 3) := by decide +kernel
theorem dX11_ask_20 : decode mX11_ask.2.1 20 = .ok (.ldc 224, 2) := by decide +kernel
theorem dX11_ask_22 : decode mX11_ask.2.1 22 = .ok (.ireturn, 1) := by decide +kernel
theorem dX11_ask_23 : decode mX11_ask.2.1 23 = .ok (.aload_n 0, 1) := by decide +kernel
theorem dX11_ask_24 : decode mX11_ask.2.1 24 = .ok (.iconst 0, 1) := by decide +kernel
theorem dX11_ask_25 : decode mX11_ask.2.1 25 = .ok (.putfield 548, 3) := by decide +kernel
theorem dX11_ask_28 : decode mX11_ask.2.1 28 = .ok (.aload_n 0, 1) := by decide +kernel
theorem dX11_ask_29 : decode mX11_ask.2.1 29 = .ok (.iconst 0, 1) := by decide +kernel
theorem dX11_ask_30 : decode mX11_ask.2.1 30 = .ok (.putfield 544, 3) := by decide +kernel
theorem dX11_ask_33 : decode mX11_ask.2.1 33 = .ok (.iload_n 2, 1) := by decide +kernel
theorem dX11_ask_34 : decode mX11_ask.2.1 34 = .ok (.ifCond .ne 16, 3) := by decide +kernel
theorem dX11_ask_37 : decode mX11_ask.2.1 37 = .ok (.aload_n 0, 1) := by decide +kernel
theorem dX11_ask_38 : decode mX11_ask.2.1 38 = .ok (.aload_n 0, 1) := by decide +kernel
theorem dX11_ask_39 : decode mX11_ask.2.1 39 = .ok (.getfield 48, 3) := by decide +kernel
theorem dX11_ask_42 : decode mX11_ask.2.1 42 = .ok (.iload_n 1, 1) := by decide +kernel
theorem dX11_ask_43 : decode mX11_ask.2.1 43 = .ok (.iaload, 1) := by decide +kernel
theorem dX11_ask_44 : decode mX11_ask.2.1 44 = .ok (.invokevirtual 557, 3) := by decide +kernel
theorem dX11_ask_47 : decode mX11_ask.2.1 47 = .ok (.goto 21, 3) := by decide +kernel
theorem dX11_ask_50 : decode mX11_ask.2.1 50 = .ok (.iload_n 2, 1) := by decide +kernel
theorem dX11_ask_51 : decode mX11_ask.2.1 51 = .ok (.iconst 1, 1) := by decide +kernel
theorem dX11_ask_52 : decode mX11_ask.2.1 52 = .ok (.if_icmp .ne 11, 3) := by decide +kernel
theorem dX11_ask_55 : decode mX11_ask.2.1 55 = .ok (.aload_n 0, 1) := by decide +kernel
theorem dX11_ask_56 : decode mX11_ask.2.1 56 = .ok (.iload_n 1, 1) := by decide +kernel
theorem dX11_ask_57 : decode mX11_ask.2.1 57 = .ok (.invokevirtual 554, 3) := by decide +kernel
theorem dX11_ask_60 : decode mX11_ask.2.1 60 = .ok (.goto 8, 3) := by decide +kernel
theorem dX11_ask_63 : decode mX11_ask.2.1 63 = .ok (.aload_n 0, 1) := by decide +kernel
theorem dX11_ask_64 : decode mX11_ask.2.1 64 = .ok (.iload_n 1, 1) := by decide +kernel
theorem dX11_ask_65 : decode mX11_ask.2.1 65 = .ok (.invokevirtual 566, 3) := by decide +kernel
theorem dX11_ask_68 : decode mX11_ask.2.1 68 = .ok (.ireturn, 1) := by decide +kernel
theorem okX11_ask_563 : gOkV mX11_ask mX11_isPart 563 1 := ⟨List.forall_mem_cons.mpr ⟨(gm 1850 (by decide +kernel) rfl), List.forall_mem_cons.mpr ⟨(gm 1847 (by decide +kernel) rfl), List.forall_mem_cons.mpr ⟨(gm 1849 (by decide +kernel) rfl), List.forall_mem_cons.mpr ⟨(gm 99 (by decide +kernel) rfl), List.forall_mem_cons.mpr ⟨(gm 122 (by decide +kernel) rfl), fun _ h => absurd h List.not_mem_nil⟩⟩⟩⟩⟩, by decide +kernel, by decide +kernel, by decide +kernel⟩
theorem okX11_ask_220 : gOkS mX11_ask mX11_in 220 3 := ⟨List.forall_mem_cons.mpr ⟨(gm 1539 (by decide +kernel) rfl), List.forall_mem_cons.mpr ⟨(gm 1537 (by decide +kernel) rfl), List.forall_mem_cons.mpr ⟨(gm 1538 (by decide +kernel) rfl), List.forall_mem_cons.mpr ⟨(gm 122 (by decide +kernel) rfl), fun _ h => absurd h List.not_mem_nil⟩⟩⟩⟩, by decide +kernel, by decide +kernel, by decide +kernel⟩
theorem okX11_ask_566 : gOkV mX11_ask mX11_loss 566 1 := ⟨List.forall_mem_cons.mpr ⟨(gm 1866 (by decide +kernel) rfl), List.forall_mem_cons.mpr ⟨(gm 1863 (by decide +kernel) rfl), List.forall_mem_cons.mpr ⟨(gm 1865 (by decide +kernel) rfl), List.forall_mem_cons.mpr ⟨(gm 103 (by decide +kernel) rfl), List.forall_mem_cons.mpr ⟨(gm 122 (by decide +kernel) rfl), fun _ h => absurd h List.not_mem_nil⟩⟩⟩⟩⟩, by decide +kernel, by decide +kernel, by decide +kernel⟩
theorem okX11_ask_554 : gOkV mX11_ask mX11_mass 554 1 := ⟨List.forall_mem_cons.mpr ⟨(gm 1862 (by decide +kernel) rfl), List.forall_mem_cons.mpr ⟨(gm 1859 (by decide +kernel) rfl), List.forall_mem_cons.mpr ⟨(gm 1861 (by decide +kernel) rfl), List.forall_mem_cons.mpr ⟨(gm 102 (by decide +kernel) rfl), List.forall_mem_cons.mpr ⟨(gm 122 (by decide +kernel) rfl), fun _ h => absurd h List.not_mem_nil⟩⟩⟩⟩⟩, by decide +kernel, by decide +kernel, by decide +kernel⟩
theorem okX11_ask_557 : gOkV mX11_ask mX11_freedom 557 1 := ⟨List.forall_mem_cons.mpr ⟨(gm 1854 (by decide +kernel) rfl), List.forall_mem_cons.mpr ⟨(gm 1851 (by decide +kernel) rfl), List.forall_mem_cons.mpr ⟨(gm 1853 (by decide +kernel) rfl), List.forall_mem_cons.mpr ⟨(gm 100 (by decide +kernel) rfl), List.forall_mem_cons.mpr ⟨(gm 122 (by decide +kernel) rfl), fun _ h => absurd h List.not_mem_nil⟩⟩⟩⟩⟩, by decide +kernel, by decide +kernel, by decide +kernel⟩
def fX11_ask_20 (p1 : Int32) (p2 : Int32) (σ : gS) : Option (Int32 × gS) :=
  some ((-1000001), σ)
set_option maxHeartbeats 4000000 in
set_option maxRecDepth 100000 in
theorem pX11_ask_20 {E : gE} {p1 : Int32} {p2 : Int32} {r : Int32} {σ' : gS} {σ : gS} (h : fX11_ask_20 p1 p2 σ = some (r, σ')) : gG E mX11_ask 20 [] [] σ (some (.int r)) σ' := by
  unfold fX11_ask_20 at h
  refine g_ldc (v := (-1000001)) dX11_ask_20 wc_RX11_224 ?_
  obtain ⟨rfl, rfl⟩ := so_inj h
  exact g_iret dX11_ask_22 rfl
def fX11_ask_68 (p1 : Int32) (p2 : Int32) (s0 : Int32) (σ : gS) : Option (Int32 × gS) :=
  some (s0, σ)
set_option maxHeartbeats 4000000 in
set_option maxRecDepth 100000 in
theorem pX11_ask_68 {E : gE} {p1 : Int32} {p2 : Int32} {r : Int32} {σ' : gS} {s0 : Int32} {σ : gS} (h : fX11_ask_68 p1 p2 s0 σ = some (r, σ')) : gG E mX11_ask 68 [] [.int s0] σ (some (.int r)) σ' := by
  unfold fX11_ask_68 at h
  obtain ⟨rfl, rfl⟩ := so_inj h
  exact g_iret dX11_ask_68 rfl
def fX11_ask (p1 : Int32) (p2 : Int32) (σ : gS) : Option (Int32 × gS) :=
  bd (fX11_isPart p1 σ) fun x1 σ2 =>
  if x1 = 0 then
    fX11_ask_20 p1 p2 σ2
  else
    bd (fX11_in p2.toInt64 0 2 σ2) fun x5 σ6 =>
    if x5 = 0 then
      fX11_ask_20 p1 p2 σ6
    else
      bnd (gsI σ6 168 96 0) fun σ9 =>
      bnd (gsI σ9 168 94 0) fun σ10 =>
      if p2 = 0 then
        gg (¬ (p1 < 0 ∨ 130 ≤ p1.toNatClampNeg)) (
        bd (fX11_freedom (σ10.1 181 p1.toNatClampNeg) σ10) fun x20 σ21 =>
        fX11_ask_68 p1 p2 x20 σ21)
      else
        if p2 = 1 then
          bd (fX11_mass p1 σ10) fun x16 σ17 =>
          fX11_ask_68 p1 p2 x16 σ17
        else
          bd (fX11_loss p1 σ10) fun x13 σ14 =>
          fX11_ask_68 p1 p2 x13 σ14
set_option maxHeartbeats 4000000 in
set_option maxRecDepth 100000 in
theorem pX11_ask {E : gE} {p1 : Int32} {p2 : Int32} {r : Int32} {σ' : gS} {σ : gS} (h : fX11_ask p1 p2 σ = some (r, σ')) : gG E mX11_ask 0 [(0, .ref 168), (1, .int p1), (2, .int p2)] [] σ (some (.int r)) σ' := by
  unfold fX11_ask at h
  refine g_aload_n dX11_ask_0 rfl 0 rfl ?_
  refine g_iload_n dX11_ask_1 rfl 1 rfl ?_
  obtain ⟨x1, σ2, y3, h⟩ := bd_some h
  refine g_callVr (as := [.int p1]) (st := []) (zX11_isPart y3) dX11_ask_2 gi_168 rfl okX11_ask_563 (Nat.le_of_ble_eq_true rfl) ?_
  refine g_if_eq (t := 20) dX11_ask_5 (by decide) (fun c4 => ?_) (fun c4 => ?_)
  · replace h := if_t h c4
    refine g_sub [] rfl ?_
    exact pX11_ask_20 h
  · replace h := if_f h c4
    refine g_iload_n dX11_ask_8 rfl 2 rfl ?_
    refine g_i2l dX11_ask_9 ?_
    refine g_lconst (v := 0) dX11_ask_10 (by decide) ?_
    refine g_ldc2 (v := 2) dX11_ask_11 wl_RX11_448 ?_
    obtain ⟨x5, σ6, y7, h⟩ := bd_some h
    refine g_callSr (as := [.long p2.toInt64, .long 0, .long 2]) (st := []) (zX11_in y7) dX11_ask_14 okX11_ask_220 (Nat.le_of_ble_eq_true rfl) ?_
    refine g_if_ne (t := 23) dX11_ask_17 (by decide) (fun c8 => ?_) (fun c8 => ?_)
    · replace h := if_f h c8
      refine g_aload_n dX11_ask_23 rfl 0 rfl ?_
      refine g_iconst (v := 0) dX11_ask_24 (by decide) ?_
      obtain ⟨σ9, eσ9, h⟩ := bnd_nm h
      refine g_putI dX11_ask_25 gi_168 rfl fp_RX11_548 (g_st eσ9 ?_)
      refine g_aload_n dX11_ask_28 rfl 0 rfl ?_
      refine g_iconst (v := 0) dX11_ask_29 (by decide) ?_
      obtain ⟨σ10, eσ10, h⟩ := bnd_nm h
      refine g_putI dX11_ask_30 gi_168 rfl fp_RX11_544 (g_st eσ10 ?_)
      refine g_iload_n dX11_ask_33 rfl 2 rfl ?_
      refine g_if_ne (t := 50) dX11_ask_34 (by decide) (fun c11 => ?_) (fun c11 => ?_)
      · replace h := if_f h c11
        refine g_iload_n dX11_ask_50 rfl 2 rfl ?_
        refine g_iconst (v := 1) dX11_ask_51 (by decide) ?_
        refine g_icmp_ne (t := 63) dX11_ask_52 (by decide) (fun c12 => ?_) (fun c12 => ?_)
        · replace h := if_f h c12
          refine g_aload_n dX11_ask_63 rfl 0 rfl ?_
          refine g_iload_n dX11_ask_64 rfl 1 rfl ?_
          obtain ⟨x13, σ14, y15, h⟩ := bd_some h
          refine g_callVr (as := [.int p1]) (st := []) (zX11_loss y15) dX11_ask_65 gi_168 rfl okX11_ask_566 (Nat.le_of_ble_eq_true rfl) ?_
          refine g_sub [] rfl ?_
          exact pX11_ask_68 h
        · replace h := if_t h c12
          refine g_aload_n dX11_ask_55 rfl 0 rfl ?_
          refine g_iload_n dX11_ask_56 rfl 1 rfl ?_
          obtain ⟨x16, σ17, y18, h⟩ := bd_some h
          refine g_callVr (as := [.int p1]) (st := []) (zX11_mass y18) dX11_ask_57 gi_168 rfl okX11_ask_554 (Nat.le_of_ble_eq_true rfl) ?_
          refine g_goto (t := 68) dX11_ask_60 (by decide) ?_
          refine g_sub [] rfl ?_
          exact pX11_ask_68 h
      · replace h := if_t h c11
        refine g_aload_n dX11_ask_37 rfl 0 rfl ?_
        refine g_aload_n dX11_ask_38 rfl 0 rfl ?_
        refine g_getC (n := 181) dX11_ask_39 gi_168 rfl fl_RX11_48 ?_
        refine g_iload_n dX11_ask_42 rfl 1 rfl ?_
        obtain ⟨g19, h⟩ := gg_some h
        refine g_iald dX11_ask_43 gi_181 g19 ?_
        obtain ⟨x20, σ21, y22, h⟩ := bd_some h
        refine g_callVr (as := [.int (σ10.1 181 p1.toNatClampNeg)]) (st := []) (zX11_freedom y22) dX11_ask_44 gi_168 rfl okX11_ask_557 (Nat.le_of_ble_eq_true rfl) ?_
        refine g_goto (t := 68) dX11_ask_47 (by decide) ?_
        refine g_sub [] rfl ?_
        exact pX11_ask_68 h
    · replace h := if_t h c8
      refine g_sub [] rfl ?_
      exact pX11_ask_20 h
theorem zX11_ask {E : gE} {p1 : Int32} {p2 : Int32} {r : Int32} {σ σ' : gS} (h : fX11_ask p1 p2 σ = some (r, σ')) : gC E mX11_ask [.ref 168, .int p1, .int p2] σ (some (.int r)) σ' :=
  gC_of (by decide +kernel) rfl (Nat.le_of_ble_eq_true rfl) (pX11_ask h)
def mX11_trail : gM := (yX11_trail, cX11_trail, RX11, 2, (some .int), 1, 25)
theorem dX11_trail_0 : decode mX11_trail.2.1 0 = .ok (.iload_n 1, 1) := by decide +kernel
theorem dX11_trail_1 : decode mX11_trail.2.1 1 = .ok (.i2l, 1) := by decide +kernel
theorem dX11_trail_2 : decode mX11_trail.2.1 2 = .ok (.lconst 0, 1) := by decide +kernel
theorem dX11_trail_3 : decode mX11_trail.2.1 3 = .ok (.aload_n 0, 1) := by decide +kernel
theorem dX11_trail_4 : decode mX11_trail.2.1 4 = .ok (.getfield 548, 3) := by decide +kernel
theorem dX11_trail_7 : decode mX11_trail.2.1 7 = .ok (.iconst 1, 1) := by decide +kernel
theorem dX11_trail_8 : decode mX11_trail.2.1 8 = .ok (.isub, 1) := by decide +kernel
theorem dX11_trail_9 : decode mX11_trail.2.1 9 = .ok (.i2l, 1) := by decide +kernel
theorem dX11_trail_10 : decode mX11_trail.2.1 10 = .ok (.invokestatic 220, 3) := by decide +kernel
theorem dX11_trail_13 : decode mX11_trail.2.1 13 = .ok (.ifCond .eq 12, 3) := by decide +kernel
theorem dX11_trail_16 : decode mX11_trail.2.1 16 = .ok (.aload_n 0, 1) := by decide +kernel
theorem dX11_trail_17 : decode mX11_trail.2.1 17 = .ok (.getfield 203, 3) := by decide +kernel
theorem dX11_trail_20 : decode mX11_trail.2.1 20 = .ok (.iload_n 1, 1) := by decide +kernel
theorem dX11_trail_21 : decode mX11_trail.2.1 21 = .ok (.iaload, 1) := by decide +kernel
theorem dX11_trail_22 : decode mX11_trail.2.1 22 = .ok (.goto 5, 3) := by decide +kernel
theorem dX11_trail_25 : decode mX11_trail.2.1 25 = .ok (.ldc 106, 2) := by decide +kernel
theorem dX11_trail_27 : decode mX11_trail.2.1 27 = .ok (.ireturn, 1) := by decide +kernel
theorem okX11_trail_220 : gOkS mX11_trail mX11_in 220 3 := ⟨List.forall_mem_cons.mpr ⟨(gm 1539 (by decide +kernel) rfl), List.forall_mem_cons.mpr ⟨(gm 1537 (by decide +kernel) rfl), List.forall_mem_cons.mpr ⟨(gm 1538 (by decide +kernel) rfl), List.forall_mem_cons.mpr ⟨(gm 122 (by decide +kernel) rfl), fun _ h => absurd h List.not_mem_nil⟩⟩⟩⟩, by decide +kernel, by decide +kernel, by decide +kernel⟩
def fX11_trail_27 (p1 : Int32) (s0 : Int32) (σ : gS) : Option (Int32 × gS) :=
  some (s0, σ)
set_option maxHeartbeats 4000000 in
set_option maxRecDepth 100000 in
theorem pX11_trail_27 {E : gE} {p1 : Int32} {r : Int32} {σ' : gS} {s0 : Int32} {σ : gS} (h : fX11_trail_27 p1 s0 σ = some (r, σ')) : gG E mX11_trail 27 [] [.int s0] σ (some (.int r)) σ' := by
  unfold fX11_trail_27 at h
  obtain ⟨rfl, rfl⟩ := so_inj h
  exact g_iret dX11_trail_27 rfl
def fX11_trail (p1 : Int32) (σ : gS) : Option (Int32 × gS) :=
  bd (fX11_in p1.toInt64 0 (((σ.1 168 96) - 1).toInt64) σ) fun x1 σ2 =>
  if x1 = 0 then
    fX11_trail_27 p1 (-1000000) σ2
  else
    gg (¬ (p1 < 0 ∨ 16 ≤ p1.toNatClampNeg)) (
    fX11_trail_27 p1 (σ2.1 228 p1.toNatClampNeg) σ2)
set_option maxHeartbeats 4000000 in
set_option maxRecDepth 100000 in
theorem pX11_trail {E : gE} {p1 : Int32} {r : Int32} {σ' : gS} {σ : gS} (h : fX11_trail p1 σ = some (r, σ')) : gG E mX11_trail 0 [(0, .ref 168), (1, .int p1)] [] σ (some (.int r)) σ' := by
  unfold fX11_trail at h
  refine g_iload_n dX11_trail_0 rfl 1 rfl ?_
  refine g_i2l dX11_trail_1 ?_
  refine g_lconst (v := 0) dX11_trail_2 (by decide) ?_
  refine g_aload_n dX11_trail_3 rfl 0 rfl ?_
  refine g_getI dX11_trail_4 gi_168 rfl fl_RX11_548 ?_
  refine g_iconst (v := 1) dX11_trail_7 (by decide) ?_
  refine g_isub dX11_trail_8 ?_
  refine g_i2l dX11_trail_9 ?_
  obtain ⟨x1, σ2, y3, h⟩ := bd_some h
  refine g_callSr (as := [.long p1.toInt64, .long 0, .long (((σ.1 168 96) - 1).toInt64)]) (st := []) (zX11_in y3) dX11_trail_10 okX11_trail_220 (Nat.le_of_ble_eq_true rfl) ?_
  refine g_if_eq (t := 25) dX11_trail_13 (by decide) (fun c4 => ?_) (fun c4 => ?_)
  · replace h := if_t h c4
    refine g_ldc (v := (-1000000)) dX11_trail_25 wc_RX11_106 ?_
    refine g_sub [] rfl ?_
    exact pX11_trail_27 h
  · replace h := if_f h c4
    refine g_aload_n dX11_trail_16 rfl 0 rfl ?_
    refine g_getC (n := 228) dX11_trail_17 gi_168 rfl fl_RX11_203 ?_
    refine g_iload_n dX11_trail_20 rfl 1 rfl ?_
    obtain ⟨g5, h⟩ := gg_some h
    refine g_iald dX11_trail_21 gi_228 g5 ?_
    refine g_goto (t := 27) dX11_trail_22 (by decide) ?_
    refine g_sub [] rfl ?_
    exact pX11_trail_27 h
theorem zX11_trail {E : gE} {p1 : Int32} {r : Int32} {σ σ' : gS} (h : fX11_trail p1 σ = some (r, σ')) : gC E mX11_trail [.ref 168, .int p1] σ (some (.int r)) σ' :=
  gC_of (by decide +kernel) rfl (Nat.le_of_ble_eq_true rfl) (pX11_trail h)
def mX11_isOf : gM := (yX11_isOf, cX11_isOf, RX11, 2, (some .boolean), 0, 0)
theorem dX11_isOf_0 : decode mX11_isOf.2.1 0 = .ok (.iload_n 0, 1) := by decide +kernel
theorem dX11_isOf_1 : decode mX11_isOf.2.1 1 = .ok (.iload_n 1, 1) := by decide +kernel
theorem dX11_isOf_2 : decode mX11_isOf.2.1 2 = .ok (.if_icmp .eq 33, 3) := by decide +kernel
theorem dX11_isOf_5 : decode mX11_isOf.2.1 5 = .ok (.iload_n 1, 1) := by decide +kernel
theorem dX11_isOf_6 : decode mX11_isOf.2.1 6 = .ok (.ifCond .ne 8, 3) := by decide +kernel
theorem dX11_isOf_9 : decode mX11_isOf.2.1 9 = .ok (.iload_n 0, 1) := by decide +kernel
theorem dX11_isOf_10 : decode mX11_isOf.2.1 10 = .ok (.iconst 1, 1) := by decide +kernel
theorem dX11_isOf_11 : decode mX11_isOf.2.1 11 = .ok (.if_icmp .eq 24, 3) := by decide +kernel
theorem dX11_isOf_14 : decode mX11_isOf.2.1 14 = .ok (.iload_n 1, 1) := by decide +kernel
theorem dX11_isOf_15 : decode mX11_isOf.2.1 15 = .ok (.iconst 4, 1) := by decide +kernel
theorem dX11_isOf_16 : decode mX11_isOf.2.1 16 = .ok (.if_icmp .ne 8, 3) := by decide +kernel
theorem dX11_isOf_19 : decode mX11_isOf.2.1 19 = .ok (.iload_n 0, 1) := by decide +kernel
theorem dX11_isOf_20 : decode mX11_isOf.2.1 20 = .ok (.iconst 4, 1) := by decide +kernel
theorem dX11_isOf_21 : decode mX11_isOf.2.1 21 = .ok (.if_icmp .gt 14, 3) := by decide +kernel
theorem dX11_isOf_24 : decode mX11_isOf.2.1 24 = .ok (.iload_n 1, 1) := by decide +kernel
theorem dX11_isOf_25 : decode mX11_isOf.2.1 25 = .ok (.iconst 5, 1) := by decide +kernel
theorem dX11_isOf_26 : decode mX11_isOf.2.1 26 = .ok (.if_icmp .ne 13, 3) := by decide +kernel
theorem dX11_isOf_29 : decode mX11_isOf.2.1 29 = .ok (.iload_n 0, 1) := by decide +kernel
theorem dX11_isOf_30 : decode mX11_isOf.2.1 30 = .ok (.bipush 6, 2) := by decide +kernel
theorem dX11_isOf_32 : decode mX11_isOf.2.1 32 = .ok (.if_icmp .ne 7, 3) := by decide +kernel
theorem dX11_isOf_35 : decode mX11_isOf.2.1 35 = .ok (.iconst 1, 1) := by decide +kernel
theorem dX11_isOf_36 : decode mX11_isOf.2.1 36 = .ok (.goto 4, 3) := by decide +kernel
theorem dX11_isOf_39 : decode mX11_isOf.2.1 39 = .ok (.iconst 0, 1) := by decide +kernel
theorem dX11_isOf_40 : decode mX11_isOf.2.1 40 = .ok (.ireturn, 1) := by decide +kernel
def fX11_isOf_40 (p1 : Int32) (p2 : Int32) (s0 : Int32) (σ : gS) : Option (Int32 × gS) :=
  gg (s0 = 0 ∨ s0 = 1) (
  some (s0, σ))
set_option maxHeartbeats 4000000 in
set_option maxRecDepth 100000 in
theorem pX11_isOf_40 {E : gE} {p1 : Int32} {p2 : Int32} {r : Int32} {σ' : gS} {s0 : Int32} {σ : gS} (h : fX11_isOf_40 p1 p2 s0 σ = some (r, σ')) : gG E mX11_isOf 40 [] [.int s0] σ (some (.int r)) σ' := by
  unfold fX11_isOf_40 at h
  obtain ⟨g1, h⟩ := gg_some h
  obtain ⟨rfl, rfl⟩ := so_inj h
  exact g_zret dX11_isOf_40 rfl g1
def fX11_isOf_35 (p1 : Int32) (p2 : Int32) (σ : gS) : Option (Int32 × gS) :=
  fX11_isOf_40 p1 p2 1 σ
set_option maxHeartbeats 4000000 in
set_option maxRecDepth 100000 in
theorem pX11_isOf_35 {E : gE} {p1 : Int32} {p2 : Int32} {r : Int32} {σ' : gS} {σ : gS} (h : fX11_isOf_35 p1 p2 σ = some (r, σ')) : gG E mX11_isOf 35 [] [] σ (some (.int r)) σ' := by
  unfold fX11_isOf_35 at h
  refine g_iconst (v := 1) dX11_isOf_35 (by decide) ?_
  refine g_goto (t := 40) dX11_isOf_36 (by decide) ?_
  exact pX11_isOf_40 h
def fX11_isOf_39 (p1 : Int32) (p2 : Int32) (σ : gS) : Option (Int32 × gS) :=
  fX11_isOf_40 p1 p2 0 σ
set_option maxHeartbeats 4000000 in
set_option maxRecDepth 100000 in
theorem pX11_isOf_39 {E : gE} {p1 : Int32} {p2 : Int32} {r : Int32} {σ' : gS} {σ : gS} (h : fX11_isOf_39 p1 p2 σ = some (r, σ')) : gG E mX11_isOf 39 [] [] σ (some (.int r)) σ' := by
  unfold fX11_isOf_39 at h
  refine g_iconst (v := 0) dX11_isOf_39 (by decide) ?_
  exact pX11_isOf_40 h
def fX11_isOf_24 (p1 : Int32) (p2 : Int32) (σ : gS) : Option (Int32 × gS) :=
  if p2 = 5 then
    if p1 = 6 then
      fX11_isOf_35 p1 p2 σ
    else
      fX11_isOf_39 p1 p2 σ
  else
    fX11_isOf_39 p1 p2 σ
set_option maxHeartbeats 4000000 in
set_option maxRecDepth 100000 in
theorem pX11_isOf_24 {E : gE} {p1 : Int32} {p2 : Int32} {r : Int32} {σ' : gS} {σ : gS} (h : fX11_isOf_24 p1 p2 σ = some (r, σ')) : gG E mX11_isOf 24 [(0, .int p1), (1, .int p2)] [] σ (some (.int r)) σ' := by
  unfold fX11_isOf_24 at h
  refine g_iload_n dX11_isOf_24 rfl 1 rfl ?_
  refine g_iconst (v := 5) dX11_isOf_25 (by decide) ?_
  refine g_icmp_ne (t := 39) dX11_isOf_26 (by decide) (fun c1 => ?_) (fun c1 => ?_)
  · replace h := if_f h c1
    refine g_sub [] rfl ?_
    exact pX11_isOf_39 h
  · replace h := if_t h c1
    refine g_iload_n dX11_isOf_29 rfl 0 rfl ?_
    refine g_bipush (v := 6) dX11_isOf_30 (by decide) ?_
    refine g_icmp_ne (t := 39) dX11_isOf_32 (by decide) (fun c2 => ?_) (fun c2 => ?_)
    · replace h := if_f h c2
      refine g_sub [] rfl ?_
      exact pX11_isOf_39 h
    · replace h := if_t h c2
      refine g_sub [] rfl ?_
      exact pX11_isOf_35 h
def fX11_isOf_14 (p1 : Int32) (p2 : Int32) (σ : gS) : Option (Int32 × gS) :=
  if p2 = 4 then
    if 4 < p1 then
      fX11_isOf_35 p1 p2 σ
    else
      fX11_isOf_24 p1 p2 σ
  else
    fX11_isOf_24 p1 p2 σ
set_option maxHeartbeats 4000000 in
set_option maxRecDepth 100000 in
theorem pX11_isOf_14 {E : gE} {p1 : Int32} {p2 : Int32} {r : Int32} {σ' : gS} {σ : gS} (h : fX11_isOf_14 p1 p2 σ = some (r, σ')) : gG E mX11_isOf 14 [(0, .int p1), (1, .int p2)] [] σ (some (.int r)) σ' := by
  unfold fX11_isOf_14 at h
  refine g_iload_n dX11_isOf_14 rfl 1 rfl ?_
  refine g_iconst (v := 4) dX11_isOf_15 (by decide) ?_
  refine g_icmp_ne (t := 24) dX11_isOf_16 (by decide) (fun c1 => ?_) (fun c1 => ?_)
  · replace h := if_f h c1
    exact pX11_isOf_24 h
  · replace h := if_t h c1
    refine g_iload_n dX11_isOf_19 rfl 0 rfl ?_
    refine g_iconst (v := 4) dX11_isOf_20 (by decide) ?_
    refine g_icmp_gt (t := 35) dX11_isOf_21 (by decide) (fun c2 => ?_) (fun c2 => ?_)
    · replace h := if_t h c2
      refine g_sub [] rfl ?_
      exact pX11_isOf_35 h
    · replace h := if_f h c2
      exact pX11_isOf_24 h
def fX11_isOf (p1 : Int32) (p2 : Int32) (σ : gS) : Option (Int32 × gS) :=
  if p1 = p2 then
    fX11_isOf_35 p1 p2 σ
  else
    if p2 = 0 then
      if p1 = 1 then
        fX11_isOf_35 p1 p2 σ
      else
        fX11_isOf_14 p1 p2 σ
    else
      fX11_isOf_14 p1 p2 σ
set_option maxHeartbeats 4000000 in
set_option maxRecDepth 100000 in
theorem pX11_isOf {E : gE} {p1 : Int32} {p2 : Int32} {r : Int32} {σ' : gS} {σ : gS} (h : fX11_isOf p1 p2 σ = some (r, σ')) : gG E mX11_isOf 0 [(0, .int p1), (1, .int p2)] [] σ (some (.int r)) σ' := by
  unfold fX11_isOf at h
  refine g_iload_n dX11_isOf_0 rfl 0 rfl ?_
  refine g_iload_n dX11_isOf_1 rfl 1 rfl ?_
  refine g_icmp_eq (t := 35) dX11_isOf_2 (by decide) (fun c1 => ?_) (fun c1 => ?_)
  · replace h := if_t h c1
    refine g_sub [] rfl ?_
    exact pX11_isOf_35 h
  · replace h := if_f h c1
    refine g_iload_n dX11_isOf_5 rfl 1 rfl ?_
    refine g_if_ne (t := 14) dX11_isOf_6 (by decide) (fun c2 => ?_) (fun c2 => ?_)
    · replace h := if_f h c2
      exact pX11_isOf_14 h
    · replace h := if_t h c2
      refine g_iload_n dX11_isOf_9 rfl 0 rfl ?_
      refine g_iconst (v := 1) dX11_isOf_10 (by decide) ?_
      refine g_icmp_eq (t := 35) dX11_isOf_11 (by decide) (fun c3 => ?_) (fun c3 => ?_)
      · replace h := if_t h c3
        refine g_sub [] rfl ?_
        exact pX11_isOf_35 h
      · replace h := if_f h c3
        exact pX11_isOf_14 h
theorem zX11_isOf {E : gE} {p1 : Int32} {p2 : Int32} {r : Int32} {σ σ' : gS} (h : fX11_isOf p1 p2 σ = some (r, σ')) : gC E mX11_isOf [.int p1, .int p2] σ (some (.int r)) σ' :=
  gC_of (by decide +kernel) rfl (Nat.le_of_ble_eq_true rfl) (pX11_isOf h)
theorem wl_RX11_569 : Cond.constantLong RX11 569 6 ∈ gWS := (gm 1880 (by decide +kernel) rfl)
def mX11_is : gM := (yX11_is, cX11_is, RX11, 3, (some .int), 2, 46)
theorem dX11_is_0 : decode mX11_is.2.1 0 = .ok (.aload_n 0, 1) := by decide +kernel
theorem dX11_is_1 : decode mX11_is.2.1 1 = .ok (.iload_n 1, 1) := by decide +kernel
theorem dX11_is_2 : decode mX11_is.2.1 2 = .ok (.invokevirtual 563, 3) := by decide +kernel
theorem dX11_is_5 : decode mX11_is.2.1 5 = .ok (.ifCond .eq 15, 3) := by decide +kernel
theorem dX11_is_8 : decode mX11_is.2.1 8 = .ok (.iload_n 2, 1) := by decide +kernel
theorem dX11_is_9 : decode mX11_is.2.1 9 = .ok (.i2l, 1) := by decide +kernel
theorem dX11_is_10 : decode mX11_is.2.1 10 = .ok (.lconst 0, 1) := by decide +kernel
theorem dX11_is_11 : decode mX11_is.2.1 11 = .ok (.ldc2_w 569, 3) := by decide +kernel
theorem dX11_is_14 : decode mX11_is.2.1 14 = .ok (.invokestatic 220, 3) := by decide +kernel
theorem dX11_is_17 : decode mX11_is.2.1 17 = .ok (.ifCond .ne 8, 3) := by decide +kernel
theorem dX11_is_20 : decode mX11_is.2.1 20 = .ok (.ldc 224, 2) := by decide +kernel
theorem dX11_is_22 : decode mX11_is.2.1 22 = .ok (.goto 21, 3) := by decide +kernel
theorem dX11_is_25 : decode mX11_is.2.1 25 = .ok (.aload_n 0, 1) := by decide +kernel
theorem dX11_is_26 : decode mX11_is.2.1 26 = .ok (.getfield 48, 3) := by decide +kernel
theorem dX11_is_29 : decode mX11_is.2.1 29 = .ok (.iload_n 1, 1) := by decide +kernel
theorem dX11_is_30 : decode mX11_is.2.1 30 = .ok (.iaload, 1) := by decide +kernel
theorem dX11_is_31 : decode mX11_is.2.1 31 = .ok (.iload_n 2, 1) := by decide +kernel
theorem dX11_is_32 : decode mX11_is.2.1 32 = .ok (.invokestatic 571, 3) := by decide +kernel
theorem dX11_is_35 : decode mX11_is.2.1 35 = .ok (.ifCond .eq 7, 3) := by decide +kernel
theorem dX11_is_38 : decode mX11_is.2.1 38 = .ok (.iconst 1, 1) := by decide +kernel
theorem dX11_is_39 : decode mX11_is.2.1 39 = .ok (.goto 4, 3) := by decide +kernel
theorem dX11_is_42 : decode mX11_is.2.1 42 = .ok (.iconst 0, 1) := by decide +kernel
theorem dX11_is_43 : decode mX11_is.2.1 43 = .ok (.ireturn, 1) := by decide +kernel
theorem okX11_is_563 : gOkV mX11_is mX11_isPart 563 1 := ⟨List.forall_mem_cons.mpr ⟨(gm 1850 (by decide +kernel) rfl), List.forall_mem_cons.mpr ⟨(gm 1847 (by decide +kernel) rfl), List.forall_mem_cons.mpr ⟨(gm 1849 (by decide +kernel) rfl), List.forall_mem_cons.mpr ⟨(gm 99 (by decide +kernel) rfl), List.forall_mem_cons.mpr ⟨(gm 122 (by decide +kernel) rfl), fun _ h => absurd h List.not_mem_nil⟩⟩⟩⟩⟩, by decide +kernel, by decide +kernel, by decide +kernel⟩
theorem okX11_is_220 : gOkS mX11_is mX11_in 220 3 := ⟨List.forall_mem_cons.mpr ⟨(gm 1539 (by decide +kernel) rfl), List.forall_mem_cons.mpr ⟨(gm 1537 (by decide +kernel) rfl), List.forall_mem_cons.mpr ⟨(gm 1538 (by decide +kernel) rfl), List.forall_mem_cons.mpr ⟨(gm 122 (by decide +kernel) rfl), fun _ h => absurd h List.not_mem_nil⟩⟩⟩⟩, by decide +kernel, by decide +kernel, by decide +kernel⟩
theorem okX11_is_571 : gOkS mX11_is mX11_isOf 571 2 := ⟨List.forall_mem_cons.mpr ⟨(gm 1883 (by decide +kernel) rfl), List.forall_mem_cons.mpr ⟨(gm 1881 (by decide +kernel) rfl), List.forall_mem_cons.mpr ⟨(gm 1882 (by decide +kernel) rfl), List.forall_mem_cons.mpr ⟨(gm 122 (by decide +kernel) rfl), fun _ h => absurd h List.not_mem_nil⟩⟩⟩⟩, by decide +kernel, by decide +kernel, by decide +kernel⟩
def fX11_is_43 (p1 : Int32) (p2 : Int32) (s0 : Int32) (σ : gS) : Option (Int32 × gS) :=
  some (s0, σ)
set_option maxHeartbeats 4000000 in
set_option maxRecDepth 100000 in
theorem pX11_is_43 {E : gE} {p1 : Int32} {p2 : Int32} {r : Int32} {σ' : gS} {s0 : Int32} {σ : gS} (h : fX11_is_43 p1 p2 s0 σ = some (r, σ')) : gG E mX11_is 43 [] [.int s0] σ (some (.int r)) σ' := by
  unfold fX11_is_43 at h
  obtain ⟨rfl, rfl⟩ := so_inj h
  exact g_iret dX11_is_43 rfl
def fX11_is_20 (p1 : Int32) (p2 : Int32) (σ : gS) : Option (Int32 × gS) :=
  fX11_is_43 p1 p2 (-1000001) σ
set_option maxHeartbeats 4000000 in
set_option maxRecDepth 100000 in
theorem pX11_is_20 {E : gE} {p1 : Int32} {p2 : Int32} {r : Int32} {σ' : gS} {σ : gS} (h : fX11_is_20 p1 p2 σ = some (r, σ')) : gG E mX11_is 20 [] [] σ (some (.int r)) σ' := by
  unfold fX11_is_20 at h
  refine g_ldc (v := (-1000001)) dX11_is_20 wc_RX11_224 ?_
  refine g_goto (t := 43) dX11_is_22 (by decide) ?_
  exact pX11_is_43 h
def fX11_is (p1 : Int32) (p2 : Int32) (σ : gS) : Option (Int32 × gS) :=
  bd (fX11_isPart p1 σ) fun x1 σ2 =>
  if x1 = 0 then
    fX11_is_20 p1 p2 σ2
  else
    bd (fX11_in p2.toInt64 0 6 σ2) fun x5 σ6 =>
    if x5 = 0 then
      fX11_is_20 p1 p2 σ6
    else
      gg (¬ (p1 < 0 ∨ 130 ≤ p1.toNatClampNeg)) (
      bd (fX11_isOf (σ6.1 181 p1.toNatClampNeg) p2 σ6) fun x10 σ11 =>
      if x10 = 0 then
        fX11_is_43 p1 p2 0 σ11
      else
        fX11_is_43 p1 p2 1 σ11)
set_option maxHeartbeats 4000000 in
set_option maxRecDepth 100000 in
theorem pX11_is {E : gE} {p1 : Int32} {p2 : Int32} {r : Int32} {σ' : gS} {σ : gS} (h : fX11_is p1 p2 σ = some (r, σ')) : gG E mX11_is 0 [(0, .ref 168), (1, .int p1), (2, .int p2)] [] σ (some (.int r)) σ' := by
  unfold fX11_is at h
  refine g_aload_n dX11_is_0 rfl 0 rfl ?_
  refine g_iload_n dX11_is_1 rfl 1 rfl ?_
  obtain ⟨x1, σ2, y3, h⟩ := bd_some h
  refine g_callVr (as := [.int p1]) (st := []) (zX11_isPart y3) dX11_is_2 gi_168 rfl okX11_is_563 (Nat.le_of_ble_eq_true rfl) ?_
  refine g_if_eq (t := 20) dX11_is_5 (by decide) (fun c4 => ?_) (fun c4 => ?_)
  · replace h := if_t h c4
    refine g_sub [] rfl ?_
    exact pX11_is_20 h
  · replace h := if_f h c4
    refine g_iload_n dX11_is_8 rfl 2 rfl ?_
    refine g_i2l dX11_is_9 ?_
    refine g_lconst (v := 0) dX11_is_10 (by decide) ?_
    refine g_ldc2 (v := 6) dX11_is_11 wl_RX11_569 ?_
    obtain ⟨x5, σ6, y7, h⟩ := bd_some h
    refine g_callSr (as := [.long p2.toInt64, .long 0, .long 6]) (st := []) (zX11_in y7) dX11_is_14 okX11_is_220 (Nat.le_of_ble_eq_true rfl) ?_
    refine g_if_ne (t := 25) dX11_is_17 (by decide) (fun c8 => ?_) (fun c8 => ?_)
    · replace h := if_f h c8
      refine g_aload_n dX11_is_25 rfl 0 rfl ?_
      refine g_getC (n := 181) dX11_is_26 gi_168 rfl fl_RX11_48 ?_
      refine g_iload_n dX11_is_29 rfl 1 rfl ?_
      obtain ⟨g9, h⟩ := gg_some h
      refine g_iald dX11_is_30 gi_181 g9 ?_
      refine g_iload_n dX11_is_31 rfl 2 rfl ?_
      obtain ⟨x10, σ11, y12, h⟩ := bd_some h
      refine g_callSr (as := [.int (σ6.1 181 p1.toNatClampNeg), .int p2]) (st := []) (zX11_isOf y12) dX11_is_32 okX11_is_571 (Nat.le_of_ble_eq_true rfl) ?_
      refine g_if_eq (t := 42) dX11_is_35 (by decide) (fun c13 => ?_) (fun c13 => ?_)
      · replace h := if_t h c13
        refine g_iconst (v := 0) dX11_is_42 (by decide) ?_
        refine g_sub [] rfl ?_
        exact pX11_is_43 h
      · replace h := if_f h c13
        refine g_iconst (v := 1) dX11_is_38 (by decide) ?_
        refine g_goto (t := 43) dX11_is_39 (by decide) ?_
        refine g_sub [] rfl ?_
        exact pX11_is_43 h
    · replace h := if_t h c8
      refine g_sub [] rfl ?_
      exact pX11_is_20 h
theorem zX11_is {E : gE} {p1 : Int32} {p2 : Int32} {r : Int32} {σ σ' : gS} (h : fX11_is p1 p2 σ = some (r, σ')) : gC E mX11_is [.ref 168, .int p1, .int p2] σ (some (.int r)) σ' :=
  gC_of (by decide +kernel) rfl (Nat.le_of_ble_eq_true rfl) (pX11_is h)
def mX11_as : gM := (yX11_as, cX11_as, RX11, 3, (some .int), 2, 46)
theorem dX11_as_0 : decode mX11_as.2.1 0 = .ok (.aload_n 0, 1) := by decide +kernel
theorem dX11_as_1 : decode mX11_as.2.1 1 = .ok (.iload_n 1, 1) := by decide +kernel
theorem dX11_as_2 : decode mX11_as.2.1 2 = .ok (.invokevirtual 563, 3) := by decide +kernel
theorem dX11_as_5 : decode mX11_as.2.1 5 = .ok (.ifCond .eq 15, 3) := by decide +kernel
theorem dX11_as_8 : decode mX11_as.2.1 8 = .ok (.iload_n 2, 1) := by decide +kernel
theorem dX11_as_9 : decode mX11_as.2.1 9 = .ok (.i2l, 1) := by decide +kernel
theorem dX11_as_10 : decode mX11_as.2.1 10 = .ok (.lconst 0, 1) := by decide +kernel
theorem dX11_as_11 : decode mX11_as.2.1 11 = .ok (.ldc2_w 569, 3) := by decide +kernel
theorem dX11_as_14 : decode mX11_as.2.1 14 = .ok (.invokestatic 220, 3) := by decide +kernel
theorem dX11_as_17 : decode mX11_as.2.1 17 = .ok (.ifCond .ne 6, 3) := by decide +kernel
theorem dX11_as_20 : decode mX11_as.2.1 20 = .ok (.ldc 224, 2) := by decide +kernel
theorem dX11_as_22 : decode mX11_as.2.1 22 = .ok (.ireturn, 1) := by decide +kernel
theorem dX11_as_23 : decode mX11_as.2.1 23 = .ok (.aload_n 0, 1) := by decide +kernel
theorem dX11_as_24 : decode mX11_as.2.1 24 = .ok (.iconst 0, 1) := by decide +kernel
theorem dX11_as_25 : decode mX11_as.2.1 25 = .ok (.putfield 544, 3) := by decide +kernel
theorem dX11_as_28 : decode mX11_as.2.1 28 = .ok (.aload_n 0, 1) := by decide +kernel
theorem dX11_as_29 : decode mX11_as.2.1 29 = .ok (.getfield 48, 3) := by decide +kernel
theorem dX11_as_32 : decode mX11_as.2.1 32 = .ok (.iload_n 1, 1) := by decide +kernel
theorem dX11_as_33 : decode mX11_as.2.1 33 = .ok (.iaload, 1) := by decide +kernel
theorem dX11_as_34 : decode mX11_as.2.1 34 = .ok (.iload_n 2, 1) := by decide +kernel
theorem dX11_as_35 : decode mX11_as.2.1 35 = .ok (.invokestatic 571, 3) := by decide +kernel
theorem dX11_as_38 : decode mX11_as.2.1 38 = .ok (.ifCond .eq 12, 3) := by decide +kernel
theorem dX11_as_41 : decode mX11_as.2.1 41 = .ok (.aload_n 0, 1) := by decide +kernel
theorem dX11_as_42 : decode mX11_as.2.1 42 = .ok (.getfield 51, 3) := by decide +kernel
theorem dX11_as_45 : decode mX11_as.2.1 45 = .ok (.iload_n 1, 1) := by decide +kernel
theorem dX11_as_46 : decode mX11_as.2.1 46 = .ok (.iaload, 1) := by decide +kernel
theorem dX11_as_47 : decode mX11_as.2.1 47 = .ok (.goto 8, 3) := by decide +kernel
theorem dX11_as_50 : decode mX11_as.2.1 50 = .ok (.aload_n 0, 1) := by decide +kernel
theorem dX11_as_51 : decode mX11_as.2.1 51 = .ok (.iconst 3, 1) := by decide +kernel
theorem dX11_as_52 : decode mX11_as.2.1 52 = .ok (.invokevirtual 560, 3) := by decide +kernel
theorem dX11_as_55 : decode mX11_as.2.1 55 = .ok (.ireturn, 1) := by decide +kernel
theorem okX11_as_563 : gOkV mX11_as mX11_isPart 563 1 := ⟨List.forall_mem_cons.mpr ⟨(gm 1850 (by decide +kernel) rfl), List.forall_mem_cons.mpr ⟨(gm 1847 (by decide +kernel) rfl), List.forall_mem_cons.mpr ⟨(gm 1849 (by decide +kernel) rfl), List.forall_mem_cons.mpr ⟨(gm 99 (by decide +kernel) rfl), List.forall_mem_cons.mpr ⟨(gm 122 (by decide +kernel) rfl), fun _ h => absurd h List.not_mem_nil⟩⟩⟩⟩⟩, by decide +kernel, by decide +kernel, by decide +kernel⟩
theorem okX11_as_220 : gOkS mX11_as mX11_in 220 3 := ⟨List.forall_mem_cons.mpr ⟨(gm 1539 (by decide +kernel) rfl), List.forall_mem_cons.mpr ⟨(gm 1537 (by decide +kernel) rfl), List.forall_mem_cons.mpr ⟨(gm 1538 (by decide +kernel) rfl), List.forall_mem_cons.mpr ⟨(gm 122 (by decide +kernel) rfl), fun _ h => absurd h List.not_mem_nil⟩⟩⟩⟩, by decide +kernel, by decide +kernel, by decide +kernel⟩
theorem okX11_as_571 : gOkS mX11_as mX11_isOf 571 2 := ⟨List.forall_mem_cons.mpr ⟨(gm 1883 (by decide +kernel) rfl), List.forall_mem_cons.mpr ⟨(gm 1881 (by decide +kernel) rfl), List.forall_mem_cons.mpr ⟨(gm 1882 (by decide +kernel) rfl), List.forall_mem_cons.mpr ⟨(gm 122 (by decide +kernel) rfl), fun _ h => absurd h List.not_mem_nil⟩⟩⟩⟩, by decide +kernel, by decide +kernel, by decide +kernel⟩
theorem okX11_as_560 : gOkV mX11_as mX11_finds 560 1 := ⟨List.forall_mem_cons.mpr ⟨(gm 1870 (by decide +kernel) rfl), List.forall_mem_cons.mpr ⟨(gm 1867 (by decide +kernel) rfl), List.forall_mem_cons.mpr ⟨(gm 1869 (by decide +kernel) rfl), List.forall_mem_cons.mpr ⟨(gm 104 (by decide +kernel) rfl), List.forall_mem_cons.mpr ⟨(gm 122 (by decide +kernel) rfl), fun _ h => absurd h List.not_mem_nil⟩⟩⟩⟩⟩, by decide +kernel, by decide +kernel, by decide +kernel⟩
def fX11_as_20 (p1 : Int32) (p2 : Int32) (σ : gS) : Option (Int32 × gS) :=
  some ((-1000001), σ)
set_option maxHeartbeats 4000000 in
set_option maxRecDepth 100000 in
theorem pX11_as_20 {E : gE} {p1 : Int32} {p2 : Int32} {r : Int32} {σ' : gS} {σ : gS} (h : fX11_as_20 p1 p2 σ = some (r, σ')) : gG E mX11_as 20 [] [] σ (some (.int r)) σ' := by
  unfold fX11_as_20 at h
  refine g_ldc (v := (-1000001)) dX11_as_20 wc_RX11_224 ?_
  obtain ⟨rfl, rfl⟩ := so_inj h
  exact g_iret dX11_as_22 rfl
def fX11_as_55 (p1 : Int32) (p2 : Int32) (s0 : Int32) (σ : gS) : Option (Int32 × gS) :=
  some (s0, σ)
set_option maxHeartbeats 4000000 in
set_option maxRecDepth 100000 in
theorem pX11_as_55 {E : gE} {p1 : Int32} {p2 : Int32} {r : Int32} {σ' : gS} {s0 : Int32} {σ : gS} (h : fX11_as_55 p1 p2 s0 σ = some (r, σ')) : gG E mX11_as 55 [] [.int s0] σ (some (.int r)) σ' := by
  unfold fX11_as_55 at h
  obtain ⟨rfl, rfl⟩ := so_inj h
  exact g_iret dX11_as_55 rfl
def fX11_as (p1 : Int32) (p2 : Int32) (σ : gS) : Option (Int32 × gS) :=
  bd (fX11_isPart p1 σ) fun x1 σ2 =>
  if x1 = 0 then
    fX11_as_20 p1 p2 σ2
  else
    bd (fX11_in p2.toInt64 0 6 σ2) fun x5 σ6 =>
    if x5 = 0 then
      fX11_as_20 p1 p2 σ6
    else
      bnd (gsI σ6 168 94 0) fun σ9 =>
      gg (¬ (p1 < 0 ∨ 130 ≤ p1.toNatClampNeg)) (
      bd (fX11_isOf (σ9.1 181 p1.toNatClampNeg) p2 σ9) fun x11 σ12 =>
      if x11 = 0 then
        bd (fX11_finds 3 σ12) fun x15 σ16 =>
        fX11_as_55 p1 p2 x15 σ16
      else
        gg (¬ (p1 < 0 ∨ 130 ≤ p1.toNatClampNeg)) (
        fX11_as_55 p1 p2 (σ12.1 182 p1.toNatClampNeg) σ12))
set_option maxHeartbeats 4000000 in
set_option maxRecDepth 100000 in
theorem pX11_as {E : gE} {p1 : Int32} {p2 : Int32} {r : Int32} {σ' : gS} {σ : gS} (h : fX11_as p1 p2 σ = some (r, σ')) : gG E mX11_as 0 [(0, .ref 168), (1, .int p1), (2, .int p2)] [] σ (some (.int r)) σ' := by
  unfold fX11_as at h
  refine g_aload_n dX11_as_0 rfl 0 rfl ?_
  refine g_iload_n dX11_as_1 rfl 1 rfl ?_
  obtain ⟨x1, σ2, y3, h⟩ := bd_some h
  refine g_callVr (as := [.int p1]) (st := []) (zX11_isPart y3) dX11_as_2 gi_168 rfl okX11_as_563 (Nat.le_of_ble_eq_true rfl) ?_
  refine g_if_eq (t := 20) dX11_as_5 (by decide) (fun c4 => ?_) (fun c4 => ?_)
  · replace h := if_t h c4
    refine g_sub [] rfl ?_
    exact pX11_as_20 h
  · replace h := if_f h c4
    refine g_iload_n dX11_as_8 rfl 2 rfl ?_
    refine g_i2l dX11_as_9 ?_
    refine g_lconst (v := 0) dX11_as_10 (by decide) ?_
    refine g_ldc2 (v := 6) dX11_as_11 wl_RX11_569 ?_
    obtain ⟨x5, σ6, y7, h⟩ := bd_some h
    refine g_callSr (as := [.long p2.toInt64, .long 0, .long 6]) (st := []) (zX11_in y7) dX11_as_14 okX11_as_220 (Nat.le_of_ble_eq_true rfl) ?_
    refine g_if_ne (t := 23) dX11_as_17 (by decide) (fun c8 => ?_) (fun c8 => ?_)
    · replace h := if_f h c8
      refine g_aload_n dX11_as_23 rfl 0 rfl ?_
      refine g_iconst (v := 0) dX11_as_24 (by decide) ?_
      obtain ⟨σ9, eσ9, h⟩ := bnd_nm h
      refine g_putI dX11_as_25 gi_168 rfl fp_RX11_544 (g_st eσ9 ?_)
      refine g_aload_n dX11_as_28 rfl 0 rfl ?_
      refine g_getC (n := 181) dX11_as_29 gi_168 rfl fl_RX11_48 ?_
      refine g_iload_n dX11_as_32 rfl 1 rfl ?_
      obtain ⟨g10, h⟩ := gg_some h
      refine g_iald dX11_as_33 gi_181 g10 ?_
      refine g_iload_n dX11_as_34 rfl 2 rfl ?_
      obtain ⟨x11, σ12, y13, h⟩ := bd_some h
      refine g_callSr (as := [.int (σ9.1 181 p1.toNatClampNeg), .int p2]) (st := []) (zX11_isOf y13) dX11_as_35 okX11_as_571 (Nat.le_of_ble_eq_true rfl) ?_
      refine g_if_eq (t := 50) dX11_as_38 (by decide) (fun c14 => ?_) (fun c14 => ?_)
      · replace h := if_t h c14
        refine g_aload_n dX11_as_50 rfl 0 rfl ?_
        refine g_iconst (v := 3) dX11_as_51 (by decide) ?_
        obtain ⟨x15, σ16, y17, h⟩ := bd_some h
        refine g_callVr (as := [.int 3]) (st := []) (zX11_finds y17) dX11_as_52 gi_168 rfl okX11_as_560 (Nat.le_of_ble_eq_true rfl) ?_
        refine g_sub [] rfl ?_
        exact pX11_as_55 h
      · replace h := if_f h c14
        refine g_aload_n dX11_as_41 rfl 0 rfl ?_
        refine g_getC (n := 182) dX11_as_42 gi_168 rfl fl_RX11_51 ?_
        refine g_iload_n dX11_as_45 rfl 1 rfl ?_
        obtain ⟨g18, h⟩ := gg_some h
        refine g_iald dX11_as_46 gi_182 g18 ?_
        refine g_goto (t := 55) dX11_as_47 (by decide) ?_
        refine g_sub [] rfl ?_
        exact pX11_as_55 h
    · replace h := if_t h c8
      refine g_sub [] rfl ?_
      exact pX11_as_20 h
theorem zX11_as {E : gE} {p1 : Int32} {p2 : Int32} {r : Int32} {σ σ' : gS} (h : fX11_as p1 p2 σ = some (r, σ')) : gC E mX11_as [.ref 168, .int p1, .int p2] σ (some (.int r)) σ' :=
  gC_of (by decide +kernel) rfl (Nat.le_of_ble_eq_true rfl) (pX11_as h)
theorem wl_RX11_574 : Cond.constantLong RX11 574 7 ∈ gWS := (gm 1895 (by decide +kernel) rfl)
def mX11_isRow : gM := (yX11_isRow, cX11_isRow, RX11, 1, (some .boolean), 1, 25)
theorem dX11_isRow_0 : decode mX11_isRow.2.1 0 = .ok (.iload_n 0, 1) := by decide +kernel
theorem dX11_isRow_1 : decode mX11_isRow.2.1 1 = .ok (.i2l, 1) := by decide +kernel
theorem dX11_isRow_2 : decode mX11_isRow.2.1 2 = .ok (.lconst 0, 1) := by decide +kernel
theorem dX11_isRow_3 : decode mX11_isRow.2.1 3 = .ok (.ldc2_w 574, 3) := by decide +kernel
theorem dX11_isRow_6 : decode mX11_isRow.2.1 6 = .ok (.invokestatic 220, 3) := by decide +kernel
theorem dX11_isRow_9 : decode mX11_isRow.2.1 9 = .ok (.ireturn, 1) := by decide +kernel
theorem okX11_isRow_220 : gOkS mX11_isRow mX11_in 220 3 := ⟨List.forall_mem_cons.mpr ⟨(gm 1539 (by decide +kernel) rfl), List.forall_mem_cons.mpr ⟨(gm 1537 (by decide +kernel) rfl), List.forall_mem_cons.mpr ⟨(gm 1538 (by decide +kernel) rfl), List.forall_mem_cons.mpr ⟨(gm 122 (by decide +kernel) rfl), fun _ h => absurd h List.not_mem_nil⟩⟩⟩⟩, by decide +kernel, by decide +kernel, by decide +kernel⟩
def fX11_isRow (p1 : Int32) (σ : gS) : Option (Int32 × gS) :=
  bd (fX11_in p1.toInt64 0 7 σ) fun x1 σ2 =>
  gg (x1 = 0 ∨ x1 = 1) (
  some (x1, σ2))
set_option maxHeartbeats 4000000 in
set_option maxRecDepth 100000 in
theorem pX11_isRow {E : gE} {p1 : Int32} {r : Int32} {σ' : gS} {σ : gS} (h : fX11_isRow p1 σ = some (r, σ')) : gG E mX11_isRow 0 [(0, .int p1)] [] σ (some (.int r)) σ' := by
  unfold fX11_isRow at h
  refine g_iload_n dX11_isRow_0 rfl 0 rfl ?_
  refine g_i2l dX11_isRow_1 ?_
  refine g_lconst (v := 0) dX11_isRow_2 (by decide) ?_
  refine g_ldc2 (v := 7) dX11_isRow_3 wl_RX11_574 ?_
  obtain ⟨x1, σ2, y3, h⟩ := bd_some h
  refine g_callSr (as := [.long p1.toInt64, .long 0, .long 7]) (st := []) (zX11_in y3) dX11_isRow_6 okX11_isRow_220 (Nat.le_of_ble_eq_true rfl) ?_
  obtain ⟨g4, h⟩ := gg_some h
  obtain ⟨rfl, rfl⟩ := so_inj h
  exact g_zret dX11_isRow_9 rfl g4
theorem zX11_isRow {E : gE} {p1 : Int32} {r : Int32} {σ σ' : gS} (h : fX11_isRow p1 σ = some (r, σ')) : gC E mX11_isRow [.int p1] σ (some (.int r)) σ' :=
  gC_of (by decide +kernel) rfl (Nat.le_of_ble_eq_true rfl) (pX11_isRow h)
def mX11_cut : gM := (yX11_cut, cX11_cut, RX11, 3, (some .long), 0, 0)
theorem dX11_cut_0 : decode mX11_cut.2.1 0 = .ok (.iload_n 0, 1) := by decide +kernel
theorem dX11_cut_1 : decode mX11_cut.2.1 1 = .ok (.iconst 1, 1) := by decide +kernel
theorem dX11_cut_2 : decode mX11_cut.2.1 2 = .ok (.if_icmp .ne 10, 3) := by decide +kernel
theorem dX11_cut_5 : decode mX11_cut.2.1 5 = .ok (.lload_n 1, 1) := by decide +kernel
theorem dX11_cut_6 : decode mX11_cut.2.1 6 = .ok (.l2i, 1) := by decide +kernel
theorem dX11_cut_7 : decode mX11_cut.2.1 7 = .ok (.i2b, 1) := by decide +kernel
theorem dX11_cut_8 : decode mX11_cut.2.1 8 = .ok (.i2l, 1) := by decide +kernel
theorem dX11_cut_9 : decode mX11_cut.2.1 9 = .ok (.goto 27, 3) := by decide +kernel
theorem dX11_cut_12 : decode mX11_cut.2.1 12 = .ok (.iload_n 0, 1) := by decide +kernel
theorem dX11_cut_13 : decode mX11_cut.2.1 13 = .ok (.iconst 2, 1) := by decide +kernel
theorem dX11_cut_14 : decode mX11_cut.2.1 14 = .ok (.if_icmp .ne 10, 3) := by decide +kernel
theorem dX11_cut_17 : decode mX11_cut.2.1 17 = .ok (.lload_n 1, 1) := by decide +kernel
theorem dX11_cut_18 : decode mX11_cut.2.1 18 = .ok (.l2i, 1) := by decide +kernel
theorem dX11_cut_19 : decode mX11_cut.2.1 19 = .ok (.i2s, 1) := by decide +kernel
theorem dX11_cut_20 : decode mX11_cut.2.1 20 = .ok (.i2l, 1) := by decide +kernel
theorem dX11_cut_21 : decode mX11_cut.2.1 21 = .ok (.goto 15, 3) := by decide +kernel
theorem dX11_cut_24 : decode mX11_cut.2.1 24 = .ok (.iload_n 0, 1) := by decide +kernel
theorem dX11_cut_25 : decode mX11_cut.2.1 25 = .ok (.iconst 3, 1) := by decide +kernel
theorem dX11_cut_26 : decode mX11_cut.2.1 26 = .ok (.if_icmp .ne 9, 3) := by decide +kernel
theorem dX11_cut_29 : decode mX11_cut.2.1 29 = .ok (.lload_n 1, 1) := by decide +kernel
theorem dX11_cut_30 : decode mX11_cut.2.1 30 = .ok (.l2i, 1) := by decide +kernel
theorem dX11_cut_31 : decode mX11_cut.2.1 31 = .ok (.i2l, 1) := by decide +kernel
theorem dX11_cut_32 : decode mX11_cut.2.1 32 = .ok (.goto 4, 3) := by decide +kernel
theorem dX11_cut_35 : decode mX11_cut.2.1 35 = .ok (.lload_n 1, 1) := by decide +kernel
theorem dX11_cut_36 : decode mX11_cut.2.1 36 = .ok (.lreturn, 1) := by decide +kernel
def fX11_cut_36 (p1 : Int32) (p2 : Int64) (s0 : Int64) (σ : gS) : Option (Int64 × gS) :=
  some (s0, σ)
set_option maxHeartbeats 4000000 in
set_option maxRecDepth 100000 in
theorem pX11_cut_36 {E : gE} {p1 : Int32} {p2 : Int64} {r : Int64} {σ' : gS} {s0 : Int64} {σ : gS} (h : fX11_cut_36 p1 p2 s0 σ = some (r, σ')) : gG E mX11_cut 36 [] [.long s0] σ (some (.long r)) σ' := by
  unfold fX11_cut_36 at h
  obtain ⟨rfl, rfl⟩ := so_inj h
  exact g_lret dX11_cut_36 rfl
def fX11_cut (p1 : Int32) (p2 : Int64) (σ : gS) : Option (Int64 × gS) :=
  if p1 = 1 then
    fX11_cut_36 p1 p2 p2.toInt32.toInt8.toInt32.toInt64 σ
  else
    if p1 = 2 then
      fX11_cut_36 p1 p2 p2.toInt32.toInt16.toInt32.toInt64 σ
    else
      if p1 = 3 then
        fX11_cut_36 p1 p2 p2.toInt32.toInt64 σ
      else
        fX11_cut_36 p1 p2 p2 σ
set_option maxHeartbeats 4000000 in
set_option maxRecDepth 100000 in
theorem pX11_cut {E : gE} {p1 : Int32} {p2 : Int64} {r : Int64} {σ' : gS} {σ : gS} (h : fX11_cut p1 p2 σ = some (r, σ')) : gG E mX11_cut 0 [(0, .int p1), (1, .long p2)] [] σ (some (.long r)) σ' := by
  unfold fX11_cut at h
  refine g_iload_n dX11_cut_0 rfl 0 rfl ?_
  refine g_iconst (v := 1) dX11_cut_1 (by decide) ?_
  refine g_icmp_ne (t := 12) dX11_cut_2 (by decide) (fun c1 => ?_) (fun c1 => ?_)
  · replace h := if_f h c1
    refine g_iload_n dX11_cut_12 rfl 0 rfl ?_
    refine g_iconst (v := 2) dX11_cut_13 (by decide) ?_
    refine g_icmp_ne (t := 24) dX11_cut_14 (by decide) (fun c2 => ?_) (fun c2 => ?_)
    · replace h := if_f h c2
      refine g_iload_n dX11_cut_24 rfl 0 rfl ?_
      refine g_iconst (v := 3) dX11_cut_25 (by decide) ?_
      refine g_icmp_ne (t := 35) dX11_cut_26 (by decide) (fun c3 => ?_) (fun c3 => ?_)
      · replace h := if_f h c3
        refine g_lload_n dX11_cut_35 rfl 1 rfl ?_
        refine g_sub [] rfl ?_
        exact pX11_cut_36 h
      · replace h := if_t h c3
        refine g_lload_n dX11_cut_29 rfl 1 rfl ?_
        refine g_l2i dX11_cut_30 ?_
        refine g_i2l dX11_cut_31 ?_
        refine g_goto (t := 36) dX11_cut_32 (by decide) ?_
        refine g_sub [] rfl ?_
        exact pX11_cut_36 h
    · replace h := if_t h c2
      refine g_lload_n dX11_cut_17 rfl 1 rfl ?_
      refine g_l2i dX11_cut_18 ?_
      refine g_i2s dX11_cut_19 ?_
      refine g_i2l dX11_cut_20 ?_
      refine g_goto (t := 36) dX11_cut_21 (by decide) ?_
      refine g_sub [] rfl ?_
      exact pX11_cut_36 h
  · replace h := if_t h c1
    refine g_lload_n dX11_cut_5 rfl 1 rfl ?_
    refine g_l2i dX11_cut_6 ?_
    refine g_i2b dX11_cut_7 ?_
    refine g_i2l dX11_cut_8 ?_
    refine g_goto (t := 36) dX11_cut_9 (by decide) ?_
    refine g_sub [] rfl ?_
    exact pX11_cut_36 h
theorem zX11_cut {E : gE} {p1 : Int32} {p2 : Int64} {r : Int64} {σ σ' : gS} (h : fX11_cut p1 p2 σ = some (r, σ')) : gC E mX11_cut [.int p1, .long p2] σ (some (.long r)) σ' :=
  gC_of (by decide +kernel) rfl (Nat.le_of_ble_eq_true rfl) (pX11_cut h)
theorem fl_RX11_212 : gFl RX11 212 11 99 := ⟨RX11, TX11, 101, rfl, by decide, ux_11, Or.inl (gm 1327 (by decide +kernel) rfl)⟩
theorem fl_RX11_206 : gFl RX11 206 11 97 := ⟨RX11, TX11, 101, rfl, by decide, ux_11, Or.inl (gm 1325 (by decide +kernel) rfl)⟩
theorem fl_RX11_209 : gFl RX11 209 11 98 := ⟨RX11, TX11, 101, rfl, by decide, ux_11, Or.inl (gm 1326 (by decide +kernel) rfl)⟩
def mX11_lay : gM := (yX11_lay, cX11_lay, RX11, 5, (some .int), 2, 45)
theorem dX11_lay_0 : decode mX11_lay.2.1 0 = .ok (.iload_n 1, 1) := by decide +kernel
theorem dX11_lay_1 : decode mX11_lay.2.1 1 = .ok (.invokestatic 576, 3) := by decide +kernel
theorem dX11_lay_4 : decode mX11_lay.2.1 4 = .ok (.ifCond .eq 22, 3) := by decide +kernel
theorem dX11_lay_7 : decode mX11_lay.2.1 7 = .ok (.iload_n 2, 1) := by decide +kernel
theorem dX11_lay_8 : decode mX11_lay.2.1 8 = .ok (.i2l, 1) := by decide +kernel
theorem dX11_lay_9 : decode mX11_lay.2.1 9 = .ok (.lconst 0, 1) := by decide +kernel
theorem dX11_lay_10 : decode mX11_lay.2.1 10 = .ok (.ldc2_w 396, 3) := by decide +kernel
theorem dX11_lay_13 : decode mX11_lay.2.1 13 = .ok (.invokestatic 220, 3) := by decide +kernel
theorem dX11_lay_16 : decode mX11_lay.2.1 16 = .ok (.ifCond .eq 10, 3) := by decide +kernel
theorem dX11_lay_19 : decode mX11_lay.2.1 19 = .ok (.iload_n 3, 1) := by decide +kernel
theorem dX11_lay_20 : decode mX11_lay.2.1 20 = .ok (.sipush 300, 3) := by decide +kernel
theorem dX11_lay_23 : decode mX11_lay.2.1 23 = .ok (.if_icmp .le 6, 3) := by decide +kernel
theorem dX11_lay_26 : decode mX11_lay.2.1 26 = .ok (.ldc 224, 2) := by decide +kernel
theorem dX11_lay_28 : decode mX11_lay.2.1 28 = .ok (.ireturn, 1) := by decide +kernel
theorem dX11_lay_29 : decode mX11_lay.2.1 29 = .ok (.aload_n 0, 1) := by decide +kernel
theorem dX11_lay_30 : decode mX11_lay.2.1 30 = .ok (.iconst 0, 1) := by decide +kernel
theorem dX11_lay_31 : decode mX11_lay.2.1 31 = .ok (.putfield 544, 3) := by decide +kernel
theorem dX11_lay_34 : decode mX11_lay.2.1 34 = .ok (.iload_n 3, 1) := by decide +kernel
theorem dX11_lay_35 : decode mX11_lay.2.1 35 = .ok (.ifCond .ge 9, 3) := by decide +kernel
theorem dX11_lay_38 : decode mX11_lay.2.1 38 = .ok (.aload_n 0, 1) := by decide +kernel
theorem dX11_lay_39 : decode mX11_lay.2.1 39 = .ok (.iconst 4, 1) := by decide +kernel
theorem dX11_lay_40 : decode mX11_lay.2.1 40 = .ok (.invokevirtual 560, 3) := by decide +kernel
theorem dX11_lay_43 : decode mX11_lay.2.1 43 = .ok (.ireturn, 1) := by decide +kernel
theorem dX11_lay_44 : decode mX11_lay.2.1 44 = .ok (.aload_n 0, 1) := by decide +kernel
theorem dX11_lay_45 : decode mX11_lay.2.1 45 = .ok (.getfield 206, 3) := by decide +kernel
theorem dX11_lay_48 : decode mX11_lay.2.1 48 = .ok (.iload_n 1, 1) := by decide +kernel
theorem dX11_lay_49 : decode mX11_lay.2.1 49 = .ok (.iload_n 2, 1) := by decide +kernel
theorem dX11_lay_50 : decode mX11_lay.2.1 50 = .ok (.iconst 1, 1) := by decide +kernel
theorem dX11_lay_51 : decode mX11_lay.2.1 51 = .ok (.iadd, 1) := by decide +kernel
theorem dX11_lay_52 : decode mX11_lay.2.1 52 = .ok (.iastore, 1) := by decide +kernel
theorem dX11_lay_53 : decode mX11_lay.2.1 53 = .ok (.aload_n 0, 1) := by decide +kernel
theorem dX11_lay_54 : decode mX11_lay.2.1 54 = .ok (.getfield 209, 3) := by decide +kernel
theorem dX11_lay_57 : decode mX11_lay.2.1 57 = .ok (.iload_n 1, 1) := by decide +kernel
theorem dX11_lay_58 : decode mX11_lay.2.1 58 = .ok (.iload_n 3, 1) := by decide +kernel
theorem dX11_lay_59 : decode mX11_lay.2.1 59 = .ok (.iastore, 1) := by decide +kernel
theorem dX11_lay_60 : decode mX11_lay.2.1 60 = .ok (.iconst 0, 1) := by decide +kernel
theorem dX11_lay_61 : decode mX11_lay.2.1 61 = .ok (.istore 4, 2) := by decide +kernel
theorem dX11_lay_63 : decode mX11_lay.2.1 63 = .ok (.iload 4, 2) := by decide +kernel
theorem dX11_lay_65 : decode mX11_lay.2.1 65 = .ok (.iload_n 3, 1) := by decide +kernel
theorem dX11_lay_66 : decode mX11_lay.2.1 66 = .ok (.if_icmp .ge 23, 3) := by decide +kernel
theorem dX11_lay_69 : decode mX11_lay.2.1 69 = .ok (.aload_n 0, 1) := by decide +kernel
theorem dX11_lay_70 : decode mX11_lay.2.1 70 = .ok (.getfield 212, 3) := by decide +kernel
theorem dX11_lay_73 : decode mX11_lay.2.1 73 = .ok (.sipush 300, 3) := by decide +kernel
theorem dX11_lay_76 : decode mX11_lay.2.1 76 = .ok (.iload_n 1, 1) := by decide +kernel
theorem dX11_lay_77 : decode mX11_lay.2.1 77 = .ok (.imul, 1) := by decide +kernel
theorem dX11_lay_78 : decode mX11_lay.2.1 78 = .ok (.iload 4, 2) := by decide +kernel
theorem dX11_lay_80 : decode mX11_lay.2.1 80 = .ok (.iadd, 1) := by decide +kernel
theorem dX11_lay_81 : decode mX11_lay.2.1 81 = .ok (.lconst 0, 1) := by decide +kernel
theorem dX11_lay_82 : decode mX11_lay.2.1 82 = .ok (.lastore, 1) := by decide +kernel
theorem dX11_lay_83 : decode mX11_lay.2.1 83 = .ok (.iinc 4 1, 3) := by decide +kernel
theorem dX11_lay_86 : decode mX11_lay.2.1 86 = .ok (.goto (-23), 3) := by decide +kernel
theorem dX11_lay_89 : decode mX11_lay.2.1 89 = .ok (.iload_n 3, 1) := by decide +kernel
theorem dX11_lay_90 : decode mX11_lay.2.1 90 = .ok (.ireturn, 1) := by decide +kernel
theorem okX11_lay_576 : gOkS mX11_lay mX11_isRow 576 1 := ⟨List.forall_mem_cons.mpr ⟨(gm 1894 (by decide +kernel) rfl), List.forall_mem_cons.mpr ⟨(gm 1892 (by decide +kernel) rfl), List.forall_mem_cons.mpr ⟨(gm 1893 (by decide +kernel) rfl), List.forall_mem_cons.mpr ⟨(gm 122 (by decide +kernel) rfl), fun _ h => absurd h List.not_mem_nil⟩⟩⟩⟩, by decide +kernel, by decide +kernel, by decide +kernel⟩
theorem okX11_lay_220 : gOkS mX11_lay mX11_in 220 3 := ⟨List.forall_mem_cons.mpr ⟨(gm 1539 (by decide +kernel) rfl), List.forall_mem_cons.mpr ⟨(gm 1537 (by decide +kernel) rfl), List.forall_mem_cons.mpr ⟨(gm 1538 (by decide +kernel) rfl), List.forall_mem_cons.mpr ⟨(gm 122 (by decide +kernel) rfl), fun _ h => absurd h List.not_mem_nil⟩⟩⟩⟩, by decide +kernel, by decide +kernel, by decide +kernel⟩
theorem okX11_lay_560 : gOkV mX11_lay mX11_finds 560 1 := ⟨List.forall_mem_cons.mpr ⟨(gm 1870 (by decide +kernel) rfl), List.forall_mem_cons.mpr ⟨(gm 1867 (by decide +kernel) rfl), List.forall_mem_cons.mpr ⟨(gm 1869 (by decide +kernel) rfl), List.forall_mem_cons.mpr ⟨(gm 104 (by decide +kernel) rfl), List.forall_mem_cons.mpr ⟨(gm 122 (by decide +kernel) rfl), fun _ h => absurd h List.not_mem_nil⟩⟩⟩⟩⟩, by decide +kernel, by decide +kernel, by decide +kernel⟩
def fX11_lay_26 (p1 : Int32) (p2 : Int32) (p3 : Int32) (σ : gS) : Option (Int32 × gS) :=
  some ((-1000001), σ)
set_option maxHeartbeats 4000000 in
set_option maxRecDepth 100000 in
theorem pX11_lay_26 {E : gE} {p1 : Int32} {p2 : Int32} {p3 : Int32} {r : Int32} {σ' : gS} {σ : gS} (h : fX11_lay_26 p1 p2 p3 σ = some (r, σ')) : gG E mX11_lay 26 [] [] σ (some (.int r)) σ' := by
  unfold fX11_lay_26 at h
  refine g_ldc (v := (-1000001)) dX11_lay_26 wc_RX11_224 ?_
  obtain ⟨rfl, rfl⟩ := so_inj h
  exact g_iret dX11_lay_28 rfl
def fX11_lay_63 (p1 : Int32) (p2 : Int32) (p3 : Int32) : Nat → Int32 → gS → Option (Int32 × gS)
  | 0, _, _ => none
  | n + 1, v4, σ => if p3 ≤ v4 then
    some (p3, σ)
  else
    gg (¬ ((300 * p1) + v4 < 0 ∨ 2400 ≤ ((300 * p1) + v4).toNatClampNeg)) (
    bnd (gsJ σ 231 (((300 * p1) + v4).toNatClampNeg) 0) fun σ3 =>
    bnd (v4 + 1) fun x4 =>
    fX11_lay_63 p1 p2 p3 n x4 σ3)
set_option maxHeartbeats 4000000 in
set_option maxRecDepth 100000 in
theorem pX11_lay_63 {E : gE} {p1 : Int32} {p2 : Int32} {p3 : Int32} {r : Int32} {σ' : gS} : ∀ (n : Nat) (v4 : Int32) (σ : gS), fX11_lay_63 p1 p2 p3 n v4 σ = some (r, σ') → gG E mX11_lay 63 [(0, .ref 168), (1, .int p1), (3, .int p3), (4, .int v4)] [] σ (some (.int r)) σ' := by
  intro n
  induction n with
  | zero => intro v4 σ h; exact absurd (show none = some (r, σ') from h) (by intro q; cases q)
  | succ n ih =>
  intro v4 σ h
  unfold fX11_lay_63 at h
  refine g_iload dX11_lay_63 3 rfl ?_
  refine g_iload_n dX11_lay_65 rfl 2 rfl ?_
  refine g_icmp_ge (t := 89) dX11_lay_66 (by decide) (fun c1 => ?_) (fun c1 => ?_)
  · replace h := if_t h c1
    refine g_iload_n dX11_lay_89 rfl 2 rfl ?_
    obtain ⟨rfl, rfl⟩ := so_inj h
    exact g_iret dX11_lay_90 rfl
  · replace h := if_f h c1
    refine g_aload_n dX11_lay_69 rfl 0 rfl ?_
    refine g_getC (n := 231) dX11_lay_70 gi_168 rfl fl_RX11_212 ?_
    refine g_sipush (v := 300) dX11_lay_73 (by decide) ?_
    refine g_iload_n dX11_lay_76 rfl 1 rfl ?_
    refine g_imul dX11_lay_77 ?_
    refine g_iload dX11_lay_78 3 rfl ?_
    refine g_iadd dX11_lay_80 ?_
    refine g_lconst (v := 0) dX11_lay_81 (by decide) ?_
    obtain ⟨g2, h⟩ := gg_some h
    obtain ⟨σ3, eσ3, h⟩ := bnd_nm h
    refine g_last dX11_lay_82 gi_231 g2 (g_st eσ3 ?_)
    obtain ⟨x4, ex4, h⟩ := bnd_nm h
    refine g_iinc (j := 3) (v := x4) (lv' := [(4, .int x4), (0, .ref 168), (1, .int p1), (3, .int p3)]) dX11_lay_83 rfl (by rw [ex4]; rfl) (Nat.le_of_ble_eq_true rfl) rfl ?_
    refine g_goto (t := 63) dX11_lay_86 (by decide) ?_
    refine g_sub [1, 2, 3, 0] rfl ?_
    exact ih x4 σ3 h
def fX11_lay (p1 : Int32) (p2 : Int32) (p3 : Int32) (σ : gS) : Option (Int32 × gS) :=
  bd (fX11_isRow p1 σ) fun x1 σ2 =>
  if x1 = 0 then
    fX11_lay_26 p1 p2 p3 σ2
  else
    bd (fX11_in p2.toInt64 0 3 σ2) fun x5 σ6 =>
    if x5 = 0 then
      fX11_lay_26 p1 p2 p3 σ6
    else
      if p3 ≤ 300 then
        bnd (gsI σ6 168 94 0) fun σ10 =>
        if 0 ≤ p3 then
          gg (¬ (p1 < 0 ∨ 8 ≤ p1.toNatClampNeg)) (
          bnd (gsI σ10 229 p1.toNatClampNeg (p2 + 1)) fun σ13 =>
          gg (¬ (p1 < 0 ∨ 8 ≤ p1.toNatClampNeg)) (
          bnd (gsI σ13 230 p1.toNatClampNeg p3) fun σ15 =>
          fX11_lay_63 p1 p2 p3 2000 0 σ15))
        else
          bd (fX11_finds 4 σ10) fun x16 σ17 =>
          some (x16, σ17)
      else
        fX11_lay_26 p1 p2 p3 σ6
set_option maxHeartbeats 4000000 in
set_option maxRecDepth 100000 in
theorem pX11_lay {E : gE} {p1 : Int32} {p2 : Int32} {p3 : Int32} {r : Int32} {σ' : gS} {σ : gS} (h : fX11_lay p1 p2 p3 σ = some (r, σ')) : gG E mX11_lay 0 [(0, .ref 168), (1, .int p1), (2, .int p2), (3, .int p3)] [] σ (some (.int r)) σ' := by
  unfold fX11_lay at h
  refine g_iload_n dX11_lay_0 rfl 1 rfl ?_
  obtain ⟨x1, σ2, y3, h⟩ := bd_some h
  refine g_callSr (as := [.int p1]) (st := []) (zX11_isRow y3) dX11_lay_1 okX11_lay_576 (Nat.le_of_ble_eq_true rfl) ?_
  refine g_if_eq (t := 26) dX11_lay_4 (by decide) (fun c4 => ?_) (fun c4 => ?_)
  · replace h := if_t h c4
    refine g_sub [] rfl ?_
    exact pX11_lay_26 h
  · replace h := if_f h c4
    refine g_iload_n dX11_lay_7 rfl 2 rfl ?_
    refine g_i2l dX11_lay_8 ?_
    refine g_lconst (v := 0) dX11_lay_9 (by decide) ?_
    refine g_ldc2 (v := 3) dX11_lay_10 wl_RX11_396 ?_
    obtain ⟨x5, σ6, y7, h⟩ := bd_some h
    refine g_callSr (as := [.long p2.toInt64, .long 0, .long 3]) (st := []) (zX11_in y7) dX11_lay_13 okX11_lay_220 (Nat.le_of_ble_eq_true rfl) ?_
    refine g_if_eq (t := 26) dX11_lay_16 (by decide) (fun c8 => ?_) (fun c8 => ?_)
    · replace h := if_t h c8
      refine g_sub [] rfl ?_
      exact pX11_lay_26 h
    · replace h := if_f h c8
      refine g_iload_n dX11_lay_19 rfl 3 rfl ?_
      refine g_sipush (v := 300) dX11_lay_20 (by decide) ?_
      refine g_icmp_le (t := 29) dX11_lay_23 (by decide) (fun c9 => ?_) (fun c9 => ?_)
      · replace h := if_t h c9
        refine g_aload_n dX11_lay_29 rfl 0 rfl ?_
        refine g_iconst (v := 0) dX11_lay_30 (by decide) ?_
        obtain ⟨σ10, eσ10, h⟩ := bnd_nm h
        refine g_putI dX11_lay_31 gi_168 rfl fp_RX11_544 (g_st eσ10 ?_)
        refine g_iload_n dX11_lay_34 rfl 3 rfl ?_
        refine g_if_ge (t := 44) dX11_lay_35 (by decide) (fun c11 => ?_) (fun c11 => ?_)
        · replace h := if_t h c11
          refine g_aload_n dX11_lay_44 rfl 0 rfl ?_
          refine g_getC (n := 229) dX11_lay_45 gi_168 rfl fl_RX11_206 ?_
          refine g_iload_n dX11_lay_48 rfl 1 rfl ?_
          refine g_iload_n dX11_lay_49 rfl 2 rfl ?_
          refine g_iconst (v := 1) dX11_lay_50 (by decide) ?_
          refine g_iadd dX11_lay_51 ?_
          obtain ⟨g12, h⟩ := gg_some h
          obtain ⟨σ13, eσ13, h⟩ := bnd_nm h
          refine g_iast dX11_lay_52 gi_229 g12 (g_st eσ13 ?_)
          refine g_aload_n dX11_lay_53 rfl 0 rfl ?_
          refine g_getC (n := 230) dX11_lay_54 gi_168 rfl fl_RX11_209 ?_
          refine g_iload_n dX11_lay_57 rfl 1 rfl ?_
          refine g_iload_n dX11_lay_58 rfl 3 rfl ?_
          obtain ⟨g14, h⟩ := gg_some h
          obtain ⟨σ15, eσ15, h⟩ := bnd_nm h
          refine g_iast dX11_lay_59 gi_230 g14 (g_st eσ15 ?_)
          refine g_iconst (v := 0) dX11_lay_60 (by decide) ?_
          refine g_istore (lv' := [(4, .int 0), (0, .ref 168), (1, .int p1), (2, .int p2), (3, .int p3)]) dX11_lay_61 (Nat.le_of_ble_eq_true rfl) rfl ?_
          refine g_sub [1, 2, 4, 0] rfl ?_
          exact pX11_lay_63 2000 0 σ15 h
        · replace h := if_f h c11
          refine g_aload_n dX11_lay_38 rfl 0 rfl ?_
          refine g_iconst (v := 4) dX11_lay_39 (by decide) ?_
          obtain ⟨x16, σ17, y18, h⟩ := bd_some h
          refine g_callVr (as := [.int 4]) (st := []) (zX11_finds y18) dX11_lay_40 gi_168 rfl okX11_lay_560 (Nat.le_of_ble_eq_true rfl) ?_
          obtain ⟨rfl, rfl⟩ := so_inj h
          exact g_iret dX11_lay_43 rfl
      · replace h := if_f h c9
        refine g_sub [] rfl ?_
        exact pX11_lay_26 h
theorem zX11_lay {E : gE} {p1 : Int32} {p2 : Int32} {p3 : Int32} {r : Int32} {σ σ' : gS} (h : fX11_lay p1 p2 p3 σ = some (r, σ')) : gC E mX11_lay [.ref 168, .int p1, .int p2, .int p3] σ (some (.int r)) σ' :=
  gC_of (by decide +kernel) rfl (Nat.le_of_ble_eq_true rfl) (pX11_lay h)
def mX11_drop : gM := (yX11_drop, cX11_drop, RX11, 2, (some .int), 2, 45)
theorem dX11_drop_0 : decode mX11_drop.2.1 0 = .ok (.iload_n 1, 1) := by decide +kernel
theorem dX11_drop_1 : decode mX11_drop.2.1 1 = .ok (.invokestatic 576, 3) := by decide +kernel
theorem dX11_drop_4 : decode mX11_drop.2.1 4 = .ok (.ifCond .ne 6, 3) := by decide +kernel
theorem dX11_drop_7 : decode mX11_drop.2.1 7 = .ok (.ldc 224, 2) := by decide +kernel
theorem dX11_drop_9 : decode mX11_drop.2.1 9 = .ok (.ireturn, 1) := by decide +kernel
theorem dX11_drop_10 : decode mX11_drop.2.1 10 = .ok (.aload_n 0, 1) := by decide +kernel
theorem dX11_drop_11 : decode mX11_drop.2.1 11 = .ok (.iconst 0, 1) := by decide +kernel
theorem dX11_drop_12 : decode mX11_drop.2.1 12 = .ok (.putfield 544, 3) := by decide +kernel
theorem dX11_drop_15 : decode mX11_drop.2.1 15 = .ok (.aload_n 0, 1) := by decide +kernel
theorem dX11_drop_16 : decode mX11_drop.2.1 16 = .ok (.getfield 206, 3) := by decide +kernel
theorem dX11_drop_19 : decode mX11_drop.2.1 19 = .ok (.iload_n 1, 1) := by decide +kernel
theorem dX11_drop_20 : decode mX11_drop.2.1 20 = .ok (.iaload, 1) := by decide +kernel
theorem dX11_drop_21 : decode mX11_drop.2.1 21 = .ok (.ifCond .ne 9, 3) := by decide +kernel
theorem dX11_drop_24 : decode mX11_drop.2.1 24 = .ok (.aload_n 0, 1) := by decide +kernel
theorem dX11_drop_25 : decode mX11_drop.2.1 25 = .ok (.iconst 1, 1) := by decide +kernel
theorem dX11_drop_26 : decode mX11_drop.2.1 26 = .ok (.invokevirtual 560, 3) := by decide +kernel
theorem dX11_drop_29 : decode mX11_drop.2.1 29 = .ok (.ireturn, 1) := by decide +kernel
theorem dX11_drop_30 : decode mX11_drop.2.1 30 = .ok (.aload_n 0, 1) := by decide +kernel
theorem dX11_drop_31 : decode mX11_drop.2.1 31 = .ok (.getfield 206, 3) := by decide +kernel
theorem dX11_drop_34 : decode mX11_drop.2.1 34 = .ok (.iload_n 1, 1) := by decide +kernel
theorem dX11_drop_35 : decode mX11_drop.2.1 35 = .ok (.iconst 0, 1) := by decide +kernel
theorem dX11_drop_36 : decode mX11_drop.2.1 36 = .ok (.iastore, 1) := by decide +kernel
theorem dX11_drop_37 : decode mX11_drop.2.1 37 = .ok (.aload_n 0, 1) := by decide +kernel
theorem dX11_drop_38 : decode mX11_drop.2.1 38 = .ok (.getfield 209, 3) := by decide +kernel
theorem dX11_drop_41 : decode mX11_drop.2.1 41 = .ok (.iload_n 1, 1) := by decide +kernel
theorem dX11_drop_42 : decode mX11_drop.2.1 42 = .ok (.iaload, 1) := by decide +kernel
theorem dX11_drop_43 : decode mX11_drop.2.1 43 = .ok (.ireturn, 1) := by decide +kernel
theorem okX11_drop_576 : gOkS mX11_drop mX11_isRow 576 1 := ⟨List.forall_mem_cons.mpr ⟨(gm 1894 (by decide +kernel) rfl), List.forall_mem_cons.mpr ⟨(gm 1892 (by decide +kernel) rfl), List.forall_mem_cons.mpr ⟨(gm 1893 (by decide +kernel) rfl), List.forall_mem_cons.mpr ⟨(gm 122 (by decide +kernel) rfl), fun _ h => absurd h List.not_mem_nil⟩⟩⟩⟩, by decide +kernel, by decide +kernel, by decide +kernel⟩
theorem okX11_drop_560 : gOkV mX11_drop mX11_finds 560 1 := ⟨List.forall_mem_cons.mpr ⟨(gm 1870 (by decide +kernel) rfl), List.forall_mem_cons.mpr ⟨(gm 1867 (by decide +kernel) rfl), List.forall_mem_cons.mpr ⟨(gm 1869 (by decide +kernel) rfl), List.forall_mem_cons.mpr ⟨(gm 104 (by decide +kernel) rfl), List.forall_mem_cons.mpr ⟨(gm 122 (by decide +kernel) rfl), fun _ h => absurd h List.not_mem_nil⟩⟩⟩⟩⟩, by decide +kernel, by decide +kernel, by decide +kernel⟩
def fX11_drop (p1 : Int32) (σ : gS) : Option (Int32 × gS) :=
  bd (fX11_isRow p1 σ) fun x1 σ2 =>
  if x1 = 0 then
    some ((-1000001), σ2)
  else
    bnd (gsI σ2 168 94 0) fun σ5 =>
    gg (¬ (p1 < 0 ∨ 8 ≤ p1.toNatClampNeg)) (
    if (σ5.1 229 p1.toNatClampNeg) = 0 then
      bd (fX11_finds 1 σ5) fun x11 σ12 =>
      some (x11, σ12)
    else
      gg (¬ (p1 < 0 ∨ 8 ≤ p1.toNatClampNeg)) (
      bnd (gsI σ5 229 p1.toNatClampNeg 0) fun σ9 =>
      gg (¬ (p1 < 0 ∨ 8 ≤ p1.toNatClampNeg)) (
      some (σ9.1 230 p1.toNatClampNeg, σ9))))
set_option maxHeartbeats 4000000 in
set_option maxRecDepth 100000 in
theorem pX11_drop {E : gE} {p1 : Int32} {r : Int32} {σ' : gS} {σ : gS} (h : fX11_drop p1 σ = some (r, σ')) : gG E mX11_drop 0 [(0, .ref 168), (1, .int p1)] [] σ (some (.int r)) σ' := by
  unfold fX11_drop at h
  refine g_iload_n dX11_drop_0 rfl 1 rfl ?_
  obtain ⟨x1, σ2, y3, h⟩ := bd_some h
  refine g_callSr (as := [.int p1]) (st := []) (zX11_isRow y3) dX11_drop_1 okX11_drop_576 (Nat.le_of_ble_eq_true rfl) ?_
  refine g_if_ne (t := 10) dX11_drop_4 (by decide) (fun c4 => ?_) (fun c4 => ?_)
  · replace h := if_f h c4
    refine g_aload_n dX11_drop_10 rfl 0 rfl ?_
    refine g_iconst (v := 0) dX11_drop_11 (by decide) ?_
    obtain ⟨σ5, eσ5, h⟩ := bnd_nm h
    refine g_putI dX11_drop_12 gi_168 rfl fp_RX11_544 (g_st eσ5 ?_)
    refine g_aload_n dX11_drop_15 rfl 0 rfl ?_
    refine g_getC (n := 229) dX11_drop_16 gi_168 rfl fl_RX11_206 ?_
    refine g_iload_n dX11_drop_19 rfl 1 rfl ?_
    obtain ⟨g6, h⟩ := gg_some h
    refine g_iald dX11_drop_20 gi_229 g6 ?_
    refine g_if_ne (t := 30) dX11_drop_21 (by decide) (fun c7 => ?_) (fun c7 => ?_)
    · replace h := if_f h c7
      refine g_aload_n dX11_drop_30 rfl 0 rfl ?_
      refine g_getC (n := 229) dX11_drop_31 gi_168 rfl fl_RX11_206 ?_
      refine g_iload_n dX11_drop_34 rfl 1 rfl ?_
      refine g_iconst (v := 0) dX11_drop_35 (by decide) ?_
      obtain ⟨g8, h⟩ := gg_some h
      obtain ⟨σ9, eσ9, h⟩ := bnd_nm h
      refine g_iast dX11_drop_36 gi_229 g8 (g_st eσ9 ?_)
      refine g_aload_n dX11_drop_37 rfl 0 rfl ?_
      refine g_getC (n := 230) dX11_drop_38 gi_168 rfl fl_RX11_209 ?_
      refine g_iload_n dX11_drop_41 rfl 1 rfl ?_
      obtain ⟨g10, h⟩ := gg_some h
      refine g_iald dX11_drop_42 gi_230 g10 ?_
      obtain ⟨rfl, rfl⟩ := so_inj h
      exact g_iret dX11_drop_43 rfl
    · replace h := if_t h c7
      refine g_aload_n dX11_drop_24 rfl 0 rfl ?_
      refine g_iconst (v := 1) dX11_drop_25 (by decide) ?_
      obtain ⟨x11, σ12, y13, h⟩ := bd_some h
      refine g_callVr (as := [.int 1]) (st := []) (zX11_finds y13) dX11_drop_26 gi_168 rfl okX11_drop_560 (Nat.le_of_ble_eq_true rfl) ?_
      obtain ⟨rfl, rfl⟩ := so_inj h
      exact g_iret dX11_drop_29 rfl
  · replace h := if_t h c4
    refine g_ldc (v := (-1000001)) dX11_drop_7 wc_RX11_224 ?_
    obtain ⟨rfl, rfl⟩ := so_inj h
    exact g_iret dX11_drop_9 rfl
theorem zX11_drop {E : gE} {p1 : Int32} {r : Int32} {σ σ' : gS} (h : fX11_drop p1 σ = some (r, σ')) : gC E mX11_drop [.ref 168, .int p1] σ (some (.int r)) σ' :=
  gC_of (by decide +kernel) rfl (Nat.le_of_ble_eq_true rfl) (pX11_drop h)
def mX11_itemFault : gM := (yX11_itemFault, cX11_itemFault, RX11, 3, (some .int), 1, 25)
theorem dX11_itemFault_0 : decode mX11_itemFault.2.1 0 = .ok (.aload_n 0, 1) := by decide +kernel
theorem dX11_itemFault_1 : decode mX11_itemFault.2.1 1 = .ok (.getfield 206, 3) := by decide +kernel
theorem dX11_itemFault_4 : decode mX11_itemFault.2.1 4 = .ok (.iload_n 1, 1) := by decide +kernel
theorem dX11_itemFault_5 : decode mX11_itemFault.2.1 5 = .ok (.iaload, 1) := by decide +kernel
theorem dX11_itemFault_6 : decode mX11_itemFault.2.1 6 = .ok (.ifCond .ne 7, 3) := by decide +kernel
theorem dX11_itemFault_9 : decode mX11_itemFault.2.1 9 = .ok (.iconst 1, 1) := by decide +kernel
theorem dX11_itemFault_10 : decode mX11_itemFault.2.1 10 = .ok (.goto 26, 3) := by decide +kernel
theorem dX11_itemFault_13 : decode mX11_itemFault.2.1 13 = .ok (.iload_n 2, 1) := by decide +kernel
theorem dX11_itemFault_14 : decode mX11_itemFault.2.1 14 = .ok (.i2l, 1) := by decide +kernel
theorem dX11_itemFault_15 : decode mX11_itemFault.2.1 15 = .ok (.lconst 0, 1) := by decide +kernel
theorem dX11_itemFault_16 : decode mX11_itemFault.2.1 16 = .ok (.aload_n 0, 1) := by decide +kernel
theorem dX11_itemFault_17 : decode mX11_itemFault.2.1 17 = .ok (.getfield 209, 3) := by decide +kernel
theorem dX11_itemFault_20 : decode mX11_itemFault.2.1 20 = .ok (.iload_n 1, 1) := by decide +kernel
theorem dX11_itemFault_21 : decode mX11_itemFault.2.1 21 = .ok (.iaload, 1) := by decide +kernel
theorem dX11_itemFault_22 : decode mX11_itemFault.2.1 22 = .ok (.iconst 1, 1) := by decide +kernel
theorem dX11_itemFault_23 : decode mX11_itemFault.2.1 23 = .ok (.isub, 1) := by decide +kernel
theorem dX11_itemFault_24 : decode mX11_itemFault.2.1 24 = .ok (.i2l, 1) := by decide +kernel
theorem dX11_itemFault_25 : decode mX11_itemFault.2.1 25 = .ok (.invokestatic 220, 3) := by decide +kernel
theorem dX11_itemFault_28 : decode mX11_itemFault.2.1 28 = .ok (.ifCond .ne 7, 3) := by decide +kernel
theorem dX11_itemFault_31 : decode mX11_itemFault.2.1 31 = .ok (.iconst 2, 1) := by decide +kernel
theorem dX11_itemFault_32 : decode mX11_itemFault.2.1 32 = .ok (.goto 4, 3) := by decide +kernel
theorem dX11_itemFault_35 : decode mX11_itemFault.2.1 35 = .ok (.iconst 0, 1) := by decide +kernel
theorem dX11_itemFault_36 : decode mX11_itemFault.2.1 36 = .ok (.ireturn, 1) := by decide +kernel
theorem okX11_itemFault_220 : gOkS mX11_itemFault mX11_in 220 3 := ⟨List.forall_mem_cons.mpr ⟨(gm 1539 (by decide +kernel) rfl), List.forall_mem_cons.mpr ⟨(gm 1537 (by decide +kernel) rfl), List.forall_mem_cons.mpr ⟨(gm 1538 (by decide +kernel) rfl), List.forall_mem_cons.mpr ⟨(gm 122 (by decide +kernel) rfl), fun _ h => absurd h List.not_mem_nil⟩⟩⟩⟩, by decide +kernel, by decide +kernel, by decide +kernel⟩
def fX11_itemFault_36 (p1 : Int32) (p2 : Int32) (s0 : Int32) (σ : gS) : Option (Int32 × gS) :=
  some (s0, σ)
set_option maxHeartbeats 4000000 in
set_option maxRecDepth 100000 in
theorem pX11_itemFault_36 {E : gE} {p1 : Int32} {p2 : Int32} {r : Int32} {σ' : gS} {s0 : Int32} {σ : gS} (h : fX11_itemFault_36 p1 p2 s0 σ = some (r, σ')) : gG E mX11_itemFault 36 [] [.int s0] σ (some (.int r)) σ' := by
  unfold fX11_itemFault_36 at h
  obtain ⟨rfl, rfl⟩ := so_inj h
  exact g_iret dX11_itemFault_36 rfl
def fX11_itemFault (p1 : Int32) (p2 : Int32) (σ : gS) : Option (Int32 × gS) :=
  gg (¬ (p1 < 0 ∨ 8 ≤ p1.toNatClampNeg)) (
  if (σ.1 229 p1.toNatClampNeg) = 0 then
    fX11_itemFault_36 p1 p2 1 σ
  else
    gg (¬ (p1 < 0 ∨ 8 ≤ p1.toNatClampNeg)) (
    bd (fX11_in p2.toInt64 0 (((σ.1 230 p1.toNatClampNeg) - 1).toInt64) σ) fun x4 σ5 =>
    if x4 = 0 then
      fX11_itemFault_36 p1 p2 2 σ5
    else
      fX11_itemFault_36 p1 p2 0 σ5))
set_option maxHeartbeats 4000000 in
set_option maxRecDepth 100000 in
theorem pX11_itemFault {E : gE} {p1 : Int32} {p2 : Int32} {r : Int32} {σ' : gS} {σ : gS} (h : fX11_itemFault p1 p2 σ = some (r, σ')) : gG E mX11_itemFault 0 [(0, .ref 168), (1, .int p1), (2, .int p2)] [] σ (some (.int r)) σ' := by
  unfold fX11_itemFault at h
  refine g_aload_n dX11_itemFault_0 rfl 0 rfl ?_
  refine g_getC (n := 229) dX11_itemFault_1 gi_168 rfl fl_RX11_206 ?_
  refine g_iload_n dX11_itemFault_4 rfl 1 rfl ?_
  obtain ⟨g1, h⟩ := gg_some h
  refine g_iald dX11_itemFault_5 gi_229 g1 ?_
  refine g_if_ne (t := 13) dX11_itemFault_6 (by decide) (fun c2 => ?_) (fun c2 => ?_)
  · replace h := if_f h c2
    refine g_iload_n dX11_itemFault_13 rfl 2 rfl ?_
    refine g_i2l dX11_itemFault_14 ?_
    refine g_lconst (v := 0) dX11_itemFault_15 (by decide) ?_
    refine g_aload_n dX11_itemFault_16 rfl 0 rfl ?_
    refine g_getC (n := 230) dX11_itemFault_17 gi_168 rfl fl_RX11_209 ?_
    refine g_iload_n dX11_itemFault_20 rfl 1 rfl ?_
    obtain ⟨g3, h⟩ := gg_some h
    refine g_iald dX11_itemFault_21 gi_230 g3 ?_
    refine g_iconst (v := 1) dX11_itemFault_22 (by decide) ?_
    refine g_isub dX11_itemFault_23 ?_
    refine g_i2l dX11_itemFault_24 ?_
    obtain ⟨x4, σ5, y6, h⟩ := bd_some h
    refine g_callSr (as := [.long p2.toInt64, .long 0, .long (((σ.1 230 p1.toNatClampNeg) - 1).toInt64)]) (st := []) (zX11_in y6) dX11_itemFault_25 okX11_itemFault_220 (Nat.le_of_ble_eq_true rfl) ?_
    refine g_if_ne (t := 35) dX11_itemFault_28 (by decide) (fun c7 => ?_) (fun c7 => ?_)
    · replace h := if_f h c7
      refine g_iconst (v := 0) dX11_itemFault_35 (by decide) ?_
      refine g_sub [] rfl ?_
      exact pX11_itemFault_36 h
    · replace h := if_t h c7
      refine g_iconst (v := 2) dX11_itemFault_31 (by decide) ?_
      refine g_goto (t := 36) dX11_itemFault_32 (by decide) ?_
      refine g_sub [] rfl ?_
      exact pX11_itemFault_36 h
  · replace h := if_t h c2
    refine g_iconst (v := 1) dX11_itemFault_9 (by decide) ?_
    refine g_goto (t := 36) dX11_itemFault_10 (by decide) ?_
    refine g_sub [] rfl ?_
    exact pX11_itemFault_36 h
theorem zX11_itemFault {E : gE} {p1 : Int32} {p2 : Int32} {r : Int32} {σ σ' : gS} (h : fX11_itemFault p1 p2 σ = some (r, σ')) : gC E mX11_itemFault [.ref 168, .int p1, .int p2] σ (some (.int r)) σ' :=
  gC_of (by decide +kernel) rfl (Nat.le_of_ble_eq_true rfl) (pX11_itemFault h)
def mX11_put : gM := (yX11_put, cX11_put, RX11, 6, (some .long), 2, 47)
theorem dX11_put_0 : decode mX11_put.2.1 0 = .ok (.iload_n 1, 1) := by decide +kernel
theorem dX11_put_1 : decode mX11_put.2.1 1 = .ok (.invokestatic 576, 3) := by decide +kernel
theorem dX11_put_4 : decode mX11_put.2.1 4 = .ok (.ifCond .ne 7, 3) := by decide +kernel
theorem dX11_put_7 : decode mX11_put.2.1 7 = .ok (.ldc2_w 510, 3) := by decide +kernel
theorem dX11_put_10 : decode mX11_put.2.1 10 = .ok (.lreturn, 1) := by decide +kernel
theorem dX11_put_11 : decode mX11_put.2.1 11 = .ok (.aload_n 0, 1) := by decide +kernel
theorem dX11_put_12 : decode mX11_put.2.1 12 = .ok (.iconst 0, 1) := by decide +kernel
theorem dX11_put_13 : decode mX11_put.2.1 13 = .ok (.putfield 544, 3) := by decide +kernel
theorem dX11_put_16 : decode mX11_put.2.1 16 = .ok (.aload_n 0, 1) := by decide +kernel
theorem dX11_put_17 : decode mX11_put.2.1 17 = .ok (.iload_n 1, 1) := by decide +kernel
theorem dX11_put_18 : decode mX11_put.2.1 18 = .ok (.iload_n 2, 1) := by decide +kernel
theorem dX11_put_19 : decode mX11_put.2.1 19 = .ok (.invokevirtual 579, 3) := by decide +kernel
theorem dX11_put_22 : decode mX11_put.2.1 22 = .ok (.istore 5, 2) := by decide +kernel
theorem dX11_put_24 : decode mX11_put.2.1 24 = .ok (.iload 5, 2) := by decide +kernel
theorem dX11_put_26 : decode mX11_put.2.1 26 = .ok (.ifCond .eq 11, 3) := by decide +kernel
theorem dX11_put_29 : decode mX11_put.2.1 29 = .ok (.aload_n 0, 1) := by decide +kernel
theorem dX11_put_30 : decode mX11_put.2.1 30 = .ok (.iload 5, 2) := by decide +kernel
theorem dX11_put_32 : decode mX11_put.2.1 32 = .ok (.invokevirtual 560, 3) := by decide +kernel
theorem dX11_put_35 : decode mX11_put.2.1 35 = .ok (.i2l, 1) := by decide +kernel
theorem dX11_put_36 : decode mX11_put.2.1 36 = .ok (.lreturn, 1) := by decide +kernel
theorem dX11_put_37 : decode mX11_put.2.1 37 = .ok (.aload_n 0, 1) := by decide +kernel
theorem dX11_put_38 : decode mX11_put.2.1 38 = .ok (.getfield 212, 3) := by decide +kernel
theorem dX11_put_41 : decode mX11_put.2.1 41 = .ok (.sipush 300, 3) := by decide +kernel
theorem dX11_put_44 : decode mX11_put.2.1 44 = .ok (.iload_n 1, 1) := by decide +kernel
theorem dX11_put_45 : decode mX11_put.2.1 45 = .ok (.imul, 1) := by decide +kernel
theorem dX11_put_46 : decode mX11_put.2.1 46 = .ok (.iload_n 2, 1) := by decide +kernel
theorem dX11_put_47 : decode mX11_put.2.1 47 = .ok (.iadd, 1) := by decide +kernel
theorem dX11_put_48 : decode mX11_put.2.1 48 = .ok (.aload_n 0, 1) := by decide +kernel
theorem dX11_put_49 : decode mX11_put.2.1 49 = .ok (.getfield 206, 3) := by decide +kernel
theorem dX11_put_52 : decode mX11_put.2.1 52 = .ok (.iload_n 1, 1) := by decide +kernel
theorem dX11_put_53 : decode mX11_put.2.1 53 = .ok (.iaload, 1) := by decide +kernel
theorem dX11_put_54 : decode mX11_put.2.1 54 = .ok (.lload_n 3, 1) := by decide +kernel
theorem dX11_put_55 : decode mX11_put.2.1 55 = .ok (.invokestatic 582, 3) := by decide +kernel
theorem dX11_put_58 : decode mX11_put.2.1 58 = .ok (.lastore, 1) := by decide +kernel
theorem dX11_put_59 : decode mX11_put.2.1 59 = .ok (.aload_n 0, 1) := by decide +kernel
theorem dX11_put_60 : decode mX11_put.2.1 60 = .ok (.getfield 212, 3) := by decide +kernel
theorem dX11_put_63 : decode mX11_put.2.1 63 = .ok (.sipush 300, 3) := by decide +kernel
theorem dX11_put_66 : decode mX11_put.2.1 66 = .ok (.iload_n 1, 1) := by decide +kernel
theorem dX11_put_67 : decode mX11_put.2.1 67 = .ok (.imul, 1) := by decide +kernel
theorem dX11_put_68 : decode mX11_put.2.1 68 = .ok (.iload_n 2, 1) := by decide +kernel
theorem dX11_put_69 : decode mX11_put.2.1 69 = .ok (.iadd, 1) := by decide +kernel
theorem dX11_put_70 : decode mX11_put.2.1 70 = .ok (.laload, 1) := by decide +kernel
theorem dX11_put_71 : decode mX11_put.2.1 71 = .ok (.lreturn, 1) := by decide +kernel
theorem okX11_put_576 : gOkS mX11_put mX11_isRow 576 1 := ⟨List.forall_mem_cons.mpr ⟨(gm 1894 (by decide +kernel) rfl), List.forall_mem_cons.mpr ⟨(gm 1892 (by decide +kernel) rfl), List.forall_mem_cons.mpr ⟨(gm 1893 (by decide +kernel) rfl), List.forall_mem_cons.mpr ⟨(gm 122 (by decide +kernel) rfl), fun _ h => absurd h List.not_mem_nil⟩⟩⟩⟩, by decide +kernel, by decide +kernel, by decide +kernel⟩
theorem okX11_put_579 : gOkV mX11_put mX11_itemFault 579 2 := ⟨List.forall_mem_cons.mpr ⟨(gm 1907 (by decide +kernel) rfl), List.forall_mem_cons.mpr ⟨(gm 1904 (by decide +kernel) rfl), List.forall_mem_cons.mpr ⟨(gm 1906 (by decide +kernel) rfl), List.forall_mem_cons.mpr ⟨(gm 105 (by decide +kernel) rfl), List.forall_mem_cons.mpr ⟨(gm 122 (by decide +kernel) rfl), fun _ h => absurd h List.not_mem_nil⟩⟩⟩⟩⟩, by decide +kernel, by decide +kernel, by decide +kernel⟩
theorem okX11_put_582 : gOkS mX11_put mX11_cut 582 2 := ⟨List.forall_mem_cons.mpr ⟨(gm 1910 (by decide +kernel) rfl), List.forall_mem_cons.mpr ⟨(gm 1908 (by decide +kernel) rfl), List.forall_mem_cons.mpr ⟨(gm 1909 (by decide +kernel) rfl), List.forall_mem_cons.mpr ⟨(gm 122 (by decide +kernel) rfl), fun _ h => absurd h List.not_mem_nil⟩⟩⟩⟩, by decide +kernel, by decide +kernel, by decide +kernel⟩
theorem okX11_put_560 : gOkV mX11_put mX11_finds 560 1 := ⟨List.forall_mem_cons.mpr ⟨(gm 1870 (by decide +kernel) rfl), List.forall_mem_cons.mpr ⟨(gm 1867 (by decide +kernel) rfl), List.forall_mem_cons.mpr ⟨(gm 1869 (by decide +kernel) rfl), List.forall_mem_cons.mpr ⟨(gm 104 (by decide +kernel) rfl), List.forall_mem_cons.mpr ⟨(gm 122 (by decide +kernel) rfl), fun _ h => absurd h List.not_mem_nil⟩⟩⟩⟩⟩, by decide +kernel, by decide +kernel, by decide +kernel⟩
def fX11_put (p1 : Int32) (p2 : Int32) (p3 : Int64) (σ : gS) : Option (Int64 × gS) :=
  bd (fX11_isRow p1 σ) fun x1 σ2 =>
  if x1 = 0 then
    some ((-1000001), σ2)
  else
    bnd (gsI σ2 168 94 0) fun σ5 =>
    bd (fX11_itemFault p1 p2 σ5) fun x6 σ7 =>
    if x6 = 0 then
      gg (¬ (p1 < 0 ∨ 8 ≤ p1.toNatClampNeg)) (
      bd (fX11_cut (σ7.1 229 p1.toNatClampNeg) p3 σ7) fun x11 σ12 =>
      gg (¬ ((300 * p1) + p2 < 0 ∨ 2400 ≤ ((300 * p1) + p2).toNatClampNeg)) (
      bnd (gsJ σ12 231 (((300 * p1) + p2).toNatClampNeg) x11) fun σ15 =>
      bnd ((300 * p1) + p2) fun x16 =>
      gg (¬ (x16 < 0 ∨ 2400 ≤ x16.toNatClampNeg)) (
      some (σ15.2.1 231 x16.toNatClampNeg, σ15))))
    else
      bd (fX11_finds x6 σ7) fun x18 σ19 =>
      some (x18.toInt64, σ19)
set_option maxHeartbeats 4000000 in
set_option maxRecDepth 100000 in
theorem pX11_put {E : gE} {p1 : Int32} {p2 : Int32} {p3 : Int64} {r : Int64} {σ' : gS} {σ : gS} (h : fX11_put p1 p2 p3 σ = some (r, σ')) : gG E mX11_put 0 [(0, .ref 168), (1, .int p1), (2, .int p2), (3, .long p3)] [] σ (some (.long r)) σ' := by
  unfold fX11_put at h
  refine g_iload_n dX11_put_0 rfl 1 rfl ?_
  obtain ⟨x1, σ2, y3, h⟩ := bd_some h
  refine g_callSr (as := [.int p1]) (st := []) (zX11_isRow y3) dX11_put_1 okX11_put_576 (Nat.le_of_ble_eq_true rfl) ?_
  refine g_if_ne (t := 11) dX11_put_4 (by decide) (fun c4 => ?_) (fun c4 => ?_)
  · replace h := if_f h c4
    refine g_aload_n dX11_put_11 rfl 0 rfl ?_
    refine g_iconst (v := 0) dX11_put_12 (by decide) ?_
    obtain ⟨σ5, eσ5, h⟩ := bnd_nm h
    refine g_putI dX11_put_13 gi_168 rfl fp_RX11_544 (g_st eσ5 ?_)
    refine g_aload_n dX11_put_16 rfl 0 rfl ?_
    refine g_iload_n dX11_put_17 rfl 1 rfl ?_
    refine g_iload_n dX11_put_18 rfl 2 rfl ?_
    obtain ⟨x6, σ7, y8, h⟩ := bd_some h
    refine g_callVr (as := [.int p1, .int p2]) (st := []) (zX11_itemFault y8) dX11_put_19 gi_168 rfl okX11_put_579 (Nat.le_of_ble_eq_true rfl) ?_
    refine g_istore (lv' := [(5, .int x6), (0, .ref 168), (1, .int p1), (2, .int p2), (3, .long p3)]) dX11_put_22 (Nat.le_of_ble_eq_true rfl) rfl ?_
    refine g_iload dX11_put_24 0 rfl ?_
    refine g_if_eq (t := 37) dX11_put_26 (by decide) (fun c9 => ?_) (fun c9 => ?_)
    · replace h := if_t h c9
      refine g_aload_n dX11_put_37 rfl 1 rfl ?_
      refine g_getC (n := 231) dX11_put_38 gi_168 rfl fl_RX11_212 ?_
      refine g_sipush (v := 300) dX11_put_41 (by decide) ?_
      refine g_iload_n dX11_put_44 rfl 2 rfl ?_
      refine g_imul dX11_put_45 ?_
      refine g_iload_n dX11_put_46 rfl 3 rfl ?_
      refine g_iadd dX11_put_47 ?_
      refine g_aload_n dX11_put_48 rfl 1 rfl ?_
      refine g_getC (n := 229) dX11_put_49 gi_168 rfl fl_RX11_206 ?_
      refine g_iload_n dX11_put_52 rfl 2 rfl ?_
      obtain ⟨g10, h⟩ := gg_some h
      refine g_iald dX11_put_53 gi_229 g10 ?_
      refine g_lload_n dX11_put_54 rfl 4 rfl ?_
      obtain ⟨x11, σ12, y13, h⟩ := bd_some h
      refine g_callSr (as := [.int (σ7.1 229 p1.toNatClampNeg), .long p3]) (st := [.int ((300 * p1) + p2), .ref 231]) (zX11_cut y13) dX11_put_55 okX11_put_582 (Nat.le_of_ble_eq_true rfl) ?_
      obtain ⟨g14, h⟩ := gg_some h
      obtain ⟨σ15, eσ15, h⟩ := bnd_nm h
      refine g_last dX11_put_58 gi_231 g14 (g_st eσ15 ?_)
      refine g_aload_n dX11_put_59 rfl 1 rfl ?_
      refine g_getC (n := 231) dX11_put_60 gi_168 rfl fl_RX11_212 ?_
      refine g_sipush (v := 300) dX11_put_63 (by decide) ?_
      refine g_iload_n dX11_put_66 rfl 2 rfl ?_
      refine g_imul dX11_put_67 ?_
      refine g_iload_n dX11_put_68 rfl 3 rfl ?_
      refine g_iadd dX11_put_69 ?_
      obtain ⟨x16, ex16, h⟩ := bnd_nm h
      refine g_topi ex16 ?_
      obtain ⟨g17, h⟩ := gg_some h
      refine g_lald dX11_put_70 gi_231 g17 ?_
      obtain ⟨rfl, rfl⟩ := so_inj h
      exact g_lret dX11_put_71 rfl
    · replace h := if_f h c9
      refine g_aload_n dX11_put_29 rfl 1 rfl ?_
      refine g_iload dX11_put_30 0 rfl ?_
      obtain ⟨x18, σ19, y20, h⟩ := bd_some h
      refine g_callVr (as := [.int x6]) (st := []) (zX11_finds y20) dX11_put_32 gi_168 rfl okX11_put_560 (Nat.le_of_ble_eq_true rfl) ?_
      refine g_i2l dX11_put_35 ?_
      obtain ⟨rfl, rfl⟩ := so_inj h
      exact g_lret dX11_put_36 rfl
  · replace h := if_t h c4
    refine g_ldc2 (v := (-1000001)) dX11_put_7 wl_RX11_510 ?_
    obtain ⟨rfl, rfl⟩ := so_inj h
    exact g_lret dX11_put_10 rfl
theorem zX11_put {E : gE} {p1 : Int32} {p2 : Int32} {p3 : Int64} {r : Int64} {σ σ' : gS} (h : fX11_put p1 p2 p3 σ = some (r, σ')) : gC E mX11_put [.ref 168, .int p1, .int p2, .long p3] σ (some (.long r)) σ' :=
  gC_of (by decide +kernel) rfl (Nat.le_of_ble_eq_true rfl) (pX11_put h)
def mX11_get : gM := (yX11_get, cX11_get, RX11, 4, (some .long), 2, 47)
theorem dX11_get_0 : decode mX11_get.2.1 0 = .ok (.iload_n 1, 1) := by decide +kernel
theorem dX11_get_1 : decode mX11_get.2.1 1 = .ok (.invokestatic 576, 3) := by decide +kernel
theorem dX11_get_4 : decode mX11_get.2.1 4 = .ok (.ifCond .ne 7, 3) := by decide +kernel
theorem dX11_get_7 : decode mX11_get.2.1 7 = .ok (.ldc2_w 510, 3) := by decide +kernel
theorem dX11_get_10 : decode mX11_get.2.1 10 = .ok (.lreturn, 1) := by decide +kernel
theorem dX11_get_11 : decode mX11_get.2.1 11 = .ok (.aload_n 0, 1) := by decide +kernel
theorem dX11_get_12 : decode mX11_get.2.1 12 = .ok (.iconst 0, 1) := by decide +kernel
theorem dX11_get_13 : decode mX11_get.2.1 13 = .ok (.putfield 544, 3) := by decide +kernel
theorem dX11_get_16 : decode mX11_get.2.1 16 = .ok (.aload_n 0, 1) := by decide +kernel
theorem dX11_get_17 : decode mX11_get.2.1 17 = .ok (.iload_n 1, 1) := by decide +kernel
theorem dX11_get_18 : decode mX11_get.2.1 18 = .ok (.iload_n 2, 1) := by decide +kernel
theorem dX11_get_19 : decode mX11_get.2.1 19 = .ok (.invokevirtual 579, 3) := by decide +kernel
theorem dX11_get_22 : decode mX11_get.2.1 22 = .ok (.istore_n 3, 1) := by decide +kernel
theorem dX11_get_23 : decode mX11_get.2.1 23 = .ok (.iload_n 3, 1) := by decide +kernel
theorem dX11_get_24 : decode mX11_get.2.1 24 = .ok (.ifCond .eq 12, 3) := by decide +kernel
theorem dX11_get_27 : decode mX11_get.2.1 27 = .ok (.aload_n 0, 1) := by decide +kernel
theorem dX11_get_28 : decode mX11_get.2.1 28 = .ok (.iload_n 3, 1) := by decide +kernel
theorem dX11_get_29 : decode mX11_get.2.1 29 = .ok (.invokevirtual 560, 3) := by decide +kernel
theorem dX11_get_32 : decode mX11_get.2.1 32 = .ok (.i2l, 1) := by decide +kernel
theorem dX11_get_33 : decode mX11_get.2.1 33 = .ok (.goto 15, 3) := by decide +kernel
theorem dX11_get_36 : decode mX11_get.2.1 36 = .ok (.aload_n 0, 1) := by decide +kernel
theorem dX11_get_37 : decode mX11_get.2.1 37 = .ok (.getfield 212, 3) := by decide +kernel
theorem dX11_get_40 : decode mX11_get.2.1 40 = .ok (.sipush 300, 3) := by decide +kernel
theorem dX11_get_43 : decode mX11_get.2.1 43 = .ok (.iload_n 1, 1) := by decide +kernel
theorem dX11_get_44 : decode mX11_get.2.1 44 = .ok (.imul, 1) := by decide +kernel
theorem dX11_get_45 : decode mX11_get.2.1 45 = .ok (.iload_n 2, 1) := by decide +kernel
theorem dX11_get_46 : decode mX11_get.2.1 46 = .ok (.iadd, 1) := by decide +kernel
theorem dX11_get_47 : decode mX11_get.2.1 47 = .ok (.laload, 1) := by decide +kernel
theorem dX11_get_48 : decode mX11_get.2.1 48 = .ok (.lreturn, 1) := by decide +kernel
theorem okX11_get_576 : gOkS mX11_get mX11_isRow 576 1 := ⟨List.forall_mem_cons.mpr ⟨(gm 1894 (by decide +kernel) rfl), List.forall_mem_cons.mpr ⟨(gm 1892 (by decide +kernel) rfl), List.forall_mem_cons.mpr ⟨(gm 1893 (by decide +kernel) rfl), List.forall_mem_cons.mpr ⟨(gm 122 (by decide +kernel) rfl), fun _ h => absurd h List.not_mem_nil⟩⟩⟩⟩, by decide +kernel, by decide +kernel, by decide +kernel⟩
theorem okX11_get_579 : gOkV mX11_get mX11_itemFault 579 2 := ⟨List.forall_mem_cons.mpr ⟨(gm 1907 (by decide +kernel) rfl), List.forall_mem_cons.mpr ⟨(gm 1904 (by decide +kernel) rfl), List.forall_mem_cons.mpr ⟨(gm 1906 (by decide +kernel) rfl), List.forall_mem_cons.mpr ⟨(gm 105 (by decide +kernel) rfl), List.forall_mem_cons.mpr ⟨(gm 122 (by decide +kernel) rfl), fun _ h => absurd h List.not_mem_nil⟩⟩⟩⟩⟩, by decide +kernel, by decide +kernel, by decide +kernel⟩
theorem okX11_get_560 : gOkV mX11_get mX11_finds 560 1 := ⟨List.forall_mem_cons.mpr ⟨(gm 1870 (by decide +kernel) rfl), List.forall_mem_cons.mpr ⟨(gm 1867 (by decide +kernel) rfl), List.forall_mem_cons.mpr ⟨(gm 1869 (by decide +kernel) rfl), List.forall_mem_cons.mpr ⟨(gm 104 (by decide +kernel) rfl), List.forall_mem_cons.mpr ⟨(gm 122 (by decide +kernel) rfl), fun _ h => absurd h List.not_mem_nil⟩⟩⟩⟩⟩, by decide +kernel, by decide +kernel, by decide +kernel⟩
def fX11_get_48 (p1 : Int32) (p2 : Int32) (s0 : Int64) (σ : gS) : Option (Int64 × gS) :=
  some (s0, σ)
set_option maxHeartbeats 4000000 in
set_option maxRecDepth 100000 in
theorem pX11_get_48 {E : gE} {p1 : Int32} {p2 : Int32} {r : Int64} {σ' : gS} {s0 : Int64} {σ : gS} (h : fX11_get_48 p1 p2 s0 σ = some (r, σ')) : gG E mX11_get 48 [] [.long s0] σ (some (.long r)) σ' := by
  unfold fX11_get_48 at h
  obtain ⟨rfl, rfl⟩ := so_inj h
  exact g_lret dX11_get_48 rfl
def fX11_get (p1 : Int32) (p2 : Int32) (σ : gS) : Option (Int64 × gS) :=
  bd (fX11_isRow p1 σ) fun x1 σ2 =>
  if x1 = 0 then
    some ((-1000001), σ2)
  else
    bnd (gsI σ2 168 94 0) fun σ5 =>
    bd (fX11_itemFault p1 p2 σ5) fun x6 σ7 =>
    if x6 = 0 then
      bnd ((300 * p1) + p2) fun x10 =>
      gg (¬ (x10 < 0 ∨ 2400 ≤ x10.toNatClampNeg)) (
      fX11_get_48 p1 p2 (σ7.2.1 231 x10.toNatClampNeg) σ7)
    else
      bd (fX11_finds x6 σ7) fun x12 σ13 =>
      fX11_get_48 p1 p2 x12.toInt64 σ13
set_option maxHeartbeats 4000000 in
set_option maxRecDepth 100000 in
theorem pX11_get {E : gE} {p1 : Int32} {p2 : Int32} {r : Int64} {σ' : gS} {σ : gS} (h : fX11_get p1 p2 σ = some (r, σ')) : gG E mX11_get 0 [(0, .ref 168), (1, .int p1), (2, .int p2)] [] σ (some (.long r)) σ' := by
  unfold fX11_get at h
  refine g_iload_n dX11_get_0 rfl 1 rfl ?_
  obtain ⟨x1, σ2, y3, h⟩ := bd_some h
  refine g_callSr (as := [.int p1]) (st := []) (zX11_isRow y3) dX11_get_1 okX11_get_576 (Nat.le_of_ble_eq_true rfl) ?_
  refine g_if_ne (t := 11) dX11_get_4 (by decide) (fun c4 => ?_) (fun c4 => ?_)
  · replace h := if_f h c4
    refine g_aload_n dX11_get_11 rfl 0 rfl ?_
    refine g_iconst (v := 0) dX11_get_12 (by decide) ?_
    obtain ⟨σ5, eσ5, h⟩ := bnd_nm h
    refine g_putI dX11_get_13 gi_168 rfl fp_RX11_544 (g_st eσ5 ?_)
    refine g_aload_n dX11_get_16 rfl 0 rfl ?_
    refine g_iload_n dX11_get_17 rfl 1 rfl ?_
    refine g_iload_n dX11_get_18 rfl 2 rfl ?_
    obtain ⟨x6, σ7, y8, h⟩ := bd_some h
    refine g_callVr (as := [.int p1, .int p2]) (st := []) (zX11_itemFault y8) dX11_get_19 gi_168 rfl okX11_get_579 (Nat.le_of_ble_eq_true rfl) ?_
    refine g_istore_n (lv' := [(3, .int x6), (0, .ref 168), (1, .int p1), (2, .int p2)]) dX11_get_22 rfl (Nat.le_of_ble_eq_true rfl) rfl ?_
    refine g_iload_n dX11_get_23 rfl 0 rfl ?_
    refine g_if_eq (t := 36) dX11_get_24 (by decide) (fun c9 => ?_) (fun c9 => ?_)
    · replace h := if_t h c9
      refine g_aload_n dX11_get_36 rfl 1 rfl ?_
      refine g_getC (n := 231) dX11_get_37 gi_168 rfl fl_RX11_212 ?_
      refine g_sipush (v := 300) dX11_get_40 (by decide) ?_
      refine g_iload_n dX11_get_43 rfl 2 rfl ?_
      refine g_imul dX11_get_44 ?_
      refine g_iload_n dX11_get_45 rfl 3 rfl ?_
      refine g_iadd dX11_get_46 ?_
      obtain ⟨x10, ex10, h⟩ := bnd_nm h
      refine g_topi ex10 ?_
      obtain ⟨g11, h⟩ := gg_some h
      refine g_lald dX11_get_47 gi_231 g11 ?_
      refine g_sub [] rfl ?_
      exact pX11_get_48 h
    · replace h := if_f h c9
      refine g_aload_n dX11_get_27 rfl 1 rfl ?_
      refine g_iload_n dX11_get_28 rfl 0 rfl ?_
      obtain ⟨x12, σ13, y14, h⟩ := bd_some h
      refine g_callVr (as := [.int x6]) (st := []) (zX11_finds y14) dX11_get_29 gi_168 rfl okX11_get_560 (Nat.le_of_ble_eq_true rfl) ?_
      refine g_i2l dX11_get_32 ?_
      refine g_goto (t := 48) dX11_get_33 (by decide) ?_
      refine g_sub [] rfl ?_
      exact pX11_get_48 h
  · replace h := if_t h c4
    refine g_ldc2 (v := (-1000001)) dX11_get_7 wl_RX11_510 ?_
    obtain ⟨rfl, rfl⟩ := so_inj h
    exact g_lret dX11_get_10 rfl
theorem zX11_get {E : gE} {p1 : Int32} {p2 : Int32} {r : Int64} {σ σ' : gS} (h : fX11_get p1 p2 σ = some (r, σ')) : gC E mX11_get [.ref 168, .int p1, .int p2] σ (some (.long r)) σ' :=
  gC_of (by decide +kernel) rfl (Nat.le_of_ble_eq_true rfl) (pX11_get h)
theorem fl_RX11_215 : gFl RX11 215 11 100 := ⟨RX11, TX11, 101, rfl, by decide, ux_11, Or.inl (gm 1328 (by decide +kernel) rfl)⟩
def mX11_move : gM := (yX11_move, cX11_move, RX11, 7, (some .int), 2, 45)
theorem dX11_move_0 : decode mX11_move.2.1 0 = .ok (.iload_n 1, 1) := by decide +kernel
theorem dX11_move_1 : decode mX11_move.2.1 1 = .ok (.invokestatic 576, 3) := by decide +kernel
theorem dX11_move_4 : decode mX11_move.2.1 4 = .ok (.ifCond .eq 10, 3) := by decide +kernel
theorem dX11_move_7 : decode mX11_move.2.1 7 = .ok (.iload_n 3, 1) := by decide +kernel
theorem dX11_move_8 : decode mX11_move.2.1 8 = .ok (.invokestatic 576, 3) := by decide +kernel
theorem dX11_move_11 : decode mX11_move.2.1 11 = .ok (.ifCond .ne 6, 3) := by decide +kernel
theorem dX11_move_14 : decode mX11_move.2.1 14 = .ok (.ldc 224, 2) := by decide +kernel
theorem dX11_move_16 : decode mX11_move.2.1 16 = .ok (.ireturn, 1) := by decide +kernel
theorem dX11_move_17 : decode mX11_move.2.1 17 = .ok (.aload_n 0, 1) := by decide +kernel
theorem dX11_move_18 : decode mX11_move.2.1 18 = .ok (.iconst 0, 1) := by decide +kernel
theorem dX11_move_19 : decode mX11_move.2.1 19 = .ok (.putfield 544, 3) := by decide +kernel
theorem dX11_move_22 : decode mX11_move.2.1 22 = .ok (.aload_n 0, 1) := by decide +kernel
theorem dX11_move_23 : decode mX11_move.2.1 23 = .ok (.getfield 206, 3) := by decide +kernel
theorem dX11_move_26 : decode mX11_move.2.1 26 = .ok (.iload_n 1, 1) := by decide +kernel
theorem dX11_move_27 : decode mX11_move.2.1 27 = .ok (.iaload, 1) := by decide +kernel
theorem dX11_move_28 : decode mX11_move.2.1 28 = .ok (.ifCond .eq 12, 3) := by decide +kernel
theorem dX11_move_31 : decode mX11_move.2.1 31 = .ok (.aload_n 0, 1) := by decide +kernel
theorem dX11_move_32 : decode mX11_move.2.1 32 = .ok (.getfield 206, 3) := by decide +kernel
theorem dX11_move_35 : decode mX11_move.2.1 35 = .ok (.iload_n 3, 1) := by decide +kernel
theorem dX11_move_36 : decode mX11_move.2.1 36 = .ok (.iaload, 1) := by decide +kernel
theorem dX11_move_37 : decode mX11_move.2.1 37 = .ok (.ifCond .ne 9, 3) := by decide +kernel
theorem dX11_move_40 : decode mX11_move.2.1 40 = .ok (.aload_n 0, 1) := by decide +kernel
theorem dX11_move_41 : decode mX11_move.2.1 41 = .ok (.iconst 1, 1) := by decide +kernel
theorem dX11_move_42 : decode mX11_move.2.1 42 = .ok (.invokevirtual 560, 3) := by decide +kernel
theorem dX11_move_45 : decode mX11_move.2.1 45 = .ok (.ireturn, 1) := by decide +kernel
theorem dX11_move_46 : decode mX11_move.2.1 46 = .ok (.aload_n 0, 1) := by decide +kernel
theorem dX11_move_47 : decode mX11_move.2.1 47 = .ok (.getfield 206, 3) := by decide +kernel
theorem dX11_move_50 : decode mX11_move.2.1 50 = .ok (.iload_n 1, 1) := by decide +kernel
theorem dX11_move_51 : decode mX11_move.2.1 51 = .ok (.iaload, 1) := by decide +kernel
theorem dX11_move_52 : decode mX11_move.2.1 52 = .ok (.aload_n 0, 1) := by decide +kernel
theorem dX11_move_53 : decode mX11_move.2.1 53 = .ok (.getfield 206, 3) := by decide +kernel
theorem dX11_move_56 : decode mX11_move.2.1 56 = .ok (.iload_n 3, 1) := by decide +kernel
theorem dX11_move_57 : decode mX11_move.2.1 57 = .ok (.iaload, 1) := by decide +kernel
theorem dX11_move_58 : decode mX11_move.2.1 58 = .ok (.if_icmp .eq 10, 3) := by decide +kernel
theorem dX11_move_61 : decode mX11_move.2.1 61 = .ok (.aload_n 0, 1) := by decide +kernel
theorem dX11_move_62 : decode mX11_move.2.1 62 = .ok (.bipush 6, 2) := by decide +kernel
theorem dX11_move_64 : decode mX11_move.2.1 64 = .ok (.invokevirtual 560, 3) := by decide +kernel
theorem dX11_move_67 : decode mX11_move.2.1 67 = .ok (.ireturn, 1) := by decide +kernel
theorem dX11_move_68 : decode mX11_move.2.1 68 = .ok (.iload_n 2, 1) := by decide +kernel
theorem dX11_move_69 : decode mX11_move.2.1 69 = .ok (.ifCond .lt 48, 3) := by decide +kernel
theorem dX11_move_72 : decode mX11_move.2.1 72 = .ok (.iload 4, 2) := by decide +kernel
theorem dX11_move_74 : decode mX11_move.2.1 74 = .ok (.ifCond .lt 43, 3) := by decide +kernel
theorem dX11_move_77 : decode mX11_move.2.1 77 = .ok (.iload 5, 2) := by decide +kernel
theorem dX11_move_79 : decode mX11_move.2.1 79 = .ok (.ifCond .lt 38, 3) := by decide +kernel
theorem dX11_move_82 : decode mX11_move.2.1 82 = .ok (.iload_n 2, 1) := by decide +kernel
theorem dX11_move_83 : decode mX11_move.2.1 83 = .ok (.i2l, 1) := by decide +kernel
theorem dX11_move_84 : decode mX11_move.2.1 84 = .ok (.iload 5, 2) := by decide +kernel
theorem dX11_move_86 : decode mX11_move.2.1 86 = .ok (.i2l, 1) := by decide +kernel
theorem dX11_move_87 : decode mX11_move.2.1 87 = .ok (.ladd, 1) := by decide +kernel
theorem dX11_move_88 : decode mX11_move.2.1 88 = .ok (.aload_n 0, 1) := by decide +kernel
theorem dX11_move_89 : decode mX11_move.2.1 89 = .ok (.getfield 209, 3) := by decide +kernel
theorem dX11_move_92 : decode mX11_move.2.1 92 = .ok (.iload_n 1, 1) := by decide +kernel
theorem dX11_move_93 : decode mX11_move.2.1 93 = .ok (.iaload, 1) := by decide +kernel
theorem dX11_move_94 : decode mX11_move.2.1 94 = .ok (.i2l, 1) := by decide +kernel
theorem dX11_move_95 : decode mX11_move.2.1 95 = .ok (.lcmp, 1) := by decide +kernel
theorem dX11_move_96 : decode mX11_move.2.1 96 = .ok (.ifCond .gt 21, 3) := by decide +kernel
theorem dX11_move_99 : decode mX11_move.2.1 99 = .ok (.iload 4, 2) := by decide +kernel
theorem dX11_move_101 : decode mX11_move.2.1 101 = .ok (.i2l, 1) := by decide +kernel
theorem dX11_move_102 : decode mX11_move.2.1 102 = .ok (.iload 5, 2) := by decide +kernel
theorem dX11_move_104 : decode mX11_move.2.1 104 = .ok (.i2l, 1) := by decide +kernel
theorem dX11_move_105 : decode mX11_move.2.1 105 = .ok (.ladd, 1) := by decide +kernel
theorem dX11_move_106 : decode mX11_move.2.1 106 = .ok (.aload_n 0, 1) := by decide +kernel
theorem dX11_move_107 : decode mX11_move.2.1 107 = .ok (.getfield 209, 3) := by decide +kernel
theorem dX11_move_110 : decode mX11_move.2.1 110 = .ok (.iload_n 3, 1) := by decide +kernel
theorem dX11_move_111 : decode mX11_move.2.1 111 = .ok (.iaload, 1) := by decide +kernel
theorem dX11_move_112 : decode mX11_move.2.1 112 = .ok (.i2l, 1) := by decide +kernel
theorem dX11_move_113 : decode mX11_move.2.1 113 = .ok (.lcmp, 1) := by decide +kernel
theorem dX11_move_114 : decode mX11_move.2.1 114 = .ok (.ifCond .le 9, 3) := by decide +kernel
theorem dX11_move_117 : decode mX11_move.2.1 117 = .ok (.aload_n 0, 1) := by decide +kernel
theorem dX11_move_118 : decode mX11_move.2.1 118 = .ok (.iconst 2, 1) := by decide +kernel
theorem dX11_move_119 : decode mX11_move.2.1 119 = .ok (.invokevirtual 560, 3) := by decide +kernel
theorem dX11_move_122 : decode mX11_move.2.1 122 = .ok (.ireturn, 1) := by decide +kernel
theorem dX11_move_123 : decode mX11_move.2.1 123 = .ok (.iconst 0, 1) := by decide +kernel
theorem dX11_move_124 : decode mX11_move.2.1 124 = .ok (.istore 6, 2) := by decide +kernel
theorem dX11_move_126 : decode mX11_move.2.1 126 = .ok (.iload 6, 2) := by decide +kernel
theorem dX11_move_128 : decode mX11_move.2.1 128 = .ok (.iload 5, 2) := by decide +kernel
theorem dX11_move_130 : decode mX11_move.2.1 130 = .ok (.if_icmp .ge 31, 3) := by decide +kernel
theorem dX11_move_133 : decode mX11_move.2.1 133 = .ok (.aload_n 0, 1) := by decide +kernel
theorem dX11_move_134 : decode mX11_move.2.1 134 = .ok (.getfield 215, 3) := by decide +kernel
theorem dX11_move_137 : decode mX11_move.2.1 137 = .ok (.iload 6, 2) := by decide +kernel
theorem dX11_move_139 : decode mX11_move.2.1 139 = .ok (.aload_n 0, 1) := by decide +kernel
theorem dX11_move_140 : decode mX11_move.2.1 140 = .ok (.getfield 212, 3) := by decide +kernel
theorem dX11_move_143 : decode mX11_move.2.1 143 = .ok (.sipush 300, 3) := by decide +kernel
theorem dX11_move_146 : decode mX11_move.2.1 146 = .ok (.iload_n 1, 1) := by decide +kernel
theorem dX11_move_147 : decode mX11_move.2.1 147 = .ok (.imul, 1) := by decide +kernel
theorem dX11_move_148 : decode mX11_move.2.1 148 = .ok (.iload_n 2, 1) := by decide +kernel
theorem dX11_move_149 : decode mX11_move.2.1 149 = .ok (.iadd, 1) := by decide +kernel
theorem dX11_move_150 : decode mX11_move.2.1 150 = .ok (.iload 6, 2) := by decide +kernel
theorem dX11_move_152 : decode mX11_move.2.1 152 = .ok (.iadd, 1) := by decide +kernel
theorem dX11_move_153 : decode mX11_move.2.1 153 = .ok (.laload, 1) := by decide +kernel
theorem dX11_move_154 : decode mX11_move.2.1 154 = .ok (.lastore, 1) := by decide +kernel
theorem dX11_move_155 : decode mX11_move.2.1 155 = .ok (.iinc 6 1, 3) := by decide +kernel
theorem dX11_move_158 : decode mX11_move.2.1 158 = .ok (.goto (-32), 3) := by decide +kernel
theorem dX11_move_161 : decode mX11_move.2.1 161 = .ok (.iconst 0, 1) := by decide +kernel
theorem dX11_move_162 : decode mX11_move.2.1 162 = .ok (.istore 6, 2) := by decide +kernel
theorem dX11_move_164 : decode mX11_move.2.1 164 = .ok (.iload 6, 2) := by decide +kernel
theorem dX11_move_166 : decode mX11_move.2.1 166 = .ok (.iload 5, 2) := by decide +kernel
theorem dX11_move_168 : decode mX11_move.2.1 168 = .ok (.if_icmp .ge 32, 3) := by decide +kernel
theorem dX11_move_171 : decode mX11_move.2.1 171 = .ok (.aload_n 0, 1) := by decide +kernel
theorem dX11_move_172 : decode mX11_move.2.1 172 = .ok (.getfield 212, 3) := by decide +kernel
theorem dX11_move_175 : decode mX11_move.2.1 175 = .ok (.sipush 300, 3) := by decide +kernel
theorem dX11_move_178 : decode mX11_move.2.1 178 = .ok (.iload_n 3, 1) := by decide +kernel
theorem dX11_move_179 : decode mX11_move.2.1 179 = .ok (.imul, 1) := by decide +kernel
theorem dX11_move_180 : decode mX11_move.2.1 180 = .ok (.iload 4, 2) := by decide +kernel
theorem dX11_move_182 : decode mX11_move.2.1 182 = .ok (.iadd, 1) := by decide +kernel
theorem dX11_move_183 : decode mX11_move.2.1 183 = .ok (.iload 6, 2) := by decide +kernel
theorem dX11_move_185 : decode mX11_move.2.1 185 = .ok (.iadd, 1) := by decide +kernel
theorem dX11_move_186 : decode mX11_move.2.1 186 = .ok (.aload_n 0, 1) := by decide +kernel
theorem dX11_move_187 : decode mX11_move.2.1 187 = .ok (.getfield 215, 3) := by decide +kernel
theorem dX11_move_190 : decode mX11_move.2.1 190 = .ok (.iload 6, 2) := by decide +kernel
theorem dX11_move_192 : decode mX11_move.2.1 192 = .ok (.laload, 1) := by decide +kernel
theorem dX11_move_193 : decode mX11_move.2.1 193 = .ok (.lastore, 1) := by decide +kernel
theorem dX11_move_194 : decode mX11_move.2.1 194 = .ok (.iinc 6 1, 3) := by decide +kernel
theorem dX11_move_197 : decode mX11_move.2.1 197 = .ok (.goto (-33), 3) := by decide +kernel
theorem dX11_move_200 : decode mX11_move.2.1 200 = .ok (.iload 5, 2) := by decide +kernel
theorem dX11_move_202 : decode mX11_move.2.1 202 = .ok (.ireturn, 1) := by decide +kernel
theorem okX11_move_560 : gOkV mX11_move mX11_finds 560 1 := ⟨List.forall_mem_cons.mpr ⟨(gm 1870 (by decide +kernel) rfl), List.forall_mem_cons.mpr ⟨(gm 1867 (by decide +kernel) rfl), List.forall_mem_cons.mpr ⟨(gm 1869 (by decide +kernel) rfl), List.forall_mem_cons.mpr ⟨(gm 104 (by decide +kernel) rfl), List.forall_mem_cons.mpr ⟨(gm 122 (by decide +kernel) rfl), fun _ h => absurd h List.not_mem_nil⟩⟩⟩⟩⟩, by decide +kernel, by decide +kernel, by decide +kernel⟩
theorem okX11_move_576 : gOkS mX11_move mX11_isRow 576 1 := ⟨List.forall_mem_cons.mpr ⟨(gm 1894 (by decide +kernel) rfl), List.forall_mem_cons.mpr ⟨(gm 1892 (by decide +kernel) rfl), List.forall_mem_cons.mpr ⟨(gm 1893 (by decide +kernel) rfl), List.forall_mem_cons.mpr ⟨(gm 122 (by decide +kernel) rfl), fun _ h => absurd h List.not_mem_nil⟩⟩⟩⟩, by decide +kernel, by decide +kernel, by decide +kernel⟩
def fX11_move_14 (p1 : Int32) (p2 : Int32) (p3 : Int32) (p4 : Int32) (p5 : Int32) (σ : gS) : Option (Int32 × gS) :=
  some ((-1000001), σ)
set_option maxHeartbeats 4000000 in
set_option maxRecDepth 100000 in
theorem pX11_move_14 {E : gE} {p1 : Int32} {p2 : Int32} {p3 : Int32} {p4 : Int32} {p5 : Int32} {r : Int32} {σ' : gS} {σ : gS} (h : fX11_move_14 p1 p2 p3 p4 p5 σ = some (r, σ')) : gG E mX11_move 14 [] [] σ (some (.int r)) σ' := by
  unfold fX11_move_14 at h
  refine g_ldc (v := (-1000001)) dX11_move_14 wc_RX11_224 ?_
  obtain ⟨rfl, rfl⟩ := so_inj h
  exact g_iret dX11_move_16 rfl
def fX11_move_40 (p1 : Int32) (p2 : Int32) (p3 : Int32) (p4 : Int32) (p5 : Int32) (σ : gS) : Option (Int32 × gS) :=
  bd (fX11_finds 1 σ) fun x1 σ2 =>
  some (x1, σ2)
set_option maxHeartbeats 4000000 in
set_option maxRecDepth 100000 in
theorem pX11_move_40 {E : gE} {p1 : Int32} {p2 : Int32} {p3 : Int32} {p4 : Int32} {p5 : Int32} {r : Int32} {σ' : gS} {σ : gS} (h : fX11_move_40 p1 p2 p3 p4 p5 σ = some (r, σ')) : gG E mX11_move 40 [(0, .ref 168)] [] σ (some (.int r)) σ' := by
  unfold fX11_move_40 at h
  refine g_aload_n dX11_move_40 rfl 0 rfl ?_
  refine g_iconst (v := 1) dX11_move_41 (by decide) ?_
  obtain ⟨x1, σ2, y3, h⟩ := bd_some h
  refine g_callVr (as := [.int 1]) (st := []) (zX11_finds y3) dX11_move_42 gi_168 rfl okX11_move_560 (Nat.le_of_ble_eq_true rfl) ?_
  obtain ⟨rfl, rfl⟩ := so_inj h
  exact g_iret dX11_move_45 rfl
def fX11_move_117 (p1 : Int32) (p2 : Int32) (p3 : Int32) (p4 : Int32) (p5 : Int32) (σ : gS) : Option (Int32 × gS) :=
  bd (fX11_finds 2 σ) fun x1 σ2 =>
  some (x1, σ2)
set_option maxHeartbeats 4000000 in
set_option maxRecDepth 100000 in
theorem pX11_move_117 {E : gE} {p1 : Int32} {p2 : Int32} {p3 : Int32} {p4 : Int32} {p5 : Int32} {r : Int32} {σ' : gS} {σ : gS} (h : fX11_move_117 p1 p2 p3 p4 p5 σ = some (r, σ')) : gG E mX11_move 117 [(0, .ref 168)] [] σ (some (.int r)) σ' := by
  unfold fX11_move_117 at h
  refine g_aload_n dX11_move_117 rfl 0 rfl ?_
  refine g_iconst (v := 2) dX11_move_118 (by decide) ?_
  obtain ⟨x1, σ2, y3, h⟩ := bd_some h
  refine g_callVr (as := [.int 2]) (st := []) (zX11_finds y3) dX11_move_119 gi_168 rfl okX11_move_560 (Nat.le_of_ble_eq_true rfl) ?_
  obtain ⟨rfl, rfl⟩ := so_inj h
  exact g_iret dX11_move_122 rfl
def fX11_move_164 (p1 : Int32) (p2 : Int32) (p3 : Int32) (p4 : Int32) (p5 : Int32) : Nat → Int32 → gS → Option (Int32 × gS)
  | 0, _, _ => none
  | n + 1, v6, σ => if p5 ≤ v6 then
    some (p5, σ)
  else
    gg (¬ (v6 < 0 ∨ 300 ≤ v6.toNatClampNeg)) (
    gg (¬ (((300 * p3) + p4) + v6 < 0 ∨ 2400 ≤ (((300 * p3) + p4) + v6).toNatClampNeg)) (
    bnd (gsJ σ 231 ((((300 * p3) + p4) + v6).toNatClampNeg) (σ.2.1 232 v6.toNatClampNeg)) fun σ4 =>
    bnd (v6 + 1) fun x5 =>
    fX11_move_164 p1 p2 p3 p4 p5 n x5 σ4))
set_option maxHeartbeats 4000000 in
set_option maxRecDepth 100000 in
theorem pX11_move_164 {E : gE} {p1 : Int32} {p2 : Int32} {p3 : Int32} {p4 : Int32} {p5 : Int32} {r : Int32} {σ' : gS} : ∀ (n : Nat) (v6 : Int32) (σ : gS), fX11_move_164 p1 p2 p3 p4 p5 n v6 σ = some (r, σ') → gG E mX11_move 164 [(0, .ref 168), (3, .int p3), (4, .int p4), (5, .int p5), (6, .int v6)] [] σ (some (.int r)) σ' := by
  intro n
  induction n with
  | zero => intro v6 σ h; exact absurd (show none = some (r, σ') from h) (by intro q; cases q)
  | succ n ih =>
  intro v6 σ h
  unfold fX11_move_164 at h
  refine g_iload dX11_move_164 4 rfl ?_
  refine g_iload dX11_move_166 3 rfl ?_
  refine g_icmp_ge (t := 200) dX11_move_168 (by decide) (fun c1 => ?_) (fun c1 => ?_)
  · replace h := if_t h c1
    refine g_iload dX11_move_200 3 rfl ?_
    obtain ⟨rfl, rfl⟩ := so_inj h
    exact g_iret dX11_move_202 rfl
  · replace h := if_f h c1
    refine g_aload_n dX11_move_171 rfl 0 rfl ?_
    refine g_getC (n := 231) dX11_move_172 gi_168 rfl fl_RX11_212 ?_
    refine g_sipush (v := 300) dX11_move_175 (by decide) ?_
    refine g_iload_n dX11_move_178 rfl 1 rfl ?_
    refine g_imul dX11_move_179 ?_
    refine g_iload dX11_move_180 2 rfl ?_
    refine g_iadd dX11_move_182 ?_
    refine g_iload dX11_move_183 4 rfl ?_
    refine g_iadd dX11_move_185 ?_
    refine g_aload_n dX11_move_186 rfl 0 rfl ?_
    refine g_getC (n := 232) dX11_move_187 gi_168 rfl fl_RX11_215 ?_
    refine g_iload dX11_move_190 4 rfl ?_
    obtain ⟨g2, h⟩ := gg_some h
    refine g_lald dX11_move_192 gi_232 g2 ?_
    obtain ⟨g3, h⟩ := gg_some h
    obtain ⟨σ4, eσ4, h⟩ := bnd_nm h
    refine g_last dX11_move_193 gi_231 g3 (g_st eσ4 ?_)
    obtain ⟨x5, ex5, h⟩ := bnd_nm h
    refine g_iinc (j := 4) (v := x5) (lv' := [(6, .int x5), (0, .ref 168), (3, .int p3), (4, .int p4), (5, .int p5)]) dX11_move_194 rfl (by rw [ex5]; rfl) (Nat.le_of_ble_eq_true rfl) rfl ?_
    refine g_goto (t := 164) dX11_move_197 (by decide) ?_
    refine g_sub [1, 2, 3, 4, 0] rfl ?_
    exact ih x5 σ4 h
def fX11_move_126 (p1 : Int32) (p2 : Int32) (p3 : Int32) (p4 : Int32) (p5 : Int32) : Nat → Int32 → gS → Option (Int32 × gS)
  | 0, _, _ => none
  | n + 1, v6, σ => if p5 ≤ v6 then
    fX11_move_164 p1 p2 p3 p4 p5 2000 0 σ
  else
    bnd (((300 * p1) + p2) + v6) fun x2 =>
    gg (¬ (x2 < 0 ∨ 2400 ≤ x2.toNatClampNeg)) (
    gg (¬ (v6 < 0 ∨ 300 ≤ v6.toNatClampNeg)) (
    bnd (gsJ σ 232 v6.toNatClampNeg (σ.2.1 231 x2.toNatClampNeg)) fun σ5 =>
    bnd (v6 + 1) fun x6 =>
    fX11_move_126 p1 p2 p3 p4 p5 n x6 σ5))
set_option maxHeartbeats 4000000 in
set_option maxRecDepth 100000 in
theorem pX11_move_126 {E : gE} {p1 : Int32} {p2 : Int32} {p3 : Int32} {p4 : Int32} {p5 : Int32} {r : Int32} {σ' : gS} : ∀ (n : Nat) (v6 : Int32) (σ : gS), fX11_move_126 p1 p2 p3 p4 p5 n v6 σ = some (r, σ') → gG E mX11_move 126 [(0, .ref 168), (1, .int p1), (2, .int p2), (3, .int p3), (4, .int p4), (5, .int p5), (6, .int v6)] [] σ (some (.int r)) σ' := by
  intro n
  induction n with
  | zero => intro v6 σ h; exact absurd (show none = some (r, σ') from h) (by intro q; cases q)
  | succ n ih =>
  intro v6 σ h
  unfold fX11_move_126 at h
  refine g_iload dX11_move_126 6 rfl ?_
  refine g_iload dX11_move_128 5 rfl ?_
  refine g_icmp_ge (t := 161) dX11_move_130 (by decide) (fun c1 => ?_) (fun c1 => ?_)
  · replace h := if_t h c1
    refine g_iconst (v := 0) dX11_move_161 (by decide) ?_
    refine g_istore (lv' := [(6, .int 0), (0, .ref 168), (1, .int p1), (2, .int p2), (3, .int p3), (4, .int p4), (5, .int p5)]) dX11_move_162 (Nat.le_of_ble_eq_true rfl) rfl ?_
    refine g_sub [1, 4, 5, 6, 0] rfl ?_
    exact pX11_move_164 2000 0 σ h
  · replace h := if_f h c1
    refine g_aload_n dX11_move_133 rfl 0 rfl ?_
    refine g_getC (n := 232) dX11_move_134 gi_168 rfl fl_RX11_215 ?_
    refine g_iload dX11_move_137 6 rfl ?_
    refine g_aload_n dX11_move_139 rfl 0 rfl ?_
    refine g_getC (n := 231) dX11_move_140 gi_168 rfl fl_RX11_212 ?_
    refine g_sipush (v := 300) dX11_move_143 (by decide) ?_
    refine g_iload_n dX11_move_146 rfl 1 rfl ?_
    refine g_imul dX11_move_147 ?_
    refine g_iload_n dX11_move_148 rfl 2 rfl ?_
    refine g_iadd dX11_move_149 ?_
    refine g_iload dX11_move_150 6 rfl ?_
    refine g_iadd dX11_move_152 ?_
    obtain ⟨x2, ex2, h⟩ := bnd_nm h
    refine g_topi ex2 ?_
    obtain ⟨g3, h⟩ := gg_some h
    refine g_lald dX11_move_153 gi_231 g3 ?_
    obtain ⟨g4, h⟩ := gg_some h
    obtain ⟨σ5, eσ5, h⟩ := bnd_nm h
    refine g_last dX11_move_154 gi_232 g4 (g_st eσ5 ?_)
    obtain ⟨x6, ex6, h⟩ := bnd_nm h
    refine g_iinc (j := 6) (v := x6) (lv' := [(6, .int x6), (0, .ref 168), (1, .int p1), (2, .int p2), (3, .int p3), (4, .int p4), (5, .int p5)]) dX11_move_155 rfl (by rw [ex6]; rfl) (Nat.le_of_ble_eq_true rfl) rfl ?_
    refine g_goto (t := 126) dX11_move_158 (by decide) ?_
    refine g_sub [1, 2, 3, 4, 5, 6, 0] rfl ?_
    exact ih x6 σ5 h
def fX11_move (p1 : Int32) (p2 : Int32) (p3 : Int32) (p4 : Int32) (p5 : Int32) (σ : gS) : Option (Int32 × gS) :=
  bd (fX11_isRow p1 σ) fun x1 σ2 =>
  if x1 = 0 then
    fX11_move_14 p1 p2 p3 p4 p5 σ2
  else
    bd (fX11_isRow p3 σ2) fun x5 σ6 =>
    if x5 = 0 then
      fX11_move_14 p1 p2 p3 p4 p5 σ6
    else
      bnd (gsI σ6 168 94 0) fun σ9 =>
      gg (¬ (p1 < 0 ∨ 8 ≤ p1.toNatClampNeg)) (
      if (σ9.1 229 p1.toNatClampNeg) = 0 then
        fX11_move_40 p1 p2 p3 p4 p5 σ9
      else
        gg (¬ (p3 < 0 ∨ 8 ≤ p3.toNatClampNeg)) (
        if (σ9.1 229 p3.toNatClampNeg) = 0 then
          fX11_move_40 p1 p2 p3 p4 p5 σ9
        else
          gg (¬ (p1 < 0 ∨ 8 ≤ p1.toNatClampNeg)) (
          gg (¬ (p3 < 0 ∨ 8 ≤ p3.toNatClampNeg)) (
          if (σ9.1 229 p1.toNatClampNeg) = (σ9.1 229 p3.toNatClampNeg) then
            if p2 < 0 then
              fX11_move_117 p1 p2 p3 p4 p5 σ9
            else
              if p4 < 0 then
                fX11_move_117 p1 p2 p3 p4 p5 σ9
              else
                if p5 < 0 then
                  fX11_move_117 p1 p2 p3 p4 p5 σ9
                else
                  gg (¬ (p1 < 0 ∨ 8 ≤ p1.toNatClampNeg)) (
                  if 0 < (lg_cmp (p2.toInt64 + p5.toInt64) ((σ9.1 230 p1.toNatClampNeg).toInt64)) then
                    fX11_move_117 p1 p2 p3 p4 p5 σ9
                  else
                    gg (¬ (p3 < 0 ∨ 8 ≤ p3.toNatClampNeg)) (
                    if (lg_cmp (p4.toInt64 + p5.toInt64) ((σ9.1 230 p3.toNatClampNeg).toInt64)) ≤ 0 then
                      fX11_move_126 p1 p2 p3 p4 p5 2000 0 σ9
                    else
                      fX11_move_117 p1 p2 p3 p4 p5 σ9))
          else
            bd (fX11_finds 6 σ9) fun x24 σ25 =>
            some (x24, σ25)))))
set_option maxHeartbeats 4000000 in
set_option maxRecDepth 100000 in
theorem pX11_move {E : gE} {p1 : Int32} {p2 : Int32} {p3 : Int32} {p4 : Int32} {p5 : Int32} {r : Int32} {σ' : gS} {σ : gS} (h : fX11_move p1 p2 p3 p4 p5 σ = some (r, σ')) : gG E mX11_move 0 [(0, .ref 168), (1, .int p1), (2, .int p2), (3, .int p3), (4, .int p4), (5, .int p5)] [] σ (some (.int r)) σ' := by
  unfold fX11_move at h
  refine g_iload_n dX11_move_0 rfl 1 rfl ?_
  obtain ⟨x1, σ2, y3, h⟩ := bd_some h
  refine g_callSr (as := [.int p1]) (st := []) (zX11_isRow y3) dX11_move_1 okX11_move_576 (Nat.le_of_ble_eq_true rfl) ?_
  refine g_if_eq (t := 14) dX11_move_4 (by decide) (fun c4 => ?_) (fun c4 => ?_)
  · replace h := if_t h c4
    refine g_sub [] rfl ?_
    exact pX11_move_14 h
  · replace h := if_f h c4
    refine g_iload_n dX11_move_7 rfl 3 rfl ?_
    obtain ⟨x5, σ6, y7, h⟩ := bd_some h
    refine g_callSr (as := [.int p3]) (st := []) (zX11_isRow y7) dX11_move_8 okX11_move_576 (Nat.le_of_ble_eq_true rfl) ?_
    refine g_if_ne (t := 17) dX11_move_11 (by decide) (fun c8 => ?_) (fun c8 => ?_)
    · replace h := if_f h c8
      refine g_aload_n dX11_move_17 rfl 0 rfl ?_
      refine g_iconst (v := 0) dX11_move_18 (by decide) ?_
      obtain ⟨σ9, eσ9, h⟩ := bnd_nm h
      refine g_putI dX11_move_19 gi_168 rfl fp_RX11_544 (g_st eσ9 ?_)
      refine g_aload_n dX11_move_22 rfl 0 rfl ?_
      refine g_getC (n := 229) dX11_move_23 gi_168 rfl fl_RX11_206 ?_
      refine g_iload_n dX11_move_26 rfl 1 rfl ?_
      obtain ⟨g10, h⟩ := gg_some h
      refine g_iald dX11_move_27 gi_229 g10 ?_
      refine g_if_eq (t := 40) dX11_move_28 (by decide) (fun c11 => ?_) (fun c11 => ?_)
      · replace h := if_t h c11
        refine g_sub [0] rfl ?_
        exact pX11_move_40 h
      · replace h := if_f h c11
        refine g_aload_n dX11_move_31 rfl 0 rfl ?_
        refine g_getC (n := 229) dX11_move_32 gi_168 rfl fl_RX11_206 ?_
        refine g_iload_n dX11_move_35 rfl 3 rfl ?_
        obtain ⟨g12, h⟩ := gg_some h
        refine g_iald dX11_move_36 gi_229 g12 ?_
        refine g_if_ne (t := 46) dX11_move_37 (by decide) (fun c13 => ?_) (fun c13 => ?_)
        · replace h := if_f h c13
          refine g_aload_n dX11_move_46 rfl 0 rfl ?_
          refine g_getC (n := 229) dX11_move_47 gi_168 rfl fl_RX11_206 ?_
          refine g_iload_n dX11_move_50 rfl 1 rfl ?_
          obtain ⟨g14, h⟩ := gg_some h
          refine g_iald dX11_move_51 gi_229 g14 ?_
          refine g_aload_n dX11_move_52 rfl 0 rfl ?_
          refine g_getC (n := 229) dX11_move_53 gi_168 rfl fl_RX11_206 ?_
          refine g_iload_n dX11_move_56 rfl 3 rfl ?_
          obtain ⟨g15, h⟩ := gg_some h
          refine g_iald dX11_move_57 gi_229 g15 ?_
          refine g_icmp_eq (t := 68) dX11_move_58 (by decide) (fun c16 => ?_) (fun c16 => ?_)
          · replace h := if_t h c16
            refine g_iload_n dX11_move_68 rfl 2 rfl ?_
            refine g_if_lt (t := 117) dX11_move_69 (by decide) (fun c17 => ?_) (fun c17 => ?_)
            · replace h := if_t h c17
              refine g_sub [0] rfl ?_
              exact pX11_move_117 h
            · replace h := if_f h c17
              refine g_iload dX11_move_72 4 rfl ?_
              refine g_if_lt (t := 117) dX11_move_74 (by decide) (fun c18 => ?_) (fun c18 => ?_)
              · replace h := if_t h c18
                refine g_sub [0] rfl ?_
                exact pX11_move_117 h
              · replace h := if_f h c18
                refine g_iload dX11_move_77 5 rfl ?_
                refine g_if_lt (t := 117) dX11_move_79 (by decide) (fun c19 => ?_) (fun c19 => ?_)
                · replace h := if_t h c19
                  refine g_sub [0] rfl ?_
                  exact pX11_move_117 h
                · replace h := if_f h c19
                  refine g_iload_n dX11_move_82 rfl 2 rfl ?_
                  refine g_i2l dX11_move_83 ?_
                  refine g_iload dX11_move_84 5 rfl ?_
                  refine g_i2l dX11_move_86 ?_
                  refine g_ladd dX11_move_87 ?_
                  refine g_aload_n dX11_move_88 rfl 0 rfl ?_
                  refine g_getC (n := 230) dX11_move_89 gi_168 rfl fl_RX11_209 ?_
                  refine g_iload_n dX11_move_92 rfl 1 rfl ?_
                  obtain ⟨g20, h⟩ := gg_some h
                  refine g_iald dX11_move_93 gi_230 g20 ?_
                  refine g_i2l dX11_move_94 ?_
                  refine g_lcmp dX11_move_95 ?_
                  refine g_if_gt (t := 117) dX11_move_96 (by decide) (fun c21 => ?_) (fun c21 => ?_)
                  · replace h := if_t h c21
                    refine g_sub [0] rfl ?_
                    exact pX11_move_117 h
                  · replace h := if_f h c21
                    refine g_iload dX11_move_99 4 rfl ?_
                    refine g_i2l dX11_move_101 ?_
                    refine g_iload dX11_move_102 5 rfl ?_
                    refine g_i2l dX11_move_104 ?_
                    refine g_ladd dX11_move_105 ?_
                    refine g_aload_n dX11_move_106 rfl 0 rfl ?_
                    refine g_getC (n := 230) dX11_move_107 gi_168 rfl fl_RX11_209 ?_
                    refine g_iload_n dX11_move_110 rfl 3 rfl ?_
                    obtain ⟨g22, h⟩ := gg_some h
                    refine g_iald dX11_move_111 gi_230 g22 ?_
                    refine g_i2l dX11_move_112 ?_
                    refine g_lcmp dX11_move_113 ?_
                    refine g_if_le (t := 123) dX11_move_114 (by decide) (fun c23 => ?_) (fun c23 => ?_)
                    · replace h := if_t h c23
                      refine g_iconst (v := 0) dX11_move_123 (by decide) ?_
                      refine g_istore (lv' := [(6, .int 0), (0, .ref 168), (1, .int p1), (2, .int p2), (3, .int p3), (4, .int p4), (5, .int p5)]) dX11_move_124 (Nat.le_of_ble_eq_true rfl) rfl ?_
                      refine g_sub [1, 2, 3, 4, 5, 6, 0] rfl ?_
                      exact pX11_move_126 2000 0 σ9 h
                    · replace h := if_f h c23
                      refine g_sub [0] rfl ?_
                      exact pX11_move_117 h
          · replace h := if_f h c16
            refine g_aload_n dX11_move_61 rfl 0 rfl ?_
            refine g_bipush (v := 6) dX11_move_62 (by decide) ?_
            obtain ⟨x24, σ25, y26, h⟩ := bd_some h
            refine g_callVr (as := [.int 6]) (st := []) (zX11_finds y26) dX11_move_64 gi_168 rfl okX11_move_560 (Nat.le_of_ble_eq_true rfl) ?_
            obtain ⟨rfl, rfl⟩ := so_inj h
            exact g_iret dX11_move_67 rfl
        · replace h := if_t h c13
          refine g_sub [0] rfl ?_
          exact pX11_move_40 h
    · replace h := if_t h c8
      refine g_sub [] rfl ?_
      exact pX11_move_14 h
theorem zX11_move {E : gE} {p1 : Int32} {p2 : Int32} {p3 : Int32} {p4 : Int32} {p5 : Int32} {r : Int32} {σ σ' : gS} (h : fX11_move p1 p2 p3 p4 p5 σ = some (r, σ')) : gC E mX11_move [.ref 168, .int p1, .int p2, .int p3, .int p4, .int p5] σ (some (.int r)) σ' :=
  gC_of (by decide +kernel) rfl (Nat.le_of_ble_eq_true rfl) (pX11_move h)
def mX11_keep : gM := (yX11_keep, cX11_keep, RX11, 5, (some .int), 2, 45)
theorem dX11_keep_0 : decode mX11_keep.2.1 0 = .ok (.iload_n 1, 1) := by decide +kernel
theorem dX11_keep_1 : decode mX11_keep.2.1 1 = .ok (.invokestatic 576, 3) := by decide +kernel
theorem dX11_keep_4 : decode mX11_keep.2.1 4 = .ok (.ifCond .eq 13, 3) := by decide +kernel
theorem dX11_keep_7 : decode mX11_keep.2.1 7 = .ok (.iload_n 2, 1) := by decide +kernel
theorem dX11_keep_8 : decode mX11_keep.2.1 8 = .ok (.i2l, 1) := by decide +kernel
theorem dX11_keep_9 : decode mX11_keep.2.1 9 = .ok (.lconst 0, 1) := by decide +kernel
theorem dX11_keep_10 : decode mX11_keep.2.1 10 = .ok (.lconst 1, 1) := by decide +kernel
theorem dX11_keep_11 : decode mX11_keep.2.1 11 = .ok (.invokestatic 220, 3) := by decide +kernel
theorem dX11_keep_14 : decode mX11_keep.2.1 14 = .ok (.ifCond .ne 6, 3) := by decide +kernel
theorem dX11_keep_17 : decode mX11_keep.2.1 17 = .ok (.ldc 224, 2) := by decide +kernel
theorem dX11_keep_19 : decode mX11_keep.2.1 19 = .ok (.ireturn, 1) := by decide +kernel
theorem dX11_keep_20 : decode mX11_keep.2.1 20 = .ok (.aload_n 0, 1) := by decide +kernel
theorem dX11_keep_21 : decode mX11_keep.2.1 21 = .ok (.getfield 182, 3) := by decide +kernel
theorem dX11_keep_24 : decode mX11_keep.2.1 24 = .ok (.ifCond .ge 7, 3) := by decide +kernel
theorem dX11_keep_27 : decode mX11_keep.2.1 27 = .ok (.ldc_w 503, 3) := by decide +kernel
theorem dX11_keep_30 : decode mX11_keep.2.1 30 = .ok (.ireturn, 1) := by decide +kernel
theorem dX11_keep_31 : decode mX11_keep.2.1 31 = .ok (.aload_n 0, 1) := by decide +kernel
theorem dX11_keep_32 : decode mX11_keep.2.1 32 = .ok (.iconst 0, 1) := by decide +kernel
theorem dX11_keep_33 : decode mX11_keep.2.1 33 = .ok (.putfield 544, 3) := by decide +kernel
theorem dX11_keep_36 : decode mX11_keep.2.1 36 = .ok (.aload_n 0, 1) := by decide +kernel
theorem dX11_keep_37 : decode mX11_keep.2.1 37 = .ok (.getfield 206, 3) := by decide +kernel
theorem dX11_keep_40 : decode mX11_keep.2.1 40 = .ok (.iload_n 1, 1) := by decide +kernel
theorem dX11_keep_41 : decode mX11_keep.2.1 41 = .ok (.iaload, 1) := by decide +kernel
theorem dX11_keep_42 : decode mX11_keep.2.1 42 = .ok (.ifCond .ne 9, 3) := by decide +kernel
theorem dX11_keep_45 : decode mX11_keep.2.1 45 = .ok (.aload_n 0, 1) := by decide +kernel
theorem dX11_keep_46 : decode mX11_keep.2.1 46 = .ok (.iconst 1, 1) := by decide +kernel
theorem dX11_keep_47 : decode mX11_keep.2.1 47 = .ok (.invokevirtual 560, 3) := by decide +kernel
theorem dX11_keep_50 : decode mX11_keep.2.1 50 = .ok (.ireturn, 1) := by decide +kernel
theorem dX11_keep_51 : decode mX11_keep.2.1 51 = .ok (.aload_n 0, 1) := by decide +kernel
theorem dX11_keep_52 : decode mX11_keep.2.1 52 = .ok (.getfield 209, 3) := by decide +kernel
theorem dX11_keep_55 : decode mX11_keep.2.1 55 = .ok (.iload_n 1, 1) := by decide +kernel
theorem dX11_keep_56 : decode mX11_keep.2.1 56 = .ok (.iaload, 1) := by decide +kernel
theorem dX11_keep_57 : decode mX11_keep.2.1 57 = .ok (.sipush 256, 3) := by decide +kernel
theorem dX11_keep_60 : decode mX11_keep.2.1 60 = .ok (.if_icmp .ge 12, 3) := by decide +kernel
theorem dX11_keep_63 : decode mX11_keep.2.1 63 = .ok (.aload_n 0, 1) := by decide +kernel
theorem dX11_keep_64 : decode mX11_keep.2.1 64 = .ok (.getfield 209, 3) := by decide +kernel
theorem dX11_keep_67 : decode mX11_keep.2.1 67 = .ok (.iload_n 1, 1) := by decide +kernel
theorem dX11_keep_68 : decode mX11_keep.2.1 68 = .ok (.iaload, 1) := by decide +kernel
theorem dX11_keep_69 : decode mX11_keep.2.1 69 = .ok (.goto 6, 3) := by decide +kernel
theorem dX11_keep_72 : decode mX11_keep.2.1 72 = .ok (.sipush 256, 3) := by decide +kernel
theorem dX11_keep_75 : decode mX11_keep.2.1 75 = .ok (.istore_n 3, 1) := by decide +kernel
theorem dX11_keep_76 : decode mX11_keep.2.1 76 = .ok (.iconst 0, 1) := by decide +kernel
theorem dX11_keep_77 : decode mX11_keep.2.1 77 = .ok (.istore 4, 2) := by decide +kernel
theorem dX11_keep_79 : decode mX11_keep.2.1 79 = .ok (.iload 4, 2) := by decide +kernel
theorem dX11_keep_81 : decode mX11_keep.2.1 81 = .ok (.iload_n 3, 1) := by decide +kernel
theorem dX11_keep_82 : decode mX11_keep.2.1 82 = .ok (.if_icmp .ge 52, 3) := by decide +kernel
theorem dX11_keep_85 : decode mX11_keep.2.1 85 = .ok (.aload_n 0, 1) := by decide +kernel
theorem dX11_keep_86 : decode mX11_keep.2.1 86 = .ok (.getfield 212, 3) := by decide +kernel
theorem dX11_keep_89 : decode mX11_keep.2.1 89 = .ok (.sipush 300, 3) := by decide +kernel
theorem dX11_keep_92 : decode mX11_keep.2.1 92 = .ok (.iload_n 1, 1) := by decide +kernel
theorem dX11_keep_93 : decode mX11_keep.2.1 93 = .ok (.imul, 1) := by decide +kernel
theorem dX11_keep_94 : decode mX11_keep.2.1 94 = .ok (.iload 4, 2) := by decide +kernel
theorem dX11_keep_96 : decode mX11_keep.2.1 96 = .ok (.iadd, 1) := by decide +kernel
theorem dX11_keep_97 : decode mX11_keep.2.1 97 = .ok (.aload_n 0, 1) := by decide +kernel
theorem dX11_keep_98 : decode mX11_keep.2.1 98 = .ok (.getfield 191, 3) := by decide +kernel
theorem dX11_keep_101 : decode mX11_keep.2.1 101 = .ok (.iload 4, 2) := by decide +kernel
theorem dX11_keep_103 : decode mX11_keep.2.1 103 = .ok (.baload, 1) := by decide +kernel
theorem dX11_keep_104 : decode mX11_keep.2.1 104 = .ok (.ifCond .eq 22, 3) := by decide +kernel
theorem dX11_keep_107 : decode mX11_keep.2.1 107 = .ok (.aload_n 0, 1) := by decide +kernel
theorem dX11_keep_108 : decode mX11_keep.2.1 108 = .ok (.getfield 206, 3) := by decide +kernel
theorem dX11_keep_111 : decode mX11_keep.2.1 111 = .ok (.iload_n 1, 1) := by decide +kernel
theorem dX11_keep_112 : decode mX11_keep.2.1 112 = .ok (.iaload, 1) := by decide +kernel
theorem dX11_keep_113 : decode mX11_keep.2.1 113 = .ok (.aload_n 0, 1) := by decide +kernel
theorem dX11_keep_114 : decode mX11_keep.2.1 114 = .ok (.iload 4, 2) := by decide +kernel
theorem dX11_keep_116 : decode mX11_keep.2.1 116 = .ok (.iload_n 2, 1) := by decide +kernel
theorem dX11_keep_117 : decode mX11_keep.2.1 117 = .ok (.invokevirtual 516, 3) := by decide +kernel
theorem dX11_keep_120 : decode mX11_keep.2.1 120 = .ok (.invokestatic 582, 3) := by decide +kernel
theorem dX11_keep_123 : decode mX11_keep.2.1 123 = .ok (.goto 4, 3) := by decide +kernel
theorem dX11_keep_126 : decode mX11_keep.2.1 126 = .ok (.lconst 0, 1) := by decide +kernel
theorem dX11_keep_127 : decode mX11_keep.2.1 127 = .ok (.lastore, 1) := by decide +kernel
theorem dX11_keep_128 : decode mX11_keep.2.1 128 = .ok (.iinc 4 1, 3) := by decide +kernel
theorem dX11_keep_131 : decode mX11_keep.2.1 131 = .ok (.goto (-52), 3) := by decide +kernel
theorem dX11_keep_134 : decode mX11_keep.2.1 134 = .ok (.iload_n 3, 1) := by decide +kernel
theorem dX11_keep_135 : decode mX11_keep.2.1 135 = .ok (.ireturn, 1) := by decide +kernel
theorem okX11_keep_516 : gOkV mX11_keep mX11_curveAt 516 2 := ⟨List.forall_mem_cons.mpr ⟨(gm 1811 (by decide +kernel) rfl), List.forall_mem_cons.mpr ⟨(gm 1808 (by decide +kernel) rfl), List.forall_mem_cons.mpr ⟨(gm 1810 (by decide +kernel) rfl), List.forall_mem_cons.mpr ⟨(gm 96 (by decide +kernel) rfl), List.forall_mem_cons.mpr ⟨(gm 122 (by decide +kernel) rfl), fun _ h => absurd h List.not_mem_nil⟩⟩⟩⟩⟩, by decide +kernel, by decide +kernel, by decide +kernel⟩
theorem okX11_keep_582 : gOkS mX11_keep mX11_cut 582 2 := ⟨List.forall_mem_cons.mpr ⟨(gm 1910 (by decide +kernel) rfl), List.forall_mem_cons.mpr ⟨(gm 1908 (by decide +kernel) rfl), List.forall_mem_cons.mpr ⟨(gm 1909 (by decide +kernel) rfl), List.forall_mem_cons.mpr ⟨(gm 122 (by decide +kernel) rfl), fun _ h => absurd h List.not_mem_nil⟩⟩⟩⟩, by decide +kernel, by decide +kernel, by decide +kernel⟩
theorem okX11_keep_576 : gOkS mX11_keep mX11_isRow 576 1 := ⟨List.forall_mem_cons.mpr ⟨(gm 1894 (by decide +kernel) rfl), List.forall_mem_cons.mpr ⟨(gm 1892 (by decide +kernel) rfl), List.forall_mem_cons.mpr ⟨(gm 1893 (by decide +kernel) rfl), List.forall_mem_cons.mpr ⟨(gm 122 (by decide +kernel) rfl), fun _ h => absurd h List.not_mem_nil⟩⟩⟩⟩, by decide +kernel, by decide +kernel, by decide +kernel⟩
theorem okX11_keep_220 : gOkS mX11_keep mX11_in 220 3 := ⟨List.forall_mem_cons.mpr ⟨(gm 1539 (by decide +kernel) rfl), List.forall_mem_cons.mpr ⟨(gm 1537 (by decide +kernel) rfl), List.forall_mem_cons.mpr ⟨(gm 1538 (by decide +kernel) rfl), List.forall_mem_cons.mpr ⟨(gm 122 (by decide +kernel) rfl), fun _ h => absurd h List.not_mem_nil⟩⟩⟩⟩, by decide +kernel, by decide +kernel, by decide +kernel⟩
theorem okX11_keep_560 : gOkV mX11_keep mX11_finds 560 1 := ⟨List.forall_mem_cons.mpr ⟨(gm 1870 (by decide +kernel) rfl), List.forall_mem_cons.mpr ⟨(gm 1867 (by decide +kernel) rfl), List.forall_mem_cons.mpr ⟨(gm 1869 (by decide +kernel) rfl), List.forall_mem_cons.mpr ⟨(gm 104 (by decide +kernel) rfl), List.forall_mem_cons.mpr ⟨(gm 122 (by decide +kernel) rfl), fun _ h => absurd h List.not_mem_nil⟩⟩⟩⟩⟩, by decide +kernel, by decide +kernel, by decide +kernel⟩
def fX11_keep_17 (p1 : Int32) (p2 : Int32) (σ : gS) : Option (Int32 × gS) :=
  some ((-1000001), σ)
set_option maxHeartbeats 4000000 in
set_option maxRecDepth 100000 in
theorem pX11_keep_17 {E : gE} {p1 : Int32} {p2 : Int32} {r : Int32} {σ' : gS} {σ : gS} (h : fX11_keep_17 p1 p2 σ = some (r, σ')) : gG E mX11_keep 17 [] [] σ (some (.int r)) σ' := by
  unfold fX11_keep_17 at h
  refine g_ldc (v := (-1000001)) dX11_keep_17 wc_RX11_224 ?_
  obtain ⟨rfl, rfl⟩ := so_inj h
  exact g_iret dX11_keep_19 rfl
def fX11_keep_127 (p1 : Int32) (p2 : Int32) (k79 : Int32 → Int32 → gS → Option (Int32 × gS)) (v3 : Int32) (v4 : Int32) (s1 : Int32) (s2 : Int64) (σ : gS) : Option (Int32 × gS) :=
  gg (¬ (s1 < 0 ∨ 2400 ≤ s1.toNatClampNeg)) (
  bnd (gsJ σ 231 s1.toNatClampNeg s2) fun σ2 =>
  bnd (v4 + 1) fun x3 =>
  k79 v3 x3 σ2)
set_option maxHeartbeats 4000000 in
set_option maxRecDepth 100000 in
theorem pX11_keep_127 {E : gE} {p1 : Int32} {p2 : Int32} {k79 : Int32 → Int32 → gS → Option (Int32 × gS)} {r : Int32} {σ' : gS} {v3 : Int32} {v4 : Int32} {s1 : Int32} {s2 : Int64} {σ : gS} (hk79 : ∀ (v3 : Int32) (v4 : Int32) (σ : gS), k79 v3 v4 σ = some (r, σ') → gG E mX11_keep 79 [(0, .ref 168), (1, .int p1), (2, .int p2), (3, .int v3), (4, .int v4)] [] σ (some (.int r)) σ') (h : fX11_keep_127 p1 p2 k79 v3 v4 s1 s2 σ = some (r, σ')) : gG E mX11_keep 127 [(0, .ref 168), (1, .int p1), (2, .int p2), (3, .int v3), (4, .int v4)] [.long s2, .int s1, .ref 231] σ (some (.int r)) σ' := by
  unfold fX11_keep_127 at h
  obtain ⟨g1, h⟩ := gg_some h
  obtain ⟨σ2, eσ2, h⟩ := bnd_nm h
  refine g_last dX11_keep_127 gi_231 g1 (g_st eσ2 ?_)
  obtain ⟨x3, ex3, h⟩ := bnd_nm h
  refine g_iinc (j := 4) (v := x3) (lv' := [(4, .int x3), (0, .ref 168), (1, .int p1), (2, .int p2), (3, .int v3)]) dX11_keep_128 rfl (by rw [ex3]; rfl) (Nat.le_of_ble_eq_true rfl) rfl ?_
  refine g_goto (t := 79) dX11_keep_131 (by decide) ?_
  refine g_sub [1, 2, 3, 4, 0] rfl ?_
  exact hk79 v3 x3 σ2 h
def fX11_keep_79 (p1 : Int32) (p2 : Int32) : Nat → Int32 → Int32 → gS → Option (Int32 × gS)
  | 0, _, _, _ => none
  | n + 1, v3, v4, σ => if v3 ≤ v4 then
    some (v3, σ)
  else
    gg (¬ (v4 < 0 ∨ 256 ≤ v4.toNatClampNeg)) (
    if (σ.1 224 v4.toNatClampNeg) = 0 then
      fX11_keep_127 p1 p2 (fun v3 v4 σ => fX11_keep_79 p1 p2 n v3 v4 σ) v3 v4 ((300 * p1) + v4) 0 σ
    else
      gg (¬ (p1 < 0 ∨ 8 ≤ p1.toNatClampNeg)) (
      bd (fX11_curveAt v4 p2 σ) fun x5 σ6 =>
      bd (fX11_cut (σ.1 229 p1.toNatClampNeg) x5 σ6) fun x8 σ9 =>
      fX11_keep_127 p1 p2 (fun v3 v4 σ => fX11_keep_79 p1 p2 n v3 v4 σ) v3 v4 ((300 * p1) + v4) x8 σ9))
set_option maxHeartbeats 4000000 in
set_option maxRecDepth 100000 in
theorem pX11_keep_79 {E : gE} {p1 : Int32} {p2 : Int32} {r : Int32} {σ' : gS} : ∀ (n : Nat) (v3 : Int32) (v4 : Int32) (σ : gS), fX11_keep_79 p1 p2 n v3 v4 σ = some (r, σ') → gG E mX11_keep 79 [(0, .ref 168), (1, .int p1), (2, .int p2), (3, .int v3), (4, .int v4)] [] σ (some (.int r)) σ' := by
  intro n
  induction n with
  | zero => intro v3 v4 σ h; exact absurd (show none = some (r, σ') from h) (by intro q; cases q)
  | succ n ih =>
  intro v3 v4 σ h
  unfold fX11_keep_79 at h
  refine g_iload dX11_keep_79 4 rfl ?_
  refine g_iload_n dX11_keep_81 rfl 3 rfl ?_
  refine g_icmp_ge (t := 134) dX11_keep_82 (by decide) (fun c1 => ?_) (fun c1 => ?_)
  · replace h := if_t h c1
    refine g_iload_n dX11_keep_134 rfl 3 rfl ?_
    obtain ⟨rfl, rfl⟩ := so_inj h
    exact g_iret dX11_keep_135 rfl
  · replace h := if_f h c1
    refine g_aload_n dX11_keep_85 rfl 0 rfl ?_
    refine g_getC (n := 231) dX11_keep_86 gi_168 rfl fl_RX11_212 ?_
    refine g_sipush (v := 300) dX11_keep_89 (by decide) ?_
    refine g_iload_n dX11_keep_92 rfl 1 rfl ?_
    refine g_imul dX11_keep_93 ?_
    refine g_iload dX11_keep_94 4 rfl ?_
    refine g_iadd dX11_keep_96 ?_
    refine g_aload_n dX11_keep_97 rfl 0 rfl ?_
    refine g_getC (n := 224) dX11_keep_98 gi_168 rfl fl_RX11_191 ?_
    refine g_iload dX11_keep_101 4 rfl ?_
    obtain ⟨g2, h⟩ := gg_some h
    refine g_zald dX11_keep_103 gi_224 g2 ?_
    refine g_if_eq (t := 126) dX11_keep_104 (by decide) (fun c3 => ?_) (fun c3 => ?_)
    · replace h := if_t h c3
      refine g_lconst (v := 0) dX11_keep_126 (by decide) ?_
      exact pX11_keep_127 (fun v3 v4 σ h => ih v3 v4 σ h) h
    · replace h := if_f h c3
      refine g_aload_n dX11_keep_107 rfl 0 rfl ?_
      refine g_getC (n := 229) dX11_keep_108 gi_168 rfl fl_RX11_206 ?_
      refine g_iload_n dX11_keep_111 rfl 1 rfl ?_
      obtain ⟨g4, h⟩ := gg_some h
      refine g_iald dX11_keep_112 gi_229 g4 ?_
      refine g_aload_n dX11_keep_113 rfl 0 rfl ?_
      refine g_iload dX11_keep_114 4 rfl ?_
      refine g_iload_n dX11_keep_116 rfl 2 rfl ?_
      obtain ⟨x5, σ6, y7, h⟩ := bd_some h
      refine g_callVr (as := [.int v4, .int p2]) (st := [.int (σ.1 229 p1.toNatClampNeg), .int ((300 * p1) + v4), .ref 231]) (zX11_curveAt y7) dX11_keep_117 gi_168 rfl okX11_keep_516 (Nat.le_of_ble_eq_true rfl) ?_
      obtain ⟨x8, σ9, y10, h⟩ := bd_some h
      refine g_callSr (as := [.int (σ.1 229 p1.toNatClampNeg), .long x5]) (st := [.int ((300 * p1) + v4), .ref 231]) (zX11_cut y10) dX11_keep_120 okX11_keep_582 (Nat.le_of_ble_eq_true rfl) ?_
      refine g_goto (t := 127) dX11_keep_123 (by decide) ?_
      exact pX11_keep_127 (fun v3 v4 σ h => ih v3 v4 σ h) h
def fX11_keep_75 (p1 : Int32) (p2 : Int32) (s0 : Int32) (σ : gS) : Option (Int32 × gS) :=
  fX11_keep_79 p1 p2 2000 s0 0 σ
set_option maxHeartbeats 4000000 in
set_option maxRecDepth 100000 in
theorem pX11_keep_75 {E : gE} {p1 : Int32} {p2 : Int32} {r : Int32} {σ' : gS} {s0 : Int32} {σ : gS} (h : fX11_keep_75 p1 p2 s0 σ = some (r, σ')) : gG E mX11_keep 75 [(0, .ref 168), (1, .int p1), (2, .int p2)] [.int s0] σ (some (.int r)) σ' := by
  unfold fX11_keep_75 at h
  refine g_istore_n (lv' := [(3, .int s0), (0, .ref 168), (1, .int p1), (2, .int p2)]) dX11_keep_75 rfl (Nat.le_of_ble_eq_true rfl) rfl ?_
  refine g_iconst (v := 0) dX11_keep_76 (by decide) ?_
  refine g_istore (lv' := [(4, .int 0), (3, .int s0), (0, .ref 168), (1, .int p1), (2, .int p2)]) dX11_keep_77 (Nat.le_of_ble_eq_true rfl) rfl ?_
  refine g_sub [2, 3, 4, 1, 0] rfl ?_
  exact pX11_keep_79 2000 s0 0 σ h
def fX11_keep (p1 : Int32) (p2 : Int32) (σ : gS) : Option (Int32 × gS) :=
  bd (fX11_isRow p1 σ) fun x1 σ2 =>
  if x1 = 0 then
    fX11_keep_17 p1 p2 σ2
  else
    bd (fX11_in p2.toInt64 0 1 σ2) fun x5 σ6 =>
    if x5 = 0 then
      fX11_keep_17 p1 p2 σ6
    else
      if 0 ≤ (σ6.1 168 85) then
        bnd (gsI σ6 168 94 0) fun σ10 =>
        gg (¬ (p1 < 0 ∨ 8 ≤ p1.toNatClampNeg)) (
        if (σ10.1 229 p1.toNatClampNeg) = 0 then
          bd (fX11_finds 1 σ10) fun x16 σ17 =>
          some (x16, σ17)
        else
          gg (¬ (p1 < 0 ∨ 8 ≤ p1.toNatClampNeg)) (
          if 256 ≤ (σ10.1 230 p1.toNatClampNeg) then
            fX11_keep_75 p1 p2 256 σ10
          else
            gg (¬ (p1 < 0 ∨ 8 ≤ p1.toNatClampNeg)) (
            fX11_keep_75 p1 p2 (σ10.1 230 p1.toNatClampNeg) σ10)))
      else
        some ((-1000002), σ6)
set_option maxHeartbeats 4000000 in
set_option maxRecDepth 100000 in
theorem pX11_keep {E : gE} {p1 : Int32} {p2 : Int32} {r : Int32} {σ' : gS} {σ : gS} (h : fX11_keep p1 p2 σ = some (r, σ')) : gG E mX11_keep 0 [(0, .ref 168), (1, .int p1), (2, .int p2)] [] σ (some (.int r)) σ' := by
  unfold fX11_keep at h
  refine g_iload_n dX11_keep_0 rfl 1 rfl ?_
  obtain ⟨x1, σ2, y3, h⟩ := bd_some h
  refine g_callSr (as := [.int p1]) (st := []) (zX11_isRow y3) dX11_keep_1 okX11_keep_576 (Nat.le_of_ble_eq_true rfl) ?_
  refine g_if_eq (t := 17) dX11_keep_4 (by decide) (fun c4 => ?_) (fun c4 => ?_)
  · replace h := if_t h c4
    refine g_sub [] rfl ?_
    exact pX11_keep_17 h
  · replace h := if_f h c4
    refine g_iload_n dX11_keep_7 rfl 2 rfl ?_
    refine g_i2l dX11_keep_8 ?_
    refine g_lconst (v := 0) dX11_keep_9 (by decide) ?_
    refine g_lconst (v := 1) dX11_keep_10 (by decide) ?_
    obtain ⟨x5, σ6, y7, h⟩ := bd_some h
    refine g_callSr (as := [.long p2.toInt64, .long 0, .long 1]) (st := []) (zX11_in y7) dX11_keep_11 okX11_keep_220 (Nat.le_of_ble_eq_true rfl) ?_
    refine g_if_ne (t := 20) dX11_keep_14 (by decide) (fun c8 => ?_) (fun c8 => ?_)
    · replace h := if_f h c8
      refine g_aload_n dX11_keep_20 rfl 0 rfl ?_
      refine g_getI dX11_keep_21 gi_168 rfl fl_RX11_182 ?_
      refine g_if_ge (t := 31) dX11_keep_24 (by decide) (fun c9 => ?_) (fun c9 => ?_)
      · replace h := if_t h c9
        refine g_aload_n dX11_keep_31 rfl 0 rfl ?_
        refine g_iconst (v := 0) dX11_keep_32 (by decide) ?_
        obtain ⟨σ10, eσ10, h⟩ := bnd_nm h
        refine g_putI dX11_keep_33 gi_168 rfl fp_RX11_544 (g_st eσ10 ?_)
        refine g_aload_n dX11_keep_36 rfl 0 rfl ?_
        refine g_getC (n := 229) dX11_keep_37 gi_168 rfl fl_RX11_206 ?_
        refine g_iload_n dX11_keep_40 rfl 1 rfl ?_
        obtain ⟨g11, h⟩ := gg_some h
        refine g_iald dX11_keep_41 gi_229 g11 ?_
        refine g_if_ne (t := 51) dX11_keep_42 (by decide) (fun c12 => ?_) (fun c12 => ?_)
        · replace h := if_f h c12
          refine g_aload_n dX11_keep_51 rfl 0 rfl ?_
          refine g_getC (n := 230) dX11_keep_52 gi_168 rfl fl_RX11_209 ?_
          refine g_iload_n dX11_keep_55 rfl 1 rfl ?_
          obtain ⟨g13, h⟩ := gg_some h
          refine g_iald dX11_keep_56 gi_230 g13 ?_
          refine g_sipush (v := 256) dX11_keep_57 (by decide) ?_
          refine g_icmp_ge (t := 72) dX11_keep_60 (by decide) (fun c14 => ?_) (fun c14 => ?_)
          · replace h := if_t h c14
            refine g_sipush (v := 256) dX11_keep_72 (by decide) ?_
            exact pX11_keep_75 h
          · replace h := if_f h c14
            refine g_aload_n dX11_keep_63 rfl 0 rfl ?_
            refine g_getC (n := 230) dX11_keep_64 gi_168 rfl fl_RX11_209 ?_
            refine g_iload_n dX11_keep_67 rfl 1 rfl ?_
            obtain ⟨g15, h⟩ := gg_some h
            refine g_iald dX11_keep_68 gi_230 g15 ?_
            refine g_goto (t := 75) dX11_keep_69 (by decide) ?_
            exact pX11_keep_75 h
        · replace h := if_t h c12
          refine g_aload_n dX11_keep_45 rfl 0 rfl ?_
          refine g_iconst (v := 1) dX11_keep_46 (by decide) ?_
          obtain ⟨x16, σ17, y18, h⟩ := bd_some h
          refine g_callVr (as := [.int 1]) (st := []) (zX11_finds y18) dX11_keep_47 gi_168 rfl okX11_keep_560 (Nat.le_of_ble_eq_true rfl) ?_
          obtain ⟨rfl, rfl⟩ := so_inj h
          exact g_iret dX11_keep_50 rfl
      · replace h := if_f h c9
        refine g_ldcw (v := (-1000002)) dX11_keep_27 wc_RX11_503 ?_
        obtain ⟨rfl, rfl⟩ := so_inj h
        exact g_iret dX11_keep_30 rfl
    · replace h := if_t h c8
      refine g_sub [] rfl ?_
      exact pX11_keep_17 h
theorem zX11_keep {E : gE} {p1 : Int32} {p2 : Int32} {r : Int32} {σ σ' : gS} (h : fX11_keep p1 p2 σ = some (r, σ')) : gC E mX11_keep [.ref 168, .int p1, .int p2] σ (some (.int r)) σ' :=
  gC_of (by decide +kernel) rfl (Nat.le_of_ble_eq_true rfl) (pX11_keep h)

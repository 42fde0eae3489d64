def mX11_told : gM := (yX11_told, cX11_told, RX11, 11, (some .int), 1, 25)
theorem dX11_told_0 : decode mX11_told.2.1 0 = .ok (.iload_n 1, 1) := by decide +kernel
theorem dX11_told_1 : decode mX11_told.2.1 1 = .ok (.i2l, 1) := by decide +kernel
theorem dX11_told_2 : decode mX11_told.2.1 2 = .ok (.lconst 0, 1) := by decide +kernel
theorem dX11_told_3 : decode mX11_told.2.1 3 = .ok (.ldc2_w 277, 3) := by decide +kernel
theorem dX11_told_6 : decode mX11_told.2.1 6 = .ok (.invokestatic 220, 3) := by decide +kernel
theorem dX11_told_9 : decode mX11_told.2.1 9 = .ok (.ifCond .ne 6, 3) := by decide +kernel
theorem dX11_told_12 : decode mX11_told.2.1 12 = .ok (.ldc 224, 2) := by decide +kernel
theorem dX11_told_14 : decode mX11_told.2.1 14 = .ok (.ireturn, 1) := by decide +kernel
theorem dX11_told_15 : decode mX11_told.2.1 15 = .ok (.aload_n 0, 1) := by decide +kernel
theorem dX11_told_16 : decode mX11_told.2.1 16 = .ok (.getfield 182, 3) := by decide +kernel
theorem dX11_told_19 : decode mX11_told.2.1 19 = .ok (.ifCond .ge 7, 3) := by decide +kernel
theorem dX11_told_22 : decode mX11_told.2.1 22 = .ok (.ldc_w 503, 3) := by decide +kernel
theorem dX11_told_25 : decode mX11_told.2.1 25 = .ok (.ireturn, 1) := by decide +kernel
theorem dX11_told_26 : decode mX11_told.2.1 26 = .ok (.iconst 0, 1) := by decide +kernel
theorem dX11_told_27 : decode mX11_told.2.1 27 = .ok (.istore_n 2, 1) := by decide +kernel
theorem dX11_told_28 : decode mX11_told.2.1 28 = .ok (.ldc 106, 2) := by decide +kernel
theorem dX11_told_30 : decode mX11_told.2.1 30 = .ok (.istore_n 3, 1) := by decide +kernel
theorem dX11_told_31 : decode mX11_told.2.1 31 = .ok (.iload_n 1, 1) := by decide +kernel
theorem dX11_told_32 : decode mX11_told.2.1 32 = .ok (.iconst 3, 1) := by decide +kernel
theorem dX11_told_33 : decode mX11_told.2.1 33 = .ok (.if_icmp .ge 7, 3) := by decide +kernel
theorem dX11_told_36 : decode mX11_told.2.1 36 = .ok (.iconst 0, 1) := by decide +kernel
theorem dX11_told_37 : decode mX11_told.2.1 37 = .ok (.goto 4, 3) := by decide +kernel
theorem dX11_told_40 : decode mX11_told.2.1 40 = .ok (.iconst 1, 1) := by decide +kernel
theorem dX11_told_41 : decode mX11_told.2.1 41 = .ok (.istore 4, 2) := by decide +kernel
theorem dX11_told_43 : decode mX11_told.2.1 43 = .ok (.iconst 0, 1) := by decide +kernel
theorem dX11_told_44 : decode mX11_told.2.1 44 = .ok (.istore 5, 2) := by decide +kernel
theorem dX11_told_46 : decode mX11_told.2.1 46 = .ok (.iload 5, 2) := by decide +kernel
theorem dX11_told_48 : decode mX11_told.2.1 48 = .ok (.sipush 256, 3) := by decide +kernel
theorem dX11_told_51 : decode mX11_told.2.1 51 = .ok (.if_icmp .ge 134, 3) := by decide +kernel
theorem dX11_told_54 : decode mX11_told.2.1 54 = .ok (.iload_n 2, 1) := by decide +kernel
theorem dX11_told_55 : decode mX11_told.2.1 55 = .ok (.aload_n 0, 1) := by decide +kernel
theorem dX11_told_56 : decode mX11_told.2.1 56 = .ok (.getfield 191, 3) := by decide +kernel
theorem dX11_told_59 : decode mX11_told.2.1 59 = .ok (.iload 5, 2) := by decide +kernel
theorem dX11_told_61 : decode mX11_told.2.1 61 = .ok (.baload, 1) := by decide +kernel
theorem dX11_told_62 : decode mX11_told.2.1 62 = .ok (.ifCond .eq 25, 3) := by decide +kernel
theorem dX11_told_65 : decode mX11_told.2.1 65 = .ok (.aload_n 0, 1) := by decide +kernel
theorem dX11_told_66 : decode mX11_told.2.1 66 = .ok (.getfield 191, 3) := by decide +kernel
theorem dX11_told_69 : decode mX11_told.2.1 69 = .ok (.iload 5, 2) := by decide +kernel
theorem dX11_told_71 : decode mX11_told.2.1 71 = .ok (.sipush 255, 3) := by decide +kernel
theorem dX11_told_74 : decode mX11_told.2.1 74 = .ok (.iadd, 1) := by decide +kernel
theorem dX11_told_75 : decode mX11_told.2.1 75 = .ok (.sipush 256, 3) := by decide +kernel
theorem dX11_told_78 : decode mX11_told.2.1 78 = .ok (.irem, 1) := by decide +kernel
theorem dX11_told_79 : decode mX11_told.2.1 79 = .ok (.baload, 1) := by decide +kernel
theorem dX11_told_80 : decode mX11_told.2.1 80 = .ok (.ifCond .ne 7, 3) := by decide +kernel
theorem dX11_told_83 : decode mX11_told.2.1 83 = .ok (.iconst 1, 1) := by decide +kernel
theorem dX11_told_84 : decode mX11_told.2.1 84 = .ok (.goto 4, 3) := by decide +kernel
theorem dX11_told_87 : decode mX11_told.2.1 87 = .ok (.iconst 0, 1) := by decide +kernel
theorem dX11_told_88 : decode mX11_told.2.1 88 = .ok (.iadd, 1) := by decide +kernel
theorem dX11_told_89 : decode mX11_told.2.1 89 = .ok (.istore_n 2, 1) := by decide +kernel
theorem dX11_told_90 : decode mX11_told.2.1 90 = .ok (.aload_n 0, 1) := by decide +kernel
theorem dX11_told_91 : decode mX11_told.2.1 91 = .ok (.getfield 191, 3) := by decide +kernel
theorem dX11_told_94 : decode mX11_told.2.1 94 = .ok (.iload 5, 2) := by decide +kernel
theorem dX11_told_96 : decode mX11_told.2.1 96 = .ok (.baload, 1) := by decide +kernel
theorem dX11_told_97 : decode mX11_told.2.1 97 = .ok (.ifCond .eq 82, 3) := by decide +kernel
theorem dX11_told_100 : decode mX11_told.2.1 100 = .ok (.aload_n 0, 1) := by decide +kernel
theorem dX11_told_101 : decode mX11_told.2.1 101 = .ok (.iload 5, 2) := by decide +kernel
theorem dX11_told_103 : decode mX11_told.2.1 103 = .ok (.iload 4, 2) := by decide +kernel
theorem dX11_told_105 : decode mX11_told.2.1 105 = .ok (.invokevirtual 516, 3) := by decide +kernel
theorem dX11_told_108 : decode mX11_told.2.1 108 = .ok (.lstore 6, 2) := by decide +kernel
theorem dX11_told_110 : decode mX11_told.2.1 110 = .ok (.iload_n 3, 1) := by decide +kernel
theorem dX11_told_111 : decode mX11_told.2.1 111 = .ok (.ldc 106, 2) := by decide +kernel
theorem dX11_told_113 : decode mX11_told.2.1 113 = .ok (.if_icmp .ne 7, 3) := by decide +kernel
theorem dX11_told_116 : decode mX11_told.2.1 116 = .ok (.iconst 1, 1) := by decide +kernel
theorem dX11_told_117 : decode mX11_told.2.1 117 = .ok (.goto 4, 3) := by decide +kernel
theorem dX11_told_120 : decode mX11_told.2.1 120 = .ok (.iconst 0, 1) := by decide +kernel
theorem dX11_told_121 : decode mX11_told.2.1 121 = .ok (.istore 8, 2) := by decide +kernel
theorem dX11_told_123 : decode mX11_told.2.1 123 = .ok (.iload 8, 2) := by decide +kernel
theorem dX11_told_125 : decode mX11_told.2.1 125 = .ok (.ifCond .eq 7, 3) := by decide +kernel
theorem dX11_told_128 : decode mX11_told.2.1 128 = .ok (.lconst 0, 1) := by decide +kernel
theorem dX11_told_129 : decode mX11_told.2.1 129 = .ok (.goto 10, 3) := by decide +kernel
theorem dX11_told_132 : decode mX11_told.2.1 132 = .ok (.aload_n 0, 1) := by decide +kernel
theorem dX11_told_133 : decode mX11_told.2.1 133 = .ok (.iload_n 3, 1) := by decide +kernel
theorem dX11_told_134 : decode mX11_told.2.1 134 = .ok (.iload 4, 2) := by decide +kernel
theorem dX11_told_136 : decode mX11_told.2.1 136 = .ok (.invokevirtual 516, 3) := by decide +kernel
theorem dX11_told_139 : decode mX11_told.2.1 139 = .ok (.lstore 9, 2) := by decide +kernel
theorem dX11_told_141 : decode mX11_told.2.1 141 = .ok (.iload 8, 2) := by decide +kernel
theorem dX11_told_143 : decode mX11_told.2.1 143 = .ok (.ifCond .ne 29, 3) := by decide +kernel
theorem dX11_told_146 : decode mX11_told.2.1 146 = .ok (.iload_n 1, 1) := by decide +kernel
theorem dX11_told_147 : decode mX11_told.2.1 147 = .ok (.iconst 2, 1) := by decide +kernel
theorem dX11_told_148 : decode mX11_told.2.1 148 = .ok (.irem, 1) := by decide +kernel
theorem dX11_told_149 : decode mX11_told.2.1 149 = .ok (.iconst 1, 1) := by decide +kernel
theorem dX11_told_150 : decode mX11_told.2.1 150 = .ok (.if_icmp .ne 14, 3) := by decide +kernel
theorem dX11_told_153 : decode mX11_told.2.1 153 = .ok (.lload 6, 2) := by decide +kernel
theorem dX11_told_155 : decode mX11_told.2.1 155 = .ok (.lload 9, 2) := by decide +kernel
theorem dX11_told_157 : decode mX11_told.2.1 157 = .ok (.lcmp, 1) := by decide +kernel
theorem dX11_told_158 : decode mX11_told.2.1 158 = .ok (.ifCond .ge 19, 3) := by decide +kernel
theorem dX11_told_161 : decode mX11_told.2.1 161 = .ok (.goto 11, 3) := by decide +kernel
theorem dX11_told_164 : decode mX11_told.2.1 164 = .ok (.lload 6, 2) := by decide +kernel
theorem dX11_told_166 : decode mX11_told.2.1 166 = .ok (.lload 9, 2) := by decide +kernel
theorem dX11_told_168 : decode mX11_told.2.1 168 = .ok (.lcmp, 1) := by decide +kernel
theorem dX11_told_169 : decode mX11_told.2.1 169 = .ok (.ifCond .le 8, 3) := by decide +kernel
theorem dX11_told_172 : decode mX11_told.2.1 172 = .ok (.iload 5, 2) := by decide +kernel
theorem dX11_told_174 : decode mX11_told.2.1 174 = .ok (.goto 4, 3) := by decide +kernel
theorem dX11_told_177 : decode mX11_told.2.1 177 = .ok (.iload_n 3, 1) := by decide +kernel
theorem dX11_told_178 : decode mX11_told.2.1 178 = .ok (.istore_n 3, 1) := by decide +kernel
theorem dX11_told_179 : decode mX11_told.2.1 179 = .ok (.iinc 5 1, 3) := by decide +kernel
theorem dX11_told_182 : decode mX11_told.2.1 182 = .ok (.goto (-136), 3) := by decide +kernel
theorem dX11_told_185 : decode mX11_told.2.1 185 = .ok (.iload_n 1, 1) := by decide +kernel
theorem dX11_told_186 : decode mX11_told.2.1 186 = .ok (.ifCond .ne 7, 3) := by decide +kernel
theorem dX11_told_189 : decode mX11_told.2.1 189 = .ok (.iload_n 2, 1) := by decide +kernel
theorem dX11_told_190 : decode mX11_told.2.1 190 = .ok (.goto 4, 3) := by decide +kernel
theorem dX11_told_193 : decode mX11_told.2.1 193 = .ok (.iload_n 3, 1) := by decide +kernel
theorem dX11_told_194 : decode mX11_told.2.1 194 = .ok (.ireturn, 1) := by decide +kernel
theorem okX11_told_516 : gOkV mX11_told mX11_curveAt 516 2 := ⟨List.forall_mem_cons.mpr ⟨(gm 1811 (by decide +kernel) rfl), List.forall_mem_cons.mpr ⟨(gm 1808 (by decide +kernel) rfl), List.forall_mem_cons.mpr ⟨(gm 1810 (by decide +kernel) rfl), List.forall_mem_cons.mpr ⟨(gm 96 (by decide +kernel) rfl), List.forall_mem_cons.mpr ⟨(gm 122 (by decide +kernel) rfl), fun _ h => absurd h List.not_mem_nil⟩⟩⟩⟩⟩, by decide +kernel, by decide +kernel, by decide +kernel⟩
theorem okX11_told_220 : gOkS mX11_told mX11_in 220 3 := ⟨List.forall_mem_cons.mpr ⟨(gm 1539 (by decide +kernel) rfl), List.forall_mem_cons.mpr ⟨(gm 1537 (by decide +kernel) rfl), List.forall_mem_cons.mpr ⟨(gm 1538 (by decide +kernel) rfl), List.forall_mem_cons.mpr ⟨(gm 122 (by decide +kernel) rfl), fun _ h => absurd h List.not_mem_nil⟩⟩⟩⟩, by decide +kernel, by decide +kernel, by decide +kernel⟩
def fX11_told_179 (p1 : Int32) (k46 : Int32 → Int32 → Int32 → Int32 → gS → Option (Int32 × gS)) (v2 : Int32) (v3 : Int32) (v4 : Int32) (v5 : Int32) (σ : gS) : Option (Int32 × gS) :=
  bnd (v5 + 1) fun x1 =>
  k46 v2 v3 v4 x1 σ
set_option maxHeartbeats 4000000 in
set_option maxRecDepth 100000 in
theorem pX11_told_179 {E : gE} {p1 : Int32} {k46 : Int32 → Int32 → Int32 → Int32 → gS → Option (Int32 × gS)} {r : Int32} {σ' : gS} {v2 : Int32} {v3 : Int32} {v4 : Int32} {v5 : Int32} {σ : gS} (hk46 : ∀ (v2 : Int32) (v3 : Int32) (v4 : Int32) (v5 : Int32) (σ : gS), k46 v2 v3 v4 v5 σ = some (r, σ') → gG E mX11_told 46 [(0, .ref 168), (1, .int p1), (2, .int v2), (3, .int v3), (4, .int v4), (5, .int v5)] [] σ (some (.int r)) σ') (h : fX11_told_179 p1 k46 v2 v3 v4 v5 σ = some (r, σ')) : gG E mX11_told 179 [(0, .ref 168), (1, .int p1), (2, .int v2), (3, .int v3), (4, .int v4), (5, .int v5)] [] σ (some (.int r)) σ' := by
  unfold fX11_told_179 at h
  obtain ⟨x1, ex1, h⟩ := bnd_nm h
  refine g_iinc (j := 5) (v := x1) (lv' := [(5, .int x1), (0, .ref 168), (1, .int p1), (2, .int v2), (3, .int v3), (4, .int v4)]) dX11_told_179 rfl (by rw [ex1]; rfl) (Nat.le_of_ble_eq_true rfl) rfl ?_
  refine g_goto (t := 46) dX11_told_182 (by decide) ?_
  refine g_sub [1, 2, 3, 4, 5, 0] rfl ?_
  exact hk46 v2 v3 v4 x1 σ h
def fX11_told_178 (p1 : Int32) (k46 : Int32 → Int32 → Int32 → Int32 → gS → Option (Int32 × gS)) (v2 : Int32) (v4 : Int32) (v5 : Int32) (s0 : Int32) (σ : gS) : Option (Int32 × gS) :=
  fX11_told_179 p1 k46 v2 s0 v4 v5 σ
set_option maxHeartbeats 4000000 in
set_option maxRecDepth 100000 in
theorem pX11_told_178 {E : gE} {p1 : Int32} {k46 : Int32 → Int32 → Int32 → Int32 → gS → Option (Int32 × gS)} {r : Int32} {σ' : gS} {v2 : Int32} {v4 : Int32} {v5 : Int32} {s0 : Int32} {σ : gS} (hk46 : ∀ (v2 : Int32) (v3 : Int32) (v4 : Int32) (v5 : Int32) (σ : gS), k46 v2 v3 v4 v5 σ = some (r, σ') → gG E mX11_told 46 [(0, .ref 168), (1, .int p1), (2, .int v2), (3, .int v3), (4, .int v4), (5, .int v5)] [] σ (some (.int r)) σ') (h : fX11_told_178 p1 k46 v2 v4 v5 s0 σ = some (r, σ')) : gG E mX11_told 178 [(0, .ref 168), (1, .int p1), (2, .int v2), (4, .int v4), (5, .int v5)] [.int s0] σ (some (.int r)) σ' := by
  unfold fX11_told_178 at h
  refine g_istore_n (lv' := [(3, .int s0), (0, .ref 168), (1, .int p1), (2, .int v2), (4, .int v4), (5, .int v5)]) dX11_told_178 rfl (Nat.le_of_ble_eq_true rfl) rfl ?_
  refine g_sub [1, 2, 3, 0, 4, 5] rfl ?_
  exact pX11_told_179 hk46 h
def fX11_told_172 (p1 : Int32) (k46 : Int32 → Int32 → Int32 → Int32 → gS → Option (Int32 × gS)) (v2 : Int32) (v4 : Int32) (v5 : Int32) (σ : gS) : Option (Int32 × gS) :=
  fX11_told_178 p1 k46 v2 v4 v5 v5 σ
set_option maxHeartbeats 4000000 in
set_option maxRecDepth 100000 in
theorem pX11_told_172 {E : gE} {p1 : Int32} {k46 : Int32 → Int32 → Int32 → Int32 → gS → Option (Int32 × gS)} {r : Int32} {σ' : gS} {v2 : Int32} {v4 : Int32} {v5 : Int32} {σ : gS} (hk46 : ∀ (v2 : Int32) (v3 : Int32) (v4 : Int32) (v5 : Int32) (σ : gS), k46 v2 v3 v4 v5 σ = some (r, σ') → gG E mX11_told 46 [(0, .ref 168), (1, .int p1), (2, .int v2), (3, .int v3), (4, .int v4), (5, .int v5)] [] σ (some (.int r)) σ') (h : fX11_told_172 p1 k46 v2 v4 v5 σ = some (r, σ')) : gG E mX11_told 172 [(0, .ref 168), (1, .int p1), (2, .int v2), (4, .int v4), (5, .int v5)] [] σ (some (.int r)) σ' := by
  unfold fX11_told_172 at h
  refine g_iload dX11_told_172 4 rfl ?_
  refine g_goto (t := 178) dX11_told_174 (by decide) ?_
  exact pX11_told_178 hk46 h
def fX11_told_177 (p1 : Int32) (k46 : Int32 → Int32 → Int32 → Int32 → gS → Option (Int32 × gS)) (v2 : Int32) (v3 : Int32) (v4 : Int32) (v5 : Int32) (σ : gS) : Option (Int32 × gS) :=
  fX11_told_178 p1 k46 v2 v4 v5 v3 σ
set_option maxHeartbeats 4000000 in
set_option maxRecDepth 100000 in
theorem pX11_told_177 {E : gE} {p1 : Int32} {k46 : Int32 → Int32 → Int32 → Int32 → gS → Option (Int32 × gS)} {r : Int32} {σ' : gS} {v2 : Int32} {v3 : Int32} {v4 : Int32} {v5 : Int32} {σ : gS} (hk46 : ∀ (v2 : Int32) (v3 : Int32) (v4 : Int32) (v5 : Int32) (σ : gS), k46 v2 v3 v4 v5 σ = some (r, σ') → gG E mX11_told 46 [(0, .ref 168), (1, .int p1), (2, .int v2), (3, .int v3), (4, .int v4), (5, .int v5)] [] σ (some (.int r)) σ') (h : fX11_told_177 p1 k46 v2 v3 v4 v5 σ = some (r, σ')) : gG E mX11_told 177 [(0, .ref 168), (1, .int p1), (2, .int v2), (3, .int v3), (4, .int v4), (5, .int v5)] [] σ (some (.int r)) σ' := by
  unfold fX11_told_177 at h
  refine g_iload_n dX11_told_177 rfl 3 rfl ?_
  refine g_sub [0, 1, 2, 4, 5] rfl ?_
  exact pX11_told_178 hk46 h
def fX11_told_139 (p1 : Int32) (k46 : Int32 → Int32 → Int32 → Int32 → gS → Option (Int32 × gS)) (v2 : Int32) (v3 : Int32) (v4 : Int32) (v5 : Int32) (v6 : Int64) (v8 : Int32) (s0 : Int64) (σ : gS) : Option (Int32 × gS) :=
  if v8 = 0 then
    if (p1 - p1 / 2 * 2) = 1 then
      if 0 ≤ (lg_cmp v6 s0) then
        fX11_told_177 p1 k46 v2 v3 v4 v5 σ
      else
        fX11_told_172 p1 k46 v2 v4 v5 σ
    else
      if (lg_cmp v6 s0) ≤ 0 then
        fX11_told_177 p1 k46 v2 v3 v4 v5 σ
      else
        fX11_told_172 p1 k46 v2 v4 v5 σ
  else
    fX11_told_172 p1 k46 v2 v4 v5 σ
set_option maxHeartbeats 4000000 in
set_option maxRecDepth 100000 in
theorem pX11_told_139 {E : gE} {p1 : Int32} {k46 : Int32 → Int32 → Int32 → Int32 → gS → Option (Int32 × gS)} {r : Int32} {σ' : gS} {v2 : Int32} {v3 : Int32} {v4 : Int32} {v5 : Int32} {v6 : Int64} {v8 : Int32} {s0 : Int64} {σ : gS} (hk46 : ∀ (v2 : Int32) (v3 : Int32) (v4 : Int32) (v5 : Int32) (σ : gS), k46 v2 v3 v4 v5 σ = some (r, σ') → gG E mX11_told 46 [(0, .ref 168), (1, .int p1), (2, .int v2), (3, .int v3), (4, .int v4), (5, .int v5)] [] σ (some (.int r)) σ') (h : fX11_told_139 p1 k46 v2 v3 v4 v5 v6 v8 s0 σ = some (r, σ')) : gG E mX11_told 139 [(0, .ref 168), (1, .int p1), (2, .int v2), (3, .int v3), (4, .int v4), (5, .int v5), (6, .long v6), (8, .int v8)] [.long s0] σ (some (.int r)) σ' := by
  unfold fX11_told_139 at h
  refine g_lstore (lv' := [(9, .long s0), (0, .ref 168), (1, .int p1), (2, .int v2), (3, .int v3), (4, .int v4), (5, .int v5), (6, .long v6), (8, .int v8)]) dX11_told_139 (Nat.le_of_ble_eq_true rfl) rfl ?_
  refine g_iload dX11_told_141 8 rfl ?_
  refine g_if_ne (t := 172) dX11_told_143 (by decide) (fun c1 => ?_) (fun c1 => ?_)
  · replace h := if_f h c1
    refine g_sub [1, 2, 3, 5, 6] rfl ?_
    exact pX11_told_172 hk46 h
  · replace h := if_t h c1
    refine g_iload_n dX11_told_146 rfl 2 rfl ?_
    refine g_iconst (v := 2) dX11_told_147 (by decide) ?_
    refine g_irem dX11_told_148 (by decide) ?_
    refine g_iconst (v := 1) dX11_told_149 (by decide) ?_
    refine g_icmp_ne (t := 164) dX11_told_150 (by decide) (fun c2 => ?_) (fun c2 => ?_)
    · replace h := if_f h c2
      refine g_lload dX11_told_164 7 rfl ?_
      refine g_lload dX11_told_166 0 rfl ?_
      refine g_lcmp dX11_told_168 ?_
      refine g_if_le (t := 177) dX11_told_169 (by decide) (fun c3 => ?_) (fun c3 => ?_)
      · replace h := if_t h c3
        refine g_sub [1, 2, 3, 4, 5, 6] rfl ?_
        exact pX11_told_177 hk46 h
      · replace h := if_f h c3
        refine g_sub [1, 2, 3, 5, 6] rfl ?_
        exact pX11_told_172 hk46 h
    · replace h := if_t h c2
      refine g_lload dX11_told_153 7 rfl ?_
      refine g_lload dX11_told_155 0 rfl ?_
      refine g_lcmp dX11_told_157 ?_
      refine g_if_ge (t := 177) dX11_told_158 (by decide) (fun c4 => ?_) (fun c4 => ?_)
      · replace h := if_t h c4
        refine g_sub [1, 2, 3, 4, 5, 6] rfl ?_
        exact pX11_told_177 hk46 h
      · replace h := if_f h c4
        refine g_goto (t := 172) dX11_told_161 (by decide) ?_
        refine g_sub [1, 2, 3, 5, 6] rfl ?_
        exact pX11_told_172 hk46 h
def fX11_told_121 (p1 : Int32) (k46 : Int32 → Int32 → Int32 → Int32 → gS → Option (Int32 × gS)) (v2 : Int32) (v3 : Int32) (v4 : Int32) (v5 : Int32) (v6 : Int64) (s0 : Int32) (σ : gS) : Option (Int32 × gS) :=
  if s0 = 0 then
    bd (fX11_curveAt v3 v4 σ) fun x2 σ3 =>
    fX11_told_139 p1 k46 v2 v3 v4 v5 v6 s0 x2 σ3
  else
    fX11_told_139 p1 k46 v2 v3 v4 v5 v6 s0 0 σ
set_option maxHeartbeats 4000000 in
set_option maxRecDepth 100000 in
theorem pX11_told_121 {E : gE} {p1 : Int32} {k46 : Int32 → Int32 → Int32 → Int32 → gS → Option (Int32 × gS)} {r : Int32} {σ' : gS} {v2 : Int32} {v3 : Int32} {v4 : Int32} {v5 : Int32} {v6 : Int64} {s0 : Int32} {σ : gS} (hk46 : ∀ (v2 : Int32) (v3 : Int32) (v4 : Int32) (v5 : Int32) (σ : gS), k46 v2 v3 v4 v5 σ = some (r, σ') → gG E mX11_told 46 [(0, .ref 168), (1, .int p1), (2, .int v2), (3, .int v3), (4, .int v4), (5, .int v5)] [] σ (some (.int r)) σ') (h : fX11_told_121 p1 k46 v2 v3 v4 v5 v6 s0 σ = some (r, σ')) : gG E mX11_told 121 [(0, .ref 168), (1, .int p1), (2, .int v2), (3, .int v3), (4, .int v4), (5, .int v5), (6, .long v6)] [.int s0] σ (some (.int r)) σ' := by
  unfold fX11_told_121 at h
  refine g_istore (lv' := [(8, .int s0), (0, .ref 168), (1, .int p1), (2, .int v2), (3, .int v3), (4, .int v4), (5, .int v5), (6, .long v6)]) dX11_told_121 (Nat.le_of_ble_eq_true rfl) rfl ?_
  refine g_iload dX11_told_123 0 rfl ?_
  refine g_if_eq (t := 132) dX11_told_125 (by decide) (fun c1 => ?_) (fun c1 => ?_)
  · replace h := if_t h c1
    refine g_aload_n dX11_told_132 rfl 1 rfl ?_
    refine g_iload_n dX11_told_133 rfl 4 rfl ?_
    refine g_iload dX11_told_134 5 rfl ?_
    obtain ⟨x2, σ3, y4, h⟩ := bd_some h
    refine g_callVr (as := [.int v3, .int v4]) (st := []) (zX11_curveAt y4) dX11_told_136 gi_168 rfl okX11_told_516 (Nat.le_of_ble_eq_true rfl) ?_
    refine g_sub [1, 2, 3, 4, 5, 6, 7, 0] rfl ?_
    exact pX11_told_139 hk46 h
  · replace h := if_f h c1
    refine g_lconst (v := 0) dX11_told_128 (by decide) ?_
    refine g_goto (t := 139) dX11_told_129 (by decide) ?_
    refine g_sub [1, 2, 3, 4, 5, 6, 7, 0] rfl ?_
    exact pX11_told_139 hk46 h
def fX11_told_88 (p1 : Int32) (k46 : Int32 → Int32 → Int32 → Int32 → gS → Option (Int32 × gS)) (v3 : Int32) (v4 : Int32) (v5 : Int32) (s0 : Int32) (s1 : Int32) (σ : gS) : Option (Int32 × gS) :=
  bnd (s0 + s1) fun x1 =>
  gg (¬ (v5 < 0 ∨ 256 ≤ v5.toNatClampNeg)) (
  if (σ.1 224 v5.toNatClampNeg) = 0 then
    fX11_told_179 p1 k46 x1 v3 v4 v5 σ
  else
    bd (fX11_curveAt v5 v4 σ) fun x4 σ5 =>
    if v3 = (-1000000) then
      fX11_told_121 p1 k46 x1 v3 v4 v5 x4 1 σ5
    else
      fX11_told_121 p1 k46 x1 v3 v4 v5 x4 0 σ5)
set_option maxHeartbeats 4000000 in
set_option maxRecDepth 100000 in
theorem pX11_told_88 {E : gE} {p1 : Int32} {k46 : Int32 → Int32 → Int32 → Int32 → gS → Option (Int32 × gS)} {r : Int32} {σ' : gS} {v3 : Int32} {v4 : Int32} {v5 : Int32} {s0 : Int32} {s1 : Int32} {σ : gS} (hk46 : ∀ (v2 : Int32) (v3 : Int32) (v4 : Int32) (v5 : Int32) (σ : gS), k46 v2 v3 v4 v5 σ = some (r, σ') → gG E mX11_told 46 [(0, .ref 168), (1, .int p1), (2, .int v2), (3, .int v3), (4, .int v4), (5, .int v5)] [] σ (some (.int r)) σ') (h : fX11_told_88 p1 k46 v3 v4 v5 s0 s1 σ = some (r, σ')) : gG E mX11_told 88 [(0, .ref 168), (1, .int p1), (3, .int v3), (4, .int v4), (5, .int v5)] [.int s1, .int s0] σ (some (.int r)) σ' := by
  unfold fX11_told_88 at h
  refine g_iadd dX11_told_88 ?_
  obtain ⟨x1, ex1, h⟩ := bnd_nm h
  refine g_topi ex1 ?_
  refine g_istore_n (lv' := [(2, .int x1), (0, .ref 168), (1, .int p1), (3, .int v3), (4, .int v4), (5, .int v5)]) dX11_told_89 rfl (Nat.le_of_ble_eq_true rfl) rfl ?_
  refine g_aload_n dX11_told_90 rfl 1 rfl ?_
  refine g_getC (n := 224) dX11_told_91 gi_168 rfl fl_RX11_191 ?_
  refine g_iload dX11_told_94 5 rfl ?_
  obtain ⟨g2, h⟩ := gg_some h
  refine g_zald dX11_told_96 gi_224 g2 ?_
  refine g_if_eq (t := 179) dX11_told_97 (by decide) (fun c3 => ?_) (fun c3 => ?_)
  · replace h := if_t h c3
    refine g_sub [1, 2, 0, 3, 4, 5] rfl ?_
    exact pX11_told_179 hk46 h
  · replace h := if_f h c3
    refine g_aload_n dX11_told_100 rfl 1 rfl ?_
    refine g_iload dX11_told_101 5 rfl ?_
    refine g_iload dX11_told_103 4 rfl ?_
    obtain ⟨x4, σ5, y6, h⟩ := bd_some h
    refine g_callVr (as := [.int v5, .int v4]) (st := []) (zX11_curveAt y6) dX11_told_105 gi_168 rfl okX11_told_516 (Nat.le_of_ble_eq_true rfl) ?_
    refine g_lstore (lv' := [(6, .long x4), (2, .int x1), (0, .ref 168), (1, .int p1), (3, .int v3), (4, .int v4), (5, .int v5)]) dX11_told_108 (Nat.le_of_ble_eq_true rfl) rfl ?_
    refine g_iload_n dX11_told_110 rfl 4 rfl ?_
    refine g_ldc (v := (-1000000)) dX11_told_111 wc_RX11_106 ?_
    refine g_icmp_ne (t := 120) dX11_told_113 (by decide) (fun c7 => ?_) (fun c7 => ?_)
    · replace h := if_f h c7
      refine g_iconst (v := 0) dX11_told_120 (by decide) ?_
      refine g_sub [2, 3, 1, 4, 5, 6, 0] rfl ?_
      exact pX11_told_121 hk46 h
    · replace h := if_t h c7
      refine g_iconst (v := 1) dX11_told_116 (by decide) ?_
      refine g_goto (t := 121) dX11_told_117 (by decide) ?_
      refine g_sub [2, 3, 1, 4, 5, 6, 0] rfl ?_
      exact pX11_told_121 hk46 h
def fX11_told_87 (p1 : Int32) (k46 : Int32 → Int32 → Int32 → Int32 → gS → Option (Int32 × gS)) (v3 : Int32) (v4 : Int32) (v5 : Int32) (s0 : Int32) (σ : gS) : Option (Int32 × gS) :=
  fX11_told_88 p1 k46 v3 v4 v5 s0 0 σ
set_option maxHeartbeats 4000000 in
set_option maxRecDepth 100000 in
theorem pX11_told_87 {E : gE} {p1 : Int32} {k46 : Int32 → Int32 → Int32 → Int32 → gS → Option (Int32 × gS)} {r : Int32} {σ' : gS} {v3 : Int32} {v4 : Int32} {v5 : Int32} {s0 : Int32} {σ : gS} (hk46 : ∀ (v2 : Int32) (v3 : Int32) (v4 : Int32) (v5 : Int32) (σ : gS), k46 v2 v3 v4 v5 σ = some (r, σ') → gG E mX11_told 46 [(0, .ref 168), (1, .int p1), (2, .int v2), (3, .int v3), (4, .int v4), (5, .int v5)] [] σ (some (.int r)) σ') (h : fX11_told_87 p1 k46 v3 v4 v5 s0 σ = some (r, σ')) : gG E mX11_told 87 [(0, .ref 168), (1, .int p1), (3, .int v3), (4, .int v4), (5, .int v5)] [.int s0] σ (some (.int r)) σ' := by
  unfold fX11_told_87 at h
  refine g_iconst (v := 0) dX11_told_87 (by decide) ?_
  exact pX11_told_88 hk46 h
def fX11_told_194 (p1 : Int32) (s0 : Int32) (σ : gS) : Option (Int32 × gS) :=
  some (s0, σ)
set_option maxHeartbeats 4000000 in
set_option maxRecDepth 100000 in
theorem pX11_told_194 {E : gE} {p1 : Int32} {r : Int32} {σ' : gS} {s0 : Int32} {σ : gS} (h : fX11_told_194 p1 s0 σ = some (r, σ')) : gG E mX11_told 194 [] [.int s0] σ (some (.int r)) σ' := by
  unfold fX11_told_194 at h
  obtain ⟨rfl, rfl⟩ := so_inj h
  exact g_iret dX11_told_194 rfl
def fX11_told_46 (p1 : Int32) : Nat → Int32 → Int32 → Int32 → Int32 → gS → Option (Int32 × gS)
  | 0, _, _, _, _, _ => none
  | n + 1, v2, v3, v4, v5, σ => if 256 ≤ v5 then
    if p1 = 0 then
      fX11_told_194 p1 v2 σ
    else
      fX11_told_194 p1 v3 σ
  else
    gg (¬ (v5 < 0 ∨ 256 ≤ v5.toNatClampNeg)) (
    if (σ.1 224 v5.toNatClampNeg) = 0 then
      fX11_told_87 p1 (fun v2 v3 v4 v5 σ => fX11_told_46 p1 n v2 v3 v4 v5 σ) v3 v4 v5 v2 σ
    else
      bnd ((v5 + 255) - (v5 + 255) / 256 * 256) fun x5 =>
      gg (¬ (x5 < 0 ∨ 256 ≤ x5.toNatClampNeg)) (
      if (σ.1 224 x5.toNatClampNeg) = 0 then
        fX11_told_88 p1 (fun v2 v3 v4 v5 σ => fX11_told_46 p1 n v2 v3 v4 v5 σ) v3 v4 v5 v2 1 σ
      else
        fX11_told_87 p1 (fun v2 v3 v4 v5 σ => fX11_told_46 p1 n v2 v3 v4 v5 σ) v3 v4 v5 v2 σ))
set_option maxHeartbeats 4000000 in
set_option maxRecDepth 100000 in
theorem pX11_told_46 {E : gE} {p1 : Int32} {r : Int32} {σ' : gS} : ∀ (n : Nat) (v2 : Int32) (v3 : Int32) (v4 : Int32) (v5 : Int32) (σ : gS), fX11_told_46 p1 n v2 v3 v4 v5 σ = some (r, σ') → gG E mX11_told 46 [(0, .ref 168), (1, .int p1), (2, .int v2), (3, .int v3), (4, .int v4), (5, .int v5)] [] σ (some (.int r)) σ' := by
  intro n
  induction n with
  | zero => intro v2 v3 v4 v5 σ h; exact absurd (show none = some (r, σ') from h) (by intro q; cases q)
  | succ n ih =>
  intro v2 v3 v4 v5 σ h
  unfold fX11_told_46 at h
  refine g_iload dX11_told_46 5 rfl ?_
  refine g_sipush (v := 256) dX11_told_48 (by decide) ?_
  refine g_icmp_ge (t := 185) dX11_told_51 (by decide) (fun c1 => ?_) (fun c1 => ?_)
  · replace h := if_t h c1
    refine g_iload_n dX11_told_185 rfl 1 rfl ?_
    refine g_if_ne (t := 193) dX11_told_186 (by decide) (fun c2 => ?_) (fun c2 => ?_)
    · replace h := if_f h c2
      refine g_iload_n dX11_told_193 rfl 3 rfl ?_
      refine g_sub [] rfl ?_
      exact pX11_told_194 h
    · replace h := if_t h c2
      refine g_iload_n dX11_told_189 rfl 2 rfl ?_
      refine g_goto (t := 194) dX11_told_190 (by decide) ?_
      refine g_sub [] rfl ?_
      exact pX11_told_194 h
  · replace h := if_f h c1
    refine g_iload_n dX11_told_54 rfl 2 rfl ?_
    refine g_aload_n dX11_told_55 rfl 0 rfl ?_
    refine g_getC (n := 224) dX11_told_56 gi_168 rfl fl_RX11_191 ?_
    refine g_iload dX11_told_59 5 rfl ?_
    obtain ⟨g3, h⟩ := gg_some h
    refine g_zald dX11_told_61 gi_224 g3 ?_
    refine g_if_eq (t := 87) dX11_told_62 (by decide) (fun c4 => ?_) (fun c4 => ?_)
    · replace h := if_t h c4
      refine g_sub [0, 1, 3, 4, 5] rfl ?_
      exact pX11_told_87 (fun v2 v3 v4 v5 σ h => ih v2 v3 v4 v5 σ h) h
    · replace h := if_f h c4
      refine g_aload_n dX11_told_65 rfl 0 rfl ?_
      refine g_getC (n := 224) dX11_told_66 gi_168 rfl fl_RX11_191 ?_
      refine g_iload dX11_told_69 5 rfl ?_
      refine g_sipush (v := 255) dX11_told_71 (by decide) ?_
      refine g_iadd dX11_told_74 ?_
      refine g_sipush (v := 256) dX11_told_75 (by decide) ?_
      refine g_irem dX11_told_78 (by decide) ?_
      obtain ⟨x5, ex5, h⟩ := bnd_nm h
      refine g_topi ex5 ?_
      obtain ⟨g6, h⟩ := gg_some h
      refine g_zald dX11_told_79 gi_224 g6 ?_
      refine g_if_ne (t := 87) dX11_told_80 (by decide) (fun c7 => ?_) (fun c7 => ?_)
      · replace h := if_f h c7
        refine g_sub [0, 1, 3, 4, 5] rfl ?_
        exact pX11_told_87 (fun v2 v3 v4 v5 σ h => ih v2 v3 v4 v5 σ h) h
      · replace h := if_t h c7
        refine g_iconst (v := 1) dX11_told_83 (by decide) ?_
        refine g_goto (t := 88) dX11_told_84 (by decide) ?_
        refine g_sub [0, 1, 3, 4, 5] rfl ?_
        exact pX11_told_88 (fun v2 v3 v4 v5 σ h => ih v2 v3 v4 v5 σ h) h
def fX11_told_41 (p1 : Int32) (v2 : Int32) (v3 : Int32) (s0 : Int32) (σ : gS) : Option (Int32 × gS) :=
  fX11_told_46 p1 2000 v2 v3 s0 0 σ
set_option maxHeartbeats 4000000 in
set_option maxRecDepth 100000 in
theorem pX11_told_41 {E : gE} {p1 : Int32} {r : Int32} {σ' : gS} {v2 : Int32} {v3 : Int32} {s0 : Int32} {σ : gS} (h : fX11_told_41 p1 v2 v3 s0 σ = some (r, σ')) : gG E mX11_told 41 [(0, .ref 168), (1, .int p1), (2, .int v2), (3, .int v3)] [.int s0] σ (some (.int r)) σ' := by
  unfold fX11_told_41 at h
  refine g_istore (lv' := [(4, .int s0), (0, .ref 168), (1, .int p1), (2, .int v2), (3, .int v3)]) dX11_told_41 (Nat.le_of_ble_eq_true rfl) rfl ?_
  refine g_iconst (v := 0) dX11_told_43 (by decide) ?_
  refine g_istore (lv' := [(5, .int 0), (4, .int s0), (0, .ref 168), (1, .int p1), (2, .int v2), (3, .int v3)]) dX11_told_44 (Nat.le_of_ble_eq_true rfl) rfl ?_
  refine g_sub [2, 3, 4, 5, 1, 0] rfl ?_
  exact pX11_told_46 2000 v2 v3 s0 0 σ h
def fX11_told (p1 : Int32) (σ : gS) : Option (Int32 × gS) :=
  bd (fX11_in p1.toInt64 0 4 σ) fun x1 σ2 =>
  if x1 = 0 then
    some ((-1000001), σ2)
  else
    if 0 ≤ (σ2.1 168 85) then
      if 3 ≤ p1 then
        fX11_told_41 p1 0 (-1000000) 1 σ2
      else
        fX11_told_41 p1 0 (-1000000) 0 σ2
    else
      some ((-1000002), σ2)
set_option maxHeartbeats 4000000 in
set_option maxRecDepth 100000 in
theorem pX11_told {E : gE} {p1 : Int32} {r : Int32} {σ' : gS} {σ : gS} (h : fX11_told p1 σ = some (r, σ')) : gG E mX11_told 0 [(0, .ref 168), (1, .int p1)] [] σ (some (.int r)) σ' := by
  unfold fX11_told at h
  refine g_iload_n dX11_told_0 rfl 1 rfl ?_
  refine g_i2l dX11_told_1 ?_
  refine g_lconst (v := 0) dX11_told_2 (by decide) ?_
  refine g_ldc2 (v := 4) dX11_told_3 wl_RX11_277 ?_
  obtain ⟨x1, σ2, y3, h⟩ := bd_some h
  refine g_callSr (as := [.long p1.toInt64, .long 0, .long 4]) (st := []) (zX11_in y3) dX11_told_6 okX11_told_220 (Nat.le_of_ble_eq_true rfl) ?_
  refine g_if_ne (t := 15) dX11_told_9 (by decide) (fun c4 => ?_) (fun c4 => ?_)
  · replace h := if_f h c4
    refine g_aload_n dX11_told_15 rfl 0 rfl ?_
    refine g_getI dX11_told_16 gi_168 rfl fl_RX11_182 ?_
    refine g_if_ge (t := 26) dX11_told_19 (by decide) (fun c5 => ?_) (fun c5 => ?_)
    · replace h := if_t h c5
      refine g_iconst (v := 0) dX11_told_26 (by decide) ?_
      refine g_istore_n (lv' := [(2, .int 0), (0, .ref 168), (1, .int p1)]) dX11_told_27 rfl (Nat.le_of_ble_eq_true rfl) rfl ?_
      refine g_ldc (v := (-1000000)) dX11_told_28 wc_RX11_106 ?_
      refine g_istore_n (lv' := [(3, .int (-1000000)), (2, .int 0), (0, .ref 168), (1, .int p1)]) dX11_told_30 rfl (Nat.le_of_ble_eq_true rfl) rfl ?_
      refine g_iload_n dX11_told_31 rfl 3 rfl ?_
      refine g_iconst (v := 3) dX11_told_32 (by decide) ?_
      refine g_icmp_ge (t := 40) dX11_told_33 (by decide) (fun c6 => ?_) (fun c6 => ?_)
      · replace h := if_t h c6
        refine g_iconst (v := 1) dX11_told_40 (by decide) ?_
        refine g_sub [2, 3, 1, 0] rfl ?_
        exact pX11_told_41 h
      · replace h := if_f h c6
        refine g_iconst (v := 0) dX11_told_36 (by decide) ?_
        refine g_goto (t := 41) dX11_told_37 (by decide) ?_
        refine g_sub [2, 3, 1, 0] rfl ?_
        exact pX11_told_41 h
    · replace h := if_f h c5
      refine g_ldcw (v := (-1000002)) dX11_told_22 wc_RX11_503 ?_
      obtain ⟨rfl, rfl⟩ := so_inj h
      exact g_iret dX11_told_25 rfl
  · replace h := if_t h c4
    refine g_ldc (v := (-1000001)) dX11_told_12 wc_RX11_224 ?_
    obtain ⟨rfl, rfl⟩ := so_inj h
    exact g_iret dX11_told_14 rfl
theorem zX11_told {E : gE} {p1 : Int32} {r : Int32} {σ σ' : gS} (h : fX11_told p1 σ = some (r, σ')) : gC E mX11_told [.ref 168, .int p1] σ (some (.int r)) σ' :=
  gC_of (by decide +kernel) rfl (Nat.le_of_ble_eq_true rfl) (pX11_told h)
def mX11_divisor : gM := (yX11_divisor, cX11_divisor, RX11, 10, (some .long), 0, 0)
theorem dX11_divisor_0 : decode mX11_divisor.2.1 0 = .ok (.lload_n 0, 1) := by decide +kernel
theorem dX11_divisor_1 : decode mX11_divisor.2.1 1 = .ok (.lconst 0, 1) := by decide +kernel
theorem dX11_divisor_2 : decode mX11_divisor.2.1 2 = .ok (.lcmp, 1) := by decide +kernel
theorem dX11_divisor_3 : decode mX11_divisor.2.1 3 = .ok (.ifCond .ge 8, 3) := by decide +kernel
theorem dX11_divisor_6 : decode mX11_divisor.2.1 6 = .ok (.lload_n 0, 1) := by decide +kernel
theorem dX11_divisor_7 : decode mX11_divisor.2.1 7 = .ok (.lneg, 1) := by decide +kernel
theorem dX11_divisor_8 : decode mX11_divisor.2.1 8 = .ok (.goto 4, 3) := by decide +kernel
theorem dX11_divisor_11 : decode mX11_divisor.2.1 11 = .ok (.lload_n 0, 1) := by decide +kernel
theorem dX11_divisor_12 : decode mX11_divisor.2.1 12 = .ok (.lstore 4, 2) := by decide +kernel
theorem dX11_divisor_14 : decode mX11_divisor.2.1 14 = .ok (.lload_n 2, 1) := by decide +kernel
theorem dX11_divisor_15 : decode mX11_divisor.2.1 15 = .ok (.lstore 6, 2) := by decide +kernel
theorem dX11_divisor_17 : decode mX11_divisor.2.1 17 = .ok (.lload 6, 2) := by decide +kernel
theorem dX11_divisor_19 : decode mX11_divisor.2.1 19 = .ok (.lconst 0, 1) := by decide +kernel
theorem dX11_divisor_20 : decode mX11_divisor.2.1 20 = .ok (.lcmp, 1) := by decide +kernel
theorem dX11_divisor_21 : decode mX11_divisor.2.1 21 = .ok (.ifCond .eq 21, 3) := by decide +kernel
theorem dX11_divisor_24 : decode mX11_divisor.2.1 24 = .ok (.lload 4, 2) := by decide +kernel
theorem dX11_divisor_26 : decode mX11_divisor.2.1 26 = .ok (.lload 6, 2) := by decide +kernel
theorem dX11_divisor_28 : decode mX11_divisor.2.1 28 = .ok (.lrem, 1) := by decide +kernel
theorem dX11_divisor_29 : decode mX11_divisor.2.1 29 = .ok (.lstore 8, 2) := by decide +kernel
theorem dX11_divisor_31 : decode mX11_divisor.2.1 31 = .ok (.lload 6, 2) := by decide +kernel
theorem dX11_divisor_33 : decode mX11_divisor.2.1 33 = .ok (.lstore 4, 2) := by decide +kernel
theorem dX11_divisor_35 : decode mX11_divisor.2.1 35 = .ok (.lload 8, 2) := by decide +kernel
theorem dX11_divisor_37 : decode mX11_divisor.2.1 37 = .ok (.lstore 6, 2) := by decide +kernel
theorem dX11_divisor_39 : decode mX11_divisor.2.1 39 = .ok (.goto (-22), 3) := by decide +kernel
theorem dX11_divisor_42 : decode mX11_divisor.2.1 42 = .ok (.lload 4, 2) := by decide +kernel
theorem dX11_divisor_44 : decode mX11_divisor.2.1 44 = .ok (.lreturn, 1) := by decide +kernel
def fX11_divisor_17 (p1 : Int64) (p2 : Int64) : Nat → Int64 → Int64 → gS → Option (Int64 × gS)
  | 0, _, _, _ => none
  | n + 1, v4, v6, σ => if (lg_cmp v6 0) = 0 then
    some (v4, σ)
  else
    gg (¬ v6 = 0) (
    bnd (v4 - v4 / v6 * v6) fun x3 =>
    fX11_divisor_17 p1 p2 n v6 x3 σ)
set_option maxHeartbeats 4000000 in
set_option maxRecDepth 100000 in
theorem pX11_divisor_17 {E : gE} {p1 : Int64} {p2 : Int64} {r : Int64} {σ' : gS} : ∀ (n : Nat) (v4 : Int64) (v6 : Int64) (σ : gS), fX11_divisor_17 p1 p2 n v4 v6 σ = some (r, σ') → gG E mX11_divisor 17 [(4, .long v4), (6, .long v6)] [] σ (some (.long r)) σ' := by
  intro n
  induction n with
  | zero => intro v4 v6 σ h; exact absurd (show none = some (r, σ') from h) (by intro q; cases q)
  | succ n ih =>
  intro v4 v6 σ h
  unfold fX11_divisor_17 at h
  refine g_lload dX11_divisor_17 1 rfl ?_
  refine g_lconst (v := 0) dX11_divisor_19 (by decide) ?_
  refine g_lcmp dX11_divisor_20 ?_
  refine g_if_eq (t := 42) dX11_divisor_21 (by decide) (fun c1 => ?_) (fun c1 => ?_)
  · replace h := if_t h c1
    refine g_lload dX11_divisor_42 0 rfl ?_
    obtain ⟨rfl, rfl⟩ := so_inj h
    exact g_lret dX11_divisor_44 rfl
  · replace h := if_f h c1
    refine g_lload dX11_divisor_24 0 rfl ?_
    refine g_lload dX11_divisor_26 1 rfl ?_
    obtain ⟨g2, h⟩ := gg_some h
    refine g_lrem dX11_divisor_28 g2 ?_
    obtain ⟨x3, ex3, h⟩ := bnd_nm h
    refine g_topl ex3 ?_
    refine g_lstore (lv' := [(8, .long x3), (4, .long v4), (6, .long v6)]) dX11_divisor_29 (Nat.le_of_ble_eq_true rfl) rfl ?_
    refine g_lload dX11_divisor_31 2 rfl ?_
    refine g_lstore (lv' := [(4, .long v6), (8, .long x3), (6, .long v6)]) dX11_divisor_33 (Nat.le_of_ble_eq_true rfl) rfl ?_
    refine g_lload dX11_divisor_35 1 rfl ?_
    refine g_lstore (lv' := [(6, .long x3), (4, .long v6), (8, .long x3)]) dX11_divisor_37 (Nat.le_of_ble_eq_true rfl) rfl ?_
    refine g_goto (t := 17) dX11_divisor_39 (by decide) ?_
    refine g_sub [1, 0] rfl ?_
    exact ih v6 x3 σ h
def fX11_divisor_12 (p1 : Int64) (p2 : Int64) (s0 : Int64) (σ : gS) : Option (Int64 × gS) :=
  fX11_divisor_17 p1 p2 2000 s0 p2 σ
set_option maxHeartbeats 4000000 in
set_option maxRecDepth 100000 in
theorem pX11_divisor_12 {E : gE} {p1 : Int64} {p2 : Int64} {r : Int64} {σ' : gS} {s0 : Int64} {σ : gS} (h : fX11_divisor_12 p1 p2 s0 σ = some (r, σ')) : gG E mX11_divisor 12 [(2, .long p2)] [.long s0] σ (some (.long r)) σ' := by
  unfold fX11_divisor_12 at h
  refine g_lstore (lv' := [(4, .long s0), (2, .long p2)]) dX11_divisor_12 (Nat.le_of_ble_eq_true rfl) rfl ?_
  refine g_lload_n dX11_divisor_14 rfl 1 rfl ?_
  refine g_lstore (lv' := [(6, .long p2), (4, .long s0), (2, .long p2)]) dX11_divisor_15 (Nat.le_of_ble_eq_true rfl) rfl ?_
  refine g_sub [1, 0] rfl ?_
  exact pX11_divisor_17 2000 s0 p2 σ h
def fX11_divisor (p1 : Int64) (p2 : Int64) (σ : gS) : Option (Int64 × gS) :=
  if 0 ≤ (lg_cmp p1 0) then
    fX11_divisor_12 p1 p2 p1 σ
  else
    fX11_divisor_12 p1 p2 (-p1) σ
set_option maxHeartbeats 4000000 in
set_option maxRecDepth 100000 in
theorem pX11_divisor {E : gE} {p1 : Int64} {p2 : Int64} {r : Int64} {σ' : gS} {σ : gS} (h : fX11_divisor p1 p2 σ = some (r, σ')) : gG E mX11_divisor 0 [(0, .long p1), (2, .long p2)] [] σ (some (.long r)) σ' := by
  unfold fX11_divisor at h
  refine g_lload_n dX11_divisor_0 rfl 0 rfl ?_
  refine g_lconst (v := 0) dX11_divisor_1 (by decide) ?_
  refine g_lcmp dX11_divisor_2 ?_
  refine g_if_ge (t := 11) dX11_divisor_3 (by decide) (fun c1 => ?_) (fun c1 => ?_)
  · replace h := if_t h c1
    refine g_lload_n dX11_divisor_11 rfl 0 rfl ?_
    refine g_sub [1] rfl ?_
    exact pX11_divisor_12 h
  · replace h := if_f h c1
    refine g_lload_n dX11_divisor_6 rfl 0 rfl ?_
    refine g_lneg dX11_divisor_7 ?_
    refine g_goto (t := 12) dX11_divisor_8 (by decide) ?_
    refine g_sub [1] rfl ?_
    exact pX11_divisor_12 h
theorem zX11_divisor {E : gE} {p1 : Int64} {p2 : Int64} {r : Int64} {σ σ' : gS} (h : fX11_divisor p1 p2 σ = some (r, σ')) : gC E mX11_divisor [.long p1, .long p2] σ (some (.long r)) σ' :=
  gC_of (by decide +kernel) rfl (Nat.le_of_ble_eq_true rfl) (pX11_divisor h)
theorem fl_RX11_197 : gFl RX11 197 11 90 := ⟨RX11, TX11, 101, rfl, by decide, ux_11, Or.inl (gm 1318 (by decide +kernel) rfl)⟩
theorem fp_RX11_525 : gFp RX11 525 11 92 .long := ⟨RX11, TX11, 101, rfl, by decide, ux_11, Or.inl (gm 1320 (by decide +kernel) rfl), rfl, by decide +kernel, ⟨tyX11, tyX11_ok⟩, nmX11⟩
theorem fp_RX11_528 : gFp RX11 528 11 93 .long := ⟨RX11, TX11, 101, rfl, by decide, ux_11, Or.inl (gm 1321 (by decide +kernel) rfl), rfl, by decide +kernel, ⟨tyX11, tyX11_ok⟩, nmX11⟩
theorem fl_RX11_194 : gFl RX11 194 11 89 := ⟨RX11, TX11, 101, rfl, by decide, ux_11, Or.inl (gm 1317 (by decide +kernel) rfl)⟩
theorem wl_RX11_520 : Cond.constantLong RX11 520 (-1) ∈ gWS := (gm 1828 (by decide +kernel) rfl)
def mX11_ratioBy : gM := (yX11_ratioBy, cX11_ratioBy, RX11, 12, none, 1, 29)
theorem dX11_ratioBy_0 : decode mX11_ratioBy.2.1 0 = .ok (.aload_n 0, 1) := by decide +kernel
theorem dX11_ratioBy_1 : decode mX11_ratioBy.2.1 1 = .ok (.getfield 39, 3) := by decide +kernel
theorem dX11_ratioBy_4 : decode mX11_ratioBy.2.1 4 = .ok (.iload_n 1, 1) := by decide +kernel
theorem dX11_ratioBy_5 : decode mX11_ratioBy.2.1 5 = .ok (.iaload, 1) := by decide +kernel
theorem dX11_ratioBy_6 : decode mX11_ratioBy.2.1 6 = .ok (.bipush 6, 2) := by decide +kernel
theorem dX11_ratioBy_8 : decode mX11_ratioBy.2.1 8 = .ok (.if_icmp .ne 7, 3) := by decide +kernel
theorem dX11_ratioBy_11 : decode mX11_ratioBy.2.1 11 = .ok (.iconst 1, 1) := by decide +kernel
theorem dX11_ratioBy_12 : decode mX11_ratioBy.2.1 12 = .ok (.goto 9, 3) := by decide +kernel
theorem dX11_ratioBy_15 : decode mX11_ratioBy.2.1 15 = .ok (.aload_n 0, 1) := by decide +kernel
theorem dX11_ratioBy_16 : decode mX11_ratioBy.2.1 16 = .ok (.getfield 30, 3) := by decide +kernel
theorem dX11_ratioBy_19 : decode mX11_ratioBy.2.1 19 = .ok (.iload_n 2, 1) := by decide +kernel
theorem dX11_ratioBy_20 : decode mX11_ratioBy.2.1 20 = .ok (.iaload, 1) := by decide +kernel
theorem dX11_ratioBy_21 : decode mX11_ratioBy.2.1 21 = .ok (.istore 4, 2) := by decide +kernel
theorem dX11_ratioBy_23 : decode mX11_ratioBy.2.1 23 = .ok (.aload_n 0, 1) := by decide +kernel
theorem dX11_ratioBy_24 : decode mX11_ratioBy.2.1 24 = .ok (.getfield 39, 3) := by decide +kernel
theorem dX11_ratioBy_27 : decode mX11_ratioBy.2.1 27 = .ok (.iload_n 1, 1) := by decide +kernel
theorem dX11_ratioBy_28 : decode mX11_ratioBy.2.1 28 = .ok (.iaload, 1) := by decide +kernel
theorem dX11_ratioBy_29 : decode mX11_ratioBy.2.1 29 = .ok (.bipush 6, 2) := by decide +kernel
theorem dX11_ratioBy_31 : decode mX11_ratioBy.2.1 31 = .ok (.if_icmp .ne 7, 3) := by decide +kernel
theorem dX11_ratioBy_34 : decode mX11_ratioBy.2.1 34 = .ok (.iconst 1, 1) := by decide +kernel
theorem dX11_ratioBy_35 : decode mX11_ratioBy.2.1 35 = .ok (.goto 9, 3) := by decide +kernel
theorem dX11_ratioBy_38 : decode mX11_ratioBy.2.1 38 = .ok (.aload_n 0, 1) := by decide +kernel
theorem dX11_ratioBy_39 : decode mX11_ratioBy.2.1 39 = .ok (.getfield 30, 3) := by decide +kernel
theorem dX11_ratioBy_42 : decode mX11_ratioBy.2.1 42 = .ok (.iload_n 3, 1) := by decide +kernel
theorem dX11_ratioBy_43 : decode mX11_ratioBy.2.1 43 = .ok (.iaload, 1) := by decide +kernel
theorem dX11_ratioBy_44 : decode mX11_ratioBy.2.1 44 = .ok (.istore 5, 2) := by decide +kernel
theorem dX11_ratioBy_46 : decode mX11_ratioBy.2.1 46 = .ok (.aload_n 0, 1) := by decide +kernel
theorem dX11_ratioBy_47 : decode mX11_ratioBy.2.1 47 = .ok (.getfield 194, 3) := by decide +kernel
theorem dX11_ratioBy_50 : decode mX11_ratioBy.2.1 50 = .ok (.iload_n 2, 1) := by decide +kernel
theorem dX11_ratioBy_51 : decode mX11_ratioBy.2.1 51 = .ok (.laload, 1) := by decide +kernel
theorem dX11_ratioBy_52 : decode mX11_ratioBy.2.1 52 = .ok (.iload 4, 2) := by decide +kernel
theorem dX11_ratioBy_54 : decode mX11_ratioBy.2.1 54 = .ok (.i2l, 1) := by decide +kernel
theorem dX11_ratioBy_55 : decode mX11_ratioBy.2.1 55 = .ok (.lmul, 1) := by decide +kernel
theorem dX11_ratioBy_56 : decode mX11_ratioBy.2.1 56 = .ok (.aload_n 0, 1) := by decide +kernel
theorem dX11_ratioBy_57 : decode mX11_ratioBy.2.1 57 = .ok (.getfield 39, 3) := by decide +kernel
theorem dX11_ratioBy_60 : decode mX11_ratioBy.2.1 60 = .ok (.iload_n 1, 1) := by decide +kernel
theorem dX11_ratioBy_61 : decode mX11_ratioBy.2.1 61 = .ok (.iaload, 1) := by decide +kernel
theorem dX11_ratioBy_62 : decode mX11_ratioBy.2.1 62 = .ok (.iconst 4, 1) := by decide +kernel
theorem dX11_ratioBy_63 : decode mX11_ratioBy.2.1 63 = .ok (.if_icmp .ne 9, 3) := by decide +kernel
theorem dX11_ratioBy_66 : decode mX11_ratioBy.2.1 66 = .ok (.ldc2_w 520, 3) := by decide +kernel
theorem dX11_ratioBy_69 : decode mX11_ratioBy.2.1 69 = .ok (.goto 4, 3) := by decide +kernel
theorem dX11_ratioBy_72 : decode mX11_ratioBy.2.1 72 = .ok (.lconst 1, 1) := by decide +kernel
theorem dX11_ratioBy_73 : decode mX11_ratioBy.2.1 73 = .ok (.lmul, 1) := by decide +kernel
theorem dX11_ratioBy_74 : decode mX11_ratioBy.2.1 74 = .ok (.lstore 6, 2) := by decide +kernel
theorem dX11_ratioBy_76 : decode mX11_ratioBy.2.1 76 = .ok (.aload_n 0, 1) := by decide +kernel
theorem dX11_ratioBy_77 : decode mX11_ratioBy.2.1 77 = .ok (.getfield 197, 3) := by decide +kernel
theorem dX11_ratioBy_80 : decode mX11_ratioBy.2.1 80 = .ok (.iload_n 2, 1) := by decide +kernel
theorem dX11_ratioBy_81 : decode mX11_ratioBy.2.1 81 = .ok (.laload, 1) := by decide +kernel
theorem dX11_ratioBy_82 : decode mX11_ratioBy.2.1 82 = .ok (.iload 5, 2) := by decide +kernel
theorem dX11_ratioBy_84 : decode mX11_ratioBy.2.1 84 = .ok (.i2l, 1) := by decide +kernel
theorem dX11_ratioBy_85 : decode mX11_ratioBy.2.1 85 = .ok (.lmul, 1) := by decide +kernel
theorem dX11_ratioBy_86 : decode mX11_ratioBy.2.1 86 = .ok (.lstore 8, 2) := by decide +kernel
theorem dX11_ratioBy_88 : decode mX11_ratioBy.2.1 88 = .ok (.lload 6, 2) := by decide +kernel
theorem dX11_ratioBy_90 : decode mX11_ratioBy.2.1 90 = .ok (.lload 8, 2) := by decide +kernel
theorem dX11_ratioBy_92 : decode mX11_ratioBy.2.1 92 = .ok (.invokestatic 522, 3) := by decide +kernel
theorem dX11_ratioBy_95 : decode mX11_ratioBy.2.1 95 = .ok (.lstore 10, 2) := by decide +kernel
theorem dX11_ratioBy_97 : decode mX11_ratioBy.2.1 97 = .ok (.aload_n 0, 1) := by decide +kernel
theorem dX11_ratioBy_98 : decode mX11_ratioBy.2.1 98 = .ok (.lload 6, 2) := by decide +kernel
theorem dX11_ratioBy_100 : decode mX11_ratioBy.2.1 100 = .ok (.lload 10, 2) := by decide +kernel
theorem dX11_ratioBy_102 : decode mX11_ratioBy.2.1 102 = .ok (.ldiv, 1) := by decide +kernel
theorem dX11_ratioBy_103 : decode mX11_ratioBy.2.1 103 = .ok (.putfield 525, 3) := by decide +kernel
theorem dX11_ratioBy_106 : decode mX11_ratioBy.2.1 106 = .ok (.aload_n 0, 1) := by decide +kernel
theorem dX11_ratioBy_107 : decode mX11_ratioBy.2.1 107 = .ok (.lload 8, 2) := by decide +kernel
theorem dX11_ratioBy_109 : decode mX11_ratioBy.2.1 109 = .ok (.lload 10, 2) := by decide +kernel
theorem dX11_ratioBy_111 : decode mX11_ratioBy.2.1 111 = .ok (.ldiv, 1) := by decide +kernel
theorem dX11_ratioBy_112 : decode mX11_ratioBy.2.1 112 = .ok (.putfield 528, 3) := by decide +kernel
theorem dX11_ratioBy_115 : decode mX11_ratioBy.2.1 115 = .ok (.return_, 1) := by decide +kernel
theorem okX11_ratioBy_522 : gOkS mX11_ratioBy mX11_divisor 522 2 := ⟨List.forall_mem_cons.mpr ⟨(gm 1831 (by decide +kernel) rfl), List.forall_mem_cons.mpr ⟨(gm 1829 (by decide +kernel) rfl), List.forall_mem_cons.mpr ⟨(gm 1830 (by decide +kernel) rfl), List.forall_mem_cons.mpr ⟨(gm 122 (by decide +kernel) rfl), fun _ h => absurd h List.not_mem_nil⟩⟩⟩⟩, by decide +kernel, by decide +kernel, by decide +kernel⟩
def fX11_ratioBy_73 (p1 : Int32) (p2 : Int32) (p3 : Int32) (v5 : Int32) (s0 : Int64) (s1 : Int64) (σ : gS) : Option (Unit × gS) :=
  bnd (s0 * s1) fun x1 =>
  gg (¬ (p2 < 0 ∨ 16 ≤ p2.toNatClampNeg)) (
  bnd ((σ.2.1 226 p2.toNatClampNeg) * v5.toInt64) fun x3 =>
  bd (fX11_divisor x1 x3 σ) fun x4 σ5 =>
  gg (¬ x4 = 0) (
  bnd (gsJ σ5 168 92 (x1 / x4)) fun σ8 =>
  gg (¬ x4 = 0) (
  bnd (gsJ σ8 168 93 (x3 / x4)) fun σ10 =>
  some ((), σ10))))
set_option maxHeartbeats 4000000 in
set_option maxRecDepth 100000 in
theorem pX11_ratioBy_73 {E : gE} {p1 : Int32} {p2 : Int32} {p3 : Int32} {r : Unit} {σ' : gS} {v5 : Int32} {s0 : Int64} {s1 : Int64} {σ : gS} (h : fX11_ratioBy_73 p1 p2 p3 v5 s0 s1 σ = some (r, σ')) : gG E mX11_ratioBy 73 [(0, .ref 168), (2, .int p2), (5, .int v5)] [.long s1, .long s0] σ (none) σ' := by
  unfold fX11_ratioBy_73 at h
  refine g_lmul dX11_ratioBy_73 ?_
  obtain ⟨x1, ex1, h⟩ := bnd_nm h
  refine g_topl ex1 ?_
  refine g_lstore (lv' := [(6, .long x1), (0, .ref 168), (2, .int p2), (5, .int v5)]) dX11_ratioBy_74 (Nat.le_of_ble_eq_true rfl) rfl ?_
  refine g_aload_n dX11_ratioBy_76 rfl 1 rfl ?_
  refine g_getC (n := 226) dX11_ratioBy_77 gi_168 rfl fl_RX11_197 ?_
  refine g_iload_n dX11_ratioBy_80 rfl 2 rfl ?_
  obtain ⟨g2, h⟩ := gg_some h
  refine g_lald dX11_ratioBy_81 gi_226 g2 ?_
  refine g_iload dX11_ratioBy_82 3 rfl ?_
  refine g_i2l dX11_ratioBy_84 ?_
  refine g_lmul dX11_ratioBy_85 ?_
  obtain ⟨x3, ex3, h⟩ := bnd_nm h
  refine g_topl ex3 ?_
  refine g_lstore (lv' := [(8, .long x3), (6, .long x1), (0, .ref 168), (2, .int p2), (5, .int v5)]) dX11_ratioBy_86 (Nat.le_of_ble_eq_true rfl) rfl ?_
  refine g_lload dX11_ratioBy_88 1 rfl ?_
  refine g_lload dX11_ratioBy_90 0 rfl ?_
  obtain ⟨x4, σ5, y6, h⟩ := bd_some h
  refine g_callSr (as := [.long x1, .long x3]) (st := []) (zX11_divisor y6) dX11_ratioBy_92 okX11_ratioBy_522 (Nat.le_of_ble_eq_true rfl) ?_
  refine g_lstore (lv' := [(10, .long x4), (8, .long x3), (6, .long x1), (0, .ref 168), (2, .int p2), (5, .int v5)]) dX11_ratioBy_95 (Nat.le_of_ble_eq_true rfl) rfl ?_
  refine g_aload_n dX11_ratioBy_97 rfl 3 rfl ?_
  refine g_lload dX11_ratioBy_98 2 rfl ?_
  refine g_lload dX11_ratioBy_100 0 rfl ?_
  obtain ⟨g7, h⟩ := gg_some h
  refine g_ldiv dX11_ratioBy_102 g7 ?_
  obtain ⟨σ8, eσ8, h⟩ := bnd_nm h
  refine g_putJ dX11_ratioBy_103 gi_168 rfl fp_RX11_525 (g_st eσ8 ?_)
  refine g_aload_n dX11_ratioBy_106 rfl 3 rfl ?_
  refine g_lload dX11_ratioBy_107 1 rfl ?_
  refine g_lload dX11_ratioBy_109 0 rfl ?_
  obtain ⟨g9, h⟩ := gg_some h
  refine g_ldiv dX11_ratioBy_111 g9 ?_
  obtain ⟨σ10, eσ10, h⟩ := bnd_nm h
  refine g_putJ dX11_ratioBy_112 gi_168 rfl fp_RX11_528 (g_st eσ10 ?_)
  obtain ⟨rfl, rfl⟩ := so_inj h
  exact g_vret dX11_ratioBy_115 rfl
def fX11_ratioBy_44 (p1 : Int32) (p2 : Int32) (p3 : Int32) (v4 : Int32) (s0 : Int32) (σ : gS) : Option (Unit × gS) :=
  gg (¬ (p2 < 0 ∨ 16 ≤ p2.toNatClampNeg)) (
  gg (¬ (p1 < 0 ∨ 30 ≤ p1.toNatClampNeg)) (
  if (σ.1 178 p1.toNatClampNeg) = 4 then
    fX11_ratioBy_73 p1 p2 p3 s0 ((σ.2.1 225 p2.toNatClampNeg) * v4.toInt64) (-1) σ
  else
    fX11_ratioBy_73 p1 p2 p3 s0 ((σ.2.1 225 p2.toNatClampNeg) * v4.toInt64) 1 σ))
set_option maxHeartbeats 4000000 in
set_option maxRecDepth 100000 in
theorem pX11_ratioBy_44 {E : gE} {p1 : Int32} {p2 : Int32} {p3 : Int32} {r : Unit} {σ' : gS} {v4 : Int32} {s0 : Int32} {σ : gS} (h : fX11_ratioBy_44 p1 p2 p3 v4 s0 σ = some (r, σ')) : gG E mX11_ratioBy 44 [(0, .ref 168), (1, .int p1), (2, .int p2), (4, .int v4)] [.int s0] σ (none) σ' := by
  unfold fX11_ratioBy_44 at h
  refine g_istore (lv' := [(5, .int s0), (0, .ref 168), (1, .int p1), (2, .int p2), (4, .int v4)]) dX11_ratioBy_44 (Nat.le_of_ble_eq_true rfl) rfl ?_
  refine g_aload_n dX11_ratioBy_46 rfl 1 rfl ?_
  refine g_getC (n := 225) dX11_ratioBy_47 gi_168 rfl fl_RX11_194 ?_
  refine g_iload_n dX11_ratioBy_50 rfl 3 rfl ?_
  obtain ⟨g1, h⟩ := gg_some h
  refine g_lald dX11_ratioBy_51 gi_225 g1 ?_
  refine g_iload dX11_ratioBy_52 4 rfl ?_
  refine g_i2l dX11_ratioBy_54 ?_
  refine g_lmul dX11_ratioBy_55 ?_
  refine g_aload_n dX11_ratioBy_56 rfl 1 rfl ?_
  refine g_getC (n := 178) dX11_ratioBy_57 gi_168 rfl fl_RX11_39 ?_
  refine g_iload_n dX11_ratioBy_60 rfl 2 rfl ?_
  obtain ⟨g2, h⟩ := gg_some h
  refine g_iald dX11_ratioBy_61 gi_178 g2 ?_
  refine g_iconst (v := 4) dX11_ratioBy_62 (by decide) ?_
  refine g_icmp_ne (t := 72) dX11_ratioBy_63 (by decide) (fun c3 => ?_) (fun c3 => ?_)
  · replace h := if_f h c3
    refine g_lconst (v := 1) dX11_ratioBy_72 (by decide) ?_
    refine g_sub [1, 3, 0] rfl ?_
    exact pX11_ratioBy_73 h
  · replace h := if_t h c3
    refine g_ldc2 (v := (-1)) dX11_ratioBy_66 wl_RX11_520 ?_
    refine g_goto (t := 73) dX11_ratioBy_69 (by decide) ?_
    refine g_sub [1, 3, 0] rfl ?_
    exact pX11_ratioBy_73 h
def fX11_ratioBy_21 (p1 : Int32) (p2 : Int32) (p3 : Int32) (s0 : Int32) (σ : gS) : Option (Unit × gS) :=
  gg (¬ (p1 < 0 ∨ 30 ≤ p1.toNatClampNeg)) (
  if (σ.1 178 p1.toNatClampNeg) = 6 then
    fX11_ratioBy_44 p1 p2 p3 s0 1 σ
  else
    gg (¬ (p3 < 0 ∨ 16 ≤ p3.toNatClampNeg)) (
    fX11_ratioBy_44 p1 p2 p3 s0 (σ.1 175 p3.toNatClampNeg) σ))
set_option maxHeartbeats 4000000 in
set_option maxRecDepth 100000 in
theorem pX11_ratioBy_21 {E : gE} {p1 : Int32} {p2 : Int32} {p3 : Int32} {r : Unit} {σ' : gS} {s0 : Int32} {σ : gS} (h : fX11_ratioBy_21 p1 p2 p3 s0 σ = some (r, σ')) : gG E mX11_ratioBy 21 [(0, .ref 168), (1, .int p1), (2, .int p2), (3, .int p3)] [.int s0] σ (none) σ' := by
  unfold fX11_ratioBy_21 at h
  refine g_istore (lv' := [(4, .int s0), (0, .ref 168), (1, .int p1), (2, .int p2), (3, .int p3)]) dX11_ratioBy_21 (Nat.le_of_ble_eq_true rfl) rfl ?_
  refine g_aload_n dX11_ratioBy_23 rfl 1 rfl ?_
  refine g_getC (n := 178) dX11_ratioBy_24 gi_168 rfl fl_RX11_39 ?_
  refine g_iload_n dX11_ratioBy_27 rfl 2 rfl ?_
  obtain ⟨g1, h⟩ := gg_some h
  refine g_iald dX11_ratioBy_28 gi_178 g1 ?_
  refine g_bipush (v := 6) dX11_ratioBy_29 (by decide) ?_
  refine g_icmp_ne (t := 38) dX11_ratioBy_31 (by decide) (fun c2 => ?_) (fun c2 => ?_)
  · replace h := if_f h c2
    refine g_aload_n dX11_ratioBy_38 rfl 1 rfl ?_
    refine g_getC (n := 175) dX11_ratioBy_39 gi_168 rfl fl_RX11_30 ?_
    refine g_iload_n dX11_ratioBy_42 rfl 4 rfl ?_
    obtain ⟨g3, h⟩ := gg_some h
    refine g_iald dX11_ratioBy_43 gi_175 g3 ?_
    refine g_sub [1, 2, 3, 0] rfl ?_
    exact pX11_ratioBy_44 h
  · replace h := if_t h c2
    refine g_iconst (v := 1) dX11_ratioBy_34 (by decide) ?_
    refine g_goto (t := 44) dX11_ratioBy_35 (by decide) ?_
    refine g_sub [1, 2, 3, 0] rfl ?_
    exact pX11_ratioBy_44 h
def fX11_ratioBy (p1 : Int32) (p2 : Int32) (p3 : Int32) (σ : gS) : Option (Unit × gS) :=
  gg (¬ (p1 < 0 ∨ 30 ≤ p1.toNatClampNeg)) (
  if (σ.1 178 p1.toNatClampNeg) = 6 then
    fX11_ratioBy_21 p1 p2 p3 1 σ
  else
    gg (¬ (p2 < 0 ∨ 16 ≤ p2.toNatClampNeg)) (
    fX11_ratioBy_21 p1 p2 p3 (σ.1 175 p2.toNatClampNeg) σ))
set_option maxHeartbeats 4000000 in
set_option maxRecDepth 100000 in
theorem pX11_ratioBy {E : gE} {p1 : Int32} {p2 : Int32} {p3 : Int32} {r : Unit} {σ' : gS} {σ : gS} (h : fX11_ratioBy p1 p2 p3 σ = some (r, σ')) : gG E mX11_ratioBy 0 [(0, .ref 168), (1, .int p1), (2, .int p2), (3, .int p3)] [] σ (none) σ' := by
  unfold fX11_ratioBy at h
  refine g_aload_n dX11_ratioBy_0 rfl 0 rfl ?_
  refine g_getC (n := 178) dX11_ratioBy_1 gi_168 rfl fl_RX11_39 ?_
  refine g_iload_n dX11_ratioBy_4 rfl 1 rfl ?_
  obtain ⟨g1, h⟩ := gg_some h
  refine g_iald dX11_ratioBy_5 gi_178 g1 ?_
  refine g_bipush (v := 6) dX11_ratioBy_6 (by decide) ?_
  refine g_icmp_ne (t := 15) dX11_ratioBy_8 (by decide) (fun c2 => ?_) (fun c2 => ?_)
  · replace h := if_f h c2
    refine g_aload_n dX11_ratioBy_15 rfl 0 rfl ?_
    refine g_getC (n := 175) dX11_ratioBy_16 gi_168 rfl fl_RX11_30 ?_
    refine g_iload_n dX11_ratioBy_19 rfl 2 rfl ?_
    obtain ⟨g3, h⟩ := gg_some h
    refine g_iald dX11_ratioBy_20 gi_175 g3 ?_
    exact pX11_ratioBy_21 h
  · replace h := if_t h c2
    refine g_iconst (v := 1) dX11_ratioBy_11 (by decide) ?_
    refine g_goto (t := 21) dX11_ratioBy_12 (by decide) ?_
    exact pX11_ratioBy_21 h
theorem zX11_ratioBy {E : gE} {p1 : Int32} {p2 : Int32} {p3 : Int32} {r : Unit} {σ σ' : gS} (h : fX11_ratioBy p1 p2 p3 σ = some (r, σ')) : gC E mX11_ratioBy [.ref 168, .int p1, .int p2, .int p3] σ (none) σ' :=
  gC_of (by decide +kernel) rfl (Nat.le_of_ble_eq_true rfl) (pX11_ratioBy h)
theorem fl_RX11_200 : gFl RX11 200 11 91 := ⟨RX11, TX11, 101, rfl, by decide, ux_11, Or.inl (gm 1319 (by decide +kernel) rfl)⟩
theorem fl_RX11_525 : gFl RX11 525 11 92 := ⟨RX11, TX11, 101, rfl, by decide, ux_11, Or.inl (gm 1320 (by decide +kernel) rfl)⟩
theorem fl_RX11_528 : gFl RX11 528 11 93 := ⟨RX11, TX11, 101, rfl, by decide, ux_11, Or.inl (gm 1321 (by decide +kernel) rfl)⟩
theorem wl_RX11_535 : Cond.constantLong RX11 535 (-1000000000000) ∈ gWS := (gm 1832 (by decide +kernel) rfl)
theorem wl_RX11_537 : Cond.constantLong RX11 537 1000000000000 ∈ gWS := (gm 1833 (by decide +kernel) rfl)
def mX11_findRatios : gM := (yX11_findRatios, cX11_findRatios, RX11, 7, none, 2, 60)
theorem dX11_findRatios_0 : decode mX11_findRatios.2.1 0 = .ok (.iconst 0, 1) := by decide +kernel
theorem dX11_findRatios_1 : decode mX11_findRatios.2.1 1 = .ok (.istore_n 2, 1) := by decide +kernel
theorem dX11_findRatios_2 : decode mX11_findRatios.2.1 2 = .ok (.iload_n 2, 1) := by decide +kernel
theorem dX11_findRatios_3 : decode mX11_findRatios.2.1 3 = .ok (.aload_n 0, 1) := by decide +kernel
theorem dX11_findRatios_4 : decode mX11_findRatios.2.1 4 = .ok (.getfield 377, 3) := by decide +kernel
theorem dX11_findRatios_7 : decode mX11_findRatios.2.1 7 = .ok (.if_icmp .ge 25, 3) := by decide +kernel
theorem dX11_findRatios_10 : decode mX11_findRatios.2.1 10 = .ok (.aload_n 0, 1) := by decide +kernel
theorem dX11_findRatios_11 : decode mX11_findRatios.2.1 11 = .ok (.getfield 200, 3) := by decide +kernel
theorem dX11_findRatios_14 : decode mX11_findRatios.2.1 14 = .ok (.iload_n 2, 1) := by decide +kernel
theorem dX11_findRatios_15 : decode mX11_findRatios.2.1 15 = .ok (.iload_n 2, 1) := by decide +kernel
theorem dX11_findRatios_16 : decode mX11_findRatios.2.1 16 = .ok (.iload_n 1, 1) := by decide +kernel
theorem dX11_findRatios_17 : decode mX11_findRatios.2.1 17 = .ok (.if_icmp .ne 7, 3) := by decide +kernel
theorem dX11_findRatios_20 : decode mX11_findRatios.2.1 20 = .ok (.iconst 1, 1) := by decide +kernel
theorem dX11_findRatios_21 : decode mX11_findRatios.2.1 21 = .ok (.goto 4, 3) := by decide +kernel
theorem dX11_findRatios_24 : decode mX11_findRatios.2.1 24 = .ok (.iconst 0, 1) := by decide +kernel
theorem dX11_findRatios_25 : decode mX11_findRatios.2.1 25 = .ok (.iastore, 1) := by decide +kernel
theorem dX11_findRatios_26 : decode mX11_findRatios.2.1 26 = .ok (.iinc 2 1, 3) := by decide +kernel
theorem dX11_findRatios_29 : decode mX11_findRatios.2.1 29 = .ok (.goto (-27), 3) := by decide +kernel
theorem dX11_findRatios_32 : decode mX11_findRatios.2.1 32 = .ok (.aload_n 0, 1) := by decide +kernel
theorem dX11_findRatios_33 : decode mX11_findRatios.2.1 33 = .ok (.getfield 194, 3) := by decide +kernel
theorem dX11_findRatios_36 : decode mX11_findRatios.2.1 36 = .ok (.iload_n 1, 1) := by decide +kernel
theorem dX11_findRatios_37 : decode mX11_findRatios.2.1 37 = .ok (.lconst 1, 1) := by decide +kernel
theorem dX11_findRatios_38 : decode mX11_findRatios.2.1 38 = .ok (.lastore, 1) := by decide +kernel
theorem dX11_findRatios_39 : decode mX11_findRatios.2.1 39 = .ok (.aload_n 0, 1) := by decide +kernel
theorem dX11_findRatios_40 : decode mX11_findRatios.2.1 40 = .ok (.getfield 197, 3) := by decide +kernel
theorem dX11_findRatios_43 : decode mX11_findRatios.2.1 43 = .ok (.iload_n 1, 1) := by decide +kernel
theorem dX11_findRatios_44 : decode mX11_findRatios.2.1 44 = .ok (.lconst 1, 1) := by decide +kernel
theorem dX11_findRatios_45 : decode mX11_findRatios.2.1 45 = .ok (.lastore, 1) := by decide +kernel
theorem dX11_findRatios_46 : decode mX11_findRatios.2.1 46 = .ok (.iconst 1, 1) := by decide +kernel
theorem dX11_findRatios_47 : decode mX11_findRatios.2.1 47 = .ok (.istore_n 2, 1) := by decide +kernel
theorem dX11_findRatios_48 : decode mX11_findRatios.2.1 48 = .ok (.iload_n 2, 1) := by decide +kernel
theorem dX11_findRatios_49 : decode mX11_findRatios.2.1 49 = .ok (.ifCond .eq 219, 3) := by decide +kernel
theorem dX11_findRatios_52 : decode mX11_findRatios.2.1 52 = .ok (.iconst 0, 1) := by decide +kernel
theorem dX11_findRatios_53 : decode mX11_findRatios.2.1 53 = .ok (.istore_n 2, 1) := by decide +kernel
theorem dX11_findRatios_54 : decode mX11_findRatios.2.1 54 = .ok (.iconst 0, 1) := by decide +kernel
theorem dX11_findRatios_55 : decode mX11_findRatios.2.1 55 = .ok (.istore_n 3, 1) := by decide +kernel
theorem dX11_findRatios_56 : decode mX11_findRatios.2.1 56 = .ok (.iload_n 3, 1) := by decide +kernel
theorem dX11_findRatios_57 : decode mX11_findRatios.2.1 57 = .ok (.aload_n 0, 1) := by decide +kernel
theorem dX11_findRatios_58 : decode mX11_findRatios.2.1 58 = .ok (.getfield 383, 3) := by decide +kernel
theorem dX11_findRatios_61 : decode mX11_findRatios.2.1 61 = .ok (.if_icmp .ge 204, 3) := by decide +kernel
theorem dX11_findRatios_64 : decode mX11_findRatios.2.1 64 = .ok (.iload_n 2, 1) := by decide +kernel
theorem dX11_findRatios_65 : decode mX11_findRatios.2.1 65 = .ok (.ifCond .ne 200, 3) := by decide +kernel
theorem dX11_findRatios_68 : decode mX11_findRatios.2.1 68 = .ok (.aload_n 0, 1) := by decide +kernel
theorem dX11_findRatios_69 : decode mX11_findRatios.2.1 69 = .ok (.getfield 200, 3) := by decide +kernel
theorem dX11_findRatios_72 : decode mX11_findRatios.2.1 72 = .ok (.aload_n 0, 1) := by decide +kernel
theorem dX11_findRatios_73 : decode mX11_findRatios.2.1 73 = .ok (.getfield 42, 3) := by decide +kernel
theorem dX11_findRatios_76 : decode mX11_findRatios.2.1 76 = .ok (.iload_n 3, 1) := by decide +kernel
theorem dX11_findRatios_77 : decode mX11_findRatios.2.1 77 = .ok (.iaload, 1) := by decide +kernel
theorem dX11_findRatios_78 : decode mX11_findRatios.2.1 78 = .ok (.iaload, 1) := by decide +kernel
theorem dX11_findRatios_79 : decode mX11_findRatios.2.1 79 = .ok (.ifCond .le 7, 3) := by decide +kernel
theorem dX11_findRatios_82 : decode mX11_findRatios.2.1 82 = .ok (.iconst 1, 1) := by decide +kernel
theorem dX11_findRatios_83 : decode mX11_findRatios.2.1 83 = .ok (.goto 4, 3) := by decide +kernel
theorem dX11_findRatios_86 : decode mX11_findRatios.2.1 86 = .ok (.iconst 0, 1) := by decide +kernel
theorem dX11_findRatios_87 : decode mX11_findRatios.2.1 87 = .ok (.istore 4, 2) := by decide +kernel
theorem dX11_findRatios_89 : decode mX11_findRatios.2.1 89 = .ok (.iload 4, 2) := by decide +kernel
theorem dX11_findRatios_91 : decode mX11_findRatios.2.1 91 = .ok (.aload_n 0, 1) := by decide +kernel
theorem dX11_findRatios_92 : decode mX11_findRatios.2.1 92 = .ok (.getfield 200, 3) := by decide +kernel
theorem dX11_findRatios_95 : decode mX11_findRatios.2.1 95 = .ok (.aload_n 0, 1) := by decide +kernel
theorem dX11_findRatios_96 : decode mX11_findRatios.2.1 96 = .ok (.getfield 45, 3) := by decide +kernel
theorem dX11_findRatios_99 : decode mX11_findRatios.2.1 99 = .ok (.iload_n 3, 1) := by decide +kernel
theorem dX11_findRatios_100 : decode mX11_findRatios.2.1 100 = .ok (.iaload, 1) := by decide +kernel
theorem dX11_findRatios_101 : decode mX11_findRatios.2.1 101 = .ok (.iaload, 1) := by decide +kernel
theorem dX11_findRatios_102 : decode mX11_findRatios.2.1 102 = .ok (.ifCond .le 7, 3) := by decide +kernel
theorem dX11_findRatios_105 : decode mX11_findRatios.2.1 105 = .ok (.iconst 1, 1) := by decide +kernel
theorem dX11_findRatios_106 : decode mX11_findRatios.2.1 106 = .ok (.goto 4, 3) := by decide +kernel
theorem dX11_findRatios_109 : decode mX11_findRatios.2.1 109 = .ok (.iconst 0, 1) := by decide +kernel
theorem dX11_findRatios_110 : decode mX11_findRatios.2.1 110 = .ok (.if_icmp .eq 7, 3) := by decide +kernel
theorem dX11_findRatios_113 : decode mX11_findRatios.2.1 113 = .ok (.iconst 1, 1) := by decide +kernel
theorem dX11_findRatios_114 : decode mX11_findRatios.2.1 114 = .ok (.goto 4, 3) := by decide +kernel
theorem dX11_findRatios_117 : decode mX11_findRatios.2.1 117 = .ok (.iconst 0, 1) := by decide +kernel
theorem dX11_findRatios_118 : decode mX11_findRatios.2.1 118 = .ok (.istore_n 2, 1) := by decide +kernel
theorem dX11_findRatios_119 : decode mX11_findRatios.2.1 119 = .ok (.iload_n 2, 1) := by decide +kernel
theorem dX11_findRatios_120 : decode mX11_findRatios.2.1 120 = .ok (.ifCond .eq 139, 3) := by decide +kernel
theorem dX11_findRatios_123 : decode mX11_findRatios.2.1 123 = .ok (.iload 4, 2) := by decide +kernel
theorem dX11_findRatios_125 : decode mX11_findRatios.2.1 125 = .ok (.ifCond .eq 12, 3) := by decide +kernel
theorem dX11_findRatios_128 : decode mX11_findRatios.2.1 128 = .ok (.aload_n 0, 1) := by decide +kernel
theorem dX11_findRatios_129 : decode mX11_findRatios.2.1 129 = .ok (.getfield 42, 3) := by decide +kernel
theorem dX11_findRatios_132 : decode mX11_findRatios.2.1 132 = .ok (.iload_n 3, 1) := by decide +kernel
theorem dX11_findRatios_133 : decode mX11_findRatios.2.1 133 = .ok (.iaload, 1) := by decide +kernel
theorem dX11_findRatios_134 : decode mX11_findRatios.2.1 134 = .ok (.goto 9, 3) := by decide +kernel
theorem dX11_findRatios_137 : decode mX11_findRatios.2.1 137 = .ok (.aload_n 0, 1) := by decide +kernel
theorem dX11_findRatios_138 : decode mX11_findRatios.2.1 138 = .ok (.getfield 45, 3) := by decide +kernel
theorem dX11_findRatios_141 : decode mX11_findRatios.2.1 141 = .ok (.iload_n 3, 1) := by decide +kernel
theorem dX11_findRatios_142 : decode mX11_findRatios.2.1 142 = .ok (.iaload, 1) := by decide +kernel
theorem dX11_findRatios_143 : decode mX11_findRatios.2.1 143 = .ok (.istore 5, 2) := by decide +kernel
theorem dX11_findRatios_145 : decode mX11_findRatios.2.1 145 = .ok (.iload 4, 2) := by decide +kernel
theorem dX11_findRatios_147 : decode mX11_findRatios.2.1 147 = .ok (.ifCond .eq 12, 3) := by decide +kernel
theorem dX11_findRatios_150 : decode mX11_findRatios.2.1 150 = .ok (.aload_n 0, 1) := by decide +kernel
theorem dX11_findRatios_151 : decode mX11_findRatios.2.1 151 = .ok (.getfield 45, 3) := by decide +kernel
theorem dX11_findRatios_154 : decode mX11_findRatios.2.1 154 = .ok (.iload_n 3, 1) := by decide +kernel
theorem dX11_findRatios_155 : decode mX11_findRatios.2.1 155 = .ok (.iaload, 1) := by decide +kernel
theorem dX11_findRatios_156 : decode mX11_findRatios.2.1 156 = .ok (.goto 9, 3) := by decide +kernel
theorem dX11_findRatios_159 : decode mX11_findRatios.2.1 159 = .ok (.aload_n 0, 1) := by decide +kernel
theorem dX11_findRatios_160 : decode mX11_findRatios.2.1 160 = .ok (.getfield 42, 3) := by decide +kernel
theorem dX11_findRatios_163 : decode mX11_findRatios.2.1 163 = .ok (.iload_n 3, 1) := by decide +kernel
theorem dX11_findRatios_164 : decode mX11_findRatios.2.1 164 = .ok (.iaload, 1) := by decide +kernel
theorem dX11_findRatios_165 : decode mX11_findRatios.2.1 165 = .ok (.istore 6, 2) := by decide +kernel
theorem dX11_findRatios_167 : decode mX11_findRatios.2.1 167 = .ok (.aload_n 0, 1) := by decide +kernel
theorem dX11_findRatios_168 : decode mX11_findRatios.2.1 168 = .ok (.getfield 200, 3) := by decide +kernel
theorem dX11_findRatios_171 : decode mX11_findRatios.2.1 171 = .ok (.iload 5, 2) := by decide +kernel
theorem dX11_findRatios_173 : decode mX11_findRatios.2.1 173 = .ok (.iaload, 1) := by decide +kernel
theorem dX11_findRatios_174 : decode mX11_findRatios.2.1 174 = .ok (.iconst 2, 1) := by decide +kernel
theorem dX11_findRatios_175 : decode mX11_findRatios.2.1 175 = .ok (.if_icmp .ne 14, 3) := by decide +kernel
theorem dX11_findRatios_178 : decode mX11_findRatios.2.1 178 = .ok (.aload_n 0, 1) := by decide +kernel
theorem dX11_findRatios_179 : decode mX11_findRatios.2.1 179 = .ok (.getfield 200, 3) := by decide +kernel
theorem dX11_findRatios_182 : decode mX11_findRatios.2.1 182 = .ok (.iload 6, 2) := by decide +kernel
theorem dX11_findRatios_184 : decode mX11_findRatios.2.1 184 = .ok (.iconst 2, 1) := by decide +kernel
theorem dX11_findRatios_185 : decode mX11_findRatios.2.1 185 = .ok (.iastore, 1) := by decide +kernel
theorem dX11_findRatios_186 : decode mX11_findRatios.2.1 186 = .ok (.goto 73, 3) := by decide +kernel
theorem dX11_findRatios_189 : decode mX11_findRatios.2.1 189 = .ok (.aload_n 0, 1) := by decide +kernel
theorem dX11_findRatios_190 : decode mX11_findRatios.2.1 190 = .ok (.iload_n 3, 1) := by decide +kernel
theorem dX11_findRatios_191 : decode mX11_findRatios.2.1 191 = .ok (.iload 5, 2) := by decide +kernel
theorem dX11_findRatios_193 : decode mX11_findRatios.2.1 193 = .ok (.iload 6, 2) := by decide +kernel
theorem dX11_findRatios_195 : decode mX11_findRatios.2.1 195 = .ok (.invokevirtual 531, 3) := by decide +kernel
theorem dX11_findRatios_198 : decode mX11_findRatios.2.1 198 = .ok (.aload_n 0, 1) := by decide +kernel
theorem dX11_findRatios_199 : decode mX11_findRatios.2.1 199 = .ok (.getfield 194, 3) := by decide +kernel
theorem dX11_findRatios_202 : decode mX11_findRatios.2.1 202 = .ok (.iload 6, 2) := by decide +kernel
theorem dX11_findRatios_204 : decode mX11_findRatios.2.1 204 = .ok (.aload_n 0, 1) := by decide +kernel
theorem dX11_findRatios_205 : decode mX11_findRatios.2.1 205 = .ok (.getfield 525, 3) := by decide +kernel
theorem dX11_findRatios_208 : decode mX11_findRatios.2.1 208 = .ok (.lastore, 1) := by decide +kernel
theorem dX11_findRatios_209 : decode mX11_findRatios.2.1 209 = .ok (.aload_n 0, 1) := by decide +kernel
theorem dX11_findRatios_210 : decode mX11_findRatios.2.1 210 = .ok (.getfield 197, 3) := by decide +kernel
theorem dX11_findRatios_213 : decode mX11_findRatios.2.1 213 = .ok (.iload 6, 2) := by decide +kernel
theorem dX11_findRatios_215 : decode mX11_findRatios.2.1 215 = .ok (.aload_n 0, 1) := by decide +kernel
theorem dX11_findRatios_216 : decode mX11_findRatios.2.1 216 = .ok (.getfield 528, 3) := by decide +kernel
theorem dX11_findRatios_219 : decode mX11_findRatios.2.1 219 = .ok (.lastore, 1) := by decide +kernel
theorem dX11_findRatios_220 : decode mX11_findRatios.2.1 220 = .ok (.aload_n 0, 1) := by decide +kernel
theorem dX11_findRatios_221 : decode mX11_findRatios.2.1 221 = .ok (.getfield 200, 3) := by decide +kernel
theorem dX11_findRatios_224 : decode mX11_findRatios.2.1 224 = .ok (.iload 6, 2) := by decide +kernel
theorem dX11_findRatios_226 : decode mX11_findRatios.2.1 226 = .ok (.aload_n 0, 1) := by decide +kernel
theorem dX11_findRatios_227 : decode mX11_findRatios.2.1 227 = .ok (.getfield 525, 3) := by decide +kernel
theorem dX11_findRatios_230 : decode mX11_findRatios.2.1 230 = .ok (.ldc2_w 535, 3) := by decide +kernel
theorem dX11_findRatios_233 : decode mX11_findRatios.2.1 233 = .ok (.ldc2_w 537, 3) := by decide +kernel
theorem dX11_findRatios_236 : decode mX11_findRatios.2.1 236 = .ok (.invokestatic 220, 3) := by decide +kernel
theorem dX11_findRatios_239 : decode mX11_findRatios.2.1 239 = .ok (.ifCond .eq 18, 3) := by decide +kernel
theorem dX11_findRatios_242 : decode mX11_findRatios.2.1 242 = .ok (.aload_n 0, 1) := by decide +kernel
theorem dX11_findRatios_243 : decode mX11_findRatios.2.1 243 = .ok (.getfield 528, 3) := by decide +kernel
theorem dX11_findRatios_246 : decode mX11_findRatios.2.1 246 = .ok (.ldc2_w 537, 3) := by decide +kernel
theorem dX11_findRatios_249 : decode mX11_findRatios.2.1 249 = .ok (.lcmp, 1) := by decide +kernel
theorem dX11_findRatios_250 : decode mX11_findRatios.2.1 250 = .ok (.ifCond .gt 7, 3) := by decide +kernel
theorem dX11_findRatios_253 : decode mX11_findRatios.2.1 253 = .ok (.iconst 1, 1) := by decide +kernel
theorem dX11_findRatios_254 : decode mX11_findRatios.2.1 254 = .ok (.goto 4, 3) := by decide +kernel
theorem dX11_findRatios_257 : decode mX11_findRatios.2.1 257 = .ok (.iconst 2, 1) := by decide +kernel
theorem dX11_findRatios_258 : decode mX11_findRatios.2.1 258 = .ok (.iastore, 1) := by decide +kernel
theorem dX11_findRatios_259 : decode mX11_findRatios.2.1 259 = .ok (.iinc 3 1, 3) := by decide +kernel
theorem dX11_findRatios_262 : decode mX11_findRatios.2.1 262 = .ok (.goto (-206), 3) := by decide +kernel
theorem dX11_findRatios_265 : decode mX11_findRatios.2.1 265 = .ok (.goto (-217), 3) := by decide +kernel
theorem dX11_findRatios_268 : decode mX11_findRatios.2.1 268 = .ok (.return_, 1) := by decide +kernel
theorem okX11_findRatios_531 : gOkV mX11_findRatios mX11_ratioBy 531 3 := ⟨List.forall_mem_cons.mpr ⟨(gm 1827 (by decide +kernel) rfl), List.forall_mem_cons.mpr ⟨(gm 1824 (by decide +kernel) rfl), List.forall_mem_cons.mpr ⟨(gm 1826 (by decide +kernel) rfl), List.forall_mem_cons.mpr ⟨(gm 98 (by decide +kernel) rfl), List.forall_mem_cons.mpr ⟨(gm 122 (by decide +kernel) rfl), fun _ h => absurd h List.not_mem_nil⟩⟩⟩⟩⟩, by decide +kernel, by decide +kernel, by decide +kernel⟩
theorem okX11_findRatios_220 : gOkS mX11_findRatios mX11_in 220 3 := ⟨List.forall_mem_cons.mpr ⟨(gm 1539 (by decide +kernel) rfl), List.forall_mem_cons.mpr ⟨(gm 1537 (by decide +kernel) rfl), List.forall_mem_cons.mpr ⟨(gm 1538 (by decide +kernel) rfl), List.forall_mem_cons.mpr ⟨(gm 122 (by decide +kernel) rfl), fun _ h => absurd h List.not_mem_nil⟩⟩⟩⟩, by decide +kernel, by decide +kernel, by decide +kernel⟩
def fX11_findRatios_25 (p1 : Int32) (k2 : Int32 → gS → Option (Unit × gS)) (v2 : Int32) (s1 : Int32) (s2 : Int32) (σ : gS) : Option (Unit × gS) :=
  gg (¬ (s1 < 0 ∨ 16 ≤ s1.toNatClampNeg)) (
  bnd (gsI σ 227 s1.toNatClampNeg s2) fun σ2 =>
  bnd (v2 + 1) fun x3 =>
  k2 x3 σ2)
set_option maxHeartbeats 4000000 in
set_option maxRecDepth 100000 in
theorem pX11_findRatios_25 {E : gE} {p1 : Int32} {k2 : Int32 → gS → Option (Unit × gS)} {r : Unit} {σ' : gS} {v2 : Int32} {s1 : Int32} {s2 : Int32} {σ : gS} (hk2 : ∀ (v2 : Int32) (σ : gS), k2 v2 σ = some (r, σ') → gG E mX11_findRatios 2 [(0, .ref 168), (1, .int p1), (2, .int v2)] [] σ (none) σ') (h : fX11_findRatios_25 p1 k2 v2 s1 s2 σ = some (r, σ')) : gG E mX11_findRatios 25 [(0, .ref 168), (1, .int p1), (2, .int v2)] [.int s2, .int s1, .ref 227] σ (none) σ' := by
  unfold fX11_findRatios_25 at h
  obtain ⟨g1, h⟩ := gg_some h
  obtain ⟨σ2, eσ2, h⟩ := bnd_nm h
  refine g_iast dX11_findRatios_25 gi_227 g1 (g_st eσ2 ?_)
  obtain ⟨x3, ex3, h⟩ := bnd_nm h
  refine g_iinc (j := 2) (v := x3) (lv' := [(2, .int x3), (0, .ref 168), (1, .int p1)]) dX11_findRatios_26 rfl (by rw [ex3]; rfl) (Nat.le_of_ble_eq_true rfl) rfl ?_
  refine g_goto (t := 2) dX11_findRatios_29 (by decide) ?_
  refine g_sub [1, 2, 0] rfl ?_
  exact hk2 x3 σ2 h
def fX11_findRatios_259 (p1 : Int32) (k48 : Int32 → gS → Option (Unit × gS)) (k56 : Int32 → Int32 → gS → Option (Unit × gS)) (v2 : Int32) (v3 : Int32) (σ : gS) : Option (Unit × gS) :=
  bnd (v3 + 1) fun x1 =>
  k56 v2 x1 σ
set_option maxHeartbeats 4000000 in
set_option maxRecDepth 100000 in
theorem pX11_findRatios_259 {E : gE} {p1 : Int32} {k48 : Int32 → gS → Option (Unit × gS)} {k56 : Int32 → Int32 → gS → Option (Unit × gS)} {r : Unit} {σ' : gS} {v2 : Int32} {v3 : Int32} {σ : gS} (hk48 : ∀ (v2 : Int32) (σ : gS), k48 v2 σ = some (r, σ') → gG E mX11_findRatios 48 [(0, .ref 168), (2, .int v2)] [] σ (none) σ') (hk56 : ∀ (v2 : Int32) (v3 : Int32) (σ : gS), k56 v2 v3 σ = some (r, σ') → gG E mX11_findRatios 56 [(0, .ref 168), (2, .int v2), (3, .int v3)] [] σ (none) σ') (h : fX11_findRatios_259 p1 k48 k56 v2 v3 σ = some (r, σ')) : gG E mX11_findRatios 259 [(0, .ref 168), (2, .int v2), (3, .int v3)] [] σ (none) σ' := by
  unfold fX11_findRatios_259 at h
  obtain ⟨x1, ex1, h⟩ := bnd_nm h
  refine g_iinc (j := 2) (v := x1) (lv' := [(3, .int x1), (0, .ref 168), (2, .int v2)]) dX11_findRatios_259 rfl (by rw [ex1]; rfl) (Nat.le_of_ble_eq_true rfl) rfl ?_
  refine g_goto (t := 56) dX11_findRatios_262 (by decide) ?_
  refine g_sub [1, 2, 0] rfl ?_
  exact hk56 v2 x1 σ h
def fX11_findRatios_258 (p1 : Int32) (k48 : Int32 → gS → Option (Unit × gS)) (k56 : Int32 → Int32 → gS → Option (Unit × gS)) (v2 : Int32) (v3 : Int32) (s1 : Int32) (s2 : Int32) (σ : gS) : Option (Unit × gS) :=
  gg (¬ (s1 < 0 ∨ 16 ≤ s1.toNatClampNeg)) (
  bnd (gsI σ 227 s1.toNatClampNeg s2) fun σ2 =>
  fX11_findRatios_259 p1 k48 k56 v2 v3 σ2)
set_option maxHeartbeats 4000000 in
set_option maxRecDepth 100000 in
theorem pX11_findRatios_258 {E : gE} {p1 : Int32} {k48 : Int32 → gS → Option (Unit × gS)} {k56 : Int32 → Int32 → gS → Option (Unit × gS)} {r : Unit} {σ' : gS} {v2 : Int32} {v3 : Int32} {s1 : Int32} {s2 : Int32} {σ : gS} (hk48 : ∀ (v2 : Int32) (σ : gS), k48 v2 σ = some (r, σ') → gG E mX11_findRatios 48 [(0, .ref 168), (2, .int v2)] [] σ (none) σ') (hk56 : ∀ (v2 : Int32) (v3 : Int32) (σ : gS), k56 v2 v3 σ = some (r, σ') → gG E mX11_findRatios 56 [(0, .ref 168), (2, .int v2), (3, .int v3)] [] σ (none) σ') (h : fX11_findRatios_258 p1 k48 k56 v2 v3 s1 s2 σ = some (r, σ')) : gG E mX11_findRatios 258 [(0, .ref 168), (2, .int v2), (3, .int v3)] [.int s2, .int s1, .ref 227] σ (none) σ' := by
  unfold fX11_findRatios_258 at h
  obtain ⟨g1, h⟩ := gg_some h
  obtain ⟨σ2, eσ2, h⟩ := bnd_nm h
  refine g_iast dX11_findRatios_258 gi_227 g1 (g_st eσ2 ?_)
  exact pX11_findRatios_259 hk48 hk56 h
def fX11_findRatios_257 (p1 : Int32) (k48 : Int32 → gS → Option (Unit × gS)) (k56 : Int32 → Int32 → gS → Option (Unit × gS)) (v2 : Int32) (v3 : Int32) (s1 : Int32) (σ : gS) : Option (Unit × gS) :=
  fX11_findRatios_258 p1 k48 k56 v2 v3 s1 2 σ
set_option maxHeartbeats 4000000 in
set_option maxRecDepth 100000 in
theorem pX11_findRatios_257 {E : gE} {p1 : Int32} {k48 : Int32 → gS → Option (Unit × gS)} {k56 : Int32 → Int32 → gS → Option (Unit × gS)} {r : Unit} {σ' : gS} {v2 : Int32} {v3 : Int32} {s1 : Int32} {σ : gS} (hk48 : ∀ (v2 : Int32) (σ : gS), k48 v2 σ = some (r, σ') → gG E mX11_findRatios 48 [(0, .ref 168), (2, .int v2)] [] σ (none) σ') (hk56 : ∀ (v2 : Int32) (v3 : Int32) (σ : gS), k56 v2 v3 σ = some (r, σ') → gG E mX11_findRatios 56 [(0, .ref 168), (2, .int v2), (3, .int v3)] [] σ (none) σ') (h : fX11_findRatios_257 p1 k48 k56 v2 v3 s1 σ = some (r, σ')) : gG E mX11_findRatios 257 [(0, .ref 168), (2, .int v2), (3, .int v3)] [.int s1, .ref 227] σ (none) σ' := by
  unfold fX11_findRatios_257 at h
  refine g_iconst (v := 2) dX11_findRatios_257 (by decide) ?_
  exact pX11_findRatios_258 hk48 hk56 h
def fX11_findRatios_165 (p1 : Int32) (k48 : Int32 → gS → Option (Unit × gS)) (k56 : Int32 → Int32 → gS → Option (Unit × gS)) (v2 : Int32) (v3 : Int32) (v5 : Int32) (s0 : Int32) (σ : gS) : Option (Unit × gS) :=
  gg (¬ (v5 < 0 ∨ 16 ≤ v5.toNatClampNeg)) (
  if (σ.1 227 v5.toNatClampNeg) = 2 then
    gg (¬ (s0 < 0 ∨ 16 ≤ s0.toNatClampNeg)) (
    bnd (gsI σ 227 s0.toNatClampNeg 2) fun σ15 =>
    fX11_findRatios_259 p1 k48 k56 v2 v3 σ15)
  else
    bd (fX11_ratioBy v3 v5 s0 σ) fun _ σ3 =>
    gg (¬ (s0 < 0 ∨ 16 ≤ s0.toNatClampNeg)) (
    bnd (gsJ σ3 225 s0.toNatClampNeg (σ3.2.1 168 92)) fun σ6 =>
    gg (¬ (s0 < 0 ∨ 16 ≤ s0.toNatClampNeg)) (
    bnd (gsJ σ6 226 s0.toNatClampNeg (σ6.2.1 168 93)) fun σ8 =>
    bd (fX11_in (σ8.2.1 168 92) (-1000000000000) 1000000000000 σ8) fun x9 σ10 =>
    if x9 = 0 then
      fX11_findRatios_257 p1 k48 k56 v2 v3 s0 σ10
    else
      if 0 < (lg_cmp (σ10.2.1 168 93) 1000000000000) then
        fX11_findRatios_257 p1 k48 k56 v2 v3 s0 σ10
      else
        fX11_findRatios_258 p1 k48 k56 v2 v3 s0 1 σ10)))
set_option maxHeartbeats 4000000 in
set_option maxRecDepth 100000 in
theorem pX11_findRatios_165 {E : gE} {p1 : Int32} {k48 : Int32 → gS → Option (Unit × gS)} {k56 : Int32 → Int32 → gS → Option (Unit × gS)} {r : Unit} {σ' : gS} {v2 : Int32} {v3 : Int32} {v5 : Int32} {s0 : Int32} {σ : gS} (hk48 : ∀ (v2 : Int32) (σ : gS), k48 v2 σ = some (r, σ') → gG E mX11_findRatios 48 [(0, .ref 168), (2, .int v2)] [] σ (none) σ') (hk56 : ∀ (v2 : Int32) (v3 : Int32) (σ : gS), k56 v2 v3 σ = some (r, σ') → gG E mX11_findRatios 56 [(0, .ref 168), (2, .int v2), (3, .int v3)] [] σ (none) σ') (h : fX11_findRatios_165 p1 k48 k56 v2 v3 v5 s0 σ = some (r, σ')) : gG E mX11_findRatios 165 [(0, .ref 168), (2, .int v2), (3, .int v3), (5, .int v5)] [.int s0] σ (none) σ' := by
  unfold fX11_findRatios_165 at h
  refine g_istore (lv' := [(6, .int s0), (0, .ref 168), (2, .int v2), (3, .int v3), (5, .int v5)]) dX11_findRatios_165 (Nat.le_of_ble_eq_true rfl) rfl ?_
  refine g_aload_n dX11_findRatios_167 rfl 1 rfl ?_
  refine g_getC (n := 227) dX11_findRatios_168 gi_168 rfl fl_RX11_200 ?_
  refine g_iload dX11_findRatios_171 4 rfl ?_
  obtain ⟨g1, h⟩ := gg_some h
  refine g_iald dX11_findRatios_173 gi_227 g1 ?_
  refine g_iconst (v := 2) dX11_findRatios_174 (by decide) ?_
  refine g_icmp_ne (t := 189) dX11_findRatios_175 (by decide) (fun c2 => ?_) (fun c2 => ?_)
  · replace h := if_f h c2
    refine g_aload_n dX11_findRatios_189 rfl 1 rfl ?_
    refine g_iload_n dX11_findRatios_190 rfl 3 rfl ?_
    refine g_iload dX11_findRatios_191 4 rfl ?_
    refine g_iload dX11_findRatios_193 0 rfl ?_
    obtain ⟨_, σ3, y4, h⟩ := bd_some h
    refine g_callVv (as := [.int v3, .int v5, .int s0]) (st := []) (zX11_ratioBy y4) dX11_findRatios_195 gi_168 rfl okX11_findRatios_531 (Nat.le_of_ble_eq_true rfl) ?_
    refine g_aload_n dX11_findRatios_198 rfl 1 rfl ?_
    refine g_getC (n := 225) dX11_findRatios_199 gi_168 rfl fl_RX11_194 ?_
    refine g_iload dX11_findRatios_202 0 rfl ?_
    refine g_aload_n dX11_findRatios_204 rfl 1 rfl ?_
    refine g_getJ dX11_findRatios_205 gi_168 rfl fl_RX11_525 ?_
    obtain ⟨g5, h⟩ := gg_some h
    obtain ⟨σ6, eσ6, h⟩ := bnd_nm h
    refine g_last dX11_findRatios_208 gi_225 g5 (g_st eσ6 ?_)
    refine g_aload_n dX11_findRatios_209 rfl 1 rfl ?_
    refine g_getC (n := 226) dX11_findRatios_210 gi_168 rfl fl_RX11_197 ?_
    refine g_iload dX11_findRatios_213 0 rfl ?_
    refine g_aload_n dX11_findRatios_215 rfl 1 rfl ?_
    refine g_getJ dX11_findRatios_216 gi_168 rfl fl_RX11_528 ?_
    obtain ⟨g7, h⟩ := gg_some h
    obtain ⟨σ8, eσ8, h⟩ := bnd_nm h
    refine g_last dX11_findRatios_219 gi_226 g7 (g_st eσ8 ?_)
    refine g_aload_n dX11_findRatios_220 rfl 1 rfl ?_
    refine g_getC (n := 227) dX11_findRatios_221 gi_168 rfl fl_RX11_200 ?_
    refine g_iload dX11_findRatios_224 0 rfl ?_
    refine g_aload_n dX11_findRatios_226 rfl 1 rfl ?_
    refine g_getJ dX11_findRatios_227 gi_168 rfl fl_RX11_525 ?_
    refine g_ldc2 (v := (-1000000000000)) dX11_findRatios_230 wl_RX11_535 ?_
    refine g_ldc2 (v := 1000000000000) dX11_findRatios_233 wl_RX11_537 ?_
    obtain ⟨x9, σ10, y11, h⟩ := bd_some h
    refine g_callSr (as := [.long (σ8.2.1 168 92), .long (-1000000000000), .long 1000000000000]) (st := [.int s0, .ref 227]) (zX11_in y11) dX11_findRatios_236 okX11_findRatios_220 (Nat.le_of_ble_eq_true rfl) ?_
    refine g_if_eq (t := 257) dX11_findRatios_239 (by decide) (fun c12 => ?_) (fun c12 => ?_)
    · replace h := if_t h c12
      refine g_sub [1, 2, 3] rfl ?_
      exact pX11_findRatios_257 hk48 hk56 h
    · replace h := if_f h c12
      refine g_aload_n dX11_findRatios_242 rfl 1 rfl ?_
      refine g_getJ dX11_findRatios_243 gi_168 rfl fl_RX11_528 ?_
      refine g_ldc2 (v := 1000000000000) dX11_findRatios_246 wl_RX11_537 ?_
      refine g_lcmp dX11_findRatios_249 ?_
      refine g_if_gt (t := 257) dX11_findRatios_250 (by decide) (fun c13 => ?_) (fun c13 => ?_)
      · replace h := if_t h c13
        refine g_sub [1, 2, 3] rfl ?_
        exact pX11_findRatios_257 hk48 hk56 h
      · replace h := if_f h c13
        refine g_iconst (v := 1) dX11_findRatios_253 (by decide) ?_
        refine g_goto (t := 258) dX11_findRatios_254 (by decide) ?_
        refine g_sub [1, 2, 3] rfl ?_
        exact pX11_findRatios_258 hk48 hk56 h
  · replace h := if_t h c2
    refine g_aload_n dX11_findRatios_178 rfl 1 rfl ?_
    refine g_getC (n := 227) dX11_findRatios_179 gi_168 rfl fl_RX11_200 ?_
    refine g_iload dX11_findRatios_182 0 rfl ?_
    refine g_iconst (v := 2) dX11_findRatios_184 (by decide) ?_
    obtain ⟨g14, h⟩ := gg_some h
    obtain ⟨σ15, eσ15, h⟩ := bnd_nm h
    refine g_iast dX11_findRatios_185 gi_227 g14 (g_st eσ15 ?_)
    refine g_goto (t := 259) dX11_findRatios_186 (by decide) ?_
    refine g_sub [1, 2, 3] rfl ?_
    exact pX11_findRatios_259 hk48 hk56 h
def fX11_findRatios_143 (p1 : Int32) (k48 : Int32 → gS → Option (Unit × gS)) (k56 : Int32 → Int32 → gS → Option (Unit × gS)) (v2 : Int32) (v3 : Int32) (v4 : Int32) (s0 : Int32) (σ : gS) : Option (Unit × gS) :=
  if v4 = 0 then
    gg (¬ (v3 < 0 ∨ 30 ≤ v3.toNatClampNeg)) (
    fX11_findRatios_165 p1 k48 k56 v2 v3 s0 (σ.1 179 v3.toNatClampNeg) σ)
  else
    gg (¬ (v3 < 0 ∨ 30 ≤ v3.toNatClampNeg)) (
    fX11_findRatios_165 p1 k48 k56 v2 v3 s0 (σ.1 180 v3.toNatClampNeg) σ)
set_option maxHeartbeats 4000000 in
set_option maxRecDepth 100000 in
theorem pX11_findRatios_143 {E : gE} {p1 : Int32} {k48 : Int32 → gS → Option (Unit × gS)} {k56 : Int32 → Int32 → gS → Option (Unit × gS)} {r : Unit} {σ' : gS} {v2 : Int32} {v3 : Int32} {v4 : Int32} {s0 : Int32} {σ : gS} (hk48 : ∀ (v2 : Int32) (σ : gS), k48 v2 σ = some (r, σ') → gG E mX11_findRatios 48 [(0, .ref 168), (2, .int v2)] [] σ (none) σ') (hk56 : ∀ (v2 : Int32) (v3 : Int32) (σ : gS), k56 v2 v3 σ = some (r, σ') → gG E mX11_findRatios 56 [(0, .ref 168), (2, .int v2), (3, .int v3)] [] σ (none) σ') (h : fX11_findRatios_143 p1 k48 k56 v2 v3 v4 s0 σ = some (r, σ')) : gG E mX11_findRatios 143 [(0, .ref 168), (2, .int v2), (3, .int v3), (4, .int v4)] [.int s0] σ (none) σ' := by
  unfold fX11_findRatios_143 at h
  refine g_istore (lv' := [(5, .int s0), (0, .ref 168), (2, .int v2), (3, .int v3), (4, .int v4)]) dX11_findRatios_143 (Nat.le_of_ble_eq_true rfl) rfl ?_
  refine g_iload dX11_findRatios_145 4 rfl ?_
  refine g_if_eq (t := 159) dX11_findRatios_147 (by decide) (fun c1 => ?_) (fun c1 => ?_)
  · replace h := if_t h c1
    refine g_aload_n dX11_findRatios_159 rfl 1 rfl ?_
    refine g_getC (n := 179) dX11_findRatios_160 gi_168 rfl fl_RX11_42 ?_
    refine g_iload_n dX11_findRatios_163 rfl 3 rfl ?_
    obtain ⟨g2, h⟩ := gg_some h
    refine g_iald dX11_findRatios_164 gi_179 g2 ?_
    refine g_sub [1, 2, 3, 0] rfl ?_
    exact pX11_findRatios_165 hk48 hk56 h
  · replace h := if_f h c1
    refine g_aload_n dX11_findRatios_150 rfl 1 rfl ?_
    refine g_getC (n := 180) dX11_findRatios_151 gi_168 rfl fl_RX11_45 ?_
    refine g_iload_n dX11_findRatios_154 rfl 3 rfl ?_
    obtain ⟨g3, h⟩ := gg_some h
    refine g_iald dX11_findRatios_155 gi_180 g3 ?_
    refine g_goto (t := 165) dX11_findRatios_156 (by decide) ?_
    refine g_sub [1, 2, 3, 0] rfl ?_
    exact pX11_findRatios_165 hk48 hk56 h
def fX11_findRatios_118 (p1 : Int32) (k48 : Int32 → gS → Option (Unit × gS)) (k56 : Int32 → Int32 → gS → Option (Unit × gS)) (v3 : Int32) (v4 : Int32) (s0 : Int32) (σ : gS) : Option (Unit × gS) :=
  if s0 = 0 then
    fX11_findRatios_259 p1 k48 k56 s0 v3 σ
  else
    if v4 = 0 then
      gg (¬ (v3 < 0 ∨ 30 ≤ v3.toNatClampNeg)) (
      fX11_findRatios_143 p1 k48 k56 s0 v3 v4 (σ.1 180 v3.toNatClampNeg) σ)
    else
      gg (¬ (v3 < 0 ∨ 30 ≤ v3.toNatClampNeg)) (
      fX11_findRatios_143 p1 k48 k56 s0 v3 v4 (σ.1 179 v3.toNatClampNeg) σ)
set_option maxHeartbeats 4000000 in
set_option maxRecDepth 100000 in
theorem pX11_findRatios_118 {E : gE} {p1 : Int32} {k48 : Int32 → gS → Option (Unit × gS)} {k56 : Int32 → Int32 → gS → Option (Unit × gS)} {r : Unit} {σ' : gS} {v3 : Int32} {v4 : Int32} {s0 : Int32} {σ : gS} (hk48 : ∀ (v2 : Int32) (σ : gS), k48 v2 σ = some (r, σ') → gG E mX11_findRatios 48 [(0, .ref 168), (2, .int v2)] [] σ (none) σ') (hk56 : ∀ (v2 : Int32) (v3 : Int32) (σ : gS), k56 v2 v3 σ = some (r, σ') → gG E mX11_findRatios 56 [(0, .ref 168), (2, .int v2), (3, .int v3)] [] σ (none) σ') (h : fX11_findRatios_118 p1 k48 k56 v3 v4 s0 σ = some (r, σ')) : gG E mX11_findRatios 118 [(0, .ref 168), (3, .int v3), (4, .int v4)] [.int s0] σ (none) σ' := by
  unfold fX11_findRatios_118 at h
  refine g_istore_n (lv' := [(2, .int s0), (0, .ref 168), (3, .int v3), (4, .int v4)]) dX11_findRatios_118 rfl (Nat.le_of_ble_eq_true rfl) rfl ?_
  refine g_iload_n dX11_findRatios_119 rfl 0 rfl ?_
  refine g_if_eq (t := 259) dX11_findRatios_120 (by decide) (fun c1 => ?_) (fun c1 => ?_)
  · replace h := if_t h c1
    refine g_sub [1, 0, 2] rfl ?_
    exact pX11_findRatios_259 hk48 hk56 h
  · replace h := if_f h c1
    refine g_iload dX11_findRatios_123 3 rfl ?_
    refine g_if_eq (t := 137) dX11_findRatios_125 (by decide) (fun c2 => ?_) (fun c2 => ?_)
    · replace h := if_t h c2
      refine g_aload_n dX11_findRatios_137 rfl 1 rfl ?_
      refine g_getC (n := 180) dX11_findRatios_138 gi_168 rfl fl_RX11_45 ?_
      refine g_iload_n dX11_findRatios_141 rfl 2 rfl ?_
      obtain ⟨g3, h⟩ := gg_some h
      refine g_iald dX11_findRatios_142 gi_180 g3 ?_
      refine g_sub [1, 0, 2, 3] rfl ?_
      exact pX11_findRatios_143 hk48 hk56 h
    · replace h := if_f h c2
      refine g_aload_n dX11_findRatios_128 rfl 1 rfl ?_
      refine g_getC (n := 179) dX11_findRatios_129 gi_168 rfl fl_RX11_42 ?_
      refine g_iload_n dX11_findRatios_132 rfl 2 rfl ?_
      obtain ⟨g4, h⟩ := gg_some h
      refine g_iald dX11_findRatios_133 gi_179 g4 ?_
      refine g_goto (t := 143) dX11_findRatios_134 (by decide) ?_
      refine g_sub [1, 0, 2, 3] rfl ?_
      exact pX11_findRatios_143 hk48 hk56 h
def fX11_findRatios_110 (p1 : Int32) (k48 : Int32 → gS → Option (Unit × gS)) (k56 : Int32 → Int32 → gS → Option (Unit × gS)) (v3 : Int32) (v4 : Int32) (s0 : Int32) (s1 : Int32) (σ : gS) : Option (Unit × gS) :=
  if s0 = s1 then
    fX11_findRatios_118 p1 k48 k56 v3 v4 0 σ
  else
    fX11_findRatios_118 p1 k48 k56 v3 v4 1 σ
set_option maxHeartbeats 4000000 in
set_option maxRecDepth 100000 in
theorem pX11_findRatios_110 {E : gE} {p1 : Int32} {k48 : Int32 → gS → Option (Unit × gS)} {k56 : Int32 → Int32 → gS → Option (Unit × gS)} {r : Unit} {σ' : gS} {v3 : Int32} {v4 : Int32} {s0 : Int32} {s1 : Int32} {σ : gS} (hk48 : ∀ (v2 : Int32) (σ : gS), k48 v2 σ = some (r, σ') → gG E mX11_findRatios 48 [(0, .ref 168), (2, .int v2)] [] σ (none) σ') (hk56 : ∀ (v2 : Int32) (v3 : Int32) (σ : gS), k56 v2 v3 σ = some (r, σ') → gG E mX11_findRatios 56 [(0, .ref 168), (2, .int v2), (3, .int v3)] [] σ (none) σ') (h : fX11_findRatios_110 p1 k48 k56 v3 v4 s0 s1 σ = some (r, σ')) : gG E mX11_findRatios 110 [(0, .ref 168), (3, .int v3), (4, .int v4)] [.int s1, .int s0] σ (none) σ' := by
  unfold fX11_findRatios_110 at h
  refine g_icmp_eq (t := 117) dX11_findRatios_110 (by decide) (fun c1 => ?_) (fun c1 => ?_)
  · replace h := if_t h c1
    refine g_iconst (v := 0) dX11_findRatios_117 (by decide) ?_
    exact pX11_findRatios_118 hk48 hk56 h
  · replace h := if_f h c1
    refine g_iconst (v := 1) dX11_findRatios_113 (by decide) ?_
    refine g_goto (t := 118) dX11_findRatios_114 (by decide) ?_
    exact pX11_findRatios_118 hk48 hk56 h
def fX11_findRatios_87 (p1 : Int32) (k48 : Int32 → gS → Option (Unit × gS)) (k56 : Int32 → Int32 → gS → Option (Unit × gS)) (v3 : Int32) (s0 : Int32) (σ : gS) : Option (Unit × gS) :=
  gg (¬ (v3 < 0 ∨ 30 ≤ v3.toNatClampNeg)) (
  gg (¬ (σ.1 180 v3.toNatClampNeg < 0 ∨ 16 ≤ (σ.1 180 v3.toNatClampNeg).toNatClampNeg)) (
  if (σ.1 227 ((σ.1 180 v3.toNatClampNeg).toNatClampNeg)) ≤ 0 then
    fX11_findRatios_110 p1 k48 k56 v3 s0 s0 0 σ
  else
    fX11_findRatios_110 p1 k48 k56 v3 s0 s0 1 σ))
set_option maxHeartbeats 4000000 in
set_option maxRecDepth 100000 in
theorem pX11_findRatios_87 {E : gE} {p1 : Int32} {k48 : Int32 → gS → Option (Unit × gS)} {k56 : Int32 → Int32 → gS → Option (Unit × gS)} {r : Unit} {σ' : gS} {v3 : Int32} {s0 : Int32} {σ : gS} (hk48 : ∀ (v2 : Int32) (σ : gS), k48 v2 σ = some (r, σ') → gG E mX11_findRatios 48 [(0, .ref 168), (2, .int v2)] [] σ (none) σ') (hk56 : ∀ (v2 : Int32) (v3 : Int32) (σ : gS), k56 v2 v3 σ = some (r, σ') → gG E mX11_findRatios 56 [(0, .ref 168), (2, .int v2), (3, .int v3)] [] σ (none) σ') (h : fX11_findRatios_87 p1 k48 k56 v3 s0 σ = some (r, σ')) : gG E mX11_findRatios 87 [(0, .ref 168), (3, .int v3)] [.int s0] σ (none) σ' := by
  unfold fX11_findRatios_87 at h
  refine g_istore (lv' := [(4, .int s0), (0, .ref 168), (3, .int v3)]) dX11_findRatios_87 (Nat.le_of_ble_eq_true rfl) rfl ?_
  refine g_iload dX11_findRatios_89 0 rfl ?_
  refine g_aload_n dX11_findRatios_91 rfl 1 rfl ?_
  refine g_getC (n := 227) dX11_findRatios_92 gi_168 rfl fl_RX11_200 ?_
  refine g_aload_n dX11_findRatios_95 rfl 1 rfl ?_
  refine g_getC (n := 180) dX11_findRatios_96 gi_168 rfl fl_RX11_45 ?_
  refine g_iload_n dX11_findRatios_99 rfl 2 rfl ?_
  obtain ⟨g1, h⟩ := gg_some h
  refine g_iald dX11_findRatios_100 gi_180 g1 ?_
  obtain ⟨g2, h⟩ := gg_some h
  refine g_iald dX11_findRatios_101 gi_227 g2 ?_
  refine g_if_le (t := 109) dX11_findRatios_102 (by decide) (fun c3 => ?_) (fun c3 => ?_)
  · replace h := if_t h c3
    refine g_iconst (v := 0) dX11_findRatios_109 (by decide) ?_
    refine g_sub [1, 2, 0] rfl ?_
    exact pX11_findRatios_110 hk48 hk56 h
  · replace h := if_f h c3
    refine g_iconst (v := 1) dX11_findRatios_105 (by decide) ?_
    refine g_goto (t := 110) dX11_findRatios_106 (by decide) ?_
    refine g_sub [1, 2, 0] rfl ?_
    exact pX11_findRatios_110 hk48 hk56 h
def fX11_findRatios_265 (p1 : Int32) (k48 : Int32 → gS → Option (Unit × gS)) (v2 : Int32) (σ : gS) : Option (Unit × gS) :=
  k48 v2 σ
set_option maxHeartbeats 4000000 in
set_option maxRecDepth 100000 in
theorem pX11_findRatios_265 {E : gE} {p1 : Int32} {k48 : Int32 → gS → Option (Unit × gS)} {r : Unit} {σ' : gS} {v2 : Int32} {σ : gS} (hk48 : ∀ (v2 : Int32) (σ : gS), k48 v2 σ = some (r, σ') → gG E mX11_findRatios 48 [(0, .ref 168), (2, .int v2)] [] σ (none) σ') (h : fX11_findRatios_265 p1 k48 v2 σ = some (r, σ')) : gG E mX11_findRatios 265 [(0, .ref 168), (2, .int v2)] [] σ (none) σ' := by
  unfold fX11_findRatios_265 at h
  refine g_goto (t := 48) dX11_findRatios_265 (by decide) ?_
  exact hk48 v2 σ h
def fX11_findRatios_56 (p1 : Int32) (k48 : Int32 → gS → Option (Unit × gS)) : Nat → Int32 → Int32 → gS → Option (Unit × gS)
  | 0, _, _, _ => none
  | n + 1, v2, v3, σ => if (σ.1 168 12) ≤ v3 then
    fX11_findRatios_265 p1 k48 v2 σ
  else
    if v2 = 0 then
      gg (¬ (v3 < 0 ∨ 30 ≤ v3.toNatClampNeg)) (
      gg (¬ (σ.1 179 v3.toNatClampNeg < 0 ∨ 16 ≤ (σ.1 179 v3.toNatClampNeg).toNatClampNeg)) (
      if (σ.1 227 ((σ.1 179 v3.toNatClampNeg).toNatClampNeg)) ≤ 0 then
        fX11_findRatios_87 p1 k48 (fun v2 v3 σ => fX11_findRatios_56 p1 k48 n v2 v3 σ) v3 0 σ
      else
        fX11_findRatios_87 p1 k48 (fun v2 v3 σ => fX11_findRatios_56 p1 k48 n v2 v3 σ) v3 1 σ))
    else
      fX11_findRatios_265 p1 k48 v2 σ
set_option maxHeartbeats 4000000 in
set_option maxRecDepth 100000 in
theorem pX11_findRatios_56 {E : gE} {p1 : Int32} {k48 : Int32 → gS → Option (Unit × gS)} {r : Unit} {σ' : gS} (hk48 : ∀ (v2 : Int32) (σ : gS), k48 v2 σ = some (r, σ') → gG E mX11_findRatios 48 [(0, .ref 168), (2, .int v2)] [] σ (none) σ') : ∀ (n : Nat) (v2 : Int32) (v3 : Int32) (σ : gS), fX11_findRatios_56 p1 k48 n v2 v3 σ = some (r, σ') → gG E mX11_findRatios 56 [(0, .ref 168), (2, .int v2), (3, .int v3)] [] σ (none) σ' := by
  intro n
  induction n with
  | zero => intro v2 v3 σ h; exact absurd (show none = some (r, σ') from h) (by intro q; cases q)
  | succ n ih =>
  intro v2 v3 σ h
  unfold fX11_findRatios_56 at h
  refine g_iload_n dX11_findRatios_56 rfl 2 rfl ?_
  refine g_aload_n dX11_findRatios_57 rfl 0 rfl ?_
  refine g_getI dX11_findRatios_58 gi_168 rfl fl_RX11_383 ?_
  refine g_icmp_ge (t := 265) dX11_findRatios_61 (by decide) (fun c1 => ?_) (fun c1 => ?_)
  · replace h := if_t h c1
    refine g_sub [0, 1] rfl ?_
    exact pX11_findRatios_265 hk48 h
  · replace h := if_f h c1
    refine g_iload_n dX11_findRatios_64 rfl 1 rfl ?_
    refine g_if_ne (t := 265) dX11_findRatios_65 (by decide) (fun c2 => ?_) (fun c2 => ?_)
    · replace h := if_f h c2
      refine g_sub [0, 1] rfl ?_
      exact pX11_findRatios_265 hk48 h
    · replace h := if_t h c2
      refine g_aload_n dX11_findRatios_68 rfl 0 rfl ?_
      refine g_getC (n := 227) dX11_findRatios_69 gi_168 rfl fl_RX11_200 ?_
      refine g_aload_n dX11_findRatios_72 rfl 0 rfl ?_
      refine g_getC (n := 179) dX11_findRatios_73 gi_168 rfl fl_RX11_42 ?_
      refine g_iload_n dX11_findRatios_76 rfl 2 rfl ?_
      obtain ⟨g3, h⟩ := gg_some h
      refine g_iald dX11_findRatios_77 gi_179 g3 ?_
      obtain ⟨g4, h⟩ := gg_some h
      refine g_iald dX11_findRatios_78 gi_227 g4 ?_
      refine g_if_le (t := 86) dX11_findRatios_79 (by decide) (fun c5 => ?_) (fun c5 => ?_)
      · replace h := if_t h c5
        refine g_iconst (v := 0) dX11_findRatios_86 (by decide) ?_
        refine g_sub [0, 2] rfl ?_
        exact pX11_findRatios_87 hk48 (fun v2 v3 σ h => ih v2 v3 σ h) h
      · replace h := if_f h c5
        refine g_iconst (v := 1) dX11_findRatios_82 (by decide) ?_
        refine g_goto (t := 87) dX11_findRatios_83 (by decide) ?_
        refine g_sub [0, 2] rfl ?_
        exact pX11_findRatios_87 hk48 (fun v2 v3 σ h => ih v2 v3 σ h) h
def fX11_findRatios_48 (p1 : Int32) : Nat → Int32 → gS → Option (Unit × gS)
  | 0, _, _ => none
  | n + 1, v2, σ => if v2 = 0 then
    some ((), σ)
  else
    fX11_findRatios_56 p1 (fun v2 σ => fX11_findRatios_48 p1 n v2 σ) 2000 0 0 σ
set_option maxHeartbeats 4000000 in
set_option maxRecDepth 100000 in
theorem pX11_findRatios_48 {E : gE} {p1 : Int32} {r : Unit} {σ' : gS} : ∀ (n : Nat) (v2 : Int32) (σ : gS), fX11_findRatios_48 p1 n v2 σ = some (r, σ') → gG E mX11_findRatios 48 [(0, .ref 168), (2, .int v2)] [] σ (none) σ' := by
  intro n
  induction n with
  | zero => intro v2 σ h; exact absurd (show none = some (r, σ') from h) (by intro q; cases q)
  | succ n ih =>
  intro v2 σ h
  unfold fX11_findRatios_48 at h
  refine g_iload_n dX11_findRatios_48 rfl 1 rfl ?_
  refine g_if_eq (t := 268) dX11_findRatios_49 (by decide) (fun c1 => ?_) (fun c1 => ?_)
  · replace h := if_t h c1
    obtain ⟨rfl, rfl⟩ := so_inj h
    exact g_vret dX11_findRatios_268 rfl
  · replace h := if_f h c1
    refine g_iconst (v := 0) dX11_findRatios_52 (by decide) ?_
    refine g_istore_n (lv' := [(2, .int 0), (0, .ref 168)]) dX11_findRatios_53 rfl (Nat.le_of_ble_eq_true rfl) rfl ?_
    refine g_iconst (v := 0) dX11_findRatios_54 (by decide) ?_
    refine g_istore_n (lv' := [(3, .int 0), (2, .int 0), (0, .ref 168)]) dX11_findRatios_55 rfl (Nat.le_of_ble_eq_true rfl) rfl ?_
    refine g_sub [2, 1, 0] rfl ?_
    exact pX11_findRatios_56 (fun v2 σ h => ih v2 σ h) 2000 0 0 σ h
def fX11_findRatios_2 (p1 : Int32) : Nat → Int32 → gS → Option (Unit × gS)
  | 0, _, _ => none
  | n + 1, v2, σ => if (σ.1 168 5) ≤ v2 then
    gg (¬ (p1 < 0 ∨ 16 ≤ p1.toNatClampNeg)) (
    bnd (gsJ σ 225 p1.toNatClampNeg 1) fun σ3 =>
    gg (¬ (p1 < 0 ∨ 16 ≤ p1.toNatClampNeg)) (
    bnd (gsJ σ3 226 p1.toNatClampNeg 1) fun σ5 =>
    fX11_findRatios_48 p1 2000 1 σ5))
  else
    if v2 = p1 then
      fX11_findRatios_25 p1 (fun v2 σ => fX11_findRatios_2 p1 n v2 σ) v2 v2 1 σ
    else
      fX11_findRatios_25 p1 (fun v2 σ => fX11_findRatios_2 p1 n v2 σ) v2 v2 0 σ
set_option maxHeartbeats 4000000 in
set_option maxRecDepth 100000 in
theorem pX11_findRatios_2 {E : gE} {p1 : Int32} {r : Unit} {σ' : gS} : ∀ (n : Nat) (v2 : Int32) (σ : gS), fX11_findRatios_2 p1 n v2 σ = some (r, σ') → gG E mX11_findRatios 2 [(0, .ref 168), (1, .int p1), (2, .int v2)] [] σ (none) σ' := by
  intro n
  induction n with
  | zero => intro v2 σ h; exact absurd (show none = some (r, σ') from h) (by intro q; cases q)
  | succ n ih =>
  intro v2 σ h
  unfold fX11_findRatios_2 at h
  refine g_iload_n dX11_findRatios_2 rfl 2 rfl ?_
  refine g_aload_n dX11_findRatios_3 rfl 0 rfl ?_
  refine g_getI dX11_findRatios_4 gi_168 rfl fl_RX11_377 ?_
  refine g_icmp_ge (t := 32) dX11_findRatios_7 (by decide) (fun c1 => ?_) (fun c1 => ?_)
  · replace h := if_t h c1
    refine g_aload_n dX11_findRatios_32 rfl 0 rfl ?_
    refine g_getC (n := 225) dX11_findRatios_33 gi_168 rfl fl_RX11_194 ?_
    refine g_iload_n dX11_findRatios_36 rfl 1 rfl ?_
    refine g_lconst (v := 1) dX11_findRatios_37 (by decide) ?_
    obtain ⟨g2, h⟩ := gg_some h
    obtain ⟨σ3, eσ3, h⟩ := bnd_nm h
    refine g_last dX11_findRatios_38 gi_225 g2 (g_st eσ3 ?_)
    refine g_aload_n dX11_findRatios_39 rfl 0 rfl ?_
    refine g_getC (n := 226) dX11_findRatios_40 gi_168 rfl fl_RX11_197 ?_
    refine g_iload_n dX11_findRatios_43 rfl 1 rfl ?_
    refine g_lconst (v := 1) dX11_findRatios_44 (by decide) ?_
    obtain ⟨g4, h⟩ := gg_some h
    obtain ⟨σ5, eσ5, h⟩ := bnd_nm h
    refine g_last dX11_findRatios_45 gi_226 g4 (g_st eσ5 ?_)
    refine g_iconst (v := 1) dX11_findRatios_46 (by decide) ?_
    refine g_istore_n (lv' := [(2, .int 1), (0, .ref 168), (1, .int p1)]) dX11_findRatios_47 rfl (Nat.le_of_ble_eq_true rfl) rfl ?_
    refine g_sub [1, 0] rfl ?_
    exact pX11_findRatios_48 2000 1 σ5 h
  · replace h := if_f h c1
    refine g_aload_n dX11_findRatios_10 rfl 0 rfl ?_
    refine g_getC (n := 227) dX11_findRatios_11 gi_168 rfl fl_RX11_200 ?_
    refine g_iload_n dX11_findRatios_14 rfl 2 rfl ?_
    refine g_iload_n dX11_findRatios_15 rfl 2 rfl ?_
    refine g_iload_n dX11_findRatios_16 rfl 1 rfl ?_
    refine g_icmp_ne (t := 24) dX11_findRatios_17 (by decide) (fun c6 => ?_) (fun c6 => ?_)
    · replace h := if_f h c6
      refine g_iconst (v := 0) dX11_findRatios_24 (by decide) ?_
      exact pX11_findRatios_25 (fun v2 σ h => ih v2 σ h) h
    · replace h := if_t h c6
      refine g_iconst (v := 1) dX11_findRatios_20 (by decide) ?_
      refine g_goto (t := 25) dX11_findRatios_21 (by decide) ?_
      exact pX11_findRatios_25 (fun v2 σ h => ih v2 σ h) h
def fX11_findRatios (p1 : Int32) (σ : gS) : Option (Unit × gS) :=
  fX11_findRatios_2 p1 2000 0 σ
set_option maxHeartbeats 4000000 in
set_option maxRecDepth 100000 in
theorem pX11_findRatios {E : gE} {p1 : Int32} {r : Unit} {σ' : gS} {σ : gS} (h : fX11_findRatios p1 σ = some (r, σ')) : gG E mX11_findRatios 0 [(0, .ref 168), (1, .int p1)] [] σ (none) σ' := by
  unfold fX11_findRatios at h
  refine g_iconst (v := 0) dX11_findRatios_0 (by decide) ?_
  refine g_istore_n (lv' := [(2, .int 0), (0, .ref 168), (1, .int p1)]) dX11_findRatios_1 rfl (Nat.le_of_ble_eq_true rfl) rfl ?_
  refine g_sub [1, 2, 0] rfl ?_
  exact pX11_findRatios_2 2000 0 σ h
theorem zX11_findRatios {E : gE} {p1 : Int32} {r : Unit} {σ σ' : gS} (h : fX11_findRatios p1 σ = some (r, σ')) : gC E mX11_findRatios [.ref 168, .int p1] σ (none) σ' :=
  gC_of (by decide +kernel) rfl (Nat.le_of_ble_eq_true rfl) (pX11_findRatios h)
def mX11_ratio : gM := (yX11_ratio, cX11_ratio, RX11, 4, (some .long), 3, 86)
theorem dX11_ratio_0 : decode mX11_ratio.2.1 0 = .ok (.iload_n 1, 1) := by decide +kernel
theorem dX11_ratio_1 : decode mX11_ratio.2.1 1 = .ok (.i2l, 1) := by decide +kernel
theorem dX11_ratio_2 : decode mX11_ratio.2.1 2 = .ok (.lconst 0, 1) := by decide +kernel
theorem dX11_ratio_3 : decode mX11_ratio.2.1 3 = .ok (.aload_n 0, 1) := by decide +kernel
theorem dX11_ratio_4 : decode mX11_ratio.2.1 4 = .ok (.getfield 377, 3) := by decide +kernel
theorem dX11_ratio_7 : decode mX11_ratio.2.1 7 = .ok (.iconst 1, 1) := by decide +kernel
theorem dX11_ratio_8 : decode mX11_ratio.2.1 8 = .ok (.isub, 1) := by decide +kernel
theorem dX11_ratio_9 : decode mX11_ratio.2.1 9 = .ok (.i2l, 1) := by decide +kernel
theorem dX11_ratio_10 : decode mX11_ratio.2.1 10 = .ok (.invokestatic 220, 3) := by decide +kernel
theorem dX11_ratio_13 : decode mX11_ratio.2.1 13 = .ok (.ifCond .eq 29, 3) := by decide +kernel
theorem dX11_ratio_16 : decode mX11_ratio.2.1 16 = .ok (.iload_n 2, 1) := by decide +kernel
theorem dX11_ratio_17 : decode mX11_ratio.2.1 17 = .ok (.i2l, 1) := by decide +kernel
theorem dX11_ratio_18 : decode mX11_ratio.2.1 18 = .ok (.lconst 0, 1) := by decide +kernel
theorem dX11_ratio_19 : decode mX11_ratio.2.1 19 = .ok (.aload_n 0, 1) := by decide +kernel
theorem dX11_ratio_20 : decode mX11_ratio.2.1 20 = .ok (.getfield 377, 3) := by decide +kernel
theorem dX11_ratio_23 : decode mX11_ratio.2.1 23 = .ok (.iconst 1, 1) := by decide +kernel
theorem dX11_ratio_24 : decode mX11_ratio.2.1 24 = .ok (.isub, 1) := by decide +kernel
theorem dX11_ratio_25 : decode mX11_ratio.2.1 25 = .ok (.i2l, 1) := by decide +kernel
theorem dX11_ratio_26 : decode mX11_ratio.2.1 26 = .ok (.invokestatic 220, 3) := by decide +kernel
theorem dX11_ratio_29 : decode mX11_ratio.2.1 29 = .ok (.ifCond .eq 13, 3) := by decide +kernel
theorem dX11_ratio_32 : decode mX11_ratio.2.1 32 = .ok (.iload_n 3, 1) := by decide +kernel
theorem dX11_ratio_33 : decode mX11_ratio.2.1 33 = .ok (.i2l, 1) := by decide +kernel
theorem dX11_ratio_34 : decode mX11_ratio.2.1 34 = .ok (.lconst 0, 1) := by decide +kernel
theorem dX11_ratio_35 : decode mX11_ratio.2.1 35 = .ok (.lconst 1, 1) := by decide +kernel
theorem dX11_ratio_36 : decode mX11_ratio.2.1 36 = .ok (.invokestatic 220, 3) := by decide +kernel
theorem dX11_ratio_39 : decode mX11_ratio.2.1 39 = .ok (.ifCond .ne 7, 3) := by decide +kernel
theorem dX11_ratio_42 : decode mX11_ratio.2.1 42 = .ok (.ldc2_w 510, 3) := by decide +kernel
theorem dX11_ratio_45 : decode mX11_ratio.2.1 45 = .ok (.lreturn, 1) := by decide +kernel
theorem dX11_ratio_46 : decode mX11_ratio.2.1 46 = .ok (.aload_n 0, 1) := by decide +kernel
theorem dX11_ratio_47 : decode mX11_ratio.2.1 47 = .ok (.iload_n 1, 1) := by decide +kernel
theorem dX11_ratio_48 : decode mX11_ratio.2.1 48 = .ok (.invokevirtual 539, 3) := by decide +kernel
theorem dX11_ratio_51 : decode mX11_ratio.2.1 51 = .ok (.aload_n 0, 1) := by decide +kernel
theorem dX11_ratio_52 : decode mX11_ratio.2.1 52 = .ok (.getfield 200, 3) := by decide +kernel
theorem dX11_ratio_55 : decode mX11_ratio.2.1 55 = .ok (.iload_n 2, 1) := by decide +kernel
theorem dX11_ratio_56 : decode mX11_ratio.2.1 56 = .ok (.iaload, 1) := by decide +kernel
theorem dX11_ratio_57 : decode mX11_ratio.2.1 57 = .ok (.ifCond .ne 9, 3) := by decide +kernel
theorem dX11_ratio_60 : decode mX11_ratio.2.1 60 = .ok (.ldc2_w 514, 3) := by decide +kernel
theorem dX11_ratio_63 : decode mX11_ratio.2.1 63 = .ok (.goto 36, 3) := by decide +kernel
theorem dX11_ratio_66 : decode mX11_ratio.2.1 66 = .ok (.aload_n 0, 1) := by decide +kernel
theorem dX11_ratio_67 : decode mX11_ratio.2.1 67 = .ok (.getfield 200, 3) := by decide +kernel
theorem dX11_ratio_70 : decode mX11_ratio.2.1 70 = .ok (.iload_n 2, 1) := by decide +kernel
theorem dX11_ratio_71 : decode mX11_ratio.2.1 71 = .ok (.iaload, 1) := by decide +kernel
theorem dX11_ratio_72 : decode mX11_ratio.2.1 72 = .ok (.iconst 2, 1) := by decide +kernel
theorem dX11_ratio_73 : decode mX11_ratio.2.1 73 = .ok (.if_icmp .ne 7, 3) := by decide +kernel
theorem dX11_ratio_76 : decode mX11_ratio.2.1 76 = .ok (.lconst 0, 1) := by decide +kernel
theorem dX11_ratio_77 : decode mX11_ratio.2.1 77 = .ok (.goto 22, 3) := by decide +kernel
theorem dX11_ratio_80 : decode mX11_ratio.2.1 80 = .ok (.iload_n 3, 1) := by decide +kernel
theorem dX11_ratio_81 : decode mX11_ratio.2.1 81 = .ok (.ifCond .ne 12, 3) := by decide +kernel
theorem dX11_ratio_84 : decode mX11_ratio.2.1 84 = .ok (.aload_n 0, 1) := by decide +kernel
theorem dX11_ratio_85 : decode mX11_ratio.2.1 85 = .ok (.getfield 194, 3) := by decide +kernel
theorem dX11_ratio_88 : decode mX11_ratio.2.1 88 = .ok (.iload_n 2, 1) := by decide +kernel
theorem dX11_ratio_89 : decode mX11_ratio.2.1 89 = .ok (.laload, 1) := by decide +kernel
theorem dX11_ratio_90 : decode mX11_ratio.2.1 90 = .ok (.goto 9, 3) := by decide +kernel
theorem dX11_ratio_93 : decode mX11_ratio.2.1 93 = .ok (.aload_n 0, 1) := by decide +kernel
theorem dX11_ratio_94 : decode mX11_ratio.2.1 94 = .ok (.getfield 197, 3) := by decide +kernel
theorem dX11_ratio_97 : decode mX11_ratio.2.1 97 = .ok (.iload_n 2, 1) := by decide +kernel
theorem dX11_ratio_98 : decode mX11_ratio.2.1 98 = .ok (.laload, 1) := by decide +kernel
theorem dX11_ratio_99 : decode mX11_ratio.2.1 99 = .ok (.lreturn, 1) := by decide +kernel
theorem okX11_ratio_220 : gOkS mX11_ratio mX11_in 220 3 := ⟨List.forall_mem_cons.mpr ⟨(gm 1539 (by decide +kernel) rfl), List.forall_mem_cons.mpr ⟨(gm 1537 (by decide +kernel) rfl), List.forall_mem_cons.mpr ⟨(gm 1538 (by decide +kernel) rfl), List.forall_mem_cons.mpr ⟨(gm 122 (by decide +kernel) rfl), fun _ h => absurd h List.not_mem_nil⟩⟩⟩⟩, by decide +kernel, by decide +kernel, by decide +kernel⟩
theorem okX11_ratio_539 : gOkV mX11_ratio mX11_findRatios 539 1 := ⟨List.forall_mem_cons.mpr ⟨(gm 1823 (by decide +kernel) rfl), List.forall_mem_cons.mpr ⟨(gm 1820 (by decide +kernel) rfl), List.forall_mem_cons.mpr ⟨(gm 1822 (by decide +kernel) rfl), List.forall_mem_cons.mpr ⟨(gm 97 (by decide +kernel) rfl), List.forall_mem_cons.mpr ⟨(gm 122 (by decide +kernel) rfl), fun _ h => absurd h List.not_mem_nil⟩⟩⟩⟩⟩, by decide +kernel, by decide +kernel, by decide +kernel⟩
def fX11_ratio_42 (p1 : Int32) (p2 : Int32) (p3 : Int32) (σ : gS) : Option (Int64 × gS) :=
  some ((-1000001), σ)
set_option maxHeartbeats 4000000 in
set_option maxRecDepth 100000 in
theorem pX11_ratio_42 {E : gE} {p1 : Int32} {p2 : Int32} {p3 : Int32} {r : Int64} {σ' : gS} {σ : gS} (h : fX11_ratio_42 p1 p2 p3 σ = some (r, σ')) : gG E mX11_ratio 42 [] [] σ (some (.long r)) σ' := by
  unfold fX11_ratio_42 at h
  refine g_ldc2 (v := (-1000001)) dX11_ratio_42 wl_RX11_510 ?_
  obtain ⟨rfl, rfl⟩ := so_inj h
  exact g_lret dX11_ratio_45 rfl
def fX11_ratio_99 (p1 : Int32) (p2 : Int32) (p3 : Int32) (s0 : Int64) (σ : gS) : Option (Int64 × gS) :=
  some (s0, σ)
set_option maxHeartbeats 4000000 in
set_option maxRecDepth 100000 in
theorem pX11_ratio_99 {E : gE} {p1 : Int32} {p2 : Int32} {p3 : Int32} {r : Int64} {σ' : gS} {s0 : Int64} {σ : gS} (h : fX11_ratio_99 p1 p2 p3 s0 σ = some (r, σ')) : gG E mX11_ratio 99 [] [.long s0] σ (some (.long r)) σ' := by
  unfold fX11_ratio_99 at h
  obtain ⟨rfl, rfl⟩ := so_inj h
  exact g_lret dX11_ratio_99 rfl
def fX11_ratio (p1 : Int32) (p2 : Int32) (p3 : Int32) (σ : gS) : Option (Int64 × gS) :=
  bd (fX11_in p1.toInt64 0 (((σ.1 168 5) - 1).toInt64) σ) fun x1 σ2 =>
  if x1 = 0 then
    fX11_ratio_42 p1 p2 p3 σ2
  else
    bd (fX11_in p2.toInt64 0 (((σ2.1 168 5) - 1).toInt64) σ2) fun x5 σ6 =>
    if x5 = 0 then
      fX11_ratio_42 p1 p2 p3 σ6
    else
      bd (fX11_in p3.toInt64 0 1 σ6) fun x9 σ10 =>
      if x9 = 0 then
        fX11_ratio_42 p1 p2 p3 σ10
      else
        bd (fX11_findRatios p1 σ10) fun _ σ13 =>
        gg (¬ (p2 < 0 ∨ 16 ≤ p2.toNatClampNeg)) (
        if (σ13.1 227 p2.toNatClampNeg) = 0 then
          fX11_ratio_99 p1 p2 p3 (-1000000) σ13
        else
          gg (¬ (p2 < 0 ∨ 16 ≤ p2.toNatClampNeg)) (
          if (σ13.1 227 p2.toNatClampNeg) = 2 then
            fX11_ratio_99 p1 p2 p3 0 σ13
          else
            if p3 = 0 then
              gg (¬ (p2 < 0 ∨ 16 ≤ p2.toNatClampNeg)) (
              fX11_ratio_99 p1 p2 p3 (σ13.2.1 225 p2.toNatClampNeg) σ13)
            else
              gg (¬ (p2 < 0 ∨ 16 ≤ p2.toNatClampNeg)) (
              fX11_ratio_99 p1 p2 p3 (σ13.2.1 226 p2.toNatClampNeg) σ13)))
set_option maxHeartbeats 4000000 in
set_option maxRecDepth 100000 in
theorem pX11_ratio {E : gE} {p1 : Int32} {p2 : Int32} {p3 : Int32} {r : Int64} {σ' : gS} {σ : gS} (h : fX11_ratio p1 p2 p3 σ = some (r, σ')) : gG E mX11_ratio 0 [(0, .ref 168), (1, .int p1), (2, .int p2), (3, .int p3)] [] σ (some (.long r)) σ' := by
  unfold fX11_ratio at h
  refine g_iload_n dX11_ratio_0 rfl 1 rfl ?_
  refine g_i2l dX11_ratio_1 ?_
  refine g_lconst (v := 0) dX11_ratio_2 (by decide) ?_
  refine g_aload_n dX11_ratio_3 rfl 0 rfl ?_
  refine g_getI dX11_ratio_4 gi_168 rfl fl_RX11_377 ?_
  refine g_iconst (v := 1) dX11_ratio_7 (by decide) ?_
  refine g_isub dX11_ratio_8 ?_
  refine g_i2l dX11_ratio_9 ?_
  obtain ⟨x1, σ2, y3, h⟩ := bd_some h
  refine g_callSr (as := [.long p1.toInt64, .long 0, .long (((σ.1 168 5) - 1).toInt64)]) (st := []) (zX11_in y3) dX11_ratio_10 okX11_ratio_220 (Nat.le_of_ble_eq_true rfl) ?_
  refine g_if_eq (t := 42) dX11_ratio_13 (by decide) (fun c4 => ?_) (fun c4 => ?_)
  · replace h := if_t h c4
    refine g_sub [] rfl ?_
    exact pX11_ratio_42 h
  · replace h := if_f h c4
    refine g_iload_n dX11_ratio_16 rfl 2 rfl ?_
    refine g_i2l dX11_ratio_17 ?_
    refine g_lconst (v := 0) dX11_ratio_18 (by decide) ?_
    refine g_aload_n dX11_ratio_19 rfl 0 rfl ?_
    refine g_getI dX11_ratio_20 gi_168 rfl fl_RX11_377 ?_
    refine g_iconst (v := 1) dX11_ratio_23 (by decide) ?_
    refine g_isub dX11_ratio_24 ?_
    refine g_i2l dX11_ratio_25 ?_
    obtain ⟨x5, σ6, y7, h⟩ := bd_some h
    refine g_callSr (as := [.long p2.toInt64, .long 0, .long (((σ2.1 168 5) - 1).toInt64)]) (st := []) (zX11_in y7) dX11_ratio_26 okX11_ratio_220 (Nat.le_of_ble_eq_true rfl) ?_
    refine g_if_eq (t := 42) dX11_ratio_29 (by decide) (fun c8 => ?_) (fun c8 => ?_)
    · replace h := if_t h c8
      refine g_sub [] rfl ?_
      exact pX11_ratio_42 h
    · replace h := if_f h c8
      refine g_iload_n dX11_ratio_32 rfl 3 rfl ?_
      refine g_i2l dX11_ratio_33 ?_
      refine g_lconst (v := 0) dX11_ratio_34 (by decide) ?_
      refine g_lconst (v := 1) dX11_ratio_35 (by decide) ?_
      obtain ⟨x9, σ10, y11, h⟩ := bd_some h
      refine g_callSr (as := [.long p3.toInt64, .long 0, .long 1]) (st := []) (zX11_in y11) dX11_ratio_36 okX11_ratio_220 (Nat.le_of_ble_eq_true rfl) ?_
      refine g_if_ne (t := 46) dX11_ratio_39 (by decide) (fun c12 => ?_) (fun c12 => ?_)
      · replace h := if_f h c12
        refine g_aload_n dX11_ratio_46 rfl 0 rfl ?_
        refine g_iload_n dX11_ratio_47 rfl 1 rfl ?_
        obtain ⟨_, σ13, y14, h⟩ := bd_some h
        refine g_callVv (as := [.int p1]) (st := []) (zX11_findRatios y14) dX11_ratio_48 gi_168 rfl okX11_ratio_539 (Nat.le_of_ble_eq_true rfl) ?_
        refine g_aload_n dX11_ratio_51 rfl 0 rfl ?_
        refine g_getC (n := 227) dX11_ratio_52 gi_168 rfl fl_RX11_200 ?_
        refine g_iload_n dX11_ratio_55 rfl 2 rfl ?_
        obtain ⟨g15, h⟩ := gg_some h
        refine g_iald dX11_ratio_56 gi_227 g15 ?_
        refine g_if_ne (t := 66) dX11_ratio_57 (by decide) (fun c16 => ?_) (fun c16 => ?_)
        · replace h := if_f h c16
          refine g_aload_n dX11_ratio_66 rfl 0 rfl ?_
          refine g_getC (n := 227) dX11_ratio_67 gi_168 rfl fl_RX11_200 ?_
          refine g_iload_n dX11_ratio_70 rfl 2 rfl ?_
          obtain ⟨g17, h⟩ := gg_some h
          refine g_iald dX11_ratio_71 gi_227 g17 ?_
          refine g_iconst (v := 2) dX11_ratio_72 (by decide) ?_
          refine g_icmp_ne (t := 80) dX11_ratio_73 (by decide) (fun c18 => ?_) (fun c18 => ?_)
          · replace h := if_f h c18
            refine g_iload_n dX11_ratio_80 rfl 3 rfl ?_
            refine g_if_ne (t := 93) dX11_ratio_81 (by decide) (fun c19 => ?_) (fun c19 => ?_)
            · replace h := if_f h c19
              refine g_aload_n dX11_ratio_93 rfl 0 rfl ?_
              refine g_getC (n := 226) dX11_ratio_94 gi_168 rfl fl_RX11_197 ?_
              refine g_iload_n dX11_ratio_97 rfl 2 rfl ?_
              obtain ⟨g20, h⟩ := gg_some h
              refine g_lald dX11_ratio_98 gi_226 g20 ?_
              refine g_sub [] rfl ?_
              exact pX11_ratio_99 h
            · replace h := if_t h c19
              refine g_aload_n dX11_ratio_84 rfl 0 rfl ?_
              refine g_getC (n := 225) dX11_ratio_85 gi_168 rfl fl_RX11_194 ?_
              refine g_iload_n dX11_ratio_88 rfl 2 rfl ?_
              obtain ⟨g21, h⟩ := gg_some h
              refine g_lald dX11_ratio_89 gi_225 g21 ?_
              refine g_goto (t := 99) dX11_ratio_90 (by decide) ?_
              refine g_sub [] rfl ?_
              exact pX11_ratio_99 h
          · replace h := if_t h c18
            refine g_lconst (v := 0) dX11_ratio_76 (by decide) ?_
            refine g_goto (t := 99) dX11_ratio_77 (by decide) ?_
            refine g_sub [] rfl ?_
            exact pX11_ratio_99 h
        · replace h := if_t h c16
          refine g_ldc2 (v := (-1000000)) dX11_ratio_60 wl_RX11_514 ?_
          refine g_goto (t := 99) dX11_ratio_63 (by decide) ?_
          refine g_sub [] rfl ?_
          exact pX11_ratio_99 h
      · replace h := if_t h c12
        refine g_sub [] rfl ?_
        exact pX11_ratio_42 h
theorem zX11_ratio {E : gE} {p1 : Int32} {p2 : Int32} {p3 : Int32} {r : Int64} {σ σ' : gS} (h : fX11_ratio p1 p2 p3 σ = some (r, σ')) : gC E mX11_ratio [.ref 168, .int p1, .int p2, .int p3] σ (some (.long r)) σ' :=
  gC_of (by decide +kernel) rfl (Nat.le_of_ble_eq_true rfl) (pX11_ratio h)
def mX11_lock : gM := (yX11_lock, cX11_lock, RX11, 5, (some .int), 3, 86)
theorem dX11_lock_0 : decode mX11_lock.2.1 0 = .ok (.iconst 0, 1) := by decide +kernel
theorem dX11_lock_1 : decode mX11_lock.2.1 1 = .ok (.istore_n 1, 1) := by decide +kernel
theorem dX11_lock_2 : decode mX11_lock.2.1 2 = .ok (.iload_n 1, 1) := by decide +kernel
theorem dX11_lock_3 : decode mX11_lock.2.1 3 = .ok (.aload_n 0, 1) := by decide +kernel
theorem dX11_lock_4 : decode mX11_lock.2.1 4 = .ok (.getfield 383, 3) := by decide +kernel
theorem dX11_lock_7 : decode mX11_lock.2.1 7 = .ok (.if_icmp .ge 112, 3) := by decide +kernel
theorem dX11_lock_10 : decode mX11_lock.2.1 10 = .ok (.aload_n 0, 1) := by decide +kernel
theorem dX11_lock_11 : decode mX11_lock.2.1 11 = .ok (.getfield 42, 3) := by decide +kernel
theorem dX11_lock_14 : decode mX11_lock.2.1 14 = .ok (.iload_n 1, 1) := by decide +kernel
theorem dX11_lock_15 : decode mX11_lock.2.1 15 = .ok (.iaload, 1) := by decide +kernel
theorem dX11_lock_16 : decode mX11_lock.2.1 16 = .ok (.istore_n 2, 1) := by decide +kernel
theorem dX11_lock_17 : decode mX11_lock.2.1 17 = .ok (.iconst 0, 1) := by decide +kernel
theorem dX11_lock_18 : decode mX11_lock.2.1 18 = .ok (.istore_n 3, 1) := by decide +kernel
theorem dX11_lock_19 : decode mX11_lock.2.1 19 = .ok (.aload_n 0, 1) := by decide +kernel
theorem dX11_lock_20 : decode mX11_lock.2.1 20 = .ok (.iload_n 3, 1) := by decide +kernel
theorem dX11_lock_21 : decode mX11_lock.2.1 21 = .ok (.invokevirtual 539, 3) := by decide +kernel
theorem dX11_lock_24 : decode mX11_lock.2.1 24 = .ok (.aload_n 0, 1) := by decide +kernel
theorem dX11_lock_25 : decode mX11_lock.2.1 25 = .ok (.getfield 200, 3) := by decide +kernel
theorem dX11_lock_28 : decode mX11_lock.2.1 28 = .ok (.iload_n 2, 1) := by decide +kernel
theorem dX11_lock_29 : decode mX11_lock.2.1 29 = .ok (.iaload, 1) := by decide +kernel
theorem dX11_lock_30 : decode mX11_lock.2.1 30 = .ok (.ifCond .ne 14, 3) := by decide +kernel
theorem dX11_lock_33 : decode mX11_lock.2.1 33 = .ok (.iinc 3 1, 3) := by decide +kernel
theorem dX11_lock_36 : decode mX11_lock.2.1 36 = .ok (.aload_n 0, 1) := by decide +kernel
theorem dX11_lock_37 : decode mX11_lock.2.1 37 = .ok (.iload_n 3, 1) := by decide +kernel
theorem dX11_lock_38 : decode mX11_lock.2.1 38 = .ok (.invokevirtual 539, 3) := by decide +kernel
theorem dX11_lock_41 : decode mX11_lock.2.1 41 = .ok (.goto (-17), 3) := by decide +kernel
theorem dX11_lock_44 : decode mX11_lock.2.1 44 = .ok (.aload_n 0, 1) := by decide +kernel
theorem dX11_lock_45 : decode mX11_lock.2.1 45 = .ok (.getfield 45, 3) := by decide +kernel
theorem dX11_lock_48 : decode mX11_lock.2.1 48 = .ok (.iload_n 1, 1) := by decide +kernel
theorem dX11_lock_49 : decode mX11_lock.2.1 49 = .ok (.iaload, 1) := by decide +kernel
theorem dX11_lock_50 : decode mX11_lock.2.1 50 = .ok (.istore 4, 2) := by decide +kernel
theorem dX11_lock_52 : decode mX11_lock.2.1 52 = .ok (.aload_n 0, 1) := by decide +kernel
theorem dX11_lock_53 : decode mX11_lock.2.1 53 = .ok (.getfield 200, 3) := by decide +kernel
theorem dX11_lock_56 : decode mX11_lock.2.1 56 = .ok (.iload_n 2, 1) := by decide +kernel
theorem dX11_lock_57 : decode mX11_lock.2.1 57 = .ok (.iaload, 1) := by decide +kernel
theorem dX11_lock_58 : decode mX11_lock.2.1 58 = .ok (.iconst 1, 1) := by decide +kernel
theorem dX11_lock_59 : decode mX11_lock.2.1 59 = .ok (.if_icmp .ne 54, 3) := by decide +kernel
theorem dX11_lock_62 : decode mX11_lock.2.1 62 = .ok (.aload_n 0, 1) := by decide +kernel
theorem dX11_lock_63 : decode mX11_lock.2.1 63 = .ok (.getfield 200, 3) := by decide +kernel
theorem dX11_lock_66 : decode mX11_lock.2.1 66 = .ok (.iload 4, 2) := by decide +kernel
theorem dX11_lock_68 : decode mX11_lock.2.1 68 = .ok (.iaload, 1) := by decide +kernel
theorem dX11_lock_69 : decode mX11_lock.2.1 69 = .ok (.iconst 1, 1) := by decide +kernel
theorem dX11_lock_70 : decode mX11_lock.2.1 70 = .ok (.if_icmp .ne 43, 3) := by decide +kernel
theorem dX11_lock_73 : decode mX11_lock.2.1 73 = .ok (.aload_n 0, 1) := by decide +kernel
theorem dX11_lock_74 : decode mX11_lock.2.1 74 = .ok (.iload_n 1, 1) := by decide +kernel
theorem dX11_lock_75 : decode mX11_lock.2.1 75 = .ok (.iload_n 2, 1) := by decide +kernel
theorem dX11_lock_76 : decode mX11_lock.2.1 76 = .ok (.iload 4, 2) := by decide +kernel
theorem dX11_lock_78 : decode mX11_lock.2.1 78 = .ok (.invokevirtual 531, 3) := by decide +kernel
theorem dX11_lock_81 : decode mX11_lock.2.1 81 = .ok (.aload_n 0, 1) := by decide +kernel
theorem dX11_lock_82 : decode mX11_lock.2.1 82 = .ok (.getfield 525, 3) := by decide +kernel
theorem dX11_lock_85 : decode mX11_lock.2.1 85 = .ok (.aload_n 0, 1) := by decide +kernel
theorem dX11_lock_86 : decode mX11_lock.2.1 86 = .ok (.getfield 194, 3) := by decide +kernel
theorem dX11_lock_89 : decode mX11_lock.2.1 89 = .ok (.iload 4, 2) := by decide +kernel
theorem dX11_lock_91 : decode mX11_lock.2.1 91 = .ok (.laload, 1) := by decide +kernel
theorem dX11_lock_92 : decode mX11_lock.2.1 92 = .ok (.lcmp, 1) := by decide +kernel
theorem dX11_lock_93 : decode mX11_lock.2.1 93 = .ok (.ifCond .ne 18, 3) := by decide +kernel
theorem dX11_lock_96 : decode mX11_lock.2.1 96 = .ok (.aload_n 0, 1) := by decide +kernel
theorem dX11_lock_97 : decode mX11_lock.2.1 97 = .ok (.getfield 528, 3) := by decide +kernel
theorem dX11_lock_100 : decode mX11_lock.2.1 100 = .ok (.aload_n 0, 1) := by decide +kernel
theorem dX11_lock_101 : decode mX11_lock.2.1 101 = .ok (.getfield 197, 3) := by decide +kernel
theorem dX11_lock_104 : decode mX11_lock.2.1 104 = .ok (.iload 4, 2) := by decide +kernel
theorem dX11_lock_106 : decode mX11_lock.2.1 106 = .ok (.laload, 1) := by decide +kernel
theorem dX11_lock_107 : decode mX11_lock.2.1 107 = .ok (.lcmp, 1) := by decide +kernel
theorem dX11_lock_108 : decode mX11_lock.2.1 108 = .ok (.ifCond .eq 5, 3) := by decide +kernel
theorem dX11_lock_111 : decode mX11_lock.2.1 111 = .ok (.iload_n 1, 1) := by decide +kernel
theorem dX11_lock_112 : decode mX11_lock.2.1 112 = .ok (.ireturn, 1) := by decide +kernel
theorem dX11_lock_113 : decode mX11_lock.2.1 113 = .ok (.iinc 1 1, 3) := by decide +kernel
theorem dX11_lock_116 : decode mX11_lock.2.1 116 = .ok (.goto (-114), 3) := by decide +kernel
theorem dX11_lock_119 : decode mX11_lock.2.1 119 = .ok (.ldc 106, 2) := by decide +kernel
theorem dX11_lock_121 : decode mX11_lock.2.1 121 = .ok (.ireturn, 1) := by decide +kernel
theorem okX11_lock_531 : gOkV mX11_lock mX11_ratioBy 531 3 := ⟨List.forall_mem_cons.mpr ⟨(gm 1827 (by decide +kernel) rfl), List.forall_mem_cons.mpr ⟨(gm 1824 (by decide +kernel) rfl), List.forall_mem_cons.mpr ⟨(gm 1826 (by decide +kernel) rfl), List.forall_mem_cons.mpr ⟨(gm 98 (by decide +kernel) rfl), List.forall_mem_cons.mpr ⟨(gm 122 (by decide +kernel) rfl), fun _ h => absurd h List.not_mem_nil⟩⟩⟩⟩⟩, by decide +kernel, by decide +kernel, by decide +kernel⟩
theorem okX11_lock_539 : gOkV mX11_lock mX11_findRatios 539 1 := ⟨List.forall_mem_cons.mpr ⟨(gm 1823 (by decide +kernel) rfl), List.forall_mem_cons.mpr ⟨(gm 1820 (by decide +kernel) rfl), List.forall_mem_cons.mpr ⟨(gm 1822 (by decide +kernel) rfl), List.forall_mem_cons.mpr ⟨(gm 97 (by decide +kernel) rfl), List.forall_mem_cons.mpr ⟨(gm 122 (by decide +kernel) rfl), fun _ h => absurd h List.not_mem_nil⟩⟩⟩⟩⟩, by decide +kernel, by decide +kernel, by decide +kernel⟩
def fX11_lock_111 (v1 : Int32) (σ : gS) : Option (Int32 × gS) :=
  some (v1, σ)
set_option maxHeartbeats 4000000 in
set_option maxRecDepth 100000 in
theorem pX11_lock_111 {E : gE} {r : Int32} {σ' : gS} {v1 : Int32} {σ : gS} (h : fX11_lock_111 v1 σ = some (r, σ')) : gG E mX11_lock 111 [(1, .int v1)] [] σ (some (.int r)) σ' := by
  unfold fX11_lock_111 at h
  refine g_iload_n dX11_lock_111 rfl 0 rfl ?_
  obtain ⟨rfl, rfl⟩ := so_inj h
  exact g_iret dX11_lock_112 rfl
def fX11_lock_113 (k2 : Int32 → gS → Option (Int32 × gS)) (v1 : Int32) (σ : gS) : Option (Int32 × gS) :=
  bnd (v1 + 1) fun x1 =>
  k2 x1 σ
set_option maxHeartbeats 4000000 in
set_option maxRecDepth 100000 in
theorem pX11_lock_113 {E : gE} {k2 : Int32 → gS → Option (Int32 × gS)} {r : Int32} {σ' : gS} {v1 : Int32} {σ : gS} (hk2 : ∀ (v1 : Int32) (σ : gS), k2 v1 σ = some (r, σ') → gG E mX11_lock 2 [(0, .ref 168), (1, .int v1)] [] σ (some (.int r)) σ') (h : fX11_lock_113 k2 v1 σ = some (r, σ')) : gG E mX11_lock 113 [(0, .ref 168), (1, .int v1)] [] σ (some (.int r)) σ' := by
  unfold fX11_lock_113 at h
  obtain ⟨x1, ex1, h⟩ := bnd_nm h
  refine g_iinc (j := 1) (v := x1) (lv' := [(1, .int x1), (0, .ref 168)]) dX11_lock_113 rfl (by rw [ex1]; rfl) (Nat.le_of_ble_eq_true rfl) rfl ?_
  refine g_goto (t := 2) dX11_lock_116 (by decide) ?_
  refine g_sub [1, 0] rfl ?_
  exact hk2 x1 σ h
def fX11_lock_24 (k2 : Int32 → gS → Option (Int32 × gS)) : Nat → Int32 → Int32 → Int32 → gS → Option (Int32 × gS)
  | 0, _, _, _, _ => none
  | n + 1, v1, v2, v3, σ => gg (¬ (v2 < 0 ∨ 16 ≤ v2.toNatClampNeg)) (
  if (σ.1 227 v2.toNatClampNeg) = 0 then
    bnd (v3 + 1) fun x14 =>
    bd (fX11_findRatios x14 σ) fun _ σ15 =>
    fX11_lock_24 k2 n v1 v2 x14 σ15
  else
    gg (¬ (v1 < 0 ∨ 30 ≤ v1.toNatClampNeg)) (
    gg (¬ (v2 < 0 ∨ 16 ≤ v2.toNatClampNeg)) (
    if (σ.1 227 v2.toNatClampNeg) = 1 then
      gg (¬ (σ.1 180 v1.toNatClampNeg < 0 ∨ 16 ≤ (σ.1 180 v1.toNatClampNeg).toNatClampNeg)) (
      if (σ.1 227 ((σ.1 180 v1.toNatClampNeg).toNatClampNeg)) = 1 then
        bd (fX11_ratioBy v1 v2 (σ.1 180 v1.toNatClampNeg) σ) fun _ σ8 =>
        gg (¬ (σ.1 180 v1.toNatClampNeg < 0 ∨ 16 ≤ (σ.1 180 v1.toNatClampNeg).toNatClampNeg)) (
        if (lg_cmp (σ8.2.1 168 92) (σ8.2.1 225 ((σ.1 180 v1.toNatClampNeg).toNatClampNeg))) = 0 then
          gg (¬ (σ.1 180 v1.toNatClampNeg < 0 ∨ 16 ≤ (σ.1 180 v1.toNatClampNeg).toNatClampNeg)) (
          if (lg_cmp (σ8.2.1 168 93) (σ8.2.1 226 ((σ.1 180 v1.toNatClampNeg).toNatClampNeg))) = 0 then
            fX11_lock_113 k2 v1 σ8
          else
            fX11_lock_111 v1 σ8)
        else
          fX11_lock_111 v1 σ8)
      else
        fX11_lock_113 k2 v1 σ)
    else
      fX11_lock_113 k2 v1 σ)))
set_option maxHeartbeats 4000000 in
set_option maxRecDepth 100000 in
theorem pX11_lock_24 {E : gE} {k2 : Int32 → gS → Option (Int32 × gS)} {r : Int32} {σ' : gS} (hk2 : ∀ (v1 : Int32) (σ : gS), k2 v1 σ = some (r, σ') → gG E mX11_lock 2 [(0, .ref 168), (1, .int v1)] [] σ (some (.int r)) σ') : ∀ (n : Nat) (v1 : Int32) (v2 : Int32) (v3 : Int32) (σ : gS), fX11_lock_24 k2 n v1 v2 v3 σ = some (r, σ') → gG E mX11_lock 24 [(0, .ref 168), (1, .int v1), (2, .int v2), (3, .int v3)] [] σ (some (.int r)) σ' := by
  intro n
  induction n with
  | zero => intro v1 v2 v3 σ h; exact absurd (show none = some (r, σ') from h) (by intro q; cases q)
  | succ n ih =>
  intro v1 v2 v3 σ h
  unfold fX11_lock_24 at h
  refine g_aload_n dX11_lock_24 rfl 0 rfl ?_
  refine g_getC (n := 227) dX11_lock_25 gi_168 rfl fl_RX11_200 ?_
  refine g_iload_n dX11_lock_28 rfl 2 rfl ?_
  obtain ⟨g1, h⟩ := gg_some h
  refine g_iald dX11_lock_29 gi_227 g1 ?_
  refine g_if_ne (t := 44) dX11_lock_30 (by decide) (fun c2 => ?_) (fun c2 => ?_)
  · replace h := if_f h c2
    refine g_aload_n dX11_lock_44 rfl 0 rfl ?_
    refine g_getC (n := 180) dX11_lock_45 gi_168 rfl fl_RX11_45 ?_
    refine g_iload_n dX11_lock_48 rfl 1 rfl ?_
    obtain ⟨g3, h⟩ := gg_some h
    refine g_iald dX11_lock_49 gi_180 g3 ?_
    refine g_istore (lv' := [(4, .int (σ.1 180 v1.toNatClampNeg)), (0, .ref 168), (1, .int v1), (2, .int v2), (3, .int v3)]) dX11_lock_50 (Nat.le_of_ble_eq_true rfl) rfl ?_
    refine g_aload_n dX11_lock_52 rfl 1 rfl ?_
    refine g_getC (n := 227) dX11_lock_53 gi_168 rfl fl_RX11_200 ?_
    refine g_iload_n dX11_lock_56 rfl 3 rfl ?_
    obtain ⟨g4, h⟩ := gg_some h
    refine g_iald dX11_lock_57 gi_227 g4 ?_
    refine g_iconst (v := 1) dX11_lock_58 (by decide) ?_
    refine g_icmp_ne (t := 113) dX11_lock_59 (by decide) (fun c5 => ?_) (fun c5 => ?_)
    · replace h := if_f h c5
      refine g_sub [1, 2] rfl ?_
      exact pX11_lock_113 hk2 h
    · replace h := if_t h c5
      refine g_aload_n dX11_lock_62 rfl 1 rfl ?_
      refine g_getC (n := 227) dX11_lock_63 gi_168 rfl fl_RX11_200 ?_
      refine g_iload dX11_lock_66 0 rfl ?_
      obtain ⟨g6, h⟩ := gg_some h
      refine g_iald dX11_lock_68 gi_227 g6 ?_
      refine g_iconst (v := 1) dX11_lock_69 (by decide) ?_
      refine g_icmp_ne (t := 113) dX11_lock_70 (by decide) (fun c7 => ?_) (fun c7 => ?_)
      · replace h := if_f h c7
        refine g_sub [1, 2] rfl ?_
        exact pX11_lock_113 hk2 h
      · replace h := if_t h c7
        refine g_aload_n dX11_lock_73 rfl 1 rfl ?_
        refine g_iload_n dX11_lock_74 rfl 2 rfl ?_
        refine g_iload_n dX11_lock_75 rfl 3 rfl ?_
        refine g_iload dX11_lock_76 0 rfl ?_
        obtain ⟨_, σ8, y9, h⟩ := bd_some h
        refine g_callVv (as := [.int v1, .int v2, .int (σ.1 180 v1.toNatClampNeg)]) (st := []) (zX11_ratioBy y9) dX11_lock_78 gi_168 rfl okX11_lock_531 (Nat.le_of_ble_eq_true rfl) ?_
        refine g_aload_n dX11_lock_81 rfl 1 rfl ?_
        refine g_getJ dX11_lock_82 gi_168 rfl fl_RX11_525 ?_
        refine g_aload_n dX11_lock_85 rfl 1 rfl ?_
        refine g_getC (n := 225) dX11_lock_86 gi_168 rfl fl_RX11_194 ?_
        refine g_iload dX11_lock_89 0 rfl ?_
        obtain ⟨g10, h⟩ := gg_some h
        refine g_lald dX11_lock_91 gi_225 g10 ?_
        refine g_lcmp dX11_lock_92 ?_
        refine g_if_ne (t := 111) dX11_lock_93 (by decide) (fun c11 => ?_) (fun c11 => ?_)
        · replace h := if_f h c11
          refine g_sub [2] rfl ?_
          exact pX11_lock_111 h
        · replace h := if_t h c11
          refine g_aload_n dX11_lock_96 rfl 1 rfl ?_
          refine g_getJ dX11_lock_97 gi_168 rfl fl_RX11_528 ?_
          refine g_aload_n dX11_lock_100 rfl 1 rfl ?_
          refine g_getC (n := 226) dX11_lock_101 gi_168 rfl fl_RX11_197 ?_
          refine g_iload dX11_lock_104 0 rfl ?_
          obtain ⟨g12, h⟩ := gg_some h
          refine g_lald dX11_lock_106 gi_226 g12 ?_
          refine g_lcmp dX11_lock_107 ?_
          refine g_if_eq (t := 113) dX11_lock_108 (by decide) (fun c13 => ?_) (fun c13 => ?_)
          · replace h := if_t h c13
            refine g_sub [1, 2] rfl ?_
            exact pX11_lock_113 hk2 h
          · replace h := if_f h c13
            refine g_sub [2] rfl ?_
            exact pX11_lock_111 h
  · replace h := if_t h c2
    obtain ⟨x14, ex14, h⟩ := bnd_nm h
    refine g_iinc (j := 3) (v := x14) (lv' := [(3, .int x14), (0, .ref 168), (1, .int v1), (2, .int v2)]) dX11_lock_33 rfl (by rw [ex14]; rfl) (Nat.le_of_ble_eq_true rfl) rfl ?_
    refine g_aload_n dX11_lock_36 rfl 1 rfl ?_
    refine g_iload_n dX11_lock_37 rfl 0 rfl ?_
    obtain ⟨_, σ15, y16, h⟩ := bd_some h
    refine g_callVv (as := [.int x14]) (st := []) (zX11_findRatios y16) dX11_lock_38 gi_168 rfl okX11_lock_539 (Nat.le_of_ble_eq_true rfl) ?_
    refine g_goto (t := 24) dX11_lock_41 (by decide) ?_
    refine g_sub [1, 2, 3, 0] rfl ?_
    exact ih v1 v2 x14 σ15 h
def fX11_lock_2 : Nat → Int32 → gS → Option (Int32 × gS)
  | 0, _, _ => none
  | n + 1, v1, σ => if (σ.1 168 12) ≤ v1 then
    some ((-1000000), σ)
  else
    gg (¬ (v1 < 0 ∨ 30 ≤ v1.toNatClampNeg)) (
    bd (fX11_findRatios 0 σ) fun _ σ3 =>
    fX11_lock_24 (fun v1 σ => fX11_lock_2 n v1 σ) 2000 v1 (σ.1 179 v1.toNatClampNeg) 0 σ3)
set_option maxHeartbeats 4000000 in
set_option maxRecDepth 100000 in
theorem pX11_lock_2 {E : gE} {r : Int32} {σ' : gS} : ∀ (n : Nat) (v1 : Int32) (σ : gS), fX11_lock_2 n v1 σ = some (r, σ') → gG E mX11_lock 2 [(0, .ref 168), (1, .int v1)] [] σ (some (.int r)) σ' := by
  intro n
  induction n with
  | zero => intro v1 σ h; exact absurd (show none = some (r, σ') from h) (by intro q; cases q)
  | succ n ih =>
  intro v1 σ h
  unfold fX11_lock_2 at h
  refine g_iload_n dX11_lock_2 rfl 1 rfl ?_
  refine g_aload_n dX11_lock_3 rfl 0 rfl ?_
  refine g_getI dX11_lock_4 gi_168 rfl fl_RX11_383 ?_
  refine g_icmp_ge (t := 119) dX11_lock_7 (by decide) (fun c1 => ?_) (fun c1 => ?_)
  · replace h := if_t h c1
    refine g_ldc (v := (-1000000)) dX11_lock_119 wc_RX11_106 ?_
    obtain ⟨rfl, rfl⟩ := so_inj h
    exact g_iret dX11_lock_121 rfl
  · replace h := if_f h c1
    refine g_aload_n dX11_lock_10 rfl 0 rfl ?_
    refine g_getC (n := 179) dX11_lock_11 gi_168 rfl fl_RX11_42 ?_
    refine g_iload_n dX11_lock_14 rfl 1 rfl ?_
    obtain ⟨g2, h⟩ := gg_some h
    refine g_iald dX11_lock_15 gi_179 g2 ?_
    refine g_istore_n (lv' := [(2, .int (σ.1 179 v1.toNatClampNeg)), (0, .ref 168), (1, .int v1)]) dX11_lock_16 rfl (Nat.le_of_ble_eq_true rfl) rfl ?_
    refine g_iconst (v := 0) dX11_lock_17 (by decide) ?_
    refine g_istore_n (lv' := [(3, .int 0), (2, .int (σ.1 179 v1.toNatClampNeg)), (0, .ref 168), (1, .int v1)]) dX11_lock_18 rfl (Nat.le_of_ble_eq_true rfl) rfl ?_
    refine g_aload_n dX11_lock_19 rfl 2 rfl ?_
    refine g_iload_n dX11_lock_20 rfl 0 rfl ?_
    obtain ⟨_, σ3, y4, h⟩ := bd_some h
    refine g_callVv (as := [.int 0]) (st := []) (zX11_findRatios y4) dX11_lock_21 gi_168 rfl okX11_lock_539 (Nat.le_of_ble_eq_true rfl) ?_
    refine g_sub [2, 3, 1, 0] rfl ?_
    exact pX11_lock_24 (fun v1 σ h => ih v1 σ h) 2000 v1 (σ.1 179 v1.toNatClampNeg) 0 σ3 h
def fX11_lock (σ : gS) : Option (Int32 × gS) :=
  fX11_lock_2 2000 0 σ
set_option maxHeartbeats 4000000 in
set_option maxRecDepth 100000 in
theorem pX11_lock {E : gE} {r : Int32} {σ' : gS} {σ : gS} (h : fX11_lock σ = some (r, σ')) : gG E mX11_lock 0 [(0, .ref 168)] [] σ (some (.int r)) σ' := by
  unfold fX11_lock at h
  refine g_iconst (v := 0) dX11_lock_0 (by decide) ?_
  refine g_istore_n (lv' := [(1, .int 0), (0, .ref 168)]) dX11_lock_1 rfl (Nat.le_of_ble_eq_true rfl) rfl ?_
  refine g_sub [1, 0] rfl ?_
  exact pX11_lock_2 2000 0 σ h
theorem zX11_lock {E : gE} {r : Int32} {σ σ' : gS} (h : fX11_lock σ = some (r, σ')) : gC E mX11_lock [.ref 168] σ (some (.int r)) σ' :=
  gC_of (by decide +kernel) rfl (Nat.le_of_ble_eq_true rfl) (pX11_lock h)
theorem wl_RX11_542 : Cond.constantLong RX11 542 10000 ∈ gWS := (gm 1842 (by decide +kernel) rfl)
def mX11_fourBars : gM := (yX11_fourBars, cX11_fourBars, RX11, 8, (some .int), 1, 25)
theorem dX11_fourBars_0 : decode mX11_fourBars.2.1 0 = .ok (.iload_n 1, 1) := by decide +kernel
theorem dX11_fourBars_1 : decode mX11_fourBars.2.1 1 = .ok (.i2l, 1) := by decide +kernel
theorem dX11_fourBars_2 : decode mX11_fourBars.2.1 2 = .ok (.lconst 1, 1) := by decide +kernel
theorem dX11_fourBars_3 : decode mX11_fourBars.2.1 3 = .ok (.ldc2_w 542, 3) := by decide +kernel
theorem dX11_fourBars_6 : decode mX11_fourBars.2.1 6 = .ok (.invokestatic 220, 3) := by decide +kernel
theorem dX11_fourBars_9 : decode mX11_fourBars.2.1 9 = .ok (.ifCond .eq 40, 3) := by decide +kernel
theorem dX11_fourBars_12 : decode mX11_fourBars.2.1 12 = .ok (.iload_n 2, 1) := by decide +kernel
theorem dX11_fourBars_13 : decode mX11_fourBars.2.1 13 = .ok (.i2l, 1) := by decide +kernel
theorem dX11_fourBars_14 : decode mX11_fourBars.2.1 14 = .ok (.lconst 1, 1) := by decide +kernel
theorem dX11_fourBars_15 : decode mX11_fourBars.2.1 15 = .ok (.ldc2_w 542, 3) := by decide +kernel
theorem dX11_fourBars_18 : decode mX11_fourBars.2.1 18 = .ok (.invokestatic 220, 3) := by decide +kernel
theorem dX11_fourBars_21 : decode mX11_fourBars.2.1 21 = .ok (.ifCond .eq 28, 3) := by decide +kernel
theorem dX11_fourBars_24 : decode mX11_fourBars.2.1 24 = .ok (.iload_n 3, 1) := by decide +kernel
theorem dX11_fourBars_25 : decode mX11_fourBars.2.1 25 = .ok (.i2l, 1) := by decide +kernel
theorem dX11_fourBars_26 : decode mX11_fourBars.2.1 26 = .ok (.lconst 1, 1) := by decide +kernel
theorem dX11_fourBars_27 : decode mX11_fourBars.2.1 27 = .ok (.ldc2_w 542, 3) := by decide +kernel
theorem dX11_fourBars_30 : decode mX11_fourBars.2.1 30 = .ok (.invokestatic 220, 3) := by decide +kernel
theorem dX11_fourBars_33 : decode mX11_fourBars.2.1 33 = .ok (.ifCond .eq 16, 3) := by decide +kernel
theorem dX11_fourBars_36 : decode mX11_fourBars.2.1 36 = .ok (.iload 4, 2) := by decide +kernel
theorem dX11_fourBars_38 : decode mX11_fourBars.2.1 38 = .ok (.i2l, 1) := by decide +kernel
theorem dX11_fourBars_39 : decode mX11_fourBars.2.1 39 = .ok (.lconst 1, 1) := by decide +kernel
theorem dX11_fourBars_40 : decode mX11_fourBars.2.1 40 = .ok (.ldc2_w 542, 3) := by decide +kernel
theorem dX11_fourBars_43 : decode mX11_fourBars.2.1 43 = .ok (.invokestatic 220, 3) := by decide +kernel
theorem dX11_fourBars_46 : decode mX11_fourBars.2.1 46 = .ok (.ifCond .ne 6, 3) := by decide +kernel
theorem dX11_fourBars_49 : decode mX11_fourBars.2.1 49 = .ok (.ldc 224, 2) := by decide +kernel
theorem dX11_fourBars_51 : decode mX11_fourBars.2.1 51 = .ok (.ireturn, 1) := by decide +kernel
theorem dX11_fourBars_52 : decode mX11_fourBars.2.1 52 = .ok (.iload_n 1, 1) := by decide +kernel
theorem dX11_fourBars_53 : decode mX11_fourBars.2.1 53 = .ok (.iload_n 2, 1) := by decide +kernel
theorem dX11_fourBars_54 : decode mX11_fourBars.2.1 54 = .ok (.iadd, 1) := by decide +kernel
theorem dX11_fourBars_55 : decode mX11_fourBars.2.1 55 = .ok (.iload_n 3, 1) := by decide +kernel
theorem dX11_fourBars_56 : decode mX11_fourBars.2.1 56 = .ok (.iadd, 1) := by decide +kernel
theorem dX11_fourBars_57 : decode mX11_fourBars.2.1 57 = .ok (.iload 4, 2) := by decide +kernel
theorem dX11_fourBars_59 : decode mX11_fourBars.2.1 59 = .ok (.iadd, 1) := by decide +kernel
theorem dX11_fourBars_60 : decode mX11_fourBars.2.1 60 = .ok (.istore 5, 2) := by decide +kernel
theorem dX11_fourBars_62 : decode mX11_fourBars.2.1 62 = .ok (.iload_n 1, 1) := by decide +kernel
theorem dX11_fourBars_63 : decode mX11_fourBars.2.1 63 = .ok (.iload_n 2, 1) := by decide +kernel
theorem dX11_fourBars_64 : decode mX11_fourBars.2.1 64 = .ok (.if_icmp .le 7, 3) := by decide +kernel
theorem dX11_fourBars_67 : decode mX11_fourBars.2.1 67 = .ok (.iload_n 1, 1) := by decide +kernel
theorem dX11_fourBars_68 : decode mX11_fourBars.2.1 68 = .ok (.goto 4, 3) := by decide +kernel
theorem dX11_fourBars_71 : decode mX11_fourBars.2.1 71 = .ok (.iload_n 2, 1) := by decide +kernel
theorem dX11_fourBars_72 : decode mX11_fourBars.2.1 72 = .ok (.istore 6, 2) := by decide +kernel
theorem dX11_fourBars_74 : decode mX11_fourBars.2.1 74 = .ok (.iload_n 3, 1) := by decide +kernel
theorem dX11_fourBars_75 : decode mX11_fourBars.2.1 75 = .ok (.iload 6, 2) := by decide +kernel
theorem dX11_fourBars_77 : decode mX11_fourBars.2.1 77 = .ok (.if_icmp .le 7, 3) := by decide +kernel
theorem dX11_fourBars_80 : decode mX11_fourBars.2.1 80 = .ok (.iload_n 3, 1) := by decide +kernel
theorem dX11_fourBars_81 : decode mX11_fourBars.2.1 81 = .ok (.goto 5, 3) := by decide +kernel
theorem dX11_fourBars_84 : decode mX11_fourBars.2.1 84 = .ok (.iload 6, 2) := by decide +kernel
theorem dX11_fourBars_86 : decode mX11_fourBars.2.1 86 = .ok (.istore 6, 2) := by decide +kernel
theorem dX11_fourBars_88 : decode mX11_fourBars.2.1 88 = .ok (.iload 4, 2) := by decide +kernel
theorem dX11_fourBars_90 : decode mX11_fourBars.2.1 90 = .ok (.iload 6, 2) := by decide +kernel
theorem dX11_fourBars_92 : decode mX11_fourBars.2.1 92 = .ok (.if_icmp .le 8, 3) := by decide +kernel
theorem dX11_fourBars_95 : decode mX11_fourBars.2.1 95 = .ok (.iload 4, 2) := by decide +kernel
theorem dX11_fourBars_97 : decode mX11_fourBars.2.1 97 = .ok (.goto 5, 3) := by decide +kernel
theorem dX11_fourBars_100 : decode mX11_fourBars.2.1 100 = .ok (.iload 6, 2) := by decide +kernel
theorem dX11_fourBars_102 : decode mX11_fourBars.2.1 102 = .ok (.istore 6, 2) := by decide +kernel
theorem dX11_fourBars_104 : decode mX11_fourBars.2.1 104 = .ok (.iload_n 1, 1) := by decide +kernel
theorem dX11_fourBars_105 : decode mX11_fourBars.2.1 105 = .ok (.iload_n 2, 1) := by decide +kernel
theorem dX11_fourBars_106 : decode mX11_fourBars.2.1 106 = .ok (.if_icmp .ge 7, 3) := by decide +kernel
theorem dX11_fourBars_109 : decode mX11_fourBars.2.1 109 = .ok (.iload_n 1, 1) := by decide +kernel
theorem dX11_fourBars_110 : decode mX11_fourBars.2.1 110 = .ok (.goto 4, 3) := by decide +kernel
theorem dX11_fourBars_113 : decode mX11_fourBars.2.1 113 = .ok (.iload_n 2, 1) := by decide +kernel
theorem dX11_fourBars_114 : decode mX11_fourBars.2.1 114 = .ok (.istore 7, 2) := by decide +kernel
theorem dX11_fourBars_116 : decode mX11_fourBars.2.1 116 = .ok (.iload_n 3, 1) := by decide +kernel
theorem dX11_fourBars_117 : decode mX11_fourBars.2.1 117 = .ok (.iload 7, 2) := by decide +kernel
theorem dX11_fourBars_119 : decode mX11_fourBars.2.1 119 = .ok (.if_icmp .ge 7, 3) := by decide +kernel
theorem dX11_fourBars_122 : decode mX11_fourBars.2.1 122 = .ok (.iload_n 3, 1) := by decide +kernel
theorem dX11_fourBars_123 : decode mX11_fourBars.2.1 123 = .ok (.goto 5, 3) := by decide +kernel
theorem dX11_fourBars_126 : decode mX11_fourBars.2.1 126 = .ok (.iload 7, 2) := by decide +kernel
theorem dX11_fourBars_128 : decode mX11_fourBars.2.1 128 = .ok (.istore 7, 2) := by decide +kernel
theorem dX11_fourBars_130 : decode mX11_fourBars.2.1 130 = .ok (.iload 4, 2) := by decide +kernel
theorem dX11_fourBars_132 : decode mX11_fourBars.2.1 132 = .ok (.iload 7, 2) := by decide +kernel
theorem dX11_fourBars_134 : decode mX11_fourBars.2.1 134 = .ok (.if_icmp .ge 8, 3) := by decide +kernel
theorem dX11_fourBars_137 : decode mX11_fourBars.2.1 137 = .ok (.iload 4, 2) := by decide +kernel
theorem dX11_fourBars_139 : decode mX11_fourBars.2.1 139 = .ok (.goto 5, 3) := by decide +kernel
theorem dX11_fourBars_142 : decode mX11_fourBars.2.1 142 = .ok (.iload 7, 2) := by decide +kernel
theorem dX11_fourBars_144 : decode mX11_fourBars.2.1 144 = .ok (.istore 7, 2) := by decide +kernel
theorem dX11_fourBars_146 : decode mX11_fourBars.2.1 146 = .ok (.iconst 2, 1) := by decide +kernel
theorem dX11_fourBars_147 : decode mX11_fourBars.2.1 147 = .ok (.iload 6, 2) := by decide +kernel
theorem dX11_fourBars_149 : decode mX11_fourBars.2.1 149 = .ok (.imul, 1) := by decide +kernel
theorem dX11_fourBars_150 : decode mX11_fourBars.2.1 150 = .ok (.iload 5, 2) := by decide +kernel
theorem dX11_fourBars_152 : decode mX11_fourBars.2.1 152 = .ok (.if_icmp .lt 5, 3) := by decide +kernel
theorem dX11_fourBars_155 : decode mX11_fourBars.2.1 155 = .ok (.iconst 0, 1) := by decide +kernel
theorem dX11_fourBars_156 : decode mX11_fourBars.2.1 156 = .ok (.ireturn, 1) := by decide +kernel
theorem dX11_fourBars_157 : decode mX11_fourBars.2.1 157 = .ok (.iconst 2, 1) := by decide +kernel
theorem dX11_fourBars_158 : decode mX11_fourBars.2.1 158 = .ok (.iload 6, 2) := by decide +kernel
theorem dX11_fourBars_160 : decode mX11_fourBars.2.1 160 = .ok (.iload 7, 2) := by decide +kernel
theorem dX11_fourBars_162 : decode mX11_fourBars.2.1 162 = .ok (.iadd, 1) := by decide +kernel
theorem dX11_fourBars_163 : decode mX11_fourBars.2.1 163 = .ok (.imul, 1) := by decide +kernel
theorem dX11_fourBars_164 : decode mX11_fourBars.2.1 164 = .ok (.iload 5, 2) := by decide +kernel
theorem dX11_fourBars_166 : decode mX11_fourBars.2.1 166 = .ok (.if_icmp .lt 21, 3) := by decide +kernel
theorem dX11_fourBars_169 : decode mX11_fourBars.2.1 169 = .ok (.iconst 2, 1) := by decide +kernel
theorem dX11_fourBars_170 : decode mX11_fourBars.2.1 170 = .ok (.iload 6, 2) := by decide +kernel
theorem dX11_fourBars_172 : decode mX11_fourBars.2.1 172 = .ok (.iload 7, 2) := by decide +kernel
theorem dX11_fourBars_174 : decode mX11_fourBars.2.1 174 = .ok (.iadd, 1) := by decide +kernel
theorem dX11_fourBars_175 : decode mX11_fourBars.2.1 175 = .ok (.imul, 1) := by decide +kernel
theorem dX11_fourBars_176 : decode mX11_fourBars.2.1 176 = .ok (.iload 5, 2) := by decide +kernel
theorem dX11_fourBars_178 : decode mX11_fourBars.2.1 178 = .ok (.if_icmp .ne 7, 3) := by decide +kernel
theorem dX11_fourBars_181 : decode mX11_fourBars.2.1 181 = .ok (.iconst 2, 1) := by decide +kernel
theorem dX11_fourBars_182 : decode mX11_fourBars.2.1 182 = .ok (.goto 4, 3) := by decide +kernel
theorem dX11_fourBars_185 : decode mX11_fourBars.2.1 185 = .ok (.iconst 1, 1) := by decide +kernel
theorem dX11_fourBars_186 : decode mX11_fourBars.2.1 186 = .ok (.ireturn, 1) := by decide +kernel
theorem dX11_fourBars_187 : decode mX11_fourBars.2.1 187 = .ok (.iload_n 1, 1) := by decide +kernel
theorem dX11_fourBars_188 : decode mX11_fourBars.2.1 188 = .ok (.iload 7, 2) := by decide +kernel
theorem dX11_fourBars_190 : decode mX11_fourBars.2.1 190 = .ok (.if_icmp .ne 7, 3) := by decide +kernel
theorem dX11_fourBars_193 : decode mX11_fourBars.2.1 193 = .ok (.iconst 3, 1) := by decide +kernel
theorem dX11_fourBars_194 : decode mX11_fourBars.2.1 194 = .ok (.goto 25, 3) := by decide +kernel
theorem dX11_fourBars_197 : decode mX11_fourBars.2.1 197 = .ok (.iload_n 2, 1) := by decide +kernel
theorem dX11_fourBars_198 : decode mX11_fourBars.2.1 198 = .ok (.iload 7, 2) := by decide +kernel
theorem dX11_fourBars_200 : decode mX11_fourBars.2.1 200 = .ok (.if_icmp .ne 7, 3) := by decide +kernel
theorem dX11_fourBars_203 : decode mX11_fourBars.2.1 203 = .ok (.iconst 4, 1) := by decide +kernel
theorem dX11_fourBars_204 : decode mX11_fourBars.2.1 204 = .ok (.goto 15, 3) := by decide +kernel
theorem dX11_fourBars_207 : decode mX11_fourBars.2.1 207 = .ok (.iload_n 3, 1) := by decide +kernel
theorem dX11_fourBars_208 : decode mX11_fourBars.2.1 208 = .ok (.iload 7, 2) := by decide +kernel
theorem dX11_fourBars_210 : decode mX11_fourBars.2.1 210 = .ok (.if_icmp .ne 7, 3) := by decide +kernel
theorem dX11_fourBars_213 : decode mX11_fourBars.2.1 213 = .ok (.iconst 5, 1) := by decide +kernel
theorem dX11_fourBars_214 : decode mX11_fourBars.2.1 214 = .ok (.goto 5, 3) := by decide +kernel
theorem dX11_fourBars_217 : decode mX11_fourBars.2.1 217 = .ok (.bipush 6, 2) := by decide +kernel
theorem dX11_fourBars_219 : decode mX11_fourBars.2.1 219 = .ok (.ireturn, 1) := by decide +kernel
theorem okX11_fourBars_220 : gOkS mX11_fourBars mX11_in 220 3 := ⟨List.forall_mem_cons.mpr ⟨(gm 1539 (by decide +kernel) rfl), List.forall_mem_cons.mpr ⟨(gm 1537 (by decide +kernel) rfl), List.forall_mem_cons.mpr ⟨(gm 1538 (by decide +kernel) rfl), List.forall_mem_cons.mpr ⟨(gm 122 (by decide +kernel) rfl), fun _ h => absurd h List.not_mem_nil⟩⟩⟩⟩, by decide +kernel, by decide +kernel, by decide +kernel⟩
def fX11_fourBars_49 (p1 : Int32) (p2 : Int32) (p3 : Int32) (p4 : Int32) (σ : gS) : Option (Int32 × gS) :=
  some ((-1000001), σ)
set_option maxHeartbeats 4000000 in
set_option maxRecDepth 100000 in
theorem pX11_fourBars_49 {E : gE} {p1 : Int32} {p2 : Int32} {p3 : Int32} {p4 : Int32} {r : Int32} {σ' : gS} {σ : gS} (h : fX11_fourBars_49 p1 p2 p3 p4 σ = some (r, σ')) : gG E mX11_fourBars 49 [] [] σ (some (.int r)) σ' := by
  unfold fX11_fourBars_49 at h
  refine g_ldc (v := (-1000001)) dX11_fourBars_49 wc_RX11_224 ?_
  obtain ⟨rfl, rfl⟩ := so_inj h
  exact g_iret dX11_fourBars_51 rfl
def fX11_fourBars_186 (p1 : Int32) (p2 : Int32) (p3 : Int32) (p4 : Int32) (s0 : Int32) (σ : gS) : Option (Int32 × gS) :=
  some (s0, σ)
set_option maxHeartbeats 4000000 in
set_option maxRecDepth 100000 in
theorem pX11_fourBars_186 {E : gE} {p1 : Int32} {p2 : Int32} {p3 : Int32} {p4 : Int32} {r : Int32} {σ' : gS} {s0 : Int32} {σ : gS} (h : fX11_fourBars_186 p1 p2 p3 p4 s0 σ = some (r, σ')) : gG E mX11_fourBars 186 [] [.int s0] σ (some (.int r)) σ' := by
  unfold fX11_fourBars_186 at h
  obtain ⟨rfl, rfl⟩ := so_inj h
  exact g_iret dX11_fourBars_186 rfl
def fX11_fourBars_219 (p1 : Int32) (p2 : Int32) (p3 : Int32) (p4 : Int32) (s0 : Int32) (σ : gS) : Option (Int32 × gS) :=
  some (s0, σ)
set_option maxHeartbeats 4000000 in
set_option maxRecDepth 100000 in
theorem pX11_fourBars_219 {E : gE} {p1 : Int32} {p2 : Int32} {p3 : Int32} {p4 : Int32} {r : Int32} {σ' : gS} {s0 : Int32} {σ : gS} (h : fX11_fourBars_219 p1 p2 p3 p4 s0 σ = some (r, σ')) : gG E mX11_fourBars 219 [] [.int s0] σ (some (.int r)) σ' := by
  unfold fX11_fourBars_219 at h
  obtain ⟨rfl, rfl⟩ := so_inj h
  exact g_iret dX11_fourBars_219 rfl
def fX11_fourBars_144 (p1 : Int32) (p2 : Int32) (p3 : Int32) (p4 : Int32) (v5 : Int32) (v6 : Int32) (s0 : Int32) (σ : gS) : Option (Int32 × gS) :=
  if (2 * v6) < v5 then
    if (2 * (v6 + s0)) < v5 then
      if p1 = s0 then
        fX11_fourBars_219 p1 p2 p3 p4 3 σ
      else
        if p2 = s0 then
          fX11_fourBars_219 p1 p2 p3 p4 4 σ
        else
          if p3 = s0 then
            fX11_fourBars_219 p1 p2 p3 p4 5 σ
          else
            fX11_fourBars_219 p1 p2 p3 p4 6 σ
    else
      if (2 * (v6 + s0)) = v5 then
        fX11_fourBars_186 p1 p2 p3 p4 2 σ
      else
        fX11_fourBars_186 p1 p2 p3 p4 1 σ
  else
    some (0, σ)
set_option maxHeartbeats 4000000 in
set_option maxRecDepth 100000 in
theorem pX11_fourBars_144 {E : gE} {p1 : Int32} {p2 : Int32} {p3 : Int32} {p4 : Int32} {r : Int32} {σ' : gS} {v5 : Int32} {v6 : Int32} {s0 : Int32} {σ : gS} (h : fX11_fourBars_144 p1 p2 p3 p4 v5 v6 s0 σ = some (r, σ')) : gG E mX11_fourBars 144 [(1, .int p1), (2, .int p2), (3, .int p3), (5, .int v5), (6, .int v6)] [.int s0] σ (some (.int r)) σ' := by
  unfold fX11_fourBars_144 at h
  refine g_istore (lv' := [(7, .int s0), (1, .int p1), (2, .int p2), (3, .int p3), (5, .int v5), (6, .int v6)]) dX11_fourBars_144 (Nat.le_of_ble_eq_true rfl) rfl ?_
  refine g_iconst (v := 2) dX11_fourBars_146 (by decide) ?_
  refine g_iload dX11_fourBars_147 5 rfl ?_
  refine g_imul dX11_fourBars_149 ?_
  refine g_iload dX11_fourBars_150 4 rfl ?_
  refine g_icmp_lt (t := 157) dX11_fourBars_152 (by decide) (fun c1 => ?_) (fun c1 => ?_)
  · replace h := if_t h c1
    refine g_iconst (v := 2) dX11_fourBars_157 (by decide) ?_
    refine g_iload dX11_fourBars_158 5 rfl ?_
    refine g_iload dX11_fourBars_160 0 rfl ?_
    refine g_iadd dX11_fourBars_162 ?_
    refine g_imul dX11_fourBars_163 ?_
    refine g_iload dX11_fourBars_164 4 rfl ?_
    refine g_icmp_lt (t := 187) dX11_fourBars_166 (by decide) (fun c2 => ?_) (fun c2 => ?_)
    · replace h := if_t h c2
      refine g_iload_n dX11_fourBars_187 rfl 1 rfl ?_
      refine g_iload dX11_fourBars_188 0 rfl ?_
      refine g_icmp_ne (t := 197) dX11_fourBars_190 (by decide) (fun c3 => ?_) (fun c3 => ?_)
      · replace h := if_f h c3
        refine g_iload_n dX11_fourBars_197 rfl 2 rfl ?_
        refine g_iload dX11_fourBars_198 0 rfl ?_
        refine g_icmp_ne (t := 207) dX11_fourBars_200 (by decide) (fun c4 => ?_) (fun c4 => ?_)
        · replace h := if_f h c4
          refine g_iload_n dX11_fourBars_207 rfl 3 rfl ?_
          refine g_iload dX11_fourBars_208 0 rfl ?_
          refine g_icmp_ne (t := 217) dX11_fourBars_210 (by decide) (fun c5 => ?_) (fun c5 => ?_)
          · replace h := if_f h c5
            refine g_bipush (v := 6) dX11_fourBars_217 (by decide) ?_
            refine g_sub [] rfl ?_
            exact pX11_fourBars_219 h
          · replace h := if_t h c5
            refine g_iconst (v := 5) dX11_fourBars_213 (by decide) ?_
            refine g_goto (t := 219) dX11_fourBars_214 (by decide) ?_
            refine g_sub [] rfl ?_
            exact pX11_fourBars_219 h
        · replace h := if_t h c4
          refine g_iconst (v := 4) dX11_fourBars_203 (by decide) ?_
          refine g_goto (t := 219) dX11_fourBars_204 (by decide) ?_
          refine g_sub [] rfl ?_
          exact pX11_fourBars_219 h
      · replace h := if_t h c3
        refine g_iconst (v := 3) dX11_fourBars_193 (by decide) ?_
        refine g_goto (t := 219) dX11_fourBars_194 (by decide) ?_
        refine g_sub [] rfl ?_
        exact pX11_fourBars_219 h
    · replace h := if_f h c2
      refine g_iconst (v := 2) dX11_fourBars_169 (by decide) ?_
      refine g_iload dX11_fourBars_170 5 rfl ?_
      refine g_iload dX11_fourBars_172 0 rfl ?_
      refine g_iadd dX11_fourBars_174 ?_
      refine g_imul dX11_fourBars_175 ?_
      refine g_iload dX11_fourBars_176 4 rfl ?_
      refine g_icmp_ne (t := 185) dX11_fourBars_178 (by decide) (fun c6 => ?_) (fun c6 => ?_)
      · replace h := if_f h c6
        refine g_iconst (v := 1) dX11_fourBars_185 (by decide) ?_
        refine g_sub [] rfl ?_
        exact pX11_fourBars_186 h
      · replace h := if_t h c6
        refine g_iconst (v := 2) dX11_fourBars_181 (by decide) ?_
        refine g_goto (t := 186) dX11_fourBars_182 (by decide) ?_
        refine g_sub [] rfl ?_
        exact pX11_fourBars_186 h
  · replace h := if_f h c1
    refine g_iconst (v := 0) dX11_fourBars_155 (by decide) ?_
    obtain ⟨rfl, rfl⟩ := so_inj h
    exact g_iret dX11_fourBars_156 rfl
def fX11_fourBars_128 (p1 : Int32) (p2 : Int32) (p3 : Int32) (p4 : Int32) (v5 : Int32) (v6 : Int32) (s0 : Int32) (σ : gS) : Option (Int32 × gS) :=
  if s0 ≤ p4 then
    fX11_fourBars_144 p1 p2 p3 p4 v5 v6 s0 σ
  else
    fX11_fourBars_144 p1 p2 p3 p4 v5 v6 p4 σ
set_option maxHeartbeats 4000000 in
set_option maxRecDepth 100000 in
theorem pX11_fourBars_128 {E : gE} {p1 : Int32} {p2 : Int32} {p3 : Int32} {p4 : Int32} {r : Int32} {σ' : gS} {v5 : Int32} {v6 : Int32} {s0 : Int32} {σ : gS} (h : fX11_fourBars_128 p1 p2 p3 p4 v5 v6 s0 σ = some (r, σ')) : gG E mX11_fourBars 128 [(1, .int p1), (2, .int p2), (3, .int p3), (4, .int p4), (5, .int v5), (6, .int v6)] [.int s0] σ (some (.int r)) σ' := by
  unfold fX11_fourBars_128 at h
  refine g_istore (lv' := [(7, .int s0), (1, .int p1), (2, .int p2), (3, .int p3), (4, .int p4), (5, .int v5), (6, .int v6)]) dX11_fourBars_128 (Nat.le_of_ble_eq_true rfl) rfl ?_
  refine g_iload dX11_fourBars_130 4 rfl ?_
  refine g_iload dX11_fourBars_132 0 rfl ?_
  refine g_icmp_ge (t := 142) dX11_fourBars_134 (by decide) (fun c1 => ?_) (fun c1 => ?_)
  · replace h := if_t h c1
    refine g_iload dX11_fourBars_142 0 rfl ?_
    refine g_sub [1, 2, 3, 5, 6] rfl ?_
    exact pX11_fourBars_144 h
  · replace h := if_f h c1
    refine g_iload dX11_fourBars_137 4 rfl ?_
    refine g_goto (t := 144) dX11_fourBars_139 (by decide) ?_
    refine g_sub [1, 2, 3, 5, 6] rfl ?_
    exact pX11_fourBars_144 h
def fX11_fourBars_114 (p1 : Int32) (p2 : Int32) (p3 : Int32) (p4 : Int32) (v5 : Int32) (v6 : Int32) (s0 : Int32) (σ : gS) : Option (Int32 × gS) :=
  if s0 ≤ p3 then
    fX11_fourBars_128 p1 p2 p3 p4 v5 v6 s0 σ
  else
    fX11_fourBars_128 p1 p2 p3 p4 v5 v6 p3 σ
set_option maxHeartbeats 4000000 in
set_option maxRecDepth 100000 in
theorem pX11_fourBars_114 {E : gE} {p1 : Int32} {p2 : Int32} {p3 : Int32} {p4 : Int32} {r : Int32} {σ' : gS} {v5 : Int32} {v6 : Int32} {s0 : Int32} {σ : gS} (h : fX11_fourBars_114 p1 p2 p3 p4 v5 v6 s0 σ = some (r, σ')) : gG E mX11_fourBars 114 [(1, .int p1), (2, .int p2), (3, .int p3), (4, .int p4), (5, .int v5), (6, .int v6)] [.int s0] σ (some (.int r)) σ' := by
  unfold fX11_fourBars_114 at h
  refine g_istore (lv' := [(7, .int s0), (1, .int p1), (2, .int p2), (3, .int p3), (4, .int p4), (5, .int v5), (6, .int v6)]) dX11_fourBars_114 (Nat.le_of_ble_eq_true rfl) rfl ?_
  refine g_iload_n dX11_fourBars_116 rfl 3 rfl ?_
  refine g_iload dX11_fourBars_117 0 rfl ?_
  refine g_icmp_ge (t := 126) dX11_fourBars_119 (by decide) (fun c1 => ?_) (fun c1 => ?_)
  · replace h := if_t h c1
    refine g_iload dX11_fourBars_126 0 rfl ?_
    refine g_sub [1, 2, 3, 4, 5, 6] rfl ?_
    exact pX11_fourBars_128 h
  · replace h := if_f h c1
    refine g_iload_n dX11_fourBars_122 rfl 3 rfl ?_
    refine g_goto (t := 128) dX11_fourBars_123 (by decide) ?_
    refine g_sub [1, 2, 3, 4, 5, 6] rfl ?_
    exact pX11_fourBars_128 h
def fX11_fourBars_102 (p1 : Int32) (p2 : Int32) (p3 : Int32) (p4 : Int32) (v5 : Int32) (s0 : Int32) (σ : gS) : Option (Int32 × gS) :=
  if p2 ≤ p1 then
    fX11_fourBars_114 p1 p2 p3 p4 v5 s0 p2 σ
  else
    fX11_fourBars_114 p1 p2 p3 p4 v5 s0 p1 σ
set_option maxHeartbeats 4000000 in
set_option maxRecDepth 100000 in
theorem pX11_fourBars_102 {E : gE} {p1 : Int32} {p2 : Int32} {p3 : Int32} {p4 : Int32} {r : Int32} {σ' : gS} {v5 : Int32} {s0 : Int32} {σ : gS} (h : fX11_fourBars_102 p1 p2 p3 p4 v5 s0 σ = some (r, σ')) : gG E mX11_fourBars 102 [(1, .int p1), (2, .int p2), (3, .int p3), (4, .int p4), (5, .int v5)] [.int s0] σ (some (.int r)) σ' := by
  unfold fX11_fourBars_102 at h
  refine g_istore (lv' := [(6, .int s0), (1, .int p1), (2, .int p2), (3, .int p3), (4, .int p4), (5, .int v5)]) dX11_fourBars_102 (Nat.le_of_ble_eq_true rfl) rfl ?_
  refine g_iload_n dX11_fourBars_104 rfl 1 rfl ?_
  refine g_iload_n dX11_fourBars_105 rfl 2 rfl ?_
  refine g_icmp_ge (t := 113) dX11_fourBars_106 (by decide) (fun c1 => ?_) (fun c1 => ?_)
  · replace h := if_t h c1
    refine g_iload_n dX11_fourBars_113 rfl 2 rfl ?_
    refine g_sub [1, 2, 3, 4, 5, 0] rfl ?_
    exact pX11_fourBars_114 h
  · replace h := if_f h c1
    refine g_iload_n dX11_fourBars_109 rfl 1 rfl ?_
    refine g_goto (t := 114) dX11_fourBars_110 (by decide) ?_
    refine g_sub [1, 2, 3, 4, 5, 0] rfl ?_
    exact pX11_fourBars_114 h
def fX11_fourBars_86 (p1 : Int32) (p2 : Int32) (p3 : Int32) (p4 : Int32) (v5 : Int32) (s0 : Int32) (σ : gS) : Option (Int32 × gS) :=
  if p4 ≤ s0 then
    fX11_fourBars_102 p1 p2 p3 p4 v5 s0 σ
  else
    fX11_fourBars_102 p1 p2 p3 p4 v5 p4 σ
set_option maxHeartbeats 4000000 in
set_option maxRecDepth 100000 in
theorem pX11_fourBars_86 {E : gE} {p1 : Int32} {p2 : Int32} {p3 : Int32} {p4 : Int32} {r : Int32} {σ' : gS} {v5 : Int32} {s0 : Int32} {σ : gS} (h : fX11_fourBars_86 p1 p2 p3 p4 v5 s0 σ = some (r, σ')) : gG E mX11_fourBars 86 [(1, .int p1), (2, .int p2), (3, .int p3), (4, .int p4), (5, .int v5)] [.int s0] σ (some (.int r)) σ' := by
  unfold fX11_fourBars_86 at h
  refine g_istore (lv' := [(6, .int s0), (1, .int p1), (2, .int p2), (3, .int p3), (4, .int p4), (5, .int v5)]) dX11_fourBars_86 (Nat.le_of_ble_eq_true rfl) rfl ?_
  refine g_iload dX11_fourBars_88 4 rfl ?_
  refine g_iload dX11_fourBars_90 0 rfl ?_
  refine g_icmp_le (t := 100) dX11_fourBars_92 (by decide) (fun c1 => ?_) (fun c1 => ?_)
  · replace h := if_t h c1
    refine g_iload dX11_fourBars_100 0 rfl ?_
    refine g_sub [1, 2, 3, 4, 5] rfl ?_
    exact pX11_fourBars_102 h
  · replace h := if_f h c1
    refine g_iload dX11_fourBars_95 4 rfl ?_
    refine g_goto (t := 102) dX11_fourBars_97 (by decide) ?_
    refine g_sub [1, 2, 3, 4, 5] rfl ?_
    exact pX11_fourBars_102 h
def fX11_fourBars_72 (p1 : Int32) (p2 : Int32) (p3 : Int32) (p4 : Int32) (v5 : Int32) (s0 : Int32) (σ : gS) : Option (Int32 × gS) :=
  if p3 ≤ s0 then
    fX11_fourBars_86 p1 p2 p3 p4 v5 s0 σ
  else
    fX11_fourBars_86 p1 p2 p3 p4 v5 p3 σ
set_option maxHeartbeats 4000000 in
set_option maxRecDepth 100000 in
theorem pX11_fourBars_72 {E : gE} {p1 : Int32} {p2 : Int32} {p3 : Int32} {p4 : Int32} {r : Int32} {σ' : gS} {v5 : Int32} {s0 : Int32} {σ : gS} (h : fX11_fourBars_72 p1 p2 p3 p4 v5 s0 σ = some (r, σ')) : gG E mX11_fourBars 72 [(1, .int p1), (2, .int p2), (3, .int p3), (4, .int p4), (5, .int v5)] [.int s0] σ (some (.int r)) σ' := by
  unfold fX11_fourBars_72 at h
  refine g_istore (lv' := [(6, .int s0), (1, .int p1), (2, .int p2), (3, .int p3), (4, .int p4), (5, .int v5)]) dX11_fourBars_72 (Nat.le_of_ble_eq_true rfl) rfl ?_
  refine g_iload_n dX11_fourBars_74 rfl 3 rfl ?_
  refine g_iload dX11_fourBars_75 0 rfl ?_
  refine g_icmp_le (t := 84) dX11_fourBars_77 (by decide) (fun c1 => ?_) (fun c1 => ?_)
  · replace h := if_t h c1
    refine g_iload dX11_fourBars_84 0 rfl ?_
    refine g_sub [1, 2, 3, 4, 5] rfl ?_
    exact pX11_fourBars_86 h
  · replace h := if_f h c1
    refine g_iload_n dX11_fourBars_80 rfl 3 rfl ?_
    refine g_goto (t := 86) dX11_fourBars_81 (by decide) ?_
    refine g_sub [1, 2, 3, 4, 5] rfl ?_
    exact pX11_fourBars_86 h
def fX11_fourBars (p1 : Int32) (p2 : Int32) (p3 : Int32) (p4 : Int32) (σ : gS) : Option (Int32 × gS) :=
  bd (fX11_in p1.toInt64 1 10000 σ) fun x1 σ2 =>
  if x1 = 0 then
    fX11_fourBars_49 p1 p2 p3 p4 σ2
  else
    bd (fX11_in p2.toInt64 1 10000 σ2) fun x5 σ6 =>
    if x5 = 0 then
      fX11_fourBars_49 p1 p2 p3 p4 σ6
    else
      bd (fX11_in p3.toInt64 1 10000 σ6) fun x9 σ10 =>
      if x9 = 0 then
        fX11_fourBars_49 p1 p2 p3 p4 σ10
      else
        bd (fX11_in p4.toInt64 1 10000 σ10) fun x13 σ14 =>
        if x13 = 0 then
          fX11_fourBars_49 p1 p2 p3 p4 σ14
        else
          bnd (((p1 + p2) + p3) + p4) fun x17 =>
          if p1 ≤ p2 then
            fX11_fourBars_72 p1 p2 p3 p4 x17 p2 σ14
          else
            fX11_fourBars_72 p1 p2 p3 p4 x17 p1 σ14
set_option maxHeartbeats 4000000 in
set_option maxRecDepth 100000 in
theorem pX11_fourBars {E : gE} {p1 : Int32} {p2 : Int32} {p3 : Int32} {p4 : Int32} {r : Int32} {σ' : gS} {σ : gS} (h : fX11_fourBars p1 p2 p3 p4 σ = some (r, σ')) : gG E mX11_fourBars 0 [(0, .ref 168), (1, .int p1), (2, .int p2), (3, .int p3), (4, .int p4)] [] σ (some (.int r)) σ' := by
  unfold fX11_fourBars at h
  refine g_iload_n dX11_fourBars_0 rfl 1 rfl ?_
  refine g_i2l dX11_fourBars_1 ?_
  refine g_lconst (v := 1) dX11_fourBars_2 (by decide) ?_
  refine g_ldc2 (v := 10000) dX11_fourBars_3 wl_RX11_542 ?_
  obtain ⟨x1, σ2, y3, h⟩ := bd_some h
  refine g_callSr (as := [.long p1.toInt64, .long 1, .long 10000]) (st := []) (zX11_in y3) dX11_fourBars_6 okX11_fourBars_220 (Nat.le_of_ble_eq_true rfl) ?_
  refine g_if_eq (t := 49) dX11_fourBars_9 (by decide) (fun c4 => ?_) (fun c4 => ?_)
  · replace h := if_t h c4
    refine g_sub [] rfl ?_
    exact pX11_fourBars_49 h
  · replace h := if_f h c4
    refine g_iload_n dX11_fourBars_12 rfl 2 rfl ?_
    refine g_i2l dX11_fourBars_13 ?_
    refine g_lconst (v := 1) dX11_fourBars_14 (by decide) ?_
    refine g_ldc2 (v := 10000) dX11_fourBars_15 wl_RX11_542 ?_
    obtain ⟨x5, σ6, y7, h⟩ := bd_some h
    refine g_callSr (as := [.long p2.toInt64, .long 1, .long 10000]) (st := []) (zX11_in y7) dX11_fourBars_18 okX11_fourBars_220 (Nat.le_of_ble_eq_true rfl) ?_
    refine g_if_eq (t := 49) dX11_fourBars_21 (by decide) (fun c8 => ?_) (fun c8 => ?_)
    · replace h := if_t h c8
      refine g_sub [] rfl ?_
      exact pX11_fourBars_49 h
    · replace h := if_f h c8
      refine g_iload_n dX11_fourBars_24 rfl 3 rfl ?_
      refine g_i2l dX11_fourBars_25 ?_
      refine g_lconst (v := 1) dX11_fourBars_26 (by decide) ?_
      refine g_ldc2 (v := 10000) dX11_fourBars_27 wl_RX11_542 ?_
      obtain ⟨x9, σ10, y11, h⟩ := bd_some h
      refine g_callSr (as := [.long p3.toInt64, .long 1, .long 10000]) (st := []) (zX11_in y11) dX11_fourBars_30 okX11_fourBars_220 (Nat.le_of_ble_eq_true rfl) ?_
      refine g_if_eq (t := 49) dX11_fourBars_33 (by decide) (fun c12 => ?_) (fun c12 => ?_)
      · replace h := if_t h c12
        refine g_sub [] rfl ?_
        exact pX11_fourBars_49 h
      · replace h := if_f h c12
        refine g_iload dX11_fourBars_36 4 rfl ?_
        refine g_i2l dX11_fourBars_38 ?_
        refine g_lconst (v := 1) dX11_fourBars_39 (by decide) ?_
        refine g_ldc2 (v := 10000) dX11_fourBars_40 wl_RX11_542 ?_
        obtain ⟨x13, σ14, y15, h⟩ := bd_some h
        refine g_callSr (as := [.long p4.toInt64, .long 1, .long 10000]) (st := []) (zX11_in y15) dX11_fourBars_43 okX11_fourBars_220 (Nat.le_of_ble_eq_true rfl) ?_
        refine g_if_ne (t := 52) dX11_fourBars_46 (by decide) (fun c16 => ?_) (fun c16 => ?_)
        · replace h := if_f h c16
          refine g_iload_n dX11_fourBars_52 rfl 1 rfl ?_
          refine g_iload_n dX11_fourBars_53 rfl 2 rfl ?_
          refine g_iadd dX11_fourBars_54 ?_
          refine g_iload_n dX11_fourBars_55 rfl 3 rfl ?_
          refine g_iadd dX11_fourBars_56 ?_
          refine g_iload dX11_fourBars_57 4 rfl ?_
          refine g_iadd dX11_fourBars_59 ?_
          obtain ⟨x17, ex17, h⟩ := bnd_nm h
          refine g_topi ex17 ?_
          refine g_istore (lv' := [(5, .int x17), (0, .ref 168), (1, .int p1), (2, .int p2), (3, .int p3), (4, .int p4)]) dX11_fourBars_60 (Nat.le_of_ble_eq_true rfl) rfl ?_
          refine g_iload_n dX11_fourBars_62 rfl 2 rfl ?_
          refine g_iload_n dX11_fourBars_63 rfl 3 rfl ?_
          refine g_icmp_le (t := 71) dX11_fourBars_64 (by decide) (fun c18 => ?_) (fun c18 => ?_)
          · replace h := if_t h c18
            refine g_iload_n dX11_fourBars_71 rfl 3 rfl ?_
            refine g_sub [2, 3, 4, 5, 0] rfl ?_
            exact pX11_fourBars_72 h
          · replace h := if_f h c18
            refine g_iload_n dX11_fourBars_67 rfl 2 rfl ?_
            refine g_goto (t := 72) dX11_fourBars_68 (by decide) ?_
            refine g_sub [2, 3, 4, 5, 0] rfl ?_
            exact pX11_fourBars_72 h
        · replace h := if_t h c16
          refine g_sub [] rfl ?_
          exact pX11_fourBars_49 h
theorem zX11_fourBars {E : gE} {p1 : Int32} {p2 : Int32} {p3 : Int32} {p4 : Int32} {r : Int32} {σ σ' : gS} (h : fX11_fourBars p1 p2 p3 p4 σ = some (r, σ')) : gC E mX11_fourBars [.ref 168, .int p1, .int p2, .int p3, .int p4] σ (some (.int r)) σ' :=
  gC_of (by decide +kernel) rfl (Nat.le_of_ble_eq_true rfl) (pX11_fourBars h)
theorem fp_RX11_544 : gFp RX11 544 11 94 .int := ⟨RX11, TX11, 101, rfl, by decide, ux_11, Or.inl (gm 1322 (by decide +kernel) rfl), rfl, by decide +kernel, ⟨tyX11, tyX11_ok⟩, nmX11⟩
theorem wc_RX11_547 : Cond.constant RX11 547 (-1000010) ∈ gWS := (gm 1871 (by decide +kernel) rfl)
def mX11_finds : gM := (yX11_finds, cX11_finds, RX11, 2, (some .int), 0, 0)
theorem dX11_finds_0 : decode mX11_finds.2.1 0 = .ok (.aload_n 0, 1) := by decide +kernel
theorem dX11_finds_1 : decode mX11_finds.2.1 1 = .ok (.iload_n 1, 1) := by decide +kernel
theorem dX11_finds_2 : decode mX11_finds.2.1 2 = .ok (.putfield 544, 3) := by decide +kernel
theorem dX11_finds_5 : decode mX11_finds.2.1 5 = .ok (.ldc_w 547, 3) := by decide +kernel
theorem dX11_finds_8 : decode mX11_finds.2.1 8 = .ok (.iload_n 1, 1) := by decide +kernel
theorem dX11_finds_9 : decode mX11_finds.2.1 9 = .ok (.isub, 1) := by decide +kernel
theorem dX11_finds_10 : decode mX11_finds.2.1 10 = .ok (.ireturn, 1) := by decide +kernel
def fX11_finds (p1 : Int32) (σ : gS) : Option (Int32 × gS) :=
  bnd (gsI σ 168 94 p1) fun σ1 =>
  some ((-1000010) - p1, σ1)
set_option maxHeartbeats 4000000 in
set_option maxRecDepth 100000 in
theorem pX11_finds {E : gE} {p1 : Int32} {r : Int32} {σ' : gS} {σ : gS} (h : fX11_finds p1 σ = some (r, σ')) : gG E mX11_finds 0 [(0, .ref 168), (1, .int p1)] [] σ (some (.int r)) σ' := by
  unfold fX11_finds at h
  refine g_aload_n dX11_finds_0 rfl 0 rfl ?_
  refine g_iload_n dX11_finds_1 rfl 1 rfl ?_
  obtain ⟨σ1, eσ1, h⟩ := bnd_nm h
  refine g_putI dX11_finds_2 gi_168 rfl fp_RX11_544 (g_st eσ1 ?_)
  refine g_ldcw (v := (-1000010)) dX11_finds_5 wc_RX11_547 ?_
  refine g_iload_n dX11_finds_8 rfl 1 rfl ?_
  refine g_isub dX11_finds_9 ?_
  obtain ⟨rfl, rfl⟩ := so_inj h
  exact g_iret dX11_finds_10 rfl
theorem zX11_finds {E : gE} {p1 : Int32} {r : Int32} {σ σ' : gS} (h : fX11_finds p1 σ = some (r, σ')) : gC E mX11_finds [.ref 168, .int p1] σ (some (.int r)) σ' :=
  gC_of (by decide +kernel) rfl (Nat.le_of_ble_eq_true rfl) (pX11_finds h)
theorem fl_RX11_548 : gFl RX11 548 11 96 := ⟨RX11, TX11, 101, rfl, by decide, ux_11, Or.inl (gm 1324 (by decide +kernel) rfl)⟩
theorem fl_RX11_203 : gFl RX11 203 11 95 := ⟨RX11, TX11, 101, rfl, by decide, ux_11, Or.inl (gm 1323 (by decide +kernel) rfl)⟩
theorem fp_RX11_548 : gFp RX11 548 11 96 .int := ⟨RX11, TX11, 101, rfl, by decide, ux_11, Or.inl (gm 1324 (by decide +kernel) rfl), rfl, by decide +kernel, ⟨tyX11, tyX11_ok⟩, nmX11⟩
def mX11_begins : gM := (yX11_begins, cX11_begins, RX11, 2, none, 0, 0)
theorem dX11_begins_0 : decode mX11_begins.2.1 0 = .ok (.aload_n 0, 1) := by decide +kernel
theorem dX11_begins_1 : decode mX11_begins.2.1 1 = .ok (.getfield 548, 3) := by decide +kernel
theorem dX11_begins_4 : decode mX11_begins.2.1 4 = .ok (.bipush 16, 2) := by decide +kernel
theorem dX11_begins_6 : decode mX11_begins.2.1 6 = .ok (.if_icmp .ge 23, 3) := by decide +kernel
theorem dX11_begins_9 : decode mX11_begins.2.1 9 = .ok (.aload_n 0, 1) := by decide +kernel
theorem dX11_begins_10 : decode mX11_begins.2.1 10 = .ok (.getfield 203, 3) := by decide +kernel
theorem dX11_begins_13 : decode mX11_begins.2.1 13 = .ok (.aload_n 0, 1) := by decide +kernel
theorem dX11_begins_14 : decode mX11_begins.2.1 14 = .ok (.getfield 548, 3) := by decide +kernel
theorem dX11_begins_17 : decode mX11_begins.2.1 17 = .ok (.iload_n 1, 1) := by decide +kernel
theorem dX11_begins_18 : decode mX11_begins.2.1 18 = .ok (.iastore, 1) := by decide +kernel
theorem dX11_begins_19 : decode mX11_begins.2.1 19 = .ok (.aload_n 0, 1) := by decide +kernel
theorem dX11_begins_20 : decode mX11_begins.2.1 20 = .ok (.dup, 1) := by decide +kernel
theorem dX11_begins_21 : decode mX11_begins.2.1 21 = .ok (.getfield 548, 3) := by decide +kernel
theorem dX11_begins_24 : decode mX11_begins.2.1 24 = .ok (.iconst 1, 1) := by decide +kernel
theorem dX11_begins_25 : decode mX11_begins.2.1 25 = .ok (.iadd, 1) := by decide +kernel
theorem dX11_begins_26 : decode mX11_begins.2.1 26 = .ok (.putfield 548, 3) := by decide +kernel
theorem dX11_begins_29 : decode mX11_begins.2.1 29 = .ok (.return_, 1) := by decide +kernel
def fX11_begins_29 (p1 : Int32) (σ : gS) : Option (Unit × gS) :=
  some ((), σ)
set_option maxHeartbeats 4000000 in
set_option maxRecDepth 100000 in
theorem pX11_begins_29 {E : gE} {p1 : Int32} {r : Unit} {σ' : gS} {σ : gS} (h : fX11_begins_29 p1 σ = some (r, σ')) : gG E mX11_begins 29 [] [] σ (none) σ' := by
  unfold fX11_begins_29 at h
  obtain ⟨rfl, rfl⟩ := so_inj h
  exact g_vret dX11_begins_29 rfl
def fX11_begins (p1 : Int32) (σ : gS) : Option (Unit × gS) :=
  if 16 ≤ (σ.1 168 96) then
    fX11_begins_29 p1 σ
  else
    gg (¬ (σ.1 168 96 < 0 ∨ 16 ≤ (σ.1 168 96).toNatClampNeg)) (
    bnd (gsI σ 228 ((σ.1 168 96).toNatClampNeg) p1) fun σ3 =>
    bnd (gsI σ3 168 96 ((σ3.1 168 96) + 1)) fun σ4 =>
    fX11_begins_29 p1 σ4)
set_option maxHeartbeats 4000000 in
set_option maxRecDepth 100000 in
theorem pX11_begins {E : gE} {p1 : Int32} {r : Unit} {σ' : gS} {σ : gS} (h : fX11_begins p1 σ = some (r, σ')) : gG E mX11_begins 0 [(0, .ref 168), (1, .int p1)] [] σ (none) σ' := by
  unfold fX11_begins at h
  refine g_aload_n dX11_begins_0 rfl 0 rfl ?_
  refine g_getI dX11_begins_1 gi_168 rfl fl_RX11_548 ?_
  refine g_bipush (v := 16) dX11_begins_4 (by decide) ?_
  refine g_icmp_ge (t := 29) dX11_begins_6 (by decide) (fun c1 => ?_) (fun c1 => ?_)
  · replace h := if_t h c1
    refine g_sub [] rfl ?_
    exact pX11_begins_29 h
  · replace h := if_f h c1
    refine g_aload_n dX11_begins_9 rfl 0 rfl ?_
    refine g_getC (n := 228) dX11_begins_10 gi_168 rfl fl_RX11_203 ?_
    refine g_aload_n dX11_begins_13 rfl 0 rfl ?_
    refine g_getI dX11_begins_14 gi_168 rfl fl_RX11_548 ?_
    refine g_iload_n dX11_begins_17 rfl 1 rfl ?_
    obtain ⟨g2, h⟩ := gg_some h
    obtain ⟨σ3, eσ3, h⟩ := bnd_nm h
    refine g_iast dX11_begins_18 gi_228 g2 (g_st eσ3 ?_)
    refine g_aload_n dX11_begins_19 rfl 0 rfl ?_
    refine g_dup dX11_begins_20 rfl ?_
    refine g_getI dX11_begins_21 gi_168 rfl fl_RX11_548 ?_
    refine g_iconst (v := 1) dX11_begins_24 (by decide) ?_
    refine g_iadd dX11_begins_25 ?_
    obtain ⟨σ4, eσ4, h⟩ := bnd_nm h
    refine g_putI dX11_begins_26 gi_168 rfl fp_RX11_548 (g_st eσ4 ?_)
    refine g_sub [] rfl ?_
    exact pX11_begins_29 h
theorem zX11_begins {E : gE} {p1 : Int32} {r : Unit} {σ σ' : gS} (h : fX11_begins p1 σ = some (r, σ')) : gC E mX11_begins [.ref 168, .int p1] σ (none) σ' :=
  gC_of (by decide +kernel) rfl (Nat.le_of_ble_eq_true rfl) (pX11_begins h)
def mX11_freedom : gM := (yX11_freedom, cX11_freedom, RX11, 2, (some .int), 1, 21)
theorem dX11_freedom_0 : decode mX11_freedom.2.1 0 = .ok (.iload_n 1, 1) := by decide +kernel
theorem dX11_freedom_1 : decode mX11_freedom.2.1 1 = .ok (.tableswitch 75 0 3 #[31, 39, 53, 67], 31) := by decide +kernel
theorem dX11_freedom_32 : decode mX11_freedom.2.1 32 = .ok (.aload_n 0, 1) := by decide +kernel
theorem dX11_freedom_33 : decode mX11_freedom.2.1 33 = .ok (.bipush 11, 2) := by decide +kernel
theorem dX11_freedom_35 : decode mX11_freedom.2.1 35 = .ok (.invokevirtual 551, 3) := by decide +kernel
theorem dX11_freedom_38 : decode mX11_freedom.2.1 38 = .ok (.iconst 2, 1) := by decide +kernel
theorem dX11_freedom_39 : decode mX11_freedom.2.1 39 = .ok (.ireturn, 1) := by decide +kernel
theorem dX11_freedom_40 : decode mX11_freedom.2.1 40 = .ok (.aload_n 0, 1) := by decide +kernel
theorem dX11_freedom_41 : decode mX11_freedom.2.1 41 = .ok (.bipush 12, 2) := by decide +kernel
theorem dX11_freedom_43 : decode mX11_freedom.2.1 43 = .ok (.invokevirtual 551, 3) := by decide +kernel
theorem dX11_freedom_46 : decode mX11_freedom.2.1 46 = .ok (.aload_n 0, 1) := by decide +kernel
theorem dX11_freedom_47 : decode mX11_freedom.2.1 47 = .ok (.bipush 11, 2) := by decide +kernel
theorem dX11_freedom_49 : decode mX11_freedom.2.1 49 = .ok (.invokevirtual 551, 3) := by decide +kernel
theorem dX11_freedom_52 : decode mX11_freedom.2.1 52 = .ok (.iconst 0, 1) := by decide +kernel
theorem dX11_freedom_53 : decode mX11_freedom.2.1 53 = .ok (.ireturn, 1) := by decide +kernel
theorem dX11_freedom_54 : decode mX11_freedom.2.1 54 = .ok (.aload_n 0, 1) := by decide +kernel
theorem dX11_freedom_55 : decode mX11_freedom.2.1 55 = .ok (.bipush 13, 2) := by decide +kernel
theorem dX11_freedom_57 : decode mX11_freedom.2.1 57 = .ok (.invokevirtual 551, 3) := by decide +kernel
theorem dX11_freedom_60 : decode mX11_freedom.2.1 60 = .ok (.aload_n 0, 1) := by decide +kernel
theorem dX11_freedom_61 : decode mX11_freedom.2.1 61 = .ok (.bipush 10, 2) := by decide +kernel
theorem dX11_freedom_63 : decode mX11_freedom.2.1 63 = .ok (.invokevirtual 551, 3) := by decide +kernel
theorem dX11_freedom_66 : decode mX11_freedom.2.1 66 = .ok (.iconst (-1), 1) := by decide +kernel
theorem dX11_freedom_67 : decode mX11_freedom.2.1 67 = .ok (.ireturn, 1) := by decide +kernel
theorem dX11_freedom_68 : decode mX11_freedom.2.1 68 = .ok (.aload_n 0, 1) := by decide +kernel
theorem dX11_freedom_69 : decode mX11_freedom.2.1 69 = .ok (.bipush 14, 2) := by decide +kernel
theorem dX11_freedom_71 : decode mX11_freedom.2.1 71 = .ok (.invokevirtual 551, 3) := by decide +kernel
theorem dX11_freedom_74 : decode mX11_freedom.2.1 74 = .ok (.iconst 1, 1) := by decide +kernel
theorem dX11_freedom_75 : decode mX11_freedom.2.1 75 = .ok (.ireturn, 1) := by decide +kernel
theorem dX11_freedom_76 : decode mX11_freedom.2.1 76 = .ok (.aload_n 0, 1) := by decide +kernel
theorem dX11_freedom_77 : decode mX11_freedom.2.1 77 = .ok (.bipush 15, 2) := by decide +kernel
theorem dX11_freedom_79 : decode mX11_freedom.2.1 79 = .ok (.invokevirtual 551, 3) := by decide +kernel
theorem dX11_freedom_82 : decode mX11_freedom.2.1 82 = .ok (.aload_n 0, 1) := by decide +kernel
theorem dX11_freedom_83 : decode mX11_freedom.2.1 83 = .ok (.bipush 10, 2) := by decide +kernel
theorem dX11_freedom_85 : decode mX11_freedom.2.1 85 = .ok (.invokevirtual 551, 3) := by decide +kernel
theorem dX11_freedom_88 : decode mX11_freedom.2.1 88 = .ok (.iconst (-1), 1) := by decide +kernel
theorem dX11_freedom_89 : decode mX11_freedom.2.1 89 = .ok (.ireturn, 1) := by decide +kernel
theorem okX11_freedom_551 : gOkV mX11_freedom mX11_begins 551 1 := ⟨List.forall_mem_cons.mpr ⟨(gm 1858 (by decide +kernel) rfl), List.forall_mem_cons.mpr ⟨(gm 1855 (by decide +kernel) rfl), List.forall_mem_cons.mpr ⟨(gm 1857 (by decide +kernel) rfl), List.forall_mem_cons.mpr ⟨(gm 101 (by decide +kernel) rfl), List.forall_mem_cons.mpr ⟨(gm 122 (by decide +kernel) rfl), fun _ h => absurd h List.not_mem_nil⟩⟩⟩⟩⟩, by decide +kernel, by decide +kernel, by decide +kernel⟩
def fX11_freedom (p1 : Int32) (σ : gS) : Option (Int32 × gS) :=
  if p1 = 0 then
    bd (fX11_begins 11 σ) fun _ σ2 =>
    some (2, σ2)
  else
    if p1 = 1 then
    bd (fX11_begins 12 σ) fun _ σ5 =>
      bd (fX11_begins 11 σ5) fun _ σ7 =>
      some (0, σ7)
  else
    if p1 = 2 then
    bd (fX11_begins 13 σ) fun _ σ10 =>
        bd (fX11_begins 10 σ10) fun _ σ12 =>
        some ((-1), σ12)
  else
    if p1 = 3 then
    bd (fX11_begins 14 σ) fun _ σ15 =>
          some (1, σ15)
  else
    bd (fX11_begins 15 σ) fun _ σ17 =>
          bd (fX11_begins 10 σ17) fun _ σ19 =>
          some ((-1), σ19)
set_option maxHeartbeats 4000000 in
set_option maxRecDepth 100000 in
theorem pX11_freedom {E : gE} {p1 : Int32} {r : Int32} {σ' : gS} {σ : gS} (h : fX11_freedom p1 σ = some (r, σ')) : gG E mX11_freedom 0 [(0, .ref 168), (1, .int p1)] [] σ (some (.int r)) σ' := by
  unfold fX11_freedom at h
  refine g_iload_n dX11_freedom_0 rfl 1 rfl ?_
  by_cases c1 : p1 = 0
  · replace h := if_t h c1
    refine g_tabIn (off := 31) (t := 32) dX11_freedom_1 (by rw [c1]; decide) (by rw [c1]; decide) (by rw [c1]; first | done | rfl) (by decide) ?_
    refine g_aload_n dX11_freedom_32 rfl 0 rfl ?_
    refine g_bipush (v := 11) dX11_freedom_33 (by decide) ?_
    obtain ⟨_, σ2, y3, h⟩ := bd_some h
    refine g_callVv (as := [.int 11]) (st := []) (zX11_begins y3) dX11_freedom_35 gi_168 rfl okX11_freedom_551 (Nat.le_of_ble_eq_true rfl) ?_
    refine g_iconst (v := 2) dX11_freedom_38 (by decide) ?_
    obtain ⟨rfl, rfl⟩ := so_inj h
    exact g_iret dX11_freedom_39 rfl
  · replace h := if_f h c1
    by_cases c4 : p1 = 1
    · replace h := if_t h c4
      refine g_tabIn (off := 39) (t := 40) dX11_freedom_1 (by rw [c4]; decide) (by rw [c4]; decide) (by rw [c4]; first | done | rfl) (by decide) ?_
      refine g_aload_n dX11_freedom_40 rfl 0 rfl ?_
      refine g_bipush (v := 12) dX11_freedom_41 (by decide) ?_
      obtain ⟨_, σ5, y6, h⟩ := bd_some h
      refine g_callVv (as := [.int 12]) (st := []) (zX11_begins y6) dX11_freedom_43 gi_168 rfl okX11_freedom_551 (Nat.le_of_ble_eq_true rfl) ?_
      refine g_aload_n dX11_freedom_46 rfl 0 rfl ?_
      refine g_bipush (v := 11) dX11_freedom_47 (by decide) ?_
      obtain ⟨_, σ7, y8, h⟩ := bd_some h
      refine g_callVv (as := [.int 11]) (st := []) (zX11_begins y8) dX11_freedom_49 gi_168 rfl okX11_freedom_551 (Nat.le_of_ble_eq_true rfl) ?_
      refine g_iconst (v := 0) dX11_freedom_52 (by decide) ?_
      obtain ⟨rfl, rfl⟩ := so_inj h
      exact g_iret dX11_freedom_53 rfl
    · replace h := if_f h c4
      by_cases c9 : p1 = 2
      · replace h := if_t h c9
        refine g_tabIn (off := 53) (t := 54) dX11_freedom_1 (by rw [c9]; decide) (by rw [c9]; decide) (by rw [c9]; first | done | rfl) (by decide) ?_
        refine g_aload_n dX11_freedom_54 rfl 0 rfl ?_
        refine g_bipush (v := 13) dX11_freedom_55 (by decide) ?_
        obtain ⟨_, σ10, y11, h⟩ := bd_some h
        refine g_callVv (as := [.int 13]) (st := []) (zX11_begins y11) dX11_freedom_57 gi_168 rfl okX11_freedom_551 (Nat.le_of_ble_eq_true rfl) ?_
        refine g_aload_n dX11_freedom_60 rfl 0 rfl ?_
        refine g_bipush (v := 10) dX11_freedom_61 (by decide) ?_
        obtain ⟨_, σ12, y13, h⟩ := bd_some h
        refine g_callVv (as := [.int 10]) (st := []) (zX11_begins y13) dX11_freedom_63 gi_168 rfl okX11_freedom_551 (Nat.le_of_ble_eq_true rfl) ?_
        refine g_iconst (v := (-1)) dX11_freedom_66 (by decide) ?_
        obtain ⟨rfl, rfl⟩ := so_inj h
        exact g_iret dX11_freedom_67 rfl
      · replace h := if_f h c9
        by_cases c14 : p1 = 3
        · replace h := if_t h c14
          refine g_tabIn (off := 67) (t := 68) dX11_freedom_1 (by rw [c14]; decide) (by rw [c14]; decide) (by rw [c14]; first | done | rfl) (by decide) ?_
          refine g_aload_n dX11_freedom_68 rfl 0 rfl ?_
          refine g_bipush (v := 14) dX11_freedom_69 (by decide) ?_
          obtain ⟨_, σ15, y16, h⟩ := bd_some h
          refine g_callVv (as := [.int 14]) (st := []) (zX11_begins y16) dX11_freedom_71 gi_168 rfl okX11_freedom_551 (Nat.le_of_ble_eq_true rfl) ?_
          refine g_iconst (v := 1) dX11_freedom_74 (by decide) ?_
          obtain ⟨rfl, rfl⟩ := so_inj h
          exact g_iret dX11_freedom_75 rfl
        · replace h := if_f h c14
          have nc1 := lv_neT (a := 0) c1 (by decide)
          have nc4 := lv_neT (a := 1) c4 (by decide)
          have nc9 := lv_neT (a := 2) c9 (by decide)
          have nc14 := lv_neT (a := 3) c14 (by decide)
          refine g_tabOut (t := 76) dX11_freedom_1 (by omega) (by decide) ?_
          refine g_aload_n dX11_freedom_76 rfl 0 rfl ?_
          refine g_bipush (v := 15) dX11_freedom_77 (by decide) ?_
          obtain ⟨_, σ17, y18, h⟩ := bd_some h
          refine g_callVv (as := [.int 15]) (st := []) (zX11_begins y18) dX11_freedom_79 gi_168 rfl okX11_freedom_551 (Nat.le_of_ble_eq_true rfl) ?_
          refine g_aload_n dX11_freedom_82 rfl 0 rfl ?_
          refine g_bipush (v := 10) dX11_freedom_83 (by decide) ?_
          obtain ⟨_, σ19, y20, h⟩ := bd_some h
          refine g_callVv (as := [.int 10]) (st := []) (zX11_begins y20) dX11_freedom_85 gi_168 rfl okX11_freedom_551 (Nat.le_of_ble_eq_true rfl) ?_
          refine g_iconst (v := (-1)) dX11_freedom_88 (by decide) ?_
          obtain ⟨rfl, rfl⟩ := so_inj h
          exact g_iret dX11_freedom_89 rfl
theorem zX11_freedom {E : gE} {p1 : Int32} {r : Int32} {σ σ' : gS} (h : fX11_freedom p1 σ = some (r, σ')) : gC E mX11_freedom [.ref 168, .int p1] σ (some (.int r)) σ' :=
  gC_of (by decide +kernel) rfl (Nat.le_of_ble_eq_true rfl) (pX11_freedom h)

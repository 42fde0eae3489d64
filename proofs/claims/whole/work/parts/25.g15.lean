def mX11_count : gM := (yX11_count, cX11_count, RX11, 4, (some .int), 1, 22)
theorem dX11_count_0 : decode mX11_count.2.1 0 = .ok (.iconst 0, 1) := by decide +kernel
theorem dX11_count_1 : decode mX11_count.2.1 1 = .ok (.istore_n 2, 1) := by decide +kernel
theorem dX11_count_2 : decode mX11_count.2.1 2 = .ok (.iload_n 1, 1) := by decide +kernel
theorem dX11_count_3 : decode mX11_count.2.1 3 = .ok (.tableswitch 233 0 11 #[61, 66, 101, 106, 111, 116, 121, 126, 161, 166, 199, 216], 61) := by decide +kernel
theorem dX11_count_64 : decode mX11_count.2.1 64 = .ok (.aload_n 0, 1) := by decide +kernel
theorem dX11_count_65 : decode mX11_count.2.1 65 = .ok (.getfield 374, 3) := by decide +kernel
theorem dX11_count_68 : decode mX11_count.2.1 68 = .ok (.ireturn, 1) := by decide +kernel
theorem dX11_count_69 : decode mX11_count.2.1 69 = .ok (.iconst 0, 1) := by decide +kernel
theorem dX11_count_70 : decode mX11_count.2.1 70 = .ok (.istore_n 3, 1) := by decide +kernel
theorem dX11_count_71 : decode mX11_count.2.1 71 = .ok (.iload_n 3, 1) := by decide +kernel
theorem dX11_count_72 : decode mX11_count.2.1 72 = .ok (.aload_n 0, 1) := by decide +kernel
theorem dX11_count_73 : decode mX11_count.2.1 73 = .ok (.getfield 374, 3) := by decide +kernel
theorem dX11_count_76 : decode mX11_count.2.1 76 = .ok (.if_icmp .ge 26, 3) := by decide +kernel
theorem dX11_count_79 : decode mX11_count.2.1 79 = .ok (.iload_n 2, 1) := by decide +kernel
theorem dX11_count_80 : decode mX11_count.2.1 80 = .ok (.aload_n 0, 1) := by decide +kernel
theorem dX11_count_81 : decode mX11_count.2.1 81 = .ok (.getfield 20, 3) := by decide +kernel
theorem dX11_count_84 : decode mX11_count.2.1 84 = .ok (.iload_n 3, 1) := by decide +kernel
theorem dX11_count_85 : decode mX11_count.2.1 85 = .ok (.baload, 1) := by decide +kernel
theorem dX11_count_86 : decode mX11_count.2.1 86 = .ok (.ifCond .eq 7, 3) := by decide +kernel
theorem dX11_count_89 : decode mX11_count.2.1 89 = .ok (.iconst 1, 1) := by decide +kernel
theorem dX11_count_90 : decode mX11_count.2.1 90 = .ok (.goto 4, 3) := by decide +kernel
theorem dX11_count_93 : decode mX11_count.2.1 93 = .ok (.iconst 0, 1) := by decide +kernel
theorem dX11_count_94 : decode mX11_count.2.1 94 = .ok (.iadd, 1) := by decide +kernel
theorem dX11_count_95 : decode mX11_count.2.1 95 = .ok (.istore_n 2, 1) := by decide +kernel
theorem dX11_count_96 : decode mX11_count.2.1 96 = .ok (.iinc 3 1, 3) := by decide +kernel
theorem dX11_count_99 : decode mX11_count.2.1 99 = .ok (.goto (-28), 3) := by decide +kernel
theorem dX11_count_102 : decode mX11_count.2.1 102 = .ok (.iload_n 2, 1) := by decide +kernel
theorem dX11_count_103 : decode mX11_count.2.1 103 = .ok (.ireturn, 1) := by decide +kernel
theorem dX11_count_104 : decode mX11_count.2.1 104 = .ok (.aload_n 0, 1) := by decide +kernel
theorem dX11_count_105 : decode mX11_count.2.1 105 = .ok (.getfield 380, 3) := by decide +kernel
theorem dX11_count_108 : decode mX11_count.2.1 108 = .ok (.ireturn, 1) := by decide +kernel
theorem dX11_count_109 : decode mX11_count.2.1 109 = .ok (.aload_n 0, 1) := by decide +kernel
theorem dX11_count_110 : decode mX11_count.2.1 110 = .ok (.getfield 377, 3) := by decide +kernel
theorem dX11_count_113 : decode mX11_count.2.1 113 = .ok (.ireturn, 1) := by decide +kernel
theorem dX11_count_114 : decode mX11_count.2.1 114 = .ok (.aload_n 0, 1) := by decide +kernel
theorem dX11_count_115 : decode mX11_count.2.1 115 = .ok (.getfield 383, 3) := by decide +kernel
theorem dX11_count_118 : decode mX11_count.2.1 118 = .ok (.ireturn, 1) := by decide +kernel
theorem dX11_count_119 : decode mX11_count.2.1 119 = .ok (.aload_n 0, 1) := by decide +kernel
theorem dX11_count_120 : decode mX11_count.2.1 120 = .ok (.getfield 371, 3) := by decide +kernel
theorem dX11_count_123 : decode mX11_count.2.1 123 = .ok (.ireturn, 1) := by decide +kernel
theorem dX11_count_124 : decode mX11_count.2.1 124 = .ok (.aload_n 0, 1) := by decide +kernel
theorem dX11_count_125 : decode mX11_count.2.1 125 = .ok (.getfield 407, 3) := by decide +kernel
theorem dX11_count_128 : decode mX11_count.2.1 128 = .ok (.ireturn, 1) := by decide +kernel
theorem dX11_count_129 : decode mX11_count.2.1 129 = .ok (.iconst 0, 1) := by decide +kernel
theorem dX11_count_130 : decode mX11_count.2.1 130 = .ok (.istore_n 3, 1) := by decide +kernel
theorem dX11_count_131 : decode mX11_count.2.1 131 = .ok (.iload_n 3, 1) := by decide +kernel
theorem dX11_count_132 : decode mX11_count.2.1 132 = .ok (.aload_n 0, 1) := by decide +kernel
theorem dX11_count_133 : decode mX11_count.2.1 133 = .ok (.getfield 380, 3) := by decide +kernel
theorem dX11_count_136 : decode mX11_count.2.1 136 = .ok (.if_icmp .ge 26, 3) := by decide +kernel
theorem dX11_count_139 : decode mX11_count.2.1 139 = .ok (.iload_n 2, 1) := by decide +kernel
theorem dX11_count_140 : decode mX11_count.2.1 140 = .ok (.aload_n 0, 1) := by decide +kernel
theorem dX11_count_141 : decode mX11_count.2.1 141 = .ok (.iload_n 3, 1) := by decide +kernel
theorem dX11_count_142 : decode mX11_count.2.1 142 = .ok (.invokevirtual 423, 3) := by decide +kernel
theorem dX11_count_145 : decode mX11_count.2.1 145 = .ok (.iload_n 3, 1) := by decide +kernel
theorem dX11_count_146 : decode mX11_count.2.1 146 = .ok (.if_icmp .ne 7, 3) := by decide +kernel
theorem dX11_count_149 : decode mX11_count.2.1 149 = .ok (.iconst 1, 1) := by decide +kernel
theorem dX11_count_150 : decode mX11_count.2.1 150 = .ok (.goto 4, 3) := by decide +kernel
theorem dX11_count_153 : decode mX11_count.2.1 153 = .ok (.iconst 0, 1) := by decide +kernel
theorem dX11_count_154 : decode mX11_count.2.1 154 = .ok (.iadd, 1) := by decide +kernel
theorem dX11_count_155 : decode mX11_count.2.1 155 = .ok (.istore_n 2, 1) := by decide +kernel
theorem dX11_count_156 : decode mX11_count.2.1 156 = .ok (.iinc 3 1, 3) := by decide +kernel
theorem dX11_count_159 : decode mX11_count.2.1 159 = .ok (.goto (-28), 3) := by decide +kernel
theorem dX11_count_162 : decode mX11_count.2.1 162 = .ok (.iload_n 2, 1) := by decide +kernel
theorem dX11_count_163 : decode mX11_count.2.1 163 = .ok (.ireturn, 1) := by decide +kernel
theorem dX11_count_164 : decode mX11_count.2.1 164 = .ok (.aload_n 0, 1) := by decide +kernel
theorem dX11_count_165 : decode mX11_count.2.1 165 = .ok (.getfield 225, 3) := by decide +kernel
theorem dX11_count_168 : decode mX11_count.2.1 168 = .ok (.ireturn, 1) := by decide +kernel
theorem dX11_count_169 : decode mX11_count.2.1 169 = .ok (.iconst 0, 1) := by decide +kernel
theorem dX11_count_170 : decode mX11_count.2.1 170 = .ok (.istore_n 3, 1) := by decide +kernel
theorem dX11_count_171 : decode mX11_count.2.1 171 = .ok (.iload_n 3, 1) := by decide +kernel
theorem dX11_count_172 : decode mX11_count.2.1 172 = .ok (.bipush 8, 2) := by decide +kernel
theorem dX11_count_174 : decode mX11_count.2.1 174 = .ok (.if_icmp .ge 26, 3) := by decide +kernel
theorem dX11_count_177 : decode mX11_count.2.1 177 = .ok (.iload_n 2, 1) := by decide +kernel
theorem dX11_count_178 : decode mX11_count.2.1 178 = .ok (.aload_n 0, 1) := by decide +kernel
theorem dX11_count_179 : decode mX11_count.2.1 179 = .ok (.getfield 206, 3) := by decide +kernel
theorem dX11_count_182 : decode mX11_count.2.1 182 = .ok (.iload_n 3, 1) := by decide +kernel
theorem dX11_count_183 : decode mX11_count.2.1 183 = .ok (.iaload, 1) := by decide +kernel
theorem dX11_count_184 : decode mX11_count.2.1 184 = .ok (.ifCond .le 7, 3) := by decide +kernel
theorem dX11_count_187 : decode mX11_count.2.1 187 = .ok (.iconst 1, 1) := by decide +kernel
theorem dX11_count_188 : decode mX11_count.2.1 188 = .ok (.goto 4, 3) := by decide +kernel
theorem dX11_count_191 : decode mX11_count.2.1 191 = .ok (.iconst 0, 1) := by decide +kernel
theorem dX11_count_192 : decode mX11_count.2.1 192 = .ok (.iadd, 1) := by decide +kernel
theorem dX11_count_193 : decode mX11_count.2.1 193 = .ok (.istore_n 2, 1) := by decide +kernel
theorem dX11_count_194 : decode mX11_count.2.1 194 = .ok (.iinc 3 1, 3) := by decide +kernel
theorem dX11_count_197 : decode mX11_count.2.1 197 = .ok (.goto (-26), 3) := by decide +kernel
theorem dX11_count_200 : decode mX11_count.2.1 200 = .ok (.iload_n 2, 1) := by decide +kernel
theorem dX11_count_201 : decode mX11_count.2.1 201 = .ok (.ireturn, 1) := by decide +kernel
theorem dX11_count_202 : decode mX11_count.2.1 202 = .ok (.aload_n 0, 1) := by decide +kernel
theorem dX11_count_203 : decode mX11_count.2.1 203 = .ok (.getfield 54, 3) := by decide +kernel
theorem dX11_count_206 : decode mX11_count.2.1 206 = .ok (.ifCond .ge 8, 3) := by decide +kernel
theorem dX11_count_209 : decode mX11_count.2.1 209 = .ok (.ldc 106, 2) := by decide +kernel
theorem dX11_count_211 : decode mX11_count.2.1 211 = .ok (.goto 7, 3) := by decide +kernel
theorem dX11_count_214 : decode mX11_count.2.1 214 = .ok (.aload_n 0, 1) := by decide +kernel
theorem dX11_count_215 : decode mX11_count.2.1 215 = .ok (.getfield 54, 3) := by decide +kernel
theorem dX11_count_218 : decode mX11_count.2.1 218 = .ok (.ireturn, 1) := by decide +kernel
theorem dX11_count_219 : decode mX11_count.2.1 219 = .ok (.aload_n 0, 1) := by decide +kernel
theorem dX11_count_220 : decode mX11_count.2.1 220 = .ok (.getfield 58, 3) := by decide +kernel
theorem dX11_count_223 : decode mX11_count.2.1 223 = .ok (.ifCond .ge 8, 3) := by decide +kernel
theorem dX11_count_226 : decode mX11_count.2.1 226 = .ok (.ldc 106, 2) := by decide +kernel
theorem dX11_count_228 : decode mX11_count.2.1 228 = .ok (.goto 7, 3) := by decide +kernel
theorem dX11_count_231 : decode mX11_count.2.1 231 = .ok (.aload_n 0, 1) := by decide +kernel
theorem dX11_count_232 : decode mX11_count.2.1 232 = .ok (.getfield 58, 3) := by decide +kernel
theorem dX11_count_235 : decode mX11_count.2.1 235 = .ok (.ireturn, 1) := by decide +kernel
theorem dX11_count_236 : decode mX11_count.2.1 236 = .ok (.ldc 224, 2) := by decide +kernel
theorem dX11_count_238 : decode mX11_count.2.1 238 = .ok (.ireturn, 1) := by decide +kernel
theorem okX11_count_423 : gOkV mX11_count mX11_clusterOf 423 1 := ⟨List.forall_mem_cons.mpr ⟨(gm 1710 (by decide +kernel) rfl), List.forall_mem_cons.mpr ⟨(gm 1707 (by decide +kernel) rfl), List.forall_mem_cons.mpr ⟨(gm 1709 (by decide +kernel) rfl), List.forall_mem_cons.mpr ⟨(gm 89 (by decide +kernel) rfl), List.forall_mem_cons.mpr ⟨(gm 122 (by decide +kernel) rfl), fun _ h => absurd h List.not_mem_nil⟩⟩⟩⟩⟩, by decide +kernel, by decide +kernel, by decide +kernel⟩
def fX11_count_94 (p1 : Int32) (k71 : Int32 → Int32 → gS → Option (Int32 × gS)) (v3 : Int32) (s0 : Int32) (s1 : Int32) (σ : gS) : Option (Int32 × gS) :=
  bnd (s0 + s1) fun x1 =>
  bnd (v3 + 1) fun x2 =>
  k71 x1 x2 σ
set_option maxHeartbeats 4000000 in
set_option maxRecDepth 100000 in
theorem pX11_count_94 {E : gE} {p1 : Int32} {k71 : Int32 → Int32 → gS → Option (Int32 × gS)} {r : Int32} {σ' : gS} {v3 : Int32} {s0 : Int32} {s1 : Int32} {σ : gS} (hk71 : ∀ (v2 : Int32) (v3 : Int32) (σ : gS), k71 v2 v3 σ = some (r, σ') → gG E mX11_count 71 [(0, .ref 168), (2, .int v2), (3, .int v3)] [] σ (some (.int r)) σ') (h : fX11_count_94 p1 k71 v3 s0 s1 σ = some (r, σ')) : gG E mX11_count 94 [(0, .ref 168), (3, .int v3)] [.int s1, .int s0] σ (some (.int r)) σ' := by
  unfold fX11_count_94 at h
  refine g_iadd dX11_count_94 ?_
  obtain ⟨x1, ex1, h⟩ := bnd_nm h
  refine g_topi ex1 ?_
  refine g_istore_n (lv' := [(2, .int x1), (0, .ref 168), (3, .int v3)]) dX11_count_95 rfl (Nat.le_of_ble_eq_true rfl) rfl ?_
  obtain ⟨x2, ex2, h⟩ := bnd_nm h
  refine g_iinc (j := 2) (v := x2) (lv' := [(3, .int x2), (2, .int x1), (0, .ref 168)]) dX11_count_96 rfl (by rw [ex2]; rfl) (Nat.le_of_ble_eq_true rfl) rfl ?_
  refine g_goto (t := 71) dX11_count_99 (by decide) ?_
  refine g_sub [2, 1, 0] rfl ?_
  exact hk71 x1 x2 σ h
def fX11_count_71 (p1 : Int32) : Nat → Int32 → Int32 → gS → Option (Int32 × gS)
  | 0, _, _, _ => none
  | n + 1, v2, v3, σ => if (σ.1 168 0) ≤ v3 then
    some (v2, σ)
  else
    gg (¬ (v3 < 0 ∨ 24 ≤ v3.toNatClampNeg)) (
    if (σ.1 172 v3.toNatClampNeg) = 0 then
      fX11_count_94 p1 (fun v2 v3 σ => fX11_count_71 p1 n v2 v3 σ) v3 v2 0 σ
    else
      fX11_count_94 p1 (fun v2 v3 σ => fX11_count_71 p1 n v2 v3 σ) v3 v2 1 σ)
set_option maxHeartbeats 4000000 in
set_option maxRecDepth 100000 in
theorem pX11_count_71 {E : gE} {p1 : Int32} {r : Int32} {σ' : gS} : ∀ (n : Nat) (v2 : Int32) (v3 : Int32) (σ : gS), fX11_count_71 p1 n v2 v3 σ = some (r, σ') → gG E mX11_count 71 [(0, .ref 168), (2, .int v2), (3, .int v3)] [] σ (some (.int r)) σ' := by
  intro n
  induction n with
  | zero => intro v2 v3 σ h; exact absurd (show none = some (r, σ') from h) (by intro q; cases q)
  | succ n ih =>
  intro v2 v3 σ h
  unfold fX11_count_71 at h
  refine g_iload_n dX11_count_71 rfl 2 rfl ?_
  refine g_aload_n dX11_count_72 rfl 0 rfl ?_
  refine g_getI dX11_count_73 gi_168 rfl fl_RX11_374 ?_
  refine g_icmp_ge (t := 102) dX11_count_76 (by decide) (fun c1 => ?_) (fun c1 => ?_)
  · replace h := if_t h c1
    refine g_iload_n dX11_count_102 rfl 1 rfl ?_
    obtain ⟨rfl, rfl⟩ := so_inj h
    exact g_iret dX11_count_103 rfl
  · replace h := if_f h c1
    refine g_iload_n dX11_count_79 rfl 1 rfl ?_
    refine g_aload_n dX11_count_80 rfl 0 rfl ?_
    refine g_getC (n := 172) dX11_count_81 gi_168 rfl fl_RX11_20 ?_
    refine g_iload_n dX11_count_84 rfl 2 rfl ?_
    obtain ⟨g2, h⟩ := gg_some h
    refine g_zald dX11_count_85 gi_172 g2 ?_
    refine g_if_eq (t := 93) dX11_count_86 (by decide) (fun c3 => ?_) (fun c3 => ?_)
    · replace h := if_t h c3
      refine g_iconst (v := 0) dX11_count_93 (by decide) ?_
      refine g_sub [0, 2] rfl ?_
      exact pX11_count_94 (fun v2 v3 σ h => ih v2 v3 σ h) h
    · replace h := if_f h c3
      refine g_iconst (v := 1) dX11_count_89 (by decide) ?_
      refine g_goto (t := 94) dX11_count_90 (by decide) ?_
      refine g_sub [0, 2] rfl ?_
      exact pX11_count_94 (fun v2 v3 σ h => ih v2 v3 σ h) h
def fX11_count_154 (p1 : Int32) (k131 : Int32 → Int32 → gS → Option (Int32 × gS)) (v3 : Int32) (s0 : Int32) (s1 : Int32) (σ : gS) : Option (Int32 × gS) :=
  bnd (s0 + s1) fun x1 =>
  bnd (v3 + 1) fun x2 =>
  k131 x1 x2 σ
set_option maxHeartbeats 4000000 in
set_option maxRecDepth 100000 in
theorem pX11_count_154 {E : gE} {p1 : Int32} {k131 : Int32 → Int32 → gS → Option (Int32 × gS)} {r : Int32} {σ' : gS} {v3 : Int32} {s0 : Int32} {s1 : Int32} {σ : gS} (hk131 : ∀ (v2 : Int32) (v3 : Int32) (σ : gS), k131 v2 v3 σ = some (r, σ') → gG E mX11_count 131 [(0, .ref 168), (2, .int v2), (3, .int v3)] [] σ (some (.int r)) σ') (h : fX11_count_154 p1 k131 v3 s0 s1 σ = some (r, σ')) : gG E mX11_count 154 [(0, .ref 168), (3, .int v3)] [.int s1, .int s0] σ (some (.int r)) σ' := by
  unfold fX11_count_154 at h
  refine g_iadd dX11_count_154 ?_
  obtain ⟨x1, ex1, h⟩ := bnd_nm h
  refine g_topi ex1 ?_
  refine g_istore_n (lv' := [(2, .int x1), (0, .ref 168), (3, .int v3)]) dX11_count_155 rfl (Nat.le_of_ble_eq_true rfl) rfl ?_
  obtain ⟨x2, ex2, h⟩ := bnd_nm h
  refine g_iinc (j := 2) (v := x2) (lv' := [(3, .int x2), (2, .int x1), (0, .ref 168)]) dX11_count_156 rfl (by rw [ex2]; rfl) (Nat.le_of_ble_eq_true rfl) rfl ?_
  refine g_goto (t := 131) dX11_count_159 (by decide) ?_
  refine g_sub [2, 1, 0] rfl ?_
  exact hk131 x1 x2 σ h
def fX11_count_131 (p1 : Int32) : Nat → Int32 → Int32 → gS → Option (Int32 × gS)
  | 0, _, _, _ => none
  | n + 1, v2, v3, σ => if (σ.1 168 9) ≤ v3 then
    some (v2, σ)
  else
    bd (fX11_clusterOf v3 σ) fun x2 σ3 =>
    if x2 = v3 then
      fX11_count_154 p1 (fun v2 v3 σ => fX11_count_131 p1 n v2 v3 σ) v3 v2 1 σ3
    else
      fX11_count_154 p1 (fun v2 v3 σ => fX11_count_131 p1 n v2 v3 σ) v3 v2 0 σ3
set_option maxHeartbeats 4000000 in
set_option maxRecDepth 100000 in
theorem pX11_count_131 {E : gE} {p1 : Int32} {r : Int32} {σ' : gS} : ∀ (n : Nat) (v2 : Int32) (v3 : Int32) (σ : gS), fX11_count_131 p1 n v2 v3 σ = some (r, σ') → gG E mX11_count 131 [(0, .ref 168), (2, .int v2), (3, .int v3)] [] σ (some (.int r)) σ' := by
  intro n
  induction n with
  | zero => intro v2 v3 σ h; exact absurd (show none = some (r, σ') from h) (by intro q; cases q)
  | succ n ih =>
  intro v2 v3 σ h
  unfold fX11_count_131 at h
  refine g_iload_n dX11_count_131 rfl 2 rfl ?_
  refine g_aload_n dX11_count_132 rfl 0 rfl ?_
  refine g_getI dX11_count_133 gi_168 rfl fl_RX11_380 ?_
  refine g_icmp_ge (t := 162) dX11_count_136 (by decide) (fun c1 => ?_) (fun c1 => ?_)
  · replace h := if_t h c1
    refine g_iload_n dX11_count_162 rfl 1 rfl ?_
    obtain ⟨rfl, rfl⟩ := so_inj h
    exact g_iret dX11_count_163 rfl
  · replace h := if_f h c1
    refine g_iload_n dX11_count_139 rfl 1 rfl ?_
    refine g_aload_n dX11_count_140 rfl 0 rfl ?_
    refine g_iload_n dX11_count_141 rfl 2 rfl ?_
    obtain ⟨x2, σ3, y4, h⟩ := bd_some h
    refine g_callVr (as := [.int v3]) (st := [.int v2]) (zX11_clusterOf y4) dX11_count_142 gi_168 rfl okX11_count_423 (Nat.le_of_ble_eq_true rfl) ?_
    refine g_iload_n dX11_count_145 rfl 2 rfl ?_
    refine g_icmp_ne (t := 153) dX11_count_146 (by decide) (fun c5 => ?_) (fun c5 => ?_)
    · replace h := if_f h c5
      refine g_iconst (v := 0) dX11_count_153 (by decide) ?_
      refine g_sub [0, 2] rfl ?_
      exact pX11_count_154 (fun v2 v3 σ h => ih v2 v3 σ h) h
    · replace h := if_t h c5
      refine g_iconst (v := 1) dX11_count_149 (by decide) ?_
      refine g_goto (t := 154) dX11_count_150 (by decide) ?_
      refine g_sub [0, 2] rfl ?_
      exact pX11_count_154 (fun v2 v3 σ h => ih v2 v3 σ h) h
def fX11_count_192 (p1 : Int32) (k171 : Int32 → Int32 → gS → Option (Int32 × gS)) (v3 : Int32) (s0 : Int32) (s1 : Int32) (σ : gS) : Option (Int32 × gS) :=
  bnd (s0 + s1) fun x1 =>
  bnd (v3 + 1) fun x2 =>
  k171 x1 x2 σ
set_option maxHeartbeats 4000000 in
set_option maxRecDepth 100000 in
theorem pX11_count_192 {E : gE} {p1 : Int32} {k171 : Int32 → Int32 → gS → Option (Int32 × gS)} {r : Int32} {σ' : gS} {v3 : Int32} {s0 : Int32} {s1 : Int32} {σ : gS} (hk171 : ∀ (v2 : Int32) (v3 : Int32) (σ : gS), k171 v2 v3 σ = some (r, σ') → gG E mX11_count 171 [(0, .ref 168), (2, .int v2), (3, .int v3)] [] σ (some (.int r)) σ') (h : fX11_count_192 p1 k171 v3 s0 s1 σ = some (r, σ')) : gG E mX11_count 192 [(0, .ref 168), (3, .int v3)] [.int s1, .int s0] σ (some (.int r)) σ' := by
  unfold fX11_count_192 at h
  refine g_iadd dX11_count_192 ?_
  obtain ⟨x1, ex1, h⟩ := bnd_nm h
  refine g_topi ex1 ?_
  refine g_istore_n (lv' := [(2, .int x1), (0, .ref 168), (3, .int v3)]) dX11_count_193 rfl (Nat.le_of_ble_eq_true rfl) rfl ?_
  obtain ⟨x2, ex2, h⟩ := bnd_nm h
  refine g_iinc (j := 2) (v := x2) (lv' := [(3, .int x2), (2, .int x1), (0, .ref 168)]) dX11_count_194 rfl (by rw [ex2]; rfl) (Nat.le_of_ble_eq_true rfl) rfl ?_
  refine g_goto (t := 171) dX11_count_197 (by decide) ?_
  refine g_sub [2, 1, 0] rfl ?_
  exact hk171 x1 x2 σ h
def fX11_count_171 (p1 : Int32) : Nat → Int32 → Int32 → gS → Option (Int32 × gS)
  | 0, _, _, _ => none
  | n + 1, v2, v3, σ => if 8 ≤ v3 then
    some (v2, σ)
  else
    gg (¬ (v3 < 0 ∨ 8 ≤ v3.toNatClampNeg)) (
    if (σ.1 229 v3.toNatClampNeg) ≤ 0 then
      fX11_count_192 p1 (fun v2 v3 σ => fX11_count_171 p1 n v2 v3 σ) v3 v2 0 σ
    else
      fX11_count_192 p1 (fun v2 v3 σ => fX11_count_171 p1 n v2 v3 σ) v3 v2 1 σ)
set_option maxHeartbeats 4000000 in
set_option maxRecDepth 100000 in
theorem pX11_count_171 {E : gE} {p1 : Int32} {r : Int32} {σ' : gS} : ∀ (n : Nat) (v2 : Int32) (v3 : Int32) (σ : gS), fX11_count_171 p1 n v2 v3 σ = some (r, σ') → gG E mX11_count 171 [(0, .ref 168), (2, .int v2), (3, .int v3)] [] σ (some (.int r)) σ' := by
  intro n
  induction n with
  | zero => intro v2 v3 σ h; exact absurd (show none = some (r, σ') from h) (by intro q; cases q)
  | succ n ih =>
  intro v2 v3 σ h
  unfold fX11_count_171 at h
  refine g_iload_n dX11_count_171 rfl 2 rfl ?_
  refine g_bipush (v := 8) dX11_count_172 (by decide) ?_
  refine g_icmp_ge (t := 200) dX11_count_174 (by decide) (fun c1 => ?_) (fun c1 => ?_)
  · replace h := if_t h c1
    refine g_iload_n dX11_count_200 rfl 1 rfl ?_
    obtain ⟨rfl, rfl⟩ := so_inj h
    exact g_iret dX11_count_201 rfl
  · replace h := if_f h c1
    refine g_iload_n dX11_count_177 rfl 1 rfl ?_
    refine g_aload_n dX11_count_178 rfl 0 rfl ?_
    refine g_getC (n := 229) dX11_count_179 gi_168 rfl fl_RX11_206 ?_
    refine g_iload_n dX11_count_182 rfl 2 rfl ?_
    obtain ⟨g2, h⟩ := gg_some h
    refine g_iald dX11_count_183 gi_229 g2 ?_
    refine g_if_le (t := 191) dX11_count_184 (by decide) (fun c3 => ?_) (fun c3 => ?_)
    · replace h := if_t h c3
      refine g_iconst (v := 0) dX11_count_191 (by decide) ?_
      refine g_sub [0, 2] rfl ?_
      exact pX11_count_192 (fun v2 v3 σ h => ih v2 v3 σ h) h
    · replace h := if_f h c3
      refine g_iconst (v := 1) dX11_count_187 (by decide) ?_
      refine g_goto (t := 192) dX11_count_188 (by decide) ?_
      refine g_sub [0, 2] rfl ?_
      exact pX11_count_192 (fun v2 v3 σ h => ih v2 v3 σ h) h
def fX11_count_218 (p1 : Int32) (s0 : Int32) (σ : gS) : Option (Int32 × gS) :=
  some (s0, σ)
set_option maxHeartbeats 4000000 in
set_option maxRecDepth 100000 in
theorem pX11_count_218 {E : gE} {p1 : Int32} {r : Int32} {σ' : gS} {s0 : Int32} {σ : gS} (h : fX11_count_218 p1 s0 σ = some (r, σ')) : gG E mX11_count 218 [] [.int s0] σ (some (.int r)) σ' := by
  unfold fX11_count_218 at h
  obtain ⟨rfl, rfl⟩ := so_inj h
  exact g_iret dX11_count_218 rfl
def fX11_count_235 (p1 : Int32) (s0 : Int32) (σ : gS) : Option (Int32 × gS) :=
  some (s0, σ)
set_option maxHeartbeats 4000000 in
set_option maxRecDepth 100000 in
theorem pX11_count_235 {E : gE} {p1 : Int32} {r : Int32} {σ' : gS} {s0 : Int32} {σ : gS} (h : fX11_count_235 p1 s0 σ = some (r, σ')) : gG E mX11_count 235 [] [.int s0] σ (some (.int r)) σ' := by
  unfold fX11_count_235 at h
  obtain ⟨rfl, rfl⟩ := so_inj h
  exact g_iret dX11_count_235 rfl
def fX11_count (p1 : Int32) (σ : gS) : Option (Int32 × gS) :=
  if p1 = 0 then
    some (σ.1 168 0, σ)
  else
    if p1 = 1 then
    fX11_count_71 p1 2000 0 0 σ
  else
    if p1 = 2 then
    some (σ.1 168 9, σ)
  else
    if p1 = 3 then
    some (σ.1 168 5, σ)
  else
    if p1 = 4 then
    some (σ.1 168 12, σ)
  else
    if p1 = 5 then
    some (σ.1 168 16, σ)
  else
    if p1 = 6 then
    some (σ.1 168 52, σ)
  else
    if p1 = 7 then
    fX11_count_131 p1 2000 0 0 σ
  else
    if p1 = 8 then
    some (σ.1 168 43, σ)
  else
    if p1 = 9 then
    fX11_count_171 p1 2000 0 0 σ
  else
    if p1 = 10 then
    if 0 ≤ (σ.1 168 19) then
                          fX11_count_218 p1 (σ.1 168 19) σ
                        else
                          fX11_count_218 p1 (-1000000) σ
  else
    if p1 = 11 then
    if 0 ≤ (σ.1 168 20) then
                            fX11_count_235 p1 (σ.1 168 20) σ
                          else
                            fX11_count_235 p1 (-1000000) σ
  else
    some ((-1000001), σ)
set_option maxHeartbeats 4000000 in
set_option maxRecDepth 100000 in
theorem pX11_count {E : gE} {p1 : Int32} {r : Int32} {σ' : gS} {σ : gS} (h : fX11_count p1 σ = some (r, σ')) : gG E mX11_count 0 [(0, .ref 168), (1, .int p1)] [] σ (some (.int r)) σ' := by
  unfold fX11_count at h
  refine g_iconst (v := 0) dX11_count_0 (by decide) ?_
  refine g_istore_n (lv' := [(2, .int 0), (0, .ref 168), (1, .int p1)]) dX11_count_1 rfl (Nat.le_of_ble_eq_true rfl) rfl ?_
  refine g_iload_n dX11_count_2 rfl 2 rfl ?_
  by_cases c1 : p1 = 0
  · replace h := if_t h c1
    refine g_tabIn (off := 61) (t := 64) dX11_count_3 (by rw [c1]; decide) (by rw [c1]; decide) (by rw [c1]; first | done | rfl) (by decide) ?_
    refine g_aload_n dX11_count_64 rfl 1 rfl ?_
    refine g_getI dX11_count_65 gi_168 rfl fl_RX11_374 ?_
    obtain ⟨rfl, rfl⟩ := so_inj h
    exact g_iret dX11_count_68 rfl
  · replace h := if_f h c1
    by_cases c2 : p1 = 1
    · replace h := if_t h c2
      refine g_tabIn (off := 66) (t := 69) dX11_count_3 (by rw [c2]; decide) (by rw [c2]; decide) (by rw [c2]; first | done | rfl) (by decide) ?_
      refine g_iconst (v := 0) dX11_count_69 (by decide) ?_
      refine g_istore_n (lv' := [(3, .int 0), (2, .int 0), (0, .ref 168), (1, .int p1)]) dX11_count_70 rfl (Nat.le_of_ble_eq_true rfl) rfl ?_
      refine g_sub [2, 1, 0] rfl ?_
      exact pX11_count_71 2000 0 0 σ h
    · replace h := if_f h c2
      by_cases c3 : p1 = 2
      · replace h := if_t h c3
        refine g_tabIn (off := 101) (t := 104) dX11_count_3 (by rw [c3]; decide) (by rw [c3]; decide) (by rw [c3]; first | done | rfl) (by decide) ?_
        refine g_aload_n dX11_count_104 rfl 1 rfl ?_
        refine g_getI dX11_count_105 gi_168 rfl fl_RX11_380 ?_
        obtain ⟨rfl, rfl⟩ := so_inj h
        exact g_iret dX11_count_108 rfl
      · replace h := if_f h c3
        by_cases c4 : p1 = 3
        · replace h := if_t h c4
          refine g_tabIn (off := 106) (t := 109) dX11_count_3 (by rw [c4]; decide) (by rw [c4]; decide) (by rw [c4]; first | done | rfl) (by decide) ?_
          refine g_aload_n dX11_count_109 rfl 1 rfl ?_
          refine g_getI dX11_count_110 gi_168 rfl fl_RX11_377 ?_
          obtain ⟨rfl, rfl⟩ := so_inj h
          exact g_iret dX11_count_113 rfl
        · replace h := if_f h c4
          by_cases c5 : p1 = 4
          · replace h := if_t h c5
            refine g_tabIn (off := 111) (t := 114) dX11_count_3 (by rw [c5]; decide) (by rw [c5]; decide) (by rw [c5]; first | done | rfl) (by decide) ?_
            refine g_aload_n dX11_count_114 rfl 1 rfl ?_
            refine g_getI dX11_count_115 gi_168 rfl fl_RX11_383 ?_
            obtain ⟨rfl, rfl⟩ := so_inj h
            exact g_iret dX11_count_118 rfl
          · replace h := if_f h c5
            by_cases c6 : p1 = 5
            · replace h := if_t h c6
              refine g_tabIn (off := 116) (t := 119) dX11_count_3 (by rw [c6]; decide) (by rw [c6]; decide) (by rw [c6]; first | done | rfl) (by decide) ?_
              refine g_aload_n dX11_count_119 rfl 1 rfl ?_
              refine g_getI dX11_count_120 gi_168 rfl fl_RX11_371 ?_
              obtain ⟨rfl, rfl⟩ := so_inj h
              exact g_iret dX11_count_123 rfl
            · replace h := if_f h c6
              by_cases c7 : p1 = 6
              · replace h := if_t h c7
                refine g_tabIn (off := 121) (t := 124) dX11_count_3 (by rw [c7]; decide) (by rw [c7]; decide) (by rw [c7]; first | done | rfl) (by decide) ?_
                refine g_aload_n dX11_count_124 rfl 1 rfl ?_
                refine g_getI dX11_count_125 gi_168 rfl fl_RX11_407 ?_
                obtain ⟨rfl, rfl⟩ := so_inj h
                exact g_iret dX11_count_128 rfl
              · replace h := if_f h c7
                by_cases c8 : p1 = 7
                · replace h := if_t h c8
                  refine g_tabIn (off := 126) (t := 129) dX11_count_3 (by rw [c8]; decide) (by rw [c8]; decide) (by rw [c8]; first | done | rfl) (by decide) ?_
                  refine g_iconst (v := 0) dX11_count_129 (by decide) ?_
                  refine g_istore_n (lv' := [(3, .int 0), (2, .int 0), (0, .ref 168), (1, .int p1)]) dX11_count_130 rfl (Nat.le_of_ble_eq_true rfl) rfl ?_
                  refine g_sub [2, 1, 0] rfl ?_
                  exact pX11_count_131 2000 0 0 σ h
                · replace h := if_f h c8
                  by_cases c9 : p1 = 8
                  · replace h := if_t h c9
                    refine g_tabIn (off := 161) (t := 164) dX11_count_3 (by rw [c9]; decide) (by rw [c9]; decide) (by rw [c9]; first | done | rfl) (by decide) ?_
                    refine g_aload_n dX11_count_164 rfl 1 rfl ?_
                    refine g_getI dX11_count_165 gi_168 rfl fl_RX11_225 ?_
                    obtain ⟨rfl, rfl⟩ := so_inj h
                    exact g_iret dX11_count_168 rfl
                  · replace h := if_f h c9
                    by_cases c10 : p1 = 9
                    · replace h := if_t h c10
                      refine g_tabIn (off := 166) (t := 169) dX11_count_3 (by rw [c10]; decide) (by rw [c10]; decide) (by rw [c10]; first | done | rfl) (by decide) ?_
                      refine g_iconst (v := 0) dX11_count_169 (by decide) ?_
                      refine g_istore_n (lv' := [(3, .int 0), (2, .int 0), (0, .ref 168), (1, .int p1)]) dX11_count_170 rfl (Nat.le_of_ble_eq_true rfl) rfl ?_
                      refine g_sub [2, 1, 0] rfl ?_
                      exact pX11_count_171 2000 0 0 σ h
                    · replace h := if_f h c10
                      by_cases c11 : p1 = 10
                      · replace h := if_t h c11
                        refine g_tabIn (off := 199) (t := 202) dX11_count_3 (by rw [c11]; decide) (by rw [c11]; decide) (by rw [c11]; first | done | rfl) (by decide) ?_
                        refine g_aload_n dX11_count_202 rfl 1 rfl ?_
                        refine g_getI dX11_count_203 gi_168 rfl fl_RX11_54 ?_
                        refine g_if_ge (t := 214) dX11_count_206 (by decide) (fun c12 => ?_) (fun c12 => ?_)
                        · replace h := if_t h c12
                          refine g_aload_n dX11_count_214 rfl 1 rfl ?_
                          refine g_getI dX11_count_215 gi_168 rfl fl_RX11_54 ?_
                          refine g_sub [] rfl ?_
                          exact pX11_count_218 h
                        · replace h := if_f h c12
                          refine g_ldc (v := (-1000000)) dX11_count_209 wc_RX11_106 ?_
                          refine g_goto (t := 218) dX11_count_211 (by decide) ?_
                          refine g_sub [] rfl ?_
                          exact pX11_count_218 h
                      · replace h := if_f h c11
                        by_cases c13 : p1 = 11
                        · replace h := if_t h c13
                          refine g_tabIn (off := 216) (t := 219) dX11_count_3 (by rw [c13]; decide) (by rw [c13]; decide) (by rw [c13]; first | done | rfl) (by decide) ?_
                          refine g_aload_n dX11_count_219 rfl 1 rfl ?_
                          refine g_getI dX11_count_220 gi_168 rfl fl_RX11_58 ?_
                          refine g_if_ge (t := 231) dX11_count_223 (by decide) (fun c14 => ?_) (fun c14 => ?_)
                          · replace h := if_t h c14
                            refine g_aload_n dX11_count_231 rfl 1 rfl ?_
                            refine g_getI dX11_count_232 gi_168 rfl fl_RX11_58 ?_
                            refine g_sub [] rfl ?_
                            exact pX11_count_235 h
                          · replace h := if_f h c14
                            refine g_ldc (v := (-1000000)) dX11_count_226 wc_RX11_106 ?_
                            refine g_goto (t := 235) dX11_count_228 (by decide) ?_
                            refine g_sub [] rfl ?_
                            exact pX11_count_235 h
                        · replace h := if_f h c13
                          have nc1 := lv_neT (a := 0) c1 (by decide)
                          have nc2 := lv_neT (a := 1) c2 (by decide)
                          have nc3 := lv_neT (a := 2) c3 (by decide)
                          have nc4 := lv_neT (a := 3) c4 (by decide)
                          have nc5 := lv_neT (a := 4) c5 (by decide)
                          have nc6 := lv_neT (a := 5) c6 (by decide)
                          have nc7 := lv_neT (a := 6) c7 (by decide)
                          have nc8 := lv_neT (a := 7) c8 (by decide)
                          have nc9 := lv_neT (a := 8) c9 (by decide)
                          have nc10 := lv_neT (a := 9) c10 (by decide)
                          have nc11 := lv_neT (a := 10) c11 (by decide)
                          have nc13 := lv_neT (a := 11) c13 (by decide)
                          refine g_tabOut (t := 236) dX11_count_3 (by omega) (by decide) ?_
                          refine g_ldc (v := (-1000001)) dX11_count_236 wc_RX11_224 ?_
                          obtain ⟨rfl, rfl⟩ := so_inj h
                          exact g_iret dX11_count_238 rfl
theorem zX11_count {E : gE} {p1 : Int32} {r : Int32} {σ σ' : gS} (h : fX11_count p1 σ = some (r, σ')) : gC E mX11_count [.ref 168, .int p1] σ (some (.int r)) σ' :=
  gC_of (by decide +kernel) rfl (Nat.le_of_ble_eq_true rfl) (pX11_count h)
theorem fl_RX11_544 : gFl RX11 544 11 94 := ⟨RX11, TX11, 101, rfl, by decide, ux_11, Or.inl (gm 1322 (by decide +kernel) rfl)⟩
def mX11_status : gM := (yX11_status, cX11_status, RX11, 1, (some .int), 0, 0)
theorem dX11_status_0 : decode mX11_status.2.1 0 = .ok (.aload_n 0, 1) := by decide +kernel
theorem dX11_status_1 : decode mX11_status.2.1 1 = .ok (.getfield 544, 3) := by decide +kernel
theorem dX11_status_4 : decode mX11_status.2.1 4 = .ok (.ireturn, 1) := by decide +kernel
def fX11_status (σ : gS) : Option (Int32 × gS) :=
  some (σ.1 168 94, σ)
set_option maxHeartbeats 4000000 in
set_option maxRecDepth 100000 in
theorem pX11_status {E : gE} {r : Int32} {σ' : gS} {σ : gS} (h : fX11_status σ = some (r, σ')) : gG E mX11_status 0 [(0, .ref 168)] [] σ (some (.int r)) σ' := by
  unfold fX11_status at h
  refine g_aload_n dX11_status_0 rfl 0 rfl ?_
  refine g_getI dX11_status_1 gi_168 rfl fl_RX11_544 ?_
  obtain ⟨rfl, rfl⟩ := so_inj h
  exact g_iret dX11_status_4 rfl
theorem zX11_status {E : gE} {r : Int32} {σ σ' : gS} (h : fX11_status σ = some (r, σ')) : gC E mX11_status [.ref 168] σ (some (.int r)) σ' :=
  gC_of (by decide +kernel) rfl (Nat.le_of_ble_eq_true rfl) (pX11_status h)
theorem wl_RX11_588 : Cond.constantLong RX11 588 31 ∈ gWS := (gm 1936 (by decide +kernel) rfl)
theorem wl_RX11_586 : Cond.constantLong RX11 586 17 ∈ gWS := (gm 1935 (by decide +kernel) rfl)
def mX11_digest : gM := (yX11_digest, cX11_digest, RX11, 5, (some .long), 2, 48)
theorem dX11_digest_0 : decode mX11_digest.2.1 0 = .ok (.ldc2_w 586, 3) := by decide +kernel
theorem dX11_digest_3 : decode mX11_digest.2.1 3 = .ok (.lstore_n 1, 1) := by decide +kernel
theorem dX11_digest_4 : decode mX11_digest.2.1 4 = .ok (.iconst 0, 1) := by decide +kernel
theorem dX11_digest_5 : decode mX11_digest.2.1 5 = .ok (.istore_n 3, 1) := by decide +kernel
theorem dX11_digest_6 : decode mX11_digest.2.1 6 = .ok (.iload_n 3, 1) := by decide +kernel
theorem dX11_digest_7 : decode mX11_digest.2.1 7 = .ok (.aload_n 0, 1) := by decide +kernel
theorem dX11_digest_8 : decode mX11_digest.2.1 8 = .ok (.getfield 371, 3) := by decide +kernel
theorem dX11_digest_11 : decode mX11_digest.2.1 11 = .ok (.if_icmp .ge 51, 3) := by decide +kernel
theorem dX11_digest_14 : decode mX11_digest.2.1 14 = .ok (.ldc2_w 588, 3) := by decide +kernel
theorem dX11_digest_17 : decode mX11_digest.2.1 17 = .ok (.lload_n 1, 1) := by decide +kernel
theorem dX11_digest_18 : decode mX11_digest.2.1 18 = .ok (.lmul, 1) := by decide +kernel
theorem dX11_digest_19 : decode mX11_digest.2.1 19 = .ok (.aload_n 0, 1) := by decide +kernel
theorem dX11_digest_20 : decode mX11_digest.2.1 20 = .ok (.getfield 48, 3) := by decide +kernel
theorem dX11_digest_23 : decode mX11_digest.2.1 23 = .ok (.iload_n 3, 1) := by decide +kernel
theorem dX11_digest_24 : decode mX11_digest.2.1 24 = .ok (.iaload, 1) := by decide +kernel
theorem dX11_digest_25 : decode mX11_digest.2.1 25 = .ok (.i2l, 1) := by decide +kernel
theorem dX11_digest_26 : decode mX11_digest.2.1 26 = .ok (.ladd, 1) := by decide +kernel
theorem dX11_digest_27 : decode mX11_digest.2.1 27 = .ok (.lstore_n 1, 1) := by decide +kernel
theorem dX11_digest_28 : decode mX11_digest.2.1 28 = .ok (.ldc2_w 588, 3) := by decide +kernel
theorem dX11_digest_31 : decode mX11_digest.2.1 31 = .ok (.lload_n 1, 1) := by decide +kernel
theorem dX11_digest_32 : decode mX11_digest.2.1 32 = .ok (.lmul, 1) := by decide +kernel
theorem dX11_digest_33 : decode mX11_digest.2.1 33 = .ok (.aload_n 0, 1) := by decide +kernel
theorem dX11_digest_34 : decode mX11_digest.2.1 34 = .ok (.iload_n 3, 1) := by decide +kernel
theorem dX11_digest_35 : decode mX11_digest.2.1 35 = .ok (.iconst 2, 1) := by decide +kernel
theorem dX11_digest_36 : decode mX11_digest.2.1 36 = .ok (.invokevirtual 590, 3) := by decide +kernel
theorem dX11_digest_39 : decode mX11_digest.2.1 39 = .ok (.i2l, 1) := by decide +kernel
theorem dX11_digest_40 : decode mX11_digest.2.1 40 = .ok (.ladd, 1) := by decide +kernel
theorem dX11_digest_41 : decode mX11_digest.2.1 41 = .ok (.lstore_n 1, 1) := by decide +kernel
theorem dX11_digest_42 : decode mX11_digest.2.1 42 = .ok (.ldc2_w 588, 3) := by decide +kernel
theorem dX11_digest_45 : decode mX11_digest.2.1 45 = .ok (.lload_n 1, 1) := by decide +kernel
theorem dX11_digest_46 : decode mX11_digest.2.1 46 = .ok (.lmul, 1) := by decide +kernel
theorem dX11_digest_47 : decode mX11_digest.2.1 47 = .ok (.aload_n 0, 1) := by decide +kernel
theorem dX11_digest_48 : decode mX11_digest.2.1 48 = .ok (.iload_n 3, 1) := by decide +kernel
theorem dX11_digest_49 : decode mX11_digest.2.1 49 = .ok (.iconst 3, 1) := by decide +kernel
theorem dX11_digest_50 : decode mX11_digest.2.1 50 = .ok (.invokevirtual 590, 3) := by decide +kernel
theorem dX11_digest_53 : decode mX11_digest.2.1 53 = .ok (.i2l, 1) := by decide +kernel
theorem dX11_digest_54 : decode mX11_digest.2.1 54 = .ok (.ladd, 1) := by decide +kernel
theorem dX11_digest_55 : decode mX11_digest.2.1 55 = .ok (.lstore_n 1, 1) := by decide +kernel
theorem dX11_digest_56 : decode mX11_digest.2.1 56 = .ok (.iinc 3 1, 3) := by decide +kernel
theorem dX11_digest_59 : decode mX11_digest.2.1 59 = .ok (.goto (-53), 3) := by decide +kernel
theorem dX11_digest_62 : decode mX11_digest.2.1 62 = .ok (.iconst 0, 1) := by decide +kernel
theorem dX11_digest_63 : decode mX11_digest.2.1 63 = .ok (.istore_n 3, 1) := by decide +kernel
theorem dX11_digest_64 : decode mX11_digest.2.1 64 = .ok (.iload_n 3, 1) := by decide +kernel
theorem dX11_digest_65 : decode mX11_digest.2.1 65 = .ok (.bipush 8, 2) := by decide +kernel
theorem dX11_digest_67 : decode mX11_digest.2.1 67 = .ok (.if_icmp .ge 72, 3) := by decide +kernel
theorem dX11_digest_70 : decode mX11_digest.2.1 70 = .ok (.ldc2_w 588, 3) := by decide +kernel
theorem dX11_digest_73 : decode mX11_digest.2.1 73 = .ok (.lload_n 1, 1) := by decide +kernel
theorem dX11_digest_74 : decode mX11_digest.2.1 74 = .ok (.lmul, 1) := by decide +kernel
theorem dX11_digest_75 : decode mX11_digest.2.1 75 = .ok (.aload_n 0, 1) := by decide +kernel
theorem dX11_digest_76 : decode mX11_digest.2.1 76 = .ok (.getfield 206, 3) := by decide +kernel
theorem dX11_digest_79 : decode mX11_digest.2.1 79 = .ok (.iload_n 3, 1) := by decide +kernel
theorem dX11_digest_80 : decode mX11_digest.2.1 80 = .ok (.iaload, 1) := by decide +kernel
theorem dX11_digest_81 : decode mX11_digest.2.1 81 = .ok (.i2l, 1) := by decide +kernel
theorem dX11_digest_82 : decode mX11_digest.2.1 82 = .ok (.ladd, 1) := by decide +kernel
theorem dX11_digest_83 : decode mX11_digest.2.1 83 = .ok (.lstore_n 1, 1) := by decide +kernel
theorem dX11_digest_84 : decode mX11_digest.2.1 84 = .ok (.iconst 0, 1) := by decide +kernel
theorem dX11_digest_85 : decode mX11_digest.2.1 85 = .ok (.istore 4, 2) := by decide +kernel
theorem dX11_digest_87 : decode mX11_digest.2.1 87 = .ok (.iload 4, 2) := by decide +kernel
theorem dX11_digest_89 : decode mX11_digest.2.1 89 = .ok (.aload_n 0, 1) := by decide +kernel
theorem dX11_digest_90 : decode mX11_digest.2.1 90 = .ok (.getfield 209, 3) := by decide +kernel
theorem dX11_digest_93 : decode mX11_digest.2.1 93 = .ok (.iload_n 3, 1) := by decide +kernel
theorem dX11_digest_94 : decode mX11_digest.2.1 94 = .ok (.iaload, 1) := by decide +kernel
theorem dX11_digest_95 : decode mX11_digest.2.1 95 = .ok (.if_icmp .ge 38, 3) := by decide +kernel
theorem dX11_digest_98 : decode mX11_digest.2.1 98 = .ok (.aload_n 0, 1) := by decide +kernel
theorem dX11_digest_99 : decode mX11_digest.2.1 99 = .ok (.getfield 206, 3) := by decide +kernel
theorem dX11_digest_102 : decode mX11_digest.2.1 102 = .ok (.iload_n 3, 1) := by decide +kernel
theorem dX11_digest_103 : decode mX11_digest.2.1 103 = .ok (.iaload, 1) := by decide +kernel
theorem dX11_digest_104 : decode mX11_digest.2.1 104 = .ok (.ifCond .le 29, 3) := by decide +kernel
theorem dX11_digest_107 : decode mX11_digest.2.1 107 = .ok (.ldc2_w 588, 3) := by decide +kernel
theorem dX11_digest_110 : decode mX11_digest.2.1 110 = .ok (.lload_n 1, 1) := by decide +kernel
theorem dX11_digest_111 : decode mX11_digest.2.1 111 = .ok (.lmul, 1) := by decide +kernel
theorem dX11_digest_112 : decode mX11_digest.2.1 112 = .ok (.aload_n 0, 1) := by decide +kernel
theorem dX11_digest_113 : decode mX11_digest.2.1 113 = .ok (.getfield 212, 3) := by decide +kernel
theorem dX11_digest_116 : decode mX11_digest.2.1 116 = .ok (.sipush 300, 3) := by decide +kernel
theorem dX11_digest_119 : decode mX11_digest.2.1 119 = .ok (.iload_n 3, 1) := by decide +kernel
theorem dX11_digest_120 : decode mX11_digest.2.1 120 = .ok (.imul, 1) := by decide +kernel
theorem dX11_digest_121 : decode mX11_digest.2.1 121 = .ok (.iload 4, 2) := by decide +kernel
theorem dX11_digest_123 : decode mX11_digest.2.1 123 = .ok (.iadd, 1) := by decide +kernel
theorem dX11_digest_124 : decode mX11_digest.2.1 124 = .ok (.laload, 1) := by decide +kernel
theorem dX11_digest_125 : decode mX11_digest.2.1 125 = .ok (.ladd, 1) := by decide +kernel
theorem dX11_digest_126 : decode mX11_digest.2.1 126 = .ok (.lstore_n 1, 1) := by decide +kernel
theorem dX11_digest_127 : decode mX11_digest.2.1 127 = .ok (.iinc 4 1, 3) := by decide +kernel
theorem dX11_digest_130 : decode mX11_digest.2.1 130 = .ok (.goto (-43), 3) := by decide +kernel
theorem dX11_digest_133 : decode mX11_digest.2.1 133 = .ok (.iinc 3 1, 3) := by decide +kernel
theorem dX11_digest_136 : decode mX11_digest.2.1 136 = .ok (.goto (-72), 3) := by decide +kernel
theorem dX11_digest_139 : decode mX11_digest.2.1 139 = .ok (.lload_n 1, 1) := by decide +kernel
theorem dX11_digest_140 : decode mX11_digest.2.1 140 = .ok (.lreturn, 1) := by decide +kernel
theorem okX11_digest_590 : gOkV mX11_digest mX11_part 590 2 := ⟨List.forall_mem_cons.mpr ⟨(gm 1685 (by decide +kernel) rfl), List.forall_mem_cons.mpr ⟨(gm 1937 (by decide +kernel) rfl), List.forall_mem_cons.mpr ⟨(gm 1683 (by decide +kernel) rfl), List.forall_mem_cons.mpr ⟨(gm 1684 (by decide +kernel) rfl), List.forall_mem_cons.mpr ⟨(gm 122 (by decide +kernel) rfl), fun _ h => absurd h List.not_mem_nil⟩⟩⟩⟩⟩, by decide +kernel, by decide +kernel, by decide +kernel⟩
def fX11_digest_133 (k64 : Int64 → Int32 → gS → Option (Int64 × gS)) (v1 : Int64) (v3 : Int32) (σ : gS) : Option (Int64 × gS) :=
  bnd (v3 + 1) fun x1 =>
  k64 v1 x1 σ
set_option maxHeartbeats 4000000 in
set_option maxRecDepth 100000 in
theorem pX11_digest_133 {E : gE} {k64 : Int64 → Int32 → gS → Option (Int64 × gS)} {r : Int64} {σ' : gS} {v1 : Int64} {v3 : Int32} {σ : gS} (hk64 : ∀ (v1 : Int64) (v3 : Int32) (σ : gS), k64 v1 v3 σ = some (r, σ') → gG E mX11_digest 64 [(0, .ref 168), (1, .long v1), (3, .int v3)] [] σ (some (.long r)) σ') (h : fX11_digest_133 k64 v1 v3 σ = some (r, σ')) : gG E mX11_digest 133 [(0, .ref 168), (1, .long v1), (3, .int v3)] [] σ (some (.long r)) σ' := by
  unfold fX11_digest_133 at h
  obtain ⟨x1, ex1, h⟩ := bnd_nm h
  refine g_iinc (j := 2) (v := x1) (lv' := [(3, .int x1), (0, .ref 168), (1, .long v1)]) dX11_digest_133 rfl (by rw [ex1]; rfl) (Nat.le_of_ble_eq_true rfl) rfl ?_
  refine g_goto (t := 64) dX11_digest_136 (by decide) ?_
  refine g_sub [1, 2, 0] rfl ?_
  exact hk64 v1 x1 σ h
def fX11_digest_87 (k64 : Int64 → Int32 → gS → Option (Int64 × gS)) : Nat → Int64 → Int32 → Int32 → gS → Option (Int64 × gS)
  | 0, _, _, _, _ => none
  | n + 1, v1, v3, v4, σ => gg (¬ (v3 < 0 ∨ 8 ≤ v3.toNatClampNeg)) (
  if (σ.1 230 v3.toNatClampNeg) ≤ v4 then
    fX11_digest_133 k64 v1 v3 σ
  else
    gg (¬ (v3 < 0 ∨ 8 ≤ v3.toNatClampNeg)) (
    if (σ.1 229 v3.toNatClampNeg) ≤ 0 then
      fX11_digest_133 k64 v1 v3 σ
    else
      bnd ((300 * v3) + v4) fun x5 =>
      gg (¬ (x5 < 0 ∨ 2400 ≤ x5.toNatClampNeg)) (
      bnd ((31 * v1) + (σ.2.1 231 x5.toNatClampNeg)) fun x7 =>
      bnd (v4 + 1) fun x8 =>
      fX11_digest_87 k64 n x7 v3 x8 σ)))
set_option maxHeartbeats 4000000 in
set_option maxRecDepth 100000 in
theorem pX11_digest_87 {E : gE} {k64 : Int64 → Int32 → gS → Option (Int64 × gS)} {r : Int64} {σ' : gS} (hk64 : ∀ (v1 : Int64) (v3 : Int32) (σ : gS), k64 v1 v3 σ = some (r, σ') → gG E mX11_digest 64 [(0, .ref 168), (1, .long v1), (3, .int v3)] [] σ (some (.long r)) σ') : ∀ (n : Nat) (v1 : Int64) (v3 : Int32) (v4 : Int32) (σ : gS), fX11_digest_87 k64 n v1 v3 v4 σ = some (r, σ') → gG E mX11_digest 87 [(0, .ref 168), (1, .long v1), (3, .int v3), (4, .int v4)] [] σ (some (.long r)) σ' := by
  intro n
  induction n with
  | zero => intro v1 v3 v4 σ h; exact absurd (show none = some (r, σ') from h) (by intro q; cases q)
  | succ n ih =>
  intro v1 v3 v4 σ h
  unfold fX11_digest_87 at h
  refine g_iload dX11_digest_87 3 rfl ?_
  refine g_aload_n dX11_digest_89 rfl 0 rfl ?_
  refine g_getC (n := 230) dX11_digest_90 gi_168 rfl fl_RX11_209 ?_
  refine g_iload_n dX11_digest_93 rfl 2 rfl ?_
  obtain ⟨g1, h⟩ := gg_some h
  refine g_iald dX11_digest_94 gi_230 g1 ?_
  refine g_icmp_ge (t := 133) dX11_digest_95 (by decide) (fun c2 => ?_) (fun c2 => ?_)
  · replace h := if_t h c2
    refine g_sub [0, 1, 2] rfl ?_
    exact pX11_digest_133 hk64 h
  · replace h := if_f h c2
    refine g_aload_n dX11_digest_98 rfl 0 rfl ?_
    refine g_getC (n := 229) dX11_digest_99 gi_168 rfl fl_RX11_206 ?_
    refine g_iload_n dX11_digest_102 rfl 2 rfl ?_
    obtain ⟨g3, h⟩ := gg_some h
    refine g_iald dX11_digest_103 gi_229 g3 ?_
    refine g_if_le (t := 133) dX11_digest_104 (by decide) (fun c4 => ?_) (fun c4 => ?_)
    · replace h := if_t h c4
      refine g_sub [0, 1, 2] rfl ?_
      exact pX11_digest_133 hk64 h
    · replace h := if_f h c4
      refine g_ldc2 (v := 31) dX11_digest_107 wl_RX11_588 ?_
      refine g_lload_n dX11_digest_110 rfl 1 rfl ?_
      refine g_lmul dX11_digest_111 ?_
      refine g_aload_n dX11_digest_112 rfl 0 rfl ?_
      refine g_getC (n := 231) dX11_digest_113 gi_168 rfl fl_RX11_212 ?_
      refine g_sipush (v := 300) dX11_digest_116 (by decide) ?_
      refine g_iload_n dX11_digest_119 rfl 2 rfl ?_
      refine g_imul dX11_digest_120 ?_
      refine g_iload dX11_digest_121 3 rfl ?_
      refine g_iadd dX11_digest_123 ?_
      obtain ⟨x5, ex5, h⟩ := bnd_nm h
      refine g_topi ex5 ?_
      obtain ⟨g6, h⟩ := gg_some h
      refine g_lald dX11_digest_124 gi_231 g6 ?_
      refine g_ladd dX11_digest_125 ?_
      obtain ⟨x7, ex7, h⟩ := bnd_nm h
      refine g_topl ex7 ?_
      refine g_lstore_n (lv' := [(1, .long x7), (0, .ref 168), (3, .int v3), (4, .int v4)]) dX11_digest_126 rfl (Nat.le_of_ble_eq_true rfl) rfl ?_
      obtain ⟨x8, ex8, h⟩ := bnd_nm h
      refine g_iinc (j := 3) (v := x8) (lv' := [(4, .int x8), (1, .long x7), (0, .ref 168), (3, .int v3)]) dX11_digest_127 rfl (by rw [ex8]; rfl) (Nat.le_of_ble_eq_true rfl) rfl ?_
      refine g_goto (t := 87) dX11_digest_130 (by decide) ?_
      refine g_sub [2, 1, 3, 0] rfl ?_
      exact ih x7 v3 x8 σ h
def fX11_digest_64 : Nat → Int64 → Int32 → gS → Option (Int64 × gS)
  | 0, _, _, _ => none
  | n + 1, v1, v3, σ => if 8 ≤ v3 then
    some (v1, σ)
  else
    gg (¬ (v3 < 0 ∨ 8 ≤ v3.toNatClampNeg)) (
    bnd ((31 * v1) + ((σ.1 229 v3.toNatClampNeg).toInt64)) fun x3 =>
    fX11_digest_87 (fun v1 v3 σ => fX11_digest_64 n v1 v3 σ) 2000 x3 v3 0 σ)
set_option maxHeartbeats 4000000 in
set_option maxRecDepth 100000 in
theorem pX11_digest_64 {E : gE} {r : Int64} {σ' : gS} : ∀ (n : Nat) (v1 : Int64) (v3 : Int32) (σ : gS), fX11_digest_64 n v1 v3 σ = some (r, σ') → gG E mX11_digest 64 [(0, .ref 168), (1, .long v1), (3, .int v3)] [] σ (some (.long r)) σ' := by
  intro n
  induction n with
  | zero => intro v1 v3 σ h; exact absurd (show none = some (r, σ') from h) (by intro q; cases q)
  | succ n ih =>
  intro v1 v3 σ h
  unfold fX11_digest_64 at h
  refine g_iload_n dX11_digest_64 rfl 2 rfl ?_
  refine g_bipush (v := 8) dX11_digest_65 (by decide) ?_
  refine g_icmp_ge (t := 139) dX11_digest_67 (by decide) (fun c1 => ?_) (fun c1 => ?_)
  · replace h := if_t h c1
    refine g_lload_n dX11_digest_139 rfl 1 rfl ?_
    obtain ⟨rfl, rfl⟩ := so_inj h
    exact g_lret dX11_digest_140 rfl
  · replace h := if_f h c1
    refine g_ldc2 (v := 31) dX11_digest_70 wl_RX11_588 ?_
    refine g_lload_n dX11_digest_73 rfl 1 rfl ?_
    refine g_lmul dX11_digest_74 ?_
    refine g_aload_n dX11_digest_75 rfl 0 rfl ?_
    refine g_getC (n := 229) dX11_digest_76 gi_168 rfl fl_RX11_206 ?_
    refine g_iload_n dX11_digest_79 rfl 2 rfl ?_
    obtain ⟨g2, h⟩ := gg_some h
    refine g_iald dX11_digest_80 gi_229 g2 ?_
    refine g_i2l dX11_digest_81 ?_
    refine g_ladd dX11_digest_82 ?_
    obtain ⟨x3, ex3, h⟩ := bnd_nm h
    refine g_topl ex3 ?_
    refine g_lstore_n (lv' := [(1, .long x3), (0, .ref 168), (3, .int v3)]) dX11_digest_83 rfl (Nat.le_of_ble_eq_true rfl) rfl ?_
    refine g_iconst (v := 0) dX11_digest_84 (by decide) ?_
    refine g_istore (lv' := [(4, .int 0), (1, .long x3), (0, .ref 168), (3, .int v3)]) dX11_digest_85 (Nat.le_of_ble_eq_true rfl) rfl ?_
    refine g_sub [2, 1, 3, 0] rfl ?_
    exact pX11_digest_87 (fun v1 v3 σ h => ih v1 v3 σ h) 2000 x3 v3 0 σ h
def fX11_digest_6 : Nat → Int64 → Int32 → gS → Option (Int64 × gS)
  | 0, _, _, _ => none
  | n + 1, v1, v3, σ => if (σ.1 168 16) ≤ v3 then
    fX11_digest_64 2000 v1 0 σ
  else
    gg (¬ (v3 < 0 ∨ 130 ≤ v3.toNatClampNeg)) (
    bnd ((31 * v1) + ((σ.1 181 v3.toNatClampNeg).toInt64)) fun x3 =>
    bd (fX11_part v3 2 σ) fun x4 σ5 =>
    bnd ((31 * x3) + x4.toInt64) fun x7 =>
    bd (fX11_part v3 3 σ5) fun x8 σ9 =>
    bnd ((31 * x7) + x8.toInt64) fun x11 =>
    bnd (v3 + 1) fun x12 =>
    fX11_digest_6 n x11 x12 σ9)
set_option maxHeartbeats 4000000 in
set_option maxRecDepth 100000 in
theorem pX11_digest_6 {E : gE} {r : Int64} {σ' : gS} : ∀ (n : Nat) (v1 : Int64) (v3 : Int32) (σ : gS), fX11_digest_6 n v1 v3 σ = some (r, σ') → gG E mX11_digest 6 [(0, .ref 168), (1, .long v1), (3, .int v3)] [] σ (some (.long r)) σ' := by
  intro n
  induction n with
  | zero => intro v1 v3 σ h; exact absurd (show none = some (r, σ') from h) (by intro q; cases q)
  | succ n ih =>
  intro v1 v3 σ h
  unfold fX11_digest_6 at h
  refine g_iload_n dX11_digest_6 rfl 2 rfl ?_
  refine g_aload_n dX11_digest_7 rfl 0 rfl ?_
  refine g_getI dX11_digest_8 gi_168 rfl fl_RX11_371 ?_
  refine g_icmp_ge (t := 62) dX11_digest_11 (by decide) (fun c1 => ?_) (fun c1 => ?_)
  · replace h := if_t h c1
    refine g_iconst (v := 0) dX11_digest_62 (by decide) ?_
    refine g_istore_n (lv' := [(3, .int 0), (0, .ref 168), (1, .long v1)]) dX11_digest_63 rfl (Nat.le_of_ble_eq_true rfl) rfl ?_
    refine g_sub [1, 2, 0] rfl ?_
    exact pX11_digest_64 2000 v1 0 σ h
  · replace h := if_f h c1
    refine g_ldc2 (v := 31) dX11_digest_14 wl_RX11_588 ?_
    refine g_lload_n dX11_digest_17 rfl 1 rfl ?_
    refine g_lmul dX11_digest_18 ?_
    refine g_aload_n dX11_digest_19 rfl 0 rfl ?_
    refine g_getC (n := 181) dX11_digest_20 gi_168 rfl fl_RX11_48 ?_
    refine g_iload_n dX11_digest_23 rfl 2 rfl ?_
    obtain ⟨g2, h⟩ := gg_some h
    refine g_iald dX11_digest_24 gi_181 g2 ?_
    refine g_i2l dX11_digest_25 ?_
    refine g_ladd dX11_digest_26 ?_
    obtain ⟨x3, ex3, h⟩ := bnd_nm h
    refine g_topl ex3 ?_
    refine g_lstore_n (lv' := [(1, .long x3), (0, .ref 168), (3, .int v3)]) dX11_digest_27 rfl (Nat.le_of_ble_eq_true rfl) rfl ?_
    refine g_ldc2 (v := 31) dX11_digest_28 wl_RX11_588 ?_
    refine g_lload_n dX11_digest_31 rfl 0 rfl ?_
    refine g_lmul dX11_digest_32 ?_
    refine g_aload_n dX11_digest_33 rfl 1 rfl ?_
    refine g_iload_n dX11_digest_34 rfl 2 rfl ?_
    refine g_iconst (v := 2) dX11_digest_35 (by decide) ?_
    obtain ⟨x4, σ5, y6, h⟩ := bd_some h
    refine g_callVr (as := [.int v3, .int 2]) (st := [.long (31 * x3)]) (zX11_part y6) dX11_digest_36 gi_168 rfl okX11_digest_590 (Nat.le_of_ble_eq_true rfl) ?_
    refine g_i2l dX11_digest_39 ?_
    refine g_ladd dX11_digest_40 ?_
    obtain ⟨x7, ex7, h⟩ := bnd_nm h
    refine g_topl ex7 ?_
    refine g_lstore_n (lv' := [(1, .long x7), (0, .ref 168), (3, .int v3)]) dX11_digest_41 rfl (Nat.le_of_ble_eq_true rfl) rfl ?_
    refine g_ldc2 (v := 31) dX11_digest_42 wl_RX11_588 ?_
    refine g_lload_n dX11_digest_45 rfl 0 rfl ?_
    refine g_lmul dX11_digest_46 ?_
    refine g_aload_n dX11_digest_47 rfl 1 rfl ?_
    refine g_iload_n dX11_digest_48 rfl 2 rfl ?_
    refine g_iconst (v := 3) dX11_digest_49 (by decide) ?_
    obtain ⟨x8, σ9, y10, h⟩ := bd_some h
    refine g_callVr (as := [.int v3, .int 3]) (st := [.long (31 * x7)]) (zX11_part y10) dX11_digest_50 gi_168 rfl okX11_digest_590 (Nat.le_of_ble_eq_true rfl) ?_
    refine g_i2l dX11_digest_53 ?_
    refine g_ladd dX11_digest_54 ?_
    obtain ⟨x11, ex11, h⟩ := bnd_nm h
    refine g_topl ex11 ?_
    refine g_lstore_n (lv' := [(1, .long x11), (0, .ref 168), (3, .int v3)]) dX11_digest_55 rfl (Nat.le_of_ble_eq_true rfl) rfl ?_
    obtain ⟨x12, ex12, h⟩ := bnd_nm h
    refine g_iinc (j := 2) (v := x12) (lv' := [(3, .int x12), (1, .long x11), (0, .ref 168)]) dX11_digest_56 rfl (by rw [ex12]; rfl) (Nat.le_of_ble_eq_true rfl) rfl ?_
    refine g_goto (t := 6) dX11_digest_59 (by decide) ?_
    refine g_sub [2, 1, 0] rfl ?_
    exact ih x11 x12 σ9 h
def fX11_digest (σ : gS) : Option (Int64 × gS) :=
  fX11_digest_6 2000 17 0 σ
set_option maxHeartbeats 4000000 in
set_option maxRecDepth 100000 in
theorem pX11_digest {E : gE} {r : Int64} {σ' : gS} {σ : gS} (h : fX11_digest σ = some (r, σ')) : gG E mX11_digest 0 [(0, .ref 168)] [] σ (some (.long r)) σ' := by
  unfold fX11_digest at h
  refine g_ldc2 (v := 17) dX11_digest_0 wl_RX11_586 ?_
  refine g_lstore_n (lv' := [(1, .long 17), (0, .ref 168)]) dX11_digest_3 rfl (Nat.le_of_ble_eq_true rfl) rfl ?_
  refine g_iconst (v := 0) dX11_digest_4 (by decide) ?_
  refine g_istore_n (lv' := [(3, .int 0), (1, .long 17), (0, .ref 168)]) dX11_digest_5 rfl (Nat.le_of_ble_eq_true rfl) rfl ?_
  refine g_sub [2, 1, 0] rfl ?_
  exact pX11_digest_6 2000 17 0 σ h
theorem zX11_digest {E : gE} {r : Int64} {σ σ' : gS} (h : fX11_digest σ = some (r, σ')) : gC E mX11_digest [.ref 168] σ (some (.long r)) σ' :=
  gC_of (by decide +kernel) rfl (Nat.le_of_ble_eq_true rfl) (pX11_digest h)
